section
-- ===== PART A: goes FIRST, ahead of the names: the tables' words, and 'selects' of the private methods out of them =====
/-- a private method of a class that the tables say can be made, by its rows of tables_1 -/
def lw_okq (q : MethodName × Nat) : Prop := (q.1.cls ≠ "java/lang/invoke/MethodHandle" ∧ q.1.cls ≠ "java/lang/invoke/VarHandle") ∧ Cond.instantiable q.1.cls q.2 ∈ tables_1 ∧ Cond.privateMethod q.1 ∈ tables_1 ∧ Cond.instanceMethod q.1 ∈ tables_1
theorem lw_p0 : lw_okq (⟨"TenantPlacement$Planner", "noteSound", "(I)V"⟩, 2) := ⟨⟨by decide +kernel, by decide +kernel⟩, List.mem_of_getElem? (i := 33) (by decide +kernel), List.mem_of_getElem? (i := 142) (by decide +kernel), List.mem_of_getElem? (i := 143) (by decide +kernel)⟩
theorem lw_p1 : lw_okq (⟨"java/lang/Throwable", "fillInStackTrace", "(I)Ljava/lang/Throwable;"⟩, 6) := ⟨⟨by decide +kernel, by decide +kernel⟩, List.mem_of_getElem? (i := 231) (by decide +kernel), List.mem_of_getElem? (i := 229) (by decide +kernel), List.mem_of_getElem? (i := 230) (by decide +kernel)⟩
theorem lw_p2 : lw_okq (⟨"TenantPlacement", "knownShard", "(I)LTenantPlacement$Shard;"⟩, 8) := ⟨⟨by decide +kernel, by decide +kernel⟩, List.mem_of_getElem? (i := 21) (by decide +kernel), List.mem_of_getElem? (i := 355) (by decide +kernel), List.mem_of_getElem? (i := 356) (by decide +kernel)⟩
theorem lw_p3 : lw_okq (⟨"TenantPlacement", "shardOrNull", "(I)LTenantPlacement$Shard;"⟩, 8) := ⟨⟨by decide +kernel, by decide +kernel⟩, List.mem_of_getElem? (i := 21) (by decide +kernel), List.mem_of_getElem? (i := 359) (by decide +kernel), List.mem_of_getElem? (i := 360) (by decide +kernel)⟩
theorem lw_p4 : lw_okq (⟨"TenantPlacement", "countUse", "(LTenantPlacement$Tenant;I)V"⟩, 8) := ⟨⟨by decide +kernel, by decide +kernel⟩, List.mem_of_getElem? (i := 21) (by decide +kernel), List.mem_of_getElem? (i := 470) (by decide +kernel), List.mem_of_getElem? (i := 471) (by decide +kernel)⟩
theorem lw_p5 : lw_okq (⟨"TenantPlacement", "knownTenant", "(I)LTenantPlacement$Tenant;"⟩, 8) := ⟨⟨by decide +kernel, by decide +kernel⟩, List.mem_of_getElem? (i := 21) (by decide +kernel), List.mem_of_getElem? (i := 498) (by decide +kernel), List.mem_of_getElem? (i := 499) (by decide +kernel)⟩
theorem lw_p6 : lw_okq (⟨"TenantPlacement", "isBarred", "(ILTenantPlacement$Tenant;)Z"⟩, 8) := ⟨⟨by decide +kernel, by decide +kernel⟩, List.mem_of_getElem? (i := 21) (by decide +kernel), List.mem_of_getElem? (i := 542) (by decide +kernel), List.mem_of_getElem? (i := 543) (by decide +kernel)⟩
theorem lw_p7 : lw_okq (⟨"TenantPlacement", "canGoBack", "(LTenantPlacement$Tenant;)Z"⟩, 8) := ⟨⟨by decide +kernel, by decide +kernel⟩, List.mem_of_getElem? (i := 21) (by decide +kernel), List.mem_of_getElem? (i := 571) (by decide +kernel), List.mem_of_getElem? (i := 572) (by decide +kernel)⟩
theorem lw_p8 : lw_okq (⟨"TenantPlacement", "goBack", "(LTenantPlacement$Tenant;)V"⟩, 8) := ⟨⟨by decide +kernel, by decide +kernel⟩, List.mem_of_getElem? (i := 21) (by decide +kernel), List.mem_of_getElem? (i := 579) (by decide +kernel), List.mem_of_getElem? (i := 580) (by decide +kernel)⟩
theorem lw_p9 : lw_okq (⟨"TenantPlacement", "noteHoursOver", "()V"⟩, 8) := ⟨⟨by decide +kernel, by decide +kernel⟩, List.mem_of_getElem? (i := 21) (by decide +kernel), List.mem_of_getElem? (i := 599) (by decide +kernel), List.mem_of_getElem? (i := 600) (by decide +kernel)⟩
theorem lw_p10 : lw_okq (⟨"TenantPlacement", "goOnWithMoves", "()I"⟩, 8) := ⟨⟨by decide +kernel, by decide +kernel⟩, List.mem_of_getElem? (i := 21) (by decide +kernel), List.mem_of_getElem? (i := 607) (by decide +kernel), List.mem_of_getElem? (i := 608) (by decide +kernel)⟩
theorem lw_p11 : lw_okq (⟨"TenantPlacement", "goOn", "(LTenantPlacement$Tenant;)Z"⟩, 8) := ⟨⟨by decide +kernel, by decide +kernel⟩, List.mem_of_getElem? (i := 21) (by decide +kernel), List.mem_of_getElem? (i := 611) (by decide +kernel), List.mem_of_getElem? (i := 612) (by decide +kernel)⟩
theorem lw_p12 : lw_okq (⟨"TenantPlacement", "growStorage", "()V"⟩, 8) := ⟨⟨by decide +kernel, by decide +kernel⟩, List.mem_of_getElem? (i := 21) (by decide +kernel), List.mem_of_getElem? (i := 628) (by decide +kernel), List.mem_of_getElem? (i := 629) (by decide +kernel)⟩
theorem lw_p13 : lw_okq (⟨"TenantPlacement", "movingTenant", "(I)LTenantPlacement$Tenant;"⟩, 8) := ⟨⟨by decide +kernel, by decide +kernel⟩, List.mem_of_getElem? (i := 21) (by decide +kernel), List.mem_of_getElem? (i := 648) (by decide +kernel), List.mem_of_getElem? (i := 649) (by decide +kernel)⟩
theorem lw_p14 : lw_okq (⟨"TenantPlacementModel", "fails", "(I)Z"⟩, 23) := ⟨⟨by decide +kernel, by decide +kernel⟩, List.mem_of_getElem? (i := 795) (by decide +kernel), List.mem_of_getElem? (i := 884) (by decide +kernel), List.mem_of_getElem? (i := 885) (by decide +kernel)⟩
theorem lw_p15 : lw_okq (⟨"TenantPlacementModel", "isNoShard", "(I)Z"⟩, 23) := ⟨⟨by decide +kernel, by decide +kernel⟩, List.mem_of_getElem? (i := 795) (by decide +kernel), List.mem_of_getElem? (i := 892) (by decide +kernel), List.mem_of_getElem? (i := 893) (by decide +kernel)⟩
def lw_privs_1 : List (MethodName × Nat) := [(⟨"TenantPlacement$Planner", "noteSound", "(I)V"⟩, 2), (⟨"java/lang/Throwable", "fillInStackTrace", "(I)Ljava/lang/Throwable;"⟩, 6), (⟨"TenantPlacement", "knownShard", "(I)LTenantPlacement$Shard;"⟩, 8), (⟨"TenantPlacement", "shardOrNull", "(I)LTenantPlacement$Shard;"⟩, 8), (⟨"TenantPlacement", "countUse", "(LTenantPlacement$Tenant;I)V"⟩, 8), (⟨"TenantPlacement", "knownTenant", "(I)LTenantPlacement$Tenant;"⟩, 8), (⟨"TenantPlacement", "isBarred", "(ILTenantPlacement$Tenant;)Z"⟩, 8), (⟨"TenantPlacement", "canGoBack", "(LTenantPlacement$Tenant;)Z"⟩, 8), (⟨"TenantPlacement", "goBack", "(LTenantPlacement$Tenant;)V"⟩, 8), (⟨"TenantPlacement", "noteHoursOver", "()V"⟩, 8), (⟨"TenantPlacement", "goOnWithMoves", "()I"⟩, 8), (⟨"TenantPlacement", "goOn", "(LTenantPlacement$Tenant;)Z"⟩, 8), (⟨"TenantPlacement", "growStorage", "()V"⟩, 8), (⟨"TenantPlacement", "movingTenant", "(I)LTenantPlacement$Tenant;"⟩, 8), (⟨"TenantPlacementModel", "fails", "(I)Z"⟩, 23), (⟨"TenantPlacementModel", "isNoShard", "(I)Z"⟩, 23)]
theorem lw_r1 : ∀ q ∈ lw_privs_1, lw_okq q := List.forall_mem_cons.mpr ⟨lw_p0, List.forall_mem_cons.mpr ⟨lw_p1, List.forall_mem_cons.mpr ⟨lw_p2, List.forall_mem_cons.mpr ⟨lw_p3, List.forall_mem_cons.mpr ⟨lw_p4, List.forall_mem_cons.mpr ⟨lw_p5, List.forall_mem_cons.mpr ⟨lw_p6, List.forall_mem_cons.mpr ⟨lw_p7, List.forall_mem_cons.mpr ⟨lw_p8, List.forall_mem_cons.mpr ⟨lw_p9, List.forall_mem_cons.mpr ⟨lw_p10, List.forall_mem_cons.mpr ⟨lw_p11, List.forall_mem_cons.mpr ⟨lw_p12, List.forall_mem_cons.mpr ⟨lw_p13, List.forall_mem_cons.mpr ⟨lw_p14, List.forall_mem_cons.mpr ⟨lw_p15, fun _ h => absurd h List.not_mem_nil⟩⟩⟩⟩⟩⟩⟩⟩⟩⟩⟩⟩⟩⟩⟩⟩
theorem lw_p16 : lw_okq (⟨"TenantPlacementModel", "isFull", "(III)Z"⟩, 23) := ⟨⟨by decide +kernel, by decide +kernel⟩, List.mem_of_getElem? (i := 795) (by decide +kernel), List.mem_of_getElem? (i := 907) (by decide +kernel), List.mem_of_getElem? (i := 908) (by decide +kernel)⟩
theorem lw_p17 : lw_okq (⟨"TenantPlacementModel", "use", "(II)I"⟩, 23) := ⟨⟨by decide +kernel, by decide +kernel⟩, List.mem_of_getElem? (i := 795) (by decide +kernel), List.mem_of_getElem? (i := 911) (by decide +kernel), List.mem_of_getElem? (i := 912) (by decide +kernel)⟩
theorem lw_p18 : lw_okq (⟨"TenantPlacementModel", "isPresent", "(II)Z"⟩, 23) := ⟨⟨by decide +kernel, by decide +kernel⟩, List.mem_of_getElem? (i := 795) (by decide +kernel), List.mem_of_getElem? (i := 915) (by decide +kernel), List.mem_of_getElem? (i := 916) (by decide +kernel)⟩
theorem lw_p19 : lw_okq (⟨"TenantPlacementModel", "isComing", "(II)Z"⟩, 23) := ⟨⟨by decide +kernel, by decide +kernel⟩, List.mem_of_getElem? (i := 795) (by decide +kernel), List.mem_of_getElem? (i := 919) (by decide +kernel), List.mem_of_getElem? (i := 920) (by decide +kernel)⟩
theorem lw_p20 : lw_okq (⟨"TenantPlacementModel", "isNoTenant", "(I)Z"⟩, 23) := ⟨⟨by decide +kernel, by decide +kernel⟩, List.mem_of_getElem? (i := 795) (by decide +kernel), List.mem_of_getElem? (i := 927) (by decide +kernel), List.mem_of_getElem? (i := 928) (by decide +kernel)⟩
theorem lw_p21 : lw_okq (⟨"TenantPlacementModel", "areApart", "(II)Z"⟩, 23) := ⟨⟨by decide +kernel, by decide +kernel⟩, List.mem_of_getElem? (i := 795) (by decide +kernel), List.mem_of_getElem? (i := 939) (by decide +kernel), List.mem_of_getElem? (i := 940) (by decide +kernel)⟩
theorem lw_p22 : lw_okq (⟨"TenantPlacementModel", "why", "(II)C"⟩, 23) := ⟨⟨by decide +kernel, by decide +kernel⟩, List.mem_of_getElem? (i := 795) (by decide +kernel), List.mem_of_getElem? (i := 947) (by decide +kernel), List.mem_of_getElem? (i := 948) (by decide +kernel)⟩
theorem lw_p23 : lw_okq (⟨"TenantPlacementModel", "isBarred", "(II)Z"⟩, 23) := ⟨⟨by decide +kernel, by decide +kernel⟩, List.mem_of_getElem? (i := 795) (by decide +kernel), List.mem_of_getElem? (i := 951) (by decide +kernel), List.mem_of_getElem? (i := 952) (by decide +kernel)⟩
theorem lw_p24 : lw_okq (⟨"TenantPlacementModel", "hasRoom", "(III)Z"⟩, 23) := ⟨⟨by decide +kernel, by decide +kernel⟩, List.mem_of_getElem? (i := 795) (by decide +kernel), List.mem_of_getElem? (i := 955) (by decide +kernel), List.mem_of_getElem? (i := 956) (by decide +kernel)⟩
theorem lw_p25 : lw_okq (⟨"TenantPlacementModel", "underWay", "()I"⟩, 23) := ⟨⟨by decide +kernel, by decide +kernel⟩, List.mem_of_getElem? (i := 795) (by decide +kernel), List.mem_of_getElem? (i := 959) (by decide +kernel), List.mem_of_getElem? (i := 960) (by decide +kernel)⟩
theorem lw_p26 : lw_okq (⟨"TenantPlacementModel", "hour", "()I"⟩, 23) := ⟨⟨by decide +kernel, by decide +kernel⟩, List.mem_of_getElem? (i := 795) (by decide +kernel), List.mem_of_getElem? (i := 975) (by decide +kernel), List.mem_of_getElem? (i := 976) (by decide +kernel)⟩
theorem lw_p27 : lw_okq (⟨"TenantPlacementModel", "isTooMuch", "(I)Z"⟩, 23) := ⟨⟨by decide +kernel, by decide +kernel⟩, List.mem_of_getElem? (i := 795) (by decide +kernel), List.mem_of_getElem? (i := 979) (by decide +kernel), List.mem_of_getElem? (i := 980) (by decide +kernel)⟩
theorem lw_p28 : lw_okq (⟨"TenantPlacementModel", "goesOn", "(I)Z"⟩, 23) := ⟨⟨by decide +kernel, by decide +kernel⟩, List.mem_of_getElem? (i := 795) (by decide +kernel), List.mem_of_getElem? (i := 983) (by decide +kernel), List.mem_of_getElem? (i := 984) (by decide +kernel)⟩
theorem lw_p29 : lw_okq (⟨"TenantPlacementModel", "isInWindow", "(II)Z"⟩, 23) := ⟨⟨by decide +kernel, by decide +kernel⟩, List.mem_of_getElem? (i := 795) (by decide +kernel), List.mem_of_getElem? (i := 987) (by decide +kernel), List.mem_of_getElem? (i := 988) (by decide +kernel)⟩
theorem lw_p30 : lw_okq (⟨"TenantPlacementModel", "tells", "(I)I"⟩, 23) := ⟨⟨by decide +kernel, by decide +kernel⟩, List.mem_of_getElem? (i := 795) (by decide +kernel), List.mem_of_getElem? (i := 995) (by decide +kernel), List.mem_of_getElem? (i := 996) (by decide +kernel)⟩
theorem lw_p31 : lw_okq (⟨"TenantPlacementModel", "hasNoMove", "(I)Z"⟩, 23) := ⟨⟨by decide +kernel, by decide +kernel⟩, List.mem_of_getElem? (i := 795) (by decide +kernel), List.mem_of_getElem? (i := 1007) (by decide +kernel), List.mem_of_getElem? (i := 1008) (by decide +kernel)⟩
def lw_privs_2 : List (MethodName × Nat) := [(⟨"TenantPlacementModel", "isFull", "(III)Z"⟩, 23), (⟨"TenantPlacementModel", "use", "(II)I"⟩, 23), (⟨"TenantPlacementModel", "isPresent", "(II)Z"⟩, 23), (⟨"TenantPlacementModel", "isComing", "(II)Z"⟩, 23), (⟨"TenantPlacementModel", "isNoTenant", "(I)Z"⟩, 23), (⟨"TenantPlacementModel", "areApart", "(II)Z"⟩, 23), (⟨"TenantPlacementModel", "why", "(II)C"⟩, 23), (⟨"TenantPlacementModel", "isBarred", "(II)Z"⟩, 23), (⟨"TenantPlacementModel", "hasRoom", "(III)Z"⟩, 23), (⟨"TenantPlacementModel", "underWay", "()I"⟩, 23), (⟨"TenantPlacementModel", "hour", "()I"⟩, 23), (⟨"TenantPlacementModel", "isTooMuch", "(I)Z"⟩, 23), (⟨"TenantPlacementModel", "goesOn", "(I)Z"⟩, 23), (⟨"TenantPlacementModel", "isInWindow", "(II)Z"⟩, 23), (⟨"TenantPlacementModel", "tells", "(I)I"⟩, 23), (⟨"TenantPlacementModel", "hasNoMove", "(I)Z"⟩, 23)]
theorem lw_r2 : ∀ q ∈ lw_privs_2, lw_okq q := List.forall_mem_cons.mpr ⟨lw_p16, List.forall_mem_cons.mpr ⟨lw_p17, List.forall_mem_cons.mpr ⟨lw_p18, List.forall_mem_cons.mpr ⟨lw_p19, List.forall_mem_cons.mpr ⟨lw_p20, List.forall_mem_cons.mpr ⟨lw_p21, List.forall_mem_cons.mpr ⟨lw_p22, List.forall_mem_cons.mpr ⟨lw_p23, List.forall_mem_cons.mpr ⟨lw_p24, List.forall_mem_cons.mpr ⟨lw_p25, List.forall_mem_cons.mpr ⟨lw_p26, List.forall_mem_cons.mpr ⟨lw_p27, List.forall_mem_cons.mpr ⟨lw_p28, List.forall_mem_cons.mpr ⟨lw_p29, List.forall_mem_cons.mpr ⟨lw_p30, List.forall_mem_cons.mpr ⟨lw_p31, fun _ h => absurd h List.not_mem_nil⟩⟩⟩⟩⟩⟩⟩⟩⟩⟩⟩⟩⟩⟩⟩⟩
theorem lw_p32 : lw_okq (⟨"TenantPlacementModel", "goneOn", "(I)I"⟩, 23) := ⟨⟨by decide +kernel, by decide +kernel⟩, List.mem_of_getElem? (i := 795) (by decide +kernel), List.mem_of_getElem? (i := 1015) (by decide +kernel), List.mem_of_getElem? (i := 1016) (by decide +kernel)⟩
theorem lw_p33 : lw_okq (⟨"TenantPlacementModel", "cannotAsk", "(II)Z"⟩, 23) := ⟨⟨by decide +kernel, by decide +kernel⟩, List.mem_of_getElem? (i := 795) (by decide +kernel), List.mem_of_getElem? (i := 1047) (by decide +kernel), List.mem_of_getElem? (i := 1048) (by decide +kernel)⟩
theorem lw_p34 : lw_okq (⟨"TenantPlacementModel", "fewest", "()I"⟩, 23) := ⟨⟨by decide +kernel, by decide +kernel⟩, List.mem_of_getElem? (i := 795) (by decide +kernel), List.mem_of_getElem? (i := 1067) (by decide +kernel), List.mem_of_getElem? (i := 1068) (by decide +kernel)⟩
theorem lw_p35 : lw_okq (⟨"TenantPlacementModel", "sound", "()I"⟩, 23) := ⟨⟨by decide +kernel, by decide +kernel⟩, List.mem_of_getElem? (i := 795) (by decide +kernel), List.mem_of_getElem? (i := 1071) (by decide +kernel), List.mem_of_getElem? (i := 1072) (by decide +kernel)⟩
theorem lw_p36 : lw_okq (⟨"TenantPlacementModel", "laysPlan", "(I)V"⟩, 23) := ⟨⟨by decide +kernel, by decide +kernel⟩, List.mem_of_getElem? (i := 795) (by decide +kernel), List.mem_of_getElem? (i := 1075) (by decide +kernel), List.mem_of_getElem? (i := 1076) (by decide +kernel)⟩
theorem lw_p37 : lw_okq (⟨"TenantPlacementModel", "isSound", "()Z"⟩, 23) := ⟨⟨by decide +kernel, by decide +kernel⟩, List.mem_of_getElem? (i := 795) (by decide +kernel), List.mem_of_getElem? (i := 1079) (by decide +kernel), List.mem_of_getElem? (i := 1080) (by decide +kernel)⟩
theorem lw_p38 : lw_okq (⟨"TenantPlacementModel", "fits", "(II)Z"⟩, 23) := ⟨⟨by decide +kernel, by decide +kernel⟩, List.mem_of_getElem? (i := 795) (by decide +kernel), List.mem_of_getElem? (i := 1083) (by decide +kernel), List.mem_of_getElem? (i := 1084) (by decide +kernel)⟩
theorem lw_p39 : lw_okq (⟨"TenantPlacementModel", "movesOfPlan", "()I"⟩, 23) := ⟨⟨by decide +kernel, by decide +kernel⟩, List.mem_of_getElem? (i := 795) (by decide +kernel), List.mem_of_getElem? (i := 1087) (by decide +kernel), List.mem_of_getElem? (i := 1088) (by decide +kernel)⟩
def lw_privs_3 : List (MethodName × Nat) := [(⟨"TenantPlacementModel", "goneOn", "(I)I"⟩, 23), (⟨"TenantPlacementModel", "cannotAsk", "(II)Z"⟩, 23), (⟨"TenantPlacementModel", "fewest", "()I"⟩, 23), (⟨"TenantPlacementModel", "sound", "()I"⟩, 23), (⟨"TenantPlacementModel", "laysPlan", "(I)V"⟩, 23), (⟨"TenantPlacementModel", "isSound", "()Z"⟩, 23), (⟨"TenantPlacementModel", "fits", "(II)Z"⟩, 23), (⟨"TenantPlacementModel", "movesOfPlan", "()I"⟩, 23)]
theorem lw_r3 : ∀ q ∈ lw_privs_3, lw_okq q := List.forall_mem_cons.mpr ⟨lw_p32, List.forall_mem_cons.mpr ⟨lw_p33, List.forall_mem_cons.mpr ⟨lw_p34, List.forall_mem_cons.mpr ⟨lw_p35, List.forall_mem_cons.mpr ⟨lw_p36, List.forall_mem_cons.mpr ⟨lw_p37, List.forall_mem_cons.mpr ⟨lw_p38, List.forall_mem_cons.mpr ⟨lw_p39, fun _ h => absurd h List.not_mem_nil⟩⟩⟩⟩⟩⟩⟩⟩
def lw_privs : List (MethodName × Nat) := lw_privs_1 ++ (lw_privs_2 ++ (lw_privs_3))
def lw_tbl : List Cond := k2_sels lw_privs ++ tables_1
theorem lw_privs_ok : ∀ q ∈ lw_privs, lw_okq q := by
  show ∀ q ∈ lw_privs_1 ++ (lw_privs_2 ++ (lw_privs_3)), lw_okq q
  exact List.forall_mem_append.mpr ⟨lw_r1, List.forall_mem_append.mpr ⟨lw_r2, lw_r3⟩⟩
/-- the streams that the claim lets the run draw from -/
abbrev lw_cs : List Choice := [Jvm.Choice.named "NaN.bits"]
theorem lw_bits : nanBits ∈ lw_cs := by first | decide | exact List.mem_cons_self | simp [lw_cs, nanBits]
-- ===== end of PART A; then your names; then what follows =====
end
section
/-! ===== BEGIN words of one list among another's, by their places ===== -/
theorem goodIn_r {big : List Cond} (ws : List Cond) (ps : List Nat) (hp : ws = ps.filterMap (fun i => big[i]?)) (h : ws.all goodWord = true) : GoodIn big ws := by
  intro w hw
  have h1 := List.all_eq_true.mp h w hw
  rw [hp] at hw
  obtain ⟨i, -, hi⟩ := List.mem_filterMap.mp hw
  have hm : w ∈ big := by first | exact List.mem_of_getElem? hi | exact List.getElem?_mem hi
  exact ⟨hm, good_of_word h1⟩
theorem goodIn_app {big a b : List Cond} (ha : GoodIn big a) (hb : GoodIn big b) : GoodIn big (a ++ b) := fun w h => (List.mem_append.mp h).elim (ha w) (hb w)
theorem goodIn_ca {big a b : List Cond} {c : Cond} (ha : GoodIn big (c :: a)) (hb : GoodIn big b) : GoodIn big (c :: (a ++ b)) := fun w h => (List.mem_cons.mp h).elim (fun e => ha w (List.mem_cons.mpr (Or.inl e))) (fun h => (List.mem_append.mp h).elim (fun h => ha w (List.mem_cons.mpr (Or.inr h))) (hb w))
theorem goodIn_sub {big ws : List Cond} (hm : ∀ w ∈ ws, w ∈ big) (h : ws.all goodWord = true) : GoodIn big ws := fun w hw => ⟨hm w hw, good_of_word (List.all_eq_true.mp h w hw)⟩
/-! ===== END ===== -/

/-! ===== BEGIN exceptions that leave a method, and their catching by the caller (launches without stack traces) ===== -/
section VXA
/-! The laws vx_back, vx_callV, vx_callS, vx_callSW, vx_throw0, vx_throwS follow proofs of the library, with one case more: JvmDerived/Free/Laws.lean (Back.of_free), Shelf42/LK1.lean (callV, callS), Shelf/KitTraced.lean (throwNew0V, throwNewS). -/
/-- where a method has thrown q: the class by its name, the cell, what was written, the world -/
def vx_T (XC : String → State → State → Prop) (st : State) (q : Addr) (t : State) (mc ms : Nat) (free : Addr → Prop) : Prop :=
  ∃ (E : String) (ce : Cell) (L : List Loc), XC E st t ∧ t.heap[q]? = some ce ∧ ce.vm = .none ∧ st.vm.findClass E = some ce.cls ∧ st.WarmedH t.vm ∧ st.sameButNew ({ t with vm := st.vm } : State) L mc ms ∧ ∀ z ∈ L, free z.base
def vx_Q (Qc : Array Value → State → Outcome → State → Prop) (XC : String → State → State → Prop) (mc ms : Nat) (free : Addr → Prop) : Array Value → State → Outcome → State → Prop := fun a st o t =>
  (Qc a st o t ∧ ∃ L, FrameEnd st o t L mc ms ∧ ∀ q ∈ L, free q.base) ∨ ∃ q, o = .threw q ∧ vx_T XC st q t mc ms free
/-- a callee that returns or throws -/
def vx_Met (l : Launch) (y : MethodName) (ws : List Cond) (rm : Room) (Pc : Array Value → State → Prop) (Qc : Array Value → State → Outcome → State → Prop) (XC : String → State → State → Prop) (mc ms : Nat) (free : Addr → Prop) : Prop :=
  MetFree l y (headSpec ws rm) Pc (fun _ _ _ _ _ => True) (vx_Q Qc XC mc ms free)
def vx_Post (XC : String → State → State → Prop) (mc ms : Nat) (free : Addr → Prop) : Pt → Array Value → Addr → Pt → Prop := fun A a q B =>
  ∃ (g : JFrame) (mk : MethodId) (t : State) (L : List Loc) (E : String) (ce : Cell), B.U.heap = t.heap ∧ B.U.vm = t.vm ∧ XC E (A.U.calling g mk a) t ∧ t.heap[q]? = some ce ∧ ce.vm = .none ∧ A.U.vm.findClass E = some ce.cls ∧ B.locs = A.locs ++ L ∧ (∀ z ∈ L, free z.base) ∧ B.cells = A.cells + mc ∧ B.slots = A.slots + ms
def vx_Back (l : Launch) (R : Room) (p : Program) (e : Env) (below : List Frame) (s : State) (sargs : Array Value) (y : MethodName) (len W9 : Nat)
    (Pre : Pt → Array Value → Prop) (Post : Pt → Array Value → Option Value → Pt → Prop) (PostX : Pt → Array Value → Addr → Pt → Prop) : Prop :=
  ∀ (m : MethodId) (meth : Method) (c : Code) (A : Pt) (g : JFrame) (ig : Instr) (mk : MethodId) (a : Array Value),
    Stand p l e R s m sargs below meth c A.U A.locs A.cells A.slots → g.method = m → g.locals.size = c.maxLocals → decode c.code g.pc = .ok (ig, len) →
    2 * g.monitorRoom + (g.stack.map fun v => v.category).sum ≤ W9 → A.U.methodNamed? y = some mk → Pre A a →
    (∃ (v : Option Value) (B : Pt), Stand p l e R s m sargs below meth c B.U B.locs B.cells B.slots ∧ Post A a v B ∧
      Steps p.tables e below (doInvoke e (A.U.setTop g) [] mk a).1 (B.U.setTop { g with pc := g.pc + len, stack := v.toList ++ g.stack })) ∨
    (∃ (q : Addr) (B : Pt), Stand p l e R s m sargs below meth c B.U B.locs B.cells B.slots ∧ PostX A a q B ∧
      Steps p.tables e below (doInvoke e (A.U.setTop g) [] mk a).1 ((B.U.setTop g).pushFrame (.throwing q)))
section Payer
variable {l : Launch} {R : Room} {p : Program} {e : Env} {below : List Frame} {s : State} {sargs : Array Value} {y : MethodName} {len W9 : Nat}
theorem vx_back {ws : List Cond} {rm : Room} {Pc : Array Value → State → Prop} {Qc : Array Value → State → Outcome → State → Prop} {XC : String → State → State → Prop} {mc ms : Nat} {free : Addr → Prop} {bytes : ByteArray} {maxL : Nat} {ret : Option FieldType}
    (hM : vx_Met l y ws rm Pc Qc XC mc ms free) (hblind : FrameBlind Pc) (hrc : rm.cells = mc) (hrs : rm.slots = ms)
    (hframes : rm.frames + 1 ≤ R.frames) (hlocals : W9 + (maxL + 11) + rm.locals ≤ R.locals)
    (hws : ∀ w ∈ ws, ∀ a' U, s.WarmedH U.vm → w.before a' U = true) (hcode : Cond.code y bytes maxL ret ∈ ws) (hinit : ∀ a' U, s.WarmedH U.vm → (Cond.initialized y.cls).before a' U = true) :
    vx_Back l R p e below s sargs y len W9 (PreOf R mc ms Pc) (PostOf Qc mc ms free) (vx_Post XC mc ms free) := by
  intro m meth c A g ig mk a X hg hsize hdg hW hn hp
  have h1 : (headSpec ws rm).pre.before a A.U = true := atoms_intro fun w hw => hws w hw _ _ X.warmed
  have h2 : (Cond.code y bytes maxL ret).before a A.U = true := hws _ hcode _ _ X.warmed
  have h3 : (Cond.initialized y.cls).before a A.U = true := hinit _ _ X.warmed
  have h4 : A.cells + (headSpec ws rm).room.cells ≤ R.cells := by rw [show (headSpec ws rm).room.cells = mc from hrc]; exact hp.1
  have h5 : A.slots + (headSpec ws rm).room.slots ≤ R.slots := by rw [show (headSpec ws rm).room.slots = ms from hrs]; exact hp.2.1
  have hPc : Pc a (A.U.calling g mk a) := hblind _ _ _ _ hp.2.2
  obtain ⟨U, Ls, c0, s0⟩ := A
  dsimp only [Pt.U, Pt.locs, Pt.cells, Pt.slots] at h1 h2 h3 h4 h5 X hn hPc ⊢
  obtain ⟨methY, cY, hmY, hcY, -, hlY, -, -, -, -⟩ := Cond.code_spec hn h2
  obtain ⟨kY, hkY, -⟩ := className_of_methodNamed hn
  have hinitY : kY.init = .initialized := Cond.initialized_spec (findClass_of_methodNamed hn) hkY h3
  have h : At U g.method c below := by rw [hg]; exact X.here
  have hlocals9 : W9 + (maxL + 11) + (headSpec ws rm).room.locals ≤ R.locals := hlocals
  have happ : (headSpec ws rm).appliesLoose y e.platform (U.calling g mk a) = true :=
    Spec.appliesLoose_calling (g := g) h hdg hn hkY hinitY
      (X.room_calling (g := g) (R' := (headSpec ws rm).room) hsize hmY hcY hframes (by rw [hlY]; omega) h4 h5) h1
  obtain ⟨mid, hmid⟩ := h.above
  have hfr : (U.setTop g).frames = (.java g :: mid) ++ below := by rw [State.frames_setTop' g h.top, hmid]; rfl
  obtain ⟨o, s₂, hsteps, -, hend, hq⟩ := Steps.callFree hM p X.admits X.cas X.clock (acts := []) hfr happ hPc trivial
  have hq' : vx_Q Qc XC mc ms free a (U.calling g mk a) o s₂ := hq
  rw [State.frames_setTop' g h.top] at hend
  obtain ⟨g₀, hg0⟩ := Option.isSome_iff_exists.mp h.top
  obtain ⟨r, hr⟩ := State.topJava?_eq_some.mp hg0
  have hr' : (({ U with heap := s₂.heap, slotsUsed := s₂.slotsUsed } : State).setVm s₂.vm).frames = .java g₀ :: r := hr
  rcases hq' with ⟨hqc, L, hfe, hL⟩ | ⟨q, rfl, E, ce, L, hx, hce, hcv, hcl, hW₂, hsm, hL⟩
  · obtain ⟨⟨v, rfl⟩, hW₂, e2, q2, q3, q4, q5, q6⟩ := id hfe
    have e3 : s₂ = ({ (U.calling g mk a).setFrames s₂.frames with heap := s₂.heap, slotsUsed := s₂.slotsUsed } : State).setVm s₂.vm := by
      have : s₂ = ({ s₂ with vm := (U.calling g mk a).vm } : State).setVm s₂.vm := rfl
      rw [e2] at this
      exact this
    obtain ⟨c₂, i₂, len₂, hc₂, hd₂, hf₂⟩ := hend
    have hW' : U.WarmedH s₂.vm := hW₂
    have hcc : c₂ = c := by
      have h1 : s₂.code? g.method = U.code? g.method := by
        rw [State.code?_eq, State.code?_eq, hW'.alike.method?]
      exact Option.some.inj (hc₂.symm.trans (h1.trans h.code))
    subst hcc
    have hlen : len₂ = len := by rw [hdg] at hd₂; cases hd₂; rfl
    subst hlen
    have hs₂ : s₂ = (({ U with heap := s₂.heap, slotsUsed := s₂.slotsUsed } : State).setVm s₂.vm).setTop { g with pc := g.pc + len₂, stack := v.toList ++ g.stack } := by
      refine e3.trans ?_
      rw [hf₂, State.calling_eq h.top, State.setFrames_setFrames, State.setTop_of_frames _ hr', hr]
      rfl
    have hsame : U.sameButNew ({ U with heap := s₂.heap, slotsUsed := s₂.slotsUsed } : State) L mc ms := by
      refine ⟨?_, q2, q3, q4, q5, q6⟩
      obtain ⟨t, ht, -⟩ := State.frames_cons hr
      show ({ U with heap := s₂.heap, slotsUsed := s₂.slotsUsed } : State) = { U.setFrames U.frames with heap := s₂.heap, slotsUsed := s₂.slotsUsed }
      rw [State.setFrames_self ht]
    subst hg
    refine Or.inl ⟨v, ⟨(({ U with heap := s₂.heap, slotsUsed := s₂.slotsUsed } : State).setVm s₂.vm), Ls ++ L, c0 + mc, s0 + ms⟩,
      ⟨X.admits, X.cas, X.clock, X.frames, X.room, X.hears, X.method, X.code, (X.here.setHeapUsed s₂.heap s₂.slotsUsed).setVm hW'.alike, X.tail, State.WarmedH.trans X.warmed hW', X.limits, X.bytes, X.same.trans (hsame.setVm s.vm)⟩,
      ⟨g, mk, s₂, L, rfl, rfl, hqc, rfl, hL, rfl, rfl⟩, ?_⟩
    show Steps p.tables e below _ ((({ U with heap := s₂.heap, slotsUsed := s₂.slotsUsed } : State).setVm s₂.vm).setTop { g with pc := g.pc + len₂, stack := v.toList ++ g.stack })
    rw [← hs₂]
    exact hsteps
  · obtain ⟨e2, q2, q3, q4, q5, q6⟩ := id hsm
    have e3 : s₂ = ({ (U.calling g mk a).setFrames s₂.frames with heap := s₂.heap, slotsUsed := s₂.slotsUsed } : State).setVm s₂.vm := by
      have : s₂ = ({ s₂ with vm := (U.calling g mk a).vm } : State).setVm s₂.vm := rfl
      rw [e2] at this
      exact this
    have hf₂ : s₂.frames = .throwing q :: .java g :: U.frames.tail := hend
    have hW' : U.WarmedH s₂.vm := hW₂
    have hs₂ : s₂ = ((({ U with heap := s₂.heap, slotsUsed := s₂.slotsUsed } : State).setVm s₂.vm).setTop g).pushFrame (.throwing q) := by
      refine e3.trans ?_
      rw [hf₂, State.calling_eq h.top, State.setFrames_setFrames, State.pushFrame, State.frames_setTop _ hr', State.setTop_of_frames _ hr', State.setFrames_setFrames, hr]
      rfl
    have hsame : U.sameButNew ({ U with heap := s₂.heap, slotsUsed := s₂.slotsUsed } : State) L mc ms := by
      refine ⟨?_, q2, q3, q4, q5, q6⟩
      obtain ⟨t, ht, -⟩ := State.frames_cons hr
      show ({ U with heap := s₂.heap, slotsUsed := s₂.slotsUsed } : State) = { U.setFrames U.frames with heap := s₂.heap, slotsUsed := s₂.slotsUsed }
      rw [State.setFrames_self ht]
    subst hg
    refine Or.inr ⟨q, ⟨(({ U with heap := s₂.heap, slotsUsed := s₂.slotsUsed } : State).setVm s₂.vm), Ls ++ L, c0 + mc, s0 + ms⟩,
      ⟨X.admits, X.cas, X.clock, X.frames, X.room, X.hears, X.method, X.code, (X.here.setHeapUsed s₂.heap s₂.slotsUsed).setVm hW'.alike, X.tail, State.WarmedH.trans X.warmed hW', X.limits, X.bytes, X.same.trans (hsame.setVm s.vm)⟩,
      ⟨g, mk, s₂, L, E, ce, rfl, rfl, hx, hce, hcv, hcl, rfl, hL, rfl, rfl⟩, ?_⟩
    show Steps p.tables e below _ (((({ U with heap := s₂.heap, slotsUsed := s₂.slotsUsed } : State).setVm s₂.vm).setTop g).pushFrame (.throwing q))
    rw [← hs₂]
    exact hsteps
end Payer
section Calls
variable {p : Program} {l : Launch} {e : Env} {R : Room} {s : State} {m : MethodId} {args : Array Value} {below : List Frame} {meth : Method} {c : Code} {T : State} {locs : List Loc} {cells slots : Nat}
theorem vx_callV (X : Stand p l e R s m args below meth c T locs cells slots) (hexec : p.tables.exec = Jvm.exec) {own C : String} {index : Nat} {y : MethodName} {bytes : ByteArray} {maxL : Nat} {ret : Option FieldType}
    (hown : s.vm.findClass own = some m.cls) (hlink : (Cond.methodLink own index y).before args s = true) (hinst : (Cond.instanceMethod y).before args s = true) (hsel : (Cond.selects C y y).before args s = true)
    (hcode : (Cond.code y bytes maxL ret).before args s = true) (hy : y.cls ≠ "java/lang/invoke/MethodHandle" ∧ y.cls ≠ "java/lang/invoke/VarHandle")
    {W9 : Nat} {Pre : Pt → Array Value → Prop} {Post : Pt → Array Value → Option Value → Pt → Prop} {PostX : Pt → Array Value → Addr → Pt → Prop} (hK : vx_Back l R p e below s args y 3 W9 Pre Post PostX)
    {b : Addr} {cellB : Cell} (hcell : T.heap[b]? = some cellB) (hobj : cellB.vm.isStatics = false) (hcls : s.vm.findClass C = some cellB.cls)
    {g : JFrame} (hg : g.method = m) (hsize : g.locals.size = c.maxLocals) {argsL rest : List Value} (hlen : ∀ sig, parseMethodDescriptor y.desc = some sig → argsL.length = sig.parameters.length)
    (hstack : g.stack = argsL.reverse ++ .ref b :: rest) (hW : 2 * g.monitorRoom + (rest.map fun v => v.category).sum ≤ W9) (hdg : decode c.code g.pc = .ok (.invokevirtual index, 3))
    (hpre : ∀ vm₁, s.WarmedH vm₁ → Pre ⟨T.setVm vm₁, locs, cells, slots⟩ (Value.ref b :: argsL).toArray) :
    (∃ (v : Option Value) (vm₁ : Vm) (B : Pt), s.WarmedH vm₁ ∧ Stand p l e R s m args below meth c B.U B.locs B.cells B.slots ∧ Post ⟨T.setVm vm₁, locs, cells, slots⟩ (Value.ref b :: argsL).toArray v B ∧
      ∀ target, Steps p.tables e below (B.U.setTop { g with pc := g.pc + 3, stack := v.toList ++ rest }) target → Steps p.tables e below (T.setTop g) target) ∨
    (∃ (q : Addr) (vm₁ : Vm) (B : Pt), s.WarmedH vm₁ ∧ Stand p l e R s m args below meth c B.U B.locs B.cells B.slots ∧ PostX ⟨T.setVm vm₁, locs, cells, slots⟩ (Value.ref b :: argsL).toArray q B ∧
      Steps p.tables e below (T.setTop g) ((B.U.setTop { g with stack := rest }).pushFrame (.throwing q))) := by
  obtain ⟨mk, methM, hnamed, hmethM, hstM, habM⟩ := Cond.instanceMethod_spec hinst
  obtain ⟨methM', cM, hmethM', -, -, -, -, -, -, hsigM⟩ := Cond.code_spec hnamed hcode
  cases hmethM.symm.trans hmethM'
  obtain ⟨c2, r2, m2, q1, q2, q3, q4, kP, hkP, hkPi⟩ := Cond.selects_spec hsel
  cases hcls.symm.trans q1
  cases (State.methodFound?_of_named hnamed hy).symm.trans q2
  cases hnamed.symm.trans q3
  have hselP : selectMethod e.platform s.vm cellB.cls mk = .method mk := by rw [Launch.admits_selectMethod X.admits]; exact q4
  obtain ⟨vm₁, X₁, hstep₁⟩ := X.invokevirtual hexec hown hlink hnamed hmethM hstM hkP hkPi hy (a := b) (cell := cellB) hcell
    (fun z h => by rw [h] at hobj; cases hobj) hselP hmethM habM hkP hkPi (g := g) hg (argsL := argsL) (rest := rest) (hlen _ hsigM) hstack hdg
  rcases hK m meth c ⟨T.setVm vm₁, locs, cells, slots⟩ { g with stack := rest } (.invokevirtual index) mk (Value.ref b :: argsL).toArray X₁ hg hsize hdg hW (X₁.named hnamed) (hpre vm₁ X₁.warmed) with ⟨v, B, X', hpost, hsteps⟩ | ⟨q, B, X', hpost, hsteps⟩
  · exact Or.inl ⟨v, vm₁, B, X₁.warmed, X', hpost, fun target h => hstep₁ _ fun acts => by rw [doInvoke_state]; exact hsteps.trans h⟩
  · exact Or.inr ⟨q, vm₁, B, X₁.warmed, X', hpost, hstep₁ _ fun acts => by rw [doInvoke_state]; exact hsteps⟩
theorem vx_callS (X : Stand p l e R s m args below meth c T locs cells slots) (hexec : p.tables.exec = Jvm.exec) {own : String} {index : Nat} {y : MethodName} {bytes : ByteArray} {maxL : Nat} {ret : Option FieldType}
    (hown : s.vm.findClass own = some m.cls) (hlink : (Cond.methodLink own index y).before args s = true) (hstat : (Cond.static y).before args s = true) (hinit : (Cond.initialized y.cls).before args s = true)
    (hcode : (Cond.code y bytes maxL ret).before args s = true) (hy : y.cls ≠ "java/lang/invoke/MethodHandle" ∧ y.cls ≠ "java/lang/invoke/VarHandle")
    {W9 : Nat} {Pre : Pt → Array Value → Prop} {Post : Pt → Array Value → Option Value → Pt → Prop} {PostX : Pt → Array Value → Addr → Pt → Prop} (hK : vx_Back l R p e below s args y 3 W9 Pre Post PostX)
    {g : JFrame} (hg : g.method = m) (hsize : g.locals.size = c.maxLocals) {argsL rest : List Value} (hlen : ∀ sig, parseMethodDescriptor y.desc = some sig → argsL.length = sig.parameters.length)
    (hstack : g.stack = argsL.reverse ++ rest) (hW : 2 * g.monitorRoom + (rest.map fun v => v.category).sum ≤ W9) (hdg : decode c.code g.pc = .ok (.invokestatic index, 3))
    (hpre : ∀ vm₁, s.WarmedH vm₁ → Pre ⟨T.setVm vm₁, locs, cells, slots⟩ argsL.toArray) :
    (∃ (v : Option Value) (vm₁ : Vm) (B : Pt), s.WarmedH vm₁ ∧ Stand p l e R s m args below meth c B.U B.locs B.cells B.slots ∧ Post ⟨T.setVm vm₁, locs, cells, slots⟩ argsL.toArray v B ∧
      ∀ target, Steps p.tables e below (B.U.setTop { g with pc := g.pc + 3, stack := v.toList ++ rest }) target → Steps p.tables e below (T.setTop g) target) ∨
    (∃ (q : Addr) (vm₁ : Vm) (B : Pt), s.WarmedH vm₁ ∧ Stand p l e R s m args below meth c B.U B.locs B.cells B.slots ∧ PostX ⟨T.setVm vm₁, locs, cells, slots⟩ argsL.toArray q B ∧
      Steps p.tables e below (T.setTop g) ((B.U.setTop { g with stack := rest }).pushFrame (.throwing q))) := by
  obtain ⟨mk, hnamed⟩ := Cond.code_named hcode
  obtain ⟨methM, cM, hmethM, -, -, -, -, -, -, hsigM⟩ := Cond.code_spec hnamed hcode
  have hstatic : methM.isStatic = true := Cond.static_spec hnamed hmethM hstat
  obtain ⟨kP, hkP, -⟩ := className_of_methodNamed hnamed
  have hinitP : kP.init = .initialized := Cond.initialized_spec (findClass_of_methodNamed hnamed) hkP hinit
  obtain ⟨vm₁, X₁, hstep₁⟩ := X.invokestatic hexec hown hlink hnamed hmethM hstatic hkP hinitP hy (g := g) hg (argsL := argsL) (rest := rest) (hlen _ hsigM) hstack hdg
  rcases hK m meth c ⟨T.setVm vm₁, locs, cells, slots⟩ { g with stack := rest } (.invokestatic index) mk argsL.toArray X₁ hg hsize hdg hW (X₁.named hnamed) (hpre vm₁ X₁.warmed) with ⟨v, B, X', hpost, hsteps⟩ | ⟨q, B, X', hpost, hsteps⟩
  · exact Or.inl ⟨v, vm₁, B, X₁.warmed, X', hpost, fun target h => hstep₁ _ fun acts => by rw [doInvoke_state]; exact hsteps.trans h⟩
  · exact Or.inr ⟨q, vm₁, B, X₁.warmed, X', hpost, hstep₁ _ fun acts => by rw [doInvoke_state]; exact hsteps⟩
end Calls
theorem vx_cls {s : State} {T : State} {vm₁ : Vm} {E : String} {k : ClassId} (hW : s.WarmedH vm₁) (h : (T.setVm vm₁).vm.findClass E = some k) : s.vm.findClass E = some k := by
  have h1 : vm₁.findClass E = some k := h
  rw [hW.alike.findClass] at h1
  exact h1
/-- the method's frame g, with q thrown over it -/
def vx_W (p : Program) (l : Launch) (e : Env) (R : Room) (s : State) (m : MethodId) (args : Array Value) (below : List Frame) (meth : Method) (c : Code) (H : Heap) (locs : List Loc) (cells slots : Nat) (Q : State → Prop) (g : JFrame) (q : Addr) : Prop :=
  ∀ T : State, T.heap = H → Stand p l e R s m args below meth c T locs cells slots → ∃ t, Steps p.tables e below ((T.setTop g).pushFrame (.throwing q)) t ∧ Q t
def vx_Run (p : Program) (l : Launch) (e : Env) (R : Room) (s : State) (m : MethodId) (args : Array Value) (below : List Frame) (meth : Method) (c : Code) (H : Heap) (locs : List Loc) (cells slots mc ms : Nat) (g : JFrame) (rest : List Value) (Qa : State → Outcome → State → Prop) (XC : String → State → State → Prop) (free : Addr → Prop) : Prop :=
  ∀ T : State, T.heap = H → Stand p l e R s m args below meth c T locs cells slots →
    (∃ (v : Option Value) (st₀ t T' : State) (L : List Loc), st₀.heap = H ∧ Stand p l e R s m args below meth c T' (locs ++ L) (cells + mc) (slots + ms) ∧ (∀ q ∈ L, free q.base) ∧ T'.heap = t.heap ∧ T'.vm = t.vm ∧ Qa st₀ (.returned v) t ∧
      Goes p e below T g T' { g with pc := g.pc + 3, stack := v.toList ++ rest }) ∨
    (∃ (q : Addr) (st₀ t T' : State) (L : List Loc) (E : String) (ce : Cell), st₀.heap = H ∧ Stand p l e R s m args below meth c T' (locs ++ L) (cells + mc) (slots + ms) ∧ (∀ z ∈ L, free z.base) ∧ T'.heap = t.heap ∧ T'.vm = t.vm ∧ XC E st₀ t ∧ t.heap[q]? = some ce ∧ ce.vm = .none ∧ s.vm.findClass E = some ce.cls ∧
      Steps p.tables e below (T.setTop g) ((T'.setTop { g with stack := rest }).pushFrame (.throwing q)))
def vx_X {S : Type} (px : S → Prop) (B : String → S → State → Prop) (A : Nat → Prop) : String → State → State → Prop := fun E st t => ∃ u : S, px u ∧ B E u t ∧ va_F A st t
section Runs
variable {p : Program} {l : Launch} {e : Env} {R : Room} {s : State} {m : MethodId} {args : Array Value} {below : List Frame} {meth : Method} {c : Code} {H : Heap} {locs : List Loc} {cells slots : Nat}
variable {y : MethodName} {bytes cc : ByteArray} {maxL nL mc ms n index : Nat} {ret : Option FieldType} {ws : List Cond} {rm : Room} {Pc : Array Value → State → Prop} {Qc : Array Value → State → Outcome → State → Prop} {XC : String → State → State → Prop} {free : Addr → Prop} {Ts : List Cond} {own C : String} {b : Addr} {As rest : List Value} {g : JFrame}
theorem vx_callBack (cb : CallB R s args own index y bytes maxL ret ws rm mc ms n) (hM : vx_Met l y ws rm Pc Qc XC mc ms free) (hbl : FrameBlind Pc) : vx_Back l R p e below s args y 3 8 (PreOf R mc ms Pc) (PostOf Qc mc ms free) (vx_Post XC mc ms free) := by
  obtain ⟨hrc, hrs, hfr, hlo, hws, hcw, -, hini, -⟩ := cb
  exact vx_back (bytes := bytes) (maxL := maxL) (ret := ret) hM hbl hrc hrs hfr hlo hws hcw (fun a' U hW => word_at hW (Or.inl (by first | rfl | simp [Cond.onTables, Cond.keeps, Cond.steady])) hini)
theorem vx_runV (S : CallFix p m c cc nL s args Ts own) (hM : vx_Met l y ws rm Pc Qc XC mc ms free) (cw : CallW R s args own C index y bytes maxL ret ws rm mc ms n) (hp : PreV s H C b Pc As)
    (hg : g.method = m) (hn : As.length = n) (hsize : g.locals.size = nL) (hstack : g.stack = As.reverse ++ .ref b :: rest) (hW : 2 * g.monitorRoom + (rest.map fun v => v.category).sum ≤ 8) (hdg : decode cc g.pc = .ok (.invokevirtual index, 3)) (hf : cells + mc ≤ R.cells ∧ slots + ms ≤ R.slots) :
    vx_Run p l e R s m args below meth c H locs cells slots mc ms g rest (Qc (Value.ref b :: As).toArray) XC free := by
  have hK : vx_Back l R p e below s args y 3 8 (PreOf R mc ms Pc) (PostOf Qc mc ms free) (vx_Post XC mc ms free) := vx_callBack cw.1 hM hp.1
  obtain ⟨⟨-, -, -, -, -, -, hcode, -, hy, hlen, hl⟩, hin, hse⟩ := cw
  obtain ⟨hx, hb, hml, ho, -⟩ := S
  obtain ⟨-, ⟨cellB, hcB, hoB, hclB⟩, hPc⟩ := hp
  intro T hT X
  rcases vx_callV X hx (C := C) (bytes := bytes) (maxL := maxL) (ret := ret) ho hl hin hse hcode hy hK (by rw [hT]; exact hcB) hoB hclB hg (hsize.trans hml.symm) (argsL := As) (rest := rest) (fun sig h => hn.trans (hlen sig h)) hstack hW (by rw [hb]; exact hdg)
    (fun vm₁ hW₁ => ⟨hf.1, hf.2, hPc (T.setVm vm₁) hT hW₁⟩) with ⟨v, vm₁, ⟨U', l2, c2, s2⟩, hW₁, X', ⟨g', mk, t, L, e1, e2, hq, h1, hL, h2, h3⟩, st⟩ | ⟨q, vm₁, ⟨U', l2, c2, s2⟩, hW₁, X', ⟨g', mk, t, L, E, ce, e1, e2, hq, hce, hcv, hcl, h1, hL, h2, h3⟩, st⟩
  · dsimp only [Pt.U, Pt.locs, Pt.cells, Pt.slots] at X' e1 e2 h1 h2 h3 st
    subst h1; subst h2; subst h3
    exact Or.inl ⟨v, (T.setVm vm₁).calling g' mk (Value.ref b :: As).toArray, t, U', L, hT, X', hL, e1, e2, hq, st⟩
  · dsimp only [Pt.U, Pt.locs, Pt.cells, Pt.slots] at X' e1 e2 h1 h2 h3 st hcl
    subst h1; subst h2; subst h3
    exact Or.inr ⟨q, (T.setVm vm₁).calling g' mk (Value.ref b :: As).toArray, t, U', L, E, ce, hT, X', hL, e1, e2, hq, hce, hcv, vx_cls hW₁ hcl, st⟩
theorem vx_runS (S : CallFix p m c cc nL s args Ts own) (hM : vx_Met l y ws rm Pc Qc XC mc ms free) (cw : CallB R s args own index y bytes maxL ret ws rm mc ms n ∧ (Cond.static y).before args s = true) (hp : PreS s H Pc As)
    (hg : g.method = m) (hn : As.length = n) (hsize : g.locals.size = nL) (hstack : g.stack = As.reverse ++ rest) (hW : 2 * g.monitorRoom + (rest.map fun v => v.category).sum ≤ 8) (hdg : decode cc g.pc = .ok (.invokestatic index, 3)) (hf : cells + mc ≤ R.cells ∧ slots + ms ≤ R.slots) :
    vx_Run p l e R s m args below meth c H locs cells slots mc ms g rest (Qc As.toArray) XC free := by
  have hK : vx_Back l R p e below s args y 3 8 (PreOf R mc ms Pc) (PostOf Qc mc ms free) (vx_Post XC mc ms free) := vx_callBack cw.1 hM hp.1
  obtain ⟨⟨-, -, -, -, -, -, hcode, hini, hy, hlen, hl⟩, hstt⟩ := cw
  obtain ⟨hx, hb, hml, ho, -⟩ := S
  intro T hT X
  rcases vx_callS X hx (bytes := bytes) (maxL := maxL) (ret := ret) ho hl hstt hini hcode hy hK hg (hsize.trans hml.symm) (argsL := As) (rest := rest) (fun sig h => hn.trans (hlen sig h)) hstack hW (by rw [hb]; exact hdg)
    (fun vm₁ hW₁ => ⟨hf.1, hf.2, hp.2 (T.setVm vm₁) hT hW₁⟩) with ⟨v, vm₁, ⟨U', l2, c2, s2⟩, hW₁, X', ⟨g', mk, t, L, e1, e2, hq, h1, hL, h2, h3⟩, st⟩ | ⟨q, vm₁, ⟨U', l2, c2, s2⟩, hW₁, X', ⟨g', mk, t, L, E, ce, e1, e2, hq, hce, hcv, hcl, h1, hL, h2, h3⟩, st⟩
  · dsimp only [Pt.U, Pt.locs, Pt.cells, Pt.slots] at X' e1 e2 h1 h2 h3 st
    subst h1; subst h2; subst h3
    exact Or.inl ⟨v, (T.setVm vm₁).calling g' mk As.toArray, t, U', L, hT, X', hL, e1, e2, hq, st⟩
  · dsimp only [Pt.U, Pt.locs, Pt.cells, Pt.slots] at X' e1 e2 h1 h2 h3 st hcl
    subst h1; subst h2; subst h3
    exact Or.inr ⟨q, (T.setVm vm₁).calling g' mk As.toArray, t, U', L, E, ce, hT, X', hL, e1, e2, hq, hce, hcv, vx_cls hW₁ hcl, st⟩
end Runs
section Rows
variable {p : Program} {l : Launch} {e : Env} {R : Room} {s : State} {m : MethodId} {args : Array Value} {below : List Frame} {meth : Method} {c : Code} {H : Heap} {locs : List Loc} {cells slots : Nat} {Q : State → Prop}
variable {mc ms : Nat} {free : Addr → Prop} {A0 A1 : Nat → Prop} {H0 : Heap} {a : Array Value} {pc : Nat} {ls : Array Slot} {st0 rest : List Value}
theorem vx_keep {st₀ t T' : State} {L : List Loc} (h0 : st₀.heap = H) (e1 : T'.heap = t.heap) (hS : va_S A0 H0 H locs) (hA : ∀ q, q < H.size → A1 q → A0 q) (hf : ∀ q, free q → A0 q) (hL : ∀ q ∈ L, free q.base) (hF : va_F A1 st₀ t) :
    H.size ≤ T'.heap.size ∧ (∀ q : Nat, q < H.size → ¬ A1 q → T'.heap[q]? = H[q]?) ∧ va_S A0 H0 T'.heap (locs ++ L) := by
  obtain ⟨hz, hk⟩ := hF
  rw [h0] at hz hk
  exact ⟨by rw [e1]; exact hz, fun q h1 h2 => by rw [e1]; exact hk q h1 h2,
    ⟨Nat.le_trans hS.1 (by rw [e1]; exact hz), fun q h1 h2 => by rw [e1, hk q (Nat.lt_of_lt_of_le h1 hS.1) (fun z => h2 (hA q (Nat.lt_of_lt_of_le h1 hS.1) z))]; exact hS.2.1 q h1 h2, fun q hq => by
      rcases List.mem_append.mp hq with h | h
      · exact hS.2.2 q h
      · exact hf _ (hL q h)⟩⟩
theorem vx_calli {S SX : Type} {post : Int32 → S → Prop} {px : SX → Prop} {B : S → State → Prop} {BX : String → SX → State → Prop} {AX : Nat → Prop} (hr : vx_Run p l e R s m args below meth c H locs cells slots mc ms (F0 m pc ls st0) rest (va_Qi post B A1 a) (vx_X px BX AX) free) (hS : va_S A0 H0 H locs) (hA : ∀ q, q < H.size → A1 q → A0 q) (hf : ∀ q, free q → A0 q) (hAX : ∀ q, q < H.size → AX q → A0 q)
    (kx : ∀ (E : String) (ce : Cell) (q9 : Addr) (u : SX) (t : State) (H1 : Heap) (locs1 : List Loc), t.heap = H1 → s.vm.Alike t.vm → px u → BX E u t → H.size ≤ H1.size → (∀ q : Nat, q < H.size → ¬ AX q → H1[q]? = H[q]?) → va_S A0 H0 H1 locs1 → H1[q9]? = some ce → ce.vm = .none → s.vm.findClass E = some ce.cls → vx_W p l e R s m args below meth c H1 locs1 (cells + mc) (slots + ms) Q (F0 m pc ls rest) q9)
    (kk : ∀ (r : Int32) (u : S) (t : State) (H1 : Heap) (locs1 : List Loc), t.heap = H1 → s.vm.Alike t.vm → post r u → B u t → H.size ≤ H1.size → (∀ q : Nat, q < H.size → ¬ A1 q → H1[q]? = H[q]?) → va_S A0 H0 H1 locs1 → W p l e R s m args below meth c H1 locs1 (cells + mc) (slots + ms) Q (F0 m (pc + 3) ls (.int r :: rest))) : W p l e R s m args below meth c H locs cells slots Q (F0 m pc ls st0) := by
  intro T hT X
  rcases hr T hT X with ⟨v, st₀, t, T', L, h0, X', hL, e1, e2, ⟨⟨r, u, hv, hp, hb⟩, hF⟩, st⟩ | ⟨q, st₀, t, T', L, E, ce, h0, X', hL, e1, e2, ⟨u, hp, hb, hF⟩, hce, hcv, hcl, st⟩
  · cases hv
    obtain ⟨k1, k2, k3⟩ := vx_keep h0 e1 hS hA hf hL hF
    obtain ⟨t2, a1, b1⟩ := kk r u t T'.heap (locs ++ L) e1.symm (by rw [← e2]; exact X'.warmed.alike) hp hb k1 k2 k3 T' rfl X'
    exact ⟨t2, st t2 a1, b1⟩
  · obtain ⟨k1, k2, k3⟩ := vx_keep h0 e1 hS hAX hf hL hF
    obtain ⟨t2, a1, b1⟩ := kx E ce q u t T'.heap (locs ++ L) e1.symm (by rw [← e2]; exact X'.warmed.alike) hp hb k1 k2 k3 (by rw [e1]; exact hce) hcv hcl T' rfl X'
    exact ⟨t2, st.trans a1, b1⟩
theorem vx_calll {S SX : Type} {post : Int64 → S → Prop} {px : SX → Prop} {B : S → State → Prop} {BX : String → SX → State → Prop} {AX : Nat → Prop} (hr : vx_Run p l e R s m args below meth c H locs cells slots mc ms (F0 m pc ls st0) rest (va_Ql post B A1 a) (vx_X px BX AX) free) (hS : va_S A0 H0 H locs) (hA : ∀ q, q < H.size → A1 q → A0 q) (hf : ∀ q, free q → A0 q) (hAX : ∀ q, q < H.size → AX q → A0 q)
    (kx : ∀ (E : String) (ce : Cell) (q9 : Addr) (u : SX) (t : State) (H1 : Heap) (locs1 : List Loc), t.heap = H1 → s.vm.Alike t.vm → px u → BX E u t → H.size ≤ H1.size → (∀ q : Nat, q < H.size → ¬ AX q → H1[q]? = H[q]?) → va_S A0 H0 H1 locs1 → H1[q9]? = some ce → ce.vm = .none → s.vm.findClass E = some ce.cls → vx_W p l e R s m args below meth c H1 locs1 (cells + mc) (slots + ms) Q (F0 m pc ls rest) q9)
    (kk : ∀ (r : Int64) (u : S) (t : State) (H1 : Heap) (locs1 : List Loc), t.heap = H1 → s.vm.Alike t.vm → post r u → B u t → H.size ≤ H1.size → (∀ q : Nat, q < H.size → ¬ A1 q → H1[q]? = H[q]?) → va_S A0 H0 H1 locs1 → W p l e R s m args below meth c H1 locs1 (cells + mc) (slots + ms) Q (F0 m (pc + 3) ls (.long r :: rest))) : W p l e R s m args below meth c H locs cells slots Q (F0 m pc ls st0) := by
  intro T hT X
  rcases hr T hT X with ⟨v, st₀, t, T', L, h0, X', hL, e1, e2, ⟨⟨r, u, hv, hp, hb⟩, hF⟩, st⟩ | ⟨q, st₀, t, T', L, E, ce, h0, X', hL, e1, e2, ⟨u, hp, hb, hF⟩, hce, hcv, hcl, st⟩
  · cases hv
    obtain ⟨k1, k2, k3⟩ := vx_keep h0 e1 hS hA hf hL hF
    obtain ⟨t2, a1, b1⟩ := kk r u t T'.heap (locs ++ L) e1.symm (by rw [← e2]; exact X'.warmed.alike) hp hb k1 k2 k3 T' rfl X'
    exact ⟨t2, st t2 a1, b1⟩
  · obtain ⟨k1, k2, k3⟩ := vx_keep h0 e1 hS hAX hf hL hF
    obtain ⟨t2, a1, b1⟩ := kx E ce q u t T'.heap (locs ++ L) e1.symm (by rw [← e2]; exact X'.warmed.alike) hp hb k1 k2 k3 (by rw [e1]; exact hce) hcv hcl T' rfl X'
    exact ⟨t2, st.trans a1, b1⟩
theorem vx_callf {S SX : Type} {post : UInt32 → S → Prop} {px : SX → Prop} {B : S → State → Prop} {BX : String → SX → State → Prop} {AX : Nat → Prop} (hr : vx_Run p l e R s m args below meth c H locs cells slots mc ms (F0 m pc ls st0) rest (va_Qf post B A1 a) (vx_X px BX AX) free) (hS : va_S A0 H0 H locs) (hA : ∀ q, q < H.size → A1 q → A0 q) (hf : ∀ q, free q → A0 q) (hAX : ∀ q, q < H.size → AX q → A0 q)
    (kx : ∀ (E : String) (ce : Cell) (q9 : Addr) (u : SX) (t : State) (H1 : Heap) (locs1 : List Loc), t.heap = H1 → s.vm.Alike t.vm → px u → BX E u t → H.size ≤ H1.size → (∀ q : Nat, q < H.size → ¬ AX q → H1[q]? = H[q]?) → va_S A0 H0 H1 locs1 → H1[q9]? = some ce → ce.vm = .none → s.vm.findClass E = some ce.cls → vx_W p l e R s m args below meth c H1 locs1 (cells + mc) (slots + ms) Q (F0 m pc ls rest) q9)
    (kk : ∀ (r : UInt32) (u : S) (t : State) (H1 : Heap) (locs1 : List Loc), t.heap = H1 → s.vm.Alike t.vm → post r u → B u t → H.size ≤ H1.size → (∀ q : Nat, q < H.size → ¬ A1 q → H1[q]? = H[q]?) → va_S A0 H0 H1 locs1 → W p l e R s m args below meth c H1 locs1 (cells + mc) (slots + ms) Q (F0 m (pc + 3) ls (.float r :: rest))) : W p l e R s m args below meth c H locs cells slots Q (F0 m pc ls st0) := by
  intro T hT X
  rcases hr T hT X with ⟨v, st₀, t, T', L, h0, X', hL, e1, e2, ⟨⟨r, u, hv, hp, hb⟩, hF⟩, st⟩ | ⟨q, st₀, t, T', L, E, ce, h0, X', hL, e1, e2, ⟨u, hp, hb, hF⟩, hce, hcv, hcl, st⟩
  · cases hv
    obtain ⟨k1, k2, k3⟩ := vx_keep h0 e1 hS hA hf hL hF
    obtain ⟨t2, a1, b1⟩ := kk r u t T'.heap (locs ++ L) e1.symm (by rw [← e2]; exact X'.warmed.alike) hp hb k1 k2 k3 T' rfl X'
    exact ⟨t2, st t2 a1, b1⟩
  · obtain ⟨k1, k2, k3⟩ := vx_keep h0 e1 hS hAX hf hL hF
    obtain ⟨t2, a1, b1⟩ := kx E ce q u t T'.heap (locs ++ L) e1.symm (by rw [← e2]; exact X'.warmed.alike) hp hb k1 k2 k3 (by rw [e1]; exact hce) hcv hcl T' rfl X'
    exact ⟨t2, st.trans a1, b1⟩
theorem vx_calld {S SX : Type} {post : UInt64 → S → Prop} {px : SX → Prop} {B : S → State → Prop} {BX : String → SX → State → Prop} {AX : Nat → Prop} (hr : vx_Run p l e R s m args below meth c H locs cells slots mc ms (F0 m pc ls st0) rest (va_Qd post B A1 a) (vx_X px BX AX) free) (hS : va_S A0 H0 H locs) (hA : ∀ q, q < H.size → A1 q → A0 q) (hf : ∀ q, free q → A0 q) (hAX : ∀ q, q < H.size → AX q → A0 q)
    (kx : ∀ (E : String) (ce : Cell) (q9 : Addr) (u : SX) (t : State) (H1 : Heap) (locs1 : List Loc), t.heap = H1 → s.vm.Alike t.vm → px u → BX E u t → H.size ≤ H1.size → (∀ q : Nat, q < H.size → ¬ AX q → H1[q]? = H[q]?) → va_S A0 H0 H1 locs1 → H1[q9]? = some ce → ce.vm = .none → s.vm.findClass E = some ce.cls → vx_W p l e R s m args below meth c H1 locs1 (cells + mc) (slots + ms) Q (F0 m pc ls rest) q9)
    (kk : ∀ (r : UInt64) (u : S) (t : State) (H1 : Heap) (locs1 : List Loc), t.heap = H1 → s.vm.Alike t.vm → post r u → B u t → H.size ≤ H1.size → (∀ q : Nat, q < H.size → ¬ A1 q → H1[q]? = H[q]?) → va_S A0 H0 H1 locs1 → W p l e R s m args below meth c H1 locs1 (cells + mc) (slots + ms) Q (F0 m (pc + 3) ls (.double r :: rest))) : W p l e R s m args below meth c H locs cells slots Q (F0 m pc ls st0) := by
  intro T hT X
  rcases hr T hT X with ⟨v, st₀, t, T', L, h0, X', hL, e1, e2, ⟨⟨r, u, hv, hp, hb⟩, hF⟩, st⟩ | ⟨q, st₀, t, T', L, E, ce, h0, X', hL, e1, e2, ⟨u, hp, hb, hF⟩, hce, hcv, hcl, st⟩
  · cases hv
    obtain ⟨k1, k2, k3⟩ := vx_keep h0 e1 hS hA hf hL hF
    obtain ⟨t2, a1, b1⟩ := kk r u t T'.heap (locs ++ L) e1.symm (by rw [← e2]; exact X'.warmed.alike) hp hb k1 k2 k3 T' rfl X'
    exact ⟨t2, st t2 a1, b1⟩
  · obtain ⟨k1, k2, k3⟩ := vx_keep h0 e1 hS hAX hf hL hF
    obtain ⟨t2, a1, b1⟩ := kx E ce q u t T'.heap (locs ++ L) e1.symm (by rw [← e2]; exact X'.warmed.alike) hp hb k1 k2 k3 (by rw [e1]; exact hce) hcv hcl T' rfl X'
    exact ⟨t2, st.trans a1, b1⟩
theorem vx_callv {S SX : Type} {post : S → Prop} {px : SX → Prop} {B : S → State → Prop} {BX : String → SX → State → Prop} {AX : Nat → Prop} (hr : vx_Run p l e R s m args below meth c H locs cells slots mc ms (F0 m pc ls st0) rest (va_Qv post B A1 a) (vx_X px BX AX) free) (hS : va_S A0 H0 H locs) (hA : ∀ q, q < H.size → A1 q → A0 q) (hf : ∀ q, free q → A0 q) (hAX : ∀ q, q < H.size → AX q → A0 q)
    (kx : ∀ (E : String) (ce : Cell) (q9 : Addr) (u : SX) (t : State) (H1 : Heap) (locs1 : List Loc), t.heap = H1 → s.vm.Alike t.vm → px u → BX E u t → H.size ≤ H1.size → (∀ q : Nat, q < H.size → ¬ AX q → H1[q]? = H[q]?) → va_S A0 H0 H1 locs1 → H1[q9]? = some ce → ce.vm = .none → s.vm.findClass E = some ce.cls → vx_W p l e R s m args below meth c H1 locs1 (cells + mc) (slots + ms) Q (F0 m pc ls rest) q9)
    (kk : ∀ (u : S) (t : State) (H1 : Heap) (locs1 : List Loc), t.heap = H1 → s.vm.Alike t.vm → post u → B u t → H.size ≤ H1.size → (∀ q : Nat, q < H.size → ¬ A1 q → H1[q]? = H[q]?) → va_S A0 H0 H1 locs1 → W p l e R s m args below meth c H1 locs1 (cells + mc) (slots + ms) Q (F0 m (pc + 3) ls (rest))) : W p l e R s m args below meth c H locs cells slots Q (F0 m pc ls st0) := by
  intro T hT X
  rcases hr T hT X with ⟨v, st₀, t, T', L, h0, X', hL, e1, e2, ⟨⟨u, hv, hp, hb⟩, hF⟩, st⟩ | ⟨q, st₀, t, T', L, E, ce, h0, X', hL, e1, e2, ⟨u, hp, hb, hF⟩, hce, hcv, hcl, st⟩
  · cases hv
    obtain ⟨k1, k2, k3⟩ := vx_keep h0 e1 hS hA hf hL hF
    obtain ⟨t2, a1, b1⟩ := kk u t T'.heap (locs ++ L) e1.symm (by rw [← e2]; exact X'.warmed.alike) hp hb k1 k2 k3 T' rfl X'
    exact ⟨t2, st t2 a1, b1⟩
  · obtain ⟨k1, k2, k3⟩ := vx_keep h0 e1 hS hAX hf hL hF
    obtain ⟨t2, a1, b1⟩ := kx E ce q u t T'.heap (locs ++ L) e1.symm (by rw [← e2]; exact X'.warmed.alike) hp hb k1 k2 k3 (by rw [e1]; exact hce) hcv hcl T' rfl X'
    exact ⟨t2, st.trans a1, b1⟩
/-- caught by the row x of this method's table; the rows ahead don't take it -/
theorem vx_catch {own name : String} {E : String} {ce : Cell} {q : Addr} (hown : s.vm.findClass own = some m.cls) (pre : List ExceptionTableEntry) (x : ExceptionTableEntry) (suf : List ExceptionTableEntry) (hsplit : c.exceptionTable.toList = pre ++ x :: suf)
    (hpass : ∀ z ∈ pre, covers z pc = false ∨ (z.catchType ≠ 0 ∧ ∃ nm : String, (Cond.classLink own z.catchType nm).before args s = true ∧ va_Nc E nm s)) (hx : covers x pc = true) (h0 : x.catchType ≠ 0)
    (hlink : (Cond.classLink own x.catchType name).before args s = true) (hcast : (Cond.castable E name).before args s = true) (hcell : H[q]? = some ce) (hv : ce.vm = .none) (hcl : s.vm.findClass E = some ce.cls)
    (kk : W p l e R s m args below meth c H locs cells slots Q (F0 m x.handlerPc ls [.ref q])) : vx_W p l e R s m args below meth c H locs cells slots Q (F0 m pc ls rest) q := by
  intro T hT X
  have hpl : e.platform.magicAccessors = ({} : Platform).magicAccessors := by rw [X.admits.platform]
  obtain ⟨c3, c4, hc3, hc4, hasg⟩ := Cond.castable_spec hcast
  cases Option.some.inj (hc3.symm.trans hcl)
  obtain ⟨c5, hc5, hcl5⟩ := Cond.classLink_spec hown hlink e.platform hpl
  cases Option.some.inj (hc4.symm.trans hc5)
  obtain ⟨vm', X', st⟩ := X.thenCaughtThrough q (g := F0 m pc ls rest) rfl (Steps.refl _) (by rw [hT]; exact hcell) (by rw [hv]; rfl) (by obtain ⟨k9, h9, -⟩ := Vm.findClass_spec hcl; exact ⟨k9, h9⟩) pre x suf hsplit
    (fun z hz => by
      rcases hpass z hz with h | ⟨hz0, nm, hl1, hn1⟩
      · exact Or.inl h
      · obtain ⟨c6, hc6, hcl6⟩ := Cond.classLink_spec hown hl1 e.platform hpl
        obtain ⟨a8, b8, h1, h2, h3⟩ := hn1
        cases Option.some.inj (h1.symm.trans hcl)
        cases Option.some.inj (h2.symm.trans hc6)
        exact Or.inr ⟨hz0, _, hcl6, h3⟩) hx (Or.inr ⟨h0, c4, hcl5, hasg⟩)
  obtain ⟨t, a1, b1⟩ := kk (T.setVm vm') hT X'
  exact ⟨t, st.trans a1, b1⟩
end Rows
section Ends
variable {p : Program} {l : Launch} {e : Env} {R : Room} {s : State} {m : MethodId} {args : Array Value} {below : List Frame} {meth : Method} {c : Code} {H : Heap} {locs : List Loc} {cells slots : Nat} {Q : State → Prop}
variable {mc ms : Nat} {free : Addr → Prop} {A0 A1 : Nat → Prop} {H0 : Heap} {a : Array Value} {ls : Array Slot} {st0 rest : List Value}
variable {Qc : Array Value → State → Outcome → State → Prop} {XC : String → State → State → Prop}
/-- what a body that may throw owes at its end -/
def vx_MQ (below : List Frame) (Qc : Array Value → State → Outcome → State → Prop) (XC : String → State → State → Prop) (a : Array Value) (s : State) (mc ms : Nat) (free : Addr → Prop) : State → Prop := fun t =>
  ∃ o, t.status = .running ∧ Ended t below o ∧ vx_Q Qc XC mc ms free a s o t
theorem vx_ret {g : JFrame} {mc ms : Nat} (k : W p l e R s m args below meth c H locs cells slots (MQ below Qc args s mc ms free) g) : W p l e R s m args below meth c H locs cells slots (vx_MQ below Qc XC args s mc ms free) g := by
  intro T hT X
  obtain ⟨t, a1, o, b1, b2, b3, b4⟩ := k T hT X
  exact ⟨t, a1, o, b1, b2, Or.inl ⟨b3, b4⟩⟩
/-- not caught here: it goes on to the caller -/
theorem vx_widen {g : JFrame} {q : Addr} {k n : Nat} (h1 : cells ≤ k) (h2 : slots ≤ n) (kk : vx_W p l e R s m args below meth c H locs k n Q g q) : vx_W p l e R s m args below meth c H locs cells slots Q g q := fun T hT X => kk T hT (stand_widen X h1 h2)
theorem vx_out {pc : Nat} {E : String} {ce : Cell} {q : Addr} {mc ms : Nat} (hout : ∀ x ∈ c.exceptionTable.toList, covers x pc = false) (hlocks : meth.locks = false) (hcell : H[q]? = some ce) (hv : ce.vm = .none) (hcl : s.vm.findClass E = some ce.cls)
    (hx : ∀ t : State, t.heap = H → s.vm.Alike t.vm → XC E s t) (hf : ∀ z ∈ locs, free z.base) (hc : cells ≤ mc) (hs : slots ≤ ms) :
    vx_W p l e R s m args below meth c H locs cells slots (vx_MQ below Qc XC args s mc ms free) (F0 m pc ls rest) q := by
  intro T hT X
  obtain ⟨st1, hrun, hend, hW, hsm⟩ := X.leaveThrown q (g := F0 m pc ls rest) rfl rfl rfl hout hlocks
  have hcell9 : (T.setFrames (.throwing q :: below)).heap[q]? = some ce := by
    show T.heap[q]? = some ce
    rw [hT]; exact hcell
  exact ⟨_, st1, .threw q, hrun, hend, Or.inr ⟨q, rfl, E, ce, locs, hx _ hT hW.alike, hcell9, hv, hcl, hW, hsm.mono hc hs, hf⟩⟩
theorem vx_frame {U : State} {k n : Nat} (h : s.sameButNew ({ U with vm := s.vm } : State) locs k n) : s.heap.size ≤ U.heap.size ∧ ∀ q : Nat, q < s.heap.size → (∀ z ∈ locs, z.base ≠ q) → U.heap[q]? = s.heap[q]? := by
  obtain ⟨-, h2, -, -, -, h6⟩ := h
  refine ⟨h2, fun q hq hz => ?_⟩
  obtain ⟨c9, e1, e2, e3, e4⟩ := h6 q _ (Array.getElem?_eq_getElem hq)
  have hs : c9.slots = (s.heap[q]).slots := Array.ext_getElem? fun i => e4 i fun hm => hz _ hm rfl
  have h9 : c9 = s.heap[q] := by
    rw [hs] at e2
    exact e2
  have e5 : U.heap[q]? = some c9 := e1
  rw [e5, h9, Array.getElem?_eq_getElem hq]
/-- the words of a throw but the four that speak of the heap -/
def vx_no (w : Cond) : Bool := decide (w ≠ .isRef (.static Bundle.tN "UNASSIGNED_STACK" Bundle.steD)) && decide (w ≠ .isRef (.static Bundle.tN "SUPPRESSED_SENTINEL" Bundle.listD)) && decide (w ≠ .laysStatic Bundle.tN "UNASSIGNED_STACK" Bundle.steD) && decide (w ≠ .laysStatic Bundle.tN "SUPPRESSED_SENTINEL" Bundle.listD)
def vx_at0 (own : String) (ic : Nat) (X : String) (names : List String) : List Cond := (Bundle.ownAtoms0 own ic X names).filter vx_no
def vx_atS (own : String) (ic : Nat) (X : String) (names : List String) : List Cond := (Bundle.ownAtoms own ic X names).filter vx_no
/-- a word that the tables alone decide, or a good one -/
def vx_ot (w : Cond) : Bool := w.onTables || goodWord w
theorem vx_ot_at {args a' : Array Value} {s U : State} {w : Cond} (hW : s.WarmedH U.vm) (hvm : s.vm = U.vm) (hg : vx_ot w = true) (h : w.before args s = true) : w.before a' U = true := by
  simp only [vx_ot, Bool.or_eq_true] at hg
  rcases hg with hg | hg
  · exact va_tabs hg hvm h
  · exact word_at hW (good_of_word hg) h
/-- a list's words: the good ones out of the method's own list, the others by premises of their own -/
theorem vx_hat {args : Array Value} {s : State} {L B : List Cond} (h1 : ∀ w ∈ L.filter goodWord, w.before args s = true) (h2 : ∀ w ∈ L.filter (fun w => !goodWord w), w ∈ B) (h3 : ∀ w ∈ B, w.before args s = true) : ∀ w ∈ L, w.before args s = true := by
  intro w hw
  by_cases g : goodWord w = true
  · exact h1 w (List.mem_filter.mpr ⟨hw, g⟩)
  · refine h3 w (h2 w (List.mem_filter.mpr ⟨hw, ?_⟩))
    show (!goodWord w) = true
    cases hgw : goodWord w
    · rfl
    · exact absurd hgw g
theorem vx_c {args : Array Value} {s : State} {w : Cond} {B : List Cond} (h : w.before args s = true) (t : ∀ w ∈ B, w.before args s = true) : ∀ w' ∈ w :: B, w'.before args s = true := fun w' h' => (List.mem_cons.mp h').elim (fun e => by rw [e]; exact h) (t w')
theorem vx_n {args : Array Value} {s : State} : ∀ w ∈ ([] : List Cond), w.before args s = true := fun _ h => nomatch h
theorem vx_own {args : Array Value} {s : State} {L : List Cond} (h1 : ∀ w ∈ L.filter vx_no, w.before args s = true)
    (hU : (Cond.isRef (.static Bundle.tN "UNASSIGNED_STACK" Bundle.steD)).before args s = true) (hN : (Cond.isRef (.static Bundle.tN "SUPPRESSED_SENTINEL" Bundle.listD)).before args s = true)
    (lU : (Cond.laysStatic Bundle.tN "UNASSIGNED_STACK" Bundle.steD).before args s = true) (lN : (Cond.laysStatic Bundle.tN "SUPPRESSED_SENTINEL" Bundle.listD).before args s = true) : ∀ w ∈ L, w.before args s = true := by
  intro w hw
  by_cases e1 : w = .isRef (.static Bundle.tN "UNASSIGNED_STACK" Bundle.steD)
  · rw [e1]; exact hU
  · by_cases e2 : w = .isRef (.static Bundle.tN "SUPPRESSED_SENTINEL" Bundle.listD)
    · rw [e2]; exact hN
    · by_cases e3 : w = .laysStatic Bundle.tN "UNASSIGNED_STACK" Bundle.steD
      · rw [e3]; exact lU
      · by_cases e4 : w = .laysStatic Bundle.tN "SUPPRESSED_SENTINEL" Bundle.listD
        · rw [e4]; exact lN
        · exact h1 w (List.mem_filter.mpr ⟨hw, by unfold vx_no; rw [decide_eq_true e1, decide_eq_true e2, decide_eq_true e3, decide_eq_true e4]; rfl⟩)
/-- where a static field lies, its class's statics cell in H -/
def vx_L (C n d : String) (A : Nat → Prop) (U : State) (H : Heap) : Prop := ∃ (c : ClassId) (k : Class) (i : Nat) (f : Field) (a : Nat) (cell : Cell), U.vm.findClass C = some c ∧ U.fieldFound? C n d = some (c, k, i, f) ∧ f.isStatic = true ∧ k.statics = some a ∧ H[a]? = some cell ∧ cell.vm.isStatics = true ∧ cell.cls = c ∧ f.slot < cell.slots.size ∧ k.staticTypes[f.slot]? = some f.type ∧ ¬ A a
theorem vx_L.moved {C n d : String} {A : Nat → Prop} {u U : State} {H : Heap} (hvm : u.vm.Alike U.vm) (h : vx_L C n d A u H) : vx_L C n d A U H := by
  obtain ⟨c, k, i, f, a, cell, h1, h2, h3, h4, h5, h6, h7, h8, h9, h10⟩ := h
  obtain ⟨k', hi', he⟩ := State.fieldFound?_setVm hvm h2
  exact ⟨c, k', i, f, a, cell, by rw [hvm.findClass]; exact h1, hi', h3, by rw [he]; exact h4, h5, h6, h7, h8, by rw [he]; exact h9, h10⟩
theorem vx_L.kept {C n d : String} {A : Nat → Prop} {U : State} {H H1 : Heap} (h : vx_L C n d A U H) (hq : ∀ a : Nat, a < H.size → ¬ A a → H1[a]? = H[a]?) : vx_L C n d A U H1 := by
  obtain ⟨c, k, i, f, a, cell, h1, h2, h3, h4, h5, h6, h7, h8, h9, h10⟩ := h
  exact ⟨c, k, i, f, a, cell, h1, h2, h3, h4, by rw [hq a (Array.getElem?_eq_some_iff.mp h5).1 h10]; exact h5, h6, h7, h8, h9, h10⟩
theorem vx_L.narrow {C n d : String} {A B : Nat → Prop} {U : State} {H : Heap} (h : vx_L C n d A U H) (hAB : ∀ q, B q → A q) : vx_L C n d B U H := by
  obtain ⟨c, k, i, f, a, cell, h1, h2, h3, h4, h5, h6, h7, h8, h9, h10⟩ := h
  exact ⟨c, k, i, f, a, cell, h1, h2, h3, h4, h5, h6, h7, h8, h9, fun z => h10 (hAB _ z)⟩
theorem vx_L.word {C n d : String} {A : Nat → Prop} {s : State} {args : Array Value} (h : vx_L C n d A s s.heap) : (Cond.laysStatic C n d).before args s = true := by
  obtain ⟨c, k, i, f, a, cell, h1, h2, h3, h4, h5, h6, h7, h8, h9, -⟩ := h
  show (Cond.laysStatic C n d).holds args s none s [] = true
  exact Cond.laysStatic_of h1 h2 h3 h4 h5 h6 h7 h8 h9
/-- .. and what it holds: null or some reference -/
def vx_Zq (C n d : String) (A : Nat → Prop) (U : State) (H : Heap) : Prop := va_Zq C n d A U H ∧ vx_L C n d A U H
theorem vx_Zq.moved {C n d : String} {A : Nat → Prop} {u U : State} {H : Heap} (hvm : u.vm.Alike U.vm) (h : vx_Zq C n d A u H) : vx_Zq C n d A U H := ⟨va_Zq.moved hvm h.1, vx_L.moved hvm h.2⟩
theorem vx_Zq.kept {C n d : String} {A : Nat → Prop} {U : State} {H H1 : Heap} (h : vx_Zq C n d A U H) (hq : ∀ a : Nat, a < H.size → ¬ A a → H1[a]? = H[a]?) : vx_Zq C n d A U H1 := ⟨va_Zq.kept h.1 hq, vx_L.kept h.2 hq⟩
theorem vx_Zq.narrow {C n d : String} {A B : Nat → Prop} {U : State} {H : Heap} (h : vx_Zq C n d A U H) (hAB : ∀ q, B q → A q) : vx_Zq C n d B U H := ⟨va_Zq.narrow h.1 hAB, vx_L.narrow h.2 hAB⟩
theorem vx_Zqof {args : Array Value} {s : State} {C n d : String} {A : Nat → Prop} (hl : (Cond.laysStatic C n d).before args s = true) (hini : (Cond.initialized C).before args s = true) (h : (Cond.isRef (.static C n d)).before args s = true) (hA : ∀ a : Nat, a < s.heap.size → ¬ A a) : vx_Zq C n d A s s.heap := by
  refine ⟨va_Zqof hl hini h hA, ?_⟩
  obtain ⟨c, k, i, f, a, cell, h1, h2, h3, h4, h5, h6, h7, h8, h9⟩ := Cond.laysStatic_spec hl
  exact ⟨c, k, i, f, a, cell, h1, h2, h3, h4, h5, h6, h7, h8, h9, hA a (Array.getElem?_eq_some_iff.mp h5).1⟩
theorem vx_isRef {C n d : String} {v : Value} {A : Nat → Prop} {s : State} {args : Array Value} (h : va_Z C n d v A s s.heap) (hv : v.isRef = true) : (Cond.isRef (.static C n d)).before args s = true := by
  obtain ⟨cf, kf, fi, f, a, cell, h1, h2, h3, h4, h5, h6, h7, -⟩ := h
  have he : (Term.static C n d).eval args s none [] s = some v := by
    simp [Term.eval, State.fieldNamed?, h1, h2, h4, h5, h6, h7]
  simp only [Cond.before, Cond.holds, Cond.value, he]
  cases v <;> simp_all [Value.isRef]
theorem vx_isRefq {C n d : String} {A : Nat → Prop} {s : State} {args : Array Value} (h : va_Zq C n d A s s.heap) : (Cond.isRef (.static C n d)).before args s = true := by
  rcases h with h | ⟨t, h⟩
  · exact vx_isRef h rfl
  · exact vx_isRef h rfl
/-- the same frame, seen from here: as if the method were called anew in this heap -/
theorem vx_rebase {T : State} (X : Stand p l e R s m args below meth c T locs cells slots) {R' : Room} (hf : R'.frames ≤ R.frames) (hl : R'.locals ≤ R.locals) (hc : cells + R'.cells ≤ R.cells) (hs : slots + R'.slots ≤ R.slots) :
    Stand p l e R' ((T.setVm s.vm).setFrames (.invoking m args :: below)) m args below meth c T [] 0 0 := by
  have htop : (T.setVm s.vm).topJava?.isSome := X.here.top
  have hF : ((T.setVm s.vm).setFrames (.invoking m args :: below)).frames = .invoking m args :: below := State.frames_setFrames _ (State.cur_lt_of_top htop)
  obtain ⟨g₀, hg0⟩ := Option.isSome_iff_exists.mp htop
  obtain ⟨r, hr⟩ := State.topJava?_eq_some.mp hg0
  have hl9 : e.platform.stackLimits (T.setVm s.vm).me = e.platform.stackLimits s.me := X.limits
  have hb9 : (T.setVm s.vm).me.stackBytes = s.me.stackBytes := X.bytes
  refine ⟨X.admits, X.cas, X.clock, hF, ?_, X.hears, X.method, X.code, X.here, X.tail, X.warmed, ?_, ?_, ?_⟩
  · have h := X.room
    have hU : ((T.setVm s.vm).setFrames (.invoking m args :: below)).localsInUse = s.localsInUse := by
      rw [State.localsInUse_invoking hF (meth := meth) (c := c) X.method X.code, State.localsInUse_invoking X.frames X.method X.code]
    simp only [State.hasRoom, Bool.and_eq_true, decide_eq_true_eq] at h ⊢
    obtain ⟨⟨⟨⟨h1, h2, h3, h4, h5, h6⟩, h7⟩, h8⟩, h9⟩ := h
    rw [X.frames, List.length_cons] at h2 h3
    have q1 := X.heapSize
    have q2 := X.used
    simp only [hF, hU, List.length_cons, State.stackLimits_setFrames, State.stackBytes_setFrames, hl9, hb9]
    refine ⟨⟨⟨⟨by omega, by omega, by omega, by omega, by omega, h6⟩, ?_⟩, ?_⟩, X.book⟩
    · show T.heap.size + R'.cells ≤ e.platform.maxCells
      omega
    · show T.slotsUsed + R'.slots ≤ e.platform.maxSlots
      omega
  · rw [State.stackLimits_setFrames]; rfl
  · rw [State.stackBytes_setFrames]; rfl
  · refine ⟨?_, Nat.le_refl _, Nat.le_refl _, ?_, ?_, fun a c9 h9 => ⟨c9, h9, rfl, rfl, fun _ _ => rfl⟩⟩
    · obtain ⟨t, ht, -⟩ := State.frames_cons hr
      show T.setVm s.vm = { ((T.setVm s.vm).setFrames (.invoking m args :: below)).setFrames (T.setVm s.vm).frames with heap := T.heap, slotsUsed := T.slotsUsed }
      rw [State.setFrames_setFrames, State.setFrames_self ht]
      rfl
    · show T.slotsUsed = T.slotsUsed + ((T.heap.toList.drop T.heap.size).map (·.slots.size)).sum
      rw [List.drop_eq_nil_of_le (Nat.le_of_eq Array.length_toList)]
      rfl
    · show ((T.heap.toList.drop T.heap.size).map (·.slots.size)).sum ≤ 0
      rw [List.drop_eq_nil_of_le (Nat.le_of_eq Array.length_toList)]
      exact Nat.le_refl _
/-- 'throw new E()': new; dup; invokespecial; athrow -/
theorem vx_throw0 {cc : ByteArray} {pc : Nat} (hexec : p.tables.exec = Jvm.exec) (hb : c.code = cc) (hl : l.stackTraces = false) {own cls : String} {names : List String} {ik ic mc ms : Nat} {A : Nat → Prop}
    (hown : s.vm.findClass own = some m.cls) (hcls : Bundle.fit cls = true) (hnames : ∀ n ∈ names, Bundle.fit n = true)
    (hk : (Cond.classLink own ik cls).before args s = true) (hini : (Cond.initialized cls).before args s = true) (hat : ∀ w ∈ vx_at0 own ic cls names, w.before args s = true)
    (hgood : ∀ w ∈ Cond.classLink own ik cls :: Cond.initialized cls :: vx_at0 own ic cls names, vx_ot w = true)
    (hU : vx_Zq Bundle.tN "UNASSIGNED_STACK" Bundle.steD A s s.heap) (hN : vx_Zq Bundle.tN "SUPPRESSED_SENTINEL" Bundle.listD A s s.heap) (hS : va_S A s.heap H locs) (hsize : ls.size = c.maxLocals)
    (d0 : decode cc pc = .ok (.new ik, 3)) (d3 : decode cc (pc + 3) = .ok (.dup, 1)) (d4 : decode cc (pc + 4) = .ok (.invokespecial ic, 3)) (d7 : decode cc (pc + 7) = .ok (.athrow, 1))
    (hout : ∀ x ∈ c.exceptionTable.toList, covers x (pc + 7) = false)
    (hRframes : names.length + 3 < R.frames) (hRlocals : (rest.map fun v => v.category).sum + (13 * (names.length + 1) + 42) ≤ R.locals) (hRcells : cells + 1 ≤ R.cells) (hRslots : slots + 6 ≤ R.slots) (hlocks : meth.locks = false)
    (hx : ∀ t : State, s.vm.Alike t.vm → H.size ≤ t.heap.size → (∀ q : Nat, q < H.size → t.heap[q]? = H[q]?) → XC cls s t)
    (hf : ∀ z ∈ locs, free z.base) (hc : cells + 1 ≤ mc) (hs : slots + 6 ≤ ms) :
    W p l e R s m args below meth c H locs cells slots (vx_MQ below Qc XC args s mc ms free) (F0 m pc ls rest) := by
  intro T hT X
  have htr : e.platform.stackTraces = false := (show e.platform.stackTraces = l.stackTraces by rw [X.admits.platform]).trans hl
  have Y := vx_rebase X (R' := { frames := R.frames, locals := R.locals, cells := 1, slots := 6 }) (Nat.le_refl _) (Nat.le_refl _) hRcells hRslots
  obtain ⟨s', hA⟩ : ∃ z, z = (T.setVm s.vm).setFrames (.invoking m args :: below) := ⟨_, rfl⟩
  rw [← hA] at Y
  have hvm : s'.vm = s.vm := by rw [hA]; rfl
  have hhp : s'.heap = H := by rw [hA]; exact hT
  have hW0 : s.WarmedH s'.vm := by rw [hvm]; exact State.WarmedH.refl s
  have hat' : ∀ w ∈ vx_at0 own ic cls names, w.before args s' = true := fun w hw => vx_ot_at hW0 hvm.symm (hgood w (List.mem_cons_of_mem _ (List.mem_cons_of_mem _ hw))) (hat w hw)
  have hk' : (Cond.classLink own ik cls).before args s' = true := vx_ot_at hW0 hvm.symm (hgood _ List.mem_cons_self) hk
  have hini' : (Cond.initialized cls).before args s' = true := vx_ot_at hW0 hvm.symm (hgood _ (List.mem_cons_of_mem _ List.mem_cons_self)) hini
  have hU' : vx_Zq Bundle.tN "UNASSIGNED_STACK" Bundle.steD A s' s'.heap := by rw [hhp]; exact vx_Zq.moved hW0.alike (hU.kept hS.2.1)
  have hN' : vx_Zq Bundle.tN "SUPPRESSED_SENTINEL" Bundle.listD A s' s'.heap := by rw [hhp]; exact vx_Zq.moved hW0.alike (hN.kept hS.2.1)
  have h : ∀ w ∈ Bundle.ownAtoms0 own ic cls names, w.before args s' = true := vx_own hat' (vx_isRefq hU'.1) (vx_isRefq hN'.1) hU'.2.word hN'.2.word
  have hown' : s'.vm.findClass own = some m.cls := by rw [hvm]; exact hown
  have hins : (Cond.instantiable cls 6).before args s' = true := h _ (by simp [Bundle.ownAtoms0])
  obtain ⟨vm₁, cX, kX, hfX, hkX, -, -, X₁, st1⟩ := Y.newCold hexec (own := own) (C := cls) (index := ik) (n := 6) hown' hk' hins hini'
    (g := F0 m pc ls rest) rfl (by rw [hb]; exact d0) (Nat.le_refl _) (Nat.le_refl _)
  generalize hT1 : (T.setVm vm₁).pushCell { cls := cX, slots := kX.instanceTypes.map defaultValue, vm := .none } = T1 at X₁ st1
  have hcat : (Value.ref T.heap.size).category = 1 := rfl
  have hcellA : T1.heap[T.heap.size]? = some (freshCell cX kX) := by rw [← hT1]; exact State.heap_pushCell_size _ _
  have d3' : decode c.code (pc + 3) = .ok (.dup, 1) := by rw [hb]; exact d3
  obtain ⟨U, hsteps, hrun, hend, hW, hsame, ce, hce, hO⟩ := X₁.ctorThrow0 hexec htr (own := own) (cls := cls) (names := names) (ic := ic) hown' hcls hnames h (fun x hx => nomatch hx) hfX hkX hcellA (by rw [hhp, hT]; exact Nat.le_refl _)
    (g := { method := m, pc := pc + 4, locals := ls, stack := .ref T.heap.size :: .ref T.heap.size :: rest, locked := none }) rfl hsize rfl rfl (rest := rest) rfl
    (by rw [hb]; exact d4) (by rw [hb]; exact d7) hout hRframes (by simp only [List.map_cons, List.sum_cons, hcat]; omega) hlocks
  obtain ⟨f1, f2⟩ := vx_frame hsame
  rw [hhp] at f1 f2
  have hWs : s.WarmedH U.vm := State.WarmedH.trans hW0 hW
  have hcl : s.vm.findClass cls = some ce.cls := by
    have h9 := hO.cls
    rw [hvm] at h9
    exact h9
  have hall : s.sameButNew ({ U with vm := s.vm } : State) locs mc ms := by
    subst hA
    obtain ⟨e1, e2⟩ := hsame
    rw [State.setFrames_setFrames] at e1
    have h2 : (T.setVm s.vm).sameButNew ({ U with vm := s.vm } : State) [] (0 + 1) (0 + 6) := ⟨e1, e2⟩
    have h3 := X.same.trans h2
    rw [List.append_nil] at h3
    exact h3.mono hc hs
  refine ⟨U, ?_, .threw T.heap.size, hrun, hend, Or.inr ⟨T.heap.size, rfl, cls, ce, locs, hx U hWs.alike f1 (fun q hq => f2 q hq (fun z hz => nomatch hz)), hce, hO.vm, hcl, hWs, hall, hf⟩⟩
  refine st1 _ ?_
  show Steps p.tables e below (T1.setTop { method := m, pc := pc + 3, locals := ls, stack := .ref T.heap.size :: rest, locked := none }) _
  jvm_step X₁.here [X₁.here.top, hexec, d3', Value.category]
  exact hsteps
/-- 'throw new E("text")': new; dup; ldc; invokespecial; athrow -/
theorem vx_throwS {cc : ByteArray} {pc : Nat} (hexec : p.tables.exec = Jvm.exec) (hb : c.code = cc) (hl : l.stackTraces = false) {own cls text : String} {names : List String} {ik is ic mc ms sa : Nat} {A : Nat → Prop}
    (hown : s.vm.findClass own = some m.cls) (hcls : Bundle.fit cls = true) (hnames : ∀ n ∈ names, Bundle.fit n = true)
    (hk : (Cond.classLink own ik cls).before args s = true) (hini : (Cond.initialized cls).before args s = true) (hstr : vk_R own is text sa s) (hat : ∀ w ∈ vx_atS own ic cls names, w.before args s = true)
    (hgood : ∀ w ∈ Cond.classLink own ik cls :: Cond.initialized cls :: vx_atS own ic cls names, vx_ot w = true)
    (hU : vx_Zq Bundle.tN "UNASSIGNED_STACK" Bundle.steD A s s.heap) (hN : vx_Zq Bundle.tN "SUPPRESSED_SENTINEL" Bundle.listD A s s.heap) (hS : va_S A s.heap H locs) (hsize : ls.size = c.maxLocals)
    (d0 : decode cc pc = .ok (.new ik, 3)) (d3 : decode cc (pc + 3) = .ok (.dup, 1)) (d4 : decode cc (pc + 4) = .ok (.ldc is, 2)) (d6 : decode cc (pc + 6) = .ok (.invokespecial ic, 3)) (d9 : decode cc (pc + 9) = .ok (.athrow, 1))
    (hout : ∀ x ∈ c.exceptionTable.toList, covers x (pc + 9) = false)
    (hRframes : names.length + 3 < R.frames) (hRlocals : (rest.map fun v => v.category).sum + (13 * (names.length + 1) + 43) ≤ R.locals) (hRcells : cells + 1 ≤ R.cells) (hRslots : slots + 6 ≤ R.slots) (hlocks : meth.locks = false)
    (hx : ∀ t : State, s.vm.Alike t.vm → H.size ≤ t.heap.size → (∀ q : Nat, q < H.size → t.heap[q]? = H[q]?) → XC cls s t)
    (hf : ∀ z ∈ locs, free z.base) (hc : cells + 1 ≤ mc) (hs : slots + 6 ≤ ms) :
    W p l e R s m args below meth c H locs cells slots (vx_MQ below Qc XC args s mc ms free) (F0 m pc ls rest) := by
  intro T hT X
  have htr : e.platform.stackTraces = false := (show e.platform.stackTraces = l.stackTraces by rw [X.admits.platform]).trans hl
  have Y := vx_rebase X (R' := { frames := R.frames, locals := R.locals, cells := 1, slots := 6 }) (Nat.le_refl _) (Nat.le_refl _) hRcells hRslots
  obtain ⟨s', hA⟩ : ∃ z, z = (T.setVm s.vm).setFrames (.invoking m args :: below) := ⟨_, rfl⟩
  rw [← hA] at Y
  have hvm : s'.vm = s.vm := by rw [hA]; rfl
  have hhp : s'.heap = H := by rw [hA]; exact hT
  have hW0 : s.WarmedH s'.vm := by rw [hvm]; exact State.WarmedH.refl s
  have hat' : ∀ w ∈ vx_atS own ic cls names, w.before args s' = true := fun w hw => vx_ot_at hW0 hvm.symm (hgood w (List.mem_cons_of_mem _ (List.mem_cons_of_mem _ hw))) (hat w hw)
  have hk' : (Cond.classLink own ik cls).before args s' = true := vx_ot_at hW0 hvm.symm (hgood _ List.mem_cons_self) hk
  have hini' : (Cond.initialized cls).before args s' = true := vx_ot_at hW0 hvm.symm (hgood _ (List.mem_cons_of_mem _ List.mem_cons_self)) hini
  have hU' : vx_Zq Bundle.tN "UNASSIGNED_STACK" Bundle.steD A s' s'.heap := by rw [hhp]; exact vx_Zq.moved hW0.alike (hU.kept hS.2.1)
  have hN' : vx_Zq Bundle.tN "SUPPRESSED_SENTINEL" Bundle.listD A s' s'.heap := by rw [hhp]; exact vx_Zq.moved hW0.alike (hN.kept hS.2.1)
  have h : ∀ w ∈ Bundle.ownAtoms own ic cls names, w.before args s' = true := vx_own hat' (vx_isRefq hU'.1) (vx_isRefq hN'.1) hU'.2.word hN'.2.word
  have hown' : s'.vm.findClass own = some m.cls := by rw [hvm]; exact hown
  have hins : (Cond.instantiable cls 6).before args s' = true := h _ (by simp [Bundle.ownAtoms])
  obtain ⟨vm₁, cX, kX, hfX, hkX, -, -, X₁, st1⟩ := Y.newCold hexec (own := own) (C := cls) (index := ik) (n := 6) hown' hk' hins hini'
    (g := F0 m pc ls rest) rfl (by rw [hb]; exact d0) (Nat.le_refl _) (Nat.le_refl _)
  generalize hT1 : (T.setVm vm₁).pushCell { cls := cX, slots := kX.instanceTypes.map defaultValue, vm := .none } = T1 at X₁ st1
  have hcat : (Value.ref T.heap.size).category = 1 := rfl
  have hcellA : T1.heap[T.heap.size]? = some (freshCell cX kX) := by rw [← hT1]; exact State.heap_pushCell_size _ _
  have d3' : decode c.code (pc + 3) = .ok (.dup, 1) := by rw [hb]; exact d3
  have d4' : decode c.code (pc + 4) = .ok (.ldc is, 2) := by rw [hb]; exact d4
  have hstr' : vk_R own is text sa s' := vk_R.warm hW0 hstr
  obtain ⟨U, hsteps, hrun, hend, hW, hsame, ce, hce, hO⟩ := X₁.ctorThrowS hexec htr (own := own) (cls := cls) (names := names) (ic := ic) hown' hcls hnames h (fun x hx => nomatch hx) hfX hkX hcellA (by rw [hhp, hT]; exact Nat.le_refl _) (msg := .ref sa) rfl
    (g := { method := m, pc := pc + 6, locals := ls, stack := .ref sa :: .ref T.heap.size :: .ref T.heap.size :: rest, locked := none }) rfl hsize rfl rfl (rest := rest) rfl
    (by rw [hb]; exact d6) (by rw [hb]; exact d9) hout hRframes (by simp only [List.map_cons, List.sum_cons, hcat]; omega) hlocks
  obtain ⟨f1, f2⟩ := vx_frame hsame
  rw [hhp] at f1 f2
  have hWs : s.WarmedH U.vm := State.WarmedH.trans hW0 hW
  have hcl : s.vm.findClass cls = some ce.cls := by
    have h9 := hO.cls
    rw [hvm] at h9
    exact h9
  have hall : s.sameButNew ({ U with vm := s.vm } : State) locs mc ms := by
    subst hA
    obtain ⟨e1, e2⟩ := hsame
    rw [State.setFrames_setFrames] at e1
    have h2 : (T.setVm s.vm).sameButNew ({ U with vm := s.vm } : State) [] (0 + 1) (0 + 6) := ⟨e1, e2⟩
    have h3 := X.same.trans h2
    rw [List.append_nil] at h3
    exact h3.mono hc hs
  refine ⟨U, ?_, .threw T.heap.size, hrun, hend, Or.inr ⟨T.heap.size, rfl, cls, ce, locs, hx U hWs.alike f1 (fun q hq => f2 q hq (fun z hz => nomatch hz)), hce, hO.vm, hcl, hWs, hall, hf⟩⟩
  refine st1 _ ?_
  show Steps p.tables e below (T1.setTop { method := m, pc := pc + 3, locals := ls, stack := .ref T.heap.size :: rest, locked := none }) _
  jvm_step X₁.here [X₁.here.top, hexec, d3', Value.category]
  exact X₁.ldcString hexec (own := own) (text := text) (index := is) (a := sa) hown' hstr'.1 hstr'.2
    (g := { method := m, pc := pc + 4, locals := ls, stack := .ref T.heap.size :: .ref T.heap.size :: rest, locked := none }) rfl d4' _ hsteps
/-- 'throw new E("text")', the text by a wide index -/
theorem vx_throwSW {cc : ByteArray} {pc : Nat} (hexec : p.tables.exec = Jvm.exec) (hb : c.code = cc) (hl : l.stackTraces = false) {own cls text : String} {names : List String} {ik is ic mc ms sa : Nat} {A : Nat → Prop}
    (hown : s.vm.findClass own = some m.cls) (hcls : Bundle.fit cls = true) (hnames : ∀ n ∈ names, Bundle.fit n = true)
    (hk : (Cond.classLink own ik cls).before args s = true) (hini : (Cond.initialized cls).before args s = true) (hstr : vk_R own is text sa s) (hat : ∀ w ∈ vx_atS own ic cls names, w.before args s = true)
    (hgood : ∀ w ∈ Cond.classLink own ik cls :: Cond.initialized cls :: vx_atS own ic cls names, vx_ot w = true)
    (hU : vx_Zq Bundle.tN "UNASSIGNED_STACK" Bundle.steD A s s.heap) (hN : vx_Zq Bundle.tN "SUPPRESSED_SENTINEL" Bundle.listD A s s.heap) (hS : va_S A s.heap H locs) (hsize : ls.size = c.maxLocals)
    (d0 : decode cc pc = .ok (.new ik, 3)) (d3 : decode cc (pc + 3) = .ok (.dup, 1)) (d4 : decode cc (pc + 4) = .ok (.ldc_w is, 3)) (d7 : decode cc (pc + 7) = .ok (.invokespecial ic, 3)) (d10 : decode cc (pc + 10) = .ok (.athrow, 1))
    (hout : ∀ x ∈ c.exceptionTable.toList, covers x (pc + 10) = false)
    (hRframes : names.length + 3 < R.frames) (hRlocals : (rest.map fun v => v.category).sum + (13 * (names.length + 1) + 43) ≤ R.locals) (hRcells : cells + 1 ≤ R.cells) (hRslots : slots + 6 ≤ R.slots) (hlocks : meth.locks = false)
    (hx : ∀ t : State, s.vm.Alike t.vm → H.size ≤ t.heap.size → (∀ q : Nat, q < H.size → t.heap[q]? = H[q]?) → XC cls s t)
    (hf : ∀ z ∈ locs, free z.base) (hc : cells + 1 ≤ mc) (hs : slots + 6 ≤ ms) :
    W p l e R s m args below meth c H locs cells slots (vx_MQ below Qc XC args s mc ms free) (F0 m pc ls rest) := by
  intro T hT X
  have htr : e.platform.stackTraces = false := (show e.platform.stackTraces = l.stackTraces by rw [X.admits.platform]).trans hl
  have Y := vx_rebase X (R' := { frames := R.frames, locals := R.locals, cells := 1, slots := 6 }) (Nat.le_refl _) (Nat.le_refl _) hRcells hRslots
  obtain ⟨s', hA⟩ : ∃ z, z = (T.setVm s.vm).setFrames (.invoking m args :: below) := ⟨_, rfl⟩
  rw [← hA] at Y
  have hvm : s'.vm = s.vm := by rw [hA]; rfl
  have hhp : s'.heap = H := by rw [hA]; exact hT
  have hW0 : s.WarmedH s'.vm := by rw [hvm]; exact State.WarmedH.refl s
  have hat' : ∀ w ∈ vx_atS own ic cls names, w.before args s' = true := fun w hw => vx_ot_at hW0 hvm.symm (hgood w (List.mem_cons_of_mem _ (List.mem_cons_of_mem _ hw))) (hat w hw)
  have hk' : (Cond.classLink own ik cls).before args s' = true := vx_ot_at hW0 hvm.symm (hgood _ List.mem_cons_self) hk
  have hini' : (Cond.initialized cls).before args s' = true := vx_ot_at hW0 hvm.symm (hgood _ (List.mem_cons_of_mem _ List.mem_cons_self)) hini
  have hU' : vx_Zq Bundle.tN "UNASSIGNED_STACK" Bundle.steD A s' s'.heap := by rw [hhp]; exact vx_Zq.moved hW0.alike (hU.kept hS.2.1)
  have hN' : vx_Zq Bundle.tN "SUPPRESSED_SENTINEL" Bundle.listD A s' s'.heap := by rw [hhp]; exact vx_Zq.moved hW0.alike (hN.kept hS.2.1)
  have h : ∀ w ∈ Bundle.ownAtoms own ic cls names, w.before args s' = true := vx_own hat' (vx_isRefq hU'.1) (vx_isRefq hN'.1) hU'.2.word hN'.2.word
  have hown' : s'.vm.findClass own = some m.cls := by rw [hvm]; exact hown
  have hins : (Cond.instantiable cls 6).before args s' = true := h _ (by simp [Bundle.ownAtoms])
  obtain ⟨vm₁, cX, kX, hfX, hkX, -, -, X₁, st1⟩ := Y.newCold hexec (own := own) (C := cls) (index := ik) (n := 6) hown' hk' hins hini'
    (g := F0 m pc ls rest) rfl (by rw [hb]; exact d0) (Nat.le_refl _) (Nat.le_refl _)
  generalize hT1 : (T.setVm vm₁).pushCell { cls := cX, slots := kX.instanceTypes.map defaultValue, vm := .none } = T1 at X₁ st1
  have hcat : (Value.ref T.heap.size).category = 1 := rfl
  have hcellA : T1.heap[T.heap.size]? = some (freshCell cX kX) := by rw [← hT1]; exact State.heap_pushCell_size _ _
  have d3' : decode c.code (pc + 3) = .ok (.dup, 1) := by rw [hb]; exact d3
  have d4' : decode c.code (pc + 4) = .ok (.ldc_w is, 3) := by rw [hb]; exact d4
  have hstr' : vk_R own is text sa s' := vk_R.warm hW0 hstr
  obtain ⟨U, hsteps, hrun, hend, hW, hsame, ce, hce, hO⟩ := X₁.ctorThrowS hexec htr (own := own) (cls := cls) (names := names) (ic := ic) hown' hcls hnames h (fun x hx => nomatch hx) hfX hkX hcellA (by rw [hhp, hT]; exact Nat.le_refl _) (msg := .ref sa) rfl
    (g := { method := m, pc := pc + 7, locals := ls, stack := .ref sa :: .ref T.heap.size :: .ref T.heap.size :: rest, locked := none }) rfl hsize rfl rfl (rest := rest) rfl
    (by rw [hb]; exact d7) (by rw [hb]; exact d10) hout hRframes (by simp only [List.map_cons, List.sum_cons, hcat]; omega) hlocks
  obtain ⟨f1, f2⟩ := vx_frame hsame
  rw [hhp] at f1 f2
  have hWs : s.WarmedH U.vm := State.WarmedH.trans hW0 hW
  have hcl : s.vm.findClass cls = some ce.cls := by
    have h9 := hO.cls
    rw [hvm] at h9
    exact h9
  have hall : s.sameButNew ({ U with vm := s.vm } : State) locs mc ms := by
    subst hA
    obtain ⟨e1, e2⟩ := hsame
    rw [State.setFrames_setFrames] at e1
    have h2 : (T.setVm s.vm).sameButNew ({ U with vm := s.vm } : State) [] (0 + 1) (0 + 6) := ⟨e1, e2⟩
    have h3 := X.same.trans h2
    rw [List.append_nil] at h3
    exact h3.mono hc hs
  refine ⟨U, ?_, .threw T.heap.size, hrun, hend, Or.inr ⟨T.heap.size, rfl, cls, ce, locs, hx U hWs.alike f1 (fun q hq => f2 q hq (fun z hz => nomatch hz)), hce, hO.vm, hcl, hWs, hall, hf⟩⟩
  refine st1 _ ?_
  show Steps p.tables e below (T1.setTop { method := m, pc := pc + 3, locals := ls, stack := .ref T.heap.size :: rest, locked := none }) _
  jvm_step X₁.here [X₁.here.top, hexec, d3', Value.category]
  exact X₁.ldcStringW hexec (own := own) (text := text) (index := is) (a := sa) hown' hstr'.1 hstr'.2
    (g := { method := m, pc := pc + 4, locals := ls, stack := .ref T.heap.size :: .ref T.heap.size :: rest, locked := none }) rfl d4' _ hsteps
end Ends
section Bodies
variable {l : Launch}
theorem vx_ofW {y : MethodName} {ws ws' : List Cond} {rm : Room} {Pc : Array Value → State → Prop} {Qc : Array Value → State → Outcome → State → Prop} {XC : String → State → State → Prop} {mc ms : Nat} {free : Addr → Prop} {cc : ByteArray} {maxL : Nat} {ret : Option FieldType}
    (hy : plainName y.cls = true) (hw : ws = Cond.code y cc maxL ret :: ws')
    (body : ∀ p e s m args below meth c s₁, BodyLoose p l y (headSpec ws rm) cc maxL ret e s m args below meth c s₁ → c.maxLocals = maxL → (∀ x ∈ c.exceptionTable.toList, False) → Pc args s →
      W p l e (headSpec ws rm).room s m args below meth c s.heap [] 0 0 (vx_MQ below Qc XC args s mc ms free) (entryFrame m args maxL)) : vx_Met l y ws rm Pc Qc XC mc ms free := by
  refine MetFree.of_bodyS (code := cc) (maxLocals := maxL) (ret := ret) hy ?_ ?_
  · intro args s m h hn
    obtain ⟨meth, c, h1, h2, h3, h4, h5, h6, -, -⟩ := Cond.code_spec hn (atoms_spec (ws := ws) h _ (by rw [hw]; exact List.mem_cons_self))
    exact ⟨meth, c, h1, h2, h3, h4, h5, h6⟩
  · intro p e s m args below meth c s₁ B hml hP _
    have hh0 : s₁.heap = s.heap := by rw [B.state]; rfl
    have ht : ∀ x ∈ c.exceptionTable.toList, False := by
      obtain ⟨meth9, c9, h1, h2, -, -, -, -, h7, -⟩ := Cond.code_spec B.named (atoms_spec (ws := ws) B.pre _ (by rw [hw]; exact List.mem_cons_self))
      cases Option.some.inj (h1.symm.trans B.method)
      cases Option.some.inj (h2.symm.trans (Stand.of_body B).code)
      intro x hx
      rw [Array.isEmpty_iff.mp h7] at hx
      cases hx
    obtain ⟨t, a1, o, b1, b2, b3⟩ := body p e s m args below meth c s₁ B hml ht hP s₁ hh0 (Stand.of_body B)
    exact ⟨t, o, a1, b1, b2, b3⟩
/-- the table of a body with handlers -/
theorem vx_table {p : Program} {x y : MethodName} {S : Spec} {cc bytes : ByteArray} {maxL maxL' : Nat} {ret ret' : Option FieldType} {e : Env} {s s₁ : State} {m : MethodId} {args : Array Value} {below : List Frame} {meth : Method} {c : Code} {hh : List (Nat × Nat × Nat × Nat)}
    (B : BodyLoose p l y S cc maxL ret e s m args below meth c s₁) (h : (Cond.codeWith y bytes maxL' ret' hh).before args s = true) : c.exceptionTable.toList = tableOf hh := by
  obtain ⟨m9, meth9, c9, hn9, h1, h2, -, -, h6, -⟩ := Cond.codeWith_spec h
  cases Option.some.inj (hn9.symm.trans B.named)
  cases Option.some.inj (h1.symm.trans B.method)
  cases Option.some.inj (h2.symm.trans (Stand.of_body B).code)
  rw [← h6, table_eq]
end Bodies
end VXA
/-! ===== END ===== -/
/-! ===== BEGIN a static call of a method with an exception table ===== -/
section VXS
variable {p : Program} {l : Launch} {e : Env} {R : Room} {s : State} {m : MethodId} {args : Array Value} {below : List Frame} {meth : Method} {c : Code} {T : State} {H : Heap} {locs : List Loc} {cells slots : Nat}
abbrev vx_CSW (R : Room) (s : State) (args : Array Value) (own : String) (index : Nat) (y : MethodName) (bytes : ByteArray) (maxL : Nat) (ret : Option FieldType) (hh : List (Nat × Nat × Nat × Nat)) (ws : List Cond) (rm : Room) (mc ms n : Nat) : Prop :=
  (rm.cells = mc ∧ rm.slots = ms ∧ rm.frames + 1 ≤ R.frames ∧ 8 + (maxL + 11) + rm.locals ≤ R.locals ∧ (∀ w ∈ ws, ∀ (a' : Array Value) (U : State), s.WarmedH U.vm → w.before a' U = true) ∧ Cond.codeWith y bytes maxL ret hh ∈ ws) ∧
  (Cond.codeWith y bytes maxL ret hh).before args s = true ∧ (Cond.initialized y.cls).before args s = true ∧ (y.cls ≠ "java/lang/invoke/MethodHandle" ∧ y.cls ≠ "java/lang/invoke/VarHandle") ∧
  (∀ sig, parseMethodDescriptor y.desc = some sig → n = sig.parameters.length) ∧ (Cond.methodLink own index y).before args s = true ∧ (Cond.static y).before args s = true
theorem vx_cwSW {own : String} {index maxL mc ms : Nat} {y : MethodName} {bytes : ByteArray} {ret : Option FieldType} {hh : List (Nat × Nat × Nat × Nat)} {Ts ws ws' : List Cond} {rm : Room} (n : Nat) (ht : ∀ w ∈ Ts, w.before args s = true) (hT : GoodIn Ts (va_wsS own index y ws)) (hw : ws = Cond.codeWith y bytes maxL ret hh :: ws') (hrc : rm.cells = mc) (hrs : rm.slots = ms)
    (hd : y.cls ≠ "java/lang/invoke/MethodHandle" ∧ y.cls ≠ "java/lang/invoke/VarHandle" ∧ (parseMethodDescriptor y.desc).map (fun d => d.parameters.length) = some n) (hR : rm.frames + 1 ≤ R.frames ∧ 8 + (maxL + 11) + rm.locals ≤ R.locals) :
    vx_CSW R s args own index y bytes maxL ret hh ws rm mc ms n := by
  have ok : ∀ w ∈ va_wsS own index y ws, w.before args s = true := fun w h => ht w (hT w h).1
  have hG : GoodIn Ts ws := fun w h => hT w (by unfold va_wsS; exact List.mem_append_right _ h)
  have hc : Cond.codeWith y bytes maxL ret hh ∈ ws := by rw [hw]; exact List.mem_cons_self
  refine ⟨⟨hrc, hrs, hR.1, hR.2, pay_in ht hG, hc⟩, ht _ (hG _ hc).1, ok _ (by simp [va_wsS]), ⟨hd.1, hd.2.1⟩, fun sig h => ?_, ok _ (by simp [va_wsS]), ok _ (by simp [va_wsS])⟩
  have h2 := hd.2.2
  rw [h] at h2
  exact (Option.some.inj h2).symm
theorem vx_callSW (X : Stand p l e R s m args below meth c T locs cells slots) (hexec : p.tables.exec = Jvm.exec) {own : String} {index : Nat} {y : MethodName} {bytes : ByteArray} {maxL : Nat} {ret : Option FieldType} {hh : List (Nat × Nat × Nat × Nat)}
    (hown : s.vm.findClass own = some m.cls) (hlink : (Cond.methodLink own index y).before args s = true) (hstat : (Cond.static y).before args s = true) (hinit : (Cond.initialized y.cls).before args s = true)
    (hcode : (Cond.codeWith y bytes maxL ret hh).before args s = true) (hy : y.cls ≠ "java/lang/invoke/MethodHandle" ∧ y.cls ≠ "java/lang/invoke/VarHandle")
    {W9 : Nat} {Pre : Pt → Array Value → Prop} {Post : Pt → Array Value → Option Value → Pt → Prop} (hK : Back l R p e below s args y 3 W9 Pre Post)
    {g : JFrame} (hg : g.method = m) (hsize : g.locals.size = c.maxLocals) {argsL rest : List Value} (hlen : ∀ sig, parseMethodDescriptor y.desc = some sig → argsL.length = sig.parameters.length)
    (hstack : g.stack = argsL.reverse ++ rest) (hW : 2 * g.monitorRoom + (rest.map fun v => v.category).sum ≤ W9) (hdg : decode c.code g.pc = .ok (.invokestatic index, 3))
    (hpre : ∀ vm₁, s.WarmedH vm₁ → Pre ⟨T.setVm vm₁, locs, cells, slots⟩ argsL.toArray) :
    ∃ (v : Option Value) (vm₁ : Vm) (B : Pt), s.WarmedH vm₁ ∧ Stand p l e R s m args below meth c B.U B.locs B.cells B.slots ∧ Post ⟨T.setVm vm₁, locs, cells, slots⟩ argsL.toArray v B ∧
      ∀ target, Steps p.tables e below (B.U.setTop { g with pc := g.pc + 3, stack := v.toList ++ rest }) target → Steps p.tables e below (T.setTop g) target := by
  obtain ⟨mk, methM, cM, hnamed, hmethM, -, -, -, -, -, -, hsigM⟩ := Cond.codeWith_spec hcode
  have hstatic : methM.isStatic = true := Cond.static_spec hnamed hmethM hstat
  obtain ⟨kP, hkP, -⟩ := className_of_methodNamed hnamed
  have hinitP : kP.init = .initialized := Cond.initialized_spec (findClass_of_methodNamed hnamed) hkP hinit
  obtain ⟨vm₁, X₁, hstep₁⟩ := X.invokestatic hexec hown hlink hnamed hmethM hstatic hkP hinitP hy (g := g) hg (argsL := argsL) (rest := rest) (hlen _ hsigM) hstack hdg
  obtain ⟨v, B, X', hpost, hsteps⟩ := hK m meth c ⟨T.setVm vm₁, locs, cells, slots⟩ { g with stack := rest } (.invokestatic index) mk argsL.toArray X₁ hg hsize hdg hW (X₁.named hnamed) (hpre vm₁ X₁.warmed)
  exact ⟨v, vm₁, B, X₁.warmed, X', hpost, fun target h => hstep₁ _ fun acts => by rw [doInvoke_state]; exact hsteps.trans h⟩
theorem vx_runSW {y : MethodName} {bytes cc : ByteArray} {maxL nL mc ms n index : Nat} {ret : Option FieldType} {hh : List (Nat × Nat × Nat × Nat)} {ws : List Cond} {rm : Room} {Pc : Array Value → State → Prop} {Qc : Array Value → State → Outcome → State → Prop} {free : Addr → Prop} {Ts : List Cond} {own : String} {As rest : List Value} {g : JFrame}
    (S : CallFix p m c cc nL s args Ts own) (hM : Met l y ws rm Pc Qc mc ms free) (cw : vx_CSW R s args own index y bytes maxL ret hh ws rm mc ms n) (hp : PreS s H Pc As)
    (hg : g.method = m) (hn : As.length = n) (hsize : g.locals.size = nL) (hstack : g.stack = As.reverse ++ rest) (hW : 2 * g.monitorRoom + (rest.map fun v => v.category).sum ≤ 8) (hdg : decode cc g.pc = .ok (.invokestatic index, 3)) (hf : cells + mc ≤ R.cells ∧ slots + ms ≤ R.slots) :
    va_Run p l e R s m args below meth c H locs cells slots mc ms g rest (Qc As.toArray) (free) := by
  obtain ⟨⟨hrc, hrs, hfr, hlo, hws, hcw⟩, hcode, hini, hy, hlen, hl, hstt⟩ := cw
  have hK : Back l R p e below s args y 3 8 (PreOf R mc ms Pc) (PostOf Qc mc ms free) := va_backW (hh := hh) (bytes := bytes) (maxL := maxL) (ret := ret) hM hp.1 hrc hrs hfr hlo hws hcw (fun a' U hW => word_at hW (Or.inl (by first | rfl | simp [Cond.onTables, Cond.keeps, Cond.steady])) hini)
  obtain ⟨hx, hb, hml, ho, -⟩ := S
  intro T hT X
  obtain ⟨v, vm₁, ⟨U', l2, c2, s2⟩, hW₁, X', ⟨g', mk, t, L, e1, e2, hq, h1, hL, h2, h3⟩, st⟩ := vx_callSW X hx (hh := hh) (bytes := bytes) (maxL := maxL) (ret := ret) ho hl hstt hini hcode hy hK hg (hsize.trans hml.symm) (argsL := As) (rest := rest) (fun sig h => hn.trans (hlen sig h)) hstack hW (by rw [hb]; exact hdg)
    (fun vm₁ hW₁ => ⟨hf.1, hf.2, hp.2 (T.setVm vm₁) hT hW₁⟩)
  dsimp only [Pt.U, Pt.locs, Pt.cells, Pt.slots] at X' e1 e2 h1 h2 h3 st
  subst h1; subst h2; subst h3
  exact ⟨v, (T.setVm vm₁).calling g' mk As.toArray, t, U', L, hT, X', hL, e1, e2, hq, st⟩
/-- not caught here, past rows that name other classes: it goes on to the caller -/
theorem vx_outP {p : Program} {l : Launch} {e : Env} {R : Room} {s : State} {m : MethodId} {args : Array Value} {below : List Frame} {meth : Method} {c : Code} {H : Heap} {locs : List Loc} {cells slots : Nat} {free : Addr → Prop} {ls : Array Slot} {rest : List Value} {Qc : Array Value → State → Outcome → State → Prop} {XC : String → State → State → Prop}
    {pc : Nat} {own E : String} {ce : Cell} {q : Addr} {mc ms : Nat} (hown : s.vm.findClass own = some m.cls) (hlocks : meth.locks = false)
    (hpass : ∀ z ∈ c.exceptionTable.toList, covers z pc = false ∨ (z.catchType ≠ 0 ∧ ∃ nm : String, (Cond.classLink own z.catchType nm).before args s = true ∧ va_Nc E nm s)) (hcell : H[q]? = some ce) (hv : ce.vm = .none) (hcl : s.vm.findClass E = some ce.cls)
    (hx : ∀ t : State, t.heap = H → s.vm.Alike t.vm → XC E s t) (hf : ∀ z ∈ locs, free z.base) (hc : cells ≤ mc) (hs : slots ≤ ms) :
    vx_W p l e R s m args below meth c H locs cells slots (vx_MQ below Qc XC args s mc ms free) (F0 m pc ls rest) q := by
  intro T hT X
  have hpl : e.platform.magicAccessors = ({} : Platform).magicAccessors := by rw [X.admits.platform]
  obtain ⟨vm', hW', X', st⟩ := X.outThrough hlocks q (g := F0 m pc ls rest) rfl rfl rfl (cell := ce) (by rw [hT]; exact hcell) (by rw [hv]; rfl)
    (by obtain ⟨k9, h9, -⟩ := Vm.findClass_spec hcl; exact ⟨k9, h9⟩) (fun z hz => by
      rcases hpass z hz with h | ⟨hz0, nm, hl1, hn1⟩
      · exact Or.inl h
      · obtain ⟨c6, hc6, hcl6⟩ := Cond.classLink_spec hown hl1 e.platform hpl
        obtain ⟨a8, b8, h1, h2, h3⟩ := hn1
        cases Option.some.inj (h1.symm.trans hcl)
        cases Option.some.inj (h2.symm.trans hc6)
        exact Or.inr ⟨hz0, _, hcl6, h3⟩)
  obtain ⟨g₀, hfr⟩ := X'.frames_eq
  have hcell9 : ((T.setVm vm').setFrames (.throwing q :: below)).heap[q]? = some ce := by
    show T.heap[q]? = some ce
    rw [hT]; exact hcell
  have hend : Ended ((T.setVm vm').setFrames (.throwing q :: below)) below (.threw q) := State.frames_setFrames _ (State.cur_lt_of_frames hfr)
  refine ⟨(T.setVm vm').setFrames (.throwing q :: below), ?_, .threw q, X'.here.running, hend, Or.inr ⟨q, rfl, E, ce, locs, hx _ hT (X'.ends _).1.alike, hcell9, hv, hcl, (X'.ends _).1, (X'.ends _).2.mono hc hs, hf⟩⟩
  rw [X.pushThrowing_eq]
  exact st
/-- a thing of a world lies in the heap -/
theorem vx_lt {D : va_G} {cl : List vw_C} {ws : va_W} {H1 : Heap} (h : va_P D cl ws H1) {k : Nat} {q : Nat × va_E} (hk : ws[k]? = some q) : q.1 < H1.size := (h k q hk).lt
end VXS
/-! ===== END ===== -/
/-! ===== BEGIN methods with a table of their own: called by a name, returning or throwing ===== -/
section VXH
/-! vx_backW, vx_callVX, vx_callSX, vx_callVW, vx_runVW, vx_runVX, vx_runSX, vx_ofWH follow the same proofs as their sisters above (Free/Laws.lean, Shelf42/LK1.lean); vx_outP calls Shelf42/NT130.lean (outThrough). -/
section
variable {l : Launch} {R : Room} {p : Program} {e : Env} {below : List Frame} {s : State} {sargs : Array Value} {y : MethodName} {len W9 : Nat}
theorem vx_backW {ws : List Cond} {rm : Room} {Pc : Array Value → State → Prop} {Qc : Array Value → State → Outcome → State → Prop} {XC : String → State → State → Prop} {mc ms : Nat} {free : Addr → Prop} {bytes : ByteArray} {maxL : Nat} {ret : Option FieldType} {hh : List (Nat × Nat × Nat × Nat)}
    (hM : vx_Met l y ws rm Pc Qc XC mc ms free) (hblind : FrameBlind Pc) (hrc : rm.cells = mc) (hrs : rm.slots = ms)
    (hframes : rm.frames + 1 ≤ R.frames) (hlocals : W9 + (maxL + 11) + rm.locals ≤ R.locals)
    (hws : ∀ w ∈ ws, ∀ a' U, s.WarmedH U.vm → w.before a' U = true) (hcode : Cond.codeWith y bytes maxL ret hh ∈ ws) (hinit : ∀ a' U, s.WarmedH U.vm → (Cond.initialized y.cls).before a' U = true) :
    vx_Back l R p e below s sargs y len W9 (PreOf R mc ms Pc) (PostOf Qc mc ms free) (vx_Post XC mc ms free) := by
  intro m meth c A g ig mk a X hg hsize hdg hW hn hp
  have h1 : (headSpec ws rm).pre.before a A.U = true := atoms_intro fun w hw => hws w hw _ _ X.warmed
  have h2 : (Cond.codeWith y bytes maxL ret hh).before a A.U = true := hws _ hcode _ _ X.warmed
  have h3 : (Cond.initialized y.cls).before a A.U = true := hinit _ _ X.warmed
  have h4 : A.cells + (headSpec ws rm).room.cells ≤ R.cells := by rw [show (headSpec ws rm).room.cells = mc from hrc]; exact hp.1
  have h5 : A.slots + (headSpec ws rm).room.slots ≤ R.slots := by rw [show (headSpec ws rm).room.slots = ms from hrs]; exact hp.2.1
  have hPc : Pc a (A.U.calling g mk a) := hblind _ _ _ _ hp.2.2
  obtain ⟨U, Ls, c0, s0⟩ := A
  dsimp only [Pt.U, Pt.locs, Pt.cells, Pt.slots] at h1 h2 h3 h4 h5 X hn hPc ⊢
  obtain ⟨m9, methY, cY, hn9, hmY, hcY, -, hlY, -⟩ := Cond.codeWith_spec h2
  cases Option.some.inj (hn9.symm.trans hn)
  obtain ⟨kY, hkY, -⟩ := className_of_methodNamed hn
  have hinitY : kY.init = .initialized := Cond.initialized_spec (findClass_of_methodNamed hn) hkY h3
  have h : At U g.method c below := by rw [hg]; exact X.here
  have hlocals9 : W9 + (maxL + 11) + (headSpec ws rm).room.locals ≤ R.locals := hlocals
  have happ : (headSpec ws rm).appliesLoose y e.platform (U.calling g mk a) = true :=
    Spec.appliesLoose_calling (g := g) h hdg hn hkY hinitY
      (X.room_calling (g := g) (R' := (headSpec ws rm).room) hsize hmY hcY hframes (by rw [hlY]; omega) h4 h5) h1
  obtain ⟨mid, hmid⟩ := h.above
  have hfr : (U.setTop g).frames = (.java g :: mid) ++ below := by rw [State.frames_setTop' g h.top, hmid]; rfl
  obtain ⟨o, s₂, hsteps, -, hend, hq⟩ := Steps.callFree hM p X.admits X.cas X.clock (acts := []) hfr happ hPc trivial
  have hq' : vx_Q Qc XC mc ms free a (U.calling g mk a) o s₂ := hq
  rw [State.frames_setTop' g h.top] at hend
  obtain ⟨g₀, hg0⟩ := Option.isSome_iff_exists.mp h.top
  obtain ⟨r, hr⟩ := State.topJava?_eq_some.mp hg0
  have hr' : (({ U with heap := s₂.heap, slotsUsed := s₂.slotsUsed } : State).setVm s₂.vm).frames = .java g₀ :: r := hr
  rcases hq' with ⟨hqc, L, hfe, hL⟩ | ⟨q, rfl, E, ce, L, hx, hce, hcv, hcl, hW₂, hsm, hL⟩
  · obtain ⟨⟨v, rfl⟩, hW₂, e2, q2, q3, q4, q5, q6⟩ := id hfe
    have e3 : s₂ = ({ (U.calling g mk a).setFrames s₂.frames with heap := s₂.heap, slotsUsed := s₂.slotsUsed } : State).setVm s₂.vm := by
      have : s₂ = ({ s₂ with vm := (U.calling g mk a).vm } : State).setVm s₂.vm := rfl
      rw [e2] at this
      exact this
    obtain ⟨c₂, i₂, len₂, hc₂, hd₂, hf₂⟩ := hend
    have hW' : U.WarmedH s₂.vm := hW₂
    have hcc : c₂ = c := by
      have h1 : s₂.code? g.method = U.code? g.method := by
        rw [State.code?_eq, State.code?_eq, hW'.alike.method?]
      exact Option.some.inj (hc₂.symm.trans (h1.trans h.code))
    subst hcc
    have hlen : len₂ = len := by rw [hdg] at hd₂; cases hd₂; rfl
    subst hlen
    have hs₂ : s₂ = (({ U with heap := s₂.heap, slotsUsed := s₂.slotsUsed } : State).setVm s₂.vm).setTop { g with pc := g.pc + len₂, stack := v.toList ++ g.stack } := by
      refine e3.trans ?_
      rw [hf₂, State.calling_eq h.top, State.setFrames_setFrames, State.setTop_of_frames _ hr', hr]
      rfl
    have hsame : U.sameButNew ({ U with heap := s₂.heap, slotsUsed := s₂.slotsUsed } : State) L mc ms := by
      refine ⟨?_, q2, q3, q4, q5, q6⟩
      obtain ⟨t, ht, -⟩ := State.frames_cons hr
      show ({ U with heap := s₂.heap, slotsUsed := s₂.slotsUsed } : State) = { U.setFrames U.frames with heap := s₂.heap, slotsUsed := s₂.slotsUsed }
      rw [State.setFrames_self ht]
    subst hg
    refine Or.inl ⟨v, ⟨(({ U with heap := s₂.heap, slotsUsed := s₂.slotsUsed } : State).setVm s₂.vm), Ls ++ L, c0 + mc, s0 + ms⟩,
      ⟨X.admits, X.cas, X.clock, X.frames, X.room, X.hears, X.method, X.code, (X.here.setHeapUsed s₂.heap s₂.slotsUsed).setVm hW'.alike, X.tail, State.WarmedH.trans X.warmed hW', X.limits, X.bytes, X.same.trans (hsame.setVm s.vm)⟩,
      ⟨g, mk, s₂, L, rfl, rfl, hqc, rfl, hL, rfl, rfl⟩, ?_⟩
    show Steps p.tables e below _ ((({ U with heap := s₂.heap, slotsUsed := s₂.slotsUsed } : State).setVm s₂.vm).setTop { g with pc := g.pc + len₂, stack := v.toList ++ g.stack })
    rw [← hs₂]
    exact hsteps
  · obtain ⟨e2, q2, q3, q4, q5, q6⟩ := id hsm
    have e3 : s₂ = ({ (U.calling g mk a).setFrames s₂.frames with heap := s₂.heap, slotsUsed := s₂.slotsUsed } : State).setVm s₂.vm := by
      have : s₂ = ({ s₂ with vm := (U.calling g mk a).vm } : State).setVm s₂.vm := rfl
      rw [e2] at this
      exact this
    have hf₂ : s₂.frames = .throwing q :: .java g :: U.frames.tail := hend
    have hW' : U.WarmedH s₂.vm := hW₂
    have hs₂ : s₂ = ((({ U with heap := s₂.heap, slotsUsed := s₂.slotsUsed } : State).setVm s₂.vm).setTop g).pushFrame (.throwing q) := by
      refine e3.trans ?_
      rw [hf₂, State.calling_eq h.top, State.setFrames_setFrames, State.pushFrame, State.frames_setTop _ hr', State.setTop_of_frames _ hr', State.setFrames_setFrames, hr]
      rfl
    have hsame : U.sameButNew ({ U with heap := s₂.heap, slotsUsed := s₂.slotsUsed } : State) L mc ms := by
      refine ⟨?_, q2, q3, q4, q5, q6⟩
      obtain ⟨t, ht, -⟩ := State.frames_cons hr
      show ({ U with heap := s₂.heap, slotsUsed := s₂.slotsUsed } : State) = { U.setFrames U.frames with heap := s₂.heap, slotsUsed := s₂.slotsUsed }
      rw [State.setFrames_self ht]
    subst hg
    refine Or.inr ⟨q, ⟨(({ U with heap := s₂.heap, slotsUsed := s₂.slotsUsed } : State).setVm s₂.vm), Ls ++ L, c0 + mc, s0 + ms⟩,
      ⟨X.admits, X.cas, X.clock, X.frames, X.room, X.hears, X.method, X.code, (X.here.setHeapUsed s₂.heap s₂.slotsUsed).setVm hW'.alike, X.tail, State.WarmedH.trans X.warmed hW', X.limits, X.bytes, X.same.trans (hsame.setVm s.vm)⟩,
      ⟨g, mk, s₂, L, E, ce, rfl, rfl, hx, hce, hcv, hcl, rfl, hL, rfl, rfl⟩, ?_⟩
    show Steps p.tables e below _ (((({ U with heap := s₂.heap, slotsUsed := s₂.slotsUsed } : State).setVm s₂.vm).setTop g).pushFrame (.throwing q))
    rw [← hs₂]
    exact hsteps
end
variable {p : Program} {l : Launch} {e : Env} {R : Room} {s : State} {m : MethodId} {args : Array Value} {below : List Frame} {meth : Method} {c : Code} {T : State} {H : Heap} {locs : List Loc} {cells slots : Nat}
theorem vx_callVX (X : Stand p l e R s m args below meth c T locs cells slots) (hexec : p.tables.exec = Jvm.exec) {own C : String} {index : Nat} {y : MethodName} {bytes : ByteArray} {maxL : Nat} {ret : Option FieldType} {hh : List (Nat × Nat × Nat × Nat)}
    (hown : s.vm.findClass own = some m.cls) (hlink : (Cond.methodLink own index y).before args s = true) (hinst : (Cond.instanceMethod y).before args s = true) (hsel : (Cond.selects C y y).before args s = true)
    (hcode : (Cond.codeWith y bytes maxL ret hh).before args s = true) (hy : y.cls ≠ "java/lang/invoke/MethodHandle" ∧ y.cls ≠ "java/lang/invoke/VarHandle")
    {W9 : Nat} {Pre : Pt → Array Value → Prop} {Post : Pt → Array Value → Option Value → Pt → Prop} {PostX : Pt → Array Value → Addr → Pt → Prop} (hK : vx_Back l R p e below s args y 3 W9 Pre Post PostX)
    {b : Addr} {cellB : Cell} (hcell : T.heap[b]? = some cellB) (hobj : cellB.vm.isStatics = false) (hcls : s.vm.findClass C = some cellB.cls)
    {g : JFrame} (hg : g.method = m) (hsize : g.locals.size = c.maxLocals) {argsL rest : List Value} (hlen : ∀ sig, parseMethodDescriptor y.desc = some sig → argsL.length = sig.parameters.length)
    (hstack : g.stack = argsL.reverse ++ .ref b :: rest) (hW : 2 * g.monitorRoom + (rest.map fun v => v.category).sum ≤ W9) (hdg : decode c.code g.pc = .ok (.invokevirtual index, 3))
    (hpre : ∀ vm₁, s.WarmedH vm₁ → Pre ⟨T.setVm vm₁, locs, cells, slots⟩ (Value.ref b :: argsL).toArray) :
    (∃ (v : Option Value) (vm₁ : Vm) (B : Pt), s.WarmedH vm₁ ∧ Stand p l e R s m args below meth c B.U B.locs B.cells B.slots ∧ Post ⟨T.setVm vm₁, locs, cells, slots⟩ (Value.ref b :: argsL).toArray v B ∧
      ∀ target, Steps p.tables e below (B.U.setTop { g with pc := g.pc + 3, stack := v.toList ++ rest }) target → Steps p.tables e below (T.setTop g) target) ∨
    (∃ (q : Addr) (vm₁ : Vm) (B : Pt), s.WarmedH vm₁ ∧ Stand p l e R s m args below meth c B.U B.locs B.cells B.slots ∧ PostX ⟨T.setVm vm₁, locs, cells, slots⟩ (Value.ref b :: argsL).toArray q B ∧
      Steps p.tables e below (T.setTop g) ((B.U.setTop { g with stack := rest }).pushFrame (.throwing q))) := by
  obtain ⟨mk, methM, hnamed, hmethM, hstM, habM⟩ := Cond.instanceMethod_spec hinst
  obtain ⟨m8, methM', cM, hn8, hmethM', -, -, -, -, -, -, hsigM⟩ := Cond.codeWith_spec hcode
  cases Option.some.inj (hn8.symm.trans hnamed)
  cases hmethM.symm.trans hmethM'
  obtain ⟨c2, r2, m2, q1, q2, q3, q4, kP, hkP, hkPi⟩ := Cond.selects_spec hsel
  cases hcls.symm.trans q1
  cases (State.methodFound?_of_named hnamed hy).symm.trans q2
  cases hnamed.symm.trans q3
  have hselP : selectMethod e.platform s.vm cellB.cls mk = .method mk := by rw [Launch.admits_selectMethod X.admits]; exact q4
  obtain ⟨vm₁, X₁, hstep₁⟩ := X.invokevirtual hexec hown hlink hnamed hmethM hstM hkP hkPi hy (a := b) (cell := cellB) hcell
    (fun z h => by rw [h] at hobj; cases hobj) hselP hmethM habM hkP hkPi (g := g) hg (argsL := argsL) (rest := rest) (hlen _ hsigM) hstack hdg
  rcases hK m meth c ⟨T.setVm vm₁, locs, cells, slots⟩ { g with stack := rest } (.invokevirtual index) mk (Value.ref b :: argsL).toArray X₁ hg hsize hdg hW (X₁.named hnamed) (hpre vm₁ X₁.warmed) with ⟨v, B, X', hpost, hsteps⟩ | ⟨q, B, X', hpost, hsteps⟩
  · exact Or.inl ⟨v, vm₁, B, X₁.warmed, X', hpost, fun target h => hstep₁ _ fun acts => by rw [doInvoke_state]; exact hsteps.trans h⟩
  · exact Or.inr ⟨q, vm₁, B, X₁.warmed, X', hpost, hstep₁ _ fun acts => by rw [doInvoke_state]; exact hsteps⟩
theorem vx_callSX (X : Stand p l e R s m args below meth c T locs cells slots) (hexec : p.tables.exec = Jvm.exec) {own : String} {index : Nat} {y : MethodName} {bytes : ByteArray} {maxL : Nat} {ret : Option FieldType} {hh : List (Nat × Nat × Nat × Nat)}
    (hown : s.vm.findClass own = some m.cls) (hlink : (Cond.methodLink own index y).before args s = true) (hstat : (Cond.static y).before args s = true) (hinit : (Cond.initialized y.cls).before args s = true)
    (hcode : (Cond.codeWith y bytes maxL ret hh).before args s = true) (hy : y.cls ≠ "java/lang/invoke/MethodHandle" ∧ y.cls ≠ "java/lang/invoke/VarHandle")
    {W9 : Nat} {Pre : Pt → Array Value → Prop} {Post : Pt → Array Value → Option Value → Pt → Prop} {PostX : Pt → Array Value → Addr → Pt → Prop} (hK : vx_Back l R p e below s args y 3 W9 Pre Post PostX)
    {g : JFrame} (hg : g.method = m) (hsize : g.locals.size = c.maxLocals) {argsL rest : List Value} (hlen : ∀ sig, parseMethodDescriptor y.desc = some sig → argsL.length = sig.parameters.length)
    (hstack : g.stack = argsL.reverse ++ rest) (hW : 2 * g.monitorRoom + (rest.map fun v => v.category).sum ≤ W9) (hdg : decode c.code g.pc = .ok (.invokestatic index, 3))
    (hpre : ∀ vm₁, s.WarmedH vm₁ → Pre ⟨T.setVm vm₁, locs, cells, slots⟩ argsL.toArray) :
    (∃ (v : Option Value) (vm₁ : Vm) (B : Pt), s.WarmedH vm₁ ∧ Stand p l e R s m args below meth c B.U B.locs B.cells B.slots ∧ Post ⟨T.setVm vm₁, locs, cells, slots⟩ argsL.toArray v B ∧
      ∀ target, Steps p.tables e below (B.U.setTop { g with pc := g.pc + 3, stack := v.toList ++ rest }) target → Steps p.tables e below (T.setTop g) target) ∨
    (∃ (q : Addr) (vm₁ : Vm) (B : Pt), s.WarmedH vm₁ ∧ Stand p l e R s m args below meth c B.U B.locs B.cells B.slots ∧ PostX ⟨T.setVm vm₁, locs, cells, slots⟩ argsL.toArray q B ∧
      Steps p.tables e below (T.setTop g) ((B.U.setTop { g with stack := rest }).pushFrame (.throwing q))) := by
  obtain ⟨mk, methM, cM, hnamed, hmethM, -, -, -, -, -, -, hsigM⟩ := Cond.codeWith_spec hcode
  have hstatic : methM.isStatic = true := Cond.static_spec hnamed hmethM hstat
  obtain ⟨kP, hkP, -⟩ := className_of_methodNamed hnamed
  have hinitP : kP.init = .initialized := Cond.initialized_spec (findClass_of_methodNamed hnamed) hkP hinit
  obtain ⟨vm₁, X₁, hstep₁⟩ := X.invokestatic hexec hown hlink hnamed hmethM hstatic hkP hinitP hy (g := g) hg (argsL := argsL) (rest := rest) (hlen _ hsigM) hstack hdg
  rcases hK m meth c ⟨T.setVm vm₁, locs, cells, slots⟩ { g with stack := rest } (.invokestatic index) mk argsL.toArray X₁ hg hsize hdg hW (X₁.named hnamed) (hpre vm₁ X₁.warmed) with ⟨v, B, X', hpost, hsteps⟩ | ⟨q, B, X', hpost, hsteps⟩
  · exact Or.inl ⟨v, vm₁, B, X₁.warmed, X', hpost, fun target h => hstep₁ _ fun acts => by rw [doInvoke_state]; exact hsteps.trans h⟩
  · exact Or.inr ⟨q, vm₁, B, X₁.warmed, X', hpost, hstep₁ _ fun acts => by rw [doInvoke_state]; exact hsteps⟩
theorem vx_callVW (X : Stand p l e R s m args below meth c T locs cells slots) (hexec : p.tables.exec = Jvm.exec) {own C : String} {index : Nat} {y : MethodName} {bytes : ByteArray} {maxL : Nat} {ret : Option FieldType} {hh : List (Nat × Nat × Nat × Nat)}
    (hown : s.vm.findClass own = some m.cls) (hlink : (Cond.methodLink own index y).before args s = true) (hinst : (Cond.instanceMethod y).before args s = true) (hsel : (Cond.selects C y y).before args s = true)
    (hcode : (Cond.codeWith y bytes maxL ret hh).before args s = true) (hy : y.cls ≠ "java/lang/invoke/MethodHandle" ∧ y.cls ≠ "java/lang/invoke/VarHandle")
    {W9 : Nat} {Pre : Pt → Array Value → Prop} {Post : Pt → Array Value → Option Value → Pt → Prop} (hK : Back l R p e below s args y 3 W9 Pre Post)
    {b : Addr} {cellB : Cell} (hcell : T.heap[b]? = some cellB) (hobj : cellB.vm.isStatics = false) (hcls : s.vm.findClass C = some cellB.cls)
    {g : JFrame} (hg : g.method = m) (hsize : g.locals.size = c.maxLocals) {argsL rest : List Value} (hlen : ∀ sig, parseMethodDescriptor y.desc = some sig → argsL.length = sig.parameters.length)
    (hstack : g.stack = argsL.reverse ++ .ref b :: rest) (hW : 2 * g.monitorRoom + (rest.map fun v => v.category).sum ≤ W9) (hdg : decode c.code g.pc = .ok (.invokevirtual index, 3))
    (hpre : ∀ vm₁, s.WarmedH vm₁ → Pre ⟨T.setVm vm₁, locs, cells, slots⟩ (Value.ref b :: argsL).toArray) :
    ∃ (v : Option Value) (vm₁ : Vm) (B : Pt), s.WarmedH vm₁ ∧ Stand p l e R s m args below meth c B.U B.locs B.cells B.slots ∧ Post ⟨T.setVm vm₁, locs, cells, slots⟩ (Value.ref b :: argsL).toArray v B ∧
      ∀ target, Steps p.tables e below (B.U.setTop { g with pc := g.pc + 3, stack := v.toList ++ rest }) target → Steps p.tables e below (T.setTop g) target := by
  obtain ⟨mk, methM, hnamed, hmethM, hstM, habM⟩ := Cond.instanceMethod_spec hinst
  obtain ⟨m8, methM', cM, hn8, hmethM', -, -, -, -, -, -, hsigM⟩ := Cond.codeWith_spec hcode
  cases Option.some.inj (hn8.symm.trans hnamed)
  cases hmethM.symm.trans hmethM'
  obtain ⟨c2, r2, m2, q1, q2, q3, q4, kP, hkP, hkPi⟩ := Cond.selects_spec hsel
  cases hcls.symm.trans q1
  cases (State.methodFound?_of_named hnamed hy).symm.trans q2
  cases hnamed.symm.trans q3
  have hselP : selectMethod e.platform s.vm cellB.cls mk = .method mk := by rw [Launch.admits_selectMethod X.admits]; exact q4
  obtain ⟨vm₁, X₁, hstep₁⟩ := X.invokevirtual hexec hown hlink hnamed hmethM hstM hkP hkPi hy (a := b) (cell := cellB) hcell
    (fun z h => by rw [h] at hobj; cases hobj) hselP hmethM habM hkP hkPi (g := g) hg (argsL := argsL) (rest := rest) (hlen _ hsigM) hstack hdg
  obtain ⟨v, B, X', hpost, hsteps⟩ := hK m meth c ⟨T.setVm vm₁, locs, cells, slots⟩ { g with stack := rest } (.invokevirtual index) mk (Value.ref b :: argsL).toArray X₁ hg hsize hdg hW (X₁.named hnamed) (hpre vm₁ X₁.warmed)
  exact ⟨v, vm₁, B, X₁.warmed, X', hpost, fun target h => hstep₁ _ fun acts => by rw [doInvoke_state]; exact hsteps.trans h⟩
abbrev vx_CVW (R : Room) (s : State) (args : Array Value) (own C : String) (index : Nat) (y : MethodName) (bytes : ByteArray) (maxL : Nat) (ret : Option FieldType) (hh : List (Nat × Nat × Nat × Nat)) (ws : List Cond) (rm : Room) (mc ms n : Nat) : Prop :=
  (rm.cells = mc ∧ rm.slots = ms ∧ rm.frames + 1 ≤ R.frames ∧ 8 + (maxL + 11) + rm.locals ≤ R.locals ∧ (∀ w ∈ ws, ∀ (a' : Array Value) (U : State), s.WarmedH U.vm → w.before a' U = true) ∧ Cond.codeWith y bytes maxL ret hh ∈ ws) ∧
  (Cond.codeWith y bytes maxL ret hh).before args s = true ∧ (Cond.initialized y.cls).before args s = true ∧ (y.cls ≠ "java/lang/invoke/MethodHandle" ∧ y.cls ≠ "java/lang/invoke/VarHandle") ∧
  (∀ sig, parseMethodDescriptor y.desc = some sig → n = sig.parameters.length) ∧ (Cond.methodLink own index y).before args s = true ∧ (Cond.instanceMethod y).before args s = true ∧ (Cond.selects C y y).before args s = true
theorem vx_cwVW {own C : String} {index maxL mc ms : Nat} {y : MethodName} {bytes : ByteArray} {ret : Option FieldType} {hh : List (Nat × Nat × Nat × Nat)} {Ts ws ws' : List Cond} {rm : Room} (n : Nat) (ht : ∀ w ∈ Ts, w.before args s = true) (hT : GoodIn Ts (wsV own index C y ws)) (hw : ws = Cond.codeWith y bytes maxL ret hh :: ws') (hrc : rm.cells = mc) (hrs : rm.slots = ms)
    (hd : y.cls = C ∧ y.cls ≠ "java/lang/invoke/MethodHandle" ∧ y.cls ≠ "java/lang/invoke/VarHandle" ∧ (parseMethodDescriptor y.desc).map (fun d => d.parameters.length) = some n) (hR : rm.frames + 1 ≤ R.frames ∧ 8 + (maxL + 11) + rm.locals ≤ R.locals) :
    vx_CVW R s args own C index y bytes maxL ret hh ws rm mc ms n := by
  obtain ⟨hC, hd⟩ := hd
  subst hC
  have ok : ∀ w ∈ wsV own index y.cls y ws, w.before args s = true := fun w h => ht w (hT w h).1
  have hG : GoodIn Ts ws := fun w h => hT w (by unfold wsV; exact List.mem_append_right _ h)
  have hc : Cond.codeWith y bytes maxL ret hh ∈ ws := by rw [hw]; exact List.mem_cons_self
  refine ⟨⟨hrc, hrs, hR.1, hR.2, pay_in ht hG, hc⟩, ht _ (hG _ hc).1, ok _ (by simp [wsV]), ⟨hd.1, hd.2.1⟩, fun sig h => ?_, ok _ (by simp [wsV]), ok _ (by simp [wsV]), ok _ (by simp [wsV])⟩
  have h2 := hd.2.2
  rw [h] at h2
  exact (Option.some.inj h2).symm
theorem vx_runVW {y : MethodName} {bytes cc : ByteArray} {maxL nL mc ms n index : Nat} {ret : Option FieldType} {hh : List (Nat × Nat × Nat × Nat)} {ws : List Cond} {rm : Room} {Pc : Array Value → State → Prop} {Qc : Array Value → State → Outcome → State → Prop} {free : Addr → Prop} {Ts : List Cond} {own C : String} {b : Addr} {As rest : List Value} {g : JFrame}
    (S : CallFix p m c cc nL s args Ts own) (hM : Met l y ws rm Pc Qc mc ms free) (cw : vx_CVW R s args own C index y bytes maxL ret hh ws rm mc ms n) (hp : PreV s H C b Pc As)
    (hg : g.method = m) (hn : As.length = n) (hsize : g.locals.size = nL) (hstack : g.stack = As.reverse ++ .ref b :: rest) (hW : 2 * g.monitorRoom + (rest.map fun v => v.category).sum ≤ 8) (hdg : decode cc g.pc = .ok (.invokevirtual index, 3)) (hf : cells + mc ≤ R.cells ∧ slots + ms ≤ R.slots) :
    va_Run p l e R s m args below meth c H locs cells slots mc ms g rest (Qc (Value.ref b :: As).toArray) free := by
  obtain ⟨⟨hrc, hrs, hfr, hlo, hws, hcw⟩, hcode, hini, hy, hlen, hl, hin, hse⟩ := cw
  have hK : Back l R p e below s args y 3 8 (PreOf R mc ms Pc) (PostOf Qc mc ms free) := va_backW (hh := hh) (bytes := bytes) (maxL := maxL) (ret := ret) hM hp.1 hrc hrs hfr hlo hws hcw (fun a' U hW => word_at hW (Or.inl (by first | rfl | simp [Cond.onTables, Cond.keeps, Cond.steady])) hini)
  obtain ⟨hx, hb, hml, ho, -⟩ := S
  obtain ⟨-, ⟨cellB, hcB, hoB, hclB⟩, hPc⟩ := hp
  intro T hT X
  obtain ⟨v, vm₁, ⟨U', l2, c2, s2⟩, hW₁, X', ⟨g', mk, t, L, e1, e2, hq, h1, hL, h2, h3⟩, st⟩ := vx_callVW X hx (C := C) (hh := hh) (bytes := bytes) (maxL := maxL) (ret := ret) ho hl hin hse hcode hy hK (by rw [hT]; exact hcB) hoB hclB hg (hsize.trans hml.symm) (argsL := As) (rest := rest) (fun sig h => hn.trans (hlen sig h)) hstack hW (by rw [hb]; exact hdg)
    (fun vm₁ hW₁ => ⟨hf.1, hf.2, hPc (T.setVm vm₁) hT hW₁⟩)
  dsimp only [Pt.U, Pt.locs, Pt.cells, Pt.slots] at X' e1 e2 h1 h2 h3 st
  subst h1; subst h2; subst h3
  exact ⟨v, (T.setVm vm₁).calling g' mk (Value.ref b :: As).toArray, t, U', L, hT, X', hL, e1, e2, hq, st⟩
section
variable {y : MethodName} {bytes cc : ByteArray} {maxL nL mc ms n index : Nat} {ret : Option FieldType} {ws : List Cond} {rm : Room} {Pc : Array Value → State → Prop} {Qc : Array Value → State → Outcome → State → Prop} {XC : String → State → State → Prop} {free : Addr → Prop} {Ts : List Cond} {own C : String} {b : Addr} {As rest : List Value} {g : JFrame}
theorem vx_runVX {hh : List (Nat × Nat × Nat × Nat)} (S : CallFix p m c cc nL s args Ts own) (hM : vx_Met l y ws rm Pc Qc XC mc ms free) (cw : vx_CVW R s args own C index y bytes maxL ret hh ws rm mc ms n) (hp : PreV s H C b Pc As)
    (hg : g.method = m) (hn : As.length = n) (hsize : g.locals.size = nL) (hstack : g.stack = As.reverse ++ .ref b :: rest) (hW : 2 * g.monitorRoom + (rest.map fun v => v.category).sum ≤ 8) (hdg : decode cc g.pc = .ok (.invokevirtual index, 3)) (hf : cells + mc ≤ R.cells ∧ slots + ms ≤ R.slots) :
    vx_Run p l e R s m args below meth c H locs cells slots mc ms g rest (Qc (Value.ref b :: As).toArray) XC free := by
  obtain ⟨⟨hrc, hrs, hfr, hlo, hws, hcw⟩, hcode, hini, hy, hlen, hl, hin, hse⟩ := cw
  have hK : vx_Back l R p e below s args y 3 8 (PreOf R mc ms Pc) (PostOf Qc mc ms free) (vx_Post XC mc ms free) := vx_backW (hh := hh) (bytes := bytes) (maxL := maxL) (ret := ret) hM hp.1 hrc hrs hfr hlo hws hcw (fun a' U hW => word_at hW (Or.inl (by first | rfl | simp [Cond.onTables, Cond.keeps, Cond.steady])) hini)
  obtain ⟨hx, hb, hml, ho, -⟩ := S
  obtain ⟨-, ⟨cellB, hcB, hoB, hclB⟩, hPc⟩ := hp
  intro T hT X
  rcases vx_callVX X hx (C := C) (hh := hh) (bytes := bytes) (maxL := maxL) (ret := ret) ho hl hin hse hcode hy hK (by rw [hT]; exact hcB) hoB hclB hg (hsize.trans hml.symm) (argsL := As) (rest := rest) (fun sig h => hn.trans (hlen sig h)) hstack hW (by rw [hb]; exact hdg)
    (fun vm₁ hW₁ => ⟨hf.1, hf.2, hPc (T.setVm vm₁) hT hW₁⟩) with ⟨v, vm₁, ⟨U', l2, c2, s2⟩, hW₁, X', ⟨g', mk, t, L, e1, e2, hq, h1, hL, h2, h3⟩, st⟩ | ⟨q, vm₁, ⟨U', l2, c2, s2⟩, hW₁, X', ⟨g', mk, t, L, E, ce, e1, e2, hq, hce, hcv, hcl, h1, hL, h2, h3⟩, st⟩
  · dsimp only [Pt.U, Pt.locs, Pt.cells, Pt.slots] at X' e1 e2 h1 h2 h3 st
    subst h1; subst h2; subst h3
    exact Or.inl ⟨v, (T.setVm vm₁).calling g' mk (Value.ref b :: As).toArray, t, U', L, hT, X', hL, e1, e2, hq, st⟩
  · dsimp only [Pt.U, Pt.locs, Pt.cells, Pt.slots] at X' e1 e2 h1 h2 h3 st hcl
    subst h1; subst h2; subst h3
    exact Or.inr ⟨q, (T.setVm vm₁).calling g' mk (Value.ref b :: As).toArray, t, U', L, E, ce, hT, X', hL, e1, e2, hq, hce, hcv, vx_cls hW₁ hcl, st⟩
theorem vx_runSX {hh : List (Nat × Nat × Nat × Nat)} (S : CallFix p m c cc nL s args Ts own) (hM : vx_Met l y ws rm Pc Qc XC mc ms free) (cw : vx_CSW R s args own index y bytes maxL ret hh ws rm mc ms n) (hp : PreS s H Pc As)
    (hg : g.method = m) (hn : As.length = n) (hsize : g.locals.size = nL) (hstack : g.stack = As.reverse ++ rest) (hW : 2 * g.monitorRoom + (rest.map fun v => v.category).sum ≤ 8) (hdg : decode cc g.pc = .ok (.invokestatic index, 3)) (hf : cells + mc ≤ R.cells ∧ slots + ms ≤ R.slots) :
    vx_Run p l e R s m args below meth c H locs cells slots mc ms g rest (Qc As.toArray) XC free := by
  obtain ⟨⟨hrc, hrs, hfr, hlo, hws, hcw⟩, hcode, hini, hy, hlen, hl, hstt⟩ := cw
  have hK : vx_Back l R p e below s args y 3 8 (PreOf R mc ms Pc) (PostOf Qc mc ms free) (vx_Post XC mc ms free) := vx_backW (hh := hh) (bytes := bytes) (maxL := maxL) (ret := ret) hM hp.1 hrc hrs hfr hlo hws hcw (fun a' U hW => word_at hW (Or.inl (by first | rfl | simp [Cond.onTables, Cond.keeps, Cond.steady])) hini)
  obtain ⟨hx, hb, hml, ho, -⟩ := S
  intro T hT X
  rcases vx_callSX X hx (hh := hh) (bytes := bytes) (maxL := maxL) (ret := ret) ho hl hstt hini hcode hy hK hg (hsize.trans hml.symm) (argsL := As) (rest := rest) (fun sig h => hn.trans (hlen sig h)) hstack hW (by rw [hb]; exact hdg)
    (fun vm₁ hW₁ => ⟨hf.1, hf.2, hp.2 (T.setVm vm₁) hT hW₁⟩) with ⟨v, vm₁, ⟨U', l2, c2, s2⟩, hW₁, X', ⟨g', mk, t, L, e1, e2, hq, h1, hL, h2, h3⟩, st⟩ | ⟨q, vm₁, ⟨U', l2, c2, s2⟩, hW₁, X', ⟨g', mk, t, L, E, ce, e1, e2, hq, hce, hcv, hcl, h1, hL, h2, h3⟩, st⟩
  · dsimp only [Pt.U, Pt.locs, Pt.cells, Pt.slots] at X' e1 e2 h1 h2 h3 st
    subst h1; subst h2; subst h3
    exact Or.inl ⟨v, (T.setVm vm₁).calling g' mk As.toArray, t, U', L, hT, X', hL, e1, e2, hq, st⟩
  · dsimp only [Pt.U, Pt.locs, Pt.cells, Pt.slots] at X' e1 e2 h1 h2 h3 st hcl
    subst h1; subst h2; subst h3
    exact Or.inr ⟨q, (T.setVm vm₁).calling g' mk As.toArray, t, U', L, E, ce, hT, X', hL, e1, e2, hq, hce, hcv, vx_cls hW₁ hcl, st⟩
end
end VXH
theorem vx_ofWH {l : Launch} {y : MethodName} {ws ws' : List Cond} {rm : Room} {Pc : Array Value → State → Prop} {Qc : Array Value → State → Outcome → State → Prop} {XC : String → State → State → Prop} {mc ms : Nat} {free : Addr → Prop} {cc : ByteArray} {maxL : Nat} {ret : Option FieldType} {hh : List (Nat × Nat × Nat × Nat)}
    (hy : plainName y.cls = true) (hw : ws = Cond.codeWith y cc maxL ret hh :: ws')
    (body : ∀ p e s m args below meth c s₁, BodyLoose p l y (headSpec ws rm) cc maxL ret e s m args below meth c s₁ → c.maxLocals = maxL → Pc args s →
      W p l e (headSpec ws rm).room s m args below meth c s.heap [] 0 0 (vx_MQ below Qc XC args s mc ms free) (entryFrame m args maxL)) : vx_Met l y ws rm Pc Qc XC mc ms free := by
  refine MetFree.of_bodyS (code := cc) (maxLocals := maxL) (ret := ret) hy ?_ ?_
  · intro args s m h hn
    obtain ⟨m9, meth, c, hn9, h1, h2, h3, h4, -, h5, h6, -⟩ := Cond.codeWith_spec (atoms_spec (ws := ws) h _ (by rw [hw]; exact List.mem_cons_self))
    cases hn.symm.trans hn9
    exact ⟨meth, c, h1, h2, h3, h4, h5, h6⟩
  · intro p e s m args below meth c s₁ B hml hP _
    have hh0 : s₁.heap = s.heap := by rw [B.state]; rfl
    obtain ⟨t, a1, o, b1, b2, b3⟩ := body p e s m args below meth c s₁ B hml hP s₁ hh0 (Stand.of_body B)
    exact ⟨t, o, a1, b1, b2, b3⟩
/-! ===== END ===== -/
end
section
def RX0 : String := "TenantPlacement$Amounts"
def TX0 : u_T := fun k => match k with
  | 0 => ("TenantPlacement$Amounts", "storage", "I", false)
  | 1 => ("TenantPlacement$Amounts", "load", "I", false)
  | _ => ("TenantPlacement$Amounts", "connections", "I", false)
def tyX0 : Nat → FieldType := fun k => match k with
  | 0 => .int
  | 1 => .int
  | _ => .int
abbrev wsX00 : List Cond := u_ws RX0 TX0 3
theorem nmX0 : ∀ a, a < 3 → ∀ b, b < 3 → a ≠ b → (TX0 a).2.1 ≠ (TX0 b).2.1 := by decide +kernel
theorem tyX0_ok : ∀ k, k < 3 → parseFieldDescriptor (TX0 k).2.2.1 = some (tyX0 k) := by decide +kernel
abbrev cX0_init : ByteArray := prog_2_method_1_code
def yX0_init : MethodName := ⟨RX0, "<init>", "(III)V"⟩
abbrev cX0_of : ByteArray := prog_2_method_2_code
def yX0_of : MethodName := ⟨RX0, "of", "(I)I"⟩
abbrev cX0_put : ByteArray := prog_2_method_3_code
def yX0_put : MethodName := ⟨RX0, "put", "(II)V"⟩
abbrev cX0_add : ByteArray := prog_2_method_4_code
def yX0_add : MethodName := ⟨RX0, "add", "(LTenantPlacement$Amounts;)V"⟩
abbrev cX0_subtract : ByteArray := prog_2_method_5_code
def yX0_subtract : MethodName := ⟨RX0, "subtract", "(LTenantPlacement$Amounts;)V"⟩
abbrev cX0_clear : ByteArray := prog_2_method_6_code
def yX0_clear : MethodName := ⟨RX0, "clear", "()V"⟩
def RX1 : String := "TenantPlacement$Move"
def TX1 : u_T := fun k => match k with
  | 0 => ("TenantPlacement$Move", "phase", "C", false)
  | 1 => ("TenantPlacement$Move", "source", "I", false)
  | 2 => ("TenantPlacement$Move", "target", "I", false)
  | _ => ("TenantPlacement$Move", "left", "I", false)
def tyX1 : Nat → FieldType := fun k => match k with
  | 0 => .char
  | 1 => .int
  | 2 => .int
  | _ => .int
abbrev wsX10 : List Cond := u_ws RX1 TX1 4
theorem nmX1 : ∀ a, a < 4 → ∀ b, b < 4 → a ≠ b → (TX1 a).2.1 ≠ (TX1 b).2.1 := by decide +kernel
theorem tyX1_ok : ∀ k, k < 4 → parseFieldDescriptor (TX1 k).2.2.1 = some (tyX1 k) := by decide +kernel
abbrev cX1_init : ByteArray := prog_3_method_1_code
def yX1_init : MethodName := ⟨RX1, "<init>", "()V"⟩
abbrev cX1_isUnderWay : ByteArray := prog_3_method_2_code
def yX1_isUnderWay : MethodName := ⟨RX1, "isUnderWay", "()Z"⟩
abbrev cX1_isBeforeCutting : ByteArray := prog_3_method_3_code
def yX1_isBeforeCutting : MethodName := ⟨RX1, "isBeforeCutting", "()Z"⟩
abbrev cX1_isCleaning : ByteArray := prog_3_method_4_code
def yX1_isCleaning : MethodName := ⟨RX1, "isCleaning", "(I)Z"⟩
abbrev cX1_begin : ByteArray := prog_3_method_5_code
def yX1_begin : MethodName := ⟨RX1, "begin", "(III)V"⟩
abbrev cX1_end : ByteArray := prog_3_method_6_code
def yX1_end : MethodName := ⟨RX1, "end", "()V"⟩
abbrev cX1_goOn : ByteArray := prog_3_method_7_code
def yX1_goOn : MethodName := ⟨RX1, "goOn", "(Z)Z"⟩
abbrev cX1_cleanAnew : ByteArray := prog_3_method_8_code
def yX1_cleanAnew : MethodName := ⟨RX1, "cleanAnew", "()V"⟩
abbrev cX1_turnRound : ByteArray := prog_3_method_9_code
def yX1_turnRound : MethodName := ⟨RX1, "turnRound", "()V"⟩
abbrev cX1_copyFrom : ByteArray := prog_3_method_10_code
def yX1_copyFrom : MethodName := ⟨RX1, "copyFrom", "(LTenantPlacement$Move;)V"⟩
def RX2 : String := "TenantPlacement$Planner"
def TX2 : u_T := fun k => match k with
  | 0 => ("TenantPlacement$Planner", "sound", "I", false)
  | _ => ("TenantPlacement$Planner", "fewest", "I", false)
def tyX2 : Nat → FieldType := fun k => match k with
  | 0 => .int
  | _ => .int
abbrev wsX20 : List Cond := u_ws RX2 TX2 2
theorem nmX2 : ∀ a, a < 2 → ∀ b, b < 2 → a ≠ b → (TX2 a).2.1 ≠ (TX2 b).2.1 := by decide +kernel
theorem tyX2_ok : ∀ k, k < 2 → parseFieldDescriptor (TX2 k).2.2.1 = some (tyX2 k) := by decide +kernel
abbrev cX2_init : ByteArray := prog_4_method_1_code
def yX2_init : MethodName := ⟨RX2, "<init>", "()V"⟩
abbrev cX2_tryAll : ByteArray := prog_4_method_2_code
def yX2_tryAll : MethodName := ⟨RX2, "tryAll", "([LTenantPlacement$Shard;[LTenantPlacement$Tenant;)V"⟩
abbrev cX2_findBest : ByteArray := prog_4_method_3_code
def yX2_findBest : MethodName := ⟨RX2, "findBest", "([LTenantPlacement$Shard;[LTenantPlacement$Tenant;)I"⟩
abbrev cX2_clearTrials : ByteArray := prog_4_method_4_code
def yX2_clearTrials : MethodName := ⟨RX2, "clearTrials", "([LTenantPlacement$Shard;)V"⟩
abbrev cX2_tryFrom : ByteArray := prog_4_method_5_code
def yX2_tryFrom : MethodName := ⟨RX2, "tryFrom", "(LTenantPlacement$Planner;[LTenantPlacement$Shard;[LTenantPlacement$Tenant;II)V"⟩
abbrev cX2_noteSound : ByteArray := prog_4_method_6_code
def yX2_noteSound : MethodName := ⟨RX2, "noteSound", "(I)V"⟩
abbrev cX2_findFrom : ByteArray := prog_4_method_7_code
def yX2_findFrom : MethodName := ⟨RX2, "findFrom", "([LTenantPlacement$Shard;[LTenantPlacement$Tenant;II)Z"⟩
abbrev cX2_tenantOrNull : ByteArray := prog_4_method_8_code
def yX2_tenantOrNull : MethodName := ⟨RX2, "tenantOrNull", "([LTenantPlacement$Tenant;I)LTenantPlacement$Tenant;"⟩
def RX3 : String := "TenantPlacement$Shard"
def TX3 : u_T := fun k => match k with
  | 0 => ("TenantPlacement$Shard", "limits", "LTenantPlacement$Amounts;", true)
  | 1 => ("TenantPlacement$Shard", "use", "LTenantPlacement$Amounts;", true)
  | 2 => ("TenantPlacement$Shard", "isOpen", "Z", false)
  | 3 => ("TenantPlacement$Shard", "trialUse", "LTenantPlacement$Amounts;", true)
  | _ => ("TenantPlacement$Shard", "trialTenants", "I", false)
def tyX3 : Nat → FieldType := fun k => match k with
  | 0 => .object "TenantPlacement$Amounts"
  | 1 => .object "TenantPlacement$Amounts"
  | 2 => .boolean
  | 3 => .object "TenantPlacement$Amounts"
  | _ => .int
abbrev wsX30 : List Cond := u_ws RX3 TX3 5
theorem nmX3 : ∀ a, a < 5 → ∀ b, b < 5 → a ≠ b → (TX3 a).2.1 ≠ (TX3 b).2.1 := by decide +kernel
theorem tyX3_ok : ∀ k, k < 5 → parseFieldDescriptor (TX3 k).2.2.1 = some (tyX3 k) := by decide +kernel
abbrev cX3_init : ByteArray := prog_5_method_1_code
def yX3_init : MethodName := ⟨RX3, "<init>", "(III)V"⟩
abbrev cX3_usesTooMuch : ByteArray := prog_5_method_2_code
def yX3_usesTooMuch : MethodName := ⟨RX3, "usesTooMuch", "()Z"⟩
abbrev cX3_hasRoom : ByteArray := prog_5_method_3_code
def yX3_hasRoom : MethodName := ⟨RX3, "hasRoom", "(III)Z"⟩
abbrev cX3_hasRoomBesidesStorage : ByteArray := prog_5_method_4_code
def yX3_hasRoomBesidesStorage : MethodName := ⟨RX3, "hasRoomBesidesStorage", "(LTenantPlacement$Amounts;)Z"⟩
abbrev cX3_takesInTrial : ByteArray := prog_5_method_5_code
def yX3_takesInTrial : MethodName := ⟨RX3, "takesInTrial", "(LTenantPlacement$Tenant;)Z"⟩
abbrev cX3_putInTrial : ByteArray := prog_5_method_6_code
def yX3_putInTrial : MethodName := ⟨RX3, "putInTrial", "(ILTenantPlacement$Tenant;)V"⟩
abbrev cX3_takeFromTrial : ByteArray := prog_5_method_7_code
def yX3_takeFromTrial : MethodName := ⟨RX3, "takeFromTrial", "(ILTenantPlacement$Tenant;)V"⟩
abbrev cX3_clearTrial : ByteArray := prog_5_method_8_code
def yX3_clearTrial : MethodName := ⟨RX3, "clearTrial", "()V"⟩
def RX4 : String := "TenantPlacement$Tenant"
def TX4 : u_T := fun k => match k with
  | 0 => ("TenantPlacement$Tenant", "sizes", "LTenantPlacement$Amounts;", true)
  | 1 => ("TenantPlacement$Tenant", "growth", "I", true)
  | 2 => ("TenantPlacement$Tenant", "move", "LTenantPlacement$Move;", true)
  | 3 => ("TenantPlacement$Tenant", "server", "I", false)
  | 4 => ("TenantPlacement$Tenant", "windowFirst", "I", false)
  | 5 => ("TenantPlacement$Tenant", "windowEnd", "I", false)
  | 6 => ("TenantPlacement$Tenant", "apartFrom", "I", false)
  | _ => ("TenantPlacement$Tenant", "trialShard", "I", false)
def tyX4 : Nat → FieldType := fun k => match k with
  | 0 => .object "TenantPlacement$Amounts"
  | 1 => .int
  | 2 => .object "TenantPlacement$Move"
  | 3 => .int
  | 4 => .int
  | 5 => .int
  | 6 => .int
  | _ => .int
abbrev wsX40 : List Cond := u_ws RX4 TX4 8
theorem nmX4 : ∀ a, a < 8 → ∀ b, b < 8 → a ≠ b → (TX4 a).2.1 ≠ (TX4 b).2.1 := by decide +kernel
theorem tyX4_ok : ∀ k, k < 8 → parseFieldDescriptor (TX4 k).2.2.1 = some (tyX4 k) := by decide +kernel
abbrev cX4_init : ByteArray := prog_6_method_1_code
def yX4_init : MethodName := ⟨RX4, "<init>", "(IIIII)V"⟩
abbrev cX4_isApartFrom : ByteArray := prog_6_method_2_code
def yX4_isApartFrom : MethodName := ⟨RX4, "isApartFrom", "(I)Z"⟩
abbrev cX4_isPresentOn : ByteArray := prog_6_method_3_code
def yX4_isPresentOn : MethodName := ⟨RX4, "isPresentOn", "(I)Z"⟩
abbrev cX4_useOn : ByteArray := prog_6_method_4_code
def yX4_useOn : MethodName := ⟨RX4, "useOn", "(II)I"⟩
abbrev cX4_windowHours : ByteArray := prog_6_method_5_code
def yX4_windowHours : MethodName := ⟨RX4, "windowHours", "()I"⟩
abbrev cX4_isInWindow : ByteArray := prog_6_method_6_code
def yX4_isInWindow : MethodName := ⟨RX4, "isInWindow", "(I)Z"⟩
abbrev cX4_hoursToWindow : ByteArray := prog_6_method_7_code
def yX4_hoursToWindow : MethodName := ⟨RX4, "hoursToWindow", "(I)I"⟩
def RX5 : String := "TenantPlacement"
def TX5 : u_T := fun k => match k with
  | 0 => ("TenantPlacement", "allShards", "[LTenantPlacement$Shard;", true)
  | 1 => ("TenantPlacement", "allTenants", "[LTenantPlacement$Tenant;", true)
  | 2 => ("TenantPlacement", "planner", "LTenantPlacement$Planner;", true)
  | 3 => ("TenantPlacement", "trialMove", "LTenantPlacement$Move;", true)
  | 4 => ("TenantPlacement", "pairs", "I", false)
  | 5 => ("TenantPlacement", "now", "I", false)
  | 6 => ("TenantPlacement", "switchesSoFar", "I", false)
  | _ => ("TenantPlacement", "hoursOverSoFar", "J", false)
def tyX5 : Nat → FieldType := fun k => match k with
  | 0 => .array (.object "TenantPlacement$Shard")
  | 1 => .array (.object "TenantPlacement$Tenant")
  | 2 => .object "TenantPlacement$Planner"
  | 3 => .object "TenantPlacement$Move"
  | 4 => .int
  | 5 => .int
  | 6 => .int
  | _ => .long
abbrev wsX50 : List Cond := u_ws RX5 TX5 8
theorem nmX5 : ∀ a, a < 8 → ∀ b, b < 8 → a ≠ b → (TX5 a).2.1 ≠ (TX5 b).2.1 := by decide +kernel
theorem tyX5_ok : ∀ k, k < 8 → parseFieldDescriptor (TX5 k).2.2.1 = some (tyX5 k) := by decide +kernel
abbrev cX5_init : ByteArray := prog_1_method_1_code
def yX5_init : MethodName := ⟨RX5, "<init>", "()V"⟩
abbrev cX5_addShard : ByteArray := prog_1_method_2_code
def yX5_addShard : MethodName := ⟨RX5, "addShard", "(III)I"⟩
abbrev cX5_setOpen : ByteArray := prog_1_method_3_code
def yX5_setOpen : MethodName := ⟨RX5, "setOpen", "(IZ)Z"⟩
abbrev cX5_setLimit : ByteArray := prog_1_method_4_code
def yX5_setLimit : MethodName := ⟨RX5, "setLimit", "(III)I"⟩
abbrev cX5_addTenant : ByteArray := prog_1_method_5_code
def yX5_addTenant : MethodName := ⟨RX5, "addTenant", "(IIIII)I"⟩
abbrev cX5_setSize : ByteArray := prog_1_method_6_code
def yX5_setSize : MethodName := ⟨RX5, "setSize", "(III)I"⟩
abbrev cX5_setWindow : ByteArray := prog_1_method_7_code
def yX5_setWindow : MethodName := ⟨RX5, "setWindow", "(III)I"⟩
abbrev cX5_keepApart : ByteArray := prog_1_method_8_code
def yX5_keepApart : MethodName := ⟨RX5, "keepApart", "(II)I"⟩
abbrev cX5_move : ByteArray := prog_1_method_9_code
def yX5_move : MethodName := ⟨RX5, "move", "(II)I"⟩
abbrev cX5_reason : ByteArray := prog_1_method_10_code
def yX5_reason : MethodName := ⟨RX5, "reason", "(II)C"⟩
abbrev cX5_fail : ByteArray := prog_1_method_11_code
def yX5_fail : MethodName := ⟨RX5, "fail", "(I)C"⟩
abbrev cX5_pass : ByteArray := prog_1_method_12_code
def yX5_pass : MethodName := ⟨RX5, "pass", "(I)I"⟩
abbrev cX5_time : ByteArray := prog_1_method_13_code
def yX5_time : MethodName := ⟨RX5, "time", "()I"⟩
abbrev cX5_phase : ByteArray := prog_1_method_14_code
def yX5_phase : MethodName := ⟨RX5, "phase", "(I)C"⟩
abbrev cX5_targetOf : ByteArray := prog_1_method_15_code
def yX5_targetOf : MethodName := ⟨RX5, "targetOf", "(I)I"⟩
abbrev cX5_hoursLeft : ByteArray := prog_1_method_16_code
def yX5_hoursLeft : MethodName := ⟨RX5, "hoursLeft", "(I)I"⟩
abbrev cX5_hoursByPassing : ByteArray := prog_1_method_17_code
def yX5_hoursByPassing : MethodName := ⟨RX5, "hoursByPassing", "(I)I"⟩
abbrev cX5_moves : ByteArray := prog_1_method_18_code
def yX5_moves : MethodName := ⟨RX5, "moves", "()I"⟩
abbrev cX5_shards : ByteArray := prog_1_method_19_code
def yX5_shards : MethodName := ⟨RX5, "shards", "()I"⟩
abbrev cX5_tenants : ByteArray := prog_1_method_20_code
def yX5_tenants : MethodName := ⟨RX5, "tenants", "()I"⟩
abbrev cX5_servedBy : ByteArray := prog_1_method_21_code
def yX5_servedBy : MethodName := ⟨RX5, "servedBy", "(I)I"⟩
abbrev cX5_sizeOf : ByteArray := prog_1_method_22_code
def yX5_sizeOf : MethodName := ⟨RX5, "sizeOf", "(II)I"⟩
abbrev cX5_used : ByteArray := prog_1_method_23_code
def yX5_used : MethodName := ⟨RX5, "used", "(II)I"⟩
abbrev cX5_usedByLooking : ByteArray := prog_1_method_24_code
def yX5_usedByLooking : MethodName := ⟨RX5, "usedByLooking", "(II)I"⟩
abbrev cX5_isOver : ByteArray := prog_1_method_25_code
def yX5_isOver : MethodName := ⟨RX5, "isOver", "(I)Z"⟩
abbrev cX5_served : ByteArray := prog_1_method_26_code
def yX5_served : MethodName := ⟨RX5, "served", "(I)I"⟩
abbrev cX5_fewestMoves : ByteArray := prog_1_method_27_code
def yX5_fewestMoves : MethodName := ⟨RX5, "fewestMoves", "()I"⟩
abbrev cX5_fewestByTrying : ByteArray := prog_1_method_28_code
def yX5_fewestByTrying : MethodName := ⟨RX5, "fewestByTrying", "()I"⟩
abbrev cX5_planned : ByteArray := prog_1_method_29_code
def yX5_planned : MethodName := ⟨RX5, "planned", "(I)I"⟩
abbrev cX5_soundPlans : ByteArray := prog_1_method_30_code
def yX5_soundPlans : MethodName := ⟨RX5, "soundPlans", "()I"⟩
abbrev cX5_switches : ByteArray := prog_1_method_31_code
def yX5_switches : MethodName := ⟨RX5, "switches", "()I"⟩
abbrev cX5_hoursOver : ByteArray := prog_1_method_32_code
def yX5_hoursOver : MethodName := ⟨RX5, "hoursOver", "()J"⟩
abbrev cX5_shareOf : ByteArray := prog_1_method_33_code
def yX5_shareOf : MethodName := ⟨RX5, "shareOf", "(II)F"⟩
abbrev cX5_meanStorage : ByteArray := prog_1_method_34_code
def yX5_meanStorage : MethodName := ⟨RX5, "meanStorage", "()D"⟩
abbrev cX5_requireRange : ByteArray := prog_1_method_35_code
def yX5_requireRange : MethodName := ⟨RX5, "requireRange", "(III)V"⟩
abbrev cX5_requireMeasure : ByteArray := prog_1_method_36_code
def yX5_requireMeasure : MethodName := ⟨RX5, "requireMeasure", "(I)V"⟩
abbrev cX5_requirePlan : ByteArray := prog_1_method_37_code
def yX5_requirePlan : MethodName := ⟨RX5, "requirePlan", "(I)V"⟩
abbrev cX5_shardOrNull : ByteArray := prog_1_method_38_code
def yX5_shardOrNull : MethodName := ⟨RX5, "shardOrNull", "(I)LTenantPlacement$Shard;"⟩
abbrev cX5_knownShard : ByteArray := prog_1_method_39_code
def yX5_knownShard : MethodName := ⟨RX5, "knownShard", "(I)LTenantPlacement$Shard;"⟩
abbrev cX5_knownTenant : ByteArray := prog_1_method_40_code
def yX5_knownTenant : MethodName := ⟨RX5, "knownTenant", "(I)LTenantPlacement$Tenant;"⟩
abbrev cX5_movingTenant : ByteArray := prog_1_method_41_code
def yX5_movingTenant : MethodName := ⟨RX5, "movingTenant", "(I)LTenantPlacement$Tenant;"⟩
abbrev cX5_hourOfDay : ByteArray := prog_1_method_42_code
def yX5_hourOfDay : MethodName := ⟨RX5, "hourOfDay", "(I)I"⟩
abbrev cX5_countUse : ByteArray := prog_1_method_43_code
def yX5_countUse : MethodName := ⟨RX5, "countUse", "(LTenantPlacement$Tenant;I)V"⟩
abbrev cX5_isBarred : ByteArray := prog_1_method_44_code
def yX5_isBarred : MethodName := ⟨RX5, "isBarred", "(ILTenantPlacement$Tenant;)Z"⟩
abbrev cX5_canGoBack : ByteArray := prog_1_method_45_code
def yX5_canGoBack : MethodName := ⟨RX5, "canGoBack", "(LTenantPlacement$Tenant;)Z"⟩
abbrev cX5_goBack : ByteArray := prog_1_method_46_code
def yX5_goBack : MethodName := ⟨RX5, "goBack", "(LTenantPlacement$Tenant;)V"⟩
abbrev cX5_noteHoursOver : ByteArray := prog_1_method_47_code
def yX5_noteHoursOver : MethodName := ⟨RX5, "noteHoursOver", "()V"⟩
abbrev cX5_goOnWithMoves : ByteArray := prog_1_method_48_code
def yX5_goOnWithMoves : MethodName := ⟨RX5, "goOnWithMoves", "()I"⟩
abbrev cX5_goOn : ByteArray := prog_1_method_49_code
def yX5_goOn : MethodName := ⟨RX5, "goOn", "(LTenantPlacement$Tenant;)Z"⟩
abbrev cX5_growStorage : ByteArray := prog_1_method_50_code
def yX5_growStorage : MethodName := ⟨RX5, "growStorage", "()V"⟩
def RX6 : String := "TenantPlacementModel"
def TX6 : u_T := fun k => match k with
  | 0 => ("TenantPlacementModel", "shards", "I", false)
  | 1 => ("TenantPlacementModel", "limits", "[I", true)
  | 2 => ("TenantPlacementModel", "areClosed", "[Z", true)
  | 3 => ("TenantPlacementModel", "tenants", "I", false)
  | 4 => ("TenantPlacementModel", "sizes", "[I", true)
  | 5 => ("TenantPlacementModel", "growths", "[I", true)
  | 6 => ("TenantPlacementModel", "firsts", "[I", true)
  | 7 => ("TenantPlacementModel", "ends", "[I", true)
  | 8 => ("TenantPlacementModel", "servers", "[I", true)
  | 9 => ("TenantPlacementModel", "phases", "[I", true)
  | 10 => ("TenantPlacementModel", "sources", "[I", true)
  | 11 => ("TenantPlacementModel", "targets", "[I", true)
  | 12 => ("TenantPlacementModel", "lefts", "[I", true)
  | 13 => ("TenantPlacementModel", "pairs", "I", false)
  | 14 => ("TenantPlacementModel", "pairOnes", "[I", true)
  | 15 => ("TenantPlacementModel", "pairOthers", "[I", true)
  | 16 => ("TenantPlacementModel", "time", "I", false)
  | 17 => ("TenantPlacementModel", "switches", "I", false)
  | 18 => ("TenantPlacementModel", "over", "J", false)
  | 19 => ("TenantPlacementModel", "plan", "[I", true)
  | 20 => ("TenantPlacementModel", "best", "[I", true)
  | 21 => ("TenantPlacementModel", "bestMoves", "I", false)
  | _ => ("TenantPlacementModel", "code", "I", false)
def tyX6 : Nat → FieldType := fun k => match k with
  | 0 => .int
  | 1 => .array .int
  | 2 => .array .boolean
  | 3 => .int
  | 4 => .array .int
  | 5 => .array .int
  | 6 => .array .int
  | 7 => .array .int
  | 8 => .array .int
  | 9 => .array .int
  | 10 => .array .int
  | 11 => .array .int
  | 12 => .array .int
  | 13 => .int
  | 14 => .array .int
  | 15 => .array .int
  | 16 => .int
  | 17 => .int
  | 18 => .long
  | 19 => .array .int
  | 20 => .array .int
  | 21 => .int
  | _ => .int
abbrev wsX60 : List Cond := u_ws RX6 TX6 23
theorem nmX6 : ∀ a, a < 23 → ∀ b, b < 23 → a ≠ b → (TX6 a).2.1 ≠ (TX6 b).2.1 := by decide +kernel
theorem tyX6_ok : ∀ k, k < 23 → parseFieldDescriptor (TX6 k).2.2.1 = some (tyX6 k) := by decide +kernel
abbrev cX6_init : ByteArray := prog_8_method_1_code
def yX6_init : MethodName := ⟨RX6, "<init>", "()V"⟩
abbrev cX6_thrown : ByteArray := prog_8_method_2_code
def yX6_thrown : MethodName := ⟨RX6, "thrown", "()I"⟩
abbrev cX6_fails : ByteArray := prog_8_method_3_code
def yX6_fails : MethodName := ⟨RX6, "fails", "(I)Z"⟩
abbrev cX6_tells : ByteArray := prog_8_method_4_code
def yX6_tells : MethodName := ⟨RX6, "tells", "(I)I"⟩
abbrev cX6_in : ByteArray := prog_8_method_5_code
def yX6_in : MethodName := ⟨RX6, "in", "(III)Z"⟩
abbrev cX6_isNoShard : ByteArray := prog_8_method_6_code
def yX6_isNoShard : MethodName := ⟨RX6, "isNoShard", "(I)Z"⟩
abbrev cX6_isNoTenant : ByteArray := prog_8_method_7_code
def yX6_isNoTenant : MethodName := ⟨RX6, "isNoTenant", "(I)Z"⟩
abbrev cX6_isMeasure : ByteArray := prog_8_method_8_code
def yX6_isMeasure : MethodName := ⟨RX6, "isMeasure", "(I)Z"⟩
abbrev cX6_addShard : ByteArray := prog_8_method_9_code
def yX6_addShard : MethodName := ⟨RX6, "addShard", "(III)I"⟩
abbrev cX6_setOpen : ByteArray := prog_8_method_10_code
def yX6_setOpen : MethodName := ⟨RX6, "setOpen", "(IZ)Z"⟩
abbrev cX6_setLimit : ByteArray := prog_8_method_11_code
def yX6_setLimit : MethodName := ⟨RX6, "setLimit", "(III)I"⟩
abbrev cX6_isComing : ByteArray := prog_8_method_12_code
def yX6_isComing : MethodName := ⟨RX6, "isComing", "(II)Z"⟩
abbrev cX6_isPresent : ByteArray := prog_8_method_13_code
def yX6_isPresent : MethodName := ⟨RX6, "isPresent", "(II)Z"⟩
abbrev cX6_use : ByteArray := prog_8_method_14_code
def yX6_use : MethodName := ⟨RX6, "use", "(II)I"⟩
abbrev cX6_isFull : ByteArray := prog_8_method_15_code
def yX6_isFull : MethodName := ⟨RX6, "isFull", "(III)Z"⟩
abbrev cX6_addTenant : ByteArray := prog_8_method_16_code
def yX6_addTenant : MethodName := ⟨RX6, "addTenant", "(IIIII)I"⟩
abbrev cX6_setSize : ByteArray := prog_8_method_17_code
def yX6_setSize : MethodName := ⟨RX6, "setSize", "(III)I"⟩
abbrev cX6_isInWindow : ByteArray := prog_8_method_18_code
def yX6_isInWindow : MethodName := ⟨RX6, "isInWindow", "(II)Z"⟩
abbrev cX6_setWindow : ByteArray := prog_8_method_19_code
def yX6_setWindow : MethodName := ⟨RX6, "setWindow", "(III)I"⟩
abbrev cX6_areApart : ByteArray := prog_8_method_20_code
def yX6_areApart : MethodName := ⟨RX6, "areApart", "(II)Z"⟩
abbrev cX6_keepApart : ByteArray := prog_8_method_21_code
def yX6_keepApart : MethodName := ⟨RX6, "keepApart", "(II)I"⟩
abbrev cX6_isBarred : ByteArray := prog_8_method_22_code
def yX6_isBarred : MethodName := ⟨RX6, "isBarred", "(II)Z"⟩
abbrev cX6_hasRoom : ByteArray := prog_8_method_23_code
def yX6_hasRoom : MethodName := ⟨RX6, "hasRoom", "(III)Z"⟩
abbrev cX6_why : ByteArray := prog_8_method_24_code
def yX6_why : MethodName := ⟨RX6, "why", "(II)C"⟩
abbrev cX6_underWay : ByteArray := prog_8_method_25_code
def yX6_underWay : MethodName := ⟨RX6, "underWay", "()I"⟩
abbrev cX6_move : ByteArray := prog_8_method_26_code
def yX6_move : MethodName := ⟨RX6, "move", "(II)I"⟩
abbrev cX6_reason : ByteArray := prog_8_method_27_code
def yX6_reason : MethodName := ⟨RX6, "reason", "(II)C"⟩
abbrev cX6_fail : ByteArray := prog_8_method_28_code
def yX6_fail : MethodName := ⟨RX6, "fail", "(I)C"⟩
abbrev cX6_isTooMuch : ByteArray := prog_8_method_29_code
def yX6_isTooMuch : MethodName := ⟨RX6, "isTooMuch", "(I)Z"⟩
abbrev cX6_goesOn : ByteArray := prog_8_method_30_code
def yX6_goesOn : MethodName := ⟨RX6, "goesOn", "(I)Z"⟩
abbrev cX6_hour : ByteArray := prog_8_method_31_code
def yX6_hour : MethodName := ⟨RX6, "hour", "()I"⟩
abbrev cX6_pass : ByteArray := prog_8_method_32_code
def yX6_pass : MethodName := ⟨RX6, "pass", "(I)I"⟩
abbrev cX6_time : ByteArray := prog_8_method_33_code
def yX6_time : MethodName := ⟨RX6, "time", "()I"⟩
abbrev cX6_phase : ByteArray := prog_8_method_34_code
def yX6_phase : MethodName := ⟨RX6, "phase", "(I)C"⟩
abbrev cX6_hasNoMove : ByteArray := prog_8_method_35_code
def yX6_hasNoMove : MethodName := ⟨RX6, "hasNoMove", "(I)Z"⟩
abbrev cX6_targetOf : ByteArray := prog_8_method_36_code
def yX6_targetOf : MethodName := ⟨RX6, "targetOf", "(I)I"⟩
abbrev cX6_goneOn : ByteArray := prog_8_method_37_code
def yX6_goneOn : MethodName := ⟨RX6, "goneOn", "(I)I"⟩
abbrev cX6_hoursLeft : ByteArray := prog_8_method_38_code
def yX6_hoursLeft : MethodName := ⟨RX6, "hoursLeft", "(I)I"⟩
abbrev cX6_hoursByPassing : ByteArray := prog_8_method_39_code
def yX6_hoursByPassing : MethodName := ⟨RX6, "hoursByPassing", "(I)I"⟩
abbrev cX6_moves : ByteArray := prog_8_method_40_code
def yX6_moves : MethodName := ⟨RX6, "moves", "()I"⟩
abbrev cX6_shards : ByteArray := prog_8_method_41_code
def yX6_shards : MethodName := ⟨RX6, "shards", "()I"⟩
abbrev cX6_tenants : ByteArray := prog_8_method_42_code
def yX6_tenants : MethodName := ⟨RX6, "tenants", "()I"⟩
abbrev cX6_servedBy : ByteArray := prog_8_method_43_code
def yX6_servedBy : MethodName := ⟨RX6, "servedBy", "(I)I"⟩
abbrev cX6_sizeOf : ByteArray := prog_8_method_44_code
def yX6_sizeOf : MethodName := ⟨RX6, "sizeOf", "(II)I"⟩
abbrev cX6_cannotAsk : ByteArray := prog_8_method_45_code
def yX6_cannotAsk : MethodName := ⟨RX6, "cannotAsk", "(II)Z"⟩
abbrev cX6_used : ByteArray := prog_8_method_46_code
def yX6_used : MethodName := ⟨RX6, "used", "(II)I"⟩
abbrev cX6_usedByLooking : ByteArray := prog_8_method_47_code
def yX6_usedByLooking : MethodName := ⟨RX6, "usedByLooking", "(II)I"⟩
abbrev cX6_isOver : ByteArray := prog_8_method_48_code
def yX6_isOver : MethodName := ⟨RX6, "isOver", "(I)Z"⟩
abbrev cX6_served : ByteArray := prog_8_method_49_code
def yX6_served : MethodName := ⟨RX6, "served", "(I)I"⟩
abbrev cX6_fits : ByteArray := prog_8_method_50_code
def yX6_fits : MethodName := ⟨RX6, "fits", "(II)Z"⟩
abbrev cX6_isSound : ByteArray := prog_8_method_51_code
def yX6_isSound : MethodName := ⟨RX6, "isSound", "()Z"⟩
abbrev cX6_laysPlan : ByteArray := prog_8_method_52_code
def yX6_laysPlan : MethodName := ⟨RX6, "laysPlan", "(I)V"⟩
abbrev cX6_movesOfPlan : ByteArray := prog_8_method_53_code
def yX6_movesOfPlan : MethodName := ⟨RX6, "movesOfPlan", "()I"⟩
abbrev cX6_sound : ByteArray := prog_8_method_54_code
def yX6_sound : MethodName := ⟨RX6, "sound", "()I"⟩
abbrev cX6_fewest : ByteArray := prog_8_method_55_code
def yX6_fewest : MethodName := ⟨RX6, "fewest", "()I"⟩
abbrev cX6_fewestMoves : ByteArray := prog_8_method_56_code
def yX6_fewestMoves : MethodName := ⟨RX6, "fewestMoves", "()I"⟩
abbrev cX6_fewestByTrying : ByteArray := prog_8_method_57_code
def yX6_fewestByTrying : MethodName := ⟨RX6, "fewestByTrying", "()I"⟩
abbrev cX6_planned : ByteArray := prog_8_method_58_code
def yX6_planned : MethodName := ⟨RX6, "planned", "(I)I"⟩
abbrev cX6_soundPlans : ByteArray := prog_8_method_59_code
def yX6_soundPlans : MethodName := ⟨RX6, "soundPlans", "()I"⟩
abbrev cX6_switches : ByteArray := prog_8_method_60_code
def yX6_switches : MethodName := ⟨RX6, "switches", "()I"⟩
abbrev cX6_hoursOver : ByteArray := prog_8_method_61_code
def yX6_hoursOver : MethodName := ⟨RX6, "hoursOver", "()J"⟩
abbrev cX6_shareOf : ByteArray := prog_8_method_62_code
def yX6_shareOf : MethodName := ⟨RX6, "shareOf", "(II)F"⟩
abbrev cX6_meanStorage : ByteArray := prog_8_method_63_code
def yX6_meanStorage : MethodName := ⟨RX6, "meanStorage", "()D"⟩
def RJx145de : String := "java/io/Serializable"
def TJx145de : u_T := fun k => match k with
  | _ => ("", "", "", false)
def tyJx145de : Nat → FieldType := fun k => match k with
  | _ => .int
abbrev wsJx145de0 : List Cond := u_ws RJx145de TJx145de 0
theorem nmJx145de : ∀ a, a < 0 → ∀ b, b < 0 → a ≠ b → (TJx145de a).2.1 ≠ (TJx145de b).2.1 := by decide +kernel
theorem tyJx145de_ok : ∀ k, k < 0 → parseFieldDescriptor (TJx145de k).2.2.1 = some (tyJx145de k) := by decide +kernel
def RJx00060 : String := "java/lang/ArrayIndexOutOfBoundsException"
def TJx00060 : u_T := fun k => match k with
  | 0 => ("java/lang/Throwable", "backtrace", "Ljava/lang/Object;", false)
  | 1 => ("java/lang/Throwable", "detailMessage", "Ljava/lang/String;", false)
  | 2 => ("java/lang/Throwable", "cause", "Ljava/lang/Throwable;", false)
  | 3 => ("java/lang/Throwable", "stackTrace", "[Ljava/lang/StackTraceElement;", false)
  | 4 => ("java/lang/Throwable", "depth", "I", false)
  | _ => ("java/lang/Throwable", "suppressedExceptions", "Ljava/util/List;", false)
def tyJx00060 : Nat → FieldType := fun k => match k with
  | 0 => .object "java/lang/Object"
  | 1 => .object "java/lang/String"
  | 2 => .object "java/lang/Throwable"
  | 3 => .array (.object "java/lang/StackTraceElement")
  | 4 => .int
  | _ => .object "java/util/List"
abbrev wsJx000600 : List Cond := u_ws RJx00060 TJx00060 6
theorem nmJx00060 : ∀ a, a < 6 → ∀ b, b < 6 → a ≠ b → (TJx00060 a).2.1 ≠ (TJx00060 b).2.1 := by decide +kernel
theorem tyJx00060_ok : ∀ k, k < 6 → parseFieldDescriptor (TJx00060 k).2.2.1 = some (tyJx00060 k) := by decide +kernel
abbrev cJx00060_init_a7421 : ByteArray := prog_11_method_2_code
def yJx00060_init_a7421 : MethodName := ⟨RJx00060, "<init>", "(Ljava/lang/String;)V"⟩
def RJ9 : String := "java/lang/Math"
def TJ9 : u_T := fun k => match k with
  | _ => ("", "", "", false)
def tyJ9 : Nat → FieldType := fun k => match k with
  | _ => .int
abbrev wsJ90 : List Cond := u_ws RJ9 TJ9 0
theorem nmJ9 : ∀ a, a < 0 → ∀ b, b < 0 → a ≠ b → (TJ9 a).2.1 ≠ (TJ9 b).2.1 := by decide +kernel
theorem tyJ9_ok : ∀ k, k < 0 → parseFieldDescriptor (TJ9 k).2.2.1 = some (tyJ9 k) := by decide +kernel
abbrev cJ9_floorMod_7cf53 : ByteArray := prog_16_method_50_code
def yJ9_floorMod_7cf53 : MethodName := ⟨RJ9, "floorMod", "(II)I"⟩
abbrev cJ9_min_7cf53 : ByteArray := prog_16_method_69_code
def yJ9_min_7cf53 : MethodName := ⟨RJ9, "min", "(II)I"⟩
def RJ0 : String := "java/lang/String"
def TJ0 : u_T := fun k => match k with
  | 0 => ("java/lang/String", "value", "[B", true)
  | _ => ("java/lang/String", "coder", "B", true)
def tyJ0 : Nat → FieldType := fun k => match k with
  | 0 => .array .byte
  | _ => .byte
abbrev wsJ00 : List Cond := u_ws RJ0 TJ0 2
theorem nmJ0 : ∀ a, a < 2 → ∀ b, b < 2 → a ≠ b → (TJ0 a).2.1 ≠ (TJ0 b).2.1 := by decide +kernel
theorem tyJ0_ok : ∀ k, k < 2 → parseFieldDescriptor (TJ0 k).2.2.1 = some (tyJ0 k) := by decide +kernel
def RL : String := "TenantPlacementLaw"
abbrev cL_addShard : ByteArray := method_3_code
def yL_addShard : MethodName := ⟨RL, "addShard", "(LTenantPlacement;III[J)I"⟩
abbrev cL_setOpen : ByteArray := method_4_code
def yL_setOpen : MethodName := ⟨RL, "setOpen", "(LTenantPlacement;IZ[J)I"⟩
abbrev cL_setLimit : ByteArray := method_5_code
def yL_setLimit : MethodName := ⟨RL, "setLimit", "(LTenantPlacement;III[J)I"⟩
abbrev cL_addTenant : ByteArray := method_6_code
def yL_addTenant : MethodName := ⟨RL, "addTenant", "(LTenantPlacement;IIIII[J)I"⟩
abbrev cL_setSize : ByteArray := method_7_code
def yL_setSize : MethodName := ⟨RL, "setSize", "(LTenantPlacement;III[J)I"⟩
abbrev cL_setWindow : ByteArray := method_8_code
def yL_setWindow : MethodName := ⟨RL, "setWindow", "(LTenantPlacement;III[J)I"⟩
abbrev cL_keepApart : ByteArray := method_9_code
def yL_keepApart : MethodName := ⟨RL, "keepApart", "(LTenantPlacement;II[J)I"⟩
abbrev cL_move : ByteArray := method_10_code
def yL_move : MethodName := ⟨RL, "move", "(LTenantPlacement;II[J)I"⟩
abbrev cL_reason : ByteArray := method_11_code
def yL_reason : MethodName := ⟨RL, "reason", "(LTenantPlacement;II[J)I"⟩
abbrev cL_fail : ByteArray := method_12_code
def yL_fail : MethodName := ⟨RL, "fail", "(LTenantPlacement;I[J)I"⟩
abbrev cL_pass : ByteArray := method_13_code
def yL_pass : MethodName := ⟨RL, "pass", "(LTenantPlacement;I[J)I"⟩
abbrev cL_phase : ByteArray := method_14_code
def yL_phase : MethodName := ⟨RL, "phase", "(LTenantPlacement;I[J)I"⟩
abbrev cL_targetOf : ByteArray := method_15_code
def yL_targetOf : MethodName := ⟨RL, "targetOf", "(LTenantPlacement;I[J)I"⟩
abbrev cL_hoursLeft : ByteArray := method_16_code
def yL_hoursLeft : MethodName := ⟨RL, "hoursLeft", "(LTenantPlacement;I[J)I"⟩
abbrev cL_hoursByPassing : ByteArray := method_17_code
def yL_hoursByPassing : MethodName := ⟨RL, "hoursByPassing", "(LTenantPlacement;I[J)I"⟩
abbrev cL_servedBy : ByteArray := method_18_code
def yL_servedBy : MethodName := ⟨RL, "servedBy", "(LTenantPlacement;I[J)I"⟩
abbrev cL_sizeOf : ByteArray := method_19_code
def yL_sizeOf : MethodName := ⟨RL, "sizeOf", "(LTenantPlacement;II[J)I"⟩
abbrev cL_used : ByteArray := method_20_code
def yL_used : MethodName := ⟨RL, "used", "(LTenantPlacement;II[J)I"⟩
abbrev cL_usedByLooking : ByteArray := method_21_code
def yL_usedByLooking : MethodName := ⟨RL, "usedByLooking", "(LTenantPlacement;II[J)I"⟩
abbrev cL_isOver : ByteArray := method_22_code
def yL_isOver : MethodName := ⟨RL, "isOver", "(LTenantPlacement;I[J)I"⟩
abbrev cL_served : ByteArray := method_23_code
def yL_served : MethodName := ⟨RL, "served", "(LTenantPlacement;I[J)I"⟩
abbrev cL_fewestMoves : ByteArray := method_24_code
def yL_fewestMoves : MethodName := ⟨RL, "fewestMoves", "(LTenantPlacement;[J)I"⟩
abbrev cL_fewestByTrying : ByteArray := method_25_code
def yL_fewestByTrying : MethodName := ⟨RL, "fewestByTrying", "(LTenantPlacement;[J)I"⟩
abbrev cL_planned : ByteArray := method_26_code
def yL_planned : MethodName := ⟨RL, "planned", "(LTenantPlacement;I[J)I"⟩
abbrev cL_shareOf : ByteArray := method_27_code
def yL_shareOf : MethodName := ⟨RL, "shareOf", "(LTenantPlacement;II[D)I"⟩
abbrev cL_meanStorage : ByteArray := method_28_code
def yL_meanStorage : MethodName := ⟨RL, "meanStorage", "(LTenantPlacement;[D)I"⟩
abbrev cL_law : ByteArray := code
def yL_law : MethodName := ⟨RL, "law", "([I)Z"⟩
theorem inX0 : ∀ w ∈ wsX00, w ∈ lw_tbl := by decide +kernel
theorem inX1 : ∀ w ∈ wsX10, w ∈ lw_tbl := by decide +kernel
theorem inX2 : ∀ w ∈ wsX20, w ∈ lw_tbl := by decide +kernel
theorem inX3 : ∀ w ∈ wsX30, w ∈ lw_tbl := by decide +kernel
theorem inX4 : ∀ w ∈ wsX40, w ∈ lw_tbl := by decide +kernel
theorem inX5 : ∀ w ∈ wsX50, w ∈ lw_tbl := by decide +kernel
theorem inX6 : ∀ w ∈ wsX60, w ∈ lw_tbl := by decide +kernel
theorem inJx145de : ∀ w ∈ wsJx145de0, w ∈ lw_tbl := by decide +kernel
theorem inJx00060 : ∀ w ∈ wsJx000600, w ∈ lw_tbl := by decide +kernel
theorem inJ9 : ∀ w ∈ wsJ90, w ∈ lw_tbl := by decide +kernel
theorem inJ0 : ∀ w ∈ wsJ00, w ∈ lw_tbl := by decide +kernel
abbrev vwCl : List vw_C := [(RJ0, TJ0, 2), (RJx00060, TJx00060, 6), (RX0, TX0, 3), (RX1, TX1, 4), (RX2, TX2, 2), (RX3, TX3, 5), (RX4, TX4, 8), (RX5, TX5, 8), (RX6, TX6, 23)]
theorem dJ9_floorMod_7cf53_0 : decode cJ9_floorMod_7cf53 0 = .ok (.iload_n 0, 1) := by decide +kernel
theorem dJ9_floorMod_7cf53_1 : decode cJ9_floorMod_7cf53 1 = .ok (.iload_n 1, 1) := by decide +kernel
theorem dJ9_floorMod_7cf53_2 : decode cJ9_floorMod_7cf53 2 = .ok (.irem, 1) := by decide +kernel
theorem dJ9_floorMod_7cf53_3 : decode cJ9_floorMod_7cf53 3 = .ok (.istore_n 2, 1) := by decide +kernel
theorem dJ9_floorMod_7cf53_4 : decode cJ9_floorMod_7cf53 4 = .ok (.iload_n 0, 1) := by decide +kernel
theorem dJ9_floorMod_7cf53_5 : decode cJ9_floorMod_7cf53 5 = .ok (.iload_n 1, 1) := by decide +kernel
theorem dJ9_floorMod_7cf53_6 : decode cJ9_floorMod_7cf53 6 = .ok (.ixor, 1) := by decide +kernel
theorem dJ9_floorMod_7cf53_7 : decode cJ9_floorMod_7cf53 7 = .ok (.ifCond .ge 11, 3) := by decide +kernel
theorem dJ9_floorMod_7cf53_10 : decode cJ9_floorMod_7cf53 10 = .ok (.iload_n 2, 1) := by decide +kernel
theorem dJ9_floorMod_7cf53_11 : decode cJ9_floorMod_7cf53 11 = .ok (.ifCond .eq 7, 3) := by decide +kernel
theorem dJ9_floorMod_7cf53_14 : decode cJ9_floorMod_7cf53 14 = .ok (.iload_n 2, 1) := by decide +kernel
theorem dJ9_floorMod_7cf53_15 : decode cJ9_floorMod_7cf53 15 = .ok (.iload_n 1, 1) := by decide +kernel
theorem dJ9_floorMod_7cf53_16 : decode cJ9_floorMod_7cf53 16 = .ok (.iadd, 1) := by decide +kernel
theorem dJ9_floorMod_7cf53_17 : decode cJ9_floorMod_7cf53 17 = .ok (.ireturn, 1) := by decide +kernel
theorem dJ9_floorMod_7cf53_18 : decode cJ9_floorMod_7cf53 18 = .ok (.iload_n 2, 1) := by decide +kernel
theorem dJ9_floorMod_7cf53_19 : decode cJ9_floorMod_7cf53 19 = .ok (.ireturn, 1) := by decide +kernel
theorem dJ9_min_7cf53_0 : decode cJ9_min_7cf53 0 = .ok (.iload_n 0, 1) := by decide +kernel
theorem dJ9_min_7cf53_1 : decode cJ9_min_7cf53 1 = .ok (.iload_n 1, 1) := by decide +kernel
theorem dJ9_min_7cf53_2 : decode cJ9_min_7cf53 2 = .ok (.if_icmp .gt 7, 3) := by decide +kernel
theorem dJ9_min_7cf53_5 : decode cJ9_min_7cf53 5 = .ok (.iload_n 0, 1) := by decide +kernel
theorem dJ9_min_7cf53_6 : decode cJ9_min_7cf53 6 = .ok (.goto 4, 3) := by decide +kernel
theorem dJ9_min_7cf53_9 : decode cJ9_min_7cf53 9 = .ok (.iload_n 1, 1) := by decide +kernel
theorem dJ9_min_7cf53_10 : decode cJ9_min_7cf53 10 = .ok (.ireturn, 1) := by decide +kernel
theorem dX0_init_0 : decode cX0_init 0 = .ok (.aload_n 0, 1) := by decide +kernel
theorem dX0_init_1 : decode cX0_init 1 = .ok (.invokespecial 3, 3) := by decide +kernel
theorem dX0_init_4 : decode cX0_init 4 = .ok (.aload_n 0, 1) := by decide +kernel
theorem dX0_init_5 : decode cX0_init 5 = .ok (.iload_n 1, 1) := by decide +kernel
theorem dX0_init_6 : decode cX0_init 6 = .ok (.putfield 9, 3) := by decide +kernel
theorem dX0_init_9 : decode cX0_init 9 = .ok (.aload_n 0, 1) := by decide +kernel
theorem dX0_init_10 : decode cX0_init 10 = .ok (.iload_n 2, 1) := by decide +kernel
theorem dX0_init_11 : decode cX0_init 11 = .ok (.putfield 15, 3) := by decide +kernel
theorem dX0_init_14 : decode cX0_init 14 = .ok (.aload_n 0, 1) := by decide +kernel
theorem dX0_init_15 : decode cX0_init 15 = .ok (.iload_n 3, 1) := by decide +kernel
theorem dX0_init_16 : decode cX0_init 16 = .ok (.putfield 18, 3) := by decide +kernel
theorem dX0_init_19 : decode cX0_init 19 = .ok (.return_, 1) := by decide +kernel
theorem dX0_of_0 : decode cX0_of 0 = .ok (.iload_n 1, 1) := by decide +kernel
theorem dX0_of_1 : decode cX0_of 1 = .ok (.tableswitch 42 0 2 #[27, 32, 37], 27) := by decide +kernel
theorem dX0_of_28 : decode cX0_of 28 = .ok (.aload_n 0, 1) := by decide +kernel
theorem dX0_of_29 : decode cX0_of 29 = .ok (.getfield 9, 3) := by decide +kernel
theorem dX0_of_32 : decode cX0_of 32 = .ok (.ireturn, 1) := by decide +kernel
theorem dX0_of_33 : decode cX0_of 33 = .ok (.aload_n 0, 1) := by decide +kernel
theorem dX0_of_34 : decode cX0_of 34 = .ok (.getfield 15, 3) := by decide +kernel
theorem dX0_of_37 : decode cX0_of 37 = .ok (.ireturn, 1) := by decide +kernel
theorem dX0_of_38 : decode cX0_of 38 = .ok (.aload_n 0, 1) := by decide +kernel
theorem dX0_of_39 : decode cX0_of 39 = .ok (.getfield 18, 3) := by decide +kernel
theorem dX0_of_42 : decode cX0_of 42 = .ok (.ireturn, 1) := by decide +kernel
theorem dX0_of_43 : decode cX0_of 43 = .ok (.iconst 0, 1) := by decide +kernel
theorem dX0_of_44 : decode cX0_of 44 = .ok (.ireturn, 1) := by decide +kernel
theorem dX0_put_0 : decode cX0_put 0 = .ok (.iload_n 1, 1) := by decide +kernel
theorem dX0_put_1 : decode cX0_put 1 = .ok (.tableswitch 51 0 2 #[27, 35, 43], 27) := by decide +kernel
theorem dX0_put_28 : decode cX0_put 28 = .ok (.aload_n 0, 1) := by decide +kernel
theorem dX0_put_29 : decode cX0_put 29 = .ok (.iload_n 2, 1) := by decide +kernel
theorem dX0_put_30 : decode cX0_put 30 = .ok (.putfield 9, 3) := by decide +kernel
theorem dX0_put_33 : decode cX0_put 33 = .ok (.goto 19, 3) := by decide +kernel
theorem dX0_put_36 : decode cX0_put 36 = .ok (.aload_n 0, 1) := by decide +kernel
theorem dX0_put_37 : decode cX0_put 37 = .ok (.iload_n 2, 1) := by decide +kernel
theorem dX0_put_38 : decode cX0_put 38 = .ok (.putfield 15, 3) := by decide +kernel
theorem dX0_put_41 : decode cX0_put 41 = .ok (.goto 11, 3) := by decide +kernel
theorem dX0_put_44 : decode cX0_put 44 = .ok (.aload_n 0, 1) := by decide +kernel
theorem dX0_put_45 : decode cX0_put 45 = .ok (.iload_n 2, 1) := by decide +kernel
theorem dX0_put_46 : decode cX0_put 46 = .ok (.putfield 18, 3) := by decide +kernel
theorem dX0_put_49 : decode cX0_put 49 = .ok (.goto 3, 3) := by decide +kernel
theorem dX0_put_52 : decode cX0_put 52 = .ok (.return_, 1) := by decide +kernel
theorem dX0_add_0 : decode cX0_add 0 = .ok (.aload_n 0, 1) := by decide +kernel
theorem dX0_add_1 : decode cX0_add 1 = .ok (.dup, 1) := by decide +kernel
theorem dX0_add_2 : decode cX0_add 2 = .ok (.getfield 9, 3) := by decide +kernel
theorem dX0_add_5 : decode cX0_add 5 = .ok (.aload_n 1, 1) := by decide +kernel
theorem dX0_add_6 : decode cX0_add 6 = .ok (.getfield 9, 3) := by decide +kernel
theorem dX0_add_9 : decode cX0_add 9 = .ok (.iadd, 1) := by decide +kernel
theorem dX0_add_10 : decode cX0_add 10 = .ok (.putfield 9, 3) := by decide +kernel
theorem dX0_add_13 : decode cX0_add 13 = .ok (.aload_n 0, 1) := by decide +kernel
theorem dX0_add_14 : decode cX0_add 14 = .ok (.dup, 1) := by decide +kernel
theorem dX0_add_15 : decode cX0_add 15 = .ok (.getfield 15, 3) := by decide +kernel
theorem dX0_add_18 : decode cX0_add 18 = .ok (.aload_n 1, 1) := by decide +kernel
theorem dX0_add_19 : decode cX0_add 19 = .ok (.getfield 15, 3) := by decide +kernel
theorem dX0_add_22 : decode cX0_add 22 = .ok (.iadd, 1) := by decide +kernel
theorem dX0_add_23 : decode cX0_add 23 = .ok (.putfield 15, 3) := by decide +kernel
theorem dX0_add_26 : decode cX0_add 26 = .ok (.aload_n 0, 1) := by decide +kernel
theorem dX0_add_27 : decode cX0_add 27 = .ok (.dup, 1) := by decide +kernel
theorem dX0_add_28 : decode cX0_add 28 = .ok (.getfield 18, 3) := by decide +kernel
theorem dX0_add_31 : decode cX0_add 31 = .ok (.aload_n 1, 1) := by decide +kernel
theorem dX0_add_32 : decode cX0_add 32 = .ok (.getfield 18, 3) := by decide +kernel
theorem dX0_add_35 : decode cX0_add 35 = .ok (.iadd, 1) := by decide +kernel
theorem dX0_add_36 : decode cX0_add 36 = .ok (.putfield 18, 3) := by decide +kernel
theorem dX0_add_39 : decode cX0_add 39 = .ok (.return_, 1) := by decide +kernel
theorem dX0_subtract_0 : decode cX0_subtract 0 = .ok (.aload_n 0, 1) := by decide +kernel
theorem dX0_subtract_1 : decode cX0_subtract 1 = .ok (.dup, 1) := by decide +kernel
theorem dX0_subtract_2 : decode cX0_subtract 2 = .ok (.getfield 9, 3) := by decide +kernel
theorem dX0_subtract_5 : decode cX0_subtract 5 = .ok (.aload_n 1, 1) := by decide +kernel
theorem dX0_subtract_6 : decode cX0_subtract 6 = .ok (.getfield 9, 3) := by decide +kernel
theorem dX0_subtract_9 : decode cX0_subtract 9 = .ok (.isub, 1) := by decide +kernel
theorem dX0_subtract_10 : decode cX0_subtract 10 = .ok (.putfield 9, 3) := by decide +kernel
theorem dX0_subtract_13 : decode cX0_subtract 13 = .ok (.aload_n 0, 1) := by decide +kernel
theorem dX0_subtract_14 : decode cX0_subtract 14 = .ok (.dup, 1) := by decide +kernel
theorem dX0_subtract_15 : decode cX0_subtract 15 = .ok (.getfield 15, 3) := by decide +kernel
theorem dX0_subtract_18 : decode cX0_subtract 18 = .ok (.aload_n 1, 1) := by decide +kernel
theorem dX0_subtract_19 : decode cX0_subtract 19 = .ok (.getfield 15, 3) := by decide +kernel
theorem dX0_subtract_22 : decode cX0_subtract 22 = .ok (.isub, 1) := by decide +kernel
theorem dX0_subtract_23 : decode cX0_subtract 23 = .ok (.putfield 15, 3) := by decide +kernel
theorem dX0_subtract_26 : decode cX0_subtract 26 = .ok (.aload_n 0, 1) := by decide +kernel
theorem dX0_subtract_27 : decode cX0_subtract 27 = .ok (.dup, 1) := by decide +kernel
theorem dX0_subtract_28 : decode cX0_subtract 28 = .ok (.getfield 18, 3) := by decide +kernel
theorem dX0_subtract_31 : decode cX0_subtract 31 = .ok (.aload_n 1, 1) := by decide +kernel
theorem dX0_subtract_32 : decode cX0_subtract 32 = .ok (.getfield 18, 3) := by decide +kernel
theorem dX0_subtract_35 : decode cX0_subtract 35 = .ok (.isub, 1) := by decide +kernel
theorem dX0_subtract_36 : decode cX0_subtract 36 = .ok (.putfield 18, 3) := by decide +kernel
theorem dX0_subtract_39 : decode cX0_subtract 39 = .ok (.return_, 1) := by decide +kernel
theorem dX0_clear_0 : decode cX0_clear 0 = .ok (.aload_n 0, 1) := by decide +kernel
theorem dX0_clear_1 : decode cX0_clear 1 = .ok (.iconst 0, 1) := by decide +kernel
theorem dX0_clear_2 : decode cX0_clear 2 = .ok (.putfield 9, 3) := by decide +kernel
theorem dX0_clear_5 : decode cX0_clear 5 = .ok (.aload_n 0, 1) := by decide +kernel
theorem dX0_clear_6 : decode cX0_clear 6 = .ok (.iconst 0, 1) := by decide +kernel
theorem dX0_clear_7 : decode cX0_clear 7 = .ok (.putfield 15, 3) := by decide +kernel
theorem dX0_clear_10 : decode cX0_clear 10 = .ok (.aload_n 0, 1) := by decide +kernel
theorem dX0_clear_11 : decode cX0_clear 11 = .ok (.iconst 0, 1) := by decide +kernel
theorem dX0_clear_12 : decode cX0_clear 12 = .ok (.putfield 18, 3) := by decide +kernel
theorem dX0_clear_15 : decode cX0_clear 15 = .ok (.return_, 1) := by decide +kernel
theorem dX1_init_0 : decode cX1_init 0 = .ok (.aload_n 0, 1) := by decide +kernel
theorem dX1_init_1 : decode cX1_init 1 = .ok (.invokespecial 3, 3) := by decide +kernel
theorem dX1_init_4 : decode cX1_init 4 = .ok (.aload_n 0, 1) := by decide +kernel
theorem dX1_init_5 : decode cX1_init 5 = .ok (.bipush 45, 2) := by decide +kernel
theorem dX1_init_7 : decode cX1_init 7 = .ok (.putfield 9, 3) := by decide +kernel
theorem dX1_init_10 : decode cX1_init 10 = .ok (.return_, 1) := by decide +kernel
theorem dX1_isUnderWay_0 : decode cX1_isUnderWay 0 = .ok (.aload_n 0, 1) := by decide +kernel
theorem dX1_isUnderWay_1 : decode cX1_isUnderWay 1 = .ok (.getfield 9, 3) := by decide +kernel
theorem dX1_isUnderWay_4 : decode cX1_isUnderWay 4 = .ok (.bipush 45, 2) := by decide +kernel
theorem dX1_isUnderWay_6 : decode cX1_isUnderWay 6 = .ok (.if_icmp .eq 7, 3) := by decide +kernel
theorem dX1_isUnderWay_9 : decode cX1_isUnderWay 9 = .ok (.iconst 1, 1) := by decide +kernel
theorem dX1_isUnderWay_10 : decode cX1_isUnderWay 10 = .ok (.goto 4, 3) := by decide +kernel
theorem dX1_isUnderWay_13 : decode cX1_isUnderWay 13 = .ok (.iconst 0, 1) := by decide +kernel
theorem dX1_isUnderWay_14 : decode cX1_isUnderWay 14 = .ok (.ireturn, 1) := by decide +kernel
theorem dX1_isBeforeCutting_0 : decode cX1_isBeforeCutting 0 = .ok (.aload_n 0, 1) := by decide +kernel
theorem dX1_isBeforeCutting_1 : decode cX1_isBeforeCutting 1 = .ok (.getfield 9, 3) := by decide +kernel
theorem dX1_isBeforeCutting_4 : decode cX1_isBeforeCutting 4 = .ok (.bipush 99, 2) := by decide +kernel
theorem dX1_isBeforeCutting_6 : decode cX1_isBeforeCutting 6 = .ok (.if_icmp .eq 12, 3) := by decide +kernel
theorem dX1_isBeforeCutting_9 : decode cX1_isBeforeCutting 9 = .ok (.aload_n 0, 1) := by decide +kernel
theorem dX1_isBeforeCutting_10 : decode cX1_isBeforeCutting 10 = .ok (.getfield 9, 3) := by decide +kernel
theorem dX1_isBeforeCutting_13 : decode cX1_isBeforeCutting 13 = .ok (.bipush 102, 2) := by decide +kernel
theorem dX1_isBeforeCutting_15 : decode cX1_isBeforeCutting 15 = .ok (.if_icmp .ne 7, 3) := by decide +kernel
theorem dX1_isBeforeCutting_18 : decode cX1_isBeforeCutting 18 = .ok (.iconst 1, 1) := by decide +kernel
theorem dX1_isBeforeCutting_19 : decode cX1_isBeforeCutting 19 = .ok (.goto 4, 3) := by decide +kernel
theorem dX1_isBeforeCutting_22 : decode cX1_isBeforeCutting 22 = .ok (.iconst 0, 1) := by decide +kernel
theorem dX1_isBeforeCutting_23 : decode cX1_isBeforeCutting 23 = .ok (.ireturn, 1) := by decide +kernel
theorem dX1_isCleaning_0 : decode cX1_isCleaning 0 = .ok (.aload_n 0, 1) := by decide +kernel
theorem dX1_isCleaning_1 : decode cX1_isCleaning 1 = .ok (.getfield 9, 3) := by decide +kernel
theorem dX1_isCleaning_4 : decode cX1_isCleaning 4 = .ok (.bipush 100, 2) := by decide +kernel
theorem dX1_isCleaning_6 : decode cX1_isCleaning 6 = .ok (.if_icmp .ne 15, 3) := by decide +kernel
theorem dX1_isCleaning_9 : decode cX1_isCleaning 9 = .ok (.aload_n 0, 1) := by decide +kernel
theorem dX1_isCleaning_10 : decode cX1_isCleaning 10 = .ok (.getfield 15, 3) := by decide +kernel
theorem dX1_isCleaning_13 : decode cX1_isCleaning 13 = .ok (.iload_n 1, 1) := by decide +kernel
theorem dX1_isCleaning_14 : decode cX1_isCleaning 14 = .ok (.if_icmp .ne 7, 3) := by decide +kernel
theorem dX1_isCleaning_17 : decode cX1_isCleaning 17 = .ok (.iconst 1, 1) := by decide +kernel
theorem dX1_isCleaning_18 : decode cX1_isCleaning 18 = .ok (.goto 4, 3) := by decide +kernel
theorem dX1_isCleaning_21 : decode cX1_isCleaning 21 = .ok (.iconst 0, 1) := by decide +kernel
theorem dX1_isCleaning_22 : decode cX1_isCleaning 22 = .ok (.ireturn, 1) := by decide +kernel
theorem dX1_begin_0 : decode cX1_begin 0 = .ok (.aload_n 0, 1) := by decide +kernel
theorem dX1_begin_1 : decode cX1_begin 1 = .ok (.bipush 99, 2) := by decide +kernel
theorem dX1_begin_3 : decode cX1_begin 3 = .ok (.putfield 9, 3) := by decide +kernel
theorem dX1_begin_6 : decode cX1_begin 6 = .ok (.aload_n 0, 1) := by decide +kernel
theorem dX1_begin_7 : decode cX1_begin 7 = .ok (.iload_n 1, 1) := by decide +kernel
theorem dX1_begin_8 : decode cX1_begin 8 = .ok (.putfield 15, 3) := by decide +kernel
theorem dX1_begin_11 : decode cX1_begin 11 = .ok (.aload_n 0, 1) := by decide +kernel
theorem dX1_begin_12 : decode cX1_begin 12 = .ok (.iload_n 2, 1) := by decide +kernel
theorem dX1_begin_13 : decode cX1_begin 13 = .ok (.putfield 19, 3) := by decide +kernel
theorem dX1_begin_16 : decode cX1_begin 16 = .ok (.aload_n 0, 1) := by decide +kernel
theorem dX1_begin_17 : decode cX1_begin 17 = .ok (.iload_n 3, 1) := by decide +kernel
theorem dX1_begin_18 : decode cX1_begin 18 = .ok (.putfield 22, 3) := by decide +kernel
theorem dX1_begin_21 : decode cX1_begin 21 = .ok (.return_, 1) := by decide +kernel
theorem dX1_end_0 : decode cX1_end 0 = .ok (.aload_n 0, 1) := by decide +kernel
theorem dX1_end_1 : decode cX1_end 1 = .ok (.bipush 45, 2) := by decide +kernel
theorem dX1_end_3 : decode cX1_end 3 = .ok (.putfield 9, 3) := by decide +kernel
theorem dX1_end_6 : decode cX1_end 6 = .ok (.return_, 1) := by decide +kernel
theorem dX1_goOn_0 : decode cX1_goOn 0 = .ok (.aload_n 0, 1) := by decide +kernel
theorem dX1_goOn_1 : decode cX1_goOn 1 = .ok (.getfield 9, 3) := by decide +kernel
theorem dX1_goOn_4 : decode cX1_goOn 4 = .ok (.bipush 102, 2) := by decide +kernel
theorem dX1_goOn_6 : decode cX1_goOn 6 = .ok (.if_icmp .ne 19, 3) := by decide +kernel
theorem dX1_goOn_9 : decode cX1_goOn 9 = .ok (.iload_n 1, 1) := by decide +kernel
theorem dX1_goOn_10 : decode cX1_goOn 10 = .ok (.ifCond .eq 13, 3) := by decide +kernel
theorem dX1_goOn_13 : decode cX1_goOn 13 = .ok (.aload_n 0, 1) := by decide +kernel
theorem dX1_goOn_14 : decode cX1_goOn 14 = .ok (.bipush 100, 2) := by decide +kernel
theorem dX1_goOn_16 : decode cX1_goOn 16 = .ok (.putfield 9, 3) := by decide +kernel
theorem dX1_goOn_19 : decode cX1_goOn 19 = .ok (.aload_n 0, 1) := by decide +kernel
theorem dX1_goOn_20 : decode cX1_goOn 20 = .ok (.invokevirtual 25, 3) := by decide +kernel
theorem dX1_goOn_23 : decode cX1_goOn 23 = .ok (.iload_n 1, 1) := by decide +kernel
theorem dX1_goOn_24 : decode cX1_goOn 24 = .ok (.ireturn, 1) := by decide +kernel
theorem dX1_goOn_25 : decode cX1_goOn 25 = .ok (.aload_n 0, 1) := by decide +kernel
theorem dX1_goOn_26 : decode cX1_goOn 26 = .ok (.dup, 1) := by decide +kernel
theorem dX1_goOn_27 : decode cX1_goOn 27 = .ok (.getfield 22, 3) := by decide +kernel
theorem dX1_goOn_30 : decode cX1_goOn 30 = .ok (.iconst 1, 1) := by decide +kernel
theorem dX1_goOn_31 : decode cX1_goOn 31 = .ok (.isub, 1) := by decide +kernel
theorem dX1_goOn_32 : decode cX1_goOn 32 = .ok (.putfield 22, 3) := by decide +kernel
theorem dX1_goOn_35 : decode cX1_goOn 35 = .ok (.aload_n 0, 1) := by decide +kernel
theorem dX1_goOn_36 : decode cX1_goOn 36 = .ok (.getfield 22, 3) := by decide +kernel
theorem dX1_goOn_39 : decode cX1_goOn 39 = .ok (.ifCond .gt 23, 3) := by decide +kernel
theorem dX1_goOn_42 : decode cX1_goOn 42 = .ok (.aload_n 0, 1) := by decide +kernel
theorem dX1_goOn_43 : decode cX1_goOn 43 = .ok (.aload_n 0, 1) := by decide +kernel
theorem dX1_goOn_44 : decode cX1_goOn 44 = .ok (.getfield 9, 3) := by decide +kernel
theorem dX1_goOn_47 : decode cX1_goOn 47 = .ok (.bipush 99, 2) := by decide +kernel
theorem dX1_goOn_49 : decode cX1_goOn 49 = .ok (.if_icmp .ne 8, 3) := by decide +kernel
theorem dX1_goOn_52 : decode cX1_goOn 52 = .ok (.bipush 102, 2) := by decide +kernel
theorem dX1_goOn_54 : decode cX1_goOn 54 = .ok (.goto 5, 3) := by decide +kernel
theorem dX1_goOn_57 : decode cX1_goOn 57 = .ok (.bipush 45, 2) := by decide +kernel
theorem dX1_goOn_59 : decode cX1_goOn 59 = .ok (.putfield 9, 3) := by decide +kernel
theorem dX1_goOn_62 : decode cX1_goOn 62 = .ok (.iconst 0, 1) := by decide +kernel
theorem dX1_goOn_63 : decode cX1_goOn 63 = .ok (.ireturn, 1) := by decide +kernel
theorem dX1_cleanAnew_0 : decode cX1_cleanAnew 0 = .ok (.aload_n 0, 1) := by decide +kernel
theorem dX1_cleanAnew_1 : decode cX1_cleanAnew 1 = .ok (.iconst 2, 1) := by decide +kernel
theorem dX1_cleanAnew_2 : decode cX1_cleanAnew 2 = .ok (.putfield 22, 3) := by decide +kernel
theorem dX1_cleanAnew_5 : decode cX1_cleanAnew 5 = .ok (.return_, 1) := by decide +kernel
theorem dX1_turnRound_0 : decode cX1_turnRound 0 = .ok (.aload_n 0, 1) := by decide +kernel
theorem dX1_turnRound_1 : decode cX1_turnRound 1 = .ok (.getfield 19, 3) := by decide +kernel
theorem dX1_turnRound_4 : decode cX1_turnRound 4 = .ok (.istore_n 1, 1) := by decide +kernel
theorem dX1_turnRound_5 : decode cX1_turnRound 5 = .ok (.aload_n 0, 1) := by decide +kernel
theorem dX1_turnRound_6 : decode cX1_turnRound 6 = .ok (.aload_n 0, 1) := by decide +kernel
theorem dX1_turnRound_7 : decode cX1_turnRound 7 = .ok (.getfield 15, 3) := by decide +kernel
theorem dX1_turnRound_10 : decode cX1_turnRound 10 = .ok (.putfield 19, 3) := by decide +kernel
theorem dX1_turnRound_13 : decode cX1_turnRound 13 = .ok (.aload_n 0, 1) := by decide +kernel
theorem dX1_turnRound_14 : decode cX1_turnRound 14 = .ok (.iload_n 1, 1) := by decide +kernel
theorem dX1_turnRound_15 : decode cX1_turnRound 15 = .ok (.putfield 15, 3) := by decide +kernel
theorem dX1_turnRound_18 : decode cX1_turnRound 18 = .ok (.aload_n 0, 1) := by decide +kernel
theorem dX1_turnRound_19 : decode cX1_turnRound 19 = .ok (.invokevirtual 25, 3) := by decide +kernel
theorem dX1_turnRound_22 : decode cX1_turnRound 22 = .ok (.return_, 1) := by decide +kernel
theorem dX1_copyFrom_0 : decode cX1_copyFrom 0 = .ok (.aload_n 0, 1) := by decide +kernel
theorem dX1_copyFrom_1 : decode cX1_copyFrom 1 = .ok (.aload_n 1, 1) := by decide +kernel
theorem dX1_copyFrom_2 : decode cX1_copyFrom 2 = .ok (.getfield 9, 3) := by decide +kernel
theorem dX1_copyFrom_5 : decode cX1_copyFrom 5 = .ok (.putfield 9, 3) := by decide +kernel
theorem dX1_copyFrom_8 : decode cX1_copyFrom 8 = .ok (.aload_n 0, 1) := by decide +kernel
theorem dX1_copyFrom_9 : decode cX1_copyFrom 9 = .ok (.aload_n 1, 1) := by decide +kernel
theorem dX1_copyFrom_10 : decode cX1_copyFrom 10 = .ok (.getfield 15, 3) := by decide +kernel
theorem dX1_copyFrom_13 : decode cX1_copyFrom 13 = .ok (.putfield 15, 3) := by decide +kernel
theorem dX1_copyFrom_16 : decode cX1_copyFrom 16 = .ok (.aload_n 0, 1) := by decide +kernel
theorem dX1_copyFrom_17 : decode cX1_copyFrom 17 = .ok (.aload_n 1, 1) := by decide +kernel
theorem dX1_copyFrom_18 : decode cX1_copyFrom 18 = .ok (.getfield 19, 3) := by decide +kernel
theorem dX1_copyFrom_21 : decode cX1_copyFrom 21 = .ok (.putfield 19, 3) := by decide +kernel
theorem dX1_copyFrom_24 : decode cX1_copyFrom 24 = .ok (.aload_n 0, 1) := by decide +kernel
theorem dX1_copyFrom_25 : decode cX1_copyFrom 25 = .ok (.aload_n 1, 1) := by decide +kernel
theorem dX1_copyFrom_26 : decode cX1_copyFrom 26 = .ok (.getfield 22, 3) := by decide +kernel
theorem dX1_copyFrom_29 : decode cX1_copyFrom 29 = .ok (.putfield 22, 3) := by decide +kernel
theorem dX1_copyFrom_32 : decode cX1_copyFrom 32 = .ok (.return_, 1) := by decide +kernel
theorem dX2_init_0 : decode cX2_init 0 = .ok (.aload_n 0, 1) := by decide +kernel
theorem dX2_init_1 : decode cX2_init 1 = .ok (.invokespecial 3, 3) := by decide +kernel
theorem dX2_init_4 : decode cX2_init 4 = .ok (.return_, 1) := by decide +kernel
theorem dX2_tryAll_0 : decode cX2_tryAll 0 = .ok (.aload_n 0, 1) := by decide +kernel
theorem dX2_tryAll_1 : decode cX2_tryAll 1 = .ok (.iconst 0, 1) := by decide +kernel
theorem dX2_tryAll_2 : decode cX2_tryAll 2 = .ok (.putfield 9, 3) := by decide +kernel
theorem dX2_tryAll_5 : decode cX2_tryAll 5 = .ok (.aload_n 0, 1) := by decide +kernel
theorem dX2_tryAll_6 : decode cX2_tryAll 6 = .ok (.bipush 7, 2) := by decide +kernel
theorem dX2_tryAll_8 : decode cX2_tryAll 8 = .ok (.putfield 15, 3) := by decide +kernel
theorem dX2_tryAll_11 : decode cX2_tryAll 11 = .ok (.aload_n 1, 1) := by decide +kernel
theorem dX2_tryAll_12 : decode cX2_tryAll 12 = .ok (.invokestatic 18, 3) := by decide +kernel
theorem dX2_tryAll_15 : decode cX2_tryAll 15 = .ok (.aload_n 0, 1) := by decide +kernel
theorem dX2_tryAll_16 : decode cX2_tryAll 16 = .ok (.aload_n 1, 1) := by decide +kernel
theorem dX2_tryAll_17 : decode cX2_tryAll 17 = .ok (.aload_n 2, 1) := by decide +kernel
theorem dX2_tryAll_18 : decode cX2_tryAll 18 = .ok (.iconst 0, 1) := by decide +kernel
theorem dX2_tryAll_19 : decode cX2_tryAll 19 = .ok (.iconst 0, 1) := by decide +kernel
theorem dX2_tryAll_20 : decode cX2_tryAll 20 = .ok (.invokestatic 22, 3) := by decide +kernel
theorem dX2_tryAll_23 : decode cX2_tryAll 23 = .ok (.return_, 1) := by decide +kernel
theorem dX2_findBest_0 : decode cX2_findBest 0 = .ok (.iconst 0, 1) := by decide +kernel
theorem dX2_findBest_1 : decode cX2_findBest 1 = .ok (.istore_n 3, 1) := by decide +kernel
theorem dX2_findBest_2 : decode cX2_findBest 2 = .ok (.iload_n 3, 1) := by decide +kernel
theorem dX2_findBest_3 : decode cX2_findBest 3 = .ok (.aload_n 2, 1) := by decide +kernel
theorem dX2_findBest_4 : decode cX2_findBest 4 = .ok (.arraylength, 1) := by decide +kernel
theorem dX2_findBest_5 : decode cX2_findBest 5 = .ok (.if_icmp .gt 25, 3) := by decide +kernel
theorem dX2_findBest_8 : decode cX2_findBest 8 = .ok (.aload_n 1, 1) := by decide +kernel
theorem dX2_findBest_9 : decode cX2_findBest 9 = .ok (.invokestatic 18, 3) := by decide +kernel
theorem dX2_findBest_12 : decode cX2_findBest 12 = .ok (.aload_n 1, 1) := by decide +kernel
theorem dX2_findBest_13 : decode cX2_findBest 13 = .ok (.aload_n 2, 1) := by decide +kernel
theorem dX2_findBest_14 : decode cX2_findBest 14 = .ok (.iconst 0, 1) := by decide +kernel
theorem dX2_findBest_15 : decode cX2_findBest 15 = .ok (.iload_n 3, 1) := by decide +kernel
theorem dX2_findBest_16 : decode cX2_findBest 16 = .ok (.invokestatic 26, 3) := by decide +kernel
theorem dX2_findBest_19 : decode cX2_findBest 19 = .ok (.ifCond .eq 5, 3) := by decide +kernel
theorem dX2_findBest_22 : decode cX2_findBest 22 = .ok (.iload_n 3, 1) := by decide +kernel
theorem dX2_findBest_23 : decode cX2_findBest 23 = .ok (.ireturn, 1) := by decide +kernel
theorem dX2_findBest_24 : decode cX2_findBest 24 = .ok (.iinc 3 1, 3) := by decide +kernel
theorem dX2_findBest_27 : decode cX2_findBest 27 = .ok (.goto (-25), 3) := by decide +kernel
theorem dX2_findBest_30 : decode cX2_findBest 30 = .ok (.bipush 7, 2) := by decide +kernel
theorem dX2_findBest_32 : decode cX2_findBest 32 = .ok (.ireturn, 1) := by decide +kernel
theorem dX2_clearTrials_0 : decode cX2_clearTrials 0 = .ok (.aload_n 0, 1) := by decide +kernel
theorem dX2_clearTrials_1 : decode cX2_clearTrials 1 = .ok (.astore_n 1, 1) := by decide +kernel
theorem dX2_clearTrials_2 : decode cX2_clearTrials 2 = .ok (.aload_n 1, 1) := by decide +kernel
theorem dX2_clearTrials_3 : decode cX2_clearTrials 3 = .ok (.arraylength, 1) := by decide +kernel
theorem dX2_clearTrials_4 : decode cX2_clearTrials 4 = .ok (.istore_n 2, 1) := by decide +kernel
theorem dX2_clearTrials_5 : decode cX2_clearTrials 5 = .ok (.iconst 0, 1) := by decide +kernel
theorem dX2_clearTrials_6 : decode cX2_clearTrials 6 = .ok (.istore_n 3, 1) := by decide +kernel
theorem dX2_clearTrials_7 : decode cX2_clearTrials 7 = .ok (.iload_n 3, 1) := by decide +kernel
theorem dX2_clearTrials_8 : decode cX2_clearTrials 8 = .ok (.iload_n 2, 1) := by decide +kernel
theorem dX2_clearTrials_9 : decode cX2_clearTrials 9 = .ok (.if_icmp .ge 24, 3) := by decide +kernel
theorem dX2_clearTrials_12 : decode cX2_clearTrials 12 = .ok (.aload_n 1, 1) := by decide +kernel
theorem dX2_clearTrials_13 : decode cX2_clearTrials 13 = .ok (.iload_n 3, 1) := by decide +kernel
theorem dX2_clearTrials_14 : decode cX2_clearTrials 14 = .ok (.aaload, 1) := by decide +kernel
theorem dX2_clearTrials_15 : decode cX2_clearTrials 15 = .ok (.astore 4, 2) := by decide +kernel
theorem dX2_clearTrials_17 : decode cX2_clearTrials 17 = .ok (.aload 4, 2) := by decide +kernel
theorem dX2_clearTrials_19 : decode cX2_clearTrials 19 = .ok (.ifnull 8, 3) := by decide +kernel
theorem dX2_clearTrials_22 : decode cX2_clearTrials 22 = .ok (.aload 4, 2) := by decide +kernel
theorem dX2_clearTrials_24 : decode cX2_clearTrials 24 = .ok (.invokevirtual 30, 3) := by decide +kernel
theorem dX2_clearTrials_27 : decode cX2_clearTrials 27 = .ok (.iinc 3 1, 3) := by decide +kernel
theorem dX2_clearTrials_30 : decode cX2_clearTrials 30 = .ok (.goto (-23), 3) := by decide +kernel
theorem dX2_clearTrials_33 : decode cX2_clearTrials 33 = .ok (.return_, 1) := by decide +kernel
theorem dX2_tryFrom_0 : decode cX2_tryFrom 0 = .ok (.aload_n 2, 1) := by decide +kernel
theorem dX2_tryFrom_1 : decode cX2_tryFrom 1 = .ok (.iload_n 3, 1) := by decide +kernel
theorem dX2_tryFrom_2 : decode cX2_tryFrom 2 = .ok (.invokestatic 35, 3) := by decide +kernel
theorem dX2_tryFrom_5 : decode cX2_tryFrom 5 = .ok (.astore 5, 2) := by decide +kernel
theorem dX2_tryFrom_7 : decode cX2_tryFrom 7 = .ok (.aload 5, 2) := by decide +kernel
theorem dX2_tryFrom_9 : decode cX2_tryFrom 9 = .ok (.ifnonnull 10, 3) := by decide +kernel
theorem dX2_tryFrom_12 : decode cX2_tryFrom 12 = .ok (.aload_n 0, 1) := by decide +kernel
theorem dX2_tryFrom_13 : decode cX2_tryFrom 13 = .ok (.iload 4, 2) := by decide +kernel
theorem dX2_tryFrom_15 : decode cX2_tryFrom 15 = .ok (.invokevirtual 39, 3) := by decide +kernel
theorem dX2_tryFrom_18 : decode cX2_tryFrom 18 = .ok (.return_, 1) := by decide +kernel
theorem dX2_tryFrom_19 : decode cX2_tryFrom 19 = .ok (.iconst 0, 1) := by decide +kernel
theorem dX2_tryFrom_20 : decode cX2_tryFrom 20 = .ok (.istore 6, 2) := by decide +kernel
theorem dX2_tryFrom_22 : decode cX2_tryFrom 22 = .ok (.iload 6, 2) := by decide +kernel
theorem dX2_tryFrom_24 : decode cX2_tryFrom 24 = .ok (.aload_n 1, 1) := by decide +kernel
theorem dX2_tryFrom_25 : decode cX2_tryFrom 25 = .ok (.arraylength, 1) := by decide +kernel
theorem dX2_tryFrom_26 : decode cX2_tryFrom 26 = .ok (.if_icmp .ge 77, 3) := by decide +kernel
theorem dX2_tryFrom_29 : decode cX2_tryFrom 29 = .ok (.aload_n 1, 1) := by decide +kernel
theorem dX2_tryFrom_30 : decode cX2_tryFrom 30 = .ok (.iload 6, 2) := by decide +kernel
theorem dX2_tryFrom_32 : decode cX2_tryFrom 32 = .ok (.aaload, 1) := by decide +kernel
theorem dX2_tryFrom_33 : decode cX2_tryFrom 33 = .ok (.astore 7, 2) := by decide +kernel
theorem dX2_tryFrom_35 : decode cX2_tryFrom 35 = .ok (.aload 7, 2) := by decide +kernel
theorem dX2_tryFrom_37 : decode cX2_tryFrom 37 = .ok (.ifnull 60, 3) := by decide +kernel
theorem dX2_tryFrom_40 : decode cX2_tryFrom 40 = .ok (.aload 7, 2) := by decide +kernel
theorem dX2_tryFrom_42 : decode cX2_tryFrom 42 = .ok (.aload 5, 2) := by decide +kernel
theorem dX2_tryFrom_44 : decode cX2_tryFrom 44 = .ok (.invokevirtual 43, 3) := by decide +kernel
theorem dX2_tryFrom_47 : decode cX2_tryFrom 47 = .ok (.ifCond .eq 50, 3) := by decide +kernel
theorem dX2_tryFrom_50 : decode cX2_tryFrom 50 = .ok (.aload 7, 2) := by decide +kernel
theorem dX2_tryFrom_52 : decode cX2_tryFrom 52 = .ok (.iload_n 3, 1) := by decide +kernel
theorem dX2_tryFrom_53 : decode cX2_tryFrom 53 = .ok (.aload 5, 2) := by decide +kernel
theorem dX2_tryFrom_55 : decode cX2_tryFrom 55 = .ok (.invokevirtual 47, 3) := by decide +kernel
theorem dX2_tryFrom_58 : decode cX2_tryFrom 58 = .ok (.iload 6, 2) := by decide +kernel
theorem dX2_tryFrom_60 : decode cX2_tryFrom 60 = .ok (.aload 5, 2) := by decide +kernel
theorem dX2_tryFrom_62 : decode cX2_tryFrom 62 = .ok (.getfield 51, 3) := by decide +kernel
theorem dX2_tryFrom_65 : decode cX2_tryFrom 65 = .ok (.if_icmp .ne 7, 3) := by decide +kernel
theorem dX2_tryFrom_68 : decode cX2_tryFrom 68 = .ok (.iconst 0, 1) := by decide +kernel
theorem dX2_tryFrom_69 : decode cX2_tryFrom 69 = .ok (.goto 4, 3) := by decide +kernel
theorem dX2_tryFrom_72 : decode cX2_tryFrom 72 = .ok (.iconst 1, 1) := by decide +kernel
theorem dX2_tryFrom_73 : decode cX2_tryFrom 73 = .ok (.istore 8, 2) := by decide +kernel
theorem dX2_tryFrom_75 : decode cX2_tryFrom 75 = .ok (.aload_n 0, 1) := by decide +kernel
theorem dX2_tryFrom_76 : decode cX2_tryFrom 76 = .ok (.aload_n 1, 1) := by decide +kernel
theorem dX2_tryFrom_77 : decode cX2_tryFrom 77 = .ok (.aload_n 2, 1) := by decide +kernel
theorem dX2_tryFrom_78 : decode cX2_tryFrom 78 = .ok (.iload_n 3, 1) := by decide +kernel
theorem dX2_tryFrom_79 : decode cX2_tryFrom 79 = .ok (.iconst 1, 1) := by decide +kernel
theorem dX2_tryFrom_80 : decode cX2_tryFrom 80 = .ok (.iadd, 1) := by decide +kernel
theorem dX2_tryFrom_81 : decode cX2_tryFrom 81 = .ok (.iload 4, 2) := by decide +kernel
theorem dX2_tryFrom_83 : decode cX2_tryFrom 83 = .ok (.iload 8, 2) := by decide +kernel
theorem dX2_tryFrom_85 : decode cX2_tryFrom 85 = .ok (.iadd, 1) := by decide +kernel
theorem dX2_tryFrom_86 : decode cX2_tryFrom 86 = .ok (.invokestatic 22, 3) := by decide +kernel
theorem dX2_tryFrom_89 : decode cX2_tryFrom 89 = .ok (.aload 7, 2) := by decide +kernel
theorem dX2_tryFrom_91 : decode cX2_tryFrom 91 = .ok (.iload_n 3, 1) := by decide +kernel
theorem dX2_tryFrom_92 : decode cX2_tryFrom 92 = .ok (.aload 5, 2) := by decide +kernel
theorem dX2_tryFrom_94 : decode cX2_tryFrom 94 = .ok (.invokevirtual 56, 3) := by decide +kernel
theorem dX2_tryFrom_97 : decode cX2_tryFrom 97 = .ok (.iinc 6 1, 3) := by decide +kernel
theorem dX2_tryFrom_100 : decode cX2_tryFrom 100 = .ok (.goto (-78), 3) := by decide +kernel
theorem dX2_tryFrom_103 : decode cX2_tryFrom 103 = .ok (.return_, 1) := by decide +kernel
theorem dX2_noteSound_0 : decode cX2_noteSound 0 = .ok (.aload_n 0, 1) := by decide +kernel
theorem dX2_noteSound_1 : decode cX2_noteSound 1 = .ok (.dup, 1) := by decide +kernel
theorem dX2_noteSound_2 : decode cX2_noteSound 2 = .ok (.getfield 9, 3) := by decide +kernel
theorem dX2_noteSound_5 : decode cX2_noteSound 5 = .ok (.iconst 1, 1) := by decide +kernel
theorem dX2_noteSound_6 : decode cX2_noteSound 6 = .ok (.iadd, 1) := by decide +kernel
theorem dX2_noteSound_7 : decode cX2_noteSound 7 = .ok (.putfield 9, 3) := by decide +kernel
theorem dX2_noteSound_10 : decode cX2_noteSound 10 = .ok (.aload_n 0, 1) := by decide +kernel
theorem dX2_noteSound_11 : decode cX2_noteSound 11 = .ok (.aload_n 0, 1) := by decide +kernel
theorem dX2_noteSound_12 : decode cX2_noteSound 12 = .ok (.getfield 15, 3) := by decide +kernel
theorem dX2_noteSound_15 : decode cX2_noteSound 15 = .ok (.iload_n 1, 1) := by decide +kernel
theorem dX2_noteSound_16 : decode cX2_noteSound 16 = .ok (.invokestatic 59, 3) := by decide +kernel
theorem dX2_noteSound_19 : decode cX2_noteSound 19 = .ok (.putfield 15, 3) := by decide +kernel
theorem dX2_noteSound_22 : decode cX2_noteSound 22 = .ok (.return_, 1) := by decide +kernel
theorem dX2_findFrom_0 : decode cX2_findFrom 0 = .ok (.aload_n 1, 1) := by decide +kernel
theorem dX2_findFrom_1 : decode cX2_findFrom 1 = .ok (.iload_n 2, 1) := by decide +kernel
theorem dX2_findFrom_2 : decode cX2_findFrom 2 = .ok (.invokestatic 35, 3) := by decide +kernel
theorem dX2_findFrom_5 : decode cX2_findFrom 5 = .ok (.astore 4, 2) := by decide +kernel
theorem dX2_findFrom_7 : decode cX2_findFrom 7 = .ok (.aload 4, 2) := by decide +kernel
theorem dX2_findFrom_9 : decode cX2_findFrom 9 = .ok (.ifnonnull 5, 3) := by decide +kernel
theorem dX2_findFrom_12 : decode cX2_findFrom 12 = .ok (.iconst 1, 1) := by decide +kernel
theorem dX2_findFrom_13 : decode cX2_findFrom 13 = .ok (.ireturn, 1) := by decide +kernel
theorem dX2_findFrom_14 : decode cX2_findFrom 14 = .ok (.iconst 0, 1) := by decide +kernel
theorem dX2_findFrom_15 : decode cX2_findFrom 15 = .ok (.istore 5, 2) := by decide +kernel
theorem dX2_findFrom_17 : decode cX2_findFrom 17 = .ok (.iload 5, 2) := by decide +kernel
theorem dX2_findFrom_19 : decode cX2_findFrom 19 = .ok (.aload_n 0, 1) := by decide +kernel
theorem dX2_findFrom_20 : decode cX2_findFrom 20 = .ok (.arraylength, 1) := by decide +kernel
theorem dX2_findFrom_21 : decode cX2_findFrom 21 = .ok (.if_icmp .ge 92, 3) := by decide +kernel
theorem dX2_findFrom_24 : decode cX2_findFrom 24 = .ok (.aload_n 0, 1) := by decide +kernel
theorem dX2_findFrom_25 : decode cX2_findFrom 25 = .ok (.iload 5, 2) := by decide +kernel
theorem dX2_findFrom_27 : decode cX2_findFrom 27 = .ok (.aaload, 1) := by decide +kernel
theorem dX2_findFrom_28 : decode cX2_findFrom 28 = .ok (.astore 6, 2) := by decide +kernel
theorem dX2_findFrom_30 : decode cX2_findFrom 30 = .ok (.iload 5, 2) := by decide +kernel
theorem dX2_findFrom_32 : decode cX2_findFrom 32 = .ok (.aload 4, 2) := by decide +kernel
theorem dX2_findFrom_34 : decode cX2_findFrom 34 = .ok (.getfield 51, 3) := by decide +kernel
theorem dX2_findFrom_37 : decode cX2_findFrom 37 = .ok (.if_icmp .ne 7, 3) := by decide +kernel
theorem dX2_findFrom_40 : decode cX2_findFrom 40 = .ok (.iload_n 3, 1) := by decide +kernel
theorem dX2_findFrom_41 : decode cX2_findFrom 41 = .ok (.goto 6, 3) := by decide +kernel
theorem dX2_findFrom_44 : decode cX2_findFrom 44 = .ok (.iload_n 3, 1) := by decide +kernel
theorem dX2_findFrom_45 : decode cX2_findFrom 45 = .ok (.iconst 1, 1) := by decide +kernel
theorem dX2_findFrom_46 : decode cX2_findFrom 46 = .ok (.isub, 1) := by decide +kernel
theorem dX2_findFrom_47 : decode cX2_findFrom 47 = .ok (.istore 7, 2) := by decide +kernel
theorem dX2_findFrom_49 : decode cX2_findFrom 49 = .ok (.aload 6, 2) := by decide +kernel
theorem dX2_findFrom_51 : decode cX2_findFrom 51 = .ok (.ifnull 56, 3) := by decide +kernel
theorem dX2_findFrom_54 : decode cX2_findFrom 54 = .ok (.iload 7, 2) := by decide +kernel
theorem dX2_findFrom_56 : decode cX2_findFrom 56 = .ok (.ifCond .lt 51, 3) := by decide +kernel
theorem dX2_findFrom_59 : decode cX2_findFrom 59 = .ok (.aload 6, 2) := by decide +kernel
theorem dX2_findFrom_61 : decode cX2_findFrom 61 = .ok (.aload 4, 2) := by decide +kernel
theorem dX2_findFrom_63 : decode cX2_findFrom 63 = .ok (.invokevirtual 43, 3) := by decide +kernel
theorem dX2_findFrom_66 : decode cX2_findFrom 66 = .ok (.ifCond .eq 41, 3) := by decide +kernel
theorem dX2_findFrom_69 : decode cX2_findFrom 69 = .ok (.aload 6, 2) := by decide +kernel
theorem dX2_findFrom_71 : decode cX2_findFrom 71 = .ok (.iload_n 2, 1) := by decide +kernel
theorem dX2_findFrom_72 : decode cX2_findFrom 72 = .ok (.aload 4, 2) := by decide +kernel
theorem dX2_findFrom_74 : decode cX2_findFrom 74 = .ok (.invokevirtual 47, 3) := by decide +kernel
theorem dX2_findFrom_77 : decode cX2_findFrom 77 = .ok (.aload 4, 2) := by decide +kernel
theorem dX2_findFrom_79 : decode cX2_findFrom 79 = .ok (.iload 5, 2) := by decide +kernel
theorem dX2_findFrom_81 : decode cX2_findFrom 81 = .ok (.putfield 65, 3) := by decide +kernel
theorem dX2_findFrom_84 : decode cX2_findFrom 84 = .ok (.aload_n 0, 1) := by decide +kernel
theorem dX2_findFrom_85 : decode cX2_findFrom 85 = .ok (.aload_n 1, 1) := by decide +kernel
theorem dX2_findFrom_86 : decode cX2_findFrom 86 = .ok (.iload_n 2, 1) := by decide +kernel
theorem dX2_findFrom_87 : decode cX2_findFrom 87 = .ok (.iconst 1, 1) := by decide +kernel
theorem dX2_findFrom_88 : decode cX2_findFrom 88 = .ok (.iadd, 1) := by decide +kernel
theorem dX2_findFrom_89 : decode cX2_findFrom 89 = .ok (.iload 7, 2) := by decide +kernel
theorem dX2_findFrom_91 : decode cX2_findFrom 91 = .ok (.invokestatic 26, 3) := by decide +kernel
theorem dX2_findFrom_94 : decode cX2_findFrom 94 = .ok (.ifCond .eq 5, 3) := by decide +kernel
theorem dX2_findFrom_97 : decode cX2_findFrom 97 = .ok (.iconst 1, 1) := by decide +kernel
theorem dX2_findFrom_98 : decode cX2_findFrom 98 = .ok (.ireturn, 1) := by decide +kernel
theorem dX2_findFrom_99 : decode cX2_findFrom 99 = .ok (.aload 6, 2) := by decide +kernel
theorem dX2_findFrom_101 : decode cX2_findFrom 101 = .ok (.iload_n 2, 1) := by decide +kernel
theorem dX2_findFrom_102 : decode cX2_findFrom 102 = .ok (.aload 4, 2) := by decide +kernel
theorem dX2_findFrom_104 : decode cX2_findFrom 104 = .ok (.invokevirtual 56, 3) := by decide +kernel
theorem dX2_findFrom_107 : decode cX2_findFrom 107 = .ok (.iinc 5 1, 3) := by decide +kernel
theorem dX2_findFrom_110 : decode cX2_findFrom 110 = .ok (.goto (-93), 3) := by decide +kernel
theorem dX2_findFrom_113 : decode cX2_findFrom 113 = .ok (.iconst 0, 1) := by decide +kernel
theorem dX2_findFrom_114 : decode cX2_findFrom 114 = .ok (.ireturn, 1) := by decide +kernel
theorem dX2_tenantOrNull_0 : decode cX2_tenantOrNull 0 = .ok (.iload_n 1, 1) := by decide +kernel
theorem dX2_tenantOrNull_1 : decode cX2_tenantOrNull 1 = .ok (.ifCond .lt 9, 3) := by decide +kernel
theorem dX2_tenantOrNull_4 : decode cX2_tenantOrNull 4 = .ok (.iload_n 1, 1) := by decide +kernel
theorem dX2_tenantOrNull_5 : decode cX2_tenantOrNull 5 = .ok (.aload_n 0, 1) := by decide +kernel
theorem dX2_tenantOrNull_6 : decode cX2_tenantOrNull 6 = .ok (.arraylength, 1) := by decide +kernel
theorem dX2_tenantOrNull_7 : decode cX2_tenantOrNull 7 = .ok (.if_icmp .lt 7, 3) := by decide +kernel
theorem dX2_tenantOrNull_10 : decode cX2_tenantOrNull 10 = .ok (.aconst_null, 1) := by decide +kernel
theorem dX2_tenantOrNull_11 : decode cX2_tenantOrNull 11 = .ok (.goto 6, 3) := by decide +kernel
theorem dX2_tenantOrNull_14 : decode cX2_tenantOrNull 14 = .ok (.aload_n 0, 1) := by decide +kernel
theorem dX2_tenantOrNull_15 : decode cX2_tenantOrNull 15 = .ok (.iload_n 1, 1) := by decide +kernel
theorem dX2_tenantOrNull_16 : decode cX2_tenantOrNull 16 = .ok (.aaload, 1) := by decide +kernel
theorem dX2_tenantOrNull_17 : decode cX2_tenantOrNull 17 = .ok (.areturn, 1) := by decide +kernel
theorem dX3_init_0 : decode cX3_init 0 = .ok (.aload_n 0, 1) := by decide +kernel
theorem dX3_init_1 : decode cX3_init 1 = .ok (.invokespecial 1, 3) := by decide +kernel
theorem dX3_init_4 : decode cX3_init 4 = .ok (.aload_n 0, 1) := by decide +kernel
theorem dX3_init_5 : decode cX3_init 5 = .ok (.new 7, 3) := by decide +kernel
theorem dX3_init_8 : decode cX3_init 8 = .ok (.dup, 1) := by decide +kernel
theorem dX3_init_9 : decode cX3_init 9 = .ok (.iload_n 1, 1) := by decide +kernel
theorem dX3_init_10 : decode cX3_init 10 = .ok (.iload_n 2, 1) := by decide +kernel
theorem dX3_init_11 : decode cX3_init 11 = .ok (.iload_n 3, 1) := by decide +kernel
theorem dX3_init_12 : decode cX3_init 12 = .ok (.invokespecial 9, 3) := by decide +kernel
theorem dX3_init_15 : decode cX3_init 15 = .ok (.putfield 12, 3) := by decide +kernel
theorem dX3_init_18 : decode cX3_init 18 = .ok (.aload_n 0, 1) := by decide +kernel
theorem dX3_init_19 : decode cX3_init 19 = .ok (.new 7, 3) := by decide +kernel
theorem dX3_init_22 : decode cX3_init 22 = .ok (.dup, 1) := by decide +kernel
theorem dX3_init_23 : decode cX3_init 23 = .ok (.iconst 0, 1) := by decide +kernel
theorem dX3_init_24 : decode cX3_init 24 = .ok (.iconst 0, 1) := by decide +kernel
theorem dX3_init_25 : decode cX3_init 25 = .ok (.iconst 0, 1) := by decide +kernel
theorem dX3_init_26 : decode cX3_init 26 = .ok (.invokespecial 9, 3) := by decide +kernel
theorem dX3_init_29 : decode cX3_init 29 = .ok (.putfield 18, 3) := by decide +kernel
theorem dX3_init_32 : decode cX3_init 32 = .ok (.aload_n 0, 1) := by decide +kernel
theorem dX3_init_33 : decode cX3_init 33 = .ok (.iconst 1, 1) := by decide +kernel
theorem dX3_init_34 : decode cX3_init 34 = .ok (.putfield 21, 3) := by decide +kernel
theorem dX3_init_37 : decode cX3_init 37 = .ok (.aload_n 0, 1) := by decide +kernel
theorem dX3_init_38 : decode cX3_init 38 = .ok (.new 7, 3) := by decide +kernel
theorem dX3_init_41 : decode cX3_init 41 = .ok (.dup, 1) := by decide +kernel
theorem dX3_init_42 : decode cX3_init 42 = .ok (.iconst 0, 1) := by decide +kernel
theorem dX3_init_43 : decode cX3_init 43 = .ok (.iconst 0, 1) := by decide +kernel
theorem dX3_init_44 : decode cX3_init 44 = .ok (.iconst 0, 1) := by decide +kernel
theorem dX3_init_45 : decode cX3_init 45 = .ok (.invokespecial 9, 3) := by decide +kernel
theorem dX3_init_48 : decode cX3_init 48 = .ok (.putfield 25, 3) := by decide +kernel
theorem dX3_init_51 : decode cX3_init 51 = .ok (.return_, 1) := by decide +kernel
theorem dX3_usesTooMuch_0 : decode cX3_usesTooMuch 0 = .ok (.aload_n 0, 1) := by decide +kernel
theorem dX3_usesTooMuch_1 : decode cX3_usesTooMuch 1 = .ok (.getfield 18, 3) := by decide +kernel
theorem dX3_usesTooMuch_4 : decode cX3_usesTooMuch 4 = .ok (.getfield 28, 3) := by decide +kernel
theorem dX3_usesTooMuch_7 : decode cX3_usesTooMuch 7 = .ok (.aload_n 0, 1) := by decide +kernel
theorem dX3_usesTooMuch_8 : decode cX3_usesTooMuch 8 = .ok (.getfield 12, 3) := by decide +kernel
theorem dX3_usesTooMuch_11 : decode cX3_usesTooMuch 11 = .ok (.getfield 28, 3) := by decide +kernel
theorem dX3_usesTooMuch_14 : decode cX3_usesTooMuch 14 = .ok (.if_icmp .gt 37, 3) := by decide +kernel
theorem dX3_usesTooMuch_17 : decode cX3_usesTooMuch 17 = .ok (.aload_n 0, 1) := by decide +kernel
theorem dX3_usesTooMuch_18 : decode cX3_usesTooMuch 18 = .ok (.getfield 18, 3) := by decide +kernel
theorem dX3_usesTooMuch_21 : decode cX3_usesTooMuch 21 = .ok (.getfield 32, 3) := by decide +kernel
theorem dX3_usesTooMuch_24 : decode cX3_usesTooMuch 24 = .ok (.aload_n 0, 1) := by decide +kernel
theorem dX3_usesTooMuch_25 : decode cX3_usesTooMuch 25 = .ok (.getfield 12, 3) := by decide +kernel
theorem dX3_usesTooMuch_28 : decode cX3_usesTooMuch 28 = .ok (.getfield 32, 3) := by decide +kernel
theorem dX3_usesTooMuch_31 : decode cX3_usesTooMuch 31 = .ok (.if_icmp .gt 20, 3) := by decide +kernel
theorem dX3_usesTooMuch_34 : decode cX3_usesTooMuch 34 = .ok (.aload_n 0, 1) := by decide +kernel
theorem dX3_usesTooMuch_35 : decode cX3_usesTooMuch 35 = .ok (.getfield 18, 3) := by decide +kernel
theorem dX3_usesTooMuch_38 : decode cX3_usesTooMuch 38 = .ok (.getfield 35, 3) := by decide +kernel
theorem dX3_usesTooMuch_41 : decode cX3_usesTooMuch 41 = .ok (.aload_n 0, 1) := by decide +kernel
theorem dX3_usesTooMuch_42 : decode cX3_usesTooMuch 42 = .ok (.getfield 12, 3) := by decide +kernel
theorem dX3_usesTooMuch_45 : decode cX3_usesTooMuch 45 = .ok (.getfield 35, 3) := by decide +kernel
theorem dX3_usesTooMuch_48 : decode cX3_usesTooMuch 48 = .ok (.if_icmp .le 7, 3) := by decide +kernel
theorem dX3_usesTooMuch_51 : decode cX3_usesTooMuch 51 = .ok (.iconst 1, 1) := by decide +kernel
theorem dX3_usesTooMuch_52 : decode cX3_usesTooMuch 52 = .ok (.goto 4, 3) := by decide +kernel
theorem dX3_usesTooMuch_55 : decode cX3_usesTooMuch 55 = .ok (.iconst 0, 1) := by decide +kernel
theorem dX3_usesTooMuch_56 : decode cX3_usesTooMuch 56 = .ok (.ireturn, 1) := by decide +kernel
theorem dX3_hasRoom_0 : decode cX3_hasRoom 0 = .ok (.aload_n 0, 1) := by decide +kernel
theorem dX3_hasRoom_1 : decode cX3_hasRoom 1 = .ok (.getfield 18, 3) := by decide +kernel
theorem dX3_hasRoom_4 : decode cX3_hasRoom 4 = .ok (.getfield 28, 3) := by decide +kernel
theorem dX3_hasRoom_7 : decode cX3_hasRoom 7 = .ok (.iload_n 1, 1) := by decide +kernel
theorem dX3_hasRoom_8 : decode cX3_hasRoom 8 = .ok (.iadd, 1) := by decide +kernel
theorem dX3_hasRoom_9 : decode cX3_hasRoom 9 = .ok (.aload_n 0, 1) := by decide +kernel
theorem dX3_hasRoom_10 : decode cX3_hasRoom 10 = .ok (.getfield 12, 3) := by decide +kernel
theorem dX3_hasRoom_13 : decode cX3_hasRoom 13 = .ok (.getfield 28, 3) := by decide +kernel
theorem dX3_hasRoom_16 : decode cX3_hasRoom 16 = .ok (.if_icmp .gt 45, 3) := by decide +kernel
theorem dX3_hasRoom_19 : decode cX3_hasRoom 19 = .ok (.aload_n 0, 1) := by decide +kernel
theorem dX3_hasRoom_20 : decode cX3_hasRoom 20 = .ok (.getfield 18, 3) := by decide +kernel
theorem dX3_hasRoom_23 : decode cX3_hasRoom 23 = .ok (.getfield 32, 3) := by decide +kernel
theorem dX3_hasRoom_26 : decode cX3_hasRoom 26 = .ok (.iload_n 2, 1) := by decide +kernel
theorem dX3_hasRoom_27 : decode cX3_hasRoom 27 = .ok (.iadd, 1) := by decide +kernel
theorem dX3_hasRoom_28 : decode cX3_hasRoom 28 = .ok (.aload_n 0, 1) := by decide +kernel
theorem dX3_hasRoom_29 : decode cX3_hasRoom 29 = .ok (.getfield 12, 3) := by decide +kernel
theorem dX3_hasRoom_32 : decode cX3_hasRoom 32 = .ok (.getfield 32, 3) := by decide +kernel
theorem dX3_hasRoom_35 : decode cX3_hasRoom 35 = .ok (.if_icmp .gt 26, 3) := by decide +kernel
theorem dX3_hasRoom_38 : decode cX3_hasRoom 38 = .ok (.aload_n 0, 1) := by decide +kernel
theorem dX3_hasRoom_39 : decode cX3_hasRoom 39 = .ok (.getfield 18, 3) := by decide +kernel
theorem dX3_hasRoom_42 : decode cX3_hasRoom 42 = .ok (.getfield 35, 3) := by decide +kernel
theorem dX3_hasRoom_45 : decode cX3_hasRoom 45 = .ok (.iload_n 3, 1) := by decide +kernel
theorem dX3_hasRoom_46 : decode cX3_hasRoom 46 = .ok (.iadd, 1) := by decide +kernel
theorem dX3_hasRoom_47 : decode cX3_hasRoom 47 = .ok (.aload_n 0, 1) := by decide +kernel
theorem dX3_hasRoom_48 : decode cX3_hasRoom 48 = .ok (.getfield 12, 3) := by decide +kernel
theorem dX3_hasRoom_51 : decode cX3_hasRoom 51 = .ok (.getfield 35, 3) := by decide +kernel
theorem dX3_hasRoom_54 : decode cX3_hasRoom 54 = .ok (.if_icmp .gt 7, 3) := by decide +kernel
theorem dX3_hasRoom_57 : decode cX3_hasRoom 57 = .ok (.iconst 1, 1) := by decide +kernel
theorem dX3_hasRoom_58 : decode cX3_hasRoom 58 = .ok (.goto 4, 3) := by decide +kernel
theorem dX3_hasRoom_61 : decode cX3_hasRoom 61 = .ok (.iconst 0, 1) := by decide +kernel
theorem dX3_hasRoom_62 : decode cX3_hasRoom 62 = .ok (.ireturn, 1) := by decide +kernel
theorem dX3_hasRoomBesidesStorage_0 : decode cX3_hasRoomBesidesStorage 0 = .ok (.aload_n 0, 1) := by decide +kernel
theorem dX3_hasRoomBesidesStorage_1 : decode cX3_hasRoomBesidesStorage 1 = .ok (.getfield 18, 3) := by decide +kernel
theorem dX3_hasRoomBesidesStorage_4 : decode cX3_hasRoomBesidesStorage 4 = .ok (.getfield 32, 3) := by decide +kernel
theorem dX3_hasRoomBesidesStorage_7 : decode cX3_hasRoomBesidesStorage 7 = .ok (.aload_n 1, 1) := by decide +kernel
theorem dX3_hasRoomBesidesStorage_8 : decode cX3_hasRoomBesidesStorage 8 = .ok (.getfield 32, 3) := by decide +kernel
theorem dX3_hasRoomBesidesStorage_11 : decode cX3_hasRoomBesidesStorage 11 = .ok (.iadd, 1) := by decide +kernel
theorem dX3_hasRoomBesidesStorage_12 : decode cX3_hasRoomBesidesStorage 12 = .ok (.aload_n 0, 1) := by decide +kernel
theorem dX3_hasRoomBesidesStorage_13 : decode cX3_hasRoomBesidesStorage 13 = .ok (.getfield 12, 3) := by decide +kernel
theorem dX3_hasRoomBesidesStorage_16 : decode cX3_hasRoomBesidesStorage 16 = .ok (.getfield 32, 3) := by decide +kernel
theorem dX3_hasRoomBesidesStorage_19 : decode cX3_hasRoomBesidesStorage 19 = .ok (.if_icmp .gt 29, 3) := by decide +kernel
theorem dX3_hasRoomBesidesStorage_22 : decode cX3_hasRoomBesidesStorage 22 = .ok (.aload_n 0, 1) := by decide +kernel
theorem dX3_hasRoomBesidesStorage_23 : decode cX3_hasRoomBesidesStorage 23 = .ok (.getfield 18, 3) := by decide +kernel
theorem dX3_hasRoomBesidesStorage_26 : decode cX3_hasRoomBesidesStorage 26 = .ok (.getfield 35, 3) := by decide +kernel
theorem dX3_hasRoomBesidesStorage_29 : decode cX3_hasRoomBesidesStorage 29 = .ok (.aload_n 1, 1) := by decide +kernel
theorem dX3_hasRoomBesidesStorage_30 : decode cX3_hasRoomBesidesStorage 30 = .ok (.getfield 35, 3) := by decide +kernel
theorem dX3_hasRoomBesidesStorage_33 : decode cX3_hasRoomBesidesStorage 33 = .ok (.iadd, 1) := by decide +kernel
theorem dX3_hasRoomBesidesStorage_34 : decode cX3_hasRoomBesidesStorage 34 = .ok (.aload_n 0, 1) := by decide +kernel
theorem dX3_hasRoomBesidesStorage_35 : decode cX3_hasRoomBesidesStorage 35 = .ok (.getfield 12, 3) := by decide +kernel
theorem dX3_hasRoomBesidesStorage_38 : decode cX3_hasRoomBesidesStorage 38 = .ok (.getfield 35, 3) := by decide +kernel
theorem dX3_hasRoomBesidesStorage_41 : decode cX3_hasRoomBesidesStorage 41 = .ok (.if_icmp .gt 7, 3) := by decide +kernel
theorem dX3_hasRoomBesidesStorage_44 : decode cX3_hasRoomBesidesStorage 44 = .ok (.iconst 1, 1) := by decide +kernel
theorem dX3_hasRoomBesidesStorage_45 : decode cX3_hasRoomBesidesStorage 45 = .ok (.goto 4, 3) := by decide +kernel
theorem dX3_hasRoomBesidesStorage_48 : decode cX3_hasRoomBesidesStorage 48 = .ok (.iconst 0, 1) := by decide +kernel
theorem dX3_hasRoomBesidesStorage_49 : decode cX3_hasRoomBesidesStorage 49 = .ok (.ireturn, 1) := by decide +kernel
theorem dX3_takesInTrial_0 : decode cX3_takesInTrial 0 = .ok (.aload_n 1, 1) := by decide +kernel
theorem dX3_takesInTrial_1 : decode cX3_takesInTrial 1 = .ok (.getfield 38, 3) := by decide +kernel
theorem dX3_takesInTrial_4 : decode cX3_takesInTrial 4 = .ok (.astore_n 2, 1) := by decide +kernel
theorem dX3_takesInTrial_5 : decode cX3_takesInTrial 5 = .ok (.aload_n 0, 1) := by decide +kernel
theorem dX3_takesInTrial_6 : decode cX3_takesInTrial 6 = .ok (.getfield 21, 3) := by decide +kernel
theorem dX3_takesInTrial_9 : decode cX3_takesInTrial 9 = .ok (.ifCond .eq 85, 3) := by decide +kernel
theorem dX3_takesInTrial_12 : decode cX3_takesInTrial 12 = .ok (.aload_n 0, 1) := by decide +kernel
theorem dX3_takesInTrial_13 : decode cX3_takesInTrial 13 = .ok (.getfield 43, 3) := by decide +kernel
theorem dX3_takesInTrial_16 : decode cX3_takesInTrial 16 = .ok (.aload_n 1, 1) := by decide +kernel
theorem dX3_takesInTrial_17 : decode cX3_takesInTrial 17 = .ok (.getfield 46, 3) := by decide +kernel
theorem dX3_takesInTrial_20 : decode cX3_takesInTrial 20 = .ok (.iand, 1) := by decide +kernel
theorem dX3_takesInTrial_21 : decode cX3_takesInTrial 21 = .ok (.ifCond .ne 73, 3) := by decide +kernel
theorem dX3_takesInTrial_24 : decode cX3_takesInTrial 24 = .ok (.aload_n 0, 1) := by decide +kernel
theorem dX3_takesInTrial_25 : decode cX3_takesInTrial 25 = .ok (.getfield 25, 3) := by decide +kernel
theorem dX3_takesInTrial_28 : decode cX3_takesInTrial 28 = .ok (.getfield 28, 3) := by decide +kernel
theorem dX3_takesInTrial_31 : decode cX3_takesInTrial 31 = .ok (.aload_n 2, 1) := by decide +kernel
theorem dX3_takesInTrial_32 : decode cX3_takesInTrial 32 = .ok (.getfield 28, 3) := by decide +kernel
theorem dX3_takesInTrial_35 : decode cX3_takesInTrial 35 = .ok (.iadd, 1) := by decide +kernel
theorem dX3_takesInTrial_36 : decode cX3_takesInTrial 36 = .ok (.aload_n 0, 1) := by decide +kernel
theorem dX3_takesInTrial_37 : decode cX3_takesInTrial 37 = .ok (.getfield 12, 3) := by decide +kernel
theorem dX3_takesInTrial_40 : decode cX3_takesInTrial 40 = .ok (.getfield 28, 3) := by decide +kernel
theorem dX3_takesInTrial_43 : decode cX3_takesInTrial 43 = .ok (.if_icmp .gt 51, 3) := by decide +kernel
theorem dX3_takesInTrial_46 : decode cX3_takesInTrial 46 = .ok (.aload_n 0, 1) := by decide +kernel
theorem dX3_takesInTrial_47 : decode cX3_takesInTrial 47 = .ok (.getfield 25, 3) := by decide +kernel
theorem dX3_takesInTrial_50 : decode cX3_takesInTrial 50 = .ok (.getfield 32, 3) := by decide +kernel
theorem dX3_takesInTrial_53 : decode cX3_takesInTrial 53 = .ok (.aload_n 2, 1) := by decide +kernel
theorem dX3_takesInTrial_54 : decode cX3_takesInTrial 54 = .ok (.getfield 32, 3) := by decide +kernel
theorem dX3_takesInTrial_57 : decode cX3_takesInTrial 57 = .ok (.iadd, 1) := by decide +kernel
theorem dX3_takesInTrial_58 : decode cX3_takesInTrial 58 = .ok (.aload_n 0, 1) := by decide +kernel
theorem dX3_takesInTrial_59 : decode cX3_takesInTrial 59 = .ok (.getfield 12, 3) := by decide +kernel
theorem dX3_takesInTrial_62 : decode cX3_takesInTrial 62 = .ok (.getfield 32, 3) := by decide +kernel
theorem dX3_takesInTrial_65 : decode cX3_takesInTrial 65 = .ok (.if_icmp .gt 29, 3) := by decide +kernel
theorem dX3_takesInTrial_68 : decode cX3_takesInTrial 68 = .ok (.aload_n 0, 1) := by decide +kernel
theorem dX3_takesInTrial_69 : decode cX3_takesInTrial 69 = .ok (.getfield 25, 3) := by decide +kernel
theorem dX3_takesInTrial_72 : decode cX3_takesInTrial 72 = .ok (.getfield 35, 3) := by decide +kernel
theorem dX3_takesInTrial_75 : decode cX3_takesInTrial 75 = .ok (.aload_n 2, 1) := by decide +kernel
theorem dX3_takesInTrial_76 : decode cX3_takesInTrial 76 = .ok (.getfield 35, 3) := by decide +kernel
theorem dX3_takesInTrial_79 : decode cX3_takesInTrial 79 = .ok (.iadd, 1) := by decide +kernel
theorem dX3_takesInTrial_80 : decode cX3_takesInTrial 80 = .ok (.aload_n 0, 1) := by decide +kernel
theorem dX3_takesInTrial_81 : decode cX3_takesInTrial 81 = .ok (.getfield 12, 3) := by decide +kernel
theorem dX3_takesInTrial_84 : decode cX3_takesInTrial 84 = .ok (.getfield 35, 3) := by decide +kernel
theorem dX3_takesInTrial_87 : decode cX3_takesInTrial 87 = .ok (.if_icmp .gt 7, 3) := by decide +kernel
theorem dX3_takesInTrial_90 : decode cX3_takesInTrial 90 = .ok (.iconst 1, 1) := by decide +kernel
theorem dX3_takesInTrial_91 : decode cX3_takesInTrial 91 = .ok (.goto 4, 3) := by decide +kernel
theorem dX3_takesInTrial_94 : decode cX3_takesInTrial 94 = .ok (.iconst 0, 1) := by decide +kernel
theorem dX3_takesInTrial_95 : decode cX3_takesInTrial 95 = .ok (.ireturn, 1) := by decide +kernel
theorem dX3_putInTrial_0 : decode cX3_putInTrial 0 = .ok (.aload_n 0, 1) := by decide +kernel
theorem dX3_putInTrial_1 : decode cX3_putInTrial 1 = .ok (.dup, 1) := by decide +kernel
theorem dX3_putInTrial_2 : decode cX3_putInTrial 2 = .ok (.getfield 43, 3) := by decide +kernel
theorem dX3_putInTrial_5 : decode cX3_putInTrial 5 = .ok (.iconst 1, 1) := by decide +kernel
theorem dX3_putInTrial_6 : decode cX3_putInTrial 6 = .ok (.iload_n 1, 1) := by decide +kernel
theorem dX3_putInTrial_7 : decode cX3_putInTrial 7 = .ok (.ishl, 1) := by decide +kernel
theorem dX3_putInTrial_8 : decode cX3_putInTrial 8 = .ok (.ior, 1) := by decide +kernel
theorem dX3_putInTrial_9 : decode cX3_putInTrial 9 = .ok (.putfield 43, 3) := by decide +kernel
theorem dX3_putInTrial_12 : decode cX3_putInTrial 12 = .ok (.aload_n 0, 1) := by decide +kernel
theorem dX3_putInTrial_13 : decode cX3_putInTrial 13 = .ok (.getfield 25, 3) := by decide +kernel
theorem dX3_putInTrial_16 : decode cX3_putInTrial 16 = .ok (.aload_n 2, 1) := by decide +kernel
theorem dX3_putInTrial_17 : decode cX3_putInTrial 17 = .ok (.getfield 38, 3) := by decide +kernel
theorem dX3_putInTrial_20 : decode cX3_putInTrial 20 = .ok (.invokevirtual 49, 3) := by decide +kernel
theorem dX3_putInTrial_23 : decode cX3_putInTrial 23 = .ok (.return_, 1) := by decide +kernel
theorem dX3_takeFromTrial_0 : decode cX3_takeFromTrial 0 = .ok (.aload_n 0, 1) := by decide +kernel
theorem dX3_takeFromTrial_1 : decode cX3_takeFromTrial 1 = .ok (.dup, 1) := by decide +kernel
theorem dX3_takeFromTrial_2 : decode cX3_takeFromTrial 2 = .ok (.getfield 43, 3) := by decide +kernel
theorem dX3_takeFromTrial_5 : decode cX3_takeFromTrial 5 = .ok (.iconst 1, 1) := by decide +kernel
theorem dX3_takeFromTrial_6 : decode cX3_takeFromTrial 6 = .ok (.iload_n 1, 1) := by decide +kernel
theorem dX3_takeFromTrial_7 : decode cX3_takeFromTrial 7 = .ok (.ishl, 1) := by decide +kernel
theorem dX3_takeFromTrial_8 : decode cX3_takeFromTrial 8 = .ok (.iconst (-1), 1) := by decide +kernel
theorem dX3_takeFromTrial_9 : decode cX3_takeFromTrial 9 = .ok (.ixor, 1) := by decide +kernel
theorem dX3_takeFromTrial_10 : decode cX3_takeFromTrial 10 = .ok (.iand, 1) := by decide +kernel
theorem dX3_takeFromTrial_11 : decode cX3_takeFromTrial 11 = .ok (.putfield 43, 3) := by decide +kernel
theorem dX3_takeFromTrial_14 : decode cX3_takeFromTrial 14 = .ok (.aload_n 0, 1) := by decide +kernel
theorem dX3_takeFromTrial_15 : decode cX3_takeFromTrial 15 = .ok (.getfield 25, 3) := by decide +kernel
theorem dX3_takeFromTrial_18 : decode cX3_takeFromTrial 18 = .ok (.aload_n 2, 1) := by decide +kernel
theorem dX3_takeFromTrial_19 : decode cX3_takeFromTrial 19 = .ok (.getfield 38, 3) := by decide +kernel
theorem dX3_takeFromTrial_22 : decode cX3_takeFromTrial 22 = .ok (.invokevirtual 53, 3) := by decide +kernel
theorem dX3_takeFromTrial_25 : decode cX3_takeFromTrial 25 = .ok (.return_, 1) := by decide +kernel
theorem dX3_clearTrial_0 : decode cX3_clearTrial 0 = .ok (.aload_n 0, 1) := by decide +kernel
theorem dX3_clearTrial_1 : decode cX3_clearTrial 1 = .ok (.iconst 0, 1) := by decide +kernel
theorem dX3_clearTrial_2 : decode cX3_clearTrial 2 = .ok (.putfield 43, 3) := by decide +kernel
theorem dX3_clearTrial_5 : decode cX3_clearTrial 5 = .ok (.aload_n 0, 1) := by decide +kernel
theorem dX3_clearTrial_6 : decode cX3_clearTrial 6 = .ok (.getfield 25, 3) := by decide +kernel
theorem dX3_clearTrial_9 : decode cX3_clearTrial 9 = .ok (.invokevirtual 56, 3) := by decide +kernel
theorem dX3_clearTrial_12 : decode cX3_clearTrial 12 = .ok (.return_, 1) := by decide +kernel
theorem dX4_init_0 : decode cX4_init 0 = .ok (.aload_n 0, 1) := by decide +kernel
theorem dX4_init_1 : decode cX4_init 1 = .ok (.invokespecial 3, 3) := by decide +kernel
theorem dX4_init_4 : decode cX4_init 4 = .ok (.aload_n 0, 1) := by decide +kernel
theorem dX4_init_5 : decode cX4_init 5 = .ok (.iload_n 1, 1) := by decide +kernel
theorem dX4_init_6 : decode cX4_init 6 = .ok (.putfield 9, 3) := by decide +kernel
theorem dX4_init_9 : decode cX4_init 9 = .ok (.aload_n 0, 1) := by decide +kernel
theorem dX4_init_10 : decode cX4_init 10 = .ok (.iload 5, 2) := by decide +kernel
theorem dX4_init_12 : decode cX4_init 12 = .ok (.putfield 15, 3) := by decide +kernel
theorem dX4_init_15 : decode cX4_init 15 = .ok (.aload_n 0, 1) := by decide +kernel
theorem dX4_init_16 : decode cX4_init 16 = .ok (.new 18, 3) := by decide +kernel
theorem dX4_init_19 : decode cX4_init 19 = .ok (.dup, 1) := by decide +kernel
theorem dX4_init_20 : decode cX4_init 20 = .ok (.iload_n 2, 1) := by decide +kernel
theorem dX4_init_21 : decode cX4_init 21 = .ok (.iload_n 3, 1) := by decide +kernel
theorem dX4_init_22 : decode cX4_init 22 = .ok (.iload 4, 2) := by decide +kernel
theorem dX4_init_24 : decode cX4_init 24 = .ok (.invokespecial 20, 3) := by decide +kernel
theorem dX4_init_27 : decode cX4_init 27 = .ok (.putfield 23, 3) := by decide +kernel
theorem dX4_init_30 : decode cX4_init 30 = .ok (.aload_n 0, 1) := by decide +kernel
theorem dX4_init_31 : decode cX4_init 31 = .ok (.new 27, 3) := by decide +kernel
theorem dX4_init_34 : decode cX4_init 34 = .ok (.dup, 1) := by decide +kernel
theorem dX4_init_35 : decode cX4_init 35 = .ok (.invokespecial 29, 3) := by decide +kernel
theorem dX4_init_38 : decode cX4_init 38 = .ok (.putfield 30, 3) := by decide +kernel
theorem dX4_init_41 : decode cX4_init 41 = .ok (.return_, 1) := by decide +kernel
theorem dX4_isApartFrom_0 : decode cX4_isApartFrom 0 = .ok (.aload_n 0, 1) := by decide +kernel
theorem dX4_isApartFrom_1 : decode cX4_isApartFrom 1 = .ok (.getfield 34, 3) := by decide +kernel
theorem dX4_isApartFrom_4 : decode cX4_isApartFrom 4 = .ok (.iload_n 1, 1) := by decide +kernel
theorem dX4_isApartFrom_5 : decode cX4_isApartFrom 5 = .ok (.ishr, 1) := by decide +kernel
theorem dX4_isApartFrom_6 : decode cX4_isApartFrom 6 = .ok (.iconst 1, 1) := by decide +kernel
theorem dX4_isApartFrom_7 : decode cX4_isApartFrom 7 = .ok (.iand, 1) := by decide +kernel
theorem dX4_isApartFrom_8 : decode cX4_isApartFrom 8 = .ok (.ifCond .eq 7, 3) := by decide +kernel
theorem dX4_isApartFrom_11 : decode cX4_isApartFrom 11 = .ok (.iconst 1, 1) := by decide +kernel
theorem dX4_isApartFrom_12 : decode cX4_isApartFrom 12 = .ok (.goto 4, 3) := by decide +kernel
theorem dX4_isApartFrom_15 : decode cX4_isApartFrom 15 = .ok (.iconst 0, 1) := by decide +kernel
theorem dX4_isApartFrom_16 : decode cX4_isApartFrom 16 = .ok (.ireturn, 1) := by decide +kernel
theorem dX4_isPresentOn_0 : decode cX4_isPresentOn 0 = .ok (.aload_n 0, 1) := by decide +kernel
theorem dX4_isPresentOn_1 : decode cX4_isPresentOn 1 = .ok (.getfield 9, 3) := by decide +kernel
theorem dX4_isPresentOn_4 : decode cX4_isPresentOn 4 = .ok (.iload_n 1, 1) := by decide +kernel
theorem dX4_isPresentOn_5 : decode cX4_isPresentOn 5 = .ok (.if_icmp .eq 24, 3) := by decide +kernel
theorem dX4_isPresentOn_8 : decode cX4_isPresentOn 8 = .ok (.aload_n 0, 1) := by decide +kernel
theorem dX4_isPresentOn_9 : decode cX4_isPresentOn 9 = .ok (.getfield 30, 3) := by decide +kernel
theorem dX4_isPresentOn_12 : decode cX4_isPresentOn 12 = .ok (.invokevirtual 37, 3) := by decide +kernel
theorem dX4_isPresentOn_15 : decode cX4_isPresentOn 15 = .ok (.ifCond .eq 18, 3) := by decide +kernel
theorem dX4_isPresentOn_18 : decode cX4_isPresentOn 18 = .ok (.aload_n 0, 1) := by decide +kernel
theorem dX4_isPresentOn_19 : decode cX4_isPresentOn 19 = .ok (.getfield 30, 3) := by decide +kernel
theorem dX4_isPresentOn_22 : decode cX4_isPresentOn 22 = .ok (.getfield 41, 3) := by decide +kernel
theorem dX4_isPresentOn_25 : decode cX4_isPresentOn 25 = .ok (.iload_n 1, 1) := by decide +kernel
theorem dX4_isPresentOn_26 : decode cX4_isPresentOn 26 = .ok (.if_icmp .ne 7, 3) := by decide +kernel
theorem dX4_isPresentOn_29 : decode cX4_isPresentOn 29 = .ok (.iconst 1, 1) := by decide +kernel
theorem dX4_isPresentOn_30 : decode cX4_isPresentOn 30 = .ok (.goto 4, 3) := by decide +kernel
theorem dX4_isPresentOn_33 : decode cX4_isPresentOn 33 = .ok (.iconst 0, 1) := by decide +kernel
theorem dX4_isPresentOn_34 : decode cX4_isPresentOn 34 = .ok (.ireturn, 1) := by decide +kernel
theorem dX4_useOn_0 : decode cX4_useOn 0 = .ok (.aload_n 0, 1) := by decide +kernel
theorem dX4_useOn_1 : decode cX4_useOn 1 = .ok (.iload_n 1, 1) := by decide +kernel
theorem dX4_useOn_2 : decode cX4_useOn 2 = .ok (.invokevirtual 44, 3) := by decide +kernel
theorem dX4_useOn_5 : decode cX4_useOn 5 = .ok (.ifCond .ne 18, 3) := by decide +kernel
theorem dX4_useOn_8 : decode cX4_useOn 8 = .ok (.iload_n 2, 1) := by decide +kernel
theorem dX4_useOn_9 : decode cX4_useOn 9 = .ok (.ifCond .ne 18, 3) := by decide +kernel
theorem dX4_useOn_12 : decode cX4_useOn 12 = .ok (.aload_n 0, 1) := by decide +kernel
theorem dX4_useOn_13 : decode cX4_useOn 13 = .ok (.getfield 30, 3) := by decide +kernel
theorem dX4_useOn_16 : decode cX4_useOn 16 = .ok (.iload_n 1, 1) := by decide +kernel
theorem dX4_useOn_17 : decode cX4_useOn 17 = .ok (.invokevirtual 48, 3) := by decide +kernel
theorem dX4_useOn_20 : decode cX4_useOn 20 = .ok (.ifCond .eq 7, 3) := by decide +kernel
theorem dX4_useOn_23 : decode cX4_useOn 23 = .ok (.iconst 1, 1) := by decide +kernel
theorem dX4_useOn_24 : decode cX4_useOn 24 = .ok (.goto 4, 3) := by decide +kernel
theorem dX4_useOn_27 : decode cX4_useOn 27 = .ok (.iconst 0, 1) := by decide +kernel
theorem dX4_useOn_28 : decode cX4_useOn 28 = .ok (.istore_n 3, 1) := by decide +kernel
theorem dX4_useOn_29 : decode cX4_useOn 29 = .ok (.iload_n 3, 1) := by decide +kernel
theorem dX4_useOn_30 : decode cX4_useOn 30 = .ok (.ifCond .eq 14, 3) := by decide +kernel
theorem dX4_useOn_33 : decode cX4_useOn 33 = .ok (.aload_n 0, 1) := by decide +kernel
theorem dX4_useOn_34 : decode cX4_useOn 34 = .ok (.getfield 23, 3) := by decide +kernel
theorem dX4_useOn_37 : decode cX4_useOn 37 = .ok (.iload_n 2, 1) := by decide +kernel
theorem dX4_useOn_38 : decode cX4_useOn 38 = .ok (.invokevirtual 51, 3) := by decide +kernel
theorem dX4_useOn_41 : decode cX4_useOn 41 = .ok (.goto 4, 3) := by decide +kernel
theorem dX4_useOn_44 : decode cX4_useOn 44 = .ok (.iconst 0, 1) := by decide +kernel
theorem dX4_useOn_45 : decode cX4_useOn 45 = .ok (.ireturn, 1) := by decide +kernel
theorem dX4_windowHours_0 : decode cX4_windowHours 0 = .ok (.aload_n 0, 1) := by decide +kernel
theorem dX4_windowHours_1 : decode cX4_windowHours 1 = .ok (.getfield 55, 3) := by decide +kernel
theorem dX4_windowHours_4 : decode cX4_windowHours 4 = .ok (.aload_n 0, 1) := by decide +kernel
theorem dX4_windowHours_5 : decode cX4_windowHours 5 = .ok (.getfield 58, 3) := by decide +kernel
theorem dX4_windowHours_8 : decode cX4_windowHours 8 = .ok (.isub, 1) := by decide +kernel
theorem dX4_windowHours_9 : decode cX4_windowHours 9 = .ok (.bipush 24, 2) := by decide +kernel
theorem dX4_windowHours_11 : decode cX4_windowHours 11 = .ok (.invokestatic 61, 3) := by decide +kernel
theorem dX4_windowHours_14 : decode cX4_windowHours 14 = .ok (.istore_n 1, 1) := by decide +kernel
theorem dX4_windowHours_15 : decode cX4_windowHours 15 = .ok (.iload_n 1, 1) := by decide +kernel
theorem dX4_windowHours_16 : decode cX4_windowHours 16 = .ok (.ifCond .ne 8, 3) := by decide +kernel
theorem dX4_windowHours_19 : decode cX4_windowHours 19 = .ok (.bipush 24, 2) := by decide +kernel
theorem dX4_windowHours_21 : decode cX4_windowHours 21 = .ok (.goto 4, 3) := by decide +kernel
theorem dX4_windowHours_24 : decode cX4_windowHours 24 = .ok (.iload_n 1, 1) := by decide +kernel
theorem dX4_windowHours_25 : decode cX4_windowHours 25 = .ok (.ireturn, 1) := by decide +kernel
theorem dX4_isInWindow_0 : decode cX4_isInWindow 0 = .ok (.iload_n 1, 1) := by decide +kernel
theorem dX4_isInWindow_1 : decode cX4_isInWindow 1 = .ok (.aload_n 0, 1) := by decide +kernel
theorem dX4_isInWindow_2 : decode cX4_isInWindow 2 = .ok (.getfield 58, 3) := by decide +kernel
theorem dX4_isInWindow_5 : decode cX4_isInWindow 5 = .ok (.isub, 1) := by decide +kernel
theorem dX4_isInWindow_6 : decode cX4_isInWindow 6 = .ok (.bipush 24, 2) := by decide +kernel
theorem dX4_isInWindow_8 : decode cX4_isInWindow 8 = .ok (.invokestatic 61, 3) := by decide +kernel
theorem dX4_isInWindow_11 : decode cX4_isInWindow 11 = .ok (.aload_n 0, 1) := by decide +kernel
theorem dX4_isInWindow_12 : decode cX4_isInWindow 12 = .ok (.invokevirtual 67, 3) := by decide +kernel
theorem dX4_isInWindow_15 : decode cX4_isInWindow 15 = .ok (.if_icmp .ge 7, 3) := by decide +kernel
theorem dX4_isInWindow_18 : decode cX4_isInWindow 18 = .ok (.iconst 1, 1) := by decide +kernel
theorem dX4_isInWindow_19 : decode cX4_isInWindow 19 = .ok (.goto 4, 3) := by decide +kernel
theorem dX4_isInWindow_22 : decode cX4_isInWindow 22 = .ok (.iconst 0, 1) := by decide +kernel
theorem dX4_isInWindow_23 : decode cX4_isInWindow 23 = .ok (.ireturn, 1) := by decide +kernel
theorem dX4_hoursToWindow_0 : decode cX4_hoursToWindow 0 = .ok (.aload_n 0, 1) := by decide +kernel
theorem dX4_hoursToWindow_1 : decode cX4_hoursToWindow 1 = .ok (.iload_n 1, 1) := by decide +kernel
theorem dX4_hoursToWindow_2 : decode cX4_hoursToWindow 2 = .ok (.invokevirtual 71, 3) := by decide +kernel
theorem dX4_hoursToWindow_5 : decode cX4_hoursToWindow 5 = .ok (.ifCond .eq 7, 3) := by decide +kernel
theorem dX4_hoursToWindow_8 : decode cX4_hoursToWindow 8 = .ok (.iconst 0, 1) := by decide +kernel
theorem dX4_hoursToWindow_9 : decode cX4_hoursToWindow 9 = .ok (.goto 14, 3) := by decide +kernel
theorem dX4_hoursToWindow_12 : decode cX4_hoursToWindow 12 = .ok (.aload_n 0, 1) := by decide +kernel
theorem dX4_hoursToWindow_13 : decode cX4_hoursToWindow 13 = .ok (.getfield 58, 3) := by decide +kernel
theorem dX4_hoursToWindow_16 : decode cX4_hoursToWindow 16 = .ok (.iload_n 1, 1) := by decide +kernel
theorem dX4_hoursToWindow_17 : decode cX4_hoursToWindow 17 = .ok (.isub, 1) := by decide +kernel
theorem dX4_hoursToWindow_18 : decode cX4_hoursToWindow 18 = .ok (.bipush 24, 2) := by decide +kernel
theorem dX4_hoursToWindow_20 : decode cX4_hoursToWindow 20 = .ok (.invokestatic 61, 3) := by decide +kernel
theorem dX4_hoursToWindow_23 : decode cX4_hoursToWindow 23 = .ok (.ireturn, 1) := by decide +kernel
theorem dX5_init_0 : decode cX5_init 0 = .ok (.aload_n 0, 1) := by decide +kernel
theorem dX5_init_1 : decode cX5_init 1 = .ok (.invokespecial 1, 3) := by decide +kernel
theorem dX5_init_4 : decode cX5_init 4 = .ok (.aload_n 0, 1) := by decide +kernel
theorem dX5_init_5 : decode cX5_init 5 = .ok (.iconst 4, 1) := by decide +kernel
theorem dX5_init_6 : decode cX5_init 6 = .ok (.anewarray 9, 3) := by decide +kernel
theorem dX5_init_9 : decode cX5_init 9 = .ok (.putfield 11, 3) := by decide +kernel
theorem dX5_init_12 : decode cX5_init 12 = .ok (.aload_n 0, 1) := by decide +kernel
theorem dX5_init_13 : decode cX5_init 13 = .ok (.bipush 6, 2) := by decide +kernel
theorem dX5_init_15 : decode cX5_init 15 = .ok (.anewarray 15, 3) := by decide +kernel
theorem dX5_init_18 : decode cX5_init 18 = .ok (.putfield 17, 3) := by decide +kernel
theorem dX5_init_21 : decode cX5_init 21 = .ok (.aload_n 0, 1) := by decide +kernel
theorem dX5_init_22 : decode cX5_init 22 = .ok (.new 21, 3) := by decide +kernel
theorem dX5_init_25 : decode cX5_init 25 = .ok (.dup, 1) := by decide +kernel
theorem dX5_init_26 : decode cX5_init 26 = .ok (.invokespecial 23, 3) := by decide +kernel
theorem dX5_init_29 : decode cX5_init 29 = .ok (.putfield 24, 3) := by decide +kernel
theorem dX5_init_32 : decode cX5_init 32 = .ok (.aload_n 0, 1) := by decide +kernel
theorem dX5_init_33 : decode cX5_init 33 = .ok (.new 28, 3) := by decide +kernel
theorem dX5_init_36 : decode cX5_init 36 = .ok (.dup, 1) := by decide +kernel
theorem dX5_init_37 : decode cX5_init 37 = .ok (.invokespecial 30, 3) := by decide +kernel
theorem dX5_init_40 : decode cX5_init 40 = .ok (.putfield 31, 3) := by decide +kernel
theorem dX5_init_43 : decode cX5_init 43 = .ok (.return_, 1) := by decide +kernel
theorem dX5_addShard_0 : decode cX5_addShard 0 = .ok (.iload_n 1, 1) := by decide +kernel
theorem dX5_addShard_1 : decode cX5_addShard 1 = .ok (.iconst 1, 1) := by decide +kernel
theorem dX5_addShard_2 : decode cX5_addShard 2 = .ok (.sipush 300, 3) := by decide +kernel
theorem dX5_addShard_5 : decode cX5_addShard 5 = .ok (.invokestatic 35, 3) := by decide +kernel
theorem dX5_addShard_8 : decode cX5_addShard 8 = .ok (.iload_n 2, 1) := by decide +kernel
theorem dX5_addShard_9 : decode cX5_addShard 9 = .ok (.iconst 1, 1) := by decide +kernel
theorem dX5_addShard_10 : decode cX5_addShard 10 = .ok (.sipush 300, 3) := by decide +kernel
theorem dX5_addShard_13 : decode cX5_addShard 13 = .ok (.invokestatic 35, 3) := by decide +kernel
theorem dX5_addShard_16 : decode cX5_addShard 16 = .ok (.iload_n 3, 1) := by decide +kernel
theorem dX5_addShard_17 : decode cX5_addShard 17 = .ok (.iconst 1, 1) := by decide +kernel
theorem dX5_addShard_18 : decode cX5_addShard 18 = .ok (.sipush 300, 3) := by decide +kernel
theorem dX5_addShard_21 : decode cX5_addShard 21 = .ok (.invokestatic 35, 3) := by decide +kernel
theorem dX5_addShard_24 : decode cX5_addShard 24 = .ok (.aload_n 0, 1) := by decide +kernel
theorem dX5_addShard_25 : decode cX5_addShard 25 = .ok (.invokevirtual 39, 3) := by decide +kernel
theorem dX5_addShard_28 : decode cX5_addShard 28 = .ok (.istore 4, 2) := by decide +kernel
theorem dX5_addShard_30 : decode cX5_addShard 30 = .ok (.iload 4, 2) := by decide +kernel
theorem dX5_addShard_32 : decode cX5_addShard 32 = .ok (.aload_n 0, 1) := by decide +kernel
theorem dX5_addShard_33 : decode cX5_addShard 33 = .ok (.getfield 11, 3) := by decide +kernel
theorem dX5_addShard_36 : decode cX5_addShard 36 = .ok (.arraylength, 1) := by decide +kernel
theorem dX5_addShard_37 : decode cX5_addShard 37 = .ok (.if_icmp .lt 13, 3) := by decide +kernel
theorem dX5_addShard_40 : decode cX5_addShard 40 = .ok (.new 43, 3) := by decide +kernel
theorem dX5_addShard_43 : decode cX5_addShard 43 = .ok (.dup, 1) := by decide +kernel
theorem dX5_addShard_44 : decode cX5_addShard 44 = .ok (.ldc 45, 2) := by decide +kernel
theorem dX5_addShard_46 : decode cX5_addShard 46 = .ok (.invokespecial 47, 3) := by decide +kernel
theorem dX5_addShard_49 : decode cX5_addShard 49 = .ok (.athrow, 1) := by decide +kernel
theorem dX5_addShard_50 : decode cX5_addShard 50 = .ok (.aload_n 0, 1) := by decide +kernel
theorem dX5_addShard_51 : decode cX5_addShard 51 = .ok (.getfield 11, 3) := by decide +kernel
theorem dX5_addShard_54 : decode cX5_addShard 54 = .ok (.iload 4, 2) := by decide +kernel
theorem dX5_addShard_56 : decode cX5_addShard 56 = .ok (.new 9, 3) := by decide +kernel
theorem dX5_addShard_59 : decode cX5_addShard 59 = .ok (.dup, 1) := by decide +kernel
theorem dX5_addShard_60 : decode cX5_addShard 60 = .ok (.iload_n 1, 1) := by decide +kernel
theorem dX5_addShard_61 : decode cX5_addShard 61 = .ok (.iload_n 2, 1) := by decide +kernel
theorem dX5_addShard_62 : decode cX5_addShard 62 = .ok (.iload_n 3, 1) := by decide +kernel
theorem dX5_addShard_63 : decode cX5_addShard 63 = .ok (.invokespecial 50, 3) := by decide +kernel
theorem dX5_addShard_66 : decode cX5_addShard 66 = .ok (.aastore, 1) := by decide +kernel
theorem dX5_addShard_67 : decode cX5_addShard 67 = .ok (.iload 4, 2) := by decide +kernel
theorem dX5_addShard_69 : decode cX5_addShard 69 = .ok (.ireturn, 1) := by decide +kernel
theorem dX5_setOpen_0 : decode cX5_setOpen 0 = .ok (.aload_n 0, 1) := by decide +kernel
theorem dX5_setOpen_1 : decode cX5_setOpen 1 = .ok (.iload_n 1, 1) := by decide +kernel
theorem dX5_setOpen_2 : decode cX5_setOpen 2 = .ok (.invokevirtual 52, 3) := by decide +kernel
theorem dX5_setOpen_5 : decode cX5_setOpen 5 = .ok (.astore_n 3, 1) := by decide +kernel
theorem dX5_setOpen_6 : decode cX5_setOpen 6 = .ok (.aload_n 3, 1) := by decide +kernel
theorem dX5_setOpen_7 : decode cX5_setOpen 7 = .ok (.getfield 56, 3) := by decide +kernel
theorem dX5_setOpen_10 : decode cX5_setOpen 10 = .ok (.istore 4, 2) := by decide +kernel
theorem dX5_setOpen_12 : decode cX5_setOpen 12 = .ok (.aload_n 3, 1) := by decide +kernel
theorem dX5_setOpen_13 : decode cX5_setOpen 13 = .ok (.iload_n 2, 1) := by decide +kernel
theorem dX5_setOpen_14 : decode cX5_setOpen 14 = .ok (.putfield 56, 3) := by decide +kernel
theorem dX5_setOpen_17 : decode cX5_setOpen 17 = .ok (.iload 4, 2) := by decide +kernel
theorem dX5_setOpen_19 : decode cX5_setOpen 19 = .ok (.ireturn, 1) := by decide +kernel
theorem dX5_setLimit_0 : decode cX5_setLimit 0 = .ok (.aload_n 0, 1) := by decide +kernel
theorem dX5_setLimit_1 : decode cX5_setLimit 1 = .ok (.iload_n 1, 1) := by decide +kernel
theorem dX5_setLimit_2 : decode cX5_setLimit 2 = .ok (.invokevirtual 52, 3) := by decide +kernel
theorem dX5_setLimit_5 : decode cX5_setLimit 5 = .ok (.astore 4, 2) := by decide +kernel
theorem dX5_setLimit_7 : decode cX5_setLimit 7 = .ok (.iload_n 2, 1) := by decide +kernel
theorem dX5_setLimit_8 : decode cX5_setLimit 8 = .ok (.invokestatic 60, 3) := by decide +kernel
theorem dX5_setLimit_11 : decode cX5_setLimit 11 = .ok (.iload_n 3, 1) := by decide +kernel
theorem dX5_setLimit_12 : decode cX5_setLimit 12 = .ok (.iconst 1, 1) := by decide +kernel
theorem dX5_setLimit_13 : decode cX5_setLimit 13 = .ok (.sipush 300, 3) := by decide +kernel
theorem dX5_setLimit_16 : decode cX5_setLimit 16 = .ok (.invokestatic 35, 3) := by decide +kernel
theorem dX5_setLimit_19 : decode cX5_setLimit 19 = .ok (.aload 4, 2) := by decide +kernel
theorem dX5_setLimit_21 : decode cX5_setLimit 21 = .ok (.getfield 64, 3) := by decide +kernel
theorem dX5_setLimit_24 : decode cX5_setLimit 24 = .ok (.iload_n 2, 1) := by decide +kernel
theorem dX5_setLimit_25 : decode cX5_setLimit 25 = .ok (.invokevirtual 68, 3) := by decide +kernel
theorem dX5_setLimit_28 : decode cX5_setLimit 28 = .ok (.istore 5, 2) := by decide +kernel
theorem dX5_setLimit_30 : decode cX5_setLimit 30 = .ok (.aload 4, 2) := by decide +kernel
theorem dX5_setLimit_32 : decode cX5_setLimit 32 = .ok (.getfield 64, 3) := by decide +kernel
theorem dX5_setLimit_35 : decode cX5_setLimit 35 = .ok (.iload_n 2, 1) := by decide +kernel
theorem dX5_setLimit_36 : decode cX5_setLimit 36 = .ok (.iload_n 3, 1) := by decide +kernel
theorem dX5_setLimit_37 : decode cX5_setLimit 37 = .ok (.invokevirtual 74, 3) := by decide +kernel
theorem dX5_setLimit_40 : decode cX5_setLimit 40 = .ok (.iload 5, 2) := by decide +kernel
theorem dX5_setLimit_42 : decode cX5_setLimit 42 = .ok (.ireturn, 1) := by decide +kernel
theorem dX5_addTenant_0 : decode cX5_addTenant 0 = .ok (.aload_n 0, 1) := by decide +kernel
theorem dX5_addTenant_1 : decode cX5_addTenant 1 = .ok (.iload_n 1, 1) := by decide +kernel
theorem dX5_addTenant_2 : decode cX5_addTenant 2 = .ok (.invokevirtual 52, 3) := by decide +kernel
theorem dX5_addTenant_5 : decode cX5_addTenant 5 = .ok (.astore 6, 2) := by decide +kernel
theorem dX5_addTenant_7 : decode cX5_addTenant 7 = .ok (.iload_n 2, 1) := by decide +kernel
theorem dX5_addTenant_8 : decode cX5_addTenant 8 = .ok (.iconst 1, 1) := by decide +kernel
theorem dX5_addTenant_9 : decode cX5_addTenant 9 = .ok (.bipush 100, 2) := by decide +kernel
theorem dX5_addTenant_11 : decode cX5_addTenant 11 = .ok (.invokestatic 35, 3) := by decide +kernel
theorem dX5_addTenant_14 : decode cX5_addTenant 14 = .ok (.iload_n 3, 1) := by decide +kernel
theorem dX5_addTenant_15 : decode cX5_addTenant 15 = .ok (.iconst 1, 1) := by decide +kernel
theorem dX5_addTenant_16 : decode cX5_addTenant 16 = .ok (.bipush 100, 2) := by decide +kernel
theorem dX5_addTenant_18 : decode cX5_addTenant 18 = .ok (.invokestatic 35, 3) := by decide +kernel
theorem dX5_addTenant_21 : decode cX5_addTenant 21 = .ok (.iload 4, 2) := by decide +kernel
theorem dX5_addTenant_23 : decode cX5_addTenant 23 = .ok (.iconst 1, 1) := by decide +kernel
theorem dX5_addTenant_24 : decode cX5_addTenant 24 = .ok (.bipush 100, 2) := by decide +kernel
theorem dX5_addTenant_26 : decode cX5_addTenant 26 = .ok (.invokestatic 35, 3) := by decide +kernel
theorem dX5_addTenant_29 : decode cX5_addTenant 29 = .ok (.iload 5, 2) := by decide +kernel
theorem dX5_addTenant_31 : decode cX5_addTenant 31 = .ok (.iconst 0, 1) := by decide +kernel
theorem dX5_addTenant_32 : decode cX5_addTenant 32 = .ok (.bipush 9, 2) := by decide +kernel
theorem dX5_addTenant_34 : decode cX5_addTenant 34 = .ok (.invokestatic 35, 3) := by decide +kernel
theorem dX5_addTenant_37 : decode cX5_addTenant 37 = .ok (.aload 6, 2) := by decide +kernel
theorem dX5_addTenant_39 : decode cX5_addTenant 39 = .ok (.getfield 56, 3) := by decide +kernel
theorem dX5_addTenant_42 : decode cX5_addTenant 42 = .ok (.ifCond .eq 15, 3) := by decide +kernel
theorem dX5_addTenant_45 : decode cX5_addTenant 45 = .ok (.aload 6, 2) := by decide +kernel
theorem dX5_addTenant_47 : decode cX5_addTenant 47 = .ok (.iload_n 2, 1) := by decide +kernel
theorem dX5_addTenant_48 : decode cX5_addTenant 48 = .ok (.iload_n 3, 1) := by decide +kernel
theorem dX5_addTenant_49 : decode cX5_addTenant 49 = .ok (.iload 4, 2) := by decide +kernel
theorem dX5_addTenant_51 : decode cX5_addTenant 51 = .ok (.invokevirtual 78, 3) := by decide +kernel
theorem dX5_addTenant_54 : decode cX5_addTenant 54 = .ok (.ifCond .ne 13, 3) := by decide +kernel
theorem dX5_addTenant_57 : decode cX5_addTenant 57 = .ok (.new 82, 3) := by decide +kernel
theorem dX5_addTenant_60 : decode cX5_addTenant 60 = .ok (.dup, 1) := by decide +kernel
theorem dX5_addTenant_61 : decode cX5_addTenant 61 = .ok (.ldc 84, 2) := by decide +kernel
theorem dX5_addTenant_63 : decode cX5_addTenant 63 = .ok (.invokespecial 86, 3) := by decide +kernel
theorem dX5_addTenant_66 : decode cX5_addTenant 66 = .ok (.athrow, 1) := by decide +kernel
theorem dX5_addTenant_67 : decode cX5_addTenant 67 = .ok (.aload_n 0, 1) := by decide +kernel
theorem dX5_addTenant_68 : decode cX5_addTenant 68 = .ok (.invokevirtual 87, 3) := by decide +kernel
theorem dX5_addTenant_71 : decode cX5_addTenant 71 = .ok (.istore 7, 2) := by decide +kernel
theorem dX5_addTenant_73 : decode cX5_addTenant 73 = .ok (.iload 7, 2) := by decide +kernel
theorem dX5_addTenant_75 : decode cX5_addTenant 75 = .ok (.aload_n 0, 1) := by decide +kernel
theorem dX5_addTenant_76 : decode cX5_addTenant 76 = .ok (.getfield 17, 3) := by decide +kernel
theorem dX5_addTenant_79 : decode cX5_addTenant 79 = .ok (.arraylength, 1) := by decide +kernel
theorem dX5_addTenant_80 : decode cX5_addTenant 80 = .ok (.if_icmp .lt 13, 3) := by decide +kernel
theorem dX5_addTenant_83 : decode cX5_addTenant 83 = .ok (.new 43, 3) := by decide +kernel
theorem dX5_addTenant_86 : decode cX5_addTenant 86 = .ok (.dup, 1) := by decide +kernel
theorem dX5_addTenant_87 : decode cX5_addTenant 87 = .ok (.ldc 90, 2) := by decide +kernel
theorem dX5_addTenant_89 : decode cX5_addTenant 89 = .ok (.invokespecial 47, 3) := by decide +kernel
theorem dX5_addTenant_92 : decode cX5_addTenant 92 = .ok (.athrow, 1) := by decide +kernel
theorem dX5_addTenant_93 : decode cX5_addTenant 93 = .ok (.new 15, 3) := by decide +kernel
theorem dX5_addTenant_96 : decode cX5_addTenant 96 = .ok (.dup, 1) := by decide +kernel
theorem dX5_addTenant_97 : decode cX5_addTenant 97 = .ok (.iload_n 1, 1) := by decide +kernel
theorem dX5_addTenant_98 : decode cX5_addTenant 98 = .ok (.iload_n 2, 1) := by decide +kernel
theorem dX5_addTenant_99 : decode cX5_addTenant 99 = .ok (.iload_n 3, 1) := by decide +kernel
theorem dX5_addTenant_100 : decode cX5_addTenant 100 = .ok (.iload 4, 2) := by decide +kernel
theorem dX5_addTenant_102 : decode cX5_addTenant 102 = .ok (.iload 5, 2) := by decide +kernel
theorem dX5_addTenant_104 : decode cX5_addTenant 104 = .ok (.invokespecial 92, 3) := by decide +kernel
theorem dX5_addTenant_107 : decode cX5_addTenant 107 = .ok (.astore 8, 2) := by decide +kernel
theorem dX5_addTenant_109 : decode cX5_addTenant 109 = .ok (.aload_n 0, 1) := by decide +kernel
theorem dX5_addTenant_110 : decode cX5_addTenant 110 = .ok (.getfield 17, 3) := by decide +kernel
theorem dX5_addTenant_113 : decode cX5_addTenant 113 = .ok (.iload 7, 2) := by decide +kernel
theorem dX5_addTenant_115 : decode cX5_addTenant 115 = .ok (.aload 8, 2) := by decide +kernel
theorem dX5_addTenant_117 : decode cX5_addTenant 117 = .ok (.aastore, 1) := by decide +kernel
theorem dX5_addTenant_118 : decode cX5_addTenant 118 = .ok (.aload_n 0, 1) := by decide +kernel
theorem dX5_addTenant_119 : decode cX5_addTenant 119 = .ok (.aload 8, 2) := by decide +kernel
theorem dX5_addTenant_121 : decode cX5_addTenant 121 = .ok (.iconst 1, 1) := by decide +kernel
theorem dX5_addTenant_122 : decode cX5_addTenant 122 = .ok (.invokevirtual 95, 3) := by decide +kernel
theorem dX5_addTenant_125 : decode cX5_addTenant 125 = .ok (.iload 7, 2) := by decide +kernel
theorem dX5_addTenant_127 : decode cX5_addTenant 127 = .ok (.ireturn, 1) := by decide +kernel
theorem dX5_setSize_0 : decode cX5_setSize 0 = .ok (.aload_n 0, 1) := by decide +kernel
theorem dX5_setSize_1 : decode cX5_setSize 1 = .ok (.iload_n 1, 1) := by decide +kernel
theorem dX5_setSize_2 : decode cX5_setSize 2 = .ok (.invokevirtual 99, 3) := by decide +kernel
theorem dX5_setSize_5 : decode cX5_setSize 5 = .ok (.astore 4, 2) := by decide +kernel
theorem dX5_setSize_7 : decode cX5_setSize 7 = .ok (.iload_n 2, 1) := by decide +kernel
theorem dX5_setSize_8 : decode cX5_setSize 8 = .ok (.iconst 1, 1) := by decide +kernel
theorem dX5_setSize_9 : decode cX5_setSize 9 = .ok (.iconst 2, 1) := by decide +kernel
theorem dX5_setSize_10 : decode cX5_setSize 10 = .ok (.invokestatic 35, 3) := by decide +kernel
theorem dX5_setSize_13 : decode cX5_setSize 13 = .ok (.iload_n 3, 1) := by decide +kernel
theorem dX5_setSize_14 : decode cX5_setSize 14 = .ok (.iconst 1, 1) := by decide +kernel
theorem dX5_setSize_15 : decode cX5_setSize 15 = .ok (.bipush 100, 2) := by decide +kernel
theorem dX5_setSize_17 : decode cX5_setSize 17 = .ok (.invokestatic 35, 3) := by decide +kernel
theorem dX5_setSize_20 : decode cX5_setSize 20 = .ok (.aload 4, 2) := by decide +kernel
theorem dX5_setSize_22 : decode cX5_setSize 22 = .ok (.getfield 103, 3) := by decide +kernel
theorem dX5_setSize_25 : decode cX5_setSize 25 = .ok (.iload_n 2, 1) := by decide +kernel
theorem dX5_setSize_26 : decode cX5_setSize 26 = .ok (.invokevirtual 68, 3) := by decide +kernel
theorem dX5_setSize_29 : decode cX5_setSize 29 = .ok (.istore 5, 2) := by decide +kernel
theorem dX5_setSize_31 : decode cX5_setSize 31 = .ok (.aload_n 0, 1) := by decide +kernel
theorem dX5_setSize_32 : decode cX5_setSize 32 = .ok (.aload 4, 2) := by decide +kernel
theorem dX5_setSize_34 : decode cX5_setSize 34 = .ok (.iconst (-1), 1) := by decide +kernel
theorem dX5_setSize_35 : decode cX5_setSize 35 = .ok (.invokevirtual 95, 3) := by decide +kernel
theorem dX5_setSize_38 : decode cX5_setSize 38 = .ok (.aload 4, 2) := by decide +kernel
theorem dX5_setSize_40 : decode cX5_setSize 40 = .ok (.getfield 103, 3) := by decide +kernel
theorem dX5_setSize_43 : decode cX5_setSize 43 = .ok (.iload_n 2, 1) := by decide +kernel
theorem dX5_setSize_44 : decode cX5_setSize 44 = .ok (.iload_n 3, 1) := by decide +kernel
theorem dX5_setSize_45 : decode cX5_setSize 45 = .ok (.invokevirtual 74, 3) := by decide +kernel
theorem dX5_setSize_48 : decode cX5_setSize 48 = .ok (.aload_n 0, 1) := by decide +kernel
theorem dX5_setSize_49 : decode cX5_setSize 49 = .ok (.aload 4, 2) := by decide +kernel
theorem dX5_setSize_51 : decode cX5_setSize 51 = .ok (.iconst 1, 1) := by decide +kernel
theorem dX5_setSize_52 : decode cX5_setSize 52 = .ok (.invokevirtual 95, 3) := by decide +kernel
theorem dX5_setSize_55 : decode cX5_setSize 55 = .ok (.iload 5, 2) := by decide +kernel
theorem dX5_setSize_57 : decode cX5_setSize 57 = .ok (.ireturn, 1) := by decide +kernel
theorem dX5_setWindow_0 : decode cX5_setWindow 0 = .ok (.aload_n 0, 1) := by decide +kernel
theorem dX5_setWindow_1 : decode cX5_setWindow 1 = .ok (.iload_n 1, 1) := by decide +kernel
theorem dX5_setWindow_2 : decode cX5_setWindow 2 = .ok (.invokevirtual 99, 3) := by decide +kernel
theorem dX5_setWindow_5 : decode cX5_setWindow 5 = .ok (.astore 4, 2) := by decide +kernel
theorem dX5_setWindow_7 : decode cX5_setWindow 7 = .ok (.iload_n 2, 1) := by decide +kernel
theorem dX5_setWindow_8 : decode cX5_setWindow 8 = .ok (.iconst 0, 1) := by decide +kernel
theorem dX5_setWindow_9 : decode cX5_setWindow 9 = .ok (.bipush 23, 2) := by decide +kernel
theorem dX5_setWindow_11 : decode cX5_setWindow 11 = .ok (.invokestatic 35, 3) := by decide +kernel
theorem dX5_setWindow_14 : decode cX5_setWindow 14 = .ok (.iload_n 3, 1) := by decide +kernel
theorem dX5_setWindow_15 : decode cX5_setWindow 15 = .ok (.iconst 0, 1) := by decide +kernel
theorem dX5_setWindow_16 : decode cX5_setWindow 16 = .ok (.bipush 23, 2) := by decide +kernel
theorem dX5_setWindow_18 : decode cX5_setWindow 18 = .ok (.invokestatic 35, 3) := by decide +kernel
theorem dX5_setWindow_21 : decode cX5_setWindow 21 = .ok (.aload 4, 2) := by decide +kernel
theorem dX5_setWindow_23 : decode cX5_setWindow 23 = .ok (.iload_n 2, 1) := by decide +kernel
theorem dX5_setWindow_24 : decode cX5_setWindow 24 = .ok (.putfield 106, 3) := by decide +kernel
theorem dX5_setWindow_27 : decode cX5_setWindow 27 = .ok (.aload 4, 2) := by decide +kernel
theorem dX5_setWindow_29 : decode cX5_setWindow 29 = .ok (.iload_n 3, 1) := by decide +kernel
theorem dX5_setWindow_30 : decode cX5_setWindow 30 = .ok (.putfield 110, 3) := by decide +kernel
theorem dX5_setWindow_33 : decode cX5_setWindow 33 = .ok (.aload 4, 2) := by decide +kernel
theorem dX5_setWindow_35 : decode cX5_setWindow 35 = .ok (.invokevirtual 113, 3) := by decide +kernel
theorem dX5_setWindow_38 : decode cX5_setWindow 38 = .ok (.ireturn, 1) := by decide +kernel
theorem dX5_keepApart_0 : decode cX5_keepApart 0 = .ok (.aload_n 0, 1) := by decide +kernel
theorem dX5_keepApart_1 : decode cX5_keepApart 1 = .ok (.iload_n 1, 1) := by decide +kernel
theorem dX5_keepApart_2 : decode cX5_keepApart 2 = .ok (.invokevirtual 99, 3) := by decide +kernel
theorem dX5_keepApart_5 : decode cX5_keepApart 5 = .ok (.astore_n 3, 1) := by decide +kernel
theorem dX5_keepApart_6 : decode cX5_keepApart 6 = .ok (.aload_n 0, 1) := by decide +kernel
theorem dX5_keepApart_7 : decode cX5_keepApart 7 = .ok (.iload_n 2, 1) := by decide +kernel
theorem dX5_keepApart_8 : decode cX5_keepApart 8 = .ok (.invokevirtual 99, 3) := by decide +kernel
theorem dX5_keepApart_11 : decode cX5_keepApart 11 = .ok (.astore 4, 2) := by decide +kernel
theorem dX5_keepApart_13 : decode cX5_keepApart 13 = .ok (.iload_n 1, 1) := by decide +kernel
theorem dX5_keepApart_14 : decode cX5_keepApart 14 = .ok (.iload_n 2, 1) := by decide +kernel
theorem dX5_keepApart_15 : decode cX5_keepApart 15 = .ok (.if_icmp .ne 13, 3) := by decide +kernel
theorem dX5_keepApart_18 : decode cX5_keepApart 18 = .ok (.new 116, 3) := by decide +kernel
theorem dX5_keepApart_21 : decode cX5_keepApart 21 = .ok (.dup, 1) := by decide +kernel
theorem dX5_keepApart_22 : decode cX5_keepApart 22 = .ok (.ldc 118, 2) := by decide +kernel
theorem dX5_keepApart_24 : decode cX5_keepApart 24 = .ok (.invokespecial 120, 3) := by decide +kernel
theorem dX5_keepApart_27 : decode cX5_keepApart 27 = .ok (.athrow, 1) := by decide +kernel
theorem dX5_keepApart_28 : decode cX5_keepApart 28 = .ok (.aload_n 3, 1) := by decide +kernel
theorem dX5_keepApart_29 : decode cX5_keepApart 29 = .ok (.iload_n 2, 1) := by decide +kernel
theorem dX5_keepApart_30 : decode cX5_keepApart 30 = .ok (.invokevirtual 121, 3) := by decide +kernel
theorem dX5_keepApart_33 : decode cX5_keepApart 33 = .ok (.ifCond .eq 13, 3) := by decide +kernel
theorem dX5_keepApart_36 : decode cX5_keepApart 36 = .ok (.new 82, 3) := by decide +kernel
theorem dX5_keepApart_39 : decode cX5_keepApart 39 = .ok (.dup, 1) := by decide +kernel
theorem dX5_keepApart_40 : decode cX5_keepApart 40 = .ok (.ldc 125, 2) := by decide +kernel
theorem dX5_keepApart_42 : decode cX5_keepApart 42 = .ok (.invokespecial 86, 3) := by decide +kernel
theorem dX5_keepApart_45 : decode cX5_keepApart 45 = .ok (.athrow, 1) := by decide +kernel
theorem dX5_keepApart_46 : decode cX5_keepApart 46 = .ok (.aload_n 0, 1) := by decide +kernel
theorem dX5_keepApart_47 : decode cX5_keepApart 47 = .ok (.getfield 127, 3) := by decide +kernel
theorem dX5_keepApart_50 : decode cX5_keepApart 50 = .ok (.bipush 6, 2) := by decide +kernel
theorem dX5_keepApart_52 : decode cX5_keepApart 52 = .ok (.if_icmp .lt 13, 3) := by decide +kernel
theorem dX5_keepApart_55 : decode cX5_keepApart 55 = .ok (.new 43, 3) := by decide +kernel
theorem dX5_keepApart_58 : decode cX5_keepApart 58 = .ok (.dup, 1) := by decide +kernel
theorem dX5_keepApart_59 : decode cX5_keepApart 59 = .ok (.ldc 130, 2) := by decide +kernel
theorem dX5_keepApart_61 : decode cX5_keepApart 61 = .ok (.invokespecial 47, 3) := by decide +kernel
theorem dX5_keepApart_64 : decode cX5_keepApart 64 = .ok (.athrow, 1) := by decide +kernel
theorem dX5_keepApart_65 : decode cX5_keepApart 65 = .ok (.aload_n 3, 1) := by decide +kernel
theorem dX5_keepApart_66 : decode cX5_keepApart 66 = .ok (.dup, 1) := by decide +kernel
theorem dX5_keepApart_67 : decode cX5_keepApart 67 = .ok (.getfield 132, 3) := by decide +kernel
theorem dX5_keepApart_70 : decode cX5_keepApart 70 = .ok (.iconst 1, 1) := by decide +kernel
theorem dX5_keepApart_71 : decode cX5_keepApart 71 = .ok (.iload_n 2, 1) := by decide +kernel
theorem dX5_keepApart_72 : decode cX5_keepApart 72 = .ok (.ishl, 1) := by decide +kernel
theorem dX5_keepApart_73 : decode cX5_keepApart 73 = .ok (.ior, 1) := by decide +kernel
theorem dX5_keepApart_74 : decode cX5_keepApart 74 = .ok (.putfield 132, 3) := by decide +kernel
theorem dX5_keepApart_77 : decode cX5_keepApart 77 = .ok (.aload 4, 2) := by decide +kernel
theorem dX5_keepApart_79 : decode cX5_keepApart 79 = .ok (.dup, 1) := by decide +kernel
theorem dX5_keepApart_80 : decode cX5_keepApart 80 = .ok (.getfield 132, 3) := by decide +kernel
theorem dX5_keepApart_83 : decode cX5_keepApart 83 = .ok (.iconst 1, 1) := by decide +kernel
theorem dX5_keepApart_84 : decode cX5_keepApart 84 = .ok (.iload_n 1, 1) := by decide +kernel
theorem dX5_keepApart_85 : decode cX5_keepApart 85 = .ok (.ishl, 1) := by decide +kernel
theorem dX5_keepApart_86 : decode cX5_keepApart 86 = .ok (.ior, 1) := by decide +kernel
theorem dX5_keepApart_87 : decode cX5_keepApart 87 = .ok (.putfield 132, 3) := by decide +kernel
theorem dX5_keepApart_90 : decode cX5_keepApart 90 = .ok (.aload_n 0, 1) := by decide +kernel
theorem dX5_keepApart_91 : decode cX5_keepApart 91 = .ok (.dup, 1) := by decide +kernel
theorem dX5_keepApart_92 : decode cX5_keepApart 92 = .ok (.getfield 127, 3) := by decide +kernel
theorem dX5_keepApart_95 : decode cX5_keepApart 95 = .ok (.iconst 1, 1) := by decide +kernel
theorem dX5_keepApart_96 : decode cX5_keepApart 96 = .ok (.iadd, 1) := by decide +kernel
theorem dX5_keepApart_97 : decode cX5_keepApart 97 = .ok (.putfield 127, 3) := by decide +kernel
theorem dX5_keepApart_100 : decode cX5_keepApart 100 = .ok (.aload_n 0, 1) := by decide +kernel
theorem dX5_keepApart_101 : decode cX5_keepApart 101 = .ok (.getfield 127, 3) := by decide +kernel
theorem dX5_keepApart_104 : decode cX5_keepApart 104 = .ok (.ireturn, 1) := by decide +kernel
theorem dX5_move_0 : decode cX5_move 0 = .ok (.aload_n 0, 1) := by decide +kernel
theorem dX5_move_1 : decode cX5_move 1 = .ok (.iload_n 1, 1) := by decide +kernel
theorem dX5_move_2 : decode cX5_move 2 = .ok (.invokevirtual 99, 3) := by decide +kernel
theorem dX5_move_5 : decode cX5_move 5 = .ok (.astore_n 3, 1) := by decide +kernel
theorem dX5_move_6 : decode cX5_move 6 = .ok (.aload_n 0, 1) := by decide +kernel
theorem dX5_move_7 : decode cX5_move 7 = .ok (.iload_n 1, 1) := by decide +kernel
theorem dX5_move_8 : decode cX5_move 8 = .ok (.iload_n 2, 1) := by decide +kernel
theorem dX5_move_9 : decode cX5_move 9 = .ok (.invokevirtual 135, 3) := by decide +kernel
theorem dX5_move_12 : decode cX5_move 12 = .ok (.bipush 110, 2) := by decide +kernel
theorem dX5_move_14 : decode cX5_move 14 = .ok (.if_icmp .eq 13, 3) := by decide +kernel
theorem dX5_move_17 : decode cX5_move 17 = .ok (.new 82, 3) := by decide +kernel
theorem dX5_move_20 : decode cX5_move 20 = .ok (.dup, 1) := by decide +kernel
theorem dX5_move_21 : decode cX5_move 21 = .ok (.ldc 139, 2) := by decide +kernel
theorem dX5_move_23 : decode cX5_move 23 = .ok (.invokespecial 86, 3) := by decide +kernel
theorem dX5_move_26 : decode cX5_move 26 = .ok (.athrow, 1) := by decide +kernel
theorem dX5_move_27 : decode cX5_move 27 = .ok (.aload_n 0, 1) := by decide +kernel
theorem dX5_move_28 : decode cX5_move 28 = .ok (.invokevirtual 141, 3) := by decide +kernel
theorem dX5_move_31 : decode cX5_move 31 = .ok (.iconst 3, 1) := by decide +kernel
theorem dX5_move_32 : decode cX5_move 32 = .ok (.if_icmp .lt 13, 3) := by decide +kernel
theorem dX5_move_35 : decode cX5_move 35 = .ok (.new 43, 3) := by decide +kernel
theorem dX5_move_38 : decode cX5_move 38 = .ok (.dup, 1) := by decide +kernel
theorem dX5_move_39 : decode cX5_move 39 = .ok (.ldc 144, 2) := by decide +kernel
theorem dX5_move_41 : decode cX5_move 41 = .ok (.invokespecial 47, 3) := by decide +kernel
theorem dX5_move_44 : decode cX5_move 44 = .ok (.athrow, 1) := by decide +kernel
theorem dX5_move_45 : decode cX5_move 45 = .ok (.aload_n 3, 1) := by decide +kernel
theorem dX5_move_46 : decode cX5_move 46 = .ok (.getfield 103, 3) := by decide +kernel
theorem dX5_move_49 : decode cX5_move 49 = .ok (.iconst 0, 1) := by decide +kernel
theorem dX5_move_50 : decode cX5_move 50 = .ok (.invokevirtual 68, 3) := by decide +kernel
theorem dX5_move_53 : decode cX5_move 53 = .ok (.bipush 20, 2) := by decide +kernel
theorem dX5_move_55 : decode cX5_move 55 = .ok (.iadd, 1) := by decide +kernel
theorem dX5_move_56 : decode cX5_move 56 = .ok (.iconst 1, 1) := by decide +kernel
theorem dX5_move_57 : decode cX5_move 57 = .ok (.isub, 1) := by decide +kernel
theorem dX5_move_58 : decode cX5_move 58 = .ok (.bipush 20, 2) := by decide +kernel
theorem dX5_move_60 : decode cX5_move 60 = .ok (.idiv, 1) := by decide +kernel
theorem dX5_move_61 : decode cX5_move 61 = .ok (.istore 4, 2) := by decide +kernel
theorem dX5_move_63 : decode cX5_move 63 = .ok (.aload_n 0, 1) := by decide +kernel
theorem dX5_move_64 : decode cX5_move 64 = .ok (.aload_n 3, 1) := by decide +kernel
theorem dX5_move_65 : decode cX5_move 65 = .ok (.iconst (-1), 1) := by decide +kernel
theorem dX5_move_66 : decode cX5_move 66 = .ok (.invokevirtual 95, 3) := by decide +kernel
theorem dX5_move_69 : decode cX5_move 69 = .ok (.aload_n 3, 1) := by decide +kernel
theorem dX5_move_70 : decode cX5_move 70 = .ok (.getfield 146, 3) := by decide +kernel
theorem dX5_move_73 : decode cX5_move 73 = .ok (.aload_n 3, 1) := by decide +kernel
theorem dX5_move_74 : decode cX5_move 74 = .ok (.getfield 149, 3) := by decide +kernel
theorem dX5_move_77 : decode cX5_move 77 = .ok (.iload_n 2, 1) := by decide +kernel
theorem dX5_move_78 : decode cX5_move 78 = .ok (.iload 4, 2) := by decide +kernel
theorem dX5_move_80 : decode cX5_move 80 = .ok (.invokevirtual 152, 3) := by decide +kernel
theorem dX5_move_83 : decode cX5_move 83 = .ok (.aload_n 0, 1) := by decide +kernel
theorem dX5_move_84 : decode cX5_move 84 = .ok (.aload_n 3, 1) := by decide +kernel
theorem dX5_move_85 : decode cX5_move 85 = .ok (.iconst 1, 1) := by decide +kernel
theorem dX5_move_86 : decode cX5_move 86 = .ok (.invokevirtual 95, 3) := by decide +kernel
theorem dX5_move_89 : decode cX5_move 89 = .ok (.iload 4, 2) := by decide +kernel
theorem dX5_move_91 : decode cX5_move 91 = .ok (.ireturn, 1) := by decide +kernel
theorem dX5_reason_0 : decode cX5_reason 0 = .ok (.aload_n 0, 1) := by decide +kernel
theorem dX5_reason_1 : decode cX5_reason 1 = .ok (.iload_n 1, 1) := by decide +kernel
theorem dX5_reason_2 : decode cX5_reason 2 = .ok (.invokevirtual 99, 3) := by decide +kernel
theorem dX5_reason_5 : decode cX5_reason 5 = .ok (.astore_n 3, 1) := by decide +kernel
theorem dX5_reason_6 : decode cX5_reason 6 = .ok (.aload_n 0, 1) := by decide +kernel
theorem dX5_reason_7 : decode cX5_reason 7 = .ok (.iload_n 2, 1) := by decide +kernel
theorem dX5_reason_8 : decode cX5_reason 8 = .ok (.invokevirtual 52, 3) := by decide +kernel
theorem dX5_reason_11 : decode cX5_reason 11 = .ok (.astore 4, 2) := by decide +kernel
theorem dX5_reason_13 : decode cX5_reason 13 = .ok (.aload_n 3, 1) := by decide +kernel
theorem dX5_reason_14 : decode cX5_reason 14 = .ok (.getfield 146, 3) := by decide +kernel
theorem dX5_reason_17 : decode cX5_reason 17 = .ok (.invokevirtual 155, 3) := by decide +kernel
theorem dX5_reason_20 : decode cX5_reason 20 = .ok (.ifCond .eq 6, 3) := by decide +kernel
theorem dX5_reason_23 : decode cX5_reason 23 = .ok (.bipush 109, 2) := by decide +kernel
theorem dX5_reason_25 : decode cX5_reason 25 = .ok (.ireturn, 1) := by decide +kernel
theorem dX5_reason_26 : decode cX5_reason 26 = .ok (.aload_n 3, 1) := by decide +kernel
theorem dX5_reason_27 : decode cX5_reason 27 = .ok (.getfield 149, 3) := by decide +kernel
theorem dX5_reason_30 : decode cX5_reason 30 = .ok (.iload_n 2, 1) := by decide +kernel
theorem dX5_reason_31 : decode cX5_reason 31 = .ok (.if_icmp .ne 6, 3) := by decide +kernel
theorem dX5_reason_34 : decode cX5_reason 34 = .ok (.bipush 115, 2) := by decide +kernel
theorem dX5_reason_36 : decode cX5_reason 36 = .ok (.ireturn, 1) := by decide +kernel
theorem dX5_reason_37 : decode cX5_reason 37 = .ok (.aload 4, 2) := by decide +kernel
theorem dX5_reason_39 : decode cX5_reason 39 = .ok (.getfield 56, 3) := by decide +kernel
theorem dX5_reason_42 : decode cX5_reason 42 = .ok (.ifCond .ne 6, 3) := by decide +kernel
theorem dX5_reason_45 : decode cX5_reason 45 = .ok (.bipush 99, 2) := by decide +kernel
theorem dX5_reason_47 : decode cX5_reason 47 = .ok (.ireturn, 1) := by decide +kernel
theorem dX5_reason_48 : decode cX5_reason 48 = .ok (.aload_n 0, 1) := by decide +kernel
theorem dX5_reason_49 : decode cX5_reason 49 = .ok (.iload_n 2, 1) := by decide +kernel
theorem dX5_reason_50 : decode cX5_reason 50 = .ok (.aload_n 3, 1) := by decide +kernel
theorem dX5_reason_51 : decode cX5_reason 51 = .ok (.invokevirtual 159, 3) := by decide +kernel
theorem dX5_reason_54 : decode cX5_reason 54 = .ok (.ifCond .eq 6, 3) := by decide +kernel
theorem dX5_reason_57 : decode cX5_reason 57 = .ok (.bipush 112, 2) := by decide +kernel
theorem dX5_reason_59 : decode cX5_reason 59 = .ok (.ireturn, 1) := by decide +kernel
theorem dX5_reason_60 : decode cX5_reason 60 = .ok (.aload_n 3, 1) := by decide +kernel
theorem dX5_reason_61 : decode cX5_reason 61 = .ok (.getfield 103, 3) := by decide +kernel
theorem dX5_reason_64 : decode cX5_reason 64 = .ok (.astore 5, 2) := by decide +kernel
theorem dX5_reason_66 : decode cX5_reason 66 = .ok (.aload 4, 2) := by decide +kernel
theorem dX5_reason_68 : decode cX5_reason 68 = .ok (.aload 5, 2) := by decide +kernel
theorem dX5_reason_70 : decode cX5_reason 70 = .ok (.getfield 163, 3) := by decide +kernel
theorem dX5_reason_73 : decode cX5_reason 73 = .ok (.aload 5, 2) := by decide +kernel
theorem dX5_reason_75 : decode cX5_reason 75 = .ok (.getfield 166, 3) := by decide +kernel
theorem dX5_reason_78 : decode cX5_reason 78 = .ok (.aload 5, 2) := by decide +kernel
theorem dX5_reason_80 : decode cX5_reason 80 = .ok (.getfield 169, 3) := by decide +kernel
theorem dX5_reason_83 : decode cX5_reason 83 = .ok (.invokevirtual 78, 3) := by decide +kernel
theorem dX5_reason_86 : decode cX5_reason 86 = .ok (.ifCond .ne 6, 3) := by decide +kernel
theorem dX5_reason_89 : decode cX5_reason 89 = .ok (.bipush 114, 2) := by decide +kernel
theorem dX5_reason_91 : decode cX5_reason 91 = .ok (.ireturn, 1) := by decide +kernel
theorem dX5_reason_92 : decode cX5_reason 92 = .ok (.bipush 110, 2) := by decide +kernel
theorem dX5_reason_94 : decode cX5_reason 94 = .ok (.ireturn, 1) := by decide +kernel
theorem dX5_fail_0 : decode cX5_fail 0 = .ok (.aload_n 0, 1) := by decide +kernel
theorem dX5_fail_1 : decode cX5_fail 1 = .ok (.iload_n 1, 1) := by decide +kernel
theorem dX5_fail_2 : decode cX5_fail 2 = .ok (.invokevirtual 99, 3) := by decide +kernel
theorem dX5_fail_5 : decode cX5_fail 5 = .ok (.astore_n 2, 1) := by decide +kernel
theorem dX5_fail_6 : decode cX5_fail 6 = .ok (.aload_n 2, 1) := by decide +kernel
theorem dX5_fail_7 : decode cX5_fail 7 = .ok (.getfield 146, 3) := by decide +kernel
theorem dX5_fail_10 : decode cX5_fail 10 = .ok (.invokevirtual 155, 3) := by decide +kernel
theorem dX5_fail_13 : decode cX5_fail 13 = .ok (.ifCond .ne 13, 3) := by decide +kernel
theorem dX5_fail_16 : decode cX5_fail 16 = .ok (.new 43, 3) := by decide +kernel
theorem dX5_fail_19 : decode cX5_fail 19 = .ok (.dup, 1) := by decide +kernel
theorem dX5_fail_20 : decode cX5_fail 20 = .ok (.ldc 172, 2) := by decide +kernel
theorem dX5_fail_22 : decode cX5_fail 22 = .ok (.invokespecial 47, 3) := by decide +kernel
theorem dX5_fail_25 : decode cX5_fail 25 = .ok (.athrow, 1) := by decide +kernel
theorem dX5_fail_26 : decode cX5_fail 26 = .ok (.aload_n 2, 1) := by decide +kernel
theorem dX5_fail_27 : decode cX5_fail 27 = .ok (.getfield 146, 3) := by decide +kernel
theorem dX5_fail_30 : decode cX5_fail 30 = .ok (.invokevirtual 174, 3) := by decide +kernel
theorem dX5_fail_33 : decode cX5_fail 33 = .ok (.ifCond .eq 25, 3) := by decide +kernel
theorem dX5_fail_36 : decode cX5_fail 36 = .ok (.aload_n 0, 1) := by decide +kernel
theorem dX5_fail_37 : decode cX5_fail 37 = .ok (.aload_n 2, 1) := by decide +kernel
theorem dX5_fail_38 : decode cX5_fail 38 = .ok (.iconst (-1), 1) := by decide +kernel
theorem dX5_fail_39 : decode cX5_fail 39 = .ok (.invokevirtual 95, 3) := by decide +kernel
theorem dX5_fail_42 : decode cX5_fail 42 = .ok (.aload_n 2, 1) := by decide +kernel
theorem dX5_fail_43 : decode cX5_fail 43 = .ok (.getfield 146, 3) := by decide +kernel
theorem dX5_fail_46 : decode cX5_fail 46 = .ok (.invokevirtual 177, 3) := by decide +kernel
theorem dX5_fail_49 : decode cX5_fail 49 = .ok (.aload_n 0, 1) := by decide +kernel
theorem dX5_fail_50 : decode cX5_fail 50 = .ok (.aload_n 2, 1) := by decide +kernel
theorem dX5_fail_51 : decode cX5_fail 51 = .ok (.iconst 1, 1) := by decide +kernel
theorem dX5_fail_52 : decode cX5_fail 52 = .ok (.invokevirtual 95, 3) := by decide +kernel
theorem dX5_fail_55 : decode cX5_fail 55 = .ok (.bipush 101, 2) := by decide +kernel
theorem dX5_fail_57 : decode cX5_fail 57 = .ok (.ireturn, 1) := by decide +kernel
theorem dX5_fail_58 : decode cX5_fail 58 = .ok (.aload_n 0, 1) := by decide +kernel
theorem dX5_fail_59 : decode cX5_fail 59 = .ok (.aload_n 2, 1) := by decide +kernel
theorem dX5_fail_60 : decode cX5_fail 60 = .ok (.invokevirtual 180, 3) := by decide +kernel
theorem dX5_fail_63 : decode cX5_fail 63 = .ok (.ifCond .eq 11, 3) := by decide +kernel
theorem dX5_fail_66 : decode cX5_fail 66 = .ok (.aload_n 0, 1) := by decide +kernel
theorem dX5_fail_67 : decode cX5_fail 67 = .ok (.aload_n 2, 1) := by decide +kernel
theorem dX5_fail_68 : decode cX5_fail 68 = .ok (.invokevirtual 184, 3) := by decide +kernel
theorem dX5_fail_71 : decode cX5_fail 71 = .ok (.bipush 98, 2) := by decide +kernel
theorem dX5_fail_73 : decode cX5_fail 73 = .ok (.ireturn, 1) := by decide +kernel
theorem dX5_fail_74 : decode cX5_fail 74 = .ok (.aload_n 2, 1) := by decide +kernel
theorem dX5_fail_75 : decode cX5_fail 75 = .ok (.getfield 146, 3) := by decide +kernel
theorem dX5_fail_78 : decode cX5_fail 78 = .ok (.invokevirtual 188, 3) := by decide +kernel
theorem dX5_fail_81 : decode cX5_fail 81 = .ok (.bipush 97, 2) := by decide +kernel
theorem dX5_fail_83 : decode cX5_fail 83 = .ok (.ireturn, 1) := by decide +kernel
theorem dX5_pass_0 : decode cX5_pass 0 = .ok (.iload_n 1, 1) := by decide +kernel
theorem dX5_pass_1 : decode cX5_pass 1 = .ok (.iconst 1, 1) := by decide +kernel
theorem dX5_pass_2 : decode cX5_pass 2 = .ok (.bipush 48, 2) := by decide +kernel
theorem dX5_pass_4 : decode cX5_pass 4 = .ok (.invokestatic 35, 3) := by decide +kernel
theorem dX5_pass_7 : decode cX5_pass 7 = .ok (.iconst 0, 1) := by decide +kernel
theorem dX5_pass_8 : decode cX5_pass 8 = .ok (.istore_n 2, 1) := by decide +kernel
theorem dX5_pass_9 : decode cX5_pass 9 = .ok (.iconst 0, 1) := by decide +kernel
theorem dX5_pass_10 : decode cX5_pass 10 = .ok (.istore_n 3, 1) := by decide +kernel
theorem dX5_pass_11 : decode cX5_pass 11 = .ok (.iload_n 3, 1) := by decide +kernel
theorem dX5_pass_12 : decode cX5_pass 12 = .ok (.iload_n 1, 1) := by decide +kernel
theorem dX5_pass_13 : decode cX5_pass 13 = .ok (.if_icmp .ge 44, 3) := by decide +kernel
theorem dX5_pass_16 : decode cX5_pass 16 = .ok (.aload_n 0, 1) := by decide +kernel
theorem dX5_pass_17 : decode cX5_pass 17 = .ok (.invokevirtual 191, 3) := by decide +kernel
theorem dX5_pass_20 : decode cX5_pass 20 = .ok (.iload_n 2, 1) := by decide +kernel
theorem dX5_pass_21 : decode cX5_pass 21 = .ok (.aload_n 0, 1) := by decide +kernel
theorem dX5_pass_22 : decode cX5_pass 22 = .ok (.invokevirtual 194, 3) := by decide +kernel
theorem dX5_pass_25 : decode cX5_pass 25 = .ok (.iadd, 1) := by decide +kernel
theorem dX5_pass_26 : decode cX5_pass 26 = .ok (.istore_n 2, 1) := by decide +kernel
theorem dX5_pass_27 : decode cX5_pass 27 = .ok (.aload_n 0, 1) := by decide +kernel
theorem dX5_pass_28 : decode cX5_pass 28 = .ok (.dup, 1) := by decide +kernel
theorem dX5_pass_29 : decode cX5_pass 29 = .ok (.getfield 197, 3) := by decide +kernel
theorem dX5_pass_32 : decode cX5_pass 32 = .ok (.iconst 1, 1) := by decide +kernel
theorem dX5_pass_33 : decode cX5_pass 33 = .ok (.iadd, 1) := by decide +kernel
theorem dX5_pass_34 : decode cX5_pass 34 = .ok (.putfield 197, 3) := by decide +kernel
theorem dX5_pass_37 : decode cX5_pass 37 = .ok (.aload_n 0, 1) := by decide +kernel
theorem dX5_pass_38 : decode cX5_pass 38 = .ok (.getfield 197, 3) := by decide +kernel
theorem dX5_pass_41 : decode cX5_pass 41 = .ok (.invokestatic 200, 3) := by decide +kernel
theorem dX5_pass_44 : decode cX5_pass 44 = .ok (.ifCond .ne 7, 3) := by decide +kernel
theorem dX5_pass_47 : decode cX5_pass 47 = .ok (.aload_n 0, 1) := by decide +kernel
theorem dX5_pass_48 : decode cX5_pass 48 = .ok (.invokevirtual 203, 3) := by decide +kernel
theorem dX5_pass_51 : decode cX5_pass 51 = .ok (.iinc 3 1, 3) := by decide +kernel
theorem dX5_pass_54 : decode cX5_pass 54 = .ok (.goto (-43), 3) := by decide +kernel
theorem dX5_pass_57 : decode cX5_pass 57 = .ok (.iload_n 2, 1) := by decide +kernel
theorem dX5_pass_58 : decode cX5_pass 58 = .ok (.ireturn, 1) := by decide +kernel
theorem dX5_time_0 : decode cX5_time 0 = .ok (.aload_n 0, 1) := by decide +kernel
theorem dX5_time_1 : decode cX5_time 1 = .ok (.getfield 197, 3) := by decide +kernel
theorem dX5_time_4 : decode cX5_time 4 = .ok (.ireturn, 1) := by decide +kernel
theorem dX5_phase_0 : decode cX5_phase 0 = .ok (.aload_n 0, 1) := by decide +kernel
theorem dX5_phase_1 : decode cX5_phase 1 = .ok (.iload_n 1, 1) := by decide +kernel
theorem dX5_phase_2 : decode cX5_phase 2 = .ok (.invokevirtual 99, 3) := by decide +kernel
theorem dX5_phase_5 : decode cX5_phase 5 = .ok (.getfield 146, 3) := by decide +kernel
theorem dX5_phase_8 : decode cX5_phase 8 = .ok (.getfield 206, 3) := by decide +kernel
theorem dX5_phase_11 : decode cX5_phase 11 = .ok (.ireturn, 1) := by decide +kernel
theorem dX5_targetOf_0 : decode cX5_targetOf 0 = .ok (.aload_n 0, 1) := by decide +kernel
theorem dX5_targetOf_1 : decode cX5_targetOf 1 = .ok (.iload_n 1, 1) := by decide +kernel
theorem dX5_targetOf_2 : decode cX5_targetOf 2 = .ok (.invokevirtual 210, 3) := by decide +kernel
theorem dX5_targetOf_5 : decode cX5_targetOf 5 = .ok (.getfield 146, 3) := by decide +kernel
theorem dX5_targetOf_8 : decode cX5_targetOf 8 = .ok (.getfield 213, 3) := by decide +kernel
theorem dX5_targetOf_11 : decode cX5_targetOf 11 = .ok (.ireturn, 1) := by decide +kernel
theorem dX5_hoursLeft_0 : decode cX5_hoursLeft 0 = .ok (.aload_n 0, 1) := by decide +kernel
theorem dX5_hoursLeft_1 : decode cX5_hoursLeft 1 = .ok (.iload_n 1, 1) := by decide +kernel
theorem dX5_hoursLeft_2 : decode cX5_hoursLeft 2 = .ok (.invokevirtual 210, 3) := by decide +kernel
theorem dX5_hoursLeft_5 : decode cX5_hoursLeft 5 = .ok (.astore_n 2, 1) := by decide +kernel
theorem dX5_hoursLeft_6 : decode cX5_hoursLeft 6 = .ok (.aload_n 2, 1) := by decide +kernel
theorem dX5_hoursLeft_7 : decode cX5_hoursLeft 7 = .ok (.getfield 146, 3) := by decide +kernel
theorem dX5_hoursLeft_10 : decode cX5_hoursLeft 10 = .ok (.getfield 216, 3) := by decide +kernel
theorem dX5_hoursLeft_13 : decode cX5_hoursLeft 13 = .ok (.istore_n 3, 1) := by decide +kernel
theorem dX5_hoursLeft_14 : decode cX5_hoursLeft 14 = .ok (.aload_n 2, 1) := by decide +kernel
theorem dX5_hoursLeft_15 : decode cX5_hoursLeft 15 = .ok (.getfield 146, 3) := by decide +kernel
theorem dX5_hoursLeft_18 : decode cX5_hoursLeft 18 = .ok (.invokevirtual 174, 3) := by decide +kernel
theorem dX5_hoursLeft_21 : decode cX5_hoursLeft 21 = .ok (.ifCond .ne 5, 3) := by decide +kernel
theorem dX5_hoursLeft_24 : decode cX5_hoursLeft 24 = .ok (.iload_n 3, 1) := by decide +kernel
theorem dX5_hoursLeft_25 : decode cX5_hoursLeft 25 = .ok (.ireturn, 1) := by decide +kernel
theorem dX5_hoursLeft_26 : decode cX5_hoursLeft 26 = .ok (.aload_n 2, 1) := by decide +kernel
theorem dX5_hoursLeft_27 : decode cX5_hoursLeft 27 = .ok (.aload_n 0, 1) := by decide +kernel
theorem dX5_hoursLeft_28 : decode cX5_hoursLeft 28 = .ok (.getfield 197, 3) := by decide +kernel
theorem dX5_hoursLeft_31 : decode cX5_hoursLeft 31 = .ok (.iload_n 3, 1) := by decide +kernel
theorem dX5_hoursLeft_32 : decode cX5_hoursLeft 32 = .ok (.iadd, 1) := by decide +kernel
theorem dX5_hoursLeft_33 : decode cX5_hoursLeft 33 = .ok (.invokestatic 200, 3) := by decide +kernel
theorem dX5_hoursLeft_36 : decode cX5_hoursLeft 36 = .ok (.invokevirtual 219, 3) := by decide +kernel
theorem dX5_hoursLeft_39 : decode cX5_hoursLeft 39 = .ok (.istore 4, 2) := by decide +kernel
theorem dX5_hoursLeft_41 : decode cX5_hoursLeft 41 = .ok (.iload_n 3, 1) := by decide +kernel
theorem dX5_hoursLeft_42 : decode cX5_hoursLeft 42 = .ok (.iload 4, 2) := by decide +kernel
theorem dX5_hoursLeft_44 : decode cX5_hoursLeft 44 = .ok (.iadd, 1) := by decide +kernel
theorem dX5_hoursLeft_45 : decode cX5_hoursLeft 45 = .ok (.iconst 1, 1) := by decide +kernel
theorem dX5_hoursLeft_46 : decode cX5_hoursLeft 46 = .ok (.iadd, 1) := by decide +kernel
theorem dX5_hoursLeft_47 : decode cX5_hoursLeft 47 = .ok (.iconst 2, 1) := by decide +kernel
theorem dX5_hoursLeft_48 : decode cX5_hoursLeft 48 = .ok (.iadd, 1) := by decide +kernel
theorem dX5_hoursLeft_49 : decode cX5_hoursLeft 49 = .ok (.ireturn, 1) := by decide +kernel
theorem dX5_hoursByPassing_0 : decode cX5_hoursByPassing 0 = .ok (.aload_n 0, 1) := by decide +kernel
theorem dX5_hoursByPassing_1 : decode cX5_hoursByPassing 1 = .ok (.iload_n 1, 1) := by decide +kernel
theorem dX5_hoursByPassing_2 : decode cX5_hoursByPassing 2 = .ok (.invokevirtual 210, 3) := by decide +kernel
theorem dX5_hoursByPassing_5 : decode cX5_hoursByPassing 5 = .ok (.astore_n 2, 1) := by decide +kernel
theorem dX5_hoursByPassing_6 : decode cX5_hoursByPassing 6 = .ok (.aload_n 0, 1) := by decide +kernel
theorem dX5_hoursByPassing_7 : decode cX5_hoursByPassing 7 = .ok (.getfield 31, 3) := by decide +kernel
theorem dX5_hoursByPassing_10 : decode cX5_hoursByPassing 10 = .ok (.aload_n 2, 1) := by decide +kernel
theorem dX5_hoursByPassing_11 : decode cX5_hoursByPassing 11 = .ok (.getfield 146, 3) := by decide +kernel
theorem dX5_hoursByPassing_14 : decode cX5_hoursByPassing 14 = .ok (.invokevirtual 222, 3) := by decide +kernel
theorem dX5_hoursByPassing_17 : decode cX5_hoursByPassing 17 = .ok (.iconst 0, 1) := by decide +kernel
theorem dX5_hoursByPassing_18 : decode cX5_hoursByPassing 18 = .ok (.istore_n 3, 1) := by decide +kernel
theorem dX5_hoursByPassing_19 : decode cX5_hoursByPassing 19 = .ok (.iload_n 3, 1) := by decide +kernel
theorem dX5_hoursByPassing_20 : decode cX5_hoursByPassing 20 = .ok (.sipush 1000, 3) := by decide +kernel
theorem dX5_hoursByPassing_23 : decode cX5_hoursByPassing 23 = .ok (.if_icmp .ge 40, 3) := by decide +kernel
theorem dX5_hoursByPassing_26 : decode cX5_hoursByPassing 26 = .ok (.aload_n 0, 1) := by decide +kernel
theorem dX5_hoursByPassing_27 : decode cX5_hoursByPassing 27 = .ok (.getfield 31, 3) := by decide +kernel
theorem dX5_hoursByPassing_30 : decode cX5_hoursByPassing 30 = .ok (.invokevirtual 155, 3) := by decide +kernel
theorem dX5_hoursByPassing_33 : decode cX5_hoursByPassing 33 = .ok (.ifCond .eq 30, 3) := by decide +kernel
theorem dX5_hoursByPassing_36 : decode cX5_hoursByPassing 36 = .ok (.aload_n 0, 1) := by decide +kernel
theorem dX5_hoursByPassing_37 : decode cX5_hoursByPassing 37 = .ok (.getfield 31, 3) := by decide +kernel
theorem dX5_hoursByPassing_40 : decode cX5_hoursByPassing 40 = .ok (.aload_n 2, 1) := by decide +kernel
theorem dX5_hoursByPassing_41 : decode cX5_hoursByPassing 41 = .ok (.aload_n 0, 1) := by decide +kernel
theorem dX5_hoursByPassing_42 : decode cX5_hoursByPassing 42 = .ok (.getfield 197, 3) := by decide +kernel
theorem dX5_hoursByPassing_45 : decode cX5_hoursByPassing 45 = .ok (.iload_n 3, 1) := by decide +kernel
theorem dX5_hoursByPassing_46 : decode cX5_hoursByPassing 46 = .ok (.iadd, 1) := by decide +kernel
theorem dX5_hoursByPassing_47 : decode cX5_hoursByPassing 47 = .ok (.invokestatic 200, 3) := by decide +kernel
theorem dX5_hoursByPassing_50 : decode cX5_hoursByPassing 50 = .ok (.invokevirtual 226, 3) := by decide +kernel
theorem dX5_hoursByPassing_53 : decode cX5_hoursByPassing 53 = .ok (.invokevirtual 229, 3) := by decide +kernel
theorem dX5_hoursByPassing_56 : decode cX5_hoursByPassing 56 = .ok (.pop, 1) := by decide +kernel
theorem dX5_hoursByPassing_57 : decode cX5_hoursByPassing 57 = .ok (.iinc 3 1, 3) := by decide +kernel
theorem dX5_hoursByPassing_60 : decode cX5_hoursByPassing 60 = .ok (.goto (-41), 3) := by decide +kernel
theorem dX5_hoursByPassing_63 : decode cX5_hoursByPassing 63 = .ok (.iload_n 3, 1) := by decide +kernel
theorem dX5_hoursByPassing_64 : decode cX5_hoursByPassing 64 = .ok (.ireturn, 1) := by decide +kernel
theorem dX5_moves_0 : decode cX5_moves 0 = .ok (.iconst 0, 1) := by decide +kernel
theorem dX5_moves_1 : decode cX5_moves 1 = .ok (.istore_n 1, 1) := by decide +kernel
theorem dX5_moves_2 : decode cX5_moves 2 = .ok (.aload_n 0, 1) := by decide +kernel
theorem dX5_moves_3 : decode cX5_moves 3 = .ok (.getfield 17, 3) := by decide +kernel
theorem dX5_moves_6 : decode cX5_moves 6 = .ok (.astore_n 2, 1) := by decide +kernel
theorem dX5_moves_7 : decode cX5_moves 7 = .ok (.aload_n 2, 1) := by decide +kernel
theorem dX5_moves_8 : decode cX5_moves 8 = .ok (.arraylength, 1) := by decide +kernel
theorem dX5_moves_9 : decode cX5_moves 9 = .ok (.istore_n 3, 1) := by decide +kernel
theorem dX5_moves_10 : decode cX5_moves 10 = .ok (.iconst 0, 1) := by decide +kernel
theorem dX5_moves_11 : decode cX5_moves 11 = .ok (.istore 4, 2) := by decide +kernel
theorem dX5_moves_13 : decode cX5_moves 13 = .ok (.iload 4, 2) := by decide +kernel
theorem dX5_moves_15 : decode cX5_moves 15 = .ok (.iload_n 3, 1) := by decide +kernel
theorem dX5_moves_16 : decode cX5_moves 16 = .ok (.if_icmp .ge 34, 3) := by decide +kernel
theorem dX5_moves_19 : decode cX5_moves 19 = .ok (.aload_n 2, 1) := by decide +kernel
theorem dX5_moves_20 : decode cX5_moves 20 = .ok (.iload 4, 2) := by decide +kernel
theorem dX5_moves_22 : decode cX5_moves 22 = .ok (.aaload, 1) := by decide +kernel
theorem dX5_moves_23 : decode cX5_moves 23 = .ok (.astore 5, 2) := by decide +kernel
theorem dX5_moves_25 : decode cX5_moves 25 = .ok (.aload 5, 2) := by decide +kernel
theorem dX5_moves_27 : decode cX5_moves 27 = .ok (.ifnull 17, 3) := by decide +kernel
theorem dX5_moves_30 : decode cX5_moves 30 = .ok (.aload 5, 2) := by decide +kernel
theorem dX5_moves_32 : decode cX5_moves 32 = .ok (.getfield 146, 3) := by decide +kernel
theorem dX5_moves_35 : decode cX5_moves 35 = .ok (.invokevirtual 155, 3) := by decide +kernel
theorem dX5_moves_38 : decode cX5_moves 38 = .ok (.ifCond .eq 6, 3) := by decide +kernel
theorem dX5_moves_41 : decode cX5_moves 41 = .ok (.iinc 1 1, 3) := by decide +kernel
theorem dX5_moves_44 : decode cX5_moves 44 = .ok (.iinc 4 1, 3) := by decide +kernel
theorem dX5_moves_47 : decode cX5_moves 47 = .ok (.goto (-34), 3) := by decide +kernel
theorem dX5_moves_50 : decode cX5_moves 50 = .ok (.iload_n 1, 1) := by decide +kernel
theorem dX5_moves_51 : decode cX5_moves 51 = .ok (.ireturn, 1) := by decide +kernel
theorem dX5_shards_0 : decode cX5_shards 0 = .ok (.iconst 0, 1) := by decide +kernel
theorem dX5_shards_1 : decode cX5_shards 1 = .ok (.istore_n 1, 1) := by decide +kernel
theorem dX5_shards_2 : decode cX5_shards 2 = .ok (.aload_n 0, 1) := by decide +kernel
theorem dX5_shards_3 : decode cX5_shards 3 = .ok (.getfield 11, 3) := by decide +kernel
theorem dX5_shards_6 : decode cX5_shards 6 = .ok (.astore_n 2, 1) := by decide +kernel
theorem dX5_shards_7 : decode cX5_shards 7 = .ok (.aload_n 2, 1) := by decide +kernel
theorem dX5_shards_8 : decode cX5_shards 8 = .ok (.arraylength, 1) := by decide +kernel
theorem dX5_shards_9 : decode cX5_shards 9 = .ok (.istore_n 3, 1) := by decide +kernel
theorem dX5_shards_10 : decode cX5_shards 10 = .ok (.iconst 0, 1) := by decide +kernel
theorem dX5_shards_11 : decode cX5_shards 11 = .ok (.istore 4, 2) := by decide +kernel
theorem dX5_shards_13 : decode cX5_shards 13 = .ok (.iload 4, 2) := by decide +kernel
theorem dX5_shards_15 : decode cX5_shards 15 = .ok (.iload_n 3, 1) := by decide +kernel
theorem dX5_shards_16 : decode cX5_shards 16 = .ok (.if_icmp .ge 23, 3) := by decide +kernel
theorem dX5_shards_19 : decode cX5_shards 19 = .ok (.aload_n 2, 1) := by decide +kernel
theorem dX5_shards_20 : decode cX5_shards 20 = .ok (.iload 4, 2) := by decide +kernel
theorem dX5_shards_22 : decode cX5_shards 22 = .ok (.aaload, 1) := by decide +kernel
theorem dX5_shards_23 : decode cX5_shards 23 = .ok (.astore 5, 2) := by decide +kernel
theorem dX5_shards_25 : decode cX5_shards 25 = .ok (.aload 5, 2) := by decide +kernel
theorem dX5_shards_27 : decode cX5_shards 27 = .ok (.ifnull 6, 3) := by decide +kernel
theorem dX5_shards_30 : decode cX5_shards 30 = .ok (.iinc 1 1, 3) := by decide +kernel
theorem dX5_shards_33 : decode cX5_shards 33 = .ok (.iinc 4 1, 3) := by decide +kernel
theorem dX5_shards_36 : decode cX5_shards 36 = .ok (.goto (-23), 3) := by decide +kernel
theorem dX5_shards_39 : decode cX5_shards 39 = .ok (.iload_n 1, 1) := by decide +kernel
theorem dX5_shards_40 : decode cX5_shards 40 = .ok (.ireturn, 1) := by decide +kernel
theorem dX5_tenants_0 : decode cX5_tenants 0 = .ok (.iconst 0, 1) := by decide +kernel
theorem dX5_tenants_1 : decode cX5_tenants 1 = .ok (.istore_n 1, 1) := by decide +kernel
theorem dX5_tenants_2 : decode cX5_tenants 2 = .ok (.aload_n 0, 1) := by decide +kernel
theorem dX5_tenants_3 : decode cX5_tenants 3 = .ok (.getfield 17, 3) := by decide +kernel
theorem dX5_tenants_6 : decode cX5_tenants 6 = .ok (.astore_n 2, 1) := by decide +kernel
theorem dX5_tenants_7 : decode cX5_tenants 7 = .ok (.aload_n 2, 1) := by decide +kernel
theorem dX5_tenants_8 : decode cX5_tenants 8 = .ok (.arraylength, 1) := by decide +kernel
theorem dX5_tenants_9 : decode cX5_tenants 9 = .ok (.istore_n 3, 1) := by decide +kernel
theorem dX5_tenants_10 : decode cX5_tenants 10 = .ok (.iconst 0, 1) := by decide +kernel
theorem dX5_tenants_11 : decode cX5_tenants 11 = .ok (.istore 4, 2) := by decide +kernel
theorem dX5_tenants_13 : decode cX5_tenants 13 = .ok (.iload 4, 2) := by decide +kernel
theorem dX5_tenants_15 : decode cX5_tenants 15 = .ok (.iload_n 3, 1) := by decide +kernel
theorem dX5_tenants_16 : decode cX5_tenants 16 = .ok (.if_icmp .ge 23, 3) := by decide +kernel
theorem dX5_tenants_19 : decode cX5_tenants 19 = .ok (.aload_n 2, 1) := by decide +kernel
theorem dX5_tenants_20 : decode cX5_tenants 20 = .ok (.iload 4, 2) := by decide +kernel
theorem dX5_tenants_22 : decode cX5_tenants 22 = .ok (.aaload, 1) := by decide +kernel
theorem dX5_tenants_23 : decode cX5_tenants 23 = .ok (.astore 5, 2) := by decide +kernel
theorem dX5_tenants_25 : decode cX5_tenants 25 = .ok (.aload 5, 2) := by decide +kernel
theorem dX5_tenants_27 : decode cX5_tenants 27 = .ok (.ifnull 6, 3) := by decide +kernel
theorem dX5_tenants_30 : decode cX5_tenants 30 = .ok (.iinc 1 1, 3) := by decide +kernel
theorem dX5_tenants_33 : decode cX5_tenants 33 = .ok (.iinc 4 1, 3) := by decide +kernel
theorem dX5_tenants_36 : decode cX5_tenants 36 = .ok (.goto (-23), 3) := by decide +kernel
theorem dX5_tenants_39 : decode cX5_tenants 39 = .ok (.iload_n 1, 1) := by decide +kernel
theorem dX5_tenants_40 : decode cX5_tenants 40 = .ok (.ireturn, 1) := by decide +kernel
theorem dX5_servedBy_0 : decode cX5_servedBy 0 = .ok (.aload_n 0, 1) := by decide +kernel
theorem dX5_servedBy_1 : decode cX5_servedBy 1 = .ok (.iload_n 1, 1) := by decide +kernel
theorem dX5_servedBy_2 : decode cX5_servedBy 2 = .ok (.invokevirtual 99, 3) := by decide +kernel
theorem dX5_servedBy_5 : decode cX5_servedBy 5 = .ok (.getfield 149, 3) := by decide +kernel
theorem dX5_servedBy_8 : decode cX5_servedBy 8 = .ok (.ireturn, 1) := by decide +kernel
theorem dX5_sizeOf_0 : decode cX5_sizeOf 0 = .ok (.aload_n 0, 1) := by decide +kernel
theorem dX5_sizeOf_1 : decode cX5_sizeOf 1 = .ok (.iload_n 1, 1) := by decide +kernel
theorem dX5_sizeOf_2 : decode cX5_sizeOf 2 = .ok (.invokevirtual 99, 3) := by decide +kernel
theorem dX5_sizeOf_5 : decode cX5_sizeOf 5 = .ok (.astore_n 3, 1) := by decide +kernel
theorem dX5_sizeOf_6 : decode cX5_sizeOf 6 = .ok (.iload_n 2, 1) := by decide +kernel
theorem dX5_sizeOf_7 : decode cX5_sizeOf 7 = .ok (.invokestatic 60, 3) := by decide +kernel
theorem dX5_sizeOf_10 : decode cX5_sizeOf 10 = .ok (.aload_n 3, 1) := by decide +kernel
theorem dX5_sizeOf_11 : decode cX5_sizeOf 11 = .ok (.getfield 103, 3) := by decide +kernel
theorem dX5_sizeOf_14 : decode cX5_sizeOf 14 = .ok (.iload_n 2, 1) := by decide +kernel
theorem dX5_sizeOf_15 : decode cX5_sizeOf 15 = .ok (.invokevirtual 68, 3) := by decide +kernel
theorem dX5_sizeOf_18 : decode cX5_sizeOf 18 = .ok (.ireturn, 1) := by decide +kernel
theorem dX5_used_0 : decode cX5_used 0 = .ok (.aload_n 0, 1) := by decide +kernel
theorem dX5_used_1 : decode cX5_used 1 = .ok (.iload_n 1, 1) := by decide +kernel
theorem dX5_used_2 : decode cX5_used 2 = .ok (.invokevirtual 52, 3) := by decide +kernel
theorem dX5_used_5 : decode cX5_used 5 = .ok (.astore_n 3, 1) := by decide +kernel
theorem dX5_used_6 : decode cX5_used 6 = .ok (.iload_n 2, 1) := by decide +kernel
theorem dX5_used_7 : decode cX5_used 7 = .ok (.invokestatic 60, 3) := by decide +kernel
theorem dX5_used_10 : decode cX5_used 10 = .ok (.aload_n 3, 1) := by decide +kernel
theorem dX5_used_11 : decode cX5_used 11 = .ok (.getfield 233, 3) := by decide +kernel
theorem dX5_used_14 : decode cX5_used 14 = .ok (.iload_n 2, 1) := by decide +kernel
theorem dX5_used_15 : decode cX5_used 15 = .ok (.invokevirtual 68, 3) := by decide +kernel
theorem dX5_used_18 : decode cX5_used 18 = .ok (.ireturn, 1) := by decide +kernel
theorem dX5_usedByLooking_0 : decode cX5_usedByLooking 0 = .ok (.aload_n 0, 1) := by decide +kernel
theorem dX5_usedByLooking_1 : decode cX5_usedByLooking 1 = .ok (.iload_n 1, 1) := by decide +kernel
theorem dX5_usedByLooking_2 : decode cX5_usedByLooking 2 = .ok (.invokevirtual 52, 3) := by decide +kernel
theorem dX5_usedByLooking_5 : decode cX5_usedByLooking 5 = .ok (.pop, 1) := by decide +kernel
theorem dX5_usedByLooking_6 : decode cX5_usedByLooking 6 = .ok (.iload_n 2, 1) := by decide +kernel
theorem dX5_usedByLooking_7 : decode cX5_usedByLooking 7 = .ok (.invokestatic 60, 3) := by decide +kernel
theorem dX5_usedByLooking_10 : decode cX5_usedByLooking 10 = .ok (.iconst 0, 1) := by decide +kernel
theorem dX5_usedByLooking_11 : decode cX5_usedByLooking 11 = .ok (.istore_n 3, 1) := by decide +kernel
theorem dX5_usedByLooking_12 : decode cX5_usedByLooking 12 = .ok (.aload_n 0, 1) := by decide +kernel
theorem dX5_usedByLooking_13 : decode cX5_usedByLooking 13 = .ok (.getfield 17, 3) := by decide +kernel
theorem dX5_usedByLooking_16 : decode cX5_usedByLooking 16 = .ok (.astore 4, 2) := by decide +kernel
theorem dX5_usedByLooking_18 : decode cX5_usedByLooking 18 = .ok (.aload 4, 2) := by decide +kernel
theorem dX5_usedByLooking_20 : decode cX5_usedByLooking 20 = .ok (.arraylength, 1) := by decide +kernel
theorem dX5_usedByLooking_21 : decode cX5_usedByLooking 21 = .ok (.istore 5, 2) := by decide +kernel
theorem dX5_usedByLooking_23 : decode cX5_usedByLooking 23 = .ok (.iconst 0, 1) := by decide +kernel
theorem dX5_usedByLooking_24 : decode cX5_usedByLooking 24 = .ok (.istore 6, 2) := by decide +kernel
theorem dX5_usedByLooking_26 : decode cX5_usedByLooking 26 = .ok (.iload 6, 2) := by decide +kernel
theorem dX5_usedByLooking_28 : decode cX5_usedByLooking 28 = .ok (.iload 5, 2) := by decide +kernel
theorem dX5_usedByLooking_30 : decode cX5_usedByLooking 30 = .ok (.if_icmp .ge 31, 3) := by decide +kernel
theorem dX5_usedByLooking_33 : decode cX5_usedByLooking 33 = .ok (.aload 4, 2) := by decide +kernel
theorem dX5_usedByLooking_35 : decode cX5_usedByLooking 35 = .ok (.iload 6, 2) := by decide +kernel
theorem dX5_usedByLooking_37 : decode cX5_usedByLooking 37 = .ok (.aaload, 1) := by decide +kernel
theorem dX5_usedByLooking_38 : decode cX5_usedByLooking 38 = .ok (.astore 7, 2) := by decide +kernel
theorem dX5_usedByLooking_40 : decode cX5_usedByLooking 40 = .ok (.aload 7, 2) := by decide +kernel
theorem dX5_usedByLooking_42 : decode cX5_usedByLooking 42 = .ok (.ifnull 13, 3) := by decide +kernel
theorem dX5_usedByLooking_45 : decode cX5_usedByLooking 45 = .ok (.iload_n 3, 1) := by decide +kernel
theorem dX5_usedByLooking_46 : decode cX5_usedByLooking 46 = .ok (.aload 7, 2) := by decide +kernel
theorem dX5_usedByLooking_48 : decode cX5_usedByLooking 48 = .ok (.iload_n 1, 1) := by decide +kernel
theorem dX5_usedByLooking_49 : decode cX5_usedByLooking 49 = .ok (.iload_n 2, 1) := by decide +kernel
theorem dX5_usedByLooking_50 : decode cX5_usedByLooking 50 = .ok (.invokevirtual 236, 3) := by decide +kernel
theorem dX5_usedByLooking_53 : decode cX5_usedByLooking 53 = .ok (.iadd, 1) := by decide +kernel
theorem dX5_usedByLooking_54 : decode cX5_usedByLooking 54 = .ok (.istore_n 3, 1) := by decide +kernel
theorem dX5_usedByLooking_55 : decode cX5_usedByLooking 55 = .ok (.iinc 6 1, 3) := by decide +kernel
theorem dX5_usedByLooking_58 : decode cX5_usedByLooking 58 = .ok (.goto (-32), 3) := by decide +kernel
theorem dX5_usedByLooking_61 : decode cX5_usedByLooking 61 = .ok (.iload_n 3, 1) := by decide +kernel
theorem dX5_usedByLooking_62 : decode cX5_usedByLooking 62 = .ok (.ireturn, 1) := by decide +kernel
theorem dX5_isOver_0 : decode cX5_isOver 0 = .ok (.aload_n 0, 1) := by decide +kernel
theorem dX5_isOver_1 : decode cX5_isOver 1 = .ok (.iload_n 1, 1) := by decide +kernel
theorem dX5_isOver_2 : decode cX5_isOver 2 = .ok (.invokevirtual 52, 3) := by decide +kernel
theorem dX5_isOver_5 : decode cX5_isOver 5 = .ok (.invokevirtual 240, 3) := by decide +kernel
theorem dX5_isOver_8 : decode cX5_isOver 8 = .ok (.ireturn, 1) := by decide +kernel
theorem dX5_served_0 : decode cX5_served 0 = .ok (.aload_n 0, 1) := by decide +kernel
theorem dX5_served_1 : decode cX5_served 1 = .ok (.iload_n 1, 1) := by decide +kernel
theorem dX5_served_2 : decode cX5_served 2 = .ok (.invokevirtual 52, 3) := by decide +kernel
theorem dX5_served_5 : decode cX5_served 5 = .ok (.pop, 1) := by decide +kernel
theorem dX5_served_6 : decode cX5_served 6 = .ok (.iconst 0, 1) := by decide +kernel
theorem dX5_served_7 : decode cX5_served 7 = .ok (.istore_n 2, 1) := by decide +kernel
theorem dX5_served_8 : decode cX5_served 8 = .ok (.aload_n 0, 1) := by decide +kernel
theorem dX5_served_9 : decode cX5_served 9 = .ok (.getfield 17, 3) := by decide +kernel
theorem dX5_served_12 : decode cX5_served 12 = .ok (.astore_n 3, 1) := by decide +kernel
theorem dX5_served_13 : decode cX5_served 13 = .ok (.aload_n 3, 1) := by decide +kernel
theorem dX5_served_14 : decode cX5_served 14 = .ok (.arraylength, 1) := by decide +kernel
theorem dX5_served_15 : decode cX5_served 15 = .ok (.istore 4, 2) := by decide +kernel
theorem dX5_served_17 : decode cX5_served 17 = .ok (.iconst 0, 1) := by decide +kernel
theorem dX5_served_18 : decode cX5_served 18 = .ok (.istore 5, 2) := by decide +kernel
theorem dX5_served_20 : decode cX5_served 20 = .ok (.iload 5, 2) := by decide +kernel
theorem dX5_served_22 : decode cX5_served 22 = .ok (.iload 4, 2) := by decide +kernel
theorem dX5_served_24 : decode cX5_served 24 = .ok (.if_icmp .ge 32, 3) := by decide +kernel
theorem dX5_served_27 : decode cX5_served 27 = .ok (.aload_n 3, 1) := by decide +kernel
theorem dX5_served_28 : decode cX5_served 28 = .ok (.iload 5, 2) := by decide +kernel
theorem dX5_served_30 : decode cX5_served 30 = .ok (.aaload, 1) := by decide +kernel
theorem dX5_served_31 : decode cX5_served 31 = .ok (.astore 6, 2) := by decide +kernel
theorem dX5_served_33 : decode cX5_served 33 = .ok (.aload 6, 2) := by decide +kernel
theorem dX5_served_35 : decode cX5_served 35 = .ok (.ifnull 15, 3) := by decide +kernel
theorem dX5_served_38 : decode cX5_served 38 = .ok (.aload 6, 2) := by decide +kernel
theorem dX5_served_40 : decode cX5_served 40 = .ok (.getfield 149, 3) := by decide +kernel
theorem dX5_served_43 : decode cX5_served 43 = .ok (.iload_n 1, 1) := by decide +kernel
theorem dX5_served_44 : decode cX5_served 44 = .ok (.if_icmp .ne 6, 3) := by decide +kernel
theorem dX5_served_47 : decode cX5_served 47 = .ok (.iinc 2 1, 3) := by decide +kernel
theorem dX5_served_50 : decode cX5_served 50 = .ok (.iinc 5 1, 3) := by decide +kernel
theorem dX5_served_53 : decode cX5_served 53 = .ok (.goto (-33), 3) := by decide +kernel
theorem dX5_served_56 : decode cX5_served 56 = .ok (.iload_n 2, 1) := by decide +kernel
theorem dX5_served_57 : decode cX5_served 57 = .ok (.ireturn, 1) := by decide +kernel
theorem dX5_fewestMoves_0 : decode cX5_fewestMoves 0 = .ok (.aload_n 0, 1) := by decide +kernel
theorem dX5_fewestMoves_1 : decode cX5_fewestMoves 1 = .ok (.getfield 24, 3) := by decide +kernel
theorem dX5_fewestMoves_4 : decode cX5_fewestMoves 4 = .ok (.aload_n 0, 1) := by decide +kernel
theorem dX5_fewestMoves_5 : decode cX5_fewestMoves 5 = .ok (.getfield 11, 3) := by decide +kernel
theorem dX5_fewestMoves_8 : decode cX5_fewestMoves 8 = .ok (.aload_n 0, 1) := by decide +kernel
theorem dX5_fewestMoves_9 : decode cX5_fewestMoves 9 = .ok (.getfield 17, 3) := by decide +kernel
theorem dX5_fewestMoves_12 : decode cX5_fewestMoves 12 = .ok (.invokevirtual 243, 3) := by decide +kernel
theorem dX5_fewestMoves_15 : decode cX5_fewestMoves 15 = .ok (.istore_n 1, 1) := by decide +kernel
theorem dX5_fewestMoves_16 : decode cX5_fewestMoves 16 = .ok (.iload_n 1, 1) := by decide +kernel
theorem dX5_fewestMoves_17 : decode cX5_fewestMoves 17 = .ok (.invokestatic 247, 3) := by decide +kernel
theorem dX5_fewestMoves_20 : decode cX5_fewestMoves 20 = .ok (.iload_n 1, 1) := by decide +kernel
theorem dX5_fewestMoves_21 : decode cX5_fewestMoves 21 = .ok (.ireturn, 1) := by decide +kernel
theorem dX5_fewestByTrying_0 : decode cX5_fewestByTrying 0 = .ok (.aload_n 0, 1) := by decide +kernel
theorem dX5_fewestByTrying_1 : decode cX5_fewestByTrying 1 = .ok (.getfield 24, 3) := by decide +kernel
theorem dX5_fewestByTrying_4 : decode cX5_fewestByTrying 4 = .ok (.aload_n 0, 1) := by decide +kernel
theorem dX5_fewestByTrying_5 : decode cX5_fewestByTrying 5 = .ok (.getfield 11, 3) := by decide +kernel
theorem dX5_fewestByTrying_8 : decode cX5_fewestByTrying 8 = .ok (.aload_n 0, 1) := by decide +kernel
theorem dX5_fewestByTrying_9 : decode cX5_fewestByTrying 9 = .ok (.getfield 17, 3) := by decide +kernel
theorem dX5_fewestByTrying_12 : decode cX5_fewestByTrying 12 = .ok (.invokevirtual 250, 3) := by decide +kernel
theorem dX5_fewestByTrying_15 : decode cX5_fewestByTrying 15 = .ok (.aload_n 0, 1) := by decide +kernel
theorem dX5_fewestByTrying_16 : decode cX5_fewestByTrying 16 = .ok (.getfield 24, 3) := by decide +kernel
theorem dX5_fewestByTrying_19 : decode cX5_fewestByTrying 19 = .ok (.getfield 254, 3) := by decide +kernel
theorem dX5_fewestByTrying_22 : decode cX5_fewestByTrying 22 = .ok (.invokestatic 247, 3) := by decide +kernel
theorem dX5_fewestByTrying_25 : decode cX5_fewestByTrying 25 = .ok (.aload_n 0, 1) := by decide +kernel
theorem dX5_fewestByTrying_26 : decode cX5_fewestByTrying 26 = .ok (.getfield 24, 3) := by decide +kernel
theorem dX5_fewestByTrying_29 : decode cX5_fewestByTrying 29 = .ok (.getfield 254, 3) := by decide +kernel
theorem dX5_fewestByTrying_32 : decode cX5_fewestByTrying 32 = .ok (.ireturn, 1) := by decide +kernel
theorem dX5_planned_0 : decode cX5_planned 0 = .ok (.aload_n 0, 1) := by decide +kernel
theorem dX5_planned_1 : decode cX5_planned 1 = .ok (.iload_n 1, 1) := by decide +kernel
theorem dX5_planned_2 : decode cX5_planned 2 = .ok (.invokevirtual 99, 3) := by decide +kernel
theorem dX5_planned_5 : decode cX5_planned 5 = .ok (.astore_n 2, 1) := by decide +kernel
theorem dX5_planned_6 : decode cX5_planned 6 = .ok (.aload_n 0, 1) := by decide +kernel
theorem dX5_planned_7 : decode cX5_planned 7 = .ok (.getfield 24, 3) := by decide +kernel
theorem dX5_planned_10 : decode cX5_planned 10 = .ok (.aload_n 0, 1) := by decide +kernel
theorem dX5_planned_11 : decode cX5_planned 11 = .ok (.getfield 11, 3) := by decide +kernel
theorem dX5_planned_14 : decode cX5_planned 14 = .ok (.aload_n 0, 1) := by decide +kernel
theorem dX5_planned_15 : decode cX5_planned 15 = .ok (.getfield 17, 3) := by decide +kernel
theorem dX5_planned_18 : decode cX5_planned 18 = .ok (.invokevirtual 243, 3) := by decide +kernel
theorem dX5_planned_21 : decode cX5_planned 21 = .ok (.invokestatic 247, 3) := by decide +kernel
theorem dX5_planned_24 : decode cX5_planned 24 = .ok (.aload_n 2, 1) := by decide +kernel
theorem dX5_planned_25 : decode cX5_planned 25 = .ok (.getfield 257, 3) := by decide +kernel
theorem dX5_planned_28 : decode cX5_planned 28 = .ok (.ireturn, 1) := by decide +kernel
theorem dX5_soundPlans_0 : decode cX5_soundPlans 0 = .ok (.aload_n 0, 1) := by decide +kernel
theorem dX5_soundPlans_1 : decode cX5_soundPlans 1 = .ok (.getfield 24, 3) := by decide +kernel
theorem dX5_soundPlans_4 : decode cX5_soundPlans 4 = .ok (.aload_n 0, 1) := by decide +kernel
theorem dX5_soundPlans_5 : decode cX5_soundPlans 5 = .ok (.getfield 11, 3) := by decide +kernel
theorem dX5_soundPlans_8 : decode cX5_soundPlans 8 = .ok (.aload_n 0, 1) := by decide +kernel
theorem dX5_soundPlans_9 : decode cX5_soundPlans 9 = .ok (.getfield 17, 3) := by decide +kernel
theorem dX5_soundPlans_12 : decode cX5_soundPlans 12 = .ok (.invokevirtual 250, 3) := by decide +kernel
theorem dX5_soundPlans_15 : decode cX5_soundPlans 15 = .ok (.aload_n 0, 1) := by decide +kernel
theorem dX5_soundPlans_16 : decode cX5_soundPlans 16 = .ok (.getfield 24, 3) := by decide +kernel
theorem dX5_soundPlans_19 : decode cX5_soundPlans 19 = .ok (.getfield 260, 3) := by decide +kernel
theorem dX5_soundPlans_22 : decode cX5_soundPlans 22 = .ok (.ireturn, 1) := by decide +kernel
theorem dX5_switches_0 : decode cX5_switches 0 = .ok (.aload_n 0, 1) := by decide +kernel
theorem dX5_switches_1 : decode cX5_switches 1 = .ok (.getfield 263, 3) := by decide +kernel
theorem dX5_switches_4 : decode cX5_switches 4 = .ok (.ireturn, 1) := by decide +kernel
theorem dX5_hoursOver_0 : decode cX5_hoursOver 0 = .ok (.aload_n 0, 1) := by decide +kernel
theorem dX5_hoursOver_1 : decode cX5_hoursOver 1 = .ok (.getfield 266, 3) := by decide +kernel
theorem dX5_hoursOver_4 : decode cX5_hoursOver 4 = .ok (.lreturn, 1) := by decide +kernel
theorem dX5_shareOf_0 : decode cX5_shareOf 0 = .ok (.aload_n 0, 1) := by decide +kernel
theorem dX5_shareOf_1 : decode cX5_shareOf 1 = .ok (.iload_n 1, 1) := by decide +kernel
theorem dX5_shareOf_2 : decode cX5_shareOf 2 = .ok (.invokevirtual 52, 3) := by decide +kernel
theorem dX5_shareOf_5 : decode cX5_shareOf 5 = .ok (.astore_n 3, 1) := by decide +kernel
theorem dX5_shareOf_6 : decode cX5_shareOf 6 = .ok (.iload_n 2, 1) := by decide +kernel
theorem dX5_shareOf_7 : decode cX5_shareOf 7 = .ok (.invokestatic 60, 3) := by decide +kernel
theorem dX5_shareOf_10 : decode cX5_shareOf 10 = .ok (.aload_n 3, 1) := by decide +kernel
theorem dX5_shareOf_11 : decode cX5_shareOf 11 = .ok (.getfield 64, 3) := by decide +kernel
theorem dX5_shareOf_14 : decode cX5_shareOf 14 = .ok (.iload_n 2, 1) := by decide +kernel
theorem dX5_shareOf_15 : decode cX5_shareOf 15 = .ok (.invokevirtual 68, 3) := by decide +kernel
theorem dX5_shareOf_18 : decode cX5_shareOf 18 = .ok (.istore 4, 2) := by decide +kernel
theorem dX5_shareOf_20 : decode cX5_shareOf 20 = .ok (.iload 4, 2) := by decide +kernel
theorem dX5_shareOf_22 : decode cX5_shareOf 22 = .ok (.iconst 1, 1) := by decide +kernel
theorem dX5_shareOf_23 : decode cX5_shareOf 23 = .ok (.if_icmp .ge 7, 3) := by decide +kernel
theorem dX5_shareOf_26 : decode cX5_shareOf 26 = .ok (.fconst 0, 1) := by decide +kernel
theorem dX5_shareOf_27 : decode cX5_shareOf 27 = .ok (.goto 16, 3) := by decide +kernel
theorem dX5_shareOf_30 : decode cX5_shareOf 30 = .ok (.aload_n 3, 1) := by decide +kernel
theorem dX5_shareOf_31 : decode cX5_shareOf 31 = .ok (.getfield 233, 3) := by decide +kernel
theorem dX5_shareOf_34 : decode cX5_shareOf 34 = .ok (.iload_n 2, 1) := by decide +kernel
theorem dX5_shareOf_35 : decode cX5_shareOf 35 = .ok (.invokevirtual 68, 3) := by decide +kernel
theorem dX5_shareOf_38 : decode cX5_shareOf 38 = .ok (.i2f, 1) := by decide +kernel
theorem dX5_shareOf_39 : decode cX5_shareOf 39 = .ok (.iload 4, 2) := by decide +kernel
theorem dX5_shareOf_41 : decode cX5_shareOf 41 = .ok (.i2f, 1) := by decide +kernel
theorem dX5_shareOf_42 : decode cX5_shareOf 42 = .ok (.fdiv, 1) := by decide +kernel
theorem dX5_shareOf_43 : decode cX5_shareOf 43 = .ok (.freturn, 1) := by decide +kernel
theorem dX5_meanStorage_0 : decode cX5_meanStorage 0 = .ok (.iconst 0, 1) := by decide +kernel
theorem dX5_meanStorage_1 : decode cX5_meanStorage 1 = .ok (.istore_n 1, 1) := by decide +kernel
theorem dX5_meanStorage_2 : decode cX5_meanStorage 2 = .ok (.iconst 0, 1) := by decide +kernel
theorem dX5_meanStorage_3 : decode cX5_meanStorage 3 = .ok (.istore_n 2, 1) := by decide +kernel
theorem dX5_meanStorage_4 : decode cX5_meanStorage 4 = .ok (.aload_n 0, 1) := by decide +kernel
theorem dX5_meanStorage_5 : decode cX5_meanStorage 5 = .ok (.getfield 17, 3) := by decide +kernel
theorem dX5_meanStorage_8 : decode cX5_meanStorage 8 = .ok (.astore_n 3, 1) := by decide +kernel
theorem dX5_meanStorage_9 : decode cX5_meanStorage 9 = .ok (.aload_n 3, 1) := by decide +kernel
theorem dX5_meanStorage_10 : decode cX5_meanStorage 10 = .ok (.arraylength, 1) := by decide +kernel
theorem dX5_meanStorage_11 : decode cX5_meanStorage 11 = .ok (.istore 4, 2) := by decide +kernel
theorem dX5_meanStorage_13 : decode cX5_meanStorage 13 = .ok (.iconst 0, 1) := by decide +kernel
theorem dX5_meanStorage_14 : decode cX5_meanStorage 14 = .ok (.istore 5, 2) := by decide +kernel
theorem dX5_meanStorage_16 : decode cX5_meanStorage 16 = .ok (.iload 5, 2) := by decide +kernel
theorem dX5_meanStorage_18 : decode cX5_meanStorage 18 = .ok (.iload 4, 2) := by decide +kernel
theorem dX5_meanStorage_20 : decode cX5_meanStorage 20 = .ok (.if_icmp .ge 35, 3) := by decide +kernel
theorem dX5_meanStorage_23 : decode cX5_meanStorage 23 = .ok (.aload_n 3, 1) := by decide +kernel
theorem dX5_meanStorage_24 : decode cX5_meanStorage 24 = .ok (.iload 5, 2) := by decide +kernel
theorem dX5_meanStorage_26 : decode cX5_meanStorage 26 = .ok (.aaload, 1) := by decide +kernel
theorem dX5_meanStorage_27 : decode cX5_meanStorage 27 = .ok (.astore 6, 2) := by decide +kernel
theorem dX5_meanStorage_29 : decode cX5_meanStorage 29 = .ok (.aload 6, 2) := by decide +kernel
theorem dX5_meanStorage_31 : decode cX5_meanStorage 31 = .ok (.ifnull 18, 3) := by decide +kernel
theorem dX5_meanStorage_34 : decode cX5_meanStorage 34 = .ok (.iload_n 1, 1) := by decide +kernel
theorem dX5_meanStorage_35 : decode cX5_meanStorage 35 = .ok (.aload 6, 2) := by decide +kernel
theorem dX5_meanStorage_37 : decode cX5_meanStorage 37 = .ok (.getfield 103, 3) := by decide +kernel
theorem dX5_meanStorage_40 : decode cX5_meanStorage 40 = .ok (.iconst 0, 1) := by decide +kernel
theorem dX5_meanStorage_41 : decode cX5_meanStorage 41 = .ok (.invokevirtual 68, 3) := by decide +kernel
theorem dX5_meanStorage_44 : decode cX5_meanStorage 44 = .ok (.iadd, 1) := by decide +kernel
theorem dX5_meanStorage_45 : decode cX5_meanStorage 45 = .ok (.istore_n 1, 1) := by decide +kernel
theorem dX5_meanStorage_46 : decode cX5_meanStorage 46 = .ok (.iinc 2 1, 3) := by decide +kernel
theorem dX5_meanStorage_49 : decode cX5_meanStorage 49 = .ok (.iinc 5 1, 3) := by decide +kernel
theorem dX5_meanStorage_52 : decode cX5_meanStorage 52 = .ok (.goto (-36), 3) := by decide +kernel
theorem dX5_meanStorage_55 : decode cX5_meanStorage 55 = .ok (.iload_n 2, 1) := by decide +kernel
theorem dX5_meanStorage_56 : decode cX5_meanStorage 56 = .ok (.iconst 1, 1) := by decide +kernel
theorem dX5_meanStorage_57 : decode cX5_meanStorage 57 = .ok (.if_icmp .ge 14, 3) := by decide +kernel
theorem dX5_meanStorage_60 : decode cX5_meanStorage 60 = .ok (.new 270, 3) := by decide +kernel
theorem dX5_meanStorage_63 : decode cX5_meanStorage 63 = .ok (.dup, 1) := by decide +kernel
theorem dX5_meanStorage_64 : decode cX5_meanStorage 64 = .ok (.ldc_w 272, 3) := by decide +kernel
theorem dX5_meanStorage_67 : decode cX5_meanStorage 67 = .ok (.invokespecial 274, 3) := by decide +kernel
theorem dX5_meanStorage_70 : decode cX5_meanStorage 70 = .ok (.athrow, 1) := by decide +kernel
theorem dX5_meanStorage_71 : decode cX5_meanStorage 71 = .ok (.iload_n 1, 1) := by decide +kernel
theorem dX5_meanStorage_72 : decode cX5_meanStorage 72 = .ok (.i2d, 1) := by decide +kernel
theorem dX5_meanStorage_73 : decode cX5_meanStorage 73 = .ok (.iload_n 2, 1) := by decide +kernel
theorem dX5_meanStorage_74 : decode cX5_meanStorage 74 = .ok (.i2d, 1) := by decide +kernel
theorem dX5_meanStorage_75 : decode cX5_meanStorage 75 = .ok (.ddiv, 1) := by decide +kernel
theorem dX5_meanStorage_76 : decode cX5_meanStorage 76 = .ok (.dreturn, 1) := by decide +kernel
theorem dX5_requireRange_0 : decode cX5_requireRange 0 = .ok (.iload_n 0, 1) := by decide +kernel
theorem dX5_requireRange_1 : decode cX5_requireRange 1 = .ok (.iload_n 1, 1) := by decide +kernel
theorem dX5_requireRange_2 : decode cX5_requireRange 2 = .ok (.if_icmp .lt 8, 3) := by decide +kernel
theorem dX5_requireRange_5 : decode cX5_requireRange 5 = .ok (.iload_n 0, 1) := by decide +kernel
theorem dX5_requireRange_6 : decode cX5_requireRange 6 = .ok (.iload_n 2, 1) := by decide +kernel
theorem dX5_requireRange_7 : decode cX5_requireRange 7 = .ok (.if_icmp .le 14, 3) := by decide +kernel
theorem dX5_requireRange_10 : decode cX5_requireRange 10 = .ok (.new 116, 3) := by decide +kernel
theorem dX5_requireRange_13 : decode cX5_requireRange 13 = .ok (.dup, 1) := by decide +kernel
theorem dX5_requireRange_14 : decode cX5_requireRange 14 = .ok (.ldc_w 275, 3) := by decide +kernel
theorem dX5_requireRange_17 : decode cX5_requireRange 17 = .ok (.invokespecial 120, 3) := by decide +kernel
theorem dX5_requireRange_20 : decode cX5_requireRange 20 = .ok (.athrow, 1) := by decide +kernel
theorem dX5_requireRange_21 : decode cX5_requireRange 21 = .ok (.return_, 1) := by decide +kernel
theorem dX5_requireMeasure_0 : decode cX5_requireMeasure 0 = .ok (.iload_n 0, 1) := by decide +kernel
theorem dX5_requireMeasure_1 : decode cX5_requireMeasure 1 = .ok (.ifCond .lt 8, 3) := by decide +kernel
theorem dX5_requireMeasure_4 : decode cX5_requireMeasure 4 = .ok (.iload_n 0, 1) := by decide +kernel
theorem dX5_requireMeasure_5 : decode cX5_requireMeasure 5 = .ok (.iconst 3, 1) := by decide +kernel
theorem dX5_requireMeasure_6 : decode cX5_requireMeasure 6 = .ok (.if_icmp .lt 14, 3) := by decide +kernel
theorem dX5_requireMeasure_9 : decode cX5_requireMeasure 9 = .ok (.new 277, 3) := by decide +kernel
theorem dX5_requireMeasure_12 : decode cX5_requireMeasure 12 = .ok (.dup, 1) := by decide +kernel
theorem dX5_requireMeasure_13 : decode cX5_requireMeasure 13 = .ok (.ldc_w 279, 3) := by decide +kernel
theorem dX5_requireMeasure_16 : decode cX5_requireMeasure 16 = .ok (.invokespecial 281, 3) := by decide +kernel
theorem dX5_requireMeasure_19 : decode cX5_requireMeasure 19 = .ok (.athrow, 1) := by decide +kernel
theorem dX5_requireMeasure_20 : decode cX5_requireMeasure 20 = .ok (.return_, 1) := by decide +kernel
theorem dX5_requirePlan_0 : decode cX5_requirePlan 0 = .ok (.iload_n 0, 1) := by decide +kernel
theorem dX5_requirePlan_1 : decode cX5_requirePlan 1 = .ok (.bipush 7, 2) := by decide +kernel
theorem dX5_requirePlan_3 : decode cX5_requirePlan 3 = .ok (.if_icmp .ne 14, 3) := by decide +kernel
theorem dX5_requirePlan_6 : decode cX5_requirePlan 6 = .ok (.new 282, 3) := by decide +kernel
theorem dX5_requirePlan_9 : decode cX5_requirePlan 9 = .ok (.dup, 1) := by decide +kernel
theorem dX5_requirePlan_10 : decode cX5_requirePlan 10 = .ok (.ldc_w 284, 3) := by decide +kernel
theorem dX5_requirePlan_13 : decode cX5_requirePlan 13 = .ok (.invokespecial 286, 3) := by decide +kernel
theorem dX5_requirePlan_16 : decode cX5_requirePlan 16 = .ok (.athrow, 1) := by decide +kernel
theorem dX5_requirePlan_17 : decode cX5_requirePlan 17 = .ok (.return_, 1) := by decide +kernel
theorem dX5_shardOrNull_0 : decode cX5_shardOrNull 0 = .ok (.iload_n 1, 1) := by decide +kernel
theorem dX5_shardOrNull_1 : decode cX5_shardOrNull 1 = .ok (.ifCond .lt 12, 3) := by decide +kernel
theorem dX5_shardOrNull_4 : decode cX5_shardOrNull 4 = .ok (.iload_n 1, 1) := by decide +kernel
theorem dX5_shardOrNull_5 : decode cX5_shardOrNull 5 = .ok (.aload_n 0, 1) := by decide +kernel
theorem dX5_shardOrNull_6 : decode cX5_shardOrNull 6 = .ok (.getfield 11, 3) := by decide +kernel
theorem dX5_shardOrNull_9 : decode cX5_shardOrNull 9 = .ok (.arraylength, 1) := by decide +kernel
theorem dX5_shardOrNull_10 : decode cX5_shardOrNull 10 = .ok (.if_icmp .lt 7, 3) := by decide +kernel
theorem dX5_shardOrNull_13 : decode cX5_shardOrNull 13 = .ok (.aconst_null, 1) := by decide +kernel
theorem dX5_shardOrNull_14 : decode cX5_shardOrNull 14 = .ok (.goto 9, 3) := by decide +kernel
theorem dX5_shardOrNull_17 : decode cX5_shardOrNull 17 = .ok (.aload_n 0, 1) := by decide +kernel
theorem dX5_shardOrNull_18 : decode cX5_shardOrNull 18 = .ok (.getfield 11, 3) := by decide +kernel
theorem dX5_shardOrNull_21 : decode cX5_shardOrNull 21 = .ok (.iload_n 1, 1) := by decide +kernel
theorem dX5_shardOrNull_22 : decode cX5_shardOrNull 22 = .ok (.aaload, 1) := by decide +kernel
theorem dX5_shardOrNull_23 : decode cX5_shardOrNull 23 = .ok (.areturn, 1) := by decide +kernel
theorem dX5_knownShard_0 : decode cX5_knownShard 0 = .ok (.aload_n 0, 1) := by decide +kernel
theorem dX5_knownShard_1 : decode cX5_knownShard 1 = .ok (.iload_n 1, 1) := by decide +kernel
theorem dX5_knownShard_2 : decode cX5_knownShard 2 = .ok (.invokevirtual 287, 3) := by decide +kernel
theorem dX5_knownShard_5 : decode cX5_knownShard 5 = .ok (.astore_n 2, 1) := by decide +kernel
theorem dX5_knownShard_6 : decode cX5_knownShard 6 = .ok (.aload_n 2, 1) := by decide +kernel
theorem dX5_knownShard_7 : decode cX5_knownShard 7 = .ok (.ifnonnull 14, 3) := by decide +kernel
theorem dX5_knownShard_10 : decode cX5_knownShard 10 = .ok (.new 277, 3) := by decide +kernel
theorem dX5_knownShard_13 : decode cX5_knownShard 13 = .ok (.dup, 1) := by decide +kernel
theorem dX5_knownShard_14 : decode cX5_knownShard 14 = .ok (.ldc_w 290, 3) := by decide +kernel
theorem dX5_knownShard_17 : decode cX5_knownShard 17 = .ok (.invokespecial 281, 3) := by decide +kernel
theorem dX5_knownShard_20 : decode cX5_knownShard 20 = .ok (.athrow, 1) := by decide +kernel
theorem dX5_knownShard_21 : decode cX5_knownShard 21 = .ok (.aload_n 2, 1) := by decide +kernel
theorem dX5_knownShard_22 : decode cX5_knownShard 22 = .ok (.areturn, 1) := by decide +kernel
theorem dX5_knownTenant_0 : decode cX5_knownTenant 0 = .ok (.iload_n 1, 1) := by decide +kernel
theorem dX5_knownTenant_1 : decode cX5_knownTenant 1 = .ok (.ifCond .lt 12, 3) := by decide +kernel
theorem dX5_knownTenant_4 : decode cX5_knownTenant 4 = .ok (.iload_n 1, 1) := by decide +kernel
theorem dX5_knownTenant_5 : decode cX5_knownTenant 5 = .ok (.aload_n 0, 1) := by decide +kernel
theorem dX5_knownTenant_6 : decode cX5_knownTenant 6 = .ok (.getfield 17, 3) := by decide +kernel
theorem dX5_knownTenant_9 : decode cX5_knownTenant 9 = .ok (.arraylength, 1) := by decide +kernel
theorem dX5_knownTenant_10 : decode cX5_knownTenant 10 = .ok (.if_icmp .lt 7, 3) := by decide +kernel
theorem dX5_knownTenant_13 : decode cX5_knownTenant 13 = .ok (.aconst_null, 1) := by decide +kernel
theorem dX5_knownTenant_14 : decode cX5_knownTenant 14 = .ok (.goto 9, 3) := by decide +kernel
theorem dX5_knownTenant_17 : decode cX5_knownTenant 17 = .ok (.aload_n 0, 1) := by decide +kernel
theorem dX5_knownTenant_18 : decode cX5_knownTenant 18 = .ok (.getfield 17, 3) := by decide +kernel
theorem dX5_knownTenant_21 : decode cX5_knownTenant 21 = .ok (.iload_n 1, 1) := by decide +kernel
theorem dX5_knownTenant_22 : decode cX5_knownTenant 22 = .ok (.aaload, 1) := by decide +kernel
theorem dX5_knownTenant_23 : decode cX5_knownTenant 23 = .ok (.astore_n 2, 1) := by decide +kernel
theorem dX5_knownTenant_24 : decode cX5_knownTenant 24 = .ok (.aload_n 2, 1) := by decide +kernel
theorem dX5_knownTenant_25 : decode cX5_knownTenant 25 = .ok (.ifnonnull 14, 3) := by decide +kernel
theorem dX5_knownTenant_28 : decode cX5_knownTenant 28 = .ok (.new 277, 3) := by decide +kernel
theorem dX5_knownTenant_31 : decode cX5_knownTenant 31 = .ok (.dup, 1) := by decide +kernel
theorem dX5_knownTenant_32 : decode cX5_knownTenant 32 = .ok (.ldc_w 292, 3) := by decide +kernel
theorem dX5_knownTenant_35 : decode cX5_knownTenant 35 = .ok (.invokespecial 281, 3) := by decide +kernel
theorem dX5_knownTenant_38 : decode cX5_knownTenant 38 = .ok (.athrow, 1) := by decide +kernel
theorem dX5_knownTenant_39 : decode cX5_knownTenant 39 = .ok (.aload_n 2, 1) := by decide +kernel
theorem dX5_knownTenant_40 : decode cX5_knownTenant 40 = .ok (.areturn, 1) := by decide +kernel
theorem dX5_movingTenant_0 : decode cX5_movingTenant 0 = .ok (.aload_n 0, 1) := by decide +kernel
theorem dX5_movingTenant_1 : decode cX5_movingTenant 1 = .ok (.iload_n 1, 1) := by decide +kernel
theorem dX5_movingTenant_2 : decode cX5_movingTenant 2 = .ok (.invokevirtual 99, 3) := by decide +kernel
theorem dX5_movingTenant_5 : decode cX5_movingTenant 5 = .ok (.astore_n 2, 1) := by decide +kernel
theorem dX5_movingTenant_6 : decode cX5_movingTenant 6 = .ok (.aload_n 2, 1) := by decide +kernel
theorem dX5_movingTenant_7 : decode cX5_movingTenant 7 = .ok (.getfield 146, 3) := by decide +kernel
theorem dX5_movingTenant_10 : decode cX5_movingTenant 10 = .ok (.invokevirtual 155, 3) := by decide +kernel
theorem dX5_movingTenant_13 : decode cX5_movingTenant 13 = .ok (.ifCond .ne 13, 3) := by decide +kernel
theorem dX5_movingTenant_16 : decode cX5_movingTenant 16 = .ok (.new 282, 3) := by decide +kernel
theorem dX5_movingTenant_19 : decode cX5_movingTenant 19 = .ok (.dup, 1) := by decide +kernel
theorem dX5_movingTenant_20 : decode cX5_movingTenant 20 = .ok (.ldc 172, 2) := by decide +kernel
theorem dX5_movingTenant_22 : decode cX5_movingTenant 22 = .ok (.invokespecial 286, 3) := by decide +kernel
theorem dX5_movingTenant_25 : decode cX5_movingTenant 25 = .ok (.athrow, 1) := by decide +kernel
theorem dX5_movingTenant_26 : decode cX5_movingTenant 26 = .ok (.aload_n 2, 1) := by decide +kernel
theorem dX5_movingTenant_27 : decode cX5_movingTenant 27 = .ok (.areturn, 1) := by decide +kernel
theorem dX5_hourOfDay_0 : decode cX5_hourOfDay 0 = .ok (.iload_n 0, 1) := by decide +kernel
theorem dX5_hourOfDay_1 : decode cX5_hourOfDay 1 = .ok (.bipush 24, 2) := by decide +kernel
theorem dX5_hourOfDay_3 : decode cX5_hourOfDay 3 = .ok (.invokestatic 294, 3) := by decide +kernel
theorem dX5_hourOfDay_6 : decode cX5_hourOfDay 6 = .ok (.ireturn, 1) := by decide +kernel
theorem dX5_countUse_0 : decode cX5_countUse 0 = .ok (.iconst 0, 1) := by decide +kernel
theorem dX5_countUse_1 : decode cX5_countUse 1 = .ok (.istore_n 3, 1) := by decide +kernel
theorem dX5_countUse_2 : decode cX5_countUse 2 = .ok (.iload_n 3, 1) := by decide +kernel
theorem dX5_countUse_3 : decode cX5_countUse 3 = .ok (.aload_n 0, 1) := by decide +kernel
theorem dX5_countUse_4 : decode cX5_countUse 4 = .ok (.getfield 11, 3) := by decide +kernel
theorem dX5_countUse_7 : decode cX5_countUse 7 = .ok (.arraylength, 1) := by decide +kernel
theorem dX5_countUse_8 : decode cX5_countUse 8 = .ok (.if_icmp .ge 71, 3) := by decide +kernel
theorem dX5_countUse_11 : decode cX5_countUse 11 = .ok (.aload_n 0, 1) := by decide +kernel
theorem dX5_countUse_12 : decode cX5_countUse 12 = .ok (.getfield 11, 3) := by decide +kernel
theorem dX5_countUse_15 : decode cX5_countUse 15 = .ok (.iload_n 3, 1) := by decide +kernel
theorem dX5_countUse_16 : decode cX5_countUse 16 = .ok (.aaload, 1) := by decide +kernel
theorem dX5_countUse_17 : decode cX5_countUse 17 = .ok (.astore 4, 2) := by decide +kernel
theorem dX5_countUse_19 : decode cX5_countUse 19 = .ok (.aload 4, 2) := by decide +kernel
theorem dX5_countUse_21 : decode cX5_countUse 21 = .ok (.ifnull 52, 3) := by decide +kernel
theorem dX5_countUse_24 : decode cX5_countUse 24 = .ok (.iconst 0, 1) := by decide +kernel
theorem dX5_countUse_25 : decode cX5_countUse 25 = .ok (.istore 5, 2) := by decide +kernel
theorem dX5_countUse_27 : decode cX5_countUse 27 = .ok (.iload 5, 2) := by decide +kernel
theorem dX5_countUse_29 : decode cX5_countUse 29 = .ok (.iconst 3, 1) := by decide +kernel
theorem dX5_countUse_30 : decode cX5_countUse 30 = .ok (.if_icmp .ge 43, 3) := by decide +kernel
theorem dX5_countUse_33 : decode cX5_countUse 33 = .ok (.aload 4, 2) := by decide +kernel
theorem dX5_countUse_35 : decode cX5_countUse 35 = .ok (.getfield 233, 3) := by decide +kernel
theorem dX5_countUse_38 : decode cX5_countUse 38 = .ok (.iload 5, 2) := by decide +kernel
theorem dX5_countUse_40 : decode cX5_countUse 40 = .ok (.invokevirtual 68, 3) := by decide +kernel
theorem dX5_countUse_43 : decode cX5_countUse 43 = .ok (.istore 6, 2) := by decide +kernel
theorem dX5_countUse_45 : decode cX5_countUse 45 = .ok (.aload 4, 2) := by decide +kernel
theorem dX5_countUse_47 : decode cX5_countUse 47 = .ok (.getfield 233, 3) := by decide +kernel
theorem dX5_countUse_50 : decode cX5_countUse 50 = .ok (.iload 5, 2) := by decide +kernel
theorem dX5_countUse_52 : decode cX5_countUse 52 = .ok (.iload 6, 2) := by decide +kernel
theorem dX5_countUse_54 : decode cX5_countUse 54 = .ok (.iload_n 2, 1) := by decide +kernel
theorem dX5_countUse_55 : decode cX5_countUse 55 = .ok (.aload_n 1, 1) := by decide +kernel
theorem dX5_countUse_56 : decode cX5_countUse 56 = .ok (.iload_n 3, 1) := by decide +kernel
theorem dX5_countUse_57 : decode cX5_countUse 57 = .ok (.iload 5, 2) := by decide +kernel
theorem dX5_countUse_59 : decode cX5_countUse 59 = .ok (.invokevirtual 236, 3) := by decide +kernel
theorem dX5_countUse_62 : decode cX5_countUse 62 = .ok (.imul, 1) := by decide +kernel
theorem dX5_countUse_63 : decode cX5_countUse 63 = .ok (.iadd, 1) := by decide +kernel
theorem dX5_countUse_64 : decode cX5_countUse 64 = .ok (.invokevirtual 74, 3) := by decide +kernel
theorem dX5_countUse_67 : decode cX5_countUse 67 = .ok (.iinc 5 1, 3) := by decide +kernel
theorem dX5_countUse_70 : decode cX5_countUse 70 = .ok (.goto (-43), 3) := by decide +kernel
theorem dX5_countUse_73 : decode cX5_countUse 73 = .ok (.iinc 3 1, 3) := by decide +kernel
theorem dX5_countUse_76 : decode cX5_countUse 76 = .ok (.goto (-74), 3) := by decide +kernel
theorem dX5_countUse_79 : decode cX5_countUse 79 = .ok (.return_, 1) := by decide +kernel
theorem dX5_isBarred_0 : decode cX5_isBarred 0 = .ok (.iconst 0, 1) := by decide +kernel
theorem dX5_isBarred_1 : decode cX5_isBarred 1 = .ok (.istore_n 3, 1) := by decide +kernel
theorem dX5_isBarred_2 : decode cX5_isBarred 2 = .ok (.iload_n 3, 1) := by decide +kernel
theorem dX5_isBarred_3 : decode cX5_isBarred 3 = .ok (.aload_n 0, 1) := by decide +kernel
theorem dX5_isBarred_4 : decode cX5_isBarred 4 = .ok (.getfield 17, 3) := by decide +kernel
theorem dX5_isBarred_7 : decode cX5_isBarred 7 = .ok (.arraylength, 1) := by decide +kernel
theorem dX5_isBarred_8 : decode cX5_isBarred 8 = .ok (.if_icmp .ge 41, 3) := by decide +kernel
theorem dX5_isBarred_11 : decode cX5_isBarred 11 = .ok (.aload_n 0, 1) := by decide +kernel
theorem dX5_isBarred_12 : decode cX5_isBarred 12 = .ok (.getfield 17, 3) := by decide +kernel
theorem dX5_isBarred_15 : decode cX5_isBarred 15 = .ok (.iload_n 3, 1) := by decide +kernel
theorem dX5_isBarred_16 : decode cX5_isBarred 16 = .ok (.aaload, 1) := by decide +kernel
theorem dX5_isBarred_17 : decode cX5_isBarred 17 = .ok (.astore 4, 2) := by decide +kernel
theorem dX5_isBarred_19 : decode cX5_isBarred 19 = .ok (.aload 4, 2) := by decide +kernel
theorem dX5_isBarred_21 : decode cX5_isBarred 21 = .ok (.ifnull 22, 3) := by decide +kernel
theorem dX5_isBarred_24 : decode cX5_isBarred 24 = .ok (.aload_n 2, 1) := by decide +kernel
theorem dX5_isBarred_25 : decode cX5_isBarred 25 = .ok (.iload_n 3, 1) := by decide +kernel
theorem dX5_isBarred_26 : decode cX5_isBarred 26 = .ok (.invokevirtual 121, 3) := by decide +kernel
theorem dX5_isBarred_29 : decode cX5_isBarred 29 = .ok (.ifCond .eq 14, 3) := by decide +kernel
theorem dX5_isBarred_32 : decode cX5_isBarred 32 = .ok (.aload 4, 2) := by decide +kernel
theorem dX5_isBarred_34 : decode cX5_isBarred 34 = .ok (.iload_n 1, 1) := by decide +kernel
theorem dX5_isBarred_35 : decode cX5_isBarred 35 = .ok (.invokevirtual 299, 3) := by decide +kernel
theorem dX5_isBarred_38 : decode cX5_isBarred 38 = .ok (.ifCond .eq 5, 3) := by decide +kernel
theorem dX5_isBarred_41 : decode cX5_isBarred 41 = .ok (.iconst 1, 1) := by decide +kernel
theorem dX5_isBarred_42 : decode cX5_isBarred 42 = .ok (.ireturn, 1) := by decide +kernel
theorem dX5_isBarred_43 : decode cX5_isBarred 43 = .ok (.iinc 3 1, 3) := by decide +kernel
theorem dX5_isBarred_46 : decode cX5_isBarred 46 = .ok (.goto (-44), 3) := by decide +kernel
theorem dX5_isBarred_49 : decode cX5_isBarred 49 = .ok (.iconst 0, 1) := by decide +kernel
theorem dX5_isBarred_50 : decode cX5_isBarred 50 = .ok (.ireturn, 1) := by decide +kernel
theorem dX5_canGoBack_0 : decode cX5_canGoBack 0 = .ok (.aload_n 0, 1) := by decide +kernel
theorem dX5_canGoBack_1 : decode cX5_canGoBack 1 = .ok (.aload_n 1, 1) := by decide +kernel
theorem dX5_canGoBack_2 : decode cX5_canGoBack 2 = .ok (.getfield 146, 3) := by decide +kernel
theorem dX5_canGoBack_5 : decode cX5_canGoBack 5 = .ok (.getfield 302, 3) := by decide +kernel
theorem dX5_canGoBack_8 : decode cX5_canGoBack 8 = .ok (.invokevirtual 287, 3) := by decide +kernel
theorem dX5_canGoBack_11 : decode cX5_canGoBack 11 = .ok (.astore_n 2, 1) := by decide +kernel
theorem dX5_canGoBack_12 : decode cX5_canGoBack 12 = .ok (.aload_n 2, 1) := by decide +kernel
theorem dX5_canGoBack_13 : decode cX5_canGoBack 13 = .ok (.ifnull 40, 3) := by decide +kernel
theorem dX5_canGoBack_16 : decode cX5_canGoBack 16 = .ok (.aload_n 2, 1) := by decide +kernel
theorem dX5_canGoBack_17 : decode cX5_canGoBack 17 = .ok (.getfield 56, 3) := by decide +kernel
theorem dX5_canGoBack_20 : decode cX5_canGoBack 20 = .ok (.ifCond .eq 33, 3) := by decide +kernel
theorem dX5_canGoBack_23 : decode cX5_canGoBack 23 = .ok (.aload_n 0, 1) := by decide +kernel
theorem dX5_canGoBack_24 : decode cX5_canGoBack 24 = .ok (.aload_n 1, 1) := by decide +kernel
theorem dX5_canGoBack_25 : decode cX5_canGoBack 25 = .ok (.getfield 146, 3) := by decide +kernel
theorem dX5_canGoBack_28 : decode cX5_canGoBack 28 = .ok (.getfield 302, 3) := by decide +kernel
theorem dX5_canGoBack_31 : decode cX5_canGoBack 31 = .ok (.aload_n 1, 1) := by decide +kernel
theorem dX5_canGoBack_32 : decode cX5_canGoBack 32 = .ok (.invokevirtual 159, 3) := by decide +kernel
theorem dX5_canGoBack_35 : decode cX5_canGoBack 35 = .ok (.ifCond .ne 18, 3) := by decide +kernel
theorem dX5_canGoBack_38 : decode cX5_canGoBack 38 = .ok (.aload_n 2, 1) := by decide +kernel
theorem dX5_canGoBack_39 : decode cX5_canGoBack 39 = .ok (.aload_n 1, 1) := by decide +kernel
theorem dX5_canGoBack_40 : decode cX5_canGoBack 40 = .ok (.getfield 103, 3) := by decide +kernel
theorem dX5_canGoBack_43 : decode cX5_canGoBack 43 = .ok (.invokevirtual 305, 3) := by decide +kernel
theorem dX5_canGoBack_46 : decode cX5_canGoBack 46 = .ok (.ifCond .eq 7, 3) := by decide +kernel
theorem dX5_canGoBack_49 : decode cX5_canGoBack 49 = .ok (.iconst 1, 1) := by decide +kernel
theorem dX5_canGoBack_50 : decode cX5_canGoBack 50 = .ok (.goto 4, 3) := by decide +kernel
theorem dX5_canGoBack_53 : decode cX5_canGoBack 53 = .ok (.iconst 0, 1) := by decide +kernel
theorem dX5_canGoBack_54 : decode cX5_canGoBack 54 = .ok (.ireturn, 1) := by decide +kernel
theorem dX5_goBack_0 : decode cX5_goBack 0 = .ok (.aload_n 0, 1) := by decide +kernel
theorem dX5_goBack_1 : decode cX5_goBack 1 = .ok (.aload_n 1, 1) := by decide +kernel
theorem dX5_goBack_2 : decode cX5_goBack 2 = .ok (.iconst (-1), 1) := by decide +kernel
theorem dX5_goBack_3 : decode cX5_goBack 3 = .ok (.invokevirtual 95, 3) := by decide +kernel
theorem dX5_goBack_6 : decode cX5_goBack 6 = .ok (.aload_n 1, 1) := by decide +kernel
theorem dX5_goBack_7 : decode cX5_goBack 7 = .ok (.getfield 146, 3) := by decide +kernel
theorem dX5_goBack_10 : decode cX5_goBack 10 = .ok (.invokevirtual 309, 3) := by decide +kernel
theorem dX5_goBack_13 : decode cX5_goBack 13 = .ok (.aload_n 1, 1) := by decide +kernel
theorem dX5_goBack_14 : decode cX5_goBack 14 = .ok (.aload_n 1, 1) := by decide +kernel
theorem dX5_goBack_15 : decode cX5_goBack 15 = .ok (.getfield 146, 3) := by decide +kernel
theorem dX5_goBack_18 : decode cX5_goBack 18 = .ok (.getfield 213, 3) := by decide +kernel
theorem dX5_goBack_21 : decode cX5_goBack 21 = .ok (.putfield 149, 3) := by decide +kernel
theorem dX5_goBack_24 : decode cX5_goBack 24 = .ok (.aload_n 0, 1) := by decide +kernel
theorem dX5_goBack_25 : decode cX5_goBack 25 = .ok (.aload_n 1, 1) := by decide +kernel
theorem dX5_goBack_26 : decode cX5_goBack 26 = .ok (.iconst 1, 1) := by decide +kernel
theorem dX5_goBack_27 : decode cX5_goBack 27 = .ok (.invokevirtual 95, 3) := by decide +kernel
theorem dX5_goBack_30 : decode cX5_goBack 30 = .ok (.aload_n 0, 1) := by decide +kernel
theorem dX5_goBack_31 : decode cX5_goBack 31 = .ok (.dup, 1) := by decide +kernel
theorem dX5_goBack_32 : decode cX5_goBack 32 = .ok (.getfield 263, 3) := by decide +kernel
theorem dX5_goBack_35 : decode cX5_goBack 35 = .ok (.iconst 1, 1) := by decide +kernel
theorem dX5_goBack_36 : decode cX5_goBack 36 = .ok (.iadd, 1) := by decide +kernel
theorem dX5_goBack_37 : decode cX5_goBack 37 = .ok (.putfield 263, 3) := by decide +kernel
theorem dX5_goBack_40 : decode cX5_goBack 40 = .ok (.return_, 1) := by decide +kernel
theorem dX5_noteHoursOver_0 : decode cX5_noteHoursOver 0 = .ok (.aload_n 0, 1) := by decide +kernel
theorem dX5_noteHoursOver_1 : decode cX5_noteHoursOver 1 = .ok (.getfield 17, 3) := by decide +kernel
theorem dX5_noteHoursOver_4 : decode cX5_noteHoursOver 4 = .ok (.astore_n 1, 1) := by decide +kernel
theorem dX5_noteHoursOver_5 : decode cX5_noteHoursOver 5 = .ok (.aload_n 1, 1) := by decide +kernel
theorem dX5_noteHoursOver_6 : decode cX5_noteHoursOver 6 = .ok (.arraylength, 1) := by decide +kernel
theorem dX5_noteHoursOver_7 : decode cX5_noteHoursOver 7 = .ok (.istore_n 2, 1) := by decide +kernel
theorem dX5_noteHoursOver_8 : decode cX5_noteHoursOver 8 = .ok (.iconst 0, 1) := by decide +kernel
theorem dX5_noteHoursOver_9 : decode cX5_noteHoursOver 9 = .ok (.istore_n 3, 1) := by decide +kernel
theorem dX5_noteHoursOver_10 : decode cX5_noteHoursOver 10 = .ok (.iload_n 3, 1) := by decide +kernel
theorem dX5_noteHoursOver_11 : decode cX5_noteHoursOver 11 = .ok (.iload_n 2, 1) := by decide +kernel
theorem dX5_noteHoursOver_12 : decode cX5_noteHoursOver 12 = .ok (.if_icmp .ge 53, 3) := by decide +kernel
theorem dX5_noteHoursOver_15 : decode cX5_noteHoursOver 15 = .ok (.aload_n 1, 1) := by decide +kernel
theorem dX5_noteHoursOver_16 : decode cX5_noteHoursOver 16 = .ok (.iload_n 3, 1) := by decide +kernel
theorem dX5_noteHoursOver_17 : decode cX5_noteHoursOver 17 = .ok (.aaload, 1) := by decide +kernel
theorem dX5_noteHoursOver_18 : decode cX5_noteHoursOver 18 = .ok (.astore 4, 2) := by decide +kernel
theorem dX5_noteHoursOver_20 : decode cX5_noteHoursOver 20 = .ok (.aload 4, 2) := by decide +kernel
theorem dX5_noteHoursOver_22 : decode cX5_noteHoursOver 22 = .ok (.ifnull 37, 3) := by decide +kernel
theorem dX5_noteHoursOver_25 : decode cX5_noteHoursOver 25 = .ok (.aload_n 0, 1) := by decide +kernel
theorem dX5_noteHoursOver_26 : decode cX5_noteHoursOver 26 = .ok (.aload 4, 2) := by decide +kernel
theorem dX5_noteHoursOver_28 : decode cX5_noteHoursOver 28 = .ok (.getfield 149, 3) := by decide +kernel
theorem dX5_noteHoursOver_31 : decode cX5_noteHoursOver 31 = .ok (.invokevirtual 287, 3) := by decide +kernel
theorem dX5_noteHoursOver_34 : decode cX5_noteHoursOver 34 = .ok (.astore 5, 2) := by decide +kernel
theorem dX5_noteHoursOver_36 : decode cX5_noteHoursOver 36 = .ok (.aload 5, 2) := by decide +kernel
theorem dX5_noteHoursOver_38 : decode cX5_noteHoursOver 38 = .ok (.ifnull 21, 3) := by decide +kernel
theorem dX5_noteHoursOver_41 : decode cX5_noteHoursOver 41 = .ok (.aload 5, 2) := by decide +kernel
theorem dX5_noteHoursOver_43 : decode cX5_noteHoursOver 43 = .ok (.invokevirtual 240, 3) := by decide +kernel
theorem dX5_noteHoursOver_46 : decode cX5_noteHoursOver 46 = .ok (.ifCond .eq 13, 3) := by decide +kernel
theorem dX5_noteHoursOver_49 : decode cX5_noteHoursOver 49 = .ok (.aload_n 0, 1) := by decide +kernel
theorem dX5_noteHoursOver_50 : decode cX5_noteHoursOver 50 = .ok (.dup, 1) := by decide +kernel
theorem dX5_noteHoursOver_51 : decode cX5_noteHoursOver 51 = .ok (.getfield 266, 3) := by decide +kernel
theorem dX5_noteHoursOver_54 : decode cX5_noteHoursOver 54 = .ok (.lconst 1, 1) := by decide +kernel
theorem dX5_noteHoursOver_55 : decode cX5_noteHoursOver 55 = .ok (.ladd, 1) := by decide +kernel
theorem dX5_noteHoursOver_56 : decode cX5_noteHoursOver 56 = .ok (.putfield 266, 3) := by decide +kernel
theorem dX5_noteHoursOver_59 : decode cX5_noteHoursOver 59 = .ok (.iinc 3 1, 3) := by decide +kernel
theorem dX5_noteHoursOver_62 : decode cX5_noteHoursOver 62 = .ok (.goto (-52), 3) := by decide +kernel
theorem dX5_noteHoursOver_65 : decode cX5_noteHoursOver 65 = .ok (.return_, 1) := by decide +kernel
theorem dX5_goOnWithMoves_0 : decode cX5_goOnWithMoves 0 = .ok (.iconst 0, 1) := by decide +kernel
theorem dX5_goOnWithMoves_1 : decode cX5_goOnWithMoves 1 = .ok (.istore_n 1, 1) := by decide +kernel
theorem dX5_goOnWithMoves_2 : decode cX5_goOnWithMoves 2 = .ok (.aload_n 0, 1) := by decide +kernel
theorem dX5_goOnWithMoves_3 : decode cX5_goOnWithMoves 3 = .ok (.getfield 17, 3) := by decide +kernel
theorem dX5_goOnWithMoves_6 : decode cX5_goOnWithMoves 6 = .ok (.astore_n 2, 1) := by decide +kernel
theorem dX5_goOnWithMoves_7 : decode cX5_goOnWithMoves 7 = .ok (.aload_n 2, 1) := by decide +kernel
theorem dX5_goOnWithMoves_8 : decode cX5_goOnWithMoves 8 = .ok (.arraylength, 1) := by decide +kernel
theorem dX5_goOnWithMoves_9 : decode cX5_goOnWithMoves 9 = .ok (.istore_n 3, 1) := by decide +kernel
theorem dX5_goOnWithMoves_10 : decode cX5_goOnWithMoves 10 = .ok (.iconst 0, 1) := by decide +kernel
theorem dX5_goOnWithMoves_11 : decode cX5_goOnWithMoves 11 = .ok (.istore 4, 2) := by decide +kernel
theorem dX5_goOnWithMoves_13 : decode cX5_goOnWithMoves 13 = .ok (.iload 4, 2) := by decide +kernel
theorem dX5_goOnWithMoves_15 : decode cX5_goOnWithMoves 15 = .ok (.iload_n 3, 1) := by decide +kernel
theorem dX5_goOnWithMoves_16 : decode cX5_goOnWithMoves 16 = .ok (.if_icmp .ge 43, 3) := by decide +kernel
theorem dX5_goOnWithMoves_19 : decode cX5_goOnWithMoves 19 = .ok (.aload_n 2, 1) := by decide +kernel
theorem dX5_goOnWithMoves_20 : decode cX5_goOnWithMoves 20 = .ok (.iload 4, 2) := by decide +kernel
theorem dX5_goOnWithMoves_22 : decode cX5_goOnWithMoves 22 = .ok (.aaload, 1) := by decide +kernel
theorem dX5_goOnWithMoves_23 : decode cX5_goOnWithMoves 23 = .ok (.astore 5, 2) := by decide +kernel
theorem dX5_goOnWithMoves_25 : decode cX5_goOnWithMoves 25 = .ok (.aload 5, 2) := by decide +kernel
theorem dX5_goOnWithMoves_27 : decode cX5_goOnWithMoves 27 = .ok (.ifnull 26, 3) := by decide +kernel
theorem dX5_goOnWithMoves_30 : decode cX5_goOnWithMoves 30 = .ok (.aload 5, 2) := by decide +kernel
theorem dX5_goOnWithMoves_32 : decode cX5_goOnWithMoves 32 = .ok (.getfield 146, 3) := by decide +kernel
theorem dX5_goOnWithMoves_35 : decode cX5_goOnWithMoves 35 = .ok (.invokevirtual 155, 3) := by decide +kernel
theorem dX5_goOnWithMoves_38 : decode cX5_goOnWithMoves 38 = .ok (.ifCond .eq 15, 3) := by decide +kernel
theorem dX5_goOnWithMoves_41 : decode cX5_goOnWithMoves 41 = .ok (.aload_n 0, 1) := by decide +kernel
theorem dX5_goOnWithMoves_42 : decode cX5_goOnWithMoves 42 = .ok (.aload 5, 2) := by decide +kernel
theorem dX5_goOnWithMoves_44 : decode cX5_goOnWithMoves 44 = .ok (.invokevirtual 312, 3) := by decide +kernel
theorem dX5_goOnWithMoves_47 : decode cX5_goOnWithMoves 47 = .ok (.ifCond .eq 6, 3) := by decide +kernel
theorem dX5_goOnWithMoves_50 : decode cX5_goOnWithMoves 50 = .ok (.iinc 1 1, 3) := by decide +kernel
theorem dX5_goOnWithMoves_53 : decode cX5_goOnWithMoves 53 = .ok (.iinc 4 1, 3) := by decide +kernel
theorem dX5_goOnWithMoves_56 : decode cX5_goOnWithMoves 56 = .ok (.goto (-43), 3) := by decide +kernel
theorem dX5_goOnWithMoves_59 : decode cX5_goOnWithMoves 59 = .ok (.aload_n 0, 1) := by decide +kernel
theorem dX5_goOnWithMoves_60 : decode cX5_goOnWithMoves 60 = .ok (.dup, 1) := by decide +kernel
theorem dX5_goOnWithMoves_61 : decode cX5_goOnWithMoves 61 = .ok (.getfield 263, 3) := by decide +kernel
theorem dX5_goOnWithMoves_64 : decode cX5_goOnWithMoves 64 = .ok (.iload_n 1, 1) := by decide +kernel
theorem dX5_goOnWithMoves_65 : decode cX5_goOnWithMoves 65 = .ok (.iadd, 1) := by decide +kernel
theorem dX5_goOnWithMoves_66 : decode cX5_goOnWithMoves 66 = .ok (.putfield 263, 3) := by decide +kernel
theorem dX5_goOnWithMoves_69 : decode cX5_goOnWithMoves 69 = .ok (.iload_n 1, 1) := by decide +kernel
theorem dX5_goOnWithMoves_70 : decode cX5_goOnWithMoves 70 = .ok (.ireturn, 1) := by decide +kernel
theorem dX5_goOn_0 : decode cX5_goOn 0 = .ok (.aload_n 0, 1) := by decide +kernel
theorem dX5_goOn_1 : decode cX5_goOn 1 = .ok (.aload_n 1, 1) := by decide +kernel
theorem dX5_goOn_2 : decode cX5_goOn 2 = .ok (.iconst (-1), 1) := by decide +kernel
theorem dX5_goOn_3 : decode cX5_goOn 3 = .ok (.invokevirtual 95, 3) := by decide +kernel
theorem dX5_goOn_6 : decode cX5_goOn 6 = .ok (.aload_n 1, 1) := by decide +kernel
theorem dX5_goOn_7 : decode cX5_goOn 7 = .ok (.getfield 146, 3) := by decide +kernel
theorem dX5_goOn_10 : decode cX5_goOn 10 = .ok (.aload_n 1, 1) := by decide +kernel
theorem dX5_goOn_11 : decode cX5_goOn 11 = .ok (.aload_n 0, 1) := by decide +kernel
theorem dX5_goOn_12 : decode cX5_goOn 12 = .ok (.getfield 197, 3) := by decide +kernel
theorem dX5_goOn_15 : decode cX5_goOn 15 = .ok (.invokestatic 200, 3) := by decide +kernel
theorem dX5_goOn_18 : decode cX5_goOn 18 = .ok (.invokevirtual 226, 3) := by decide +kernel
theorem dX5_goOn_21 : decode cX5_goOn 21 = .ok (.invokevirtual 229, 3) := by decide +kernel
theorem dX5_goOn_24 : decode cX5_goOn 24 = .ok (.istore_n 2, 1) := by decide +kernel
theorem dX5_goOn_25 : decode cX5_goOn 25 = .ok (.iload_n 2, 1) := by decide +kernel
theorem dX5_goOn_26 : decode cX5_goOn 26 = .ok (.ifCond .eq 14, 3) := by decide +kernel
theorem dX5_goOn_29 : decode cX5_goOn 29 = .ok (.aload_n 1, 1) := by decide +kernel
theorem dX5_goOn_30 : decode cX5_goOn 30 = .ok (.aload_n 1, 1) := by decide +kernel
theorem dX5_goOn_31 : decode cX5_goOn 31 = .ok (.getfield 146, 3) := by decide +kernel
theorem dX5_goOn_34 : decode cX5_goOn 34 = .ok (.getfield 213, 3) := by decide +kernel
theorem dX5_goOn_37 : decode cX5_goOn 37 = .ok (.putfield 149, 3) := by decide +kernel
theorem dX5_goOn_40 : decode cX5_goOn 40 = .ok (.aload_n 0, 1) := by decide +kernel
theorem dX5_goOn_41 : decode cX5_goOn 41 = .ok (.aload_n 1, 1) := by decide +kernel
theorem dX5_goOn_42 : decode cX5_goOn 42 = .ok (.iconst 1, 1) := by decide +kernel
theorem dX5_goOn_43 : decode cX5_goOn 43 = .ok (.invokevirtual 95, 3) := by decide +kernel
theorem dX5_goOn_46 : decode cX5_goOn 46 = .ok (.iload_n 2, 1) := by decide +kernel
theorem dX5_goOn_47 : decode cX5_goOn 47 = .ok (.ireturn, 1) := by decide +kernel
theorem dX5_growStorage_0 : decode cX5_growStorage 0 = .ok (.aload_n 0, 1) := by decide +kernel
theorem dX5_growStorage_1 : decode cX5_growStorage 1 = .ok (.getfield 17, 3) := by decide +kernel
theorem dX5_growStorage_4 : decode cX5_growStorage 4 = .ok (.astore_n 1, 1) := by decide +kernel
theorem dX5_growStorage_5 : decode cX5_growStorage 5 = .ok (.aload_n 1, 1) := by decide +kernel
theorem dX5_growStorage_6 : decode cX5_growStorage 6 = .ok (.arraylength, 1) := by decide +kernel
theorem dX5_growStorage_7 : decode cX5_growStorage 7 = .ok (.istore_n 2, 1) := by decide +kernel
theorem dX5_growStorage_8 : decode cX5_growStorage 8 = .ok (.iconst 0, 1) := by decide +kernel
theorem dX5_growStorage_9 : decode cX5_growStorage 9 = .ok (.istore_n 3, 1) := by decide +kernel
theorem dX5_growStorage_10 : decode cX5_growStorage 10 = .ok (.iload_n 3, 1) := by decide +kernel
theorem dX5_growStorage_11 : decode cX5_growStorage 11 = .ok (.iload_n 2, 1) := by decide +kernel
theorem dX5_growStorage_12 : decode cX5_growStorage 12 = .ok (.if_icmp .ge 67, 3) := by decide +kernel
theorem dX5_growStorage_15 : decode cX5_growStorage 15 = .ok (.aload_n 1, 1) := by decide +kernel
theorem dX5_growStorage_16 : decode cX5_growStorage 16 = .ok (.iload_n 3, 1) := by decide +kernel
theorem dX5_growStorage_17 : decode cX5_growStorage 17 = .ok (.aaload, 1) := by decide +kernel
theorem dX5_growStorage_18 : decode cX5_growStorage 18 = .ok (.astore 4, 2) := by decide +kernel
theorem dX5_growStorage_20 : decode cX5_growStorage 20 = .ok (.aload 4, 2) := by decide +kernel
theorem dX5_growStorage_22 : decode cX5_growStorage 22 = .ok (.ifnull 51, 3) := by decide +kernel
theorem dX5_growStorage_25 : decode cX5_growStorage 25 = .ok (.aload_n 0, 1) := by decide +kernel
theorem dX5_growStorage_26 : decode cX5_growStorage 26 = .ok (.aload 4, 2) := by decide +kernel
theorem dX5_growStorage_28 : decode cX5_growStorage 28 = .ok (.iconst (-1), 1) := by decide +kernel
theorem dX5_growStorage_29 : decode cX5_growStorage 29 = .ok (.invokevirtual 95, 3) := by decide +kernel
theorem dX5_growStorage_32 : decode cX5_growStorage 32 = .ok (.aload 4, 2) := by decide +kernel
theorem dX5_growStorage_34 : decode cX5_growStorage 34 = .ok (.getfield 103, 3) := by decide +kernel
theorem dX5_growStorage_37 : decode cX5_growStorage 37 = .ok (.iconst 0, 1) := by decide +kernel
theorem dX5_growStorage_38 : decode cX5_growStorage 38 = .ok (.invokevirtual 68, 3) := by decide +kernel
theorem dX5_growStorage_41 : decode cX5_growStorage 41 = .ok (.aload 4, 2) := by decide +kernel
theorem dX5_growStorage_43 : decode cX5_growStorage 43 = .ok (.getfield 314, 3) := by decide +kernel
theorem dX5_growStorage_46 : decode cX5_growStorage 46 = .ok (.iadd, 1) := by decide +kernel
theorem dX5_growStorage_47 : decode cX5_growStorage 47 = .ok (.istore 5, 2) := by decide +kernel
theorem dX5_growStorage_49 : decode cX5_growStorage 49 = .ok (.aload 4, 2) := by decide +kernel
theorem dX5_growStorage_51 : decode cX5_growStorage 51 = .ok (.getfield 103, 3) := by decide +kernel
theorem dX5_growStorage_54 : decode cX5_growStorage 54 = .ok (.iconst 0, 1) := by decide +kernel
theorem dX5_growStorage_55 : decode cX5_growStorage 55 = .ok (.iload 5, 2) := by decide +kernel
theorem dX5_growStorage_57 : decode cX5_growStorage 57 = .ok (.sipush 999, 3) := by decide +kernel
theorem dX5_growStorage_60 : decode cX5_growStorage 60 = .ok (.invokestatic 317, 3) := by decide +kernel
theorem dX5_growStorage_63 : decode cX5_growStorage 63 = .ok (.invokevirtual 74, 3) := by decide +kernel
theorem dX5_growStorage_66 : decode cX5_growStorage 66 = .ok (.aload_n 0, 1) := by decide +kernel
theorem dX5_growStorage_67 : decode cX5_growStorage 67 = .ok (.aload 4, 2) := by decide +kernel
theorem dX5_growStorage_69 : decode cX5_growStorage 69 = .ok (.iconst 1, 1) := by decide +kernel
theorem dX5_growStorage_70 : decode cX5_growStorage 70 = .ok (.invokevirtual 95, 3) := by decide +kernel
theorem dX5_growStorage_73 : decode cX5_growStorage 73 = .ok (.iinc 3 1, 3) := by decide +kernel
theorem dX5_growStorage_76 : decode cX5_growStorage 76 = .ok (.goto (-66), 3) := by decide +kernel
theorem dX5_growStorage_79 : decode cX5_growStorage 79 = .ok (.return_, 1) := by decide +kernel
theorem dX6_init_0 : decode cX6_init 0 = .ok (.aload_n 0, 1) := by decide +kernel
theorem dX6_init_1 : decode cX6_init 1 = .ok (.invokespecial 1, 3) := by decide +kernel
theorem dX6_init_4 : decode cX6_init 4 = .ok (.aload_n 0, 1) := by decide +kernel
theorem dX6_init_5 : decode cX6_init 5 = .ok (.bipush 12, 2) := by decide +kernel
theorem dX6_init_7 : decode cX6_init 7 = .ok (.newarray .int, 2) := by decide +kernel
theorem dX6_init_9 : decode cX6_init 9 = .ok (.putfield 7, 3) := by decide +kernel
theorem dX6_init_12 : decode cX6_init 12 = .ok (.aload_n 0, 1) := by decide +kernel
theorem dX6_init_13 : decode cX6_init 13 = .ok (.iconst 4, 1) := by decide +kernel
theorem dX6_init_14 : decode cX6_init 14 = .ok (.newarray .boolean, 2) := by decide +kernel
theorem dX6_init_16 : decode cX6_init 16 = .ok (.putfield 13, 3) := by decide +kernel
theorem dX6_init_19 : decode cX6_init 19 = .ok (.aload_n 0, 1) := by decide +kernel
theorem dX6_init_20 : decode cX6_init 20 = .ok (.bipush 18, 2) := by decide +kernel
theorem dX6_init_22 : decode cX6_init 22 = .ok (.newarray .int, 2) := by decide +kernel
theorem dX6_init_24 : decode cX6_init 24 = .ok (.putfield 17, 3) := by decide +kernel
theorem dX6_init_27 : decode cX6_init 27 = .ok (.aload_n 0, 1) := by decide +kernel
theorem dX6_init_28 : decode cX6_init 28 = .ok (.bipush 6, 2) := by decide +kernel
theorem dX6_init_30 : decode cX6_init 30 = .ok (.newarray .int, 2) := by decide +kernel
theorem dX6_init_32 : decode cX6_init 32 = .ok (.putfield 20, 3) := by decide +kernel
theorem dX6_init_35 : decode cX6_init 35 = .ok (.aload_n 0, 1) := by decide +kernel
theorem dX6_init_36 : decode cX6_init 36 = .ok (.bipush 6, 2) := by decide +kernel
theorem dX6_init_38 : decode cX6_init 38 = .ok (.newarray .int, 2) := by decide +kernel
theorem dX6_init_40 : decode cX6_init 40 = .ok (.putfield 23, 3) := by decide +kernel
theorem dX6_init_43 : decode cX6_init 43 = .ok (.aload_n 0, 1) := by decide +kernel
theorem dX6_init_44 : decode cX6_init 44 = .ok (.bipush 6, 2) := by decide +kernel
theorem dX6_init_46 : decode cX6_init 46 = .ok (.newarray .int, 2) := by decide +kernel
theorem dX6_init_48 : decode cX6_init 48 = .ok (.putfield 26, 3) := by decide +kernel
theorem dX6_init_51 : decode cX6_init 51 = .ok (.aload_n 0, 1) := by decide +kernel
theorem dX6_init_52 : decode cX6_init 52 = .ok (.bipush 6, 2) := by decide +kernel
theorem dX6_init_54 : decode cX6_init 54 = .ok (.newarray .int, 2) := by decide +kernel
theorem dX6_init_56 : decode cX6_init 56 = .ok (.putfield 29, 3) := by decide +kernel
theorem dX6_init_59 : decode cX6_init 59 = .ok (.aload_n 0, 1) := by decide +kernel
theorem dX6_init_60 : decode cX6_init 60 = .ok (.bipush 6, 2) := by decide +kernel
theorem dX6_init_62 : decode cX6_init 62 = .ok (.newarray .int, 2) := by decide +kernel
theorem dX6_init_64 : decode cX6_init 64 = .ok (.putfield 32, 3) := by decide +kernel
theorem dX6_init_67 : decode cX6_init 67 = .ok (.aload_n 0, 1) := by decide +kernel
theorem dX6_init_68 : decode cX6_init 68 = .ok (.bipush 6, 2) := by decide +kernel
theorem dX6_init_70 : decode cX6_init 70 = .ok (.newarray .int, 2) := by decide +kernel
theorem dX6_init_72 : decode cX6_init 72 = .ok (.putfield 35, 3) := by decide +kernel
theorem dX6_init_75 : decode cX6_init 75 = .ok (.aload_n 0, 1) := by decide +kernel
theorem dX6_init_76 : decode cX6_init 76 = .ok (.bipush 6, 2) := by decide +kernel
theorem dX6_init_78 : decode cX6_init 78 = .ok (.newarray .int, 2) := by decide +kernel
theorem dX6_init_80 : decode cX6_init 80 = .ok (.putfield 38, 3) := by decide +kernel
theorem dX6_init_83 : decode cX6_init 83 = .ok (.aload_n 0, 1) := by decide +kernel
theorem dX6_init_84 : decode cX6_init 84 = .ok (.bipush 6, 2) := by decide +kernel
theorem dX6_init_86 : decode cX6_init 86 = .ok (.newarray .int, 2) := by decide +kernel
theorem dX6_init_88 : decode cX6_init 88 = .ok (.putfield 41, 3) := by decide +kernel
theorem dX6_init_91 : decode cX6_init 91 = .ok (.aload_n 0, 1) := by decide +kernel
theorem dX6_init_92 : decode cX6_init 92 = .ok (.bipush 6, 2) := by decide +kernel
theorem dX6_init_94 : decode cX6_init 94 = .ok (.newarray .int, 2) := by decide +kernel
theorem dX6_init_96 : decode cX6_init 96 = .ok (.putfield 44, 3) := by decide +kernel
theorem dX6_init_99 : decode cX6_init 99 = .ok (.aload_n 0, 1) := by decide +kernel
theorem dX6_init_100 : decode cX6_init 100 = .ok (.bipush 6, 2) := by decide +kernel
theorem dX6_init_102 : decode cX6_init 102 = .ok (.newarray .int, 2) := by decide +kernel
theorem dX6_init_104 : decode cX6_init 104 = .ok (.putfield 47, 3) := by decide +kernel
theorem dX6_init_107 : decode cX6_init 107 = .ok (.aload_n 0, 1) := by decide +kernel
theorem dX6_init_108 : decode cX6_init 108 = .ok (.bipush 6, 2) := by decide +kernel
theorem dX6_init_110 : decode cX6_init 110 = .ok (.newarray .int, 2) := by decide +kernel
theorem dX6_init_112 : decode cX6_init 112 = .ok (.putfield 50, 3) := by decide +kernel
theorem dX6_init_115 : decode cX6_init 115 = .ok (.aload_n 0, 1) := by decide +kernel
theorem dX6_init_116 : decode cX6_init 116 = .ok (.bipush 6, 2) := by decide +kernel
theorem dX6_init_118 : decode cX6_init 118 = .ok (.newarray .int, 2) := by decide +kernel
theorem dX6_init_120 : decode cX6_init 120 = .ok (.putfield 53, 3) := by decide +kernel
theorem dX6_init_123 : decode cX6_init 123 = .ok (.return_, 1) := by decide +kernel
theorem dX6_thrown_0 : decode cX6_thrown 0 = .ok (.aload_n 0, 1) := by decide +kernel
theorem dX6_thrown_1 : decode cX6_thrown 1 = .ok (.getfield 56, 3) := by decide +kernel
theorem dX6_thrown_4 : decode cX6_thrown 4 = .ok (.ireturn, 1) := by decide +kernel
theorem dX6_fails_0 : decode cX6_fails 0 = .ok (.aload_n 0, 1) := by decide +kernel
theorem dX6_fails_1 : decode cX6_fails 1 = .ok (.iload_n 1, 1) := by decide +kernel
theorem dX6_fails_2 : decode cX6_fails 2 = .ok (.putfield 56, 3) := by decide +kernel
theorem dX6_fails_5 : decode cX6_fails 5 = .ok (.iload_n 1, 1) := by decide +kernel
theorem dX6_fails_6 : decode cX6_fails 6 = .ok (.ifCond .le 7, 3) := by decide +kernel
theorem dX6_fails_9 : decode cX6_fails 9 = .ok (.iconst 1, 1) := by decide +kernel
theorem dX6_fails_10 : decode cX6_fails 10 = .ok (.goto 4, 3) := by decide +kernel
theorem dX6_fails_13 : decode cX6_fails 13 = .ok (.iconst 0, 1) := by decide +kernel
theorem dX6_fails_14 : decode cX6_fails 14 = .ok (.ireturn, 1) := by decide +kernel
theorem dX6_tells_0 : decode cX6_tells 0 = .ok (.aload_n 0, 1) := by decide +kernel
theorem dX6_tells_1 : decode cX6_tells 1 = .ok (.iconst 0, 1) := by decide +kernel
theorem dX6_tells_2 : decode cX6_tells 2 = .ok (.putfield 56, 3) := by decide +kernel
theorem dX6_tells_5 : decode cX6_tells 5 = .ok (.iload_n 1, 1) := by decide +kernel
theorem dX6_tells_6 : decode cX6_tells 6 = .ok (.ireturn, 1) := by decide +kernel
theorem dX6_in_0 : decode cX6_in 0 = .ok (.iload_n 0, 1) := by decide +kernel
theorem dX6_in_1 : decode cX6_in 1 = .ok (.iload_n 1, 1) := by decide +kernel
theorem dX6_in_2 : decode cX6_in 2 = .ok (.if_icmp .lt 12, 3) := by decide +kernel
theorem dX6_in_5 : decode cX6_in 5 = .ok (.iload_n 0, 1) := by decide +kernel
theorem dX6_in_6 : decode cX6_in 6 = .ok (.iload_n 2, 1) := by decide +kernel
theorem dX6_in_7 : decode cX6_in 7 = .ok (.if_icmp .gt 7, 3) := by decide +kernel
theorem dX6_in_10 : decode cX6_in 10 = .ok (.iconst 1, 1) := by decide +kernel
theorem dX6_in_11 : decode cX6_in 11 = .ok (.goto 4, 3) := by decide +kernel
theorem dX6_in_14 : decode cX6_in 14 = .ok (.iconst 0, 1) := by decide +kernel
theorem dX6_in_15 : decode cX6_in 15 = .ok (.ireturn, 1) := by decide +kernel
theorem dX6_isNoShard_0 : decode cX6_isNoShard 0 = .ok (.iload_n 1, 1) := by decide +kernel
theorem dX6_isNoShard_1 : decode cX6_isNoShard 1 = .ok (.iconst 0, 1) := by decide +kernel
theorem dX6_isNoShard_2 : decode cX6_isNoShard 2 = .ok (.aload_n 0, 1) := by decide +kernel
theorem dX6_isNoShard_3 : decode cX6_isNoShard 3 = .ok (.getfield 60, 3) := by decide +kernel
theorem dX6_isNoShard_6 : decode cX6_isNoShard 6 = .ok (.iconst 1, 1) := by decide +kernel
theorem dX6_isNoShard_7 : decode cX6_isNoShard 7 = .ok (.isub, 1) := by decide +kernel
theorem dX6_isNoShard_8 : decode cX6_isNoShard 8 = .ok (.invokestatic 63, 3) := by decide +kernel
theorem dX6_isNoShard_11 : decode cX6_isNoShard 11 = .ok (.ifCond .ne 7, 3) := by decide +kernel
theorem dX6_isNoShard_14 : decode cX6_isNoShard 14 = .ok (.iconst 1, 1) := by decide +kernel
theorem dX6_isNoShard_15 : decode cX6_isNoShard 15 = .ok (.goto 4, 3) := by decide +kernel
theorem dX6_isNoShard_18 : decode cX6_isNoShard 18 = .ok (.iconst 0, 1) := by decide +kernel
theorem dX6_isNoShard_19 : decode cX6_isNoShard 19 = .ok (.ireturn, 1) := by decide +kernel
theorem dX6_isNoTenant_0 : decode cX6_isNoTenant 0 = .ok (.iload_n 1, 1) := by decide +kernel
theorem dX6_isNoTenant_1 : decode cX6_isNoTenant 1 = .ok (.iconst 0, 1) := by decide +kernel
theorem dX6_isNoTenant_2 : decode cX6_isNoTenant 2 = .ok (.aload_n 0, 1) := by decide +kernel
theorem dX6_isNoTenant_3 : decode cX6_isNoTenant 3 = .ok (.getfield 67, 3) := by decide +kernel
theorem dX6_isNoTenant_6 : decode cX6_isNoTenant 6 = .ok (.iconst 1, 1) := by decide +kernel
theorem dX6_isNoTenant_7 : decode cX6_isNoTenant 7 = .ok (.isub, 1) := by decide +kernel
theorem dX6_isNoTenant_8 : decode cX6_isNoTenant 8 = .ok (.invokestatic 63, 3) := by decide +kernel
theorem dX6_isNoTenant_11 : decode cX6_isNoTenant 11 = .ok (.ifCond .ne 7, 3) := by decide +kernel
theorem dX6_isNoTenant_14 : decode cX6_isNoTenant 14 = .ok (.iconst 1, 1) := by decide +kernel
theorem dX6_isNoTenant_15 : decode cX6_isNoTenant 15 = .ok (.goto 4, 3) := by decide +kernel
theorem dX6_isNoTenant_18 : decode cX6_isNoTenant 18 = .ok (.iconst 0, 1) := by decide +kernel
theorem dX6_isNoTenant_19 : decode cX6_isNoTenant 19 = .ok (.ireturn, 1) := by decide +kernel
theorem dX6_isMeasure_0 : decode cX6_isMeasure 0 = .ok (.iload_n 0, 1) := by decide +kernel
theorem dX6_isMeasure_1 : decode cX6_isMeasure 1 = .ok (.iconst 0, 1) := by decide +kernel
theorem dX6_isMeasure_2 : decode cX6_isMeasure 2 = .ok (.iconst 2, 1) := by decide +kernel
theorem dX6_isMeasure_3 : decode cX6_isMeasure 3 = .ok (.invokestatic 63, 3) := by decide +kernel
theorem dX6_isMeasure_6 : decode cX6_isMeasure 6 = .ok (.ireturn, 1) := by decide +kernel
theorem dX6_addShard_0 : decode cX6_addShard 0 = .ok (.aload_n 0, 1) := by decide +kernel
theorem dX6_addShard_1 : decode cX6_addShard 1 = .ok (.iload_n 1, 1) := by decide +kernel
theorem dX6_addShard_2 : decode cX6_addShard 2 = .ok (.iconst 1, 1) := by decide +kernel
theorem dX6_addShard_3 : decode cX6_addShard 3 = .ok (.sipush 300, 3) := by decide +kernel
theorem dX6_addShard_6 : decode cX6_addShard 6 = .ok (.invokestatic 63, 3) := by decide +kernel
theorem dX6_addShard_9 : decode cX6_addShard 9 = .ok (.ifCond .eq 25, 3) := by decide +kernel
theorem dX6_addShard_12 : decode cX6_addShard 12 = .ok (.iload_n 2, 1) := by decide +kernel
theorem dX6_addShard_13 : decode cX6_addShard 13 = .ok (.iconst 1, 1) := by decide +kernel
theorem dX6_addShard_14 : decode cX6_addShard 14 = .ok (.sipush 300, 3) := by decide +kernel
theorem dX6_addShard_17 : decode cX6_addShard 17 = .ok (.invokestatic 63, 3) := by decide +kernel
theorem dX6_addShard_20 : decode cX6_addShard 20 = .ok (.ifCond .eq 14, 3) := by decide +kernel
theorem dX6_addShard_23 : decode cX6_addShard 23 = .ok (.iload_n 3, 1) := by decide +kernel
theorem dX6_addShard_24 : decode cX6_addShard 24 = .ok (.iconst 1, 1) := by decide +kernel
theorem dX6_addShard_25 : decode cX6_addShard 25 = .ok (.sipush 300, 3) := by decide +kernel
theorem dX6_addShard_28 : decode cX6_addShard 28 = .ok (.invokestatic 63, 3) := by decide +kernel
theorem dX6_addShard_31 : decode cX6_addShard 31 = .ok (.ifCond .ne 7, 3) := by decide +kernel
theorem dX6_addShard_34 : decode cX6_addShard 34 = .ok (.iconst 1, 1) := by decide +kernel
theorem dX6_addShard_35 : decode cX6_addShard 35 = .ok (.goto 16, 3) := by decide +kernel
theorem dX6_addShard_38 : decode cX6_addShard 38 = .ok (.aload_n 0, 1) := by decide +kernel
theorem dX6_addShard_39 : decode cX6_addShard 39 = .ok (.getfield 60, 3) := by decide +kernel
theorem dX6_addShard_42 : decode cX6_addShard 42 = .ok (.iconst 4, 1) := by decide +kernel
theorem dX6_addShard_43 : decode cX6_addShard 43 = .ok (.if_icmp .ne 7, 3) := by decide +kernel
theorem dX6_addShard_46 : decode cX6_addShard 46 = .ok (.iconst 2, 1) := by decide +kernel
theorem dX6_addShard_47 : decode cX6_addShard 47 = .ok (.goto 4, 3) := by decide +kernel
theorem dX6_addShard_50 : decode cX6_addShard 50 = .ok (.iconst 0, 1) := by decide +kernel
theorem dX6_addShard_51 : decode cX6_addShard 51 = .ok (.invokevirtual 70, 3) := by decide +kernel
theorem dX6_addShard_54 : decode cX6_addShard 54 = .ok (.ifCond .eq 5, 3) := by decide +kernel
theorem dX6_addShard_57 : decode cX6_addShard 57 = .ok (.iconst 0, 1) := by decide +kernel
theorem dX6_addShard_58 : decode cX6_addShard 58 = .ok (.ireturn, 1) := by decide +kernel
theorem dX6_addShard_59 : decode cX6_addShard 59 = .ok (.aload_n 0, 1) := by decide +kernel
theorem dX6_addShard_60 : decode cX6_addShard 60 = .ok (.getfield 7, 3) := by decide +kernel
theorem dX6_addShard_63 : decode cX6_addShard 63 = .ok (.iconst 3, 1) := by decide +kernel
theorem dX6_addShard_64 : decode cX6_addShard 64 = .ok (.aload_n 0, 1) := by decide +kernel
theorem dX6_addShard_65 : decode cX6_addShard 65 = .ok (.getfield 60, 3) := by decide +kernel
theorem dX6_addShard_68 : decode cX6_addShard 68 = .ok (.imul, 1) := by decide +kernel
theorem dX6_addShard_69 : decode cX6_addShard 69 = .ok (.iload_n 1, 1) := by decide +kernel
theorem dX6_addShard_70 : decode cX6_addShard 70 = .ok (.iastore, 1) := by decide +kernel
theorem dX6_addShard_71 : decode cX6_addShard 71 = .ok (.aload_n 0, 1) := by decide +kernel
theorem dX6_addShard_72 : decode cX6_addShard 72 = .ok (.getfield 7, 3) := by decide +kernel
theorem dX6_addShard_75 : decode cX6_addShard 75 = .ok (.iconst 3, 1) := by decide +kernel
theorem dX6_addShard_76 : decode cX6_addShard 76 = .ok (.aload_n 0, 1) := by decide +kernel
theorem dX6_addShard_77 : decode cX6_addShard 77 = .ok (.getfield 60, 3) := by decide +kernel
theorem dX6_addShard_80 : decode cX6_addShard 80 = .ok (.imul, 1) := by decide +kernel
theorem dX6_addShard_81 : decode cX6_addShard 81 = .ok (.iconst 1, 1) := by decide +kernel
theorem dX6_addShard_82 : decode cX6_addShard 82 = .ok (.iadd, 1) := by decide +kernel
theorem dX6_addShard_83 : decode cX6_addShard 83 = .ok (.iload_n 2, 1) := by decide +kernel
theorem dX6_addShard_84 : decode cX6_addShard 84 = .ok (.iastore, 1) := by decide +kernel
theorem dX6_addShard_85 : decode cX6_addShard 85 = .ok (.aload_n 0, 1) := by decide +kernel
theorem dX6_addShard_86 : decode cX6_addShard 86 = .ok (.getfield 7, 3) := by decide +kernel
theorem dX6_addShard_89 : decode cX6_addShard 89 = .ok (.iconst 3, 1) := by decide +kernel
theorem dX6_addShard_90 : decode cX6_addShard 90 = .ok (.aload_n 0, 1) := by decide +kernel
theorem dX6_addShard_91 : decode cX6_addShard 91 = .ok (.getfield 60, 3) := by decide +kernel
theorem dX6_addShard_94 : decode cX6_addShard 94 = .ok (.imul, 1) := by decide +kernel
theorem dX6_addShard_95 : decode cX6_addShard 95 = .ok (.iconst 2, 1) := by decide +kernel
theorem dX6_addShard_96 : decode cX6_addShard 96 = .ok (.iadd, 1) := by decide +kernel
theorem dX6_addShard_97 : decode cX6_addShard 97 = .ok (.iload_n 3, 1) := by decide +kernel
theorem dX6_addShard_98 : decode cX6_addShard 98 = .ok (.iastore, 1) := by decide +kernel
theorem dX6_addShard_99 : decode cX6_addShard 99 = .ok (.aload_n 0, 1) := by decide +kernel
theorem dX6_addShard_100 : decode cX6_addShard 100 = .ok (.dup, 1) := by decide +kernel
theorem dX6_addShard_101 : decode cX6_addShard 101 = .ok (.getfield 60, 3) := by decide +kernel
theorem dX6_addShard_104 : decode cX6_addShard 104 = .ok (.iconst 1, 1) := by decide +kernel
theorem dX6_addShard_105 : decode cX6_addShard 105 = .ok (.iadd, 1) := by decide +kernel
theorem dX6_addShard_106 : decode cX6_addShard 106 = .ok (.putfield 60, 3) := by decide +kernel
theorem dX6_addShard_109 : decode cX6_addShard 109 = .ok (.aload_n 0, 1) := by decide +kernel
theorem dX6_addShard_110 : decode cX6_addShard 110 = .ok (.getfield 60, 3) := by decide +kernel
theorem dX6_addShard_113 : decode cX6_addShard 113 = .ok (.iconst 1, 1) := by decide +kernel
theorem dX6_addShard_114 : decode cX6_addShard 114 = .ok (.isub, 1) := by decide +kernel
theorem dX6_addShard_115 : decode cX6_addShard 115 = .ok (.ireturn, 1) := by decide +kernel
theorem dX6_setOpen_0 : decode cX6_setOpen 0 = .ok (.aload_n 0, 1) := by decide +kernel
theorem dX6_setOpen_1 : decode cX6_setOpen 1 = .ok (.aload_n 0, 1) := by decide +kernel
theorem dX6_setOpen_2 : decode cX6_setOpen 2 = .ok (.iload_n 1, 1) := by decide +kernel
theorem dX6_setOpen_3 : decode cX6_setOpen 3 = .ok (.invokevirtual 74, 3) := by decide +kernel
theorem dX6_setOpen_6 : decode cX6_setOpen 6 = .ok (.ifCond .eq 7, 3) := by decide +kernel
theorem dX6_setOpen_9 : decode cX6_setOpen 9 = .ok (.iconst 1, 1) := by decide +kernel
theorem dX6_setOpen_10 : decode cX6_setOpen 10 = .ok (.goto 4, 3) := by decide +kernel
theorem dX6_setOpen_13 : decode cX6_setOpen 13 = .ok (.iconst 0, 1) := by decide +kernel
theorem dX6_setOpen_14 : decode cX6_setOpen 14 = .ok (.invokevirtual 70, 3) := by decide +kernel
theorem dX6_setOpen_17 : decode cX6_setOpen 17 = .ok (.ifCond .eq 5, 3) := by decide +kernel
theorem dX6_setOpen_20 : decode cX6_setOpen 20 = .ok (.iconst 0, 1) := by decide +kernel
theorem dX6_setOpen_21 : decode cX6_setOpen 21 = .ok (.ireturn, 1) := by decide +kernel
theorem dX6_setOpen_22 : decode cX6_setOpen 22 = .ok (.aload_n 0, 1) := by decide +kernel
theorem dX6_setOpen_23 : decode cX6_setOpen 23 = .ok (.getfield 13, 3) := by decide +kernel
theorem dX6_setOpen_26 : decode cX6_setOpen 26 = .ok (.iload_n 1, 1) := by decide +kernel
theorem dX6_setOpen_27 : decode cX6_setOpen 27 = .ok (.baload, 1) := by decide +kernel
theorem dX6_setOpen_28 : decode cX6_setOpen 28 = .ok (.ifCond .ne 7, 3) := by decide +kernel
theorem dX6_setOpen_31 : decode cX6_setOpen 31 = .ok (.iconst 1, 1) := by decide +kernel
theorem dX6_setOpen_32 : decode cX6_setOpen 32 = .ok (.goto 4, 3) := by decide +kernel
theorem dX6_setOpen_35 : decode cX6_setOpen 35 = .ok (.iconst 0, 1) := by decide +kernel
theorem dX6_setOpen_36 : decode cX6_setOpen 36 = .ok (.istore_n 3, 1) := by decide +kernel
theorem dX6_setOpen_37 : decode cX6_setOpen 37 = .ok (.aload_n 0, 1) := by decide +kernel
theorem dX6_setOpen_38 : decode cX6_setOpen 38 = .ok (.getfield 13, 3) := by decide +kernel
theorem dX6_setOpen_41 : decode cX6_setOpen 41 = .ok (.iload_n 1, 1) := by decide +kernel
theorem dX6_setOpen_42 : decode cX6_setOpen 42 = .ok (.iload_n 2, 1) := by decide +kernel
theorem dX6_setOpen_43 : decode cX6_setOpen 43 = .ok (.ifCond .ne 7, 3) := by decide +kernel
theorem dX6_setOpen_46 : decode cX6_setOpen 46 = .ok (.iconst 1, 1) := by decide +kernel
theorem dX6_setOpen_47 : decode cX6_setOpen 47 = .ok (.goto 4, 3) := by decide +kernel
theorem dX6_setOpen_50 : decode cX6_setOpen 50 = .ok (.iconst 0, 1) := by decide +kernel
theorem dX6_setOpen_51 : decode cX6_setOpen 51 = .ok (.bastore, 1) := by decide +kernel
theorem dX6_setOpen_52 : decode cX6_setOpen 52 = .ok (.iload_n 3, 1) := by decide +kernel
theorem dX6_setOpen_53 : decode cX6_setOpen 53 = .ok (.ireturn, 1) := by decide +kernel
theorem dX6_setLimit_0 : decode cX6_setLimit 0 = .ok (.aload_n 0, 1) := by decide +kernel
theorem dX6_setLimit_1 : decode cX6_setLimit 1 = .ok (.aload_n 0, 1) := by decide +kernel
theorem dX6_setLimit_2 : decode cX6_setLimit 2 = .ok (.iload_n 1, 1) := by decide +kernel
theorem dX6_setLimit_3 : decode cX6_setLimit 3 = .ok (.invokevirtual 74, 3) := by decide +kernel
theorem dX6_setLimit_6 : decode cX6_setLimit 6 = .ok (.ifCond .ne 10, 3) := by decide +kernel
theorem dX6_setLimit_9 : decode cX6_setLimit 9 = .ok (.iload_n 2, 1) := by decide +kernel
theorem dX6_setLimit_10 : decode cX6_setLimit 10 = .ok (.invokestatic 77, 3) := by decide +kernel
theorem dX6_setLimit_13 : decode cX6_setLimit 13 = .ok (.ifCond .ne 7, 3) := by decide +kernel
theorem dX6_setLimit_16 : decode cX6_setLimit 16 = .ok (.iconst 1, 1) := by decide +kernel
theorem dX6_setLimit_17 : decode cX6_setLimit 17 = .ok (.goto 19, 3) := by decide +kernel
theorem dX6_setLimit_20 : decode cX6_setLimit 20 = .ok (.iload_n 3, 1) := by decide +kernel
theorem dX6_setLimit_21 : decode cX6_setLimit 21 = .ok (.iconst 1, 1) := by decide +kernel
theorem dX6_setLimit_22 : decode cX6_setLimit 22 = .ok (.sipush 300, 3) := by decide +kernel
theorem dX6_setLimit_25 : decode cX6_setLimit 25 = .ok (.invokestatic 63, 3) := by decide +kernel
theorem dX6_setLimit_28 : decode cX6_setLimit 28 = .ok (.ifCond .eq 7, 3) := by decide +kernel
theorem dX6_setLimit_31 : decode cX6_setLimit 31 = .ok (.iconst 0, 1) := by decide +kernel
theorem dX6_setLimit_32 : decode cX6_setLimit 32 = .ok (.goto 4, 3) := by decide +kernel
theorem dX6_setLimit_35 : decode cX6_setLimit 35 = .ok (.iconst 2, 1) := by decide +kernel
theorem dX6_setLimit_36 : decode cX6_setLimit 36 = .ok (.invokevirtual 70, 3) := by decide +kernel
theorem dX6_setLimit_39 : decode cX6_setLimit 39 = .ok (.ifCond .eq 5, 3) := by decide +kernel
theorem dX6_setLimit_42 : decode cX6_setLimit 42 = .ok (.iconst 0, 1) := by decide +kernel
theorem dX6_setLimit_43 : decode cX6_setLimit 43 = .ok (.ireturn, 1) := by decide +kernel
theorem dX6_setLimit_44 : decode cX6_setLimit 44 = .ok (.aload_n 0, 1) := by decide +kernel
theorem dX6_setLimit_45 : decode cX6_setLimit 45 = .ok (.getfield 7, 3) := by decide +kernel
theorem dX6_setLimit_48 : decode cX6_setLimit 48 = .ok (.iconst 3, 1) := by decide +kernel
theorem dX6_setLimit_49 : decode cX6_setLimit 49 = .ok (.iload_n 1, 1) := by decide +kernel
theorem dX6_setLimit_50 : decode cX6_setLimit 50 = .ok (.imul, 1) := by decide +kernel
theorem dX6_setLimit_51 : decode cX6_setLimit 51 = .ok (.iload_n 2, 1) := by decide +kernel
theorem dX6_setLimit_52 : decode cX6_setLimit 52 = .ok (.iadd, 1) := by decide +kernel
theorem dX6_setLimit_53 : decode cX6_setLimit 53 = .ok (.iaload, 1) := by decide +kernel
theorem dX6_setLimit_54 : decode cX6_setLimit 54 = .ok (.istore 4, 2) := by decide +kernel
theorem dX6_setLimit_56 : decode cX6_setLimit 56 = .ok (.aload_n 0, 1) := by decide +kernel
theorem dX6_setLimit_57 : decode cX6_setLimit 57 = .ok (.getfield 7, 3) := by decide +kernel
theorem dX6_setLimit_60 : decode cX6_setLimit 60 = .ok (.iconst 3, 1) := by decide +kernel
theorem dX6_setLimit_61 : decode cX6_setLimit 61 = .ok (.iload_n 1, 1) := by decide +kernel
theorem dX6_setLimit_62 : decode cX6_setLimit 62 = .ok (.imul, 1) := by decide +kernel
theorem dX6_setLimit_63 : decode cX6_setLimit 63 = .ok (.iload_n 2, 1) := by decide +kernel
theorem dX6_setLimit_64 : decode cX6_setLimit 64 = .ok (.iadd, 1) := by decide +kernel
theorem dX6_setLimit_65 : decode cX6_setLimit 65 = .ok (.iload_n 3, 1) := by decide +kernel
theorem dX6_setLimit_66 : decode cX6_setLimit 66 = .ok (.iastore, 1) := by decide +kernel
theorem dX6_setLimit_67 : decode cX6_setLimit 67 = .ok (.iload 4, 2) := by decide +kernel
theorem dX6_setLimit_69 : decode cX6_setLimit 69 = .ok (.ireturn, 1) := by decide +kernel
theorem dX6_isComing_0 : decode cX6_isComing 0 = .ok (.aload_n 0, 1) := by decide +kernel
theorem dX6_isComing_1 : decode cX6_isComing 1 = .ok (.getfield 32, 3) := by decide +kernel
theorem dX6_isComing_4 : decode cX6_isComing 4 = .ok (.iload_n 1, 1) := by decide +kernel
theorem dX6_isComing_5 : decode cX6_isComing 5 = .ok (.iaload, 1) := by decide +kernel
theorem dX6_isComing_6 : decode cX6_isComing 6 = .ok (.iconst 1, 1) := by decide +kernel
theorem dX6_isComing_7 : decode cX6_isComing 7 = .ok (.if_icmp .eq 13, 3) := by decide +kernel
theorem dX6_isComing_10 : decode cX6_isComing 10 = .ok (.aload_n 0, 1) := by decide +kernel
theorem dX6_isComing_11 : decode cX6_isComing 11 = .ok (.getfield 32, 3) := by decide +kernel
theorem dX6_isComing_14 : decode cX6_isComing 14 = .ok (.iload_n 1, 1) := by decide +kernel
theorem dX6_isComing_15 : decode cX6_isComing 15 = .ok (.iaload, 1) := by decide +kernel
theorem dX6_isComing_16 : decode cX6_isComing 16 = .ok (.iconst 2, 1) := by decide +kernel
theorem dX6_isComing_17 : decode cX6_isComing 17 = .ok (.if_icmp .ne 17, 3) := by decide +kernel
theorem dX6_isComing_20 : decode cX6_isComing 20 = .ok (.aload_n 0, 1) := by decide +kernel
theorem dX6_isComing_21 : decode cX6_isComing 21 = .ok (.getfield 38, 3) := by decide +kernel
theorem dX6_isComing_24 : decode cX6_isComing 24 = .ok (.iload_n 1, 1) := by decide +kernel
theorem dX6_isComing_25 : decode cX6_isComing 25 = .ok (.iaload, 1) := by decide +kernel
theorem dX6_isComing_26 : decode cX6_isComing 26 = .ok (.iload_n 2, 1) := by decide +kernel
theorem dX6_isComing_27 : decode cX6_isComing 27 = .ok (.if_icmp .ne 7, 3) := by decide +kernel
theorem dX6_isComing_30 : decode cX6_isComing 30 = .ok (.iconst 1, 1) := by decide +kernel
theorem dX6_isComing_31 : decode cX6_isComing 31 = .ok (.goto 4, 3) := by decide +kernel
theorem dX6_isComing_34 : decode cX6_isComing 34 = .ok (.iconst 0, 1) := by decide +kernel
theorem dX6_isComing_35 : decode cX6_isComing 35 = .ok (.ireturn, 1) := by decide +kernel
theorem dX6_isPresent_0 : decode cX6_isPresent 0 = .ok (.aload_n 0, 1) := by decide +kernel
theorem dX6_isPresent_1 : decode cX6_isPresent 1 = .ok (.getfield 29, 3) := by decide +kernel
theorem dX6_isPresent_4 : decode cX6_isPresent 4 = .ok (.iload_n 1, 1) := by decide +kernel
theorem dX6_isPresent_5 : decode cX6_isPresent 5 = .ok (.iaload, 1) := by decide +kernel
theorem dX6_isPresent_6 : decode cX6_isPresent 6 = .ok (.iload_n 2, 1) := by decide +kernel
theorem dX6_isPresent_7 : decode cX6_isPresent 7 = .ok (.if_icmp .eq 12, 3) := by decide +kernel
theorem dX6_isPresent_10 : decode cX6_isPresent 10 = .ok (.aload_n 0, 1) := by decide +kernel
theorem dX6_isPresent_11 : decode cX6_isPresent 11 = .ok (.iload_n 1, 1) := by decide +kernel
theorem dX6_isPresent_12 : decode cX6_isPresent 12 = .ok (.iload_n 2, 1) := by decide +kernel
theorem dX6_isPresent_13 : decode cX6_isPresent 13 = .ok (.invokevirtual 80, 3) := by decide +kernel
theorem dX6_isPresent_16 : decode cX6_isPresent 16 = .ok (.ifCond .eq 7, 3) := by decide +kernel
theorem dX6_isPresent_19 : decode cX6_isPresent 19 = .ok (.iconst 1, 1) := by decide +kernel
theorem dX6_isPresent_20 : decode cX6_isPresent 20 = .ok (.goto 4, 3) := by decide +kernel
theorem dX6_isPresent_23 : decode cX6_isPresent 23 = .ok (.iconst 0, 1) := by decide +kernel
theorem dX6_isPresent_24 : decode cX6_isPresent 24 = .ok (.ireturn, 1) := by decide +kernel
theorem dX6_use_0 : decode cX6_use 0 = .ok (.iconst 0, 1) := by decide +kernel
theorem dX6_use_1 : decode cX6_use 1 = .ok (.istore_n 3, 1) := by decide +kernel
theorem dX6_use_2 : decode cX6_use 2 = .ok (.iconst 0, 1) := by decide +kernel
theorem dX6_use_3 : decode cX6_use 3 = .ok (.istore 4, 2) := by decide +kernel
theorem dX6_use_5 : decode cX6_use 5 = .ok (.iload 4, 2) := by decide +kernel
theorem dX6_use_7 : decode cX6_use 7 = .ok (.aload_n 0, 1) := by decide +kernel
theorem dX6_use_8 : decode cX6_use 8 = .ok (.getfield 67, 3) := by decide +kernel
theorem dX6_use_11 : decode cX6_use 11 = .ok (.if_icmp .ge 63, 3) := by decide +kernel
theorem dX6_use_14 : decode cX6_use 14 = .ok (.iload_n 3, 1) := by decide +kernel
theorem dX6_use_15 : decode cX6_use 15 = .ok (.aload_n 0, 1) := by decide +kernel
theorem dX6_use_16 : decode cX6_use 16 = .ok (.iload 4, 2) := by decide +kernel
theorem dX6_use_18 : decode cX6_use 18 = .ok (.iload_n 1, 1) := by decide +kernel
theorem dX6_use_19 : decode cX6_use 19 = .ok (.invokevirtual 84, 3) := by decide +kernel
theorem dX6_use_22 : decode cX6_use 22 = .ok (.ifCond .ne 29, 3) := by decide +kernel
theorem dX6_use_25 : decode cX6_use 25 = .ok (.iload_n 2, 1) := by decide +kernel
theorem dX6_use_26 : decode cX6_use 26 = .ok (.ifCond .ne 39, 3) := by decide +kernel
theorem dX6_use_29 : decode cX6_use 29 = .ok (.aload_n 0, 1) := by decide +kernel
theorem dX6_use_30 : decode cX6_use 30 = .ok (.getfield 32, 3) := by decide +kernel
theorem dX6_use_33 : decode cX6_use 33 = .ok (.iload 4, 2) := by decide +kernel
theorem dX6_use_35 : decode cX6_use 35 = .ok (.iaload, 1) := by decide +kernel
theorem dX6_use_36 : decode cX6_use 36 = .ok (.iconst 3, 1) := by decide +kernel
theorem dX6_use_37 : decode cX6_use 37 = .ok (.if_icmp .ne 28, 3) := by decide +kernel
theorem dX6_use_40 : decode cX6_use 40 = .ok (.aload_n 0, 1) := by decide +kernel
theorem dX6_use_41 : decode cX6_use 41 = .ok (.getfield 35, 3) := by decide +kernel
theorem dX6_use_44 : decode cX6_use 44 = .ok (.iload 4, 2) := by decide +kernel
theorem dX6_use_46 : decode cX6_use 46 = .ok (.iaload, 1) := by decide +kernel
theorem dX6_use_47 : decode cX6_use 47 = .ok (.iload_n 1, 1) := by decide +kernel
theorem dX6_use_48 : decode cX6_use 48 = .ok (.if_icmp .ne 17, 3) := by decide +kernel
theorem dX6_use_51 : decode cX6_use 51 = .ok (.aload_n 0, 1) := by decide +kernel
theorem dX6_use_52 : decode cX6_use 52 = .ok (.getfield 17, 3) := by decide +kernel
theorem dX6_use_55 : decode cX6_use 55 = .ok (.iconst 3, 1) := by decide +kernel
theorem dX6_use_56 : decode cX6_use 56 = .ok (.iload 4, 2) := by decide +kernel
theorem dX6_use_58 : decode cX6_use 58 = .ok (.imul, 1) := by decide +kernel
theorem dX6_use_59 : decode cX6_use 59 = .ok (.iload_n 2, 1) := by decide +kernel
theorem dX6_use_60 : decode cX6_use 60 = .ok (.iadd, 1) := by decide +kernel
theorem dX6_use_61 : decode cX6_use 61 = .ok (.iaload, 1) := by decide +kernel
theorem dX6_use_62 : decode cX6_use 62 = .ok (.goto 4, 3) := by decide +kernel
theorem dX6_use_65 : decode cX6_use 65 = .ok (.iconst 0, 1) := by decide +kernel
theorem dX6_use_66 : decode cX6_use 66 = .ok (.iadd, 1) := by decide +kernel
theorem dX6_use_67 : decode cX6_use 67 = .ok (.istore_n 3, 1) := by decide +kernel
theorem dX6_use_68 : decode cX6_use 68 = .ok (.iinc 4 1, 3) := by decide +kernel
theorem dX6_use_71 : decode cX6_use 71 = .ok (.goto (-66), 3) := by decide +kernel
theorem dX6_use_74 : decode cX6_use 74 = .ok (.iload_n 3, 1) := by decide +kernel
theorem dX6_use_75 : decode cX6_use 75 = .ok (.ireturn, 1) := by decide +kernel
theorem dX6_isFull_0 : decode cX6_isFull 0 = .ok (.aload_n 0, 1) := by decide +kernel
theorem dX6_isFull_1 : decode cX6_isFull 1 = .ok (.iload_n 1, 1) := by decide +kernel
theorem dX6_isFull_2 : decode cX6_isFull 2 = .ok (.iload_n 2, 1) := by decide +kernel
theorem dX6_isFull_3 : decode cX6_isFull 3 = .ok (.invokevirtual 87, 3) := by decide +kernel
theorem dX6_isFull_6 : decode cX6_isFull 6 = .ok (.iload_n 3, 1) := by decide +kernel
theorem dX6_isFull_7 : decode cX6_isFull 7 = .ok (.iadd, 1) := by decide +kernel
theorem dX6_isFull_8 : decode cX6_isFull 8 = .ok (.aload_n 0, 1) := by decide +kernel
theorem dX6_isFull_9 : decode cX6_isFull 9 = .ok (.getfield 7, 3) := by decide +kernel
theorem dX6_isFull_12 : decode cX6_isFull 12 = .ok (.iconst 3, 1) := by decide +kernel
theorem dX6_isFull_13 : decode cX6_isFull 13 = .ok (.iload_n 1, 1) := by decide +kernel
theorem dX6_isFull_14 : decode cX6_isFull 14 = .ok (.imul, 1) := by decide +kernel
theorem dX6_isFull_15 : decode cX6_isFull 15 = .ok (.iload_n 2, 1) := by decide +kernel
theorem dX6_isFull_16 : decode cX6_isFull 16 = .ok (.iadd, 1) := by decide +kernel
theorem dX6_isFull_17 : decode cX6_isFull 17 = .ok (.iaload, 1) := by decide +kernel
theorem dX6_isFull_18 : decode cX6_isFull 18 = .ok (.if_icmp .le 7, 3) := by decide +kernel
theorem dX6_isFull_21 : decode cX6_isFull 21 = .ok (.iconst 1, 1) := by decide +kernel
theorem dX6_isFull_22 : decode cX6_isFull 22 = .ok (.goto 4, 3) := by decide +kernel
theorem dX6_isFull_25 : decode cX6_isFull 25 = .ok (.iconst 0, 1) := by decide +kernel
theorem dX6_isFull_26 : decode cX6_isFull 26 = .ok (.ireturn, 1) := by decide +kernel
theorem dX6_addTenant_0 : decode cX6_addTenant 0 = .ok (.aload_n 0, 1) := by decide +kernel
theorem dX6_addTenant_1 : decode cX6_addTenant 1 = .ok (.aload_n 0, 1) := by decide +kernel
theorem dX6_addTenant_2 : decode cX6_addTenant 2 = .ok (.iload_n 1, 1) := by decide +kernel
theorem dX6_addTenant_3 : decode cX6_addTenant 3 = .ok (.invokevirtual 74, 3) := by decide +kernel
theorem dX6_addTenant_6 : decode cX6_addTenant 6 = .ok (.ifCond .eq 7, 3) := by decide +kernel
theorem dX6_addTenant_9 : decode cX6_addTenant 9 = .ok (.iconst 1, 1) := by decide +kernel
theorem dX6_addTenant_10 : decode cX6_addTenant 10 = .ok (.goto 107, 3) := by decide +kernel
theorem dX6_addTenant_13 : decode cX6_addTenant 13 = .ok (.iload_n 2, 1) := by decide +kernel
theorem dX6_addTenant_14 : decode cX6_addTenant 14 = .ok (.iconst 1, 1) := by decide +kernel
theorem dX6_addTenant_15 : decode cX6_addTenant 15 = .ok (.bipush 100, 2) := by decide +kernel
theorem dX6_addTenant_17 : decode cX6_addTenant 17 = .ok (.invokestatic 63, 3) := by decide +kernel
theorem dX6_addTenant_20 : decode cX6_addTenant 20 = .ok (.ifCond .eq 35, 3) := by decide +kernel
theorem dX6_addTenant_23 : decode cX6_addTenant 23 = .ok (.iload_n 3, 1) := by decide +kernel
theorem dX6_addTenant_24 : decode cX6_addTenant 24 = .ok (.iconst 1, 1) := by decide +kernel
theorem dX6_addTenant_25 : decode cX6_addTenant 25 = .ok (.bipush 100, 2) := by decide +kernel
theorem dX6_addTenant_27 : decode cX6_addTenant 27 = .ok (.invokestatic 63, 3) := by decide +kernel
theorem dX6_addTenant_30 : decode cX6_addTenant 30 = .ok (.ifCond .eq 25, 3) := by decide +kernel
theorem dX6_addTenant_33 : decode cX6_addTenant 33 = .ok (.iload 4, 2) := by decide +kernel
theorem dX6_addTenant_35 : decode cX6_addTenant 35 = .ok (.iconst 1, 1) := by decide +kernel
theorem dX6_addTenant_36 : decode cX6_addTenant 36 = .ok (.bipush 100, 2) := by decide +kernel
theorem dX6_addTenant_38 : decode cX6_addTenant 38 = .ok (.invokestatic 63, 3) := by decide +kernel
theorem dX6_addTenant_41 : decode cX6_addTenant 41 = .ok (.ifCond .eq 14, 3) := by decide +kernel
theorem dX6_addTenant_44 : decode cX6_addTenant 44 = .ok (.iload 5, 2) := by decide +kernel
theorem dX6_addTenant_46 : decode cX6_addTenant 46 = .ok (.iconst 0, 1) := by decide +kernel
theorem dX6_addTenant_47 : decode cX6_addTenant 47 = .ok (.bipush 9, 2) := by decide +kernel
theorem dX6_addTenant_49 : decode cX6_addTenant 49 = .ok (.invokestatic 63, 3) := by decide +kernel
theorem dX6_addTenant_52 : decode cX6_addTenant 52 = .ok (.ifCond .ne 7, 3) := by decide +kernel
theorem dX6_addTenant_55 : decode cX6_addTenant 55 = .ok (.iconst 2, 1) := by decide +kernel
theorem dX6_addTenant_56 : decode cX6_addTenant 56 = .ok (.goto 61, 3) := by decide +kernel
theorem dX6_addTenant_59 : decode cX6_addTenant 59 = .ok (.aload_n 0, 1) := by decide +kernel
theorem dX6_addTenant_60 : decode cX6_addTenant 60 = .ok (.getfield 13, 3) := by decide +kernel
theorem dX6_addTenant_63 : decode cX6_addTenant 63 = .ok (.iload_n 1, 1) := by decide +kernel
theorem dX6_addTenant_64 : decode cX6_addTenant 64 = .ok (.baload, 1) := by decide +kernel
theorem dX6_addTenant_65 : decode cX6_addTenant 65 = .ok (.ifCond .ne 34, 3) := by decide +kernel
theorem dX6_addTenant_68 : decode cX6_addTenant 68 = .ok (.aload_n 0, 1) := by decide +kernel
theorem dX6_addTenant_69 : decode cX6_addTenant 69 = .ok (.iload_n 1, 1) := by decide +kernel
theorem dX6_addTenant_70 : decode cX6_addTenant 70 = .ok (.iconst 0, 1) := by decide +kernel
theorem dX6_addTenant_71 : decode cX6_addTenant 71 = .ok (.iload_n 2, 1) := by decide +kernel
theorem dX6_addTenant_72 : decode cX6_addTenant 72 = .ok (.invokevirtual 91, 3) := by decide +kernel
theorem dX6_addTenant_75 : decode cX6_addTenant 75 = .ok (.ifCond .ne 24, 3) := by decide +kernel
theorem dX6_addTenant_78 : decode cX6_addTenant 78 = .ok (.aload_n 0, 1) := by decide +kernel
theorem dX6_addTenant_79 : decode cX6_addTenant 79 = .ok (.iload_n 1, 1) := by decide +kernel
theorem dX6_addTenant_80 : decode cX6_addTenant 80 = .ok (.iconst 1, 1) := by decide +kernel
theorem dX6_addTenant_81 : decode cX6_addTenant 81 = .ok (.iload_n 3, 1) := by decide +kernel
theorem dX6_addTenant_82 : decode cX6_addTenant 82 = .ok (.invokevirtual 91, 3) := by decide +kernel
theorem dX6_addTenant_85 : decode cX6_addTenant 85 = .ok (.ifCond .ne 14, 3) := by decide +kernel
theorem dX6_addTenant_88 : decode cX6_addTenant 88 = .ok (.aload_n 0, 1) := by decide +kernel
theorem dX6_addTenant_89 : decode cX6_addTenant 89 = .ok (.iload_n 1, 1) := by decide +kernel
theorem dX6_addTenant_90 : decode cX6_addTenant 90 = .ok (.iconst 2, 1) := by decide +kernel
theorem dX6_addTenant_91 : decode cX6_addTenant 91 = .ok (.iload 4, 2) := by decide +kernel
theorem dX6_addTenant_93 : decode cX6_addTenant 93 = .ok (.invokevirtual 91, 3) := by decide +kernel
theorem dX6_addTenant_96 : decode cX6_addTenant 96 = .ok (.ifCond .eq 7, 3) := by decide +kernel
theorem dX6_addTenant_99 : decode cX6_addTenant 99 = .ok (.iconst 3, 1) := by decide +kernel
theorem dX6_addTenant_100 : decode cX6_addTenant 100 = .ok (.goto 17, 3) := by decide +kernel
theorem dX6_addTenant_103 : decode cX6_addTenant 103 = .ok (.aload_n 0, 1) := by decide +kernel
theorem dX6_addTenant_104 : decode cX6_addTenant 104 = .ok (.getfield 67, 3) := by decide +kernel
theorem dX6_addTenant_107 : decode cX6_addTenant 107 = .ok (.bipush 6, 2) := by decide +kernel
theorem dX6_addTenant_109 : decode cX6_addTenant 109 = .ok (.if_icmp .ne 7, 3) := by decide +kernel
theorem dX6_addTenant_112 : decode cX6_addTenant 112 = .ok (.iconst 4, 1) := by decide +kernel
theorem dX6_addTenant_113 : decode cX6_addTenant 113 = .ok (.goto 4, 3) := by decide +kernel
theorem dX6_addTenant_116 : decode cX6_addTenant 116 = .ok (.iconst 0, 1) := by decide +kernel
theorem dX6_addTenant_117 : decode cX6_addTenant 117 = .ok (.invokevirtual 70, 3) := by decide +kernel
theorem dX6_addTenant_120 : decode cX6_addTenant 120 = .ok (.ifCond .eq 5, 3) := by decide +kernel
theorem dX6_addTenant_123 : decode cX6_addTenant 123 = .ok (.iconst 0, 1) := by decide +kernel
theorem dX6_addTenant_124 : decode cX6_addTenant 124 = .ok (.ireturn, 1) := by decide +kernel
theorem dX6_addTenant_125 : decode cX6_addTenant 125 = .ok (.aload_n 0, 1) := by decide +kernel
theorem dX6_addTenant_126 : decode cX6_addTenant 126 = .ok (.getfield 17, 3) := by decide +kernel
theorem dX6_addTenant_129 : decode cX6_addTenant 129 = .ok (.iconst 3, 1) := by decide +kernel
theorem dX6_addTenant_130 : decode cX6_addTenant 130 = .ok (.aload_n 0, 1) := by decide +kernel
theorem dX6_addTenant_131 : decode cX6_addTenant 131 = .ok (.getfield 67, 3) := by decide +kernel
theorem dX6_addTenant_134 : decode cX6_addTenant 134 = .ok (.imul, 1) := by decide +kernel
theorem dX6_addTenant_135 : decode cX6_addTenant 135 = .ok (.iload_n 2, 1) := by decide +kernel
theorem dX6_addTenant_136 : decode cX6_addTenant 136 = .ok (.iastore, 1) := by decide +kernel
theorem dX6_addTenant_137 : decode cX6_addTenant 137 = .ok (.aload_n 0, 1) := by decide +kernel
theorem dX6_addTenant_138 : decode cX6_addTenant 138 = .ok (.getfield 17, 3) := by decide +kernel
theorem dX6_addTenant_141 : decode cX6_addTenant 141 = .ok (.iconst 3, 1) := by decide +kernel
theorem dX6_addTenant_142 : decode cX6_addTenant 142 = .ok (.aload_n 0, 1) := by decide +kernel
theorem dX6_addTenant_143 : decode cX6_addTenant 143 = .ok (.getfield 67, 3) := by decide +kernel
theorem dX6_addTenant_146 : decode cX6_addTenant 146 = .ok (.imul, 1) := by decide +kernel
theorem dX6_addTenant_147 : decode cX6_addTenant 147 = .ok (.iconst 1, 1) := by decide +kernel
theorem dX6_addTenant_148 : decode cX6_addTenant 148 = .ok (.iadd, 1) := by decide +kernel
theorem dX6_addTenant_149 : decode cX6_addTenant 149 = .ok (.iload_n 3, 1) := by decide +kernel
theorem dX6_addTenant_150 : decode cX6_addTenant 150 = .ok (.iastore, 1) := by decide +kernel
theorem dX6_addTenant_151 : decode cX6_addTenant 151 = .ok (.aload_n 0, 1) := by decide +kernel
theorem dX6_addTenant_152 : decode cX6_addTenant 152 = .ok (.getfield 17, 3) := by decide +kernel
theorem dX6_addTenant_155 : decode cX6_addTenant 155 = .ok (.iconst 3, 1) := by decide +kernel
theorem dX6_addTenant_156 : decode cX6_addTenant 156 = .ok (.aload_n 0, 1) := by decide +kernel
theorem dX6_addTenant_157 : decode cX6_addTenant 157 = .ok (.getfield 67, 3) := by decide +kernel
theorem dX6_addTenant_160 : decode cX6_addTenant 160 = .ok (.imul, 1) := by decide +kernel
theorem dX6_addTenant_161 : decode cX6_addTenant 161 = .ok (.iconst 2, 1) := by decide +kernel
theorem dX6_addTenant_162 : decode cX6_addTenant 162 = .ok (.iadd, 1) := by decide +kernel
theorem dX6_addTenant_163 : decode cX6_addTenant 163 = .ok (.iload 4, 2) := by decide +kernel
theorem dX6_addTenant_165 : decode cX6_addTenant 165 = .ok (.iastore, 1) := by decide +kernel
theorem dX6_addTenant_166 : decode cX6_addTenant 166 = .ok (.aload_n 0, 1) := by decide +kernel
theorem dX6_addTenant_167 : decode cX6_addTenant 167 = .ok (.getfield 20, 3) := by decide +kernel
theorem dX6_addTenant_170 : decode cX6_addTenant 170 = .ok (.aload_n 0, 1) := by decide +kernel
theorem dX6_addTenant_171 : decode cX6_addTenant 171 = .ok (.getfield 67, 3) := by decide +kernel
theorem dX6_addTenant_174 : decode cX6_addTenant 174 = .ok (.iload 5, 2) := by decide +kernel
theorem dX6_addTenant_176 : decode cX6_addTenant 176 = .ok (.iastore, 1) := by decide +kernel
theorem dX6_addTenant_177 : decode cX6_addTenant 177 = .ok (.aload_n 0, 1) := by decide +kernel
theorem dX6_addTenant_178 : decode cX6_addTenant 178 = .ok (.getfield 29, 3) := by decide +kernel
theorem dX6_addTenant_181 : decode cX6_addTenant 181 = .ok (.aload_n 0, 1) := by decide +kernel
theorem dX6_addTenant_182 : decode cX6_addTenant 182 = .ok (.getfield 67, 3) := by decide +kernel
theorem dX6_addTenant_185 : decode cX6_addTenant 185 = .ok (.iload_n 1, 1) := by decide +kernel
theorem dX6_addTenant_186 : decode cX6_addTenant 186 = .ok (.iastore, 1) := by decide +kernel
theorem dX6_addTenant_187 : decode cX6_addTenant 187 = .ok (.aload_n 0, 1) := by decide +kernel
theorem dX6_addTenant_188 : decode cX6_addTenant 188 = .ok (.dup, 1) := by decide +kernel
theorem dX6_addTenant_189 : decode cX6_addTenant 189 = .ok (.getfield 67, 3) := by decide +kernel
theorem dX6_addTenant_192 : decode cX6_addTenant 192 = .ok (.iconst 1, 1) := by decide +kernel
theorem dX6_addTenant_193 : decode cX6_addTenant 193 = .ok (.iadd, 1) := by decide +kernel
theorem dX6_addTenant_194 : decode cX6_addTenant 194 = .ok (.putfield 67, 3) := by decide +kernel
theorem dX6_addTenant_197 : decode cX6_addTenant 197 = .ok (.aload_n 0, 1) := by decide +kernel
theorem dX6_addTenant_198 : decode cX6_addTenant 198 = .ok (.getfield 67, 3) := by decide +kernel
theorem dX6_addTenant_201 : decode cX6_addTenant 201 = .ok (.iconst 1, 1) := by decide +kernel
theorem dX6_addTenant_202 : decode cX6_addTenant 202 = .ok (.isub, 1) := by decide +kernel
theorem dX6_addTenant_203 : decode cX6_addTenant 203 = .ok (.ireturn, 1) := by decide +kernel
theorem dX6_setSize_0 : decode cX6_setSize 0 = .ok (.aload_n 0, 1) := by decide +kernel
theorem dX6_setSize_1 : decode cX6_setSize 1 = .ok (.aload_n 0, 1) := by decide +kernel
theorem dX6_setSize_2 : decode cX6_setSize 2 = .ok (.iload_n 1, 1) := by decide +kernel
theorem dX6_setSize_3 : decode cX6_setSize 3 = .ok (.invokevirtual 94, 3) := by decide +kernel
theorem dX6_setSize_6 : decode cX6_setSize 6 = .ok (.ifCond .eq 7, 3) := by decide +kernel
theorem dX6_setSize_9 : decode cX6_setSize 9 = .ok (.iconst 1, 1) := by decide +kernel
theorem dX6_setSize_10 : decode cX6_setSize 10 = .ok (.goto 27, 3) := by decide +kernel
theorem dX6_setSize_13 : decode cX6_setSize 13 = .ok (.iload_n 2, 1) := by decide +kernel
theorem dX6_setSize_14 : decode cX6_setSize 14 = .ok (.iconst 1, 1) := by decide +kernel
theorem dX6_setSize_15 : decode cX6_setSize 15 = .ok (.iconst 2, 1) := by decide +kernel
theorem dX6_setSize_16 : decode cX6_setSize 16 = .ok (.invokestatic 63, 3) := by decide +kernel
theorem dX6_setSize_19 : decode cX6_setSize 19 = .ok (.ifCond .eq 17, 3) := by decide +kernel
theorem dX6_setSize_22 : decode cX6_setSize 22 = .ok (.iload_n 3, 1) := by decide +kernel
theorem dX6_setSize_23 : decode cX6_setSize 23 = .ok (.iconst 1, 1) := by decide +kernel
theorem dX6_setSize_24 : decode cX6_setSize 24 = .ok (.bipush 100, 2) := by decide +kernel
theorem dX6_setSize_26 : decode cX6_setSize 26 = .ok (.invokestatic 63, 3) := by decide +kernel
theorem dX6_setSize_29 : decode cX6_setSize 29 = .ok (.ifCond .eq 7, 3) := by decide +kernel
theorem dX6_setSize_32 : decode cX6_setSize 32 = .ok (.iconst 0, 1) := by decide +kernel
theorem dX6_setSize_33 : decode cX6_setSize 33 = .ok (.goto 4, 3) := by decide +kernel
theorem dX6_setSize_36 : decode cX6_setSize 36 = .ok (.iconst 2, 1) := by decide +kernel
theorem dX6_setSize_37 : decode cX6_setSize 37 = .ok (.invokevirtual 70, 3) := by decide +kernel
theorem dX6_setSize_40 : decode cX6_setSize 40 = .ok (.ifCond .eq 5, 3) := by decide +kernel
theorem dX6_setSize_43 : decode cX6_setSize 43 = .ok (.iconst 0, 1) := by decide +kernel
theorem dX6_setSize_44 : decode cX6_setSize 44 = .ok (.ireturn, 1) := by decide +kernel
theorem dX6_setSize_45 : decode cX6_setSize 45 = .ok (.aload_n 0, 1) := by decide +kernel
theorem dX6_setSize_46 : decode cX6_setSize 46 = .ok (.getfield 17, 3) := by decide +kernel
theorem dX6_setSize_49 : decode cX6_setSize 49 = .ok (.iconst 3, 1) := by decide +kernel
theorem dX6_setSize_50 : decode cX6_setSize 50 = .ok (.iload_n 1, 1) := by decide +kernel
theorem dX6_setSize_51 : decode cX6_setSize 51 = .ok (.imul, 1) := by decide +kernel
theorem dX6_setSize_52 : decode cX6_setSize 52 = .ok (.iload_n 2, 1) := by decide +kernel
theorem dX6_setSize_53 : decode cX6_setSize 53 = .ok (.iadd, 1) := by decide +kernel
theorem dX6_setSize_54 : decode cX6_setSize 54 = .ok (.iaload, 1) := by decide +kernel
theorem dX6_setSize_55 : decode cX6_setSize 55 = .ok (.istore 4, 2) := by decide +kernel
theorem dX6_setSize_57 : decode cX6_setSize 57 = .ok (.aload_n 0, 1) := by decide +kernel
theorem dX6_setSize_58 : decode cX6_setSize 58 = .ok (.getfield 17, 3) := by decide +kernel
theorem dX6_setSize_61 : decode cX6_setSize 61 = .ok (.iconst 3, 1) := by decide +kernel
theorem dX6_setSize_62 : decode cX6_setSize 62 = .ok (.iload_n 1, 1) := by decide +kernel
theorem dX6_setSize_63 : decode cX6_setSize 63 = .ok (.imul, 1) := by decide +kernel
theorem dX6_setSize_64 : decode cX6_setSize 64 = .ok (.iload_n 2, 1) := by decide +kernel
theorem dX6_setSize_65 : decode cX6_setSize 65 = .ok (.iadd, 1) := by decide +kernel
theorem dX6_setSize_66 : decode cX6_setSize 66 = .ok (.iload_n 3, 1) := by decide +kernel
theorem dX6_setSize_67 : decode cX6_setSize 67 = .ok (.iastore, 1) := by decide +kernel
theorem dX6_setSize_68 : decode cX6_setSize 68 = .ok (.iload 4, 2) := by decide +kernel
theorem dX6_setSize_70 : decode cX6_setSize 70 = .ok (.ireturn, 1) := by decide +kernel
theorem dX6_isInWindow_0 : decode cX6_isInWindow 0 = .ok (.aload_n 0, 1) := by decide +kernel
theorem dX6_isInWindow_1 : decode cX6_isInWindow 1 = .ok (.getfield 23, 3) := by decide +kernel
theorem dX6_isInWindow_4 : decode cX6_isInWindow 4 = .ok (.iload_n 1, 1) := by decide +kernel
theorem dX6_isInWindow_5 : decode cX6_isInWindow 5 = .ok (.iaload, 1) := by decide +kernel
theorem dX6_isInWindow_6 : decode cX6_isInWindow 6 = .ok (.istore_n 3, 1) := by decide +kernel
theorem dX6_isInWindow_7 : decode cX6_isInWindow 7 = .ok (.aload_n 0, 1) := by decide +kernel
theorem dX6_isInWindow_8 : decode cX6_isInWindow 8 = .ok (.getfield 26, 3) := by decide +kernel
theorem dX6_isInWindow_11 : decode cX6_isInWindow 11 = .ok (.iload_n 1, 1) := by decide +kernel
theorem dX6_isInWindow_12 : decode cX6_isInWindow 12 = .ok (.iaload, 1) := by decide +kernel
theorem dX6_isInWindow_13 : decode cX6_isInWindow 13 = .ok (.istore 4, 2) := by decide +kernel
theorem dX6_isInWindow_15 : decode cX6_isInWindow 15 = .ok (.iload_n 3, 1) := by decide +kernel
theorem dX6_isInWindow_16 : decode cX6_isInWindow 16 = .ok (.iload 4, 2) := by decide +kernel
theorem dX6_isInWindow_18 : decode cX6_isInWindow 18 = .ok (.if_icmp .eq 35, 3) := by decide +kernel
theorem dX6_isInWindow_21 : decode cX6_isInWindow 21 = .ok (.iload_n 3, 1) := by decide +kernel
theorem dX6_isInWindow_22 : decode cX6_isInWindow 22 = .ok (.iload 4, 2) := by decide +kernel
theorem dX6_isInWindow_24 : decode cX6_isInWindow 24 = .ok (.if_icmp .ge 18, 3) := by decide +kernel
theorem dX6_isInWindow_27 : decode cX6_isInWindow 27 = .ok (.iload_n 2, 1) := by decide +kernel
theorem dX6_isInWindow_28 : decode cX6_isInWindow 28 = .ok (.iload_n 3, 1) := by decide +kernel
theorem dX6_isInWindow_29 : decode cX6_isInWindow 29 = .ok (.iload 4, 2) := by decide +kernel
theorem dX6_isInWindow_31 : decode cX6_isInWindow 31 = .ok (.iconst 1, 1) := by decide +kernel
theorem dX6_isInWindow_32 : decode cX6_isInWindow 32 = .ok (.isub, 1) := by decide +kernel
theorem dX6_isInWindow_33 : decode cX6_isInWindow 33 = .ok (.invokestatic 63, 3) := by decide +kernel
theorem dX6_isInWindow_36 : decode cX6_isInWindow 36 = .ok (.ifCond .eq 21, 3) := by decide +kernel
theorem dX6_isInWindow_39 : decode cX6_isInWindow 39 = .ok (.goto 14, 3) := by decide +kernel
theorem dX6_isInWindow_42 : decode cX6_isInWindow 42 = .ok (.iload_n 2, 1) := by decide +kernel
theorem dX6_isInWindow_43 : decode cX6_isInWindow 43 = .ok (.iload_n 3, 1) := by decide +kernel
theorem dX6_isInWindow_44 : decode cX6_isInWindow 44 = .ok (.if_icmp .ge 9, 3) := by decide +kernel
theorem dX6_isInWindow_47 : decode cX6_isInWindow 47 = .ok (.iload_n 2, 1) := by decide +kernel
theorem dX6_isInWindow_48 : decode cX6_isInWindow 48 = .ok (.iload 4, 2) := by decide +kernel
theorem dX6_isInWindow_50 : decode cX6_isInWindow 50 = .ok (.if_icmp .ge 7, 3) := by decide +kernel
theorem dX6_isInWindow_53 : decode cX6_isInWindow 53 = .ok (.iconst 1, 1) := by decide +kernel
theorem dX6_isInWindow_54 : decode cX6_isInWindow 54 = .ok (.goto 4, 3) := by decide +kernel
theorem dX6_isInWindow_57 : decode cX6_isInWindow 57 = .ok (.iconst 0, 1) := by decide +kernel
theorem dX6_isInWindow_58 : decode cX6_isInWindow 58 = .ok (.ireturn, 1) := by decide +kernel
theorem dX6_setWindow_0 : decode cX6_setWindow 0 = .ok (.aload_n 0, 1) := by decide +kernel
theorem dX6_setWindow_1 : decode cX6_setWindow 1 = .ok (.aload_n 0, 1) := by decide +kernel
theorem dX6_setWindow_2 : decode cX6_setWindow 2 = .ok (.iload_n 1, 1) := by decide +kernel
theorem dX6_setWindow_3 : decode cX6_setWindow 3 = .ok (.invokevirtual 94, 3) := by decide +kernel
theorem dX6_setWindow_6 : decode cX6_setWindow 6 = .ok (.ifCond .eq 7, 3) := by decide +kernel
theorem dX6_setWindow_9 : decode cX6_setWindow 9 = .ok (.iconst 1, 1) := by decide +kernel
theorem dX6_setWindow_10 : decode cX6_setWindow 10 = .ok (.goto 28, 3) := by decide +kernel
theorem dX6_setWindow_13 : decode cX6_setWindow 13 = .ok (.iload_n 2, 1) := by decide +kernel
theorem dX6_setWindow_14 : decode cX6_setWindow 14 = .ok (.iconst 0, 1) := by decide +kernel
theorem dX6_setWindow_15 : decode cX6_setWindow 15 = .ok (.bipush 23, 2) := by decide +kernel
theorem dX6_setWindow_17 : decode cX6_setWindow 17 = .ok (.invokestatic 63, 3) := by decide +kernel
theorem dX6_setWindow_20 : decode cX6_setWindow 20 = .ok (.ifCond .eq 17, 3) := by decide +kernel
theorem dX6_setWindow_23 : decode cX6_setWindow 23 = .ok (.iload_n 3, 1) := by decide +kernel
theorem dX6_setWindow_24 : decode cX6_setWindow 24 = .ok (.iconst 0, 1) := by decide +kernel
theorem dX6_setWindow_25 : decode cX6_setWindow 25 = .ok (.bipush 23, 2) := by decide +kernel
theorem dX6_setWindow_27 : decode cX6_setWindow 27 = .ok (.invokestatic 63, 3) := by decide +kernel
theorem dX6_setWindow_30 : decode cX6_setWindow 30 = .ok (.ifCond .eq 7, 3) := by decide +kernel
theorem dX6_setWindow_33 : decode cX6_setWindow 33 = .ok (.iconst 0, 1) := by decide +kernel
theorem dX6_setWindow_34 : decode cX6_setWindow 34 = .ok (.goto 4, 3) := by decide +kernel
theorem dX6_setWindow_37 : decode cX6_setWindow 37 = .ok (.iconst 2, 1) := by decide +kernel
theorem dX6_setWindow_38 : decode cX6_setWindow 38 = .ok (.invokevirtual 70, 3) := by decide +kernel
theorem dX6_setWindow_41 : decode cX6_setWindow 41 = .ok (.ifCond .eq 5, 3) := by decide +kernel
theorem dX6_setWindow_44 : decode cX6_setWindow 44 = .ok (.iconst 0, 1) := by decide +kernel
theorem dX6_setWindow_45 : decode cX6_setWindow 45 = .ok (.ireturn, 1) := by decide +kernel
theorem dX6_setWindow_46 : decode cX6_setWindow 46 = .ok (.aload_n 0, 1) := by decide +kernel
theorem dX6_setWindow_47 : decode cX6_setWindow 47 = .ok (.getfield 23, 3) := by decide +kernel
theorem dX6_setWindow_50 : decode cX6_setWindow 50 = .ok (.iload_n 1, 1) := by decide +kernel
theorem dX6_setWindow_51 : decode cX6_setWindow 51 = .ok (.iload_n 2, 1) := by decide +kernel
theorem dX6_setWindow_52 : decode cX6_setWindow 52 = .ok (.iastore, 1) := by decide +kernel
theorem dX6_setWindow_53 : decode cX6_setWindow 53 = .ok (.aload_n 0, 1) := by decide +kernel
theorem dX6_setWindow_54 : decode cX6_setWindow 54 = .ok (.getfield 26, 3) := by decide +kernel
theorem dX6_setWindow_57 : decode cX6_setWindow 57 = .ok (.iload_n 1, 1) := by decide +kernel
theorem dX6_setWindow_58 : decode cX6_setWindow 58 = .ok (.iload_n 3, 1) := by decide +kernel
theorem dX6_setWindow_59 : decode cX6_setWindow 59 = .ok (.iastore, 1) := by decide +kernel
theorem dX6_setWindow_60 : decode cX6_setWindow 60 = .ok (.iload_n 2, 1) := by decide +kernel
theorem dX6_setWindow_61 : decode cX6_setWindow 61 = .ok (.iload_n 3, 1) := by decide +kernel
theorem dX6_setWindow_62 : decode cX6_setWindow 62 = .ok (.if_icmp .ge 9, 3) := by decide +kernel
theorem dX6_setWindow_65 : decode cX6_setWindow 65 = .ok (.iload_n 3, 1) := by decide +kernel
theorem dX6_setWindow_66 : decode cX6_setWindow 66 = .ok (.iload_n 2, 1) := by decide +kernel
theorem dX6_setWindow_67 : decode cX6_setWindow 67 = .ok (.isub, 1) := by decide +kernel
theorem dX6_setWindow_68 : decode cX6_setWindow 68 = .ok (.goto 9, 3) := by decide +kernel
theorem dX6_setWindow_71 : decode cX6_setWindow 71 = .ok (.iload_n 3, 1) := by decide +kernel
theorem dX6_setWindow_72 : decode cX6_setWindow 72 = .ok (.iload_n 2, 1) := by decide +kernel
theorem dX6_setWindow_73 : decode cX6_setWindow 73 = .ok (.isub, 1) := by decide +kernel
theorem dX6_setWindow_74 : decode cX6_setWindow 74 = .ok (.bipush 24, 2) := by decide +kernel
theorem dX6_setWindow_76 : decode cX6_setWindow 76 = .ok (.iadd, 1) := by decide +kernel
theorem dX6_setWindow_77 : decode cX6_setWindow 77 = .ok (.ireturn, 1) := by decide +kernel
theorem dX6_areApart_0 : decode cX6_areApart 0 = .ok (.iconst 0, 1) := by decide +kernel
theorem dX6_areApart_1 : decode cX6_areApart 1 = .ok (.istore_n 3, 1) := by decide +kernel
theorem dX6_areApart_2 : decode cX6_areApart 2 = .ok (.iload_n 3, 1) := by decide +kernel
theorem dX6_areApart_3 : decode cX6_areApart 3 = .ok (.aload_n 0, 1) := by decide +kernel
theorem dX6_areApart_4 : decode cX6_areApart 4 = .ok (.getfield 97, 3) := by decide +kernel
theorem dX6_areApart_7 : decode cX6_areApart 7 = .ok (.if_icmp .ge 51, 3) := by decide +kernel
theorem dX6_areApart_10 : decode cX6_areApart 10 = .ok (.aload_n 0, 1) := by decide +kernel
theorem dX6_areApart_11 : decode cX6_areApart 11 = .ok (.getfield 44, 3) := by decide +kernel
theorem dX6_areApart_14 : decode cX6_areApart 14 = .ok (.iload_n 3, 1) := by decide +kernel
theorem dX6_areApart_15 : decode cX6_areApart 15 = .ok (.iaload, 1) := by decide +kernel
theorem dX6_areApart_16 : decode cX6_areApart 16 = .ok (.iload_n 1, 1) := by decide +kernel
theorem dX6_areApart_17 : decode cX6_areApart 17 = .ok (.if_icmp .ne 13, 3) := by decide +kernel
theorem dX6_areApart_20 : decode cX6_areApart 20 = .ok (.aload_n 0, 1) := by decide +kernel
theorem dX6_areApart_21 : decode cX6_areApart 21 = .ok (.getfield 47, 3) := by decide +kernel
theorem dX6_areApart_24 : decode cX6_areApart 24 = .ok (.iload_n 3, 1) := by decide +kernel
theorem dX6_areApart_25 : decode cX6_areApart 25 = .ok (.iaload, 1) := by decide +kernel
theorem dX6_areApart_26 : decode cX6_areApart 26 = .ok (.iload_n 2, 1) := by decide +kernel
theorem dX6_areApart_27 : decode cX6_areApart 27 = .ok (.if_icmp .eq 23, 3) := by decide +kernel
theorem dX6_areApart_30 : decode cX6_areApart 30 = .ok (.aload_n 0, 1) := by decide +kernel
theorem dX6_areApart_31 : decode cX6_areApart 31 = .ok (.getfield 44, 3) := by decide +kernel
theorem dX6_areApart_34 : decode cX6_areApart 34 = .ok (.iload_n 3, 1) := by decide +kernel
theorem dX6_areApart_35 : decode cX6_areApart 35 = .ok (.iaload, 1) := by decide +kernel
theorem dX6_areApart_36 : decode cX6_areApart 36 = .ok (.iload_n 2, 1) := by decide +kernel
theorem dX6_areApart_37 : decode cX6_areApart 37 = .ok (.if_icmp .ne 15, 3) := by decide +kernel
theorem dX6_areApart_40 : decode cX6_areApart 40 = .ok (.aload_n 0, 1) := by decide +kernel
theorem dX6_areApart_41 : decode cX6_areApart 41 = .ok (.getfield 47, 3) := by decide +kernel
theorem dX6_areApart_44 : decode cX6_areApart 44 = .ok (.iload_n 3, 1) := by decide +kernel
theorem dX6_areApart_45 : decode cX6_areApart 45 = .ok (.iaload, 1) := by decide +kernel
theorem dX6_areApart_46 : decode cX6_areApart 46 = .ok (.iload_n 1, 1) := by decide +kernel
theorem dX6_areApart_47 : decode cX6_areApart 47 = .ok (.if_icmp .ne 5, 3) := by decide +kernel
theorem dX6_areApart_50 : decode cX6_areApart 50 = .ok (.iconst 1, 1) := by decide +kernel
theorem dX6_areApart_51 : decode cX6_areApart 51 = .ok (.ireturn, 1) := by decide +kernel
theorem dX6_areApart_52 : decode cX6_areApart 52 = .ok (.iinc 3 1, 3) := by decide +kernel
theorem dX6_areApart_55 : decode cX6_areApart 55 = .ok (.goto (-53), 3) := by decide +kernel
theorem dX6_areApart_58 : decode cX6_areApart 58 = .ok (.iconst 0, 1) := by decide +kernel
theorem dX6_areApart_59 : decode cX6_areApart 59 = .ok (.ireturn, 1) := by decide +kernel
theorem dX6_keepApart_0 : decode cX6_keepApart 0 = .ok (.aload_n 0, 1) := by decide +kernel
theorem dX6_keepApart_1 : decode cX6_keepApart 1 = .ok (.aload_n 0, 1) := by decide +kernel
theorem dX6_keepApart_2 : decode cX6_keepApart 2 = .ok (.iload_n 1, 1) := by decide +kernel
theorem dX6_keepApart_3 : decode cX6_keepApart 3 = .ok (.invokevirtual 94, 3) := by decide +kernel
theorem dX6_keepApart_6 : decode cX6_keepApart 6 = .ok (.ifCond .ne 11, 3) := by decide +kernel
theorem dX6_keepApart_9 : decode cX6_keepApart 9 = .ok (.aload_n 0, 1) := by decide +kernel
theorem dX6_keepApart_10 : decode cX6_keepApart 10 = .ok (.iload_n 2, 1) := by decide +kernel
theorem dX6_keepApart_11 : decode cX6_keepApart 11 = .ok (.invokevirtual 94, 3) := by decide +kernel
theorem dX6_keepApart_14 : decode cX6_keepApart 14 = .ok (.ifCond .eq 7, 3) := by decide +kernel
theorem dX6_keepApart_17 : decode cX6_keepApart 17 = .ok (.iconst 1, 1) := by decide +kernel
theorem dX6_keepApart_18 : decode cX6_keepApart 18 = .ok (.goto 39, 3) := by decide +kernel
theorem dX6_keepApart_21 : decode cX6_keepApart 21 = .ok (.iload_n 1, 1) := by decide +kernel
theorem dX6_keepApart_22 : decode cX6_keepApart 22 = .ok (.iload_n 2, 1) := by decide +kernel
theorem dX6_keepApart_23 : decode cX6_keepApart 23 = .ok (.if_icmp .ne 7, 3) := by decide +kernel
theorem dX6_keepApart_26 : decode cX6_keepApart 26 = .ok (.iconst 2, 1) := by decide +kernel
theorem dX6_keepApart_27 : decode cX6_keepApart 27 = .ok (.goto 30, 3) := by decide +kernel
theorem dX6_keepApart_30 : decode cX6_keepApart 30 = .ok (.aload_n 0, 1) := by decide +kernel
theorem dX6_keepApart_31 : decode cX6_keepApart 31 = .ok (.iload_n 1, 1) := by decide +kernel
theorem dX6_keepApart_32 : decode cX6_keepApart 32 = .ok (.iload_n 2, 1) := by decide +kernel
theorem dX6_keepApart_33 : decode cX6_keepApart 33 = .ok (.invokevirtual 100, 3) := by decide +kernel
theorem dX6_keepApart_36 : decode cX6_keepApart 36 = .ok (.ifCond .eq 7, 3) := by decide +kernel
theorem dX6_keepApart_39 : decode cX6_keepApart 39 = .ok (.iconst 3, 1) := by decide +kernel
theorem dX6_keepApart_40 : decode cX6_keepApart 40 = .ok (.goto 17, 3) := by decide +kernel
theorem dX6_keepApart_43 : decode cX6_keepApart 43 = .ok (.aload_n 0, 1) := by decide +kernel
theorem dX6_keepApart_44 : decode cX6_keepApart 44 = .ok (.getfield 97, 3) := by decide +kernel
theorem dX6_keepApart_47 : decode cX6_keepApart 47 = .ok (.bipush 6, 2) := by decide +kernel
theorem dX6_keepApart_49 : decode cX6_keepApart 49 = .ok (.if_icmp .ne 7, 3) := by decide +kernel
theorem dX6_keepApart_52 : decode cX6_keepApart 52 = .ok (.iconst 4, 1) := by decide +kernel
theorem dX6_keepApart_53 : decode cX6_keepApart 53 = .ok (.goto 4, 3) := by decide +kernel
theorem dX6_keepApart_56 : decode cX6_keepApart 56 = .ok (.iconst 0, 1) := by decide +kernel
theorem dX6_keepApart_57 : decode cX6_keepApart 57 = .ok (.invokevirtual 70, 3) := by decide +kernel
theorem dX6_keepApart_60 : decode cX6_keepApart 60 = .ok (.ifCond .eq 5, 3) := by decide +kernel
theorem dX6_keepApart_63 : decode cX6_keepApart 63 = .ok (.iconst 0, 1) := by decide +kernel
theorem dX6_keepApart_64 : decode cX6_keepApart 64 = .ok (.ireturn, 1) := by decide +kernel
theorem dX6_keepApart_65 : decode cX6_keepApart 65 = .ok (.aload_n 0, 1) := by decide +kernel
theorem dX6_keepApart_66 : decode cX6_keepApart 66 = .ok (.getfield 44, 3) := by decide +kernel
theorem dX6_keepApart_69 : decode cX6_keepApart 69 = .ok (.aload_n 0, 1) := by decide +kernel
theorem dX6_keepApart_70 : decode cX6_keepApart 70 = .ok (.getfield 97, 3) := by decide +kernel
theorem dX6_keepApart_73 : decode cX6_keepApart 73 = .ok (.iload_n 1, 1) := by decide +kernel
theorem dX6_keepApart_74 : decode cX6_keepApart 74 = .ok (.iastore, 1) := by decide +kernel
theorem dX6_keepApart_75 : decode cX6_keepApart 75 = .ok (.aload_n 0, 1) := by decide +kernel
theorem dX6_keepApart_76 : decode cX6_keepApart 76 = .ok (.getfield 47, 3) := by decide +kernel
theorem dX6_keepApart_79 : decode cX6_keepApart 79 = .ok (.aload_n 0, 1) := by decide +kernel
theorem dX6_keepApart_80 : decode cX6_keepApart 80 = .ok (.getfield 97, 3) := by decide +kernel
theorem dX6_keepApart_83 : decode cX6_keepApart 83 = .ok (.iload_n 2, 1) := by decide +kernel
theorem dX6_keepApart_84 : decode cX6_keepApart 84 = .ok (.iastore, 1) := by decide +kernel
theorem dX6_keepApart_85 : decode cX6_keepApart 85 = .ok (.aload_n 0, 1) := by decide +kernel
theorem dX6_keepApart_86 : decode cX6_keepApart 86 = .ok (.dup, 1) := by decide +kernel
theorem dX6_keepApart_87 : decode cX6_keepApart 87 = .ok (.getfield 97, 3) := by decide +kernel
theorem dX6_keepApart_90 : decode cX6_keepApart 90 = .ok (.iconst 1, 1) := by decide +kernel
theorem dX6_keepApart_91 : decode cX6_keepApart 91 = .ok (.iadd, 1) := by decide +kernel
theorem dX6_keepApart_92 : decode cX6_keepApart 92 = .ok (.putfield 97, 3) := by decide +kernel
theorem dX6_keepApart_95 : decode cX6_keepApart 95 = .ok (.aload_n 0, 1) := by decide +kernel
theorem dX6_keepApart_96 : decode cX6_keepApart 96 = .ok (.getfield 97, 3) := by decide +kernel
theorem dX6_keepApart_99 : decode cX6_keepApart 99 = .ok (.ireturn, 1) := by decide +kernel
theorem dX6_isBarred_0 : decode cX6_isBarred 0 = .ok (.iconst 0, 1) := by decide +kernel
theorem dX6_isBarred_1 : decode cX6_isBarred 1 = .ok (.istore_n 3, 1) := by decide +kernel
theorem dX6_isBarred_2 : decode cX6_isBarred 2 = .ok (.iload_n 3, 1) := by decide +kernel
theorem dX6_isBarred_3 : decode cX6_isBarred 3 = .ok (.aload_n 0, 1) := by decide +kernel
theorem dX6_isBarred_4 : decode cX6_isBarred 4 = .ok (.getfield 67, 3) := by decide +kernel
theorem dX6_isBarred_7 : decode cX6_isBarred 7 = .ok (.if_icmp .ge 34, 3) := by decide +kernel
theorem dX6_isBarred_10 : decode cX6_isBarred 10 = .ok (.iload_n 3, 1) := by decide +kernel
theorem dX6_isBarred_11 : decode cX6_isBarred 11 = .ok (.iload_n 1, 1) := by decide +kernel
theorem dX6_isBarred_12 : decode cX6_isBarred 12 = .ok (.if_icmp .eq 23, 3) := by decide +kernel
theorem dX6_isBarred_15 : decode cX6_isBarred 15 = .ok (.aload_n 0, 1) := by decide +kernel
theorem dX6_isBarred_16 : decode cX6_isBarred 16 = .ok (.iload_n 3, 1) := by decide +kernel
theorem dX6_isBarred_17 : decode cX6_isBarred 17 = .ok (.iload_n 2, 1) := by decide +kernel
theorem dX6_isBarred_18 : decode cX6_isBarred 18 = .ok (.invokevirtual 84, 3) := by decide +kernel
theorem dX6_isBarred_21 : decode cX6_isBarred 21 = .ok (.ifCond .eq 14, 3) := by decide +kernel
theorem dX6_isBarred_24 : decode cX6_isBarred 24 = .ok (.aload_n 0, 1) := by decide +kernel
theorem dX6_isBarred_25 : decode cX6_isBarred 25 = .ok (.iload_n 3, 1) := by decide +kernel
theorem dX6_isBarred_26 : decode cX6_isBarred 26 = .ok (.iload_n 1, 1) := by decide +kernel
theorem dX6_isBarred_27 : decode cX6_isBarred 27 = .ok (.invokevirtual 100, 3) := by decide +kernel
theorem dX6_isBarred_30 : decode cX6_isBarred 30 = .ok (.ifCond .eq 5, 3) := by decide +kernel
theorem dX6_isBarred_33 : decode cX6_isBarred 33 = .ok (.iconst 1, 1) := by decide +kernel
theorem dX6_isBarred_34 : decode cX6_isBarred 34 = .ok (.ireturn, 1) := by decide +kernel
theorem dX6_isBarred_35 : decode cX6_isBarred 35 = .ok (.iinc 3 1, 3) := by decide +kernel
theorem dX6_isBarred_38 : decode cX6_isBarred 38 = .ok (.goto (-36), 3) := by decide +kernel
theorem dX6_isBarred_41 : decode cX6_isBarred 41 = .ok (.iconst 0, 1) := by decide +kernel
theorem dX6_isBarred_42 : decode cX6_isBarred 42 = .ok (.ireturn, 1) := by decide +kernel
theorem dX6_hasRoom_0 : decode cX6_hasRoom 0 = .ok (.iload_n 3, 1) := by decide +kernel
theorem dX6_hasRoom_1 : decode cX6_hasRoom 1 = .ok (.istore 4, 2) := by decide +kernel
theorem dX6_hasRoom_3 : decode cX6_hasRoom 3 = .ok (.iload 4, 2) := by decide +kernel
theorem dX6_hasRoom_5 : decode cX6_hasRoom 5 = .ok (.iconst 3, 1) := by decide +kernel
theorem dX6_hasRoom_6 : decode cX6_hasRoom 6 = .ok (.if_icmp .ge 32, 3) := by decide +kernel
theorem dX6_hasRoom_9 : decode cX6_hasRoom 9 = .ok (.aload_n 0, 1) := by decide +kernel
theorem dX6_hasRoom_10 : decode cX6_hasRoom 10 = .ok (.iload_n 2, 1) := by decide +kernel
theorem dX6_hasRoom_11 : decode cX6_hasRoom 11 = .ok (.iload 4, 2) := by decide +kernel
theorem dX6_hasRoom_13 : decode cX6_hasRoom 13 = .ok (.aload_n 0, 1) := by decide +kernel
theorem dX6_hasRoom_14 : decode cX6_hasRoom 14 = .ok (.getfield 17, 3) := by decide +kernel
theorem dX6_hasRoom_17 : decode cX6_hasRoom 17 = .ok (.iconst 3, 1) := by decide +kernel
theorem dX6_hasRoom_18 : decode cX6_hasRoom 18 = .ok (.iload_n 1, 1) := by decide +kernel
theorem dX6_hasRoom_19 : decode cX6_hasRoom 19 = .ok (.imul, 1) := by decide +kernel
theorem dX6_hasRoom_20 : decode cX6_hasRoom 20 = .ok (.iload 4, 2) := by decide +kernel
theorem dX6_hasRoom_22 : decode cX6_hasRoom 22 = .ok (.iadd, 1) := by decide +kernel
theorem dX6_hasRoom_23 : decode cX6_hasRoom 23 = .ok (.iaload, 1) := by decide +kernel
theorem dX6_hasRoom_24 : decode cX6_hasRoom 24 = .ok (.invokevirtual 91, 3) := by decide +kernel
theorem dX6_hasRoom_27 : decode cX6_hasRoom 27 = .ok (.ifCond .eq 5, 3) := by decide +kernel
theorem dX6_hasRoom_30 : decode cX6_hasRoom 30 = .ok (.iconst 0, 1) := by decide +kernel
theorem dX6_hasRoom_31 : decode cX6_hasRoom 31 = .ok (.ireturn, 1) := by decide +kernel
theorem dX6_hasRoom_32 : decode cX6_hasRoom 32 = .ok (.iinc 4 1, 3) := by decide +kernel
theorem dX6_hasRoom_35 : decode cX6_hasRoom 35 = .ok (.goto (-32), 3) := by decide +kernel
theorem dX6_hasRoom_38 : decode cX6_hasRoom 38 = .ok (.iconst 1, 1) := by decide +kernel
theorem dX6_hasRoom_39 : decode cX6_hasRoom 39 = .ok (.ireturn, 1) := by decide +kernel
theorem dX6_why_0 : decode cX6_why 0 = .ok (.aload_n 0, 1) := by decide +kernel
theorem dX6_why_1 : decode cX6_why 1 = .ok (.getfield 32, 3) := by decide +kernel
theorem dX6_why_4 : decode cX6_why 4 = .ok (.iload_n 1, 1) := by decide +kernel
theorem dX6_why_5 : decode cX6_why 5 = .ok (.iaload, 1) := by decide +kernel
theorem dX6_why_6 : decode cX6_why 6 = .ok (.ifCond .eq 8, 3) := by decide +kernel
theorem dX6_why_9 : decode cX6_why 9 = .ok (.bipush 109, 2) := by decide +kernel
theorem dX6_why_11 : decode cX6_why 11 = .ok (.goto 63, 3) := by decide +kernel
theorem dX6_why_14 : decode cX6_why 14 = .ok (.aload_n 0, 1) := by decide +kernel
theorem dX6_why_15 : decode cX6_why 15 = .ok (.getfield 29, 3) := by decide +kernel
theorem dX6_why_18 : decode cX6_why 18 = .ok (.iload_n 1, 1) := by decide +kernel
theorem dX6_why_19 : decode cX6_why 19 = .ok (.iaload, 1) := by decide +kernel
theorem dX6_why_20 : decode cX6_why 20 = .ok (.iload_n 2, 1) := by decide +kernel
theorem dX6_why_21 : decode cX6_why 21 = .ok (.if_icmp .ne 8, 3) := by decide +kernel
theorem dX6_why_24 : decode cX6_why 24 = .ok (.bipush 115, 2) := by decide +kernel
theorem dX6_why_26 : decode cX6_why 26 = .ok (.goto 48, 3) := by decide +kernel
theorem dX6_why_29 : decode cX6_why 29 = .ok (.aload_n 0, 1) := by decide +kernel
theorem dX6_why_30 : decode cX6_why 30 = .ok (.getfield 13, 3) := by decide +kernel
theorem dX6_why_33 : decode cX6_why 33 = .ok (.iload_n 2, 1) := by decide +kernel
theorem dX6_why_34 : decode cX6_why 34 = .ok (.baload, 1) := by decide +kernel
theorem dX6_why_35 : decode cX6_why 35 = .ok (.ifCond .eq 8, 3) := by decide +kernel
theorem dX6_why_38 : decode cX6_why 38 = .ok (.bipush 99, 2) := by decide +kernel
theorem dX6_why_40 : decode cX6_why 40 = .ok (.goto 34, 3) := by decide +kernel
theorem dX6_why_43 : decode cX6_why 43 = .ok (.aload_n 0, 1) := by decide +kernel
theorem dX6_why_44 : decode cX6_why 44 = .ok (.iload_n 1, 1) := by decide +kernel
theorem dX6_why_45 : decode cX6_why 45 = .ok (.iload_n 2, 1) := by decide +kernel
theorem dX6_why_46 : decode cX6_why 46 = .ok (.invokevirtual 103, 3) := by decide +kernel
theorem dX6_why_49 : decode cX6_why 49 = .ok (.ifCond .eq 8, 3) := by decide +kernel
theorem dX6_why_52 : decode cX6_why 52 = .ok (.bipush 112, 2) := by decide +kernel
theorem dX6_why_54 : decode cX6_why 54 = .ok (.goto 20, 3) := by decide +kernel
theorem dX6_why_57 : decode cX6_why 57 = .ok (.aload_n 0, 1) := by decide +kernel
theorem dX6_why_58 : decode cX6_why 58 = .ok (.iload_n 1, 1) := by decide +kernel
theorem dX6_why_59 : decode cX6_why 59 = .ok (.iload_n 2, 1) := by decide +kernel
theorem dX6_why_60 : decode cX6_why 60 = .ok (.iconst 0, 1) := by decide +kernel
theorem dX6_why_61 : decode cX6_why 61 = .ok (.invokevirtual 106, 3) := by decide +kernel
theorem dX6_why_64 : decode cX6_why 64 = .ok (.ifCond .eq 8, 3) := by decide +kernel
theorem dX6_why_67 : decode cX6_why 67 = .ok (.bipush 110, 2) := by decide +kernel
theorem dX6_why_69 : decode cX6_why 69 = .ok (.goto 5, 3) := by decide +kernel
theorem dX6_why_72 : decode cX6_why 72 = .ok (.bipush 114, 2) := by decide +kernel
theorem dX6_why_74 : decode cX6_why 74 = .ok (.ireturn, 1) := by decide +kernel
theorem dX6_underWay_0 : decode cX6_underWay 0 = .ok (.iconst 0, 1) := by decide +kernel
theorem dX6_underWay_1 : decode cX6_underWay 1 = .ok (.istore_n 1, 1) := by decide +kernel
theorem dX6_underWay_2 : decode cX6_underWay 2 = .ok (.iconst 0, 1) := by decide +kernel
theorem dX6_underWay_3 : decode cX6_underWay 3 = .ok (.istore_n 2, 1) := by decide +kernel
theorem dX6_underWay_4 : decode cX6_underWay 4 = .ok (.iload_n 2, 1) := by decide +kernel
theorem dX6_underWay_5 : decode cX6_underWay 5 = .ok (.aload_n 0, 1) := by decide +kernel
theorem dX6_underWay_6 : decode cX6_underWay 6 = .ok (.getfield 67, 3) := by decide +kernel
theorem dX6_underWay_9 : decode cX6_underWay 9 = .ok (.if_icmp .ge 26, 3) := by decide +kernel
theorem dX6_underWay_12 : decode cX6_underWay 12 = .ok (.iload_n 1, 1) := by decide +kernel
theorem dX6_underWay_13 : decode cX6_underWay 13 = .ok (.aload_n 0, 1) := by decide +kernel
theorem dX6_underWay_14 : decode cX6_underWay 14 = .ok (.getfield 32, 3) := by decide +kernel
theorem dX6_underWay_17 : decode cX6_underWay 17 = .ok (.iload_n 2, 1) := by decide +kernel
theorem dX6_underWay_18 : decode cX6_underWay 18 = .ok (.iaload, 1) := by decide +kernel
theorem dX6_underWay_19 : decode cX6_underWay 19 = .ok (.ifCond .ne 7, 3) := by decide +kernel
theorem dX6_underWay_22 : decode cX6_underWay 22 = .ok (.iconst 0, 1) := by decide +kernel
theorem dX6_underWay_23 : decode cX6_underWay 23 = .ok (.goto 4, 3) := by decide +kernel
theorem dX6_underWay_26 : decode cX6_underWay 26 = .ok (.iconst 1, 1) := by decide +kernel
theorem dX6_underWay_27 : decode cX6_underWay 27 = .ok (.iadd, 1) := by decide +kernel
theorem dX6_underWay_28 : decode cX6_underWay 28 = .ok (.istore_n 1, 1) := by decide +kernel
theorem dX6_underWay_29 : decode cX6_underWay 29 = .ok (.iinc 2 1, 3) := by decide +kernel
theorem dX6_underWay_32 : decode cX6_underWay 32 = .ok (.goto (-28), 3) := by decide +kernel
theorem dX6_underWay_35 : decode cX6_underWay 35 = .ok (.iload_n 1, 1) := by decide +kernel
theorem dX6_underWay_36 : decode cX6_underWay 36 = .ok (.ireturn, 1) := by decide +kernel
theorem dX6_move_0 : decode cX6_move 0 = .ok (.aload_n 0, 1) := by decide +kernel
theorem dX6_move_1 : decode cX6_move 1 = .ok (.aload_n 0, 1) := by decide +kernel
theorem dX6_move_2 : decode cX6_move 2 = .ok (.iload_n 1, 1) := by decide +kernel
theorem dX6_move_3 : decode cX6_move 3 = .ok (.invokevirtual 94, 3) := by decide +kernel
theorem dX6_move_6 : decode cX6_move 6 = .ok (.ifCond .ne 11, 3) := by decide +kernel
theorem dX6_move_9 : decode cX6_move 9 = .ok (.aload_n 0, 1) := by decide +kernel
theorem dX6_move_10 : decode cX6_move 10 = .ok (.iload_n 2, 1) := by decide +kernel
theorem dX6_move_11 : decode cX6_move 11 = .ok (.invokevirtual 74, 3) := by decide +kernel
theorem dX6_move_14 : decode cX6_move 14 = .ok (.ifCond .eq 7, 3) := by decide +kernel
theorem dX6_move_17 : decode cX6_move 17 = .ok (.iconst 1, 1) := by decide +kernel
theorem dX6_move_18 : decode cX6_move 18 = .ok (.goto 31, 3) := by decide +kernel
theorem dX6_move_21 : decode cX6_move 21 = .ok (.aload_n 0, 1) := by decide +kernel
theorem dX6_move_22 : decode cX6_move 22 = .ok (.iload_n 1, 1) := by decide +kernel
theorem dX6_move_23 : decode cX6_move 23 = .ok (.iload_n 2, 1) := by decide +kernel
theorem dX6_move_24 : decode cX6_move 24 = .ok (.invokevirtual 109, 3) := by decide +kernel
theorem dX6_move_27 : decode cX6_move 27 = .ok (.bipush 110, 2) := by decide +kernel
theorem dX6_move_29 : decode cX6_move 29 = .ok (.if_icmp .eq 7, 3) := by decide +kernel
theorem dX6_move_32 : decode cX6_move 32 = .ok (.iconst 2, 1) := by decide +kernel
theorem dX6_move_33 : decode cX6_move 33 = .ok (.goto 16, 3) := by decide +kernel
theorem dX6_move_36 : decode cX6_move 36 = .ok (.aload_n 0, 1) := by decide +kernel
theorem dX6_move_37 : decode cX6_move 37 = .ok (.invokevirtual 113, 3) := by decide +kernel
theorem dX6_move_40 : decode cX6_move 40 = .ok (.iconst 3, 1) := by decide +kernel
theorem dX6_move_41 : decode cX6_move 41 = .ok (.if_icmp .ne 7, 3) := by decide +kernel
theorem dX6_move_44 : decode cX6_move 44 = .ok (.iconst 3, 1) := by decide +kernel
theorem dX6_move_45 : decode cX6_move 45 = .ok (.goto 4, 3) := by decide +kernel
theorem dX6_move_48 : decode cX6_move 48 = .ok (.iconst 0, 1) := by decide +kernel
theorem dX6_move_49 : decode cX6_move 49 = .ok (.invokevirtual 70, 3) := by decide +kernel
theorem dX6_move_52 : decode cX6_move 52 = .ok (.ifCond .eq 5, 3) := by decide +kernel
theorem dX6_move_55 : decode cX6_move 55 = .ok (.iconst 0, 1) := by decide +kernel
theorem dX6_move_56 : decode cX6_move 56 = .ok (.ireturn, 1) := by decide +kernel
theorem dX6_move_57 : decode cX6_move 57 = .ok (.aload_n 0, 1) := by decide +kernel
theorem dX6_move_58 : decode cX6_move 58 = .ok (.getfield 32, 3) := by decide +kernel
theorem dX6_move_61 : decode cX6_move 61 = .ok (.iload_n 1, 1) := by decide +kernel
theorem dX6_move_62 : decode cX6_move 62 = .ok (.iconst 1, 1) := by decide +kernel
theorem dX6_move_63 : decode cX6_move 63 = .ok (.iastore, 1) := by decide +kernel
theorem dX6_move_64 : decode cX6_move 64 = .ok (.aload_n 0, 1) := by decide +kernel
theorem dX6_move_65 : decode cX6_move 65 = .ok (.getfield 35, 3) := by decide +kernel
theorem dX6_move_68 : decode cX6_move 68 = .ok (.iload_n 1, 1) := by decide +kernel
theorem dX6_move_69 : decode cX6_move 69 = .ok (.aload_n 0, 1) := by decide +kernel
theorem dX6_move_70 : decode cX6_move 70 = .ok (.getfield 29, 3) := by decide +kernel
theorem dX6_move_73 : decode cX6_move 73 = .ok (.iload_n 1, 1) := by decide +kernel
theorem dX6_move_74 : decode cX6_move 74 = .ok (.iaload, 1) := by decide +kernel
theorem dX6_move_75 : decode cX6_move 75 = .ok (.iastore, 1) := by decide +kernel
theorem dX6_move_76 : decode cX6_move 76 = .ok (.aload_n 0, 1) := by decide +kernel
theorem dX6_move_77 : decode cX6_move 77 = .ok (.getfield 38, 3) := by decide +kernel
theorem dX6_move_80 : decode cX6_move 80 = .ok (.iload_n 1, 1) := by decide +kernel
theorem dX6_move_81 : decode cX6_move 81 = .ok (.iload_n 2, 1) := by decide +kernel
theorem dX6_move_82 : decode cX6_move 82 = .ok (.iastore, 1) := by decide +kernel
theorem dX6_move_83 : decode cX6_move 83 = .ok (.aload_n 0, 1) := by decide +kernel
theorem dX6_move_84 : decode cX6_move 84 = .ok (.getfield 41, 3) := by decide +kernel
theorem dX6_move_87 : decode cX6_move 87 = .ok (.iload_n 1, 1) := by decide +kernel
theorem dX6_move_88 : decode cX6_move 88 = .ok (.aload_n 0, 1) := by decide +kernel
theorem dX6_move_89 : decode cX6_move 89 = .ok (.getfield 17, 3) := by decide +kernel
theorem dX6_move_92 : decode cX6_move 92 = .ok (.iconst 3, 1) := by decide +kernel
theorem dX6_move_93 : decode cX6_move 93 = .ok (.iload_n 1, 1) := by decide +kernel
theorem dX6_move_94 : decode cX6_move 94 = .ok (.imul, 1) := by decide +kernel
theorem dX6_move_95 : decode cX6_move 95 = .ok (.iaload, 1) := by decide +kernel
theorem dX6_move_96 : decode cX6_move 96 = .ok (.bipush 19, 2) := by decide +kernel
theorem dX6_move_98 : decode cX6_move 98 = .ok (.iadd, 1) := by decide +kernel
theorem dX6_move_99 : decode cX6_move 99 = .ok (.bipush 20, 2) := by decide +kernel
theorem dX6_move_101 : decode cX6_move 101 = .ok (.idiv, 1) := by decide +kernel
theorem dX6_move_102 : decode cX6_move 102 = .ok (.iastore, 1) := by decide +kernel
theorem dX6_move_103 : decode cX6_move 103 = .ok (.aload_n 0, 1) := by decide +kernel
theorem dX6_move_104 : decode cX6_move 104 = .ok (.getfield 41, 3) := by decide +kernel
theorem dX6_move_107 : decode cX6_move 107 = .ok (.iload_n 1, 1) := by decide +kernel
theorem dX6_move_108 : decode cX6_move 108 = .ok (.iaload, 1) := by decide +kernel
theorem dX6_move_109 : decode cX6_move 109 = .ok (.ireturn, 1) := by decide +kernel
theorem dX6_reason_0 : decode cX6_reason 0 = .ok (.aload_n 0, 1) := by decide +kernel
theorem dX6_reason_1 : decode cX6_reason 1 = .ok (.aload_n 0, 1) := by decide +kernel
theorem dX6_reason_2 : decode cX6_reason 2 = .ok (.iload_n 1, 1) := by decide +kernel
theorem dX6_reason_3 : decode cX6_reason 3 = .ok (.invokevirtual 94, 3) := by decide +kernel
theorem dX6_reason_6 : decode cX6_reason 6 = .ok (.ifCond .ne 11, 3) := by decide +kernel
theorem dX6_reason_9 : decode cX6_reason 9 = .ok (.aload_n 0, 1) := by decide +kernel
theorem dX6_reason_10 : decode cX6_reason 10 = .ok (.iload_n 2, 1) := by decide +kernel
theorem dX6_reason_11 : decode cX6_reason 11 = .ok (.invokevirtual 74, 3) := by decide +kernel
theorem dX6_reason_14 : decode cX6_reason 14 = .ok (.ifCond .eq 7, 3) := by decide +kernel
theorem dX6_reason_17 : decode cX6_reason 17 = .ok (.iconst 1, 1) := by decide +kernel
theorem dX6_reason_18 : decode cX6_reason 18 = .ok (.goto 4, 3) := by decide +kernel
theorem dX6_reason_21 : decode cX6_reason 21 = .ok (.iconst 0, 1) := by decide +kernel
theorem dX6_reason_22 : decode cX6_reason 22 = .ok (.invokevirtual 70, 3) := by decide +kernel
theorem dX6_reason_25 : decode cX6_reason 25 = .ok (.ifCond .eq 8, 3) := by decide +kernel
theorem dX6_reason_28 : decode cX6_reason 28 = .ok (.bipush 97, 2) := by decide +kernel
theorem dX6_reason_30 : decode cX6_reason 30 = .ok (.goto 9, 3) := by decide +kernel
theorem dX6_reason_33 : decode cX6_reason 33 = .ok (.aload_n 0, 1) := by decide +kernel
theorem dX6_reason_34 : decode cX6_reason 34 = .ok (.iload_n 1, 1) := by decide +kernel
theorem dX6_reason_35 : decode cX6_reason 35 = .ok (.iload_n 2, 1) := by decide +kernel
theorem dX6_reason_36 : decode cX6_reason 36 = .ok (.invokevirtual 109, 3) := by decide +kernel
theorem dX6_reason_39 : decode cX6_reason 39 = .ok (.ireturn, 1) := by decide +kernel
theorem dX6_fail_0 : decode cX6_fail 0 = .ok (.aload_n 0, 1) := by decide +kernel
theorem dX6_fail_1 : decode cX6_fail 1 = .ok (.aload_n 0, 1) := by decide +kernel
theorem dX6_fail_2 : decode cX6_fail 2 = .ok (.iload_n 1, 1) := by decide +kernel
theorem dX6_fail_3 : decode cX6_fail 3 = .ok (.invokevirtual 94, 3) := by decide +kernel
theorem dX6_fail_6 : decode cX6_fail 6 = .ok (.ifCond .eq 7, 3) := by decide +kernel
theorem dX6_fail_9 : decode cX6_fail 9 = .ok (.iconst 1, 1) := by decide +kernel
theorem dX6_fail_10 : decode cX6_fail 10 = .ok (.goto 17, 3) := by decide +kernel
theorem dX6_fail_13 : decode cX6_fail 13 = .ok (.aload_n 0, 1) := by decide +kernel
theorem dX6_fail_14 : decode cX6_fail 14 = .ok (.getfield 32, 3) := by decide +kernel
theorem dX6_fail_17 : decode cX6_fail 17 = .ok (.iload_n 1, 1) := by decide +kernel
theorem dX6_fail_18 : decode cX6_fail 18 = .ok (.iaload, 1) := by decide +kernel
theorem dX6_fail_19 : decode cX6_fail 19 = .ok (.ifCond .ne 7, 3) := by decide +kernel
theorem dX6_fail_22 : decode cX6_fail 22 = .ok (.iconst 2, 1) := by decide +kernel
theorem dX6_fail_23 : decode cX6_fail 23 = .ok (.goto 4, 3) := by decide +kernel
theorem dX6_fail_26 : decode cX6_fail 26 = .ok (.iconst 0, 1) := by decide +kernel
theorem dX6_fail_27 : decode cX6_fail 27 = .ok (.invokevirtual 70, 3) := by decide +kernel
theorem dX6_fail_30 : decode cX6_fail 30 = .ok (.ifCond .eq 6, 3) := by decide +kernel
theorem dX6_fail_33 : decode cX6_fail 33 = .ok (.bipush 97, 2) := by decide +kernel
theorem dX6_fail_35 : decode cX6_fail 35 = .ok (.ireturn, 1) := by decide +kernel
theorem dX6_fail_36 : decode cX6_fail 36 = .ok (.aload_n 0, 1) := by decide +kernel
theorem dX6_fail_37 : decode cX6_fail 37 = .ok (.getfield 32, 3) := by decide +kernel
theorem dX6_fail_40 : decode cX6_fail 40 = .ok (.iload_n 1, 1) := by decide +kernel
theorem dX6_fail_41 : decode cX6_fail 41 = .ok (.iaload, 1) := by decide +kernel
theorem dX6_fail_42 : decode cX6_fail 42 = .ok (.iconst 3, 1) := by decide +kernel
theorem dX6_fail_43 : decode cX6_fail 43 = .ok (.if_icmp .eq 13, 3) := by decide +kernel
theorem dX6_fail_46 : decode cX6_fail 46 = .ok (.aload_n 0, 1) := by decide +kernel
theorem dX6_fail_47 : decode cX6_fail 47 = .ok (.getfield 32, 3) := by decide +kernel
theorem dX6_fail_50 : decode cX6_fail 50 = .ok (.iload_n 1, 1) := by decide +kernel
theorem dX6_fail_51 : decode cX6_fail 51 = .ok (.iconst 0, 1) := by decide +kernel
theorem dX6_fail_52 : decode cX6_fail 52 = .ok (.iastore, 1) := by decide +kernel
theorem dX6_fail_53 : decode cX6_fail 53 = .ok (.bipush 101, 2) := by decide +kernel
theorem dX6_fail_55 : decode cX6_fail 55 = .ok (.ireturn, 1) := by decide +kernel
theorem dX6_fail_56 : decode cX6_fail 56 = .ok (.aload_n 0, 1) := by decide +kernel
theorem dX6_fail_57 : decode cX6_fail 57 = .ok (.getfield 41, 3) := by decide +kernel
theorem dX6_fail_60 : decode cX6_fail 60 = .ok (.iload_n 1, 1) := by decide +kernel
theorem dX6_fail_61 : decode cX6_fail 61 = .ok (.iconst 2, 1) := by decide +kernel
theorem dX6_fail_62 : decode cX6_fail 62 = .ok (.iastore, 1) := by decide +kernel
theorem dX6_fail_63 : decode cX6_fail 63 = .ok (.aload_n 0, 1) := by decide +kernel
theorem dX6_fail_64 : decode cX6_fail 64 = .ok (.getfield 35, 3) := by decide +kernel
theorem dX6_fail_67 : decode cX6_fail 67 = .ok (.iload_n 1, 1) := by decide +kernel
theorem dX6_fail_68 : decode cX6_fail 68 = .ok (.iaload, 1) := by decide +kernel
theorem dX6_fail_69 : decode cX6_fail 69 = .ok (.istore_n 2, 1) := by decide +kernel
theorem dX6_fail_70 : decode cX6_fail 70 = .ok (.aload_n 0, 1) := by decide +kernel
theorem dX6_fail_71 : decode cX6_fail 71 = .ok (.getfield 13, 3) := by decide +kernel
theorem dX6_fail_74 : decode cX6_fail 74 = .ok (.iload_n 2, 1) := by decide +kernel
theorem dX6_fail_75 : decode cX6_fail 75 = .ok (.baload, 1) := by decide +kernel
theorem dX6_fail_76 : decode cX6_fail 76 = .ok (.ifCond .ne 22, 3) := by decide +kernel
theorem dX6_fail_79 : decode cX6_fail 79 = .ok (.aload_n 0, 1) := by decide +kernel
theorem dX6_fail_80 : decode cX6_fail 80 = .ok (.iload_n 1, 1) := by decide +kernel
theorem dX6_fail_81 : decode cX6_fail 81 = .ok (.iload_n 2, 1) := by decide +kernel
theorem dX6_fail_82 : decode cX6_fail 82 = .ok (.invokevirtual 103, 3) := by decide +kernel
theorem dX6_fail_85 : decode cX6_fail 85 = .ok (.ifCond .ne 13, 3) := by decide +kernel
theorem dX6_fail_88 : decode cX6_fail 88 = .ok (.aload_n 0, 1) := by decide +kernel
theorem dX6_fail_89 : decode cX6_fail 89 = .ok (.iload_n 1, 1) := by decide +kernel
theorem dX6_fail_90 : decode cX6_fail 90 = .ok (.iload_n 2, 1) := by decide +kernel
theorem dX6_fail_91 : decode cX6_fail 91 = .ok (.iconst 1, 1) := by decide +kernel
theorem dX6_fail_92 : decode cX6_fail 92 = .ok (.invokevirtual 106, 3) := by decide +kernel
theorem dX6_fail_95 : decode cX6_fail 95 = .ok (.ifCond .ne 6, 3) := by decide +kernel
theorem dX6_fail_98 : decode cX6_fail 98 = .ok (.bipush 97, 2) := by decide +kernel
theorem dX6_fail_100 : decode cX6_fail 100 = .ok (.ireturn, 1) := by decide +kernel
theorem dX6_fail_101 : decode cX6_fail 101 = .ok (.aload_n 0, 1) := by decide +kernel
theorem dX6_fail_102 : decode cX6_fail 102 = .ok (.getfield 35, 3) := by decide +kernel
theorem dX6_fail_105 : decode cX6_fail 105 = .ok (.iload_n 1, 1) := by decide +kernel
theorem dX6_fail_106 : decode cX6_fail 106 = .ok (.aload_n 0, 1) := by decide +kernel
theorem dX6_fail_107 : decode cX6_fail 107 = .ok (.getfield 38, 3) := by decide +kernel
theorem dX6_fail_110 : decode cX6_fail 110 = .ok (.iload_n 1, 1) := by decide +kernel
theorem dX6_fail_111 : decode cX6_fail 111 = .ok (.iaload, 1) := by decide +kernel
theorem dX6_fail_112 : decode cX6_fail 112 = .ok (.iastore, 1) := by decide +kernel
theorem dX6_fail_113 : decode cX6_fail 113 = .ok (.aload_n 0, 1) := by decide +kernel
theorem dX6_fail_114 : decode cX6_fail 114 = .ok (.getfield 38, 3) := by decide +kernel
theorem dX6_fail_117 : decode cX6_fail 117 = .ok (.iload_n 1, 1) := by decide +kernel
theorem dX6_fail_118 : decode cX6_fail 118 = .ok (.iload_n 2, 1) := by decide +kernel
theorem dX6_fail_119 : decode cX6_fail 119 = .ok (.iastore, 1) := by decide +kernel
theorem dX6_fail_120 : decode cX6_fail 120 = .ok (.aload_n 0, 1) := by decide +kernel
theorem dX6_fail_121 : decode cX6_fail 121 = .ok (.getfield 29, 3) := by decide +kernel
theorem dX6_fail_124 : decode cX6_fail 124 = .ok (.iload_n 1, 1) := by decide +kernel
theorem dX6_fail_125 : decode cX6_fail 125 = .ok (.iload_n 2, 1) := by decide +kernel
theorem dX6_fail_126 : decode cX6_fail 126 = .ok (.iastore, 1) := by decide +kernel
theorem dX6_fail_127 : decode cX6_fail 127 = .ok (.aload_n 0, 1) := by decide +kernel
theorem dX6_fail_128 : decode cX6_fail 128 = .ok (.dup, 1) := by decide +kernel
theorem dX6_fail_129 : decode cX6_fail 129 = .ok (.getfield 117, 3) := by decide +kernel
theorem dX6_fail_132 : decode cX6_fail 132 = .ok (.iconst 1, 1) := by decide +kernel
theorem dX6_fail_133 : decode cX6_fail 133 = .ok (.iadd, 1) := by decide +kernel
theorem dX6_fail_134 : decode cX6_fail 134 = .ok (.putfield 117, 3) := by decide +kernel
theorem dX6_fail_137 : decode cX6_fail 137 = .ok (.bipush 98, 2) := by decide +kernel
theorem dX6_fail_139 : decode cX6_fail 139 = .ok (.ireturn, 1) := by decide +kernel
theorem dX6_isTooMuch_0 : decode cX6_isTooMuch 0 = .ok (.iconst 0, 1) := by decide +kernel
theorem dX6_isTooMuch_1 : decode cX6_isTooMuch 1 = .ok (.istore_n 2, 1) := by decide +kernel
theorem dX6_isTooMuch_2 : decode cX6_isTooMuch 2 = .ok (.iload_n 2, 1) := by decide +kernel
theorem dX6_isTooMuch_3 : decode cX6_isTooMuch 3 = .ok (.iconst 3, 1) := by decide +kernel
theorem dX6_isTooMuch_4 : decode cX6_isTooMuch 4 = .ok (.if_icmp .ge 21, 3) := by decide +kernel
theorem dX6_isTooMuch_7 : decode cX6_isTooMuch 7 = .ok (.aload_n 0, 1) := by decide +kernel
theorem dX6_isTooMuch_8 : decode cX6_isTooMuch 8 = .ok (.iload_n 1, 1) := by decide +kernel
theorem dX6_isTooMuch_9 : decode cX6_isTooMuch 9 = .ok (.iload_n 2, 1) := by decide +kernel
theorem dX6_isTooMuch_10 : decode cX6_isTooMuch 10 = .ok (.iconst 0, 1) := by decide +kernel
theorem dX6_isTooMuch_11 : decode cX6_isTooMuch 11 = .ok (.invokevirtual 91, 3) := by decide +kernel
theorem dX6_isTooMuch_14 : decode cX6_isTooMuch 14 = .ok (.ifCond .eq 5, 3) := by decide +kernel
theorem dX6_isTooMuch_17 : decode cX6_isTooMuch 17 = .ok (.iconst 1, 1) := by decide +kernel
theorem dX6_isTooMuch_18 : decode cX6_isTooMuch 18 = .ok (.ireturn, 1) := by decide +kernel
theorem dX6_isTooMuch_19 : decode cX6_isTooMuch 19 = .ok (.iinc 2 1, 3) := by decide +kernel
theorem dX6_isTooMuch_22 : decode cX6_isTooMuch 22 = .ok (.goto (-20), 3) := by decide +kernel
theorem dX6_isTooMuch_25 : decode cX6_isTooMuch 25 = .ok (.iconst 0, 1) := by decide +kernel
theorem dX6_isTooMuch_26 : decode cX6_isTooMuch 26 = .ok (.ireturn, 1) := by decide +kernel
theorem dX6_goesOn_0 : decode cX6_goesOn 0 = .ok (.aload_n 0, 1) := by decide +kernel
theorem dX6_goesOn_1 : decode cX6_goesOn 1 = .ok (.getfield 32, 3) := by decide +kernel
theorem dX6_goesOn_4 : decode cX6_goesOn 4 = .ok (.iload_n 1, 1) := by decide +kernel
theorem dX6_goesOn_5 : decode cX6_goesOn 5 = .ok (.iaload, 1) := by decide +kernel
theorem dX6_goesOn_6 : decode cX6_goesOn 6 = .ok (.iconst 2, 1) := by decide +kernel
theorem dX6_goesOn_7 : decode cX6_goesOn 7 = .ok (.if_icmp .ne 48, 3) := by decide +kernel
theorem dX6_goesOn_10 : decode cX6_goesOn 10 = .ok (.aload_n 0, 1) := by decide +kernel
theorem dX6_goesOn_11 : decode cX6_goesOn 11 = .ok (.iload_n 1, 1) := by decide +kernel
theorem dX6_goesOn_12 : decode cX6_goesOn 12 = .ok (.aload_n 0, 1) := by decide +kernel
theorem dX6_goesOn_13 : decode cX6_goesOn 13 = .ok (.getfield 120, 3) := by decide +kernel
theorem dX6_goesOn_16 : decode cX6_goesOn 16 = .ok (.bipush 24, 2) := by decide +kernel
theorem dX6_goesOn_18 : decode cX6_goesOn 18 = .ok (.irem, 1) := by decide +kernel
theorem dX6_goesOn_19 : decode cX6_goesOn 19 = .ok (.invokevirtual 123, 3) := by decide +kernel
theorem dX6_goesOn_22 : decode cX6_goesOn 22 = .ok (.ifCond .ne 5, 3) := by decide +kernel
theorem dX6_goesOn_25 : decode cX6_goesOn 25 = .ok (.iconst 0, 1) := by decide +kernel
theorem dX6_goesOn_26 : decode cX6_goesOn 26 = .ok (.ireturn, 1) := by decide +kernel
theorem dX6_goesOn_27 : decode cX6_goesOn 27 = .ok (.aload_n 0, 1) := by decide +kernel
theorem dX6_goesOn_28 : decode cX6_goesOn 28 = .ok (.getfield 29, 3) := by decide +kernel
theorem dX6_goesOn_31 : decode cX6_goesOn 31 = .ok (.iload_n 1, 1) := by decide +kernel
theorem dX6_goesOn_32 : decode cX6_goesOn 32 = .ok (.aload_n 0, 1) := by decide +kernel
theorem dX6_goesOn_33 : decode cX6_goesOn 33 = .ok (.getfield 38, 3) := by decide +kernel
theorem dX6_goesOn_36 : decode cX6_goesOn 36 = .ok (.iload_n 1, 1) := by decide +kernel
theorem dX6_goesOn_37 : decode cX6_goesOn 37 = .ok (.iaload, 1) := by decide +kernel
theorem dX6_goesOn_38 : decode cX6_goesOn 38 = .ok (.iastore, 1) := by decide +kernel
theorem dX6_goesOn_39 : decode cX6_goesOn 39 = .ok (.aload_n 0, 1) := by decide +kernel
theorem dX6_goesOn_40 : decode cX6_goesOn 40 = .ok (.getfield 32, 3) := by decide +kernel
theorem dX6_goesOn_43 : decode cX6_goesOn 43 = .ok (.iload_n 1, 1) := by decide +kernel
theorem dX6_goesOn_44 : decode cX6_goesOn 44 = .ok (.iconst 3, 1) := by decide +kernel
theorem dX6_goesOn_45 : decode cX6_goesOn 45 = .ok (.iastore, 1) := by decide +kernel
theorem dX6_goesOn_46 : decode cX6_goesOn 46 = .ok (.aload_n 0, 1) := by decide +kernel
theorem dX6_goesOn_47 : decode cX6_goesOn 47 = .ok (.getfield 41, 3) := by decide +kernel
theorem dX6_goesOn_50 : decode cX6_goesOn 50 = .ok (.iload_n 1, 1) := by decide +kernel
theorem dX6_goesOn_51 : decode cX6_goesOn 51 = .ok (.iconst 2, 1) := by decide +kernel
theorem dX6_goesOn_52 : decode cX6_goesOn 52 = .ok (.iastore, 1) := by decide +kernel
theorem dX6_goesOn_53 : decode cX6_goesOn 53 = .ok (.iconst 1, 1) := by decide +kernel
theorem dX6_goesOn_54 : decode cX6_goesOn 54 = .ok (.ireturn, 1) := by decide +kernel
theorem dX6_goesOn_55 : decode cX6_goesOn 55 = .ok (.aload_n 0, 1) := by decide +kernel
theorem dX6_goesOn_56 : decode cX6_goesOn 56 = .ok (.getfield 32, 3) := by decide +kernel
theorem dX6_goesOn_59 : decode cX6_goesOn 59 = .ok (.iload_n 1, 1) := by decide +kernel
theorem dX6_goesOn_60 : decode cX6_goesOn 60 = .ok (.iaload, 1) := by decide +kernel
theorem dX6_goesOn_61 : decode cX6_goesOn 61 = .ok (.ifCond .ne 5, 3) := by decide +kernel
theorem dX6_goesOn_64 : decode cX6_goesOn 64 = .ok (.iconst 0, 1) := by decide +kernel
theorem dX6_goesOn_65 : decode cX6_goesOn 65 = .ok (.ireturn, 1) := by decide +kernel
theorem dX6_goesOn_66 : decode cX6_goesOn 66 = .ok (.aload_n 0, 1) := by decide +kernel
theorem dX6_goesOn_67 : decode cX6_goesOn 67 = .ok (.getfield 41, 3) := by decide +kernel
theorem dX6_goesOn_70 : decode cX6_goesOn 70 = .ok (.iload_n 1, 1) := by decide +kernel
theorem dX6_goesOn_71 : decode cX6_goesOn 71 = .ok (.dup2, 1) := by decide +kernel
theorem dX6_goesOn_72 : decode cX6_goesOn 72 = .ok (.iaload, 1) := by decide +kernel
theorem dX6_goesOn_73 : decode cX6_goesOn 73 = .ok (.iconst 1, 1) := by decide +kernel
theorem dX6_goesOn_74 : decode cX6_goesOn 74 = .ok (.isub, 1) := by decide +kernel
theorem dX6_goesOn_75 : decode cX6_goesOn 75 = .ok (.iastore, 1) := by decide +kernel
theorem dX6_goesOn_76 : decode cX6_goesOn 76 = .ok (.aload_n 0, 1) := by decide +kernel
theorem dX6_goesOn_77 : decode cX6_goesOn 77 = .ok (.getfield 41, 3) := by decide +kernel
theorem dX6_goesOn_80 : decode cX6_goesOn 80 = .ok (.iload_n 1, 1) := by decide +kernel
theorem dX6_goesOn_81 : decode cX6_goesOn 81 = .ok (.iaload, 1) := by decide +kernel
theorem dX6_goesOn_82 : decode cX6_goesOn 82 = .ok (.ifCond .ne 24, 3) := by decide +kernel
theorem dX6_goesOn_85 : decode cX6_goesOn 85 = .ok (.aload_n 0, 1) := by decide +kernel
theorem dX6_goesOn_86 : decode cX6_goesOn 86 = .ok (.getfield 32, 3) := by decide +kernel
theorem dX6_goesOn_89 : decode cX6_goesOn 89 = .ok (.iload_n 1, 1) := by decide +kernel
theorem dX6_goesOn_90 : decode cX6_goesOn 90 = .ok (.aload_n 0, 1) := by decide +kernel
theorem dX6_goesOn_91 : decode cX6_goesOn 91 = .ok (.getfield 32, 3) := by decide +kernel
theorem dX6_goesOn_94 : decode cX6_goesOn 94 = .ok (.iload_n 1, 1) := by decide +kernel
theorem dX6_goesOn_95 : decode cX6_goesOn 95 = .ok (.iaload, 1) := by decide +kernel
theorem dX6_goesOn_96 : decode cX6_goesOn 96 = .ok (.iconst 1, 1) := by decide +kernel
theorem dX6_goesOn_97 : decode cX6_goesOn 97 = .ok (.if_icmp .ne 7, 3) := by decide +kernel
theorem dX6_goesOn_100 : decode cX6_goesOn 100 = .ok (.iconst 2, 1) := by decide +kernel
theorem dX6_goesOn_101 : decode cX6_goesOn 101 = .ok (.goto 4, 3) := by decide +kernel
theorem dX6_goesOn_104 : decode cX6_goesOn 104 = .ok (.iconst 0, 1) := by decide +kernel
theorem dX6_goesOn_105 : decode cX6_goesOn 105 = .ok (.iastore, 1) := by decide +kernel
theorem dX6_goesOn_106 : decode cX6_goesOn 106 = .ok (.iconst 0, 1) := by decide +kernel
theorem dX6_goesOn_107 : decode cX6_goesOn 107 = .ok (.ireturn, 1) := by decide +kernel
theorem dX6_hour_0 : decode cX6_hour 0 = .ok (.iconst 0, 1) := by decide +kernel
theorem dX6_hour_1 : decode cX6_hour 1 = .ok (.istore_n 1, 1) := by decide +kernel
theorem dX6_hour_2 : decode cX6_hour 2 = .ok (.iconst 0, 1) := by decide +kernel
theorem dX6_hour_3 : decode cX6_hour 3 = .ok (.istore_n 2, 1) := by decide +kernel
theorem dX6_hour_4 : decode cX6_hour 4 = .ok (.iload_n 2, 1) := by decide +kernel
theorem dX6_hour_5 : decode cX6_hour 5 = .ok (.aload_n 0, 1) := by decide +kernel
theorem dX6_hour_6 : decode cX6_hour 6 = .ok (.getfield 67, 3) := by decide +kernel
theorem dX6_hour_9 : decode cX6_hour 9 = .ok (.if_icmp .ge 36, 3) := by decide +kernel
theorem dX6_hour_12 : decode cX6_hour 12 = .ok (.aload_n 0, 1) := by decide +kernel
theorem dX6_hour_13 : decode cX6_hour 13 = .ok (.dup, 1) := by decide +kernel
theorem dX6_hour_14 : decode cX6_hour 14 = .ok (.getfield 126, 3) := by decide +kernel
theorem dX6_hour_17 : decode cX6_hour 17 = .ok (.aload_n 0, 1) := by decide +kernel
theorem dX6_hour_18 : decode cX6_hour 18 = .ok (.aload_n 0, 1) := by decide +kernel
theorem dX6_hour_19 : decode cX6_hour 19 = .ok (.getfield 29, 3) := by decide +kernel
theorem dX6_hour_22 : decode cX6_hour 22 = .ok (.iload_n 2, 1) := by decide +kernel
theorem dX6_hour_23 : decode cX6_hour 23 = .ok (.iaload, 1) := by decide +kernel
theorem dX6_hour_24 : decode cX6_hour 24 = .ok (.invokevirtual 130, 3) := by decide +kernel
theorem dX6_hour_27 : decode cX6_hour 27 = .ok (.ifCond .eq 7, 3) := by decide +kernel
theorem dX6_hour_30 : decode cX6_hour 30 = .ok (.lconst 1, 1) := by decide +kernel
theorem dX6_hour_31 : decode cX6_hour 31 = .ok (.goto 4, 3) := by decide +kernel
theorem dX6_hour_34 : decode cX6_hour 34 = .ok (.lconst 0, 1) := by decide +kernel
theorem dX6_hour_35 : decode cX6_hour 35 = .ok (.ladd, 1) := by decide +kernel
theorem dX6_hour_36 : decode cX6_hour 36 = .ok (.putfield 126, 3) := by decide +kernel
theorem dX6_hour_39 : decode cX6_hour 39 = .ok (.iinc 2 1, 3) := by decide +kernel
theorem dX6_hour_42 : decode cX6_hour 42 = .ok (.goto (-38), 3) := by decide +kernel
theorem dX6_hour_45 : decode cX6_hour 45 = .ok (.iconst 0, 1) := by decide +kernel
theorem dX6_hour_46 : decode cX6_hour 46 = .ok (.istore_n 2, 1) := by decide +kernel
theorem dX6_hour_47 : decode cX6_hour 47 = .ok (.iload_n 2, 1) := by decide +kernel
theorem dX6_hour_48 : decode cX6_hour 48 = .ok (.aload_n 0, 1) := by decide +kernel
theorem dX6_hour_49 : decode cX6_hour 49 = .ok (.getfield 67, 3) := by decide +kernel
theorem dX6_hour_52 : decode cX6_hour 52 = .ok (.if_icmp .ge 25, 3) := by decide +kernel
theorem dX6_hour_55 : decode cX6_hour 55 = .ok (.iload_n 1, 1) := by decide +kernel
theorem dX6_hour_56 : decode cX6_hour 56 = .ok (.aload_n 0, 1) := by decide +kernel
theorem dX6_hour_57 : decode cX6_hour 57 = .ok (.iload_n 2, 1) := by decide +kernel
theorem dX6_hour_58 : decode cX6_hour 58 = .ok (.invokevirtual 133, 3) := by decide +kernel
theorem dX6_hour_61 : decode cX6_hour 61 = .ok (.ifCond .eq 7, 3) := by decide +kernel
theorem dX6_hour_64 : decode cX6_hour 64 = .ok (.iconst 1, 1) := by decide +kernel
theorem dX6_hour_65 : decode cX6_hour 65 = .ok (.goto 4, 3) := by decide +kernel
theorem dX6_hour_68 : decode cX6_hour 68 = .ok (.iconst 0, 1) := by decide +kernel
theorem dX6_hour_69 : decode cX6_hour 69 = .ok (.iadd, 1) := by decide +kernel
theorem dX6_hour_70 : decode cX6_hour 70 = .ok (.istore_n 1, 1) := by decide +kernel
theorem dX6_hour_71 : decode cX6_hour 71 = .ok (.iinc 2 1, 3) := by decide +kernel
theorem dX6_hour_74 : decode cX6_hour 74 = .ok (.goto (-27), 3) := by decide +kernel
theorem dX6_hour_77 : decode cX6_hour 77 = .ok (.aload_n 0, 1) := by decide +kernel
theorem dX6_hour_78 : decode cX6_hour 78 = .ok (.dup, 1) := by decide +kernel
theorem dX6_hour_79 : decode cX6_hour 79 = .ok (.getfield 120, 3) := by decide +kernel
theorem dX6_hour_82 : decode cX6_hour 82 = .ok (.iconst 1, 1) := by decide +kernel
theorem dX6_hour_83 : decode cX6_hour 83 = .ok (.iadd, 1) := by decide +kernel
theorem dX6_hour_84 : decode cX6_hour 84 = .ok (.putfield 120, 3) := by decide +kernel
theorem dX6_hour_87 : decode cX6_hour 87 = .ok (.iconst 0, 1) := by decide +kernel
theorem dX6_hour_88 : decode cX6_hour 88 = .ok (.istore_n 2, 1) := by decide +kernel
theorem dX6_hour_89 : decode cX6_hour 89 = .ok (.iload_n 2, 1) := by decide +kernel
theorem dX6_hour_90 : decode cX6_hour 90 = .ok (.aload_n 0, 1) := by decide +kernel
theorem dX6_hour_91 : decode cX6_hour 91 = .ok (.getfield 67, 3) := by decide +kernel
theorem dX6_hour_94 : decode cX6_hour 94 = .ok (.if_icmp .ge 69, 3) := by decide +kernel
theorem dX6_hour_97 : decode cX6_hour 97 = .ok (.aload_n 0, 1) := by decide +kernel
theorem dX6_hour_98 : decode cX6_hour 98 = .ok (.getfield 120, 3) := by decide +kernel
theorem dX6_hour_101 : decode cX6_hour 101 = .ok (.bipush 24, 2) := by decide +kernel
theorem dX6_hour_103 : decode cX6_hour 103 = .ok (.irem, 1) := by decide +kernel
theorem dX6_hour_104 : decode cX6_hour 104 = .ok (.ifCond .ne 59, 3) := by decide +kernel
theorem dX6_hour_107 : decode cX6_hour 107 = .ok (.aload_n 0, 1) := by decide +kernel
theorem dX6_hour_108 : decode cX6_hour 108 = .ok (.getfield 17, 3) := by decide +kernel
theorem dX6_hour_111 : decode cX6_hour 111 = .ok (.iconst 3, 1) := by decide +kernel
theorem dX6_hour_112 : decode cX6_hour 112 = .ok (.iload_n 2, 1) := by decide +kernel
theorem dX6_hour_113 : decode cX6_hour 113 = .ok (.imul, 1) := by decide +kernel
theorem dX6_hour_114 : decode cX6_hour 114 = .ok (.aload_n 0, 1) := by decide +kernel
theorem dX6_hour_115 : decode cX6_hour 115 = .ok (.getfield 17, 3) := by decide +kernel
theorem dX6_hour_118 : decode cX6_hour 118 = .ok (.iconst 3, 1) := by decide +kernel
theorem dX6_hour_119 : decode cX6_hour 119 = .ok (.iload_n 2, 1) := by decide +kernel
theorem dX6_hour_120 : decode cX6_hour 120 = .ok (.imul, 1) := by decide +kernel
theorem dX6_hour_121 : decode cX6_hour 121 = .ok (.iaload, 1) := by decide +kernel
theorem dX6_hour_122 : decode cX6_hour 122 = .ok (.aload_n 0, 1) := by decide +kernel
theorem dX6_hour_123 : decode cX6_hour 123 = .ok (.getfield 20, 3) := by decide +kernel
theorem dX6_hour_126 : decode cX6_hour 126 = .ok (.iload_n 2, 1) := by decide +kernel
theorem dX6_hour_127 : decode cX6_hour 127 = .ok (.iaload, 1) := by decide +kernel
theorem dX6_hour_128 : decode cX6_hour 128 = .ok (.iadd, 1) := by decide +kernel
theorem dX6_hour_129 : decode cX6_hour 129 = .ok (.sipush 999, 3) := by decide +kernel
theorem dX6_hour_132 : decode cX6_hour 132 = .ok (.if_icmp .ge 21, 3) := by decide +kernel
theorem dX6_hour_135 : decode cX6_hour 135 = .ok (.aload_n 0, 1) := by decide +kernel
theorem dX6_hour_136 : decode cX6_hour 136 = .ok (.getfield 17, 3) := by decide +kernel
theorem dX6_hour_139 : decode cX6_hour 139 = .ok (.iconst 3, 1) := by decide +kernel
theorem dX6_hour_140 : decode cX6_hour 140 = .ok (.iload_n 2, 1) := by decide +kernel
theorem dX6_hour_141 : decode cX6_hour 141 = .ok (.imul, 1) := by decide +kernel
theorem dX6_hour_142 : decode cX6_hour 142 = .ok (.iaload, 1) := by decide +kernel
theorem dX6_hour_143 : decode cX6_hour 143 = .ok (.aload_n 0, 1) := by decide +kernel
theorem dX6_hour_144 : decode cX6_hour 144 = .ok (.getfield 20, 3) := by decide +kernel
theorem dX6_hour_147 : decode cX6_hour 147 = .ok (.iload_n 2, 1) := by decide +kernel
theorem dX6_hour_148 : decode cX6_hour 148 = .ok (.iaload, 1) := by decide +kernel
theorem dX6_hour_149 : decode cX6_hour 149 = .ok (.iadd, 1) := by decide +kernel
theorem dX6_hour_150 : decode cX6_hour 150 = .ok (.goto 6, 3) := by decide +kernel
theorem dX6_hour_153 : decode cX6_hour 153 = .ok (.sipush 999, 3) := by decide +kernel
theorem dX6_hour_156 : decode cX6_hour 156 = .ok (.iastore, 1) := by decide +kernel
theorem dX6_hour_157 : decode cX6_hour 157 = .ok (.iinc 2 1, 3) := by decide +kernel
theorem dX6_hour_160 : decode cX6_hour 160 = .ok (.goto (-71), 3) := by decide +kernel
theorem dX6_hour_163 : decode cX6_hour 163 = .ok (.aload_n 0, 1) := by decide +kernel
theorem dX6_hour_164 : decode cX6_hour 164 = .ok (.dup, 1) := by decide +kernel
theorem dX6_hour_165 : decode cX6_hour 165 = .ok (.getfield 117, 3) := by decide +kernel
theorem dX6_hour_168 : decode cX6_hour 168 = .ok (.iload_n 1, 1) := by decide +kernel
theorem dX6_hour_169 : decode cX6_hour 169 = .ok (.iadd, 1) := by decide +kernel
theorem dX6_hour_170 : decode cX6_hour 170 = .ok (.putfield 117, 3) := by decide +kernel
theorem dX6_hour_173 : decode cX6_hour 173 = .ok (.iload_n 1, 1) := by decide +kernel
theorem dX6_hour_174 : decode cX6_hour 174 = .ok (.ireturn, 1) := by decide +kernel
theorem dX6_pass_0 : decode cX6_pass 0 = .ok (.aload_n 0, 1) := by decide +kernel
theorem dX6_pass_1 : decode cX6_pass 1 = .ok (.iload_n 1, 1) := by decide +kernel
theorem dX6_pass_2 : decode cX6_pass 2 = .ok (.iconst 1, 1) := by decide +kernel
theorem dX6_pass_3 : decode cX6_pass 3 = .ok (.bipush 48, 2) := by decide +kernel
theorem dX6_pass_5 : decode cX6_pass 5 = .ok (.invokestatic 63, 3) := by decide +kernel
theorem dX6_pass_8 : decode cX6_pass 8 = .ok (.ifCond .eq 7, 3) := by decide +kernel
theorem dX6_pass_11 : decode cX6_pass 11 = .ok (.iconst 0, 1) := by decide +kernel
theorem dX6_pass_12 : decode cX6_pass 12 = .ok (.goto 4, 3) := by decide +kernel
theorem dX6_pass_15 : decode cX6_pass 15 = .ok (.iconst 1, 1) := by decide +kernel
theorem dX6_pass_16 : decode cX6_pass 16 = .ok (.invokevirtual 70, 3) := by decide +kernel
theorem dX6_pass_19 : decode cX6_pass 19 = .ok (.ifCond .eq 5, 3) := by decide +kernel
theorem dX6_pass_22 : decode cX6_pass 22 = .ok (.iconst 0, 1) := by decide +kernel
theorem dX6_pass_23 : decode cX6_pass 23 = .ok (.ireturn, 1) := by decide +kernel
theorem dX6_pass_24 : decode cX6_pass 24 = .ok (.iconst 0, 1) := by decide +kernel
theorem dX6_pass_25 : decode cX6_pass 25 = .ok (.istore_n 2, 1) := by decide +kernel
theorem dX6_pass_26 : decode cX6_pass 26 = .ok (.iconst 0, 1) := by decide +kernel
theorem dX6_pass_27 : decode cX6_pass 27 = .ok (.istore_n 3, 1) := by decide +kernel
theorem dX6_pass_28 : decode cX6_pass 28 = .ok (.iload_n 3, 1) := by decide +kernel
theorem dX6_pass_29 : decode cX6_pass 29 = .ok (.iload_n 1, 1) := by decide +kernel
theorem dX6_pass_30 : decode cX6_pass 30 = .ok (.if_icmp .ge 16, 3) := by decide +kernel
theorem dX6_pass_33 : decode cX6_pass 33 = .ok (.iload_n 2, 1) := by decide +kernel
theorem dX6_pass_34 : decode cX6_pass 34 = .ok (.aload_n 0, 1) := by decide +kernel
theorem dX6_pass_35 : decode cX6_pass 35 = .ok (.invokevirtual 136, 3) := by decide +kernel
theorem dX6_pass_38 : decode cX6_pass 38 = .ok (.iadd, 1) := by decide +kernel
theorem dX6_pass_39 : decode cX6_pass 39 = .ok (.istore_n 2, 1) := by decide +kernel
theorem dX6_pass_40 : decode cX6_pass 40 = .ok (.iinc 3 1, 3) := by decide +kernel
theorem dX6_pass_43 : decode cX6_pass 43 = .ok (.goto (-15), 3) := by decide +kernel
theorem dX6_pass_46 : decode cX6_pass 46 = .ok (.iload_n 2, 1) := by decide +kernel
theorem dX6_pass_47 : decode cX6_pass 47 = .ok (.ireturn, 1) := by decide +kernel
theorem dX6_time_0 : decode cX6_time 0 = .ok (.aload_n 0, 1) := by decide +kernel
theorem dX6_time_1 : decode cX6_time 1 = .ok (.aload_n 0, 1) := by decide +kernel
theorem dX6_time_2 : decode cX6_time 2 = .ok (.getfield 120, 3) := by decide +kernel
theorem dX6_time_5 : decode cX6_time 5 = .ok (.invokevirtual 139, 3) := by decide +kernel
theorem dX6_time_8 : decode cX6_time 8 = .ok (.ireturn, 1) := by decide +kernel
theorem dX6_phase_0 : decode cX6_phase 0 = .ok (.aload_n 0, 1) := by decide +kernel
theorem dX6_phase_1 : decode cX6_phase 1 = .ok (.aload_n 0, 1) := by decide +kernel
theorem dX6_phase_2 : decode cX6_phase 2 = .ok (.iload_n 1, 1) := by decide +kernel
theorem dX6_phase_3 : decode cX6_phase 3 = .ok (.invokevirtual 94, 3) := by decide +kernel
theorem dX6_phase_6 : decode cX6_phase 6 = .ok (.ifCond .eq 7, 3) := by decide +kernel
theorem dX6_phase_9 : decode cX6_phase 9 = .ok (.iconst 1, 1) := by decide +kernel
theorem dX6_phase_10 : decode cX6_phase 10 = .ok (.goto 4, 3) := by decide +kernel
theorem dX6_phase_13 : decode cX6_phase 13 = .ok (.iconst 0, 1) := by decide +kernel
theorem dX6_phase_14 : decode cX6_phase 14 = .ok (.invokevirtual 70, 3) := by decide +kernel
theorem dX6_phase_17 : decode cX6_phase 17 = .ok (.ifCond .eq 8, 3) := by decide +kernel
theorem dX6_phase_20 : decode cX6_phase 20 = .ok (.bipush 97, 2) := by decide +kernel
theorem dX6_phase_22 : decode cX6_phase 22 = .ok (.goto 49, 3) := by decide +kernel
theorem dX6_phase_25 : decode cX6_phase 25 = .ok (.aload_n 0, 1) := by decide +kernel
theorem dX6_phase_26 : decode cX6_phase 26 = .ok (.getfield 32, 3) := by decide +kernel
theorem dX6_phase_29 : decode cX6_phase 29 = .ok (.iload_n 1, 1) := by decide +kernel
theorem dX6_phase_30 : decode cX6_phase 30 = .ok (.iaload, 1) := by decide +kernel
theorem dX6_phase_31 : decode cX6_phase 31 = .ok (.ifCond .ne 8, 3) := by decide +kernel
theorem dX6_phase_34 : decode cX6_phase 34 = .ok (.bipush 45, 2) := by decide +kernel
theorem dX6_phase_36 : decode cX6_phase 36 = .ok (.goto 35, 3) := by decide +kernel
theorem dX6_phase_39 : decode cX6_phase 39 = .ok (.aload_n 0, 1) := by decide +kernel
theorem dX6_phase_40 : decode cX6_phase 40 = .ok (.getfield 32, 3) := by decide +kernel
theorem dX6_phase_43 : decode cX6_phase 43 = .ok (.iload_n 1, 1) := by decide +kernel
theorem dX6_phase_44 : decode cX6_phase 44 = .ok (.iaload, 1) := by decide +kernel
theorem dX6_phase_45 : decode cX6_phase 45 = .ok (.iconst 1, 1) := by decide +kernel
theorem dX6_phase_46 : decode cX6_phase 46 = .ok (.if_icmp .ne 8, 3) := by decide +kernel
theorem dX6_phase_49 : decode cX6_phase 49 = .ok (.bipush 99, 2) := by decide +kernel
theorem dX6_phase_51 : decode cX6_phase 51 = .ok (.goto 20, 3) := by decide +kernel
theorem dX6_phase_54 : decode cX6_phase 54 = .ok (.aload_n 0, 1) := by decide +kernel
theorem dX6_phase_55 : decode cX6_phase 55 = .ok (.getfield 32, 3) := by decide +kernel
theorem dX6_phase_58 : decode cX6_phase 58 = .ok (.iload_n 1, 1) := by decide +kernel
theorem dX6_phase_59 : decode cX6_phase 59 = .ok (.iaload, 1) := by decide +kernel
theorem dX6_phase_60 : decode cX6_phase 60 = .ok (.iconst 2, 1) := by decide +kernel
theorem dX6_phase_61 : decode cX6_phase 61 = .ok (.if_icmp .ne 8, 3) := by decide +kernel
theorem dX6_phase_64 : decode cX6_phase 64 = .ok (.bipush 102, 2) := by decide +kernel
theorem dX6_phase_66 : decode cX6_phase 66 = .ok (.goto 5, 3) := by decide +kernel
theorem dX6_phase_69 : decode cX6_phase 69 = .ok (.bipush 100, 2) := by decide +kernel
theorem dX6_phase_71 : decode cX6_phase 71 = .ok (.ireturn, 1) := by decide +kernel
theorem dX6_hasNoMove_0 : decode cX6_hasNoMove 0 = .ok (.aload_n 0, 1) := by decide +kernel
theorem dX6_hasNoMove_1 : decode cX6_hasNoMove 1 = .ok (.aload_n 0, 1) := by decide +kernel
theorem dX6_hasNoMove_2 : decode cX6_hasNoMove 2 = .ok (.iload_n 1, 1) := by decide +kernel
theorem dX6_hasNoMove_3 : decode cX6_hasNoMove 3 = .ok (.invokevirtual 94, 3) := by decide +kernel
theorem dX6_hasNoMove_6 : decode cX6_hasNoMove 6 = .ok (.ifCond .eq 7, 3) := by decide +kernel
theorem dX6_hasNoMove_9 : decode cX6_hasNoMove 9 = .ok (.iconst 1, 1) := by decide +kernel
theorem dX6_hasNoMove_10 : decode cX6_hasNoMove 10 = .ok (.goto 17, 3) := by decide +kernel
theorem dX6_hasNoMove_13 : decode cX6_hasNoMove 13 = .ok (.aload_n 0, 1) := by decide +kernel
theorem dX6_hasNoMove_14 : decode cX6_hasNoMove 14 = .ok (.getfield 32, 3) := by decide +kernel
theorem dX6_hasNoMove_17 : decode cX6_hasNoMove 17 = .ok (.iload_n 1, 1) := by decide +kernel
theorem dX6_hasNoMove_18 : decode cX6_hasNoMove 18 = .ok (.iaload, 1) := by decide +kernel
theorem dX6_hasNoMove_19 : decode cX6_hasNoMove 19 = .ok (.ifCond .ne 7, 3) := by decide +kernel
theorem dX6_hasNoMove_22 : decode cX6_hasNoMove 22 = .ok (.iconst 2, 1) := by decide +kernel
theorem dX6_hasNoMove_23 : decode cX6_hasNoMove 23 = .ok (.goto 4, 3) := by decide +kernel
theorem dX6_hasNoMove_26 : decode cX6_hasNoMove 26 = .ok (.iconst 0, 1) := by decide +kernel
theorem dX6_hasNoMove_27 : decode cX6_hasNoMove 27 = .ok (.invokevirtual 70, 3) := by decide +kernel
theorem dX6_hasNoMove_30 : decode cX6_hasNoMove 30 = .ok (.ireturn, 1) := by decide +kernel
theorem dX6_targetOf_0 : decode cX6_targetOf 0 = .ok (.aload_n 0, 1) := by decide +kernel
theorem dX6_targetOf_1 : decode cX6_targetOf 1 = .ok (.iload_n 1, 1) := by decide +kernel
theorem dX6_targetOf_2 : decode cX6_targetOf 2 = .ok (.invokevirtual 143, 3) := by decide +kernel
theorem dX6_targetOf_5 : decode cX6_targetOf 5 = .ok (.ifCond .eq 7, 3) := by decide +kernel
theorem dX6_targetOf_8 : decode cX6_targetOf 8 = .ok (.iconst 0, 1) := by decide +kernel
theorem dX6_targetOf_9 : decode cX6_targetOf 9 = .ok (.goto 9, 3) := by decide +kernel
theorem dX6_targetOf_12 : decode cX6_targetOf 12 = .ok (.aload_n 0, 1) := by decide +kernel
theorem dX6_targetOf_13 : decode cX6_targetOf 13 = .ok (.getfield 38, 3) := by decide +kernel
theorem dX6_targetOf_16 : decode cX6_targetOf 16 = .ok (.iload_n 1, 1) := by decide +kernel
theorem dX6_targetOf_17 : decode cX6_targetOf 17 = .ok (.iaload, 1) := by decide +kernel
theorem dX6_targetOf_18 : decode cX6_targetOf 18 = .ok (.ireturn, 1) := by decide +kernel
theorem dX6_goneOn_0 : decode cX6_goneOn 0 = .ok (.aload_n 0, 1) := by decide +kernel
theorem dX6_goneOn_1 : decode cX6_goneOn 1 = .ok (.iload_n 1, 1) := by decide +kernel
theorem dX6_goneOn_2 : decode cX6_goneOn 2 = .ok (.invokevirtual 143, 3) := by decide +kernel
theorem dX6_goneOn_5 : decode cX6_goneOn 5 = .ok (.ifCond .eq 5, 3) := by decide +kernel
theorem dX6_goneOn_8 : decode cX6_goneOn 8 = .ok (.iconst 0, 1) := by decide +kernel
theorem dX6_goneOn_9 : decode cX6_goneOn 9 = .ok (.ireturn, 1) := by decide +kernel
theorem dX6_goneOn_10 : decode cX6_goneOn 10 = .ok (.aload_n 0, 1) := by decide +kernel
theorem dX6_goneOn_11 : decode cX6_goneOn 11 = .ok (.getfield 32, 3) := by decide +kernel
theorem dX6_goneOn_14 : decode cX6_goneOn 14 = .ok (.iload_n 1, 1) := by decide +kernel
theorem dX6_goneOn_15 : decode cX6_goneOn 15 = .ok (.iaload, 1) := by decide +kernel
theorem dX6_goneOn_16 : decode cX6_goneOn 16 = .ok (.iconst 3, 1) := by decide +kernel
theorem dX6_goneOn_17 : decode cX6_goneOn 17 = .ok (.if_icmp .ne 10, 3) := by decide +kernel
theorem dX6_goneOn_20 : decode cX6_goneOn 20 = .ok (.aload_n 0, 1) := by decide +kernel
theorem dX6_goneOn_21 : decode cX6_goneOn 21 = .ok (.getfield 41, 3) := by decide +kernel
theorem dX6_goneOn_24 : decode cX6_goneOn 24 = .ok (.iload_n 1, 1) := by decide +kernel
theorem dX6_goneOn_25 : decode cX6_goneOn 25 = .ok (.iaload, 1) := by decide +kernel
theorem dX6_goneOn_26 : decode cX6_goneOn 26 = .ok (.ireturn, 1) := by decide +kernel
theorem dX6_goneOn_27 : decode cX6_goneOn 27 = .ok (.aload_n 0, 1) := by decide +kernel
theorem dX6_goneOn_28 : decode cX6_goneOn 28 = .ok (.getfield 32, 3) := by decide +kernel
theorem dX6_goneOn_31 : decode cX6_goneOn 31 = .ok (.iload_n 1, 1) := by decide +kernel
theorem dX6_goneOn_32 : decode cX6_goneOn 32 = .ok (.iaload, 1) := by decide +kernel
theorem dX6_goneOn_33 : decode cX6_goneOn 33 = .ok (.iconst 1, 1) := by decide +kernel
theorem dX6_goneOn_34 : decode cX6_goneOn 34 = .ok (.if_icmp .ne 12, 3) := by decide +kernel
theorem dX6_goneOn_37 : decode cX6_goneOn 37 = .ok (.aload_n 0, 1) := by decide +kernel
theorem dX6_goneOn_38 : decode cX6_goneOn 38 = .ok (.getfield 41, 3) := by decide +kernel
theorem dX6_goneOn_41 : decode cX6_goneOn 41 = .ok (.iload_n 1, 1) := by decide +kernel
theorem dX6_goneOn_42 : decode cX6_goneOn 42 = .ok (.iaload, 1) := by decide +kernel
theorem dX6_goneOn_43 : decode cX6_goneOn 43 = .ok (.goto 4, 3) := by decide +kernel
theorem dX6_goneOn_46 : decode cX6_goneOn 46 = .ok (.iconst 0, 1) := by decide +kernel
theorem dX6_goneOn_47 : decode cX6_goneOn 47 = .ok (.istore_n 2, 1) := by decide +kernel
theorem dX6_goneOn_48 : decode cX6_goneOn 48 = .ok (.aload_n 0, 1) := by decide +kernel
theorem dX6_goneOn_49 : decode cX6_goneOn 49 = .ok (.iload_n 1, 1) := by decide +kernel
theorem dX6_goneOn_50 : decode cX6_goneOn 50 = .ok (.aload_n 0, 1) := by decide +kernel
theorem dX6_goneOn_51 : decode cX6_goneOn 51 = .ok (.getfield 120, 3) := by decide +kernel
theorem dX6_goneOn_54 : decode cX6_goneOn 54 = .ok (.iload_n 2, 1) := by decide +kernel
theorem dX6_goneOn_55 : decode cX6_goneOn 55 = .ok (.iadd, 1) := by decide +kernel
theorem dX6_goneOn_56 : decode cX6_goneOn 56 = .ok (.bipush 24, 2) := by decide +kernel
theorem dX6_goneOn_58 : decode cX6_goneOn 58 = .ok (.irem, 1) := by decide +kernel
theorem dX6_goneOn_59 : decode cX6_goneOn 59 = .ok (.invokevirtual 123, 3) := by decide +kernel
theorem dX6_goneOn_62 : decode cX6_goneOn 62 = .ok (.ifCond .ne 9, 3) := by decide +kernel
theorem dX6_goneOn_65 : decode cX6_goneOn 65 = .ok (.iinc 2 1, 3) := by decide +kernel
theorem dX6_goneOn_68 : decode cX6_goneOn 68 = .ok (.goto (-20), 3) := by decide +kernel
theorem dX6_goneOn_71 : decode cX6_goneOn 71 = .ok (.iload_n 2, 1) := by decide +kernel
theorem dX6_goneOn_72 : decode cX6_goneOn 72 = .ok (.iconst 1, 1) := by decide +kernel
theorem dX6_goneOn_73 : decode cX6_goneOn 73 = .ok (.iadd, 1) := by decide +kernel
theorem dX6_goneOn_74 : decode cX6_goneOn 74 = .ok (.iconst 2, 1) := by decide +kernel
theorem dX6_goneOn_75 : decode cX6_goneOn 75 = .ok (.iadd, 1) := by decide +kernel
theorem dX6_goneOn_76 : decode cX6_goneOn 76 = .ok (.ireturn, 1) := by decide +kernel
theorem dX6_hoursLeft_0 : decode cX6_hoursLeft 0 = .ok (.aload_n 0, 1) := by decide +kernel
theorem dX6_hoursLeft_1 : decode cX6_hoursLeft 1 = .ok (.iload_n 1, 1) := by decide +kernel
theorem dX6_hoursLeft_2 : decode cX6_hoursLeft 2 = .ok (.invokevirtual 146, 3) := by decide +kernel
theorem dX6_hoursLeft_5 : decode cX6_hoursLeft 5 = .ok (.ireturn, 1) := by decide +kernel
theorem dX6_hoursByPassing_0 : decode cX6_hoursByPassing 0 = .ok (.aload_n 0, 1) := by decide +kernel
theorem dX6_hoursByPassing_1 : decode cX6_hoursByPassing 1 = .ok (.iload_n 1, 1) := by decide +kernel
theorem dX6_hoursByPassing_2 : decode cX6_hoursByPassing 2 = .ok (.invokevirtual 146, 3) := by decide +kernel
theorem dX6_hoursByPassing_5 : decode cX6_hoursByPassing 5 = .ok (.ireturn, 1) := by decide +kernel
theorem dX6_moves_0 : decode cX6_moves 0 = .ok (.aload_n 0, 1) := by decide +kernel
theorem dX6_moves_1 : decode cX6_moves 1 = .ok (.aload_n 0, 1) := by decide +kernel
theorem dX6_moves_2 : decode cX6_moves 2 = .ok (.invokevirtual 113, 3) := by decide +kernel
theorem dX6_moves_5 : decode cX6_moves 5 = .ok (.invokevirtual 139, 3) := by decide +kernel
theorem dX6_moves_8 : decode cX6_moves 8 = .ok (.ireturn, 1) := by decide +kernel
theorem dX6_shards_0 : decode cX6_shards 0 = .ok (.aload_n 0, 1) := by decide +kernel
theorem dX6_shards_1 : decode cX6_shards 1 = .ok (.aload_n 0, 1) := by decide +kernel
theorem dX6_shards_2 : decode cX6_shards 2 = .ok (.getfield 60, 3) := by decide +kernel
theorem dX6_shards_5 : decode cX6_shards 5 = .ok (.invokevirtual 139, 3) := by decide +kernel
theorem dX6_shards_8 : decode cX6_shards 8 = .ok (.ireturn, 1) := by decide +kernel
theorem dX6_tenants_0 : decode cX6_tenants 0 = .ok (.aload_n 0, 1) := by decide +kernel
theorem dX6_tenants_1 : decode cX6_tenants 1 = .ok (.aload_n 0, 1) := by decide +kernel
theorem dX6_tenants_2 : decode cX6_tenants 2 = .ok (.getfield 67, 3) := by decide +kernel
theorem dX6_tenants_5 : decode cX6_tenants 5 = .ok (.invokevirtual 139, 3) := by decide +kernel
theorem dX6_tenants_8 : decode cX6_tenants 8 = .ok (.ireturn, 1) := by decide +kernel
theorem dX6_servedBy_0 : decode cX6_servedBy 0 = .ok (.aload_n 0, 1) := by decide +kernel
theorem dX6_servedBy_1 : decode cX6_servedBy 1 = .ok (.aload_n 0, 1) := by decide +kernel
theorem dX6_servedBy_2 : decode cX6_servedBy 2 = .ok (.iload_n 1, 1) := by decide +kernel
theorem dX6_servedBy_3 : decode cX6_servedBy 3 = .ok (.invokevirtual 94, 3) := by decide +kernel
theorem dX6_servedBy_6 : decode cX6_servedBy 6 = .ok (.ifCond .eq 7, 3) := by decide +kernel
theorem dX6_servedBy_9 : decode cX6_servedBy 9 = .ok (.iconst 1, 1) := by decide +kernel
theorem dX6_servedBy_10 : decode cX6_servedBy 10 = .ok (.goto 4, 3) := by decide +kernel
theorem dX6_servedBy_13 : decode cX6_servedBy 13 = .ok (.iconst 0, 1) := by decide +kernel
theorem dX6_servedBy_14 : decode cX6_servedBy 14 = .ok (.invokevirtual 70, 3) := by decide +kernel
theorem dX6_servedBy_17 : decode cX6_servedBy 17 = .ok (.ifCond .eq 7, 3) := by decide +kernel
theorem dX6_servedBy_20 : decode cX6_servedBy 20 = .ok (.iconst 0, 1) := by decide +kernel
theorem dX6_servedBy_21 : decode cX6_servedBy 21 = .ok (.goto 9, 3) := by decide +kernel
theorem dX6_servedBy_24 : decode cX6_servedBy 24 = .ok (.aload_n 0, 1) := by decide +kernel
theorem dX6_servedBy_25 : decode cX6_servedBy 25 = .ok (.getfield 29, 3) := by decide +kernel
theorem dX6_servedBy_28 : decode cX6_servedBy 28 = .ok (.iload_n 1, 1) := by decide +kernel
theorem dX6_servedBy_29 : decode cX6_servedBy 29 = .ok (.iaload, 1) := by decide +kernel
theorem dX6_servedBy_30 : decode cX6_servedBy 30 = .ok (.ireturn, 1) := by decide +kernel
theorem dX6_sizeOf_0 : decode cX6_sizeOf 0 = .ok (.aload_n 0, 1) := by decide +kernel
theorem dX6_sizeOf_1 : decode cX6_sizeOf 1 = .ok (.aload_n 0, 1) := by decide +kernel
theorem dX6_sizeOf_2 : decode cX6_sizeOf 2 = .ok (.iload_n 1, 1) := by decide +kernel
theorem dX6_sizeOf_3 : decode cX6_sizeOf 3 = .ok (.invokevirtual 94, 3) := by decide +kernel
theorem dX6_sizeOf_6 : decode cX6_sizeOf 6 = .ok (.ifCond .ne 10, 3) := by decide +kernel
theorem dX6_sizeOf_9 : decode cX6_sizeOf 9 = .ok (.iload_n 2, 1) := by decide +kernel
theorem dX6_sizeOf_10 : decode cX6_sizeOf 10 = .ok (.invokestatic 77, 3) := by decide +kernel
theorem dX6_sizeOf_13 : decode cX6_sizeOf 13 = .ok (.ifCond .ne 7, 3) := by decide +kernel
theorem dX6_sizeOf_16 : decode cX6_sizeOf 16 = .ok (.iconst 1, 1) := by decide +kernel
theorem dX6_sizeOf_17 : decode cX6_sizeOf 17 = .ok (.goto 4, 3) := by decide +kernel
theorem dX6_sizeOf_20 : decode cX6_sizeOf 20 = .ok (.iconst 0, 1) := by decide +kernel
theorem dX6_sizeOf_21 : decode cX6_sizeOf 21 = .ok (.invokevirtual 70, 3) := by decide +kernel
theorem dX6_sizeOf_24 : decode cX6_sizeOf 24 = .ok (.ifCond .eq 7, 3) := by decide +kernel
theorem dX6_sizeOf_27 : decode cX6_sizeOf 27 = .ok (.iconst 0, 1) := by decide +kernel
theorem dX6_sizeOf_28 : decode cX6_sizeOf 28 = .ok (.goto 13, 3) := by decide +kernel
theorem dX6_sizeOf_31 : decode cX6_sizeOf 31 = .ok (.aload_n 0, 1) := by decide +kernel
theorem dX6_sizeOf_32 : decode cX6_sizeOf 32 = .ok (.getfield 17, 3) := by decide +kernel
theorem dX6_sizeOf_35 : decode cX6_sizeOf 35 = .ok (.iconst 3, 1) := by decide +kernel
theorem dX6_sizeOf_36 : decode cX6_sizeOf 36 = .ok (.iload_n 1, 1) := by decide +kernel
theorem dX6_sizeOf_37 : decode cX6_sizeOf 37 = .ok (.imul, 1) := by decide +kernel
theorem dX6_sizeOf_38 : decode cX6_sizeOf 38 = .ok (.iload_n 2, 1) := by decide +kernel
theorem dX6_sizeOf_39 : decode cX6_sizeOf 39 = .ok (.iadd, 1) := by decide +kernel
theorem dX6_sizeOf_40 : decode cX6_sizeOf 40 = .ok (.iaload, 1) := by decide +kernel
theorem dX6_sizeOf_41 : decode cX6_sizeOf 41 = .ok (.ireturn, 1) := by decide +kernel
theorem dX6_cannotAsk_0 : decode cX6_cannotAsk 0 = .ok (.aload_n 0, 1) := by decide +kernel
theorem dX6_cannotAsk_1 : decode cX6_cannotAsk 1 = .ok (.aload_n 0, 1) := by decide +kernel
theorem dX6_cannotAsk_2 : decode cX6_cannotAsk 2 = .ok (.iload_n 1, 1) := by decide +kernel
theorem dX6_cannotAsk_3 : decode cX6_cannotAsk 3 = .ok (.invokevirtual 74, 3) := by decide +kernel
theorem dX6_cannotAsk_6 : decode cX6_cannotAsk 6 = .ok (.ifCond .ne 10, 3) := by decide +kernel
theorem dX6_cannotAsk_9 : decode cX6_cannotAsk 9 = .ok (.iload_n 2, 1) := by decide +kernel
theorem dX6_cannotAsk_10 : decode cX6_cannotAsk 10 = .ok (.invokestatic 77, 3) := by decide +kernel
theorem dX6_cannotAsk_13 : decode cX6_cannotAsk 13 = .ok (.ifCond .ne 7, 3) := by decide +kernel
theorem dX6_cannotAsk_16 : decode cX6_cannotAsk 16 = .ok (.iconst 1, 1) := by decide +kernel
theorem dX6_cannotAsk_17 : decode cX6_cannotAsk 17 = .ok (.goto 4, 3) := by decide +kernel
theorem dX6_cannotAsk_20 : decode cX6_cannotAsk 20 = .ok (.iconst 0, 1) := by decide +kernel
theorem dX6_cannotAsk_21 : decode cX6_cannotAsk 21 = .ok (.invokevirtual 70, 3) := by decide +kernel
theorem dX6_cannotAsk_24 : decode cX6_cannotAsk 24 = .ok (.ireturn, 1) := by decide +kernel
theorem dX6_used_0 : decode cX6_used 0 = .ok (.aload_n 0, 1) := by decide +kernel
theorem dX6_used_1 : decode cX6_used 1 = .ok (.iload_n 1, 1) := by decide +kernel
theorem dX6_used_2 : decode cX6_used 2 = .ok (.iload_n 2, 1) := by decide +kernel
theorem dX6_used_3 : decode cX6_used 3 = .ok (.invokevirtual 149, 3) := by decide +kernel
theorem dX6_used_6 : decode cX6_used 6 = .ok (.ifCond .eq 7, 3) := by decide +kernel
theorem dX6_used_9 : decode cX6_used 9 = .ok (.iconst 0, 1) := by decide +kernel
theorem dX6_used_10 : decode cX6_used 10 = .ok (.goto 9, 3) := by decide +kernel
theorem dX6_used_13 : decode cX6_used 13 = .ok (.aload_n 0, 1) := by decide +kernel
theorem dX6_used_14 : decode cX6_used 14 = .ok (.iload_n 1, 1) := by decide +kernel
theorem dX6_used_15 : decode cX6_used 15 = .ok (.iload_n 2, 1) := by decide +kernel
theorem dX6_used_16 : decode cX6_used 16 = .ok (.invokevirtual 87, 3) := by decide +kernel
theorem dX6_used_19 : decode cX6_used 19 = .ok (.ireturn, 1) := by decide +kernel
theorem dX6_usedByLooking_0 : decode cX6_usedByLooking 0 = .ok (.aload_n 0, 1) := by decide +kernel
theorem dX6_usedByLooking_1 : decode cX6_usedByLooking 1 = .ok (.iload_n 1, 1) := by decide +kernel
theorem dX6_usedByLooking_2 : decode cX6_usedByLooking 2 = .ok (.iload_n 2, 1) := by decide +kernel
theorem dX6_usedByLooking_3 : decode cX6_usedByLooking 3 = .ok (.invokevirtual 149, 3) := by decide +kernel
theorem dX6_usedByLooking_6 : decode cX6_usedByLooking 6 = .ok (.ifCond .eq 7, 3) := by decide +kernel
theorem dX6_usedByLooking_9 : decode cX6_usedByLooking 9 = .ok (.iconst 0, 1) := by decide +kernel
theorem dX6_usedByLooking_10 : decode cX6_usedByLooking 10 = .ok (.goto 9, 3) := by decide +kernel
theorem dX6_usedByLooking_13 : decode cX6_usedByLooking 13 = .ok (.aload_n 0, 1) := by decide +kernel
theorem dX6_usedByLooking_14 : decode cX6_usedByLooking 14 = .ok (.iload_n 1, 1) := by decide +kernel
theorem dX6_usedByLooking_15 : decode cX6_usedByLooking 15 = .ok (.iload_n 2, 1) := by decide +kernel
theorem dX6_usedByLooking_16 : decode cX6_usedByLooking 16 = .ok (.invokevirtual 87, 3) := by decide +kernel
theorem dX6_usedByLooking_19 : decode cX6_usedByLooking 19 = .ok (.ireturn, 1) := by decide +kernel
theorem dX6_isOver_0 : decode cX6_isOver 0 = .ok (.aload_n 0, 1) := by decide +kernel
theorem dX6_isOver_1 : decode cX6_isOver 1 = .ok (.aload_n 0, 1) := by decide +kernel
theorem dX6_isOver_2 : decode cX6_isOver 2 = .ok (.iload_n 1, 1) := by decide +kernel
theorem dX6_isOver_3 : decode cX6_isOver 3 = .ok (.invokevirtual 74, 3) := by decide +kernel
theorem dX6_isOver_6 : decode cX6_isOver 6 = .ok (.ifCond .eq 7, 3) := by decide +kernel
theorem dX6_isOver_9 : decode cX6_isOver 9 = .ok (.iconst 1, 1) := by decide +kernel
theorem dX6_isOver_10 : decode cX6_isOver 10 = .ok (.goto 4, 3) := by decide +kernel
theorem dX6_isOver_13 : decode cX6_isOver 13 = .ok (.iconst 0, 1) := by decide +kernel
theorem dX6_isOver_14 : decode cX6_isOver 14 = .ok (.invokevirtual 70, 3) := by decide +kernel
theorem dX6_isOver_17 : decode cX6_isOver 17 = .ok (.ifCond .ne 15, 3) := by decide +kernel
theorem dX6_isOver_20 : decode cX6_isOver 20 = .ok (.aload_n 0, 1) := by decide +kernel
theorem dX6_isOver_21 : decode cX6_isOver 21 = .ok (.iload_n 1, 1) := by decide +kernel
theorem dX6_isOver_22 : decode cX6_isOver 22 = .ok (.invokevirtual 130, 3) := by decide +kernel
theorem dX6_isOver_25 : decode cX6_isOver 25 = .ok (.ifCond .eq 7, 3) := by decide +kernel
theorem dX6_isOver_28 : decode cX6_isOver 28 = .ok (.iconst 1, 1) := by decide +kernel
theorem dX6_isOver_29 : decode cX6_isOver 29 = .ok (.goto 4, 3) := by decide +kernel
theorem dX6_isOver_32 : decode cX6_isOver 32 = .ok (.iconst 0, 1) := by decide +kernel
theorem dX6_isOver_33 : decode cX6_isOver 33 = .ok (.ireturn, 1) := by decide +kernel
theorem dX6_served_0 : decode cX6_served 0 = .ok (.aload_n 0, 1) := by decide +kernel
theorem dX6_served_1 : decode cX6_served 1 = .ok (.aload_n 0, 1) := by decide +kernel
theorem dX6_served_2 : decode cX6_served 2 = .ok (.iload_n 1, 1) := by decide +kernel
theorem dX6_served_3 : decode cX6_served 3 = .ok (.invokevirtual 74, 3) := by decide +kernel
theorem dX6_served_6 : decode cX6_served 6 = .ok (.ifCond .eq 7, 3) := by decide +kernel
theorem dX6_served_9 : decode cX6_served 9 = .ok (.iconst 1, 1) := by decide +kernel
theorem dX6_served_10 : decode cX6_served 10 = .ok (.goto 4, 3) := by decide +kernel
theorem dX6_served_13 : decode cX6_served 13 = .ok (.iconst 0, 1) := by decide +kernel
theorem dX6_served_14 : decode cX6_served 14 = .ok (.invokevirtual 70, 3) := by decide +kernel
theorem dX6_served_17 : decode cX6_served 17 = .ok (.ifCond .eq 5, 3) := by decide +kernel
theorem dX6_served_20 : decode cX6_served 20 = .ok (.iconst 0, 1) := by decide +kernel
theorem dX6_served_21 : decode cX6_served 21 = .ok (.ireturn, 1) := by decide +kernel
theorem dX6_served_22 : decode cX6_served 22 = .ok (.iconst 0, 1) := by decide +kernel
theorem dX6_served_23 : decode cX6_served 23 = .ok (.istore_n 2, 1) := by decide +kernel
theorem dX6_served_24 : decode cX6_served 24 = .ok (.iconst 0, 1) := by decide +kernel
theorem dX6_served_25 : decode cX6_served 25 = .ok (.istore_n 3, 1) := by decide +kernel
theorem dX6_served_26 : decode cX6_served 26 = .ok (.iload_n 3, 1) := by decide +kernel
theorem dX6_served_27 : decode cX6_served 27 = .ok (.aload_n 0, 1) := by decide +kernel
theorem dX6_served_28 : decode cX6_served 28 = .ok (.getfield 67, 3) := by decide +kernel
theorem dX6_served_31 : decode cX6_served 31 = .ok (.if_icmp .ge 27, 3) := by decide +kernel
theorem dX6_served_34 : decode cX6_served 34 = .ok (.iload_n 2, 1) := by decide +kernel
theorem dX6_served_35 : decode cX6_served 35 = .ok (.aload_n 0, 1) := by decide +kernel
theorem dX6_served_36 : decode cX6_served 36 = .ok (.getfield 29, 3) := by decide +kernel
theorem dX6_served_39 : decode cX6_served 39 = .ok (.iload_n 3, 1) := by decide +kernel
theorem dX6_served_40 : decode cX6_served 40 = .ok (.iaload, 1) := by decide +kernel
theorem dX6_served_41 : decode cX6_served 41 = .ok (.iload_n 1, 1) := by decide +kernel
theorem dX6_served_42 : decode cX6_served 42 = .ok (.if_icmp .ne 7, 3) := by decide +kernel
theorem dX6_served_45 : decode cX6_served 45 = .ok (.iconst 1, 1) := by decide +kernel
theorem dX6_served_46 : decode cX6_served 46 = .ok (.goto 4, 3) := by decide +kernel
theorem dX6_served_49 : decode cX6_served 49 = .ok (.iconst 0, 1) := by decide +kernel
theorem dX6_served_50 : decode cX6_served 50 = .ok (.iadd, 1) := by decide +kernel
theorem dX6_served_51 : decode cX6_served 51 = .ok (.istore_n 2, 1) := by decide +kernel
theorem dX6_served_52 : decode cX6_served 52 = .ok (.iinc 3 1, 3) := by decide +kernel
theorem dX6_served_55 : decode cX6_served 55 = .ok (.goto (-29), 3) := by decide +kernel
theorem dX6_served_58 : decode cX6_served 58 = .ok (.iload_n 2, 1) := by decide +kernel
theorem dX6_served_59 : decode cX6_served 59 = .ok (.ireturn, 1) := by decide +kernel
theorem dX6_fits_0 : decode cX6_fits 0 = .ok (.iconst 0, 1) := by decide +kernel
theorem dX6_fits_1 : decode cX6_fits 1 = .ok (.istore_n 3, 1) := by decide +kernel
theorem dX6_fits_2 : decode cX6_fits 2 = .ok (.iconst 0, 1) := by decide +kernel
theorem dX6_fits_3 : decode cX6_fits 3 = .ok (.istore 4, 2) := by decide +kernel
theorem dX6_fits_5 : decode cX6_fits 5 = .ok (.iload 4, 2) := by decide +kernel
theorem dX6_fits_7 : decode cX6_fits 7 = .ok (.aload_n 0, 1) := by decide +kernel
theorem dX6_fits_8 : decode cX6_fits 8 = .ok (.getfield 67, 3) := by decide +kernel
theorem dX6_fits_11 : decode cX6_fits 11 = .ok (.if_icmp .ge 38, 3) := by decide +kernel
theorem dX6_fits_14 : decode cX6_fits 14 = .ok (.iload_n 3, 1) := by decide +kernel
theorem dX6_fits_15 : decode cX6_fits 15 = .ok (.aload_n 0, 1) := by decide +kernel
theorem dX6_fits_16 : decode cX6_fits 16 = .ok (.getfield 50, 3) := by decide +kernel
theorem dX6_fits_19 : decode cX6_fits 19 = .ok (.iload 4, 2) := by decide +kernel
theorem dX6_fits_21 : decode cX6_fits 21 = .ok (.iaload, 1) := by decide +kernel
theorem dX6_fits_22 : decode cX6_fits 22 = .ok (.iload_n 1, 1) := by decide +kernel
theorem dX6_fits_23 : decode cX6_fits 23 = .ok (.if_icmp .ne 17, 3) := by decide +kernel
theorem dX6_fits_26 : decode cX6_fits 26 = .ok (.aload_n 0, 1) := by decide +kernel
theorem dX6_fits_27 : decode cX6_fits 27 = .ok (.getfield 17, 3) := by decide +kernel
theorem dX6_fits_30 : decode cX6_fits 30 = .ok (.iconst 3, 1) := by decide +kernel
theorem dX6_fits_31 : decode cX6_fits 31 = .ok (.iload 4, 2) := by decide +kernel
theorem dX6_fits_33 : decode cX6_fits 33 = .ok (.imul, 1) := by decide +kernel
theorem dX6_fits_34 : decode cX6_fits 34 = .ok (.iload_n 2, 1) := by decide +kernel
theorem dX6_fits_35 : decode cX6_fits 35 = .ok (.iadd, 1) := by decide +kernel
theorem dX6_fits_36 : decode cX6_fits 36 = .ok (.iaload, 1) := by decide +kernel
theorem dX6_fits_37 : decode cX6_fits 37 = .ok (.goto 4, 3) := by decide +kernel
theorem dX6_fits_40 : decode cX6_fits 40 = .ok (.iconst 0, 1) := by decide +kernel
theorem dX6_fits_41 : decode cX6_fits 41 = .ok (.iadd, 1) := by decide +kernel
theorem dX6_fits_42 : decode cX6_fits 42 = .ok (.istore_n 3, 1) := by decide +kernel
theorem dX6_fits_43 : decode cX6_fits 43 = .ok (.iinc 4 1, 3) := by decide +kernel
theorem dX6_fits_46 : decode cX6_fits 46 = .ok (.goto (-41), 3) := by decide +kernel
theorem dX6_fits_49 : decode cX6_fits 49 = .ok (.iload_n 3, 1) := by decide +kernel
theorem dX6_fits_50 : decode cX6_fits 50 = .ok (.aload_n 0, 1) := by decide +kernel
theorem dX6_fits_51 : decode cX6_fits 51 = .ok (.getfield 7, 3) := by decide +kernel
theorem dX6_fits_54 : decode cX6_fits 54 = .ok (.iconst 3, 1) := by decide +kernel
theorem dX6_fits_55 : decode cX6_fits 55 = .ok (.iload_n 1, 1) := by decide +kernel
theorem dX6_fits_56 : decode cX6_fits 56 = .ok (.imul, 1) := by decide +kernel
theorem dX6_fits_57 : decode cX6_fits 57 = .ok (.iload_n 2, 1) := by decide +kernel
theorem dX6_fits_58 : decode cX6_fits 58 = .ok (.iadd, 1) := by decide +kernel
theorem dX6_fits_59 : decode cX6_fits 59 = .ok (.iaload, 1) := by decide +kernel
theorem dX6_fits_60 : decode cX6_fits 60 = .ok (.if_icmp .gt 7, 3) := by decide +kernel
theorem dX6_fits_63 : decode cX6_fits 63 = .ok (.iconst 1, 1) := by decide +kernel
theorem dX6_fits_64 : decode cX6_fits 64 = .ok (.goto 4, 3) := by decide +kernel
theorem dX6_fits_67 : decode cX6_fits 67 = .ok (.iconst 0, 1) := by decide +kernel
theorem dX6_fits_68 : decode cX6_fits 68 = .ok (.ireturn, 1) := by decide +kernel
theorem dX6_isSound_0 : decode cX6_isSound 0 = .ok (.iconst 0, 1) := by decide +kernel
theorem dX6_isSound_1 : decode cX6_isSound 1 = .ok (.istore_n 1, 1) := by decide +kernel
theorem dX6_isSound_2 : decode cX6_isSound 2 = .ok (.iload_n 1, 1) := by decide +kernel
theorem dX6_isSound_3 : decode cX6_isSound 3 = .ok (.aload_n 0, 1) := by decide +kernel
theorem dX6_isSound_4 : decode cX6_isSound 4 = .ok (.getfield 67, 3) := by decide +kernel
theorem dX6_isSound_7 : decode cX6_isSound 7 = .ok (.if_icmp .ge 25, 3) := by decide +kernel
theorem dX6_isSound_10 : decode cX6_isSound 10 = .ok (.aload_n 0, 1) := by decide +kernel
theorem dX6_isSound_11 : decode cX6_isSound 11 = .ok (.getfield 13, 3) := by decide +kernel
theorem dX6_isSound_14 : decode cX6_isSound 14 = .ok (.aload_n 0, 1) := by decide +kernel
theorem dX6_isSound_15 : decode cX6_isSound 15 = .ok (.getfield 50, 3) := by decide +kernel
theorem dX6_isSound_18 : decode cX6_isSound 18 = .ok (.iload_n 1, 1) := by decide +kernel
theorem dX6_isSound_19 : decode cX6_isSound 19 = .ok (.iaload, 1) := by decide +kernel
theorem dX6_isSound_20 : decode cX6_isSound 20 = .ok (.baload, 1) := by decide +kernel
theorem dX6_isSound_21 : decode cX6_isSound 21 = .ok (.ifCond .eq 5, 3) := by decide +kernel
theorem dX6_isSound_24 : decode cX6_isSound 24 = .ok (.iconst 0, 1) := by decide +kernel
theorem dX6_isSound_25 : decode cX6_isSound 25 = .ok (.ireturn, 1) := by decide +kernel
theorem dX6_isSound_26 : decode cX6_isSound 26 = .ok (.iinc 1 1, 3) := by decide +kernel
theorem dX6_isSound_29 : decode cX6_isSound 29 = .ok (.goto (-27), 3) := by decide +kernel
theorem dX6_isSound_32 : decode cX6_isSound 32 = .ok (.iconst 0, 1) := by decide +kernel
theorem dX6_isSound_33 : decode cX6_isSound 33 = .ok (.istore_n 1, 1) := by decide +kernel
theorem dX6_isSound_34 : decode cX6_isSound 34 = .ok (.iload_n 1, 1) := by decide +kernel
theorem dX6_isSound_35 : decode cX6_isSound 35 = .ok (.aload_n 0, 1) := by decide +kernel
theorem dX6_isSound_36 : decode cX6_isSound 36 = .ok (.getfield 97, 3) := by decide +kernel
theorem dX6_isSound_39 : decode cX6_isSound 39 = .ok (.if_icmp .ge 36, 3) := by decide +kernel
theorem dX6_isSound_42 : decode cX6_isSound 42 = .ok (.aload_n 0, 1) := by decide +kernel
theorem dX6_isSound_43 : decode cX6_isSound 43 = .ok (.getfield 50, 3) := by decide +kernel
theorem dX6_isSound_46 : decode cX6_isSound 46 = .ok (.aload_n 0, 1) := by decide +kernel
theorem dX6_isSound_47 : decode cX6_isSound 47 = .ok (.getfield 44, 3) := by decide +kernel
theorem dX6_isSound_50 : decode cX6_isSound 50 = .ok (.iload_n 1, 1) := by decide +kernel
theorem dX6_isSound_51 : decode cX6_isSound 51 = .ok (.iaload, 1) := by decide +kernel
theorem dX6_isSound_52 : decode cX6_isSound 52 = .ok (.iaload, 1) := by decide +kernel
theorem dX6_isSound_53 : decode cX6_isSound 53 = .ok (.aload_n 0, 1) := by decide +kernel
theorem dX6_isSound_54 : decode cX6_isSound 54 = .ok (.getfield 50, 3) := by decide +kernel
theorem dX6_isSound_57 : decode cX6_isSound 57 = .ok (.aload_n 0, 1) := by decide +kernel
theorem dX6_isSound_58 : decode cX6_isSound 58 = .ok (.getfield 47, 3) := by decide +kernel
theorem dX6_isSound_61 : decode cX6_isSound 61 = .ok (.iload_n 1, 1) := by decide +kernel
theorem dX6_isSound_62 : decode cX6_isSound 62 = .ok (.iaload, 1) := by decide +kernel
theorem dX6_isSound_63 : decode cX6_isSound 63 = .ok (.iaload, 1) := by decide +kernel
theorem dX6_isSound_64 : decode cX6_isSound 64 = .ok (.if_icmp .ne 5, 3) := by decide +kernel
theorem dX6_isSound_67 : decode cX6_isSound 67 = .ok (.iconst 0, 1) := by decide +kernel
theorem dX6_isSound_68 : decode cX6_isSound 68 = .ok (.ireturn, 1) := by decide +kernel
theorem dX6_isSound_69 : decode cX6_isSound 69 = .ok (.iinc 1 1, 3) := by decide +kernel
theorem dX6_isSound_72 : decode cX6_isSound 72 = .ok (.goto (-38), 3) := by decide +kernel
theorem dX6_isSound_75 : decode cX6_isSound 75 = .ok (.iconst 0, 1) := by decide +kernel
theorem dX6_isSound_76 : decode cX6_isSound 76 = .ok (.istore_n 1, 1) := by decide +kernel
theorem dX6_isSound_77 : decode cX6_isSound 77 = .ok (.iload_n 1, 1) := by decide +kernel
theorem dX6_isSound_78 : decode cX6_isSound 78 = .ok (.aload_n 0, 1) := by decide +kernel
theorem dX6_isSound_79 : decode cX6_isSound 79 = .ok (.getfield 60, 3) := by decide +kernel
theorem dX6_isSound_82 : decode cX6_isSound 82 = .ok (.if_icmp .ge 33, 3) := by decide +kernel
theorem dX6_isSound_85 : decode cX6_isSound 85 = .ok (.iconst 0, 1) := by decide +kernel
theorem dX6_isSound_86 : decode cX6_isSound 86 = .ok (.istore_n 2, 1) := by decide +kernel
theorem dX6_isSound_87 : decode cX6_isSound 87 = .ok (.iload_n 2, 1) := by decide +kernel
theorem dX6_isSound_88 : decode cX6_isSound 88 = .ok (.iconst 3, 1) := by decide +kernel
theorem dX6_isSound_89 : decode cX6_isSound 89 = .ok (.if_icmp .ge 20, 3) := by decide +kernel
theorem dX6_isSound_92 : decode cX6_isSound 92 = .ok (.aload_n 0, 1) := by decide +kernel
theorem dX6_isSound_93 : decode cX6_isSound 93 = .ok (.iload_n 1, 1) := by decide +kernel
theorem dX6_isSound_94 : decode cX6_isSound 94 = .ok (.iload_n 2, 1) := by decide +kernel
theorem dX6_isSound_95 : decode cX6_isSound 95 = .ok (.invokevirtual 152, 3) := by decide +kernel
theorem dX6_isSound_98 : decode cX6_isSound 98 = .ok (.ifCond .ne 5, 3) := by decide +kernel
theorem dX6_isSound_101 : decode cX6_isSound 101 = .ok (.iconst 0, 1) := by decide +kernel
theorem dX6_isSound_102 : decode cX6_isSound 102 = .ok (.ireturn, 1) := by decide +kernel
theorem dX6_isSound_103 : decode cX6_isSound 103 = .ok (.iinc 2 1, 3) := by decide +kernel
theorem dX6_isSound_106 : decode cX6_isSound 106 = .ok (.goto (-19), 3) := by decide +kernel
theorem dX6_isSound_109 : decode cX6_isSound 109 = .ok (.iinc 1 1, 3) := by decide +kernel
theorem dX6_isSound_112 : decode cX6_isSound 112 = .ok (.goto (-35), 3) := by decide +kernel
theorem dX6_isSound_115 : decode cX6_isSound 115 = .ok (.iconst 1, 1) := by decide +kernel
theorem dX6_isSound_116 : decode cX6_isSound 116 = .ok (.ireturn, 1) := by decide +kernel
theorem dX6_laysPlan_0 : decode cX6_laysPlan 0 = .ok (.iload_n 1, 1) := by decide +kernel
theorem dX6_laysPlan_1 : decode cX6_laysPlan 1 = .ok (.istore_n 2, 1) := by decide +kernel
theorem dX6_laysPlan_2 : decode cX6_laysPlan 2 = .ok (.aload_n 0, 1) := by decide +kernel
theorem dX6_laysPlan_3 : decode cX6_laysPlan 3 = .ok (.getfield 67, 3) := by decide +kernel
theorem dX6_laysPlan_6 : decode cX6_laysPlan 6 = .ok (.iconst 1, 1) := by decide +kernel
theorem dX6_laysPlan_7 : decode cX6_laysPlan 7 = .ok (.isub, 1) := by decide +kernel
theorem dX6_laysPlan_8 : decode cX6_laysPlan 8 = .ok (.istore_n 3, 1) := by decide +kernel
theorem dX6_laysPlan_9 : decode cX6_laysPlan 9 = .ok (.iload_n 3, 1) := by decide +kernel
theorem dX6_laysPlan_10 : decode cX6_laysPlan 10 = .ok (.ifCond .lt 28, 3) := by decide +kernel
theorem dX6_laysPlan_13 : decode cX6_laysPlan 13 = .ok (.aload_n 0, 1) := by decide +kernel
theorem dX6_laysPlan_14 : decode cX6_laysPlan 14 = .ok (.getfield 50, 3) := by decide +kernel
theorem dX6_laysPlan_17 : decode cX6_laysPlan 17 = .ok (.iload_n 3, 1) := by decide +kernel
theorem dX6_laysPlan_18 : decode cX6_laysPlan 18 = .ok (.iload_n 2, 1) := by decide +kernel
theorem dX6_laysPlan_19 : decode cX6_laysPlan 19 = .ok (.aload_n 0, 1) := by decide +kernel
theorem dX6_laysPlan_20 : decode cX6_laysPlan 20 = .ok (.getfield 60, 3) := by decide +kernel
theorem dX6_laysPlan_23 : decode cX6_laysPlan 23 = .ok (.irem, 1) := by decide +kernel
theorem dX6_laysPlan_24 : decode cX6_laysPlan 24 = .ok (.iastore, 1) := by decide +kernel
theorem dX6_laysPlan_25 : decode cX6_laysPlan 25 = .ok (.iload_n 2, 1) := by decide +kernel
theorem dX6_laysPlan_26 : decode cX6_laysPlan 26 = .ok (.aload_n 0, 1) := by decide +kernel
theorem dX6_laysPlan_27 : decode cX6_laysPlan 27 = .ok (.getfield 60, 3) := by decide +kernel
theorem dX6_laysPlan_30 : decode cX6_laysPlan 30 = .ok (.idiv, 1) := by decide +kernel
theorem dX6_laysPlan_31 : decode cX6_laysPlan 31 = .ok (.istore_n 2, 1) := by decide +kernel
theorem dX6_laysPlan_32 : decode cX6_laysPlan 32 = .ok (.iinc 3 (-1), 3) := by decide +kernel
theorem dX6_laysPlan_35 : decode cX6_laysPlan 35 = .ok (.goto (-26), 3) := by decide +kernel
theorem dX6_laysPlan_38 : decode cX6_laysPlan 38 = .ok (.return_, 1) := by decide +kernel
theorem dX6_movesOfPlan_0 : decode cX6_movesOfPlan 0 = .ok (.iconst 0, 1) := by decide +kernel
theorem dX6_movesOfPlan_1 : decode cX6_movesOfPlan 1 = .ok (.istore_n 1, 1) := by decide +kernel
theorem dX6_movesOfPlan_2 : decode cX6_movesOfPlan 2 = .ok (.iconst 0, 1) := by decide +kernel
theorem dX6_movesOfPlan_3 : decode cX6_movesOfPlan 3 = .ok (.istore_n 2, 1) := by decide +kernel
theorem dX6_movesOfPlan_4 : decode cX6_movesOfPlan 4 = .ok (.iload_n 2, 1) := by decide +kernel
theorem dX6_movesOfPlan_5 : decode cX6_movesOfPlan 5 = .ok (.aload_n 0, 1) := by decide +kernel
theorem dX6_movesOfPlan_6 : decode cX6_movesOfPlan 6 = .ok (.getfield 67, 3) := by decide +kernel
theorem dX6_movesOfPlan_9 : decode cX6_movesOfPlan 9 = .ok (.if_icmp .ge 32, 3) := by decide +kernel
theorem dX6_movesOfPlan_12 : decode cX6_movesOfPlan 12 = .ok (.iload_n 1, 1) := by decide +kernel
theorem dX6_movesOfPlan_13 : decode cX6_movesOfPlan 13 = .ok (.aload_n 0, 1) := by decide +kernel
theorem dX6_movesOfPlan_14 : decode cX6_movesOfPlan 14 = .ok (.getfield 50, 3) := by decide +kernel
theorem dX6_movesOfPlan_17 : decode cX6_movesOfPlan 17 = .ok (.iload_n 2, 1) := by decide +kernel
theorem dX6_movesOfPlan_18 : decode cX6_movesOfPlan 18 = .ok (.iaload, 1) := by decide +kernel
theorem dX6_movesOfPlan_19 : decode cX6_movesOfPlan 19 = .ok (.aload_n 0, 1) := by decide +kernel
theorem dX6_movesOfPlan_20 : decode cX6_movesOfPlan 20 = .ok (.getfield 29, 3) := by decide +kernel
theorem dX6_movesOfPlan_23 : decode cX6_movesOfPlan 23 = .ok (.iload_n 2, 1) := by decide +kernel
theorem dX6_movesOfPlan_24 : decode cX6_movesOfPlan 24 = .ok (.iaload, 1) := by decide +kernel
theorem dX6_movesOfPlan_25 : decode cX6_movesOfPlan 25 = .ok (.if_icmp .ne 7, 3) := by decide +kernel
theorem dX6_movesOfPlan_28 : decode cX6_movesOfPlan 28 = .ok (.iconst 0, 1) := by decide +kernel
theorem dX6_movesOfPlan_29 : decode cX6_movesOfPlan 29 = .ok (.goto 4, 3) := by decide +kernel
theorem dX6_movesOfPlan_32 : decode cX6_movesOfPlan 32 = .ok (.iconst 1, 1) := by decide +kernel
theorem dX6_movesOfPlan_33 : decode cX6_movesOfPlan 33 = .ok (.iadd, 1) := by decide +kernel
theorem dX6_movesOfPlan_34 : decode cX6_movesOfPlan 34 = .ok (.istore_n 1, 1) := by decide +kernel
theorem dX6_movesOfPlan_35 : decode cX6_movesOfPlan 35 = .ok (.iinc 2 1, 3) := by decide +kernel
theorem dX6_movesOfPlan_38 : decode cX6_movesOfPlan 38 = .ok (.goto (-34), 3) := by decide +kernel
theorem dX6_movesOfPlan_41 : decode cX6_movesOfPlan 41 = .ok (.iload_n 1, 1) := by decide +kernel
theorem dX6_movesOfPlan_42 : decode cX6_movesOfPlan 42 = .ok (.ireturn, 1) := by decide +kernel
theorem dX6_sound_0 : decode cX6_sound 0 = .ok (.iconst 1, 1) := by decide +kernel
theorem dX6_sound_1 : decode cX6_sound 1 = .ok (.istore_n 1, 1) := by decide +kernel
theorem dX6_sound_2 : decode cX6_sound 2 = .ok (.iconst 0, 1) := by decide +kernel
theorem dX6_sound_3 : decode cX6_sound 3 = .ok (.istore_n 2, 1) := by decide +kernel
theorem dX6_sound_4 : decode cX6_sound 4 = .ok (.iload_n 2, 1) := by decide +kernel
theorem dX6_sound_5 : decode cX6_sound 5 = .ok (.aload_n 0, 1) := by decide +kernel
theorem dX6_sound_6 : decode cX6_sound 6 = .ok (.getfield 67, 3) := by decide +kernel
theorem dX6_sound_9 : decode cX6_sound 9 = .ok (.if_icmp .ge 16, 3) := by decide +kernel
theorem dX6_sound_12 : decode cX6_sound 12 = .ok (.iload_n 1, 1) := by decide +kernel
theorem dX6_sound_13 : decode cX6_sound 13 = .ok (.aload_n 0, 1) := by decide +kernel
theorem dX6_sound_14 : decode cX6_sound 14 = .ok (.getfield 60, 3) := by decide +kernel
theorem dX6_sound_17 : decode cX6_sound 17 = .ok (.imul, 1) := by decide +kernel
theorem dX6_sound_18 : decode cX6_sound 18 = .ok (.istore_n 1, 1) := by decide +kernel
theorem dX6_sound_19 : decode cX6_sound 19 = .ok (.iinc 2 1, 3) := by decide +kernel
theorem dX6_sound_22 : decode cX6_sound 22 = .ok (.goto (-18), 3) := by decide +kernel
theorem dX6_sound_25 : decode cX6_sound 25 = .ok (.iconst 0, 1) := by decide +kernel
theorem dX6_sound_26 : decode cX6_sound 26 = .ok (.istore_n 2, 1) := by decide +kernel
theorem dX6_sound_27 : decode cX6_sound 27 = .ok (.aload_n 0, 1) := by decide +kernel
theorem dX6_sound_28 : decode cX6_sound 28 = .ok (.iconst (-1), 1) := by decide +kernel
theorem dX6_sound_29 : decode cX6_sound 29 = .ok (.putfield 155, 3) := by decide +kernel
theorem dX6_sound_32 : decode cX6_sound 32 = .ok (.iconst 0, 1) := by decide +kernel
theorem dX6_sound_33 : decode cX6_sound 33 = .ok (.istore_n 3, 1) := by decide +kernel
theorem dX6_sound_34 : decode cX6_sound 34 = .ok (.iload_n 3, 1) := by decide +kernel
theorem dX6_sound_35 : decode cX6_sound 35 = .ok (.iload_n 1, 1) := by decide +kernel
theorem dX6_sound_36 : decode cX6_sound 36 = .ok (.if_icmp .ge 88, 3) := by decide +kernel
theorem dX6_sound_39 : decode cX6_sound 39 = .ok (.aload_n 0, 1) := by decide +kernel
theorem dX6_sound_40 : decode cX6_sound 40 = .ok (.iload_n 3, 1) := by decide +kernel
theorem dX6_sound_41 : decode cX6_sound 41 = .ok (.invokevirtual 158, 3) := by decide +kernel
theorem dX6_sound_44 : decode cX6_sound 44 = .ok (.aload_n 0, 1) := by decide +kernel
theorem dX6_sound_45 : decode cX6_sound 45 = .ok (.invokevirtual 162, 3) := by decide +kernel
theorem dX6_sound_48 : decode cX6_sound 48 = .ok (.ifCond .ne 6, 3) := by decide +kernel
theorem dX6_sound_51 : decode cX6_sound 51 = .ok (.goto 67, 3) := by decide +kernel
theorem dX6_sound_54 : decode cX6_sound 54 = .ok (.iinc 2 1, 3) := by decide +kernel
theorem dX6_sound_57 : decode cX6_sound 57 = .ok (.aload_n 0, 1) := by decide +kernel
theorem dX6_sound_58 : decode cX6_sound 58 = .ok (.getfield 155, 3) := by decide +kernel
theorem dX6_sound_61 : decode cX6_sound 61 = .ok (.ifCond .lt 17, 3) := by decide +kernel
theorem dX6_sound_64 : decode cX6_sound 64 = .ok (.aload_n 0, 1) := by decide +kernel
theorem dX6_sound_65 : decode cX6_sound 65 = .ok (.invokevirtual 166, 3) := by decide +kernel
theorem dX6_sound_68 : decode cX6_sound 68 = .ok (.aload_n 0, 1) := by decide +kernel
theorem dX6_sound_69 : decode cX6_sound 69 = .ok (.getfield 155, 3) := by decide +kernel
theorem dX6_sound_72 : decode cX6_sound 72 = .ok (.if_icmp .lt 6, 3) := by decide +kernel
theorem dX6_sound_75 : decode cX6_sound 75 = .ok (.goto 43, 3) := by decide +kernel
theorem dX6_sound_78 : decode cX6_sound 78 = .ok (.aload_n 0, 1) := by decide +kernel
theorem dX6_sound_79 : decode cX6_sound 79 = .ok (.aload_n 0, 1) := by decide +kernel
theorem dX6_sound_80 : decode cX6_sound 80 = .ok (.invokevirtual 166, 3) := by decide +kernel
theorem dX6_sound_83 : decode cX6_sound 83 = .ok (.putfield 155, 3) := by decide +kernel
theorem dX6_sound_86 : decode cX6_sound 86 = .ok (.iconst 0, 1) := by decide +kernel
theorem dX6_sound_87 : decode cX6_sound 87 = .ok (.istore 4, 2) := by decide +kernel
theorem dX6_sound_89 : decode cX6_sound 89 = .ok (.iload 4, 2) := by decide +kernel
theorem dX6_sound_91 : decode cX6_sound 91 = .ok (.aload_n 0, 1) := by decide +kernel
theorem dX6_sound_92 : decode cX6_sound 92 = .ok (.getfield 67, 3) := by decide +kernel
theorem dX6_sound_95 : decode cX6_sound 95 = .ok (.if_icmp .ge 23, 3) := by decide +kernel
theorem dX6_sound_98 : decode cX6_sound 98 = .ok (.aload_n 0, 1) := by decide +kernel
theorem dX6_sound_99 : decode cX6_sound 99 = .ok (.getfield 53, 3) := by decide +kernel
theorem dX6_sound_102 : decode cX6_sound 102 = .ok (.iload 4, 2) := by decide +kernel
theorem dX6_sound_104 : decode cX6_sound 104 = .ok (.aload_n 0, 1) := by decide +kernel
theorem dX6_sound_105 : decode cX6_sound 105 = .ok (.getfield 50, 3) := by decide +kernel
theorem dX6_sound_108 : decode cX6_sound 108 = .ok (.iload 4, 2) := by decide +kernel
theorem dX6_sound_110 : decode cX6_sound 110 = .ok (.iaload, 1) := by decide +kernel
theorem dX6_sound_111 : decode cX6_sound 111 = .ok (.iastore, 1) := by decide +kernel
theorem dX6_sound_112 : decode cX6_sound 112 = .ok (.iinc 4 1, 3) := by decide +kernel
theorem dX6_sound_115 : decode cX6_sound 115 = .ok (.goto (-26), 3) := by decide +kernel
theorem dX6_sound_118 : decode cX6_sound 118 = .ok (.iinc 3 1, 3) := by decide +kernel
theorem dX6_sound_121 : decode cX6_sound 121 = .ok (.goto (-87), 3) := by decide +kernel
theorem dX6_sound_124 : decode cX6_sound 124 = .ok (.iload_n 2, 1) := by decide +kernel
theorem dX6_sound_125 : decode cX6_sound 125 = .ok (.ireturn, 1) := by decide +kernel
theorem dX6_fewest_0 : decode cX6_fewest 0 = .ok (.aload_n 0, 1) := by decide +kernel
theorem dX6_fewest_1 : decode cX6_fewest 1 = .ok (.aload_n 0, 1) := by decide +kernel
theorem dX6_fewest_2 : decode cX6_fewest 2 = .ok (.invokevirtual 169, 3) := by decide +kernel
theorem dX6_fewest_5 : decode cX6_fewest 5 = .ok (.ifCond .ne 7, 3) := by decide +kernel
theorem dX6_fewest_8 : decode cX6_fewest 8 = .ok (.iconst 1, 1) := by decide +kernel
theorem dX6_fewest_9 : decode cX6_fewest 9 = .ok (.goto 4, 3) := by decide +kernel
theorem dX6_fewest_12 : decode cX6_fewest 12 = .ok (.iconst 0, 1) := by decide +kernel
theorem dX6_fewest_13 : decode cX6_fewest 13 = .ok (.invokevirtual 70, 3) := by decide +kernel
theorem dX6_fewest_16 : decode cX6_fewest 16 = .ok (.ifCond .eq 7, 3) := by decide +kernel
theorem dX6_fewest_19 : decode cX6_fewest 19 = .ok (.iconst 0, 1) := by decide +kernel
theorem dX6_fewest_20 : decode cX6_fewest 20 = .ok (.goto 7, 3) := by decide +kernel
theorem dX6_fewest_23 : decode cX6_fewest 23 = .ok (.aload_n 0, 1) := by decide +kernel
theorem dX6_fewest_24 : decode cX6_fewest 24 = .ok (.getfield 155, 3) := by decide +kernel
theorem dX6_fewest_27 : decode cX6_fewest 27 = .ok (.ireturn, 1) := by decide +kernel
theorem dX6_fewestMoves_0 : decode cX6_fewestMoves 0 = .ok (.aload_n 0, 1) := by decide +kernel
theorem dX6_fewestMoves_1 : decode cX6_fewestMoves 1 = .ok (.invokevirtual 172, 3) := by decide +kernel
theorem dX6_fewestMoves_4 : decode cX6_fewestMoves 4 = .ok (.ireturn, 1) := by decide +kernel
theorem dX6_fewestByTrying_0 : decode cX6_fewestByTrying 0 = .ok (.aload_n 0, 1) := by decide +kernel
theorem dX6_fewestByTrying_1 : decode cX6_fewestByTrying 1 = .ok (.invokevirtual 172, 3) := by decide +kernel
theorem dX6_fewestByTrying_4 : decode cX6_fewestByTrying 4 = .ok (.ireturn, 1) := by decide +kernel
theorem dX6_planned_0 : decode cX6_planned 0 = .ok (.aload_n 0, 1) := by decide +kernel
theorem dX6_planned_1 : decode cX6_planned 1 = .ok (.aload_n 0, 1) := by decide +kernel
theorem dX6_planned_2 : decode cX6_planned 2 = .ok (.iload_n 1, 1) := by decide +kernel
theorem dX6_planned_3 : decode cX6_planned 3 = .ok (.invokevirtual 94, 3) := by decide +kernel
theorem dX6_planned_6 : decode cX6_planned 6 = .ok (.ifCond .eq 7, 3) := by decide +kernel
theorem dX6_planned_9 : decode cX6_planned 9 = .ok (.iconst 1, 1) := by decide +kernel
theorem dX6_planned_10 : decode cX6_planned 10 = .ok (.goto 15, 3) := by decide +kernel
theorem dX6_planned_13 : decode cX6_planned 13 = .ok (.aload_n 0, 1) := by decide +kernel
theorem dX6_planned_14 : decode cX6_planned 14 = .ok (.invokevirtual 169, 3) := by decide +kernel
theorem dX6_planned_17 : decode cX6_planned 17 = .ok (.ifCond .ne 7, 3) := by decide +kernel
theorem dX6_planned_20 : decode cX6_planned 20 = .ok (.iconst 2, 1) := by decide +kernel
theorem dX6_planned_21 : decode cX6_planned 21 = .ok (.goto 4, 3) := by decide +kernel
theorem dX6_planned_24 : decode cX6_planned 24 = .ok (.iconst 0, 1) := by decide +kernel
theorem dX6_planned_25 : decode cX6_planned 25 = .ok (.invokevirtual 70, 3) := by decide +kernel
theorem dX6_planned_28 : decode cX6_planned 28 = .ok (.ifCond .eq 7, 3) := by decide +kernel
theorem dX6_planned_31 : decode cX6_planned 31 = .ok (.iconst 0, 1) := by decide +kernel
theorem dX6_planned_32 : decode cX6_planned 32 = .ok (.goto 9, 3) := by decide +kernel
theorem dX6_planned_35 : decode cX6_planned 35 = .ok (.aload_n 0, 1) := by decide +kernel
theorem dX6_planned_36 : decode cX6_planned 36 = .ok (.getfield 53, 3) := by decide +kernel
theorem dX6_planned_39 : decode cX6_planned 39 = .ok (.iload_n 1, 1) := by decide +kernel
theorem dX6_planned_40 : decode cX6_planned 40 = .ok (.iaload, 1) := by decide +kernel
theorem dX6_planned_41 : decode cX6_planned 41 = .ok (.ireturn, 1) := by decide +kernel
theorem dX6_soundPlans_0 : decode cX6_soundPlans 0 = .ok (.aload_n 0, 1) := by decide +kernel
theorem dX6_soundPlans_1 : decode cX6_soundPlans 1 = .ok (.aload_n 0, 1) := by decide +kernel
theorem dX6_soundPlans_2 : decode cX6_soundPlans 2 = .ok (.invokevirtual 169, 3) := by decide +kernel
theorem dX6_soundPlans_5 : decode cX6_soundPlans 5 = .ok (.invokevirtual 139, 3) := by decide +kernel
theorem dX6_soundPlans_8 : decode cX6_soundPlans 8 = .ok (.ireturn, 1) := by decide +kernel
theorem dX6_switches_0 : decode cX6_switches 0 = .ok (.aload_n 0, 1) := by decide +kernel
theorem dX6_switches_1 : decode cX6_switches 1 = .ok (.aload_n 0, 1) := by decide +kernel
theorem dX6_switches_2 : decode cX6_switches 2 = .ok (.getfield 117, 3) := by decide +kernel
theorem dX6_switches_5 : decode cX6_switches 5 = .ok (.invokevirtual 139, 3) := by decide +kernel
theorem dX6_switches_8 : decode cX6_switches 8 = .ok (.ireturn, 1) := by decide +kernel
theorem dX6_hoursOver_0 : decode cX6_hoursOver 0 = .ok (.aload_n 0, 1) := by decide +kernel
theorem dX6_hoursOver_1 : decode cX6_hoursOver 1 = .ok (.iconst 0, 1) := by decide +kernel
theorem dX6_hoursOver_2 : decode cX6_hoursOver 2 = .ok (.putfield 56, 3) := by decide +kernel
theorem dX6_hoursOver_5 : decode cX6_hoursOver 5 = .ok (.aload_n 0, 1) := by decide +kernel
theorem dX6_hoursOver_6 : decode cX6_hoursOver 6 = .ok (.getfield 126, 3) := by decide +kernel
theorem dX6_hoursOver_9 : decode cX6_hoursOver 9 = .ok (.lreturn, 1) := by decide +kernel
theorem dX6_shareOf_0 : decode cX6_shareOf 0 = .ok (.aload_n 0, 1) := by decide +kernel
theorem dX6_shareOf_1 : decode cX6_shareOf 1 = .ok (.iload_n 1, 1) := by decide +kernel
theorem dX6_shareOf_2 : decode cX6_shareOf 2 = .ok (.iload_n 2, 1) := by decide +kernel
theorem dX6_shareOf_3 : decode cX6_shareOf 3 = .ok (.invokevirtual 149, 3) := by decide +kernel
theorem dX6_shareOf_6 : decode cX6_shareOf 6 = .ok (.ifCond .eq 7, 3) := by decide +kernel
theorem dX6_shareOf_9 : decode cX6_shareOf 9 = .ok (.fconst 0, 1) := by decide +kernel
theorem dX6_shareOf_10 : decode cX6_shareOf 10 = .ok (.goto 22, 3) := by decide +kernel
theorem dX6_shareOf_13 : decode cX6_shareOf 13 = .ok (.aload_n 0, 1) := by decide +kernel
theorem dX6_shareOf_14 : decode cX6_shareOf 14 = .ok (.iload_n 1, 1) := by decide +kernel
theorem dX6_shareOf_15 : decode cX6_shareOf 15 = .ok (.iload_n 2, 1) := by decide +kernel
theorem dX6_shareOf_16 : decode cX6_shareOf 16 = .ok (.invokevirtual 87, 3) := by decide +kernel
theorem dX6_shareOf_19 : decode cX6_shareOf 19 = .ok (.i2f, 1) := by decide +kernel
theorem dX6_shareOf_20 : decode cX6_shareOf 20 = .ok (.aload_n 0, 1) := by decide +kernel
theorem dX6_shareOf_21 : decode cX6_shareOf 21 = .ok (.getfield 7, 3) := by decide +kernel
theorem dX6_shareOf_24 : decode cX6_shareOf 24 = .ok (.iconst 3, 1) := by decide +kernel
theorem dX6_shareOf_25 : decode cX6_shareOf 25 = .ok (.iload_n 1, 1) := by decide +kernel
theorem dX6_shareOf_26 : decode cX6_shareOf 26 = .ok (.imul, 1) := by decide +kernel
theorem dX6_shareOf_27 : decode cX6_shareOf 27 = .ok (.iload_n 2, 1) := by decide +kernel
theorem dX6_shareOf_28 : decode cX6_shareOf 28 = .ok (.iadd, 1) := by decide +kernel
theorem dX6_shareOf_29 : decode cX6_shareOf 29 = .ok (.iaload, 1) := by decide +kernel
theorem dX6_shareOf_30 : decode cX6_shareOf 30 = .ok (.i2f, 1) := by decide +kernel
theorem dX6_shareOf_31 : decode cX6_shareOf 31 = .ok (.fdiv, 1) := by decide +kernel
theorem dX6_shareOf_32 : decode cX6_shareOf 32 = .ok (.freturn, 1) := by decide +kernel
theorem dX6_meanStorage_0 : decode cX6_meanStorage 0 = .ok (.aload_n 0, 1) := by decide +kernel
theorem dX6_meanStorage_1 : decode cX6_meanStorage 1 = .ok (.aload_n 0, 1) := by decide +kernel
theorem dX6_meanStorage_2 : decode cX6_meanStorage 2 = .ok (.getfield 67, 3) := by decide +kernel
theorem dX6_meanStorage_5 : decode cX6_meanStorage 5 = .ok (.ifCond .ne 7, 3) := by decide +kernel
theorem dX6_meanStorage_8 : decode cX6_meanStorage 8 = .ok (.iconst 1, 1) := by decide +kernel
theorem dX6_meanStorage_9 : decode cX6_meanStorage 9 = .ok (.goto 4, 3) := by decide +kernel
theorem dX6_meanStorage_12 : decode cX6_meanStorage 12 = .ok (.iconst 0, 1) := by decide +kernel
theorem dX6_meanStorage_13 : decode cX6_meanStorage 13 = .ok (.invokevirtual 70, 3) := by decide +kernel
theorem dX6_meanStorage_16 : decode cX6_meanStorage 16 = .ok (.ifCond .eq 5, 3) := by decide +kernel
theorem dX6_meanStorage_19 : decode cX6_meanStorage 19 = .ok (.dconst 0, 1) := by decide +kernel
theorem dX6_meanStorage_20 : decode cX6_meanStorage 20 = .ok (.dreturn, 1) := by decide +kernel
theorem dX6_meanStorage_21 : decode cX6_meanStorage 21 = .ok (.iconst 0, 1) := by decide +kernel
theorem dX6_meanStorage_22 : decode cX6_meanStorage 22 = .ok (.istore_n 1, 1) := by decide +kernel
theorem dX6_meanStorage_23 : decode cX6_meanStorage 23 = .ok (.iconst 0, 1) := by decide +kernel
theorem dX6_meanStorage_24 : decode cX6_meanStorage 24 = .ok (.istore_n 2, 1) := by decide +kernel
theorem dX6_meanStorage_25 : decode cX6_meanStorage 25 = .ok (.iload_n 2, 1) := by decide +kernel
theorem dX6_meanStorage_26 : decode cX6_meanStorage 26 = .ok (.aload_n 0, 1) := by decide +kernel
theorem dX6_meanStorage_27 : decode cX6_meanStorage 27 = .ok (.getfield 67, 3) := by decide +kernel
theorem dX6_meanStorage_30 : decode cX6_meanStorage 30 = .ok (.if_icmp .ge 20, 3) := by decide +kernel
theorem dX6_meanStorage_33 : decode cX6_meanStorage 33 = .ok (.iload_n 1, 1) := by decide +kernel
theorem dX6_meanStorage_34 : decode cX6_meanStorage 34 = .ok (.aload_n 0, 1) := by decide +kernel
theorem dX6_meanStorage_35 : decode cX6_meanStorage 35 = .ok (.getfield 17, 3) := by decide +kernel
theorem dX6_meanStorage_38 : decode cX6_meanStorage 38 = .ok (.iconst 3, 1) := by decide +kernel
theorem dX6_meanStorage_39 : decode cX6_meanStorage 39 = .ok (.iload_n 2, 1) := by decide +kernel
theorem dX6_meanStorage_40 : decode cX6_meanStorage 40 = .ok (.imul, 1) := by decide +kernel
theorem dX6_meanStorage_41 : decode cX6_meanStorage 41 = .ok (.iaload, 1) := by decide +kernel
theorem dX6_meanStorage_42 : decode cX6_meanStorage 42 = .ok (.iadd, 1) := by decide +kernel
theorem dX6_meanStorage_43 : decode cX6_meanStorage 43 = .ok (.istore_n 1, 1) := by decide +kernel
theorem dX6_meanStorage_44 : decode cX6_meanStorage 44 = .ok (.iinc 2 1, 3) := by decide +kernel
theorem dX6_meanStorage_47 : decode cX6_meanStorage 47 = .ok (.goto (-22), 3) := by decide +kernel
theorem dX6_meanStorage_50 : decode cX6_meanStorage 50 = .ok (.iload_n 1, 1) := by decide +kernel
theorem dX6_meanStorage_51 : decode cX6_meanStorage 51 = .ok (.i2d, 1) := by decide +kernel
theorem dX6_meanStorage_52 : decode cX6_meanStorage 52 = .ok (.aload_n 0, 1) := by decide +kernel
theorem dX6_meanStorage_53 : decode cX6_meanStorage 53 = .ok (.getfield 67, 3) := by decide +kernel
theorem dX6_meanStorage_56 : decode cX6_meanStorage 56 = .ok (.i2d, 1) := by decide +kernel
theorem dX6_meanStorage_57 : decode cX6_meanStorage 57 = .ok (.ddiv, 1) := by decide +kernel
theorem dX6_meanStorage_58 : decode cX6_meanStorage 58 = .ok (.dreturn, 1) := by decide +kernel
end
section
theorem dL_addShard_0 : decode cL_addShard 0 = .ok (.aload 4, 2) := by decide +kernel
theorem dL_addShard_2 : decode cL_addShard 2 = .ok (.iconst 0, 1) := by decide +kernel
theorem dL_addShard_3 : decode cL_addShard 3 = .ok (.aload_n 0, 1) := by decide +kernel
theorem dL_addShard_4 : decode cL_addShard 4 = .ok (.iload_n 1, 1) := by decide +kernel
theorem dL_addShard_5 : decode cL_addShard 5 = .ok (.iload_n 2, 1) := by decide +kernel
theorem dL_addShard_6 : decode cL_addShard 6 = .ok (.iload_n 3, 1) := by decide +kernel
theorem dL_addShard_7 : decode cL_addShard 7 = .ok (.invokevirtual 7, 3) := by decide +kernel
theorem dL_addShard_10 : decode cL_addShard 10 = .ok (.i2l, 1) := by decide +kernel
theorem dL_addShard_11 : decode cL_addShard 11 = .ok (.lastore, 1) := by decide +kernel
theorem dL_addShard_12 : decode cL_addShard 12 = .ok (.goto 11, 3) := by decide +kernel
theorem dL_addShard_15 : decode cL_addShard 15 = .ok (.astore 5, 2) := by decide +kernel
theorem dL_addShard_17 : decode cL_addShard 17 = .ok (.iconst 1, 1) := by decide +kernel
theorem dL_addShard_18 : decode cL_addShard 18 = .ok (.ireturn, 1) := by decide +kernel
theorem dL_addShard_19 : decode cL_addShard 19 = .ok (.astore 5, 2) := by decide +kernel
theorem dL_addShard_21 : decode cL_addShard 21 = .ok (.iconst 2, 1) := by decide +kernel
theorem dL_addShard_22 : decode cL_addShard 22 = .ok (.ireturn, 1) := by decide +kernel
theorem dL_addShard_23 : decode cL_addShard 23 = .ok (.iconst 0, 1) := by decide +kernel
theorem dL_addShard_24 : decode cL_addShard 24 = .ok (.ireturn, 1) := by decide +kernel
theorem dL_setOpen_0 : decode cL_setOpen 0 = .ok (.aload_n 3, 1) := by decide +kernel
theorem dL_setOpen_1 : decode cL_setOpen 1 = .ok (.iconst 0, 1) := by decide +kernel
theorem dL_setOpen_2 : decode cL_setOpen 2 = .ok (.aload_n 0, 1) := by decide +kernel
theorem dL_setOpen_3 : decode cL_setOpen 3 = .ok (.iload_n 1, 1) := by decide +kernel
theorem dL_setOpen_4 : decode cL_setOpen 4 = .ok (.iload_n 2, 1) := by decide +kernel
theorem dL_setOpen_5 : decode cL_setOpen 5 = .ok (.invokevirtual 17, 3) := by decide +kernel
theorem dL_setOpen_8 : decode cL_setOpen 8 = .ok (.ifCond .eq 7, 3) := by decide +kernel
theorem dL_setOpen_11 : decode cL_setOpen 11 = .ok (.lconst 1, 1) := by decide +kernel
theorem dL_setOpen_12 : decode cL_setOpen 12 = .ok (.goto 4, 3) := by decide +kernel
theorem dL_setOpen_15 : decode cL_setOpen 15 = .ok (.lconst 0, 1) := by decide +kernel
theorem dL_setOpen_16 : decode cL_setOpen 16 = .ok (.lastore, 1) := by decide +kernel
theorem dL_setOpen_17 : decode cL_setOpen 17 = .ok (.goto 7, 3) := by decide +kernel
theorem dL_setOpen_20 : decode cL_setOpen 20 = .ok (.astore 4, 2) := by decide +kernel
theorem dL_setOpen_22 : decode cL_setOpen 22 = .ok (.iconst 1, 1) := by decide +kernel
theorem dL_setOpen_23 : decode cL_setOpen 23 = .ok (.ireturn, 1) := by decide +kernel
theorem dL_setOpen_24 : decode cL_setOpen 24 = .ok (.iconst 0, 1) := by decide +kernel
theorem dL_setOpen_25 : decode cL_setOpen 25 = .ok (.ireturn, 1) := by decide +kernel
theorem dL_setLimit_0 : decode cL_setLimit 0 = .ok (.aload 4, 2) := by decide +kernel
theorem dL_setLimit_2 : decode cL_setLimit 2 = .ok (.iconst 0, 1) := by decide +kernel
theorem dL_setLimit_3 : decode cL_setLimit 3 = .ok (.aload_n 0, 1) := by decide +kernel
theorem dL_setLimit_4 : decode cL_setLimit 4 = .ok (.iload_n 1, 1) := by decide +kernel
theorem dL_setLimit_5 : decode cL_setLimit 5 = .ok (.iload_n 2, 1) := by decide +kernel
theorem dL_setLimit_6 : decode cL_setLimit 6 = .ok (.iload_n 3, 1) := by decide +kernel
theorem dL_setLimit_7 : decode cL_setLimit 7 = .ok (.invokevirtual 23, 3) := by decide +kernel
theorem dL_setLimit_10 : decode cL_setLimit 10 = .ok (.i2l, 1) := by decide +kernel
theorem dL_setLimit_11 : decode cL_setLimit 11 = .ok (.lastore, 1) := by decide +kernel
theorem dL_setLimit_12 : decode cL_setLimit 12 = .ok (.goto 11, 3) := by decide +kernel
theorem dL_setLimit_15 : decode cL_setLimit 15 = .ok (.astore 5, 2) := by decide +kernel
theorem dL_setLimit_17 : decode cL_setLimit 17 = .ok (.iconst 1, 1) := by decide +kernel
theorem dL_setLimit_18 : decode cL_setLimit 18 = .ok (.ireturn, 1) := by decide +kernel
theorem dL_setLimit_19 : decode cL_setLimit 19 = .ok (.astore 5, 2) := by decide +kernel
theorem dL_setLimit_21 : decode cL_setLimit 21 = .ok (.iconst 2, 1) := by decide +kernel
theorem dL_setLimit_22 : decode cL_setLimit 22 = .ok (.ireturn, 1) := by decide +kernel
theorem dL_setLimit_23 : decode cL_setLimit 23 = .ok (.iconst 0, 1) := by decide +kernel
theorem dL_setLimit_24 : decode cL_setLimit 24 = .ok (.ireturn, 1) := by decide +kernel
theorem dL_addTenant_0 : decode cL_addTenant 0 = .ok (.aload 6, 2) := by decide +kernel
theorem dL_addTenant_2 : decode cL_addTenant 2 = .ok (.iconst 0, 1) := by decide +kernel
theorem dL_addTenant_3 : decode cL_addTenant 3 = .ok (.aload_n 0, 1) := by decide +kernel
theorem dL_addTenant_4 : decode cL_addTenant 4 = .ok (.iload_n 1, 1) := by decide +kernel
theorem dL_addTenant_5 : decode cL_addTenant 5 = .ok (.iload_n 2, 1) := by decide +kernel
theorem dL_addTenant_6 : decode cL_addTenant 6 = .ok (.iload_n 3, 1) := by decide +kernel
theorem dL_addTenant_7 : decode cL_addTenant 7 = .ok (.iload 4, 2) := by decide +kernel
theorem dL_addTenant_9 : decode cL_addTenant 9 = .ok (.iload 5, 2) := by decide +kernel
theorem dL_addTenant_11 : decode cL_addTenant 11 = .ok (.invokevirtual 26, 3) := by decide +kernel
theorem dL_addTenant_14 : decode cL_addTenant 14 = .ok (.i2l, 1) := by decide +kernel
theorem dL_addTenant_15 : decode cL_addTenant 15 = .ok (.lastore, 1) := by decide +kernel
theorem dL_addTenant_16 : decode cL_addTenant 16 = .ok (.goto 19, 3) := by decide +kernel
theorem dL_addTenant_19 : decode cL_addTenant 19 = .ok (.astore 7, 2) := by decide +kernel
theorem dL_addTenant_21 : decode cL_addTenant 21 = .ok (.iconst 1, 1) := by decide +kernel
theorem dL_addTenant_22 : decode cL_addTenant 22 = .ok (.ireturn, 1) := by decide +kernel
theorem dL_addTenant_23 : decode cL_addTenant 23 = .ok (.astore 7, 2) := by decide +kernel
theorem dL_addTenant_25 : decode cL_addTenant 25 = .ok (.iconst 2, 1) := by decide +kernel
theorem dL_addTenant_26 : decode cL_addTenant 26 = .ok (.ireturn, 1) := by decide +kernel
theorem dL_addTenant_27 : decode cL_addTenant 27 = .ok (.astore 7, 2) := by decide +kernel
theorem dL_addTenant_29 : decode cL_addTenant 29 = .ok (.iconst 3, 1) := by decide +kernel
theorem dL_addTenant_30 : decode cL_addTenant 30 = .ok (.ireturn, 1) := by decide +kernel
theorem dL_addTenant_31 : decode cL_addTenant 31 = .ok (.astore 7, 2) := by decide +kernel
theorem dL_addTenant_33 : decode cL_addTenant 33 = .ok (.iconst 4, 1) := by decide +kernel
theorem dL_addTenant_34 : decode cL_addTenant 34 = .ok (.ireturn, 1) := by decide +kernel
theorem dL_addTenant_35 : decode cL_addTenant 35 = .ok (.iconst 0, 1) := by decide +kernel
theorem dL_addTenant_36 : decode cL_addTenant 36 = .ok (.ireturn, 1) := by decide +kernel
theorem dL_setSize_0 : decode cL_setSize 0 = .ok (.aload 4, 2) := by decide +kernel
theorem dL_setSize_2 : decode cL_setSize 2 = .ok (.iconst 0, 1) := by decide +kernel
theorem dL_setSize_3 : decode cL_setSize 3 = .ok (.aload_n 0, 1) := by decide +kernel
theorem dL_setSize_4 : decode cL_setSize 4 = .ok (.iload_n 1, 1) := by decide +kernel
theorem dL_setSize_5 : decode cL_setSize 5 = .ok (.iload_n 2, 1) := by decide +kernel
theorem dL_setSize_6 : decode cL_setSize 6 = .ok (.iload_n 3, 1) := by decide +kernel
theorem dL_setSize_7 : decode cL_setSize 7 = .ok (.invokevirtual 32, 3) := by decide +kernel
theorem dL_setSize_10 : decode cL_setSize 10 = .ok (.i2l, 1) := by decide +kernel
theorem dL_setSize_11 : decode cL_setSize 11 = .ok (.lastore, 1) := by decide +kernel
theorem dL_setSize_12 : decode cL_setSize 12 = .ok (.goto 11, 3) := by decide +kernel
theorem dL_setSize_15 : decode cL_setSize 15 = .ok (.astore 5, 2) := by decide +kernel
theorem dL_setSize_17 : decode cL_setSize 17 = .ok (.iconst 1, 1) := by decide +kernel
theorem dL_setSize_18 : decode cL_setSize 18 = .ok (.ireturn, 1) := by decide +kernel
theorem dL_setSize_19 : decode cL_setSize 19 = .ok (.astore 5, 2) := by decide +kernel
theorem dL_setSize_21 : decode cL_setSize 21 = .ok (.iconst 2, 1) := by decide +kernel
theorem dL_setSize_22 : decode cL_setSize 22 = .ok (.ireturn, 1) := by decide +kernel
theorem dL_setSize_23 : decode cL_setSize 23 = .ok (.iconst 0, 1) := by decide +kernel
theorem dL_setSize_24 : decode cL_setSize 24 = .ok (.ireturn, 1) := by decide +kernel
theorem dL_setWindow_0 : decode cL_setWindow 0 = .ok (.aload 4, 2) := by decide +kernel
theorem dL_setWindow_2 : decode cL_setWindow 2 = .ok (.iconst 0, 1) := by decide +kernel
theorem dL_setWindow_3 : decode cL_setWindow 3 = .ok (.aload_n 0, 1) := by decide +kernel
theorem dL_setWindow_4 : decode cL_setWindow 4 = .ok (.iload_n 1, 1) := by decide +kernel
theorem dL_setWindow_5 : decode cL_setWindow 5 = .ok (.iload_n 2, 1) := by decide +kernel
theorem dL_setWindow_6 : decode cL_setWindow 6 = .ok (.iload_n 3, 1) := by decide +kernel
theorem dL_setWindow_7 : decode cL_setWindow 7 = .ok (.invokevirtual 35, 3) := by decide +kernel
theorem dL_setWindow_10 : decode cL_setWindow 10 = .ok (.i2l, 1) := by decide +kernel
theorem dL_setWindow_11 : decode cL_setWindow 11 = .ok (.lastore, 1) := by decide +kernel
theorem dL_setWindow_12 : decode cL_setWindow 12 = .ok (.goto 11, 3) := by decide +kernel
theorem dL_setWindow_15 : decode cL_setWindow 15 = .ok (.astore 5, 2) := by decide +kernel
theorem dL_setWindow_17 : decode cL_setWindow 17 = .ok (.iconst 1, 1) := by decide +kernel
theorem dL_setWindow_18 : decode cL_setWindow 18 = .ok (.ireturn, 1) := by decide +kernel
theorem dL_setWindow_19 : decode cL_setWindow 19 = .ok (.astore 5, 2) := by decide +kernel
theorem dL_setWindow_21 : decode cL_setWindow 21 = .ok (.iconst 2, 1) := by decide +kernel
theorem dL_setWindow_22 : decode cL_setWindow 22 = .ok (.ireturn, 1) := by decide +kernel
theorem dL_setWindow_23 : decode cL_setWindow 23 = .ok (.iconst 0, 1) := by decide +kernel
theorem dL_setWindow_24 : decode cL_setWindow 24 = .ok (.ireturn, 1) := by decide +kernel
theorem dL_keepApart_0 : decode cL_keepApart 0 = .ok (.aload_n 3, 1) := by decide +kernel
theorem dL_keepApart_1 : decode cL_keepApart 1 = .ok (.iconst 0, 1) := by decide +kernel
theorem dL_keepApart_2 : decode cL_keepApart 2 = .ok (.aload_n 0, 1) := by decide +kernel
theorem dL_keepApart_3 : decode cL_keepApart 3 = .ok (.iload_n 1, 1) := by decide +kernel
theorem dL_keepApart_4 : decode cL_keepApart 4 = .ok (.iload_n 2, 1) := by decide +kernel
theorem dL_keepApart_5 : decode cL_keepApart 5 = .ok (.invokevirtual 38, 3) := by decide +kernel
theorem dL_keepApart_8 : decode cL_keepApart 8 = .ok (.i2l, 1) := by decide +kernel
theorem dL_keepApart_9 : decode cL_keepApart 9 = .ok (.lastore, 1) := by decide +kernel
theorem dL_keepApart_10 : decode cL_keepApart 10 = .ok (.goto 19, 3) := by decide +kernel
theorem dL_keepApart_13 : decode cL_keepApart 13 = .ok (.astore 4, 2) := by decide +kernel
theorem dL_keepApart_15 : decode cL_keepApart 15 = .ok (.iconst 1, 1) := by decide +kernel
theorem dL_keepApart_16 : decode cL_keepApart 16 = .ok (.ireturn, 1) := by decide +kernel
theorem dL_keepApart_17 : decode cL_keepApart 17 = .ok (.astore 4, 2) := by decide +kernel
theorem dL_keepApart_19 : decode cL_keepApart 19 = .ok (.iconst 2, 1) := by decide +kernel
theorem dL_keepApart_20 : decode cL_keepApart 20 = .ok (.ireturn, 1) := by decide +kernel
theorem dL_keepApart_21 : decode cL_keepApart 21 = .ok (.astore 4, 2) := by decide +kernel
theorem dL_keepApart_23 : decode cL_keepApart 23 = .ok (.iconst 3, 1) := by decide +kernel
theorem dL_keepApart_24 : decode cL_keepApart 24 = .ok (.ireturn, 1) := by decide +kernel
theorem dL_keepApart_25 : decode cL_keepApart 25 = .ok (.astore 4, 2) := by decide +kernel
theorem dL_keepApart_27 : decode cL_keepApart 27 = .ok (.iconst 4, 1) := by decide +kernel
theorem dL_keepApart_28 : decode cL_keepApart 28 = .ok (.ireturn, 1) := by decide +kernel
theorem dL_keepApart_29 : decode cL_keepApart 29 = .ok (.iconst 0, 1) := by decide +kernel
theorem dL_keepApart_30 : decode cL_keepApart 30 = .ok (.ireturn, 1) := by decide +kernel
theorem dL_move_0 : decode cL_move 0 = .ok (.aload_n 3, 1) := by decide +kernel
theorem dL_move_1 : decode cL_move 1 = .ok (.iconst 0, 1) := by decide +kernel
theorem dL_move_2 : decode cL_move 2 = .ok (.aload_n 0, 1) := by decide +kernel
theorem dL_move_3 : decode cL_move 3 = .ok (.iload_n 1, 1) := by decide +kernel
theorem dL_move_4 : decode cL_move 4 = .ok (.iload_n 2, 1) := by decide +kernel
theorem dL_move_5 : decode cL_move 5 = .ok (.invokevirtual 42, 3) := by decide +kernel
theorem dL_move_8 : decode cL_move 8 = .ok (.i2l, 1) := by decide +kernel
theorem dL_move_9 : decode cL_move 9 = .ok (.lastore, 1) := by decide +kernel
theorem dL_move_10 : decode cL_move 10 = .ok (.goto 15, 3) := by decide +kernel
theorem dL_move_13 : decode cL_move 13 = .ok (.astore 4, 2) := by decide +kernel
theorem dL_move_15 : decode cL_move 15 = .ok (.iconst 1, 1) := by decide +kernel
theorem dL_move_16 : decode cL_move 16 = .ok (.ireturn, 1) := by decide +kernel
theorem dL_move_17 : decode cL_move 17 = .ok (.astore 4, 2) := by decide +kernel
theorem dL_move_19 : decode cL_move 19 = .ok (.iconst 2, 1) := by decide +kernel
theorem dL_move_20 : decode cL_move 20 = .ok (.ireturn, 1) := by decide +kernel
theorem dL_move_21 : decode cL_move 21 = .ok (.astore 4, 2) := by decide +kernel
theorem dL_move_23 : decode cL_move 23 = .ok (.iconst 3, 1) := by decide +kernel
theorem dL_move_24 : decode cL_move 24 = .ok (.ireturn, 1) := by decide +kernel
theorem dL_move_25 : decode cL_move 25 = .ok (.iconst 0, 1) := by decide +kernel
theorem dL_move_26 : decode cL_move 26 = .ok (.ireturn, 1) := by decide +kernel
theorem dL_reason_0 : decode cL_reason 0 = .ok (.aload_n 3, 1) := by decide +kernel
theorem dL_reason_1 : decode cL_reason 1 = .ok (.iconst 0, 1) := by decide +kernel
theorem dL_reason_2 : decode cL_reason 2 = .ok (.aload_n 0, 1) := by decide +kernel
theorem dL_reason_3 : decode cL_reason 3 = .ok (.iload_n 1, 1) := by decide +kernel
theorem dL_reason_4 : decode cL_reason 4 = .ok (.iload_n 2, 1) := by decide +kernel
theorem dL_reason_5 : decode cL_reason 5 = .ok (.invokevirtual 45, 3) := by decide +kernel
theorem dL_reason_8 : decode cL_reason 8 = .ok (.i2l, 1) := by decide +kernel
theorem dL_reason_9 : decode cL_reason 9 = .ok (.lastore, 1) := by decide +kernel
theorem dL_reason_10 : decode cL_reason 10 = .ok (.goto 7, 3) := by decide +kernel
theorem dL_reason_13 : decode cL_reason 13 = .ok (.astore 4, 2) := by decide +kernel
theorem dL_reason_15 : decode cL_reason 15 = .ok (.iconst 1, 1) := by decide +kernel
theorem dL_reason_16 : decode cL_reason 16 = .ok (.ireturn, 1) := by decide +kernel
theorem dL_reason_17 : decode cL_reason 17 = .ok (.iconst 0, 1) := by decide +kernel
theorem dL_reason_18 : decode cL_reason 18 = .ok (.ireturn, 1) := by decide +kernel
theorem dL_fail_0 : decode cL_fail 0 = .ok (.aload_n 2, 1) := by decide +kernel
theorem dL_fail_1 : decode cL_fail 1 = .ok (.iconst 0, 1) := by decide +kernel
theorem dL_fail_2 : decode cL_fail 2 = .ok (.aload_n 0, 1) := by decide +kernel
theorem dL_fail_3 : decode cL_fail 3 = .ok (.iload_n 1, 1) := by decide +kernel
theorem dL_fail_4 : decode cL_fail 4 = .ok (.invokevirtual 49, 3) := by decide +kernel
theorem dL_fail_7 : decode cL_fail 7 = .ok (.i2l, 1) := by decide +kernel
theorem dL_fail_8 : decode cL_fail 8 = .ok (.lastore, 1) := by decide +kernel
theorem dL_fail_9 : decode cL_fail 9 = .ok (.goto 9, 3) := by decide +kernel
theorem dL_fail_12 : decode cL_fail 12 = .ok (.astore_n 3, 1) := by decide +kernel
theorem dL_fail_13 : decode cL_fail 13 = .ok (.iconst 1, 1) := by decide +kernel
theorem dL_fail_14 : decode cL_fail 14 = .ok (.ireturn, 1) := by decide +kernel
theorem dL_fail_15 : decode cL_fail 15 = .ok (.astore_n 3, 1) := by decide +kernel
theorem dL_fail_16 : decode cL_fail 16 = .ok (.iconst 2, 1) := by decide +kernel
theorem dL_fail_17 : decode cL_fail 17 = .ok (.ireturn, 1) := by decide +kernel
theorem dL_fail_18 : decode cL_fail 18 = .ok (.iconst 0, 1) := by decide +kernel
theorem dL_fail_19 : decode cL_fail 19 = .ok (.ireturn, 1) := by decide +kernel
theorem dL_pass_0 : decode cL_pass 0 = .ok (.aload_n 2, 1) := by decide +kernel
theorem dL_pass_1 : decode cL_pass 1 = .ok (.iconst 0, 1) := by decide +kernel
theorem dL_pass_2 : decode cL_pass 2 = .ok (.aload_n 0, 1) := by decide +kernel
theorem dL_pass_3 : decode cL_pass 3 = .ok (.iload_n 1, 1) := by decide +kernel
theorem dL_pass_4 : decode cL_pass 4 = .ok (.invokevirtual 53, 3) := by decide +kernel
theorem dL_pass_7 : decode cL_pass 7 = .ok (.i2l, 1) := by decide +kernel
theorem dL_pass_8 : decode cL_pass 8 = .ok (.lastore, 1) := by decide +kernel
theorem dL_pass_9 : decode cL_pass 9 = .ok (.goto 6, 3) := by decide +kernel
theorem dL_pass_12 : decode cL_pass 12 = .ok (.astore_n 3, 1) := by decide +kernel
theorem dL_pass_13 : decode cL_pass 13 = .ok (.iconst 1, 1) := by decide +kernel
theorem dL_pass_14 : decode cL_pass 14 = .ok (.ireturn, 1) := by decide +kernel
theorem dL_pass_15 : decode cL_pass 15 = .ok (.iconst 0, 1) := by decide +kernel
theorem dL_pass_16 : decode cL_pass 16 = .ok (.ireturn, 1) := by decide +kernel
theorem dL_phase_0 : decode cL_phase 0 = .ok (.aload_n 2, 1) := by decide +kernel
theorem dL_phase_1 : decode cL_phase 1 = .ok (.iconst 0, 1) := by decide +kernel
theorem dL_phase_2 : decode cL_phase 2 = .ok (.aload_n 0, 1) := by decide +kernel
theorem dL_phase_3 : decode cL_phase 3 = .ok (.iload_n 1, 1) := by decide +kernel
theorem dL_phase_4 : decode cL_phase 4 = .ok (.invokevirtual 57, 3) := by decide +kernel
theorem dL_phase_7 : decode cL_phase 7 = .ok (.i2l, 1) := by decide +kernel
theorem dL_phase_8 : decode cL_phase 8 = .ok (.lastore, 1) := by decide +kernel
theorem dL_phase_9 : decode cL_phase 9 = .ok (.goto 6, 3) := by decide +kernel
theorem dL_phase_12 : decode cL_phase 12 = .ok (.astore_n 3, 1) := by decide +kernel
theorem dL_phase_13 : decode cL_phase 13 = .ok (.iconst 1, 1) := by decide +kernel
theorem dL_phase_14 : decode cL_phase 14 = .ok (.ireturn, 1) := by decide +kernel
theorem dL_phase_15 : decode cL_phase 15 = .ok (.iconst 0, 1) := by decide +kernel
theorem dL_phase_16 : decode cL_phase 16 = .ok (.ireturn, 1) := by decide +kernel
theorem dL_targetOf_0 : decode cL_targetOf 0 = .ok (.aload_n 2, 1) := by decide +kernel
theorem dL_targetOf_1 : decode cL_targetOf 1 = .ok (.iconst 0, 1) := by decide +kernel
theorem dL_targetOf_2 : decode cL_targetOf 2 = .ok (.aload_n 0, 1) := by decide +kernel
theorem dL_targetOf_3 : decode cL_targetOf 3 = .ok (.iload_n 1, 1) := by decide +kernel
theorem dL_targetOf_4 : decode cL_targetOf 4 = .ok (.invokevirtual 60, 3) := by decide +kernel
theorem dL_targetOf_7 : decode cL_targetOf 7 = .ok (.i2l, 1) := by decide +kernel
theorem dL_targetOf_8 : decode cL_targetOf 8 = .ok (.lastore, 1) := by decide +kernel
theorem dL_targetOf_9 : decode cL_targetOf 9 = .ok (.goto 9, 3) := by decide +kernel
theorem dL_targetOf_12 : decode cL_targetOf 12 = .ok (.astore_n 3, 1) := by decide +kernel
theorem dL_targetOf_13 : decode cL_targetOf 13 = .ok (.iconst 1, 1) := by decide +kernel
theorem dL_targetOf_14 : decode cL_targetOf 14 = .ok (.ireturn, 1) := by decide +kernel
theorem dL_targetOf_15 : decode cL_targetOf 15 = .ok (.astore_n 3, 1) := by decide +kernel
theorem dL_targetOf_16 : decode cL_targetOf 16 = .ok (.iconst 2, 1) := by decide +kernel
theorem dL_targetOf_17 : decode cL_targetOf 17 = .ok (.ireturn, 1) := by decide +kernel
theorem dL_targetOf_18 : decode cL_targetOf 18 = .ok (.iconst 0, 1) := by decide +kernel
theorem dL_targetOf_19 : decode cL_targetOf 19 = .ok (.ireturn, 1) := by decide +kernel
theorem dL_hoursLeft_0 : decode cL_hoursLeft 0 = .ok (.aload_n 2, 1) := by decide +kernel
theorem dL_hoursLeft_1 : decode cL_hoursLeft 1 = .ok (.iconst 0, 1) := by decide +kernel
theorem dL_hoursLeft_2 : decode cL_hoursLeft 2 = .ok (.aload_n 0, 1) := by decide +kernel
theorem dL_hoursLeft_3 : decode cL_hoursLeft 3 = .ok (.iload_n 1, 1) := by decide +kernel
theorem dL_hoursLeft_4 : decode cL_hoursLeft 4 = .ok (.invokevirtual 65, 3) := by decide +kernel
theorem dL_hoursLeft_7 : decode cL_hoursLeft 7 = .ok (.i2l, 1) := by decide +kernel
theorem dL_hoursLeft_8 : decode cL_hoursLeft 8 = .ok (.lastore, 1) := by decide +kernel
theorem dL_hoursLeft_9 : decode cL_hoursLeft 9 = .ok (.goto 9, 3) := by decide +kernel
theorem dL_hoursLeft_12 : decode cL_hoursLeft 12 = .ok (.astore_n 3, 1) := by decide +kernel
theorem dL_hoursLeft_13 : decode cL_hoursLeft 13 = .ok (.iconst 1, 1) := by decide +kernel
theorem dL_hoursLeft_14 : decode cL_hoursLeft 14 = .ok (.ireturn, 1) := by decide +kernel
theorem dL_hoursLeft_15 : decode cL_hoursLeft 15 = .ok (.astore_n 3, 1) := by decide +kernel
theorem dL_hoursLeft_16 : decode cL_hoursLeft 16 = .ok (.iconst 2, 1) := by decide +kernel
theorem dL_hoursLeft_17 : decode cL_hoursLeft 17 = .ok (.ireturn, 1) := by decide +kernel
theorem dL_hoursLeft_18 : decode cL_hoursLeft 18 = .ok (.iconst 0, 1) := by decide +kernel
theorem dL_hoursLeft_19 : decode cL_hoursLeft 19 = .ok (.ireturn, 1) := by decide +kernel
theorem dL_hoursByPassing_0 : decode cL_hoursByPassing 0 = .ok (.aload_n 2, 1) := by decide +kernel
theorem dL_hoursByPassing_1 : decode cL_hoursByPassing 1 = .ok (.iconst 0, 1) := by decide +kernel
theorem dL_hoursByPassing_2 : decode cL_hoursByPassing 2 = .ok (.aload_n 0, 1) := by decide +kernel
theorem dL_hoursByPassing_3 : decode cL_hoursByPassing 3 = .ok (.iload_n 1, 1) := by decide +kernel
theorem dL_hoursByPassing_4 : decode cL_hoursByPassing 4 = .ok (.invokevirtual 68, 3) := by decide +kernel
theorem dL_hoursByPassing_7 : decode cL_hoursByPassing 7 = .ok (.i2l, 1) := by decide +kernel
theorem dL_hoursByPassing_8 : decode cL_hoursByPassing 8 = .ok (.lastore, 1) := by decide +kernel
theorem dL_hoursByPassing_9 : decode cL_hoursByPassing 9 = .ok (.goto 9, 3) := by decide +kernel
theorem dL_hoursByPassing_12 : decode cL_hoursByPassing 12 = .ok (.astore_n 3, 1) := by decide +kernel
theorem dL_hoursByPassing_13 : decode cL_hoursByPassing 13 = .ok (.iconst 1, 1) := by decide +kernel
theorem dL_hoursByPassing_14 : decode cL_hoursByPassing 14 = .ok (.ireturn, 1) := by decide +kernel
theorem dL_hoursByPassing_15 : decode cL_hoursByPassing 15 = .ok (.astore_n 3, 1) := by decide +kernel
theorem dL_hoursByPassing_16 : decode cL_hoursByPassing 16 = .ok (.iconst 2, 1) := by decide +kernel
theorem dL_hoursByPassing_17 : decode cL_hoursByPassing 17 = .ok (.ireturn, 1) := by decide +kernel
theorem dL_hoursByPassing_18 : decode cL_hoursByPassing 18 = .ok (.iconst 0, 1) := by decide +kernel
theorem dL_hoursByPassing_19 : decode cL_hoursByPassing 19 = .ok (.ireturn, 1) := by decide +kernel
theorem dL_servedBy_0 : decode cL_servedBy 0 = .ok (.aload_n 2, 1) := by decide +kernel
theorem dL_servedBy_1 : decode cL_servedBy 1 = .ok (.iconst 0, 1) := by decide +kernel
theorem dL_servedBy_2 : decode cL_servedBy 2 = .ok (.aload_n 0, 1) := by decide +kernel
theorem dL_servedBy_3 : decode cL_servedBy 3 = .ok (.iload_n 1, 1) := by decide +kernel
theorem dL_servedBy_4 : decode cL_servedBy 4 = .ok (.invokevirtual 71, 3) := by decide +kernel
theorem dL_servedBy_7 : decode cL_servedBy 7 = .ok (.i2l, 1) := by decide +kernel
theorem dL_servedBy_8 : decode cL_servedBy 8 = .ok (.lastore, 1) := by decide +kernel
theorem dL_servedBy_9 : decode cL_servedBy 9 = .ok (.goto 6, 3) := by decide +kernel
theorem dL_servedBy_12 : decode cL_servedBy 12 = .ok (.astore_n 3, 1) := by decide +kernel
theorem dL_servedBy_13 : decode cL_servedBy 13 = .ok (.iconst 1, 1) := by decide +kernel
theorem dL_servedBy_14 : decode cL_servedBy 14 = .ok (.ireturn, 1) := by decide +kernel
theorem dL_servedBy_15 : decode cL_servedBy 15 = .ok (.iconst 0, 1) := by decide +kernel
theorem dL_servedBy_16 : decode cL_servedBy 16 = .ok (.ireturn, 1) := by decide +kernel
theorem dL_sizeOf_0 : decode cL_sizeOf 0 = .ok (.aload_n 3, 1) := by decide +kernel
theorem dL_sizeOf_1 : decode cL_sizeOf 1 = .ok (.iconst 0, 1) := by decide +kernel
theorem dL_sizeOf_2 : decode cL_sizeOf 2 = .ok (.aload_n 0, 1) := by decide +kernel
theorem dL_sizeOf_3 : decode cL_sizeOf 3 = .ok (.iload_n 1, 1) := by decide +kernel
theorem dL_sizeOf_4 : decode cL_sizeOf 4 = .ok (.iload_n 2, 1) := by decide +kernel
theorem dL_sizeOf_5 : decode cL_sizeOf 5 = .ok (.invokevirtual 74, 3) := by decide +kernel
theorem dL_sizeOf_8 : decode cL_sizeOf 8 = .ok (.i2l, 1) := by decide +kernel
theorem dL_sizeOf_9 : decode cL_sizeOf 9 = .ok (.lastore, 1) := by decide +kernel
theorem dL_sizeOf_10 : decode cL_sizeOf 10 = .ok (.goto 7, 3) := by decide +kernel
theorem dL_sizeOf_13 : decode cL_sizeOf 13 = .ok (.astore 4, 2) := by decide +kernel
theorem dL_sizeOf_15 : decode cL_sizeOf 15 = .ok (.iconst 1, 1) := by decide +kernel
theorem dL_sizeOf_16 : decode cL_sizeOf 16 = .ok (.ireturn, 1) := by decide +kernel
theorem dL_sizeOf_17 : decode cL_sizeOf 17 = .ok (.iconst 0, 1) := by decide +kernel
theorem dL_sizeOf_18 : decode cL_sizeOf 18 = .ok (.ireturn, 1) := by decide +kernel
theorem dL_used_0 : decode cL_used 0 = .ok (.aload_n 3, 1) := by decide +kernel
theorem dL_used_1 : decode cL_used 1 = .ok (.iconst 0, 1) := by decide +kernel
theorem dL_used_2 : decode cL_used 2 = .ok (.aload_n 0, 1) := by decide +kernel
theorem dL_used_3 : decode cL_used 3 = .ok (.iload_n 1, 1) := by decide +kernel
theorem dL_used_4 : decode cL_used 4 = .ok (.iload_n 2, 1) := by decide +kernel
theorem dL_used_5 : decode cL_used 5 = .ok (.invokevirtual 77, 3) := by decide +kernel
theorem dL_used_8 : decode cL_used 8 = .ok (.i2l, 1) := by decide +kernel
theorem dL_used_9 : decode cL_used 9 = .ok (.lastore, 1) := by decide +kernel
theorem dL_used_10 : decode cL_used 10 = .ok (.goto 7, 3) := by decide +kernel
theorem dL_used_13 : decode cL_used 13 = .ok (.astore 4, 2) := by decide +kernel
theorem dL_used_15 : decode cL_used 15 = .ok (.iconst 1, 1) := by decide +kernel
theorem dL_used_16 : decode cL_used 16 = .ok (.ireturn, 1) := by decide +kernel
theorem dL_used_17 : decode cL_used 17 = .ok (.iconst 0, 1) := by decide +kernel
theorem dL_used_18 : decode cL_used 18 = .ok (.ireturn, 1) := by decide +kernel
theorem dL_usedByLooking_0 : decode cL_usedByLooking 0 = .ok (.aload_n 3, 1) := by decide +kernel
theorem dL_usedByLooking_1 : decode cL_usedByLooking 1 = .ok (.iconst 0, 1) := by decide +kernel
theorem dL_usedByLooking_2 : decode cL_usedByLooking 2 = .ok (.aload_n 0, 1) := by decide +kernel
theorem dL_usedByLooking_3 : decode cL_usedByLooking 3 = .ok (.iload_n 1, 1) := by decide +kernel
theorem dL_usedByLooking_4 : decode cL_usedByLooking 4 = .ok (.iload_n 2, 1) := by decide +kernel
theorem dL_usedByLooking_5 : decode cL_usedByLooking 5 = .ok (.invokevirtual 80, 3) := by decide +kernel
theorem dL_usedByLooking_8 : decode cL_usedByLooking 8 = .ok (.i2l, 1) := by decide +kernel
theorem dL_usedByLooking_9 : decode cL_usedByLooking 9 = .ok (.lastore, 1) := by decide +kernel
theorem dL_usedByLooking_10 : decode cL_usedByLooking 10 = .ok (.goto 7, 3) := by decide +kernel
theorem dL_usedByLooking_13 : decode cL_usedByLooking 13 = .ok (.astore 4, 2) := by decide +kernel
theorem dL_usedByLooking_15 : decode cL_usedByLooking 15 = .ok (.iconst 1, 1) := by decide +kernel
theorem dL_usedByLooking_16 : decode cL_usedByLooking 16 = .ok (.ireturn, 1) := by decide +kernel
theorem dL_usedByLooking_17 : decode cL_usedByLooking 17 = .ok (.iconst 0, 1) := by decide +kernel
theorem dL_usedByLooking_18 : decode cL_usedByLooking 18 = .ok (.ireturn, 1) := by decide +kernel
theorem dL_isOver_0 : decode cL_isOver 0 = .ok (.aload_n 2, 1) := by decide +kernel
theorem dL_isOver_1 : decode cL_isOver 1 = .ok (.iconst 0, 1) := by decide +kernel
theorem dL_isOver_2 : decode cL_isOver 2 = .ok (.aload_n 0, 1) := by decide +kernel
theorem dL_isOver_3 : decode cL_isOver 3 = .ok (.iload_n 1, 1) := by decide +kernel
theorem dL_isOver_4 : decode cL_isOver 4 = .ok (.invokevirtual 83, 3) := by decide +kernel
theorem dL_isOver_7 : decode cL_isOver 7 = .ok (.ifCond .eq 7, 3) := by decide +kernel
theorem dL_isOver_10 : decode cL_isOver 10 = .ok (.lconst 1, 1) := by decide +kernel
theorem dL_isOver_11 : decode cL_isOver 11 = .ok (.goto 4, 3) := by decide +kernel
theorem dL_isOver_14 : decode cL_isOver 14 = .ok (.lconst 0, 1) := by decide +kernel
theorem dL_isOver_15 : decode cL_isOver 15 = .ok (.lastore, 1) := by decide +kernel
theorem dL_isOver_16 : decode cL_isOver 16 = .ok (.goto 6, 3) := by decide +kernel
theorem dL_isOver_19 : decode cL_isOver 19 = .ok (.astore_n 3, 1) := by decide +kernel
theorem dL_isOver_20 : decode cL_isOver 20 = .ok (.iconst 1, 1) := by decide +kernel
theorem dL_isOver_21 : decode cL_isOver 21 = .ok (.ireturn, 1) := by decide +kernel
theorem dL_isOver_22 : decode cL_isOver 22 = .ok (.iconst 0, 1) := by decide +kernel
theorem dL_isOver_23 : decode cL_isOver 23 = .ok (.ireturn, 1) := by decide +kernel
theorem dL_served_0 : decode cL_served 0 = .ok (.aload_n 2, 1) := by decide +kernel
theorem dL_served_1 : decode cL_served 1 = .ok (.iconst 0, 1) := by decide +kernel
theorem dL_served_2 : decode cL_served 2 = .ok (.aload_n 0, 1) := by decide +kernel
theorem dL_served_3 : decode cL_served 3 = .ok (.iload_n 1, 1) := by decide +kernel
theorem dL_served_4 : decode cL_served 4 = .ok (.invokevirtual 87, 3) := by decide +kernel
theorem dL_served_7 : decode cL_served 7 = .ok (.i2l, 1) := by decide +kernel
theorem dL_served_8 : decode cL_served 8 = .ok (.lastore, 1) := by decide +kernel
theorem dL_served_9 : decode cL_served 9 = .ok (.goto 6, 3) := by decide +kernel
theorem dL_served_12 : decode cL_served 12 = .ok (.astore_n 3, 1) := by decide +kernel
theorem dL_served_13 : decode cL_served 13 = .ok (.iconst 1, 1) := by decide +kernel
theorem dL_served_14 : decode cL_served 14 = .ok (.ireturn, 1) := by decide +kernel
theorem dL_served_15 : decode cL_served 15 = .ok (.iconst 0, 1) := by decide +kernel
theorem dL_served_16 : decode cL_served 16 = .ok (.ireturn, 1) := by decide +kernel
theorem dL_fewestMoves_0 : decode cL_fewestMoves 0 = .ok (.aload_n 1, 1) := by decide +kernel
theorem dL_fewestMoves_1 : decode cL_fewestMoves 1 = .ok (.iconst 0, 1) := by decide +kernel
theorem dL_fewestMoves_2 : decode cL_fewestMoves 2 = .ok (.aload_n 0, 1) := by decide +kernel
theorem dL_fewestMoves_3 : decode cL_fewestMoves 3 = .ok (.invokevirtual 90, 3) := by decide +kernel
theorem dL_fewestMoves_6 : decode cL_fewestMoves 6 = .ok (.i2l, 1) := by decide +kernel
theorem dL_fewestMoves_7 : decode cL_fewestMoves 7 = .ok (.lastore, 1) := by decide +kernel
theorem dL_fewestMoves_8 : decode cL_fewestMoves 8 = .ok (.goto 6, 3) := by decide +kernel
theorem dL_fewestMoves_11 : decode cL_fewestMoves 11 = .ok (.astore_n 2, 1) := by decide +kernel
theorem dL_fewestMoves_12 : decode cL_fewestMoves 12 = .ok (.iconst 1, 1) := by decide +kernel
theorem dL_fewestMoves_13 : decode cL_fewestMoves 13 = .ok (.ireturn, 1) := by decide +kernel
theorem dL_fewestMoves_14 : decode cL_fewestMoves 14 = .ok (.iconst 0, 1) := by decide +kernel
theorem dL_fewestMoves_15 : decode cL_fewestMoves 15 = .ok (.ireturn, 1) := by decide +kernel
theorem dL_fewestByTrying_0 : decode cL_fewestByTrying 0 = .ok (.aload_n 1, 1) := by decide +kernel
theorem dL_fewestByTrying_1 : decode cL_fewestByTrying 1 = .ok (.iconst 0, 1) := by decide +kernel
theorem dL_fewestByTrying_2 : decode cL_fewestByTrying 2 = .ok (.aload_n 0, 1) := by decide +kernel
theorem dL_fewestByTrying_3 : decode cL_fewestByTrying 3 = .ok (.invokevirtual 94, 3) := by decide +kernel
theorem dL_fewestByTrying_6 : decode cL_fewestByTrying 6 = .ok (.i2l, 1) := by decide +kernel
theorem dL_fewestByTrying_7 : decode cL_fewestByTrying 7 = .ok (.lastore, 1) := by decide +kernel
theorem dL_fewestByTrying_8 : decode cL_fewestByTrying 8 = .ok (.goto 6, 3) := by decide +kernel
theorem dL_fewestByTrying_11 : decode cL_fewestByTrying 11 = .ok (.astore_n 2, 1) := by decide +kernel
theorem dL_fewestByTrying_12 : decode cL_fewestByTrying 12 = .ok (.iconst 1, 1) := by decide +kernel
theorem dL_fewestByTrying_13 : decode cL_fewestByTrying 13 = .ok (.ireturn, 1) := by decide +kernel
theorem dL_fewestByTrying_14 : decode cL_fewestByTrying 14 = .ok (.iconst 0, 1) := by decide +kernel
theorem dL_fewestByTrying_15 : decode cL_fewestByTrying 15 = .ok (.ireturn, 1) := by decide +kernel
theorem dL_planned_0 : decode cL_planned 0 = .ok (.aload_n 2, 1) := by decide +kernel
theorem dL_planned_1 : decode cL_planned 1 = .ok (.iconst 0, 1) := by decide +kernel
theorem dL_planned_2 : decode cL_planned 2 = .ok (.aload_n 0, 1) := by decide +kernel
theorem dL_planned_3 : decode cL_planned 3 = .ok (.iload_n 1, 1) := by decide +kernel
theorem dL_planned_4 : decode cL_planned 4 = .ok (.invokevirtual 97, 3) := by decide +kernel
theorem dL_planned_7 : decode cL_planned 7 = .ok (.i2l, 1) := by decide +kernel
theorem dL_planned_8 : decode cL_planned 8 = .ok (.lastore, 1) := by decide +kernel
theorem dL_planned_9 : decode cL_planned 9 = .ok (.goto 9, 3) := by decide +kernel
theorem dL_planned_12 : decode cL_planned 12 = .ok (.astore_n 3, 1) := by decide +kernel
theorem dL_planned_13 : decode cL_planned 13 = .ok (.iconst 1, 1) := by decide +kernel
theorem dL_planned_14 : decode cL_planned 14 = .ok (.ireturn, 1) := by decide +kernel
theorem dL_planned_15 : decode cL_planned 15 = .ok (.astore_n 3, 1) := by decide +kernel
theorem dL_planned_16 : decode cL_planned 16 = .ok (.iconst 2, 1) := by decide +kernel
theorem dL_planned_17 : decode cL_planned 17 = .ok (.ireturn, 1) := by decide +kernel
theorem dL_planned_18 : decode cL_planned 18 = .ok (.iconst 0, 1) := by decide +kernel
theorem dL_planned_19 : decode cL_planned 19 = .ok (.ireturn, 1) := by decide +kernel
theorem dL_shareOf_0 : decode cL_shareOf 0 = .ok (.aload_n 3, 1) := by decide +kernel
theorem dL_shareOf_1 : decode cL_shareOf 1 = .ok (.iconst 0, 1) := by decide +kernel
theorem dL_shareOf_2 : decode cL_shareOf 2 = .ok (.aload_n 0, 1) := by decide +kernel
theorem dL_shareOf_3 : decode cL_shareOf 3 = .ok (.iload_n 1, 1) := by decide +kernel
theorem dL_shareOf_4 : decode cL_shareOf 4 = .ok (.iload_n 2, 1) := by decide +kernel
theorem dL_shareOf_5 : decode cL_shareOf 5 = .ok (.invokevirtual 100, 3) := by decide +kernel
theorem dL_shareOf_8 : decode cL_shareOf 8 = .ok (.f2d, 1) := by decide +kernel
theorem dL_shareOf_9 : decode cL_shareOf 9 = .ok (.dastore, 1) := by decide +kernel
theorem dL_shareOf_10 : decode cL_shareOf 10 = .ok (.goto 7, 3) := by decide +kernel
theorem dL_shareOf_13 : decode cL_shareOf 13 = .ok (.astore 4, 2) := by decide +kernel
theorem dL_shareOf_15 : decode cL_shareOf 15 = .ok (.iconst 1, 1) := by decide +kernel
theorem dL_shareOf_16 : decode cL_shareOf 16 = .ok (.ireturn, 1) := by decide +kernel
theorem dL_shareOf_17 : decode cL_shareOf 17 = .ok (.iconst 0, 1) := by decide +kernel
theorem dL_shareOf_18 : decode cL_shareOf 18 = .ok (.ireturn, 1) := by decide +kernel
theorem dL_meanStorage_0 : decode cL_meanStorage 0 = .ok (.aload_n 1, 1) := by decide +kernel
theorem dL_meanStorage_1 : decode cL_meanStorage 1 = .ok (.iconst 0, 1) := by decide +kernel
theorem dL_meanStorage_2 : decode cL_meanStorage 2 = .ok (.aload_n 0, 1) := by decide +kernel
theorem dL_meanStorage_3 : decode cL_meanStorage 3 = .ok (.invokevirtual 104, 3) := by decide +kernel
theorem dL_meanStorage_6 : decode cL_meanStorage 6 = .ok (.dastore, 1) := by decide +kernel
theorem dL_meanStorage_7 : decode cL_meanStorage 7 = .ok (.goto 6, 3) := by decide +kernel
theorem dL_meanStorage_10 : decode cL_meanStorage 10 = .ok (.astore_n 2, 1) := by decide +kernel
theorem dL_meanStorage_11 : decode cL_meanStorage 11 = .ok (.iconst 1, 1) := by decide +kernel
theorem dL_meanStorage_12 : decode cL_meanStorage 12 = .ok (.ireturn, 1) := by decide +kernel
theorem dL_meanStorage_13 : decode cL_meanStorage 13 = .ok (.iconst 0, 1) := by decide +kernel
theorem dL_meanStorage_14 : decode cL_meanStorage 14 = .ok (.ireturn, 1) := by decide +kernel
theorem dL_law_0 : decode cL_law 0 = .ok (.new 8, 3) := by decide +kernel
theorem dL_law_3 : decode cL_law 3 = .ok (.dup, 1) := by decide +kernel
theorem dL_law_4 : decode cL_law 4 = .ok (.invokespecial 110, 3) := by decide +kernel
theorem dL_law_7 : decode cL_law 7 = .ok (.astore_n 1, 1) := by decide +kernel
theorem dL_law_8 : decode cL_law 8 = .ok (.new 111, 3) := by decide +kernel
theorem dL_law_11 : decode cL_law 11 = .ok (.dup, 1) := by decide +kernel
theorem dL_law_12 : decode cL_law 12 = .ok (.invokespecial 113, 3) := by decide +kernel
theorem dL_law_15 : decode cL_law 15 = .ok (.astore_n 2, 1) := by decide +kernel
theorem dL_law_16 : decode cL_law 16 = .ok (.iconst 1, 1) := by decide +kernel
theorem dL_law_17 : decode cL_law 17 = .ok (.newarray .long, 2) := by decide +kernel
theorem dL_law_19 : decode cL_law 19 = .ok (.astore_n 3, 1) := by decide +kernel
theorem dL_law_20 : decode cL_law 20 = .ok (.iconst 1, 1) := by decide +kernel
theorem dL_law_21 : decode cL_law 21 = .ok (.newarray .double, 2) := by decide +kernel
theorem dL_law_23 : decode cL_law 23 = .ok (.astore 4, 2) := by decide +kernel
theorem dL_law_25 : decode cL_law 25 = .ok (.iconst 0, 1) := by decide +kernel
theorem dL_law_26 : decode cL_law 26 = .ok (.istore 5, 2) := by decide +kernel
theorem dL_law_28 : decode cL_law 28 = .ok (.iload 5, 2) := by decide +kernel
theorem dL_law_30 : decode cL_law 30 = .ok (.aload_n 0, 1) := by decide +kernel
theorem dL_law_31 : decode cL_law 31 = .ok (.arraylength, 1) := by decide +kernel
theorem dL_law_32 : decode cL_law 32 = .ok (.bipush 6, 2) := by decide +kernel
theorem dL_law_34 : decode cL_law 34 = .ok (.isub, 1) := by decide +kernel
theorem dL_law_35 : decode cL_law 35 = .ok (.if_icmp .gt 1988, 3) := by decide +kernel
theorem dL_law_38 : decode cL_law 38 = .ok (.aload_n 0, 1) := by decide +kernel
theorem dL_law_39 : decode cL_law 39 = .ok (.iload 5, 2) := by decide +kernel
theorem dL_law_41 : decode cL_law 41 = .ok (.iaload, 1) := by decide +kernel
theorem dL_law_42 : decode cL_law 42 = .ok (.bipush 63, 2) := by decide +kernel
theorem dL_law_44 : decode cL_law 44 = .ok (.iand, 1) := by decide +kernel
theorem dL_law_45 : decode cL_law 45 = .ok (.tableswitch 1972 0 32 #[147, 227, 318, 398, 502, 582, 662, 730, 798, 866, 922, 978, 991, 1047, 1103, 1159, 1215, 1228, 1241, 1254, 1310, 1378, 1446, 1514, 1577, 1633, 1677, 1721, 1777, 1790, 1803, 1817, 1907], 147) := by decide +kernel
theorem dL_law_192 : decode cL_law 192 = .ok (.aload_n 1, 1) := by decide +kernel
theorem dL_law_193 : decode cL_law 193 = .ok (.aload_n 0, 1) := by decide +kernel
theorem dL_law_194 : decode cL_law 194 = .ok (.iload 5, 2) := by decide +kernel
theorem dL_law_196 : decode cL_law 196 = .ok (.iconst 1, 1) := by decide +kernel
theorem dL_law_197 : decode cL_law 197 = .ok (.iadd, 1) := by decide +kernel
theorem dL_law_198 : decode cL_law 198 = .ok (.iaload, 1) := by decide +kernel
theorem dL_law_199 : decode cL_law 199 = .ok (.aload_n 0, 1) := by decide +kernel
theorem dL_law_200 : decode cL_law 200 = .ok (.iload 5, 2) := by decide +kernel
theorem dL_law_202 : decode cL_law 202 = .ok (.iconst 2, 1) := by decide +kernel
theorem dL_law_203 : decode cL_law 203 = .ok (.iadd, 1) := by decide +kernel
theorem dL_law_204 : decode cL_law 204 = .ok (.iaload, 1) := by decide +kernel
theorem dL_law_205 : decode cL_law 205 = .ok (.aload_n 0, 1) := by decide +kernel
theorem dL_law_206 : decode cL_law 206 = .ok (.iload 5, 2) := by decide +kernel
theorem dL_law_208 : decode cL_law 208 = .ok (.iconst 3, 1) := by decide +kernel
theorem dL_law_209 : decode cL_law 209 = .ok (.iadd, 1) := by decide +kernel
theorem dL_law_210 : decode cL_law 210 = .ok (.iaload, 1) := by decide +kernel
theorem dL_law_211 : decode cL_law 211 = .ok (.aload_n 3, 1) := by decide +kernel
theorem dL_law_212 : decode cL_law 212 = .ok (.invokestatic 114, 3) := by decide +kernel
theorem dL_law_215 : decode cL_law 215 = .ok (.istore 6, 2) := by decide +kernel
theorem dL_law_217 : decode cL_law 217 = .ok (.aload_n 2, 1) := by decide +kernel
theorem dL_law_218 : decode cL_law 218 = .ok (.aload_n 0, 1) := by decide +kernel
theorem dL_law_219 : decode cL_law 219 = .ok (.iload 5, 2) := by decide +kernel
theorem dL_law_221 : decode cL_law 221 = .ok (.iconst 1, 1) := by decide +kernel
theorem dL_law_222 : decode cL_law 222 = .ok (.iadd, 1) := by decide +kernel
theorem dL_law_223 : decode cL_law 223 = .ok (.iaload, 1) := by decide +kernel
theorem dL_law_224 : decode cL_law 224 = .ok (.aload_n 0, 1) := by decide +kernel
theorem dL_law_225 : decode cL_law 225 = .ok (.iload 5, 2) := by decide +kernel
theorem dL_law_227 : decode cL_law 227 = .ok (.iconst 2, 1) := by decide +kernel
theorem dL_law_228 : decode cL_law 228 = .ok (.iadd, 1) := by decide +kernel
theorem dL_law_229 : decode cL_law 229 = .ok (.iaload, 1) := by decide +kernel
theorem dL_law_230 : decode cL_law 230 = .ok (.aload_n 0, 1) := by decide +kernel
theorem dL_law_231 : decode cL_law 231 = .ok (.iload 5, 2) := by decide +kernel
theorem dL_law_233 : decode cL_law 233 = .ok (.iconst 3, 1) := by decide +kernel
theorem dL_law_234 : decode cL_law 234 = .ok (.iadd, 1) := by decide +kernel
theorem dL_law_235 : decode cL_law 235 = .ok (.iaload, 1) := by decide +kernel
theorem dL_law_236 : decode cL_law 236 = .ok (.invokevirtual 119, 3) := by decide +kernel
theorem dL_law_239 : decode cL_law 239 = .ok (.istore 7, 2) := by decide +kernel
theorem dL_law_241 : decode cL_law 241 = .ok (.aload_n 2, 1) := by decide +kernel
theorem dL_law_242 : decode cL_law 242 = .ok (.invokevirtual 120, 3) := by decide +kernel
theorem dL_law_245 : decode cL_law 245 = .ok (.iload 6, 2) := by decide +kernel
theorem dL_law_247 : decode cL_law 247 = .ok (.if_icmp .eq 5, 3) := by decide +kernel
theorem dL_law_250 : decode cL_law 250 = .ok (.iconst 0, 1) := by decide +kernel
theorem dL_law_251 : decode cL_law 251 = .ok (.ireturn, 1) := by decide +kernel
theorem dL_law_252 : decode cL_law 252 = .ok (.iload 6, 2) := by decide +kernel
theorem dL_law_254 : decode cL_law 254 = .ok (.ifCond .ne 15, 3) := by decide +kernel
theorem dL_law_257 : decode cL_law 257 = .ok (.aload_n 3, 1) := by decide +kernel
theorem dL_law_258 : decode cL_law 258 = .ok (.iconst 0, 1) := by decide +kernel
theorem dL_law_259 : decode cL_law 259 = .ok (.laload, 1) := by decide +kernel
theorem dL_law_260 : decode cL_law 260 = .ok (.iload 7, 2) := by decide +kernel
theorem dL_law_262 : decode cL_law 262 = .ok (.i2l, 1) := by decide +kernel
theorem dL_law_263 : decode cL_law 263 = .ok (.lcmp, 1) := by decide +kernel
theorem dL_law_264 : decode cL_law 264 = .ok (.ifCond .eq 5, 3) := by decide +kernel
theorem dL_law_267 : decode cL_law 267 = .ok (.iconst 0, 1) := by decide +kernel
theorem dL_law_268 : decode cL_law 268 = .ok (.ireturn, 1) := by decide +kernel
theorem dL_law_269 : decode cL_law 269 = .ok (.goto 1748, 3) := by decide +kernel
theorem dL_law_272 : decode cL_law 272 = .ok (.aload_n 1, 1) := by decide +kernel
theorem dL_law_273 : decode cL_law 273 = .ok (.aload_n 0, 1) := by decide +kernel
theorem dL_law_274 : decode cL_law 274 = .ok (.iload 5, 2) := by decide +kernel
theorem dL_law_276 : decode cL_law 276 = .ok (.iconst 1, 1) := by decide +kernel
theorem dL_law_277 : decode cL_law 277 = .ok (.iadd, 1) := by decide +kernel
theorem dL_law_278 : decode cL_law 278 = .ok (.iaload, 1) := by decide +kernel
theorem dL_law_279 : decode cL_law 279 = .ok (.aload_n 0, 1) := by decide +kernel
theorem dL_law_280 : decode cL_law 280 = .ok (.iload 5, 2) := by decide +kernel
theorem dL_law_282 : decode cL_law 282 = .ok (.iconst 2, 1) := by decide +kernel
theorem dL_law_283 : decode cL_law 283 = .ok (.iadd, 1) := by decide +kernel
theorem dL_law_284 : decode cL_law 284 = .ok (.iaload, 1) := by decide +kernel
theorem dL_law_285 : decode cL_law 285 = .ok (.ifCond .eq 7, 3) := by decide +kernel
theorem dL_law_288 : decode cL_law 288 = .ok (.iconst 1, 1) := by decide +kernel
theorem dL_law_289 : decode cL_law 289 = .ok (.goto 4, 3) := by decide +kernel
theorem dL_law_292 : decode cL_law 292 = .ok (.iconst 0, 1) := by decide +kernel
theorem dL_law_293 : decode cL_law 293 = .ok (.aload_n 3, 1) := by decide +kernel
theorem dL_law_294 : decode cL_law 294 = .ok (.invokestatic 123, 3) := by decide +kernel
theorem dL_law_297 : decode cL_law 297 = .ok (.istore 6, 2) := by decide +kernel
theorem dL_law_299 : decode cL_law 299 = .ok (.aload_n 2, 1) := by decide +kernel
theorem dL_law_300 : decode cL_law 300 = .ok (.aload_n 0, 1) := by decide +kernel
theorem dL_law_301 : decode cL_law 301 = .ok (.iload 5, 2) := by decide +kernel
theorem dL_law_303 : decode cL_law 303 = .ok (.iconst 1, 1) := by decide +kernel
theorem dL_law_304 : decode cL_law 304 = .ok (.iadd, 1) := by decide +kernel
theorem dL_law_305 : decode cL_law 305 = .ok (.iaload, 1) := by decide +kernel
theorem dL_law_306 : decode cL_law 306 = .ok (.aload_n 0, 1) := by decide +kernel
theorem dL_law_307 : decode cL_law 307 = .ok (.iload 5, 2) := by decide +kernel
theorem dL_law_309 : decode cL_law 309 = .ok (.iconst 2, 1) := by decide +kernel
theorem dL_law_310 : decode cL_law 310 = .ok (.iadd, 1) := by decide +kernel
theorem dL_law_311 : decode cL_law 311 = .ok (.iaload, 1) := by decide +kernel
theorem dL_law_312 : decode cL_law 312 = .ok (.ifCond .eq 7, 3) := by decide +kernel
theorem dL_law_315 : decode cL_law 315 = .ok (.iconst 1, 1) := by decide +kernel
theorem dL_law_316 : decode cL_law 316 = .ok (.goto 4, 3) := by decide +kernel
theorem dL_law_319 : decode cL_law 319 = .ok (.iconst 0, 1) := by decide +kernel
theorem dL_law_320 : decode cL_law 320 = .ok (.invokevirtual 126, 3) := by decide +kernel
theorem dL_law_323 : decode cL_law 323 = .ok (.istore 7, 2) := by decide +kernel
theorem dL_law_325 : decode cL_law 325 = .ok (.aload_n 2, 1) := by decide +kernel
theorem dL_law_326 : decode cL_law 326 = .ok (.invokevirtual 120, 3) := by decide +kernel
theorem dL_law_329 : decode cL_law 329 = .ok (.iload 6, 2) := by decide +kernel
theorem dL_law_331 : decode cL_law 331 = .ok (.if_icmp .eq 5, 3) := by decide +kernel
theorem dL_law_334 : decode cL_law 334 = .ok (.iconst 0, 1) := by decide +kernel
theorem dL_law_335 : decode cL_law 335 = .ok (.ireturn, 1) := by decide +kernel
theorem dL_law_336 : decode cL_law 336 = .ok (.iload 6, 2) := by decide +kernel
theorem dL_law_338 : decode cL_law 338 = .ok (.ifCond .ne 22, 3) := by decide +kernel
theorem dL_law_341 : decode cL_law 341 = .ok (.aload_n 3, 1) := by decide +kernel
theorem dL_law_342 : decode cL_law 342 = .ok (.iconst 0, 1) := by decide +kernel
theorem dL_law_343 : decode cL_law 343 = .ok (.laload, 1) := by decide +kernel
theorem dL_law_344 : decode cL_law 344 = .ok (.iload 7, 2) := by decide +kernel
theorem dL_law_346 : decode cL_law 346 = .ok (.ifCond .eq 7, 3) := by decide +kernel
theorem dL_law_349 : decode cL_law 349 = .ok (.lconst 1, 1) := by decide +kernel
theorem dL_law_350 : decode cL_law 350 = .ok (.goto 4, 3) := by decide +kernel
theorem dL_law_353 : decode cL_law 353 = .ok (.lconst 0, 1) := by decide +kernel
theorem dL_law_354 : decode cL_law 354 = .ok (.lcmp, 1) := by decide +kernel
theorem dL_law_355 : decode cL_law 355 = .ok (.ifCond .eq 5, 3) := by decide +kernel
theorem dL_law_358 : decode cL_law 358 = .ok (.iconst 0, 1) := by decide +kernel
theorem dL_law_359 : decode cL_law 359 = .ok (.ireturn, 1) := by decide +kernel
theorem dL_law_360 : decode cL_law 360 = .ok (.goto 1657, 3) := by decide +kernel
theorem dL_law_363 : decode cL_law 363 = .ok (.aload_n 1, 1) := by decide +kernel
theorem dL_law_364 : decode cL_law 364 = .ok (.aload_n 0, 1) := by decide +kernel
theorem dL_law_365 : decode cL_law 365 = .ok (.iload 5, 2) := by decide +kernel
theorem dL_law_367 : decode cL_law 367 = .ok (.iconst 1, 1) := by decide +kernel
theorem dL_law_368 : decode cL_law 368 = .ok (.iadd, 1) := by decide +kernel
theorem dL_law_369 : decode cL_law 369 = .ok (.iaload, 1) := by decide +kernel
theorem dL_law_370 : decode cL_law 370 = .ok (.aload_n 0, 1) := by decide +kernel
theorem dL_law_371 : decode cL_law 371 = .ok (.iload 5, 2) := by decide +kernel
theorem dL_law_373 : decode cL_law 373 = .ok (.iconst 2, 1) := by decide +kernel
theorem dL_law_374 : decode cL_law 374 = .ok (.iadd, 1) := by decide +kernel
theorem dL_law_375 : decode cL_law 375 = .ok (.iaload, 1) := by decide +kernel
theorem dL_law_376 : decode cL_law 376 = .ok (.aload_n 0, 1) := by decide +kernel
theorem dL_law_377 : decode cL_law 377 = .ok (.iload 5, 2) := by decide +kernel
theorem dL_law_379 : decode cL_law 379 = .ok (.iconst 3, 1) := by decide +kernel
theorem dL_law_380 : decode cL_law 380 = .ok (.iadd, 1) := by decide +kernel
theorem dL_law_381 : decode cL_law 381 = .ok (.iaload, 1) := by decide +kernel
theorem dL_law_382 : decode cL_law 382 = .ok (.aload_n 3, 1) := by decide +kernel
theorem dL_law_383 : decode cL_law 383 = .ok (.invokestatic 127, 3) := by decide +kernel
theorem dL_law_386 : decode cL_law 386 = .ok (.istore 6, 2) := by decide +kernel
theorem dL_law_388 : decode cL_law 388 = .ok (.aload_n 2, 1) := by decide +kernel
theorem dL_law_389 : decode cL_law 389 = .ok (.aload_n 0, 1) := by decide +kernel
theorem dL_law_390 : decode cL_law 390 = .ok (.iload 5, 2) := by decide +kernel
theorem dL_law_392 : decode cL_law 392 = .ok (.iconst 1, 1) := by decide +kernel
theorem dL_law_393 : decode cL_law 393 = .ok (.iadd, 1) := by decide +kernel
theorem dL_law_394 : decode cL_law 394 = .ok (.iaload, 1) := by decide +kernel
theorem dL_law_395 : decode cL_law 395 = .ok (.aload_n 0, 1) := by decide +kernel
theorem dL_law_396 : decode cL_law 396 = .ok (.iload 5, 2) := by decide +kernel
theorem dL_law_398 : decode cL_law 398 = .ok (.iconst 2, 1) := by decide +kernel
theorem dL_law_399 : decode cL_law 399 = .ok (.iadd, 1) := by decide +kernel
theorem dL_law_400 : decode cL_law 400 = .ok (.iaload, 1) := by decide +kernel
theorem dL_law_401 : decode cL_law 401 = .ok (.aload_n 0, 1) := by decide +kernel
theorem dL_law_402 : decode cL_law 402 = .ok (.iload 5, 2) := by decide +kernel
theorem dL_law_404 : decode cL_law 404 = .ok (.iconst 3, 1) := by decide +kernel
theorem dL_law_405 : decode cL_law 405 = .ok (.iadd, 1) := by decide +kernel
theorem dL_law_406 : decode cL_law 406 = .ok (.iaload, 1) := by decide +kernel
theorem dL_law_407 : decode cL_law 407 = .ok (.invokevirtual 129, 3) := by decide +kernel
theorem dL_law_410 : decode cL_law 410 = .ok (.istore 7, 2) := by decide +kernel
theorem dL_law_412 : decode cL_law 412 = .ok (.aload_n 2, 1) := by decide +kernel
theorem dL_law_413 : decode cL_law 413 = .ok (.invokevirtual 120, 3) := by decide +kernel
theorem dL_law_416 : decode cL_law 416 = .ok (.iload 6, 2) := by decide +kernel
theorem dL_law_418 : decode cL_law 418 = .ok (.if_icmp .eq 5, 3) := by decide +kernel
theorem dL_law_421 : decode cL_law 421 = .ok (.iconst 0, 1) := by decide +kernel
theorem dL_law_422 : decode cL_law 422 = .ok (.ireturn, 1) := by decide +kernel
theorem dL_law_423 : decode cL_law 423 = .ok (.iload 6, 2) := by decide +kernel
theorem dL_law_425 : decode cL_law 425 = .ok (.ifCond .ne 15, 3) := by decide +kernel
theorem dL_law_428 : decode cL_law 428 = .ok (.aload_n 3, 1) := by decide +kernel
theorem dL_law_429 : decode cL_law 429 = .ok (.iconst 0, 1) := by decide +kernel
theorem dL_law_430 : decode cL_law 430 = .ok (.laload, 1) := by decide +kernel
theorem dL_law_431 : decode cL_law 431 = .ok (.iload 7, 2) := by decide +kernel
theorem dL_law_433 : decode cL_law 433 = .ok (.i2l, 1) := by decide +kernel
theorem dL_law_434 : decode cL_law 434 = .ok (.lcmp, 1) := by decide +kernel
theorem dL_law_435 : decode cL_law 435 = .ok (.ifCond .eq 5, 3) := by decide +kernel
theorem dL_law_438 : decode cL_law 438 = .ok (.iconst 0, 1) := by decide +kernel
theorem dL_law_439 : decode cL_law 439 = .ok (.ireturn, 1) := by decide +kernel
theorem dL_law_440 : decode cL_law 440 = .ok (.goto 1577, 3) := by decide +kernel
theorem dL_law_443 : decode cL_law 443 = .ok (.aload_n 1, 1) := by decide +kernel
theorem dL_law_444 : decode cL_law 444 = .ok (.aload_n 0, 1) := by decide +kernel
theorem dL_law_445 : decode cL_law 445 = .ok (.iload 5, 2) := by decide +kernel
theorem dL_law_447 : decode cL_law 447 = .ok (.iconst 1, 1) := by decide +kernel
theorem dL_law_448 : decode cL_law 448 = .ok (.iadd, 1) := by decide +kernel
theorem dL_law_449 : decode cL_law 449 = .ok (.iaload, 1) := by decide +kernel
theorem dL_law_450 : decode cL_law 450 = .ok (.aload_n 0, 1) := by decide +kernel
theorem dL_law_451 : decode cL_law 451 = .ok (.iload 5, 2) := by decide +kernel
theorem dL_law_453 : decode cL_law 453 = .ok (.iconst 2, 1) := by decide +kernel
theorem dL_law_454 : decode cL_law 454 = .ok (.iadd, 1) := by decide +kernel
theorem dL_law_455 : decode cL_law 455 = .ok (.iaload, 1) := by decide +kernel
theorem dL_law_456 : decode cL_law 456 = .ok (.aload_n 0, 1) := by decide +kernel
theorem dL_law_457 : decode cL_law 457 = .ok (.iload 5, 2) := by decide +kernel
theorem dL_law_459 : decode cL_law 459 = .ok (.iconst 3, 1) := by decide +kernel
theorem dL_law_460 : decode cL_law 460 = .ok (.iadd, 1) := by decide +kernel
theorem dL_law_461 : decode cL_law 461 = .ok (.iaload, 1) := by decide +kernel
theorem dL_law_462 : decode cL_law 462 = .ok (.aload_n 0, 1) := by decide +kernel
theorem dL_law_463 : decode cL_law 463 = .ok (.iload 5, 2) := by decide +kernel
theorem dL_law_465 : decode cL_law 465 = .ok (.iconst 4, 1) := by decide +kernel
theorem dL_law_466 : decode cL_law 466 = .ok (.iadd, 1) := by decide +kernel
theorem dL_law_467 : decode cL_law 467 = .ok (.iaload, 1) := by decide +kernel
theorem dL_law_468 : decode cL_law 468 = .ok (.aload_n 0, 1) := by decide +kernel
theorem dL_law_469 : decode cL_law 469 = .ok (.iload 5, 2) := by decide +kernel
theorem dL_law_471 : decode cL_law 471 = .ok (.iconst 5, 1) := by decide +kernel
theorem dL_law_472 : decode cL_law 472 = .ok (.iadd, 1) := by decide +kernel
theorem dL_law_473 : decode cL_law 473 = .ok (.iaload, 1) := by decide +kernel
theorem dL_law_474 : decode cL_law 474 = .ok (.aload_n 3, 1) := by decide +kernel
theorem dL_law_475 : decode cL_law 475 = .ok (.invokestatic 130, 3) := by decide +kernel
theorem dL_law_478 : decode cL_law 478 = .ok (.istore 6, 2) := by decide +kernel
theorem dL_law_480 : decode cL_law 480 = .ok (.aload_n 2, 1) := by decide +kernel
theorem dL_law_481 : decode cL_law 481 = .ok (.aload_n 0, 1) := by decide +kernel
theorem dL_law_482 : decode cL_law 482 = .ok (.iload 5, 2) := by decide +kernel
theorem dL_law_484 : decode cL_law 484 = .ok (.iconst 1, 1) := by decide +kernel
theorem dL_law_485 : decode cL_law 485 = .ok (.iadd, 1) := by decide +kernel
theorem dL_law_486 : decode cL_law 486 = .ok (.iaload, 1) := by decide +kernel
theorem dL_law_487 : decode cL_law 487 = .ok (.aload_n 0, 1) := by decide +kernel
theorem dL_law_488 : decode cL_law 488 = .ok (.iload 5, 2) := by decide +kernel
theorem dL_law_490 : decode cL_law 490 = .ok (.iconst 2, 1) := by decide +kernel
theorem dL_law_491 : decode cL_law 491 = .ok (.iadd, 1) := by decide +kernel
theorem dL_law_492 : decode cL_law 492 = .ok (.iaload, 1) := by decide +kernel
theorem dL_law_493 : decode cL_law 493 = .ok (.aload_n 0, 1) := by decide +kernel
theorem dL_law_494 : decode cL_law 494 = .ok (.iload 5, 2) := by decide +kernel
theorem dL_law_496 : decode cL_law 496 = .ok (.iconst 3, 1) := by decide +kernel
theorem dL_law_497 : decode cL_law 497 = .ok (.iadd, 1) := by decide +kernel
theorem dL_law_498 : decode cL_law 498 = .ok (.iaload, 1) := by decide +kernel
theorem dL_law_499 : decode cL_law 499 = .ok (.aload_n 0, 1) := by decide +kernel
theorem dL_law_500 : decode cL_law 500 = .ok (.iload 5, 2) := by decide +kernel
theorem dL_law_502 : decode cL_law 502 = .ok (.iconst 4, 1) := by decide +kernel
theorem dL_law_503 : decode cL_law 503 = .ok (.iadd, 1) := by decide +kernel
theorem dL_law_504 : decode cL_law 504 = .ok (.iaload, 1) := by decide +kernel
theorem dL_law_505 : decode cL_law 505 = .ok (.aload_n 0, 1) := by decide +kernel
theorem dL_law_506 : decode cL_law 506 = .ok (.iload 5, 2) := by decide +kernel
theorem dL_law_508 : decode cL_law 508 = .ok (.iconst 5, 1) := by decide +kernel
theorem dL_law_509 : decode cL_law 509 = .ok (.iadd, 1) := by decide +kernel
theorem dL_law_510 : decode cL_law 510 = .ok (.iaload, 1) := by decide +kernel
theorem dL_law_511 : decode cL_law 511 = .ok (.invokevirtual 133, 3) := by decide +kernel
theorem dL_law_514 : decode cL_law 514 = .ok (.istore 7, 2) := by decide +kernel
theorem dL_law_516 : decode cL_law 516 = .ok (.aload_n 2, 1) := by decide +kernel
theorem dL_law_517 : decode cL_law 517 = .ok (.invokevirtual 120, 3) := by decide +kernel
theorem dL_law_520 : decode cL_law 520 = .ok (.iload 6, 2) := by decide +kernel
theorem dL_law_522 : decode cL_law 522 = .ok (.if_icmp .eq 5, 3) := by decide +kernel
theorem dL_law_525 : decode cL_law 525 = .ok (.iconst 0, 1) := by decide +kernel
theorem dL_law_526 : decode cL_law 526 = .ok (.ireturn, 1) := by decide +kernel
theorem dL_law_527 : decode cL_law 527 = .ok (.iload 6, 2) := by decide +kernel
theorem dL_law_529 : decode cL_law 529 = .ok (.ifCond .ne 15, 3) := by decide +kernel
theorem dL_law_532 : decode cL_law 532 = .ok (.aload_n 3, 1) := by decide +kernel
theorem dL_law_533 : decode cL_law 533 = .ok (.iconst 0, 1) := by decide +kernel
theorem dL_law_534 : decode cL_law 534 = .ok (.laload, 1) := by decide +kernel
theorem dL_law_535 : decode cL_law 535 = .ok (.iload 7, 2) := by decide +kernel
theorem dL_law_537 : decode cL_law 537 = .ok (.i2l, 1) := by decide +kernel
theorem dL_law_538 : decode cL_law 538 = .ok (.lcmp, 1) := by decide +kernel
theorem dL_law_539 : decode cL_law 539 = .ok (.ifCond .eq 5, 3) := by decide +kernel
theorem dL_law_542 : decode cL_law 542 = .ok (.iconst 0, 1) := by decide +kernel
theorem dL_law_543 : decode cL_law 543 = .ok (.ireturn, 1) := by decide +kernel
theorem dL_law_544 : decode cL_law 544 = .ok (.goto 1473, 3) := by decide +kernel
theorem dL_law_547 : decode cL_law 547 = .ok (.aload_n 1, 1) := by decide +kernel
theorem dL_law_548 : decode cL_law 548 = .ok (.aload_n 0, 1) := by decide +kernel
theorem dL_law_549 : decode cL_law 549 = .ok (.iload 5, 2) := by decide +kernel
theorem dL_law_551 : decode cL_law 551 = .ok (.iconst 1, 1) := by decide +kernel
theorem dL_law_552 : decode cL_law 552 = .ok (.iadd, 1) := by decide +kernel
theorem dL_law_553 : decode cL_law 553 = .ok (.iaload, 1) := by decide +kernel
theorem dL_law_554 : decode cL_law 554 = .ok (.aload_n 0, 1) := by decide +kernel
theorem dL_law_555 : decode cL_law 555 = .ok (.iload 5, 2) := by decide +kernel
theorem dL_law_557 : decode cL_law 557 = .ok (.iconst 2, 1) := by decide +kernel
theorem dL_law_558 : decode cL_law 558 = .ok (.iadd, 1) := by decide +kernel
theorem dL_law_559 : decode cL_law 559 = .ok (.iaload, 1) := by decide +kernel
theorem dL_law_560 : decode cL_law 560 = .ok (.aload_n 0, 1) := by decide +kernel
theorem dL_law_561 : decode cL_law 561 = .ok (.iload 5, 2) := by decide +kernel
theorem dL_law_563 : decode cL_law 563 = .ok (.iconst 3, 1) := by decide +kernel
theorem dL_law_564 : decode cL_law 564 = .ok (.iadd, 1) := by decide +kernel
theorem dL_law_565 : decode cL_law 565 = .ok (.iaload, 1) := by decide +kernel
theorem dL_law_566 : decode cL_law 566 = .ok (.aload_n 3, 1) := by decide +kernel
theorem dL_law_567 : decode cL_law 567 = .ok (.invokestatic 134, 3) := by decide +kernel
theorem dL_law_570 : decode cL_law 570 = .ok (.istore 6, 2) := by decide +kernel
theorem dL_law_572 : decode cL_law 572 = .ok (.aload_n 2, 1) := by decide +kernel
theorem dL_law_573 : decode cL_law 573 = .ok (.aload_n 0, 1) := by decide +kernel
theorem dL_law_574 : decode cL_law 574 = .ok (.iload 5, 2) := by decide +kernel
theorem dL_law_576 : decode cL_law 576 = .ok (.iconst 1, 1) := by decide +kernel
theorem dL_law_577 : decode cL_law 577 = .ok (.iadd, 1) := by decide +kernel
theorem dL_law_578 : decode cL_law 578 = .ok (.iaload, 1) := by decide +kernel
theorem dL_law_579 : decode cL_law 579 = .ok (.aload_n 0, 1) := by decide +kernel
theorem dL_law_580 : decode cL_law 580 = .ok (.iload 5, 2) := by decide +kernel
theorem dL_law_582 : decode cL_law 582 = .ok (.iconst 2, 1) := by decide +kernel
theorem dL_law_583 : decode cL_law 583 = .ok (.iadd, 1) := by decide +kernel
theorem dL_law_584 : decode cL_law 584 = .ok (.iaload, 1) := by decide +kernel
theorem dL_law_585 : decode cL_law 585 = .ok (.aload_n 0, 1) := by decide +kernel
theorem dL_law_586 : decode cL_law 586 = .ok (.iload 5, 2) := by decide +kernel
theorem dL_law_588 : decode cL_law 588 = .ok (.iconst 3, 1) := by decide +kernel
theorem dL_law_589 : decode cL_law 589 = .ok (.iadd, 1) := by decide +kernel
theorem dL_law_590 : decode cL_law 590 = .ok (.iaload, 1) := by decide +kernel
theorem dL_law_591 : decode cL_law 591 = .ok (.invokevirtual 136, 3) := by decide +kernel
theorem dL_law_594 : decode cL_law 594 = .ok (.istore 7, 2) := by decide +kernel
theorem dL_law_596 : decode cL_law 596 = .ok (.aload_n 2, 1) := by decide +kernel
theorem dL_law_597 : decode cL_law 597 = .ok (.invokevirtual 120, 3) := by decide +kernel
theorem dL_law_600 : decode cL_law 600 = .ok (.iload 6, 2) := by decide +kernel
theorem dL_law_602 : decode cL_law 602 = .ok (.if_icmp .eq 5, 3) := by decide +kernel
theorem dL_law_605 : decode cL_law 605 = .ok (.iconst 0, 1) := by decide +kernel
theorem dL_law_606 : decode cL_law 606 = .ok (.ireturn, 1) := by decide +kernel
theorem dL_law_607 : decode cL_law 607 = .ok (.iload 6, 2) := by decide +kernel
theorem dL_law_609 : decode cL_law 609 = .ok (.ifCond .ne 15, 3) := by decide +kernel
theorem dL_law_612 : decode cL_law 612 = .ok (.aload_n 3, 1) := by decide +kernel
theorem dL_law_613 : decode cL_law 613 = .ok (.iconst 0, 1) := by decide +kernel
theorem dL_law_614 : decode cL_law 614 = .ok (.laload, 1) := by decide +kernel
theorem dL_law_615 : decode cL_law 615 = .ok (.iload 7, 2) := by decide +kernel
theorem dL_law_617 : decode cL_law 617 = .ok (.i2l, 1) := by decide +kernel
theorem dL_law_618 : decode cL_law 618 = .ok (.lcmp, 1) := by decide +kernel
theorem dL_law_619 : decode cL_law 619 = .ok (.ifCond .eq 5, 3) := by decide +kernel
theorem dL_law_622 : decode cL_law 622 = .ok (.iconst 0, 1) := by decide +kernel
theorem dL_law_623 : decode cL_law 623 = .ok (.ireturn, 1) := by decide +kernel
theorem dL_law_624 : decode cL_law 624 = .ok (.goto 1393, 3) := by decide +kernel
theorem dL_law_627 : decode cL_law 627 = .ok (.aload_n 1, 1) := by decide +kernel
theorem dL_law_628 : decode cL_law 628 = .ok (.aload_n 0, 1) := by decide +kernel
theorem dL_law_629 : decode cL_law 629 = .ok (.iload 5, 2) := by decide +kernel
theorem dL_law_631 : decode cL_law 631 = .ok (.iconst 1, 1) := by decide +kernel
theorem dL_law_632 : decode cL_law 632 = .ok (.iadd, 1) := by decide +kernel
theorem dL_law_633 : decode cL_law 633 = .ok (.iaload, 1) := by decide +kernel
theorem dL_law_634 : decode cL_law 634 = .ok (.aload_n 0, 1) := by decide +kernel
theorem dL_law_635 : decode cL_law 635 = .ok (.iload 5, 2) := by decide +kernel
theorem dL_law_637 : decode cL_law 637 = .ok (.iconst 2, 1) := by decide +kernel
theorem dL_law_638 : decode cL_law 638 = .ok (.iadd, 1) := by decide +kernel
theorem dL_law_639 : decode cL_law 639 = .ok (.iaload, 1) := by decide +kernel
theorem dL_law_640 : decode cL_law 640 = .ok (.aload_n 0, 1) := by decide +kernel
theorem dL_law_641 : decode cL_law 641 = .ok (.iload 5, 2) := by decide +kernel
theorem dL_law_643 : decode cL_law 643 = .ok (.iconst 3, 1) := by decide +kernel
theorem dL_law_644 : decode cL_law 644 = .ok (.iadd, 1) := by decide +kernel
theorem dL_law_645 : decode cL_law 645 = .ok (.iaload, 1) := by decide +kernel
theorem dL_law_646 : decode cL_law 646 = .ok (.aload_n 3, 1) := by decide +kernel
theorem dL_law_647 : decode cL_law 647 = .ok (.invokestatic 137, 3) := by decide +kernel
theorem dL_law_650 : decode cL_law 650 = .ok (.istore 6, 2) := by decide +kernel
theorem dL_law_652 : decode cL_law 652 = .ok (.aload_n 2, 1) := by decide +kernel
theorem dL_law_653 : decode cL_law 653 = .ok (.aload_n 0, 1) := by decide +kernel
theorem dL_law_654 : decode cL_law 654 = .ok (.iload 5, 2) := by decide +kernel
theorem dL_law_656 : decode cL_law 656 = .ok (.iconst 1, 1) := by decide +kernel
theorem dL_law_657 : decode cL_law 657 = .ok (.iadd, 1) := by decide +kernel
theorem dL_law_658 : decode cL_law 658 = .ok (.iaload, 1) := by decide +kernel
theorem dL_law_659 : decode cL_law 659 = .ok (.aload_n 0, 1) := by decide +kernel
theorem dL_law_660 : decode cL_law 660 = .ok (.iload 5, 2) := by decide +kernel
theorem dL_law_662 : decode cL_law 662 = .ok (.iconst 2, 1) := by decide +kernel
theorem dL_law_663 : decode cL_law 663 = .ok (.iadd, 1) := by decide +kernel
theorem dL_law_664 : decode cL_law 664 = .ok (.iaload, 1) := by decide +kernel
theorem dL_law_665 : decode cL_law 665 = .ok (.aload_n 0, 1) := by decide +kernel
theorem dL_law_666 : decode cL_law 666 = .ok (.iload 5, 2) := by decide +kernel
theorem dL_law_668 : decode cL_law 668 = .ok (.iconst 3, 1) := by decide +kernel
theorem dL_law_669 : decode cL_law 669 = .ok (.iadd, 1) := by decide +kernel
theorem dL_law_670 : decode cL_law 670 = .ok (.iaload, 1) := by decide +kernel
theorem dL_law_671 : decode cL_law 671 = .ok (.invokevirtual 139, 3) := by decide +kernel
theorem dL_law_674 : decode cL_law 674 = .ok (.istore 7, 2) := by decide +kernel
theorem dL_law_676 : decode cL_law 676 = .ok (.aload_n 2, 1) := by decide +kernel
theorem dL_law_677 : decode cL_law 677 = .ok (.invokevirtual 120, 3) := by decide +kernel
theorem dL_law_680 : decode cL_law 680 = .ok (.iload 6, 2) := by decide +kernel
theorem dL_law_682 : decode cL_law 682 = .ok (.if_icmp .eq 5, 3) := by decide +kernel
theorem dL_law_685 : decode cL_law 685 = .ok (.iconst 0, 1) := by decide +kernel
theorem dL_law_686 : decode cL_law 686 = .ok (.ireturn, 1) := by decide +kernel
theorem dL_law_687 : decode cL_law 687 = .ok (.iload 6, 2) := by decide +kernel
theorem dL_law_689 : decode cL_law 689 = .ok (.ifCond .ne 15, 3) := by decide +kernel
theorem dL_law_692 : decode cL_law 692 = .ok (.aload_n 3, 1) := by decide +kernel
theorem dL_law_693 : decode cL_law 693 = .ok (.iconst 0, 1) := by decide +kernel
theorem dL_law_694 : decode cL_law 694 = .ok (.laload, 1) := by decide +kernel
theorem dL_law_695 : decode cL_law 695 = .ok (.iload 7, 2) := by decide +kernel
theorem dL_law_697 : decode cL_law 697 = .ok (.i2l, 1) := by decide +kernel
theorem dL_law_698 : decode cL_law 698 = .ok (.lcmp, 1) := by decide +kernel
theorem dL_law_699 : decode cL_law 699 = .ok (.ifCond .eq 5, 3) := by decide +kernel
theorem dL_law_702 : decode cL_law 702 = .ok (.iconst 0, 1) := by decide +kernel
theorem dL_law_703 : decode cL_law 703 = .ok (.ireturn, 1) := by decide +kernel
theorem dL_law_704 : decode cL_law 704 = .ok (.goto 1313, 3) := by decide +kernel
theorem dL_law_707 : decode cL_law 707 = .ok (.aload_n 1, 1) := by decide +kernel
theorem dL_law_708 : decode cL_law 708 = .ok (.aload_n 0, 1) := by decide +kernel
theorem dL_law_709 : decode cL_law 709 = .ok (.iload 5, 2) := by decide +kernel
theorem dL_law_711 : decode cL_law 711 = .ok (.iconst 1, 1) := by decide +kernel
theorem dL_law_712 : decode cL_law 712 = .ok (.iadd, 1) := by decide +kernel
theorem dL_law_713 : decode cL_law 713 = .ok (.iaload, 1) := by decide +kernel
theorem dL_law_714 : decode cL_law 714 = .ok (.aload_n 0, 1) := by decide +kernel
theorem dL_law_715 : decode cL_law 715 = .ok (.iload 5, 2) := by decide +kernel
theorem dL_law_717 : decode cL_law 717 = .ok (.iconst 2, 1) := by decide +kernel
theorem dL_law_718 : decode cL_law 718 = .ok (.iadd, 1) := by decide +kernel
theorem dL_law_719 : decode cL_law 719 = .ok (.iaload, 1) := by decide +kernel
theorem dL_law_720 : decode cL_law 720 = .ok (.aload_n 3, 1) := by decide +kernel
theorem dL_law_721 : decode cL_law 721 = .ok (.invokestatic 140, 3) := by decide +kernel
theorem dL_law_724 : decode cL_law 724 = .ok (.istore 6, 2) := by decide +kernel
theorem dL_law_726 : decode cL_law 726 = .ok (.aload_n 2, 1) := by decide +kernel
theorem dL_law_727 : decode cL_law 727 = .ok (.aload_n 0, 1) := by decide +kernel
theorem dL_law_728 : decode cL_law 728 = .ok (.iload 5, 2) := by decide +kernel
theorem dL_law_730 : decode cL_law 730 = .ok (.iconst 1, 1) := by decide +kernel
theorem dL_law_731 : decode cL_law 731 = .ok (.iadd, 1) := by decide +kernel
theorem dL_law_732 : decode cL_law 732 = .ok (.iaload, 1) := by decide +kernel
theorem dL_law_733 : decode cL_law 733 = .ok (.aload_n 0, 1) := by decide +kernel
theorem dL_law_734 : decode cL_law 734 = .ok (.iload 5, 2) := by decide +kernel
theorem dL_law_736 : decode cL_law 736 = .ok (.iconst 2, 1) := by decide +kernel
theorem dL_law_737 : decode cL_law 737 = .ok (.iadd, 1) := by decide +kernel
theorem dL_law_738 : decode cL_law 738 = .ok (.iaload, 1) := by decide +kernel
theorem dL_law_739 : decode cL_law 739 = .ok (.invokevirtual 143, 3) := by decide +kernel
theorem dL_law_742 : decode cL_law 742 = .ok (.istore 7, 2) := by decide +kernel
theorem dL_law_744 : decode cL_law 744 = .ok (.aload_n 2, 1) := by decide +kernel
theorem dL_law_745 : decode cL_law 745 = .ok (.invokevirtual 120, 3) := by decide +kernel
theorem dL_law_748 : decode cL_law 748 = .ok (.iload 6, 2) := by decide +kernel
theorem dL_law_750 : decode cL_law 750 = .ok (.if_icmp .eq 5, 3) := by decide +kernel
theorem dL_law_753 : decode cL_law 753 = .ok (.iconst 0, 1) := by decide +kernel
theorem dL_law_754 : decode cL_law 754 = .ok (.ireturn, 1) := by decide +kernel
theorem dL_law_755 : decode cL_law 755 = .ok (.iload 6, 2) := by decide +kernel
theorem dL_law_757 : decode cL_law 757 = .ok (.ifCond .ne 15, 3) := by decide +kernel
theorem dL_law_760 : decode cL_law 760 = .ok (.aload_n 3, 1) := by decide +kernel
theorem dL_law_761 : decode cL_law 761 = .ok (.iconst 0, 1) := by decide +kernel
theorem dL_law_762 : decode cL_law 762 = .ok (.laload, 1) := by decide +kernel
theorem dL_law_763 : decode cL_law 763 = .ok (.iload 7, 2) := by decide +kernel
theorem dL_law_765 : decode cL_law 765 = .ok (.i2l, 1) := by decide +kernel
theorem dL_law_766 : decode cL_law 766 = .ok (.lcmp, 1) := by decide +kernel
theorem dL_law_767 : decode cL_law 767 = .ok (.ifCond .eq 5, 3) := by decide +kernel
theorem dL_law_770 : decode cL_law 770 = .ok (.iconst 0, 1) := by decide +kernel
theorem dL_law_771 : decode cL_law 771 = .ok (.ireturn, 1) := by decide +kernel
theorem dL_law_772 : decode cL_law 772 = .ok (.goto 1245, 3) := by decide +kernel
theorem dL_law_775 : decode cL_law 775 = .ok (.aload_n 1, 1) := by decide +kernel
theorem dL_law_776 : decode cL_law 776 = .ok (.aload_n 0, 1) := by decide +kernel
theorem dL_law_777 : decode cL_law 777 = .ok (.iload 5, 2) := by decide +kernel
theorem dL_law_779 : decode cL_law 779 = .ok (.iconst 1, 1) := by decide +kernel
theorem dL_law_780 : decode cL_law 780 = .ok (.iadd, 1) := by decide +kernel
theorem dL_law_781 : decode cL_law 781 = .ok (.iaload, 1) := by decide +kernel
theorem dL_law_782 : decode cL_law 782 = .ok (.aload_n 0, 1) := by decide +kernel
theorem dL_law_783 : decode cL_law 783 = .ok (.iload 5, 2) := by decide +kernel
theorem dL_law_785 : decode cL_law 785 = .ok (.iconst 2, 1) := by decide +kernel
theorem dL_law_786 : decode cL_law 786 = .ok (.iadd, 1) := by decide +kernel
theorem dL_law_787 : decode cL_law 787 = .ok (.iaload, 1) := by decide +kernel
theorem dL_law_788 : decode cL_law 788 = .ok (.aload_n 3, 1) := by decide +kernel
theorem dL_law_789 : decode cL_law 789 = .ok (.invokestatic 144, 3) := by decide +kernel
theorem dL_law_792 : decode cL_law 792 = .ok (.istore 6, 2) := by decide +kernel
theorem dL_law_794 : decode cL_law 794 = .ok (.aload_n 2, 1) := by decide +kernel
theorem dL_law_795 : decode cL_law 795 = .ok (.aload_n 0, 1) := by decide +kernel
theorem dL_law_796 : decode cL_law 796 = .ok (.iload 5, 2) := by decide +kernel
theorem dL_law_798 : decode cL_law 798 = .ok (.iconst 1, 1) := by decide +kernel
theorem dL_law_799 : decode cL_law 799 = .ok (.iadd, 1) := by decide +kernel
theorem dL_law_800 : decode cL_law 800 = .ok (.iaload, 1) := by decide +kernel
theorem dL_law_801 : decode cL_law 801 = .ok (.aload_n 0, 1) := by decide +kernel
theorem dL_law_802 : decode cL_law 802 = .ok (.iload 5, 2) := by decide +kernel
theorem dL_law_804 : decode cL_law 804 = .ok (.iconst 2, 1) := by decide +kernel
theorem dL_law_805 : decode cL_law 805 = .ok (.iadd, 1) := by decide +kernel
theorem dL_law_806 : decode cL_law 806 = .ok (.iaload, 1) := by decide +kernel
theorem dL_law_807 : decode cL_law 807 = .ok (.invokevirtual 146, 3) := by decide +kernel
theorem dL_law_810 : decode cL_law 810 = .ok (.istore 7, 2) := by decide +kernel
theorem dL_law_812 : decode cL_law 812 = .ok (.aload_n 2, 1) := by decide +kernel
theorem dL_law_813 : decode cL_law 813 = .ok (.invokevirtual 120, 3) := by decide +kernel
theorem dL_law_816 : decode cL_law 816 = .ok (.iload 6, 2) := by decide +kernel
theorem dL_law_818 : decode cL_law 818 = .ok (.if_icmp .eq 5, 3) := by decide +kernel
theorem dL_law_821 : decode cL_law 821 = .ok (.iconst 0, 1) := by decide +kernel
theorem dL_law_822 : decode cL_law 822 = .ok (.ireturn, 1) := by decide +kernel
theorem dL_law_823 : decode cL_law 823 = .ok (.iload 6, 2) := by decide +kernel
theorem dL_law_825 : decode cL_law 825 = .ok (.ifCond .ne 15, 3) := by decide +kernel
theorem dL_law_828 : decode cL_law 828 = .ok (.aload_n 3, 1) := by decide +kernel
theorem dL_law_829 : decode cL_law 829 = .ok (.iconst 0, 1) := by decide +kernel
theorem dL_law_830 : decode cL_law 830 = .ok (.laload, 1) := by decide +kernel
theorem dL_law_831 : decode cL_law 831 = .ok (.iload 7, 2) := by decide +kernel
theorem dL_law_833 : decode cL_law 833 = .ok (.i2l, 1) := by decide +kernel
theorem dL_law_834 : decode cL_law 834 = .ok (.lcmp, 1) := by decide +kernel
theorem dL_law_835 : decode cL_law 835 = .ok (.ifCond .eq 5, 3) := by decide +kernel
theorem dL_law_838 : decode cL_law 838 = .ok (.iconst 0, 1) := by decide +kernel
theorem dL_law_839 : decode cL_law 839 = .ok (.ireturn, 1) := by decide +kernel
theorem dL_law_840 : decode cL_law 840 = .ok (.goto 1177, 3) := by decide +kernel
theorem dL_law_843 : decode cL_law 843 = .ok (.aload_n 1, 1) := by decide +kernel
theorem dL_law_844 : decode cL_law 844 = .ok (.aload_n 0, 1) := by decide +kernel
theorem dL_law_845 : decode cL_law 845 = .ok (.iload 5, 2) := by decide +kernel
theorem dL_law_847 : decode cL_law 847 = .ok (.iconst 1, 1) := by decide +kernel
theorem dL_law_848 : decode cL_law 848 = .ok (.iadd, 1) := by decide +kernel
theorem dL_law_849 : decode cL_law 849 = .ok (.iaload, 1) := by decide +kernel
theorem dL_law_850 : decode cL_law 850 = .ok (.aload_n 0, 1) := by decide +kernel
theorem dL_law_851 : decode cL_law 851 = .ok (.iload 5, 2) := by decide +kernel
theorem dL_law_853 : decode cL_law 853 = .ok (.iconst 2, 1) := by decide +kernel
theorem dL_law_854 : decode cL_law 854 = .ok (.iadd, 1) := by decide +kernel
theorem dL_law_855 : decode cL_law 855 = .ok (.iaload, 1) := by decide +kernel
theorem dL_law_856 : decode cL_law 856 = .ok (.aload_n 3, 1) := by decide +kernel
theorem dL_law_857 : decode cL_law 857 = .ok (.invokestatic 147, 3) := by decide +kernel
theorem dL_law_860 : decode cL_law 860 = .ok (.istore 6, 2) := by decide +kernel
theorem dL_law_862 : decode cL_law 862 = .ok (.aload_n 2, 1) := by decide +kernel
theorem dL_law_863 : decode cL_law 863 = .ok (.aload_n 0, 1) := by decide +kernel
theorem dL_law_864 : decode cL_law 864 = .ok (.iload 5, 2) := by decide +kernel
theorem dL_law_866 : decode cL_law 866 = .ok (.iconst 1, 1) := by decide +kernel
theorem dL_law_867 : decode cL_law 867 = .ok (.iadd, 1) := by decide +kernel
theorem dL_law_868 : decode cL_law 868 = .ok (.iaload, 1) := by decide +kernel
theorem dL_law_869 : decode cL_law 869 = .ok (.aload_n 0, 1) := by decide +kernel
theorem dL_law_870 : decode cL_law 870 = .ok (.iload 5, 2) := by decide +kernel
theorem dL_law_872 : decode cL_law 872 = .ok (.iconst 2, 1) := by decide +kernel
theorem dL_law_873 : decode cL_law 873 = .ok (.iadd, 1) := by decide +kernel
theorem dL_law_874 : decode cL_law 874 = .ok (.iaload, 1) := by decide +kernel
theorem dL_law_875 : decode cL_law 875 = .ok (.invokevirtual 149, 3) := by decide +kernel
theorem dL_law_878 : decode cL_law 878 = .ok (.istore 7, 2) := by decide +kernel
theorem dL_law_880 : decode cL_law 880 = .ok (.aload_n 2, 1) := by decide +kernel
theorem dL_law_881 : decode cL_law 881 = .ok (.invokevirtual 120, 3) := by decide +kernel
theorem dL_law_884 : decode cL_law 884 = .ok (.iload 6, 2) := by decide +kernel
theorem dL_law_886 : decode cL_law 886 = .ok (.if_icmp .eq 5, 3) := by decide +kernel
theorem dL_law_889 : decode cL_law 889 = .ok (.iconst 0, 1) := by decide +kernel
theorem dL_law_890 : decode cL_law 890 = .ok (.ireturn, 1) := by decide +kernel
theorem dL_law_891 : decode cL_law 891 = .ok (.iload 6, 2) := by decide +kernel
theorem dL_law_893 : decode cL_law 893 = .ok (.ifCond .ne 15, 3) := by decide +kernel
theorem dL_law_896 : decode cL_law 896 = .ok (.aload_n 3, 1) := by decide +kernel
theorem dL_law_897 : decode cL_law 897 = .ok (.iconst 0, 1) := by decide +kernel
theorem dL_law_898 : decode cL_law 898 = .ok (.laload, 1) := by decide +kernel
theorem dL_law_899 : decode cL_law 899 = .ok (.iload 7, 2) := by decide +kernel
theorem dL_law_901 : decode cL_law 901 = .ok (.i2l, 1) := by decide +kernel
theorem dL_law_902 : decode cL_law 902 = .ok (.lcmp, 1) := by decide +kernel
theorem dL_law_903 : decode cL_law 903 = .ok (.ifCond .eq 5, 3) := by decide +kernel
theorem dL_law_906 : decode cL_law 906 = .ok (.iconst 0, 1) := by decide +kernel
theorem dL_law_907 : decode cL_law 907 = .ok (.ireturn, 1) := by decide +kernel
theorem dL_law_908 : decode cL_law 908 = .ok (.goto 1109, 3) := by decide +kernel
theorem dL_law_911 : decode cL_law 911 = .ok (.aload_n 1, 1) := by decide +kernel
theorem dL_law_912 : decode cL_law 912 = .ok (.aload_n 0, 1) := by decide +kernel
theorem dL_law_913 : decode cL_law 913 = .ok (.iload 5, 2) := by decide +kernel
theorem dL_law_915 : decode cL_law 915 = .ok (.iconst 1, 1) := by decide +kernel
theorem dL_law_916 : decode cL_law 916 = .ok (.iadd, 1) := by decide +kernel
theorem dL_law_917 : decode cL_law 917 = .ok (.iaload, 1) := by decide +kernel
theorem dL_law_918 : decode cL_law 918 = .ok (.aload_n 3, 1) := by decide +kernel
theorem dL_law_919 : decode cL_law 919 = .ok (.invokestatic 150, 3) := by decide +kernel
theorem dL_law_922 : decode cL_law 922 = .ok (.istore 6, 2) := by decide +kernel
theorem dL_law_924 : decode cL_law 924 = .ok (.aload_n 2, 1) := by decide +kernel
theorem dL_law_925 : decode cL_law 925 = .ok (.aload_n 0, 1) := by decide +kernel
theorem dL_law_926 : decode cL_law 926 = .ok (.iload 5, 2) := by decide +kernel
theorem dL_law_928 : decode cL_law 928 = .ok (.iconst 1, 1) := by decide +kernel
theorem dL_law_929 : decode cL_law 929 = .ok (.iadd, 1) := by decide +kernel
theorem dL_law_930 : decode cL_law 930 = .ok (.iaload, 1) := by decide +kernel
theorem dL_law_931 : decode cL_law 931 = .ok (.invokevirtual 153, 3) := by decide +kernel
theorem dL_law_934 : decode cL_law 934 = .ok (.istore 7, 2) := by decide +kernel
theorem dL_law_936 : decode cL_law 936 = .ok (.aload_n 2, 1) := by decide +kernel
theorem dL_law_937 : decode cL_law 937 = .ok (.invokevirtual 120, 3) := by decide +kernel
theorem dL_law_940 : decode cL_law 940 = .ok (.iload 6, 2) := by decide +kernel
theorem dL_law_942 : decode cL_law 942 = .ok (.if_icmp .eq 5, 3) := by decide +kernel
theorem dL_law_945 : decode cL_law 945 = .ok (.iconst 0, 1) := by decide +kernel
theorem dL_law_946 : decode cL_law 946 = .ok (.ireturn, 1) := by decide +kernel
theorem dL_law_947 : decode cL_law 947 = .ok (.iload 6, 2) := by decide +kernel
theorem dL_law_949 : decode cL_law 949 = .ok (.ifCond .ne 15, 3) := by decide +kernel
theorem dL_law_952 : decode cL_law 952 = .ok (.aload_n 3, 1) := by decide +kernel
theorem dL_law_953 : decode cL_law 953 = .ok (.iconst 0, 1) := by decide +kernel
theorem dL_law_954 : decode cL_law 954 = .ok (.laload, 1) := by decide +kernel
theorem dL_law_955 : decode cL_law 955 = .ok (.iload 7, 2) := by decide +kernel
theorem dL_law_957 : decode cL_law 957 = .ok (.i2l, 1) := by decide +kernel
theorem dL_law_958 : decode cL_law 958 = .ok (.lcmp, 1) := by decide +kernel
theorem dL_law_959 : decode cL_law 959 = .ok (.ifCond .eq 5, 3) := by decide +kernel
theorem dL_law_962 : decode cL_law 962 = .ok (.iconst 0, 1) := by decide +kernel
theorem dL_law_963 : decode cL_law 963 = .ok (.ireturn, 1) := by decide +kernel
theorem dL_law_964 : decode cL_law 964 = .ok (.goto 1053, 3) := by decide +kernel
theorem dL_law_967 : decode cL_law 967 = .ok (.aload_n 1, 1) := by decide +kernel
theorem dL_law_968 : decode cL_law 968 = .ok (.aload_n 0, 1) := by decide +kernel
theorem dL_law_969 : decode cL_law 969 = .ok (.iload 5, 2) := by decide +kernel
theorem dL_law_971 : decode cL_law 971 = .ok (.iconst 1, 1) := by decide +kernel
theorem dL_law_972 : decode cL_law 972 = .ok (.iadd, 1) := by decide +kernel
theorem dL_law_973 : decode cL_law 973 = .ok (.iaload, 1) := by decide +kernel
theorem dL_law_974 : decode cL_law 974 = .ok (.aload_n 3, 1) := by decide +kernel
theorem dL_law_975 : decode cL_law 975 = .ok (.invokestatic 154, 3) := by decide +kernel
theorem dL_law_978 : decode cL_law 978 = .ok (.istore 6, 2) := by decide +kernel
theorem dL_law_980 : decode cL_law 980 = .ok (.aload_n 2, 1) := by decide +kernel
theorem dL_law_981 : decode cL_law 981 = .ok (.aload_n 0, 1) := by decide +kernel
theorem dL_law_982 : decode cL_law 982 = .ok (.iload 5, 2) := by decide +kernel
theorem dL_law_984 : decode cL_law 984 = .ok (.iconst 1, 1) := by decide +kernel
theorem dL_law_985 : decode cL_law 985 = .ok (.iadd, 1) := by decide +kernel
theorem dL_law_986 : decode cL_law 986 = .ok (.iaload, 1) := by decide +kernel
theorem dL_law_987 : decode cL_law 987 = .ok (.invokevirtual 156, 3) := by decide +kernel
theorem dL_law_990 : decode cL_law 990 = .ok (.istore 7, 2) := by decide +kernel
theorem dL_law_992 : decode cL_law 992 = .ok (.aload_n 2, 1) := by decide +kernel
theorem dL_law_993 : decode cL_law 993 = .ok (.invokevirtual 120, 3) := by decide +kernel
theorem dL_law_996 : decode cL_law 996 = .ok (.iload 6, 2) := by decide +kernel
theorem dL_law_998 : decode cL_law 998 = .ok (.if_icmp .eq 5, 3) := by decide +kernel
theorem dL_law_1001 : decode cL_law 1001 = .ok (.iconst 0, 1) := by decide +kernel
theorem dL_law_1002 : decode cL_law 1002 = .ok (.ireturn, 1) := by decide +kernel
theorem dL_law_1003 : decode cL_law 1003 = .ok (.iload 6, 2) := by decide +kernel
theorem dL_law_1005 : decode cL_law 1005 = .ok (.ifCond .ne 15, 3) := by decide +kernel
theorem dL_law_1008 : decode cL_law 1008 = .ok (.aload_n 3, 1) := by decide +kernel
theorem dL_law_1009 : decode cL_law 1009 = .ok (.iconst 0, 1) := by decide +kernel
theorem dL_law_1010 : decode cL_law 1010 = .ok (.laload, 1) := by decide +kernel
theorem dL_law_1011 : decode cL_law 1011 = .ok (.iload 7, 2) := by decide +kernel
theorem dL_law_1013 : decode cL_law 1013 = .ok (.i2l, 1) := by decide +kernel
theorem dL_law_1014 : decode cL_law 1014 = .ok (.lcmp, 1) := by decide +kernel
theorem dL_law_1015 : decode cL_law 1015 = .ok (.ifCond .eq 5, 3) := by decide +kernel
theorem dL_law_1018 : decode cL_law 1018 = .ok (.iconst 0, 1) := by decide +kernel
theorem dL_law_1019 : decode cL_law 1019 = .ok (.ireturn, 1) := by decide +kernel
theorem dL_law_1020 : decode cL_law 1020 = .ok (.goto 997, 3) := by decide +kernel
theorem dL_law_1023 : decode cL_law 1023 = .ok (.aload_n 1, 1) := by decide +kernel
theorem dL_law_1024 : decode cL_law 1024 = .ok (.invokevirtual 157, 3) := by decide +kernel
theorem dL_law_1027 : decode cL_law 1027 = .ok (.aload_n 2, 1) := by decide +kernel
theorem dL_law_1028 : decode cL_law 1028 = .ok (.invokevirtual 160, 3) := by decide +kernel
theorem dL_law_1031 : decode cL_law 1031 = .ok (.if_icmp .eq 986, 3) := by decide +kernel
theorem dL_law_1034 : decode cL_law 1034 = .ok (.iconst 0, 1) := by decide +kernel
theorem dL_law_1035 : decode cL_law 1035 = .ok (.ireturn, 1) := by decide +kernel
theorem dL_law_1036 : decode cL_law 1036 = .ok (.aload_n 1, 1) := by decide +kernel
theorem dL_law_1037 : decode cL_law 1037 = .ok (.aload_n 0, 1) := by decide +kernel
theorem dL_law_1038 : decode cL_law 1038 = .ok (.iload 5, 2) := by decide +kernel
theorem dL_law_1040 : decode cL_law 1040 = .ok (.iconst 1, 1) := by decide +kernel
theorem dL_law_1041 : decode cL_law 1041 = .ok (.iadd, 1) := by decide +kernel
theorem dL_law_1042 : decode cL_law 1042 = .ok (.iaload, 1) := by decide +kernel
theorem dL_law_1043 : decode cL_law 1043 = .ok (.aload_n 3, 1) := by decide +kernel
theorem dL_law_1044 : decode cL_law 1044 = .ok (.invokestatic 161, 3) := by decide +kernel
theorem dL_law_1047 : decode cL_law 1047 = .ok (.istore 6, 2) := by decide +kernel
theorem dL_law_1049 : decode cL_law 1049 = .ok (.aload_n 2, 1) := by decide +kernel
theorem dL_law_1050 : decode cL_law 1050 = .ok (.aload_n 0, 1) := by decide +kernel
theorem dL_law_1051 : decode cL_law 1051 = .ok (.iload 5, 2) := by decide +kernel
theorem dL_law_1053 : decode cL_law 1053 = .ok (.iconst 1, 1) := by decide +kernel
theorem dL_law_1054 : decode cL_law 1054 = .ok (.iadd, 1) := by decide +kernel
theorem dL_law_1055 : decode cL_law 1055 = .ok (.iaload, 1) := by decide +kernel
theorem dL_law_1056 : decode cL_law 1056 = .ok (.invokevirtual 163, 3) := by decide +kernel
theorem dL_law_1059 : decode cL_law 1059 = .ok (.istore 7, 2) := by decide +kernel
theorem dL_law_1061 : decode cL_law 1061 = .ok (.aload_n 2, 1) := by decide +kernel
theorem dL_law_1062 : decode cL_law 1062 = .ok (.invokevirtual 120, 3) := by decide +kernel
theorem dL_law_1065 : decode cL_law 1065 = .ok (.iload 6, 2) := by decide +kernel
theorem dL_law_1067 : decode cL_law 1067 = .ok (.if_icmp .eq 5, 3) := by decide +kernel
theorem dL_law_1070 : decode cL_law 1070 = .ok (.iconst 0, 1) := by decide +kernel
theorem dL_law_1071 : decode cL_law 1071 = .ok (.ireturn, 1) := by decide +kernel
theorem dL_law_1072 : decode cL_law 1072 = .ok (.iload 6, 2) := by decide +kernel
theorem dL_law_1074 : decode cL_law 1074 = .ok (.ifCond .ne 15, 3) := by decide +kernel
theorem dL_law_1077 : decode cL_law 1077 = .ok (.aload_n 3, 1) := by decide +kernel
theorem dL_law_1078 : decode cL_law 1078 = .ok (.iconst 0, 1) := by decide +kernel
theorem dL_law_1079 : decode cL_law 1079 = .ok (.laload, 1) := by decide +kernel
theorem dL_law_1080 : decode cL_law 1080 = .ok (.iload 7, 2) := by decide +kernel
theorem dL_law_1082 : decode cL_law 1082 = .ok (.i2l, 1) := by decide +kernel
theorem dL_law_1083 : decode cL_law 1083 = .ok (.lcmp, 1) := by decide +kernel
theorem dL_law_1084 : decode cL_law 1084 = .ok (.ifCond .eq 5, 3) := by decide +kernel
theorem dL_law_1087 : decode cL_law 1087 = .ok (.iconst 0, 1) := by decide +kernel
theorem dL_law_1088 : decode cL_law 1088 = .ok (.ireturn, 1) := by decide +kernel
theorem dL_law_1089 : decode cL_law 1089 = .ok (.goto 928, 3) := by decide +kernel
theorem dL_law_1092 : decode cL_law 1092 = .ok (.aload_n 1, 1) := by decide +kernel
theorem dL_law_1093 : decode cL_law 1093 = .ok (.aload_n 0, 1) := by decide +kernel
theorem dL_law_1094 : decode cL_law 1094 = .ok (.iload 5, 2) := by decide +kernel
theorem dL_law_1096 : decode cL_law 1096 = .ok (.iconst 1, 1) := by decide +kernel
theorem dL_law_1097 : decode cL_law 1097 = .ok (.iadd, 1) := by decide +kernel
theorem dL_law_1098 : decode cL_law 1098 = .ok (.iaload, 1) := by decide +kernel
theorem dL_law_1099 : decode cL_law 1099 = .ok (.aload_n 3, 1) := by decide +kernel
theorem dL_law_1100 : decode cL_law 1100 = .ok (.invokestatic 164, 3) := by decide +kernel
theorem dL_law_1103 : decode cL_law 1103 = .ok (.istore 6, 2) := by decide +kernel
theorem dL_law_1105 : decode cL_law 1105 = .ok (.aload_n 2, 1) := by decide +kernel
theorem dL_law_1106 : decode cL_law 1106 = .ok (.aload_n 0, 1) := by decide +kernel
theorem dL_law_1107 : decode cL_law 1107 = .ok (.iload 5, 2) := by decide +kernel
theorem dL_law_1109 : decode cL_law 1109 = .ok (.iconst 1, 1) := by decide +kernel
theorem dL_law_1110 : decode cL_law 1110 = .ok (.iadd, 1) := by decide +kernel
theorem dL_law_1111 : decode cL_law 1111 = .ok (.iaload, 1) := by decide +kernel
theorem dL_law_1112 : decode cL_law 1112 = .ok (.invokevirtual 166, 3) := by decide +kernel
theorem dL_law_1115 : decode cL_law 1115 = .ok (.istore 7, 2) := by decide +kernel
theorem dL_law_1117 : decode cL_law 1117 = .ok (.aload_n 2, 1) := by decide +kernel
theorem dL_law_1118 : decode cL_law 1118 = .ok (.invokevirtual 120, 3) := by decide +kernel
theorem dL_law_1121 : decode cL_law 1121 = .ok (.iload 6, 2) := by decide +kernel
theorem dL_law_1123 : decode cL_law 1123 = .ok (.if_icmp .eq 5, 3) := by decide +kernel
theorem dL_law_1126 : decode cL_law 1126 = .ok (.iconst 0, 1) := by decide +kernel
theorem dL_law_1127 : decode cL_law 1127 = .ok (.ireturn, 1) := by decide +kernel
theorem dL_law_1128 : decode cL_law 1128 = .ok (.iload 6, 2) := by decide +kernel
theorem dL_law_1130 : decode cL_law 1130 = .ok (.ifCond .ne 15, 3) := by decide +kernel
theorem dL_law_1133 : decode cL_law 1133 = .ok (.aload_n 3, 1) := by decide +kernel
theorem dL_law_1134 : decode cL_law 1134 = .ok (.iconst 0, 1) := by decide +kernel
theorem dL_law_1135 : decode cL_law 1135 = .ok (.laload, 1) := by decide +kernel
theorem dL_law_1136 : decode cL_law 1136 = .ok (.iload 7, 2) := by decide +kernel
theorem dL_law_1138 : decode cL_law 1138 = .ok (.i2l, 1) := by decide +kernel
theorem dL_law_1139 : decode cL_law 1139 = .ok (.lcmp, 1) := by decide +kernel
theorem dL_law_1140 : decode cL_law 1140 = .ok (.ifCond .eq 5, 3) := by decide +kernel
theorem dL_law_1143 : decode cL_law 1143 = .ok (.iconst 0, 1) := by decide +kernel
theorem dL_law_1144 : decode cL_law 1144 = .ok (.ireturn, 1) := by decide +kernel
theorem dL_law_1145 : decode cL_law 1145 = .ok (.goto 872, 3) := by decide +kernel
theorem dL_law_1148 : decode cL_law 1148 = .ok (.aload_n 1, 1) := by decide +kernel
theorem dL_law_1149 : decode cL_law 1149 = .ok (.aload_n 0, 1) := by decide +kernel
theorem dL_law_1150 : decode cL_law 1150 = .ok (.iload 5, 2) := by decide +kernel
theorem dL_law_1152 : decode cL_law 1152 = .ok (.iconst 1, 1) := by decide +kernel
theorem dL_law_1153 : decode cL_law 1153 = .ok (.iadd, 1) := by decide +kernel
theorem dL_law_1154 : decode cL_law 1154 = .ok (.iaload, 1) := by decide +kernel
theorem dL_law_1155 : decode cL_law 1155 = .ok (.aload_n 3, 1) := by decide +kernel
theorem dL_law_1156 : decode cL_law 1156 = .ok (.invokestatic 167, 3) := by decide +kernel
theorem dL_law_1159 : decode cL_law 1159 = .ok (.istore 6, 2) := by decide +kernel
theorem dL_law_1161 : decode cL_law 1161 = .ok (.aload_n 2, 1) := by decide +kernel
theorem dL_law_1162 : decode cL_law 1162 = .ok (.aload_n 0, 1) := by decide +kernel
theorem dL_law_1163 : decode cL_law 1163 = .ok (.iload 5, 2) := by decide +kernel
theorem dL_law_1165 : decode cL_law 1165 = .ok (.iconst 1, 1) := by decide +kernel
theorem dL_law_1166 : decode cL_law 1166 = .ok (.iadd, 1) := by decide +kernel
theorem dL_law_1167 : decode cL_law 1167 = .ok (.iaload, 1) := by decide +kernel
theorem dL_law_1168 : decode cL_law 1168 = .ok (.invokevirtual 169, 3) := by decide +kernel
theorem dL_law_1171 : decode cL_law 1171 = .ok (.istore 7, 2) := by decide +kernel
theorem dL_law_1173 : decode cL_law 1173 = .ok (.aload_n 2, 1) := by decide +kernel
theorem dL_law_1174 : decode cL_law 1174 = .ok (.invokevirtual 120, 3) := by decide +kernel
theorem dL_law_1177 : decode cL_law 1177 = .ok (.iload 6, 2) := by decide +kernel
theorem dL_law_1179 : decode cL_law 1179 = .ok (.if_icmp .eq 5, 3) := by decide +kernel
theorem dL_law_1182 : decode cL_law 1182 = .ok (.iconst 0, 1) := by decide +kernel
theorem dL_law_1183 : decode cL_law 1183 = .ok (.ireturn, 1) := by decide +kernel
theorem dL_law_1184 : decode cL_law 1184 = .ok (.iload 6, 2) := by decide +kernel
theorem dL_law_1186 : decode cL_law 1186 = .ok (.ifCond .ne 15, 3) := by decide +kernel
theorem dL_law_1189 : decode cL_law 1189 = .ok (.aload_n 3, 1) := by decide +kernel
theorem dL_law_1190 : decode cL_law 1190 = .ok (.iconst 0, 1) := by decide +kernel
theorem dL_law_1191 : decode cL_law 1191 = .ok (.laload, 1) := by decide +kernel
theorem dL_law_1192 : decode cL_law 1192 = .ok (.iload 7, 2) := by decide +kernel
theorem dL_law_1194 : decode cL_law 1194 = .ok (.i2l, 1) := by decide +kernel
theorem dL_law_1195 : decode cL_law 1195 = .ok (.lcmp, 1) := by decide +kernel
theorem dL_law_1196 : decode cL_law 1196 = .ok (.ifCond .eq 5, 3) := by decide +kernel
theorem dL_law_1199 : decode cL_law 1199 = .ok (.iconst 0, 1) := by decide +kernel
theorem dL_law_1200 : decode cL_law 1200 = .ok (.ireturn, 1) := by decide +kernel
theorem dL_law_1201 : decode cL_law 1201 = .ok (.goto 816, 3) := by decide +kernel
theorem dL_law_1204 : decode cL_law 1204 = .ok (.aload_n 1, 1) := by decide +kernel
theorem dL_law_1205 : decode cL_law 1205 = .ok (.aload_n 0, 1) := by decide +kernel
theorem dL_law_1206 : decode cL_law 1206 = .ok (.iload 5, 2) := by decide +kernel
theorem dL_law_1208 : decode cL_law 1208 = .ok (.iconst 1, 1) := by decide +kernel
theorem dL_law_1209 : decode cL_law 1209 = .ok (.iadd, 1) := by decide +kernel
theorem dL_law_1210 : decode cL_law 1210 = .ok (.iaload, 1) := by decide +kernel
theorem dL_law_1211 : decode cL_law 1211 = .ok (.aload_n 3, 1) := by decide +kernel
theorem dL_law_1212 : decode cL_law 1212 = .ok (.invokestatic 170, 3) := by decide +kernel
theorem dL_law_1215 : decode cL_law 1215 = .ok (.istore 6, 2) := by decide +kernel
theorem dL_law_1217 : decode cL_law 1217 = .ok (.aload_n 2, 1) := by decide +kernel
theorem dL_law_1218 : decode cL_law 1218 = .ok (.aload_n 0, 1) := by decide +kernel
theorem dL_law_1219 : decode cL_law 1219 = .ok (.iload 5, 2) := by decide +kernel
theorem dL_law_1221 : decode cL_law 1221 = .ok (.iconst 1, 1) := by decide +kernel
theorem dL_law_1222 : decode cL_law 1222 = .ok (.iadd, 1) := by decide +kernel
theorem dL_law_1223 : decode cL_law 1223 = .ok (.iaload, 1) := by decide +kernel
theorem dL_law_1224 : decode cL_law 1224 = .ok (.invokevirtual 172, 3) := by decide +kernel
theorem dL_law_1227 : decode cL_law 1227 = .ok (.istore 7, 2) := by decide +kernel
theorem dL_law_1229 : decode cL_law 1229 = .ok (.aload_n 2, 1) := by decide +kernel
theorem dL_law_1230 : decode cL_law 1230 = .ok (.invokevirtual 120, 3) := by decide +kernel
theorem dL_law_1233 : decode cL_law 1233 = .ok (.iload 6, 2) := by decide +kernel
theorem dL_law_1235 : decode cL_law 1235 = .ok (.if_icmp .eq 5, 3) := by decide +kernel
theorem dL_law_1238 : decode cL_law 1238 = .ok (.iconst 0, 1) := by decide +kernel
theorem dL_law_1239 : decode cL_law 1239 = .ok (.ireturn, 1) := by decide +kernel
theorem dL_law_1240 : decode cL_law 1240 = .ok (.iload 6, 2) := by decide +kernel
theorem dL_law_1242 : decode cL_law 1242 = .ok (.ifCond .ne 15, 3) := by decide +kernel
theorem dL_law_1245 : decode cL_law 1245 = .ok (.aload_n 3, 1) := by decide +kernel
theorem dL_law_1246 : decode cL_law 1246 = .ok (.iconst 0, 1) := by decide +kernel
theorem dL_law_1247 : decode cL_law 1247 = .ok (.laload, 1) := by decide +kernel
theorem dL_law_1248 : decode cL_law 1248 = .ok (.iload 7, 2) := by decide +kernel
theorem dL_law_1250 : decode cL_law 1250 = .ok (.i2l, 1) := by decide +kernel
theorem dL_law_1251 : decode cL_law 1251 = .ok (.lcmp, 1) := by decide +kernel
theorem dL_law_1252 : decode cL_law 1252 = .ok (.ifCond .eq 5, 3) := by decide +kernel
theorem dL_law_1255 : decode cL_law 1255 = .ok (.iconst 0, 1) := by decide +kernel
theorem dL_law_1256 : decode cL_law 1256 = .ok (.ireturn, 1) := by decide +kernel
theorem dL_law_1257 : decode cL_law 1257 = .ok (.goto 760, 3) := by decide +kernel
theorem dL_law_1260 : decode cL_law 1260 = .ok (.aload_n 1, 1) := by decide +kernel
theorem dL_law_1261 : decode cL_law 1261 = .ok (.invokevirtual 173, 3) := by decide +kernel
theorem dL_law_1264 : decode cL_law 1264 = .ok (.aload_n 2, 1) := by decide +kernel
theorem dL_law_1265 : decode cL_law 1265 = .ok (.invokevirtual 176, 3) := by decide +kernel
theorem dL_law_1268 : decode cL_law 1268 = .ok (.if_icmp .eq 749, 3) := by decide +kernel
theorem dL_law_1271 : decode cL_law 1271 = .ok (.iconst 0, 1) := by decide +kernel
theorem dL_law_1272 : decode cL_law 1272 = .ok (.ireturn, 1) := by decide +kernel
theorem dL_law_1273 : decode cL_law 1273 = .ok (.aload_n 1, 1) := by decide +kernel
theorem dL_law_1274 : decode cL_law 1274 = .ok (.invokevirtual 177, 3) := by decide +kernel
theorem dL_law_1277 : decode cL_law 1277 = .ok (.aload_n 2, 1) := by decide +kernel
theorem dL_law_1278 : decode cL_law 1278 = .ok (.invokevirtual 180, 3) := by decide +kernel
theorem dL_law_1281 : decode cL_law 1281 = .ok (.if_icmp .eq 736, 3) := by decide +kernel
theorem dL_law_1284 : decode cL_law 1284 = .ok (.iconst 0, 1) := by decide +kernel
theorem dL_law_1285 : decode cL_law 1285 = .ok (.ireturn, 1) := by decide +kernel
theorem dL_law_1286 : decode cL_law 1286 = .ok (.aload_n 1, 1) := by decide +kernel
theorem dL_law_1287 : decode cL_law 1287 = .ok (.invokevirtual 181, 3) := by decide +kernel
theorem dL_law_1290 : decode cL_law 1290 = .ok (.aload_n 2, 1) := by decide +kernel
theorem dL_law_1291 : decode cL_law 1291 = .ok (.invokevirtual 184, 3) := by decide +kernel
theorem dL_law_1294 : decode cL_law 1294 = .ok (.if_icmp .eq 723, 3) := by decide +kernel
theorem dL_law_1297 : decode cL_law 1297 = .ok (.iconst 0, 1) := by decide +kernel
theorem dL_law_1298 : decode cL_law 1298 = .ok (.ireturn, 1) := by decide +kernel
theorem dL_law_1299 : decode cL_law 1299 = .ok (.aload_n 1, 1) := by decide +kernel
theorem dL_law_1300 : decode cL_law 1300 = .ok (.aload_n 0, 1) := by decide +kernel
theorem dL_law_1301 : decode cL_law 1301 = .ok (.iload 5, 2) := by decide +kernel
theorem dL_law_1303 : decode cL_law 1303 = .ok (.iconst 1, 1) := by decide +kernel
theorem dL_law_1304 : decode cL_law 1304 = .ok (.iadd, 1) := by decide +kernel
theorem dL_law_1305 : decode cL_law 1305 = .ok (.iaload, 1) := by decide +kernel
theorem dL_law_1306 : decode cL_law 1306 = .ok (.aload_n 3, 1) := by decide +kernel
theorem dL_law_1307 : decode cL_law 1307 = .ok (.invokestatic 185, 3) := by decide +kernel
theorem dL_law_1310 : decode cL_law 1310 = .ok (.istore 6, 2) := by decide +kernel
theorem dL_law_1312 : decode cL_law 1312 = .ok (.aload_n 2, 1) := by decide +kernel
theorem dL_law_1313 : decode cL_law 1313 = .ok (.aload_n 0, 1) := by decide +kernel
theorem dL_law_1314 : decode cL_law 1314 = .ok (.iload 5, 2) := by decide +kernel
theorem dL_law_1316 : decode cL_law 1316 = .ok (.iconst 1, 1) := by decide +kernel
theorem dL_law_1317 : decode cL_law 1317 = .ok (.iadd, 1) := by decide +kernel
theorem dL_law_1318 : decode cL_law 1318 = .ok (.iaload, 1) := by decide +kernel
theorem dL_law_1319 : decode cL_law 1319 = .ok (.invokevirtual 187, 3) := by decide +kernel
theorem dL_law_1322 : decode cL_law 1322 = .ok (.istore 7, 2) := by decide +kernel
theorem dL_law_1324 : decode cL_law 1324 = .ok (.aload_n 2, 1) := by decide +kernel
theorem dL_law_1325 : decode cL_law 1325 = .ok (.invokevirtual 120, 3) := by decide +kernel
theorem dL_law_1328 : decode cL_law 1328 = .ok (.iload 6, 2) := by decide +kernel
theorem dL_law_1330 : decode cL_law 1330 = .ok (.if_icmp .eq 5, 3) := by decide +kernel
theorem dL_law_1333 : decode cL_law 1333 = .ok (.iconst 0, 1) := by decide +kernel
theorem dL_law_1334 : decode cL_law 1334 = .ok (.ireturn, 1) := by decide +kernel
theorem dL_law_1335 : decode cL_law 1335 = .ok (.iload 6, 2) := by decide +kernel
theorem dL_law_1337 : decode cL_law 1337 = .ok (.ifCond .ne 15, 3) := by decide +kernel
theorem dL_law_1340 : decode cL_law 1340 = .ok (.aload_n 3, 1) := by decide +kernel
theorem dL_law_1341 : decode cL_law 1341 = .ok (.iconst 0, 1) := by decide +kernel
theorem dL_law_1342 : decode cL_law 1342 = .ok (.laload, 1) := by decide +kernel
theorem dL_law_1343 : decode cL_law 1343 = .ok (.iload 7, 2) := by decide +kernel
theorem dL_law_1345 : decode cL_law 1345 = .ok (.i2l, 1) := by decide +kernel
theorem dL_law_1346 : decode cL_law 1346 = .ok (.lcmp, 1) := by decide +kernel
theorem dL_law_1347 : decode cL_law 1347 = .ok (.ifCond .eq 5, 3) := by decide +kernel
theorem dL_law_1350 : decode cL_law 1350 = .ok (.iconst 0, 1) := by decide +kernel
theorem dL_law_1351 : decode cL_law 1351 = .ok (.ireturn, 1) := by decide +kernel
theorem dL_law_1352 : decode cL_law 1352 = .ok (.goto 665, 3) := by decide +kernel
theorem dL_law_1355 : decode cL_law 1355 = .ok (.aload_n 1, 1) := by decide +kernel
theorem dL_law_1356 : decode cL_law 1356 = .ok (.aload_n 0, 1) := by decide +kernel
theorem dL_law_1357 : decode cL_law 1357 = .ok (.iload 5, 2) := by decide +kernel
theorem dL_law_1359 : decode cL_law 1359 = .ok (.iconst 1, 1) := by decide +kernel
theorem dL_law_1360 : decode cL_law 1360 = .ok (.iadd, 1) := by decide +kernel
theorem dL_law_1361 : decode cL_law 1361 = .ok (.iaload, 1) := by decide +kernel
theorem dL_law_1362 : decode cL_law 1362 = .ok (.aload_n 0, 1) := by decide +kernel
theorem dL_law_1363 : decode cL_law 1363 = .ok (.iload 5, 2) := by decide +kernel
theorem dL_law_1365 : decode cL_law 1365 = .ok (.iconst 2, 1) := by decide +kernel
theorem dL_law_1366 : decode cL_law 1366 = .ok (.iadd, 1) := by decide +kernel
theorem dL_law_1367 : decode cL_law 1367 = .ok (.iaload, 1) := by decide +kernel
theorem dL_law_1368 : decode cL_law 1368 = .ok (.aload_n 3, 1) := by decide +kernel
theorem dL_law_1369 : decode cL_law 1369 = .ok (.invokestatic 188, 3) := by decide +kernel
theorem dL_law_1372 : decode cL_law 1372 = .ok (.istore 6, 2) := by decide +kernel
theorem dL_law_1374 : decode cL_law 1374 = .ok (.aload_n 2, 1) := by decide +kernel
theorem dL_law_1375 : decode cL_law 1375 = .ok (.aload_n 0, 1) := by decide +kernel
theorem dL_law_1376 : decode cL_law 1376 = .ok (.iload 5, 2) := by decide +kernel
theorem dL_law_1378 : decode cL_law 1378 = .ok (.iconst 1, 1) := by decide +kernel
theorem dL_law_1379 : decode cL_law 1379 = .ok (.iadd, 1) := by decide +kernel
theorem dL_law_1380 : decode cL_law 1380 = .ok (.iaload, 1) := by decide +kernel
theorem dL_law_1381 : decode cL_law 1381 = .ok (.aload_n 0, 1) := by decide +kernel
theorem dL_law_1382 : decode cL_law 1382 = .ok (.iload 5, 2) := by decide +kernel
theorem dL_law_1384 : decode cL_law 1384 = .ok (.iconst 2, 1) := by decide +kernel
theorem dL_law_1385 : decode cL_law 1385 = .ok (.iadd, 1) := by decide +kernel
theorem dL_law_1386 : decode cL_law 1386 = .ok (.iaload, 1) := by decide +kernel
theorem dL_law_1387 : decode cL_law 1387 = .ok (.invokevirtual 190, 3) := by decide +kernel
theorem dL_law_1390 : decode cL_law 1390 = .ok (.istore 7, 2) := by decide +kernel
theorem dL_law_1392 : decode cL_law 1392 = .ok (.aload_n 2, 1) := by decide +kernel
theorem dL_law_1393 : decode cL_law 1393 = .ok (.invokevirtual 120, 3) := by decide +kernel
theorem dL_law_1396 : decode cL_law 1396 = .ok (.iload 6, 2) := by decide +kernel
theorem dL_law_1398 : decode cL_law 1398 = .ok (.if_icmp .eq 5, 3) := by decide +kernel
theorem dL_law_1401 : decode cL_law 1401 = .ok (.iconst 0, 1) := by decide +kernel
theorem dL_law_1402 : decode cL_law 1402 = .ok (.ireturn, 1) := by decide +kernel
theorem dL_law_1403 : decode cL_law 1403 = .ok (.iload 6, 2) := by decide +kernel
theorem dL_law_1405 : decode cL_law 1405 = .ok (.ifCond .ne 15, 3) := by decide +kernel
theorem dL_law_1408 : decode cL_law 1408 = .ok (.aload_n 3, 1) := by decide +kernel
theorem dL_law_1409 : decode cL_law 1409 = .ok (.iconst 0, 1) := by decide +kernel
theorem dL_law_1410 : decode cL_law 1410 = .ok (.laload, 1) := by decide +kernel
theorem dL_law_1411 : decode cL_law 1411 = .ok (.iload 7, 2) := by decide +kernel
theorem dL_law_1413 : decode cL_law 1413 = .ok (.i2l, 1) := by decide +kernel
theorem dL_law_1414 : decode cL_law 1414 = .ok (.lcmp, 1) := by decide +kernel
theorem dL_law_1415 : decode cL_law 1415 = .ok (.ifCond .eq 5, 3) := by decide +kernel
theorem dL_law_1418 : decode cL_law 1418 = .ok (.iconst 0, 1) := by decide +kernel
theorem dL_law_1419 : decode cL_law 1419 = .ok (.ireturn, 1) := by decide +kernel
theorem dL_law_1420 : decode cL_law 1420 = .ok (.goto 597, 3) := by decide +kernel
theorem dL_law_1423 : decode cL_law 1423 = .ok (.aload_n 1, 1) := by decide +kernel
theorem dL_law_1424 : decode cL_law 1424 = .ok (.aload_n 0, 1) := by decide +kernel
theorem dL_law_1425 : decode cL_law 1425 = .ok (.iload 5, 2) := by decide +kernel
theorem dL_law_1427 : decode cL_law 1427 = .ok (.iconst 1, 1) := by decide +kernel
theorem dL_law_1428 : decode cL_law 1428 = .ok (.iadd, 1) := by decide +kernel
theorem dL_law_1429 : decode cL_law 1429 = .ok (.iaload, 1) := by decide +kernel
theorem dL_law_1430 : decode cL_law 1430 = .ok (.aload_n 0, 1) := by decide +kernel
theorem dL_law_1431 : decode cL_law 1431 = .ok (.iload 5, 2) := by decide +kernel
theorem dL_law_1433 : decode cL_law 1433 = .ok (.iconst 2, 1) := by decide +kernel
theorem dL_law_1434 : decode cL_law 1434 = .ok (.iadd, 1) := by decide +kernel
theorem dL_law_1435 : decode cL_law 1435 = .ok (.iaload, 1) := by decide +kernel
theorem dL_law_1436 : decode cL_law 1436 = .ok (.aload_n 3, 1) := by decide +kernel
theorem dL_law_1437 : decode cL_law 1437 = .ok (.invokestatic 191, 3) := by decide +kernel
theorem dL_law_1440 : decode cL_law 1440 = .ok (.istore 6, 2) := by decide +kernel
theorem dL_law_1442 : decode cL_law 1442 = .ok (.aload_n 2, 1) := by decide +kernel
theorem dL_law_1443 : decode cL_law 1443 = .ok (.aload_n 0, 1) := by decide +kernel
theorem dL_law_1444 : decode cL_law 1444 = .ok (.iload 5, 2) := by decide +kernel
theorem dL_law_1446 : decode cL_law 1446 = .ok (.iconst 1, 1) := by decide +kernel
theorem dL_law_1447 : decode cL_law 1447 = .ok (.iadd, 1) := by decide +kernel
theorem dL_law_1448 : decode cL_law 1448 = .ok (.iaload, 1) := by decide +kernel
theorem dL_law_1449 : decode cL_law 1449 = .ok (.aload_n 0, 1) := by decide +kernel
theorem dL_law_1450 : decode cL_law 1450 = .ok (.iload 5, 2) := by decide +kernel
theorem dL_law_1452 : decode cL_law 1452 = .ok (.iconst 2, 1) := by decide +kernel
theorem dL_law_1453 : decode cL_law 1453 = .ok (.iadd, 1) := by decide +kernel
theorem dL_law_1454 : decode cL_law 1454 = .ok (.iaload, 1) := by decide +kernel
theorem dL_law_1455 : decode cL_law 1455 = .ok (.invokevirtual 193, 3) := by decide +kernel
theorem dL_law_1458 : decode cL_law 1458 = .ok (.istore 7, 2) := by decide +kernel
theorem dL_law_1460 : decode cL_law 1460 = .ok (.aload_n 2, 1) := by decide +kernel
theorem dL_law_1461 : decode cL_law 1461 = .ok (.invokevirtual 120, 3) := by decide +kernel
theorem dL_law_1464 : decode cL_law 1464 = .ok (.iload 6, 2) := by decide +kernel
theorem dL_law_1466 : decode cL_law 1466 = .ok (.if_icmp .eq 5, 3) := by decide +kernel
theorem dL_law_1469 : decode cL_law 1469 = .ok (.iconst 0, 1) := by decide +kernel
theorem dL_law_1470 : decode cL_law 1470 = .ok (.ireturn, 1) := by decide +kernel
theorem dL_law_1471 : decode cL_law 1471 = .ok (.iload 6, 2) := by decide +kernel
theorem dL_law_1473 : decode cL_law 1473 = .ok (.ifCond .ne 15, 3) := by decide +kernel
theorem dL_law_1476 : decode cL_law 1476 = .ok (.aload_n 3, 1) := by decide +kernel
theorem dL_law_1477 : decode cL_law 1477 = .ok (.iconst 0, 1) := by decide +kernel
theorem dL_law_1478 : decode cL_law 1478 = .ok (.laload, 1) := by decide +kernel
theorem dL_law_1479 : decode cL_law 1479 = .ok (.iload 7, 2) := by decide +kernel
theorem dL_law_1481 : decode cL_law 1481 = .ok (.i2l, 1) := by decide +kernel
theorem dL_law_1482 : decode cL_law 1482 = .ok (.lcmp, 1) := by decide +kernel
theorem dL_law_1483 : decode cL_law 1483 = .ok (.ifCond .eq 5, 3) := by decide +kernel
theorem dL_law_1486 : decode cL_law 1486 = .ok (.iconst 0, 1) := by decide +kernel
theorem dL_law_1487 : decode cL_law 1487 = .ok (.ireturn, 1) := by decide +kernel
theorem dL_law_1488 : decode cL_law 1488 = .ok (.goto 529, 3) := by decide +kernel
theorem dL_law_1491 : decode cL_law 1491 = .ok (.aload_n 1, 1) := by decide +kernel
theorem dL_law_1492 : decode cL_law 1492 = .ok (.aload_n 0, 1) := by decide +kernel
theorem dL_law_1493 : decode cL_law 1493 = .ok (.iload 5, 2) := by decide +kernel
theorem dL_law_1495 : decode cL_law 1495 = .ok (.iconst 1, 1) := by decide +kernel
theorem dL_law_1496 : decode cL_law 1496 = .ok (.iadd, 1) := by decide +kernel
theorem dL_law_1497 : decode cL_law 1497 = .ok (.iaload, 1) := by decide +kernel
theorem dL_law_1498 : decode cL_law 1498 = .ok (.aload_n 0, 1) := by decide +kernel
theorem dL_law_1499 : decode cL_law 1499 = .ok (.iload 5, 2) := by decide +kernel
theorem dL_law_1501 : decode cL_law 1501 = .ok (.iconst 2, 1) := by decide +kernel
theorem dL_law_1502 : decode cL_law 1502 = .ok (.iadd, 1) := by decide +kernel
theorem dL_law_1503 : decode cL_law 1503 = .ok (.iaload, 1) := by decide +kernel
theorem dL_law_1504 : decode cL_law 1504 = .ok (.aload_n 3, 1) := by decide +kernel
theorem dL_law_1505 : decode cL_law 1505 = .ok (.invokestatic 194, 3) := by decide +kernel
theorem dL_law_1508 : decode cL_law 1508 = .ok (.istore 6, 2) := by decide +kernel
theorem dL_law_1510 : decode cL_law 1510 = .ok (.aload_n 2, 1) := by decide +kernel
theorem dL_law_1511 : decode cL_law 1511 = .ok (.aload_n 0, 1) := by decide +kernel
theorem dL_law_1512 : decode cL_law 1512 = .ok (.iload 5, 2) := by decide +kernel
theorem dL_law_1514 : decode cL_law 1514 = .ok (.iconst 1, 1) := by decide +kernel
theorem dL_law_1515 : decode cL_law 1515 = .ok (.iadd, 1) := by decide +kernel
theorem dL_law_1516 : decode cL_law 1516 = .ok (.iaload, 1) := by decide +kernel
theorem dL_law_1517 : decode cL_law 1517 = .ok (.aload_n 0, 1) := by decide +kernel
theorem dL_law_1518 : decode cL_law 1518 = .ok (.iload 5, 2) := by decide +kernel
theorem dL_law_1520 : decode cL_law 1520 = .ok (.iconst 2, 1) := by decide +kernel
theorem dL_law_1521 : decode cL_law 1521 = .ok (.iadd, 1) := by decide +kernel
theorem dL_law_1522 : decode cL_law 1522 = .ok (.iaload, 1) := by decide +kernel
theorem dL_law_1523 : decode cL_law 1523 = .ok (.invokevirtual 196, 3) := by decide +kernel
theorem dL_law_1526 : decode cL_law 1526 = .ok (.istore 7, 2) := by decide +kernel
theorem dL_law_1528 : decode cL_law 1528 = .ok (.aload_n 2, 1) := by decide +kernel
theorem dL_law_1529 : decode cL_law 1529 = .ok (.invokevirtual 120, 3) := by decide +kernel
theorem dL_law_1532 : decode cL_law 1532 = .ok (.iload 6, 2) := by decide +kernel
theorem dL_law_1534 : decode cL_law 1534 = .ok (.if_icmp .eq 5, 3) := by decide +kernel
theorem dL_law_1537 : decode cL_law 1537 = .ok (.iconst 0, 1) := by decide +kernel
theorem dL_law_1538 : decode cL_law 1538 = .ok (.ireturn, 1) := by decide +kernel
theorem dL_law_1539 : decode cL_law 1539 = .ok (.iload 6, 2) := by decide +kernel
theorem dL_law_1541 : decode cL_law 1541 = .ok (.ifCond .ne 15, 3) := by decide +kernel
theorem dL_law_1544 : decode cL_law 1544 = .ok (.aload_n 3, 1) := by decide +kernel
theorem dL_law_1545 : decode cL_law 1545 = .ok (.iconst 0, 1) := by decide +kernel
theorem dL_law_1546 : decode cL_law 1546 = .ok (.laload, 1) := by decide +kernel
theorem dL_law_1547 : decode cL_law 1547 = .ok (.iload 7, 2) := by decide +kernel
theorem dL_law_1549 : decode cL_law 1549 = .ok (.i2l, 1) := by decide +kernel
theorem dL_law_1550 : decode cL_law 1550 = .ok (.lcmp, 1) := by decide +kernel
theorem dL_law_1551 : decode cL_law 1551 = .ok (.ifCond .eq 5, 3) := by decide +kernel
theorem dL_law_1554 : decode cL_law 1554 = .ok (.iconst 0, 1) := by decide +kernel
theorem dL_law_1555 : decode cL_law 1555 = .ok (.ireturn, 1) := by decide +kernel
theorem dL_law_1556 : decode cL_law 1556 = .ok (.goto 461, 3) := by decide +kernel
theorem dL_law_1559 : decode cL_law 1559 = .ok (.aload_n 1, 1) := by decide +kernel
theorem dL_law_1560 : decode cL_law 1560 = .ok (.aload_n 0, 1) := by decide +kernel
theorem dL_law_1561 : decode cL_law 1561 = .ok (.iload 5, 2) := by decide +kernel
theorem dL_law_1563 : decode cL_law 1563 = .ok (.iconst 1, 1) := by decide +kernel
theorem dL_law_1564 : decode cL_law 1564 = .ok (.iadd, 1) := by decide +kernel
theorem dL_law_1565 : decode cL_law 1565 = .ok (.iaload, 1) := by decide +kernel
theorem dL_law_1566 : decode cL_law 1566 = .ok (.aload_n 3, 1) := by decide +kernel
theorem dL_law_1567 : decode cL_law 1567 = .ok (.invokestatic 197, 3) := by decide +kernel
theorem dL_law_1570 : decode cL_law 1570 = .ok (.istore 6, 2) := by decide +kernel
theorem dL_law_1572 : decode cL_law 1572 = .ok (.aload_n 2, 1) := by decide +kernel
theorem dL_law_1573 : decode cL_law 1573 = .ok (.aload_n 0, 1) := by decide +kernel
theorem dL_law_1574 : decode cL_law 1574 = .ok (.iload 5, 2) := by decide +kernel
theorem dL_law_1576 : decode cL_law 1576 = .ok (.iconst 1, 1) := by decide +kernel
theorem dL_law_1577 : decode cL_law 1577 = .ok (.iadd, 1) := by decide +kernel
theorem dL_law_1578 : decode cL_law 1578 = .ok (.iaload, 1) := by decide +kernel
theorem dL_law_1579 : decode cL_law 1579 = .ok (.invokevirtual 199, 3) := by decide +kernel
theorem dL_law_1582 : decode cL_law 1582 = .ok (.istore 7, 2) := by decide +kernel
theorem dL_law_1584 : decode cL_law 1584 = .ok (.aload_n 2, 1) := by decide +kernel
theorem dL_law_1585 : decode cL_law 1585 = .ok (.invokevirtual 120, 3) := by decide +kernel
theorem dL_law_1588 : decode cL_law 1588 = .ok (.iload 6, 2) := by decide +kernel
theorem dL_law_1590 : decode cL_law 1590 = .ok (.if_icmp .eq 5, 3) := by decide +kernel
theorem dL_law_1593 : decode cL_law 1593 = .ok (.iconst 0, 1) := by decide +kernel
theorem dL_law_1594 : decode cL_law 1594 = .ok (.ireturn, 1) := by decide +kernel
theorem dL_law_1595 : decode cL_law 1595 = .ok (.iload 6, 2) := by decide +kernel
theorem dL_law_1597 : decode cL_law 1597 = .ok (.ifCond .ne 22, 3) := by decide +kernel
theorem dL_law_1600 : decode cL_law 1600 = .ok (.aload_n 3, 1) := by decide +kernel
theorem dL_law_1601 : decode cL_law 1601 = .ok (.iconst 0, 1) := by decide +kernel
theorem dL_law_1602 : decode cL_law 1602 = .ok (.laload, 1) := by decide +kernel
theorem dL_law_1603 : decode cL_law 1603 = .ok (.iload 7, 2) := by decide +kernel
theorem dL_law_1605 : decode cL_law 1605 = .ok (.ifCond .eq 7, 3) := by decide +kernel
theorem dL_law_1608 : decode cL_law 1608 = .ok (.lconst 1, 1) := by decide +kernel
theorem dL_law_1609 : decode cL_law 1609 = .ok (.goto 4, 3) := by decide +kernel
theorem dL_law_1612 : decode cL_law 1612 = .ok (.lconst 0, 1) := by decide +kernel
theorem dL_law_1613 : decode cL_law 1613 = .ok (.lcmp, 1) := by decide +kernel
theorem dL_law_1614 : decode cL_law 1614 = .ok (.ifCond .eq 5, 3) := by decide +kernel
theorem dL_law_1617 : decode cL_law 1617 = .ok (.iconst 0, 1) := by decide +kernel
theorem dL_law_1618 : decode cL_law 1618 = .ok (.ireturn, 1) := by decide +kernel
theorem dL_law_1619 : decode cL_law 1619 = .ok (.goto 398, 3) := by decide +kernel
theorem dL_law_1622 : decode cL_law 1622 = .ok (.aload_n 1, 1) := by decide +kernel
theorem dL_law_1623 : decode cL_law 1623 = .ok (.aload_n 0, 1) := by decide +kernel
theorem dL_law_1624 : decode cL_law 1624 = .ok (.iload 5, 2) := by decide +kernel
theorem dL_law_1626 : decode cL_law 1626 = .ok (.iconst 1, 1) := by decide +kernel
theorem dL_law_1627 : decode cL_law 1627 = .ok (.iadd, 1) := by decide +kernel
theorem dL_law_1628 : decode cL_law 1628 = .ok (.iaload, 1) := by decide +kernel
theorem dL_law_1629 : decode cL_law 1629 = .ok (.aload_n 3, 1) := by decide +kernel
theorem dL_law_1630 : decode cL_law 1630 = .ok (.invokestatic 200, 3) := by decide +kernel
theorem dL_law_1633 : decode cL_law 1633 = .ok (.istore 6, 2) := by decide +kernel
theorem dL_law_1635 : decode cL_law 1635 = .ok (.aload_n 2, 1) := by decide +kernel
theorem dL_law_1636 : decode cL_law 1636 = .ok (.aload_n 0, 1) := by decide +kernel
theorem dL_law_1637 : decode cL_law 1637 = .ok (.iload 5, 2) := by decide +kernel
theorem dL_law_1639 : decode cL_law 1639 = .ok (.iconst 1, 1) := by decide +kernel
theorem dL_law_1640 : decode cL_law 1640 = .ok (.iadd, 1) := by decide +kernel
theorem dL_law_1641 : decode cL_law 1641 = .ok (.iaload, 1) := by decide +kernel
theorem dL_law_1642 : decode cL_law 1642 = .ok (.invokevirtual 202, 3) := by decide +kernel
theorem dL_law_1645 : decode cL_law 1645 = .ok (.istore 7, 2) := by decide +kernel
theorem dL_law_1647 : decode cL_law 1647 = .ok (.aload_n 2, 1) := by decide +kernel
theorem dL_law_1648 : decode cL_law 1648 = .ok (.invokevirtual 120, 3) := by decide +kernel
theorem dL_law_1651 : decode cL_law 1651 = .ok (.iload 6, 2) := by decide +kernel
theorem dL_law_1653 : decode cL_law 1653 = .ok (.if_icmp .eq 5, 3) := by decide +kernel
theorem dL_law_1656 : decode cL_law 1656 = .ok (.iconst 0, 1) := by decide +kernel
theorem dL_law_1657 : decode cL_law 1657 = .ok (.ireturn, 1) := by decide +kernel
theorem dL_law_1658 : decode cL_law 1658 = .ok (.iload 6, 2) := by decide +kernel
theorem dL_law_1660 : decode cL_law 1660 = .ok (.ifCond .ne 15, 3) := by decide +kernel
theorem dL_law_1663 : decode cL_law 1663 = .ok (.aload_n 3, 1) := by decide +kernel
theorem dL_law_1664 : decode cL_law 1664 = .ok (.iconst 0, 1) := by decide +kernel
theorem dL_law_1665 : decode cL_law 1665 = .ok (.laload, 1) := by decide +kernel
theorem dL_law_1666 : decode cL_law 1666 = .ok (.iload 7, 2) := by decide +kernel
theorem dL_law_1668 : decode cL_law 1668 = .ok (.i2l, 1) := by decide +kernel
theorem dL_law_1669 : decode cL_law 1669 = .ok (.lcmp, 1) := by decide +kernel
theorem dL_law_1670 : decode cL_law 1670 = .ok (.ifCond .eq 5, 3) := by decide +kernel
theorem dL_law_1673 : decode cL_law 1673 = .ok (.iconst 0, 1) := by decide +kernel
theorem dL_law_1674 : decode cL_law 1674 = .ok (.ireturn, 1) := by decide +kernel
theorem dL_law_1675 : decode cL_law 1675 = .ok (.goto 342, 3) := by decide +kernel
theorem dL_law_1678 : decode cL_law 1678 = .ok (.aload_n 1, 1) := by decide +kernel
theorem dL_law_1679 : decode cL_law 1679 = .ok (.aload_n 3, 1) := by decide +kernel
theorem dL_law_1680 : decode cL_law 1680 = .ok (.invokestatic 203, 3) := by decide +kernel
theorem dL_law_1683 : decode cL_law 1683 = .ok (.istore 6, 2) := by decide +kernel
theorem dL_law_1685 : decode cL_law 1685 = .ok (.aload_n 2, 1) := by decide +kernel
theorem dL_law_1686 : decode cL_law 1686 = .ok (.invokevirtual 206, 3) := by decide +kernel
theorem dL_law_1689 : decode cL_law 1689 = .ok (.istore 7, 2) := by decide +kernel
theorem dL_law_1691 : decode cL_law 1691 = .ok (.aload_n 2, 1) := by decide +kernel
theorem dL_law_1692 : decode cL_law 1692 = .ok (.invokevirtual 120, 3) := by decide +kernel
theorem dL_law_1695 : decode cL_law 1695 = .ok (.iload 6, 2) := by decide +kernel
theorem dL_law_1697 : decode cL_law 1697 = .ok (.if_icmp .eq 5, 3) := by decide +kernel
theorem dL_law_1700 : decode cL_law 1700 = .ok (.iconst 0, 1) := by decide +kernel
theorem dL_law_1701 : decode cL_law 1701 = .ok (.ireturn, 1) := by decide +kernel
theorem dL_law_1702 : decode cL_law 1702 = .ok (.iload 6, 2) := by decide +kernel
theorem dL_law_1704 : decode cL_law 1704 = .ok (.ifCond .ne 15, 3) := by decide +kernel
theorem dL_law_1707 : decode cL_law 1707 = .ok (.aload_n 3, 1) := by decide +kernel
theorem dL_law_1708 : decode cL_law 1708 = .ok (.iconst 0, 1) := by decide +kernel
theorem dL_law_1709 : decode cL_law 1709 = .ok (.laload, 1) := by decide +kernel
theorem dL_law_1710 : decode cL_law 1710 = .ok (.iload 7, 2) := by decide +kernel
theorem dL_law_1712 : decode cL_law 1712 = .ok (.i2l, 1) := by decide +kernel
theorem dL_law_1713 : decode cL_law 1713 = .ok (.lcmp, 1) := by decide +kernel
theorem dL_law_1714 : decode cL_law 1714 = .ok (.ifCond .eq 5, 3) := by decide +kernel
theorem dL_law_1717 : decode cL_law 1717 = .ok (.iconst 0, 1) := by decide +kernel
theorem dL_law_1718 : decode cL_law 1718 = .ok (.ireturn, 1) := by decide +kernel
theorem dL_law_1719 : decode cL_law 1719 = .ok (.goto 298, 3) := by decide +kernel
theorem dL_law_1722 : decode cL_law 1722 = .ok (.aload_n 1, 1) := by decide +kernel
theorem dL_law_1723 : decode cL_law 1723 = .ok (.aload_n 3, 1) := by decide +kernel
theorem dL_law_1724 : decode cL_law 1724 = .ok (.invokestatic 207, 3) := by decide +kernel
theorem dL_law_1727 : decode cL_law 1727 = .ok (.istore 6, 2) := by decide +kernel
theorem dL_law_1729 : decode cL_law 1729 = .ok (.aload_n 2, 1) := by decide +kernel
theorem dL_law_1730 : decode cL_law 1730 = .ok (.invokevirtual 209, 3) := by decide +kernel
theorem dL_law_1733 : decode cL_law 1733 = .ok (.istore 7, 2) := by decide +kernel
theorem dL_law_1735 : decode cL_law 1735 = .ok (.aload_n 2, 1) := by decide +kernel
theorem dL_law_1736 : decode cL_law 1736 = .ok (.invokevirtual 120, 3) := by decide +kernel
theorem dL_law_1739 : decode cL_law 1739 = .ok (.iload 6, 2) := by decide +kernel
theorem dL_law_1741 : decode cL_law 1741 = .ok (.if_icmp .eq 5, 3) := by decide +kernel
theorem dL_law_1744 : decode cL_law 1744 = .ok (.iconst 0, 1) := by decide +kernel
theorem dL_law_1745 : decode cL_law 1745 = .ok (.ireturn, 1) := by decide +kernel
theorem dL_law_1746 : decode cL_law 1746 = .ok (.iload 6, 2) := by decide +kernel
theorem dL_law_1748 : decode cL_law 1748 = .ok (.ifCond .ne 15, 3) := by decide +kernel
theorem dL_law_1751 : decode cL_law 1751 = .ok (.aload_n 3, 1) := by decide +kernel
theorem dL_law_1752 : decode cL_law 1752 = .ok (.iconst 0, 1) := by decide +kernel
theorem dL_law_1753 : decode cL_law 1753 = .ok (.laload, 1) := by decide +kernel
theorem dL_law_1754 : decode cL_law 1754 = .ok (.iload 7, 2) := by decide +kernel
theorem dL_law_1756 : decode cL_law 1756 = .ok (.i2l, 1) := by decide +kernel
theorem dL_law_1757 : decode cL_law 1757 = .ok (.lcmp, 1) := by decide +kernel
theorem dL_law_1758 : decode cL_law 1758 = .ok (.ifCond .eq 5, 3) := by decide +kernel
theorem dL_law_1761 : decode cL_law 1761 = .ok (.iconst 0, 1) := by decide +kernel
theorem dL_law_1762 : decode cL_law 1762 = .ok (.ireturn, 1) := by decide +kernel
theorem dL_law_1763 : decode cL_law 1763 = .ok (.goto 254, 3) := by decide +kernel
theorem dL_law_1766 : decode cL_law 1766 = .ok (.aload_n 1, 1) := by decide +kernel
theorem dL_law_1767 : decode cL_law 1767 = .ok (.aload_n 0, 1) := by decide +kernel
theorem dL_law_1768 : decode cL_law 1768 = .ok (.iload 5, 2) := by decide +kernel
theorem dL_law_1770 : decode cL_law 1770 = .ok (.iconst 1, 1) := by decide +kernel
theorem dL_law_1771 : decode cL_law 1771 = .ok (.iadd, 1) := by decide +kernel
theorem dL_law_1772 : decode cL_law 1772 = .ok (.iaload, 1) := by decide +kernel
theorem dL_law_1773 : decode cL_law 1773 = .ok (.aload_n 3, 1) := by decide +kernel
theorem dL_law_1774 : decode cL_law 1774 = .ok (.invokestatic 210, 3) := by decide +kernel
theorem dL_law_1777 : decode cL_law 1777 = .ok (.istore 6, 2) := by decide +kernel
theorem dL_law_1779 : decode cL_law 1779 = .ok (.aload_n 2, 1) := by decide +kernel
theorem dL_law_1780 : decode cL_law 1780 = .ok (.aload_n 0, 1) := by decide +kernel
theorem dL_law_1781 : decode cL_law 1781 = .ok (.iload 5, 2) := by decide +kernel
theorem dL_law_1783 : decode cL_law 1783 = .ok (.iconst 1, 1) := by decide +kernel
theorem dL_law_1784 : decode cL_law 1784 = .ok (.iadd, 1) := by decide +kernel
theorem dL_law_1785 : decode cL_law 1785 = .ok (.iaload, 1) := by decide +kernel
theorem dL_law_1786 : decode cL_law 1786 = .ok (.invokevirtual 212, 3) := by decide +kernel
theorem dL_law_1789 : decode cL_law 1789 = .ok (.istore 7, 2) := by decide +kernel
theorem dL_law_1791 : decode cL_law 1791 = .ok (.aload_n 2, 1) := by decide +kernel
theorem dL_law_1792 : decode cL_law 1792 = .ok (.invokevirtual 120, 3) := by decide +kernel
theorem dL_law_1795 : decode cL_law 1795 = .ok (.iload 6, 2) := by decide +kernel
theorem dL_law_1797 : decode cL_law 1797 = .ok (.if_icmp .eq 5, 3) := by decide +kernel
theorem dL_law_1800 : decode cL_law 1800 = .ok (.iconst 0, 1) := by decide +kernel
theorem dL_law_1801 : decode cL_law 1801 = .ok (.ireturn, 1) := by decide +kernel
theorem dL_law_1802 : decode cL_law 1802 = .ok (.iload 6, 2) := by decide +kernel
theorem dL_law_1804 : decode cL_law 1804 = .ok (.ifCond .ne 15, 3) := by decide +kernel
theorem dL_law_1807 : decode cL_law 1807 = .ok (.aload_n 3, 1) := by decide +kernel
theorem dL_law_1808 : decode cL_law 1808 = .ok (.iconst 0, 1) := by decide +kernel
theorem dL_law_1809 : decode cL_law 1809 = .ok (.laload, 1) := by decide +kernel
theorem dL_law_1810 : decode cL_law 1810 = .ok (.iload 7, 2) := by decide +kernel
theorem dL_law_1812 : decode cL_law 1812 = .ok (.i2l, 1) := by decide +kernel
theorem dL_law_1813 : decode cL_law 1813 = .ok (.lcmp, 1) := by decide +kernel
theorem dL_law_1814 : decode cL_law 1814 = .ok (.ifCond .eq 5, 3) := by decide +kernel
theorem dL_law_1817 : decode cL_law 1817 = .ok (.iconst 0, 1) := by decide +kernel
theorem dL_law_1818 : decode cL_law 1818 = .ok (.ireturn, 1) := by decide +kernel
theorem dL_law_1819 : decode cL_law 1819 = .ok (.goto 198, 3) := by decide +kernel
theorem dL_law_1822 : decode cL_law 1822 = .ok (.aload_n 1, 1) := by decide +kernel
theorem dL_law_1823 : decode cL_law 1823 = .ok (.invokevirtual 213, 3) := by decide +kernel
theorem dL_law_1826 : decode cL_law 1826 = .ok (.aload_n 2, 1) := by decide +kernel
theorem dL_law_1827 : decode cL_law 1827 = .ok (.invokevirtual 216, 3) := by decide +kernel
theorem dL_law_1830 : decode cL_law 1830 = .ok (.if_icmp .eq 187, 3) := by decide +kernel
theorem dL_law_1833 : decode cL_law 1833 = .ok (.iconst 0, 1) := by decide +kernel
theorem dL_law_1834 : decode cL_law 1834 = .ok (.ireturn, 1) := by decide +kernel
theorem dL_law_1835 : decode cL_law 1835 = .ok (.aload_n 1, 1) := by decide +kernel
theorem dL_law_1836 : decode cL_law 1836 = .ok (.invokevirtual 217, 3) := by decide +kernel
theorem dL_law_1839 : decode cL_law 1839 = .ok (.aload_n 2, 1) := by decide +kernel
theorem dL_law_1840 : decode cL_law 1840 = .ok (.invokevirtual 220, 3) := by decide +kernel
theorem dL_law_1843 : decode cL_law 1843 = .ok (.if_icmp .eq 174, 3) := by decide +kernel
theorem dL_law_1846 : decode cL_law 1846 = .ok (.iconst 0, 1) := by decide +kernel
theorem dL_law_1847 : decode cL_law 1847 = .ok (.ireturn, 1) := by decide +kernel
theorem dL_law_1848 : decode cL_law 1848 = .ok (.aload_n 1, 1) := by decide +kernel
theorem dL_law_1849 : decode cL_law 1849 = .ok (.invokevirtual 221, 3) := by decide +kernel
theorem dL_law_1852 : decode cL_law 1852 = .ok (.aload_n 2, 1) := by decide +kernel
theorem dL_law_1853 : decode cL_law 1853 = .ok (.invokevirtual 225, 3) := by decide +kernel
theorem dL_law_1856 : decode cL_law 1856 = .ok (.lcmp, 1) := by decide +kernel
theorem dL_law_1857 : decode cL_law 1857 = .ok (.ifCond .eq 160, 3) := by decide +kernel
theorem dL_law_1860 : decode cL_law 1860 = .ok (.iconst 0, 1) := by decide +kernel
theorem dL_law_1861 : decode cL_law 1861 = .ok (.ireturn, 1) := by decide +kernel
theorem dL_law_1862 : decode cL_law 1862 = .ok (.aload_n 1, 1) := by decide +kernel
theorem dL_law_1863 : decode cL_law 1863 = .ok (.aload_n 0, 1) := by decide +kernel
theorem dL_law_1864 : decode cL_law 1864 = .ok (.iload 5, 2) := by decide +kernel
theorem dL_law_1866 : decode cL_law 1866 = .ok (.iconst 1, 1) := by decide +kernel
theorem dL_law_1867 : decode cL_law 1867 = .ok (.iadd, 1) := by decide +kernel
theorem dL_law_1868 : decode cL_law 1868 = .ok (.iaload, 1) := by decide +kernel
theorem dL_law_1869 : decode cL_law 1869 = .ok (.aload_n 0, 1) := by decide +kernel
theorem dL_law_1870 : decode cL_law 1870 = .ok (.iload 5, 2) := by decide +kernel
theorem dL_law_1872 : decode cL_law 1872 = .ok (.iconst 2, 1) := by decide +kernel
theorem dL_law_1873 : decode cL_law 1873 = .ok (.iadd, 1) := by decide +kernel
theorem dL_law_1874 : decode cL_law 1874 = .ok (.iaload, 1) := by decide +kernel
theorem dL_law_1875 : decode cL_law 1875 = .ok (.aload 4, 2) := by decide +kernel
theorem dL_law_1877 : decode cL_law 1877 = .ok (.invokestatic 226, 3) := by decide +kernel
theorem dL_law_1880 : decode cL_law 1880 = .ok (.istore 6, 2) := by decide +kernel
theorem dL_law_1882 : decode cL_law 1882 = .ok (.aload_n 2, 1) := by decide +kernel
theorem dL_law_1883 : decode cL_law 1883 = .ok (.aload_n 0, 1) := by decide +kernel
theorem dL_law_1884 : decode cL_law 1884 = .ok (.iload 5, 2) := by decide +kernel
theorem dL_law_1886 : decode cL_law 1886 = .ok (.iconst 1, 1) := by decide +kernel
theorem dL_law_1887 : decode cL_law 1887 = .ok (.iadd, 1) := by decide +kernel
theorem dL_law_1888 : decode cL_law 1888 = .ok (.iaload, 1) := by decide +kernel
theorem dL_law_1889 : decode cL_law 1889 = .ok (.aload_n 0, 1) := by decide +kernel
theorem dL_law_1890 : decode cL_law 1890 = .ok (.iload 5, 2) := by decide +kernel
theorem dL_law_1892 : decode cL_law 1892 = .ok (.iconst 2, 1) := by decide +kernel
theorem dL_law_1893 : decode cL_law 1893 = .ok (.iadd, 1) := by decide +kernel
theorem dL_law_1894 : decode cL_law 1894 = .ok (.iaload, 1) := by decide +kernel
theorem dL_law_1895 : decode cL_law 1895 = .ok (.invokevirtual 229, 3) := by decide +kernel
theorem dL_law_1898 : decode cL_law 1898 = .ok (.fstore 7, 2) := by decide +kernel
theorem dL_law_1900 : decode cL_law 1900 = .ok (.aload_n 2, 1) := by decide +kernel
theorem dL_law_1901 : decode cL_law 1901 = .ok (.invokevirtual 120, 3) := by decide +kernel
theorem dL_law_1904 : decode cL_law 1904 = .ok (.iload 6, 2) := by decide +kernel
theorem dL_law_1906 : decode cL_law 1906 = .ok (.if_icmp .eq 5, 3) := by decide +kernel
theorem dL_law_1909 : decode cL_law 1909 = .ok (.iconst 0, 1) := by decide +kernel
theorem dL_law_1910 : decode cL_law 1910 = .ok (.ireturn, 1) := by decide +kernel
theorem dL_law_1911 : decode cL_law 1911 = .ok (.iload 6, 2) := by decide +kernel
theorem dL_law_1913 : decode cL_law 1913 = .ok (.ifCond .ne 36, 3) := by decide +kernel
theorem dL_law_1916 : decode cL_law 1916 = .ok (.aload 4, 2) := by decide +kernel
theorem dL_law_1918 : decode cL_law 1918 = .ok (.iconst 0, 1) := by decide +kernel
theorem dL_law_1919 : decode cL_law 1919 = .ok (.daload, 1) := by decide +kernel
theorem dL_law_1920 : decode cL_law 1920 = .ok (.fload 7, 2) := by decide +kernel
theorem dL_law_1922 : decode cL_law 1922 = .ok (.f2d, 1) := by decide +kernel
theorem dL_law_1923 : decode cL_law 1923 = .ok (.dcmp .l, 1) := by decide +kernel
theorem dL_law_1924 : decode cL_law 1924 = .ok (.ifCond .eq 25, 3) := by decide +kernel
theorem dL_law_1927 : decode cL_law 1927 = .ok (.aload 4, 2) := by decide +kernel
theorem dL_law_1929 : decode cL_law 1929 = .ok (.iconst 0, 1) := by decide +kernel
theorem dL_law_1930 : decode cL_law 1930 = .ok (.daload, 1) := by decide +kernel
theorem dL_law_1931 : decode cL_law 1931 = .ok (.aload 4, 2) := by decide +kernel
theorem dL_law_1933 : decode cL_law 1933 = .ok (.iconst 0, 1) := by decide +kernel
theorem dL_law_1934 : decode cL_law 1934 = .ok (.daload, 1) := by decide +kernel
theorem dL_law_1935 : decode cL_law 1935 = .ok (.dcmp .l, 1) := by decide +kernel
theorem dL_law_1936 : decode cL_law 1936 = .ok (.ifCond .eq 11, 3) := by decide +kernel
theorem dL_law_1939 : decode cL_law 1939 = .ok (.fload 7, 2) := by decide +kernel
theorem dL_law_1941 : decode cL_law 1941 = .ok (.fload 7, 2) := by decide +kernel
theorem dL_law_1943 : decode cL_law 1943 = .ok (.fcmp .l, 1) := by decide +kernel
theorem dL_law_1944 : decode cL_law 1944 = .ok (.ifCond .ne 5, 3) := by decide +kernel
theorem dL_law_1947 : decode cL_law 1947 = .ok (.iconst 0, 1) := by decide +kernel
theorem dL_law_1948 : decode cL_law 1948 = .ok (.ireturn, 1) := by decide +kernel
theorem dL_law_1949 : decode cL_law 1949 = .ok (.goto 68, 3) := by decide +kernel
theorem dL_law_1952 : decode cL_law 1952 = .ok (.aload_n 1, 1) := by decide +kernel
theorem dL_law_1953 : decode cL_law 1953 = .ok (.aload 4, 2) := by decide +kernel
theorem dL_law_1955 : decode cL_law 1955 = .ok (.invokestatic 230, 3) := by decide +kernel
theorem dL_law_1958 : decode cL_law 1958 = .ok (.istore 6, 2) := by decide +kernel
theorem dL_law_1960 : decode cL_law 1960 = .ok (.aload_n 2, 1) := by decide +kernel
theorem dL_law_1961 : decode cL_law 1961 = .ok (.invokevirtual 233, 3) := by decide +kernel
theorem dL_law_1964 : decode cL_law 1964 = .ok (.dstore 7, 2) := by decide +kernel
theorem dL_law_1966 : decode cL_law 1966 = .ok (.aload_n 2, 1) := by decide +kernel
theorem dL_law_1967 : decode cL_law 1967 = .ok (.invokevirtual 120, 3) := by decide +kernel
theorem dL_law_1970 : decode cL_law 1970 = .ok (.iload 6, 2) := by decide +kernel
theorem dL_law_1972 : decode cL_law 1972 = .ok (.if_icmp .eq 5, 3) := by decide +kernel
theorem dL_law_1975 : decode cL_law 1975 = .ok (.iconst 0, 1) := by decide +kernel
theorem dL_law_1976 : decode cL_law 1976 = .ok (.ireturn, 1) := by decide +kernel
theorem dL_law_1977 : decode cL_law 1977 = .ok (.iload 6, 2) := by decide +kernel
theorem dL_law_1979 : decode cL_law 1979 = .ok (.ifCond .ne 35, 3) := by decide +kernel
theorem dL_law_1982 : decode cL_law 1982 = .ok (.aload 4, 2) := by decide +kernel
theorem dL_law_1984 : decode cL_law 1984 = .ok (.iconst 0, 1) := by decide +kernel
theorem dL_law_1985 : decode cL_law 1985 = .ok (.daload, 1) := by decide +kernel
theorem dL_law_1986 : decode cL_law 1986 = .ok (.dload 7, 2) := by decide +kernel
theorem dL_law_1988 : decode cL_law 1988 = .ok (.dcmp .l, 1) := by decide +kernel
theorem dL_law_1989 : decode cL_law 1989 = .ok (.ifCond .eq 25, 3) := by decide +kernel
theorem dL_law_1992 : decode cL_law 1992 = .ok (.aload 4, 2) := by decide +kernel
theorem dL_law_1994 : decode cL_law 1994 = .ok (.iconst 0, 1) := by decide +kernel
theorem dL_law_1995 : decode cL_law 1995 = .ok (.daload, 1) := by decide +kernel
theorem dL_law_1996 : decode cL_law 1996 = .ok (.aload 4, 2) := by decide +kernel
theorem dL_law_1998 : decode cL_law 1998 = .ok (.iconst 0, 1) := by decide +kernel
theorem dL_law_1999 : decode cL_law 1999 = .ok (.daload, 1) := by decide +kernel
theorem dL_law_2000 : decode cL_law 2000 = .ok (.dcmp .l, 1) := by decide +kernel
theorem dL_law_2001 : decode cL_law 2001 = .ok (.ifCond .eq 11, 3) := by decide +kernel
theorem dL_law_2004 : decode cL_law 2004 = .ok (.dload 7, 2) := by decide +kernel
theorem dL_law_2006 : decode cL_law 2006 = .ok (.dload 7, 2) := by decide +kernel
theorem dL_law_2008 : decode cL_law 2008 = .ok (.dcmp .l, 1) := by decide +kernel
theorem dL_law_2009 : decode cL_law 2009 = .ok (.ifCond .ne 5, 3) := by decide +kernel
theorem dL_law_2012 : decode cL_law 2012 = .ok (.iconst 0, 1) := by decide +kernel
theorem dL_law_2013 : decode cL_law 2013 = .ok (.ireturn, 1) := by decide +kernel
theorem dL_law_2014 : decode cL_law 2014 = .ok (.goto 3, 3) := by decide +kernel
theorem dL_law_2017 : decode cL_law 2017 = .ok (.iinc 5 6, 3) := by decide +kernel
theorem dL_law_2020 : decode cL_law 2020 = .ok (.goto (-1992), 3) := by decide +kernel
theorem dL_law_2023 : decode cL_law 2023 = .ok (.iconst 1, 1) := by decide +kernel
theorem dL_law_2024 : decode cL_law 2024 = .ok (.ireturn, 1) := by decide +kernel
end
section
/-! the good words of the tables (written by wip/gen/words.py) -/
def xB : List Cond := lw_tbl.filter goodWord
theorem xB_of {w : Cond} {i : Nat} (h : tables_1[i]? = some w) (hg : goodWord w = true) : w ∈ xB := List.mem_filter.mpr ⟨List.mem_append_right _ (List.mem_of_getElem? h), hg⟩
theorem xB_ofp {w : Cond} {i : Nat} (h : (k2_sels lw_privs)[i]? = some w) (hg : goodWord w = true) : w ∈ xB := List.mem_filter.mpr ⟨List.mem_append_left _ (List.mem_of_getElem? h), hg⟩
theorem xw_0 : Cond.initialized RL ∈ xB := xB_of (i := 0) (by decide +kernel) rfl
theorem xw_1 : Cond.initialized RX5 ∈ xB := xB_of (i := 1) (by decide +kernel) rfl
theorem xw_2 : Cond.initialized RX2 ∈ xB := xB_of (i := 2) (by decide +kernel) rfl
theorem xw_3 : Cond.initialized RX1 ∈ xB := xB_of (i := 3) (by decide +kernel) rfl
theorem xw_4 : Cond.initialized RX6 ∈ xB := xB_of (i := 4) (by decide +kernel) rfl
theorem xw_5 : Cond.initialized "java/lang/Throwable" ∈ xB := xB_of (i := 5) (by decide +kernel) rfl
theorem xw_6 : Cond.initialized "java/lang/Exception" ∈ xB := xB_of (i := 6) (by decide +kernel) rfl
theorem xw_7 : Cond.initialized "java/lang/RuntimeException" ∈ xB := xB_of (i := 7) (by decide +kernel) rfl
theorem xw_8 : Cond.initialized "java/lang/IllegalArgumentException" ∈ xB := xB_of (i := 8) (by decide +kernel) rfl
theorem xw_9 : Cond.initialized "java/lang/IllegalStateException" ∈ xB := xB_of (i := 9) (by decide +kernel) rfl
theorem xw_10 : Cond.initialized RX3 ∈ xB := xB_of (i := 10) (by decide +kernel) rfl
theorem xw_11 : Cond.initialized RX0 ∈ xB := xB_of (i := 11) (by decide +kernel) rfl
theorem xw_12 : Cond.initialized "java/lang/IndexOutOfBoundsException" ∈ xB := xB_of (i := 12) (by decide +kernel) rfl
theorem xw_13 : Cond.initialized "java/lang/ArrayIndexOutOfBoundsException" ∈ xB := xB_of (i := 13) (by decide +kernel) rfl
theorem xw_14 : Cond.initialized RJ0 ∈ xB := xB_of (i := 14) (by decide +kernel) rfl
theorem xw_15 : Cond.initialized "java/lang/UnsupportedOperationException" ∈ xB := xB_of (i := 15) (by decide +kernel) rfl
theorem xw_16 : Cond.initialized RX4 ∈ xB := xB_of (i := 16) (by decide +kernel) rfl
theorem xw_17 : Cond.initialized RJ9 ∈ xB := xB_of (i := 17) (by decide +kernel) rfl
theorem xw_18 : Cond.initialized "java/util/NoSuchElementException" ∈ xB := xB_of (i := 18) (by decide +kernel) rfl
theorem xw_19 : Cond.initialized "java/lang/ArithmeticException" ∈ xB := xB_of (i := 19) (by decide +kernel) rfl
theorem xw_20 : Cond.classLink RL 8 RX5 ∈ xB := xB_of (i := 20) (by decide +kernel) rfl
theorem xw_21 : Cond.instantiable RX5 8 ∈ xB := xB_of (i := 21) (by decide +kernel) rfl
theorem xw_22 : Cond.methodLink RL 110 yX5_init ∈ xB := xB_of (i := 22) (by decide +kernel) rfl
theorem xw_23 : Cond.instanceMethod yX5_init ∈ xB := xB_of (i := 23) (by decide +kernel) rfl
set_option maxRecDepth 100000 in
theorem xw_24 : Cond.code yX5_init cX5_init 1 none ∈ xB := xB_of (i := 24) (by rfl) rfl
theorem xw_25 : Cond.methodLink RX5 1 ⟨"java/lang/Object", "<init>", "()V"⟩ ∈ xB := xB_of (i := 25) (by decide +kernel) rfl
theorem xw_26 : Cond.instanceMethod ⟨"java/lang/Object", "<init>", "()V"⟩ ∈ xB := xB_of (i := 26) (by decide +kernel) rfl
set_option maxRecDepth 100000 in
theorem xw_27 : Cond.code ⟨"java/lang/Object", "<init>", "()V"⟩ object_method_1_code 1 none ∈ xB := xB_of (i := 27) (by rfl) rfl
theorem xw_28 : Cond.classLink RX5 9 RX3 ∈ xB := xB_of (i := 28) (by decide +kernel) rfl
theorem xw_30 : Cond.classLink RX5 15 RX4 ∈ xB := xB_of (i := 30) (by decide +kernel) rfl
theorem xw_32 : Cond.classLink RX5 21 RX2 ∈ xB := xB_of (i := 32) (by decide +kernel) rfl
theorem xw_33 : Cond.instantiable RX2 2 ∈ xB := xB_of (i := 33) (by decide +kernel) rfl
theorem xw_35 : Cond.instanceMethod yX2_init ∈ xB := xB_of (i := 35) (by decide +kernel) rfl
set_option maxRecDepth 100000 in
theorem xw_36 : Cond.code yX2_init cX2_init 1 none ∈ xB := xB_of (i := 36) (by rfl) rfl
theorem xw_37 : Cond.methodLink RX2 3 ⟨"java/lang/Object", "<init>", "()V"⟩ ∈ xB := xB_of (i := 37) (by decide +kernel) rfl
theorem xw_38 : Cond.fieldLink RX2 9 RX2 "sound" "I" ∈ xB := xB_of (i := 38) (by decide +kernel) rfl
theorem xw_40 : Cond.fieldLink RX2 15 RX2 "fewest" "I" ∈ xB := xB_of (i := 40) (by decide +kernel) rfl
theorem xw_47 : Cond.classLink RX5 28 RX1 ∈ xB := xB_of (i := 47) (by decide +kernel) rfl
theorem xw_48 : Cond.instantiable RX1 4 ∈ xB := xB_of (i := 48) (by decide +kernel) rfl
theorem xw_49 : Cond.methodLink RX5 30 yX1_init ∈ xB := xB_of (i := 49) (by decide +kernel) rfl
theorem xw_50 : Cond.instanceMethod yX1_init ∈ xB := xB_of (i := 50) (by decide +kernel) rfl
set_option maxRecDepth 100000 in
theorem xw_51 : Cond.code yX1_init cX1_init 1 none ∈ xB := xB_of (i := 51) (by rfl) rfl
theorem xw_52 : Cond.methodLink RX1 3 ⟨"java/lang/Object", "<init>", "()V"⟩ ∈ xB := xB_of (i := 52) (by decide +kernel) rfl
theorem xw_53 : Cond.fieldLink RX1 9 RX1 "phase" "C" ∈ xB := xB_of (i := 53) (by decide +kernel) rfl
theorem xw_55 : Cond.fieldLink RX1 15 RX1 "source" "I" ∈ xB := xB_of (i := 55) (by decide +kernel) rfl
theorem xw_58 : Cond.fieldLink RX1 19 RX1 "target" "I" ∈ xB := xB_of (i := 58) (by decide +kernel) rfl
theorem xw_60 : Cond.fieldLink RX1 22 RX1 "left" "I" ∈ xB := xB_of (i := 60) (by decide +kernel) rfl
theorem xw_71 : Cond.fieldLink RX5 11 RX5 "allShards" "[LTenantPlacement$Shard;" ∈ xB := xB_of (i := 71) (by decide +kernel) rfl
theorem xw_72 : Cond.fieldLink RX5 17 RX5 "allTenants" "[LTenantPlacement$Tenant;" ∈ xB := xB_of (i := 72) (by decide +kernel) rfl
theorem xw_73 : Cond.fieldLink RX5 24 RX5 "planner" "LTenantPlacement$Planner;" ∈ xB := xB_of (i := 73) (by decide +kernel) rfl
theorem xw_74 : Cond.fieldLink RX5 31 RX5 "trialMove" "LTenantPlacement$Move;" ∈ xB := xB_of (i := 74) (by decide +kernel) rfl
theorem xw_75 : Cond.fieldLink RX5 127 RX5 "pairs" "I" ∈ xB := xB_of (i := 75) (by decide +kernel) rfl
theorem xw_76 : Cond.fieldLink RX5 197 RX5 "now" "I" ∈ xB := xB_of (i := 76) (by decide +kernel) rfl
theorem xw_77 : Cond.fieldLink RX5 263 RX5 "switchesSoFar" "I" ∈ xB := xB_of (i := 77) (by decide +kernel) rfl
theorem xw_78 : Cond.fieldLink RX5 266 RX5 "hoursOverSoFar" "J" ∈ xB := xB_of (i := 78) (by decide +kernel) rfl
theorem xw_96 : Cond.methodLink RL 157 yX5_time ∈ xB := xB_of (i := 96) (by decide +kernel) rfl
theorem xw_97 : Cond.instanceMethod yX5_time ∈ xB := xB_of (i := 97) (by decide +kernel) rfl
theorem xw_98 : Cond.selects RX5 yX5_time yX5_time ∈ xB := xB_of (i := 98) (by decide +kernel) rfl
set_option maxRecDepth 100000 in
theorem xw_99 : Cond.code yX5_time cX5_time 1 (some .int) ∈ xB := xB_of (i := 99) (by rfl) rfl
theorem xw_100 : Cond.methodLink RL 173 yX5_moves ∈ xB := xB_of (i := 100) (by decide +kernel) rfl
theorem xw_101 : Cond.instanceMethod yX5_moves ∈ xB := xB_of (i := 101) (by decide +kernel) rfl
theorem xw_102 : Cond.selects RX5 yX5_moves yX5_moves ∈ xB := xB_of (i := 102) (by decide +kernel) rfl
set_option maxRecDepth 100000 in
theorem xw_103 : Cond.code yX5_moves cX5_moves 6 (some .int) ∈ xB := xB_of (i := 103) (by rfl) rfl
theorem xw_104 : Cond.methodLink RX5 155 yX1_isUnderWay ∈ xB := xB_of (i := 104) (by decide +kernel) rfl
theorem xw_105 : Cond.instanceMethod yX1_isUnderWay ∈ xB := xB_of (i := 105) (by decide +kernel) rfl
theorem xw_106 : Cond.selects RX1 yX1_isUnderWay yX1_isUnderWay ∈ xB := xB_of (i := 106) (by decide +kernel) rfl
set_option maxRecDepth 100000 in
theorem xw_107 : Cond.code yX1_isUnderWay cX1_isUnderWay 1 (some .boolean) ∈ xB := xB_of (i := 107) (by rfl) rfl
theorem xw_108 : Cond.methodLink RL 177 yX5_shards ∈ xB := xB_of (i := 108) (by decide +kernel) rfl
theorem xw_109 : Cond.instanceMethod yX5_shards ∈ xB := xB_of (i := 109) (by decide +kernel) rfl
theorem xw_110 : Cond.selects RX5 yX5_shards yX5_shards ∈ xB := xB_of (i := 110) (by decide +kernel) rfl
set_option maxRecDepth 100000 in
theorem xw_111 : Cond.code yX5_shards cX5_shards 6 (some .int) ∈ xB := xB_of (i := 111) (by rfl) rfl
theorem xw_112 : Cond.methodLink RL 181 yX5_tenants ∈ xB := xB_of (i := 112) (by decide +kernel) rfl
theorem xw_113 : Cond.instanceMethod yX5_tenants ∈ xB := xB_of (i := 113) (by decide +kernel) rfl
theorem xw_114 : Cond.selects RX5 yX5_tenants yX5_tenants ∈ xB := xB_of (i := 114) (by decide +kernel) rfl
set_option maxRecDepth 100000 in
theorem xw_115 : Cond.code yX5_tenants cX5_tenants 6 (some .int) ∈ xB := xB_of (i := 115) (by rfl) rfl
theorem xw_116 : Cond.methodLink RL 213 yX5_soundPlans ∈ xB := xB_of (i := 116) (by decide +kernel) rfl
theorem xw_117 : Cond.instanceMethod yX5_soundPlans ∈ xB := xB_of (i := 117) (by decide +kernel) rfl
theorem xw_118 : Cond.selects RX5 yX5_soundPlans yX5_soundPlans ∈ xB := xB_of (i := 118) (by decide +kernel) rfl
set_option maxRecDepth 100000 in
theorem xw_119 : Cond.code yX5_soundPlans cX5_soundPlans 1 (some .int) ∈ xB := xB_of (i := 119) (by rfl) rfl
theorem xw_120 : Cond.methodLink RX5 250 yX2_tryAll ∈ xB := xB_of (i := 120) (by decide +kernel) rfl
theorem xw_121 : Cond.instanceMethod yX2_tryAll ∈ xB := xB_of (i := 121) (by decide +kernel) rfl
theorem xw_122 : Cond.selects RX2 yX2_tryAll yX2_tryAll ∈ xB := xB_of (i := 122) (by decide +kernel) rfl
set_option maxRecDepth 100000 in
theorem xw_123 : Cond.code yX2_tryAll cX2_tryAll 3 none ∈ xB := xB_of (i := 123) (by rfl) rfl
theorem xw_124 : Cond.methodLink RX2 18 yX2_clearTrials ∈ xB := xB_of (i := 124) (by decide +kernel) rfl
theorem xw_125 : Cond.static yX2_clearTrials ∈ xB := xB_of (i := 125) (by decide +kernel) rfl
set_option maxRecDepth 100000 in
theorem xw_126 : Cond.code yX2_clearTrials cX2_clearTrials 5 none ∈ xB := xB_of (i := 126) (by rfl) rfl
theorem xw_127 : Cond.methodLink RX2 30 yX3_clearTrial ∈ xB := xB_of (i := 127) (by decide +kernel) rfl
theorem xw_128 : Cond.instanceMethod yX3_clearTrial ∈ xB := xB_of (i := 128) (by decide +kernel) rfl
theorem xw_129 : Cond.selects RX3 yX3_clearTrial yX3_clearTrial ∈ xB := xB_of (i := 129) (by decide +kernel) rfl
set_option maxRecDepth 100000 in
theorem xw_130 : Cond.code yX3_clearTrial cX3_clearTrial 1 none ∈ xB := xB_of (i := 130) (by rfl) rfl
theorem xw_131 : Cond.methodLink RX3 56 yX0_clear ∈ xB := xB_of (i := 131) (by decide +kernel) rfl
theorem xw_132 : Cond.instanceMethod yX0_clear ∈ xB := xB_of (i := 132) (by decide +kernel) rfl
theorem xw_133 : Cond.selects RX0 yX0_clear yX0_clear ∈ xB := xB_of (i := 133) (by decide +kernel) rfl
set_option maxRecDepth 100000 in
theorem xw_134 : Cond.code yX0_clear cX0_clear 1 none ∈ xB := xB_of (i := 134) (by rfl) rfl
theorem xw_135 : Cond.methodLink RX2 22 yX2_tryFrom ∈ xB := xB_of (i := 135) (by decide +kernel) rfl
theorem xw_136 : Cond.static yX2_tryFrom ∈ xB := xB_of (i := 136) (by decide +kernel) rfl
set_option maxRecDepth 100000 in
theorem xw_137 : Cond.code yX2_tryFrom cX2_tryFrom 9 none ∈ xB := xB_of (i := 137) (by rfl) rfl
theorem xw_138 : Cond.methodLink RX2 35 yX2_tenantOrNull ∈ xB := xB_of (i := 138) (by decide +kernel) rfl
theorem xw_139 : Cond.static yX2_tenantOrNull ∈ xB := xB_of (i := 139) (by decide +kernel) rfl
set_option maxRecDepth 100000 in
theorem xw_140 : Cond.code yX2_tenantOrNull cX2_tenantOrNull 2 (some (.object "TenantPlacement$Tenant")) ∈ xB := xB_of (i := 140) (by rfl) rfl
theorem xw_141 : Cond.methodLink RX2 39 yX2_noteSound ∈ xB := xB_of (i := 141) (by decide +kernel) rfl
theorem xw_143 : Cond.instanceMethod yX2_noteSound ∈ xB := xB_of (i := 143) (by decide +kernel) rfl
set_option maxRecDepth 100000 in
theorem xw_144 : Cond.code yX2_noteSound cX2_noteSound 2 none ∈ xB := xB_of (i := 144) (by rfl) rfl
theorem xw_145 : Cond.methodLink RX2 59 yJ9_min_7cf53 ∈ xB := xB_of (i := 145) (by decide +kernel) rfl
theorem xw_146 : Cond.static yJ9_min_7cf53 ∈ xB := xB_of (i := 146) (by decide +kernel) rfl
set_option maxRecDepth 100000 in
theorem xw_147 : Cond.code yJ9_min_7cf53 cJ9_min_7cf53 2 (some .int) ∈ xB := xB_of (i := 147) (by rfl) rfl
theorem xw_148 : Cond.methodLink RX2 43 yX3_takesInTrial ∈ xB := xB_of (i := 148) (by decide +kernel) rfl
theorem xw_149 : Cond.instanceMethod yX3_takesInTrial ∈ xB := xB_of (i := 149) (by decide +kernel) rfl
theorem xw_150 : Cond.selects RX3 yX3_takesInTrial yX3_takesInTrial ∈ xB := xB_of (i := 150) (by decide +kernel) rfl
set_option maxRecDepth 100000 in
theorem xw_151 : Cond.code yX3_takesInTrial cX3_takesInTrial 3 (some .boolean) ∈ xB := xB_of (i := 151) (by rfl) rfl
theorem xw_152 : Cond.methodLink RX2 47 yX3_putInTrial ∈ xB := xB_of (i := 152) (by decide +kernel) rfl
theorem xw_153 : Cond.instanceMethod yX3_putInTrial ∈ xB := xB_of (i := 153) (by decide +kernel) rfl
theorem xw_154 : Cond.selects RX3 yX3_putInTrial yX3_putInTrial ∈ xB := xB_of (i := 154) (by decide +kernel) rfl
set_option maxRecDepth 100000 in
theorem xw_155 : Cond.code yX3_putInTrial cX3_putInTrial 3 none ∈ xB := xB_of (i := 155) (by rfl) rfl
theorem xw_156 : Cond.methodLink RX3 49 yX0_add ∈ xB := xB_of (i := 156) (by decide +kernel) rfl
theorem xw_157 : Cond.instanceMethod yX0_add ∈ xB := xB_of (i := 157) (by decide +kernel) rfl
theorem xw_158 : Cond.selects RX0 yX0_add yX0_add ∈ xB := xB_of (i := 158) (by decide +kernel) rfl
set_option maxRecDepth 100000 in
theorem xw_159 : Cond.code yX0_add cX0_add 2 none ∈ xB := xB_of (i := 159) (by rfl) rfl
theorem xw_160 : Cond.methodLink RX2 56 yX3_takeFromTrial ∈ xB := xB_of (i := 160) (by decide +kernel) rfl
theorem xw_161 : Cond.instanceMethod yX3_takeFromTrial ∈ xB := xB_of (i := 161) (by decide +kernel) rfl
theorem xw_162 : Cond.selects RX3 yX3_takeFromTrial yX3_takeFromTrial ∈ xB := xB_of (i := 162) (by decide +kernel) rfl
set_option maxRecDepth 100000 in
theorem xw_163 : Cond.code yX3_takeFromTrial cX3_takeFromTrial 3 none ∈ xB := xB_of (i := 163) (by rfl) rfl
theorem xw_164 : Cond.methodLink RX3 53 yX0_subtract ∈ xB := xB_of (i := 164) (by decide +kernel) rfl
theorem xw_165 : Cond.instanceMethod yX0_subtract ∈ xB := xB_of (i := 165) (by decide +kernel) rfl
theorem xw_166 : Cond.selects RX0 yX0_subtract yX0_subtract ∈ xB := xB_of (i := 166) (by decide +kernel) rfl
set_option maxRecDepth 100000 in
theorem xw_167 : Cond.code yX0_subtract cX0_subtract 2 none ∈ xB := xB_of (i := 167) (by rfl) rfl
theorem xw_168 : Cond.methodLink RL 217 yX5_switches ∈ xB := xB_of (i := 168) (by decide +kernel) rfl
theorem xw_169 : Cond.instanceMethod yX5_switches ∈ xB := xB_of (i := 169) (by decide +kernel) rfl
theorem xw_170 : Cond.selects RX5 yX5_switches yX5_switches ∈ xB := xB_of (i := 170) (by decide +kernel) rfl
set_option maxRecDepth 100000 in
theorem xw_171 : Cond.code yX5_switches cX5_switches 1 (some .int) ∈ xB := xB_of (i := 171) (by rfl) rfl
theorem xw_172 : Cond.methodLink RL 221 yX5_hoursOver ∈ xB := xB_of (i := 172) (by decide +kernel) rfl
theorem xw_173 : Cond.instanceMethod yX5_hoursOver ∈ xB := xB_of (i := 173) (by decide +kernel) rfl
theorem xw_174 : Cond.selects RX5 yX5_hoursOver yX5_hoursOver ∈ xB := xB_of (i := 174) (by decide +kernel) rfl
set_option maxRecDepth 100000 in
theorem xw_175 : Cond.code yX5_hoursOver cX5_hoursOver 1 (some .long) ∈ xB := xB_of (i := 175) (by rfl) rfl
theorem xw_176 : Cond.methodLink RL 114 yL_addShard ∈ xB := xB_of (i := 176) (by decide +kernel) rfl
theorem xw_177 : Cond.static yL_addShard ∈ xB := xB_of (i := 177) (by decide +kernel) rfl
set_option maxRecDepth 100000 in
theorem xw_178 : Cond.codeWith yL_addShard cL_addShard 6 (some .int) [(0, 12, 15, 13), (0, 12, 19, 15)] ∈ xB := xB_of (i := 178) (by rfl) rfl
theorem xw_179 : Cond.classLink RL 13 "java/lang/IllegalArgumentException" ∈ xB := xB_of (i := 179) (by decide +kernel) rfl
theorem xw_180 : Cond.classLink RL 15 "java/lang/IllegalStateException" ∈ xB := xB_of (i := 180) (by decide +kernel) rfl
theorem xw_181 : Cond.methodLink RL 7 yX5_addShard ∈ xB := xB_of (i := 181) (by decide +kernel) rfl
theorem xw_182 : Cond.instanceMethod yX5_addShard ∈ xB := xB_of (i := 182) (by decide +kernel) rfl
theorem xw_183 : Cond.selects RX5 yX5_addShard yX5_addShard ∈ xB := xB_of (i := 183) (by decide +kernel) rfl
set_option maxRecDepth 100000 in
theorem xw_184 : Cond.code yX5_addShard cX5_addShard 5 (some .int) ∈ xB := xB_of (i := 184) (by rfl) rfl
theorem xw_185 : Cond.methodLink RX5 35 yX5_requireRange ∈ xB := xB_of (i := 185) (by decide +kernel) rfl
theorem xw_186 : Cond.static yX5_requireRange ∈ xB := xB_of (i := 186) (by decide +kernel) rfl
set_option maxRecDepth 100000 in
theorem xw_187 : Cond.code yX5_requireRange cX5_requireRange 3 none ∈ xB := xB_of (i := 187) (by rfl) rfl
theorem xw_188 : Cond.classLink RX5 116 "java/lang/IllegalArgumentException" ∈ xB := xB_of (i := 188) (by decide +kernel) rfl
theorem xw_189 : Cond.instantiable "java/lang/IllegalArgumentException" 6 ∈ xB := xB_of (i := 189) (by decide +kernel) rfl
theorem xw_197 : Cond.selects "java/lang/IllegalArgumentException" ⟨"java/lang/Throwable", "fillInStackTrace", "(I)Ljava/lang/Throwable;"⟩ ⟨"java/lang/Throwable", "fillInStackTrace", "(I)Ljava/lang/Throwable;"⟩ ∈ xB := xB_of (i := 197) (by decide +kernel) rfl
theorem xw_198 : Cond.selects "java/lang/IllegalArgumentException" ⟨"java/lang/Throwable", "fillInStackTrace", "()Ljava/lang/Throwable;"⟩ ⟨"java/lang/Throwable", "fillInStackTrace", "()Ljava/lang/Throwable;"⟩ ∈ xB := xB_of (i := 198) (by decide +kernel) rfl
theorem xw_209 : Cond.fieldLink "java/lang/Throwable" 198 "java/lang/Throwable" "backtrace" "Ljava/lang/Object;" ∈ xB := xB_of (i := 209) (by decide +kernel) rfl
theorem xw_211 : Cond.instanceMethod ⟨"java/lang/Throwable", "<init>", "()V"⟩ ∈ xB := xB_of (i := 211) (by decide +kernel) rfl
set_option maxRecDepth 100000 in
theorem xw_212 : Cond.code ⟨"java/lang/Throwable", "<init>", "()V"⟩ prog_19_method_1_code 1 none ∈ xB := xB_of (i := 212) (by rfl) rfl
theorem xw_213 : Cond.methodLink "java/lang/Throwable" 1 ⟨"java/lang/Object", "<init>", "()V"⟩ ∈ xB := xB_of (i := 213) (by decide +kernel) rfl
theorem xw_214 : Cond.fieldLink "java/lang/Throwable" 13 "java/lang/Throwable" "UNASSIGNED_STACK" "[Ljava/lang/StackTraceElement;" ∈ xB := xB_of (i := 214) (by decide +kernel) rfl
theorem xw_216 : Cond.fieldLink "java/lang/Throwable" 20 "java/lang/Throwable" "SUPPRESSED_SENTINEL" "Ljava/util/List;" ∈ xB := xB_of (i := 216) (by decide +kernel) rfl
theorem xw_218 : Cond.methodLink "java/lang/Throwable" 27 ⟨"java/lang/Throwable", "fillInStackTrace", "()Ljava/lang/Throwable;"⟩ ∈ xB := xB_of (i := 218) (by decide +kernel) rfl
theorem xw_219 : Cond.instanceMethod ⟨"java/lang/Throwable", "fillInStackTrace", "()Ljava/lang/Throwable;"⟩ ∈ xB := xB_of (i := 219) (by decide +kernel) rfl
theorem xw_221 : Cond.selects "java/lang/ArithmeticException" ⟨"java/lang/Throwable", "fillInStackTrace", "()Ljava/lang/Throwable;"⟩ ⟨"java/lang/Throwable", "fillInStackTrace", "()Ljava/lang/Throwable;"⟩ ∈ xB := xB_of (i := 221) (by decide +kernel) rfl
theorem xw_222 : Cond.selects "java/lang/ArrayIndexOutOfBoundsException" ⟨"java/lang/Throwable", "fillInStackTrace", "()Ljava/lang/Throwable;"⟩ ⟨"java/lang/Throwable", "fillInStackTrace", "()Ljava/lang/Throwable;"⟩ ∈ xB := xB_of (i := 222) (by decide +kernel) rfl
theorem xw_223 : Cond.selects "java/lang/IllegalStateException" ⟨"java/lang/Throwable", "fillInStackTrace", "()Ljava/lang/Throwable;"⟩ ⟨"java/lang/Throwable", "fillInStackTrace", "()Ljava/lang/Throwable;"⟩ ∈ xB := xB_of (i := 223) (by decide +kernel) rfl
theorem xw_224 : Cond.selects "java/lang/IndexOutOfBoundsException" ⟨"java/lang/Throwable", "fillInStackTrace", "()Ljava/lang/Throwable;"⟩ ⟨"java/lang/Throwable", "fillInStackTrace", "()Ljava/lang/Throwable;"⟩ ∈ xB := xB_of (i := 224) (by decide +kernel) rfl
theorem xw_225 : Cond.selects "java/lang/UnsupportedOperationException" ⟨"java/lang/Throwable", "fillInStackTrace", "()Ljava/lang/Throwable;"⟩ ⟨"java/lang/Throwable", "fillInStackTrace", "()Ljava/lang/Throwable;"⟩ ∈ xB := xB_of (i := 225) (by decide +kernel) rfl
theorem xw_226 : Cond.selects "java/util/NoSuchElementException" ⟨"java/lang/Throwable", "fillInStackTrace", "()Ljava/lang/Throwable;"⟩ ⟨"java/lang/Throwable", "fillInStackTrace", "()Ljava/lang/Throwable;"⟩ ∈ xB := xB_of (i := 226) (by decide +kernel) rfl
theorem xw_228 : Cond.methodLink "java/lang/Throwable" 202 ⟨"java/lang/Throwable", "fillInStackTrace", "(I)Ljava/lang/Throwable;"⟩ ∈ xB := xB_of (i := 228) (by decide +kernel) rfl
theorem xw_230 : Cond.instanceMethod ⟨"java/lang/Throwable", "fillInStackTrace", "(I)Ljava/lang/Throwable;"⟩ ∈ xB := xB_of (i := 230) (by decide +kernel) rfl
theorem xw_231 : Cond.instantiable "java/lang/Throwable" 6 ∈ xB := xB_of (i := 231) (by decide +kernel) rfl
theorem xw_234 : Cond.methodLink RX5 120 ⟨"java/lang/IllegalArgumentException", "<init>", "(Ljava/lang/String;)V"⟩ ∈ xB := xB_of (i := 234) (by decide +kernel) rfl
theorem xw_235 : Cond.instanceMethod ⟨"java/lang/IllegalArgumentException", "<init>", "(Ljava/lang/String;)V"⟩ ∈ xB := xB_of (i := 235) (by decide +kernel) rfl
set_option maxRecDepth 100000 in
theorem xw_236 : Cond.code ⟨"java/lang/IllegalArgumentException", "<init>", "(Ljava/lang/String;)V"⟩ prog_13_method_2_code 2 none ∈ xB := xB_of (i := 236) (by rfl) rfl
theorem xw_237 : Cond.methodLink "java/lang/IllegalArgumentException" 7 ⟨"java/lang/RuntimeException", "<init>", "(Ljava/lang/String;)V"⟩ ∈ xB := xB_of (i := 237) (by decide +kernel) rfl
theorem xw_238 : Cond.instanceMethod ⟨"java/lang/RuntimeException", "<init>", "(Ljava/lang/String;)V"⟩ ∈ xB := xB_of (i := 238) (by decide +kernel) rfl
set_option maxRecDepth 100000 in
theorem xw_239 : Cond.code ⟨"java/lang/RuntimeException", "<init>", "(Ljava/lang/String;)V"⟩ prog_17_method_2_code 2 none ∈ xB := xB_of (i := 239) (by rfl) rfl
theorem xw_240 : Cond.methodLink "java/lang/RuntimeException" 7 ⟨"java/lang/Exception", "<init>", "(Ljava/lang/String;)V"⟩ ∈ xB := xB_of (i := 240) (by decide +kernel) rfl
theorem xw_241 : Cond.instanceMethod ⟨"java/lang/Exception", "<init>", "(Ljava/lang/String;)V"⟩ ∈ xB := xB_of (i := 241) (by decide +kernel) rfl
set_option maxRecDepth 100000 in
theorem xw_242 : Cond.code ⟨"java/lang/Exception", "<init>", "(Ljava/lang/String;)V"⟩ prog_12_method_2_code 2 none ∈ xB := xB_of (i := 242) (by rfl) rfl
theorem xw_243 : Cond.methodLink "java/lang/Exception" 7 ⟨"java/lang/Throwable", "<init>", "(Ljava/lang/String;)V"⟩ ∈ xB := xB_of (i := 243) (by decide +kernel) rfl
theorem xw_244 : Cond.instanceMethod ⟨"java/lang/Throwable", "<init>", "(Ljava/lang/String;)V"⟩ ∈ xB := xB_of (i := 244) (by decide +kernel) rfl
set_option maxRecDepth 100000 in
theorem xw_245 : Cond.code ⟨"java/lang/Throwable", "<init>", "(Ljava/lang/String;)V"⟩ prog_19_method_2_code 2 none ∈ xB := xB_of (i := 245) (by rfl) rfl
theorem xw_246 : Cond.fieldLink "java/lang/Throwable" 198 "java/lang/Throwable" "backtrace" "Ljava/lang/Object;" ∈ xB := xB_of (i := 246) (by decide +kernel) rfl
theorem xw_247 : Cond.fieldLink "java/lang/Throwable" 31 "java/lang/Throwable" "detailMessage" "Ljava/lang/String;" ∈ xB := xB_of (i := 247) (by decide +kernel) rfl
theorem xw_248 : Cond.fieldLink "java/lang/Throwable" 7 "java/lang/Throwable" "cause" "Ljava/lang/Throwable;" ∈ xB := xB_of (i := 248) (by decide +kernel) rfl
theorem xw_249 : Cond.fieldLink "java/lang/Throwable" 17 "java/lang/Throwable" "stackTrace" "[Ljava/lang/StackTraceElement;" ∈ xB := xB_of (i := 249) (by decide +kernel) rfl
theorem xw_250 : Cond.fieldLink "java/lang/Throwable" 24 "java/lang/Throwable" "suppressedExceptions" "Ljava/util/List;" ∈ xB := xB_of (i := 250) (by decide +kernel) rfl
theorem xw_260 : Cond.methodLink RX5 39 yX5_shards ∈ xB := xB_of (i := 260) (by decide +kernel) rfl
theorem xw_261 : Cond.classLink RX5 43 "java/lang/IllegalStateException" ∈ xB := xB_of (i := 261) (by decide +kernel) rfl
theorem xw_262 : Cond.instantiable "java/lang/IllegalStateException" 6 ∈ xB := xB_of (i := 262) (by decide +kernel) rfl
theorem xw_264 : Cond.selects "java/lang/IllegalStateException" ⟨"java/lang/Throwable", "fillInStackTrace", "(I)Ljava/lang/Throwable;"⟩ ⟨"java/lang/Throwable", "fillInStackTrace", "(I)Ljava/lang/Throwable;"⟩ ∈ xB := xB_of (i := 264) (by decide +kernel) rfl
theorem xw_271 : Cond.methodLink RX5 47 ⟨"java/lang/IllegalStateException", "<init>", "(Ljava/lang/String;)V"⟩ ∈ xB := xB_of (i := 271) (by decide +kernel) rfl
theorem xw_272 : Cond.instanceMethod ⟨"java/lang/IllegalStateException", "<init>", "(Ljava/lang/String;)V"⟩ ∈ xB := xB_of (i := 272) (by decide +kernel) rfl
set_option maxRecDepth 100000 in
theorem xw_273 : Cond.code ⟨"java/lang/IllegalStateException", "<init>", "(Ljava/lang/String;)V"⟩ prog_14_method_2_code 2 none ∈ xB := xB_of (i := 273) (by rfl) rfl
theorem xw_274 : Cond.methodLink "java/lang/IllegalStateException" 7 ⟨"java/lang/RuntimeException", "<init>", "(Ljava/lang/String;)V"⟩ ∈ xB := xB_of (i := 274) (by decide +kernel) rfl
theorem xw_277 : Cond.instantiable RX3 5 ∈ xB := xB_of (i := 277) (by decide +kernel) rfl
theorem xw_278 : Cond.methodLink RX5 50 yX3_init ∈ xB := xB_of (i := 278) (by decide +kernel) rfl
theorem xw_279 : Cond.instanceMethod yX3_init ∈ xB := xB_of (i := 279) (by decide +kernel) rfl
set_option maxRecDepth 100000 in
theorem xw_280 : Cond.code yX3_init cX3_init 4 none ∈ xB := xB_of (i := 280) (by rfl) rfl
theorem xw_281 : Cond.methodLink RX3 1 ⟨"java/lang/Object", "<init>", "()V"⟩ ∈ xB := xB_of (i := 281) (by decide +kernel) rfl
theorem xw_282 : Cond.classLink RX3 7 RX0 ∈ xB := xB_of (i := 282) (by decide +kernel) rfl
theorem xw_283 : Cond.instantiable RX0 3 ∈ xB := xB_of (i := 283) (by decide +kernel) rfl
theorem xw_284 : Cond.methodLink RX3 9 yX0_init ∈ xB := xB_of (i := 284) (by decide +kernel) rfl
theorem xw_285 : Cond.instanceMethod yX0_init ∈ xB := xB_of (i := 285) (by decide +kernel) rfl
set_option maxRecDepth 100000 in
theorem xw_286 : Cond.code yX0_init cX0_init 4 none ∈ xB := xB_of (i := 286) (by rfl) rfl
theorem xw_287 : Cond.methodLink RX0 3 ⟨"java/lang/Object", "<init>", "()V"⟩ ∈ xB := xB_of (i := 287) (by decide +kernel) rfl
theorem xw_288 : Cond.fieldLink RX0 9 RX0 "storage" "I" ∈ xB := xB_of (i := 288) (by decide +kernel) rfl
theorem xw_291 : Cond.fieldLink RX0 15 RX0 "load" "I" ∈ xB := xB_of (i := 291) (by decide +kernel) rfl
theorem xw_294 : Cond.fieldLink RX0 18 RX0 "connections" "I" ∈ xB := xB_of (i := 294) (by decide +kernel) rfl
theorem xw_304 : Cond.fieldLink RX3 12 RX3 "limits" "LTenantPlacement$Amounts;" ∈ xB := xB_of (i := 304) (by decide +kernel) rfl
theorem xw_306 : Cond.fieldLink RX3 18 RX3 "use" "LTenantPlacement$Amounts;" ∈ xB := xB_of (i := 306) (by decide +kernel) rfl
theorem xw_308 : Cond.fieldLink RX3 21 RX3 "isOpen" "Z" ∈ xB := xB_of (i := 308) (by decide +kernel) rfl
theorem xw_310 : Cond.fieldLink RX3 25 RX3 "trialUse" "LTenantPlacement$Amounts;" ∈ xB := xB_of (i := 310) (by decide +kernel) rfl
theorem xw_311 : Cond.fieldLink RX3 43 RX3 "trialTenants" "I" ∈ xB := xB_of (i := 311) (by decide +kernel) rfl
theorem xw_323 : Cond.methodLink RL 123 yL_setOpen ∈ xB := xB_of (i := 323) (by decide +kernel) rfl
theorem xw_324 : Cond.static yL_setOpen ∈ xB := xB_of (i := 324) (by decide +kernel) rfl
set_option maxRecDepth 100000 in
theorem xw_325 : Cond.codeWith yL_setOpen cL_setOpen 5 (some .int) [(0, 17, 20, 21)] ∈ xB := xB_of (i := 325) (by rfl) rfl
theorem xw_326 : Cond.classLink RL 21 "java/lang/IndexOutOfBoundsException" ∈ xB := xB_of (i := 326) (by decide +kernel) rfl
theorem xw_327 : Cond.instantiable "java/lang/ArrayIndexOutOfBoundsException" 6 ∈ xB := xB_of (i := 327) (by decide +kernel) rfl
theorem xw_328 : Cond.instanceMethod ⟨"java/lang/ArrayIndexOutOfBoundsException", "<init>", "(Ljava/lang/String;)V"⟩ ∈ xB := xB_of (i := 328) (by decide +kernel) rfl
set_option maxRecDepth 100000 in
theorem xw_329 : Cond.code ⟨"java/lang/ArrayIndexOutOfBoundsException", "<init>", "(Ljava/lang/String;)V"⟩ cJx00060_init_a7421 2 none ∈ xB := xB_of (i := 329) (by rfl) rfl
theorem xw_330 : Cond.methodLink "java/lang/ArrayIndexOutOfBoundsException" 7 ⟨"java/lang/IndexOutOfBoundsException", "<init>", "(Ljava/lang/String;)V"⟩ ∈ xB := xB_of (i := 330) (by decide +kernel) rfl
theorem xw_331 : Cond.instanceMethod ⟨"java/lang/IndexOutOfBoundsException", "<init>", "(Ljava/lang/String;)V"⟩ ∈ xB := xB_of (i := 331) (by decide +kernel) rfl
set_option maxRecDepth 100000 in
theorem xw_332 : Cond.code ⟨"java/lang/IndexOutOfBoundsException", "<init>", "(Ljava/lang/String;)V"⟩ prog_15_method_2_code 2 none ∈ xB := xB_of (i := 332) (by rfl) rfl
theorem xw_333 : Cond.methodLink "java/lang/IndexOutOfBoundsException" 7 ⟨"java/lang/RuntimeException", "<init>", "(Ljava/lang/String;)V"⟩ ∈ xB := xB_of (i := 333) (by decide +kernel) rfl
theorem xw_344 : Cond.selects "java/lang/ArrayIndexOutOfBoundsException" ⟨"java/lang/Throwable", "fillInStackTrace", "(I)Ljava/lang/Throwable;"⟩ ⟨"java/lang/Throwable", "fillInStackTrace", "(I)Ljava/lang/Throwable;"⟩ ∈ xB := xB_of (i := 344) (by decide +kernel) rfl
theorem xw_345 : Cond.instantiable RJ0 4 ∈ xB := xB_of (i := 345) (by decide +kernel) rfl
theorem xw_350 : Cond.methodLink RL 17 yX5_setOpen ∈ xB := xB_of (i := 350) (by decide +kernel) rfl
theorem xw_351 : Cond.instanceMethod yX5_setOpen ∈ xB := xB_of (i := 351) (by decide +kernel) rfl
theorem xw_352 : Cond.selects RX5 yX5_setOpen yX5_setOpen ∈ xB := xB_of (i := 352) (by decide +kernel) rfl
set_option maxRecDepth 100000 in
theorem xw_353 : Cond.code yX5_setOpen cX5_setOpen 5 (some .boolean) ∈ xB := xB_of (i := 353) (by rfl) rfl
theorem xw_354 : Cond.methodLink RX5 52 yX5_knownShard ∈ xB := xB_of (i := 354) (by decide +kernel) rfl
theorem xw_356 : Cond.instanceMethod yX5_knownShard ∈ xB := xB_of (i := 356) (by decide +kernel) rfl
set_option maxRecDepth 100000 in
theorem xw_357 : Cond.code yX5_knownShard cX5_knownShard 3 (some (.object "TenantPlacement$Shard")) ∈ xB := xB_of (i := 357) (by rfl) rfl
theorem xw_358 : Cond.methodLink RX5 287 yX5_shardOrNull ∈ xB := xB_of (i := 358) (by decide +kernel) rfl
theorem xw_360 : Cond.instanceMethod yX5_shardOrNull ∈ xB := xB_of (i := 360) (by decide +kernel) rfl
set_option maxRecDepth 100000 in
theorem xw_361 : Cond.code yX5_shardOrNull cX5_shardOrNull 2 (some (.object "TenantPlacement$Shard")) ∈ xB := xB_of (i := 361) (by rfl) rfl
theorem xw_362 : Cond.classLink RX5 277 "java/lang/IndexOutOfBoundsException" ∈ xB := xB_of (i := 362) (by decide +kernel) rfl
theorem xw_363 : Cond.instantiable "java/lang/IndexOutOfBoundsException" 6 ∈ xB := xB_of (i := 363) (by decide +kernel) rfl
theorem xw_365 : Cond.selects "java/lang/IndexOutOfBoundsException" ⟨"java/lang/Throwable", "fillInStackTrace", "(I)Ljava/lang/Throwable;"⟩ ⟨"java/lang/Throwable", "fillInStackTrace", "(I)Ljava/lang/Throwable;"⟩ ∈ xB := xB_of (i := 365) (by decide +kernel) rfl
theorem xw_372 : Cond.methodLink RX5 281 ⟨"java/lang/IndexOutOfBoundsException", "<init>", "(Ljava/lang/String;)V"⟩ ∈ xB := xB_of (i := 372) (by decide +kernel) rfl
theorem xw_375 : Cond.methodLink RL 127 yL_setLimit ∈ xB := xB_of (i := 375) (by decide +kernel) rfl
theorem xw_376 : Cond.static yL_setLimit ∈ xB := xB_of (i := 376) (by decide +kernel) rfl
set_option maxRecDepth 100000 in
theorem xw_377 : Cond.codeWith yL_setLimit cL_setLimit 6 (some .int) [(0, 12, 15, 21), (0, 12, 19, 13)] ∈ xB := xB_of (i := 377) (by rfl) rfl
theorem xw_378 : Cond.methodLink RL 23 yX5_setLimit ∈ xB := xB_of (i := 378) (by decide +kernel) rfl
theorem xw_379 : Cond.instanceMethod yX5_setLimit ∈ xB := xB_of (i := 379) (by decide +kernel) rfl
theorem xw_380 : Cond.selects RX5 yX5_setLimit yX5_setLimit ∈ xB := xB_of (i := 380) (by decide +kernel) rfl
set_option maxRecDepth 100000 in
theorem xw_381 : Cond.code yX5_setLimit cX5_setLimit 6 (some .int) ∈ xB := xB_of (i := 381) (by rfl) rfl
theorem xw_382 : Cond.methodLink RX5 60 yX5_requireMeasure ∈ xB := xB_of (i := 382) (by decide +kernel) rfl
theorem xw_383 : Cond.static yX5_requireMeasure ∈ xB := xB_of (i := 383) (by decide +kernel) rfl
set_option maxRecDepth 100000 in
theorem xw_384 : Cond.code yX5_requireMeasure cX5_requireMeasure 1 none ∈ xB := xB_of (i := 384) (by rfl) rfl
theorem xw_386 : Cond.methodLink RX5 68 yX0_of ∈ xB := xB_of (i := 386) (by decide +kernel) rfl
theorem xw_387 : Cond.instanceMethod yX0_of ∈ xB := xB_of (i := 387) (by decide +kernel) rfl
theorem xw_388 : Cond.selects RX0 yX0_of yX0_of ∈ xB := xB_of (i := 388) (by decide +kernel) rfl
set_option maxRecDepth 100000 in
theorem xw_389 : Cond.code yX0_of cX0_of 2 (some .int) ∈ xB := xB_of (i := 389) (by rfl) rfl
theorem xw_390 : Cond.methodLink RX5 74 yX0_put ∈ xB := xB_of (i := 390) (by decide +kernel) rfl
theorem xw_391 : Cond.instanceMethod yX0_put ∈ xB := xB_of (i := 391) (by decide +kernel) rfl
theorem xw_392 : Cond.selects RX0 yX0_put yX0_put ∈ xB := xB_of (i := 392) (by decide +kernel) rfl
set_option maxRecDepth 100000 in
theorem xw_393 : Cond.code yX0_put cX0_put 3 none ∈ xB := xB_of (i := 393) (by rfl) rfl
theorem xw_394 : Cond.methodLink RL 130 yL_addTenant ∈ xB := xB_of (i := 394) (by decide +kernel) rfl
theorem xw_395 : Cond.static yL_addTenant ∈ xB := xB_of (i := 395) (by decide +kernel) rfl
set_option maxRecDepth 100000 in
theorem xw_396 : Cond.codeWith yL_addTenant cL_addTenant 8 (some .int) [(0, 16, 19, 21), (0, 16, 23, 13), (0, 16, 27, 30), (0, 16, 31, 15)] ∈ xB := xB_of (i := 396) (by rfl) rfl
theorem xw_397 : Cond.classLink RL 30 "java/lang/UnsupportedOperationException" ∈ xB := xB_of (i := 397) (by decide +kernel) rfl
theorem xw_398 : Cond.methodLink RL 26 yX5_addTenant ∈ xB := xB_of (i := 398) (by decide +kernel) rfl
theorem xw_399 : Cond.instanceMethod yX5_addTenant ∈ xB := xB_of (i := 399) (by decide +kernel) rfl
theorem xw_400 : Cond.selects RX5 yX5_addTenant yX5_addTenant ∈ xB := xB_of (i := 400) (by decide +kernel) rfl
set_option maxRecDepth 100000 in
theorem xw_401 : Cond.code yX5_addTenant cX5_addTenant 9 (some .int) ∈ xB := xB_of (i := 401) (by rfl) rfl
theorem xw_402 : Cond.methodLink RX5 78 yX3_hasRoom ∈ xB := xB_of (i := 402) (by decide +kernel) rfl
theorem xw_403 : Cond.instanceMethod yX3_hasRoom ∈ xB := xB_of (i := 403) (by decide +kernel) rfl
theorem xw_404 : Cond.selects RX3 yX3_hasRoom yX3_hasRoom ∈ xB := xB_of (i := 404) (by decide +kernel) rfl
set_option maxRecDepth 100000 in
theorem xw_405 : Cond.code yX3_hasRoom cX3_hasRoom 4 (some .boolean) ∈ xB := xB_of (i := 405) (by rfl) rfl
theorem xw_406 : Cond.classLink RX5 82 "java/lang/UnsupportedOperationException" ∈ xB := xB_of (i := 406) (by decide +kernel) rfl
theorem xw_407 : Cond.instantiable "java/lang/UnsupportedOperationException" 6 ∈ xB := xB_of (i := 407) (by decide +kernel) rfl
theorem xw_409 : Cond.selects "java/lang/UnsupportedOperationException" ⟨"java/lang/Throwable", "fillInStackTrace", "(I)Ljava/lang/Throwable;"⟩ ⟨"java/lang/Throwable", "fillInStackTrace", "(I)Ljava/lang/Throwable;"⟩ ∈ xB := xB_of (i := 409) (by decide +kernel) rfl
theorem xw_416 : Cond.methodLink RX5 86 ⟨"java/lang/UnsupportedOperationException", "<init>", "(Ljava/lang/String;)V"⟩ ∈ xB := xB_of (i := 416) (by decide +kernel) rfl
theorem xw_417 : Cond.instanceMethod ⟨"java/lang/UnsupportedOperationException", "<init>", "(Ljava/lang/String;)V"⟩ ∈ xB := xB_of (i := 417) (by decide +kernel) rfl
set_option maxRecDepth 100000 in
theorem xw_418 : Cond.code ⟨"java/lang/UnsupportedOperationException", "<init>", "(Ljava/lang/String;)V"⟩ prog_20_method_2_code 2 none ∈ xB := xB_of (i := 418) (by rfl) rfl
theorem xw_419 : Cond.methodLink "java/lang/UnsupportedOperationException" 7 ⟨"java/lang/RuntimeException", "<init>", "(Ljava/lang/String;)V"⟩ ∈ xB := xB_of (i := 419) (by decide +kernel) rfl
theorem xw_422 : Cond.methodLink RX5 87 yX5_tenants ∈ xB := xB_of (i := 422) (by decide +kernel) rfl
theorem xw_424 : Cond.instantiable RX4 8 ∈ xB := xB_of (i := 424) (by decide +kernel) rfl
theorem xw_425 : Cond.methodLink RX5 92 yX4_init ∈ xB := xB_of (i := 425) (by decide +kernel) rfl
theorem xw_426 : Cond.instanceMethod yX4_init ∈ xB := xB_of (i := 426) (by decide +kernel) rfl
set_option maxRecDepth 100000 in
theorem xw_427 : Cond.code yX4_init cX4_init 6 none ∈ xB := xB_of (i := 427) (by rfl) rfl
theorem xw_428 : Cond.methodLink RX4 3 ⟨"java/lang/Object", "<init>", "()V"⟩ ∈ xB := xB_of (i := 428) (by decide +kernel) rfl
theorem xw_429 : Cond.classLink RX4 18 RX0 ∈ xB := xB_of (i := 429) (by decide +kernel) rfl
theorem xw_430 : Cond.methodLink RX4 20 yX0_init ∈ xB := xB_of (i := 430) (by decide +kernel) rfl
theorem xw_431 : Cond.classLink RX4 27 RX1 ∈ xB := xB_of (i := 431) (by decide +kernel) rfl
theorem xw_432 : Cond.methodLink RX4 29 yX1_init ∈ xB := xB_of (i := 432) (by decide +kernel) rfl
theorem xw_433 : Cond.fieldLink RX4 23 RX4 "sizes" "LTenantPlacement$Amounts;" ∈ xB := xB_of (i := 433) (by decide +kernel) rfl
theorem xw_436 : Cond.fieldLink RX4 15 RX4 "growth" "I" ∈ xB := xB_of (i := 436) (by decide +kernel) rfl
theorem xw_438 : Cond.fieldLink RX4 30 RX4 "move" "LTenantPlacement$Move;" ∈ xB := xB_of (i := 438) (by decide +kernel) rfl
theorem xw_440 : Cond.fieldLink RX4 9 RX4 "server" "I" ∈ xB := xB_of (i := 440) (by decide +kernel) rfl
theorem xw_443 : Cond.fieldLink RX4 58 RX4 "windowFirst" "I" ∈ xB := xB_of (i := 443) (by decide +kernel) rfl
theorem xw_445 : Cond.fieldLink RX4 55 RX4 "windowEnd" "I" ∈ xB := xB_of (i := 445) (by decide +kernel) rfl
theorem xw_447 : Cond.fieldLink RX4 34 RX4 "apartFrom" "I" ∈ xB := xB_of (i := 447) (by decide +kernel) rfl
theorem xw_469 : Cond.methodLink RX5 95 yX5_countUse ∈ xB := xB_of (i := 469) (by decide +kernel) rfl
theorem xw_471 : Cond.instanceMethod yX5_countUse ∈ xB := xB_of (i := 471) (by decide +kernel) rfl
set_option maxRecDepth 100000 in
theorem xw_472 : Cond.code yX5_countUse cX5_countUse 7 none ∈ xB := xB_of (i := 472) (by rfl) rfl
theorem xw_473 : Cond.methodLink RX5 236 yX4_useOn ∈ xB := xB_of (i := 473) (by decide +kernel) rfl
theorem xw_474 : Cond.instanceMethod yX4_useOn ∈ xB := xB_of (i := 474) (by decide +kernel) rfl
theorem xw_475 : Cond.selects RX4 yX4_useOn yX4_useOn ∈ xB := xB_of (i := 475) (by decide +kernel) rfl
set_option maxRecDepth 100000 in
theorem xw_476 : Cond.code yX4_useOn cX4_useOn 4 (some .int) ∈ xB := xB_of (i := 476) (by rfl) rfl
theorem xw_477 : Cond.methodLink RX4 44 yX4_isPresentOn ∈ xB := xB_of (i := 477) (by decide +kernel) rfl
theorem xw_478 : Cond.instanceMethod yX4_isPresentOn ∈ xB := xB_of (i := 478) (by decide +kernel) rfl
theorem xw_479 : Cond.selects RX4 yX4_isPresentOn yX4_isPresentOn ∈ xB := xB_of (i := 479) (by decide +kernel) rfl
set_option maxRecDepth 100000 in
theorem xw_480 : Cond.code yX4_isPresentOn cX4_isPresentOn 2 (some .boolean) ∈ xB := xB_of (i := 480) (by rfl) rfl
theorem xw_481 : Cond.methodLink RX4 37 yX1_isBeforeCutting ∈ xB := xB_of (i := 481) (by decide +kernel) rfl
theorem xw_482 : Cond.instanceMethod yX1_isBeforeCutting ∈ xB := xB_of (i := 482) (by decide +kernel) rfl
theorem xw_483 : Cond.selects RX1 yX1_isBeforeCutting yX1_isBeforeCutting ∈ xB := xB_of (i := 483) (by decide +kernel) rfl
set_option maxRecDepth 100000 in
theorem xw_484 : Cond.code yX1_isBeforeCutting cX1_isBeforeCutting 1 (some .boolean) ∈ xB := xB_of (i := 484) (by rfl) rfl
theorem xw_485 : Cond.methodLink RX4 48 yX1_isCleaning ∈ xB := xB_of (i := 485) (by decide +kernel) rfl
theorem xw_486 : Cond.instanceMethod yX1_isCleaning ∈ xB := xB_of (i := 486) (by decide +kernel) rfl
theorem xw_487 : Cond.selects RX1 yX1_isCleaning yX1_isCleaning ∈ xB := xB_of (i := 487) (by decide +kernel) rfl
set_option maxRecDepth 100000 in
theorem xw_488 : Cond.code yX1_isCleaning cX1_isCleaning 2 (some .boolean) ∈ xB := xB_of (i := 488) (by rfl) rfl
theorem xw_489 : Cond.methodLink RX4 51 yX0_of ∈ xB := xB_of (i := 489) (by decide +kernel) rfl
theorem xw_490 : Cond.methodLink RL 134 yL_setSize ∈ xB := xB_of (i := 490) (by decide +kernel) rfl
theorem xw_491 : Cond.static yL_setSize ∈ xB := xB_of (i := 491) (by decide +kernel) rfl
set_option maxRecDepth 100000 in
theorem xw_492 : Cond.codeWith yL_setSize cL_setSize 6 (some .int) [(0, 12, 15, 21), (0, 12, 19, 13)] ∈ xB := xB_of (i := 492) (by rfl) rfl
theorem xw_493 : Cond.methodLink RL 32 yX5_setSize ∈ xB := xB_of (i := 493) (by decide +kernel) rfl
theorem xw_494 : Cond.instanceMethod yX5_setSize ∈ xB := xB_of (i := 494) (by decide +kernel) rfl
theorem xw_495 : Cond.selects RX5 yX5_setSize yX5_setSize ∈ xB := xB_of (i := 495) (by decide +kernel) rfl
set_option maxRecDepth 100000 in
theorem xw_496 : Cond.code yX5_setSize cX5_setSize 6 (some .int) ∈ xB := xB_of (i := 496) (by rfl) rfl
theorem xw_497 : Cond.methodLink RX5 99 yX5_knownTenant ∈ xB := xB_of (i := 497) (by decide +kernel) rfl
theorem xw_499 : Cond.instanceMethod yX5_knownTenant ∈ xB := xB_of (i := 499) (by decide +kernel) rfl
set_option maxRecDepth 100000 in
theorem xw_500 : Cond.code yX5_knownTenant cX5_knownTenant 3 (some (.object "TenantPlacement$Tenant")) ∈ xB := xB_of (i := 500) (by rfl) rfl
theorem xw_502 : Cond.methodLink RL 137 yL_setWindow ∈ xB := xB_of (i := 502) (by decide +kernel) rfl
theorem xw_503 : Cond.static yL_setWindow ∈ xB := xB_of (i := 503) (by decide +kernel) rfl
set_option maxRecDepth 100000 in
theorem xw_504 : Cond.codeWith yL_setWindow cL_setWindow 6 (some .int) [(0, 12, 15, 21), (0, 12, 19, 13)] ∈ xB := xB_of (i := 504) (by rfl) rfl
theorem xw_505 : Cond.methodLink RL 35 yX5_setWindow ∈ xB := xB_of (i := 505) (by decide +kernel) rfl
theorem xw_506 : Cond.instanceMethod yX5_setWindow ∈ xB := xB_of (i := 506) (by decide +kernel) rfl
theorem xw_507 : Cond.selects RX5 yX5_setWindow yX5_setWindow ∈ xB := xB_of (i := 507) (by decide +kernel) rfl
set_option maxRecDepth 100000 in
theorem xw_508 : Cond.code yX5_setWindow cX5_setWindow 5 (some .int) ∈ xB := xB_of (i := 508) (by rfl) rfl
theorem xw_509 : Cond.methodLink RX5 113 yX4_windowHours ∈ xB := xB_of (i := 509) (by decide +kernel) rfl
theorem xw_510 : Cond.instanceMethod yX4_windowHours ∈ xB := xB_of (i := 510) (by decide +kernel) rfl
theorem xw_511 : Cond.selects RX4 yX4_windowHours yX4_windowHours ∈ xB := xB_of (i := 511) (by decide +kernel) rfl
set_option maxRecDepth 100000 in
theorem xw_512 : Cond.code yX4_windowHours cX4_windowHours 2 (some .int) ∈ xB := xB_of (i := 512) (by rfl) rfl
theorem xw_513 : Cond.methodLink RX4 61 yJ9_floorMod_7cf53 ∈ xB := xB_of (i := 513) (by decide +kernel) rfl
theorem xw_514 : Cond.static yJ9_floorMod_7cf53 ∈ xB := xB_of (i := 514) (by decide +kernel) rfl
set_option maxRecDepth 100000 in
theorem xw_515 : Cond.code yJ9_floorMod_7cf53 cJ9_floorMod_7cf53 3 (some .int) ∈ xB := xB_of (i := 515) (by rfl) rfl
theorem xw_516 : Cond.methodLink RL 140 yL_keepApart ∈ xB := xB_of (i := 516) (by decide +kernel) rfl
theorem xw_517 : Cond.static yL_keepApart ∈ xB := xB_of (i := 517) (by decide +kernel) rfl
set_option maxRecDepth 100000 in
theorem xw_518 : Cond.codeWith yL_keepApart cL_keepApart 5 (some .int) [(0, 10, 13, 21), (0, 10, 17, 13), (0, 10, 21, 30), (0, 10, 25, 15)] ∈ xB := xB_of (i := 518) (by rfl) rfl
theorem xw_519 : Cond.methodLink RL 38 yX5_keepApart ∈ xB := xB_of (i := 519) (by decide +kernel) rfl
theorem xw_520 : Cond.instanceMethod yX5_keepApart ∈ xB := xB_of (i := 520) (by decide +kernel) rfl
theorem xw_521 : Cond.selects RX5 yX5_keepApart yX5_keepApart ∈ xB := xB_of (i := 521) (by decide +kernel) rfl
set_option maxRecDepth 100000 in
theorem xw_522 : Cond.code yX5_keepApart cX5_keepApart 5 (some .int) ∈ xB := xB_of (i := 522) (by rfl) rfl
theorem xw_524 : Cond.methodLink RX5 121 yX4_isApartFrom ∈ xB := xB_of (i := 524) (by decide +kernel) rfl
theorem xw_525 : Cond.instanceMethod yX4_isApartFrom ∈ xB := xB_of (i := 525) (by decide +kernel) rfl
theorem xw_526 : Cond.selects RX4 yX4_isApartFrom yX4_isApartFrom ∈ xB := xB_of (i := 526) (by decide +kernel) rfl
set_option maxRecDepth 100000 in
theorem xw_527 : Cond.code yX4_isApartFrom cX4_isApartFrom 2 (some .boolean) ∈ xB := xB_of (i := 527) (by rfl) rfl
theorem xw_530 : Cond.methodLink RL 144 yL_move ∈ xB := xB_of (i := 530) (by decide +kernel) rfl
theorem xw_531 : Cond.static yL_move ∈ xB := xB_of (i := 531) (by decide +kernel) rfl
set_option maxRecDepth 100000 in
theorem xw_532 : Cond.codeWith yL_move cL_move 5 (some .int) [(0, 10, 13, 21), (0, 10, 17, 30), (0, 10, 21, 15)] ∈ xB := xB_of (i := 532) (by rfl) rfl
theorem xw_533 : Cond.methodLink RL 42 yX5_move ∈ xB := xB_of (i := 533) (by decide +kernel) rfl
theorem xw_534 : Cond.instanceMethod yX5_move ∈ xB := xB_of (i := 534) (by decide +kernel) rfl
theorem xw_535 : Cond.selects RX5 yX5_move yX5_move ∈ xB := xB_of (i := 535) (by decide +kernel) rfl
set_option maxRecDepth 100000 in
theorem xw_536 : Cond.code yX5_move cX5_move 5 (some .int) ∈ xB := xB_of (i := 536) (by rfl) rfl
theorem xw_537 : Cond.methodLink RX5 135 yX5_reason ∈ xB := xB_of (i := 537) (by decide +kernel) rfl
theorem xw_538 : Cond.instanceMethod yX5_reason ∈ xB := xB_of (i := 538) (by decide +kernel) rfl
theorem xw_539 : Cond.selects RX5 yX5_reason yX5_reason ∈ xB := xB_of (i := 539) (by decide +kernel) rfl
set_option maxRecDepth 100000 in
theorem xw_540 : Cond.code yX5_reason cX5_reason 6 (some .char) ∈ xB := xB_of (i := 540) (by rfl) rfl
theorem xw_541 : Cond.methodLink RX5 159 yX5_isBarred ∈ xB := xB_of (i := 541) (by decide +kernel) rfl
theorem xw_543 : Cond.instanceMethod yX5_isBarred ∈ xB := xB_of (i := 543) (by decide +kernel) rfl
set_option maxRecDepth 100000 in
theorem xw_544 : Cond.code yX5_isBarred cX5_isBarred 5 (some .boolean) ∈ xB := xB_of (i := 544) (by rfl) rfl
theorem xw_545 : Cond.methodLink RX5 299 yX4_isPresentOn ∈ xB := xB_of (i := 545) (by decide +kernel) rfl
theorem xw_547 : Cond.methodLink RX5 141 yX5_moves ∈ xB := xB_of (i := 547) (by decide +kernel) rfl
theorem xw_549 : Cond.methodLink RX5 152 yX1_begin ∈ xB := xB_of (i := 549) (by decide +kernel) rfl
theorem xw_550 : Cond.instanceMethod yX1_begin ∈ xB := xB_of (i := 550) (by decide +kernel) rfl
theorem xw_551 : Cond.selects RX1 yX1_begin yX1_begin ∈ xB := xB_of (i := 551) (by decide +kernel) rfl
set_option maxRecDepth 100000 in
theorem xw_552 : Cond.code yX1_begin cX1_begin 4 none ∈ xB := xB_of (i := 552) (by rfl) rfl
theorem xw_553 : Cond.methodLink RL 147 yL_reason ∈ xB := xB_of (i := 553) (by decide +kernel) rfl
theorem xw_554 : Cond.static yL_reason ∈ xB := xB_of (i := 554) (by decide +kernel) rfl
set_option maxRecDepth 100000 in
theorem xw_555 : Cond.codeWith yL_reason cL_reason 5 (some .int) [(0, 10, 13, 21)] ∈ xB := xB_of (i := 555) (by rfl) rfl
theorem xw_556 : Cond.methodLink RL 45 yX5_reason ∈ xB := xB_of (i := 556) (by decide +kernel) rfl
theorem xw_557 : Cond.methodLink RL 150 yL_fail ∈ xB := xB_of (i := 557) (by decide +kernel) rfl
theorem xw_558 : Cond.static yL_fail ∈ xB := xB_of (i := 558) (by decide +kernel) rfl
set_option maxRecDepth 100000 in
theorem xw_559 : Cond.codeWith yL_fail cL_fail 4 (some .int) [(0, 9, 12, 21), (0, 9, 15, 15)] ∈ xB := xB_of (i := 559) (by rfl) rfl
theorem xw_560 : Cond.methodLink RL 49 yX5_fail ∈ xB := xB_of (i := 560) (by decide +kernel) rfl
theorem xw_561 : Cond.instanceMethod yX5_fail ∈ xB := xB_of (i := 561) (by decide +kernel) rfl
theorem xw_562 : Cond.selects RX5 yX5_fail yX5_fail ∈ xB := xB_of (i := 562) (by decide +kernel) rfl
set_option maxRecDepth 100000 in
theorem xw_563 : Cond.code yX5_fail cX5_fail 3 (some .char) ∈ xB := xB_of (i := 563) (by rfl) rfl
theorem xw_565 : Cond.methodLink RX5 174 yX1_isBeforeCutting ∈ xB := xB_of (i := 565) (by decide +kernel) rfl
theorem xw_566 : Cond.methodLink RX5 177 yX1_end ∈ xB := xB_of (i := 566) (by decide +kernel) rfl
theorem xw_567 : Cond.instanceMethod yX1_end ∈ xB := xB_of (i := 567) (by decide +kernel) rfl
theorem xw_568 : Cond.selects RX1 yX1_end yX1_end ∈ xB := xB_of (i := 568) (by decide +kernel) rfl
set_option maxRecDepth 100000 in
theorem xw_569 : Cond.code yX1_end cX1_end 1 none ∈ xB := xB_of (i := 569) (by rfl) rfl
theorem xw_570 : Cond.methodLink RX5 180 yX5_canGoBack ∈ xB := xB_of (i := 570) (by decide +kernel) rfl
theorem xw_572 : Cond.instanceMethod yX5_canGoBack ∈ xB := xB_of (i := 572) (by decide +kernel) rfl
set_option maxRecDepth 100000 in
theorem xw_573 : Cond.code yX5_canGoBack cX5_canGoBack 3 (some .boolean) ∈ xB := xB_of (i := 573) (by rfl) rfl
theorem xw_574 : Cond.methodLink RX5 305 yX3_hasRoomBesidesStorage ∈ xB := xB_of (i := 574) (by decide +kernel) rfl
theorem xw_575 : Cond.instanceMethod yX3_hasRoomBesidesStorage ∈ xB := xB_of (i := 575) (by decide +kernel) rfl
theorem xw_576 : Cond.selects RX3 yX3_hasRoomBesidesStorage yX3_hasRoomBesidesStorage ∈ xB := xB_of (i := 576) (by decide +kernel) rfl
set_option maxRecDepth 100000 in
theorem xw_577 : Cond.code yX3_hasRoomBesidesStorage cX3_hasRoomBesidesStorage 2 (some .boolean) ∈ xB := xB_of (i := 577) (by rfl) rfl
theorem xw_578 : Cond.methodLink RX5 184 yX5_goBack ∈ xB := xB_of (i := 578) (by decide +kernel) rfl
theorem xw_580 : Cond.instanceMethod yX5_goBack ∈ xB := xB_of (i := 580) (by decide +kernel) rfl
set_option maxRecDepth 100000 in
theorem xw_581 : Cond.code yX5_goBack cX5_goBack 2 none ∈ xB := xB_of (i := 581) (by rfl) rfl
theorem xw_582 : Cond.methodLink RX5 309 yX1_turnRound ∈ xB := xB_of (i := 582) (by decide +kernel) rfl
theorem xw_583 : Cond.instanceMethod yX1_turnRound ∈ xB := xB_of (i := 583) (by decide +kernel) rfl
theorem xw_584 : Cond.selects RX1 yX1_turnRound yX1_turnRound ∈ xB := xB_of (i := 584) (by decide +kernel) rfl
set_option maxRecDepth 100000 in
theorem xw_585 : Cond.code yX1_turnRound cX1_turnRound 2 none ∈ xB := xB_of (i := 585) (by rfl) rfl
theorem xw_586 : Cond.methodLink RX1 25 yX1_cleanAnew ∈ xB := xB_of (i := 586) (by decide +kernel) rfl
theorem xw_587 : Cond.instanceMethod yX1_cleanAnew ∈ xB := xB_of (i := 587) (by decide +kernel) rfl
theorem xw_588 : Cond.selects RX1 yX1_cleanAnew yX1_cleanAnew ∈ xB := xB_of (i := 588) (by decide +kernel) rfl
set_option maxRecDepth 100000 in
theorem xw_589 : Cond.code yX1_cleanAnew cX1_cleanAnew 1 none ∈ xB := xB_of (i := 589) (by rfl) rfl
theorem xw_590 : Cond.methodLink RX5 188 yX1_cleanAnew ∈ xB := xB_of (i := 590) (by decide +kernel) rfl
theorem xw_591 : Cond.methodLink RL 154 yL_pass ∈ xB := xB_of (i := 591) (by decide +kernel) rfl
theorem xw_592 : Cond.static yL_pass ∈ xB := xB_of (i := 592) (by decide +kernel) rfl
set_option maxRecDepth 100000 in
theorem xw_593 : Cond.codeWith yL_pass cL_pass 4 (some .int) [(0, 9, 12, 13)] ∈ xB := xB_of (i := 593) (by rfl) rfl
theorem xw_594 : Cond.methodLink RL 53 yX5_pass ∈ xB := xB_of (i := 594) (by decide +kernel) rfl
theorem xw_595 : Cond.instanceMethod yX5_pass ∈ xB := xB_of (i := 595) (by decide +kernel) rfl
theorem xw_596 : Cond.selects RX5 yX5_pass yX5_pass ∈ xB := xB_of (i := 596) (by decide +kernel) rfl
set_option maxRecDepth 100000 in
theorem xw_597 : Cond.code yX5_pass cX5_pass 4 (some .int) ∈ xB := xB_of (i := 597) (by rfl) rfl
theorem xw_598 : Cond.methodLink RX5 191 yX5_noteHoursOver ∈ xB := xB_of (i := 598) (by decide +kernel) rfl
theorem xw_600 : Cond.instanceMethod yX5_noteHoursOver ∈ xB := xB_of (i := 600) (by decide +kernel) rfl
set_option maxRecDepth 100000 in
theorem xw_601 : Cond.code yX5_noteHoursOver cX5_noteHoursOver 6 none ∈ xB := xB_of (i := 601) (by rfl) rfl
theorem xw_602 : Cond.methodLink RX5 240 yX3_usesTooMuch ∈ xB := xB_of (i := 602) (by decide +kernel) rfl
theorem xw_603 : Cond.instanceMethod yX3_usesTooMuch ∈ xB := xB_of (i := 603) (by decide +kernel) rfl
theorem xw_604 : Cond.selects RX3 yX3_usesTooMuch yX3_usesTooMuch ∈ xB := xB_of (i := 604) (by decide +kernel) rfl
set_option maxRecDepth 100000 in
theorem xw_605 : Cond.code yX3_usesTooMuch cX3_usesTooMuch 1 (some .boolean) ∈ xB := xB_of (i := 605) (by rfl) rfl
theorem xw_606 : Cond.methodLink RX5 194 yX5_goOnWithMoves ∈ xB := xB_of (i := 606) (by decide +kernel) rfl
theorem xw_608 : Cond.instanceMethod yX5_goOnWithMoves ∈ xB := xB_of (i := 608) (by decide +kernel) rfl
set_option maxRecDepth 100000 in
theorem xw_609 : Cond.code yX5_goOnWithMoves cX5_goOnWithMoves 6 (some .int) ∈ xB := xB_of (i := 609) (by rfl) rfl
theorem xw_610 : Cond.methodLink RX5 312 yX5_goOn ∈ xB := xB_of (i := 610) (by decide +kernel) rfl
theorem xw_612 : Cond.instanceMethod yX5_goOn ∈ xB := xB_of (i := 612) (by decide +kernel) rfl
set_option maxRecDepth 100000 in
theorem xw_613 : Cond.code yX5_goOn cX5_goOn 3 (some .boolean) ∈ xB := xB_of (i := 613) (by rfl) rfl
theorem xw_614 : Cond.methodLink RX5 200 yX5_hourOfDay ∈ xB := xB_of (i := 614) (by decide +kernel) rfl
theorem xw_615 : Cond.static yX5_hourOfDay ∈ xB := xB_of (i := 615) (by decide +kernel) rfl
set_option maxRecDepth 100000 in
theorem xw_616 : Cond.code yX5_hourOfDay cX5_hourOfDay 1 (some .int) ∈ xB := xB_of (i := 616) (by rfl) rfl
theorem xw_617 : Cond.methodLink RX5 294 yJ9_floorMod_7cf53 ∈ xB := xB_of (i := 617) (by decide +kernel) rfl
theorem xw_618 : Cond.methodLink RX5 226 yX4_isInWindow ∈ xB := xB_of (i := 618) (by decide +kernel) rfl
theorem xw_619 : Cond.instanceMethod yX4_isInWindow ∈ xB := xB_of (i := 619) (by decide +kernel) rfl
theorem xw_620 : Cond.selects RX4 yX4_isInWindow yX4_isInWindow ∈ xB := xB_of (i := 620) (by decide +kernel) rfl
set_option maxRecDepth 100000 in
theorem xw_621 : Cond.code yX4_isInWindow cX4_isInWindow 2 (some .boolean) ∈ xB := xB_of (i := 621) (by rfl) rfl
theorem xw_622 : Cond.methodLink RX4 67 yX4_windowHours ∈ xB := xB_of (i := 622) (by decide +kernel) rfl
theorem xw_623 : Cond.methodLink RX5 229 yX1_goOn ∈ xB := xB_of (i := 623) (by decide +kernel) rfl
theorem xw_624 : Cond.instanceMethod yX1_goOn ∈ xB := xB_of (i := 624) (by decide +kernel) rfl
theorem xw_625 : Cond.selects RX1 yX1_goOn yX1_goOn ∈ xB := xB_of (i := 625) (by decide +kernel) rfl
set_option maxRecDepth 100000 in
theorem xw_626 : Cond.code yX1_goOn cX1_goOn 2 (some .boolean) ∈ xB := xB_of (i := 626) (by rfl) rfl
theorem xw_627 : Cond.methodLink RX5 203 yX5_growStorage ∈ xB := xB_of (i := 627) (by decide +kernel) rfl
theorem xw_629 : Cond.instanceMethod yX5_growStorage ∈ xB := xB_of (i := 629) (by decide +kernel) rfl
set_option maxRecDepth 100000 in
theorem xw_630 : Cond.code yX5_growStorage cX5_growStorage 6 none ∈ xB := xB_of (i := 630) (by rfl) rfl
theorem xw_631 : Cond.methodLink RX5 317 yJ9_min_7cf53 ∈ xB := xB_of (i := 631) (by decide +kernel) rfl
theorem xw_632 : Cond.methodLink RL 161 yL_phase ∈ xB := xB_of (i := 632) (by decide +kernel) rfl
theorem xw_633 : Cond.static yL_phase ∈ xB := xB_of (i := 633) (by decide +kernel) rfl
set_option maxRecDepth 100000 in
theorem xw_634 : Cond.codeWith yL_phase cL_phase 4 (some .int) [(0, 9, 12, 21)] ∈ xB := xB_of (i := 634) (by rfl) rfl
theorem xw_635 : Cond.methodLink RL 57 yX5_phase ∈ xB := xB_of (i := 635) (by decide +kernel) rfl
theorem xw_636 : Cond.instanceMethod yX5_phase ∈ xB := xB_of (i := 636) (by decide +kernel) rfl
theorem xw_637 : Cond.selects RX5 yX5_phase yX5_phase ∈ xB := xB_of (i := 637) (by decide +kernel) rfl
set_option maxRecDepth 100000 in
theorem xw_638 : Cond.code yX5_phase cX5_phase 2 (some .char) ∈ xB := xB_of (i := 638) (by rfl) rfl
theorem xw_639 : Cond.methodLink RL 164 yL_targetOf ∈ xB := xB_of (i := 639) (by decide +kernel) rfl
theorem xw_640 : Cond.static yL_targetOf ∈ xB := xB_of (i := 640) (by decide +kernel) rfl
set_option maxRecDepth 100000 in
theorem xw_641 : Cond.codeWith yL_targetOf cL_targetOf 4 (some .int) [(0, 9, 12, 21), (0, 9, 15, 63)] ∈ xB := xB_of (i := 641) (by rfl) rfl
theorem xw_642 : Cond.classLink RL 63 "java/util/NoSuchElementException" ∈ xB := xB_of (i := 642) (by decide +kernel) rfl
theorem xw_643 : Cond.methodLink RL 60 yX5_targetOf ∈ xB := xB_of (i := 643) (by decide +kernel) rfl
theorem xw_644 : Cond.instanceMethod yX5_targetOf ∈ xB := xB_of (i := 644) (by decide +kernel) rfl
theorem xw_645 : Cond.selects RX5 yX5_targetOf yX5_targetOf ∈ xB := xB_of (i := 645) (by decide +kernel) rfl
set_option maxRecDepth 100000 in
theorem xw_646 : Cond.code yX5_targetOf cX5_targetOf 2 (some .int) ∈ xB := xB_of (i := 646) (by rfl) rfl
theorem xw_647 : Cond.methodLink RX5 210 yX5_movingTenant ∈ xB := xB_of (i := 647) (by decide +kernel) rfl
theorem xw_649 : Cond.instanceMethod yX5_movingTenant ∈ xB := xB_of (i := 649) (by decide +kernel) rfl
set_option maxRecDepth 100000 in
theorem xw_650 : Cond.code yX5_movingTenant cX5_movingTenant 3 (some (.object "TenantPlacement$Tenant")) ∈ xB := xB_of (i := 650) (by rfl) rfl
theorem xw_651 : Cond.classLink RX5 282 "java/util/NoSuchElementException" ∈ xB := xB_of (i := 651) (by decide +kernel) rfl
theorem xw_652 : Cond.instantiable "java/util/NoSuchElementException" 6 ∈ xB := xB_of (i := 652) (by decide +kernel) rfl
theorem xw_654 : Cond.selects "java/util/NoSuchElementException" ⟨"java/lang/Throwable", "fillInStackTrace", "(I)Ljava/lang/Throwable;"⟩ ⟨"java/lang/Throwable", "fillInStackTrace", "(I)Ljava/lang/Throwable;"⟩ ∈ xB := xB_of (i := 654) (by decide +kernel) rfl
theorem xw_660 : Cond.methodLink RX5 286 ⟨"java/util/NoSuchElementException", "<init>", "(Ljava/lang/String;)V"⟩ ∈ xB := xB_of (i := 660) (by decide +kernel) rfl
theorem xw_661 : Cond.instanceMethod ⟨"java/util/NoSuchElementException", "<init>", "(Ljava/lang/String;)V"⟩ ∈ xB := xB_of (i := 661) (by decide +kernel) rfl
set_option maxRecDepth 100000 in
theorem xw_662 : Cond.code ⟨"java/util/NoSuchElementException", "<init>", "(Ljava/lang/String;)V"⟩ prog_21_method_4_code 2 none ∈ xB := xB_of (i := 662) (by rfl) rfl
theorem xw_663 : Cond.methodLink "java/util/NoSuchElementException" 13 ⟨"java/lang/RuntimeException", "<init>", "(Ljava/lang/String;)V"⟩ ∈ xB := xB_of (i := 663) (by decide +kernel) rfl
theorem xw_666 : Cond.methodLink RL 167 yL_hoursLeft ∈ xB := xB_of (i := 666) (by decide +kernel) rfl
theorem xw_667 : Cond.static yL_hoursLeft ∈ xB := xB_of (i := 667) (by decide +kernel) rfl
set_option maxRecDepth 100000 in
theorem xw_668 : Cond.codeWith yL_hoursLeft cL_hoursLeft 4 (some .int) [(0, 9, 12, 21), (0, 9, 15, 63)] ∈ xB := xB_of (i := 668) (by rfl) rfl
theorem xw_669 : Cond.methodLink RL 65 yX5_hoursLeft ∈ xB := xB_of (i := 669) (by decide +kernel) rfl
theorem xw_670 : Cond.instanceMethod yX5_hoursLeft ∈ xB := xB_of (i := 670) (by decide +kernel) rfl
theorem xw_671 : Cond.selects RX5 yX5_hoursLeft yX5_hoursLeft ∈ xB := xB_of (i := 671) (by decide +kernel) rfl
set_option maxRecDepth 100000 in
theorem xw_672 : Cond.code yX5_hoursLeft cX5_hoursLeft 5 (some .int) ∈ xB := xB_of (i := 672) (by rfl) rfl
theorem xw_673 : Cond.methodLink RX5 219 yX4_hoursToWindow ∈ xB := xB_of (i := 673) (by decide +kernel) rfl
theorem xw_674 : Cond.instanceMethod yX4_hoursToWindow ∈ xB := xB_of (i := 674) (by decide +kernel) rfl
theorem xw_675 : Cond.selects RX4 yX4_hoursToWindow yX4_hoursToWindow ∈ xB := xB_of (i := 675) (by decide +kernel) rfl
set_option maxRecDepth 100000 in
theorem xw_676 : Cond.code yX4_hoursToWindow cX4_hoursToWindow 2 (some .int) ∈ xB := xB_of (i := 676) (by rfl) rfl
theorem xw_677 : Cond.methodLink RX4 71 yX4_isInWindow ∈ xB := xB_of (i := 677) (by decide +kernel) rfl
theorem xw_678 : Cond.methodLink RL 170 yL_hoursByPassing ∈ xB := xB_of (i := 678) (by decide +kernel) rfl
theorem xw_679 : Cond.static yL_hoursByPassing ∈ xB := xB_of (i := 679) (by decide +kernel) rfl
set_option maxRecDepth 100000 in
theorem xw_680 : Cond.codeWith yL_hoursByPassing cL_hoursByPassing 4 (some .int) [(0, 9, 12, 21), (0, 9, 15, 63)] ∈ xB := xB_of (i := 680) (by rfl) rfl
theorem xw_681 : Cond.methodLink RL 68 yX5_hoursByPassing ∈ xB := xB_of (i := 681) (by decide +kernel) rfl
theorem xw_682 : Cond.instanceMethod yX5_hoursByPassing ∈ xB := xB_of (i := 682) (by decide +kernel) rfl
theorem xw_683 : Cond.selects RX5 yX5_hoursByPassing yX5_hoursByPassing ∈ xB := xB_of (i := 683) (by decide +kernel) rfl
set_option maxRecDepth 100000 in
theorem xw_684 : Cond.code yX5_hoursByPassing cX5_hoursByPassing 4 (some .int) ∈ xB := xB_of (i := 684) (by rfl) rfl
theorem xw_685 : Cond.methodLink RX5 222 yX1_copyFrom ∈ xB := xB_of (i := 685) (by decide +kernel) rfl
theorem xw_686 : Cond.instanceMethod yX1_copyFrom ∈ xB := xB_of (i := 686) (by decide +kernel) rfl
theorem xw_687 : Cond.selects RX1 yX1_copyFrom yX1_copyFrom ∈ xB := xB_of (i := 687) (by decide +kernel) rfl
set_option maxRecDepth 100000 in
theorem xw_688 : Cond.code yX1_copyFrom cX1_copyFrom 2 none ∈ xB := xB_of (i := 688) (by rfl) rfl
theorem xw_689 : Cond.methodLink RL 185 yL_servedBy ∈ xB := xB_of (i := 689) (by decide +kernel) rfl
theorem xw_690 : Cond.static yL_servedBy ∈ xB := xB_of (i := 690) (by decide +kernel) rfl
set_option maxRecDepth 100000 in
theorem xw_691 : Cond.codeWith yL_servedBy cL_servedBy 4 (some .int) [(0, 9, 12, 21)] ∈ xB := xB_of (i := 691) (by rfl) rfl
theorem xw_692 : Cond.methodLink RL 71 yX5_servedBy ∈ xB := xB_of (i := 692) (by decide +kernel) rfl
theorem xw_693 : Cond.instanceMethod yX5_servedBy ∈ xB := xB_of (i := 693) (by decide +kernel) rfl
theorem xw_694 : Cond.selects RX5 yX5_servedBy yX5_servedBy ∈ xB := xB_of (i := 694) (by decide +kernel) rfl
set_option maxRecDepth 100000 in
theorem xw_695 : Cond.code yX5_servedBy cX5_servedBy 2 (some .int) ∈ xB := xB_of (i := 695) (by rfl) rfl
theorem xw_696 : Cond.methodLink RL 188 yL_sizeOf ∈ xB := xB_of (i := 696) (by decide +kernel) rfl
theorem xw_697 : Cond.static yL_sizeOf ∈ xB := xB_of (i := 697) (by decide +kernel) rfl
set_option maxRecDepth 100000 in
theorem xw_698 : Cond.codeWith yL_sizeOf cL_sizeOf 5 (some .int) [(0, 10, 13, 21)] ∈ xB := xB_of (i := 698) (by rfl) rfl
theorem xw_699 : Cond.methodLink RL 74 yX5_sizeOf ∈ xB := xB_of (i := 699) (by decide +kernel) rfl
theorem xw_700 : Cond.instanceMethod yX5_sizeOf ∈ xB := xB_of (i := 700) (by decide +kernel) rfl
theorem xw_701 : Cond.selects RX5 yX5_sizeOf yX5_sizeOf ∈ xB := xB_of (i := 701) (by decide +kernel) rfl
set_option maxRecDepth 100000 in
theorem xw_702 : Cond.code yX5_sizeOf cX5_sizeOf 4 (some .int) ∈ xB := xB_of (i := 702) (by rfl) rfl
theorem xw_703 : Cond.methodLink RL 191 yL_used ∈ xB := xB_of (i := 703) (by decide +kernel) rfl
theorem xw_704 : Cond.static yL_used ∈ xB := xB_of (i := 704) (by decide +kernel) rfl
set_option maxRecDepth 100000 in
theorem xw_705 : Cond.codeWith yL_used cL_used 5 (some .int) [(0, 10, 13, 21)] ∈ xB := xB_of (i := 705) (by rfl) rfl
theorem xw_706 : Cond.methodLink RL 77 yX5_used ∈ xB := xB_of (i := 706) (by decide +kernel) rfl
theorem xw_707 : Cond.instanceMethod yX5_used ∈ xB := xB_of (i := 707) (by decide +kernel) rfl
theorem xw_708 : Cond.selects RX5 yX5_used yX5_used ∈ xB := xB_of (i := 708) (by decide +kernel) rfl
set_option maxRecDepth 100000 in
theorem xw_709 : Cond.code yX5_used cX5_used 4 (some .int) ∈ xB := xB_of (i := 709) (by rfl) rfl
theorem xw_710 : Cond.methodLink RL 194 yL_usedByLooking ∈ xB := xB_of (i := 710) (by decide +kernel) rfl
theorem xw_711 : Cond.static yL_usedByLooking ∈ xB := xB_of (i := 711) (by decide +kernel) rfl
set_option maxRecDepth 100000 in
theorem xw_712 : Cond.codeWith yL_usedByLooking cL_usedByLooking 5 (some .int) [(0, 10, 13, 21)] ∈ xB := xB_of (i := 712) (by rfl) rfl
theorem xw_713 : Cond.methodLink RL 80 yX5_usedByLooking ∈ xB := xB_of (i := 713) (by decide +kernel) rfl
theorem xw_714 : Cond.instanceMethod yX5_usedByLooking ∈ xB := xB_of (i := 714) (by decide +kernel) rfl
theorem xw_715 : Cond.selects RX5 yX5_usedByLooking yX5_usedByLooking ∈ xB := xB_of (i := 715) (by decide +kernel) rfl
set_option maxRecDepth 100000 in
theorem xw_716 : Cond.code yX5_usedByLooking cX5_usedByLooking 8 (some .int) ∈ xB := xB_of (i := 716) (by rfl) rfl
theorem xw_717 : Cond.methodLink RL 197 yL_isOver ∈ xB := xB_of (i := 717) (by decide +kernel) rfl
theorem xw_718 : Cond.static yL_isOver ∈ xB := xB_of (i := 718) (by decide +kernel) rfl
set_option maxRecDepth 100000 in
theorem xw_719 : Cond.codeWith yL_isOver cL_isOver 4 (some .int) [(0, 16, 19, 21)] ∈ xB := xB_of (i := 719) (by rfl) rfl
theorem xw_720 : Cond.methodLink RL 83 yX5_isOver ∈ xB := xB_of (i := 720) (by decide +kernel) rfl
theorem xw_721 : Cond.instanceMethod yX5_isOver ∈ xB := xB_of (i := 721) (by decide +kernel) rfl
theorem xw_722 : Cond.selects RX5 yX5_isOver yX5_isOver ∈ xB := xB_of (i := 722) (by decide +kernel) rfl
set_option maxRecDepth 100000 in
theorem xw_723 : Cond.code yX5_isOver cX5_isOver 2 (some .boolean) ∈ xB := xB_of (i := 723) (by rfl) rfl
theorem xw_724 : Cond.methodLink RL 200 yL_served ∈ xB := xB_of (i := 724) (by decide +kernel) rfl
theorem xw_725 : Cond.static yL_served ∈ xB := xB_of (i := 725) (by decide +kernel) rfl
set_option maxRecDepth 100000 in
theorem xw_726 : Cond.codeWith yL_served cL_served 4 (some .int) [(0, 9, 12, 21)] ∈ xB := xB_of (i := 726) (by rfl) rfl
theorem xw_727 : Cond.methodLink RL 87 yX5_served ∈ xB := xB_of (i := 727) (by decide +kernel) rfl
theorem xw_728 : Cond.instanceMethod yX5_served ∈ xB := xB_of (i := 728) (by decide +kernel) rfl
theorem xw_729 : Cond.selects RX5 yX5_served yX5_served ∈ xB := xB_of (i := 729) (by decide +kernel) rfl
set_option maxRecDepth 100000 in
theorem xw_730 : Cond.code yX5_served cX5_served 7 (some .int) ∈ xB := xB_of (i := 730) (by rfl) rfl
theorem xw_731 : Cond.methodLink RL 203 yL_fewestMoves ∈ xB := xB_of (i := 731) (by decide +kernel) rfl
theorem xw_732 : Cond.static yL_fewestMoves ∈ xB := xB_of (i := 732) (by decide +kernel) rfl
set_option maxRecDepth 100000 in
theorem xw_733 : Cond.codeWith yL_fewestMoves cL_fewestMoves 3 (some .int) [(0, 8, 11, 63)] ∈ xB := xB_of (i := 733) (by rfl) rfl
theorem xw_734 : Cond.methodLink RL 90 yX5_fewestMoves ∈ xB := xB_of (i := 734) (by decide +kernel) rfl
theorem xw_735 : Cond.instanceMethod yX5_fewestMoves ∈ xB := xB_of (i := 735) (by decide +kernel) rfl
theorem xw_736 : Cond.selects RX5 yX5_fewestMoves yX5_fewestMoves ∈ xB := xB_of (i := 736) (by decide +kernel) rfl
set_option maxRecDepth 100000 in
theorem xw_737 : Cond.code yX5_fewestMoves cX5_fewestMoves 2 (some .int) ∈ xB := xB_of (i := 737) (by rfl) rfl
theorem xw_738 : Cond.methodLink RX5 243 yX2_findBest ∈ xB := xB_of (i := 738) (by decide +kernel) rfl
theorem xw_739 : Cond.instanceMethod yX2_findBest ∈ xB := xB_of (i := 739) (by decide +kernel) rfl
theorem xw_740 : Cond.selects RX2 yX2_findBest yX2_findBest ∈ xB := xB_of (i := 740) (by decide +kernel) rfl
set_option maxRecDepth 100000 in
theorem xw_741 : Cond.code yX2_findBest cX2_findBest 4 (some .int) ∈ xB := xB_of (i := 741) (by rfl) rfl
theorem xw_742 : Cond.methodLink RX2 26 yX2_findFrom ∈ xB := xB_of (i := 742) (by decide +kernel) rfl
theorem xw_743 : Cond.static yX2_findFrom ∈ xB := xB_of (i := 743) (by decide +kernel) rfl
set_option maxRecDepth 100000 in
theorem xw_744 : Cond.code yX2_findFrom cX2_findFrom 8 (some .boolean) ∈ xB := xB_of (i := 744) (by rfl) rfl
theorem xw_745 : Cond.methodLink RX5 247 yX5_requirePlan ∈ xB := xB_of (i := 745) (by decide +kernel) rfl
theorem xw_746 : Cond.static yX5_requirePlan ∈ xB := xB_of (i := 746) (by decide +kernel) rfl
set_option maxRecDepth 100000 in
theorem xw_747 : Cond.code yX5_requirePlan cX5_requirePlan 1 none ∈ xB := xB_of (i := 747) (by rfl) rfl
theorem xw_749 : Cond.methodLink RL 207 yL_fewestByTrying ∈ xB := xB_of (i := 749) (by decide +kernel) rfl
theorem xw_750 : Cond.static yL_fewestByTrying ∈ xB := xB_of (i := 750) (by decide +kernel) rfl
set_option maxRecDepth 100000 in
theorem xw_751 : Cond.codeWith yL_fewestByTrying cL_fewestByTrying 3 (some .int) [(0, 8, 11, 63)] ∈ xB := xB_of (i := 751) (by rfl) rfl
theorem xw_752 : Cond.methodLink RL 94 yX5_fewestByTrying ∈ xB := xB_of (i := 752) (by decide +kernel) rfl
theorem xw_753 : Cond.instanceMethod yX5_fewestByTrying ∈ xB := xB_of (i := 753) (by decide +kernel) rfl
theorem xw_754 : Cond.selects RX5 yX5_fewestByTrying yX5_fewestByTrying ∈ xB := xB_of (i := 754) (by decide +kernel) rfl
set_option maxRecDepth 100000 in
theorem xw_755 : Cond.code yX5_fewestByTrying cX5_fewestByTrying 1 (some .int) ∈ xB := xB_of (i := 755) (by rfl) rfl
theorem xw_756 : Cond.methodLink RL 210 yL_planned ∈ xB := xB_of (i := 756) (by decide +kernel) rfl
theorem xw_757 : Cond.static yL_planned ∈ xB := xB_of (i := 757) (by decide +kernel) rfl
set_option maxRecDepth 100000 in
theorem xw_758 : Cond.codeWith yL_planned cL_planned 4 (some .int) [(0, 9, 12, 21), (0, 9, 15, 63)] ∈ xB := xB_of (i := 758) (by rfl) rfl
theorem xw_759 : Cond.methodLink RL 97 yX5_planned ∈ xB := xB_of (i := 759) (by decide +kernel) rfl
theorem xw_760 : Cond.instanceMethod yX5_planned ∈ xB := xB_of (i := 760) (by decide +kernel) rfl
theorem xw_761 : Cond.selects RX5 yX5_planned yX5_planned ∈ xB := xB_of (i := 761) (by decide +kernel) rfl
set_option maxRecDepth 100000 in
theorem xw_762 : Cond.code yX5_planned cX5_planned 3 (some .int) ∈ xB := xB_of (i := 762) (by rfl) rfl
theorem xw_763 : Cond.methodLink RL 226 yL_shareOf ∈ xB := xB_of (i := 763) (by decide +kernel) rfl
theorem xw_764 : Cond.static yL_shareOf ∈ xB := xB_of (i := 764) (by decide +kernel) rfl
set_option maxRecDepth 100000 in
theorem xw_765 : Cond.codeWith yL_shareOf cL_shareOf 5 (some .int) [(0, 10, 13, 21)] ∈ xB := xB_of (i := 765) (by rfl) rfl
theorem xw_766 : Cond.methodLink RL 100 yX5_shareOf ∈ xB := xB_of (i := 766) (by decide +kernel) rfl
theorem xw_767 : Cond.instanceMethod yX5_shareOf ∈ xB := xB_of (i := 767) (by decide +kernel) rfl
theorem xw_768 : Cond.selects RX5 yX5_shareOf yX5_shareOf ∈ xB := xB_of (i := 768) (by decide +kernel) rfl
set_option maxRecDepth 100000 in
theorem xw_769 : Cond.code yX5_shareOf cX5_shareOf 5 (some .float) ∈ xB := xB_of (i := 769) (by rfl) rfl
theorem xw_770 : Cond.methodLink RL 230 yL_meanStorage ∈ xB := xB_of (i := 770) (by decide +kernel) rfl
theorem xw_771 : Cond.static yL_meanStorage ∈ xB := xB_of (i := 771) (by decide +kernel) rfl
set_option maxRecDepth 100000 in
theorem xw_772 : Cond.codeWith yL_meanStorage cL_meanStorage 3 (some .int) [(0, 7, 10, 108)] ∈ xB := xB_of (i := 772) (by rfl) rfl
theorem xw_773 : Cond.classLink RL 108 "java/lang/ArithmeticException" ∈ xB := xB_of (i := 773) (by decide +kernel) rfl
theorem xw_774 : Cond.instantiable "java/lang/ArithmeticException" 6 ∈ xB := xB_of (i := 774) (by decide +kernel) rfl
theorem xw_775 : Cond.instanceMethod ⟨"java/lang/ArithmeticException", "<init>", "(Ljava/lang/String;)V"⟩ ∈ xB := xB_of (i := 775) (by decide +kernel) rfl
set_option maxRecDepth 100000 in
theorem xw_776 : Cond.code ⟨"java/lang/ArithmeticException", "<init>", "(Ljava/lang/String;)V"⟩ prog_10_method_2_code 2 none ∈ xB := xB_of (i := 776) (by rfl) rfl
theorem xw_777 : Cond.methodLink "java/lang/ArithmeticException" 7 ⟨"java/lang/RuntimeException", "<init>", "(Ljava/lang/String;)V"⟩ ∈ xB := xB_of (i := 777) (by decide +kernel) rfl
theorem xw_786 : Cond.selects "java/lang/ArithmeticException" ⟨"java/lang/Throwable", "fillInStackTrace", "(I)Ljava/lang/Throwable;"⟩ ⟨"java/lang/Throwable", "fillInStackTrace", "(I)Ljava/lang/Throwable;"⟩ ∈ xB := xB_of (i := 786) (by decide +kernel) rfl
theorem xw_787 : Cond.methodLink RL 104 yX5_meanStorage ∈ xB := xB_of (i := 787) (by decide +kernel) rfl
theorem xw_788 : Cond.instanceMethod yX5_meanStorage ∈ xB := xB_of (i := 788) (by decide +kernel) rfl
theorem xw_789 : Cond.selects RX5 yX5_meanStorage yX5_meanStorage ∈ xB := xB_of (i := 789) (by decide +kernel) rfl
set_option maxRecDepth 100000 in
theorem xw_790 : Cond.code yX5_meanStorage cX5_meanStorage 7 (some .double) ∈ xB := xB_of (i := 790) (by rfl) rfl
theorem xw_791 : Cond.classLink RX5 270 "java/lang/ArithmeticException" ∈ xB := xB_of (i := 791) (by decide +kernel) rfl
theorem xw_793 : Cond.methodLink RX5 274 ⟨"java/lang/ArithmeticException", "<init>", "(Ljava/lang/String;)V"⟩ ∈ xB := xB_of (i := 793) (by decide +kernel) rfl
theorem xw_794 : Cond.classLink RL 111 RX6 ∈ xB := xB_of (i := 794) (by decide +kernel) rfl
theorem xw_795 : Cond.instantiable RX6 23 ∈ xB := xB_of (i := 795) (by decide +kernel) rfl
theorem xw_796 : Cond.methodLink RL 113 yX6_init ∈ xB := xB_of (i := 796) (by decide +kernel) rfl
theorem xw_797 : Cond.instanceMethod yX6_init ∈ xB := xB_of (i := 797) (by decide +kernel) rfl
set_option maxRecDepth 100000 in
theorem xw_798 : Cond.code yX6_init cX6_init 1 none ∈ xB := xB_of (i := 798) (by rfl) rfl
theorem xw_799 : Cond.methodLink RX6 1 ⟨"java/lang/Object", "<init>", "()V"⟩ ∈ xB := xB_of (i := 799) (by decide +kernel) rfl
theorem xw_800 : Cond.fieldLink RX6 60 RX6 "shards" "I" ∈ xB := xB_of (i := 800) (by decide +kernel) rfl
theorem xw_801 : Cond.fieldLink RX6 7 RX6 "limits" "[I" ∈ xB := xB_of (i := 801) (by decide +kernel) rfl
theorem xw_802 : Cond.fieldLink RX6 13 RX6 "areClosed" "[Z" ∈ xB := xB_of (i := 802) (by decide +kernel) rfl
theorem xw_803 : Cond.fieldLink RX6 67 RX6 "tenants" "I" ∈ xB := xB_of (i := 803) (by decide +kernel) rfl
theorem xw_804 : Cond.fieldLink RX6 17 RX6 "sizes" "[I" ∈ xB := xB_of (i := 804) (by decide +kernel) rfl
theorem xw_805 : Cond.fieldLink RX6 20 RX6 "growths" "[I" ∈ xB := xB_of (i := 805) (by decide +kernel) rfl
theorem xw_806 : Cond.fieldLink RX6 23 RX6 "firsts" "[I" ∈ xB := xB_of (i := 806) (by decide +kernel) rfl
theorem xw_807 : Cond.fieldLink RX6 26 RX6 "ends" "[I" ∈ xB := xB_of (i := 807) (by decide +kernel) rfl
theorem xw_808 : Cond.fieldLink RX6 29 RX6 "servers" "[I" ∈ xB := xB_of (i := 808) (by decide +kernel) rfl
theorem xw_809 : Cond.fieldLink RX6 32 RX6 "phases" "[I" ∈ xB := xB_of (i := 809) (by decide +kernel) rfl
theorem xw_810 : Cond.fieldLink RX6 35 RX6 "sources" "[I" ∈ xB := xB_of (i := 810) (by decide +kernel) rfl
theorem xw_811 : Cond.fieldLink RX6 38 RX6 "targets" "[I" ∈ xB := xB_of (i := 811) (by decide +kernel) rfl
theorem xw_812 : Cond.fieldLink RX6 41 RX6 "lefts" "[I" ∈ xB := xB_of (i := 812) (by decide +kernel) rfl
theorem xw_813 : Cond.fieldLink RX6 97 RX6 "pairs" "I" ∈ xB := xB_of (i := 813) (by decide +kernel) rfl
theorem xw_814 : Cond.fieldLink RX6 44 RX6 "pairOnes" "[I" ∈ xB := xB_of (i := 814) (by decide +kernel) rfl
theorem xw_815 : Cond.fieldLink RX6 47 RX6 "pairOthers" "[I" ∈ xB := xB_of (i := 815) (by decide +kernel) rfl
theorem xw_816 : Cond.fieldLink RX6 120 RX6 "time" "I" ∈ xB := xB_of (i := 816) (by decide +kernel) rfl
theorem xw_817 : Cond.fieldLink RX6 117 RX6 "switches" "I" ∈ xB := xB_of (i := 817) (by decide +kernel) rfl
theorem xw_818 : Cond.fieldLink RX6 126 RX6 "over" "J" ∈ xB := xB_of (i := 818) (by decide +kernel) rfl
theorem xw_819 : Cond.fieldLink RX6 50 RX6 "plan" "[I" ∈ xB := xB_of (i := 819) (by decide +kernel) rfl
theorem xw_820 : Cond.fieldLink RX6 53 RX6 "best" "[I" ∈ xB := xB_of (i := 820) (by decide +kernel) rfl
theorem xw_821 : Cond.fieldLink RX6 155 RX6 "bestMoves" "I" ∈ xB := xB_of (i := 821) (by decide +kernel) rfl
theorem xw_822 : Cond.fieldLink RX6 56 RX6 "code" "I" ∈ xB := xB_of (i := 822) (by decide +kernel) rfl
theorem xw_872 : Cond.methodLink RL 120 yX6_thrown ∈ xB := xB_of (i := 872) (by decide +kernel) rfl
theorem xw_873 : Cond.instanceMethod yX6_thrown ∈ xB := xB_of (i := 873) (by decide +kernel) rfl
theorem xw_874 : Cond.selects RX6 yX6_thrown yX6_thrown ∈ xB := xB_of (i := 874) (by decide +kernel) rfl
set_option maxRecDepth 100000 in
theorem xw_875 : Cond.code yX6_thrown cX6_thrown 1 (some .int) ∈ xB := xB_of (i := 875) (by rfl) rfl
theorem xw_876 : Cond.methodLink RL 119 yX6_addShard ∈ xB := xB_of (i := 876) (by decide +kernel) rfl
theorem xw_877 : Cond.instanceMethod yX6_addShard ∈ xB := xB_of (i := 877) (by decide +kernel) rfl
theorem xw_878 : Cond.selects RX6 yX6_addShard yX6_addShard ∈ xB := xB_of (i := 878) (by decide +kernel) rfl
set_option maxRecDepth 100000 in
theorem xw_879 : Cond.code yX6_addShard cX6_addShard 4 (some .int) ∈ xB := xB_of (i := 879) (by rfl) rfl
theorem xw_880 : Cond.methodLink RX6 63 yX6_in ∈ xB := xB_of (i := 880) (by decide +kernel) rfl
theorem xw_881 : Cond.static yX6_in ∈ xB := xB_of (i := 881) (by decide +kernel) rfl
set_option maxRecDepth 100000 in
theorem xw_882 : Cond.code yX6_in cX6_in 3 (some .boolean) ∈ xB := xB_of (i := 882) (by rfl) rfl
theorem xw_883 : Cond.methodLink RX6 70 yX6_fails ∈ xB := xB_of (i := 883) (by decide +kernel) rfl
theorem xw_885 : Cond.instanceMethod yX6_fails ∈ xB := xB_of (i := 885) (by decide +kernel) rfl
set_option maxRecDepth 100000 in
theorem xw_886 : Cond.code yX6_fails cX6_fails 2 (some .boolean) ∈ xB := xB_of (i := 886) (by rfl) rfl
theorem xw_887 : Cond.methodLink RL 126 yX6_setOpen ∈ xB := xB_of (i := 887) (by decide +kernel) rfl
theorem xw_888 : Cond.instanceMethod yX6_setOpen ∈ xB := xB_of (i := 888) (by decide +kernel) rfl
theorem xw_889 : Cond.selects RX6 yX6_setOpen yX6_setOpen ∈ xB := xB_of (i := 889) (by decide +kernel) rfl
set_option maxRecDepth 100000 in
theorem xw_890 : Cond.code yX6_setOpen cX6_setOpen 4 (some .boolean) ∈ xB := xB_of (i := 890) (by rfl) rfl
theorem xw_891 : Cond.methodLink RX6 74 yX6_isNoShard ∈ xB := xB_of (i := 891) (by decide +kernel) rfl
theorem xw_893 : Cond.instanceMethod yX6_isNoShard ∈ xB := xB_of (i := 893) (by decide +kernel) rfl
set_option maxRecDepth 100000 in
theorem xw_894 : Cond.code yX6_isNoShard cX6_isNoShard 2 (some .boolean) ∈ xB := xB_of (i := 894) (by rfl) rfl
theorem xw_895 : Cond.methodLink RL 129 yX6_setLimit ∈ xB := xB_of (i := 895) (by decide +kernel) rfl
theorem xw_896 : Cond.instanceMethod yX6_setLimit ∈ xB := xB_of (i := 896) (by decide +kernel) rfl
theorem xw_897 : Cond.selects RX6 yX6_setLimit yX6_setLimit ∈ xB := xB_of (i := 897) (by decide +kernel) rfl
set_option maxRecDepth 100000 in
theorem xw_898 : Cond.code yX6_setLimit cX6_setLimit 5 (some .int) ∈ xB := xB_of (i := 898) (by rfl) rfl
theorem xw_899 : Cond.methodLink RX6 77 yX6_isMeasure ∈ xB := xB_of (i := 899) (by decide +kernel) rfl
theorem xw_900 : Cond.static yX6_isMeasure ∈ xB := xB_of (i := 900) (by decide +kernel) rfl
set_option maxRecDepth 100000 in
theorem xw_901 : Cond.code yX6_isMeasure cX6_isMeasure 1 (some .boolean) ∈ xB := xB_of (i := 901) (by rfl) rfl
theorem xw_902 : Cond.methodLink RL 133 yX6_addTenant ∈ xB := xB_of (i := 902) (by decide +kernel) rfl
theorem xw_903 : Cond.instanceMethod yX6_addTenant ∈ xB := xB_of (i := 903) (by decide +kernel) rfl
theorem xw_904 : Cond.selects RX6 yX6_addTenant yX6_addTenant ∈ xB := xB_of (i := 904) (by decide +kernel) rfl
set_option maxRecDepth 100000 in
theorem xw_905 : Cond.code yX6_addTenant cX6_addTenant 6 (some .int) ∈ xB := xB_of (i := 905) (by rfl) rfl
theorem xw_906 : Cond.methodLink RX6 91 yX6_isFull ∈ xB := xB_of (i := 906) (by decide +kernel) rfl
theorem xw_908 : Cond.instanceMethod yX6_isFull ∈ xB := xB_of (i := 908) (by decide +kernel) rfl
set_option maxRecDepth 100000 in
theorem xw_909 : Cond.code yX6_isFull cX6_isFull 4 (some .boolean) ∈ xB := xB_of (i := 909) (by rfl) rfl
theorem xw_910 : Cond.methodLink RX6 87 yX6_use ∈ xB := xB_of (i := 910) (by decide +kernel) rfl
theorem xw_912 : Cond.instanceMethod yX6_use ∈ xB := xB_of (i := 912) (by decide +kernel) rfl
set_option maxRecDepth 100000 in
theorem xw_913 : Cond.code yX6_use cX6_use 5 (some .int) ∈ xB := xB_of (i := 913) (by rfl) rfl
theorem xw_914 : Cond.methodLink RX6 84 yX6_isPresent ∈ xB := xB_of (i := 914) (by decide +kernel) rfl
theorem xw_916 : Cond.instanceMethod yX6_isPresent ∈ xB := xB_of (i := 916) (by decide +kernel) rfl
set_option maxRecDepth 100000 in
theorem xw_917 : Cond.code yX6_isPresent cX6_isPresent 3 (some .boolean) ∈ xB := xB_of (i := 917) (by rfl) rfl
theorem xw_918 : Cond.methodLink RX6 80 yX6_isComing ∈ xB := xB_of (i := 918) (by decide +kernel) rfl
theorem xw_920 : Cond.instanceMethod yX6_isComing ∈ xB := xB_of (i := 920) (by decide +kernel) rfl
set_option maxRecDepth 100000 in
theorem xw_921 : Cond.code yX6_isComing cX6_isComing 3 (some .boolean) ∈ xB := xB_of (i := 921) (by rfl) rfl
theorem xw_922 : Cond.methodLink RL 136 yX6_setSize ∈ xB := xB_of (i := 922) (by decide +kernel) rfl
theorem xw_923 : Cond.instanceMethod yX6_setSize ∈ xB := xB_of (i := 923) (by decide +kernel) rfl
theorem xw_924 : Cond.selects RX6 yX6_setSize yX6_setSize ∈ xB := xB_of (i := 924) (by decide +kernel) rfl
set_option maxRecDepth 100000 in
theorem xw_925 : Cond.code yX6_setSize cX6_setSize 5 (some .int) ∈ xB := xB_of (i := 925) (by rfl) rfl
theorem xw_926 : Cond.methodLink RX6 94 yX6_isNoTenant ∈ xB := xB_of (i := 926) (by decide +kernel) rfl
theorem xw_928 : Cond.instanceMethod yX6_isNoTenant ∈ xB := xB_of (i := 928) (by decide +kernel) rfl
set_option maxRecDepth 100000 in
theorem xw_929 : Cond.code yX6_isNoTenant cX6_isNoTenant 2 (some .boolean) ∈ xB := xB_of (i := 929) (by rfl) rfl
theorem xw_930 : Cond.methodLink RL 139 yX6_setWindow ∈ xB := xB_of (i := 930) (by decide +kernel) rfl
theorem xw_931 : Cond.instanceMethod yX6_setWindow ∈ xB := xB_of (i := 931) (by decide +kernel) rfl
theorem xw_932 : Cond.selects RX6 yX6_setWindow yX6_setWindow ∈ xB := xB_of (i := 932) (by decide +kernel) rfl
set_option maxRecDepth 100000 in
theorem xw_933 : Cond.code yX6_setWindow cX6_setWindow 4 (some .int) ∈ xB := xB_of (i := 933) (by rfl) rfl
theorem xw_934 : Cond.methodLink RL 143 yX6_keepApart ∈ xB := xB_of (i := 934) (by decide +kernel) rfl
theorem xw_935 : Cond.instanceMethod yX6_keepApart ∈ xB := xB_of (i := 935) (by decide +kernel) rfl
theorem xw_936 : Cond.selects RX6 yX6_keepApart yX6_keepApart ∈ xB := xB_of (i := 936) (by decide +kernel) rfl
set_option maxRecDepth 100000 in
theorem xw_937 : Cond.code yX6_keepApart cX6_keepApart 3 (some .int) ∈ xB := xB_of (i := 937) (by rfl) rfl
theorem xw_938 : Cond.methodLink RX6 100 yX6_areApart ∈ xB := xB_of (i := 938) (by decide +kernel) rfl
theorem xw_940 : Cond.instanceMethod yX6_areApart ∈ xB := xB_of (i := 940) (by decide +kernel) rfl
set_option maxRecDepth 100000 in
theorem xw_941 : Cond.code yX6_areApart cX6_areApart 4 (some .boolean) ∈ xB := xB_of (i := 941) (by rfl) rfl
theorem xw_942 : Cond.methodLink RL 146 yX6_move ∈ xB := xB_of (i := 942) (by decide +kernel) rfl
theorem xw_943 : Cond.instanceMethod yX6_move ∈ xB := xB_of (i := 943) (by decide +kernel) rfl
theorem xw_944 : Cond.selects RX6 yX6_move yX6_move ∈ xB := xB_of (i := 944) (by decide +kernel) rfl
set_option maxRecDepth 100000 in
theorem xw_945 : Cond.code yX6_move cX6_move 3 (some .int) ∈ xB := xB_of (i := 945) (by rfl) rfl
theorem xw_946 : Cond.methodLink RX6 109 yX6_why ∈ xB := xB_of (i := 946) (by decide +kernel) rfl
theorem xw_948 : Cond.instanceMethod yX6_why ∈ xB := xB_of (i := 948) (by decide +kernel) rfl
set_option maxRecDepth 100000 in
theorem xw_949 : Cond.code yX6_why cX6_why 3 (some .char) ∈ xB := xB_of (i := 949) (by rfl) rfl
theorem xw_950 : Cond.methodLink RX6 103 yX6_isBarred ∈ xB := xB_of (i := 950) (by decide +kernel) rfl
theorem xw_952 : Cond.instanceMethod yX6_isBarred ∈ xB := xB_of (i := 952) (by decide +kernel) rfl
set_option maxRecDepth 100000 in
theorem xw_953 : Cond.code yX6_isBarred cX6_isBarred 4 (some .boolean) ∈ xB := xB_of (i := 953) (by rfl) rfl
theorem xw_954 : Cond.methodLink RX6 106 yX6_hasRoom ∈ xB := xB_of (i := 954) (by decide +kernel) rfl
theorem xw_956 : Cond.instanceMethod yX6_hasRoom ∈ xB := xB_of (i := 956) (by decide +kernel) rfl
set_option maxRecDepth 100000 in
theorem xw_957 : Cond.code yX6_hasRoom cX6_hasRoom 5 (some .boolean) ∈ xB := xB_of (i := 957) (by rfl) rfl
theorem xw_958 : Cond.methodLink RX6 113 yX6_underWay ∈ xB := xB_of (i := 958) (by decide +kernel) rfl
theorem xw_960 : Cond.instanceMethod yX6_underWay ∈ xB := xB_of (i := 960) (by decide +kernel) rfl
set_option maxRecDepth 100000 in
theorem xw_961 : Cond.code yX6_underWay cX6_underWay 3 (some .int) ∈ xB := xB_of (i := 961) (by rfl) rfl
theorem xw_962 : Cond.methodLink RL 149 yX6_reason ∈ xB := xB_of (i := 962) (by decide +kernel) rfl
theorem xw_963 : Cond.instanceMethod yX6_reason ∈ xB := xB_of (i := 963) (by decide +kernel) rfl
theorem xw_964 : Cond.selects RX6 yX6_reason yX6_reason ∈ xB := xB_of (i := 964) (by decide +kernel) rfl
set_option maxRecDepth 100000 in
theorem xw_965 : Cond.code yX6_reason cX6_reason 3 (some .char) ∈ xB := xB_of (i := 965) (by rfl) rfl
theorem xw_966 : Cond.methodLink RL 153 yX6_fail ∈ xB := xB_of (i := 966) (by decide +kernel) rfl
theorem xw_967 : Cond.instanceMethod yX6_fail ∈ xB := xB_of (i := 967) (by decide +kernel) rfl
theorem xw_968 : Cond.selects RX6 yX6_fail yX6_fail ∈ xB := xB_of (i := 968) (by decide +kernel) rfl
set_option maxRecDepth 100000 in
theorem xw_969 : Cond.code yX6_fail cX6_fail 3 (some .char) ∈ xB := xB_of (i := 969) (by rfl) rfl
theorem xw_970 : Cond.methodLink RL 156 yX6_pass ∈ xB := xB_of (i := 970) (by decide +kernel) rfl
theorem xw_971 : Cond.instanceMethod yX6_pass ∈ xB := xB_of (i := 971) (by decide +kernel) rfl
theorem xw_972 : Cond.selects RX6 yX6_pass yX6_pass ∈ xB := xB_of (i := 972) (by decide +kernel) rfl
set_option maxRecDepth 100000 in
theorem xw_973 : Cond.code yX6_pass cX6_pass 4 (some .int) ∈ xB := xB_of (i := 973) (by rfl) rfl
theorem xw_974 : Cond.methodLink RX6 136 yX6_hour ∈ xB := xB_of (i := 974) (by decide +kernel) rfl
theorem xw_976 : Cond.instanceMethod yX6_hour ∈ xB := xB_of (i := 976) (by decide +kernel) rfl
set_option maxRecDepth 100000 in
theorem xw_977 : Cond.code yX6_hour cX6_hour 3 (some .int) ∈ xB := xB_of (i := 977) (by rfl) rfl
theorem xw_978 : Cond.methodLink RX6 130 yX6_isTooMuch ∈ xB := xB_of (i := 978) (by decide +kernel) rfl
theorem xw_980 : Cond.instanceMethod yX6_isTooMuch ∈ xB := xB_of (i := 980) (by decide +kernel) rfl
set_option maxRecDepth 100000 in
theorem xw_981 : Cond.code yX6_isTooMuch cX6_isTooMuch 3 (some .boolean) ∈ xB := xB_of (i := 981) (by rfl) rfl
theorem xw_982 : Cond.methodLink RX6 133 yX6_goesOn ∈ xB := xB_of (i := 982) (by decide +kernel) rfl
theorem xw_984 : Cond.instanceMethod yX6_goesOn ∈ xB := xB_of (i := 984) (by decide +kernel) rfl
set_option maxRecDepth 100000 in
theorem xw_985 : Cond.code yX6_goesOn cX6_goesOn 2 (some .boolean) ∈ xB := xB_of (i := 985) (by rfl) rfl
theorem xw_986 : Cond.methodLink RX6 123 yX6_isInWindow ∈ xB := xB_of (i := 986) (by decide +kernel) rfl
theorem xw_988 : Cond.instanceMethod yX6_isInWindow ∈ xB := xB_of (i := 988) (by decide +kernel) rfl
set_option maxRecDepth 100000 in
theorem xw_989 : Cond.code yX6_isInWindow cX6_isInWindow 5 (some .boolean) ∈ xB := xB_of (i := 989) (by rfl) rfl
theorem xw_990 : Cond.methodLink RL 160 yX6_time ∈ xB := xB_of (i := 990) (by decide +kernel) rfl
theorem xw_991 : Cond.instanceMethod yX6_time ∈ xB := xB_of (i := 991) (by decide +kernel) rfl
theorem xw_992 : Cond.selects RX6 yX6_time yX6_time ∈ xB := xB_of (i := 992) (by decide +kernel) rfl
set_option maxRecDepth 100000 in
theorem xw_993 : Cond.code yX6_time cX6_time 1 (some .int) ∈ xB := xB_of (i := 993) (by rfl) rfl
theorem xw_994 : Cond.methodLink RX6 139 yX6_tells ∈ xB := xB_of (i := 994) (by decide +kernel) rfl
theorem xw_996 : Cond.instanceMethod yX6_tells ∈ xB := xB_of (i := 996) (by decide +kernel) rfl
set_option maxRecDepth 100000 in
theorem xw_997 : Cond.code yX6_tells cX6_tells 2 (some .int) ∈ xB := xB_of (i := 997) (by rfl) rfl
theorem xw_998 : Cond.methodLink RL 163 yX6_phase ∈ xB := xB_of (i := 998) (by decide +kernel) rfl
theorem xw_999 : Cond.instanceMethod yX6_phase ∈ xB := xB_of (i := 999) (by decide +kernel) rfl
theorem xw_1000 : Cond.selects RX6 yX6_phase yX6_phase ∈ xB := xB_of (i := 1000) (by decide +kernel) rfl
set_option maxRecDepth 100000 in
theorem xw_1001 : Cond.code yX6_phase cX6_phase 2 (some .char) ∈ xB := xB_of (i := 1001) (by rfl) rfl
theorem xw_1002 : Cond.methodLink RL 166 yX6_targetOf ∈ xB := xB_of (i := 1002) (by decide +kernel) rfl
theorem xw_1003 : Cond.instanceMethod yX6_targetOf ∈ xB := xB_of (i := 1003) (by decide +kernel) rfl
theorem xw_1004 : Cond.selects RX6 yX6_targetOf yX6_targetOf ∈ xB := xB_of (i := 1004) (by decide +kernel) rfl
set_option maxRecDepth 100000 in
theorem xw_1005 : Cond.code yX6_targetOf cX6_targetOf 2 (some .int) ∈ xB := xB_of (i := 1005) (by rfl) rfl
theorem xw_1006 : Cond.methodLink RX6 143 yX6_hasNoMove ∈ xB := xB_of (i := 1006) (by decide +kernel) rfl
theorem xw_1008 : Cond.instanceMethod yX6_hasNoMove ∈ xB := xB_of (i := 1008) (by decide +kernel) rfl
set_option maxRecDepth 100000 in
theorem xw_1009 : Cond.code yX6_hasNoMove cX6_hasNoMove 2 (some .boolean) ∈ xB := xB_of (i := 1009) (by rfl) rfl
theorem xw_1010 : Cond.methodLink RL 169 yX6_hoursLeft ∈ xB := xB_of (i := 1010) (by decide +kernel) rfl
theorem xw_1011 : Cond.instanceMethod yX6_hoursLeft ∈ xB := xB_of (i := 1011) (by decide +kernel) rfl
theorem xw_1012 : Cond.selects RX6 yX6_hoursLeft yX6_hoursLeft ∈ xB := xB_of (i := 1012) (by decide +kernel) rfl
set_option maxRecDepth 100000 in
theorem xw_1013 : Cond.code yX6_hoursLeft cX6_hoursLeft 2 (some .int) ∈ xB := xB_of (i := 1013) (by rfl) rfl
theorem xw_1014 : Cond.methodLink RX6 146 yX6_goneOn ∈ xB := xB_of (i := 1014) (by decide +kernel) rfl
theorem xw_1016 : Cond.instanceMethod yX6_goneOn ∈ xB := xB_of (i := 1016) (by decide +kernel) rfl
set_option maxRecDepth 100000 in
theorem xw_1017 : Cond.code yX6_goneOn cX6_goneOn 3 (some .int) ∈ xB := xB_of (i := 1017) (by rfl) rfl
theorem xw_1018 : Cond.methodLink RL 172 yX6_hoursByPassing ∈ xB := xB_of (i := 1018) (by decide +kernel) rfl
theorem xw_1019 : Cond.instanceMethod yX6_hoursByPassing ∈ xB := xB_of (i := 1019) (by decide +kernel) rfl
theorem xw_1020 : Cond.selects RX6 yX6_hoursByPassing yX6_hoursByPassing ∈ xB := xB_of (i := 1020) (by decide +kernel) rfl
set_option maxRecDepth 100000 in
theorem xw_1021 : Cond.code yX6_hoursByPassing cX6_hoursByPassing 2 (some .int) ∈ xB := xB_of (i := 1021) (by rfl) rfl
theorem xw_1022 : Cond.methodLink RL 176 yX6_moves ∈ xB := xB_of (i := 1022) (by decide +kernel) rfl
theorem xw_1023 : Cond.instanceMethod yX6_moves ∈ xB := xB_of (i := 1023) (by decide +kernel) rfl
theorem xw_1024 : Cond.selects RX6 yX6_moves yX6_moves ∈ xB := xB_of (i := 1024) (by decide +kernel) rfl
set_option maxRecDepth 100000 in
theorem xw_1025 : Cond.code yX6_moves cX6_moves 1 (some .int) ∈ xB := xB_of (i := 1025) (by rfl) rfl
theorem xw_1026 : Cond.methodLink RL 180 yX6_shards ∈ xB := xB_of (i := 1026) (by decide +kernel) rfl
theorem xw_1027 : Cond.instanceMethod yX6_shards ∈ xB := xB_of (i := 1027) (by decide +kernel) rfl
theorem xw_1028 : Cond.selects RX6 yX6_shards yX6_shards ∈ xB := xB_of (i := 1028) (by decide +kernel) rfl
set_option maxRecDepth 100000 in
theorem xw_1029 : Cond.code yX6_shards cX6_shards 1 (some .int) ∈ xB := xB_of (i := 1029) (by rfl) rfl
theorem xw_1030 : Cond.methodLink RL 184 yX6_tenants ∈ xB := xB_of (i := 1030) (by decide +kernel) rfl
theorem xw_1031 : Cond.instanceMethod yX6_tenants ∈ xB := xB_of (i := 1031) (by decide +kernel) rfl
theorem xw_1032 : Cond.selects RX6 yX6_tenants yX6_tenants ∈ xB := xB_of (i := 1032) (by decide +kernel) rfl
set_option maxRecDepth 100000 in
theorem xw_1033 : Cond.code yX6_tenants cX6_tenants 1 (some .int) ∈ xB := xB_of (i := 1033) (by rfl) rfl
theorem xw_1034 : Cond.methodLink RL 187 yX6_servedBy ∈ xB := xB_of (i := 1034) (by decide +kernel) rfl
theorem xw_1035 : Cond.instanceMethod yX6_servedBy ∈ xB := xB_of (i := 1035) (by decide +kernel) rfl
theorem xw_1036 : Cond.selects RX6 yX6_servedBy yX6_servedBy ∈ xB := xB_of (i := 1036) (by decide +kernel) rfl
set_option maxRecDepth 100000 in
theorem xw_1037 : Cond.code yX6_servedBy cX6_servedBy 2 (some .int) ∈ xB := xB_of (i := 1037) (by rfl) rfl
theorem xw_1038 : Cond.methodLink RL 190 yX6_sizeOf ∈ xB := xB_of (i := 1038) (by decide +kernel) rfl
theorem xw_1039 : Cond.instanceMethod yX6_sizeOf ∈ xB := xB_of (i := 1039) (by decide +kernel) rfl
theorem xw_1040 : Cond.selects RX6 yX6_sizeOf yX6_sizeOf ∈ xB := xB_of (i := 1040) (by decide +kernel) rfl
set_option maxRecDepth 100000 in
theorem xw_1041 : Cond.code yX6_sizeOf cX6_sizeOf 3 (some .int) ∈ xB := xB_of (i := 1041) (by rfl) rfl
theorem xw_1042 : Cond.methodLink RL 193 yX6_used ∈ xB := xB_of (i := 1042) (by decide +kernel) rfl
theorem xw_1043 : Cond.instanceMethod yX6_used ∈ xB := xB_of (i := 1043) (by decide +kernel) rfl
theorem xw_1044 : Cond.selects RX6 yX6_used yX6_used ∈ xB := xB_of (i := 1044) (by decide +kernel) rfl
set_option maxRecDepth 100000 in
theorem xw_1045 : Cond.code yX6_used cX6_used 3 (some .int) ∈ xB := xB_of (i := 1045) (by rfl) rfl
theorem xw_1046 : Cond.methodLink RX6 149 yX6_cannotAsk ∈ xB := xB_of (i := 1046) (by decide +kernel) rfl
theorem xw_1048 : Cond.instanceMethod yX6_cannotAsk ∈ xB := xB_of (i := 1048) (by decide +kernel) rfl
set_option maxRecDepth 100000 in
theorem xw_1049 : Cond.code yX6_cannotAsk cX6_cannotAsk 3 (some .boolean) ∈ xB := xB_of (i := 1049) (by rfl) rfl
theorem xw_1050 : Cond.methodLink RL 196 yX6_usedByLooking ∈ xB := xB_of (i := 1050) (by decide +kernel) rfl
theorem xw_1051 : Cond.instanceMethod yX6_usedByLooking ∈ xB := xB_of (i := 1051) (by decide +kernel) rfl
theorem xw_1052 : Cond.selects RX6 yX6_usedByLooking yX6_usedByLooking ∈ xB := xB_of (i := 1052) (by decide +kernel) rfl
set_option maxRecDepth 100000 in
theorem xw_1053 : Cond.code yX6_usedByLooking cX6_usedByLooking 3 (some .int) ∈ xB := xB_of (i := 1053) (by rfl) rfl
theorem xw_1054 : Cond.methodLink RL 199 yX6_isOver ∈ xB := xB_of (i := 1054) (by decide +kernel) rfl
theorem xw_1055 : Cond.instanceMethod yX6_isOver ∈ xB := xB_of (i := 1055) (by decide +kernel) rfl
theorem xw_1056 : Cond.selects RX6 yX6_isOver yX6_isOver ∈ xB := xB_of (i := 1056) (by decide +kernel) rfl
set_option maxRecDepth 100000 in
theorem xw_1057 : Cond.code yX6_isOver cX6_isOver 2 (some .boolean) ∈ xB := xB_of (i := 1057) (by rfl) rfl
theorem xw_1058 : Cond.methodLink RL 202 yX6_served ∈ xB := xB_of (i := 1058) (by decide +kernel) rfl
theorem xw_1059 : Cond.instanceMethod yX6_served ∈ xB := xB_of (i := 1059) (by decide +kernel) rfl
theorem xw_1060 : Cond.selects RX6 yX6_served yX6_served ∈ xB := xB_of (i := 1060) (by decide +kernel) rfl
set_option maxRecDepth 100000 in
theorem xw_1061 : Cond.code yX6_served cX6_served 4 (some .int) ∈ xB := xB_of (i := 1061) (by rfl) rfl
theorem xw_1062 : Cond.methodLink RL 206 yX6_fewestMoves ∈ xB := xB_of (i := 1062) (by decide +kernel) rfl
theorem xw_1063 : Cond.instanceMethod yX6_fewestMoves ∈ xB := xB_of (i := 1063) (by decide +kernel) rfl
theorem xw_1064 : Cond.selects RX6 yX6_fewestMoves yX6_fewestMoves ∈ xB := xB_of (i := 1064) (by decide +kernel) rfl
set_option maxRecDepth 100000 in
theorem xw_1065 : Cond.code yX6_fewestMoves cX6_fewestMoves 1 (some .int) ∈ xB := xB_of (i := 1065) (by rfl) rfl
theorem xw_1066 : Cond.methodLink RX6 172 yX6_fewest ∈ xB := xB_of (i := 1066) (by decide +kernel) rfl
theorem xw_1068 : Cond.instanceMethod yX6_fewest ∈ xB := xB_of (i := 1068) (by decide +kernel) rfl
set_option maxRecDepth 100000 in
theorem xw_1069 : Cond.code yX6_fewest cX6_fewest 1 (some .int) ∈ xB := xB_of (i := 1069) (by rfl) rfl
theorem xw_1070 : Cond.methodLink RX6 169 yX6_sound ∈ xB := xB_of (i := 1070) (by decide +kernel) rfl
theorem xw_1072 : Cond.instanceMethod yX6_sound ∈ xB := xB_of (i := 1072) (by decide +kernel) rfl
set_option maxRecDepth 100000 in
theorem xw_1073 : Cond.code yX6_sound cX6_sound 5 (some .int) ∈ xB := xB_of (i := 1073) (by rfl) rfl
theorem xw_1074 : Cond.methodLink RX6 158 yX6_laysPlan ∈ xB := xB_of (i := 1074) (by decide +kernel) rfl
theorem xw_1076 : Cond.instanceMethod yX6_laysPlan ∈ xB := xB_of (i := 1076) (by decide +kernel) rfl
set_option maxRecDepth 100000 in
theorem xw_1077 : Cond.code yX6_laysPlan cX6_laysPlan 4 none ∈ xB := xB_of (i := 1077) (by rfl) rfl
theorem xw_1078 : Cond.methodLink RX6 162 yX6_isSound ∈ xB := xB_of (i := 1078) (by decide +kernel) rfl
theorem xw_1080 : Cond.instanceMethod yX6_isSound ∈ xB := xB_of (i := 1080) (by decide +kernel) rfl
set_option maxRecDepth 100000 in
theorem xw_1081 : Cond.code yX6_isSound cX6_isSound 3 (some .boolean) ∈ xB := xB_of (i := 1081) (by rfl) rfl
theorem xw_1082 : Cond.methodLink RX6 152 yX6_fits ∈ xB := xB_of (i := 1082) (by decide +kernel) rfl
theorem xw_1084 : Cond.instanceMethod yX6_fits ∈ xB := xB_of (i := 1084) (by decide +kernel) rfl
set_option maxRecDepth 100000 in
theorem xw_1085 : Cond.code yX6_fits cX6_fits 5 (some .boolean) ∈ xB := xB_of (i := 1085) (by rfl) rfl
theorem xw_1086 : Cond.methodLink RX6 166 yX6_movesOfPlan ∈ xB := xB_of (i := 1086) (by decide +kernel) rfl
theorem xw_1088 : Cond.instanceMethod yX6_movesOfPlan ∈ xB := xB_of (i := 1088) (by decide +kernel) rfl
set_option maxRecDepth 100000 in
theorem xw_1089 : Cond.code yX6_movesOfPlan cX6_movesOfPlan 3 (some .int) ∈ xB := xB_of (i := 1089) (by rfl) rfl
theorem xw_1090 : Cond.methodLink RL 209 yX6_fewestByTrying ∈ xB := xB_of (i := 1090) (by decide +kernel) rfl
theorem xw_1091 : Cond.instanceMethod yX6_fewestByTrying ∈ xB := xB_of (i := 1091) (by decide +kernel) rfl
theorem xw_1092 : Cond.selects RX6 yX6_fewestByTrying yX6_fewestByTrying ∈ xB := xB_of (i := 1092) (by decide +kernel) rfl
set_option maxRecDepth 100000 in
theorem xw_1093 : Cond.code yX6_fewestByTrying cX6_fewestByTrying 1 (some .int) ∈ xB := xB_of (i := 1093) (by rfl) rfl
theorem xw_1094 : Cond.methodLink RL 212 yX6_planned ∈ xB := xB_of (i := 1094) (by decide +kernel) rfl
theorem xw_1095 : Cond.instanceMethod yX6_planned ∈ xB := xB_of (i := 1095) (by decide +kernel) rfl
theorem xw_1096 : Cond.selects RX6 yX6_planned yX6_planned ∈ xB := xB_of (i := 1096) (by decide +kernel) rfl
set_option maxRecDepth 100000 in
theorem xw_1097 : Cond.code yX6_planned cX6_planned 2 (some .int) ∈ xB := xB_of (i := 1097) (by rfl) rfl
theorem xw_1098 : Cond.methodLink RL 216 yX6_soundPlans ∈ xB := xB_of (i := 1098) (by decide +kernel) rfl
theorem xw_1099 : Cond.instanceMethod yX6_soundPlans ∈ xB := xB_of (i := 1099) (by decide +kernel) rfl
theorem xw_1100 : Cond.selects RX6 yX6_soundPlans yX6_soundPlans ∈ xB := xB_of (i := 1100) (by decide +kernel) rfl
set_option maxRecDepth 100000 in
theorem xw_1101 : Cond.code yX6_soundPlans cX6_soundPlans 1 (some .int) ∈ xB := xB_of (i := 1101) (by rfl) rfl
theorem xw_1102 : Cond.methodLink RL 220 yX6_switches ∈ xB := xB_of (i := 1102) (by decide +kernel) rfl
theorem xw_1103 : Cond.instanceMethod yX6_switches ∈ xB := xB_of (i := 1103) (by decide +kernel) rfl
theorem xw_1104 : Cond.selects RX6 yX6_switches yX6_switches ∈ xB := xB_of (i := 1104) (by decide +kernel) rfl
set_option maxRecDepth 100000 in
theorem xw_1105 : Cond.code yX6_switches cX6_switches 1 (some .int) ∈ xB := xB_of (i := 1105) (by rfl) rfl
theorem xw_1106 : Cond.methodLink RL 225 yX6_hoursOver ∈ xB := xB_of (i := 1106) (by decide +kernel) rfl
theorem xw_1107 : Cond.instanceMethod yX6_hoursOver ∈ xB := xB_of (i := 1107) (by decide +kernel) rfl
theorem xw_1108 : Cond.selects RX6 yX6_hoursOver yX6_hoursOver ∈ xB := xB_of (i := 1108) (by decide +kernel) rfl
set_option maxRecDepth 100000 in
theorem xw_1109 : Cond.code yX6_hoursOver cX6_hoursOver 1 (some .long) ∈ xB := xB_of (i := 1109) (by rfl) rfl
theorem xw_1110 : Cond.methodLink RL 229 yX6_shareOf ∈ xB := xB_of (i := 1110) (by decide +kernel) rfl
theorem xw_1111 : Cond.instanceMethod yX6_shareOf ∈ xB := xB_of (i := 1111) (by decide +kernel) rfl
theorem xw_1112 : Cond.selects RX6 yX6_shareOf yX6_shareOf ∈ xB := xB_of (i := 1112) (by decide +kernel) rfl
set_option maxRecDepth 100000 in
theorem xw_1113 : Cond.code yX6_shareOf cX6_shareOf 3 (some .float) ∈ xB := xB_of (i := 1113) (by rfl) rfl
theorem xw_1114 : Cond.methodLink RL 233 yX6_meanStorage ∈ xB := xB_of (i := 1114) (by decide +kernel) rfl
theorem xw_1115 : Cond.instanceMethod yX6_meanStorage ∈ xB := xB_of (i := 1115) (by decide +kernel) rfl
theorem xw_1116 : Cond.selects RX6 yX6_meanStorage yX6_meanStorage ∈ xB := xB_of (i := 1116) (by decide +kernel) rfl
set_option maxRecDepth 100000 in
theorem xw_1117 : Cond.code yX6_meanStorage cX6_meanStorage 3 (some .double) ∈ xB := xB_of (i := 1117) (by rfl) rfl
theorem xwp_0 : Cond.selects RX2 yX2_noteSound yX2_noteSound ∈ xB := xB_ofp (i := 0) (by decide +kernel) rfl
theorem xwp_1 : Cond.selects "java/lang/Throwable" ⟨"java/lang/Throwable", "fillInStackTrace", "(I)Ljava/lang/Throwable;"⟩ ⟨"java/lang/Throwable", "fillInStackTrace", "(I)Ljava/lang/Throwable;"⟩ ∈ xB := xB_ofp (i := 1) (by decide +kernel) rfl
theorem xwp_2 : Cond.selects RX5 yX5_knownShard yX5_knownShard ∈ xB := xB_ofp (i := 2) (by decide +kernel) rfl
theorem xwp_3 : Cond.selects RX5 yX5_shardOrNull yX5_shardOrNull ∈ xB := xB_ofp (i := 3) (by decide +kernel) rfl
theorem xwp_4 : Cond.selects RX5 yX5_countUse yX5_countUse ∈ xB := xB_ofp (i := 4) (by decide +kernel) rfl
theorem xwp_5 : Cond.selects RX5 yX5_knownTenant yX5_knownTenant ∈ xB := xB_ofp (i := 5) (by decide +kernel) rfl
theorem xwp_6 : Cond.selects RX5 yX5_isBarred yX5_isBarred ∈ xB := xB_ofp (i := 6) (by decide +kernel) rfl
theorem xwp_7 : Cond.selects RX5 yX5_canGoBack yX5_canGoBack ∈ xB := xB_ofp (i := 7) (by decide +kernel) rfl
theorem xwp_8 : Cond.selects RX5 yX5_goBack yX5_goBack ∈ xB := xB_ofp (i := 8) (by decide +kernel) rfl
theorem xwp_9 : Cond.selects RX5 yX5_noteHoursOver yX5_noteHoursOver ∈ xB := xB_ofp (i := 9) (by decide +kernel) rfl
theorem xwp_10 : Cond.selects RX5 yX5_goOnWithMoves yX5_goOnWithMoves ∈ xB := xB_ofp (i := 10) (by decide +kernel) rfl
theorem xwp_11 : Cond.selects RX5 yX5_goOn yX5_goOn ∈ xB := xB_ofp (i := 11) (by decide +kernel) rfl
theorem xwp_12 : Cond.selects RX5 yX5_growStorage yX5_growStorage ∈ xB := xB_ofp (i := 12) (by decide +kernel) rfl
theorem xwp_13 : Cond.selects RX5 yX5_movingTenant yX5_movingTenant ∈ xB := xB_ofp (i := 13) (by decide +kernel) rfl
theorem xwp_14 : Cond.selects RX6 yX6_fails yX6_fails ∈ xB := xB_ofp (i := 14) (by decide +kernel) rfl
theorem xwp_15 : Cond.selects RX6 yX6_isNoShard yX6_isNoShard ∈ xB := xB_ofp (i := 15) (by decide +kernel) rfl
theorem xwp_16 : Cond.selects RX6 yX6_isFull yX6_isFull ∈ xB := xB_ofp (i := 16) (by decide +kernel) rfl
theorem xwp_17 : Cond.selects RX6 yX6_use yX6_use ∈ xB := xB_ofp (i := 17) (by decide +kernel) rfl
theorem xwp_18 : Cond.selects RX6 yX6_isPresent yX6_isPresent ∈ xB := xB_ofp (i := 18) (by decide +kernel) rfl
theorem xwp_19 : Cond.selects RX6 yX6_isComing yX6_isComing ∈ xB := xB_ofp (i := 19) (by decide +kernel) rfl
theorem xwp_20 : Cond.selects RX6 yX6_isNoTenant yX6_isNoTenant ∈ xB := xB_ofp (i := 20) (by decide +kernel) rfl
theorem xwp_21 : Cond.selects RX6 yX6_areApart yX6_areApart ∈ xB := xB_ofp (i := 21) (by decide +kernel) rfl
theorem xwp_22 : Cond.selects RX6 yX6_why yX6_why ∈ xB := xB_ofp (i := 22) (by decide +kernel) rfl
theorem xwp_23 : Cond.selects RX6 yX6_isBarred yX6_isBarred ∈ xB := xB_ofp (i := 23) (by decide +kernel) rfl
theorem xwp_24 : Cond.selects RX6 yX6_hasRoom yX6_hasRoom ∈ xB := xB_ofp (i := 24) (by decide +kernel) rfl
theorem xwp_25 : Cond.selects RX6 yX6_underWay yX6_underWay ∈ xB := xB_ofp (i := 25) (by decide +kernel) rfl
theorem xwp_26 : Cond.selects RX6 yX6_hour yX6_hour ∈ xB := xB_ofp (i := 26) (by decide +kernel) rfl
theorem xwp_27 : Cond.selects RX6 yX6_isTooMuch yX6_isTooMuch ∈ xB := xB_ofp (i := 27) (by decide +kernel) rfl
theorem xwp_28 : Cond.selects RX6 yX6_goesOn yX6_goesOn ∈ xB := xB_ofp (i := 28) (by decide +kernel) rfl
theorem xwp_29 : Cond.selects RX6 yX6_isInWindow yX6_isInWindow ∈ xB := xB_ofp (i := 29) (by decide +kernel) rfl
theorem xwp_30 : Cond.selects RX6 yX6_tells yX6_tells ∈ xB := xB_ofp (i := 30) (by decide +kernel) rfl
theorem xwp_31 : Cond.selects RX6 yX6_hasNoMove yX6_hasNoMove ∈ xB := xB_ofp (i := 31) (by decide +kernel) rfl
theorem xwp_32 : Cond.selects RX6 yX6_goneOn yX6_goneOn ∈ xB := xB_ofp (i := 32) (by decide +kernel) rfl
theorem xwp_33 : Cond.selects RX6 yX6_cannotAsk yX6_cannotAsk ∈ xB := xB_ofp (i := 33) (by decide +kernel) rfl
theorem xwp_34 : Cond.selects RX6 yX6_fewest yX6_fewest ∈ xB := xB_ofp (i := 34) (by decide +kernel) rfl
theorem xwp_35 : Cond.selects RX6 yX6_sound yX6_sound ∈ xB := xB_ofp (i := 35) (by decide +kernel) rfl
theorem xwp_36 : Cond.selects RX6 yX6_laysPlan yX6_laysPlan ∈ xB := xB_ofp (i := 36) (by decide +kernel) rfl
theorem xwp_37 : Cond.selects RX6 yX6_isSound yX6_isSound ∈ xB := xB_ofp (i := 37) (by decide +kernel) rfl
theorem xwp_38 : Cond.selects RX6 yX6_fits yX6_fits ∈ xB := xB_ofp (i := 38) (by decide +kernel) rfl
theorem xwp_39 : Cond.selects RX6 yX6_movesOfPlan yX6_movesOfPlan ∈ xB := xB_ofp (i := 39) (by decide +kernel) rfl
end
section
/-! THE WORLD OF THE RUN: every cell that the law makes, by a kind and a number; the class's state, the reference's state, the law's two arrays. -/
/-- the class: what it holds, by kind, number and slot; hoursOverSoFar -/
abbrev xSC : Type := (Nat → Nat → Nat → Int32) × Int64
/-- the reference: what it holds, by slot and place; over -/
abbrev xSR : Type := (Nat → Nat → Int32) × Int64
/-- the law's arrays -/
abbrev xSL : Type := Int64 × UInt64
/-- the shape: addresses by kind and number, how many shards, how many tenants -/
abbrev xSh : Type := (Nat → Nat → Nat) × Nat × Nat
/-- classes, first address of the run, the arrays' classes -/
abbrev xG : Type := va_G × Nat × (Nat → ClassId)
def xA (G : xG) : Nat → Prop := fun q => G.2.1 ≤ q
def xtys (G : xG) : List (ClassId × FieldType) := [(G.2.2 0, .int), (G.2.2 1, .boolean), (G.2.2 2, .object "TenantPlacement$Shard"), (G.2.2 3, .object "TenantPlacement$Tenant"), (G.2.2 4, .long), (G.2.2 5, .double)]
def xlen (j : Nat) : Nat := if j = 1 then 12 else if j = 2 then 4 else if j = 4 then 18 else 6
/-- what lies in a cell -/
def xce (G : xG) (sh : xSh) (sc : xSC) (sr : xSR) (sl : xSL) : Nat → Nat → va_E := fun k j =>
  if k = 0 ∧ j = 0 then .inr (7, [.ref (sh.1 1 0), .ref (sh.1 2 0), .ref (sh.1 3 0), .ref (sh.1 10 0), .int (sc.1 0 0 4), .int (sc.1 0 0 5), .int (sc.1 0 0 6), .long sc.2])
  else if k = 1 then .inl (G.2.2 2, 4, .inr (.inr (.inr (.inr (fun i => if i < sh.2.1 then some (sh.1 4 i) else none)))))
  else if k = 2 then .inl (G.2.2 3, 6, .inr (.inr (.inr (.inr (fun i => if i < sh.2.2 then some (sh.1 11 i) else none)))))
  else if k = 3 ∧ j = 0 then .inr (4, [.int (sc.1 3 0 0), .int (sc.1 3 0 1)])
  else if k = 4 then .inr (5, [.ref (sh.1 5 j), .ref (sh.1 6 j), .int (sc.1 4 j 2), .ref (sh.1 7 j), .int (sc.1 4 j 4)])
  else if k = 5 ∨ k = 6 ∨ k = 7 ∨ k = 8 then .inr (2, [.int (sc.1 k j 0), .int (sc.1 k j 1), .int (sc.1 k j 2)])
  else if k = 9 ∨ k = 10 then .inr (3, [.int (sc.1 k j 0), .int (sc.1 k j 1), .int (sc.1 k j 2), .int (sc.1 k j 3)])
  else if k = 11 then .inr (6, [.ref (sh.1 8 j), .int (sc.1 11 j 1), .ref (sh.1 9 j), .int (sc.1 11 j 3), .int (sc.1 11 j 4), .int (sc.1 11 j 5), .int (sc.1 11 j 6), .int (sc.1 11 j 7)])
  else if k = 12 ∧ j = 0 then .inr (8, [.int (sr.1 100 0), .ref (sh.1 13 1), .ref (sh.1 13 2), .int (sr.1 103 0), .ref (sh.1 13 4), .ref (sh.1 13 5), .ref (sh.1 13 6), .ref (sh.1 13 7), .ref (sh.1 13 8), .ref (sh.1 13 9), .ref (sh.1 13 10), .ref (sh.1 13 11), .ref (sh.1 13 12), .int (sr.1 113 0), .ref (sh.1 13 14), .ref (sh.1 13 15), .int (sr.1 116 0), .int (sr.1 117 0), .long sr.2, .ref (sh.1 13 19), .ref (sh.1 13 20), .int (sr.1 121 0), .int (sr.1 122 0)])
  else if k = 13 ∧ j < 50 then .inl (if j = 2 then G.2.2 1 else G.2.2 0, xlen j, .inl (fun i => sr.1 j i))
  else if k = 14 ∧ j = 0 then .inl (G.2.2 4, 1, .inr (.inl (fun _ => sl.1)))
  else if k = 15 ∧ j = 0 then .inl (G.2.2 5, 1, .inr (.inr (.inr (.inl (fun _ => sl.2)))))
  else .inr (0, [])
def xfix : List (Nat × Nat) := [(0, 0), (1, 0), (2, 0), (3, 0), (10, 0), (12, 0), (13, 1), (13, 2), (13, 4), (13, 5), (13, 6), (13, 7), (13, 8), (13, 9), (13, 10), (13, 11), (13, 12), (13, 14), (13, 15), (13, 19), (13, 20), (14, 0), (15, 0)]
def xixS (n : Nat) : List (Nat × Nat) := (List.range n).flatMap (fun j => [(4, j), (5, j), (6, j), (7, j)])
def xixT (n : Nat) : List (Nat × Nat) := (List.range n).flatMap (fun t => [(11, t), (8, t), (9, t)])
def xix (sh : xSh) : List (Nat × Nat) := xfix ++ (xixS sh.2.1 ++ xixT sh.2.2)
theorem xm_fix {sh : xSh} {q : Nat × Nat} (h : q ∈ xfix) : q ∈ xix sh := List.mem_append_left _ h
theorem xm_S {sh : xSh} {k j : Nat} (hj : j < sh.2.1) (hk : k = 4 ∨ k = 5 ∨ k = 6 ∨ k = 7) : (k, j) ∈ xix sh := by
  refine List.mem_append_right _ (List.mem_append_left _ (List.mem_flatMap.mpr ⟨j, List.mem_range.mpr hj, ?_⟩))
  rcases hk with rfl | rfl | rfl | rfl <;> simp
theorem xm_T {sh : xSh} {k j : Nat} (hj : j < sh.2.2) (hk : k = 11 ∨ k = 8 ∨ k = 9) : (k, j) ∈ xix sh := by
  refine List.mem_append_right _ (List.mem_append_right _ (List.mem_flatMap.mpr ⟨j, List.mem_range.mpr hj, ?_⟩))
  rcases hk with rfl | rfl | rfl <;> simp
/-- the cells, in a row -/
def xW (ad : Nat → Nat → Nat) (ce : Nat → Nat → va_E) (ix : List (Nat × Nat)) : va_W := ix.map (fun q => (ad q.1 q.2, ce q.1 q.2))
def xu2 (ce : Nat → Nat → va_E) (k j : Nat) (e : va_E) : Nat → Nat → va_E := fun a b => if a = k ∧ b = j then e else ce a b
theorem xW_at {ad : Nat → Nat → Nat} {ce : Nat → Nat → va_E} {ix : List (Nat × Nat)} {i : Nat} {q : Nat × Nat} (h : ix[i]? = some q) : (xW ad ce ix)[i]? = some (ad q.1 q.2, ce q.1 q.2) := by
  simp [xW, h]
theorem xW_get {ad : Nat → Nat → Nat} {ce : Nat → Nat → va_E} {ix : List (Nat × Nat)} {k j : Nat} (h : (k, j) ∈ ix) : ∃ i : Nat, ix[i]? = some (k, j) ∧ (xW ad ce ix)[i]? = some (ad k j, ce k j) := by
  obtain ⟨i, hi⟩ := List.getElem?_of_mem h
  exact ⟨i, hi, xW_at hi⟩
theorem xW_set {A : Nat → Prop} {ad : Nat → Nat → Nat} {ce : Nat → Nat → va_E} {ix : List (Nat × Nat)} {k j i : Nat} {e : va_E} (hD : va_D A (xW ad ce ix)) (hi : ix[i]? = some (k, j)) : (xW ad ce ix).set i (ad k j, e) = xW ad (xu2 ce k j e) ix := by
  apply List.ext_getElem?
  intro n
  rw [List.getElem?_set]
  by_cases hn : i = n
  · subst hn
    have hlt : i < (xW ad ce ix).length := by
      have := (List.getElem?_eq_some_iff.mp hi).1
      simpa [xW] using this
    rw [if_pos rfl, if_pos hlt, xW_at hi]
    simp [xu2]
  · rw [if_neg hn]
    cases hq : ix[n]? with
    | none => simp [xW, hq]
    | some q =>
      rw [xW_at hq, xW_at hq]
      have hne : ¬ (q.1 = k ∧ q.2 = j) := by
        rintro ⟨h1, h2⟩
        refine hn (hD.1 i n _ _ (xW_at hi) (xW_at hq) ?_)
        rw [h1, h2]
      simp [xu2, hne]
/-- the world lies in the heap -/
def xWd (G : xG) (sh : xSh) (sc : xSC) (sr : xSR) (sl : xSL) (H : Heap) : Prop :=
  va_P G.1 vwCl (xW sh.1 (xce G sh sc sr sl) (xix sh)) H ∧ va_D (xA G) (xW sh.1 (xce G sh sc sr sl) (xix sh))
theorem xWd.kept {G : xG} {sh : xSh} {sc : xSC} {sr : xSR} {sl : xSL} {H H1 : Heap} (h : xWd G sh sc sr sl H) (hq : ∀ q : Nat, q < H.size → H1[q]? = H[q]?) : xWd G sh sc sr sl H1 :=
  ⟨h.1.kept (fun k q hk => hq _ (h.1 k q hk).lt), h.2⟩
def xstrs : List (Nat × String) := [(45, "there are 4 shards"), (84, "the shard is closed or has no room"), (90, "there are 6 tenants"), (118, "both tenants are the same"), (125, "the tenants are kept apart already"), (130, "there are 6 pairs"), (139, "the tenant cannot be moved to the shard"), (144, "3 moves are under way"), (172, "the tenant has no move"), (272, "there are no tenants"), (275, "a number is out of range"), (279, "there is no such measure"), (284, "no plan is sound"), (290, "there is no such shard"), (292, "there is no such tenant")]
/-- words that a state keeps, though no method's list bears them -/
def xokw : Cond → Bool
  | .declares _ => true
  | .castable _ _ => true
  | .fieldLinkNest _ _ _ _ _ _ => true
  | .methodLinkNest _ _ _ _ => true
  | _ => false
theorem xokw_warm {s U : State} (hW : s.WarmedH U.vm) : ∀ w : Cond, xokw w = true → va_Nw w s → va_Nw w U := by
  intro w hw h
  cases w with
  | declares x => exact h.warmD hW
  | castable a b => exact h.warmC hW
  | fieldLinkNest a b c d e f => exact h.warmF hW
  | methodLinkNest a b c d => exact h.warmM hW
  | _ => simp [xokw] at hw
def xexs : List String := ["java/lang/IllegalArgumentException", "java/lang/IllegalStateException", "java/lang/IndexOutOfBoundsException", "java/lang/UnsupportedOperationException", "java/util/NoSuchElementException", "java/lang/ArithmeticException"]
def xnw : List Cond := [.declares (Bundle.initS "java/lang/RuntimeException"), .declares (Bundle.initS "java/lang/Exception"), .declares (Bundle.initS Bundle.tN), .castable "java/lang/IllegalArgumentException" "java/lang/IllegalArgumentException", .castable "java/lang/IllegalStateException" "java/lang/IllegalStateException", .castable "java/lang/IndexOutOfBoundsException" "java/lang/IndexOutOfBoundsException", .castable "java/lang/UnsupportedOperationException" "java/lang/UnsupportedOperationException", .castable "java/util/NoSuchElementException" "java/util/NoSuchElementException", .castable "java/lang/ArithmeticException" "java/lang/ArithmeticException", .fieldLinkNest "TenantPlacement" 103 "TenantPlacement$Tenant" "sizes" "LTenantPlacement$Amounts;" "TenantPlacement", .fieldLinkNest "TenantPlacement" 106 "TenantPlacement$Tenant" "windowFirst" "I" "TenantPlacement", .fieldLinkNest "TenantPlacement" 110 "TenantPlacement$Tenant" "windowEnd" "I" "TenantPlacement", .fieldLinkNest "TenantPlacement" 132 "TenantPlacement$Tenant" "apartFrom" "I" "TenantPlacement", .fieldLinkNest "TenantPlacement" 146 "TenantPlacement$Tenant" "move" "LTenantPlacement$Move;" "TenantPlacement", .fieldLinkNest "TenantPlacement" 149 "TenantPlacement$Tenant" "server" "I" "TenantPlacement", .fieldLinkNest "TenantPlacement" 163 "TenantPlacement$Amounts" "storage" "I" "TenantPlacement", .fieldLinkNest "TenantPlacement" 166 "TenantPlacement$Amounts" "load" "I" "TenantPlacement", .fieldLinkNest "TenantPlacement" 169 "TenantPlacement$Amounts" "connections" "I" "TenantPlacement", .fieldLinkNest "TenantPlacement" 206 "TenantPlacement$Move" "phase" "C" "TenantPlacement", .fieldLinkNest "TenantPlacement" 213 "TenantPlacement$Move" "target" "I" "TenantPlacement", .fieldLinkNest "TenantPlacement" 216 "TenantPlacement$Move" "left" "I" "TenantPlacement", .fieldLinkNest "TenantPlacement" 233 "TenantPlacement$Shard" "use" "LTenantPlacement$Amounts;" "TenantPlacement", .fieldLinkNest "TenantPlacement" 254 "TenantPlacement$Planner" "fewest" "I" "TenantPlacement", .fieldLinkNest "TenantPlacement" 257 "TenantPlacement$Tenant" "trialShard" "I" "TenantPlacement", .fieldLinkNest "TenantPlacement" 260 "TenantPlacement$Planner" "sound" "I" "TenantPlacement", .fieldLinkNest "TenantPlacement" 302 "TenantPlacement$Move" "source" "I" "TenantPlacement", .fieldLinkNest "TenantPlacement" 314 "TenantPlacement$Tenant" "growth" "I" "TenantPlacement", .fieldLinkNest "TenantPlacement" 56 "TenantPlacement$Shard" "isOpen" "Z" "TenantPlacement", .fieldLinkNest "TenantPlacement" 64 "TenantPlacement$Shard" "limits" "LTenantPlacement$Amounts;" "TenantPlacement", .fieldLinkNest "TenantPlacement$Planner" 51 "TenantPlacement$Tenant" "server" "I" "TenantPlacement", .fieldLinkNest "TenantPlacement$Planner" 65 "TenantPlacement$Tenant" "trialShard" "I" "TenantPlacement", .fieldLinkNest "TenantPlacement$Shard" 28 "TenantPlacement$Amounts" "storage" "I" "TenantPlacement", .fieldLinkNest "TenantPlacement$Shard" 32 "TenantPlacement$Amounts" "load" "I" "TenantPlacement", .fieldLinkNest "TenantPlacement$Shard" 35 "TenantPlacement$Amounts" "connections" "I" "TenantPlacement", .fieldLinkNest "TenantPlacement$Shard" 38 "TenantPlacement$Tenant" "sizes" "LTenantPlacement$Amounts;" "TenantPlacement", .fieldLinkNest "TenantPlacement$Shard" 46 "TenantPlacement$Tenant" "apartFrom" "I" "TenantPlacement", .fieldLinkNest "TenantPlacement$Tenant" 41 "TenantPlacement$Move" "target" "I" "TenantPlacement", .methodLinkNest "TenantPlacement" 23 ⟨"TenantPlacement$Planner", "<init>", "()V"⟩ "TenantPlacement"]
def xncs : List (String × String) := [("java/lang/ArithmeticException", "java/lang/IllegalArgumentException"), ("java/lang/ArithmeticException", "java/lang/IllegalStateException"), ("java/lang/ArithmeticException", "java/lang/IndexOutOfBoundsException"), ("java/lang/ArithmeticException", "java/lang/UnsupportedOperationException"), ("java/lang/ArithmeticException", "java/util/NoSuchElementException"), ("java/lang/IllegalArgumentException", "java/lang/ArithmeticException"), ("java/lang/IllegalArgumentException", "java/lang/IllegalStateException"), ("java/lang/IllegalArgumentException", "java/lang/IndexOutOfBoundsException"), ("java/lang/IllegalArgumentException", "java/lang/UnsupportedOperationException"), ("java/lang/IllegalArgumentException", "java/util/NoSuchElementException"), ("java/lang/IllegalStateException", "java/lang/ArithmeticException"), ("java/lang/IllegalStateException", "java/lang/IllegalArgumentException"), ("java/lang/IllegalStateException", "java/lang/IndexOutOfBoundsException"), ("java/lang/IllegalStateException", "java/lang/UnsupportedOperationException"), ("java/lang/IllegalStateException", "java/util/NoSuchElementException"), ("java/lang/IndexOutOfBoundsException", "java/lang/ArithmeticException"), ("java/lang/IndexOutOfBoundsException", "java/lang/IllegalArgumentException"), ("java/lang/IndexOutOfBoundsException", "java/lang/IllegalStateException"), ("java/lang/IndexOutOfBoundsException", "java/lang/UnsupportedOperationException"), ("java/lang/IndexOutOfBoundsException", "java/util/NoSuchElementException"), ("java/lang/UnsupportedOperationException", "java/lang/ArithmeticException"), ("java/lang/UnsupportedOperationException", "java/lang/IllegalArgumentException"), ("java/lang/UnsupportedOperationException", "java/lang/IllegalStateException"), ("java/lang/UnsupportedOperationException", "java/lang/IndexOutOfBoundsException"), ("java/lang/UnsupportedOperationException", "java/util/NoSuchElementException"), ("java/util/NoSuchElementException", "java/lang/ArithmeticException"), ("java/util/NoSuchElementException", "java/lang/IllegalArgumentException"), ("java/util/NoSuchElementException", "java/lang/IllegalStateException"), ("java/util/NoSuchElementException", "java/lang/IndexOutOfBoundsException"), ("java/util/NoSuchElementException", "java/lang/UnsupportedOperationException")]
/-- what the tables say: classes, the two statics of Throwable, the texts -/
def xTb (G : xG) (s : State) (H : Heap) : Prop :=
  va_K G.1 vwCl (xtys G) s ∧ vx_Zq Bundle.tN "UNASSIGNED_STACK" Bundle.steD (xA G) s H ∧ vx_Zq Bundle.tN "SUPPRESSED_SENTINEL" Bundle.listD (xA G) s H ∧ (∀ q ∈ xstrs, ∃ a : Nat, vk_R RX5 q.1 q.2 a s) ∧ (∀ w ∈ xnw, va_Nw w s) ∧ (∀ q ∈ xncs, va_Nc q.1 q.2 s) ∧ G.2.1 ≤ H.size
theorem xnw_ok : ∀ w ∈ xnw, xokw w = true := by decide
theorem xTb.go {G : xG} {s U : State} {H0 H : Heap} {locs : List Loc} (h : xTb G s H0) (hS : va_S (xA G) H0 H locs) (hW : s.WarmedH U.vm) (hU : U.heap = H) : xTb G U U.heap := by
  obtain ⟨h1, h2, h3, h4, h5, h6, h7⟩ := h
  rw [hU]
  exact ⟨va_K.moved hW.alike h1, (h2.kept hS.2.1).moved hW.alike, (h3.kept hS.2.1).moved hW.alike, fun q hq => by obtain ⟨a, ha⟩ := h4 q hq; exact ⟨a, ha.warm hW⟩, fun w hw => xokw_warm hW w (xnw_ok w hw) (h5 w hw), fun q hq => (h6 q hq).moved hW.alike, Nat.le_trans h7 hS.1⟩
theorem xTb.calling {G : xG} {U : State} {g : JFrame} {mk : MethodId} {a : Array Value} (h : xTb G U U.heap) : xTb G (U.calling g mk a) (U.calling g mk a).heap := by
  obtain ⟨h1, h2, h3, h4, h5, h6, h7⟩ := h
  exact ⟨va_K.moved (u := U) (U := U.calling g mk a) (Vm.Alike.refl U.vm) h1, vx_Zq.moved (u := U) (U := U.calling g mk a) (Vm.Alike.refl U.vm) h2, vx_Zq.moved (u := U) (U := U.calling g mk a) (Vm.Alike.refl U.vm) h3, fun q hq => by obtain ⟨b, hb⟩ := h4 q hq; exact ⟨b, vk_R.same (u := U) rfl hb⟩, fun w hw => (h5 w hw).same (u := U) (by revert w; decide) rfl, fun q hq => va_Nc.moved (u := U) (U := U.calling g mk a) (Vm.Alike.refl U.vm) (h6 q hq), h7⟩
/-- a method's start -/
def xPre (G : xG) (sh : xSh) (sc : xSC) (sr : xSR) (sl : xSL) : State → Prop := fun U => xWd G sh sc sr sl U.heap ∧ xTb G U U.heap
/-- what a method owes: it answers 'res' (a class's name: thrown), and the world is Pw -/
def xMet (l : Launch) (y : MethodName) (ws : List Cond) (rm : Room) (G : xG) (sh : xSh) (sc : xSC) (sr : xSR) (sl : xSL) (args : List Value) (res : String ⊕ Option Value) (Pw : Heap → Prop) : Prop :=
  vx_Met l y ws rm (va_Pc args (xPre G sh sc sr sl)) (fun _ st o t => ∃ v, res = .inr v ∧ o = .returned v ∧ Pw t.heap ∧ va_F (xA G) st t) (fun E st t => res = .inl E ∧ Pw t.heap ∧ va_F (xA G) st t) rm.cells rm.slots (xA G)
theorem xPc_blind {G : xG} {sh : xSh} {sc : xSC} {sr : xSR} {sl : xSL} {args : List Value} : FrameBlind (va_Pc args (xPre G sh sc sr sl)) := by
  intro a U g mk ⟨h1, h2, h3⟩
  exact ⟨h1, h2, h3.calling⟩
end
section
/-! ROWS over the world: fields, arrays, calls, ends. -/
def xuC (f : Nat → Nat → Nat → Int32) (k j i : Nat) (v : Int32) : Nat → Nat → Nat → Int32 := fun a b d => if a = k ∧ b = j ∧ d = i then v else f a b d
def xuR (f : Nat → Nat → Int32) (k j : Nat) (v : Int32) : Nat → Nat → Int32 := fun a b => if a = k ∧ b = j then v else f a b
/-- an element of a row of objects, of which the first n stand -/
def xel (n : Nat) (i : Int32) : Option Nat := if i.toNatClampNeg < n then some i.toNatClampNeg else none
section XR
variable {p : Program} {l : Launch} {e : Env} {R : Room} {s : State} {m : MethodId} {args : Array Value} {below : List Frame} {meth : Method} {c : Code} {H : Heap} {locs : List Loc} {cells slots : Nat} {Q : State → Prop}
variable {cc : ByteArray} {nL pc : Nat} {ls : Array Slot} {st0 rest : List Value} {Ts : List Cond} {own : String} {G : xG} {sh : xSh} {sc : xSC} {sr : xSR} {sl : xSL}
theorem xget {C : String} {T : u_T} {N ci index k j : Nat} {fs : List Value} {v : Value} (F : CallFix p m c cc nL s args Ts own) (hT : xTb G s s.heap) (hW : xWd G sh sc sr sl H) (hin : ∀ w ∈ u_ws C T N, w ∈ Ts) (hm : (k, j) ∈ xix sh) (he : xce G sh sc sr sl k j = .inr (ci, fs)) (hc : vwCl[ci]? = some (C, T, N)) (fi : Nat) (hfi : fi < N) (hlink : Cond.fieldLink own index C (T fi).2.1 (T fi).2.2.1 ∈ Ts) (hsame : (T fi).1 = C) (hv : fs[fi]? = some v) (hdg : decode cc pc = .ok (.getfield index, 3))
    (kk : W p l e R s m args below meth c H locs cells slots Q (F0 m (pc + 3) ls (v :: rest))) : W p l e R s m args below meth c H locs cells slots Q (F0 m pc ls (.ref (sh.1 k j) :: rest)) := by
  obtain ⟨hx, hb, hml, hown, hts⟩ := F
  obtain ⟨i, -, hi⟩ := xW_get (ad := sh.1) (ce := xce G sh sc sr sl) hm
  rw [he] at hi
  exact va_get hx hb hts hin hown hT.1 hW.1 i hi hc fi hfi (hts _ hlink) (fun x h => by rw [hsame] at h; exact h) hv hdg kk
theorem xgetN {C host : String} {T : u_T} {N ci index k j : Nat} {fs : List Value} {v : Value} (F : CallFix p m c cc nL s args Ts own) (hT : xTb G s s.heap) (hW : xWd G sh sc sr sl H) (hin : ∀ w ∈ u_ws C T N, w ∈ Ts) (hm : (k, j) ∈ xix sh) (he : xce G sh sc sr sl k j = .inr (ci, fs)) (hc : vwCl[ci]? = some (C, T, N)) (fi : Nat) (hfi : fi < N) (hlink : Cond.fieldLinkNest own index C (T fi).2.1 (T fi).2.2.1 host ∈ xnw) (hsame : (T fi).1 = C) (hv : fs[fi]? = some v) (hdg : decode cc pc = .ok (.getfield index, 3))
    (kk : W p l e R s m args below meth c H locs cells slots Q (F0 m (pc + 3) ls (v :: rest))) : W p l e R s m args below meth c H locs cells slots Q (F0 m pc ls (.ref (sh.1 k j) :: rest)) := by
  obtain ⟨hx, hb, hml, hown, hts⟩ := F
  obtain ⟨i, -, hi⟩ := xW_get (ad := sh.1) (ce := xce G sh sc sr sl) hm
  rw [he] at hi
  exact va_getN hx hb hts hin hown hT.1 hW.1 i hi hc fi hfi (va_Nw.use rfl (hT.2.2.2.2.1 _ hlink)) (fun x h => by rw [hsame] at h; exact h) hv hdg kk
theorem xput {C : String} {T : u_T} {N ci index k j : Nat} {fs : List Value} {v : Value} {sc' : xSC} {sr' : xSR} {sl' : xSL} (F : CallFix p m c cc nL s args Ts own) (hT : xTb G s s.heap) (hW : xWd G sh sc sr sl H) (hS : va_S (xA G) s.heap H locs) (hin : ∀ w ∈ u_ws C T N, w ∈ Ts) (ty0 : Nat → FieldType) (hty : ∀ k, k < N → parseFieldDescriptor (T k).2.2.1 = some (ty0 k)) (hnm : ∀ a, a < N → ∀ b, b < N → a ≠ b → (T a).2.1 ≠ (T b).2.1) (hm : (k, j) ∈ xix sh) (he : xce G sh sc sr sl k j = .inr (ci, fs)) (hc : vwCl[ci]? = some (C, T, N)) (fi : Nat) (hfi : fi < N) (hlink : Cond.fieldLink own index C (T fi).2.1 (T fi).2.2.1 ∈ Ts) (hsame : (T fi).1 = C) (hfin : (T fi).2.2.2 = false) {ty : FieldType} (hd : parseFieldDescriptor (T fi).2.2.1 = some ty) (hn : narrow ty v = v) (hfit : fits ty v = true) (hl : fi < fs.length) (hup : xu2 (xce G sh sc sr sl) k j (.inr (ci, fs.set fi v)) = xce G sh sc' sr' sl') (hdg : decode cc pc = .ok (.putfield index, 3))
    (kk : ∀ (H : Heap) (locs : List Loc), xWd G sh sc' sr' sl' H → va_S (xA G) s.heap H locs → W p l e R s m args below meth c H locs cells slots Q (F0 m (pc + 3) ls rest)) : W p l e R s m args below meth c H locs cells slots Q (F0 m pc ls (v :: .ref (sh.1 k j) :: rest)) := by
  obtain ⟨hx, hb, hml, hown, hts⟩ := F
  obtain ⟨i, hi0, hi⟩ := xW_get (ad := sh.1) (ce := xce G sh sc sr sl) hm
  rw [he] at hi
  refine va_put hx hb hts hin ty0 hty hnm hown hT.1 hW.1 hW.2 hS i hi hc fi hfi (hts _ hlink) (fun x h => by rw [hsame] at h; exact h) hfin hd hn hfit hl hdg (fun H1 locs1 hP hD hS1 => ?_)
  rw [xW_set hW.2 hi0, hup] at hP hD
  exact kk H1 locs1 ⟨hP, hD⟩ hS1
theorem xputN {C host : String} {T : u_T} {N ci index k j : Nat} {fs : List Value} {v : Value} {sc' : xSC} {sr' : xSR} {sl' : xSL} (F : CallFix p m c cc nL s args Ts own) (hT : xTb G s s.heap) (hW : xWd G sh sc sr sl H) (hS : va_S (xA G) s.heap H locs) (hin : ∀ w ∈ u_ws C T N, w ∈ Ts) (ty0 : Nat → FieldType) (hty : ∀ k, k < N → parseFieldDescriptor (T k).2.2.1 = some (ty0 k)) (hnm : ∀ a, a < N → ∀ b, b < N → a ≠ b → (T a).2.1 ≠ (T b).2.1) (hm : (k, j) ∈ xix sh) (he : xce G sh sc sr sl k j = .inr (ci, fs)) (hc : vwCl[ci]? = some (C, T, N)) (fi : Nat) (hfi : fi < N) (hlink : Cond.fieldLinkNest own index C (T fi).2.1 (T fi).2.2.1 host ∈ xnw) (hsame : (T fi).1 = C) (hfin : (T fi).2.2.2 = false) {ty : FieldType} (hd : parseFieldDescriptor (T fi).2.2.1 = some ty) (hn : narrow ty v = v) (hfit : fits ty v = true) (hl : fi < fs.length) (hup : xu2 (xce G sh sc sr sl) k j (.inr (ci, fs.set fi v)) = xce G sh sc' sr' sl') (hdg : decode cc pc = .ok (.putfield index, 3))
    (kk : ∀ (H : Heap) (locs : List Loc), xWd G sh sc' sr' sl' H → va_S (xA G) s.heap H locs → W p l e R s m args below meth c H locs cells slots Q (F0 m (pc + 3) ls rest)) : W p l e R s m args below meth c H locs cells slots Q (F0 m pc ls (v :: .ref (sh.1 k j) :: rest)) := by
  obtain ⟨hx, hb, hml, hown, hts⟩ := F
  obtain ⟨i, hi0, hi⟩ := xW_get (ad := sh.1) (ce := xce G sh sc sr sl) hm
  rw [he] at hi
  refine va_putN hx hb hts hin ty0 hty hnm hown hT.1 hW.1 hW.2 hS i hi hc fi hfi (va_Nw.use rfl (hT.2.2.2.2.1 _ hlink)) (fun x h => by rw [hsame] at h; exact h) hfin hd hn hfit hl hdg (fun H1 locs1 hP hD hS1 => ?_)
  rw [xW_set hW.2 hi0, hup] at hP hD
  exact kk H1 locs1 ⟨hP, hD⟩ hS1
/-- the reference's rows -/
theorem xce_13 {j : Nat} (hj : j < 50) : xce G sh sc sr sl 13 j = .inl (if j = 2 then G.2.2 1 else G.2.2 0, xlen j, .inl (fun i => sr.1 j i)) := by
  simp [xce, hj]
theorem xce_13u {j : Nat} (hj : j < 50) {i : Nat} {x : Int32} : xu2 (xce G sh sc sr sl) 13 j (.inl (if j = 2 then G.2.2 1 else G.2.2 0, xlen j, .inl (upd (fun i => sr.1 j i) i x))) = xce G sh sc (xuR sr.1 j i x, sr.2) sl := by
  have e : ∀ n : Nat, 100 ≤ n → ¬ n = j := fun n hn => by omega
  funext a b
  by_cases h : a = 13
  · subst h
    by_cases hb : b = j
    · subst hb
      simp only [xu2, xce_13 hj, and_self, if_true]
      congr 4
      funext y
      simp [xuR, upd]
    · by_cases hb5 : b < 50
      · simp only [xu2, xce_13 hb5, hb, and_false, if_false]
        congr 4
        funext y
        simp [xuR, hb]
      · simp [xu2, xce, hb, hb5]
  · simp [xu2, xce, xuR, h, e]
theorem xmald {j : Nat} (hj5 : j < 50) (F : CallFix p m c cc nL s args Ts own) (hT : xTb G s s.heap) (hW : xWd G sh sc sr sl H) (hm : (13, j) ∈ xix sh) (hj : ¬ j = 2) {i : Int32} (hin : vp_in i (xlen j)) (hdg : decode cc pc = .ok (.iaload, 1))
    (kk : W p l e R s m args below meth c H locs cells slots Q (F0 m (pc + 1) ls (.int (sr.1 j i.toNatClampNeg) :: rest))) : W p l e R s m args below meth c H locs cells slots Q (F0 m pc ls (.int i :: .ref (sh.1 13 j) :: rest)) := by
  obtain ⟨hx, hb, hml, hown, hts⟩ := F
  obtain ⟨q, -, hi⟩ := xW_get (ad := sh.1) (ce := xce G sh sc sr sl) hm
  rw [xce_13 hj5, if_neg hj] at hi
  exact va_iald hx hb hT.1 hW.1 q 0 hi rfl hin hdg kk
theorem xmbld (F : CallFix p m c cc nL s args Ts own) (hT : xTb G s s.heap) (hW : xWd G sh sc sr sl H) {i : Int32} (hin : vp_in i (xlen 2)) (hdg : decode cc pc = .ok (.baload, 1))
    (kk : W p l e R s m args below meth c H locs cells slots Q (F0 m (pc + 1) ls (.int (sr.1 2 i.toNatClampNeg) :: rest))) : W p l e R s m args below meth c H locs cells slots Q (F0 m pc ls (.int i :: .ref (sh.1 13 2) :: rest)) := by
  obtain ⟨hx, hb, hml, hown, hts⟩ := F
  obtain ⟨q, -, hi⟩ := xW_get (ad := sh.1) (ce := xce G sh sc sr sl) (ix := xix sh) (k := 13) (j := 2) (xm_fix (by decide))
  rw [xce_13 (by decide), if_pos rfl] at hi
  exact va_zald hx hb hT.1 hW.1 q 1 hi rfl hin hdg kk
theorem xmast {j : Nat} (hj5 : j < 50) (F : CallFix p m c cc nL s args Ts own) (hT : xTb G s s.heap) (hW : xWd G sh sc sr sl H) (hS : va_S (xA G) s.heap H locs) (hm : (13, j) ∈ xix sh) (hj : ¬ j = 2) {i x : Int32} (hin : vp_in i (xlen j)) (hdg : decode cc pc = .ok (.iastore, 1))
    (kk : ∀ (H : Heap) (locs : List Loc), xWd G sh sc (xuR sr.1 j i.toNatClampNeg x, sr.2) sl H → va_S (xA G) s.heap H locs → W p l e R s m args below meth c H locs cells slots Q (F0 m (pc + 1) ls rest)) : W p l e R s m args below meth c H locs cells slots Q (F0 m pc ls (.int x :: .int i :: .ref (sh.1 13 j) :: rest)) := by
  obtain ⟨hx, hb, hml, hown, hts⟩ := F
  obtain ⟨q, hi0, hi⟩ := xW_get (ad := sh.1) (ce := xce G sh sc sr sl) hm
  rw [xce_13 hj5, if_neg hj] at hi
  have hup := xce_13u (G := G) (hj := hj5) (sh := sh) (sc := sc) (sr := sr) (sl := sl) (j := j) (i := i.toNatClampNeg) (x := x)
  rw [if_neg hj] at hup
  refine va_iast hx hb hT.1 hW.1 hW.2 hS q 0 hi rfl hin hdg (fun H1 locs1 hP hD hS1 => ?_)
  rw [xW_set hW.2 hi0, hup] at hP hD
  exact kk H1 locs1 ⟨hP, hD⟩ hS1
theorem xmbst (F : CallFix p m c cc nL s args Ts own) (hT : xTb G s s.heap) (hW : xWd G sh sc sr sl H) (hS : va_S (xA G) s.heap H locs) {i x : Int32} (hx0 : vp_nar .boolean x = x) (hin : vp_in i (xlen 2)) (hdg : decode cc pc = .ok (.bastore, 1))
    (kk : ∀ (H : Heap) (locs : List Loc), xWd G sh sc (xuR sr.1 2 i.toNatClampNeg x, sr.2) sl H → va_S (xA G) s.heap H locs → W p l e R s m args below meth c H locs cells slots Q (F0 m (pc + 1) ls rest)) : W p l e R s m args below meth c H locs cells slots Q (F0 m pc ls (.int x :: .int i :: .ref (sh.1 13 2) :: rest)) := by
  obtain ⟨hx, hb, hml, hown, hts⟩ := F
  obtain ⟨q, hi0, hi⟩ := xW_get (ad := sh.1) (ce := xce G sh sc sr sl) (ix := xix sh) (k := 13) (j := 2) (xm_fix (by decide))
  rw [xce_13 (by decide), if_pos rfl] at hi
  have hup := xce_13u (G := G) (hj := by decide) (sh := sh) (sc := sc) (sr := sr) (sl := sl) (j := 2) (i := i.toNatClampNeg) (x := x)
  rw [if_pos rfl] at hup
  refine va_zast hx hb hT.1 hW.1 hW.2 hS q 1 hi rfl hin hdg (fun H1 locs1 hP hD hS1 => ?_)
  rw [hx0, xW_set hW.2 hi0, hup] at hP hD
  exact kk H1 locs1 ⟨hP, hD⟩ hS1
/-- the class's two rows of objects -/
theorem xaldS (F : CallFix p m c cc nL s args Ts own) (hT : xTb G s s.heap) (hW : xWd G sh sc sr sl H) {i : Int32} (hin : vp_in i 4) (hdg : decode cc pc = .ok (.aaload, 1))
    (kk : W p l e R s m args below meth c H locs cells slots Q (F0 m (pc + 1) ls (va_rf (Option.map (fun q => sh.1 4 q) (xel sh.2.1 i)) :: rest))) : W p l e R s m args below meth c H locs cells slots Q (F0 m pc ls (.int i :: .ref (sh.1 1 0) :: rest)) := by
  obtain ⟨hx, hb, hml, hown, hts⟩ := F
  obtain ⟨q, -, hi⟩ := xW_get (ad := sh.1) (ce := xce G sh sc sr sl) (ix := xix sh) (k := 1) (j := 0) (xm_fix (by decide))
  refine va_aldq hx hb hT.1 hW.1 q 2 hi rfl hin hdg (W.eq ?_ kk)
  unfold xel
  split <;> rfl
theorem xaldT (F : CallFix p m c cc nL s args Ts own) (hT : xTb G s s.heap) (hW : xWd G sh sc sr sl H) {i : Int32} (hin : vp_in i 6) (hdg : decode cc pc = .ok (.aaload, 1))
    (kk : W p l e R s m args below meth c H locs cells slots Q (F0 m (pc + 1) ls (va_rf (Option.map (fun q => sh.1 11 q) (xel sh.2.2 i)) :: rest))) : W p l e R s m args below meth c H locs cells slots Q (F0 m pc ls (.int i :: .ref (sh.1 2 0) :: rest)) := by
  obtain ⟨hx, hb, hml, hown, hts⟩ := F
  obtain ⟨q, -, hi⟩ := xW_get (ad := sh.1) (ce := xce G sh sc sr sl) (ix := xix sh) (k := 2) (j := 0) (xm_fix (by decide))
  refine va_aldq hx hb hT.1 hW.1 q 3 hi rfl hin hdg (W.eq ?_ kk)
  unfold xel
  split <;> rfl
theorem xalenS (F : CallFix p m c cc nL s args Ts own) (hT : xTb G s s.heap) (hW : xWd G sh sc sr sl H) (hdg : decode cc pc = .ok (.arraylength, 1))
    (kk : W p l e R s m args below meth c H locs cells slots Q (F0 m (pc + 1) ls (.int 4 :: rest))) : W p l e R s m args below meth c H locs cells slots Q (F0 m pc ls (.ref (sh.1 1 0) :: rest)) := by
  obtain ⟨hx, hb, hml, hown, hts⟩ := F
  obtain ⟨q, -, hi⟩ := xW_get (ad := sh.1) (ce := xce G sh sc sr sl) (ix := xix sh) (k := 1) (j := 0) (xm_fix (by decide))
  exact va_alen hx hb hT.1 hW.1 q 2 hi rfl rfl hdg kk
theorem xalenT (F : CallFix p m c cc nL s args Ts own) (hT : xTb G s s.heap) (hW : xWd G sh sc sr sl H) (hdg : decode cc pc = .ok (.arraylength, 1))
    (kk : W p l e R s m args below meth c H locs cells slots Q (F0 m (pc + 1) ls (.int 6 :: rest))) : W p l e R s m args below meth c H locs cells slots Q (F0 m pc ls (.ref (sh.1 2 0) :: rest)) := by
  obtain ⟨hx, hb, hml, hown, hts⟩ := F
  obtain ⟨q, -, hi⟩ := xW_get (ad := sh.1) (ce := xce G sh sc sr sl) (ix := xix sh) (k := 2) (j := 0) (xm_fix (by decide))
  exact va_alen hx hb hT.1 hW.1 q 3 hi rfl rfl hdg kk
end XR
end
section
/-! CALLS and ENDS over the world. -/
/-- what a body owes at its end -/
abbrev xQ (below : List Frame) (G : xG) (res : String ⊕ Option Value) (Pw : Heap → Prop) (args : Array Value) (s : State) (mc ms : Nat) : State → Prop :=
  vx_MQ below (fun _ st o t => ∃ v, res = .inr v ∧ o = .returned v ∧ Pw t.heap ∧ va_F (xA G) st t) (fun E st t => res = .inl E ∧ Pw t.heap ∧ va_F (xA G) st t) args s mc ms (xA G)
section XC
variable {p : Program} {l : Launch} {e : Env} {R : Room} {s : State} {m : MethodId} {args : Array Value} {below : List Frame} {meth : Method} {c : Code} {H : Heap} {locs : List Loc} {cells slots : Nat} {Q : State → Prop}
variable {cc : ByteArray} {nL pc : Nat} {ls : Array Slot} {st0 rest : List Value} {Ts : List Cond} {own : String} {G : xG} {sh : xSh} {sc : xSC} {sr : xSR} {sl : xSL}
variable {res : String ⊕ Option Value} {Pw : Heap → Prop} {mc ms : Nat}
theorem xrun_go (hr : vx_Run p l e R s m args below meth c H locs cells slots mc ms (F0 m pc ls st0) rest (fun st o t => ∃ v, res = .inr v ∧ o = .returned v ∧ Pw t.heap ∧ va_F (xA G) st t) (fun E st t => res = .inl E ∧ Pw t.heap ∧ va_F (xA G) st t) (xA G)) (hS : va_S (xA G) s.heap H locs)
    (kn : ∀ (v : Option Value) (H : Heap) (locs : List Loc), res = .inr v → Pw H → va_S (xA G) s.heap H locs → W p l e R s m args below meth c H locs (cells + mc) (slots + ms) Q (F0 m (pc + 3) ls (v.toList ++ rest)))
    (kx : ∀ (E : String) (H : Heap) (locs : List Loc) (q : Addr) (ce : Cell), res = .inl E → Pw H → va_S (xA G) s.heap H locs → H[q]? = some ce → ce.vm = .none → s.vm.findClass E = some ce.cls → vx_W p l e R s m args below meth c H locs (cells + mc) (slots + ms) Q (F0 m pc ls rest) q) : W p l e R s m args below meth c H locs cells slots Q (F0 m pc ls st0) := by
  intro T hT X
  rcases hr T hT X with ⟨v, st₀, t, T', L, h0, X', hL, e1, e2, ⟨v', hres, hv, hp, hF⟩, st⟩ | ⟨q, st₀, t, T', L, E, ce, h0, X', hL, e1, e2, ⟨hres, hp, hF⟩, hce, hcv, hcl, st⟩
  · cases hv
    obtain ⟨-, -, k3⟩ := vx_keep h0 e1 hS (fun q _ h => h) (fun q h => h) hL hF
    obtain ⟨t2, a1, b1⟩ := kn v T'.heap (locs ++ L) hres (by rw [e1]; exact hp) k3 T' rfl X'
    exact ⟨t2, st t2 a1, b1⟩
  · obtain ⟨-, -, k3⟩ := vx_keep h0 e1 hS (fun q _ h => h) (fun q h => h) hL hF
    obtain ⟨t2, a1, b1⟩ := kx E T'.heap (locs ++ L) q ce hres (by rw [e1]; exact hp) k3 (by rw [e1]; exact hce) hcv hcl T' rfl X'
    exact ⟨t2, st.trans a1, b1⟩
theorem xcallV {C : String} {T : u_T} {N ci k j index maxL n : Nat} {fs As : List Value} {y : MethodName} {bytes : ByteArray} {ret : Option FieldType} {ws ws' : List Cond} {rm : Room}
    (F : CallFix p m c cc nL s args Ts own) (hT : xTb G s s.heap) (hW : xWd G sh sc sr sl H) (hS : va_S (xA G) s.heap H locs) (hm : (k, j) ∈ xix sh) (he : xce G sh sc sr sl k j = .inr (ci, fs)) (hc : vwCl[ci]? = some (C, T, N))
    (hM : xMet l y ws rm G sh sc sr sl (.ref (sh.1 k j) :: As) res Pw) (hG : GoodIn Ts (wsV own index C y ws)) (hws : ws = Cond.code y bytes maxL ret :: ws')
    (hd : y.cls = C ∧ y.cls ≠ "java/lang/invoke/MethodHandle" ∧ y.cls ≠ "java/lang/invoke/VarHandle" ∧ (parseMethodDescriptor y.desc).map (fun d => d.parameters.length) = some n) (hR : rm.frames + 1 ≤ R.frames ∧ 8 + (maxL + 11) + rm.locals ≤ R.locals)
    (hn : As.length = n) (hsize : ls.size = nL) (hst : st0 = As.reverse ++ .ref (sh.1 k j) :: rest) (hrest : (rest.map fun v => v.category).sum ≤ 8) (hdg : decode cc pc = .ok (.invokevirtual index, 3)) (hf : cells + rm.cells ≤ R.cells ∧ slots + rm.slots ≤ R.slots)
    (kn : ∀ (v : Option Value) (H : Heap) (locs : List Loc), res = .inr v → Pw H → va_S (xA G) s.heap H locs → W p l e R s m args below meth c H locs (cells + rm.cells) (slots + rm.slots) Q (F0 m (pc + 3) ls (v.toList ++ rest)))
    (kx : ∀ (E : String) (H : Heap) (locs : List Loc) (q : Addr) (ce : Cell), res = .inl E → Pw H → va_S (xA G) s.heap H locs → H[q]? = some ce → ce.vm = .none → s.vm.findClass E = some ce.cls → vx_W p l e R s m args below meth c H locs (cells + rm.cells) (slots + rm.slots) Q (F0 m pc ls rest) q) : W p l e R s m args below meth c H locs cells slots Q (F0 m pc ls st0) := by
  obtain ⟨i, -, hi⟩ := xW_get (ad := sh.1) (ce := xce G sh sc sr sl) hm
  rw [he] at hi
  refine xrun_go (vx_runV F hM (cwV n F.2.2.2.2 hG hws rfl rfl hd hR) ⟨xPc_blind, va_recv hT.1 hW.1 hc hi, fun U hU hWm => ⟨rfl, ?_, hT.go hS hWm hU⟩⟩ rfl hn hsize hst (lv_room hrest) hdg hf) hS kn kx
  rw [hU]
  exact hW
theorem xcallS {index maxL n : Nat} {As : List Value} {y : MethodName} {bytes : ByteArray} {ret : Option FieldType} {ws ws' : List Cond} {rm : Room}
    (F : CallFix p m c cc nL s args Ts own) (hT : xTb G s s.heap) (hW : xWd G sh sc sr sl H) (hS : va_S (xA G) s.heap H locs)
    (hM : xMet l y ws rm G sh sc sr sl As res Pw) (hG : GoodIn Ts (va_wsS own index y ws)) (hws : ws = Cond.code y bytes maxL ret :: ws')
    (hd : y.cls ≠ "java/lang/invoke/MethodHandle" ∧ y.cls ≠ "java/lang/invoke/VarHandle" ∧ (parseMethodDescriptor y.desc).map (fun d => d.parameters.length) = some n) (hR : rm.frames + 1 ≤ R.frames ∧ 8 + (maxL + 11) + rm.locals ≤ R.locals)
    (hn : As.length = n) (hsize : ls.size = nL) (hst : st0 = As.reverse ++ rest) (hrest : (rest.map fun v => v.category).sum ≤ 8) (hdg : decode cc pc = .ok (.invokestatic index, 3)) (hf : cells + rm.cells ≤ R.cells ∧ slots + rm.slots ≤ R.slots)
    (kn : ∀ (v : Option Value) (H : Heap) (locs : List Loc), res = .inr v → Pw H → va_S (xA G) s.heap H locs → W p l e R s m args below meth c H locs (cells + rm.cells) (slots + rm.slots) Q (F0 m (pc + 3) ls (v.toList ++ rest)))
    (kx : ∀ (E : String) (H : Heap) (locs : List Loc) (q : Addr) (ce : Cell), res = .inl E → Pw H → va_S (xA G) s.heap H locs → H[q]? = some ce → ce.vm = .none → s.vm.findClass E = some ce.cls → vx_W p l e R s m args below meth c H locs (cells + rm.cells) (slots + rm.slots) Q (F0 m pc ls rest) q) : W p l e R s m args below meth c H locs cells slots Q (F0 m pc ls st0) := by
  refine xrun_go (vx_runS F hM (va_cwS n F.2.2.2.2 hG hws rfl rfl hd hR) ⟨xPc_blind, fun U hU hWm => ⟨rfl, ?_, hT.go hS hWm hU⟩⟩ rfl hn hsize hst (lv_room hrest) hdg hf) hS kn kx
  rw [hU]
  exact hW
/-! ends -/
theorem xret_i {ty : FieldType} {v : Int32} (F : CallFix p m c cc nL s args Ts own) (hr : meth.sig.returnType = some ty) (hlocks : meth.locks = false) (hS : va_S (xA G) s.heap H locs) (hn : narrow ty (.int v) = .int v) (hres : res = .inr (some (.int v))) (hPw : Pw H) (hc : cells ≤ mc) (hs : slots ≤ ms) (hdg : decode cc pc = .ok (.ireturn, 1)) :
    W p l e R s m args below meth c H locs cells slots (xQ below G res Pw args s mc ms) (F0 m pc ls [.int v]) :=
  W.widen (k := mc) (n := ms) hc hs (vx_ret (W.zret F.1 F.2.1 hr hn (fun t ht _ => ⟨some (.int v), hres, rfl, by rw [ht]; exact hPw, hS.F ht⟩) (fun q hq => hS.2.2 q hq) hdg hlocks))
theorem xret_v (F : CallFix p m c cc nL s args Ts own) (hr : meth.sig.returnType = none) (hlocks : meth.locks = false) (hS : va_S (xA G) s.heap H locs) (hres : res = .inr none) (hPw : Pw H) (hc : cells ≤ mc) (hs : slots ≤ ms) (hdg : decode cc pc = .ok (.return_, 1)) :
    W p l e R s m args below meth c H locs cells slots (xQ below G res Pw args s mc ms) (F0 m pc ls []) :=
  W.widen (k := mc) (n := ms) hc hs (vx_ret (W.vret F.1 F.2.1 hr (fun t ht _ => ⟨none, hres, rfl, by rw [ht]; exact hPw, hS.F ht⟩) (fun q hq => hS.2.2 q hq) hdg hlocks))
theorem xret_a {v : Value} {rt : FieldType} (F : CallFix p m c cc nL s args Ts own) (hr : meth.sig.returnType = some rt) (hrt : (∃ n, rt = .object n) ∨ ∃ t, rt = .array t) (hv : v = .null ∨ ∃ a, v = .ref a) (hlocks : meth.locks = false) (hS : va_S (xA G) s.heap H locs) (hres : res = .inr (some v)) (hPw : Pw H) (hc : cells ≤ mc) (hs : slots ≤ ms) (hdg : decode cc pc = .ok (.areturn, 1)) :
    W p l e R s m args below meth c H locs cells slots (xQ below G res Pw args s mc ms) (F0 m pc ls [v]) :=
  W.widen (k := mc) (n := ms) hc hs (vx_ret (W.aret F.1 F.2.1 hr hrt hv (fun t ht _ => ⟨some v, hres, rfl, by rw [ht]; exact hPw, hS.F ht⟩) (fun q hq => hS.2.2 q hq) hdg hlocks))
theorem xret_l {v : Int64} (F : CallFix p m c cc nL s args Ts own) (hr : meth.sig.returnType = some .long) (hlocks : meth.locks = false) (hS : va_S (xA G) s.heap H locs) (hres : res = .inr (some (.long v))) (hPw : Pw H) (hc : cells ≤ mc) (hs : slots ≤ ms) (hdg : decode cc pc = .ok (.lreturn, 1)) :
    W p l e R s m args below meth c H locs cells slots (xQ below G res Pw args s mc ms) (F0 m pc ls [.long v]) :=
  W.widen (k := mc) (n := ms) hc hs (vx_ret (W.lret F.1 F.2.1 hr (fun t ht _ => ⟨some (.long v), hres, rfl, by rw [ht]; exact hPw, hS.F ht⟩) (fun q hq => hS.2.2 q hq) hdg hlocks))
theorem xret_f {v : UInt32} (F : CallFix p m c cc nL s args Ts own) (hr : meth.sig.returnType = some .float) (hlocks : meth.locks = false) (hS : va_S (xA G) s.heap H locs) (hres : res = .inr (some (.float v))) (hPw : Pw H) (hc : cells ≤ mc) (hs : slots ≤ ms) (hdg : decode cc pc = .ok (.freturn, 1)) :
    W p l e R s m args below meth c H locs cells slots (xQ below G res Pw args s mc ms) (F0 m pc ls [.float v]) :=
  W.widen (k := mc) (n := ms) hc hs (vx_ret (W.fret F.1 F.2.1 hr (fun t ht _ => ⟨some (.float v), hres, rfl, by rw [ht]; exact hPw, hS.F ht⟩) (fun q hq => hS.2.2 q hq) hdg hlocks))
theorem xret_d {v : UInt64} (F : CallFix p m c cc nL s args Ts own) (hr : meth.sig.returnType = some .double) (hlocks : meth.locks = false) (hS : va_S (xA G) s.heap H locs) (hres : res = .inr (some (.double v))) (hPw : Pw H) (hc : cells ≤ mc) (hs : slots ≤ ms) (hdg : decode cc pc = .ok (.dreturn, 1)) :
    W p l e R s m args below meth c H locs cells slots (xQ below G res Pw args s mc ms) (F0 m pc ls [.double v]) :=
  W.widen (k := mc) (n := ms) hc hs (vx_ret (W.dret F.1 F.2.1 hr (fun t ht _ => ⟨some (.double v), hres, rfl, by rw [ht]; exact hPw, hS.F ht⟩) (fun q hq => hS.2.2 q hq) hdg hlocks))
/-- what a callee threw goes on to the caller -/
theorem xout {E : String} {q : Addr} {ce : Cell} (htab : ∀ x ∈ c.exceptionTable.toList, False) (hlocks : meth.locks = false) (hS : va_S (xA G) s.heap H locs) (hres : res = .inl E) (hPw : Pw H) (hcell : H[q]? = some ce) (hv : ce.vm = .none) (hcl : s.vm.findClass E = some ce.cls) (hc : cells ≤ mc) (hs : slots ≤ ms) :
    vx_W p l e R s m args below meth c H locs cells slots (xQ below G res Pw args s mc ms) (F0 m pc ls rest) q :=
  vx_out (fun x hx => (htab x hx).elim) hlocks hcell hv hcl (fun t ht _ => ⟨hres, by rw [ht]; exact hPw, hS.F ht⟩) (fun z hz => hS.2.2 z hz) hc hs
/-- the body of a method without handlers; its words: its own code, then all good words of the tables -/
theorem xMet_of {y : MethodName} {rm : Room} {maxL : Nat} {ret : Option FieldType} {vs : List Value} (hy : plainName y.cls = true) (hlen : (lg_sl vs).length ≤ maxL)
    (body : ∀ (p : Program) (e : Env) (s : State) (m : MethodId) (below : List Frame) (meth : Method) (c : Code), CallFix p m c cc maxL s vs.toArray xB y.cls → xTb G s s.heap → xWd G sh sc sr sl s.heap → meth.sig.returnType = ret → meth.locks = false → (∀ x ∈ c.exceptionTable.toList, False) →
      ∀ ls : Array Slot, lv_has ls maxL (lv_args 0 vs) → W p l e rm s m vs.toArray below meth c s.heap [] 0 0 (xQ below G res Pw vs.toArray s rm.cells rm.slots) (F0 m 0 ls [])) : xMet l y (Cond.code y cc maxL ret :: xB) rm G sh sc sr sl vs res Pw := by
  refine vx_ofW hy rfl ?_
  intro p e s m args below meth c s₁ B hml htab hv
  obtain ⟨rfl, hW, hT⟩ := hv
  rw [lg_entry_eq]
  exact body p e s m below meth c ⟨B.exec, B.bytes, hml, findClass_of_methodNamed B.named, fun w hw => atoms_spec (ws := Cond.code y cc maxL ret :: xB) B.pre w (List.mem_cons_of_mem _ hw)⟩ hT hW B.returns B.notSynchronized htab _ (lv_entry vs hlen)
theorem xB_good {w : Cond} (h : w ∈ xB) : w ∈ xB ∧ ((w.onTables && w.keeps) = true ∨ ∃ ty, w = .arrayClass ty) := ⟨h, good_of_word (List.mem_filter.mp h).2⟩
theorem xgV {own C : String} {idx n : Nat} {y : MethodName} {b : ByteArray} {ret : Option FieldType} (h1 : Cond.methodLink own idx y ∈ xB) (h2 : Cond.instanceMethod y ∈ xB) (h3 : Cond.selects C y y ∈ xB) (h4 : Cond.initialized C ∈ xB) (h5 : Cond.code y b n ret ∈ xB) : GoodIn xB (wsV own idx C y (Cond.code y b n ret :: xB)) := by
  intro w hw
  refine xB_good ?_
  unfold wsV at hw
  rcases List.mem_append.mp hw with h | h
  · simp only [List.mem_cons, List.not_mem_nil, or_false] at h
    rcases h with rfl | rfl | rfl | rfl
    · exact h1
    · exact h2
    · exact h3
    · exact h4
  · rcases List.mem_cons.mp h with rfl | h
    · exact h5
    · exact h
theorem xgS {own : String} {idx n : Nat} {y : MethodName} {b : ByteArray} {ret : Option FieldType} (h1 : Cond.methodLink own idx y ∈ xB) (h2 : Cond.static y ∈ xB) (h3 : Cond.initialized y.cls ∈ xB) (h5 : Cond.code y b n ret ∈ xB) : GoodIn xB (va_wsS own idx y (Cond.code y b n ret :: xB)) := by
  intro w hw
  refine xB_good ?_
  unfold va_wsS at hw
  rcases List.mem_append.mp hw with h | h
  · simp only [List.mem_cons, List.not_mem_nil, or_false] at h
    rcases h with rfl | rfl | rfl
    · exact h1
    · exact h2
    · exact h3
  · rcases List.mem_cons.mp h with rfl | h
    · exact h5
    · exact h
end XC
section XT
variable {p : Program} {l : Launch} {e : Env} {R : Room} {s : State} {m : MethodId} {args : Array Value} {below : List Frame} {meth : Method} {c : Code} {H : Heap} {locs : List Loc} {cells slots : Nat} {Q : State → Prop}
variable {cc : ByteArray} {nL pc : Nat} {ls : Array Slot} {st0 rest : List Value} {Ts : List Cond} {G : xG} {sh : xSh} {sc : xSC} {sr : xSR} {sl : xSL}
variable {res : String ⊕ Option Value} {Pw : Heap → Prop} {mc ms : Nat}
theorem xnw_tab : ∀ w ∈ xnw, w.onTables = true := by decide
/-- throw new E("text") -/
theorem xthrow {cls text : String} {ik is ic : Nat} (F : CallFix p m c cc nL s args Ts RX5) (hT : xTb G s s.heap) (hW : xWd G sh sc sr sl H) (hS : va_S (xA G) s.heap H locs) (hl : l.stackTraces = false) (hlocks : meth.locks = false) (htab : ∀ x ∈ c.exceptionTable.toList, False) (hsize : ls.size = nL)
    (hk : Cond.classLink RX5 ik cls ∈ Ts) (hini : Cond.initialized cls ∈ Ts) (hstr : (is, text) ∈ xstrs)
    (hats : ∀ w ∈ (vx_atS RX5 ic cls ["java/lang/RuntimeException", "java/lang/Exception"]).filter goodWord, w ∈ Ts)
    (hbad : ∀ w ∈ (vx_atS RX5 ic cls ["java/lang/RuntimeException", "java/lang/Exception"]).filter (fun w => !goodWord w), w ∈ xnw)
    (hcls : Bundle.fit cls = true) (hgood : ∀ w ∈ Cond.classLink RX5 ik cls :: Cond.initialized cls :: vx_atS RX5 ic cls ["java/lang/RuntimeException", "java/lang/Exception"], vx_ot w = true)
    (hRf : 6 ≤ R.frames) (hRl : (rest.map fun v => v.category).sum + 82 ≤ R.locals) (hRc : cells + 1 ≤ R.cells) (hRs : slots + 6 ≤ R.slots)
    (hres : res = .inl cls) (hPw : ∀ H : Heap, xWd G sh sc sr sl H → Pw H) (hc : cells + 1 ≤ mc) (hs : slots + 6 ≤ ms)
    (d0 : decode cc pc = .ok (.new ik, 3)) (d3 : decode cc (pc + 3) = .ok (.dup, 1)) (d4 : decode cc (pc + 4) = .ok (.ldc is, 2)) (d6 : decode cc (pc + 6) = .ok (.invokespecial ic, 3)) (d9 : decode cc (pc + 9) = .ok (.athrow, 1)) :
    W p l e R s m args below meth c H locs cells slots (xQ below G res Pw args s mc ms) (F0 m pc ls rest) := by
  obtain ⟨hx, hb, hml, hown, hts⟩ := F
  obtain ⟨sa, hsa⟩ := hT.2.2.2.1 _ hstr
  refine vx_throwS (cls := cls) (text := text) (names := ["java/lang/RuntimeException", "java/lang/Exception"]) hx hb hl hown hcls (by decide) (hts _ hk) (hts _ hini) hsa (vx_hat (fun w hw => hts w (hats w hw)) hbad (fun w hw => va_Nw.use (xnw_tab w hw) (hT.2.2.2.2.1 w hw))) hgood hT.2.1 hT.2.2.1 hS (hsize.trans hml.symm) d0 d3 d4 d6 d9 (fun x hx => (htab x hx).elim) hRf hRl hRc hRs hlocks (fun t _ hz hq => ⟨hres, hPw _ (hW.kept hq), Nat.le_trans hS.1 hz, fun q h1 h2 => ?_⟩) (fun z hz => hS.2.2 z hz) hc hs
  rw [hq q (Nat.lt_of_lt_of_le h1 hS.1)]
  exact hS.2.1 q h1 h2
/-- the same, the text by a wide index -/
theorem xthrowW {cls text : String} {ik is ic : Nat} (F : CallFix p m c cc nL s args Ts RX5) (hT : xTb G s s.heap) (hW : xWd G sh sc sr sl H) (hS : va_S (xA G) s.heap H locs) (hl : l.stackTraces = false) (hlocks : meth.locks = false) (htab : ∀ x ∈ c.exceptionTable.toList, False) (hsize : ls.size = nL)
    (hk : Cond.classLink RX5 ik cls ∈ Ts) (hini : Cond.initialized cls ∈ Ts) (hstr : (is, text) ∈ xstrs)
    (hats : ∀ w ∈ (vx_atS RX5 ic cls ["java/lang/RuntimeException", "java/lang/Exception"]).filter goodWord, w ∈ Ts)
    (hbad : ∀ w ∈ (vx_atS RX5 ic cls ["java/lang/RuntimeException", "java/lang/Exception"]).filter (fun w => !goodWord w), w ∈ xnw)
    (hcls : Bundle.fit cls = true) (hgood : ∀ w ∈ Cond.classLink RX5 ik cls :: Cond.initialized cls :: vx_atS RX5 ic cls ["java/lang/RuntimeException", "java/lang/Exception"], vx_ot w = true)
    (hRf : 6 ≤ R.frames) (hRl : (rest.map fun v => v.category).sum + 82 ≤ R.locals) (hRc : cells + 1 ≤ R.cells) (hRs : slots + 6 ≤ R.slots)
    (hres : res = .inl cls) (hPw : ∀ H : Heap, xWd G sh sc sr sl H → Pw H) (hc : cells + 1 ≤ mc) (hs : slots + 6 ≤ ms)
    (d0 : decode cc pc = .ok (.new ik, 3)) (d3 : decode cc (pc + 3) = .ok (.dup, 1)) (d4 : decode cc (pc + 4) = .ok (.ldc_w is, 3)) (d7 : decode cc (pc + 7) = .ok (.invokespecial ic, 3)) (d10 : decode cc (pc + 10) = .ok (.athrow, 1)) :
    W p l e R s m args below meth c H locs cells slots (xQ below G res Pw args s mc ms) (F0 m pc ls rest) := by
  obtain ⟨hx, hb, hml, hown, hts⟩ := F
  obtain ⟨sa, hsa⟩ := hT.2.2.2.1 _ hstr
  refine vx_throwSW (cls := cls) (text := text) (names := ["java/lang/RuntimeException", "java/lang/Exception"]) hx hb hl hown hcls (by decide) (hts _ hk) (hts _ hini) hsa (vx_hat (fun w hw => hts w (hats w hw)) hbad (fun w hw => va_Nw.use (xnw_tab w hw) (hT.2.2.2.2.1 w hw))) hgood hT.2.1 hT.2.2.1 hS (hsize.trans hml.symm) d0 d3 d4 d7 d10 (fun x hx => (htab x hx).elim) hRf hRl hRc hRs hlocks (fun t _ hz hq => ⟨hres, hPw _ (hW.kept hq), Nat.le_trans hS.1 hz, fun q h1 h2 => ?_⟩) (fun z hz => hS.2.2 z hz) hc hs
  rw [hq q (Nat.lt_of_lt_of_le h1 hS.1)]
  exact hS.2.1 q h1 h2
end XT
end
section
/-! what each kind of cell holds, and what a store makes of the state (written by wip/gen/cells.py) -/
abbrev xAm (k : Nat) : Prop := k = 5 ∨ k = 6 ∨ k = 7 ∨ k = 8
abbrev xMv (k : Nat) : Prop := k = 9 ∨ k = 10
theorem xce_0 {G : xG} {sh : xSh} {sc : xSC} {sr : xSR} {sl : xSL} : xce G sh sc sr sl 0 0 = .inr (7, [.ref (sh.1 1 0), .ref (sh.1 2 0), .ref (sh.1 3 0), .ref (sh.1 10 0), .int (sc.1 0 0 4), .int (sc.1 0 0 5), .int (sc.1 0 0 6), .long sc.2]) := rfl
theorem xce_3 {G : xG} {sh : xSh} {sc : xSC} {sr : xSR} {sl : xSL} : xce G sh sc sr sl 3 0 = .inr (4, [.int (sc.1 3 0 0), .int (sc.1 3 0 1)]) := rfl
theorem xce_4 {G : xG} {sh : xSh} {sc : xSC} {sr : xSR} {sl : xSL} {j : Nat} : xce G sh sc sr sl 4 j = .inr (5, [.ref (sh.1 5 j), .ref (sh.1 6 j), .int (sc.1 4 j 2), .ref (sh.1 7 j), .int (sc.1 4 j 4)]) := rfl
theorem xce_11 {G : xG} {sh : xSh} {sc : xSC} {sr : xSR} {sl : xSL} {j : Nat} : xce G sh sc sr sl 11 j = .inr (6, [.ref (sh.1 8 j), .int (sc.1 11 j 1), .ref (sh.1 9 j), .int (sc.1 11 j 3), .int (sc.1 11 j 4), .int (sc.1 11 j 5), .int (sc.1 11 j 6), .int (sc.1 11 j 7)]) := rfl
theorem xce_12 {G : xG} {sh : xSh} {sc : xSC} {sr : xSR} {sl : xSL} : xce G sh sc sr sl 12 0 = .inr (8, [.int (sr.1 100 0), .ref (sh.1 13 1), .ref (sh.1 13 2), .int (sr.1 103 0), .ref (sh.1 13 4), .ref (sh.1 13 5), .ref (sh.1 13 6), .ref (sh.1 13 7), .ref (sh.1 13 8), .ref (sh.1 13 9), .ref (sh.1 13 10), .ref (sh.1 13 11), .ref (sh.1 13 12), .int (sr.1 113 0), .ref (sh.1 13 14), .ref (sh.1 13 15), .int (sr.1 116 0), .int (sr.1 117 0), .long sr.2, .ref (sh.1 13 19), .ref (sh.1 13 20), .int (sr.1 121 0), .int (sr.1 122 0)]) := rfl
theorem xce_am {G : xG} {sh : xSh} {sc : xSC} {sr : xSR} {sl : xSL} {k j : Nat} (hk : xAm k) : xce G sh sc sr sl k j = .inr (2, [.int (sc.1 k j 0), .int (sc.1 k j 1), .int (sc.1 k j 2)]) := by
  rcases hk with rfl | rfl | rfl | rfl <;> rfl
theorem xce_mv {G : xG} {sh : xSh} {sc : xSC} {sr : xSR} {sl : xSL} {k j : Nat} (hk : xMv k) : xce G sh sc sr sl k j = .inr (3, [.int (sc.1 k j 0), .int (sc.1 k j 1), .int (sc.1 k j 2), .int (sc.1 k j 3)]) := by
  rcases hk with rfl | rfl <;> rfl
set_option maxHeartbeats 2000000 in
theorem xup_0_4 {G : xG} {sh : xSh} {sc : xSC} {sr : xSR} {sl : xSL} {v : Int32} : xu2 (xce G sh sc sr sl) 0 0 (.inr (7, ([.ref (sh.1 1 0), .ref (sh.1 2 0), .ref (sh.1 3 0), .ref (sh.1 10 0), .int (sc.1 0 0 4), .int (sc.1 0 0 5), .int (sc.1 0 0 6), .long sc.2] : List Value).set 4 (.int v))) = xce G sh (xuC sc.1 0 0 4 v, sc.2) sr sl := by
  funext a b
  by_cases h : a = 0
  · subst h
    by_cases hb : b = 0
    · subst hb
      simp [xu2, xce, xuC]
    · simp [xu2, xce, hb]
  · simp [xu2, xce, xuC, h]
set_option maxHeartbeats 2000000 in
theorem xup_0_5 {G : xG} {sh : xSh} {sc : xSC} {sr : xSR} {sl : xSL} {v : Int32} : xu2 (xce G sh sc sr sl) 0 0 (.inr (7, ([.ref (sh.1 1 0), .ref (sh.1 2 0), .ref (sh.1 3 0), .ref (sh.1 10 0), .int (sc.1 0 0 4), .int (sc.1 0 0 5), .int (sc.1 0 0 6), .long sc.2] : List Value).set 5 (.int v))) = xce G sh (xuC sc.1 0 0 5 v, sc.2) sr sl := by
  funext a b
  by_cases h : a = 0
  · subst h
    by_cases hb : b = 0
    · subst hb
      simp [xu2, xce, xuC]
    · simp [xu2, xce, hb]
  · simp [xu2, xce, xuC, h]
set_option maxHeartbeats 2000000 in
theorem xup_0_6 {G : xG} {sh : xSh} {sc : xSC} {sr : xSR} {sl : xSL} {v : Int32} : xu2 (xce G sh sc sr sl) 0 0 (.inr (7, ([.ref (sh.1 1 0), .ref (sh.1 2 0), .ref (sh.1 3 0), .ref (sh.1 10 0), .int (sc.1 0 0 4), .int (sc.1 0 0 5), .int (sc.1 0 0 6), .long sc.2] : List Value).set 6 (.int v))) = xce G sh (xuC sc.1 0 0 6 v, sc.2) sr sl := by
  funext a b
  by_cases h : a = 0
  · subst h
    by_cases hb : b = 0
    · subst hb
      simp [xu2, xce, xuC]
    · simp [xu2, xce, hb]
  · simp [xu2, xce, xuC, h]
set_option maxHeartbeats 2000000 in
theorem xup_0_7 {G : xG} {sh : xSh} {sc : xSC} {sr : xSR} {sl : xSL} {v : Int64} : xu2 (xce G sh sc sr sl) 0 0 (.inr (7, ([.ref (sh.1 1 0), .ref (sh.1 2 0), .ref (sh.1 3 0), .ref (sh.1 10 0), .int (sc.1 0 0 4), .int (sc.1 0 0 5), .int (sc.1 0 0 6), .long sc.2] : List Value).set 7 (.long v))) = xce G sh (sc.1, v) sr sl := by
  funext a b
  by_cases h : a = 0
  · subst h
    by_cases hb : b = 0
    · subst hb
      simp [xu2, xce, xuC]
    · simp [xu2, xce, hb]
  · simp [xu2, xce, xuC, h]
set_option maxHeartbeats 2000000 in
theorem xup_3_0 {G : xG} {sh : xSh} {sc : xSC} {sr : xSR} {sl : xSL} {v : Int32} : xu2 (xce G sh sc sr sl) 3 0 (.inr (4, ([.int (sc.1 3 0 0), .int (sc.1 3 0 1)] : List Value).set 0 (.int v))) = xce G sh (xuC sc.1 3 0 0 v, sc.2) sr sl := by
  funext a b
  by_cases h : a = 3
  · subst h
    by_cases hb : b = 0
    · subst hb
      simp [xu2, xce, xuC]
    · simp [xu2, xce, hb]
  · simp [xu2, xce, xuC, h]
set_option maxHeartbeats 2000000 in
theorem xup_3_1 {G : xG} {sh : xSh} {sc : xSC} {sr : xSR} {sl : xSL} {v : Int32} : xu2 (xce G sh sc sr sl) 3 0 (.inr (4, ([.int (sc.1 3 0 0), .int (sc.1 3 0 1)] : List Value).set 1 (.int v))) = xce G sh (xuC sc.1 3 0 1 v, sc.2) sr sl := by
  funext a b
  by_cases h : a = 3
  · subst h
    by_cases hb : b = 0
    · subst hb
      simp [xu2, xce, xuC]
    · simp [xu2, xce, hb]
  · simp [xu2, xce, xuC, h]
set_option maxHeartbeats 2000000 in
theorem xup_4_2 {G : xG} {sh : xSh} {sc : xSC} {sr : xSR} {sl : xSL} {j : Nat} {v : Int32} : xu2 (xce G sh sc sr sl) 4 j (.inr (5, ([.ref (sh.1 5 j), .ref (sh.1 6 j), .int (sc.1 4 j 2), .ref (sh.1 7 j), .int (sc.1 4 j 4)] : List Value).set 2 (.int v))) = xce G sh (xuC sc.1 4 j 2 v, sc.2) sr sl := by
  funext a b
  by_cases h : a = 4
  · subst h
    by_cases hb : b = j
    · subst hb
      simp [xu2, xce, xuC]
    · simp [xu2, xce, xuC, hb]
  · simp [xu2, xce, xuC, h]
set_option maxHeartbeats 2000000 in
theorem xup_4_4 {G : xG} {sh : xSh} {sc : xSC} {sr : xSR} {sl : xSL} {j : Nat} {v : Int32} : xu2 (xce G sh sc sr sl) 4 j (.inr (5, ([.ref (sh.1 5 j), .ref (sh.1 6 j), .int (sc.1 4 j 2), .ref (sh.1 7 j), .int (sc.1 4 j 4)] : List Value).set 4 (.int v))) = xce G sh (xuC sc.1 4 j 4 v, sc.2) sr sl := by
  funext a b
  by_cases h : a = 4
  · subst h
    by_cases hb : b = j
    · subst hb
      simp [xu2, xce, xuC]
    · simp [xu2, xce, xuC, hb]
  · simp [xu2, xce, xuC, h]
set_option maxHeartbeats 2000000 in
theorem xup_11_3 {G : xG} {sh : xSh} {sc : xSC} {sr : xSR} {sl : xSL} {j : Nat} {v : Int32} : xu2 (xce G sh sc sr sl) 11 j (.inr (6, ([.ref (sh.1 8 j), .int (sc.1 11 j 1), .ref (sh.1 9 j), .int (sc.1 11 j 3), .int (sc.1 11 j 4), .int (sc.1 11 j 5), .int (sc.1 11 j 6), .int (sc.1 11 j 7)] : List Value).set 3 (.int v))) = xce G sh (xuC sc.1 11 j 3 v, sc.2) sr sl := by
  funext a b
  by_cases h : a = 11
  · subst h
    by_cases hb : b = j
    · subst hb
      simp [xu2, xce, xuC]
    · simp [xu2, xce, xuC, hb]
  · simp [xu2, xce, xuC, h]
set_option maxHeartbeats 2000000 in
theorem xup_11_4 {G : xG} {sh : xSh} {sc : xSC} {sr : xSR} {sl : xSL} {j : Nat} {v : Int32} : xu2 (xce G sh sc sr sl) 11 j (.inr (6, ([.ref (sh.1 8 j), .int (sc.1 11 j 1), .ref (sh.1 9 j), .int (sc.1 11 j 3), .int (sc.1 11 j 4), .int (sc.1 11 j 5), .int (sc.1 11 j 6), .int (sc.1 11 j 7)] : List Value).set 4 (.int v))) = xce G sh (xuC sc.1 11 j 4 v, sc.2) sr sl := by
  funext a b
  by_cases h : a = 11
  · subst h
    by_cases hb : b = j
    · subst hb
      simp [xu2, xce, xuC]
    · simp [xu2, xce, xuC, hb]
  · simp [xu2, xce, xuC, h]
set_option maxHeartbeats 2000000 in
theorem xup_11_5 {G : xG} {sh : xSh} {sc : xSC} {sr : xSR} {sl : xSL} {j : Nat} {v : Int32} : xu2 (xce G sh sc sr sl) 11 j (.inr (6, ([.ref (sh.1 8 j), .int (sc.1 11 j 1), .ref (sh.1 9 j), .int (sc.1 11 j 3), .int (sc.1 11 j 4), .int (sc.1 11 j 5), .int (sc.1 11 j 6), .int (sc.1 11 j 7)] : List Value).set 5 (.int v))) = xce G sh (xuC sc.1 11 j 5 v, sc.2) sr sl := by
  funext a b
  by_cases h : a = 11
  · subst h
    by_cases hb : b = j
    · subst hb
      simp [xu2, xce, xuC]
    · simp [xu2, xce, xuC, hb]
  · simp [xu2, xce, xuC, h]
set_option maxHeartbeats 2000000 in
theorem xup_11_6 {G : xG} {sh : xSh} {sc : xSC} {sr : xSR} {sl : xSL} {j : Nat} {v : Int32} : xu2 (xce G sh sc sr sl) 11 j (.inr (6, ([.ref (sh.1 8 j), .int (sc.1 11 j 1), .ref (sh.1 9 j), .int (sc.1 11 j 3), .int (sc.1 11 j 4), .int (sc.1 11 j 5), .int (sc.1 11 j 6), .int (sc.1 11 j 7)] : List Value).set 6 (.int v))) = xce G sh (xuC sc.1 11 j 6 v, sc.2) sr sl := by
  funext a b
  by_cases h : a = 11
  · subst h
    by_cases hb : b = j
    · subst hb
      simp [xu2, xce, xuC]
    · simp [xu2, xce, xuC, hb]
  · simp [xu2, xce, xuC, h]
set_option maxHeartbeats 2000000 in
theorem xup_11_7 {G : xG} {sh : xSh} {sc : xSC} {sr : xSR} {sl : xSL} {j : Nat} {v : Int32} : xu2 (xce G sh sc sr sl) 11 j (.inr (6, ([.ref (sh.1 8 j), .int (sc.1 11 j 1), .ref (sh.1 9 j), .int (sc.1 11 j 3), .int (sc.1 11 j 4), .int (sc.1 11 j 5), .int (sc.1 11 j 6), .int (sc.1 11 j 7)] : List Value).set 7 (.int v))) = xce G sh (xuC sc.1 11 j 7 v, sc.2) sr sl := by
  funext a b
  by_cases h : a = 11
  · subst h
    by_cases hb : b = j
    · subst hb
      simp [xu2, xce, xuC]
    · simp [xu2, xce, xuC, hb]
  · simp [xu2, xce, xuC, h]
set_option maxHeartbeats 2000000 in
theorem xup_12_0 {G : xG} {sh : xSh} {sc : xSC} {sr : xSR} {sl : xSL} {v : Int32} : xu2 (xce G sh sc sr sl) 12 0 (.inr (8, ([.int (sr.1 100 0), .ref (sh.1 13 1), .ref (sh.1 13 2), .int (sr.1 103 0), .ref (sh.1 13 4), .ref (sh.1 13 5), .ref (sh.1 13 6), .ref (sh.1 13 7), .ref (sh.1 13 8), .ref (sh.1 13 9), .ref (sh.1 13 10), .ref (sh.1 13 11), .ref (sh.1 13 12), .int (sr.1 113 0), .ref (sh.1 13 14), .ref (sh.1 13 15), .int (sr.1 116 0), .int (sr.1 117 0), .long sr.2, .ref (sh.1 13 19), .ref (sh.1 13 20), .int (sr.1 121 0), .int (sr.1 122 0)] : List Value).set 0 (.int v))) = xce G sh sc (xuR sr.1 100 0 v, sr.2) sl := by
  funext a b
  by_cases h : a = 12
  · subst h
    by_cases hb : b = 0
    · subst hb
      simp [xu2, xce, xuR]
    · simp [xu2, xce, hb]
  · by_cases hb5 : b < 50
    · have e : ∀ n : Nat, 100 ≤ n → ¬ b = n := fun n hn => by omega
      simp [xu2, xce, xuR, h, e]
    · simp [xu2, xce, xuR, h, hb5]
set_option maxHeartbeats 2000000 in
theorem xup_12_3 {G : xG} {sh : xSh} {sc : xSC} {sr : xSR} {sl : xSL} {v : Int32} : xu2 (xce G sh sc sr sl) 12 0 (.inr (8, ([.int (sr.1 100 0), .ref (sh.1 13 1), .ref (sh.1 13 2), .int (sr.1 103 0), .ref (sh.1 13 4), .ref (sh.1 13 5), .ref (sh.1 13 6), .ref (sh.1 13 7), .ref (sh.1 13 8), .ref (sh.1 13 9), .ref (sh.1 13 10), .ref (sh.1 13 11), .ref (sh.1 13 12), .int (sr.1 113 0), .ref (sh.1 13 14), .ref (sh.1 13 15), .int (sr.1 116 0), .int (sr.1 117 0), .long sr.2, .ref (sh.1 13 19), .ref (sh.1 13 20), .int (sr.1 121 0), .int (sr.1 122 0)] : List Value).set 3 (.int v))) = xce G sh sc (xuR sr.1 103 0 v, sr.2) sl := by
  funext a b
  by_cases h : a = 12
  · subst h
    by_cases hb : b = 0
    · subst hb
      simp [xu2, xce, xuR]
    · simp [xu2, xce, hb]
  · by_cases hb5 : b < 50
    · have e : ∀ n : Nat, 100 ≤ n → ¬ b = n := fun n hn => by omega
      simp [xu2, xce, xuR, h, e]
    · simp [xu2, xce, xuR, h, hb5]
set_option maxHeartbeats 2000000 in
theorem xup_12_13 {G : xG} {sh : xSh} {sc : xSC} {sr : xSR} {sl : xSL} {v : Int32} : xu2 (xce G sh sc sr sl) 12 0 (.inr (8, ([.int (sr.1 100 0), .ref (sh.1 13 1), .ref (sh.1 13 2), .int (sr.1 103 0), .ref (sh.1 13 4), .ref (sh.1 13 5), .ref (sh.1 13 6), .ref (sh.1 13 7), .ref (sh.1 13 8), .ref (sh.1 13 9), .ref (sh.1 13 10), .ref (sh.1 13 11), .ref (sh.1 13 12), .int (sr.1 113 0), .ref (sh.1 13 14), .ref (sh.1 13 15), .int (sr.1 116 0), .int (sr.1 117 0), .long sr.2, .ref (sh.1 13 19), .ref (sh.1 13 20), .int (sr.1 121 0), .int (sr.1 122 0)] : List Value).set 13 (.int v))) = xce G sh sc (xuR sr.1 113 0 v, sr.2) sl := by
  funext a b
  by_cases h : a = 12
  · subst h
    by_cases hb : b = 0
    · subst hb
      simp [xu2, xce, xuR]
    · simp [xu2, xce, hb]
  · by_cases hb5 : b < 50
    · have e : ∀ n : Nat, 100 ≤ n → ¬ b = n := fun n hn => by omega
      simp [xu2, xce, xuR, h, e]
    · simp [xu2, xce, xuR, h, hb5]
set_option maxHeartbeats 2000000 in
theorem xup_12_16 {G : xG} {sh : xSh} {sc : xSC} {sr : xSR} {sl : xSL} {v : Int32} : xu2 (xce G sh sc sr sl) 12 0 (.inr (8, ([.int (sr.1 100 0), .ref (sh.1 13 1), .ref (sh.1 13 2), .int (sr.1 103 0), .ref (sh.1 13 4), .ref (sh.1 13 5), .ref (sh.1 13 6), .ref (sh.1 13 7), .ref (sh.1 13 8), .ref (sh.1 13 9), .ref (sh.1 13 10), .ref (sh.1 13 11), .ref (sh.1 13 12), .int (sr.1 113 0), .ref (sh.1 13 14), .ref (sh.1 13 15), .int (sr.1 116 0), .int (sr.1 117 0), .long sr.2, .ref (sh.1 13 19), .ref (sh.1 13 20), .int (sr.1 121 0), .int (sr.1 122 0)] : List Value).set 16 (.int v))) = xce G sh sc (xuR sr.1 116 0 v, sr.2) sl := by
  funext a b
  by_cases h : a = 12
  · subst h
    by_cases hb : b = 0
    · subst hb
      simp [xu2, xce, xuR]
    · simp [xu2, xce, hb]
  · by_cases hb5 : b < 50
    · have e : ∀ n : Nat, 100 ≤ n → ¬ b = n := fun n hn => by omega
      simp [xu2, xce, xuR, h, e]
    · simp [xu2, xce, xuR, h, hb5]
set_option maxHeartbeats 2000000 in
theorem xup_12_17 {G : xG} {sh : xSh} {sc : xSC} {sr : xSR} {sl : xSL} {v : Int32} : xu2 (xce G sh sc sr sl) 12 0 (.inr (8, ([.int (sr.1 100 0), .ref (sh.1 13 1), .ref (sh.1 13 2), .int (sr.1 103 0), .ref (sh.1 13 4), .ref (sh.1 13 5), .ref (sh.1 13 6), .ref (sh.1 13 7), .ref (sh.1 13 8), .ref (sh.1 13 9), .ref (sh.1 13 10), .ref (sh.1 13 11), .ref (sh.1 13 12), .int (sr.1 113 0), .ref (sh.1 13 14), .ref (sh.1 13 15), .int (sr.1 116 0), .int (sr.1 117 0), .long sr.2, .ref (sh.1 13 19), .ref (sh.1 13 20), .int (sr.1 121 0), .int (sr.1 122 0)] : List Value).set 17 (.int v))) = xce G sh sc (xuR sr.1 117 0 v, sr.2) sl := by
  funext a b
  by_cases h : a = 12
  · subst h
    by_cases hb : b = 0
    · subst hb
      simp [xu2, xce, xuR]
    · simp [xu2, xce, hb]
  · by_cases hb5 : b < 50
    · have e : ∀ n : Nat, 100 ≤ n → ¬ b = n := fun n hn => by omega
      simp [xu2, xce, xuR, h, e]
    · simp [xu2, xce, xuR, h, hb5]
set_option maxHeartbeats 2000000 in
theorem xup_12_18 {G : xG} {sh : xSh} {sc : xSC} {sr : xSR} {sl : xSL} {v : Int64} : xu2 (xce G sh sc sr sl) 12 0 (.inr (8, ([.int (sr.1 100 0), .ref (sh.1 13 1), .ref (sh.1 13 2), .int (sr.1 103 0), .ref (sh.1 13 4), .ref (sh.1 13 5), .ref (sh.1 13 6), .ref (sh.1 13 7), .ref (sh.1 13 8), .ref (sh.1 13 9), .ref (sh.1 13 10), .ref (sh.1 13 11), .ref (sh.1 13 12), .int (sr.1 113 0), .ref (sh.1 13 14), .ref (sh.1 13 15), .int (sr.1 116 0), .int (sr.1 117 0), .long sr.2, .ref (sh.1 13 19), .ref (sh.1 13 20), .int (sr.1 121 0), .int (sr.1 122 0)] : List Value).set 18 (.long v))) = xce G sh sc (sr.1, v) sl := by
  funext a b
  by_cases h : a = 12
  · subst h
    by_cases hb : b = 0
    · subst hb
      simp [xu2, xce, xuR]
    · simp [xu2, xce, hb]
  · by_cases hb5 : b < 50
    · have e : ∀ n : Nat, 100 ≤ n → ¬ b = n := fun n hn => by omega
      simp [xu2, xce, xuR, h, e]
    · simp [xu2, xce, xuR, h, hb5]
set_option maxHeartbeats 2000000 in
theorem xup_12_21 {G : xG} {sh : xSh} {sc : xSC} {sr : xSR} {sl : xSL} {v : Int32} : xu2 (xce G sh sc sr sl) 12 0 (.inr (8, ([.int (sr.1 100 0), .ref (sh.1 13 1), .ref (sh.1 13 2), .int (sr.1 103 0), .ref (sh.1 13 4), .ref (sh.1 13 5), .ref (sh.1 13 6), .ref (sh.1 13 7), .ref (sh.1 13 8), .ref (sh.1 13 9), .ref (sh.1 13 10), .ref (sh.1 13 11), .ref (sh.1 13 12), .int (sr.1 113 0), .ref (sh.1 13 14), .ref (sh.1 13 15), .int (sr.1 116 0), .int (sr.1 117 0), .long sr.2, .ref (sh.1 13 19), .ref (sh.1 13 20), .int (sr.1 121 0), .int (sr.1 122 0)] : List Value).set 21 (.int v))) = xce G sh sc (xuR sr.1 121 0 v, sr.2) sl := by
  funext a b
  by_cases h : a = 12
  · subst h
    by_cases hb : b = 0
    · subst hb
      simp [xu2, xce, xuR]
    · simp [xu2, xce, hb]
  · by_cases hb5 : b < 50
    · have e : ∀ n : Nat, 100 ≤ n → ¬ b = n := fun n hn => by omega
      simp [xu2, xce, xuR, h, e]
    · simp [xu2, xce, xuR, h, hb5]
set_option maxHeartbeats 2000000 in
theorem xup_12_22 {G : xG} {sh : xSh} {sc : xSC} {sr : xSR} {sl : xSL} {v : Int32} : xu2 (xce G sh sc sr sl) 12 0 (.inr (8, ([.int (sr.1 100 0), .ref (sh.1 13 1), .ref (sh.1 13 2), .int (sr.1 103 0), .ref (sh.1 13 4), .ref (sh.1 13 5), .ref (sh.1 13 6), .ref (sh.1 13 7), .ref (sh.1 13 8), .ref (sh.1 13 9), .ref (sh.1 13 10), .ref (sh.1 13 11), .ref (sh.1 13 12), .int (sr.1 113 0), .ref (sh.1 13 14), .ref (sh.1 13 15), .int (sr.1 116 0), .int (sr.1 117 0), .long sr.2, .ref (sh.1 13 19), .ref (sh.1 13 20), .int (sr.1 121 0), .int (sr.1 122 0)] : List Value).set 22 (.int v))) = xce G sh sc (xuR sr.1 122 0 v, sr.2) sl := by
  funext a b
  by_cases h : a = 12
  · subst h
    by_cases hb : b = 0
    · subst hb
      simp [xu2, xce, xuR]
    · simp [xu2, xce, hb]
  · by_cases hb5 : b < 50
    · have e : ∀ n : Nat, 100 ≤ n → ¬ b = n := fun n hn => by omega
      simp [xu2, xce, xuR, h, e]
    · simp [xu2, xce, xuR, h, hb5]
set_option maxHeartbeats 2000000 in
theorem xup_am_0 {G : xG} {sh : xSh} {sc : xSC} {sr : xSR} {sl : xSL} {k j : Nat} (hk : xAm k) {v : Int32} : xu2 (xce G sh sc sr sl) k j (.inr (2, ([.int (sc.1 k j 0), .int (sc.1 k j 1), .int (sc.1 k j 2)] : List Value).set 0 (.int v))) = xce G sh (xuC sc.1 k j 0 v, sc.2) sr sl := by
  funext a b
  by_cases h : a = k
  · subst h
    by_cases hb : b = j
    · subst hb
      rcases hk with rfl | rfl | rfl | rfl <;> simp [xu2, xce, xuC]
    · rcases hk with rfl | rfl | rfl | rfl <;> simp [xu2, xce, xuC, hb]
  · rcases hk with rfl | rfl | rfl | rfl <;> simp [xu2, xce, xuC, h]
set_option maxHeartbeats 2000000 in
theorem xup_am_1 {G : xG} {sh : xSh} {sc : xSC} {sr : xSR} {sl : xSL} {k j : Nat} (hk : xAm k) {v : Int32} : xu2 (xce G sh sc sr sl) k j (.inr (2, ([.int (sc.1 k j 0), .int (sc.1 k j 1), .int (sc.1 k j 2)] : List Value).set 1 (.int v))) = xce G sh (xuC sc.1 k j 1 v, sc.2) sr sl := by
  funext a b
  by_cases h : a = k
  · subst h
    by_cases hb : b = j
    · subst hb
      rcases hk with rfl | rfl | rfl | rfl <;> simp [xu2, xce, xuC]
    · rcases hk with rfl | rfl | rfl | rfl <;> simp [xu2, xce, xuC, hb]
  · rcases hk with rfl | rfl | rfl | rfl <;> simp [xu2, xce, xuC, h]
set_option maxHeartbeats 2000000 in
theorem xup_am_2 {G : xG} {sh : xSh} {sc : xSC} {sr : xSR} {sl : xSL} {k j : Nat} (hk : xAm k) {v : Int32} : xu2 (xce G sh sc sr sl) k j (.inr (2, ([.int (sc.1 k j 0), .int (sc.1 k j 1), .int (sc.1 k j 2)] : List Value).set 2 (.int v))) = xce G sh (xuC sc.1 k j 2 v, sc.2) sr sl := by
  funext a b
  by_cases h : a = k
  · subst h
    by_cases hb : b = j
    · subst hb
      rcases hk with rfl | rfl | rfl | rfl <;> simp [xu2, xce, xuC]
    · rcases hk with rfl | rfl | rfl | rfl <;> simp [xu2, xce, xuC, hb]
  · rcases hk with rfl | rfl | rfl | rfl <;> simp [xu2, xce, xuC, h]
set_option maxHeartbeats 2000000 in
theorem xup_mv_0 {G : xG} {sh : xSh} {sc : xSC} {sr : xSR} {sl : xSL} {k j : Nat} (hk : xMv k) {v : Int32} : xu2 (xce G sh sc sr sl) k j (.inr (3, ([.int (sc.1 k j 0), .int (sc.1 k j 1), .int (sc.1 k j 2), .int (sc.1 k j 3)] : List Value).set 0 (.int v))) = xce G sh (xuC sc.1 k j 0 v, sc.2) sr sl := by
  funext a b
  by_cases h : a = k
  · subst h
    by_cases hb : b = j
    · subst hb
      rcases hk with rfl | rfl <;> simp [xu2, xce, xuC]
    · rcases hk with rfl | rfl <;> simp [xu2, xce, xuC, hb]
  · rcases hk with rfl | rfl <;> simp [xu2, xce, xuC, h]
set_option maxHeartbeats 2000000 in
theorem xup_mv_1 {G : xG} {sh : xSh} {sc : xSC} {sr : xSR} {sl : xSL} {k j : Nat} (hk : xMv k) {v : Int32} : xu2 (xce G sh sc sr sl) k j (.inr (3, ([.int (sc.1 k j 0), .int (sc.1 k j 1), .int (sc.1 k j 2), .int (sc.1 k j 3)] : List Value).set 1 (.int v))) = xce G sh (xuC sc.1 k j 1 v, sc.2) sr sl := by
  funext a b
  by_cases h : a = k
  · subst h
    by_cases hb : b = j
    · subst hb
      rcases hk with rfl | rfl <;> simp [xu2, xce, xuC]
    · rcases hk with rfl | rfl <;> simp [xu2, xce, xuC, hb]
  · rcases hk with rfl | rfl <;> simp [xu2, xce, xuC, h]
set_option maxHeartbeats 2000000 in
theorem xup_mv_2 {G : xG} {sh : xSh} {sc : xSC} {sr : xSR} {sl : xSL} {k j : Nat} (hk : xMv k) {v : Int32} : xu2 (xce G sh sc sr sl) k j (.inr (3, ([.int (sc.1 k j 0), .int (sc.1 k j 1), .int (sc.1 k j 2), .int (sc.1 k j 3)] : List Value).set 2 (.int v))) = xce G sh (xuC sc.1 k j 2 v, sc.2) sr sl := by
  funext a b
  by_cases h : a = k
  · subst h
    by_cases hb : b = j
    · subst hb
      rcases hk with rfl | rfl <;> simp [xu2, xce, xuC]
    · rcases hk with rfl | rfl <;> simp [xu2, xce, xuC, hb]
  · rcases hk with rfl | rfl <;> simp [xu2, xce, xuC, h]
set_option maxHeartbeats 2000000 in
theorem xup_mv_3 {G : xG} {sh : xSh} {sc : xSC} {sr : xSR} {sl : xSL} {k j : Nat} (hk : xMv k) {v : Int32} : xu2 (xce G sh sc sr sl) k j (.inr (3, ([.int (sc.1 k j 0), .int (sc.1 k j 1), .int (sc.1 k j 2), .int (sc.1 k j 3)] : List Value).set 3 (.int v))) = xce G sh (xuC sc.1 k j 3 v, sc.2) sr sl := by
  funext a b
  by_cases h : a = k
  · subst h
    by_cases hb : b = j
    · subst hb
      rcases hk with rfl | rfl <;> simp [xu2, xce, xuC]
    · rcases hk with rfl | rfl <;> simp [xu2, xce, xuC, hb]
  · rcases hk with rfl | rfl <;> simp [xu2, xce, xuC, h]
/-! the pure functions' joints -/
def oG {β : Type} (c : Bool) (a : Option β) : Option β := if c = true then a else none
theorem oG_go {β : Type} {c : Bool} {a : Option β} {r : β} (h : oG c a = some r) : c = true ∧ a = some r := by
  unfold oG at h
  by_cases hc : c = true
  · rw [if_pos hc] at h
    exact ⟨hc, h⟩
  · rw [if_neg hc] at h
    cases h
def oN {β : Type} (o : Option Nat) (a : β) (b : Nat → β) : β := match o with
  | none => a
  | some j => b j
theorem oN_0 {β : Type} {o : Option Nat} {a r : β} {b : Nat → β} (ho : o = none) (h : oN o a b = r) : a = r := by subst ho; exact h
theorem oN_1 {β : Type} {o : Option Nat} {j : Nat} {a r : β} {b : Nat → β} (ho : o = some j) (h : oN o a b = r) : b j = r := by subst ho; exact h
def oB {α β : Type} (x : Option α) (k : α → Option β) : Option β := match x with
  | none => none
  | some a => k a
theorem oB_go {α β : Type} {x : Option α} {k : α → Option β} {r : β} (h : oB x k = some r) : ∃ a, x = some a ∧ k a = some r := by
  cases x with
  | none => cases h
  | some a => exact ⟨a, rfl, h⟩
def oP {α σ β : Type} (x : Option (α × σ)) (k : α → σ → Option β) : Option β := match x with
  | none => none
  | some q => k q.1 q.2
theorem oP_go {α σ β : Type} {x : Option (α × σ)} {k : α → σ → Option β} {r : β} (h : oP x k = some r) : ∃ a s, x = some (a, s) ∧ k a s = some r := by
  cases x with
  | none => cases h
  | some q => exact ⟨q.1, q.2, rfl, h⟩
def oT {α β : Type} (x : Option (String ⊕ α)) (kx : String → Option β) (k : α → Option β) : Option β := match x with
  | none => none
  | some (.inl E) => kx E
  | some (.inr a) => k a
theorem oT_go {α β : Type} {x : Option (String ⊕ α)} {kx : String → Option β} {k : α → Option β} {r : β} (h : oT x kx k = some r) : (∃ a, x = some (.inr a) ∧ k a = some r) ∨ ∃ E, x = some (.inl E) ∧ kx E = some r := by
  rcases x with _ | E | a
  · cases h
  · exact Or.inr ⟨E, rfl, h⟩
  · exact Or.inl ⟨a, rfl, h⟩
def oC {α σ β : Type} (x : Option ((String ⊕ α) × σ)) (kx : String → σ → Option β) (k : α → σ → Option β) : Option β := match x with
  | none => none
  | some (.inl E, s) => kx E s
  | some (.inr a, s) => k a s
theorem oC_go {α σ β : Type} {x : Option ((String ⊕ α) × σ)} {kx : String → σ → Option β} {k : α → σ → Option β} {r : β} (h : oC x kx k = some r) : (∃ a s, x = some (.inr a, s) ∧ k a s = some r) ∨ ∃ E s, x = some (.inl E, s) ∧ kx E s = some r := by
  rcases x with _ | ⟨E | a, s⟩
  · cases h
  · exact Or.inr ⟨E, s, rfl, h⟩
  · exact Or.inl ⟨a, s, rfl, h⟩
theorem if_t {α : Type} {c : Prop} [Decidable c] {a b r : α} (hc : c) (h : (if c then a else b) = r) : a = r := by rw [if_pos hc] at h; exact h
theorem if_f {α : Type} {c : Prop} [Decidable c] {a b r : α} (hc : ¬ c) (h : (if c then a else b) = r) : b = r := by rw [if_neg hc] at h; exact h
def xinb (i : Int32) (n : Nat) : Bool := decide (¬ i < 0) && decide (i.toNatClampNeg < n)
theorem xinb_ok {i : Int32} {n : Nat} (h : xinb i n = true) : vp_in i n := by
  unfold xinb at h
  rw [Bool.and_eq_true] at h
  rintro (q | q)
  · exact of_decide_eq_true h.1 q
  · exact absurd (of_decide_eq_true h.2) (Nat.not_lt.mpr q)
theorem xel_lt {n j : Nat} {i : Int32} (h : xel n i = some j) : j < n := by
  unfold xel at h
  split at h
  · cases h
    assumption
  · cases h
def xnb (ty : FieldType) (v : Int32) : Bool := decide (narrow ty (.int v) = .int v) && fits ty (.int v)
theorem xnb_ok {ty : FieldType} {v : Int32} (h : xnb ty v = true) : narrow ty (.int v) = .int v ∧ fits ty (.int v) = true := by
  unfold xnb at h
  rw [Bool.and_eq_true] at h
  exact ⟨of_decide_eq_true h.1, h.2⟩
def xnz (v : Int32) : Bool := decide (vp_nar .boolean v = v)
theorem xnz_ok {v : Int32} (h : xnz v = true) : vp_nar .boolean v = v := of_decide_eq_true h
def xn32 (r : UInt32) : Bool := decide (r &&& 0x7fffffff ≤ 0x7f800000)
theorem xn32_ok {r : UInt32} (h : xn32 r = true) : vf_n32 r := of_decide_eq_true (p := r &&& 0x7fffffff ≤ 0x7f800000) h
def xn64 (r : UInt64) : Bool := decide (r &&& 0x7fffffffffffffff ≤ 0x7ff0000000000000)
theorem xn64_ok {r : UInt64} (h : xn64 r = true) : vf_n64 r := of_decide_eq_true (p := r &&& 0x7fffffffffffffff ≤ 0x7ff0000000000000) h
theorem xsw_out3 {x : Int32} (h0 : ¬ x = 0) (h1 : ¬ x = 1) (h2 : ¬ x = 2) : x.toInt < 0 ∨ 2 < x.toInt := by
  rcases Int.lt_or_le x.toInt 0 with h | h
  · exact Or.inl h
  · right
    have e0 : x.toInt ≠ 0 := fun e => h0 (Int32.toInt_inj.mp (by rw [e]; rfl))
    have e1 : x.toInt ≠ 1 := fun e => h1 (Int32.toInt_inj.mp (by rw [e]; rfl))
    have e2 : x.toInt ≠ 2 := fun e => h2 (Int32.toInt_inj.mp (by rw [e]; rfl))
    omega
/-! answers as the machine has them -/
def xvI (r : String ⊕ Int32) : String ⊕ Option Value := match r with | .inl E => .inl E | .inr v => .inr (some (.int v))
def xvL (r : String ⊕ Int64) : String ⊕ Option Value := match r with | .inl E => .inl E | .inr v => .inr (some (.long v))
def xvF (r : String ⊕ UInt32) : String ⊕ Option Value := match r with | .inl E => .inl E | .inr v => .inr (some (.float v))
def xvD (r : String ⊕ UInt64) : String ⊕ Option Value := match r with | .inl E => .inl E | .inr v => .inr (some (.double v))
def xvU (r : String ⊕ Unit) : String ⊕ Option Value := match r with | .inl E => .inl E | .inr _ => .inr none
def xvR (sh : xSh) (k : Nat) (r : String ⊕ Nat) : String ⊕ Option Value := match r with | .inl E => .inl E | .inr j => .inr (some (.ref (sh.1 k j)))
def xvO (sh : xSh) (k : Nat) (r : String ⊕ Option Nat) : String ⊕ Option Value := match r with | .inl E => .inl E | .inr o => .inr (some (va_rf (Option.map (fun q => sh.1 k q) o)))

theorem xuX0 : ∀ w ∈ u_ws RX0 TX0 3, w ∈ xB := fun w h => List.mem_filter.mpr ⟨inX0 w h, List.all_eq_true.mp (by decide +kernel : (u_ws RX0 TX0 3).all goodWord = true) w h⟩
theorem xuX1 : ∀ w ∈ u_ws RX1 TX1 4, w ∈ xB := fun w h => List.mem_filter.mpr ⟨inX1 w h, List.all_eq_true.mp (by decide +kernel : (u_ws RX1 TX1 4).all goodWord = true) w h⟩
theorem xuX2 : ∀ w ∈ u_ws RX2 TX2 2, w ∈ xB := fun w h => List.mem_filter.mpr ⟨inX2 w h, List.all_eq_true.mp (by decide +kernel : (u_ws RX2 TX2 2).all goodWord = true) w h⟩
theorem xuX3 : ∀ w ∈ u_ws RX3 TX3 5, w ∈ xB := fun w h => List.mem_filter.mpr ⟨inX3 w h, List.all_eq_true.mp (by decide +kernel : (u_ws RX3 TX3 5).all goodWord = true) w h⟩
theorem xuX4 : ∀ w ∈ u_ws RX4 TX4 8, w ∈ xB := fun w h => List.mem_filter.mpr ⟨inX4 w h, List.all_eq_true.mp (by decide +kernel : (u_ws RX4 TX4 8).all goodWord = true) w h⟩
theorem xuX5 : ∀ w ∈ u_ws RX5 TX5 8, w ∈ xB := fun w h => List.mem_filter.mpr ⟨inX5 w h, List.all_eq_true.mp (by decide +kernel : (u_ws RX5 TX5 8).all goodWord = true) w h⟩
theorem xuX6 : ∀ w ∈ u_ws RX6 TX6 23, w ∈ xB := fun w h => List.mem_filter.mpr ⟨inX6 w h, List.all_eq_true.mp (by decide +kernel : (u_ws RX6 TX6 23).all goodWord = true) w h⟩
theorem xh_47 : ∀ w ∈ (vx_atS RX5 47 "java/lang/IllegalStateException" ["java/lang/RuntimeException", "java/lang/Exception"]).filter goodWord, w ∈ xB := fun w h => List.mem_filter.mpr ⟨(by decide +kernel : ∀ w ∈ (vx_atS RX5 47 "java/lang/IllegalStateException" ["java/lang/RuntimeException", "java/lang/Exception"]).filter goodWord, w ∈ lw_tbl) w h, (List.mem_filter.mp h).2⟩
theorem xb_47 : ∀ w ∈ (vx_atS RX5 47 "java/lang/IllegalStateException" ["java/lang/RuntimeException", "java/lang/Exception"]).filter (fun w => !goodWord w), w ∈ xnw := by decide +kernel
theorem xg_47 : ∀ w ∈ Cond.classLink RX5 43 "java/lang/IllegalStateException" :: Cond.initialized "java/lang/IllegalStateException" :: vx_atS RX5 47 "java/lang/IllegalStateException" ["java/lang/RuntimeException", "java/lang/Exception"], vx_ot w = true := by decide +kernel
theorem xh_86 : ∀ w ∈ (vx_atS RX5 86 "java/lang/UnsupportedOperationException" ["java/lang/RuntimeException", "java/lang/Exception"]).filter goodWord, w ∈ xB := fun w h => List.mem_filter.mpr ⟨(by decide +kernel : ∀ w ∈ (vx_atS RX5 86 "java/lang/UnsupportedOperationException" ["java/lang/RuntimeException", "java/lang/Exception"]).filter goodWord, w ∈ lw_tbl) w h, (List.mem_filter.mp h).2⟩
theorem xb_86 : ∀ w ∈ (vx_atS RX5 86 "java/lang/UnsupportedOperationException" ["java/lang/RuntimeException", "java/lang/Exception"]).filter (fun w => !goodWord w), w ∈ xnw := by decide +kernel
theorem xg_86 : ∀ w ∈ Cond.classLink RX5 82 "java/lang/UnsupportedOperationException" :: Cond.initialized "java/lang/UnsupportedOperationException" :: vx_atS RX5 86 "java/lang/UnsupportedOperationException" ["java/lang/RuntimeException", "java/lang/Exception"], vx_ot w = true := by decide +kernel
theorem xh_120 : ∀ w ∈ (vx_atS RX5 120 "java/lang/IllegalArgumentException" ["java/lang/RuntimeException", "java/lang/Exception"]).filter goodWord, w ∈ xB := fun w h => List.mem_filter.mpr ⟨(by decide +kernel : ∀ w ∈ (vx_atS RX5 120 "java/lang/IllegalArgumentException" ["java/lang/RuntimeException", "java/lang/Exception"]).filter goodWord, w ∈ lw_tbl) w h, (List.mem_filter.mp h).2⟩
theorem xb_120 : ∀ w ∈ (vx_atS RX5 120 "java/lang/IllegalArgumentException" ["java/lang/RuntimeException", "java/lang/Exception"]).filter (fun w => !goodWord w), w ∈ xnw := by decide +kernel
theorem xg_120 : ∀ w ∈ Cond.classLink RX5 116 "java/lang/IllegalArgumentException" :: Cond.initialized "java/lang/IllegalArgumentException" :: vx_atS RX5 120 "java/lang/IllegalArgumentException" ["java/lang/RuntimeException", "java/lang/Exception"], vx_ot w = true := by decide +kernel
theorem xh_274 : ∀ w ∈ (vx_atS RX5 274 "java/lang/ArithmeticException" ["java/lang/RuntimeException", "java/lang/Exception"]).filter goodWord, w ∈ xB := fun w h => List.mem_filter.mpr ⟨(by decide +kernel : ∀ w ∈ (vx_atS RX5 274 "java/lang/ArithmeticException" ["java/lang/RuntimeException", "java/lang/Exception"]).filter goodWord, w ∈ lw_tbl) w h, (List.mem_filter.mp h).2⟩
theorem xb_274 : ∀ w ∈ (vx_atS RX5 274 "java/lang/ArithmeticException" ["java/lang/RuntimeException", "java/lang/Exception"]).filter (fun w => !goodWord w), w ∈ xnw := by decide +kernel
theorem xg_274 : ∀ w ∈ Cond.classLink RX5 270 "java/lang/ArithmeticException" :: Cond.initialized "java/lang/ArithmeticException" :: vx_atS RX5 274 "java/lang/ArithmeticException" ["java/lang/RuntimeException", "java/lang/Exception"], vx_ot w = true := by decide +kernel
theorem xh_281 : ∀ w ∈ (vx_atS RX5 281 "java/lang/IndexOutOfBoundsException" ["java/lang/RuntimeException", "java/lang/Exception"]).filter goodWord, w ∈ xB := fun w h => List.mem_filter.mpr ⟨(by decide +kernel : ∀ w ∈ (vx_atS RX5 281 "java/lang/IndexOutOfBoundsException" ["java/lang/RuntimeException", "java/lang/Exception"]).filter goodWord, w ∈ lw_tbl) w h, (List.mem_filter.mp h).2⟩
theorem xb_281 : ∀ w ∈ (vx_atS RX5 281 "java/lang/IndexOutOfBoundsException" ["java/lang/RuntimeException", "java/lang/Exception"]).filter (fun w => !goodWord w), w ∈ xnw := by decide +kernel
theorem xg_281 : ∀ w ∈ Cond.classLink RX5 277 "java/lang/IndexOutOfBoundsException" :: Cond.initialized "java/lang/IndexOutOfBoundsException" :: vx_atS RX5 281 "java/lang/IndexOutOfBoundsException" ["java/lang/RuntimeException", "java/lang/Exception"], vx_ot w = true := by decide +kernel
end
section
abbrev rX0_of : Room := { frames := 0, cells := 0, slots := 0, locals := 0 }
abbrev zX0_of : List Cond := Cond.code yX0_of cX0_of 2 (some .int) :: xB
theorem xd_X0_of : yX0_of.cls = RX0 ∧ yX0_of.cls ≠ "java/lang/invoke/MethodHandle" ∧ yX0_of.cls ≠ "java/lang/invoke/VarHandle" ∧ (parseMethodDescriptor yX0_of.desc).map (fun d => d.parameters.length) = some 1 := by decide +kernel
def fX0_of (nS : Nat) (nT : Nat) (k0 : Nat) (j0 : Nat) (a1 : Int32) (sc : xSC) : Option Int32 := (if a1 = 0 then some (sc.1 k0 j0 0) else (if a1 = 1 then some (sc.1 k0 j0 1) else (if a1 = 2 then some (sc.1 k0 j0 2) else some 0)))
set_option maxHeartbeats 4000000 in
set_option maxRecDepth 100000 in
theorem kX0_of (l : Launch) (hl0 : l.stackTraces = false) (G : xG) (sh : xSh) (sc : xSC) (sr : xSR) (sl : xSL) (k0 : Nat) (j0 : Nat) (a1 : Int32) (hk0 : xAm k0) (hm0 : (k0, j0) ∈ xix sh) (r : Int32) (hf : fX0_of sh.2.1 sh.2.2 k0 j0 a1 sc = some r) : xMet l yX0_of zX0_of rX0_of G sh sc sr sl ([.ref (sh.1 k0 j0), .int a1] : List Value) (xvI (.inr r)) (xWd G sh sc sr sl) := by
  refine xMet_of (cc := cX0_of) (maxL := 2) (ret := (some .int)) (by decide) (Nat.le_of_ble_eq_true rfl) ?_
  intro p e s m below meth c F hT hW hr hlocks htab ls hl
  have F : CallFix p m c cX0_of 2 s ([.ref (sh.1 k0 j0), .int a1] : List Value).toArray xB RX0 := F
  have hx := F.1
  have hb := F.2.1
  have hS : va_S (xA G) s.heap s.heap [] := va_S.rf
  have hl : lv_has ls 2 [(0, .ref (sh.1 k0 j0)), (1, .int a1)] := hl
  unfold fX0_of at hf
  refine lv_iload_n hx hb dX0_of_0 rfl (lv_at hl 1 rfl) ?_
  by_cases c1 : a1 = 0
  · replace hf := if_t c1 hf
    refine W.eq (g2 := F0 m 1 ls (.int 0 :: [])) (by rw [c1]) ?_
    refine lv_tableIn (tgt := 28) hx hb dX0_of_1 (by decide) (by decide) rfl (by decide) ?_
    refine lv_aload_n hx hb dX0_of_28 rfl (lv_at hl 0 rfl) ?_
    refine xget F hT hW xuX0 (hm0) (xce_am hk0) rfl 0 (by decide) xw_288 rfl rfl dX0_of_29 ?_
    cases hf
    exact xret_i (ty := .int) F hr hlocks hS rfl rfl hW (Nat.le_of_ble_eq_true rfl) (Nat.le_of_ble_eq_true rfl) dX0_of_32
  replace hf := if_f c1 hf
  by_cases c2 : a1 = 1
  · replace hf := if_t c2 hf
    refine W.eq (g2 := F0 m 1 ls (.int 1 :: [])) (by rw [c2]) ?_
    refine lv_tableIn (tgt := 33) hx hb dX0_of_1 (by decide) (by decide) rfl (by decide) ?_
    refine lv_aload_n hx hb dX0_of_33 rfl (lv_at hl 0 rfl) ?_
    refine xget F hT hW xuX0 (hm0) (xce_am hk0) rfl 1 (by decide) xw_291 rfl rfl dX0_of_34 ?_
    cases hf
    exact xret_i (ty := .int) F hr hlocks hS rfl rfl hW (Nat.le_of_ble_eq_true rfl) (Nat.le_of_ble_eq_true rfl) dX0_of_37
  replace hf := if_f c2 hf
  by_cases c3 : a1 = 2
  · replace hf := if_t c3 hf
    refine W.eq (g2 := F0 m 1 ls (.int 2 :: [])) (by rw [c3]) ?_
    refine lv_tableIn (tgt := 38) hx hb dX0_of_1 (by decide) (by decide) rfl (by decide) ?_
    refine lv_aload_n hx hb dX0_of_38 rfl (lv_at hl 0 rfl) ?_
    refine xget F hT hW xuX0 (hm0) (xce_am hk0) rfl 2 (by decide) xw_294 rfl rfl dX0_of_39 ?_
    cases hf
    exact xret_i (ty := .int) F hr hlocks hS rfl rfl hW (Nat.le_of_ble_eq_true rfl) (Nat.le_of_ble_eq_true rfl) dX0_of_42
  replace hf := if_f c3 hf
  refine lv_tableOut (tgt := 43) hx hb dX0_of_1 (xsw_out3 c1 c2 c3) (by decide) ?_
  refine lv_iconst (v := 0) hx hb dX0_of_43 (by decide) ?_
  cases hf
  exact xret_i (ty := .int) F hr hlocks hS rfl rfl hW (Nat.le_of_ble_eq_true rfl) (Nat.le_of_ble_eq_true rfl) dX0_of_44
abbrev rX0_put : Room := { frames := 0, cells := 0, slots := 0, locals := 0 }
abbrev zX0_put : List Cond := Cond.code yX0_put cX0_put 3 none :: xB
theorem xd_X0_put : yX0_put.cls = RX0 ∧ yX0_put.cls ≠ "java/lang/invoke/MethodHandle" ∧ yX0_put.cls ≠ "java/lang/invoke/VarHandle" ∧ (parseMethodDescriptor yX0_put.desc).map (fun d => d.parameters.length) = some 2 := by decide +kernel
def fX0_put (nS : Nat) (nT : Nat) (k0 : Nat) (j0 : Nat) (a1 : Int32) (a2 : Int32) (sc : xSC) : Option (Unit × xSC) := (if a1 = 0 then some ((), (xuC sc.1 k0 j0 0 a2, sc.2)) else (if a1 = 1 then some ((), (xuC sc.1 k0 j0 1 a2, sc.2)) else (if a1 = 2 then some ((), (xuC sc.1 k0 j0 2 a2, sc.2)) else some ((), sc))))
set_option maxHeartbeats 4000000 in
set_option maxRecDepth 100000 in
theorem kX0_put (l : Launch) (hl0 : l.stackTraces = false) (G : xG) (sh : xSh) (sc : xSC) (sr : xSR) (sl : xSL) (k0 : Nat) (j0 : Nat) (a1 : Int32) (a2 : Int32) (hk0 : xAm k0) (hm0 : (k0, j0) ∈ xix sh) (r : (Unit × xSC)) (hf : fX0_put sh.2.1 sh.2.2 k0 j0 a1 a2 sc = some r) : xMet l yX0_put zX0_put rX0_put G sh sc sr sl ([.ref (sh.1 k0 j0), .int a1, .int a2] : List Value) (xvU (.inr r.1)) (xWd G sh r.2 sr sl) := by
  refine xMet_of (cc := cX0_put) (maxL := 3) (ret := none) (by decide) (Nat.le_of_ble_eq_true rfl) ?_
  intro p e s m below meth c F hT hW hr hlocks htab ls hl
  have F : CallFix p m c cX0_put 3 s ([.ref (sh.1 k0 j0), .int a1, .int a2] : List Value).toArray xB RX0 := F
  have hx := F.1
  have hb := F.2.1
  have hS : va_S (xA G) s.heap s.heap [] := va_S.rf
  have hl : lv_has ls 3 [(0, .ref (sh.1 k0 j0)), (1, .int a1), (2, .int a2)] := hl
  unfold fX0_put at hf
  refine lv_iload_n hx hb dX0_put_0 rfl (lv_at hl 1 rfl) ?_
  by_cases c1 : a1 = 0
  · replace hf := if_t c1 hf
    refine W.eq (g2 := F0 m 1 ls (.int 0 :: [])) (by rw [c1]) ?_
    refine lv_tableIn (tgt := 28) hx hb dX0_put_1 (by decide) (by decide) rfl (by decide) ?_
    refine lv_aload_n hx hb dX0_put_28 rfl (lv_at hl 0 rfl) ?_
    refine lv_iload_n hx hb dX0_put_29 rfl (lv_at hl 2 rfl) ?_
    refine xput (ty := .int) F hT hW hS xuX0 tyX0 tyX0_ok nmX0 (hm0) (xce_am hk0) rfl 0 (by decide) xw_288 rfl rfl rfl rfl rfl (Nat.le_of_ble_eq_true rfl) (xup_am_0 hk0) dX0_put_30 (fun H locs hW hS => ?_)
    refine lv_goto (tgt := 52) hx hb dX0_put_33 (by decide) ?_
    cases hf
    exact xret_v F hr hlocks hS rfl hW (Nat.le_of_ble_eq_true rfl) (Nat.le_of_ble_eq_true rfl) dX0_put_52
  replace hf := if_f c1 hf
  by_cases c2 : a1 = 1
  · replace hf := if_t c2 hf
    refine W.eq (g2 := F0 m 1 ls (.int 1 :: [])) (by rw [c2]) ?_
    refine lv_tableIn (tgt := 36) hx hb dX0_put_1 (by decide) (by decide) rfl (by decide) ?_
    refine lv_aload_n hx hb dX0_put_36 rfl (lv_at hl 0 rfl) ?_
    refine lv_iload_n hx hb dX0_put_37 rfl (lv_at hl 2 rfl) ?_
    refine xput (ty := .int) F hT hW hS xuX0 tyX0 tyX0_ok nmX0 (hm0) (xce_am hk0) rfl 1 (by decide) xw_291 rfl rfl rfl rfl rfl (Nat.le_of_ble_eq_true rfl) (xup_am_1 hk0) dX0_put_38 (fun H locs hW hS => ?_)
    refine lv_goto (tgt := 52) hx hb dX0_put_41 (by decide) ?_
    cases hf
    exact xret_v F hr hlocks hS rfl hW (Nat.le_of_ble_eq_true rfl) (Nat.le_of_ble_eq_true rfl) dX0_put_52
  replace hf := if_f c2 hf
  by_cases c3 : a1 = 2
  · replace hf := if_t c3 hf
    refine W.eq (g2 := F0 m 1 ls (.int 2 :: [])) (by rw [c3]) ?_
    refine lv_tableIn (tgt := 44) hx hb dX0_put_1 (by decide) (by decide) rfl (by decide) ?_
    refine lv_aload_n hx hb dX0_put_44 rfl (lv_at hl 0 rfl) ?_
    refine lv_iload_n hx hb dX0_put_45 rfl (lv_at hl 2 rfl) ?_
    refine xput (ty := .int) F hT hW hS xuX0 tyX0 tyX0_ok nmX0 (hm0) (xce_am hk0) rfl 2 (by decide) xw_294 rfl rfl rfl rfl rfl (Nat.le_of_ble_eq_true rfl) (xup_am_2 hk0) dX0_put_46 (fun H locs hW hS => ?_)
    refine lv_goto (tgt := 52) hx hb dX0_put_49 (by decide) ?_
    cases hf
    exact xret_v F hr hlocks hS rfl hW (Nat.le_of_ble_eq_true rfl) (Nat.le_of_ble_eq_true rfl) dX0_put_52
  replace hf := if_f c3 hf
  refine lv_tableOut (tgt := 52) hx hb dX0_put_1 (xsw_out3 c1 c2 c3) (by decide) ?_
  cases hf
  exact xret_v F hr hlocks hS rfl hW (Nat.le_of_ble_eq_true rfl) (Nat.le_of_ble_eq_true rfl) dX0_put_52
abbrev rX1_isUnderWay : Room := { frames := 0, cells := 0, slots := 0, locals := 0 }
abbrev zX1_isUnderWay : List Cond := Cond.code yX1_isUnderWay cX1_isUnderWay 1 (some .boolean) :: xB
theorem xd_X1_isUnderWay : yX1_isUnderWay.cls = RX1 ∧ yX1_isUnderWay.cls ≠ "java/lang/invoke/MethodHandle" ∧ yX1_isUnderWay.cls ≠ "java/lang/invoke/VarHandle" ∧ (parseMethodDescriptor yX1_isUnderWay.desc).map (fun d => d.parameters.length) = some 0 := by decide +kernel
def fX1_isUnderWay (nS : Nat) (nT : Nat) (k0 : Nat) (j0 : Nat) (sc : xSC) : Option Int32 := (if (sc.1 k0 j0 0) = 45 then some 0 else some 1)
set_option maxHeartbeats 4000000 in
set_option maxRecDepth 100000 in
theorem kX1_isUnderWay (l : Launch) (hl0 : l.stackTraces = false) (G : xG) (sh : xSh) (sc : xSC) (sr : xSR) (sl : xSL) (k0 : Nat) (j0 : Nat) (hk0 : xMv k0) (hm0 : (k0, j0) ∈ xix sh) (r : Int32) (hf : fX1_isUnderWay sh.2.1 sh.2.2 k0 j0 sc = some r) : xMet l yX1_isUnderWay zX1_isUnderWay rX1_isUnderWay G sh sc sr sl ([.ref (sh.1 k0 j0)] : List Value) (xvI (.inr r)) (xWd G sh sc sr sl) := by
  refine xMet_of (cc := cX1_isUnderWay) (maxL := 1) (ret := (some .boolean)) (by decide) (Nat.le_of_ble_eq_true rfl) ?_
  intro p e s m below meth c F hT hW hr hlocks htab ls hl
  have F : CallFix p m c cX1_isUnderWay 1 s ([.ref (sh.1 k0 j0)] : List Value).toArray xB RX1 := F
  have hx := F.1
  have hb := F.2.1
  have hS : va_S (xA G) s.heap s.heap [] := va_S.rf
  have hl : lv_has ls 1 [(0, .ref (sh.1 k0 j0))] := hl
  unfold fX1_isUnderWay at hf
  refine lv_aload_n hx hb dX1_isUnderWay_0 rfl (lv_at hl 0 rfl) ?_
  refine xget F hT hW xuX1 (hm0) (xce_mv hk0) rfl 0 (by decide) xw_53 rfl rfl dX1_isUnderWay_1 ?_
  refine lv_bipush (v := 45) hx hb dX1_isUnderWay_4 (by decide) ?_
  refine lv_icmp_eq (tgt := 13) hx hb dX1_isUnderWay_6 (by decide) (fun c1 => ?_) (fun c1 => ?_)
  · replace hf := if_t c1 hf
    refine lv_iconst (v := 0) hx hb dX1_isUnderWay_13 (by decide) ?_
    cases hf
    exact xret_i (ty := .boolean) F hr hlocks hS (by decide) rfl hW (Nat.le_of_ble_eq_true rfl) (Nat.le_of_ble_eq_true rfl) dX1_isUnderWay_14
  · replace hf := if_f c1 hf
    refine lv_iconst (v := 1) hx hb dX1_isUnderWay_9 (by decide) ?_
    refine lv_goto (tgt := 14) hx hb dX1_isUnderWay_10 (by decide) ?_
    cases hf
    exact xret_i (ty := .boolean) F hr hlocks hS (by decide) rfl hW (Nat.le_of_ble_eq_true rfl) (Nat.le_of_ble_eq_true rfl) dX1_isUnderWay_14
abbrev rX3_hasRoom : Room := { frames := 0, cells := 0, slots := 0, locals := 0 }
abbrev zX3_hasRoom : List Cond := Cond.code yX3_hasRoom cX3_hasRoom 4 (some .boolean) :: xB
theorem xd_X3_hasRoom : yX3_hasRoom.cls = RX3 ∧ yX3_hasRoom.cls ≠ "java/lang/invoke/MethodHandle" ∧ yX3_hasRoom.cls ≠ "java/lang/invoke/VarHandle" ∧ (parseMethodDescriptor yX3_hasRoom.desc).map (fun d => d.parameters.length) = some 3 := by decide +kernel
def fX3_hasRoom (nS : Nat) (nT : Nat) (j0 : Nat) (a1 : Int32) (a2 : Int32) (a3 : Int32) (sc : xSC) : Option Int32 := (if (sc.1 5 j0 0) < ((sc.1 6 j0 0) + a1) then some 0 else (if (sc.1 5 j0 1) < ((sc.1 6 j0 1) + a2) then some 0 else (if (sc.1 5 j0 2) < ((sc.1 6 j0 2) + a3) then some 0 else some 1)))
set_option maxHeartbeats 4000000 in
set_option maxRecDepth 100000 in
theorem kX3_hasRoom (l : Launch) (hl0 : l.stackTraces = false) (G : xG) (sh : xSh) (sc : xSC) (sr : xSR) (sl : xSL) (j0 : Nat) (a1 : Int32) (a2 : Int32) (a3 : Int32) (hj0 : j0 < sh.2.1) (r : Int32) (hf : fX3_hasRoom sh.2.1 sh.2.2 j0 a1 a2 a3 sc = some r) : xMet l yX3_hasRoom zX3_hasRoom rX3_hasRoom G sh sc sr sl ([.ref (sh.1 4 j0), .int a1, .int a2, .int a3] : List Value) (xvI (.inr r)) (xWd G sh sc sr sl) := by
  refine xMet_of (cc := cX3_hasRoom) (maxL := 4) (ret := (some .boolean)) (by decide) (Nat.le_of_ble_eq_true rfl) ?_
  intro p e s m below meth c F hT hW hr hlocks htab ls hl
  have F : CallFix p m c cX3_hasRoom 4 s ([.ref (sh.1 4 j0), .int a1, .int a2, .int a3] : List Value).toArray xB RX3 := F
  have hx := F.1
  have hb := F.2.1
  have hS : va_S (xA G) s.heap s.heap [] := va_S.rf
  have hl : lv_has ls 4 [(0, .ref (sh.1 4 j0)), (1, .int a1), (2, .int a2), (3, .int a3)] := hl
  unfold fX3_hasRoom at hf
  refine lv_aload_n hx hb dX3_hasRoom_0 rfl (lv_at hl 0 rfl) ?_
  refine xget F hT hW xuX3 (xm_S hj0 (by decide)) xce_4 rfl 1 (by decide) xw_306 rfl rfl dX3_hasRoom_1 ?_
  refine xgetN (host := "TenantPlacement") F hT hW xuX0 (xm_S hj0 (by decide)) (xce_am (by decide)) rfl 0 (by decide) (List.mem_of_getElem? (i := 31) rfl) rfl rfl dX3_hasRoom_4 ?_
  refine lv_iload_n hx hb dX3_hasRoom_7 rfl (lv_at hl 1 rfl) ?_
  refine lv_iadd hx hb dX3_hasRoom_8 ?_
  refine lv_aload_n hx hb dX3_hasRoom_9 rfl (lv_at hl 0 rfl) ?_
  refine xget F hT hW xuX3 (xm_S hj0 (by decide)) xce_4 rfl 0 (by decide) xw_304 rfl rfl dX3_hasRoom_10 ?_
  refine xgetN (host := "TenantPlacement") F hT hW xuX0 (xm_S hj0 (by decide)) (xce_am (by decide)) rfl 0 (by decide) (List.mem_of_getElem? (i := 31) rfl) rfl rfl dX3_hasRoom_13 ?_
  refine lv_icmp_gt (tgt := 61) hx hb dX3_hasRoom_16 (by decide) (fun c1 => ?_) (fun c1 => ?_)
  · replace hf := if_t c1 hf
    refine lv_iconst (v := 0) hx hb dX3_hasRoom_61 (by decide) ?_
    cases hf
    exact xret_i (ty := .boolean) F hr hlocks hS (by decide) rfl hW (Nat.le_of_ble_eq_true rfl) (Nat.le_of_ble_eq_true rfl) dX3_hasRoom_62
  · replace hf := if_f c1 hf
    refine lv_aload_n hx hb dX3_hasRoom_19 rfl (lv_at hl 0 rfl) ?_
    refine xget F hT hW xuX3 (xm_S hj0 (by decide)) xce_4 rfl 1 (by decide) xw_306 rfl rfl dX3_hasRoom_20 ?_
    refine xgetN (host := "TenantPlacement") F hT hW xuX0 (xm_S hj0 (by decide)) (xce_am (by decide)) rfl 1 (by decide) (List.mem_of_getElem? (i := 32) rfl) rfl rfl dX3_hasRoom_23 ?_
    refine lv_iload_n hx hb dX3_hasRoom_26 rfl (lv_at hl 2 rfl) ?_
    refine lv_iadd hx hb dX3_hasRoom_27 ?_
    refine lv_aload_n hx hb dX3_hasRoom_28 rfl (lv_at hl 0 rfl) ?_
    refine xget F hT hW xuX3 (xm_S hj0 (by decide)) xce_4 rfl 0 (by decide) xw_304 rfl rfl dX3_hasRoom_29 ?_
    refine xgetN (host := "TenantPlacement") F hT hW xuX0 (xm_S hj0 (by decide)) (xce_am (by decide)) rfl 1 (by decide) (List.mem_of_getElem? (i := 32) rfl) rfl rfl dX3_hasRoom_32 ?_
    refine lv_icmp_gt (tgt := 61) hx hb dX3_hasRoom_35 (by decide) (fun c2 => ?_) (fun c2 => ?_)
    · replace hf := if_t c2 hf
      refine lv_iconst (v := 0) hx hb dX3_hasRoom_61 (by decide) ?_
      cases hf
      exact xret_i (ty := .boolean) F hr hlocks hS (by decide) rfl hW (Nat.le_of_ble_eq_true rfl) (Nat.le_of_ble_eq_true rfl) dX3_hasRoom_62
    · replace hf := if_f c2 hf
      refine lv_aload_n hx hb dX3_hasRoom_38 rfl (lv_at hl 0 rfl) ?_
      refine xget F hT hW xuX3 (xm_S hj0 (by decide)) xce_4 rfl 1 (by decide) xw_306 rfl rfl dX3_hasRoom_39 ?_
      refine xgetN (host := "TenantPlacement") F hT hW xuX0 (xm_S hj0 (by decide)) (xce_am (by decide)) rfl 2 (by decide) (List.mem_of_getElem? (i := 33) rfl) rfl rfl dX3_hasRoom_42 ?_
      refine lv_iload_n hx hb dX3_hasRoom_45 rfl (lv_at hl 3 rfl) ?_
      refine lv_iadd hx hb dX3_hasRoom_46 ?_
      refine lv_aload_n hx hb dX3_hasRoom_47 rfl (lv_at hl 0 rfl) ?_
      refine xget F hT hW xuX3 (xm_S hj0 (by decide)) xce_4 rfl 0 (by decide) xw_304 rfl rfl dX3_hasRoom_48 ?_
      refine xgetN (host := "TenantPlacement") F hT hW xuX0 (xm_S hj0 (by decide)) (xce_am (by decide)) rfl 2 (by decide) (List.mem_of_getElem? (i := 33) rfl) rfl rfl dX3_hasRoom_51 ?_
      refine lv_icmp_gt (tgt := 61) hx hb dX3_hasRoom_54 (by decide) (fun c3 => ?_) (fun c3 => ?_)
      · replace hf := if_t c3 hf
        refine lv_iconst (v := 0) hx hb dX3_hasRoom_61 (by decide) ?_
        cases hf
        exact xret_i (ty := .boolean) F hr hlocks hS (by decide) rfl hW (Nat.le_of_ble_eq_true rfl) (Nat.le_of_ble_eq_true rfl) dX3_hasRoom_62
      · replace hf := if_f c3 hf
        refine lv_iconst (v := 1) hx hb dX3_hasRoom_57 (by decide) ?_
        refine lv_goto (tgt := 62) hx hb dX3_hasRoom_58 (by decide) ?_
        cases hf
        exact xret_i (ty := .boolean) F hr hlocks hS (by decide) rfl hW (Nat.le_of_ble_eq_true rfl) (Nat.le_of_ble_eq_true rfl) dX3_hasRoom_62
abbrev rX5_shards : Room := { frames := 0, cells := 0, slots := 0, locals := 0 }
abbrev zX5_shards : List Cond := Cond.code yX5_shards cX5_shards 6 (some .int) :: xB
theorem xd_X5_shards : yX5_shards.cls = RX5 ∧ yX5_shards.cls ≠ "java/lang/invoke/MethodHandle" ∧ yX5_shards.cls ≠ "java/lang/invoke/VarHandle" ∧ (parseMethodDescriptor yX5_shards.desc).map (fun d => d.parameters.length) = some 0 := by decide +kernel
def fX5_shards_K1 (x1L1 : Int32) (x4L1 : Int32) : Option Int32 := some x1L1
def fX5_shards_L1 (nS : Nat) (k_L1 : Int32 → Int32 → Option Int32) : Nat → Int32 → Int32 → Option Int32
  | 0, _, _ => none
  | n + 1, x1L1, x4L1 => (if 4 ≤ x4L1 then k_L1 x1L1 x4L1 else oG (xinb x4L1 4) (oN (xel nS x4L1) ((fX5_shards_L1 nS k_L1 n) x1L1 (x4L1 + 1)) (fun j2 => (fX5_shards_L1 nS k_L1 n) (x1L1 + 1) (x4L1 + 1))))
def fX5_shards (nS : Nat) (nT : Nat) (sc : xSC) : Option Int32 := fX5_shards_L1 nS (fX5_shards_K1) 64 0 0
set_option maxHeartbeats 4000000 in
set_option maxRecDepth 100000 in
theorem kX5_shards (l : Launch) (hl0 : l.stackTraces = false) (G : xG) (sh : xSh) (sc : xSC) (sr : xSR) (sl : xSL) (r : Int32) (hf : fX5_shards sh.2.1 sh.2.2 sc = some r) : xMet l yX5_shards zX5_shards rX5_shards G sh sc sr sl ([.ref (sh.1 0 0)] : List Value) (xvI (.inr r)) (xWd G sh sc sr sl) := by
  refine xMet_of (cc := cX5_shards) (maxL := 6) (ret := (some .int)) (by decide) (Nat.le_of_ble_eq_true rfl) ?_
  intro p e s m below meth c F hT hW hr hlocks htab ls hl
  have F : CallFix p m c cX5_shards 6 s ([.ref (sh.1 0 0)] : List Value).toArray xB RX5 := F
  have hx := F.1
  have hb := F.2.1
  have hS : va_S (xA G) s.heap s.heap [] := va_S.rf
  have hl : lv_has ls 6 [(0, .ref (sh.1 0 0))] := hl
  unfold fX5_shards at hf
  refine lv_iconst (v := 0) hx hb dX5_shards_0 (by decide) ?_
  refine lv_istore_n (lv' := [(1, .int 0), (0, .ref (sh.1 0 0))]) hx hb dX5_shards_1 rfl hl (by decide) rfl (fun ls hl => ?_)
  refine lv_aload_n hx hb dX5_shards_2 rfl (lv_at hl 1 rfl) ?_
  refine xget F hT hW xuX5 (xm_fix (by decide)) xce_0 rfl 0 (by decide) xw_71 rfl rfl dX5_shards_3 ?_
  refine lv_astore_n (lv' := [(2, .ref (sh.1 1 0)), (1, .int 0), (0, .ref (sh.1 0 0))]) hx hb dX5_shards_6 rfl hl (by decide) rfl (fun ls hl => ?_)
  refine lv_aload_n hx hb dX5_shards_7 rfl (lv_at hl 0 rfl) ?_
  refine xalenS F hT hW dX5_shards_8 ?_
  refine lv_istore_n (lv' := [(3, .int 4), (2, .ref (sh.1 1 0)), (1, .int 0), (0, .ref (sh.1 0 0))]) hx hb dX5_shards_9 rfl hl (by decide) rfl (fun ls hl => ?_)
  refine lv_iconst (v := 0) hx hb dX5_shards_10 (by decide) ?_
  refine lv_istore (lv' := [(4, .int 0), (3, .int 4), (2, .ref (sh.1 1 0)), (1, .int 0), (0, .ref (sh.1 0 0))]) hx hb dX5_shards_11 hl (by decide) rfl (fun ls hl => ?_)
  have hx_L1 : ∀ (x1L1 : Int32) (x4L1 : Int32), fX5_shards_K1 x1L1 x4L1 = some r → ∀ (H : Heap) (locs : List Loc), xWd G sh sc sr sl H → va_S (xA G) s.heap H locs → ∀ ls : Array Slot, lv_has ls 6 [(1, .int x1L1)] → W p l e rX5_shards s m ([.ref (sh.1 0 0)] : List Value).toArray below meth c H locs 0 0 (xQ below G (xvI (.inr r)) (xWd G sh sc sr sl) ([.ref (sh.1 0 0)] : List Value).toArray s 0 0) (F0 m 39 ls []) := by
    intro x1L1 x4L1 hf H locs hW hS ls hl
    unfold fX5_shards_K1 at hf
    refine lv_iload_n hx hb dX5_shards_39 rfl (lv_at hl 0 rfl) ?_
    cases hf
    exact xret_i (ty := .int) F hr hlocks hS rfl rfl hW (Nat.le_of_ble_eq_true rfl) (Nat.le_of_ble_eq_true rfl) dX5_shards_40
  have hL_L1 : ∀ (n : Nat) (x1L1 : Int32) (x4L1 : Int32), fX5_shards_L1 sh.2.1 (fX5_shards_K1) n x1L1 x4L1 = some r → ∀ (H : Heap) (locs : List Loc), xWd G sh sc sr sl H → va_S (xA G) s.heap H locs → ∀ ls : Array Slot, lv_has ls 6 [(1, .int x1L1), (2, .ref (sh.1 1 0)), (3, .int 4), (4, .int x4L1)] → W p l e rX5_shards s m ([.ref (sh.1 0 0)] : List Value).toArray below meth c H locs 0 0 (xQ below G (xvI (.inr r)) (xWd G sh sc sr sl) ([.ref (sh.1 0 0)] : List Value).toArray s 0 0) (F0 m 13 ls []) := by
    intro n_L1
    induction n_L1 with
    | zero =>
      intro x1L1 x4L1 hf
      unfold fX5_shards_L1 at hf
      cases hf
    | succ n_L1 ih_L1 =>
      intro x1L1 x4L1 hf H locs hW hS ls hl
      unfold fX5_shards_L1 at hf
      refine lv_iload hx hb dX5_shards_13 (lv_at hl 3 rfl) ?_
      refine lv_iload_n hx hb dX5_shards_15 rfl (lv_at hl 2 rfl) ?_
      refine lv_icmp_ge (tgt := 39) hx hb dX5_shards_16 (by decide) (fun c1 => ?_) (fun c1 => ?_)
      · replace hf := if_t c1 hf
        exact hx_L1 _ _ hf _ _ hW hS ls (lv_sub hl [0] rfl)
      · replace hf := if_f c1 hf
        refine lv_aload_n hx hb dX5_shards_19 rfl (lv_at hl 1 rfl) ?_
        refine lv_iload hx hb dX5_shards_20 (lv_at hl 3 rfl) ?_
        obtain ⟨g4, hf⟩ := oG_go hf
        refine xaldS F hT hW (xinb_ok g4) dX5_shards_22 ?_
        rcases o5 : xel sh.2.1 x4L1 with _ | j2
        · replace hf := oN_0 o5 hf
          refine W.eq (g2 := F0 m 23 ls (.null :: [])) rfl ?_
          refine lv_astoreN (lv' := [(5, .null), (1, .int x1L1), (2, .ref (sh.1 1 0)), (3, .int 4), (4, .int x4L1)]) hx hb dX5_shards_23 hl (by decide) rfl (fun ls hl => ?_)
          refine lv_aloadN hx hb dX5_shards_25 (lv_at hl 0 rfl) ?_
          refine lv_ifnullN (tgt := 33) hx hb dX5_shards_27 (by decide) ?_
          refine lv_iinc (v := (x4L1 + 1)) (lv' := [(4, .int (x4L1 + 1)), (5, .null), (1, .int x1L1), (2, .ref (sh.1 1 0)), (3, .int 4)]) hx hb dX5_shards_33 hl (k := 4) rfl rfl (by decide) rfl (fun ls hl => ?_)
          refine lv_goto (tgt := 13) hx hb dX5_shards_36 (by decide) ?_
          exact ih_L1 _ _ hf _ _ hW hS ls (lv_sub hl [2, 3, 4, 0] rfl)
        · replace hf := oN_1 o5 hf
          have h3 : j2 < sh.2.1 := xel_lt o5
          refine W.eq (g2 := F0 m 23 ls (.ref (sh.1 4 j2) :: [])) rfl ?_
          refine lv_astore (lv' := [(5, .ref (sh.1 4 j2)), (1, .int x1L1), (2, .ref (sh.1 1 0)), (3, .int 4), (4, .int x4L1)]) hx hb dX5_shards_23 hl (by decide) rfl (fun ls hl => ?_)
          refine lv_aload hx hb dX5_shards_25 (lv_at hl 0 rfl) ?_
          refine lv_ifnull hx hb dX5_shards_27 ?_
          refine lv_iinc (v := (x1L1 + 1)) (lv' := [(1, .int (x1L1 + 1)), (5, .ref (sh.1 4 j2)), (2, .ref (sh.1 1 0)), (3, .int 4), (4, .int x4L1)]) hx hb dX5_shards_30 hl (k := 1) rfl rfl (by decide) rfl (fun ls hl => ?_)
          refine lv_iinc (v := (x4L1 + 1)) (lv' := [(4, .int (x4L1 + 1)), (1, .int (x1L1 + 1)), (5, .ref (sh.1 4 j2)), (2, .ref (sh.1 1 0)), (3, .int 4)]) hx hb dX5_shards_33 hl (k := 4) rfl rfl (by decide) rfl (fun ls hl => ?_)
          refine lv_goto (tgt := 13) hx hb dX5_shards_36 (by decide) ?_
          exact ih_L1 _ _ hf _ _ hW hS ls (lv_sub hl [1, 3, 4, 0] rfl)
  exact hL_L1 _ _ _ hf _ _ hW hS ls (lv_sub hl [3, 2, 1, 0] rfl)
abbrev rX5_requireRange : Room := { frames := 6, cells := 1, slots := 6, locals := 90 }
abbrev zX5_requireRange : List Cond := Cond.code yX5_requireRange cX5_requireRange 3 none :: xB
theorem xd_X5_requireRange : yX5_requireRange.cls = RX5 ∧ yX5_requireRange.cls ≠ "java/lang/invoke/MethodHandle" ∧ yX5_requireRange.cls ≠ "java/lang/invoke/VarHandle" ∧ (parseMethodDescriptor yX5_requireRange.desc).map (fun d => d.parameters.length) = some 3 := by decide +kernel
def fX5_requireRange (nS : Nat) (nT : Nat) (a1 : Int32) (a2 : Int32) (a3 : Int32) (sc : xSC) : Option (String ⊕ Unit) := (if a1 < a2 then some (Sum.inl "java/lang/IllegalArgumentException") else (if a1 ≤ a3 then some (Sum.inr ()) else some (Sum.inl "java/lang/IllegalArgumentException")))
set_option maxHeartbeats 4000000 in
set_option maxRecDepth 100000 in
theorem kX5_requireRange (l : Launch) (hl0 : l.stackTraces = false) (G : xG) (sh : xSh) (sc : xSC) (sr : xSR) (sl : xSL) (a1 : Int32) (a2 : Int32) (a3 : Int32) (r : (String ⊕ Unit)) (hf : fX5_requireRange sh.2.1 sh.2.2 a1 a2 a3 sc = some r) : xMet l yX5_requireRange zX5_requireRange rX5_requireRange G sh sc sr sl ([.int a1, .int a2, .int a3] : List Value) (xvU r) (xWd G sh sc sr sl) := by
  refine xMet_of (cc := cX5_requireRange) (maxL := 3) (ret := none) (by decide) (Nat.le_of_ble_eq_true rfl) ?_
  intro p e s m below meth c F hT hW hr hlocks htab ls hl
  have F : CallFix p m c cX5_requireRange 3 s ([.int a1, .int a2, .int a3] : List Value).toArray xB RX5 := F
  have hx := F.1
  have hb := F.2.1
  have hS : va_S (xA G) s.heap s.heap [] := va_S.rf
  have hl : lv_has ls 3 [(0, .int a1), (1, .int a2), (2, .int a3)] := hl
  unfold fX5_requireRange at hf
  refine lv_iload_n hx hb dX5_requireRange_0 rfl (lv_at hl 0 rfl) ?_
  refine lv_iload_n hx hb dX5_requireRange_1 rfl (lv_at hl 1 rfl) ?_
  refine lv_icmp_lt (tgt := 10) hx hb dX5_requireRange_2 (by decide) (fun c1 => ?_) (fun c1 => ?_)
  · replace hf := if_t c1 hf
    cases hf
    refine xthrowW (cls := "java/lang/IllegalArgumentException") (text := "a number is out of range") (ik := 116) (is := 275) (ic := 120) F hT hW hS hl0 hlocks htab hl.1 xw_188 xw_8 (List.mem_of_getElem? (i := 10) rfl) xh_120 xb_120 (by decide +kernel) xg_120 (Nat.le_of_ble_eq_true rfl) (Nat.le_of_ble_eq_true rfl) (Nat.le_of_ble_eq_true rfl) (Nat.le_of_ble_eq_true rfl) ?_ ?_ (Nat.le_of_ble_eq_true rfl) (Nat.le_of_ble_eq_true rfl) dX5_requireRange_10 dX5_requireRange_13 dX5_requireRange_14 dX5_requireRange_17 dX5_requireRange_20
    · rfl
    · exact fun H h => h
  · replace hf := if_f c1 hf
    refine lv_iload_n hx hb dX5_requireRange_5 rfl (lv_at hl 0 rfl) ?_
    refine lv_iload_n hx hb dX5_requireRange_6 rfl (lv_at hl 2 rfl) ?_
    refine lv_icmp_le (tgt := 21) hx hb dX5_requireRange_7 (by decide) (fun c2 => ?_) (fun c2 => ?_)
    · replace hf := if_t c2 hf
      cases hf
      exact xret_v F hr hlocks hS rfl hW (Nat.le_of_ble_eq_true rfl) (Nat.le_of_ble_eq_true rfl) dX5_requireRange_21
    · replace hf := if_f c2 hf
      cases hf
      refine xthrowW (cls := "java/lang/IllegalArgumentException") (text := "a number is out of range") (ik := 116) (is := 275) (ic := 120) F hT hW hS hl0 hlocks htab hl.1 xw_188 xw_8 (List.mem_of_getElem? (i := 10) rfl) xh_120 xb_120 (by decide +kernel) xg_120 (Nat.le_of_ble_eq_true rfl) (Nat.le_of_ble_eq_true rfl) (Nat.le_of_ble_eq_true rfl) (Nat.le_of_ble_eq_true rfl) ?_ ?_ (Nat.le_of_ble_eq_true rfl) (Nat.le_of_ble_eq_true rfl) dX5_requireRange_10 dX5_requireRange_13 dX5_requireRange_14 dX5_requireRange_17 dX5_requireRange_20
      · rfl
      · exact fun H h => h
abbrev rX5_shardOrNull : Room := { frames := 0, cells := 0, slots := 0, locals := 0 }
abbrev zX5_shardOrNull : List Cond := Cond.code yX5_shardOrNull cX5_shardOrNull 2 (some (.object "TenantPlacement$Shard")) :: xB
theorem xd_X5_shardOrNull : yX5_shardOrNull.cls = RX5 ∧ yX5_shardOrNull.cls ≠ "java/lang/invoke/MethodHandle" ∧ yX5_shardOrNull.cls ≠ "java/lang/invoke/VarHandle" ∧ (parseMethodDescriptor yX5_shardOrNull.desc).map (fun d => d.parameters.length) = some 1 := by decide +kernel
def fX5_shardOrNull (nS : Nat) (nT : Nat) (a1 : Int32) (sc : xSC) : Option (Option Nat) := (if a1 < 0 then some none else (if a1 < 4 then oG (xinb a1 4) (oN (xel nS a1) (some none) (fun j3 => some (some j3))) else some none))
set_option maxHeartbeats 4000000 in
set_option maxRecDepth 100000 in
theorem kX5_shardOrNull (l : Launch) (hl0 : l.stackTraces = false) (G : xG) (sh : xSh) (sc : xSC) (sr : xSR) (sl : xSL) (a1 : Int32) (r : (Option Nat)) (hf : fX5_shardOrNull sh.2.1 sh.2.2 a1 sc = some r) : xMet l yX5_shardOrNull zX5_shardOrNull rX5_shardOrNull G sh sc sr sl ([.ref (sh.1 0 0), .int a1] : List Value) (xvO sh 4 (.inr r)) (xWd G sh sc sr sl) := by
  refine xMet_of (cc := cX5_shardOrNull) (maxL := 2) (ret := (some (.object "TenantPlacement$Shard"))) (by decide) (Nat.le_of_ble_eq_true rfl) ?_
  intro p e s m below meth c F hT hW hr hlocks htab ls hl
  have F : CallFix p m c cX5_shardOrNull 2 s ([.ref (sh.1 0 0), .int a1] : List Value).toArray xB RX5 := F
  have hx := F.1
  have hb := F.2.1
  have hS : va_S (xA G) s.heap s.heap [] := va_S.rf
  have hl : lv_has ls 2 [(0, .ref (sh.1 0 0)), (1, .int a1)] := hl
  unfold fX5_shardOrNull at hf
  refine lv_iload_n hx hb dX5_shardOrNull_0 rfl (lv_at hl 1 rfl) ?_
  refine lv_if_lt (tgt := 13) hx hb dX5_shardOrNull_1 (by decide) (fun c1 => ?_) (fun c1 => ?_)
  · replace hf := if_t c1 hf
    refine lv_null hx hb dX5_shardOrNull_13 ?_
    refine lv_goto (tgt := 23) hx hb dX5_shardOrNull_14 (by decide) ?_
    cases hf
    exact xret_a F hr (Or.inl ⟨_, rfl⟩) (Or.inl rfl) hlocks hS rfl hW (Nat.le_of_ble_eq_true rfl) (Nat.le_of_ble_eq_true rfl) dX5_shardOrNull_23
  · replace hf := if_f c1 hf
    refine lv_iload_n hx hb dX5_shardOrNull_4 rfl (lv_at hl 1 rfl) ?_
    refine lv_aload_n hx hb dX5_shardOrNull_5 rfl (lv_at hl 0 rfl) ?_
    refine xget F hT hW xuX5 (xm_fix (by decide)) xce_0 rfl 0 (by decide) xw_71 rfl rfl dX5_shardOrNull_6 ?_
    refine xalenS F hT hW dX5_shardOrNull_9 ?_
    refine lv_icmp_lt (tgt := 17) hx hb dX5_shardOrNull_10 (by decide) (fun c2 => ?_) (fun c2 => ?_)
    · replace hf := if_t c2 hf
      refine lv_aload_n hx hb dX5_shardOrNull_17 rfl (lv_at hl 0 rfl) ?_
      refine xget F hT hW xuX5 (xm_fix (by decide)) xce_0 rfl 0 (by decide) xw_71 rfl rfl dX5_shardOrNull_18 ?_
      refine lv_iload_n hx hb dX5_shardOrNull_21 rfl (lv_at hl 1 rfl) ?_
      obtain ⟨g5, hf⟩ := oG_go hf
      refine xaldS F hT hW (xinb_ok g5) dX5_shardOrNull_22 ?_
      rcases o6 : xel sh.2.1 a1 with _ | j3
      · replace hf := oN_0 o6 hf
        refine W.eq (g2 := F0 m 23 ls (.null :: [])) rfl ?_
        cases hf
        exact xret_a F hr (Or.inl ⟨_, rfl⟩) (Or.inl rfl) hlocks hS rfl hW (Nat.le_of_ble_eq_true rfl) (Nat.le_of_ble_eq_true rfl) dX5_shardOrNull_23
      · replace hf := oN_1 o6 hf
        have h4 : j3 < sh.2.1 := xel_lt o6
        refine W.eq (g2 := F0 m 23 ls (.ref (sh.1 4 j3) :: [])) rfl ?_
        cases hf
        exact xret_a F hr (Or.inl ⟨_, rfl⟩) (Or.inr ⟨_, rfl⟩) hlocks hS rfl hW (Nat.le_of_ble_eq_true rfl) (Nat.le_of_ble_eq_true rfl) dX5_shardOrNull_23
    · replace hf := if_f c2 hf
      refine lv_null hx hb dX5_shardOrNull_13 ?_
      refine lv_goto (tgt := 23) hx hb dX5_shardOrNull_14 (by decide) ?_
      cases hf
      exact xret_a F hr (Or.inl ⟨_, rfl⟩) (Or.inl rfl) hlocks hS rfl hW (Nat.le_of_ble_eq_true rfl) (Nat.le_of_ble_eq_true rfl) dX5_shardOrNull_23
abbrev rX5_knownShard : Room := { frames := 6, cells := 1, slots := 6, locals := 90 }
abbrev zX5_knownShard : List Cond := Cond.code yX5_knownShard cX5_knownShard 3 (some (.object "TenantPlacement$Shard")) :: xB
theorem xd_X5_knownShard : yX5_knownShard.cls = RX5 ∧ yX5_knownShard.cls ≠ "java/lang/invoke/MethodHandle" ∧ yX5_knownShard.cls ≠ "java/lang/invoke/VarHandle" ∧ (parseMethodDescriptor yX5_knownShard.desc).map (fun d => d.parameters.length) = some 1 := by decide +kernel
def fX5_knownShard (nS : Nat) (nT : Nat) (a1 : Int32) (sc : xSC) : Option (String ⊕ Nat) := oB (fX5_shardOrNull nS nT a1 sc) (fun v1 => oN v1 (some (Sum.inl "java/lang/IndexOutOfBoundsException")) (fun j2 => oG (decide (j2 < nS)) (some (Sum.inr j2))))
set_option maxHeartbeats 4000000 in
set_option maxRecDepth 100000 in
theorem kX5_knownShard (l : Launch) (hl0 : l.stackTraces = false) (G : xG) (sh : xSh) (sc : xSC) (sr : xSR) (sl : xSL) (a1 : Int32) (r : (String ⊕ Nat)) (hf : fX5_knownShard sh.2.1 sh.2.2 a1 sc = some r) : xMet l yX5_knownShard zX5_knownShard rX5_knownShard G sh sc sr sl ([.ref (sh.1 0 0), .int a1] : List Value) (xvR sh 4 r) (xWd G sh sc sr sl) := by
  refine xMet_of (cc := cX5_knownShard) (maxL := 3) (ret := (some (.object "TenantPlacement$Shard"))) (by decide) (Nat.le_of_ble_eq_true rfl) ?_
  intro p e s m below meth c F hT hW hr hlocks htab ls hl
  have F : CallFix p m c cX5_knownShard 3 s ([.ref (sh.1 0 0), .int a1] : List Value).toArray xB RX5 := F
  have hx := F.1
  have hb := F.2.1
  have hS : va_S (xA G) s.heap s.heap [] := va_S.rf
  have hl : lv_has ls 3 [(0, .ref (sh.1 0 0)), (1, .int a1)] := hl
  unfold fX5_knownShard at hf
  refine lv_aload_n hx hb dX5_knownShard_0 rfl (lv_at hl 0 rfl) ?_
  refine lv_iload_n hx hb dX5_knownShard_1 rfl (lv_at hl 1 rfl) ?_
  obtain ⟨v1, hc6, hf⟩ := oB_go hf
  refine xcallV (n := 1) F hT hW hS (xm_fix (by decide)) xce_0 rfl (kX5_shardOrNull l hl0 G sh sc sr sl a1  _ hc6) (xgV xw_358 xw_360 xwp_3 xw_1 xw_361) rfl xd_X5_shardOrNull ⟨Nat.le_of_ble_eq_true rfl, Nat.le_of_ble_eq_true rfl⟩ rfl hl.1 rfl (Nat.le_of_ble_eq_true rfl) dX5_knownShard_2 ⟨Nat.le_of_ble_eq_true rfl, Nat.le_of_ble_eq_true rfl⟩ (fun v9 H locs hres hW hS => ?_) (fun E9 H locs q9 ce9 hres => by cases hres)
  cases hres
  rcases o5 : v1 with _ | j2
  · replace hf := oN_0 o5 hf
    refine W.eq (g2 := F0 m 5 ls (.null :: [])) (by rw [o5]; rfl) ?_
    refine lv_astore_nN (lv' := [(2, .null), (0, .ref (sh.1 0 0)), (1, .int a1)]) hx hb dX5_knownShard_5 rfl hl (by decide) rfl (fun ls hl => ?_)
    refine lv_aload_nN hx hb dX5_knownShard_6 rfl (lv_at hl 0 rfl) ?_
    refine lv_ifnonnullN hx hb dX5_knownShard_7 ?_
    cases hf
    refine xthrowW (cls := "java/lang/IndexOutOfBoundsException") (text := "there is no such shard") (ik := 277) (is := 290) (ic := 281) F hT hW hS hl0 hlocks htab hl.1 xw_362 xw_12 (List.mem_of_getElem? (i := 13) rfl) xh_281 xb_281 (by decide +kernel) xg_281 (Nat.le_of_ble_eq_true rfl) (Nat.le_of_ble_eq_true rfl) (Nat.le_of_ble_eq_true rfl) (Nat.le_of_ble_eq_true rfl) ?_ ?_ (Nat.le_of_ble_eq_true rfl) (Nat.le_of_ble_eq_true rfl) dX5_knownShard_10 dX5_knownShard_13 dX5_knownShard_14 dX5_knownShard_17 dX5_knownShard_20
    · rfl
    · exact fun H h => h
  · replace hf := oN_1 o5 hf
    obtain ⟨g4, hf⟩ := oG_go hf
    have h3 : j2 < sh.2.1 := of_decide_eq_true g4
    refine W.eq (g2 := F0 m 5 ls (.ref (sh.1 4 j2) :: [])) (by rw [o5]; rfl) ?_
    refine lv_astore_n (lv' := [(2, .ref (sh.1 4 j2)), (0, .ref (sh.1 0 0)), (1, .int a1)]) hx hb dX5_knownShard_5 rfl hl (by decide) rfl (fun ls hl => ?_)
    refine lv_aload_n hx hb dX5_knownShard_6 rfl (lv_at hl 0 rfl) ?_
    refine lv_ifnonnull (tgt := 21) hx hb dX5_knownShard_7 (by decide) ?_
    refine lv_aload_n hx hb dX5_knownShard_21 rfl (lv_at hl 0 rfl) ?_
    cases hf
    exact xret_a F hr (Or.inl ⟨_, rfl⟩) (Or.inr ⟨_, rfl⟩) hlocks hS rfl hW (Nat.le_of_ble_eq_true rfl) (Nat.le_of_ble_eq_true rfl) dX5_knownShard_22
abbrev rX5_setOpen : Room := { frames := 7, cells := 1, slots := 6, locals := 112 }
abbrev zX5_setOpen : List Cond := Cond.code yX5_setOpen cX5_setOpen 5 (some .boolean) :: xB
theorem xd_X5_setOpen : yX5_setOpen.cls = RX5 ∧ yX5_setOpen.cls ≠ "java/lang/invoke/MethodHandle" ∧ yX5_setOpen.cls ≠ "java/lang/invoke/VarHandle" ∧ (parseMethodDescriptor yX5_setOpen.desc).map (fun d => d.parameters.length) = some 2 := by decide +kernel
def fX5_setOpen (nS : Nat) (nT : Nat) (a1 : Int32) (a2 : Int32) (sc : xSC) : Option ((String ⊕ Int32) × xSC) := oT (fX5_knownShard nS nT a1 sc) (fun E7 => some ((Sum.inl E7), sc)) (fun v1 => oG (decide (v1 < nS)) (oG (xnb .boolean a2) (oG (xnb .boolean (sc.1 4 v1 2)) (some ((Sum.inr (sc.1 4 v1 2)), (xuC sc.1 4 v1 2 a2, sc.2))))))
set_option maxHeartbeats 4000000 in
set_option maxRecDepth 100000 in
theorem kX5_setOpen (l : Launch) (hl0 : l.stackTraces = false) (G : xG) (sh : xSh) (sc : xSC) (sr : xSR) (sl : xSL) (a1 : Int32) (a2 : Int32) (r : ((String ⊕ Int32) × xSC)) (hf : fX5_setOpen sh.2.1 sh.2.2 a1 a2 sc = some r) : xMet l yX5_setOpen zX5_setOpen rX5_setOpen G sh sc sr sl ([.ref (sh.1 0 0), .int a1, .int a2] : List Value) (xvI r.1) (xWd G sh r.2 sr sl) := by
  refine xMet_of (cc := cX5_setOpen) (maxL := 5) (ret := (some .boolean)) (by decide) (Nat.le_of_ble_eq_true rfl) ?_
  intro p e s m below meth c F hT hW hr hlocks htab ls hl
  have F : CallFix p m c cX5_setOpen 5 s ([.ref (sh.1 0 0), .int a1, .int a2] : List Value).toArray xB RX5 := F
  have hx := F.1
  have hb := F.2.1
  have hS : va_S (xA G) s.heap s.heap [] := va_S.rf
  have hl : lv_has ls 5 [(0, .ref (sh.1 0 0)), (1, .int a1), (2, .int a2)] := hl
  unfold fX5_setOpen at hf
  refine lv_aload_n hx hb dX5_setOpen_0 rfl (lv_at hl 0 rfl) ?_
  refine lv_iload_n hx hb dX5_setOpen_1 rfl (lv_at hl 1 rfl) ?_
  rcases oT_go hf with ⟨v1, hc6, hf⟩ | ⟨E7, hc6, hf⟩
  · refine xcallV (n := 1) F hT hW hS (xm_fix (by decide)) xce_0 rfl (kX5_knownShard l hl0 G sh sc sr sl a1  _ hc6) (xgV xw_354 xw_356 xwp_2 xw_1 xw_357) rfl xd_X5_knownShard ⟨Nat.le_of_ble_eq_true rfl, Nat.le_of_ble_eq_true rfl⟩ rfl hl.1 rfl (Nat.le_of_ble_eq_true rfl) dX5_setOpen_2 ⟨Nat.le_of_ble_eq_true rfl, Nat.le_of_ble_eq_true rfl⟩ (fun v9 H locs hres hW hS => ?_) (fun E9 H locs q9 ce9 hres => by cases hres)
    cases hres
    refine W.eq (g2 := F0 m 5 ls (.ref (sh.1 4 v1) :: [])) rfl ?_
    obtain ⟨g3, hf⟩ := oG_go hf
    have h2 : v1 < sh.2.1 := of_decide_eq_true g3
    refine lv_astore_n (lv' := [(3, .ref (sh.1 4 v1)), (0, .ref (sh.1 0 0)), (1, .int a1), (2, .int a2)]) hx hb dX5_setOpen_5 rfl hl (by decide) rfl (fun ls hl => ?_)
    refine lv_aload_n hx hb dX5_setOpen_6 rfl (lv_at hl 0 rfl) ?_
    refine xgetN (host := "TenantPlacement") F hT hW xuX3 (xm_S h2 (by decide)) xce_4 rfl 2 (by decide) (List.mem_of_getElem? (i := 27) rfl) rfl rfl dX5_setOpen_7 ?_
    refine lv_istore (lv' := [(4, .int (sc.1 4 v1 2)), (3, .ref (sh.1 4 v1)), (0, .ref (sh.1 0 0)), (1, .int a1), (2, .int a2)]) hx hb dX5_setOpen_10 hl (by decide) rfl (fun ls hl => ?_)
    refine lv_aload_n hx hb dX5_setOpen_12 rfl (lv_at hl 1 rfl) ?_
    refine lv_iload_n hx hb dX5_setOpen_13 rfl (lv_at hl 4 rfl) ?_
    obtain ⟨g4, hf⟩ := oG_go hf
    refine xputN (host := "TenantPlacement") (ty := .boolean) F hT hW hS xuX3 tyX3 tyX3_ok nmX3 (xm_S h2 (by decide)) xce_4 rfl 2 (by decide) (List.mem_of_getElem? (i := 27) rfl) rfl rfl rfl (xnb_ok g4).1 (xnb_ok g4).2 (Nat.le_of_ble_eq_true rfl) xup_4_2 dX5_setOpen_14 (fun H locs hW hS => ?_)
    refine lv_iload hx hb dX5_setOpen_17 (lv_at hl 0 rfl) ?_
    obtain ⟨g5, hf⟩ := oG_go hf
    cases hf
    exact xret_i (ty := .boolean) F hr hlocks hS (xnb_ok g5).1 rfl hW (Nat.le_of_ble_eq_true rfl) (Nat.le_of_ble_eq_true rfl) dX5_setOpen_19
  · refine xcallV (n := 1) F hT hW hS (xm_fix (by decide)) xce_0 rfl (kX5_knownShard l hl0 G sh sc sr sl a1  _ hc6) (xgV xw_354 xw_356 xwp_2 xw_1 xw_357) rfl xd_X5_knownShard ⟨Nat.le_of_ble_eq_true rfl, Nat.le_of_ble_eq_true rfl⟩ rfl hl.1 rfl (Nat.le_of_ble_eq_true rfl) dX5_setOpen_2 ⟨Nat.le_of_ble_eq_true rfl, Nat.le_of_ble_eq_true rfl⟩ (fun v9 H locs hres => by cases hres) (fun E9 H locs q9 ce9 hres hW hS hcell hv9 hcl => ?_)
    cases hres
    cases hf
    exact xout htab hlocks hS rfl hW hcell hv9 hcl (Nat.le_of_ble_eq_true rfl) (Nat.le_of_ble_eq_true rfl)
end
