abbrev rX0_of : Room := { frames := 0, cells := 0, slots := 0, locals := 0 }
abbrev zX0_of : List Cond := Cond.code yX0_of cX0_of 2 (some .int) :: xB
theorem xd_X0_of : yX0_of.cls = RX0 ∧ yX0_of.cls ≠ "java/lang/invoke/MethodHandle" ∧ yX0_of.cls ≠ "java/lang/invoke/VarHandle" ∧ (parseMethodDescriptor yX0_of.desc).map (fun d => d.parameters.length) = some 1 := by decide +kernel
def fX0_of (nS : Nat) (nT : Nat) (k0 : Nat) (j0 : Nat) (a1 : Int32) (sc : xSC) : Option Int32 := (if a1 = 0 then some (sc.1 k0 j0 0) else (if a1 = 1 then some (sc.1 k0 j0 1) else (if a1 = 2 then some (sc.1 k0 j0 2) else some 0)))
set_option maxHeartbeats 4000000 in
set_option maxRecDepth 100000 in
theorem kX0_of (l : Launch) (hl0 : l.stackTraces = false) (G : xG) (sh : xSh) (sc : xSC) (sr : xSR) (sl : xSL) (k0 : Nat) (j0 : Nat) (a1 : Int32) (hk0 : xAm k0) (hm0 : (k0, j0) ∈ xix sh) (r : Int32) (hf : fX0_of sh.2.1 sh.2.2 k0 j0 a1 sc = some r) : xMet l yX0_of zX0_of rX0_of G sh sc sr sl ([.ref (sh.1 k0 j0), .int a1] : List Value) (xvI (.inr r)) (xWd G sh sc sr sl) := by
  refine xMet_of (cc := cX0_of) (maxL := 2) (ret := (some .int)) (by decide) (Nat.le_of_ble_eq_true rfl) ?_
  intro p e s m below meth c F hT hW hr hlocks htab ls hl
  have F : CallFix p m c cX0_of 2 s ([.ref (sh.1 k0 j0), .int a1] : List Value).toArray xB RX0 := F
  have hx := F.1
  have hb := F.2.1
  have hS : va_S (xA G) s.heap s.heap [] := va_S.rf
  have hl : lv_has ls 2 [(0, .ref (sh.1 k0 j0)), (1, .int a1)] := hl
  unfold fX0_of at hf
  refine lv_iload_n hx hb dX0_of_0 rfl (lv_at hl 1 rfl) ?_
  by_cases c1 : a1 = 0
  · replace hf := if_t c1 hf
    refine W.eq (g2 := F0 m 1 ls (.int 0 :: [])) (by rw [c1]) ?_
    refine lv_tableIn (tgt := 28) hx hb dX0_of_1 (by decide) (by decide) rfl (by decide) ?_
    refine lv_aload_n hx hb dX0_of_28 rfl (lv_at hl 0 rfl) ?_
    refine xget F hT hW xuX0 (hm0) (xce_am hk0) rfl 0 (by decide) xw_288 rfl rfl dX0_of_29 ?_
    cases hf
    exact xret_i (ty := .int) F hr hlocks hS rfl rfl hW (Nat.le_of_ble_eq_true rfl) (Nat.le_of_ble_eq_true rfl) dX0_of_32
  replace hf := if_f c1 hf
  by_cases c2 : a1 = 1
  · replace hf := if_t c2 hf
    refine W.eq (g2 := F0 m 1 ls (.int 1 :: [])) (by rw [c2]) ?_
    refine lv_tableIn (tgt := 33) hx hb dX0_of_1 (by decide) (by decide) rfl (by decide) ?_
    refine lv_aload_n hx hb dX0_of_33 rfl (lv_at hl 0 rfl) ?_
    refine xget F hT hW xuX0 (hm0) (xce_am hk0) rfl 1 (by decide) xw_291 rfl rfl dX0_of_34 ?_
    cases hf
    exact xret_i (ty := .int) F hr hlocks hS rfl rfl hW (Nat.le_of_ble_eq_true rfl) (Nat.le_of_ble_eq_true rfl) dX0_of_37
  replace hf := if_f c2 hf
  by_cases c3 : a1 = 2
  · replace hf := if_t c3 hf
    refine W.eq (g2 := F0 m 1 ls (.int 2 :: [])) (by rw [c3]) ?_
    refine lv_tableIn (tgt := 38) hx hb dX0_of_1 (by decide) (by decide) rfl (by decide) ?_
    refine lv_aload_n hx hb dX0_of_38 rfl (lv_at hl 0 rfl) ?_
    refine xget F hT hW xuX0 (hm0) (xce_am hk0) rfl 2 (by decide) xw_294 rfl rfl dX0_of_39 ?_
    cases hf
    exact xret_i (ty := .int) F hr hlocks hS rfl rfl hW (Nat.le_of_ble_eq_true rfl) (Nat.le_of_ble_eq_true rfl) dX0_of_42
  replace hf := if_f c3 hf
  refine lv_tableOut (tgt := 43) hx hb dX0_of_1 (xsw_out3 c1 c2 c3) (by decide) ?_
  refine lv_iconst (v := 0) hx hb dX0_of_43 (by decide) ?_
  cases hf
  exact xret_i (ty := .int) F hr hlocks hS rfl rfl hW (Nat.le_of_ble_eq_true rfl) (Nat.le_of_ble_eq_true rfl) dX0_of_44
abbrev rX0_put : Room := { frames := 0, cells := 0, slots := 0, locals := 0 }
abbrev zX0_put : List Cond := Cond.code yX0_put cX0_put 3 none :: xB
theorem xd_X0_put : yX0_put.cls = RX0 ∧ yX0_put.cls ≠ "java/lang/invoke/MethodHandle" ∧ yX0_put.cls ≠ "java/lang/invoke/VarHandle" ∧ (parseMethodDescriptor yX0_put.desc).map (fun d => d.parameters.length) = some 2 := by decide +kernel
def fX0_put (nS : Nat) (nT : Nat) (k0 : Nat) (j0 : Nat) (a1 : Int32) (a2 : Int32) (sc : xSC) : Option (Unit × xSC) := (if a1 = 0 then some ((), (xuC sc.1 k0 j0 0 a2, sc.2)) else (if a1 = 1 then some ((), (xuC sc.1 k0 j0 1 a2, sc.2)) else (if a1 = 2 then some ((), (xuC sc.1 k0 j0 2 a2, sc.2)) else some ((), sc))))
set_option maxHeartbeats 4000000 in
set_option maxRecDepth 100000 in
theorem kX0_put (l : Launch) (hl0 : l.stackTraces = false) (G : xG) (sh : xSh) (sc : xSC) (sr : xSR) (sl : xSL) (k0 : Nat) (j0 : Nat) (a1 : Int32) (a2 : Int32) (hk0 : xAm k0) (hm0 : (k0, j0) ∈ xix sh) (r : (Unit × xSC)) (hf : fX0_put sh.2.1 sh.2.2 k0 j0 a1 a2 sc = some r) : xMet l yX0_put zX0_put rX0_put G sh sc sr sl ([.ref (sh.1 k0 j0), .int a1, .int a2] : List Value) (xvU (.inr r.1)) (xWd G sh r.2 sr sl) := by
  refine xMet_of (cc := cX0_put) (maxL := 3) (ret := none) (by decide) (Nat.le_of_ble_eq_true rfl) ?_
  intro p e s m below meth c F hT hW hr hlocks htab ls hl
  have F : CallFix p m c cX0_put 3 s ([.ref (sh.1 k0 j0), .int a1, .int a2] : List Value).toArray xB RX0 := F
  have hx := F.1
  have hb := F.2.1
  have hS : va_S (xA G) s.heap s.heap [] := va_S.rf
  have hl : lv_has ls 3 [(0, .ref (sh.1 k0 j0)), (1, .int a1), (2, .int a2)] := hl
  unfold fX0_put at hf
  refine lv_iload_n hx hb dX0_put_0 rfl (lv_at hl 1 rfl) ?_
  by_cases c1 : a1 = 0
  · replace hf := if_t c1 hf
    refine W.eq (g2 := F0 m 1 ls (.int 0 :: [])) (by rw [c1]) ?_
    refine lv_tableIn (tgt := 28) hx hb dX0_put_1 (by decide) (by decide) rfl (by decide) ?_
    refine lv_aload_n hx hb dX0_put_28 rfl (lv_at hl 0 rfl) ?_
    refine lv_iload_n hx hb dX0_put_29 rfl (lv_at hl 2 rfl) ?_
    refine xput (ty := .int) F hT hW hS xuX0 tyX0 tyX0_ok nmX0 (hm0) (xce_am hk0) rfl 0 (by decide) xw_288 rfl rfl rfl rfl rfl (Nat.le_of_ble_eq_true rfl) (xup_am_0 hk0) dX0_put_30 (fun H locs hW hS => ?_)
    refine lv_goto (tgt := 52) hx hb dX0_put_33 (by decide) ?_
    cases hf
    exact xret_v F hr hlocks hS rfl hW (Nat.le_of_ble_eq_true rfl) (Nat.le_of_ble_eq_true rfl) dX0_put_52
  replace hf := if_f c1 hf
  by_cases c2 : a1 = 1
  · replace hf := if_t c2 hf
    refine W.eq (g2 := F0 m 1 ls (.int 1 :: [])) (by rw [c2]) ?_
    refine lv_tableIn (tgt := 36) hx hb dX0_put_1 (by decide) (by decide) rfl (by decide) ?_
    refine lv_aload_n hx hb dX0_put_36 rfl (lv_at hl 0 rfl) ?_
    refine lv_iload_n hx hb dX0_put_37 rfl (lv_at hl 2 rfl) ?_
    refine xput (ty := .int) F hT hW hS xuX0 tyX0 tyX0_ok nmX0 (hm0) (xce_am hk0) rfl 1 (by decide) xw_291 rfl rfl rfl rfl rfl (Nat.le_of_ble_eq_true rfl) (xup_am_1 hk0) dX0_put_38 (fun H locs hW hS => ?_)
    refine lv_goto (tgt := 52) hx hb dX0_put_41 (by decide) ?_
    cases hf
    exact xret_v F hr hlocks hS rfl hW (Nat.le_of_ble_eq_true rfl) (Nat.le_of_ble_eq_true rfl) dX0_put_52
  replace hf := if_f c2 hf
  by_cases c3 : a1 = 2
  · replace hf := if_t c3 hf
    refine W.eq (g2 := F0 m 1 ls (.int 2 :: [])) (by rw [c3]) ?_
    refine lv_tableIn (tgt := 44) hx hb dX0_put_1 (by decide) (by decide) rfl (by decide) ?_
    refine lv_aload_n hx hb dX0_put_44 rfl (lv_at hl 0 rfl) ?_
    refine lv_iload_n hx hb dX0_put_45 rfl (lv_at hl 2 rfl) ?_
    refine xput (ty := .int) F hT hW hS xuX0 tyX0 tyX0_ok nmX0 (hm0) (xce_am hk0) rfl 2 (by decide) xw_294 rfl rfl rfl rfl rfl (Nat.le_of_ble_eq_true rfl) (xup_am_2 hk0) dX0_put_46 (fun H locs hW hS => ?_)
    refine lv_goto (tgt := 52) hx hb dX0_put_49 (by decide) ?_
    cases hf
    exact xret_v F hr hlocks hS rfl hW (Nat.le_of_ble_eq_true rfl) (Nat.le_of_ble_eq_true rfl) dX0_put_52
  replace hf := if_f c3 hf
  refine lv_tableOut (tgt := 52) hx hb dX0_put_1 (xsw_out3 c1 c2 c3) (by decide) ?_
  cases hf
  exact xret_v F hr hlocks hS rfl hW (Nat.le_of_ble_eq_true rfl) (Nat.le_of_ble_eq_true rfl) dX0_put_52
abbrev rX1_isUnderWay : Room := { frames := 0, cells := 0, slots := 0, locals := 0 }
abbrev zX1_isUnderWay : List Cond := Cond.code yX1_isUnderWay cX1_isUnderWay 1 (some .boolean) :: xB
theorem xd_X1_isUnderWay : yX1_isUnderWay.cls = RX1 ∧ yX1_isUnderWay.cls ≠ "java/lang/invoke/MethodHandle" ∧ yX1_isUnderWay.cls ≠ "java/lang/invoke/VarHandle" ∧ (parseMethodDescriptor yX1_isUnderWay.desc).map (fun d => d.parameters.length) = some 0 := by decide +kernel
def fX1_isUnderWay (nS : Nat) (nT : Nat) (k0 : Nat) (j0 : Nat) (sc : xSC) : Option Int32 := (if (sc.1 k0 j0 0) = 45 then some 0 else some 1)
set_option maxHeartbeats 4000000 in
set_option maxRecDepth 100000 in
theorem kX1_isUnderWay (l : Launch) (hl0 : l.stackTraces = false) (G : xG) (sh : xSh) (sc : xSC) (sr : xSR) (sl : xSL) (k0 : Nat) (j0 : Nat) (hk0 : xMv k0) (hm0 : (k0, j0) ∈ xix sh) (r : Int32) (hf : fX1_isUnderWay sh.2.1 sh.2.2 k0 j0 sc = some r) : xMet l yX1_isUnderWay zX1_isUnderWay rX1_isUnderWay G sh sc sr sl ([.ref (sh.1 k0 j0)] : List Value) (xvI (.inr r)) (xWd G sh sc sr sl) := by
  refine xMet_of (cc := cX1_isUnderWay) (maxL := 1) (ret := (some .boolean)) (by decide) (Nat.le_of_ble_eq_true rfl) ?_
  intro p e s m below meth c F hT hW hr hlocks htab ls hl
  have F : CallFix p m c cX1_isUnderWay 1 s ([.ref (sh.1 k0 j0)] : List Value).toArray xB RX1 := F
  have hx := F.1
  have hb := F.2.1
  have hS : va_S (xA G) s.heap s.heap [] := va_S.rf
  have hl : lv_has ls 1 [(0, .ref (sh.1 k0 j0))] := hl
  unfold fX1_isUnderWay at hf
  refine lv_aload_n hx hb dX1_isUnderWay_0 rfl (lv_at hl 0 rfl) ?_
  refine xget F hT hW xuX1 (hm0) (xce_mv hk0) rfl 0 (by decide) xw_53 rfl rfl dX1_isUnderWay_1 ?_
  refine lv_bipush (v := 45) hx hb dX1_isUnderWay_4 (by decide) ?_
  refine lv_icmp_eq (tgt := 13) hx hb dX1_isUnderWay_6 (by decide) (fun c1 => ?_) (fun c1 => ?_)
  · replace hf := if_t c1 hf
    refine lv_iconst (v := 0) hx hb dX1_isUnderWay_13 (by decide) ?_
    cases hf
    exact xret_i (ty := .boolean) F hr hlocks hS (by decide) rfl hW (Nat.le_of_ble_eq_true rfl) (Nat.le_of_ble_eq_true rfl) dX1_isUnderWay_14
  · replace hf := if_f c1 hf
    refine lv_iconst (v := 1) hx hb dX1_isUnderWay_9 (by decide) ?_
    refine lv_goto (tgt := 14) hx hb dX1_isUnderWay_10 (by decide) ?_
    cases hf
    exact xret_i (ty := .boolean) F hr hlocks hS (by decide) rfl hW (Nat.le_of_ble_eq_true rfl) (Nat.le_of_ble_eq_true rfl) dX1_isUnderWay_14
abbrev rX3_hasRoom : Room := { frames := 0, cells := 0, slots := 0, locals := 0 }
abbrev zX3_hasRoom : List Cond := Cond.code yX3_hasRoom cX3_hasRoom 4 (some .boolean) :: xB
theorem xd_X3_hasRoom : yX3_hasRoom.cls = RX3 ∧ yX3_hasRoom.cls ≠ "java/lang/invoke/MethodHandle" ∧ yX3_hasRoom.cls ≠ "java/lang/invoke/VarHandle" ∧ (parseMethodDescriptor yX3_hasRoom.desc).map (fun d => d.parameters.length) = some 3 := by decide +kernel
def fX3_hasRoom (nS : Nat) (nT : Nat) (j0 : Nat) (a1 : Int32) (a2 : Int32) (a3 : Int32) (sc : xSC) : Option Int32 := (if (sc.1 5 j0 0) < ((sc.1 6 j0 0) + a1) then some 0 else (if (sc.1 5 j0 1) < ((sc.1 6 j0 1) + a2) then some 0 else (if (sc.1 5 j0 2) < ((sc.1 6 j0 2) + a3) then some 0 else some 1)))
set_option maxHeartbeats 4000000 in
set_option maxRecDepth 100000 in
theorem kX3_hasRoom (l : Launch) (hl0 : l.stackTraces = false) (G : xG) (sh : xSh) (sc : xSC) (sr : xSR) (sl : xSL) (j0 : Nat) (a1 : Int32) (a2 : Int32) (a3 : Int32) (hj0 : j0 < sh.2.1) (r : Int32) (hf : fX3_hasRoom sh.2.1 sh.2.2 j0 a1 a2 a3 sc = some r) : xMet l yX3_hasRoom zX3_hasRoom rX3_hasRoom G sh sc sr sl ([.ref (sh.1 4 j0), .int a1, .int a2, .int a3] : List Value) (xvI (.inr r)) (xWd G sh sc sr sl) := by
  refine xMet_of (cc := cX3_hasRoom) (maxL := 4) (ret := (some .boolean)) (by decide) (Nat.le_of_ble_eq_true rfl) ?_
  intro p e s m below meth c F hT hW hr hlocks htab ls hl
  have F : CallFix p m c cX3_hasRoom 4 s ([.ref (sh.1 4 j0), .int a1, .int a2, .int a3] : List Value).toArray xB RX3 := F
  have hx := F.1
  have hb := F.2.1
  have hS : va_S (xA G) s.heap s.heap [] := va_S.rf
  have hl : lv_has ls 4 [(0, .ref (sh.1 4 j0)), (1, .int a1), (2, .int a2), (3, .int a3)] := hl
  unfold fX3_hasRoom at hf
  refine lv_aload_n hx hb dX3_hasRoom_0 rfl (lv_at hl 0 rfl) ?_
  refine xget F hT hW xuX3 (xm_S hj0 (by decide)) xce_4 rfl 1 (by decide) xw_306 rfl rfl dX3_hasRoom_1 ?_
  refine xgetN (host := "TenantPlacement") F hT hW xuX0 (xm_S hj0 (by decide)) (xce_am (by decide)) rfl 0 (by decide) (List.mem_of_getElem? (i := 31) rfl) rfl rfl dX3_hasRoom_4 ?_
  refine lv_iload_n hx hb dX3_hasRoom_7 rfl (lv_at hl 1 rfl) ?_
  refine lv_iadd hx hb dX3_hasRoom_8 ?_
  refine lv_aload_n hx hb dX3_hasRoom_9 rfl (lv_at hl 0 rfl) ?_
  refine xget F hT hW xuX3 (xm_S hj0 (by decide)) xce_4 rfl 0 (by decide) xw_304 rfl rfl dX3_hasRoom_10 ?_
  refine xgetN (host := "TenantPlacement") F hT hW xuX0 (xm_S hj0 (by decide)) (xce_am (by decide)) rfl 0 (by decide) (List.mem_of_getElem? (i := 31) rfl) rfl rfl dX3_hasRoom_13 ?_
  refine lv_icmp_gt (tgt := 61) hx hb dX3_hasRoom_16 (by decide) (fun c1 => ?_) (fun c1 => ?_)
  · replace hf := if_t c1 hf
    refine lv_iconst (v := 0) hx hb dX3_hasRoom_61 (by decide) ?_
    cases hf
    exact xret_i (ty := .boolean) F hr hlocks hS (by decide) rfl hW (Nat.le_of_ble_eq_true rfl) (Nat.le_of_ble_eq_true rfl) dX3_hasRoom_62
  · replace hf := if_f c1 hf
    refine lv_aload_n hx hb dX3_hasRoom_19 rfl (lv_at hl 0 rfl) ?_
    refine xget F hT hW xuX3 (xm_S hj0 (by decide)) xce_4 rfl 1 (by decide) xw_306 rfl rfl dX3_hasRoom_20 ?_
    refine xgetN (host := "TenantPlacement") F hT hW xuX0 (xm_S hj0 (by decide)) (xce_am (by decide)) rfl 1 (by decide) (List.mem_of_getElem? (i := 32) rfl) rfl rfl dX3_hasRoom_23 ?_
    refine lv_iload_n hx hb dX3_hasRoom_26 rfl (lv_at hl 2 rfl) ?_
    refine lv_iadd hx hb dX3_hasRoom_27 ?_
    refine lv_aload_n hx hb dX3_hasRoom_28 rfl (lv_at hl 0 rfl) ?_
    refine xget F hT hW xuX3 (xm_S hj0 (by decide)) xce_4 rfl 0 (by decide) xw_304 rfl rfl dX3_hasRoom_29 ?_
    refine xgetN (host := "TenantPlacement") F hT hW xuX0 (xm_S hj0 (by decide)) (xce_am (by decide)) rfl 1 (by decide) (List.mem_of_getElem? (i := 32) rfl) rfl rfl dX3_hasRoom_32 ?_
    refine lv_icmp_gt (tgt := 61) hx hb dX3_hasRoom_35 (by decide) (fun c2 => ?_) (fun c2 => ?_)
    · replace hf := if_t c2 hf
      refine lv_iconst (v := 0) hx hb dX3_hasRoom_61 (by decide) ?_
      cases hf
      exact xret_i (ty := .boolean) F hr hlocks hS (by decide) rfl hW (Nat.le_of_ble_eq_true rfl) (Nat.le_of_ble_eq_true rfl) dX3_hasRoom_62
    · replace hf := if_f c2 hf
      refine lv_aload_n hx hb dX3_hasRoom_38 rfl (lv_at hl 0 rfl) ?_
      refine xget F hT hW xuX3 (xm_S hj0 (by decide)) xce_4 rfl 1 (by decide) xw_306 rfl rfl dX3_hasRoom_39 ?_
      refine xgetN (host := "TenantPlacement") F hT hW xuX0 (xm_S hj0 (by decide)) (xce_am (by decide)) rfl 2 (by decide) (List.mem_of_getElem? (i := 33) rfl) rfl rfl dX3_hasRoom_42 ?_
      refine lv_iload_n hx hb dX3_hasRoom_45 rfl (lv_at hl 3 rfl) ?_
      refine lv_iadd hx hb dX3_hasRoom_46 ?_
      refine lv_aload_n hx hb dX3_hasRoom_47 rfl (lv_at hl 0 rfl) ?_
      refine xget F hT hW xuX3 (xm_S hj0 (by decide)) xce_4 rfl 0 (by decide) xw_304 rfl rfl dX3_hasRoom_48 ?_
      refine xgetN (host := "TenantPlacement") F hT hW xuX0 (xm_S hj0 (by decide)) (xce_am (by decide)) rfl 2 (by decide) (List.mem_of_getElem? (i := 33) rfl) rfl rfl dX3_hasRoom_51 ?_
      refine lv_icmp_gt (tgt := 61) hx hb dX3_hasRoom_54 (by decide) (fun c3 => ?_) (fun c3 => ?_)
      · replace hf := if_t c3 hf
        refine lv_iconst (v := 0) hx hb dX3_hasRoom_61 (by decide) ?_
        cases hf
        exact xret_i (ty := .boolean) F hr hlocks hS (by decide) rfl hW (Nat.le_of_ble_eq_true rfl) (Nat.le_of_ble_eq_true rfl) dX3_hasRoom_62
      · replace hf := if_f c3 hf
        refine lv_iconst (v := 1) hx hb dX3_hasRoom_57 (by decide) ?_
        refine lv_goto (tgt := 62) hx hb dX3_hasRoom_58 (by decide) ?_
        cases hf
        exact xret_i (ty := .boolean) F hr hlocks hS (by decide) rfl hW (Nat.le_of_ble_eq_true rfl) (Nat.le_of_ble_eq_true rfl) dX3_hasRoom_62
abbrev rX5_shards : Room := { frames := 0, cells := 0, slots := 0, locals := 0 }
abbrev zX5_shards : List Cond := Cond.code yX5_shards cX5_shards 6 (some .int) :: xB
theorem xd_X5_shards : yX5_shards.cls = RX5 ∧ yX5_shards.cls ≠ "java/lang/invoke/MethodHandle" ∧ yX5_shards.cls ≠ "java/lang/invoke/VarHandle" ∧ (parseMethodDescriptor yX5_shards.desc).map (fun d => d.parameters.length) = some 0 := by decide +kernel
def fX5_shards_K1 (x1L1 : Int32) (x4L1 : Int32) : Option Int32 := some x1L1
def fX5_shards_L1 (nS : Nat) (k_L1 : Int32 → Int32 → Option Int32) : Nat → Int32 → Int32 → Option Int32
  | 0, _, _ => none
  | n + 1, x1L1, x4L1 => (if 4 ≤ x4L1 then k_L1 x1L1 x4L1 else oG (xinb x4L1 4) (oN (xel nS x4L1) ((fX5_shards_L1 nS k_L1 n) x1L1 (x4L1 + 1)) (fun j2 => (fX5_shards_L1 nS k_L1 n) (x1L1 + 1) (x4L1 + 1))))
def fX5_shards (nS : Nat) (nT : Nat) (sc : xSC) : Option Int32 := fX5_shards_L1 nS (fX5_shards_K1) 64 0 0
set_option maxHeartbeats 4000000 in
set_option maxRecDepth 100000 in
theorem kX5_shards (l : Launch) (hl0 : l.stackTraces = false) (G : xG) (sh : xSh) (sc : xSC) (sr : xSR) (sl : xSL) (r : Int32) (hf : fX5_shards sh.2.1 sh.2.2 sc = some r) : xMet l yX5_shards zX5_shards rX5_shards G sh sc sr sl ([.ref (sh.1 0 0)] : List Value) (xvI (.inr r)) (xWd G sh sc sr sl) := by
  refine xMet_of (cc := cX5_shards) (maxL := 6) (ret := (some .int)) (by decide) (Nat.le_of_ble_eq_true rfl) ?_
  intro p e s m below meth c F hT hW hr hlocks htab ls hl
  have F : CallFix p m c cX5_shards 6 s ([.ref (sh.1 0 0)] : List Value).toArray xB RX5 := F
  have hx := F.1
  have hb := F.2.1
  have hS : va_S (xA G) s.heap s.heap [] := va_S.rf
  have hl : lv_has ls 6 [(0, .ref (sh.1 0 0))] := hl
  unfold fX5_shards at hf
  refine lv_iconst (v := 0) hx hb dX5_shards_0 (by decide) ?_
  refine lv_istore_n (lv' := [(1, .int 0), (0, .ref (sh.1 0 0))]) hx hb dX5_shards_1 rfl hl (by decide) rfl (fun ls hl => ?_)
  refine lv_aload_n hx hb dX5_shards_2 rfl (lv_at hl 1 rfl) ?_
  refine xget F hT hW xuX5 (xm_fix (by decide)) xce_0 rfl 0 (by decide) xw_71 rfl rfl dX5_shards_3 ?_
  refine lv_astore_n (lv' := [(2, .ref (sh.1 1 0)), (1, .int 0), (0, .ref (sh.1 0 0))]) hx hb dX5_shards_6 rfl hl (by decide) rfl (fun ls hl => ?_)
  refine lv_aload_n hx hb dX5_shards_7 rfl (lv_at hl 0 rfl) ?_
  refine xalenS F hT hW dX5_shards_8 ?_
  refine lv_istore_n (lv' := [(3, .int 4), (2, .ref (sh.1 1 0)), (1, .int 0), (0, .ref (sh.1 0 0))]) hx hb dX5_shards_9 rfl hl (by decide) rfl (fun ls hl => ?_)
  refine lv_iconst (v := 0) hx hb dX5_shards_10 (by decide) ?_
  refine lv_istore (lv' := [(4, .int 0), (3, .int 4), (2, .ref (sh.1 1 0)), (1, .int 0), (0, .ref (sh.1 0 0))]) hx hb dX5_shards_11 hl (by decide) rfl (fun ls hl => ?_)
  have hx_L1 : ∀ (x1L1 : Int32) (x4L1 : Int32), fX5_shards_K1 x1L1 x4L1 = some r → ∀ (H : Heap) (locs : List Loc), xWd G sh sc sr sl H → va_S (xA G) s.heap H locs → ∀ ls : Array Slot, lv_has ls 6 [(1, .int x1L1)] → W p l e rX5_shards s m ([.ref (sh.1 0 0)] : List Value).toArray below meth c H locs 0 0 (xQ below G (xvI (.inr r)) (xWd G sh sc sr sl) ([.ref (sh.1 0 0)] : List Value).toArray s 0 0) (F0 m 39 ls []) := by
    intro x1L1 x4L1 hf H locs hW hS ls hl
    unfold fX5_shards_K1 at hf
    refine lv_iload_n hx hb dX5_shards_39 rfl (lv_at hl 0 rfl) ?_
    cases hf
    exact xret_i (ty := .int) F hr hlocks hS rfl rfl hW (Nat.le_of_ble_eq_true rfl) (Nat.le_of_ble_eq_true rfl) dX5_shards_40
  have hL_L1 : ∀ (n : Nat) (x1L1 : Int32) (x4L1 : Int32), fX5_shards_L1 sh.2.1 (fX5_shards_K1) n x1L1 x4L1 = some r → ∀ (H : Heap) (locs : List Loc), xWd G sh sc sr sl H → va_S (xA G) s.heap H locs → ∀ ls : Array Slot, lv_has ls 6 [(1, .int x1L1), (2, .ref (sh.1 1 0)), (3, .int 4), (4, .int x4L1)] → W p l e rX5_shards s m ([.ref (sh.1 0 0)] : List Value).toArray below meth c H locs 0 0 (xQ below G (xvI (.inr r)) (xWd G sh sc sr sl) ([.ref (sh.1 0 0)] : List Value).toArray s 0 0) (F0 m 13 ls []) := by
    intro n_L1
    induction n_L1 with
    | zero =>
      intro x1L1 x4L1 hf
      unfold fX5_shards_L1 at hf
      cases hf
    | succ n_L1 ih_L1 =>
      intro x1L1 x4L1 hf H locs hW hS ls hl
      unfold fX5_shards_L1 at hf
      refine lv_iload hx hb dX5_shards_13 (lv_at hl 3 rfl) ?_
      refine lv_iload_n hx hb dX5_shards_15 rfl (lv_at hl 2 rfl) ?_
      refine lv_icmp_ge (tgt := 39) hx hb dX5_shards_16 (by decide) (fun c1 => ?_) (fun c1 => ?_)
      · replace hf := if_t c1 hf
        exact hx_L1 _ _ hf _ _ hW hS ls (lv_sub hl [0] rfl)
      · replace hf := if_f c1 hf
        refine lv_aload_n hx hb dX5_shards_19 rfl (lv_at hl 1 rfl) ?_
        refine lv_iload hx hb dX5_shards_20 (lv_at hl 3 rfl) ?_
        obtain ⟨g4, hf⟩ := oG_go hf
        refine xaldS F hT hW (xinb_ok g4) dX5_shards_22 ?_
        rcases o5 : xel sh.2.1 x4L1 with _ | j2
        · replace hf := oN_0 o5 hf
          refine W.eq (g2 := F0 m 23 ls (.null :: [])) rfl ?_
          refine lv_astoreN (lv' := [(5, .null), (1, .int x1L1), (2, .ref (sh.1 1 0)), (3, .int 4), (4, .int x4L1)]) hx hb dX5_shards_23 hl (by decide) rfl (fun ls hl => ?_)
          refine lv_aloadN hx hb dX5_shards_25 (lv_at hl 0 rfl) ?_
          refine lv_ifnullN (tgt := 33) hx hb dX5_shards_27 (by decide) ?_
          refine lv_iinc (v := (x4L1 + 1)) (lv' := [(4, .int (x4L1 + 1)), (5, .null), (1, .int x1L1), (2, .ref (sh.1 1 0)), (3, .int 4)]) hx hb dX5_shards_33 hl (k := 4) rfl rfl (by decide) rfl (fun ls hl => ?_)
          refine lv_goto (tgt := 13) hx hb dX5_shards_36 (by decide) ?_
          exact ih_L1 _ _ hf _ _ hW hS ls (lv_sub hl [2, 3, 4, 0] rfl)
        · replace hf := oN_1 o5 hf
          have h3 : j2 < sh.2.1 := xel_lt o5
          refine W.eq (g2 := F0 m 23 ls (.ref (sh.1 4 j2) :: [])) rfl ?_
          refine lv_astore (lv' := [(5, .ref (sh.1 4 j2)), (1, .int x1L1), (2, .ref (sh.1 1 0)), (3, .int 4), (4, .int x4L1)]) hx hb dX5_shards_23 hl (by decide) rfl (fun ls hl => ?_)
          refine lv_aload hx hb dX5_shards_25 (lv_at hl 0 rfl) ?_
          refine lv_ifnull hx hb dX5_shards_27 ?_
          refine lv_iinc (v := (x1L1 + 1)) (lv' := [(1, .int (x1L1 + 1)), (5, .ref (sh.1 4 j2)), (2, .ref (sh.1 1 0)), (3, .int 4), (4, .int x4L1)]) hx hb dX5_shards_30 hl (k := 1) rfl rfl (by decide) rfl (fun ls hl => ?_)
          refine lv_iinc (v := (x4L1 + 1)) (lv' := [(4, .int (x4L1 + 1)), (1, .int (x1L1 + 1)), (5, .ref (sh.1 4 j2)), (2, .ref (sh.1 1 0)), (3, .int 4)]) hx hb dX5_shards_33 hl (k := 4) rfl rfl (by decide) rfl (fun ls hl => ?_)
          refine lv_goto (tgt := 13) hx hb dX5_shards_36 (by decide) ?_
          exact ih_L1 _ _ hf _ _ hW hS ls (lv_sub hl [1, 3, 4, 0] rfl)
  exact hL_L1 _ _ _ hf _ _ hW hS ls (lv_sub hl [3, 2, 1, 0] rfl)
abbrev rX5_requireRange : Room := { frames := 6, cells := 1, slots := 6, locals := 90 }
abbrev zX5_requireRange : List Cond := Cond.code yX5_requireRange cX5_requireRange 3 none :: xB
theorem xd_X5_requireRange : yX5_requireRange.cls = RX5 ∧ yX5_requireRange.cls ≠ "java/lang/invoke/MethodHandle" ∧ yX5_requireRange.cls ≠ "java/lang/invoke/VarHandle" ∧ (parseMethodDescriptor yX5_requireRange.desc).map (fun d => d.parameters.length) = some 3 := by decide +kernel
def fX5_requireRange (nS : Nat) (nT : Nat) (a1 : Int32) (a2 : Int32) (a3 : Int32) (sc : xSC) : Option (String ⊕ Unit) := (if a1 < a2 then some (Sum.inl "java/lang/IllegalArgumentException") else (if a1 ≤ a3 then some (Sum.inr ()) else some (Sum.inl "java/lang/IllegalArgumentException")))
set_option maxHeartbeats 4000000 in
set_option maxRecDepth 100000 in
theorem kX5_requireRange (l : Launch) (hl0 : l.stackTraces = false) (G : xG) (sh : xSh) (sc : xSC) (sr : xSR) (sl : xSL) (a1 : Int32) (a2 : Int32) (a3 : Int32) (r : (String ⊕ Unit)) (hf : fX5_requireRange sh.2.1 sh.2.2 a1 a2 a3 sc = some r) : xMet l yX5_requireRange zX5_requireRange rX5_requireRange G sh sc sr sl ([.int a1, .int a2, .int a3] : List Value) (xvU r) (xWd G sh sc sr sl) := by
  refine xMet_of (cc := cX5_requireRange) (maxL := 3) (ret := none) (by decide) (Nat.le_of_ble_eq_true rfl) ?_
  intro p e s m below meth c F hT hW hr hlocks htab ls hl
  have F : CallFix p m c cX5_requireRange 3 s ([.int a1, .int a2, .int a3] : List Value).toArray xB RX5 := F
  have hx := F.1
  have hb := F.2.1
  have hS : va_S (xA G) s.heap s.heap [] := va_S.rf
  have hl : lv_has ls 3 [(0, .int a1), (1, .int a2), (2, .int a3)] := hl
  unfold fX5_requireRange at hf
  refine lv_iload_n hx hb dX5_requireRange_0 rfl (lv_at hl 0 rfl) ?_
  refine lv_iload_n hx hb dX5_requireRange_1 rfl (lv_at hl 1 rfl) ?_
  refine lv_icmp_lt (tgt := 10) hx hb dX5_requireRange_2 (by decide) (fun c1 => ?_) (fun c1 => ?_)
  · replace hf := if_t c1 hf
    cases hf
    refine xthrowW (cls := "java/lang/IllegalArgumentException") (text := "a number is out of range") (ik := 116) (is := 275) (ic := 120) F hT hW hS hl0 hlocks htab hl.1 xw_188 xw_8 (List.mem_of_getElem? (i := 10) rfl) xh_120 xb_120 (by decide +kernel) xg_120 (Nat.le_of_ble_eq_true rfl) (Nat.le_of_ble_eq_true rfl) (Nat.le_of_ble_eq_true rfl) (Nat.le_of_ble_eq_true rfl) ?_ ?_ (Nat.le_of_ble_eq_true rfl) (Nat.le_of_ble_eq_true rfl) dX5_requireRange_10 dX5_requireRange_13 dX5_requireRange_14 dX5_requireRange_17 dX5_requireRange_20
    · rfl
    · exact fun H h => h
  · replace hf := if_f c1 hf
    refine lv_iload_n hx hb dX5_requireRange_5 rfl (lv_at hl 0 rfl) ?_
    refine lv_iload_n hx hb dX5_requireRange_6 rfl (lv_at hl 2 rfl) ?_
    refine lv_icmp_le (tgt := 21) hx hb dX5_requireRange_7 (by decide) (fun c2 => ?_) (fun c2 => ?_)
    · replace hf := if_t c2 hf
      cases hf
      exact xret_v F hr hlocks hS rfl hW (Nat.le_of_ble_eq_true rfl) (Nat.le_of_ble_eq_true rfl) dX5_requireRange_21
    · replace hf := if_f c2 hf
      cases hf
      refine xthrowW (cls := "java/lang/IllegalArgumentException") (text := "a number is out of range") (ik := 116) (is := 275) (ic := 120) F hT hW hS hl0 hlocks htab hl.1 xw_188 xw_8 (List.mem_of_getElem? (i := 10) rfl) xh_120 xb_120 (by decide +kernel) xg_120 (Nat.le_of_ble_eq_true rfl) (Nat.le_of_ble_eq_true rfl) (Nat.le_of_ble_eq_true rfl) (Nat.le_of_ble_eq_true rfl) ?_ ?_ (Nat.le_of_ble_eq_true rfl) (Nat.le_of_ble_eq_true rfl) dX5_requireRange_10 dX5_requireRange_13 dX5_requireRange_14 dX5_requireRange_17 dX5_requireRange_20
      · rfl
      · exact fun H h => h
abbrev rX5_shardOrNull : Room := { frames := 0, cells := 0, slots := 0, locals := 0 }
abbrev zX5_shardOrNull : List Cond := Cond.code yX5_shardOrNull cX5_shardOrNull 2 (some (.object "TenantPlacement$Shard")) :: xB
theorem xd_X5_shardOrNull : yX5_shardOrNull.cls = RX5 ∧ yX5_shardOrNull.cls ≠ "java/lang/invoke/MethodHandle" ∧ yX5_shardOrNull.cls ≠ "java/lang/invoke/VarHandle" ∧ (parseMethodDescriptor yX5_shardOrNull.desc).map (fun d => d.parameters.length) = some 1 := by decide +kernel
def fX5_shardOrNull (nS : Nat) (nT : Nat) (a1 : Int32) (sc : xSC) : Option (Option Nat) := (if a1 < 0 then some none else (if a1 < 4 then oG (xinb a1 4) (oN (xel nS a1) (some none) (fun j3 => some (some j3))) else some none))
set_option maxHeartbeats 4000000 in
set_option maxRecDepth 100000 in
theorem kX5_shardOrNull (l : Launch) (hl0 : l.stackTraces = false) (G : xG) (sh : xSh) (sc : xSC) (sr : xSR) (sl : xSL) (a1 : Int32) (r : (Option Nat)) (hf : fX5_shardOrNull sh.2.1 sh.2.2 a1 sc = some r) : xMet l yX5_shardOrNull zX5_shardOrNull rX5_shardOrNull G sh sc sr sl ([.ref (sh.1 0 0), .int a1] : List Value) (xvO sh 4 (.inr r)) (xWd G sh sc sr sl) := by
  refine xMet_of (cc := cX5_shardOrNull) (maxL := 2) (ret := (some (.object "TenantPlacement$Shard"))) (by decide) (Nat.le_of_ble_eq_true rfl) ?_
  intro p e s m below meth c F hT hW hr hlocks htab ls hl
  have F : CallFix p m c cX5_shardOrNull 2 s ([.ref (sh.1 0 0), .int a1] : List Value).toArray xB RX5 := F
  have hx := F.1
  have hb := F.2.1
  have hS : va_S (xA G) s.heap s.heap [] := va_S.rf
  have hl : lv_has ls 2 [(0, .ref (sh.1 0 0)), (1, .int a1)] := hl
  unfold fX5_shardOrNull at hf
  refine lv_iload_n hx hb dX5_shardOrNull_0 rfl (lv_at hl 1 rfl) ?_
  refine lv_if_lt (tgt := 13) hx hb dX5_shardOrNull_1 (by decide) (fun c1 => ?_) (fun c1 => ?_)
  · replace hf := if_t c1 hf
    refine lv_null hx hb dX5_shardOrNull_13 ?_
    refine lv_goto (tgt := 23) hx hb dX5_shardOrNull_14 (by decide) ?_
    cases hf
    exact xret_a F hr (Or.inl ⟨_, rfl⟩) (Or.inl rfl) hlocks hS rfl hW (Nat.le_of_ble_eq_true rfl) (Nat.le_of_ble_eq_true rfl) dX5_shardOrNull_23
  · replace hf := if_f c1 hf
    refine lv_iload_n hx hb dX5_shardOrNull_4 rfl (lv_at hl 1 rfl) ?_
    refine lv_aload_n hx hb dX5_shardOrNull_5 rfl (lv_at hl 0 rfl) ?_
    refine xget F hT hW xuX5 (xm_fix (by decide)) xce_0 rfl 0 (by decide) xw_71 rfl rfl dX5_shardOrNull_6 ?_
    refine xalenS F hT hW dX5_shardOrNull_9 ?_
    refine lv_icmp_lt (tgt := 17) hx hb dX5_shardOrNull_10 (by decide) (fun c2 => ?_) (fun c2 => ?_)
    · replace hf := if_t c2 hf
      refine lv_aload_n hx hb dX5_shardOrNull_17 rfl (lv_at hl 0 rfl) ?_
      refine xget F hT hW xuX5 (xm_fix (by decide)) xce_0 rfl 0 (by decide) xw_71 rfl rfl dX5_shardOrNull_18 ?_
      refine lv_iload_n hx hb dX5_shardOrNull_21 rfl (lv_at hl 1 rfl) ?_
      obtain ⟨g5, hf⟩ := oG_go hf
      refine xaldS F hT hW (xinb_ok g5) dX5_shardOrNull_22 ?_
      rcases o6 : xel sh.2.1 a1 with _ | j3
      · replace hf := oN_0 o6 hf
        refine W.eq (g2 := F0 m 23 ls (.null :: [])) rfl ?_
        cases hf
        exact xret_a F hr (Or.inl ⟨_, rfl⟩) (Or.inl rfl) hlocks hS rfl hW (Nat.le_of_ble_eq_true rfl) (Nat.le_of_ble_eq_true rfl) dX5_shardOrNull_23
      · replace hf := oN_1 o6 hf
        have h4 : j3 < sh.2.1 := xel_lt o6
        refine W.eq (g2 := F0 m 23 ls (.ref (sh.1 4 j3) :: [])) rfl ?_
        cases hf
        exact xret_a F hr (Or.inl ⟨_, rfl⟩) (Or.inr ⟨_, rfl⟩) hlocks hS rfl hW (Nat.le_of_ble_eq_true rfl) (Nat.le_of_ble_eq_true rfl) dX5_shardOrNull_23
    · replace hf := if_f c2 hf
      refine lv_null hx hb dX5_shardOrNull_13 ?_
      refine lv_goto (tgt := 23) hx hb dX5_shardOrNull_14 (by decide) ?_
      cases hf
      exact xret_a F hr (Or.inl ⟨_, rfl⟩) (Or.inl rfl) hlocks hS rfl hW (Nat.le_of_ble_eq_true rfl) (Nat.le_of_ble_eq_true rfl) dX5_shardOrNull_23
abbrev rX5_knownShard : Room := { frames := 6, cells := 1, slots := 6, locals := 90 }
abbrev zX5_knownShard : List Cond := Cond.code yX5_knownShard cX5_knownShard 3 (some (.object "TenantPlacement$Shard")) :: xB
theorem xd_X5_knownShard : yX5_knownShard.cls = RX5 ∧ yX5_knownShard.cls ≠ "java/lang/invoke/MethodHandle" ∧ yX5_knownShard.cls ≠ "java/lang/invoke/VarHandle" ∧ (parseMethodDescriptor yX5_knownShard.desc).map (fun d => d.parameters.length) = some 1 := by decide +kernel
def fX5_knownShard (nS : Nat) (nT : Nat) (a1 : Int32) (sc : xSC) : Option (String ⊕ Nat) := oB (fX5_shardOrNull nS nT a1 sc) (fun v1 => oN v1 (some (Sum.inl "java/lang/IndexOutOfBoundsException")) (fun j2 => oG (decide (j2 < nS)) (some (Sum.inr j2))))
set_option maxHeartbeats 4000000 in
set_option maxRecDepth 100000 in
theorem kX5_knownShard (l : Launch) (hl0 : l.stackTraces = false) (G : xG) (sh : xSh) (sc : xSC) (sr : xSR) (sl : xSL) (a1 : Int32) (r : (String ⊕ Nat)) (hf : fX5_knownShard sh.2.1 sh.2.2 a1 sc = some r) : xMet l yX5_knownShard zX5_knownShard rX5_knownShard G sh sc sr sl ([.ref (sh.1 0 0), .int a1] : List Value) (xvR sh 4 r) (xWd G sh sc sr sl) := by
  refine xMet_of (cc := cX5_knownShard) (maxL := 3) (ret := (some (.object "TenantPlacement$Shard"))) (by decide) (Nat.le_of_ble_eq_true rfl) ?_
  intro p e s m below meth c F hT hW hr hlocks htab ls hl
  have F : CallFix p m c cX5_knownShard 3 s ([.ref (sh.1 0 0), .int a1] : List Value).toArray xB RX5 := F
  have hx := F.1
  have hb := F.2.1
  have hS : va_S (xA G) s.heap s.heap [] := va_S.rf
  have hl : lv_has ls 3 [(0, .ref (sh.1 0 0)), (1, .int a1)] := hl
  unfold fX5_knownShard at hf
  refine lv_aload_n hx hb dX5_knownShard_0 rfl (lv_at hl 0 rfl) ?_
  refine lv_iload_n hx hb dX5_knownShard_1 rfl (lv_at hl 1 rfl) ?_
  obtain ⟨v1, hc6, hf⟩ := oB_go hf
  refine xcallV (n := 1) F hT hW hS (xm_fix (by decide)) xce_0 rfl (kX5_shardOrNull l hl0 G sh sc sr sl a1  _ hc6) (xgV xw_358 xw_360 xwp_3 xw_1 xw_361) rfl xd_X5_shardOrNull ⟨Nat.le_of_ble_eq_true rfl, Nat.le_of_ble_eq_true rfl⟩ rfl hl.1 rfl (Nat.le_of_ble_eq_true rfl) dX5_knownShard_2 ⟨Nat.le_of_ble_eq_true rfl, Nat.le_of_ble_eq_true rfl⟩ (fun v9 H locs hres hW hS => ?_) (fun E9 H locs q9 ce9 hres => by cases hres)
  cases hres
  rcases o5 : v1 with _ | j2
  · replace hf := oN_0 o5 hf
    refine W.eq (g2 := F0 m 5 ls (.null :: [])) (by rw [o5]; rfl) ?_
    refine lv_astore_nN (lv' := [(2, .null), (0, .ref (sh.1 0 0)), (1, .int a1)]) hx hb dX5_knownShard_5 rfl hl (by decide) rfl (fun ls hl => ?_)
    refine lv_aload_nN hx hb dX5_knownShard_6 rfl (lv_at hl 0 rfl) ?_
    refine lv_ifnonnullN hx hb dX5_knownShard_7 ?_
    cases hf
    refine xthrowW (cls := "java/lang/IndexOutOfBoundsException") (text := "there is no such shard") (ik := 277) (is := 290) (ic := 281) F hT hW hS hl0 hlocks htab hl.1 xw_362 xw_12 (List.mem_of_getElem? (i := 13) rfl) xh_281 xb_281 (by decide +kernel) xg_281 (Nat.le_of_ble_eq_true rfl) (Nat.le_of_ble_eq_true rfl) (Nat.le_of_ble_eq_true rfl) (Nat.le_of_ble_eq_true rfl) ?_ ?_ (Nat.le_of_ble_eq_true rfl) (Nat.le_of_ble_eq_true rfl) dX5_knownShard_10 dX5_knownShard_13 dX5_knownShard_14 dX5_knownShard_17 dX5_knownShard_20
    · rfl
    · exact fun H h => h
  · replace hf := oN_1 o5 hf
    obtain ⟨g4, hf⟩ := oG_go hf
    have h3 : j2 < sh.2.1 := of_decide_eq_true g4
    refine W.eq (g2 := F0 m 5 ls (.ref (sh.1 4 j2) :: [])) (by rw [o5]; rfl) ?_
    refine lv_astore_n (lv' := [(2, .ref (sh.1 4 j2)), (0, .ref (sh.1 0 0)), (1, .int a1)]) hx hb dX5_knownShard_5 rfl hl (by decide) rfl (fun ls hl => ?_)
    refine lv_aload_n hx hb dX5_knownShard_6 rfl (lv_at hl 0 rfl) ?_
    refine lv_ifnonnull (tgt := 21) hx hb dX5_knownShard_7 (by decide) ?_
    refine lv_aload_n hx hb dX5_knownShard_21 rfl (lv_at hl 0 rfl) ?_
    cases hf
    exact xret_a F hr (Or.inl ⟨_, rfl⟩) (Or.inr ⟨_, rfl⟩) hlocks hS rfl hW (Nat.le_of_ble_eq_true rfl) (Nat.le_of_ble_eq_true rfl) dX5_knownShard_22
abbrev rX5_setOpen : Room := { frames := 7, cells := 1, slots := 6, locals := 112 }
abbrev zX5_setOpen : List Cond := Cond.code yX5_setOpen cX5_setOpen 5 (some .boolean) :: xB
theorem xd_X5_setOpen : yX5_setOpen.cls = RX5 ∧ yX5_setOpen.cls ≠ "java/lang/invoke/MethodHandle" ∧ yX5_setOpen.cls ≠ "java/lang/invoke/VarHandle" ∧ (parseMethodDescriptor yX5_setOpen.desc).map (fun d => d.parameters.length) = some 2 := by decide +kernel
def fX5_setOpen (nS : Nat) (nT : Nat) (a1 : Int32) (a2 : Int32) (sc : xSC) : Option ((String ⊕ Int32) × xSC) := oT (fX5_knownShard nS nT a1 sc) (fun E7 => some ((Sum.inl E7), sc)) (fun v1 => oG (decide (v1 < nS)) (oG (xnb .boolean a2) (oG (xnb .boolean (sc.1 4 v1 2)) (some ((Sum.inr (sc.1 4 v1 2)), (xuC sc.1 4 v1 2 a2, sc.2))))))
set_option maxHeartbeats 4000000 in
set_option maxRecDepth 100000 in
theorem kX5_setOpen (l : Launch) (hl0 : l.stackTraces = false) (G : xG) (sh : xSh) (sc : xSC) (sr : xSR) (sl : xSL) (a1 : Int32) (a2 : Int32) (r : ((String ⊕ Int32) × xSC)) (hf : fX5_setOpen sh.2.1 sh.2.2 a1 a2 sc = some r) : xMet l yX5_setOpen zX5_setOpen rX5_setOpen G sh sc sr sl ([.ref (sh.1 0 0), .int a1, .int a2] : List Value) (xvI r.1) (xWd G sh r.2 sr sl) := by
  refine xMet_of (cc := cX5_setOpen) (maxL := 5) (ret := (some .boolean)) (by decide) (Nat.le_of_ble_eq_true rfl) ?_
  intro p e s m below meth c F hT hW hr hlocks htab ls hl
  have F : CallFix p m c cX5_setOpen 5 s ([.ref (sh.1 0 0), .int a1, .int a2] : List Value).toArray xB RX5 := F
  have hx := F.1
  have hb := F.2.1
  have hS : va_S (xA G) s.heap s.heap [] := va_S.rf
  have hl : lv_has ls 5 [(0, .ref (sh.1 0 0)), (1, .int a1), (2, .int a2)] := hl
  unfold fX5_setOpen at hf
  refine lv_aload_n hx hb dX5_setOpen_0 rfl (lv_at hl 0 rfl) ?_
  refine lv_iload_n hx hb dX5_setOpen_1 rfl (lv_at hl 1 rfl) ?_
  rcases oT_go hf with ⟨v1, hc6, hf⟩ | ⟨E7, hc6, hf⟩
  · refine xcallV (n := 1) F hT hW hS (xm_fix (by decide)) xce_0 rfl (kX5_knownShard l hl0 G sh sc sr sl a1  _ hc6) (xgV xw_354 xw_356 xwp_2 xw_1 xw_357) rfl xd_X5_knownShard ⟨Nat.le_of_ble_eq_true rfl, Nat.le_of_ble_eq_true rfl⟩ rfl hl.1 rfl (Nat.le_of_ble_eq_true rfl) dX5_setOpen_2 ⟨Nat.le_of_ble_eq_true rfl, Nat.le_of_ble_eq_true rfl⟩ (fun v9 H locs hres hW hS => ?_) (fun E9 H locs q9 ce9 hres => by cases hres)
    cases hres
    refine W.eq (g2 := F0 m 5 ls (.ref (sh.1 4 v1) :: [])) rfl ?_
    obtain ⟨g3, hf⟩ := oG_go hf
    have h2 : v1 < sh.2.1 := of_decide_eq_true g3
    refine lv_astore_n (lv' := [(3, .ref (sh.1 4 v1)), (0, .ref (sh.1 0 0)), (1, .int a1), (2, .int a2)]) hx hb dX5_setOpen_5 rfl hl (by decide) rfl (fun ls hl => ?_)
    refine lv_aload_n hx hb dX5_setOpen_6 rfl (lv_at hl 0 rfl) ?_
    refine xgetN (host := "TenantPlacement") F hT hW xuX3 (xm_S h2 (by decide)) xce_4 rfl 2 (by decide) (List.mem_of_getElem? (i := 27) rfl) rfl rfl dX5_setOpen_7 ?_
    refine lv_istore (lv' := [(4, .int (sc.1 4 v1 2)), (3, .ref (sh.1 4 v1)), (0, .ref (sh.1 0 0)), (1, .int a1), (2, .int a2)]) hx hb dX5_setOpen_10 hl (by decide) rfl (fun ls hl => ?_)
    refine lv_aload_n hx hb dX5_setOpen_12 rfl (lv_at hl 1 rfl) ?_
    refine lv_iload_n hx hb dX5_setOpen_13 rfl (lv_at hl 4 rfl) ?_
    obtain ⟨g4, hf⟩ := oG_go hf
    refine xputN (host := "TenantPlacement") (ty := .boolean) F hT hW hS xuX3 tyX3 tyX3_ok nmX3 (xm_S h2 (by decide)) xce_4 rfl 2 (by decide) (List.mem_of_getElem? (i := 27) rfl) rfl rfl rfl (xnb_ok g4).1 (xnb_ok g4).2 (Nat.le_of_ble_eq_true rfl) xup_4_2 dX5_setOpen_14 (fun H locs hW hS => ?_)
    refine lv_iload hx hb dX5_setOpen_17 (lv_at hl 0 rfl) ?_
    obtain ⟨g5, hf⟩ := oG_go hf
    cases hf
    exact xret_i (ty := .boolean) F hr hlocks hS (xnb_ok g5).1 rfl hW (Nat.le_of_ble_eq_true rfl) (Nat.le_of_ble_eq_true rfl) dX5_setOpen_19
  · refine xcallV (n := 1) F hT hW hS (xm_fix (by decide)) xce_0 rfl (kX5_knownShard l hl0 G sh sc sr sl a1  _ hc6) (xgV xw_354 xw_356 xwp_2 xw_1 xw_357) rfl xd_X5_knownShard ⟨Nat.le_of_ble_eq_true rfl, Nat.le_of_ble_eq_true rfl⟩ rfl hl.1 rfl (Nat.le_of_ble_eq_true rfl) dX5_setOpen_2 ⟨Nat.le_of_ble_eq_true rfl, Nat.le_of_ble_eq_true rfl⟩ (fun v9 H locs hres => by cases hres) (fun E9 H locs q9 ce9 hres hW hS hcell hv9 hcl => ?_)
    cases hres
    cases hf
    exact xout htab hlocks hS rfl hW hcell hv9 hcl (Nat.le_of_ble_eq_true rfl) (Nat.le_of_ble_eq_true rfl)
