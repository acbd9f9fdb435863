abbrev rX0_add : Room := { frames := 0, cells := 0, slots := 0, locals := 0 }
abbrev zX0_add : List Cond := Cond.code yX0_add cX0_add 2 none :: xB
theorem xd_X0_add : yX0_add.cls = RX0 ∧ yX0_add.cls ≠ "java/lang/invoke/MethodHandle" ∧ yX0_add.cls ≠ "java/lang/invoke/VarHandle" ∧ (parseMethodDescriptor yX0_add.desc).map (fun d => d.parameters.length) = some 1 := by decide +kernel
def fX0_add (nS : Nat) (nT : Nat) (k0 : Nat) (j0 : Nat) (k1 : Nat) (j1 : Nat) (sc : xSC) : Option (Unit × xSC) := some ((), (xuC (xuC (xuC sc.1 k0 j0 0 ((sc.1 k0 j0 0) + (sc.1 k1 j1 0)), sc.2).1 k0 j0 1 (((xuC sc.1 k0 j0 0 ((sc.1 k0 j0 0) + (sc.1 k1 j1 0)), sc.2).1 k0 j0 1) + ((xuC sc.1 k0 j0 0 ((sc.1 k0 j0 0) + (sc.1 k1 j1 0)), sc.2).1 k1 j1 1)), (xuC sc.1 k0 j0 0 ((sc.1 k0 j0 0) + (sc.1 k1 j1 0)), sc.2).2).1 k0 j0 2 (((xuC (xuC sc.1 k0 j0 0 ((sc.1 k0 j0 0) + (sc.1 k1 j1 0)), sc.2).1 k0 j0 1 (((xuC sc.1 k0 j0 0 ((sc.1 k0 j0 0) + (sc.1 k1 j1 0)), sc.2).1 k0 j0 1) + ((xuC sc.1 k0 j0 0 ((sc.1 k0 j0 0) + (sc.1 k1 j1 0)), sc.2).1 k1 j1 1)), (xuC sc.1 k0 j0 0 ((sc.1 k0 j0 0) + (sc.1 k1 j1 0)), sc.2).2).1 k0 j0 2) + ((xuC (xuC sc.1 k0 j0 0 ((sc.1 k0 j0 0) + (sc.1 k1 j1 0)), sc.2).1 k0 j0 1 (((xuC sc.1 k0 j0 0 ((sc.1 k0 j0 0) + (sc.1 k1 j1 0)), sc.2).1 k0 j0 1) + ((xuC sc.1 k0 j0 0 ((sc.1 k0 j0 0) + (sc.1 k1 j1 0)), sc.2).1 k1 j1 1)), (xuC sc.1 k0 j0 0 ((sc.1 k0 j0 0) + (sc.1 k1 j1 0)), sc.2).2).1 k1 j1 2)), (xuC (xuC sc.1 k0 j0 0 ((sc.1 k0 j0 0) + (sc.1 k1 j1 0)), sc.2).1 k0 j0 1 (((xuC sc.1 k0 j0 0 ((sc.1 k0 j0 0) + (sc.1 k1 j1 0)), sc.2).1 k0 j0 1) + ((xuC sc.1 k0 j0 0 ((sc.1 k0 j0 0) + (sc.1 k1 j1 0)), sc.2).1 k1 j1 1)), (xuC sc.1 k0 j0 0 ((sc.1 k0 j0 0) + (sc.1 k1 j1 0)), sc.2).2).2))
set_option maxHeartbeats 4000000 in
set_option maxRecDepth 100000 in
theorem kX0_add (l : Launch) (hl0 : l.stackTraces = false) (G : xG) (sh : xSh) (sc : xSC) (sr : xSR) (sl : xSL) (k0 : Nat) (j0 : Nat) (k1 : Nat) (j1 : Nat) (hk0 : xAm k0) (hm0 : (k0, j0) ∈ xix sh) (hk1 : xAm k1) (hm1 : (k1, j1) ∈ xix sh) (r : (Unit × xSC)) (hf : fX0_add sh.2.1 sh.2.2 k0 j0 k1 j1 sc = some r) : xMet l yX0_add zX0_add rX0_add G sh sc sr sl ([.ref (sh.1 k0 j0), .ref (sh.1 k1 j1)] : List Value) (xvU (.inr r.1)) (xWd G sh r.2 sr sl) := by
  refine xMet_of (cc := cX0_add) (maxL := 2) (ret := none) (by decide) (Nat.le_of_ble_eq_true rfl) ?_
  intro p e s m below meth c F hT hW hr hlocks htab ls hl
  have F : CallFix p m c cX0_add 2 s ([.ref (sh.1 k0 j0), .ref (sh.1 k1 j1)] : List Value).toArray xB RX0 := F
  have hx := F.1
  have hb := F.2.1
  have hS : va_S (xA G) s.heap s.heap [] := va_S.rf
  have hl : lv_has ls 2 [(0, .ref (sh.1 k0 j0)), (1, .ref (sh.1 k1 j1))] := hl
  unfold fX0_add at hf
  refine lv_aload_n hx hb dX0_add_0 rfl (lv_at hl 0 rfl) ?_
  refine lv_dup hx hb dX0_add_1 rfl ?_
  refine xget F hT hW xuX0 (hm0) (xce_am hk0) rfl 0 (by decide) xw_288 rfl rfl dX0_add_2 ?_
  refine lv_aload_n hx hb dX0_add_5 rfl (lv_at hl 1 rfl) ?_
  refine xget F hT hW xuX0 (hm1) (xce_am hk1) rfl 0 (by decide) xw_288 rfl rfl dX0_add_6 ?_
  refine lv_iadd hx hb dX0_add_9 ?_
  refine xput (ty := .int) F hT hW hS xuX0 tyX0 tyX0_ok nmX0 (hm0) (xce_am hk0) rfl 0 (by decide) xw_288 rfl rfl rfl rfl rfl (Nat.le_of_ble_eq_true rfl) (xup_am_0 hk0) dX0_add_10 (fun H locs hW hS => ?_)
  refine lv_aload_n hx hb dX0_add_13 rfl (lv_at hl 0 rfl) ?_
  refine lv_dup hx hb dX0_add_14 rfl ?_
  refine xget F hT hW xuX0 (hm0) (xce_am hk0) rfl 1 (by decide) xw_291 rfl rfl dX0_add_15 ?_
  refine lv_aload_n hx hb dX0_add_18 rfl (lv_at hl 1 rfl) ?_
  refine xget F hT hW xuX0 (hm1) (xce_am hk1) rfl 1 (by decide) xw_291 rfl rfl dX0_add_19 ?_
  refine lv_iadd hx hb dX0_add_22 ?_
  refine xput (ty := .int) F hT hW hS xuX0 tyX0 tyX0_ok nmX0 (hm0) (xce_am hk0) rfl 1 (by decide) xw_291 rfl rfl rfl rfl rfl (Nat.le_of_ble_eq_true rfl) (xup_am_1 hk0) dX0_add_23 (fun H locs hW hS => ?_)
  refine lv_aload_n hx hb dX0_add_26 rfl (lv_at hl 0 rfl) ?_
  refine lv_dup hx hb dX0_add_27 rfl ?_
  refine xget F hT hW xuX0 (hm0) (xce_am hk0) rfl 2 (by decide) xw_294 rfl rfl dX0_add_28 ?_
  refine lv_aload_n hx hb dX0_add_31 rfl (lv_at hl 1 rfl) ?_
  refine xget F hT hW xuX0 (hm1) (xce_am hk1) rfl 2 (by decide) xw_294 rfl rfl dX0_add_32 ?_
  refine lv_iadd hx hb dX0_add_35 ?_
  refine xput (ty := .int) F hT hW hS xuX0 tyX0 tyX0_ok nmX0 (hm0) (xce_am hk0) rfl 2 (by decide) xw_294 rfl rfl rfl rfl rfl (Nat.le_of_ble_eq_true rfl) (xup_am_2 hk0) dX0_add_36 (fun H locs hW hS => ?_)
  cases hf
  exact xret_v F hr hlocks hS rfl hW (Nat.le_of_ble_eq_true rfl) (Nat.le_of_ble_eq_true rfl) dX0_add_39
abbrev rX0_clear : Room := { frames := 0, cells := 0, slots := 0, locals := 0 }
abbrev zX0_clear : List Cond := Cond.code yX0_clear cX0_clear 1 none :: xB
theorem xd_X0_clear : yX0_clear.cls = RX0 ∧ yX0_clear.cls ≠ "java/lang/invoke/MethodHandle" ∧ yX0_clear.cls ≠ "java/lang/invoke/VarHandle" ∧ (parseMethodDescriptor yX0_clear.desc).map (fun d => d.parameters.length) = some 0 := by decide +kernel
def fX0_clear (nS : Nat) (nT : Nat) (k0 : Nat) (j0 : Nat) (sc : xSC) : Option (Unit × xSC) := some ((), (xuC (xuC (xuC sc.1 k0 j0 0 0, sc.2).1 k0 j0 1 0, (xuC sc.1 k0 j0 0 0, sc.2).2).1 k0 j0 2 0, (xuC (xuC sc.1 k0 j0 0 0, sc.2).1 k0 j0 1 0, (xuC sc.1 k0 j0 0 0, sc.2).2).2))
set_option maxHeartbeats 4000000 in
set_option maxRecDepth 100000 in
theorem kX0_clear (l : Launch) (hl0 : l.stackTraces = false) (G : xG) (sh : xSh) (sc : xSC) (sr : xSR) (sl : xSL) (k0 : Nat) (j0 : Nat) (hk0 : xAm k0) (hm0 : (k0, j0) ∈ xix sh) (r : (Unit × xSC)) (hf : fX0_clear sh.2.1 sh.2.2 k0 j0 sc = some r) : xMet l yX0_clear zX0_clear rX0_clear G sh sc sr sl ([.ref (sh.1 k0 j0)] : List Value) (xvU (.inr r.1)) (xWd G sh r.2 sr sl) := by
  refine xMet_of (cc := cX0_clear) (maxL := 1) (ret := none) (by decide) (Nat.le_of_ble_eq_true rfl) ?_
  intro p e s m below meth c F hT hW hr hlocks htab ls hl
  have F : CallFix p m c cX0_clear 1 s ([.ref (sh.1 k0 j0)] : List Value).toArray xB RX0 := F
  have hx := F.1
  have hb := F.2.1
  have hS : va_S (xA G) s.heap s.heap [] := va_S.rf
  have hl : lv_has ls 1 [(0, .ref (sh.1 k0 j0))] := hl
  unfold fX0_clear at hf
  refine lv_aload_n hx hb dX0_clear_0 rfl (lv_at hl 0 rfl) ?_
  refine lv_iconst (v := 0) hx hb dX0_clear_1 (by decide) ?_
  refine xput (ty := .int) F hT hW hS xuX0 tyX0 tyX0_ok nmX0 (hm0) (xce_am hk0) rfl 0 (by decide) xw_288 rfl rfl rfl rfl rfl (Nat.le_of_ble_eq_true rfl) (xup_am_0 hk0) dX0_clear_2 (fun H locs hW hS => ?_)
  refine lv_aload_n hx hb dX0_clear_5 rfl (lv_at hl 0 rfl) ?_
  refine lv_iconst (v := 0) hx hb dX0_clear_6 (by decide) ?_
  refine xput (ty := .int) F hT hW hS xuX0 tyX0 tyX0_ok nmX0 (hm0) (xce_am hk0) rfl 1 (by decide) xw_291 rfl rfl rfl rfl rfl (Nat.le_of_ble_eq_true rfl) (xup_am_1 hk0) dX0_clear_7 (fun H locs hW hS => ?_)
  refine lv_aload_n hx hb dX0_clear_10 rfl (lv_at hl 0 rfl) ?_
  refine lv_iconst (v := 0) hx hb dX0_clear_11 (by decide) ?_
  refine xput (ty := .int) F hT hW hS xuX0 tyX0 tyX0_ok nmX0 (hm0) (xce_am hk0) rfl 2 (by decide) xw_294 rfl rfl rfl rfl rfl (Nat.le_of_ble_eq_true rfl) (xup_am_2 hk0) dX0_clear_12 (fun H locs hW hS => ?_)
  cases hf
  exact xret_v F hr hlocks hS rfl hW (Nat.le_of_ble_eq_true rfl) (Nat.le_of_ble_eq_true rfl) dX0_clear_15
abbrev rX0_of : Room := { frames := 0, cells := 0, slots := 0, locals := 0 }
abbrev zX0_of : List Cond := Cond.code yX0_of cX0_of 2 (some .int) :: xB
theorem xd_X0_of : yX0_of.cls = RX0 ∧ yX0_of.cls ≠ "java/lang/invoke/MethodHandle" ∧ yX0_of.cls ≠ "java/lang/invoke/VarHandle" ∧ (parseMethodDescriptor yX0_of.desc).map (fun d => d.parameters.length) = some 1 := by decide +kernel
def fX0_of (nS : Nat) (nT : Nat) (k0 : Nat) (j0 : Nat) (a1 : Int32) (sc : xSC) : Option Int32 := (if a1 = 0 then some (sc.1 k0 j0 0) else (if a1 = 1 then some (sc.1 k0 j0 1) else (if a1 = 2 then some (sc.1 k0 j0 2) else some 0)))
set_option maxHeartbeats 4000000 in
set_option maxRecDepth 100000 in
theorem kX0_of (l : Launch) (hl0 : l.stackTraces = false) (G : xG) (sh : xSh) (sc : xSC) (sr : xSR) (sl : xSL) (k0 : Nat) (j0 : Nat) (a1 : Int32) (hk0 : xAm k0) (hm0 : (k0, j0) ∈ xix sh) (r : Int32) (hf : fX0_of sh.2.1 sh.2.2 k0 j0 a1 sc = some r) : xMet l yX0_of zX0_of rX0_of G sh sc sr sl ([.ref (sh.1 k0 j0), .int a1] : List Value) (xvI (.inr r)) (xWd G sh sc sr sl) := by
  refine xMet_of (cc := cX0_of) (maxL := 2) (ret := (some .int)) (by decide) (Nat.le_of_ble_eq_true rfl) ?_
  intro p e s m below meth c F hT hW hr hlocks htab ls hl
  have F : CallFix p m c cX0_of 2 s ([.ref (sh.1 k0 j0), .int a1] : List Value).toArray xB RX0 := F
  have hx := F.1
  have hb := F.2.1
  have hS : va_S (xA G) s.heap s.heap [] := va_S.rf
  have hl : lv_has ls 2 [(0, .ref (sh.1 k0 j0)), (1, .int a1)] := hl
  unfold fX0_of at hf
  refine lv_iload_n hx hb dX0_of_0 rfl (lv_at hl 1 rfl) ?_
  by_cases c1 : a1 = 0
  · replace hf := if_t c1 hf
    refine W.eq (g2 := F0 m 1 ls (.int 0 :: [])) (by rw [c1]) ?_
    refine lv_tableIn (tgt := 28) hx hb dX0_of_1 (by decide) (by decide) rfl (by decide) ?_
    refine lv_aload_n hx hb dX0_of_28 rfl (lv_at hl 0 rfl) ?_
    refine xget F hT hW xuX0 (hm0) (xce_am hk0) rfl 0 (by decide) xw_288 rfl rfl dX0_of_29 ?_
    cases hf
    exact xret_i (ty := .int) F hr hlocks hS rfl rfl hW (Nat.le_of_ble_eq_true rfl) (Nat.le_of_ble_eq_true rfl) dX0_of_32
  replace hf := if_f c1 hf
  by_cases c2 : a1 = 1
  · replace hf := if_t c2 hf
    refine W.eq (g2 := F0 m 1 ls (.int 1 :: [])) (by rw [c2]) ?_
    refine lv_tableIn (tgt := 33) hx hb dX0_of_1 (by decide) (by decide) rfl (by decide) ?_
    refine lv_aload_n hx hb dX0_of_33 rfl (lv_at hl 0 rfl) ?_
    refine xget F hT hW xuX0 (hm0) (xce_am hk0) rfl 1 (by decide) xw_291 rfl rfl dX0_of_34 ?_
    cases hf
    exact xret_i (ty := .int) F hr hlocks hS rfl rfl hW (Nat.le_of_ble_eq_true rfl) (Nat.le_of_ble_eq_true rfl) dX0_of_37
  replace hf := if_f c2 hf
  by_cases c3 : a1 = 2
  · replace hf := if_t c3 hf
    refine W.eq (g2 := F0 m 1 ls (.int 2 :: [])) (by rw [c3]) ?_
    refine lv_tableIn (tgt := 38) hx hb dX0_of_1 (by decide) (by decide) rfl (by decide) ?_
    refine lv_aload_n hx hb dX0_of_38 rfl (lv_at hl 0 rfl) ?_
    refine xget F hT hW xuX0 (hm0) (xce_am hk0) rfl 2 (by decide) xw_294 rfl rfl dX0_of_39 ?_
    cases hf
    exact xret_i (ty := .int) F hr hlocks hS rfl rfl hW (Nat.le_of_ble_eq_true rfl) (Nat.le_of_ble_eq_true rfl) dX0_of_42
  replace hf := if_f c3 hf
  refine lv_tableOut (tgt := 43) hx hb dX0_of_1 (xsw_out3 c1 c2 c3) (by decide) ?_
  refine lv_iconst (v := 0) hx hb dX0_of_43 (by decide) ?_
  cases hf
  exact xret_i (ty := .int) F hr hlocks hS rfl rfl hW (Nat.le_of_ble_eq_true rfl) (Nat.le_of_ble_eq_true rfl) dX0_of_44
abbrev rX0_put : Room := { frames := 0, cells := 0, slots := 0, locals := 0 }
abbrev zX0_put : List Cond := Cond.code yX0_put cX0_put 3 none :: xB
theorem xd_X0_put : yX0_put.cls = RX0 ∧ yX0_put.cls ≠ "java/lang/invoke/MethodHandle" ∧ yX0_put.cls ≠ "java/lang/invoke/VarHandle" ∧ (parseMethodDescriptor yX0_put.desc).map (fun d => d.parameters.length) = some 2 := by decide +kernel
def fX0_put (nS : Nat) (nT : Nat) (k0 : Nat) (j0 : Nat) (a1 : Int32) (a2 : Int32) (sc : xSC) : Option (Unit × xSC) := (if a1 = 0 then some ((), (xuC sc.1 k0 j0 0 a2, sc.2)) else (if a1 = 1 then some ((), (xuC sc.1 k0 j0 1 a2, sc.2)) else (if a1 = 2 then some ((), (xuC sc.1 k0 j0 2 a2, sc.2)) else some ((), sc))))
set_option maxHeartbeats 4000000 in
set_option maxRecDepth 100000 in
theorem kX0_put (l : Launch) (hl0 : l.stackTraces = false) (G : xG) (sh : xSh) (sc : xSC) (sr : xSR) (sl : xSL) (k0 : Nat) (j0 : Nat) (a1 : Int32) (a2 : Int32) (hk0 : xAm k0) (hm0 : (k0, j0) ∈ xix sh) (r : (Unit × xSC)) (hf : fX0_put sh.2.1 sh.2.2 k0 j0 a1 a2 sc = some r) : xMet l yX0_put zX0_put rX0_put G sh sc sr sl ([.ref (sh.1 k0 j0), .int a1, .int a2] : List Value) (xvU (.inr r.1)) (xWd G sh r.2 sr sl) := by
  refine xMet_of (cc := cX0_put) (maxL := 3) (ret := none) (by decide) (Nat.le_of_ble_eq_true rfl) ?_
  intro p e s m below meth c F hT hW hr hlocks htab ls hl
  have F : CallFix p m c cX0_put 3 s ([.ref (sh.1 k0 j0), .int a1, .int a2] : List Value).toArray xB RX0 := F
  have hx := F.1
  have hb := F.2.1
  have hS : va_S (xA G) s.heap s.heap [] := va_S.rf
  have hl : lv_has ls 3 [(0, .ref (sh.1 k0 j0)), (1, .int a1), (2, .int a2)] := hl
  unfold fX0_put at hf
  refine lv_iload_n hx hb dX0_put_0 rfl (lv_at hl 1 rfl) ?_
  by_cases c1 : a1 = 0
  · replace hf := if_t c1 hf
    refine W.eq (g2 := F0 m 1 ls (.int 0 :: [])) (by rw [c1]) ?_
    refine lv_tableIn (tgt := 28) hx hb dX0_put_1 (by decide) (by decide) rfl (by decide) ?_
    refine lv_aload_n hx hb dX0_put_28 rfl (lv_at hl 0 rfl) ?_
    refine lv_iload_n hx hb dX0_put_29 rfl (lv_at hl 2 rfl) ?_
    refine xput (ty := .int) F hT hW hS xuX0 tyX0 tyX0_ok nmX0 (hm0) (xce_am hk0) rfl 0 (by decide) xw_288 rfl rfl rfl rfl rfl (Nat.le_of_ble_eq_true rfl) (xup_am_0 hk0) dX0_put_30 (fun H locs hW hS => ?_)
    refine lv_goto (tgt := 52) hx hb dX0_put_33 (by decide) ?_
    cases hf
    exact xret_v F hr hlocks hS rfl hW (Nat.le_of_ble_eq_true rfl) (Nat.le_of_ble_eq_true rfl) dX0_put_52
  replace hf := if_f c1 hf
  by_cases c2 : a1 = 1
  · replace hf := if_t c2 hf
    refine W.eq (g2 := F0 m 1 ls (.int 1 :: [])) (by rw [c2]) ?_
    refine lv_tableIn (tgt := 36) hx hb dX0_put_1 (by decide) (by decide) rfl (by decide) ?_
    refine lv_aload_n hx hb dX0_put_36 rfl (lv_at hl 0 rfl) ?_
    refine lv_iload_n hx hb dX0_put_37 rfl (lv_at hl 2 rfl) ?_
    refine xput (ty := .int) F hT hW hS xuX0 tyX0 tyX0_ok nmX0 (hm0) (xce_am hk0) rfl 1 (by decide) xw_291 rfl rfl rfl rfl rfl (Nat.le_of_ble_eq_true rfl) (xup_am_1 hk0) dX0_put_38 (fun H locs hW hS => ?_)
    refine lv_goto (tgt := 52) hx hb dX0_put_41 (by decide) ?_
    cases hf
    exact xret_v F hr hlocks hS rfl hW (Nat.le_of_ble_eq_true rfl) (Nat.le_of_ble_eq_true rfl) dX0_put_52
  replace hf := if_f c2 hf
  by_cases c3 : a1 = 2
  · replace hf := if_t c3 hf
    refine W.eq (g2 := F0 m 1 ls (.int 2 :: [])) (by rw [c3]) ?_
    refine lv_tableIn (tgt := 44) hx hb dX0_put_1 (by decide) (by decide) rfl (by decide) ?_
    refine lv_aload_n hx hb dX0_put_44 rfl (lv_at hl 0 rfl) ?_
    refine lv_iload_n hx hb dX0_put_45 rfl (lv_at hl 2 rfl) ?_
    refine xput (ty := .int) F hT hW hS xuX0 tyX0 tyX0_ok nmX0 (hm0) (xce_am hk0) rfl 2 (by decide) xw_294 rfl rfl rfl rfl rfl (Nat.le_of_ble_eq_true rfl) (xup_am_2 hk0) dX0_put_46 (fun H locs hW hS => ?_)
    refine lv_goto (tgt := 52) hx hb dX0_put_49 (by decide) ?_
    cases hf
    exact xret_v F hr hlocks hS rfl hW (Nat.le_of_ble_eq_true rfl) (Nat.le_of_ble_eq_true rfl) dX0_put_52
  replace hf := if_f c3 hf
  refine lv_tableOut (tgt := 52) hx hb dX0_put_1 (xsw_out3 c1 c2 c3) (by decide) ?_
  cases hf
  exact xret_v F hr hlocks hS rfl hW (Nat.le_of_ble_eq_true rfl) (Nat.le_of_ble_eq_true rfl) dX0_put_52
abbrev rX0_subtract : Room := { frames := 0, cells := 0, slots := 0, locals := 0 }
abbrev zX0_subtract : List Cond := Cond.code yX0_subtract cX0_subtract 2 none :: xB
theorem xd_X0_subtract : yX0_subtract.cls = RX0 ∧ yX0_subtract.cls ≠ "java/lang/invoke/MethodHandle" ∧ yX0_subtract.cls ≠ "java/lang/invoke/VarHandle" ∧ (parseMethodDescriptor yX0_subtract.desc).map (fun d => d.parameters.length) = some 1 := by decide +kernel
def fX0_subtract (nS : Nat) (nT : Nat) (k0 : Nat) (j0 : Nat) (k1 : Nat) (j1 : Nat) (sc : xSC) : Option (Unit × xSC) := some ((), (xuC (xuC (xuC sc.1 k0 j0 0 ((sc.1 k0 j0 0) - (sc.1 k1 j1 0)), sc.2).1 k0 j0 1 (((xuC sc.1 k0 j0 0 ((sc.1 k0 j0 0) - (sc.1 k1 j1 0)), sc.2).1 k0 j0 1) - ((xuC sc.1 k0 j0 0 ((sc.1 k0 j0 0) - (sc.1 k1 j1 0)), sc.2).1 k1 j1 1)), (xuC sc.1 k0 j0 0 ((sc.1 k0 j0 0) - (sc.1 k1 j1 0)), sc.2).2).1 k0 j0 2 (((xuC (xuC sc.1 k0 j0 0 ((sc.1 k0 j0 0) - (sc.1 k1 j1 0)), sc.2).1 k0 j0 1 (((xuC sc.1 k0 j0 0 ((sc.1 k0 j0 0) - (sc.1 k1 j1 0)), sc.2).1 k0 j0 1) - ((xuC sc.1 k0 j0 0 ((sc.1 k0 j0 0) - (sc.1 k1 j1 0)), sc.2).1 k1 j1 1)), (xuC sc.1 k0 j0 0 ((sc.1 k0 j0 0) - (sc.1 k1 j1 0)), sc.2).2).1 k0 j0 2) - ((xuC (xuC sc.1 k0 j0 0 ((sc.1 k0 j0 0) - (sc.1 k1 j1 0)), sc.2).1 k0 j0 1 (((xuC sc.1 k0 j0 0 ((sc.1 k0 j0 0) - (sc.1 k1 j1 0)), sc.2).1 k0 j0 1) - ((xuC sc.1 k0 j0 0 ((sc.1 k0 j0 0) - (sc.1 k1 j1 0)), sc.2).1 k1 j1 1)), (xuC sc.1 k0 j0 0 ((sc.1 k0 j0 0) - (sc.1 k1 j1 0)), sc.2).2).1 k1 j1 2)), (xuC (xuC sc.1 k0 j0 0 ((sc.1 k0 j0 0) - (sc.1 k1 j1 0)), sc.2).1 k0 j0 1 (((xuC sc.1 k0 j0 0 ((sc.1 k0 j0 0) - (sc.1 k1 j1 0)), sc.2).1 k0 j0 1) - ((xuC sc.1 k0 j0 0 ((sc.1 k0 j0 0) - (sc.1 k1 j1 0)), sc.2).1 k1 j1 1)), (xuC sc.1 k0 j0 0 ((sc.1 k0 j0 0) - (sc.1 k1 j1 0)), sc.2).2).2))
set_option maxHeartbeats 4000000 in
set_option maxRecDepth 100000 in
theorem kX0_subtract (l : Launch) (hl0 : l.stackTraces = false) (G : xG) (sh : xSh) (sc : xSC) (sr : xSR) (sl : xSL) (k0 : Nat) (j0 : Nat) (k1 : Nat) (j1 : Nat) (hk0 : xAm k0) (hm0 : (k0, j0) ∈ xix sh) (hk1 : xAm k1) (hm1 : (k1, j1) ∈ xix sh) (r : (Unit × xSC)) (hf : fX0_subtract sh.2.1 sh.2.2 k0 j0 k1 j1 sc = some r) : xMet l yX0_subtract zX0_subtract rX0_subtract G sh sc sr sl ([.ref (sh.1 k0 j0), .ref (sh.1 k1 j1)] : List Value) (xvU (.inr r.1)) (xWd G sh r.2 sr sl) := by
  refine xMet_of (cc := cX0_subtract) (maxL := 2) (ret := none) (by decide) (Nat.le_of_ble_eq_true rfl) ?_
  intro p e s m below meth c F hT hW hr hlocks htab ls hl
  have F : CallFix p m c cX0_subtract 2 s ([.ref (sh.1 k0 j0), .ref (sh.1 k1 j1)] : List Value).toArray xB RX0 := F
  have hx := F.1
  have hb := F.2.1
  have hS : va_S (xA G) s.heap s.heap [] := va_S.rf
  have hl : lv_has ls 2 [(0, .ref (sh.1 k0 j0)), (1, .ref (sh.1 k1 j1))] := hl
  unfold fX0_subtract at hf
  refine lv_aload_n hx hb dX0_subtract_0 rfl (lv_at hl 0 rfl) ?_
  refine lv_dup hx hb dX0_subtract_1 rfl ?_
  refine xget F hT hW xuX0 (hm0) (xce_am hk0) rfl 0 (by decide) xw_288 rfl rfl dX0_subtract_2 ?_
  refine lv_aload_n hx hb dX0_subtract_5 rfl (lv_at hl 1 rfl) ?_
  refine xget F hT hW xuX0 (hm1) (xce_am hk1) rfl 0 (by decide) xw_288 rfl rfl dX0_subtract_6 ?_
  refine lv_isub hx hb dX0_subtract_9 ?_
  refine xput (ty := .int) F hT hW hS xuX0 tyX0 tyX0_ok nmX0 (hm0) (xce_am hk0) rfl 0 (by decide) xw_288 rfl rfl rfl rfl rfl (Nat.le_of_ble_eq_true rfl) (xup_am_0 hk0) dX0_subtract_10 (fun H locs hW hS => ?_)
  refine lv_aload_n hx hb dX0_subtract_13 rfl (lv_at hl 0 rfl) ?_
  refine lv_dup hx hb dX0_subtract_14 rfl ?_
  refine xget F hT hW xuX0 (hm0) (xce_am hk0) rfl 1 (by decide) xw_291 rfl rfl dX0_subtract_15 ?_
  refine lv_aload_n hx hb dX0_subtract_18 rfl (lv_at hl 1 rfl) ?_
  refine xget F hT hW xuX0 (hm1) (xce_am hk1) rfl 1 (by decide) xw_291 rfl rfl dX0_subtract_19 ?_
  refine lv_isub hx hb dX0_subtract_22 ?_
  refine xput (ty := .int) F hT hW hS xuX0 tyX0 tyX0_ok nmX0 (hm0) (xce_am hk0) rfl 1 (by decide) xw_291 rfl rfl rfl rfl rfl (Nat.le_of_ble_eq_true rfl) (xup_am_1 hk0) dX0_subtract_23 (fun H locs hW hS => ?_)
  refine lv_aload_n hx hb dX0_subtract_26 rfl (lv_at hl 0 rfl) ?_
  refine lv_dup hx hb dX0_subtract_27 rfl ?_
  refine xget F hT hW xuX0 (hm0) (xce_am hk0) rfl 2 (by decide) xw_294 rfl rfl dX0_subtract_28 ?_
  refine lv_aload_n hx hb dX0_subtract_31 rfl (lv_at hl 1 rfl) ?_
  refine xget F hT hW xuX0 (hm1) (xce_am hk1) rfl 2 (by decide) xw_294 rfl rfl dX0_subtract_32 ?_
  refine lv_isub hx hb dX0_subtract_35 ?_
  refine xput (ty := .int) F hT hW hS xuX0 tyX0 tyX0_ok nmX0 (hm0) (xce_am hk0) rfl 2 (by decide) xw_294 rfl rfl rfl rfl rfl (Nat.le_of_ble_eq_true rfl) (xup_am_2 hk0) dX0_subtract_36 (fun H locs hW hS => ?_)
  cases hf
  exact xret_v F hr hlocks hS rfl hW (Nat.le_of_ble_eq_true rfl) (Nat.le_of_ble_eq_true rfl) dX0_subtract_39
abbrev rX1_begin : Room := { frames := 0, cells := 0, slots := 0, locals := 0 }
abbrev zX1_begin : List Cond := Cond.code yX1_begin cX1_begin 4 none :: xB
theorem xd_X1_begin : yX1_begin.cls = RX1 ∧ yX1_begin.cls ≠ "java/lang/invoke/MethodHandle" ∧ yX1_begin.cls ≠ "java/lang/invoke/VarHandle" ∧ (parseMethodDescriptor yX1_begin.desc).map (fun d => d.parameters.length) = some 3 := by decide +kernel
def fX1_begin (nS : Nat) (nT : Nat) (k0 : Nat) (j0 : Nat) (a1 : Int32) (a2 : Int32) (a3 : Int32) (sc : xSC) : Option (Unit × xSC) := some ((), (xuC (xuC (xuC (xuC sc.1 k0 j0 0 99, sc.2).1 k0 j0 1 a1, (xuC sc.1 k0 j0 0 99, sc.2).2).1 k0 j0 2 a2, (xuC (xuC sc.1 k0 j0 0 99, sc.2).1 k0 j0 1 a1, (xuC sc.1 k0 j0 0 99, sc.2).2).2).1 k0 j0 3 a3, (xuC (xuC (xuC sc.1 k0 j0 0 99, sc.2).1 k0 j0 1 a1, (xuC sc.1 k0 j0 0 99, sc.2).2).1 k0 j0 2 a2, (xuC (xuC sc.1 k0 j0 0 99, sc.2).1 k0 j0 1 a1, (xuC sc.1 k0 j0 0 99, sc.2).2).2).2))
set_option maxHeartbeats 4000000 in
set_option maxRecDepth 100000 in
theorem kX1_begin (l : Launch) (hl0 : l.stackTraces = false) (G : xG) (sh : xSh) (sc : xSC) (sr : xSR) (sl : xSL) (k0 : Nat) (j0 : Nat) (a1 : Int32) (a2 : Int32) (a3 : Int32) (hk0 : xMv k0) (hm0 : (k0, j0) ∈ xix sh) (r : (Unit × xSC)) (hf : fX1_begin sh.2.1 sh.2.2 k0 j0 a1 a2 a3 sc = some r) : xMet l yX1_begin zX1_begin rX1_begin G sh sc sr sl ([.ref (sh.1 k0 j0), .int a1, .int a2, .int a3] : List Value) (xvU (.inr r.1)) (xWd G sh r.2 sr sl) := by
  refine xMet_of (cc := cX1_begin) (maxL := 4) (ret := none) (by decide) (Nat.le_of_ble_eq_true rfl) ?_
  intro p e s m below meth c F hT hW hr hlocks htab ls hl
  have F : CallFix p m c cX1_begin 4 s ([.ref (sh.1 k0 j0), .int a1, .int a2, .int a3] : List Value).toArray xB RX1 := F
  have hx := F.1
  have hb := F.2.1
  have hS : va_S (xA G) s.heap s.heap [] := va_S.rf
  have hl : lv_has ls 4 [(0, .ref (sh.1 k0 j0)), (1, .int a1), (2, .int a2), (3, .int a3)] := hl
  unfold fX1_begin at hf
  refine lv_aload_n hx hb dX1_begin_0 rfl (lv_at hl 0 rfl) ?_
  refine lv_bipush (v := 99) hx hb dX1_begin_1 (by decide) ?_
  refine xput (ty := .char) F hT hW hS xuX1 tyX1 tyX1_ok nmX1 (hm0) (xce_mv hk0) rfl 0 (by decide) xw_53 rfl rfl rfl (by decide) (by decide) (Nat.le_of_ble_eq_true rfl) (xup_mv_0 hk0) dX1_begin_3 (fun H locs hW hS => ?_)
  refine lv_aload_n hx hb dX1_begin_6 rfl (lv_at hl 0 rfl) ?_
  refine lv_iload_n hx hb dX1_begin_7 rfl (lv_at hl 1 rfl) ?_
  refine xput (ty := .int) F hT hW hS xuX1 tyX1 tyX1_ok nmX1 (hm0) (xce_mv hk0) rfl 1 (by decide) xw_55 rfl rfl rfl rfl rfl (Nat.le_of_ble_eq_true rfl) (xup_mv_1 hk0) dX1_begin_8 (fun H locs hW hS => ?_)
  refine lv_aload_n hx hb dX1_begin_11 rfl (lv_at hl 0 rfl) ?_
  refine lv_iload_n hx hb dX1_begin_12 rfl (lv_at hl 2 rfl) ?_
  refine xput (ty := .int) F hT hW hS xuX1 tyX1 tyX1_ok nmX1 (hm0) (xce_mv hk0) rfl 2 (by decide) xw_58 rfl rfl rfl rfl rfl (Nat.le_of_ble_eq_true rfl) (xup_mv_2 hk0) dX1_begin_13 (fun H locs hW hS => ?_)
  refine lv_aload_n hx hb dX1_begin_16 rfl (lv_at hl 0 rfl) ?_
  refine lv_iload_n hx hb dX1_begin_17 rfl (lv_at hl 3 rfl) ?_
  refine xput (ty := .int) F hT hW hS xuX1 tyX1 tyX1_ok nmX1 (hm0) (xce_mv hk0) rfl 3 (by decide) xw_60 rfl rfl rfl rfl rfl (Nat.le_of_ble_eq_true rfl) (xup_mv_3 hk0) dX1_begin_18 (fun H locs hW hS => ?_)
  cases hf
  exact xret_v F hr hlocks hS rfl hW (Nat.le_of_ble_eq_true rfl) (Nat.le_of_ble_eq_true rfl) dX1_begin_21
abbrev rX1_cleanAnew : Room := { frames := 0, cells := 0, slots := 0, locals := 0 }
abbrev zX1_cleanAnew : List Cond := Cond.code yX1_cleanAnew cX1_cleanAnew 1 none :: xB
theorem xd_X1_cleanAnew : yX1_cleanAnew.cls = RX1 ∧ yX1_cleanAnew.cls ≠ "java/lang/invoke/MethodHandle" ∧ yX1_cleanAnew.cls ≠ "java/lang/invoke/VarHandle" ∧ (parseMethodDescriptor yX1_cleanAnew.desc).map (fun d => d.parameters.length) = some 0 := by decide +kernel
def fX1_cleanAnew (nS : Nat) (nT : Nat) (k0 : Nat) (j0 : Nat) (sc : xSC) : Option (Unit × xSC) := some ((), (xuC sc.1 k0 j0 3 2, sc.2))
set_option maxHeartbeats 4000000 in
set_option maxRecDepth 100000 in
theorem kX1_cleanAnew (l : Launch) (hl0 : l.stackTraces = false) (G : xG) (sh : xSh) (sc : xSC) (sr : xSR) (sl : xSL) (k0 : Nat) (j0 : Nat) (hk0 : xMv k0) (hm0 : (k0, j0) ∈ xix sh) (r : (Unit × xSC)) (hf : fX1_cleanAnew sh.2.1 sh.2.2 k0 j0 sc = some r) : xMet l yX1_cleanAnew zX1_cleanAnew rX1_cleanAnew G sh sc sr sl ([.ref (sh.1 k0 j0)] : List Value) (xvU (.inr r.1)) (xWd G sh r.2 sr sl) := by
  refine xMet_of (cc := cX1_cleanAnew) (maxL := 1) (ret := none) (by decide) (Nat.le_of_ble_eq_true rfl) ?_
  intro p e s m below meth c F hT hW hr hlocks htab ls hl
  have F : CallFix p m c cX1_cleanAnew 1 s ([.ref (sh.1 k0 j0)] : List Value).toArray xB RX1 := F
  have hx := F.1
  have hb := F.2.1
  have hS : va_S (xA G) s.heap s.heap [] := va_S.rf
  have hl : lv_has ls 1 [(0, .ref (sh.1 k0 j0))] := hl
  unfold fX1_cleanAnew at hf
  refine lv_aload_n hx hb dX1_cleanAnew_0 rfl (lv_at hl 0 rfl) ?_
  refine lv_iconst (v := 2) hx hb dX1_cleanAnew_1 (by decide) ?_
  refine xput (ty := .int) F hT hW hS xuX1 tyX1 tyX1_ok nmX1 (hm0) (xce_mv hk0) rfl 3 (by decide) xw_60 rfl rfl rfl rfl rfl (Nat.le_of_ble_eq_true rfl) (xup_mv_3 hk0) dX1_cleanAnew_2 (fun H locs hW hS => ?_)
  cases hf
  exact xret_v F hr hlocks hS rfl hW (Nat.le_of_ble_eq_true rfl) (Nat.le_of_ble_eq_true rfl) dX1_cleanAnew_5
abbrev rX1_copyFrom : Room := { frames := 0, cells := 0, slots := 0, locals := 0 }
abbrev zX1_copyFrom : List Cond := Cond.code yX1_copyFrom cX1_copyFrom 2 none :: xB
theorem xd_X1_copyFrom : yX1_copyFrom.cls = RX1 ∧ yX1_copyFrom.cls ≠ "java/lang/invoke/MethodHandle" ∧ yX1_copyFrom.cls ≠ "java/lang/invoke/VarHandle" ∧ (parseMethodDescriptor yX1_copyFrom.desc).map (fun d => d.parameters.length) = some 1 := by decide +kernel
def fX1_copyFrom (nS : Nat) (nT : Nat) (k0 : Nat) (j0 : Nat) (k1 : Nat) (j1 : Nat) (sc : xSC) : Option (Unit × xSC) := oG (xnb .char (sc.1 k1 j1 0)) (some ((), (xuC (xuC (xuC (xuC sc.1 k0 j0 0 (sc.1 k1 j1 0), sc.2).1 k0 j0 1 ((xuC sc.1 k0 j0 0 (sc.1 k1 j1 0), sc.2).1 k1 j1 1), (xuC sc.1 k0 j0 0 (sc.1 k1 j1 0), sc.2).2).1 k0 j0 2 ((xuC (xuC sc.1 k0 j0 0 (sc.1 k1 j1 0), sc.2).1 k0 j0 1 ((xuC sc.1 k0 j0 0 (sc.1 k1 j1 0), sc.2).1 k1 j1 1), (xuC sc.1 k0 j0 0 (sc.1 k1 j1 0), sc.2).2).1 k1 j1 2), (xuC (xuC sc.1 k0 j0 0 (sc.1 k1 j1 0), sc.2).1 k0 j0 1 ((xuC sc.1 k0 j0 0 (sc.1 k1 j1 0), sc.2).1 k1 j1 1), (xuC sc.1 k0 j0 0 (sc.1 k1 j1 0), sc.2).2).2).1 k0 j0 3 ((xuC (xuC (xuC sc.1 k0 j0 0 (sc.1 k1 j1 0), sc.2).1 k0 j0 1 ((xuC sc.1 k0 j0 0 (sc.1 k1 j1 0), sc.2).1 k1 j1 1), (xuC sc.1 k0 j0 0 (sc.1 k1 j1 0), sc.2).2).1 k0 j0 2 ((xuC (xuC sc.1 k0 j0 0 (sc.1 k1 j1 0), sc.2).1 k0 j0 1 ((xuC sc.1 k0 j0 0 (sc.1 k1 j1 0), sc.2).1 k1 j1 1), (xuC sc.1 k0 j0 0 (sc.1 k1 j1 0), sc.2).2).1 k1 j1 2), (xuC (xuC sc.1 k0 j0 0 (sc.1 k1 j1 0), sc.2).1 k0 j0 1 ((xuC sc.1 k0 j0 0 (sc.1 k1 j1 0), sc.2).1 k1 j1 1), (xuC sc.1 k0 j0 0 (sc.1 k1 j1 0), sc.2).2).2).1 k1 j1 3), (xuC (xuC (xuC sc.1 k0 j0 0 (sc.1 k1 j1 0), sc.2).1 k0 j0 1 ((xuC sc.1 k0 j0 0 (sc.1 k1 j1 0), sc.2).1 k1 j1 1), (xuC sc.1 k0 j0 0 (sc.1 k1 j1 0), sc.2).2).1 k0 j0 2 ((xuC (xuC sc.1 k0 j0 0 (sc.1 k1 j1 0), sc.2).1 k0 j0 1 ((xuC sc.1 k0 j0 0 (sc.1 k1 j1 0), sc.2).1 k1 j1 1), (xuC sc.1 k0 j0 0 (sc.1 k1 j1 0), sc.2).2).1 k1 j1 2), (xuC (xuC sc.1 k0 j0 0 (sc.1 k1 j1 0), sc.2).1 k0 j0 1 ((xuC sc.1 k0 j0 0 (sc.1 k1 j1 0), sc.2).1 k1 j1 1), (xuC sc.1 k0 j0 0 (sc.1 k1 j1 0), sc.2).2).2).2)))
set_option maxHeartbeats 4000000 in
set_option maxRecDepth 100000 in
theorem kX1_copyFrom (l : Launch) (hl0 : l.stackTraces = false) (G : xG) (sh : xSh) (sc : xSC) (sr : xSR) (sl : xSL) (k0 : Nat) (j0 : Nat) (k1 : Nat) (j1 : Nat) (hk0 : xMv k0) (hm0 : (k0, j0) ∈ xix sh) (hk1 : xMv k1) (hm1 : (k1, j1) ∈ xix sh) (r : (Unit × xSC)) (hf : fX1_copyFrom sh.2.1 sh.2.2 k0 j0 k1 j1 sc = some r) : xMet l yX1_copyFrom zX1_copyFrom rX1_copyFrom G sh sc sr sl ([.ref (sh.1 k0 j0), .ref (sh.1 k1 j1)] : List Value) (xvU (.inr r.1)) (xWd G sh r.2 sr sl) := by
  refine xMet_of (cc := cX1_copyFrom) (maxL := 2) (ret := none) (by decide) (Nat.le_of_ble_eq_true rfl) ?_
  intro p e s m below meth c F hT hW hr hlocks htab ls hl
  have F : CallFix p m c cX1_copyFrom 2 s ([.ref (sh.1 k0 j0), .ref (sh.1 k1 j1)] : List Value).toArray xB RX1 := F
  have hx := F.1
  have hb := F.2.1
  have hS : va_S (xA G) s.heap s.heap [] := va_S.rf
  have hl : lv_has ls 2 [(0, .ref (sh.1 k0 j0)), (1, .ref (sh.1 k1 j1))] := hl
  unfold fX1_copyFrom at hf
  refine lv_aload_n hx hb dX1_copyFrom_0 rfl (lv_at hl 0 rfl) ?_
  refine lv_aload_n hx hb dX1_copyFrom_1 rfl (lv_at hl 1 rfl) ?_
  refine xget F hT hW xuX1 (hm1) (xce_mv hk1) rfl 0 (by decide) xw_53 rfl rfl dX1_copyFrom_2 ?_
  obtain ⟨g1, hf⟩ := oG_go hf
  refine xput (ty := .char) F hT hW hS xuX1 tyX1 tyX1_ok nmX1 (hm0) (xce_mv hk0) rfl 0 (by decide) xw_53 rfl rfl rfl (xnb_ok g1).1 (xnb_ok g1).2 (Nat.le_of_ble_eq_true rfl) (xup_mv_0 hk0) dX1_copyFrom_5 (fun H locs hW hS => ?_)
  refine lv_aload_n hx hb dX1_copyFrom_8 rfl (lv_at hl 0 rfl) ?_
  refine lv_aload_n hx hb dX1_copyFrom_9 rfl (lv_at hl 1 rfl) ?_
  refine xget F hT hW xuX1 (hm1) (xce_mv hk1) rfl 1 (by decide) xw_55 rfl rfl dX1_copyFrom_10 ?_
  refine xput (ty := .int) F hT hW hS xuX1 tyX1 tyX1_ok nmX1 (hm0) (xce_mv hk0) rfl 1 (by decide) xw_55 rfl rfl rfl rfl rfl (Nat.le_of_ble_eq_true rfl) (xup_mv_1 hk0) dX1_copyFrom_13 (fun H locs hW hS => ?_)
  refine lv_aload_n hx hb dX1_copyFrom_16 rfl (lv_at hl 0 rfl) ?_
  refine lv_aload_n hx hb dX1_copyFrom_17 rfl (lv_at hl 1 rfl) ?_
  refine xget F hT hW xuX1 (hm1) (xce_mv hk1) rfl 2 (by decide) xw_58 rfl rfl dX1_copyFrom_18 ?_
  refine xput (ty := .int) F hT hW hS xuX1 tyX1 tyX1_ok nmX1 (hm0) (xce_mv hk0) rfl 2 (by decide) xw_58 rfl rfl rfl rfl rfl (Nat.le_of_ble_eq_true rfl) (xup_mv_2 hk0) dX1_copyFrom_21 (fun H locs hW hS => ?_)
  refine lv_aload_n hx hb dX1_copyFrom_24 rfl (lv_at hl 0 rfl) ?_
  refine lv_aload_n hx hb dX1_copyFrom_25 rfl (lv_at hl 1 rfl) ?_
  refine xget F hT hW xuX1 (hm1) (xce_mv hk1) rfl 3 (by decide) xw_60 rfl rfl dX1_copyFrom_26 ?_
  refine xput (ty := .int) F hT hW hS xuX1 tyX1 tyX1_ok nmX1 (hm0) (xce_mv hk0) rfl 3 (by decide) xw_60 rfl rfl rfl rfl rfl (Nat.le_of_ble_eq_true rfl) (xup_mv_3 hk0) dX1_copyFrom_29 (fun H locs hW hS => ?_)
  cases hf
  exact xret_v F hr hlocks hS rfl hW (Nat.le_of_ble_eq_true rfl) (Nat.le_of_ble_eq_true rfl) dX1_copyFrom_32
abbrev rX1_end : Room := { frames := 0, cells := 0, slots := 0, locals := 0 }
abbrev zX1_end : List Cond := Cond.code yX1_end cX1_end 1 none :: xB
theorem xd_X1_end : yX1_end.cls = RX1 ∧ yX1_end.cls ≠ "java/lang/invoke/MethodHandle" ∧ yX1_end.cls ≠ "java/lang/invoke/VarHandle" ∧ (parseMethodDescriptor yX1_end.desc).map (fun d => d.parameters.length) = some 0 := by decide +kernel
def fX1_end (nS : Nat) (nT : Nat) (k0 : Nat) (j0 : Nat) (sc : xSC) : Option (Unit × xSC) := some ((), (xuC sc.1 k0 j0 0 45, sc.2))
set_option maxHeartbeats 4000000 in
set_option maxRecDepth 100000 in
theorem kX1_end (l : Launch) (hl0 : l.stackTraces = false) (G : xG) (sh : xSh) (sc : xSC) (sr : xSR) (sl : xSL) (k0 : Nat) (j0 : Nat) (hk0 : xMv k0) (hm0 : (k0, j0) ∈ xix sh) (r : (Unit × xSC)) (hf : fX1_end sh.2.1 sh.2.2 k0 j0 sc = some r) : xMet l yX1_end zX1_end rX1_end G sh sc sr sl ([.ref (sh.1 k0 j0)] : List Value) (xvU (.inr r.1)) (xWd G sh r.2 sr sl) := by
  refine xMet_of (cc := cX1_end) (maxL := 1) (ret := none) (by decide) (Nat.le_of_ble_eq_true rfl) ?_
  intro p e s m below meth c F hT hW hr hlocks htab ls hl
  have F : CallFix p m c cX1_end 1 s ([.ref (sh.1 k0 j0)] : List Value).toArray xB RX1 := F
  have hx := F.1
  have hb := F.2.1
  have hS : va_S (xA G) s.heap s.heap [] := va_S.rf
  have hl : lv_has ls 1 [(0, .ref (sh.1 k0 j0))] := hl
  unfold fX1_end at hf
  refine lv_aload_n hx hb dX1_end_0 rfl (lv_at hl 0 rfl) ?_
  refine lv_bipush (v := 45) hx hb dX1_end_1 (by decide) ?_
  refine xput (ty := .char) F hT hW hS xuX1 tyX1 tyX1_ok nmX1 (hm0) (xce_mv hk0) rfl 0 (by decide) xw_53 rfl rfl rfl (by decide) (by decide) (Nat.le_of_ble_eq_true rfl) (xup_mv_0 hk0) dX1_end_3 (fun H locs hW hS => ?_)
  cases hf
  exact xret_v F hr hlocks hS rfl hW (Nat.le_of_ble_eq_true rfl) (Nat.le_of_ble_eq_true rfl) dX1_end_6
abbrev rX1_goOn : Room := { frames := 1, cells := 0, slots := 0, locals := 20 }
abbrev zX1_goOn : List Cond := Cond.code yX1_goOn cX1_goOn 2 (some .boolean) :: xB
theorem xd_X1_goOn : yX1_goOn.cls = RX1 ∧ yX1_goOn.cls ≠ "java/lang/invoke/MethodHandle" ∧ yX1_goOn.cls ≠ "java/lang/invoke/VarHandle" ∧ (parseMethodDescriptor yX1_goOn.desc).map (fun d => d.parameters.length) = some 1 := by decide +kernel
def fX1_goOn (nS : Nat) (nT : Nat) (k0 : Nat) (j0 : Nat) (a1 : Int32) (sc : xSC) : Option (Int32 × xSC) := (if (sc.1 k0 j0 0) = 102 then (if a1 = 0 then oG (xnb .boolean a1) (some (a1, sc)) else oP (fX1_cleanAnew nS nT k0 j0 (xuC sc.1 k0 j0 0 100, sc.2)) (fun v6 s7 => oG (xnb .boolean a1) (some (a1, s7)))) else (if 0 < ((xuC sc.1 k0 j0 3 ((sc.1 k0 j0 3) - 1), sc.2).1 k0 j0 3) then some (0, (xuC sc.1 k0 j0 3 ((sc.1 k0 j0 3) - 1), sc.2)) else (if ((xuC sc.1 k0 j0 3 ((sc.1 k0 j0 3) - 1), sc.2).1 k0 j0 0) = 99 then some (0, (xuC (xuC sc.1 k0 j0 3 ((sc.1 k0 j0 3) - 1), sc.2).1 k0 j0 0 102, (xuC sc.1 k0 j0 3 ((sc.1 k0 j0 3) - 1), sc.2).2)) else some (0, (xuC (xuC sc.1 k0 j0 3 ((sc.1 k0 j0 3) - 1), sc.2).1 k0 j0 0 45, (xuC sc.1 k0 j0 3 ((sc.1 k0 j0 3) - 1), sc.2).2)))))
set_option maxHeartbeats 4000000 in
set_option maxRecDepth 100000 in
theorem kX1_goOn (l : Launch) (hl0 : l.stackTraces = false) (G : xG) (sh : xSh) (sc : xSC) (sr : xSR) (sl : xSL) (k0 : Nat) (j0 : Nat) (a1 : Int32) (hk0 : xMv k0) (hm0 : (k0, j0) ∈ xix sh) (r : (Int32 × xSC)) (hf : fX1_goOn sh.2.1 sh.2.2 k0 j0 a1 sc = some r) : xMet l yX1_goOn zX1_goOn rX1_goOn G sh sc sr sl ([.ref (sh.1 k0 j0), .int a1] : List Value) (xvI (.inr r.1)) (xWd G sh r.2 sr sl) := by
  refine xMet_of (cc := cX1_goOn) (maxL := 2) (ret := (some .boolean)) (by decide) (Nat.le_of_ble_eq_true rfl) ?_
  intro p e s m below meth c F hT hW hr hlocks htab ls hl
  have F : CallFix p m c cX1_goOn 2 s ([.ref (sh.1 k0 j0), .int a1] : List Value).toArray xB RX1 := F
  have hx := F.1
  have hb := F.2.1
  have hS : va_S (xA G) s.heap s.heap [] := va_S.rf
  have hl : lv_has ls 2 [(0, .ref (sh.1 k0 j0)), (1, .int a1)] := hl
  unfold fX1_goOn at hf
  refine lv_aload_n hx hb dX1_goOn_0 rfl (lv_at hl 0 rfl) ?_
  refine xget F hT hW xuX1 (hm0) (xce_mv hk0) rfl 0 (by decide) xw_53 rfl rfl dX1_goOn_1 ?_
  refine lv_bipush (v := 102) hx hb dX1_goOn_4 (by decide) ?_
  refine lv_icmp_ne (tgt := 25) hx hb dX1_goOn_6 (by decide) (fun c1 => ?_) (fun c1 => ?_)
  · replace hf := if_f c1 hf
    refine lv_aload_n hx hb dX1_goOn_25 rfl (lv_at hl 0 rfl) ?_
    refine lv_dup hx hb dX1_goOn_26 rfl ?_
    refine xget F hT hW xuX1 (hm0) (xce_mv hk0) rfl 3 (by decide) xw_60 rfl rfl dX1_goOn_27 ?_
    refine lv_iconst (v := 1) hx hb dX1_goOn_30 (by decide) ?_
    refine lv_isub hx hb dX1_goOn_31 ?_
    refine xput (ty := .int) F hT hW hS xuX1 tyX1 tyX1_ok nmX1 (hm0) (xce_mv hk0) rfl 3 (by decide) xw_60 rfl rfl rfl rfl rfl (Nat.le_of_ble_eq_true rfl) (xup_mv_3 hk0) dX1_goOn_32 (fun H locs hW hS => ?_)
    refine lv_aload_n hx hb dX1_goOn_35 rfl (lv_at hl 0 rfl) ?_
    refine xget F hT hW xuX1 (hm0) (xce_mv hk0) rfl 3 (by decide) xw_60 rfl rfl dX1_goOn_36 ?_
    refine lv_if_gt (tgt := 62) hx hb dX1_goOn_39 (by decide) (fun c2 => ?_) (fun c2 => ?_)
    · replace hf := if_t c2 hf
      refine lv_iconst (v := 0) hx hb dX1_goOn_62 (by decide) ?_
      cases hf
      exact xret_i (ty := .boolean) F hr hlocks hS (by decide) rfl hW (Nat.le_of_ble_eq_true rfl) (Nat.le_of_ble_eq_true rfl) dX1_goOn_63
    · replace hf := if_f c2 hf
      refine lv_aload_n hx hb dX1_goOn_42 rfl (lv_at hl 0 rfl) ?_
      refine lv_aload_n hx hb dX1_goOn_43 rfl (lv_at hl 0 rfl) ?_
      refine xget F hT hW xuX1 (hm0) (xce_mv hk0) rfl 0 (by decide) xw_53 rfl rfl dX1_goOn_44 ?_
      refine lv_bipush (v := 99) hx hb dX1_goOn_47 (by decide) ?_
      refine lv_icmp_ne (tgt := 57) hx hb dX1_goOn_49 (by decide) (fun c3 => ?_) (fun c3 => ?_)
      · replace hf := if_f c3 hf
        refine lv_bipush (v := 45) hx hb dX1_goOn_57 (by decide) ?_
        refine xput (ty := .char) F hT hW hS xuX1 tyX1 tyX1_ok nmX1 (hm0) (xce_mv hk0) rfl 0 (by decide) xw_53 rfl rfl rfl (by decide) (by decide) (Nat.le_of_ble_eq_true rfl) (xup_mv_0 hk0) dX1_goOn_59 (fun H locs hW hS => ?_)
        refine lv_iconst (v := 0) hx hb dX1_goOn_62 (by decide) ?_
        cases hf
        exact xret_i (ty := .boolean) F hr hlocks hS (by decide) rfl hW (Nat.le_of_ble_eq_true rfl) (Nat.le_of_ble_eq_true rfl) dX1_goOn_63
      · replace hf := if_t c3 hf
        refine lv_bipush (v := 102) hx hb dX1_goOn_52 (by decide) ?_
        refine lv_goto (tgt := 59) hx hb dX1_goOn_54 (by decide) ?_
        refine xput (ty := .char) F hT hW hS xuX1 tyX1 tyX1_ok nmX1 (hm0) (xce_mv hk0) rfl 0 (by decide) xw_53 rfl rfl rfl (by decide) (by decide) (Nat.le_of_ble_eq_true rfl) (xup_mv_0 hk0) dX1_goOn_59 (fun H locs hW hS => ?_)
        refine lv_iconst (v := 0) hx hb dX1_goOn_62 (by decide) ?_
        cases hf
        exact xret_i (ty := .boolean) F hr hlocks hS (by decide) rfl hW (Nat.le_of_ble_eq_true rfl) (Nat.le_of_ble_eq_true rfl) dX1_goOn_63
  · replace hf := if_t c1 hf
    refine lv_iload_n hx hb dX1_goOn_9 rfl (lv_at hl 1 rfl) ?_
    refine lv_if_eq (tgt := 23) hx hb dX1_goOn_10 (by decide) (fun c4 => ?_) (fun c4 => ?_)
    · replace hf := if_t c4 hf
      refine lv_iload_n hx hb dX1_goOn_23 rfl (lv_at hl 1 rfl) ?_
      obtain ⟨g5, hf⟩ := oG_go hf
      cases hf
      exact xret_i (ty := .boolean) F hr hlocks hS (xnb_ok g5).1 rfl hW (Nat.le_of_ble_eq_true rfl) (Nat.le_of_ble_eq_true rfl) dX1_goOn_24
    · replace hf := if_f c4 hf
      refine lv_aload_n hx hb dX1_goOn_13 rfl (lv_at hl 0 rfl) ?_
      refine lv_bipush (v := 100) hx hb dX1_goOn_14 (by decide) ?_
      refine xput (ty := .char) F hT hW hS xuX1 tyX1 tyX1_ok nmX1 (hm0) (xce_mv hk0) rfl 0 (by decide) xw_53 rfl rfl rfl (by decide) (by decide) (Nat.le_of_ble_eq_true rfl) (xup_mv_0 hk0) dX1_goOn_16 (fun H locs hW hS => ?_)
      refine lv_aload_n hx hb dX1_goOn_19 rfl (lv_at hl 0 rfl) ?_
      obtain ⟨v6, s7, hc9, hf⟩ := oP_go hf
      refine xcallV (n := 0) F hT hW hS (hm0) (xce_mv hk0) rfl (kX1_cleanAnew l hl0 G sh (xuC sc.1 k0 j0 0 100, sc.2) sr sl k0 j0 hk0 hm0 _ hc9) (xgV xw_586 xw_587 xw_588 xw_3 xw_589) rfl xd_X1_cleanAnew ⟨Nat.le_of_ble_eq_true rfl, Nat.le_of_ble_eq_true rfl⟩ rfl hl.1 rfl (Nat.le_of_ble_eq_true rfl) dX1_goOn_20 ⟨Nat.le_of_ble_eq_true rfl, Nat.le_of_ble_eq_true rfl⟩ (fun v9 H locs hres hW hS => ?_) (fun E9 H locs q9 ce9 hres => by cases hres)
      cases hres
      refine W.eq (g2 := F0 m 23 ls ([])) rfl ?_
      refine lv_iload_n hx hb dX1_goOn_23 rfl (lv_at hl 1 rfl) ?_
      obtain ⟨g8, hf⟩ := oG_go hf
      cases hf
      exact xret_i (ty := .boolean) F hr hlocks hS (xnb_ok g8).1 rfl hW (Nat.le_of_ble_eq_true rfl) (Nat.le_of_ble_eq_true rfl) dX1_goOn_24
abbrev rX1_isBeforeCutting : Room := { frames := 0, cells := 0, slots := 0, locals := 0 }
abbrev zX1_isBeforeCutting : List Cond := Cond.code yX1_isBeforeCutting cX1_isBeforeCutting 1 (some .boolean) :: xB
theorem xd_X1_isBeforeCutting : yX1_isBeforeCutting.cls = RX1 ∧ yX1_isBeforeCutting.cls ≠ "java/lang/invoke/MethodHandle" ∧ yX1_isBeforeCutting.cls ≠ "java/lang/invoke/VarHandle" ∧ (parseMethodDescriptor yX1_isBeforeCutting.desc).map (fun d => d.parameters.length) = some 0 := by decide +kernel
def fX1_isBeforeCutting (nS : Nat) (nT : Nat) (k0 : Nat) (j0 : Nat) (sc : xSC) : Option Int32 := (if (sc.1 k0 j0 0) = 99 then some 1 else (if (sc.1 k0 j0 0) = 102 then some 1 else some 0))
set_option maxHeartbeats 4000000 in
set_option maxRecDepth 100000 in
theorem kX1_isBeforeCutting (l : Launch) (hl0 : l.stackTraces = false) (G : xG) (sh : xSh) (sc : xSC) (sr : xSR) (sl : xSL) (k0 : Nat) (j0 : Nat) (hk0 : xMv k0) (hm0 : (k0, j0) ∈ xix sh) (r : Int32) (hf : fX1_isBeforeCutting sh.2.1 sh.2.2 k0 j0 sc = some r) : xMet l yX1_isBeforeCutting zX1_isBeforeCutting rX1_isBeforeCutting G sh sc sr sl ([.ref (sh.1 k0 j0)] : List Value) (xvI (.inr r)) (xWd G sh sc sr sl) := by
  refine xMet_of (cc := cX1_isBeforeCutting) (maxL := 1) (ret := (some .boolean)) (by decide) (Nat.le_of_ble_eq_true rfl) ?_
  intro p e s m below meth c F hT hW hr hlocks htab ls hl
  have F : CallFix p m c cX1_isBeforeCutting 1 s ([.ref (sh.1 k0 j0)] : List Value).toArray xB RX1 := F
  have hx := F.1
  have hb := F.2.1
  have hS : va_S (xA G) s.heap s.heap [] := va_S.rf
  have hl : lv_has ls 1 [(0, .ref (sh.1 k0 j0))] := hl
  unfold fX1_isBeforeCutting at hf
  refine lv_aload_n hx hb dX1_isBeforeCutting_0 rfl (lv_at hl 0 rfl) ?_
  refine xget F hT hW xuX1 (hm0) (xce_mv hk0) rfl 0 (by decide) xw_53 rfl rfl dX1_isBeforeCutting_1 ?_
  refine lv_bipush (v := 99) hx hb dX1_isBeforeCutting_4 (by decide) ?_
  refine lv_icmp_eq (tgt := 18) hx hb dX1_isBeforeCutting_6 (by decide) (fun c1 => ?_) (fun c1 => ?_)
  · replace hf := if_t c1 hf
    refine lv_iconst (v := 1) hx hb dX1_isBeforeCutting_18 (by decide) ?_
    refine lv_goto (tgt := 23) hx hb dX1_isBeforeCutting_19 (by decide) ?_
    cases hf
    exact xret_i (ty := .boolean) F hr hlocks hS (by decide) rfl hW (Nat.le_of_ble_eq_true rfl) (Nat.le_of_ble_eq_true rfl) dX1_isBeforeCutting_23
  · replace hf := if_f c1 hf
    refine lv_aload_n hx hb dX1_isBeforeCutting_9 rfl (lv_at hl 0 rfl) ?_
    refine xget F hT hW xuX1 (hm0) (xce_mv hk0) rfl 0 (by decide) xw_53 rfl rfl dX1_isBeforeCutting_10 ?_
    refine lv_bipush (v := 102) hx hb dX1_isBeforeCutting_13 (by decide) ?_
    refine lv_icmp_ne (tgt := 22) hx hb dX1_isBeforeCutting_15 (by decide) (fun c2 => ?_) (fun c2 => ?_)
    · replace hf := if_f c2 hf
      refine lv_iconst (v := 0) hx hb dX1_isBeforeCutting_22 (by decide) ?_
      cases hf
      exact xret_i (ty := .boolean) F hr hlocks hS (by decide) rfl hW (Nat.le_of_ble_eq_true rfl) (Nat.le_of_ble_eq_true rfl) dX1_isBeforeCutting_23
    · replace hf := if_t c2 hf
      refine lv_iconst (v := 1) hx hb dX1_isBeforeCutting_18 (by decide) ?_
      refine lv_goto (tgt := 23) hx hb dX1_isBeforeCutting_19 (by decide) ?_
      cases hf
      exact xret_i (ty := .boolean) F hr hlocks hS (by decide) rfl hW (Nat.le_of_ble_eq_true rfl) (Nat.le_of_ble_eq_true rfl) dX1_isBeforeCutting_23
abbrev rX1_isCleaning : Room := { frames := 0, cells := 0, slots := 0, locals := 0 }
abbrev zX1_isCleaning : List Cond := Cond.code yX1_isCleaning cX1_isCleaning 2 (some .boolean) :: xB
theorem xd_X1_isCleaning : yX1_isCleaning.cls = RX1 ∧ yX1_isCleaning.cls ≠ "java/lang/invoke/MethodHandle" ∧ yX1_isCleaning.cls ≠ "java/lang/invoke/VarHandle" ∧ (parseMethodDescriptor yX1_isCleaning.desc).map (fun d => d.parameters.length) = some 1 := by decide +kernel
def fX1_isCleaning (nS : Nat) (nT : Nat) (k0 : Nat) (j0 : Nat) (a1 : Int32) (sc : xSC) : Option Int32 := (if (sc.1 k0 j0 0) = 100 then (if (sc.1 k0 j0 1) = a1 then some 1 else some 0) else some 0)
set_option maxHeartbeats 4000000 in
set_option maxRecDepth 100000 in
theorem kX1_isCleaning (l : Launch) (hl0 : l.stackTraces = false) (G : xG) (sh : xSh) (sc : xSC) (sr : xSR) (sl : xSL) (k0 : Nat) (j0 : Nat) (a1 : Int32) (hk0 : xMv k0) (hm0 : (k0, j0) ∈ xix sh) (r : Int32) (hf : fX1_isCleaning sh.2.1 sh.2.2 k0 j0 a1 sc = some r) : xMet l yX1_isCleaning zX1_isCleaning rX1_isCleaning G sh sc sr sl ([.ref (sh.1 k0 j0), .int a1] : List Value) (xvI (.inr r)) (xWd G sh sc sr sl) := by
  refine xMet_of (cc := cX1_isCleaning) (maxL := 2) (ret := (some .boolean)) (by decide) (Nat.le_of_ble_eq_true rfl) ?_
  intro p e s m below meth c F hT hW hr hlocks htab ls hl
  have F : CallFix p m c cX1_isCleaning 2 s ([.ref (sh.1 k0 j0), .int a1] : List Value).toArray xB RX1 := F
  have hx := F.1
  have hb := F.2.1
  have hS : va_S (xA G) s.heap s.heap [] := va_S.rf
  have hl : lv_has ls 2 [(0, .ref (sh.1 k0 j0)), (1, .int a1)] := hl
  unfold fX1_isCleaning at hf
  refine lv_aload_n hx hb dX1_isCleaning_0 rfl (lv_at hl 0 rfl) ?_
  refine xget F hT hW xuX1 (hm0) (xce_mv hk0) rfl 0 (by decide) xw_53 rfl rfl dX1_isCleaning_1 ?_
  refine lv_bipush (v := 100) hx hb dX1_isCleaning_4 (by decide) ?_
  refine lv_icmp_ne (tgt := 21) hx hb dX1_isCleaning_6 (by decide) (fun c1 => ?_) (fun c1 => ?_)
  · replace hf := if_f c1 hf
    refine lv_iconst (v := 0) hx hb dX1_isCleaning_21 (by decide) ?_
    cases hf
    exact xret_i (ty := .boolean) F hr hlocks hS (by decide) rfl hW (Nat.le_of_ble_eq_true rfl) (Nat.le_of_ble_eq_true rfl) dX1_isCleaning_22
  · replace hf := if_t c1 hf
    refine lv_aload_n hx hb dX1_isCleaning_9 rfl (lv_at hl 0 rfl) ?_
    refine xget F hT hW xuX1 (hm0) (xce_mv hk0) rfl 1 (by decide) xw_55 rfl rfl dX1_isCleaning_10 ?_
    refine lv_iload_n hx hb dX1_isCleaning_13 rfl (lv_at hl 1 rfl) ?_
    refine lv_icmp_ne (tgt := 21) hx hb dX1_isCleaning_14 (by decide) (fun c2 => ?_) (fun c2 => ?_)
    · replace hf := if_f c2 hf
      refine lv_iconst (v := 0) hx hb dX1_isCleaning_21 (by decide) ?_
      cases hf
      exact xret_i (ty := .boolean) F hr hlocks hS (by decide) rfl hW (Nat.le_of_ble_eq_true rfl) (Nat.le_of_ble_eq_true rfl) dX1_isCleaning_22
    · replace hf := if_t c2 hf
      refine lv_iconst (v := 1) hx hb dX1_isCleaning_17 (by decide) ?_
      refine lv_goto (tgt := 22) hx hb dX1_isCleaning_18 (by decide) ?_
      cases hf
      exact xret_i (ty := .boolean) F hr hlocks hS (by decide) rfl hW (Nat.le_of_ble_eq_true rfl) (Nat.le_of_ble_eq_true rfl) dX1_isCleaning_22
abbrev rX1_isUnderWay : Room := { frames := 0, cells := 0, slots := 0, locals := 0 }
abbrev zX1_isUnderWay : List Cond := Cond.code yX1_isUnderWay cX1_isUnderWay 1 (some .boolean) :: xB
theorem xd_X1_isUnderWay : yX1_isUnderWay.cls = RX1 ∧ yX1_isUnderWay.cls ≠ "java/lang/invoke/MethodHandle" ∧ yX1_isUnderWay.cls ≠ "java/lang/invoke/VarHandle" ∧ (parseMethodDescriptor yX1_isUnderWay.desc).map (fun d => d.parameters.length) = some 0 := by decide +kernel
def fX1_isUnderWay (nS : Nat) (nT : Nat) (k0 : Nat) (j0 : Nat) (sc : xSC) : Option Int32 := (if (sc.1 k0 j0 0) = 45 then some 0 else some 1)
set_option maxHeartbeats 4000000 in
set_option maxRecDepth 100000 in
theorem kX1_isUnderWay (l : Launch) (hl0 : l.stackTraces = false) (G : xG) (sh : xSh) (sc : xSC) (sr : xSR) (sl : xSL) (k0 : Nat) (j0 : Nat) (hk0 : xMv k0) (hm0 : (k0, j0) ∈ xix sh) (r : Int32) (hf : fX1_isUnderWay sh.2.1 sh.2.2 k0 j0 sc = some r) : xMet l yX1_isUnderWay zX1_isUnderWay rX1_isUnderWay G sh sc sr sl ([.ref (sh.1 k0 j0)] : List Value) (xvI (.inr r)) (xWd G sh sc sr sl) := by
  refine xMet_of (cc := cX1_isUnderWay) (maxL := 1) (ret := (some .boolean)) (by decide) (Nat.le_of_ble_eq_true rfl) ?_
  intro p e s m below meth c F hT hW hr hlocks htab ls hl
  have F : CallFix p m c cX1_isUnderWay 1 s ([.ref (sh.1 k0 j0)] : List Value).toArray xB RX1 := F
  have hx := F.1
  have hb := F.2.1
  have hS : va_S (xA G) s.heap s.heap [] := va_S.rf
  have hl : lv_has ls 1 [(0, .ref (sh.1 k0 j0))] := hl
  unfold fX1_isUnderWay at hf
  refine lv_aload_n hx hb dX1_isUnderWay_0 rfl (lv_at hl 0 rfl) ?_
  refine xget F hT hW xuX1 (hm0) (xce_mv hk0) rfl 0 (by decide) xw_53 rfl rfl dX1_isUnderWay_1 ?_
  refine lv_bipush (v := 45) hx hb dX1_isUnderWay_4 (by decide) ?_
  refine lv_icmp_eq (tgt := 13) hx hb dX1_isUnderWay_6 (by decide) (fun c1 => ?_) (fun c1 => ?_)
  · replace hf := if_t c1 hf
    refine lv_iconst (v := 0) hx hb dX1_isUnderWay_13 (by decide) ?_
    cases hf
    exact xret_i (ty := .boolean) F hr hlocks hS (by decide) rfl hW (Nat.le_of_ble_eq_true rfl) (Nat.le_of_ble_eq_true rfl) dX1_isUnderWay_14
  · replace hf := if_f c1 hf
    refine lv_iconst (v := 1) hx hb dX1_isUnderWay_9 (by decide) ?_
    refine lv_goto (tgt := 14) hx hb dX1_isUnderWay_10 (by decide) ?_
    cases hf
    exact xret_i (ty := .boolean) F hr hlocks hS (by decide) rfl hW (Nat.le_of_ble_eq_true rfl) (Nat.le_of_ble_eq_true rfl) dX1_isUnderWay_14
abbrev rX1_turnRound : Room := { frames := 1, cells := 0, slots := 0, locals := 20 }
abbrev zX1_turnRound : List Cond := Cond.code yX1_turnRound cX1_turnRound 2 none :: xB
theorem xd_X1_turnRound : yX1_turnRound.cls = RX1 ∧ yX1_turnRound.cls ≠ "java/lang/invoke/MethodHandle" ∧ yX1_turnRound.cls ≠ "java/lang/invoke/VarHandle" ∧ (parseMethodDescriptor yX1_turnRound.desc).map (fun d => d.parameters.length) = some 0 := by decide +kernel
def fX1_turnRound (nS : Nat) (nT : Nat) (k0 : Nat) (j0 : Nat) (sc : xSC) : Option (Unit × xSC) := oP (fX1_cleanAnew nS nT k0 j0 (xuC (xuC sc.1 k0 j0 2 (sc.1 k0 j0 1), sc.2).1 k0 j0 1 (sc.1 k0 j0 2), (xuC sc.1 k0 j0 2 (sc.1 k0 j0 1), sc.2).2)) (fun v1 s2 => some ((), s2))
set_option maxHeartbeats 4000000 in
set_option maxRecDepth 100000 in
theorem kX1_turnRound (l : Launch) (hl0 : l.stackTraces = false) (G : xG) (sh : xSh) (sc : xSC) (sr : xSR) (sl : xSL) (k0 : Nat) (j0 : Nat) (hk0 : xMv k0) (hm0 : (k0, j0) ∈ xix sh) (r : (Unit × xSC)) (hf : fX1_turnRound sh.2.1 sh.2.2 k0 j0 sc = some r) : xMet l yX1_turnRound zX1_turnRound rX1_turnRound G sh sc sr sl ([.ref (sh.1 k0 j0)] : List Value) (xvU (.inr r.1)) (xWd G sh r.2 sr sl) := by
  refine xMet_of (cc := cX1_turnRound) (maxL := 2) (ret := none) (by decide) (Nat.le_of_ble_eq_true rfl) ?_
  intro p e s m below meth c F hT hW hr hlocks htab ls hl
  have F : CallFix p m c cX1_turnRound 2 s ([.ref (sh.1 k0 j0)] : List Value).toArray xB RX1 := F
  have hx := F.1
  have hb := F.2.1
  have hS : va_S (xA G) s.heap s.heap [] := va_S.rf
  have hl : lv_has ls 2 [(0, .ref (sh.1 k0 j0))] := hl
  unfold fX1_turnRound at hf
  refine lv_aload_n hx hb dX1_turnRound_0 rfl (lv_at hl 0 rfl) ?_
  refine xget F hT hW xuX1 (hm0) (xce_mv hk0) rfl 2 (by decide) xw_58 rfl rfl dX1_turnRound_1 ?_
  refine lv_istore_n (lv' := [(1, .int (sc.1 k0 j0 2)), (0, .ref (sh.1 k0 j0))]) hx hb dX1_turnRound_4 rfl hl (by decide) rfl (fun ls hl => ?_)
  refine lv_aload_n hx hb dX1_turnRound_5 rfl (lv_at hl 1 rfl) ?_
  refine lv_aload_n hx hb dX1_turnRound_6 rfl (lv_at hl 1 rfl) ?_
  refine xget F hT hW xuX1 (hm0) (xce_mv hk0) rfl 1 (by decide) xw_55 rfl rfl dX1_turnRound_7 ?_
  refine xput (ty := .int) F hT hW hS xuX1 tyX1 tyX1_ok nmX1 (hm0) (xce_mv hk0) rfl 2 (by decide) xw_58 rfl rfl rfl rfl rfl (Nat.le_of_ble_eq_true rfl) (xup_mv_2 hk0) dX1_turnRound_10 (fun H locs hW hS => ?_)
  refine lv_aload_n hx hb dX1_turnRound_13 rfl (lv_at hl 1 rfl) ?_
  refine lv_iload_n hx hb dX1_turnRound_14 rfl (lv_at hl 0 rfl) ?_
  refine xput (ty := .int) F hT hW hS xuX1 tyX1 tyX1_ok nmX1 (hm0) (xce_mv hk0) rfl 1 (by decide) xw_55 rfl rfl rfl rfl rfl (Nat.le_of_ble_eq_true rfl) (xup_mv_1 hk0) dX1_turnRound_15 (fun H locs hW hS => ?_)
  refine lv_aload_n hx hb dX1_turnRound_18 rfl (lv_at hl 1 rfl) ?_
  obtain ⟨v1, s2, hc3, hf⟩ := oP_go hf
  refine xcallV (n := 0) F hT hW hS (hm0) (xce_mv hk0) rfl (kX1_cleanAnew l hl0 G sh (xuC (xuC sc.1 k0 j0 2 (sc.1 k0 j0 1), sc.2).1 k0 j0 1 (sc.1 k0 j0 2), (xuC sc.1 k0 j0 2 (sc.1 k0 j0 1), sc.2).2) sr sl k0 j0 hk0 hm0 _ hc3) (xgV xw_586 xw_587 xw_588 xw_3 xw_589) rfl xd_X1_cleanAnew ⟨Nat.le_of_ble_eq_true rfl, Nat.le_of_ble_eq_true rfl⟩ rfl hl.1 rfl (Nat.le_of_ble_eq_true rfl) dX1_turnRound_19 ⟨Nat.le_of_ble_eq_true rfl, Nat.le_of_ble_eq_true rfl⟩ (fun v9 H locs hres hW hS => ?_) (fun E9 H locs q9 ce9 hres => by cases hres)
  cases hres
  refine W.eq (g2 := F0 m 22 ls ([])) rfl ?_
  cases hf
  exact xret_v F hr hlocks hS rfl hW (Nat.le_of_ble_eq_true rfl) (Nat.le_of_ble_eq_true rfl) dX1_turnRound_22
abbrev rX3_clearTrial : Room := { frames := 1, cells := 0, slots := 0, locals := 20 }
abbrev zX3_clearTrial : List Cond := Cond.code yX3_clearTrial cX3_clearTrial 1 none :: xB
theorem xd_X3_clearTrial : yX3_clearTrial.cls = RX3 ∧ yX3_clearTrial.cls ≠ "java/lang/invoke/MethodHandle" ∧ yX3_clearTrial.cls ≠ "java/lang/invoke/VarHandle" ∧ (parseMethodDescriptor yX3_clearTrial.desc).map (fun d => d.parameters.length) = some 0 := by decide +kernel
def fX3_clearTrial (nS : Nat) (nT : Nat) (j0 : Nat) (sc : xSC) : Option (Unit × xSC) := oP (fX0_clear nS nT 7 j0 (xuC sc.1 4 j0 4 0, sc.2)) (fun v1 s2 => some ((), s2))
set_option maxHeartbeats 4000000 in
set_option maxRecDepth 100000 in
theorem kX3_clearTrial (l : Launch) (hl0 : l.stackTraces = false) (G : xG) (sh : xSh) (sc : xSC) (sr : xSR) (sl : xSL) (j0 : Nat) (hj0 : j0 < sh.2.1) (r : (Unit × xSC)) (hf : fX3_clearTrial sh.2.1 sh.2.2 j0 sc = some r) : xMet l yX3_clearTrial zX3_clearTrial rX3_clearTrial G sh sc sr sl ([.ref (sh.1 4 j0)] : List Value) (xvU (.inr r.1)) (xWd G sh r.2 sr sl) := by
  refine xMet_of (cc := cX3_clearTrial) (maxL := 1) (ret := none) (by decide) (Nat.le_of_ble_eq_true rfl) ?_
  intro p e s m below meth c F hT hW hr hlocks htab ls hl
  have F : CallFix p m c cX3_clearTrial 1 s ([.ref (sh.1 4 j0)] : List Value).toArray xB RX3 := F
  have hx := F.1
  have hb := F.2.1
  have hS : va_S (xA G) s.heap s.heap [] := va_S.rf
  have hl : lv_has ls 1 [(0, .ref (sh.1 4 j0))] := hl
  unfold fX3_clearTrial at hf
  refine lv_aload_n hx hb dX3_clearTrial_0 rfl (lv_at hl 0 rfl) ?_
  refine lv_iconst (v := 0) hx hb dX3_clearTrial_1 (by decide) ?_
  refine xput (ty := .int) F hT hW hS xuX3 tyX3 tyX3_ok nmX3 (xm_S hj0 (by decide)) xce_4 rfl 4 (by decide) xw_311 rfl rfl rfl rfl rfl (Nat.le_of_ble_eq_true rfl) xup_4_4 dX3_clearTrial_2 (fun H locs hW hS => ?_)
  refine lv_aload_n hx hb dX3_clearTrial_5 rfl (lv_at hl 0 rfl) ?_
  refine xget F hT hW xuX3 (xm_S hj0 (by decide)) xce_4 rfl 3 (by decide) xw_310 rfl rfl dX3_clearTrial_6 ?_
  obtain ⟨v1, s2, hc3, hf⟩ := oP_go hf
  refine xcallV (n := 0) F hT hW hS (xm_S hj0 (by decide)) (xce_am (by decide)) rfl (kX0_clear l hl0 G sh (xuC sc.1 4 j0 4 0, sc.2) sr sl 7 j0 (by decide) (xm_S hj0 (by decide)) _ hc3) (xgV xw_131 xw_132 xw_133 xw_11 xw_134) rfl xd_X0_clear ⟨Nat.le_of_ble_eq_true rfl, Nat.le_of_ble_eq_true rfl⟩ rfl hl.1 rfl (Nat.le_of_ble_eq_true rfl) dX3_clearTrial_9 ⟨Nat.le_of_ble_eq_true rfl, Nat.le_of_ble_eq_true rfl⟩ (fun v9 H locs hres hW hS => ?_) (fun E9 H locs q9 ce9 hres => by cases hres)
  cases hres
  refine W.eq (g2 := F0 m 12 ls ([])) rfl ?_
  cases hf
  exact xret_v F hr hlocks hS rfl hW (Nat.le_of_ble_eq_true rfl) (Nat.le_of_ble_eq_true rfl) dX3_clearTrial_12
abbrev rX2_clearTrials : Room := { frames := 2, cells := 0, slots := 0, locals := 40 }
abbrev zX2_clearTrials : List Cond := Cond.code yX2_clearTrials cX2_clearTrials 5 none :: xB
theorem xd_X2_clearTrials : yX2_clearTrials.cls = RX2 ∧ yX2_clearTrials.cls ≠ "java/lang/invoke/MethodHandle" ∧ yX2_clearTrials.cls ≠ "java/lang/invoke/VarHandle" ∧ (parseMethodDescriptor yX2_clearTrials.desc).map (fun d => d.parameters.length) = some 1 := by decide +kernel
def fX2_clearTrials_K1 (x3L1 : Int32) (scL1 : xSC) : Option (Unit × xSC) := some ((), scL1)
def fX2_clearTrials_L1 (nS : Nat) (nT : Nat) (k_L1 : Int32 → xSC → Option (Unit × xSC)) : Nat → Int32 → xSC → Option (Unit × xSC)
  | 0, _, _ => none
  | n + 1, x3L1, scL1 => (if 4 ≤ x3L1 then k_L1 x3L1 scL1 else oG (xinb x3L1 4) (oN (xel nS x3L1) ((fX2_clearTrials_L1 nS nT k_L1 n) (x3L1 + 1) scL1) (fun jq2 => oP (fX3_clearTrial nS nT jq2 scL1) (fun v6 s7 => (fX2_clearTrials_L1 nS nT k_L1 n) (x3L1 + 1) s7))))
def fX2_clearTrials (nS : Nat) (nT : Nat) (sc : xSC) : Option (Unit × xSC) := fX2_clearTrials_L1 nS nT (fX2_clearTrials_K1) 64 0 sc
set_option maxHeartbeats 4000000 in
set_option maxRecDepth 100000 in
theorem kX2_clearTrials (l : Launch) (hl0 : l.stackTraces = false) (G : xG) (sh : xSh) (sc : xSC) (sr : xSR) (sl : xSL) (r : (Unit × xSC)) (hf : fX2_clearTrials sh.2.1 sh.2.2 sc = some r) : xMet l yX2_clearTrials zX2_clearTrials rX2_clearTrials G sh sc sr sl ([.ref (sh.1 1 0)] : List Value) (xvU (.inr r.1)) (xWd G sh r.2 sr sl) := by
  refine xMet_of (cc := cX2_clearTrials) (maxL := 5) (ret := none) (by decide) (Nat.le_of_ble_eq_true rfl) ?_
  intro p e s m below meth c F hT hW hr hlocks htab ls hl
  have F : CallFix p m c cX2_clearTrials 5 s ([.ref (sh.1 1 0)] : List Value).toArray xB RX2 := F
  have hx := F.1
  have hb := F.2.1
  have hS : va_S (xA G) s.heap s.heap [] := va_S.rf
  have hl : lv_has ls 5 [(0, .ref (sh.1 1 0))] := hl
  unfold fX2_clearTrials at hf
  refine lv_aload_n hx hb dX2_clearTrials_0 rfl (lv_at hl 0 rfl) ?_
  refine lv_astore_n (lv' := [(1, .ref (sh.1 1 0)), (0, .ref (sh.1 1 0))]) hx hb dX2_clearTrials_1 rfl hl (by decide) rfl (fun ls hl => ?_)
  refine lv_aload_n hx hb dX2_clearTrials_2 rfl (lv_at hl 0 rfl) ?_
  refine xalenS F hT hW dX2_clearTrials_3 ?_
  refine lv_istore_n (lv' := [(2, .int 4), (1, .ref (sh.1 1 0)), (0, .ref (sh.1 1 0))]) hx hb dX2_clearTrials_4 rfl hl (by decide) rfl (fun ls hl => ?_)
  refine lv_iconst (v := 0) hx hb dX2_clearTrials_5 (by decide) ?_
  refine lv_istore_n (lv' := [(3, .int 0), (2, .int 4), (1, .ref (sh.1 1 0)), (0, .ref (sh.1 1 0))]) hx hb dX2_clearTrials_6 rfl hl (by decide) rfl (fun ls hl => ?_)
  have hx_L1 : ∀ (x3L1 : Int32) (scL1 : xSC), fX2_clearTrials_K1 x3L1 scL1 = some r → ∀ (H : Heap) (locs : List Loc), xWd G sh scL1 sr sl H → va_S (xA G) s.heap H locs → ∀ ls : Array Slot, lv_has ls 5 [] → W p l e rX2_clearTrials s m ([.ref (sh.1 1 0)] : List Value).toArray below meth c H locs 0 0 (xQ below G (xvU (.inr r.1)) (xWd G sh r.2 sr sl) ([.ref (sh.1 1 0)] : List Value).toArray s 0 0) (F0 m 33 ls []) := by
    intro x3L1 scL1 hf H locs hW hS ls hl
    unfold fX2_clearTrials_K1 at hf
    cases hf
    exact xret_v F hr hlocks hS rfl hW (Nat.le_of_ble_eq_true rfl) (Nat.le_of_ble_eq_true rfl) dX2_clearTrials_33
  have hL_L1 : ∀ (n9 : Nat) (x3L1 : Int32) (scL1 : xSC), fX2_clearTrials_L1 sh.2.1 sh.2.2 (fX2_clearTrials_K1) n9 x3L1 scL1 = some r → ∀ (H : Heap) (locs : List Loc), xWd G sh scL1 sr sl H → va_S (xA G) s.heap H locs → ∀ ls : Array Slot, lv_has ls 5 [(1, .ref (sh.1 1 0)), (2, .int 4), (3, .int x3L1)] → W p l e rX2_clearTrials s m ([.ref (sh.1 1 0)] : List Value).toArray below meth c H locs 0 0 (xQ below G (xvU (.inr r.1)) (xWd G sh r.2 sr sl) ([.ref (sh.1 1 0)] : List Value).toArray s 0 0) (F0 m 7 ls []) := by
    intro n_L1
    induction n_L1 with
    | zero =>
      intro x3L1 scL1 hf
      unfold fX2_clearTrials_L1 at hf
      cases hf
    | succ n_L1 ih_L1 =>
      intro x3L1 scL1 hf H locs hW hS ls hl
      unfold fX2_clearTrials_L1 at hf
      refine lv_iload_n hx hb dX2_clearTrials_7 rfl (lv_at hl 2 rfl) ?_
      refine lv_iload_n hx hb dX2_clearTrials_8 rfl (lv_at hl 1 rfl) ?_
      refine lv_icmp_ge (tgt := 33) hx hb dX2_clearTrials_9 (by decide) (fun c1 => ?_) (fun c1 => ?_)
      · replace hf := if_t c1 hf
        exact hx_L1 _ _ hf _ _ hW hS ls (lv_sub hl [] rfl)
      · replace hf := if_f c1 hf
        refine lv_aload_n hx hb dX2_clearTrials_12 rfl (lv_at hl 0 rfl) ?_
        refine lv_iload_n hx hb dX2_clearTrials_13 rfl (lv_at hl 2 rfl) ?_
        obtain ⟨g4, hf⟩ := oG_go hf
        refine xaldS F hT hW (xinb_ok g4) dX2_clearTrials_14 ?_
        rcases o5 : xel sh.2.1 x3L1 with _ | jq2
        · replace hf := oN_0 o5 hf
          refine W.eq (g2 := F0 m 15 ls (.null :: [])) rfl ?_
          refine lv_astoreN (lv' := [(4, .null), (1, .ref (sh.1 1 0)), (2, .int 4), (3, .int x3L1)]) hx hb dX2_clearTrials_15 hl (by decide) rfl (fun ls hl => ?_)
          refine lv_aloadN hx hb dX2_clearTrials_17 (lv_at hl 0 rfl) ?_
          refine lv_ifnullN (tgt := 27) hx hb dX2_clearTrials_19 (by decide) ?_
          refine lv_iinc (v := (x3L1 + 1)) (lv' := [(3, .int (x3L1 + 1)), (4, .null), (1, .ref (sh.1 1 0)), (2, .int 4)]) hx hb dX2_clearTrials_27 hl (k := 3) rfl rfl (by decide) rfl (fun ls hl => ?_)
          refine lv_goto (tgt := 7) hx hb dX2_clearTrials_30 (by decide) ?_
          exact ih_L1 _ _ hf _ _ hW hS ls (lv_sub hl [2, 3, 0] rfl)
        · replace hf := oN_1 o5 hf
          have h3 : jq2 < sh.2.1 := xel_lt o5
          refine W.eq (g2 := F0 m 15 ls (.ref (sh.1 4 jq2) :: [])) rfl ?_
          refine lv_astore (lv' := [(4, .ref (sh.1 4 jq2)), (1, .ref (sh.1 1 0)), (2, .int 4), (3, .int x3L1)]) hx hb dX2_clearTrials_15 hl (by decide) rfl (fun ls hl => ?_)
          refine lv_aload hx hb dX2_clearTrials_17 (lv_at hl 0 rfl) ?_
          refine lv_ifnull hx hb dX2_clearTrials_19 ?_
          refine lv_aload hx hb dX2_clearTrials_22 (lv_at hl 0 rfl) ?_
          obtain ⟨v6, s7, hc8, hf⟩ := oP_go hf
          refine xcallV (n := 0) F hT hW hS (xm_S h3 (by decide)) xce_4 rfl (kX3_clearTrial l hl0 G sh scL1 sr sl jq2 h3 _ hc8) (xgV xw_127 xw_128 xw_129 xw_10 xw_130) rfl xd_X3_clearTrial ⟨Nat.le_of_ble_eq_true rfl, Nat.le_of_ble_eq_true rfl⟩ rfl hl.1 rfl (Nat.le_of_ble_eq_true rfl) dX2_clearTrials_24 ⟨Nat.le_of_ble_eq_true rfl, Nat.le_of_ble_eq_true rfl⟩ (fun v9 H locs hres hW hS => ?_) (fun E9 H locs q9 ce9 hres => by cases hres)
          cases hres
          refine W.eq (g2 := F0 m 27 ls ([])) rfl ?_
          refine lv_iinc (v := (x3L1 + 1)) (lv' := [(3, .int (x3L1 + 1)), (4, .ref (sh.1 4 jq2)), (1, .ref (sh.1 1 0)), (2, .int 4)]) hx hb dX2_clearTrials_27 hl (k := 3) rfl rfl (by decide) rfl (fun ls hl => ?_)
          refine lv_goto (tgt := 7) hx hb dX2_clearTrials_30 (by decide) ?_
          exact ih_L1 _ _ hf _ _ hW hS ls (lv_sub hl [2, 3, 0] rfl)
  exact hL_L1 _ _ _ hf _ _ hW hS ls (lv_sub hl [2, 1, 0] rfl)
abbrev rX2_noteSound : Room := { frames := 1, cells := 0, slots := 0, locals := 24 }
abbrev zX2_noteSound : List Cond := Cond.code yX2_noteSound cX2_noteSound 2 none :: xB
theorem xd_X2_noteSound : yX2_noteSound.cls = RX2 ∧ yX2_noteSound.cls ≠ "java/lang/invoke/MethodHandle" ∧ yX2_noteSound.cls ≠ "java/lang/invoke/VarHandle" ∧ (parseMethodDescriptor yX2_noteSound.desc).map (fun d => d.parameters.length) = some 1 := by decide +kernel
def fX2_noteSound (nS : Nat) (nT : Nat) (a1 : Int32) (sc : xSC) : Option (Unit × xSC) := some ((), (xuC (xuC sc.1 3 0 0 ((sc.1 3 0 0) + 1), sc.2).1 3 0 1 (if a1 < ((xuC sc.1 3 0 0 ((sc.1 3 0 0) + 1), sc.2).1 3 0 1) then a1 else ((xuC sc.1 3 0 0 ((sc.1 3 0 0) + 1), sc.2).1 3 0 1)), (xuC sc.1 3 0 0 ((sc.1 3 0 0) + 1), sc.2).2))
set_option maxHeartbeats 4000000 in
set_option maxRecDepth 100000 in
theorem kX2_noteSound (l : Launch) (hl0 : l.stackTraces = false) (G : xG) (sh : xSh) (sc : xSC) (sr : xSR) (sl : xSL) (a1 : Int32) (r : (Unit × xSC)) (hf : fX2_noteSound sh.2.1 sh.2.2 a1 sc = some r) : xMet l yX2_noteSound zX2_noteSound rX2_noteSound G sh sc sr sl ([.ref (sh.1 3 0), .int a1] : List Value) (xvU (.inr r.1)) (xWd G sh r.2 sr sl) := by
  refine xMet_of (cc := cX2_noteSound) (maxL := 2) (ret := none) (by decide) (Nat.le_of_ble_eq_true rfl) ?_
  intro p e s m below meth c F hT hW hr hlocks htab ls hl
  have F : CallFix p m c cX2_noteSound 2 s ([.ref (sh.1 3 0), .int a1] : List Value).toArray xB RX2 := F
  have hx := F.1
  have hb := F.2.1
  have hS : va_S (xA G) s.heap s.heap [] := va_S.rf
  have hl : lv_has ls 2 [(0, .ref (sh.1 3 0)), (1, .int a1)] := hl
  unfold fX2_noteSound at hf
  refine lv_aload_n hx hb dX2_noteSound_0 rfl (lv_at hl 0 rfl) ?_
  refine lv_dup hx hb dX2_noteSound_1 rfl ?_
  refine xget F hT hW xuX2 (xm_fix (by decide)) xce_3 rfl 0 (by decide) xw_38 rfl rfl dX2_noteSound_2 ?_
  refine lv_iconst (v := 1) hx hb dX2_noteSound_5 (by decide) ?_
  refine lv_iadd hx hb dX2_noteSound_6 ?_
  refine xput (ty := .int) F hT hW hS xuX2 tyX2 tyX2_ok nmX2 (xm_fix (by decide)) xce_3 rfl 0 (by decide) xw_38 rfl rfl rfl rfl rfl (Nat.le_of_ble_eq_true rfl) xup_3_0 dX2_noteSound_7 (fun H locs hW hS => ?_)
  refine lv_aload_n hx hb dX2_noteSound_10 rfl (lv_at hl 0 rfl) ?_
  refine lv_aload_n hx hb dX2_noteSound_11 rfl (lv_at hl 0 rfl) ?_
  refine xget F hT hW xuX2 (xm_fix (by decide)) xce_3 rfl 1 (by decide) xw_40 rfl rfl dX2_noteSound_12 ?_
  refine lv_iload_n hx hb dX2_noteSound_15 rfl (lv_at hl 1 rfl) ?_
  refine va_mmin hx hb (F.2.2.1.trans hl.1.symm) F.2.2.2.1 (F.2.2.2.2 _ xw_145) (F.2.2.2.2 _ xw_146) (F.2.2.2.2 _ xw_17) (F.2.2.2.2 _ xw_147) (Nat.le_of_ble_eq_true rfl) (Nat.le_of_ble_eq_true rfl) (Nat.le_of_ble_eq_true rfl) (Nat.le_of_ble_eq_true rfl) dX2_noteSound_16 ?_
  refine xput (ty := .int) F hT hW hS xuX2 tyX2 tyX2_ok nmX2 (xm_fix (by decide)) xce_3 rfl 1 (by decide) xw_40 rfl rfl rfl rfl rfl (Nat.le_of_ble_eq_true rfl) xup_3_1 dX2_noteSound_19 (fun H locs hW hS => ?_)
  cases hf
  exact xret_v F hr hlocks hS rfl hW (Nat.le_of_ble_eq_true rfl) (Nat.le_of_ble_eq_true rfl) dX2_noteSound_22
abbrev rX2_tenantOrNull : Room := { frames := 0, cells := 0, slots := 0, locals := 0 }
abbrev zX2_tenantOrNull : List Cond := Cond.code yX2_tenantOrNull cX2_tenantOrNull 2 (some (.object "TenantPlacement$Tenant")) :: xB
theorem xd_X2_tenantOrNull : yX2_tenantOrNull.cls = RX2 ∧ yX2_tenantOrNull.cls ≠ "java/lang/invoke/MethodHandle" ∧ yX2_tenantOrNull.cls ≠ "java/lang/invoke/VarHandle" ∧ (parseMethodDescriptor yX2_tenantOrNull.desc).map (fun d => d.parameters.length) = some 2 := by decide +kernel
def fX2_tenantOrNull (nS : Nat) (nT : Nat) (a2 : Int32) (sc : xSC) : Option (Option Nat) := (if a2 < 0 then some none else (if a2 < 6 then oG (xinb a2 6) (oN (xel nT a2) (some none) (fun jq3 => some (some jq3))) else some none))
set_option maxHeartbeats 4000000 in
set_option maxRecDepth 100000 in
theorem kX2_tenantOrNull (l : Launch) (hl0 : l.stackTraces = false) (G : xG) (sh : xSh) (sc : xSC) (sr : xSR) (sl : xSL) (a2 : Int32) (r : (Option Nat)) (hf : fX2_tenantOrNull sh.2.1 sh.2.2 a2 sc = some r) : xMet l yX2_tenantOrNull zX2_tenantOrNull rX2_tenantOrNull G sh sc sr sl ([.ref (sh.1 2 0), .int a2] : List Value) (xvO sh 11 (.inr r)) (xWd G sh sc sr sl) := by
  refine xMet_of (cc := cX2_tenantOrNull) (maxL := 2) (ret := (some (.object "TenantPlacement$Tenant"))) (by decide) (Nat.le_of_ble_eq_true rfl) ?_
  intro p e s m below meth c F hT hW hr hlocks htab ls hl
  have F : CallFix p m c cX2_tenantOrNull 2 s ([.ref (sh.1 2 0), .int a2] : List Value).toArray xB RX2 := F
  have hx := F.1
  have hb := F.2.1
  have hS : va_S (xA G) s.heap s.heap [] := va_S.rf
  have hl : lv_has ls 2 [(0, .ref (sh.1 2 0)), (1, .int a2)] := hl
  unfold fX2_tenantOrNull at hf
  refine lv_iload_n hx hb dX2_tenantOrNull_0 rfl (lv_at hl 1 rfl) ?_
  refine lv_if_lt (tgt := 10) hx hb dX2_tenantOrNull_1 (by decide) (fun c1 => ?_) (fun c1 => ?_)
  · replace hf := if_t c1 hf
    refine lv_null hx hb dX2_tenantOrNull_10 ?_
    refine lv_goto (tgt := 17) hx hb dX2_tenantOrNull_11 (by decide) ?_
    cases hf
    exact xret_a F hr (Or.inl ⟨_, rfl⟩) (Or.inl rfl) hlocks hS rfl hW (Nat.le_of_ble_eq_true rfl) (Nat.le_of_ble_eq_true rfl) dX2_tenantOrNull_17
  · replace hf := if_f c1 hf
    refine lv_iload_n hx hb dX2_tenantOrNull_4 rfl (lv_at hl 1 rfl) ?_
    refine lv_aload_n hx hb dX2_tenantOrNull_5 rfl (lv_at hl 0 rfl) ?_
    refine xalenT F hT hW dX2_tenantOrNull_6 ?_
    refine lv_icmp_lt (tgt := 14) hx hb dX2_tenantOrNull_7 (by decide) (fun c2 => ?_) (fun c2 => ?_)
    · replace hf := if_t c2 hf
      refine lv_aload_n hx hb dX2_tenantOrNull_14 rfl (lv_at hl 0 rfl) ?_
      refine lv_iload_n hx hb dX2_tenantOrNull_15 rfl (lv_at hl 1 rfl) ?_
      obtain ⟨g5, hf⟩ := oG_go hf
      refine xaldT F hT hW (xinb_ok g5) dX2_tenantOrNull_16 ?_
      rcases o6 : xel sh.2.2 a2 with _ | jq3
      · replace hf := oN_0 o6 hf
        refine W.eq (g2 := F0 m 17 ls (.null :: [])) rfl ?_
        cases hf
        exact xret_a F hr (Or.inl ⟨_, rfl⟩) (Or.inl rfl) hlocks hS rfl hW (Nat.le_of_ble_eq_true rfl) (Nat.le_of_ble_eq_true rfl) dX2_tenantOrNull_17
      · replace hf := oN_1 o6 hf
        have h4 : jq3 < sh.2.2 := xel_lt o6
        refine W.eq (g2 := F0 m 17 ls (.ref (sh.1 11 jq3) :: [])) rfl ?_
        cases hf
        exact xret_a F hr (Or.inl ⟨_, rfl⟩) (Or.inr ⟨_, rfl⟩) hlocks hS rfl hW (Nat.le_of_ble_eq_true rfl) (Nat.le_of_ble_eq_true rfl) dX2_tenantOrNull_17
    · replace hf := if_f c2 hf
      refine lv_null hx hb dX2_tenantOrNull_10 ?_
      refine lv_goto (tgt := 17) hx hb dX2_tenantOrNull_11 (by decide) ?_
      cases hf
      exact xret_a F hr (Or.inl ⟨_, rfl⟩) (Or.inl rfl) hlocks hS rfl hW (Nat.le_of_ble_eq_true rfl) (Nat.le_of_ble_eq_true rfl) dX2_tenantOrNull_17
abbrev rX3_hasRoom : Room := { frames := 0, cells := 0, slots := 0, locals := 0 }
abbrev zX3_hasRoom : List Cond := Cond.code yX3_hasRoom cX3_hasRoom 4 (some .boolean) :: xB
theorem xd_X3_hasRoom : yX3_hasRoom.cls = RX3 ∧ yX3_hasRoom.cls ≠ "java/lang/invoke/MethodHandle" ∧ yX3_hasRoom.cls ≠ "java/lang/invoke/VarHandle" ∧ (parseMethodDescriptor yX3_hasRoom.desc).map (fun d => d.parameters.length) = some 3 := by decide +kernel
def fX3_hasRoom (nS : Nat) (nT : Nat) (j0 : Nat) (a1 : Int32) (a2 : Int32) (a3 : Int32) (sc : xSC) : Option Int32 := (if (sc.1 5 j0 0) < ((sc.1 6 j0 0) + a1) then some 0 else (if (sc.1 5 j0 1) < ((sc.1 6 j0 1) + a2) then some 0 else (if (sc.1 5 j0 2) < ((sc.1 6 j0 2) + a3) then some 0 else some 1)))
set_option maxHeartbeats 4000000 in
set_option maxRecDepth 100000 in
theorem kX3_hasRoom (l : Launch) (hl0 : l.stackTraces = false) (G : xG) (sh : xSh) (sc : xSC) (sr : xSR) (sl : xSL) (j0 : Nat) (a1 : Int32) (a2 : Int32) (a3 : Int32) (hj0 : j0 < sh.2.1) (r : Int32) (hf : fX3_hasRoom sh.2.1 sh.2.2 j0 a1 a2 a3 sc = some r) : xMet l yX3_hasRoom zX3_hasRoom rX3_hasRoom G sh sc sr sl ([.ref (sh.1 4 j0), .int a1, .int a2, .int a3] : List Value) (xvI (.inr r)) (xWd G sh sc sr sl) := by
  refine xMet_of (cc := cX3_hasRoom) (maxL := 4) (ret := (some .boolean)) (by decide) (Nat.le_of_ble_eq_true rfl) ?_
  intro p e s m below meth c F hT hW hr hlocks htab ls hl
  have F : CallFix p m c cX3_hasRoom 4 s ([.ref (sh.1 4 j0), .int a1, .int a2, .int a3] : List Value).toArray xB RX3 := F
  have hx := F.1
  have hb := F.2.1
  have hS : va_S (xA G) s.heap s.heap [] := va_S.rf
  have hl : lv_has ls 4 [(0, .ref (sh.1 4 j0)), (1, .int a1), (2, .int a2), (3, .int a3)] := hl
  unfold fX3_hasRoom at hf
  refine lv_aload_n hx hb dX3_hasRoom_0 rfl (lv_at hl 0 rfl) ?_
  refine xget F hT hW xuX3 (xm_S hj0 (by decide)) xce_4 rfl 1 (by decide) xw_306 rfl rfl dX3_hasRoom_1 ?_
  refine xgetN (host := "TenantPlacement") F hT hW xuX0 (xm_S hj0 (by decide)) (xce_am (by decide)) rfl 0 (by decide) (List.mem_of_getElem? (i := 31) rfl) rfl rfl dX3_hasRoom_4 ?_
  refine lv_iload_n hx hb dX3_hasRoom_7 rfl (lv_at hl 1 rfl) ?_
  refine lv_iadd hx hb dX3_hasRoom_8 ?_
  refine lv_aload_n hx hb dX3_hasRoom_9 rfl (lv_at hl 0 rfl) ?_
  refine xget F hT hW xuX3 (xm_S hj0 (by decide)) xce_4 rfl 0 (by decide) xw_304 rfl rfl dX3_hasRoom_10 ?_
  refine xgetN (host := "TenantPlacement") F hT hW xuX0 (xm_S hj0 (by decide)) (xce_am (by decide)) rfl 0 (by decide) (List.mem_of_getElem? (i := 31) rfl) rfl rfl dX3_hasRoom_13 ?_
  refine lv_icmp_gt (tgt := 61) hx hb dX3_hasRoom_16 (by decide) (fun c1 => ?_) (fun c1 => ?_)
  · replace hf := if_t c1 hf
    refine lv_iconst (v := 0) hx hb dX3_hasRoom_61 (by decide) ?_
    cases hf
    exact xret_i (ty := .boolean) F hr hlocks hS (by decide) rfl hW (Nat.le_of_ble_eq_true rfl) (Nat.le_of_ble_eq_true rfl) dX3_hasRoom_62
  · replace hf := if_f c1 hf
    refine lv_aload_n hx hb dX3_hasRoom_19 rfl (lv_at hl 0 rfl) ?_
    refine xget F hT hW xuX3 (xm_S hj0 (by decide)) xce_4 rfl 1 (by decide) xw_306 rfl rfl dX3_hasRoom_20 ?_
    refine xgetN (host := "TenantPlacement") F hT hW xuX0 (xm_S hj0 (by decide)) (xce_am (by decide)) rfl 1 (by decide) (List.mem_of_getElem? (i := 32) rfl) rfl rfl dX3_hasRoom_23 ?_
    refine lv_iload_n hx hb dX3_hasRoom_26 rfl (lv_at hl 2 rfl) ?_
    refine lv_iadd hx hb dX3_hasRoom_27 ?_
    refine lv_aload_n hx hb dX3_hasRoom_28 rfl (lv_at hl 0 rfl) ?_
    refine xget F hT hW xuX3 (xm_S hj0 (by decide)) xce_4 rfl 0 (by decide) xw_304 rfl rfl dX3_hasRoom_29 ?_
    refine xgetN (host := "TenantPlacement") F hT hW xuX0 (xm_S hj0 (by decide)) (xce_am (by decide)) rfl 1 (by decide) (List.mem_of_getElem? (i := 32) rfl) rfl rfl dX3_hasRoom_32 ?_
    refine lv_icmp_gt (tgt := 61) hx hb dX3_hasRoom_35 (by decide) (fun c2 => ?_) (fun c2 => ?_)
    · replace hf := if_t c2 hf
      refine lv_iconst (v := 0) hx hb dX3_hasRoom_61 (by decide) ?_
      cases hf
      exact xret_i (ty := .boolean) F hr hlocks hS (by decide) rfl hW (Nat.le_of_ble_eq_true rfl) (Nat.le_of_ble_eq_true rfl) dX3_hasRoom_62
    · replace hf := if_f c2 hf
      refine lv_aload_n hx hb dX3_hasRoom_38 rfl (lv_at hl 0 rfl) ?_
      refine xget F hT hW xuX3 (xm_S hj0 (by decide)) xce_4 rfl 1 (by decide) xw_306 rfl rfl dX3_hasRoom_39 ?_
      refine xgetN (host := "TenantPlacement") F hT hW xuX0 (xm_S hj0 (by decide)) (xce_am (by decide)) rfl 2 (by decide) (List.mem_of_getElem? (i := 33) rfl) rfl rfl dX3_hasRoom_42 ?_
      refine lv_iload_n hx hb dX3_hasRoom_45 rfl (lv_at hl 3 rfl) ?_
      refine lv_iadd hx hb dX3_hasRoom_46 ?_
      refine lv_aload_n hx hb dX3_hasRoom_47 rfl (lv_at hl 0 rfl) ?_
      refine xget F hT hW xuX3 (xm_S hj0 (by decide)) xce_4 rfl 0 (by decide) xw_304 rfl rfl dX3_hasRoom_48 ?_
      refine xgetN (host := "TenantPlacement") F hT hW xuX0 (xm_S hj0 (by decide)) (xce_am (by decide)) rfl 2 (by decide) (List.mem_of_getElem? (i := 33) rfl) rfl rfl dX3_hasRoom_51 ?_
      refine lv_icmp_gt (tgt := 61) hx hb dX3_hasRoom_54 (by decide) (fun c3 => ?_) (fun c3 => ?_)
      · replace hf := if_t c3 hf
        refine lv_iconst (v := 0) hx hb dX3_hasRoom_61 (by decide) ?_
        cases hf
        exact xret_i (ty := .boolean) F hr hlocks hS (by decide) rfl hW (Nat.le_of_ble_eq_true rfl) (Nat.le_of_ble_eq_true rfl) dX3_hasRoom_62
      · replace hf := if_f c3 hf
        refine lv_iconst (v := 1) hx hb dX3_hasRoom_57 (by decide) ?_
        refine lv_goto (tgt := 62) hx hb dX3_hasRoom_58 (by decide) ?_
        cases hf
        exact xret_i (ty := .boolean) F hr hlocks hS (by decide) rfl hW (Nat.le_of_ble_eq_true rfl) (Nat.le_of_ble_eq_true rfl) dX3_hasRoom_62
abbrev rX3_hasRoomBesidesStorage : Room := { frames := 0, cells := 0, slots := 0, locals := 0 }
abbrev zX3_hasRoomBesidesStorage : List Cond := Cond.code yX3_hasRoomBesidesStorage cX3_hasRoomBesidesStorage 2 (some .boolean) :: xB
theorem xd_X3_hasRoomBesidesStorage : yX3_hasRoomBesidesStorage.cls = RX3 ∧ yX3_hasRoomBesidesStorage.cls ≠ "java/lang/invoke/MethodHandle" ∧ yX3_hasRoomBesidesStorage.cls ≠ "java/lang/invoke/VarHandle" ∧ (parseMethodDescriptor yX3_hasRoomBesidesStorage.desc).map (fun d => d.parameters.length) = some 1 := by decide +kernel
def fX3_hasRoomBesidesStorage (nS : Nat) (nT : Nat) (j0 : Nat) (k1 : Nat) (j1 : Nat) (sc : xSC) : Option Int32 := (if (sc.1 5 j0 1) < ((sc.1 6 j0 1) + (sc.1 k1 j1 1)) then some 0 else (if (sc.1 5 j0 2) < ((sc.1 6 j0 2) + (sc.1 k1 j1 2)) then some 0 else some 1))
set_option maxHeartbeats 4000000 in
set_option maxRecDepth 100000 in
theorem kX3_hasRoomBesidesStorage (l : Launch) (hl0 : l.stackTraces = false) (G : xG) (sh : xSh) (sc : xSC) (sr : xSR) (sl : xSL) (j0 : Nat) (k1 : Nat) (j1 : Nat) (hj0 : j0 < sh.2.1) (hk1 : xAm k1) (hm1 : (k1, j1) ∈ xix sh) (r : Int32) (hf : fX3_hasRoomBesidesStorage sh.2.1 sh.2.2 j0 k1 j1 sc = some r) : xMet l yX3_hasRoomBesidesStorage zX3_hasRoomBesidesStorage rX3_hasRoomBesidesStorage G sh sc sr sl ([.ref (sh.1 4 j0), .ref (sh.1 k1 j1)] : List Value) (xvI (.inr r)) (xWd G sh sc sr sl) := by
  refine xMet_of (cc := cX3_hasRoomBesidesStorage) (maxL := 2) (ret := (some .boolean)) (by decide) (Nat.le_of_ble_eq_true rfl) ?_
  intro p e s m below meth c F hT hW hr hlocks htab ls hl
  have F : CallFix p m c cX3_hasRoomBesidesStorage 2 s ([.ref (sh.1 4 j0), .ref (sh.1 k1 j1)] : List Value).toArray xB RX3 := F
  have hx := F.1
  have hb := F.2.1
  have hS : va_S (xA G) s.heap s.heap [] := va_S.rf
  have hl : lv_has ls 2 [(0, .ref (sh.1 4 j0)), (1, .ref (sh.1 k1 j1))] := hl
  unfold fX3_hasRoomBesidesStorage at hf
  refine lv_aload_n hx hb dX3_hasRoomBesidesStorage_0 rfl (lv_at hl 0 rfl) ?_
  refine xget F hT hW xuX3 (xm_S hj0 (by decide)) xce_4 rfl 1 (by decide) xw_306 rfl rfl dX3_hasRoomBesidesStorage_1 ?_
  refine xgetN (host := "TenantPlacement") F hT hW xuX0 (xm_S hj0 (by decide)) (xce_am (by decide)) rfl 1 (by decide) (List.mem_of_getElem? (i := 32) rfl) rfl rfl dX3_hasRoomBesidesStorage_4 ?_
  refine lv_aload_n hx hb dX3_hasRoomBesidesStorage_7 rfl (lv_at hl 1 rfl) ?_
  refine xgetN (host := "TenantPlacement") F hT hW xuX0 (hm1) (xce_am hk1) rfl 1 (by decide) (List.mem_of_getElem? (i := 32) rfl) rfl rfl dX3_hasRoomBesidesStorage_8 ?_
  refine lv_iadd hx hb dX3_hasRoomBesidesStorage_11 ?_
  refine lv_aload_n hx hb dX3_hasRoomBesidesStorage_12 rfl (lv_at hl 0 rfl) ?_
  refine xget F hT hW xuX3 (xm_S hj0 (by decide)) xce_4 rfl 0 (by decide) xw_304 rfl rfl dX3_hasRoomBesidesStorage_13 ?_
  refine xgetN (host := "TenantPlacement") F hT hW xuX0 (xm_S hj0 (by decide)) (xce_am (by decide)) rfl 1 (by decide) (List.mem_of_getElem? (i := 32) rfl) rfl rfl dX3_hasRoomBesidesStorage_16 ?_
  refine lv_icmp_gt (tgt := 48) hx hb dX3_hasRoomBesidesStorage_19 (by decide) (fun c1 => ?_) (fun c1 => ?_)
  · replace hf := if_t c1 hf
    refine lv_iconst (v := 0) hx hb dX3_hasRoomBesidesStorage_48 (by decide) ?_
    cases hf
    exact xret_i (ty := .boolean) F hr hlocks hS (by decide) rfl hW (Nat.le_of_ble_eq_true rfl) (Nat.le_of_ble_eq_true rfl) dX3_hasRoomBesidesStorage_49
  · replace hf := if_f c1 hf
    refine lv_aload_n hx hb dX3_hasRoomBesidesStorage_22 rfl (lv_at hl 0 rfl) ?_
    refine xget F hT hW xuX3 (xm_S hj0 (by decide)) xce_4 rfl 1 (by decide) xw_306 rfl rfl dX3_hasRoomBesidesStorage_23 ?_
    refine xgetN (host := "TenantPlacement") F hT hW xuX0 (xm_S hj0 (by decide)) (xce_am (by decide)) rfl 2 (by decide) (List.mem_of_getElem? (i := 33) rfl) rfl rfl dX3_hasRoomBesidesStorage_26 ?_
    refine lv_aload_n hx hb dX3_hasRoomBesidesStorage_29 rfl (lv_at hl 1 rfl) ?_
    refine xgetN (host := "TenantPlacement") F hT hW xuX0 (hm1) (xce_am hk1) rfl 2 (by decide) (List.mem_of_getElem? (i := 33) rfl) rfl rfl dX3_hasRoomBesidesStorage_30 ?_
    refine lv_iadd hx hb dX3_hasRoomBesidesStorage_33 ?_
    refine lv_aload_n hx hb dX3_hasRoomBesidesStorage_34 rfl (lv_at hl 0 rfl) ?_
    refine xget F hT hW xuX3 (xm_S hj0 (by decide)) xce_4 rfl 0 (by decide) xw_304 rfl rfl dX3_hasRoomBesidesStorage_35 ?_
    refine xgetN (host := "TenantPlacement") F hT hW xuX0 (xm_S hj0 (by decide)) (xce_am (by decide)) rfl 2 (by decide) (List.mem_of_getElem? (i := 33) rfl) rfl rfl dX3_hasRoomBesidesStorage_38 ?_
    refine lv_icmp_gt (tgt := 48) hx hb dX3_hasRoomBesidesStorage_41 (by decide) (fun c2 => ?_) (fun c2 => ?_)
    · replace hf := if_t c2 hf
      refine lv_iconst (v := 0) hx hb dX3_hasRoomBesidesStorage_48 (by decide) ?_
      cases hf
      exact xret_i (ty := .boolean) F hr hlocks hS (by decide) rfl hW (Nat.le_of_ble_eq_true rfl) (Nat.le_of_ble_eq_true rfl) dX3_hasRoomBesidesStorage_49
    · replace hf := if_f c2 hf
      refine lv_iconst (v := 1) hx hb dX3_hasRoomBesidesStorage_44 (by decide) ?_
      refine lv_goto (tgt := 49) hx hb dX3_hasRoomBesidesStorage_45 (by decide) ?_
      cases hf
      exact xret_i (ty := .boolean) F hr hlocks hS (by decide) rfl hW (Nat.le_of_ble_eq_true rfl) (Nat.le_of_ble_eq_true rfl) dX3_hasRoomBesidesStorage_49
abbrev rX3_putInTrial : Room := { frames := 1, cells := 0, slots := 0, locals := 21 }
abbrev zX3_putInTrial : List Cond := Cond.code yX3_putInTrial cX3_putInTrial 3 none :: xB
theorem xd_X3_putInTrial : yX3_putInTrial.cls = RX3 ∧ yX3_putInTrial.cls ≠ "java/lang/invoke/MethodHandle" ∧ yX3_putInTrial.cls ≠ "java/lang/invoke/VarHandle" ∧ (parseMethodDescriptor yX3_putInTrial.desc).map (fun d => d.parameters.length) = some 2 := by decide +kernel
def fX3_putInTrial (nS : Nat) (nT : Nat) (j0 : Nat) (a1 : Int32) (j2 : Nat) (sc : xSC) : Option (Unit × xSC) := oP (fX0_add nS nT 7 j0 8 j2 (xuC sc.1 4 j0 4 ((sc.1 4 j0 4) ||| (1 <<< (a1 &&& 31))), sc.2)) (fun v1 s2 => some ((), s2))
set_option maxHeartbeats 4000000 in
set_option maxRecDepth 100000 in
theorem kX3_putInTrial (l : Launch) (hl0 : l.stackTraces = false) (G : xG) (sh : xSh) (sc : xSC) (sr : xSR) (sl : xSL) (j0 : Nat) (a1 : Int32) (j2 : Nat) (hj0 : j0 < sh.2.1) (hj2 : j2 < sh.2.2) (r : (Unit × xSC)) (hf : fX3_putInTrial sh.2.1 sh.2.2 j0 a1 j2 sc = some r) : xMet l yX3_putInTrial zX3_putInTrial rX3_putInTrial G sh sc sr sl ([.ref (sh.1 4 j0), .int a1, .ref (sh.1 11 j2)] : List Value) (xvU (.inr r.1)) (xWd G sh r.2 sr sl) := by
  refine xMet_of (cc := cX3_putInTrial) (maxL := 3) (ret := none) (by decide) (Nat.le_of_ble_eq_true rfl) ?_
  intro p e s m below meth c F hT hW hr hlocks htab ls hl
  have F : CallFix p m c cX3_putInTrial 3 s ([.ref (sh.1 4 j0), .int a1, .ref (sh.1 11 j2)] : List Value).toArray xB RX3 := F
  have hx := F.1
  have hb := F.2.1
  have hS : va_S (xA G) s.heap s.heap [] := va_S.rf
  have hl : lv_has ls 3 [(0, .ref (sh.1 4 j0)), (1, .int a1), (2, .ref (sh.1 11 j2))] := hl
  unfold fX3_putInTrial at hf
  refine lv_aload_n hx hb dX3_putInTrial_0 rfl (lv_at hl 0 rfl) ?_
  refine lv_dup hx hb dX3_putInTrial_1 rfl ?_
  refine xget F hT hW xuX3 (xm_S hj0 (by decide)) xce_4 rfl 4 (by decide) xw_311 rfl rfl dX3_putInTrial_2 ?_
  refine lv_iconst (v := 1) hx hb dX3_putInTrial_5 (by decide) ?_
  refine lv_iload_n hx hb dX3_putInTrial_6 rfl (lv_at hl 1 rfl) ?_
  refine lv_ishl hx hb dX3_putInTrial_7 ?_
  refine lv_ior hx hb dX3_putInTrial_8 ?_
  refine xput (ty := .int) F hT hW hS xuX3 tyX3 tyX3_ok nmX3 (xm_S hj0 (by decide)) xce_4 rfl 4 (by decide) xw_311 rfl rfl rfl rfl rfl (Nat.le_of_ble_eq_true rfl) xup_4_4 dX3_putInTrial_9 (fun H locs hW hS => ?_)
  refine lv_aload_n hx hb dX3_putInTrial_12 rfl (lv_at hl 0 rfl) ?_
  refine xget F hT hW xuX3 (xm_S hj0 (by decide)) xce_4 rfl 3 (by decide) xw_310 rfl rfl dX3_putInTrial_13 ?_
  refine lv_aload_n hx hb dX3_putInTrial_16 rfl (lv_at hl 2 rfl) ?_
  refine xgetN (host := "TenantPlacement") F hT hW xuX4 (xm_T hj2 (by decide)) xce_11 rfl 0 (by decide) (List.mem_of_getElem? (i := 34) rfl) rfl rfl dX3_putInTrial_17 ?_
  obtain ⟨v1, s2, hc3, hf⟩ := oP_go hf
  refine xcallV (n := 1) F hT hW hS (xm_S hj0 (by decide)) (xce_am (by decide)) rfl (kX0_add l hl0 G sh (xuC sc.1 4 j0 4 ((sc.1 4 j0 4) ||| (1 <<< (a1 &&& 31))), sc.2) sr sl 7 j0 8 j2 (by decide) (xm_S hj0 (by decide)) (by decide) (xm_T hj2 (by decide)) _ hc3) (xgV xw_156 xw_157 xw_158 xw_11 xw_159) rfl xd_X0_add ⟨Nat.le_of_ble_eq_true rfl, Nat.le_of_ble_eq_true rfl⟩ rfl hl.1 rfl (Nat.le_of_ble_eq_true rfl) dX3_putInTrial_20 ⟨Nat.le_of_ble_eq_true rfl, Nat.le_of_ble_eq_true rfl⟩ (fun v9 H locs hres hW hS => ?_) (fun E9 H locs q9 ce9 hres => by cases hres)
  cases hres
  refine W.eq (g2 := F0 m 23 ls ([])) rfl ?_
  cases hf
  exact xret_v F hr hlocks hS rfl hW (Nat.le_of_ble_eq_true rfl) (Nat.le_of_ble_eq_true rfl) dX3_putInTrial_23
abbrev rX3_takeFromTrial : Room := { frames := 1, cells := 0, slots := 0, locals := 21 }
abbrev zX3_takeFromTrial : List Cond := Cond.code yX3_takeFromTrial cX3_takeFromTrial 3 none :: xB
theorem xd_X3_takeFromTrial : yX3_takeFromTrial.cls = RX3 ∧ yX3_takeFromTrial.cls ≠ "java/lang/invoke/MethodHandle" ∧ yX3_takeFromTrial.cls ≠ "java/lang/invoke/VarHandle" ∧ (parseMethodDescriptor yX3_takeFromTrial.desc).map (fun d => d.parameters.length) = some 2 := by decide +kernel
def fX3_takeFromTrial (nS : Nat) (nT : Nat) (j0 : Nat) (a1 : Int32) (j2 : Nat) (sc : xSC) : Option (Unit × xSC) := oP (fX0_subtract nS nT 7 j0 8 j2 (xuC sc.1 4 j0 4 ((sc.1 4 j0 4) &&& ((1 <<< (a1 &&& 31)) ^^^ (-1))), sc.2)) (fun v1 s2 => some ((), s2))
set_option maxHeartbeats 4000000 in
set_option maxRecDepth 100000 in
theorem kX3_takeFromTrial (l : Launch) (hl0 : l.stackTraces = false) (G : xG) (sh : xSh) (sc : xSC) (sr : xSR) (sl : xSL) (j0 : Nat) (a1 : Int32) (j2 : Nat) (hj0 : j0 < sh.2.1) (hj2 : j2 < sh.2.2) (r : (Unit × xSC)) (hf : fX3_takeFromTrial sh.2.1 sh.2.2 j0 a1 j2 sc = some r) : xMet l yX3_takeFromTrial zX3_takeFromTrial rX3_takeFromTrial G sh sc sr sl ([.ref (sh.1 4 j0), .int a1, .ref (sh.1 11 j2)] : List Value) (xvU (.inr r.1)) (xWd G sh r.2 sr sl) := by
  refine xMet_of (cc := cX3_takeFromTrial) (maxL := 3) (ret := none) (by decide) (Nat.le_of_ble_eq_true rfl) ?_
  intro p e s m below meth c F hT hW hr hlocks htab ls hl
  have F : CallFix p m c cX3_takeFromTrial 3 s ([.ref (sh.1 4 j0), .int a1, .ref (sh.1 11 j2)] : List Value).toArray xB RX3 := F
  have hx := F.1
  have hb := F.2.1
  have hS : va_S (xA G) s.heap s.heap [] := va_S.rf
  have hl : lv_has ls 3 [(0, .ref (sh.1 4 j0)), (1, .int a1), (2, .ref (sh.1 11 j2))] := hl
  unfold fX3_takeFromTrial at hf
  refine lv_aload_n hx hb dX3_takeFromTrial_0 rfl (lv_at hl 0 rfl) ?_
  refine lv_dup hx hb dX3_takeFromTrial_1 rfl ?_
  refine xget F hT hW xuX3 (xm_S hj0 (by decide)) xce_4 rfl 4 (by decide) xw_311 rfl rfl dX3_takeFromTrial_2 ?_
  refine lv_iconst (v := 1) hx hb dX3_takeFromTrial_5 (by decide) ?_
  refine lv_iload_n hx hb dX3_takeFromTrial_6 rfl (lv_at hl 1 rfl) ?_
  refine lv_ishl hx hb dX3_takeFromTrial_7 ?_
  refine lv_iconst (v := (-1)) hx hb dX3_takeFromTrial_8 (by decide) ?_
  refine lv_ixor hx hb dX3_takeFromTrial_9 ?_
  refine lv_iand hx hb dX3_takeFromTrial_10 ?_
  refine xput (ty := .int) F hT hW hS xuX3 tyX3 tyX3_ok nmX3 (xm_S hj0 (by decide)) xce_4 rfl 4 (by decide) xw_311 rfl rfl rfl rfl rfl (Nat.le_of_ble_eq_true rfl) xup_4_4 dX3_takeFromTrial_11 (fun H locs hW hS => ?_)
  refine lv_aload_n hx hb dX3_takeFromTrial_14 rfl (lv_at hl 0 rfl) ?_
  refine xget F hT hW xuX3 (xm_S hj0 (by decide)) xce_4 rfl 3 (by decide) xw_310 rfl rfl dX3_takeFromTrial_15 ?_
  refine lv_aload_n hx hb dX3_takeFromTrial_18 rfl (lv_at hl 2 rfl) ?_
  refine xgetN (host := "TenantPlacement") F hT hW xuX4 (xm_T hj2 (by decide)) xce_11 rfl 0 (by decide) (List.mem_of_getElem? (i := 34) rfl) rfl rfl dX3_takeFromTrial_19 ?_
  obtain ⟨v1, s2, hc3, hf⟩ := oP_go hf
  refine xcallV (n := 1) F hT hW hS (xm_S hj0 (by decide)) (xce_am (by decide)) rfl (kX0_subtract l hl0 G sh (xuC sc.1 4 j0 4 ((sc.1 4 j0 4) &&& ((1 <<< (a1 &&& 31)) ^^^ (-1))), sc.2) sr sl 7 j0 8 j2 (by decide) (xm_S hj0 (by decide)) (by decide) (xm_T hj2 (by decide)) _ hc3) (xgV xw_164 xw_165 xw_166 xw_11 xw_167) rfl xd_X0_subtract ⟨Nat.le_of_ble_eq_true rfl, Nat.le_of_ble_eq_true rfl⟩ rfl hl.1 rfl (Nat.le_of_ble_eq_true rfl) dX3_takeFromTrial_22 ⟨Nat.le_of_ble_eq_true rfl, Nat.le_of_ble_eq_true rfl⟩ (fun v9 H locs hres hW hS => ?_) (fun E9 H locs q9 ce9 hres => by cases hres)
  cases hres
  refine W.eq (g2 := F0 m 25 ls ([])) rfl ?_
  cases hf
  exact xret_v F hr hlocks hS rfl hW (Nat.le_of_ble_eq_true rfl) (Nat.le_of_ble_eq_true rfl) dX3_takeFromTrial_25
abbrev rX3_takesInTrial : Room := { frames := 0, cells := 0, slots := 0, locals := 0 }
abbrev zX3_takesInTrial : List Cond := Cond.code yX3_takesInTrial cX3_takesInTrial 3 (some .boolean) :: xB
theorem xd_X3_takesInTrial : yX3_takesInTrial.cls = RX3 ∧ yX3_takesInTrial.cls ≠ "java/lang/invoke/MethodHandle" ∧ yX3_takesInTrial.cls ≠ "java/lang/invoke/VarHandle" ∧ (parseMethodDescriptor yX3_takesInTrial.desc).map (fun d => d.parameters.length) = some 1 := by decide +kernel
def fX3_takesInTrial (nS : Nat) (nT : Nat) (j0 : Nat) (j1 : Nat) (sc : xSC) : Option Int32 := (if (sc.1 4 j0 2) = 0 then some 0 else (if ((sc.1 4 j0 4) &&& (sc.1 11 j1 6)) = 0 then (if (sc.1 5 j0 0) < ((sc.1 7 j0 0) + (sc.1 8 j1 0)) then some 0 else (if (sc.1 5 j0 1) < ((sc.1 7 j0 1) + (sc.1 8 j1 1)) then some 0 else (if (sc.1 5 j0 2) < ((sc.1 7 j0 2) + (sc.1 8 j1 2)) then some 0 else some 1))) else some 0))
set_option maxHeartbeats 4000000 in
set_option maxRecDepth 100000 in
theorem kX3_takesInTrial (l : Launch) (hl0 : l.stackTraces = false) (G : xG) (sh : xSh) (sc : xSC) (sr : xSR) (sl : xSL) (j0 : Nat) (j1 : Nat) (hj0 : j0 < sh.2.1) (hj1 : j1 < sh.2.2) (r : Int32) (hf : fX3_takesInTrial sh.2.1 sh.2.2 j0 j1 sc = some r) : xMet l yX3_takesInTrial zX3_takesInTrial rX3_takesInTrial G sh sc sr sl ([.ref (sh.1 4 j0), .ref (sh.1 11 j1)] : List Value) (xvI (.inr r)) (xWd G sh sc sr sl) := by
  refine xMet_of (cc := cX3_takesInTrial) (maxL := 3) (ret := (some .boolean)) (by decide) (Nat.le_of_ble_eq_true rfl) ?_
  intro p e s m below meth c F hT hW hr hlocks htab ls hl
  have F : CallFix p m c cX3_takesInTrial 3 s ([.ref (sh.1 4 j0), .ref (sh.1 11 j1)] : List Value).toArray xB RX3 := F
  have hx := F.1
  have hb := F.2.1
  have hS : va_S (xA G) s.heap s.heap [] := va_S.rf
  have hl : lv_has ls 3 [(0, .ref (sh.1 4 j0)), (1, .ref (sh.1 11 j1))] := hl
  unfold fX3_takesInTrial at hf
  refine lv_aload_n hx hb dX3_takesInTrial_0 rfl (lv_at hl 1 rfl) ?_
  refine xgetN (host := "TenantPlacement") F hT hW xuX4 (xm_T hj1 (by decide)) xce_11 rfl 0 (by decide) (List.mem_of_getElem? (i := 34) rfl) rfl rfl dX3_takesInTrial_1 ?_
  refine lv_astore_n (lv' := [(2, .ref (sh.1 8 j1)), (0, .ref (sh.1 4 j0)), (1, .ref (sh.1 11 j1))]) hx hb dX3_takesInTrial_4 rfl hl (by decide) rfl (fun ls hl => ?_)
  refine lv_aload_n hx hb dX3_takesInTrial_5 rfl (lv_at hl 1 rfl) ?_
  refine xget F hT hW xuX3 (xm_S hj0 (by decide)) xce_4 rfl 2 (by decide) xw_308 rfl rfl dX3_takesInTrial_6 ?_
  refine lv_if_eq (tgt := 94) hx hb dX3_takesInTrial_9 (by decide) (fun c1 => ?_) (fun c1 => ?_)
  · replace hf := if_t c1 hf
    refine lv_iconst (v := 0) hx hb dX3_takesInTrial_94 (by decide) ?_
    cases hf
    exact xret_i (ty := .boolean) F hr hlocks hS (by decide) rfl hW (Nat.le_of_ble_eq_true rfl) (Nat.le_of_ble_eq_true rfl) dX3_takesInTrial_95
  · replace hf := if_f c1 hf
    refine lv_aload_n hx hb dX3_takesInTrial_12 rfl (lv_at hl 1 rfl) ?_
    refine xget F hT hW xuX3 (xm_S hj0 (by decide)) xce_4 rfl 4 (by decide) xw_311 rfl rfl dX3_takesInTrial_13 ?_
    refine lv_aload_n hx hb dX3_takesInTrial_16 rfl (lv_at hl 2 rfl) ?_
    refine xgetN (host := "TenantPlacement") F hT hW xuX4 (xm_T hj1 (by decide)) xce_11 rfl 6 (by decide) (List.mem_of_getElem? (i := 35) rfl) rfl rfl dX3_takesInTrial_17 ?_
    refine lv_iand hx hb dX3_takesInTrial_20 ?_
    refine lv_if_ne (tgt := 94) hx hb dX3_takesInTrial_21 (by decide) (fun c2 => ?_) (fun c2 => ?_)
    · replace hf := if_f c2 hf
      refine lv_iconst (v := 0) hx hb dX3_takesInTrial_94 (by decide) ?_
      cases hf
      exact xret_i (ty := .boolean) F hr hlocks hS (by decide) rfl hW (Nat.le_of_ble_eq_true rfl) (Nat.le_of_ble_eq_true rfl) dX3_takesInTrial_95
    · replace hf := if_t c2 hf
      refine lv_aload_n hx hb dX3_takesInTrial_24 rfl (lv_at hl 1 rfl) ?_
      refine xget F hT hW xuX3 (xm_S hj0 (by decide)) xce_4 rfl 3 (by decide) xw_310 rfl rfl dX3_takesInTrial_25 ?_
      refine xgetN (host := "TenantPlacement") F hT hW xuX0 (xm_S hj0 (by decide)) (xce_am (by decide)) rfl 0 (by decide) (List.mem_of_getElem? (i := 31) rfl) rfl rfl dX3_takesInTrial_28 ?_
      refine lv_aload_n hx hb dX3_takesInTrial_31 rfl (lv_at hl 0 rfl) ?_
      refine xgetN (host := "TenantPlacement") F hT hW xuX0 (xm_T hj1 (by decide)) (xce_am (by decide)) rfl 0 (by decide) (List.mem_of_getElem? (i := 31) rfl) rfl rfl dX3_takesInTrial_32 ?_
      refine lv_iadd hx hb dX3_takesInTrial_35 ?_
      refine lv_aload_n hx hb dX3_takesInTrial_36 rfl (lv_at hl 1 rfl) ?_
      refine xget F hT hW xuX3 (xm_S hj0 (by decide)) xce_4 rfl 0 (by decide) xw_304 rfl rfl dX3_takesInTrial_37 ?_
      refine xgetN (host := "TenantPlacement") F hT hW xuX0 (xm_S hj0 (by decide)) (xce_am (by decide)) rfl 0 (by decide) (List.mem_of_getElem? (i := 31) rfl) rfl rfl dX3_takesInTrial_40 ?_
      refine lv_icmp_gt (tgt := 94) hx hb dX3_takesInTrial_43 (by decide) (fun c3 => ?_) (fun c3 => ?_)
      · replace hf := if_t c3 hf
        refine lv_iconst (v := 0) hx hb dX3_takesInTrial_94 (by decide) ?_
        cases hf
        exact xret_i (ty := .boolean) F hr hlocks hS (by decide) rfl hW (Nat.le_of_ble_eq_true rfl) (Nat.le_of_ble_eq_true rfl) dX3_takesInTrial_95
      · replace hf := if_f c3 hf
        refine lv_aload_n hx hb dX3_takesInTrial_46 rfl (lv_at hl 1 rfl) ?_
        refine xget F hT hW xuX3 (xm_S hj0 (by decide)) xce_4 rfl 3 (by decide) xw_310 rfl rfl dX3_takesInTrial_47 ?_
        refine xgetN (host := "TenantPlacement") F hT hW xuX0 (xm_S hj0 (by decide)) (xce_am (by decide)) rfl 1 (by decide) (List.mem_of_getElem? (i := 32) rfl) rfl rfl dX3_takesInTrial_50 ?_
        refine lv_aload_n hx hb dX3_takesInTrial_53 rfl (lv_at hl 0 rfl) ?_
        refine xgetN (host := "TenantPlacement") F hT hW xuX0 (xm_T hj1 (by decide)) (xce_am (by decide)) rfl 1 (by decide) (List.mem_of_getElem? (i := 32) rfl) rfl rfl dX3_takesInTrial_54 ?_
        refine lv_iadd hx hb dX3_takesInTrial_57 ?_
        refine lv_aload_n hx hb dX3_takesInTrial_58 rfl (lv_at hl 1 rfl) ?_
        refine xget F hT hW xuX3 (xm_S hj0 (by decide)) xce_4 rfl 0 (by decide) xw_304 rfl rfl dX3_takesInTrial_59 ?_
        refine xgetN (host := "TenantPlacement") F hT hW xuX0 (xm_S hj0 (by decide)) (xce_am (by decide)) rfl 1 (by decide) (List.mem_of_getElem? (i := 32) rfl) rfl rfl dX3_takesInTrial_62 ?_
        refine lv_icmp_gt (tgt := 94) hx hb dX3_takesInTrial_65 (by decide) (fun c4 => ?_) (fun c4 => ?_)
        · replace hf := if_t c4 hf
          refine lv_iconst (v := 0) hx hb dX3_takesInTrial_94 (by decide) ?_
          cases hf
          exact xret_i (ty := .boolean) F hr hlocks hS (by decide) rfl hW (Nat.le_of_ble_eq_true rfl) (Nat.le_of_ble_eq_true rfl) dX3_takesInTrial_95
        · replace hf := if_f c4 hf
          refine lv_aload_n hx hb dX3_takesInTrial_68 rfl (lv_at hl 1 rfl) ?_
          refine xget F hT hW xuX3 (xm_S hj0 (by decide)) xce_4 rfl 3 (by decide) xw_310 rfl rfl dX3_takesInTrial_69 ?_
          refine xgetN (host := "TenantPlacement") F hT hW xuX0 (xm_S hj0 (by decide)) (xce_am (by decide)) rfl 2 (by decide) (List.mem_of_getElem? (i := 33) rfl) rfl rfl dX3_takesInTrial_72 ?_
          refine lv_aload_n hx hb dX3_takesInTrial_75 rfl (lv_at hl 0 rfl) ?_
          refine xgetN (host := "TenantPlacement") F hT hW xuX0 (xm_T hj1 (by decide)) (xce_am (by decide)) rfl 2 (by decide) (List.mem_of_getElem? (i := 33) rfl) rfl rfl dX3_takesInTrial_76 ?_
          refine lv_iadd hx hb dX3_takesInTrial_79 ?_
          refine lv_aload_n hx hb dX3_takesInTrial_80 rfl (lv_at hl 1 rfl) ?_
          refine xget F hT hW xuX3 (xm_S hj0 (by decide)) xce_4 rfl 0 (by decide) xw_304 rfl rfl dX3_takesInTrial_81 ?_
          refine xgetN (host := "TenantPlacement") F hT hW xuX0 (xm_S hj0 (by decide)) (xce_am (by decide)) rfl 2 (by decide) (List.mem_of_getElem? (i := 33) rfl) rfl rfl dX3_takesInTrial_84 ?_
          refine lv_icmp_gt (tgt := 94) hx hb dX3_takesInTrial_87 (by decide) (fun c5 => ?_) (fun c5 => ?_)
          · replace hf := if_t c5 hf
            refine lv_iconst (v := 0) hx hb dX3_takesInTrial_94 (by decide) ?_
            cases hf
            exact xret_i (ty := .boolean) F hr hlocks hS (by decide) rfl hW (Nat.le_of_ble_eq_true rfl) (Nat.le_of_ble_eq_true rfl) dX3_takesInTrial_95
          · replace hf := if_f c5 hf
            refine lv_iconst (v := 1) hx hb dX3_takesInTrial_90 (by decide) ?_
            refine lv_goto (tgt := 95) hx hb dX3_takesInTrial_91 (by decide) ?_
            cases hf
            exact xret_i (ty := .boolean) F hr hlocks hS (by decide) rfl hW (Nat.le_of_ble_eq_true rfl) (Nat.le_of_ble_eq_true rfl) dX3_takesInTrial_95
abbrev rX3_usesTooMuch : Room := { frames := 0, cells := 0, slots := 0, locals := 0 }
abbrev zX3_usesTooMuch : List Cond := Cond.code yX3_usesTooMuch cX3_usesTooMuch 1 (some .boolean) :: xB
theorem xd_X3_usesTooMuch : yX3_usesTooMuch.cls = RX3 ∧ yX3_usesTooMuch.cls ≠ "java/lang/invoke/MethodHandle" ∧ yX3_usesTooMuch.cls ≠ "java/lang/invoke/VarHandle" ∧ (parseMethodDescriptor yX3_usesTooMuch.desc).map (fun d => d.parameters.length) = some 0 := by decide +kernel
def fX3_usesTooMuch (nS : Nat) (nT : Nat) (j0 : Nat) (sc : xSC) : Option Int32 := (if (sc.1 5 j0 0) < (sc.1 6 j0 0) then some 1 else (if (sc.1 5 j0 1) < (sc.1 6 j0 1) then some 1 else (if (sc.1 6 j0 2) ≤ (sc.1 5 j0 2) then some 0 else some 1)))
set_option maxHeartbeats 4000000 in
set_option maxRecDepth 100000 in
theorem kX3_usesTooMuch (l : Launch) (hl0 : l.stackTraces = false) (G : xG) (sh : xSh) (sc : xSC) (sr : xSR) (sl : xSL) (j0 : Nat) (hj0 : j0 < sh.2.1) (r : Int32) (hf : fX3_usesTooMuch sh.2.1 sh.2.2 j0 sc = some r) : xMet l yX3_usesTooMuch zX3_usesTooMuch rX3_usesTooMuch G sh sc sr sl ([.ref (sh.1 4 j0)] : List Value) (xvI (.inr r)) (xWd G sh sc sr sl) := by
  refine xMet_of (cc := cX3_usesTooMuch) (maxL := 1) (ret := (some .boolean)) (by decide) (Nat.le_of_ble_eq_true rfl) ?_
  intro p e s m below meth c F hT hW hr hlocks htab ls hl
  have F : CallFix p m c cX3_usesTooMuch 1 s ([.ref (sh.1 4 j0)] : List Value).toArray xB RX3 := F
  have hx := F.1
  have hb := F.2.1
  have hS : va_S (xA G) s.heap s.heap [] := va_S.rf
  have hl : lv_has ls 1 [(0, .ref (sh.1 4 j0))] := hl
  unfold fX3_usesTooMuch at hf
  refine lv_aload_n hx hb dX3_usesTooMuch_0 rfl (lv_at hl 0 rfl) ?_
  refine xget F hT hW xuX3 (xm_S hj0 (by decide)) xce_4 rfl 1 (by decide) xw_306 rfl rfl dX3_usesTooMuch_1 ?_
  refine xgetN (host := "TenantPlacement") F hT hW xuX0 (xm_S hj0 (by decide)) (xce_am (by decide)) rfl 0 (by decide) (List.mem_of_getElem? (i := 31) rfl) rfl rfl dX3_usesTooMuch_4 ?_
  refine lv_aload_n hx hb dX3_usesTooMuch_7 rfl (lv_at hl 0 rfl) ?_
  refine xget F hT hW xuX3 (xm_S hj0 (by decide)) xce_4 rfl 0 (by decide) xw_304 rfl rfl dX3_usesTooMuch_8 ?_
  refine xgetN (host := "TenantPlacement") F hT hW xuX0 (xm_S hj0 (by decide)) (xce_am (by decide)) rfl 0 (by decide) (List.mem_of_getElem? (i := 31) rfl) rfl rfl dX3_usesTooMuch_11 ?_
  refine lv_icmp_gt (tgt := 51) hx hb dX3_usesTooMuch_14 (by decide) (fun c1 => ?_) (fun c1 => ?_)
  · replace hf := if_t c1 hf
    refine lv_iconst (v := 1) hx hb dX3_usesTooMuch_51 (by decide) ?_
    refine lv_goto (tgt := 56) hx hb dX3_usesTooMuch_52 (by decide) ?_
    cases hf
    exact xret_i (ty := .boolean) F hr hlocks hS (by decide) rfl hW (Nat.le_of_ble_eq_true rfl) (Nat.le_of_ble_eq_true rfl) dX3_usesTooMuch_56
  · replace hf := if_f c1 hf
    refine lv_aload_n hx hb dX3_usesTooMuch_17 rfl (lv_at hl 0 rfl) ?_
    refine xget F hT hW xuX3 (xm_S hj0 (by decide)) xce_4 rfl 1 (by decide) xw_306 rfl rfl dX3_usesTooMuch_18 ?_
    refine xgetN (host := "TenantPlacement") F hT hW xuX0 (xm_S hj0 (by decide)) (xce_am (by decide)) rfl 1 (by decide) (List.mem_of_getElem? (i := 32) rfl) rfl rfl dX3_usesTooMuch_21 ?_
    refine lv_aload_n hx hb dX3_usesTooMuch_24 rfl (lv_at hl 0 rfl) ?_
    refine xget F hT hW xuX3 (xm_S hj0 (by decide)) xce_4 rfl 0 (by decide) xw_304 rfl rfl dX3_usesTooMuch_25 ?_
    refine xgetN (host := "TenantPlacement") F hT hW xuX0 (xm_S hj0 (by decide)) (xce_am (by decide)) rfl 1 (by decide) (List.mem_of_getElem? (i := 32) rfl) rfl rfl dX3_usesTooMuch_28 ?_
    refine lv_icmp_gt (tgt := 51) hx hb dX3_usesTooMuch_31 (by decide) (fun c2 => ?_) (fun c2 => ?_)
    · replace hf := if_t c2 hf
      refine lv_iconst (v := 1) hx hb dX3_usesTooMuch_51 (by decide) ?_
      refine lv_goto (tgt := 56) hx hb dX3_usesTooMuch_52 (by decide) ?_
      cases hf
      exact xret_i (ty := .boolean) F hr hlocks hS (by decide) rfl hW (Nat.le_of_ble_eq_true rfl) (Nat.le_of_ble_eq_true rfl) dX3_usesTooMuch_56
    · replace hf := if_f c2 hf
      refine lv_aload_n hx hb dX3_usesTooMuch_34 rfl (lv_at hl 0 rfl) ?_
      refine xget F hT hW xuX3 (xm_S hj0 (by decide)) xce_4 rfl 1 (by decide) xw_306 rfl rfl dX3_usesTooMuch_35 ?_
      refine xgetN (host := "TenantPlacement") F hT hW xuX0 (xm_S hj0 (by decide)) (xce_am (by decide)) rfl 2 (by decide) (List.mem_of_getElem? (i := 33) rfl) rfl rfl dX3_usesTooMuch_38 ?_
      refine lv_aload_n hx hb dX3_usesTooMuch_41 rfl (lv_at hl 0 rfl) ?_
      refine xget F hT hW xuX3 (xm_S hj0 (by decide)) xce_4 rfl 0 (by decide) xw_304 rfl rfl dX3_usesTooMuch_42 ?_
      refine xgetN (host := "TenantPlacement") F hT hW xuX0 (xm_S hj0 (by decide)) (xce_am (by decide)) rfl 2 (by decide) (List.mem_of_getElem? (i := 33) rfl) rfl rfl dX3_usesTooMuch_45 ?_
      refine lv_icmp_le (tgt := 55) hx hb dX3_usesTooMuch_48 (by decide) (fun c3 => ?_) (fun c3 => ?_)
      · replace hf := if_t c3 hf
        refine lv_iconst (v := 0) hx hb dX3_usesTooMuch_55 (by decide) ?_
        cases hf
        exact xret_i (ty := .boolean) F hr hlocks hS (by decide) rfl hW (Nat.le_of_ble_eq_true rfl) (Nat.le_of_ble_eq_true rfl) dX3_usesTooMuch_56
      · replace hf := if_f c3 hf
        refine lv_iconst (v := 1) hx hb dX3_usesTooMuch_51 (by decide) ?_
        refine lv_goto (tgt := 56) hx hb dX3_usesTooMuch_52 (by decide) ?_
        cases hf
        exact xret_i (ty := .boolean) F hr hlocks hS (by decide) rfl hW (Nat.le_of_ble_eq_true rfl) (Nat.le_of_ble_eq_true rfl) dX3_usesTooMuch_56
abbrev rJ9_floorMod_7cf53 : Room := { frames := 0, cells := 0, slots := 0, locals := 0 }
abbrev zJ9_floorMod_7cf53 : List Cond := Cond.code yJ9_floorMod_7cf53 cJ9_floorMod_7cf53 3 (some .int) :: xB
theorem xd_J9_floorMod_7cf53 : yJ9_floorMod_7cf53.cls = RJ9 ∧ yJ9_floorMod_7cf53.cls ≠ "java/lang/invoke/MethodHandle" ∧ yJ9_floorMod_7cf53.cls ≠ "java/lang/invoke/VarHandle" ∧ (parseMethodDescriptor yJ9_floorMod_7cf53.desc).map (fun d => d.parameters.length) = some 2 := by decide +kernel
def fJ9_floorMod_7cf53 (a1 : Int32) (a2 : Int32) : Option Int32 := oG (decide (¬ a2 = 0)) ((if 0 ≤ (a1 ^^^ a2) then some (a1 - a1 / a2 * a2) else (if (a1 - a1 / a2 * a2) = 0 then some (a1 - a1 / a2 * a2) else some ((a1 - a1 / a2 * a2) + a2))))
set_option maxHeartbeats 4000000 in
set_option maxRecDepth 100000 in
theorem kJ9_floorMod_7cf53 (l : Launch) (hl0 : l.stackTraces = false) (G : xG) (sh : xSh) (sc : xSC) (sr : xSR) (sl : xSL) (a1 : Int32) (a2 : Int32) (r : Int32) (hf : fJ9_floorMod_7cf53 a1 a2 = some r) : xMet l yJ9_floorMod_7cf53 zJ9_floorMod_7cf53 rJ9_floorMod_7cf53 G sh sc sr sl ([.int a1, .int a2] : List Value) (xvI (.inr r)) (xWd G sh sc sr sl) := by
  refine xMet_of (cc := cJ9_floorMod_7cf53) (maxL := 3) (ret := (some .int)) (by decide +kernel) (Nat.le_of_ble_eq_true rfl) ?_
  intro p e s m below meth c F hT hW hr hlocks htab ls hl
  have F : CallFix p m c cJ9_floorMod_7cf53 3 s ([.int a1, .int a2] : List Value).toArray xB RJ9 := F
  have hx := F.1
  have hb := F.2.1
  have hS : va_S (xA G) s.heap s.heap [] := va_S.rf
  have hl : lv_has ls 3 [(0, .int a1), (1, .int a2)] := hl
  unfold fJ9_floorMod_7cf53 at hf
  refine lv_iload_n hx hb dJ9_floorMod_7cf53_0 rfl (lv_at hl 0 rfl) ?_
  refine lv_iload_n hx hb dJ9_floorMod_7cf53_1 rfl (lv_at hl 1 rfl) ?_
  obtain ⟨g3, hf⟩ := oG_go hf
  refine lv_irem hx hb dJ9_floorMod_7cf53_2 (of_decide_eq_true g3) ?_
  refine lv_istore_n (lv' := [(2, .int (a1 - a1 / a2 * a2)), (0, .int a1), (1, .int a2)]) hx hb dJ9_floorMod_7cf53_3 rfl hl (by decide) rfl (fun ls hl => ?_)
  refine lv_iload_n hx hb dJ9_floorMod_7cf53_4 rfl (lv_at hl 1 rfl) ?_
  refine lv_iload_n hx hb dJ9_floorMod_7cf53_5 rfl (lv_at hl 2 rfl) ?_
  refine lv_ixor hx hb dJ9_floorMod_7cf53_6 ?_
  refine lv_if_ge (tgt := 18) hx hb dJ9_floorMod_7cf53_7 (by decide) (fun c1 => ?_) (fun c1 => ?_)
  · replace hf := if_t c1 hf
    refine lv_iload_n hx hb dJ9_floorMod_7cf53_18 rfl (lv_at hl 0 rfl) ?_
    cases hf
    exact xret_i (ty := .int) F hr hlocks hS rfl rfl hW (Nat.le_of_ble_eq_true rfl) (Nat.le_of_ble_eq_true rfl) dJ9_floorMod_7cf53_19
  · replace hf := if_f c1 hf
    refine lv_iload_n hx hb dJ9_floorMod_7cf53_10 rfl (lv_at hl 0 rfl) ?_
    refine lv_if_eq (tgt := 18) hx hb dJ9_floorMod_7cf53_11 (by decide) (fun c2 => ?_) (fun c2 => ?_)
    · replace hf := if_t c2 hf
      refine lv_iload_n hx hb dJ9_floorMod_7cf53_18 rfl (lv_at hl 0 rfl) ?_
      cases hf
      exact xret_i (ty := .int) F hr hlocks hS rfl rfl hW (Nat.le_of_ble_eq_true rfl) (Nat.le_of_ble_eq_true rfl) dJ9_floorMod_7cf53_19
    · replace hf := if_f c2 hf
      refine lv_iload_n hx hb dJ9_floorMod_7cf53_14 rfl (lv_at hl 0 rfl) ?_
      refine lv_iload_n hx hb dJ9_floorMod_7cf53_15 rfl (lv_at hl 2 rfl) ?_
      refine lv_iadd hx hb dJ9_floorMod_7cf53_16 ?_
      cases hf
      exact xret_i (ty := .int) F hr hlocks hS rfl rfl hW (Nat.le_of_ble_eq_true rfl) (Nat.le_of_ble_eq_true rfl) dJ9_floorMod_7cf53_17
abbrev rX4_windowHours : Room := { frames := 1, cells := 0, slots := 0, locals := 22 }
abbrev zX4_windowHours : List Cond := Cond.code yX4_windowHours cX4_windowHours 2 (some .int) :: xB
theorem xd_X4_windowHours : yX4_windowHours.cls = RX4 ∧ yX4_windowHours.cls ≠ "java/lang/invoke/MethodHandle" ∧ yX4_windowHours.cls ≠ "java/lang/invoke/VarHandle" ∧ (parseMethodDescriptor yX4_windowHours.desc).map (fun d => d.parameters.length) = some 0 := by decide +kernel
def fX4_windowHours (nS : Nat) (nT : Nat) (j0 : Nat) (sc : xSC) : Option Int32 := oB (fJ9_floorMod_7cf53 ((sc.1 11 j0 5) - (sc.1 11 j0 4)) 24) (fun v1 => (if v1 = 0 then some 24 else some v1))
set_option maxHeartbeats 4000000 in
set_option maxRecDepth 100000 in
theorem kX4_windowHours (l : Launch) (hl0 : l.stackTraces = false) (G : xG) (sh : xSh) (sc : xSC) (sr : xSR) (sl : xSL) (j0 : Nat) (hj0 : j0 < sh.2.2) (r : Int32) (hf : fX4_windowHours sh.2.1 sh.2.2 j0 sc = some r) : xMet l yX4_windowHours zX4_windowHours rX4_windowHours G sh sc sr sl ([.ref (sh.1 11 j0)] : List Value) (xvI (.inr r)) (xWd G sh sc sr sl) := by
  refine xMet_of (cc := cX4_windowHours) (maxL := 2) (ret := (some .int)) (by decide) (Nat.le_of_ble_eq_true rfl) ?_
  intro p e s m below meth c F hT hW hr hlocks htab ls hl
  have F : CallFix p m c cX4_windowHours 2 s ([.ref (sh.1 11 j0)] : List Value).toArray xB RX4 := F
  have hx := F.1
  have hb := F.2.1
  have hS : va_S (xA G) s.heap s.heap [] := va_S.rf
  have hl : lv_has ls 2 [(0, .ref (sh.1 11 j0))] := hl
  unfold fX4_windowHours at hf
  refine lv_aload_n hx hb dX4_windowHours_0 rfl (lv_at hl 0 rfl) ?_
  refine xget F hT hW xuX4 (xm_T hj0 (by decide)) xce_11 rfl 5 (by decide) xw_445 rfl rfl dX4_windowHours_1 ?_
  refine lv_aload_n hx hb dX4_windowHours_4 rfl (lv_at hl 0 rfl) ?_
  refine xget F hT hW xuX4 (xm_T hj0 (by decide)) xce_11 rfl 4 (by decide) xw_443 rfl rfl dX4_windowHours_5 ?_
  refine lv_isub hx hb dX4_windowHours_8 ?_
  refine lv_bipush (v := 24) hx hb dX4_windowHours_9 (by decide) ?_
  obtain ⟨v1, hc3, hf⟩ := oB_go hf
  refine xcallS (n := 2) F hT hW hS (kJ9_floorMod_7cf53 l hl0 G sh sc sr sl ((sc.1 11 j0 5) - (sc.1 11 j0 4)) 24  _ hc3) (xgS xw_513 xw_514 xw_17 xw_515) rfl xd_J9_floorMod_7cf53.2 ⟨Nat.le_of_ble_eq_true rfl, Nat.le_of_ble_eq_true rfl⟩ rfl hl.1 rfl (Nat.le_of_ble_eq_true rfl) dX4_windowHours_11 ⟨Nat.le_of_ble_eq_true rfl, Nat.le_of_ble_eq_true rfl⟩ (fun v9 H locs hres hW hS => ?_) (fun E9 H locs q9 ce9 hres => by cases hres)
  cases hres
  refine W.eq (g2 := F0 m 14 ls (.int v1 :: [])) rfl ?_
  refine lv_istore_n (lv' := [(1, .int v1), (0, .ref (sh.1 11 j0))]) hx hb dX4_windowHours_14 rfl hl (by decide) rfl (fun ls hl => ?_)
  refine lv_iload_n hx hb dX4_windowHours_15 rfl (lv_at hl 0 rfl) ?_
  refine lv_if_ne (tgt := 24) hx hb dX4_windowHours_16 (by decide) (fun c2 => ?_) (fun c2 => ?_)
  · replace hf := if_f c2 hf
    refine lv_iload_n hx hb dX4_windowHours_24 rfl (lv_at hl 0 rfl) ?_
    cases hf
    exact xret_i (ty := .int) F hr hlocks hS rfl rfl hW (Nat.le_of_ble_eq_true rfl) (Nat.le_of_ble_eq_true rfl) dX4_windowHours_25
  · replace hf := if_t c2 hf
    refine lv_bipush (v := 24) hx hb dX4_windowHours_19 (by decide) ?_
    refine lv_goto (tgt := 25) hx hb dX4_windowHours_21 (by decide) ?_
    cases hf
    exact xret_i (ty := .int) F hr hlocks hS rfl rfl hW (Nat.le_of_ble_eq_true rfl) (Nat.le_of_ble_eq_true rfl) dX4_windowHours_25
abbrev rX4_isInWindow : Room := { frames := 2, cells := 0, slots := 0, locals := 43 }
abbrev zX4_isInWindow : List Cond := Cond.code yX4_isInWindow cX4_isInWindow 2 (some .boolean) :: xB
theorem xd_X4_isInWindow : yX4_isInWindow.cls = RX4 ∧ yX4_isInWindow.cls ≠ "java/lang/invoke/MethodHandle" ∧ yX4_isInWindow.cls ≠ "java/lang/invoke/VarHandle" ∧ (parseMethodDescriptor yX4_isInWindow.desc).map (fun d => d.parameters.length) = some 1 := by decide +kernel
def fX4_isInWindow (nS : Nat) (nT : Nat) (j0 : Nat) (a1 : Int32) (sc : xSC) : Option Int32 := oB (fJ9_floorMod_7cf53 (a1 - (sc.1 11 j0 4)) 24) (fun v1 => oB (fX4_windowHours nS nT j0 sc) (fun v2 => (if v2 ≤ v1 then some 0 else some 1)))
set_option maxHeartbeats 4000000 in
set_option maxRecDepth 100000 in
theorem kX4_isInWindow (l : Launch) (hl0 : l.stackTraces = false) (G : xG) (sh : xSh) (sc : xSC) (sr : xSR) (sl : xSL) (j0 : Nat) (a1 : Int32) (hj0 : j0 < sh.2.2) (r : Int32) (hf : fX4_isInWindow sh.2.1 sh.2.2 j0 a1 sc = some r) : xMet l yX4_isInWindow zX4_isInWindow rX4_isInWindow G sh sc sr sl ([.ref (sh.1 11 j0), .int a1] : List Value) (xvI (.inr r)) (xWd G sh sc sr sl) := by
  refine xMet_of (cc := cX4_isInWindow) (maxL := 2) (ret := (some .boolean)) (by decide) (Nat.le_of_ble_eq_true rfl) ?_
  intro p e s m below meth c F hT hW hr hlocks htab ls hl
  have F : CallFix p m c cX4_isInWindow 2 s ([.ref (sh.1 11 j0), .int a1] : List Value).toArray xB RX4 := F
  have hx := F.1
  have hb := F.2.1
  have hS : va_S (xA G) s.heap s.heap [] := va_S.rf
  have hl : lv_has ls 2 [(0, .ref (sh.1 11 j0)), (1, .int a1)] := hl
  unfold fX4_isInWindow at hf
  refine lv_iload_n hx hb dX4_isInWindow_0 rfl (lv_at hl 1 rfl) ?_
  refine lv_aload_n hx hb dX4_isInWindow_1 rfl (lv_at hl 0 rfl) ?_
  refine xget F hT hW xuX4 (xm_T hj0 (by decide)) xce_11 rfl 4 (by decide) xw_443 rfl rfl dX4_isInWindow_2 ?_
  refine lv_isub hx hb dX4_isInWindow_5 ?_
  refine lv_bipush (v := 24) hx hb dX4_isInWindow_6 (by decide) ?_
  obtain ⟨v1, hc5, hf⟩ := oB_go hf
  refine xcallS (n := 2) F hT hW hS (kJ9_floorMod_7cf53 l hl0 G sh sc sr sl (a1 - (sc.1 11 j0 4)) 24  _ hc5) (xgS xw_513 xw_514 xw_17 xw_515) rfl xd_J9_floorMod_7cf53.2 ⟨Nat.le_of_ble_eq_true rfl, Nat.le_of_ble_eq_true rfl⟩ rfl hl.1 rfl (Nat.le_of_ble_eq_true rfl) dX4_isInWindow_8 ⟨Nat.le_of_ble_eq_true rfl, Nat.le_of_ble_eq_true rfl⟩ (fun v9 H locs hres hW hS => ?_) (fun E9 H locs q9 ce9 hres => by cases hres)
  cases hres
  refine W.eq (g2 := F0 m 11 ls (.int v1 :: [])) rfl ?_
  refine lv_aload_n hx hb dX4_isInWindow_11 rfl (lv_at hl 0 rfl) ?_
  obtain ⟨v2, hc4, hf⟩ := oB_go hf
  refine xcallV (n := 0) F hT hW hS (xm_T hj0 (by decide)) xce_11 rfl (kX4_windowHours l hl0 G sh sc sr sl j0 hj0 _ hc4) (xgV xw_622 xw_510 xw_511 xw_16 xw_512) rfl xd_X4_windowHours ⟨Nat.le_of_ble_eq_true rfl, Nat.le_of_ble_eq_true rfl⟩ rfl hl.1 rfl (Nat.le_of_ble_eq_true rfl) dX4_isInWindow_12 ⟨Nat.le_of_ble_eq_true rfl, Nat.le_of_ble_eq_true rfl⟩ (fun v9 H locs hres hW hS => ?_) (fun E9 H locs q9 ce9 hres => by cases hres)
  cases hres
  refine W.eq (g2 := F0 m 15 ls (.int v2 :: .int v1 :: [])) rfl ?_
  refine lv_icmp_ge (tgt := 22) hx hb dX4_isInWindow_15 (by decide) (fun c3 => ?_) (fun c3 => ?_)
  · replace hf := if_t c3 hf
    refine lv_iconst (v := 0) hx hb dX4_isInWindow_22 (by decide) ?_
    cases hf
    exact xret_i (ty := .boolean) F hr hlocks hS (by decide) rfl hW (Nat.le_of_ble_eq_true rfl) (Nat.le_of_ble_eq_true rfl) dX4_isInWindow_23
  · replace hf := if_f c3 hf
    refine lv_iconst (v := 1) hx hb dX4_isInWindow_18 (by decide) ?_
    refine lv_goto (tgt := 23) hx hb dX4_isInWindow_19 (by decide) ?_
    cases hf
    exact xret_i (ty := .boolean) F hr hlocks hS (by decide) rfl hW (Nat.le_of_ble_eq_true rfl) (Nat.le_of_ble_eq_true rfl) dX4_isInWindow_23
abbrev rX4_hoursToWindow : Room := { frames := 3, cells := 0, slots := 0, locals := 64 }
abbrev zX4_hoursToWindow : List Cond := Cond.code yX4_hoursToWindow cX4_hoursToWindow 2 (some .int) :: xB
theorem xd_X4_hoursToWindow : yX4_hoursToWindow.cls = RX4 ∧ yX4_hoursToWindow.cls ≠ "java/lang/invoke/MethodHandle" ∧ yX4_hoursToWindow.cls ≠ "java/lang/invoke/VarHandle" ∧ (parseMethodDescriptor yX4_hoursToWindow.desc).map (fun d => d.parameters.length) = some 1 := by decide +kernel
def fX4_hoursToWindow (nS : Nat) (nT : Nat) (j0 : Nat) (a1 : Int32) (sc : xSC) : Option Int32 := oB (fX4_isInWindow nS nT j0 a1 sc) (fun v1 => (if v1 = 0 then oB (fJ9_floorMod_7cf53 ((sc.1 11 j0 4) - a1) 24) (fun v3 => some v3) else some 0))
set_option maxHeartbeats 4000000 in
set_option maxRecDepth 100000 in
theorem kX4_hoursToWindow (l : Launch) (hl0 : l.stackTraces = false) (G : xG) (sh : xSh) (sc : xSC) (sr : xSR) (sl : xSL) (j0 : Nat) (a1 : Int32) (hj0 : j0 < sh.2.2) (r : Int32) (hf : fX4_hoursToWindow sh.2.1 sh.2.2 j0 a1 sc = some r) : xMet l yX4_hoursToWindow zX4_hoursToWindow rX4_hoursToWindow G sh sc sr sl ([.ref (sh.1 11 j0), .int a1] : List Value) (xvI (.inr r)) (xWd G sh sc sr sl) := by
  refine xMet_of (cc := cX4_hoursToWindow) (maxL := 2) (ret := (some .int)) (by decide) (Nat.le_of_ble_eq_true rfl) ?_
  intro p e s m below meth c F hT hW hr hlocks htab ls hl
  have F : CallFix p m c cX4_hoursToWindow 2 s ([.ref (sh.1 11 j0), .int a1] : List Value).toArray xB RX4 := F
  have hx := F.1
  have hb := F.2.1
  have hS : va_S (xA G) s.heap s.heap [] := va_S.rf
  have hl : lv_has ls 2 [(0, .ref (sh.1 11 j0)), (1, .int a1)] := hl
  unfold fX4_hoursToWindow at hf
  refine lv_aload_n hx hb dX4_hoursToWindow_0 rfl (lv_at hl 0 rfl) ?_
  refine lv_iload_n hx hb dX4_hoursToWindow_1 rfl (lv_at hl 1 rfl) ?_
  obtain ⟨v1, hc5, hf⟩ := oB_go hf
  refine xcallV (n := 1) F hT hW hS (xm_T hj0 (by decide)) xce_11 rfl (kX4_isInWindow l hl0 G sh sc sr sl j0 a1 hj0 _ hc5) (xgV xw_677 xw_619 xw_620 xw_16 xw_621) rfl xd_X4_isInWindow ⟨Nat.le_of_ble_eq_true rfl, Nat.le_of_ble_eq_true rfl⟩ rfl hl.1 rfl (Nat.le_of_ble_eq_true rfl) dX4_hoursToWindow_2 ⟨Nat.le_of_ble_eq_true rfl, Nat.le_of_ble_eq_true rfl⟩ (fun v9 H locs hres hW hS => ?_) (fun E9 H locs q9 ce9 hres => by cases hres)
  cases hres
  refine W.eq (g2 := F0 m 5 ls (.int v1 :: [])) rfl ?_
  refine lv_if_eq (tgt := 12) hx hb dX4_hoursToWindow_5 (by decide) (fun c2 => ?_) (fun c2 => ?_)
  · replace hf := if_t c2 hf
    refine lv_aload_n hx hb dX4_hoursToWindow_12 rfl (lv_at hl 0 rfl) ?_
    refine xget F hT hW xuX4 (xm_T hj0 (by decide)) xce_11 rfl 4 (by decide) xw_443 rfl rfl dX4_hoursToWindow_13 ?_
    refine lv_iload_n hx hb dX4_hoursToWindow_16 rfl (lv_at hl 1 rfl) ?_
    refine lv_isub hx hb dX4_hoursToWindow_17 ?_
    refine lv_bipush (v := 24) hx hb dX4_hoursToWindow_18 (by decide) ?_
    obtain ⟨v3, hc4, hf⟩ := oB_go hf
    refine xcallS (n := 2) F hT hW hS (kJ9_floorMod_7cf53 l hl0 G sh sc sr sl ((sc.1 11 j0 4) - a1) 24  _ hc4) (xgS xw_513 xw_514 xw_17 xw_515) rfl xd_J9_floorMod_7cf53.2 ⟨Nat.le_of_ble_eq_true rfl, Nat.le_of_ble_eq_true rfl⟩ rfl hl.1 rfl (Nat.le_of_ble_eq_true rfl) dX4_hoursToWindow_20 ⟨Nat.le_of_ble_eq_true rfl, Nat.le_of_ble_eq_true rfl⟩ (fun v9 H locs hres hW hS => ?_) (fun E9 H locs q9 ce9 hres => by cases hres)
    cases hres
    refine W.eq (g2 := F0 m 23 ls (.int v3 :: [])) rfl ?_
    cases hf
    exact xret_i (ty := .int) F hr hlocks hS rfl rfl hW (Nat.le_of_ble_eq_true rfl) (Nat.le_of_ble_eq_true rfl) dX4_hoursToWindow_23
  · replace hf := if_f c2 hf
    refine lv_iconst (v := 0) hx hb dX4_hoursToWindow_8 (by decide) ?_
    refine lv_goto (tgt := 23) hx hb dX4_hoursToWindow_9 (by decide) ?_
    cases hf
    exact xret_i (ty := .int) F hr hlocks hS rfl rfl hW (Nat.le_of_ble_eq_true rfl) (Nat.le_of_ble_eq_true rfl) dX4_hoursToWindow_23
abbrev rX4_isApartFrom : Room := { frames := 0, cells := 0, slots := 0, locals := 0 }
abbrev zX4_isApartFrom : List Cond := Cond.code yX4_isApartFrom cX4_isApartFrom 2 (some .boolean) :: xB
theorem xd_X4_isApartFrom : yX4_isApartFrom.cls = RX4 ∧ yX4_isApartFrom.cls ≠ "java/lang/invoke/MethodHandle" ∧ yX4_isApartFrom.cls ≠ "java/lang/invoke/VarHandle" ∧ (parseMethodDescriptor yX4_isApartFrom.desc).map (fun d => d.parameters.length) = some 1 := by decide +kernel
def fX4_isApartFrom (nS : Nat) (nT : Nat) (j0 : Nat) (a1 : Int32) (sc : xSC) : Option Int32 := (if (((sc.1 11 j0 6) >>> (a1 &&& 31)) &&& 1) = 0 then some 0 else some 1)
set_option maxHeartbeats 4000000 in
set_option maxRecDepth 100000 in
theorem kX4_isApartFrom (l : Launch) (hl0 : l.stackTraces = false) (G : xG) (sh : xSh) (sc : xSC) (sr : xSR) (sl : xSL) (j0 : Nat) (a1 : Int32) (hj0 : j0 < sh.2.2) (r : Int32) (hf : fX4_isApartFrom sh.2.1 sh.2.2 j0 a1 sc = some r) : xMet l yX4_isApartFrom zX4_isApartFrom rX4_isApartFrom G sh sc sr sl ([.ref (sh.1 11 j0), .int a1] : List Value) (xvI (.inr r)) (xWd G sh sc sr sl) := by
  refine xMet_of (cc := cX4_isApartFrom) (maxL := 2) (ret := (some .boolean)) (by decide) (Nat.le_of_ble_eq_true rfl) ?_
  intro p e s m below meth c F hT hW hr hlocks htab ls hl
  have F : CallFix p m c cX4_isApartFrom 2 s ([.ref (sh.1 11 j0), .int a1] : List Value).toArray xB RX4 := F
  have hx := F.1
  have hb := F.2.1
  have hS : va_S (xA G) s.heap s.heap [] := va_S.rf
  have hl : lv_has ls 2 [(0, .ref (sh.1 11 j0)), (1, .int a1)] := hl
  unfold fX4_isApartFrom at hf
  refine lv_aload_n hx hb dX4_isApartFrom_0 rfl (lv_at hl 0 rfl) ?_
  refine xget F hT hW xuX4 (xm_T hj0 (by decide)) xce_11 rfl 6 (by decide) xw_447 rfl rfl dX4_isApartFrom_1 ?_
  refine lv_iload_n hx hb dX4_isApartFrom_4 rfl (lv_at hl 1 rfl) ?_
  refine lv_ishr hx hb dX4_isApartFrom_5 ?_
  refine lv_iconst (v := 1) hx hb dX4_isApartFrom_6 (by decide) ?_
  refine lv_iand hx hb dX4_isApartFrom_7 ?_
  refine lv_if_eq (tgt := 15) hx hb dX4_isApartFrom_8 (by decide) (fun c1 => ?_) (fun c1 => ?_)
  · replace hf := if_t c1 hf
    refine lv_iconst (v := 0) hx hb dX4_isApartFrom_15 (by decide) ?_
    cases hf
    exact xret_i (ty := .boolean) F hr hlocks hS (by decide) rfl hW (Nat.le_of_ble_eq_true rfl) (Nat.le_of_ble_eq_true rfl) dX4_isApartFrom_16
  · replace hf := if_f c1 hf
    refine lv_iconst (v := 1) hx hb dX4_isApartFrom_11 (by decide) ?_
    refine lv_goto (tgt := 16) hx hb dX4_isApartFrom_12 (by decide) ?_
    cases hf
    exact xret_i (ty := .boolean) F hr hlocks hS (by decide) rfl hW (Nat.le_of_ble_eq_true rfl) (Nat.le_of_ble_eq_true rfl) dX4_isApartFrom_16
abbrev rX4_isPresentOn : Room := { frames := 1, cells := 0, slots := 0, locals := 20 }
abbrev zX4_isPresentOn : List Cond := Cond.code yX4_isPresentOn cX4_isPresentOn 2 (some .boolean) :: xB
theorem xd_X4_isPresentOn : yX4_isPresentOn.cls = RX4 ∧ yX4_isPresentOn.cls ≠ "java/lang/invoke/MethodHandle" ∧ yX4_isPresentOn.cls ≠ "java/lang/invoke/VarHandle" ∧ (parseMethodDescriptor yX4_isPresentOn.desc).map (fun d => d.parameters.length) = some 1 := by decide +kernel
def fX4_isPresentOn (nS : Nat) (nT : Nat) (j0 : Nat) (a1 : Int32) (sc : xSC) : Option Int32 := (if (sc.1 11 j0 3) = a1 then some 1 else oB (fX1_isBeforeCutting nS nT 9 j0 sc) (fun v2 => (if v2 = 0 then some 0 else (if (sc.1 9 j0 2) = a1 then some 1 else some 0))))
set_option maxHeartbeats 4000000 in
set_option maxRecDepth 100000 in
theorem kX4_isPresentOn (l : Launch) (hl0 : l.stackTraces = false) (G : xG) (sh : xSh) (sc : xSC) (sr : xSR) (sl : xSL) (j0 : Nat) (a1 : Int32) (hj0 : j0 < sh.2.2) (r : Int32) (hf : fX4_isPresentOn sh.2.1 sh.2.2 j0 a1 sc = some r) : xMet l yX4_isPresentOn zX4_isPresentOn rX4_isPresentOn G sh sc sr sl ([.ref (sh.1 11 j0), .int a1] : List Value) (xvI (.inr r)) (xWd G sh sc sr sl) := by
  refine xMet_of (cc := cX4_isPresentOn) (maxL := 2) (ret := (some .boolean)) (by decide) (Nat.le_of_ble_eq_true rfl) ?_
  intro p e s m below meth c F hT hW hr hlocks htab ls hl
  have F : CallFix p m c cX4_isPresentOn 2 s ([.ref (sh.1 11 j0), .int a1] : List Value).toArray xB RX4 := F
  have hx := F.1
  have hb := F.2.1
  have hS : va_S (xA G) s.heap s.heap [] := va_S.rf
  have hl : lv_has ls 2 [(0, .ref (sh.1 11 j0)), (1, .int a1)] := hl
  unfold fX4_isPresentOn at hf
  refine lv_aload_n hx hb dX4_isPresentOn_0 rfl (lv_at hl 0 rfl) ?_
  refine xget F hT hW xuX4 (xm_T hj0 (by decide)) xce_11 rfl 3 (by decide) xw_440 rfl rfl dX4_isPresentOn_1 ?_
  refine lv_iload_n hx hb dX4_isPresentOn_4 rfl (lv_at hl 1 rfl) ?_
  refine lv_icmp_eq (tgt := 29) hx hb dX4_isPresentOn_5 (by decide) (fun c1 => ?_) (fun c1 => ?_)
  · replace hf := if_t c1 hf
    refine lv_iconst (v := 1) hx hb dX4_isPresentOn_29 (by decide) ?_
    refine lv_goto (tgt := 34) hx hb dX4_isPresentOn_30 (by decide) ?_
    cases hf
    exact xret_i (ty := .boolean) F hr hlocks hS (by decide) rfl hW (Nat.le_of_ble_eq_true rfl) (Nat.le_of_ble_eq_true rfl) dX4_isPresentOn_34
  · replace hf := if_f c1 hf
    refine lv_aload_n hx hb dX4_isPresentOn_8 rfl (lv_at hl 0 rfl) ?_
    refine xget F hT hW xuX4 (xm_T hj0 (by decide)) xce_11 rfl 2 (by decide) xw_438 rfl rfl dX4_isPresentOn_9 ?_
    obtain ⟨v2, hc5, hf⟩ := oB_go hf
    refine xcallV (n := 0) F hT hW hS (xm_T hj0 (by decide)) (xce_mv (by decide)) rfl (kX1_isBeforeCutting l hl0 G sh sc sr sl 9 j0 (by decide) (xm_T hj0 (by decide)) _ hc5) (xgV xw_481 xw_482 xw_483 xw_3 xw_484) rfl xd_X1_isBeforeCutting ⟨Nat.le_of_ble_eq_true rfl, Nat.le_of_ble_eq_true rfl⟩ rfl hl.1 rfl (Nat.le_of_ble_eq_true rfl) dX4_isPresentOn_12 ⟨Nat.le_of_ble_eq_true rfl, Nat.le_of_ble_eq_true rfl⟩ (fun v9 H locs hres hW hS => ?_) (fun E9 H locs q9 ce9 hres => by cases hres)
    cases hres
    refine W.eq (g2 := F0 m 15 ls (.int v2 :: [])) rfl ?_
    refine lv_if_eq (tgt := 33) hx hb dX4_isPresentOn_15 (by decide) (fun c3 => ?_) (fun c3 => ?_)
    · replace hf := if_t c3 hf
      refine lv_iconst (v := 0) hx hb dX4_isPresentOn_33 (by decide) ?_
      cases hf
      exact xret_i (ty := .boolean) F hr hlocks hS (by decide) rfl hW (Nat.le_of_ble_eq_true rfl) (Nat.le_of_ble_eq_true rfl) dX4_isPresentOn_34
    · replace hf := if_f c3 hf
      refine lv_aload_n hx hb dX4_isPresentOn_18 rfl (lv_at hl 0 rfl) ?_
      refine xget F hT hW xuX4 (xm_T hj0 (by decide)) xce_11 rfl 2 (by decide) xw_438 rfl rfl dX4_isPresentOn_19 ?_
      refine xgetN (host := "TenantPlacement") F hT hW xuX1 (xm_T hj0 (by decide)) (xce_mv (by decide)) rfl 2 (by decide) (List.mem_of_getElem? (i := 36) rfl) rfl rfl dX4_isPresentOn_22 ?_
      refine lv_iload_n hx hb dX4_isPresentOn_25 rfl (lv_at hl 1 rfl) ?_
      refine lv_icmp_ne (tgt := 33) hx hb dX4_isPresentOn_26 (by decide) (fun c4 => ?_) (fun c4 => ?_)
      · replace hf := if_f c4 hf
        refine lv_iconst (v := 0) hx hb dX4_isPresentOn_33 (by decide) ?_
        cases hf
        exact xret_i (ty := .boolean) F hr hlocks hS (by decide) rfl hW (Nat.le_of_ble_eq_true rfl) (Nat.le_of_ble_eq_true rfl) dX4_isPresentOn_34
      · replace hf := if_t c4 hf
        refine lv_iconst (v := 1) hx hb dX4_isPresentOn_29 (by decide) ?_
        refine lv_goto (tgt := 34) hx hb dX4_isPresentOn_30 (by decide) ?_
        cases hf
        exact xret_i (ty := .boolean) F hr hlocks hS (by decide) rfl hW (Nat.le_of_ble_eq_true rfl) (Nat.le_of_ble_eq_true rfl) dX4_isPresentOn_34
abbrev rX4_useOn : Room := { frames := 2, cells := 0, slots := 0, locals := 41 }
abbrev zX4_useOn : List Cond := Cond.code yX4_useOn cX4_useOn 4 (some .int) :: xB
theorem xd_X4_useOn : yX4_useOn.cls = RX4 ∧ yX4_useOn.cls ≠ "java/lang/invoke/MethodHandle" ∧ yX4_useOn.cls ≠ "java/lang/invoke/VarHandle" ∧ (parseMethodDescriptor yX4_useOn.desc).map (fun d => d.parameters.length) = some 2 := by decide +kernel
def fX4_useOn (nS : Nat) (nT : Nat) (j0 : Nat) (a1 : Int32) (a2 : Int32) (sc : xSC) : Option Int32 := oB (fX4_isPresentOn nS nT j0 a1 sc) (fun v1 => (if v1 = 0 then (if a2 = 0 then oB (fX1_isCleaning nS nT 9 j0 a1 sc) (fun v6 => (if v6 = 0 then some 0 else oB (fX0_of nS nT 8 j0 a2 sc) (fun v8 => some v8))) else some 0) else oB (fX0_of nS nT 8 j0 a2 sc) (fun v3 => some v3)))
set_option maxHeartbeats 4000000 in
set_option maxRecDepth 100000 in
theorem kX4_useOn (l : Launch) (hl0 : l.stackTraces = false) (G : xG) (sh : xSh) (sc : xSC) (sr : xSR) (sl : xSL) (j0 : Nat) (a1 : Int32) (a2 : Int32) (hj0 : j0 < sh.2.2) (r : Int32) (hf : fX4_useOn sh.2.1 sh.2.2 j0 a1 a2 sc = some r) : xMet l yX4_useOn zX4_useOn rX4_useOn G sh sc sr sl ([.ref (sh.1 11 j0), .int a1, .int a2] : List Value) (xvI (.inr r)) (xWd G sh sc sr sl) := by
  refine xMet_of (cc := cX4_useOn) (maxL := 4) (ret := (some .int)) (by decide) (Nat.le_of_ble_eq_true rfl) ?_
  intro p e s m below meth c F hT hW hr hlocks htab ls hl
  have F : CallFix p m c cX4_useOn 4 s ([.ref (sh.1 11 j0), .int a1, .int a2] : List Value).toArray xB RX4 := F
  have hx := F.1
  have hb := F.2.1
  have hS : va_S (xA G) s.heap s.heap [] := va_S.rf
  have hl : lv_has ls 4 [(0, .ref (sh.1 11 j0)), (1, .int a1), (2, .int a2)] := hl
  unfold fX4_useOn at hf
  refine lv_aload_n hx hb dX4_useOn_0 rfl (lv_at hl 0 rfl) ?_
  refine lv_iload_n hx hb dX4_useOn_1 rfl (lv_at hl 1 rfl) ?_
  obtain ⟨v1, hc11, hf⟩ := oB_go hf
  refine xcallV (n := 1) F hT hW hS (xm_T hj0 (by decide)) xce_11 rfl (kX4_isPresentOn l hl0 G sh sc sr sl j0 a1 hj0 _ hc11) (xgV xw_477 xw_478 xw_479 xw_16 xw_480) rfl xd_X4_isPresentOn ⟨Nat.le_of_ble_eq_true rfl, Nat.le_of_ble_eq_true rfl⟩ rfl hl.1 rfl (Nat.le_of_ble_eq_true rfl) dX4_useOn_2 ⟨Nat.le_of_ble_eq_true rfl, Nat.le_of_ble_eq_true rfl⟩ (fun v9 H locs hres hW hS => ?_) (fun E9 H locs q9 ce9 hres => by cases hres)
  cases hres
  refine W.eq (g2 := F0 m 5 ls (.int v1 :: [])) rfl ?_
  refine lv_if_ne (tgt := 23) hx hb dX4_useOn_5 (by decide) (fun c2 => ?_) (fun c2 => ?_)
  · replace hf := if_f c2 hf
    refine lv_iconst (v := 1) hx hb dX4_useOn_23 (by decide) ?_
    refine lv_goto (tgt := 28) hx hb dX4_useOn_24 (by decide) ?_
    refine lv_istore_n (lv' := [(3, .int 1), (0, .ref (sh.1 11 j0)), (1, .int a1), (2, .int a2)]) hx hb dX4_useOn_28 rfl hl (by decide) rfl (fun ls hl => ?_)
    refine lv_iload_n hx hb dX4_useOn_29 rfl (lv_at hl 0 rfl) ?_
    refine lv_if_eq (tgt := 44) hx hb dX4_useOn_30 (by decide) (fun c9 => absurd c9 (by decide)) (fun _ => ?_)
    refine lv_aload_n hx hb dX4_useOn_33 rfl (lv_at hl 1 rfl) ?_
    refine xget F hT hW xuX4 (xm_T hj0 (by decide)) xce_11 rfl 0 (by decide) xw_433 rfl rfl dX4_useOn_34 ?_
    refine lv_iload_n hx hb dX4_useOn_37 rfl (lv_at hl 3 rfl) ?_
    obtain ⟨v3, hc4, hf⟩ := oB_go hf
    refine xcallV (n := 1) F hT hW hS (xm_T hj0 (by decide)) (xce_am (by decide)) rfl (kX0_of l hl0 G sh sc sr sl 8 j0 a2 (by decide) (xm_T hj0 (by decide)) _ hc4) (xgV xw_489 xw_387 xw_388 xw_11 xw_389) rfl xd_X0_of ⟨Nat.le_of_ble_eq_true rfl, Nat.le_of_ble_eq_true rfl⟩ rfl hl.1 rfl (Nat.le_of_ble_eq_true rfl) dX4_useOn_38 ⟨Nat.le_of_ble_eq_true rfl, Nat.le_of_ble_eq_true rfl⟩ (fun v9 H locs hres hW hS => ?_) (fun E9 H locs q9 ce9 hres => by cases hres)
    cases hres
    refine W.eq (g2 := F0 m 41 ls (.int v3 :: [])) rfl ?_
    refine lv_goto (tgt := 45) hx hb dX4_useOn_41 (by decide) ?_
    cases hf
    exact xret_i (ty := .int) F hr hlocks hS rfl rfl hW (Nat.le_of_ble_eq_true rfl) (Nat.le_of_ble_eq_true rfl) dX4_useOn_45
  · replace hf := if_t c2 hf
    refine lv_iload_n hx hb dX4_useOn_8 rfl (lv_at hl 2 rfl) ?_
    refine lv_if_ne (tgt := 27) hx hb dX4_useOn_9 (by decide) (fun c5 => ?_) (fun c5 => ?_)
    · replace hf := if_f c5 hf
      refine lv_iconst (v := 0) hx hb dX4_useOn_27 (by decide) ?_
      refine lv_istore_n (lv' := [(3, .int 0), (0, .ref (sh.1 11 j0)), (1, .int a1), (2, .int a2)]) hx hb dX4_useOn_28 rfl hl (by decide) rfl (fun ls hl => ?_)
      refine lv_iload_n hx hb dX4_useOn_29 rfl (lv_at hl 0 rfl) ?_
      refine lv_if_eq (tgt := 44) hx hb dX4_useOn_30 (by decide) (fun _ => ?_) (fun c9 => absurd c9 (by decide))
      refine lv_iconst (v := 0) hx hb dX4_useOn_44 (by decide) ?_
      cases hf
      exact xret_i (ty := .int) F hr hlocks hS rfl rfl hW (Nat.le_of_ble_eq_true rfl) (Nat.le_of_ble_eq_true rfl) dX4_useOn_45
    · replace hf := if_t c5 hf
      refine lv_aload_n hx hb dX4_useOn_12 rfl (lv_at hl 0 rfl) ?_
      refine xget F hT hW xuX4 (xm_T hj0 (by decide)) xce_11 rfl 2 (by decide) xw_438 rfl rfl dX4_useOn_13 ?_
      refine lv_iload_n hx hb dX4_useOn_16 rfl (lv_at hl 1 rfl) ?_
      obtain ⟨v6, hc10, hf⟩ := oB_go hf
      refine xcallV (n := 1) F hT hW hS (xm_T hj0 (by decide)) (xce_mv (by decide)) rfl (kX1_isCleaning l hl0 G sh sc sr sl 9 j0 a1 (by decide) (xm_T hj0 (by decide)) _ hc10) (xgV xw_485 xw_486 xw_487 xw_3 xw_488) rfl xd_X1_isCleaning ⟨Nat.le_of_ble_eq_true rfl, Nat.le_of_ble_eq_true rfl⟩ rfl hl.1 rfl (Nat.le_of_ble_eq_true rfl) dX4_useOn_17 ⟨Nat.le_of_ble_eq_true rfl, Nat.le_of_ble_eq_true rfl⟩ (fun v9 H locs hres hW hS => ?_) (fun E9 H locs q9 ce9 hres => by cases hres)
      cases hres
      refine W.eq (g2 := F0 m 20 ls (.int v6 :: [])) rfl ?_
      refine lv_if_eq (tgt := 27) hx hb dX4_useOn_20 (by decide) (fun c7 => ?_) (fun c7 => ?_)
      · replace hf := if_t c7 hf
        refine lv_iconst (v := 0) hx hb dX4_useOn_27 (by decide) ?_
        refine lv_istore_n (lv' := [(3, .int 0), (0, .ref (sh.1 11 j0)), (1, .int a1), (2, .int a2)]) hx hb dX4_useOn_28 rfl hl (by decide) rfl (fun ls hl => ?_)
        refine lv_iload_n hx hb dX4_useOn_29 rfl (lv_at hl 0 rfl) ?_
        refine lv_if_eq (tgt := 44) hx hb dX4_useOn_30 (by decide) (fun _ => ?_) (fun c9 => absurd c9 (by decide))
        refine lv_iconst (v := 0) hx hb dX4_useOn_44 (by decide) ?_
        cases hf
        exact xret_i (ty := .int) F hr hlocks hS rfl rfl hW (Nat.le_of_ble_eq_true rfl) (Nat.le_of_ble_eq_true rfl) dX4_useOn_45
      · replace hf := if_f c7 hf
        refine lv_iconst (v := 1) hx hb dX4_useOn_23 (by decide) ?_
        refine lv_goto (tgt := 28) hx hb dX4_useOn_24 (by decide) ?_
        refine lv_istore_n (lv' := [(3, .int 1), (0, .ref (sh.1 11 j0)), (1, .int a1), (2, .int a2)]) hx hb dX4_useOn_28 rfl hl (by decide) rfl (fun ls hl => ?_)
        refine lv_iload_n hx hb dX4_useOn_29 rfl (lv_at hl 0 rfl) ?_
        refine lv_if_eq (tgt := 44) hx hb dX4_useOn_30 (by decide) (fun c9 => absurd c9 (by decide)) (fun _ => ?_)
        refine lv_aload_n hx hb dX4_useOn_33 rfl (lv_at hl 1 rfl) ?_
        refine xget F hT hW xuX4 (xm_T hj0 (by decide)) xce_11 rfl 0 (by decide) xw_433 rfl rfl dX4_useOn_34 ?_
        refine lv_iload_n hx hb dX4_useOn_37 rfl (lv_at hl 3 rfl) ?_
        obtain ⟨v8, hc9, hf⟩ := oB_go hf
        refine xcallV (n := 1) F hT hW hS (xm_T hj0 (by decide)) (xce_am (by decide)) rfl (kX0_of l hl0 G sh sc sr sl 8 j0 a2 (by decide) (xm_T hj0 (by decide)) _ hc9) (xgV xw_489 xw_387 xw_388 xw_11 xw_389) rfl xd_X0_of ⟨Nat.le_of_ble_eq_true rfl, Nat.le_of_ble_eq_true rfl⟩ rfl hl.1 rfl (Nat.le_of_ble_eq_true rfl) dX4_useOn_38 ⟨Nat.le_of_ble_eq_true rfl, Nat.le_of_ble_eq_true rfl⟩ (fun v9 H locs hres hW hS => ?_) (fun E9 H locs q9 ce9 hres => by cases hres)
        cases hres
        refine W.eq (g2 := F0 m 41 ls (.int v8 :: [])) rfl ?_
        refine lv_goto (tgt := 45) hx hb dX4_useOn_41 (by decide) ?_
        cases hf
        exact xret_i (ty := .int) F hr hlocks hS rfl rfl hW (Nat.le_of_ble_eq_true rfl) (Nat.le_of_ble_eq_true rfl) dX4_useOn_45
