/-! contracts of the constructors (written by wip/gen/ctors.py) -/
theorem xw_obj : Cond.code objectInit ⟨#[0xb1]⟩ 1 none ∈ xB := xB_of (i := 27) (by rfl) rfl
abbrev rX0_init : Room := { frames := 1, cells := 0, slots := 0, locals := 14 }
abbrev zX0_init : List Cond := Cond.code yX0_init cX0_init 4 none :: xB
theorem xd_X0_init : yX0_init.cls = RX0 ∧ yX0_init.cls ≠ "java/lang/invoke/MethodHandle" ∧ yX0_init.cls ≠ "java/lang/invoke/VarHandle" ∧ (parseMethodDescriptor yX0_init.desc).map (fun d => d.parameters.length) = some 3 := by decide +kernel
set_option maxHeartbeats 4000000 in
set_option maxRecDepth 100000 in
theorem kX0_init (l : Launch) (G : xG) (ws : va_W) (h0 : Nat) (a1 : Int32) (a2 : Int32) (a3 : Int32) : yMet l yX0_init zX0_init rX0_init G ([.ref h0, .int a1, .int a2, .int a3] : List Value) (ws ++ [(h0, .inr (2, [.int 0, .int 0, .int 0]))]) (fun w1 => w1 = ws ++ (h0, .inr (2, [.int a1, .int a2, .int a3])) :: []) := by
  refine yMet_of (cc := cX0_init) (maxL := 4) (by decide) rfl (Nat.le_of_ble_eq_true rfl) ?_
  intro p e s m below meth c F hT hP hD hr hlocks hmn ls hl
  have F : CallFix p m c cX0_init 4 s ([.ref h0, .int a1, .int a2, .int a3] : List Value).toArray xB RX0 := F
  have hx := F.1
  have hb := F.2.1
  have hS : va_S (xA G) s.heap s.heap [] := va_S.rf
  have hl : lv_has ls 4 [(0, .ref h0), (1, .int a1), (2, .int a2), (3, .int a3)] := hl
  refine lv_aload_n hx hb dX0_init_0 rfl (lv_at hl 0 rfl) ?_
  refine yobj F xw_287 xw_26 xw_obj hl.1 dX0_init_1 (Nat.le_of_ble_eq_true rfl) (Nat.le_of_ble_eq_true rfl) ?_
  refine lv_aload_n hx hb dX0_init_4 rfl (lv_at hl 0 rfl) ?_
  refine lv_iload_n hx hb dX0_init_5 rfl (lv_at hl 1 rfl) ?_
  refine yput (v := .int a1) (ty := .int) F hT hP hD hS xuX0 tyX0 tyX0_ok nmX0 rfl 0 (by decide) xw_288 rfl rfl (by decide +kernel) rfl rfl (Nat.le_of_ble_eq_true rfl) dX0_init_6 (fun H locs hP hD hS => ?_)
  have hP : va_P G.1 vwCl (ws ++ (h0, .inr (2, [.int a1, .int 0, .int 0])) :: []) H := hP
  have hD : va_D (xA G) (ws ++ (h0, .inr (2, [.int a1, .int 0, .int 0])) :: []) := hD
  refine lv_aload_n hx hb dX0_init_9 rfl (lv_at hl 0 rfl) ?_
  refine lv_iload_n hx hb dX0_init_10 rfl (lv_at hl 2 rfl) ?_
  refine yput (v := .int a2) (ty := .int) F hT hP hD hS xuX0 tyX0 tyX0_ok nmX0 rfl 1 (by decide) xw_291 rfl rfl (by decide +kernel) rfl rfl (Nat.le_of_ble_eq_true rfl) dX0_init_11 (fun H locs hP hD hS => ?_)
  have hP : va_P G.1 vwCl (ws ++ (h0, .inr (2, [.int a1, .int a2, .int 0])) :: []) H := hP
  have hD : va_D (xA G) (ws ++ (h0, .inr (2, [.int a1, .int a2, .int 0])) :: []) := hD
  refine lv_aload_n hx hb dX0_init_14 rfl (lv_at hl 0 rfl) ?_
  refine lv_iload_n hx hb dX0_init_15 rfl (lv_at hl 3 rfl) ?_
  refine yput (v := .int a3) (ty := .int) F hT hP hD hS xuX0 tyX0 tyX0_ok nmX0 rfl 2 (by decide) xw_294 rfl rfl (by decide +kernel) rfl rfl (Nat.le_of_ble_eq_true rfl) dX0_init_16 (fun H locs hP hD hS => ?_)
  have hP : va_P G.1 vwCl (ws ++ (h0, .inr (2, [.int a1, .int a2, .int a3])) :: []) H := hP
  have hD : va_D (xA G) (ws ++ (h0, .inr (2, [.int a1, .int a2, .int a3])) :: []) := hD
  exact yret F hr hlocks hS (rfl) hP hD (Nat.le_of_ble_eq_true rfl) (Nat.le_of_ble_eq_true rfl) dX0_init_19
abbrev rX1_init : Room := { frames := 1, cells := 0, slots := 0, locals := 14 }
abbrev zX1_init : List Cond := Cond.code yX1_init cX1_init 1 none :: xB
theorem xd_X1_init : yX1_init.cls = RX1 ∧ yX1_init.cls ≠ "java/lang/invoke/MethodHandle" ∧ yX1_init.cls ≠ "java/lang/invoke/VarHandle" ∧ (parseMethodDescriptor yX1_init.desc).map (fun d => d.parameters.length) = some 0 := by decide +kernel
set_option maxHeartbeats 4000000 in
set_option maxRecDepth 100000 in
theorem kX1_init (l : Launch) (G : xG) (ws : va_W) (h0 : Nat) : yMet l yX1_init zX1_init rX1_init G ([.ref h0] : List Value) (ws ++ [(h0, .inr (3, [.int 0, .int 0, .int 0, .int 0]))]) (fun w1 => w1 = ws ++ (h0, .inr (3, [.int 45, .int 0, .int 0, .int 0])) :: []) := by
  refine yMet_of (cc := cX1_init) (maxL := 1) (by decide) rfl (Nat.le_of_ble_eq_true rfl) ?_
  intro p e s m below meth c F hT hP hD hr hlocks hmn ls hl
  have F : CallFix p m c cX1_init 1 s ([.ref h0] : List Value).toArray xB RX1 := F
  have hx := F.1
  have hb := F.2.1
  have hS : va_S (xA G) s.heap s.heap [] := va_S.rf
  have hl : lv_has ls 1 [(0, .ref h0)] := hl
  refine lv_aload_n hx hb dX1_init_0 rfl (lv_at hl 0 rfl) ?_
  refine yobj F xw_52 xw_26 xw_obj hl.1 dX1_init_1 (Nat.le_of_ble_eq_true rfl) (Nat.le_of_ble_eq_true rfl) ?_
  refine lv_aload_n hx hb dX1_init_4 rfl (lv_at hl 0 rfl) ?_
  refine lv_bipush (v := 45) hx hb dX1_init_5 (by decide) ?_
  refine yput (v := .int 45) (ty := .char) F hT hP hD hS xuX1 tyX1 tyX1_ok nmX1 rfl 0 (by decide) xw_53 rfl rfl (by decide +kernel) (by decide) (by decide) (Nat.le_of_ble_eq_true rfl) dX1_init_7 (fun H locs hP hD hS => ?_)
  have hP : va_P G.1 vwCl (ws ++ (h0, .inr (3, [.int 45, .int 0, .int 0, .int 0])) :: []) H := hP
  have hD : va_D (xA G) (ws ++ (h0, .inr (3, [.int 45, .int 0, .int 0, .int 0])) :: []) := hD
  exact yret F hr hlocks hS (rfl) hP hD (Nat.le_of_ble_eq_true rfl) (Nat.le_of_ble_eq_true rfl) dX1_init_10
abbrev rX2_init : Room := { frames := 1, cells := 0, slots := 0, locals := 14 }
abbrev zX2_init : List Cond := Cond.code yX2_init cX2_init 1 none :: xB
theorem xd_X2_init : yX2_init.cls = RX2 ∧ yX2_init.cls ≠ "java/lang/invoke/MethodHandle" ∧ yX2_init.cls ≠ "java/lang/invoke/VarHandle" ∧ (parseMethodDescriptor yX2_init.desc).map (fun d => d.parameters.length) = some 0 := by decide +kernel
set_option maxHeartbeats 4000000 in
set_option maxRecDepth 100000 in
theorem kX2_init (l : Launch) (G : xG) (ws : va_W) (h0 : Nat) : yMet l yX2_init zX2_init rX2_init G ([.ref h0] : List Value) (ws ++ [(h0, .inr (4, [.int 0, .int 0]))]) (fun w1 => w1 = ws ++ (h0, .inr (4, [.int 0, .int 0])) :: []) := by
  refine yMet_of (cc := cX2_init) (maxL := 1) (by decide) rfl (Nat.le_of_ble_eq_true rfl) ?_
  intro p e s m below meth c F hT hP hD hr hlocks hmn ls hl
  have F : CallFix p m c cX2_init 1 s ([.ref h0] : List Value).toArray xB RX2 := F
  have hx := F.1
  have hb := F.2.1
  have hS : va_S (xA G) s.heap s.heap [] := va_S.rf
  have hl : lv_has ls 1 [(0, .ref h0)] := hl
  refine lv_aload_n hx hb dX2_init_0 rfl (lv_at hl 0 rfl) ?_
  refine yobj F xw_37 xw_26 xw_obj hl.1 dX2_init_1 (Nat.le_of_ble_eq_true rfl) (Nat.le_of_ble_eq_true rfl) ?_
  exact yret F hr hlocks hS (rfl) hP hD (Nat.le_of_ble_eq_true rfl) (Nat.le_of_ble_eq_true rfl) dX2_init_4
abbrev rX3_init : Room := { frames := 2, cells := 3, slots := 9, locals := 37 }
abbrev zX3_init : List Cond := Cond.code yX3_init cX3_init 4 none :: xB
theorem xd_X3_init : yX3_init.cls = RX3 ∧ yX3_init.cls ≠ "java/lang/invoke/MethodHandle" ∧ yX3_init.cls ≠ "java/lang/invoke/VarHandle" ∧ (parseMethodDescriptor yX3_init.desc).map (fun d => d.parameters.length) = some 3 := by decide +kernel
set_option maxHeartbeats 4000000 in
set_option maxRecDepth 100000 in
theorem kX3_init (l : Launch) (G : xG) (ws : va_W) (h0 : Nat) (a1 : Int32) (a2 : Int32) (a3 : Int32) : yMet l yX3_init zX3_init rX3_init G ([.ref h0, .int a1, .int a2, .int a3] : List Value) (ws ++ [(h0, .inr (5, [.null, .null, .int 0, .null, .int 0]))]) (fun w1 => ∃ q1 q2 q3 : Nat, w1 = ws ++ (h0, .inr (5, [.ref q1, .ref q2, .int 1, .ref q3, .int 0])) :: [(q1, .inr (2, [.int a1, .int a2, .int a3])), (q2, .inr (2, [.int 0, .int 0, .int 0])), (q3, .inr (2, [.int 0, .int 0, .int 0]))]) := by
  refine yMet_of (cc := cX3_init) (maxL := 4) (by decide) rfl (Nat.le_of_ble_eq_true rfl) ?_
  intro p e s m below meth c F hT hP hD hr hlocks hmn ls hl
  have F : CallFix p m c cX3_init 4 s ([.ref h0, .int a1, .int a2, .int a3] : List Value).toArray xB RX3 := F
  have hx := F.1
  have hb := F.2.1
  have hS : va_S (xA G) s.heap s.heap [] := va_S.rf
  have hl : lv_has ls 4 [(0, .ref h0), (1, .int a1), (2, .int a2), (3, .int a3)] := hl
  refine lv_aload_n hx hb dX3_init_0 rfl (lv_at hl 0 rfl) ?_
  refine yobj F xw_281 xw_26 xw_obj hl.1 dX3_init_1 (Nat.le_of_ble_eq_true rfl) (Nat.le_of_ble_eq_true rfl) ?_
  refine lv_aload_n hx hb dX3_init_4 rfl (lv_at hl 0 rfl) ?_
  refine ynew (ci := 2) (fs := [.int 0, .int 0, .int 0]) F hT hP hD hS xuX0 tyX0 tyX0_ok xw_282 xw_283 xw_11 rfl (fun j hj => by rcases (show j = 0 ∨ j = 1 ∨ j = 2 by omega) with rfl | rfl | rfl <;> rfl) (Nat.le_of_ble_eq_true rfl) (Nat.le_of_ble_eq_true rfl) dX3_init_5 (fun q1 H hP hD hS => ?_)
  refine lv_dup hx hb dX3_init_8 rfl ?_
  refine lv_iload_n hx hb dX3_init_9 rfl (lv_at hl 1 rfl) ?_
  refine lv_iload_n hx hb dX3_init_10 rfl (lv_at hl 2 rfl) ?_
  refine lv_iload_n hx hb dX3_init_11 rfl (lv_at hl 3 rfl) ?_
  refine ycallI (n := 3) F hT hP hD hS (kX0_init l G (ws ++ (h0, .inr (5, [.null, .null, .int 0, .null, .int 0])) :: []) q1 a1 a2 a3) xw_284 xw_285 xw_11 xw_286 rfl xd_X0_init.2 ⟨(Nat.le_of_ble_eq_true rfl), (Nat.le_of_ble_eq_true rfl)⟩ rfl hl.1 rfl (Nat.le_of_ble_eq_true rfl) dX3_init_12 ⟨(Nat.le_of_ble_eq_true rfl), (Nat.le_of_ble_eq_true rfl)⟩ (fun w1 H locs hw hP hD hS => ?_)
  subst hw
  rw [y_as] at hP hD
  have hP : va_P G.1 vwCl (ws ++ (h0, .inr (5, [.null, .null, .int 0, .null, .int 0])) :: [(q1, .inr (2, [.int a1, .int a2, .int a3]))]) H := hP
  have hD : va_D (xA G) (ws ++ (h0, .inr (5, [.null, .null, .int 0, .null, .int 0])) :: [(q1, .inr (2, [.int a1, .int a2, .int a3]))]) := hD
  refine yputF (v := .ref q1) (ty := .object "TenantPlacement$Amounts") F hT hP hD hS xuX3 tyX3 tyX3_ok nmX3 rfl hmn 0 (by decide) xw_304 rfl rfl rfl (by decide +kernel) rfl rfl (Nat.le_of_ble_eq_true rfl) dX3_init_15 (fun H locs hP hD hS => ?_)
  have hP : va_P G.1 vwCl (ws ++ (h0, .inr (5, [.ref q1, .null, .int 0, .null, .int 0])) :: [(q1, .inr (2, [.int a1, .int a2, .int a3]))]) H := hP
  have hD : va_D (xA G) (ws ++ (h0, .inr (5, [.ref q1, .null, .int 0, .null, .int 0])) :: [(q1, .inr (2, [.int a1, .int a2, .int a3]))]) := hD
  refine lv_aload_n hx hb dX3_init_18 rfl (lv_at hl 0 rfl) ?_
  refine ynew (ci := 2) (fs := [.int 0, .int 0, .int 0]) F hT hP hD hS xuX0 tyX0 tyX0_ok xw_282 xw_283 xw_11 rfl (fun j hj => by rcases (show j = 0 ∨ j = 1 ∨ j = 2 by omega) with rfl | rfl | rfl <;> rfl) (Nat.le_of_ble_eq_true rfl) (Nat.le_of_ble_eq_true rfl) dX3_init_19 (fun q2 H hP hD hS => ?_)
  refine lv_dup hx hb dX3_init_22 rfl ?_
  refine lv_iconst (v := 0) hx hb dX3_init_23 (by decide) ?_
  refine lv_iconst (v := 0) hx hb dX3_init_24 (by decide) ?_
  refine lv_iconst (v := 0) hx hb dX3_init_25 (by decide) ?_
  refine ycallI (n := 3) F hT hP hD hS (kX0_init l G (ws ++ (h0, .inr (5, [.ref q1, .null, .int 0, .null, .int 0])) :: [(q1, .inr (2, [.int a1, .int a2, .int a3]))]) q2 0 0 0) xw_284 xw_285 xw_11 xw_286 rfl xd_X0_init.2 ⟨(Nat.le_of_ble_eq_true rfl), (Nat.le_of_ble_eq_true rfl)⟩ rfl hl.1 rfl (Nat.le_of_ble_eq_true rfl) dX3_init_26 ⟨(Nat.le_of_ble_eq_true rfl), (Nat.le_of_ble_eq_true rfl)⟩ (fun w1 H locs hw hP hD hS => ?_)
  subst hw
  rw [y_as] at hP hD
  have hP : va_P G.1 vwCl (ws ++ (h0, .inr (5, [.ref q1, .null, .int 0, .null, .int 0])) :: [(q1, .inr (2, [.int a1, .int a2, .int a3])), (q2, .inr (2, [.int 0, .int 0, .int 0]))]) H := hP
  have hD : va_D (xA G) (ws ++ (h0, .inr (5, [.ref q1, .null, .int 0, .null, .int 0])) :: [(q1, .inr (2, [.int a1, .int a2, .int a3])), (q2, .inr (2, [.int 0, .int 0, .int 0]))]) := hD
  refine yputF (v := .ref q2) (ty := .object "TenantPlacement$Amounts") F hT hP hD hS xuX3 tyX3 tyX3_ok nmX3 rfl hmn 1 (by decide) xw_306 rfl rfl rfl (by decide +kernel) rfl rfl (Nat.le_of_ble_eq_true rfl) dX3_init_29 (fun H locs hP hD hS => ?_)
  have hP : va_P G.1 vwCl (ws ++ (h0, .inr (5, [.ref q1, .ref q2, .int 0, .null, .int 0])) :: [(q1, .inr (2, [.int a1, .int a2, .int a3])), (q2, .inr (2, [.int 0, .int 0, .int 0]))]) H := hP
  have hD : va_D (xA G) (ws ++ (h0, .inr (5, [.ref q1, .ref q2, .int 0, .null, .int 0])) :: [(q1, .inr (2, [.int a1, .int a2, .int a3])), (q2, .inr (2, [.int 0, .int 0, .int 0]))]) := hD
  refine lv_aload_n hx hb dX3_init_32 rfl (lv_at hl 0 rfl) ?_
  refine lv_iconst (v := 1) hx hb dX3_init_33 (by decide) ?_
  refine yput (v := .int 1) (ty := .boolean) F hT hP hD hS xuX3 tyX3 tyX3_ok nmX3 rfl 2 (by decide) xw_308 rfl rfl (by decide +kernel) (by decide) (by decide) (Nat.le_of_ble_eq_true rfl) dX3_init_34 (fun H locs hP hD hS => ?_)
  have hP : va_P G.1 vwCl (ws ++ (h0, .inr (5, [.ref q1, .ref q2, .int 1, .null, .int 0])) :: [(q1, .inr (2, [.int a1, .int a2, .int a3])), (q2, .inr (2, [.int 0, .int 0, .int 0]))]) H := hP
  have hD : va_D (xA G) (ws ++ (h0, .inr (5, [.ref q1, .ref q2, .int 1, .null, .int 0])) :: [(q1, .inr (2, [.int a1, .int a2, .int a3])), (q2, .inr (2, [.int 0, .int 0, .int 0]))]) := hD
  refine lv_aload_n hx hb dX3_init_37 rfl (lv_at hl 0 rfl) ?_
  refine ynew (ci := 2) (fs := [.int 0, .int 0, .int 0]) F hT hP hD hS xuX0 tyX0 tyX0_ok xw_282 xw_283 xw_11 rfl (fun j hj => by rcases (show j = 0 ∨ j = 1 ∨ j = 2 by omega) with rfl | rfl | rfl <;> rfl) (Nat.le_of_ble_eq_true rfl) (Nat.le_of_ble_eq_true rfl) dX3_init_38 (fun q3 H hP hD hS => ?_)
  refine lv_dup hx hb dX3_init_41 rfl ?_
  refine lv_iconst (v := 0) hx hb dX3_init_42 (by decide) ?_
  refine lv_iconst (v := 0) hx hb dX3_init_43 (by decide) ?_
  refine lv_iconst (v := 0) hx hb dX3_init_44 (by decide) ?_
  refine ycallI (n := 3) F hT hP hD hS (kX0_init l G (ws ++ (h0, .inr (5, [.ref q1, .ref q2, .int 1, .null, .int 0])) :: [(q1, .inr (2, [.int a1, .int a2, .int a3])), (q2, .inr (2, [.int 0, .int 0, .int 0]))]) q3 0 0 0) xw_284 xw_285 xw_11 xw_286 rfl xd_X0_init.2 ⟨(Nat.le_of_ble_eq_true rfl), (Nat.le_of_ble_eq_true rfl)⟩ rfl hl.1 rfl (Nat.le_of_ble_eq_true rfl) dX3_init_45 ⟨(Nat.le_of_ble_eq_true rfl), (Nat.le_of_ble_eq_true rfl)⟩ (fun w1 H locs hw hP hD hS => ?_)
  subst hw
  rw [y_as] at hP hD
  have hP : va_P G.1 vwCl (ws ++ (h0, .inr (5, [.ref q1, .ref q2, .int 1, .null, .int 0])) :: [(q1, .inr (2, [.int a1, .int a2, .int a3])), (q2, .inr (2, [.int 0, .int 0, .int 0])), (q3, .inr (2, [.int 0, .int 0, .int 0]))]) H := hP
  have hD : va_D (xA G) (ws ++ (h0, .inr (5, [.ref q1, .ref q2, .int 1, .null, .int 0])) :: [(q1, .inr (2, [.int a1, .int a2, .int a3])), (q2, .inr (2, [.int 0, .int 0, .int 0])), (q3, .inr (2, [.int 0, .int 0, .int 0]))]) := hD
  refine yputF (v := .ref q3) (ty := .object "TenantPlacement$Amounts") F hT hP hD hS xuX3 tyX3 tyX3_ok nmX3 rfl hmn 3 (by decide) xw_310 rfl rfl rfl (by decide +kernel) rfl rfl (Nat.le_of_ble_eq_true rfl) dX3_init_48 (fun H locs hP hD hS => ?_)
  have hP : va_P G.1 vwCl (ws ++ (h0, .inr (5, [.ref q1, .ref q2, .int 1, .ref q3, .int 0])) :: [(q1, .inr (2, [.int a1, .int a2, .int a3])), (q2, .inr (2, [.int 0, .int 0, .int 0])), (q3, .inr (2, [.int 0, .int 0, .int 0]))]) H := hP
  have hD : va_D (xA G) (ws ++ (h0, .inr (5, [.ref q1, .ref q2, .int 1, .ref q3, .int 0])) :: [(q1, .inr (2, [.int a1, .int a2, .int a3])), (q2, .inr (2, [.int 0, .int 0, .int 0])), (q3, .inr (2, [.int 0, .int 0, .int 0]))]) := hD
  exact yret F hr hlocks hS (⟨q1, q2, q3, rfl⟩) hP hD (Nat.le_of_ble_eq_true rfl) (Nat.le_of_ble_eq_true rfl) dX3_init_51
abbrev rX4_init : Room := { frames := 2, cells := 2, slots := 7, locals := 37 }
abbrev zX4_init : List Cond := Cond.code yX4_init cX4_init 6 none :: xB
theorem xd_X4_init : yX4_init.cls = RX4 ∧ yX4_init.cls ≠ "java/lang/invoke/MethodHandle" ∧ yX4_init.cls ≠ "java/lang/invoke/VarHandle" ∧ (parseMethodDescriptor yX4_init.desc).map (fun d => d.parameters.length) = some 5 := by decide +kernel
set_option maxHeartbeats 4000000 in
set_option maxRecDepth 100000 in
theorem kX4_init (l : Launch) (G : xG) (ws : va_W) (h0 : Nat) (a1 : Int32) (a2 : Int32) (a3 : Int32) (a4 : Int32) (a5 : Int32) : yMet l yX4_init zX4_init rX4_init G ([.ref h0, .int a1, .int a2, .int a3, .int a4, .int a5] : List Value) (ws ++ [(h0, .inr (6, [.null, .int 0, .null, .int 0, .int 0, .int 0, .int 0, .int 0]))]) (fun w1 => ∃ q1 q2 : Nat, w1 = ws ++ (h0, .inr (6, [.ref q1, .int a5, .ref q2, .int a1, .int 0, .int 0, .int 0, .int 0])) :: [(q1, .inr (2, [.int a2, .int a3, .int a4])), (q2, .inr (3, [.int 45, .int 0, .int 0, .int 0]))]) := by
  refine yMet_of (cc := cX4_init) (maxL := 6) (by decide) rfl (Nat.le_of_ble_eq_true rfl) ?_
  intro p e s m below meth c F hT hP hD hr hlocks hmn ls hl
  have F : CallFix p m c cX4_init 6 s ([.ref h0, .int a1, .int a2, .int a3, .int a4, .int a5] : List Value).toArray xB RX4 := F
  have hx := F.1
  have hb := F.2.1
  have hS : va_S (xA G) s.heap s.heap [] := va_S.rf
  have hl : lv_has ls 6 [(0, .ref h0), (1, .int a1), (2, .int a2), (3, .int a3), (4, .int a4), (5, .int a5)] := hl
  refine lv_aload_n hx hb dX4_init_0 rfl (lv_at hl 0 rfl) ?_
  refine yobj F xw_428 xw_26 xw_obj hl.1 dX4_init_1 (Nat.le_of_ble_eq_true rfl) (Nat.le_of_ble_eq_true rfl) ?_
  refine lv_aload_n hx hb dX4_init_4 rfl (lv_at hl 0 rfl) ?_
  refine lv_iload_n hx hb dX4_init_5 rfl (lv_at hl 1 rfl) ?_
  refine yput (v := .int a1) (ty := .int) F hT hP hD hS xuX4 tyX4 tyX4_ok nmX4 rfl 3 (by decide) xw_440 rfl rfl (by decide +kernel) rfl rfl (Nat.le_of_ble_eq_true rfl) dX4_init_6 (fun H locs hP hD hS => ?_)
  have hP : va_P G.1 vwCl (ws ++ (h0, .inr (6, [.null, .int 0, .null, .int a1, .int 0, .int 0, .int 0, .int 0])) :: []) H := hP
  have hD : va_D (xA G) (ws ++ (h0, .inr (6, [.null, .int 0, .null, .int a1, .int 0, .int 0, .int 0, .int 0])) :: []) := hD
  refine lv_aload_n hx hb dX4_init_9 rfl (lv_at hl 0 rfl) ?_
  refine lv_iload hx hb dX4_init_10 (lv_at hl 5 rfl) ?_
  refine yputF (v := .int a5) (ty := .int) F hT hP hD hS xuX4 tyX4 tyX4_ok nmX4 rfl hmn 1 (by decide) xw_436 rfl rfl rfl (by decide +kernel) rfl rfl (Nat.le_of_ble_eq_true rfl) dX4_init_12 (fun H locs hP hD hS => ?_)
  have hP : va_P G.1 vwCl (ws ++ (h0, .inr (6, [.null, .int a5, .null, .int a1, .int 0, .int 0, .int 0, .int 0])) :: []) H := hP
  have hD : va_D (xA G) (ws ++ (h0, .inr (6, [.null, .int a5, .null, .int a1, .int 0, .int 0, .int 0, .int 0])) :: []) := hD
  refine lv_aload_n hx hb dX4_init_15 rfl (lv_at hl 0 rfl) ?_
  refine ynew (ci := 2) (fs := [.int 0, .int 0, .int 0]) F hT hP hD hS xuX0 tyX0 tyX0_ok xw_429 xw_283 xw_11 rfl (fun j hj => by rcases (show j = 0 ∨ j = 1 ∨ j = 2 by omega) with rfl | rfl | rfl <;> rfl) (Nat.le_of_ble_eq_true rfl) (Nat.le_of_ble_eq_true rfl) dX4_init_16 (fun q1 H hP hD hS => ?_)
  refine lv_dup hx hb dX4_init_19 rfl ?_
  refine lv_iload_n hx hb dX4_init_20 rfl (lv_at hl 2 rfl) ?_
  refine lv_iload_n hx hb dX4_init_21 rfl (lv_at hl 3 rfl) ?_
  refine lv_iload hx hb dX4_init_22 (lv_at hl 4 rfl) ?_
  refine ycallI (n := 3) F hT hP hD hS (kX0_init l G (ws ++ (h0, .inr (6, [.null, .int a5, .null, .int a1, .int 0, .int 0, .int 0, .int 0])) :: []) q1 a2 a3 a4) xw_430 xw_285 xw_11 xw_286 rfl xd_X0_init.2 ⟨(Nat.le_of_ble_eq_true rfl), (Nat.le_of_ble_eq_true rfl)⟩ rfl hl.1 rfl (Nat.le_of_ble_eq_true rfl) dX4_init_24 ⟨(Nat.le_of_ble_eq_true rfl), (Nat.le_of_ble_eq_true rfl)⟩ (fun w1 H locs hw hP hD hS => ?_)
  subst hw
  rw [y_as] at hP hD
  have hP : va_P G.1 vwCl (ws ++ (h0, .inr (6, [.null, .int a5, .null, .int a1, .int 0, .int 0, .int 0, .int 0])) :: [(q1, .inr (2, [.int a2, .int a3, .int a4]))]) H := hP
  have hD : va_D (xA G) (ws ++ (h0, .inr (6, [.null, .int a5, .null, .int a1, .int 0, .int 0, .int 0, .int 0])) :: [(q1, .inr (2, [.int a2, .int a3, .int a4]))]) := hD
  refine yputF (v := .ref q1) (ty := .object "TenantPlacement$Amounts") F hT hP hD hS xuX4 tyX4 tyX4_ok nmX4 rfl hmn 0 (by decide) xw_433 rfl rfl rfl (by decide +kernel) rfl rfl (Nat.le_of_ble_eq_true rfl) dX4_init_27 (fun H locs hP hD hS => ?_)
  have hP : va_P G.1 vwCl (ws ++ (h0, .inr (6, [.ref q1, .int a5, .null, .int a1, .int 0, .int 0, .int 0, .int 0])) :: [(q1, .inr (2, [.int a2, .int a3, .int a4]))]) H := hP
  have hD : va_D (xA G) (ws ++ (h0, .inr (6, [.ref q1, .int a5, .null, .int a1, .int 0, .int 0, .int 0, .int 0])) :: [(q1, .inr (2, [.int a2, .int a3, .int a4]))]) := hD
  refine lv_aload_n hx hb dX4_init_30 rfl (lv_at hl 0 rfl) ?_
  refine ynew (ci := 3) (fs := [.int 0, .int 0, .int 0, .int 0]) F hT hP hD hS xuX1 tyX1 tyX1_ok xw_431 xw_48 xw_3 rfl (fun j hj => by rcases (show j = 0 ∨ j = 1 ∨ j = 2 ∨ j = 3 by omega) with rfl | rfl | rfl | rfl <;> rfl) (Nat.le_of_ble_eq_true rfl) (Nat.le_of_ble_eq_true rfl) dX4_init_31 (fun q2 H hP hD hS => ?_)
  refine lv_dup hx hb dX4_init_34 rfl ?_
  refine ycallI (n := 0) F hT hP hD hS (kX1_init l G (ws ++ (h0, .inr (6, [.ref q1, .int a5, .null, .int a1, .int 0, .int 0, .int 0, .int 0])) :: [(q1, .inr (2, [.int a2, .int a3, .int a4]))]) q2) xw_432 xw_50 xw_3 xw_51 rfl xd_X1_init.2 ⟨(Nat.le_of_ble_eq_true rfl), (Nat.le_of_ble_eq_true rfl)⟩ rfl hl.1 rfl (Nat.le_of_ble_eq_true rfl) dX4_init_35 ⟨(Nat.le_of_ble_eq_true rfl), (Nat.le_of_ble_eq_true rfl)⟩ (fun w1 H locs hw hP hD hS => ?_)
  subst hw
  rw [y_as] at hP hD
  have hP : va_P G.1 vwCl (ws ++ (h0, .inr (6, [.ref q1, .int a5, .null, .int a1, .int 0, .int 0, .int 0, .int 0])) :: [(q1, .inr (2, [.int a2, .int a3, .int a4])), (q2, .inr (3, [.int 45, .int 0, .int 0, .int 0]))]) H := hP
  have hD : va_D (xA G) (ws ++ (h0, .inr (6, [.ref q1, .int a5, .null, .int a1, .int 0, .int 0, .int 0, .int 0])) :: [(q1, .inr (2, [.int a2, .int a3, .int a4])), (q2, .inr (3, [.int 45, .int 0, .int 0, .int 0]))]) := hD
  refine yputF (v := .ref q2) (ty := .object "TenantPlacement$Move") F hT hP hD hS xuX4 tyX4 tyX4_ok nmX4 rfl hmn 2 (by decide) xw_438 rfl rfl rfl (by decide +kernel) rfl rfl (Nat.le_of_ble_eq_true rfl) dX4_init_38 (fun H locs hP hD hS => ?_)
  have hP : va_P G.1 vwCl (ws ++ (h0, .inr (6, [.ref q1, .int a5, .ref q2, .int a1, .int 0, .int 0, .int 0, .int 0])) :: [(q1, .inr (2, [.int a2, .int a3, .int a4])), (q2, .inr (3, [.int 45, .int 0, .int 0, .int 0]))]) H := hP
  have hD : va_D (xA G) (ws ++ (h0, .inr (6, [.ref q1, .int a5, .ref q2, .int a1, .int 0, .int 0, .int 0, .int 0])) :: [(q1, .inr (2, [.int a2, .int a3, .int a4])), (q2, .inr (3, [.int 45, .int 0, .int 0, .int 0]))]) := hD
  exact yret F hr hlocks hS (⟨q1, q2, rfl⟩) hP hD (Nat.le_of_ble_eq_true rfl) (Nat.le_of_ble_eq_true rfl) dX4_init_41
