abbrev rX6_hoursByPassing : Room := { frames := 4, cells := 0, slots := 0, locals := 86 }
abbrev zX6_hoursByPassing : List Cond := Cond.code yX6_hoursByPassing cX6_hoursByPassing 2 (some .int) :: xB
theorem xd_X6_hoursByPassing : yX6_hoursByPassing.cls = RX6 ∧ yX6_hoursByPassing.cls ≠ "java/lang/invoke/MethodHandle" ∧ yX6_hoursByPassing.cls ≠ "java/lang/invoke/VarHandle" ∧ (parseMethodDescriptor yX6_hoursByPassing.desc).map (fun d => d.parameters.length) = some 1 := by decide +kernel
def fX6_hoursByPassing (a1 : Int32) (sr : xSR) : Option (Int32 × xSR) := oP (fX6_goneOn a1 sr) (fun v1 s2 => some (v1, s2))
set_option maxHeartbeats 4000000 in
set_option maxRecDepth 100000 in
theorem kX6_hoursByPassing (l : Launch) (hl0 : l.stackTraces = false) (G : xG) (sh : xSh) (sc : xSC) (sr : xSR) (sl : xSL) (a1 : Int32) (r : (Int32 × xSR)) (hf : fX6_hoursByPassing a1 sr = some r) : xMet l yX6_hoursByPassing zX6_hoursByPassing rX6_hoursByPassing G sh sc sr sl ([.ref (sh.1 12 0), .int a1] : List Value) (xvI (.inr r.1)) (xWd G sh sc r.2 sl) := by
  refine xMet_of (cc := cX6_hoursByPassing) (maxL := 2) (ret := (some .int)) (by decide) (Nat.le_of_ble_eq_true rfl) ?_
  intro p e s m below meth c F hT hW hr hlocks htab ls hl
  have F : CallFix p m c cX6_hoursByPassing 2 s ([.ref (sh.1 12 0), .int a1] : List Value).toArray xB RX6 := F
  have hx := F.1
  have hb := F.2.1
  have hS : va_S (xA G) s.heap s.heap [] := va_S.rf
  have hl : lv_has ls 2 [(0, .ref (sh.1 12 0)), (1, .int a1)] := hl
  unfold fX6_hoursByPassing at hf
  refine lv_aload_n hx hb dX6_hoursByPassing_0 rfl (lv_at hl 0 rfl) ?_
  refine lv_iload_n hx hb dX6_hoursByPassing_1 rfl (lv_at hl 1 rfl) ?_
  obtain ⟨v1, s2, hc3, hf⟩ := oP_go hf
  refine xcallV (n := 1) F hT hW hS (xm_fix (by decide)) xce_12 rfl (kX6_goneOn l hl0 G sh sc sr sl a1  _ hc3) (xgV xw_1014 xw_1016 xwp_32 xw_4 xw_1017) rfl xd_X6_goneOn ⟨Nat.le_of_ble_eq_true rfl, Nat.le_of_ble_eq_true rfl⟩ rfl hl.1 rfl (Nat.le_of_ble_eq_true rfl) dX6_hoursByPassing_2 ⟨Nat.le_of_ble_eq_true rfl, Nat.le_of_ble_eq_true rfl⟩ (fun v9 H locs hres hW hS => ?_) (fun E9 H locs q9 ce9 hres => by cases hres)
  cases hres
  refine W.eq (g2 := F0 m 5 ls (.int v1 :: [])) rfl ?_
  cases hf
  exact xret_i (ty := .int) F hr hlocks hS rfl rfl hW (Nat.le_of_ble_eq_true rfl) (Nat.le_of_ble_eq_true rfl) dX6_hoursByPassing_5
abbrev rX6_hoursLeft : Room := { frames := 4, cells := 0, slots := 0, locals := 86 }
abbrev zX6_hoursLeft : List Cond := Cond.code yX6_hoursLeft cX6_hoursLeft 2 (some .int) :: xB
theorem xd_X6_hoursLeft : yX6_hoursLeft.cls = RX6 ∧ yX6_hoursLeft.cls ≠ "java/lang/invoke/MethodHandle" ∧ yX6_hoursLeft.cls ≠ "java/lang/invoke/VarHandle" ∧ (parseMethodDescriptor yX6_hoursLeft.desc).map (fun d => d.parameters.length) = some 1 := by decide +kernel
def fX6_hoursLeft (a1 : Int32) (sr : xSR) : Option (Int32 × xSR) := oP (fX6_goneOn a1 sr) (fun v1 s2 => some (v1, s2))
set_option maxHeartbeats 4000000 in
set_option maxRecDepth 100000 in
theorem kX6_hoursLeft (l : Launch) (hl0 : l.stackTraces = false) (G : xG) (sh : xSh) (sc : xSC) (sr : xSR) (sl : xSL) (a1 : Int32) (r : (Int32 × xSR)) (hf : fX6_hoursLeft a1 sr = some r) : xMet l yX6_hoursLeft zX6_hoursLeft rX6_hoursLeft G sh sc sr sl ([.ref (sh.1 12 0), .int a1] : List Value) (xvI (.inr r.1)) (xWd G sh sc r.2 sl) := by
  refine xMet_of (cc := cX6_hoursLeft) (maxL := 2) (ret := (some .int)) (by decide) (Nat.le_of_ble_eq_true rfl) ?_
  intro p e s m below meth c F hT hW hr hlocks htab ls hl
  have F : CallFix p m c cX6_hoursLeft 2 s ([.ref (sh.1 12 0), .int a1] : List Value).toArray xB RX6 := F
  have hx := F.1
  have hb := F.2.1
  have hS : va_S (xA G) s.heap s.heap [] := va_S.rf
  have hl : lv_has ls 2 [(0, .ref (sh.1 12 0)), (1, .int a1)] := hl
  unfold fX6_hoursLeft at hf
  refine lv_aload_n hx hb dX6_hoursLeft_0 rfl (lv_at hl 0 rfl) ?_
  refine lv_iload_n hx hb dX6_hoursLeft_1 rfl (lv_at hl 1 rfl) ?_
  obtain ⟨v1, s2, hc3, hf⟩ := oP_go hf
  refine xcallV (n := 1) F hT hW hS (xm_fix (by decide)) xce_12 rfl (kX6_goneOn l hl0 G sh sc sr sl a1  _ hc3) (xgV xw_1014 xw_1016 xwp_32 xw_4 xw_1017) rfl xd_X6_goneOn ⟨Nat.le_of_ble_eq_true rfl, Nat.le_of_ble_eq_true rfl⟩ rfl hl.1 rfl (Nat.le_of_ble_eq_true rfl) dX6_hoursLeft_2 ⟨Nat.le_of_ble_eq_true rfl, Nat.le_of_ble_eq_true rfl⟩ (fun v9 H locs hres hW hS => ?_) (fun E9 H locs q9 ce9 hres => by cases hres)
  cases hres
  refine W.eq (g2 := F0 m 5 ls (.int v1 :: [])) rfl ?_
  cases hf
  exact xret_i (ty := .int) F hr hlocks hS rfl rfl hW (Nat.le_of_ble_eq_true rfl) (Nat.le_of_ble_eq_true rfl) dX6_hoursLeft_5
abbrev rX6_hoursOver : Room := { frames := 0, cells := 0, slots := 0, locals := 0 }
abbrev zX6_hoursOver : List Cond := Cond.code yX6_hoursOver cX6_hoursOver 1 (some .long) :: xB
theorem xd_X6_hoursOver : yX6_hoursOver.cls = RX6 ∧ yX6_hoursOver.cls ≠ "java/lang/invoke/MethodHandle" ∧ yX6_hoursOver.cls ≠ "java/lang/invoke/VarHandle" ∧ (parseMethodDescriptor yX6_hoursOver.desc).map (fun d => d.parameters.length) = some 0 := by decide +kernel
def fX6_hoursOver (sr : xSR) : Option (Int64 × xSR) := some ((xuR sr.1 122 0 0, sr.2).2, (xuR sr.1 122 0 0, sr.2))
set_option maxHeartbeats 4000000 in
set_option maxRecDepth 100000 in
theorem kX6_hoursOver (l : Launch) (hl0 : l.stackTraces = false) (G : xG) (sh : xSh) (sc : xSC) (sr : xSR) (sl : xSL) (r : (Int64 × xSR)) (hf : fX6_hoursOver sr = some r) : xMet l yX6_hoursOver zX6_hoursOver rX6_hoursOver G sh sc sr sl ([.ref (sh.1 12 0)] : List Value) (xvL (.inr r.1)) (xWd G sh sc r.2 sl) := by
  refine xMet_of (cc := cX6_hoursOver) (maxL := 1) (ret := (some .long)) (by decide) (Nat.le_of_ble_eq_true rfl) ?_
  intro p e s m below meth c F hT hW hr hlocks htab ls hl
  have F : CallFix p m c cX6_hoursOver 1 s ([.ref (sh.1 12 0)] : List Value).toArray xB RX6 := F
  have hx := F.1
  have hb := F.2.1
  have hS : va_S (xA G) s.heap s.heap [] := va_S.rf
  have hl : lv_has ls 1 [(0, .ref (sh.1 12 0))] := hl
  unfold fX6_hoursOver at hf
  refine lv_aload_n hx hb dX6_hoursOver_0 rfl (lv_at hl 0 rfl) ?_
  refine lv_iconst (v := 0) hx hb dX6_hoursOver_1 (by decide) ?_
  refine xput (ty := .int) F hT hW hS xuX6 tyX6 tyX6_ok nmX6 (xm_fix (by decide)) xce_12 rfl 22 (by decide) xw_822 rfl rfl rfl rfl rfl (Nat.le_of_ble_eq_true rfl) xup_12_22 dX6_hoursOver_2 (fun H locs hW hS => ?_)
  refine lv_aload_n hx hb dX6_hoursOver_5 rfl (lv_at hl 0 rfl) ?_
  refine xget F hT hW xuX6 (xm_fix (by decide)) xce_12 rfl 18 (by decide) xw_818 rfl rfl dX6_hoursOver_6 ?_
  cases hf
  exact xret_l F hr hlocks hS rfl hW (Nat.le_of_ble_eq_true rfl) (Nat.le_of_ble_eq_true rfl) dX6_hoursOver_9
abbrev rX6_isOver : Room := { frames := 5, cells := 0, slots := 0, locals := 113 }
abbrev zX6_isOver : List Cond := Cond.code yX6_isOver cX6_isOver 2 (some .boolean) :: xB
theorem xd_X6_isOver : yX6_isOver.cls = RX6 ∧ yX6_isOver.cls ≠ "java/lang/invoke/MethodHandle" ∧ yX6_isOver.cls ≠ "java/lang/invoke/VarHandle" ∧ (parseMethodDescriptor yX6_isOver.desc).map (fun d => d.parameters.length) = some 1 := by decide +kernel
def fX6_isOver (a1 : Int32) (sr : xSR) : Option (Int32 × xSR) := oB (fX6_isNoShard a1 sr) (fun v1 => (if v1 = 0 then oP (fX6_fails 0 sr) (fun v3 s4 => (if v3 = 0 then oB (fX6_isTooMuch a1 s4) (fun v6 => (if v6 = 0 then some (0, s4) else some (1, s4))) else some (0, s4))) else oP (fX6_fails 1 sr) (fun v10 s11 => (if v10 = 0 then oB (fX6_isTooMuch a1 s11) (fun v13 => (if v13 = 0 then some (0, s11) else some (1, s11))) else some (0, s11)))))
set_option maxHeartbeats 4000000 in
set_option maxRecDepth 100000 in
theorem kX6_isOver (l : Launch) (hl0 : l.stackTraces = false) (G : xG) (sh : xSh) (sc : xSC) (sr : xSR) (sl : xSL) (a1 : Int32) (r : (Int32 × xSR)) (hf : fX6_isOver a1 sr = some r) : xMet l yX6_isOver zX6_isOver rX6_isOver G sh sc sr sl ([.ref (sh.1 12 0), .int a1] : List Value) (xvI (.inr r.1)) (xWd G sh sc r.2 sl) := by
  refine xMet_of (cc := cX6_isOver) (maxL := 2) (ret := (some .boolean)) (by decide) (Nat.le_of_ble_eq_true rfl) ?_
  intro p e s m below meth c F hT hW hr hlocks htab ls hl
  have F : CallFix p m c cX6_isOver 2 s ([.ref (sh.1 12 0), .int a1] : List Value).toArray xB RX6 := F
  have hx := F.1
  have hb := F.2.1
  have hS : va_S (xA G) s.heap s.heap [] := va_S.rf
  have hl : lv_has ls 2 [(0, .ref (sh.1 12 0)), (1, .int a1)] := hl
  unfold fX6_isOver at hf
  refine lv_aload_n hx hb dX6_isOver_0 rfl (lv_at hl 0 rfl) ?_
  refine lv_aload_n hx hb dX6_isOver_1 rfl (lv_at hl 0 rfl) ?_
  refine lv_iload_n hx hb dX6_isOver_2 rfl (lv_at hl 1 rfl) ?_
  obtain ⟨v1, hc17, hf⟩ := oB_go hf
  refine xcallV (n := 1) F hT hW hS (xm_fix (by decide)) xce_12 rfl (kX6_isNoShard l hl0 G sh sc sr sl a1  _ hc17) (xgV xw_891 xw_893 xwp_15 xw_4 xw_894) rfl xd_X6_isNoShard ⟨Nat.le_of_ble_eq_true rfl, Nat.le_of_ble_eq_true rfl⟩ rfl hl.1 rfl (Nat.le_of_ble_eq_true rfl) dX6_isOver_3 ⟨Nat.le_of_ble_eq_true rfl, Nat.le_of_ble_eq_true rfl⟩ (fun v9 H locs hres hW hS => ?_) (fun E9 H locs q9 ce9 hres => by cases hres)
  cases hres
  refine W.eq (g2 := F0 m 6 ls (.int v1 :: .ref (sh.1 12 0) :: [])) rfl ?_
  refine lv_if_eq (tgt := 13) hx hb dX6_isOver_6 (by decide) (fun c2 => ?_) (fun c2 => ?_)
  · replace hf := if_t c2 hf
    refine lv_iconst (v := 0) hx hb dX6_isOver_13 (by decide) ?_
    obtain ⟨v3, s4, hc9, hf⟩ := oP_go hf
    refine xcallV (n := 1) F hT hW hS (xm_fix (by decide)) xce_12 rfl (kX6_fails l hl0 G sh sc sr sl 0  _ hc9) (xgV xw_883 xw_885 xwp_14 xw_4 xw_886) rfl xd_X6_fails ⟨Nat.le_of_ble_eq_true rfl, Nat.le_of_ble_eq_true rfl⟩ rfl hl.1 rfl (Nat.le_of_ble_eq_true rfl) dX6_isOver_14 ⟨Nat.le_of_ble_eq_true rfl, Nat.le_of_ble_eq_true rfl⟩ (fun v9 H locs hres hW hS => ?_) (fun E9 H locs q9 ce9 hres => by cases hres)
    cases hres
    refine W.eq (g2 := F0 m 17 ls (.int v3 :: [])) rfl ?_
    refine lv_if_ne (tgt := 32) hx hb dX6_isOver_17 (by decide) (fun c5 => ?_) (fun c5 => ?_)
    · replace hf := if_f c5 hf
      refine lv_iconst (v := 0) hx hb dX6_isOver_32 (by decide) ?_
      cases hf
      exact xret_i (ty := .boolean) F hr hlocks hS (by decide) rfl hW (Nat.le_of_ble_eq_true rfl) (Nat.le_of_ble_eq_true rfl) dX6_isOver_33
    · replace hf := if_t c5 hf
      refine lv_aload_n hx hb dX6_isOver_20 rfl (lv_at hl 0 rfl) ?_
      refine lv_iload_n hx hb dX6_isOver_21 rfl (lv_at hl 1 rfl) ?_
      obtain ⟨v6, hc8, hf⟩ := oB_go hf
      refine xcallV (n := 1) F hT hW hS (xm_fix (by decide)) xce_12 rfl (kX6_isTooMuch l hl0 G sh sc s4 sl a1  _ hc8) (xgV xw_978 xw_980 xwp_27 xw_4 xw_981) rfl xd_X6_isTooMuch ⟨Nat.le_of_ble_eq_true rfl, Nat.le_of_ble_eq_true rfl⟩ rfl hl.1 rfl (Nat.le_of_ble_eq_true rfl) dX6_isOver_22 ⟨Nat.le_of_ble_eq_true rfl, Nat.le_of_ble_eq_true rfl⟩ (fun v9 H locs hres hW hS => ?_) (fun E9 H locs q9 ce9 hres => by cases hres)
      cases hres
      refine W.eq (g2 := F0 m 25 ls (.int v6 :: [])) rfl ?_
      refine lv_if_eq (tgt := 32) hx hb dX6_isOver_25 (by decide) (fun c7 => ?_) (fun c7 => ?_)
      · replace hf := if_t c7 hf
        refine lv_iconst (v := 0) hx hb dX6_isOver_32 (by decide) ?_
        cases hf
        exact xret_i (ty := .boolean) F hr hlocks hS (by decide) rfl hW (Nat.le_of_ble_eq_true rfl) (Nat.le_of_ble_eq_true rfl) dX6_isOver_33
      · replace hf := if_f c7 hf
        refine lv_iconst (v := 1) hx hb dX6_isOver_28 (by decide) ?_
        refine lv_goto (tgt := 33) hx hb dX6_isOver_29 (by decide) ?_
        cases hf
        exact xret_i (ty := .boolean) F hr hlocks hS (by decide) rfl hW (Nat.le_of_ble_eq_true rfl) (Nat.le_of_ble_eq_true rfl) dX6_isOver_33
  · replace hf := if_f c2 hf
    refine lv_iconst (v := 1) hx hb dX6_isOver_9 (by decide) ?_
    refine lv_goto (tgt := 14) hx hb dX6_isOver_10 (by decide) ?_
    obtain ⟨v10, s11, hc16, hf⟩ := oP_go hf
    refine xcallV (n := 1) F hT hW hS (xm_fix (by decide)) xce_12 rfl (kX6_fails l hl0 G sh sc sr sl 1  _ hc16) (xgV xw_883 xw_885 xwp_14 xw_4 xw_886) rfl xd_X6_fails ⟨Nat.le_of_ble_eq_true rfl, Nat.le_of_ble_eq_true rfl⟩ rfl hl.1 rfl (Nat.le_of_ble_eq_true rfl) dX6_isOver_14 ⟨Nat.le_of_ble_eq_true rfl, Nat.le_of_ble_eq_true rfl⟩ (fun v9 H locs hres hW hS => ?_) (fun E9 H locs q9 ce9 hres => by cases hres)
    cases hres
    refine W.eq (g2 := F0 m 17 ls (.int v10 :: [])) rfl ?_
    refine lv_if_ne (tgt := 32) hx hb dX6_isOver_17 (by decide) (fun c12 => ?_) (fun c12 => ?_)
    · replace hf := if_f c12 hf
      refine lv_iconst (v := 0) hx hb dX6_isOver_32 (by decide) ?_
      cases hf
      exact xret_i (ty := .boolean) F hr hlocks hS (by decide) rfl hW (Nat.le_of_ble_eq_true rfl) (Nat.le_of_ble_eq_true rfl) dX6_isOver_33
    · replace hf := if_t c12 hf
      refine lv_aload_n hx hb dX6_isOver_20 rfl (lv_at hl 0 rfl) ?_
      refine lv_iload_n hx hb dX6_isOver_21 rfl (lv_at hl 1 rfl) ?_
      obtain ⟨v13, hc15, hf⟩ := oB_go hf
      refine xcallV (n := 1) F hT hW hS (xm_fix (by decide)) xce_12 rfl (kX6_isTooMuch l hl0 G sh sc s11 sl a1  _ hc15) (xgV xw_978 xw_980 xwp_27 xw_4 xw_981) rfl xd_X6_isTooMuch ⟨Nat.le_of_ble_eq_true rfl, Nat.le_of_ble_eq_true rfl⟩ rfl hl.1 rfl (Nat.le_of_ble_eq_true rfl) dX6_isOver_22 ⟨Nat.le_of_ble_eq_true rfl, Nat.le_of_ble_eq_true rfl⟩ (fun v9 H locs hres hW hS => ?_) (fun E9 H locs q9 ce9 hres => by cases hres)
      cases hres
      refine W.eq (g2 := F0 m 25 ls (.int v13 :: [])) rfl ?_
      refine lv_if_eq (tgt := 32) hx hb dX6_isOver_25 (by decide) (fun c14 => ?_) (fun c14 => ?_)
      · replace hf := if_t c14 hf
        refine lv_iconst (v := 0) hx hb dX6_isOver_32 (by decide) ?_
        cases hf
        exact xret_i (ty := .boolean) F hr hlocks hS (by decide) rfl hW (Nat.le_of_ble_eq_true rfl) (Nat.le_of_ble_eq_true rfl) dX6_isOver_33
      · replace hf := if_f c14 hf
        refine lv_iconst (v := 1) hx hb dX6_isOver_28 (by decide) ?_
        refine lv_goto (tgt := 33) hx hb dX6_isOver_29 (by decide) ?_
        cases hf
        exact xret_i (ty := .boolean) F hr hlocks hS (by decide) rfl hW (Nat.le_of_ble_eq_true rfl) (Nat.le_of_ble_eq_true rfl) dX6_isOver_33
abbrev rX6_keepApart : Room := { frames := 2, cells := 0, slots := 0, locals := 43 }
abbrev zX6_keepApart : List Cond := Cond.code yX6_keepApart cX6_keepApart 3 (some .int) :: xB
theorem xd_X6_keepApart : yX6_keepApart.cls = RX6 ∧ yX6_keepApart.cls ≠ "java/lang/invoke/MethodHandle" ∧ yX6_keepApart.cls ≠ "java/lang/invoke/VarHandle" ∧ (parseMethodDescriptor yX6_keepApart.desc).map (fun d => d.parameters.length) = some 2 := by decide +kernel
def fX6_keepApart (a1 : Int32) (a2 : Int32) (sr : xSR) : Option (Int32 × xSR) := oB (fX6_isNoTenant a1 sr) (fun v1 => (if v1 = 0 then oB (fX6_isNoTenant a2 sr) (fun v9 => (if v9 = 0 then (if a1 = a2 then oP (fX6_fails 2 sr) (fun v34 s35 => (if v34 = 0 then oG (xinb (s35.1 113 0) 6) (oG (xinb ((xuR s35.1 14 (s35.1 113 0).toNatClampNeg a1, s35.2).1 113 0) 6) (some (((xuR (xuR (xuR s35.1 14 (s35.1 113 0).toNatClampNeg a1, s35.2).1 15 ((xuR s35.1 14 (s35.1 113 0).toNatClampNeg a1, s35.2).1 113 0).toNatClampNeg a2, (xuR s35.1 14 (s35.1 113 0).toNatClampNeg a1, s35.2).2).1 113 0 (((xuR (xuR s35.1 14 (s35.1 113 0).toNatClampNeg a1, s35.2).1 15 ((xuR s35.1 14 (s35.1 113 0).toNatClampNeg a1, s35.2).1 113 0).toNatClampNeg a2, (xuR s35.1 14 (s35.1 113 0).toNatClampNeg a1, s35.2).2).1 113 0) + 1), (xuR (xuR s35.1 14 (s35.1 113 0).toNatClampNeg a1, s35.2).1 15 ((xuR s35.1 14 (s35.1 113 0).toNatClampNeg a1, s35.2).1 113 0).toNatClampNeg a2, (xuR s35.1 14 (s35.1 113 0).toNatClampNeg a1, s35.2).2).2).1 113 0), (xuR (xuR (xuR s35.1 14 (s35.1 113 0).toNatClampNeg a1, s35.2).1 15 ((xuR s35.1 14 (s35.1 113 0).toNatClampNeg a1, s35.2).1 113 0).toNatClampNeg a2, (xuR s35.1 14 (s35.1 113 0).toNatClampNeg a1, s35.2).2).1 113 0 (((xuR (xuR s35.1 14 (s35.1 113 0).toNatClampNeg a1, s35.2).1 15 ((xuR s35.1 14 (s35.1 113 0).toNatClampNeg a1, s35.2).1 113 0).toNatClampNeg a2, (xuR s35.1 14 (s35.1 113 0).toNatClampNeg a1, s35.2).2).1 113 0) + 1), (xuR (xuR s35.1 14 (s35.1 113 0).toNatClampNeg a1, s35.2).1 15 ((xuR s35.1 14 (s35.1 113 0).toNatClampNeg a1, s35.2).1 113 0).toNatClampNeg a2, (xuR s35.1 14 (s35.1 113 0).toNatClampNeg a1, s35.2).2).2)))) else some (0, s35))) else oB (fX6_areApart a1 a2 sr) (fun v12 => (if v12 = 0 then (if (sr.1 113 0) = 6 then oP (fX6_fails 4 sr) (fun v21 s22 => (if v21 = 0 then oG (xinb (s22.1 113 0) 6) (oG (xinb ((xuR s22.1 14 (s22.1 113 0).toNatClampNeg a1, s22.2).1 113 0) 6) (some (((xuR (xuR (xuR s22.1 14 (s22.1 113 0).toNatClampNeg a1, s22.2).1 15 ((xuR s22.1 14 (s22.1 113 0).toNatClampNeg a1, s22.2).1 113 0).toNatClampNeg a2, (xuR s22.1 14 (s22.1 113 0).toNatClampNeg a1, s22.2).2).1 113 0 (((xuR (xuR s22.1 14 (s22.1 113 0).toNatClampNeg a1, s22.2).1 15 ((xuR s22.1 14 (s22.1 113 0).toNatClampNeg a1, s22.2).1 113 0).toNatClampNeg a2, (xuR s22.1 14 (s22.1 113 0).toNatClampNeg a1, s22.2).2).1 113 0) + 1), (xuR (xuR s22.1 14 (s22.1 113 0).toNatClampNeg a1, s22.2).1 15 ((xuR s22.1 14 (s22.1 113 0).toNatClampNeg a1, s22.2).1 113 0).toNatClampNeg a2, (xuR s22.1 14 (s22.1 113 0).toNatClampNeg a1, s22.2).2).2).1 113 0), (xuR (xuR (xuR s22.1 14 (s22.1 113 0).toNatClampNeg a1, s22.2).1 15 ((xuR s22.1 14 (s22.1 113 0).toNatClampNeg a1, s22.2).1 113 0).toNatClampNeg a2, (xuR s22.1 14 (s22.1 113 0).toNatClampNeg a1, s22.2).2).1 113 0 (((xuR (xuR s22.1 14 (s22.1 113 0).toNatClampNeg a1, s22.2).1 15 ((xuR s22.1 14 (s22.1 113 0).toNatClampNeg a1, s22.2).1 113 0).toNatClampNeg a2, (xuR s22.1 14 (s22.1 113 0).toNatClampNeg a1, s22.2).2).1 113 0) + 1), (xuR (xuR s22.1 14 (s22.1 113 0).toNatClampNeg a1, s22.2).1 15 ((xuR s22.1 14 (s22.1 113 0).toNatClampNeg a1, s22.2).1 113 0).toNatClampNeg a2, (xuR s22.1 14 (s22.1 113 0).toNatClampNeg a1, s22.2).2).2)))) else some (0, s22))) else oP (fX6_fails 0 sr) (fun v15 s16 => (if v15 = 0 then oG (xinb (s16.1 113 0) 6) (oG (xinb ((xuR s16.1 14 (s16.1 113 0).toNatClampNeg a1, s16.2).1 113 0) 6) (some (((xuR (xuR (xuR s16.1 14 (s16.1 113 0).toNatClampNeg a1, s16.2).1 15 ((xuR s16.1 14 (s16.1 113 0).toNatClampNeg a1, s16.2).1 113 0).toNatClampNeg a2, (xuR s16.1 14 (s16.1 113 0).toNatClampNeg a1, s16.2).2).1 113 0 (((xuR (xuR s16.1 14 (s16.1 113 0).toNatClampNeg a1, s16.2).1 15 ((xuR s16.1 14 (s16.1 113 0).toNatClampNeg a1, s16.2).1 113 0).toNatClampNeg a2, (xuR s16.1 14 (s16.1 113 0).toNatClampNeg a1, s16.2).2).1 113 0) + 1), (xuR (xuR s16.1 14 (s16.1 113 0).toNatClampNeg a1, s16.2).1 15 ((xuR s16.1 14 (s16.1 113 0).toNatClampNeg a1, s16.2).1 113 0).toNatClampNeg a2, (xuR s16.1 14 (s16.1 113 0).toNatClampNeg a1, s16.2).2).2).1 113 0), (xuR (xuR (xuR s16.1 14 (s16.1 113 0).toNatClampNeg a1, s16.2).1 15 ((xuR s16.1 14 (s16.1 113 0).toNatClampNeg a1, s16.2).1 113 0).toNatClampNeg a2, (xuR s16.1 14 (s16.1 113 0).toNatClampNeg a1, s16.2).2).1 113 0 (((xuR (xuR s16.1 14 (s16.1 113 0).toNatClampNeg a1, s16.2).1 15 ((xuR s16.1 14 (s16.1 113 0).toNatClampNeg a1, s16.2).1 113 0).toNatClampNeg a2, (xuR s16.1 14 (s16.1 113 0).toNatClampNeg a1, s16.2).2).1 113 0) + 1), (xuR (xuR s16.1 14 (s16.1 113 0).toNatClampNeg a1, s16.2).1 15 ((xuR s16.1 14 (s16.1 113 0).toNatClampNeg a1, s16.2).1 113 0).toNatClampNeg a2, (xuR s16.1 14 (s16.1 113 0).toNatClampNeg a1, s16.2).2).2)))) else some (0, s16)))) else oP (fX6_fails 3 sr) (fun v27 s28 => (if v27 = 0 then oG (xinb (s28.1 113 0) 6) (oG (xinb ((xuR s28.1 14 (s28.1 113 0).toNatClampNeg a1, s28.2).1 113 0) 6) (some (((xuR (xuR (xuR s28.1 14 (s28.1 113 0).toNatClampNeg a1, s28.2).1 15 ((xuR s28.1 14 (s28.1 113 0).toNatClampNeg a1, s28.2).1 113 0).toNatClampNeg a2, (xuR s28.1 14 (s28.1 113 0).toNatClampNeg a1, s28.2).2).1 113 0 (((xuR (xuR s28.1 14 (s28.1 113 0).toNatClampNeg a1, s28.2).1 15 ((xuR s28.1 14 (s28.1 113 0).toNatClampNeg a1, s28.2).1 113 0).toNatClampNeg a2, (xuR s28.1 14 (s28.1 113 0).toNatClampNeg a1, s28.2).2).1 113 0) + 1), (xuR (xuR s28.1 14 (s28.1 113 0).toNatClampNeg a1, s28.2).1 15 ((xuR s28.1 14 (s28.1 113 0).toNatClampNeg a1, s28.2).1 113 0).toNatClampNeg a2, (xuR s28.1 14 (s28.1 113 0).toNatClampNeg a1, s28.2).2).2).1 113 0), (xuR (xuR (xuR s28.1 14 (s28.1 113 0).toNatClampNeg a1, s28.2).1 15 ((xuR s28.1 14 (s28.1 113 0).toNatClampNeg a1, s28.2).1 113 0).toNatClampNeg a2, (xuR s28.1 14 (s28.1 113 0).toNatClampNeg a1, s28.2).2).1 113 0 (((xuR (xuR s28.1 14 (s28.1 113 0).toNatClampNeg a1, s28.2).1 15 ((xuR s28.1 14 (s28.1 113 0).toNatClampNeg a1, s28.2).1 113 0).toNatClampNeg a2, (xuR s28.1 14 (s28.1 113 0).toNatClampNeg a1, s28.2).2).1 113 0) + 1), (xuR (xuR s28.1 14 (s28.1 113 0).toNatClampNeg a1, s28.2).1 15 ((xuR s28.1 14 (s28.1 113 0).toNatClampNeg a1, s28.2).1 113 0).toNatClampNeg a2, (xuR s28.1 14 (s28.1 113 0).toNatClampNeg a1, s28.2).2).2)))) else some (0, s28)))))) else oP (fX6_fails 1 sr) (fun v40 s41 => (if v40 = 0 then oG (xinb (s41.1 113 0) 6) (oG (xinb ((xuR s41.1 14 (s41.1 113 0).toNatClampNeg a1, s41.2).1 113 0) 6) (some (((xuR (xuR (xuR s41.1 14 (s41.1 113 0).toNatClampNeg a1, s41.2).1 15 ((xuR s41.1 14 (s41.1 113 0).toNatClampNeg a1, s41.2).1 113 0).toNatClampNeg a2, (xuR s41.1 14 (s41.1 113 0).toNatClampNeg a1, s41.2).2).1 113 0 (((xuR (xuR s41.1 14 (s41.1 113 0).toNatClampNeg a1, s41.2).1 15 ((xuR s41.1 14 (s41.1 113 0).toNatClampNeg a1, s41.2).1 113 0).toNatClampNeg a2, (xuR s41.1 14 (s41.1 113 0).toNatClampNeg a1, s41.2).2).1 113 0) + 1), (xuR (xuR s41.1 14 (s41.1 113 0).toNatClampNeg a1, s41.2).1 15 ((xuR s41.1 14 (s41.1 113 0).toNatClampNeg a1, s41.2).1 113 0).toNatClampNeg a2, (xuR s41.1 14 (s41.1 113 0).toNatClampNeg a1, s41.2).2).2).1 113 0), (xuR (xuR (xuR s41.1 14 (s41.1 113 0).toNatClampNeg a1, s41.2).1 15 ((xuR s41.1 14 (s41.1 113 0).toNatClampNeg a1, s41.2).1 113 0).toNatClampNeg a2, (xuR s41.1 14 (s41.1 113 0).toNatClampNeg a1, s41.2).2).1 113 0 (((xuR (xuR s41.1 14 (s41.1 113 0).toNatClampNeg a1, s41.2).1 15 ((xuR s41.1 14 (s41.1 113 0).toNatClampNeg a1, s41.2).1 113 0).toNatClampNeg a2, (xuR s41.1 14 (s41.1 113 0).toNatClampNeg a1, s41.2).2).1 113 0) + 1), (xuR (xuR s41.1 14 (s41.1 113 0).toNatClampNeg a1, s41.2).1 15 ((xuR s41.1 14 (s41.1 113 0).toNatClampNeg a1, s41.2).1 113 0).toNatClampNeg a2, (xuR s41.1 14 (s41.1 113 0).toNatClampNeg a1, s41.2).2).2)))) else some (0, s41))))) else oP (fX6_fails 1 sr) (fun v3 s4 => (if v3 = 0 then oG (xinb (s4.1 113 0) 6) (oG (xinb ((xuR s4.1 14 (s4.1 113 0).toNatClampNeg a1, s4.2).1 113 0) 6) (some (((xuR (xuR (xuR s4.1 14 (s4.1 113 0).toNatClampNeg a1, s4.2).1 15 ((xuR s4.1 14 (s4.1 113 0).toNatClampNeg a1, s4.2).1 113 0).toNatClampNeg a2, (xuR s4.1 14 (s4.1 113 0).toNatClampNeg a1, s4.2).2).1 113 0 (((xuR (xuR s4.1 14 (s4.1 113 0).toNatClampNeg a1, s4.2).1 15 ((xuR s4.1 14 (s4.1 113 0).toNatClampNeg a1, s4.2).1 113 0).toNatClampNeg a2, (xuR s4.1 14 (s4.1 113 0).toNatClampNeg a1, s4.2).2).1 113 0) + 1), (xuR (xuR s4.1 14 (s4.1 113 0).toNatClampNeg a1, s4.2).1 15 ((xuR s4.1 14 (s4.1 113 0).toNatClampNeg a1, s4.2).1 113 0).toNatClampNeg a2, (xuR s4.1 14 (s4.1 113 0).toNatClampNeg a1, s4.2).2).2).1 113 0), (xuR (xuR (xuR s4.1 14 (s4.1 113 0).toNatClampNeg a1, s4.2).1 15 ((xuR s4.1 14 (s4.1 113 0).toNatClampNeg a1, s4.2).1 113 0).toNatClampNeg a2, (xuR s4.1 14 (s4.1 113 0).toNatClampNeg a1, s4.2).2).1 113 0 (((xuR (xuR s4.1 14 (s4.1 113 0).toNatClampNeg a1, s4.2).1 15 ((xuR s4.1 14 (s4.1 113 0).toNatClampNeg a1, s4.2).1 113 0).toNatClampNeg a2, (xuR s4.1 14 (s4.1 113 0).toNatClampNeg a1, s4.2).2).1 113 0) + 1), (xuR (xuR s4.1 14 (s4.1 113 0).toNatClampNeg a1, s4.2).1 15 ((xuR s4.1 14 (s4.1 113 0).toNatClampNeg a1, s4.2).1 113 0).toNatClampNeg a2, (xuR s4.1 14 (s4.1 113 0).toNatClampNeg a1, s4.2).2).2)))) else some (0, s4)))))
set_option maxHeartbeats 4000000 in
set_option maxRecDepth 100000 in
theorem kX6_keepApart (l : Launch) (hl0 : l.stackTraces = false) (G : xG) (sh : xSh) (sc : xSC) (sr : xSR) (sl : xSL) (a1 : Int32) (a2 : Int32) (r : (Int32 × xSR)) (hf : fX6_keepApart a1 a2 sr = some r) : xMet l yX6_keepApart zX6_keepApart rX6_keepApart G sh sc sr sl ([.ref (sh.1 12 0), .int a1, .int a2] : List Value) (xvI (.inr r.1)) (xWd G sh sc r.2 sl) := by
  refine xMet_of (cc := cX6_keepApart) (maxL := 3) (ret := (some .int)) (by decide) (Nat.le_of_ble_eq_true rfl) ?_
  intro p e s m below meth c F hT hW hr hlocks htab ls hl
  have F : CallFix p m c cX6_keepApart 3 s ([.ref (sh.1 12 0), .int a1, .int a2] : List Value).toArray xB RX6 := F
  have hx := F.1
  have hb := F.2.1
  have hS : va_S (xA G) s.heap s.heap [] := va_S.rf
  have hl : lv_has ls 3 [(0, .ref (sh.1 12 0)), (1, .int a1), (2, .int a2)] := hl
  unfold fX6_keepApart at hf
  refine lv_aload_n hx hb dX6_keepApart_0 rfl (lv_at hl 0 rfl) ?_
  refine lv_aload_n hx hb dX6_keepApart_1 rfl (lv_at hl 0 rfl) ?_
  refine lv_iload_n hx hb dX6_keepApart_2 rfl (lv_at hl 1 rfl) ?_
  obtain ⟨v1, hc47, hf⟩ := oB_go hf
  refine xcallV (n := 1) F hT hW hS (xm_fix (by decide)) xce_12 rfl (kX6_isNoTenant l hl0 G sh sc sr sl a1  _ hc47) (xgV xw_926 xw_928 xwp_20 xw_4 xw_929) rfl xd_X6_isNoTenant ⟨Nat.le_of_ble_eq_true rfl, Nat.le_of_ble_eq_true rfl⟩ rfl hl.1 rfl (Nat.le_of_ble_eq_true rfl) dX6_keepApart_3 ⟨Nat.le_of_ble_eq_true rfl, Nat.le_of_ble_eq_true rfl⟩ (fun v9 H locs hres hW hS => ?_) (fun E9 H locs q9 ce9 hres => by cases hres)
  cases hres
  refine W.eq (g2 := F0 m 6 ls (.int v1 :: .ref (sh.1 12 0) :: [])) rfl ?_
  refine lv_if_ne (tgt := 17) hx hb dX6_keepApart_6 (by decide) (fun c2 => ?_) (fun c2 => ?_)
  · replace hf := if_f c2 hf
    refine lv_iconst (v := 1) hx hb dX6_keepApart_17 (by decide) ?_
    refine lv_goto (tgt := 57) hx hb dX6_keepApart_18 (by decide) ?_
    obtain ⟨v3, s4, hc8, hf⟩ := oP_go hf
    refine xcallV (n := 1) F hT hW hS (xm_fix (by decide)) xce_12 rfl (kX6_fails l hl0 G sh sc sr sl 1  _ hc8) (xgV xw_883 xw_885 xwp_14 xw_4 xw_886) rfl xd_X6_fails ⟨Nat.le_of_ble_eq_true rfl, Nat.le_of_ble_eq_true rfl⟩ rfl hl.1 rfl (Nat.le_of_ble_eq_true rfl) dX6_keepApart_57 ⟨Nat.le_of_ble_eq_true rfl, Nat.le_of_ble_eq_true rfl⟩ (fun v9 H locs hres hW hS => ?_) (fun E9 H locs q9 ce9 hres => by cases hres)
    cases hres
    refine W.eq (g2 := F0 m 60 ls (.int v3 :: [])) rfl ?_
    refine lv_if_eq (tgt := 65) hx hb dX6_keepApart_60 (by decide) (fun c5 => ?_) (fun c5 => ?_)
    · replace hf := if_t c5 hf
      refine lv_aload_n hx hb dX6_keepApart_65 rfl (lv_at hl 0 rfl) ?_
      refine xget F hT hW xuX6 (xm_fix (by decide)) xce_12 rfl 14 (by decide) xw_814 rfl rfl dX6_keepApart_66 ?_
      refine lv_aload_n hx hb dX6_keepApart_69 rfl (lv_at hl 0 rfl) ?_
      refine xget F hT hW xuX6 (xm_fix (by decide)) xce_12 rfl 13 (by decide) xw_813 rfl rfl dX6_keepApart_70 ?_
      refine lv_iload_n hx hb dX6_keepApart_73 rfl (lv_at hl 1 rfl) ?_
      obtain ⟨g7, hf⟩ := oG_go hf
      refine xmast (by decide) F hT hW hS (xm_fix (by decide)) (by decide) (xinb_ok g7) dX6_keepApart_74 (fun H locs hW hS => ?_)
      refine lv_aload_n hx hb dX6_keepApart_75 rfl (lv_at hl 0 rfl) ?_
      refine xget F hT hW xuX6 (xm_fix (by decide)) xce_12 rfl 15 (by decide) xw_815 rfl rfl dX6_keepApart_76 ?_
      refine lv_aload_n hx hb dX6_keepApart_79 rfl (lv_at hl 0 rfl) ?_
      refine xget F hT hW xuX6 (xm_fix (by decide)) xce_12 rfl 13 (by decide) xw_813 rfl rfl dX6_keepApart_80 ?_
      refine lv_iload_n hx hb dX6_keepApart_83 rfl (lv_at hl 2 rfl) ?_
      obtain ⟨g6, hf⟩ := oG_go hf
      refine xmast (by decide) F hT hW hS (xm_fix (by decide)) (by decide) (xinb_ok g6) dX6_keepApart_84 (fun H locs hW hS => ?_)
      refine lv_aload_n hx hb dX6_keepApart_85 rfl (lv_at hl 0 rfl) ?_
      refine lv_dup hx hb dX6_keepApart_86 rfl ?_
      refine xget F hT hW xuX6 (xm_fix (by decide)) xce_12 rfl 13 (by decide) xw_813 rfl rfl dX6_keepApart_87 ?_
      refine lv_iconst (v := 1) hx hb dX6_keepApart_90 (by decide) ?_
      refine lv_iadd hx hb dX6_keepApart_91 ?_
      refine xput (ty := .int) F hT hW hS xuX6 tyX6 tyX6_ok nmX6 (xm_fix (by decide)) xce_12 rfl 13 (by decide) xw_813 rfl rfl rfl rfl rfl (Nat.le_of_ble_eq_true rfl) xup_12_13 dX6_keepApart_92 (fun H locs hW hS => ?_)
      refine lv_aload_n hx hb dX6_keepApart_95 rfl (lv_at hl 0 rfl) ?_
      refine xget F hT hW xuX6 (xm_fix (by decide)) xce_12 rfl 13 (by decide) xw_813 rfl rfl dX6_keepApart_96 ?_
      cases hf
      exact xret_i (ty := .int) F hr hlocks hS rfl rfl hW (Nat.le_of_ble_eq_true rfl) (Nat.le_of_ble_eq_true rfl) dX6_keepApart_99
    · replace hf := if_f c5 hf
      refine lv_iconst (v := 0) hx hb dX6_keepApart_63 (by decide) ?_
      cases hf
      exact xret_i (ty := .int) F hr hlocks hS rfl rfl hW (Nat.le_of_ble_eq_true rfl) (Nat.le_of_ble_eq_true rfl) dX6_keepApart_64
  · replace hf := if_t c2 hf
    refine lv_aload_n hx hb dX6_keepApart_9 rfl (lv_at hl 0 rfl) ?_
    refine lv_iload_n hx hb dX6_keepApart_10 rfl (lv_at hl 2 rfl) ?_
    obtain ⟨v9, hc46, hf⟩ := oB_go hf
    refine xcallV (n := 1) F hT hW hS (xm_fix (by decide)) xce_12 rfl (kX6_isNoTenant l hl0 G sh sc sr sl a2  _ hc46) (xgV xw_926 xw_928 xwp_20 xw_4 xw_929) rfl xd_X6_isNoTenant ⟨Nat.le_of_ble_eq_true rfl, Nat.le_of_ble_eq_true rfl⟩ rfl hl.1 rfl (Nat.le_of_ble_eq_true rfl) dX6_keepApart_11 ⟨Nat.le_of_ble_eq_true rfl, Nat.le_of_ble_eq_true rfl⟩ (fun v9 H locs hres hW hS => ?_) (fun E9 H locs q9 ce9 hres => by cases hres)
    cases hres
    refine W.eq (g2 := F0 m 14 ls (.int v9 :: .ref (sh.1 12 0) :: [])) rfl ?_
    refine lv_if_eq (tgt := 21) hx hb dX6_keepApart_14 (by decide) (fun c10 => ?_) (fun c10 => ?_)
    · replace hf := if_t c10 hf
      refine lv_iload_n hx hb dX6_keepApart_21 rfl (lv_at hl 1 rfl) ?_
      refine lv_iload_n hx hb dX6_keepApart_22 rfl (lv_at hl 2 rfl) ?_
      refine lv_icmp_ne (tgt := 30) hx hb dX6_keepApart_23 (by decide) (fun c11 => ?_) (fun c11 => ?_)
      · replace hf := if_f c11 hf
        refine lv_aload_n hx hb dX6_keepApart_30 rfl (lv_at hl 0 rfl) ?_
        refine lv_iload_n hx hb dX6_keepApart_31 rfl (lv_at hl 1 rfl) ?_
        refine lv_iload_n hx hb dX6_keepApart_32 rfl (lv_at hl 2 rfl) ?_
        obtain ⟨v12, hc33, hf⟩ := oB_go hf
        refine xcallV (n := 2) F hT hW hS (xm_fix (by decide)) xce_12 rfl (kX6_areApart l hl0 G sh sc sr sl a1 a2  _ hc33) (xgV xw_938 xw_940 xwp_21 xw_4 xw_941) rfl xd_X6_areApart ⟨Nat.le_of_ble_eq_true rfl, Nat.le_of_ble_eq_true rfl⟩ rfl hl.1 rfl (Nat.le_of_ble_eq_true rfl) dX6_keepApart_33 ⟨Nat.le_of_ble_eq_true rfl, Nat.le_of_ble_eq_true rfl⟩ (fun v9 H locs hres hW hS => ?_) (fun E9 H locs q9 ce9 hres => by cases hres)
        cases hres
        refine W.eq (g2 := F0 m 36 ls (.int v12 :: .ref (sh.1 12 0) :: [])) rfl ?_
        refine lv_if_eq (tgt := 43) hx hb dX6_keepApart_36 (by decide) (fun c13 => ?_) (fun c13 => ?_)
        · replace hf := if_t c13 hf
          refine lv_aload_n hx hb dX6_keepApart_43 rfl (lv_at hl 0 rfl) ?_
          refine xget F hT hW xuX6 (xm_fix (by decide)) xce_12 rfl 13 (by decide) xw_813 rfl rfl dX6_keepApart_44 ?_
          refine lv_bipush (v := 6) hx hb dX6_keepApart_47 (by decide) ?_
          refine lv_icmp_ne (tgt := 56) hx hb dX6_keepApart_49 (by decide) (fun c14 => ?_) (fun c14 => ?_)
          · replace hf := if_f c14 hf
            refine lv_iconst (v := 0) hx hb dX6_keepApart_56 (by decide) ?_
            obtain ⟨v15, s16, hc20, hf⟩ := oP_go hf
            refine xcallV (n := 1) F hT hW hS (xm_fix (by decide)) xce_12 rfl (kX6_fails l hl0 G sh sc sr sl 0  _ hc20) (xgV xw_883 xw_885 xwp_14 xw_4 xw_886) rfl xd_X6_fails ⟨Nat.le_of_ble_eq_true rfl, Nat.le_of_ble_eq_true rfl⟩ rfl hl.1 rfl (Nat.le_of_ble_eq_true rfl) dX6_keepApart_57 ⟨Nat.le_of_ble_eq_true rfl, Nat.le_of_ble_eq_true rfl⟩ (fun v9 H locs hres hW hS => ?_) (fun E9 H locs q9 ce9 hres => by cases hres)
            cases hres
            refine W.eq (g2 := F0 m 60 ls (.int v15 :: [])) rfl ?_
            refine lv_if_eq (tgt := 65) hx hb dX6_keepApart_60 (by decide) (fun c17 => ?_) (fun c17 => ?_)
            · replace hf := if_t c17 hf
              refine lv_aload_n hx hb dX6_keepApart_65 rfl (lv_at hl 0 rfl) ?_
              refine xget F hT hW xuX6 (xm_fix (by decide)) xce_12 rfl 14 (by decide) xw_814 rfl rfl dX6_keepApart_66 ?_
              refine lv_aload_n hx hb dX6_keepApart_69 rfl (lv_at hl 0 rfl) ?_
              refine xget F hT hW xuX6 (xm_fix (by decide)) xce_12 rfl 13 (by decide) xw_813 rfl rfl dX6_keepApart_70 ?_
              refine lv_iload_n hx hb dX6_keepApart_73 rfl (lv_at hl 1 rfl) ?_
              obtain ⟨g19, hf⟩ := oG_go hf
              refine xmast (by decide) F hT hW hS (xm_fix (by decide)) (by decide) (xinb_ok g19) dX6_keepApart_74 (fun H locs hW hS => ?_)
              refine lv_aload_n hx hb dX6_keepApart_75 rfl (lv_at hl 0 rfl) ?_
              refine xget F hT hW xuX6 (xm_fix (by decide)) xce_12 rfl 15 (by decide) xw_815 rfl rfl dX6_keepApart_76 ?_
              refine lv_aload_n hx hb dX6_keepApart_79 rfl (lv_at hl 0 rfl) ?_
              refine xget F hT hW xuX6 (xm_fix (by decide)) xce_12 rfl 13 (by decide) xw_813 rfl rfl dX6_keepApart_80 ?_
              refine lv_iload_n hx hb dX6_keepApart_83 rfl (lv_at hl 2 rfl) ?_
              obtain ⟨g18, hf⟩ := oG_go hf
              refine xmast (by decide) F hT hW hS (xm_fix (by decide)) (by decide) (xinb_ok g18) dX6_keepApart_84 (fun H locs hW hS => ?_)
              refine lv_aload_n hx hb dX6_keepApart_85 rfl (lv_at hl 0 rfl) ?_
              refine lv_dup hx hb dX6_keepApart_86 rfl ?_
              refine xget F hT hW xuX6 (xm_fix (by decide)) xce_12 rfl 13 (by decide) xw_813 rfl rfl dX6_keepApart_87 ?_
              refine lv_iconst (v := 1) hx hb dX6_keepApart_90 (by decide) ?_
              refine lv_iadd hx hb dX6_keepApart_91 ?_
              refine xput (ty := .int) F hT hW hS xuX6 tyX6 tyX6_ok nmX6 (xm_fix (by decide)) xce_12 rfl 13 (by decide) xw_813 rfl rfl rfl rfl rfl (Nat.le_of_ble_eq_true rfl) xup_12_13 dX6_keepApart_92 (fun H locs hW hS => ?_)
              refine lv_aload_n hx hb dX6_keepApart_95 rfl (lv_at hl 0 rfl) ?_
              refine xget F hT hW xuX6 (xm_fix (by decide)) xce_12 rfl 13 (by decide) xw_813 rfl rfl dX6_keepApart_96 ?_
              cases hf
              exact xret_i (ty := .int) F hr hlocks hS rfl rfl hW (Nat.le_of_ble_eq_true rfl) (Nat.le_of_ble_eq_true rfl) dX6_keepApart_99
            · replace hf := if_f c17 hf
              refine lv_iconst (v := 0) hx hb dX6_keepApart_63 (by decide) ?_
              cases hf
              exact xret_i (ty := .int) F hr hlocks hS rfl rfl hW (Nat.le_of_ble_eq_true rfl) (Nat.le_of_ble_eq_true rfl) dX6_keepApart_64
          · replace hf := if_t c14 hf
            refine lv_iconst (v := 4) hx hb dX6_keepApart_52 (by decide) ?_
            refine lv_goto (tgt := 57) hx hb dX6_keepApart_53 (by decide) ?_
            obtain ⟨v21, s22, hc26, hf⟩ := oP_go hf
            refine xcallV (n := 1) F hT hW hS (xm_fix (by decide)) xce_12 rfl (kX6_fails l hl0 G sh sc sr sl 4  _ hc26) (xgV xw_883 xw_885 xwp_14 xw_4 xw_886) rfl xd_X6_fails ⟨Nat.le_of_ble_eq_true rfl, Nat.le_of_ble_eq_true rfl⟩ rfl hl.1 rfl (Nat.le_of_ble_eq_true rfl) dX6_keepApart_57 ⟨Nat.le_of_ble_eq_true rfl, Nat.le_of_ble_eq_true rfl⟩ (fun v9 H locs hres hW hS => ?_) (fun E9 H locs q9 ce9 hres => by cases hres)
            cases hres
            refine W.eq (g2 := F0 m 60 ls (.int v21 :: [])) rfl ?_
            refine lv_if_eq (tgt := 65) hx hb dX6_keepApart_60 (by decide) (fun c23 => ?_) (fun c23 => ?_)
            · replace hf := if_t c23 hf
              refine lv_aload_n hx hb dX6_keepApart_65 rfl (lv_at hl 0 rfl) ?_
              refine xget F hT hW xuX6 (xm_fix (by decide)) xce_12 rfl 14 (by decide) xw_814 rfl rfl dX6_keepApart_66 ?_
              refine lv_aload_n hx hb dX6_keepApart_69 rfl (lv_at hl 0 rfl) ?_
              refine xget F hT hW xuX6 (xm_fix (by decide)) xce_12 rfl 13 (by decide) xw_813 rfl rfl dX6_keepApart_70 ?_
              refine lv_iload_n hx hb dX6_keepApart_73 rfl (lv_at hl 1 rfl) ?_
              obtain ⟨g25, hf⟩ := oG_go hf
              refine xmast (by decide) F hT hW hS (xm_fix (by decide)) (by decide) (xinb_ok g25) dX6_keepApart_74 (fun H locs hW hS => ?_)
              refine lv_aload_n hx hb dX6_keepApart_75 rfl (lv_at hl 0 rfl) ?_
              refine xget F hT hW xuX6 (xm_fix (by decide)) xce_12 rfl 15 (by decide) xw_815 rfl rfl dX6_keepApart_76 ?_
              refine lv_aload_n hx hb dX6_keepApart_79 rfl (lv_at hl 0 rfl) ?_
              refine xget F hT hW xuX6 (xm_fix (by decide)) xce_12 rfl 13 (by decide) xw_813 rfl rfl dX6_keepApart_80 ?_
              refine lv_iload_n hx hb dX6_keepApart_83 rfl (lv_at hl 2 rfl) ?_
              obtain ⟨g24, hf⟩ := oG_go hf
              refine xmast (by decide) F hT hW hS (xm_fix (by decide)) (by decide) (xinb_ok g24) dX6_keepApart_84 (fun H locs hW hS => ?_)
              refine lv_aload_n hx hb dX6_keepApart_85 rfl (lv_at hl 0 rfl) ?_
              refine lv_dup hx hb dX6_keepApart_86 rfl ?_
              refine xget F hT hW xuX6 (xm_fix (by decide)) xce_12 rfl 13 (by decide) xw_813 rfl rfl dX6_keepApart_87 ?_
              refine lv_iconst (v := 1) hx hb dX6_keepApart_90 (by decide) ?_
              refine lv_iadd hx hb dX6_keepApart_91 ?_
              refine xput (ty := .int) F hT hW hS xuX6 tyX6 tyX6_ok nmX6 (xm_fix (by decide)) xce_12 rfl 13 (by decide) xw_813 rfl rfl rfl rfl rfl (Nat.le_of_ble_eq_true rfl) xup_12_13 dX6_keepApart_92 (fun H locs hW hS => ?_)
              refine lv_aload_n hx hb dX6_keepApart_95 rfl (lv_at hl 0 rfl) ?_
              refine xget F hT hW xuX6 (xm_fix (by decide)) xce_12 rfl 13 (by decide) xw_813 rfl rfl dX6_keepApart_96 ?_
              cases hf
              exact xret_i (ty := .int) F hr hlocks hS rfl rfl hW (Nat.le_of_ble_eq_true rfl) (Nat.le_of_ble_eq_true rfl) dX6_keepApart_99
            · replace hf := if_f c23 hf
              refine lv_iconst (v := 0) hx hb dX6_keepApart_63 (by decide) ?_
              cases hf
              exact xret_i (ty := .int) F hr hlocks hS rfl rfl hW (Nat.le_of_ble_eq_true rfl) (Nat.le_of_ble_eq_true rfl) dX6_keepApart_64
        · replace hf := if_f c13 hf
          refine lv_iconst (v := 3) hx hb dX6_keepApart_39 (by decide) ?_
          refine lv_goto (tgt := 57) hx hb dX6_keepApart_40 (by decide) ?_
          obtain ⟨v27, s28, hc32, hf⟩ := oP_go hf
          refine xcallV (n := 1) F hT hW hS (xm_fix (by decide)) xce_12 rfl (kX6_fails l hl0 G sh sc sr sl 3  _ hc32) (xgV xw_883 xw_885 xwp_14 xw_4 xw_886) rfl xd_X6_fails ⟨Nat.le_of_ble_eq_true rfl, Nat.le_of_ble_eq_true rfl⟩ rfl hl.1 rfl (Nat.le_of_ble_eq_true rfl) dX6_keepApart_57 ⟨Nat.le_of_ble_eq_true rfl, Nat.le_of_ble_eq_true rfl⟩ (fun v9 H locs hres hW hS => ?_) (fun E9 H locs q9 ce9 hres => by cases hres)
          cases hres
          refine W.eq (g2 := F0 m 60 ls (.int v27 :: [])) rfl ?_
          refine lv_if_eq (tgt := 65) hx hb dX6_keepApart_60 (by decide) (fun c29 => ?_) (fun c29 => ?_)
          · replace hf := if_t c29 hf
            refine lv_aload_n hx hb dX6_keepApart_65 rfl (lv_at hl 0 rfl) ?_
            refine xget F hT hW xuX6 (xm_fix (by decide)) xce_12 rfl 14 (by decide) xw_814 rfl rfl dX6_keepApart_66 ?_
            refine lv_aload_n hx hb dX6_keepApart_69 rfl (lv_at hl 0 rfl) ?_
            refine xget F hT hW xuX6 (xm_fix (by decide)) xce_12 rfl 13 (by decide) xw_813 rfl rfl dX6_keepApart_70 ?_
            refine lv_iload_n hx hb dX6_keepApart_73 rfl (lv_at hl 1 rfl) ?_
            obtain ⟨g31, hf⟩ := oG_go hf
            refine xmast (by decide) F hT hW hS (xm_fix (by decide)) (by decide) (xinb_ok g31) dX6_keepApart_74 (fun H locs hW hS => ?_)
            refine lv_aload_n hx hb dX6_keepApart_75 rfl (lv_at hl 0 rfl) ?_
            refine xget F hT hW xuX6 (xm_fix (by decide)) xce_12 rfl 15 (by decide) xw_815 rfl rfl dX6_keepApart_76 ?_
            refine lv_aload_n hx hb dX6_keepApart_79 rfl (lv_at hl 0 rfl) ?_
            refine xget F hT hW xuX6 (xm_fix (by decide)) xce_12 rfl 13 (by decide) xw_813 rfl rfl dX6_keepApart_80 ?_
            refine lv_iload_n hx hb dX6_keepApart_83 rfl (lv_at hl 2 rfl) ?_
            obtain ⟨g30, hf⟩ := oG_go hf
            refine xmast (by decide) F hT hW hS (xm_fix (by decide)) (by decide) (xinb_ok g30) dX6_keepApart_84 (fun H locs hW hS => ?_)
            refine lv_aload_n hx hb dX6_keepApart_85 rfl (lv_at hl 0 rfl) ?_
            refine lv_dup hx hb dX6_keepApart_86 rfl ?_
            refine xget F hT hW xuX6 (xm_fix (by decide)) xce_12 rfl 13 (by decide) xw_813 rfl rfl dX6_keepApart_87 ?_
            refine lv_iconst (v := 1) hx hb dX6_keepApart_90 (by decide) ?_
            refine lv_iadd hx hb dX6_keepApart_91 ?_
            refine xput (ty := .int) F hT hW hS xuX6 tyX6 tyX6_ok nmX6 (xm_fix (by decide)) xce_12 rfl 13 (by decide) xw_813 rfl rfl rfl rfl rfl (Nat.le_of_ble_eq_true rfl) xup_12_13 dX6_keepApart_92 (fun H locs hW hS => ?_)
            refine lv_aload_n hx hb dX6_keepApart_95 rfl (lv_at hl 0 rfl) ?_
            refine xget F hT hW xuX6 (xm_fix (by decide)) xce_12 rfl 13 (by decide) xw_813 rfl rfl dX6_keepApart_96 ?_
            cases hf
            exact xret_i (ty := .int) F hr hlocks hS rfl rfl hW (Nat.le_of_ble_eq_true rfl) (Nat.le_of_ble_eq_true rfl) dX6_keepApart_99
          · replace hf := if_f c29 hf
            refine lv_iconst (v := 0) hx hb dX6_keepApart_63 (by decide) ?_
            cases hf
            exact xret_i (ty := .int) F hr hlocks hS rfl rfl hW (Nat.le_of_ble_eq_true rfl) (Nat.le_of_ble_eq_true rfl) dX6_keepApart_64
      · replace hf := if_t c11 hf
        refine lv_iconst (v := 2) hx hb dX6_keepApart_26 (by decide) ?_
        refine lv_goto (tgt := 57) hx hb dX6_keepApart_27 (by decide) ?_
        obtain ⟨v34, s35, hc39, hf⟩ := oP_go hf
        refine xcallV (n := 1) F hT hW hS (xm_fix (by decide)) xce_12 rfl (kX6_fails l hl0 G sh sc sr sl 2  _ hc39) (xgV xw_883 xw_885 xwp_14 xw_4 xw_886) rfl xd_X6_fails ⟨Nat.le_of_ble_eq_true rfl, Nat.le_of_ble_eq_true rfl⟩ rfl hl.1 rfl (Nat.le_of_ble_eq_true rfl) dX6_keepApart_57 ⟨Nat.le_of_ble_eq_true rfl, Nat.le_of_ble_eq_true rfl⟩ (fun v9 H locs hres hW hS => ?_) (fun E9 H locs q9 ce9 hres => by cases hres)
        cases hres
        refine W.eq (g2 := F0 m 60 ls (.int v34 :: [])) rfl ?_
        refine lv_if_eq (tgt := 65) hx hb dX6_keepApart_60 (by decide) (fun c36 => ?_) (fun c36 => ?_)
        · replace hf := if_t c36 hf
          refine lv_aload_n hx hb dX6_keepApart_65 rfl (lv_at hl 0 rfl) ?_
          refine xget F hT hW xuX6 (xm_fix (by decide)) xce_12 rfl 14 (by decide) xw_814 rfl rfl dX6_keepApart_66 ?_
          refine lv_aload_n hx hb dX6_keepApart_69 rfl (lv_at hl 0 rfl) ?_
          refine xget F hT hW xuX6 (xm_fix (by decide)) xce_12 rfl 13 (by decide) xw_813 rfl rfl dX6_keepApart_70 ?_
          refine lv_iload_n hx hb dX6_keepApart_73 rfl (lv_at hl 1 rfl) ?_
          obtain ⟨g38, hf⟩ := oG_go hf
          refine xmast (by decide) F hT hW hS (xm_fix (by decide)) (by decide) (xinb_ok g38) dX6_keepApart_74 (fun H locs hW hS => ?_)
          refine lv_aload_n hx hb dX6_keepApart_75 rfl (lv_at hl 0 rfl) ?_
          refine xget F hT hW xuX6 (xm_fix (by decide)) xce_12 rfl 15 (by decide) xw_815 rfl rfl dX6_keepApart_76 ?_
          refine lv_aload_n hx hb dX6_keepApart_79 rfl (lv_at hl 0 rfl) ?_
          refine xget F hT hW xuX6 (xm_fix (by decide)) xce_12 rfl 13 (by decide) xw_813 rfl rfl dX6_keepApart_80 ?_
          refine lv_iload_n hx hb dX6_keepApart_83 rfl (lv_at hl 2 rfl) ?_
          obtain ⟨g37, hf⟩ := oG_go hf
          refine xmast (by decide) F hT hW hS (xm_fix (by decide)) (by decide) (xinb_ok g37) dX6_keepApart_84 (fun H locs hW hS => ?_)
          refine lv_aload_n hx hb dX6_keepApart_85 rfl (lv_at hl 0 rfl) ?_
          refine lv_dup hx hb dX6_keepApart_86 rfl ?_
          refine xget F hT hW xuX6 (xm_fix (by decide)) xce_12 rfl 13 (by decide) xw_813 rfl rfl dX6_keepApart_87 ?_
          refine lv_iconst (v := 1) hx hb dX6_keepApart_90 (by decide) ?_
          refine lv_iadd hx hb dX6_keepApart_91 ?_
          refine xput (ty := .int) F hT hW hS xuX6 tyX6 tyX6_ok nmX6 (xm_fix (by decide)) xce_12 rfl 13 (by decide) xw_813 rfl rfl rfl rfl rfl (Nat.le_of_ble_eq_true rfl) xup_12_13 dX6_keepApart_92 (fun H locs hW hS => ?_)
          refine lv_aload_n hx hb dX6_keepApart_95 rfl (lv_at hl 0 rfl) ?_
          refine xget F hT hW xuX6 (xm_fix (by decide)) xce_12 rfl 13 (by decide) xw_813 rfl rfl dX6_keepApart_96 ?_
          cases hf
          exact xret_i (ty := .int) F hr hlocks hS rfl rfl hW (Nat.le_of_ble_eq_true rfl) (Nat.le_of_ble_eq_true rfl) dX6_keepApart_99
        · replace hf := if_f c36 hf
          refine lv_iconst (v := 0) hx hb dX6_keepApart_63 (by decide) ?_
          cases hf
          exact xret_i (ty := .int) F hr hlocks hS rfl rfl hW (Nat.le_of_ble_eq_true rfl) (Nat.le_of_ble_eq_true rfl) dX6_keepApart_64
    · replace hf := if_f c10 hf
      refine lv_iconst (v := 1) hx hb dX6_keepApart_17 (by decide) ?_
      refine lv_goto (tgt := 57) hx hb dX6_keepApart_18 (by decide) ?_
      obtain ⟨v40, s41, hc45, hf⟩ := oP_go hf
      refine xcallV (n := 1) F hT hW hS (xm_fix (by decide)) xce_12 rfl (kX6_fails l hl0 G sh sc sr sl 1  _ hc45) (xgV xw_883 xw_885 xwp_14 xw_4 xw_886) rfl xd_X6_fails ⟨Nat.le_of_ble_eq_true rfl, Nat.le_of_ble_eq_true rfl⟩ rfl hl.1 rfl (Nat.le_of_ble_eq_true rfl) dX6_keepApart_57 ⟨Nat.le_of_ble_eq_true rfl, Nat.le_of_ble_eq_true rfl⟩ (fun v9 H locs hres hW hS => ?_) (fun E9 H locs q9 ce9 hres => by cases hres)
      cases hres
      refine W.eq (g2 := F0 m 60 ls (.int v40 :: [])) rfl ?_
      refine lv_if_eq (tgt := 65) hx hb dX6_keepApart_60 (by decide) (fun c42 => ?_) (fun c42 => ?_)
      · replace hf := if_t c42 hf
        refine lv_aload_n hx hb dX6_keepApart_65 rfl (lv_at hl 0 rfl) ?_
        refine xget F hT hW xuX6 (xm_fix (by decide)) xce_12 rfl 14 (by decide) xw_814 rfl rfl dX6_keepApart_66 ?_
        refine lv_aload_n hx hb dX6_keepApart_69 rfl (lv_at hl 0 rfl) ?_
        refine xget F hT hW xuX6 (xm_fix (by decide)) xce_12 rfl 13 (by decide) xw_813 rfl rfl dX6_keepApart_70 ?_
        refine lv_iload_n hx hb dX6_keepApart_73 rfl (lv_at hl 1 rfl) ?_
        obtain ⟨g44, hf⟩ := oG_go hf
        refine xmast (by decide) F hT hW hS (xm_fix (by decide)) (by decide) (xinb_ok g44) dX6_keepApart_74 (fun H locs hW hS => ?_)
        refine lv_aload_n hx hb dX6_keepApart_75 rfl (lv_at hl 0 rfl) ?_
        refine xget F hT hW xuX6 (xm_fix (by decide)) xce_12 rfl 15 (by decide) xw_815 rfl rfl dX6_keepApart_76 ?_
        refine lv_aload_n hx hb dX6_keepApart_79 rfl (lv_at hl 0 rfl) ?_
        refine xget F hT hW xuX6 (xm_fix (by decide)) xce_12 rfl 13 (by decide) xw_813 rfl rfl dX6_keepApart_80 ?_
        refine lv_iload_n hx hb dX6_keepApart_83 rfl (lv_at hl 2 rfl) ?_
        obtain ⟨g43, hf⟩ := oG_go hf
        refine xmast (by decide) F hT hW hS (xm_fix (by decide)) (by decide) (xinb_ok g43) dX6_keepApart_84 (fun H locs hW hS => ?_)
        refine lv_aload_n hx hb dX6_keepApart_85 rfl (lv_at hl 0 rfl) ?_
        refine lv_dup hx hb dX6_keepApart_86 rfl ?_
        refine xget F hT hW xuX6 (xm_fix (by decide)) xce_12 rfl 13 (by decide) xw_813 rfl rfl dX6_keepApart_87 ?_
        refine lv_iconst (v := 1) hx hb dX6_keepApart_90 (by decide) ?_
        refine lv_iadd hx hb dX6_keepApart_91 ?_
        refine xput (ty := .int) F hT hW hS xuX6 tyX6 tyX6_ok nmX6 (xm_fix (by decide)) xce_12 rfl 13 (by decide) xw_813 rfl rfl rfl rfl rfl (Nat.le_of_ble_eq_true rfl) xup_12_13 dX6_keepApart_92 (fun H locs hW hS => ?_)
        refine lv_aload_n hx hb dX6_keepApart_95 rfl (lv_at hl 0 rfl) ?_
        refine xget F hT hW xuX6 (xm_fix (by decide)) xce_12 rfl 13 (by decide) xw_813 rfl rfl dX6_keepApart_96 ?_
        cases hf
        exact xret_i (ty := .int) F hr hlocks hS rfl rfl hW (Nat.le_of_ble_eq_true rfl) (Nat.le_of_ble_eq_true rfl) dX6_keepApart_99
      · replace hf := if_f c42 hf
        refine lv_iconst (v := 0) hx hb dX6_keepApart_63 (by decide) ?_
        cases hf
        exact xret_i (ty := .int) F hr hlocks hS rfl rfl hW (Nat.le_of_ble_eq_true rfl) (Nat.le_of_ble_eq_true rfl) dX6_keepApart_64
abbrev rX6_meanStorage : Room := { frames := 1, cells := 0, slots := 0, locals := 21 }
abbrev zX6_meanStorage : List Cond := Cond.code yX6_meanStorage cX6_meanStorage 3 (some .double) :: xB
theorem xd_X6_meanStorage : yX6_meanStorage.cls = RX6 ∧ yX6_meanStorage.cls ≠ "java/lang/invoke/MethodHandle" ∧ yX6_meanStorage.cls ≠ "java/lang/invoke/VarHandle" ∧ (parseMethodDescriptor yX6_meanStorage.desc).map (fun d => d.parameters.length) = some 0 := by decide +kernel
def fX6_meanStorage_K1 (x1L1 : Int32) (x2L1 : Int32) (srL1 : xSR) : Option (UInt64 × xSR) := oG (xn64 (FP.ddiv (FP.i2d x1L1) (FP.i2d (srL1.1 103 0)))) (some ((FP.ddiv (FP.i2d x1L1) (FP.i2d (srL1.1 103 0))), srL1))
def fX6_meanStorage_L1 (k_L1 : Int32 → Int32 → xSR → Option (UInt64 × xSR)) : Nat → Int32 → Int32 → xSR → Option (UInt64 × xSR)
  | 0, _, _, _ => none
  | n + 1, x1L1, x2L1, srL1 => (if (srL1.1 103 0) ≤ x2L1 then k_L1 x1L1 x2L1 srL1 else oG (xinb (3 * x2L1) 18) ((fX6_meanStorage_L1 k_L1 n) (x1L1 + (srL1.1 4 (3 * x2L1).toNatClampNeg)) (x2L1 + 1) srL1))
def fX6_meanStorage_K2 (x1L2 : Int32) (x2L2 : Int32) (srL2 : xSR) : Option (UInt64 × xSR) := oG (xn64 (FP.ddiv (FP.i2d x1L2) (FP.i2d (srL2.1 103 0)))) (some ((FP.ddiv (FP.i2d x1L2) (FP.i2d (srL2.1 103 0))), srL2))
def fX6_meanStorage_L2 (k_L2 : Int32 → Int32 → xSR → Option (UInt64 × xSR)) : Nat → Int32 → Int32 → xSR → Option (UInt64 × xSR)
  | 0, _, _, _ => none
  | n + 1, x1L2, x2L2, srL2 => (if (srL2.1 103 0) ≤ x2L2 then k_L2 x1L2 x2L2 srL2 else oG (xinb (3 * x2L2) 18) ((fX6_meanStorage_L2 k_L2 n) (x1L2 + (srL2.1 4 (3 * x2L2).toNatClampNeg)) (x2L2 + 1) srL2))
def fX6_meanStorage (sr : xSR) : Option (UInt64 × xSR) := (if (sr.1 103 0) = 0 then oP (fX6_fails 1 sr) (fun v9 s10 => (if v9 = 0 then fX6_meanStorage_L2 (fX6_meanStorage_K2) 64 0 0 s10 else some (0, s10))) else oP (fX6_fails 0 sr) (fun v2 s3 => (if v2 = 0 then fX6_meanStorage_L1 (fX6_meanStorage_K1) 64 0 0 s3 else some (0, s3))))
set_option maxHeartbeats 4000000 in
set_option maxRecDepth 100000 in
theorem kX6_meanStorage (l : Launch) (hl0 : l.stackTraces = false) (G : xG) (sh : xSh) (sc : xSC) (sr : xSR) (sl : xSL) (r : (UInt64 × xSR)) (hf : fX6_meanStorage sr = some r) : xMet l yX6_meanStorage zX6_meanStorage rX6_meanStorage G sh sc sr sl ([.ref (sh.1 12 0)] : List Value) (xvD (.inr r.1)) (xWd G sh sc r.2 sl) := by
  refine xMet_of (cc := cX6_meanStorage) (maxL := 3) (ret := (some .double)) (by decide) (Nat.le_of_ble_eq_true rfl) ?_
  intro p e s m below meth c F hT hW hr hlocks htab ls hl
  have F : CallFix p m c cX6_meanStorage 3 s ([.ref (sh.1 12 0)] : List Value).toArray xB RX6 := F
  have hx := F.1
  have hb := F.2.1
  have hS : va_S (xA G) s.heap s.heap [] := va_S.rf
  have hl : lv_has ls 3 [(0, .ref (sh.1 12 0))] := hl
  unfold fX6_meanStorage at hf
  refine lv_aload_n hx hb dX6_meanStorage_0 rfl (lv_at hl 0 rfl) ?_
  refine lv_aload_n hx hb dX6_meanStorage_1 rfl (lv_at hl 0 rfl) ?_
  refine xget F hT hW xuX6 (xm_fix (by decide)) xce_12 rfl 3 (by decide) xw_803 rfl rfl dX6_meanStorage_2 ?_
  refine lv_if_ne (tgt := 12) hx hb dX6_meanStorage_5 (by decide) (fun c1 => ?_) (fun c1 => ?_)
  · replace hf := if_f c1 hf
    refine lv_iconst (v := 0) hx hb dX6_meanStorage_12 (by decide) ?_
    obtain ⟨v2, s3, hc8, hf⟩ := oP_go hf
    refine xcallV (n := 1) F hT hW hS (xm_fix (by decide)) xce_12 rfl (kX6_fails l hl0 G sh sc sr sl 0  _ hc8) (xgV xw_883 xw_885 xwp_14 xw_4 xw_886) rfl xd_X6_fails ⟨Nat.le_of_ble_eq_true rfl, Nat.le_of_ble_eq_true rfl⟩ rfl hl.1 rfl (Nat.le_of_ble_eq_true rfl) dX6_meanStorage_13 ⟨Nat.le_of_ble_eq_true rfl, Nat.le_of_ble_eq_true rfl⟩ (fun v9 H locs hres hW hS => ?_) (fun E9 H locs q9 ce9 hres => by cases hres)
    cases hres
    refine W.eq (g2 := F0 m 16 ls (.int v2 :: [])) rfl ?_
    refine lv_if_eq (tgt := 21) hx hb dX6_meanStorage_16 (by decide) (fun c4 => ?_) (fun c4 => ?_)
    · replace hf := if_t c4 hf
      refine lv_iconst (v := 0) hx hb dX6_meanStorage_21 (by decide) ?_
      refine lv_istore_n (lv' := [(1, .int 0), (0, .ref (sh.1 12 0))]) hx hb dX6_meanStorage_22 rfl hl (by decide) rfl (fun ls hl => ?_)
      refine lv_iconst (v := 0) hx hb dX6_meanStorage_23 (by decide) ?_
      refine lv_istore_n (lv' := [(2, .int 0), (1, .int 0), (0, .ref (sh.1 12 0))]) hx hb dX6_meanStorage_24 rfl hl (by decide) rfl (fun ls hl => ?_)
      have hx_L1 : ∀ (x1L1 : Int32) (x2L1 : Int32) (srL1 : xSR), fX6_meanStorage_K1 x1L1 x2L1 srL1 = some r → ∀ (H : Heap) (locs : List Loc), xWd G sh sc srL1 sl H → va_S (xA G) s.heap H locs → ∀ ls : Array Slot, lv_has ls 3 [(0, .ref (sh.1 12 0)), (1, .int x1L1)] → W p l e rX6_meanStorage s m ([.ref (sh.1 12 0)] : List Value).toArray below meth c H locs 0 0 (xQ below G (xvD (.inr r.1)) (xWd G sh sc r.2 sl) ([.ref (sh.1 12 0)] : List Value).toArray s 0 0) (F0 m 50 ls []) := by
        intro x1L1 x2L1 srL1 hf H locs hW hS ls hl
        unfold fX6_meanStorage_K1 at hf
        refine lv_iload_n hx hb dX6_meanStorage_50 rfl (lv_at hl 1 rfl) ?_
        refine lv_i2d hx hb dX6_meanStorage_51 ?_
        refine lv_aload_n hx hb dX6_meanStorage_52 rfl (lv_at hl 0 rfl) ?_
        refine xget F hT hW xuX6 (xm_fix (by decide)) xce_12 rfl 3 (by decide) xw_803 rfl rfl dX6_meanStorage_53 ?_
        refine lv_i2d hx hb dX6_meanStorage_56 ?_
        obtain ⟨g5, hf⟩ := oG_go hf
        refine lv_ddiv hx hb dX6_meanStorage_57 (xn64_ok g5) ?_
        cases hf
        exact xret_d F hr hlocks hS rfl hW (Nat.le_of_ble_eq_true rfl) (Nat.le_of_ble_eq_true rfl) dX6_meanStorage_58
      have hL_L1 : ∀ (n9 : Nat) (x1L1 : Int32) (x2L1 : Int32) (srL1 : xSR), fX6_meanStorage_L1 (fX6_meanStorage_K1) n9 x1L1 x2L1 srL1 = some r → ∀ (H : Heap) (locs : List Loc), xWd G sh sc srL1 sl H → va_S (xA G) s.heap H locs → ∀ ls : Array Slot, lv_has ls 3 [(0, .ref (sh.1 12 0)), (1, .int x1L1), (2, .int x2L1)] → W p l e rX6_meanStorage s m ([.ref (sh.1 12 0)] : List Value).toArray below meth c H locs 0 0 (xQ below G (xvD (.inr r.1)) (xWd G sh sc r.2 sl) ([.ref (sh.1 12 0)] : List Value).toArray s 0 0) (F0 m 25 ls []) := by
        intro n_L1
        induction n_L1 with
        | zero =>
          intro x1L1 x2L1 srL1 hf
          unfold fX6_meanStorage_L1 at hf
          cases hf
        | succ n_L1 ih_L1 =>
          intro x1L1 x2L1 srL1 hf H locs hW hS ls hl
          unfold fX6_meanStorage_L1 at hf
          refine lv_iload_n hx hb dX6_meanStorage_25 rfl (lv_at hl 2 rfl) ?_
          refine lv_aload_n hx hb dX6_meanStorage_26 rfl (lv_at hl 0 rfl) ?_
          refine xget F hT hW xuX6 (xm_fix (by decide)) xce_12 rfl 3 (by decide) xw_803 rfl rfl dX6_meanStorage_27 ?_
          refine lv_icmp_ge (tgt := 50) hx hb dX6_meanStorage_30 (by decide) (fun c6 => ?_) (fun c6 => ?_)
          · replace hf := if_t c6 hf
            exact hx_L1 _ _ _ hf _ _ hW hS ls (lv_sub hl [0, 1] rfl)
          · replace hf := if_f c6 hf
            refine lv_iload_n hx hb dX6_meanStorage_33 rfl (lv_at hl 1 rfl) ?_
            refine lv_aload_n hx hb dX6_meanStorage_34 rfl (lv_at hl 0 rfl) ?_
            refine xget F hT hW xuX6 (xm_fix (by decide)) xce_12 rfl 4 (by decide) xw_804 rfl rfl dX6_meanStorage_35 ?_
            refine lv_iconst (v := 3) hx hb dX6_meanStorage_38 (by decide) ?_
            refine lv_iload_n hx hb dX6_meanStorage_39 rfl (lv_at hl 2 rfl) ?_
            refine lv_imul hx hb dX6_meanStorage_40 ?_
            obtain ⟨g7, hf⟩ := oG_go hf
            refine xmald (by decide) F hT hW (xm_fix (by decide)) (by decide) (xinb_ok g7) dX6_meanStorage_41 ?_
            refine lv_iadd hx hb dX6_meanStorage_42 ?_
            refine lv_istore_n (lv' := [(1, .int (x1L1 + (srL1.1 4 (3 * x2L1).toNatClampNeg))), (0, .ref (sh.1 12 0)), (2, .int x2L1)]) hx hb dX6_meanStorage_43 rfl hl (by decide) rfl (fun ls hl => ?_)
            refine lv_iinc (v := (x2L1 + 1)) (lv' := [(2, .int (x2L1 + 1)), (1, .int (x1L1 + (srL1.1 4 (3 * x2L1).toNatClampNeg))), (0, .ref (sh.1 12 0))]) hx hb dX6_meanStorage_44 hl (k := 2) rfl rfl (by decide) rfl (fun ls hl => ?_)
            refine lv_goto (tgt := 25) hx hb dX6_meanStorage_47 (by decide) ?_
            exact ih_L1 _ _ _ hf _ _ hW hS ls (lv_sub hl [2, 1, 0] rfl)
      exact hL_L1 _ _ _ _ hf _ _ hW hS ls (lv_sub hl [2, 1, 0] rfl)
    · replace hf := if_f c4 hf
      refine lv_dconst0 hx hb dX6_meanStorage_19 ?_
      cases hf
      exact xret_d F hr hlocks hS rfl hW (Nat.le_of_ble_eq_true rfl) (Nat.le_of_ble_eq_true rfl) dX6_meanStorage_20
  · replace hf := if_t c1 hf
    refine lv_iconst (v := 1) hx hb dX6_meanStorage_8 (by decide) ?_
    refine lv_goto (tgt := 13) hx hb dX6_meanStorage_9 (by decide) ?_
    obtain ⟨v9, s10, hc15, hf⟩ := oP_go hf
    refine xcallV (n := 1) F hT hW hS (xm_fix (by decide)) xce_12 rfl (kX6_fails l hl0 G sh sc sr sl 1  _ hc15) (xgV xw_883 xw_885 xwp_14 xw_4 xw_886) rfl xd_X6_fails ⟨Nat.le_of_ble_eq_true rfl, Nat.le_of_ble_eq_true rfl⟩ rfl hl.1 rfl (Nat.le_of_ble_eq_true rfl) dX6_meanStorage_13 ⟨Nat.le_of_ble_eq_true rfl, Nat.le_of_ble_eq_true rfl⟩ (fun v9 H locs hres hW hS => ?_) (fun E9 H locs q9 ce9 hres => by cases hres)
    cases hres
    refine W.eq (g2 := F0 m 16 ls (.int v9 :: [])) rfl ?_
    refine lv_if_eq (tgt := 21) hx hb dX6_meanStorage_16 (by decide) (fun c11 => ?_) (fun c11 => ?_)
    · replace hf := if_t c11 hf
      refine lv_iconst (v := 0) hx hb dX6_meanStorage_21 (by decide) ?_
      refine lv_istore_n (lv' := [(1, .int 0), (0, .ref (sh.1 12 0))]) hx hb dX6_meanStorage_22 rfl hl (by decide) rfl (fun ls hl => ?_)
      refine lv_iconst (v := 0) hx hb dX6_meanStorage_23 (by decide) ?_
      refine lv_istore_n (lv' := [(2, .int 0), (1, .int 0), (0, .ref (sh.1 12 0))]) hx hb dX6_meanStorage_24 rfl hl (by decide) rfl (fun ls hl => ?_)
      have hx_L2 : ∀ (x1L2 : Int32) (x2L2 : Int32) (srL2 : xSR), fX6_meanStorage_K2 x1L2 x2L2 srL2 = some r → ∀ (H : Heap) (locs : List Loc), xWd G sh sc srL2 sl H → va_S (xA G) s.heap H locs → ∀ ls : Array Slot, lv_has ls 3 [(0, .ref (sh.1 12 0)), (1, .int x1L2)] → W p l e rX6_meanStorage s m ([.ref (sh.1 12 0)] : List Value).toArray below meth c H locs 0 0 (xQ below G (xvD (.inr r.1)) (xWd G sh sc r.2 sl) ([.ref (sh.1 12 0)] : List Value).toArray s 0 0) (F0 m 50 ls []) := by
        intro x1L2 x2L2 srL2 hf H locs hW hS ls hl
        unfold fX6_meanStorage_K2 at hf
        refine lv_iload_n hx hb dX6_meanStorage_50 rfl (lv_at hl 1 rfl) ?_
        refine lv_i2d hx hb dX6_meanStorage_51 ?_
        refine lv_aload_n hx hb dX6_meanStorage_52 rfl (lv_at hl 0 rfl) ?_
        refine xget F hT hW xuX6 (xm_fix (by decide)) xce_12 rfl 3 (by decide) xw_803 rfl rfl dX6_meanStorage_53 ?_
        refine lv_i2d hx hb dX6_meanStorage_56 ?_
        obtain ⟨g12, hf⟩ := oG_go hf
        refine lv_ddiv hx hb dX6_meanStorage_57 (xn64_ok g12) ?_
        cases hf
        exact xret_d F hr hlocks hS rfl hW (Nat.le_of_ble_eq_true rfl) (Nat.le_of_ble_eq_true rfl) dX6_meanStorage_58
      have hL_L2 : ∀ (n9 : Nat) (x1L2 : Int32) (x2L2 : Int32) (srL2 : xSR), fX6_meanStorage_L2 (fX6_meanStorage_K2) n9 x1L2 x2L2 srL2 = some r → ∀ (H : Heap) (locs : List Loc), xWd G sh sc srL2 sl H → va_S (xA G) s.heap H locs → ∀ ls : Array Slot, lv_has ls 3 [(0, .ref (sh.1 12 0)), (1, .int x1L2), (2, .int x2L2)] → W p l e rX6_meanStorage s m ([.ref (sh.1 12 0)] : List Value).toArray below meth c H locs 0 0 (xQ below G (xvD (.inr r.1)) (xWd G sh sc r.2 sl) ([.ref (sh.1 12 0)] : List Value).toArray s 0 0) (F0 m 25 ls []) := by
        intro n_L2
        induction n_L2 with
        | zero =>
          intro x1L2 x2L2 srL2 hf
          unfold fX6_meanStorage_L2 at hf
          cases hf
        | succ n_L2 ih_L2 =>
          intro x1L2 x2L2 srL2 hf H locs hW hS ls hl
          unfold fX6_meanStorage_L2 at hf
          refine lv_iload_n hx hb dX6_meanStorage_25 rfl (lv_at hl 2 rfl) ?_
          refine lv_aload_n hx hb dX6_meanStorage_26 rfl (lv_at hl 0 rfl) ?_
          refine xget F hT hW xuX6 (xm_fix (by decide)) xce_12 rfl 3 (by decide) xw_803 rfl rfl dX6_meanStorage_27 ?_
          refine lv_icmp_ge (tgt := 50) hx hb dX6_meanStorage_30 (by decide) (fun c13 => ?_) (fun c13 => ?_)
          · replace hf := if_t c13 hf
            exact hx_L2 _ _ _ hf _ _ hW hS ls (lv_sub hl [0, 1] rfl)
          · replace hf := if_f c13 hf
            refine lv_iload_n hx hb dX6_meanStorage_33 rfl (lv_at hl 1 rfl) ?_
            refine lv_aload_n hx hb dX6_meanStorage_34 rfl (lv_at hl 0 rfl) ?_
            refine xget F hT hW xuX6 (xm_fix (by decide)) xce_12 rfl 4 (by decide) xw_804 rfl rfl dX6_meanStorage_35 ?_
            refine lv_iconst (v := 3) hx hb dX6_meanStorage_38 (by decide) ?_
            refine lv_iload_n hx hb dX6_meanStorage_39 rfl (lv_at hl 2 rfl) ?_
            refine lv_imul hx hb dX6_meanStorage_40 ?_
            obtain ⟨g14, hf⟩ := oG_go hf
            refine xmald (by decide) F hT hW (xm_fix (by decide)) (by decide) (xinb_ok g14) dX6_meanStorage_41 ?_
            refine lv_iadd hx hb dX6_meanStorage_42 ?_
            refine lv_istore_n (lv' := [(1, .int (x1L2 + (srL2.1 4 (3 * x2L2).toNatClampNeg))), (0, .ref (sh.1 12 0)), (2, .int x2L2)]) hx hb dX6_meanStorage_43 rfl hl (by decide) rfl (fun ls hl => ?_)
            refine lv_iinc (v := (x2L2 + 1)) (lv' := [(2, .int (x2L2 + 1)), (1, .int (x1L2 + (srL2.1 4 (3 * x2L2).toNatClampNeg))), (0, .ref (sh.1 12 0))]) hx hb dX6_meanStorage_44 hl (k := 2) rfl rfl (by decide) rfl (fun ls hl => ?_)
            refine lv_goto (tgt := 25) hx hb dX6_meanStorage_47 (by decide) ?_
            exact ih_L2 _ _ _ hf _ _ hW hS ls (lv_sub hl [2, 1, 0] rfl)
      exact hL_L2 _ _ _ _ hf _ _ hW hS ls (lv_sub hl [2, 1, 0] rfl)
    · replace hf := if_f c11 hf
      refine lv_dconst0 hx hb dX6_meanStorage_19 ?_
      cases hf
      exact xret_d F hr hlocks hS rfl hW (Nat.le_of_ble_eq_true rfl) (Nat.le_of_ble_eq_true rfl) dX6_meanStorage_20
abbrev rX6_why : Room := { frames := 5, cells := 0, slots := 0, locals := 115 }
abbrev zX6_why : List Cond := Cond.code yX6_why cX6_why 3 (some .char) :: xB
theorem xd_X6_why : yX6_why.cls = RX6 ∧ yX6_why.cls ≠ "java/lang/invoke/MethodHandle" ∧ yX6_why.cls ≠ "java/lang/invoke/VarHandle" ∧ (parseMethodDescriptor yX6_why.desc).map (fun d => d.parameters.length) = some 2 := by decide +kernel
def fX6_why (a1 : Int32) (a2 : Int32) (sr : xSR) : Option Int32 := oG (xinb a1 6) ((if (sr.1 9 a1.toNatClampNeg) = 0 then oG (xinb a1 6) ((if (sr.1 8 a1.toNatClampNeg) = a2 then some 115 else oG (xinb a2 4) ((if (sr.1 2 a2.toNatClampNeg) = 0 then oB (fX6_isBarred a1 a2 sr) (fun v4 => (if v4 = 0 then oB (fX6_hasRoom a1 a2 0 sr) (fun v6 => (if v6 = 0 then some 114 else some 110)) else some 112)) else some 99)))) else some 109))
set_option maxHeartbeats 4000000 in
set_option maxRecDepth 100000 in
theorem kX6_why (l : Launch) (hl0 : l.stackTraces = false) (G : xG) (sh : xSh) (sc : xSC) (sr : xSR) (sl : xSL) (a1 : Int32) (a2 : Int32) (r : Int32) (hf : fX6_why a1 a2 sr = some r) : xMet l yX6_why zX6_why rX6_why G sh sc sr sl ([.ref (sh.1 12 0), .int a1, .int a2] : List Value) (xvI (.inr r)) (xWd G sh sc sr sl) := by
  refine xMet_of (cc := cX6_why) (maxL := 3) (ret := (some .char)) (by decide) (Nat.le_of_ble_eq_true rfl) ?_
  intro p e s m below meth c F hT hW hr hlocks htab ls hl
  have F : CallFix p m c cX6_why 3 s ([.ref (sh.1 12 0), .int a1, .int a2] : List Value).toArray xB RX6 := F
  have hx := F.1
  have hb := F.2.1
  have hS : va_S (xA G) s.heap s.heap [] := va_S.rf
  have hl : lv_has ls 3 [(0, .ref (sh.1 12 0)), (1, .int a1), (2, .int a2)] := hl
  unfold fX6_why at hf
  refine lv_aload_n hx hb dX6_why_0 rfl (lv_at hl 0 rfl) ?_
  refine xget F hT hW xuX6 (xm_fix (by decide)) xce_12 rfl 9 (by decide) xw_809 rfl rfl dX6_why_1 ?_
  refine lv_iload_n hx hb dX6_why_4 rfl (lv_at hl 1 rfl) ?_
  obtain ⟨g12, hf⟩ := oG_go hf
  refine xmald (by decide) F hT hW (xm_fix (by decide)) (by decide) (xinb_ok g12) dX6_why_5 ?_
  refine lv_if_eq (tgt := 14) hx hb dX6_why_6 (by decide) (fun c1 => ?_) (fun c1 => ?_)
  · replace hf := if_t c1 hf
    refine lv_aload_n hx hb dX6_why_14 rfl (lv_at hl 0 rfl) ?_
    refine xget F hT hW xuX6 (xm_fix (by decide)) xce_12 rfl 8 (by decide) xw_808 rfl rfl dX6_why_15 ?_
    refine lv_iload_n hx hb dX6_why_18 rfl (lv_at hl 1 rfl) ?_
    obtain ⟨g11, hf⟩ := oG_go hf
    refine xmald (by decide) F hT hW (xm_fix (by decide)) (by decide) (xinb_ok g11) dX6_why_19 ?_
    refine lv_iload_n hx hb dX6_why_20 rfl (lv_at hl 2 rfl) ?_
    refine lv_icmp_ne (tgt := 29) hx hb dX6_why_21 (by decide) (fun c2 => ?_) (fun c2 => ?_)
    · replace hf := if_f c2 hf
      refine lv_aload_n hx hb dX6_why_29 rfl (lv_at hl 0 rfl) ?_
      refine xget F hT hW xuX6 (xm_fix (by decide)) xce_12 rfl 2 (by decide) xw_802 rfl rfl dX6_why_30 ?_
      refine lv_iload_n hx hb dX6_why_33 rfl (lv_at hl 2 rfl) ?_
      obtain ⟨g10, hf⟩ := oG_go hf
      refine xmbld F hT hW (xinb_ok g10) dX6_why_34 ?_
      refine lv_if_eq (tgt := 43) hx hb dX6_why_35 (by decide) (fun c3 => ?_) (fun c3 => ?_)
      · replace hf := if_t c3 hf
        refine lv_aload_n hx hb dX6_why_43 rfl (lv_at hl 0 rfl) ?_
        refine lv_iload_n hx hb dX6_why_44 rfl (lv_at hl 1 rfl) ?_
        refine lv_iload_n hx hb dX6_why_45 rfl (lv_at hl 2 rfl) ?_
        obtain ⟨v4, hc9, hf⟩ := oB_go hf
        refine xcallV (n := 2) F hT hW hS (xm_fix (by decide)) xce_12 rfl (kX6_isBarred l hl0 G sh sc sr sl a1 a2  _ hc9) (xgV xw_950 xw_952 xwp_23 xw_4 xw_953) rfl xd_X6_isBarred ⟨Nat.le_of_ble_eq_true rfl, Nat.le_of_ble_eq_true rfl⟩ rfl hl.1 rfl (Nat.le_of_ble_eq_true rfl) dX6_why_46 ⟨Nat.le_of_ble_eq_true rfl, Nat.le_of_ble_eq_true rfl⟩ (fun v9 H locs hres hW hS => ?_) (fun E9 H locs q9 ce9 hres => by cases hres)
        cases hres
        refine W.eq (g2 := F0 m 49 ls (.int v4 :: [])) rfl ?_
        refine lv_if_eq (tgt := 57) hx hb dX6_why_49 (by decide) (fun c5 => ?_) (fun c5 => ?_)
        · replace hf := if_t c5 hf
          refine lv_aload_n hx hb dX6_why_57 rfl (lv_at hl 0 rfl) ?_
          refine lv_iload_n hx hb dX6_why_58 rfl (lv_at hl 1 rfl) ?_
          refine lv_iload_n hx hb dX6_why_59 rfl (lv_at hl 2 rfl) ?_
          refine lv_iconst (v := 0) hx hb dX6_why_60 (by decide) ?_
          obtain ⟨v6, hc8, hf⟩ := oB_go hf
          refine xcallV (n := 3) F hT hW hS (xm_fix (by decide)) xce_12 rfl (kX6_hasRoom l hl0 G sh sc sr sl a1 a2 0  _ hc8) (xgV xw_954 xw_956 xwp_24 xw_4 xw_957) rfl xd_X6_hasRoom ⟨Nat.le_of_ble_eq_true rfl, Nat.le_of_ble_eq_true rfl⟩ rfl hl.1 rfl (Nat.le_of_ble_eq_true rfl) dX6_why_61 ⟨Nat.le_of_ble_eq_true rfl, Nat.le_of_ble_eq_true rfl⟩ (fun v9 H locs hres hW hS => ?_) (fun E9 H locs q9 ce9 hres => by cases hres)
          cases hres
          refine W.eq (g2 := F0 m 64 ls (.int v6 :: [])) rfl ?_
          refine lv_if_eq (tgt := 72) hx hb dX6_why_64 (by decide) (fun c7 => ?_) (fun c7 => ?_)
          · replace hf := if_t c7 hf
            refine lv_bipush (v := 114) hx hb dX6_why_72 (by decide) ?_
            cases hf
            exact xret_i (ty := .char) F hr hlocks hS (by decide) rfl hW (Nat.le_of_ble_eq_true rfl) (Nat.le_of_ble_eq_true rfl) dX6_why_74
          · replace hf := if_f c7 hf
            refine lv_bipush (v := 110) hx hb dX6_why_67 (by decide) ?_
            refine lv_goto (tgt := 74) hx hb dX6_why_69 (by decide) ?_
            cases hf
            exact xret_i (ty := .char) F hr hlocks hS (by decide) rfl hW (Nat.le_of_ble_eq_true rfl) (Nat.le_of_ble_eq_true rfl) dX6_why_74
        · replace hf := if_f c5 hf
          refine lv_bipush (v := 112) hx hb dX6_why_52 (by decide) ?_
          refine lv_goto (tgt := 74) hx hb dX6_why_54 (by decide) ?_
          cases hf
          exact xret_i (ty := .char) F hr hlocks hS (by decide) rfl hW (Nat.le_of_ble_eq_true rfl) (Nat.le_of_ble_eq_true rfl) dX6_why_74
      · replace hf := if_f c3 hf
        refine lv_bipush (v := 99) hx hb dX6_why_38 (by decide) ?_
        refine lv_goto (tgt := 74) hx hb dX6_why_40 (by decide) ?_
        cases hf
        exact xret_i (ty := .char) F hr hlocks hS (by decide) rfl hW (Nat.le_of_ble_eq_true rfl) (Nat.le_of_ble_eq_true rfl) dX6_why_74
    · replace hf := if_t c2 hf
      refine lv_bipush (v := 115) hx hb dX6_why_24 (by decide) ?_
      refine lv_goto (tgt := 74) hx hb dX6_why_26 (by decide) ?_
      cases hf
      exact xret_i (ty := .char) F hr hlocks hS (by decide) rfl hW (Nat.le_of_ble_eq_true rfl) (Nat.le_of_ble_eq_true rfl) dX6_why_74
  · replace hf := if_f c1 hf
    refine lv_bipush (v := 109) hx hb dX6_why_9 (by decide) ?_
    refine lv_goto (tgt := 74) hx hb dX6_why_11 (by decide) ?_
    cases hf
    exact xret_i (ty := .char) F hr hlocks hS (by decide) rfl hW (Nat.le_of_ble_eq_true rfl) (Nat.le_of_ble_eq_true rfl) dX6_why_74
abbrev rX6_underWay : Room := { frames := 0, cells := 0, slots := 0, locals := 0 }
abbrev zX6_underWay : List Cond := Cond.code yX6_underWay cX6_underWay 3 (some .int) :: xB
theorem xd_X6_underWay : yX6_underWay.cls = RX6 ∧ yX6_underWay.cls ≠ "java/lang/invoke/MethodHandle" ∧ yX6_underWay.cls ≠ "java/lang/invoke/VarHandle" ∧ (parseMethodDescriptor yX6_underWay.desc).map (fun d => d.parameters.length) = some 0 := by decide +kernel
def fX6_underWay_K1 (x1L1 : Int32) (x2L1 : Int32) : Option Int32 := some x1L1
def fX6_underWay_L1 (sr : xSR) (k_L1 : Int32 → Int32 → Option Int32) : Nat → Int32 → Int32 → Option Int32
  | 0, _, _ => none
  | n + 1, x1L1, x2L1 => (if (sr.1 103 0) ≤ x2L1 then k_L1 x1L1 x2L1 else oG (xinb x2L1 6) ((if (sr.1 9 x2L1.toNatClampNeg) = 0 then (fX6_underWay_L1 sr k_L1 n) (x1L1 + 0) (x2L1 + 1) else (fX6_underWay_L1 sr k_L1 n) (x1L1 + 1) (x2L1 + 1))))
def fX6_underWay (sr : xSR) : Option Int32 := fX6_underWay_L1 sr (fX6_underWay_K1) 64 0 0
set_option maxHeartbeats 4000000 in
set_option maxRecDepth 100000 in
theorem kX6_underWay (l : Launch) (hl0 : l.stackTraces = false) (G : xG) (sh : xSh) (sc : xSC) (sr : xSR) (sl : xSL) (r : Int32) (hf : fX6_underWay sr = some r) : xMet l yX6_underWay zX6_underWay rX6_underWay G sh sc sr sl ([.ref (sh.1 12 0)] : List Value) (xvI (.inr r)) (xWd G sh sc sr sl) := by
  refine xMet_of (cc := cX6_underWay) (maxL := 3) (ret := (some .int)) (by decide) (Nat.le_of_ble_eq_true rfl) ?_
  intro p e s m below meth c F hT hW hr hlocks htab ls hl
  have F : CallFix p m c cX6_underWay 3 s ([.ref (sh.1 12 0)] : List Value).toArray xB RX6 := F
  have hx := F.1
  have hb := F.2.1
  have hS : va_S (xA G) s.heap s.heap [] := va_S.rf
  have hl : lv_has ls 3 [(0, .ref (sh.1 12 0))] := hl
  unfold fX6_underWay at hf
  refine lv_iconst (v := 0) hx hb dX6_underWay_0 (by decide) ?_
  refine lv_istore_n (lv' := [(1, .int 0), (0, .ref (sh.1 12 0))]) hx hb dX6_underWay_1 rfl hl (by decide) rfl (fun ls hl => ?_)
  refine lv_iconst (v := 0) hx hb dX6_underWay_2 (by decide) ?_
  refine lv_istore_n (lv' := [(2, .int 0), (1, .int 0), (0, .ref (sh.1 12 0))]) hx hb dX6_underWay_3 rfl hl (by decide) rfl (fun ls hl => ?_)
  have hx_L1 : ∀ (x1L1 : Int32) (x2L1 : Int32), fX6_underWay_K1 x1L1 x2L1 = some r → ∀ (H : Heap) (locs : List Loc), xWd G sh sc sr sl H → va_S (xA G) s.heap H locs → ∀ ls : Array Slot, lv_has ls 3 [(1, .int x1L1)] → W p l e rX6_underWay s m ([.ref (sh.1 12 0)] : List Value).toArray below meth c H locs 0 0 (xQ below G (xvI (.inr r)) (xWd G sh sc sr sl) ([.ref (sh.1 12 0)] : List Value).toArray s 0 0) (F0 m 35 ls []) := by
    intro x1L1 x2L1 hf H locs hW hS ls hl
    unfold fX6_underWay_K1 at hf
    refine lv_iload_n hx hb dX6_underWay_35 rfl (lv_at hl 0 rfl) ?_
    cases hf
    exact xret_i (ty := .int) F hr hlocks hS rfl rfl hW (Nat.le_of_ble_eq_true rfl) (Nat.le_of_ble_eq_true rfl) dX6_underWay_36
  have hL_L1 : ∀ (n9 : Nat) (x1L1 : Int32) (x2L1 : Int32), fX6_underWay_L1 sr (fX6_underWay_K1) n9 x1L1 x2L1 = some r → ∀ (H : Heap) (locs : List Loc), xWd G sh sc sr sl H → va_S (xA G) s.heap H locs → ∀ ls : Array Slot, lv_has ls 3 [(0, .ref (sh.1 12 0)), (1, .int x1L1), (2, .int x2L1)] → W p l e rX6_underWay s m ([.ref (sh.1 12 0)] : List Value).toArray below meth c H locs 0 0 (xQ below G (xvI (.inr r)) (xWd G sh sc sr sl) ([.ref (sh.1 12 0)] : List Value).toArray s 0 0) (F0 m 4 ls []) := by
    intro n_L1
    induction n_L1 with
    | zero =>
      intro x1L1 x2L1 hf
      unfold fX6_underWay_L1 at hf
      cases hf
    | succ n_L1 ih_L1 =>
      intro x1L1 x2L1 hf H locs hW hS ls hl
      unfold fX6_underWay_L1 at hf
      refine lv_iload_n hx hb dX6_underWay_4 rfl (lv_at hl 2 rfl) ?_
      refine lv_aload_n hx hb dX6_underWay_5 rfl (lv_at hl 0 rfl) ?_
      refine xget F hT hW xuX6 (xm_fix (by decide)) xce_12 rfl 3 (by decide) xw_803 rfl rfl dX6_underWay_6 ?_
      refine lv_icmp_ge (tgt := 35) hx hb dX6_underWay_9 (by decide) (fun c1 => ?_) (fun c1 => ?_)
      · replace hf := if_t c1 hf
        exact hx_L1 _ _ hf _ _ hW hS ls (lv_sub hl [1] rfl)
      · replace hf := if_f c1 hf
        refine lv_iload_n hx hb dX6_underWay_12 rfl (lv_at hl 1 rfl) ?_
        refine lv_aload_n hx hb dX6_underWay_13 rfl (lv_at hl 0 rfl) ?_
        refine xget F hT hW xuX6 (xm_fix (by decide)) xce_12 rfl 9 (by decide) xw_809 rfl rfl dX6_underWay_14 ?_
        refine lv_iload_n hx hb dX6_underWay_17 rfl (lv_at hl 2 rfl) ?_
        obtain ⟨g3, hf⟩ := oG_go hf
        refine xmald (by decide) F hT hW (xm_fix (by decide)) (by decide) (xinb_ok g3) dX6_underWay_18 ?_
        refine lv_if_ne (tgt := 26) hx hb dX6_underWay_19 (by decide) (fun c2 => ?_) (fun c2 => ?_)
        · replace hf := if_f c2 hf
          refine lv_iconst (v := 1) hx hb dX6_underWay_26 (by decide) ?_
          refine lv_iadd hx hb dX6_underWay_27 ?_
          refine lv_istore_n (lv' := [(1, .int (x1L1 + 1)), (0, .ref (sh.1 12 0)), (2, .int x2L1)]) hx hb dX6_underWay_28 rfl hl (by decide) rfl (fun ls hl => ?_)
          refine lv_iinc (v := (x2L1 + 1)) (lv' := [(2, .int (x2L1 + 1)), (1, .int (x1L1 + 1)), (0, .ref (sh.1 12 0))]) hx hb dX6_underWay_29 hl (k := 2) rfl rfl (by decide) rfl (fun ls hl => ?_)
          refine lv_goto (tgt := 4) hx hb dX6_underWay_32 (by decide) ?_
          exact ih_L1 _ _ hf _ _ hW hS ls (lv_sub hl [2, 1, 0] rfl)
        · replace hf := if_t c2 hf
          refine lv_iconst (v := 0) hx hb dX6_underWay_22 (by decide) ?_
          refine lv_goto (tgt := 27) hx hb dX6_underWay_23 (by decide) ?_
          refine lv_iadd hx hb dX6_underWay_27 ?_
          refine lv_istore_n (lv' := [(1, .int (x1L1 + 0)), (0, .ref (sh.1 12 0)), (2, .int x2L1)]) hx hb dX6_underWay_28 rfl hl (by decide) rfl (fun ls hl => ?_)
          refine lv_iinc (v := (x2L1 + 1)) (lv' := [(2, .int (x2L1 + 1)), (1, .int (x1L1 + 0)), (0, .ref (sh.1 12 0))]) hx hb dX6_underWay_29 hl (k := 2) rfl rfl (by decide) rfl (fun ls hl => ?_)
          refine lv_goto (tgt := 4) hx hb dX6_underWay_32 (by decide) ?_
          exact ih_L1 _ _ hf _ _ hW hS ls (lv_sub hl [2, 1, 0] rfl)
  exact hL_L1 _ _ _ hf _ _ hW hS ls (lv_sub hl [2, 1, 0] rfl)
abbrev rX6_move : Room := { frames := 6, cells := 0, slots := 0, locals := 137 }
abbrev zX6_move : List Cond := Cond.code yX6_move cX6_move 3 (some .int) :: xB
theorem xd_X6_move : yX6_move.cls = RX6 ∧ yX6_move.cls ≠ "java/lang/invoke/MethodHandle" ∧ yX6_move.cls ≠ "java/lang/invoke/VarHandle" ∧ (parseMethodDescriptor yX6_move.desc).map (fun d => d.parameters.length) = some 2 := by decide +kernel
def fX6_move (a1 : Int32) (a2 : Int32) (sr : xSR) : Option (Int32 × xSR) := oB (fX6_isNoTenant a1 sr) (fun v1 => (if v1 = 0 then oB (fX6_isNoShard a2 sr) (fun v14 => (if v14 = 0 then oB (fX6_why a1 a2 sr) (fun v16 => (if v16 = 110 then oB (fX6_underWay  sr) (fun v18 => (if v18 = 3 then oP (fX6_fails 3 sr) (fun v31 s32 => (if v31 = 0 then oG (xinb a1 6) (oG (xinb a1 6) (oG (xinb a1 6) (oG (xinb a1 6) (oG (xinb (3 * a1) 18) (oG (xinb a1 6) (oG (xinb a1 6) (some (((xuR (xuR (xuR (xuR s32.1 9 a1.toNatClampNeg 1, s32.2).1 10 a1.toNatClampNeg ((xuR s32.1 9 a1.toNatClampNeg 1, s32.2).1 8 a1.toNatClampNeg), (xuR s32.1 9 a1.toNatClampNeg 1, s32.2).2).1 11 a1.toNatClampNeg a2, (xuR (xuR s32.1 9 a1.toNatClampNeg 1, s32.2).1 10 a1.toNatClampNeg ((xuR s32.1 9 a1.toNatClampNeg 1, s32.2).1 8 a1.toNatClampNeg), (xuR s32.1 9 a1.toNatClampNeg 1, s32.2).2).2).1 12 a1.toNatClampNeg ((((xuR (xuR (xuR s32.1 9 a1.toNatClampNeg 1, s32.2).1 10 a1.toNatClampNeg ((xuR s32.1 9 a1.toNatClampNeg 1, s32.2).1 8 a1.toNatClampNeg), (xuR s32.1 9 a1.toNatClampNeg 1, s32.2).2).1 11 a1.toNatClampNeg a2, (xuR (xuR s32.1 9 a1.toNatClampNeg 1, s32.2).1 10 a1.toNatClampNeg ((xuR s32.1 9 a1.toNatClampNeg 1, s32.2).1 8 a1.toNatClampNeg), (xuR s32.1 9 a1.toNatClampNeg 1, s32.2).2).2).1 4 (3 * a1).toNatClampNeg) + 19) / 20), (xuR (xuR (xuR s32.1 9 a1.toNatClampNeg 1, s32.2).1 10 a1.toNatClampNeg ((xuR s32.1 9 a1.toNatClampNeg 1, s32.2).1 8 a1.toNatClampNeg), (xuR s32.1 9 a1.toNatClampNeg 1, s32.2).2).1 11 a1.toNatClampNeg a2, (xuR (xuR s32.1 9 a1.toNatClampNeg 1, s32.2).1 10 a1.toNatClampNeg ((xuR s32.1 9 a1.toNatClampNeg 1, s32.2).1 8 a1.toNatClampNeg), (xuR s32.1 9 a1.toNatClampNeg 1, s32.2).2).2).2).1 12 a1.toNatClampNeg), (xuR (xuR (xuR (xuR s32.1 9 a1.toNatClampNeg 1, s32.2).1 10 a1.toNatClampNeg ((xuR s32.1 9 a1.toNatClampNeg 1, s32.2).1 8 a1.toNatClampNeg), (xuR s32.1 9 a1.toNatClampNeg 1, s32.2).2).1 11 a1.toNatClampNeg a2, (xuR (xuR s32.1 9 a1.toNatClampNeg 1, s32.2).1 10 a1.toNatClampNeg ((xuR s32.1 9 a1.toNatClampNeg 1, s32.2).1 8 a1.toNatClampNeg), (xuR s32.1 9 a1.toNatClampNeg 1, s32.2).2).2).1 12 a1.toNatClampNeg ((((xuR (xuR (xuR s32.1 9 a1.toNatClampNeg 1, s32.2).1 10 a1.toNatClampNeg ((xuR s32.1 9 a1.toNatClampNeg 1, s32.2).1 8 a1.toNatClampNeg), (xuR s32.1 9 a1.toNatClampNeg 1, s32.2).2).1 11 a1.toNatClampNeg a2, (xuR (xuR s32.1 9 a1.toNatClampNeg 1, s32.2).1 10 a1.toNatClampNeg ((xuR s32.1 9 a1.toNatClampNeg 1, s32.2).1 8 a1.toNatClampNeg), (xuR s32.1 9 a1.toNatClampNeg 1, s32.2).2).2).1 4 (3 * a1).toNatClampNeg) + 19) / 20), (xuR (xuR (xuR s32.1 9 a1.toNatClampNeg 1, s32.2).1 10 a1.toNatClampNeg ((xuR s32.1 9 a1.toNatClampNeg 1, s32.2).1 8 a1.toNatClampNeg), (xuR s32.1 9 a1.toNatClampNeg 1, s32.2).2).1 11 a1.toNatClampNeg a2, (xuR (xuR s32.1 9 a1.toNatClampNeg 1, s32.2).1 10 a1.toNatClampNeg ((xuR s32.1 9 a1.toNatClampNeg 1, s32.2).1 8 a1.toNatClampNeg), (xuR s32.1 9 a1.toNatClampNeg 1, s32.2).2).2).2))))))))) else some (0, s32))) else oP (fX6_fails 0 sr) (fun v20 s21 => (if v20 = 0 then oG (xinb a1 6) (oG (xinb a1 6) (oG (xinb a1 6) (oG (xinb a1 6) (oG (xinb (3 * a1) 18) (oG (xinb a1 6) (oG (xinb a1 6) (some (((xuR (xuR (xuR (xuR s21.1 9 a1.toNatClampNeg 1, s21.2).1 10 a1.toNatClampNeg ((xuR s21.1 9 a1.toNatClampNeg 1, s21.2).1 8 a1.toNatClampNeg), (xuR s21.1 9 a1.toNatClampNeg 1, s21.2).2).1 11 a1.toNatClampNeg a2, (xuR (xuR s21.1 9 a1.toNatClampNeg 1, s21.2).1 10 a1.toNatClampNeg ((xuR s21.1 9 a1.toNatClampNeg 1, s21.2).1 8 a1.toNatClampNeg), (xuR s21.1 9 a1.toNatClampNeg 1, s21.2).2).2).1 12 a1.toNatClampNeg ((((xuR (xuR (xuR s21.1 9 a1.toNatClampNeg 1, s21.2).1 10 a1.toNatClampNeg ((xuR s21.1 9 a1.toNatClampNeg 1, s21.2).1 8 a1.toNatClampNeg), (xuR s21.1 9 a1.toNatClampNeg 1, s21.2).2).1 11 a1.toNatClampNeg a2, (xuR (xuR s21.1 9 a1.toNatClampNeg 1, s21.2).1 10 a1.toNatClampNeg ((xuR s21.1 9 a1.toNatClampNeg 1, s21.2).1 8 a1.toNatClampNeg), (xuR s21.1 9 a1.toNatClampNeg 1, s21.2).2).2).1 4 (3 * a1).toNatClampNeg) + 19) / 20), (xuR (xuR (xuR s21.1 9 a1.toNatClampNeg 1, s21.2).1 10 a1.toNatClampNeg ((xuR s21.1 9 a1.toNatClampNeg 1, s21.2).1 8 a1.toNatClampNeg), (xuR s21.1 9 a1.toNatClampNeg 1, s21.2).2).1 11 a1.toNatClampNeg a2, (xuR (xuR s21.1 9 a1.toNatClampNeg 1, s21.2).1 10 a1.toNatClampNeg ((xuR s21.1 9 a1.toNatClampNeg 1, s21.2).1 8 a1.toNatClampNeg), (xuR s21.1 9 a1.toNatClampNeg 1, s21.2).2).2).2).1 12 a1.toNatClampNeg), (xuR (xuR (xuR (xuR s21.1 9 a1.toNatClampNeg 1, s21.2).1 10 a1.toNatClampNeg ((xuR s21.1 9 a1.toNatClampNeg 1, s21.2).1 8 a1.toNatClampNeg), (xuR s21.1 9 a1.toNatClampNeg 1, s21.2).2).1 11 a1.toNatClampNeg a2, (xuR (xuR s21.1 9 a1.toNatClampNeg 1, s21.2).1 10 a1.toNatClampNeg ((xuR s21.1 9 a1.toNatClampNeg 1, s21.2).1 8 a1.toNatClampNeg), (xuR s21.1 9 a1.toNatClampNeg 1, s21.2).2).2).1 12 a1.toNatClampNeg ((((xuR (xuR (xuR s21.1 9 a1.toNatClampNeg 1, s21.2).1 10 a1.toNatClampNeg ((xuR s21.1 9 a1.toNatClampNeg 1, s21.2).1 8 a1.toNatClampNeg), (xuR s21.1 9 a1.toNatClampNeg 1, s21.2).2).1 11 a1.toNatClampNeg a2, (xuR (xuR s21.1 9 a1.toNatClampNeg 1, s21.2).1 10 a1.toNatClampNeg ((xuR s21.1 9 a1.toNatClampNeg 1, s21.2).1 8 a1.toNatClampNeg), (xuR s21.1 9 a1.toNatClampNeg 1, s21.2).2).2).1 4 (3 * a1).toNatClampNeg) + 19) / 20), (xuR (xuR (xuR s21.1 9 a1.toNatClampNeg 1, s21.2).1 10 a1.toNatClampNeg ((xuR s21.1 9 a1.toNatClampNeg 1, s21.2).1 8 a1.toNatClampNeg), (xuR s21.1 9 a1.toNatClampNeg 1, s21.2).2).1 11 a1.toNatClampNeg a2, (xuR (xuR s21.1 9 a1.toNatClampNeg 1, s21.2).1 10 a1.toNatClampNeg ((xuR s21.1 9 a1.toNatClampNeg 1, s21.2).1 8 a1.toNatClampNeg), (xuR s21.1 9 a1.toNatClampNeg 1, s21.2).2).2).2))))))))) else some (0, s21))))) else oP (fX6_fails 2 sr) (fun v43 s44 => (if v43 = 0 then oG (xinb a1 6) (oG (xinb a1 6) (oG (xinb a1 6) (oG (xinb a1 6) (oG (xinb (3 * a1) 18) (oG (xinb a1 6) (oG (xinb a1 6) (some (((xuR (xuR (xuR (xuR s44.1 9 a1.toNatClampNeg 1, s44.2).1 10 a1.toNatClampNeg ((xuR s44.1 9 a1.toNatClampNeg 1, s44.2).1 8 a1.toNatClampNeg), (xuR s44.1 9 a1.toNatClampNeg 1, s44.2).2).1 11 a1.toNatClampNeg a2, (xuR (xuR s44.1 9 a1.toNatClampNeg 1, s44.2).1 10 a1.toNatClampNeg ((xuR s44.1 9 a1.toNatClampNeg 1, s44.2).1 8 a1.toNatClampNeg), (xuR s44.1 9 a1.toNatClampNeg 1, s44.2).2).2).1 12 a1.toNatClampNeg ((((xuR (xuR (xuR s44.1 9 a1.toNatClampNeg 1, s44.2).1 10 a1.toNatClampNeg ((xuR s44.1 9 a1.toNatClampNeg 1, s44.2).1 8 a1.toNatClampNeg), (xuR s44.1 9 a1.toNatClampNeg 1, s44.2).2).1 11 a1.toNatClampNeg a2, (xuR (xuR s44.1 9 a1.toNatClampNeg 1, s44.2).1 10 a1.toNatClampNeg ((xuR s44.1 9 a1.toNatClampNeg 1, s44.2).1 8 a1.toNatClampNeg), (xuR s44.1 9 a1.toNatClampNeg 1, s44.2).2).2).1 4 (3 * a1).toNatClampNeg) + 19) / 20), (xuR (xuR (xuR s44.1 9 a1.toNatClampNeg 1, s44.2).1 10 a1.toNatClampNeg ((xuR s44.1 9 a1.toNatClampNeg 1, s44.2).1 8 a1.toNatClampNeg), (xuR s44.1 9 a1.toNatClampNeg 1, s44.2).2).1 11 a1.toNatClampNeg a2, (xuR (xuR s44.1 9 a1.toNatClampNeg 1, s44.2).1 10 a1.toNatClampNeg ((xuR s44.1 9 a1.toNatClampNeg 1, s44.2).1 8 a1.toNatClampNeg), (xuR s44.1 9 a1.toNatClampNeg 1, s44.2).2).2).2).1 12 a1.toNatClampNeg), (xuR (xuR (xuR (xuR s44.1 9 a1.toNatClampNeg 1, s44.2).1 10 a1.toNatClampNeg ((xuR s44.1 9 a1.toNatClampNeg 1, s44.2).1 8 a1.toNatClampNeg), (xuR s44.1 9 a1.toNatClampNeg 1, s44.2).2).1 11 a1.toNatClampNeg a2, (xuR (xuR s44.1 9 a1.toNatClampNeg 1, s44.2).1 10 a1.toNatClampNeg ((xuR s44.1 9 a1.toNatClampNeg 1, s44.2).1 8 a1.toNatClampNeg), (xuR s44.1 9 a1.toNatClampNeg 1, s44.2).2).2).1 12 a1.toNatClampNeg ((((xuR (xuR (xuR s44.1 9 a1.toNatClampNeg 1, s44.2).1 10 a1.toNatClampNeg ((xuR s44.1 9 a1.toNatClampNeg 1, s44.2).1 8 a1.toNatClampNeg), (xuR s44.1 9 a1.toNatClampNeg 1, s44.2).2).1 11 a1.toNatClampNeg a2, (xuR (xuR s44.1 9 a1.toNatClampNeg 1, s44.2).1 10 a1.toNatClampNeg ((xuR s44.1 9 a1.toNatClampNeg 1, s44.2).1 8 a1.toNatClampNeg), (xuR s44.1 9 a1.toNatClampNeg 1, s44.2).2).2).1 4 (3 * a1).toNatClampNeg) + 19) / 20), (xuR (xuR (xuR s44.1 9 a1.toNatClampNeg 1, s44.2).1 10 a1.toNatClampNeg ((xuR s44.1 9 a1.toNatClampNeg 1, s44.2).1 8 a1.toNatClampNeg), (xuR s44.1 9 a1.toNatClampNeg 1, s44.2).2).1 11 a1.toNatClampNeg a2, (xuR (xuR s44.1 9 a1.toNatClampNeg 1, s44.2).1 10 a1.toNatClampNeg ((xuR s44.1 9 a1.toNatClampNeg 1, s44.2).1 8 a1.toNatClampNeg), (xuR s44.1 9 a1.toNatClampNeg 1, s44.2).2).2).2))))))))) else some (0, s44))))) else oP (fX6_fails 1 sr) (fun v55 s56 => (if v55 = 0 then oG (xinb a1 6) (oG (xinb a1 6) (oG (xinb a1 6) (oG (xinb a1 6) (oG (xinb (3 * a1) 18) (oG (xinb a1 6) (oG (xinb a1 6) (some (((xuR (xuR (xuR (xuR s56.1 9 a1.toNatClampNeg 1, s56.2).1 10 a1.toNatClampNeg ((xuR s56.1 9 a1.toNatClampNeg 1, s56.2).1 8 a1.toNatClampNeg), (xuR s56.1 9 a1.toNatClampNeg 1, s56.2).2).1 11 a1.toNatClampNeg a2, (xuR (xuR s56.1 9 a1.toNatClampNeg 1, s56.2).1 10 a1.toNatClampNeg ((xuR s56.1 9 a1.toNatClampNeg 1, s56.2).1 8 a1.toNatClampNeg), (xuR s56.1 9 a1.toNatClampNeg 1, s56.2).2).2).1 12 a1.toNatClampNeg ((((xuR (xuR (xuR s56.1 9 a1.toNatClampNeg 1, s56.2).1 10 a1.toNatClampNeg ((xuR s56.1 9 a1.toNatClampNeg 1, s56.2).1 8 a1.toNatClampNeg), (xuR s56.1 9 a1.toNatClampNeg 1, s56.2).2).1 11 a1.toNatClampNeg a2, (xuR (xuR s56.1 9 a1.toNatClampNeg 1, s56.2).1 10 a1.toNatClampNeg ((xuR s56.1 9 a1.toNatClampNeg 1, s56.2).1 8 a1.toNatClampNeg), (xuR s56.1 9 a1.toNatClampNeg 1, s56.2).2).2).1 4 (3 * a1).toNatClampNeg) + 19) / 20), (xuR (xuR (xuR s56.1 9 a1.toNatClampNeg 1, s56.2).1 10 a1.toNatClampNeg ((xuR s56.1 9 a1.toNatClampNeg 1, s56.2).1 8 a1.toNatClampNeg), (xuR s56.1 9 a1.toNatClampNeg 1, s56.2).2).1 11 a1.toNatClampNeg a2, (xuR (xuR s56.1 9 a1.toNatClampNeg 1, s56.2).1 10 a1.toNatClampNeg ((xuR s56.1 9 a1.toNatClampNeg 1, s56.2).1 8 a1.toNatClampNeg), (xuR s56.1 9 a1.toNatClampNeg 1, s56.2).2).2).2).1 12 a1.toNatClampNeg), (xuR (xuR (xuR (xuR s56.1 9 a1.toNatClampNeg 1, s56.2).1 10 a1.toNatClampNeg ((xuR s56.1 9 a1.toNatClampNeg 1, s56.2).1 8 a1.toNatClampNeg), (xuR s56.1 9 a1.toNatClampNeg 1, s56.2).2).1 11 a1.toNatClampNeg a2, (xuR (xuR s56.1 9 a1.toNatClampNeg 1, s56.2).1 10 a1.toNatClampNeg ((xuR s56.1 9 a1.toNatClampNeg 1, s56.2).1 8 a1.toNatClampNeg), (xuR s56.1 9 a1.toNatClampNeg 1, s56.2).2).2).1 12 a1.toNatClampNeg ((((xuR (xuR (xuR s56.1 9 a1.toNatClampNeg 1, s56.2).1 10 a1.toNatClampNeg ((xuR s56.1 9 a1.toNatClampNeg 1, s56.2).1 8 a1.toNatClampNeg), (xuR s56.1 9 a1.toNatClampNeg 1, s56.2).2).1 11 a1.toNatClampNeg a2, (xuR (xuR s56.1 9 a1.toNatClampNeg 1, s56.2).1 10 a1.toNatClampNeg ((xuR s56.1 9 a1.toNatClampNeg 1, s56.2).1 8 a1.toNatClampNeg), (xuR s56.1 9 a1.toNatClampNeg 1, s56.2).2).2).1 4 (3 * a1).toNatClampNeg) + 19) / 20), (xuR (xuR (xuR s56.1 9 a1.toNatClampNeg 1, s56.2).1 10 a1.toNatClampNeg ((xuR s56.1 9 a1.toNatClampNeg 1, s56.2).1 8 a1.toNatClampNeg), (xuR s56.1 9 a1.toNatClampNeg 1, s56.2).2).1 11 a1.toNatClampNeg a2, (xuR (xuR s56.1 9 a1.toNatClampNeg 1, s56.2).1 10 a1.toNatClampNeg ((xuR s56.1 9 a1.toNatClampNeg 1, s56.2).1 8 a1.toNatClampNeg), (xuR s56.1 9 a1.toNatClampNeg 1, s56.2).2).2).2))))))))) else some (0, s56))))) else oP (fX6_fails 1 sr) (fun v3 s4 => (if v3 = 0 then oG (xinb a1 6) (oG (xinb a1 6) (oG (xinb a1 6) (oG (xinb a1 6) (oG (xinb (3 * a1) 18) (oG (xinb a1 6) (oG (xinb a1 6) (some (((xuR (xuR (xuR (xuR s4.1 9 a1.toNatClampNeg 1, s4.2).1 10 a1.toNatClampNeg ((xuR s4.1 9 a1.toNatClampNeg 1, s4.2).1 8 a1.toNatClampNeg), (xuR s4.1 9 a1.toNatClampNeg 1, s4.2).2).1 11 a1.toNatClampNeg a2, (xuR (xuR s4.1 9 a1.toNatClampNeg 1, s4.2).1 10 a1.toNatClampNeg ((xuR s4.1 9 a1.toNatClampNeg 1, s4.2).1 8 a1.toNatClampNeg), (xuR s4.1 9 a1.toNatClampNeg 1, s4.2).2).2).1 12 a1.toNatClampNeg ((((xuR (xuR (xuR s4.1 9 a1.toNatClampNeg 1, s4.2).1 10 a1.toNatClampNeg ((xuR s4.1 9 a1.toNatClampNeg 1, s4.2).1 8 a1.toNatClampNeg), (xuR s4.1 9 a1.toNatClampNeg 1, s4.2).2).1 11 a1.toNatClampNeg a2, (xuR (xuR s4.1 9 a1.toNatClampNeg 1, s4.2).1 10 a1.toNatClampNeg ((xuR s4.1 9 a1.toNatClampNeg 1, s4.2).1 8 a1.toNatClampNeg), (xuR s4.1 9 a1.toNatClampNeg 1, s4.2).2).2).1 4 (3 * a1).toNatClampNeg) + 19) / 20), (xuR (xuR (xuR s4.1 9 a1.toNatClampNeg 1, s4.2).1 10 a1.toNatClampNeg ((xuR s4.1 9 a1.toNatClampNeg 1, s4.2).1 8 a1.toNatClampNeg), (xuR s4.1 9 a1.toNatClampNeg 1, s4.2).2).1 11 a1.toNatClampNeg a2, (xuR (xuR s4.1 9 a1.toNatClampNeg 1, s4.2).1 10 a1.toNatClampNeg ((xuR s4.1 9 a1.toNatClampNeg 1, s4.2).1 8 a1.toNatClampNeg), (xuR s4.1 9 a1.toNatClampNeg 1, s4.2).2).2).2).1 12 a1.toNatClampNeg), (xuR (xuR (xuR (xuR s4.1 9 a1.toNatClampNeg 1, s4.2).1 10 a1.toNatClampNeg ((xuR s4.1 9 a1.toNatClampNeg 1, s4.2).1 8 a1.toNatClampNeg), (xuR s4.1 9 a1.toNatClampNeg 1, s4.2).2).1 11 a1.toNatClampNeg a2, (xuR (xuR s4.1 9 a1.toNatClampNeg 1, s4.2).1 10 a1.toNatClampNeg ((xuR s4.1 9 a1.toNatClampNeg 1, s4.2).1 8 a1.toNatClampNeg), (xuR s4.1 9 a1.toNatClampNeg 1, s4.2).2).2).1 12 a1.toNatClampNeg ((((xuR (xuR (xuR s4.1 9 a1.toNatClampNeg 1, s4.2).1 10 a1.toNatClampNeg ((xuR s4.1 9 a1.toNatClampNeg 1, s4.2).1 8 a1.toNatClampNeg), (xuR s4.1 9 a1.toNatClampNeg 1, s4.2).2).1 11 a1.toNatClampNeg a2, (xuR (xuR s4.1 9 a1.toNatClampNeg 1, s4.2).1 10 a1.toNatClampNeg ((xuR s4.1 9 a1.toNatClampNeg 1, s4.2).1 8 a1.toNatClampNeg), (xuR s4.1 9 a1.toNatClampNeg 1, s4.2).2).2).1 4 (3 * a1).toNatClampNeg) + 19) / 20), (xuR (xuR (xuR s4.1 9 a1.toNatClampNeg 1, s4.2).1 10 a1.toNatClampNeg ((xuR s4.1 9 a1.toNatClampNeg 1, s4.2).1 8 a1.toNatClampNeg), (xuR s4.1 9 a1.toNatClampNeg 1, s4.2).2).1 11 a1.toNatClampNeg a2, (xuR (xuR s4.1 9 a1.toNatClampNeg 1, s4.2).1 10 a1.toNatClampNeg ((xuR s4.1 9 a1.toNatClampNeg 1, s4.2).1 8 a1.toNatClampNeg), (xuR s4.1 9 a1.toNatClampNeg 1, s4.2).2).2).2))))))))) else some (0, s4)))))
set_option maxHeartbeats 4000000 in
set_option maxRecDepth 100000 in
theorem kX6_move (l : Launch) (hl0 : l.stackTraces = false) (G : xG) (sh : xSh) (sc : xSC) (sr : xSR) (sl : xSL) (a1 : Int32) (a2 : Int32) (r : (Int32 × xSR)) (hf : fX6_move a1 a2 sr = some r) : xMet l yX6_move zX6_move rX6_move G sh sc sr sl ([.ref (sh.1 12 0), .int a1, .int a2] : List Value) (xvI (.inr r.1)) (xWd G sh sc r.2 sl) := by
  refine xMet_of (cc := cX6_move) (maxL := 3) (ret := (some .int)) (by decide) (Nat.le_of_ble_eq_true rfl) ?_
  intro p e s m below meth c F hT hW hr hlocks htab ls hl
  have F : CallFix p m c cX6_move 3 s ([.ref (sh.1 12 0), .int a1, .int a2] : List Value).toArray xB RX6 := F
  have hx := F.1
  have hb := F.2.1
  have hS : va_S (xA G) s.heap s.heap [] := va_S.rf
  have hl : lv_has ls 3 [(0, .ref (sh.1 12 0)), (1, .int a1), (2, .int a2)] := hl
  unfold fX6_move at hf
  refine lv_aload_n hx hb dX6_move_0 rfl (lv_at hl 0 rfl) ?_
  refine lv_aload_n hx hb dX6_move_1 rfl (lv_at hl 0 rfl) ?_
  refine lv_iload_n hx hb dX6_move_2 rfl (lv_at hl 1 rfl) ?_
  obtain ⟨v1, hc67, hf⟩ := oB_go hf
  refine xcallV (n := 1) F hT hW hS (xm_fix (by decide)) xce_12 rfl (kX6_isNoTenant l hl0 G sh sc sr sl a1  _ hc67) (xgV xw_926 xw_928 xwp_20 xw_4 xw_929) rfl xd_X6_isNoTenant ⟨Nat.le_of_ble_eq_true rfl, Nat.le_of_ble_eq_true rfl⟩ rfl hl.1 rfl (Nat.le_of_ble_eq_true rfl) dX6_move_3 ⟨Nat.le_of_ble_eq_true rfl, Nat.le_of_ble_eq_true rfl⟩ (fun v9 H locs hres hW hS => ?_) (fun E9 H locs q9 ce9 hres => by cases hres)
  cases hres
  refine W.eq (g2 := F0 m 6 ls (.int v1 :: .ref (sh.1 12 0) :: [])) rfl ?_
  refine lv_if_ne (tgt := 17) hx hb dX6_move_6 (by decide) (fun c2 => ?_) (fun c2 => ?_)
  · replace hf := if_f c2 hf
    refine lv_iconst (v := 1) hx hb dX6_move_17 (by decide) ?_
    refine lv_goto (tgt := 49) hx hb dX6_move_18 (by decide) ?_
    obtain ⟨v3, s4, hc13, hf⟩ := oP_go hf
    refine xcallV (n := 1) F hT hW hS (xm_fix (by decide)) xce_12 rfl (kX6_fails l hl0 G sh sc sr sl 1  _ hc13) (xgV xw_883 xw_885 xwp_14 xw_4 xw_886) rfl xd_X6_fails ⟨Nat.le_of_ble_eq_true rfl, Nat.le_of_ble_eq_true rfl⟩ rfl hl.1 rfl (Nat.le_of_ble_eq_true rfl) dX6_move_49 ⟨Nat.le_of_ble_eq_true rfl, Nat.le_of_ble_eq_true rfl⟩ (fun v9 H locs hres hW hS => ?_) (fun E9 H locs q9 ce9 hres => by cases hres)
    cases hres
    refine W.eq (g2 := F0 m 52 ls (.int v3 :: [])) rfl ?_
    refine lv_if_eq (tgt := 57) hx hb dX6_move_52 (by decide) (fun c5 => ?_) (fun c5 => ?_)
    · replace hf := if_t c5 hf
      refine lv_aload_n hx hb dX6_move_57 rfl (lv_at hl 0 rfl) ?_
      refine xget F hT hW xuX6 (xm_fix (by decide)) xce_12 rfl 9 (by decide) xw_809 rfl rfl dX6_move_58 ?_
      refine lv_iload_n hx hb dX6_move_61 rfl (lv_at hl 1 rfl) ?_
      refine lv_iconst (v := 1) hx hb dX6_move_62 (by decide) ?_
      obtain ⟨g12, hf⟩ := oG_go hf
      refine xmast (by decide) F hT hW hS (xm_fix (by decide)) (by decide) (xinb_ok g12) dX6_move_63 (fun H locs hW hS => ?_)
      refine lv_aload_n hx hb dX6_move_64 rfl (lv_at hl 0 rfl) ?_
      refine xget F hT hW xuX6 (xm_fix (by decide)) xce_12 rfl 10 (by decide) xw_810 rfl rfl dX6_move_65 ?_
      refine lv_iload_n hx hb dX6_move_68 rfl (lv_at hl 1 rfl) ?_
      refine lv_aload_n hx hb dX6_move_69 rfl (lv_at hl 0 rfl) ?_
      refine xget F hT hW xuX6 (xm_fix (by decide)) xce_12 rfl 8 (by decide) xw_808 rfl rfl dX6_move_70 ?_
      refine lv_iload_n hx hb dX6_move_73 rfl (lv_at hl 1 rfl) ?_
      obtain ⟨g11, hf⟩ := oG_go hf
      refine xmald (by decide) F hT hW (xm_fix (by decide)) (by decide) (xinb_ok g11) dX6_move_74 ?_
      obtain ⟨g10, hf⟩ := oG_go hf
      refine xmast (by decide) F hT hW hS (xm_fix (by decide)) (by decide) (xinb_ok g10) dX6_move_75 (fun H locs hW hS => ?_)
      refine lv_aload_n hx hb dX6_move_76 rfl (lv_at hl 0 rfl) ?_
      refine xget F hT hW xuX6 (xm_fix (by decide)) xce_12 rfl 11 (by decide) xw_811 rfl rfl dX6_move_77 ?_
      refine lv_iload_n hx hb dX6_move_80 rfl (lv_at hl 1 rfl) ?_
      refine lv_iload_n hx hb dX6_move_81 rfl (lv_at hl 2 rfl) ?_
      obtain ⟨g9, hf⟩ := oG_go hf
      refine xmast (by decide) F hT hW hS (xm_fix (by decide)) (by decide) (xinb_ok g9) dX6_move_82 (fun H locs hW hS => ?_)
      refine lv_aload_n hx hb dX6_move_83 rfl (lv_at hl 0 rfl) ?_
      refine xget F hT hW xuX6 (xm_fix (by decide)) xce_12 rfl 12 (by decide) xw_812 rfl rfl dX6_move_84 ?_
      refine lv_iload_n hx hb dX6_move_87 rfl (lv_at hl 1 rfl) ?_
      refine lv_aload_n hx hb dX6_move_88 rfl (lv_at hl 0 rfl) ?_
      refine xget F hT hW xuX6 (xm_fix (by decide)) xce_12 rfl 4 (by decide) xw_804 rfl rfl dX6_move_89 ?_
      refine lv_iconst (v := 3) hx hb dX6_move_92 (by decide) ?_
      refine lv_iload_n hx hb dX6_move_93 rfl (lv_at hl 1 rfl) ?_
      refine lv_imul hx hb dX6_move_94 ?_
      obtain ⟨g8, hf⟩ := oG_go hf
      refine xmald (by decide) F hT hW (xm_fix (by decide)) (by decide) (xinb_ok g8) dX6_move_95 ?_
      refine lv_bipush (v := 19) hx hb dX6_move_96 (by decide) ?_
      refine lv_iadd hx hb dX6_move_98 ?_
      refine lv_bipush (v := 20) hx hb dX6_move_99 (by decide) ?_
      refine lv_idiv hx hb dX6_move_101 (by decide) ?_
      obtain ⟨g7, hf⟩ := oG_go hf
      refine xmast (by decide) F hT hW hS (xm_fix (by decide)) (by decide) (xinb_ok g7) dX6_move_102 (fun H locs hW hS => ?_)
      refine lv_aload_n hx hb dX6_move_103 rfl (lv_at hl 0 rfl) ?_
      refine xget F hT hW xuX6 (xm_fix (by decide)) xce_12 rfl 12 (by decide) xw_812 rfl rfl dX6_move_104 ?_
      refine lv_iload_n hx hb dX6_move_107 rfl (lv_at hl 1 rfl) ?_
      obtain ⟨g6, hf⟩ := oG_go hf
      refine xmald (by decide) F hT hW (xm_fix (by decide)) (by decide) (xinb_ok g6) dX6_move_108 ?_
      cases hf
      exact xret_i (ty := .int) F hr hlocks hS rfl rfl hW (Nat.le_of_ble_eq_true rfl) (Nat.le_of_ble_eq_true rfl) dX6_move_109
    · replace hf := if_f c5 hf
      refine lv_iconst (v := 0) hx hb dX6_move_55 (by decide) ?_
      cases hf
      exact xret_i (ty := .int) F hr hlocks hS rfl rfl hW (Nat.le_of_ble_eq_true rfl) (Nat.le_of_ble_eq_true rfl) dX6_move_56
  · replace hf := if_t c2 hf
    refine lv_aload_n hx hb dX6_move_9 rfl (lv_at hl 0 rfl) ?_
    refine lv_iload_n hx hb dX6_move_10 rfl (lv_at hl 2 rfl) ?_
    obtain ⟨v14, hc66, hf⟩ := oB_go hf
    refine xcallV (n := 1) F hT hW hS (xm_fix (by decide)) xce_12 rfl (kX6_isNoShard l hl0 G sh sc sr sl a2  _ hc66) (xgV xw_891 xw_893 xwp_15 xw_4 xw_894) rfl xd_X6_isNoShard ⟨Nat.le_of_ble_eq_true rfl, Nat.le_of_ble_eq_true rfl⟩ rfl hl.1 rfl (Nat.le_of_ble_eq_true rfl) dX6_move_11 ⟨Nat.le_of_ble_eq_true rfl, Nat.le_of_ble_eq_true rfl⟩ (fun v9 H locs hres hW hS => ?_) (fun E9 H locs q9 ce9 hres => by cases hres)
    cases hres
    refine W.eq (g2 := F0 m 14 ls (.int v14 :: .ref (sh.1 12 0) :: [])) rfl ?_
    refine lv_if_eq (tgt := 21) hx hb dX6_move_14 (by decide) (fun c15 => ?_) (fun c15 => ?_)
    · replace hf := if_t c15 hf
      refine lv_aload_n hx hb dX6_move_21 rfl (lv_at hl 0 rfl) ?_
      refine lv_iload_n hx hb dX6_move_22 rfl (lv_at hl 1 rfl) ?_
      refine lv_iload_n hx hb dX6_move_23 rfl (lv_at hl 2 rfl) ?_
      obtain ⟨v16, hc54, hf⟩ := oB_go hf
      refine xcallV (n := 2) F hT hW hS (xm_fix (by decide)) xce_12 rfl (kX6_why l hl0 G sh sc sr sl a1 a2  _ hc54) (xgV xw_946 xw_948 xwp_22 xw_4 xw_949) rfl xd_X6_why ⟨Nat.le_of_ble_eq_true rfl, Nat.le_of_ble_eq_true rfl⟩ rfl hl.1 rfl (Nat.le_of_ble_eq_true rfl) dX6_move_24 ⟨Nat.le_of_ble_eq_true rfl, Nat.le_of_ble_eq_true rfl⟩ (fun v9 H locs hres hW hS => ?_) (fun E9 H locs q9 ce9 hres => by cases hres)
      cases hres
      refine W.eq (g2 := F0 m 27 ls (.int v16 :: .ref (sh.1 12 0) :: [])) rfl ?_
      refine lv_bipush (v := 110) hx hb dX6_move_27 (by decide) ?_
      refine lv_icmp_eq (tgt := 36) hx hb dX6_move_29 (by decide) (fun c17 => ?_) (fun c17 => ?_)
      · replace hf := if_t c17 hf
        refine lv_aload_n hx hb dX6_move_36 rfl (lv_at hl 0 rfl) ?_
        obtain ⟨v18, hc42, hf⟩ := oB_go hf
        refine xcallV (n := 0) F hT hW hS (xm_fix (by decide)) xce_12 rfl (kX6_underWay l hl0 G sh sc sr sl   _ hc42) (xgV xw_958 xw_960 xwp_25 xw_4 xw_961) rfl xd_X6_underWay ⟨Nat.le_of_ble_eq_true rfl, Nat.le_of_ble_eq_true rfl⟩ rfl hl.1 rfl (Nat.le_of_ble_eq_true rfl) dX6_move_37 ⟨Nat.le_of_ble_eq_true rfl, Nat.le_of_ble_eq_true rfl⟩ (fun v9 H locs hres hW hS => ?_) (fun E9 H locs q9 ce9 hres => by cases hres)
        cases hres
        refine W.eq (g2 := F0 m 40 ls (.int v18 :: .ref (sh.1 12 0) :: [])) rfl ?_
        refine lv_iconst (v := 3) hx hb dX6_move_40 (by decide) ?_
        refine lv_icmp_ne (tgt := 48) hx hb dX6_move_41 (by decide) (fun c19 => ?_) (fun c19 => ?_)
        · replace hf := if_f c19 hf
          refine lv_iconst (v := 0) hx hb dX6_move_48 (by decide) ?_
          obtain ⟨v20, s21, hc30, hf⟩ := oP_go hf
          refine xcallV (n := 1) F hT hW hS (xm_fix (by decide)) xce_12 rfl (kX6_fails l hl0 G sh sc sr sl 0  _ hc30) (xgV xw_883 xw_885 xwp_14 xw_4 xw_886) rfl xd_X6_fails ⟨Nat.le_of_ble_eq_true rfl, Nat.le_of_ble_eq_true rfl⟩ rfl hl.1 rfl (Nat.le_of_ble_eq_true rfl) dX6_move_49 ⟨Nat.le_of_ble_eq_true rfl, Nat.le_of_ble_eq_true rfl⟩ (fun v9 H locs hres hW hS => ?_) (fun E9 H locs q9 ce9 hres => by cases hres)
          cases hres
          refine W.eq (g2 := F0 m 52 ls (.int v20 :: [])) rfl ?_
          refine lv_if_eq (tgt := 57) hx hb dX6_move_52 (by decide) (fun c22 => ?_) (fun c22 => ?_)
          · replace hf := if_t c22 hf
            refine lv_aload_n hx hb dX6_move_57 rfl (lv_at hl 0 rfl) ?_
            refine xget F hT hW xuX6 (xm_fix (by decide)) xce_12 rfl 9 (by decide) xw_809 rfl rfl dX6_move_58 ?_
            refine lv_iload_n hx hb dX6_move_61 rfl (lv_at hl 1 rfl) ?_
            refine lv_iconst (v := 1) hx hb dX6_move_62 (by decide) ?_
            obtain ⟨g29, hf⟩ := oG_go hf
            refine xmast (by decide) F hT hW hS (xm_fix (by decide)) (by decide) (xinb_ok g29) dX6_move_63 (fun H locs hW hS => ?_)
            refine lv_aload_n hx hb dX6_move_64 rfl (lv_at hl 0 rfl) ?_
            refine xget F hT hW xuX6 (xm_fix (by decide)) xce_12 rfl 10 (by decide) xw_810 rfl rfl dX6_move_65 ?_
            refine lv_iload_n hx hb dX6_move_68 rfl (lv_at hl 1 rfl) ?_
            refine lv_aload_n hx hb dX6_move_69 rfl (lv_at hl 0 rfl) ?_
            refine xget F hT hW xuX6 (xm_fix (by decide)) xce_12 rfl 8 (by decide) xw_808 rfl rfl dX6_move_70 ?_
            refine lv_iload_n hx hb dX6_move_73 rfl (lv_at hl 1 rfl) ?_
            obtain ⟨g28, hf⟩ := oG_go hf
            refine xmald (by decide) F hT hW (xm_fix (by decide)) (by decide) (xinb_ok g28) dX6_move_74 ?_
            obtain ⟨g27, hf⟩ := oG_go hf
            refine xmast (by decide) F hT hW hS (xm_fix (by decide)) (by decide) (xinb_ok g27) dX6_move_75 (fun H locs hW hS => ?_)
            refine lv_aload_n hx hb dX6_move_76 rfl (lv_at hl 0 rfl) ?_
            refine xget F hT hW xuX6 (xm_fix (by decide)) xce_12 rfl 11 (by decide) xw_811 rfl rfl dX6_move_77 ?_
            refine lv_iload_n hx hb dX6_move_80 rfl (lv_at hl 1 rfl) ?_
            refine lv_iload_n hx hb dX6_move_81 rfl (lv_at hl 2 rfl) ?_
            obtain ⟨g26, hf⟩ := oG_go hf
            refine xmast (by decide) F hT hW hS (xm_fix (by decide)) (by decide) (xinb_ok g26) dX6_move_82 (fun H locs hW hS => ?_)
            refine lv_aload_n hx hb dX6_move_83 rfl (lv_at hl 0 rfl) ?_
            refine xget F hT hW xuX6 (xm_fix (by decide)) xce_12 rfl 12 (by decide) xw_812 rfl rfl dX6_move_84 ?_
            refine lv_iload_n hx hb dX6_move_87 rfl (lv_at hl 1 rfl) ?_
            refine lv_aload_n hx hb dX6_move_88 rfl (lv_at hl 0 rfl) ?_
            refine xget F hT hW xuX6 (xm_fix (by decide)) xce_12 rfl 4 (by decide) xw_804 rfl rfl dX6_move_89 ?_
            refine lv_iconst (v := 3) hx hb dX6_move_92 (by decide) ?_
            refine lv_iload_n hx hb dX6_move_93 rfl (lv_at hl 1 rfl) ?_
            refine lv_imul hx hb dX6_move_94 ?_
            obtain ⟨g25, hf⟩ := oG_go hf
            refine xmald (by decide) F hT hW (xm_fix (by decide)) (by decide) (xinb_ok g25) dX6_move_95 ?_
            refine lv_bipush (v := 19) hx hb dX6_move_96 (by decide) ?_
            refine lv_iadd hx hb dX6_move_98 ?_
            refine lv_bipush (v := 20) hx hb dX6_move_99 (by decide) ?_
            refine lv_idiv hx hb dX6_move_101 (by decide) ?_
            obtain ⟨g24, hf⟩ := oG_go hf
            refine xmast (by decide) F hT hW hS (xm_fix (by decide)) (by decide) (xinb_ok g24) dX6_move_102 (fun H locs hW hS => ?_)
            refine lv_aload_n hx hb dX6_move_103 rfl (lv_at hl 0 rfl) ?_
            refine xget F hT hW xuX6 (xm_fix (by decide)) xce_12 rfl 12 (by decide) xw_812 rfl rfl dX6_move_104 ?_
            refine lv_iload_n hx hb dX6_move_107 rfl (lv_at hl 1 rfl) ?_
            obtain ⟨g23, hf⟩ := oG_go hf
            refine xmald (by decide) F hT hW (xm_fix (by decide)) (by decide) (xinb_ok g23) dX6_move_108 ?_
            cases hf
            exact xret_i (ty := .int) F hr hlocks hS rfl rfl hW (Nat.le_of_ble_eq_true rfl) (Nat.le_of_ble_eq_true rfl) dX6_move_109
          · replace hf := if_f c22 hf
            refine lv_iconst (v := 0) hx hb dX6_move_55 (by decide) ?_
            cases hf
            exact xret_i (ty := .int) F hr hlocks hS rfl rfl hW (Nat.le_of_ble_eq_true rfl) (Nat.le_of_ble_eq_true rfl) dX6_move_56
        · replace hf := if_t c19 hf
          refine lv_iconst (v := 3) hx hb dX6_move_44 (by decide) ?_
          refine lv_goto (tgt := 49) hx hb dX6_move_45 (by decide) ?_
          obtain ⟨v31, s32, hc41, hf⟩ := oP_go hf
          refine xcallV (n := 1) F hT hW hS (xm_fix (by decide)) xce_12 rfl (kX6_fails l hl0 G sh sc sr sl 3  _ hc41) (xgV xw_883 xw_885 xwp_14 xw_4 xw_886) rfl xd_X6_fails ⟨Nat.le_of_ble_eq_true rfl, Nat.le_of_ble_eq_true rfl⟩ rfl hl.1 rfl (Nat.le_of_ble_eq_true rfl) dX6_move_49 ⟨Nat.le_of_ble_eq_true rfl, Nat.le_of_ble_eq_true rfl⟩ (fun v9 H locs hres hW hS => ?_) (fun E9 H locs q9 ce9 hres => by cases hres)
          cases hres
          refine W.eq (g2 := F0 m 52 ls (.int v31 :: [])) rfl ?_
          refine lv_if_eq (tgt := 57) hx hb dX6_move_52 (by decide) (fun c33 => ?_) (fun c33 => ?_)
          · replace hf := if_t c33 hf
            refine lv_aload_n hx hb dX6_move_57 rfl (lv_at hl 0 rfl) ?_
            refine xget F hT hW xuX6 (xm_fix (by decide)) xce_12 rfl 9 (by decide) xw_809 rfl rfl dX6_move_58 ?_
            refine lv_iload_n hx hb dX6_move_61 rfl (lv_at hl 1 rfl) ?_
            refine lv_iconst (v := 1) hx hb dX6_move_62 (by decide) ?_
            obtain ⟨g40, hf⟩ := oG_go hf
            refine xmast (by decide) F hT hW hS (xm_fix (by decide)) (by decide) (xinb_ok g40) dX6_move_63 (fun H locs hW hS => ?_)
            refine lv_aload_n hx hb dX6_move_64 rfl (lv_at hl 0 rfl) ?_
            refine xget F hT hW xuX6 (xm_fix (by decide)) xce_12 rfl 10 (by decide) xw_810 rfl rfl dX6_move_65 ?_
            refine lv_iload_n hx hb dX6_move_68 rfl (lv_at hl 1 rfl) ?_
            refine lv_aload_n hx hb dX6_move_69 rfl (lv_at hl 0 rfl) ?_
            refine xget F hT hW xuX6 (xm_fix (by decide)) xce_12 rfl 8 (by decide) xw_808 rfl rfl dX6_move_70 ?_
            refine lv_iload_n hx hb dX6_move_73 rfl (lv_at hl 1 rfl) ?_
            obtain ⟨g39, hf⟩ := oG_go hf
            refine xmald (by decide) F hT hW (xm_fix (by decide)) (by decide) (xinb_ok g39) dX6_move_74 ?_
            obtain ⟨g38, hf⟩ := oG_go hf
            refine xmast (by decide) F hT hW hS (xm_fix (by decide)) (by decide) (xinb_ok g38) dX6_move_75 (fun H locs hW hS => ?_)
            refine lv_aload_n hx hb dX6_move_76 rfl (lv_at hl 0 rfl) ?_
            refine xget F hT hW xuX6 (xm_fix (by decide)) xce_12 rfl 11 (by decide) xw_811 rfl rfl dX6_move_77 ?_
            refine lv_iload_n hx hb dX6_move_80 rfl (lv_at hl 1 rfl) ?_
            refine lv_iload_n hx hb dX6_move_81 rfl (lv_at hl 2 rfl) ?_
            obtain ⟨g37, hf⟩ := oG_go hf
            refine xmast (by decide) F hT hW hS (xm_fix (by decide)) (by decide) (xinb_ok g37) dX6_move_82 (fun H locs hW hS => ?_)
            refine lv_aload_n hx hb dX6_move_83 rfl (lv_at hl 0 rfl) ?_
            refine xget F hT hW xuX6 (xm_fix (by decide)) xce_12 rfl 12 (by decide) xw_812 rfl rfl dX6_move_84 ?_
            refine lv_iload_n hx hb dX6_move_87 rfl (lv_at hl 1 rfl) ?_
            refine lv_aload_n hx hb dX6_move_88 rfl (lv_at hl 0 rfl) ?_
            refine xget F hT hW xuX6 (xm_fix (by decide)) xce_12 rfl 4 (by decide) xw_804 rfl rfl dX6_move_89 ?_
            refine lv_iconst (v := 3) hx hb dX6_move_92 (by decide) ?_
            refine lv_iload_n hx hb dX6_move_93 rfl (lv_at hl 1 rfl) ?_
            refine lv_imul hx hb dX6_move_94 ?_
            obtain ⟨g36, hf⟩ := oG_go hf
            refine xmald (by decide) F hT hW (xm_fix (by decide)) (by decide) (xinb_ok g36) dX6_move_95 ?_
            refine lv_bipush (v := 19) hx hb dX6_move_96 (by decide) ?_
            refine lv_iadd hx hb dX6_move_98 ?_
            refine lv_bipush (v := 20) hx hb dX6_move_99 (by decide) ?_
            refine lv_idiv hx hb dX6_move_101 (by decide) ?_
            obtain ⟨g35, hf⟩ := oG_go hf
            refine xmast (by decide) F hT hW hS (xm_fix (by decide)) (by decide) (xinb_ok g35) dX6_move_102 (fun H locs hW hS => ?_)
            refine lv_aload_n hx hb dX6_move_103 rfl (lv_at hl 0 rfl) ?_
            refine xget F hT hW xuX6 (xm_fix (by decide)) xce_12 rfl 12 (by decide) xw_812 rfl rfl dX6_move_104 ?_
            refine lv_iload_n hx hb dX6_move_107 rfl (lv_at hl 1 rfl) ?_
            obtain ⟨g34, hf⟩ := oG_go hf
            refine xmald (by decide) F hT hW (xm_fix (by decide)) (by decide) (xinb_ok g34) dX6_move_108 ?_
            cases hf
            exact xret_i (ty := .int) F hr hlocks hS rfl rfl hW (Nat.le_of_ble_eq_true rfl) (Nat.le_of_ble_eq_true rfl) dX6_move_109
          · replace hf := if_f c33 hf
            refine lv_iconst (v := 0) hx hb dX6_move_55 (by decide) ?_
            cases hf
            exact xret_i (ty := .int) F hr hlocks hS rfl rfl hW (Nat.le_of_ble_eq_true rfl) (Nat.le_of_ble_eq_true rfl) dX6_move_56
      · replace hf := if_f c17 hf
        refine lv_iconst (v := 2) hx hb dX6_move_32 (by decide) ?_
        refine lv_goto (tgt := 49) hx hb dX6_move_33 (by decide) ?_
        obtain ⟨v43, s44, hc53, hf⟩ := oP_go hf
        refine xcallV (n := 1) F hT hW hS (xm_fix (by decide)) xce_12 rfl (kX6_fails l hl0 G sh sc sr sl 2  _ hc53) (xgV xw_883 xw_885 xwp_14 xw_4 xw_886) rfl xd_X6_fails ⟨Nat.le_of_ble_eq_true rfl, Nat.le_of_ble_eq_true rfl⟩ rfl hl.1 rfl (Nat.le_of_ble_eq_true rfl) dX6_move_49 ⟨Nat.le_of_ble_eq_true rfl, Nat.le_of_ble_eq_true rfl⟩ (fun v9 H locs hres hW hS => ?_) (fun E9 H locs q9 ce9 hres => by cases hres)
        cases hres
        refine W.eq (g2 := F0 m 52 ls (.int v43 :: [])) rfl ?_
        refine lv_if_eq (tgt := 57) hx hb dX6_move_52 (by decide) (fun c45 => ?_) (fun c45 => ?_)
        · replace hf := if_t c45 hf
          refine lv_aload_n hx hb dX6_move_57 rfl (lv_at hl 0 rfl) ?_
          refine xget F hT hW xuX6 (xm_fix (by decide)) xce_12 rfl 9 (by decide) xw_809 rfl rfl dX6_move_58 ?_
          refine lv_iload_n hx hb dX6_move_61 rfl (lv_at hl 1 rfl) ?_
          refine lv_iconst (v := 1) hx hb dX6_move_62 (by decide) ?_
          obtain ⟨g52, hf⟩ := oG_go hf
          refine xmast (by decide) F hT hW hS (xm_fix (by decide)) (by decide) (xinb_ok g52) dX6_move_63 (fun H locs hW hS => ?_)
          refine lv_aload_n hx hb dX6_move_64 rfl (lv_at hl 0 rfl) ?_
          refine xget F hT hW xuX6 (xm_fix (by decide)) xce_12 rfl 10 (by decide) xw_810 rfl rfl dX6_move_65 ?_
          refine lv_iload_n hx hb dX6_move_68 rfl (lv_at hl 1 rfl) ?_
          refine lv_aload_n hx hb dX6_move_69 rfl (lv_at hl 0 rfl) ?_
          refine xget F hT hW xuX6 (xm_fix (by decide)) xce_12 rfl 8 (by decide) xw_808 rfl rfl dX6_move_70 ?_
          refine lv_iload_n hx hb dX6_move_73 rfl (lv_at hl 1 rfl) ?_
          obtain ⟨g51, hf⟩ := oG_go hf
          refine xmald (by decide) F hT hW (xm_fix (by decide)) (by decide) (xinb_ok g51) dX6_move_74 ?_
          obtain ⟨g50, hf⟩ := oG_go hf
          refine xmast (by decide) F hT hW hS (xm_fix (by decide)) (by decide) (xinb_ok g50) dX6_move_75 (fun H locs hW hS => ?_)
          refine lv_aload_n hx hb dX6_move_76 rfl (lv_at hl 0 rfl) ?_
          refine xget F hT hW xuX6 (xm_fix (by decide)) xce_12 rfl 11 (by decide) xw_811 rfl rfl dX6_move_77 ?_
          refine lv_iload_n hx hb dX6_move_80 rfl (lv_at hl 1 rfl) ?_
          refine lv_iload_n hx hb dX6_move_81 rfl (lv_at hl 2 rfl) ?_
          obtain ⟨g49, hf⟩ := oG_go hf
          refine xmast (by decide) F hT hW hS (xm_fix (by decide)) (by decide) (xinb_ok g49) dX6_move_82 (fun H locs hW hS => ?_)
          refine lv_aload_n hx hb dX6_move_83 rfl (lv_at hl 0 rfl) ?_
          refine xget F hT hW xuX6 (xm_fix (by decide)) xce_12 rfl 12 (by decide) xw_812 rfl rfl dX6_move_84 ?_
          refine lv_iload_n hx hb dX6_move_87 rfl (lv_at hl 1 rfl) ?_
          refine lv_aload_n hx hb dX6_move_88 rfl (lv_at hl 0 rfl) ?_
          refine xget F hT hW xuX6 (xm_fix (by decide)) xce_12 rfl 4 (by decide) xw_804 rfl rfl dX6_move_89 ?_
          refine lv_iconst (v := 3) hx hb dX6_move_92 (by decide) ?_
          refine lv_iload_n hx hb dX6_move_93 rfl (lv_at hl 1 rfl) ?_
          refine lv_imul hx hb dX6_move_94 ?_
          obtain ⟨g48, hf⟩ := oG_go hf
          refine xmald (by decide) F hT hW (xm_fix (by decide)) (by decide) (xinb_ok g48) dX6_move_95 ?_
          refine lv_bipush (v := 19) hx hb dX6_move_96 (by decide) ?_
          refine lv_iadd hx hb dX6_move_98 ?_
          refine lv_bipush (v := 20) hx hb dX6_move_99 (by decide) ?_
          refine lv_idiv hx hb dX6_move_101 (by decide) ?_
          obtain ⟨g47, hf⟩ := oG_go hf
          refine xmast (by decide) F hT hW hS (xm_fix (by decide)) (by decide) (xinb_ok g47) dX6_move_102 (fun H locs hW hS => ?_)
          refine lv_aload_n hx hb dX6_move_103 rfl (lv_at hl 0 rfl) ?_
          refine xget F hT hW xuX6 (xm_fix (by decide)) xce_12 rfl 12 (by decide) xw_812 rfl rfl dX6_move_104 ?_
          refine lv_iload_n hx hb dX6_move_107 rfl (lv_at hl 1 rfl) ?_
          obtain ⟨g46, hf⟩ := oG_go hf
          refine xmald (by decide) F hT hW (xm_fix (by decide)) (by decide) (xinb_ok g46) dX6_move_108 ?_
          cases hf
          exact xret_i (ty := .int) F hr hlocks hS rfl rfl hW (Nat.le_of_ble_eq_true rfl) (Nat.le_of_ble_eq_true rfl) dX6_move_109
        · replace hf := if_f c45 hf
          refine lv_iconst (v := 0) hx hb dX6_move_55 (by decide) ?_
          cases hf
          exact xret_i (ty := .int) F hr hlocks hS rfl rfl hW (Nat.le_of_ble_eq_true rfl) (Nat.le_of_ble_eq_true rfl) dX6_move_56
    · replace hf := if_f c15 hf
      refine lv_iconst (v := 1) hx hb dX6_move_17 (by decide) ?_
      refine lv_goto (tgt := 49) hx hb dX6_move_18 (by decide) ?_
      obtain ⟨v55, s56, hc65, hf⟩ := oP_go hf
      refine xcallV (n := 1) F hT hW hS (xm_fix (by decide)) xce_12 rfl (kX6_fails l hl0 G sh sc sr sl 1  _ hc65) (xgV xw_883 xw_885 xwp_14 xw_4 xw_886) rfl xd_X6_fails ⟨Nat.le_of_ble_eq_true rfl, Nat.le_of_ble_eq_true rfl⟩ rfl hl.1 rfl (Nat.le_of_ble_eq_true rfl) dX6_move_49 ⟨Nat.le_of_ble_eq_true rfl, Nat.le_of_ble_eq_true rfl⟩ (fun v9 H locs hres hW hS => ?_) (fun E9 H locs q9 ce9 hres => by cases hres)
      cases hres
      refine W.eq (g2 := F0 m 52 ls (.int v55 :: [])) rfl ?_
      refine lv_if_eq (tgt := 57) hx hb dX6_move_52 (by decide) (fun c57 => ?_) (fun c57 => ?_)
      · replace hf := if_t c57 hf
        refine lv_aload_n hx hb dX6_move_57 rfl (lv_at hl 0 rfl) ?_
        refine xget F hT hW xuX6 (xm_fix (by decide)) xce_12 rfl 9 (by decide) xw_809 rfl rfl dX6_move_58 ?_
        refine lv_iload_n hx hb dX6_move_61 rfl (lv_at hl 1 rfl) ?_
        refine lv_iconst (v := 1) hx hb dX6_move_62 (by decide) ?_
        obtain ⟨g64, hf⟩ := oG_go hf
        refine xmast (by decide) F hT hW hS (xm_fix (by decide)) (by decide) (xinb_ok g64) dX6_move_63 (fun H locs hW hS => ?_)
        refine lv_aload_n hx hb dX6_move_64 rfl (lv_at hl 0 rfl) ?_
        refine xget F hT hW xuX6 (xm_fix (by decide)) xce_12 rfl 10 (by decide) xw_810 rfl rfl dX6_move_65 ?_
        refine lv_iload_n hx hb dX6_move_68 rfl (lv_at hl 1 rfl) ?_
        refine lv_aload_n hx hb dX6_move_69 rfl (lv_at hl 0 rfl) ?_
        refine xget F hT hW xuX6 (xm_fix (by decide)) xce_12 rfl 8 (by decide) xw_808 rfl rfl dX6_move_70 ?_
        refine lv_iload_n hx hb dX6_move_73 rfl (lv_at hl 1 rfl) ?_
        obtain ⟨g63, hf⟩ := oG_go hf
        refine xmald (by decide) F hT hW (xm_fix (by decide)) (by decide) (xinb_ok g63) dX6_move_74 ?_
        obtain ⟨g62, hf⟩ := oG_go hf
        refine xmast (by decide) F hT hW hS (xm_fix (by decide)) (by decide) (xinb_ok g62) dX6_move_75 (fun H locs hW hS => ?_)
        refine lv_aload_n hx hb dX6_move_76 rfl (lv_at hl 0 rfl) ?_
        refine xget F hT hW xuX6 (xm_fix (by decide)) xce_12 rfl 11 (by decide) xw_811 rfl rfl dX6_move_77 ?_
        refine lv_iload_n hx hb dX6_move_80 rfl (lv_at hl 1 rfl) ?_
        refine lv_iload_n hx hb dX6_move_81 rfl (lv_at hl 2 rfl) ?_
        obtain ⟨g61, hf⟩ := oG_go hf
        refine xmast (by decide) F hT hW hS (xm_fix (by decide)) (by decide) (xinb_ok g61) dX6_move_82 (fun H locs hW hS => ?_)
        refine lv_aload_n hx hb dX6_move_83 rfl (lv_at hl 0 rfl) ?_
        refine xget F hT hW xuX6 (xm_fix (by decide)) xce_12 rfl 12 (by decide) xw_812 rfl rfl dX6_move_84 ?_
        refine lv_iload_n hx hb dX6_move_87 rfl (lv_at hl 1 rfl) ?_
        refine lv_aload_n hx hb dX6_move_88 rfl (lv_at hl 0 rfl) ?_
        refine xget F hT hW xuX6 (xm_fix (by decide)) xce_12 rfl 4 (by decide) xw_804 rfl rfl dX6_move_89 ?_
        refine lv_iconst (v := 3) hx hb dX6_move_92 (by decide) ?_
        refine lv_iload_n hx hb dX6_move_93 rfl (lv_at hl 1 rfl) ?_
        refine lv_imul hx hb dX6_move_94 ?_
        obtain ⟨g60, hf⟩ := oG_go hf
        refine xmald (by decide) F hT hW (xm_fix (by decide)) (by decide) (xinb_ok g60) dX6_move_95 ?_
        refine lv_bipush (v := 19) hx hb dX6_move_96 (by decide) ?_
        refine lv_iadd hx hb dX6_move_98 ?_
        refine lv_bipush (v := 20) hx hb dX6_move_99 (by decide) ?_
        refine lv_idiv hx hb dX6_move_101 (by decide) ?_
        obtain ⟨g59, hf⟩ := oG_go hf
        refine xmast (by decide) F hT hW hS (xm_fix (by decide)) (by decide) (xinb_ok g59) dX6_move_102 (fun H locs hW hS => ?_)
        refine lv_aload_n hx hb dX6_move_103 rfl (lv_at hl 0 rfl) ?_
        refine xget F hT hW xuX6 (xm_fix (by decide)) xce_12 rfl 12 (by decide) xw_812 rfl rfl dX6_move_104 ?_
        refine lv_iload_n hx hb dX6_move_107 rfl (lv_at hl 1 rfl) ?_
        obtain ⟨g58, hf⟩ := oG_go hf
        refine xmald (by decide) F hT hW (xm_fix (by decide)) (by decide) (xinb_ok g58) dX6_move_108 ?_
        cases hf
        exact xret_i (ty := .int) F hr hlocks hS rfl rfl hW (Nat.le_of_ble_eq_true rfl) (Nat.le_of_ble_eq_true rfl) dX6_move_109
      · replace hf := if_f c57 hf
        refine lv_iconst (v := 0) hx hb dX6_move_55 (by decide) ?_
        cases hf
        exact xret_i (ty := .int) F hr hlocks hS rfl rfl hW (Nat.le_of_ble_eq_true rfl) (Nat.le_of_ble_eq_true rfl) dX6_move_56
abbrev rX6_tells : Room := { frames := 0, cells := 0, slots := 0, locals := 0 }
abbrev zX6_tells : List Cond := Cond.code yX6_tells cX6_tells 2 (some .int) :: xB
theorem xd_X6_tells : yX6_tells.cls = RX6 ∧ yX6_tells.cls ≠ "java/lang/invoke/MethodHandle" ∧ yX6_tells.cls ≠ "java/lang/invoke/VarHandle" ∧ (parseMethodDescriptor yX6_tells.desc).map (fun d => d.parameters.length) = some 1 := by decide +kernel
def fX6_tells (a1 : Int32) (sr : xSR) : Option (Int32 × xSR) := some (a1, (xuR sr.1 122 0 0, sr.2))
set_option maxHeartbeats 4000000 in
set_option maxRecDepth 100000 in
theorem kX6_tells (l : Launch) (hl0 : l.stackTraces = false) (G : xG) (sh : xSh) (sc : xSC) (sr : xSR) (sl : xSL) (a1 : Int32) (r : (Int32 × xSR)) (hf : fX6_tells a1 sr = some r) : xMet l yX6_tells zX6_tells rX6_tells G sh sc sr sl ([.ref (sh.1 12 0), .int a1] : List Value) (xvI (.inr r.1)) (xWd G sh sc r.2 sl) := by
  refine xMet_of (cc := cX6_tells) (maxL := 2) (ret := (some .int)) (by decide) (Nat.le_of_ble_eq_true rfl) ?_
  intro p e s m below meth c F hT hW hr hlocks htab ls hl
  have F : CallFix p m c cX6_tells 2 s ([.ref (sh.1 12 0), .int a1] : List Value).toArray xB RX6 := F
  have hx := F.1
  have hb := F.2.1
  have hS : va_S (xA G) s.heap s.heap [] := va_S.rf
  have hl : lv_has ls 2 [(0, .ref (sh.1 12 0)), (1, .int a1)] := hl
  unfold fX6_tells at hf
  refine lv_aload_n hx hb dX6_tells_0 rfl (lv_at hl 0 rfl) ?_
  refine lv_iconst (v := 0) hx hb dX6_tells_1 (by decide) ?_
  refine xput (ty := .int) F hT hW hS xuX6 tyX6 tyX6_ok nmX6 (xm_fix (by decide)) xce_12 rfl 22 (by decide) xw_822 rfl rfl rfl rfl rfl (Nat.le_of_ble_eq_true rfl) xup_12_22 dX6_tells_2 (fun H locs hW hS => ?_)
  refine lv_iload_n hx hb dX6_tells_5 rfl (lv_at hl 1 rfl) ?_
  cases hf
  exact xret_i (ty := .int) F hr hlocks hS rfl rfl hW (Nat.le_of_ble_eq_true rfl) (Nat.le_of_ble_eq_true rfl) dX6_tells_6
abbrev rX6_moves : Room := { frames := 1, cells := 0, slots := 0, locals := 22 }
abbrev zX6_moves : List Cond := Cond.code yX6_moves cX6_moves 1 (some .int) :: xB
theorem xd_X6_moves : yX6_moves.cls = RX6 ∧ yX6_moves.cls ≠ "java/lang/invoke/MethodHandle" ∧ yX6_moves.cls ≠ "java/lang/invoke/VarHandle" ∧ (parseMethodDescriptor yX6_moves.desc).map (fun d => d.parameters.length) = some 0 := by decide +kernel
def fX6_moves (sr : xSR) : Option (Int32 × xSR) := oB (fX6_underWay  sr) (fun v1 => oP (fX6_tells v1 sr) (fun v2 s3 => some (v2, s3)))
set_option maxHeartbeats 4000000 in
set_option maxRecDepth 100000 in
theorem kX6_moves (l : Launch) (hl0 : l.stackTraces = false) (G : xG) (sh : xSh) (sc : xSC) (sr : xSR) (sl : xSL) (r : (Int32 × xSR)) (hf : fX6_moves sr = some r) : xMet l yX6_moves zX6_moves rX6_moves G sh sc sr sl ([.ref (sh.1 12 0)] : List Value) (xvI (.inr r.1)) (xWd G sh sc r.2 sl) := by
  refine xMet_of (cc := cX6_moves) (maxL := 1) (ret := (some .int)) (by decide) (Nat.le_of_ble_eq_true rfl) ?_
  intro p e s m below meth c F hT hW hr hlocks htab ls hl
  have F : CallFix p m c cX6_moves 1 s ([.ref (sh.1 12 0)] : List Value).toArray xB RX6 := F
  have hx := F.1
  have hb := F.2.1
  have hS : va_S (xA G) s.heap s.heap [] := va_S.rf
  have hl : lv_has ls 1 [(0, .ref (sh.1 12 0))] := hl
  unfold fX6_moves at hf
  refine lv_aload_n hx hb dX6_moves_0 rfl (lv_at hl 0 rfl) ?_
  refine lv_aload_n hx hb dX6_moves_1 rfl (lv_at hl 0 rfl) ?_
  obtain ⟨v1, hc5, hf⟩ := oB_go hf
  refine xcallV (n := 0) F hT hW hS (xm_fix (by decide)) xce_12 rfl (kX6_underWay l hl0 G sh sc sr sl   _ hc5) (xgV xw_958 xw_960 xwp_25 xw_4 xw_961) rfl xd_X6_underWay ⟨Nat.le_of_ble_eq_true rfl, Nat.le_of_ble_eq_true rfl⟩ rfl hl.1 rfl (Nat.le_of_ble_eq_true rfl) dX6_moves_2 ⟨Nat.le_of_ble_eq_true rfl, Nat.le_of_ble_eq_true rfl⟩ (fun v9 H locs hres hW hS => ?_) (fun E9 H locs q9 ce9 hres => by cases hres)
  cases hres
  refine W.eq (g2 := F0 m 5 ls (.int v1 :: .ref (sh.1 12 0) :: [])) rfl ?_
  obtain ⟨v2, s3, hc4, hf⟩ := oP_go hf
  refine xcallV (n := 1) F hT hW hS (xm_fix (by decide)) xce_12 rfl (kX6_tells l hl0 G sh sc sr sl v1  _ hc4) (xgV xw_994 xw_996 xwp_30 xw_4 xw_997) rfl xd_X6_tells ⟨Nat.le_of_ble_eq_true rfl, Nat.le_of_ble_eq_true rfl⟩ rfl hl.1 rfl (Nat.le_of_ble_eq_true rfl) dX6_moves_5 ⟨Nat.le_of_ble_eq_true rfl, Nat.le_of_ble_eq_true rfl⟩ (fun v9 H locs hres hW hS => ?_) (fun E9 H locs q9 ce9 hres => by cases hres)
  cases hres
  refine W.eq (g2 := F0 m 8 ls (.int v2 :: [])) rfl ?_
  cases hf
  exact xret_i (ty := .int) F hr hlocks hS rfl rfl hW (Nat.le_of_ble_eq_true rfl) (Nat.le_of_ble_eq_true rfl) dX6_moves_8
abbrev rX6_pass : Room := { frames := 6, cells := 0, slots := 0, locals := 135 }
abbrev zX6_pass : List Cond := Cond.code yX6_pass cX6_pass 4 (some .int) :: xB
theorem xd_X6_pass : yX6_pass.cls = RX6 ∧ yX6_pass.cls ≠ "java/lang/invoke/MethodHandle" ∧ yX6_pass.cls ≠ "java/lang/invoke/VarHandle" ∧ (parseMethodDescriptor yX6_pass.desc).map (fun d => d.parameters.length) = some 1 := by decide +kernel
def fX6_pass_K1 (x2L1 : Int32) (x3L1 : Int32) (srL1 : xSR) : Option (Int32 × xSR) := some (x2L1, srL1)
def fX6_pass_L1 (a1 : Int32) (k_L1 : Int32 → Int32 → xSR → Option (Int32 × xSR)) : Nat → Int32 → Int32 → xSR → Option (Int32 × xSR)
  | 0, _, _, _ => none
  | n + 1, x2L1, x3L1, srL1 => (if a1 ≤ x3L1 then k_L1 x2L1 x3L1 srL1 else oP (fX6_hour  srL1) (fun v7 s8 => (fX6_pass_L1 a1 k_L1 n) (x2L1 + v7) (x3L1 + 1) s8))
def fX6_pass_K2 (x2L2 : Int32) (x3L2 : Int32) (srL2 : xSR) : Option (Int32 × xSR) := some (x2L2, srL2)
def fX6_pass_L2 (a1 : Int32) (k_L2 : Int32 → Int32 → xSR → Option (Int32 × xSR)) : Nat → Int32 → Int32 → xSR → Option (Int32 × xSR)
  | 0, _, _, _ => none
  | n + 1, x2L2, x3L2, srL2 => (if a1 ≤ x3L2 then k_L2 x2L2 x3L2 srL2 else oP (fX6_hour  srL2) (fun v15 s16 => (fX6_pass_L2 a1 k_L2 n) (x2L2 + v15) (x3L2 + 1) s16))
def fX6_pass (a1 : Int32) (sr : xSR) : Option (Int32 × xSR) := oB (fX6_in a1 1 48 sr) (fun v1 => (if v1 = 0 then oP (fX6_fails 1 sr) (fun v3 s4 => (if v3 = 0 then fX6_pass_L1 a1 (fX6_pass_K1) 64 0 0 s4 else some (0, s4))) else oP (fX6_fails 0 sr) (fun v11 s12 => (if v11 = 0 then fX6_pass_L2 a1 (fX6_pass_K2) 64 0 0 s12 else some (0, s12)))))
set_option maxHeartbeats 4000000 in
set_option maxRecDepth 100000 in
theorem kX6_pass (l : Launch) (hl0 : l.stackTraces = false) (G : xG) (sh : xSh) (sc : xSC) (sr : xSR) (sl : xSL) (a1 : Int32) (r : (Int32 × xSR)) (hf : fX6_pass a1 sr = some r) : xMet l yX6_pass zX6_pass rX6_pass G sh sc sr sl ([.ref (sh.1 12 0), .int a1] : List Value) (xvI (.inr r.1)) (xWd G sh sc r.2 sl) := by
  refine xMet_of (cc := cX6_pass) (maxL := 4) (ret := (some .int)) (by decide) (Nat.le_of_ble_eq_true rfl) ?_
  intro p e s m below meth c F hT hW hr hlocks htab ls hl
  have F : CallFix p m c cX6_pass 4 s ([.ref (sh.1 12 0), .int a1] : List Value).toArray xB RX6 := F
  have hx := F.1
  have hb := F.2.1
  have hS : va_S (xA G) s.heap s.heap [] := va_S.rf
  have hl : lv_has ls 4 [(0, .ref (sh.1 12 0)), (1, .int a1)] := hl
  unfold fX6_pass at hf
  refine lv_aload_n hx hb dX6_pass_0 rfl (lv_at hl 0 rfl) ?_
  refine lv_iload_n hx hb dX6_pass_1 rfl (lv_at hl 1 rfl) ?_
  refine lv_iconst (v := 1) hx hb dX6_pass_2 (by decide) ?_
  refine lv_bipush (v := 48) hx hb dX6_pass_3 (by decide) ?_
  obtain ⟨v1, hc19, hf⟩ := oB_go hf
  refine xcallS (n := 3) F hT hW hS (kX6_in l hl0 G sh sc sr sl a1 1 48  _ hc19) (xgS xw_880 xw_881 xw_4 xw_882) rfl xd_X6_in.2 ⟨Nat.le_of_ble_eq_true rfl, Nat.le_of_ble_eq_true rfl⟩ rfl hl.1 rfl (Nat.le_of_ble_eq_true rfl) dX6_pass_5 ⟨Nat.le_of_ble_eq_true rfl, Nat.le_of_ble_eq_true rfl⟩ (fun v9 H locs hres hW hS => ?_) (fun E9 H locs q9 ce9 hres => by cases hres)
  cases hres
  refine W.eq (g2 := F0 m 8 ls (.int v1 :: .ref (sh.1 12 0) :: [])) rfl ?_
  refine lv_if_eq (tgt := 15) hx hb dX6_pass_8 (by decide) (fun c2 => ?_) (fun c2 => ?_)
  · replace hf := if_t c2 hf
    refine lv_iconst (v := 1) hx hb dX6_pass_15 (by decide) ?_
    obtain ⟨v3, s4, hc10, hf⟩ := oP_go hf
    refine xcallV (n := 1) F hT hW hS (xm_fix (by decide)) xce_12 rfl (kX6_fails l hl0 G sh sc sr sl 1  _ hc10) (xgV xw_883 xw_885 xwp_14 xw_4 xw_886) rfl xd_X6_fails ⟨Nat.le_of_ble_eq_true rfl, Nat.le_of_ble_eq_true rfl⟩ rfl hl.1 rfl (Nat.le_of_ble_eq_true rfl) dX6_pass_16 ⟨Nat.le_of_ble_eq_true rfl, Nat.le_of_ble_eq_true rfl⟩ (fun v9 H locs hres hW hS => ?_) (fun E9 H locs q9 ce9 hres => by cases hres)
    cases hres
    refine W.eq (g2 := F0 m 19 ls (.int v3 :: [])) rfl ?_
    refine lv_if_eq (tgt := 24) hx hb dX6_pass_19 (by decide) (fun c5 => ?_) (fun c5 => ?_)
    · replace hf := if_t c5 hf
      refine lv_iconst (v := 0) hx hb dX6_pass_24 (by decide) ?_
      refine lv_istore_n (lv' := [(2, .int 0), (0, .ref (sh.1 12 0)), (1, .int a1)]) hx hb dX6_pass_25 rfl hl (by decide) rfl (fun ls hl => ?_)
      refine lv_iconst (v := 0) hx hb dX6_pass_26 (by decide) ?_
      refine lv_istore_n (lv' := [(3, .int 0), (2, .int 0), (0, .ref (sh.1 12 0)), (1, .int a1)]) hx hb dX6_pass_27 rfl hl (by decide) rfl (fun ls hl => ?_)
      have hx_L1 : ∀ (x2L1 : Int32) (x3L1 : Int32) (srL1 : xSR), fX6_pass_K1 x2L1 x3L1 srL1 = some r → ∀ (H : Heap) (locs : List Loc), xWd G sh sc srL1 sl H → va_S (xA G) s.heap H locs → ∀ ls : Array Slot, lv_has ls 4 [(2, .int x2L1)] → W p l e rX6_pass s m ([.ref (sh.1 12 0), .int a1] : List Value).toArray below meth c H locs 0 0 (xQ below G (xvI (.inr r.1)) (xWd G sh sc r.2 sl) ([.ref (sh.1 12 0), .int a1] : List Value).toArray s 0 0) (F0 m 46 ls []) := by
        intro x2L1 x3L1 srL1 hf H locs hW hS ls hl
        unfold fX6_pass_K1 at hf
        refine lv_iload_n hx hb dX6_pass_46 rfl (lv_at hl 0 rfl) ?_
        cases hf
        exact xret_i (ty := .int) F hr hlocks hS rfl rfl hW (Nat.le_of_ble_eq_true rfl) (Nat.le_of_ble_eq_true rfl) dX6_pass_47
      have hL_L1 : ∀ (n9 : Nat) (x2L1 : Int32) (x3L1 : Int32) (srL1 : xSR), fX6_pass_L1 a1 (fX6_pass_K1) n9 x2L1 x3L1 srL1 = some r → ∀ (H : Heap) (locs : List Loc), xWd G sh sc srL1 sl H → va_S (xA G) s.heap H locs → ∀ ls : Array Slot, lv_has ls 4 [(0, .ref (sh.1 12 0)), (1, .int a1), (2, .int x2L1), (3, .int x3L1)] → W p l e rX6_pass s m ([.ref (sh.1 12 0), .int a1] : List Value).toArray below meth c H locs 0 0 (xQ below G (xvI (.inr r.1)) (xWd G sh sc r.2 sl) ([.ref (sh.1 12 0), .int a1] : List Value).toArray s 0 0) (F0 m 28 ls []) := by
        intro n_L1
        induction n_L1 with
        | zero =>
          intro x2L1 x3L1 srL1 hf
          unfold fX6_pass_L1 at hf
          cases hf
        | succ n_L1 ih_L1 =>
          intro x2L1 x3L1 srL1 hf H locs hW hS ls hl
          unfold fX6_pass_L1 at hf
          refine lv_iload_n hx hb dX6_pass_28 rfl (lv_at hl 3 rfl) ?_
          refine lv_iload_n hx hb dX6_pass_29 rfl (lv_at hl 1 rfl) ?_
          refine lv_icmp_ge (tgt := 46) hx hb dX6_pass_30 (by decide) (fun c6 => ?_) (fun c6 => ?_)
          · replace hf := if_t c6 hf
            exact hx_L1 _ _ _ hf _ _ hW hS ls (lv_sub hl [2] rfl)
          · replace hf := if_f c6 hf
            refine lv_iload_n hx hb dX6_pass_33 rfl (lv_at hl 2 rfl) ?_
            refine lv_aload_n hx hb dX6_pass_34 rfl (lv_at hl 0 rfl) ?_
            obtain ⟨v7, s8, hc9, hf⟩ := oP_go hf
            refine xcallV (n := 0) F hT hW hS (xm_fix (by decide)) xce_12 rfl (kX6_hour l hl0 G sh sc srL1 sl   _ hc9) (xgV xw_974 xw_976 xwp_26 xw_4 xw_977) rfl xd_X6_hour ⟨Nat.le_of_ble_eq_true rfl, Nat.le_of_ble_eq_true rfl⟩ rfl hl.1 rfl (Nat.le_of_ble_eq_true rfl) dX6_pass_35 ⟨Nat.le_of_ble_eq_true rfl, Nat.le_of_ble_eq_true rfl⟩ (fun v9 H locs hres hW hS => ?_) (fun E9 H locs q9 ce9 hres => by cases hres)
            cases hres
            refine W.eq (g2 := F0 m 38 ls (.int v7 :: .int x2L1 :: [])) rfl ?_
            refine lv_iadd hx hb dX6_pass_38 ?_
            refine lv_istore_n (lv' := [(2, .int (x2L1 + v7)), (0, .ref (sh.1 12 0)), (1, .int a1), (3, .int x3L1)]) hx hb dX6_pass_39 rfl hl (by decide) rfl (fun ls hl => ?_)
            refine lv_iinc (v := (x3L1 + 1)) (lv' := [(3, .int (x3L1 + 1)), (2, .int (x2L1 + v7)), (0, .ref (sh.1 12 0)), (1, .int a1)]) hx hb dX6_pass_40 hl (k := 3) rfl rfl (by decide) rfl (fun ls hl => ?_)
            refine lv_goto (tgt := 28) hx hb dX6_pass_43 (by decide) ?_
            exact ih_L1 _ _ _ hf _ _ hW hS ls (lv_sub hl [2, 3, 1, 0] rfl)
      exact hL_L1 _ _ _ _ hf _ _ hW hS ls (lv_sub hl [2, 3, 1, 0] rfl)
    · replace hf := if_f c5 hf
      refine lv_iconst (v := 0) hx hb dX6_pass_22 (by decide) ?_
      cases hf
      exact xret_i (ty := .int) F hr hlocks hS rfl rfl hW (Nat.le_of_ble_eq_true rfl) (Nat.le_of_ble_eq_true rfl) dX6_pass_23
  · replace hf := if_f c2 hf
    refine lv_iconst (v := 0) hx hb dX6_pass_11 (by decide) ?_
    refine lv_goto (tgt := 16) hx hb dX6_pass_12 (by decide) ?_
    obtain ⟨v11, s12, hc18, hf⟩ := oP_go hf
    refine xcallV (n := 1) F hT hW hS (xm_fix (by decide)) xce_12 rfl (kX6_fails l hl0 G sh sc sr sl 0  _ hc18) (xgV xw_883 xw_885 xwp_14 xw_4 xw_886) rfl xd_X6_fails ⟨Nat.le_of_ble_eq_true rfl, Nat.le_of_ble_eq_true rfl⟩ rfl hl.1 rfl (Nat.le_of_ble_eq_true rfl) dX6_pass_16 ⟨Nat.le_of_ble_eq_true rfl, Nat.le_of_ble_eq_true rfl⟩ (fun v9 H locs hres hW hS => ?_) (fun E9 H locs q9 ce9 hres => by cases hres)
    cases hres
    refine W.eq (g2 := F0 m 19 ls (.int v11 :: [])) rfl ?_
    refine lv_if_eq (tgt := 24) hx hb dX6_pass_19 (by decide) (fun c13 => ?_) (fun c13 => ?_)
    · replace hf := if_t c13 hf
      refine lv_iconst (v := 0) hx hb dX6_pass_24 (by decide) ?_
      refine lv_istore_n (lv' := [(2, .int 0), (0, .ref (sh.1 12 0)), (1, .int a1)]) hx hb dX6_pass_25 rfl hl (by decide) rfl (fun ls hl => ?_)
      refine lv_iconst (v := 0) hx hb dX6_pass_26 (by decide) ?_
      refine lv_istore_n (lv' := [(3, .int 0), (2, .int 0), (0, .ref (sh.1 12 0)), (1, .int a1)]) hx hb dX6_pass_27 rfl hl (by decide) rfl (fun ls hl => ?_)
      have hx_L2 : ∀ (x2L2 : Int32) (x3L2 : Int32) (srL2 : xSR), fX6_pass_K2 x2L2 x3L2 srL2 = some r → ∀ (H : Heap) (locs : List Loc), xWd G sh sc srL2 sl H → va_S (xA G) s.heap H locs → ∀ ls : Array Slot, lv_has ls 4 [(2, .int x2L2)] → W p l e rX6_pass s m ([.ref (sh.1 12 0), .int a1] : List Value).toArray below meth c H locs 0 0 (xQ below G (xvI (.inr r.1)) (xWd G sh sc r.2 sl) ([.ref (sh.1 12 0), .int a1] : List Value).toArray s 0 0) (F0 m 46 ls []) := by
        intro x2L2 x3L2 srL2 hf H locs hW hS ls hl
        unfold fX6_pass_K2 at hf
        refine lv_iload_n hx hb dX6_pass_46 rfl (lv_at hl 0 rfl) ?_
        cases hf
        exact xret_i (ty := .int) F hr hlocks hS rfl rfl hW (Nat.le_of_ble_eq_true rfl) (Nat.le_of_ble_eq_true rfl) dX6_pass_47
      have hL_L2 : ∀ (n9 : Nat) (x2L2 : Int32) (x3L2 : Int32) (srL2 : xSR), fX6_pass_L2 a1 (fX6_pass_K2) n9 x2L2 x3L2 srL2 = some r → ∀ (H : Heap) (locs : List Loc), xWd G sh sc srL2 sl H → va_S (xA G) s.heap H locs → ∀ ls : Array Slot, lv_has ls 4 [(0, .ref (sh.1 12 0)), (1, .int a1), (2, .int x2L2), (3, .int x3L2)] → W p l e rX6_pass s m ([.ref (sh.1 12 0), .int a1] : List Value).toArray below meth c H locs 0 0 (xQ below G (xvI (.inr r.1)) (xWd G sh sc r.2 sl) ([.ref (sh.1 12 0), .int a1] : List Value).toArray s 0 0) (F0 m 28 ls []) := by
        intro n_L2
        induction n_L2 with
        | zero =>
          intro x2L2 x3L2 srL2 hf
          unfold fX6_pass_L2 at hf
          cases hf
        | succ n_L2 ih_L2 =>
          intro x2L2 x3L2 srL2 hf H locs hW hS ls hl
          unfold fX6_pass_L2 at hf
          refine lv_iload_n hx hb dX6_pass_28 rfl (lv_at hl 3 rfl) ?_
          refine lv_iload_n hx hb dX6_pass_29 rfl (lv_at hl 1 rfl) ?_
          refine lv_icmp_ge (tgt := 46) hx hb dX6_pass_30 (by decide) (fun c14 => ?_) (fun c14 => ?_)
          · replace hf := if_t c14 hf
            exact hx_L2 _ _ _ hf _ _ hW hS ls (lv_sub hl [2] rfl)
          · replace hf := if_f c14 hf
            refine lv_iload_n hx hb dX6_pass_33 rfl (lv_at hl 2 rfl) ?_
            refine lv_aload_n hx hb dX6_pass_34 rfl (lv_at hl 0 rfl) ?_
            obtain ⟨v15, s16, hc17, hf⟩ := oP_go hf
            refine xcallV (n := 0) F hT hW hS (xm_fix (by decide)) xce_12 rfl (kX6_hour l hl0 G sh sc srL2 sl   _ hc17) (xgV xw_974 xw_976 xwp_26 xw_4 xw_977) rfl xd_X6_hour ⟨Nat.le_of_ble_eq_true rfl, Nat.le_of_ble_eq_true rfl⟩ rfl hl.1 rfl (Nat.le_of_ble_eq_true rfl) dX6_pass_35 ⟨Nat.le_of_ble_eq_true rfl, Nat.le_of_ble_eq_true rfl⟩ (fun v9 H locs hres hW hS => ?_) (fun E9 H locs q9 ce9 hres => by cases hres)
            cases hres
            refine W.eq (g2 := F0 m 38 ls (.int v15 :: .int x2L2 :: [])) rfl ?_
            refine lv_iadd hx hb dX6_pass_38 ?_
            refine lv_istore_n (lv' := [(2, .int (x2L2 + v15)), (0, .ref (sh.1 12 0)), (1, .int a1), (3, .int x3L2)]) hx hb dX6_pass_39 rfl hl (by decide) rfl (fun ls hl => ?_)
            refine lv_iinc (v := (x3L2 + 1)) (lv' := [(3, .int (x3L2 + 1)), (2, .int (x2L2 + v15)), (0, .ref (sh.1 12 0)), (1, .int a1)]) hx hb dX6_pass_40 hl (k := 3) rfl rfl (by decide) rfl (fun ls hl => ?_)
            refine lv_goto (tgt := 28) hx hb dX6_pass_43 (by decide) ?_
            exact ih_L2 _ _ _ hf _ _ hW hS ls (lv_sub hl [2, 3, 1, 0] rfl)
      exact hL_L2 _ _ _ _ hf _ _ hW hS ls (lv_sub hl [2, 3, 1, 0] rfl)
    · replace hf := if_f c13 hf
      refine lv_iconst (v := 0) hx hb dX6_pass_22 (by decide) ?_
      cases hf
      exact xret_i (ty := .int) F hr hlocks hS rfl rfl hW (Nat.le_of_ble_eq_true rfl) (Nat.le_of_ble_eq_true rfl) dX6_pass_23
abbrev rX6_phase : Room := { frames := 2, cells := 0, slots := 0, locals := 43 }
abbrev zX6_phase : List Cond := Cond.code yX6_phase cX6_phase 2 (some .char) :: xB
theorem xd_X6_phase : yX6_phase.cls = RX6 ∧ yX6_phase.cls ≠ "java/lang/invoke/MethodHandle" ∧ yX6_phase.cls ≠ "java/lang/invoke/VarHandle" ∧ (parseMethodDescriptor yX6_phase.desc).map (fun d => d.parameters.length) = some 1 := by decide +kernel
def fX6_phase (a1 : Int32) (sr : xSR) : Option (Int32 × xSR) := oB (fX6_isNoTenant a1 sr) (fun v1 => (if v1 = 0 then oP (fX6_fails 0 sr) (fun v3 s4 => (if v3 = 0 then oG (xinb a1 6) ((if (s4.1 9 a1.toNatClampNeg) = 0 then some (45, s4) else oG (xinb a1 6) ((if (s4.1 9 a1.toNatClampNeg) = 1 then some (99, s4) else oG (xinb a1 6) ((if (s4.1 9 a1.toNatClampNeg) = 2 then some (102, s4) else some (100, s4))))))) else some (97, s4))) else oP (fX6_fails 1 sr) (fun v13 s14 => (if v13 = 0 then oG (xinb a1 6) ((if (s14.1 9 a1.toNatClampNeg) = 0 then some (45, s14) else oG (xinb a1 6) ((if (s14.1 9 a1.toNatClampNeg) = 1 then some (99, s14) else oG (xinb a1 6) ((if (s14.1 9 a1.toNatClampNeg) = 2 then some (102, s14) else some (100, s14))))))) else some (97, s14)))))
set_option maxHeartbeats 4000000 in
set_option maxRecDepth 100000 in
theorem kX6_phase (l : Launch) (hl0 : l.stackTraces = false) (G : xG) (sh : xSh) (sc : xSC) (sr : xSR) (sl : xSL) (a1 : Int32) (r : (Int32 × xSR)) (hf : fX6_phase a1 sr = some r) : xMet l yX6_phase zX6_phase rX6_phase G sh sc sr sl ([.ref (sh.1 12 0), .int a1] : List Value) (xvI (.inr r.1)) (xWd G sh sc r.2 sl) := by
  refine xMet_of (cc := cX6_phase) (maxL := 2) (ret := (some .char)) (by decide) (Nat.le_of_ble_eq_true rfl) ?_
  intro p e s m below meth c F hT hW hr hlocks htab ls hl
  have F : CallFix p m c cX6_phase 2 s ([.ref (sh.1 12 0), .int a1] : List Value).toArray xB RX6 := F
  have hx := F.1
  have hb := F.2.1
  have hS : va_S (xA G) s.heap s.heap [] := va_S.rf
  have hl : lv_has ls 2 [(0, .ref (sh.1 12 0)), (1, .int a1)] := hl
  unfold fX6_phase at hf
  refine lv_aload_n hx hb dX6_phase_0 rfl (lv_at hl 0 rfl) ?_
  refine lv_aload_n hx hb dX6_phase_1 rfl (lv_at hl 0 rfl) ?_
  refine lv_iload_n hx hb dX6_phase_2 rfl (lv_at hl 1 rfl) ?_
  obtain ⟨v1, hc23, hf⟩ := oB_go hf
  refine xcallV (n := 1) F hT hW hS (xm_fix (by decide)) xce_12 rfl (kX6_isNoTenant l hl0 G sh sc sr sl a1  _ hc23) (xgV xw_926 xw_928 xwp_20 xw_4 xw_929) rfl xd_X6_isNoTenant ⟨Nat.le_of_ble_eq_true rfl, Nat.le_of_ble_eq_true rfl⟩ rfl hl.1 rfl (Nat.le_of_ble_eq_true rfl) dX6_phase_3 ⟨Nat.le_of_ble_eq_true rfl, Nat.le_of_ble_eq_true rfl⟩ (fun v9 H locs hres hW hS => ?_) (fun E9 H locs q9 ce9 hres => by cases hres)
  cases hres
  refine W.eq (g2 := F0 m 6 ls (.int v1 :: .ref (sh.1 12 0) :: [])) rfl ?_
  refine lv_if_eq (tgt := 13) hx hb dX6_phase_6 (by decide) (fun c2 => ?_) (fun c2 => ?_)
  · replace hf := if_t c2 hf
    refine lv_iconst (v := 0) hx hb dX6_phase_13 (by decide) ?_
    obtain ⟨v3, s4, hc12, hf⟩ := oP_go hf
    refine xcallV (n := 1) F hT hW hS (xm_fix (by decide)) xce_12 rfl (kX6_fails l hl0 G sh sc sr sl 0  _ hc12) (xgV xw_883 xw_885 xwp_14 xw_4 xw_886) rfl xd_X6_fails ⟨Nat.le_of_ble_eq_true rfl, Nat.le_of_ble_eq_true rfl⟩ rfl hl.1 rfl (Nat.le_of_ble_eq_true rfl) dX6_phase_14 ⟨Nat.le_of_ble_eq_true rfl, Nat.le_of_ble_eq_true rfl⟩ (fun v9 H locs hres hW hS => ?_) (fun E9 H locs q9 ce9 hres => by cases hres)
    cases hres
    refine W.eq (g2 := F0 m 17 ls (.int v3 :: [])) rfl ?_
    refine lv_if_eq (tgt := 25) hx hb dX6_phase_17 (by decide) (fun c5 => ?_) (fun c5 => ?_)
    · replace hf := if_t c5 hf
      refine lv_aload_n hx hb dX6_phase_25 rfl (lv_at hl 0 rfl) ?_
      refine xget F hT hW xuX6 (xm_fix (by decide)) xce_12 rfl 9 (by decide) xw_809 rfl rfl dX6_phase_26 ?_
      refine lv_iload_n hx hb dX6_phase_29 rfl (lv_at hl 1 rfl) ?_
      obtain ⟨g11, hf⟩ := oG_go hf
      refine xmald (by decide) F hT hW (xm_fix (by decide)) (by decide) (xinb_ok g11) dX6_phase_30 ?_
      refine lv_if_ne (tgt := 39) hx hb dX6_phase_31 (by decide) (fun c6 => ?_) (fun c6 => ?_)
      · replace hf := if_f c6 hf
        refine lv_aload_n hx hb dX6_phase_39 rfl (lv_at hl 0 rfl) ?_
        refine xget F hT hW xuX6 (xm_fix (by decide)) xce_12 rfl 9 (by decide) xw_809 rfl rfl dX6_phase_40 ?_
        refine lv_iload_n hx hb dX6_phase_43 rfl (lv_at hl 1 rfl) ?_
        obtain ⟨g10, hf⟩ := oG_go hf
        refine xmald (by decide) F hT hW (xm_fix (by decide)) (by decide) (xinb_ok g10) dX6_phase_44 ?_
        refine lv_iconst (v := 1) hx hb dX6_phase_45 (by decide) ?_
        refine lv_icmp_ne (tgt := 54) hx hb dX6_phase_46 (by decide) (fun c7 => ?_) (fun c7 => ?_)
        · replace hf := if_f c7 hf
          refine lv_aload_n hx hb dX6_phase_54 rfl (lv_at hl 0 rfl) ?_
          refine xget F hT hW xuX6 (xm_fix (by decide)) xce_12 rfl 9 (by decide) xw_809 rfl rfl dX6_phase_55 ?_
          refine lv_iload_n hx hb dX6_phase_58 rfl (lv_at hl 1 rfl) ?_
          obtain ⟨g9, hf⟩ := oG_go hf
          refine xmald (by decide) F hT hW (xm_fix (by decide)) (by decide) (xinb_ok g9) dX6_phase_59 ?_
          refine lv_iconst (v := 2) hx hb dX6_phase_60 (by decide) ?_
          refine lv_icmp_ne (tgt := 69) hx hb dX6_phase_61 (by decide) (fun c8 => ?_) (fun c8 => ?_)
          · replace hf := if_f c8 hf
            refine lv_bipush (v := 100) hx hb dX6_phase_69 (by decide) ?_
            cases hf
            exact xret_i (ty := .char) F hr hlocks hS (by decide) rfl hW (Nat.le_of_ble_eq_true rfl) (Nat.le_of_ble_eq_true rfl) dX6_phase_71
          · replace hf := if_t c8 hf
            refine lv_bipush (v := 102) hx hb dX6_phase_64 (by decide) ?_
            refine lv_goto (tgt := 71) hx hb dX6_phase_66 (by decide) ?_
            cases hf
            exact xret_i (ty := .char) F hr hlocks hS (by decide) rfl hW (Nat.le_of_ble_eq_true rfl) (Nat.le_of_ble_eq_true rfl) dX6_phase_71
        · replace hf := if_t c7 hf
          refine lv_bipush (v := 99) hx hb dX6_phase_49 (by decide) ?_
          refine lv_goto (tgt := 71) hx hb dX6_phase_51 (by decide) ?_
          cases hf
          exact xret_i (ty := .char) F hr hlocks hS (by decide) rfl hW (Nat.le_of_ble_eq_true rfl) (Nat.le_of_ble_eq_true rfl) dX6_phase_71
      · replace hf := if_t c6 hf
        refine lv_bipush (v := 45) hx hb dX6_phase_34 (by decide) ?_
        refine lv_goto (tgt := 71) hx hb dX6_phase_36 (by decide) ?_
        cases hf
        exact xret_i (ty := .char) F hr hlocks hS (by decide) rfl hW (Nat.le_of_ble_eq_true rfl) (Nat.le_of_ble_eq_true rfl) dX6_phase_71
    · replace hf := if_f c5 hf
      refine lv_bipush (v := 97) hx hb dX6_phase_20 (by decide) ?_
      refine lv_goto (tgt := 71) hx hb dX6_phase_22 (by decide) ?_
      cases hf
      exact xret_i (ty := .char) F hr hlocks hS (by decide) rfl hW (Nat.le_of_ble_eq_true rfl) (Nat.le_of_ble_eq_true rfl) dX6_phase_71
  · replace hf := if_f c2 hf
    refine lv_iconst (v := 1) hx hb dX6_phase_9 (by decide) ?_
    refine lv_goto (tgt := 14) hx hb dX6_phase_10 (by decide) ?_
    obtain ⟨v13, s14, hc22, hf⟩ := oP_go hf
    refine xcallV (n := 1) F hT hW hS (xm_fix (by decide)) xce_12 rfl (kX6_fails l hl0 G sh sc sr sl 1  _ hc22) (xgV xw_883 xw_885 xwp_14 xw_4 xw_886) rfl xd_X6_fails ⟨Nat.le_of_ble_eq_true rfl, Nat.le_of_ble_eq_true rfl⟩ rfl hl.1 rfl (Nat.le_of_ble_eq_true rfl) dX6_phase_14 ⟨Nat.le_of_ble_eq_true rfl, Nat.le_of_ble_eq_true rfl⟩ (fun v9 H locs hres hW hS => ?_) (fun E9 H locs q9 ce9 hres => by cases hres)
    cases hres
    refine W.eq (g2 := F0 m 17 ls (.int v13 :: [])) rfl ?_
    refine lv_if_eq (tgt := 25) hx hb dX6_phase_17 (by decide) (fun c15 => ?_) (fun c15 => ?_)
    · replace hf := if_t c15 hf
      refine lv_aload_n hx hb dX6_phase_25 rfl (lv_at hl 0 rfl) ?_
      refine xget F hT hW xuX6 (xm_fix (by decide)) xce_12 rfl 9 (by decide) xw_809 rfl rfl dX6_phase_26 ?_
      refine lv_iload_n hx hb dX6_phase_29 rfl (lv_at hl 1 rfl) ?_
      obtain ⟨g21, hf⟩ := oG_go hf
      refine xmald (by decide) F hT hW (xm_fix (by decide)) (by decide) (xinb_ok g21) dX6_phase_30 ?_
      refine lv_if_ne (tgt := 39) hx hb dX6_phase_31 (by decide) (fun c16 => ?_) (fun c16 => ?_)
      · replace hf := if_f c16 hf
        refine lv_aload_n hx hb dX6_phase_39 rfl (lv_at hl 0 rfl) ?_
        refine xget F hT hW xuX6 (xm_fix (by decide)) xce_12 rfl 9 (by decide) xw_809 rfl rfl dX6_phase_40 ?_
        refine lv_iload_n hx hb dX6_phase_43 rfl (lv_at hl 1 rfl) ?_
        obtain ⟨g20, hf⟩ := oG_go hf
        refine xmald (by decide) F hT hW (xm_fix (by decide)) (by decide) (xinb_ok g20) dX6_phase_44 ?_
        refine lv_iconst (v := 1) hx hb dX6_phase_45 (by decide) ?_
        refine lv_icmp_ne (tgt := 54) hx hb dX6_phase_46 (by decide) (fun c17 => ?_) (fun c17 => ?_)
        · replace hf := if_f c17 hf
          refine lv_aload_n hx hb dX6_phase_54 rfl (lv_at hl 0 rfl) ?_
          refine xget F hT hW xuX6 (xm_fix (by decide)) xce_12 rfl 9 (by decide) xw_809 rfl rfl dX6_phase_55 ?_
          refine lv_iload_n hx hb dX6_phase_58 rfl (lv_at hl 1 rfl) ?_
          obtain ⟨g19, hf⟩ := oG_go hf
          refine xmald (by decide) F hT hW (xm_fix (by decide)) (by decide) (xinb_ok g19) dX6_phase_59 ?_
          refine lv_iconst (v := 2) hx hb dX6_phase_60 (by decide) ?_
          refine lv_icmp_ne (tgt := 69) hx hb dX6_phase_61 (by decide) (fun c18 => ?_) (fun c18 => ?_)
          · replace hf := if_f c18 hf
            refine lv_bipush (v := 100) hx hb dX6_phase_69 (by decide) ?_
            cases hf
            exact xret_i (ty := .char) F hr hlocks hS (by decide) rfl hW (Nat.le_of_ble_eq_true rfl) (Nat.le_of_ble_eq_true rfl) dX6_phase_71
          · replace hf := if_t c18 hf
            refine lv_bipush (v := 102) hx hb dX6_phase_64 (by decide) ?_
            refine lv_goto (tgt := 71) hx hb dX6_phase_66 (by decide) ?_
            cases hf
            exact xret_i (ty := .char) F hr hlocks hS (by decide) rfl hW (Nat.le_of_ble_eq_true rfl) (Nat.le_of_ble_eq_true rfl) dX6_phase_71
        · replace hf := if_t c17 hf
          refine lv_bipush (v := 99) hx hb dX6_phase_49 (by decide) ?_
          refine lv_goto (tgt := 71) hx hb dX6_phase_51 (by decide) ?_
          cases hf
          exact xret_i (ty := .char) F hr hlocks hS (by decide) rfl hW (Nat.le_of_ble_eq_true rfl) (Nat.le_of_ble_eq_true rfl) dX6_phase_71
      · replace hf := if_t c16 hf
        refine lv_bipush (v := 45) hx hb dX6_phase_34 (by decide) ?_
        refine lv_goto (tgt := 71) hx hb dX6_phase_36 (by decide) ?_
        cases hf
        exact xret_i (ty := .char) F hr hlocks hS (by decide) rfl hW (Nat.le_of_ble_eq_true rfl) (Nat.le_of_ble_eq_true rfl) dX6_phase_71
    · replace hf := if_f c15 hf
      refine lv_bipush (v := 97) hx hb dX6_phase_20 (by decide) ?_
      refine lv_goto (tgt := 71) hx hb dX6_phase_22 (by decide) ?_
      cases hf
      exact xret_i (ty := .char) F hr hlocks hS (by decide) rfl hW (Nat.le_of_ble_eq_true rfl) (Nat.le_of_ble_eq_true rfl) dX6_phase_71
abbrev rX6_planned : Room := { frames := 3, cells := 0, slots := 0, locals := 70 }
abbrev zX6_planned : List Cond := Cond.code yX6_planned cX6_planned 2 (some .int) :: xB
theorem xd_X6_planned : yX6_planned.cls = RX6 ∧ yX6_planned.cls ≠ "java/lang/invoke/MethodHandle" ∧ yX6_planned.cls ≠ "java/lang/invoke/VarHandle" ∧ (parseMethodDescriptor yX6_planned.desc).map (fun d => d.parameters.length) = some 1 := by decide +kernel
def fX6_planned (a1 : Int32) (sr : xSR) : Option (Int32 × xSR) := oB (fX6_isNoTenant a1 sr) (fun v1 => (if v1 = 0 then oP (fX6_sound  sr) (fun v3 s4 => (if v3 = 0 then oP (fX6_fails 2 s4) (fun v11 s12 => (if v11 = 0 then oG (xinb a1 6) (some ((s12.1 20 a1.toNatClampNeg), s12)) else some (0, s12))) else oP (fX6_fails 0 s4) (fun v6 s7 => (if v6 = 0 then oG (xinb a1 6) (some ((s7.1 20 a1.toNatClampNeg), s7)) else some (0, s7))))) else oP (fX6_fails 1 sr) (fun v17 s18 => (if v17 = 0 then oG (xinb a1 6) (some ((s18.1 20 a1.toNatClampNeg), s18)) else some (0, s18)))))
set_option maxHeartbeats 4000000 in
set_option maxRecDepth 100000 in
theorem kX6_planned (l : Launch) (hl0 : l.stackTraces = false) (G : xG) (sh : xSh) (sc : xSC) (sr : xSR) (sl : xSL) (a1 : Int32) (r : (Int32 × xSR)) (hf : fX6_planned a1 sr = some r) : xMet l yX6_planned zX6_planned rX6_planned G sh sc sr sl ([.ref (sh.1 12 0), .int a1] : List Value) (xvI (.inr r.1)) (xWd G sh sc r.2 sl) := by
  refine xMet_of (cc := cX6_planned) (maxL := 2) (ret := (some .int)) (by decide) (Nat.le_of_ble_eq_true rfl) ?_
  intro p e s m below meth c F hT hW hr hlocks htab ls hl
  have F : CallFix p m c cX6_planned 2 s ([.ref (sh.1 12 0), .int a1] : List Value).toArray xB RX6 := F
  have hx := F.1
  have hb := F.2.1
  have hS : va_S (xA G) s.heap s.heap [] := va_S.rf
  have hl : lv_has ls 2 [(0, .ref (sh.1 12 0)), (1, .int a1)] := hl
  unfold fX6_planned at hf
  refine lv_aload_n hx hb dX6_planned_0 rfl (lv_at hl 0 rfl) ?_
  refine lv_aload_n hx hb dX6_planned_1 rfl (lv_at hl 0 rfl) ?_
  refine lv_iload_n hx hb dX6_planned_2 rfl (lv_at hl 1 rfl) ?_
  obtain ⟨v1, hc22, hf⟩ := oB_go hf
  refine xcallV (n := 1) F hT hW hS (xm_fix (by decide)) xce_12 rfl (kX6_isNoTenant l hl0 G sh sc sr sl a1  _ hc22) (xgV xw_926 xw_928 xwp_20 xw_4 xw_929) rfl xd_X6_isNoTenant ⟨Nat.le_of_ble_eq_true rfl, Nat.le_of_ble_eq_true rfl⟩ rfl hl.1 rfl (Nat.le_of_ble_eq_true rfl) dX6_planned_3 ⟨Nat.le_of_ble_eq_true rfl, Nat.le_of_ble_eq_true rfl⟩ (fun v9 H locs hres hW hS => ?_) (fun E9 H locs q9 ce9 hres => by cases hres)
  cases hres
  refine W.eq (g2 := F0 m 6 ls (.int v1 :: .ref (sh.1 12 0) :: [])) rfl ?_
  refine lv_if_eq (tgt := 13) hx hb dX6_planned_6 (by decide) (fun c2 => ?_) (fun c2 => ?_)
  · replace hf := if_t c2 hf
    refine lv_aload_n hx hb dX6_planned_13 rfl (lv_at hl 0 rfl) ?_
    obtain ⟨v3, s4, hc16, hf⟩ := oP_go hf
    refine xcallV (n := 0) F hT hW hS (xm_fix (by decide)) xce_12 rfl (kX6_sound l hl0 G sh sc sr sl   _ hc16) (xgV xw_1070 xw_1072 xwp_35 xw_4 xw_1073) rfl xd_X6_sound ⟨Nat.le_of_ble_eq_true rfl, Nat.le_of_ble_eq_true rfl⟩ rfl hl.1 rfl (Nat.le_of_ble_eq_true rfl) dX6_planned_14 ⟨Nat.le_of_ble_eq_true rfl, Nat.le_of_ble_eq_true rfl⟩ (fun v9 H locs hres hW hS => ?_) (fun E9 H locs q9 ce9 hres => by cases hres)
    cases hres
    refine W.eq (g2 := F0 m 17 ls (.int v3 :: .ref (sh.1 12 0) :: [])) rfl ?_
    refine lv_if_ne (tgt := 24) hx hb dX6_planned_17 (by decide) (fun c5 => ?_) (fun c5 => ?_)
    · replace hf := if_f c5 hf
      refine lv_iconst (v := 0) hx hb dX6_planned_24 (by decide) ?_
      obtain ⟨v6, s7, hc10, hf⟩ := oP_go hf
      refine xcallV (n := 1) F hT hW hS (xm_fix (by decide)) xce_12 rfl (kX6_fails l hl0 G sh sc s4 sl 0  _ hc10) (xgV xw_883 xw_885 xwp_14 xw_4 xw_886) rfl xd_X6_fails ⟨Nat.le_of_ble_eq_true rfl, Nat.le_of_ble_eq_true rfl⟩ rfl hl.1 rfl (Nat.le_of_ble_eq_true rfl) dX6_planned_25 ⟨Nat.le_of_ble_eq_true rfl, Nat.le_of_ble_eq_true rfl⟩ (fun v9 H locs hres hW hS => ?_) (fun E9 H locs q9 ce9 hres => by cases hres)
      cases hres
      refine W.eq (g2 := F0 m 28 ls (.int v6 :: [])) rfl ?_
      refine lv_if_eq (tgt := 35) hx hb dX6_planned_28 (by decide) (fun c8 => ?_) (fun c8 => ?_)
      · replace hf := if_t c8 hf
        refine lv_aload_n hx hb dX6_planned_35 rfl (lv_at hl 0 rfl) ?_
        refine xget F hT hW xuX6 (xm_fix (by decide)) xce_12 rfl 20 (by decide) xw_820 rfl rfl dX6_planned_36 ?_
        refine lv_iload_n hx hb dX6_planned_39 rfl (lv_at hl 1 rfl) ?_
        obtain ⟨g9, hf⟩ := oG_go hf
        refine xmald (by decide) F hT hW (xm_fix (by decide)) (by decide) (xinb_ok g9) dX6_planned_40 ?_
        cases hf
        exact xret_i (ty := .int) F hr hlocks hS rfl rfl hW (Nat.le_of_ble_eq_true rfl) (Nat.le_of_ble_eq_true rfl) dX6_planned_41
      · replace hf := if_f c8 hf
        refine lv_iconst (v := 0) hx hb dX6_planned_31 (by decide) ?_
        refine lv_goto (tgt := 41) hx hb dX6_planned_32 (by decide) ?_
        cases hf
        exact xret_i (ty := .int) F hr hlocks hS rfl rfl hW (Nat.le_of_ble_eq_true rfl) (Nat.le_of_ble_eq_true rfl) dX6_planned_41
    · replace hf := if_t c5 hf
      refine lv_iconst (v := 2) hx hb dX6_planned_20 (by decide) ?_
      refine lv_goto (tgt := 25) hx hb dX6_planned_21 (by decide) ?_
      obtain ⟨v11, s12, hc15, hf⟩ := oP_go hf
      refine xcallV (n := 1) F hT hW hS (xm_fix (by decide)) xce_12 rfl (kX6_fails l hl0 G sh sc s4 sl 2  _ hc15) (xgV xw_883 xw_885 xwp_14 xw_4 xw_886) rfl xd_X6_fails ⟨Nat.le_of_ble_eq_true rfl, Nat.le_of_ble_eq_true rfl⟩ rfl hl.1 rfl (Nat.le_of_ble_eq_true rfl) dX6_planned_25 ⟨Nat.le_of_ble_eq_true rfl, Nat.le_of_ble_eq_true rfl⟩ (fun v9 H locs hres hW hS => ?_) (fun E9 H locs q9 ce9 hres => by cases hres)
      cases hres
      refine W.eq (g2 := F0 m 28 ls (.int v11 :: [])) rfl ?_
      refine lv_if_eq (tgt := 35) hx hb dX6_planned_28 (by decide) (fun c13 => ?_) (fun c13 => ?_)
      · replace hf := if_t c13 hf
        refine lv_aload_n hx hb dX6_planned_35 rfl (lv_at hl 0 rfl) ?_
        refine xget F hT hW xuX6 (xm_fix (by decide)) xce_12 rfl 20 (by decide) xw_820 rfl rfl dX6_planned_36 ?_
        refine lv_iload_n hx hb dX6_planned_39 rfl (lv_at hl 1 rfl) ?_
        obtain ⟨g14, hf⟩ := oG_go hf
        refine xmald (by decide) F hT hW (xm_fix (by decide)) (by decide) (xinb_ok g14) dX6_planned_40 ?_
        cases hf
        exact xret_i (ty := .int) F hr hlocks hS rfl rfl hW (Nat.le_of_ble_eq_true rfl) (Nat.le_of_ble_eq_true rfl) dX6_planned_41
      · replace hf := if_f c13 hf
        refine lv_iconst (v := 0) hx hb dX6_planned_31 (by decide) ?_
        refine lv_goto (tgt := 41) hx hb dX6_planned_32 (by decide) ?_
        cases hf
        exact xret_i (ty := .int) F hr hlocks hS rfl rfl hW (Nat.le_of_ble_eq_true rfl) (Nat.le_of_ble_eq_true rfl) dX6_planned_41
  · replace hf := if_f c2 hf
    refine lv_iconst (v := 1) hx hb dX6_planned_9 (by decide) ?_
    refine lv_goto (tgt := 25) hx hb dX6_planned_10 (by decide) ?_
    obtain ⟨v17, s18, hc21, hf⟩ := oP_go hf
    refine xcallV (n := 1) F hT hW hS (xm_fix (by decide)) xce_12 rfl (kX6_fails l hl0 G sh sc sr sl 1  _ hc21) (xgV xw_883 xw_885 xwp_14 xw_4 xw_886) rfl xd_X6_fails ⟨Nat.le_of_ble_eq_true rfl, Nat.le_of_ble_eq_true rfl⟩ rfl hl.1 rfl (Nat.le_of_ble_eq_true rfl) dX6_planned_25 ⟨Nat.le_of_ble_eq_true rfl, Nat.le_of_ble_eq_true rfl⟩ (fun v9 H locs hres hW hS => ?_) (fun E9 H locs q9 ce9 hres => by cases hres)
    cases hres
    refine W.eq (g2 := F0 m 28 ls (.int v17 :: [])) rfl ?_
    refine lv_if_eq (tgt := 35) hx hb dX6_planned_28 (by decide) (fun c19 => ?_) (fun c19 => ?_)
    · replace hf := if_t c19 hf
      refine lv_aload_n hx hb dX6_planned_35 rfl (lv_at hl 0 rfl) ?_
      refine xget F hT hW xuX6 (xm_fix (by decide)) xce_12 rfl 20 (by decide) xw_820 rfl rfl dX6_planned_36 ?_
      refine lv_iload_n hx hb dX6_planned_39 rfl (lv_at hl 1 rfl) ?_
      obtain ⟨g20, hf⟩ := oG_go hf
      refine xmald (by decide) F hT hW (xm_fix (by decide)) (by decide) (xinb_ok g20) dX6_planned_40 ?_
      cases hf
      exact xret_i (ty := .int) F hr hlocks hS rfl rfl hW (Nat.le_of_ble_eq_true rfl) (Nat.le_of_ble_eq_true rfl) dX6_planned_41
    · replace hf := if_f c19 hf
      refine lv_iconst (v := 0) hx hb dX6_planned_31 (by decide) ?_
      refine lv_goto (tgt := 41) hx hb dX6_planned_32 (by decide) ?_
      cases hf
      exact xret_i (ty := .int) F hr hlocks hS rfl rfl hW (Nat.le_of_ble_eq_true rfl) (Nat.le_of_ble_eq_true rfl) dX6_planned_41
abbrev rX6_reason : Room := { frames := 6, cells := 0, slots := 0, locals := 137 }
abbrev zX6_reason : List Cond := Cond.code yX6_reason cX6_reason 3 (some .char) :: xB
theorem xd_X6_reason : yX6_reason.cls = RX6 ∧ yX6_reason.cls ≠ "java/lang/invoke/MethodHandle" ∧ yX6_reason.cls ≠ "java/lang/invoke/VarHandle" ∧ (parseMethodDescriptor yX6_reason.desc).map (fun d => d.parameters.length) = some 2 := by decide +kernel
def fX6_reason (a1 : Int32) (a2 : Int32) (sr : xSR) : Option (Int32 × xSR) := oB (fX6_isNoTenant a1 sr) (fun v1 => (if v1 = 0 then oB (fX6_isNoShard a2 sr) (fun v10 => (if v10 = 0 then oP (fX6_fails 0 sr) (fun v12 s13 => (if v12 = 0 then oB (fX6_why a1 a2 s13) (fun v15 => oG (xnb .char v15) (some (v15, s13))) else some (97, s13))) else oP (fX6_fails 1 sr) (fun v19 s20 => (if v19 = 0 then oB (fX6_why a1 a2 s20) (fun v22 => oG (xnb .char v22) (some (v22, s20))) else some (97, s20))))) else oP (fX6_fails 1 sr) (fun v3 s4 => (if v3 = 0 then oB (fX6_why a1 a2 s4) (fun v6 => oG (xnb .char v6) (some (v6, s4))) else some (97, s4)))))
set_option maxHeartbeats 4000000 in
set_option maxRecDepth 100000 in
theorem kX6_reason (l : Launch) (hl0 : l.stackTraces = false) (G : xG) (sh : xSh) (sc : xSC) (sr : xSR) (sl : xSL) (a1 : Int32) (a2 : Int32) (r : (Int32 × xSR)) (hf : fX6_reason a1 a2 sr = some r) : xMet l yX6_reason zX6_reason rX6_reason G sh sc sr sl ([.ref (sh.1 12 0), .int a1, .int a2] : List Value) (xvI (.inr r.1)) (xWd G sh sc r.2 sl) := by
  refine xMet_of (cc := cX6_reason) (maxL := 3) (ret := (some .char)) (by decide) (Nat.le_of_ble_eq_true rfl) ?_
  intro p e s m below meth c F hT hW hr hlocks htab ls hl
  have F : CallFix p m c cX6_reason 3 s ([.ref (sh.1 12 0), .int a1, .int a2] : List Value).toArray xB RX6 := F
  have hx := F.1
  have hb := F.2.1
  have hS : va_S (xA G) s.heap s.heap [] := va_S.rf
  have hl : lv_has ls 3 [(0, .ref (sh.1 12 0)), (1, .int a1), (2, .int a2)] := hl
  unfold fX6_reason at hf
  refine lv_aload_n hx hb dX6_reason_0 rfl (lv_at hl 0 rfl) ?_
  refine lv_aload_n hx hb dX6_reason_1 rfl (lv_at hl 0 rfl) ?_
  refine lv_iload_n hx hb dX6_reason_2 rfl (lv_at hl 1 rfl) ?_
  obtain ⟨v1, hc27, hf⟩ := oB_go hf
  refine xcallV (n := 1) F hT hW hS (xm_fix (by decide)) xce_12 rfl (kX6_isNoTenant l hl0 G sh sc sr sl a1  _ hc27) (xgV xw_926 xw_928 xwp_20 xw_4 xw_929) rfl xd_X6_isNoTenant ⟨Nat.le_of_ble_eq_true rfl, Nat.le_of_ble_eq_true rfl⟩ rfl hl.1 rfl (Nat.le_of_ble_eq_true rfl) dX6_reason_3 ⟨Nat.le_of_ble_eq_true rfl, Nat.le_of_ble_eq_true rfl⟩ (fun v9 H locs hres hW hS => ?_) (fun E9 H locs q9 ce9 hres => by cases hres)
  cases hres
  refine W.eq (g2 := F0 m 6 ls (.int v1 :: .ref (sh.1 12 0) :: [])) rfl ?_
  refine lv_if_ne (tgt := 17) hx hb dX6_reason_6 (by decide) (fun c2 => ?_) (fun c2 => ?_)
  · replace hf := if_f c2 hf
    refine lv_iconst (v := 1) hx hb dX6_reason_17 (by decide) ?_
    refine lv_goto (tgt := 22) hx hb dX6_reason_18 (by decide) ?_
    obtain ⟨v3, s4, hc9, hf⟩ := oP_go hf
    refine xcallV (n := 1) F hT hW hS (xm_fix (by decide)) xce_12 rfl (kX6_fails l hl0 G sh sc sr sl 1  _ hc9) (xgV xw_883 xw_885 xwp_14 xw_4 xw_886) rfl xd_X6_fails ⟨Nat.le_of_ble_eq_true rfl, Nat.le_of_ble_eq_true rfl⟩ rfl hl.1 rfl (Nat.le_of_ble_eq_true rfl) dX6_reason_22 ⟨Nat.le_of_ble_eq_true rfl, Nat.le_of_ble_eq_true rfl⟩ (fun v9 H locs hres hW hS => ?_) (fun E9 H locs q9 ce9 hres => by cases hres)
    cases hres
    refine W.eq (g2 := F0 m 25 ls (.int v3 :: [])) rfl ?_
    refine lv_if_eq (tgt := 33) hx hb dX6_reason_25 (by decide) (fun c5 => ?_) (fun c5 => ?_)
    · replace hf := if_t c5 hf
      refine lv_aload_n hx hb dX6_reason_33 rfl (lv_at hl 0 rfl) ?_
      refine lv_iload_n hx hb dX6_reason_34 rfl (lv_at hl 1 rfl) ?_
      refine lv_iload_n hx hb dX6_reason_35 rfl (lv_at hl 2 rfl) ?_
      obtain ⟨v6, hc8, hf⟩ := oB_go hf
      refine xcallV (n := 2) F hT hW hS (xm_fix (by decide)) xce_12 rfl (kX6_why l hl0 G sh sc s4 sl a1 a2  _ hc8) (xgV xw_946 xw_948 xwp_22 xw_4 xw_949) rfl xd_X6_why ⟨Nat.le_of_ble_eq_true rfl, Nat.le_of_ble_eq_true rfl⟩ rfl hl.1 rfl (Nat.le_of_ble_eq_true rfl) dX6_reason_36 ⟨Nat.le_of_ble_eq_true rfl, Nat.le_of_ble_eq_true rfl⟩ (fun v9 H locs hres hW hS => ?_) (fun E9 H locs q9 ce9 hres => by cases hres)
      cases hres
      refine W.eq (g2 := F0 m 39 ls (.int v6 :: [])) rfl ?_
      obtain ⟨g7, hf⟩ := oG_go hf
      cases hf
      exact xret_i (ty := .char) F hr hlocks hS (xnb_ok g7).1 rfl hW (Nat.le_of_ble_eq_true rfl) (Nat.le_of_ble_eq_true rfl) dX6_reason_39
    · replace hf := if_f c5 hf
      refine lv_bipush (v := 97) hx hb dX6_reason_28 (by decide) ?_
      refine lv_goto (tgt := 39) hx hb dX6_reason_30 (by decide) ?_
      cases hf
      exact xret_i (ty := .char) F hr hlocks hS (by decide) rfl hW (Nat.le_of_ble_eq_true rfl) (Nat.le_of_ble_eq_true rfl) dX6_reason_39
  · replace hf := if_t c2 hf
    refine lv_aload_n hx hb dX6_reason_9 rfl (lv_at hl 0 rfl) ?_
    refine lv_iload_n hx hb dX6_reason_10 rfl (lv_at hl 2 rfl) ?_
    obtain ⟨v10, hc26, hf⟩ := oB_go hf
    refine xcallV (n := 1) F hT hW hS (xm_fix (by decide)) xce_12 rfl (kX6_isNoShard l hl0 G sh sc sr sl a2  _ hc26) (xgV xw_891 xw_893 xwp_15 xw_4 xw_894) rfl xd_X6_isNoShard ⟨Nat.le_of_ble_eq_true rfl, Nat.le_of_ble_eq_true rfl⟩ rfl hl.1 rfl (Nat.le_of_ble_eq_true rfl) dX6_reason_11 ⟨Nat.le_of_ble_eq_true rfl, Nat.le_of_ble_eq_true rfl⟩ (fun v9 H locs hres hW hS => ?_) (fun E9 H locs q9 ce9 hres => by cases hres)
    cases hres
    refine W.eq (g2 := F0 m 14 ls (.int v10 :: .ref (sh.1 12 0) :: [])) rfl ?_
    refine lv_if_eq (tgt := 21) hx hb dX6_reason_14 (by decide) (fun c11 => ?_) (fun c11 => ?_)
    · replace hf := if_t c11 hf
      refine lv_iconst (v := 0) hx hb dX6_reason_21 (by decide) ?_
      obtain ⟨v12, s13, hc18, hf⟩ := oP_go hf
      refine xcallV (n := 1) F hT hW hS (xm_fix (by decide)) xce_12 rfl (kX6_fails l hl0 G sh sc sr sl 0  _ hc18) (xgV xw_883 xw_885 xwp_14 xw_4 xw_886) rfl xd_X6_fails ⟨Nat.le_of_ble_eq_true rfl, Nat.le_of_ble_eq_true rfl⟩ rfl hl.1 rfl (Nat.le_of_ble_eq_true rfl) dX6_reason_22 ⟨Nat.le_of_ble_eq_true rfl, Nat.le_of_ble_eq_true rfl⟩ (fun v9 H locs hres hW hS => ?_) (fun E9 H locs q9 ce9 hres => by cases hres)
      cases hres
      refine W.eq (g2 := F0 m 25 ls (.int v12 :: [])) rfl ?_
      refine lv_if_eq (tgt := 33) hx hb dX6_reason_25 (by decide) (fun c14 => ?_) (fun c14 => ?_)
      · replace hf := if_t c14 hf
        refine lv_aload_n hx hb dX6_reason_33 rfl (lv_at hl 0 rfl) ?_
        refine lv_iload_n hx hb dX6_reason_34 rfl (lv_at hl 1 rfl) ?_
        refine lv_iload_n hx hb dX6_reason_35 rfl (lv_at hl 2 rfl) ?_
        obtain ⟨v15, hc17, hf⟩ := oB_go hf
        refine xcallV (n := 2) F hT hW hS (xm_fix (by decide)) xce_12 rfl (kX6_why l hl0 G sh sc s13 sl a1 a2  _ hc17) (xgV xw_946 xw_948 xwp_22 xw_4 xw_949) rfl xd_X6_why ⟨Nat.le_of_ble_eq_true rfl, Nat.le_of_ble_eq_true rfl⟩ rfl hl.1 rfl (Nat.le_of_ble_eq_true rfl) dX6_reason_36 ⟨Nat.le_of_ble_eq_true rfl, Nat.le_of_ble_eq_true rfl⟩ (fun v9 H locs hres hW hS => ?_) (fun E9 H locs q9 ce9 hres => by cases hres)
        cases hres
        refine W.eq (g2 := F0 m 39 ls (.int v15 :: [])) rfl ?_
        obtain ⟨g16, hf⟩ := oG_go hf
        cases hf
        exact xret_i (ty := .char) F hr hlocks hS (xnb_ok g16).1 rfl hW (Nat.le_of_ble_eq_true rfl) (Nat.le_of_ble_eq_true rfl) dX6_reason_39
      · replace hf := if_f c14 hf
        refine lv_bipush (v := 97) hx hb dX6_reason_28 (by decide) ?_
        refine lv_goto (tgt := 39) hx hb dX6_reason_30 (by decide) ?_
        cases hf
        exact xret_i (ty := .char) F hr hlocks hS (by decide) rfl hW (Nat.le_of_ble_eq_true rfl) (Nat.le_of_ble_eq_true rfl) dX6_reason_39
    · replace hf := if_f c11 hf
      refine lv_iconst (v := 1) hx hb dX6_reason_17 (by decide) ?_
      refine lv_goto (tgt := 22) hx hb dX6_reason_18 (by decide) ?_
      obtain ⟨v19, s20, hc25, hf⟩ := oP_go hf
      refine xcallV (n := 1) F hT hW hS (xm_fix (by decide)) xce_12 rfl (kX6_fails l hl0 G sh sc sr sl 1  _ hc25) (xgV xw_883 xw_885 xwp_14 xw_4 xw_886) rfl xd_X6_fails ⟨Nat.le_of_ble_eq_true rfl, Nat.le_of_ble_eq_true rfl⟩ rfl hl.1 rfl (Nat.le_of_ble_eq_true rfl) dX6_reason_22 ⟨Nat.le_of_ble_eq_true rfl, Nat.le_of_ble_eq_true rfl⟩ (fun v9 H locs hres hW hS => ?_) (fun E9 H locs q9 ce9 hres => by cases hres)
      cases hres
      refine W.eq (g2 := F0 m 25 ls (.int v19 :: [])) rfl ?_
      refine lv_if_eq (tgt := 33) hx hb dX6_reason_25 (by decide) (fun c21 => ?_) (fun c21 => ?_)
      · replace hf := if_t c21 hf
        refine lv_aload_n hx hb dX6_reason_33 rfl (lv_at hl 0 rfl) ?_
        refine lv_iload_n hx hb dX6_reason_34 rfl (lv_at hl 1 rfl) ?_
        refine lv_iload_n hx hb dX6_reason_35 rfl (lv_at hl 2 rfl) ?_
        obtain ⟨v22, hc24, hf⟩ := oB_go hf
        refine xcallV (n := 2) F hT hW hS (xm_fix (by decide)) xce_12 rfl (kX6_why l hl0 G sh sc s20 sl a1 a2  _ hc24) (xgV xw_946 xw_948 xwp_22 xw_4 xw_949) rfl xd_X6_why ⟨Nat.le_of_ble_eq_true rfl, Nat.le_of_ble_eq_true rfl⟩ rfl hl.1 rfl (Nat.le_of_ble_eq_true rfl) dX6_reason_36 ⟨Nat.le_of_ble_eq_true rfl, Nat.le_of_ble_eq_true rfl⟩ (fun v9 H locs hres hW hS => ?_) (fun E9 H locs q9 ce9 hres => by cases hres)
        cases hres
        refine W.eq (g2 := F0 m 39 ls (.int v22 :: [])) rfl ?_
        obtain ⟨g23, hf⟩ := oG_go hf
        cases hf
        exact xret_i (ty := .char) F hr hlocks hS (xnb_ok g23).1 rfl hW (Nat.le_of_ble_eq_true rfl) (Nat.le_of_ble_eq_true rfl) dX6_reason_39
      · replace hf := if_f c21 hf
        refine lv_bipush (v := 97) hx hb dX6_reason_28 (by decide) ?_
        refine lv_goto (tgt := 39) hx hb dX6_reason_30 (by decide) ?_
        cases hf
        exact xret_i (ty := .char) F hr hlocks hS (by decide) rfl hW (Nat.le_of_ble_eq_true rfl) (Nat.le_of_ble_eq_true rfl) dX6_reason_39
abbrev rX6_served : Room := { frames := 2, cells := 0, slots := 0, locals := 43 }
abbrev zX6_served : List Cond := Cond.code yX6_served cX6_served 4 (some .int) :: xB
theorem xd_X6_served : yX6_served.cls = RX6 ∧ yX6_served.cls ≠ "java/lang/invoke/MethodHandle" ∧ yX6_served.cls ≠ "java/lang/invoke/VarHandle" ∧ (parseMethodDescriptor yX6_served.desc).map (fun d => d.parameters.length) = some 1 := by decide +kernel
def fX6_served_K1 (x2L1 : Int32) (x3L1 : Int32) (srL1 : xSR) : Option (Int32 × xSR) := some (x2L1, srL1)
def fX6_served_L1 (a1 : Int32) (k_L1 : Int32 → Int32 → xSR → Option (Int32 × xSR)) : Nat → Int32 → Int32 → xSR → Option (Int32 × xSR)
  | 0, _, _, _ => none
  | n + 1, x2L1, x3L1, srL1 => (if (srL1.1 103 0) ≤ x3L1 then k_L1 x2L1 x3L1 srL1 else oG (xinb x3L1 6) ((if (srL1.1 8 x3L1.toNatClampNeg) = a1 then (fX6_served_L1 a1 k_L1 n) (x2L1 + 1) (x3L1 + 1) srL1 else (fX6_served_L1 a1 k_L1 n) (x2L1 + 0) (x3L1 + 1) srL1)))
def fX6_served_K2 (x2L2 : Int32) (x3L2 : Int32) (srL2 : xSR) : Option (Int32 × xSR) := some (x2L2, srL2)
def fX6_served_L2 (a1 : Int32) (k_L2 : Int32 → Int32 → xSR → Option (Int32 × xSR)) : Nat → Int32 → Int32 → xSR → Option (Int32 × xSR)
  | 0, _, _, _ => none
  | n + 1, x2L2, x3L2, srL2 => (if (srL2.1 103 0) ≤ x3L2 then k_L2 x2L2 x3L2 srL2 else oG (xinb x3L2 6) ((if (srL2.1 8 x3L2.toNatClampNeg) = a1 then (fX6_served_L2 a1 k_L2 n) (x2L2 + 1) (x3L2 + 1) srL2 else (fX6_served_L2 a1 k_L2 n) (x2L2 + 0) (x3L2 + 1) srL2)))
def fX6_served (a1 : Int32) (sr : xSR) : Option (Int32 × xSR) := oB (fX6_isNoShard a1 sr) (fun v1 => (if v1 = 0 then oP (fX6_fails 0 sr) (fun v3 s4 => (if v3 = 0 then fX6_served_L1 a1 (fX6_served_K1) 64 0 0 s4 else some (0, s4))) else oP (fX6_fails 1 sr) (fun v10 s11 => (if v10 = 0 then fX6_served_L2 a1 (fX6_served_K2) 64 0 0 s11 else some (0, s11)))))
set_option maxHeartbeats 4000000 in
set_option maxRecDepth 100000 in
theorem kX6_served (l : Launch) (hl0 : l.stackTraces = false) (G : xG) (sh : xSh) (sc : xSC) (sr : xSR) (sl : xSL) (a1 : Int32) (r : (Int32 × xSR)) (hf : fX6_served a1 sr = some r) : xMet l yX6_served zX6_served rX6_served G sh sc sr sl ([.ref (sh.1 12 0), .int a1] : List Value) (xvI (.inr r.1)) (xWd G sh sc r.2 sl) := by
  refine xMet_of (cc := cX6_served) (maxL := 4) (ret := (some .int)) (by decide) (Nat.le_of_ble_eq_true rfl) ?_
  intro p e s m below meth c F hT hW hr hlocks htab ls hl
  have F : CallFix p m c cX6_served 4 s ([.ref (sh.1 12 0), .int a1] : List Value).toArray xB RX6 := F
  have hx := F.1
  have hb := F.2.1
  have hS : va_S (xA G) s.heap s.heap [] := va_S.rf
  have hl : lv_has ls 4 [(0, .ref (sh.1 12 0)), (1, .int a1)] := hl
  unfold fX6_served at hf
  refine lv_aload_n hx hb dX6_served_0 rfl (lv_at hl 0 rfl) ?_
  refine lv_aload_n hx hb dX6_served_1 rfl (lv_at hl 0 rfl) ?_
  refine lv_iload_n hx hb dX6_served_2 rfl (lv_at hl 1 rfl) ?_
  obtain ⟨v1, hc17, hf⟩ := oB_go hf
  refine xcallV (n := 1) F hT hW hS (xm_fix (by decide)) xce_12 rfl (kX6_isNoShard l hl0 G sh sc sr sl a1  _ hc17) (xgV xw_891 xw_893 xwp_15 xw_4 xw_894) rfl xd_X6_isNoShard ⟨Nat.le_of_ble_eq_true rfl, Nat.le_of_ble_eq_true rfl⟩ rfl hl.1 rfl (Nat.le_of_ble_eq_true rfl) dX6_served_3 ⟨Nat.le_of_ble_eq_true rfl, Nat.le_of_ble_eq_true rfl⟩ (fun v9 H locs hres hW hS => ?_) (fun E9 H locs q9 ce9 hres => by cases hres)
  cases hres
  refine W.eq (g2 := F0 m 6 ls (.int v1 :: .ref (sh.1 12 0) :: [])) rfl ?_
  refine lv_if_eq (tgt := 13) hx hb dX6_served_6 (by decide) (fun c2 => ?_) (fun c2 => ?_)
  · replace hf := if_t c2 hf
    refine lv_iconst (v := 0) hx hb dX6_served_13 (by decide) ?_
    obtain ⟨v3, s4, hc9, hf⟩ := oP_go hf
    refine xcallV (n := 1) F hT hW hS (xm_fix (by decide)) xce_12 rfl (kX6_fails l hl0 G sh sc sr sl 0  _ hc9) (xgV xw_883 xw_885 xwp_14 xw_4 xw_886) rfl xd_X6_fails ⟨Nat.le_of_ble_eq_true rfl, Nat.le_of_ble_eq_true rfl⟩ rfl hl.1 rfl (Nat.le_of_ble_eq_true rfl) dX6_served_14 ⟨Nat.le_of_ble_eq_true rfl, Nat.le_of_ble_eq_true rfl⟩ (fun v9 H locs hres hW hS => ?_) (fun E9 H locs q9 ce9 hres => by cases hres)
    cases hres
    refine W.eq (g2 := F0 m 17 ls (.int v3 :: [])) rfl ?_
    refine lv_if_eq (tgt := 22) hx hb dX6_served_17 (by decide) (fun c5 => ?_) (fun c5 => ?_)
    · replace hf := if_t c5 hf
      refine lv_iconst (v := 0) hx hb dX6_served_22 (by decide) ?_
      refine lv_istore_n (lv' := [(2, .int 0), (0, .ref (sh.1 12 0)), (1, .int a1)]) hx hb dX6_served_23 rfl hl (by decide) rfl (fun ls hl => ?_)
      refine lv_iconst (v := 0) hx hb dX6_served_24 (by decide) ?_
      refine lv_istore_n (lv' := [(3, .int 0), (2, .int 0), (0, .ref (sh.1 12 0)), (1, .int a1)]) hx hb dX6_served_25 rfl hl (by decide) rfl (fun ls hl => ?_)
      have hx_L1 : ∀ (x2L1 : Int32) (x3L1 : Int32) (srL1 : xSR), fX6_served_K1 x2L1 x3L1 srL1 = some r → ∀ (H : Heap) (locs : List Loc), xWd G sh sc srL1 sl H → va_S (xA G) s.heap H locs → ∀ ls : Array Slot, lv_has ls 4 [(2, .int x2L1)] → W p l e rX6_served s m ([.ref (sh.1 12 0), .int a1] : List Value).toArray below meth c H locs 0 0 (xQ below G (xvI (.inr r.1)) (xWd G sh sc r.2 sl) ([.ref (sh.1 12 0), .int a1] : List Value).toArray s 0 0) (F0 m 58 ls []) := by
        intro x2L1 x3L1 srL1 hf H locs hW hS ls hl
        unfold fX6_served_K1 at hf
        refine lv_iload_n hx hb dX6_served_58 rfl (lv_at hl 0 rfl) ?_
        cases hf
        exact xret_i (ty := .int) F hr hlocks hS rfl rfl hW (Nat.le_of_ble_eq_true rfl) (Nat.le_of_ble_eq_true rfl) dX6_served_59
      have hL_L1 : ∀ (n9 : Nat) (x2L1 : Int32) (x3L1 : Int32) (srL1 : xSR), fX6_served_L1 a1 (fX6_served_K1) n9 x2L1 x3L1 srL1 = some r → ∀ (H : Heap) (locs : List Loc), xWd G sh sc srL1 sl H → va_S (xA G) s.heap H locs → ∀ ls : Array Slot, lv_has ls 4 [(0, .ref (sh.1 12 0)), (1, .int a1), (2, .int x2L1), (3, .int x3L1)] → W p l e rX6_served s m ([.ref (sh.1 12 0), .int a1] : List Value).toArray below meth c H locs 0 0 (xQ below G (xvI (.inr r.1)) (xWd G sh sc r.2 sl) ([.ref (sh.1 12 0), .int a1] : List Value).toArray s 0 0) (F0 m 26 ls []) := by
        intro n_L1
        induction n_L1 with
        | zero =>
          intro x2L1 x3L1 srL1 hf
          unfold fX6_served_L1 at hf
          cases hf
        | succ n_L1 ih_L1 =>
          intro x2L1 x3L1 srL1 hf H locs hW hS ls hl
          unfold fX6_served_L1 at hf
          refine lv_iload_n hx hb dX6_served_26 rfl (lv_at hl 3 rfl) ?_
          refine lv_aload_n hx hb dX6_served_27 rfl (lv_at hl 0 rfl) ?_
          refine xget F hT hW xuX6 (xm_fix (by decide)) xce_12 rfl 3 (by decide) xw_803 rfl rfl dX6_served_28 ?_
          refine lv_icmp_ge (tgt := 58) hx hb dX6_served_31 (by decide) (fun c6 => ?_) (fun c6 => ?_)
          · replace hf := if_t c6 hf
            exact hx_L1 _ _ _ hf _ _ hW hS ls (lv_sub hl [2] rfl)
          · replace hf := if_f c6 hf
            refine lv_iload_n hx hb dX6_served_34 rfl (lv_at hl 2 rfl) ?_
            refine lv_aload_n hx hb dX6_served_35 rfl (lv_at hl 0 rfl) ?_
            refine xget F hT hW xuX6 (xm_fix (by decide)) xce_12 rfl 8 (by decide) xw_808 rfl rfl dX6_served_36 ?_
            refine lv_iload_n hx hb dX6_served_39 rfl (lv_at hl 3 rfl) ?_
            obtain ⟨g8, hf⟩ := oG_go hf
            refine xmald (by decide) F hT hW (xm_fix (by decide)) (by decide) (xinb_ok g8) dX6_served_40 ?_
            refine lv_iload_n hx hb dX6_served_41 rfl (lv_at hl 1 rfl) ?_
            refine lv_icmp_ne (tgt := 49) hx hb dX6_served_42 (by decide) (fun c7 => ?_) (fun c7 => ?_)
            · replace hf := if_f c7 hf
              refine lv_iconst (v := 0) hx hb dX6_served_49 (by decide) ?_
              refine lv_iadd hx hb dX6_served_50 ?_
              refine lv_istore_n (lv' := [(2, .int (x2L1 + 0)), (0, .ref (sh.1 12 0)), (1, .int a1), (3, .int x3L1)]) hx hb dX6_served_51 rfl hl (by decide) rfl (fun ls hl => ?_)
              refine lv_iinc (v := (x3L1 + 1)) (lv' := [(3, .int (x3L1 + 1)), (2, .int (x2L1 + 0)), (0, .ref (sh.1 12 0)), (1, .int a1)]) hx hb dX6_served_52 hl (k := 3) rfl rfl (by decide) rfl (fun ls hl => ?_)
              refine lv_goto (tgt := 26) hx hb dX6_served_55 (by decide) ?_
              exact ih_L1 _ _ _ hf _ _ hW hS ls (lv_sub hl [2, 3, 1, 0] rfl)
            · replace hf := if_t c7 hf
              refine lv_iconst (v := 1) hx hb dX6_served_45 (by decide) ?_
              refine lv_goto (tgt := 50) hx hb dX6_served_46 (by decide) ?_
              refine lv_iadd hx hb dX6_served_50 ?_
              refine lv_istore_n (lv' := [(2, .int (x2L1 + 1)), (0, .ref (sh.1 12 0)), (1, .int a1), (3, .int x3L1)]) hx hb dX6_served_51 rfl hl (by decide) rfl (fun ls hl => ?_)
              refine lv_iinc (v := (x3L1 + 1)) (lv' := [(3, .int (x3L1 + 1)), (2, .int (x2L1 + 1)), (0, .ref (sh.1 12 0)), (1, .int a1)]) hx hb dX6_served_52 hl (k := 3) rfl rfl (by decide) rfl (fun ls hl => ?_)
              refine lv_goto (tgt := 26) hx hb dX6_served_55 (by decide) ?_
              exact ih_L1 _ _ _ hf _ _ hW hS ls (lv_sub hl [2, 3, 1, 0] rfl)
      exact hL_L1 _ _ _ _ hf _ _ hW hS ls (lv_sub hl [2, 3, 1, 0] rfl)
    · replace hf := if_f c5 hf
      refine lv_iconst (v := 0) hx hb dX6_served_20 (by decide) ?_
      cases hf
      exact xret_i (ty := .int) F hr hlocks hS rfl rfl hW (Nat.le_of_ble_eq_true rfl) (Nat.le_of_ble_eq_true rfl) dX6_served_21
  · replace hf := if_f c2 hf
    refine lv_iconst (v := 1) hx hb dX6_served_9 (by decide) ?_
    refine lv_goto (tgt := 14) hx hb dX6_served_10 (by decide) ?_
    obtain ⟨v10, s11, hc16, hf⟩ := oP_go hf
    refine xcallV (n := 1) F hT hW hS (xm_fix (by decide)) xce_12 rfl (kX6_fails l hl0 G sh sc sr sl 1  _ hc16) (xgV xw_883 xw_885 xwp_14 xw_4 xw_886) rfl xd_X6_fails ⟨Nat.le_of_ble_eq_true rfl, Nat.le_of_ble_eq_true rfl⟩ rfl hl.1 rfl (Nat.le_of_ble_eq_true rfl) dX6_served_14 ⟨Nat.le_of_ble_eq_true rfl, Nat.le_of_ble_eq_true rfl⟩ (fun v9 H locs hres hW hS => ?_) (fun E9 H locs q9 ce9 hres => by cases hres)
    cases hres
    refine W.eq (g2 := F0 m 17 ls (.int v10 :: [])) rfl ?_
    refine lv_if_eq (tgt := 22) hx hb dX6_served_17 (by decide) (fun c12 => ?_) (fun c12 => ?_)
    · replace hf := if_t c12 hf
      refine lv_iconst (v := 0) hx hb dX6_served_22 (by decide) ?_
      refine lv_istore_n (lv' := [(2, .int 0), (0, .ref (sh.1 12 0)), (1, .int a1)]) hx hb dX6_served_23 rfl hl (by decide) rfl (fun ls hl => ?_)
      refine lv_iconst (v := 0) hx hb dX6_served_24 (by decide) ?_
      refine lv_istore_n (lv' := [(3, .int 0), (2, .int 0), (0, .ref (sh.1 12 0)), (1, .int a1)]) hx hb dX6_served_25 rfl hl (by decide) rfl (fun ls hl => ?_)
      have hx_L2 : ∀ (x2L2 : Int32) (x3L2 : Int32) (srL2 : xSR), fX6_served_K2 x2L2 x3L2 srL2 = some r → ∀ (H : Heap) (locs : List Loc), xWd G sh sc srL2 sl H → va_S (xA G) s.heap H locs → ∀ ls : Array Slot, lv_has ls 4 [(2, .int x2L2)] → W p l e rX6_served s m ([.ref (sh.1 12 0), .int a1] : List Value).toArray below meth c H locs 0 0 (xQ below G (xvI (.inr r.1)) (xWd G sh sc r.2 sl) ([.ref (sh.1 12 0), .int a1] : List Value).toArray s 0 0) (F0 m 58 ls []) := by
        intro x2L2 x3L2 srL2 hf H locs hW hS ls hl
        unfold fX6_served_K2 at hf
        refine lv_iload_n hx hb dX6_served_58 rfl (lv_at hl 0 rfl) ?_
        cases hf
        exact xret_i (ty := .int) F hr hlocks hS rfl rfl hW (Nat.le_of_ble_eq_true rfl) (Nat.le_of_ble_eq_true rfl) dX6_served_59
      have hL_L2 : ∀ (n9 : Nat) (x2L2 : Int32) (x3L2 : Int32) (srL2 : xSR), fX6_served_L2 a1 (fX6_served_K2) n9 x2L2 x3L2 srL2 = some r → ∀ (H : Heap) (locs : List Loc), xWd G sh sc srL2 sl H → va_S (xA G) s.heap H locs → ∀ ls : Array Slot, lv_has ls 4 [(0, .ref (sh.1 12 0)), (1, .int a1), (2, .int x2L2), (3, .int x3L2)] → W p l e rX6_served s m ([.ref (sh.1 12 0), .int a1] : List Value).toArray below meth c H locs 0 0 (xQ below G (xvI (.inr r.1)) (xWd G sh sc r.2 sl) ([.ref (sh.1 12 0), .int a1] : List Value).toArray s 0 0) (F0 m 26 ls []) := by
        intro n_L2
        induction n_L2 with
        | zero =>
          intro x2L2 x3L2 srL2 hf
          unfold fX6_served_L2 at hf
          cases hf
        | succ n_L2 ih_L2 =>
          intro x2L2 x3L2 srL2 hf H locs hW hS ls hl
          unfold fX6_served_L2 at hf
          refine lv_iload_n hx hb dX6_served_26 rfl (lv_at hl 3 rfl) ?_
          refine lv_aload_n hx hb dX6_served_27 rfl (lv_at hl 0 rfl) ?_
          refine xget F hT hW xuX6 (xm_fix (by decide)) xce_12 rfl 3 (by decide) xw_803 rfl rfl dX6_served_28 ?_
          refine lv_icmp_ge (tgt := 58) hx hb dX6_served_31 (by decide) (fun c13 => ?_) (fun c13 => ?_)
          · replace hf := if_t c13 hf
            exact hx_L2 _ _ _ hf _ _ hW hS ls (lv_sub hl [2] rfl)
          · replace hf := if_f c13 hf
            refine lv_iload_n hx hb dX6_served_34 rfl (lv_at hl 2 rfl) ?_
            refine lv_aload_n hx hb dX6_served_35 rfl (lv_at hl 0 rfl) ?_
            refine xget F hT hW xuX6 (xm_fix (by decide)) xce_12 rfl 8 (by decide) xw_808 rfl rfl dX6_served_36 ?_
            refine lv_iload_n hx hb dX6_served_39 rfl (lv_at hl 3 rfl) ?_
            obtain ⟨g15, hf⟩ := oG_go hf
            refine xmald (by decide) F hT hW (xm_fix (by decide)) (by decide) (xinb_ok g15) dX6_served_40 ?_
            refine lv_iload_n hx hb dX6_served_41 rfl (lv_at hl 1 rfl) ?_
            refine lv_icmp_ne (tgt := 49) hx hb dX6_served_42 (by decide) (fun c14 => ?_) (fun c14 => ?_)
            · replace hf := if_f c14 hf
              refine lv_iconst (v := 0) hx hb dX6_served_49 (by decide) ?_
              refine lv_iadd hx hb dX6_served_50 ?_
              refine lv_istore_n (lv' := [(2, .int (x2L2 + 0)), (0, .ref (sh.1 12 0)), (1, .int a1), (3, .int x3L2)]) hx hb dX6_served_51 rfl hl (by decide) rfl (fun ls hl => ?_)
              refine lv_iinc (v := (x3L2 + 1)) (lv' := [(3, .int (x3L2 + 1)), (2, .int (x2L2 + 0)), (0, .ref (sh.1 12 0)), (1, .int a1)]) hx hb dX6_served_52 hl (k := 3) rfl rfl (by decide) rfl (fun ls hl => ?_)
              refine lv_goto (tgt := 26) hx hb dX6_served_55 (by decide) ?_
              exact ih_L2 _ _ _ hf _ _ hW hS ls (lv_sub hl [2, 3, 1, 0] rfl)
            · replace hf := if_t c14 hf
              refine lv_iconst (v := 1) hx hb dX6_served_45 (by decide) ?_
              refine lv_goto (tgt := 50) hx hb dX6_served_46 (by decide) ?_
              refine lv_iadd hx hb dX6_served_50 ?_
              refine lv_istore_n (lv' := [(2, .int (x2L2 + 1)), (0, .ref (sh.1 12 0)), (1, .int a1), (3, .int x3L2)]) hx hb dX6_served_51 rfl hl (by decide) rfl (fun ls hl => ?_)
              refine lv_iinc (v := (x3L2 + 1)) (lv' := [(3, .int (x3L2 + 1)), (2, .int (x2L2 + 1)), (0, .ref (sh.1 12 0)), (1, .int a1)]) hx hb dX6_served_52 hl (k := 3) rfl rfl (by decide) rfl (fun ls hl => ?_)
              refine lv_goto (tgt := 26) hx hb dX6_served_55 (by decide) ?_
              exact ih_L2 _ _ _ hf _ _ hW hS ls (lv_sub hl [2, 3, 1, 0] rfl)
      exact hL_L2 _ _ _ _ hf _ _ hW hS ls (lv_sub hl [2, 3, 1, 0] rfl)
    · replace hf := if_f c12 hf
      refine lv_iconst (v := 0) hx hb dX6_served_20 (by decide) ?_
      cases hf
      exact xret_i (ty := .int) F hr hlocks hS rfl rfl hW (Nat.le_of_ble_eq_true rfl) (Nat.le_of_ble_eq_true rfl) dX6_served_21
abbrev rX6_servedBy : Room := { frames := 2, cells := 0, slots := 0, locals := 43 }
abbrev zX6_servedBy : List Cond := Cond.code yX6_servedBy cX6_servedBy 2 (some .int) :: xB
theorem xd_X6_servedBy : yX6_servedBy.cls = RX6 ∧ yX6_servedBy.cls ≠ "java/lang/invoke/MethodHandle" ∧ yX6_servedBy.cls ≠ "java/lang/invoke/VarHandle" ∧ (parseMethodDescriptor yX6_servedBy.desc).map (fun d => d.parameters.length) = some 1 := by decide +kernel
def fX6_servedBy (a1 : Int32) (sr : xSR) : Option (Int32 × xSR) := oB (fX6_isNoTenant a1 sr) (fun v1 => (if v1 = 0 then oP (fX6_fails 0 sr) (fun v3 s4 => (if v3 = 0 then oG (xinb a1 6) (some ((s4.1 8 a1.toNatClampNeg), s4)) else some (0, s4))) else oP (fX6_fails 1 sr) (fun v8 s9 => (if v8 = 0 then oG (xinb a1 6) (some ((s9.1 8 a1.toNatClampNeg), s9)) else some (0, s9)))))
set_option maxHeartbeats 4000000 in
set_option maxRecDepth 100000 in
theorem kX6_servedBy (l : Launch) (hl0 : l.stackTraces = false) (G : xG) (sh : xSh) (sc : xSC) (sr : xSR) (sl : xSL) (a1 : Int32) (r : (Int32 × xSR)) (hf : fX6_servedBy a1 sr = some r) : xMet l yX6_servedBy zX6_servedBy rX6_servedBy G sh sc sr sl ([.ref (sh.1 12 0), .int a1] : List Value) (xvI (.inr r.1)) (xWd G sh sc r.2 sl) := by
  refine xMet_of (cc := cX6_servedBy) (maxL := 2) (ret := (some .int)) (by decide) (Nat.le_of_ble_eq_true rfl) ?_
  intro p e s m below meth c F hT hW hr hlocks htab ls hl
  have F : CallFix p m c cX6_servedBy 2 s ([.ref (sh.1 12 0), .int a1] : List Value).toArray xB RX6 := F
  have hx := F.1
  have hb := F.2.1
  have hS : va_S (xA G) s.heap s.heap [] := va_S.rf
  have hl : lv_has ls 2 [(0, .ref (sh.1 12 0)), (1, .int a1)] := hl
  unfold fX6_servedBy at hf
  refine lv_aload_n hx hb dX6_servedBy_0 rfl (lv_at hl 0 rfl) ?_
  refine lv_aload_n hx hb dX6_servedBy_1 rfl (lv_at hl 0 rfl) ?_
  refine lv_iload_n hx hb dX6_servedBy_2 rfl (lv_at hl 1 rfl) ?_
  obtain ⟨v1, hc13, hf⟩ := oB_go hf
  refine xcallV (n := 1) F hT hW hS (xm_fix (by decide)) xce_12 rfl (kX6_isNoTenant l hl0 G sh sc sr sl a1  _ hc13) (xgV xw_926 xw_928 xwp_20 xw_4 xw_929) rfl xd_X6_isNoTenant ⟨Nat.le_of_ble_eq_true rfl, Nat.le_of_ble_eq_true rfl⟩ rfl hl.1 rfl (Nat.le_of_ble_eq_true rfl) dX6_servedBy_3 ⟨Nat.le_of_ble_eq_true rfl, Nat.le_of_ble_eq_true rfl⟩ (fun v9 H locs hres hW hS => ?_) (fun E9 H locs q9 ce9 hres => by cases hres)
  cases hres
  refine W.eq (g2 := F0 m 6 ls (.int v1 :: .ref (sh.1 12 0) :: [])) rfl ?_
  refine lv_if_eq (tgt := 13) hx hb dX6_servedBy_6 (by decide) (fun c2 => ?_) (fun c2 => ?_)
  · replace hf := if_t c2 hf
    refine lv_iconst (v := 0) hx hb dX6_servedBy_13 (by decide) ?_
    obtain ⟨v3, s4, hc7, hf⟩ := oP_go hf
    refine xcallV (n := 1) F hT hW hS (xm_fix (by decide)) xce_12 rfl (kX6_fails l hl0 G sh sc sr sl 0  _ hc7) (xgV xw_883 xw_885 xwp_14 xw_4 xw_886) rfl xd_X6_fails ⟨Nat.le_of_ble_eq_true rfl, Nat.le_of_ble_eq_true rfl⟩ rfl hl.1 rfl (Nat.le_of_ble_eq_true rfl) dX6_servedBy_14 ⟨Nat.le_of_ble_eq_true rfl, Nat.le_of_ble_eq_true rfl⟩ (fun v9 H locs hres hW hS => ?_) (fun E9 H locs q9 ce9 hres => by cases hres)
    cases hres
    refine W.eq (g2 := F0 m 17 ls (.int v3 :: [])) rfl ?_
    refine lv_if_eq (tgt := 24) hx hb dX6_servedBy_17 (by decide) (fun c5 => ?_) (fun c5 => ?_)
    · replace hf := if_t c5 hf
      refine lv_aload_n hx hb dX6_servedBy_24 rfl (lv_at hl 0 rfl) ?_
      refine xget F hT hW xuX6 (xm_fix (by decide)) xce_12 rfl 8 (by decide) xw_808 rfl rfl dX6_servedBy_25 ?_
      refine lv_iload_n hx hb dX6_servedBy_28 rfl (lv_at hl 1 rfl) ?_
      obtain ⟨g6, hf⟩ := oG_go hf
      refine xmald (by decide) F hT hW (xm_fix (by decide)) (by decide) (xinb_ok g6) dX6_servedBy_29 ?_
      cases hf
      exact xret_i (ty := .int) F hr hlocks hS rfl rfl hW (Nat.le_of_ble_eq_true rfl) (Nat.le_of_ble_eq_true rfl) dX6_servedBy_30
    · replace hf := if_f c5 hf
      refine lv_iconst (v := 0) hx hb dX6_servedBy_20 (by decide) ?_
      refine lv_goto (tgt := 30) hx hb dX6_servedBy_21 (by decide) ?_
      cases hf
      exact xret_i (ty := .int) F hr hlocks hS rfl rfl hW (Nat.le_of_ble_eq_true rfl) (Nat.le_of_ble_eq_true rfl) dX6_servedBy_30
  · replace hf := if_f c2 hf
    refine lv_iconst (v := 1) hx hb dX6_servedBy_9 (by decide) ?_
    refine lv_goto (tgt := 14) hx hb dX6_servedBy_10 (by decide) ?_
    obtain ⟨v8, s9, hc12, hf⟩ := oP_go hf
    refine xcallV (n := 1) F hT hW hS (xm_fix (by decide)) xce_12 rfl (kX6_fails l hl0 G sh sc sr sl 1  _ hc12) (xgV xw_883 xw_885 xwp_14 xw_4 xw_886) rfl xd_X6_fails ⟨Nat.le_of_ble_eq_true rfl, Nat.le_of_ble_eq_true rfl⟩ rfl hl.1 rfl (Nat.le_of_ble_eq_true rfl) dX6_servedBy_14 ⟨Nat.le_of_ble_eq_true rfl, Nat.le_of_ble_eq_true rfl⟩ (fun v9 H locs hres hW hS => ?_) (fun E9 H locs q9 ce9 hres => by cases hres)
    cases hres
    refine W.eq (g2 := F0 m 17 ls (.int v8 :: [])) rfl ?_
    refine lv_if_eq (tgt := 24) hx hb dX6_servedBy_17 (by decide) (fun c10 => ?_) (fun c10 => ?_)
    · replace hf := if_t c10 hf
      refine lv_aload_n hx hb dX6_servedBy_24 rfl (lv_at hl 0 rfl) ?_
      refine xget F hT hW xuX6 (xm_fix (by decide)) xce_12 rfl 8 (by decide) xw_808 rfl rfl dX6_servedBy_25 ?_
      refine lv_iload_n hx hb dX6_servedBy_28 rfl (lv_at hl 1 rfl) ?_
      obtain ⟨g11, hf⟩ := oG_go hf
      refine xmald (by decide) F hT hW (xm_fix (by decide)) (by decide) (xinb_ok g11) dX6_servedBy_29 ?_
      cases hf
      exact xret_i (ty := .int) F hr hlocks hS rfl rfl hW (Nat.le_of_ble_eq_true rfl) (Nat.le_of_ble_eq_true rfl) dX6_servedBy_30
    · replace hf := if_f c10 hf
      refine lv_iconst (v := 0) hx hb dX6_servedBy_20 (by decide) ?_
      refine lv_goto (tgt := 30) hx hb dX6_servedBy_21 (by decide) ?_
      cases hf
      exact xret_i (ty := .int) F hr hlocks hS rfl rfl hW (Nat.le_of_ble_eq_true rfl) (Nat.le_of_ble_eq_true rfl) dX6_servedBy_30
abbrev rX6_setLimit : Room := { frames := 2, cells := 0, slots := 0, locals := 43 }
abbrev zX6_setLimit : List Cond := Cond.code yX6_setLimit cX6_setLimit 5 (some .int) :: xB
theorem xd_X6_setLimit : yX6_setLimit.cls = RX6 ∧ yX6_setLimit.cls ≠ "java/lang/invoke/MethodHandle" ∧ yX6_setLimit.cls ≠ "java/lang/invoke/VarHandle" ∧ (parseMethodDescriptor yX6_setLimit.desc).map (fun d => d.parameters.length) = some 3 := by decide +kernel
def fX6_setLimit (a1 : Int32) (a2 : Int32) (a3 : Int32) (sr : xSR) : Option (Int32 × xSR) := oB (fX6_isNoShard a1 sr) (fun v1 => (if v1 = 0 then oB (fX6_isMeasure a2 sr) (fun v9 => (if v9 = 0 then oP (fX6_fails 1 sr) (fun v26 s27 => (if v26 = 0 then oG (xinb ((3 * a1) + a2) 12) (oG (xinb ((3 * a1) + a2) 12) (some ((s27.1 1 ((3 * a1) + a2).toNatClampNeg), (xuR s27.1 1 ((3 * a1) + a2).toNatClampNeg a3, s27.2)))) else some (0, s27))) else oB (fX6_in a3 1 300 sr) (fun v11 => (if v11 = 0 then oP (fX6_fails 2 sr) (fun v13 s14 => (if v13 = 0 then oG (xinb ((3 * a1) + a2) 12) (oG (xinb ((3 * a1) + a2) 12) (some ((s14.1 1 ((3 * a1) + a2).toNatClampNeg), (xuR s14.1 1 ((3 * a1) + a2).toNatClampNeg a3, s14.2)))) else some (0, s14))) else oP (fX6_fails 0 sr) (fun v19 s20 => (if v19 = 0 then oG (xinb ((3 * a1) + a2) 12) (oG (xinb ((3 * a1) + a2) 12) (some ((s20.1 1 ((3 * a1) + a2).toNatClampNeg), (xuR s20.1 1 ((3 * a1) + a2).toNatClampNeg a3, s20.2)))) else some (0, s20))))))) else oP (fX6_fails 1 sr) (fun v3 s4 => (if v3 = 0 then oG (xinb ((3 * a1) + a2) 12) (oG (xinb ((3 * a1) + a2) 12) (some ((s4.1 1 ((3 * a1) + a2).toNatClampNeg), (xuR s4.1 1 ((3 * a1) + a2).toNatClampNeg a3, s4.2)))) else some (0, s4)))))
set_option maxHeartbeats 4000000 in
set_option maxRecDepth 100000 in
theorem kX6_setLimit (l : Launch) (hl0 : l.stackTraces = false) (G : xG) (sh : xSh) (sc : xSC) (sr : xSR) (sl : xSL) (a1 : Int32) (a2 : Int32) (a3 : Int32) (r : (Int32 × xSR)) (hf : fX6_setLimit a1 a2 a3 sr = some r) : xMet l yX6_setLimit zX6_setLimit rX6_setLimit G sh sc sr sl ([.ref (sh.1 12 0), .int a1, .int a2, .int a3] : List Value) (xvI (.inr r.1)) (xWd G sh sc r.2 sl) := by
  refine xMet_of (cc := cX6_setLimit) (maxL := 5) (ret := (some .int)) (by decide) (Nat.le_of_ble_eq_true rfl) ?_
  intro p e s m below meth c F hT hW hr hlocks htab ls hl
  have F : CallFix p m c cX6_setLimit 5 s ([.ref (sh.1 12 0), .int a1, .int a2, .int a3] : List Value).toArray xB RX6 := F
  have hx := F.1
  have hb := F.2.1
  have hS : va_S (xA G) s.heap s.heap [] := va_S.rf
  have hl : lv_has ls 5 [(0, .ref (sh.1 12 0)), (1, .int a1), (2, .int a2), (3, .int a3)] := hl
  unfold fX6_setLimit at hf
  refine lv_aload_n hx hb dX6_setLimit_0 rfl (lv_at hl 0 rfl) ?_
  refine lv_aload_n hx hb dX6_setLimit_1 rfl (lv_at hl 0 rfl) ?_
  refine lv_iload_n hx hb dX6_setLimit_2 rfl (lv_at hl 1 rfl) ?_
  obtain ⟨v1, hc33, hf⟩ := oB_go hf
  refine xcallV (n := 1) F hT hW hS (xm_fix (by decide)) xce_12 rfl (kX6_isNoShard l hl0 G sh sc sr sl a1  _ hc33) (xgV xw_891 xw_893 xwp_15 xw_4 xw_894) rfl xd_X6_isNoShard ⟨Nat.le_of_ble_eq_true rfl, Nat.le_of_ble_eq_true rfl⟩ rfl hl.1 rfl (Nat.le_of_ble_eq_true rfl) dX6_setLimit_3 ⟨Nat.le_of_ble_eq_true rfl, Nat.le_of_ble_eq_true rfl⟩ (fun v9 H locs hres hW hS => ?_) (fun E9 H locs q9 ce9 hres => by cases hres)
  cases hres
  refine W.eq (g2 := F0 m 6 ls (.int v1 :: .ref (sh.1 12 0) :: [])) rfl ?_
  refine lv_if_ne (tgt := 16) hx hb dX6_setLimit_6 (by decide) (fun c2 => ?_) (fun c2 => ?_)
  · replace hf := if_f c2 hf
    refine lv_iconst (v := 1) hx hb dX6_setLimit_16 (by decide) ?_
    refine lv_goto (tgt := 36) hx hb dX6_setLimit_17 (by decide) ?_
    obtain ⟨v3, s4, hc8, hf⟩ := oP_go hf
    refine xcallV (n := 1) F hT hW hS (xm_fix (by decide)) xce_12 rfl (kX6_fails l hl0 G sh sc sr sl 1  _ hc8) (xgV xw_883 xw_885 xwp_14 xw_4 xw_886) rfl xd_X6_fails ⟨Nat.le_of_ble_eq_true rfl, Nat.le_of_ble_eq_true rfl⟩ rfl hl.1 rfl (Nat.le_of_ble_eq_true rfl) dX6_setLimit_36 ⟨Nat.le_of_ble_eq_true rfl, Nat.le_of_ble_eq_true rfl⟩ (fun v9 H locs hres hW hS => ?_) (fun E9 H locs q9 ce9 hres => by cases hres)
    cases hres
    refine W.eq (g2 := F0 m 39 ls (.int v3 :: [])) rfl ?_
    refine lv_if_eq (tgt := 44) hx hb dX6_setLimit_39 (by decide) (fun c5 => ?_) (fun c5 => ?_)
    · replace hf := if_t c5 hf
      refine lv_aload_n hx hb dX6_setLimit_44 rfl (lv_at hl 0 rfl) ?_
      refine xget F hT hW xuX6 (xm_fix (by decide)) xce_12 rfl 1 (by decide) xw_801 rfl rfl dX6_setLimit_45 ?_
      refine lv_iconst (v := 3) hx hb dX6_setLimit_48 (by decide) ?_
      refine lv_iload_n hx hb dX6_setLimit_49 rfl (lv_at hl 1 rfl) ?_
      refine lv_imul hx hb dX6_setLimit_50 ?_
      refine lv_iload_n hx hb dX6_setLimit_51 rfl (lv_at hl 2 rfl) ?_
      refine lv_iadd hx hb dX6_setLimit_52 ?_
      obtain ⟨g7, hf⟩ := oG_go hf
      refine xmald (by decide) F hT hW (xm_fix (by decide)) (by decide) (xinb_ok g7) dX6_setLimit_53 ?_
      refine lv_istore (lv' := [(4, .int (s4.1 1 ((3 * a1) + a2).toNatClampNeg)), (0, .ref (sh.1 12 0)), (1, .int a1), (2, .int a2), (3, .int a3)]) hx hb dX6_setLimit_54 hl (by decide) rfl (fun ls hl => ?_)
      refine lv_aload_n hx hb dX6_setLimit_56 rfl (lv_at hl 1 rfl) ?_
      refine xget F hT hW xuX6 (xm_fix (by decide)) xce_12 rfl 1 (by decide) xw_801 rfl rfl dX6_setLimit_57 ?_
      refine lv_iconst (v := 3) hx hb dX6_setLimit_60 (by decide) ?_
      refine lv_iload_n hx hb dX6_setLimit_61 rfl (lv_at hl 2 rfl) ?_
      refine lv_imul hx hb dX6_setLimit_62 ?_
      refine lv_iload_n hx hb dX6_setLimit_63 rfl (lv_at hl 3 rfl) ?_
      refine lv_iadd hx hb dX6_setLimit_64 ?_
      refine lv_iload_n hx hb dX6_setLimit_65 rfl (lv_at hl 4 rfl) ?_
      obtain ⟨g6, hf⟩ := oG_go hf
      refine xmast (by decide) F hT hW hS (xm_fix (by decide)) (by decide) (xinb_ok g6) dX6_setLimit_66 (fun H locs hW hS => ?_)
      refine lv_iload hx hb dX6_setLimit_67 (lv_at hl 0 rfl) ?_
      cases hf
      exact xret_i (ty := .int) F hr hlocks hS rfl rfl hW (Nat.le_of_ble_eq_true rfl) (Nat.le_of_ble_eq_true rfl) dX6_setLimit_69
    · replace hf := if_f c5 hf
      refine lv_iconst (v := 0) hx hb dX6_setLimit_42 (by decide) ?_
      cases hf
      exact xret_i (ty := .int) F hr hlocks hS rfl rfl hW (Nat.le_of_ble_eq_true rfl) (Nat.le_of_ble_eq_true rfl) dX6_setLimit_43
  · replace hf := if_t c2 hf
    refine lv_iload_n hx hb dX6_setLimit_9 rfl (lv_at hl 2 rfl) ?_
    obtain ⟨v9, hc32, hf⟩ := oB_go hf
    refine xcallS (n := 1) F hT hW hS (kX6_isMeasure l hl0 G sh sc sr sl a2  _ hc32) (xgS xw_899 xw_900 xw_4 xw_901) rfl xd_X6_isMeasure.2 ⟨Nat.le_of_ble_eq_true rfl, Nat.le_of_ble_eq_true rfl⟩ rfl hl.1 rfl (Nat.le_of_ble_eq_true rfl) dX6_setLimit_10 ⟨Nat.le_of_ble_eq_true rfl, Nat.le_of_ble_eq_true rfl⟩ (fun v9 H locs hres hW hS => ?_) (fun E9 H locs q9 ce9 hres => by cases hres)
    cases hres
    refine W.eq (g2 := F0 m 13 ls (.int v9 :: .ref (sh.1 12 0) :: [])) rfl ?_
    refine lv_if_ne (tgt := 20) hx hb dX6_setLimit_13 (by decide) (fun c10 => ?_) (fun c10 => ?_)
    · replace hf := if_f c10 hf
      refine lv_iload_n hx hb dX6_setLimit_20 rfl (lv_at hl 3 rfl) ?_
      refine lv_iconst (v := 1) hx hb dX6_setLimit_21 (by decide) ?_
      refine lv_sipush (v := 300) hx hb dX6_setLimit_22 (by decide) ?_
      obtain ⟨v11, hc25, hf⟩ := oB_go hf
      refine xcallS (n := 3) F hT hW hS (kX6_in l hl0 G sh sc sr sl a3 1 300  _ hc25) (xgS xw_880 xw_881 xw_4 xw_882) rfl xd_X6_in.2 ⟨Nat.le_of_ble_eq_true rfl, Nat.le_of_ble_eq_true rfl⟩ rfl hl.1 rfl (Nat.le_of_ble_eq_true rfl) dX6_setLimit_25 ⟨Nat.le_of_ble_eq_true rfl, Nat.le_of_ble_eq_true rfl⟩ (fun v9 H locs hres hW hS => ?_) (fun E9 H locs q9 ce9 hres => by cases hres)
      cases hres
      refine W.eq (g2 := F0 m 28 ls (.int v11 :: .ref (sh.1 12 0) :: [])) rfl ?_
      refine lv_if_eq (tgt := 35) hx hb dX6_setLimit_28 (by decide) (fun c12 => ?_) (fun c12 => ?_)
      · replace hf := if_t c12 hf
        refine lv_iconst (v := 2) hx hb dX6_setLimit_35 (by decide) ?_
        obtain ⟨v13, s14, hc18, hf⟩ := oP_go hf
        refine xcallV (n := 1) F hT hW hS (xm_fix (by decide)) xce_12 rfl (kX6_fails l hl0 G sh sc sr sl 2  _ hc18) (xgV xw_883 xw_885 xwp_14 xw_4 xw_886) rfl xd_X6_fails ⟨Nat.le_of_ble_eq_true rfl, Nat.le_of_ble_eq_true rfl⟩ rfl hl.1 rfl (Nat.le_of_ble_eq_true rfl) dX6_setLimit_36 ⟨Nat.le_of_ble_eq_true rfl, Nat.le_of_ble_eq_true rfl⟩ (fun v9 H locs hres hW hS => ?_) (fun E9 H locs q9 ce9 hres => by cases hres)
        cases hres
        refine W.eq (g2 := F0 m 39 ls (.int v13 :: [])) rfl ?_
        refine lv_if_eq (tgt := 44) hx hb dX6_setLimit_39 (by decide) (fun c15 => ?_) (fun c15 => ?_)
        · replace hf := if_t c15 hf
          refine lv_aload_n hx hb dX6_setLimit_44 rfl (lv_at hl 0 rfl) ?_
          refine xget F hT hW xuX6 (xm_fix (by decide)) xce_12 rfl 1 (by decide) xw_801 rfl rfl dX6_setLimit_45 ?_
          refine lv_iconst (v := 3) hx hb dX6_setLimit_48 (by decide) ?_
          refine lv_iload_n hx hb dX6_setLimit_49 rfl (lv_at hl 1 rfl) ?_
          refine lv_imul hx hb dX6_setLimit_50 ?_
          refine lv_iload_n hx hb dX6_setLimit_51 rfl (lv_at hl 2 rfl) ?_
          refine lv_iadd hx hb dX6_setLimit_52 ?_
          obtain ⟨g17, hf⟩ := oG_go hf
          refine xmald (by decide) F hT hW (xm_fix (by decide)) (by decide) (xinb_ok g17) dX6_setLimit_53 ?_
          refine lv_istore (lv' := [(4, .int (s14.1 1 ((3 * a1) + a2).toNatClampNeg)), (0, .ref (sh.1 12 0)), (1, .int a1), (2, .int a2), (3, .int a3)]) hx hb dX6_setLimit_54 hl (by decide) rfl (fun ls hl => ?_)
          refine lv_aload_n hx hb dX6_setLimit_56 rfl (lv_at hl 1 rfl) ?_
          refine xget F hT hW xuX6 (xm_fix (by decide)) xce_12 rfl 1 (by decide) xw_801 rfl rfl dX6_setLimit_57 ?_
          refine lv_iconst (v := 3) hx hb dX6_setLimit_60 (by decide) ?_
          refine lv_iload_n hx hb dX6_setLimit_61 rfl (lv_at hl 2 rfl) ?_
          refine lv_imul hx hb dX6_setLimit_62 ?_
          refine lv_iload_n hx hb dX6_setLimit_63 rfl (lv_at hl 3 rfl) ?_
          refine lv_iadd hx hb dX6_setLimit_64 ?_
          refine lv_iload_n hx hb dX6_setLimit_65 rfl (lv_at hl 4 rfl) ?_
          obtain ⟨g16, hf⟩ := oG_go hf
          refine xmast (by decide) F hT hW hS (xm_fix (by decide)) (by decide) (xinb_ok g16) dX6_setLimit_66 (fun H locs hW hS => ?_)
          refine lv_iload hx hb dX6_setLimit_67 (lv_at hl 0 rfl) ?_
          cases hf
          exact xret_i (ty := .int) F hr hlocks hS rfl rfl hW (Nat.le_of_ble_eq_true rfl) (Nat.le_of_ble_eq_true rfl) dX6_setLimit_69
        · replace hf := if_f c15 hf
          refine lv_iconst (v := 0) hx hb dX6_setLimit_42 (by decide) ?_
          cases hf
          exact xret_i (ty := .int) F hr hlocks hS rfl rfl hW (Nat.le_of_ble_eq_true rfl) (Nat.le_of_ble_eq_true rfl) dX6_setLimit_43
      · replace hf := if_f c12 hf
        refine lv_iconst (v := 0) hx hb dX6_setLimit_31 (by decide) ?_
        refine lv_goto (tgt := 36) hx hb dX6_setLimit_32 (by decide) ?_
        obtain ⟨v19, s20, hc24, hf⟩ := oP_go hf
        refine xcallV (n := 1) F hT hW hS (xm_fix (by decide)) xce_12 rfl (kX6_fails l hl0 G sh sc sr sl 0  _ hc24) (xgV xw_883 xw_885 xwp_14 xw_4 xw_886) rfl xd_X6_fails ⟨Nat.le_of_ble_eq_true rfl, Nat.le_of_ble_eq_true rfl⟩ rfl hl.1 rfl (Nat.le_of_ble_eq_true rfl) dX6_setLimit_36 ⟨Nat.le_of_ble_eq_true rfl, Nat.le_of_ble_eq_true rfl⟩ (fun v9 H locs hres hW hS => ?_) (fun E9 H locs q9 ce9 hres => by cases hres)
        cases hres
        refine W.eq (g2 := F0 m 39 ls (.int v19 :: [])) rfl ?_
        refine lv_if_eq (tgt := 44) hx hb dX6_setLimit_39 (by decide) (fun c21 => ?_) (fun c21 => ?_)
        · replace hf := if_t c21 hf
          refine lv_aload_n hx hb dX6_setLimit_44 rfl (lv_at hl 0 rfl) ?_
          refine xget F hT hW xuX6 (xm_fix (by decide)) xce_12 rfl 1 (by decide) xw_801 rfl rfl dX6_setLimit_45 ?_
          refine lv_iconst (v := 3) hx hb dX6_setLimit_48 (by decide) ?_
          refine lv_iload_n hx hb dX6_setLimit_49 rfl (lv_at hl 1 rfl) ?_
          refine lv_imul hx hb dX6_setLimit_50 ?_
          refine lv_iload_n hx hb dX6_setLimit_51 rfl (lv_at hl 2 rfl) ?_
          refine lv_iadd hx hb dX6_setLimit_52 ?_
          obtain ⟨g23, hf⟩ := oG_go hf
          refine xmald (by decide) F hT hW (xm_fix (by decide)) (by decide) (xinb_ok g23) dX6_setLimit_53 ?_
          refine lv_istore (lv' := [(4, .int (s20.1 1 ((3 * a1) + a2).toNatClampNeg)), (0, .ref (sh.1 12 0)), (1, .int a1), (2, .int a2), (3, .int a3)]) hx hb dX6_setLimit_54 hl (by decide) rfl (fun ls hl => ?_)
          refine lv_aload_n hx hb dX6_setLimit_56 rfl (lv_at hl 1 rfl) ?_
          refine xget F hT hW xuX6 (xm_fix (by decide)) xce_12 rfl 1 (by decide) xw_801 rfl rfl dX6_setLimit_57 ?_
          refine lv_iconst (v := 3) hx hb dX6_setLimit_60 (by decide) ?_
          refine lv_iload_n hx hb dX6_setLimit_61 rfl (lv_at hl 2 rfl) ?_
          refine lv_imul hx hb dX6_setLimit_62 ?_
          refine lv_iload_n hx hb dX6_setLimit_63 rfl (lv_at hl 3 rfl) ?_
          refine lv_iadd hx hb dX6_setLimit_64 ?_
          refine lv_iload_n hx hb dX6_setLimit_65 rfl (lv_at hl 4 rfl) ?_
          obtain ⟨g22, hf⟩ := oG_go hf
          refine xmast (by decide) F hT hW hS (xm_fix (by decide)) (by decide) (xinb_ok g22) dX6_setLimit_66 (fun H locs hW hS => ?_)
          refine lv_iload hx hb dX6_setLimit_67 (lv_at hl 0 rfl) ?_
          cases hf
          exact xret_i (ty := .int) F hr hlocks hS rfl rfl hW (Nat.le_of_ble_eq_true rfl) (Nat.le_of_ble_eq_true rfl) dX6_setLimit_69
        · replace hf := if_f c21 hf
          refine lv_iconst (v := 0) hx hb dX6_setLimit_42 (by decide) ?_
          cases hf
          exact xret_i (ty := .int) F hr hlocks hS rfl rfl hW (Nat.le_of_ble_eq_true rfl) (Nat.le_of_ble_eq_true rfl) dX6_setLimit_43
    · replace hf := if_t c10 hf
      refine lv_iconst (v := 1) hx hb dX6_setLimit_16 (by decide) ?_
      refine lv_goto (tgt := 36) hx hb dX6_setLimit_17 (by decide) ?_
      obtain ⟨v26, s27, hc31, hf⟩ := oP_go hf
      refine xcallV (n := 1) F hT hW hS (xm_fix (by decide)) xce_12 rfl (kX6_fails l hl0 G sh sc sr sl 1  _ hc31) (xgV xw_883 xw_885 xwp_14 xw_4 xw_886) rfl xd_X6_fails ⟨Nat.le_of_ble_eq_true rfl, Nat.le_of_ble_eq_true rfl⟩ rfl hl.1 rfl (Nat.le_of_ble_eq_true rfl) dX6_setLimit_36 ⟨Nat.le_of_ble_eq_true rfl, Nat.le_of_ble_eq_true rfl⟩ (fun v9 H locs hres hW hS => ?_) (fun E9 H locs q9 ce9 hres => by cases hres)
      cases hres
      refine W.eq (g2 := F0 m 39 ls (.int v26 :: [])) rfl ?_
      refine lv_if_eq (tgt := 44) hx hb dX6_setLimit_39 (by decide) (fun c28 => ?_) (fun c28 => ?_)
      · replace hf := if_t c28 hf
        refine lv_aload_n hx hb dX6_setLimit_44 rfl (lv_at hl 0 rfl) ?_
        refine xget F hT hW xuX6 (xm_fix (by decide)) xce_12 rfl 1 (by decide) xw_801 rfl rfl dX6_setLimit_45 ?_
        refine lv_iconst (v := 3) hx hb dX6_setLimit_48 (by decide) ?_
        refine lv_iload_n hx hb dX6_setLimit_49 rfl (lv_at hl 1 rfl) ?_
        refine lv_imul hx hb dX6_setLimit_50 ?_
        refine lv_iload_n hx hb dX6_setLimit_51 rfl (lv_at hl 2 rfl) ?_
        refine lv_iadd hx hb dX6_setLimit_52 ?_
        obtain ⟨g30, hf⟩ := oG_go hf
        refine xmald (by decide) F hT hW (xm_fix (by decide)) (by decide) (xinb_ok g30) dX6_setLimit_53 ?_
        refine lv_istore (lv' := [(4, .int (s27.1 1 ((3 * a1) + a2).toNatClampNeg)), (0, .ref (sh.1 12 0)), (1, .int a1), (2, .int a2), (3, .int a3)]) hx hb dX6_setLimit_54 hl (by decide) rfl (fun ls hl => ?_)
        refine lv_aload_n hx hb dX6_setLimit_56 rfl (lv_at hl 1 rfl) ?_
        refine xget F hT hW xuX6 (xm_fix (by decide)) xce_12 rfl 1 (by decide) xw_801 rfl rfl dX6_setLimit_57 ?_
        refine lv_iconst (v := 3) hx hb dX6_setLimit_60 (by decide) ?_
        refine lv_iload_n hx hb dX6_setLimit_61 rfl (lv_at hl 2 rfl) ?_
        refine lv_imul hx hb dX6_setLimit_62 ?_
        refine lv_iload_n hx hb dX6_setLimit_63 rfl (lv_at hl 3 rfl) ?_
        refine lv_iadd hx hb dX6_setLimit_64 ?_
        refine lv_iload_n hx hb dX6_setLimit_65 rfl (lv_at hl 4 rfl) ?_
        obtain ⟨g29, hf⟩ := oG_go hf
        refine xmast (by decide) F hT hW hS (xm_fix (by decide)) (by decide) (xinb_ok g29) dX6_setLimit_66 (fun H locs hW hS => ?_)
        refine lv_iload hx hb dX6_setLimit_67 (lv_at hl 0 rfl) ?_
        cases hf
        exact xret_i (ty := .int) F hr hlocks hS rfl rfl hW (Nat.le_of_ble_eq_true rfl) (Nat.le_of_ble_eq_true rfl) dX6_setLimit_69
      · replace hf := if_f c28 hf
        refine lv_iconst (v := 0) hx hb dX6_setLimit_42 (by decide) ?_
        cases hf
        exact xret_i (ty := .int) F hr hlocks hS rfl rfl hW (Nat.le_of_ble_eq_true rfl) (Nat.le_of_ble_eq_true rfl) dX6_setLimit_43
