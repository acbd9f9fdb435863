abbrev rX6_setOpen : Room := { frames := 2, cells := 0, slots := 0, locals := 43 }
abbrev zX6_setOpen : List Cond := Cond.code yX6_setOpen cX6_setOpen 4 (some .boolean) :: xB
theorem xd_X6_setOpen : yX6_setOpen.cls = RX6 ∧ yX6_setOpen.cls ≠ "java/lang/invoke/MethodHandle" ∧ yX6_setOpen.cls ≠ "java/lang/invoke/VarHandle" ∧ (parseMethodDescriptor yX6_setOpen.desc).map (fun d => d.parameters.length) = some 2 := by decide +kernel
def fX6_setOpen (a1 : Int32) (a2 : Int32) (sr : xSR) : Option (Int32 × xSR) := oB (fX6_isNoShard a1 sr) (fun v1 => (if v1 = 0 then oP (fX6_fails 0 sr) (fun v3 s4 => (if v3 = 0 then oG (xinb a1 4) ((if (s4.1 2 a1.toNatClampNeg) = 0 then (if a2 = 0 then oG (xinb a1 4) (some (1, (xuR s4.1 2 a1.toNatClampNeg 1, s4.2))) else oG (xinb a1 4) (some (1, (xuR s4.1 2 a1.toNatClampNeg 0, s4.2)))) else (if a2 = 0 then oG (xinb a1 4) (some (0, (xuR s4.1 2 a1.toNatClampNeg 1, s4.2))) else oG (xinb a1 4) (some (0, (xuR s4.1 2 a1.toNatClampNeg 0, s4.2)))))) else some (0, s4))) else oP (fX6_fails 1 sr) (fun v15 s16 => (if v15 = 0 then oG (xinb a1 4) ((if (s16.1 2 a1.toNatClampNeg) = 0 then (if a2 = 0 then oG (xinb a1 4) (some (1, (xuR s16.1 2 a1.toNatClampNeg 1, s16.2))) else oG (xinb a1 4) (some (1, (xuR s16.1 2 a1.toNatClampNeg 0, s16.2)))) else (if a2 = 0 then oG (xinb a1 4) (some (0, (xuR s16.1 2 a1.toNatClampNeg 1, s16.2))) else oG (xinb a1 4) (some (0, (xuR s16.1 2 a1.toNatClampNeg 0, s16.2)))))) else some (0, s16)))))
set_option maxHeartbeats 4000000 in
set_option maxRecDepth 100000 in
theorem kX6_setOpen (l : Launch) (hl0 : l.stackTraces = false) (G : xG) (sh : xSh) (sc : xSC) (sr : xSR) (sl : xSL) (a1 : Int32) (a2 : Int32) (r : (Int32 × xSR)) (hf : fX6_setOpen a1 a2 sr = some r) : xMet l yX6_setOpen zX6_setOpen rX6_setOpen G sh sc sr sl ([.ref (sh.1 12 0), .int a1, .int a2] : List Value) (xvI (.inr r.1)) (xWd G sh sc r.2 sl) := by
  refine xMet_of (cc := cX6_setOpen) (maxL := 4) (ret := (some .boolean)) (by decide) (Nat.le_of_ble_eq_true rfl) ?_
  intro p e s m below meth c F hT hW hr hlocks htab ls hl
  have F : CallFix p m c cX6_setOpen 4 s ([.ref (sh.1 12 0), .int a1, .int a2] : List Value).toArray xB RX6 := F
  have hx := F.1
  have hb := F.2.1
  have hS : va_S (xA G) s.heap s.heap [] := va_S.rf
  have hl : lv_has ls 4 [(0, .ref (sh.1 12 0)), (1, .int a1), (2, .int a2)] := hl
  unfold fX6_setOpen at hf
  refine lv_aload_n hx hb dX6_setOpen_0 rfl (lv_at hl 0 rfl) ?_
  refine lv_aload_n hx hb dX6_setOpen_1 rfl (lv_at hl 0 rfl) ?_
  refine lv_iload_n hx hb dX6_setOpen_2 rfl (lv_at hl 1 rfl) ?_
  obtain ⟨v1, hc27, hf⟩ := oB_go hf
  refine xcallV (n := 1) F hT hW hS (xm_fix (by decide)) xce_12 rfl (kX6_isNoShard l hl0 G sh sc sr sl a1  _ hc27) (xgV xw_891 xw_893 xwp_15 xw_4 xw_894) rfl xd_X6_isNoShard ⟨Nat.le_of_ble_eq_true rfl, Nat.le_of_ble_eq_true rfl⟩ rfl hl.1 rfl (Nat.le_of_ble_eq_true rfl) dX6_setOpen_3 ⟨Nat.le_of_ble_eq_true rfl, Nat.le_of_ble_eq_true rfl⟩ (fun v9 H locs hres hW hS => ?_) (fun E9 H locs q9 ce9 hres => by cases hres)
  cases hres
  refine W.eq (g2 := F0 m 6 ls (.int v1 :: .ref (sh.1 12 0) :: [])) rfl ?_
  refine lv_if_eq (tgt := 13) hx hb dX6_setOpen_6 (by decide) (fun c2 => ?_) (fun c2 => ?_)
  · replace hf := if_t c2 hf
    refine lv_iconst (v := 0) hx hb dX6_setOpen_13 (by decide) ?_
    obtain ⟨v3, s4, hc14, hf⟩ := oP_go hf
    refine xcallV (n := 1) F hT hW hS (xm_fix (by decide)) xce_12 rfl (kX6_fails l hl0 G sh sc sr sl 0  _ hc14) (xgV xw_883 xw_885 xwp_14 xw_4 xw_886) rfl xd_X6_fails ⟨Nat.le_of_ble_eq_true rfl, Nat.le_of_ble_eq_true rfl⟩ rfl hl.1 rfl (Nat.le_of_ble_eq_true rfl) dX6_setOpen_14 ⟨Nat.le_of_ble_eq_true rfl, Nat.le_of_ble_eq_true rfl⟩ (fun v9 H locs hres hW hS => ?_) (fun E9 H locs q9 ce9 hres => by cases hres)
    cases hres
    refine W.eq (g2 := F0 m 17 ls (.int v3 :: [])) rfl ?_
    refine lv_if_eq (tgt := 22) hx hb dX6_setOpen_17 (by decide) (fun c5 => ?_) (fun c5 => ?_)
    · replace hf := if_t c5 hf
      refine lv_aload_n hx hb dX6_setOpen_22 rfl (lv_at hl 0 rfl) ?_
      refine xget F hT hW xuX6 (xm_fix (by decide)) xce_12 rfl 2 (by decide) xw_802 rfl rfl dX6_setOpen_23 ?_
      refine lv_iload_n hx hb dX6_setOpen_26 rfl (lv_at hl 1 rfl) ?_
      obtain ⟨g13, hf⟩ := oG_go hf
      refine xmbld F hT hW (xinb_ok g13) dX6_setOpen_27 ?_
      refine lv_if_ne (tgt := 35) hx hb dX6_setOpen_28 (by decide) (fun c6 => ?_) (fun c6 => ?_)
      · replace hf := if_f c6 hf
        refine lv_iconst (v := 0) hx hb dX6_setOpen_35 (by decide) ?_
        refine lv_istore_n (lv' := [(3, .int 0), (0, .ref (sh.1 12 0)), (1, .int a1), (2, .int a2)]) hx hb dX6_setOpen_36 rfl hl (by decide) rfl (fun ls hl => ?_)
        refine lv_aload_n hx hb dX6_setOpen_37 rfl (lv_at hl 1 rfl) ?_
        refine xget F hT hW xuX6 (xm_fix (by decide)) xce_12 rfl 2 (by decide) xw_802 rfl rfl dX6_setOpen_38 ?_
        refine lv_iload_n hx hb dX6_setOpen_41 rfl (lv_at hl 2 rfl) ?_
        refine lv_iload_n hx hb dX6_setOpen_42 rfl (lv_at hl 3 rfl) ?_
        refine lv_if_ne (tgt := 50) hx hb dX6_setOpen_43 (by decide) (fun c7 => ?_) (fun c7 => ?_)
        · replace hf := if_f c7 hf
          refine lv_iconst (v := 0) hx hb dX6_setOpen_50 (by decide) ?_
          obtain ⟨g8, hf⟩ := oG_go hf
          refine xmbst F hT hW hS (by decide) (xinb_ok g8) dX6_setOpen_51 (fun H locs hW hS => ?_)
          refine lv_iload_n hx hb dX6_setOpen_52 rfl (lv_at hl 0 rfl) ?_
          cases hf
          exact xret_i (ty := .boolean) F hr hlocks hS (by decide) rfl hW (Nat.le_of_ble_eq_true rfl) (Nat.le_of_ble_eq_true rfl) dX6_setOpen_53
        · replace hf := if_t c7 hf
          refine lv_iconst (v := 1) hx hb dX6_setOpen_46 (by decide) ?_
          refine lv_goto (tgt := 51) hx hb dX6_setOpen_47 (by decide) ?_
          obtain ⟨g9, hf⟩ := oG_go hf
          refine xmbst F hT hW hS (by decide) (xinb_ok g9) dX6_setOpen_51 (fun H locs hW hS => ?_)
          refine lv_iload_n hx hb dX6_setOpen_52 rfl (lv_at hl 0 rfl) ?_
          cases hf
          exact xret_i (ty := .boolean) F hr hlocks hS (by decide) rfl hW (Nat.le_of_ble_eq_true rfl) (Nat.le_of_ble_eq_true rfl) dX6_setOpen_53
      · replace hf := if_t c6 hf
        refine lv_iconst (v := 1) hx hb dX6_setOpen_31 (by decide) ?_
        refine lv_goto (tgt := 36) hx hb dX6_setOpen_32 (by decide) ?_
        refine lv_istore_n (lv' := [(3, .int 1), (0, .ref (sh.1 12 0)), (1, .int a1), (2, .int a2)]) hx hb dX6_setOpen_36 rfl hl (by decide) rfl (fun ls hl => ?_)
        refine lv_aload_n hx hb dX6_setOpen_37 rfl (lv_at hl 1 rfl) ?_
        refine xget F hT hW xuX6 (xm_fix (by decide)) xce_12 rfl 2 (by decide) xw_802 rfl rfl dX6_setOpen_38 ?_
        refine lv_iload_n hx hb dX6_setOpen_41 rfl (lv_at hl 2 rfl) ?_
        refine lv_iload_n hx hb dX6_setOpen_42 rfl (lv_at hl 3 rfl) ?_
        refine lv_if_ne (tgt := 50) hx hb dX6_setOpen_43 (by decide) (fun c10 => ?_) (fun c10 => ?_)
        · replace hf := if_f c10 hf
          refine lv_iconst (v := 0) hx hb dX6_setOpen_50 (by decide) ?_
          obtain ⟨g11, hf⟩ := oG_go hf
          refine xmbst F hT hW hS (by decide) (xinb_ok g11) dX6_setOpen_51 (fun H locs hW hS => ?_)
          refine lv_iload_n hx hb dX6_setOpen_52 rfl (lv_at hl 0 rfl) ?_
          cases hf
          exact xret_i (ty := .boolean) F hr hlocks hS (by decide) rfl hW (Nat.le_of_ble_eq_true rfl) (Nat.le_of_ble_eq_true rfl) dX6_setOpen_53
        · replace hf := if_t c10 hf
          refine lv_iconst (v := 1) hx hb dX6_setOpen_46 (by decide) ?_
          refine lv_goto (tgt := 51) hx hb dX6_setOpen_47 (by decide) ?_
          obtain ⟨g12, hf⟩ := oG_go hf
          refine xmbst F hT hW hS (by decide) (xinb_ok g12) dX6_setOpen_51 (fun H locs hW hS => ?_)
          refine lv_iload_n hx hb dX6_setOpen_52 rfl (lv_at hl 0 rfl) ?_
          cases hf
          exact xret_i (ty := .boolean) F hr hlocks hS (by decide) rfl hW (Nat.le_of_ble_eq_true rfl) (Nat.le_of_ble_eq_true rfl) dX6_setOpen_53
    · replace hf := if_f c5 hf
      refine lv_iconst (v := 0) hx hb dX6_setOpen_20 (by decide) ?_
      cases hf
      exact xret_i (ty := .boolean) F hr hlocks hS (by decide) rfl hW (Nat.le_of_ble_eq_true rfl) (Nat.le_of_ble_eq_true rfl) dX6_setOpen_21
  · replace hf := if_f c2 hf
    refine lv_iconst (v := 1) hx hb dX6_setOpen_9 (by decide) ?_
    refine lv_goto (tgt := 14) hx hb dX6_setOpen_10 (by decide) ?_
    obtain ⟨v15, s16, hc26, hf⟩ := oP_go hf
    refine xcallV (n := 1) F hT hW hS (xm_fix (by decide)) xce_12 rfl (kX6_fails l hl0 G sh sc sr sl 1  _ hc26) (xgV xw_883 xw_885 xwp_14 xw_4 xw_886) rfl xd_X6_fails ⟨Nat.le_of_ble_eq_true rfl, Nat.le_of_ble_eq_true rfl⟩ rfl hl.1 rfl (Nat.le_of_ble_eq_true rfl) dX6_setOpen_14 ⟨Nat.le_of_ble_eq_true rfl, Nat.le_of_ble_eq_true rfl⟩ (fun v9 H locs hres hW hS => ?_) (fun E9 H locs q9 ce9 hres => by cases hres)
    cases hres
    refine W.eq (g2 := F0 m 17 ls (.int v15 :: [])) rfl ?_
    refine lv_if_eq (tgt := 22) hx hb dX6_setOpen_17 (by decide) (fun c17 => ?_) (fun c17 => ?_)
    · replace hf := if_t c17 hf
      refine lv_aload_n hx hb dX6_setOpen_22 rfl (lv_at hl 0 rfl) ?_
      refine xget F hT hW xuX6 (xm_fix (by decide)) xce_12 rfl 2 (by decide) xw_802 rfl rfl dX6_setOpen_23 ?_
      refine lv_iload_n hx hb dX6_setOpen_26 rfl (lv_at hl 1 rfl) ?_
      obtain ⟨g25, hf⟩ := oG_go hf
      refine xmbld F hT hW (xinb_ok g25) dX6_setOpen_27 ?_
      refine lv_if_ne (tgt := 35) hx hb dX6_setOpen_28 (by decide) (fun c18 => ?_) (fun c18 => ?_)
      · replace hf := if_f c18 hf
        refine lv_iconst (v := 0) hx hb dX6_setOpen_35 (by decide) ?_
        refine lv_istore_n (lv' := [(3, .int 0), (0, .ref (sh.1 12 0)), (1, .int a1), (2, .int a2)]) hx hb dX6_setOpen_36 rfl hl (by decide) rfl (fun ls hl => ?_)
        refine lv_aload_n hx hb dX6_setOpen_37 rfl (lv_at hl 1 rfl) ?_
        refine xget F hT hW xuX6 (xm_fix (by decide)) xce_12 rfl 2 (by decide) xw_802 rfl rfl dX6_setOpen_38 ?_
        refine lv_iload_n hx hb dX6_setOpen_41 rfl (lv_at hl 2 rfl) ?_
        refine lv_iload_n hx hb dX6_setOpen_42 rfl (lv_at hl 3 rfl) ?_
        refine lv_if_ne (tgt := 50) hx hb dX6_setOpen_43 (by decide) (fun c19 => ?_) (fun c19 => ?_)
        · replace hf := if_f c19 hf
          refine lv_iconst (v := 0) hx hb dX6_setOpen_50 (by decide) ?_
          obtain ⟨g20, hf⟩ := oG_go hf
          refine xmbst F hT hW hS (by decide) (xinb_ok g20) dX6_setOpen_51 (fun H locs hW hS => ?_)
          refine lv_iload_n hx hb dX6_setOpen_52 rfl (lv_at hl 0 rfl) ?_
          cases hf
          exact xret_i (ty := .boolean) F hr hlocks hS (by decide) rfl hW (Nat.le_of_ble_eq_true rfl) (Nat.le_of_ble_eq_true rfl) dX6_setOpen_53
        · replace hf := if_t c19 hf
          refine lv_iconst (v := 1) hx hb dX6_setOpen_46 (by decide) ?_
          refine lv_goto (tgt := 51) hx hb dX6_setOpen_47 (by decide) ?_
          obtain ⟨g21, hf⟩ := oG_go hf
          refine xmbst F hT hW hS (by decide) (xinb_ok g21) dX6_setOpen_51 (fun H locs hW hS => ?_)
          refine lv_iload_n hx hb dX6_setOpen_52 rfl (lv_at hl 0 rfl) ?_
          cases hf
          exact xret_i (ty := .boolean) F hr hlocks hS (by decide) rfl hW (Nat.le_of_ble_eq_true rfl) (Nat.le_of_ble_eq_true rfl) dX6_setOpen_53
      · replace hf := if_t c18 hf
        refine lv_iconst (v := 1) hx hb dX6_setOpen_31 (by decide) ?_
        refine lv_goto (tgt := 36) hx hb dX6_setOpen_32 (by decide) ?_
        refine lv_istore_n (lv' := [(3, .int 1), (0, .ref (sh.1 12 0)), (1, .int a1), (2, .int a2)]) hx hb dX6_setOpen_36 rfl hl (by decide) rfl (fun ls hl => ?_)
        refine lv_aload_n hx hb dX6_setOpen_37 rfl (lv_at hl 1 rfl) ?_
        refine xget F hT hW xuX6 (xm_fix (by decide)) xce_12 rfl 2 (by decide) xw_802 rfl rfl dX6_setOpen_38 ?_
        refine lv_iload_n hx hb dX6_setOpen_41 rfl (lv_at hl 2 rfl) ?_
        refine lv_iload_n hx hb dX6_setOpen_42 rfl (lv_at hl 3 rfl) ?_
        refine lv_if_ne (tgt := 50) hx hb dX6_setOpen_43 (by decide) (fun c22 => ?_) (fun c22 => ?_)
        · replace hf := if_f c22 hf
          refine lv_iconst (v := 0) hx hb dX6_setOpen_50 (by decide) ?_
          obtain ⟨g23, hf⟩ := oG_go hf
          refine xmbst F hT hW hS (by decide) (xinb_ok g23) dX6_setOpen_51 (fun H locs hW hS => ?_)
          refine lv_iload_n hx hb dX6_setOpen_52 rfl (lv_at hl 0 rfl) ?_
          cases hf
          exact xret_i (ty := .boolean) F hr hlocks hS (by decide) rfl hW (Nat.le_of_ble_eq_true rfl) (Nat.le_of_ble_eq_true rfl) dX6_setOpen_53
        · replace hf := if_t c22 hf
          refine lv_iconst (v := 1) hx hb dX6_setOpen_46 (by decide) ?_
          refine lv_goto (tgt := 51) hx hb dX6_setOpen_47 (by decide) ?_
          obtain ⟨g24, hf⟩ := oG_go hf
          refine xmbst F hT hW hS (by decide) (xinb_ok g24) dX6_setOpen_51 (fun H locs hW hS => ?_)
          refine lv_iload_n hx hb dX6_setOpen_52 rfl (lv_at hl 0 rfl) ?_
          cases hf
          exact xret_i (ty := .boolean) F hr hlocks hS (by decide) rfl hW (Nat.le_of_ble_eq_true rfl) (Nat.le_of_ble_eq_true rfl) dX6_setOpen_53
    · replace hf := if_f c17 hf
      refine lv_iconst (v := 0) hx hb dX6_setOpen_20 (by decide) ?_
      cases hf
      exact xret_i (ty := .boolean) F hr hlocks hS (by decide) rfl hW (Nat.le_of_ble_eq_true rfl) (Nat.le_of_ble_eq_true rfl) dX6_setOpen_21
abbrev rX6_setSize : Room := { frames := 2, cells := 0, slots := 0, locals := 43 }
abbrev zX6_setSize : List Cond := Cond.code yX6_setSize cX6_setSize 5 (some .int) :: xB
theorem xd_X6_setSize : yX6_setSize.cls = RX6 ∧ yX6_setSize.cls ≠ "java/lang/invoke/MethodHandle" ∧ yX6_setSize.cls ≠ "java/lang/invoke/VarHandle" ∧ (parseMethodDescriptor yX6_setSize.desc).map (fun d => d.parameters.length) = some 3 := by decide +kernel
def fX6_setSize (a1 : Int32) (a2 : Int32) (a3 : Int32) (sr : xSR) : Option (Int32 × xSR) := oB (fX6_isNoTenant a1 sr) (fun v1 => (if v1 = 0 then oB (fX6_in a2 1 2 sr) (fun v3 => (if v3 = 0 then oP (fX6_fails 2 sr) (fun v5 s6 => (if v5 = 0 then oG (xinb ((3 * a1) + a2) 18) (oG (xinb ((3 * a1) + a2) 18) (some ((s6.1 4 ((3 * a1) + a2).toNatClampNeg), (xuR s6.1 4 ((3 * a1) + a2).toNatClampNeg a3, s6.2)))) else some (0, s6))) else oB (fX6_in a3 1 100 sr) (fun v11 => (if v11 = 0 then oP (fX6_fails 2 sr) (fun v13 s14 => (if v13 = 0 then oG (xinb ((3 * a1) + a2) 18) (oG (xinb ((3 * a1) + a2) 18) (some ((s14.1 4 ((3 * a1) + a2).toNatClampNeg), (xuR s14.1 4 ((3 * a1) + a2).toNatClampNeg a3, s14.2)))) else some (0, s14))) else oP (fX6_fails 0 sr) (fun v19 s20 => (if v19 = 0 then oG (xinb ((3 * a1) + a2) 18) (oG (xinb ((3 * a1) + a2) 18) (some ((s20.1 4 ((3 * a1) + a2).toNatClampNeg), (xuR s20.1 4 ((3 * a1) + a2).toNatClampNeg a3, s20.2)))) else some (0, s20))))))) else oP (fX6_fails 1 sr) (fun v27 s28 => (if v27 = 0 then oG (xinb ((3 * a1) + a2) 18) (oG (xinb ((3 * a1) + a2) 18) (some ((s28.1 4 ((3 * a1) + a2).toNatClampNeg), (xuR s28.1 4 ((3 * a1) + a2).toNatClampNeg a3, s28.2)))) else some (0, s28)))))
set_option maxHeartbeats 4000000 in
set_option maxRecDepth 100000 in
theorem kX6_setSize (l : Launch) (hl0 : l.stackTraces = false) (G : xG) (sh : xSh) (sc : xSC) (sr : xSR) (sl : xSL) (a1 : Int32) (a2 : Int32) (a3 : Int32) (r : (Int32 × xSR)) (hf : fX6_setSize a1 a2 a3 sr = some r) : xMet l yX6_setSize zX6_setSize rX6_setSize G sh sc sr sl ([.ref (sh.1 12 0), .int a1, .int a2, .int a3] : List Value) (xvI (.inr r.1)) (xWd G sh sc r.2 sl) := by
  refine xMet_of (cc := cX6_setSize) (maxL := 5) (ret := (some .int)) (by decide) (Nat.le_of_ble_eq_true rfl) ?_
  intro p e s m below meth c F hT hW hr hlocks htab ls hl
  have F : CallFix p m c cX6_setSize 5 s ([.ref (sh.1 12 0), .int a1, .int a2, .int a3] : List Value).toArray xB RX6 := F
  have hx := F.1
  have hb := F.2.1
  have hS : va_S (xA G) s.heap s.heap [] := va_S.rf
  have hl : lv_has ls 5 [(0, .ref (sh.1 12 0)), (1, .int a1), (2, .int a2), (3, .int a3)] := hl
  unfold fX6_setSize at hf
  refine lv_aload_n hx hb dX6_setSize_0 rfl (lv_at hl 0 rfl) ?_
  refine lv_aload_n hx hb dX6_setSize_1 rfl (lv_at hl 0 rfl) ?_
  refine lv_iload_n hx hb dX6_setSize_2 rfl (lv_at hl 1 rfl) ?_
  obtain ⟨v1, hc33, hf⟩ := oB_go hf
  refine xcallV (n := 1) F hT hW hS (xm_fix (by decide)) xce_12 rfl (kX6_isNoTenant l hl0 G sh sc sr sl a1  _ hc33) (xgV xw_926 xw_928 xwp_20 xw_4 xw_929) rfl xd_X6_isNoTenant ⟨Nat.le_of_ble_eq_true rfl, Nat.le_of_ble_eq_true rfl⟩ rfl hl.1 rfl (Nat.le_of_ble_eq_true rfl) dX6_setSize_3 ⟨Nat.le_of_ble_eq_true rfl, Nat.le_of_ble_eq_true rfl⟩ (fun v9 H locs hres hW hS => ?_) (fun E9 H locs q9 ce9 hres => by cases hres)
  cases hres
  refine W.eq (g2 := F0 m 6 ls (.int v1 :: .ref (sh.1 12 0) :: [])) rfl ?_
  refine lv_if_eq (tgt := 13) hx hb dX6_setSize_6 (by decide) (fun c2 => ?_) (fun c2 => ?_)
  · replace hf := if_t c2 hf
    refine lv_iload_n hx hb dX6_setSize_13 rfl (lv_at hl 2 rfl) ?_
    refine lv_iconst (v := 1) hx hb dX6_setSize_14 (by decide) ?_
    refine lv_iconst (v := 2) hx hb dX6_setSize_15 (by decide) ?_
    obtain ⟨v3, hc26, hf⟩ := oB_go hf
    refine xcallS (n := 3) F hT hW hS (kX6_in l hl0 G sh sc sr sl a2 1 2  _ hc26) (xgS xw_880 xw_881 xw_4 xw_882) rfl xd_X6_in.2 ⟨Nat.le_of_ble_eq_true rfl, Nat.le_of_ble_eq_true rfl⟩ rfl hl.1 rfl (Nat.le_of_ble_eq_true rfl) dX6_setSize_16 ⟨Nat.le_of_ble_eq_true rfl, Nat.le_of_ble_eq_true rfl⟩ (fun v9 H locs hres hW hS => ?_) (fun E9 H locs q9 ce9 hres => by cases hres)
    cases hres
    refine W.eq (g2 := F0 m 19 ls (.int v3 :: .ref (sh.1 12 0) :: [])) rfl ?_
    refine lv_if_eq (tgt := 36) hx hb dX6_setSize_19 (by decide) (fun c4 => ?_) (fun c4 => ?_)
    · replace hf := if_t c4 hf
      refine lv_iconst (v := 2) hx hb dX6_setSize_36 (by decide) ?_
      obtain ⟨v5, s6, hc10, hf⟩ := oP_go hf
      refine xcallV (n := 1) F hT hW hS (xm_fix (by decide)) xce_12 rfl (kX6_fails l hl0 G sh sc sr sl 2  _ hc10) (xgV xw_883 xw_885 xwp_14 xw_4 xw_886) rfl xd_X6_fails ⟨Nat.le_of_ble_eq_true rfl, Nat.le_of_ble_eq_true rfl⟩ rfl hl.1 rfl (Nat.le_of_ble_eq_true rfl) dX6_setSize_37 ⟨Nat.le_of_ble_eq_true rfl, Nat.le_of_ble_eq_true rfl⟩ (fun v9 H locs hres hW hS => ?_) (fun E9 H locs q9 ce9 hres => by cases hres)
      cases hres
      refine W.eq (g2 := F0 m 40 ls (.int v5 :: [])) rfl ?_
      refine lv_if_eq (tgt := 45) hx hb dX6_setSize_40 (by decide) (fun c7 => ?_) (fun c7 => ?_)
      · replace hf := if_t c7 hf
        refine lv_aload_n hx hb dX6_setSize_45 rfl (lv_at hl 0 rfl) ?_
        refine xget F hT hW xuX6 (xm_fix (by decide)) xce_12 rfl 4 (by decide) xw_804 rfl rfl dX6_setSize_46 ?_
        refine lv_iconst (v := 3) hx hb dX6_setSize_49 (by decide) ?_
        refine lv_iload_n hx hb dX6_setSize_50 rfl (lv_at hl 1 rfl) ?_
        refine lv_imul hx hb dX6_setSize_51 ?_
        refine lv_iload_n hx hb dX6_setSize_52 rfl (lv_at hl 2 rfl) ?_
        refine lv_iadd hx hb dX6_setSize_53 ?_
        obtain ⟨g9, hf⟩ := oG_go hf
        refine xmald (by decide) F hT hW (xm_fix (by decide)) (by decide) (xinb_ok g9) dX6_setSize_54 ?_
        refine lv_istore (lv' := [(4, .int (s6.1 4 ((3 * a1) + a2).toNatClampNeg)), (0, .ref (sh.1 12 0)), (1, .int a1), (2, .int a2), (3, .int a3)]) hx hb dX6_setSize_55 hl (by decide) rfl (fun ls hl => ?_)
        refine lv_aload_n hx hb dX6_setSize_57 rfl (lv_at hl 1 rfl) ?_
        refine xget F hT hW xuX6 (xm_fix (by decide)) xce_12 rfl 4 (by decide) xw_804 rfl rfl dX6_setSize_58 ?_
        refine lv_iconst (v := 3) hx hb dX6_setSize_61 (by decide) ?_
        refine lv_iload_n hx hb dX6_setSize_62 rfl (lv_at hl 2 rfl) ?_
        refine lv_imul hx hb dX6_setSize_63 ?_
        refine lv_iload_n hx hb dX6_setSize_64 rfl (lv_at hl 3 rfl) ?_
        refine lv_iadd hx hb dX6_setSize_65 ?_
        refine lv_iload_n hx hb dX6_setSize_66 rfl (lv_at hl 4 rfl) ?_
        obtain ⟨g8, hf⟩ := oG_go hf
        refine xmast (by decide) F hT hW hS (xm_fix (by decide)) (by decide) (xinb_ok g8) dX6_setSize_67 (fun H locs hW hS => ?_)
        refine lv_iload hx hb dX6_setSize_68 (lv_at hl 0 rfl) ?_
        cases hf
        exact xret_i (ty := .int) F hr hlocks hS rfl rfl hW (Nat.le_of_ble_eq_true rfl) (Nat.le_of_ble_eq_true rfl) dX6_setSize_70
      · replace hf := if_f c7 hf
        refine lv_iconst (v := 0) hx hb dX6_setSize_43 (by decide) ?_
        cases hf
        exact xret_i (ty := .int) F hr hlocks hS rfl rfl hW (Nat.le_of_ble_eq_true rfl) (Nat.le_of_ble_eq_true rfl) dX6_setSize_44
    · replace hf := if_f c4 hf
      refine lv_iload_n hx hb dX6_setSize_22 rfl (lv_at hl 3 rfl) ?_
      refine lv_iconst (v := 1) hx hb dX6_setSize_23 (by decide) ?_
      refine lv_bipush (v := 100) hx hb dX6_setSize_24 (by decide) ?_
      obtain ⟨v11, hc25, hf⟩ := oB_go hf
      refine xcallS (n := 3) F hT hW hS (kX6_in l hl0 G sh sc sr sl a3 1 100  _ hc25) (xgS xw_880 xw_881 xw_4 xw_882) rfl xd_X6_in.2 ⟨Nat.le_of_ble_eq_true rfl, Nat.le_of_ble_eq_true rfl⟩ rfl hl.1 rfl (Nat.le_of_ble_eq_true rfl) dX6_setSize_26 ⟨Nat.le_of_ble_eq_true rfl, Nat.le_of_ble_eq_true rfl⟩ (fun v9 H locs hres hW hS => ?_) (fun E9 H locs q9 ce9 hres => by cases hres)
      cases hres
      refine W.eq (g2 := F0 m 29 ls (.int v11 :: .ref (sh.1 12 0) :: [])) rfl ?_
      refine lv_if_eq (tgt := 36) hx hb dX6_setSize_29 (by decide) (fun c12 => ?_) (fun c12 => ?_)
      · replace hf := if_t c12 hf
        refine lv_iconst (v := 2) hx hb dX6_setSize_36 (by decide) ?_
        obtain ⟨v13, s14, hc18, hf⟩ := oP_go hf
        refine xcallV (n := 1) F hT hW hS (xm_fix (by decide)) xce_12 rfl (kX6_fails l hl0 G sh sc sr sl 2  _ hc18) (xgV xw_883 xw_885 xwp_14 xw_4 xw_886) rfl xd_X6_fails ⟨Nat.le_of_ble_eq_true rfl, Nat.le_of_ble_eq_true rfl⟩ rfl hl.1 rfl (Nat.le_of_ble_eq_true rfl) dX6_setSize_37 ⟨Nat.le_of_ble_eq_true rfl, Nat.le_of_ble_eq_true rfl⟩ (fun v9 H locs hres hW hS => ?_) (fun E9 H locs q9 ce9 hres => by cases hres)
        cases hres
        refine W.eq (g2 := F0 m 40 ls (.int v13 :: [])) rfl ?_
        refine lv_if_eq (tgt := 45) hx hb dX6_setSize_40 (by decide) (fun c15 => ?_) (fun c15 => ?_)
        · replace hf := if_t c15 hf
          refine lv_aload_n hx hb dX6_setSize_45 rfl (lv_at hl 0 rfl) ?_
          refine xget F hT hW xuX6 (xm_fix (by decide)) xce_12 rfl 4 (by decide) xw_804 rfl rfl dX6_setSize_46 ?_
          refine lv_iconst (v := 3) hx hb dX6_setSize_49 (by decide) ?_
          refine lv_iload_n hx hb dX6_setSize_50 rfl (lv_at hl 1 rfl) ?_
          refine lv_imul hx hb dX6_setSize_51 ?_
          refine lv_iload_n hx hb dX6_setSize_52 rfl (lv_at hl 2 rfl) ?_
          refine lv_iadd hx hb dX6_setSize_53 ?_
          obtain ⟨g17, hf⟩ := oG_go hf
          refine xmald (by decide) F hT hW (xm_fix (by decide)) (by decide) (xinb_ok g17) dX6_setSize_54 ?_
          refine lv_istore (lv' := [(4, .int (s14.1 4 ((3 * a1) + a2).toNatClampNeg)), (0, .ref (sh.1 12 0)), (1, .int a1), (2, .int a2), (3, .int a3)]) hx hb dX6_setSize_55 hl (by decide) rfl (fun ls hl => ?_)
          refine lv_aload_n hx hb dX6_setSize_57 rfl (lv_at hl 1 rfl) ?_
          refine xget F hT hW xuX6 (xm_fix (by decide)) xce_12 rfl 4 (by decide) xw_804 rfl rfl dX6_setSize_58 ?_
          refine lv_iconst (v := 3) hx hb dX6_setSize_61 (by decide) ?_
          refine lv_iload_n hx hb dX6_setSize_62 rfl (lv_at hl 2 rfl) ?_
          refine lv_imul hx hb dX6_setSize_63 ?_
          refine lv_iload_n hx hb dX6_setSize_64 rfl (lv_at hl 3 rfl) ?_
          refine lv_iadd hx hb dX6_setSize_65 ?_
          refine lv_iload_n hx hb dX6_setSize_66 rfl (lv_at hl 4 rfl) ?_
          obtain ⟨g16, hf⟩ := oG_go hf
          refine xmast (by decide) F hT hW hS (xm_fix (by decide)) (by decide) (xinb_ok g16) dX6_setSize_67 (fun H locs hW hS => ?_)
          refine lv_iload hx hb dX6_setSize_68 (lv_at hl 0 rfl) ?_
          cases hf
          exact xret_i (ty := .int) F hr hlocks hS rfl rfl hW (Nat.le_of_ble_eq_true rfl) (Nat.le_of_ble_eq_true rfl) dX6_setSize_70
        · replace hf := if_f c15 hf
          refine lv_iconst (v := 0) hx hb dX6_setSize_43 (by decide) ?_
          cases hf
          exact xret_i (ty := .int) F hr hlocks hS rfl rfl hW (Nat.le_of_ble_eq_true rfl) (Nat.le_of_ble_eq_true rfl) dX6_setSize_44
      · replace hf := if_f c12 hf
        refine lv_iconst (v := 0) hx hb dX6_setSize_32 (by decide) ?_
        refine lv_goto (tgt := 37) hx hb dX6_setSize_33 (by decide) ?_
        obtain ⟨v19, s20, hc24, hf⟩ := oP_go hf
        refine xcallV (n := 1) F hT hW hS (xm_fix (by decide)) xce_12 rfl (kX6_fails l hl0 G sh sc sr sl 0  _ hc24) (xgV xw_883 xw_885 xwp_14 xw_4 xw_886) rfl xd_X6_fails ⟨Nat.le_of_ble_eq_true rfl, Nat.le_of_ble_eq_true rfl⟩ rfl hl.1 rfl (Nat.le_of_ble_eq_true rfl) dX6_setSize_37 ⟨Nat.le_of_ble_eq_true rfl, Nat.le_of_ble_eq_true rfl⟩ (fun v9 H locs hres hW hS => ?_) (fun E9 H locs q9 ce9 hres => by cases hres)
        cases hres
        refine W.eq (g2 := F0 m 40 ls (.int v19 :: [])) rfl ?_
        refine lv_if_eq (tgt := 45) hx hb dX6_setSize_40 (by decide) (fun c21 => ?_) (fun c21 => ?_)
        · replace hf := if_t c21 hf
          refine lv_aload_n hx hb dX6_setSize_45 rfl (lv_at hl 0 rfl) ?_
          refine xget F hT hW xuX6 (xm_fix (by decide)) xce_12 rfl 4 (by decide) xw_804 rfl rfl dX6_setSize_46 ?_
          refine lv_iconst (v := 3) hx hb dX6_setSize_49 (by decide) ?_
          refine lv_iload_n hx hb dX6_setSize_50 rfl (lv_at hl 1 rfl) ?_
          refine lv_imul hx hb dX6_setSize_51 ?_
          refine lv_iload_n hx hb dX6_setSize_52 rfl (lv_at hl 2 rfl) ?_
          refine lv_iadd hx hb dX6_setSize_53 ?_
          obtain ⟨g23, hf⟩ := oG_go hf
          refine xmald (by decide) F hT hW (xm_fix (by decide)) (by decide) (xinb_ok g23) dX6_setSize_54 ?_
          refine lv_istore (lv' := [(4, .int (s20.1 4 ((3 * a1) + a2).toNatClampNeg)), (0, .ref (sh.1 12 0)), (1, .int a1), (2, .int a2), (3, .int a3)]) hx hb dX6_setSize_55 hl (by decide) rfl (fun ls hl => ?_)
          refine lv_aload_n hx hb dX6_setSize_57 rfl (lv_at hl 1 rfl) ?_
          refine xget F hT hW xuX6 (xm_fix (by decide)) xce_12 rfl 4 (by decide) xw_804 rfl rfl dX6_setSize_58 ?_
          refine lv_iconst (v := 3) hx hb dX6_setSize_61 (by decide) ?_
          refine lv_iload_n hx hb dX6_setSize_62 rfl (lv_at hl 2 rfl) ?_
          refine lv_imul hx hb dX6_setSize_63 ?_
          refine lv_iload_n hx hb dX6_setSize_64 rfl (lv_at hl 3 rfl) ?_
          refine lv_iadd hx hb dX6_setSize_65 ?_
          refine lv_iload_n hx hb dX6_setSize_66 rfl (lv_at hl 4 rfl) ?_
          obtain ⟨g22, hf⟩ := oG_go hf
          refine xmast (by decide) F hT hW hS (xm_fix (by decide)) (by decide) (xinb_ok g22) dX6_setSize_67 (fun H locs hW hS => ?_)
          refine lv_iload hx hb dX6_setSize_68 (lv_at hl 0 rfl) ?_
          cases hf
          exact xret_i (ty := .int) F hr hlocks hS rfl rfl hW (Nat.le_of_ble_eq_true rfl) (Nat.le_of_ble_eq_true rfl) dX6_setSize_70
        · replace hf := if_f c21 hf
          refine lv_iconst (v := 0) hx hb dX6_setSize_43 (by decide) ?_
          cases hf
          exact xret_i (ty := .int) F hr hlocks hS rfl rfl hW (Nat.le_of_ble_eq_true rfl) (Nat.le_of_ble_eq_true rfl) dX6_setSize_44
  · replace hf := if_f c2 hf
    refine lv_iconst (v := 1) hx hb dX6_setSize_9 (by decide) ?_
    refine lv_goto (tgt := 37) hx hb dX6_setSize_10 (by decide) ?_
    obtain ⟨v27, s28, hc32, hf⟩ := oP_go hf
    refine xcallV (n := 1) F hT hW hS (xm_fix (by decide)) xce_12 rfl (kX6_fails l hl0 G sh sc sr sl 1  _ hc32) (xgV xw_883 xw_885 xwp_14 xw_4 xw_886) rfl xd_X6_fails ⟨Nat.le_of_ble_eq_true rfl, Nat.le_of_ble_eq_true rfl⟩ rfl hl.1 rfl (Nat.le_of_ble_eq_true rfl) dX6_setSize_37 ⟨Nat.le_of_ble_eq_true rfl, Nat.le_of_ble_eq_true rfl⟩ (fun v9 H locs hres hW hS => ?_) (fun E9 H locs q9 ce9 hres => by cases hres)
    cases hres
    refine W.eq (g2 := F0 m 40 ls (.int v27 :: [])) rfl ?_
    refine lv_if_eq (tgt := 45) hx hb dX6_setSize_40 (by decide) (fun c29 => ?_) (fun c29 => ?_)
    · replace hf := if_t c29 hf
      refine lv_aload_n hx hb dX6_setSize_45 rfl (lv_at hl 0 rfl) ?_
      refine xget F hT hW xuX6 (xm_fix (by decide)) xce_12 rfl 4 (by decide) xw_804 rfl rfl dX6_setSize_46 ?_
      refine lv_iconst (v := 3) hx hb dX6_setSize_49 (by decide) ?_
      refine lv_iload_n hx hb dX6_setSize_50 rfl (lv_at hl 1 rfl) ?_
      refine lv_imul hx hb dX6_setSize_51 ?_
      refine lv_iload_n hx hb dX6_setSize_52 rfl (lv_at hl 2 rfl) ?_
      refine lv_iadd hx hb dX6_setSize_53 ?_
      obtain ⟨g31, hf⟩ := oG_go hf
      refine xmald (by decide) F hT hW (xm_fix (by decide)) (by decide) (xinb_ok g31) dX6_setSize_54 ?_
      refine lv_istore (lv' := [(4, .int (s28.1 4 ((3 * a1) + a2).toNatClampNeg)), (0, .ref (sh.1 12 0)), (1, .int a1), (2, .int a2), (3, .int a3)]) hx hb dX6_setSize_55 hl (by decide) rfl (fun ls hl => ?_)
      refine lv_aload_n hx hb dX6_setSize_57 rfl (lv_at hl 1 rfl) ?_
      refine xget F hT hW xuX6 (xm_fix (by decide)) xce_12 rfl 4 (by decide) xw_804 rfl rfl dX6_setSize_58 ?_
      refine lv_iconst (v := 3) hx hb dX6_setSize_61 (by decide) ?_
      refine lv_iload_n hx hb dX6_setSize_62 rfl (lv_at hl 2 rfl) ?_
      refine lv_imul hx hb dX6_setSize_63 ?_
      refine lv_iload_n hx hb dX6_setSize_64 rfl (lv_at hl 3 rfl) ?_
      refine lv_iadd hx hb dX6_setSize_65 ?_
      refine lv_iload_n hx hb dX6_setSize_66 rfl (lv_at hl 4 rfl) ?_
      obtain ⟨g30, hf⟩ := oG_go hf
      refine xmast (by decide) F hT hW hS (xm_fix (by decide)) (by decide) (xinb_ok g30) dX6_setSize_67 (fun H locs hW hS => ?_)
      refine lv_iload hx hb dX6_setSize_68 (lv_at hl 0 rfl) ?_
      cases hf
      exact xret_i (ty := .int) F hr hlocks hS rfl rfl hW (Nat.le_of_ble_eq_true rfl) (Nat.le_of_ble_eq_true rfl) dX6_setSize_70
    · replace hf := if_f c29 hf
      refine lv_iconst (v := 0) hx hb dX6_setSize_43 (by decide) ?_
      cases hf
      exact xret_i (ty := .int) F hr hlocks hS rfl rfl hW (Nat.le_of_ble_eq_true rfl) (Nat.le_of_ble_eq_true rfl) dX6_setSize_44
abbrev rX6_setWindow : Room := { frames := 2, cells := 0, slots := 0, locals := 43 }
abbrev zX6_setWindow : List Cond := Cond.code yX6_setWindow cX6_setWindow 4 (some .int) :: xB
theorem xd_X6_setWindow : yX6_setWindow.cls = RX6 ∧ yX6_setWindow.cls ≠ "java/lang/invoke/MethodHandle" ∧ yX6_setWindow.cls ≠ "java/lang/invoke/VarHandle" ∧ (parseMethodDescriptor yX6_setWindow.desc).map (fun d => d.parameters.length) = some 3 := by decide +kernel
def fX6_setWindow (a1 : Int32) (a2 : Int32) (a3 : Int32) (sr : xSR) : Option (Int32 × xSR) := oB (fX6_isNoTenant a1 sr) (fun v1 => (if v1 = 0 then oB (fX6_in a2 0 23 sr) (fun v3 => (if v3 = 0 then oP (fX6_fails 2 sr) (fun v5 s6 => (if v5 = 0 then oG (xinb a1 6) (oG (xinb a1 6) ((if a3 ≤ a2 then some (((a3 - a2) + 24), (xuR (xuR s6.1 6 a1.toNatClampNeg a2, s6.2).1 7 a1.toNatClampNeg a3, (xuR s6.1 6 a1.toNatClampNeg a2, s6.2).2)) else some ((a3 - a2), (xuR (xuR s6.1 6 a1.toNatClampNeg a2, s6.2).1 7 a1.toNatClampNeg a3, (xuR s6.1 6 a1.toNatClampNeg a2, s6.2).2))))) else some (0, s6))) else oB (fX6_in a3 0 23 sr) (fun v12 => (if v12 = 0 then oP (fX6_fails 2 sr) (fun v14 s15 => (if v14 = 0 then oG (xinb a1 6) (oG (xinb a1 6) ((if a3 ≤ a2 then some (((a3 - a2) + 24), (xuR (xuR s15.1 6 a1.toNatClampNeg a2, s15.2).1 7 a1.toNatClampNeg a3, (xuR s15.1 6 a1.toNatClampNeg a2, s15.2).2)) else some ((a3 - a2), (xuR (xuR s15.1 6 a1.toNatClampNeg a2, s15.2).1 7 a1.toNatClampNeg a3, (xuR s15.1 6 a1.toNatClampNeg a2, s15.2).2))))) else some (0, s15))) else oP (fX6_fails 0 sr) (fun v21 s22 => (if v21 = 0 then oG (xinb a1 6) (oG (xinb a1 6) ((if a3 ≤ a2 then some (((a3 - a2) + 24), (xuR (xuR s22.1 6 a1.toNatClampNeg a2, s22.2).1 7 a1.toNatClampNeg a3, (xuR s22.1 6 a1.toNatClampNeg a2, s22.2).2)) else some ((a3 - a2), (xuR (xuR s22.1 6 a1.toNatClampNeg a2, s22.2).1 7 a1.toNatClampNeg a3, (xuR s22.1 6 a1.toNatClampNeg a2, s22.2).2))))) else some (0, s22))))))) else oP (fX6_fails 1 sr) (fun v30 s31 => (if v30 = 0 then oG (xinb a1 6) (oG (xinb a1 6) ((if a3 ≤ a2 then some (((a3 - a2) + 24), (xuR (xuR s31.1 6 a1.toNatClampNeg a2, s31.2).1 7 a1.toNatClampNeg a3, (xuR s31.1 6 a1.toNatClampNeg a2, s31.2).2)) else some ((a3 - a2), (xuR (xuR s31.1 6 a1.toNatClampNeg a2, s31.2).1 7 a1.toNatClampNeg a3, (xuR s31.1 6 a1.toNatClampNeg a2, s31.2).2))))) else some (0, s31)))))
set_option maxHeartbeats 4000000 in
set_option maxRecDepth 100000 in
theorem kX6_setWindow (l : Launch) (hl0 : l.stackTraces = false) (G : xG) (sh : xSh) (sc : xSC) (sr : xSR) (sl : xSL) (a1 : Int32) (a2 : Int32) (a3 : Int32) (r : (Int32 × xSR)) (hf : fX6_setWindow a1 a2 a3 sr = some r) : xMet l yX6_setWindow zX6_setWindow rX6_setWindow G sh sc sr sl ([.ref (sh.1 12 0), .int a1, .int a2, .int a3] : List Value) (xvI (.inr r.1)) (xWd G sh sc r.2 sl) := by
  refine xMet_of (cc := cX6_setWindow) (maxL := 4) (ret := (some .int)) (by decide) (Nat.le_of_ble_eq_true rfl) ?_
  intro p e s m below meth c F hT hW hr hlocks htab ls hl
  have F : CallFix p m c cX6_setWindow 4 s ([.ref (sh.1 12 0), .int a1, .int a2, .int a3] : List Value).toArray xB RX6 := F
  have hx := F.1
  have hb := F.2.1
  have hS : va_S (xA G) s.heap s.heap [] := va_S.rf
  have hl : lv_has ls 4 [(0, .ref (sh.1 12 0)), (1, .int a1), (2, .int a2), (3, .int a3)] := hl
  unfold fX6_setWindow at hf
  refine lv_aload_n hx hb dX6_setWindow_0 rfl (lv_at hl 0 rfl) ?_
  refine lv_aload_n hx hb dX6_setWindow_1 rfl (lv_at hl 0 rfl) ?_
  refine lv_iload_n hx hb dX6_setWindow_2 rfl (lv_at hl 1 rfl) ?_
  obtain ⟨v1, hc37, hf⟩ := oB_go hf
  refine xcallV (n := 1) F hT hW hS (xm_fix (by decide)) xce_12 rfl (kX6_isNoTenant l hl0 G sh sc sr sl a1  _ hc37) (xgV xw_926 xw_928 xwp_20 xw_4 xw_929) rfl xd_X6_isNoTenant ⟨Nat.le_of_ble_eq_true rfl, Nat.le_of_ble_eq_true rfl⟩ rfl hl.1 rfl (Nat.le_of_ble_eq_true rfl) dX6_setWindow_3 ⟨Nat.le_of_ble_eq_true rfl, Nat.le_of_ble_eq_true rfl⟩ (fun v9 H locs hres hW hS => ?_) (fun E9 H locs q9 ce9 hres => by cases hres)
  cases hres
  refine W.eq (g2 := F0 m 6 ls (.int v1 :: .ref (sh.1 12 0) :: [])) rfl ?_
  refine lv_if_eq (tgt := 13) hx hb dX6_setWindow_6 (by decide) (fun c2 => ?_) (fun c2 => ?_)
  · replace hf := if_t c2 hf
    refine lv_iload_n hx hb dX6_setWindow_13 rfl (lv_at hl 2 rfl) ?_
    refine lv_iconst (v := 0) hx hb dX6_setWindow_14 (by decide) ?_
    refine lv_bipush (v := 23) hx hb dX6_setWindow_15 (by decide) ?_
    obtain ⟨v3, hc29, hf⟩ := oB_go hf
    refine xcallS (n := 3) F hT hW hS (kX6_in l hl0 G sh sc sr sl a2 0 23  _ hc29) (xgS xw_880 xw_881 xw_4 xw_882) rfl xd_X6_in.2 ⟨Nat.le_of_ble_eq_true rfl, Nat.le_of_ble_eq_true rfl⟩ rfl hl.1 rfl (Nat.le_of_ble_eq_true rfl) dX6_setWindow_17 ⟨Nat.le_of_ble_eq_true rfl, Nat.le_of_ble_eq_true rfl⟩ (fun v9 H locs hres hW hS => ?_) (fun E9 H locs q9 ce9 hres => by cases hres)
    cases hres
    refine W.eq (g2 := F0 m 20 ls (.int v3 :: .ref (sh.1 12 0) :: [])) rfl ?_
    refine lv_if_eq (tgt := 37) hx hb dX6_setWindow_20 (by decide) (fun c4 => ?_) (fun c4 => ?_)
    · replace hf := if_t c4 hf
      refine lv_iconst (v := 2) hx hb dX6_setWindow_37 (by decide) ?_
      obtain ⟨v5, s6, hc11, hf⟩ := oP_go hf
      refine xcallV (n := 1) F hT hW hS (xm_fix (by decide)) xce_12 rfl (kX6_fails l hl0 G sh sc sr sl 2  _ hc11) (xgV xw_883 xw_885 xwp_14 xw_4 xw_886) rfl xd_X6_fails ⟨Nat.le_of_ble_eq_true rfl, Nat.le_of_ble_eq_true rfl⟩ rfl hl.1 rfl (Nat.le_of_ble_eq_true rfl) dX6_setWindow_38 ⟨Nat.le_of_ble_eq_true rfl, Nat.le_of_ble_eq_true rfl⟩ (fun v9 H locs hres hW hS => ?_) (fun E9 H locs q9 ce9 hres => by cases hres)
      cases hres
      refine W.eq (g2 := F0 m 41 ls (.int v5 :: [])) rfl ?_
      refine lv_if_eq (tgt := 46) hx hb dX6_setWindow_41 (by decide) (fun c7 => ?_) (fun c7 => ?_)
      · replace hf := if_t c7 hf
        refine lv_aload_n hx hb dX6_setWindow_46 rfl (lv_at hl 0 rfl) ?_
        refine xget F hT hW xuX6 (xm_fix (by decide)) xce_12 rfl 6 (by decide) xw_806 rfl rfl dX6_setWindow_47 ?_
        refine lv_iload_n hx hb dX6_setWindow_50 rfl (lv_at hl 1 rfl) ?_
        refine lv_iload_n hx hb dX6_setWindow_51 rfl (lv_at hl 2 rfl) ?_
        obtain ⟨g10, hf⟩ := oG_go hf
        refine xmast (by decide) F hT hW hS (xm_fix (by decide)) (by decide) (xinb_ok g10) dX6_setWindow_52 (fun H locs hW hS => ?_)
        refine lv_aload_n hx hb dX6_setWindow_53 rfl (lv_at hl 0 rfl) ?_
        refine xget F hT hW xuX6 (xm_fix (by decide)) xce_12 rfl 7 (by decide) xw_807 rfl rfl dX6_setWindow_54 ?_
        refine lv_iload_n hx hb dX6_setWindow_57 rfl (lv_at hl 1 rfl) ?_
        refine lv_iload_n hx hb dX6_setWindow_58 rfl (lv_at hl 3 rfl) ?_
        obtain ⟨g9, hf⟩ := oG_go hf
        refine xmast (by decide) F hT hW hS (xm_fix (by decide)) (by decide) (xinb_ok g9) dX6_setWindow_59 (fun H locs hW hS => ?_)
        refine lv_iload_n hx hb dX6_setWindow_60 rfl (lv_at hl 2 rfl) ?_
        refine lv_iload_n hx hb dX6_setWindow_61 rfl (lv_at hl 3 rfl) ?_
        refine lv_icmp_ge (tgt := 71) hx hb dX6_setWindow_62 (by decide) (fun c8 => ?_) (fun c8 => ?_)
        · replace hf := if_t c8 hf
          refine lv_iload_n hx hb dX6_setWindow_71 rfl (lv_at hl 3 rfl) ?_
          refine lv_iload_n hx hb dX6_setWindow_72 rfl (lv_at hl 2 rfl) ?_
          refine lv_isub hx hb dX6_setWindow_73 ?_
          refine lv_bipush (v := 24) hx hb dX6_setWindow_74 (by decide) ?_
          refine lv_iadd hx hb dX6_setWindow_76 ?_
          cases hf
          exact xret_i (ty := .int) F hr hlocks hS rfl rfl hW (Nat.le_of_ble_eq_true rfl) (Nat.le_of_ble_eq_true rfl) dX6_setWindow_77
        · replace hf := if_f c8 hf
          refine lv_iload_n hx hb dX6_setWindow_65 rfl (lv_at hl 3 rfl) ?_
          refine lv_iload_n hx hb dX6_setWindow_66 rfl (lv_at hl 2 rfl) ?_
          refine lv_isub hx hb dX6_setWindow_67 ?_
          refine lv_goto (tgt := 77) hx hb dX6_setWindow_68 (by decide) ?_
          cases hf
          exact xret_i (ty := .int) F hr hlocks hS rfl rfl hW (Nat.le_of_ble_eq_true rfl) (Nat.le_of_ble_eq_true rfl) dX6_setWindow_77
      · replace hf := if_f c7 hf
        refine lv_iconst (v := 0) hx hb dX6_setWindow_44 (by decide) ?_
        cases hf
        exact xret_i (ty := .int) F hr hlocks hS rfl rfl hW (Nat.le_of_ble_eq_true rfl) (Nat.le_of_ble_eq_true rfl) dX6_setWindow_45
    · replace hf := if_f c4 hf
      refine lv_iload_n hx hb dX6_setWindow_23 rfl (lv_at hl 3 rfl) ?_
      refine lv_iconst (v := 0) hx hb dX6_setWindow_24 (by decide) ?_
      refine lv_bipush (v := 23) hx hb dX6_setWindow_25 (by decide) ?_
      obtain ⟨v12, hc28, hf⟩ := oB_go hf
      refine xcallS (n := 3) F hT hW hS (kX6_in l hl0 G sh sc sr sl a3 0 23  _ hc28) (xgS xw_880 xw_881 xw_4 xw_882) rfl xd_X6_in.2 ⟨Nat.le_of_ble_eq_true rfl, Nat.le_of_ble_eq_true rfl⟩ rfl hl.1 rfl (Nat.le_of_ble_eq_true rfl) dX6_setWindow_27 ⟨Nat.le_of_ble_eq_true rfl, Nat.le_of_ble_eq_true rfl⟩ (fun v9 H locs hres hW hS => ?_) (fun E9 H locs q9 ce9 hres => by cases hres)
      cases hres
      refine W.eq (g2 := F0 m 30 ls (.int v12 :: .ref (sh.1 12 0) :: [])) rfl ?_
      refine lv_if_eq (tgt := 37) hx hb dX6_setWindow_30 (by decide) (fun c13 => ?_) (fun c13 => ?_)
      · replace hf := if_t c13 hf
        refine lv_iconst (v := 2) hx hb dX6_setWindow_37 (by decide) ?_
        obtain ⟨v14, s15, hc20, hf⟩ := oP_go hf
        refine xcallV (n := 1) F hT hW hS (xm_fix (by decide)) xce_12 rfl (kX6_fails l hl0 G sh sc sr sl 2  _ hc20) (xgV xw_883 xw_885 xwp_14 xw_4 xw_886) rfl xd_X6_fails ⟨Nat.le_of_ble_eq_true rfl, Nat.le_of_ble_eq_true rfl⟩ rfl hl.1 rfl (Nat.le_of_ble_eq_true rfl) dX6_setWindow_38 ⟨Nat.le_of_ble_eq_true rfl, Nat.le_of_ble_eq_true rfl⟩ (fun v9 H locs hres hW hS => ?_) (fun E9 H locs q9 ce9 hres => by cases hres)
        cases hres
        refine W.eq (g2 := F0 m 41 ls (.int v14 :: [])) rfl ?_
        refine lv_if_eq (tgt := 46) hx hb dX6_setWindow_41 (by decide) (fun c16 => ?_) (fun c16 => ?_)
        · replace hf := if_t c16 hf
          refine lv_aload_n hx hb dX6_setWindow_46 rfl (lv_at hl 0 rfl) ?_
          refine xget F hT hW xuX6 (xm_fix (by decide)) xce_12 rfl 6 (by decide) xw_806 rfl rfl dX6_setWindow_47 ?_
          refine lv_iload_n hx hb dX6_setWindow_50 rfl (lv_at hl 1 rfl) ?_
          refine lv_iload_n hx hb dX6_setWindow_51 rfl (lv_at hl 2 rfl) ?_
          obtain ⟨g19, hf⟩ := oG_go hf
          refine xmast (by decide) F hT hW hS (xm_fix (by decide)) (by decide) (xinb_ok g19) dX6_setWindow_52 (fun H locs hW hS => ?_)
          refine lv_aload_n hx hb dX6_setWindow_53 rfl (lv_at hl 0 rfl) ?_
          refine xget F hT hW xuX6 (xm_fix (by decide)) xce_12 rfl 7 (by decide) xw_807 rfl rfl dX6_setWindow_54 ?_
          refine lv_iload_n hx hb dX6_setWindow_57 rfl (lv_at hl 1 rfl) ?_
          refine lv_iload_n hx hb dX6_setWindow_58 rfl (lv_at hl 3 rfl) ?_
          obtain ⟨g18, hf⟩ := oG_go hf
          refine xmast (by decide) F hT hW hS (xm_fix (by decide)) (by decide) (xinb_ok g18) dX6_setWindow_59 (fun H locs hW hS => ?_)
          refine lv_iload_n hx hb dX6_setWindow_60 rfl (lv_at hl 2 rfl) ?_
          refine lv_iload_n hx hb dX6_setWindow_61 rfl (lv_at hl 3 rfl) ?_
          refine lv_icmp_ge (tgt := 71) hx hb dX6_setWindow_62 (by decide) (fun c17 => ?_) (fun c17 => ?_)
          · replace hf := if_t c17 hf
            refine lv_iload_n hx hb dX6_setWindow_71 rfl (lv_at hl 3 rfl) ?_
            refine lv_iload_n hx hb dX6_setWindow_72 rfl (lv_at hl 2 rfl) ?_
            refine lv_isub hx hb dX6_setWindow_73 ?_
            refine lv_bipush (v := 24) hx hb dX6_setWindow_74 (by decide) ?_
            refine lv_iadd hx hb dX6_setWindow_76 ?_
            cases hf
            exact xret_i (ty := .int) F hr hlocks hS rfl rfl hW (Nat.le_of_ble_eq_true rfl) (Nat.le_of_ble_eq_true rfl) dX6_setWindow_77
          · replace hf := if_f c17 hf
            refine lv_iload_n hx hb dX6_setWindow_65 rfl (lv_at hl 3 rfl) ?_
            refine lv_iload_n hx hb dX6_setWindow_66 rfl (lv_at hl 2 rfl) ?_
            refine lv_isub hx hb dX6_setWindow_67 ?_
            refine lv_goto (tgt := 77) hx hb dX6_setWindow_68 (by decide) ?_
            cases hf
            exact xret_i (ty := .int) F hr hlocks hS rfl rfl hW (Nat.le_of_ble_eq_true rfl) (Nat.le_of_ble_eq_true rfl) dX6_setWindow_77
        · replace hf := if_f c16 hf
          refine lv_iconst (v := 0) hx hb dX6_setWindow_44 (by decide) ?_
          cases hf
          exact xret_i (ty := .int) F hr hlocks hS rfl rfl hW (Nat.le_of_ble_eq_true rfl) (Nat.le_of_ble_eq_true rfl) dX6_setWindow_45
      · replace hf := if_f c13 hf
        refine lv_iconst (v := 0) hx hb dX6_setWindow_33 (by decide) ?_
        refine lv_goto (tgt := 38) hx hb dX6_setWindow_34 (by decide) ?_
        obtain ⟨v21, s22, hc27, hf⟩ := oP_go hf
        refine xcallV (n := 1) F hT hW hS (xm_fix (by decide)) xce_12 rfl (kX6_fails l hl0 G sh sc sr sl 0  _ hc27) (xgV xw_883 xw_885 xwp_14 xw_4 xw_886) rfl xd_X6_fails ⟨Nat.le_of_ble_eq_true rfl, Nat.le_of_ble_eq_true rfl⟩ rfl hl.1 rfl (Nat.le_of_ble_eq_true rfl) dX6_setWindow_38 ⟨Nat.le_of_ble_eq_true rfl, Nat.le_of_ble_eq_true rfl⟩ (fun v9 H locs hres hW hS => ?_) (fun E9 H locs q9 ce9 hres => by cases hres)
        cases hres
        refine W.eq (g2 := F0 m 41 ls (.int v21 :: [])) rfl ?_
        refine lv_if_eq (tgt := 46) hx hb dX6_setWindow_41 (by decide) (fun c23 => ?_) (fun c23 => ?_)
        · replace hf := if_t c23 hf
          refine lv_aload_n hx hb dX6_setWindow_46 rfl (lv_at hl 0 rfl) ?_
          refine xget F hT hW xuX6 (xm_fix (by decide)) xce_12 rfl 6 (by decide) xw_806 rfl rfl dX6_setWindow_47 ?_
          refine lv_iload_n hx hb dX6_setWindow_50 rfl (lv_at hl 1 rfl) ?_
          refine lv_iload_n hx hb dX6_setWindow_51 rfl (lv_at hl 2 rfl) ?_
          obtain ⟨g26, hf⟩ := oG_go hf
          refine xmast (by decide) F hT hW hS (xm_fix (by decide)) (by decide) (xinb_ok g26) dX6_setWindow_52 (fun H locs hW hS => ?_)
          refine lv_aload_n hx hb dX6_setWindow_53 rfl (lv_at hl 0 rfl) ?_
          refine xget F hT hW xuX6 (xm_fix (by decide)) xce_12 rfl 7 (by decide) xw_807 rfl rfl dX6_setWindow_54 ?_
          refine lv_iload_n hx hb dX6_setWindow_57 rfl (lv_at hl 1 rfl) ?_
          refine lv_iload_n hx hb dX6_setWindow_58 rfl (lv_at hl 3 rfl) ?_
          obtain ⟨g25, hf⟩ := oG_go hf
          refine xmast (by decide) F hT hW hS (xm_fix (by decide)) (by decide) (xinb_ok g25) dX6_setWindow_59 (fun H locs hW hS => ?_)
          refine lv_iload_n hx hb dX6_setWindow_60 rfl (lv_at hl 2 rfl) ?_
          refine lv_iload_n hx hb dX6_setWindow_61 rfl (lv_at hl 3 rfl) ?_
          refine lv_icmp_ge (tgt := 71) hx hb dX6_setWindow_62 (by decide) (fun c24 => ?_) (fun c24 => ?_)
          · replace hf := if_t c24 hf
            refine lv_iload_n hx hb dX6_setWindow_71 rfl (lv_at hl 3 rfl) ?_
            refine lv_iload_n hx hb dX6_setWindow_72 rfl (lv_at hl 2 rfl) ?_
            refine lv_isub hx hb dX6_setWindow_73 ?_
            refine lv_bipush (v := 24) hx hb dX6_setWindow_74 (by decide) ?_
            refine lv_iadd hx hb dX6_setWindow_76 ?_
            cases hf
            exact xret_i (ty := .int) F hr hlocks hS rfl rfl hW (Nat.le_of_ble_eq_true rfl) (Nat.le_of_ble_eq_true rfl) dX6_setWindow_77
          · replace hf := if_f c24 hf
            refine lv_iload_n hx hb dX6_setWindow_65 rfl (lv_at hl 3 rfl) ?_
            refine lv_iload_n hx hb dX6_setWindow_66 rfl (lv_at hl 2 rfl) ?_
            refine lv_isub hx hb dX6_setWindow_67 ?_
            refine lv_goto (tgt := 77) hx hb dX6_setWindow_68 (by decide) ?_
            cases hf
            exact xret_i (ty := .int) F hr hlocks hS rfl rfl hW (Nat.le_of_ble_eq_true rfl) (Nat.le_of_ble_eq_true rfl) dX6_setWindow_77
        · replace hf := if_f c23 hf
          refine lv_iconst (v := 0) hx hb dX6_setWindow_44 (by decide) ?_
          cases hf
          exact xret_i (ty := .int) F hr hlocks hS rfl rfl hW (Nat.le_of_ble_eq_true rfl) (Nat.le_of_ble_eq_true rfl) dX6_setWindow_45
  · replace hf := if_f c2 hf
    refine lv_iconst (v := 1) hx hb dX6_setWindow_9 (by decide) ?_
    refine lv_goto (tgt := 38) hx hb dX6_setWindow_10 (by decide) ?_
    obtain ⟨v30, s31, hc36, hf⟩ := oP_go hf
    refine xcallV (n := 1) F hT hW hS (xm_fix (by decide)) xce_12 rfl (kX6_fails l hl0 G sh sc sr sl 1  _ hc36) (xgV xw_883 xw_885 xwp_14 xw_4 xw_886) rfl xd_X6_fails ⟨Nat.le_of_ble_eq_true rfl, Nat.le_of_ble_eq_true rfl⟩ rfl hl.1 rfl (Nat.le_of_ble_eq_true rfl) dX6_setWindow_38 ⟨Nat.le_of_ble_eq_true rfl, Nat.le_of_ble_eq_true rfl⟩ (fun v9 H locs hres hW hS => ?_) (fun E9 H locs q9 ce9 hres => by cases hres)
    cases hres
    refine W.eq (g2 := F0 m 41 ls (.int v30 :: [])) rfl ?_
    refine lv_if_eq (tgt := 46) hx hb dX6_setWindow_41 (by decide) (fun c32 => ?_) (fun c32 => ?_)
    · replace hf := if_t c32 hf
      refine lv_aload_n hx hb dX6_setWindow_46 rfl (lv_at hl 0 rfl) ?_
      refine xget F hT hW xuX6 (xm_fix (by decide)) xce_12 rfl 6 (by decide) xw_806 rfl rfl dX6_setWindow_47 ?_
      refine lv_iload_n hx hb dX6_setWindow_50 rfl (lv_at hl 1 rfl) ?_
      refine lv_iload_n hx hb dX6_setWindow_51 rfl (lv_at hl 2 rfl) ?_
      obtain ⟨g35, hf⟩ := oG_go hf
      refine xmast (by decide) F hT hW hS (xm_fix (by decide)) (by decide) (xinb_ok g35) dX6_setWindow_52 (fun H locs hW hS => ?_)
      refine lv_aload_n hx hb dX6_setWindow_53 rfl (lv_at hl 0 rfl) ?_
      refine xget F hT hW xuX6 (xm_fix (by decide)) xce_12 rfl 7 (by decide) xw_807 rfl rfl dX6_setWindow_54 ?_
      refine lv_iload_n hx hb dX6_setWindow_57 rfl (lv_at hl 1 rfl) ?_
      refine lv_iload_n hx hb dX6_setWindow_58 rfl (lv_at hl 3 rfl) ?_
      obtain ⟨g34, hf⟩ := oG_go hf
      refine xmast (by decide) F hT hW hS (xm_fix (by decide)) (by decide) (xinb_ok g34) dX6_setWindow_59 (fun H locs hW hS => ?_)
      refine lv_iload_n hx hb dX6_setWindow_60 rfl (lv_at hl 2 rfl) ?_
      refine lv_iload_n hx hb dX6_setWindow_61 rfl (lv_at hl 3 rfl) ?_
      refine lv_icmp_ge (tgt := 71) hx hb dX6_setWindow_62 (by decide) (fun c33 => ?_) (fun c33 => ?_)
      · replace hf := if_t c33 hf
        refine lv_iload_n hx hb dX6_setWindow_71 rfl (lv_at hl 3 rfl) ?_
        refine lv_iload_n hx hb dX6_setWindow_72 rfl (lv_at hl 2 rfl) ?_
        refine lv_isub hx hb dX6_setWindow_73 ?_
        refine lv_bipush (v := 24) hx hb dX6_setWindow_74 (by decide) ?_
        refine lv_iadd hx hb dX6_setWindow_76 ?_
        cases hf
        exact xret_i (ty := .int) F hr hlocks hS rfl rfl hW (Nat.le_of_ble_eq_true rfl) (Nat.le_of_ble_eq_true rfl) dX6_setWindow_77
      · replace hf := if_f c33 hf
        refine lv_iload_n hx hb dX6_setWindow_65 rfl (lv_at hl 3 rfl) ?_
        refine lv_iload_n hx hb dX6_setWindow_66 rfl (lv_at hl 2 rfl) ?_
        refine lv_isub hx hb dX6_setWindow_67 ?_
        refine lv_goto (tgt := 77) hx hb dX6_setWindow_68 (by decide) ?_
        cases hf
        exact xret_i (ty := .int) F hr hlocks hS rfl rfl hW (Nat.le_of_ble_eq_true rfl) (Nat.le_of_ble_eq_true rfl) dX6_setWindow_77
    · replace hf := if_f c32 hf
      refine lv_iconst (v := 0) hx hb dX6_setWindow_44 (by decide) ?_
      cases hf
      exact xret_i (ty := .int) F hr hlocks hS rfl rfl hW (Nat.le_of_ble_eq_true rfl) (Nat.le_of_ble_eq_true rfl) dX6_setWindow_45
abbrev rX6_shards : Room := { frames := 1, cells := 0, slots := 0, locals := 21 }
abbrev zX6_shards : List Cond := Cond.code yX6_shards cX6_shards 1 (some .int) :: xB
theorem xd_X6_shards : yX6_shards.cls = RX6 ∧ yX6_shards.cls ≠ "java/lang/invoke/MethodHandle" ∧ yX6_shards.cls ≠ "java/lang/invoke/VarHandle" ∧ (parseMethodDescriptor yX6_shards.desc).map (fun d => d.parameters.length) = some 0 := by decide +kernel
def fX6_shards (sr : xSR) : Option (Int32 × xSR) := oP (fX6_tells (sr.1 100 0) sr) (fun v1 s2 => some (v1, s2))
set_option maxHeartbeats 4000000 in
set_option maxRecDepth 100000 in
theorem kX6_shards (l : Launch) (hl0 : l.stackTraces = false) (G : xG) (sh : xSh) (sc : xSC) (sr : xSR) (sl : xSL) (r : (Int32 × xSR)) (hf : fX6_shards sr = some r) : xMet l yX6_shards zX6_shards rX6_shards G sh sc sr sl ([.ref (sh.1 12 0)] : List Value) (xvI (.inr r.1)) (xWd G sh sc r.2 sl) := by
  refine xMet_of (cc := cX6_shards) (maxL := 1) (ret := (some .int)) (by decide) (Nat.le_of_ble_eq_true rfl) ?_
  intro p e s m below meth c F hT hW hr hlocks htab ls hl
  have F : CallFix p m c cX6_shards 1 s ([.ref (sh.1 12 0)] : List Value).toArray xB RX6 := F
  have hx := F.1
  have hb := F.2.1
  have hS : va_S (xA G) s.heap s.heap [] := va_S.rf
  have hl : lv_has ls 1 [(0, .ref (sh.1 12 0))] := hl
  unfold fX6_shards at hf
  refine lv_aload_n hx hb dX6_shards_0 rfl (lv_at hl 0 rfl) ?_
  refine lv_aload_n hx hb dX6_shards_1 rfl (lv_at hl 0 rfl) ?_
  refine xget F hT hW xuX6 (xm_fix (by decide)) xce_12 rfl 0 (by decide) xw_800 rfl rfl dX6_shards_2 ?_
  obtain ⟨v1, s2, hc3, hf⟩ := oP_go hf
  refine xcallV (n := 1) F hT hW hS (xm_fix (by decide)) xce_12 rfl (kX6_tells l hl0 G sh sc sr sl (sr.1 100 0)  _ hc3) (xgV xw_994 xw_996 xwp_30 xw_4 xw_997) rfl xd_X6_tells ⟨Nat.le_of_ble_eq_true rfl, Nat.le_of_ble_eq_true rfl⟩ rfl hl.1 rfl (Nat.le_of_ble_eq_true rfl) dX6_shards_5 ⟨Nat.le_of_ble_eq_true rfl, Nat.le_of_ble_eq_true rfl⟩ (fun v9 H locs hres hW hS => ?_) (fun E9 H locs q9 ce9 hres => by cases hres)
  cases hres
  refine W.eq (g2 := F0 m 8 ls (.int v1 :: [])) rfl ?_
  cases hf
  exact xret_i (ty := .int) F hr hlocks hS rfl rfl hW (Nat.le_of_ble_eq_true rfl) (Nat.le_of_ble_eq_true rfl) dX6_shards_8
abbrev rX6_shareOf : Room := { frames := 3, cells := 0, slots := 0, locals := 68 }
abbrev zX6_shareOf : List Cond := Cond.code yX6_shareOf cX6_shareOf 3 (some .float) :: xB
theorem xd_X6_shareOf : yX6_shareOf.cls = RX6 ∧ yX6_shareOf.cls ≠ "java/lang/invoke/MethodHandle" ∧ yX6_shareOf.cls ≠ "java/lang/invoke/VarHandle" ∧ (parseMethodDescriptor yX6_shareOf.desc).map (fun d => d.parameters.length) = some 2 := by decide +kernel
def fX6_shareOf (a1 : Int32) (a2 : Int32) (sr : xSR) : Option (UInt32 × xSR) := oP (fX6_cannotAsk a1 a2 sr) (fun v1 s2 => (if v1 = 0 then oB (fX6_use a1 a2 s2) (fun v4 => oG (xinb ((3 * a1) + a2) 12) (oG (xn32 (FP.fdiv (FP.i2f v4) (FP.i2f (s2.1 1 ((3 * a1) + a2).toNatClampNeg)))) (some ((FP.fdiv (FP.i2f v4) (FP.i2f (s2.1 1 ((3 * a1) + a2).toNatClampNeg))), s2)))) else some (0, s2)))
set_option maxHeartbeats 4000000 in
set_option maxRecDepth 100000 in
theorem kX6_shareOf (l : Launch) (hl0 : l.stackTraces = false) (G : xG) (sh : xSh) (sc : xSC) (sr : xSR) (sl : xSL) (a1 : Int32) (a2 : Int32) (r : (UInt32 × xSR)) (hf : fX6_shareOf a1 a2 sr = some r) : xMet l yX6_shareOf zX6_shareOf rX6_shareOf G sh sc sr sl ([.ref (sh.1 12 0), .int a1, .int a2] : List Value) (xvF (.inr r.1)) (xWd G sh sc r.2 sl) := by
  refine xMet_of (cc := cX6_shareOf) (maxL := 3) (ret := (some .float)) (by decide) (Nat.le_of_ble_eq_true rfl) ?_
  intro p e s m below meth c F hT hW hr hlocks htab ls hl
  have F : CallFix p m c cX6_shareOf 3 s ([.ref (sh.1 12 0), .int a1, .int a2] : List Value).toArray xB RX6 := F
  have hx := F.1
  have hb := F.2.1
  have hS : va_S (xA G) s.heap s.heap [] := va_S.rf
  have hl : lv_has ls 3 [(0, .ref (sh.1 12 0)), (1, .int a1), (2, .int a2)] := hl
  unfold fX6_shareOf at hf
  refine lv_aload_n hx hb dX6_shareOf_0 rfl (lv_at hl 0 rfl) ?_
  refine lv_iload_n hx hb dX6_shareOf_1 rfl (lv_at hl 1 rfl) ?_
  refine lv_iload_n hx hb dX6_shareOf_2 rfl (lv_at hl 2 rfl) ?_
  obtain ⟨v1, s2, hc8, hf⟩ := oP_go hf
  refine xcallV (n := 2) F hT hW hS (xm_fix (by decide)) xce_12 rfl (kX6_cannotAsk l hl0 G sh sc sr sl a1 a2  _ hc8) (xgV xw_1046 xw_1048 xwp_33 xw_4 xw_1049) rfl xd_X6_cannotAsk ⟨Nat.le_of_ble_eq_true rfl, Nat.le_of_ble_eq_true rfl⟩ rfl hl.1 rfl (Nat.le_of_ble_eq_true rfl) dX6_shareOf_3 ⟨Nat.le_of_ble_eq_true rfl, Nat.le_of_ble_eq_true rfl⟩ (fun v9 H locs hres hW hS => ?_) (fun E9 H locs q9 ce9 hres => by cases hres)
  cases hres
  refine W.eq (g2 := F0 m 6 ls (.int v1 :: [])) rfl ?_
  refine lv_if_eq (tgt := 13) hx hb dX6_shareOf_6 (by decide) (fun c3 => ?_) (fun c3 => ?_)
  · replace hf := if_t c3 hf
    refine lv_aload_n hx hb dX6_shareOf_13 rfl (lv_at hl 0 rfl) ?_
    refine lv_iload_n hx hb dX6_shareOf_14 rfl (lv_at hl 1 rfl) ?_
    refine lv_iload_n hx hb dX6_shareOf_15 rfl (lv_at hl 2 rfl) ?_
    obtain ⟨v4, hc7, hf⟩ := oB_go hf
    refine xcallV (n := 2) F hT hW hS (xm_fix (by decide)) xce_12 rfl (kX6_use l hl0 G sh sc s2 sl a1 a2  _ hc7) (xgV xw_910 xw_912 xwp_17 xw_4 xw_913) rfl xd_X6_use ⟨Nat.le_of_ble_eq_true rfl, Nat.le_of_ble_eq_true rfl⟩ rfl hl.1 rfl (Nat.le_of_ble_eq_true rfl) dX6_shareOf_16 ⟨Nat.le_of_ble_eq_true rfl, Nat.le_of_ble_eq_true rfl⟩ (fun v9 H locs hres hW hS => ?_) (fun E9 H locs q9 ce9 hres => by cases hres)
    cases hres
    refine W.eq (g2 := F0 m 19 ls (.int v4 :: [])) rfl ?_
    refine lv_i2f hx hb dX6_shareOf_19 ?_
    refine lv_aload_n hx hb dX6_shareOf_20 rfl (lv_at hl 0 rfl) ?_
    refine xget F hT hW xuX6 (xm_fix (by decide)) xce_12 rfl 1 (by decide) xw_801 rfl rfl dX6_shareOf_21 ?_
    refine lv_iconst (v := 3) hx hb dX6_shareOf_24 (by decide) ?_
    refine lv_iload_n hx hb dX6_shareOf_25 rfl (lv_at hl 1 rfl) ?_
    refine lv_imul hx hb dX6_shareOf_26 ?_
    refine lv_iload_n hx hb dX6_shareOf_27 rfl (lv_at hl 2 rfl) ?_
    refine lv_iadd hx hb dX6_shareOf_28 ?_
    obtain ⟨g6, hf⟩ := oG_go hf
    refine xmald (by decide) F hT hW (xm_fix (by decide)) (by decide) (xinb_ok g6) dX6_shareOf_29 ?_
    refine lv_i2f hx hb dX6_shareOf_30 ?_
    obtain ⟨g5, hf⟩ := oG_go hf
    refine lv_fdiv hx hb dX6_shareOf_31 (xn32_ok g5) ?_
    cases hf
    exact xret_f F hr hlocks hS rfl hW (Nat.le_of_ble_eq_true rfl) (Nat.le_of_ble_eq_true rfl) dX6_shareOf_32
  · replace hf := if_f c3 hf
    refine lv_fconst0 hx hb dX6_shareOf_9 ?_
    refine lv_goto (tgt := 32) hx hb dX6_shareOf_10 (by decide) ?_
    cases hf
    exact xret_f F hr hlocks hS rfl hW (Nat.le_of_ble_eq_true rfl) (Nat.le_of_ble_eq_true rfl) dX6_shareOf_32
abbrev rX6_sizeOf : Room := { frames := 2, cells := 0, slots := 0, locals := 43 }
abbrev zX6_sizeOf : List Cond := Cond.code yX6_sizeOf cX6_sizeOf 3 (some .int) :: xB
theorem xd_X6_sizeOf : yX6_sizeOf.cls = RX6 ∧ yX6_sizeOf.cls ≠ "java/lang/invoke/MethodHandle" ∧ yX6_sizeOf.cls ≠ "java/lang/invoke/VarHandle" ∧ (parseMethodDescriptor yX6_sizeOf.desc).map (fun d => d.parameters.length) = some 2 := by decide +kernel
def fX6_sizeOf (a1 : Int32) (a2 : Int32) (sr : xSR) : Option (Int32 × xSR) := oB (fX6_isNoTenant a1 sr) (fun v1 => (if v1 = 0 then oB (fX6_isMeasure a2 sr) (fun v8 => (if v8 = 0 then oP (fX6_fails 1 sr) (fun v15 s16 => (if v15 = 0 then oG (xinb ((3 * a1) + a2) 18) (some ((s16.1 4 ((3 * a1) + a2).toNatClampNeg), s16)) else some (0, s16))) else oP (fX6_fails 0 sr) (fun v10 s11 => (if v10 = 0 then oG (xinb ((3 * a1) + a2) 18) (some ((s11.1 4 ((3 * a1) + a2).toNatClampNeg), s11)) else some (0, s11))))) else oP (fX6_fails 1 sr) (fun v3 s4 => (if v3 = 0 then oG (xinb ((3 * a1) + a2) 18) (some ((s4.1 4 ((3 * a1) + a2).toNatClampNeg), s4)) else some (0, s4)))))
set_option maxHeartbeats 4000000 in
set_option maxRecDepth 100000 in
theorem kX6_sizeOf (l : Launch) (hl0 : l.stackTraces = false) (G : xG) (sh : xSh) (sc : xSC) (sr : xSR) (sl : xSL) (a1 : Int32) (a2 : Int32) (r : (Int32 × xSR)) (hf : fX6_sizeOf a1 a2 sr = some r) : xMet l yX6_sizeOf zX6_sizeOf rX6_sizeOf G sh sc sr sl ([.ref (sh.1 12 0), .int a1, .int a2] : List Value) (xvI (.inr r.1)) (xWd G sh sc r.2 sl) := by
  refine xMet_of (cc := cX6_sizeOf) (maxL := 3) (ret := (some .int)) (by decide) (Nat.le_of_ble_eq_true rfl) ?_
  intro p e s m below meth c F hT hW hr hlocks htab ls hl
  have F : CallFix p m c cX6_sizeOf 3 s ([.ref (sh.1 12 0), .int a1, .int a2] : List Value).toArray xB RX6 := F
  have hx := F.1
  have hb := F.2.1
  have hS : va_S (xA G) s.heap s.heap [] := va_S.rf
  have hl : lv_has ls 3 [(0, .ref (sh.1 12 0)), (1, .int a1), (2, .int a2)] := hl
  unfold fX6_sizeOf at hf
  refine lv_aload_n hx hb dX6_sizeOf_0 rfl (lv_at hl 0 rfl) ?_
  refine lv_aload_n hx hb dX6_sizeOf_1 rfl (lv_at hl 0 rfl) ?_
  refine lv_iload_n hx hb dX6_sizeOf_2 rfl (lv_at hl 1 rfl) ?_
  obtain ⟨v1, hc21, hf⟩ := oB_go hf
  refine xcallV (n := 1) F hT hW hS (xm_fix (by decide)) xce_12 rfl (kX6_isNoTenant l hl0 G sh sc sr sl a1  _ hc21) (xgV xw_926 xw_928 xwp_20 xw_4 xw_929) rfl xd_X6_isNoTenant ⟨Nat.le_of_ble_eq_true rfl, Nat.le_of_ble_eq_true rfl⟩ rfl hl.1 rfl (Nat.le_of_ble_eq_true rfl) dX6_sizeOf_3 ⟨Nat.le_of_ble_eq_true rfl, Nat.le_of_ble_eq_true rfl⟩ (fun v9 H locs hres hW hS => ?_) (fun E9 H locs q9 ce9 hres => by cases hres)
  cases hres
  refine W.eq (g2 := F0 m 6 ls (.int v1 :: .ref (sh.1 12 0) :: [])) rfl ?_
  refine lv_if_ne (tgt := 16) hx hb dX6_sizeOf_6 (by decide) (fun c2 => ?_) (fun c2 => ?_)
  · replace hf := if_f c2 hf
    refine lv_iconst (v := 1) hx hb dX6_sizeOf_16 (by decide) ?_
    refine lv_goto (tgt := 21) hx hb dX6_sizeOf_17 (by decide) ?_
    obtain ⟨v3, s4, hc7, hf⟩ := oP_go hf
    refine xcallV (n := 1) F hT hW hS (xm_fix (by decide)) xce_12 rfl (kX6_fails l hl0 G sh sc sr sl 1  _ hc7) (xgV xw_883 xw_885 xwp_14 xw_4 xw_886) rfl xd_X6_fails ⟨Nat.le_of_ble_eq_true rfl, Nat.le_of_ble_eq_true rfl⟩ rfl hl.1 rfl (Nat.le_of_ble_eq_true rfl) dX6_sizeOf_21 ⟨Nat.le_of_ble_eq_true rfl, Nat.le_of_ble_eq_true rfl⟩ (fun v9 H locs hres hW hS => ?_) (fun E9 H locs q9 ce9 hres => by cases hres)
    cases hres
    refine W.eq (g2 := F0 m 24 ls (.int v3 :: [])) rfl ?_
    refine lv_if_eq (tgt := 31) hx hb dX6_sizeOf_24 (by decide) (fun c5 => ?_) (fun c5 => ?_)
    · replace hf := if_t c5 hf
      refine lv_aload_n hx hb dX6_sizeOf_31 rfl (lv_at hl 0 rfl) ?_
      refine xget F hT hW xuX6 (xm_fix (by decide)) xce_12 rfl 4 (by decide) xw_804 rfl rfl dX6_sizeOf_32 ?_
      refine lv_iconst (v := 3) hx hb dX6_sizeOf_35 (by decide) ?_
      refine lv_iload_n hx hb dX6_sizeOf_36 rfl (lv_at hl 1 rfl) ?_
      refine lv_imul hx hb dX6_sizeOf_37 ?_
      refine lv_iload_n hx hb dX6_sizeOf_38 rfl (lv_at hl 2 rfl) ?_
      refine lv_iadd hx hb dX6_sizeOf_39 ?_
      obtain ⟨g6, hf⟩ := oG_go hf
      refine xmald (by decide) F hT hW (xm_fix (by decide)) (by decide) (xinb_ok g6) dX6_sizeOf_40 ?_
      cases hf
      exact xret_i (ty := .int) F hr hlocks hS rfl rfl hW (Nat.le_of_ble_eq_true rfl) (Nat.le_of_ble_eq_true rfl) dX6_sizeOf_41
    · replace hf := if_f c5 hf
      refine lv_iconst (v := 0) hx hb dX6_sizeOf_27 (by decide) ?_
      refine lv_goto (tgt := 41) hx hb dX6_sizeOf_28 (by decide) ?_
      cases hf
      exact xret_i (ty := .int) F hr hlocks hS rfl rfl hW (Nat.le_of_ble_eq_true rfl) (Nat.le_of_ble_eq_true rfl) dX6_sizeOf_41
  · replace hf := if_t c2 hf
    refine lv_iload_n hx hb dX6_sizeOf_9 rfl (lv_at hl 2 rfl) ?_
    obtain ⟨v8, hc20, hf⟩ := oB_go hf
    refine xcallS (n := 1) F hT hW hS (kX6_isMeasure l hl0 G sh sc sr sl a2  _ hc20) (xgS xw_899 xw_900 xw_4 xw_901) rfl xd_X6_isMeasure.2 ⟨Nat.le_of_ble_eq_true rfl, Nat.le_of_ble_eq_true rfl⟩ rfl hl.1 rfl (Nat.le_of_ble_eq_true rfl) dX6_sizeOf_10 ⟨Nat.le_of_ble_eq_true rfl, Nat.le_of_ble_eq_true rfl⟩ (fun v9 H locs hres hW hS => ?_) (fun E9 H locs q9 ce9 hres => by cases hres)
    cases hres
    refine W.eq (g2 := F0 m 13 ls (.int v8 :: .ref (sh.1 12 0) :: [])) rfl ?_
    refine lv_if_ne (tgt := 20) hx hb dX6_sizeOf_13 (by decide) (fun c9 => ?_) (fun c9 => ?_)
    · replace hf := if_f c9 hf
      refine lv_iconst (v := 0) hx hb dX6_sizeOf_20 (by decide) ?_
      obtain ⟨v10, s11, hc14, hf⟩ := oP_go hf
      refine xcallV (n := 1) F hT hW hS (xm_fix (by decide)) xce_12 rfl (kX6_fails l hl0 G sh sc sr sl 0  _ hc14) (xgV xw_883 xw_885 xwp_14 xw_4 xw_886) rfl xd_X6_fails ⟨Nat.le_of_ble_eq_true rfl, Nat.le_of_ble_eq_true rfl⟩ rfl hl.1 rfl (Nat.le_of_ble_eq_true rfl) dX6_sizeOf_21 ⟨Nat.le_of_ble_eq_true rfl, Nat.le_of_ble_eq_true rfl⟩ (fun v9 H locs hres hW hS => ?_) (fun E9 H locs q9 ce9 hres => by cases hres)
      cases hres
      refine W.eq (g2 := F0 m 24 ls (.int v10 :: [])) rfl ?_
      refine lv_if_eq (tgt := 31) hx hb dX6_sizeOf_24 (by decide) (fun c12 => ?_) (fun c12 => ?_)
      · replace hf := if_t c12 hf
        refine lv_aload_n hx hb dX6_sizeOf_31 rfl (lv_at hl 0 rfl) ?_
        refine xget F hT hW xuX6 (xm_fix (by decide)) xce_12 rfl 4 (by decide) xw_804 rfl rfl dX6_sizeOf_32 ?_
        refine lv_iconst (v := 3) hx hb dX6_sizeOf_35 (by decide) ?_
        refine lv_iload_n hx hb dX6_sizeOf_36 rfl (lv_at hl 1 rfl) ?_
        refine lv_imul hx hb dX6_sizeOf_37 ?_
        refine lv_iload_n hx hb dX6_sizeOf_38 rfl (lv_at hl 2 rfl) ?_
        refine lv_iadd hx hb dX6_sizeOf_39 ?_
        obtain ⟨g13, hf⟩ := oG_go hf
        refine xmald (by decide) F hT hW (xm_fix (by decide)) (by decide) (xinb_ok g13) dX6_sizeOf_40 ?_
        cases hf
        exact xret_i (ty := .int) F hr hlocks hS rfl rfl hW (Nat.le_of_ble_eq_true rfl) (Nat.le_of_ble_eq_true rfl) dX6_sizeOf_41
      · replace hf := if_f c12 hf
        refine lv_iconst (v := 0) hx hb dX6_sizeOf_27 (by decide) ?_
        refine lv_goto (tgt := 41) hx hb dX6_sizeOf_28 (by decide) ?_
        cases hf
        exact xret_i (ty := .int) F hr hlocks hS rfl rfl hW (Nat.le_of_ble_eq_true rfl) (Nat.le_of_ble_eq_true rfl) dX6_sizeOf_41
    · replace hf := if_t c9 hf
      refine lv_iconst (v := 1) hx hb dX6_sizeOf_16 (by decide) ?_
      refine lv_goto (tgt := 21) hx hb dX6_sizeOf_17 (by decide) ?_
      obtain ⟨v15, s16, hc19, hf⟩ := oP_go hf
      refine xcallV (n := 1) F hT hW hS (xm_fix (by decide)) xce_12 rfl (kX6_fails l hl0 G sh sc sr sl 1  _ hc19) (xgV xw_883 xw_885 xwp_14 xw_4 xw_886) rfl xd_X6_fails ⟨Nat.le_of_ble_eq_true rfl, Nat.le_of_ble_eq_true rfl⟩ rfl hl.1 rfl (Nat.le_of_ble_eq_true rfl) dX6_sizeOf_21 ⟨Nat.le_of_ble_eq_true rfl, Nat.le_of_ble_eq_true rfl⟩ (fun v9 H locs hres hW hS => ?_) (fun E9 H locs q9 ce9 hres => by cases hres)
      cases hres
      refine W.eq (g2 := F0 m 24 ls (.int v15 :: [])) rfl ?_
      refine lv_if_eq (tgt := 31) hx hb dX6_sizeOf_24 (by decide) (fun c17 => ?_) (fun c17 => ?_)
      · replace hf := if_t c17 hf
        refine lv_aload_n hx hb dX6_sizeOf_31 rfl (lv_at hl 0 rfl) ?_
        refine xget F hT hW xuX6 (xm_fix (by decide)) xce_12 rfl 4 (by decide) xw_804 rfl rfl dX6_sizeOf_32 ?_
        refine lv_iconst (v := 3) hx hb dX6_sizeOf_35 (by decide) ?_
        refine lv_iload_n hx hb dX6_sizeOf_36 rfl (lv_at hl 1 rfl) ?_
        refine lv_imul hx hb dX6_sizeOf_37 ?_
        refine lv_iload_n hx hb dX6_sizeOf_38 rfl (lv_at hl 2 rfl) ?_
        refine lv_iadd hx hb dX6_sizeOf_39 ?_
        obtain ⟨g18, hf⟩ := oG_go hf
        refine xmald (by decide) F hT hW (xm_fix (by decide)) (by decide) (xinb_ok g18) dX6_sizeOf_40 ?_
        cases hf
        exact xret_i (ty := .int) F hr hlocks hS rfl rfl hW (Nat.le_of_ble_eq_true rfl) (Nat.le_of_ble_eq_true rfl) dX6_sizeOf_41
      · replace hf := if_f c17 hf
        refine lv_iconst (v := 0) hx hb dX6_sizeOf_27 (by decide) ?_
        refine lv_goto (tgt := 41) hx hb dX6_sizeOf_28 (by decide) ?_
        cases hf
        exact xret_i (ty := .int) F hr hlocks hS rfl rfl hW (Nat.le_of_ble_eq_true rfl) (Nat.le_of_ble_eq_true rfl) dX6_sizeOf_41
abbrev rX6_soundPlans : Room := { frames := 3, cells := 0, slots := 0, locals := 70 }
abbrev zX6_soundPlans : List Cond := Cond.code yX6_soundPlans cX6_soundPlans 1 (some .int) :: xB
theorem xd_X6_soundPlans : yX6_soundPlans.cls = RX6 ∧ yX6_soundPlans.cls ≠ "java/lang/invoke/MethodHandle" ∧ yX6_soundPlans.cls ≠ "java/lang/invoke/VarHandle" ∧ (parseMethodDescriptor yX6_soundPlans.desc).map (fun d => d.parameters.length) = some 0 := by decide +kernel
def fX6_soundPlans (sr : xSR) : Option (Int32 × xSR) := oP (fX6_sound  sr) (fun v1 s2 => oP (fX6_tells v1 s2) (fun v3 s4 => some (v3, s4)))
set_option maxHeartbeats 4000000 in
set_option maxRecDepth 100000 in
theorem kX6_soundPlans (l : Launch) (hl0 : l.stackTraces = false) (G : xG) (sh : xSh) (sc : xSC) (sr : xSR) (sl : xSL) (r : (Int32 × xSR)) (hf : fX6_soundPlans sr = some r) : xMet l yX6_soundPlans zX6_soundPlans rX6_soundPlans G sh sc sr sl ([.ref (sh.1 12 0)] : List Value) (xvI (.inr r.1)) (xWd G sh sc r.2 sl) := by
  refine xMet_of (cc := cX6_soundPlans) (maxL := 1) (ret := (some .int)) (by decide) (Nat.le_of_ble_eq_true rfl) ?_
  intro p e s m below meth c F hT hW hr hlocks htab ls hl
  have F : CallFix p m c cX6_soundPlans 1 s ([.ref (sh.1 12 0)] : List Value).toArray xB RX6 := F
  have hx := F.1
  have hb := F.2.1
  have hS : va_S (xA G) s.heap s.heap [] := va_S.rf
  have hl : lv_has ls 1 [(0, .ref (sh.1 12 0))] := hl
  unfold fX6_soundPlans at hf
  refine lv_aload_n hx hb dX6_soundPlans_0 rfl (lv_at hl 0 rfl) ?_
  refine lv_aload_n hx hb dX6_soundPlans_1 rfl (lv_at hl 0 rfl) ?_
  obtain ⟨v1, s2, hc6, hf⟩ := oP_go hf
  refine xcallV (n := 0) F hT hW hS (xm_fix (by decide)) xce_12 rfl (kX6_sound l hl0 G sh sc sr sl   _ hc6) (xgV xw_1070 xw_1072 xwp_35 xw_4 xw_1073) rfl xd_X6_sound ⟨Nat.le_of_ble_eq_true rfl, Nat.le_of_ble_eq_true rfl⟩ rfl hl.1 rfl (Nat.le_of_ble_eq_true rfl) dX6_soundPlans_2 ⟨Nat.le_of_ble_eq_true rfl, Nat.le_of_ble_eq_true rfl⟩ (fun v9 H locs hres hW hS => ?_) (fun E9 H locs q9 ce9 hres => by cases hres)
  cases hres
  refine W.eq (g2 := F0 m 5 ls (.int v1 :: .ref (sh.1 12 0) :: [])) rfl ?_
  obtain ⟨v3, s4, hc5, hf⟩ := oP_go hf
  refine xcallV (n := 1) F hT hW hS (xm_fix (by decide)) xce_12 rfl (kX6_tells l hl0 G sh sc s2 sl v1  _ hc5) (xgV xw_994 xw_996 xwp_30 xw_4 xw_997) rfl xd_X6_tells ⟨Nat.le_of_ble_eq_true rfl, Nat.le_of_ble_eq_true rfl⟩ rfl hl.1 rfl (Nat.le_of_ble_eq_true rfl) dX6_soundPlans_5 ⟨Nat.le_of_ble_eq_true rfl, Nat.le_of_ble_eq_true rfl⟩ (fun v9 H locs hres hW hS => ?_) (fun E9 H locs q9 ce9 hres => by cases hres)
  cases hres
  refine W.eq (g2 := F0 m 8 ls (.int v3 :: [])) rfl ?_
  cases hf
  exact xret_i (ty := .int) F hr hlocks hS rfl rfl hW (Nat.le_of_ble_eq_true rfl) (Nat.le_of_ble_eq_true rfl) dX6_soundPlans_8
abbrev rX6_switches : Room := { frames := 1, cells := 0, slots := 0, locals := 21 }
abbrev zX6_switches : List Cond := Cond.code yX6_switches cX6_switches 1 (some .int) :: xB
theorem xd_X6_switches : yX6_switches.cls = RX6 ∧ yX6_switches.cls ≠ "java/lang/invoke/MethodHandle" ∧ yX6_switches.cls ≠ "java/lang/invoke/VarHandle" ∧ (parseMethodDescriptor yX6_switches.desc).map (fun d => d.parameters.length) = some 0 := by decide +kernel
def fX6_switches (sr : xSR) : Option (Int32 × xSR) := oP (fX6_tells (sr.1 117 0) sr) (fun v1 s2 => some (v1, s2))
set_option maxHeartbeats 4000000 in
set_option maxRecDepth 100000 in
theorem kX6_switches (l : Launch) (hl0 : l.stackTraces = false) (G : xG) (sh : xSh) (sc : xSC) (sr : xSR) (sl : xSL) (r : (Int32 × xSR)) (hf : fX6_switches sr = some r) : xMet l yX6_switches zX6_switches rX6_switches G sh sc sr sl ([.ref (sh.1 12 0)] : List Value) (xvI (.inr r.1)) (xWd G sh sc r.2 sl) := by
  refine xMet_of (cc := cX6_switches) (maxL := 1) (ret := (some .int)) (by decide) (Nat.le_of_ble_eq_true rfl) ?_
  intro p e s m below meth c F hT hW hr hlocks htab ls hl
  have F : CallFix p m c cX6_switches 1 s ([.ref (sh.1 12 0)] : List Value).toArray xB RX6 := F
  have hx := F.1
  have hb := F.2.1
  have hS : va_S (xA G) s.heap s.heap [] := va_S.rf
  have hl : lv_has ls 1 [(0, .ref (sh.1 12 0))] := hl
  unfold fX6_switches at hf
  refine lv_aload_n hx hb dX6_switches_0 rfl (lv_at hl 0 rfl) ?_
  refine lv_aload_n hx hb dX6_switches_1 rfl (lv_at hl 0 rfl) ?_
  refine xget F hT hW xuX6 (xm_fix (by decide)) xce_12 rfl 17 (by decide) xw_817 rfl rfl dX6_switches_2 ?_
  obtain ⟨v1, s2, hc3, hf⟩ := oP_go hf
  refine xcallV (n := 1) F hT hW hS (xm_fix (by decide)) xce_12 rfl (kX6_tells l hl0 G sh sc sr sl (sr.1 117 0)  _ hc3) (xgV xw_994 xw_996 xwp_30 xw_4 xw_997) rfl xd_X6_tells ⟨Nat.le_of_ble_eq_true rfl, Nat.le_of_ble_eq_true rfl⟩ rfl hl.1 rfl (Nat.le_of_ble_eq_true rfl) dX6_switches_5 ⟨Nat.le_of_ble_eq_true rfl, Nat.le_of_ble_eq_true rfl⟩ (fun v9 H locs hres hW hS => ?_) (fun E9 H locs q9 ce9 hres => by cases hres)
  cases hres
  refine W.eq (g2 := F0 m 8 ls (.int v1 :: [])) rfl ?_
  cases hf
  exact xret_i (ty := .int) F hr hlocks hS rfl rfl hW (Nat.le_of_ble_eq_true rfl) (Nat.le_of_ble_eq_true rfl) dX6_switches_8
abbrev rX6_targetOf : Room := { frames := 3, cells := 0, slots := 0, locals := 64 }
abbrev zX6_targetOf : List Cond := Cond.code yX6_targetOf cX6_targetOf 2 (some .int) :: xB
theorem xd_X6_targetOf : yX6_targetOf.cls = RX6 ∧ yX6_targetOf.cls ≠ "java/lang/invoke/MethodHandle" ∧ yX6_targetOf.cls ≠ "java/lang/invoke/VarHandle" ∧ (parseMethodDescriptor yX6_targetOf.desc).map (fun d => d.parameters.length) = some 1 := by decide +kernel
def fX6_targetOf (a1 : Int32) (sr : xSR) : Option (Int32 × xSR) := oP (fX6_hasNoMove a1 sr) (fun v1 s2 => (if v1 = 0 then oG (xinb a1 6) (some ((s2.1 11 a1.toNatClampNeg), s2)) else some (0, s2)))
set_option maxHeartbeats 4000000 in
set_option maxRecDepth 100000 in
theorem kX6_targetOf (l : Launch) (hl0 : l.stackTraces = false) (G : xG) (sh : xSh) (sc : xSC) (sr : xSR) (sl : xSL) (a1 : Int32) (r : (Int32 × xSR)) (hf : fX6_targetOf a1 sr = some r) : xMet l yX6_targetOf zX6_targetOf rX6_targetOf G sh sc sr sl ([.ref (sh.1 12 0), .int a1] : List Value) (xvI (.inr r.1)) (xWd G sh sc r.2 sl) := by
  refine xMet_of (cc := cX6_targetOf) (maxL := 2) (ret := (some .int)) (by decide) (Nat.le_of_ble_eq_true rfl) ?_
  intro p e s m below meth c F hT hW hr hlocks htab ls hl
  have F : CallFix p m c cX6_targetOf 2 s ([.ref (sh.1 12 0), .int a1] : List Value).toArray xB RX6 := F
  have hx := F.1
  have hb := F.2.1
  have hS : va_S (xA G) s.heap s.heap [] := va_S.rf
  have hl : lv_has ls 2 [(0, .ref (sh.1 12 0)), (1, .int a1)] := hl
  unfold fX6_targetOf at hf
  refine lv_aload_n hx hb dX6_targetOf_0 rfl (lv_at hl 0 rfl) ?_
  refine lv_iload_n hx hb dX6_targetOf_1 rfl (lv_at hl 1 rfl) ?_
  obtain ⟨v1, s2, hc5, hf⟩ := oP_go hf
  refine xcallV (n := 1) F hT hW hS (xm_fix (by decide)) xce_12 rfl (kX6_hasNoMove l hl0 G sh sc sr sl a1  _ hc5) (xgV xw_1006 xw_1008 xwp_31 xw_4 xw_1009) rfl xd_X6_hasNoMove ⟨Nat.le_of_ble_eq_true rfl, Nat.le_of_ble_eq_true rfl⟩ rfl hl.1 rfl (Nat.le_of_ble_eq_true rfl) dX6_targetOf_2 ⟨Nat.le_of_ble_eq_true rfl, Nat.le_of_ble_eq_true rfl⟩ (fun v9 H locs hres hW hS => ?_) (fun E9 H locs q9 ce9 hres => by cases hres)
  cases hres
  refine W.eq (g2 := F0 m 5 ls (.int v1 :: [])) rfl ?_
  refine lv_if_eq (tgt := 12) hx hb dX6_targetOf_5 (by decide) (fun c3 => ?_) (fun c3 => ?_)
  · replace hf := if_t c3 hf
    refine lv_aload_n hx hb dX6_targetOf_12 rfl (lv_at hl 0 rfl) ?_
    refine xget F hT hW xuX6 (xm_fix (by decide)) xce_12 rfl 11 (by decide) xw_811 rfl rfl dX6_targetOf_13 ?_
    refine lv_iload_n hx hb dX6_targetOf_16 rfl (lv_at hl 1 rfl) ?_
    obtain ⟨g4, hf⟩ := oG_go hf
    refine xmald (by decide) F hT hW (xm_fix (by decide)) (by decide) (xinb_ok g4) dX6_targetOf_17 ?_
    cases hf
    exact xret_i (ty := .int) F hr hlocks hS rfl rfl hW (Nat.le_of_ble_eq_true rfl) (Nat.le_of_ble_eq_true rfl) dX6_targetOf_18
  · replace hf := if_f c3 hf
    refine lv_iconst (v := 0) hx hb dX6_targetOf_8 (by decide) ?_
    refine lv_goto (tgt := 18) hx hb dX6_targetOf_9 (by decide) ?_
    cases hf
    exact xret_i (ty := .int) F hr hlocks hS rfl rfl hW (Nat.le_of_ble_eq_true rfl) (Nat.le_of_ble_eq_true rfl) dX6_targetOf_18
abbrev rX6_tenants : Room := { frames := 1, cells := 0, slots := 0, locals := 21 }
abbrev zX6_tenants : List Cond := Cond.code yX6_tenants cX6_tenants 1 (some .int) :: xB
theorem xd_X6_tenants : yX6_tenants.cls = RX6 ∧ yX6_tenants.cls ≠ "java/lang/invoke/MethodHandle" ∧ yX6_tenants.cls ≠ "java/lang/invoke/VarHandle" ∧ (parseMethodDescriptor yX6_tenants.desc).map (fun d => d.parameters.length) = some 0 := by decide +kernel
def fX6_tenants (sr : xSR) : Option (Int32 × xSR) := oP (fX6_tells (sr.1 103 0) sr) (fun v1 s2 => some (v1, s2))
set_option maxHeartbeats 4000000 in
set_option maxRecDepth 100000 in
theorem kX6_tenants (l : Launch) (hl0 : l.stackTraces = false) (G : xG) (sh : xSh) (sc : xSC) (sr : xSR) (sl : xSL) (r : (Int32 × xSR)) (hf : fX6_tenants sr = some r) : xMet l yX6_tenants zX6_tenants rX6_tenants G sh sc sr sl ([.ref (sh.1 12 0)] : List Value) (xvI (.inr r.1)) (xWd G sh sc r.2 sl) := by
  refine xMet_of (cc := cX6_tenants) (maxL := 1) (ret := (some .int)) (by decide) (Nat.le_of_ble_eq_true rfl) ?_
  intro p e s m below meth c F hT hW hr hlocks htab ls hl
  have F : CallFix p m c cX6_tenants 1 s ([.ref (sh.1 12 0)] : List Value).toArray xB RX6 := F
  have hx := F.1
  have hb := F.2.1
  have hS : va_S (xA G) s.heap s.heap [] := va_S.rf
  have hl : lv_has ls 1 [(0, .ref (sh.1 12 0))] := hl
  unfold fX6_tenants at hf
  refine lv_aload_n hx hb dX6_tenants_0 rfl (lv_at hl 0 rfl) ?_
  refine lv_aload_n hx hb dX6_tenants_1 rfl (lv_at hl 0 rfl) ?_
  refine xget F hT hW xuX6 (xm_fix (by decide)) xce_12 rfl 3 (by decide) xw_803 rfl rfl dX6_tenants_2 ?_
  obtain ⟨v1, s2, hc3, hf⟩ := oP_go hf
  refine xcallV (n := 1) F hT hW hS (xm_fix (by decide)) xce_12 rfl (kX6_tells l hl0 G sh sc sr sl (sr.1 103 0)  _ hc3) (xgV xw_994 xw_996 xwp_30 xw_4 xw_997) rfl xd_X6_tells ⟨Nat.le_of_ble_eq_true rfl, Nat.le_of_ble_eq_true rfl⟩ rfl hl.1 rfl (Nat.le_of_ble_eq_true rfl) dX6_tenants_5 ⟨Nat.le_of_ble_eq_true rfl, Nat.le_of_ble_eq_true rfl⟩ (fun v9 H locs hres hW hS => ?_) (fun E9 H locs q9 ce9 hres => by cases hres)
  cases hres
  refine W.eq (g2 := F0 m 8 ls (.int v1 :: [])) rfl ?_
  cases hf
  exact xret_i (ty := .int) F hr hlocks hS rfl rfl hW (Nat.le_of_ble_eq_true rfl) (Nat.le_of_ble_eq_true rfl) dX6_tenants_8
abbrev rX6_thrown : Room := { frames := 0, cells := 0, slots := 0, locals := 0 }
abbrev zX6_thrown : List Cond := Cond.code yX6_thrown cX6_thrown 1 (some .int) :: xB
theorem xd_X6_thrown : yX6_thrown.cls = RX6 ∧ yX6_thrown.cls ≠ "java/lang/invoke/MethodHandle" ∧ yX6_thrown.cls ≠ "java/lang/invoke/VarHandle" ∧ (parseMethodDescriptor yX6_thrown.desc).map (fun d => d.parameters.length) = some 0 := by decide +kernel
def fX6_thrown (sr : xSR) : Option Int32 := some (sr.1 122 0)
set_option maxHeartbeats 4000000 in
set_option maxRecDepth 100000 in
theorem kX6_thrown (l : Launch) (hl0 : l.stackTraces = false) (G : xG) (sh : xSh) (sc : xSC) (sr : xSR) (sl : xSL) (r : Int32) (hf : fX6_thrown sr = some r) : xMet l yX6_thrown zX6_thrown rX6_thrown G sh sc sr sl ([.ref (sh.1 12 0)] : List Value) (xvI (.inr r)) (xWd G sh sc sr sl) := by
  refine xMet_of (cc := cX6_thrown) (maxL := 1) (ret := (some .int)) (by decide) (Nat.le_of_ble_eq_true rfl) ?_
  intro p e s m below meth c F hT hW hr hlocks htab ls hl
  have F : CallFix p m c cX6_thrown 1 s ([.ref (sh.1 12 0)] : List Value).toArray xB RX6 := F
  have hx := F.1
  have hb := F.2.1
  have hS : va_S (xA G) s.heap s.heap [] := va_S.rf
  have hl : lv_has ls 1 [(0, .ref (sh.1 12 0))] := hl
  unfold fX6_thrown at hf
  refine lv_aload_n hx hb dX6_thrown_0 rfl (lv_at hl 0 rfl) ?_
  refine xget F hT hW xuX6 (xm_fix (by decide)) xce_12 rfl 22 (by decide) xw_822 rfl rfl dX6_thrown_1 ?_
  cases hf
  exact xret_i (ty := .int) F hr hlocks hS rfl rfl hW (Nat.le_of_ble_eq_true rfl) (Nat.le_of_ble_eq_true rfl) dX6_thrown_4
abbrev rX6_time : Room := { frames := 1, cells := 0, slots := 0, locals := 21 }
abbrev zX6_time : List Cond := Cond.code yX6_time cX6_time 1 (some .int) :: xB
theorem xd_X6_time : yX6_time.cls = RX6 ∧ yX6_time.cls ≠ "java/lang/invoke/MethodHandle" ∧ yX6_time.cls ≠ "java/lang/invoke/VarHandle" ∧ (parseMethodDescriptor yX6_time.desc).map (fun d => d.parameters.length) = some 0 := by decide +kernel
def fX6_time (sr : xSR) : Option (Int32 × xSR) := oP (fX6_tells (sr.1 116 0) sr) (fun v1 s2 => some (v1, s2))
set_option maxHeartbeats 4000000 in
set_option maxRecDepth 100000 in
theorem kX6_time (l : Launch) (hl0 : l.stackTraces = false) (G : xG) (sh : xSh) (sc : xSC) (sr : xSR) (sl : xSL) (r : (Int32 × xSR)) (hf : fX6_time sr = some r) : xMet l yX6_time zX6_time rX6_time G sh sc sr sl ([.ref (sh.1 12 0)] : List Value) (xvI (.inr r.1)) (xWd G sh sc r.2 sl) := by
  refine xMet_of (cc := cX6_time) (maxL := 1) (ret := (some .int)) (by decide) (Nat.le_of_ble_eq_true rfl) ?_
  intro p e s m below meth c F hT hW hr hlocks htab ls hl
  have F : CallFix p m c cX6_time 1 s ([.ref (sh.1 12 0)] : List Value).toArray xB RX6 := F
  have hx := F.1
  have hb := F.2.1
  have hS : va_S (xA G) s.heap s.heap [] := va_S.rf
  have hl : lv_has ls 1 [(0, .ref (sh.1 12 0))] := hl
  unfold fX6_time at hf
  refine lv_aload_n hx hb dX6_time_0 rfl (lv_at hl 0 rfl) ?_
  refine lv_aload_n hx hb dX6_time_1 rfl (lv_at hl 0 rfl) ?_
  refine xget F hT hW xuX6 (xm_fix (by decide)) xce_12 rfl 16 (by decide) xw_816 rfl rfl dX6_time_2 ?_
  obtain ⟨v1, s2, hc3, hf⟩ := oP_go hf
  refine xcallV (n := 1) F hT hW hS (xm_fix (by decide)) xce_12 rfl (kX6_tells l hl0 G sh sc sr sl (sr.1 116 0)  _ hc3) (xgV xw_994 xw_996 xwp_30 xw_4 xw_997) rfl xd_X6_tells ⟨Nat.le_of_ble_eq_true rfl, Nat.le_of_ble_eq_true rfl⟩ rfl hl.1 rfl (Nat.le_of_ble_eq_true rfl) dX6_time_5 ⟨Nat.le_of_ble_eq_true rfl, Nat.le_of_ble_eq_true rfl⟩ (fun v9 H locs hres hW hS => ?_) (fun E9 H locs q9 ce9 hres => by cases hres)
  cases hres
  refine W.eq (g2 := F0 m 8 ls (.int v1 :: [])) rfl ?_
  cases hf
  exact xret_i (ty := .int) F hr hlocks hS rfl rfl hW (Nat.le_of_ble_eq_true rfl) (Nat.le_of_ble_eq_true rfl) dX6_time_8
abbrev rX6_used : Room := { frames := 3, cells := 0, slots := 0, locals := 68 }
abbrev zX6_used : List Cond := Cond.code yX6_used cX6_used 3 (some .int) :: xB
theorem xd_X6_used : yX6_used.cls = RX6 ∧ yX6_used.cls ≠ "java/lang/invoke/MethodHandle" ∧ yX6_used.cls ≠ "java/lang/invoke/VarHandle" ∧ (parseMethodDescriptor yX6_used.desc).map (fun d => d.parameters.length) = some 2 := by decide +kernel
def fX6_used (a1 : Int32) (a2 : Int32) (sr : xSR) : Option (Int32 × xSR) := oP (fX6_cannotAsk a1 a2 sr) (fun v1 s2 => (if v1 = 0 then oB (fX6_use a1 a2 s2) (fun v4 => some (v4, s2)) else some (0, s2)))
set_option maxHeartbeats 4000000 in
set_option maxRecDepth 100000 in
theorem kX6_used (l : Launch) (hl0 : l.stackTraces = false) (G : xG) (sh : xSh) (sc : xSC) (sr : xSR) (sl : xSL) (a1 : Int32) (a2 : Int32) (r : (Int32 × xSR)) (hf : fX6_used a1 a2 sr = some r) : xMet l yX6_used zX6_used rX6_used G sh sc sr sl ([.ref (sh.1 12 0), .int a1, .int a2] : List Value) (xvI (.inr r.1)) (xWd G sh sc r.2 sl) := by
  refine xMet_of (cc := cX6_used) (maxL := 3) (ret := (some .int)) (by decide) (Nat.le_of_ble_eq_true rfl) ?_
  intro p e s m below meth c F hT hW hr hlocks htab ls hl
  have F : CallFix p m c cX6_used 3 s ([.ref (sh.1 12 0), .int a1, .int a2] : List Value).toArray xB RX6 := F
  have hx := F.1
  have hb := F.2.1
  have hS : va_S (xA G) s.heap s.heap [] := va_S.rf
  have hl : lv_has ls 3 [(0, .ref (sh.1 12 0)), (1, .int a1), (2, .int a2)] := hl
  unfold fX6_used at hf
  refine lv_aload_n hx hb dX6_used_0 rfl (lv_at hl 0 rfl) ?_
  refine lv_iload_n hx hb dX6_used_1 rfl (lv_at hl 1 rfl) ?_
  refine lv_iload_n hx hb dX6_used_2 rfl (lv_at hl 2 rfl) ?_
  obtain ⟨v1, s2, hc6, hf⟩ := oP_go hf
  refine xcallV (n := 2) F hT hW hS (xm_fix (by decide)) xce_12 rfl (kX6_cannotAsk l hl0 G sh sc sr sl a1 a2  _ hc6) (xgV xw_1046 xw_1048 xwp_33 xw_4 xw_1049) rfl xd_X6_cannotAsk ⟨Nat.le_of_ble_eq_true rfl, Nat.le_of_ble_eq_true rfl⟩ rfl hl.1 rfl (Nat.le_of_ble_eq_true rfl) dX6_used_3 ⟨Nat.le_of_ble_eq_true rfl, Nat.le_of_ble_eq_true rfl⟩ (fun v9 H locs hres hW hS => ?_) (fun E9 H locs q9 ce9 hres => by cases hres)
  cases hres
  refine W.eq (g2 := F0 m 6 ls (.int v1 :: [])) rfl ?_
  refine lv_if_eq (tgt := 13) hx hb dX6_used_6 (by decide) (fun c3 => ?_) (fun c3 => ?_)
  · replace hf := if_t c3 hf
    refine lv_aload_n hx hb dX6_used_13 rfl (lv_at hl 0 rfl) ?_
    refine lv_iload_n hx hb dX6_used_14 rfl (lv_at hl 1 rfl) ?_
    refine lv_iload_n hx hb dX6_used_15 rfl (lv_at hl 2 rfl) ?_
    obtain ⟨v4, hc5, hf⟩ := oB_go hf
    refine xcallV (n := 2) F hT hW hS (xm_fix (by decide)) xce_12 rfl (kX6_use l hl0 G sh sc s2 sl a1 a2  _ hc5) (xgV xw_910 xw_912 xwp_17 xw_4 xw_913) rfl xd_X6_use ⟨Nat.le_of_ble_eq_true rfl, Nat.le_of_ble_eq_true rfl⟩ rfl hl.1 rfl (Nat.le_of_ble_eq_true rfl) dX6_used_16 ⟨Nat.le_of_ble_eq_true rfl, Nat.le_of_ble_eq_true rfl⟩ (fun v9 H locs hres hW hS => ?_) (fun E9 H locs q9 ce9 hres => by cases hres)
    cases hres
    refine W.eq (g2 := F0 m 19 ls (.int v4 :: [])) rfl ?_
    cases hf
    exact xret_i (ty := .int) F hr hlocks hS rfl rfl hW (Nat.le_of_ble_eq_true rfl) (Nat.le_of_ble_eq_true rfl) dX6_used_19
  · replace hf := if_f c3 hf
    refine lv_iconst (v := 0) hx hb dX6_used_9 (by decide) ?_
    refine lv_goto (tgt := 19) hx hb dX6_used_10 (by decide) ?_
    cases hf
    exact xret_i (ty := .int) F hr hlocks hS rfl rfl hW (Nat.le_of_ble_eq_true rfl) (Nat.le_of_ble_eq_true rfl) dX6_used_19
abbrev rX6_usedByLooking : Room := { frames := 3, cells := 0, slots := 0, locals := 68 }
abbrev zX6_usedByLooking : List Cond := Cond.code yX6_usedByLooking cX6_usedByLooking 3 (some .int) :: xB
theorem xd_X6_usedByLooking : yX6_usedByLooking.cls = RX6 ∧ yX6_usedByLooking.cls ≠ "java/lang/invoke/MethodHandle" ∧ yX6_usedByLooking.cls ≠ "java/lang/invoke/VarHandle" ∧ (parseMethodDescriptor yX6_usedByLooking.desc).map (fun d => d.parameters.length) = some 2 := by decide +kernel
def fX6_usedByLooking (a1 : Int32) (a2 : Int32) (sr : xSR) : Option (Int32 × xSR) := oP (fX6_cannotAsk a1 a2 sr) (fun v1 s2 => (if v1 = 0 then oB (fX6_use a1 a2 s2) (fun v4 => some (v4, s2)) else some (0, s2)))
set_option maxHeartbeats 4000000 in
set_option maxRecDepth 100000 in
theorem kX6_usedByLooking (l : Launch) (hl0 : l.stackTraces = false) (G : xG) (sh : xSh) (sc : xSC) (sr : xSR) (sl : xSL) (a1 : Int32) (a2 : Int32) (r : (Int32 × xSR)) (hf : fX6_usedByLooking a1 a2 sr = some r) : xMet l yX6_usedByLooking zX6_usedByLooking rX6_usedByLooking G sh sc sr sl ([.ref (sh.1 12 0), .int a1, .int a2] : List Value) (xvI (.inr r.1)) (xWd G sh sc r.2 sl) := by
  refine xMet_of (cc := cX6_usedByLooking) (maxL := 3) (ret := (some .int)) (by decide) (Nat.le_of_ble_eq_true rfl) ?_
  intro p e s m below meth c F hT hW hr hlocks htab ls hl
  have F : CallFix p m c cX6_usedByLooking 3 s ([.ref (sh.1 12 0), .int a1, .int a2] : List Value).toArray xB RX6 := F
  have hx := F.1
  have hb := F.2.1
  have hS : va_S (xA G) s.heap s.heap [] := va_S.rf
  have hl : lv_has ls 3 [(0, .ref (sh.1 12 0)), (1, .int a1), (2, .int a2)] := hl
  unfold fX6_usedByLooking at hf
  refine lv_aload_n hx hb dX6_usedByLooking_0 rfl (lv_at hl 0 rfl) ?_
  refine lv_iload_n hx hb dX6_usedByLooking_1 rfl (lv_at hl 1 rfl) ?_
  refine lv_iload_n hx hb dX6_usedByLooking_2 rfl (lv_at hl 2 rfl) ?_
  obtain ⟨v1, s2, hc6, hf⟩ := oP_go hf
  refine xcallV (n := 2) F hT hW hS (xm_fix (by decide)) xce_12 rfl (kX6_cannotAsk l hl0 G sh sc sr sl a1 a2  _ hc6) (xgV xw_1046 xw_1048 xwp_33 xw_4 xw_1049) rfl xd_X6_cannotAsk ⟨Nat.le_of_ble_eq_true rfl, Nat.le_of_ble_eq_true rfl⟩ rfl hl.1 rfl (Nat.le_of_ble_eq_true rfl) dX6_usedByLooking_3 ⟨Nat.le_of_ble_eq_true rfl, Nat.le_of_ble_eq_true rfl⟩ (fun v9 H locs hres hW hS => ?_) (fun E9 H locs q9 ce9 hres => by cases hres)
  cases hres
  refine W.eq (g2 := F0 m 6 ls (.int v1 :: [])) rfl ?_
  refine lv_if_eq (tgt := 13) hx hb dX6_usedByLooking_6 (by decide) (fun c3 => ?_) (fun c3 => ?_)
  · replace hf := if_t c3 hf
    refine lv_aload_n hx hb dX6_usedByLooking_13 rfl (lv_at hl 0 rfl) ?_
    refine lv_iload_n hx hb dX6_usedByLooking_14 rfl (lv_at hl 1 rfl) ?_
    refine lv_iload_n hx hb dX6_usedByLooking_15 rfl (lv_at hl 2 rfl) ?_
    obtain ⟨v4, hc5, hf⟩ := oB_go hf
    refine xcallV (n := 2) F hT hW hS (xm_fix (by decide)) xce_12 rfl (kX6_use l hl0 G sh sc s2 sl a1 a2  _ hc5) (xgV xw_910 xw_912 xwp_17 xw_4 xw_913) rfl xd_X6_use ⟨Nat.le_of_ble_eq_true rfl, Nat.le_of_ble_eq_true rfl⟩ rfl hl.1 rfl (Nat.le_of_ble_eq_true rfl) dX6_usedByLooking_16 ⟨Nat.le_of_ble_eq_true rfl, Nat.le_of_ble_eq_true rfl⟩ (fun v9 H locs hres hW hS => ?_) (fun E9 H locs q9 ce9 hres => by cases hres)
    cases hres
    refine W.eq (g2 := F0 m 19 ls (.int v4 :: [])) rfl ?_
    cases hf
    exact xret_i (ty := .int) F hr hlocks hS rfl rfl hW (Nat.le_of_ble_eq_true rfl) (Nat.le_of_ble_eq_true rfl) dX6_usedByLooking_19
  · replace hf := if_f c3 hf
    refine lv_iconst (v := 0) hx hb dX6_usedByLooking_9 (by decide) ?_
    refine lv_goto (tgt := 19) hx hb dX6_usedByLooking_10 (by decide) ?_
    cases hf
    exact xret_i (ty := .int) F hr hlocks hS rfl rfl hW (Nat.le_of_ble_eq_true rfl) (Nat.le_of_ble_eq_true rfl) dX6_usedByLooking_19
