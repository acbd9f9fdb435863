/-! the law's callers (written by wip/gen/wrap.py) -/
abbrev rL_addShard : Room := { frames := 8, cells := 8, slots := 38, locals := 144 }
abbrev zL_addShard : List Cond := Cond.codeWith yL_addShard cL_addShard 6 (some .int) [(0, 12, 15, 13), (0, 12, 19, 15)] :: xB
theorem xd_L_addShard : yL_addShard.cls = RL ∧ yL_addShard.cls ≠ "java/lang/invoke/MethodHandle" ∧ yL_addShard.cls ≠ "java/lang/invoke/VarHandle" ∧ (parseMethodDescriptor yL_addShard.desc).map (fun d => d.parameters.length) = some 5 := by decide +kernel
def fL_addShard (nS : Nat) (nT : Nat) (a1 : Int32) (a2 : Int32) (a3 : Int32) (sc : xSC) (sl : xSL) : Option (Int32 × xSC × xSL) := oC (fX5_addShard nS nT a1 a2 a3 sc) (fun E1 s1 => (if E1 = "java/lang/IllegalArgumentException" then some (1, s1, sl) else (if E1 = "java/lang/IllegalStateException" then some (2, s1, sl) else none))) (fun v s1 => some (0, s1, (v.toInt64, sl.2)))
set_option maxHeartbeats 4000000 in
set_option maxRecDepth 100000 in
theorem kL_addShard (l : Launch) (hl0 : l.stackTraces = false) (G : xG) (sh : xSh) (sc : xSC) (sr : xSR) (sl : xSL) (a1 : Int32) (a2 : Int32) (a3 : Int32) (r : Int32 × xSC × xSL) (hf : fL_addShard sh.2.1 sh.2.2 a1 a2 a3 sc sl = some r) : xMet l yL_addShard zL_addShard rL_addShard G sh sc sr sl ([.ref (sh.1 0 0), .int a1, .int a2, .int a3, .ref (sh.1 14 0)] : List Value) (.inr (some (.int r.1))) (xPwLS G sh r sr) := by
  refine xMet_ofH (cc := cL_addShard) (maxL := 6) (ret := (some .int)) (hh := [(0, 12, 15, 13), (0, 12, 19, 15)]) (by decide) (Nat.le_of_ble_eq_true rfl) ?_
  intro p e s m below meth c F hT hW hr hlocks htab ls hl
  have F : CallFix p m c cL_addShard 6 s ([.ref (sh.1 0 0), .int a1, .int a2, .int a3, .ref (sh.1 14 0)] : List Value).toArray xB RL := F
  have hx := F.1
  have hb := F.2.1
  have hS : va_S (xA G) s.heap s.heap [] := va_S.rf
  have hl : lv_has ls 6 [(0, .ref (sh.1 0 0)), (1, .int a1), (2, .int a2), (3, .int a3), (4, .ref (sh.1 14 0))] := hl
  unfold fL_addShard at hf
  refine lv_aload hx hb dL_addShard_0 (lv_at hl 4 rfl) ?_
  refine lv_iconst (v := 0) hx hb dL_addShard_2 (by decide) ?_
  refine lv_aload_n hx hb dL_addShard_3 rfl (lv_at hl 0 rfl) ?_
  refine lv_iload_n hx hb dL_addShard_4 rfl (lv_at hl 1 rfl) ?_
  refine lv_iload_n hx hb dL_addShard_5 rfl (lv_at hl 2 rfl) ?_
  refine lv_iload_n hx hb dL_addShard_6 rfl (lv_at hl 3 rfl) ?_
  rcases oC_go hf with ⟨v, s1, hc, hf⟩ | ⟨E1, s1, hc, hf⟩
  · refine xcallV (n := 3) F hT hW hS (xm_fix (by decide)) xce_0 rfl (kX5_addShard l hl0 G sh sc sr sl a1 a2 a3 _ hc) (xgV xw_181 xw_182 xw_183 xw_1 xw_184) rfl xd_X5_addShard ⟨(Nat.le_of_ble_eq_true rfl), (Nat.le_of_ble_eq_true rfl)⟩ rfl hl.1 rfl (Nat.le_of_ble_eq_true rfl) dL_addShard_7 ⟨(Nat.le_of_ble_eq_true rfl), (Nat.le_of_ble_eq_true rfl)⟩ (fun v9 H locs hres hW hS => ?_) (fun E9 H locs q9 ce9 hres => by cases hres)
    cases hres
    refine W.eq (g2 := F0 m 10 ls (.int v :: .int 0 :: .ref (sh.1 14 0) :: [])) rfl ?_
    obtain ⟨sh2, e1, e2, eg, hW⟩ := hW
    refine W.eq (g2 := F0 m 10 ls (.int v :: .int 0 :: .ref (sh2.1 14 0) :: [])) (by rw [eg.2.2.1]) ?_
    refine lv_i2l hx hb dL_addShard_10 rfl ?_
    refine xlast F hT hW hS dL_addShard_11 (fun H locs hW hS => ?_)
    refine lv_goto (tgt := 23) hx hb dL_addShard_12 (by decide) ?_
    refine lv_iconst (v := 0) hx hb dL_addShard_23 (by decide) ?_
    cases hf
    exact xret_i (ty := .int) F hr hlocks hS rfl rfl (by unfold xPwLS; rw [if_pos rfl]; exact ⟨sh2, e1, e2, eg, hW⟩) (Nat.le_of_ble_eq_true rfl) (Nat.le_of_ble_eq_true rfl) dL_addShard_24
  · refine xcallV (n := 3) F hT hW hS (xm_fix (by decide)) xce_0 rfl (kX5_addShard l hl0 G sh sc sr sl a1 a2 a3 _ hc) (xgV xw_181 xw_182 xw_183 xw_1 xw_184) rfl xd_X5_addShard ⟨(Nat.le_of_ble_eq_true rfl), (Nat.le_of_ble_eq_true rfl)⟩ rfl hl.1 rfl (Nat.le_of_ble_eq_true rfl) dL_addShard_7 ⟨(Nat.le_of_ble_eq_true rfl), (Nat.le_of_ble_eq_true rfl)⟩ (fun v9 H locs hres => by cases hres) (fun E9 H locs q9 ce9 hres hW hS hcell hv9 hcl => ?_)
    cases hres
    by_cases hE : E1 = "java/lang/IllegalArgumentException"
    · replace hf := if_t hE hf
      subst hE
      refine vx_catch (name := "java/lang/IllegalArgumentException") F.2.2.2.1 [] ⟨0, 12, 15, 13⟩ [⟨0, 12, 19, 15⟩] htab (fun z hz => nomatch hz) (by decide) (by decide) (F.2.2.2.2 _ xw_179) (va_Nw.use rfl (hT.2.2.2.2.1 _ (List.mem_of_getElem? (i := 3) rfl))) hcell hv9 hcl ?_
      refine lv_astore (lv' := [(5, .ref q9), (0, .ref (sh.1 0 0)), (1, .int a1), (2, .int a2), (3, .int a3), (4, .ref (sh.1 14 0))]) hx hb dL_addShard_15 hl (by decide) rfl (fun ls hl => ?_)
      refine lv_iconst (v := 1) hx hb dL_addShard_17 (by decide) ?_
      cases hf
      exact xret_i (ty := .int) F hr hlocks hS rfl rfl (by unfold xPwLS; rw [if_neg (show ¬ ((1 : Int32) = 0) by decide)]; exact hW) (Nat.le_of_ble_eq_true rfl) (Nat.le_of_ble_eq_true rfl) dL_addShard_18
    replace hf := if_f hE hf
    by_cases hE : E1 = "java/lang/IllegalStateException"
    · replace hf := if_t hE hf
      subst hE
      refine vx_catch (name := "java/lang/IllegalStateException") F.2.2.2.1 [⟨0, 12, 15, 13⟩] ⟨0, 12, 19, 15⟩ [] htab (fun z hz => by rw [List.mem_singleton.mp hz]; exact Or.inr ⟨by decide, "java/lang/IllegalArgumentException", F.2.2.2.2 _ xw_179, hT.2.2.2.2.2.1 _ (List.mem_of_getElem? (i := 11) rfl)⟩) (by decide) (by decide) (F.2.2.2.2 _ xw_180) (va_Nw.use rfl (hT.2.2.2.2.1 _ (List.mem_of_getElem? (i := 4) rfl))) hcell hv9 hcl ?_
      refine lv_astore (lv' := [(5, .ref q9), (0, .ref (sh.1 0 0)), (1, .int a1), (2, .int a2), (3, .int a3), (4, .ref (sh.1 14 0))]) hx hb dL_addShard_19 hl (by decide) rfl (fun ls hl => ?_)
      refine lv_iconst (v := 2) hx hb dL_addShard_21 (by decide) ?_
      cases hf
      exact xret_i (ty := .int) F hr hlocks hS rfl rfl (by unfold xPwLS; rw [if_neg (show ¬ ((2 : Int32) = 0) by decide)]; exact hW) (Nat.le_of_ble_eq_true rfl) (Nat.le_of_ble_eq_true rfl) dL_addShard_22
    replace hf := if_f hE hf
    cases hf
abbrev rL_setOpen : Room := { frames := 8, cells := 1, slots := 6, locals := 136 }
abbrev zL_setOpen : List Cond := Cond.codeWith yL_setOpen cL_setOpen 5 (some .int) [(0, 17, 20, 21)] :: xB
theorem xd_L_setOpen : yL_setOpen.cls = RL ∧ yL_setOpen.cls ≠ "java/lang/invoke/MethodHandle" ∧ yL_setOpen.cls ≠ "java/lang/invoke/VarHandle" ∧ (parseMethodDescriptor yL_setOpen.desc).map (fun d => d.parameters.length) = some 4 := by decide +kernel
def fL_setOpen (nS : Nat) (nT : Nat) (a1 : Int32) (a2 : Int32) (sc : xSC) (sl : xSL) : Option (Int32 × xSC × xSL) := oC (fX5_setOpen nS nT a1 a2 sc) (fun E1 s1 => (if E1 = "java/lang/IndexOutOfBoundsException" then some (1, s1, sl) else none)) (fun v s1 => (if v = 0 then some (0, s1, (0, sl.2)) else some (0, s1, (1, sl.2))))
set_option maxHeartbeats 4000000 in
set_option maxRecDepth 100000 in
theorem kL_setOpen (l : Launch) (hl0 : l.stackTraces = false) (G : xG) (sh : xSh) (sc : xSC) (sr : xSR) (sl : xSL) (a1 : Int32) (a2 : Int32) (r : Int32 × xSC × xSL) (hf : fL_setOpen sh.2.1 sh.2.2 a1 a2 sc sl = some r) : xMet l yL_setOpen zL_setOpen rL_setOpen G sh sc sr sl ([.ref (sh.1 0 0), .int a1, .int a2, .ref (sh.1 14 0)] : List Value) (.inr (some (.int r.1))) (xWd G sh r.2.1 sr r.2.2) := by
  refine xMet_ofH (cc := cL_setOpen) (maxL := 5) (ret := (some .int)) (hh := [(0, 17, 20, 21)]) (by decide) (Nat.le_of_ble_eq_true rfl) ?_
  intro p e s m below meth c F hT hW hr hlocks htab ls hl
  have F : CallFix p m c cL_setOpen 5 s ([.ref (sh.1 0 0), .int a1, .int a2, .ref (sh.1 14 0)] : List Value).toArray xB RL := F
  have hx := F.1
  have hb := F.2.1
  have hS : va_S (xA G) s.heap s.heap [] := va_S.rf
  have hl : lv_has ls 5 [(0, .ref (sh.1 0 0)), (1, .int a1), (2, .int a2), (3, .ref (sh.1 14 0))] := hl
  unfold fL_setOpen at hf
  refine lv_aload_n hx hb dL_setOpen_0 rfl (lv_at hl 3 rfl) ?_
  refine lv_iconst (v := 0) hx hb dL_setOpen_1 (by decide) ?_
  refine lv_aload_n hx hb dL_setOpen_2 rfl (lv_at hl 0 rfl) ?_
  refine lv_iload_n hx hb dL_setOpen_3 rfl (lv_at hl 1 rfl) ?_
  refine lv_iload_n hx hb dL_setOpen_4 rfl (lv_at hl 2 rfl) ?_
  rcases oC_go hf with ⟨v, s1, hc, hf⟩ | ⟨E1, s1, hc, hf⟩
  · refine xcallV (n := 2) F hT hW hS (xm_fix (by decide)) xce_0 rfl (kX5_setOpen l hl0 G sh sc sr sl a1 a2 _ hc) (xgV xw_350 xw_351 xw_352 xw_1 xw_353) rfl xd_X5_setOpen ⟨(Nat.le_of_ble_eq_true rfl), (Nat.le_of_ble_eq_true rfl)⟩ rfl hl.1 rfl (Nat.le_of_ble_eq_true rfl) dL_setOpen_5 ⟨(Nat.le_of_ble_eq_true rfl), (Nat.le_of_ble_eq_true rfl)⟩ (fun v9 H locs hres hW hS => ?_) (fun E9 H locs q9 ce9 hres => by cases hres)
    cases hres
    refine W.eq (g2 := F0 m 8 ls (.int v :: .int 0 :: .ref (sh.1 14 0) :: [])) rfl ?_
    refine lv_if_eq (tgt := 15) hx hb dL_setOpen_8 (by decide) (fun c1 => ?_) (fun c1 => ?_)
    · replace hf := if_t c1 hf
      refine lv_lconst (v := 0) hx hb dL_setOpen_15 (by decide) ?_
      refine xlast F hT hW hS dL_setOpen_16 (fun H locs hW hS => ?_)
      refine lv_goto (tgt := 24) hx hb dL_setOpen_17 (by decide) ?_
      refine lv_iconst (v := 0) hx hb dL_setOpen_24 (by decide) ?_
      cases hf
      exact xret_i (ty := .int) F hr hlocks hS rfl rfl hW (Nat.le_of_ble_eq_true rfl) (Nat.le_of_ble_eq_true rfl) dL_setOpen_25
    · replace hf := if_f c1 hf
      refine lv_lconst (v := 1) hx hb dL_setOpen_11 (by decide) ?_
      refine lv_goto (tgt := 16) hx hb dL_setOpen_12 (by decide) ?_
      refine xlast F hT hW hS dL_setOpen_16 (fun H locs hW hS => ?_)
      refine lv_goto (tgt := 24) hx hb dL_setOpen_17 (by decide) ?_
      refine lv_iconst (v := 0) hx hb dL_setOpen_24 (by decide) ?_
      cases hf
      exact xret_i (ty := .int) F hr hlocks hS rfl rfl hW (Nat.le_of_ble_eq_true rfl) (Nat.le_of_ble_eq_true rfl) dL_setOpen_25
  · refine xcallV (n := 2) F hT hW hS (xm_fix (by decide)) xce_0 rfl (kX5_setOpen l hl0 G sh sc sr sl a1 a2 _ hc) (xgV xw_350 xw_351 xw_352 xw_1 xw_353) rfl xd_X5_setOpen ⟨(Nat.le_of_ble_eq_true rfl), (Nat.le_of_ble_eq_true rfl)⟩ rfl hl.1 rfl (Nat.le_of_ble_eq_true rfl) dL_setOpen_5 ⟨(Nat.le_of_ble_eq_true rfl), (Nat.le_of_ble_eq_true rfl)⟩ (fun v9 H locs hres => by cases hres) (fun E9 H locs q9 ce9 hres hW hS hcell hv9 hcl => ?_)
    cases hres
    by_cases hE : E1 = "java/lang/IndexOutOfBoundsException"
    · replace hf := if_t hE hf
      subst hE
      refine vx_catch (name := "java/lang/IndexOutOfBoundsException") F.2.2.2.1 [] ⟨0, 17, 20, 21⟩ [] htab (fun z hz => nomatch hz) (by decide) (by decide) (F.2.2.2.2 _ xw_326) (va_Nw.use rfl (hT.2.2.2.2.1 _ (List.mem_of_getElem? (i := 5) rfl))) hcell hv9 hcl ?_
      refine lv_astore (lv' := [(4, .ref q9), (0, .ref (sh.1 0 0)), (1, .int a1), (2, .int a2), (3, .ref (sh.1 14 0))]) hx hb dL_setOpen_20 hl (by decide) rfl (fun ls hl => ?_)
      refine lv_iconst (v := 1) hx hb dL_setOpen_22 (by decide) ?_
      cases hf
      exact xret_i (ty := .int) F hr hlocks hS rfl rfl hW (Nat.le_of_ble_eq_true rfl) (Nat.le_of_ble_eq_true rfl) dL_setOpen_23
    replace hf := if_f hE hf
    cases hf
abbrev rL_setLimit : Room := { frames := 8, cells := 3, slots := 18, locals := 137 }
abbrev zL_setLimit : List Cond := Cond.codeWith yL_setLimit cL_setLimit 6 (some .int) [(0, 12, 15, 21), (0, 12, 19, 13)] :: xB
theorem xd_L_setLimit : yL_setLimit.cls = RL ∧ yL_setLimit.cls ≠ "java/lang/invoke/MethodHandle" ∧ yL_setLimit.cls ≠ "java/lang/invoke/VarHandle" ∧ (parseMethodDescriptor yL_setLimit.desc).map (fun d => d.parameters.length) = some 5 := by decide +kernel
def fL_setLimit (nS : Nat) (nT : Nat) (a1 : Int32) (a2 : Int32) (a3 : Int32) (sc : xSC) (sl : xSL) : Option (Int32 × xSC × xSL) := oC (fX5_setLimit nS nT a1 a2 a3 sc) (fun E1 s1 => (if E1 = "java/lang/IndexOutOfBoundsException" then some (1, s1, sl) else (if E1 = "java/lang/IllegalArgumentException" then some (2, s1, sl) else none))) (fun v s1 => some (0, s1, (v.toInt64, sl.2)))
set_option maxHeartbeats 4000000 in
set_option maxRecDepth 100000 in
theorem kL_setLimit (l : Launch) (hl0 : l.stackTraces = false) (G : xG) (sh : xSh) (sc : xSC) (sr : xSR) (sl : xSL) (a1 : Int32) (a2 : Int32) (a3 : Int32) (r : Int32 × xSC × xSL) (hf : fL_setLimit sh.2.1 sh.2.2 a1 a2 a3 sc sl = some r) : xMet l yL_setLimit zL_setLimit rL_setLimit G sh sc sr sl ([.ref (sh.1 0 0), .int a1, .int a2, .int a3, .ref (sh.1 14 0)] : List Value) (.inr (some (.int r.1))) (xWd G sh r.2.1 sr r.2.2) := by
  refine xMet_ofH (cc := cL_setLimit) (maxL := 6) (ret := (some .int)) (hh := [(0, 12, 15, 21), (0, 12, 19, 13)]) (by decide) (Nat.le_of_ble_eq_true rfl) ?_
  intro p e s m below meth c F hT hW hr hlocks htab ls hl
  have F : CallFix p m c cL_setLimit 6 s ([.ref (sh.1 0 0), .int a1, .int a2, .int a3, .ref (sh.1 14 0)] : List Value).toArray xB RL := F
  have hx := F.1
  have hb := F.2.1
  have hS : va_S (xA G) s.heap s.heap [] := va_S.rf
  have hl : lv_has ls 6 [(0, .ref (sh.1 0 0)), (1, .int a1), (2, .int a2), (3, .int a3), (4, .ref (sh.1 14 0))] := hl
  unfold fL_setLimit at hf
  refine lv_aload hx hb dL_setLimit_0 (lv_at hl 4 rfl) ?_
  refine lv_iconst (v := 0) hx hb dL_setLimit_2 (by decide) ?_
  refine lv_aload_n hx hb dL_setLimit_3 rfl (lv_at hl 0 rfl) ?_
  refine lv_iload_n hx hb dL_setLimit_4 rfl (lv_at hl 1 rfl) ?_
  refine lv_iload_n hx hb dL_setLimit_5 rfl (lv_at hl 2 rfl) ?_
  refine lv_iload_n hx hb dL_setLimit_6 rfl (lv_at hl 3 rfl) ?_
  rcases oC_go hf with ⟨v, s1, hc, hf⟩ | ⟨E1, s1, hc, hf⟩
  · refine xcallV (n := 3) F hT hW hS (xm_fix (by decide)) xce_0 rfl (kX5_setLimit l hl0 G sh sc sr sl a1 a2 a3 _ hc) (xgV xw_378 xw_379 xw_380 xw_1 xw_381) rfl xd_X5_setLimit ⟨(Nat.le_of_ble_eq_true rfl), (Nat.le_of_ble_eq_true rfl)⟩ rfl hl.1 rfl (Nat.le_of_ble_eq_true rfl) dL_setLimit_7 ⟨(Nat.le_of_ble_eq_true rfl), (Nat.le_of_ble_eq_true rfl)⟩ (fun v9 H locs hres hW hS => ?_) (fun E9 H locs q9 ce9 hres => by cases hres)
    cases hres
    refine W.eq (g2 := F0 m 10 ls (.int v :: .int 0 :: .ref (sh.1 14 0) :: [])) rfl ?_
    refine lv_i2l hx hb dL_setLimit_10 rfl ?_
    refine xlast F hT hW hS dL_setLimit_11 (fun H locs hW hS => ?_)
    refine lv_goto (tgt := 23) hx hb dL_setLimit_12 (by decide) ?_
    refine lv_iconst (v := 0) hx hb dL_setLimit_23 (by decide) ?_
    cases hf
    exact xret_i (ty := .int) F hr hlocks hS rfl rfl hW (Nat.le_of_ble_eq_true rfl) (Nat.le_of_ble_eq_true rfl) dL_setLimit_24
  · refine xcallV (n := 3) F hT hW hS (xm_fix (by decide)) xce_0 rfl (kX5_setLimit l hl0 G sh sc sr sl a1 a2 a3 _ hc) (xgV xw_378 xw_379 xw_380 xw_1 xw_381) rfl xd_X5_setLimit ⟨(Nat.le_of_ble_eq_true rfl), (Nat.le_of_ble_eq_true rfl)⟩ rfl hl.1 rfl (Nat.le_of_ble_eq_true rfl) dL_setLimit_7 ⟨(Nat.le_of_ble_eq_true rfl), (Nat.le_of_ble_eq_true rfl)⟩ (fun v9 H locs hres => by cases hres) (fun E9 H locs q9 ce9 hres hW hS hcell hv9 hcl => ?_)
    cases hres
    by_cases hE : E1 = "java/lang/IndexOutOfBoundsException"
    · replace hf := if_t hE hf
      subst hE
      refine vx_catch (name := "java/lang/IndexOutOfBoundsException") F.2.2.2.1 [] ⟨0, 12, 15, 21⟩ [⟨0, 12, 19, 13⟩] htab (fun z hz => nomatch hz) (by decide) (by decide) (F.2.2.2.2 _ xw_326) (va_Nw.use rfl (hT.2.2.2.2.1 _ (List.mem_of_getElem? (i := 5) rfl))) hcell hv9 hcl ?_
      refine lv_astore (lv' := [(5, .ref q9), (0, .ref (sh.1 0 0)), (1, .int a1), (2, .int a2), (3, .int a3), (4, .ref (sh.1 14 0))]) hx hb dL_setLimit_15 hl (by decide) rfl (fun ls hl => ?_)
      refine lv_iconst (v := 1) hx hb dL_setLimit_17 (by decide) ?_
      cases hf
      exact xret_i (ty := .int) F hr hlocks hS rfl rfl hW (Nat.le_of_ble_eq_true rfl) (Nat.le_of_ble_eq_true rfl) dL_setLimit_18
    replace hf := if_f hE hf
    by_cases hE : E1 = "java/lang/IllegalArgumentException"
    · replace hf := if_t hE hf
      subst hE
      refine vx_catch (name := "java/lang/IllegalArgumentException") F.2.2.2.1 [⟨0, 12, 15, 21⟩] ⟨0, 12, 19, 13⟩ [] htab (fun z hz => by rw [List.mem_singleton.mp hz]; exact Or.inr ⟨by decide, "java/lang/IndexOutOfBoundsException", F.2.2.2.2 _ xw_326, hT.2.2.2.2.2.1 _ (List.mem_of_getElem? (i := 7) rfl)⟩) (by decide) (by decide) (F.2.2.2.2 _ xw_179) (va_Nw.use rfl (hT.2.2.2.2.1 _ (List.mem_of_getElem? (i := 3) rfl))) hcell hv9 hcl ?_
      refine lv_astore (lv' := [(5, .ref q9), (0, .ref (sh.1 0 0)), (1, .int a1), (2, .int a2), (3, .int a3), (4, .ref (sh.1 14 0))]) hx hb dL_setLimit_19 hl (by decide) rfl (fun ls hl => ?_)
      refine lv_iconst (v := 2) hx hb dL_setLimit_21 (by decide) ?_
      cases hf
      exact xret_i (ty := .int) F hr hlocks hS rfl rfl hW (Nat.le_of_ble_eq_true rfl) (Nat.le_of_ble_eq_true rfl) dL_setLimit_22
    replace hf := if_f hE hf
    cases hf
abbrev rL_addTenant : Room := { frames := 8, cells := 9, slots := 51, locals := 148 }
abbrev zL_addTenant : List Cond := Cond.codeWith yL_addTenant cL_addTenant 8 (some .int) [(0, 16, 19, 21), (0, 16, 23, 13), (0, 16, 27, 30), (0, 16, 31, 15)] :: xB
theorem xd_L_addTenant : yL_addTenant.cls = RL ∧ yL_addTenant.cls ≠ "java/lang/invoke/MethodHandle" ∧ yL_addTenant.cls ≠ "java/lang/invoke/VarHandle" ∧ (parseMethodDescriptor yL_addTenant.desc).map (fun d => d.parameters.length) = some 7 := by decide +kernel
def fL_addTenant (nS : Nat) (nT : Nat) (a1 : Int32) (a2 : Int32) (a3 : Int32) (a4 : Int32) (a5 : Int32) (sc : xSC) (sl : xSL) : Option (Int32 × xSC × xSL) := oC (fX5_addTenant nS nT a1 a2 a3 a4 a5 sc) (fun E1 s1 => (if E1 = "java/lang/IndexOutOfBoundsException" then some (1, s1, sl) else (if E1 = "java/lang/IllegalArgumentException" then some (2, s1, sl) else (if E1 = "java/lang/UnsupportedOperationException" then some (3, s1, sl) else (if E1 = "java/lang/IllegalStateException" then some (4, s1, sl) else none))))) (fun v s1 => some (0, s1, (v.toInt64, sl.2)))
set_option maxHeartbeats 4000000 in
set_option maxRecDepth 100000 in
theorem kL_addTenant (l : Launch) (hl0 : l.stackTraces = false) (G : xG) (sh : xSh) (sc : xSC) (sr : xSR) (sl : xSL) (a1 : Int32) (a2 : Int32) (a3 : Int32) (a4 : Int32) (a5 : Int32) (r : Int32 × xSC × xSL) (hf : fL_addTenant sh.2.1 sh.2.2 a1 a2 a3 a4 a5 sc sl = some r) : xMet l yL_addTenant zL_addTenant rL_addTenant G sh sc sr sl ([.ref (sh.1 0 0), .int a1, .int a2, .int a3, .int a4, .int a5, .ref (sh.1 14 0)] : List Value) (.inr (some (.int r.1))) (xPwLT G sh r sr) := by
  refine xMet_ofH (cc := cL_addTenant) (maxL := 8) (ret := (some .int)) (hh := [(0, 16, 19, 21), (0, 16, 23, 13), (0, 16, 27, 30), (0, 16, 31, 15)]) (by decide) (Nat.le_of_ble_eq_true rfl) ?_
  intro p e s m below meth c F hT hW hr hlocks htab ls hl
  have F : CallFix p m c cL_addTenant 8 s ([.ref (sh.1 0 0), .int a1, .int a2, .int a3, .int a4, .int a5, .ref (sh.1 14 0)] : List Value).toArray xB RL := F
  have hx := F.1
  have hb := F.2.1
  have hS : va_S (xA G) s.heap s.heap [] := va_S.rf
  have hl : lv_has ls 8 [(0, .ref (sh.1 0 0)), (1, .int a1), (2, .int a2), (3, .int a3), (4, .int a4), (5, .int a5), (6, .ref (sh.1 14 0))] := hl
  unfold fL_addTenant at hf
  refine lv_aload hx hb dL_addTenant_0 (lv_at hl 6 rfl) ?_
  refine lv_iconst (v := 0) hx hb dL_addTenant_2 (by decide) ?_
  refine lv_aload_n hx hb dL_addTenant_3 rfl (lv_at hl 0 rfl) ?_
  refine lv_iload_n hx hb dL_addTenant_4 rfl (lv_at hl 1 rfl) ?_
  refine lv_iload_n hx hb dL_addTenant_5 rfl (lv_at hl 2 rfl) ?_
  refine lv_iload_n hx hb dL_addTenant_6 rfl (lv_at hl 3 rfl) ?_
  refine lv_iload hx hb dL_addTenant_7 (lv_at hl 4 rfl) ?_
  refine lv_iload hx hb dL_addTenant_9 (lv_at hl 5 rfl) ?_
  rcases oC_go hf with ⟨v, s1, hc, hf⟩ | ⟨E1, s1, hc, hf⟩
  · refine xcallV (n := 5) F hT hW hS (xm_fix (by decide)) xce_0 rfl (kX5_addTenant l hl0 G sh sc sr sl a1 a2 a3 a4 a5 _ hc) (xgV xw_398 xw_399 xw_400 xw_1 xw_401) rfl xd_X5_addTenant ⟨(Nat.le_of_ble_eq_true rfl), (Nat.le_of_ble_eq_true rfl)⟩ rfl hl.1 rfl (Nat.le_of_ble_eq_true rfl) dL_addTenant_11 ⟨(Nat.le_of_ble_eq_true rfl), (Nat.le_of_ble_eq_true rfl)⟩ (fun v9 H locs hres hW hS => ?_) (fun E9 H locs q9 ce9 hres => by cases hres)
    cases hres
    refine W.eq (g2 := F0 m 14 ls (.int v :: .int 0 :: .ref (sh.1 14 0) :: [])) rfl ?_
    obtain ⟨sh2, e1, e2, eg, hW⟩ := hW
    refine W.eq (g2 := F0 m 14 ls (.int v :: .int 0 :: .ref (sh2.1 14 0) :: [])) (by rw [eg.2.2.1]) ?_
    refine lv_i2l hx hb dL_addTenant_14 rfl ?_
    refine xlast F hT hW hS dL_addTenant_15 (fun H locs hW hS => ?_)
    refine lv_goto (tgt := 35) hx hb dL_addTenant_16 (by decide) ?_
    refine lv_iconst (v := 0) hx hb dL_addTenant_35 (by decide) ?_
    cases hf
    exact xret_i (ty := .int) F hr hlocks hS rfl rfl (by unfold xPwLT; rw [if_pos rfl]; exact ⟨sh2, e1, e2, eg, hW⟩) (Nat.le_of_ble_eq_true rfl) (Nat.le_of_ble_eq_true rfl) dL_addTenant_36
  · refine xcallV (n := 5) F hT hW hS (xm_fix (by decide)) xce_0 rfl (kX5_addTenant l hl0 G sh sc sr sl a1 a2 a3 a4 a5 _ hc) (xgV xw_398 xw_399 xw_400 xw_1 xw_401) rfl xd_X5_addTenant ⟨(Nat.le_of_ble_eq_true rfl), (Nat.le_of_ble_eq_true rfl)⟩ rfl hl.1 rfl (Nat.le_of_ble_eq_true rfl) dL_addTenant_11 ⟨(Nat.le_of_ble_eq_true rfl), (Nat.le_of_ble_eq_true rfl)⟩ (fun v9 H locs hres => by cases hres) (fun E9 H locs q9 ce9 hres hW hS hcell hv9 hcl => ?_)
    cases hres
    by_cases hE : E1 = "java/lang/IndexOutOfBoundsException"
    · replace hf := if_t hE hf
      subst hE
      refine vx_catch (name := "java/lang/IndexOutOfBoundsException") F.2.2.2.1 [] ⟨0, 16, 19, 21⟩ [⟨0, 16, 23, 13⟩, ⟨0, 16, 27, 30⟩, ⟨0, 16, 31, 15⟩] htab (fun z hz => nomatch hz) (by decide) (by decide) (F.2.2.2.2 _ xw_326) (va_Nw.use rfl (hT.2.2.2.2.1 _ (List.mem_of_getElem? (i := 5) rfl))) hcell hv9 hcl ?_
      refine lv_astore (lv' := [(7, .ref q9), (0, .ref (sh.1 0 0)), (1, .int a1), (2, .int a2), (3, .int a3), (4, .int a4), (5, .int a5), (6, .ref (sh.1 14 0))]) hx hb dL_addTenant_19 hl (by decide) rfl (fun ls hl => ?_)
      refine lv_iconst (v := 1) hx hb dL_addTenant_21 (by decide) ?_
      cases hf
      exact xret_i (ty := .int) F hr hlocks hS rfl rfl (by unfold xPwLT; rw [if_neg (show ¬ ((1 : Int32) = 0) by decide)]; exact hW) (Nat.le_of_ble_eq_true rfl) (Nat.le_of_ble_eq_true rfl) dL_addTenant_22
    replace hf := if_f hE hf
    by_cases hE : E1 = "java/lang/IllegalArgumentException"
    · replace hf := if_t hE hf
      subst hE
      refine vx_catch (name := "java/lang/IllegalArgumentException") F.2.2.2.1 [⟨0, 16, 19, 21⟩] ⟨0, 16, 23, 13⟩ [⟨0, 16, 27, 30⟩, ⟨0, 16, 31, 15⟩] htab (fun z hz => by rw [List.mem_singleton.mp hz]; exact Or.inr ⟨by decide, "java/lang/IndexOutOfBoundsException", F.2.2.2.2 _ xw_326, hT.2.2.2.2.2.1 _ (List.mem_of_getElem? (i := 7) rfl)⟩) (by decide) (by decide) (F.2.2.2.2 _ xw_179) (va_Nw.use rfl (hT.2.2.2.2.1 _ (List.mem_of_getElem? (i := 3) rfl))) hcell hv9 hcl ?_
      refine lv_astore (lv' := [(7, .ref q9), (0, .ref (sh.1 0 0)), (1, .int a1), (2, .int a2), (3, .int a3), (4, .int a4), (5, .int a5), (6, .ref (sh.1 14 0))]) hx hb dL_addTenant_23 hl (by decide) rfl (fun ls hl => ?_)
      refine lv_iconst (v := 2) hx hb dL_addTenant_25 (by decide) ?_
      cases hf
      exact xret_i (ty := .int) F hr hlocks hS rfl rfl (by unfold xPwLT; rw [if_neg (show ¬ ((2 : Int32) = 0) by decide)]; exact hW) (Nat.le_of_ble_eq_true rfl) (Nat.le_of_ble_eq_true rfl) dL_addTenant_26
    replace hf := if_f hE hf
    by_cases hE : E1 = "java/lang/UnsupportedOperationException"
    · replace hf := if_t hE hf
      subst hE
      refine vx_catch (name := "java/lang/UnsupportedOperationException") F.2.2.2.1 [⟨0, 16, 19, 21⟩, ⟨0, 16, 23, 13⟩] ⟨0, 16, 27, 30⟩ [⟨0, 16, 31, 15⟩] htab (fun z hz => by
    simp only [List.mem_cons, List.not_mem_nil, or_false] at hz
    rcases hz with rfl | rfl
    · exact Or.inr ⟨by decide, "java/lang/IndexOutOfBoundsException", F.2.2.2.2 _ xw_326, hT.2.2.2.2.2.1 _ (List.mem_of_getElem? (i := 23) rfl)⟩
    · exact Or.inr ⟨by decide, "java/lang/IllegalArgumentException", F.2.2.2.2 _ xw_179, hT.2.2.2.2.2.1 _ (List.mem_of_getElem? (i := 21) rfl)⟩) (by decide) (by decide) (F.2.2.2.2 _ xw_397) (va_Nw.use rfl (hT.2.2.2.2.1 _ (List.mem_of_getElem? (i := 6) rfl))) hcell hv9 hcl ?_
      refine lv_astore (lv' := [(7, .ref q9), (0, .ref (sh.1 0 0)), (1, .int a1), (2, .int a2), (3, .int a3), (4, .int a4), (5, .int a5), (6, .ref (sh.1 14 0))]) hx hb dL_addTenant_27 hl (by decide) rfl (fun ls hl => ?_)
      refine lv_iconst (v := 3) hx hb dL_addTenant_29 (by decide) ?_
      cases hf
      exact xret_i (ty := .int) F hr hlocks hS rfl rfl (by unfold xPwLT; rw [if_neg (show ¬ ((3 : Int32) = 0) by decide)]; exact hW) (Nat.le_of_ble_eq_true rfl) (Nat.le_of_ble_eq_true rfl) dL_addTenant_30
    replace hf := if_f hE hf
    by_cases hE : E1 = "java/lang/IllegalStateException"
    · replace hf := if_t hE hf
      subst hE
      refine vx_catch (name := "java/lang/IllegalStateException") F.2.2.2.1 [⟨0, 16, 19, 21⟩, ⟨0, 16, 23, 13⟩, ⟨0, 16, 27, 30⟩] ⟨0, 16, 31, 15⟩ [] htab (fun z hz => by
    simp only [List.mem_cons, List.not_mem_nil, or_false] at hz
    rcases hz with rfl | rfl | rfl
    · exact Or.inr ⟨by decide, "java/lang/IndexOutOfBoundsException", F.2.2.2.2 _ xw_326, hT.2.2.2.2.2.1 _ (List.mem_of_getElem? (i := 12) rfl)⟩
    · exact Or.inr ⟨by decide, "java/lang/IllegalArgumentException", F.2.2.2.2 _ xw_179, hT.2.2.2.2.2.1 _ (List.mem_of_getElem? (i := 11) rfl)⟩
    · exact Or.inr ⟨by decide, "java/lang/UnsupportedOperationException", F.2.2.2.2 _ xw_397, hT.2.2.2.2.2.1 _ (List.mem_of_getElem? (i := 13) rfl)⟩) (by decide) (by decide) (F.2.2.2.2 _ xw_180) (va_Nw.use rfl (hT.2.2.2.2.1 _ (List.mem_of_getElem? (i := 4) rfl))) hcell hv9 hcl ?_
      refine lv_astore (lv' := [(7, .ref q9), (0, .ref (sh.1 0 0)), (1, .int a1), (2, .int a2), (3, .int a3), (4, .int a4), (5, .int a5), (6, .ref (sh.1 14 0))]) hx hb dL_addTenant_31 hl (by decide) rfl (fun ls hl => ?_)
      refine lv_iconst (v := 4) hx hb dL_addTenant_33 (by decide) ?_
      cases hf
      exact xret_i (ty := .int) F hr hlocks hS rfl rfl (by unfold xPwLT; rw [if_neg (show ¬ ((4 : Int32) = 0) by decide)]; exact hW) (Nat.le_of_ble_eq_true rfl) (Nat.le_of_ble_eq_true rfl) dL_addTenant_34
    replace hf := if_f hE hf
    cases hf
abbrev rL_setSize : Room := { frames := 8, cells := 3, slots := 18, locals := 137 }
abbrev zL_setSize : List Cond := Cond.codeWith yL_setSize cL_setSize 6 (some .int) [(0, 12, 15, 21), (0, 12, 19, 13)] :: xB
theorem xd_L_setSize : yL_setSize.cls = RL ∧ yL_setSize.cls ≠ "java/lang/invoke/MethodHandle" ∧ yL_setSize.cls ≠ "java/lang/invoke/VarHandle" ∧ (parseMethodDescriptor yL_setSize.desc).map (fun d => d.parameters.length) = some 5 := by decide +kernel
def fL_setSize (nS : Nat) (nT : Nat) (a1 : Int32) (a2 : Int32) (a3 : Int32) (sc : xSC) (sl : xSL) : Option (Int32 × xSC × xSL) := oC (fX5_setSize nS nT a1 a2 a3 sc) (fun E1 s1 => (if E1 = "java/lang/IndexOutOfBoundsException" then some (1, s1, sl) else (if E1 = "java/lang/IllegalArgumentException" then some (2, s1, sl) else none))) (fun v s1 => some (0, s1, (v.toInt64, sl.2)))
set_option maxHeartbeats 4000000 in
set_option maxRecDepth 100000 in
theorem kL_setSize (l : Launch) (hl0 : l.stackTraces = false) (G : xG) (sh : xSh) (sc : xSC) (sr : xSR) (sl : xSL) (a1 : Int32) (a2 : Int32) (a3 : Int32) (r : Int32 × xSC × xSL) (hf : fL_setSize sh.2.1 sh.2.2 a1 a2 a3 sc sl = some r) : xMet l yL_setSize zL_setSize rL_setSize G sh sc sr sl ([.ref (sh.1 0 0), .int a1, .int a2, .int a3, .ref (sh.1 14 0)] : List Value) (.inr (some (.int r.1))) (xWd G sh r.2.1 sr r.2.2) := by
  refine xMet_ofH (cc := cL_setSize) (maxL := 6) (ret := (some .int)) (hh := [(0, 12, 15, 21), (0, 12, 19, 13)]) (by decide) (Nat.le_of_ble_eq_true rfl) ?_
  intro p e s m below meth c F hT hW hr hlocks htab ls hl
  have F : CallFix p m c cL_setSize 6 s ([.ref (sh.1 0 0), .int a1, .int a2, .int a3, .ref (sh.1 14 0)] : List Value).toArray xB RL := F
  have hx := F.1
  have hb := F.2.1
  have hS : va_S (xA G) s.heap s.heap [] := va_S.rf
  have hl : lv_has ls 6 [(0, .ref (sh.1 0 0)), (1, .int a1), (2, .int a2), (3, .int a3), (4, .ref (sh.1 14 0))] := hl
  unfold fL_setSize at hf
  refine lv_aload hx hb dL_setSize_0 (lv_at hl 4 rfl) ?_
  refine lv_iconst (v := 0) hx hb dL_setSize_2 (by decide) ?_
  refine lv_aload_n hx hb dL_setSize_3 rfl (lv_at hl 0 rfl) ?_
  refine lv_iload_n hx hb dL_setSize_4 rfl (lv_at hl 1 rfl) ?_
  refine lv_iload_n hx hb dL_setSize_5 rfl (lv_at hl 2 rfl) ?_
  refine lv_iload_n hx hb dL_setSize_6 rfl (lv_at hl 3 rfl) ?_
  rcases oC_go hf with ⟨v, s1, hc, hf⟩ | ⟨E1, s1, hc, hf⟩
  · refine xcallV (n := 3) F hT hW hS (xm_fix (by decide)) xce_0 rfl (kX5_setSize l hl0 G sh sc sr sl a1 a2 a3 _ hc) (xgV xw_493 xw_494 xw_495 xw_1 xw_496) rfl xd_X5_setSize ⟨(Nat.le_of_ble_eq_true rfl), (Nat.le_of_ble_eq_true rfl)⟩ rfl hl.1 rfl (Nat.le_of_ble_eq_true rfl) dL_setSize_7 ⟨(Nat.le_of_ble_eq_true rfl), (Nat.le_of_ble_eq_true rfl)⟩ (fun v9 H locs hres hW hS => ?_) (fun E9 H locs q9 ce9 hres => by cases hres)
    cases hres
    refine W.eq (g2 := F0 m 10 ls (.int v :: .int 0 :: .ref (sh.1 14 0) :: [])) rfl ?_
    refine lv_i2l hx hb dL_setSize_10 rfl ?_
    refine xlast F hT hW hS dL_setSize_11 (fun H locs hW hS => ?_)
    refine lv_goto (tgt := 23) hx hb dL_setSize_12 (by decide) ?_
    refine lv_iconst (v := 0) hx hb dL_setSize_23 (by decide) ?_
    cases hf
    exact xret_i (ty := .int) F hr hlocks hS rfl rfl hW (Nat.le_of_ble_eq_true rfl) (Nat.le_of_ble_eq_true rfl) dL_setSize_24
  · refine xcallV (n := 3) F hT hW hS (xm_fix (by decide)) xce_0 rfl (kX5_setSize l hl0 G sh sc sr sl a1 a2 a3 _ hc) (xgV xw_493 xw_494 xw_495 xw_1 xw_496) rfl xd_X5_setSize ⟨(Nat.le_of_ble_eq_true rfl), (Nat.le_of_ble_eq_true rfl)⟩ rfl hl.1 rfl (Nat.le_of_ble_eq_true rfl) dL_setSize_7 ⟨(Nat.le_of_ble_eq_true rfl), (Nat.le_of_ble_eq_true rfl)⟩ (fun v9 H locs hres => by cases hres) (fun E9 H locs q9 ce9 hres hW hS hcell hv9 hcl => ?_)
    cases hres
    by_cases hE : E1 = "java/lang/IndexOutOfBoundsException"
    · replace hf := if_t hE hf
      subst hE
      refine vx_catch (name := "java/lang/IndexOutOfBoundsException") F.2.2.2.1 [] ⟨0, 12, 15, 21⟩ [⟨0, 12, 19, 13⟩] htab (fun z hz => nomatch hz) (by decide) (by decide) (F.2.2.2.2 _ xw_326) (va_Nw.use rfl (hT.2.2.2.2.1 _ (List.mem_of_getElem? (i := 5) rfl))) hcell hv9 hcl ?_
      refine lv_astore (lv' := [(5, .ref q9), (0, .ref (sh.1 0 0)), (1, .int a1), (2, .int a2), (3, .int a3), (4, .ref (sh.1 14 0))]) hx hb dL_setSize_15 hl (by decide) rfl (fun ls hl => ?_)
      refine lv_iconst (v := 1) hx hb dL_setSize_17 (by decide) ?_
      cases hf
      exact xret_i (ty := .int) F hr hlocks hS rfl rfl hW (Nat.le_of_ble_eq_true rfl) (Nat.le_of_ble_eq_true rfl) dL_setSize_18
    replace hf := if_f hE hf
    by_cases hE : E1 = "java/lang/IllegalArgumentException"
    · replace hf := if_t hE hf
      subst hE
      refine vx_catch (name := "java/lang/IllegalArgumentException") F.2.2.2.1 [⟨0, 12, 15, 21⟩] ⟨0, 12, 19, 13⟩ [] htab (fun z hz => by rw [List.mem_singleton.mp hz]; exact Or.inr ⟨by decide, "java/lang/IndexOutOfBoundsException", F.2.2.2.2 _ xw_326, hT.2.2.2.2.2.1 _ (List.mem_of_getElem? (i := 7) rfl)⟩) (by decide) (by decide) (F.2.2.2.2 _ xw_179) (va_Nw.use rfl (hT.2.2.2.2.1 _ (List.mem_of_getElem? (i := 3) rfl))) hcell hv9 hcl ?_
      refine lv_astore (lv' := [(5, .ref q9), (0, .ref (sh.1 0 0)), (1, .int a1), (2, .int a2), (3, .int a3), (4, .ref (sh.1 14 0))]) hx hb dL_setSize_19 hl (by decide) rfl (fun ls hl => ?_)
      refine lv_iconst (v := 2) hx hb dL_setSize_21 (by decide) ?_
      cases hf
      exact xret_i (ty := .int) F hr hlocks hS rfl rfl hW (Nat.le_of_ble_eq_true rfl) (Nat.le_of_ble_eq_true rfl) dL_setSize_22
    replace hf := if_f hE hf
    cases hf
abbrev rL_setWindow : Room := { frames := 8, cells := 3, slots := 18, locals := 136 }
abbrev zL_setWindow : List Cond := Cond.codeWith yL_setWindow cL_setWindow 6 (some .int) [(0, 12, 15, 21), (0, 12, 19, 13)] :: xB
theorem xd_L_setWindow : yL_setWindow.cls = RL ∧ yL_setWindow.cls ≠ "java/lang/invoke/MethodHandle" ∧ yL_setWindow.cls ≠ "java/lang/invoke/VarHandle" ∧ (parseMethodDescriptor yL_setWindow.desc).map (fun d => d.parameters.length) = some 5 := by decide +kernel
def fL_setWindow (nS : Nat) (nT : Nat) (a1 : Int32) (a2 : Int32) (a3 : Int32) (sc : xSC) (sl : xSL) : Option (Int32 × xSC × xSL) := oC (fX5_setWindow nS nT a1 a2 a3 sc) (fun E1 s1 => (if E1 = "java/lang/IndexOutOfBoundsException" then some (1, s1, sl) else (if E1 = "java/lang/IllegalArgumentException" then some (2, s1, sl) else none))) (fun v s1 => some (0, s1, (v.toInt64, sl.2)))
set_option maxHeartbeats 4000000 in
set_option maxRecDepth 100000 in
theorem kL_setWindow (l : Launch) (hl0 : l.stackTraces = false) (G : xG) (sh : xSh) (sc : xSC) (sr : xSR) (sl : xSL) (a1 : Int32) (a2 : Int32) (a3 : Int32) (r : Int32 × xSC × xSL) (hf : fL_setWindow sh.2.1 sh.2.2 a1 a2 a3 sc sl = some r) : xMet l yL_setWindow zL_setWindow rL_setWindow G sh sc sr sl ([.ref (sh.1 0 0), .int a1, .int a2, .int a3, .ref (sh.1 14 0)] : List Value) (.inr (some (.int r.1))) (xWd G sh r.2.1 sr r.2.2) := by
  refine xMet_ofH (cc := cL_setWindow) (maxL := 6) (ret := (some .int)) (hh := [(0, 12, 15, 21), (0, 12, 19, 13)]) (by decide) (Nat.le_of_ble_eq_true rfl) ?_
  intro p e s m below meth c F hT hW hr hlocks htab ls hl
  have F : CallFix p m c cL_setWindow 6 s ([.ref (sh.1 0 0), .int a1, .int a2, .int a3, .ref (sh.1 14 0)] : List Value).toArray xB RL := F
  have hx := F.1
  have hb := F.2.1
  have hS : va_S (xA G) s.heap s.heap [] := va_S.rf
  have hl : lv_has ls 6 [(0, .ref (sh.1 0 0)), (1, .int a1), (2, .int a2), (3, .int a3), (4, .ref (sh.1 14 0))] := hl
  unfold fL_setWindow at hf
  refine lv_aload hx hb dL_setWindow_0 (lv_at hl 4 rfl) ?_
  refine lv_iconst (v := 0) hx hb dL_setWindow_2 (by decide) ?_
  refine lv_aload_n hx hb dL_setWindow_3 rfl (lv_at hl 0 rfl) ?_
  refine lv_iload_n hx hb dL_setWindow_4 rfl (lv_at hl 1 rfl) ?_
  refine lv_iload_n hx hb dL_setWindow_5 rfl (lv_at hl 2 rfl) ?_
  refine lv_iload_n hx hb dL_setWindow_6 rfl (lv_at hl 3 rfl) ?_
  rcases oC_go hf with ⟨v, s1, hc, hf⟩ | ⟨E1, s1, hc, hf⟩
  · refine xcallV (n := 3) F hT hW hS (xm_fix (by decide)) xce_0 rfl (kX5_setWindow l hl0 G sh sc sr sl a1 a2 a3 _ hc) (xgV xw_505 xw_506 xw_507 xw_1 xw_508) rfl xd_X5_setWindow ⟨(Nat.le_of_ble_eq_true rfl), (Nat.le_of_ble_eq_true rfl)⟩ rfl hl.1 rfl (Nat.le_of_ble_eq_true rfl) dL_setWindow_7 ⟨(Nat.le_of_ble_eq_true rfl), (Nat.le_of_ble_eq_true rfl)⟩ (fun v9 H locs hres hW hS => ?_) (fun E9 H locs q9 ce9 hres => by cases hres)
    cases hres
    refine W.eq (g2 := F0 m 10 ls (.int v :: .int 0 :: .ref (sh.1 14 0) :: [])) rfl ?_
    refine lv_i2l hx hb dL_setWindow_10 rfl ?_
    refine xlast F hT hW hS dL_setWindow_11 (fun H locs hW hS => ?_)
    refine lv_goto (tgt := 23) hx hb dL_setWindow_12 (by decide) ?_
    refine lv_iconst (v := 0) hx hb dL_setWindow_23 (by decide) ?_
    cases hf
    exact xret_i (ty := .int) F hr hlocks hS rfl rfl hW (Nat.le_of_ble_eq_true rfl) (Nat.le_of_ble_eq_true rfl) dL_setWindow_24
  · refine xcallV (n := 3) F hT hW hS (xm_fix (by decide)) xce_0 rfl (kX5_setWindow l hl0 G sh sc sr sl a1 a2 a3 _ hc) (xgV xw_505 xw_506 xw_507 xw_1 xw_508) rfl xd_X5_setWindow ⟨(Nat.le_of_ble_eq_true rfl), (Nat.le_of_ble_eq_true rfl)⟩ rfl hl.1 rfl (Nat.le_of_ble_eq_true rfl) dL_setWindow_7 ⟨(Nat.le_of_ble_eq_true rfl), (Nat.le_of_ble_eq_true rfl)⟩ (fun v9 H locs hres => by cases hres) (fun E9 H locs q9 ce9 hres hW hS hcell hv9 hcl => ?_)
    cases hres
    by_cases hE : E1 = "java/lang/IndexOutOfBoundsException"
    · replace hf := if_t hE hf
      subst hE
      refine vx_catch (name := "java/lang/IndexOutOfBoundsException") F.2.2.2.1 [] ⟨0, 12, 15, 21⟩ [⟨0, 12, 19, 13⟩] htab (fun z hz => nomatch hz) (by decide) (by decide) (F.2.2.2.2 _ xw_326) (va_Nw.use rfl (hT.2.2.2.2.1 _ (List.mem_of_getElem? (i := 5) rfl))) hcell hv9 hcl ?_
      refine lv_astore (lv' := [(5, .ref q9), (0, .ref (sh.1 0 0)), (1, .int a1), (2, .int a2), (3, .int a3), (4, .ref (sh.1 14 0))]) hx hb dL_setWindow_15 hl (by decide) rfl (fun ls hl => ?_)
      refine lv_iconst (v := 1) hx hb dL_setWindow_17 (by decide) ?_
      cases hf
      exact xret_i (ty := .int) F hr hlocks hS rfl rfl hW (Nat.le_of_ble_eq_true rfl) (Nat.le_of_ble_eq_true rfl) dL_setWindow_18
    replace hf := if_f hE hf
    by_cases hE : E1 = "java/lang/IllegalArgumentException"
    · replace hf := if_t hE hf
      subst hE
      refine vx_catch (name := "java/lang/IllegalArgumentException") F.2.2.2.1 [⟨0, 12, 15, 21⟩] ⟨0, 12, 19, 13⟩ [] htab (fun z hz => by rw [List.mem_singleton.mp hz]; exact Or.inr ⟨by decide, "java/lang/IndexOutOfBoundsException", F.2.2.2.2 _ xw_326, hT.2.2.2.2.2.1 _ (List.mem_of_getElem? (i := 7) rfl)⟩) (by decide) (by decide) (F.2.2.2.2 _ xw_179) (va_Nw.use rfl (hT.2.2.2.2.1 _ (List.mem_of_getElem? (i := 3) rfl))) hcell hv9 hcl ?_
      refine lv_astore (lv' := [(5, .ref q9), (0, .ref (sh.1 0 0)), (1, .int a1), (2, .int a2), (3, .int a3), (4, .ref (sh.1 14 0))]) hx hb dL_setWindow_19 hl (by decide) rfl (fun ls hl => ?_)
      refine lv_iconst (v := 2) hx hb dL_setWindow_21 (by decide) ?_
      cases hf
      exact xret_i (ty := .int) F hr hlocks hS rfl rfl hW (Nat.le_of_ble_eq_true rfl) (Nat.le_of_ble_eq_true rfl) dL_setWindow_22
    replace hf := if_f hE hf
    cases hf
abbrev rL_keepApart : Room := { frames := 8, cells := 3, slots := 18, locals := 136 }
abbrev zL_keepApart : List Cond := Cond.codeWith yL_keepApart cL_keepApart 5 (some .int) [(0, 10, 13, 21), (0, 10, 17, 13), (0, 10, 21, 30), (0, 10, 25, 15)] :: xB
theorem xd_L_keepApart : yL_keepApart.cls = RL ∧ yL_keepApart.cls ≠ "java/lang/invoke/MethodHandle" ∧ yL_keepApart.cls ≠ "java/lang/invoke/VarHandle" ∧ (parseMethodDescriptor yL_keepApart.desc).map (fun d => d.parameters.length) = some 4 := by decide +kernel
def fL_keepApart (nS : Nat) (nT : Nat) (a1 : Int32) (a2 : Int32) (sc : xSC) (sl : xSL) : Option (Int32 × xSC × xSL) := oC (fX5_keepApart nS nT a1 a2 sc) (fun E1 s1 => (if E1 = "java/lang/IndexOutOfBoundsException" then some (1, s1, sl) else (if E1 = "java/lang/IllegalArgumentException" then some (2, s1, sl) else (if E1 = "java/lang/UnsupportedOperationException" then some (3, s1, sl) else (if E1 = "java/lang/IllegalStateException" then some (4, s1, sl) else none))))) (fun v s1 => some (0, s1, (v.toInt64, sl.2)))
set_option maxHeartbeats 4000000 in
set_option maxRecDepth 100000 in
theorem kL_keepApart (l : Launch) (hl0 : l.stackTraces = false) (G : xG) (sh : xSh) (sc : xSC) (sr : xSR) (sl : xSL) (a1 : Int32) (a2 : Int32) (r : Int32 × xSC × xSL) (hf : fL_keepApart sh.2.1 sh.2.2 a1 a2 sc sl = some r) : xMet l yL_keepApart zL_keepApart rL_keepApart G sh sc sr sl ([.ref (sh.1 0 0), .int a1, .int a2, .ref (sh.1 14 0)] : List Value) (.inr (some (.int r.1))) (xWd G sh r.2.1 sr r.2.2) := by
  refine xMet_ofH (cc := cL_keepApart) (maxL := 5) (ret := (some .int)) (hh := [(0, 10, 13, 21), (0, 10, 17, 13), (0, 10, 21, 30), (0, 10, 25, 15)]) (by decide) (Nat.le_of_ble_eq_true rfl) ?_
  intro p e s m below meth c F hT hW hr hlocks htab ls hl
  have F : CallFix p m c cL_keepApart 5 s ([.ref (sh.1 0 0), .int a1, .int a2, .ref (sh.1 14 0)] : List Value).toArray xB RL := F
  have hx := F.1
  have hb := F.2.1
  have hS : va_S (xA G) s.heap s.heap [] := va_S.rf
  have hl : lv_has ls 5 [(0, .ref (sh.1 0 0)), (1, .int a1), (2, .int a2), (3, .ref (sh.1 14 0))] := hl
  unfold fL_keepApart at hf
  refine lv_aload_n hx hb dL_keepApart_0 rfl (lv_at hl 3 rfl) ?_
  refine lv_iconst (v := 0) hx hb dL_keepApart_1 (by decide) ?_
  refine lv_aload_n hx hb dL_keepApart_2 rfl (lv_at hl 0 rfl) ?_
  refine lv_iload_n hx hb dL_keepApart_3 rfl (lv_at hl 1 rfl) ?_
  refine lv_iload_n hx hb dL_keepApart_4 rfl (lv_at hl 2 rfl) ?_
  rcases oC_go hf with ⟨v, s1, hc, hf⟩ | ⟨E1, s1, hc, hf⟩
  · refine xcallV (n := 2) F hT hW hS (xm_fix (by decide)) xce_0 rfl (kX5_keepApart l hl0 G sh sc sr sl a1 a2 _ hc) (xgV xw_519 xw_520 xw_521 xw_1 xw_522) rfl xd_X5_keepApart ⟨(Nat.le_of_ble_eq_true rfl), (Nat.le_of_ble_eq_true rfl)⟩ rfl hl.1 rfl (Nat.le_of_ble_eq_true rfl) dL_keepApart_5 ⟨(Nat.le_of_ble_eq_true rfl), (Nat.le_of_ble_eq_true rfl)⟩ (fun v9 H locs hres hW hS => ?_) (fun E9 H locs q9 ce9 hres => by cases hres)
    cases hres
    refine W.eq (g2 := F0 m 8 ls (.int v :: .int 0 :: .ref (sh.1 14 0) :: [])) rfl ?_
    refine lv_i2l hx hb dL_keepApart_8 rfl ?_
    refine xlast F hT hW hS dL_keepApart_9 (fun H locs hW hS => ?_)
    refine lv_goto (tgt := 29) hx hb dL_keepApart_10 (by decide) ?_
    refine lv_iconst (v := 0) hx hb dL_keepApart_29 (by decide) ?_
    cases hf
    exact xret_i (ty := .int) F hr hlocks hS rfl rfl hW (Nat.le_of_ble_eq_true rfl) (Nat.le_of_ble_eq_true rfl) dL_keepApart_30
  · refine xcallV (n := 2) F hT hW hS (xm_fix (by decide)) xce_0 rfl (kX5_keepApart l hl0 G sh sc sr sl a1 a2 _ hc) (xgV xw_519 xw_520 xw_521 xw_1 xw_522) rfl xd_X5_keepApart ⟨(Nat.le_of_ble_eq_true rfl), (Nat.le_of_ble_eq_true rfl)⟩ rfl hl.1 rfl (Nat.le_of_ble_eq_true rfl) dL_keepApart_5 ⟨(Nat.le_of_ble_eq_true rfl), (Nat.le_of_ble_eq_true rfl)⟩ (fun v9 H locs hres => by cases hres) (fun E9 H locs q9 ce9 hres hW hS hcell hv9 hcl => ?_)
    cases hres
    by_cases hE : E1 = "java/lang/IndexOutOfBoundsException"
    · replace hf := if_t hE hf
      subst hE
      refine vx_catch (name := "java/lang/IndexOutOfBoundsException") F.2.2.2.1 [] ⟨0, 10, 13, 21⟩ [⟨0, 10, 17, 13⟩, ⟨0, 10, 21, 30⟩, ⟨0, 10, 25, 15⟩] htab (fun z hz => nomatch hz) (by decide) (by decide) (F.2.2.2.2 _ xw_326) (va_Nw.use rfl (hT.2.2.2.2.1 _ (List.mem_of_getElem? (i := 5) rfl))) hcell hv9 hcl ?_
      refine lv_astore (lv' := [(4, .ref q9), (0, .ref (sh.1 0 0)), (1, .int a1), (2, .int a2), (3, .ref (sh.1 14 0))]) hx hb dL_keepApart_13 hl (by decide) rfl (fun ls hl => ?_)
      refine lv_iconst (v := 1) hx hb dL_keepApart_15 (by decide) ?_
      cases hf
      exact xret_i (ty := .int) F hr hlocks hS rfl rfl hW (Nat.le_of_ble_eq_true rfl) (Nat.le_of_ble_eq_true rfl) dL_keepApart_16
    replace hf := if_f hE hf
    by_cases hE : E1 = "java/lang/IllegalArgumentException"
    · replace hf := if_t hE hf
      subst hE
      refine vx_catch (name := "java/lang/IllegalArgumentException") F.2.2.2.1 [⟨0, 10, 13, 21⟩] ⟨0, 10, 17, 13⟩ [⟨0, 10, 21, 30⟩, ⟨0, 10, 25, 15⟩] htab (fun z hz => by rw [List.mem_singleton.mp hz]; exact Or.inr ⟨by decide, "java/lang/IndexOutOfBoundsException", F.2.2.2.2 _ xw_326, hT.2.2.2.2.2.1 _ (List.mem_of_getElem? (i := 7) rfl)⟩) (by decide) (by decide) (F.2.2.2.2 _ xw_179) (va_Nw.use rfl (hT.2.2.2.2.1 _ (List.mem_of_getElem? (i := 3) rfl))) hcell hv9 hcl ?_
      refine lv_astore (lv' := [(4, .ref q9), (0, .ref (sh.1 0 0)), (1, .int a1), (2, .int a2), (3, .ref (sh.1 14 0))]) hx hb dL_keepApart_17 hl (by decide) rfl (fun ls hl => ?_)
      refine lv_iconst (v := 2) hx hb dL_keepApart_19 (by decide) ?_
      cases hf
      exact xret_i (ty := .int) F hr hlocks hS rfl rfl hW (Nat.le_of_ble_eq_true rfl) (Nat.le_of_ble_eq_true rfl) dL_keepApart_20
    replace hf := if_f hE hf
    by_cases hE : E1 = "java/lang/UnsupportedOperationException"
    · replace hf := if_t hE hf
      subst hE
      refine vx_catch (name := "java/lang/UnsupportedOperationException") F.2.2.2.1 [⟨0, 10, 13, 21⟩, ⟨0, 10, 17, 13⟩] ⟨0, 10, 21, 30⟩ [⟨0, 10, 25, 15⟩] htab (fun z hz => by
    simp only [List.mem_cons, List.not_mem_nil, or_false] at hz
    rcases hz with rfl | rfl
    · exact Or.inr ⟨by decide, "java/lang/IndexOutOfBoundsException", F.2.2.2.2 _ xw_326, hT.2.2.2.2.2.1 _ (List.mem_of_getElem? (i := 23) rfl)⟩
    · exact Or.inr ⟨by decide, "java/lang/IllegalArgumentException", F.2.2.2.2 _ xw_179, hT.2.2.2.2.2.1 _ (List.mem_of_getElem? (i := 21) rfl)⟩) (by decide) (by decide) (F.2.2.2.2 _ xw_397) (va_Nw.use rfl (hT.2.2.2.2.1 _ (List.mem_of_getElem? (i := 6) rfl))) hcell hv9 hcl ?_
      refine lv_astore (lv' := [(4, .ref q9), (0, .ref (sh.1 0 0)), (1, .int a1), (2, .int a2), (3, .ref (sh.1 14 0))]) hx hb dL_keepApart_21 hl (by decide) rfl (fun ls hl => ?_)
      refine lv_iconst (v := 3) hx hb dL_keepApart_23 (by decide) ?_
      cases hf
      exact xret_i (ty := .int) F hr hlocks hS rfl rfl hW (Nat.le_of_ble_eq_true rfl) (Nat.le_of_ble_eq_true rfl) dL_keepApart_24
    replace hf := if_f hE hf
    by_cases hE : E1 = "java/lang/IllegalStateException"
    · replace hf := if_t hE hf
      subst hE
      refine vx_catch (name := "java/lang/IllegalStateException") F.2.2.2.1 [⟨0, 10, 13, 21⟩, ⟨0, 10, 17, 13⟩, ⟨0, 10, 21, 30⟩] ⟨0, 10, 25, 15⟩ [] htab (fun z hz => by
    simp only [List.mem_cons, List.not_mem_nil, or_false] at hz
    rcases hz with rfl | rfl | rfl
    · exact Or.inr ⟨by decide, "java/lang/IndexOutOfBoundsException", F.2.2.2.2 _ xw_326, hT.2.2.2.2.2.1 _ (List.mem_of_getElem? (i := 12) rfl)⟩
    · exact Or.inr ⟨by decide, "java/lang/IllegalArgumentException", F.2.2.2.2 _ xw_179, hT.2.2.2.2.2.1 _ (List.mem_of_getElem? (i := 11) rfl)⟩
    · exact Or.inr ⟨by decide, "java/lang/UnsupportedOperationException", F.2.2.2.2 _ xw_397, hT.2.2.2.2.2.1 _ (List.mem_of_getElem? (i := 13) rfl)⟩) (by decide) (by decide) (F.2.2.2.2 _ xw_180) (va_Nw.use rfl (hT.2.2.2.2.1 _ (List.mem_of_getElem? (i := 4) rfl))) hcell hv9 hcl ?_
      refine lv_astore (lv' := [(4, .ref q9), (0, .ref (sh.1 0 0)), (1, .int a1), (2, .int a2), (3, .ref (sh.1 14 0))]) hx hb dL_keepApart_25 hl (by decide) rfl (fun ls hl => ?_)
      refine lv_iconst (v := 4) hx hb dL_keepApart_27 (by decide) ?_
      cases hf
      exact xret_i (ty := .int) F hr hlocks hS rfl rfl hW (Nat.le_of_ble_eq_true rfl) (Nat.le_of_ble_eq_true rfl) dL_keepApart_28
    replace hf := if_f hE hf
    cases hf
abbrev rL_move : Room := { frames := 9, cells := 4, slots := 24, locals := 161 }
abbrev zL_move : List Cond := Cond.codeWith yL_move cL_move 5 (some .int) [(0, 10, 13, 21), (0, 10, 17, 30), (0, 10, 21, 15)] :: xB
theorem xd_L_move : yL_move.cls = RL ∧ yL_move.cls ≠ "java/lang/invoke/MethodHandle" ∧ yL_move.cls ≠ "java/lang/invoke/VarHandle" ∧ (parseMethodDescriptor yL_move.desc).map (fun d => d.parameters.length) = some 4 := by decide +kernel
def fL_move (nS : Nat) (nT : Nat) (a1 : Int32) (a2 : Int32) (sc : xSC) (sl : xSL) : Option (Int32 × xSC × xSL) := oC (fX5_move nS nT a1 a2 sc) (fun E1 s1 => (if E1 = "java/lang/IndexOutOfBoundsException" then some (1, s1, sl) else (if E1 = "java/lang/UnsupportedOperationException" then some (2, s1, sl) else (if E1 = "java/lang/IllegalStateException" then some (3, s1, sl) else none)))) (fun v s1 => some (0, s1, (v.toInt64, sl.2)))
set_option maxHeartbeats 4000000 in
set_option maxRecDepth 100000 in
theorem kL_move (l : Launch) (hl0 : l.stackTraces = false) (G : xG) (sh : xSh) (sc : xSC) (sr : xSR) (sl : xSL) (a1 : Int32) (a2 : Int32) (r : Int32 × xSC × xSL) (hf : fL_move sh.2.1 sh.2.2 a1 a2 sc sl = some r) : xMet l yL_move zL_move rL_move G sh sc sr sl ([.ref (sh.1 0 0), .int a1, .int a2, .ref (sh.1 14 0)] : List Value) (.inr (some (.int r.1))) (xWd G sh r.2.1 sr r.2.2) := by
  refine xMet_ofH (cc := cL_move) (maxL := 5) (ret := (some .int)) (hh := [(0, 10, 13, 21), (0, 10, 17, 30), (0, 10, 21, 15)]) (by decide) (Nat.le_of_ble_eq_true rfl) ?_
  intro p e s m below meth c F hT hW hr hlocks htab ls hl
  have F : CallFix p m c cL_move 5 s ([.ref (sh.1 0 0), .int a1, .int a2, .ref (sh.1 14 0)] : List Value).toArray xB RL := F
  have hx := F.1
  have hb := F.2.1
  have hS : va_S (xA G) s.heap s.heap [] := va_S.rf
  have hl : lv_has ls 5 [(0, .ref (sh.1 0 0)), (1, .int a1), (2, .int a2), (3, .ref (sh.1 14 0))] := hl
  unfold fL_move at hf
  refine lv_aload_n hx hb dL_move_0 rfl (lv_at hl 3 rfl) ?_
  refine lv_iconst (v := 0) hx hb dL_move_1 (by decide) ?_
  refine lv_aload_n hx hb dL_move_2 rfl (lv_at hl 0 rfl) ?_
  refine lv_iload_n hx hb dL_move_3 rfl (lv_at hl 1 rfl) ?_
  refine lv_iload_n hx hb dL_move_4 rfl (lv_at hl 2 rfl) ?_
  rcases oC_go hf with ⟨v, s1, hc, hf⟩ | ⟨E1, s1, hc, hf⟩
  · refine xcallV (n := 2) F hT hW hS (xm_fix (by decide)) xce_0 rfl (kX5_move l hl0 G sh sc sr sl a1 a2 _ hc) (xgV xw_533 xw_534 xw_535 xw_1 xw_536) rfl xd_X5_move ⟨(Nat.le_of_ble_eq_true rfl), (Nat.le_of_ble_eq_true rfl)⟩ rfl hl.1 rfl (Nat.le_of_ble_eq_true rfl) dL_move_5 ⟨(Nat.le_of_ble_eq_true rfl), (Nat.le_of_ble_eq_true rfl)⟩ (fun v9 H locs hres hW hS => ?_) (fun E9 H locs q9 ce9 hres => by cases hres)
    cases hres
    refine W.eq (g2 := F0 m 8 ls (.int v :: .int 0 :: .ref (sh.1 14 0) :: [])) rfl ?_
    refine lv_i2l hx hb dL_move_8 rfl ?_
    refine xlast F hT hW hS dL_move_9 (fun H locs hW hS => ?_)
    refine lv_goto (tgt := 25) hx hb dL_move_10 (by decide) ?_
    refine lv_iconst (v := 0) hx hb dL_move_25 (by decide) ?_
    cases hf
    exact xret_i (ty := .int) F hr hlocks hS rfl rfl hW (Nat.le_of_ble_eq_true rfl) (Nat.le_of_ble_eq_true rfl) dL_move_26
  · refine xcallV (n := 2) F hT hW hS (xm_fix (by decide)) xce_0 rfl (kX5_move l hl0 G sh sc sr sl a1 a2 _ hc) (xgV xw_533 xw_534 xw_535 xw_1 xw_536) rfl xd_X5_move ⟨(Nat.le_of_ble_eq_true rfl), (Nat.le_of_ble_eq_true rfl)⟩ rfl hl.1 rfl (Nat.le_of_ble_eq_true rfl) dL_move_5 ⟨(Nat.le_of_ble_eq_true rfl), (Nat.le_of_ble_eq_true rfl)⟩ (fun v9 H locs hres => by cases hres) (fun E9 H locs q9 ce9 hres hW hS hcell hv9 hcl => ?_)
    cases hres
    by_cases hE : E1 = "java/lang/IndexOutOfBoundsException"
    · replace hf := if_t hE hf
      subst hE
      refine vx_catch (name := "java/lang/IndexOutOfBoundsException") F.2.2.2.1 [] ⟨0, 10, 13, 21⟩ [⟨0, 10, 17, 30⟩, ⟨0, 10, 21, 15⟩] htab (fun z hz => nomatch hz) (by decide) (by decide) (F.2.2.2.2 _ xw_326) (va_Nw.use rfl (hT.2.2.2.2.1 _ (List.mem_of_getElem? (i := 5) rfl))) hcell hv9 hcl ?_
      refine lv_astore (lv' := [(4, .ref q9), (0, .ref (sh.1 0 0)), (1, .int a1), (2, .int a2), (3, .ref (sh.1 14 0))]) hx hb dL_move_13 hl (by decide) rfl (fun ls hl => ?_)
      refine lv_iconst (v := 1) hx hb dL_move_15 (by decide) ?_
      cases hf
      exact xret_i (ty := .int) F hr hlocks hS rfl rfl hW (Nat.le_of_ble_eq_true rfl) (Nat.le_of_ble_eq_true rfl) dL_move_16
    replace hf := if_f hE hf
    by_cases hE : E1 = "java/lang/UnsupportedOperationException"
    · replace hf := if_t hE hf
      subst hE
      refine vx_catch (name := "java/lang/UnsupportedOperationException") F.2.2.2.1 [⟨0, 10, 13, 21⟩] ⟨0, 10, 17, 30⟩ [⟨0, 10, 21, 15⟩] htab (fun z hz => by rw [List.mem_singleton.mp hz]; exact Or.inr ⟨by decide, "java/lang/IndexOutOfBoundsException", F.2.2.2.2 _ xw_326, hT.2.2.2.2.2.1 _ (List.mem_of_getElem? (i := 23) rfl)⟩) (by decide) (by decide) (F.2.2.2.2 _ xw_397) (va_Nw.use rfl (hT.2.2.2.2.1 _ (List.mem_of_getElem? (i := 6) rfl))) hcell hv9 hcl ?_
      refine lv_astore (lv' := [(4, .ref q9), (0, .ref (sh.1 0 0)), (1, .int a1), (2, .int a2), (3, .ref (sh.1 14 0))]) hx hb dL_move_17 hl (by decide) rfl (fun ls hl => ?_)
      refine lv_iconst (v := 2) hx hb dL_move_19 (by decide) ?_
      cases hf
      exact xret_i (ty := .int) F hr hlocks hS rfl rfl hW (Nat.le_of_ble_eq_true rfl) (Nat.le_of_ble_eq_true rfl) dL_move_20
    replace hf := if_f hE hf
    by_cases hE : E1 = "java/lang/IllegalStateException"
    · replace hf := if_t hE hf
      subst hE
      refine vx_catch (name := "java/lang/IllegalStateException") F.2.2.2.1 [⟨0, 10, 13, 21⟩, ⟨0, 10, 17, 30⟩] ⟨0, 10, 21, 15⟩ [] htab (fun z hz => by
    simp only [List.mem_cons, List.not_mem_nil, or_false] at hz
    rcases hz with rfl | rfl
    · exact Or.inr ⟨by decide, "java/lang/IndexOutOfBoundsException", F.2.2.2.2 _ xw_326, hT.2.2.2.2.2.1 _ (List.mem_of_getElem? (i := 12) rfl)⟩
    · exact Or.inr ⟨by decide, "java/lang/UnsupportedOperationException", F.2.2.2.2 _ xw_397, hT.2.2.2.2.2.1 _ (List.mem_of_getElem? (i := 13) rfl)⟩) (by decide) (by decide) (F.2.2.2.2 _ xw_180) (va_Nw.use rfl (hT.2.2.2.2.1 _ (List.mem_of_getElem? (i := 4) rfl))) hcell hv9 hcl ?_
      refine lv_astore (lv' := [(4, .ref q9), (0, .ref (sh.1 0 0)), (1, .int a1), (2, .int a2), (3, .ref (sh.1 14 0))]) hx hb dL_move_21 hl (by decide) rfl (fun ls hl => ?_)
      refine lv_iconst (v := 3) hx hb dL_move_23 (by decide) ?_
      cases hf
      exact xret_i (ty := .int) F hr hlocks hS rfl rfl hW (Nat.le_of_ble_eq_true rfl) (Nat.le_of_ble_eq_true rfl) dL_move_24
    replace hf := if_f hE hf
    cases hf
abbrev rL_reason : Room := { frames := 8, cells := 2, slots := 12, locals := 137 }
abbrev zL_reason : List Cond := Cond.codeWith yL_reason cL_reason 5 (some .int) [(0, 10, 13, 21)] :: xB
theorem xd_L_reason : yL_reason.cls = RL ∧ yL_reason.cls ≠ "java/lang/invoke/MethodHandle" ∧ yL_reason.cls ≠ "java/lang/invoke/VarHandle" ∧ (parseMethodDescriptor yL_reason.desc).map (fun d => d.parameters.length) = some 4 := by decide +kernel
def fL_reason (nS : Nat) (nT : Nat) (a1 : Int32) (a2 : Int32) (sc : xSC) (sl : xSL) : Option (Int32 × xSC × xSL) := oT (fX5_reason nS nT a1 a2 sc) (fun E1 => (if E1 = "java/lang/IndexOutOfBoundsException" then some (1, sc, sl) else none)) (fun v => some (0, sc, (v.toInt64, sl.2)))
set_option maxHeartbeats 4000000 in
set_option maxRecDepth 100000 in
theorem kL_reason (l : Launch) (hl0 : l.stackTraces = false) (G : xG) (sh : xSh) (sc : xSC) (sr : xSR) (sl : xSL) (a1 : Int32) (a2 : Int32) (r : Int32 × xSC × xSL) (hf : fL_reason sh.2.1 sh.2.2 a1 a2 sc sl = some r) : xMet l yL_reason zL_reason rL_reason G sh sc sr sl ([.ref (sh.1 0 0), .int a1, .int a2, .ref (sh.1 14 0)] : List Value) (.inr (some (.int r.1))) (xWd G sh r.2.1 sr r.2.2) := by
  refine xMet_ofH (cc := cL_reason) (maxL := 5) (ret := (some .int)) (hh := [(0, 10, 13, 21)]) (by decide) (Nat.le_of_ble_eq_true rfl) ?_
  intro p e s m below meth c F hT hW hr hlocks htab ls hl
  have F : CallFix p m c cL_reason 5 s ([.ref (sh.1 0 0), .int a1, .int a2, .ref (sh.1 14 0)] : List Value).toArray xB RL := F
  have hx := F.1
  have hb := F.2.1
  have hS : va_S (xA G) s.heap s.heap [] := va_S.rf
  have hl : lv_has ls 5 [(0, .ref (sh.1 0 0)), (1, .int a1), (2, .int a2), (3, .ref (sh.1 14 0))] := hl
  unfold fL_reason at hf
  refine lv_aload_n hx hb dL_reason_0 rfl (lv_at hl 3 rfl) ?_
  refine lv_iconst (v := 0) hx hb dL_reason_1 (by decide) ?_
  refine lv_aload_n hx hb dL_reason_2 rfl (lv_at hl 0 rfl) ?_
  refine lv_iload_n hx hb dL_reason_3 rfl (lv_at hl 1 rfl) ?_
  refine lv_iload_n hx hb dL_reason_4 rfl (lv_at hl 2 rfl) ?_
  rcases oT_go hf with ⟨v, hc, hf⟩ | ⟨E1, hc, hf⟩
  · refine xcallV (n := 2) F hT hW hS (xm_fix (by decide)) xce_0 rfl (kX5_reason l hl0 G sh sc sr sl a1 a2 _ hc) (xgV xw_556 xw_538 xw_539 xw_1 xw_540) rfl xd_X5_reason ⟨(Nat.le_of_ble_eq_true rfl), (Nat.le_of_ble_eq_true rfl)⟩ rfl hl.1 rfl (Nat.le_of_ble_eq_true rfl) dL_reason_5 ⟨(Nat.le_of_ble_eq_true rfl), (Nat.le_of_ble_eq_true rfl)⟩ (fun v9 H locs hres hW hS => ?_) (fun E9 H locs q9 ce9 hres => by cases hres)
    cases hres
    refine W.eq (g2 := F0 m 8 ls (.int v :: .int 0 :: .ref (sh.1 14 0) :: [])) rfl ?_
    refine lv_i2l hx hb dL_reason_8 rfl ?_
    refine xlast F hT hW hS dL_reason_9 (fun H locs hW hS => ?_)
    refine lv_goto (tgt := 17) hx hb dL_reason_10 (by decide) ?_
    refine lv_iconst (v := 0) hx hb dL_reason_17 (by decide) ?_
    cases hf
    exact xret_i (ty := .int) F hr hlocks hS rfl rfl hW (Nat.le_of_ble_eq_true rfl) (Nat.le_of_ble_eq_true rfl) dL_reason_18
  · refine xcallV (n := 2) F hT hW hS (xm_fix (by decide)) xce_0 rfl (kX5_reason l hl0 G sh sc sr sl a1 a2 _ hc) (xgV xw_556 xw_538 xw_539 xw_1 xw_540) rfl xd_X5_reason ⟨(Nat.le_of_ble_eq_true rfl), (Nat.le_of_ble_eq_true rfl)⟩ rfl hl.1 rfl (Nat.le_of_ble_eq_true rfl) dL_reason_5 ⟨(Nat.le_of_ble_eq_true rfl), (Nat.le_of_ble_eq_true rfl)⟩ (fun v9 H locs hres => by cases hres) (fun E9 H locs q9 ce9 hres hW hS hcell hv9 hcl => ?_)
    cases hres
    by_cases hE : E1 = "java/lang/IndexOutOfBoundsException"
    · replace hf := if_t hE hf
      subst hE
      refine vx_catch (name := "java/lang/IndexOutOfBoundsException") F.2.2.2.1 [] ⟨0, 10, 13, 21⟩ [] htab (fun z hz => nomatch hz) (by decide) (by decide) (F.2.2.2.2 _ xw_326) (va_Nw.use rfl (hT.2.2.2.2.1 _ (List.mem_of_getElem? (i := 5) rfl))) hcell hv9 hcl ?_
      refine lv_astore (lv' := [(4, .ref q9), (0, .ref (sh.1 0 0)), (1, .int a1), (2, .int a2), (3, .ref (sh.1 14 0))]) hx hb dL_reason_13 hl (by decide) rfl (fun ls hl => ?_)
      refine lv_iconst (v := 1) hx hb dL_reason_15 (by decide) ?_
      cases hf
      exact xret_i (ty := .int) F hr hlocks hS rfl rfl hW (Nat.le_of_ble_eq_true rfl) (Nat.le_of_ble_eq_true rfl) dL_reason_16
    replace hf := if_f hE hf
    cases hf
abbrev rL_fail : Room := { frames := 8, cells := 2, slots := 12, locals := 134 }
abbrev zL_fail : List Cond := Cond.codeWith yL_fail cL_fail 4 (some .int) [(0, 9, 12, 21), (0, 9, 15, 15)] :: xB
theorem xd_L_fail : yL_fail.cls = RL ∧ yL_fail.cls ≠ "java/lang/invoke/MethodHandle" ∧ yL_fail.cls ≠ "java/lang/invoke/VarHandle" ∧ (parseMethodDescriptor yL_fail.desc).map (fun d => d.parameters.length) = some 3 := by decide +kernel
def fL_fail (nS : Nat) (nT : Nat) (a1 : Int32) (sc : xSC) (sl : xSL) : Option (Int32 × xSC × xSL) := oC (fX5_fail nS nT a1 sc) (fun E1 s1 => (if E1 = "java/lang/IndexOutOfBoundsException" then some (1, s1, sl) else (if E1 = "java/lang/IllegalStateException" then some (2, s1, sl) else none))) (fun v s1 => some (0, s1, (v.toInt64, sl.2)))
set_option maxHeartbeats 4000000 in
set_option maxRecDepth 100000 in
theorem kL_fail (l : Launch) (hl0 : l.stackTraces = false) (G : xG) (sh : xSh) (sc : xSC) (sr : xSR) (sl : xSL) (a1 : Int32) (r : Int32 × xSC × xSL) (hf : fL_fail sh.2.1 sh.2.2 a1 sc sl = some r) : xMet l yL_fail zL_fail rL_fail G sh sc sr sl ([.ref (sh.1 0 0), .int a1, .ref (sh.1 14 0)] : List Value) (.inr (some (.int r.1))) (xWd G sh r.2.1 sr r.2.2) := by
  refine xMet_ofH (cc := cL_fail) (maxL := 4) (ret := (some .int)) (hh := [(0, 9, 12, 21), (0, 9, 15, 15)]) (by decide) (Nat.le_of_ble_eq_true rfl) ?_
  intro p e s m below meth c F hT hW hr hlocks htab ls hl
  have F : CallFix p m c cL_fail 4 s ([.ref (sh.1 0 0), .int a1, .ref (sh.1 14 0)] : List Value).toArray xB RL := F
  have hx := F.1
  have hb := F.2.1
  have hS : va_S (xA G) s.heap s.heap [] := va_S.rf
  have hl : lv_has ls 4 [(0, .ref (sh.1 0 0)), (1, .int a1), (2, .ref (sh.1 14 0))] := hl
  unfold fL_fail at hf
  refine lv_aload_n hx hb dL_fail_0 rfl (lv_at hl 2 rfl) ?_
  refine lv_iconst (v := 0) hx hb dL_fail_1 (by decide) ?_
  refine lv_aload_n hx hb dL_fail_2 rfl (lv_at hl 0 rfl) ?_
  refine lv_iload_n hx hb dL_fail_3 rfl (lv_at hl 1 rfl) ?_
  rcases oC_go hf with ⟨v, s1, hc, hf⟩ | ⟨E1, s1, hc, hf⟩
  · refine xcallV (n := 1) F hT hW hS (xm_fix (by decide)) xce_0 rfl (kX5_fail l hl0 G sh sc sr sl a1 _ hc) (xgV xw_560 xw_561 xw_562 xw_1 xw_563) rfl xd_X5_fail ⟨(Nat.le_of_ble_eq_true rfl), (Nat.le_of_ble_eq_true rfl)⟩ rfl hl.1 rfl (Nat.le_of_ble_eq_true rfl) dL_fail_4 ⟨(Nat.le_of_ble_eq_true rfl), (Nat.le_of_ble_eq_true rfl)⟩ (fun v9 H locs hres hW hS => ?_) (fun E9 H locs q9 ce9 hres => by cases hres)
    cases hres
    refine W.eq (g2 := F0 m 7 ls (.int v :: .int 0 :: .ref (sh.1 14 0) :: [])) rfl ?_
    refine lv_i2l hx hb dL_fail_7 rfl ?_
    refine xlast F hT hW hS dL_fail_8 (fun H locs hW hS => ?_)
    refine lv_goto (tgt := 18) hx hb dL_fail_9 (by decide) ?_
    refine lv_iconst (v := 0) hx hb dL_fail_18 (by decide) ?_
    cases hf
    exact xret_i (ty := .int) F hr hlocks hS rfl rfl hW (Nat.le_of_ble_eq_true rfl) (Nat.le_of_ble_eq_true rfl) dL_fail_19
  · refine xcallV (n := 1) F hT hW hS (xm_fix (by decide)) xce_0 rfl (kX5_fail l hl0 G sh sc sr sl a1 _ hc) (xgV xw_560 xw_561 xw_562 xw_1 xw_563) rfl xd_X5_fail ⟨(Nat.le_of_ble_eq_true rfl), (Nat.le_of_ble_eq_true rfl)⟩ rfl hl.1 rfl (Nat.le_of_ble_eq_true rfl) dL_fail_4 ⟨(Nat.le_of_ble_eq_true rfl), (Nat.le_of_ble_eq_true rfl)⟩ (fun v9 H locs hres => by cases hres) (fun E9 H locs q9 ce9 hres hW hS hcell hv9 hcl => ?_)
    cases hres
    by_cases hE : E1 = "java/lang/IndexOutOfBoundsException"
    · replace hf := if_t hE hf
      subst hE
      refine vx_catch (name := "java/lang/IndexOutOfBoundsException") F.2.2.2.1 [] ⟨0, 9, 12, 21⟩ [⟨0, 9, 15, 15⟩] htab (fun z hz => nomatch hz) (by decide) (by decide) (F.2.2.2.2 _ xw_326) (va_Nw.use rfl (hT.2.2.2.2.1 _ (List.mem_of_getElem? (i := 5) rfl))) hcell hv9 hcl ?_
      refine lv_astore_n (lv' := [(3, .ref q9), (0, .ref (sh.1 0 0)), (1, .int a1), (2, .ref (sh.1 14 0))]) hx hb dL_fail_12 rfl hl (by decide) rfl (fun ls hl => ?_)
      refine lv_iconst (v := 1) hx hb dL_fail_13 (by decide) ?_
      cases hf
      exact xret_i (ty := .int) F hr hlocks hS rfl rfl hW (Nat.le_of_ble_eq_true rfl) (Nat.le_of_ble_eq_true rfl) dL_fail_14
    replace hf := if_f hE hf
    by_cases hE : E1 = "java/lang/IllegalStateException"
    · replace hf := if_t hE hf
      subst hE
      refine vx_catch (name := "java/lang/IllegalStateException") F.2.2.2.1 [⟨0, 9, 12, 21⟩] ⟨0, 9, 15, 15⟩ [] htab (fun z hz => by rw [List.mem_singleton.mp hz]; exact Or.inr ⟨by decide, "java/lang/IndexOutOfBoundsException", F.2.2.2.2 _ xw_326, hT.2.2.2.2.2.1 _ (List.mem_of_getElem? (i := 12) rfl)⟩) (by decide) (by decide) (F.2.2.2.2 _ xw_180) (va_Nw.use rfl (hT.2.2.2.2.1 _ (List.mem_of_getElem? (i := 4) rfl))) hcell hv9 hcl ?_
      refine lv_astore_n (lv' := [(3, .ref q9), (0, .ref (sh.1 0 0)), (1, .int a1), (2, .ref (sh.1 14 0))]) hx hb dL_fail_15 rfl hl (by decide) rfl (fun ls hl => ?_)
      refine lv_iconst (v := 2) hx hb dL_fail_16 (by decide) ?_
      cases hf
      exact xret_i (ty := .int) F hr hlocks hS rfl rfl hW (Nat.le_of_ble_eq_true rfl) (Nat.le_of_ble_eq_true rfl) dL_fail_17
    replace hf := if_f hE hf
    cases hf
abbrev rL_pass : Room := { frames := 8, cells := 1, slots := 6, locals := 160 }
abbrev zL_pass : List Cond := Cond.codeWith yL_pass cL_pass 4 (some .int) [(0, 9, 12, 13)] :: xB
theorem xd_L_pass : yL_pass.cls = RL ∧ yL_pass.cls ≠ "java/lang/invoke/MethodHandle" ∧ yL_pass.cls ≠ "java/lang/invoke/VarHandle" ∧ (parseMethodDescriptor yL_pass.desc).map (fun d => d.parameters.length) = some 3 := by decide +kernel
def fL_pass (nS : Nat) (nT : Nat) (a1 : Int32) (sc : xSC) (sl : xSL) : Option (Int32 × xSC × xSL) := oC (fX5_pass nS nT a1 sc) (fun E1 s1 => (if E1 = "java/lang/IllegalArgumentException" then some (1, s1, sl) else none)) (fun v s1 => some (0, s1, (v.toInt64, sl.2)))
set_option maxHeartbeats 4000000 in
set_option maxRecDepth 100000 in
theorem kL_pass (l : Launch) (hl0 : l.stackTraces = false) (G : xG) (sh : xSh) (sc : xSC) (sr : xSR) (sl : xSL) (a1 : Int32) (r : Int32 × xSC × xSL) (hf : fL_pass sh.2.1 sh.2.2 a1 sc sl = some r) : xMet l yL_pass zL_pass rL_pass G sh sc sr sl ([.ref (sh.1 0 0), .int a1, .ref (sh.1 14 0)] : List Value) (.inr (some (.int r.1))) (xWd G sh r.2.1 sr r.2.2) := by
  refine xMet_ofH (cc := cL_pass) (maxL := 4) (ret := (some .int)) (hh := [(0, 9, 12, 13)]) (by decide) (Nat.le_of_ble_eq_true rfl) ?_
  intro p e s m below meth c F hT hW hr hlocks htab ls hl
  have F : CallFix p m c cL_pass 4 s ([.ref (sh.1 0 0), .int a1, .ref (sh.1 14 0)] : List Value).toArray xB RL := F
  have hx := F.1
  have hb := F.2.1
  have hS : va_S (xA G) s.heap s.heap [] := va_S.rf
  have hl : lv_has ls 4 [(0, .ref (sh.1 0 0)), (1, .int a1), (2, .ref (sh.1 14 0))] := hl
  unfold fL_pass at hf
  refine lv_aload_n hx hb dL_pass_0 rfl (lv_at hl 2 rfl) ?_
  refine lv_iconst (v := 0) hx hb dL_pass_1 (by decide) ?_
  refine lv_aload_n hx hb dL_pass_2 rfl (lv_at hl 0 rfl) ?_
  refine lv_iload_n hx hb dL_pass_3 rfl (lv_at hl 1 rfl) ?_
  rcases oC_go hf with ⟨v, s1, hc, hf⟩ | ⟨E1, s1, hc, hf⟩
  · refine xcallV (n := 1) F hT hW hS (xm_fix (by decide)) xce_0 rfl (kX5_pass l hl0 G sh sc sr sl a1 _ hc) (xgV xw_594 xw_595 xw_596 xw_1 xw_597) rfl xd_X5_pass ⟨(Nat.le_of_ble_eq_true rfl), (Nat.le_of_ble_eq_true rfl)⟩ rfl hl.1 rfl (Nat.le_of_ble_eq_true rfl) dL_pass_4 ⟨(Nat.le_of_ble_eq_true rfl), (Nat.le_of_ble_eq_true rfl)⟩ (fun v9 H locs hres hW hS => ?_) (fun E9 H locs q9 ce9 hres => by cases hres)
    cases hres
    refine W.eq (g2 := F0 m 7 ls (.int v :: .int 0 :: .ref (sh.1 14 0) :: [])) rfl ?_
    refine lv_i2l hx hb dL_pass_7 rfl ?_
    refine xlast F hT hW hS dL_pass_8 (fun H locs hW hS => ?_)
    refine lv_goto (tgt := 15) hx hb dL_pass_9 (by decide) ?_
    refine lv_iconst (v := 0) hx hb dL_pass_15 (by decide) ?_
    cases hf
    exact xret_i (ty := .int) F hr hlocks hS rfl rfl hW (Nat.le_of_ble_eq_true rfl) (Nat.le_of_ble_eq_true rfl) dL_pass_16
  · refine xcallV (n := 1) F hT hW hS (xm_fix (by decide)) xce_0 rfl (kX5_pass l hl0 G sh sc sr sl a1 _ hc) (xgV xw_594 xw_595 xw_596 xw_1 xw_597) rfl xd_X5_pass ⟨(Nat.le_of_ble_eq_true rfl), (Nat.le_of_ble_eq_true rfl)⟩ rfl hl.1 rfl (Nat.le_of_ble_eq_true rfl) dL_pass_4 ⟨(Nat.le_of_ble_eq_true rfl), (Nat.le_of_ble_eq_true rfl)⟩ (fun v9 H locs hres => by cases hres) (fun E9 H locs q9 ce9 hres hW hS hcell hv9 hcl => ?_)
    cases hres
    by_cases hE : E1 = "java/lang/IllegalArgumentException"
    · replace hf := if_t hE hf
      subst hE
      refine vx_catch (name := "java/lang/IllegalArgumentException") F.2.2.2.1 [] ⟨0, 9, 12, 13⟩ [] htab (fun z hz => nomatch hz) (by decide) (by decide) (F.2.2.2.2 _ xw_179) (va_Nw.use rfl (hT.2.2.2.2.1 _ (List.mem_of_getElem? (i := 3) rfl))) hcell hv9 hcl ?_
      refine lv_astore_n (lv' := [(3, .ref q9), (0, .ref (sh.1 0 0)), (1, .int a1), (2, .ref (sh.1 14 0))]) hx hb dL_pass_12 rfl hl (by decide) rfl (fun ls hl => ?_)
      refine lv_iconst (v := 1) hx hb dL_pass_13 (by decide) ?_
      cases hf
      exact xret_i (ty := .int) F hr hlocks hS rfl rfl hW (Nat.le_of_ble_eq_true rfl) (Nat.le_of_ble_eq_true rfl) dL_pass_14
    replace hf := if_f hE hf
    cases hf
abbrev rL_phase : Room := { frames := 8, cells := 1, slots := 6, locals := 133 }
abbrev zL_phase : List Cond := Cond.codeWith yL_phase cL_phase 4 (some .int) [(0, 9, 12, 21)] :: xB
theorem xd_L_phase : yL_phase.cls = RL ∧ yL_phase.cls ≠ "java/lang/invoke/MethodHandle" ∧ yL_phase.cls ≠ "java/lang/invoke/VarHandle" ∧ (parseMethodDescriptor yL_phase.desc).map (fun d => d.parameters.length) = some 3 := by decide +kernel
def fL_phase (nS : Nat) (nT : Nat) (a1 : Int32) (sc : xSC) (sl : xSL) : Option (Int32 × xSC × xSL) := oT (fX5_phase nS nT a1 sc) (fun E1 => (if E1 = "java/lang/IndexOutOfBoundsException" then some (1, sc, sl) else none)) (fun v => some (0, sc, (v.toInt64, sl.2)))
set_option maxHeartbeats 4000000 in
set_option maxRecDepth 100000 in
theorem kL_phase (l : Launch) (hl0 : l.stackTraces = false) (G : xG) (sh : xSh) (sc : xSC) (sr : xSR) (sl : xSL) (a1 : Int32) (r : Int32 × xSC × xSL) (hf : fL_phase sh.2.1 sh.2.2 a1 sc sl = some r) : xMet l yL_phase zL_phase rL_phase G sh sc sr sl ([.ref (sh.1 0 0), .int a1, .ref (sh.1 14 0)] : List Value) (.inr (some (.int r.1))) (xWd G sh r.2.1 sr r.2.2) := by
  refine xMet_ofH (cc := cL_phase) (maxL := 4) (ret := (some .int)) (hh := [(0, 9, 12, 21)]) (by decide) (Nat.le_of_ble_eq_true rfl) ?_
  intro p e s m below meth c F hT hW hr hlocks htab ls hl
  have F : CallFix p m c cL_phase 4 s ([.ref (sh.1 0 0), .int a1, .ref (sh.1 14 0)] : List Value).toArray xB RL := F
  have hx := F.1
  have hb := F.2.1
  have hS : va_S (xA G) s.heap s.heap [] := va_S.rf
  have hl : lv_has ls 4 [(0, .ref (sh.1 0 0)), (1, .int a1), (2, .ref (sh.1 14 0))] := hl
  unfold fL_phase at hf
  refine lv_aload_n hx hb dL_phase_0 rfl (lv_at hl 2 rfl) ?_
  refine lv_iconst (v := 0) hx hb dL_phase_1 (by decide) ?_
  refine lv_aload_n hx hb dL_phase_2 rfl (lv_at hl 0 rfl) ?_
  refine lv_iload_n hx hb dL_phase_3 rfl (lv_at hl 1 rfl) ?_
  rcases oT_go hf with ⟨v, hc, hf⟩ | ⟨E1, hc, hf⟩
  · refine xcallV (n := 1) F hT hW hS (xm_fix (by decide)) xce_0 rfl (kX5_phase l hl0 G sh sc sr sl a1 _ hc) (xgV xw_635 xw_636 xw_637 xw_1 xw_638) rfl xd_X5_phase ⟨(Nat.le_of_ble_eq_true rfl), (Nat.le_of_ble_eq_true rfl)⟩ rfl hl.1 rfl (Nat.le_of_ble_eq_true rfl) dL_phase_4 ⟨(Nat.le_of_ble_eq_true rfl), (Nat.le_of_ble_eq_true rfl)⟩ (fun v9 H locs hres hW hS => ?_) (fun E9 H locs q9 ce9 hres => by cases hres)
    cases hres
    refine W.eq (g2 := F0 m 7 ls (.int v :: .int 0 :: .ref (sh.1 14 0) :: [])) rfl ?_
    refine lv_i2l hx hb dL_phase_7 rfl ?_
    refine xlast F hT hW hS dL_phase_8 (fun H locs hW hS => ?_)
    refine lv_goto (tgt := 15) hx hb dL_phase_9 (by decide) ?_
    refine lv_iconst (v := 0) hx hb dL_phase_15 (by decide) ?_
    cases hf
    exact xret_i (ty := .int) F hr hlocks hS rfl rfl hW (Nat.le_of_ble_eq_true rfl) (Nat.le_of_ble_eq_true rfl) dL_phase_16
  · refine xcallV (n := 1) F hT hW hS (xm_fix (by decide)) xce_0 rfl (kX5_phase l hl0 G sh sc sr sl a1 _ hc) (xgV xw_635 xw_636 xw_637 xw_1 xw_638) rfl xd_X5_phase ⟨(Nat.le_of_ble_eq_true rfl), (Nat.le_of_ble_eq_true rfl)⟩ rfl hl.1 rfl (Nat.le_of_ble_eq_true rfl) dL_phase_4 ⟨(Nat.le_of_ble_eq_true rfl), (Nat.le_of_ble_eq_true rfl)⟩ (fun v9 H locs hres => by cases hres) (fun E9 H locs q9 ce9 hres hW hS hcell hv9 hcl => ?_)
    cases hres
    by_cases hE : E1 = "java/lang/IndexOutOfBoundsException"
    · replace hf := if_t hE hf
      subst hE
      refine vx_catch (name := "java/lang/IndexOutOfBoundsException") F.2.2.2.1 [] ⟨0, 9, 12, 21⟩ [] htab (fun z hz => nomatch hz) (by decide) (by decide) (F.2.2.2.2 _ xw_326) (va_Nw.use rfl (hT.2.2.2.2.1 _ (List.mem_of_getElem? (i := 5) rfl))) hcell hv9 hcl ?_
      refine lv_astore_n (lv' := [(3, .ref q9), (0, .ref (sh.1 0 0)), (1, .int a1), (2, .ref (sh.1 14 0))]) hx hb dL_phase_12 rfl hl (by decide) rfl (fun ls hl => ?_)
      refine lv_iconst (v := 1) hx hb dL_phase_13 (by decide) ?_
      cases hf
      exact xret_i (ty := .int) F hr hlocks hS rfl rfl hW (Nat.le_of_ble_eq_true rfl) (Nat.le_of_ble_eq_true rfl) dL_phase_14
    replace hf := if_f hE hf
    cases hf
abbrev rL_targetOf : Room := { frames := 9, cells := 2, slots := 12, locals := 155 }
abbrev zL_targetOf : List Cond := Cond.codeWith yL_targetOf cL_targetOf 4 (some .int) [(0, 9, 12, 21), (0, 9, 15, 63)] :: xB
theorem xd_L_targetOf : yL_targetOf.cls = RL ∧ yL_targetOf.cls ≠ "java/lang/invoke/MethodHandle" ∧ yL_targetOf.cls ≠ "java/lang/invoke/VarHandle" ∧ (parseMethodDescriptor yL_targetOf.desc).map (fun d => d.parameters.length) = some 3 := by decide +kernel
def fL_targetOf (nS : Nat) (nT : Nat) (a1 : Int32) (sc : xSC) (sl : xSL) : Option (Int32 × xSC × xSL) := oT (fX5_targetOf nS nT a1 sc) (fun E1 => (if E1 = "java/lang/IndexOutOfBoundsException" then some (1, sc, sl) else (if E1 = "java/util/NoSuchElementException" then some (2, sc, sl) else none))) (fun v => some (0, sc, (v.toInt64, sl.2)))
set_option maxHeartbeats 4000000 in
set_option maxRecDepth 100000 in
theorem kL_targetOf (l : Launch) (hl0 : l.stackTraces = false) (G : xG) (sh : xSh) (sc : xSC) (sr : xSR) (sl : xSL) (a1 : Int32) (r : Int32 × xSC × xSL) (hf : fL_targetOf sh.2.1 sh.2.2 a1 sc sl = some r) : xMet l yL_targetOf zL_targetOf rL_targetOf G sh sc sr sl ([.ref (sh.1 0 0), .int a1, .ref (sh.1 14 0)] : List Value) (.inr (some (.int r.1))) (xWd G sh r.2.1 sr r.2.2) := by
  refine xMet_ofH (cc := cL_targetOf) (maxL := 4) (ret := (some .int)) (hh := [(0, 9, 12, 21), (0, 9, 15, 63)]) (by decide) (Nat.le_of_ble_eq_true rfl) ?_
  intro p e s m below meth c F hT hW hr hlocks htab ls hl
  have F : CallFix p m c cL_targetOf 4 s ([.ref (sh.1 0 0), .int a1, .ref (sh.1 14 0)] : List Value).toArray xB RL := F
  have hx := F.1
  have hb := F.2.1
  have hS : va_S (xA G) s.heap s.heap [] := va_S.rf
  have hl : lv_has ls 4 [(0, .ref (sh.1 0 0)), (1, .int a1), (2, .ref (sh.1 14 0))] := hl
  unfold fL_targetOf at hf
  refine lv_aload_n hx hb dL_targetOf_0 rfl (lv_at hl 2 rfl) ?_
  refine lv_iconst (v := 0) hx hb dL_targetOf_1 (by decide) ?_
  refine lv_aload_n hx hb dL_targetOf_2 rfl (lv_at hl 0 rfl) ?_
  refine lv_iload_n hx hb dL_targetOf_3 rfl (lv_at hl 1 rfl) ?_
  rcases oT_go hf with ⟨v, hc, hf⟩ | ⟨E1, hc, hf⟩
  · refine xcallV (n := 1) F hT hW hS (xm_fix (by decide)) xce_0 rfl (kX5_targetOf l hl0 G sh sc sr sl a1 _ hc) (xgV xw_643 xw_644 xw_645 xw_1 xw_646) rfl xd_X5_targetOf ⟨(Nat.le_of_ble_eq_true rfl), (Nat.le_of_ble_eq_true rfl)⟩ rfl hl.1 rfl (Nat.le_of_ble_eq_true rfl) dL_targetOf_4 ⟨(Nat.le_of_ble_eq_true rfl), (Nat.le_of_ble_eq_true rfl)⟩ (fun v9 H locs hres hW hS => ?_) (fun E9 H locs q9 ce9 hres => by cases hres)
    cases hres
    refine W.eq (g2 := F0 m 7 ls (.int v :: .int 0 :: .ref (sh.1 14 0) :: [])) rfl ?_
    refine lv_i2l hx hb dL_targetOf_7 rfl ?_
    refine xlast F hT hW hS dL_targetOf_8 (fun H locs hW hS => ?_)
    refine lv_goto (tgt := 18) hx hb dL_targetOf_9 (by decide) ?_
    refine lv_iconst (v := 0) hx hb dL_targetOf_18 (by decide) ?_
    cases hf
    exact xret_i (ty := .int) F hr hlocks hS rfl rfl hW (Nat.le_of_ble_eq_true rfl) (Nat.le_of_ble_eq_true rfl) dL_targetOf_19
  · refine xcallV (n := 1) F hT hW hS (xm_fix (by decide)) xce_0 rfl (kX5_targetOf l hl0 G sh sc sr sl a1 _ hc) (xgV xw_643 xw_644 xw_645 xw_1 xw_646) rfl xd_X5_targetOf ⟨(Nat.le_of_ble_eq_true rfl), (Nat.le_of_ble_eq_true rfl)⟩ rfl hl.1 rfl (Nat.le_of_ble_eq_true rfl) dL_targetOf_4 ⟨(Nat.le_of_ble_eq_true rfl), (Nat.le_of_ble_eq_true rfl)⟩ (fun v9 H locs hres => by cases hres) (fun E9 H locs q9 ce9 hres hW hS hcell hv9 hcl => ?_)
    cases hres
    by_cases hE : E1 = "java/lang/IndexOutOfBoundsException"
    · replace hf := if_t hE hf
      subst hE
      refine vx_catch (name := "java/lang/IndexOutOfBoundsException") F.2.2.2.1 [] ⟨0, 9, 12, 21⟩ [⟨0, 9, 15, 63⟩] htab (fun z hz => nomatch hz) (by decide) (by decide) (F.2.2.2.2 _ xw_326) (va_Nw.use rfl (hT.2.2.2.2.1 _ (List.mem_of_getElem? (i := 5) rfl))) hcell hv9 hcl ?_
      refine lv_astore_n (lv' := [(3, .ref q9), (0, .ref (sh.1 0 0)), (1, .int a1), (2, .ref (sh.1 14 0))]) hx hb dL_targetOf_12 rfl hl (by decide) rfl (fun ls hl => ?_)
      refine lv_iconst (v := 1) hx hb dL_targetOf_13 (by decide) ?_
      cases hf
      exact xret_i (ty := .int) F hr hlocks hS rfl rfl hW (Nat.le_of_ble_eq_true rfl) (Nat.le_of_ble_eq_true rfl) dL_targetOf_14
    replace hf := if_f hE hf
    by_cases hE : E1 = "java/util/NoSuchElementException"
    · replace hf := if_t hE hf
      subst hE
      refine vx_catch (name := "java/util/NoSuchElementException") F.2.2.2.1 [⟨0, 9, 12, 21⟩] ⟨0, 9, 15, 63⟩ [] htab (fun z hz => by rw [List.mem_singleton.mp hz]; exact Or.inr ⟨by decide, "java/lang/IndexOutOfBoundsException", F.2.2.2.2 _ xw_326, hT.2.2.2.2.2.1 _ (List.mem_of_getElem? (i := 28) rfl)⟩) (by decide) (by decide) (F.2.2.2.2 _ xw_642) (va_Nw.use rfl (hT.2.2.2.2.1 _ (List.mem_of_getElem? (i := 7) rfl))) hcell hv9 hcl ?_
      refine lv_astore_n (lv' := [(3, .ref q9), (0, .ref (sh.1 0 0)), (1, .int a1), (2, .ref (sh.1 14 0))]) hx hb dL_targetOf_15 rfl hl (by decide) rfl (fun ls hl => ?_)
      refine lv_iconst (v := 2) hx hb dL_targetOf_16 (by decide) ?_
      cases hf
      exact xret_i (ty := .int) F hr hlocks hS rfl rfl hW (Nat.le_of_ble_eq_true rfl) (Nat.le_of_ble_eq_true rfl) dL_targetOf_17
    replace hf := if_f hE hf
    cases hf
abbrev rL_hoursLeft : Room := { frames := 9, cells := 2, slots := 12, locals := 158 }
abbrev zL_hoursLeft : List Cond := Cond.codeWith yL_hoursLeft cL_hoursLeft 4 (some .int) [(0, 9, 12, 21), (0, 9, 15, 63)] :: xB
theorem xd_L_hoursLeft : yL_hoursLeft.cls = RL ∧ yL_hoursLeft.cls ≠ "java/lang/invoke/MethodHandle" ∧ yL_hoursLeft.cls ≠ "java/lang/invoke/VarHandle" ∧ (parseMethodDescriptor yL_hoursLeft.desc).map (fun d => d.parameters.length) = some 3 := by decide +kernel
def fL_hoursLeft (nS : Nat) (nT : Nat) (a1 : Int32) (sc : xSC) (sl : xSL) : Option (Int32 × xSC × xSL) := oT (fX5_hoursLeft nS nT a1 sc) (fun E1 => (if E1 = "java/lang/IndexOutOfBoundsException" then some (1, sc, sl) else (if E1 = "java/util/NoSuchElementException" then some (2, sc, sl) else none))) (fun v => some (0, sc, (v.toInt64, sl.2)))
set_option maxHeartbeats 4000000 in
set_option maxRecDepth 100000 in
theorem kL_hoursLeft (l : Launch) (hl0 : l.stackTraces = false) (G : xG) (sh : xSh) (sc : xSC) (sr : xSR) (sl : xSL) (a1 : Int32) (r : Int32 × xSC × xSL) (hf : fL_hoursLeft sh.2.1 sh.2.2 a1 sc sl = some r) : xMet l yL_hoursLeft zL_hoursLeft rL_hoursLeft G sh sc sr sl ([.ref (sh.1 0 0), .int a1, .ref (sh.1 14 0)] : List Value) (.inr (some (.int r.1))) (xWd G sh r.2.1 sr r.2.2) := by
  refine xMet_ofH (cc := cL_hoursLeft) (maxL := 4) (ret := (some .int)) (hh := [(0, 9, 12, 21), (0, 9, 15, 63)]) (by decide) (Nat.le_of_ble_eq_true rfl) ?_
  intro p e s m below meth c F hT hW hr hlocks htab ls hl
  have F : CallFix p m c cL_hoursLeft 4 s ([.ref (sh.1 0 0), .int a1, .ref (sh.1 14 0)] : List Value).toArray xB RL := F
  have hx := F.1
  have hb := F.2.1
  have hS : va_S (xA G) s.heap s.heap [] := va_S.rf
  have hl : lv_has ls 4 [(0, .ref (sh.1 0 0)), (1, .int a1), (2, .ref (sh.1 14 0))] := hl
  unfold fL_hoursLeft at hf
  refine lv_aload_n hx hb dL_hoursLeft_0 rfl (lv_at hl 2 rfl) ?_
  refine lv_iconst (v := 0) hx hb dL_hoursLeft_1 (by decide) ?_
  refine lv_aload_n hx hb dL_hoursLeft_2 rfl (lv_at hl 0 rfl) ?_
  refine lv_iload_n hx hb dL_hoursLeft_3 rfl (lv_at hl 1 rfl) ?_
  rcases oT_go hf with ⟨v, hc, hf⟩ | ⟨E1, hc, hf⟩
  · refine xcallV (n := 1) F hT hW hS (xm_fix (by decide)) xce_0 rfl (kX5_hoursLeft l hl0 G sh sc sr sl a1 _ hc) (xgV xw_669 xw_670 xw_671 xw_1 xw_672) rfl xd_X5_hoursLeft ⟨(Nat.le_of_ble_eq_true rfl), (Nat.le_of_ble_eq_true rfl)⟩ rfl hl.1 rfl (Nat.le_of_ble_eq_true rfl) dL_hoursLeft_4 ⟨(Nat.le_of_ble_eq_true rfl), (Nat.le_of_ble_eq_true rfl)⟩ (fun v9 H locs hres hW hS => ?_) (fun E9 H locs q9 ce9 hres => by cases hres)
    cases hres
    refine W.eq (g2 := F0 m 7 ls (.int v :: .int 0 :: .ref (sh.1 14 0) :: [])) rfl ?_
    refine lv_i2l hx hb dL_hoursLeft_7 rfl ?_
    refine xlast F hT hW hS dL_hoursLeft_8 (fun H locs hW hS => ?_)
    refine lv_goto (tgt := 18) hx hb dL_hoursLeft_9 (by decide) ?_
    refine lv_iconst (v := 0) hx hb dL_hoursLeft_18 (by decide) ?_
    cases hf
    exact xret_i (ty := .int) F hr hlocks hS rfl rfl hW (Nat.le_of_ble_eq_true rfl) (Nat.le_of_ble_eq_true rfl) dL_hoursLeft_19
  · refine xcallV (n := 1) F hT hW hS (xm_fix (by decide)) xce_0 rfl (kX5_hoursLeft l hl0 G sh sc sr sl a1 _ hc) (xgV xw_669 xw_670 xw_671 xw_1 xw_672) rfl xd_X5_hoursLeft ⟨(Nat.le_of_ble_eq_true rfl), (Nat.le_of_ble_eq_true rfl)⟩ rfl hl.1 rfl (Nat.le_of_ble_eq_true rfl) dL_hoursLeft_4 ⟨(Nat.le_of_ble_eq_true rfl), (Nat.le_of_ble_eq_true rfl)⟩ (fun v9 H locs hres => by cases hres) (fun E9 H locs q9 ce9 hres hW hS hcell hv9 hcl => ?_)
    cases hres
    by_cases hE : E1 = "java/lang/IndexOutOfBoundsException"
    · replace hf := if_t hE hf
      subst hE
      refine vx_catch (name := "java/lang/IndexOutOfBoundsException") F.2.2.2.1 [] ⟨0, 9, 12, 21⟩ [⟨0, 9, 15, 63⟩] htab (fun z hz => nomatch hz) (by decide) (by decide) (F.2.2.2.2 _ xw_326) (va_Nw.use rfl (hT.2.2.2.2.1 _ (List.mem_of_getElem? (i := 5) rfl))) hcell hv9 hcl ?_
      refine lv_astore_n (lv' := [(3, .ref q9), (0, .ref (sh.1 0 0)), (1, .int a1), (2, .ref (sh.1 14 0))]) hx hb dL_hoursLeft_12 rfl hl (by decide) rfl (fun ls hl => ?_)
      refine lv_iconst (v := 1) hx hb dL_hoursLeft_13 (by decide) ?_
      cases hf
      exact xret_i (ty := .int) F hr hlocks hS rfl rfl hW (Nat.le_of_ble_eq_true rfl) (Nat.le_of_ble_eq_true rfl) dL_hoursLeft_14
    replace hf := if_f hE hf
    by_cases hE : E1 = "java/util/NoSuchElementException"
    · replace hf := if_t hE hf
      subst hE
      refine vx_catch (name := "java/util/NoSuchElementException") F.2.2.2.1 [⟨0, 9, 12, 21⟩] ⟨0, 9, 15, 63⟩ [] htab (fun z hz => by rw [List.mem_singleton.mp hz]; exact Or.inr ⟨by decide, "java/lang/IndexOutOfBoundsException", F.2.2.2.2 _ xw_326, hT.2.2.2.2.2.1 _ (List.mem_of_getElem? (i := 28) rfl)⟩) (by decide) (by decide) (F.2.2.2.2 _ xw_642) (va_Nw.use rfl (hT.2.2.2.2.1 _ (List.mem_of_getElem? (i := 7) rfl))) hcell hv9 hcl ?_
      refine lv_astore_n (lv' := [(3, .ref q9), (0, .ref (sh.1 0 0)), (1, .int a1), (2, .ref (sh.1 14 0))]) hx hb dL_hoursLeft_15 rfl hl (by decide) rfl (fun ls hl => ?_)
      refine lv_iconst (v := 2) hx hb dL_hoursLeft_16 (by decide) ?_
      cases hf
      exact xret_i (ty := .int) F hr hlocks hS rfl rfl hW (Nat.le_of_ble_eq_true rfl) (Nat.le_of_ble_eq_true rfl) dL_hoursLeft_17
    replace hf := if_f hE hf
    cases hf
abbrev rL_hoursByPassing : Room := { frames := 9, cells := 2, slots := 12, locals := 157 }
abbrev zL_hoursByPassing : List Cond := Cond.codeWith yL_hoursByPassing cL_hoursByPassing 4 (some .int) [(0, 9, 12, 21), (0, 9, 15, 63)] :: xB
theorem xd_L_hoursByPassing : yL_hoursByPassing.cls = RL ∧ yL_hoursByPassing.cls ≠ "java/lang/invoke/MethodHandle" ∧ yL_hoursByPassing.cls ≠ "java/lang/invoke/VarHandle" ∧ (parseMethodDescriptor yL_hoursByPassing.desc).map (fun d => d.parameters.length) = some 3 := by decide +kernel
def fL_hoursByPassing (nS : Nat) (nT : Nat) (a1 : Int32) (sc : xSC) (sl : xSL) : Option (Int32 × xSC × xSL) := oC (fX5_hoursByPassing nS nT a1 sc) (fun E1 s1 => (if E1 = "java/lang/IndexOutOfBoundsException" then some (1, s1, sl) else (if E1 = "java/util/NoSuchElementException" then some (2, s1, sl) else none))) (fun v s1 => some (0, s1, (v.toInt64, sl.2)))
set_option maxHeartbeats 4000000 in
set_option maxRecDepth 100000 in
theorem kL_hoursByPassing (l : Launch) (hl0 : l.stackTraces = false) (G : xG) (sh : xSh) (sc : xSC) (sr : xSR) (sl : xSL) (a1 : Int32) (r : Int32 × xSC × xSL) (hf : fL_hoursByPassing sh.2.1 sh.2.2 a1 sc sl = some r) : xMet l yL_hoursByPassing zL_hoursByPassing rL_hoursByPassing G sh sc sr sl ([.ref (sh.1 0 0), .int a1, .ref (sh.1 14 0)] : List Value) (.inr (some (.int r.1))) (xWd G sh r.2.1 sr r.2.2) := by
  refine xMet_ofH (cc := cL_hoursByPassing) (maxL := 4) (ret := (some .int)) (hh := [(0, 9, 12, 21), (0, 9, 15, 63)]) (by decide) (Nat.le_of_ble_eq_true rfl) ?_
  intro p e s m below meth c F hT hW hr hlocks htab ls hl
  have F : CallFix p m c cL_hoursByPassing 4 s ([.ref (sh.1 0 0), .int a1, .ref (sh.1 14 0)] : List Value).toArray xB RL := F
  have hx := F.1
  have hb := F.2.1
  have hS : va_S (xA G) s.heap s.heap [] := va_S.rf
  have hl : lv_has ls 4 [(0, .ref (sh.1 0 0)), (1, .int a1), (2, .ref (sh.1 14 0))] := hl
  unfold fL_hoursByPassing at hf
  refine lv_aload_n hx hb dL_hoursByPassing_0 rfl (lv_at hl 2 rfl) ?_
  refine lv_iconst (v := 0) hx hb dL_hoursByPassing_1 (by decide) ?_
  refine lv_aload_n hx hb dL_hoursByPassing_2 rfl (lv_at hl 0 rfl) ?_
  refine lv_iload_n hx hb dL_hoursByPassing_3 rfl (lv_at hl 1 rfl) ?_
  rcases oC_go hf with ⟨v, s1, hc, hf⟩ | ⟨E1, s1, hc, hf⟩
  · refine xcallV (n := 1) F hT hW hS (xm_fix (by decide)) xce_0 rfl (kX5_hoursByPassing l hl0 G sh sc sr sl a1 _ hc) (xgV xw_681 xw_682 xw_683 xw_1 xw_684) rfl xd_X5_hoursByPassing ⟨(Nat.le_of_ble_eq_true rfl), (Nat.le_of_ble_eq_true rfl)⟩ rfl hl.1 rfl (Nat.le_of_ble_eq_true rfl) dL_hoursByPassing_4 ⟨(Nat.le_of_ble_eq_true rfl), (Nat.le_of_ble_eq_true rfl)⟩ (fun v9 H locs hres hW hS => ?_) (fun E9 H locs q9 ce9 hres => by cases hres)
    cases hres
    refine W.eq (g2 := F0 m 7 ls (.int v :: .int 0 :: .ref (sh.1 14 0) :: [])) rfl ?_
    refine lv_i2l hx hb dL_hoursByPassing_7 rfl ?_
    refine xlast F hT hW hS dL_hoursByPassing_8 (fun H locs hW hS => ?_)
    refine lv_goto (tgt := 18) hx hb dL_hoursByPassing_9 (by decide) ?_
    refine lv_iconst (v := 0) hx hb dL_hoursByPassing_18 (by decide) ?_
    cases hf
    exact xret_i (ty := .int) F hr hlocks hS rfl rfl hW (Nat.le_of_ble_eq_true rfl) (Nat.le_of_ble_eq_true rfl) dL_hoursByPassing_19
  · refine xcallV (n := 1) F hT hW hS (xm_fix (by decide)) xce_0 rfl (kX5_hoursByPassing l hl0 G sh sc sr sl a1 _ hc) (xgV xw_681 xw_682 xw_683 xw_1 xw_684) rfl xd_X5_hoursByPassing ⟨(Nat.le_of_ble_eq_true rfl), (Nat.le_of_ble_eq_true rfl)⟩ rfl hl.1 rfl (Nat.le_of_ble_eq_true rfl) dL_hoursByPassing_4 ⟨(Nat.le_of_ble_eq_true rfl), (Nat.le_of_ble_eq_true rfl)⟩ (fun v9 H locs hres => by cases hres) (fun E9 H locs q9 ce9 hres hW hS hcell hv9 hcl => ?_)
    cases hres
    by_cases hE : E1 = "java/lang/IndexOutOfBoundsException"
    · replace hf := if_t hE hf
      subst hE
      refine vx_catch (name := "java/lang/IndexOutOfBoundsException") F.2.2.2.1 [] ⟨0, 9, 12, 21⟩ [⟨0, 9, 15, 63⟩] htab (fun z hz => nomatch hz) (by decide) (by decide) (F.2.2.2.2 _ xw_326) (va_Nw.use rfl (hT.2.2.2.2.1 _ (List.mem_of_getElem? (i := 5) rfl))) hcell hv9 hcl ?_
      refine lv_astore_n (lv' := [(3, .ref q9), (0, .ref (sh.1 0 0)), (1, .int a1), (2, .ref (sh.1 14 0))]) hx hb dL_hoursByPassing_12 rfl hl (by decide) rfl (fun ls hl => ?_)
      refine lv_iconst (v := 1) hx hb dL_hoursByPassing_13 (by decide) ?_
      cases hf
      exact xret_i (ty := .int) F hr hlocks hS rfl rfl hW (Nat.le_of_ble_eq_true rfl) (Nat.le_of_ble_eq_true rfl) dL_hoursByPassing_14
    replace hf := if_f hE hf
    by_cases hE : E1 = "java/util/NoSuchElementException"
    · replace hf := if_t hE hf
      subst hE
      refine vx_catch (name := "java/util/NoSuchElementException") F.2.2.2.1 [⟨0, 9, 12, 21⟩] ⟨0, 9, 15, 63⟩ [] htab (fun z hz => by rw [List.mem_singleton.mp hz]; exact Or.inr ⟨by decide, "java/lang/IndexOutOfBoundsException", F.2.2.2.2 _ xw_326, hT.2.2.2.2.2.1 _ (List.mem_of_getElem? (i := 28) rfl)⟩) (by decide) (by decide) (F.2.2.2.2 _ xw_642) (va_Nw.use rfl (hT.2.2.2.2.1 _ (List.mem_of_getElem? (i := 7) rfl))) hcell hv9 hcl ?_
      refine lv_astore_n (lv' := [(3, .ref q9), (0, .ref (sh.1 0 0)), (1, .int a1), (2, .ref (sh.1 14 0))]) hx hb dL_hoursByPassing_15 rfl hl (by decide) rfl (fun ls hl => ?_)
      refine lv_iconst (v := 2) hx hb dL_hoursByPassing_16 (by decide) ?_
      cases hf
      exact xret_i (ty := .int) F hr hlocks hS rfl rfl hW (Nat.le_of_ble_eq_true rfl) (Nat.le_of_ble_eq_true rfl) dL_hoursByPassing_17
    replace hf := if_f hE hf
    cases hf
abbrev rL_servedBy : Room := { frames := 8, cells := 1, slots := 6, locals := 133 }
abbrev zL_servedBy : List Cond := Cond.codeWith yL_servedBy cL_servedBy 4 (some .int) [(0, 9, 12, 21)] :: xB
theorem xd_L_servedBy : yL_servedBy.cls = RL ∧ yL_servedBy.cls ≠ "java/lang/invoke/MethodHandle" ∧ yL_servedBy.cls ≠ "java/lang/invoke/VarHandle" ∧ (parseMethodDescriptor yL_servedBy.desc).map (fun d => d.parameters.length) = some 3 := by decide +kernel
def fL_servedBy (nS : Nat) (nT : Nat) (a1 : Int32) (sc : xSC) (sl : xSL) : Option (Int32 × xSC × xSL) := oT (fX5_servedBy nS nT a1 sc) (fun E1 => (if E1 = "java/lang/IndexOutOfBoundsException" then some (1, sc, sl) else none)) (fun v => some (0, sc, (v.toInt64, sl.2)))
set_option maxHeartbeats 4000000 in
set_option maxRecDepth 100000 in
theorem kL_servedBy (l : Launch) (hl0 : l.stackTraces = false) (G : xG) (sh : xSh) (sc : xSC) (sr : xSR) (sl : xSL) (a1 : Int32) (r : Int32 × xSC × xSL) (hf : fL_servedBy sh.2.1 sh.2.2 a1 sc sl = some r) : xMet l yL_servedBy zL_servedBy rL_servedBy G sh sc sr sl ([.ref (sh.1 0 0), .int a1, .ref (sh.1 14 0)] : List Value) (.inr (some (.int r.1))) (xWd G sh r.2.1 sr r.2.2) := by
  refine xMet_ofH (cc := cL_servedBy) (maxL := 4) (ret := (some .int)) (hh := [(0, 9, 12, 21)]) (by decide) (Nat.le_of_ble_eq_true rfl) ?_
  intro p e s m below meth c F hT hW hr hlocks htab ls hl
  have F : CallFix p m c cL_servedBy 4 s ([.ref (sh.1 0 0), .int a1, .ref (sh.1 14 0)] : List Value).toArray xB RL := F
  have hx := F.1
  have hb := F.2.1
  have hS : va_S (xA G) s.heap s.heap [] := va_S.rf
  have hl : lv_has ls 4 [(0, .ref (sh.1 0 0)), (1, .int a1), (2, .ref (sh.1 14 0))] := hl
  unfold fL_servedBy at hf
  refine lv_aload_n hx hb dL_servedBy_0 rfl (lv_at hl 2 rfl) ?_
  refine lv_iconst (v := 0) hx hb dL_servedBy_1 (by decide) ?_
  refine lv_aload_n hx hb dL_servedBy_2 rfl (lv_at hl 0 rfl) ?_
  refine lv_iload_n hx hb dL_servedBy_3 rfl (lv_at hl 1 rfl) ?_
  rcases oT_go hf with ⟨v, hc, hf⟩ | ⟨E1, hc, hf⟩
  · refine xcallV (n := 1) F hT hW hS (xm_fix (by decide)) xce_0 rfl (kX5_servedBy l hl0 G sh sc sr sl a1 _ hc) (xgV xw_692 xw_693 xw_694 xw_1 xw_695) rfl xd_X5_servedBy ⟨(Nat.le_of_ble_eq_true rfl), (Nat.le_of_ble_eq_true rfl)⟩ rfl hl.1 rfl (Nat.le_of_ble_eq_true rfl) dL_servedBy_4 ⟨(Nat.le_of_ble_eq_true rfl), (Nat.le_of_ble_eq_true rfl)⟩ (fun v9 H locs hres hW hS => ?_) (fun E9 H locs q9 ce9 hres => by cases hres)
    cases hres
    refine W.eq (g2 := F0 m 7 ls (.int v :: .int 0 :: .ref (sh.1 14 0) :: [])) rfl ?_
    refine lv_i2l hx hb dL_servedBy_7 rfl ?_
    refine xlast F hT hW hS dL_servedBy_8 (fun H locs hW hS => ?_)
    refine lv_goto (tgt := 15) hx hb dL_servedBy_9 (by decide) ?_
    refine lv_iconst (v := 0) hx hb dL_servedBy_15 (by decide) ?_
    cases hf
    exact xret_i (ty := .int) F hr hlocks hS rfl rfl hW (Nat.le_of_ble_eq_true rfl) (Nat.le_of_ble_eq_true rfl) dL_servedBy_16
  · refine xcallV (n := 1) F hT hW hS (xm_fix (by decide)) xce_0 rfl (kX5_servedBy l hl0 G sh sc sr sl a1 _ hc) (xgV xw_692 xw_693 xw_694 xw_1 xw_695) rfl xd_X5_servedBy ⟨(Nat.le_of_ble_eq_true rfl), (Nat.le_of_ble_eq_true rfl)⟩ rfl hl.1 rfl (Nat.le_of_ble_eq_true rfl) dL_servedBy_4 ⟨(Nat.le_of_ble_eq_true rfl), (Nat.le_of_ble_eq_true rfl)⟩ (fun v9 H locs hres => by cases hres) (fun E9 H locs q9 ce9 hres hW hS hcell hv9 hcl => ?_)
    cases hres
    by_cases hE : E1 = "java/lang/IndexOutOfBoundsException"
    · replace hf := if_t hE hf
      subst hE
      refine vx_catch (name := "java/lang/IndexOutOfBoundsException") F.2.2.2.1 [] ⟨0, 9, 12, 21⟩ [] htab (fun z hz => nomatch hz) (by decide) (by decide) (F.2.2.2.2 _ xw_326) (va_Nw.use rfl (hT.2.2.2.2.1 _ (List.mem_of_getElem? (i := 5) rfl))) hcell hv9 hcl ?_
      refine lv_astore_n (lv' := [(3, .ref q9), (0, .ref (sh.1 0 0)), (1, .int a1), (2, .ref (sh.1 14 0))]) hx hb dL_servedBy_12 rfl hl (by decide) rfl (fun ls hl => ?_)
      refine lv_iconst (v := 1) hx hb dL_servedBy_13 (by decide) ?_
      cases hf
      exact xret_i (ty := .int) F hr hlocks hS rfl rfl hW (Nat.le_of_ble_eq_true rfl) (Nat.le_of_ble_eq_true rfl) dL_servedBy_14
    replace hf := if_f hE hf
    cases hf
abbrev rL_sizeOf : Room := { frames := 8, cells := 2, slots := 12, locals := 135 }
abbrev zL_sizeOf : List Cond := Cond.codeWith yL_sizeOf cL_sizeOf 5 (some .int) [(0, 10, 13, 21)] :: xB
theorem xd_L_sizeOf : yL_sizeOf.cls = RL ∧ yL_sizeOf.cls ≠ "java/lang/invoke/MethodHandle" ∧ yL_sizeOf.cls ≠ "java/lang/invoke/VarHandle" ∧ (parseMethodDescriptor yL_sizeOf.desc).map (fun d => d.parameters.length) = some 4 := by decide +kernel
def fL_sizeOf (nS : Nat) (nT : Nat) (a1 : Int32) (a2 : Int32) (sc : xSC) (sl : xSL) : Option (Int32 × xSC × xSL) := oT (fX5_sizeOf nS nT a1 a2 sc) (fun E1 => (if E1 = "java/lang/IndexOutOfBoundsException" then some (1, sc, sl) else none)) (fun v => some (0, sc, (v.toInt64, sl.2)))
set_option maxHeartbeats 4000000 in
set_option maxRecDepth 100000 in
theorem kL_sizeOf (l : Launch) (hl0 : l.stackTraces = false) (G : xG) (sh : xSh) (sc : xSC) (sr : xSR) (sl : xSL) (a1 : Int32) (a2 : Int32) (r : Int32 × xSC × xSL) (hf : fL_sizeOf sh.2.1 sh.2.2 a1 a2 sc sl = some r) : xMet l yL_sizeOf zL_sizeOf rL_sizeOf G sh sc sr sl ([.ref (sh.1 0 0), .int a1, .int a2, .ref (sh.1 14 0)] : List Value) (.inr (some (.int r.1))) (xWd G sh r.2.1 sr r.2.2) := by
  refine xMet_ofH (cc := cL_sizeOf) (maxL := 5) (ret := (some .int)) (hh := [(0, 10, 13, 21)]) (by decide) (Nat.le_of_ble_eq_true rfl) ?_
  intro p e s m below meth c F hT hW hr hlocks htab ls hl
  have F : CallFix p m c cL_sizeOf 5 s ([.ref (sh.1 0 0), .int a1, .int a2, .ref (sh.1 14 0)] : List Value).toArray xB RL := F
  have hx := F.1
  have hb := F.2.1
  have hS : va_S (xA G) s.heap s.heap [] := va_S.rf
  have hl : lv_has ls 5 [(0, .ref (sh.1 0 0)), (1, .int a1), (2, .int a2), (3, .ref (sh.1 14 0))] := hl
  unfold fL_sizeOf at hf
  refine lv_aload_n hx hb dL_sizeOf_0 rfl (lv_at hl 3 rfl) ?_
  refine lv_iconst (v := 0) hx hb dL_sizeOf_1 (by decide) ?_
  refine lv_aload_n hx hb dL_sizeOf_2 rfl (lv_at hl 0 rfl) ?_
  refine lv_iload_n hx hb dL_sizeOf_3 rfl (lv_at hl 1 rfl) ?_
  refine lv_iload_n hx hb dL_sizeOf_4 rfl (lv_at hl 2 rfl) ?_
  rcases oT_go hf with ⟨v, hc, hf⟩ | ⟨E1, hc, hf⟩
  · refine xcallV (n := 2) F hT hW hS (xm_fix (by decide)) xce_0 rfl (kX5_sizeOf l hl0 G sh sc sr sl a1 a2 _ hc) (xgV xw_699 xw_700 xw_701 xw_1 xw_702) rfl xd_X5_sizeOf ⟨(Nat.le_of_ble_eq_true rfl), (Nat.le_of_ble_eq_true rfl)⟩ rfl hl.1 rfl (Nat.le_of_ble_eq_true rfl) dL_sizeOf_5 ⟨(Nat.le_of_ble_eq_true rfl), (Nat.le_of_ble_eq_true rfl)⟩ (fun v9 H locs hres hW hS => ?_) (fun E9 H locs q9 ce9 hres => by cases hres)
    cases hres
    refine W.eq (g2 := F0 m 8 ls (.int v :: .int 0 :: .ref (sh.1 14 0) :: [])) rfl ?_
    refine lv_i2l hx hb dL_sizeOf_8 rfl ?_
    refine xlast F hT hW hS dL_sizeOf_9 (fun H locs hW hS => ?_)
    refine lv_goto (tgt := 17) hx hb dL_sizeOf_10 (by decide) ?_
    refine lv_iconst (v := 0) hx hb dL_sizeOf_17 (by decide) ?_
    cases hf
    exact xret_i (ty := .int) F hr hlocks hS rfl rfl hW (Nat.le_of_ble_eq_true rfl) (Nat.le_of_ble_eq_true rfl) dL_sizeOf_18
  · refine xcallV (n := 2) F hT hW hS (xm_fix (by decide)) xce_0 rfl (kX5_sizeOf l hl0 G sh sc sr sl a1 a2 _ hc) (xgV xw_699 xw_700 xw_701 xw_1 xw_702) rfl xd_X5_sizeOf ⟨(Nat.le_of_ble_eq_true rfl), (Nat.le_of_ble_eq_true rfl)⟩ rfl hl.1 rfl (Nat.le_of_ble_eq_true rfl) dL_sizeOf_5 ⟨(Nat.le_of_ble_eq_true rfl), (Nat.le_of_ble_eq_true rfl)⟩ (fun v9 H locs hres => by cases hres) (fun E9 H locs q9 ce9 hres hW hS hcell hv9 hcl => ?_)
    cases hres
    by_cases hE : E1 = "java/lang/IndexOutOfBoundsException"
    · replace hf := if_t hE hf
      subst hE
      refine vx_catch (name := "java/lang/IndexOutOfBoundsException") F.2.2.2.1 [] ⟨0, 10, 13, 21⟩ [] htab (fun z hz => nomatch hz) (by decide) (by decide) (F.2.2.2.2 _ xw_326) (va_Nw.use rfl (hT.2.2.2.2.1 _ (List.mem_of_getElem? (i := 5) rfl))) hcell hv9 hcl ?_
      refine lv_astore (lv' := [(4, .ref q9), (0, .ref (sh.1 0 0)), (1, .int a1), (2, .int a2), (3, .ref (sh.1 14 0))]) hx hb dL_sizeOf_13 hl (by decide) rfl (fun ls hl => ?_)
      refine lv_iconst (v := 1) hx hb dL_sizeOf_15 (by decide) ?_
      cases hf
      exact xret_i (ty := .int) F hr hlocks hS rfl rfl hW (Nat.le_of_ble_eq_true rfl) (Nat.le_of_ble_eq_true rfl) dL_sizeOf_16
    replace hf := if_f hE hf
    cases hf
abbrev rL_used : Room := { frames := 8, cells := 2, slots := 12, locals := 135 }
abbrev zL_used : List Cond := Cond.codeWith yL_used cL_used 5 (some .int) [(0, 10, 13, 21)] :: xB
theorem xd_L_used : yL_used.cls = RL ∧ yL_used.cls ≠ "java/lang/invoke/MethodHandle" ∧ yL_used.cls ≠ "java/lang/invoke/VarHandle" ∧ (parseMethodDescriptor yL_used.desc).map (fun d => d.parameters.length) = some 4 := by decide +kernel
def fL_used (nS : Nat) (nT : Nat) (a1 : Int32) (a2 : Int32) (sc : xSC) (sl : xSL) : Option (Int32 × xSC × xSL) := oT (fX5_used nS nT a1 a2 sc) (fun E1 => (if E1 = "java/lang/IndexOutOfBoundsException" then some (1, sc, sl) else none)) (fun v => some (0, sc, (v.toInt64, sl.2)))
set_option maxHeartbeats 4000000 in
set_option maxRecDepth 100000 in
theorem kL_used (l : Launch) (hl0 : l.stackTraces = false) (G : xG) (sh : xSh) (sc : xSC) (sr : xSR) (sl : xSL) (a1 : Int32) (a2 : Int32) (r : Int32 × xSC × xSL) (hf : fL_used sh.2.1 sh.2.2 a1 a2 sc sl = some r) : xMet l yL_used zL_used rL_used G sh sc sr sl ([.ref (sh.1 0 0), .int a1, .int a2, .ref (sh.1 14 0)] : List Value) (.inr (some (.int r.1))) (xWd G sh r.2.1 sr r.2.2) := by
  refine xMet_ofH (cc := cL_used) (maxL := 5) (ret := (some .int)) (hh := [(0, 10, 13, 21)]) (by decide) (Nat.le_of_ble_eq_true rfl) ?_
  intro p e s m below meth c F hT hW hr hlocks htab ls hl
  have F : CallFix p m c cL_used 5 s ([.ref (sh.1 0 0), .int a1, .int a2, .ref (sh.1 14 0)] : List Value).toArray xB RL := F
  have hx := F.1
  have hb := F.2.1
  have hS : va_S (xA G) s.heap s.heap [] := va_S.rf
  have hl : lv_has ls 5 [(0, .ref (sh.1 0 0)), (1, .int a1), (2, .int a2), (3, .ref (sh.1 14 0))] := hl
  unfold fL_used at hf
  refine lv_aload_n hx hb dL_used_0 rfl (lv_at hl 3 rfl) ?_
  refine lv_iconst (v := 0) hx hb dL_used_1 (by decide) ?_
  refine lv_aload_n hx hb dL_used_2 rfl (lv_at hl 0 rfl) ?_
  refine lv_iload_n hx hb dL_used_3 rfl (lv_at hl 1 rfl) ?_
  refine lv_iload_n hx hb dL_used_4 rfl (lv_at hl 2 rfl) ?_
  rcases oT_go hf with ⟨v, hc, hf⟩ | ⟨E1, hc, hf⟩
  · refine xcallV (n := 2) F hT hW hS (xm_fix (by decide)) xce_0 rfl (kX5_used l hl0 G sh sc sr sl a1 a2 _ hc) (xgV xw_706 xw_707 xw_708 xw_1 xw_709) rfl xd_X5_used ⟨(Nat.le_of_ble_eq_true rfl), (Nat.le_of_ble_eq_true rfl)⟩ rfl hl.1 rfl (Nat.le_of_ble_eq_true rfl) dL_used_5 ⟨(Nat.le_of_ble_eq_true rfl), (Nat.le_of_ble_eq_true rfl)⟩ (fun v9 H locs hres hW hS => ?_) (fun E9 H locs q9 ce9 hres => by cases hres)
    cases hres
    refine W.eq (g2 := F0 m 8 ls (.int v :: .int 0 :: .ref (sh.1 14 0) :: [])) rfl ?_
    refine lv_i2l hx hb dL_used_8 rfl ?_
    refine xlast F hT hW hS dL_used_9 (fun H locs hW hS => ?_)
    refine lv_goto (tgt := 17) hx hb dL_used_10 (by decide) ?_
    refine lv_iconst (v := 0) hx hb dL_used_17 (by decide) ?_
    cases hf
    exact xret_i (ty := .int) F hr hlocks hS rfl rfl hW (Nat.le_of_ble_eq_true rfl) (Nat.le_of_ble_eq_true rfl) dL_used_18
  · refine xcallV (n := 2) F hT hW hS (xm_fix (by decide)) xce_0 rfl (kX5_used l hl0 G sh sc sr sl a1 a2 _ hc) (xgV xw_706 xw_707 xw_708 xw_1 xw_709) rfl xd_X5_used ⟨(Nat.le_of_ble_eq_true rfl), (Nat.le_of_ble_eq_true rfl)⟩ rfl hl.1 rfl (Nat.le_of_ble_eq_true rfl) dL_used_5 ⟨(Nat.le_of_ble_eq_true rfl), (Nat.le_of_ble_eq_true rfl)⟩ (fun v9 H locs hres => by cases hres) (fun E9 H locs q9 ce9 hres hW hS hcell hv9 hcl => ?_)
    cases hres
    by_cases hE : E1 = "java/lang/IndexOutOfBoundsException"
    · replace hf := if_t hE hf
      subst hE
      refine vx_catch (name := "java/lang/IndexOutOfBoundsException") F.2.2.2.1 [] ⟨0, 10, 13, 21⟩ [] htab (fun z hz => nomatch hz) (by decide) (by decide) (F.2.2.2.2 _ xw_326) (va_Nw.use rfl (hT.2.2.2.2.1 _ (List.mem_of_getElem? (i := 5) rfl))) hcell hv9 hcl ?_
      refine lv_astore (lv' := [(4, .ref q9), (0, .ref (sh.1 0 0)), (1, .int a1), (2, .int a2), (3, .ref (sh.1 14 0))]) hx hb dL_used_13 hl (by decide) rfl (fun ls hl => ?_)
      refine lv_iconst (v := 1) hx hb dL_used_15 (by decide) ?_
      cases hf
      exact xret_i (ty := .int) F hr hlocks hS rfl rfl hW (Nat.le_of_ble_eq_true rfl) (Nat.le_of_ble_eq_true rfl) dL_used_16
    replace hf := if_f hE hf
    cases hf
abbrev rL_usedByLooking : Room := { frames := 8, cells := 2, slots := 12, locals := 139 }
abbrev zL_usedByLooking : List Cond := Cond.codeWith yL_usedByLooking cL_usedByLooking 5 (some .int) [(0, 10, 13, 21)] :: xB
theorem xd_L_usedByLooking : yL_usedByLooking.cls = RL ∧ yL_usedByLooking.cls ≠ "java/lang/invoke/MethodHandle" ∧ yL_usedByLooking.cls ≠ "java/lang/invoke/VarHandle" ∧ (parseMethodDescriptor yL_usedByLooking.desc).map (fun d => d.parameters.length) = some 4 := by decide +kernel
def fL_usedByLooking (nS : Nat) (nT : Nat) (a1 : Int32) (a2 : Int32) (sc : xSC) (sl : xSL) : Option (Int32 × xSC × xSL) := oT (fX5_usedByLooking nS nT a1 a2 sc) (fun E1 => (if E1 = "java/lang/IndexOutOfBoundsException" then some (1, sc, sl) else none)) (fun v => some (0, sc, (v.toInt64, sl.2)))
set_option maxHeartbeats 4000000 in
set_option maxRecDepth 100000 in
theorem kL_usedByLooking (l : Launch) (hl0 : l.stackTraces = false) (G : xG) (sh : xSh) (sc : xSC) (sr : xSR) (sl : xSL) (a1 : Int32) (a2 : Int32) (r : Int32 × xSC × xSL) (hf : fL_usedByLooking sh.2.1 sh.2.2 a1 a2 sc sl = some r) : xMet l yL_usedByLooking zL_usedByLooking rL_usedByLooking G sh sc sr sl ([.ref (sh.1 0 0), .int a1, .int a2, .ref (sh.1 14 0)] : List Value) (.inr (some (.int r.1))) (xWd G sh r.2.1 sr r.2.2) := by
  refine xMet_ofH (cc := cL_usedByLooking) (maxL := 5) (ret := (some .int)) (hh := [(0, 10, 13, 21)]) (by decide) (Nat.le_of_ble_eq_true rfl) ?_
  intro p e s m below meth c F hT hW hr hlocks htab ls hl
  have F : CallFix p m c cL_usedByLooking 5 s ([.ref (sh.1 0 0), .int a1, .int a2, .ref (sh.1 14 0)] : List Value).toArray xB RL := F
  have hx := F.1
  have hb := F.2.1
  have hS : va_S (xA G) s.heap s.heap [] := va_S.rf
  have hl : lv_has ls 5 [(0, .ref (sh.1 0 0)), (1, .int a1), (2, .int a2), (3, .ref (sh.1 14 0))] := hl
  unfold fL_usedByLooking at hf
  refine lv_aload_n hx hb dL_usedByLooking_0 rfl (lv_at hl 3 rfl) ?_
  refine lv_iconst (v := 0) hx hb dL_usedByLooking_1 (by decide) ?_
  refine lv_aload_n hx hb dL_usedByLooking_2 rfl (lv_at hl 0 rfl) ?_
  refine lv_iload_n hx hb dL_usedByLooking_3 rfl (lv_at hl 1 rfl) ?_
  refine lv_iload_n hx hb dL_usedByLooking_4 rfl (lv_at hl 2 rfl) ?_
  rcases oT_go hf with ⟨v, hc, hf⟩ | ⟨E1, hc, hf⟩
  · refine xcallV (n := 2) F hT hW hS (xm_fix (by decide)) xce_0 rfl (kX5_usedByLooking l hl0 G sh sc sr sl a1 a2 _ hc) (xgV xw_713 xw_714 xw_715 xw_1 xw_716) rfl xd_X5_usedByLooking ⟨(Nat.le_of_ble_eq_true rfl), (Nat.le_of_ble_eq_true rfl)⟩ rfl hl.1 rfl (Nat.le_of_ble_eq_true rfl) dL_usedByLooking_5 ⟨(Nat.le_of_ble_eq_true rfl), (Nat.le_of_ble_eq_true rfl)⟩ (fun v9 H locs hres hW hS => ?_) (fun E9 H locs q9 ce9 hres => by cases hres)
    cases hres
    refine W.eq (g2 := F0 m 8 ls (.int v :: .int 0 :: .ref (sh.1 14 0) :: [])) rfl ?_
    refine lv_i2l hx hb dL_usedByLooking_8 rfl ?_
    refine xlast F hT hW hS dL_usedByLooking_9 (fun H locs hW hS => ?_)
    refine lv_goto (tgt := 17) hx hb dL_usedByLooking_10 (by decide) ?_
    refine lv_iconst (v := 0) hx hb dL_usedByLooking_17 (by decide) ?_
    cases hf
    exact xret_i (ty := .int) F hr hlocks hS rfl rfl hW (Nat.le_of_ble_eq_true rfl) (Nat.le_of_ble_eq_true rfl) dL_usedByLooking_18
  · refine xcallV (n := 2) F hT hW hS (xm_fix (by decide)) xce_0 rfl (kX5_usedByLooking l hl0 G sh sc sr sl a1 a2 _ hc) (xgV xw_713 xw_714 xw_715 xw_1 xw_716) rfl xd_X5_usedByLooking ⟨(Nat.le_of_ble_eq_true rfl), (Nat.le_of_ble_eq_true rfl)⟩ rfl hl.1 rfl (Nat.le_of_ble_eq_true rfl) dL_usedByLooking_5 ⟨(Nat.le_of_ble_eq_true rfl), (Nat.le_of_ble_eq_true rfl)⟩ (fun v9 H locs hres => by cases hres) (fun E9 H locs q9 ce9 hres hW hS hcell hv9 hcl => ?_)
    cases hres
    by_cases hE : E1 = "java/lang/IndexOutOfBoundsException"
    · replace hf := if_t hE hf
      subst hE
      refine vx_catch (name := "java/lang/IndexOutOfBoundsException") F.2.2.2.1 [] ⟨0, 10, 13, 21⟩ [] htab (fun z hz => nomatch hz) (by decide) (by decide) (F.2.2.2.2 _ xw_326) (va_Nw.use rfl (hT.2.2.2.2.1 _ (List.mem_of_getElem? (i := 5) rfl))) hcell hv9 hcl ?_
      refine lv_astore (lv' := [(4, .ref q9), (0, .ref (sh.1 0 0)), (1, .int a1), (2, .int a2), (3, .ref (sh.1 14 0))]) hx hb dL_usedByLooking_13 hl (by decide) rfl (fun ls hl => ?_)
      refine lv_iconst (v := 1) hx hb dL_usedByLooking_15 (by decide) ?_
      cases hf
      exact xret_i (ty := .int) F hr hlocks hS rfl rfl hW (Nat.le_of_ble_eq_true rfl) (Nat.le_of_ble_eq_true rfl) dL_usedByLooking_16
    replace hf := if_f hE hf
    cases hf
abbrev rL_isOver : Room := { frames := 8, cells := 1, slots := 6, locals := 133 }
abbrev zL_isOver : List Cond := Cond.codeWith yL_isOver cL_isOver 4 (some .int) [(0, 16, 19, 21)] :: xB
theorem xd_L_isOver : yL_isOver.cls = RL ∧ yL_isOver.cls ≠ "java/lang/invoke/MethodHandle" ∧ yL_isOver.cls ≠ "java/lang/invoke/VarHandle" ∧ (parseMethodDescriptor yL_isOver.desc).map (fun d => d.parameters.length) = some 3 := by decide +kernel
def fL_isOver (nS : Nat) (nT : Nat) (a1 : Int32) (sc : xSC) (sl : xSL) : Option (Int32 × xSC × xSL) := oT (fX5_isOver nS nT a1 sc) (fun E1 => (if E1 = "java/lang/IndexOutOfBoundsException" then some (1, sc, sl) else none)) (fun v => (if v = 0 then some (0, sc, (0, sl.2)) else some (0, sc, (1, sl.2))))
set_option maxHeartbeats 4000000 in
set_option maxRecDepth 100000 in
theorem kL_isOver (l : Launch) (hl0 : l.stackTraces = false) (G : xG) (sh : xSh) (sc : xSC) (sr : xSR) (sl : xSL) (a1 : Int32) (r : Int32 × xSC × xSL) (hf : fL_isOver sh.2.1 sh.2.2 a1 sc sl = some r) : xMet l yL_isOver zL_isOver rL_isOver G sh sc sr sl ([.ref (sh.1 0 0), .int a1, .ref (sh.1 14 0)] : List Value) (.inr (some (.int r.1))) (xWd G sh r.2.1 sr r.2.2) := by
  refine xMet_ofH (cc := cL_isOver) (maxL := 4) (ret := (some .int)) (hh := [(0, 16, 19, 21)]) (by decide) (Nat.le_of_ble_eq_true rfl) ?_
  intro p e s m below meth c F hT hW hr hlocks htab ls hl
  have F : CallFix p m c cL_isOver 4 s ([.ref (sh.1 0 0), .int a1, .ref (sh.1 14 0)] : List Value).toArray xB RL := F
  have hx := F.1
  have hb := F.2.1
  have hS : va_S (xA G) s.heap s.heap [] := va_S.rf
  have hl : lv_has ls 4 [(0, .ref (sh.1 0 0)), (1, .int a1), (2, .ref (sh.1 14 0))] := hl
  unfold fL_isOver at hf
  refine lv_aload_n hx hb dL_isOver_0 rfl (lv_at hl 2 rfl) ?_
  refine lv_iconst (v := 0) hx hb dL_isOver_1 (by decide) ?_
  refine lv_aload_n hx hb dL_isOver_2 rfl (lv_at hl 0 rfl) ?_
  refine lv_iload_n hx hb dL_isOver_3 rfl (lv_at hl 1 rfl) ?_
  rcases oT_go hf with ⟨v, hc, hf⟩ | ⟨E1, hc, hf⟩
  · refine xcallV (n := 1) F hT hW hS (xm_fix (by decide)) xce_0 rfl (kX5_isOver l hl0 G sh sc sr sl a1 _ hc) (xgV xw_720 xw_721 xw_722 xw_1 xw_723) rfl xd_X5_isOver ⟨(Nat.le_of_ble_eq_true rfl), (Nat.le_of_ble_eq_true rfl)⟩ rfl hl.1 rfl (Nat.le_of_ble_eq_true rfl) dL_isOver_4 ⟨(Nat.le_of_ble_eq_true rfl), (Nat.le_of_ble_eq_true rfl)⟩ (fun v9 H locs hres hW hS => ?_) (fun E9 H locs q9 ce9 hres => by cases hres)
    cases hres
    refine W.eq (g2 := F0 m 7 ls (.int v :: .int 0 :: .ref (sh.1 14 0) :: [])) rfl ?_
    refine lv_if_eq (tgt := 14) hx hb dL_isOver_7 (by decide) (fun c1 => ?_) (fun c1 => ?_)
    · replace hf := if_t c1 hf
      refine lv_lconst (v := 0) hx hb dL_isOver_14 (by decide) ?_
      refine xlast F hT hW hS dL_isOver_15 (fun H locs hW hS => ?_)
      refine lv_goto (tgt := 22) hx hb dL_isOver_16 (by decide) ?_
      refine lv_iconst (v := 0) hx hb dL_isOver_22 (by decide) ?_
      cases hf
      exact xret_i (ty := .int) F hr hlocks hS rfl rfl hW (Nat.le_of_ble_eq_true rfl) (Nat.le_of_ble_eq_true rfl) dL_isOver_23
    · replace hf := if_f c1 hf
      refine lv_lconst (v := 1) hx hb dL_isOver_10 (by decide) ?_
      refine lv_goto (tgt := 15) hx hb dL_isOver_11 (by decide) ?_
      refine xlast F hT hW hS dL_isOver_15 (fun H locs hW hS => ?_)
      refine lv_goto (tgt := 22) hx hb dL_isOver_16 (by decide) ?_
      refine lv_iconst (v := 0) hx hb dL_isOver_22 (by decide) ?_
      cases hf
      exact xret_i (ty := .int) F hr hlocks hS rfl rfl hW (Nat.le_of_ble_eq_true rfl) (Nat.le_of_ble_eq_true rfl) dL_isOver_23
  · refine xcallV (n := 1) F hT hW hS (xm_fix (by decide)) xce_0 rfl (kX5_isOver l hl0 G sh sc sr sl a1 _ hc) (xgV xw_720 xw_721 xw_722 xw_1 xw_723) rfl xd_X5_isOver ⟨(Nat.le_of_ble_eq_true rfl), (Nat.le_of_ble_eq_true rfl)⟩ rfl hl.1 rfl (Nat.le_of_ble_eq_true rfl) dL_isOver_4 ⟨(Nat.le_of_ble_eq_true rfl), (Nat.le_of_ble_eq_true rfl)⟩ (fun v9 H locs hres => by cases hres) (fun E9 H locs q9 ce9 hres hW hS hcell hv9 hcl => ?_)
    cases hres
    by_cases hE : E1 = "java/lang/IndexOutOfBoundsException"
    · replace hf := if_t hE hf
      subst hE
      refine vx_catch (name := "java/lang/IndexOutOfBoundsException") F.2.2.2.1 [] ⟨0, 16, 19, 21⟩ [] htab (fun z hz => nomatch hz) (by decide) (by decide) (F.2.2.2.2 _ xw_326) (va_Nw.use rfl (hT.2.2.2.2.1 _ (List.mem_of_getElem? (i := 5) rfl))) hcell hv9 hcl ?_
      refine lv_astore_n (lv' := [(3, .ref q9), (0, .ref (sh.1 0 0)), (1, .int a1), (2, .ref (sh.1 14 0))]) hx hb dL_isOver_19 rfl hl (by decide) rfl (fun ls hl => ?_)
      refine lv_iconst (v := 1) hx hb dL_isOver_20 (by decide) ?_
      cases hf
      exact xret_i (ty := .int) F hr hlocks hS rfl rfl hW (Nat.le_of_ble_eq_true rfl) (Nat.le_of_ble_eq_true rfl) dL_isOver_21
    replace hf := if_f hE hf
    cases hf
abbrev rL_served : Room := { frames := 8, cells := 1, slots := 6, locals := 138 }
abbrev zL_served : List Cond := Cond.codeWith yL_served cL_served 4 (some .int) [(0, 9, 12, 21)] :: xB
theorem xd_L_served : yL_served.cls = RL ∧ yL_served.cls ≠ "java/lang/invoke/MethodHandle" ∧ yL_served.cls ≠ "java/lang/invoke/VarHandle" ∧ (parseMethodDescriptor yL_served.desc).map (fun d => d.parameters.length) = some 3 := by decide +kernel
def fL_served (nS : Nat) (nT : Nat) (a1 : Int32) (sc : xSC) (sl : xSL) : Option (Int32 × xSC × xSL) := oT (fX5_served nS nT a1 sc) (fun E1 => (if E1 = "java/lang/IndexOutOfBoundsException" then some (1, sc, sl) else none)) (fun v => some (0, sc, (v.toInt64, sl.2)))
set_option maxHeartbeats 4000000 in
set_option maxRecDepth 100000 in
theorem kL_served (l : Launch) (hl0 : l.stackTraces = false) (G : xG) (sh : xSh) (sc : xSC) (sr : xSR) (sl : xSL) (a1 : Int32) (r : Int32 × xSC × xSL) (hf : fL_served sh.2.1 sh.2.2 a1 sc sl = some r) : xMet l yL_served zL_served rL_served G sh sc sr sl ([.ref (sh.1 0 0), .int a1, .ref (sh.1 14 0)] : List Value) (.inr (some (.int r.1))) (xWd G sh r.2.1 sr r.2.2) := by
  refine xMet_ofH (cc := cL_served) (maxL := 4) (ret := (some .int)) (hh := [(0, 9, 12, 21)]) (by decide) (Nat.le_of_ble_eq_true rfl) ?_
  intro p e s m below meth c F hT hW hr hlocks htab ls hl
  have F : CallFix p m c cL_served 4 s ([.ref (sh.1 0 0), .int a1, .ref (sh.1 14 0)] : List Value).toArray xB RL := F
  have hx := F.1
  have hb := F.2.1
  have hS : va_S (xA G) s.heap s.heap [] := va_S.rf
  have hl : lv_has ls 4 [(0, .ref (sh.1 0 0)), (1, .int a1), (2, .ref (sh.1 14 0))] := hl
  unfold fL_served at hf
  refine lv_aload_n hx hb dL_served_0 rfl (lv_at hl 2 rfl) ?_
  refine lv_iconst (v := 0) hx hb dL_served_1 (by decide) ?_
  refine lv_aload_n hx hb dL_served_2 rfl (lv_at hl 0 rfl) ?_
  refine lv_iload_n hx hb dL_served_3 rfl (lv_at hl 1 rfl) ?_
  rcases oT_go hf with ⟨v, hc, hf⟩ | ⟨E1, hc, hf⟩
  · refine xcallV (n := 1) F hT hW hS (xm_fix (by decide)) xce_0 rfl (kX5_served l hl0 G sh sc sr sl a1 _ hc) (xgV xw_727 xw_728 xw_729 xw_1 xw_730) rfl xd_X5_served ⟨(Nat.le_of_ble_eq_true rfl), (Nat.le_of_ble_eq_true rfl)⟩ rfl hl.1 rfl (Nat.le_of_ble_eq_true rfl) dL_served_4 ⟨(Nat.le_of_ble_eq_true rfl), (Nat.le_of_ble_eq_true rfl)⟩ (fun v9 H locs hres hW hS => ?_) (fun E9 H locs q9 ce9 hres => by cases hres)
    cases hres
    refine W.eq (g2 := F0 m 7 ls (.int v :: .int 0 :: .ref (sh.1 14 0) :: [])) rfl ?_
    refine lv_i2l hx hb dL_served_7 rfl ?_
    refine xlast F hT hW hS dL_served_8 (fun H locs hW hS => ?_)
    refine lv_goto (tgt := 15) hx hb dL_served_9 (by decide) ?_
    refine lv_iconst (v := 0) hx hb dL_served_15 (by decide) ?_
    cases hf
    exact xret_i (ty := .int) F hr hlocks hS rfl rfl hW (Nat.le_of_ble_eq_true rfl) (Nat.le_of_ble_eq_true rfl) dL_served_16
  · refine xcallV (n := 1) F hT hW hS (xm_fix (by decide)) xce_0 rfl (kX5_served l hl0 G sh sc sr sl a1 _ hc) (xgV xw_727 xw_728 xw_729 xw_1 xw_730) rfl xd_X5_served ⟨(Nat.le_of_ble_eq_true rfl), (Nat.le_of_ble_eq_true rfl)⟩ rfl hl.1 rfl (Nat.le_of_ble_eq_true rfl) dL_served_4 ⟨(Nat.le_of_ble_eq_true rfl), (Nat.le_of_ble_eq_true rfl)⟩ (fun v9 H locs hres => by cases hres) (fun E9 H locs q9 ce9 hres hW hS hcell hv9 hcl => ?_)
    cases hres
    by_cases hE : E1 = "java/lang/IndexOutOfBoundsException"
    · replace hf := if_t hE hf
      subst hE
      refine vx_catch (name := "java/lang/IndexOutOfBoundsException") F.2.2.2.1 [] ⟨0, 9, 12, 21⟩ [] htab (fun z hz => nomatch hz) (by decide) (by decide) (F.2.2.2.2 _ xw_326) (va_Nw.use rfl (hT.2.2.2.2.1 _ (List.mem_of_getElem? (i := 5) rfl))) hcell hv9 hcl ?_
      refine lv_astore_n (lv' := [(3, .ref q9), (0, .ref (sh.1 0 0)), (1, .int a1), (2, .ref (sh.1 14 0))]) hx hb dL_served_12 rfl hl (by decide) rfl (fun ls hl => ?_)
      refine lv_iconst (v := 1) hx hb dL_served_13 (by decide) ?_
      cases hf
      exact xret_i (ty := .int) F hr hlocks hS rfl rfl hW (Nat.le_of_ble_eq_true rfl) (Nat.le_of_ble_eq_true rfl) dL_served_14
    replace hf := if_f hE hf
    cases hf
abbrev rL_fewestMoves : Room := { frames := 13, cells := 1, slots := 6, locals := 330 }
abbrev zL_fewestMoves : List Cond := Cond.codeWith yL_fewestMoves cL_fewestMoves 3 (some .int) [(0, 8, 11, 63)] :: xB
theorem xd_L_fewestMoves : yL_fewestMoves.cls = RL ∧ yL_fewestMoves.cls ≠ "java/lang/invoke/MethodHandle" ∧ yL_fewestMoves.cls ≠ "java/lang/invoke/VarHandle" ∧ (parseMethodDescriptor yL_fewestMoves.desc).map (fun d => d.parameters.length) = some 2 := by decide +kernel
def fL_fewestMoves (nS : Nat) (nT : Nat) (sc : xSC) (sl : xSL) : Option (Int32 × xSC × xSL) := oC (fX5_fewestMoves nS nT sc) (fun E1 s1 => (if E1 = "java/util/NoSuchElementException" then some (1, s1, sl) else none)) (fun v s1 => some (0, s1, (v.toInt64, sl.2)))
set_option maxHeartbeats 4000000 in
set_option maxRecDepth 100000 in
theorem kL_fewestMoves (l : Launch) (hl0 : l.stackTraces = false) (G : xG) (sh : xSh) (sc : xSC) (sr : xSR) (sl : xSL) (r : Int32 × xSC × xSL) (hf : fL_fewestMoves sh.2.1 sh.2.2 sc sl = some r) : xMet l yL_fewestMoves zL_fewestMoves rL_fewestMoves G sh sc sr sl ([.ref (sh.1 0 0), .ref (sh.1 14 0)] : List Value) (.inr (some (.int r.1))) (xWd G sh r.2.1 sr r.2.2) := by
  refine xMet_ofH (cc := cL_fewestMoves) (maxL := 3) (ret := (some .int)) (hh := [(0, 8, 11, 63)]) (by decide) (Nat.le_of_ble_eq_true rfl) ?_
  intro p e s m below meth c F hT hW hr hlocks htab ls hl
  have F : CallFix p m c cL_fewestMoves 3 s ([.ref (sh.1 0 0), .ref (sh.1 14 0)] : List Value).toArray xB RL := F
  have hx := F.1
  have hb := F.2.1
  have hS : va_S (xA G) s.heap s.heap [] := va_S.rf
  have hl : lv_has ls 3 [(0, .ref (sh.1 0 0)), (1, .ref (sh.1 14 0))] := hl
  unfold fL_fewestMoves at hf
  refine lv_aload_n hx hb dL_fewestMoves_0 rfl (lv_at hl 1 rfl) ?_
  refine lv_iconst (v := 0) hx hb dL_fewestMoves_1 (by decide) ?_
  refine lv_aload_n hx hb dL_fewestMoves_2 rfl (lv_at hl 0 rfl) ?_
  rcases oC_go hf with ⟨v, s1, hc, hf⟩ | ⟨E1, s1, hc, hf⟩
  · refine xcallV (n := 0) F hT hW hS (xm_fix (by decide)) xce_0 rfl (kX5_fewestMoves l hl0 G sh sc sr sl  _ hc) (xgV xw_734 xw_735 xw_736 xw_1 xw_737) rfl xd_X5_fewestMoves ⟨(Nat.le_of_ble_eq_true rfl), (Nat.le_of_ble_eq_true rfl)⟩ rfl hl.1 rfl (Nat.le_of_ble_eq_true rfl) dL_fewestMoves_3 ⟨(Nat.le_of_ble_eq_true rfl), (Nat.le_of_ble_eq_true rfl)⟩ (fun v9 H locs hres hW hS => ?_) (fun E9 H locs q9 ce9 hres => by cases hres)
    cases hres
    refine W.eq (g2 := F0 m 6 ls (.int v :: .int 0 :: .ref (sh.1 14 0) :: [])) rfl ?_
    refine lv_i2l hx hb dL_fewestMoves_6 rfl ?_
    refine xlast F hT hW hS dL_fewestMoves_7 (fun H locs hW hS => ?_)
    refine lv_goto (tgt := 14) hx hb dL_fewestMoves_8 (by decide) ?_
    refine lv_iconst (v := 0) hx hb dL_fewestMoves_14 (by decide) ?_
    cases hf
    exact xret_i (ty := .int) F hr hlocks hS rfl rfl hW (Nat.le_of_ble_eq_true rfl) (Nat.le_of_ble_eq_true rfl) dL_fewestMoves_15
  · refine xcallV (n := 0) F hT hW hS (xm_fix (by decide)) xce_0 rfl (kX5_fewestMoves l hl0 G sh sc sr sl  _ hc) (xgV xw_734 xw_735 xw_736 xw_1 xw_737) rfl xd_X5_fewestMoves ⟨(Nat.le_of_ble_eq_true rfl), (Nat.le_of_ble_eq_true rfl)⟩ rfl hl.1 rfl (Nat.le_of_ble_eq_true rfl) dL_fewestMoves_3 ⟨(Nat.le_of_ble_eq_true rfl), (Nat.le_of_ble_eq_true rfl)⟩ (fun v9 H locs hres => by cases hres) (fun E9 H locs q9 ce9 hres hW hS hcell hv9 hcl => ?_)
    cases hres
    by_cases hE : E1 = "java/util/NoSuchElementException"
    · replace hf := if_t hE hf
      subst hE
      refine vx_catch (name := "java/util/NoSuchElementException") F.2.2.2.1 [] ⟨0, 8, 11, 63⟩ [] htab (fun z hz => nomatch hz) (by decide) (by decide) (F.2.2.2.2 _ xw_642) (va_Nw.use rfl (hT.2.2.2.2.1 _ (List.mem_of_getElem? (i := 7) rfl))) hcell hv9 hcl ?_
      refine lv_astore_n (lv' := [(2, .ref q9), (0, .ref (sh.1 0 0)), (1, .ref (sh.1 14 0))]) hx hb dL_fewestMoves_11 rfl hl (by decide) rfl (fun ls hl => ?_)
      refine lv_iconst (v := 1) hx hb dL_fewestMoves_12 (by decide) ?_
      cases hf
      exact xret_i (ty := .int) F hr hlocks hS rfl rfl hW (Nat.le_of_ble_eq_true rfl) (Nat.le_of_ble_eq_true rfl) dL_fewestMoves_13
    replace hf := if_f hE hf
    cases hf
abbrev rL_fewestByTrying : Room := { frames := 13, cells := 1, slots := 6, locals := 339 }
abbrev zL_fewestByTrying : List Cond := Cond.codeWith yL_fewestByTrying cL_fewestByTrying 3 (some .int) [(0, 8, 11, 63)] :: xB
theorem xd_L_fewestByTrying : yL_fewestByTrying.cls = RL ∧ yL_fewestByTrying.cls ≠ "java/lang/invoke/MethodHandle" ∧ yL_fewestByTrying.cls ≠ "java/lang/invoke/VarHandle" ∧ (parseMethodDescriptor yL_fewestByTrying.desc).map (fun d => d.parameters.length) = some 2 := by decide +kernel
def fL_fewestByTrying (nS : Nat) (nT : Nat) (sc : xSC) (sl : xSL) : Option (Int32 × xSC × xSL) := oC (fX5_fewestByTrying nS nT sc) (fun E1 s1 => (if E1 = "java/util/NoSuchElementException" then some (1, s1, sl) else none)) (fun v s1 => some (0, s1, (v.toInt64, sl.2)))
set_option maxHeartbeats 4000000 in
set_option maxRecDepth 100000 in
theorem kL_fewestByTrying (l : Launch) (hl0 : l.stackTraces = false) (G : xG) (sh : xSh) (sc : xSC) (sr : xSR) (sl : xSL) (r : Int32 × xSC × xSL) (hf : fL_fewestByTrying sh.2.1 sh.2.2 sc sl = some r) : xMet l yL_fewestByTrying zL_fewestByTrying rL_fewestByTrying G sh sc sr sl ([.ref (sh.1 0 0), .ref (sh.1 14 0)] : List Value) (.inr (some (.int r.1))) (xWd G sh r.2.1 sr r.2.2) := by
  refine xMet_ofH (cc := cL_fewestByTrying) (maxL := 3) (ret := (some .int)) (hh := [(0, 8, 11, 63)]) (by decide) (Nat.le_of_ble_eq_true rfl) ?_
  intro p e s m below meth c F hT hW hr hlocks htab ls hl
  have F : CallFix p m c cL_fewestByTrying 3 s ([.ref (sh.1 0 0), .ref (sh.1 14 0)] : List Value).toArray xB RL := F
  have hx := F.1
  have hb := F.2.1
  have hS : va_S (xA G) s.heap s.heap [] := va_S.rf
  have hl : lv_has ls 3 [(0, .ref (sh.1 0 0)), (1, .ref (sh.1 14 0))] := hl
  unfold fL_fewestByTrying at hf
  refine lv_aload_n hx hb dL_fewestByTrying_0 rfl (lv_at hl 1 rfl) ?_
  refine lv_iconst (v := 0) hx hb dL_fewestByTrying_1 (by decide) ?_
  refine lv_aload_n hx hb dL_fewestByTrying_2 rfl (lv_at hl 0 rfl) ?_
  rcases oC_go hf with ⟨v, s1, hc, hf⟩ | ⟨E1, s1, hc, hf⟩
  · refine xcallV (n := 0) F hT hW hS (xm_fix (by decide)) xce_0 rfl (kX5_fewestByTrying l hl0 G sh sc sr sl  _ hc) (xgV xw_752 xw_753 xw_754 xw_1 xw_755) rfl xd_X5_fewestByTrying ⟨(Nat.le_of_ble_eq_true rfl), (Nat.le_of_ble_eq_true rfl)⟩ rfl hl.1 rfl (Nat.le_of_ble_eq_true rfl) dL_fewestByTrying_3 ⟨(Nat.le_of_ble_eq_true rfl), (Nat.le_of_ble_eq_true rfl)⟩ (fun v9 H locs hres hW hS => ?_) (fun E9 H locs q9 ce9 hres => by cases hres)
    cases hres
    refine W.eq (g2 := F0 m 6 ls (.int v :: .int 0 :: .ref (sh.1 14 0) :: [])) rfl ?_
    refine lv_i2l hx hb dL_fewestByTrying_6 rfl ?_
    refine xlast F hT hW hS dL_fewestByTrying_7 (fun H locs hW hS => ?_)
    refine lv_goto (tgt := 14) hx hb dL_fewestByTrying_8 (by decide) ?_
    refine lv_iconst (v := 0) hx hb dL_fewestByTrying_14 (by decide) ?_
    cases hf
    exact xret_i (ty := .int) F hr hlocks hS rfl rfl hW (Nat.le_of_ble_eq_true rfl) (Nat.le_of_ble_eq_true rfl) dL_fewestByTrying_15
  · refine xcallV (n := 0) F hT hW hS (xm_fix (by decide)) xce_0 rfl (kX5_fewestByTrying l hl0 G sh sc sr sl  _ hc) (xgV xw_752 xw_753 xw_754 xw_1 xw_755) rfl xd_X5_fewestByTrying ⟨(Nat.le_of_ble_eq_true rfl), (Nat.le_of_ble_eq_true rfl)⟩ rfl hl.1 rfl (Nat.le_of_ble_eq_true rfl) dL_fewestByTrying_3 ⟨(Nat.le_of_ble_eq_true rfl), (Nat.le_of_ble_eq_true rfl)⟩ (fun v9 H locs hres => by cases hres) (fun E9 H locs q9 ce9 hres hW hS hcell hv9 hcl => ?_)
    cases hres
    by_cases hE : E1 = "java/util/NoSuchElementException"
    · replace hf := if_t hE hf
      subst hE
      refine vx_catch (name := "java/util/NoSuchElementException") F.2.2.2.1 [] ⟨0, 8, 11, 63⟩ [] htab (fun z hz => nomatch hz) (by decide) (by decide) (F.2.2.2.2 _ xw_642) (va_Nw.use rfl (hT.2.2.2.2.1 _ (List.mem_of_getElem? (i := 7) rfl))) hcell hv9 hcl ?_
      refine lv_astore_n (lv' := [(2, .ref q9), (0, .ref (sh.1 0 0)), (1, .ref (sh.1 14 0))]) hx hb dL_fewestByTrying_11 rfl hl (by decide) rfl (fun ls hl => ?_)
      refine lv_iconst (v := 1) hx hb dL_fewestByTrying_12 (by decide) ?_
      cases hf
      exact xret_i (ty := .int) F hr hlocks hS rfl rfl hW (Nat.le_of_ble_eq_true rfl) (Nat.le_of_ble_eq_true rfl) dL_fewestByTrying_13
    replace hf := if_f hE hf
    cases hf
abbrev rL_planned : Room := { frames := 13, cells := 2, slots := 12, locals := 331 }
abbrev zL_planned : List Cond := Cond.codeWith yL_planned cL_planned 4 (some .int) [(0, 9, 12, 21), (0, 9, 15, 63)] :: xB
theorem xd_L_planned : yL_planned.cls = RL ∧ yL_planned.cls ≠ "java/lang/invoke/MethodHandle" ∧ yL_planned.cls ≠ "java/lang/invoke/VarHandle" ∧ (parseMethodDescriptor yL_planned.desc).map (fun d => d.parameters.length) = some 3 := by decide +kernel
def fL_planned (nS : Nat) (nT : Nat) (a1 : Int32) (sc : xSC) (sl : xSL) : Option (Int32 × xSC × xSL) := oC (fX5_planned nS nT a1 sc) (fun E1 s1 => (if E1 = "java/lang/IndexOutOfBoundsException" then some (1, s1, sl) else (if E1 = "java/util/NoSuchElementException" then some (2, s1, sl) else none))) (fun v s1 => some (0, s1, (v.toInt64, sl.2)))
set_option maxHeartbeats 4000000 in
set_option maxRecDepth 100000 in
theorem kL_planned (l : Launch) (hl0 : l.stackTraces = false) (G : xG) (sh : xSh) (sc : xSC) (sr : xSR) (sl : xSL) (a1 : Int32) (r : Int32 × xSC × xSL) (hf : fL_planned sh.2.1 sh.2.2 a1 sc sl = some r) : xMet l yL_planned zL_planned rL_planned G sh sc sr sl ([.ref (sh.1 0 0), .int a1, .ref (sh.1 14 0)] : List Value) (.inr (some (.int r.1))) (xWd G sh r.2.1 sr r.2.2) := by
  refine xMet_ofH (cc := cL_planned) (maxL := 4) (ret := (some .int)) (hh := [(0, 9, 12, 21), (0, 9, 15, 63)]) (by decide) (Nat.le_of_ble_eq_true rfl) ?_
  intro p e s m below meth c F hT hW hr hlocks htab ls hl
  have F : CallFix p m c cL_planned 4 s ([.ref (sh.1 0 0), .int a1, .ref (sh.1 14 0)] : List Value).toArray xB RL := F
  have hx := F.1
  have hb := F.2.1
  have hS : va_S (xA G) s.heap s.heap [] := va_S.rf
  have hl : lv_has ls 4 [(0, .ref (sh.1 0 0)), (1, .int a1), (2, .ref (sh.1 14 0))] := hl
  unfold fL_planned at hf
  refine lv_aload_n hx hb dL_planned_0 rfl (lv_at hl 2 rfl) ?_
  refine lv_iconst (v := 0) hx hb dL_planned_1 (by decide) ?_
  refine lv_aload_n hx hb dL_planned_2 rfl (lv_at hl 0 rfl) ?_
  refine lv_iload_n hx hb dL_planned_3 rfl (lv_at hl 1 rfl) ?_
  rcases oC_go hf with ⟨v, s1, hc, hf⟩ | ⟨E1, s1, hc, hf⟩
  · refine xcallV (n := 1) F hT hW hS (xm_fix (by decide)) xce_0 rfl (kX5_planned l hl0 G sh sc sr sl a1 _ hc) (xgV xw_759 xw_760 xw_761 xw_1 xw_762) rfl xd_X5_planned ⟨(Nat.le_of_ble_eq_true rfl), (Nat.le_of_ble_eq_true rfl)⟩ rfl hl.1 rfl (Nat.le_of_ble_eq_true rfl) dL_planned_4 ⟨(Nat.le_of_ble_eq_true rfl), (Nat.le_of_ble_eq_true rfl)⟩ (fun v9 H locs hres hW hS => ?_) (fun E9 H locs q9 ce9 hres => by cases hres)
    cases hres
    refine W.eq (g2 := F0 m 7 ls (.int v :: .int 0 :: .ref (sh.1 14 0) :: [])) rfl ?_
    refine lv_i2l hx hb dL_planned_7 rfl ?_
    refine xlast F hT hW hS dL_planned_8 (fun H locs hW hS => ?_)
    refine lv_goto (tgt := 18) hx hb dL_planned_9 (by decide) ?_
    refine lv_iconst (v := 0) hx hb dL_planned_18 (by decide) ?_
    cases hf
    exact xret_i (ty := .int) F hr hlocks hS rfl rfl hW (Nat.le_of_ble_eq_true rfl) (Nat.le_of_ble_eq_true rfl) dL_planned_19
  · refine xcallV (n := 1) F hT hW hS (xm_fix (by decide)) xce_0 rfl (kX5_planned l hl0 G sh sc sr sl a1 _ hc) (xgV xw_759 xw_760 xw_761 xw_1 xw_762) rfl xd_X5_planned ⟨(Nat.le_of_ble_eq_true rfl), (Nat.le_of_ble_eq_true rfl)⟩ rfl hl.1 rfl (Nat.le_of_ble_eq_true rfl) dL_planned_4 ⟨(Nat.le_of_ble_eq_true rfl), (Nat.le_of_ble_eq_true rfl)⟩ (fun v9 H locs hres => by cases hres) (fun E9 H locs q9 ce9 hres hW hS hcell hv9 hcl => ?_)
    cases hres
    by_cases hE : E1 = "java/lang/IndexOutOfBoundsException"
    · replace hf := if_t hE hf
      subst hE
      refine vx_catch (name := "java/lang/IndexOutOfBoundsException") F.2.2.2.1 [] ⟨0, 9, 12, 21⟩ [⟨0, 9, 15, 63⟩] htab (fun z hz => nomatch hz) (by decide) (by decide) (F.2.2.2.2 _ xw_326) (va_Nw.use rfl (hT.2.2.2.2.1 _ (List.mem_of_getElem? (i := 5) rfl))) hcell hv9 hcl ?_
      refine lv_astore_n (lv' := [(3, .ref q9), (0, .ref (sh.1 0 0)), (1, .int a1), (2, .ref (sh.1 14 0))]) hx hb dL_planned_12 rfl hl (by decide) rfl (fun ls hl => ?_)
      refine lv_iconst (v := 1) hx hb dL_planned_13 (by decide) ?_
      cases hf
      exact xret_i (ty := .int) F hr hlocks hS rfl rfl hW (Nat.le_of_ble_eq_true rfl) (Nat.le_of_ble_eq_true rfl) dL_planned_14
    replace hf := if_f hE hf
    by_cases hE : E1 = "java/util/NoSuchElementException"
    · replace hf := if_t hE hf
      subst hE
      refine vx_catch (name := "java/util/NoSuchElementException") F.2.2.2.1 [⟨0, 9, 12, 21⟩] ⟨0, 9, 15, 63⟩ [] htab (fun z hz => by rw [List.mem_singleton.mp hz]; exact Or.inr ⟨by decide, "java/lang/IndexOutOfBoundsException", F.2.2.2.2 _ xw_326, hT.2.2.2.2.2.1 _ (List.mem_of_getElem? (i := 28) rfl)⟩) (by decide) (by decide) (F.2.2.2.2 _ xw_642) (va_Nw.use rfl (hT.2.2.2.2.1 _ (List.mem_of_getElem? (i := 7) rfl))) hcell hv9 hcl ?_
      refine lv_astore_n (lv' := [(3, .ref q9), (0, .ref (sh.1 0 0)), (1, .int a1), (2, .ref (sh.1 14 0))]) hx hb dL_planned_15 rfl hl (by decide) rfl (fun ls hl => ?_)
      refine lv_iconst (v := 2) hx hb dL_planned_16 (by decide) ?_
      cases hf
      exact xret_i (ty := .int) F hr hlocks hS rfl rfl hW (Nat.le_of_ble_eq_true rfl) (Nat.le_of_ble_eq_true rfl) dL_planned_17
    replace hf := if_f hE hf
    cases hf
abbrev rL_shareOf : Room := { frames := 8, cells := 2, slots := 12, locals := 136 }
abbrev zL_shareOf : List Cond := Cond.codeWith yL_shareOf cL_shareOf 5 (some .int) [(0, 10, 13, 21)] :: xB
theorem xd_L_shareOf : yL_shareOf.cls = RL ∧ yL_shareOf.cls ≠ "java/lang/invoke/MethodHandle" ∧ yL_shareOf.cls ≠ "java/lang/invoke/VarHandle" ∧ (parseMethodDescriptor yL_shareOf.desc).map (fun d => d.parameters.length) = some 4 := by decide +kernel
def fL_shareOf (nS : Nat) (nT : Nat) (a1 : Int32) (a2 : Int32) (sc : xSC) (sl : xSL) : Option (Int32 × xSC × xSL) := oT (fX5_shareOf nS nT a1 a2 sc) (fun E1 => (if E1 = "java/lang/IndexOutOfBoundsException" then some (1, sc, sl) else none)) (fun v => oG (xn64 (FP.f2d v)) (some (0, sc, (sl.1, FP.f2d v))))
set_option maxHeartbeats 4000000 in
set_option maxRecDepth 100000 in
theorem kL_shareOf (l : Launch) (hl0 : l.stackTraces = false) (G : xG) (sh : xSh) (sc : xSC) (sr : xSR) (sl : xSL) (a1 : Int32) (a2 : Int32) (r : Int32 × xSC × xSL) (hf : fL_shareOf sh.2.1 sh.2.2 a1 a2 sc sl = some r) : xMet l yL_shareOf zL_shareOf rL_shareOf G sh sc sr sl ([.ref (sh.1 0 0), .int a1, .int a2, .ref (sh.1 15 0)] : List Value) (.inr (some (.int r.1))) (xWd G sh r.2.1 sr r.2.2) := by
  refine xMet_ofH (cc := cL_shareOf) (maxL := 5) (ret := (some .int)) (hh := [(0, 10, 13, 21)]) (by decide) (Nat.le_of_ble_eq_true rfl) ?_
  intro p e s m below meth c F hT hW hr hlocks htab ls hl
  have F : CallFix p m c cL_shareOf 5 s ([.ref (sh.1 0 0), .int a1, .int a2, .ref (sh.1 15 0)] : List Value).toArray xB RL := F
  have hx := F.1
  have hb := F.2.1
  have hS : va_S (xA G) s.heap s.heap [] := va_S.rf
  have hl : lv_has ls 5 [(0, .ref (sh.1 0 0)), (1, .int a1), (2, .int a2), (3, .ref (sh.1 15 0))] := hl
  unfold fL_shareOf at hf
  refine lv_aload_n hx hb dL_shareOf_0 rfl (lv_at hl 3 rfl) ?_
  refine lv_iconst (v := 0) hx hb dL_shareOf_1 (by decide) ?_
  refine lv_aload_n hx hb dL_shareOf_2 rfl (lv_at hl 0 rfl) ?_
  refine lv_iload_n hx hb dL_shareOf_3 rfl (lv_at hl 1 rfl) ?_
  refine lv_iload_n hx hb dL_shareOf_4 rfl (lv_at hl 2 rfl) ?_
  rcases oT_go hf with ⟨v, hc, hf⟩ | ⟨E1, hc, hf⟩
  · refine xcallV (n := 2) F hT hW hS (xm_fix (by decide)) xce_0 rfl (kX5_shareOf l hl0 G sh sc sr sl a1 a2 _ hc) (xgV xw_766 xw_767 xw_768 xw_1 xw_769) rfl xd_X5_shareOf ⟨(Nat.le_of_ble_eq_true rfl), (Nat.le_of_ble_eq_true rfl)⟩ rfl hl.1 rfl (Nat.le_of_ble_eq_true rfl) dL_shareOf_5 ⟨(Nat.le_of_ble_eq_true rfl), (Nat.le_of_ble_eq_true rfl)⟩ (fun v9 H locs hres hW hS => ?_) (fun E9 H locs q9 ce9 hres => by cases hres)
    cases hres
    refine W.eq (g2 := F0 m 8 ls (.float v :: .int 0 :: .ref (sh.1 15 0) :: [])) rfl ?_
    obtain ⟨g1, hf⟩ := oG_go hf
    refine lv_f2d hx hb dL_shareOf_8 (xn64_ok g1) ?_
    refine xdast F hT hW hS dL_shareOf_9 (fun H locs hW hS => ?_)
    refine lv_goto (tgt := 17) hx hb dL_shareOf_10 (by decide) ?_
    refine lv_iconst (v := 0) hx hb dL_shareOf_17 (by decide) ?_
    cases hf
    exact xret_i (ty := .int) F hr hlocks hS rfl rfl hW (Nat.le_of_ble_eq_true rfl) (Nat.le_of_ble_eq_true rfl) dL_shareOf_18
  · refine xcallV (n := 2) F hT hW hS (xm_fix (by decide)) xce_0 rfl (kX5_shareOf l hl0 G sh sc sr sl a1 a2 _ hc) (xgV xw_766 xw_767 xw_768 xw_1 xw_769) rfl xd_X5_shareOf ⟨(Nat.le_of_ble_eq_true rfl), (Nat.le_of_ble_eq_true rfl)⟩ rfl hl.1 rfl (Nat.le_of_ble_eq_true rfl) dL_shareOf_5 ⟨(Nat.le_of_ble_eq_true rfl), (Nat.le_of_ble_eq_true rfl)⟩ (fun v9 H locs hres => by cases hres) (fun E9 H locs q9 ce9 hres hW hS hcell hv9 hcl => ?_)
    cases hres
    by_cases hE : E1 = "java/lang/IndexOutOfBoundsException"
    · replace hf := if_t hE hf
      subst hE
      refine vx_catch (name := "java/lang/IndexOutOfBoundsException") F.2.2.2.1 [] ⟨0, 10, 13, 21⟩ [] htab (fun z hz => nomatch hz) (by decide) (by decide) (F.2.2.2.2 _ xw_326) (va_Nw.use rfl (hT.2.2.2.2.1 _ (List.mem_of_getElem? (i := 5) rfl))) hcell hv9 hcl ?_
      refine lv_astore (lv' := [(4, .ref q9), (0, .ref (sh.1 0 0)), (1, .int a1), (2, .int a2), (3, .ref (sh.1 15 0))]) hx hb dL_shareOf_13 hl (by decide) rfl (fun ls hl => ?_)
      refine lv_iconst (v := 1) hx hb dL_shareOf_15 (by decide) ?_
      cases hf
      exact xret_i (ty := .int) F hr hlocks hS rfl rfl hW (Nat.le_of_ble_eq_true rfl) (Nat.le_of_ble_eq_true rfl) dL_shareOf_16
    replace hf := if_f hE hf
    cases hf
abbrev rL_meanStorage : Room := { frames := 7, cells := 1, slots := 6, locals := 116 }
abbrev zL_meanStorage : List Cond := Cond.codeWith yL_meanStorage cL_meanStorage 3 (some .int) [(0, 7, 10, 108)] :: xB
theorem xd_L_meanStorage : yL_meanStorage.cls = RL ∧ yL_meanStorage.cls ≠ "java/lang/invoke/MethodHandle" ∧ yL_meanStorage.cls ≠ "java/lang/invoke/VarHandle" ∧ (parseMethodDescriptor yL_meanStorage.desc).map (fun d => d.parameters.length) = some 2 := by decide +kernel
def fL_meanStorage (nS : Nat) (nT : Nat) (sc : xSC) (sl : xSL) : Option (Int32 × xSC × xSL) := oT (fX5_meanStorage nS nT sc) (fun E1 => (if E1 = "java/lang/ArithmeticException" then some (1, sc, sl) else none)) (fun v => some (0, sc, (sl.1, v)))
set_option maxHeartbeats 4000000 in
set_option maxRecDepth 100000 in
theorem kL_meanStorage (l : Launch) (hl0 : l.stackTraces = false) (G : xG) (sh : xSh) (sc : xSC) (sr : xSR) (sl : xSL) (r : Int32 × xSC × xSL) (hf : fL_meanStorage sh.2.1 sh.2.2 sc sl = some r) : xMet l yL_meanStorage zL_meanStorage rL_meanStorage G sh sc sr sl ([.ref (sh.1 0 0), .ref (sh.1 15 0)] : List Value) (.inr (some (.int r.1))) (xWd G sh r.2.1 sr r.2.2) := by
  refine xMet_ofH (cc := cL_meanStorage) (maxL := 3) (ret := (some .int)) (hh := [(0, 7, 10, 108)]) (by decide) (Nat.le_of_ble_eq_true rfl) ?_
  intro p e s m below meth c F hT hW hr hlocks htab ls hl
  have F : CallFix p m c cL_meanStorage 3 s ([.ref (sh.1 0 0), .ref (sh.1 15 0)] : List Value).toArray xB RL := F
  have hx := F.1
  have hb := F.2.1
  have hS : va_S (xA G) s.heap s.heap [] := va_S.rf
  have hl : lv_has ls 3 [(0, .ref (sh.1 0 0)), (1, .ref (sh.1 15 0))] := hl
  unfold fL_meanStorage at hf
  refine lv_aload_n hx hb dL_meanStorage_0 rfl (lv_at hl 1 rfl) ?_
  refine lv_iconst (v := 0) hx hb dL_meanStorage_1 (by decide) ?_
  refine lv_aload_n hx hb dL_meanStorage_2 rfl (lv_at hl 0 rfl) ?_
  rcases oT_go hf with ⟨v, hc, hf⟩ | ⟨E1, hc, hf⟩
  · refine xcallV (n := 0) F hT hW hS (xm_fix (by decide)) xce_0 rfl (kX5_meanStorage l hl0 G sh sc sr sl  _ hc) (xgV xw_787 xw_788 xw_789 xw_1 xw_790) rfl xd_X5_meanStorage ⟨(Nat.le_of_ble_eq_true rfl), (Nat.le_of_ble_eq_true rfl)⟩ rfl hl.1 rfl (Nat.le_of_ble_eq_true rfl) dL_meanStorage_3 ⟨(Nat.le_of_ble_eq_true rfl), (Nat.le_of_ble_eq_true rfl)⟩ (fun v9 H locs hres hW hS => ?_) (fun E9 H locs q9 ce9 hres => by cases hres)
    cases hres
    refine W.eq (g2 := F0 m 6 ls (.double v :: .int 0 :: .ref (sh.1 15 0) :: [])) rfl ?_
    refine xdast F hT hW hS dL_meanStorage_6 (fun H locs hW hS => ?_)
    refine lv_goto (tgt := 13) hx hb dL_meanStorage_7 (by decide) ?_
    refine lv_iconst (v := 0) hx hb dL_meanStorage_13 (by decide) ?_
    cases hf
    exact xret_i (ty := .int) F hr hlocks hS rfl rfl hW (Nat.le_of_ble_eq_true rfl) (Nat.le_of_ble_eq_true rfl) dL_meanStorage_14
  · refine xcallV (n := 0) F hT hW hS (xm_fix (by decide)) xce_0 rfl (kX5_meanStorage l hl0 G sh sc sr sl  _ hc) (xgV xw_787 xw_788 xw_789 xw_1 xw_790) rfl xd_X5_meanStorage ⟨(Nat.le_of_ble_eq_true rfl), (Nat.le_of_ble_eq_true rfl)⟩ rfl hl.1 rfl (Nat.le_of_ble_eq_true rfl) dL_meanStorage_3 ⟨(Nat.le_of_ble_eq_true rfl), (Nat.le_of_ble_eq_true rfl)⟩ (fun v9 H locs hres => by cases hres) (fun E9 H locs q9 ce9 hres hW hS hcell hv9 hcl => ?_)
    cases hres
    by_cases hE : E1 = "java/lang/ArithmeticException"
    · replace hf := if_t hE hf
      subst hE
      refine vx_catch (name := "java/lang/ArithmeticException") F.2.2.2.1 [] ⟨0, 7, 10, 108⟩ [] htab (fun z hz => nomatch hz) (by decide) (by decide) (F.2.2.2.2 _ xw_773) (va_Nw.use rfl (hT.2.2.2.2.1 _ (List.mem_of_getElem? (i := 8) rfl))) hcell hv9 hcl ?_
      refine lv_astore_n (lv' := [(2, .ref q9), (0, .ref (sh.1 0 0)), (1, .ref (sh.1 15 0))]) hx hb dL_meanStorage_10 rfl hl (by decide) rfl (fun ls hl => ?_)
      refine lv_iconst (v := 1) hx hb dL_meanStorage_11 (by decide) ?_
      cases hf
      exact xret_i (ty := .int) F hr hlocks hS rfl rfl hW (Nat.le_of_ble_eq_true rfl) (Nat.le_of_ble_eq_true rfl) dL_meanStorage_12
    replace hf := if_f hE hf
    cases hf
