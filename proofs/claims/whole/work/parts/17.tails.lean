/-! THE TAILS of addShard and addTenant: the new object, its place in the row -/
section XTL
variable {p : Program} {l : Launch} {e : Env} {R : Room} {s : State} {m : MethodId} {args : Array Value} {below : List Frame} {meth : Method} {c : Code} {H : Heap} {locs : List Loc} {cells slots : Nat}
variable {ls : Array Slot} {G : xG} {sh : xSh} {sc : xSC} {sr : xSR} {sl : xSL} {mc ms : Nat}
theorem xtl_app {w r : va_W} {i : Nat} {x : Nat × va_E} (h : w[i]? = some x) : (w ++ r)[i]? = some x := by
  rw [List.getElem?_append_left (List.getElem?_eq_some_iff.mp h).1]
  exact h
set_option maxHeartbeats 4000000 in
set_option maxRecDepth 100000 in
theorem xtl_addShard {n a1 a2 a3 : Int32} (F : CallFix p m c cX5_addShard 5 s args xB RX5) (hT : xTb G s s.heap) (hW : xWd G sh sc sr sl H) (hS : va_S (xA G) s.heap H locs) (hr : meth.sig.returnType = some .int) (hlocks : meth.locks = false) {lv : List (Nat × Value)} (hl : lv_has ls 5 lv)
    (h1 : ls[1]? = some (.val (.int a1))) (h2 : ls[2]? = some (.val (.int a2))) (h3 : ls[3]? = some (.val (.int a3))) (h4 : ls[4]? = some (.val (.int n))) (hin : vp_in n 4) (hn : n.toNatClampNeg = sh.2.1)
    (hR : rX3_init.frames + 1 ≤ R.frames ∧ 8 + (4 + 11) + rX3_init.locals ≤ R.locals) (hc : cells + 4 ≤ R.cells) (hs : slots + 14 ≤ R.slots) (hc2 : cells + 4 ≤ mc) (hs2 : slots + 14 ≤ ms) :
    W p l e R s m args below meth c H locs cells slots (xQ below G (xvI (.inr n)) (xPwS G sh (.inr n) (xaddS sh.2.1 a1 a2 a3 sc) sr sl) args s mc ms) (F0 m 56 ls [.int n, .ref (sh.1 1 0)]) := by
  have hx := F.1
  have hb := F.2.1
  refine ynew (ci := 5) (fs := [.null, .null, .int 0, .null, .int 0]) F hT hW.1 hW.2 hS xuX3 tyX3 tyX3_ok xw_28 xw_277 xw_10 rfl (fun j hj => by rcases (show j = 0 ∨ j = 1 ∨ j = 2 ∨ j = 3 ∨ j = 4 by omega) with rfl | rfl | rfl | rfl | rfl <;> rfl) (by omega) (by omega) dX5_addShard_56 (fun q0 H hP hD hS => ?_)
  refine lv_dup hx hb dX5_addShard_59 rfl ?_
  refine lv_iload_n hx hb dX5_addShard_60 rfl h1 ?_
  refine lv_iload_n hx hb dX5_addShard_61 rfl h2 ?_
  refine lv_iload_n hx hb dX5_addShard_62 rfl h3 ?_
  refine ycallI (n := 3) F hT hP hD hS (kX3_init l G (xW sh.1 (xce G sh sc sr sl) (xix sh)) q0 a1 a2 a3) xw_278 xw_279 xw_10 xw_280 rfl xd_X3_init.2 hR rfl hl.1 rfl (Nat.le_of_ble_eq_true rfl) dX5_addShard_63 ⟨by show cells + 1 + 3 ≤ _; omega, by show slots + 5 + 9 ≤ _; omega⟩ (fun w1 H locs hw hP hD hS => ?_)
  obtain ⟨q1, q2, q3, rfl⟩ := hw
  obtain ⟨i, hi, hi2⟩ := xW_get (ad := sh.1) (ce := xce G sh sc sr sl) (ix := xix sh) (k := 1) (j := 0) (xm_fix (by decide))
  refine va_astq (v := q0) hx hb hT.1 hP hD hS i 2 (xW sh.1 (xce G sh sc sr sl) (xix sh)).length 5 (xtl_app hi2) rfl y_at rfl hin dX5_addShard_66 (fun H locs hP hD hS => ?_)
  rw [hn] at hP hD
  have hW' := xWd_growS hi hP hD hW.2
  refine lv_iload hx hb dX5_addShard_67 h4 ?_
  exact xret_i (ty := .int) F hr hlocks hS rfl rfl ⟨xshS sh q0 q1 q2 q3, rfl, rfl, xgr_S, hW'⟩ (by show cells + 1 + 3 ≤ _; omega) (by show slots + 5 + 9 ≤ _; omega) dX5_addShard_69
set_option maxHeartbeats 4000000 in
set_option maxRecDepth 100000 in
theorem xtl_addTenant {n a1 a2 a3 a4 a5 : Int32} {sc2 : xSC} (hl0 : l.stackTraces = false) (hcu : fX5_countUse sh.2.1 (sh.2.2 + 1) sh.2.2 1 (xaddT sh.2.2 a1 a2 a3 a4 a5 sc) = some ((), sc2)) (F : CallFix p m c cX5_addTenant 9 s args xB RX5) (hT : xTb G s s.heap) (hW : xWd G sh sc sr sl H) (hS : va_S (xA G) s.heap H locs) (hr : meth.sig.returnType = some .int) (hlocks : meth.locks = false) {a6 : Nat} (hl : lv_has ls 9 [(7, .int n), (6, .ref a6), (0, .ref (sh.1 0 0)), (1, .int a1), (2, .int a2), (3, .int a3), (4, .int a4), (5, .int a5)]) (hin : vp_in n 6) (hn : n.toNatClampNeg = sh.2.2)
    (hR : rX4_init.frames + 1 ≤ R.frames ∧ 8 + (6 + 11) + rX4_init.locals ≤ R.locals) (hR2 : rX5_countUse.frames + 1 ≤ R.frames ∧ 8 + (7 + 11) + rX5_countUse.locals ≤ R.locals) (hc : cells + 3 ≤ R.cells) (hs : slots + 15 ≤ R.slots) (hc2 : cells + 3 ≤ mc) (hs2 : slots + 15 ≤ ms) :
    W p l e R s m args below meth c H locs cells slots (xQ below G (xvI (.inr n)) (xPwT G sh (.inr n) sc2 sr sl) args s mc ms) (F0 m 93 ls []) := by
  have hx := F.1
  have hb := F.2.1
  refine ynew (ci := 6) (fs := [.null, .int 0, .null, .int 0, .int 0, .int 0, .int 0, .int 0]) F hT hW.1 hW.2 hS xuX4 tyX4 tyX4_ok xw_30 xw_424 xw_16 rfl (fun j hj => by rcases (show j = 0 ∨ j = 1 ∨ j = 2 ∨ j = 3 ∨ j = 4 ∨ j = 5 ∨ j = 6 ∨ j = 7 by omega) with rfl | rfl | rfl | rfl | rfl | rfl | rfl | rfl <;> rfl) (by omega) (by omega) dX5_addTenant_93 (fun q0 H hP hD hS => ?_)
  refine lv_dup hx hb dX5_addTenant_96 rfl ?_
  refine lv_iload_n hx hb dX5_addTenant_97 rfl (lv_at hl 3 rfl) ?_
  refine lv_iload_n hx hb dX5_addTenant_98 rfl (lv_at hl 4 rfl) ?_
  refine lv_iload_n hx hb dX5_addTenant_99 rfl (lv_at hl 5 rfl) ?_
  refine lv_iload hx hb dX5_addTenant_100 (lv_at hl 6 rfl) ?_
  refine lv_iload hx hb dX5_addTenant_102 (lv_at hl 7 rfl) ?_
  refine ycallI (n := 5) F hT hP hD hS (kX4_init l G (xW sh.1 (xce G sh sc sr sl) (xix sh)) q0 a1 a2 a3 a4 a5) xw_425 xw_426 xw_16 xw_427 rfl xd_X4_init.2 hR rfl hl.1 rfl (Nat.le_of_ble_eq_true rfl) dX5_addTenant_104 ⟨by show cells + 1 + 2 ≤ _; omega, by show slots + 8 + 7 ≤ _; omega⟩ (fun w1 H locs hw hP hD hS => ?_)
  obtain ⟨q1, q2, rfl⟩ := hw
  obtain ⟨i, hi, hi2⟩ := xW_get (ad := sh.1) (ce := xce G sh sc sr sl) (ix := xix sh) (k := 2) (j := 0) (xm_fix (by decide))
  obtain ⟨i0, hi0, hi02⟩ := xW_get (ad := sh.1) (ce := xce G sh sc sr sl) (ix := xix sh) (k := 0) (j := 0) (xm_fix (by decide))
  refine lv_astore (lv' := [(8, .ref q0), (7, .int n), (6, .ref a6), (0, .ref (sh.1 0 0)), (1, .int a1), (2, .int a2), (3, .int a3), (4, .int a4), (5, .int a5)]) hx hb dX5_addTenant_107 hl (by decide) rfl (fun ls hl => ?_)
  refine lv_aload_n hx hb dX5_addTenant_109 rfl (lv_at hl 3 rfl) ?_
  refine va_get hx hb F.2.2.2.2 xuX5 F.2.2.2.1 hT.1 hP i0 (xtl_app hi02) (C := RX5) (T := TX5) (N := 8) rfl 1 (by decide) (F.2.2.2.2 _ xw_72) (fun _ h => h) rfl dX5_addTenant_110 ?_
  refine lv_iload hx hb dX5_addTenant_113 (lv_at hl 1 rfl) ?_
  refine lv_aload hx hb dX5_addTenant_115 (lv_at hl 0 rfl) ?_
  refine va_astq (v := q0) hx hb hT.1 hP hD hS i 3 (xW sh.1 (xce G sh sc sr sl) (xix sh)).length 6 (xtl_app hi2) rfl y_at rfl hin dX5_addTenant_117 (fun H locs hP hD hS => ?_)
  rw [hn] at hP hD
  have hW' := xWd_growT hi hP hD hW.2
  have e0 : (xshT sh q0 q1 q2).1 0 0 = sh.1 0 0 := xgr_T.1
  have e1 : (xshT sh q0 q1 q2).1 11 sh.2.2 = q0 := by simp [xshT]
  refine lv_aload_n hx hb dX5_addTenant_118 rfl (lv_at hl 3 rfl) ?_
  refine lv_aload hx hb dX5_addTenant_119 (lv_at hl 0 rfl) ?_
  refine lv_iconst (v := 1) hx hb dX5_addTenant_121 (by decide) ?_
  refine xcallV (n := 2) (k := 0) (j := 0) (sh := xshT sh q0 q1 q2) F hT hW' hS (xm_fix (by decide)) xce_0 rfl (kX5_countUse l hl0 G (xshT sh q0 q1 q2) _ sr sl sh.2.2 1 (Nat.lt_succ_self _) _ hcu) (xgV xw_469 xw_471 xwp_4 xw_1 xw_472) rfl xd_X5_countUse hR2 rfl hl.1 (by rw [e0, e1]; rfl) (Nat.le_of_ble_eq_true rfl) dX5_addTenant_122 ⟨by show cells + 1 + 2 + 0 ≤ _; omega, by show slots + 8 + 7 + 0 ≤ _; omega⟩ (fun v9 H locs hres hW hS => ?_) (fun E9 H locs q9 ce9 hres => by cases hres)
  cases hres
  refine W.eq (g2 := F0 m 125 ls []) rfl ?_
  refine lv_iload hx hb dX5_addTenant_125 (lv_at hl 1 rfl) ?_
  exact xret_i (ty := .int) F hr hlocks hS rfl rfl ⟨xshT sh q0 q1 q2, rfl, rfl, xgr_T, hW⟩ (by show cells + 1 + 2 + 0 ≤ _; omega) (by show slots + 8 + 7 + 0 ≤ _; omega) dX5_addTenant_127
end XTL
