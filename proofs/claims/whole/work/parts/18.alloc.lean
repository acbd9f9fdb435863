abbrev rX5_addShard : Room := { frames := 7, cells := 8, slots := 38, locals := 120 }
abbrev zX5_addShard : List Cond := Cond.code yX5_addShard cX5_addShard 5 (some .int) :: xB
theorem xd_X5_addShard : yX5_addShard.cls = RX5 ∧ yX5_addShard.cls ≠ "java/lang/invoke/MethodHandle" ∧ yX5_addShard.cls ≠ "java/lang/invoke/VarHandle" ∧ (parseMethodDescriptor yX5_addShard.desc).map (fun d => d.parameters.length) = some 3 := by decide +kernel
def fX5_addShard (nS : Nat) (nT : Nat) (a1 : Int32) (a2 : Int32) (a3 : Int32) (sc : xSC) : Option ((String ⊕ Int32) × xSC) := oT (fX5_requireRange nS nT a1 1 300 sc) (fun E14 => some ((Sum.inl E14), sc)) (fun v1 => oT (fX5_requireRange nS nT a2 1 300 sc) (fun E12 => some ((Sum.inl E12), sc)) (fun v2 => oT (fX5_requireRange nS nT a3 1 300 sc) (fun E10 => some ((Sum.inl E10), sc)) (fun v3 => oB (fX5_shards nS nT  sc) (fun v4 => (if v4 < 4 then oG (xinb v4 4) (oG (decide (v4.toNatClampNeg = nS)) (some (Sum.inr v4, xaddS nS a1 a2 a3 sc))) else some ((Sum.inl "java/lang/IllegalStateException"), sc))))))
set_option maxHeartbeats 4000000 in
set_option maxRecDepth 100000 in
theorem kX5_addShard (l : Launch) (hl0 : l.stackTraces = false) (G : xG) (sh : xSh) (sc : xSC) (sr : xSR) (sl : xSL) (a1 : Int32) (a2 : Int32) (a3 : Int32) (r : ((String ⊕ Int32) × xSC)) (hf : fX5_addShard sh.2.1 sh.2.2 a1 a2 a3 sc = some r) : xMet l yX5_addShard zX5_addShard rX5_addShard G sh sc sr sl ([.ref (sh.1 0 0), .int a1, .int a2, .int a3] : List Value) (xvI r.1) (xPwS G sh r.1 r.2 sr sl) := by
  refine xMet_of (cc := cX5_addShard) (maxL := 5) (ret := (some .int)) (by decide) (Nat.le_of_ble_eq_true rfl) ?_
  intro p e s m below meth c F hT hW hr hlocks htab ls hl
  have F : CallFix p m c cX5_addShard 5 s ([.ref (sh.1 0 0), .int a1, .int a2, .int a3] : List Value).toArray xB RX5 := F
  have hx := F.1
  have hb := F.2.1
  have hS : va_S (xA G) s.heap s.heap [] := va_S.rf
  have hl : lv_has ls 5 [(0, .ref (sh.1 0 0)), (1, .int a1), (2, .int a2), (3, .int a3)] := hl
  unfold fX5_addShard at hf
  refine lv_iload_n hx hb dX5_addShard_0 rfl (lv_at hl 1 rfl) ?_
  refine lv_iconst (v := 1) hx hb dX5_addShard_1 (by decide) ?_
  refine lv_sipush (v := 300) hx hb dX5_addShard_2 (by decide) ?_
  rcases oT_go hf with ⟨v1, hc13, hf⟩ | ⟨E14, hc13, hf⟩
  · refine xcallS (n := 3) F hT hW hS (kX5_requireRange l hl0 G sh sc sr sl a1 1 300  _ hc13) (xgS xw_185 xw_186 xw_1 xw_187) rfl xd_X5_requireRange.2 ⟨Nat.le_of_ble_eq_true rfl, Nat.le_of_ble_eq_true rfl⟩ rfl hl.1 rfl (Nat.le_of_ble_eq_true rfl) dX5_addShard_5 ⟨Nat.le_of_ble_eq_true rfl, Nat.le_of_ble_eq_true rfl⟩ (fun v9 H locs hres hW hS => ?_) (fun E9 H locs q9 ce9 hres => by cases hres)
    cases hres
    refine W.eq (g2 := F0 m 8 ls ([])) rfl ?_
    refine lv_iload_n hx hb dX5_addShard_8 rfl (lv_at hl 2 rfl) ?_
    refine lv_iconst (v := 1) hx hb dX5_addShard_9 (by decide) ?_
    refine lv_sipush (v := 300) hx hb dX5_addShard_10 (by decide) ?_
    rcases oT_go hf with ⟨v2, hc11, hf⟩ | ⟨E12, hc11, hf⟩
    · refine xcallS (n := 3) F hT hW hS (kX5_requireRange l hl0 G sh sc sr sl a2 1 300  _ hc11) (xgS xw_185 xw_186 xw_1 xw_187) rfl xd_X5_requireRange.2 ⟨Nat.le_of_ble_eq_true rfl, Nat.le_of_ble_eq_true rfl⟩ rfl hl.1 rfl (Nat.le_of_ble_eq_true rfl) dX5_addShard_13 ⟨Nat.le_of_ble_eq_true rfl, Nat.le_of_ble_eq_true rfl⟩ (fun v9 H locs hres hW hS => ?_) (fun E9 H locs q9 ce9 hres => by cases hres)
      cases hres
      refine W.eq (g2 := F0 m 16 ls ([])) rfl ?_
      refine lv_iload_n hx hb dX5_addShard_16 rfl (lv_at hl 3 rfl) ?_
      refine lv_iconst (v := 1) hx hb dX5_addShard_17 (by decide) ?_
      refine lv_sipush (v := 300) hx hb dX5_addShard_18 (by decide) ?_
      rcases oT_go hf with ⟨v3, hc9, hf⟩ | ⟨E10, hc9, hf⟩
      · refine xcallS (n := 3) F hT hW hS (kX5_requireRange l hl0 G sh sc sr sl a3 1 300  _ hc9) (xgS xw_185 xw_186 xw_1 xw_187) rfl xd_X5_requireRange.2 ⟨Nat.le_of_ble_eq_true rfl, Nat.le_of_ble_eq_true rfl⟩ rfl hl.1 rfl (Nat.le_of_ble_eq_true rfl) dX5_addShard_21 ⟨Nat.le_of_ble_eq_true rfl, Nat.le_of_ble_eq_true rfl⟩ (fun v9 H locs hres hW hS => ?_) (fun E9 H locs q9 ce9 hres => by cases hres)
        cases hres
        refine W.eq (g2 := F0 m 24 ls ([])) rfl ?_
        refine lv_aload_n hx hb dX5_addShard_24 rfl (lv_at hl 0 rfl) ?_
        obtain ⟨v4, hc8, hf⟩ := oB_go hf
        refine xcallV (n := 0) F hT hW hS (xm_fix (by decide)) xce_0 rfl (kX5_shards l hl0 G sh sc sr sl   _ hc8) (xgV xw_260 xw_109 xw_110 xw_1 xw_111) rfl xd_X5_shards ⟨Nat.le_of_ble_eq_true rfl, Nat.le_of_ble_eq_true rfl⟩ rfl hl.1 rfl (Nat.le_of_ble_eq_true rfl) dX5_addShard_25 ⟨Nat.le_of_ble_eq_true rfl, Nat.le_of_ble_eq_true rfl⟩ (fun v9 H locs hres hW hS => ?_) (fun E9 H locs q9 ce9 hres => by cases hres)
        cases hres
        refine W.eq (g2 := F0 m 28 ls (.int v4 :: [])) rfl ?_
        refine lv_istore (lv' := [(4, .int v4), (0, .ref (sh.1 0 0)), (1, .int a1), (2, .int a2), (3, .int a3)]) hx hb dX5_addShard_28 hl (by decide) rfl (fun ls hl => ?_)
        refine lv_iload hx hb dX5_addShard_30 (lv_at hl 0 rfl) ?_
        refine lv_aload_n hx hb dX5_addShard_32 rfl (lv_at hl 1 rfl) ?_
        refine xget F hT hW xuX5 (xm_fix (by decide)) xce_0 rfl 0 (by decide) xw_71 rfl rfl dX5_addShard_33 ?_
        refine xalenS F hT hW dX5_addShard_36 ?_
        refine lv_icmp_lt (tgt := 50) hx hb dX5_addShard_37 (by decide) (fun c5 => ?_) (fun c5 => ?_)
        · replace hf := if_t c5 hf
          refine lv_aload_n hx hb dX5_addShard_50 rfl (lv_at hl 1 rfl) ?_
          refine xget F hT hW xuX5 (xm_fix (by decide)) xce_0 rfl 0 (by decide) xw_71 rfl rfl dX5_addShard_51 ?_
          refine lv_iload hx hb dX5_addShard_54 (lv_at hl 0 rfl) ?_
          obtain ⟨g6, hf⟩ := oG_go hf
          obtain ⟨g7, hf⟩ := oG_go hf
          cases hf
          exact xtl_addShard F hT hW hS hr hlocks hl (lv_at hl 2 rfl) (lv_at hl 3 rfl) (lv_at hl 4 rfl) (lv_at hl 0 rfl) (xinb_ok g6) (of_decide_eq_true g7) ⟨(Nat.le_of_ble_eq_true rfl), (Nat.le_of_ble_eq_true rfl)⟩ (Nat.le_of_ble_eq_true rfl) (Nat.le_of_ble_eq_true rfl) (Nat.le_of_ble_eq_true rfl) (Nat.le_of_ble_eq_true rfl)
        · replace hf := if_f c5 hf
          cases hf
          refine xthrow (cls := "java/lang/IllegalStateException") (text := "there are 4 shards") (ik := 43) (is := 45) (ic := 47) F hT hW hS hl0 hlocks htab hl.1 xw_261 xw_9 (List.mem_of_getElem? (i := 0) rfl) xh_47 xb_47 (by decide +kernel) xg_47 (Nat.le_of_ble_eq_true rfl) (Nat.le_of_ble_eq_true rfl) (Nat.le_of_ble_eq_true rfl) (Nat.le_of_ble_eq_true rfl) ?_ ?_ (Nat.le_of_ble_eq_true rfl) (Nat.le_of_ble_eq_true rfl) dX5_addShard_40 dX5_addShard_43 dX5_addShard_44 dX5_addShard_46 dX5_addShard_49
          · rfl
          · exact fun H h => h
      · refine xcallS (n := 3) F hT hW hS (kX5_requireRange l hl0 G sh sc sr sl a3 1 300  _ hc9) (xgS xw_185 xw_186 xw_1 xw_187) rfl xd_X5_requireRange.2 ⟨Nat.le_of_ble_eq_true rfl, Nat.le_of_ble_eq_true rfl⟩ rfl hl.1 rfl (Nat.le_of_ble_eq_true rfl) dX5_addShard_21 ⟨Nat.le_of_ble_eq_true rfl, Nat.le_of_ble_eq_true rfl⟩ (fun v9 H locs hres => by cases hres) (fun E9 H locs q9 ce9 hres hW hS hcell hv9 hcl => ?_)
        cases hres
        cases hf
        exact xout htab hlocks hS rfl hW hcell hv9 hcl (Nat.le_of_ble_eq_true rfl) (Nat.le_of_ble_eq_true rfl)
    · refine xcallS (n := 3) F hT hW hS (kX5_requireRange l hl0 G sh sc sr sl a2 1 300  _ hc11) (xgS xw_185 xw_186 xw_1 xw_187) rfl xd_X5_requireRange.2 ⟨Nat.le_of_ble_eq_true rfl, Nat.le_of_ble_eq_true rfl⟩ rfl hl.1 rfl (Nat.le_of_ble_eq_true rfl) dX5_addShard_13 ⟨Nat.le_of_ble_eq_true rfl, Nat.le_of_ble_eq_true rfl⟩ (fun v9 H locs hres => by cases hres) (fun E9 H locs q9 ce9 hres hW hS hcell hv9 hcl => ?_)
      cases hres
      cases hf
      exact xout htab hlocks hS rfl hW hcell hv9 hcl (Nat.le_of_ble_eq_true rfl) (Nat.le_of_ble_eq_true rfl)
  · refine xcallS (n := 3) F hT hW hS (kX5_requireRange l hl0 G sh sc sr sl a1 1 300  _ hc13) (xgS xw_185 xw_186 xw_1 xw_187) rfl xd_X5_requireRange.2 ⟨Nat.le_of_ble_eq_true rfl, Nat.le_of_ble_eq_true rfl⟩ rfl hl.1 rfl (Nat.le_of_ble_eq_true rfl) dX5_addShard_5 ⟨Nat.le_of_ble_eq_true rfl, Nat.le_of_ble_eq_true rfl⟩ (fun v9 H locs hres => by cases hres) (fun E9 H locs q9 ce9 hres hW hS hcell hv9 hcl => ?_)
    cases hres
    cases hf
    exact xout htab hlocks hS rfl hW hcell hv9 hcl (Nat.le_of_ble_eq_true rfl) (Nat.le_of_ble_eq_true rfl)
abbrev rX5_addTenant : Room := { frames := 7, cells := 9, slots := 51, locals := 120 }
abbrev zX5_addTenant : List Cond := Cond.code yX5_addTenant cX5_addTenant 9 (some .int) :: xB
theorem xd_X5_addTenant : yX5_addTenant.cls = RX5 ∧ yX5_addTenant.cls ≠ "java/lang/invoke/MethodHandle" ∧ yX5_addTenant.cls ≠ "java/lang/invoke/VarHandle" ∧ (parseMethodDescriptor yX5_addTenant.desc).map (fun d => d.parameters.length) = some 5 := by decide +kernel
def fX5_addTenant (nS : Nat) (nT : Nat) (a1 : Int32) (a2 : Int32) (a3 : Int32) (a4 : Int32) (a5 : Int32) (sc : xSC) : Option ((String ⊕ Int32) × xSC) := oT (fX5_knownShard nS nT a1 sc) (fun E29 => some ((Sum.inl E29), sc)) (fun v1 => oG (decide (v1 < nS)) (oT (fX5_requireRange nS nT a2 1 100 sc) (fun E27 => some ((Sum.inl E27), sc)) (fun v4 => oT (fX5_requireRange nS nT a3 1 100 sc) (fun E25 => some ((Sum.inl E25), sc)) (fun v5 => oT (fX5_requireRange nS nT a4 1 100 sc) (fun E23 => some ((Sum.inl E23), sc)) (fun v6 => oT (fX5_requireRange nS nT a5 0 9 sc) (fun E21 => some ((Sum.inl E21), sc)) (fun v7 => (if (sc.1 4 v1 2) = 0 then some ((Sum.inl "java/lang/UnsupportedOperationException"), sc) else oB (fX3_hasRoom nS nT v1 a2 a3 a4 sc) (fun v9 => (if v9 = 0 then some ((Sum.inl "java/lang/UnsupportedOperationException"), sc) else oB (fX5_tenants nS nT  sc) (fun v11 => (if v11 < 6 then oG (xinb v11 6) (oG (decide (v11.toNatClampNeg = nT)) (oP (fX5_countUse nS (nT + 1) nT 1 (xaddT nT a1 a2 a3 a4 a5 sc)) (fun v17 s15 => some (Sum.inr v11, s15)))) else some ((Sum.inl "java/lang/IllegalStateException"), sc))))))))))))
set_option maxHeartbeats 4000000 in
set_option maxRecDepth 100000 in
theorem kX5_addTenant (l : Launch) (hl0 : l.stackTraces = false) (G : xG) (sh : xSh) (sc : xSC) (sr : xSR) (sl : xSL) (a1 : Int32) (a2 : Int32) (a3 : Int32) (a4 : Int32) (a5 : Int32) (r : ((String ⊕ Int32) × xSC)) (hf : fX5_addTenant sh.2.1 sh.2.2 a1 a2 a3 a4 a5 sc = some r) : xMet l yX5_addTenant zX5_addTenant rX5_addTenant G sh sc sr sl ([.ref (sh.1 0 0), .int a1, .int a2, .int a3, .int a4, .int a5] : List Value) (xvI r.1) (xPwT G sh r.1 r.2 sr sl) := by
  refine xMet_of (cc := cX5_addTenant) (maxL := 9) (ret := (some .int)) (by decide) (Nat.le_of_ble_eq_true rfl) ?_
  intro p e s m below meth c F hT hW hr hlocks htab ls hl
  have F : CallFix p m c cX5_addTenant 9 s ([.ref (sh.1 0 0), .int a1, .int a2, .int a3, .int a4, .int a5] : List Value).toArray xB RX5 := F
  have hx := F.1
  have hb := F.2.1
  have hS : va_S (xA G) s.heap s.heap [] := va_S.rf
  have hl : lv_has ls 9 [(0, .ref (sh.1 0 0)), (1, .int a1), (2, .int a2), (3, .int a3), (4, .int a4), (5, .int a5)] := hl
  unfold fX5_addTenant at hf
  refine lv_aload_n hx hb dX5_addTenant_0 rfl (lv_at hl 0 rfl) ?_
  refine lv_iload_n hx hb dX5_addTenant_1 rfl (lv_at hl 1 rfl) ?_
  rcases oT_go hf with ⟨v1, hc28, hf⟩ | ⟨E29, hc28, hf⟩
  · refine xcallV (n := 1) F hT hW hS (xm_fix (by decide)) xce_0 rfl (kX5_knownShard l hl0 G sh sc sr sl a1  _ hc28) (xgV xw_354 xw_356 xwp_2 xw_1 xw_357) rfl xd_X5_knownShard ⟨Nat.le_of_ble_eq_true rfl, Nat.le_of_ble_eq_true rfl⟩ rfl hl.1 rfl (Nat.le_of_ble_eq_true rfl) dX5_addTenant_2 ⟨Nat.le_of_ble_eq_true rfl, Nat.le_of_ble_eq_true rfl⟩ (fun v9 H locs hres hW hS => ?_) (fun E9 H locs q9 ce9 hres => by cases hres)
    cases hres
    refine W.eq (g2 := F0 m 5 ls (.ref (sh.1 4 v1) :: [])) rfl ?_
    obtain ⟨g3, hf⟩ := oG_go hf
    have h2 : v1 < sh.2.1 := of_decide_eq_true g3
    refine lv_astore (lv' := [(6, .ref (sh.1 4 v1)), (0, .ref (sh.1 0 0)), (1, .int a1), (2, .int a2), (3, .int a3), (4, .int a4), (5, .int a5)]) hx hb dX5_addTenant_5 hl (by decide) rfl (fun ls hl => ?_)
    refine lv_iload_n hx hb dX5_addTenant_7 rfl (lv_at hl 3 rfl) ?_
    refine lv_iconst (v := 1) hx hb dX5_addTenant_8 (by decide) ?_
    refine lv_bipush (v := 100) hx hb dX5_addTenant_9 (by decide) ?_
    rcases oT_go hf with ⟨v4, hc26, hf⟩ | ⟨E27, hc26, hf⟩
    · refine xcallS (n := 3) F hT hW hS (kX5_requireRange l hl0 G sh sc sr sl a2 1 100  _ hc26) (xgS xw_185 xw_186 xw_1 xw_187) rfl xd_X5_requireRange.2 ⟨Nat.le_of_ble_eq_true rfl, Nat.le_of_ble_eq_true rfl⟩ rfl hl.1 rfl (Nat.le_of_ble_eq_true rfl) dX5_addTenant_11 ⟨Nat.le_of_ble_eq_true rfl, Nat.le_of_ble_eq_true rfl⟩ (fun v9 H locs hres hW hS => ?_) (fun E9 H locs q9 ce9 hres => by cases hres)
      cases hres
      refine W.eq (g2 := F0 m 14 ls ([])) rfl ?_
      refine lv_iload_n hx hb dX5_addTenant_14 rfl (lv_at hl 4 rfl) ?_
      refine lv_iconst (v := 1) hx hb dX5_addTenant_15 (by decide) ?_
      refine lv_bipush (v := 100) hx hb dX5_addTenant_16 (by decide) ?_
      rcases oT_go hf with ⟨v5, hc24, hf⟩ | ⟨E25, hc24, hf⟩
      · refine xcallS (n := 3) F hT hW hS (kX5_requireRange l hl0 G sh sc sr sl a3 1 100  _ hc24) (xgS xw_185 xw_186 xw_1 xw_187) rfl xd_X5_requireRange.2 ⟨Nat.le_of_ble_eq_true rfl, Nat.le_of_ble_eq_true rfl⟩ rfl hl.1 rfl (Nat.le_of_ble_eq_true rfl) dX5_addTenant_18 ⟨Nat.le_of_ble_eq_true rfl, Nat.le_of_ble_eq_true rfl⟩ (fun v9 H locs hres hW hS => ?_) (fun E9 H locs q9 ce9 hres => by cases hres)
        cases hres
        refine W.eq (g2 := F0 m 21 ls ([])) rfl ?_
        refine lv_iload hx hb dX5_addTenant_21 (lv_at hl 5 rfl) ?_
        refine lv_iconst (v := 1) hx hb dX5_addTenant_23 (by decide) ?_
        refine lv_bipush (v := 100) hx hb dX5_addTenant_24 (by decide) ?_
        rcases oT_go hf with ⟨v6, hc22, hf⟩ | ⟨E23, hc22, hf⟩
        · refine xcallS (n := 3) F hT hW hS (kX5_requireRange l hl0 G sh sc sr sl a4 1 100  _ hc22) (xgS xw_185 xw_186 xw_1 xw_187) rfl xd_X5_requireRange.2 ⟨Nat.le_of_ble_eq_true rfl, Nat.le_of_ble_eq_true rfl⟩ rfl hl.1 rfl (Nat.le_of_ble_eq_true rfl) dX5_addTenant_26 ⟨Nat.le_of_ble_eq_true rfl, Nat.le_of_ble_eq_true rfl⟩ (fun v9 H locs hres hW hS => ?_) (fun E9 H locs q9 ce9 hres => by cases hres)
          cases hres
          refine W.eq (g2 := F0 m 29 ls ([])) rfl ?_
          refine lv_iload hx hb dX5_addTenant_29 (lv_at hl 6 rfl) ?_
          refine lv_iconst (v := 0) hx hb dX5_addTenant_31 (by decide) ?_
          refine lv_bipush (v := 9) hx hb dX5_addTenant_32 (by decide) ?_
          rcases oT_go hf with ⟨v7, hc20, hf⟩ | ⟨E21, hc20, hf⟩
          · refine xcallS (n := 3) F hT hW hS (kX5_requireRange l hl0 G sh sc sr sl a5 0 9  _ hc20) (xgS xw_185 xw_186 xw_1 xw_187) rfl xd_X5_requireRange.2 ⟨Nat.le_of_ble_eq_true rfl, Nat.le_of_ble_eq_true rfl⟩ rfl hl.1 rfl (Nat.le_of_ble_eq_true rfl) dX5_addTenant_34 ⟨Nat.le_of_ble_eq_true rfl, Nat.le_of_ble_eq_true rfl⟩ (fun v9 H locs hres hW hS => ?_) (fun E9 H locs q9 ce9 hres => by cases hres)
            cases hres
            refine W.eq (g2 := F0 m 37 ls ([])) rfl ?_
            refine lv_aload hx hb dX5_addTenant_37 (lv_at hl 0 rfl) ?_
            refine xgetN (host := "TenantPlacement") F hT hW xuX3 (xm_S h2 (by decide)) xce_4 rfl 2 (by decide) (List.mem_of_getElem? (i := 27) rfl) rfl rfl dX5_addTenant_39 ?_
            refine lv_if_eq (tgt := 57) hx hb dX5_addTenant_42 (by decide) (fun c8 => ?_) (fun c8 => ?_)
            · replace hf := if_t c8 hf
              cases hf
              refine xthrow (cls := "java/lang/UnsupportedOperationException") (text := "the shard is closed or has no room") (ik := 82) (is := 84) (ic := 86) F hT hW hS hl0 hlocks htab hl.1 xw_406 xw_15 (List.mem_of_getElem? (i := 1) rfl) xh_86 xb_86 (by decide +kernel) xg_86 (Nat.le_of_ble_eq_true rfl) (Nat.le_of_ble_eq_true rfl) (Nat.le_of_ble_eq_true rfl) (Nat.le_of_ble_eq_true rfl) ?_ ?_ (Nat.le_of_ble_eq_true rfl) (Nat.le_of_ble_eq_true rfl) dX5_addTenant_57 dX5_addTenant_60 dX5_addTenant_61 dX5_addTenant_63 dX5_addTenant_66
              · rfl
              · exact fun H h => h
            · replace hf := if_f c8 hf
              refine lv_aload hx hb dX5_addTenant_45 (lv_at hl 0 rfl) ?_
              refine lv_iload_n hx hb dX5_addTenant_47 rfl (lv_at hl 3 rfl) ?_
              refine lv_iload_n hx hb dX5_addTenant_48 rfl (lv_at hl 4 rfl) ?_
              refine lv_iload hx hb dX5_addTenant_49 (lv_at hl 5 rfl) ?_
              obtain ⟨v9, hc19, hf⟩ := oB_go hf
              refine xcallV (n := 3) F hT hW hS (xm_S h2 (by decide)) xce_4 rfl (kX3_hasRoom l hl0 G sh sc sr sl v1 a2 a3 a4 h2 _ hc19) (xgV xw_402 xw_403 xw_404 xw_10 xw_405) rfl xd_X3_hasRoom ⟨Nat.le_of_ble_eq_true rfl, Nat.le_of_ble_eq_true rfl⟩ rfl hl.1 rfl (Nat.le_of_ble_eq_true rfl) dX5_addTenant_51 ⟨Nat.le_of_ble_eq_true rfl, Nat.le_of_ble_eq_true rfl⟩ (fun v9 H locs hres hW hS => ?_) (fun E9 H locs q9 ce9 hres => by cases hres)
              cases hres
              refine W.eq (g2 := F0 m 54 ls (.int v9 :: [])) rfl ?_
              refine lv_if_ne (tgt := 67) hx hb dX5_addTenant_54 (by decide) (fun c10 => ?_) (fun c10 => ?_)
              · replace hf := if_f c10 hf
                refine lv_aload_n hx hb dX5_addTenant_67 rfl (lv_at hl 1 rfl) ?_
                obtain ⟨v11, hc18, hf⟩ := oB_go hf
                refine xcallV (n := 0) F hT hW hS (xm_fix (by decide)) xce_0 rfl (kX5_tenants l hl0 G sh sc sr sl   _ hc18) (xgV xw_422 xw_113 xw_114 xw_1 xw_115) rfl xd_X5_tenants ⟨Nat.le_of_ble_eq_true rfl, Nat.le_of_ble_eq_true rfl⟩ rfl hl.1 rfl (Nat.le_of_ble_eq_true rfl) dX5_addTenant_68 ⟨Nat.le_of_ble_eq_true rfl, Nat.le_of_ble_eq_true rfl⟩ (fun v9 H locs hres hW hS => ?_) (fun E9 H locs q9 ce9 hres => by cases hres)
                cases hres
                refine W.eq (g2 := F0 m 71 ls (.int v11 :: [])) rfl ?_
                refine lv_istore (lv' := [(7, .int v11), (6, .ref (sh.1 4 v1)), (0, .ref (sh.1 0 0)), (1, .int a1), (2, .int a2), (3, .int a3), (4, .int a4), (5, .int a5)]) hx hb dX5_addTenant_71 hl (by decide) rfl (fun ls hl => ?_)
                refine lv_iload hx hb dX5_addTenant_73 (lv_at hl 0 rfl) ?_
                refine lv_aload_n hx hb dX5_addTenant_75 rfl (lv_at hl 2 rfl) ?_
                refine xget F hT hW xuX5 (xm_fix (by decide)) xce_0 rfl 1 (by decide) xw_72 rfl rfl dX5_addTenant_76 ?_
                refine xalenT F hT hW dX5_addTenant_79 ?_
                refine lv_icmp_lt (tgt := 93) hx hb dX5_addTenant_80 (by decide) (fun c12 => ?_) (fun c12 => ?_)
                · replace hf := if_t c12 hf
                  obtain ⟨g13, hf⟩ := oG_go hf
                  obtain ⟨g14, hf⟩ := oG_go hf
                  obtain ⟨v17, s15, hc16, hf⟩ := oP_go hf
                  cases hf
                  exact xtl_addTenant hl0 hc16 F hT hW hS hr hlocks (lv_sub hl [0, 1, 2, 3, 4, 5, 6, 7] rfl) (xinb_ok g13) (of_decide_eq_true g14) ⟨(Nat.le_of_ble_eq_true rfl), (Nat.le_of_ble_eq_true rfl)⟩ ⟨(Nat.le_of_ble_eq_true rfl), (Nat.le_of_ble_eq_true rfl)⟩ (Nat.le_of_ble_eq_true rfl) (Nat.le_of_ble_eq_true rfl) (Nat.le_of_ble_eq_true rfl) (Nat.le_of_ble_eq_true rfl)
                · replace hf := if_f c12 hf
                  cases hf
                  refine xthrow (cls := "java/lang/IllegalStateException") (text := "there are 6 tenants") (ik := 43) (is := 90) (ic := 47) F hT hW hS hl0 hlocks htab hl.1 xw_261 xw_9 (List.mem_of_getElem? (i := 2) rfl) xh_47 xb_47 (by decide +kernel) xg_47 (Nat.le_of_ble_eq_true rfl) (Nat.le_of_ble_eq_true rfl) (Nat.le_of_ble_eq_true rfl) (Nat.le_of_ble_eq_true rfl) ?_ ?_ (Nat.le_of_ble_eq_true rfl) (Nat.le_of_ble_eq_true rfl) dX5_addTenant_83 dX5_addTenant_86 dX5_addTenant_87 dX5_addTenant_89 dX5_addTenant_92
                  · rfl
                  · exact fun H h => h
              · replace hf := if_t c10 hf
                cases hf
                refine xthrow (cls := "java/lang/UnsupportedOperationException") (text := "the shard is closed or has no room") (ik := 82) (is := 84) (ic := 86) F hT hW hS hl0 hlocks htab hl.1 xw_406 xw_15 (List.mem_of_getElem? (i := 1) rfl) xh_86 xb_86 (by decide +kernel) xg_86 (Nat.le_of_ble_eq_true rfl) (Nat.le_of_ble_eq_true rfl) (Nat.le_of_ble_eq_true rfl) (Nat.le_of_ble_eq_true rfl) ?_ ?_ (Nat.le_of_ble_eq_true rfl) (Nat.le_of_ble_eq_true rfl) dX5_addTenant_57 dX5_addTenant_60 dX5_addTenant_61 dX5_addTenant_63 dX5_addTenant_66
                · rfl
                · exact fun H h => h
          · refine xcallS (n := 3) F hT hW hS (kX5_requireRange l hl0 G sh sc sr sl a5 0 9  _ hc20) (xgS xw_185 xw_186 xw_1 xw_187) rfl xd_X5_requireRange.2 ⟨Nat.le_of_ble_eq_true rfl, Nat.le_of_ble_eq_true rfl⟩ rfl hl.1 rfl (Nat.le_of_ble_eq_true rfl) dX5_addTenant_34 ⟨Nat.le_of_ble_eq_true rfl, Nat.le_of_ble_eq_true rfl⟩ (fun v9 H locs hres => by cases hres) (fun E9 H locs q9 ce9 hres hW hS hcell hv9 hcl => ?_)
            cases hres
            cases hf
            exact xout htab hlocks hS rfl hW hcell hv9 hcl (Nat.le_of_ble_eq_true rfl) (Nat.le_of_ble_eq_true rfl)
        · refine xcallS (n := 3) F hT hW hS (kX5_requireRange l hl0 G sh sc sr sl a4 1 100  _ hc22) (xgS xw_185 xw_186 xw_1 xw_187) rfl xd_X5_requireRange.2 ⟨Nat.le_of_ble_eq_true rfl, Nat.le_of_ble_eq_true rfl⟩ rfl hl.1 rfl (Nat.le_of_ble_eq_true rfl) dX5_addTenant_26 ⟨Nat.le_of_ble_eq_true rfl, Nat.le_of_ble_eq_true rfl⟩ (fun v9 H locs hres => by cases hres) (fun E9 H locs q9 ce9 hres hW hS hcell hv9 hcl => ?_)
          cases hres
          cases hf
          exact xout htab hlocks hS rfl hW hcell hv9 hcl (Nat.le_of_ble_eq_true rfl) (Nat.le_of_ble_eq_true rfl)
      · refine xcallS (n := 3) F hT hW hS (kX5_requireRange l hl0 G sh sc sr sl a3 1 100  _ hc24) (xgS xw_185 xw_186 xw_1 xw_187) rfl xd_X5_requireRange.2 ⟨Nat.le_of_ble_eq_true rfl, Nat.le_of_ble_eq_true rfl⟩ rfl hl.1 rfl (Nat.le_of_ble_eq_true rfl) dX5_addTenant_18 ⟨Nat.le_of_ble_eq_true rfl, Nat.le_of_ble_eq_true rfl⟩ (fun v9 H locs hres => by cases hres) (fun E9 H locs q9 ce9 hres hW hS hcell hv9 hcl => ?_)
        cases hres
        cases hf
        exact xout htab hlocks hS rfl hW hcell hv9 hcl (Nat.le_of_ble_eq_true rfl) (Nat.le_of_ble_eq_true rfl)
    · refine xcallS (n := 3) F hT hW hS (kX5_requireRange l hl0 G sh sc sr sl a2 1 100  _ hc26) (xgS xw_185 xw_186 xw_1 xw_187) rfl xd_X5_requireRange.2 ⟨Nat.le_of_ble_eq_true rfl, Nat.le_of_ble_eq_true rfl⟩ rfl hl.1 rfl (Nat.le_of_ble_eq_true rfl) dX5_addTenant_11 ⟨Nat.le_of_ble_eq_true rfl, Nat.le_of_ble_eq_true rfl⟩ (fun v9 H locs hres => by cases hres) (fun E9 H locs q9 ce9 hres hW hS hcell hv9 hcl => ?_)
      cases hres
      cases hf
      exact xout htab hlocks hS rfl hW hcell hv9 hcl (Nat.le_of_ble_eq_true rfl) (Nat.le_of_ble_eq_true rfl)
  · refine xcallV (n := 1) F hT hW hS (xm_fix (by decide)) xce_0 rfl (kX5_knownShard l hl0 G sh sc sr sl a1  _ hc28) (xgV xw_354 xw_356 xwp_2 xw_1 xw_357) rfl xd_X5_knownShard ⟨Nat.le_of_ble_eq_true rfl, Nat.le_of_ble_eq_true rfl⟩ rfl hl.1 rfl (Nat.le_of_ble_eq_true rfl) dX5_addTenant_2 ⟨Nat.le_of_ble_eq_true rfl, Nat.le_of_ble_eq_true rfl⟩ (fun v9 H locs hres => by cases hres) (fun E9 H locs q9 ce9 hres hW hS hcell hv9 hcl => ?_)
    cases hres
    cases hf
    exact xout htab hlocks hS rfl hW hcell hv9 hcl (Nat.le_of_ble_eq_true rfl) (Nat.le_of_ble_eq_true rfl)
