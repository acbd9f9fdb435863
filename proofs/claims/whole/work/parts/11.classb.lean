abbrev rX5_noteHoursOver : Room := { frames := 1, cells := 0, slots := 0, locals := 21 }
abbrev zX5_noteHoursOver : List Cond := Cond.code yX5_noteHoursOver cX5_noteHoursOver 6 none :: xB
theorem xd_X5_noteHoursOver : yX5_noteHoursOver.cls = RX5 ∧ yX5_noteHoursOver.cls ≠ "java/lang/invoke/MethodHandle" ∧ yX5_noteHoursOver.cls ≠ "java/lang/invoke/VarHandle" ∧ (parseMethodDescriptor yX5_noteHoursOver.desc).map (fun d => d.parameters.length) = some 0 := by decide +kernel
def fX5_noteHoursOver_K1 (x3L1 : Int32) (scL1 : xSC) : Option (Unit × xSC) := some ((), scL1)
def fX5_noteHoursOver_L1 (nS : Nat) (nT : Nat) (k_L1 : Int32 → xSC → Option (Unit × xSC)) : Nat → Int32 → xSC → Option (Unit × xSC)
  | 0, _, _ => none
  | n + 1, x3L1, scL1 => (if 6 ≤ x3L1 then k_L1 x3L1 scL1 else oG (xinb x3L1 6) (oN (xel nT x3L1) ((fX5_noteHoursOver_L1 nS nT k_L1 n) (x3L1 + 1) scL1) (fun jq2 => oB (fX5_shardOrNull nS nT (scL1.1 11 jq2 3) scL1) (fun v6 => oN v6 ((fX5_noteHoursOver_L1 nS nT k_L1 n) (x3L1 + 1) scL1) (fun jq7 => oG (decide (jq7 < nS)) (oB (fX3_usesTooMuch nS nT jq7 scL1) (fun v11 => (if v11 = 0 then (fX5_noteHoursOver_L1 nS nT k_L1 n) (x3L1 + 1) scL1 else (fX5_noteHoursOver_L1 nS nT k_L1 n) (x3L1 + 1) (scL1.1, (scL1.2 + 1))))))))))
def fX5_noteHoursOver (nS : Nat) (nT : Nat) (sc : xSC) : Option (Unit × xSC) := fX5_noteHoursOver_L1 nS nT (fX5_noteHoursOver_K1) 64 0 sc
set_option maxHeartbeats 4000000 in
set_option maxRecDepth 100000 in
theorem kX5_noteHoursOver (l : Launch) (hl0 : l.stackTraces = false) (G : xG) (sh : xSh) (sc : xSC) (sr : xSR) (sl : xSL) (r : (Unit × xSC)) (hf : fX5_noteHoursOver sh.2.1 sh.2.2 sc = some r) : xMet l yX5_noteHoursOver zX5_noteHoursOver rX5_noteHoursOver G sh sc sr sl ([.ref (sh.1 0 0)] : List Value) (xvU (.inr r.1)) (xWd G sh r.2 sr sl) := by
  refine xMet_of (cc := cX5_noteHoursOver) (maxL := 6) (ret := none) (by decide) (Nat.le_of_ble_eq_true rfl) ?_
  intro p e s m below meth c F hT hW hr hlocks htab ls hl
  have F : CallFix p m c cX5_noteHoursOver 6 s ([.ref (sh.1 0 0)] : List Value).toArray xB RX5 := F
  have hx := F.1
  have hb := F.2.1
  have hS : va_S (xA G) s.heap s.heap [] := va_S.rf
  have hl : lv_has ls 6 [(0, .ref (sh.1 0 0))] := hl
  unfold fX5_noteHoursOver at hf
  refine lv_aload_n hx hb dX5_noteHoursOver_0 rfl (lv_at hl 0 rfl) ?_
  refine xget F hT hW xuX5 (xm_fix (by decide)) xce_0 rfl 1 (by decide) xw_72 rfl rfl dX5_noteHoursOver_1 ?_
  refine lv_astore_n (lv' := [(1, .ref (sh.1 2 0)), (0, .ref (sh.1 0 0))]) hx hb dX5_noteHoursOver_4 rfl hl (by decide) rfl (fun ls hl => ?_)
  refine lv_aload_n hx hb dX5_noteHoursOver_5 rfl (lv_at hl 0 rfl) ?_
  refine xalenT F hT hW dX5_noteHoursOver_6 ?_
  refine lv_istore_n (lv' := [(2, .int 6), (1, .ref (sh.1 2 0)), (0, .ref (sh.1 0 0))]) hx hb dX5_noteHoursOver_7 rfl hl (by decide) rfl (fun ls hl => ?_)
  refine lv_iconst (v := 0) hx hb dX5_noteHoursOver_8 (by decide) ?_
  refine lv_istore_n (lv' := [(3, .int 0), (2, .int 6), (1, .ref (sh.1 2 0)), (0, .ref (sh.1 0 0))]) hx hb dX5_noteHoursOver_9 rfl hl (by decide) rfl (fun ls hl => ?_)
  have hx_L1 : ∀ (x3L1 : Int32) (scL1 : xSC), fX5_noteHoursOver_K1 x3L1 scL1 = some r → ∀ (H : Heap) (locs : List Loc), xWd G sh scL1 sr sl H → va_S (xA G) s.heap H locs → ∀ ls : Array Slot, lv_has ls 6 [] → W p l e rX5_noteHoursOver s m ([.ref (sh.1 0 0)] : List Value).toArray below meth c H locs 0 0 (xQ below G (xvU (.inr r.1)) (xWd G sh r.2 sr sl) ([.ref (sh.1 0 0)] : List Value).toArray s 0 0) (F0 m 65 ls []) := by
    intro x3L1 scL1 hf H locs hW hS ls hl
    unfold fX5_noteHoursOver_K1 at hf
    cases hf
    exact xret_v F hr hlocks hS rfl hW (Nat.le_of_ble_eq_true rfl) (Nat.le_of_ble_eq_true rfl) dX5_noteHoursOver_65
  have hL_L1 : ∀ (n9 : Nat) (x3L1 : Int32) (scL1 : xSC), fX5_noteHoursOver_L1 sh.2.1 sh.2.2 (fX5_noteHoursOver_K1) n9 x3L1 scL1 = some r → ∀ (H : Heap) (locs : List Loc), xWd G sh scL1 sr sl H → va_S (xA G) s.heap H locs → ∀ ls : Array Slot, lv_has ls 6 [(0, .ref (sh.1 0 0)), (1, .ref (sh.1 2 0)), (2, .int 6), (3, .int x3L1)] → W p l e rX5_noteHoursOver s m ([.ref (sh.1 0 0)] : List Value).toArray below meth c H locs 0 0 (xQ below G (xvU (.inr r.1)) (xWd G sh r.2 sr sl) ([.ref (sh.1 0 0)] : List Value).toArray s 0 0) (F0 m 10 ls []) := by
    intro n_L1
    induction n_L1 with
    | zero =>
      intro x3L1 scL1 hf
      unfold fX5_noteHoursOver_L1 at hf
      cases hf
    | succ n_L1 ih_L1 =>
      intro x3L1 scL1 hf H locs hW hS ls hl
      unfold fX5_noteHoursOver_L1 at hf
      refine lv_iload_n hx hb dX5_noteHoursOver_10 rfl (lv_at hl 3 rfl) ?_
      refine lv_iload_n hx hb dX5_noteHoursOver_11 rfl (lv_at hl 2 rfl) ?_
      refine lv_icmp_ge (tgt := 65) hx hb dX5_noteHoursOver_12 (by decide) (fun c1 => ?_) (fun c1 => ?_)
      · replace hf := if_t c1 hf
        exact hx_L1 _ _ hf _ _ hW hS ls (lv_sub hl [] rfl)
      · replace hf := if_f c1 hf
        refine lv_aload_n hx hb dX5_noteHoursOver_15 rfl (lv_at hl 1 rfl) ?_
        refine lv_iload_n hx hb dX5_noteHoursOver_16 rfl (lv_at hl 3 rfl) ?_
        obtain ⟨g4, hf⟩ := oG_go hf
        refine xaldT F hT hW (xinb_ok g4) dX5_noteHoursOver_17 ?_
        rcases o5 : xel sh.2.2 x3L1 with _ | jq2
        · replace hf := oN_0 o5 hf
          refine W.eq (g2 := F0 m 18 ls (.null :: [])) rfl ?_
          refine lv_astoreN (lv' := [(4, .null), (0, .ref (sh.1 0 0)), (1, .ref (sh.1 2 0)), (2, .int 6), (3, .int x3L1)]) hx hb dX5_noteHoursOver_18 hl (by decide) rfl (fun ls hl => ?_)
          refine lv_aloadN hx hb dX5_noteHoursOver_20 (lv_at hl 0 rfl) ?_
          refine lv_ifnullN (tgt := 59) hx hb dX5_noteHoursOver_22 (by decide) ?_
          refine lv_iinc (v := (x3L1 + 1)) (lv' := [(3, .int (x3L1 + 1)), (4, .null), (0, .ref (sh.1 0 0)), (1, .ref (sh.1 2 0)), (2, .int 6)]) hx hb dX5_noteHoursOver_59 hl (k := 4) rfl rfl (by decide) rfl (fun ls hl => ?_)
          refine lv_goto (tgt := 10) hx hb dX5_noteHoursOver_62 (by decide) ?_
          exact ih_L1 _ _ hf _ _ hW hS ls (lv_sub hl [2, 3, 4, 0] rfl)
        · replace hf := oN_1 o5 hf
          have h3 : jq2 < sh.2.2 := xel_lt o5
          refine W.eq (g2 := F0 m 18 ls (.ref (sh.1 11 jq2) :: [])) rfl ?_
          refine lv_astore (lv' := [(4, .ref (sh.1 11 jq2)), (0, .ref (sh.1 0 0)), (1, .ref (sh.1 2 0)), (2, .int 6), (3, .int x3L1)]) hx hb dX5_noteHoursOver_18 hl (by decide) rfl (fun ls hl => ?_)
          refine lv_aload hx hb dX5_noteHoursOver_20 (lv_at hl 0 rfl) ?_
          refine lv_ifnull hx hb dX5_noteHoursOver_22 ?_
          refine lv_aload_n hx hb dX5_noteHoursOver_25 rfl (lv_at hl 1 rfl) ?_
          refine lv_aload hx hb dX5_noteHoursOver_26 (lv_at hl 0 rfl) ?_
          refine xgetN (host := "TenantPlacement") F hT hW xuX4 (xm_T h3 (by decide)) xce_11 rfl 3 (by decide) (List.mem_of_getElem? (i := 14) rfl) rfl rfl dX5_noteHoursOver_28 ?_
          obtain ⟨v6, hc14, hf⟩ := oB_go hf
          refine xcallV (n := 1) F hT hW hS (xm_fix (by decide)) xce_0 rfl (kX5_shardOrNull l hl0 G sh scL1 sr sl (scL1.1 11 jq2 3)  _ hc14) (xgV xw_358 xw_360 xwp_3 xw_1 xw_361) rfl xd_X5_shardOrNull ⟨Nat.le_of_ble_eq_true rfl, Nat.le_of_ble_eq_true rfl⟩ rfl hl.1 rfl (Nat.le_of_ble_eq_true rfl) dX5_noteHoursOver_31 ⟨Nat.le_of_ble_eq_true rfl, Nat.le_of_ble_eq_true rfl⟩ (fun v9 H locs hres hW hS => ?_) (fun E9 H locs q9 ce9 hres => by cases hres)
          cases hres
          rcases o10 : v6 with _ | jq7
          · replace hf := oN_0 o10 hf
            refine W.eq (g2 := F0 m 34 ls (.null :: [])) rfl ?_
            refine lv_astoreN (lv' := [(5, .null), (4, .ref (sh.1 11 jq2)), (0, .ref (sh.1 0 0)), (1, .ref (sh.1 2 0)), (2, .int 6), (3, .int x3L1)]) hx hb dX5_noteHoursOver_34 hl (by decide) rfl (fun ls hl => ?_)
            refine lv_aloadN hx hb dX5_noteHoursOver_36 (lv_at hl 0 rfl) ?_
            refine lv_ifnullN (tgt := 59) hx hb dX5_noteHoursOver_38 (by decide) ?_
            refine lv_iinc (v := (x3L1 + 1)) (lv' := [(3, .int (x3L1 + 1)), (5, .null), (4, .ref (sh.1 11 jq2)), (0, .ref (sh.1 0 0)), (1, .ref (sh.1 2 0)), (2, .int 6)]) hx hb dX5_noteHoursOver_59 hl (k := 5) rfl rfl (by decide) rfl (fun ls hl => ?_)
            refine lv_goto (tgt := 10) hx hb dX5_noteHoursOver_62 (by decide) ?_
            exact ih_L1 _ _ hf _ _ hW hS ls (lv_sub hl [3, 4, 5, 0] rfl)
          · replace hf := oN_1 o10 hf
            obtain ⟨g9, hf⟩ := oG_go hf
            have h8 : jq7 < sh.2.1 := of_decide_eq_true g9
            refine W.eq (g2 := F0 m 34 ls (.ref (sh.1 4 jq7) :: [])) rfl ?_
            refine lv_astore (lv' := [(5, .ref (sh.1 4 jq7)), (4, .ref (sh.1 11 jq2)), (0, .ref (sh.1 0 0)), (1, .ref (sh.1 2 0)), (2, .int 6), (3, .int x3L1)]) hx hb dX5_noteHoursOver_34 hl (by decide) rfl (fun ls hl => ?_)
            refine lv_aload hx hb dX5_noteHoursOver_36 (lv_at hl 0 rfl) ?_
            refine lv_ifnull hx hb dX5_noteHoursOver_38 ?_
            refine lv_aload hx hb dX5_noteHoursOver_41 (lv_at hl 0 rfl) ?_
            obtain ⟨v11, hc13, hf⟩ := oB_go hf
            refine xcallV (n := 0) F hT hW hS (xm_S h8 (by decide)) xce_4 rfl (kX3_usesTooMuch l hl0 G sh scL1 sr sl jq7 h8 _ hc13) (xgV xw_602 xw_603 xw_604 xw_10 xw_605) rfl xd_X3_usesTooMuch ⟨Nat.le_of_ble_eq_true rfl, Nat.le_of_ble_eq_true rfl⟩ rfl hl.1 rfl (Nat.le_of_ble_eq_true rfl) dX5_noteHoursOver_43 ⟨Nat.le_of_ble_eq_true rfl, Nat.le_of_ble_eq_true rfl⟩ (fun v9 H locs hres hW hS => ?_) (fun E9 H locs q9 ce9 hres => by cases hres)
            cases hres
            refine W.eq (g2 := F0 m 46 ls (.int v11 :: [])) rfl ?_
            refine lv_if_eq (tgt := 59) hx hb dX5_noteHoursOver_46 (by decide) (fun c12 => ?_) (fun c12 => ?_)
            · replace hf := if_t c12 hf
              refine lv_iinc (v := (x3L1 + 1)) (lv' := [(3, .int (x3L1 + 1)), (5, .ref (sh.1 4 jq7)), (4, .ref (sh.1 11 jq2)), (0, .ref (sh.1 0 0)), (1, .ref (sh.1 2 0)), (2, .int 6)]) hx hb dX5_noteHoursOver_59 hl (k := 5) rfl rfl (by decide) rfl (fun ls hl => ?_)
              refine lv_goto (tgt := 10) hx hb dX5_noteHoursOver_62 (by decide) ?_
              exact ih_L1 _ _ hf _ _ hW hS ls (lv_sub hl [3, 4, 5, 0] rfl)
            · replace hf := if_f c12 hf
              refine lv_aload_n hx hb dX5_noteHoursOver_49 rfl (lv_at hl 2 rfl) ?_
              refine lv_dup hx hb dX5_noteHoursOver_50 rfl ?_
              refine xget F hT hW xuX5 (xm_fix (by decide)) xce_0 rfl 7 (by decide) xw_78 rfl rfl dX5_noteHoursOver_51 ?_
              refine lv_lconst (v := 1) hx hb dX5_noteHoursOver_54 (by decide) ?_
              refine lv_ladd hx hb dX5_noteHoursOver_55 ?_
              refine xput (ty := .long) F hT hW hS xuX5 tyX5 tyX5_ok nmX5 (xm_fix (by decide)) xce_0 rfl 7 (by decide) xw_78 rfl rfl rfl rfl rfl (Nat.le_of_ble_eq_true rfl) xup_0_7 dX5_noteHoursOver_56 (fun H locs hW hS => ?_)
              refine lv_iinc (v := (x3L1 + 1)) (lv' := [(3, .int (x3L1 + 1)), (5, .ref (sh.1 4 jq7)), (4, .ref (sh.1 11 jq2)), (0, .ref (sh.1 0 0)), (1, .ref (sh.1 2 0)), (2, .int 6)]) hx hb dX5_noteHoursOver_59 hl (k := 5) rfl rfl (by decide) rfl (fun ls hl => ?_)
              refine lv_goto (tgt := 10) hx hb dX5_noteHoursOver_62 (by decide) ?_
              exact ih_L1 _ _ hf _ _ hW hS ls (lv_sub hl [3, 4, 5, 0] rfl)
  exact hL_L1 _ _ _ hf _ _ hW hS ls (lv_sub hl [3, 2, 1, 0] rfl)
abbrev rX5_pass : Room := { frames := 7, cells := 1, slots := 6, locals := 137 }
abbrev zX5_pass : List Cond := Cond.code yX5_pass cX5_pass 4 (some .int) :: xB
theorem xd_X5_pass : yX5_pass.cls = RX5 ∧ yX5_pass.cls ≠ "java/lang/invoke/MethodHandle" ∧ yX5_pass.cls ≠ "java/lang/invoke/VarHandle" ∧ (parseMethodDescriptor yX5_pass.desc).map (fun d => d.parameters.length) = some 1 := by decide +kernel
def fX5_pass_K1 (x2L1 : Int32) (x3L1 : Int32) (scL1 : xSC) : Option ((String ⊕ Int32) × xSC) := some ((Sum.inr x2L1), scL1)
def fX5_pass_L1 (nS : Nat) (nT : Nat) (a1 : Int32) (k_L1 : Int32 → Int32 → xSC → Option ((String ⊕ Int32) × xSC)) : Nat → Int32 → Int32 → xSC → Option ((String ⊕ Int32) × xSC)
  | 0, _, _, _ => none
  | n + 1, x2L1, x3L1, scL1 => (if a1 ≤ x3L1 then k_L1 x2L1 x3L1 scL1 else oP (fX5_noteHoursOver nS nT  scL1) (fun v3 s4 => oP (fX5_goOnWithMoves nS nT  s4) (fun v5 s6 => oB (fX5_hourOfDay nS nT ((xuC s6.1 0 0 5 ((s6.1 0 0 5) + 1), s6.2).1 0 0 5) (xuC s6.1 0 0 5 ((s6.1 0 0 5) + 1), s6.2)) (fun v7 => (if v7 = 0 then oP (fX5_growStorage nS nT  (xuC s6.1 0 0 5 ((s6.1 0 0 5) + 1), s6.2)) (fun v9 s10 => (fX5_pass_L1 nS nT a1 k_L1 n) (x2L1 + v5) (x3L1 + 1) s10) else (fX5_pass_L1 nS nT a1 k_L1 n) (x2L1 + v5) (x3L1 + 1) (xuC s6.1 0 0 5 ((s6.1 0 0 5) + 1), s6.2))))))
def fX5_pass (nS : Nat) (nT : Nat) (a1 : Int32) (sc : xSC) : Option ((String ⊕ Int32) × xSC) := oT (fX5_requireRange nS nT a1 1 48 sc) (fun E16 => some ((Sum.inl E16), sc)) (fun v1 => fX5_pass_L1 nS nT a1 (fX5_pass_K1) 64 0 0 sc)
set_option maxHeartbeats 4000000 in
set_option maxRecDepth 100000 in
theorem kX5_pass (l : Launch) (hl0 : l.stackTraces = false) (G : xG) (sh : xSh) (sc : xSC) (sr : xSR) (sl : xSL) (a1 : Int32) (r : ((String ⊕ Int32) × xSC)) (hf : fX5_pass sh.2.1 sh.2.2 a1 sc = some r) : xMet l yX5_pass zX5_pass rX5_pass G sh sc sr sl ([.ref (sh.1 0 0), .int a1] : List Value) (xvI r.1) (xWd G sh r.2 sr sl) := by
  refine xMet_of (cc := cX5_pass) (maxL := 4) (ret := (some .int)) (by decide) (Nat.le_of_ble_eq_true rfl) ?_
  intro p e s m below meth c F hT hW hr hlocks htab ls hl
  have F : CallFix p m c cX5_pass 4 s ([.ref (sh.1 0 0), .int a1] : List Value).toArray xB RX5 := F
  have hx := F.1
  have hb := F.2.1
  have hS : va_S (xA G) s.heap s.heap [] := va_S.rf
  have hl : lv_has ls 4 [(0, .ref (sh.1 0 0)), (1, .int a1)] := hl
  unfold fX5_pass at hf
  refine lv_iload_n hx hb dX5_pass_0 rfl (lv_at hl 1 rfl) ?_
  refine lv_iconst (v := 1) hx hb dX5_pass_1 (by decide) ?_
  refine lv_bipush (v := 48) hx hb dX5_pass_2 (by decide) ?_
  rcases oT_go hf with ⟨v1, hc15, hf⟩ | ⟨E16, hc15, hf⟩
  · refine xcallS (n := 3) F hT hW hS (kX5_requireRange l hl0 G sh sc sr sl a1 1 48  _ hc15) (xgS xw_185 xw_186 xw_1 xw_187) rfl xd_X5_requireRange.2 ⟨Nat.le_of_ble_eq_true rfl, Nat.le_of_ble_eq_true rfl⟩ rfl hl.1 rfl (Nat.le_of_ble_eq_true rfl) dX5_pass_4 ⟨Nat.le_of_ble_eq_true rfl, Nat.le_of_ble_eq_true rfl⟩ (fun v9 H locs hres hW hS => ?_) (fun E9 H locs q9 ce9 hres => by cases hres)
    cases hres
    refine W.eq (g2 := F0 m 7 ls ([])) rfl ?_
    refine lv_iconst (v := 0) hx hb dX5_pass_7 (by decide) ?_
    refine lv_istore_n (lv' := [(2, .int 0), (0, .ref (sh.1 0 0)), (1, .int a1)]) hx hb dX5_pass_8 rfl hl (by decide) rfl (fun ls hl => ?_)
    refine lv_iconst (v := 0) hx hb dX5_pass_9 (by decide) ?_
    refine lv_istore_n (lv' := [(3, .int 0), (2, .int 0), (0, .ref (sh.1 0 0)), (1, .int a1)]) hx hb dX5_pass_10 rfl hl (by decide) rfl (fun ls hl => ?_)
    have hx_L1 : ∀ (x2L1 : Int32) (x3L1 : Int32) (scL1 : xSC), fX5_pass_K1 x2L1 x3L1 scL1 = some r → ∀ (H : Heap) (locs : List Loc), xWd G sh scL1 sr sl H → va_S (xA G) s.heap H locs → ∀ ls : Array Slot, lv_has ls 4 [(2, .int x2L1)] → W p l e rX5_pass s m ([.ref (sh.1 0 0), .int a1] : List Value).toArray below meth c H locs 1 6 (xQ below G (xvI r.1) (xWd G sh r.2 sr sl) ([.ref (sh.1 0 0), .int a1] : List Value).toArray s 1 6) (F0 m 57 ls []) := by
      intro x2L1 x3L1 scL1 hf H locs hW hS ls hl
      unfold fX5_pass_K1 at hf
      refine lv_iload_n hx hb dX5_pass_57 rfl (lv_at hl 0 rfl) ?_
      cases hf
      exact xret_i (ty := .int) F hr hlocks hS rfl rfl hW (Nat.le_of_ble_eq_true rfl) (Nat.le_of_ble_eq_true rfl) dX5_pass_58
    have hL_L1 : ∀ (n9 : Nat) (x2L1 : Int32) (x3L1 : Int32) (scL1 : xSC), fX5_pass_L1 sh.2.1 sh.2.2 a1 (fX5_pass_K1) n9 x2L1 x3L1 scL1 = some r → ∀ (H : Heap) (locs : List Loc), xWd G sh scL1 sr sl H → va_S (xA G) s.heap H locs → ∀ ls : Array Slot, lv_has ls 4 [(0, .ref (sh.1 0 0)), (1, .int a1), (2, .int x2L1), (3, .int x3L1)] → W p l e rX5_pass s m ([.ref (sh.1 0 0), .int a1] : List Value).toArray below meth c H locs 1 6 (xQ below G (xvI r.1) (xWd G sh r.2 sr sl) ([.ref (sh.1 0 0), .int a1] : List Value).toArray s 1 6) (F0 m 11 ls []) := by
      intro n_L1
      induction n_L1 with
      | zero =>
        intro x2L1 x3L1 scL1 hf
        unfold fX5_pass_L1 at hf
        cases hf
      | succ n_L1 ih_L1 =>
        intro x2L1 x3L1 scL1 hf H locs hW hS ls hl
        unfold fX5_pass_L1 at hf
        refine lv_iload_n hx hb dX5_pass_11 rfl (lv_at hl 3 rfl) ?_
        refine lv_iload_n hx hb dX5_pass_12 rfl (lv_at hl 1 rfl) ?_
        refine lv_icmp_ge (tgt := 57) hx hb dX5_pass_13 (by decide) (fun c2 => ?_) (fun c2 => ?_)
        · replace hf := if_t c2 hf
          exact hx_L1 _ _ _ hf _ _ hW hS ls (lv_sub hl [2] rfl)
        · replace hf := if_f c2 hf
          refine lv_aload_n hx hb dX5_pass_16 rfl (lv_at hl 0 rfl) ?_
          obtain ⟨v3, s4, hc14, hf⟩ := oP_go hf
          refine xcallV (n := 0) F hT hW hS (xm_fix (by decide)) xce_0 rfl (kX5_noteHoursOver l hl0 G sh scL1 sr sl   _ hc14) (xgV xw_598 xw_600 xwp_9 xw_1 xw_601) rfl xd_X5_noteHoursOver ⟨Nat.le_of_ble_eq_true rfl, Nat.le_of_ble_eq_true rfl⟩ rfl hl.1 rfl (Nat.le_of_ble_eq_true rfl) dX5_pass_17 ⟨Nat.le_of_ble_eq_true rfl, Nat.le_of_ble_eq_true rfl⟩ (fun v9 H locs hres hW hS => ?_) (fun E9 H locs q9 ce9 hres => by cases hres)
          cases hres
          refine W.eq (g2 := F0 m 20 ls ([])) rfl ?_
          refine lv_iload_n hx hb dX5_pass_20 rfl (lv_at hl 2 rfl) ?_
          refine lv_aload_n hx hb dX5_pass_21 rfl (lv_at hl 0 rfl) ?_
          obtain ⟨v5, s6, hc13, hf⟩ := oP_go hf
          refine xcallV (n := 0) F hT hW hS (xm_fix (by decide)) xce_0 rfl (kX5_goOnWithMoves l hl0 G sh s4 sr sl   _ hc13) (xgV xw_606 xw_608 xwp_10 xw_1 xw_609) rfl xd_X5_goOnWithMoves ⟨Nat.le_of_ble_eq_true rfl, Nat.le_of_ble_eq_true rfl⟩ rfl hl.1 rfl (Nat.le_of_ble_eq_true rfl) dX5_pass_22 ⟨Nat.le_of_ble_eq_true rfl, Nat.le_of_ble_eq_true rfl⟩ (fun v9 H locs hres hW hS => ?_) (fun E9 H locs q9 ce9 hres => by cases hres)
          cases hres
          refine W.eq (g2 := F0 m 25 ls (.int v5 :: .int x2L1 :: [])) rfl ?_
          refine lv_iadd hx hb dX5_pass_25 ?_
          refine lv_istore_n (lv' := [(2, .int (x2L1 + v5)), (0, .ref (sh.1 0 0)), (1, .int a1), (3, .int x3L1)]) hx hb dX5_pass_26 rfl hl (by decide) rfl (fun ls hl => ?_)
          refine lv_aload_n hx hb dX5_pass_27 rfl (lv_at hl 1 rfl) ?_
          refine lv_dup hx hb dX5_pass_28 rfl ?_
          refine xget F hT hW xuX5 (xm_fix (by decide)) xce_0 rfl 5 (by decide) xw_76 rfl rfl dX5_pass_29 ?_
          refine lv_iconst (v := 1) hx hb dX5_pass_32 (by decide) ?_
          refine lv_iadd hx hb dX5_pass_33 ?_
          refine xput (ty := .int) F hT hW hS xuX5 tyX5 tyX5_ok nmX5 (xm_fix (by decide)) xce_0 rfl 5 (by decide) xw_76 rfl rfl rfl rfl rfl (Nat.le_of_ble_eq_true rfl) xup_0_5 dX5_pass_34 (fun H locs hW hS => ?_)
          refine lv_aload_n hx hb dX5_pass_37 rfl (lv_at hl 1 rfl) ?_
          refine xget F hT hW xuX5 (xm_fix (by decide)) xce_0 rfl 5 (by decide) xw_76 rfl rfl dX5_pass_38 ?_
          obtain ⟨v7, hc12, hf⟩ := oB_go hf
          refine xcallS (n := 1) F hT hW hS (kX5_hourOfDay l hl0 G sh (xuC s6.1 0 0 5 ((s6.1 0 0 5) + 1), s6.2) sr sl ((xuC s6.1 0 0 5 ((s6.1 0 0 5) + 1), s6.2).1 0 0 5)  _ hc12) (xgS xw_614 xw_615 xw_1 xw_616) rfl xd_X5_hourOfDay.2 ⟨Nat.le_of_ble_eq_true rfl, Nat.le_of_ble_eq_true rfl⟩ rfl hl.1 rfl (Nat.le_of_ble_eq_true rfl) dX5_pass_41 ⟨Nat.le_of_ble_eq_true rfl, Nat.le_of_ble_eq_true rfl⟩ (fun v9 H locs hres hW hS => ?_) (fun E9 H locs q9 ce9 hres => by cases hres)
          cases hres
          refine W.eq (g2 := F0 m 44 ls (.int v7 :: [])) rfl ?_
          refine lv_if_ne (tgt := 51) hx hb dX5_pass_44 (by decide) (fun c8 => ?_) (fun c8 => ?_)
          · replace hf := if_f c8 hf
            refine lv_iinc (v := (x3L1 + 1)) (lv' := [(3, .int (x3L1 + 1)), (2, .int (x2L1 + v5)), (0, .ref (sh.1 0 0)), (1, .int a1)]) hx hb dX5_pass_51 hl (k := 3) rfl rfl (by decide) rfl (fun ls hl => ?_)
            refine lv_goto (tgt := 11) hx hb dX5_pass_54 (by decide) ?_
            exact ih_L1 _ _ _ hf _ _ hW hS ls (lv_sub hl [2, 3, 1, 0] rfl)
          · replace hf := if_t c8 hf
            refine lv_aload_n hx hb dX5_pass_47 rfl (lv_at hl 1 rfl) ?_
            obtain ⟨v9, s10, hc11, hf⟩ := oP_go hf
            refine xcallV (n := 0) F hT hW hS (xm_fix (by decide)) xce_0 rfl (kX5_growStorage l hl0 G sh (xuC s6.1 0 0 5 ((s6.1 0 0 5) + 1), s6.2) sr sl   _ hc11) (xgV xw_627 xw_629 xwp_12 xw_1 xw_630) rfl xd_X5_growStorage ⟨Nat.le_of_ble_eq_true rfl, Nat.le_of_ble_eq_true rfl⟩ rfl hl.1 rfl (Nat.le_of_ble_eq_true rfl) dX5_pass_48 ⟨Nat.le_of_ble_eq_true rfl, Nat.le_of_ble_eq_true rfl⟩ (fun v9 H locs hres hW hS => ?_) (fun E9 H locs q9 ce9 hres => by cases hres)
            cases hres
            refine W.eq (g2 := F0 m 51 ls ([])) rfl ?_
            refine lv_iinc (v := (x3L1 + 1)) (lv' := [(3, .int (x3L1 + 1)), (2, .int (x2L1 + v5)), (0, .ref (sh.1 0 0)), (1, .int a1)]) hx hb dX5_pass_51 hl (k := 3) rfl rfl (by decide) rfl (fun ls hl => ?_)
            refine lv_goto (tgt := 11) hx hb dX5_pass_54 (by decide) ?_
            exact ih_L1 _ _ _ hf _ _ hW hS ls (lv_sub hl [2, 3, 1, 0] rfl)
    exact hL_L1 _ _ _ _ hf _ _ hW hS ls (lv_sub hl [2, 3, 1, 0] rfl)
  · refine xcallS (n := 3) F hT hW hS (kX5_requireRange l hl0 G sh sc sr sl a1 1 48  _ hc15) (xgS xw_185 xw_186 xw_1 xw_187) rfl xd_X5_requireRange.2 ⟨Nat.le_of_ble_eq_true rfl, Nat.le_of_ble_eq_true rfl⟩ rfl hl.1 rfl (Nat.le_of_ble_eq_true rfl) dX5_pass_4 ⟨Nat.le_of_ble_eq_true rfl, Nat.le_of_ble_eq_true rfl⟩ (fun v9 H locs hres => by cases hres) (fun E9 H locs q9 ce9 hres hW hS hcell hv9 hcl => ?_)
    cases hres
    cases hf
    exact xout htab hlocks hS rfl hW hcell hv9 hcl (Nat.le_of_ble_eq_true rfl) (Nat.le_of_ble_eq_true rfl)
abbrev rX5_phase : Room := { frames := 7, cells := 1, slots := 6, locals := 112 }
abbrev zX5_phase : List Cond := Cond.code yX5_phase cX5_phase 2 (some .char) :: xB
theorem xd_X5_phase : yX5_phase.cls = RX5 ∧ yX5_phase.cls ≠ "java/lang/invoke/MethodHandle" ∧ yX5_phase.cls ≠ "java/lang/invoke/VarHandle" ∧ (parseMethodDescriptor yX5_phase.desc).map (fun d => d.parameters.length) = some 1 := by decide +kernel
def fX5_phase (nS : Nat) (nT : Nat) (a1 : Int32) (sc : xSC) : Option (String ⊕ Int32) := oT (fX5_knownTenant nS nT a1 sc) (fun E6 => some (Sum.inl E6)) (fun v1 => oG (decide (v1 < nT)) (oG (xnb .char (sc.1 9 v1 0)) (some (Sum.inr (sc.1 9 v1 0)))))
set_option maxHeartbeats 4000000 in
set_option maxRecDepth 100000 in
theorem kX5_phase (l : Launch) (hl0 : l.stackTraces = false) (G : xG) (sh : xSh) (sc : xSC) (sr : xSR) (sl : xSL) (a1 : Int32) (r : (String ⊕ Int32)) (hf : fX5_phase sh.2.1 sh.2.2 a1 sc = some r) : xMet l yX5_phase zX5_phase rX5_phase G sh sc sr sl ([.ref (sh.1 0 0), .int a1] : List Value) (xvI r) (xWd G sh sc sr sl) := by
  refine xMet_of (cc := cX5_phase) (maxL := 2) (ret := (some .char)) (by decide) (Nat.le_of_ble_eq_true rfl) ?_
  intro p e s m below meth c F hT hW hr hlocks htab ls hl
  have F : CallFix p m c cX5_phase 2 s ([.ref (sh.1 0 0), .int a1] : List Value).toArray xB RX5 := F
  have hx := F.1
  have hb := F.2.1
  have hS : va_S (xA G) s.heap s.heap [] := va_S.rf
  have hl : lv_has ls 2 [(0, .ref (sh.1 0 0)), (1, .int a1)] := hl
  unfold fX5_phase at hf
  refine lv_aload_n hx hb dX5_phase_0 rfl (lv_at hl 0 rfl) ?_
  refine lv_iload_n hx hb dX5_phase_1 rfl (lv_at hl 1 rfl) ?_
  rcases oT_go hf with ⟨v1, hc5, hf⟩ | ⟨E6, hc5, hf⟩
  · refine xcallV (n := 1) F hT hW hS (xm_fix (by decide)) xce_0 rfl (kX5_knownTenant l hl0 G sh sc sr sl a1  _ hc5) (xgV xw_497 xw_499 xwp_5 xw_1 xw_500) rfl xd_X5_knownTenant ⟨Nat.le_of_ble_eq_true rfl, Nat.le_of_ble_eq_true rfl⟩ rfl hl.1 rfl (Nat.le_of_ble_eq_true rfl) dX5_phase_2 ⟨Nat.le_of_ble_eq_true rfl, Nat.le_of_ble_eq_true rfl⟩ (fun v9 H locs hres hW hS => ?_) (fun E9 H locs q9 ce9 hres => by cases hres)
    cases hres
    refine W.eq (g2 := F0 m 5 ls (.ref (sh.1 11 v1) :: [])) rfl ?_
    obtain ⟨g3, hf⟩ := oG_go hf
    have h2 : v1 < sh.2.2 := of_decide_eq_true g3
    refine xgetN (host := "TenantPlacement") F hT hW xuX4 (xm_T h2 (by decide)) xce_11 rfl 2 (by decide) (List.mem_of_getElem? (i := 13) rfl) rfl rfl dX5_phase_5 ?_
    refine xgetN (host := "TenantPlacement") F hT hW xuX1 (xm_T h2 (by decide)) (xce_mv (by decide)) rfl 0 (by decide) (List.mem_of_getElem? (i := 18) rfl) rfl rfl dX5_phase_8 ?_
    obtain ⟨g4, hf⟩ := oG_go hf
    cases hf
    exact xret_i (ty := .char) F hr hlocks hS (xnb_ok g4).1 rfl hW (Nat.le_of_ble_eq_true rfl) (Nat.le_of_ble_eq_true rfl) dX5_phase_11
  · refine xcallV (n := 1) F hT hW hS (xm_fix (by decide)) xce_0 rfl (kX5_knownTenant l hl0 G sh sc sr sl a1  _ hc5) (xgV xw_497 xw_499 xwp_5 xw_1 xw_500) rfl xd_X5_knownTenant ⟨Nat.le_of_ble_eq_true rfl, Nat.le_of_ble_eq_true rfl⟩ rfl hl.1 rfl (Nat.le_of_ble_eq_true rfl) dX5_phase_2 ⟨Nat.le_of_ble_eq_true rfl, Nat.le_of_ble_eq_true rfl⟩ (fun v9 H locs hres => by cases hres) (fun E9 H locs q9 ce9 hres hW hS hcell hv9 hcl => ?_)
    cases hres
    cases hf
    exact xout htab hlocks hS rfl hW hcell hv9 hcl (Nat.le_of_ble_eq_true rfl) (Nat.le_of_ble_eq_true rfl)
abbrev rX5_requireMeasure : Room := { frames := 6, cells := 1, slots := 6, locals := 90 }
abbrev zX5_requireMeasure : List Cond := Cond.code yX5_requireMeasure cX5_requireMeasure 1 none :: xB
theorem xd_X5_requireMeasure : yX5_requireMeasure.cls = RX5 ∧ yX5_requireMeasure.cls ≠ "java/lang/invoke/MethodHandle" ∧ yX5_requireMeasure.cls ≠ "java/lang/invoke/VarHandle" ∧ (parseMethodDescriptor yX5_requireMeasure.desc).map (fun d => d.parameters.length) = some 1 := by decide +kernel
def fX5_requireMeasure (nS : Nat) (nT : Nat) (a1 : Int32) (sc : xSC) : Option (String ⊕ Unit) := (if a1 < 0 then some (Sum.inl "java/lang/IndexOutOfBoundsException") else (if a1 < 3 then some (Sum.inr ()) else some (Sum.inl "java/lang/IndexOutOfBoundsException")))
set_option maxHeartbeats 4000000 in
set_option maxRecDepth 100000 in
theorem kX5_requireMeasure (l : Launch) (hl0 : l.stackTraces = false) (G : xG) (sh : xSh) (sc : xSC) (sr : xSR) (sl : xSL) (a1 : Int32) (r : (String ⊕ Unit)) (hf : fX5_requireMeasure sh.2.1 sh.2.2 a1 sc = some r) : xMet l yX5_requireMeasure zX5_requireMeasure rX5_requireMeasure G sh sc sr sl ([.int a1] : List Value) (xvU r) (xWd G sh sc sr sl) := by
  refine xMet_of (cc := cX5_requireMeasure) (maxL := 1) (ret := none) (by decide) (Nat.le_of_ble_eq_true rfl) ?_
  intro p e s m below meth c F hT hW hr hlocks htab ls hl
  have F : CallFix p m c cX5_requireMeasure 1 s ([.int a1] : List Value).toArray xB RX5 := F
  have hx := F.1
  have hb := F.2.1
  have hS : va_S (xA G) s.heap s.heap [] := va_S.rf
  have hl : lv_has ls 1 [(0, .int a1)] := hl
  unfold fX5_requireMeasure at hf
  refine lv_iload_n hx hb dX5_requireMeasure_0 rfl (lv_at hl 0 rfl) ?_
  refine lv_if_lt (tgt := 9) hx hb dX5_requireMeasure_1 (by decide) (fun c1 => ?_) (fun c1 => ?_)
  · replace hf := if_t c1 hf
    cases hf
    refine xthrowW (cls := "java/lang/IndexOutOfBoundsException") (text := "there is no such measure") (ik := 277) (is := 279) (ic := 281) F hT hW hS hl0 hlocks htab hl.1 xw_362 xw_12 (List.mem_of_getElem? (i := 11) rfl) xh_281 xb_281 (by decide +kernel) xg_281 (Nat.le_of_ble_eq_true rfl) (Nat.le_of_ble_eq_true rfl) (Nat.le_of_ble_eq_true rfl) (Nat.le_of_ble_eq_true rfl) ?_ ?_ (Nat.le_of_ble_eq_true rfl) (Nat.le_of_ble_eq_true rfl) dX5_requireMeasure_9 dX5_requireMeasure_12 dX5_requireMeasure_13 dX5_requireMeasure_16 dX5_requireMeasure_19
    · rfl
    · exact fun H h => h
  · replace hf := if_f c1 hf
    refine lv_iload_n hx hb dX5_requireMeasure_4 rfl (lv_at hl 0 rfl) ?_
    refine lv_iconst (v := 3) hx hb dX5_requireMeasure_5 (by decide) ?_
    refine lv_icmp_lt (tgt := 20) hx hb dX5_requireMeasure_6 (by decide) (fun c2 => ?_) (fun c2 => ?_)
    · replace hf := if_t c2 hf
      cases hf
      exact xret_v F hr hlocks hS rfl hW (Nat.le_of_ble_eq_true rfl) (Nat.le_of_ble_eq_true rfl) dX5_requireMeasure_20
    · replace hf := if_f c2 hf
      cases hf
      refine xthrowW (cls := "java/lang/IndexOutOfBoundsException") (text := "there is no such measure") (ik := 277) (is := 279) (ic := 281) F hT hW hS hl0 hlocks htab hl.1 xw_362 xw_12 (List.mem_of_getElem? (i := 11) rfl) xh_281 xb_281 (by decide +kernel) xg_281 (Nat.le_of_ble_eq_true rfl) (Nat.le_of_ble_eq_true rfl) (Nat.le_of_ble_eq_true rfl) (Nat.le_of_ble_eq_true rfl) ?_ ?_ (Nat.le_of_ble_eq_true rfl) (Nat.le_of_ble_eq_true rfl) dX5_requireMeasure_9 dX5_requireMeasure_12 dX5_requireMeasure_13 dX5_requireMeasure_16 dX5_requireMeasure_19
      · rfl
      · exact fun H h => h
abbrev rX5_served : Room := { frames := 7, cells := 1, slots := 6, locals := 112 }
abbrev zX5_served : List Cond := Cond.code yX5_served cX5_served 7 (some .int) :: xB
theorem xd_X5_served : yX5_served.cls = RX5 ∧ yX5_served.cls ≠ "java/lang/invoke/MethodHandle" ∧ yX5_served.cls ≠ "java/lang/invoke/VarHandle" ∧ (parseMethodDescriptor yX5_served.desc).map (fun d => d.parameters.length) = some 1 := by decide +kernel
def fX5_served_K1 (x2L1 : Int32) (x5L1 : Int32) : Option (String ⊕ Int32) := some (Sum.inr x2L1)
def fX5_served_L1 (nT : Nat) (a1 : Int32) (sc : xSC) (k_L1 : Int32 → Int32 → Option (String ⊕ Int32)) : Nat → Int32 → Int32 → Option (String ⊕ Int32)
  | 0, _, _ => none
  | n + 1, x2L1, x5L1 => (if 6 ≤ x5L1 then k_L1 x2L1 x5L1 else oG (xinb x5L1 6) (oN (xel nT x5L1) ((fX5_served_L1 nT a1 sc k_L1 n) x2L1 (x5L1 + 1)) (fun jq5 => (if (sc.1 11 jq5 3) = a1 then (fX5_served_L1 nT a1 sc k_L1 n) (x2L1 + 1) (x5L1 + 1) else (fX5_served_L1 nT a1 sc k_L1 n) x2L1 (x5L1 + 1)))))
def fX5_served (nS : Nat) (nT : Nat) (a1 : Int32) (sc : xSC) : Option (String ⊕ Int32) := oT (fX5_knownShard nS nT a1 sc) (fun E11 => some (Sum.inl E11)) (fun v1 => oG (decide (v1 < nS)) (fX5_served_L1 nT a1 sc (fX5_served_K1) 64 0 0))
set_option maxHeartbeats 4000000 in
set_option maxRecDepth 100000 in
theorem kX5_served (l : Launch) (hl0 : l.stackTraces = false) (G : xG) (sh : xSh) (sc : xSC) (sr : xSR) (sl : xSL) (a1 : Int32) (r : (String ⊕ Int32)) (hf : fX5_served sh.2.1 sh.2.2 a1 sc = some r) : xMet l yX5_served zX5_served rX5_served G sh sc sr sl ([.ref (sh.1 0 0), .int a1] : List Value) (xvI r) (xWd G sh sc sr sl) := by
  refine xMet_of (cc := cX5_served) (maxL := 7) (ret := (some .int)) (by decide) (Nat.le_of_ble_eq_true rfl) ?_
  intro p e s m below meth c F hT hW hr hlocks htab ls hl
  have F : CallFix p m c cX5_served 7 s ([.ref (sh.1 0 0), .int a1] : List Value).toArray xB RX5 := F
  have hx := F.1
  have hb := F.2.1
  have hS : va_S (xA G) s.heap s.heap [] := va_S.rf
  have hl : lv_has ls 7 [(0, .ref (sh.1 0 0)), (1, .int a1)] := hl
  unfold fX5_served at hf
  refine lv_aload_n hx hb dX5_served_0 rfl (lv_at hl 0 rfl) ?_
  refine lv_iload_n hx hb dX5_served_1 rfl (lv_at hl 1 rfl) ?_
  rcases oT_go hf with ⟨v1, hc10, hf⟩ | ⟨E11, hc10, hf⟩
  · refine xcallV (n := 1) F hT hW hS (xm_fix (by decide)) xce_0 rfl (kX5_knownShard l hl0 G sh sc sr sl a1  _ hc10) (xgV xw_354 xw_356 xwp_2 xw_1 xw_357) rfl xd_X5_knownShard ⟨Nat.le_of_ble_eq_true rfl, Nat.le_of_ble_eq_true rfl⟩ rfl hl.1 rfl (Nat.le_of_ble_eq_true rfl) dX5_served_2 ⟨Nat.le_of_ble_eq_true rfl, Nat.le_of_ble_eq_true rfl⟩ (fun v9 H locs hres hW hS => ?_) (fun E9 H locs q9 ce9 hres => by cases hres)
    cases hres
    refine W.eq (g2 := F0 m 5 ls (.ref (sh.1 4 v1) :: [])) rfl ?_
    obtain ⟨g3, hf⟩ := oG_go hf
    have h2 : v1 < sh.2.1 := of_decide_eq_true g3
    refine lv_pop hx hb dX5_served_5 rfl ?_
    refine lv_iconst (v := 0) hx hb dX5_served_6 (by decide) ?_
    refine lv_istore_n (lv' := [(2, .int 0), (0, .ref (sh.1 0 0)), (1, .int a1)]) hx hb dX5_served_7 rfl hl (by decide) rfl (fun ls hl => ?_)
    refine lv_aload_n hx hb dX5_served_8 rfl (lv_at hl 1 rfl) ?_
    refine xget F hT hW xuX5 (xm_fix (by decide)) xce_0 rfl 1 (by decide) xw_72 rfl rfl dX5_served_9 ?_
    refine lv_astore_n (lv' := [(3, .ref (sh.1 2 0)), (2, .int 0), (0, .ref (sh.1 0 0)), (1, .int a1)]) hx hb dX5_served_12 rfl hl (by decide) rfl (fun ls hl => ?_)
    refine lv_aload_n hx hb dX5_served_13 rfl (lv_at hl 0 rfl) ?_
    refine xalenT F hT hW dX5_served_14 ?_
    refine lv_istore (lv' := [(4, .int 6), (3, .ref (sh.1 2 0)), (2, .int 0), (0, .ref (sh.1 0 0)), (1, .int a1)]) hx hb dX5_served_15 hl (by decide) rfl (fun ls hl => ?_)
    refine lv_iconst (v := 0) hx hb dX5_served_17 (by decide) ?_
    refine lv_istore (lv' := [(5, .int 0), (4, .int 6), (3, .ref (sh.1 2 0)), (2, .int 0), (0, .ref (sh.1 0 0)), (1, .int a1)]) hx hb dX5_served_18 hl (by decide) rfl (fun ls hl => ?_)
    have hx_L1 : ∀ (x2L1 : Int32) (x5L1 : Int32), fX5_served_K1 x2L1 x5L1 = some r → ∀ (H : Heap) (locs : List Loc), xWd G sh sc sr sl H → va_S (xA G) s.heap H locs → ∀ ls : Array Slot, lv_has ls 7 [(2, .int x2L1)] → W p l e rX5_served s m ([.ref (sh.1 0 0), .int a1] : List Value).toArray below meth c H locs 1 6 (xQ below G (xvI r) (xWd G sh sc sr sl) ([.ref (sh.1 0 0), .int a1] : List Value).toArray s 1 6) (F0 m 56 ls []) := by
      intro x2L1 x5L1 hf H locs hW hS ls hl
      unfold fX5_served_K1 at hf
      refine lv_iload_n hx hb dX5_served_56 rfl (lv_at hl 0 rfl) ?_
      cases hf
      exact xret_i (ty := .int) F hr hlocks hS rfl rfl hW (Nat.le_of_ble_eq_true rfl) (Nat.le_of_ble_eq_true rfl) dX5_served_57
    have hL_L1 : ∀ (n9 : Nat) (x2L1 : Int32) (x5L1 : Int32), fX5_served_L1 sh.2.2 a1 sc (fX5_served_K1) n9 x2L1 x5L1 = some r → ∀ (H : Heap) (locs : List Loc), xWd G sh sc sr sl H → va_S (xA G) s.heap H locs → ∀ ls : Array Slot, lv_has ls 7 [(1, .int a1), (2, .int x2L1), (3, .ref (sh.1 2 0)), (4, .int 6), (5, .int x5L1)] → W p l e rX5_served s m ([.ref (sh.1 0 0), .int a1] : List Value).toArray below meth c H locs 1 6 (xQ below G (xvI r) (xWd G sh sc sr sl) ([.ref (sh.1 0 0), .int a1] : List Value).toArray s 1 6) (F0 m 20 ls []) := by
      intro n_L1
      induction n_L1 with
      | zero =>
        intro x2L1 x5L1 hf
        unfold fX5_served_L1 at hf
        cases hf
      | succ n_L1 ih_L1 =>
        intro x2L1 x5L1 hf H locs hW hS ls hl
        unfold fX5_served_L1 at hf
        refine lv_iload hx hb dX5_served_20 (lv_at hl 4 rfl) ?_
        refine lv_iload hx hb dX5_served_22 (lv_at hl 3 rfl) ?_
        refine lv_icmp_ge (tgt := 56) hx hb dX5_served_24 (by decide) (fun c4 => ?_) (fun c4 => ?_)
        · replace hf := if_t c4 hf
          exact hx_L1 _ _ hf _ _ hW hS ls (lv_sub hl [1] rfl)
        · replace hf := if_f c4 hf
          refine lv_aload_n hx hb dX5_served_27 rfl (lv_at hl 2 rfl) ?_
          refine lv_iload hx hb dX5_served_28 (lv_at hl 4 rfl) ?_
          obtain ⟨g7, hf⟩ := oG_go hf
          refine xaldT F hT hW (xinb_ok g7) dX5_served_30 ?_
          rcases o8 : xel sh.2.2 x5L1 with _ | jq5
          · replace hf := oN_0 o8 hf
            refine W.eq (g2 := F0 m 31 ls (.null :: [])) rfl ?_
            refine lv_astoreN (lv' := [(6, .null), (1, .int a1), (2, .int x2L1), (3, .ref (sh.1 2 0)), (4, .int 6), (5, .int x5L1)]) hx hb dX5_served_31 hl (by decide) rfl (fun ls hl => ?_)
            refine lv_aloadN hx hb dX5_served_33 (lv_at hl 0 rfl) ?_
            refine lv_ifnullN (tgt := 50) hx hb dX5_served_35 (by decide) ?_
            refine lv_iinc (v := (x5L1 + 1)) (lv' := [(5, .int (x5L1 + 1)), (6, .null), (1, .int a1), (2, .int x2L1), (3, .ref (sh.1 2 0)), (4, .int 6)]) hx hb dX5_served_50 hl (k := 5) rfl rfl (by decide) rfl (fun ls hl => ?_)
            refine lv_goto (tgt := 20) hx hb dX5_served_53 (by decide) ?_
            exact ih_L1 _ _ hf _ _ hW hS ls (lv_sub hl [2, 3, 4, 5, 0] rfl)
          · replace hf := oN_1 o8 hf
            have h6 : jq5 < sh.2.2 := xel_lt o8
            refine W.eq (g2 := F0 m 31 ls (.ref (sh.1 11 jq5) :: [])) rfl ?_
            refine lv_astore (lv' := [(6, .ref (sh.1 11 jq5)), (1, .int a1), (2, .int x2L1), (3, .ref (sh.1 2 0)), (4, .int 6), (5, .int x5L1)]) hx hb dX5_served_31 hl (by decide) rfl (fun ls hl => ?_)
            refine lv_aload hx hb dX5_served_33 (lv_at hl 0 rfl) ?_
            refine lv_ifnull hx hb dX5_served_35 ?_
            refine lv_aload hx hb dX5_served_38 (lv_at hl 0 rfl) ?_
            refine xgetN (host := "TenantPlacement") F hT hW xuX4 (xm_T h6 (by decide)) xce_11 rfl 3 (by decide) (List.mem_of_getElem? (i := 14) rfl) rfl rfl dX5_served_40 ?_
            refine lv_iload_n hx hb dX5_served_43 rfl (lv_at hl 1 rfl) ?_
            refine lv_icmp_ne (tgt := 50) hx hb dX5_served_44 (by decide) (fun c9 => ?_) (fun c9 => ?_)
            · replace hf := if_f c9 hf
              refine lv_iinc (v := (x5L1 + 1)) (lv' := [(5, .int (x5L1 + 1)), (6, .ref (sh.1 11 jq5)), (1, .int a1), (2, .int x2L1), (3, .ref (sh.1 2 0)), (4, .int 6)]) hx hb dX5_served_50 hl (k := 5) rfl rfl (by decide) rfl (fun ls hl => ?_)
              refine lv_goto (tgt := 20) hx hb dX5_served_53 (by decide) ?_
              exact ih_L1 _ _ hf _ _ hW hS ls (lv_sub hl [2, 3, 4, 5, 0] rfl)
            · replace hf := if_t c9 hf
              refine lv_iinc (v := (x2L1 + 1)) (lv' := [(2, .int (x2L1 + 1)), (6, .ref (sh.1 11 jq5)), (1, .int a1), (3, .ref (sh.1 2 0)), (4, .int 6), (5, .int x5L1)]) hx hb dX5_served_47 hl (k := 2) rfl rfl (by decide) rfl (fun ls hl => ?_)
              refine lv_iinc (v := (x5L1 + 1)) (lv' := [(5, .int (x5L1 + 1)), (2, .int (x2L1 + 1)), (6, .ref (sh.1 11 jq5)), (1, .int a1), (3, .ref (sh.1 2 0)), (4, .int 6)]) hx hb dX5_served_50 hl (k := 5) rfl rfl (by decide) rfl (fun ls hl => ?_)
              refine lv_goto (tgt := 20) hx hb dX5_served_53 (by decide) ?_
              exact ih_L1 _ _ hf _ _ hW hS ls (lv_sub hl [3, 1, 4, 5, 0] rfl)
    exact hL_L1 _ _ _ hf _ _ hW hS ls (lv_sub hl [5, 3, 2, 1, 0] rfl)
  · refine xcallV (n := 1) F hT hW hS (xm_fix (by decide)) xce_0 rfl (kX5_knownShard l hl0 G sh sc sr sl a1  _ hc10) (xgV xw_354 xw_356 xwp_2 xw_1 xw_357) rfl xd_X5_knownShard ⟨Nat.le_of_ble_eq_true rfl, Nat.le_of_ble_eq_true rfl⟩ rfl hl.1 rfl (Nat.le_of_ble_eq_true rfl) dX5_served_2 ⟨Nat.le_of_ble_eq_true rfl, Nat.le_of_ble_eq_true rfl⟩ (fun v9 H locs hres => by cases hres) (fun E9 H locs q9 ce9 hres hW hS hcell hv9 hcl => ?_)
    cases hres
    cases hf
    exact xout htab hlocks hS rfl hW hcell hv9 hcl (Nat.le_of_ble_eq_true rfl) (Nat.le_of_ble_eq_true rfl)
abbrev rX5_servedBy : Room := { frames := 7, cells := 1, slots := 6, locals := 112 }
abbrev zX5_servedBy : List Cond := Cond.code yX5_servedBy cX5_servedBy 2 (some .int) :: xB
theorem xd_X5_servedBy : yX5_servedBy.cls = RX5 ∧ yX5_servedBy.cls ≠ "java/lang/invoke/MethodHandle" ∧ yX5_servedBy.cls ≠ "java/lang/invoke/VarHandle" ∧ (parseMethodDescriptor yX5_servedBy.desc).map (fun d => d.parameters.length) = some 1 := by decide +kernel
def fX5_servedBy (nS : Nat) (nT : Nat) (a1 : Int32) (sc : xSC) : Option (String ⊕ Int32) := oT (fX5_knownTenant nS nT a1 sc) (fun E5 => some (Sum.inl E5)) (fun v1 => oG (decide (v1 < nT)) (some (Sum.inr (sc.1 11 v1 3))))
set_option maxHeartbeats 4000000 in
set_option maxRecDepth 100000 in
theorem kX5_servedBy (l : Launch) (hl0 : l.stackTraces = false) (G : xG) (sh : xSh) (sc : xSC) (sr : xSR) (sl : xSL) (a1 : Int32) (r : (String ⊕ Int32)) (hf : fX5_servedBy sh.2.1 sh.2.2 a1 sc = some r) : xMet l yX5_servedBy zX5_servedBy rX5_servedBy G sh sc sr sl ([.ref (sh.1 0 0), .int a1] : List Value) (xvI r) (xWd G sh sc sr sl) := by
  refine xMet_of (cc := cX5_servedBy) (maxL := 2) (ret := (some .int)) (by decide) (Nat.le_of_ble_eq_true rfl) ?_
  intro p e s m below meth c F hT hW hr hlocks htab ls hl
  have F : CallFix p m c cX5_servedBy 2 s ([.ref (sh.1 0 0), .int a1] : List Value).toArray xB RX5 := F
  have hx := F.1
  have hb := F.2.1
  have hS : va_S (xA G) s.heap s.heap [] := va_S.rf
  have hl : lv_has ls 2 [(0, .ref (sh.1 0 0)), (1, .int a1)] := hl
  unfold fX5_servedBy at hf
  refine lv_aload_n hx hb dX5_servedBy_0 rfl (lv_at hl 0 rfl) ?_
  refine lv_iload_n hx hb dX5_servedBy_1 rfl (lv_at hl 1 rfl) ?_
  rcases oT_go hf with ⟨v1, hc4, hf⟩ | ⟨E5, hc4, hf⟩
  · refine xcallV (n := 1) F hT hW hS (xm_fix (by decide)) xce_0 rfl (kX5_knownTenant l hl0 G sh sc sr sl a1  _ hc4) (xgV xw_497 xw_499 xwp_5 xw_1 xw_500) rfl xd_X5_knownTenant ⟨Nat.le_of_ble_eq_true rfl, Nat.le_of_ble_eq_true rfl⟩ rfl hl.1 rfl (Nat.le_of_ble_eq_true rfl) dX5_servedBy_2 ⟨Nat.le_of_ble_eq_true rfl, Nat.le_of_ble_eq_true rfl⟩ (fun v9 H locs hres hW hS => ?_) (fun E9 H locs q9 ce9 hres => by cases hres)
    cases hres
    refine W.eq (g2 := F0 m 5 ls (.ref (sh.1 11 v1) :: [])) rfl ?_
    obtain ⟨g3, hf⟩ := oG_go hf
    have h2 : v1 < sh.2.2 := of_decide_eq_true g3
    refine xgetN (host := "TenantPlacement") F hT hW xuX4 (xm_T h2 (by decide)) xce_11 rfl 3 (by decide) (List.mem_of_getElem? (i := 14) rfl) rfl rfl dX5_servedBy_5 ?_
    cases hf
    exact xret_i (ty := .int) F hr hlocks hS rfl rfl hW (Nat.le_of_ble_eq_true rfl) (Nat.le_of_ble_eq_true rfl) dX5_servedBy_8
  · refine xcallV (n := 1) F hT hW hS (xm_fix (by decide)) xce_0 rfl (kX5_knownTenant l hl0 G sh sc sr sl a1  _ hc4) (xgV xw_497 xw_499 xwp_5 xw_1 xw_500) rfl xd_X5_knownTenant ⟨Nat.le_of_ble_eq_true rfl, Nat.le_of_ble_eq_true rfl⟩ rfl hl.1 rfl (Nat.le_of_ble_eq_true rfl) dX5_servedBy_2 ⟨Nat.le_of_ble_eq_true rfl, Nat.le_of_ble_eq_true rfl⟩ (fun v9 H locs hres => by cases hres) (fun E9 H locs q9 ce9 hres hW hS hcell hv9 hcl => ?_)
    cases hres
    cases hf
    exact xout htab hlocks hS rfl hW hcell hv9 hcl (Nat.le_of_ble_eq_true rfl) (Nat.le_of_ble_eq_true rfl)
abbrev rX5_setLimit : Room := { frames := 7, cells := 3, slots := 18, locals := 112 }
abbrev zX5_setLimit : List Cond := Cond.code yX5_setLimit cX5_setLimit 6 (some .int) :: xB
theorem xd_X5_setLimit : yX5_setLimit.cls = RX5 ∧ yX5_setLimit.cls ≠ "java/lang/invoke/MethodHandle" ∧ yX5_setLimit.cls ≠ "java/lang/invoke/VarHandle" ∧ (parseMethodDescriptor yX5_setLimit.desc).map (fun d => d.parameters.length) = some 3 := by decide +kernel
def fX5_setLimit (nS : Nat) (nT : Nat) (a1 : Int32) (a2 : Int32) (a3 : Int32) (sc : xSC) : Option ((String ⊕ Int32) × xSC) := oT (fX5_knownShard nS nT a1 sc) (fun E16 => some ((Sum.inl E16), sc)) (fun v1 => oG (decide (v1 < nS)) (oT (fX5_requireMeasure nS nT a2 sc) (fun E14 => some ((Sum.inl E14), sc)) (fun v4 => oT (fX5_requireRange nS nT a3 1 300 sc) (fun E12 => some ((Sum.inl E12), sc)) (fun v5 => oB (fX0_of nS nT 5 v1 a2 sc) (fun v6 => oP (fX0_put nS nT 5 v1 a2 a3 sc) (fun v7 s8 => some ((Sum.inr v6), s8)))))))
set_option maxHeartbeats 4000000 in
set_option maxRecDepth 100000 in
theorem kX5_setLimit (l : Launch) (hl0 : l.stackTraces = false) (G : xG) (sh : xSh) (sc : xSC) (sr : xSR) (sl : xSL) (a1 : Int32) (a2 : Int32) (a3 : Int32) (r : ((String ⊕ Int32) × xSC)) (hf : fX5_setLimit sh.2.1 sh.2.2 a1 a2 a3 sc = some r) : xMet l yX5_setLimit zX5_setLimit rX5_setLimit G sh sc sr sl ([.ref (sh.1 0 0), .int a1, .int a2, .int a3] : List Value) (xvI r.1) (xWd G sh r.2 sr sl) := by
  refine xMet_of (cc := cX5_setLimit) (maxL := 6) (ret := (some .int)) (by decide) (Nat.le_of_ble_eq_true rfl) ?_
  intro p e s m below meth c F hT hW hr hlocks htab ls hl
  have F : CallFix p m c cX5_setLimit 6 s ([.ref (sh.1 0 0), .int a1, .int a2, .int a3] : List Value).toArray xB RX5 := F
  have hx := F.1
  have hb := F.2.1
  have hS : va_S (xA G) s.heap s.heap [] := va_S.rf
  have hl : lv_has ls 6 [(0, .ref (sh.1 0 0)), (1, .int a1), (2, .int a2), (3, .int a3)] := hl
  unfold fX5_setLimit at hf
  refine lv_aload_n hx hb dX5_setLimit_0 rfl (lv_at hl 0 rfl) ?_
  refine lv_iload_n hx hb dX5_setLimit_1 rfl (lv_at hl 1 rfl) ?_
  rcases oT_go hf with ⟨v1, hc15, hf⟩ | ⟨E16, hc15, hf⟩
  · refine xcallV (n := 1) F hT hW hS (xm_fix (by decide)) xce_0 rfl (kX5_knownShard l hl0 G sh sc sr sl a1  _ hc15) (xgV xw_354 xw_356 xwp_2 xw_1 xw_357) rfl xd_X5_knownShard ⟨Nat.le_of_ble_eq_true rfl, Nat.le_of_ble_eq_true rfl⟩ rfl hl.1 rfl (Nat.le_of_ble_eq_true rfl) dX5_setLimit_2 ⟨Nat.le_of_ble_eq_true rfl, Nat.le_of_ble_eq_true rfl⟩ (fun v9 H locs hres hW hS => ?_) (fun E9 H locs q9 ce9 hres => by cases hres)
    cases hres
    refine W.eq (g2 := F0 m 5 ls (.ref (sh.1 4 v1) :: [])) rfl ?_
    obtain ⟨g3, hf⟩ := oG_go hf
    have h2 : v1 < sh.2.1 := of_decide_eq_true g3
    refine lv_astore (lv' := [(4, .ref (sh.1 4 v1)), (0, .ref (sh.1 0 0)), (1, .int a1), (2, .int a2), (3, .int a3)]) hx hb dX5_setLimit_5 hl (by decide) rfl (fun ls hl => ?_)
    refine lv_iload_n hx hb dX5_setLimit_7 rfl (lv_at hl 3 rfl) ?_
    rcases oT_go hf with ⟨v4, hc13, hf⟩ | ⟨E14, hc13, hf⟩
    · refine xcallS (n := 1) F hT hW hS (kX5_requireMeasure l hl0 G sh sc sr sl a2  _ hc13) (xgS xw_382 xw_383 xw_1 xw_384) rfl xd_X5_requireMeasure.2 ⟨Nat.le_of_ble_eq_true rfl, Nat.le_of_ble_eq_true rfl⟩ rfl hl.1 rfl (Nat.le_of_ble_eq_true rfl) dX5_setLimit_8 ⟨Nat.le_of_ble_eq_true rfl, Nat.le_of_ble_eq_true rfl⟩ (fun v9 H locs hres hW hS => ?_) (fun E9 H locs q9 ce9 hres => by cases hres)
      cases hres
      refine W.eq (g2 := F0 m 11 ls ([])) rfl ?_
      refine lv_iload_n hx hb dX5_setLimit_11 rfl (lv_at hl 4 rfl) ?_
      refine lv_iconst (v := 1) hx hb dX5_setLimit_12 (by decide) ?_
      refine lv_sipush (v := 300) hx hb dX5_setLimit_13 (by decide) ?_
      rcases oT_go hf with ⟨v5, hc11, hf⟩ | ⟨E12, hc11, hf⟩
      · refine xcallS (n := 3) F hT hW hS (kX5_requireRange l hl0 G sh sc sr sl a3 1 300  _ hc11) (xgS xw_185 xw_186 xw_1 xw_187) rfl xd_X5_requireRange.2 ⟨Nat.le_of_ble_eq_true rfl, Nat.le_of_ble_eq_true rfl⟩ rfl hl.1 rfl (Nat.le_of_ble_eq_true rfl) dX5_setLimit_16 ⟨Nat.le_of_ble_eq_true rfl, Nat.le_of_ble_eq_true rfl⟩ (fun v9 H locs hres hW hS => ?_) (fun E9 H locs q9 ce9 hres => by cases hres)
        cases hres
        refine W.eq (g2 := F0 m 19 ls ([])) rfl ?_
        refine lv_aload hx hb dX5_setLimit_19 (lv_at hl 0 rfl) ?_
        refine xgetN (host := "TenantPlacement") F hT hW xuX3 (xm_S h2 (by decide)) xce_4 rfl 0 (by decide) (List.mem_of_getElem? (i := 28) rfl) rfl rfl dX5_setLimit_21 ?_
        refine lv_iload_n hx hb dX5_setLimit_24 rfl (lv_at hl 3 rfl) ?_
        obtain ⟨v6, hc10, hf⟩ := oB_go hf
        refine xcallV (n := 1) F hT hW hS (xm_S h2 (by decide)) (xce_am (by decide)) rfl (kX0_of l hl0 G sh sc sr sl 5 v1 a2 (by decide) (xm_S h2 (by decide)) _ hc10) (xgV xw_386 xw_387 xw_388 xw_11 xw_389) rfl xd_X0_of ⟨Nat.le_of_ble_eq_true rfl, Nat.le_of_ble_eq_true rfl⟩ rfl hl.1 rfl (Nat.le_of_ble_eq_true rfl) dX5_setLimit_25 ⟨Nat.le_of_ble_eq_true rfl, Nat.le_of_ble_eq_true rfl⟩ (fun v9 H locs hres hW hS => ?_) (fun E9 H locs q9 ce9 hres => by cases hres)
        cases hres
        refine W.eq (g2 := F0 m 28 ls (.int v6 :: [])) rfl ?_
        refine lv_istore (lv' := [(5, .int v6), (4, .ref (sh.1 4 v1)), (0, .ref (sh.1 0 0)), (1, .int a1), (2, .int a2), (3, .int a3)]) hx hb dX5_setLimit_28 hl (by decide) rfl (fun ls hl => ?_)
        refine lv_aload hx hb dX5_setLimit_30 (lv_at hl 1 rfl) ?_
        refine xgetN (host := "TenantPlacement") F hT hW xuX3 (xm_S h2 (by decide)) xce_4 rfl 0 (by decide) (List.mem_of_getElem? (i := 28) rfl) rfl rfl dX5_setLimit_32 ?_
        refine lv_iload_n hx hb dX5_setLimit_35 rfl (lv_at hl 4 rfl) ?_
        refine lv_iload_n hx hb dX5_setLimit_36 rfl (lv_at hl 5 rfl) ?_
        obtain ⟨v7, s8, hc9, hf⟩ := oP_go hf
        refine xcallV (n := 2) F hT hW hS (xm_S h2 (by decide)) (xce_am (by decide)) rfl (kX0_put l hl0 G sh sc sr sl 5 v1 a2 a3 (by decide) (xm_S h2 (by decide)) _ hc9) (xgV xw_390 xw_391 xw_392 xw_11 xw_393) rfl xd_X0_put ⟨Nat.le_of_ble_eq_true rfl, Nat.le_of_ble_eq_true rfl⟩ rfl hl.1 rfl (Nat.le_of_ble_eq_true rfl) dX5_setLimit_37 ⟨Nat.le_of_ble_eq_true rfl, Nat.le_of_ble_eq_true rfl⟩ (fun v9 H locs hres hW hS => ?_) (fun E9 H locs q9 ce9 hres => by cases hres)
        cases hres
        refine W.eq (g2 := F0 m 40 ls ([])) rfl ?_
        refine lv_iload hx hb dX5_setLimit_40 (lv_at hl 0 rfl) ?_
        cases hf
        exact xret_i (ty := .int) F hr hlocks hS rfl rfl hW (Nat.le_of_ble_eq_true rfl) (Nat.le_of_ble_eq_true rfl) dX5_setLimit_42
      · refine xcallS (n := 3) F hT hW hS (kX5_requireRange l hl0 G sh sc sr sl a3 1 300  _ hc11) (xgS xw_185 xw_186 xw_1 xw_187) rfl xd_X5_requireRange.2 ⟨Nat.le_of_ble_eq_true rfl, Nat.le_of_ble_eq_true rfl⟩ rfl hl.1 rfl (Nat.le_of_ble_eq_true rfl) dX5_setLimit_16 ⟨Nat.le_of_ble_eq_true rfl, Nat.le_of_ble_eq_true rfl⟩ (fun v9 H locs hres => by cases hres) (fun E9 H locs q9 ce9 hres hW hS hcell hv9 hcl => ?_)
        cases hres
        cases hf
        exact xout htab hlocks hS rfl hW hcell hv9 hcl (Nat.le_of_ble_eq_true rfl) (Nat.le_of_ble_eq_true rfl)
    · refine xcallS (n := 1) F hT hW hS (kX5_requireMeasure l hl0 G sh sc sr sl a2  _ hc13) (xgS xw_382 xw_383 xw_1 xw_384) rfl xd_X5_requireMeasure.2 ⟨Nat.le_of_ble_eq_true rfl, Nat.le_of_ble_eq_true rfl⟩ rfl hl.1 rfl (Nat.le_of_ble_eq_true rfl) dX5_setLimit_8 ⟨Nat.le_of_ble_eq_true rfl, Nat.le_of_ble_eq_true rfl⟩ (fun v9 H locs hres => by cases hres) (fun E9 H locs q9 ce9 hres hW hS hcell hv9 hcl => ?_)
      cases hres
      cases hf
      exact xout htab hlocks hS rfl hW hcell hv9 hcl (Nat.le_of_ble_eq_true rfl) (Nat.le_of_ble_eq_true rfl)
  · refine xcallV (n := 1) F hT hW hS (xm_fix (by decide)) xce_0 rfl (kX5_knownShard l hl0 G sh sc sr sl a1  _ hc15) (xgV xw_354 xw_356 xwp_2 xw_1 xw_357) rfl xd_X5_knownShard ⟨Nat.le_of_ble_eq_true rfl, Nat.le_of_ble_eq_true rfl⟩ rfl hl.1 rfl (Nat.le_of_ble_eq_true rfl) dX5_setLimit_2 ⟨Nat.le_of_ble_eq_true rfl, Nat.le_of_ble_eq_true rfl⟩ (fun v9 H locs hres => by cases hres) (fun E9 H locs q9 ce9 hres hW hS hcell hv9 hcl => ?_)
    cases hres
    cases hf
    exact xout htab hlocks hS rfl hW hcell hv9 hcl (Nat.le_of_ble_eq_true rfl) (Nat.le_of_ble_eq_true rfl)
abbrev rX5_setOpen : Room := { frames := 7, cells := 1, slots := 6, locals := 112 }
abbrev zX5_setOpen : List Cond := Cond.code yX5_setOpen cX5_setOpen 5 (some .boolean) :: xB
theorem xd_X5_setOpen : yX5_setOpen.cls = RX5 ∧ yX5_setOpen.cls ≠ "java/lang/invoke/MethodHandle" ∧ yX5_setOpen.cls ≠ "java/lang/invoke/VarHandle" ∧ (parseMethodDescriptor yX5_setOpen.desc).map (fun d => d.parameters.length) = some 2 := by decide +kernel
def fX5_setOpen (nS : Nat) (nT : Nat) (a1 : Int32) (a2 : Int32) (sc : xSC) : Option ((String ⊕ Int32) × xSC) := oT (fX5_knownShard nS nT a1 sc) (fun E7 => some ((Sum.inl E7), sc)) (fun v1 => oG (decide (v1 < nS)) (oG (xnb .boolean a2) (oG (xnb .boolean (sc.1 4 v1 2)) (some ((Sum.inr (sc.1 4 v1 2)), (xuC sc.1 4 v1 2 a2, sc.2))))))
set_option maxHeartbeats 4000000 in
set_option maxRecDepth 100000 in
theorem kX5_setOpen (l : Launch) (hl0 : l.stackTraces = false) (G : xG) (sh : xSh) (sc : xSC) (sr : xSR) (sl : xSL) (a1 : Int32) (a2 : Int32) (r : ((String ⊕ Int32) × xSC)) (hf : fX5_setOpen sh.2.1 sh.2.2 a1 a2 sc = some r) : xMet l yX5_setOpen zX5_setOpen rX5_setOpen G sh sc sr sl ([.ref (sh.1 0 0), .int a1, .int a2] : List Value) (xvI r.1) (xWd G sh r.2 sr sl) := by
  refine xMet_of (cc := cX5_setOpen) (maxL := 5) (ret := (some .boolean)) (by decide) (Nat.le_of_ble_eq_true rfl) ?_
  intro p e s m below meth c F hT hW hr hlocks htab ls hl
  have F : CallFix p m c cX5_setOpen 5 s ([.ref (sh.1 0 0), .int a1, .int a2] : List Value).toArray xB RX5 := F
  have hx := F.1
  have hb := F.2.1
  have hS : va_S (xA G) s.heap s.heap [] := va_S.rf
  have hl : lv_has ls 5 [(0, .ref (sh.1 0 0)), (1, .int a1), (2, .int a2)] := hl
  unfold fX5_setOpen at hf
  refine lv_aload_n hx hb dX5_setOpen_0 rfl (lv_at hl 0 rfl) ?_
  refine lv_iload_n hx hb dX5_setOpen_1 rfl (lv_at hl 1 rfl) ?_
  rcases oT_go hf with ⟨v1, hc6, hf⟩ | ⟨E7, hc6, hf⟩
  · refine xcallV (n := 1) F hT hW hS (xm_fix (by decide)) xce_0 rfl (kX5_knownShard l hl0 G sh sc sr sl a1  _ hc6) (xgV xw_354 xw_356 xwp_2 xw_1 xw_357) rfl xd_X5_knownShard ⟨Nat.le_of_ble_eq_true rfl, Nat.le_of_ble_eq_true rfl⟩ rfl hl.1 rfl (Nat.le_of_ble_eq_true rfl) dX5_setOpen_2 ⟨Nat.le_of_ble_eq_true rfl, Nat.le_of_ble_eq_true rfl⟩ (fun v9 H locs hres hW hS => ?_) (fun E9 H locs q9 ce9 hres => by cases hres)
    cases hres
    refine W.eq (g2 := F0 m 5 ls (.ref (sh.1 4 v1) :: [])) rfl ?_
    obtain ⟨g3, hf⟩ := oG_go hf
    have h2 : v1 < sh.2.1 := of_decide_eq_true g3
    refine lv_astore_n (lv' := [(3, .ref (sh.1 4 v1)), (0, .ref (sh.1 0 0)), (1, .int a1), (2, .int a2)]) hx hb dX5_setOpen_5 rfl hl (by decide) rfl (fun ls hl => ?_)
    refine lv_aload_n hx hb dX5_setOpen_6 rfl (lv_at hl 0 rfl) ?_
    refine xgetN (host := "TenantPlacement") F hT hW xuX3 (xm_S h2 (by decide)) xce_4 rfl 2 (by decide) (List.mem_of_getElem? (i := 27) rfl) rfl rfl dX5_setOpen_7 ?_
    refine lv_istore (lv' := [(4, .int (sc.1 4 v1 2)), (3, .ref (sh.1 4 v1)), (0, .ref (sh.1 0 0)), (1, .int a1), (2, .int a2)]) hx hb dX5_setOpen_10 hl (by decide) rfl (fun ls hl => ?_)
    refine lv_aload_n hx hb dX5_setOpen_12 rfl (lv_at hl 1 rfl) ?_
    refine lv_iload_n hx hb dX5_setOpen_13 rfl (lv_at hl 4 rfl) ?_
    obtain ⟨g4, hf⟩ := oG_go hf
    refine xputN (host := "TenantPlacement") (ty := .boolean) F hT hW hS xuX3 tyX3 tyX3_ok nmX3 (xm_S h2 (by decide)) xce_4 rfl 2 (by decide) (List.mem_of_getElem? (i := 27) rfl) rfl rfl rfl (xnb_ok g4).1 (xnb_ok g4).2 (Nat.le_of_ble_eq_true rfl) xup_4_2 dX5_setOpen_14 (fun H locs hW hS => ?_)
    refine lv_iload hx hb dX5_setOpen_17 (lv_at hl 0 rfl) ?_
    obtain ⟨g5, hf⟩ := oG_go hf
    cases hf
    exact xret_i (ty := .boolean) F hr hlocks hS (xnb_ok g5).1 rfl hW (Nat.le_of_ble_eq_true rfl) (Nat.le_of_ble_eq_true rfl) dX5_setOpen_19
  · refine xcallV (n := 1) F hT hW hS (xm_fix (by decide)) xce_0 rfl (kX5_knownShard l hl0 G sh sc sr sl a1  _ hc6) (xgV xw_354 xw_356 xwp_2 xw_1 xw_357) rfl xd_X5_knownShard ⟨Nat.le_of_ble_eq_true rfl, Nat.le_of_ble_eq_true rfl⟩ rfl hl.1 rfl (Nat.le_of_ble_eq_true rfl) dX5_setOpen_2 ⟨Nat.le_of_ble_eq_true rfl, Nat.le_of_ble_eq_true rfl⟩ (fun v9 H locs hres => by cases hres) (fun E9 H locs q9 ce9 hres hW hS hcell hv9 hcl => ?_)
    cases hres
    cases hf
    exact xout htab hlocks hS rfl hW hcell hv9 hcl (Nat.le_of_ble_eq_true rfl) (Nat.le_of_ble_eq_true rfl)
abbrev rX5_setSize : Room := { frames := 7, cells := 3, slots := 18, locals := 112 }
abbrev zX5_setSize : List Cond := Cond.code yX5_setSize cX5_setSize 6 (some .int) :: xB
theorem xd_X5_setSize : yX5_setSize.cls = RX5 ∧ yX5_setSize.cls ≠ "java/lang/invoke/MethodHandle" ∧ yX5_setSize.cls ≠ "java/lang/invoke/VarHandle" ∧ (parseMethodDescriptor yX5_setSize.desc).map (fun d => d.parameters.length) = some 3 := by decide +kernel
def fX5_setSize (nS : Nat) (nT : Nat) (a1 : Int32) (a2 : Int32) (a3 : Int32) (sc : xSC) : Option ((String ⊕ Int32) × xSC) := oT (fX5_knownTenant nS nT a1 sc) (fun E22 => some ((Sum.inl E22), sc)) (fun v1 => oG (decide (v1 < nT)) (oT (fX5_requireRange nS nT a2 1 2 sc) (fun E20 => some ((Sum.inl E20), sc)) (fun v4 => oT (fX5_requireRange nS nT a3 1 100 sc) (fun E18 => some ((Sum.inl E18), sc)) (fun v5 => oB (fX0_of nS nT 8 v1 a2 sc) (fun v6 => oP (fX5_countUse nS nT v1 (-1) sc) (fun v7 s8 => oP (fX0_put nS nT 8 v1 a2 a3 s8) (fun v9 s10 => oP (fX5_countUse nS nT v1 1 s10) (fun v11 s12 => some ((Sum.inr v6), s12)))))))))
set_option maxHeartbeats 4000000 in
set_option maxRecDepth 100000 in
theorem kX5_setSize (l : Launch) (hl0 : l.stackTraces = false) (G : xG) (sh : xSh) (sc : xSC) (sr : xSR) (sl : xSL) (a1 : Int32) (a2 : Int32) (a3 : Int32) (r : ((String ⊕ Int32) × xSC)) (hf : fX5_setSize sh.2.1 sh.2.2 a1 a2 a3 sc = some r) : xMet l yX5_setSize zX5_setSize rX5_setSize G sh sc sr sl ([.ref (sh.1 0 0), .int a1, .int a2, .int a3] : List Value) (xvI r.1) (xWd G sh r.2 sr sl) := by
  refine xMet_of (cc := cX5_setSize) (maxL := 6) (ret := (some .int)) (by decide) (Nat.le_of_ble_eq_true rfl) ?_
  intro p e s m below meth c F hT hW hr hlocks htab ls hl
  have F : CallFix p m c cX5_setSize 6 s ([.ref (sh.1 0 0), .int a1, .int a2, .int a3] : List Value).toArray xB RX5 := F
  have hx := F.1
  have hb := F.2.1
  have hS : va_S (xA G) s.heap s.heap [] := va_S.rf
  have hl : lv_has ls 6 [(0, .ref (sh.1 0 0)), (1, .int a1), (2, .int a2), (3, .int a3)] := hl
  unfold fX5_setSize at hf
  refine lv_aload_n hx hb dX5_setSize_0 rfl (lv_at hl 0 rfl) ?_
  refine lv_iload_n hx hb dX5_setSize_1 rfl (lv_at hl 1 rfl) ?_
  rcases oT_go hf with ⟨v1, hc21, hf⟩ | ⟨E22, hc21, hf⟩
  · refine xcallV (n := 1) F hT hW hS (xm_fix (by decide)) xce_0 rfl (kX5_knownTenant l hl0 G sh sc sr sl a1  _ hc21) (xgV xw_497 xw_499 xwp_5 xw_1 xw_500) rfl xd_X5_knownTenant ⟨Nat.le_of_ble_eq_true rfl, Nat.le_of_ble_eq_true rfl⟩ rfl hl.1 rfl (Nat.le_of_ble_eq_true rfl) dX5_setSize_2 ⟨Nat.le_of_ble_eq_true rfl, Nat.le_of_ble_eq_true rfl⟩ (fun v9 H locs hres hW hS => ?_) (fun E9 H locs q9 ce9 hres => by cases hres)
    cases hres
    refine W.eq (g2 := F0 m 5 ls (.ref (sh.1 11 v1) :: [])) rfl ?_
    obtain ⟨g3, hf⟩ := oG_go hf
    have h2 : v1 < sh.2.2 := of_decide_eq_true g3
    refine lv_astore (lv' := [(4, .ref (sh.1 11 v1)), (0, .ref (sh.1 0 0)), (1, .int a1), (2, .int a2), (3, .int a3)]) hx hb dX5_setSize_5 hl (by decide) rfl (fun ls hl => ?_)
    refine lv_iload_n hx hb dX5_setSize_7 rfl (lv_at hl 3 rfl) ?_
    refine lv_iconst (v := 1) hx hb dX5_setSize_8 (by decide) ?_
    refine lv_iconst (v := 2) hx hb dX5_setSize_9 (by decide) ?_
    rcases oT_go hf with ⟨v4, hc19, hf⟩ | ⟨E20, hc19, hf⟩
    · refine xcallS (n := 3) F hT hW hS (kX5_requireRange l hl0 G sh sc sr sl a2 1 2  _ hc19) (xgS xw_185 xw_186 xw_1 xw_187) rfl xd_X5_requireRange.2 ⟨Nat.le_of_ble_eq_true rfl, Nat.le_of_ble_eq_true rfl⟩ rfl hl.1 rfl (Nat.le_of_ble_eq_true rfl) dX5_setSize_10 ⟨Nat.le_of_ble_eq_true rfl, Nat.le_of_ble_eq_true rfl⟩ (fun v9 H locs hres hW hS => ?_) (fun E9 H locs q9 ce9 hres => by cases hres)
      cases hres
      refine W.eq (g2 := F0 m 13 ls ([])) rfl ?_
      refine lv_iload_n hx hb dX5_setSize_13 rfl (lv_at hl 4 rfl) ?_
      refine lv_iconst (v := 1) hx hb dX5_setSize_14 (by decide) ?_
      refine lv_bipush (v := 100) hx hb dX5_setSize_15 (by decide) ?_
      rcases oT_go hf with ⟨v5, hc17, hf⟩ | ⟨E18, hc17, hf⟩
      · refine xcallS (n := 3) F hT hW hS (kX5_requireRange l hl0 G sh sc sr sl a3 1 100  _ hc17) (xgS xw_185 xw_186 xw_1 xw_187) rfl xd_X5_requireRange.2 ⟨Nat.le_of_ble_eq_true rfl, Nat.le_of_ble_eq_true rfl⟩ rfl hl.1 rfl (Nat.le_of_ble_eq_true rfl) dX5_setSize_17 ⟨Nat.le_of_ble_eq_true rfl, Nat.le_of_ble_eq_true rfl⟩ (fun v9 H locs hres hW hS => ?_) (fun E9 H locs q9 ce9 hres => by cases hres)
        cases hres
        refine W.eq (g2 := F0 m 20 ls ([])) rfl ?_
        refine lv_aload hx hb dX5_setSize_20 (lv_at hl 0 rfl) ?_
        refine xgetN (host := "TenantPlacement") F hT hW xuX4 (xm_T h2 (by decide)) xce_11 rfl 0 (by decide) (List.mem_of_getElem? (i := 9) rfl) rfl rfl dX5_setSize_22 ?_
        refine lv_iload_n hx hb dX5_setSize_25 rfl (lv_at hl 3 rfl) ?_
        obtain ⟨v6, hc16, hf⟩ := oB_go hf
        refine xcallV (n := 1) F hT hW hS (xm_T h2 (by decide)) (xce_am (by decide)) rfl (kX0_of l hl0 G sh sc sr sl 8 v1 a2 (by decide) (xm_T h2 (by decide)) _ hc16) (xgV xw_386 xw_387 xw_388 xw_11 xw_389) rfl xd_X0_of ⟨Nat.le_of_ble_eq_true rfl, Nat.le_of_ble_eq_true rfl⟩ rfl hl.1 rfl (Nat.le_of_ble_eq_true rfl) dX5_setSize_26 ⟨Nat.le_of_ble_eq_true rfl, Nat.le_of_ble_eq_true rfl⟩ (fun v9 H locs hres hW hS => ?_) (fun E9 H locs q9 ce9 hres => by cases hres)
        cases hres
        refine W.eq (g2 := F0 m 29 ls (.int v6 :: [])) rfl ?_
        refine lv_istore (lv' := [(5, .int v6), (4, .ref (sh.1 11 v1)), (0, .ref (sh.1 0 0)), (1, .int a1), (2, .int a2), (3, .int a3)]) hx hb dX5_setSize_29 hl (by decide) rfl (fun ls hl => ?_)
        refine lv_aload_n hx hb dX5_setSize_31 rfl (lv_at hl 2 rfl) ?_
        refine lv_aload hx hb dX5_setSize_32 (lv_at hl 1 rfl) ?_
        refine lv_iconst (v := (-1)) hx hb dX5_setSize_34 (by decide) ?_
        obtain ⟨v7, s8, hc15, hf⟩ := oP_go hf
        refine xcallV (n := 2) F hT hW hS (xm_fix (by decide)) xce_0 rfl (kX5_countUse l hl0 G sh sc sr sl v1 (-1) h2 _ hc15) (xgV xw_469 xw_471 xwp_4 xw_1 xw_472) rfl xd_X5_countUse ⟨Nat.le_of_ble_eq_true rfl, Nat.le_of_ble_eq_true rfl⟩ rfl hl.1 rfl (Nat.le_of_ble_eq_true rfl) dX5_setSize_35 ⟨Nat.le_of_ble_eq_true rfl, Nat.le_of_ble_eq_true rfl⟩ (fun v9 H locs hres hW hS => ?_) (fun E9 H locs q9 ce9 hres => by cases hres)
        cases hres
        refine W.eq (g2 := F0 m 38 ls ([])) rfl ?_
        refine lv_aload hx hb dX5_setSize_38 (lv_at hl 1 rfl) ?_
        refine xgetN (host := "TenantPlacement") F hT hW xuX4 (xm_T h2 (by decide)) xce_11 rfl 0 (by decide) (List.mem_of_getElem? (i := 9) rfl) rfl rfl dX5_setSize_40 ?_
        refine lv_iload_n hx hb dX5_setSize_43 rfl (lv_at hl 4 rfl) ?_
        refine lv_iload_n hx hb dX5_setSize_44 rfl (lv_at hl 5 rfl) ?_
        obtain ⟨v9, s10, hc14, hf⟩ := oP_go hf
        refine xcallV (n := 2) F hT hW hS (xm_T h2 (by decide)) (xce_am (by decide)) rfl (kX0_put l hl0 G sh s8 sr sl 8 v1 a2 a3 (by decide) (xm_T h2 (by decide)) _ hc14) (xgV xw_390 xw_391 xw_392 xw_11 xw_393) rfl xd_X0_put ⟨Nat.le_of_ble_eq_true rfl, Nat.le_of_ble_eq_true rfl⟩ rfl hl.1 rfl (Nat.le_of_ble_eq_true rfl) dX5_setSize_45 ⟨Nat.le_of_ble_eq_true rfl, Nat.le_of_ble_eq_true rfl⟩ (fun v9 H locs hres hW hS => ?_) (fun E9 H locs q9 ce9 hres => by cases hres)
        cases hres
        refine W.eq (g2 := F0 m 48 ls ([])) rfl ?_
        refine lv_aload_n hx hb dX5_setSize_48 rfl (lv_at hl 2 rfl) ?_
        refine lv_aload hx hb dX5_setSize_49 (lv_at hl 1 rfl) ?_
        refine lv_iconst (v := 1) hx hb dX5_setSize_51 (by decide) ?_
        obtain ⟨v11, s12, hc13, hf⟩ := oP_go hf
        refine xcallV (n := 2) F hT hW hS (xm_fix (by decide)) xce_0 rfl (kX5_countUse l hl0 G sh s10 sr sl v1 1 h2 _ hc13) (xgV xw_469 xw_471 xwp_4 xw_1 xw_472) rfl xd_X5_countUse ⟨Nat.le_of_ble_eq_true rfl, Nat.le_of_ble_eq_true rfl⟩ rfl hl.1 rfl (Nat.le_of_ble_eq_true rfl) dX5_setSize_52 ⟨Nat.le_of_ble_eq_true rfl, Nat.le_of_ble_eq_true rfl⟩ (fun v9 H locs hres hW hS => ?_) (fun E9 H locs q9 ce9 hres => by cases hres)
        cases hres
        refine W.eq (g2 := F0 m 55 ls ([])) rfl ?_
        refine lv_iload hx hb dX5_setSize_55 (lv_at hl 0 rfl) ?_
        cases hf
        exact xret_i (ty := .int) F hr hlocks hS rfl rfl hW (Nat.le_of_ble_eq_true rfl) (Nat.le_of_ble_eq_true rfl) dX5_setSize_57
      · refine xcallS (n := 3) F hT hW hS (kX5_requireRange l hl0 G sh sc sr sl a3 1 100  _ hc17) (xgS xw_185 xw_186 xw_1 xw_187) rfl xd_X5_requireRange.2 ⟨Nat.le_of_ble_eq_true rfl, Nat.le_of_ble_eq_true rfl⟩ rfl hl.1 rfl (Nat.le_of_ble_eq_true rfl) dX5_setSize_17 ⟨Nat.le_of_ble_eq_true rfl, Nat.le_of_ble_eq_true rfl⟩ (fun v9 H locs hres => by cases hres) (fun E9 H locs q9 ce9 hres hW hS hcell hv9 hcl => ?_)
        cases hres
        cases hf
        exact xout htab hlocks hS rfl hW hcell hv9 hcl (Nat.le_of_ble_eq_true rfl) (Nat.le_of_ble_eq_true rfl)
    · refine xcallS (n := 3) F hT hW hS (kX5_requireRange l hl0 G sh sc sr sl a2 1 2  _ hc19) (xgS xw_185 xw_186 xw_1 xw_187) rfl xd_X5_requireRange.2 ⟨Nat.le_of_ble_eq_true rfl, Nat.le_of_ble_eq_true rfl⟩ rfl hl.1 rfl (Nat.le_of_ble_eq_true rfl) dX5_setSize_10 ⟨Nat.le_of_ble_eq_true rfl, Nat.le_of_ble_eq_true rfl⟩ (fun v9 H locs hres => by cases hres) (fun E9 H locs q9 ce9 hres hW hS hcell hv9 hcl => ?_)
      cases hres
      cases hf
      exact xout htab hlocks hS rfl hW hcell hv9 hcl (Nat.le_of_ble_eq_true rfl) (Nat.le_of_ble_eq_true rfl)
  · refine xcallV (n := 1) F hT hW hS (xm_fix (by decide)) xce_0 rfl (kX5_knownTenant l hl0 G sh sc sr sl a1  _ hc21) (xgV xw_497 xw_499 xwp_5 xw_1 xw_500) rfl xd_X5_knownTenant ⟨Nat.le_of_ble_eq_true rfl, Nat.le_of_ble_eq_true rfl⟩ rfl hl.1 rfl (Nat.le_of_ble_eq_true rfl) dX5_setSize_2 ⟨Nat.le_of_ble_eq_true rfl, Nat.le_of_ble_eq_true rfl⟩ (fun v9 H locs hres => by cases hres) (fun E9 H locs q9 ce9 hres hW hS hcell hv9 hcl => ?_)
    cases hres
    cases hf
    exact xout htab hlocks hS rfl hW hcell hv9 hcl (Nat.le_of_ble_eq_true rfl) (Nat.le_of_ble_eq_true rfl)
abbrev rX5_setWindow : Room := { frames := 7, cells := 3, slots := 18, locals := 112 }
abbrev zX5_setWindow : List Cond := Cond.code yX5_setWindow cX5_setWindow 5 (some .int) :: xB
theorem xd_X5_setWindow : yX5_setWindow.cls = RX5 ∧ yX5_setWindow.cls ≠ "java/lang/invoke/MethodHandle" ∧ yX5_setWindow.cls ≠ "java/lang/invoke/VarHandle" ∧ (parseMethodDescriptor yX5_setWindow.desc).map (fun d => d.parameters.length) = some 3 := by decide +kernel
def fX5_setWindow (nS : Nat) (nT : Nat) (a1 : Int32) (a2 : Int32) (a3 : Int32) (sc : xSC) : Option ((String ⊕ Int32) × xSC) := oT (fX5_knownTenant nS nT a1 sc) (fun E13 => some ((Sum.inl E13), sc)) (fun v1 => oG (decide (v1 < nT)) (oT (fX5_requireRange nS nT a2 0 23 sc) (fun E11 => some ((Sum.inl E11), sc)) (fun v4 => oT (fX5_requireRange nS nT a3 0 23 sc) (fun E9 => some ((Sum.inl E9), sc)) (fun v5 => oB (fX4_windowHours nS nT v1 (xuC (xuC sc.1 11 v1 4 a2, sc.2).1 11 v1 5 a3, (xuC sc.1 11 v1 4 a2, sc.2).2)) (fun v6 => some ((Sum.inr v6), (xuC (xuC sc.1 11 v1 4 a2, sc.2).1 11 v1 5 a3, (xuC sc.1 11 v1 4 a2, sc.2).2)))))))
set_option maxHeartbeats 4000000 in
set_option maxRecDepth 100000 in
theorem kX5_setWindow (l : Launch) (hl0 : l.stackTraces = false) (G : xG) (sh : xSh) (sc : xSC) (sr : xSR) (sl : xSL) (a1 : Int32) (a2 : Int32) (a3 : Int32) (r : ((String ⊕ Int32) × xSC)) (hf : fX5_setWindow sh.2.1 sh.2.2 a1 a2 a3 sc = some r) : xMet l yX5_setWindow zX5_setWindow rX5_setWindow G sh sc sr sl ([.ref (sh.1 0 0), .int a1, .int a2, .int a3] : List Value) (xvI r.1) (xWd G sh r.2 sr sl) := by
  refine xMet_of (cc := cX5_setWindow) (maxL := 5) (ret := (some .int)) (by decide) (Nat.le_of_ble_eq_true rfl) ?_
  intro p e s m below meth c F hT hW hr hlocks htab ls hl
  have F : CallFix p m c cX5_setWindow 5 s ([.ref (sh.1 0 0), .int a1, .int a2, .int a3] : List Value).toArray xB RX5 := F
  have hx := F.1
  have hb := F.2.1
  have hS : va_S (xA G) s.heap s.heap [] := va_S.rf
  have hl : lv_has ls 5 [(0, .ref (sh.1 0 0)), (1, .int a1), (2, .int a2), (3, .int a3)] := hl
  unfold fX5_setWindow at hf
  refine lv_aload_n hx hb dX5_setWindow_0 rfl (lv_at hl 0 rfl) ?_
  refine lv_iload_n hx hb dX5_setWindow_1 rfl (lv_at hl 1 rfl) ?_
  rcases oT_go hf with ⟨v1, hc12, hf⟩ | ⟨E13, hc12, hf⟩
  · refine xcallV (n := 1) F hT hW hS (xm_fix (by decide)) xce_0 rfl (kX5_knownTenant l hl0 G sh sc sr sl a1  _ hc12) (xgV xw_497 xw_499 xwp_5 xw_1 xw_500) rfl xd_X5_knownTenant ⟨Nat.le_of_ble_eq_true rfl, Nat.le_of_ble_eq_true rfl⟩ rfl hl.1 rfl (Nat.le_of_ble_eq_true rfl) dX5_setWindow_2 ⟨Nat.le_of_ble_eq_true rfl, Nat.le_of_ble_eq_true rfl⟩ (fun v9 H locs hres hW hS => ?_) (fun E9 H locs q9 ce9 hres => by cases hres)
    cases hres
    refine W.eq (g2 := F0 m 5 ls (.ref (sh.1 11 v1) :: [])) rfl ?_
    obtain ⟨g3, hf⟩ := oG_go hf
    have h2 : v1 < sh.2.2 := of_decide_eq_true g3
    refine lv_astore (lv' := [(4, .ref (sh.1 11 v1)), (0, .ref (sh.1 0 0)), (1, .int a1), (2, .int a2), (3, .int a3)]) hx hb dX5_setWindow_5 hl (by decide) rfl (fun ls hl => ?_)
    refine lv_iload_n hx hb dX5_setWindow_7 rfl (lv_at hl 3 rfl) ?_
    refine lv_iconst (v := 0) hx hb dX5_setWindow_8 (by decide) ?_
    refine lv_bipush (v := 23) hx hb dX5_setWindow_9 (by decide) ?_
    rcases oT_go hf with ⟨v4, hc10, hf⟩ | ⟨E11, hc10, hf⟩
    · refine xcallS (n := 3) F hT hW hS (kX5_requireRange l hl0 G sh sc sr sl a2 0 23  _ hc10) (xgS xw_185 xw_186 xw_1 xw_187) rfl xd_X5_requireRange.2 ⟨Nat.le_of_ble_eq_true rfl, Nat.le_of_ble_eq_true rfl⟩ rfl hl.1 rfl (Nat.le_of_ble_eq_true rfl) dX5_setWindow_11 ⟨Nat.le_of_ble_eq_true rfl, Nat.le_of_ble_eq_true rfl⟩ (fun v9 H locs hres hW hS => ?_) (fun E9 H locs q9 ce9 hres => by cases hres)
      cases hres
      refine W.eq (g2 := F0 m 14 ls ([])) rfl ?_
      refine lv_iload_n hx hb dX5_setWindow_14 rfl (lv_at hl 4 rfl) ?_
      refine lv_iconst (v := 0) hx hb dX5_setWindow_15 (by decide) ?_
      refine lv_bipush (v := 23) hx hb dX5_setWindow_16 (by decide) ?_
      rcases oT_go hf with ⟨v5, hc8, hf⟩ | ⟨E9, hc8, hf⟩
      · refine xcallS (n := 3) F hT hW hS (kX5_requireRange l hl0 G sh sc sr sl a3 0 23  _ hc8) (xgS xw_185 xw_186 xw_1 xw_187) rfl xd_X5_requireRange.2 ⟨Nat.le_of_ble_eq_true rfl, Nat.le_of_ble_eq_true rfl⟩ rfl hl.1 rfl (Nat.le_of_ble_eq_true rfl) dX5_setWindow_18 ⟨Nat.le_of_ble_eq_true rfl, Nat.le_of_ble_eq_true rfl⟩ (fun v9 H locs hres hW hS => ?_) (fun E9 H locs q9 ce9 hres => by cases hres)
        cases hres
        refine W.eq (g2 := F0 m 21 ls ([])) rfl ?_
        refine lv_aload hx hb dX5_setWindow_21 (lv_at hl 0 rfl) ?_
        refine lv_iload_n hx hb dX5_setWindow_23 rfl (lv_at hl 3 rfl) ?_
        refine xputN (host := "TenantPlacement") (ty := .int) F hT hW hS xuX4 tyX4 tyX4_ok nmX4 (xm_T h2 (by decide)) xce_11 rfl 4 (by decide) (List.mem_of_getElem? (i := 10) rfl) rfl rfl rfl rfl rfl (Nat.le_of_ble_eq_true rfl) xup_11_4 dX5_setWindow_24 (fun H locs hW hS => ?_)
        refine lv_aload hx hb dX5_setWindow_27 (lv_at hl 0 rfl) ?_
        refine lv_iload_n hx hb dX5_setWindow_29 rfl (lv_at hl 4 rfl) ?_
        refine xputN (host := "TenantPlacement") (ty := .int) F hT hW hS xuX4 tyX4 tyX4_ok nmX4 (xm_T h2 (by decide)) xce_11 rfl 5 (by decide) (List.mem_of_getElem? (i := 11) rfl) rfl rfl rfl rfl rfl (Nat.le_of_ble_eq_true rfl) xup_11_5 dX5_setWindow_30 (fun H locs hW hS => ?_)
        refine lv_aload hx hb dX5_setWindow_33 (lv_at hl 0 rfl) ?_
        obtain ⟨v6, hc7, hf⟩ := oB_go hf
        refine xcallV (n := 0) F hT hW hS (xm_T h2 (by decide)) xce_11 rfl (kX4_windowHours l hl0 G sh (xuC (xuC sc.1 11 v1 4 a2, sc.2).1 11 v1 5 a3, (xuC sc.1 11 v1 4 a2, sc.2).2) sr sl v1 h2 _ hc7) (xgV xw_509 xw_510 xw_511 xw_16 xw_512) rfl xd_X4_windowHours ⟨Nat.le_of_ble_eq_true rfl, Nat.le_of_ble_eq_true rfl⟩ rfl hl.1 rfl (Nat.le_of_ble_eq_true rfl) dX5_setWindow_35 ⟨Nat.le_of_ble_eq_true rfl, Nat.le_of_ble_eq_true rfl⟩ (fun v9 H locs hres hW hS => ?_) (fun E9 H locs q9 ce9 hres => by cases hres)
        cases hres
        refine W.eq (g2 := F0 m 38 ls (.int v6 :: [])) rfl ?_
        cases hf
        exact xret_i (ty := .int) F hr hlocks hS rfl rfl hW (Nat.le_of_ble_eq_true rfl) (Nat.le_of_ble_eq_true rfl) dX5_setWindow_38
      · refine xcallS (n := 3) F hT hW hS (kX5_requireRange l hl0 G sh sc sr sl a3 0 23  _ hc8) (xgS xw_185 xw_186 xw_1 xw_187) rfl xd_X5_requireRange.2 ⟨Nat.le_of_ble_eq_true rfl, Nat.le_of_ble_eq_true rfl⟩ rfl hl.1 rfl (Nat.le_of_ble_eq_true rfl) dX5_setWindow_18 ⟨Nat.le_of_ble_eq_true rfl, Nat.le_of_ble_eq_true rfl⟩ (fun v9 H locs hres => by cases hres) (fun E9 H locs q9 ce9 hres hW hS hcell hv9 hcl => ?_)
        cases hres
        cases hf
        exact xout htab hlocks hS rfl hW hcell hv9 hcl (Nat.le_of_ble_eq_true rfl) (Nat.le_of_ble_eq_true rfl)
    · refine xcallS (n := 3) F hT hW hS (kX5_requireRange l hl0 G sh sc sr sl a2 0 23  _ hc10) (xgS xw_185 xw_186 xw_1 xw_187) rfl xd_X5_requireRange.2 ⟨Nat.le_of_ble_eq_true rfl, Nat.le_of_ble_eq_true rfl⟩ rfl hl.1 rfl (Nat.le_of_ble_eq_true rfl) dX5_setWindow_11 ⟨Nat.le_of_ble_eq_true rfl, Nat.le_of_ble_eq_true rfl⟩ (fun v9 H locs hres => by cases hres) (fun E9 H locs q9 ce9 hres hW hS hcell hv9 hcl => ?_)
      cases hres
      cases hf
      exact xout htab hlocks hS rfl hW hcell hv9 hcl (Nat.le_of_ble_eq_true rfl) (Nat.le_of_ble_eq_true rfl)
  · refine xcallV (n := 1) F hT hW hS (xm_fix (by decide)) xce_0 rfl (kX5_knownTenant l hl0 G sh sc sr sl a1  _ hc12) (xgV xw_497 xw_499 xwp_5 xw_1 xw_500) rfl xd_X5_knownTenant ⟨Nat.le_of_ble_eq_true rfl, Nat.le_of_ble_eq_true rfl⟩ rfl hl.1 rfl (Nat.le_of_ble_eq_true rfl) dX5_setWindow_2 ⟨Nat.le_of_ble_eq_true rfl, Nat.le_of_ble_eq_true rfl⟩ (fun v9 H locs hres => by cases hres) (fun E9 H locs q9 ce9 hres hW hS hcell hv9 hcl => ?_)
    cases hres
    cases hf
    exact xout htab hlocks hS rfl hW hcell hv9 hcl (Nat.le_of_ble_eq_true rfl) (Nat.le_of_ble_eq_true rfl)
abbrev rX5_shareOf : Room := { frames := 7, cells := 2, slots := 12, locals := 112 }
abbrev zX5_shareOf : List Cond := Cond.code yX5_shareOf cX5_shareOf 5 (some .float) :: xB
theorem xd_X5_shareOf : yX5_shareOf.cls = RX5 ∧ yX5_shareOf.cls ≠ "java/lang/invoke/MethodHandle" ∧ yX5_shareOf.cls ≠ "java/lang/invoke/VarHandle" ∧ (parseMethodDescriptor yX5_shareOf.desc).map (fun d => d.parameters.length) = some 2 := by decide +kernel
def fX5_shareOf (nS : Nat) (nT : Nat) (a1 : Int32) (a2 : Int32) (sc : xSC) : Option (String ⊕ UInt32) := oT (fX5_knownShard nS nT a1 sc) (fun E14 => some (Sum.inl E14)) (fun v1 => oG (decide (v1 < nS)) (oT (fX5_requireMeasure nS nT a2 sc) (fun E12 => some (Sum.inl E12)) (fun v4 => oB (fX0_of nS nT 5 v1 a2 sc) (fun v5 => (if 1 ≤ v5 then oB (fX0_of nS nT 6 v1 a2 sc) (fun v7 => oG (xn32 (FP.fdiv (FP.i2f v7) (FP.i2f v5))) (some (Sum.inr (FP.fdiv (FP.i2f v7) (FP.i2f v5))))) else some (Sum.inr 0))))))
set_option maxHeartbeats 4000000 in
set_option maxRecDepth 100000 in
theorem kX5_shareOf (l : Launch) (hl0 : l.stackTraces = false) (G : xG) (sh : xSh) (sc : xSC) (sr : xSR) (sl : xSL) (a1 : Int32) (a2 : Int32) (r : (String ⊕ UInt32)) (hf : fX5_shareOf sh.2.1 sh.2.2 a1 a2 sc = some r) : xMet l yX5_shareOf zX5_shareOf rX5_shareOf G sh sc sr sl ([.ref (sh.1 0 0), .int a1, .int a2] : List Value) (xvF r) (xWd G sh sc sr sl) := by
  refine xMet_of (cc := cX5_shareOf) (maxL := 5) (ret := (some .float)) (by decide) (Nat.le_of_ble_eq_true rfl) ?_
  intro p e s m below meth c F hT hW hr hlocks htab ls hl
  have F : CallFix p m c cX5_shareOf 5 s ([.ref (sh.1 0 0), .int a1, .int a2] : List Value).toArray xB RX5 := F
  have hx := F.1
  have hb := F.2.1
  have hS : va_S (xA G) s.heap s.heap [] := va_S.rf
  have hl : lv_has ls 5 [(0, .ref (sh.1 0 0)), (1, .int a1), (2, .int a2)] := hl
  unfold fX5_shareOf at hf
  refine lv_aload_n hx hb dX5_shareOf_0 rfl (lv_at hl 0 rfl) ?_
  refine lv_iload_n hx hb dX5_shareOf_1 rfl (lv_at hl 1 rfl) ?_
  rcases oT_go hf with ⟨v1, hc13, hf⟩ | ⟨E14, hc13, hf⟩
  · refine xcallV (n := 1) F hT hW hS (xm_fix (by decide)) xce_0 rfl (kX5_knownShard l hl0 G sh sc sr sl a1  _ hc13) (xgV xw_354 xw_356 xwp_2 xw_1 xw_357) rfl xd_X5_knownShard ⟨Nat.le_of_ble_eq_true rfl, Nat.le_of_ble_eq_true rfl⟩ rfl hl.1 rfl (Nat.le_of_ble_eq_true rfl) dX5_shareOf_2 ⟨Nat.le_of_ble_eq_true rfl, Nat.le_of_ble_eq_true rfl⟩ (fun v9 H locs hres hW hS => ?_) (fun E9 H locs q9 ce9 hres => by cases hres)
    cases hres
    refine W.eq (g2 := F0 m 5 ls (.ref (sh.1 4 v1) :: [])) rfl ?_
    obtain ⟨g3, hf⟩ := oG_go hf
    have h2 : v1 < sh.2.1 := of_decide_eq_true g3
    refine lv_astore_n (lv' := [(3, .ref (sh.1 4 v1)), (0, .ref (sh.1 0 0)), (1, .int a1), (2, .int a2)]) hx hb dX5_shareOf_5 rfl hl (by decide) rfl (fun ls hl => ?_)
    refine lv_iload_n hx hb dX5_shareOf_6 rfl (lv_at hl 3 rfl) ?_
    rcases oT_go hf with ⟨v4, hc11, hf⟩ | ⟨E12, hc11, hf⟩
    · refine xcallS (n := 1) F hT hW hS (kX5_requireMeasure l hl0 G sh sc sr sl a2  _ hc11) (xgS xw_382 xw_383 xw_1 xw_384) rfl xd_X5_requireMeasure.2 ⟨Nat.le_of_ble_eq_true rfl, Nat.le_of_ble_eq_true rfl⟩ rfl hl.1 rfl (Nat.le_of_ble_eq_true rfl) dX5_shareOf_7 ⟨Nat.le_of_ble_eq_true rfl, Nat.le_of_ble_eq_true rfl⟩ (fun v9 H locs hres hW hS => ?_) (fun E9 H locs q9 ce9 hres => by cases hres)
      cases hres
      refine W.eq (g2 := F0 m 10 ls ([])) rfl ?_
      refine lv_aload_n hx hb dX5_shareOf_10 rfl (lv_at hl 0 rfl) ?_
      refine xgetN (host := "TenantPlacement") F hT hW xuX3 (xm_S h2 (by decide)) xce_4 rfl 0 (by decide) (List.mem_of_getElem? (i := 28) rfl) rfl rfl dX5_shareOf_11 ?_
      refine lv_iload_n hx hb dX5_shareOf_14 rfl (lv_at hl 3 rfl) ?_
      obtain ⟨v5, hc10, hf⟩ := oB_go hf
      refine xcallV (n := 1) F hT hW hS (xm_S h2 (by decide)) (xce_am (by decide)) rfl (kX0_of l hl0 G sh sc sr sl 5 v1 a2 (by decide) (xm_S h2 (by decide)) _ hc10) (xgV xw_386 xw_387 xw_388 xw_11 xw_389) rfl xd_X0_of ⟨Nat.le_of_ble_eq_true rfl, Nat.le_of_ble_eq_true rfl⟩ rfl hl.1 rfl (Nat.le_of_ble_eq_true rfl) dX5_shareOf_15 ⟨Nat.le_of_ble_eq_true rfl, Nat.le_of_ble_eq_true rfl⟩ (fun v9 H locs hres hW hS => ?_) (fun E9 H locs q9 ce9 hres => by cases hres)
      cases hres
      refine W.eq (g2 := F0 m 18 ls (.int v5 :: [])) rfl ?_
      refine lv_istore (lv' := [(4, .int v5), (3, .ref (sh.1 4 v1)), (0, .ref (sh.1 0 0)), (1, .int a1), (2, .int a2)]) hx hb dX5_shareOf_18 hl (by decide) rfl (fun ls hl => ?_)
      refine lv_iload hx hb dX5_shareOf_20 (lv_at hl 0 rfl) ?_
      refine lv_iconst (v := 1) hx hb dX5_shareOf_22 (by decide) ?_
      refine lv_icmp_ge (tgt := 30) hx hb dX5_shareOf_23 (by decide) (fun c6 => ?_) (fun c6 => ?_)
      · replace hf := if_t c6 hf
        refine lv_aload_n hx hb dX5_shareOf_30 rfl (lv_at hl 1 rfl) ?_
        refine xgetN (host := "TenantPlacement") F hT hW xuX3 (xm_S h2 (by decide)) xce_4 rfl 1 (by decide) (List.mem_of_getElem? (i := 21) rfl) rfl rfl dX5_shareOf_31 ?_
        refine lv_iload_n hx hb dX5_shareOf_34 rfl (lv_at hl 4 rfl) ?_
        obtain ⟨v7, hc9, hf⟩ := oB_go hf
        refine xcallV (n := 1) F hT hW hS (xm_S h2 (by decide)) (xce_am (by decide)) rfl (kX0_of l hl0 G sh sc sr sl 6 v1 a2 (by decide) (xm_S h2 (by decide)) _ hc9) (xgV xw_386 xw_387 xw_388 xw_11 xw_389) rfl xd_X0_of ⟨Nat.le_of_ble_eq_true rfl, Nat.le_of_ble_eq_true rfl⟩ rfl hl.1 rfl (Nat.le_of_ble_eq_true rfl) dX5_shareOf_35 ⟨Nat.le_of_ble_eq_true rfl, Nat.le_of_ble_eq_true rfl⟩ (fun v9 H locs hres hW hS => ?_) (fun E9 H locs q9 ce9 hres => by cases hres)
        cases hres
        refine W.eq (g2 := F0 m 38 ls (.int v7 :: [])) rfl ?_
        refine lv_i2f hx hb dX5_shareOf_38 ?_
        refine lv_iload hx hb dX5_shareOf_39 (lv_at hl 0 rfl) ?_
        refine lv_i2f hx hb dX5_shareOf_41 ?_
        obtain ⟨g8, hf⟩ := oG_go hf
        refine lv_fdiv hx hb dX5_shareOf_42 (xn32_ok g8) ?_
        cases hf
        exact xret_f F hr hlocks hS rfl hW (Nat.le_of_ble_eq_true rfl) (Nat.le_of_ble_eq_true rfl) dX5_shareOf_43
      · replace hf := if_f c6 hf
        refine lv_fconst0 hx hb dX5_shareOf_26 ?_
        refine lv_goto (tgt := 43) hx hb dX5_shareOf_27 (by decide) ?_
        cases hf
        exact xret_f F hr hlocks hS rfl hW (Nat.le_of_ble_eq_true rfl) (Nat.le_of_ble_eq_true rfl) dX5_shareOf_43
    · refine xcallS (n := 1) F hT hW hS (kX5_requireMeasure l hl0 G sh sc sr sl a2  _ hc11) (xgS xw_382 xw_383 xw_1 xw_384) rfl xd_X5_requireMeasure.2 ⟨Nat.le_of_ble_eq_true rfl, Nat.le_of_ble_eq_true rfl⟩ rfl hl.1 rfl (Nat.le_of_ble_eq_true rfl) dX5_shareOf_7 ⟨Nat.le_of_ble_eq_true rfl, Nat.le_of_ble_eq_true rfl⟩ (fun v9 H locs hres => by cases hres) (fun E9 H locs q9 ce9 hres hW hS hcell hv9 hcl => ?_)
      cases hres
      cases hf
      exact xout htab hlocks hS rfl hW hcell hv9 hcl (Nat.le_of_ble_eq_true rfl) (Nat.le_of_ble_eq_true rfl)
  · refine xcallV (n := 1) F hT hW hS (xm_fix (by decide)) xce_0 rfl (kX5_knownShard l hl0 G sh sc sr sl a1  _ hc13) (xgV xw_354 xw_356 xwp_2 xw_1 xw_357) rfl xd_X5_knownShard ⟨Nat.le_of_ble_eq_true rfl, Nat.le_of_ble_eq_true rfl⟩ rfl hl.1 rfl (Nat.le_of_ble_eq_true rfl) dX5_shareOf_2 ⟨Nat.le_of_ble_eq_true rfl, Nat.le_of_ble_eq_true rfl⟩ (fun v9 H locs hres => by cases hres) (fun E9 H locs q9 ce9 hres hW hS hcell hv9 hcl => ?_)
    cases hres
    cases hf
    exact xout htab hlocks hS rfl hW hcell hv9 hcl (Nat.le_of_ble_eq_true rfl) (Nat.le_of_ble_eq_true rfl)
abbrev rX5_sizeOf : Room := { frames := 7, cells := 2, slots := 12, locals := 112 }
abbrev zX5_sizeOf : List Cond := Cond.code yX5_sizeOf cX5_sizeOf 4 (some .int) :: xB
theorem xd_X5_sizeOf : yX5_sizeOf.cls = RX5 ∧ yX5_sizeOf.cls ≠ "java/lang/invoke/MethodHandle" ∧ yX5_sizeOf.cls ≠ "java/lang/invoke/VarHandle" ∧ (parseMethodDescriptor yX5_sizeOf.desc).map (fun d => d.parameters.length) = some 2 := by decide +kernel
def fX5_sizeOf (nS : Nat) (nT : Nat) (a1 : Int32) (a2 : Int32) (sc : xSC) : Option (String ⊕ Int32) := oT (fX5_knownTenant nS nT a1 sc) (fun E10 => some (Sum.inl E10)) (fun v1 => oG (decide (v1 < nT)) (oT (fX5_requireMeasure nS nT a2 sc) (fun E8 => some (Sum.inl E8)) (fun v4 => oB (fX0_of nS nT 8 v1 a2 sc) (fun v5 => some (Sum.inr v5)))))
set_option maxHeartbeats 4000000 in
set_option maxRecDepth 100000 in
theorem kX5_sizeOf (l : Launch) (hl0 : l.stackTraces = false) (G : xG) (sh : xSh) (sc : xSC) (sr : xSR) (sl : xSL) (a1 : Int32) (a2 : Int32) (r : (String ⊕ Int32)) (hf : fX5_sizeOf sh.2.1 sh.2.2 a1 a2 sc = some r) : xMet l yX5_sizeOf zX5_sizeOf rX5_sizeOf G sh sc sr sl ([.ref (sh.1 0 0), .int a1, .int a2] : List Value) (xvI r) (xWd G sh sc sr sl) := by
  refine xMet_of (cc := cX5_sizeOf) (maxL := 4) (ret := (some .int)) (by decide) (Nat.le_of_ble_eq_true rfl) ?_
  intro p e s m below meth c F hT hW hr hlocks htab ls hl
  have F : CallFix p m c cX5_sizeOf 4 s ([.ref (sh.1 0 0), .int a1, .int a2] : List Value).toArray xB RX5 := F
  have hx := F.1
  have hb := F.2.1
  have hS : va_S (xA G) s.heap s.heap [] := va_S.rf
  have hl : lv_has ls 4 [(0, .ref (sh.1 0 0)), (1, .int a1), (2, .int a2)] := hl
  unfold fX5_sizeOf at hf
  refine lv_aload_n hx hb dX5_sizeOf_0 rfl (lv_at hl 0 rfl) ?_
  refine lv_iload_n hx hb dX5_sizeOf_1 rfl (lv_at hl 1 rfl) ?_
  rcases oT_go hf with ⟨v1, hc9, hf⟩ | ⟨E10, hc9, hf⟩
  · refine xcallV (n := 1) F hT hW hS (xm_fix (by decide)) xce_0 rfl (kX5_knownTenant l hl0 G sh sc sr sl a1  _ hc9) (xgV xw_497 xw_499 xwp_5 xw_1 xw_500) rfl xd_X5_knownTenant ⟨Nat.le_of_ble_eq_true rfl, Nat.le_of_ble_eq_true rfl⟩ rfl hl.1 rfl (Nat.le_of_ble_eq_true rfl) dX5_sizeOf_2 ⟨Nat.le_of_ble_eq_true rfl, Nat.le_of_ble_eq_true rfl⟩ (fun v9 H locs hres hW hS => ?_) (fun E9 H locs q9 ce9 hres => by cases hres)
    cases hres
    refine W.eq (g2 := F0 m 5 ls (.ref (sh.1 11 v1) :: [])) rfl ?_
    obtain ⟨g3, hf⟩ := oG_go hf
    have h2 : v1 < sh.2.2 := of_decide_eq_true g3
    refine lv_astore_n (lv' := [(3, .ref (sh.1 11 v1)), (0, .ref (sh.1 0 0)), (1, .int a1), (2, .int a2)]) hx hb dX5_sizeOf_5 rfl hl (by decide) rfl (fun ls hl => ?_)
    refine lv_iload_n hx hb dX5_sizeOf_6 rfl (lv_at hl 3 rfl) ?_
    rcases oT_go hf with ⟨v4, hc7, hf⟩ | ⟨E8, hc7, hf⟩
    · refine xcallS (n := 1) F hT hW hS (kX5_requireMeasure l hl0 G sh sc sr sl a2  _ hc7) (xgS xw_382 xw_383 xw_1 xw_384) rfl xd_X5_requireMeasure.2 ⟨Nat.le_of_ble_eq_true rfl, Nat.le_of_ble_eq_true rfl⟩ rfl hl.1 rfl (Nat.le_of_ble_eq_true rfl) dX5_sizeOf_7 ⟨Nat.le_of_ble_eq_true rfl, Nat.le_of_ble_eq_true rfl⟩ (fun v9 H locs hres hW hS => ?_) (fun E9 H locs q9 ce9 hres => by cases hres)
      cases hres
      refine W.eq (g2 := F0 m 10 ls ([])) rfl ?_
      refine lv_aload_n hx hb dX5_sizeOf_10 rfl (lv_at hl 0 rfl) ?_
      refine xgetN (host := "TenantPlacement") F hT hW xuX4 (xm_T h2 (by decide)) xce_11 rfl 0 (by decide) (List.mem_of_getElem? (i := 9) rfl) rfl rfl dX5_sizeOf_11 ?_
      refine lv_iload_n hx hb dX5_sizeOf_14 rfl (lv_at hl 3 rfl) ?_
      obtain ⟨v5, hc6, hf⟩ := oB_go hf
      refine xcallV (n := 1) F hT hW hS (xm_T h2 (by decide)) (xce_am (by decide)) rfl (kX0_of l hl0 G sh sc sr sl 8 v1 a2 (by decide) (xm_T h2 (by decide)) _ hc6) (xgV xw_386 xw_387 xw_388 xw_11 xw_389) rfl xd_X0_of ⟨Nat.le_of_ble_eq_true rfl, Nat.le_of_ble_eq_true rfl⟩ rfl hl.1 rfl (Nat.le_of_ble_eq_true rfl) dX5_sizeOf_15 ⟨Nat.le_of_ble_eq_true rfl, Nat.le_of_ble_eq_true rfl⟩ (fun v9 H locs hres hW hS => ?_) (fun E9 H locs q9 ce9 hres => by cases hres)
      cases hres
      refine W.eq (g2 := F0 m 18 ls (.int v5 :: [])) rfl ?_
      cases hf
      exact xret_i (ty := .int) F hr hlocks hS rfl rfl hW (Nat.le_of_ble_eq_true rfl) (Nat.le_of_ble_eq_true rfl) dX5_sizeOf_18
    · refine xcallS (n := 1) F hT hW hS (kX5_requireMeasure l hl0 G sh sc sr sl a2  _ hc7) (xgS xw_382 xw_383 xw_1 xw_384) rfl xd_X5_requireMeasure.2 ⟨Nat.le_of_ble_eq_true rfl, Nat.le_of_ble_eq_true rfl⟩ rfl hl.1 rfl (Nat.le_of_ble_eq_true rfl) dX5_sizeOf_7 ⟨Nat.le_of_ble_eq_true rfl, Nat.le_of_ble_eq_true rfl⟩ (fun v9 H locs hres => by cases hres) (fun E9 H locs q9 ce9 hres hW hS hcell hv9 hcl => ?_)
      cases hres
      cases hf
      exact xout htab hlocks hS rfl hW hcell hv9 hcl (Nat.le_of_ble_eq_true rfl) (Nat.le_of_ble_eq_true rfl)
  · refine xcallV (n := 1) F hT hW hS (xm_fix (by decide)) xce_0 rfl (kX5_knownTenant l hl0 G sh sc sr sl a1  _ hc9) (xgV xw_497 xw_499 xwp_5 xw_1 xw_500) rfl xd_X5_knownTenant ⟨Nat.le_of_ble_eq_true rfl, Nat.le_of_ble_eq_true rfl⟩ rfl hl.1 rfl (Nat.le_of_ble_eq_true rfl) dX5_sizeOf_2 ⟨Nat.le_of_ble_eq_true rfl, Nat.le_of_ble_eq_true rfl⟩ (fun v9 H locs hres => by cases hres) (fun E9 H locs q9 ce9 hres hW hS hcell hv9 hcl => ?_)
    cases hres
    cases hf
    exact xout htab hlocks hS rfl hW hcell hv9 hcl (Nat.le_of_ble_eq_true rfl) (Nat.le_of_ble_eq_true rfl)
abbrev rX5_switches : Room := { frames := 0, cells := 0, slots := 0, locals := 0 }
abbrev zX5_switches : List Cond := Cond.code yX5_switches cX5_switches 1 (some .int) :: xB
theorem xd_X5_switches : yX5_switches.cls = RX5 ∧ yX5_switches.cls ≠ "java/lang/invoke/MethodHandle" ∧ yX5_switches.cls ≠ "java/lang/invoke/VarHandle" ∧ (parseMethodDescriptor yX5_switches.desc).map (fun d => d.parameters.length) = some 0 := by decide +kernel
def fX5_switches (nS : Nat) (nT : Nat) (sc : xSC) : Option Int32 := some (sc.1 0 0 6)
set_option maxHeartbeats 4000000 in
set_option maxRecDepth 100000 in
theorem kX5_switches (l : Launch) (hl0 : l.stackTraces = false) (G : xG) (sh : xSh) (sc : xSC) (sr : xSR) (sl : xSL) (r : Int32) (hf : fX5_switches sh.2.1 sh.2.2 sc = some r) : xMet l yX5_switches zX5_switches rX5_switches G sh sc sr sl ([.ref (sh.1 0 0)] : List Value) (xvI (.inr r)) (xWd G sh sc sr sl) := by
  refine xMet_of (cc := cX5_switches) (maxL := 1) (ret := (some .int)) (by decide) (Nat.le_of_ble_eq_true rfl) ?_
  intro p e s m below meth c F hT hW hr hlocks htab ls hl
  have F : CallFix p m c cX5_switches 1 s ([.ref (sh.1 0 0)] : List Value).toArray xB RX5 := F
  have hx := F.1
  have hb := F.2.1
  have hS : va_S (xA G) s.heap s.heap [] := va_S.rf
  have hl : lv_has ls 1 [(0, .ref (sh.1 0 0))] := hl
  unfold fX5_switches at hf
  refine lv_aload_n hx hb dX5_switches_0 rfl (lv_at hl 0 rfl) ?_
  refine xget F hT hW xuX5 (xm_fix (by decide)) xce_0 rfl 6 (by decide) xw_77 rfl rfl dX5_switches_1 ?_
  cases hf
  exact xret_i (ty := .int) F hr hlocks hS rfl rfl hW (Nat.le_of_ble_eq_true rfl) (Nat.le_of_ble_eq_true rfl) dX5_switches_4
abbrev rX5_targetOf : Room := { frames := 8, cells := 2, slots := 12, locals := 134 }
abbrev zX5_targetOf : List Cond := Cond.code yX5_targetOf cX5_targetOf 2 (some .int) :: xB
theorem xd_X5_targetOf : yX5_targetOf.cls = RX5 ∧ yX5_targetOf.cls ≠ "java/lang/invoke/MethodHandle" ∧ yX5_targetOf.cls ≠ "java/lang/invoke/VarHandle" ∧ (parseMethodDescriptor yX5_targetOf.desc).map (fun d => d.parameters.length) = some 1 := by decide +kernel
def fX5_targetOf (nS : Nat) (nT : Nat) (a1 : Int32) (sc : xSC) : Option (String ⊕ Int32) := oT (fX5_movingTenant nS nT a1 sc) (fun E5 => some (Sum.inl E5)) (fun v1 => oG (decide (v1 < nT)) (some (Sum.inr (sc.1 9 v1 2))))
set_option maxHeartbeats 4000000 in
set_option maxRecDepth 100000 in
theorem kX5_targetOf (l : Launch) (hl0 : l.stackTraces = false) (G : xG) (sh : xSh) (sc : xSC) (sr : xSR) (sl : xSL) (a1 : Int32) (r : (String ⊕ Int32)) (hf : fX5_targetOf sh.2.1 sh.2.2 a1 sc = some r) : xMet l yX5_targetOf zX5_targetOf rX5_targetOf G sh sc sr sl ([.ref (sh.1 0 0), .int a1] : List Value) (xvI r) (xWd G sh sc sr sl) := by
  refine xMet_of (cc := cX5_targetOf) (maxL := 2) (ret := (some .int)) (by decide) (Nat.le_of_ble_eq_true rfl) ?_
  intro p e s m below meth c F hT hW hr hlocks htab ls hl
  have F : CallFix p m c cX5_targetOf 2 s ([.ref (sh.1 0 0), .int a1] : List Value).toArray xB RX5 := F
  have hx := F.1
  have hb := F.2.1
  have hS : va_S (xA G) s.heap s.heap [] := va_S.rf
  have hl : lv_has ls 2 [(0, .ref (sh.1 0 0)), (1, .int a1)] := hl
  unfold fX5_targetOf at hf
  refine lv_aload_n hx hb dX5_targetOf_0 rfl (lv_at hl 0 rfl) ?_
  refine lv_iload_n hx hb dX5_targetOf_1 rfl (lv_at hl 1 rfl) ?_
  rcases oT_go hf with ⟨v1, hc4, hf⟩ | ⟨E5, hc4, hf⟩
  · refine xcallV (n := 1) F hT hW hS (xm_fix (by decide)) xce_0 rfl (kX5_movingTenant l hl0 G sh sc sr sl a1  _ hc4) (xgV xw_647 xw_649 xwp_13 xw_1 xw_650) rfl xd_X5_movingTenant ⟨Nat.le_of_ble_eq_true rfl, Nat.le_of_ble_eq_true rfl⟩ rfl hl.1 rfl (Nat.le_of_ble_eq_true rfl) dX5_targetOf_2 ⟨Nat.le_of_ble_eq_true rfl, Nat.le_of_ble_eq_true rfl⟩ (fun v9 H locs hres hW hS => ?_) (fun E9 H locs q9 ce9 hres => by cases hres)
    cases hres
    refine W.eq (g2 := F0 m 5 ls (.ref (sh.1 11 v1) :: [])) rfl ?_
    obtain ⟨g3, hf⟩ := oG_go hf
    have h2 : v1 < sh.2.2 := of_decide_eq_true g3
    refine xgetN (host := "TenantPlacement") F hT hW xuX4 (xm_T h2 (by decide)) xce_11 rfl 2 (by decide) (List.mem_of_getElem? (i := 13) rfl) rfl rfl dX5_targetOf_5 ?_
    refine xgetN (host := "TenantPlacement") F hT hW xuX1 (xm_T h2 (by decide)) (xce_mv (by decide)) rfl 2 (by decide) (List.mem_of_getElem? (i := 19) rfl) rfl rfl dX5_targetOf_8 ?_
    cases hf
    exact xret_i (ty := .int) F hr hlocks hS rfl rfl hW (Nat.le_of_ble_eq_true rfl) (Nat.le_of_ble_eq_true rfl) dX5_targetOf_11
  · refine xcallV (n := 1) F hT hW hS (xm_fix (by decide)) xce_0 rfl (kX5_movingTenant l hl0 G sh sc sr sl a1  _ hc4) (xgV xw_647 xw_649 xwp_13 xw_1 xw_650) rfl xd_X5_movingTenant ⟨Nat.le_of_ble_eq_true rfl, Nat.le_of_ble_eq_true rfl⟩ rfl hl.1 rfl (Nat.le_of_ble_eq_true rfl) dX5_targetOf_2 ⟨Nat.le_of_ble_eq_true rfl, Nat.le_of_ble_eq_true rfl⟩ (fun v9 H locs hres => by cases hres) (fun E9 H locs q9 ce9 hres hW hS hcell hv9 hcl => ?_)
    cases hres
    cases hf
    exact xout htab hlocks hS rfl hW hcell hv9 hcl (Nat.le_of_ble_eq_true rfl) (Nat.le_of_ble_eq_true rfl)
abbrev rX5_time : Room := { frames := 0, cells := 0, slots := 0, locals := 0 }
abbrev zX5_time : List Cond := Cond.code yX5_time cX5_time 1 (some .int) :: xB
theorem xd_X5_time : yX5_time.cls = RX5 ∧ yX5_time.cls ≠ "java/lang/invoke/MethodHandle" ∧ yX5_time.cls ≠ "java/lang/invoke/VarHandle" ∧ (parseMethodDescriptor yX5_time.desc).map (fun d => d.parameters.length) = some 0 := by decide +kernel
def fX5_time (nS : Nat) (nT : Nat) (sc : xSC) : Option Int32 := some (sc.1 0 0 5)
set_option maxHeartbeats 4000000 in
set_option maxRecDepth 100000 in
theorem kX5_time (l : Launch) (hl0 : l.stackTraces = false) (G : xG) (sh : xSh) (sc : xSC) (sr : xSR) (sl : xSL) (r : Int32) (hf : fX5_time sh.2.1 sh.2.2 sc = some r) : xMet l yX5_time zX5_time rX5_time G sh sc sr sl ([.ref (sh.1 0 0)] : List Value) (xvI (.inr r)) (xWd G sh sc sr sl) := by
  refine xMet_of (cc := cX5_time) (maxL := 1) (ret := (some .int)) (by decide) (Nat.le_of_ble_eq_true rfl) ?_
  intro p e s m below meth c F hT hW hr hlocks htab ls hl
  have F : CallFix p m c cX5_time 1 s ([.ref (sh.1 0 0)] : List Value).toArray xB RX5 := F
  have hx := F.1
  have hb := F.2.1
  have hS : va_S (xA G) s.heap s.heap [] := va_S.rf
  have hl : lv_has ls 1 [(0, .ref (sh.1 0 0))] := hl
  unfold fX5_time at hf
  refine lv_aload_n hx hb dX5_time_0 rfl (lv_at hl 0 rfl) ?_
  refine xget F hT hW xuX5 (xm_fix (by decide)) xce_0 rfl 5 (by decide) xw_76 rfl rfl dX5_time_1 ?_
  cases hf
  exact xret_i (ty := .int) F hr hlocks hS rfl rfl hW (Nat.le_of_ble_eq_true rfl) (Nat.le_of_ble_eq_true rfl) dX5_time_4
abbrev rX5_used : Room := { frames := 7, cells := 2, slots := 12, locals := 112 }
abbrev zX5_used : List Cond := Cond.code yX5_used cX5_used 4 (some .int) :: xB
theorem xd_X5_used : yX5_used.cls = RX5 ∧ yX5_used.cls ≠ "java/lang/invoke/MethodHandle" ∧ yX5_used.cls ≠ "java/lang/invoke/VarHandle" ∧ (parseMethodDescriptor yX5_used.desc).map (fun d => d.parameters.length) = some 2 := by decide +kernel
def fX5_used (nS : Nat) (nT : Nat) (a1 : Int32) (a2 : Int32) (sc : xSC) : Option (String ⊕ Int32) := oT (fX5_knownShard nS nT a1 sc) (fun E10 => some (Sum.inl E10)) (fun v1 => oG (decide (v1 < nS)) (oT (fX5_requireMeasure nS nT a2 sc) (fun E8 => some (Sum.inl E8)) (fun v4 => oB (fX0_of nS nT 6 v1 a2 sc) (fun v5 => some (Sum.inr v5)))))
set_option maxHeartbeats 4000000 in
set_option maxRecDepth 100000 in
theorem kX5_used (l : Launch) (hl0 : l.stackTraces = false) (G : xG) (sh : xSh) (sc : xSC) (sr : xSR) (sl : xSL) (a1 : Int32) (a2 : Int32) (r : (String ⊕ Int32)) (hf : fX5_used sh.2.1 sh.2.2 a1 a2 sc = some r) : xMet l yX5_used zX5_used rX5_used G sh sc sr sl ([.ref (sh.1 0 0), .int a1, .int a2] : List Value) (xvI r) (xWd G sh sc sr sl) := by
  refine xMet_of (cc := cX5_used) (maxL := 4) (ret := (some .int)) (by decide) (Nat.le_of_ble_eq_true rfl) ?_
  intro p e s m below meth c F hT hW hr hlocks htab ls hl
  have F : CallFix p m c cX5_used 4 s ([.ref (sh.1 0 0), .int a1, .int a2] : List Value).toArray xB RX5 := F
  have hx := F.1
  have hb := F.2.1
  have hS : va_S (xA G) s.heap s.heap [] := va_S.rf
  have hl : lv_has ls 4 [(0, .ref (sh.1 0 0)), (1, .int a1), (2, .int a2)] := hl
  unfold fX5_used at hf
  refine lv_aload_n hx hb dX5_used_0 rfl (lv_at hl 0 rfl) ?_
  refine lv_iload_n hx hb dX5_used_1 rfl (lv_at hl 1 rfl) ?_
  rcases oT_go hf with ⟨v1, hc9, hf⟩ | ⟨E10, hc9, hf⟩
  · refine xcallV (n := 1) F hT hW hS (xm_fix (by decide)) xce_0 rfl (kX5_knownShard l hl0 G sh sc sr sl a1  _ hc9) (xgV xw_354 xw_356 xwp_2 xw_1 xw_357) rfl xd_X5_knownShard ⟨Nat.le_of_ble_eq_true rfl, Nat.le_of_ble_eq_true rfl⟩ rfl hl.1 rfl (Nat.le_of_ble_eq_true rfl) dX5_used_2 ⟨Nat.le_of_ble_eq_true rfl, Nat.le_of_ble_eq_true rfl⟩ (fun v9 H locs hres hW hS => ?_) (fun E9 H locs q9 ce9 hres => by cases hres)
    cases hres
    refine W.eq (g2 := F0 m 5 ls (.ref (sh.1 4 v1) :: [])) rfl ?_
    obtain ⟨g3, hf⟩ := oG_go hf
    have h2 : v1 < sh.2.1 := of_decide_eq_true g3
    refine lv_astore_n (lv' := [(3, .ref (sh.1 4 v1)), (0, .ref (sh.1 0 0)), (1, .int a1), (2, .int a2)]) hx hb dX5_used_5 rfl hl (by decide) rfl (fun ls hl => ?_)
    refine lv_iload_n hx hb dX5_used_6 rfl (lv_at hl 3 rfl) ?_
    rcases oT_go hf with ⟨v4, hc7, hf⟩ | ⟨E8, hc7, hf⟩
    · refine xcallS (n := 1) F hT hW hS (kX5_requireMeasure l hl0 G sh sc sr sl a2  _ hc7) (xgS xw_382 xw_383 xw_1 xw_384) rfl xd_X5_requireMeasure.2 ⟨Nat.le_of_ble_eq_true rfl, Nat.le_of_ble_eq_true rfl⟩ rfl hl.1 rfl (Nat.le_of_ble_eq_true rfl) dX5_used_7 ⟨Nat.le_of_ble_eq_true rfl, Nat.le_of_ble_eq_true rfl⟩ (fun v9 H locs hres hW hS => ?_) (fun E9 H locs q9 ce9 hres => by cases hres)
      cases hres
      refine W.eq (g2 := F0 m 10 ls ([])) rfl ?_
      refine lv_aload_n hx hb dX5_used_10 rfl (lv_at hl 0 rfl) ?_
      refine xgetN (host := "TenantPlacement") F hT hW xuX3 (xm_S h2 (by decide)) xce_4 rfl 1 (by decide) (List.mem_of_getElem? (i := 21) rfl) rfl rfl dX5_used_11 ?_
      refine lv_iload_n hx hb dX5_used_14 rfl (lv_at hl 3 rfl) ?_
      obtain ⟨v5, hc6, hf⟩ := oB_go hf
      refine xcallV (n := 1) F hT hW hS (xm_S h2 (by decide)) (xce_am (by decide)) rfl (kX0_of l hl0 G sh sc sr sl 6 v1 a2 (by decide) (xm_S h2 (by decide)) _ hc6) (xgV xw_386 xw_387 xw_388 xw_11 xw_389) rfl xd_X0_of ⟨Nat.le_of_ble_eq_true rfl, Nat.le_of_ble_eq_true rfl⟩ rfl hl.1 rfl (Nat.le_of_ble_eq_true rfl) dX5_used_15 ⟨Nat.le_of_ble_eq_true rfl, Nat.le_of_ble_eq_true rfl⟩ (fun v9 H locs hres hW hS => ?_) (fun E9 H locs q9 ce9 hres => by cases hres)
      cases hres
      refine W.eq (g2 := F0 m 18 ls (.int v5 :: [])) rfl ?_
      cases hf
      exact xret_i (ty := .int) F hr hlocks hS rfl rfl hW (Nat.le_of_ble_eq_true rfl) (Nat.le_of_ble_eq_true rfl) dX5_used_18
    · refine xcallS (n := 1) F hT hW hS (kX5_requireMeasure l hl0 G sh sc sr sl a2  _ hc7) (xgS xw_382 xw_383 xw_1 xw_384) rfl xd_X5_requireMeasure.2 ⟨Nat.le_of_ble_eq_true rfl, Nat.le_of_ble_eq_true rfl⟩ rfl hl.1 rfl (Nat.le_of_ble_eq_true rfl) dX5_used_7 ⟨Nat.le_of_ble_eq_true rfl, Nat.le_of_ble_eq_true rfl⟩ (fun v9 H locs hres => by cases hres) (fun E9 H locs q9 ce9 hres hW hS hcell hv9 hcl => ?_)
      cases hres
      cases hf
      exact xout htab hlocks hS rfl hW hcell hv9 hcl (Nat.le_of_ble_eq_true rfl) (Nat.le_of_ble_eq_true rfl)
  · refine xcallV (n := 1) F hT hW hS (xm_fix (by decide)) xce_0 rfl (kX5_knownShard l hl0 G sh sc sr sl a1  _ hc9) (xgV xw_354 xw_356 xwp_2 xw_1 xw_357) rfl xd_X5_knownShard ⟨Nat.le_of_ble_eq_true rfl, Nat.le_of_ble_eq_true rfl⟩ rfl hl.1 rfl (Nat.le_of_ble_eq_true rfl) dX5_used_2 ⟨Nat.le_of_ble_eq_true rfl, Nat.le_of_ble_eq_true rfl⟩ (fun v9 H locs hres => by cases hres) (fun E9 H locs q9 ce9 hres hW hS hcell hv9 hcl => ?_)
    cases hres
    cases hf
    exact xout htab hlocks hS rfl hW hcell hv9 hcl (Nat.le_of_ble_eq_true rfl) (Nat.le_of_ble_eq_true rfl)
abbrev rX5_usedByLooking : Room := { frames := 7, cells := 2, slots := 12, locals := 112 }
abbrev zX5_usedByLooking : List Cond := Cond.code yX5_usedByLooking cX5_usedByLooking 8 (some .int) :: xB
theorem xd_X5_usedByLooking : yX5_usedByLooking.cls = RX5 ∧ yX5_usedByLooking.cls ≠ "java/lang/invoke/MethodHandle" ∧ yX5_usedByLooking.cls ≠ "java/lang/invoke/VarHandle" ∧ (parseMethodDescriptor yX5_usedByLooking.desc).map (fun d => d.parameters.length) = some 2 := by decide +kernel
def fX5_usedByLooking_K1 (x3L1 : Int32) (x6L1 : Int32) : Option (String ⊕ Int32) := some (Sum.inr x3L1)
def fX5_usedByLooking_L1 (nS : Nat) (nT : Nat) (a1 : Int32) (a2 : Int32) (sc : xSC) (k_L1 : Int32 → Int32 → Option (String ⊕ Int32)) : Nat → Int32 → Int32 → Option (String ⊕ Int32)
  | 0, _, _ => none
  | n + 1, x3L1, x6L1 => (if 6 ≤ x6L1 then k_L1 x3L1 x6L1 else oG (xinb x6L1 6) (oN (xel nT x6L1) ((fX5_usedByLooking_L1 nS nT a1 a2 sc k_L1 n) x3L1 (x6L1 + 1)) (fun jq6 => oB (fX4_useOn nS nT jq6 a1 a2 sc) (fun v10 => (fX5_usedByLooking_L1 nS nT a1 a2 sc k_L1 n) (x3L1 + v10) (x6L1 + 1)))))
def fX5_usedByLooking (nS : Nat) (nT : Nat) (a1 : Int32) (a2 : Int32) (sc : xSC) : Option (String ⊕ Int32) := oT (fX5_knownShard nS nT a1 sc) (fun E15 => some (Sum.inl E15)) (fun v1 => oG (decide (v1 < nS)) (oT (fX5_requireMeasure nS nT a2 sc) (fun E13 => some (Sum.inl E13)) (fun v4 => fX5_usedByLooking_L1 nS nT a1 a2 sc (fX5_usedByLooking_K1) 64 0 0)))
set_option maxHeartbeats 4000000 in
set_option maxRecDepth 100000 in
theorem kX5_usedByLooking (l : Launch) (hl0 : l.stackTraces = false) (G : xG) (sh : xSh) (sc : xSC) (sr : xSR) (sl : xSL) (a1 : Int32) (a2 : Int32) (r : (String ⊕ Int32)) (hf : fX5_usedByLooking sh.2.1 sh.2.2 a1 a2 sc = some r) : xMet l yX5_usedByLooking zX5_usedByLooking rX5_usedByLooking G sh sc sr sl ([.ref (sh.1 0 0), .int a1, .int a2] : List Value) (xvI r) (xWd G sh sc sr sl) := by
  refine xMet_of (cc := cX5_usedByLooking) (maxL := 8) (ret := (some .int)) (by decide) (Nat.le_of_ble_eq_true rfl) ?_
  intro p e s m below meth c F hT hW hr hlocks htab ls hl
  have F : CallFix p m c cX5_usedByLooking 8 s ([.ref (sh.1 0 0), .int a1, .int a2] : List Value).toArray xB RX5 := F
  have hx := F.1
  have hb := F.2.1
  have hS : va_S (xA G) s.heap s.heap [] := va_S.rf
  have hl : lv_has ls 8 [(0, .ref (sh.1 0 0)), (1, .int a1), (2, .int a2)] := hl
  unfold fX5_usedByLooking at hf
  refine lv_aload_n hx hb dX5_usedByLooking_0 rfl (lv_at hl 0 rfl) ?_
  refine lv_iload_n hx hb dX5_usedByLooking_1 rfl (lv_at hl 1 rfl) ?_
  rcases oT_go hf with ⟨v1, hc14, hf⟩ | ⟨E15, hc14, hf⟩
  · refine xcallV (n := 1) F hT hW hS (xm_fix (by decide)) xce_0 rfl (kX5_knownShard l hl0 G sh sc sr sl a1  _ hc14) (xgV xw_354 xw_356 xwp_2 xw_1 xw_357) rfl xd_X5_knownShard ⟨Nat.le_of_ble_eq_true rfl, Nat.le_of_ble_eq_true rfl⟩ rfl hl.1 rfl (Nat.le_of_ble_eq_true rfl) dX5_usedByLooking_2 ⟨Nat.le_of_ble_eq_true rfl, Nat.le_of_ble_eq_true rfl⟩ (fun v9 H locs hres hW hS => ?_) (fun E9 H locs q9 ce9 hres => by cases hres)
    cases hres
    refine W.eq (g2 := F0 m 5 ls (.ref (sh.1 4 v1) :: [])) rfl ?_
    obtain ⟨g3, hf⟩ := oG_go hf
    have h2 : v1 < sh.2.1 := of_decide_eq_true g3
    refine lv_pop hx hb dX5_usedByLooking_5 rfl ?_
    refine lv_iload_n hx hb dX5_usedByLooking_6 rfl (lv_at hl 2 rfl) ?_
    rcases oT_go hf with ⟨v4, hc12, hf⟩ | ⟨E13, hc12, hf⟩
    · refine xcallS (n := 1) F hT hW hS (kX5_requireMeasure l hl0 G sh sc sr sl a2  _ hc12) (xgS xw_382 xw_383 xw_1 xw_384) rfl xd_X5_requireMeasure.2 ⟨Nat.le_of_ble_eq_true rfl, Nat.le_of_ble_eq_true rfl⟩ rfl hl.1 rfl (Nat.le_of_ble_eq_true rfl) dX5_usedByLooking_7 ⟨Nat.le_of_ble_eq_true rfl, Nat.le_of_ble_eq_true rfl⟩ (fun v9 H locs hres hW hS => ?_) (fun E9 H locs q9 ce9 hres => by cases hres)
      cases hres
      refine W.eq (g2 := F0 m 10 ls ([])) rfl ?_
      refine lv_iconst (v := 0) hx hb dX5_usedByLooking_10 (by decide) ?_
      refine lv_istore_n (lv' := [(3, .int 0), (0, .ref (sh.1 0 0)), (1, .int a1), (2, .int a2)]) hx hb dX5_usedByLooking_11 rfl hl (by decide) rfl (fun ls hl => ?_)
      refine lv_aload_n hx hb dX5_usedByLooking_12 rfl (lv_at hl 1 rfl) ?_
      refine xget F hT hW xuX5 (xm_fix (by decide)) xce_0 rfl 1 (by decide) xw_72 rfl rfl dX5_usedByLooking_13 ?_
      refine lv_astore (lv' := [(4, .ref (sh.1 2 0)), (3, .int 0), (0, .ref (sh.1 0 0)), (1, .int a1), (2, .int a2)]) hx hb dX5_usedByLooking_16 hl (by decide) rfl (fun ls hl => ?_)
      refine lv_aload hx hb dX5_usedByLooking_18 (lv_at hl 0 rfl) ?_
      refine xalenT F hT hW dX5_usedByLooking_20 ?_
      refine lv_istore (lv' := [(5, .int 6), (4, .ref (sh.1 2 0)), (3, .int 0), (0, .ref (sh.1 0 0)), (1, .int a1), (2, .int a2)]) hx hb dX5_usedByLooking_21 hl (by decide) rfl (fun ls hl => ?_)
      refine lv_iconst (v := 0) hx hb dX5_usedByLooking_23 (by decide) ?_
      refine lv_istore (lv' := [(6, .int 0), (5, .int 6), (4, .ref (sh.1 2 0)), (3, .int 0), (0, .ref (sh.1 0 0)), (1, .int a1), (2, .int a2)]) hx hb dX5_usedByLooking_24 hl (by decide) rfl (fun ls hl => ?_)
      have hx_L1 : ∀ (x3L1 : Int32) (x6L1 : Int32), fX5_usedByLooking_K1 x3L1 x6L1 = some r → ∀ (H : Heap) (locs : List Loc), xWd G sh sc sr sl H → va_S (xA G) s.heap H locs → ∀ ls : Array Slot, lv_has ls 8 [(3, .int x3L1)] → W p l e rX5_usedByLooking s m ([.ref (sh.1 0 0), .int a1, .int a2] : List Value).toArray below meth c H locs 2 12 (xQ below G (xvI r) (xWd G sh sc sr sl) ([.ref (sh.1 0 0), .int a1, .int a2] : List Value).toArray s 2 12) (F0 m 61 ls []) := by
        intro x3L1 x6L1 hf H locs hW hS ls hl
        unfold fX5_usedByLooking_K1 at hf
        refine lv_iload_n hx hb dX5_usedByLooking_61 rfl (lv_at hl 0 rfl) ?_
        cases hf
        exact xret_i (ty := .int) F hr hlocks hS rfl rfl hW (Nat.le_of_ble_eq_true rfl) (Nat.le_of_ble_eq_true rfl) dX5_usedByLooking_62
      have hL_L1 : ∀ (n9 : Nat) (x3L1 : Int32) (x6L1 : Int32), fX5_usedByLooking_L1 sh.2.1 sh.2.2 a1 a2 sc (fX5_usedByLooking_K1) n9 x3L1 x6L1 = some r → ∀ (H : Heap) (locs : List Loc), xWd G sh sc sr sl H → va_S (xA G) s.heap H locs → ∀ ls : Array Slot, lv_has ls 8 [(1, .int a1), (2, .int a2), (3, .int x3L1), (4, .ref (sh.1 2 0)), (5, .int 6), (6, .int x6L1)] → W p l e rX5_usedByLooking s m ([.ref (sh.1 0 0), .int a1, .int a2] : List Value).toArray below meth c H locs 2 12 (xQ below G (xvI r) (xWd G sh sc sr sl) ([.ref (sh.1 0 0), .int a1, .int a2] : List Value).toArray s 2 12) (F0 m 26 ls []) := by
        intro n_L1
        induction n_L1 with
        | zero =>
          intro x3L1 x6L1 hf
          unfold fX5_usedByLooking_L1 at hf
          cases hf
        | succ n_L1 ih_L1 =>
          intro x3L1 x6L1 hf H locs hW hS ls hl
          unfold fX5_usedByLooking_L1 at hf
          refine lv_iload hx hb dX5_usedByLooking_26 (lv_at hl 5 rfl) ?_
          refine lv_iload hx hb dX5_usedByLooking_28 (lv_at hl 4 rfl) ?_
          refine lv_icmp_ge (tgt := 61) hx hb dX5_usedByLooking_30 (by decide) (fun c5 => ?_) (fun c5 => ?_)
          · replace hf := if_t c5 hf
            exact hx_L1 _ _ hf _ _ hW hS ls (lv_sub hl [2] rfl)
          · replace hf := if_f c5 hf
            refine lv_aload hx hb dX5_usedByLooking_33 (lv_at hl 3 rfl) ?_
            refine lv_iload hx hb dX5_usedByLooking_35 (lv_at hl 5 rfl) ?_
            obtain ⟨g8, hf⟩ := oG_go hf
            refine xaldT F hT hW (xinb_ok g8) dX5_usedByLooking_37 ?_
            rcases o9 : xel sh.2.2 x6L1 with _ | jq6
            · replace hf := oN_0 o9 hf
              refine W.eq (g2 := F0 m 38 ls (.null :: [])) rfl ?_
              refine lv_astoreN (lv' := [(7, .null), (1, .int a1), (2, .int a2), (3, .int x3L1), (4, .ref (sh.1 2 0)), (5, .int 6), (6, .int x6L1)]) hx hb dX5_usedByLooking_38 hl (by decide) rfl (fun ls hl => ?_)
              refine lv_aloadN hx hb dX5_usedByLooking_40 (lv_at hl 0 rfl) ?_
              refine lv_ifnullN (tgt := 55) hx hb dX5_usedByLooking_42 (by decide) ?_
              refine lv_iinc (v := (x6L1 + 1)) (lv' := [(6, .int (x6L1 + 1)), (7, .null), (1, .int a1), (2, .int a2), (3, .int x3L1), (4, .ref (sh.1 2 0)), (5, .int 6)]) hx hb dX5_usedByLooking_55 hl (k := 6) rfl rfl (by decide) rfl (fun ls hl => ?_)
              refine lv_goto (tgt := 26) hx hb dX5_usedByLooking_58 (by decide) ?_
              exact ih_L1 _ _ hf _ _ hW hS ls (lv_sub hl [2, 3, 4, 5, 6, 0] rfl)
            · replace hf := oN_1 o9 hf
              have h7 : jq6 < sh.2.2 := xel_lt o9
              refine W.eq (g2 := F0 m 38 ls (.ref (sh.1 11 jq6) :: [])) rfl ?_
              refine lv_astore (lv' := [(7, .ref (sh.1 11 jq6)), (1, .int a1), (2, .int a2), (3, .int x3L1), (4, .ref (sh.1 2 0)), (5, .int 6), (6, .int x6L1)]) hx hb dX5_usedByLooking_38 hl (by decide) rfl (fun ls hl => ?_)
              refine lv_aload hx hb dX5_usedByLooking_40 (lv_at hl 0 rfl) ?_
              refine lv_ifnull hx hb dX5_usedByLooking_42 ?_
              refine lv_iload_n hx hb dX5_usedByLooking_45 rfl (lv_at hl 3 rfl) ?_
              refine lv_aload hx hb dX5_usedByLooking_46 (lv_at hl 0 rfl) ?_
              refine lv_iload_n hx hb dX5_usedByLooking_48 rfl (lv_at hl 1 rfl) ?_
              refine lv_iload_n hx hb dX5_usedByLooking_49 rfl (lv_at hl 2 rfl) ?_
              obtain ⟨v10, hc11, hf⟩ := oB_go hf
              refine xcallV (n := 2) F hT hW hS (xm_T h7 (by decide)) xce_11 rfl (kX4_useOn l hl0 G sh sc sr sl jq6 a1 a2 h7 _ hc11) (xgV xw_473 xw_474 xw_475 xw_16 xw_476) rfl xd_X4_useOn ⟨Nat.le_of_ble_eq_true rfl, Nat.le_of_ble_eq_true rfl⟩ rfl hl.1 rfl (Nat.le_of_ble_eq_true rfl) dX5_usedByLooking_50 ⟨Nat.le_of_ble_eq_true rfl, Nat.le_of_ble_eq_true rfl⟩ (fun v9 H locs hres hW hS => ?_) (fun E9 H locs q9 ce9 hres => by cases hres)
              cases hres
              refine W.eq (g2 := F0 m 53 ls (.int v10 :: .int x3L1 :: [])) rfl ?_
              refine lv_iadd hx hb dX5_usedByLooking_53 ?_
              refine lv_istore_n (lv' := [(3, .int (x3L1 + v10)), (7, .ref (sh.1 11 jq6)), (1, .int a1), (2, .int a2), (4, .ref (sh.1 2 0)), (5, .int 6), (6, .int x6L1)]) hx hb dX5_usedByLooking_54 rfl hl (by decide) rfl (fun ls hl => ?_)
              refine lv_iinc (v := (x6L1 + 1)) (lv' := [(6, .int (x6L1 + 1)), (3, .int (x3L1 + v10)), (7, .ref (sh.1 11 jq6)), (1, .int a1), (2, .int a2), (4, .ref (sh.1 2 0)), (5, .int 6)]) hx hb dX5_usedByLooking_55 hl (k := 6) rfl rfl (by decide) rfl (fun ls hl => ?_)
              refine lv_goto (tgt := 26) hx hb dX5_usedByLooking_58 (by decide) ?_
              exact ih_L1 _ _ hf _ _ hW hS ls (lv_sub hl [3, 4, 1, 5, 6, 0] rfl)
      exact hL_L1 _ _ _ hf _ _ hW hS ls (lv_sub hl [5, 6, 3, 2, 1, 0] rfl)
    · refine xcallS (n := 1) F hT hW hS (kX5_requireMeasure l hl0 G sh sc sr sl a2  _ hc12) (xgS xw_382 xw_383 xw_1 xw_384) rfl xd_X5_requireMeasure.2 ⟨Nat.le_of_ble_eq_true rfl, Nat.le_of_ble_eq_true rfl⟩ rfl hl.1 rfl (Nat.le_of_ble_eq_true rfl) dX5_usedByLooking_7 ⟨Nat.le_of_ble_eq_true rfl, Nat.le_of_ble_eq_true rfl⟩ (fun v9 H locs hres => by cases hres) (fun E9 H locs q9 ce9 hres hW hS hcell hv9 hcl => ?_)
      cases hres
      cases hf
      exact xout htab hlocks hS rfl hW hcell hv9 hcl (Nat.le_of_ble_eq_true rfl) (Nat.le_of_ble_eq_true rfl)
  · refine xcallV (n := 1) F hT hW hS (xm_fix (by decide)) xce_0 rfl (kX5_knownShard l hl0 G sh sc sr sl a1  _ hc14) (xgV xw_354 xw_356 xwp_2 xw_1 xw_357) rfl xd_X5_knownShard ⟨Nat.le_of_ble_eq_true rfl, Nat.le_of_ble_eq_true rfl⟩ rfl hl.1 rfl (Nat.le_of_ble_eq_true rfl) dX5_usedByLooking_2 ⟨Nat.le_of_ble_eq_true rfl, Nat.le_of_ble_eq_true rfl⟩ (fun v9 H locs hres => by cases hres) (fun E9 H locs q9 ce9 hres hW hS hcell hv9 hcl => ?_)
    cases hres
    cases hf
    exact xout htab hlocks hS rfl hW hcell hv9 hcl (Nat.le_of_ble_eq_true rfl) (Nat.le_of_ble_eq_true rfl)
