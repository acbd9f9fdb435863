abbrev rX6_isBarred : Room := { frames := 2, cells := 0, slots := 0, locals := 44 }
abbrev zX6_isBarred : List Cond := Cond.code yX6_isBarred cX6_isBarred 4 (some .boolean) :: xB
theorem xd_X6_isBarred : yX6_isBarred.cls = RX6 ∧ yX6_isBarred.cls ≠ "java/lang/invoke/MethodHandle" ∧ yX6_isBarred.cls ≠ "java/lang/invoke/VarHandle" ∧ (parseMethodDescriptor yX6_isBarred.desc).map (fun d => d.parameters.length) = some 2 := by decide +kernel
def fX6_isBarred_K1 (x3L1 : Int32) : Option Int32 := some 0
def fX6_isBarred_L1 (a1 : Int32) (a2 : Int32) (sr : xSR) (k_L1 : Int32 → Option Int32) : Nat → Int32 → Option Int32
  | 0, _ => none
  | n + 1, x3L1 => (if (sr.1 103 0) ≤ x3L1 then k_L1 x3L1 else (if x3L1 = a1 then (fX6_isBarred_L1 a1 a2 sr k_L1 n) (x3L1 + 1) else oB (fX6_isPresent x3L1 a2 sr) (fun v3 => (if v3 = 0 then (fX6_isBarred_L1 a1 a2 sr k_L1 n) (x3L1 + 1) else oB (fX6_areApart x3L1 a1 sr) (fun v5 => (if v5 = 0 then (fX6_isBarred_L1 a1 a2 sr k_L1 n) (x3L1 + 1) else some 1))))))
def fX6_isBarred (a1 : Int32) (a2 : Int32) (sr : xSR) : Option Int32 := fX6_isBarred_L1 a1 a2 sr (fX6_isBarred_K1) 64 0
set_option maxHeartbeats 4000000 in
set_option maxRecDepth 100000 in
theorem kX6_isBarred (l : Launch) (hl0 : l.stackTraces = false) (G : xG) (sh : xSh) (sc : xSC) (sr : xSR) (sl : xSL) (a1 : Int32) (a2 : Int32) (r : Int32) (hf : fX6_isBarred a1 a2 sr = some r) : xMet l yX6_isBarred zX6_isBarred rX6_isBarred G sh sc sr sl ([.ref (sh.1 12 0), .int a1, .int a2] : List Value) (xvI (.inr r)) (xWd G sh sc sr sl) := by
  refine xMet_of (cc := cX6_isBarred) (maxL := 4) (ret := (some .boolean)) (by decide) (Nat.le_of_ble_eq_true rfl) ?_
  intro p e s m below meth c F hT hW hr hlocks htab ls hl
  have F : CallFix p m c cX6_isBarred 4 s ([.ref (sh.1 12 0), .int a1, .int a2] : List Value).toArray xB RX6 := F
  have hx := F.1
  have hb := F.2.1
  have hS : va_S (xA G) s.heap s.heap [] := va_S.rf
  have hl : lv_has ls 4 [(0, .ref (sh.1 12 0)), (1, .int a1), (2, .int a2)] := hl
  unfold fX6_isBarred at hf
  refine lv_iconst (v := 0) hx hb dX6_isBarred_0 (by decide) ?_
  refine lv_istore_n (lv' := [(3, .int 0), (0, .ref (sh.1 12 0)), (1, .int a1), (2, .int a2)]) hx hb dX6_isBarred_1 rfl hl (by decide) rfl (fun ls hl => ?_)
  have hx_L1 : ∀ (x3L1 : Int32), fX6_isBarred_K1 x3L1 = some r → ∀ (H : Heap) (locs : List Loc), xWd G sh sc sr sl H → va_S (xA G) s.heap H locs → ∀ ls : Array Slot, lv_has ls 4 [] → W p l e rX6_isBarred s m ([.ref (sh.1 12 0), .int a1, .int a2] : List Value).toArray below meth c H locs 0 0 (xQ below G (xvI (.inr r)) (xWd G sh sc sr sl) ([.ref (sh.1 12 0), .int a1, .int a2] : List Value).toArray s 0 0) (F0 m 41 ls []) := by
    intro x3L1 hf H locs hW hS ls hl
    unfold fX6_isBarred_K1 at hf
    refine lv_iconst (v := 0) hx hb dX6_isBarred_41 (by decide) ?_
    cases hf
    exact xret_i (ty := .boolean) F hr hlocks hS (by decide) rfl hW (Nat.le_of_ble_eq_true rfl) (Nat.le_of_ble_eq_true rfl) dX6_isBarred_42
  have hL_L1 : ∀ (n9 : Nat) (x3L1 : Int32), fX6_isBarred_L1 a1 a2 sr (fX6_isBarred_K1) n9 x3L1 = some r → ∀ (H : Heap) (locs : List Loc), xWd G sh sc sr sl H → va_S (xA G) s.heap H locs → ∀ ls : Array Slot, lv_has ls 4 [(0, .ref (sh.1 12 0)), (1, .int a1), (2, .int a2), (3, .int x3L1)] → W p l e rX6_isBarred s m ([.ref (sh.1 12 0), .int a1, .int a2] : List Value).toArray below meth c H locs 0 0 (xQ below G (xvI (.inr r)) (xWd G sh sc sr sl) ([.ref (sh.1 12 0), .int a1, .int a2] : List Value).toArray s 0 0) (F0 m 2 ls []) := by
    intro n_L1
    induction n_L1 with
    | zero =>
      intro x3L1 hf
      unfold fX6_isBarred_L1 at hf
      cases hf
    | succ n_L1 ih_L1 =>
      intro x3L1 hf H locs hW hS ls hl
      unfold fX6_isBarred_L1 at hf
      refine lv_iload_n hx hb dX6_isBarred_2 rfl (lv_at hl 3 rfl) ?_
      refine lv_aload_n hx hb dX6_isBarred_3 rfl (lv_at hl 0 rfl) ?_
      refine xget F hT hW xuX6 (xm_fix (by decide)) xce_12 rfl 3 (by decide) xw_803 rfl rfl dX6_isBarred_4 ?_
      refine lv_icmp_ge (tgt := 41) hx hb dX6_isBarred_7 (by decide) (fun c1 => ?_) (fun c1 => ?_)
      · replace hf := if_t c1 hf
        exact hx_L1 _ hf _ _ hW hS ls (lv_sub hl [] rfl)
      · replace hf := if_f c1 hf
        refine lv_iload_n hx hb dX6_isBarred_10 rfl (lv_at hl 3 rfl) ?_
        refine lv_iload_n hx hb dX6_isBarred_11 rfl (lv_at hl 1 rfl) ?_
        refine lv_icmp_eq (tgt := 35) hx hb dX6_isBarred_12 (by decide) (fun c2 => ?_) (fun c2 => ?_)
        · replace hf := if_t c2 hf
          refine lv_iinc (v := (x3L1 + 1)) (lv' := [(3, .int (x3L1 + 1)), (0, .ref (sh.1 12 0)), (1, .int a1), (2, .int a2)]) hx hb dX6_isBarred_35 hl (k := 3) rfl rfl (by decide) rfl (fun ls hl => ?_)
          refine lv_goto (tgt := 2) hx hb dX6_isBarred_38 (by decide) ?_
          exact ih_L1 _ hf _ _ hW hS ls (lv_sub hl [1, 2, 3, 0] rfl)
        · replace hf := if_f c2 hf
          refine lv_aload_n hx hb dX6_isBarred_15 rfl (lv_at hl 0 rfl) ?_
          refine lv_iload_n hx hb dX6_isBarred_16 rfl (lv_at hl 3 rfl) ?_
          refine lv_iload_n hx hb dX6_isBarred_17 rfl (lv_at hl 2 rfl) ?_
          obtain ⟨v3, hc8, hf⟩ := oB_go hf
          refine xcallV (n := 2) F hT hW hS (xm_fix (by decide)) xce_12 rfl (kX6_isPresent l hl0 G sh sc sr sl x3L1 a2  _ hc8) (xgV xw_914 xw_916 xwp_18 xw_4 xw_917) rfl xd_X6_isPresent ⟨Nat.le_of_ble_eq_true rfl, Nat.le_of_ble_eq_true rfl⟩ rfl hl.1 rfl (Nat.le_of_ble_eq_true rfl) dX6_isBarred_18 ⟨Nat.le_of_ble_eq_true rfl, Nat.le_of_ble_eq_true rfl⟩ (fun v9 H locs hres hW hS => ?_) (fun E9 H locs q9 ce9 hres => by cases hres)
          cases hres
          refine W.eq (g2 := F0 m 21 ls (.int v3 :: [])) rfl ?_
          refine lv_if_eq (tgt := 35) hx hb dX6_isBarred_21 (by decide) (fun c4 => ?_) (fun c4 => ?_)
          · replace hf := if_t c4 hf
            refine lv_iinc (v := (x3L1 + 1)) (lv' := [(3, .int (x3L1 + 1)), (0, .ref (sh.1 12 0)), (1, .int a1), (2, .int a2)]) hx hb dX6_isBarred_35 hl (k := 3) rfl rfl (by decide) rfl (fun ls hl => ?_)
            refine lv_goto (tgt := 2) hx hb dX6_isBarred_38 (by decide) ?_
            exact ih_L1 _ hf _ _ hW hS ls (lv_sub hl [1, 2, 3, 0] rfl)
          · replace hf := if_f c4 hf
            refine lv_aload_n hx hb dX6_isBarred_24 rfl (lv_at hl 0 rfl) ?_
            refine lv_iload_n hx hb dX6_isBarred_25 rfl (lv_at hl 3 rfl) ?_
            refine lv_iload_n hx hb dX6_isBarred_26 rfl (lv_at hl 1 rfl) ?_
            obtain ⟨v5, hc7, hf⟩ := oB_go hf
            refine xcallV (n := 2) F hT hW hS (xm_fix (by decide)) xce_12 rfl (kX6_areApart l hl0 G sh sc sr sl x3L1 a1  _ hc7) (xgV xw_938 xw_940 xwp_21 xw_4 xw_941) rfl xd_X6_areApart ⟨Nat.le_of_ble_eq_true rfl, Nat.le_of_ble_eq_true rfl⟩ rfl hl.1 rfl (Nat.le_of_ble_eq_true rfl) dX6_isBarred_27 ⟨Nat.le_of_ble_eq_true rfl, Nat.le_of_ble_eq_true rfl⟩ (fun v9 H locs hres hW hS => ?_) (fun E9 H locs q9 ce9 hres => by cases hres)
            cases hres
            refine W.eq (g2 := F0 m 30 ls (.int v5 :: [])) rfl ?_
            refine lv_if_eq (tgt := 35) hx hb dX6_isBarred_30 (by decide) (fun c6 => ?_) (fun c6 => ?_)
            · replace hf := if_t c6 hf
              refine lv_iinc (v := (x3L1 + 1)) (lv' := [(3, .int (x3L1 + 1)), (0, .ref (sh.1 12 0)), (1, .int a1), (2, .int a2)]) hx hb dX6_isBarred_35 hl (k := 3) rfl rfl (by decide) rfl (fun ls hl => ?_)
              refine lv_goto (tgt := 2) hx hb dX6_isBarred_38 (by decide) ?_
              exact ih_L1 _ hf _ _ hW hS ls (lv_sub hl [1, 2, 3, 0] rfl)
            · replace hf := if_f c6 hf
              refine lv_iconst (v := 1) hx hb dX6_isBarred_33 (by decide) ?_
              cases hf
              exact xret_i (ty := .boolean) F hr hlocks hS (by decide) rfl hW (Nat.le_of_ble_eq_true rfl) (Nat.le_of_ble_eq_true rfl) dX6_isBarred_34
  exact hL_L1 _ _ hf _ _ hW hS ls (lv_sub hl [1, 2, 3, 0] rfl)
abbrev rX6_hasRoom : Room := { frames := 4, cells := 0, slots := 0, locals := 91 }
abbrev zX6_hasRoom : List Cond := Cond.code yX6_hasRoom cX6_hasRoom 5 (some .boolean) :: xB
theorem xd_X6_hasRoom : yX6_hasRoom.cls = RX6 ∧ yX6_hasRoom.cls ≠ "java/lang/invoke/MethodHandle" ∧ yX6_hasRoom.cls ≠ "java/lang/invoke/VarHandle" ∧ (parseMethodDescriptor yX6_hasRoom.desc).map (fun d => d.parameters.length) = some 3 := by decide +kernel
def fX6_hasRoom_K1 (x4L1 : Int32) : Option Int32 := some 1
def fX6_hasRoom_L1 (a1 : Int32) (a2 : Int32) (sr : xSR) (k_L1 : Int32 → Option Int32) : Nat → Int32 → Option Int32
  | 0, _ => none
  | n + 1, x4L1 => (if 3 ≤ x4L1 then k_L1 x4L1 else oG (xinb ((3 * a1) + x4L1) 18) (oB (fX6_isFull a2 x4L1 (sr.1 4 ((3 * a1) + x4L1).toNatClampNeg) sr) (fun v2 => (if v2 = 0 then (fX6_hasRoom_L1 a1 a2 sr k_L1 n) (x4L1 + 1) else some 0))))
def fX6_hasRoom (a1 : Int32) (a2 : Int32) (a3 : Int32) (sr : xSR) : Option Int32 := fX6_hasRoom_L1 a1 a2 sr (fX6_hasRoom_K1) 64 a3
set_option maxHeartbeats 4000000 in
set_option maxRecDepth 100000 in
theorem kX6_hasRoom (l : Launch) (hl0 : l.stackTraces = false) (G : xG) (sh : xSh) (sc : xSC) (sr : xSR) (sl : xSL) (a1 : Int32) (a2 : Int32) (a3 : Int32) (r : Int32) (hf : fX6_hasRoom a1 a2 a3 sr = some r) : xMet l yX6_hasRoom zX6_hasRoom rX6_hasRoom G sh sc sr sl ([.ref (sh.1 12 0), .int a1, .int a2, .int a3] : List Value) (xvI (.inr r)) (xWd G sh sc sr sl) := by
  refine xMet_of (cc := cX6_hasRoom) (maxL := 5) (ret := (some .boolean)) (by decide) (Nat.le_of_ble_eq_true rfl) ?_
  intro p e s m below meth c F hT hW hr hlocks htab ls hl
  have F : CallFix p m c cX6_hasRoom 5 s ([.ref (sh.1 12 0), .int a1, .int a2, .int a3] : List Value).toArray xB RX6 := F
  have hx := F.1
  have hb := F.2.1
  have hS : va_S (xA G) s.heap s.heap [] := va_S.rf
  have hl : lv_has ls 5 [(0, .ref (sh.1 12 0)), (1, .int a1), (2, .int a2), (3, .int a3)] := hl
  unfold fX6_hasRoom at hf
  refine lv_iload_n hx hb dX6_hasRoom_0 rfl (lv_at hl 3 rfl) ?_
  refine lv_istore (lv' := [(4, .int a3), (0, .ref (sh.1 12 0)), (1, .int a1), (2, .int a2), (3, .int a3)]) hx hb dX6_hasRoom_1 hl (by decide) rfl (fun ls hl => ?_)
  have hx_L1 : ∀ (x4L1 : Int32), fX6_hasRoom_K1 x4L1 = some r → ∀ (H : Heap) (locs : List Loc), xWd G sh sc sr sl H → va_S (xA G) s.heap H locs → ∀ ls : Array Slot, lv_has ls 5 [] → W p l e rX6_hasRoom s m ([.ref (sh.1 12 0), .int a1, .int a2, .int a3] : List Value).toArray below meth c H locs 0 0 (xQ below G (xvI (.inr r)) (xWd G sh sc sr sl) ([.ref (sh.1 12 0), .int a1, .int a2, .int a3] : List Value).toArray s 0 0) (F0 m 38 ls []) := by
    intro x4L1 hf H locs hW hS ls hl
    unfold fX6_hasRoom_K1 at hf
    refine lv_iconst (v := 1) hx hb dX6_hasRoom_38 (by decide) ?_
    cases hf
    exact xret_i (ty := .boolean) F hr hlocks hS (by decide) rfl hW (Nat.le_of_ble_eq_true rfl) (Nat.le_of_ble_eq_true rfl) dX6_hasRoom_39
  have hL_L1 : ∀ (n9 : Nat) (x4L1 : Int32), fX6_hasRoom_L1 a1 a2 sr (fX6_hasRoom_K1) n9 x4L1 = some r → ∀ (H : Heap) (locs : List Loc), xWd G sh sc sr sl H → va_S (xA G) s.heap H locs → ∀ ls : Array Slot, lv_has ls 5 [(0, .ref (sh.1 12 0)), (1, .int a1), (2, .int a2), (4, .int x4L1)] → W p l e rX6_hasRoom s m ([.ref (sh.1 12 0), .int a1, .int a2, .int a3] : List Value).toArray below meth c H locs 0 0 (xQ below G (xvI (.inr r)) (xWd G sh sc sr sl) ([.ref (sh.1 12 0), .int a1, .int a2, .int a3] : List Value).toArray s 0 0) (F0 m 3 ls []) := by
    intro n_L1
    induction n_L1 with
    | zero =>
      intro x4L1 hf
      unfold fX6_hasRoom_L1 at hf
      cases hf
    | succ n_L1 ih_L1 =>
      intro x4L1 hf H locs hW hS ls hl
      unfold fX6_hasRoom_L1 at hf
      refine lv_iload hx hb dX6_hasRoom_3 (lv_at hl 3 rfl) ?_
      refine lv_iconst (v := 3) hx hb dX6_hasRoom_5 (by decide) ?_
      refine lv_icmp_ge (tgt := 38) hx hb dX6_hasRoom_6 (by decide) (fun c1 => ?_) (fun c1 => ?_)
      · replace hf := if_t c1 hf
        exact hx_L1 _ hf _ _ hW hS ls (lv_sub hl [] rfl)
      · replace hf := if_f c1 hf
        refine lv_aload_n hx hb dX6_hasRoom_9 rfl (lv_at hl 0 rfl) ?_
        refine lv_iload_n hx hb dX6_hasRoom_10 rfl (lv_at hl 2 rfl) ?_
        refine lv_iload hx hb dX6_hasRoom_11 (lv_at hl 3 rfl) ?_
        refine lv_aload_n hx hb dX6_hasRoom_13 rfl (lv_at hl 0 rfl) ?_
        refine xget F hT hW xuX6 (xm_fix (by decide)) xce_12 rfl 4 (by decide) xw_804 rfl rfl dX6_hasRoom_14 ?_
        refine lv_iconst (v := 3) hx hb dX6_hasRoom_17 (by decide) ?_
        refine lv_iload_n hx hb dX6_hasRoom_18 rfl (lv_at hl 1 rfl) ?_
        refine lv_imul hx hb dX6_hasRoom_19 ?_
        refine lv_iload hx hb dX6_hasRoom_20 (lv_at hl 3 rfl) ?_
        refine lv_iadd hx hb dX6_hasRoom_22 ?_
        obtain ⟨g5, hf⟩ := oG_go hf
        refine xmald (by decide) F hT hW (xm_fix (by decide)) (by decide) (xinb_ok g5) dX6_hasRoom_23 ?_
        obtain ⟨v2, hc4, hf⟩ := oB_go hf
        refine xcallV (n := 3) F hT hW hS (xm_fix (by decide)) xce_12 rfl (kX6_isFull l hl0 G sh sc sr sl a2 x4L1 (sr.1 4 ((3 * a1) + x4L1).toNatClampNeg)  _ hc4) (xgV xw_906 xw_908 xwp_16 xw_4 xw_909) rfl xd_X6_isFull ⟨Nat.le_of_ble_eq_true rfl, Nat.le_of_ble_eq_true rfl⟩ rfl hl.1 rfl (Nat.le_of_ble_eq_true rfl) dX6_hasRoom_24 ⟨Nat.le_of_ble_eq_true rfl, Nat.le_of_ble_eq_true rfl⟩ (fun v9 H locs hres hW hS => ?_) (fun E9 H locs q9 ce9 hres => by cases hres)
        cases hres
        refine W.eq (g2 := F0 m 27 ls (.int v2 :: [])) rfl ?_
        refine lv_if_eq (tgt := 32) hx hb dX6_hasRoom_27 (by decide) (fun c3 => ?_) (fun c3 => ?_)
        · replace hf := if_t c3 hf
          refine lv_iinc (v := (x4L1 + 1)) (lv' := [(4, .int (x4L1 + 1)), (0, .ref (sh.1 12 0)), (1, .int a1), (2, .int a2)]) hx hb dX6_hasRoom_32 hl (k := 3) rfl rfl (by decide) rfl (fun ls hl => ?_)
          refine lv_goto (tgt := 3) hx hb dX6_hasRoom_35 (by decide) ?_
          exact ih_L1 _ hf _ _ hW hS ls (lv_sub hl [1, 2, 3, 0] rfl)
        · replace hf := if_f c3 hf
          refine lv_iconst (v := 0) hx hb dX6_hasRoom_30 (by decide) ?_
          cases hf
          exact xret_i (ty := .boolean) F hr hlocks hS (by decide) rfl hW (Nat.le_of_ble_eq_true rfl) (Nat.le_of_ble_eq_true rfl) dX6_hasRoom_31
  exact hL_L1 _ _ hf _ _ hW hS ls (lv_sub hl [1, 2, 3, 0] rfl)
abbrev rX6_fail : Room := { frames := 5, cells := 0, slots := 0, locals := 115 }
abbrev zX6_fail : List Cond := Cond.code yX6_fail cX6_fail 3 (some .char) :: xB
theorem xd_X6_fail : yX6_fail.cls = RX6 ∧ yX6_fail.cls ≠ "java/lang/invoke/MethodHandle" ∧ yX6_fail.cls ≠ "java/lang/invoke/VarHandle" ∧ (parseMethodDescriptor yX6_fail.desc).map (fun d => d.parameters.length) = some 1 := by decide +kernel
def fX6_fail (a1 : Int32) (sr : xSR) : Option (Int32 × xSR) := oB (fX6_isNoTenant a1 sr) (fun v1 => (if v1 = 0 then oG (xinb a1 6) ((if (sr.1 9 a1.toNatClampNeg) = 0 then oP (fX6_fails 2 sr) (fun v25 s26 => (if v25 = 0 then oG (xinb a1 6) ((if (s26.1 9 a1.toNatClampNeg) = 3 then oG (xinb a1 6) (oG (xinb a1 6) (oG (xinb ((xuR s26.1 12 a1.toNatClampNeg 2, s26.2).1 10 a1.toNatClampNeg) 4) ((if ((xuR s26.1 12 a1.toNatClampNeg 2, s26.2).1 2 ((xuR s26.1 12 a1.toNatClampNeg 2, s26.2).1 10 a1.toNatClampNeg).toNatClampNeg) = 0 then oB (fX6_isBarred a1 ((xuR s26.1 12 a1.toNatClampNeg 2, s26.2).1 10 a1.toNatClampNeg) (xuR s26.1 12 a1.toNatClampNeg 2, s26.2)) (fun v30 => (if v30 = 0 then oB (fX6_hasRoom a1 ((xuR s26.1 12 a1.toNatClampNeg 2, s26.2).1 10 a1.toNatClampNeg) 1 (xuR s26.1 12 a1.toNatClampNeg 2, s26.2)) (fun v32 => (if v32 = 0 then some (97, (xuR s26.1 12 a1.toNatClampNeg 2, s26.2)) else oG (xinb a1 6) (oG (xinb a1 6) (oG (xinb a1 6) (oG (xinb a1 6) (some (98, (xuR (xuR (xuR (xuR (xuR s26.1 12 a1.toNatClampNeg 2, s26.2).1 10 a1.toNatClampNeg ((xuR s26.1 12 a1.toNatClampNeg 2, s26.2).1 11 a1.toNatClampNeg), (xuR s26.1 12 a1.toNatClampNeg 2, s26.2).2).1 11 a1.toNatClampNeg ((xuR s26.1 12 a1.toNatClampNeg 2, s26.2).1 10 a1.toNatClampNeg), (xuR (xuR s26.1 12 a1.toNatClampNeg 2, s26.2).1 10 a1.toNatClampNeg ((xuR s26.1 12 a1.toNatClampNeg 2, s26.2).1 11 a1.toNatClampNeg), (xuR s26.1 12 a1.toNatClampNeg 2, s26.2).2).2).1 8 a1.toNatClampNeg ((xuR s26.1 12 a1.toNatClampNeg 2, s26.2).1 10 a1.toNatClampNeg), (xuR (xuR (xuR s26.1 12 a1.toNatClampNeg 2, s26.2).1 10 a1.toNatClampNeg ((xuR s26.1 12 a1.toNatClampNeg 2, s26.2).1 11 a1.toNatClampNeg), (xuR s26.1 12 a1.toNatClampNeg 2, s26.2).2).1 11 a1.toNatClampNeg ((xuR s26.1 12 a1.toNatClampNeg 2, s26.2).1 10 a1.toNatClampNeg), (xuR (xuR s26.1 12 a1.toNatClampNeg 2, s26.2).1 10 a1.toNatClampNeg ((xuR s26.1 12 a1.toNatClampNeg 2, s26.2).1 11 a1.toNatClampNeg), (xuR s26.1 12 a1.toNatClampNeg 2, s26.2).2).2).2).1 117 0 (((xuR (xuR (xuR (xuR s26.1 12 a1.toNatClampNeg 2, s26.2).1 10 a1.toNatClampNeg ((xuR s26.1 12 a1.toNatClampNeg 2, s26.2).1 11 a1.toNatClampNeg), (xuR s26.1 12 a1.toNatClampNeg 2, s26.2).2).1 11 a1.toNatClampNeg ((xuR s26.1 12 a1.toNatClampNeg 2, s26.2).1 10 a1.toNatClampNeg), (xuR (xuR s26.1 12 a1.toNatClampNeg 2, s26.2).1 10 a1.toNatClampNeg ((xuR s26.1 12 a1.toNatClampNeg 2, s26.2).1 11 a1.toNatClampNeg), (xuR s26.1 12 a1.toNatClampNeg 2, s26.2).2).2).1 8 a1.toNatClampNeg ((xuR s26.1 12 a1.toNatClampNeg 2, s26.2).1 10 a1.toNatClampNeg), (xuR (xuR (xuR s26.1 12 a1.toNatClampNeg 2, s26.2).1 10 a1.toNatClampNeg ((xuR s26.1 12 a1.toNatClampNeg 2, s26.2).1 11 a1.toNatClampNeg), (xuR s26.1 12 a1.toNatClampNeg 2, s26.2).2).1 11 a1.toNatClampNeg ((xuR s26.1 12 a1.toNatClampNeg 2, s26.2).1 10 a1.toNatClampNeg), (xuR (xuR s26.1 12 a1.toNatClampNeg 2, s26.2).1 10 a1.toNatClampNeg ((xuR s26.1 12 a1.toNatClampNeg 2, s26.2).1 11 a1.toNatClampNeg), (xuR s26.1 12 a1.toNatClampNeg 2, s26.2).2).2).2).1 117 0) + 1), (xuR (xuR (xuR (xuR s26.1 12 a1.toNatClampNeg 2, s26.2).1 10 a1.toNatClampNeg ((xuR s26.1 12 a1.toNatClampNeg 2, s26.2).1 11 a1.toNatClampNeg), (xuR s26.1 12 a1.toNatClampNeg 2, s26.2).2).1 11 a1.toNatClampNeg ((xuR s26.1 12 a1.toNatClampNeg 2, s26.2).1 10 a1.toNatClampNeg), (xuR (xuR s26.1 12 a1.toNatClampNeg 2, s26.2).1 10 a1.toNatClampNeg ((xuR s26.1 12 a1.toNatClampNeg 2, s26.2).1 11 a1.toNatClampNeg), (xuR s26.1 12 a1.toNatClampNeg 2, s26.2).2).2).1 8 a1.toNatClampNeg ((xuR s26.1 12 a1.toNatClampNeg 2, s26.2).1 10 a1.toNatClampNeg), (xuR (xuR (xuR s26.1 12 a1.toNatClampNeg 2, s26.2).1 10 a1.toNatClampNeg ((xuR s26.1 12 a1.toNatClampNeg 2, s26.2).1 11 a1.toNatClampNeg), (xuR s26.1 12 a1.toNatClampNeg 2, s26.2).2).1 11 a1.toNatClampNeg ((xuR s26.1 12 a1.toNatClampNeg 2, s26.2).1 10 a1.toNatClampNeg), (xuR (xuR s26.1 12 a1.toNatClampNeg 2, s26.2).1 10 a1.toNatClampNeg ((xuR s26.1 12 a1.toNatClampNeg 2, s26.2).1 11 a1.toNatClampNeg), (xuR s26.1 12 a1.toNatClampNeg 2, s26.2).2).2).2).2)))))))) else some (97, (xuR s26.1 12 a1.toNatClampNeg 2, s26.2)))) else some (97, (xuR s26.1 12 a1.toNatClampNeg 2, s26.2)))))) else oG (xinb a1 6) (some (101, (xuR s26.1 9 a1.toNatClampNeg 0, s26.2))))) else some (97, s26))) else oP (fX6_fails 0 sr) (fun v4 s5 => (if v4 = 0 then oG (xinb a1 6) ((if (s5.1 9 a1.toNatClampNeg) = 3 then oG (xinb a1 6) (oG (xinb a1 6) (oG (xinb ((xuR s5.1 12 a1.toNatClampNeg 2, s5.2).1 10 a1.toNatClampNeg) 4) ((if ((xuR s5.1 12 a1.toNatClampNeg 2, s5.2).1 2 ((xuR s5.1 12 a1.toNatClampNeg 2, s5.2).1 10 a1.toNatClampNeg).toNatClampNeg) = 0 then oB (fX6_isBarred a1 ((xuR s5.1 12 a1.toNatClampNeg 2, s5.2).1 10 a1.toNatClampNeg) (xuR s5.1 12 a1.toNatClampNeg 2, s5.2)) (fun v9 => (if v9 = 0 then oB (fX6_hasRoom a1 ((xuR s5.1 12 a1.toNatClampNeg 2, s5.2).1 10 a1.toNatClampNeg) 1 (xuR s5.1 12 a1.toNatClampNeg 2, s5.2)) (fun v11 => (if v11 = 0 then some (97, (xuR s5.1 12 a1.toNatClampNeg 2, s5.2)) else oG (xinb a1 6) (oG (xinb a1 6) (oG (xinb a1 6) (oG (xinb a1 6) (some (98, (xuR (xuR (xuR (xuR (xuR s5.1 12 a1.toNatClampNeg 2, s5.2).1 10 a1.toNatClampNeg ((xuR s5.1 12 a1.toNatClampNeg 2, s5.2).1 11 a1.toNatClampNeg), (xuR s5.1 12 a1.toNatClampNeg 2, s5.2).2).1 11 a1.toNatClampNeg ((xuR s5.1 12 a1.toNatClampNeg 2, s5.2).1 10 a1.toNatClampNeg), (xuR (xuR s5.1 12 a1.toNatClampNeg 2, s5.2).1 10 a1.toNatClampNeg ((xuR s5.1 12 a1.toNatClampNeg 2, s5.2).1 11 a1.toNatClampNeg), (xuR s5.1 12 a1.toNatClampNeg 2, s5.2).2).2).1 8 a1.toNatClampNeg ((xuR s5.1 12 a1.toNatClampNeg 2, s5.2).1 10 a1.toNatClampNeg), (xuR (xuR (xuR s5.1 12 a1.toNatClampNeg 2, s5.2).1 10 a1.toNatClampNeg ((xuR s5.1 12 a1.toNatClampNeg 2, s5.2).1 11 a1.toNatClampNeg), (xuR s5.1 12 a1.toNatClampNeg 2, s5.2).2).1 11 a1.toNatClampNeg ((xuR s5.1 12 a1.toNatClampNeg 2, s5.2).1 10 a1.toNatClampNeg), (xuR (xuR s5.1 12 a1.toNatClampNeg 2, s5.2).1 10 a1.toNatClampNeg ((xuR s5.1 12 a1.toNatClampNeg 2, s5.2).1 11 a1.toNatClampNeg), (xuR s5.1 12 a1.toNatClampNeg 2, s5.2).2).2).2).1 117 0 (((xuR (xuR (xuR (xuR s5.1 12 a1.toNatClampNeg 2, s5.2).1 10 a1.toNatClampNeg ((xuR s5.1 12 a1.toNatClampNeg 2, s5.2).1 11 a1.toNatClampNeg), (xuR s5.1 12 a1.toNatClampNeg 2, s5.2).2).1 11 a1.toNatClampNeg ((xuR s5.1 12 a1.toNatClampNeg 2, s5.2).1 10 a1.toNatClampNeg), (xuR (xuR s5.1 12 a1.toNatClampNeg 2, s5.2).1 10 a1.toNatClampNeg ((xuR s5.1 12 a1.toNatClampNeg 2, s5.2).1 11 a1.toNatClampNeg), (xuR s5.1 12 a1.toNatClampNeg 2, s5.2).2).2).1 8 a1.toNatClampNeg ((xuR s5.1 12 a1.toNatClampNeg 2, s5.2).1 10 a1.toNatClampNeg), (xuR (xuR (xuR s5.1 12 a1.toNatClampNeg 2, s5.2).1 10 a1.toNatClampNeg ((xuR s5.1 12 a1.toNatClampNeg 2, s5.2).1 11 a1.toNatClampNeg), (xuR s5.1 12 a1.toNatClampNeg 2, s5.2).2).1 11 a1.toNatClampNeg ((xuR s5.1 12 a1.toNatClampNeg 2, s5.2).1 10 a1.toNatClampNeg), (xuR (xuR s5.1 12 a1.toNatClampNeg 2, s5.2).1 10 a1.toNatClampNeg ((xuR s5.1 12 a1.toNatClampNeg 2, s5.2).1 11 a1.toNatClampNeg), (xuR s5.1 12 a1.toNatClampNeg 2, s5.2).2).2).2).1 117 0) + 1), (xuR (xuR (xuR (xuR s5.1 12 a1.toNatClampNeg 2, s5.2).1 10 a1.toNatClampNeg ((xuR s5.1 12 a1.toNatClampNeg 2, s5.2).1 11 a1.toNatClampNeg), (xuR s5.1 12 a1.toNatClampNeg 2, s5.2).2).1 11 a1.toNatClampNeg ((xuR s5.1 12 a1.toNatClampNeg 2, s5.2).1 10 a1.toNatClampNeg), (xuR (xuR s5.1 12 a1.toNatClampNeg 2, s5.2).1 10 a1.toNatClampNeg ((xuR s5.1 12 a1.toNatClampNeg 2, s5.2).1 11 a1.toNatClampNeg), (xuR s5.1 12 a1.toNatClampNeg 2, s5.2).2).2).1 8 a1.toNatClampNeg ((xuR s5.1 12 a1.toNatClampNeg 2, s5.2).1 10 a1.toNatClampNeg), (xuR (xuR (xuR s5.1 12 a1.toNatClampNeg 2, s5.2).1 10 a1.toNatClampNeg ((xuR s5.1 12 a1.toNatClampNeg 2, s5.2).1 11 a1.toNatClampNeg), (xuR s5.1 12 a1.toNatClampNeg 2, s5.2).2).1 11 a1.toNatClampNeg ((xuR s5.1 12 a1.toNatClampNeg 2, s5.2).1 10 a1.toNatClampNeg), (xuR (xuR s5.1 12 a1.toNatClampNeg 2, s5.2).1 10 a1.toNatClampNeg ((xuR s5.1 12 a1.toNatClampNeg 2, s5.2).1 11 a1.toNatClampNeg), (xuR s5.1 12 a1.toNatClampNeg 2, s5.2).2).2).2).2)))))))) else some (97, (xuR s5.1 12 a1.toNatClampNeg 2, s5.2)))) else some (97, (xuR s5.1 12 a1.toNatClampNeg 2, s5.2)))))) else oG (xinb a1 6) (some (101, (xuR s5.1 9 a1.toNatClampNeg 0, s5.2))))) else some (97, s5))))) else oP (fX6_fails 1 sr) (fun v47 s48 => (if v47 = 0 then oG (xinb a1 6) ((if (s48.1 9 a1.toNatClampNeg) = 3 then oG (xinb a1 6) (oG (xinb a1 6) (oG (xinb ((xuR s48.1 12 a1.toNatClampNeg 2, s48.2).1 10 a1.toNatClampNeg) 4) ((if ((xuR s48.1 12 a1.toNatClampNeg 2, s48.2).1 2 ((xuR s48.1 12 a1.toNatClampNeg 2, s48.2).1 10 a1.toNatClampNeg).toNatClampNeg) = 0 then oB (fX6_isBarred a1 ((xuR s48.1 12 a1.toNatClampNeg 2, s48.2).1 10 a1.toNatClampNeg) (xuR s48.1 12 a1.toNatClampNeg 2, s48.2)) (fun v52 => (if v52 = 0 then oB (fX6_hasRoom a1 ((xuR s48.1 12 a1.toNatClampNeg 2, s48.2).1 10 a1.toNatClampNeg) 1 (xuR s48.1 12 a1.toNatClampNeg 2, s48.2)) (fun v54 => (if v54 = 0 then some (97, (xuR s48.1 12 a1.toNatClampNeg 2, s48.2)) else oG (xinb a1 6) (oG (xinb a1 6) (oG (xinb a1 6) (oG (xinb a1 6) (some (98, (xuR (xuR (xuR (xuR (xuR s48.1 12 a1.toNatClampNeg 2, s48.2).1 10 a1.toNatClampNeg ((xuR s48.1 12 a1.toNatClampNeg 2, s48.2).1 11 a1.toNatClampNeg), (xuR s48.1 12 a1.toNatClampNeg 2, s48.2).2).1 11 a1.toNatClampNeg ((xuR s48.1 12 a1.toNatClampNeg 2, s48.2).1 10 a1.toNatClampNeg), (xuR (xuR s48.1 12 a1.toNatClampNeg 2, s48.2).1 10 a1.toNatClampNeg ((xuR s48.1 12 a1.toNatClampNeg 2, s48.2).1 11 a1.toNatClampNeg), (xuR s48.1 12 a1.toNatClampNeg 2, s48.2).2).2).1 8 a1.toNatClampNeg ((xuR s48.1 12 a1.toNatClampNeg 2, s48.2).1 10 a1.toNatClampNeg), (xuR (xuR (xuR s48.1 12 a1.toNatClampNeg 2, s48.2).1 10 a1.toNatClampNeg ((xuR s48.1 12 a1.toNatClampNeg 2, s48.2).1 11 a1.toNatClampNeg), (xuR s48.1 12 a1.toNatClampNeg 2, s48.2).2).1 11 a1.toNatClampNeg ((xuR s48.1 12 a1.toNatClampNeg 2, s48.2).1 10 a1.toNatClampNeg), (xuR (xuR s48.1 12 a1.toNatClampNeg 2, s48.2).1 10 a1.toNatClampNeg ((xuR s48.1 12 a1.toNatClampNeg 2, s48.2).1 11 a1.toNatClampNeg), (xuR s48.1 12 a1.toNatClampNeg 2, s48.2).2).2).2).1 117 0 (((xuR (xuR (xuR (xuR s48.1 12 a1.toNatClampNeg 2, s48.2).1 10 a1.toNatClampNeg ((xuR s48.1 12 a1.toNatClampNeg 2, s48.2).1 11 a1.toNatClampNeg), (xuR s48.1 12 a1.toNatClampNeg 2, s48.2).2).1 11 a1.toNatClampNeg ((xuR s48.1 12 a1.toNatClampNeg 2, s48.2).1 10 a1.toNatClampNeg), (xuR (xuR s48.1 12 a1.toNatClampNeg 2, s48.2).1 10 a1.toNatClampNeg ((xuR s48.1 12 a1.toNatClampNeg 2, s48.2).1 11 a1.toNatClampNeg), (xuR s48.1 12 a1.toNatClampNeg 2, s48.2).2).2).1 8 a1.toNatClampNeg ((xuR s48.1 12 a1.toNatClampNeg 2, s48.2).1 10 a1.toNatClampNeg), (xuR (xuR (xuR s48.1 12 a1.toNatClampNeg 2, s48.2).1 10 a1.toNatClampNeg ((xuR s48.1 12 a1.toNatClampNeg 2, s48.2).1 11 a1.toNatClampNeg), (xuR s48.1 12 a1.toNatClampNeg 2, s48.2).2).1 11 a1.toNatClampNeg ((xuR s48.1 12 a1.toNatClampNeg 2, s48.2).1 10 a1.toNatClampNeg), (xuR (xuR s48.1 12 a1.toNatClampNeg 2, s48.2).1 10 a1.toNatClampNeg ((xuR s48.1 12 a1.toNatClampNeg 2, s48.2).1 11 a1.toNatClampNeg), (xuR s48.1 12 a1.toNatClampNeg 2, s48.2).2).2).2).1 117 0) + 1), (xuR (xuR (xuR (xuR s48.1 12 a1.toNatClampNeg 2, s48.2).1 10 a1.toNatClampNeg ((xuR s48.1 12 a1.toNatClampNeg 2, s48.2).1 11 a1.toNatClampNeg), (xuR s48.1 12 a1.toNatClampNeg 2, s48.2).2).1 11 a1.toNatClampNeg ((xuR s48.1 12 a1.toNatClampNeg 2, s48.2).1 10 a1.toNatClampNeg), (xuR (xuR s48.1 12 a1.toNatClampNeg 2, s48.2).1 10 a1.toNatClampNeg ((xuR s48.1 12 a1.toNatClampNeg 2, s48.2).1 11 a1.toNatClampNeg), (xuR s48.1 12 a1.toNatClampNeg 2, s48.2).2).2).1 8 a1.toNatClampNeg ((xuR s48.1 12 a1.toNatClampNeg 2, s48.2).1 10 a1.toNatClampNeg), (xuR (xuR (xuR s48.1 12 a1.toNatClampNeg 2, s48.2).1 10 a1.toNatClampNeg ((xuR s48.1 12 a1.toNatClampNeg 2, s48.2).1 11 a1.toNatClampNeg), (xuR s48.1 12 a1.toNatClampNeg 2, s48.2).2).1 11 a1.toNatClampNeg ((xuR s48.1 12 a1.toNatClampNeg 2, s48.2).1 10 a1.toNatClampNeg), (xuR (xuR s48.1 12 a1.toNatClampNeg 2, s48.2).1 10 a1.toNatClampNeg ((xuR s48.1 12 a1.toNatClampNeg 2, s48.2).1 11 a1.toNatClampNeg), (xuR s48.1 12 a1.toNatClampNeg 2, s48.2).2).2).2).2)))))))) else some (97, (xuR s48.1 12 a1.toNatClampNeg 2, s48.2)))) else some (97, (xuR s48.1 12 a1.toNatClampNeg 2, s48.2)))))) else oG (xinb a1 6) (some (101, (xuR s48.1 9 a1.toNatClampNeg 0, s48.2))))) else some (97, s48)))))
set_option maxHeartbeats 4000000 in
set_option maxRecDepth 100000 in
theorem kX6_fail (l : Launch) (hl0 : l.stackTraces = false) (G : xG) (sh : xSh) (sc : xSC) (sr : xSR) (sl : xSL) (a1 : Int32) (r : (Int32 × xSR)) (hf : fX6_fail a1 sr = some r) : xMet l yX6_fail zX6_fail rX6_fail G sh sc sr sl ([.ref (sh.1 12 0), .int a1] : List Value) (xvI (.inr r.1)) (xWd G sh sc r.2 sl) := by
  refine xMet_of (cc := cX6_fail) (maxL := 3) (ret := (some .char)) (by decide) (Nat.le_of_ble_eq_true rfl) ?_
  intro p e s m below meth c F hT hW hr hlocks htab ls hl
  have F : CallFix p m c cX6_fail 3 s ([.ref (sh.1 12 0), .int a1] : List Value).toArray xB RX6 := F
  have hx := F.1
  have hb := F.2.1
  have hS : va_S (xA G) s.heap s.heap [] := va_S.rf
  have hl : lv_has ls 3 [(0, .ref (sh.1 12 0)), (1, .int a1)] := hl
  unfold fX6_fail at hf
  refine lv_aload_n hx hb dX6_fail_0 rfl (lv_at hl 0 rfl) ?_
  refine lv_aload_n hx hb dX6_fail_1 rfl (lv_at hl 0 rfl) ?_
  refine lv_iload_n hx hb dX6_fail_2 rfl (lv_at hl 1 rfl) ?_
  obtain ⟨v1, hc68, hf⟩ := oB_go hf
  refine xcallV (n := 1) F hT hW hS (xm_fix (by decide)) xce_12 rfl (kX6_isNoTenant l hl0 G sh sc sr sl a1  _ hc68) (xgV xw_926 xw_928 xwp_20 xw_4 xw_929) rfl xd_X6_isNoTenant ⟨Nat.le_of_ble_eq_true rfl, Nat.le_of_ble_eq_true rfl⟩ rfl hl.1 rfl (Nat.le_of_ble_eq_true rfl) dX6_fail_3 ⟨Nat.le_of_ble_eq_true rfl, Nat.le_of_ble_eq_true rfl⟩ (fun v9 H locs hres hW hS => ?_) (fun E9 H locs q9 ce9 hres => by cases hres)
  cases hres
  refine W.eq (g2 := F0 m 6 ls (.int v1 :: .ref (sh.1 12 0) :: [])) rfl ?_
  refine lv_if_eq (tgt := 13) hx hb dX6_fail_6 (by decide) (fun c2 => ?_) (fun c2 => ?_)
  · replace hf := if_t c2 hf
    refine lv_aload_n hx hb dX6_fail_13 rfl (lv_at hl 0 rfl) ?_
    refine xget F hT hW xuX6 (xm_fix (by decide)) xce_12 rfl 9 (by decide) xw_809 rfl rfl dX6_fail_14 ?_
    refine lv_iload_n hx hb dX6_fail_17 rfl (lv_at hl 1 rfl) ?_
    obtain ⟨g46, hf⟩ := oG_go hf
    refine xmald (by decide) F hT hW (xm_fix (by decide)) (by decide) (xinb_ok g46) dX6_fail_18 ?_
    refine lv_if_ne (tgt := 26) hx hb dX6_fail_19 (by decide) (fun c3 => ?_) (fun c3 => ?_)
    · replace hf := if_f c3 hf
      refine lv_iconst (v := 0) hx hb dX6_fail_26 (by decide) ?_
      obtain ⟨v4, s5, hc24, hf⟩ := oP_go hf
      refine xcallV (n := 1) F hT hW hS (xm_fix (by decide)) xce_12 rfl (kX6_fails l hl0 G sh sc sr sl 0  _ hc24) (xgV xw_883 xw_885 xwp_14 xw_4 xw_886) rfl xd_X6_fails ⟨Nat.le_of_ble_eq_true rfl, Nat.le_of_ble_eq_true rfl⟩ rfl hl.1 rfl (Nat.le_of_ble_eq_true rfl) dX6_fail_27 ⟨Nat.le_of_ble_eq_true rfl, Nat.le_of_ble_eq_true rfl⟩ (fun v9 H locs hres hW hS => ?_) (fun E9 H locs q9 ce9 hres => by cases hres)
      cases hres
      refine W.eq (g2 := F0 m 30 ls (.int v4 :: [])) rfl ?_
      refine lv_if_eq (tgt := 36) hx hb dX6_fail_30 (by decide) (fun c6 => ?_) (fun c6 => ?_)
      · replace hf := if_t c6 hf
        refine lv_aload_n hx hb dX6_fail_36 rfl (lv_at hl 0 rfl) ?_
        refine xget F hT hW xuX6 (xm_fix (by decide)) xce_12 rfl 9 (by decide) xw_809 rfl rfl dX6_fail_37 ?_
        refine lv_iload_n hx hb dX6_fail_40 rfl (lv_at hl 1 rfl) ?_
        obtain ⟨g23, hf⟩ := oG_go hf
        refine xmald (by decide) F hT hW (xm_fix (by decide)) (by decide) (xinb_ok g23) dX6_fail_41 ?_
        refine lv_iconst (v := 3) hx hb dX6_fail_42 (by decide) ?_
        refine lv_icmp_eq (tgt := 56) hx hb dX6_fail_43 (by decide) (fun c7 => ?_) (fun c7 => ?_)
        · replace hf := if_t c7 hf
          refine lv_aload_n hx hb dX6_fail_56 rfl (lv_at hl 0 rfl) ?_
          refine xget F hT hW xuX6 (xm_fix (by decide)) xce_12 rfl 12 (by decide) xw_812 rfl rfl dX6_fail_57 ?_
          refine lv_iload_n hx hb dX6_fail_60 rfl (lv_at hl 1 rfl) ?_
          refine lv_iconst (v := 2) hx hb dX6_fail_61 (by decide) ?_
          obtain ⟨g21, hf⟩ := oG_go hf
          refine xmast (by decide) F hT hW hS (xm_fix (by decide)) (by decide) (xinb_ok g21) dX6_fail_62 (fun H locs hW hS => ?_)
          refine lv_aload_n hx hb dX6_fail_63 rfl (lv_at hl 0 rfl) ?_
          refine xget F hT hW xuX6 (xm_fix (by decide)) xce_12 rfl 10 (by decide) xw_810 rfl rfl dX6_fail_64 ?_
          refine lv_iload_n hx hb dX6_fail_67 rfl (lv_at hl 1 rfl) ?_
          obtain ⟨g20, hf⟩ := oG_go hf
          refine xmald (by decide) F hT hW (xm_fix (by decide)) (by decide) (xinb_ok g20) dX6_fail_68 ?_
          refine lv_istore_n (lv' := [(2, .int ((xuR s5.1 12 a1.toNatClampNeg 2, s5.2).1 10 a1.toNatClampNeg)), (0, .ref (sh.1 12 0)), (1, .int a1)]) hx hb dX6_fail_69 rfl hl (by decide) rfl (fun ls hl => ?_)
          refine lv_aload_n hx hb dX6_fail_70 rfl (lv_at hl 1 rfl) ?_
          refine xget F hT hW xuX6 (xm_fix (by decide)) xce_12 rfl 2 (by decide) xw_802 rfl rfl dX6_fail_71 ?_
          refine lv_iload_n hx hb dX6_fail_74 rfl (lv_at hl 0 rfl) ?_
          obtain ⟨g19, hf⟩ := oG_go hf
          refine xmbld F hT hW (xinb_ok g19) dX6_fail_75 ?_
          refine lv_if_ne (tgt := 98) hx hb dX6_fail_76 (by decide) (fun c8 => ?_) (fun c8 => ?_)
          · replace hf := if_f c8 hf
            refine lv_bipush (v := 97) hx hb dX6_fail_98 (by decide) ?_
            cases hf
            exact xret_i (ty := .char) F hr hlocks hS (by decide) rfl hW (Nat.le_of_ble_eq_true rfl) (Nat.le_of_ble_eq_true rfl) dX6_fail_100
          · replace hf := if_t c8 hf
            refine lv_aload_n hx hb dX6_fail_79 rfl (lv_at hl 1 rfl) ?_
            refine lv_iload_n hx hb dX6_fail_80 rfl (lv_at hl 2 rfl) ?_
            refine lv_iload_n hx hb dX6_fail_81 rfl (lv_at hl 0 rfl) ?_
            obtain ⟨v9, hc18, hf⟩ := oB_go hf
            refine xcallV (n := 2) F hT hW hS (xm_fix (by decide)) xce_12 rfl (kX6_isBarred l hl0 G sh sc (xuR s5.1 12 a1.toNatClampNeg 2, s5.2) sl a1 ((xuR s5.1 12 a1.toNatClampNeg 2, s5.2).1 10 a1.toNatClampNeg)  _ hc18) (xgV xw_950 xw_952 xwp_23 xw_4 xw_953) rfl xd_X6_isBarred ⟨Nat.le_of_ble_eq_true rfl, Nat.le_of_ble_eq_true rfl⟩ rfl hl.1 rfl (Nat.le_of_ble_eq_true rfl) dX6_fail_82 ⟨Nat.le_of_ble_eq_true rfl, Nat.le_of_ble_eq_true rfl⟩ (fun v9 H locs hres hW hS => ?_) (fun E9 H locs q9 ce9 hres => by cases hres)
            cases hres
            refine W.eq (g2 := F0 m 85 ls (.int v9 :: [])) rfl ?_
            refine lv_if_ne (tgt := 98) hx hb dX6_fail_85 (by decide) (fun c10 => ?_) (fun c10 => ?_)
            · replace hf := if_f c10 hf
              refine lv_bipush (v := 97) hx hb dX6_fail_98 (by decide) ?_
              cases hf
              exact xret_i (ty := .char) F hr hlocks hS (by decide) rfl hW (Nat.le_of_ble_eq_true rfl) (Nat.le_of_ble_eq_true rfl) dX6_fail_100
            · replace hf := if_t c10 hf
              refine lv_aload_n hx hb dX6_fail_88 rfl (lv_at hl 1 rfl) ?_
              refine lv_iload_n hx hb dX6_fail_89 rfl (lv_at hl 2 rfl) ?_
              refine lv_iload_n hx hb dX6_fail_90 rfl (lv_at hl 0 rfl) ?_
              refine lv_iconst (v := 1) hx hb dX6_fail_91 (by decide) ?_
              obtain ⟨v11, hc17, hf⟩ := oB_go hf
              refine xcallV (n := 3) F hT hW hS (xm_fix (by decide)) xce_12 rfl (kX6_hasRoom l hl0 G sh sc (xuR s5.1 12 a1.toNatClampNeg 2, s5.2) sl a1 ((xuR s5.1 12 a1.toNatClampNeg 2, s5.2).1 10 a1.toNatClampNeg) 1  _ hc17) (xgV xw_954 xw_956 xwp_24 xw_4 xw_957) rfl xd_X6_hasRoom ⟨Nat.le_of_ble_eq_true rfl, Nat.le_of_ble_eq_true rfl⟩ rfl hl.1 rfl (Nat.le_of_ble_eq_true rfl) dX6_fail_92 ⟨Nat.le_of_ble_eq_true rfl, Nat.le_of_ble_eq_true rfl⟩ (fun v9 H locs hres hW hS => ?_) (fun E9 H locs q9 ce9 hres => by cases hres)
              cases hres
              refine W.eq (g2 := F0 m 95 ls (.int v11 :: [])) rfl ?_
              refine lv_if_ne (tgt := 101) hx hb dX6_fail_95 (by decide) (fun c12 => ?_) (fun c12 => ?_)
              · replace hf := if_f c12 hf
                refine lv_aload_n hx hb dX6_fail_101 rfl (lv_at hl 1 rfl) ?_
                refine xget F hT hW xuX6 (xm_fix (by decide)) xce_12 rfl 10 (by decide) xw_810 rfl rfl dX6_fail_102 ?_
                refine lv_iload_n hx hb dX6_fail_105 rfl (lv_at hl 2 rfl) ?_
                refine lv_aload_n hx hb dX6_fail_106 rfl (lv_at hl 1 rfl) ?_
                refine xget F hT hW xuX6 (xm_fix (by decide)) xce_12 rfl 11 (by decide) xw_811 rfl rfl dX6_fail_107 ?_
                refine lv_iload_n hx hb dX6_fail_110 rfl (lv_at hl 2 rfl) ?_
                obtain ⟨g16, hf⟩ := oG_go hf
                refine xmald (by decide) F hT hW (xm_fix (by decide)) (by decide) (xinb_ok g16) dX6_fail_111 ?_
                obtain ⟨g15, hf⟩ := oG_go hf
                refine xmast (by decide) F hT hW hS (xm_fix (by decide)) (by decide) (xinb_ok g15) dX6_fail_112 (fun H locs hW hS => ?_)
                refine lv_aload_n hx hb dX6_fail_113 rfl (lv_at hl 1 rfl) ?_
                refine xget F hT hW xuX6 (xm_fix (by decide)) xce_12 rfl 11 (by decide) xw_811 rfl rfl dX6_fail_114 ?_
                refine lv_iload_n hx hb dX6_fail_117 rfl (lv_at hl 2 rfl) ?_
                refine lv_iload_n hx hb dX6_fail_118 rfl (lv_at hl 0 rfl) ?_
                obtain ⟨g14, hf⟩ := oG_go hf
                refine xmast (by decide) F hT hW hS (xm_fix (by decide)) (by decide) (xinb_ok g14) dX6_fail_119 (fun H locs hW hS => ?_)
                refine lv_aload_n hx hb dX6_fail_120 rfl (lv_at hl 1 rfl) ?_
                refine xget F hT hW xuX6 (xm_fix (by decide)) xce_12 rfl 8 (by decide) xw_808 rfl rfl dX6_fail_121 ?_
                refine lv_iload_n hx hb dX6_fail_124 rfl (lv_at hl 2 rfl) ?_
                refine lv_iload_n hx hb dX6_fail_125 rfl (lv_at hl 0 rfl) ?_
                obtain ⟨g13, hf⟩ := oG_go hf
                refine xmast (by decide) F hT hW hS (xm_fix (by decide)) (by decide) (xinb_ok g13) dX6_fail_126 (fun H locs hW hS => ?_)
                refine lv_aload_n hx hb dX6_fail_127 rfl (lv_at hl 1 rfl) ?_
                refine lv_dup hx hb dX6_fail_128 rfl ?_
                refine xget F hT hW xuX6 (xm_fix (by decide)) xce_12 rfl 17 (by decide) xw_817 rfl rfl dX6_fail_129 ?_
                refine lv_iconst (v := 1) hx hb dX6_fail_132 (by decide) ?_
                refine lv_iadd hx hb dX6_fail_133 ?_
                refine xput (ty := .int) F hT hW hS xuX6 tyX6 tyX6_ok nmX6 (xm_fix (by decide)) xce_12 rfl 17 (by decide) xw_817 rfl rfl rfl rfl rfl (Nat.le_of_ble_eq_true rfl) xup_12_17 dX6_fail_134 (fun H locs hW hS => ?_)
                refine lv_bipush (v := 98) hx hb dX6_fail_137 (by decide) ?_
                cases hf
                exact xret_i (ty := .char) F hr hlocks hS (by decide) rfl hW (Nat.le_of_ble_eq_true rfl) (Nat.le_of_ble_eq_true rfl) dX6_fail_139
              · replace hf := if_t c12 hf
                refine lv_bipush (v := 97) hx hb dX6_fail_98 (by decide) ?_
                cases hf
                exact xret_i (ty := .char) F hr hlocks hS (by decide) rfl hW (Nat.le_of_ble_eq_true rfl) (Nat.le_of_ble_eq_true rfl) dX6_fail_100
        · replace hf := if_f c7 hf
          refine lv_aload_n hx hb dX6_fail_46 rfl (lv_at hl 0 rfl) ?_
          refine xget F hT hW xuX6 (xm_fix (by decide)) xce_12 rfl 9 (by decide) xw_809 rfl rfl dX6_fail_47 ?_
          refine lv_iload_n hx hb dX6_fail_50 rfl (lv_at hl 1 rfl) ?_
          refine lv_iconst (v := 0) hx hb dX6_fail_51 (by decide) ?_
          obtain ⟨g22, hf⟩ := oG_go hf
          refine xmast (by decide) F hT hW hS (xm_fix (by decide)) (by decide) (xinb_ok g22) dX6_fail_52 (fun H locs hW hS => ?_)
          refine lv_bipush (v := 101) hx hb dX6_fail_53 (by decide) ?_
          cases hf
          exact xret_i (ty := .char) F hr hlocks hS (by decide) rfl hW (Nat.le_of_ble_eq_true rfl) (Nat.le_of_ble_eq_true rfl) dX6_fail_55
      · replace hf := if_f c6 hf
        refine lv_bipush (v := 97) hx hb dX6_fail_33 (by decide) ?_
        cases hf
        exact xret_i (ty := .char) F hr hlocks hS (by decide) rfl hW (Nat.le_of_ble_eq_true rfl) (Nat.le_of_ble_eq_true rfl) dX6_fail_35
    · replace hf := if_t c3 hf
      refine lv_iconst (v := 2) hx hb dX6_fail_22 (by decide) ?_
      refine lv_goto (tgt := 27) hx hb dX6_fail_23 (by decide) ?_
      obtain ⟨v25, s26, hc45, hf⟩ := oP_go hf
      refine xcallV (n := 1) F hT hW hS (xm_fix (by decide)) xce_12 rfl (kX6_fails l hl0 G sh sc sr sl 2  _ hc45) (xgV xw_883 xw_885 xwp_14 xw_4 xw_886) rfl xd_X6_fails ⟨Nat.le_of_ble_eq_true rfl, Nat.le_of_ble_eq_true rfl⟩ rfl hl.1 rfl (Nat.le_of_ble_eq_true rfl) dX6_fail_27 ⟨Nat.le_of_ble_eq_true rfl, Nat.le_of_ble_eq_true rfl⟩ (fun v9 H locs hres hW hS => ?_) (fun E9 H locs q9 ce9 hres => by cases hres)
      cases hres
      refine W.eq (g2 := F0 m 30 ls (.int v25 :: [])) rfl ?_
      refine lv_if_eq (tgt := 36) hx hb dX6_fail_30 (by decide) (fun c27 => ?_) (fun c27 => ?_)
      · replace hf := if_t c27 hf
        refine lv_aload_n hx hb dX6_fail_36 rfl (lv_at hl 0 rfl) ?_
        refine xget F hT hW xuX6 (xm_fix (by decide)) xce_12 rfl 9 (by decide) xw_809 rfl rfl dX6_fail_37 ?_
        refine lv_iload_n hx hb dX6_fail_40 rfl (lv_at hl 1 rfl) ?_
        obtain ⟨g44, hf⟩ := oG_go hf
        refine xmald (by decide) F hT hW (xm_fix (by decide)) (by decide) (xinb_ok g44) dX6_fail_41 ?_
        refine lv_iconst (v := 3) hx hb dX6_fail_42 (by decide) ?_
        refine lv_icmp_eq (tgt := 56) hx hb dX6_fail_43 (by decide) (fun c28 => ?_) (fun c28 => ?_)
        · replace hf := if_t c28 hf
          refine lv_aload_n hx hb dX6_fail_56 rfl (lv_at hl 0 rfl) ?_
          refine xget F hT hW xuX6 (xm_fix (by decide)) xce_12 rfl 12 (by decide) xw_812 rfl rfl dX6_fail_57 ?_
          refine lv_iload_n hx hb dX6_fail_60 rfl (lv_at hl 1 rfl) ?_
          refine lv_iconst (v := 2) hx hb dX6_fail_61 (by decide) ?_
          obtain ⟨g42, hf⟩ := oG_go hf
          refine xmast (by decide) F hT hW hS (xm_fix (by decide)) (by decide) (xinb_ok g42) dX6_fail_62 (fun H locs hW hS => ?_)
          refine lv_aload_n hx hb dX6_fail_63 rfl (lv_at hl 0 rfl) ?_
          refine xget F hT hW xuX6 (xm_fix (by decide)) xce_12 rfl 10 (by decide) xw_810 rfl rfl dX6_fail_64 ?_
          refine lv_iload_n hx hb dX6_fail_67 rfl (lv_at hl 1 rfl) ?_
          obtain ⟨g41, hf⟩ := oG_go hf
          refine xmald (by decide) F hT hW (xm_fix (by decide)) (by decide) (xinb_ok g41) dX6_fail_68 ?_
          refine lv_istore_n (lv' := [(2, .int ((xuR s26.1 12 a1.toNatClampNeg 2, s26.2).1 10 a1.toNatClampNeg)), (0, .ref (sh.1 12 0)), (1, .int a1)]) hx hb dX6_fail_69 rfl hl (by decide) rfl (fun ls hl => ?_)
          refine lv_aload_n hx hb dX6_fail_70 rfl (lv_at hl 1 rfl) ?_
          refine xget F hT hW xuX6 (xm_fix (by decide)) xce_12 rfl 2 (by decide) xw_802 rfl rfl dX6_fail_71 ?_
          refine lv_iload_n hx hb dX6_fail_74 rfl (lv_at hl 0 rfl) ?_
          obtain ⟨g40, hf⟩ := oG_go hf
          refine xmbld F hT hW (xinb_ok g40) dX6_fail_75 ?_
          refine lv_if_ne (tgt := 98) hx hb dX6_fail_76 (by decide) (fun c29 => ?_) (fun c29 => ?_)
          · replace hf := if_f c29 hf
            refine lv_bipush (v := 97) hx hb dX6_fail_98 (by decide) ?_
            cases hf
            exact xret_i (ty := .char) F hr hlocks hS (by decide) rfl hW (Nat.le_of_ble_eq_true rfl) (Nat.le_of_ble_eq_true rfl) dX6_fail_100
          · replace hf := if_t c29 hf
            refine lv_aload_n hx hb dX6_fail_79 rfl (lv_at hl 1 rfl) ?_
            refine lv_iload_n hx hb dX6_fail_80 rfl (lv_at hl 2 rfl) ?_
            refine lv_iload_n hx hb dX6_fail_81 rfl (lv_at hl 0 rfl) ?_
            obtain ⟨v30, hc39, hf⟩ := oB_go hf
            refine xcallV (n := 2) F hT hW hS (xm_fix (by decide)) xce_12 rfl (kX6_isBarred l hl0 G sh sc (xuR s26.1 12 a1.toNatClampNeg 2, s26.2) sl a1 ((xuR s26.1 12 a1.toNatClampNeg 2, s26.2).1 10 a1.toNatClampNeg)  _ hc39) (xgV xw_950 xw_952 xwp_23 xw_4 xw_953) rfl xd_X6_isBarred ⟨Nat.le_of_ble_eq_true rfl, Nat.le_of_ble_eq_true rfl⟩ rfl hl.1 rfl (Nat.le_of_ble_eq_true rfl) dX6_fail_82 ⟨Nat.le_of_ble_eq_true rfl, Nat.le_of_ble_eq_true rfl⟩ (fun v9 H locs hres hW hS => ?_) (fun E9 H locs q9 ce9 hres => by cases hres)
            cases hres
            refine W.eq (g2 := F0 m 85 ls (.int v30 :: [])) rfl ?_
            refine lv_if_ne (tgt := 98) hx hb dX6_fail_85 (by decide) (fun c31 => ?_) (fun c31 => ?_)
            · replace hf := if_f c31 hf
              refine lv_bipush (v := 97) hx hb dX6_fail_98 (by decide) ?_
              cases hf
              exact xret_i (ty := .char) F hr hlocks hS (by decide) rfl hW (Nat.le_of_ble_eq_true rfl) (Nat.le_of_ble_eq_true rfl) dX6_fail_100
            · replace hf := if_t c31 hf
              refine lv_aload_n hx hb dX6_fail_88 rfl (lv_at hl 1 rfl) ?_
              refine lv_iload_n hx hb dX6_fail_89 rfl (lv_at hl 2 rfl) ?_
              refine lv_iload_n hx hb dX6_fail_90 rfl (lv_at hl 0 rfl) ?_
              refine lv_iconst (v := 1) hx hb dX6_fail_91 (by decide) ?_
              obtain ⟨v32, hc38, hf⟩ := oB_go hf
              refine xcallV (n := 3) F hT hW hS (xm_fix (by decide)) xce_12 rfl (kX6_hasRoom l hl0 G sh sc (xuR s26.1 12 a1.toNatClampNeg 2, s26.2) sl a1 ((xuR s26.1 12 a1.toNatClampNeg 2, s26.2).1 10 a1.toNatClampNeg) 1  _ hc38) (xgV xw_954 xw_956 xwp_24 xw_4 xw_957) rfl xd_X6_hasRoom ⟨Nat.le_of_ble_eq_true rfl, Nat.le_of_ble_eq_true rfl⟩ rfl hl.1 rfl (Nat.le_of_ble_eq_true rfl) dX6_fail_92 ⟨Nat.le_of_ble_eq_true rfl, Nat.le_of_ble_eq_true rfl⟩ (fun v9 H locs hres hW hS => ?_) (fun E9 H locs q9 ce9 hres => by cases hres)
              cases hres
              refine W.eq (g2 := F0 m 95 ls (.int v32 :: [])) rfl ?_
              refine lv_if_ne (tgt := 101) hx hb dX6_fail_95 (by decide) (fun c33 => ?_) (fun c33 => ?_)
              · replace hf := if_f c33 hf
                refine lv_aload_n hx hb dX6_fail_101 rfl (lv_at hl 1 rfl) ?_
                refine xget F hT hW xuX6 (xm_fix (by decide)) xce_12 rfl 10 (by decide) xw_810 rfl rfl dX6_fail_102 ?_
                refine lv_iload_n hx hb dX6_fail_105 rfl (lv_at hl 2 rfl) ?_
                refine lv_aload_n hx hb dX6_fail_106 rfl (lv_at hl 1 rfl) ?_
                refine xget F hT hW xuX6 (xm_fix (by decide)) xce_12 rfl 11 (by decide) xw_811 rfl rfl dX6_fail_107 ?_
                refine lv_iload_n hx hb dX6_fail_110 rfl (lv_at hl 2 rfl) ?_
                obtain ⟨g37, hf⟩ := oG_go hf
                refine xmald (by decide) F hT hW (xm_fix (by decide)) (by decide) (xinb_ok g37) dX6_fail_111 ?_
                obtain ⟨g36, hf⟩ := oG_go hf
                refine xmast (by decide) F hT hW hS (xm_fix (by decide)) (by decide) (xinb_ok g36) dX6_fail_112 (fun H locs hW hS => ?_)
                refine lv_aload_n hx hb dX6_fail_113 rfl (lv_at hl 1 rfl) ?_
                refine xget F hT hW xuX6 (xm_fix (by decide)) xce_12 rfl 11 (by decide) xw_811 rfl rfl dX6_fail_114 ?_
                refine lv_iload_n hx hb dX6_fail_117 rfl (lv_at hl 2 rfl) ?_
                refine lv_iload_n hx hb dX6_fail_118 rfl (lv_at hl 0 rfl) ?_
                obtain ⟨g35, hf⟩ := oG_go hf
                refine xmast (by decide) F hT hW hS (xm_fix (by decide)) (by decide) (xinb_ok g35) dX6_fail_119 (fun H locs hW hS => ?_)
                refine lv_aload_n hx hb dX6_fail_120 rfl (lv_at hl 1 rfl) ?_
                refine xget F hT hW xuX6 (xm_fix (by decide)) xce_12 rfl 8 (by decide) xw_808 rfl rfl dX6_fail_121 ?_
                refine lv_iload_n hx hb dX6_fail_124 rfl (lv_at hl 2 rfl) ?_
                refine lv_iload_n hx hb dX6_fail_125 rfl (lv_at hl 0 rfl) ?_
                obtain ⟨g34, hf⟩ := oG_go hf
                refine xmast (by decide) F hT hW hS (xm_fix (by decide)) (by decide) (xinb_ok g34) dX6_fail_126 (fun H locs hW hS => ?_)
                refine lv_aload_n hx hb dX6_fail_127 rfl (lv_at hl 1 rfl) ?_
                refine lv_dup hx hb dX6_fail_128 rfl ?_
                refine xget F hT hW xuX6 (xm_fix (by decide)) xce_12 rfl 17 (by decide) xw_817 rfl rfl dX6_fail_129 ?_
                refine lv_iconst (v := 1) hx hb dX6_fail_132 (by decide) ?_
                refine lv_iadd hx hb dX6_fail_133 ?_
                refine xput (ty := .int) F hT hW hS xuX6 tyX6 tyX6_ok nmX6 (xm_fix (by decide)) xce_12 rfl 17 (by decide) xw_817 rfl rfl rfl rfl rfl (Nat.le_of_ble_eq_true rfl) xup_12_17 dX6_fail_134 (fun H locs hW hS => ?_)
                refine lv_bipush (v := 98) hx hb dX6_fail_137 (by decide) ?_
                cases hf
                exact xret_i (ty := .char) F hr hlocks hS (by decide) rfl hW (Nat.le_of_ble_eq_true rfl) (Nat.le_of_ble_eq_true rfl) dX6_fail_139
              · replace hf := if_t c33 hf
                refine lv_bipush (v := 97) hx hb dX6_fail_98 (by decide) ?_
                cases hf
                exact xret_i (ty := .char) F hr hlocks hS (by decide) rfl hW (Nat.le_of_ble_eq_true rfl) (Nat.le_of_ble_eq_true rfl) dX6_fail_100
        · replace hf := if_f c28 hf
          refine lv_aload_n hx hb dX6_fail_46 rfl (lv_at hl 0 rfl) ?_
          refine xget F hT hW xuX6 (xm_fix (by decide)) xce_12 rfl 9 (by decide) xw_809 rfl rfl dX6_fail_47 ?_
          refine lv_iload_n hx hb dX6_fail_50 rfl (lv_at hl 1 rfl) ?_
          refine lv_iconst (v := 0) hx hb dX6_fail_51 (by decide) ?_
          obtain ⟨g43, hf⟩ := oG_go hf
          refine xmast (by decide) F hT hW hS (xm_fix (by decide)) (by decide) (xinb_ok g43) dX6_fail_52 (fun H locs hW hS => ?_)
          refine lv_bipush (v := 101) hx hb dX6_fail_53 (by decide) ?_
          cases hf
          exact xret_i (ty := .char) F hr hlocks hS (by decide) rfl hW (Nat.le_of_ble_eq_true rfl) (Nat.le_of_ble_eq_true rfl) dX6_fail_55
      · replace hf := if_f c27 hf
        refine lv_bipush (v := 97) hx hb dX6_fail_33 (by decide) ?_
        cases hf
        exact xret_i (ty := .char) F hr hlocks hS (by decide) rfl hW (Nat.le_of_ble_eq_true rfl) (Nat.le_of_ble_eq_true rfl) dX6_fail_35
  · replace hf := if_f c2 hf
    refine lv_iconst (v := 1) hx hb dX6_fail_9 (by decide) ?_
    refine lv_goto (tgt := 27) hx hb dX6_fail_10 (by decide) ?_
    obtain ⟨v47, s48, hc67, hf⟩ := oP_go hf
    refine xcallV (n := 1) F hT hW hS (xm_fix (by decide)) xce_12 rfl (kX6_fails l hl0 G sh sc sr sl 1  _ hc67) (xgV xw_883 xw_885 xwp_14 xw_4 xw_886) rfl xd_X6_fails ⟨Nat.le_of_ble_eq_true rfl, Nat.le_of_ble_eq_true rfl⟩ rfl hl.1 rfl (Nat.le_of_ble_eq_true rfl) dX6_fail_27 ⟨Nat.le_of_ble_eq_true rfl, Nat.le_of_ble_eq_true rfl⟩ (fun v9 H locs hres hW hS => ?_) (fun E9 H locs q9 ce9 hres => by cases hres)
    cases hres
    refine W.eq (g2 := F0 m 30 ls (.int v47 :: [])) rfl ?_
    refine lv_if_eq (tgt := 36) hx hb dX6_fail_30 (by decide) (fun c49 => ?_) (fun c49 => ?_)
    · replace hf := if_t c49 hf
      refine lv_aload_n hx hb dX6_fail_36 rfl (lv_at hl 0 rfl) ?_
      refine xget F hT hW xuX6 (xm_fix (by decide)) xce_12 rfl 9 (by decide) xw_809 rfl rfl dX6_fail_37 ?_
      refine lv_iload_n hx hb dX6_fail_40 rfl (lv_at hl 1 rfl) ?_
      obtain ⟨g66, hf⟩ := oG_go hf
      refine xmald (by decide) F hT hW (xm_fix (by decide)) (by decide) (xinb_ok g66) dX6_fail_41 ?_
      refine lv_iconst (v := 3) hx hb dX6_fail_42 (by decide) ?_
      refine lv_icmp_eq (tgt := 56) hx hb dX6_fail_43 (by decide) (fun c50 => ?_) (fun c50 => ?_)
      · replace hf := if_t c50 hf
        refine lv_aload_n hx hb dX6_fail_56 rfl (lv_at hl 0 rfl) ?_
        refine xget F hT hW xuX6 (xm_fix (by decide)) xce_12 rfl 12 (by decide) xw_812 rfl rfl dX6_fail_57 ?_
        refine lv_iload_n hx hb dX6_fail_60 rfl (lv_at hl 1 rfl) ?_
        refine lv_iconst (v := 2) hx hb dX6_fail_61 (by decide) ?_
        obtain ⟨g64, hf⟩ := oG_go hf
        refine xmast (by decide) F hT hW hS (xm_fix (by decide)) (by decide) (xinb_ok g64) dX6_fail_62 (fun H locs hW hS => ?_)
        refine lv_aload_n hx hb dX6_fail_63 rfl (lv_at hl 0 rfl) ?_
        refine xget F hT hW xuX6 (xm_fix (by decide)) xce_12 rfl 10 (by decide) xw_810 rfl rfl dX6_fail_64 ?_
        refine lv_iload_n hx hb dX6_fail_67 rfl (lv_at hl 1 rfl) ?_
        obtain ⟨g63, hf⟩ := oG_go hf
        refine xmald (by decide) F hT hW (xm_fix (by decide)) (by decide) (xinb_ok g63) dX6_fail_68 ?_
        refine lv_istore_n (lv' := [(2, .int ((xuR s48.1 12 a1.toNatClampNeg 2, s48.2).1 10 a1.toNatClampNeg)), (0, .ref (sh.1 12 0)), (1, .int a1)]) hx hb dX6_fail_69 rfl hl (by decide) rfl (fun ls hl => ?_)
        refine lv_aload_n hx hb dX6_fail_70 rfl (lv_at hl 1 rfl) ?_
        refine xget F hT hW xuX6 (xm_fix (by decide)) xce_12 rfl 2 (by decide) xw_802 rfl rfl dX6_fail_71 ?_
        refine lv_iload_n hx hb dX6_fail_74 rfl (lv_at hl 0 rfl) ?_
        obtain ⟨g62, hf⟩ := oG_go hf
        refine xmbld F hT hW (xinb_ok g62) dX6_fail_75 ?_
        refine lv_if_ne (tgt := 98) hx hb dX6_fail_76 (by decide) (fun c51 => ?_) (fun c51 => ?_)
        · replace hf := if_f c51 hf
          refine lv_bipush (v := 97) hx hb dX6_fail_98 (by decide) ?_
          cases hf
          exact xret_i (ty := .char) F hr hlocks hS (by decide) rfl hW (Nat.le_of_ble_eq_true rfl) (Nat.le_of_ble_eq_true rfl) dX6_fail_100
        · replace hf := if_t c51 hf
          refine lv_aload_n hx hb dX6_fail_79 rfl (lv_at hl 1 rfl) ?_
          refine lv_iload_n hx hb dX6_fail_80 rfl (lv_at hl 2 rfl) ?_
          refine lv_iload_n hx hb dX6_fail_81 rfl (lv_at hl 0 rfl) ?_
          obtain ⟨v52, hc61, hf⟩ := oB_go hf
          refine xcallV (n := 2) F hT hW hS (xm_fix (by decide)) xce_12 rfl (kX6_isBarred l hl0 G sh sc (xuR s48.1 12 a1.toNatClampNeg 2, s48.2) sl a1 ((xuR s48.1 12 a1.toNatClampNeg 2, s48.2).1 10 a1.toNatClampNeg)  _ hc61) (xgV xw_950 xw_952 xwp_23 xw_4 xw_953) rfl xd_X6_isBarred ⟨Nat.le_of_ble_eq_true rfl, Nat.le_of_ble_eq_true rfl⟩ rfl hl.1 rfl (Nat.le_of_ble_eq_true rfl) dX6_fail_82 ⟨Nat.le_of_ble_eq_true rfl, Nat.le_of_ble_eq_true rfl⟩ (fun v9 H locs hres hW hS => ?_) (fun E9 H locs q9 ce9 hres => by cases hres)
          cases hres
          refine W.eq (g2 := F0 m 85 ls (.int v52 :: [])) rfl ?_
          refine lv_if_ne (tgt := 98) hx hb dX6_fail_85 (by decide) (fun c53 => ?_) (fun c53 => ?_)
          · replace hf := if_f c53 hf
            refine lv_bipush (v := 97) hx hb dX6_fail_98 (by decide) ?_
            cases hf
            exact xret_i (ty := .char) F hr hlocks hS (by decide) rfl hW (Nat.le_of_ble_eq_true rfl) (Nat.le_of_ble_eq_true rfl) dX6_fail_100
          · replace hf := if_t c53 hf
            refine lv_aload_n hx hb dX6_fail_88 rfl (lv_at hl 1 rfl) ?_
            refine lv_iload_n hx hb dX6_fail_89 rfl (lv_at hl 2 rfl) ?_
            refine lv_iload_n hx hb dX6_fail_90 rfl (lv_at hl 0 rfl) ?_
            refine lv_iconst (v := 1) hx hb dX6_fail_91 (by decide) ?_
            obtain ⟨v54, hc60, hf⟩ := oB_go hf
            refine xcallV (n := 3) F hT hW hS (xm_fix (by decide)) xce_12 rfl (kX6_hasRoom l hl0 G sh sc (xuR s48.1 12 a1.toNatClampNeg 2, s48.2) sl a1 ((xuR s48.1 12 a1.toNatClampNeg 2, s48.2).1 10 a1.toNatClampNeg) 1  _ hc60) (xgV xw_954 xw_956 xwp_24 xw_4 xw_957) rfl xd_X6_hasRoom ⟨Nat.le_of_ble_eq_true rfl, Nat.le_of_ble_eq_true rfl⟩ rfl hl.1 rfl (Nat.le_of_ble_eq_true rfl) dX6_fail_92 ⟨Nat.le_of_ble_eq_true rfl, Nat.le_of_ble_eq_true rfl⟩ (fun v9 H locs hres hW hS => ?_) (fun E9 H locs q9 ce9 hres => by cases hres)
            cases hres
            refine W.eq (g2 := F0 m 95 ls (.int v54 :: [])) rfl ?_
            refine lv_if_ne (tgt := 101) hx hb dX6_fail_95 (by decide) (fun c55 => ?_) (fun c55 => ?_)
            · replace hf := if_f c55 hf
              refine lv_aload_n hx hb dX6_fail_101 rfl (lv_at hl 1 rfl) ?_
              refine xget F hT hW xuX6 (xm_fix (by decide)) xce_12 rfl 10 (by decide) xw_810 rfl rfl dX6_fail_102 ?_
              refine lv_iload_n hx hb dX6_fail_105 rfl (lv_at hl 2 rfl) ?_
              refine lv_aload_n hx hb dX6_fail_106 rfl (lv_at hl 1 rfl) ?_
              refine xget F hT hW xuX6 (xm_fix (by decide)) xce_12 rfl 11 (by decide) xw_811 rfl rfl dX6_fail_107 ?_
              refine lv_iload_n hx hb dX6_fail_110 rfl (lv_at hl 2 rfl) ?_
              obtain ⟨g59, hf⟩ := oG_go hf
              refine xmald (by decide) F hT hW (xm_fix (by decide)) (by decide) (xinb_ok g59) dX6_fail_111 ?_
              obtain ⟨g58, hf⟩ := oG_go hf
              refine xmast (by decide) F hT hW hS (xm_fix (by decide)) (by decide) (xinb_ok g58) dX6_fail_112 (fun H locs hW hS => ?_)
              refine lv_aload_n hx hb dX6_fail_113 rfl (lv_at hl 1 rfl) ?_
              refine xget F hT hW xuX6 (xm_fix (by decide)) xce_12 rfl 11 (by decide) xw_811 rfl rfl dX6_fail_114 ?_
              refine lv_iload_n hx hb dX6_fail_117 rfl (lv_at hl 2 rfl) ?_
              refine lv_iload_n hx hb dX6_fail_118 rfl (lv_at hl 0 rfl) ?_
              obtain ⟨g57, hf⟩ := oG_go hf
              refine xmast (by decide) F hT hW hS (xm_fix (by decide)) (by decide) (xinb_ok g57) dX6_fail_119 (fun H locs hW hS => ?_)
              refine lv_aload_n hx hb dX6_fail_120 rfl (lv_at hl 1 rfl) ?_
              refine xget F hT hW xuX6 (xm_fix (by decide)) xce_12 rfl 8 (by decide) xw_808 rfl rfl dX6_fail_121 ?_
              refine lv_iload_n hx hb dX6_fail_124 rfl (lv_at hl 2 rfl) ?_
              refine lv_iload_n hx hb dX6_fail_125 rfl (lv_at hl 0 rfl) ?_
              obtain ⟨g56, hf⟩ := oG_go hf
              refine xmast (by decide) F hT hW hS (xm_fix (by decide)) (by decide) (xinb_ok g56) dX6_fail_126 (fun H locs hW hS => ?_)
              refine lv_aload_n hx hb dX6_fail_127 rfl (lv_at hl 1 rfl) ?_
              refine lv_dup hx hb dX6_fail_128 rfl ?_
              refine xget F hT hW xuX6 (xm_fix (by decide)) xce_12 rfl 17 (by decide) xw_817 rfl rfl dX6_fail_129 ?_
              refine lv_iconst (v := 1) hx hb dX6_fail_132 (by decide) ?_
              refine lv_iadd hx hb dX6_fail_133 ?_
              refine xput (ty := .int) F hT hW hS xuX6 tyX6 tyX6_ok nmX6 (xm_fix (by decide)) xce_12 rfl 17 (by decide) xw_817 rfl rfl rfl rfl rfl (Nat.le_of_ble_eq_true rfl) xup_12_17 dX6_fail_134 (fun H locs hW hS => ?_)
              refine lv_bipush (v := 98) hx hb dX6_fail_137 (by decide) ?_
              cases hf
              exact xret_i (ty := .char) F hr hlocks hS (by decide) rfl hW (Nat.le_of_ble_eq_true rfl) (Nat.le_of_ble_eq_true rfl) dX6_fail_139
            · replace hf := if_t c55 hf
              refine lv_bipush (v := 97) hx hb dX6_fail_98 (by decide) ?_
              cases hf
              exact xret_i (ty := .char) F hr hlocks hS (by decide) rfl hW (Nat.le_of_ble_eq_true rfl) (Nat.le_of_ble_eq_true rfl) dX6_fail_100
      · replace hf := if_f c50 hf
        refine lv_aload_n hx hb dX6_fail_46 rfl (lv_at hl 0 rfl) ?_
        refine xget F hT hW xuX6 (xm_fix (by decide)) xce_12 rfl 9 (by decide) xw_809 rfl rfl dX6_fail_47 ?_
        refine lv_iload_n hx hb dX6_fail_50 rfl (lv_at hl 1 rfl) ?_
        refine lv_iconst (v := 0) hx hb dX6_fail_51 (by decide) ?_
        obtain ⟨g65, hf⟩ := oG_go hf
        refine xmast (by decide) F hT hW hS (xm_fix (by decide)) (by decide) (xinb_ok g65) dX6_fail_52 (fun H locs hW hS => ?_)
        refine lv_bipush (v := 101) hx hb dX6_fail_53 (by decide) ?_
        cases hf
        exact xret_i (ty := .char) F hr hlocks hS (by decide) rfl hW (Nat.le_of_ble_eq_true rfl) (Nat.le_of_ble_eq_true rfl) dX6_fail_55
    · replace hf := if_f c49 hf
      refine lv_bipush (v := 97) hx hb dX6_fail_33 (by decide) ?_
      cases hf
      exact xret_i (ty := .char) F hr hlocks hS (by decide) rfl hW (Nat.le_of_ble_eq_true rfl) (Nat.le_of_ble_eq_true rfl) dX6_fail_35
abbrev rX6_laysPlan : Room := { frames := 0, cells := 0, slots := 0, locals := 0 }
abbrev zX6_laysPlan : List Cond := Cond.code yX6_laysPlan cX6_laysPlan 4 none :: xB
theorem xd_X6_laysPlan : yX6_laysPlan.cls = RX6 ∧ yX6_laysPlan.cls ≠ "java/lang/invoke/MethodHandle" ∧ yX6_laysPlan.cls ≠ "java/lang/invoke/VarHandle" ∧ (parseMethodDescriptor yX6_laysPlan.desc).map (fun d => d.parameters.length) = some 1 := by decide +kernel
def fX6_laysPlan_K1 (x2L1 : Int32) (x3L1 : Int32) (srL1 : xSR) : Option (Unit × xSR) := some ((), srL1)
def fX6_laysPlan_L1 (k_L1 : Int32 → Int32 → xSR → Option (Unit × xSR)) : Nat → Int32 → Int32 → xSR → Option (Unit × xSR)
  | 0, _, _, _ => none
  | n + 1, x2L1, x3L1, srL1 => (if x3L1 < 0 then k_L1 x2L1 x3L1 srL1 else oG (decide (¬ (srL1.1 100 0) = 0)) (oG (xinb x3L1 6) (oG (decide (¬ ((xuR srL1.1 19 x3L1.toNatClampNeg (x2L1 - x2L1 / (srL1.1 100 0) * (srL1.1 100 0)), srL1.2).1 100 0) = 0)) ((fX6_laysPlan_L1 k_L1 n) (x2L1 / ((xuR srL1.1 19 x3L1.toNatClampNeg (x2L1 - x2L1 / (srL1.1 100 0) * (srL1.1 100 0)), srL1.2).1 100 0)) (x3L1 + (-1)) (xuR srL1.1 19 x3L1.toNatClampNeg (x2L1 - x2L1 / (srL1.1 100 0) * (srL1.1 100 0)), srL1.2)))))
def fX6_laysPlan (a1 : Int32) (sr : xSR) : Option (Unit × xSR) := fX6_laysPlan_L1 (fX6_laysPlan_K1) 64 a1 ((sr.1 103 0) - 1) sr
set_option maxHeartbeats 4000000 in
set_option maxRecDepth 100000 in
theorem kX6_laysPlan (l : Launch) (hl0 : l.stackTraces = false) (G : xG) (sh : xSh) (sc : xSC) (sr : xSR) (sl : xSL) (a1 : Int32) (r : (Unit × xSR)) (hf : fX6_laysPlan a1 sr = some r) : xMet l yX6_laysPlan zX6_laysPlan rX6_laysPlan G sh sc sr sl ([.ref (sh.1 12 0), .int a1] : List Value) (xvU (.inr r.1)) (xWd G sh sc r.2 sl) := by
  refine xMet_of (cc := cX6_laysPlan) (maxL := 4) (ret := none) (by decide) (Nat.le_of_ble_eq_true rfl) ?_
  intro p e s m below meth c F hT hW hr hlocks htab ls hl
  have F : CallFix p m c cX6_laysPlan 4 s ([.ref (sh.1 12 0), .int a1] : List Value).toArray xB RX6 := F
  have hx := F.1
  have hb := F.2.1
  have hS : va_S (xA G) s.heap s.heap [] := va_S.rf
  have hl : lv_has ls 4 [(0, .ref (sh.1 12 0)), (1, .int a1)] := hl
  unfold fX6_laysPlan at hf
  refine lv_iload_n hx hb dX6_laysPlan_0 rfl (lv_at hl 1 rfl) ?_
  refine lv_istore_n (lv' := [(2, .int a1), (0, .ref (sh.1 12 0)), (1, .int a1)]) hx hb dX6_laysPlan_1 rfl hl (by decide) rfl (fun ls hl => ?_)
  refine lv_aload_n hx hb dX6_laysPlan_2 rfl (lv_at hl 1 rfl) ?_
  refine xget F hT hW xuX6 (xm_fix (by decide)) xce_12 rfl 3 (by decide) xw_803 rfl rfl dX6_laysPlan_3 ?_
  refine lv_iconst (v := 1) hx hb dX6_laysPlan_6 (by decide) ?_
  refine lv_isub hx hb dX6_laysPlan_7 ?_
  refine lv_istore_n (lv' := [(3, .int ((sr.1 103 0) - 1)), (2, .int a1), (0, .ref (sh.1 12 0)), (1, .int a1)]) hx hb dX6_laysPlan_8 rfl hl (by decide) rfl (fun ls hl => ?_)
  have hx_L1 : ∀ (x2L1 : Int32) (x3L1 : Int32) (srL1 : xSR), fX6_laysPlan_K1 x2L1 x3L1 srL1 = some r → ∀ (H : Heap) (locs : List Loc), xWd G sh sc srL1 sl H → va_S (xA G) s.heap H locs → ∀ ls : Array Slot, lv_has ls 4 [] → W p l e rX6_laysPlan s m ([.ref (sh.1 12 0), .int a1] : List Value).toArray below meth c H locs 0 0 (xQ below G (xvU (.inr r.1)) (xWd G sh sc r.2 sl) ([.ref (sh.1 12 0), .int a1] : List Value).toArray s 0 0) (F0 m 38 ls []) := by
    intro x2L1 x3L1 srL1 hf H locs hW hS ls hl
    unfold fX6_laysPlan_K1 at hf
    cases hf
    exact xret_v F hr hlocks hS rfl hW (Nat.le_of_ble_eq_true rfl) (Nat.le_of_ble_eq_true rfl) dX6_laysPlan_38
  have hL_L1 : ∀ (n9 : Nat) (x2L1 : Int32) (x3L1 : Int32) (srL1 : xSR), fX6_laysPlan_L1 (fX6_laysPlan_K1) n9 x2L1 x3L1 srL1 = some r → ∀ (H : Heap) (locs : List Loc), xWd G sh sc srL1 sl H → va_S (xA G) s.heap H locs → ∀ ls : Array Slot, lv_has ls 4 [(0, .ref (sh.1 12 0)), (2, .int x2L1), (3, .int x3L1)] → W p l e rX6_laysPlan s m ([.ref (sh.1 12 0), .int a1] : List Value).toArray below meth c H locs 0 0 (xQ below G (xvU (.inr r.1)) (xWd G sh sc r.2 sl) ([.ref (sh.1 12 0), .int a1] : List Value).toArray s 0 0) (F0 m 9 ls []) := by
    intro n_L1
    induction n_L1 with
    | zero =>
      intro x2L1 x3L1 srL1 hf
      unfold fX6_laysPlan_L1 at hf
      cases hf
    | succ n_L1 ih_L1 =>
      intro x2L1 x3L1 srL1 hf H locs hW hS ls hl
      unfold fX6_laysPlan_L1 at hf
      refine lv_iload_n hx hb dX6_laysPlan_9 rfl (lv_at hl 2 rfl) ?_
      refine lv_if_lt (tgt := 38) hx hb dX6_laysPlan_10 (by decide) (fun c1 => ?_) (fun c1 => ?_)
      · replace hf := if_t c1 hf
        exact hx_L1 _ _ _ hf _ _ hW hS ls (lv_sub hl [] rfl)
      · replace hf := if_f c1 hf
        refine lv_aload_n hx hb dX6_laysPlan_13 rfl (lv_at hl 0 rfl) ?_
        refine xget F hT hW xuX6 (xm_fix (by decide)) xce_12 rfl 19 (by decide) xw_819 rfl rfl dX6_laysPlan_14 ?_
        refine lv_iload_n hx hb dX6_laysPlan_17 rfl (lv_at hl 2 rfl) ?_
        refine lv_iload_n hx hb dX6_laysPlan_18 rfl (lv_at hl 1 rfl) ?_
        refine lv_aload_n hx hb dX6_laysPlan_19 rfl (lv_at hl 0 rfl) ?_
        refine xget F hT hW xuX6 (xm_fix (by decide)) xce_12 rfl 0 (by decide) xw_800 rfl rfl dX6_laysPlan_20 ?_
        obtain ⟨g4, hf⟩ := oG_go hf
        refine lv_irem hx hb dX6_laysPlan_23 (of_decide_eq_true g4) ?_
        obtain ⟨g3, hf⟩ := oG_go hf
        refine xmast (by decide) F hT hW hS (xm_fix (by decide)) (by decide) (xinb_ok g3) dX6_laysPlan_24 (fun H locs hW hS => ?_)
        refine lv_iload_n hx hb dX6_laysPlan_25 rfl (lv_at hl 1 rfl) ?_
        refine lv_aload_n hx hb dX6_laysPlan_26 rfl (lv_at hl 0 rfl) ?_
        refine xget F hT hW xuX6 (xm_fix (by decide)) xce_12 rfl 0 (by decide) xw_800 rfl rfl dX6_laysPlan_27 ?_
        obtain ⟨g2, hf⟩ := oG_go hf
        refine lv_idiv hx hb dX6_laysPlan_30 (of_decide_eq_true g2) ?_
        refine lv_istore_n (lv' := [(2, .int (x2L1 / ((xuR srL1.1 19 x3L1.toNatClampNeg (x2L1 - x2L1 / (srL1.1 100 0) * (srL1.1 100 0)), srL1.2).1 100 0))), (0, .ref (sh.1 12 0)), (3, .int x3L1)]) hx hb dX6_laysPlan_31 rfl hl (by decide) rfl (fun ls hl => ?_)
        refine lv_iinc (v := (x3L1 + (-1))) (lv' := [(3, .int (x3L1 + (-1))), (2, .int (x2L1 / ((xuR srL1.1 19 x3L1.toNatClampNeg (x2L1 - x2L1 / (srL1.1 100 0) * (srL1.1 100 0)), srL1.2).1 100 0))), (0, .ref (sh.1 12 0))]) hx hb dX6_laysPlan_32 hl (k := 2) rfl rfl (by decide) rfl (fun ls hl => ?_)
        refine lv_goto (tgt := 9) hx hb dX6_laysPlan_35 (by decide) ?_
        exact ih_L1 _ _ _ hf _ _ hW hS ls (lv_sub hl [2, 1, 0] rfl)
  exact hL_L1 _ _ _ _ hf _ _ hW hS ls (lv_sub hl [2, 1, 0] rfl)
abbrev rX6_fits : Room := { frames := 0, cells := 0, slots := 0, locals := 0 }
abbrev zX6_fits : List Cond := Cond.code yX6_fits cX6_fits 5 (some .boolean) :: xB
theorem xd_X6_fits : yX6_fits.cls = RX6 ∧ yX6_fits.cls ≠ "java/lang/invoke/MethodHandle" ∧ yX6_fits.cls ≠ "java/lang/invoke/VarHandle" ∧ (parseMethodDescriptor yX6_fits.desc).map (fun d => d.parameters.length) = some 2 := by decide +kernel
def fX6_fits_K1 (a1 : Int32) (a2 : Int32) (sr : xSR) (x3L1 : Int32) (x4L1 : Int32) : Option Int32 := oG (xinb ((3 * a1) + a2) 12) ((if (sr.1 1 ((3 * a1) + a2).toNatClampNeg) < x3L1 then some 0 else some 1))
def fX6_fits_L1 (a1 : Int32) (a2 : Int32) (sr : xSR) (k_L1 : Int32 → Int32 → Option Int32) : Nat → Int32 → Int32 → Option Int32
  | 0, _, _ => none
  | n + 1, x3L1, x4L1 => (if (sr.1 103 0) ≤ x4L1 then k_L1 x3L1 x4L1 else oG (xinb x4L1 6) ((if (sr.1 19 x4L1.toNatClampNeg) = a1 then oG (xinb ((3 * x4L1) + a2) 18) ((fX6_fits_L1 a1 a2 sr k_L1 n) (x3L1 + (sr.1 4 ((3 * x4L1) + a2).toNatClampNeg)) (x4L1 + 1)) else (fX6_fits_L1 a1 a2 sr k_L1 n) (x3L1 + 0) (x4L1 + 1))))
def fX6_fits (a1 : Int32) (a2 : Int32) (sr : xSR) : Option Int32 := fX6_fits_L1 a1 a2 sr (fX6_fits_K1 a1 a2 sr) 64 0 0
set_option maxHeartbeats 4000000 in
set_option maxRecDepth 100000 in
theorem kX6_fits (l : Launch) (hl0 : l.stackTraces = false) (G : xG) (sh : xSh) (sc : xSC) (sr : xSR) (sl : xSL) (a1 : Int32) (a2 : Int32) (r : Int32) (hf : fX6_fits a1 a2 sr = some r) : xMet l yX6_fits zX6_fits rX6_fits G sh sc sr sl ([.ref (sh.1 12 0), .int a1, .int a2] : List Value) (xvI (.inr r)) (xWd G sh sc sr sl) := by
  refine xMet_of (cc := cX6_fits) (maxL := 5) (ret := (some .boolean)) (by decide) (Nat.le_of_ble_eq_true rfl) ?_
  intro p e s m below meth c F hT hW hr hlocks htab ls hl
  have F : CallFix p m c cX6_fits 5 s ([.ref (sh.1 12 0), .int a1, .int a2] : List Value).toArray xB RX6 := F
  have hx := F.1
  have hb := F.2.1
  have hS : va_S (xA G) s.heap s.heap [] := va_S.rf
  have hl : lv_has ls 5 [(0, .ref (sh.1 12 0)), (1, .int a1), (2, .int a2)] := hl
  unfold fX6_fits at hf
  refine lv_iconst (v := 0) hx hb dX6_fits_0 (by decide) ?_
  refine lv_istore_n (lv' := [(3, .int 0), (0, .ref (sh.1 12 0)), (1, .int a1), (2, .int a2)]) hx hb dX6_fits_1 rfl hl (by decide) rfl (fun ls hl => ?_)
  refine lv_iconst (v := 0) hx hb dX6_fits_2 (by decide) ?_
  refine lv_istore (lv' := [(4, .int 0), (3, .int 0), (0, .ref (sh.1 12 0)), (1, .int a1), (2, .int a2)]) hx hb dX6_fits_3 hl (by decide) rfl (fun ls hl => ?_)
  have hx_L1 : ∀ (x3L1 : Int32) (x4L1 : Int32), fX6_fits_K1 a1 a2 sr x3L1 x4L1 = some r → ∀ (H : Heap) (locs : List Loc), xWd G sh sc sr sl H → va_S (xA G) s.heap H locs → ∀ ls : Array Slot, lv_has ls 5 [(0, .ref (sh.1 12 0)), (1, .int a1), (2, .int a2), (3, .int x3L1)] → W p l e rX6_fits s m ([.ref (sh.1 12 0), .int a1, .int a2] : List Value).toArray below meth c H locs 0 0 (xQ below G (xvI (.inr r)) (xWd G sh sc sr sl) ([.ref (sh.1 12 0), .int a1, .int a2] : List Value).toArray s 0 0) (F0 m 49 ls []) := by
    intro x3L1 x4L1 hf H locs hW hS ls hl
    unfold fX6_fits_K1 at hf
    refine lv_iload_n hx hb dX6_fits_49 rfl (lv_at hl 3 rfl) ?_
    refine lv_aload_n hx hb dX6_fits_50 rfl (lv_at hl 0 rfl) ?_
    refine xget F hT hW xuX6 (xm_fix (by decide)) xce_12 rfl 1 (by decide) xw_801 rfl rfl dX6_fits_51 ?_
    refine lv_iconst (v := 3) hx hb dX6_fits_54 (by decide) ?_
    refine lv_iload_n hx hb dX6_fits_55 rfl (lv_at hl 1 rfl) ?_
    refine lv_imul hx hb dX6_fits_56 ?_
    refine lv_iload_n hx hb dX6_fits_57 rfl (lv_at hl 2 rfl) ?_
    refine lv_iadd hx hb dX6_fits_58 ?_
    obtain ⟨g2, hf⟩ := oG_go hf
    refine xmald (by decide) F hT hW (xm_fix (by decide)) (by decide) (xinb_ok g2) dX6_fits_59 ?_
    refine lv_icmp_gt (tgt := 67) hx hb dX6_fits_60 (by decide) (fun c1 => ?_) (fun c1 => ?_)
    · replace hf := if_t c1 hf
      refine lv_iconst (v := 0) hx hb dX6_fits_67 (by decide) ?_
      cases hf
      exact xret_i (ty := .boolean) F hr hlocks hS (by decide) rfl hW (Nat.le_of_ble_eq_true rfl) (Nat.le_of_ble_eq_true rfl) dX6_fits_68
    · replace hf := if_f c1 hf
      refine lv_iconst (v := 1) hx hb dX6_fits_63 (by decide) ?_
      refine lv_goto (tgt := 68) hx hb dX6_fits_64 (by decide) ?_
      cases hf
      exact xret_i (ty := .boolean) F hr hlocks hS (by decide) rfl hW (Nat.le_of_ble_eq_true rfl) (Nat.le_of_ble_eq_true rfl) dX6_fits_68
  have hL_L1 : ∀ (n9 : Nat) (x3L1 : Int32) (x4L1 : Int32), fX6_fits_L1 a1 a2 sr (fX6_fits_K1 a1 a2 sr) n9 x3L1 x4L1 = some r → ∀ (H : Heap) (locs : List Loc), xWd G sh sc sr sl H → va_S (xA G) s.heap H locs → ∀ ls : Array Slot, lv_has ls 5 [(0, .ref (sh.1 12 0)), (1, .int a1), (2, .int a2), (3, .int x3L1), (4, .int x4L1)] → W p l e rX6_fits s m ([.ref (sh.1 12 0), .int a1, .int a2] : List Value).toArray below meth c H locs 0 0 (xQ below G (xvI (.inr r)) (xWd G sh sc sr sl) ([.ref (sh.1 12 0), .int a1, .int a2] : List Value).toArray s 0 0) (F0 m 5 ls []) := by
    intro n_L1
    induction n_L1 with
    | zero =>
      intro x3L1 x4L1 hf
      unfold fX6_fits_L1 at hf
      cases hf
    | succ n_L1 ih_L1 =>
      intro x3L1 x4L1 hf H locs hW hS ls hl
      unfold fX6_fits_L1 at hf
      refine lv_iload hx hb dX6_fits_5 (lv_at hl 4 rfl) ?_
      refine lv_aload_n hx hb dX6_fits_7 rfl (lv_at hl 0 rfl) ?_
      refine xget F hT hW xuX6 (xm_fix (by decide)) xce_12 rfl 3 (by decide) xw_803 rfl rfl dX6_fits_8 ?_
      refine lv_icmp_ge (tgt := 49) hx hb dX6_fits_11 (by decide) (fun c3 => ?_) (fun c3 => ?_)
      · replace hf := if_t c3 hf
        exact hx_L1 _ _ hf _ _ hW hS ls (lv_sub hl [0, 1, 2, 3] rfl)
      · replace hf := if_f c3 hf
        refine lv_iload_n hx hb dX6_fits_14 rfl (lv_at hl 3 rfl) ?_
        refine lv_aload_n hx hb dX6_fits_15 rfl (lv_at hl 0 rfl) ?_
        refine xget F hT hW xuX6 (xm_fix (by decide)) xce_12 rfl 19 (by decide) xw_819 rfl rfl dX6_fits_16 ?_
        refine lv_iload hx hb dX6_fits_19 (lv_at hl 4 rfl) ?_
        obtain ⟨g6, hf⟩ := oG_go hf
        refine xmald (by decide) F hT hW (xm_fix (by decide)) (by decide) (xinb_ok g6) dX6_fits_21 ?_
        refine lv_iload_n hx hb dX6_fits_22 rfl (lv_at hl 1 rfl) ?_
        refine lv_icmp_ne (tgt := 40) hx hb dX6_fits_23 (by decide) (fun c4 => ?_) (fun c4 => ?_)
        · replace hf := if_f c4 hf
          refine lv_iconst (v := 0) hx hb dX6_fits_40 (by decide) ?_
          refine lv_iadd hx hb dX6_fits_41 ?_
          refine lv_istore_n (lv' := [(3, .int (x3L1 + 0)), (0, .ref (sh.1 12 0)), (1, .int a1), (2, .int a2), (4, .int x4L1)]) hx hb dX6_fits_42 rfl hl (by decide) rfl (fun ls hl => ?_)
          refine lv_iinc (v := (x4L1 + 1)) (lv' := [(4, .int (x4L1 + 1)), (3, .int (x3L1 + 0)), (0, .ref (sh.1 12 0)), (1, .int a1), (2, .int a2)]) hx hb dX6_fits_43 hl (k := 4) rfl rfl (by decide) rfl (fun ls hl => ?_)
          refine lv_goto (tgt := 5) hx hb dX6_fits_46 (by decide) ?_
          exact ih_L1 _ _ hf _ _ hW hS ls (lv_sub hl [2, 3, 4, 1, 0] rfl)
        · replace hf := if_t c4 hf
          refine lv_aload_n hx hb dX6_fits_26 rfl (lv_at hl 0 rfl) ?_
          refine xget F hT hW xuX6 (xm_fix (by decide)) xce_12 rfl 4 (by decide) xw_804 rfl rfl dX6_fits_27 ?_
          refine lv_iconst (v := 3) hx hb dX6_fits_30 (by decide) ?_
          refine lv_iload hx hb dX6_fits_31 (lv_at hl 4 rfl) ?_
          refine lv_imul hx hb dX6_fits_33 ?_
          refine lv_iload_n hx hb dX6_fits_34 rfl (lv_at hl 2 rfl) ?_
          refine lv_iadd hx hb dX6_fits_35 ?_
          obtain ⟨g5, hf⟩ := oG_go hf
          refine xmald (by decide) F hT hW (xm_fix (by decide)) (by decide) (xinb_ok g5) dX6_fits_36 ?_
          refine lv_goto (tgt := 41) hx hb dX6_fits_37 (by decide) ?_
          refine lv_iadd hx hb dX6_fits_41 ?_
          refine lv_istore_n (lv' := [(3, .int (x3L1 + (sr.1 4 ((3 * x4L1) + a2).toNatClampNeg))), (0, .ref (sh.1 12 0)), (1, .int a1), (2, .int a2), (4, .int x4L1)]) hx hb dX6_fits_42 rfl hl (by decide) rfl (fun ls hl => ?_)
          refine lv_iinc (v := (x4L1 + 1)) (lv' := [(4, .int (x4L1 + 1)), (3, .int (x3L1 + (sr.1 4 ((3 * x4L1) + a2).toNatClampNeg))), (0, .ref (sh.1 12 0)), (1, .int a1), (2, .int a2)]) hx hb dX6_fits_43 hl (k := 4) rfl rfl (by decide) rfl (fun ls hl => ?_)
          refine lv_goto (tgt := 5) hx hb dX6_fits_46 (by decide) ?_
          exact ih_L1 _ _ hf _ _ hW hS ls (lv_sub hl [2, 3, 4, 1, 0] rfl)
  exact hL_L1 _ _ _ hf _ _ hW hS ls (lv_sub hl [2, 3, 4, 1, 0] rfl)
abbrev rX6_isSound : Room := { frames := 1, cells := 0, slots := 0, locals := 24 }
abbrev zX6_isSound : List Cond := Cond.code yX6_isSound cX6_isSound 3 (some .boolean) :: xB
theorem xd_X6_isSound : yX6_isSound.cls = RX6 ∧ yX6_isSound.cls ≠ "java/lang/invoke/MethodHandle" ∧ yX6_isSound.cls ≠ "java/lang/invoke/VarHandle" ∧ (parseMethodDescriptor yX6_isSound.desc).map (fun d => d.parameters.length) = some 0 := by decide +kernel
def fX6_isSound_K4 (x1L3 : Int32) (r_L3 : Int32 → Option Int32) (x2L4 : Int32) : Option Int32 := r_L3 (x1L3 + 1)
def fX6_isSound_L4 (sr : xSR) (x1L3 : Int32) (k_L4 : Int32 → Option Int32) : Nat → Int32 → Option Int32
  | 0, _ => none
  | n + 1, x2L4 => (if 3 ≤ x2L4 then k_L4 x2L4 else oB (fX6_fits x1L3 x2L4 sr) (fun v3 => (if v3 = 0 then some 0 else (fX6_isSound_L4 sr x1L3 k_L4 n) (x2L4 + 1))))
def fX6_isSound_K3 (x1L3 : Int32) : Option Int32 := some 1
def fX6_isSound_L3 (sr : xSR) (k_L3 : Int32 → Option Int32) : Nat → Int32 → Option Int32
  | 0, _ => none
  | n + 1, x1L3 => (if (sr.1 100 0) ≤ x1L3 then k_L3 x1L3 else fX6_isSound_L4 sr x1L3 (fX6_isSound_K4 x1L3 (fX6_isSound_L3 sr k_L3 n)) 64 0)
def fX6_isSound_K2 (sr : xSR) (x1L2 : Int32) : Option Int32 := fX6_isSound_L3 sr (fX6_isSound_K3) 64 0
def fX6_isSound_L2 (sr : xSR) (k_L2 : Int32 → Option Int32) : Nat → Int32 → Option Int32
  | 0, _ => none
  | n + 1, x1L2 => (if (sr.1 113 0) ≤ x1L2 then k_L2 x1L2 else oG (xinb x1L2 6) (oG (xinb (sr.1 14 x1L2.toNatClampNeg) 6) (oG (xinb x1L2 6) (oG (xinb (sr.1 15 x1L2.toNatClampNeg) 6) ((if (sr.1 19 (sr.1 14 x1L2.toNatClampNeg).toNatClampNeg) = (sr.1 19 (sr.1 15 x1L2.toNatClampNeg).toNatClampNeg) then some 0 else (fX6_isSound_L2 sr k_L2 n) (x1L2 + 1)))))))
def fX6_isSound_K1 (sr : xSR) (x1L1 : Int32) : Option Int32 := fX6_isSound_L2 sr (fX6_isSound_K2 sr) 64 0
def fX6_isSound_L1 (sr : xSR) (k_L1 : Int32 → Option Int32) : Nat → Int32 → Option Int32
  | 0, _ => none
  | n + 1, x1L1 => (if (sr.1 103 0) ≤ x1L1 then k_L1 x1L1 else oG (xinb x1L1 6) (oG (xinb (sr.1 19 x1L1.toNatClampNeg) 4) ((if (sr.1 2 (sr.1 19 x1L1.toNatClampNeg).toNatClampNeg) = 0 then (fX6_isSound_L1 sr k_L1 n) (x1L1 + 1) else some 0))))
def fX6_isSound (sr : xSR) : Option Int32 := fX6_isSound_L1 sr (fX6_isSound_K1 sr) 64 0
set_option maxHeartbeats 4000000 in
set_option maxRecDepth 100000 in
theorem kX6_isSound (l : Launch) (hl0 : l.stackTraces = false) (G : xG) (sh : xSh) (sc : xSC) (sr : xSR) (sl : xSL) (r : Int32) (hf : fX6_isSound sr = some r) : xMet l yX6_isSound zX6_isSound rX6_isSound G sh sc sr sl ([.ref (sh.1 12 0)] : List Value) (xvI (.inr r)) (xWd G sh sc sr sl) := by
  refine xMet_of (cc := cX6_isSound) (maxL := 3) (ret := (some .boolean)) (by decide) (Nat.le_of_ble_eq_true rfl) ?_
  intro p e s m below meth c F hT hW hr hlocks htab ls hl
  have F : CallFix p m c cX6_isSound 3 s ([.ref (sh.1 12 0)] : List Value).toArray xB RX6 := F
  have hx := F.1
  have hb := F.2.1
  have hS : va_S (xA G) s.heap s.heap [] := va_S.rf
  have hl : lv_has ls 3 [(0, .ref (sh.1 12 0))] := hl
  unfold fX6_isSound at hf
  refine lv_iconst (v := 0) hx hb dX6_isSound_0 (by decide) ?_
  refine lv_istore_n (lv' := [(1, .int 0), (0, .ref (sh.1 12 0))]) hx hb dX6_isSound_1 rfl hl (by decide) rfl (fun ls hl => ?_)
  have hx_L1 : ∀ (x1L1 : Int32), fX6_isSound_K1 sr x1L1 = some r → ∀ (H : Heap) (locs : List Loc), xWd G sh sc sr sl H → va_S (xA G) s.heap H locs → ∀ ls : Array Slot, lv_has ls 3 [(0, .ref (sh.1 12 0))] → W p l e rX6_isSound s m ([.ref (sh.1 12 0)] : List Value).toArray below meth c H locs 0 0 (xQ below G (xvI (.inr r)) (xWd G sh sc sr sl) ([.ref (sh.1 12 0)] : List Value).toArray s 0 0) (F0 m 32 ls []) := by
    intro x1L1 hf H locs hW hS ls hl
    unfold fX6_isSound_K1 at hf
    refine lv_iconst (v := 0) hx hb dX6_isSound_32 (by decide) ?_
    refine lv_istore_n (lv' := [(1, .int 0), (0, .ref (sh.1 12 0))]) hx hb dX6_isSound_33 rfl hl (by decide) rfl (fun ls hl => ?_)
    have hx_L2 : ∀ (x1L2 : Int32), fX6_isSound_K2 sr x1L2 = some r → ∀ (H : Heap) (locs : List Loc), xWd G sh sc sr sl H → va_S (xA G) s.heap H locs → ∀ ls : Array Slot, lv_has ls 3 [(0, .ref (sh.1 12 0))] → W p l e rX6_isSound s m ([.ref (sh.1 12 0)] : List Value).toArray below meth c H locs 0 0 (xQ below G (xvI (.inr r)) (xWd G sh sc sr sl) ([.ref (sh.1 12 0)] : List Value).toArray s 0 0) (F0 m 75 ls []) := by
      intro x1L2 hf H locs hW hS ls hl
      unfold fX6_isSound_K2 at hf
      refine lv_iconst (v := 0) hx hb dX6_isSound_75 (by decide) ?_
      refine lv_istore_n (lv' := [(1, .int 0), (0, .ref (sh.1 12 0))]) hx hb dX6_isSound_76 rfl hl (by decide) rfl (fun ls hl => ?_)
      have hx_L3 : ∀ (x1L3 : Int32), fX6_isSound_K3 x1L3 = some r → ∀ (H : Heap) (locs : List Loc), xWd G sh sc sr sl H → va_S (xA G) s.heap H locs → ∀ ls : Array Slot, lv_has ls 3 [] → W p l e rX6_isSound s m ([.ref (sh.1 12 0)] : List Value).toArray below meth c H locs 0 0 (xQ below G (xvI (.inr r)) (xWd G sh sc sr sl) ([.ref (sh.1 12 0)] : List Value).toArray s 0 0) (F0 m 115 ls []) := by
        intro x1L3 hf H locs hW hS ls hl
        unfold fX6_isSound_K3 at hf
        refine lv_iconst (v := 1) hx hb dX6_isSound_115 (by decide) ?_
        cases hf
        exact xret_i (ty := .boolean) F hr hlocks hS (by decide) rfl hW (Nat.le_of_ble_eq_true rfl) (Nat.le_of_ble_eq_true rfl) dX6_isSound_116
      have hL_L3 : ∀ (n9 : Nat) (x1L3 : Int32), fX6_isSound_L3 sr (fX6_isSound_K3) n9 x1L3 = some r → ∀ (H : Heap) (locs : List Loc), xWd G sh sc sr sl H → va_S (xA G) s.heap H locs → ∀ ls : Array Slot, lv_has ls 3 [(0, .ref (sh.1 12 0)), (1, .int x1L3)] → W p l e rX6_isSound s m ([.ref (sh.1 12 0)] : List Value).toArray below meth c H locs 0 0 (xQ below G (xvI (.inr r)) (xWd G sh sc sr sl) ([.ref (sh.1 12 0)] : List Value).toArray s 0 0) (F0 m 77 ls []) := by
        intro n_L3
        induction n_L3 with
        | zero =>
          intro x1L3 hf
          unfold fX6_isSound_L3 at hf
          cases hf
        | succ n_L3 ih_L3 =>
          intro x1L3 hf H locs hW hS ls hl
          unfold fX6_isSound_L3 at hf
          refine lv_iload_n hx hb dX6_isSound_77 rfl (lv_at hl 1 rfl) ?_
          refine lv_aload_n hx hb dX6_isSound_78 rfl (lv_at hl 0 rfl) ?_
          refine xget F hT hW xuX6 (xm_fix (by decide)) xce_12 rfl 0 (by decide) xw_800 rfl rfl dX6_isSound_79 ?_
          refine lv_icmp_ge (tgt := 115) hx hb dX6_isSound_82 (by decide) (fun c1 => ?_) (fun c1 => ?_)
          · replace hf := if_t c1 hf
            exact hx_L3 _ hf _ _ hW hS ls (lv_sub hl [] rfl)
          · replace hf := if_f c1 hf
            refine lv_iconst (v := 0) hx hb dX6_isSound_85 (by decide) ?_
            refine lv_istore_n (lv' := [(2, .int 0), (0, .ref (sh.1 12 0)), (1, .int x1L3)]) hx hb dX6_isSound_86 rfl hl (by decide) rfl (fun ls hl => ?_)
            have hx_L4 : ∀ (x2L4 : Int32), fX6_isSound_K4 x1L3 (fX6_isSound_L3 sr (fX6_isSound_K3) n_L3) x2L4 = some r → ∀ (H : Heap) (locs : List Loc), xWd G sh sc sr sl H → va_S (xA G) s.heap H locs → ∀ ls : Array Slot, lv_has ls 3 [(0, .ref (sh.1 12 0)), (1, .int x1L3)] → W p l e rX6_isSound s m ([.ref (sh.1 12 0)] : List Value).toArray below meth c H locs 0 0 (xQ below G (xvI (.inr r)) (xWd G sh sc sr sl) ([.ref (sh.1 12 0)] : List Value).toArray s 0 0) (F0 m 109 ls []) := by
              intro x2L4 hf H locs hW hS ls hl
              unfold fX6_isSound_K4 at hf
              refine lv_iinc (v := (x1L3 + 1)) (lv' := [(1, .int (x1L3 + 1)), (0, .ref (sh.1 12 0))]) hx hb dX6_isSound_109 hl (k := 1) rfl rfl (by decide) rfl (fun ls hl => ?_)
              refine lv_goto (tgt := 77) hx hb dX6_isSound_112 (by decide) ?_
              exact ih_L3 _ hf _ _ hW hS ls (lv_sub hl [1, 0] rfl)
            have hL_L4 : ∀ (n9 : Nat) (x2L4 : Int32), fX6_isSound_L4 sr x1L3 (fX6_isSound_K4 x1L3 (fX6_isSound_L3 sr (fX6_isSound_K3) n_L3)) n9 x2L4 = some r → ∀ (H : Heap) (locs : List Loc), xWd G sh sc sr sl H → va_S (xA G) s.heap H locs → ∀ ls : Array Slot, lv_has ls 3 [(0, .ref (sh.1 12 0)), (1, .int x1L3), (2, .int x2L4)] → W p l e rX6_isSound s m ([.ref (sh.1 12 0)] : List Value).toArray below meth c H locs 0 0 (xQ below G (xvI (.inr r)) (xWd G sh sc sr sl) ([.ref (sh.1 12 0)] : List Value).toArray s 0 0) (F0 m 87 ls []) := by
              intro n_L4
              induction n_L4 with
              | zero =>
                intro x2L4 hf
                unfold fX6_isSound_L4 at hf
                cases hf
              | succ n_L4 ih_L4 =>
                intro x2L4 hf H locs hW hS ls hl
                unfold fX6_isSound_L4 at hf
                refine lv_iload_n hx hb dX6_isSound_87 rfl (lv_at hl 2 rfl) ?_
                refine lv_iconst (v := 3) hx hb dX6_isSound_88 (by decide) ?_
                refine lv_icmp_ge (tgt := 109) hx hb dX6_isSound_89 (by decide) (fun c2 => ?_) (fun c2 => ?_)
                · replace hf := if_t c2 hf
                  exact hx_L4 _ hf _ _ hW hS ls (lv_sub hl [0, 1] rfl)
                · replace hf := if_f c2 hf
                  refine lv_aload_n hx hb dX6_isSound_92 rfl (lv_at hl 0 rfl) ?_
                  refine lv_iload_n hx hb dX6_isSound_93 rfl (lv_at hl 1 rfl) ?_
                  refine lv_iload_n hx hb dX6_isSound_94 rfl (lv_at hl 2 rfl) ?_
                  obtain ⟨v3, hc5, hf⟩ := oB_go hf
                  refine xcallV (n := 2) F hT hW hS (xm_fix (by decide)) xce_12 rfl (kX6_fits l hl0 G sh sc sr sl x1L3 x2L4  _ hc5) (xgV xw_1082 xw_1084 xwp_38 xw_4 xw_1085) rfl xd_X6_fits ⟨Nat.le_of_ble_eq_true rfl, Nat.le_of_ble_eq_true rfl⟩ rfl hl.1 rfl (Nat.le_of_ble_eq_true rfl) dX6_isSound_95 ⟨Nat.le_of_ble_eq_true rfl, Nat.le_of_ble_eq_true rfl⟩ (fun v9 H locs hres hW hS => ?_) (fun E9 H locs q9 ce9 hres => by cases hres)
                  cases hres
                  refine W.eq (g2 := F0 m 98 ls (.int v3 :: [])) rfl ?_
                  refine lv_if_ne (tgt := 103) hx hb dX6_isSound_98 (by decide) (fun c4 => ?_) (fun c4 => ?_)
                  · replace hf := if_f c4 hf
                    refine lv_iinc (v := (x2L4 + 1)) (lv' := [(2, .int (x2L4 + 1)), (0, .ref (sh.1 12 0)), (1, .int x1L3)]) hx hb dX6_isSound_103 hl (k := 2) rfl rfl (by decide) rfl (fun ls hl => ?_)
                    refine lv_goto (tgt := 87) hx hb dX6_isSound_106 (by decide) ?_
                    exact ih_L4 _ hf _ _ hW hS ls (lv_sub hl [1, 2, 0] rfl)
                  · replace hf := if_t c4 hf
                    refine lv_iconst (v := 0) hx hb dX6_isSound_101 (by decide) ?_
                    cases hf
                    exact xret_i (ty := .boolean) F hr hlocks hS (by decide) rfl hW (Nat.le_of_ble_eq_true rfl) (Nat.le_of_ble_eq_true rfl) dX6_isSound_102
            exact hL_L4 _ _ hf _ _ hW hS ls (lv_sub hl [1, 2, 0] rfl)
      exact hL_L3 _ _ hf _ _ hW hS ls (lv_sub hl [1, 0] rfl)
    have hL_L2 : ∀ (n9 : Nat) (x1L2 : Int32), fX6_isSound_L2 sr (fX6_isSound_K2 sr) n9 x1L2 = some r → ∀ (H : Heap) (locs : List Loc), xWd G sh sc sr sl H → va_S (xA G) s.heap H locs → ∀ ls : Array Slot, lv_has ls 3 [(0, .ref (sh.1 12 0)), (1, .int x1L2)] → W p l e rX6_isSound s m ([.ref (sh.1 12 0)] : List Value).toArray below meth c H locs 0 0 (xQ below G (xvI (.inr r)) (xWd G sh sc sr sl) ([.ref (sh.1 12 0)] : List Value).toArray s 0 0) (F0 m 34 ls []) := by
      intro n_L2
      induction n_L2 with
      | zero =>
        intro x1L2 hf
        unfold fX6_isSound_L2 at hf
        cases hf
      | succ n_L2 ih_L2 =>
        intro x1L2 hf H locs hW hS ls hl
        unfold fX6_isSound_L2 at hf
        refine lv_iload_n hx hb dX6_isSound_34 rfl (lv_at hl 1 rfl) ?_
        refine lv_aload_n hx hb dX6_isSound_35 rfl (lv_at hl 0 rfl) ?_
        refine xget F hT hW xuX6 (xm_fix (by decide)) xce_12 rfl 13 (by decide) xw_813 rfl rfl dX6_isSound_36 ?_
        refine lv_icmp_ge (tgt := 75) hx hb dX6_isSound_39 (by decide) (fun c6 => ?_) (fun c6 => ?_)
        · replace hf := if_t c6 hf
          exact hx_L2 _ hf _ _ hW hS ls (lv_sub hl [0] rfl)
        · replace hf := if_f c6 hf
          refine lv_aload_n hx hb dX6_isSound_42 rfl (lv_at hl 0 rfl) ?_
          refine xget F hT hW xuX6 (xm_fix (by decide)) xce_12 rfl 19 (by decide) xw_819 rfl rfl dX6_isSound_43 ?_
          refine lv_aload_n hx hb dX6_isSound_46 rfl (lv_at hl 0 rfl) ?_
          refine xget F hT hW xuX6 (xm_fix (by decide)) xce_12 rfl 14 (by decide) xw_814 rfl rfl dX6_isSound_47 ?_
          refine lv_iload_n hx hb dX6_isSound_50 rfl (lv_at hl 1 rfl) ?_
          obtain ⟨g11, hf⟩ := oG_go hf
          refine xmald (by decide) F hT hW (xm_fix (by decide)) (by decide) (xinb_ok g11) dX6_isSound_51 ?_
          obtain ⟨g10, hf⟩ := oG_go hf
          refine xmald (by decide) F hT hW (xm_fix (by decide)) (by decide) (xinb_ok g10) dX6_isSound_52 ?_
          refine lv_aload_n hx hb dX6_isSound_53 rfl (lv_at hl 0 rfl) ?_
          refine xget F hT hW xuX6 (xm_fix (by decide)) xce_12 rfl 19 (by decide) xw_819 rfl rfl dX6_isSound_54 ?_
          refine lv_aload_n hx hb dX6_isSound_57 rfl (lv_at hl 0 rfl) ?_
          refine xget F hT hW xuX6 (xm_fix (by decide)) xce_12 rfl 15 (by decide) xw_815 rfl rfl dX6_isSound_58 ?_
          refine lv_iload_n hx hb dX6_isSound_61 rfl (lv_at hl 1 rfl) ?_
          obtain ⟨g9, hf⟩ := oG_go hf
          refine xmald (by decide) F hT hW (xm_fix (by decide)) (by decide) (xinb_ok g9) dX6_isSound_62 ?_
          obtain ⟨g8, hf⟩ := oG_go hf
          refine xmald (by decide) F hT hW (xm_fix (by decide)) (by decide) (xinb_ok g8) dX6_isSound_63 ?_
          refine lv_icmp_ne (tgt := 69) hx hb dX6_isSound_64 (by decide) (fun c7 => ?_) (fun c7 => ?_)
          · replace hf := if_f c7 hf
            refine lv_iinc (v := (x1L2 + 1)) (lv' := [(1, .int (x1L2 + 1)), (0, .ref (sh.1 12 0))]) hx hb dX6_isSound_69 hl (k := 1) rfl rfl (by decide) rfl (fun ls hl => ?_)
            refine lv_goto (tgt := 34) hx hb dX6_isSound_72 (by decide) ?_
            exact ih_L2 _ hf _ _ hW hS ls (lv_sub hl [1, 0] rfl)
          · replace hf := if_t c7 hf
            refine lv_iconst (v := 0) hx hb dX6_isSound_67 (by decide) ?_
            cases hf
            exact xret_i (ty := .boolean) F hr hlocks hS (by decide) rfl hW (Nat.le_of_ble_eq_true rfl) (Nat.le_of_ble_eq_true rfl) dX6_isSound_68
    exact hL_L2 _ _ hf _ _ hW hS ls (lv_sub hl [1, 0] rfl)
  have hL_L1 : ∀ (n9 : Nat) (x1L1 : Int32), fX6_isSound_L1 sr (fX6_isSound_K1 sr) n9 x1L1 = some r → ∀ (H : Heap) (locs : List Loc), xWd G sh sc sr sl H → va_S (xA G) s.heap H locs → ∀ ls : Array Slot, lv_has ls 3 [(0, .ref (sh.1 12 0)), (1, .int x1L1)] → W p l e rX6_isSound s m ([.ref (sh.1 12 0)] : List Value).toArray below meth c H locs 0 0 (xQ below G (xvI (.inr r)) (xWd G sh sc sr sl) ([.ref (sh.1 12 0)] : List Value).toArray s 0 0) (F0 m 2 ls []) := by
    intro n_L1
    induction n_L1 with
    | zero =>
      intro x1L1 hf
      unfold fX6_isSound_L1 at hf
      cases hf
    | succ n_L1 ih_L1 =>
      intro x1L1 hf H locs hW hS ls hl
      unfold fX6_isSound_L1 at hf
      refine lv_iload_n hx hb dX6_isSound_2 rfl (lv_at hl 1 rfl) ?_
      refine lv_aload_n hx hb dX6_isSound_3 rfl (lv_at hl 0 rfl) ?_
      refine xget F hT hW xuX6 (xm_fix (by decide)) xce_12 rfl 3 (by decide) xw_803 rfl rfl dX6_isSound_4 ?_
      refine lv_icmp_ge (tgt := 32) hx hb dX6_isSound_7 (by decide) (fun c12 => ?_) (fun c12 => ?_)
      · replace hf := if_t c12 hf
        exact hx_L1 _ hf _ _ hW hS ls (lv_sub hl [0] rfl)
      · replace hf := if_f c12 hf
        refine lv_aload_n hx hb dX6_isSound_10 rfl (lv_at hl 0 rfl) ?_
        refine xget F hT hW xuX6 (xm_fix (by decide)) xce_12 rfl 2 (by decide) xw_802 rfl rfl dX6_isSound_11 ?_
        refine lv_aload_n hx hb dX6_isSound_14 rfl (lv_at hl 0 rfl) ?_
        refine xget F hT hW xuX6 (xm_fix (by decide)) xce_12 rfl 19 (by decide) xw_819 rfl rfl dX6_isSound_15 ?_
        refine lv_iload_n hx hb dX6_isSound_18 rfl (lv_at hl 1 rfl) ?_
        obtain ⟨g15, hf⟩ := oG_go hf
        refine xmald (by decide) F hT hW (xm_fix (by decide)) (by decide) (xinb_ok g15) dX6_isSound_19 ?_
        obtain ⟨g14, hf⟩ := oG_go hf
        refine xmbld F hT hW (xinb_ok g14) dX6_isSound_20 ?_
        refine lv_if_eq (tgt := 26) hx hb dX6_isSound_21 (by decide) (fun c13 => ?_) (fun c13 => ?_)
        · replace hf := if_t c13 hf
          refine lv_iinc (v := (x1L1 + 1)) (lv' := [(1, .int (x1L1 + 1)), (0, .ref (sh.1 12 0))]) hx hb dX6_isSound_26 hl (k := 1) rfl rfl (by decide) rfl (fun ls hl => ?_)
          refine lv_goto (tgt := 2) hx hb dX6_isSound_29 (by decide) ?_
          exact ih_L1 _ hf _ _ hW hS ls (lv_sub hl [1, 0] rfl)
        · replace hf := if_f c13 hf
          refine lv_iconst (v := 0) hx hb dX6_isSound_24 (by decide) ?_
          cases hf
          exact xret_i (ty := .boolean) F hr hlocks hS (by decide) rfl hW (Nat.le_of_ble_eq_true rfl) (Nat.le_of_ble_eq_true rfl) dX6_isSound_25
  exact hL_L1 _ _ hf _ _ hW hS ls (lv_sub hl [1, 0] rfl)
abbrev rX6_movesOfPlan : Room := { frames := 0, cells := 0, slots := 0, locals := 0 }
abbrev zX6_movesOfPlan : List Cond := Cond.code yX6_movesOfPlan cX6_movesOfPlan 3 (some .int) :: xB
theorem xd_X6_movesOfPlan : yX6_movesOfPlan.cls = RX6 ∧ yX6_movesOfPlan.cls ≠ "java/lang/invoke/MethodHandle" ∧ yX6_movesOfPlan.cls ≠ "java/lang/invoke/VarHandle" ∧ (parseMethodDescriptor yX6_movesOfPlan.desc).map (fun d => d.parameters.length) = some 0 := by decide +kernel
def fX6_movesOfPlan_K1 (x1L1 : Int32) (x2L1 : Int32) : Option Int32 := some x1L1
def fX6_movesOfPlan_L1 (sr : xSR) (k_L1 : Int32 → Int32 → Option Int32) : Nat → Int32 → Int32 → Option Int32
  | 0, _, _ => none
  | n + 1, x1L1, x2L1 => (if (sr.1 103 0) ≤ x2L1 then k_L1 x1L1 x2L1 else oG (xinb x2L1 6) (oG (xinb x2L1 6) ((if (sr.1 19 x2L1.toNatClampNeg) = (sr.1 8 x2L1.toNatClampNeg) then (fX6_movesOfPlan_L1 sr k_L1 n) (x1L1 + 0) (x2L1 + 1) else (fX6_movesOfPlan_L1 sr k_L1 n) (x1L1 + 1) (x2L1 + 1)))))
def fX6_movesOfPlan (sr : xSR) : Option Int32 := fX6_movesOfPlan_L1 sr (fX6_movesOfPlan_K1) 64 0 0
set_option maxHeartbeats 4000000 in
set_option maxRecDepth 100000 in
theorem kX6_movesOfPlan (l : Launch) (hl0 : l.stackTraces = false) (G : xG) (sh : xSh) (sc : xSC) (sr : xSR) (sl : xSL) (r : Int32) (hf : fX6_movesOfPlan sr = some r) : xMet l yX6_movesOfPlan zX6_movesOfPlan rX6_movesOfPlan G sh sc sr sl ([.ref (sh.1 12 0)] : List Value) (xvI (.inr r)) (xWd G sh sc sr sl) := by
  refine xMet_of (cc := cX6_movesOfPlan) (maxL := 3) (ret := (some .int)) (by decide) (Nat.le_of_ble_eq_true rfl) ?_
  intro p e s m below meth c F hT hW hr hlocks htab ls hl
  have F : CallFix p m c cX6_movesOfPlan 3 s ([.ref (sh.1 12 0)] : List Value).toArray xB RX6 := F
  have hx := F.1
  have hb := F.2.1
  have hS : va_S (xA G) s.heap s.heap [] := va_S.rf
  have hl : lv_has ls 3 [(0, .ref (sh.1 12 0))] := hl
  unfold fX6_movesOfPlan at hf
  refine lv_iconst (v := 0) hx hb dX6_movesOfPlan_0 (by decide) ?_
  refine lv_istore_n (lv' := [(1, .int 0), (0, .ref (sh.1 12 0))]) hx hb dX6_movesOfPlan_1 rfl hl (by decide) rfl (fun ls hl => ?_)
  refine lv_iconst (v := 0) hx hb dX6_movesOfPlan_2 (by decide) ?_
  refine lv_istore_n (lv' := [(2, .int 0), (1, .int 0), (0, .ref (sh.1 12 0))]) hx hb dX6_movesOfPlan_3 rfl hl (by decide) rfl (fun ls hl => ?_)
  have hx_L1 : ∀ (x1L1 : Int32) (x2L1 : Int32), fX6_movesOfPlan_K1 x1L1 x2L1 = some r → ∀ (H : Heap) (locs : List Loc), xWd G sh sc sr sl H → va_S (xA G) s.heap H locs → ∀ ls : Array Slot, lv_has ls 3 [(1, .int x1L1)] → W p l e rX6_movesOfPlan s m ([.ref (sh.1 12 0)] : List Value).toArray below meth c H locs 0 0 (xQ below G (xvI (.inr r)) (xWd G sh sc sr sl) ([.ref (sh.1 12 0)] : List Value).toArray s 0 0) (F0 m 41 ls []) := by
    intro x1L1 x2L1 hf H locs hW hS ls hl
    unfold fX6_movesOfPlan_K1 at hf
    refine lv_iload_n hx hb dX6_movesOfPlan_41 rfl (lv_at hl 0 rfl) ?_
    cases hf
    exact xret_i (ty := .int) F hr hlocks hS rfl rfl hW (Nat.le_of_ble_eq_true rfl) (Nat.le_of_ble_eq_true rfl) dX6_movesOfPlan_42
  have hL_L1 : ∀ (n9 : Nat) (x1L1 : Int32) (x2L1 : Int32), fX6_movesOfPlan_L1 sr (fX6_movesOfPlan_K1) n9 x1L1 x2L1 = some r → ∀ (H : Heap) (locs : List Loc), xWd G sh sc sr sl H → va_S (xA G) s.heap H locs → ∀ ls : Array Slot, lv_has ls 3 [(0, .ref (sh.1 12 0)), (1, .int x1L1), (2, .int x2L1)] → W p l e rX6_movesOfPlan s m ([.ref (sh.1 12 0)] : List Value).toArray below meth c H locs 0 0 (xQ below G (xvI (.inr r)) (xWd G sh sc sr sl) ([.ref (sh.1 12 0)] : List Value).toArray s 0 0) (F0 m 4 ls []) := by
    intro n_L1
    induction n_L1 with
    | zero =>
      intro x1L1 x2L1 hf
      unfold fX6_movesOfPlan_L1 at hf
      cases hf
    | succ n_L1 ih_L1 =>
      intro x1L1 x2L1 hf H locs hW hS ls hl
      unfold fX6_movesOfPlan_L1 at hf
      refine lv_iload_n hx hb dX6_movesOfPlan_4 rfl (lv_at hl 2 rfl) ?_
      refine lv_aload_n hx hb dX6_movesOfPlan_5 rfl (lv_at hl 0 rfl) ?_
      refine xget F hT hW xuX6 (xm_fix (by decide)) xce_12 rfl 3 (by decide) xw_803 rfl rfl dX6_movesOfPlan_6 ?_
      refine lv_icmp_ge (tgt := 41) hx hb dX6_movesOfPlan_9 (by decide) (fun c1 => ?_) (fun c1 => ?_)
      · replace hf := if_t c1 hf
        exact hx_L1 _ _ hf _ _ hW hS ls (lv_sub hl [1] rfl)
      · replace hf := if_f c1 hf
        refine lv_iload_n hx hb dX6_movesOfPlan_12 rfl (lv_at hl 1 rfl) ?_
        refine lv_aload_n hx hb dX6_movesOfPlan_13 rfl (lv_at hl 0 rfl) ?_
        refine xget F hT hW xuX6 (xm_fix (by decide)) xce_12 rfl 19 (by decide) xw_819 rfl rfl dX6_movesOfPlan_14 ?_
        refine lv_iload_n hx hb dX6_movesOfPlan_17 rfl (lv_at hl 2 rfl) ?_
        obtain ⟨g4, hf⟩ := oG_go hf
        refine xmald (by decide) F hT hW (xm_fix (by decide)) (by decide) (xinb_ok g4) dX6_movesOfPlan_18 ?_
        refine lv_aload_n hx hb dX6_movesOfPlan_19 rfl (lv_at hl 0 rfl) ?_
        refine xget F hT hW xuX6 (xm_fix (by decide)) xce_12 rfl 8 (by decide) xw_808 rfl rfl dX6_movesOfPlan_20 ?_
        refine lv_iload_n hx hb dX6_movesOfPlan_23 rfl (lv_at hl 2 rfl) ?_
        obtain ⟨g3, hf⟩ := oG_go hf
        refine xmald (by decide) F hT hW (xm_fix (by decide)) (by decide) (xinb_ok g3) dX6_movesOfPlan_24 ?_
        refine lv_icmp_ne (tgt := 32) hx hb dX6_movesOfPlan_25 (by decide) (fun c2 => ?_) (fun c2 => ?_)
        · replace hf := if_f c2 hf
          refine lv_iconst (v := 1) hx hb dX6_movesOfPlan_32 (by decide) ?_
          refine lv_iadd hx hb dX6_movesOfPlan_33 ?_
          refine lv_istore_n (lv' := [(1, .int (x1L1 + 1)), (0, .ref (sh.1 12 0)), (2, .int x2L1)]) hx hb dX6_movesOfPlan_34 rfl hl (by decide) rfl (fun ls hl => ?_)
          refine lv_iinc (v := (x2L1 + 1)) (lv' := [(2, .int (x2L1 + 1)), (1, .int (x1L1 + 1)), (0, .ref (sh.1 12 0))]) hx hb dX6_movesOfPlan_35 hl (k := 2) rfl rfl (by decide) rfl (fun ls hl => ?_)
          refine lv_goto (tgt := 4) hx hb dX6_movesOfPlan_38 (by decide) ?_
          exact ih_L1 _ _ hf _ _ hW hS ls (lv_sub hl [2, 1, 0] rfl)
        · replace hf := if_t c2 hf
          refine lv_iconst (v := 0) hx hb dX6_movesOfPlan_28 (by decide) ?_
          refine lv_goto (tgt := 33) hx hb dX6_movesOfPlan_29 (by decide) ?_
          refine lv_iadd hx hb dX6_movesOfPlan_33 ?_
          refine lv_istore_n (lv' := [(1, .int (x1L1 + 0)), (0, .ref (sh.1 12 0)), (2, .int x2L1)]) hx hb dX6_movesOfPlan_34 rfl hl (by decide) rfl (fun ls hl => ?_)
          refine lv_iinc (v := (x2L1 + 1)) (lv' := [(2, .int (x2L1 + 1)), (1, .int (x1L1 + 0)), (0, .ref (sh.1 12 0))]) hx hb dX6_movesOfPlan_35 hl (k := 2) rfl rfl (by decide) rfl (fun ls hl => ?_)
          refine lv_goto (tgt := 4) hx hb dX6_movesOfPlan_38 (by decide) ?_
          exact ih_L1 _ _ hf _ _ hW hS ls (lv_sub hl [2, 1, 0] rfl)
  exact hL_L1 _ _ _ hf _ _ hW hS ls (lv_sub hl [2, 1, 0] rfl)
abbrev rX6_sound : Room := { frames := 2, cells := 0, slots := 0, locals := 46 }
abbrev zX6_sound : List Cond := Cond.code yX6_sound cX6_sound 5 (some .int) :: xB
theorem xd_X6_sound : yX6_sound.cls = RX6 ∧ yX6_sound.cls ≠ "java/lang/invoke/MethodHandle" ∧ yX6_sound.cls ≠ "java/lang/invoke/VarHandle" ∧ (parseMethodDescriptor yX6_sound.desc).map (fun d => d.parameters.length) = some 0 := by decide +kernel
def fX6_sound_K3 (x2L2 : Int32) (x3L2 : Int32) (r_L2 : Int32 → Int32 → xSR → Option (Int32 × xSR)) (x4L3 : Int32) (srL3 : xSR) : Option (Int32 × xSR) := r_L2 (x2L2 + 1) (x3L2 + 1) srL3
def fX6_sound_L3 (k_L3 : Int32 → xSR → Option (Int32 × xSR)) : Nat → Int32 → xSR → Option (Int32 × xSR)
  | 0, _, _ => none
  | n + 1, x4L3, srL3 => (if (srL3.1 103 0) ≤ x4L3 then k_L3 x4L3 srL3 else oG (xinb x4L3 6) (oG (xinb x4L3 6) ((fX6_sound_L3 k_L3 n) (x4L3 + 1) (xuR srL3.1 20 x4L3.toNatClampNeg (srL3.1 19 x4L3.toNatClampNeg), srL3.2))))
def fX6_sound_K4 (x2L2 : Int32) (x3L2 : Int32) (r_L2 : Int32 → Int32 → xSR → Option (Int32 × xSR)) (x4L4 : Int32) (srL4 : xSR) : Option (Int32 × xSR) := r_L2 (x2L2 + 1) (x3L2 + 1) srL4
def fX6_sound_L4 (k_L4 : Int32 → xSR → Option (Int32 × xSR)) : Nat → Int32 → xSR → Option (Int32 × xSR)
  | 0, _, _ => none
  | n + 1, x4L4, srL4 => (if (srL4.1 103 0) ≤ x4L4 then k_L4 x4L4 srL4 else oG (xinb x4L4 6) (oG (xinb x4L4 6) ((fX6_sound_L4 k_L4 n) (x4L4 + 1) (xuR srL4.1 20 x4L4.toNatClampNeg (srL4.1 19 x4L4.toNatClampNeg), srL4.2))))
def fX6_sound_K2 (x2L2 : Int32) (x3L2 : Int32) (srL2 : xSR) : Option (Int32 × xSR) := some (x2L2, srL2)
def fX6_sound_L2 (x1L1 : Int32) (k_L2 : Int32 → Int32 → xSR → Option (Int32 × xSR)) : Nat → Int32 → Int32 → xSR → Option (Int32 × xSR)
  | 0, _, _, _ => none
  | n + 1, x2L2, x3L2, srL2 => (if x1L1 ≤ x3L2 then k_L2 x2L2 x3L2 srL2 else oP (fX6_laysPlan x3L2 srL2) (fun v2 s3 => oB (fX6_isSound  s3) (fun v4 => (if v4 = 0 then (fX6_sound_L2 x1L1 k_L2 n) x2L2 (x3L2 + 1) s3 else (if (s3.1 121 0) < 0 then oB (fX6_movesOfPlan  s3) (fun v7 => fX6_sound_L3 (fX6_sound_K3 x2L2 x3L2 (fX6_sound_L2 x1L1 k_L2 n)) 64 0 (xuR s3.1 121 0 v7, s3.2)) else oB (fX6_movesOfPlan  s3) (fun v12 => (if v12 < (s3.1 121 0) then oB (fX6_movesOfPlan  s3) (fun v14 => fX6_sound_L4 (fX6_sound_K4 x2L2 x3L2 (fX6_sound_L2 x1L1 k_L2 n)) 64 0 (xuR s3.1 121 0 v14, s3.2)) else (fX6_sound_L2 x1L1 k_L2 n) (x2L2 + 1) (x3L2 + 1) s3)))))))
def fX6_sound_K1 (x1L1 : Int32) (x2L1 : Int32) (srL1 : xSR) : Option (Int32 × xSR) := fX6_sound_L2 x1L1 (fX6_sound_K2) 5000 0 0 (xuR srL1.1 121 0 (-1), srL1.2)
def fX6_sound_L1 (k_L1 : Int32 → Int32 → xSR → Option (Int32 × xSR)) : Nat → Int32 → Int32 → xSR → Option (Int32 × xSR)
  | 0, _, _, _ => none
  | n + 1, x1L1, x2L1, srL1 => (if (srL1.1 103 0) ≤ x2L1 then k_L1 x1L1 x2L1 srL1 else (fX6_sound_L1 k_L1 n) (x1L1 * (srL1.1 100 0)) (x2L1 + 1) srL1)
def fX6_sound (sr : xSR) : Option (Int32 × xSR) := fX6_sound_L1 (fX6_sound_K1) 64 1 0 sr
set_option maxHeartbeats 4000000 in
set_option maxRecDepth 100000 in
theorem kX6_sound (l : Launch) (hl0 : l.stackTraces = false) (G : xG) (sh : xSh) (sc : xSC) (sr : xSR) (sl : xSL) (r : (Int32 × xSR)) (hf : fX6_sound sr = some r) : xMet l yX6_sound zX6_sound rX6_sound G sh sc sr sl ([.ref (sh.1 12 0)] : List Value) (xvI (.inr r.1)) (xWd G sh sc r.2 sl) := by
  refine xMet_of (cc := cX6_sound) (maxL := 5) (ret := (some .int)) (by decide) (Nat.le_of_ble_eq_true rfl) ?_
  intro p e s m below meth c F hT hW hr hlocks htab ls hl
  have F : CallFix p m c cX6_sound 5 s ([.ref (sh.1 12 0)] : List Value).toArray xB RX6 := F
  have hx := F.1
  have hb := F.2.1
  have hS : va_S (xA G) s.heap s.heap [] := va_S.rf
  have hl : lv_has ls 5 [(0, .ref (sh.1 12 0))] := hl
  unfold fX6_sound at hf
  refine lv_iconst (v := 1) hx hb dX6_sound_0 (by decide) ?_
  refine lv_istore_n (lv' := [(1, .int 1), (0, .ref (sh.1 12 0))]) hx hb dX6_sound_1 rfl hl (by decide) rfl (fun ls hl => ?_)
  refine lv_iconst (v := 0) hx hb dX6_sound_2 (by decide) ?_
  refine lv_istore_n (lv' := [(2, .int 0), (1, .int 1), (0, .ref (sh.1 12 0))]) hx hb dX6_sound_3 rfl hl (by decide) rfl (fun ls hl => ?_)
  have hx_L1 : ∀ (x1L1 : Int32) (x2L1 : Int32) (srL1 : xSR), fX6_sound_K1 x1L1 x2L1 srL1 = some r → ∀ (H : Heap) (locs : List Loc), xWd G sh sc srL1 sl H → va_S (xA G) s.heap H locs → ∀ ls : Array Slot, lv_has ls 5 [(0, .ref (sh.1 12 0)), (1, .int x1L1)] → W p l e rX6_sound s m ([.ref (sh.1 12 0)] : List Value).toArray below meth c H locs 0 0 (xQ below G (xvI (.inr r.1)) (xWd G sh sc r.2 sl) ([.ref (sh.1 12 0)] : List Value).toArray s 0 0) (F0 m 25 ls []) := by
    intro x1L1 x2L1 srL1 hf H locs hW hS ls hl
    unfold fX6_sound_K1 at hf
    refine lv_iconst (v := 0) hx hb dX6_sound_25 (by decide) ?_
    refine lv_istore_n (lv' := [(2, .int 0), (0, .ref (sh.1 12 0)), (1, .int x1L1)]) hx hb dX6_sound_26 rfl hl (by decide) rfl (fun ls hl => ?_)
    refine lv_aload_n hx hb dX6_sound_27 rfl (lv_at hl 1 rfl) ?_
    refine lv_iconst (v := (-1)) hx hb dX6_sound_28 (by decide) ?_
    refine xput (ty := .int) F hT hW hS xuX6 tyX6 tyX6_ok nmX6 (xm_fix (by decide)) xce_12 rfl 21 (by decide) xw_821 rfl rfl rfl rfl rfl (Nat.le_of_ble_eq_true rfl) xup_12_21 dX6_sound_29 (fun H locs hW hS => ?_)
    refine lv_iconst (v := 0) hx hb dX6_sound_32 (by decide) ?_
    refine lv_istore_n (lv' := [(3, .int 0), (2, .int 0), (0, .ref (sh.1 12 0)), (1, .int x1L1)]) hx hb dX6_sound_33 rfl hl (by decide) rfl (fun ls hl => ?_)
    have hx_L2 : ∀ (x2L2 : Int32) (x3L2 : Int32) (srL2 : xSR), fX6_sound_K2 x2L2 x3L2 srL2 = some r → ∀ (H : Heap) (locs : List Loc), xWd G sh sc srL2 sl H → va_S (xA G) s.heap H locs → ∀ ls : Array Slot, lv_has ls 5 [(2, .int x2L2)] → W p l e rX6_sound s m ([.ref (sh.1 12 0)] : List Value).toArray below meth c H locs 0 0 (xQ below G (xvI (.inr r.1)) (xWd G sh sc r.2 sl) ([.ref (sh.1 12 0)] : List Value).toArray s 0 0) (F0 m 124 ls []) := by
      intro x2L2 x3L2 srL2 hf H locs hW hS ls hl
      unfold fX6_sound_K2 at hf
      refine lv_iload_n hx hb dX6_sound_124 rfl (lv_at hl 0 rfl) ?_
      cases hf
      exact xret_i (ty := .int) F hr hlocks hS rfl rfl hW (Nat.le_of_ble_eq_true rfl) (Nat.le_of_ble_eq_true rfl) dX6_sound_125
    have hL_L2 : ∀ (n9 : Nat) (x2L2 : Int32) (x3L2 : Int32) (srL2 : xSR), fX6_sound_L2 x1L1 (fX6_sound_K2) n9 x2L2 x3L2 srL2 = some r → ∀ (H : Heap) (locs : List Loc), xWd G sh sc srL2 sl H → va_S (xA G) s.heap H locs → ∀ ls : Array Slot, lv_has ls 5 [(0, .ref (sh.1 12 0)), (1, .int x1L1), (2, .int x2L2), (3, .int x3L2)] → W p l e rX6_sound s m ([.ref (sh.1 12 0)] : List Value).toArray below meth c H locs 0 0 (xQ below G (xvI (.inr r.1)) (xWd G sh sc r.2 sl) ([.ref (sh.1 12 0)] : List Value).toArray s 0 0) (F0 m 34 ls []) := by
      intro n_L2
      induction n_L2 with
      | zero =>
        intro x2L2 x3L2 srL2 hf
        unfold fX6_sound_L2 at hf
        cases hf
      | succ n_L2 ih_L2 =>
        intro x2L2 x3L2 srL2 hf H locs hW hS ls hl
        unfold fX6_sound_L2 at hf
        refine lv_iload_n hx hb dX6_sound_34 rfl (lv_at hl 3 rfl) ?_
        refine lv_iload_n hx hb dX6_sound_35 rfl (lv_at hl 1 rfl) ?_
        refine lv_icmp_ge (tgt := 124) hx hb dX6_sound_36 (by decide) (fun c1 => ?_) (fun c1 => ?_)
        · replace hf := if_t c1 hf
          exact hx_L2 _ _ _ hf _ _ hW hS ls (lv_sub hl [2] rfl)
        · replace hf := if_f c1 hf
          refine lv_aload_n hx hb dX6_sound_39 rfl (lv_at hl 0 rfl) ?_
          refine lv_iload_n hx hb dX6_sound_40 rfl (lv_at hl 3 rfl) ?_
          obtain ⟨v2, s3, hc21, hf⟩ := oP_go hf
          refine xcallV (n := 1) F hT hW hS (xm_fix (by decide)) xce_12 rfl (kX6_laysPlan l hl0 G sh sc srL2 sl x3L2  _ hc21) (xgV xw_1074 xw_1076 xwp_36 xw_4 xw_1077) rfl xd_X6_laysPlan ⟨Nat.le_of_ble_eq_true rfl, Nat.le_of_ble_eq_true rfl⟩ rfl hl.1 rfl (Nat.le_of_ble_eq_true rfl) dX6_sound_41 ⟨Nat.le_of_ble_eq_true rfl, Nat.le_of_ble_eq_true rfl⟩ (fun v9 H locs hres hW hS => ?_) (fun E9 H locs q9 ce9 hres => by cases hres)
          cases hres
          refine W.eq (g2 := F0 m 44 ls ([])) rfl ?_
          refine lv_aload_n hx hb dX6_sound_44 rfl (lv_at hl 0 rfl) ?_
          obtain ⟨v4, hc20, hf⟩ := oB_go hf
          refine xcallV (n := 0) F hT hW hS (xm_fix (by decide)) xce_12 rfl (kX6_isSound l hl0 G sh sc s3 sl   _ hc20) (xgV xw_1078 xw_1080 xwp_37 xw_4 xw_1081) rfl xd_X6_isSound ⟨Nat.le_of_ble_eq_true rfl, Nat.le_of_ble_eq_true rfl⟩ rfl hl.1 rfl (Nat.le_of_ble_eq_true rfl) dX6_sound_45 ⟨Nat.le_of_ble_eq_true rfl, Nat.le_of_ble_eq_true rfl⟩ (fun v9 H locs hres hW hS => ?_) (fun E9 H locs q9 ce9 hres => by cases hres)
          cases hres
          refine W.eq (g2 := F0 m 48 ls (.int v4 :: [])) rfl ?_
          refine lv_if_ne (tgt := 54) hx hb dX6_sound_48 (by decide) (fun c5 => ?_) (fun c5 => ?_)
          · replace hf := if_f c5 hf
            refine lv_iinc (v := (x2L2 + 1)) (lv' := [(2, .int (x2L2 + 1)), (0, .ref (sh.1 12 0)), (1, .int x1L1), (3, .int x3L2)]) hx hb dX6_sound_54 hl (k := 2) rfl rfl (by decide) rfl (fun ls hl => ?_)
            refine lv_aload_n hx hb dX6_sound_57 rfl (lv_at hl 1 rfl) ?_
            refine xget F hT hW xuX6 (xm_fix (by decide)) xce_12 rfl 21 (by decide) xw_821 rfl rfl dX6_sound_58 ?_
            refine lv_if_lt (tgt := 78) hx hb dX6_sound_61 (by decide) (fun c6 => ?_) (fun c6 => ?_)
            · replace hf := if_t c6 hf
              refine lv_aload_n hx hb dX6_sound_78 rfl (lv_at hl 1 rfl) ?_
              refine lv_aload_n hx hb dX6_sound_79 rfl (lv_at hl 1 rfl) ?_
              obtain ⟨v7, hc11, hf⟩ := oB_go hf
              refine xcallV (n := 0) F hT hW hS (xm_fix (by decide)) xce_12 rfl (kX6_movesOfPlan l hl0 G sh sc s3 sl   _ hc11) (xgV xw_1086 xw_1088 xwp_39 xw_4 xw_1089) rfl xd_X6_movesOfPlan ⟨Nat.le_of_ble_eq_true rfl, Nat.le_of_ble_eq_true rfl⟩ rfl hl.1 rfl (Nat.le_of_ble_eq_true rfl) dX6_sound_80 ⟨Nat.le_of_ble_eq_true rfl, Nat.le_of_ble_eq_true rfl⟩ (fun v9 H locs hres hW hS => ?_) (fun E9 H locs q9 ce9 hres => by cases hres)
              cases hres
              refine W.eq (g2 := F0 m 83 ls (.int v7 :: .ref (sh.1 12 0) :: [])) rfl ?_
              refine xput (ty := .int) F hT hW hS xuX6 tyX6 tyX6_ok nmX6 (xm_fix (by decide)) xce_12 rfl 21 (by decide) xw_821 rfl rfl rfl rfl rfl (Nat.le_of_ble_eq_true rfl) xup_12_21 dX6_sound_83 (fun H locs hW hS => ?_)
              refine lv_iconst (v := 0) hx hb dX6_sound_86 (by decide) ?_
              refine lv_istore (lv' := [(4, .int 0), (2, .int (x2L2 + 1)), (0, .ref (sh.1 12 0)), (1, .int x1L1), (3, .int x3L2)]) hx hb dX6_sound_87 hl (by decide) rfl (fun ls hl => ?_)
              have hx_L3 : ∀ (x4L3 : Int32) (srL3 : xSR), fX6_sound_K3 x2L2 x3L2 (fX6_sound_L2 x1L1 (fX6_sound_K2) n_L2) x4L3 srL3 = some r → ∀ (H : Heap) (locs : List Loc), xWd G sh sc srL3 sl H → va_S (xA G) s.heap H locs → ∀ ls : Array Slot, lv_has ls 5 [(0, .ref (sh.1 12 0)), (1, .int x1L1), (2, .int (x2L2 + 1)), (3, .int x3L2)] → W p l e rX6_sound s m ([.ref (sh.1 12 0)] : List Value).toArray below meth c H locs 0 0 (xQ below G (xvI (.inr r.1)) (xWd G sh sc r.2 sl) ([.ref (sh.1 12 0)] : List Value).toArray s 0 0) (F0 m 118 ls []) := by
                intro x4L3 srL3 hf H locs hW hS ls hl
                unfold fX6_sound_K3 at hf
                refine lv_iinc (v := (x3L2 + 1)) (lv' := [(3, .int (x3L2 + 1)), (0, .ref (sh.1 12 0)), (1, .int x1L1), (2, .int (x2L2 + 1))]) hx hb dX6_sound_118 hl (k := 3) rfl rfl (by decide) rfl (fun ls hl => ?_)
                refine lv_goto (tgt := 34) hx hb dX6_sound_121 (by decide) ?_
                exact ih_L2 _ _ _ hf _ _ hW hS ls (lv_sub hl [1, 2, 3, 0] rfl)
              have hL_L3 : ∀ (n9 : Nat) (x4L3 : Int32) (srL3 : xSR), fX6_sound_L3 (fX6_sound_K3 x2L2 x3L2 (fX6_sound_L2 x1L1 (fX6_sound_K2) n_L2)) n9 x4L3 srL3 = some r → ∀ (H : Heap) (locs : List Loc), xWd G sh sc srL3 sl H → va_S (xA G) s.heap H locs → ∀ ls : Array Slot, lv_has ls 5 [(0, .ref (sh.1 12 0)), (1, .int x1L1), (2, .int (x2L2 + 1)), (3, .int x3L2), (4, .int x4L3)] → W p l e rX6_sound s m ([.ref (sh.1 12 0)] : List Value).toArray below meth c H locs 0 0 (xQ below G (xvI (.inr r.1)) (xWd G sh sc r.2 sl) ([.ref (sh.1 12 0)] : List Value).toArray s 0 0) (F0 m 89 ls []) := by
                intro n_L3
                induction n_L3 with
                | zero =>
                  intro x4L3 srL3 hf
                  unfold fX6_sound_L3 at hf
                  cases hf
                | succ n_L3 ih_L3 =>
                  intro x4L3 srL3 hf H locs hW hS ls hl
                  unfold fX6_sound_L3 at hf
                  refine lv_iload hx hb dX6_sound_89 (lv_at hl 4 rfl) ?_
                  refine lv_aload_n hx hb dX6_sound_91 rfl (lv_at hl 0 rfl) ?_
                  refine xget F hT hW xuX6 (xm_fix (by decide)) xce_12 rfl 3 (by decide) xw_803 rfl rfl dX6_sound_92 ?_
                  refine lv_icmp_ge (tgt := 118) hx hb dX6_sound_95 (by decide) (fun c8 => ?_) (fun c8 => ?_)
                  · replace hf := if_t c8 hf
                    exact hx_L3 _ _ hf _ _ hW hS ls (lv_sub hl [0, 1, 2, 3] rfl)
                  · replace hf := if_f c8 hf
                    refine lv_aload_n hx hb dX6_sound_98 rfl (lv_at hl 0 rfl) ?_
                    refine xget F hT hW xuX6 (xm_fix (by decide)) xce_12 rfl 20 (by decide) xw_820 rfl rfl dX6_sound_99 ?_
                    refine lv_iload hx hb dX6_sound_102 (lv_at hl 4 rfl) ?_
                    refine lv_aload_n hx hb dX6_sound_104 rfl (lv_at hl 0 rfl) ?_
                    refine xget F hT hW xuX6 (xm_fix (by decide)) xce_12 rfl 19 (by decide) xw_819 rfl rfl dX6_sound_105 ?_
                    refine lv_iload hx hb dX6_sound_108 (lv_at hl 4 rfl) ?_
                    obtain ⟨g10, hf⟩ := oG_go hf
                    refine xmald (by decide) F hT hW (xm_fix (by decide)) (by decide) (xinb_ok g10) dX6_sound_110 ?_
                    obtain ⟨g9, hf⟩ := oG_go hf
                    refine xmast (by decide) F hT hW hS (xm_fix (by decide)) (by decide) (xinb_ok g9) dX6_sound_111 (fun H locs hW hS => ?_)
                    refine lv_iinc (v := (x4L3 + 1)) (lv' := [(4, .int (x4L3 + 1)), (0, .ref (sh.1 12 0)), (1, .int x1L1), (2, .int (x2L2 + 1)), (3, .int x3L2)]) hx hb dX6_sound_112 hl (k := 4) rfl rfl (by decide) rfl (fun ls hl => ?_)
                    refine lv_goto (tgt := 89) hx hb dX6_sound_115 (by decide) ?_
                    exact ih_L3 _ _ hf _ _ hW hS ls (lv_sub hl [1, 2, 3, 4, 0] rfl)
              exact hL_L3 _ _ _ hf _ _ hW hS ls (lv_sub hl [2, 3, 1, 4, 0] rfl)
            · replace hf := if_f c6 hf
              refine lv_aload_n hx hb dX6_sound_64 rfl (lv_at hl 1 rfl) ?_
              obtain ⟨v12, hc19, hf⟩ := oB_go hf
              refine xcallV (n := 0) F hT hW hS (xm_fix (by decide)) xce_12 rfl (kX6_movesOfPlan l hl0 G sh sc s3 sl   _ hc19) (xgV xw_1086 xw_1088 xwp_39 xw_4 xw_1089) rfl xd_X6_movesOfPlan ⟨Nat.le_of_ble_eq_true rfl, Nat.le_of_ble_eq_true rfl⟩ rfl hl.1 rfl (Nat.le_of_ble_eq_true rfl) dX6_sound_65 ⟨Nat.le_of_ble_eq_true rfl, Nat.le_of_ble_eq_true rfl⟩ (fun v9 H locs hres hW hS => ?_) (fun E9 H locs q9 ce9 hres => by cases hres)
              cases hres
              refine W.eq (g2 := F0 m 68 ls (.int v12 :: [])) rfl ?_
              refine lv_aload_n hx hb dX6_sound_68 rfl (lv_at hl 1 rfl) ?_
              refine xget F hT hW xuX6 (xm_fix (by decide)) xce_12 rfl 21 (by decide) xw_821 rfl rfl dX6_sound_69 ?_
              refine lv_icmp_lt (tgt := 78) hx hb dX6_sound_72 (by decide) (fun c13 => ?_) (fun c13 => ?_)
              · replace hf := if_t c13 hf
                refine lv_aload_n hx hb dX6_sound_78 rfl (lv_at hl 1 rfl) ?_
                refine lv_aload_n hx hb dX6_sound_79 rfl (lv_at hl 1 rfl) ?_
                obtain ⟨v14, hc18, hf⟩ := oB_go hf
                refine xcallV (n := 0) F hT hW hS (xm_fix (by decide)) xce_12 rfl (kX6_movesOfPlan l hl0 G sh sc s3 sl   _ hc18) (xgV xw_1086 xw_1088 xwp_39 xw_4 xw_1089) rfl xd_X6_movesOfPlan ⟨Nat.le_of_ble_eq_true rfl, Nat.le_of_ble_eq_true rfl⟩ rfl hl.1 rfl (Nat.le_of_ble_eq_true rfl) dX6_sound_80 ⟨Nat.le_of_ble_eq_true rfl, Nat.le_of_ble_eq_true rfl⟩ (fun v9 H locs hres hW hS => ?_) (fun E9 H locs q9 ce9 hres => by cases hres)
                cases hres
                refine W.eq (g2 := F0 m 83 ls (.int v14 :: .ref (sh.1 12 0) :: [])) rfl ?_
                refine xput (ty := .int) F hT hW hS xuX6 tyX6 tyX6_ok nmX6 (xm_fix (by decide)) xce_12 rfl 21 (by decide) xw_821 rfl rfl rfl rfl rfl (Nat.le_of_ble_eq_true rfl) xup_12_21 dX6_sound_83 (fun H locs hW hS => ?_)
                refine lv_iconst (v := 0) hx hb dX6_sound_86 (by decide) ?_
                refine lv_istore (lv' := [(4, .int 0), (2, .int (x2L2 + 1)), (0, .ref (sh.1 12 0)), (1, .int x1L1), (3, .int x3L2)]) hx hb dX6_sound_87 hl (by decide) rfl (fun ls hl => ?_)
                have hx_L4 : ∀ (x4L4 : Int32) (srL4 : xSR), fX6_sound_K4 x2L2 x3L2 (fX6_sound_L2 x1L1 (fX6_sound_K2) n_L2) x4L4 srL4 = some r → ∀ (H : Heap) (locs : List Loc), xWd G sh sc srL4 sl H → va_S (xA G) s.heap H locs → ∀ ls : Array Slot, lv_has ls 5 [(0, .ref (sh.1 12 0)), (1, .int x1L1), (2, .int (x2L2 + 1)), (3, .int x3L2)] → W p l e rX6_sound s m ([.ref (sh.1 12 0)] : List Value).toArray below meth c H locs 0 0 (xQ below G (xvI (.inr r.1)) (xWd G sh sc r.2 sl) ([.ref (sh.1 12 0)] : List Value).toArray s 0 0) (F0 m 118 ls []) := by
                  intro x4L4 srL4 hf H locs hW hS ls hl
                  unfold fX6_sound_K4 at hf
                  refine lv_iinc (v := (x3L2 + 1)) (lv' := [(3, .int (x3L2 + 1)), (0, .ref (sh.1 12 0)), (1, .int x1L1), (2, .int (x2L2 + 1))]) hx hb dX6_sound_118 hl (k := 3) rfl rfl (by decide) rfl (fun ls hl => ?_)
                  refine lv_goto (tgt := 34) hx hb dX6_sound_121 (by decide) ?_
                  exact ih_L2 _ _ _ hf _ _ hW hS ls (lv_sub hl [1, 2, 3, 0] rfl)
                have hL_L4 : ∀ (n9 : Nat) (x4L4 : Int32) (srL4 : xSR), fX6_sound_L4 (fX6_sound_K4 x2L2 x3L2 (fX6_sound_L2 x1L1 (fX6_sound_K2) n_L2)) n9 x4L4 srL4 = some r → ∀ (H : Heap) (locs : List Loc), xWd G sh sc srL4 sl H → va_S (xA G) s.heap H locs → ∀ ls : Array Slot, lv_has ls 5 [(0, .ref (sh.1 12 0)), (1, .int x1L1), (2, .int (x2L2 + 1)), (3, .int x3L2), (4, .int x4L4)] → W p l e rX6_sound s m ([.ref (sh.1 12 0)] : List Value).toArray below meth c H locs 0 0 (xQ below G (xvI (.inr r.1)) (xWd G sh sc r.2 sl) ([.ref (sh.1 12 0)] : List Value).toArray s 0 0) (F0 m 89 ls []) := by
                  intro n_L4
                  induction n_L4 with
                  | zero =>
                    intro x4L4 srL4 hf
                    unfold fX6_sound_L4 at hf
                    cases hf
                  | succ n_L4 ih_L4 =>
                    intro x4L4 srL4 hf H locs hW hS ls hl
                    unfold fX6_sound_L4 at hf
                    refine lv_iload hx hb dX6_sound_89 (lv_at hl 4 rfl) ?_
                    refine lv_aload_n hx hb dX6_sound_91 rfl (lv_at hl 0 rfl) ?_
                    refine xget F hT hW xuX6 (xm_fix (by decide)) xce_12 rfl 3 (by decide) xw_803 rfl rfl dX6_sound_92 ?_
                    refine lv_icmp_ge (tgt := 118) hx hb dX6_sound_95 (by decide) (fun c15 => ?_) (fun c15 => ?_)
                    · replace hf := if_t c15 hf
                      exact hx_L4 _ _ hf _ _ hW hS ls (lv_sub hl [0, 1, 2, 3] rfl)
                    · replace hf := if_f c15 hf
                      refine lv_aload_n hx hb dX6_sound_98 rfl (lv_at hl 0 rfl) ?_
                      refine xget F hT hW xuX6 (xm_fix (by decide)) xce_12 rfl 20 (by decide) xw_820 rfl rfl dX6_sound_99 ?_
                      refine lv_iload hx hb dX6_sound_102 (lv_at hl 4 rfl) ?_
                      refine lv_aload_n hx hb dX6_sound_104 rfl (lv_at hl 0 rfl) ?_
                      refine xget F hT hW xuX6 (xm_fix (by decide)) xce_12 rfl 19 (by decide) xw_819 rfl rfl dX6_sound_105 ?_
                      refine lv_iload hx hb dX6_sound_108 (lv_at hl 4 rfl) ?_
                      obtain ⟨g17, hf⟩ := oG_go hf
                      refine xmald (by decide) F hT hW (xm_fix (by decide)) (by decide) (xinb_ok g17) dX6_sound_110 ?_
                      obtain ⟨g16, hf⟩ := oG_go hf
                      refine xmast (by decide) F hT hW hS (xm_fix (by decide)) (by decide) (xinb_ok g16) dX6_sound_111 (fun H locs hW hS => ?_)
                      refine lv_iinc (v := (x4L4 + 1)) (lv' := [(4, .int (x4L4 + 1)), (0, .ref (sh.1 12 0)), (1, .int x1L1), (2, .int (x2L2 + 1)), (3, .int x3L2)]) hx hb dX6_sound_112 hl (k := 4) rfl rfl (by decide) rfl (fun ls hl => ?_)
                      refine lv_goto (tgt := 89) hx hb dX6_sound_115 (by decide) ?_
                      exact ih_L4 _ _ hf _ _ hW hS ls (lv_sub hl [1, 2, 3, 4, 0] rfl)
                exact hL_L4 _ _ _ hf _ _ hW hS ls (lv_sub hl [2, 3, 1, 4, 0] rfl)
              · replace hf := if_f c13 hf
                refine lv_goto (tgt := 118) hx hb dX6_sound_75 (by decide) ?_
                refine lv_iinc (v := (x3L2 + 1)) (lv' := [(3, .int (x3L2 + 1)), (2, .int (x2L2 + 1)), (0, .ref (sh.1 12 0)), (1, .int x1L1)]) hx hb dX6_sound_118 hl (k := 3) rfl rfl (by decide) rfl (fun ls hl => ?_)
                refine lv_goto (tgt := 34) hx hb dX6_sound_121 (by decide) ?_
                exact ih_L2 _ _ _ hf _ _ hW hS ls (lv_sub hl [2, 3, 1, 0] rfl)
          · replace hf := if_t c5 hf
            refine lv_goto (tgt := 118) hx hb dX6_sound_51 (by decide) ?_
            refine lv_iinc (v := (x3L2 + 1)) (lv' := [(3, .int (x3L2 + 1)), (0, .ref (sh.1 12 0)), (1, .int x1L1), (2, .int x2L2)]) hx hb dX6_sound_118 hl (k := 3) rfl rfl (by decide) rfl (fun ls hl => ?_)
            refine lv_goto (tgt := 34) hx hb dX6_sound_121 (by decide) ?_
            exact ih_L2 _ _ _ hf _ _ hW hS ls (lv_sub hl [1, 2, 3, 0] rfl)
    exact hL_L2 _ _ _ _ hf _ _ hW hS ls (lv_sub hl [2, 3, 1, 0] rfl)
  have hL_L1 : ∀ (n9 : Nat) (x1L1 : Int32) (x2L1 : Int32) (srL1 : xSR), fX6_sound_L1 (fX6_sound_K1) n9 x1L1 x2L1 srL1 = some r → ∀ (H : Heap) (locs : List Loc), xWd G sh sc srL1 sl H → va_S (xA G) s.heap H locs → ∀ ls : Array Slot, lv_has ls 5 [(0, .ref (sh.1 12 0)), (1, .int x1L1), (2, .int x2L1)] → W p l e rX6_sound s m ([.ref (sh.1 12 0)] : List Value).toArray below meth c H locs 0 0 (xQ below G (xvI (.inr r.1)) (xWd G sh sc r.2 sl) ([.ref (sh.1 12 0)] : List Value).toArray s 0 0) (F0 m 4 ls []) := by
    intro n_L1
    induction n_L1 with
    | zero =>
      intro x1L1 x2L1 srL1 hf
      unfold fX6_sound_L1 at hf
      cases hf
    | succ n_L1 ih_L1 =>
      intro x1L1 x2L1 srL1 hf H locs hW hS ls hl
      unfold fX6_sound_L1 at hf
      refine lv_iload_n hx hb dX6_sound_4 rfl (lv_at hl 2 rfl) ?_
      refine lv_aload_n hx hb dX6_sound_5 rfl (lv_at hl 0 rfl) ?_
      refine xget F hT hW xuX6 (xm_fix (by decide)) xce_12 rfl 3 (by decide) xw_803 rfl rfl dX6_sound_6 ?_
      refine lv_icmp_ge (tgt := 25) hx hb dX6_sound_9 (by decide) (fun c22 => ?_) (fun c22 => ?_)
      · replace hf := if_t c22 hf
        exact hx_L1 _ _ _ hf _ _ hW hS ls (lv_sub hl [0, 1] rfl)
      · replace hf := if_f c22 hf
        refine lv_iload_n hx hb dX6_sound_12 rfl (lv_at hl 1 rfl) ?_
        refine lv_aload_n hx hb dX6_sound_13 rfl (lv_at hl 0 rfl) ?_
        refine xget F hT hW xuX6 (xm_fix (by decide)) xce_12 rfl 0 (by decide) xw_800 rfl rfl dX6_sound_14 ?_
        refine lv_imul hx hb dX6_sound_17 ?_
        refine lv_istore_n (lv' := [(1, .int (x1L1 * (srL1.1 100 0))), (0, .ref (sh.1 12 0)), (2, .int x2L1)]) hx hb dX6_sound_18 rfl hl (by decide) rfl (fun ls hl => ?_)
        refine lv_iinc (v := (x2L1 + 1)) (lv' := [(2, .int (x2L1 + 1)), (1, .int (x1L1 * (srL1.1 100 0))), (0, .ref (sh.1 12 0))]) hx hb dX6_sound_19 hl (k := 2) rfl rfl (by decide) rfl (fun ls hl => ?_)
        refine lv_goto (tgt := 4) hx hb dX6_sound_22 (by decide) ?_
        exact ih_L1 _ _ _ hf _ _ hW hS ls (lv_sub hl [2, 1, 0] rfl)
  exact hL_L1 _ _ _ _ hf _ _ hW hS ls (lv_sub hl [2, 1, 0] rfl)
abbrev rX6_fewest : Room := { frames := 3, cells := 0, slots := 0, locals := 70 }
abbrev zX6_fewest : List Cond := Cond.code yX6_fewest cX6_fewest 1 (some .int) :: xB
theorem xd_X6_fewest : yX6_fewest.cls = RX6 ∧ yX6_fewest.cls ≠ "java/lang/invoke/MethodHandle" ∧ yX6_fewest.cls ≠ "java/lang/invoke/VarHandle" ∧ (parseMethodDescriptor yX6_fewest.desc).map (fun d => d.parameters.length) = some 0 := by decide +kernel
def fX6_fewest (sr : xSR) : Option (Int32 × xSR) := oP (fX6_sound  sr) (fun v1 s2 => (if v1 = 0 then oP (fX6_fails 1 s2) (fun v8 s9 => (if v8 = 0 then some ((s9.1 121 0), s9) else some (0, s9))) else oP (fX6_fails 0 s2) (fun v4 s5 => (if v4 = 0 then some ((s5.1 121 0), s5) else some (0, s5)))))
set_option maxHeartbeats 4000000 in
set_option maxRecDepth 100000 in
theorem kX6_fewest (l : Launch) (hl0 : l.stackTraces = false) (G : xG) (sh : xSh) (sc : xSC) (sr : xSR) (sl : xSL) (r : (Int32 × xSR)) (hf : fX6_fewest sr = some r) : xMet l yX6_fewest zX6_fewest rX6_fewest G sh sc sr sl ([.ref (sh.1 12 0)] : List Value) (xvI (.inr r.1)) (xWd G sh sc r.2 sl) := by
  refine xMet_of (cc := cX6_fewest) (maxL := 1) (ret := (some .int)) (by decide) (Nat.le_of_ble_eq_true rfl) ?_
  intro p e s m below meth c F hT hW hr hlocks htab ls hl
  have F : CallFix p m c cX6_fewest 1 s ([.ref (sh.1 12 0)] : List Value).toArray xB RX6 := F
  have hx := F.1
  have hb := F.2.1
  have hS : va_S (xA G) s.heap s.heap [] := va_S.rf
  have hl : lv_has ls 1 [(0, .ref (sh.1 12 0))] := hl
  unfold fX6_fewest at hf
  refine lv_aload_n hx hb dX6_fewest_0 rfl (lv_at hl 0 rfl) ?_
  refine lv_aload_n hx hb dX6_fewest_1 rfl (lv_at hl 0 rfl) ?_
  obtain ⟨v1, s2, hc12, hf⟩ := oP_go hf
  refine xcallV (n := 0) F hT hW hS (xm_fix (by decide)) xce_12 rfl (kX6_sound l hl0 G sh sc sr sl   _ hc12) (xgV xw_1070 xw_1072 xwp_35 xw_4 xw_1073) rfl xd_X6_sound ⟨Nat.le_of_ble_eq_true rfl, Nat.le_of_ble_eq_true rfl⟩ rfl hl.1 rfl (Nat.le_of_ble_eq_true rfl) dX6_fewest_2 ⟨Nat.le_of_ble_eq_true rfl, Nat.le_of_ble_eq_true rfl⟩ (fun v9 H locs hres hW hS => ?_) (fun E9 H locs q9 ce9 hres => by cases hres)
  cases hres
  refine W.eq (g2 := F0 m 5 ls (.int v1 :: .ref (sh.1 12 0) :: [])) rfl ?_
  refine lv_if_ne (tgt := 12) hx hb dX6_fewest_5 (by decide) (fun c3 => ?_) (fun c3 => ?_)
  · replace hf := if_f c3 hf
    refine lv_iconst (v := 0) hx hb dX6_fewest_12 (by decide) ?_
    obtain ⟨v4, s5, hc7, hf⟩ := oP_go hf
    refine xcallV (n := 1) F hT hW hS (xm_fix (by decide)) xce_12 rfl (kX6_fails l hl0 G sh sc s2 sl 0  _ hc7) (xgV xw_883 xw_885 xwp_14 xw_4 xw_886) rfl xd_X6_fails ⟨Nat.le_of_ble_eq_true rfl, Nat.le_of_ble_eq_true rfl⟩ rfl hl.1 rfl (Nat.le_of_ble_eq_true rfl) dX6_fewest_13 ⟨Nat.le_of_ble_eq_true rfl, Nat.le_of_ble_eq_true rfl⟩ (fun v9 H locs hres hW hS => ?_) (fun E9 H locs q9 ce9 hres => by cases hres)
    cases hres
    refine W.eq (g2 := F0 m 16 ls (.int v4 :: [])) rfl ?_
    refine lv_if_eq (tgt := 23) hx hb dX6_fewest_16 (by decide) (fun c6 => ?_) (fun c6 => ?_)
    · replace hf := if_t c6 hf
      refine lv_aload_n hx hb dX6_fewest_23 rfl (lv_at hl 0 rfl) ?_
      refine xget F hT hW xuX6 (xm_fix (by decide)) xce_12 rfl 21 (by decide) xw_821 rfl rfl dX6_fewest_24 ?_
      cases hf
      exact xret_i (ty := .int) F hr hlocks hS rfl rfl hW (Nat.le_of_ble_eq_true rfl) (Nat.le_of_ble_eq_true rfl) dX6_fewest_27
    · replace hf := if_f c6 hf
      refine lv_iconst (v := 0) hx hb dX6_fewest_19 (by decide) ?_
      refine lv_goto (tgt := 27) hx hb dX6_fewest_20 (by decide) ?_
      cases hf
      exact xret_i (ty := .int) F hr hlocks hS rfl rfl hW (Nat.le_of_ble_eq_true rfl) (Nat.le_of_ble_eq_true rfl) dX6_fewest_27
  · replace hf := if_t c3 hf
    refine lv_iconst (v := 1) hx hb dX6_fewest_8 (by decide) ?_
    refine lv_goto (tgt := 13) hx hb dX6_fewest_9 (by decide) ?_
    obtain ⟨v8, s9, hc11, hf⟩ := oP_go hf
    refine xcallV (n := 1) F hT hW hS (xm_fix (by decide)) xce_12 rfl (kX6_fails l hl0 G sh sc s2 sl 1  _ hc11) (xgV xw_883 xw_885 xwp_14 xw_4 xw_886) rfl xd_X6_fails ⟨Nat.le_of_ble_eq_true rfl, Nat.le_of_ble_eq_true rfl⟩ rfl hl.1 rfl (Nat.le_of_ble_eq_true rfl) dX6_fewest_13 ⟨Nat.le_of_ble_eq_true rfl, Nat.le_of_ble_eq_true rfl⟩ (fun v9 H locs hres hW hS => ?_) (fun E9 H locs q9 ce9 hres => by cases hres)
    cases hres
    refine W.eq (g2 := F0 m 16 ls (.int v8 :: [])) rfl ?_
    refine lv_if_eq (tgt := 23) hx hb dX6_fewest_16 (by decide) (fun c10 => ?_) (fun c10 => ?_)
    · replace hf := if_t c10 hf
      refine lv_aload_n hx hb dX6_fewest_23 rfl (lv_at hl 0 rfl) ?_
      refine xget F hT hW xuX6 (xm_fix (by decide)) xce_12 rfl 21 (by decide) xw_821 rfl rfl dX6_fewest_24 ?_
      cases hf
      exact xret_i (ty := .int) F hr hlocks hS rfl rfl hW (Nat.le_of_ble_eq_true rfl) (Nat.le_of_ble_eq_true rfl) dX6_fewest_27
    · replace hf := if_f c10 hf
      refine lv_iconst (v := 0) hx hb dX6_fewest_19 (by decide) ?_
      refine lv_goto (tgt := 27) hx hb dX6_fewest_20 (by decide) ?_
      cases hf
      exact xret_i (ty := .int) F hr hlocks hS rfl rfl hW (Nat.le_of_ble_eq_true rfl) (Nat.le_of_ble_eq_true rfl) dX6_fewest_27
abbrev rX6_fewestByTrying : Room := { frames := 4, cells := 0, slots := 0, locals := 90 }
abbrev zX6_fewestByTrying : List Cond := Cond.code yX6_fewestByTrying cX6_fewestByTrying 1 (some .int) :: xB
theorem xd_X6_fewestByTrying : yX6_fewestByTrying.cls = RX6 ∧ yX6_fewestByTrying.cls ≠ "java/lang/invoke/MethodHandle" ∧ yX6_fewestByTrying.cls ≠ "java/lang/invoke/VarHandle" ∧ (parseMethodDescriptor yX6_fewestByTrying.desc).map (fun d => d.parameters.length) = some 0 := by decide +kernel
def fX6_fewestByTrying (sr : xSR) : Option (Int32 × xSR) := oP (fX6_fewest  sr) (fun v1 s2 => some (v1, s2))
set_option maxHeartbeats 4000000 in
set_option maxRecDepth 100000 in
theorem kX6_fewestByTrying (l : Launch) (hl0 : l.stackTraces = false) (G : xG) (sh : xSh) (sc : xSC) (sr : xSR) (sl : xSL) (r : (Int32 × xSR)) (hf : fX6_fewestByTrying sr = some r) : xMet l yX6_fewestByTrying zX6_fewestByTrying rX6_fewestByTrying G sh sc sr sl ([.ref (sh.1 12 0)] : List Value) (xvI (.inr r.1)) (xWd G sh sc r.2 sl) := by
  refine xMet_of (cc := cX6_fewestByTrying) (maxL := 1) (ret := (some .int)) (by decide) (Nat.le_of_ble_eq_true rfl) ?_
  intro p e s m below meth c F hT hW hr hlocks htab ls hl
  have F : CallFix p m c cX6_fewestByTrying 1 s ([.ref (sh.1 12 0)] : List Value).toArray xB RX6 := F
  have hx := F.1
  have hb := F.2.1
  have hS : va_S (xA G) s.heap s.heap [] := va_S.rf
  have hl : lv_has ls 1 [(0, .ref (sh.1 12 0))] := hl
  unfold fX6_fewestByTrying at hf
  refine lv_aload_n hx hb dX6_fewestByTrying_0 rfl (lv_at hl 0 rfl) ?_
  obtain ⟨v1, s2, hc3, hf⟩ := oP_go hf
  refine xcallV (n := 0) F hT hW hS (xm_fix (by decide)) xce_12 rfl (kX6_fewest l hl0 G sh sc sr sl   _ hc3) (xgV xw_1066 xw_1068 xwp_34 xw_4 xw_1069) rfl xd_X6_fewest ⟨Nat.le_of_ble_eq_true rfl, Nat.le_of_ble_eq_true rfl⟩ rfl hl.1 rfl (Nat.le_of_ble_eq_true rfl) dX6_fewestByTrying_1 ⟨Nat.le_of_ble_eq_true rfl, Nat.le_of_ble_eq_true rfl⟩ (fun v9 H locs hres hW hS => ?_) (fun E9 H locs q9 ce9 hres => by cases hres)
  cases hres
  refine W.eq (g2 := F0 m 4 ls (.int v1 :: [])) rfl ?_
  cases hf
  exact xret_i (ty := .int) F hr hlocks hS rfl rfl hW (Nat.le_of_ble_eq_true rfl) (Nat.le_of_ble_eq_true rfl) dX6_fewestByTrying_4
abbrev rX6_fewestMoves : Room := { frames := 4, cells := 0, slots := 0, locals := 90 }
abbrev zX6_fewestMoves : List Cond := Cond.code yX6_fewestMoves cX6_fewestMoves 1 (some .int) :: xB
theorem xd_X6_fewestMoves : yX6_fewestMoves.cls = RX6 ∧ yX6_fewestMoves.cls ≠ "java/lang/invoke/MethodHandle" ∧ yX6_fewestMoves.cls ≠ "java/lang/invoke/VarHandle" ∧ (parseMethodDescriptor yX6_fewestMoves.desc).map (fun d => d.parameters.length) = some 0 := by decide +kernel
def fX6_fewestMoves (sr : xSR) : Option (Int32 × xSR) := oP (fX6_fewest  sr) (fun v1 s2 => some (v1, s2))
set_option maxHeartbeats 4000000 in
set_option maxRecDepth 100000 in
theorem kX6_fewestMoves (l : Launch) (hl0 : l.stackTraces = false) (G : xG) (sh : xSh) (sc : xSC) (sr : xSR) (sl : xSL) (r : (Int32 × xSR)) (hf : fX6_fewestMoves sr = some r) : xMet l yX6_fewestMoves zX6_fewestMoves rX6_fewestMoves G sh sc sr sl ([.ref (sh.1 12 0)] : List Value) (xvI (.inr r.1)) (xWd G sh sc r.2 sl) := by
  refine xMet_of (cc := cX6_fewestMoves) (maxL := 1) (ret := (some .int)) (by decide) (Nat.le_of_ble_eq_true rfl) ?_
  intro p e s m below meth c F hT hW hr hlocks htab ls hl
  have F : CallFix p m c cX6_fewestMoves 1 s ([.ref (sh.1 12 0)] : List Value).toArray xB RX6 := F
  have hx := F.1
  have hb := F.2.1
  have hS : va_S (xA G) s.heap s.heap [] := va_S.rf
  have hl : lv_has ls 1 [(0, .ref (sh.1 12 0))] := hl
  unfold fX6_fewestMoves at hf
  refine lv_aload_n hx hb dX6_fewestMoves_0 rfl (lv_at hl 0 rfl) ?_
  obtain ⟨v1, s2, hc3, hf⟩ := oP_go hf
  refine xcallV (n := 0) F hT hW hS (xm_fix (by decide)) xce_12 rfl (kX6_fewest l hl0 G sh sc sr sl   _ hc3) (xgV xw_1066 xw_1068 xwp_34 xw_4 xw_1069) rfl xd_X6_fewest ⟨Nat.le_of_ble_eq_true rfl, Nat.le_of_ble_eq_true rfl⟩ rfl hl.1 rfl (Nat.le_of_ble_eq_true rfl) dX6_fewestMoves_1 ⟨Nat.le_of_ble_eq_true rfl, Nat.le_of_ble_eq_true rfl⟩ (fun v9 H locs hres hW hS => ?_) (fun E9 H locs q9 ce9 hres => by cases hres)
  cases hres
  refine W.eq (g2 := F0 m 4 ls (.int v1 :: [])) rfl ?_
  cases hf
  exact xret_i (ty := .int) F hr hlocks hS rfl rfl hW (Nat.le_of_ble_eq_true rfl) (Nat.le_of_ble_eq_true rfl) dX6_fewestMoves_4
abbrev rX6_isInWindow : Room := { frames := 1, cells := 0, slots := 0, locals := 22 }
abbrev zX6_isInWindow : List Cond := Cond.code yX6_isInWindow cX6_isInWindow 5 (some .boolean) :: xB
theorem xd_X6_isInWindow : yX6_isInWindow.cls = RX6 ∧ yX6_isInWindow.cls ≠ "java/lang/invoke/MethodHandle" ∧ yX6_isInWindow.cls ≠ "java/lang/invoke/VarHandle" ∧ (parseMethodDescriptor yX6_isInWindow.desc).map (fun d => d.parameters.length) = some 2 := by decide +kernel
def fX6_isInWindow (a1 : Int32) (a2 : Int32) (sr : xSR) : Option Int32 := oG (xinb a1 6) (oG (xinb a1 6) ((if (sr.1 6 a1.toNatClampNeg) = (sr.1 7 a1.toNatClampNeg) then some 1 else (if (sr.1 7 a1.toNatClampNeg) ≤ (sr.1 6 a1.toNatClampNeg) then (if (sr.1 6 a1.toNatClampNeg) ≤ a2 then some 1 else (if (sr.1 7 a1.toNatClampNeg) ≤ a2 then some 0 else some 1)) else oB (fX6_in a2 (sr.1 6 a1.toNatClampNeg) ((sr.1 7 a1.toNatClampNeg) - 1) sr) (fun v5 => (if v5 = 0 then some 0 else some 1))))))
set_option maxHeartbeats 4000000 in
set_option maxRecDepth 100000 in
theorem kX6_isInWindow (l : Launch) (hl0 : l.stackTraces = false) (G : xG) (sh : xSh) (sc : xSC) (sr : xSR) (sl : xSL) (a1 : Int32) (a2 : Int32) (r : Int32) (hf : fX6_isInWindow a1 a2 sr = some r) : xMet l yX6_isInWindow zX6_isInWindow rX6_isInWindow G sh sc sr sl ([.ref (sh.1 12 0), .int a1, .int a2] : List Value) (xvI (.inr r)) (xWd G sh sc sr sl) := by
  refine xMet_of (cc := cX6_isInWindow) (maxL := 5) (ret := (some .boolean)) (by decide) (Nat.le_of_ble_eq_true rfl) ?_
  intro p e s m below meth c F hT hW hr hlocks htab ls hl
  have F : CallFix p m c cX6_isInWindow 5 s ([.ref (sh.1 12 0), .int a1, .int a2] : List Value).toArray xB RX6 := F
  have hx := F.1
  have hb := F.2.1
  have hS : va_S (xA G) s.heap s.heap [] := va_S.rf
  have hl : lv_has ls 5 [(0, .ref (sh.1 12 0)), (1, .int a1), (2, .int a2)] := hl
  unfold fX6_isInWindow at hf
  refine lv_aload_n hx hb dX6_isInWindow_0 rfl (lv_at hl 0 rfl) ?_
  refine xget F hT hW xuX6 (xm_fix (by decide)) xce_12 rfl 6 (by decide) xw_806 rfl rfl dX6_isInWindow_1 ?_
  refine lv_iload_n hx hb dX6_isInWindow_4 rfl (lv_at hl 1 rfl) ?_
  obtain ⟨g9, hf⟩ := oG_go hf
  refine xmald (by decide) F hT hW (xm_fix (by decide)) (by decide) (xinb_ok g9) dX6_isInWindow_5 ?_
  refine lv_istore_n (lv' := [(3, .int (sr.1 6 a1.toNatClampNeg)), (0, .ref (sh.1 12 0)), (1, .int a1), (2, .int a2)]) hx hb dX6_isInWindow_6 rfl hl (by decide) rfl (fun ls hl => ?_)
  refine lv_aload_n hx hb dX6_isInWindow_7 rfl (lv_at hl 1 rfl) ?_
  refine xget F hT hW xuX6 (xm_fix (by decide)) xce_12 rfl 7 (by decide) xw_807 rfl rfl dX6_isInWindow_8 ?_
  refine lv_iload_n hx hb dX6_isInWindow_11 rfl (lv_at hl 2 rfl) ?_
  obtain ⟨g8, hf⟩ := oG_go hf
  refine xmald (by decide) F hT hW (xm_fix (by decide)) (by decide) (xinb_ok g8) dX6_isInWindow_12 ?_
  refine lv_istore (lv' := [(4, .int (sr.1 7 a1.toNatClampNeg)), (3, .int (sr.1 6 a1.toNatClampNeg)), (0, .ref (sh.1 12 0)), (1, .int a1), (2, .int a2)]) hx hb dX6_isInWindow_13 hl (by decide) rfl (fun ls hl => ?_)
  refine lv_iload_n hx hb dX6_isInWindow_15 rfl (lv_at hl 1 rfl) ?_
  refine lv_iload hx hb dX6_isInWindow_16 (lv_at hl 0 rfl) ?_
  refine lv_icmp_eq (tgt := 53) hx hb dX6_isInWindow_18 (by decide) (fun c1 => ?_) (fun c1 => ?_)
  · replace hf := if_t c1 hf
    refine lv_iconst (v := 1) hx hb dX6_isInWindow_53 (by decide) ?_
    refine lv_goto (tgt := 58) hx hb dX6_isInWindow_54 (by decide) ?_
    cases hf
    exact xret_i (ty := .boolean) F hr hlocks hS (by decide) rfl hW (Nat.le_of_ble_eq_true rfl) (Nat.le_of_ble_eq_true rfl) dX6_isInWindow_58
  · replace hf := if_f c1 hf
    refine lv_iload_n hx hb dX6_isInWindow_21 rfl (lv_at hl 1 rfl) ?_
    refine lv_iload hx hb dX6_isInWindow_22 (lv_at hl 0 rfl) ?_
    refine lv_icmp_ge (tgt := 42) hx hb dX6_isInWindow_24 (by decide) (fun c2 => ?_) (fun c2 => ?_)
    · replace hf := if_t c2 hf
      refine lv_iload_n hx hb dX6_isInWindow_42 rfl (lv_at hl 4 rfl) ?_
      refine lv_iload_n hx hb dX6_isInWindow_43 rfl (lv_at hl 1 rfl) ?_
      refine lv_icmp_ge (tgt := 53) hx hb dX6_isInWindow_44 (by decide) (fun c3 => ?_) (fun c3 => ?_)
      · replace hf := if_t c3 hf
        refine lv_iconst (v := 1) hx hb dX6_isInWindow_53 (by decide) ?_
        refine lv_goto (tgt := 58) hx hb dX6_isInWindow_54 (by decide) ?_
        cases hf
        exact xret_i (ty := .boolean) F hr hlocks hS (by decide) rfl hW (Nat.le_of_ble_eq_true rfl) (Nat.le_of_ble_eq_true rfl) dX6_isInWindow_58
      · replace hf := if_f c3 hf
        refine lv_iload_n hx hb dX6_isInWindow_47 rfl (lv_at hl 4 rfl) ?_
        refine lv_iload hx hb dX6_isInWindow_48 (lv_at hl 0 rfl) ?_
        refine lv_icmp_ge (tgt := 57) hx hb dX6_isInWindow_50 (by decide) (fun c4 => ?_) (fun c4 => ?_)
        · replace hf := if_t c4 hf
          refine lv_iconst (v := 0) hx hb dX6_isInWindow_57 (by decide) ?_
          cases hf
          exact xret_i (ty := .boolean) F hr hlocks hS (by decide) rfl hW (Nat.le_of_ble_eq_true rfl) (Nat.le_of_ble_eq_true rfl) dX6_isInWindow_58
        · replace hf := if_f c4 hf
          refine lv_iconst (v := 1) hx hb dX6_isInWindow_53 (by decide) ?_
          refine lv_goto (tgt := 58) hx hb dX6_isInWindow_54 (by decide) ?_
          cases hf
          exact xret_i (ty := .boolean) F hr hlocks hS (by decide) rfl hW (Nat.le_of_ble_eq_true rfl) (Nat.le_of_ble_eq_true rfl) dX6_isInWindow_58
    · replace hf := if_f c2 hf
      refine lv_iload_n hx hb dX6_isInWindow_27 rfl (lv_at hl 4 rfl) ?_
      refine lv_iload_n hx hb dX6_isInWindow_28 rfl (lv_at hl 1 rfl) ?_
      refine lv_iload hx hb dX6_isInWindow_29 (lv_at hl 0 rfl) ?_
      refine lv_iconst (v := 1) hx hb dX6_isInWindow_31 (by decide) ?_
      refine lv_isub hx hb dX6_isInWindow_32 ?_
      obtain ⟨v5, hc7, hf⟩ := oB_go hf
      refine xcallS (n := 3) F hT hW hS (kX6_in l hl0 G sh sc sr sl a2 (sr.1 6 a1.toNatClampNeg) ((sr.1 7 a1.toNatClampNeg) - 1)  _ hc7) (xgS xw_880 xw_881 xw_4 xw_882) rfl xd_X6_in.2 ⟨Nat.le_of_ble_eq_true rfl, Nat.le_of_ble_eq_true rfl⟩ rfl hl.1 rfl (Nat.le_of_ble_eq_true rfl) dX6_isInWindow_33 ⟨Nat.le_of_ble_eq_true rfl, Nat.le_of_ble_eq_true rfl⟩ (fun v9 H locs hres hW hS => ?_) (fun E9 H locs q9 ce9 hres => by cases hres)
      cases hres
      refine W.eq (g2 := F0 m 36 ls (.int v5 :: [])) rfl ?_
      refine lv_if_eq (tgt := 57) hx hb dX6_isInWindow_36 (by decide) (fun c6 => ?_) (fun c6 => ?_)
      · replace hf := if_t c6 hf
        refine lv_iconst (v := 0) hx hb dX6_isInWindow_57 (by decide) ?_
        cases hf
        exact xret_i (ty := .boolean) F hr hlocks hS (by decide) rfl hW (Nat.le_of_ble_eq_true rfl) (Nat.le_of_ble_eq_true rfl) dX6_isInWindow_58
      · replace hf := if_f c6 hf
        refine lv_goto (tgt := 53) hx hb dX6_isInWindow_39 (by decide) ?_
        refine lv_iconst (v := 1) hx hb dX6_isInWindow_53 (by decide) ?_
        refine lv_goto (tgt := 58) hx hb dX6_isInWindow_54 (by decide) ?_
        cases hf
        exact xret_i (ty := .boolean) F hr hlocks hS (by decide) rfl hW (Nat.le_of_ble_eq_true rfl) (Nat.le_of_ble_eq_true rfl) dX6_isInWindow_58
abbrev rX6_goesOn : Room := { frames := 2, cells := 0, slots := 0, locals := 46 }
abbrev zX6_goesOn : List Cond := Cond.code yX6_goesOn cX6_goesOn 2 (some .boolean) :: xB
theorem xd_X6_goesOn : yX6_goesOn.cls = RX6 ∧ yX6_goesOn.cls ≠ "java/lang/invoke/MethodHandle" ∧ yX6_goesOn.cls ≠ "java/lang/invoke/VarHandle" ∧ (parseMethodDescriptor yX6_goesOn.desc).map (fun d => d.parameters.length) = some 1 := by decide +kernel
def fX6_goesOn (a1 : Int32) (sr : xSR) : Option (Int32 × xSR) := oG (xinb a1 6) ((if (sr.1 9 a1.toNatClampNeg) = 2 then oB (fX6_isInWindow a1 ((sr.1 116 0) - (sr.1 116 0) / 24 * 24) sr) (fun v12 => (if v12 = 0 then some (0, sr) else oG (xinb a1 6) (oG (xinb a1 6) (oG (xinb a1 6) (oG (xinb a1 6) (some (1, (xuR (xuR (xuR sr.1 8 a1.toNatClampNeg (sr.1 11 a1.toNatClampNeg), sr.2).1 9 a1.toNatClampNeg 3, (xuR sr.1 8 a1.toNatClampNeg (sr.1 11 a1.toNatClampNeg), sr.2).2).1 12 a1.toNatClampNeg 2, (xuR (xuR sr.1 8 a1.toNatClampNeg (sr.1 11 a1.toNatClampNeg), sr.2).1 9 a1.toNatClampNeg 3, (xuR sr.1 8 a1.toNatClampNeg (sr.1 11 a1.toNatClampNeg), sr.2).2).2)))))))) else oG (xinb a1 6) ((if (sr.1 9 a1.toNatClampNeg) = 0 then some (0, sr) else oG (xinb a1 6) (oG (xinb a1 6) (oG (xinb a1 6) ((if ((xuR sr.1 12 a1.toNatClampNeg ((sr.1 12 a1.toNatClampNeg) - 1), sr.2).1 12 a1.toNatClampNeg) = 0 then oG (xinb a1 6) ((if ((xuR sr.1 12 a1.toNatClampNeg ((sr.1 12 a1.toNatClampNeg) - 1), sr.2).1 9 a1.toNatClampNeg) = 1 then oG (xinb a1 6) (some (0, (xuR (xuR sr.1 12 a1.toNatClampNeg ((sr.1 12 a1.toNatClampNeg) - 1), sr.2).1 9 a1.toNatClampNeg 2, (xuR sr.1 12 a1.toNatClampNeg ((sr.1 12 a1.toNatClampNeg) - 1), sr.2).2))) else oG (xinb a1 6) (some (0, (xuR (xuR sr.1 12 a1.toNatClampNeg ((sr.1 12 a1.toNatClampNeg) - 1), sr.2).1 9 a1.toNatClampNeg 0, (xuR sr.1 12 a1.toNatClampNeg ((sr.1 12 a1.toNatClampNeg) - 1), sr.2).2))))) else some (0, (xuR sr.1 12 a1.toNatClampNeg ((sr.1 12 a1.toNatClampNeg) - 1), sr.2))))))))))
set_option maxHeartbeats 4000000 in
set_option maxRecDepth 100000 in
theorem kX6_goesOn (l : Launch) (hl0 : l.stackTraces = false) (G : xG) (sh : xSh) (sc : xSC) (sr : xSR) (sl : xSL) (a1 : Int32) (r : (Int32 × xSR)) (hf : fX6_goesOn a1 sr = some r) : xMet l yX6_goesOn zX6_goesOn rX6_goesOn G sh sc sr sl ([.ref (sh.1 12 0), .int a1] : List Value) (xvI (.inr r.1)) (xWd G sh sc r.2 sl) := by
  refine xMet_of (cc := cX6_goesOn) (maxL := 2) (ret := (some .boolean)) (by decide) (Nat.le_of_ble_eq_true rfl) ?_
  intro p e s m below meth c F hT hW hr hlocks htab ls hl
  have F : CallFix p m c cX6_goesOn 2 s ([.ref (sh.1 12 0), .int a1] : List Value).toArray xB RX6 := F
  have hx := F.1
  have hb := F.2.1
  have hS : va_S (xA G) s.heap s.heap [] := va_S.rf
  have hl : lv_has ls 2 [(0, .ref (sh.1 12 0)), (1, .int a1)] := hl
  unfold fX6_goesOn at hf
  refine lv_aload_n hx hb dX6_goesOn_0 rfl (lv_at hl 0 rfl) ?_
  refine xget F hT hW xuX6 (xm_fix (by decide)) xce_12 rfl 9 (by decide) xw_809 rfl rfl dX6_goesOn_1 ?_
  refine lv_iload_n hx hb dX6_goesOn_4 rfl (lv_at hl 1 rfl) ?_
  obtain ⟨g19, hf⟩ := oG_go hf
  refine xmald (by decide) F hT hW (xm_fix (by decide)) (by decide) (xinb_ok g19) dX6_goesOn_5 ?_
  refine lv_iconst (v := 2) hx hb dX6_goesOn_6 (by decide) ?_
  refine lv_icmp_ne (tgt := 55) hx hb dX6_goesOn_7 (by decide) (fun c1 => ?_) (fun c1 => ?_)
  · replace hf := if_f c1 hf
    refine lv_aload_n hx hb dX6_goesOn_55 rfl (lv_at hl 0 rfl) ?_
    refine xget F hT hW xuX6 (xm_fix (by decide)) xce_12 rfl 9 (by decide) xw_809 rfl rfl dX6_goesOn_56 ?_
    refine lv_iload_n hx hb dX6_goesOn_59 rfl (lv_at hl 1 rfl) ?_
    obtain ⟨g11, hf⟩ := oG_go hf
    refine xmald (by decide) F hT hW (xm_fix (by decide)) (by decide) (xinb_ok g11) dX6_goesOn_60 ?_
    refine lv_if_ne (tgt := 66) hx hb dX6_goesOn_61 (by decide) (fun c2 => ?_) (fun c2 => ?_)
    · replace hf := if_f c2 hf
      refine lv_aload_n hx hb dX6_goesOn_66 rfl (lv_at hl 0 rfl) ?_
      refine xget F hT hW xuX6 (xm_fix (by decide)) xce_12 rfl 12 (by decide) xw_812 rfl rfl dX6_goesOn_67 ?_
      refine lv_iload_n hx hb dX6_goesOn_70 rfl (lv_at hl 1 rfl) ?_
      refine lv_dup2_11 hx hb dX6_goesOn_71 rfl rfl ?_
      obtain ⟨g10, hf⟩ := oG_go hf
      refine xmald (by decide) F hT hW (xm_fix (by decide)) (by decide) (xinb_ok g10) dX6_goesOn_72 ?_
      refine lv_iconst (v := 1) hx hb dX6_goesOn_73 (by decide) ?_
      refine lv_isub hx hb dX6_goesOn_74 ?_
      obtain ⟨g9, hf⟩ := oG_go hf
      refine xmast (by decide) F hT hW hS (xm_fix (by decide)) (by decide) (xinb_ok g9) dX6_goesOn_75 (fun H locs hW hS => ?_)
      refine lv_aload_n hx hb dX6_goesOn_76 rfl (lv_at hl 0 rfl) ?_
      refine xget F hT hW xuX6 (xm_fix (by decide)) xce_12 rfl 12 (by decide) xw_812 rfl rfl dX6_goesOn_77 ?_
      refine lv_iload_n hx hb dX6_goesOn_80 rfl (lv_at hl 1 rfl) ?_
      obtain ⟨g8, hf⟩ := oG_go hf
      refine xmald (by decide) F hT hW (xm_fix (by decide)) (by decide) (xinb_ok g8) dX6_goesOn_81 ?_
      refine lv_if_ne (tgt := 106) hx hb dX6_goesOn_82 (by decide) (fun c3 => ?_) (fun c3 => ?_)
      · replace hf := if_f c3 hf
        refine lv_iconst (v := 0) hx hb dX6_goesOn_106 (by decide) ?_
        cases hf
        exact xret_i (ty := .boolean) F hr hlocks hS (by decide) rfl hW (Nat.le_of_ble_eq_true rfl) (Nat.le_of_ble_eq_true rfl) dX6_goesOn_107
      · replace hf := if_t c3 hf
        refine lv_aload_n hx hb dX6_goesOn_85 rfl (lv_at hl 0 rfl) ?_
        refine xget F hT hW xuX6 (xm_fix (by decide)) xce_12 rfl 9 (by decide) xw_809 rfl rfl dX6_goesOn_86 ?_
        refine lv_iload_n hx hb dX6_goesOn_89 rfl (lv_at hl 1 rfl) ?_
        refine lv_aload_n hx hb dX6_goesOn_90 rfl (lv_at hl 0 rfl) ?_
        refine xget F hT hW xuX6 (xm_fix (by decide)) xce_12 rfl 9 (by decide) xw_809 rfl rfl dX6_goesOn_91 ?_
        refine lv_iload_n hx hb dX6_goesOn_94 rfl (lv_at hl 1 rfl) ?_
        obtain ⟨g7, hf⟩ := oG_go hf
        refine xmald (by decide) F hT hW (xm_fix (by decide)) (by decide) (xinb_ok g7) dX6_goesOn_95 ?_
        refine lv_iconst (v := 1) hx hb dX6_goesOn_96 (by decide) ?_
        refine lv_icmp_ne (tgt := 104) hx hb dX6_goesOn_97 (by decide) (fun c4 => ?_) (fun c4 => ?_)
        · replace hf := if_f c4 hf
          refine lv_iconst (v := 0) hx hb dX6_goesOn_104 (by decide) ?_
          obtain ⟨g5, hf⟩ := oG_go hf
          refine xmast (by decide) F hT hW hS (xm_fix (by decide)) (by decide) (xinb_ok g5) dX6_goesOn_105 (fun H locs hW hS => ?_)
          refine lv_iconst (v := 0) hx hb dX6_goesOn_106 (by decide) ?_
          cases hf
          exact xret_i (ty := .boolean) F hr hlocks hS (by decide) rfl hW (Nat.le_of_ble_eq_true rfl) (Nat.le_of_ble_eq_true rfl) dX6_goesOn_107
        · replace hf := if_t c4 hf
          refine lv_iconst (v := 2) hx hb dX6_goesOn_100 (by decide) ?_
          refine lv_goto (tgt := 105) hx hb dX6_goesOn_101 (by decide) ?_
          obtain ⟨g6, hf⟩ := oG_go hf
          refine xmast (by decide) F hT hW hS (xm_fix (by decide)) (by decide) (xinb_ok g6) dX6_goesOn_105 (fun H locs hW hS => ?_)
          refine lv_iconst (v := 0) hx hb dX6_goesOn_106 (by decide) ?_
          cases hf
          exact xret_i (ty := .boolean) F hr hlocks hS (by decide) rfl hW (Nat.le_of_ble_eq_true rfl) (Nat.le_of_ble_eq_true rfl) dX6_goesOn_107
    · replace hf := if_t c2 hf
      refine lv_iconst (v := 0) hx hb dX6_goesOn_64 (by decide) ?_
      cases hf
      exact xret_i (ty := .boolean) F hr hlocks hS (by decide) rfl hW (Nat.le_of_ble_eq_true rfl) (Nat.le_of_ble_eq_true rfl) dX6_goesOn_65
  · replace hf := if_t c1 hf
    refine lv_aload_n hx hb dX6_goesOn_10 rfl (lv_at hl 0 rfl) ?_
    refine lv_iload_n hx hb dX6_goesOn_11 rfl (lv_at hl 1 rfl) ?_
    refine lv_aload_n hx hb dX6_goesOn_12 rfl (lv_at hl 0 rfl) ?_
    refine xget F hT hW xuX6 (xm_fix (by decide)) xce_12 rfl 16 (by decide) xw_816 rfl rfl dX6_goesOn_13 ?_
    refine lv_bipush (v := 24) hx hb dX6_goesOn_16 (by decide) ?_
    refine lv_irem hx hb dX6_goesOn_18 (by decide) ?_
    obtain ⟨v12, hc18, hf⟩ := oB_go hf
    refine xcallV (n := 2) F hT hW hS (xm_fix (by decide)) xce_12 rfl (kX6_isInWindow l hl0 G sh sc sr sl a1 ((sr.1 116 0) - (sr.1 116 0) / 24 * 24)  _ hc18) (xgV xw_986 xw_988 xwp_29 xw_4 xw_989) rfl xd_X6_isInWindow ⟨Nat.le_of_ble_eq_true rfl, Nat.le_of_ble_eq_true rfl⟩ rfl hl.1 rfl (Nat.le_of_ble_eq_true rfl) dX6_goesOn_19 ⟨Nat.le_of_ble_eq_true rfl, Nat.le_of_ble_eq_true rfl⟩ (fun v9 H locs hres hW hS => ?_) (fun E9 H locs q9 ce9 hres => by cases hres)
    cases hres
    refine W.eq (g2 := F0 m 22 ls (.int v12 :: [])) rfl ?_
    refine lv_if_ne (tgt := 27) hx hb dX6_goesOn_22 (by decide) (fun c13 => ?_) (fun c13 => ?_)
    · replace hf := if_f c13 hf
      refine lv_aload_n hx hb dX6_goesOn_27 rfl (lv_at hl 0 rfl) ?_
      refine xget F hT hW xuX6 (xm_fix (by decide)) xce_12 rfl 8 (by decide) xw_808 rfl rfl dX6_goesOn_28 ?_
      refine lv_iload_n hx hb dX6_goesOn_31 rfl (lv_at hl 1 rfl) ?_
      refine lv_aload_n hx hb dX6_goesOn_32 rfl (lv_at hl 0 rfl) ?_
      refine xget F hT hW xuX6 (xm_fix (by decide)) xce_12 rfl 11 (by decide) xw_811 rfl rfl dX6_goesOn_33 ?_
      refine lv_iload_n hx hb dX6_goesOn_36 rfl (lv_at hl 1 rfl) ?_
      obtain ⟨g17, hf⟩ := oG_go hf
      refine xmald (by decide) F hT hW (xm_fix (by decide)) (by decide) (xinb_ok g17) dX6_goesOn_37 ?_
      obtain ⟨g16, hf⟩ := oG_go hf
      refine xmast (by decide) F hT hW hS (xm_fix (by decide)) (by decide) (xinb_ok g16) dX6_goesOn_38 (fun H locs hW hS => ?_)
      refine lv_aload_n hx hb dX6_goesOn_39 rfl (lv_at hl 0 rfl) ?_
      refine xget F hT hW xuX6 (xm_fix (by decide)) xce_12 rfl 9 (by decide) xw_809 rfl rfl dX6_goesOn_40 ?_
      refine lv_iload_n hx hb dX6_goesOn_43 rfl (lv_at hl 1 rfl) ?_
      refine lv_iconst (v := 3) hx hb dX6_goesOn_44 (by decide) ?_
      obtain ⟨g15, hf⟩ := oG_go hf
      refine xmast (by decide) F hT hW hS (xm_fix (by decide)) (by decide) (xinb_ok g15) dX6_goesOn_45 (fun H locs hW hS => ?_)
      refine lv_aload_n hx hb dX6_goesOn_46 rfl (lv_at hl 0 rfl) ?_
      refine xget F hT hW xuX6 (xm_fix (by decide)) xce_12 rfl 12 (by decide) xw_812 rfl rfl dX6_goesOn_47 ?_
      refine lv_iload_n hx hb dX6_goesOn_50 rfl (lv_at hl 1 rfl) ?_
      refine lv_iconst (v := 2) hx hb dX6_goesOn_51 (by decide) ?_
      obtain ⟨g14, hf⟩ := oG_go hf
      refine xmast (by decide) F hT hW hS (xm_fix (by decide)) (by decide) (xinb_ok g14) dX6_goesOn_52 (fun H locs hW hS => ?_)
      refine lv_iconst (v := 1) hx hb dX6_goesOn_53 (by decide) ?_
      cases hf
      exact xret_i (ty := .boolean) F hr hlocks hS (by decide) rfl hW (Nat.le_of_ble_eq_true rfl) (Nat.le_of_ble_eq_true rfl) dX6_goesOn_54
    · replace hf := if_t c13 hf
      refine lv_iconst (v := 0) hx hb dX6_goesOn_25 (by decide) ?_
      cases hf
      exact xret_i (ty := .boolean) F hr hlocks hS (by decide) rfl hW (Nat.le_of_ble_eq_true rfl) (Nat.le_of_ble_eq_true rfl) dX6_goesOn_26
abbrev rX6_hasNoMove : Room := { frames := 2, cells := 0, slots := 0, locals := 43 }
abbrev zX6_hasNoMove : List Cond := Cond.code yX6_hasNoMove cX6_hasNoMove 2 (some .boolean) :: xB
theorem xd_X6_hasNoMove : yX6_hasNoMove.cls = RX6 ∧ yX6_hasNoMove.cls ≠ "java/lang/invoke/MethodHandle" ∧ yX6_hasNoMove.cls ≠ "java/lang/invoke/VarHandle" ∧ (parseMethodDescriptor yX6_hasNoMove.desc).map (fun d => d.parameters.length) = some 1 := by decide +kernel
def fX6_hasNoMove (a1 : Int32) (sr : xSR) : Option (Int32 × xSR) := oB (fX6_isNoTenant a1 sr) (fun v1 => (if v1 = 0 then oG (xinb a1 6) ((if (sr.1 9 a1.toNatClampNeg) = 0 then oP (fX6_fails 2 sr) (fun v8 s9 => oG (xnb .boolean v8) (some (v8, s9))) else oP (fX6_fails 0 sr) (fun v4 s5 => oG (xnb .boolean v4) (some (v4, s5))))) else oP (fX6_fails 1 sr) (fun v13 s14 => oG (xnb .boolean v13) (some (v13, s14)))))
set_option maxHeartbeats 4000000 in
set_option maxRecDepth 100000 in
theorem kX6_hasNoMove (l : Launch) (hl0 : l.stackTraces = false) (G : xG) (sh : xSh) (sc : xSC) (sr : xSR) (sl : xSL) (a1 : Int32) (r : (Int32 × xSR)) (hf : fX6_hasNoMove a1 sr = some r) : xMet l yX6_hasNoMove zX6_hasNoMove rX6_hasNoMove G sh sc sr sl ([.ref (sh.1 12 0), .int a1] : List Value) (xvI (.inr r.1)) (xWd G sh sc r.2 sl) := by
  refine xMet_of (cc := cX6_hasNoMove) (maxL := 2) (ret := (some .boolean)) (by decide) (Nat.le_of_ble_eq_true rfl) ?_
  intro p e s m below meth c F hT hW hr hlocks htab ls hl
  have F : CallFix p m c cX6_hasNoMove 2 s ([.ref (sh.1 12 0), .int a1] : List Value).toArray xB RX6 := F
  have hx := F.1
  have hb := F.2.1
  have hS : va_S (xA G) s.heap s.heap [] := va_S.rf
  have hl : lv_has ls 2 [(0, .ref (sh.1 12 0)), (1, .int a1)] := hl
  unfold fX6_hasNoMove at hf
  refine lv_aload_n hx hb dX6_hasNoMove_0 rfl (lv_at hl 0 rfl) ?_
  refine lv_aload_n hx hb dX6_hasNoMove_1 rfl (lv_at hl 0 rfl) ?_
  refine lv_iload_n hx hb dX6_hasNoMove_2 rfl (lv_at hl 1 rfl) ?_
  obtain ⟨v1, hc17, hf⟩ := oB_go hf
  refine xcallV (n := 1) F hT hW hS (xm_fix (by decide)) xce_12 rfl (kX6_isNoTenant l hl0 G sh sc sr sl a1  _ hc17) (xgV xw_926 xw_928 xwp_20 xw_4 xw_929) rfl xd_X6_isNoTenant ⟨Nat.le_of_ble_eq_true rfl, Nat.le_of_ble_eq_true rfl⟩ rfl hl.1 rfl (Nat.le_of_ble_eq_true rfl) dX6_hasNoMove_3 ⟨Nat.le_of_ble_eq_true rfl, Nat.le_of_ble_eq_true rfl⟩ (fun v9 H locs hres hW hS => ?_) (fun E9 H locs q9 ce9 hres => by cases hres)
  cases hres
  refine W.eq (g2 := F0 m 6 ls (.int v1 :: .ref (sh.1 12 0) :: [])) rfl ?_
  refine lv_if_eq (tgt := 13) hx hb dX6_hasNoMove_6 (by decide) (fun c2 => ?_) (fun c2 => ?_)
  · replace hf := if_t c2 hf
    refine lv_aload_n hx hb dX6_hasNoMove_13 rfl (lv_at hl 0 rfl) ?_
    refine xget F hT hW xuX6 (xm_fix (by decide)) xce_12 rfl 9 (by decide) xw_809 rfl rfl dX6_hasNoMove_14 ?_
    refine lv_iload_n hx hb dX6_hasNoMove_17 rfl (lv_at hl 1 rfl) ?_
    obtain ⟨g12, hf⟩ := oG_go hf
    refine xmald (by decide) F hT hW (xm_fix (by decide)) (by decide) (xinb_ok g12) dX6_hasNoMove_18 ?_
    refine lv_if_ne (tgt := 26) hx hb dX6_hasNoMove_19 (by decide) (fun c3 => ?_) (fun c3 => ?_)
    · replace hf := if_f c3 hf
      refine lv_iconst (v := 0) hx hb dX6_hasNoMove_26 (by decide) ?_
      obtain ⟨v4, s5, hc7, hf⟩ := oP_go hf
      refine xcallV (n := 1) F hT hW hS (xm_fix (by decide)) xce_12 rfl (kX6_fails l hl0 G sh sc sr sl 0  _ hc7) (xgV xw_883 xw_885 xwp_14 xw_4 xw_886) rfl xd_X6_fails ⟨Nat.le_of_ble_eq_true rfl, Nat.le_of_ble_eq_true rfl⟩ rfl hl.1 rfl (Nat.le_of_ble_eq_true rfl) dX6_hasNoMove_27 ⟨Nat.le_of_ble_eq_true rfl, Nat.le_of_ble_eq_true rfl⟩ (fun v9 H locs hres hW hS => ?_) (fun E9 H locs q9 ce9 hres => by cases hres)
      cases hres
      refine W.eq (g2 := F0 m 30 ls (.int v4 :: [])) rfl ?_
      obtain ⟨g6, hf⟩ := oG_go hf
      cases hf
      exact xret_i (ty := .boolean) F hr hlocks hS (xnb_ok g6).1 rfl hW (Nat.le_of_ble_eq_true rfl) (Nat.le_of_ble_eq_true rfl) dX6_hasNoMove_30
    · replace hf := if_t c3 hf
      refine lv_iconst (v := 2) hx hb dX6_hasNoMove_22 (by decide) ?_
      refine lv_goto (tgt := 27) hx hb dX6_hasNoMove_23 (by decide) ?_
      obtain ⟨v8, s9, hc11, hf⟩ := oP_go hf
      refine xcallV (n := 1) F hT hW hS (xm_fix (by decide)) xce_12 rfl (kX6_fails l hl0 G sh sc sr sl 2  _ hc11) (xgV xw_883 xw_885 xwp_14 xw_4 xw_886) rfl xd_X6_fails ⟨Nat.le_of_ble_eq_true rfl, Nat.le_of_ble_eq_true rfl⟩ rfl hl.1 rfl (Nat.le_of_ble_eq_true rfl) dX6_hasNoMove_27 ⟨Nat.le_of_ble_eq_true rfl, Nat.le_of_ble_eq_true rfl⟩ (fun v9 H locs hres hW hS => ?_) (fun E9 H locs q9 ce9 hres => by cases hres)
      cases hres
      refine W.eq (g2 := F0 m 30 ls (.int v8 :: [])) rfl ?_
      obtain ⟨g10, hf⟩ := oG_go hf
      cases hf
      exact xret_i (ty := .boolean) F hr hlocks hS (xnb_ok g10).1 rfl hW (Nat.le_of_ble_eq_true rfl) (Nat.le_of_ble_eq_true rfl) dX6_hasNoMove_30
  · replace hf := if_f c2 hf
    refine lv_iconst (v := 1) hx hb dX6_hasNoMove_9 (by decide) ?_
    refine lv_goto (tgt := 27) hx hb dX6_hasNoMove_10 (by decide) ?_
    obtain ⟨v13, s14, hc16, hf⟩ := oP_go hf
    refine xcallV (n := 1) F hT hW hS (xm_fix (by decide)) xce_12 rfl (kX6_fails l hl0 G sh sc sr sl 1  _ hc16) (xgV xw_883 xw_885 xwp_14 xw_4 xw_886) rfl xd_X6_fails ⟨Nat.le_of_ble_eq_true rfl, Nat.le_of_ble_eq_true rfl⟩ rfl hl.1 rfl (Nat.le_of_ble_eq_true rfl) dX6_hasNoMove_27 ⟨Nat.le_of_ble_eq_true rfl, Nat.le_of_ble_eq_true rfl⟩ (fun v9 H locs hres hW hS => ?_) (fun E9 H locs q9 ce9 hres => by cases hres)
    cases hres
    refine W.eq (g2 := F0 m 30 ls (.int v13 :: [])) rfl ?_
    obtain ⟨g15, hf⟩ := oG_go hf
    cases hf
    exact xret_i (ty := .boolean) F hr hlocks hS (xnb_ok g15).1 rfl hW (Nat.le_of_ble_eq_true rfl) (Nat.le_of_ble_eq_true rfl) dX6_hasNoMove_30
abbrev rX6_goneOn : Room := { frames := 3, cells := 0, slots := 0, locals := 64 }
abbrev zX6_goneOn : List Cond := Cond.code yX6_goneOn cX6_goneOn 3 (some .int) :: xB
theorem xd_X6_goneOn : yX6_goneOn.cls = RX6 ∧ yX6_goneOn.cls ≠ "java/lang/invoke/MethodHandle" ∧ yX6_goneOn.cls ≠ "java/lang/invoke/VarHandle" ∧ (parseMethodDescriptor yX6_goneOn.desc).map (fun d => d.parameters.length) = some 1 := by decide +kernel
def fX6_goneOn_K1 (x2L1 : Int32) (srL1 : xSR) : Option (Int32 × xSR) := some (((x2L1 + 1) + 2), srL1)
def fX6_goneOn_L1 (a1 : Int32) (k_L1 : Int32 → xSR → Option (Int32 × xSR)) : Nat → Int32 → xSR → Option (Int32 × xSR)
  | 0, _, _ => none
  | n + 1, x2L1, srL1 => oB (fX6_isInWindow a1 (((srL1.1 116 0) + x2L1) - ((srL1.1 116 0) + x2L1) / 24 * 24) srL1) (fun v6 => (if v6 = 0 then (fX6_goneOn_L1 a1 k_L1 n) (x2L1 + 1) srL1 else k_L1 x2L1 srL1))
def fX6_goneOn_K2 (x2L2 : Int32) (srL2 : xSR) : Option (Int32 × xSR) := some (((x2L2 + 1) + 2), srL2)
def fX6_goneOn_L2 (a1 : Int32) (k_L2 : Int32 → xSR → Option (Int32 × xSR)) : Nat → Int32 → xSR → Option (Int32 × xSR)
  | 0, _, _ => none
  | n + 1, x2L2, srL2 => oB (fX6_isInWindow a1 (((srL2.1 116 0) + x2L2) - ((srL2.1 116 0) + x2L2) / 24 * 24) srL2) (fun v9 => (if v9 = 0 then (fX6_goneOn_L2 a1 k_L2 n) (x2L2 + 1) srL2 else k_L2 x2L2 srL2))
def fX6_goneOn (a1 : Int32) (sr : xSR) : Option (Int32 × xSR) := oP (fX6_hasNoMove a1 sr) (fun v1 s2 => (if v1 = 0 then oG (xinb a1 6) ((if (s2.1 9 a1.toNatClampNeg) = 3 then oG (xinb a1 6) (some ((s2.1 12 a1.toNatClampNeg), s2)) else oG (xinb a1 6) ((if (s2.1 9 a1.toNatClampNeg) = 1 then oG (xinb a1 6) (fX6_goneOn_L2 a1 (fX6_goneOn_K2) 64 (s2.1 12 a1.toNatClampNeg) s2) else fX6_goneOn_L1 a1 (fX6_goneOn_K1) 64 0 s2)))) else some (0, s2)))
set_option maxHeartbeats 4000000 in
set_option maxRecDepth 100000 in
theorem kX6_goneOn (l : Launch) (hl0 : l.stackTraces = false) (G : xG) (sh : xSh) (sc : xSC) (sr : xSR) (sl : xSL) (a1 : Int32) (r : (Int32 × xSR)) (hf : fX6_goneOn a1 sr = some r) : xMet l yX6_goneOn zX6_goneOn rX6_goneOn G sh sc sr sl ([.ref (sh.1 12 0), .int a1] : List Value) (xvI (.inr r.1)) (xWd G sh sc r.2 sl) := by
  refine xMet_of (cc := cX6_goneOn) (maxL := 3) (ret := (some .int)) (by decide) (Nat.le_of_ble_eq_true rfl) ?_
  intro p e s m below meth c F hT hW hr hlocks htab ls hl
  have F : CallFix p m c cX6_goneOn 3 s ([.ref (sh.1 12 0), .int a1] : List Value).toArray xB RX6 := F
  have hx := F.1
  have hb := F.2.1
  have hS : va_S (xA G) s.heap s.heap [] := va_S.rf
  have hl : lv_has ls 3 [(0, .ref (sh.1 12 0)), (1, .int a1)] := hl
  unfold fX6_goneOn at hf
  refine lv_aload_n hx hb dX6_goneOn_0 rfl (lv_at hl 0 rfl) ?_
  refine lv_iload_n hx hb dX6_goneOn_1 rfl (lv_at hl 1 rfl) ?_
  obtain ⟨v1, s2, hc16, hf⟩ := oP_go hf
  refine xcallV (n := 1) F hT hW hS (xm_fix (by decide)) xce_12 rfl (kX6_hasNoMove l hl0 G sh sc sr sl a1  _ hc16) (xgV xw_1006 xw_1008 xwp_31 xw_4 xw_1009) rfl xd_X6_hasNoMove ⟨Nat.le_of_ble_eq_true rfl, Nat.le_of_ble_eq_true rfl⟩ rfl hl.1 rfl (Nat.le_of_ble_eq_true rfl) dX6_goneOn_2 ⟨Nat.le_of_ble_eq_true rfl, Nat.le_of_ble_eq_true rfl⟩ (fun v9 H locs hres hW hS => ?_) (fun E9 H locs q9 ce9 hres => by cases hres)
  cases hres
  refine W.eq (g2 := F0 m 5 ls (.int v1 :: [])) rfl ?_
  refine lv_if_eq (tgt := 10) hx hb dX6_goneOn_5 (by decide) (fun c3 => ?_) (fun c3 => ?_)
  · replace hf := if_t c3 hf
    refine lv_aload_n hx hb dX6_goneOn_10 rfl (lv_at hl 0 rfl) ?_
    refine xget F hT hW xuX6 (xm_fix (by decide)) xce_12 rfl 9 (by decide) xw_809 rfl rfl dX6_goneOn_11 ?_
    refine lv_iload_n hx hb dX6_goneOn_14 rfl (lv_at hl 1 rfl) ?_
    obtain ⟨g15, hf⟩ := oG_go hf
    refine xmald (by decide) F hT hW (xm_fix (by decide)) (by decide) (xinb_ok g15) dX6_goneOn_15 ?_
    refine lv_iconst (v := 3) hx hb dX6_goneOn_16 (by decide) ?_
    refine lv_icmp_ne (tgt := 27) hx hb dX6_goneOn_17 (by decide) (fun c4 => ?_) (fun c4 => ?_)
    · replace hf := if_f c4 hf
      refine lv_aload_n hx hb dX6_goneOn_27 rfl (lv_at hl 0 rfl) ?_
      refine xget F hT hW xuX6 (xm_fix (by decide)) xce_12 rfl 9 (by decide) xw_809 rfl rfl dX6_goneOn_28 ?_
      refine lv_iload_n hx hb dX6_goneOn_31 rfl (lv_at hl 1 rfl) ?_
      obtain ⟨g13, hf⟩ := oG_go hf
      refine xmald (by decide) F hT hW (xm_fix (by decide)) (by decide) (xinb_ok g13) dX6_goneOn_32 ?_
      refine lv_iconst (v := 1) hx hb dX6_goneOn_33 (by decide) ?_
      refine lv_icmp_ne (tgt := 46) hx hb dX6_goneOn_34 (by decide) (fun c5 => ?_) (fun c5 => ?_)
      · replace hf := if_f c5 hf
        refine lv_iconst (v := 0) hx hb dX6_goneOn_46 (by decide) ?_
        refine lv_istore_n (lv' := [(2, .int 0), (0, .ref (sh.1 12 0)), (1, .int a1)]) hx hb dX6_goneOn_47 rfl hl (by decide) rfl (fun ls hl => ?_)
        have hx_L1 : ∀ (x2L1 : Int32) (srL1 : xSR), fX6_goneOn_K1 x2L1 srL1 = some r → ∀ (H : Heap) (locs : List Loc), xWd G sh sc srL1 sl H → va_S (xA G) s.heap H locs → ∀ ls : Array Slot, lv_has ls 3 [(2, .int x2L1)] → W p l e rX6_goneOn s m ([.ref (sh.1 12 0), .int a1] : List Value).toArray below meth c H locs 0 0 (xQ below G (xvI (.inr r.1)) (xWd G sh sc r.2 sl) ([.ref (sh.1 12 0), .int a1] : List Value).toArray s 0 0) (F0 m 71 ls []) := by
          intro x2L1 srL1 hf H locs hW hS ls hl
          unfold fX6_goneOn_K1 at hf
          refine lv_iload_n hx hb dX6_goneOn_71 rfl (lv_at hl 0 rfl) ?_
          refine lv_iconst (v := 1) hx hb dX6_goneOn_72 (by decide) ?_
          refine lv_iadd hx hb dX6_goneOn_73 ?_
          refine lv_iconst (v := 2) hx hb dX6_goneOn_74 (by decide) ?_
          refine lv_iadd hx hb dX6_goneOn_75 ?_
          cases hf
          exact xret_i (ty := .int) F hr hlocks hS rfl rfl hW (Nat.le_of_ble_eq_true rfl) (Nat.le_of_ble_eq_true rfl) dX6_goneOn_76
        have hL_L1 : ∀ (n9 : Nat) (x2L1 : Int32) (srL1 : xSR), fX6_goneOn_L1 a1 (fX6_goneOn_K1) n9 x2L1 srL1 = some r → ∀ (H : Heap) (locs : List Loc), xWd G sh sc srL1 sl H → va_S (xA G) s.heap H locs → ∀ ls : Array Slot, lv_has ls 3 [(0, .ref (sh.1 12 0)), (1, .int a1), (2, .int x2L1)] → W p l e rX6_goneOn s m ([.ref (sh.1 12 0), .int a1] : List Value).toArray below meth c H locs 0 0 (xQ below G (xvI (.inr r.1)) (xWd G sh sc r.2 sl) ([.ref (sh.1 12 0), .int a1] : List Value).toArray s 0 0) (F0 m 48 ls []) := by
          intro n_L1
          induction n_L1 with
          | zero =>
            intro x2L1 srL1 hf
            unfold fX6_goneOn_L1 at hf
            cases hf
          | succ n_L1 ih_L1 =>
            intro x2L1 srL1 hf H locs hW hS ls hl
            unfold fX6_goneOn_L1 at hf
            refine lv_aload_n hx hb dX6_goneOn_48 rfl (lv_at hl 0 rfl) ?_
            refine lv_iload_n hx hb dX6_goneOn_49 rfl (lv_at hl 1 rfl) ?_
            refine lv_aload_n hx hb dX6_goneOn_50 rfl (lv_at hl 0 rfl) ?_
            refine xget F hT hW xuX6 (xm_fix (by decide)) xce_12 rfl 16 (by decide) xw_816 rfl rfl dX6_goneOn_51 ?_
            refine lv_iload_n hx hb dX6_goneOn_54 rfl (lv_at hl 2 rfl) ?_
            refine lv_iadd hx hb dX6_goneOn_55 ?_
            refine lv_bipush (v := 24) hx hb dX6_goneOn_56 (by decide) ?_
            refine lv_irem hx hb dX6_goneOn_58 (by decide) ?_
            obtain ⟨v6, hc8, hf⟩ := oB_go hf
            refine xcallV (n := 2) F hT hW hS (xm_fix (by decide)) xce_12 rfl (kX6_isInWindow l hl0 G sh sc srL1 sl a1 (((srL1.1 116 0) + x2L1) - ((srL1.1 116 0) + x2L1) / 24 * 24)  _ hc8) (xgV xw_986 xw_988 xwp_29 xw_4 xw_989) rfl xd_X6_isInWindow ⟨Nat.le_of_ble_eq_true rfl, Nat.le_of_ble_eq_true rfl⟩ rfl hl.1 rfl (Nat.le_of_ble_eq_true rfl) dX6_goneOn_59 ⟨Nat.le_of_ble_eq_true rfl, Nat.le_of_ble_eq_true rfl⟩ (fun v9 H locs hres hW hS => ?_) (fun E9 H locs q9 ce9 hres => by cases hres)
            cases hres
            refine W.eq (g2 := F0 m 62 ls (.int v6 :: [])) rfl ?_
            refine lv_if_ne (tgt := 71) hx hb dX6_goneOn_62 (by decide) (fun c7 => ?_) (fun c7 => ?_)
            · replace hf := if_f c7 hf
              exact hx_L1 _ _ hf _ _ hW hS ls (lv_sub hl [2] rfl)
            · replace hf := if_t c7 hf
              refine lv_iinc (v := (x2L1 + 1)) (lv' := [(2, .int (x2L1 + 1)), (0, .ref (sh.1 12 0)), (1, .int a1)]) hx hb dX6_goneOn_65 hl (k := 2) rfl rfl (by decide) rfl (fun ls hl => ?_)
              refine lv_goto (tgt := 48) hx hb dX6_goneOn_68 (by decide) ?_
              exact ih_L1 _ _ hf _ _ hW hS ls (lv_sub hl [1, 2, 0] rfl)
        exact hL_L1 _ _ _ hf _ _ hW hS ls (lv_sub hl [1, 2, 0] rfl)
      · replace hf := if_t c5 hf
        refine lv_aload_n hx hb dX6_goneOn_37 rfl (lv_at hl 0 rfl) ?_
        refine xget F hT hW xuX6 (xm_fix (by decide)) xce_12 rfl 12 (by decide) xw_812 rfl rfl dX6_goneOn_38 ?_
        refine lv_iload_n hx hb dX6_goneOn_41 rfl (lv_at hl 1 rfl) ?_
        obtain ⟨g12, hf⟩ := oG_go hf
        refine xmald (by decide) F hT hW (xm_fix (by decide)) (by decide) (xinb_ok g12) dX6_goneOn_42 ?_
        refine lv_goto (tgt := 47) hx hb dX6_goneOn_43 (by decide) ?_
        refine lv_istore_n (lv' := [(2, .int (s2.1 12 a1.toNatClampNeg)), (0, .ref (sh.1 12 0)), (1, .int a1)]) hx hb dX6_goneOn_47 rfl hl (by decide) rfl (fun ls hl => ?_)
        have hx_L2 : ∀ (x2L2 : Int32) (srL2 : xSR), fX6_goneOn_K2 x2L2 srL2 = some r → ∀ (H : Heap) (locs : List Loc), xWd G sh sc srL2 sl H → va_S (xA G) s.heap H locs → ∀ ls : Array Slot, lv_has ls 3 [(2, .int x2L2)] → W p l e rX6_goneOn s m ([.ref (sh.1 12 0), .int a1] : List Value).toArray below meth c H locs 0 0 (xQ below G (xvI (.inr r.1)) (xWd G sh sc r.2 sl) ([.ref (sh.1 12 0), .int a1] : List Value).toArray s 0 0) (F0 m 71 ls []) := by
          intro x2L2 srL2 hf H locs hW hS ls hl
          unfold fX6_goneOn_K2 at hf
          refine lv_iload_n hx hb dX6_goneOn_71 rfl (lv_at hl 0 rfl) ?_
          refine lv_iconst (v := 1) hx hb dX6_goneOn_72 (by decide) ?_
          refine lv_iadd hx hb dX6_goneOn_73 ?_
          refine lv_iconst (v := 2) hx hb dX6_goneOn_74 (by decide) ?_
          refine lv_iadd hx hb dX6_goneOn_75 ?_
          cases hf
          exact xret_i (ty := .int) F hr hlocks hS rfl rfl hW (Nat.le_of_ble_eq_true rfl) (Nat.le_of_ble_eq_true rfl) dX6_goneOn_76
        have hL_L2 : ∀ (n9 : Nat) (x2L2 : Int32) (srL2 : xSR), fX6_goneOn_L2 a1 (fX6_goneOn_K2) n9 x2L2 srL2 = some r → ∀ (H : Heap) (locs : List Loc), xWd G sh sc srL2 sl H → va_S (xA G) s.heap H locs → ∀ ls : Array Slot, lv_has ls 3 [(0, .ref (sh.1 12 0)), (1, .int a1), (2, .int x2L2)] → W p l e rX6_goneOn s m ([.ref (sh.1 12 0), .int a1] : List Value).toArray below meth c H locs 0 0 (xQ below G (xvI (.inr r.1)) (xWd G sh sc r.2 sl) ([.ref (sh.1 12 0), .int a1] : List Value).toArray s 0 0) (F0 m 48 ls []) := by
          intro n_L2
          induction n_L2 with
          | zero =>
            intro x2L2 srL2 hf
            unfold fX6_goneOn_L2 at hf
            cases hf
          | succ n_L2 ih_L2 =>
            intro x2L2 srL2 hf H locs hW hS ls hl
            unfold fX6_goneOn_L2 at hf
            refine lv_aload_n hx hb dX6_goneOn_48 rfl (lv_at hl 0 rfl) ?_
            refine lv_iload_n hx hb dX6_goneOn_49 rfl (lv_at hl 1 rfl) ?_
            refine lv_aload_n hx hb dX6_goneOn_50 rfl (lv_at hl 0 rfl) ?_
            refine xget F hT hW xuX6 (xm_fix (by decide)) xce_12 rfl 16 (by decide) xw_816 rfl rfl dX6_goneOn_51 ?_
            refine lv_iload_n hx hb dX6_goneOn_54 rfl (lv_at hl 2 rfl) ?_
            refine lv_iadd hx hb dX6_goneOn_55 ?_
            refine lv_bipush (v := 24) hx hb dX6_goneOn_56 (by decide) ?_
            refine lv_irem hx hb dX6_goneOn_58 (by decide) ?_
            obtain ⟨v9, hc11, hf⟩ := oB_go hf
            refine xcallV (n := 2) F hT hW hS (xm_fix (by decide)) xce_12 rfl (kX6_isInWindow l hl0 G sh sc srL2 sl a1 (((srL2.1 116 0) + x2L2) - ((srL2.1 116 0) + x2L2) / 24 * 24)  _ hc11) (xgV xw_986 xw_988 xwp_29 xw_4 xw_989) rfl xd_X6_isInWindow ⟨Nat.le_of_ble_eq_true rfl, Nat.le_of_ble_eq_true rfl⟩ rfl hl.1 rfl (Nat.le_of_ble_eq_true rfl) dX6_goneOn_59 ⟨Nat.le_of_ble_eq_true rfl, Nat.le_of_ble_eq_true rfl⟩ (fun v9 H locs hres hW hS => ?_) (fun E9 H locs q9 ce9 hres => by cases hres)
            cases hres
            refine W.eq (g2 := F0 m 62 ls (.int v9 :: [])) rfl ?_
            refine lv_if_ne (tgt := 71) hx hb dX6_goneOn_62 (by decide) (fun c10 => ?_) (fun c10 => ?_)
            · replace hf := if_f c10 hf
              exact hx_L2 _ _ hf _ _ hW hS ls (lv_sub hl [2] rfl)
            · replace hf := if_t c10 hf
              refine lv_iinc (v := (x2L2 + 1)) (lv' := [(2, .int (x2L2 + 1)), (0, .ref (sh.1 12 0)), (1, .int a1)]) hx hb dX6_goneOn_65 hl (k := 2) rfl rfl (by decide) rfl (fun ls hl => ?_)
              refine lv_goto (tgt := 48) hx hb dX6_goneOn_68 (by decide) ?_
              exact ih_L2 _ _ hf _ _ hW hS ls (lv_sub hl [1, 2, 0] rfl)
        exact hL_L2 _ _ _ hf _ _ hW hS ls (lv_sub hl [1, 2, 0] rfl)
    · replace hf := if_t c4 hf
      refine lv_aload_n hx hb dX6_goneOn_20 rfl (lv_at hl 0 rfl) ?_
      refine xget F hT hW xuX6 (xm_fix (by decide)) xce_12 rfl 12 (by decide) xw_812 rfl rfl dX6_goneOn_21 ?_
      refine lv_iload_n hx hb dX6_goneOn_24 rfl (lv_at hl 1 rfl) ?_
      obtain ⟨g14, hf⟩ := oG_go hf
      refine xmald (by decide) F hT hW (xm_fix (by decide)) (by decide) (xinb_ok g14) dX6_goneOn_25 ?_
      cases hf
      exact xret_i (ty := .int) F hr hlocks hS rfl rfl hW (Nat.le_of_ble_eq_true rfl) (Nat.le_of_ble_eq_true rfl) dX6_goneOn_26
  · replace hf := if_f c3 hf
    refine lv_iconst (v := 0) hx hb dX6_goneOn_8 (by decide) ?_
    cases hf
    exact xret_i (ty := .int) F hr hlocks hS rfl rfl hW (Nat.le_of_ble_eq_true rfl) (Nat.le_of_ble_eq_true rfl) dX6_goneOn_9
abbrev rX6_isTooMuch : Room := { frames := 4, cells := 0, slots := 0, locals := 91 }
abbrev zX6_isTooMuch : List Cond := Cond.code yX6_isTooMuch cX6_isTooMuch 3 (some .boolean) :: xB
theorem xd_X6_isTooMuch : yX6_isTooMuch.cls = RX6 ∧ yX6_isTooMuch.cls ≠ "java/lang/invoke/MethodHandle" ∧ yX6_isTooMuch.cls ≠ "java/lang/invoke/VarHandle" ∧ (parseMethodDescriptor yX6_isTooMuch.desc).map (fun d => d.parameters.length) = some 1 := by decide +kernel
def fX6_isTooMuch_K1 (x2L1 : Int32) : Option Int32 := some 0
def fX6_isTooMuch_L1 (a1 : Int32) (sr : xSR) (k_L1 : Int32 → Option Int32) : Nat → Int32 → Option Int32
  | 0, _ => none
  | n + 1, x2L1 => (if 3 ≤ x2L1 then k_L1 x2L1 else oB (fX6_isFull a1 x2L1 0 sr) (fun v2 => (if v2 = 0 then (fX6_isTooMuch_L1 a1 sr k_L1 n) (x2L1 + 1) else some 1)))
def fX6_isTooMuch (a1 : Int32) (sr : xSR) : Option Int32 := fX6_isTooMuch_L1 a1 sr (fX6_isTooMuch_K1) 64 0
set_option maxHeartbeats 4000000 in
set_option maxRecDepth 100000 in
theorem kX6_isTooMuch (l : Launch) (hl0 : l.stackTraces = false) (G : xG) (sh : xSh) (sc : xSC) (sr : xSR) (sl : xSL) (a1 : Int32) (r : Int32) (hf : fX6_isTooMuch a1 sr = some r) : xMet l yX6_isTooMuch zX6_isTooMuch rX6_isTooMuch G sh sc sr sl ([.ref (sh.1 12 0), .int a1] : List Value) (xvI (.inr r)) (xWd G sh sc sr sl) := by
  refine xMet_of (cc := cX6_isTooMuch) (maxL := 3) (ret := (some .boolean)) (by decide) (Nat.le_of_ble_eq_true rfl) ?_
  intro p e s m below meth c F hT hW hr hlocks htab ls hl
  have F : CallFix p m c cX6_isTooMuch 3 s ([.ref (sh.1 12 0), .int a1] : List Value).toArray xB RX6 := F
  have hx := F.1
  have hb := F.2.1
  have hS : va_S (xA G) s.heap s.heap [] := va_S.rf
  have hl : lv_has ls 3 [(0, .ref (sh.1 12 0)), (1, .int a1)] := hl
  unfold fX6_isTooMuch at hf
  refine lv_iconst (v := 0) hx hb dX6_isTooMuch_0 (by decide) ?_
  refine lv_istore_n (lv' := [(2, .int 0), (0, .ref (sh.1 12 0)), (1, .int a1)]) hx hb dX6_isTooMuch_1 rfl hl (by decide) rfl (fun ls hl => ?_)
  have hx_L1 : ∀ (x2L1 : Int32), fX6_isTooMuch_K1 x2L1 = some r → ∀ (H : Heap) (locs : List Loc), xWd G sh sc sr sl H → va_S (xA G) s.heap H locs → ∀ ls : Array Slot, lv_has ls 3 [] → W p l e rX6_isTooMuch s m ([.ref (sh.1 12 0), .int a1] : List Value).toArray below meth c H locs 0 0 (xQ below G (xvI (.inr r)) (xWd G sh sc sr sl) ([.ref (sh.1 12 0), .int a1] : List Value).toArray s 0 0) (F0 m 25 ls []) := by
    intro x2L1 hf H locs hW hS ls hl
    unfold fX6_isTooMuch_K1 at hf
    refine lv_iconst (v := 0) hx hb dX6_isTooMuch_25 (by decide) ?_
    cases hf
    exact xret_i (ty := .boolean) F hr hlocks hS (by decide) rfl hW (Nat.le_of_ble_eq_true rfl) (Nat.le_of_ble_eq_true rfl) dX6_isTooMuch_26
  have hL_L1 : ∀ (n9 : Nat) (x2L1 : Int32), fX6_isTooMuch_L1 a1 sr (fX6_isTooMuch_K1) n9 x2L1 = some r → ∀ (H : Heap) (locs : List Loc), xWd G sh sc sr sl H → va_S (xA G) s.heap H locs → ∀ ls : Array Slot, lv_has ls 3 [(0, .ref (sh.1 12 0)), (1, .int a1), (2, .int x2L1)] → W p l e rX6_isTooMuch s m ([.ref (sh.1 12 0), .int a1] : List Value).toArray below meth c H locs 0 0 (xQ below G (xvI (.inr r)) (xWd G sh sc sr sl) ([.ref (sh.1 12 0), .int a1] : List Value).toArray s 0 0) (F0 m 2 ls []) := by
    intro n_L1
    induction n_L1 with
    | zero =>
      intro x2L1 hf
      unfold fX6_isTooMuch_L1 at hf
      cases hf
    | succ n_L1 ih_L1 =>
      intro x2L1 hf H locs hW hS ls hl
      unfold fX6_isTooMuch_L1 at hf
      refine lv_iload_n hx hb dX6_isTooMuch_2 rfl (lv_at hl 2 rfl) ?_
      refine lv_iconst (v := 3) hx hb dX6_isTooMuch_3 (by decide) ?_
      refine lv_icmp_ge (tgt := 25) hx hb dX6_isTooMuch_4 (by decide) (fun c1 => ?_) (fun c1 => ?_)
      · replace hf := if_t c1 hf
        exact hx_L1 _ hf _ _ hW hS ls (lv_sub hl [] rfl)
      · replace hf := if_f c1 hf
        refine lv_aload_n hx hb dX6_isTooMuch_7 rfl (lv_at hl 0 rfl) ?_
        refine lv_iload_n hx hb dX6_isTooMuch_8 rfl (lv_at hl 1 rfl) ?_
        refine lv_iload_n hx hb dX6_isTooMuch_9 rfl (lv_at hl 2 rfl) ?_
        refine lv_iconst (v := 0) hx hb dX6_isTooMuch_10 (by decide) ?_
        obtain ⟨v2, hc4, hf⟩ := oB_go hf
        refine xcallV (n := 3) F hT hW hS (xm_fix (by decide)) xce_12 rfl (kX6_isFull l hl0 G sh sc sr sl a1 x2L1 0  _ hc4) (xgV xw_906 xw_908 xwp_16 xw_4 xw_909) rfl xd_X6_isFull ⟨Nat.le_of_ble_eq_true rfl, Nat.le_of_ble_eq_true rfl⟩ rfl hl.1 rfl (Nat.le_of_ble_eq_true rfl) dX6_isTooMuch_11 ⟨Nat.le_of_ble_eq_true rfl, Nat.le_of_ble_eq_true rfl⟩ (fun v9 H locs hres hW hS => ?_) (fun E9 H locs q9 ce9 hres => by cases hres)
        cases hres
        refine W.eq (g2 := F0 m 14 ls (.int v2 :: [])) rfl ?_
        refine lv_if_eq (tgt := 19) hx hb dX6_isTooMuch_14 (by decide) (fun c3 => ?_) (fun c3 => ?_)
        · replace hf := if_t c3 hf
          refine lv_iinc (v := (x2L1 + 1)) (lv' := [(2, .int (x2L1 + 1)), (0, .ref (sh.1 12 0)), (1, .int a1)]) hx hb dX6_isTooMuch_19 hl (k := 2) rfl rfl (by decide) rfl (fun ls hl => ?_)
          refine lv_goto (tgt := 2) hx hb dX6_isTooMuch_22 (by decide) ?_
          exact ih_L1 _ hf _ _ hW hS ls (lv_sub hl [1, 2, 0] rfl)
        · replace hf := if_f c3 hf
          refine lv_iconst (v := 1) hx hb dX6_isTooMuch_17 (by decide) ?_
          cases hf
          exact xret_i (ty := .boolean) F hr hlocks hS (by decide) rfl hW (Nat.le_of_ble_eq_true rfl) (Nat.le_of_ble_eq_true rfl) dX6_isTooMuch_18
  exact hL_L1 _ _ hf _ _ hW hS ls (lv_sub hl [1, 2, 0] rfl)
abbrev rX6_hour : Room := { frames := 5, cells := 0, slots := 0, locals := 113 }
abbrev zX6_hour : List Cond := Cond.code yX6_hour cX6_hour 3 (some .int) :: xB
theorem xd_X6_hour : yX6_hour.cls = RX6 ∧ yX6_hour.cls ≠ "java/lang/invoke/MethodHandle" ∧ yX6_hour.cls ≠ "java/lang/invoke/VarHandle" ∧ (parseMethodDescriptor yX6_hour.desc).map (fun d => d.parameters.length) = some 0 := by decide +kernel
def fX6_hour_K3 (x1L2 : Int32) (x2L3 : Int32) (srL3 : xSR) : Option (Int32 × xSR) := some (x1L2, (xuR srL3.1 117 0 ((srL3.1 117 0) + x1L2), srL3.2))
def fX6_hour_L3 (k_L3 : Int32 → xSR → Option (Int32 × xSR)) : Nat → Int32 → xSR → Option (Int32 × xSR)
  | 0, _, _ => none
  | n + 1, x2L3, srL3 => (if (srL3.1 103 0) ≤ x2L3 then k_L3 x2L3 srL3 else (if ((srL3.1 116 0) - (srL3.1 116 0) / 24 * 24) = 0 then oG (xinb (3 * x2L3) 18) (oG (xinb x2L3 6) ((if 999 ≤ ((srL3.1 4 (3 * x2L3).toNatClampNeg) + (srL3.1 5 x2L3.toNatClampNeg)) then oG (xinb (3 * x2L3) 18) ((fX6_hour_L3 k_L3 n) (x2L3 + 1) (xuR srL3.1 4 (3 * x2L3).toNatClampNeg 999, srL3.2)) else oG (xinb (3 * x2L3) 18) (oG (xinb x2L3 6) (oG (xinb (3 * x2L3) 18) ((fX6_hour_L3 k_L3 n) (x2L3 + 1) (xuR srL3.1 4 (3 * x2L3).toNatClampNeg ((srL3.1 4 (3 * x2L3).toNatClampNeg) + (srL3.1 5 x2L3.toNatClampNeg)), srL3.2))))))) else k_L3 x2L3 srL3))
def fX6_hour_K2 (x1L2 : Int32) (x2L2 : Int32) (srL2 : xSR) : Option (Int32 × xSR) := fX6_hour_L3 (fX6_hour_K3 x1L2) 64 0 (xuR srL2.1 116 0 ((srL2.1 116 0) + 1), srL2.2)
def fX6_hour_L2 (k_L2 : Int32 → Int32 → xSR → Option (Int32 × xSR)) : Nat → Int32 → Int32 → xSR → Option (Int32 × xSR)
  | 0, _, _, _ => none
  | n + 1, x1L2, x2L2, srL2 => (if (srL2.1 103 0) ≤ x2L2 then k_L2 x1L2 x2L2 srL2 else oP (fX6_goesOn x2L2 srL2) (fun v11 s12 => (if v11 = 0 then (fX6_hour_L2 k_L2 n) (x1L2 + 0) (x2L2 + 1) s12 else (fX6_hour_L2 k_L2 n) (x1L2 + 1) (x2L2 + 1) s12)))
def fX6_hour_K1 (x2L1 : Int32) (srL1 : xSR) : Option (Int32 × xSR) := fX6_hour_L2 (fX6_hour_K2) 64 0 0 srL1
def fX6_hour_L1 (k_L1 : Int32 → xSR → Option (Int32 × xSR)) : Nat → Int32 → xSR → Option (Int32 × xSR)
  | 0, _, _ => none
  | n + 1, x2L1, srL1 => (if (srL1.1 103 0) ≤ x2L1 then k_L1 x2L1 srL1 else oG (xinb x2L1 6) (oB (fX6_isTooMuch (srL1.1 8 x2L1.toNatClampNeg) srL1) (fun v16 => (if v16 = 0 then (fX6_hour_L1 k_L1 n) (x2L1 + 1) (srL1.1, (srL1.2 + 0)) else (fX6_hour_L1 k_L1 n) (x2L1 + 1) (srL1.1, (srL1.2 + 1))))))
def fX6_hour (sr : xSR) : Option (Int32 × xSR) := fX6_hour_L1 (fX6_hour_K1) 64 0 sr
set_option maxHeartbeats 4000000 in
set_option maxRecDepth 100000 in
theorem kX6_hour (l : Launch) (hl0 : l.stackTraces = false) (G : xG) (sh : xSh) (sc : xSC) (sr : xSR) (sl : xSL) (r : (Int32 × xSR)) (hf : fX6_hour sr = some r) : xMet l yX6_hour zX6_hour rX6_hour G sh sc sr sl ([.ref (sh.1 12 0)] : List Value) (xvI (.inr r.1)) (xWd G sh sc r.2 sl) := by
  refine xMet_of (cc := cX6_hour) (maxL := 3) (ret := (some .int)) (by decide) (Nat.le_of_ble_eq_true rfl) ?_
  intro p e s m below meth c F hT hW hr hlocks htab ls hl
  have F : CallFix p m c cX6_hour 3 s ([.ref (sh.1 12 0)] : List Value).toArray xB RX6 := F
  have hx := F.1
  have hb := F.2.1
  have hS : va_S (xA G) s.heap s.heap [] := va_S.rf
  have hl : lv_has ls 3 [(0, .ref (sh.1 12 0))] := hl
  unfold fX6_hour at hf
  refine lv_iconst (v := 0) hx hb dX6_hour_0 (by decide) ?_
  refine lv_istore_n (lv' := [(1, .int 0), (0, .ref (sh.1 12 0))]) hx hb dX6_hour_1 rfl hl (by decide) rfl (fun ls hl => ?_)
  refine lv_iconst (v := 0) hx hb dX6_hour_2 (by decide) ?_
  refine lv_istore_n (lv' := [(2, .int 0), (1, .int 0), (0, .ref (sh.1 12 0))]) hx hb dX6_hour_3 rfl hl (by decide) rfl (fun ls hl => ?_)
  have hx_L1 : ∀ (x2L1 : Int32) (srL1 : xSR), fX6_hour_K1 x2L1 srL1 = some r → ∀ (H : Heap) (locs : List Loc), xWd G sh sc srL1 sl H → va_S (xA G) s.heap H locs → ∀ ls : Array Slot, lv_has ls 3 [(0, .ref (sh.1 12 0)), (1, .int 0)] → W p l e rX6_hour s m ([.ref (sh.1 12 0)] : List Value).toArray below meth c H locs 0 0 (xQ below G (xvI (.inr r.1)) (xWd G sh sc r.2 sl) ([.ref (sh.1 12 0)] : List Value).toArray s 0 0) (F0 m 45 ls []) := by
    intro x2L1 srL1 hf H locs hW hS ls hl
    unfold fX6_hour_K1 at hf
    refine lv_iconst (v := 0) hx hb dX6_hour_45 (by decide) ?_
    refine lv_istore_n (lv' := [(2, .int 0), (0, .ref (sh.1 12 0)), (1, .int 0)]) hx hb dX6_hour_46 rfl hl (by decide) rfl (fun ls hl => ?_)
    have hx_L2 : ∀ (x1L2 : Int32) (x2L2 : Int32) (srL2 : xSR), fX6_hour_K2 x1L2 x2L2 srL2 = some r → ∀ (H : Heap) (locs : List Loc), xWd G sh sc srL2 sl H → va_S (xA G) s.heap H locs → ∀ ls : Array Slot, lv_has ls 3 [(0, .ref (sh.1 12 0)), (1, .int x1L2)] → W p l e rX6_hour s m ([.ref (sh.1 12 0)] : List Value).toArray below meth c H locs 0 0 (xQ below G (xvI (.inr r.1)) (xWd G sh sc r.2 sl) ([.ref (sh.1 12 0)] : List Value).toArray s 0 0) (F0 m 77 ls []) := by
      intro x1L2 x2L2 srL2 hf H locs hW hS ls hl
      unfold fX6_hour_K2 at hf
      refine lv_aload_n hx hb dX6_hour_77 rfl (lv_at hl 0 rfl) ?_
      refine lv_dup hx hb dX6_hour_78 rfl ?_
      refine xget F hT hW xuX6 (xm_fix (by decide)) xce_12 rfl 16 (by decide) xw_816 rfl rfl dX6_hour_79 ?_
      refine lv_iconst (v := 1) hx hb dX6_hour_82 (by decide) ?_
      refine lv_iadd hx hb dX6_hour_83 ?_
      refine xput (ty := .int) F hT hW hS xuX6 tyX6 tyX6_ok nmX6 (xm_fix (by decide)) xce_12 rfl 16 (by decide) xw_816 rfl rfl rfl rfl rfl (Nat.le_of_ble_eq_true rfl) xup_12_16 dX6_hour_84 (fun H locs hW hS => ?_)
      refine lv_iconst (v := 0) hx hb dX6_hour_87 (by decide) ?_
      refine lv_istore_n (lv' := [(2, .int 0), (0, .ref (sh.1 12 0)), (1, .int x1L2)]) hx hb dX6_hour_88 rfl hl (by decide) rfl (fun ls hl => ?_)
      have hx_L3 : ∀ (x2L3 : Int32) (srL3 : xSR), fX6_hour_K3 x1L2 x2L3 srL3 = some r → ∀ (H : Heap) (locs : List Loc), xWd G sh sc srL3 sl H → va_S (xA G) s.heap H locs → ∀ ls : Array Slot, lv_has ls 3 [(0, .ref (sh.1 12 0)), (1, .int x1L2)] → W p l e rX6_hour s m ([.ref (sh.1 12 0)] : List Value).toArray below meth c H locs 0 0 (xQ below G (xvI (.inr r.1)) (xWd G sh sc r.2 sl) ([.ref (sh.1 12 0)] : List Value).toArray s 0 0) (F0 m 163 ls []) := by
        intro x2L3 srL3 hf H locs hW hS ls hl
        unfold fX6_hour_K3 at hf
        refine lv_aload_n hx hb dX6_hour_163 rfl (lv_at hl 0 rfl) ?_
        refine lv_dup hx hb dX6_hour_164 rfl ?_
        refine xget F hT hW xuX6 (xm_fix (by decide)) xce_12 rfl 17 (by decide) xw_817 rfl rfl dX6_hour_165 ?_
        refine lv_iload_n hx hb dX6_hour_168 rfl (lv_at hl 1 rfl) ?_
        refine lv_iadd hx hb dX6_hour_169 ?_
        refine xput (ty := .int) F hT hW hS xuX6 tyX6 tyX6_ok nmX6 (xm_fix (by decide)) xce_12 rfl 17 (by decide) xw_817 rfl rfl rfl rfl rfl (Nat.le_of_ble_eq_true rfl) xup_12_17 dX6_hour_170 (fun H locs hW hS => ?_)
        refine lv_iload_n hx hb dX6_hour_173 rfl (lv_at hl 1 rfl) ?_
        cases hf
        exact xret_i (ty := .int) F hr hlocks hS rfl rfl hW (Nat.le_of_ble_eq_true rfl) (Nat.le_of_ble_eq_true rfl) dX6_hour_174
      have hL_L3 : ∀ (n9 : Nat) (x2L3 : Int32) (srL3 : xSR), fX6_hour_L3 (fX6_hour_K3 x1L2) n9 x2L3 srL3 = some r → ∀ (H : Heap) (locs : List Loc), xWd G sh sc srL3 sl H → va_S (xA G) s.heap H locs → ∀ ls : Array Slot, lv_has ls 3 [(0, .ref (sh.1 12 0)), (1, .int x1L2), (2, .int x2L3)] → W p l e rX6_hour s m ([.ref (sh.1 12 0)] : List Value).toArray below meth c H locs 0 0 (xQ below G (xvI (.inr r.1)) (xWd G sh sc r.2 sl) ([.ref (sh.1 12 0)] : List Value).toArray s 0 0) (F0 m 89 ls []) := by
        intro n_L3
        induction n_L3 with
        | zero =>
          intro x2L3 srL3 hf
          unfold fX6_hour_L3 at hf
          cases hf
        | succ n_L3 ih_L3 =>
          intro x2L3 srL3 hf H locs hW hS ls hl
          unfold fX6_hour_L3 at hf
          refine lv_iload_n hx hb dX6_hour_89 rfl (lv_at hl 2 rfl) ?_
          refine lv_aload_n hx hb dX6_hour_90 rfl (lv_at hl 0 rfl) ?_
          refine xget F hT hW xuX6 (xm_fix (by decide)) xce_12 rfl 3 (by decide) xw_803 rfl rfl dX6_hour_91 ?_
          refine lv_icmp_ge (tgt := 163) hx hb dX6_hour_94 (by decide) (fun c1 => ?_) (fun c1 => ?_)
          · replace hf := if_t c1 hf
            exact hx_L3 _ _ hf _ _ hW hS ls (lv_sub hl [0, 1] rfl)
          · replace hf := if_f c1 hf
            refine lv_aload_n hx hb dX6_hour_97 rfl (lv_at hl 0 rfl) ?_
            refine xget F hT hW xuX6 (xm_fix (by decide)) xce_12 rfl 16 (by decide) xw_816 rfl rfl dX6_hour_98 ?_
            refine lv_bipush (v := 24) hx hb dX6_hour_101 (by decide) ?_
            refine lv_irem hx hb dX6_hour_103 (by decide) ?_
            refine lv_if_ne (tgt := 163) hx hb dX6_hour_104 (by decide) (fun c2 => ?_) (fun c2 => ?_)
            · replace hf := if_f c2 hf
              exact hx_L3 _ _ hf _ _ hW hS ls (lv_sub hl [0, 1] rfl)
            · replace hf := if_t c2 hf
              refine lv_aload_n hx hb dX6_hour_107 rfl (lv_at hl 0 rfl) ?_
              refine xget F hT hW xuX6 (xm_fix (by decide)) xce_12 rfl 4 (by decide) xw_804 rfl rfl dX6_hour_108 ?_
              refine lv_iconst (v := 3) hx hb dX6_hour_111 (by decide) ?_
              refine lv_iload_n hx hb dX6_hour_112 rfl (lv_at hl 2 rfl) ?_
              refine lv_imul hx hb dX6_hour_113 ?_
              refine lv_aload_n hx hb dX6_hour_114 rfl (lv_at hl 0 rfl) ?_
              refine xget F hT hW xuX6 (xm_fix (by decide)) xce_12 rfl 4 (by decide) xw_804 rfl rfl dX6_hour_115 ?_
              refine lv_iconst (v := 3) hx hb dX6_hour_118 (by decide) ?_
              refine lv_iload_n hx hb dX6_hour_119 rfl (lv_at hl 2 rfl) ?_
              refine lv_imul hx hb dX6_hour_120 ?_
              obtain ⟨g9, hf⟩ := oG_go hf
              refine xmald (by decide) F hT hW (xm_fix (by decide)) (by decide) (xinb_ok g9) dX6_hour_121 ?_
              refine lv_aload_n hx hb dX6_hour_122 rfl (lv_at hl 0 rfl) ?_
              refine xget F hT hW xuX6 (xm_fix (by decide)) xce_12 rfl 5 (by decide) xw_805 rfl rfl dX6_hour_123 ?_
              refine lv_iload_n hx hb dX6_hour_126 rfl (lv_at hl 2 rfl) ?_
              obtain ⟨g8, hf⟩ := oG_go hf
              refine xmald (by decide) F hT hW (xm_fix (by decide)) (by decide) (xinb_ok g8) dX6_hour_127 ?_
              refine lv_iadd hx hb dX6_hour_128 ?_
              refine lv_sipush (v := 999) hx hb dX6_hour_129 (by decide) ?_
              refine lv_icmp_ge (tgt := 153) hx hb dX6_hour_132 (by decide) (fun c3 => ?_) (fun c3 => ?_)
              · replace hf := if_t c3 hf
                refine lv_sipush (v := 999) hx hb dX6_hour_153 (by decide) ?_
                obtain ⟨g4, hf⟩ := oG_go hf
                refine xmast (by decide) F hT hW hS (xm_fix (by decide)) (by decide) (xinb_ok g4) dX6_hour_156 (fun H locs hW hS => ?_)
                refine lv_iinc (v := (x2L3 + 1)) (lv' := [(2, .int (x2L3 + 1)), (0, .ref (sh.1 12 0)), (1, .int x1L2)]) hx hb dX6_hour_157 hl (k := 2) rfl rfl (by decide) rfl (fun ls hl => ?_)
                refine lv_goto (tgt := 89) hx hb dX6_hour_160 (by decide) ?_
                exact ih_L3 _ _ hf _ _ hW hS ls (lv_sub hl [1, 2, 0] rfl)
              · replace hf := if_f c3 hf
                refine lv_aload_n hx hb dX6_hour_135 rfl (lv_at hl 0 rfl) ?_
                refine xget F hT hW xuX6 (xm_fix (by decide)) xce_12 rfl 4 (by decide) xw_804 rfl rfl dX6_hour_136 ?_
                refine lv_iconst (v := 3) hx hb dX6_hour_139 (by decide) ?_
                refine lv_iload_n hx hb dX6_hour_140 rfl (lv_at hl 2 rfl) ?_
                refine lv_imul hx hb dX6_hour_141 ?_
                obtain ⟨g7, hf⟩ := oG_go hf
                refine xmald (by decide) F hT hW (xm_fix (by decide)) (by decide) (xinb_ok g7) dX6_hour_142 ?_
                refine lv_aload_n hx hb dX6_hour_143 rfl (lv_at hl 0 rfl) ?_
                refine xget F hT hW xuX6 (xm_fix (by decide)) xce_12 rfl 5 (by decide) xw_805 rfl rfl dX6_hour_144 ?_
                refine lv_iload_n hx hb dX6_hour_147 rfl (lv_at hl 2 rfl) ?_
                obtain ⟨g6, hf⟩ := oG_go hf
                refine xmald (by decide) F hT hW (xm_fix (by decide)) (by decide) (xinb_ok g6) dX6_hour_148 ?_
                refine lv_iadd hx hb dX6_hour_149 ?_
                refine lv_goto (tgt := 156) hx hb dX6_hour_150 (by decide) ?_
                obtain ⟨g5, hf⟩ := oG_go hf
                refine xmast (by decide) F hT hW hS (xm_fix (by decide)) (by decide) (xinb_ok g5) dX6_hour_156 (fun H locs hW hS => ?_)
                refine lv_iinc (v := (x2L3 + 1)) (lv' := [(2, .int (x2L3 + 1)), (0, .ref (sh.1 12 0)), (1, .int x1L2)]) hx hb dX6_hour_157 hl (k := 2) rfl rfl (by decide) rfl (fun ls hl => ?_)
                refine lv_goto (tgt := 89) hx hb dX6_hour_160 (by decide) ?_
                exact ih_L3 _ _ hf _ _ hW hS ls (lv_sub hl [1, 2, 0] rfl)
      exact hL_L3 _ _ _ hf _ _ hW hS ls (lv_sub hl [1, 2, 0] rfl)
    have hL_L2 : ∀ (n9 : Nat) (x1L2 : Int32) (x2L2 : Int32) (srL2 : xSR), fX6_hour_L2 (fX6_hour_K2) n9 x1L2 x2L2 srL2 = some r → ∀ (H : Heap) (locs : List Loc), xWd G sh sc srL2 sl H → va_S (xA G) s.heap H locs → ∀ ls : Array Slot, lv_has ls 3 [(0, .ref (sh.1 12 0)), (1, .int x1L2), (2, .int x2L2)] → W p l e rX6_hour s m ([.ref (sh.1 12 0)] : List Value).toArray below meth c H locs 0 0 (xQ below G (xvI (.inr r.1)) (xWd G sh sc r.2 sl) ([.ref (sh.1 12 0)] : List Value).toArray s 0 0) (F0 m 47 ls []) := by
      intro n_L2
      induction n_L2 with
      | zero =>
        intro x1L2 x2L2 srL2 hf
        unfold fX6_hour_L2 at hf
        cases hf
      | succ n_L2 ih_L2 =>
        intro x1L2 x2L2 srL2 hf H locs hW hS ls hl
        unfold fX6_hour_L2 at hf
        refine lv_iload_n hx hb dX6_hour_47 rfl (lv_at hl 2 rfl) ?_
        refine lv_aload_n hx hb dX6_hour_48 rfl (lv_at hl 0 rfl) ?_
        refine xget F hT hW xuX6 (xm_fix (by decide)) xce_12 rfl 3 (by decide) xw_803 rfl rfl dX6_hour_49 ?_
        refine lv_icmp_ge (tgt := 77) hx hb dX6_hour_52 (by decide) (fun c10 => ?_) (fun c10 => ?_)
        · replace hf := if_t c10 hf
          exact hx_L2 _ _ _ hf _ _ hW hS ls (lv_sub hl [0, 1] rfl)
        · replace hf := if_f c10 hf
          refine lv_iload_n hx hb dX6_hour_55 rfl (lv_at hl 1 rfl) ?_
          refine lv_aload_n hx hb dX6_hour_56 rfl (lv_at hl 0 rfl) ?_
          refine lv_iload_n hx hb dX6_hour_57 rfl (lv_at hl 2 rfl) ?_
          obtain ⟨v11, s12, hc14, hf⟩ := oP_go hf
          refine xcallV (n := 1) F hT hW hS (xm_fix (by decide)) xce_12 rfl (kX6_goesOn l hl0 G sh sc srL2 sl x2L2  _ hc14) (xgV xw_982 xw_984 xwp_28 xw_4 xw_985) rfl xd_X6_goesOn ⟨Nat.le_of_ble_eq_true rfl, Nat.le_of_ble_eq_true rfl⟩ rfl hl.1 rfl (Nat.le_of_ble_eq_true rfl) dX6_hour_58 ⟨Nat.le_of_ble_eq_true rfl, Nat.le_of_ble_eq_true rfl⟩ (fun v9 H locs hres hW hS => ?_) (fun E9 H locs q9 ce9 hres => by cases hres)
          cases hres
          refine W.eq (g2 := F0 m 61 ls (.int v11 :: .int x1L2 :: [])) rfl ?_
          refine lv_if_eq (tgt := 68) hx hb dX6_hour_61 (by decide) (fun c13 => ?_) (fun c13 => ?_)
          · replace hf := if_t c13 hf
            refine lv_iconst (v := 0) hx hb dX6_hour_68 (by decide) ?_
            refine lv_iadd hx hb dX6_hour_69 ?_
            refine lv_istore_n (lv' := [(1, .int (x1L2 + 0)), (0, .ref (sh.1 12 0)), (2, .int x2L2)]) hx hb dX6_hour_70 rfl hl (by decide) rfl (fun ls hl => ?_)
            refine lv_iinc (v := (x2L2 + 1)) (lv' := [(2, .int (x2L2 + 1)), (1, .int (x1L2 + 0)), (0, .ref (sh.1 12 0))]) hx hb dX6_hour_71 hl (k := 2) rfl rfl (by decide) rfl (fun ls hl => ?_)
            refine lv_goto (tgt := 47) hx hb dX6_hour_74 (by decide) ?_
            exact ih_L2 _ _ _ hf _ _ hW hS ls (lv_sub hl [2, 1, 0] rfl)
          · replace hf := if_f c13 hf
            refine lv_iconst (v := 1) hx hb dX6_hour_64 (by decide) ?_
            refine lv_goto (tgt := 69) hx hb dX6_hour_65 (by decide) ?_
            refine lv_iadd hx hb dX6_hour_69 ?_
            refine lv_istore_n (lv' := [(1, .int (x1L2 + 1)), (0, .ref (sh.1 12 0)), (2, .int x2L2)]) hx hb dX6_hour_70 rfl hl (by decide) rfl (fun ls hl => ?_)
            refine lv_iinc (v := (x2L2 + 1)) (lv' := [(2, .int (x2L2 + 1)), (1, .int (x1L2 + 1)), (0, .ref (sh.1 12 0))]) hx hb dX6_hour_71 hl (k := 2) rfl rfl (by decide) rfl (fun ls hl => ?_)
            refine lv_goto (tgt := 47) hx hb dX6_hour_74 (by decide) ?_
            exact ih_L2 _ _ _ hf _ _ hW hS ls (lv_sub hl [2, 1, 0] rfl)
    exact hL_L2 _ _ _ _ hf _ _ hW hS ls (lv_sub hl [1, 2, 0] rfl)
  have hL_L1 : ∀ (n9 : Nat) (x2L1 : Int32) (srL1 : xSR), fX6_hour_L1 (fX6_hour_K1) n9 x2L1 srL1 = some r → ∀ (H : Heap) (locs : List Loc), xWd G sh sc srL1 sl H → va_S (xA G) s.heap H locs → ∀ ls : Array Slot, lv_has ls 3 [(0, .ref (sh.1 12 0)), (1, .int 0), (2, .int x2L1)] → W p l e rX6_hour s m ([.ref (sh.1 12 0)] : List Value).toArray below meth c H locs 0 0 (xQ below G (xvI (.inr r.1)) (xWd G sh sc r.2 sl) ([.ref (sh.1 12 0)] : List Value).toArray s 0 0) (F0 m 4 ls []) := by
    intro n_L1
    induction n_L1 with
    | zero =>
      intro x2L1 srL1 hf
      unfold fX6_hour_L1 at hf
      cases hf
    | succ n_L1 ih_L1 =>
      intro x2L1 srL1 hf H locs hW hS ls hl
      unfold fX6_hour_L1 at hf
      refine lv_iload_n hx hb dX6_hour_4 rfl (lv_at hl 2 rfl) ?_
      refine lv_aload_n hx hb dX6_hour_5 rfl (lv_at hl 0 rfl) ?_
      refine xget F hT hW xuX6 (xm_fix (by decide)) xce_12 rfl 3 (by decide) xw_803 rfl rfl dX6_hour_6 ?_
      refine lv_icmp_ge (tgt := 45) hx hb dX6_hour_9 (by decide) (fun c15 => ?_) (fun c15 => ?_)
      · replace hf := if_t c15 hf
        exact hx_L1 _ _ hf _ _ hW hS ls (lv_sub hl [0, 1] rfl)
      · replace hf := if_f c15 hf
        refine lv_aload_n hx hb dX6_hour_12 rfl (lv_at hl 0 rfl) ?_
        refine lv_dup hx hb dX6_hour_13 rfl ?_
        refine xget F hT hW xuX6 (xm_fix (by decide)) xce_12 rfl 18 (by decide) xw_818 rfl rfl dX6_hour_14 ?_
        refine lv_aload_n hx hb dX6_hour_17 rfl (lv_at hl 0 rfl) ?_
        refine lv_aload_n hx hb dX6_hour_18 rfl (lv_at hl 0 rfl) ?_
        refine xget F hT hW xuX6 (xm_fix (by decide)) xce_12 rfl 8 (by decide) xw_808 rfl rfl dX6_hour_19 ?_
        refine lv_iload_n hx hb dX6_hour_22 rfl (lv_at hl 2 rfl) ?_
        obtain ⟨g19, hf⟩ := oG_go hf
        refine xmald (by decide) F hT hW (xm_fix (by decide)) (by decide) (xinb_ok g19) dX6_hour_23 ?_
        obtain ⟨v16, hc18, hf⟩ := oB_go hf
        refine xcallV (n := 1) F hT hW hS (xm_fix (by decide)) xce_12 rfl (kX6_isTooMuch l hl0 G sh sc srL1 sl (srL1.1 8 x2L1.toNatClampNeg)  _ hc18) (xgV xw_978 xw_980 xwp_27 xw_4 xw_981) rfl xd_X6_isTooMuch ⟨Nat.le_of_ble_eq_true rfl, Nat.le_of_ble_eq_true rfl⟩ rfl hl.1 rfl (Nat.le_of_ble_eq_true rfl) dX6_hour_24 ⟨Nat.le_of_ble_eq_true rfl, Nat.le_of_ble_eq_true rfl⟩ (fun v9 H locs hres hW hS => ?_) (fun E9 H locs q9 ce9 hres => by cases hres)
        cases hres
        refine W.eq (g2 := F0 m 27 ls (.int v16 :: .long srL1.2 :: .ref (sh.1 12 0) :: [])) rfl ?_
        refine lv_if_eq (tgt := 34) hx hb dX6_hour_27 (by decide) (fun c17 => ?_) (fun c17 => ?_)
        · replace hf := if_t c17 hf
          refine lv_lconst (v := 0) hx hb dX6_hour_34 (by decide) ?_
          refine lv_ladd hx hb dX6_hour_35 ?_
          refine xput (ty := .long) F hT hW hS xuX6 tyX6 tyX6_ok nmX6 (xm_fix (by decide)) xce_12 rfl 18 (by decide) xw_818 rfl rfl rfl rfl rfl (Nat.le_of_ble_eq_true rfl) xup_12_18 dX6_hour_36 (fun H locs hW hS => ?_)
          refine lv_iinc (v := (x2L1 + 1)) (lv' := [(2, .int (x2L1 + 1)), (0, .ref (sh.1 12 0)), (1, .int 0)]) hx hb dX6_hour_39 hl (k := 2) rfl rfl (by decide) rfl (fun ls hl => ?_)
          refine lv_goto (tgt := 4) hx hb dX6_hour_42 (by decide) ?_
          exact ih_L1 _ _ hf _ _ hW hS ls (lv_sub hl [1, 2, 0] rfl)
        · replace hf := if_f c17 hf
          refine lv_lconst (v := 1) hx hb dX6_hour_30 (by decide) ?_
          refine lv_goto (tgt := 35) hx hb dX6_hour_31 (by decide) ?_
          refine lv_ladd hx hb dX6_hour_35 ?_
          refine xput (ty := .long) F hT hW hS xuX6 tyX6 tyX6_ok nmX6 (xm_fix (by decide)) xce_12 rfl 18 (by decide) xw_818 rfl rfl rfl rfl rfl (Nat.le_of_ble_eq_true rfl) xup_12_18 dX6_hour_36 (fun H locs hW hS => ?_)
          refine lv_iinc (v := (x2L1 + 1)) (lv' := [(2, .int (x2L1 + 1)), (0, .ref (sh.1 12 0)), (1, .int 0)]) hx hb dX6_hour_39 hl (k := 2) rfl rfl (by decide) rfl (fun ls hl => ?_)
          refine lv_goto (tgt := 4) hx hb dX6_hour_42 (by decide) ?_
          exact ih_L1 _ _ hf _ _ hW hS ls (lv_sub hl [1, 2, 0] rfl)
  exact hL_L1 _ _ _ hf _ _ hW hS ls (lv_sub hl [2, 1, 0] rfl)
