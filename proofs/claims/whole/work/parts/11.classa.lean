abbrev rX5_requireRange : Room := { frames := 6, cells := 1, slots := 6, locals := 90 }
abbrev zX5_requireRange : List Cond := Cond.code yX5_requireRange cX5_requireRange 3 none :: xB
theorem xd_X5_requireRange : yX5_requireRange.cls = RX5 ∧ yX5_requireRange.cls ≠ "java/lang/invoke/MethodHandle" ∧ yX5_requireRange.cls ≠ "java/lang/invoke/VarHandle" ∧ (parseMethodDescriptor yX5_requireRange.desc).map (fun d => d.parameters.length) = some 3 := by decide +kernel
def fX5_requireRange (nS : Nat) (nT : Nat) (a1 : Int32) (a2 : Int32) (a3 : Int32) (sc : xSC) : Option (String ⊕ Unit) := (if a1 < a2 then some (Sum.inl "java/lang/IllegalArgumentException") else (if a1 ≤ a3 then some (Sum.inr ()) else some (Sum.inl "java/lang/IllegalArgumentException")))
set_option maxHeartbeats 4000000 in
set_option maxRecDepth 100000 in
theorem kX5_requireRange (l : Launch) (hl0 : l.stackTraces = false) (G : xG) (sh : xSh) (sc : xSC) (sr : xSR) (sl : xSL) (a1 : Int32) (a2 : Int32) (a3 : Int32) (r : (String ⊕ Unit)) (hf : fX5_requireRange sh.2.1 sh.2.2 a1 a2 a3 sc = some r) : xMet l yX5_requireRange zX5_requireRange rX5_requireRange G sh sc sr sl ([.int a1, .int a2, .int a3] : List Value) (xvU r) (xWd G sh sc sr sl) := by
  refine xMet_of (cc := cX5_requireRange) (maxL := 3) (ret := none) (by decide) (Nat.le_of_ble_eq_true rfl) ?_
  intro p e s m below meth c F hT hW hr hlocks htab ls hl
  have F : CallFix p m c cX5_requireRange 3 s ([.int a1, .int a2, .int a3] : List Value).toArray xB RX5 := F
  have hx := F.1
  have hb := F.2.1
  have hS : va_S (xA G) s.heap s.heap [] := va_S.rf
  have hl : lv_has ls 3 [(0, .int a1), (1, .int a2), (2, .int a3)] := hl
  unfold fX5_requireRange at hf
  refine lv_iload_n hx hb dX5_requireRange_0 rfl (lv_at hl 0 rfl) ?_
  refine lv_iload_n hx hb dX5_requireRange_1 rfl (lv_at hl 1 rfl) ?_
  refine lv_icmp_lt (tgt := 10) hx hb dX5_requireRange_2 (by decide) (fun c1 => ?_) (fun c1 => ?_)
  · replace hf := if_t c1 hf
    cases hf
    refine xthrowW (cls := "java/lang/IllegalArgumentException") (text := "a number is out of range") (ik := 116) (is := 275) (ic := 120) F hT hW hS hl0 hlocks htab hl.1 xw_188 xw_8 (List.mem_of_getElem? (i := 10) rfl) xh_120 xb_120 (by decide +kernel) xg_120 (Nat.le_of_ble_eq_true rfl) (Nat.le_of_ble_eq_true rfl) (Nat.le_of_ble_eq_true rfl) (Nat.le_of_ble_eq_true rfl) ?_ ?_ (Nat.le_of_ble_eq_true rfl) (Nat.le_of_ble_eq_true rfl) dX5_requireRange_10 dX5_requireRange_13 dX5_requireRange_14 dX5_requireRange_17 dX5_requireRange_20
    · rfl
    · exact fun H h => h
  · replace hf := if_f c1 hf
    refine lv_iload_n hx hb dX5_requireRange_5 rfl (lv_at hl 0 rfl) ?_
    refine lv_iload_n hx hb dX5_requireRange_6 rfl (lv_at hl 2 rfl) ?_
    refine lv_icmp_le (tgt := 21) hx hb dX5_requireRange_7 (by decide) (fun c2 => ?_) (fun c2 => ?_)
    · replace hf := if_t c2 hf
      cases hf
      exact xret_v F hr hlocks hS rfl hW (Nat.le_of_ble_eq_true rfl) (Nat.le_of_ble_eq_true rfl) dX5_requireRange_21
    · replace hf := if_f c2 hf
      cases hf
      refine xthrowW (cls := "java/lang/IllegalArgumentException") (text := "a number is out of range") (ik := 116) (is := 275) (ic := 120) F hT hW hS hl0 hlocks htab hl.1 xw_188 xw_8 (List.mem_of_getElem? (i := 10) rfl) xh_120 xb_120 (by decide +kernel) xg_120 (Nat.le_of_ble_eq_true rfl) (Nat.le_of_ble_eq_true rfl) (Nat.le_of_ble_eq_true rfl) (Nat.le_of_ble_eq_true rfl) ?_ ?_ (Nat.le_of_ble_eq_true rfl) (Nat.le_of_ble_eq_true rfl) dX5_requireRange_10 dX5_requireRange_13 dX5_requireRange_14 dX5_requireRange_17 dX5_requireRange_20
      · rfl
      · exact fun H h => h
abbrev rX5_shards : Room := { frames := 0, cells := 0, slots := 0, locals := 0 }
abbrev zX5_shards : List Cond := Cond.code yX5_shards cX5_shards 6 (some .int) :: xB
theorem xd_X5_shards : yX5_shards.cls = RX5 ∧ yX5_shards.cls ≠ "java/lang/invoke/MethodHandle" ∧ yX5_shards.cls ≠ "java/lang/invoke/VarHandle" ∧ (parseMethodDescriptor yX5_shards.desc).map (fun d => d.parameters.length) = some 0 := by decide +kernel
def fX5_shards_K1 (x1L1 : Int32) (x4L1 : Int32) : Option Int32 := some x1L1
def fX5_shards_L1 (nS : Nat) (k_L1 : Int32 → Int32 → Option Int32) : Nat → Int32 → Int32 → Option Int32
  | 0, _, _ => none
  | n + 1, x1L1, x4L1 => (if 4 ≤ x4L1 then k_L1 x1L1 x4L1 else oG (xinb x4L1 4) (oN (xel nS x4L1) ((fX5_shards_L1 nS k_L1 n) x1L1 (x4L1 + 1)) (fun jq2 => (fX5_shards_L1 nS k_L1 n) (x1L1 + 1) (x4L1 + 1))))
def fX5_shards (nS : Nat) (nT : Nat) (sc : xSC) : Option Int32 := fX5_shards_L1 nS (fX5_shards_K1) 64 0 0
set_option maxHeartbeats 4000000 in
set_option maxRecDepth 100000 in
theorem kX5_shards (l : Launch) (hl0 : l.stackTraces = false) (G : xG) (sh : xSh) (sc : xSC) (sr : xSR) (sl : xSL) (r : Int32) (hf : fX5_shards sh.2.1 sh.2.2 sc = some r) : xMet l yX5_shards zX5_shards rX5_shards G sh sc sr sl ([.ref (sh.1 0 0)] : List Value) (xvI (.inr r)) (xWd G sh sc sr sl) := by
  refine xMet_of (cc := cX5_shards) (maxL := 6) (ret := (some .int)) (by decide) (Nat.le_of_ble_eq_true rfl) ?_
  intro p e s m below meth c F hT hW hr hlocks htab ls hl
  have F : CallFix p m c cX5_shards 6 s ([.ref (sh.1 0 0)] : List Value).toArray xB RX5 := F
  have hx := F.1
  have hb := F.2.1
  have hS : va_S (xA G) s.heap s.heap [] := va_S.rf
  have hl : lv_has ls 6 [(0, .ref (sh.1 0 0))] := hl
  unfold fX5_shards at hf
  refine lv_iconst (v := 0) hx hb dX5_shards_0 (by decide) ?_
  refine lv_istore_n (lv' := [(1, .int 0), (0, .ref (sh.1 0 0))]) hx hb dX5_shards_1 rfl hl (by decide) rfl (fun ls hl => ?_)
  refine lv_aload_n hx hb dX5_shards_2 rfl (lv_at hl 1 rfl) ?_
  refine xget F hT hW xuX5 (xm_fix (by decide)) xce_0 rfl 0 (by decide) xw_71 rfl rfl dX5_shards_3 ?_
  refine lv_astore_n (lv' := [(2, .ref (sh.1 1 0)), (1, .int 0), (0, .ref (sh.1 0 0))]) hx hb dX5_shards_6 rfl hl (by decide) rfl (fun ls hl => ?_)
  refine lv_aload_n hx hb dX5_shards_7 rfl (lv_at hl 0 rfl) ?_
  refine xalenS F hT hW dX5_shards_8 ?_
  refine lv_istore_n (lv' := [(3, .int 4), (2, .ref (sh.1 1 0)), (1, .int 0), (0, .ref (sh.1 0 0))]) hx hb dX5_shards_9 rfl hl (by decide) rfl (fun ls hl => ?_)
  refine lv_iconst (v := 0) hx hb dX5_shards_10 (by decide) ?_
  refine lv_istore (lv' := [(4, .int 0), (3, .int 4), (2, .ref (sh.1 1 0)), (1, .int 0), (0, .ref (sh.1 0 0))]) hx hb dX5_shards_11 hl (by decide) rfl (fun ls hl => ?_)
  have hx_L1 : ∀ (x1L1 : Int32) (x4L1 : Int32), fX5_shards_K1 x1L1 x4L1 = some r → ∀ (H : Heap) (locs : List Loc), xWd G sh sc sr sl H → va_S (xA G) s.heap H locs → ∀ ls : Array Slot, lv_has ls 6 [(1, .int x1L1)] → W p l e rX5_shards s m ([.ref (sh.1 0 0)] : List Value).toArray below meth c H locs 0 0 (xQ below G (xvI (.inr r)) (xWd G sh sc sr sl) ([.ref (sh.1 0 0)] : List Value).toArray s 0 0) (F0 m 39 ls []) := by
    intro x1L1 x4L1 hf H locs hW hS ls hl
    unfold fX5_shards_K1 at hf
    refine lv_iload_n hx hb dX5_shards_39 rfl (lv_at hl 0 rfl) ?_
    cases hf
    exact xret_i (ty := .int) F hr hlocks hS rfl rfl hW (Nat.le_of_ble_eq_true rfl) (Nat.le_of_ble_eq_true rfl) dX5_shards_40
  have hL_L1 : ∀ (n9 : Nat) (x1L1 : Int32) (x4L1 : Int32), fX5_shards_L1 sh.2.1 (fX5_shards_K1) n9 x1L1 x4L1 = some r → ∀ (H : Heap) (locs : List Loc), xWd G sh sc sr sl H → va_S (xA G) s.heap H locs → ∀ ls : Array Slot, lv_has ls 6 [(1, .int x1L1), (2, .ref (sh.1 1 0)), (3, .int 4), (4, .int x4L1)] → W p l e rX5_shards s m ([.ref (sh.1 0 0)] : List Value).toArray below meth c H locs 0 0 (xQ below G (xvI (.inr r)) (xWd G sh sc sr sl) ([.ref (sh.1 0 0)] : List Value).toArray s 0 0) (F0 m 13 ls []) := by
    intro n_L1
    induction n_L1 with
    | zero =>
      intro x1L1 x4L1 hf
      unfold fX5_shards_L1 at hf
      cases hf
    | succ n_L1 ih_L1 =>
      intro x1L1 x4L1 hf H locs hW hS ls hl
      unfold fX5_shards_L1 at hf
      refine lv_iload hx hb dX5_shards_13 (lv_at hl 3 rfl) ?_
      refine lv_iload_n hx hb dX5_shards_15 rfl (lv_at hl 2 rfl) ?_
      refine lv_icmp_ge (tgt := 39) hx hb dX5_shards_16 (by decide) (fun c1 => ?_) (fun c1 => ?_)
      · replace hf := if_t c1 hf
        exact hx_L1 _ _ hf _ _ hW hS ls (lv_sub hl [0] rfl)
      · replace hf := if_f c1 hf
        refine lv_aload_n hx hb dX5_shards_19 rfl (lv_at hl 1 rfl) ?_
        refine lv_iload hx hb dX5_shards_20 (lv_at hl 3 rfl) ?_
        obtain ⟨g4, hf⟩ := oG_go hf
        refine xaldS F hT hW (xinb_ok g4) dX5_shards_22 ?_
        rcases o5 : xel sh.2.1 x4L1 with _ | jq2
        · replace hf := oN_0 o5 hf
          refine W.eq (g2 := F0 m 23 ls (.null :: [])) rfl ?_
          refine lv_astoreN (lv' := [(5, .null), (1, .int x1L1), (2, .ref (sh.1 1 0)), (3, .int 4), (4, .int x4L1)]) hx hb dX5_shards_23 hl (by decide) rfl (fun ls hl => ?_)
          refine lv_aloadN hx hb dX5_shards_25 (lv_at hl 0 rfl) ?_
          refine lv_ifnullN (tgt := 33) hx hb dX5_shards_27 (by decide) ?_
          refine lv_iinc (v := (x4L1 + 1)) (lv' := [(4, .int (x4L1 + 1)), (5, .null), (1, .int x1L1), (2, .ref (sh.1 1 0)), (3, .int 4)]) hx hb dX5_shards_33 hl (k := 4) rfl rfl (by decide) rfl (fun ls hl => ?_)
          refine lv_goto (tgt := 13) hx hb dX5_shards_36 (by decide) ?_
          exact ih_L1 _ _ hf _ _ hW hS ls (lv_sub hl [2, 3, 4, 0] rfl)
        · replace hf := oN_1 o5 hf
          have h3 : jq2 < sh.2.1 := xel_lt o5
          refine W.eq (g2 := F0 m 23 ls (.ref (sh.1 4 jq2) :: [])) rfl ?_
          refine lv_astore (lv' := [(5, .ref (sh.1 4 jq2)), (1, .int x1L1), (2, .ref (sh.1 1 0)), (3, .int 4), (4, .int x4L1)]) hx hb dX5_shards_23 hl (by decide) rfl (fun ls hl => ?_)
          refine lv_aload hx hb dX5_shards_25 (lv_at hl 0 rfl) ?_
          refine lv_ifnull hx hb dX5_shards_27 ?_
          refine lv_iinc (v := (x1L1 + 1)) (lv' := [(1, .int (x1L1 + 1)), (5, .ref (sh.1 4 jq2)), (2, .ref (sh.1 1 0)), (3, .int 4), (4, .int x4L1)]) hx hb dX5_shards_30 hl (k := 1) rfl rfl (by decide) rfl (fun ls hl => ?_)
          refine lv_iinc (v := (x4L1 + 1)) (lv' := [(4, .int (x4L1 + 1)), (1, .int (x1L1 + 1)), (5, .ref (sh.1 4 jq2)), (2, .ref (sh.1 1 0)), (3, .int 4)]) hx hb dX5_shards_33 hl (k := 4) rfl rfl (by decide) rfl (fun ls hl => ?_)
          refine lv_goto (tgt := 13) hx hb dX5_shards_36 (by decide) ?_
          exact ih_L1 _ _ hf _ _ hW hS ls (lv_sub hl [1, 3, 4, 0] rfl)
  exact hL_L1 _ _ _ hf _ _ hW hS ls (lv_sub hl [3, 2, 1, 0] rfl)
abbrev rX5_shardOrNull : Room := { frames := 0, cells := 0, slots := 0, locals := 0 }
abbrev zX5_shardOrNull : List Cond := Cond.code yX5_shardOrNull cX5_shardOrNull 2 (some (.object "TenantPlacement$Shard")) :: xB
theorem xd_X5_shardOrNull : yX5_shardOrNull.cls = RX5 ∧ yX5_shardOrNull.cls ≠ "java/lang/invoke/MethodHandle" ∧ yX5_shardOrNull.cls ≠ "java/lang/invoke/VarHandle" ∧ (parseMethodDescriptor yX5_shardOrNull.desc).map (fun d => d.parameters.length) = some 1 := by decide +kernel
def fX5_shardOrNull (nS : Nat) (nT : Nat) (a1 : Int32) (sc : xSC) : Option (Option Nat) := (if a1 < 0 then some none else (if a1 < 4 then oG (xinb a1 4) (oN (xel nS a1) (some none) (fun jq3 => some (some jq3))) else some none))
set_option maxHeartbeats 4000000 in
set_option maxRecDepth 100000 in
theorem kX5_shardOrNull (l : Launch) (hl0 : l.stackTraces = false) (G : xG) (sh : xSh) (sc : xSC) (sr : xSR) (sl : xSL) (a1 : Int32) (r : (Option Nat)) (hf : fX5_shardOrNull sh.2.1 sh.2.2 a1 sc = some r) : xMet l yX5_shardOrNull zX5_shardOrNull rX5_shardOrNull G sh sc sr sl ([.ref (sh.1 0 0), .int a1] : List Value) (xvO sh 4 (.inr r)) (xWd G sh sc sr sl) := by
  refine xMet_of (cc := cX5_shardOrNull) (maxL := 2) (ret := (some (.object "TenantPlacement$Shard"))) (by decide) (Nat.le_of_ble_eq_true rfl) ?_
  intro p e s m below meth c F hT hW hr hlocks htab ls hl
  have F : CallFix p m c cX5_shardOrNull 2 s ([.ref (sh.1 0 0), .int a1] : List Value).toArray xB RX5 := F
  have hx := F.1
  have hb := F.2.1
  have hS : va_S (xA G) s.heap s.heap [] := va_S.rf
  have hl : lv_has ls 2 [(0, .ref (sh.1 0 0)), (1, .int a1)] := hl
  unfold fX5_shardOrNull at hf
  refine lv_iload_n hx hb dX5_shardOrNull_0 rfl (lv_at hl 1 rfl) ?_
  refine lv_if_lt (tgt := 13) hx hb dX5_shardOrNull_1 (by decide) (fun c1 => ?_) (fun c1 => ?_)
  · replace hf := if_t c1 hf
    refine lv_null hx hb dX5_shardOrNull_13 ?_
    refine lv_goto (tgt := 23) hx hb dX5_shardOrNull_14 (by decide) ?_
    cases hf
    exact xret_a F hr (Or.inl ⟨_, rfl⟩) (Or.inl rfl) hlocks hS rfl hW (Nat.le_of_ble_eq_true rfl) (Nat.le_of_ble_eq_true rfl) dX5_shardOrNull_23
  · replace hf := if_f c1 hf
    refine lv_iload_n hx hb dX5_shardOrNull_4 rfl (lv_at hl 1 rfl) ?_
    refine lv_aload_n hx hb dX5_shardOrNull_5 rfl (lv_at hl 0 rfl) ?_
    refine xget F hT hW xuX5 (xm_fix (by decide)) xce_0 rfl 0 (by decide) xw_71 rfl rfl dX5_shardOrNull_6 ?_
    refine xalenS F hT hW dX5_shardOrNull_9 ?_
    refine lv_icmp_lt (tgt := 17) hx hb dX5_shardOrNull_10 (by decide) (fun c2 => ?_) (fun c2 => ?_)
    · replace hf := if_t c2 hf
      refine lv_aload_n hx hb dX5_shardOrNull_17 rfl (lv_at hl 0 rfl) ?_
      refine xget F hT hW xuX5 (xm_fix (by decide)) xce_0 rfl 0 (by decide) xw_71 rfl rfl dX5_shardOrNull_18 ?_
      refine lv_iload_n hx hb dX5_shardOrNull_21 rfl (lv_at hl 1 rfl) ?_
      obtain ⟨g5, hf⟩ := oG_go hf
      refine xaldS F hT hW (xinb_ok g5) dX5_shardOrNull_22 ?_
      rcases o6 : xel sh.2.1 a1 with _ | jq3
      · replace hf := oN_0 o6 hf
        refine W.eq (g2 := F0 m 23 ls (.null :: [])) rfl ?_
        cases hf
        exact xret_a F hr (Or.inl ⟨_, rfl⟩) (Or.inl rfl) hlocks hS rfl hW (Nat.le_of_ble_eq_true rfl) (Nat.le_of_ble_eq_true rfl) dX5_shardOrNull_23
      · replace hf := oN_1 o6 hf
        have h4 : jq3 < sh.2.1 := xel_lt o6
        refine W.eq (g2 := F0 m 23 ls (.ref (sh.1 4 jq3) :: [])) rfl ?_
        cases hf
        exact xret_a F hr (Or.inl ⟨_, rfl⟩) (Or.inr ⟨_, rfl⟩) hlocks hS rfl hW (Nat.le_of_ble_eq_true rfl) (Nat.le_of_ble_eq_true rfl) dX5_shardOrNull_23
    · replace hf := if_f c2 hf
      refine lv_null hx hb dX5_shardOrNull_13 ?_
      refine lv_goto (tgt := 23) hx hb dX5_shardOrNull_14 (by decide) ?_
      cases hf
      exact xret_a F hr (Or.inl ⟨_, rfl⟩) (Or.inl rfl) hlocks hS rfl hW (Nat.le_of_ble_eq_true rfl) (Nat.le_of_ble_eq_true rfl) dX5_shardOrNull_23
abbrev rX5_knownShard : Room := { frames := 6, cells := 1, slots := 6, locals := 90 }
abbrev zX5_knownShard : List Cond := Cond.code yX5_knownShard cX5_knownShard 3 (some (.object "TenantPlacement$Shard")) :: xB
theorem xd_X5_knownShard : yX5_knownShard.cls = RX5 ∧ yX5_knownShard.cls ≠ "java/lang/invoke/MethodHandle" ∧ yX5_knownShard.cls ≠ "java/lang/invoke/VarHandle" ∧ (parseMethodDescriptor yX5_knownShard.desc).map (fun d => d.parameters.length) = some 1 := by decide +kernel
def fX5_knownShard (nS : Nat) (nT : Nat) (a1 : Int32) (sc : xSC) : Option (String ⊕ Nat) := oB (fX5_shardOrNull nS nT a1 sc) (fun v1 => oN v1 (some (Sum.inl "java/lang/IndexOutOfBoundsException")) (fun jq2 => oG (decide (jq2 < nS)) (some (Sum.inr jq2))))
set_option maxHeartbeats 4000000 in
set_option maxRecDepth 100000 in
theorem kX5_knownShard (l : Launch) (hl0 : l.stackTraces = false) (G : xG) (sh : xSh) (sc : xSC) (sr : xSR) (sl : xSL) (a1 : Int32) (r : (String ⊕ Nat)) (hf : fX5_knownShard sh.2.1 sh.2.2 a1 sc = some r) : xMet l yX5_knownShard zX5_knownShard rX5_knownShard G sh sc sr sl ([.ref (sh.1 0 0), .int a1] : List Value) (xvR sh 4 r) (xWd G sh sc sr sl) := by
  refine xMet_of (cc := cX5_knownShard) (maxL := 3) (ret := (some (.object "TenantPlacement$Shard"))) (by decide) (Nat.le_of_ble_eq_true rfl) ?_
  intro p e s m below meth c F hT hW hr hlocks htab ls hl
  have F : CallFix p m c cX5_knownShard 3 s ([.ref (sh.1 0 0), .int a1] : List Value).toArray xB RX5 := F
  have hx := F.1
  have hb := F.2.1
  have hS : va_S (xA G) s.heap s.heap [] := va_S.rf
  have hl : lv_has ls 3 [(0, .ref (sh.1 0 0)), (1, .int a1)] := hl
  unfold fX5_knownShard at hf
  refine lv_aload_n hx hb dX5_knownShard_0 rfl (lv_at hl 0 rfl) ?_
  refine lv_iload_n hx hb dX5_knownShard_1 rfl (lv_at hl 1 rfl) ?_
  obtain ⟨v1, hc6, hf⟩ := oB_go hf
  refine xcallV (n := 1) F hT hW hS (xm_fix (by decide)) xce_0 rfl (kX5_shardOrNull l hl0 G sh sc sr sl a1  _ hc6) (xgV xw_358 xw_360 xwp_3 xw_1 xw_361) rfl xd_X5_shardOrNull ⟨Nat.le_of_ble_eq_true rfl, Nat.le_of_ble_eq_true rfl⟩ rfl hl.1 rfl (Nat.le_of_ble_eq_true rfl) dX5_knownShard_2 ⟨Nat.le_of_ble_eq_true rfl, Nat.le_of_ble_eq_true rfl⟩ (fun v9 H locs hres hW hS => ?_) (fun E9 H locs q9 ce9 hres => by cases hres)
  cases hres
  rcases o5 : v1 with _ | jq2
  · replace hf := oN_0 o5 hf
    refine W.eq (g2 := F0 m 5 ls (.null :: [])) rfl ?_
    refine lv_astore_nN (lv' := [(2, .null), (0, .ref (sh.1 0 0)), (1, .int a1)]) hx hb dX5_knownShard_5 rfl hl (by decide) rfl (fun ls hl => ?_)
    refine lv_aload_nN hx hb dX5_knownShard_6 rfl (lv_at hl 0 rfl) ?_
    refine lv_ifnonnullN hx hb dX5_knownShard_7 ?_
    cases hf
    refine xthrowW (cls := "java/lang/IndexOutOfBoundsException") (text := "there is no such shard") (ik := 277) (is := 290) (ic := 281) F hT hW hS hl0 hlocks htab hl.1 xw_362 xw_12 (List.mem_of_getElem? (i := 13) rfl) xh_281 xb_281 (by decide +kernel) xg_281 (Nat.le_of_ble_eq_true rfl) (Nat.le_of_ble_eq_true rfl) (Nat.le_of_ble_eq_true rfl) (Nat.le_of_ble_eq_true rfl) ?_ ?_ (Nat.le_of_ble_eq_true rfl) (Nat.le_of_ble_eq_true rfl) dX5_knownShard_10 dX5_knownShard_13 dX5_knownShard_14 dX5_knownShard_17 dX5_knownShard_20
    · rfl
    · exact fun H h => h
  · replace hf := oN_1 o5 hf
    obtain ⟨g4, hf⟩ := oG_go hf
    have h3 : jq2 < sh.2.1 := of_decide_eq_true g4
    refine W.eq (g2 := F0 m 5 ls (.ref (sh.1 4 jq2) :: [])) rfl ?_
    refine lv_astore_n (lv' := [(2, .ref (sh.1 4 jq2)), (0, .ref (sh.1 0 0)), (1, .int a1)]) hx hb dX5_knownShard_5 rfl hl (by decide) rfl (fun ls hl => ?_)
    refine lv_aload_n hx hb dX5_knownShard_6 rfl (lv_at hl 0 rfl) ?_
    refine lv_ifnonnull (tgt := 21) hx hb dX5_knownShard_7 (by decide) ?_
    refine lv_aload_n hx hb dX5_knownShard_21 rfl (lv_at hl 0 rfl) ?_
    cases hf
    exact xret_a F hr (Or.inl ⟨_, rfl⟩) (Or.inr ⟨_, rfl⟩) hlocks hS rfl hW (Nat.le_of_ble_eq_true rfl) (Nat.le_of_ble_eq_true rfl) dX5_knownShard_22
abbrev rX5_tenants : Room := { frames := 0, cells := 0, slots := 0, locals := 0 }
abbrev zX5_tenants : List Cond := Cond.code yX5_tenants cX5_tenants 6 (some .int) :: xB
theorem xd_X5_tenants : yX5_tenants.cls = RX5 ∧ yX5_tenants.cls ≠ "java/lang/invoke/MethodHandle" ∧ yX5_tenants.cls ≠ "java/lang/invoke/VarHandle" ∧ (parseMethodDescriptor yX5_tenants.desc).map (fun d => d.parameters.length) = some 0 := by decide +kernel
def fX5_tenants_K1 (x1L1 : Int32) (x4L1 : Int32) : Option Int32 := some x1L1
def fX5_tenants_L1 (nT : Nat) (k_L1 : Int32 → Int32 → Option Int32) : Nat → Int32 → Int32 → Option Int32
  | 0, _, _ => none
  | n + 1, x1L1, x4L1 => (if 6 ≤ x4L1 then k_L1 x1L1 x4L1 else oG (xinb x4L1 6) (oN (xel nT x4L1) ((fX5_tenants_L1 nT k_L1 n) x1L1 (x4L1 + 1)) (fun jq2 => (fX5_tenants_L1 nT k_L1 n) (x1L1 + 1) (x4L1 + 1))))
def fX5_tenants (nS : Nat) (nT : Nat) (sc : xSC) : Option Int32 := fX5_tenants_L1 nT (fX5_tenants_K1) 64 0 0
set_option maxHeartbeats 4000000 in
set_option maxRecDepth 100000 in
theorem kX5_tenants (l : Launch) (hl0 : l.stackTraces = false) (G : xG) (sh : xSh) (sc : xSC) (sr : xSR) (sl : xSL) (r : Int32) (hf : fX5_tenants sh.2.1 sh.2.2 sc = some r) : xMet l yX5_tenants zX5_tenants rX5_tenants G sh sc sr sl ([.ref (sh.1 0 0)] : List Value) (xvI (.inr r)) (xWd G sh sc sr sl) := by
  refine xMet_of (cc := cX5_tenants) (maxL := 6) (ret := (some .int)) (by decide) (Nat.le_of_ble_eq_true rfl) ?_
  intro p e s m below meth c F hT hW hr hlocks htab ls hl
  have F : CallFix p m c cX5_tenants 6 s ([.ref (sh.1 0 0)] : List Value).toArray xB RX5 := F
  have hx := F.1
  have hb := F.2.1
  have hS : va_S (xA G) s.heap s.heap [] := va_S.rf
  have hl : lv_has ls 6 [(0, .ref (sh.1 0 0))] := hl
  unfold fX5_tenants at hf
  refine lv_iconst (v := 0) hx hb dX5_tenants_0 (by decide) ?_
  refine lv_istore_n (lv' := [(1, .int 0), (0, .ref (sh.1 0 0))]) hx hb dX5_tenants_1 rfl hl (by decide) rfl (fun ls hl => ?_)
  refine lv_aload_n hx hb dX5_tenants_2 rfl (lv_at hl 1 rfl) ?_
  refine xget F hT hW xuX5 (xm_fix (by decide)) xce_0 rfl 1 (by decide) xw_72 rfl rfl dX5_tenants_3 ?_
  refine lv_astore_n (lv' := [(2, .ref (sh.1 2 0)), (1, .int 0), (0, .ref (sh.1 0 0))]) hx hb dX5_tenants_6 rfl hl (by decide) rfl (fun ls hl => ?_)
  refine lv_aload_n hx hb dX5_tenants_7 rfl (lv_at hl 0 rfl) ?_
  refine xalenT F hT hW dX5_tenants_8 ?_
  refine lv_istore_n (lv' := [(3, .int 6), (2, .ref (sh.1 2 0)), (1, .int 0), (0, .ref (sh.1 0 0))]) hx hb dX5_tenants_9 rfl hl (by decide) rfl (fun ls hl => ?_)
  refine lv_iconst (v := 0) hx hb dX5_tenants_10 (by decide) ?_
  refine lv_istore (lv' := [(4, .int 0), (3, .int 6), (2, .ref (sh.1 2 0)), (1, .int 0), (0, .ref (sh.1 0 0))]) hx hb dX5_tenants_11 hl (by decide) rfl (fun ls hl => ?_)
  have hx_L1 : ∀ (x1L1 : Int32) (x4L1 : Int32), fX5_tenants_K1 x1L1 x4L1 = some r → ∀ (H : Heap) (locs : List Loc), xWd G sh sc sr sl H → va_S (xA G) s.heap H locs → ∀ ls : Array Slot, lv_has ls 6 [(1, .int x1L1)] → W p l e rX5_tenants s m ([.ref (sh.1 0 0)] : List Value).toArray below meth c H locs 0 0 (xQ below G (xvI (.inr r)) (xWd G sh sc sr sl) ([.ref (sh.1 0 0)] : List Value).toArray s 0 0) (F0 m 39 ls []) := by
    intro x1L1 x4L1 hf H locs hW hS ls hl
    unfold fX5_tenants_K1 at hf
    refine lv_iload_n hx hb dX5_tenants_39 rfl (lv_at hl 0 rfl) ?_
    cases hf
    exact xret_i (ty := .int) F hr hlocks hS rfl rfl hW (Nat.le_of_ble_eq_true rfl) (Nat.le_of_ble_eq_true rfl) dX5_tenants_40
  have hL_L1 : ∀ (n9 : Nat) (x1L1 : Int32) (x4L1 : Int32), fX5_tenants_L1 sh.2.2 (fX5_tenants_K1) n9 x1L1 x4L1 = some r → ∀ (H : Heap) (locs : List Loc), xWd G sh sc sr sl H → va_S (xA G) s.heap H locs → ∀ ls : Array Slot, lv_has ls 6 [(1, .int x1L1), (2, .ref (sh.1 2 0)), (3, .int 6), (4, .int x4L1)] → W p l e rX5_tenants s m ([.ref (sh.1 0 0)] : List Value).toArray below meth c H locs 0 0 (xQ below G (xvI (.inr r)) (xWd G sh sc sr sl) ([.ref (sh.1 0 0)] : List Value).toArray s 0 0) (F0 m 13 ls []) := by
    intro n_L1
    induction n_L1 with
    | zero =>
      intro x1L1 x4L1 hf
      unfold fX5_tenants_L1 at hf
      cases hf
    | succ n_L1 ih_L1 =>
      intro x1L1 x4L1 hf H locs hW hS ls hl
      unfold fX5_tenants_L1 at hf
      refine lv_iload hx hb dX5_tenants_13 (lv_at hl 3 rfl) ?_
      refine lv_iload_n hx hb dX5_tenants_15 rfl (lv_at hl 2 rfl) ?_
      refine lv_icmp_ge (tgt := 39) hx hb dX5_tenants_16 (by decide) (fun c1 => ?_) (fun c1 => ?_)
      · replace hf := if_t c1 hf
        exact hx_L1 _ _ hf _ _ hW hS ls (lv_sub hl [0] rfl)
      · replace hf := if_f c1 hf
        refine lv_aload_n hx hb dX5_tenants_19 rfl (lv_at hl 1 rfl) ?_
        refine lv_iload hx hb dX5_tenants_20 (lv_at hl 3 rfl) ?_
        obtain ⟨g4, hf⟩ := oG_go hf
        refine xaldT F hT hW (xinb_ok g4) dX5_tenants_22 ?_
        rcases o5 : xel sh.2.2 x4L1 with _ | jq2
        · replace hf := oN_0 o5 hf
          refine W.eq (g2 := F0 m 23 ls (.null :: [])) rfl ?_
          refine lv_astoreN (lv' := [(5, .null), (1, .int x1L1), (2, .ref (sh.1 2 0)), (3, .int 6), (4, .int x4L1)]) hx hb dX5_tenants_23 hl (by decide) rfl (fun ls hl => ?_)
          refine lv_aloadN hx hb dX5_tenants_25 (lv_at hl 0 rfl) ?_
          refine lv_ifnullN (tgt := 33) hx hb dX5_tenants_27 (by decide) ?_
          refine lv_iinc (v := (x4L1 + 1)) (lv' := [(4, .int (x4L1 + 1)), (5, .null), (1, .int x1L1), (2, .ref (sh.1 2 0)), (3, .int 6)]) hx hb dX5_tenants_33 hl (k := 4) rfl rfl (by decide) rfl (fun ls hl => ?_)
          refine lv_goto (tgt := 13) hx hb dX5_tenants_36 (by decide) ?_
          exact ih_L1 _ _ hf _ _ hW hS ls (lv_sub hl [2, 3, 4, 0] rfl)
        · replace hf := oN_1 o5 hf
          have h3 : jq2 < sh.2.2 := xel_lt o5
          refine W.eq (g2 := F0 m 23 ls (.ref (sh.1 11 jq2) :: [])) rfl ?_
          refine lv_astore (lv' := [(5, .ref (sh.1 11 jq2)), (1, .int x1L1), (2, .ref (sh.1 2 0)), (3, .int 6), (4, .int x4L1)]) hx hb dX5_tenants_23 hl (by decide) rfl (fun ls hl => ?_)
          refine lv_aload hx hb dX5_tenants_25 (lv_at hl 0 rfl) ?_
          refine lv_ifnull hx hb dX5_tenants_27 ?_
          refine lv_iinc (v := (x1L1 + 1)) (lv' := [(1, .int (x1L1 + 1)), (5, .ref (sh.1 11 jq2)), (2, .ref (sh.1 2 0)), (3, .int 6), (4, .int x4L1)]) hx hb dX5_tenants_30 hl (k := 1) rfl rfl (by decide) rfl (fun ls hl => ?_)
          refine lv_iinc (v := (x4L1 + 1)) (lv' := [(4, .int (x4L1 + 1)), (1, .int (x1L1 + 1)), (5, .ref (sh.1 11 jq2)), (2, .ref (sh.1 2 0)), (3, .int 6)]) hx hb dX5_tenants_33 hl (k := 4) rfl rfl (by decide) rfl (fun ls hl => ?_)
          refine lv_goto (tgt := 13) hx hb dX5_tenants_36 (by decide) ?_
          exact ih_L1 _ _ hf _ _ hW hS ls (lv_sub hl [1, 3, 4, 0] rfl)
  exact hL_L1 _ _ _ hf _ _ hW hS ls (lv_sub hl [3, 2, 1, 0] rfl)
abbrev rX5_countUse : Room := { frames := 3, cells := 0, slots := 0, locals := 64 }
abbrev zX5_countUse : List Cond := Cond.code yX5_countUse cX5_countUse 7 none :: xB
theorem xd_X5_countUse : yX5_countUse.cls = RX5 ∧ yX5_countUse.cls ≠ "java/lang/invoke/MethodHandle" ∧ yX5_countUse.cls ≠ "java/lang/invoke/VarHandle" ∧ (parseMethodDescriptor yX5_countUse.desc).map (fun d => d.parameters.length) = some 2 := by decide +kernel
def fX5_countUse_K2 (x3L1 : Int32) (r_L1 : Int32 → xSC → Option (Unit × xSC)) (x5L2 : Int32) (scL2 : xSC) : Option (Unit × xSC) := r_L1 (x3L1 + 1) scL2
def fX5_countUse_L2 (nS : Nat) (nT : Nat) (j1 : Nat) (a2 : Int32) (x3L1 : Int32) (jq2 : Nat) (k_L2 : Int32 → xSC → Option (Unit × xSC)) : Nat → Int32 → xSC → Option (Unit × xSC)
  | 0, _, _ => none
  | n + 1, x5L2, scL2 => (if 3 ≤ x5L2 then k_L2 x5L2 scL2 else oB (fX0_of nS nT 6 jq2 x5L2 scL2) (fun v7 => oB (fX4_useOn nS nT j1 x3L1 x5L2 scL2) (fun v8 => oP (fX0_put nS nT 6 jq2 x5L2 (v7 + (a2 * v8)) scL2) (fun v9 s10 => (fX5_countUse_L2 nS nT j1 a2 x3L1 jq2 k_L2 n) (x5L2 + 1) s10))))
def fX5_countUse_K1 (x3L1 : Int32) (scL1 : xSC) : Option (Unit × xSC) := some ((), scL1)
def fX5_countUse_L1 (nS : Nat) (nT : Nat) (j1 : Nat) (a2 : Int32) (k_L1 : Int32 → xSC → Option (Unit × xSC)) : Nat → Int32 → xSC → Option (Unit × xSC)
  | 0, _, _ => none
  | n + 1, x3L1, scL1 => (if 4 ≤ x3L1 then k_L1 x3L1 scL1 else oG (xinb x3L1 4) (oN (xel nS x3L1) ((fX5_countUse_L1 nS nT j1 a2 k_L1 n) (x3L1 + 1) scL1) (fun jq2 => fX5_countUse_L2 nS nT j1 a2 x3L1 jq2 (fX5_countUse_K2 x3L1 (fX5_countUse_L1 nS nT j1 a2 k_L1 n)) 64 0 scL1)))
def fX5_countUse (nS : Nat) (nT : Nat) (j1 : Nat) (a2 : Int32) (sc : xSC) : Option (Unit × xSC) := fX5_countUse_L1 nS nT j1 a2 (fX5_countUse_K1) 64 0 sc
set_option maxHeartbeats 4000000 in
set_option maxRecDepth 100000 in
theorem kX5_countUse (l : Launch) (hl0 : l.stackTraces = false) (G : xG) (sh : xSh) (sc : xSC) (sr : xSR) (sl : xSL) (j1 : Nat) (a2 : Int32) (hj1 : j1 < sh.2.2) (r : (Unit × xSC)) (hf : fX5_countUse sh.2.1 sh.2.2 j1 a2 sc = some r) : xMet l yX5_countUse zX5_countUse rX5_countUse G sh sc sr sl ([.ref (sh.1 0 0), .ref (sh.1 11 j1), .int a2] : List Value) (xvU (.inr r.1)) (xWd G sh r.2 sr sl) := by
  refine xMet_of (cc := cX5_countUse) (maxL := 7) (ret := none) (by decide) (Nat.le_of_ble_eq_true rfl) ?_
  intro p e s m below meth c F hT hW hr hlocks htab ls hl
  have F : CallFix p m c cX5_countUse 7 s ([.ref (sh.1 0 0), .ref (sh.1 11 j1), .int a2] : List Value).toArray xB RX5 := F
  have hx := F.1
  have hb := F.2.1
  have hS : va_S (xA G) s.heap s.heap [] := va_S.rf
  have hl : lv_has ls 7 [(0, .ref (sh.1 0 0)), (1, .ref (sh.1 11 j1)), (2, .int a2)] := hl
  unfold fX5_countUse at hf
  refine lv_iconst (v := 0) hx hb dX5_countUse_0 (by decide) ?_
  refine lv_istore_n (lv' := [(3, .int 0), (0, .ref (sh.1 0 0)), (1, .ref (sh.1 11 j1)), (2, .int a2)]) hx hb dX5_countUse_1 rfl hl (by decide) rfl (fun ls hl => ?_)
  have hx_L1 : ∀ (x3L1 : Int32) (scL1 : xSC), fX5_countUse_K1 x3L1 scL1 = some r → ∀ (H : Heap) (locs : List Loc), xWd G sh scL1 sr sl H → va_S (xA G) s.heap H locs → ∀ ls : Array Slot, lv_has ls 7 [] → W p l e rX5_countUse s m ([.ref (sh.1 0 0), .ref (sh.1 11 j1), .int a2] : List Value).toArray below meth c H locs 0 0 (xQ below G (xvU (.inr r.1)) (xWd G sh r.2 sr sl) ([.ref (sh.1 0 0), .ref (sh.1 11 j1), .int a2] : List Value).toArray s 0 0) (F0 m 79 ls []) := by
    intro x3L1 scL1 hf H locs hW hS ls hl
    unfold fX5_countUse_K1 at hf
    cases hf
    exact xret_v F hr hlocks hS rfl hW (Nat.le_of_ble_eq_true rfl) (Nat.le_of_ble_eq_true rfl) dX5_countUse_79
  have hL_L1 : ∀ (n9 : Nat) (x3L1 : Int32) (scL1 : xSC), fX5_countUse_L1 sh.2.1 sh.2.2 j1 a2 (fX5_countUse_K1) n9 x3L1 scL1 = some r → ∀ (H : Heap) (locs : List Loc), xWd G sh scL1 sr sl H → va_S (xA G) s.heap H locs → ∀ ls : Array Slot, lv_has ls 7 [(0, .ref (sh.1 0 0)), (1, .ref (sh.1 11 j1)), (2, .int a2), (3, .int x3L1)] → W p l e rX5_countUse s m ([.ref (sh.1 0 0), .ref (sh.1 11 j1), .int a2] : List Value).toArray below meth c H locs 0 0 (xQ below G (xvU (.inr r.1)) (xWd G sh r.2 sr sl) ([.ref (sh.1 0 0), .ref (sh.1 11 j1), .int a2] : List Value).toArray s 0 0) (F0 m 2 ls []) := by
    intro n_L1
    induction n_L1 with
    | zero =>
      intro x3L1 scL1 hf
      unfold fX5_countUse_L1 at hf
      cases hf
    | succ n_L1 ih_L1 =>
      intro x3L1 scL1 hf H locs hW hS ls hl
      unfold fX5_countUse_L1 at hf
      refine lv_iload_n hx hb dX5_countUse_2 rfl (lv_at hl 3 rfl) ?_
      refine lv_aload_n hx hb dX5_countUse_3 rfl (lv_at hl 0 rfl) ?_
      refine xget F hT hW xuX5 (xm_fix (by decide)) xce_0 rfl 0 (by decide) xw_71 rfl rfl dX5_countUse_4 ?_
      refine xalenS F hT hW dX5_countUse_7 ?_
      refine lv_icmp_ge (tgt := 79) hx hb dX5_countUse_8 (by decide) (fun c1 => ?_) (fun c1 => ?_)
      · replace hf := if_t c1 hf
        exact hx_L1 _ _ hf _ _ hW hS ls (lv_sub hl [] rfl)
      · replace hf := if_f c1 hf
        refine lv_aload_n hx hb dX5_countUse_11 rfl (lv_at hl 0 rfl) ?_
        refine xget F hT hW xuX5 (xm_fix (by decide)) xce_0 rfl 0 (by decide) xw_71 rfl rfl dX5_countUse_12 ?_
        refine lv_iload_n hx hb dX5_countUse_15 rfl (lv_at hl 3 rfl) ?_
        obtain ⟨g4, hf⟩ := oG_go hf
        refine xaldS F hT hW (xinb_ok g4) dX5_countUse_16 ?_
        rcases o5 : xel sh.2.1 x3L1 with _ | jq2
        · replace hf := oN_0 o5 hf
          refine W.eq (g2 := F0 m 17 ls (.null :: [])) rfl ?_
          refine lv_astoreN (lv' := [(4, .null), (0, .ref (sh.1 0 0)), (1, .ref (sh.1 11 j1)), (2, .int a2), (3, .int x3L1)]) hx hb dX5_countUse_17 hl (by decide) rfl (fun ls hl => ?_)
          refine lv_aloadN hx hb dX5_countUse_19 (lv_at hl 0 rfl) ?_
          refine lv_ifnullN (tgt := 73) hx hb dX5_countUse_21 (by decide) ?_
          refine lv_iinc (v := (x3L1 + 1)) (lv' := [(3, .int (x3L1 + 1)), (4, .null), (0, .ref (sh.1 0 0)), (1, .ref (sh.1 11 j1)), (2, .int a2)]) hx hb dX5_countUse_73 hl (k := 4) rfl rfl (by decide) rfl (fun ls hl => ?_)
          refine lv_goto (tgt := 2) hx hb dX5_countUse_76 (by decide) ?_
          exact ih_L1 _ _ hf _ _ hW hS ls (lv_sub hl [2, 3, 4, 0] rfl)
        · replace hf := oN_1 o5 hf
          have h3 : jq2 < sh.2.1 := xel_lt o5
          refine W.eq (g2 := F0 m 17 ls (.ref (sh.1 4 jq2) :: [])) rfl ?_
          refine lv_astore (lv' := [(4, .ref (sh.1 4 jq2)), (0, .ref (sh.1 0 0)), (1, .ref (sh.1 11 j1)), (2, .int a2), (3, .int x3L1)]) hx hb dX5_countUse_17 hl (by decide) rfl (fun ls hl => ?_)
          refine lv_aload hx hb dX5_countUse_19 (lv_at hl 0 rfl) ?_
          refine lv_ifnull hx hb dX5_countUse_21 ?_
          refine lv_iconst (v := 0) hx hb dX5_countUse_24 (by decide) ?_
          refine lv_istore (lv' := [(5, .int 0), (4, .ref (sh.1 4 jq2)), (0, .ref (sh.1 0 0)), (1, .ref (sh.1 11 j1)), (2, .int a2), (3, .int x3L1)]) hx hb dX5_countUse_25 hl (by decide) rfl (fun ls hl => ?_)
          have hx_L2 : ∀ (x5L2 : Int32) (scL2 : xSC), fX5_countUse_K2 x3L1 (fX5_countUse_L1 sh.2.1 sh.2.2 j1 a2 (fX5_countUse_K1) n_L1) x5L2 scL2 = some r → ∀ (H : Heap) (locs : List Loc), xWd G sh scL2 sr sl H → va_S (xA G) s.heap H locs → ∀ ls : Array Slot, lv_has ls 7 [(0, .ref (sh.1 0 0)), (1, .ref (sh.1 11 j1)), (2, .int a2), (3, .int x3L1)] → W p l e rX5_countUse s m ([.ref (sh.1 0 0), .ref (sh.1 11 j1), .int a2] : List Value).toArray below meth c H locs 0 0 (xQ below G (xvU (.inr r.1)) (xWd G sh r.2 sr sl) ([.ref (sh.1 0 0), .ref (sh.1 11 j1), .int a2] : List Value).toArray s 0 0) (F0 m 73 ls []) := by
            intro x5L2 scL2 hf H locs hW hS ls hl
            unfold fX5_countUse_K2 at hf
            refine lv_iinc (v := (x3L1 + 1)) (lv' := [(3, .int (x3L1 + 1)), (0, .ref (sh.1 0 0)), (1, .ref (sh.1 11 j1)), (2, .int a2)]) hx hb dX5_countUse_73 hl (k := 3) rfl rfl (by decide) rfl (fun ls hl => ?_)
            refine lv_goto (tgt := 2) hx hb dX5_countUse_76 (by decide) ?_
            exact ih_L1 _ _ hf _ _ hW hS ls (lv_sub hl [1, 2, 3, 0] rfl)
          have hL_L2 : ∀ (n9 : Nat) (x5L2 : Int32) (scL2 : xSC), fX5_countUse_L2 sh.2.1 sh.2.2 j1 a2 x3L1 jq2 (fX5_countUse_K2 x3L1 (fX5_countUse_L1 sh.2.1 sh.2.2 j1 a2 (fX5_countUse_K1) n_L1)) n9 x5L2 scL2 = some r → ∀ (H : Heap) (locs : List Loc), xWd G sh scL2 sr sl H → va_S (xA G) s.heap H locs → ∀ ls : Array Slot, lv_has ls 7 [(0, .ref (sh.1 0 0)), (1, .ref (sh.1 11 j1)), (2, .int a2), (3, .int x3L1), (4, .ref (sh.1 4 jq2)), (5, .int x5L2)] → W p l e rX5_countUse s m ([.ref (sh.1 0 0), .ref (sh.1 11 j1), .int a2] : List Value).toArray below meth c H locs 0 0 (xQ below G (xvU (.inr r.1)) (xWd G sh r.2 sr sl) ([.ref (sh.1 0 0), .ref (sh.1 11 j1), .int a2] : List Value).toArray s 0 0) (F0 m 27 ls []) := by
            intro n_L2
            induction n_L2 with
            | zero =>
              intro x5L2 scL2 hf
              unfold fX5_countUse_L2 at hf
              cases hf
            | succ n_L2 ih_L2 =>
              intro x5L2 scL2 hf H locs hW hS ls hl
              unfold fX5_countUse_L2 at hf
              refine lv_iload hx hb dX5_countUse_27 (lv_at hl 5 rfl) ?_
              refine lv_iconst (v := 3) hx hb dX5_countUse_29 (by decide) ?_
              refine lv_icmp_ge (tgt := 73) hx hb dX5_countUse_30 (by decide) (fun c6 => ?_) (fun c6 => ?_)
              · replace hf := if_t c6 hf
                exact hx_L2 _ _ hf _ _ hW hS ls (lv_sub hl [0, 1, 2, 3] rfl)
              · replace hf := if_f c6 hf
                refine lv_aload hx hb dX5_countUse_33 (lv_at hl 4 rfl) ?_
                refine xgetN (host := "TenantPlacement") F hT hW xuX3 (xm_S h3 (by decide)) xce_4 rfl 1 (by decide) (List.mem_of_getElem? (i := 21) rfl) rfl rfl dX5_countUse_35 ?_
                refine lv_iload hx hb dX5_countUse_38 (lv_at hl 5 rfl) ?_
                obtain ⟨v7, hc13, hf⟩ := oB_go hf
                refine xcallV (n := 1) F hT hW hS (xm_S h3 (by decide)) (xce_am (by decide)) rfl (kX0_of l hl0 G sh scL2 sr sl 6 jq2 x5L2 (by decide) (xm_S h3 (by decide)) _ hc13) (xgV xw_386 xw_387 xw_388 xw_11 xw_389) rfl xd_X0_of ⟨Nat.le_of_ble_eq_true rfl, Nat.le_of_ble_eq_true rfl⟩ rfl hl.1 rfl (Nat.le_of_ble_eq_true rfl) dX5_countUse_40 ⟨Nat.le_of_ble_eq_true rfl, Nat.le_of_ble_eq_true rfl⟩ (fun v9 H locs hres hW hS => ?_) (fun E9 H locs q9 ce9 hres => by cases hres)
                cases hres
                refine W.eq (g2 := F0 m 43 ls (.int v7 :: [])) rfl ?_
                refine lv_istore (lv' := [(6, .int v7), (0, .ref (sh.1 0 0)), (1, .ref (sh.1 11 j1)), (2, .int a2), (3, .int x3L1), (4, .ref (sh.1 4 jq2)), (5, .int x5L2)]) hx hb dX5_countUse_43 hl (by decide) rfl (fun ls hl => ?_)
                refine lv_aload hx hb dX5_countUse_45 (lv_at hl 5 rfl) ?_
                refine xgetN (host := "TenantPlacement") F hT hW xuX3 (xm_S h3 (by decide)) xce_4 rfl 1 (by decide) (List.mem_of_getElem? (i := 21) rfl) rfl rfl dX5_countUse_47 ?_
                refine lv_iload hx hb dX5_countUse_50 (lv_at hl 6 rfl) ?_
                refine lv_iload hx hb dX5_countUse_52 (lv_at hl 0 rfl) ?_
                refine lv_iload_n hx hb dX5_countUse_54 rfl (lv_at hl 3 rfl) ?_
                refine lv_aload_n hx hb dX5_countUse_55 rfl (lv_at hl 2 rfl) ?_
                refine lv_iload_n hx hb dX5_countUse_56 rfl (lv_at hl 4 rfl) ?_
                refine lv_iload hx hb dX5_countUse_57 (lv_at hl 6 rfl) ?_
                obtain ⟨v8, hc12, hf⟩ := oB_go hf
                refine xcallV (n := 2) F hT hW hS (xm_T hj1 (by decide)) xce_11 rfl (kX4_useOn l hl0 G sh scL2 sr sl j1 x3L1 x5L2 hj1 _ hc12) (xgV xw_473 xw_474 xw_475 xw_16 xw_476) rfl xd_X4_useOn ⟨Nat.le_of_ble_eq_true rfl, Nat.le_of_ble_eq_true rfl⟩ rfl hl.1 rfl (Nat.le_of_ble_eq_true rfl) dX5_countUse_59 ⟨Nat.le_of_ble_eq_true rfl, Nat.le_of_ble_eq_true rfl⟩ (fun v9 H locs hres hW hS => ?_) (fun E9 H locs q9 ce9 hres => by cases hres)
                cases hres
                refine W.eq (g2 := F0 m 62 ls (.int v8 :: .int a2 :: .int v7 :: .int x5L2 :: .ref (sh.1 6 jq2) :: [])) rfl ?_
                refine lv_imul hx hb dX5_countUse_62 ?_
                refine lv_iadd hx hb dX5_countUse_63 ?_
                obtain ⟨v9, s10, hc11, hf⟩ := oP_go hf
                refine xcallV (n := 2) F hT hW hS (xm_S h3 (by decide)) (xce_am (by decide)) rfl (kX0_put l hl0 G sh scL2 sr sl 6 jq2 x5L2 (v7 + (a2 * v8)) (by decide) (xm_S h3 (by decide)) _ hc11) (xgV xw_390 xw_391 xw_392 xw_11 xw_393) rfl xd_X0_put ⟨Nat.le_of_ble_eq_true rfl, Nat.le_of_ble_eq_true rfl⟩ rfl hl.1 rfl (Nat.le_of_ble_eq_true rfl) dX5_countUse_64 ⟨Nat.le_of_ble_eq_true rfl, Nat.le_of_ble_eq_true rfl⟩ (fun v9 H locs hres hW hS => ?_) (fun E9 H locs q9 ce9 hres => by cases hres)
                cases hres
                refine W.eq (g2 := F0 m 67 ls ([])) rfl ?_
                refine lv_iinc (v := (x5L2 + 1)) (lv' := [(5, .int (x5L2 + 1)), (6, .int v7), (0, .ref (sh.1 0 0)), (1, .ref (sh.1 11 j1)), (2, .int a2), (3, .int x3L1), (4, .ref (sh.1 4 jq2))]) hx hb dX5_countUse_67 hl (k := 6) rfl rfl (by decide) rfl (fun ls hl => ?_)
                refine lv_goto (tgt := 27) hx hb dX5_countUse_70 (by decide) ?_
                exact ih_L2 _ _ hf _ _ hW hS ls (lv_sub hl [2, 3, 4, 5, 6, 0] rfl)
          exact hL_L2 _ _ _ hf _ _ hW hS ls (lv_sub hl [2, 3, 4, 5, 1, 0] rfl)
  exact hL_L1 _ _ _ hf _ _ hW hS ls (lv_sub hl [1, 2, 3, 0] rfl)
abbrev rX5_isBarred : Room := { frames := 2, cells := 0, slots := 0, locals := 41 }
abbrev zX5_isBarred : List Cond := Cond.code yX5_isBarred cX5_isBarred 5 (some .boolean) :: xB
theorem xd_X5_isBarred : yX5_isBarred.cls = RX5 ∧ yX5_isBarred.cls ≠ "java/lang/invoke/MethodHandle" ∧ yX5_isBarred.cls ≠ "java/lang/invoke/VarHandle" ∧ (parseMethodDescriptor yX5_isBarred.desc).map (fun d => d.parameters.length) = some 2 := by decide +kernel
def fX5_isBarred_K1 (x3L1 : Int32) : Option Int32 := some 0
def fX5_isBarred_L1 (nS : Nat) (nT : Nat) (a1 : Int32) (j2 : Nat) (sc : xSC) (k_L1 : Int32 → Option Int32) : Nat → Int32 → Option Int32
  | 0, _ => none
  | n + 1, x3L1 => (if 6 ≤ x3L1 then k_L1 x3L1 else oG (xinb x3L1 6) (oN (xel nT x3L1) ((fX5_isBarred_L1 nS nT a1 j2 sc k_L1 n) (x3L1 + 1)) (fun jq2 => oB (fX4_isApartFrom nS nT j2 x3L1 sc) (fun v6 => (if v6 = 0 then (fX5_isBarred_L1 nS nT a1 j2 sc k_L1 n) (x3L1 + 1) else oB (fX4_isPresentOn nS nT jq2 a1 sc) (fun v8 => (if v8 = 0 then (fX5_isBarred_L1 nS nT a1 j2 sc k_L1 n) (x3L1 + 1) else some 1)))))))
def fX5_isBarred (nS : Nat) (nT : Nat) (a1 : Int32) (j2 : Nat) (sc : xSC) : Option Int32 := fX5_isBarred_L1 nS nT a1 j2 sc (fX5_isBarred_K1) 64 0
set_option maxHeartbeats 4000000 in
set_option maxRecDepth 100000 in
theorem kX5_isBarred (l : Launch) (hl0 : l.stackTraces = false) (G : xG) (sh : xSh) (sc : xSC) (sr : xSR) (sl : xSL) (a1 : Int32) (j2 : Nat) (hj2 : j2 < sh.2.2) (r : Int32) (hf : fX5_isBarred sh.2.1 sh.2.2 a1 j2 sc = some r) : xMet l yX5_isBarred zX5_isBarred rX5_isBarred G sh sc sr sl ([.ref (sh.1 0 0), .int a1, .ref (sh.1 11 j2)] : List Value) (xvI (.inr r)) (xWd G sh sc sr sl) := by
  refine xMet_of (cc := cX5_isBarred) (maxL := 5) (ret := (some .boolean)) (by decide) (Nat.le_of_ble_eq_true rfl) ?_
  intro p e s m below meth c F hT hW hr hlocks htab ls hl
  have F : CallFix p m c cX5_isBarred 5 s ([.ref (sh.1 0 0), .int a1, .ref (sh.1 11 j2)] : List Value).toArray xB RX5 := F
  have hx := F.1
  have hb := F.2.1
  have hS : va_S (xA G) s.heap s.heap [] := va_S.rf
  have hl : lv_has ls 5 [(0, .ref (sh.1 0 0)), (1, .int a1), (2, .ref (sh.1 11 j2))] := hl
  unfold fX5_isBarred at hf
  refine lv_iconst (v := 0) hx hb dX5_isBarred_0 (by decide) ?_
  refine lv_istore_n (lv' := [(3, .int 0), (0, .ref (sh.1 0 0)), (1, .int a1), (2, .ref (sh.1 11 j2))]) hx hb dX5_isBarred_1 rfl hl (by decide) rfl (fun ls hl => ?_)
  have hx_L1 : ∀ (x3L1 : Int32), fX5_isBarred_K1 x3L1 = some r → ∀ (H : Heap) (locs : List Loc), xWd G sh sc sr sl H → va_S (xA G) s.heap H locs → ∀ ls : Array Slot, lv_has ls 5 [] → W p l e rX5_isBarred s m ([.ref (sh.1 0 0), .int a1, .ref (sh.1 11 j2)] : List Value).toArray below meth c H locs 0 0 (xQ below G (xvI (.inr r)) (xWd G sh sc sr sl) ([.ref (sh.1 0 0), .int a1, .ref (sh.1 11 j2)] : List Value).toArray s 0 0) (F0 m 49 ls []) := by
    intro x3L1 hf H locs hW hS ls hl
    unfold fX5_isBarred_K1 at hf
    refine lv_iconst (v := 0) hx hb dX5_isBarred_49 (by decide) ?_
    cases hf
    exact xret_i (ty := .boolean) F hr hlocks hS (by decide) rfl hW (Nat.le_of_ble_eq_true rfl) (Nat.le_of_ble_eq_true rfl) dX5_isBarred_50
  have hL_L1 : ∀ (n9 : Nat) (x3L1 : Int32), fX5_isBarred_L1 sh.2.1 sh.2.2 a1 j2 sc (fX5_isBarred_K1) n9 x3L1 = some r → ∀ (H : Heap) (locs : List Loc), xWd G sh sc sr sl H → va_S (xA G) s.heap H locs → ∀ ls : Array Slot, lv_has ls 5 [(0, .ref (sh.1 0 0)), (1, .int a1), (2, .ref (sh.1 11 j2)), (3, .int x3L1)] → W p l e rX5_isBarred s m ([.ref (sh.1 0 0), .int a1, .ref (sh.1 11 j2)] : List Value).toArray below meth c H locs 0 0 (xQ below G (xvI (.inr r)) (xWd G sh sc sr sl) ([.ref (sh.1 0 0), .int a1, .ref (sh.1 11 j2)] : List Value).toArray s 0 0) (F0 m 2 ls []) := by
    intro n_L1
    induction n_L1 with
    | zero =>
      intro x3L1 hf
      unfold fX5_isBarred_L1 at hf
      cases hf
    | succ n_L1 ih_L1 =>
      intro x3L1 hf H locs hW hS ls hl
      unfold fX5_isBarred_L1 at hf
      refine lv_iload_n hx hb dX5_isBarred_2 rfl (lv_at hl 3 rfl) ?_
      refine lv_aload_n hx hb dX5_isBarred_3 rfl (lv_at hl 0 rfl) ?_
      refine xget F hT hW xuX5 (xm_fix (by decide)) xce_0 rfl 1 (by decide) xw_72 rfl rfl dX5_isBarred_4 ?_
      refine xalenT F hT hW dX5_isBarred_7 ?_
      refine lv_icmp_ge (tgt := 49) hx hb dX5_isBarred_8 (by decide) (fun c1 => ?_) (fun c1 => ?_)
      · replace hf := if_t c1 hf
        exact hx_L1 _ hf _ _ hW hS ls (lv_sub hl [] rfl)
      · replace hf := if_f c1 hf
        refine lv_aload_n hx hb dX5_isBarred_11 rfl (lv_at hl 0 rfl) ?_
        refine xget F hT hW xuX5 (xm_fix (by decide)) xce_0 rfl 1 (by decide) xw_72 rfl rfl dX5_isBarred_12 ?_
        refine lv_iload_n hx hb dX5_isBarred_15 rfl (lv_at hl 3 rfl) ?_
        obtain ⟨g4, hf⟩ := oG_go hf
        refine xaldT F hT hW (xinb_ok g4) dX5_isBarred_16 ?_
        rcases o5 : xel sh.2.2 x3L1 with _ | jq2
        · replace hf := oN_0 o5 hf
          refine W.eq (g2 := F0 m 17 ls (.null :: [])) rfl ?_
          refine lv_astoreN (lv' := [(4, .null), (0, .ref (sh.1 0 0)), (1, .int a1), (2, .ref (sh.1 11 j2)), (3, .int x3L1)]) hx hb dX5_isBarred_17 hl (by decide) rfl (fun ls hl => ?_)
          refine lv_aloadN hx hb dX5_isBarred_19 (lv_at hl 0 rfl) ?_
          refine lv_ifnullN (tgt := 43) hx hb dX5_isBarred_21 (by decide) ?_
          refine lv_iinc (v := (x3L1 + 1)) (lv' := [(3, .int (x3L1 + 1)), (4, .null), (0, .ref (sh.1 0 0)), (1, .int a1), (2, .ref (sh.1 11 j2))]) hx hb dX5_isBarred_43 hl (k := 4) rfl rfl (by decide) rfl (fun ls hl => ?_)
          refine lv_goto (tgt := 2) hx hb dX5_isBarred_46 (by decide) ?_
          exact ih_L1 _ hf _ _ hW hS ls (lv_sub hl [2, 3, 4, 0] rfl)
        · replace hf := oN_1 o5 hf
          have h3 : jq2 < sh.2.2 := xel_lt o5
          refine W.eq (g2 := F0 m 17 ls (.ref (sh.1 11 jq2) :: [])) rfl ?_
          refine lv_astore (lv' := [(4, .ref (sh.1 11 jq2)), (0, .ref (sh.1 0 0)), (1, .int a1), (2, .ref (sh.1 11 j2)), (3, .int x3L1)]) hx hb dX5_isBarred_17 hl (by decide) rfl (fun ls hl => ?_)
          refine lv_aload hx hb dX5_isBarred_19 (lv_at hl 0 rfl) ?_
          refine lv_ifnull hx hb dX5_isBarred_21 ?_
          refine lv_aload_n hx hb dX5_isBarred_24 rfl (lv_at hl 3 rfl) ?_
          refine lv_iload_n hx hb dX5_isBarred_25 rfl (lv_at hl 4 rfl) ?_
          obtain ⟨v6, hc11, hf⟩ := oB_go hf
          refine xcallV (n := 1) F hT hW hS (xm_T hj2 (by decide)) xce_11 rfl (kX4_isApartFrom l hl0 G sh sc sr sl j2 x3L1 hj2 _ hc11) (xgV xw_524 xw_525 xw_526 xw_16 xw_527) rfl xd_X4_isApartFrom ⟨Nat.le_of_ble_eq_true rfl, Nat.le_of_ble_eq_true rfl⟩ rfl hl.1 rfl (Nat.le_of_ble_eq_true rfl) dX5_isBarred_26 ⟨Nat.le_of_ble_eq_true rfl, Nat.le_of_ble_eq_true rfl⟩ (fun v9 H locs hres hW hS => ?_) (fun E9 H locs q9 ce9 hres => by cases hres)
          cases hres
          refine W.eq (g2 := F0 m 29 ls (.int v6 :: [])) rfl ?_
          refine lv_if_eq (tgt := 43) hx hb dX5_isBarred_29 (by decide) (fun c7 => ?_) (fun c7 => ?_)
          · replace hf := if_t c7 hf
            refine lv_iinc (v := (x3L1 + 1)) (lv' := [(3, .int (x3L1 + 1)), (4, .ref (sh.1 11 jq2)), (0, .ref (sh.1 0 0)), (1, .int a1), (2, .ref (sh.1 11 j2))]) hx hb dX5_isBarred_43 hl (k := 4) rfl rfl (by decide) rfl (fun ls hl => ?_)
            refine lv_goto (tgt := 2) hx hb dX5_isBarred_46 (by decide) ?_
            exact ih_L1 _ hf _ _ hW hS ls (lv_sub hl [2, 3, 4, 0] rfl)
          · replace hf := if_f c7 hf
            refine lv_aload hx hb dX5_isBarred_32 (lv_at hl 0 rfl) ?_
            refine lv_iload_n hx hb dX5_isBarred_34 rfl (lv_at hl 2 rfl) ?_
            obtain ⟨v8, hc10, hf⟩ := oB_go hf
            refine xcallV (n := 1) F hT hW hS (xm_T h3 (by decide)) xce_11 rfl (kX4_isPresentOn l hl0 G sh sc sr sl jq2 a1 h3 _ hc10) (xgV xw_545 xw_478 xw_479 xw_16 xw_480) rfl xd_X4_isPresentOn ⟨Nat.le_of_ble_eq_true rfl, Nat.le_of_ble_eq_true rfl⟩ rfl hl.1 rfl (Nat.le_of_ble_eq_true rfl) dX5_isBarred_35 ⟨Nat.le_of_ble_eq_true rfl, Nat.le_of_ble_eq_true rfl⟩ (fun v9 H locs hres hW hS => ?_) (fun E9 H locs q9 ce9 hres => by cases hres)
            cases hres
            refine W.eq (g2 := F0 m 38 ls (.int v8 :: [])) rfl ?_
            refine lv_if_eq (tgt := 43) hx hb dX5_isBarred_38 (by decide) (fun c9 => ?_) (fun c9 => ?_)
            · replace hf := if_t c9 hf
              refine lv_iinc (v := (x3L1 + 1)) (lv' := [(3, .int (x3L1 + 1)), (4, .ref (sh.1 11 jq2)), (0, .ref (sh.1 0 0)), (1, .int a1), (2, .ref (sh.1 11 j2))]) hx hb dX5_isBarred_43 hl (k := 4) rfl rfl (by decide) rfl (fun ls hl => ?_)
              refine lv_goto (tgt := 2) hx hb dX5_isBarred_46 (by decide) ?_
              exact ih_L1 _ hf _ _ hW hS ls (lv_sub hl [2, 3, 4, 0] rfl)
            · replace hf := if_f c9 hf
              refine lv_iconst (v := 1) hx hb dX5_isBarred_41 (by decide) ?_
              cases hf
              exact xret_i (ty := .boolean) F hr hlocks hS (by decide) rfl hW (Nat.le_of_ble_eq_true rfl) (Nat.le_of_ble_eq_true rfl) dX5_isBarred_42
  exact hL_L1 _ _ hf _ _ hW hS ls (lv_sub hl [1, 2, 3, 0] rfl)
abbrev rX5_canGoBack : Room := { frames := 3, cells := 0, slots := 0, locals := 65 }
abbrev zX5_canGoBack : List Cond := Cond.code yX5_canGoBack cX5_canGoBack 3 (some .boolean) :: xB
theorem xd_X5_canGoBack : yX5_canGoBack.cls = RX5 ∧ yX5_canGoBack.cls ≠ "java/lang/invoke/MethodHandle" ∧ yX5_canGoBack.cls ≠ "java/lang/invoke/VarHandle" ∧ (parseMethodDescriptor yX5_canGoBack.desc).map (fun d => d.parameters.length) = some 1 := by decide +kernel
def fX5_canGoBack (nS : Nat) (nT : Nat) (j1 : Nat) (sc : xSC) : Option Int32 := oB (fX5_shardOrNull nS nT (sc.1 9 j1 1) sc) (fun v1 => oN v1 (some 0) (fun jq2 => oG (decide (jq2 < nS)) ((if (sc.1 4 jq2 2) = 0 then some 0 else oB (fX5_isBarred nS nT (sc.1 9 j1 1) j1 sc) (fun v7 => (if v7 = 0 then oB (fX3_hasRoomBesidesStorage nS nT jq2 8 j1 sc) (fun v9 => (if v9 = 0 then some 0 else some 1)) else some 0))))))
set_option maxHeartbeats 4000000 in
set_option maxRecDepth 100000 in
theorem kX5_canGoBack (l : Launch) (hl0 : l.stackTraces = false) (G : xG) (sh : xSh) (sc : xSC) (sr : xSR) (sl : xSL) (j1 : Nat) (hj1 : j1 < sh.2.2) (r : Int32) (hf : fX5_canGoBack sh.2.1 sh.2.2 j1 sc = some r) : xMet l yX5_canGoBack zX5_canGoBack rX5_canGoBack G sh sc sr sl ([.ref (sh.1 0 0), .ref (sh.1 11 j1)] : List Value) (xvI (.inr r)) (xWd G sh sc sr sl) := by
  refine xMet_of (cc := cX5_canGoBack) (maxL := 3) (ret := (some .boolean)) (by decide) (Nat.le_of_ble_eq_true rfl) ?_
  intro p e s m below meth c F hT hW hr hlocks htab ls hl
  have F : CallFix p m c cX5_canGoBack 3 s ([.ref (sh.1 0 0), .ref (sh.1 11 j1)] : List Value).toArray xB RX5 := F
  have hx := F.1
  have hb := F.2.1
  have hS : va_S (xA G) s.heap s.heap [] := va_S.rf
  have hl : lv_has ls 3 [(0, .ref (sh.1 0 0)), (1, .ref (sh.1 11 j1))] := hl
  unfold fX5_canGoBack at hf
  refine lv_aload_n hx hb dX5_canGoBack_0 rfl (lv_at hl 0 rfl) ?_
  refine lv_aload_n hx hb dX5_canGoBack_1 rfl (lv_at hl 1 rfl) ?_
  refine xgetN (host := "TenantPlacement") F hT hW xuX4 (xm_T hj1 (by decide)) xce_11 rfl 2 (by decide) (List.mem_of_getElem? (i := 13) rfl) rfl rfl dX5_canGoBack_2 ?_
  refine xgetN (host := "TenantPlacement") F hT hW xuX1 (xm_T hj1 (by decide)) (xce_mv (by decide)) rfl 1 (by decide) (List.mem_of_getElem? (i := 25) rfl) rfl rfl dX5_canGoBack_5 ?_
  obtain ⟨v1, hc13, hf⟩ := oB_go hf
  refine xcallV (n := 1) F hT hW hS (xm_fix (by decide)) xce_0 rfl (kX5_shardOrNull l hl0 G sh sc sr sl (sc.1 9 j1 1)  _ hc13) (xgV xw_358 xw_360 xwp_3 xw_1 xw_361) rfl xd_X5_shardOrNull ⟨Nat.le_of_ble_eq_true rfl, Nat.le_of_ble_eq_true rfl⟩ rfl hl.1 rfl (Nat.le_of_ble_eq_true rfl) dX5_canGoBack_8 ⟨Nat.le_of_ble_eq_true rfl, Nat.le_of_ble_eq_true rfl⟩ (fun v9 H locs hres hW hS => ?_) (fun E9 H locs q9 ce9 hres => by cases hres)
  cases hres
  rcases o5 : v1 with _ | jq2
  · replace hf := oN_0 o5 hf
    refine W.eq (g2 := F0 m 11 ls (.null :: [])) rfl ?_
    refine lv_astore_nN (lv' := [(2, .null), (0, .ref (sh.1 0 0)), (1, .ref (sh.1 11 j1))]) hx hb dX5_canGoBack_11 rfl hl (by decide) rfl (fun ls hl => ?_)
    refine lv_aload_nN hx hb dX5_canGoBack_12 rfl (lv_at hl 0 rfl) ?_
    refine lv_ifnullN (tgt := 53) hx hb dX5_canGoBack_13 (by decide) ?_
    refine lv_iconst (v := 0) hx hb dX5_canGoBack_53 (by decide) ?_
    cases hf
    exact xret_i (ty := .boolean) F hr hlocks hS (by decide) rfl hW (Nat.le_of_ble_eq_true rfl) (Nat.le_of_ble_eq_true rfl) dX5_canGoBack_54
  · replace hf := oN_1 o5 hf
    obtain ⟨g4, hf⟩ := oG_go hf
    have h3 : jq2 < sh.2.1 := of_decide_eq_true g4
    refine W.eq (g2 := F0 m 11 ls (.ref (sh.1 4 jq2) :: [])) rfl ?_
    refine lv_astore_n (lv' := [(2, .ref (sh.1 4 jq2)), (0, .ref (sh.1 0 0)), (1, .ref (sh.1 11 j1))]) hx hb dX5_canGoBack_11 rfl hl (by decide) rfl (fun ls hl => ?_)
    refine lv_aload_n hx hb dX5_canGoBack_12 rfl (lv_at hl 0 rfl) ?_
    refine lv_ifnull hx hb dX5_canGoBack_13 ?_
    refine lv_aload_n hx hb dX5_canGoBack_16 rfl (lv_at hl 0 rfl) ?_
    refine xgetN (host := "TenantPlacement") F hT hW xuX3 (xm_S h3 (by decide)) xce_4 rfl 2 (by decide) (List.mem_of_getElem? (i := 27) rfl) rfl rfl dX5_canGoBack_17 ?_
    refine lv_if_eq (tgt := 53) hx hb dX5_canGoBack_20 (by decide) (fun c6 => ?_) (fun c6 => ?_)
    · replace hf := if_t c6 hf
      refine lv_iconst (v := 0) hx hb dX5_canGoBack_53 (by decide) ?_
      cases hf
      exact xret_i (ty := .boolean) F hr hlocks hS (by decide) rfl hW (Nat.le_of_ble_eq_true rfl) (Nat.le_of_ble_eq_true rfl) dX5_canGoBack_54
    · replace hf := if_f c6 hf
      refine lv_aload_n hx hb dX5_canGoBack_23 rfl (lv_at hl 1 rfl) ?_
      refine lv_aload_n hx hb dX5_canGoBack_24 rfl (lv_at hl 2 rfl) ?_
      refine xgetN (host := "TenantPlacement") F hT hW xuX4 (xm_T hj1 (by decide)) xce_11 rfl 2 (by decide) (List.mem_of_getElem? (i := 13) rfl) rfl rfl dX5_canGoBack_25 ?_
      refine xgetN (host := "TenantPlacement") F hT hW xuX1 (xm_T hj1 (by decide)) (xce_mv (by decide)) rfl 1 (by decide) (List.mem_of_getElem? (i := 25) rfl) rfl rfl dX5_canGoBack_28 ?_
      refine lv_aload_n hx hb dX5_canGoBack_31 rfl (lv_at hl 2 rfl) ?_
      obtain ⟨v7, hc12, hf⟩ := oB_go hf
      refine xcallV (n := 2) F hT hW hS (xm_fix (by decide)) xce_0 rfl (kX5_isBarred l hl0 G sh sc sr sl (sc.1 9 j1 1) j1 hj1 _ hc12) (xgV xw_541 xw_543 xwp_6 xw_1 xw_544) rfl xd_X5_isBarred ⟨Nat.le_of_ble_eq_true rfl, Nat.le_of_ble_eq_true rfl⟩ rfl hl.1 rfl (Nat.le_of_ble_eq_true rfl) dX5_canGoBack_32 ⟨Nat.le_of_ble_eq_true rfl, Nat.le_of_ble_eq_true rfl⟩ (fun v9 H locs hres hW hS => ?_) (fun E9 H locs q9 ce9 hres => by cases hres)
      cases hres
      refine W.eq (g2 := F0 m 35 ls (.int v7 :: [])) rfl ?_
      refine lv_if_ne (tgt := 53) hx hb dX5_canGoBack_35 (by decide) (fun c8 => ?_) (fun c8 => ?_)
      · replace hf := if_f c8 hf
        refine lv_iconst (v := 0) hx hb dX5_canGoBack_53 (by decide) ?_
        cases hf
        exact xret_i (ty := .boolean) F hr hlocks hS (by decide) rfl hW (Nat.le_of_ble_eq_true rfl) (Nat.le_of_ble_eq_true rfl) dX5_canGoBack_54
      · replace hf := if_t c8 hf
        refine lv_aload_n hx hb dX5_canGoBack_38 rfl (lv_at hl 0 rfl) ?_
        refine lv_aload_n hx hb dX5_canGoBack_39 rfl (lv_at hl 2 rfl) ?_
        refine xgetN (host := "TenantPlacement") F hT hW xuX4 (xm_T hj1 (by decide)) xce_11 rfl 0 (by decide) (List.mem_of_getElem? (i := 9) rfl) rfl rfl dX5_canGoBack_40 ?_
        obtain ⟨v9, hc11, hf⟩ := oB_go hf
        refine xcallV (n := 1) F hT hW hS (xm_S h3 (by decide)) xce_4 rfl (kX3_hasRoomBesidesStorage l hl0 G sh sc sr sl jq2 8 j1 h3 (by decide) (xm_T hj1 (by decide)) _ hc11) (xgV xw_574 xw_575 xw_576 xw_10 xw_577) rfl xd_X3_hasRoomBesidesStorage ⟨Nat.le_of_ble_eq_true rfl, Nat.le_of_ble_eq_true rfl⟩ rfl hl.1 rfl (Nat.le_of_ble_eq_true rfl) dX5_canGoBack_43 ⟨Nat.le_of_ble_eq_true rfl, Nat.le_of_ble_eq_true rfl⟩ (fun v9 H locs hres hW hS => ?_) (fun E9 H locs q9 ce9 hres => by cases hres)
        cases hres
        refine W.eq (g2 := F0 m 46 ls (.int v9 :: [])) rfl ?_
        refine lv_if_eq (tgt := 53) hx hb dX5_canGoBack_46 (by decide) (fun c10 => ?_) (fun c10 => ?_)
        · replace hf := if_t c10 hf
          refine lv_iconst (v := 0) hx hb dX5_canGoBack_53 (by decide) ?_
          cases hf
          exact xret_i (ty := .boolean) F hr hlocks hS (by decide) rfl hW (Nat.le_of_ble_eq_true rfl) (Nat.le_of_ble_eq_true rfl) dX5_canGoBack_54
        · replace hf := if_f c10 hf
          refine lv_iconst (v := 1) hx hb dX5_canGoBack_49 (by decide) ?_
          refine lv_goto (tgt := 54) hx hb dX5_canGoBack_50 (by decide) ?_
          cases hf
          exact xret_i (ty := .boolean) F hr hlocks hS (by decide) rfl hW (Nat.le_of_ble_eq_true rfl) (Nat.le_of_ble_eq_true rfl) dX5_canGoBack_54
abbrev rX5_knownTenant : Room := { frames := 6, cells := 1, slots := 6, locals := 90 }
abbrev zX5_knownTenant : List Cond := Cond.code yX5_knownTenant cX5_knownTenant 3 (some (.object "TenantPlacement$Tenant")) :: xB
theorem xd_X5_knownTenant : yX5_knownTenant.cls = RX5 ∧ yX5_knownTenant.cls ≠ "java/lang/invoke/MethodHandle" ∧ yX5_knownTenant.cls ≠ "java/lang/invoke/VarHandle" ∧ (parseMethodDescriptor yX5_knownTenant.desc).map (fun d => d.parameters.length) = some 1 := by decide +kernel
def fX5_knownTenant (nS : Nat) (nT : Nat) (a1 : Int32) (sc : xSC) : Option (String ⊕ Nat) := (if a1 < 0 then some (Sum.inl "java/lang/IndexOutOfBoundsException") else (if a1 < 6 then oG (xinb a1 6) (oN (xel nT a1) (some (Sum.inl "java/lang/IndexOutOfBoundsException")) (fun jq3 => some (Sum.inr jq3))) else some (Sum.inl "java/lang/IndexOutOfBoundsException")))
set_option maxHeartbeats 4000000 in
set_option maxRecDepth 100000 in
theorem kX5_knownTenant (l : Launch) (hl0 : l.stackTraces = false) (G : xG) (sh : xSh) (sc : xSC) (sr : xSR) (sl : xSL) (a1 : Int32) (r : (String ⊕ Nat)) (hf : fX5_knownTenant sh.2.1 sh.2.2 a1 sc = some r) : xMet l yX5_knownTenant zX5_knownTenant rX5_knownTenant G sh sc sr sl ([.ref (sh.1 0 0), .int a1] : List Value) (xvR sh 11 r) (xWd G sh sc sr sl) := by
  refine xMet_of (cc := cX5_knownTenant) (maxL := 3) (ret := (some (.object "TenantPlacement$Tenant"))) (by decide) (Nat.le_of_ble_eq_true rfl) ?_
  intro p e s m below meth c F hT hW hr hlocks htab ls hl
  have F : CallFix p m c cX5_knownTenant 3 s ([.ref (sh.1 0 0), .int a1] : List Value).toArray xB RX5 := F
  have hx := F.1
  have hb := F.2.1
  have hS : va_S (xA G) s.heap s.heap [] := va_S.rf
  have hl : lv_has ls 3 [(0, .ref (sh.1 0 0)), (1, .int a1)] := hl
  unfold fX5_knownTenant at hf
  refine lv_iload_n hx hb dX5_knownTenant_0 rfl (lv_at hl 1 rfl) ?_
  refine lv_if_lt (tgt := 13) hx hb dX5_knownTenant_1 (by decide) (fun c1 => ?_) (fun c1 => ?_)
  · replace hf := if_t c1 hf
    refine lv_null hx hb dX5_knownTenant_13 ?_
    refine lv_goto (tgt := 23) hx hb dX5_knownTenant_14 (by decide) ?_
    refine lv_astore_nN (lv' := [(2, .null), (0, .ref (sh.1 0 0)), (1, .int a1)]) hx hb dX5_knownTenant_23 rfl hl (by decide) rfl (fun ls hl => ?_)
    refine lv_aload_nN hx hb dX5_knownTenant_24 rfl (lv_at hl 0 rfl) ?_
    refine lv_ifnonnullN hx hb dX5_knownTenant_25 ?_
    cases hf
    refine xthrowW (cls := "java/lang/IndexOutOfBoundsException") (text := "there is no such tenant") (ik := 277) (is := 292) (ic := 281) F hT hW hS hl0 hlocks htab hl.1 xw_362 xw_12 (List.mem_of_getElem? (i := 14) rfl) xh_281 xb_281 (by decide +kernel) xg_281 (Nat.le_of_ble_eq_true rfl) (Nat.le_of_ble_eq_true rfl) (Nat.le_of_ble_eq_true rfl) (Nat.le_of_ble_eq_true rfl) ?_ ?_ (Nat.le_of_ble_eq_true rfl) (Nat.le_of_ble_eq_true rfl) dX5_knownTenant_28 dX5_knownTenant_31 dX5_knownTenant_32 dX5_knownTenant_35 dX5_knownTenant_38
    · rfl
    · exact fun H h => h
  · replace hf := if_f c1 hf
    refine lv_iload_n hx hb dX5_knownTenant_4 rfl (lv_at hl 1 rfl) ?_
    refine lv_aload_n hx hb dX5_knownTenant_5 rfl (lv_at hl 0 rfl) ?_
    refine xget F hT hW xuX5 (xm_fix (by decide)) xce_0 rfl 1 (by decide) xw_72 rfl rfl dX5_knownTenant_6 ?_
    refine xalenT F hT hW dX5_knownTenant_9 ?_
    refine lv_icmp_lt (tgt := 17) hx hb dX5_knownTenant_10 (by decide) (fun c2 => ?_) (fun c2 => ?_)
    · replace hf := if_t c2 hf
      refine lv_aload_n hx hb dX5_knownTenant_17 rfl (lv_at hl 0 rfl) ?_
      refine xget F hT hW xuX5 (xm_fix (by decide)) xce_0 rfl 1 (by decide) xw_72 rfl rfl dX5_knownTenant_18 ?_
      refine lv_iload_n hx hb dX5_knownTenant_21 rfl (lv_at hl 1 rfl) ?_
      obtain ⟨g5, hf⟩ := oG_go hf
      refine xaldT F hT hW (xinb_ok g5) dX5_knownTenant_22 ?_
      rcases o6 : xel sh.2.2 a1 with _ | jq3
      · replace hf := oN_0 o6 hf
        refine W.eq (g2 := F0 m 23 ls (.null :: [])) rfl ?_
        refine lv_astore_nN (lv' := [(2, .null), (0, .ref (sh.1 0 0)), (1, .int a1)]) hx hb dX5_knownTenant_23 rfl hl (by decide) rfl (fun ls hl => ?_)
        refine lv_aload_nN hx hb dX5_knownTenant_24 rfl (lv_at hl 0 rfl) ?_
        refine lv_ifnonnullN hx hb dX5_knownTenant_25 ?_
        cases hf
        refine xthrowW (cls := "java/lang/IndexOutOfBoundsException") (text := "there is no such tenant") (ik := 277) (is := 292) (ic := 281) F hT hW hS hl0 hlocks htab hl.1 xw_362 xw_12 (List.mem_of_getElem? (i := 14) rfl) xh_281 xb_281 (by decide +kernel) xg_281 (Nat.le_of_ble_eq_true rfl) (Nat.le_of_ble_eq_true rfl) (Nat.le_of_ble_eq_true rfl) (Nat.le_of_ble_eq_true rfl) ?_ ?_ (Nat.le_of_ble_eq_true rfl) (Nat.le_of_ble_eq_true rfl) dX5_knownTenant_28 dX5_knownTenant_31 dX5_knownTenant_32 dX5_knownTenant_35 dX5_knownTenant_38
        · rfl
        · exact fun H h => h
      · replace hf := oN_1 o6 hf
        have h4 : jq3 < sh.2.2 := xel_lt o6
        refine W.eq (g2 := F0 m 23 ls (.ref (sh.1 11 jq3) :: [])) rfl ?_
        refine lv_astore_n (lv' := [(2, .ref (sh.1 11 jq3)), (0, .ref (sh.1 0 0)), (1, .int a1)]) hx hb dX5_knownTenant_23 rfl hl (by decide) rfl (fun ls hl => ?_)
        refine lv_aload_n hx hb dX5_knownTenant_24 rfl (lv_at hl 0 rfl) ?_
        refine lv_ifnonnull (tgt := 39) hx hb dX5_knownTenant_25 (by decide) ?_
        refine lv_aload_n hx hb dX5_knownTenant_39 rfl (lv_at hl 0 rfl) ?_
        cases hf
        exact xret_a F hr (Or.inl ⟨_, rfl⟩) (Or.inr ⟨_, rfl⟩) hlocks hS rfl hW (Nat.le_of_ble_eq_true rfl) (Nat.le_of_ble_eq_true rfl) dX5_knownTenant_40
    · replace hf := if_f c2 hf
      refine lv_null hx hb dX5_knownTenant_13 ?_
      refine lv_goto (tgt := 23) hx hb dX5_knownTenant_14 (by decide) ?_
      refine lv_astore_nN (lv' := [(2, .null), (0, .ref (sh.1 0 0)), (1, .int a1)]) hx hb dX5_knownTenant_23 rfl hl (by decide) rfl (fun ls hl => ?_)
      refine lv_aload_nN hx hb dX5_knownTenant_24 rfl (lv_at hl 0 rfl) ?_
      refine lv_ifnonnullN hx hb dX5_knownTenant_25 ?_
      cases hf
      refine xthrowW (cls := "java/lang/IndexOutOfBoundsException") (text := "there is no such tenant") (ik := 277) (is := 292) (ic := 281) F hT hW hS hl0 hlocks htab hl.1 xw_362 xw_12 (List.mem_of_getElem? (i := 14) rfl) xh_281 xb_281 (by decide +kernel) xg_281 (Nat.le_of_ble_eq_true rfl) (Nat.le_of_ble_eq_true rfl) (Nat.le_of_ble_eq_true rfl) (Nat.le_of_ble_eq_true rfl) ?_ ?_ (Nat.le_of_ble_eq_true rfl) (Nat.le_of_ble_eq_true rfl) dX5_knownTenant_28 dX5_knownTenant_31 dX5_knownTenant_32 dX5_knownTenant_35 dX5_knownTenant_38
      · rfl
      · exact fun H h => h
abbrev rX5_goBack : Room := { frames := 4, cells := 0, slots := 0, locals := 90 }
abbrev zX5_goBack : List Cond := Cond.code yX5_goBack cX5_goBack 2 none :: xB
theorem xd_X5_goBack : yX5_goBack.cls = RX5 ∧ yX5_goBack.cls ≠ "java/lang/invoke/MethodHandle" ∧ yX5_goBack.cls ≠ "java/lang/invoke/VarHandle" ∧ (parseMethodDescriptor yX5_goBack.desc).map (fun d => d.parameters.length) = some 1 := by decide +kernel
def fX5_goBack (nS : Nat) (nT : Nat) (j1 : Nat) (sc : xSC) : Option (Unit × xSC) := oP (fX5_countUse nS nT j1 (-1) sc) (fun v1 s2 => oP (fX1_turnRound nS nT 9 j1 s2) (fun v3 s4 => oP (fX5_countUse nS nT j1 1 (xuC s4.1 11 j1 3 (s4.1 9 j1 2), s4.2)) (fun v5 s6 => some ((), (xuC s6.1 0 0 6 ((s6.1 0 0 6) + 1), s6.2)))))
set_option maxHeartbeats 4000000 in
set_option maxRecDepth 100000 in
theorem kX5_goBack (l : Launch) (hl0 : l.stackTraces = false) (G : xG) (sh : xSh) (sc : xSC) (sr : xSR) (sl : xSL) (j1 : Nat) (hj1 : j1 < sh.2.2) (r : (Unit × xSC)) (hf : fX5_goBack sh.2.1 sh.2.2 j1 sc = some r) : xMet l yX5_goBack zX5_goBack rX5_goBack G sh sc sr sl ([.ref (sh.1 0 0), .ref (sh.1 11 j1)] : List Value) (xvU (.inr r.1)) (xWd G sh r.2 sr sl) := by
  refine xMet_of (cc := cX5_goBack) (maxL := 2) (ret := none) (by decide) (Nat.le_of_ble_eq_true rfl) ?_
  intro p e s m below meth c F hT hW hr hlocks htab ls hl
  have F : CallFix p m c cX5_goBack 2 s ([.ref (sh.1 0 0), .ref (sh.1 11 j1)] : List Value).toArray xB RX5 := F
  have hx := F.1
  have hb := F.2.1
  have hS : va_S (xA G) s.heap s.heap [] := va_S.rf
  have hl : lv_has ls 2 [(0, .ref (sh.1 0 0)), (1, .ref (sh.1 11 j1))] := hl
  unfold fX5_goBack at hf
  refine lv_aload_n hx hb dX5_goBack_0 rfl (lv_at hl 0 rfl) ?_
  refine lv_aload_n hx hb dX5_goBack_1 rfl (lv_at hl 1 rfl) ?_
  refine lv_iconst (v := (-1)) hx hb dX5_goBack_2 (by decide) ?_
  obtain ⟨v1, s2, hc9, hf⟩ := oP_go hf
  refine xcallV (n := 2) F hT hW hS (xm_fix (by decide)) xce_0 rfl (kX5_countUse l hl0 G sh sc sr sl j1 (-1) hj1 _ hc9) (xgV xw_469 xw_471 xwp_4 xw_1 xw_472) rfl xd_X5_countUse ⟨Nat.le_of_ble_eq_true rfl, Nat.le_of_ble_eq_true rfl⟩ rfl hl.1 rfl (Nat.le_of_ble_eq_true rfl) dX5_goBack_3 ⟨Nat.le_of_ble_eq_true rfl, Nat.le_of_ble_eq_true rfl⟩ (fun v9 H locs hres hW hS => ?_) (fun E9 H locs q9 ce9 hres => by cases hres)
  cases hres
  refine W.eq (g2 := F0 m 6 ls ([])) rfl ?_
  refine lv_aload_n hx hb dX5_goBack_6 rfl (lv_at hl 1 rfl) ?_
  refine xgetN (host := "TenantPlacement") F hT hW xuX4 (xm_T hj1 (by decide)) xce_11 rfl 2 (by decide) (List.mem_of_getElem? (i := 13) rfl) rfl rfl dX5_goBack_7 ?_
  obtain ⟨v3, s4, hc8, hf⟩ := oP_go hf
  refine xcallV (n := 0) F hT hW hS (xm_T hj1 (by decide)) (xce_mv (by decide)) rfl (kX1_turnRound l hl0 G sh s2 sr sl 9 j1 (by decide) (xm_T hj1 (by decide)) _ hc8) (xgV xw_582 xw_583 xw_584 xw_3 xw_585) rfl xd_X1_turnRound ⟨Nat.le_of_ble_eq_true rfl, Nat.le_of_ble_eq_true rfl⟩ rfl hl.1 rfl (Nat.le_of_ble_eq_true rfl) dX5_goBack_10 ⟨Nat.le_of_ble_eq_true rfl, Nat.le_of_ble_eq_true rfl⟩ (fun v9 H locs hres hW hS => ?_) (fun E9 H locs q9 ce9 hres => by cases hres)
  cases hres
  refine W.eq (g2 := F0 m 13 ls ([])) rfl ?_
  refine lv_aload_n hx hb dX5_goBack_13 rfl (lv_at hl 1 rfl) ?_
  refine lv_aload_n hx hb dX5_goBack_14 rfl (lv_at hl 1 rfl) ?_
  refine xgetN (host := "TenantPlacement") F hT hW xuX4 (xm_T hj1 (by decide)) xce_11 rfl 2 (by decide) (List.mem_of_getElem? (i := 13) rfl) rfl rfl dX5_goBack_15 ?_
  refine xgetN (host := "TenantPlacement") F hT hW xuX1 (xm_T hj1 (by decide)) (xce_mv (by decide)) rfl 2 (by decide) (List.mem_of_getElem? (i := 19) rfl) rfl rfl dX5_goBack_18 ?_
  refine xputN (host := "TenantPlacement") (ty := .int) F hT hW hS xuX4 tyX4 tyX4_ok nmX4 (xm_T hj1 (by decide)) xce_11 rfl 3 (by decide) (List.mem_of_getElem? (i := 14) rfl) rfl rfl rfl rfl rfl (Nat.le_of_ble_eq_true rfl) xup_11_3 dX5_goBack_21 (fun H locs hW hS => ?_)
  refine lv_aload_n hx hb dX5_goBack_24 rfl (lv_at hl 0 rfl) ?_
  refine lv_aload_n hx hb dX5_goBack_25 rfl (lv_at hl 1 rfl) ?_
  refine lv_iconst (v := 1) hx hb dX5_goBack_26 (by decide) ?_
  obtain ⟨v5, s6, hc7, hf⟩ := oP_go hf
  refine xcallV (n := 2) F hT hW hS (xm_fix (by decide)) xce_0 rfl (kX5_countUse l hl0 G sh (xuC s4.1 11 j1 3 (s4.1 9 j1 2), s4.2) sr sl j1 1 hj1 _ hc7) (xgV xw_469 xw_471 xwp_4 xw_1 xw_472) rfl xd_X5_countUse ⟨Nat.le_of_ble_eq_true rfl, Nat.le_of_ble_eq_true rfl⟩ rfl hl.1 rfl (Nat.le_of_ble_eq_true rfl) dX5_goBack_27 ⟨Nat.le_of_ble_eq_true rfl, Nat.le_of_ble_eq_true rfl⟩ (fun v9 H locs hres hW hS => ?_) (fun E9 H locs q9 ce9 hres => by cases hres)
  cases hres
  refine W.eq (g2 := F0 m 30 ls ([])) rfl ?_
  refine lv_aload_n hx hb dX5_goBack_30 rfl (lv_at hl 0 rfl) ?_
  refine lv_dup hx hb dX5_goBack_31 rfl ?_
  refine xget F hT hW xuX5 (xm_fix (by decide)) xce_0 rfl 6 (by decide) xw_77 rfl rfl dX5_goBack_32 ?_
  refine lv_iconst (v := 1) hx hb dX5_goBack_35 (by decide) ?_
  refine lv_iadd hx hb dX5_goBack_36 ?_
  refine xput (ty := .int) F hT hW hS xuX5 tyX5 tyX5_ok nmX5 (xm_fix (by decide)) xce_0 rfl 6 (by decide) xw_77 rfl rfl rfl rfl rfl (Nat.le_of_ble_eq_true rfl) xup_0_6 dX5_goBack_37 (fun H locs hW hS => ?_)
  cases hf
  exact xret_v F hr hlocks hS rfl hW (Nat.le_of_ble_eq_true rfl) (Nat.le_of_ble_eq_true rfl) dX5_goBack_40
abbrev rX5_fail : Room := { frames := 7, cells := 2, slots := 12, locals := 112 }
abbrev zX5_fail : List Cond := Cond.code yX5_fail cX5_fail 3 (some .char) :: xB
theorem xd_X5_fail : yX5_fail.cls = RX5 ∧ yX5_fail.cls ≠ "java/lang/invoke/MethodHandle" ∧ yX5_fail.cls ≠ "java/lang/invoke/VarHandle" ∧ (parseMethodDescriptor yX5_fail.desc).map (fun d => d.parameters.length) = some 1 := by decide +kernel
def fX5_fail (nS : Nat) (nT : Nat) (a1 : Int32) (sc : xSC) : Option ((String ⊕ Int32) × xSC) := oT (fX5_knownTenant nS nT a1 sc) (fun E29 => some ((Sum.inl E29), sc)) (fun v1 => oG (decide (v1 < nT)) (oB (fX1_isUnderWay nS nT 9 v1 sc) (fun v4 => (if v4 = 0 then some ((Sum.inl "java/lang/IllegalStateException"), sc) else oB (fX1_isBeforeCutting nS nT 9 v1 sc) (fun v6 => (if v6 = 0 then oB (fX5_canGoBack nS nT v1 sc) (fun v8 => (if v8 = 0 then oP (fX1_cleanAnew nS nT 9 v1 sc) (fun v10 s11 => some ((Sum.inr 97), s11)) else oP (fX5_goBack nS nT v1 sc) (fun v13 s14 => some ((Sum.inr 98), s14)))) else oP (fX5_countUse nS nT v1 (-1) sc) (fun v17 s18 => oP (fX1_end nS nT 9 v1 s18) (fun v19 s20 => oP (fX5_countUse nS nT v1 1 s20) (fun v21 s22 => some ((Sum.inr 101), s22))))))))))
set_option maxHeartbeats 4000000 in
set_option maxRecDepth 100000 in
theorem kX5_fail (l : Launch) (hl0 : l.stackTraces = false) (G : xG) (sh : xSh) (sc : xSC) (sr : xSR) (sl : xSL) (a1 : Int32) (r : ((String ⊕ Int32) × xSC)) (hf : fX5_fail sh.2.1 sh.2.2 a1 sc = some r) : xMet l yX5_fail zX5_fail rX5_fail G sh sc sr sl ([.ref (sh.1 0 0), .int a1] : List Value) (xvI r.1) (xWd G sh r.2 sr sl) := by
  refine xMet_of (cc := cX5_fail) (maxL := 3) (ret := (some .char)) (by decide) (Nat.le_of_ble_eq_true rfl) ?_
  intro p e s m below meth c F hT hW hr hlocks htab ls hl
  have F : CallFix p m c cX5_fail 3 s ([.ref (sh.1 0 0), .int a1] : List Value).toArray xB RX5 := F
  have hx := F.1
  have hb := F.2.1
  have hS : va_S (xA G) s.heap s.heap [] := va_S.rf
  have hl : lv_has ls 3 [(0, .ref (sh.1 0 0)), (1, .int a1)] := hl
  unfold fX5_fail at hf
  refine lv_aload_n hx hb dX5_fail_0 rfl (lv_at hl 0 rfl) ?_
  refine lv_iload_n hx hb dX5_fail_1 rfl (lv_at hl 1 rfl) ?_
  rcases oT_go hf with ⟨v1, hc28, hf⟩ | ⟨E29, hc28, hf⟩
  · refine xcallV (n := 1) F hT hW hS (xm_fix (by decide)) xce_0 rfl (kX5_knownTenant l hl0 G sh sc sr sl a1  _ hc28) (xgV xw_497 xw_499 xwp_5 xw_1 xw_500) rfl xd_X5_knownTenant ⟨Nat.le_of_ble_eq_true rfl, Nat.le_of_ble_eq_true rfl⟩ rfl hl.1 rfl (Nat.le_of_ble_eq_true rfl) dX5_fail_2 ⟨Nat.le_of_ble_eq_true rfl, Nat.le_of_ble_eq_true rfl⟩ (fun v9 H locs hres hW hS => ?_) (fun E9 H locs q9 ce9 hres => by cases hres)
    cases hres
    refine W.eq (g2 := F0 m 5 ls (.ref (sh.1 11 v1) :: [])) rfl ?_
    obtain ⟨g3, hf⟩ := oG_go hf
    have h2 : v1 < sh.2.2 := of_decide_eq_true g3
    refine lv_astore_n (lv' := [(2, .ref (sh.1 11 v1)), (0, .ref (sh.1 0 0)), (1, .int a1)]) hx hb dX5_fail_5 rfl hl (by decide) rfl (fun ls hl => ?_)
    refine lv_aload_n hx hb dX5_fail_6 rfl (lv_at hl 0 rfl) ?_
    refine xgetN (host := "TenantPlacement") F hT hW xuX4 (xm_T h2 (by decide)) xce_11 rfl 2 (by decide) (List.mem_of_getElem? (i := 13) rfl) rfl rfl dX5_fail_7 ?_
    obtain ⟨v4, hc27, hf⟩ := oB_go hf
    refine xcallV (n := 0) F hT hW hS (xm_T h2 (by decide)) (xce_mv (by decide)) rfl (kX1_isUnderWay l hl0 G sh sc sr sl 9 v1 (by decide) (xm_T h2 (by decide)) _ hc27) (xgV xw_104 xw_105 xw_106 xw_3 xw_107) rfl xd_X1_isUnderWay ⟨Nat.le_of_ble_eq_true rfl, Nat.le_of_ble_eq_true rfl⟩ rfl hl.1 rfl (Nat.le_of_ble_eq_true rfl) dX5_fail_10 ⟨Nat.le_of_ble_eq_true rfl, Nat.le_of_ble_eq_true rfl⟩ (fun v9 H locs hres hW hS => ?_) (fun E9 H locs q9 ce9 hres => by cases hres)
    cases hres
    refine W.eq (g2 := F0 m 13 ls (.int v4 :: [])) rfl ?_
    refine lv_if_ne (tgt := 26) hx hb dX5_fail_13 (by decide) (fun c5 => ?_) (fun c5 => ?_)
    · replace hf := if_f c5 hf
      refine lv_aload_n hx hb dX5_fail_26 rfl (lv_at hl 0 rfl) ?_
      refine xgetN (host := "TenantPlacement") F hT hW xuX4 (xm_T h2 (by decide)) xce_11 rfl 2 (by decide) (List.mem_of_getElem? (i := 13) rfl) rfl rfl dX5_fail_27 ?_
      obtain ⟨v6, hc26, hf⟩ := oB_go hf
      refine xcallV (n := 0) F hT hW hS (xm_T h2 (by decide)) (xce_mv (by decide)) rfl (kX1_isBeforeCutting l hl0 G sh sc sr sl 9 v1 (by decide) (xm_T h2 (by decide)) _ hc26) (xgV xw_565 xw_482 xw_483 xw_3 xw_484) rfl xd_X1_isBeforeCutting ⟨Nat.le_of_ble_eq_true rfl, Nat.le_of_ble_eq_true rfl⟩ rfl hl.1 rfl (Nat.le_of_ble_eq_true rfl) dX5_fail_30 ⟨Nat.le_of_ble_eq_true rfl, Nat.le_of_ble_eq_true rfl⟩ (fun v9 H locs hres hW hS => ?_) (fun E9 H locs q9 ce9 hres => by cases hres)
      cases hres
      refine W.eq (g2 := F0 m 33 ls (.int v6 :: [])) rfl ?_
      refine lv_if_eq (tgt := 58) hx hb dX5_fail_33 (by decide) (fun c7 => ?_) (fun c7 => ?_)
      · replace hf := if_t c7 hf
        refine lv_aload_n hx hb dX5_fail_58 rfl (lv_at hl 1 rfl) ?_
        refine lv_aload_n hx hb dX5_fail_59 rfl (lv_at hl 0 rfl) ?_
        obtain ⟨v8, hc16, hf⟩ := oB_go hf
        refine xcallV (n := 1) F hT hW hS (xm_fix (by decide)) xce_0 rfl (kX5_canGoBack l hl0 G sh sc sr sl v1 h2 _ hc16) (xgV xw_570 xw_572 xwp_7 xw_1 xw_573) rfl xd_X5_canGoBack ⟨Nat.le_of_ble_eq_true rfl, Nat.le_of_ble_eq_true rfl⟩ rfl hl.1 rfl (Nat.le_of_ble_eq_true rfl) dX5_fail_60 ⟨Nat.le_of_ble_eq_true rfl, Nat.le_of_ble_eq_true rfl⟩ (fun v9 H locs hres hW hS => ?_) (fun E9 H locs q9 ce9 hres => by cases hres)
        cases hres
        refine W.eq (g2 := F0 m 63 ls (.int v8 :: [])) rfl ?_
        refine lv_if_eq (tgt := 74) hx hb dX5_fail_63 (by decide) (fun c9 => ?_) (fun c9 => ?_)
        · replace hf := if_t c9 hf
          refine lv_aload_n hx hb dX5_fail_74 rfl (lv_at hl 0 rfl) ?_
          refine xgetN (host := "TenantPlacement") F hT hW xuX4 (xm_T h2 (by decide)) xce_11 rfl 2 (by decide) (List.mem_of_getElem? (i := 13) rfl) rfl rfl dX5_fail_75 ?_
          obtain ⟨v10, s11, hc12, hf⟩ := oP_go hf
          refine xcallV (n := 0) F hT hW hS (xm_T h2 (by decide)) (xce_mv (by decide)) rfl (kX1_cleanAnew l hl0 G sh sc sr sl 9 v1 (by decide) (xm_T h2 (by decide)) _ hc12) (xgV xw_590 xw_587 xw_588 xw_3 xw_589) rfl xd_X1_cleanAnew ⟨Nat.le_of_ble_eq_true rfl, Nat.le_of_ble_eq_true rfl⟩ rfl hl.1 rfl (Nat.le_of_ble_eq_true rfl) dX5_fail_78 ⟨Nat.le_of_ble_eq_true rfl, Nat.le_of_ble_eq_true rfl⟩ (fun v9 H locs hres hW hS => ?_) (fun E9 H locs q9 ce9 hres => by cases hres)
          cases hres
          refine W.eq (g2 := F0 m 81 ls ([])) rfl ?_
          refine lv_bipush (v := 97) hx hb dX5_fail_81 (by decide) ?_
          cases hf
          exact xret_i (ty := .char) F hr hlocks hS (by decide) rfl hW (Nat.le_of_ble_eq_true rfl) (Nat.le_of_ble_eq_true rfl) dX5_fail_83
        · replace hf := if_f c9 hf
          refine lv_aload_n hx hb dX5_fail_66 rfl (lv_at hl 1 rfl) ?_
          refine lv_aload_n hx hb dX5_fail_67 rfl (lv_at hl 0 rfl) ?_
          obtain ⟨v13, s14, hc15, hf⟩ := oP_go hf
          refine xcallV (n := 1) F hT hW hS (xm_fix (by decide)) xce_0 rfl (kX5_goBack l hl0 G sh sc sr sl v1 h2 _ hc15) (xgV xw_578 xw_580 xwp_8 xw_1 xw_581) rfl xd_X5_goBack ⟨Nat.le_of_ble_eq_true rfl, Nat.le_of_ble_eq_true rfl⟩ rfl hl.1 rfl (Nat.le_of_ble_eq_true rfl) dX5_fail_68 ⟨Nat.le_of_ble_eq_true rfl, Nat.le_of_ble_eq_true rfl⟩ (fun v9 H locs hres hW hS => ?_) (fun E9 H locs q9 ce9 hres => by cases hres)
          cases hres
          refine W.eq (g2 := F0 m 71 ls ([])) rfl ?_
          refine lv_bipush (v := 98) hx hb dX5_fail_71 (by decide) ?_
          cases hf
          exact xret_i (ty := .char) F hr hlocks hS (by decide) rfl hW (Nat.le_of_ble_eq_true rfl) (Nat.le_of_ble_eq_true rfl) dX5_fail_73
      · replace hf := if_f c7 hf
        refine lv_aload_n hx hb dX5_fail_36 rfl (lv_at hl 1 rfl) ?_
        refine lv_aload_n hx hb dX5_fail_37 rfl (lv_at hl 0 rfl) ?_
        refine lv_iconst (v := (-1)) hx hb dX5_fail_38 (by decide) ?_
        obtain ⟨v17, s18, hc25, hf⟩ := oP_go hf
        refine xcallV (n := 2) F hT hW hS (xm_fix (by decide)) xce_0 rfl (kX5_countUse l hl0 G sh sc sr sl v1 (-1) h2 _ hc25) (xgV xw_469 xw_471 xwp_4 xw_1 xw_472) rfl xd_X5_countUse ⟨Nat.le_of_ble_eq_true rfl, Nat.le_of_ble_eq_true rfl⟩ rfl hl.1 rfl (Nat.le_of_ble_eq_true rfl) dX5_fail_39 ⟨Nat.le_of_ble_eq_true rfl, Nat.le_of_ble_eq_true rfl⟩ (fun v9 H locs hres hW hS => ?_) (fun E9 H locs q9 ce9 hres => by cases hres)
        cases hres
        refine W.eq (g2 := F0 m 42 ls ([])) rfl ?_
        refine lv_aload_n hx hb dX5_fail_42 rfl (lv_at hl 0 rfl) ?_
        refine xgetN (host := "TenantPlacement") F hT hW xuX4 (xm_T h2 (by decide)) xce_11 rfl 2 (by decide) (List.mem_of_getElem? (i := 13) rfl) rfl rfl dX5_fail_43 ?_
        obtain ⟨v19, s20, hc24, hf⟩ := oP_go hf
        refine xcallV (n := 0) F hT hW hS (xm_T h2 (by decide)) (xce_mv (by decide)) rfl (kX1_end l hl0 G sh s18 sr sl 9 v1 (by decide) (xm_T h2 (by decide)) _ hc24) (xgV xw_566 xw_567 xw_568 xw_3 xw_569) rfl xd_X1_end ⟨Nat.le_of_ble_eq_true rfl, Nat.le_of_ble_eq_true rfl⟩ rfl hl.1 rfl (Nat.le_of_ble_eq_true rfl) dX5_fail_46 ⟨Nat.le_of_ble_eq_true rfl, Nat.le_of_ble_eq_true rfl⟩ (fun v9 H locs hres hW hS => ?_) (fun E9 H locs q9 ce9 hres => by cases hres)
        cases hres
        refine W.eq (g2 := F0 m 49 ls ([])) rfl ?_
        refine lv_aload_n hx hb dX5_fail_49 rfl (lv_at hl 1 rfl) ?_
        refine lv_aload_n hx hb dX5_fail_50 rfl (lv_at hl 0 rfl) ?_
        refine lv_iconst (v := 1) hx hb dX5_fail_51 (by decide) ?_
        obtain ⟨v21, s22, hc23, hf⟩ := oP_go hf
        refine xcallV (n := 2) F hT hW hS (xm_fix (by decide)) xce_0 rfl (kX5_countUse l hl0 G sh s20 sr sl v1 1 h2 _ hc23) (xgV xw_469 xw_471 xwp_4 xw_1 xw_472) rfl xd_X5_countUse ⟨Nat.le_of_ble_eq_true rfl, Nat.le_of_ble_eq_true rfl⟩ rfl hl.1 rfl (Nat.le_of_ble_eq_true rfl) dX5_fail_52 ⟨Nat.le_of_ble_eq_true rfl, Nat.le_of_ble_eq_true rfl⟩ (fun v9 H locs hres hW hS => ?_) (fun E9 H locs q9 ce9 hres => by cases hres)
        cases hres
        refine W.eq (g2 := F0 m 55 ls ([])) rfl ?_
        refine lv_bipush (v := 101) hx hb dX5_fail_55 (by decide) ?_
        cases hf
        exact xret_i (ty := .char) F hr hlocks hS (by decide) rfl hW (Nat.le_of_ble_eq_true rfl) (Nat.le_of_ble_eq_true rfl) dX5_fail_57
    · replace hf := if_t c5 hf
      cases hf
      refine xthrow (cls := "java/lang/IllegalStateException") (text := "the tenant has no move") (ik := 43) (is := 172) (ic := 47) F hT hW hS hl0 hlocks htab hl.1 xw_261 xw_9 (List.mem_of_getElem? (i := 8) rfl) xh_47 xb_47 (by decide +kernel) xg_47 (Nat.le_of_ble_eq_true rfl) (Nat.le_of_ble_eq_true rfl) (Nat.le_of_ble_eq_true rfl) (Nat.le_of_ble_eq_true rfl) ?_ ?_ (Nat.le_of_ble_eq_true rfl) (Nat.le_of_ble_eq_true rfl) dX5_fail_16 dX5_fail_19 dX5_fail_20 dX5_fail_22 dX5_fail_25
      · rfl
      · exact fun H h => h
  · refine xcallV (n := 1) F hT hW hS (xm_fix (by decide)) xce_0 rfl (kX5_knownTenant l hl0 G sh sc sr sl a1  _ hc28) (xgV xw_497 xw_499 xwp_5 xw_1 xw_500) rfl xd_X5_knownTenant ⟨Nat.le_of_ble_eq_true rfl, Nat.le_of_ble_eq_true rfl⟩ rfl hl.1 rfl (Nat.le_of_ble_eq_true rfl) dX5_fail_2 ⟨Nat.le_of_ble_eq_true rfl, Nat.le_of_ble_eq_true rfl⟩ (fun v9 H locs hres => by cases hres) (fun E9 H locs q9 ce9 hres hW hS hcell hv9 hcl => ?_)
    cases hres
    cases hf
    exact xout htab hlocks hS rfl hW hcell hv9 hcl (Nat.le_of_ble_eq_true rfl) (Nat.le_of_ble_eq_true rfl)
abbrev rX5_requirePlan : Room := { frames := 6, cells := 1, slots := 6, locals := 90 }
abbrev zX5_requirePlan : List Cond := Cond.code yX5_requirePlan cX5_requirePlan 1 none :: xB
theorem xd_X5_requirePlan : yX5_requirePlan.cls = RX5 ∧ yX5_requirePlan.cls ≠ "java/lang/invoke/MethodHandle" ∧ yX5_requirePlan.cls ≠ "java/lang/invoke/VarHandle" ∧ (parseMethodDescriptor yX5_requirePlan.desc).map (fun d => d.parameters.length) = some 1 := by decide +kernel
def fX5_requirePlan (nS : Nat) (nT : Nat) (a1 : Int32) (sc : xSC) : Option (String ⊕ Unit) := (if a1 = 7 then some (Sum.inl "java/util/NoSuchElementException") else some (Sum.inr ()))
set_option maxHeartbeats 4000000 in
set_option maxRecDepth 100000 in
theorem kX5_requirePlan (l : Launch) (hl0 : l.stackTraces = false) (G : xG) (sh : xSh) (sc : xSC) (sr : xSR) (sl : xSL) (a1 : Int32) (r : (String ⊕ Unit)) (hf : fX5_requirePlan sh.2.1 sh.2.2 a1 sc = some r) : xMet l yX5_requirePlan zX5_requirePlan rX5_requirePlan G sh sc sr sl ([.int a1] : List Value) (xvU r) (xWd G sh sc sr sl) := by
  refine xMet_of (cc := cX5_requirePlan) (maxL := 1) (ret := none) (by decide) (Nat.le_of_ble_eq_true rfl) ?_
  intro p e s m below meth c F hT hW hr hlocks htab ls hl
  have F : CallFix p m c cX5_requirePlan 1 s ([.int a1] : List Value).toArray xB RX5 := F
  have hx := F.1
  have hb := F.2.1
  have hS : va_S (xA G) s.heap s.heap [] := va_S.rf
  have hl : lv_has ls 1 [(0, .int a1)] := hl
  unfold fX5_requirePlan at hf
  refine lv_iload_n hx hb dX5_requirePlan_0 rfl (lv_at hl 0 rfl) ?_
  refine lv_bipush (v := 7) hx hb dX5_requirePlan_1 (by decide) ?_
  refine lv_icmp_ne (tgt := 17) hx hb dX5_requirePlan_3 (by decide) (fun c1 => ?_) (fun c1 => ?_)
  · replace hf := if_f c1 hf
    cases hf
    exact xret_v F hr hlocks hS rfl hW (Nat.le_of_ble_eq_true rfl) (Nat.le_of_ble_eq_true rfl) dX5_requirePlan_17
  · replace hf := if_t c1 hf
    cases hf
    refine xthrowX (cls := "java/util/NoSuchElementException") (text := "no plan is sound") (ik := 282) (is := 284) (ic := 286) F hT hW hS hl0 hlocks htab hl.1 rfl rfl xw_651 xw_18 (List.mem_of_getElem? (i := 12) rfl) (Nat.le_of_ble_eq_true rfl) (Nat.le_of_ble_eq_true rfl) (Nat.le_of_ble_eq_true rfl) (Nat.le_of_ble_eq_true rfl) ?_ ?_ (Nat.le_of_ble_eq_true rfl) (Nat.le_of_ble_eq_true rfl) dX5_requirePlan_6 dX5_requirePlan_9 (Or.inr ⟨dX5_requirePlan_10, dX5_requirePlan_13, dX5_requirePlan_16⟩)
    · rfl
    · exact fun H h => h
abbrev rX5_hourOfDay : Room := { frames := 1, cells := 0, slots := 0, locals := 22 }
abbrev zX5_hourOfDay : List Cond := Cond.code yX5_hourOfDay cX5_hourOfDay 1 (some .int) :: xB
theorem xd_X5_hourOfDay : yX5_hourOfDay.cls = RX5 ∧ yX5_hourOfDay.cls ≠ "java/lang/invoke/MethodHandle" ∧ yX5_hourOfDay.cls ≠ "java/lang/invoke/VarHandle" ∧ (parseMethodDescriptor yX5_hourOfDay.desc).map (fun d => d.parameters.length) = some 1 := by decide +kernel
def fX5_hourOfDay (nS : Nat) (nT : Nat) (a1 : Int32) (sc : xSC) : Option Int32 := oB (fJ9_floorMod_7cf53 a1 24) (fun v1 => some v1)
set_option maxHeartbeats 4000000 in
set_option maxRecDepth 100000 in
theorem kX5_hourOfDay (l : Launch) (hl0 : l.stackTraces = false) (G : xG) (sh : xSh) (sc : xSC) (sr : xSR) (sl : xSL) (a1 : Int32) (r : Int32) (hf : fX5_hourOfDay sh.2.1 sh.2.2 a1 sc = some r) : xMet l yX5_hourOfDay zX5_hourOfDay rX5_hourOfDay G sh sc sr sl ([.int a1] : List Value) (xvI (.inr r)) (xWd G sh sc sr sl) := by
  refine xMet_of (cc := cX5_hourOfDay) (maxL := 1) (ret := (some .int)) (by decide) (Nat.le_of_ble_eq_true rfl) ?_
  intro p e s m below meth c F hT hW hr hlocks htab ls hl
  have F : CallFix p m c cX5_hourOfDay 1 s ([.int a1] : List Value).toArray xB RX5 := F
  have hx := F.1
  have hb := F.2.1
  have hS : va_S (xA G) s.heap s.heap [] := va_S.rf
  have hl : lv_has ls 1 [(0, .int a1)] := hl
  unfold fX5_hourOfDay at hf
  refine lv_iload_n hx hb dX5_hourOfDay_0 rfl (lv_at hl 0 rfl) ?_
  refine lv_bipush (v := 24) hx hb dX5_hourOfDay_1 (by decide) ?_
  obtain ⟨v1, hc2, hf⟩ := oB_go hf
  refine xcallS (n := 2) F hT hW hS (kJ9_floorMod_7cf53 l hl0 G sh sc sr sl a1 24  _ hc2) (xgS xw_617 xw_514 xw_17 xw_515) rfl xd_J9_floorMod_7cf53.2 ⟨Nat.le_of_ble_eq_true rfl, Nat.le_of_ble_eq_true rfl⟩ rfl hl.1 rfl (Nat.le_of_ble_eq_true rfl) dX5_hourOfDay_3 ⟨Nat.le_of_ble_eq_true rfl, Nat.le_of_ble_eq_true rfl⟩ (fun v9 H locs hres hW hS => ?_) (fun E9 H locs q9 ce9 hres => by cases hres)
  cases hres
  refine W.eq (g2 := F0 m 6 ls (.int v1 :: [])) rfl ?_
  cases hf
  exact xret_i (ty := .int) F hr hlocks hS rfl rfl hW (Nat.le_of_ble_eq_true rfl) (Nat.le_of_ble_eq_true rfl) dX5_hourOfDay_6
abbrev rX5_goOn : Room := { frames := 4, cells := 0, slots := 0, locals := 90 }
abbrev zX5_goOn : List Cond := Cond.code yX5_goOn cX5_goOn 3 (some .boolean) :: xB
theorem xd_X5_goOn : yX5_goOn.cls = RX5 ∧ yX5_goOn.cls ≠ "java/lang/invoke/MethodHandle" ∧ yX5_goOn.cls ≠ "java/lang/invoke/VarHandle" ∧ (parseMethodDescriptor yX5_goOn.desc).map (fun d => d.parameters.length) = some 1 := by decide +kernel
def fX5_goOn (nS : Nat) (nT : Nat) (j1 : Nat) (sc : xSC) : Option (Int32 × xSC) := oP (fX5_countUse nS nT j1 (-1) sc) (fun v1 s2 => oB (fX5_hourOfDay nS nT (s2.1 0 0 5) s2) (fun v3 => oB (fX4_isInWindow nS nT j1 v3 s2) (fun v4 => oP (fX1_goOn nS nT 9 j1 v4 s2) (fun v5 s6 => (if v5 = 0 then oP (fX5_countUse nS nT j1 1 s6) (fun v8 s9 => oG (xnb .boolean v5) (some (v5, s9))) else oP (fX5_countUse nS nT j1 1 (xuC s6.1 11 j1 3 (s6.1 9 j1 2), s6.2)) (fun v12 s13 => oG (xnb .boolean v5) (some (v5, s13))))))))
set_option maxHeartbeats 4000000 in
set_option maxRecDepth 100000 in
theorem kX5_goOn (l : Launch) (hl0 : l.stackTraces = false) (G : xG) (sh : xSh) (sc : xSC) (sr : xSR) (sl : xSL) (j1 : Nat) (hj1 : j1 < sh.2.2) (r : (Int32 × xSC)) (hf : fX5_goOn sh.2.1 sh.2.2 j1 sc = some r) : xMet l yX5_goOn zX5_goOn rX5_goOn G sh sc sr sl ([.ref (sh.1 0 0), .ref (sh.1 11 j1)] : List Value) (xvI (.inr r.1)) (xWd G sh r.2 sr sl) := by
  refine xMet_of (cc := cX5_goOn) (maxL := 3) (ret := (some .boolean)) (by decide) (Nat.le_of_ble_eq_true rfl) ?_
  intro p e s m below meth c F hT hW hr hlocks htab ls hl
  have F : CallFix p m c cX5_goOn 3 s ([.ref (sh.1 0 0), .ref (sh.1 11 j1)] : List Value).toArray xB RX5 := F
  have hx := F.1
  have hb := F.2.1
  have hS : va_S (xA G) s.heap s.heap [] := va_S.rf
  have hl : lv_has ls 3 [(0, .ref (sh.1 0 0)), (1, .ref (sh.1 11 j1))] := hl
  unfold fX5_goOn at hf
  refine lv_aload_n hx hb dX5_goOn_0 rfl (lv_at hl 0 rfl) ?_
  refine lv_aload_n hx hb dX5_goOn_1 rfl (lv_at hl 1 rfl) ?_
  refine lv_iconst (v := (-1)) hx hb dX5_goOn_2 (by decide) ?_
  obtain ⟨v1, s2, hc19, hf⟩ := oP_go hf
  refine xcallV (n := 2) F hT hW hS (xm_fix (by decide)) xce_0 rfl (kX5_countUse l hl0 G sh sc sr sl j1 (-1) hj1 _ hc19) (xgV xw_469 xw_471 xwp_4 xw_1 xw_472) rfl xd_X5_countUse ⟨Nat.le_of_ble_eq_true rfl, Nat.le_of_ble_eq_true rfl⟩ rfl hl.1 rfl (Nat.le_of_ble_eq_true rfl) dX5_goOn_3 ⟨Nat.le_of_ble_eq_true rfl, Nat.le_of_ble_eq_true rfl⟩ (fun v9 H locs hres hW hS => ?_) (fun E9 H locs q9 ce9 hres => by cases hres)
  cases hres
  refine W.eq (g2 := F0 m 6 ls ([])) rfl ?_
  refine lv_aload_n hx hb dX5_goOn_6 rfl (lv_at hl 1 rfl) ?_
  refine xgetN (host := "TenantPlacement") F hT hW xuX4 (xm_T hj1 (by decide)) xce_11 rfl 2 (by decide) (List.mem_of_getElem? (i := 13) rfl) rfl rfl dX5_goOn_7 ?_
  refine lv_aload_n hx hb dX5_goOn_10 rfl (lv_at hl 1 rfl) ?_
  refine lv_aload_n hx hb dX5_goOn_11 rfl (lv_at hl 0 rfl) ?_
  refine xget F hT hW xuX5 (xm_fix (by decide)) xce_0 rfl 5 (by decide) xw_76 rfl rfl dX5_goOn_12 ?_
  obtain ⟨v3, hc18, hf⟩ := oB_go hf
  refine xcallS (n := 1) F hT hW hS (kX5_hourOfDay l hl0 G sh s2 sr sl (s2.1 0 0 5)  _ hc18) (xgS xw_614 xw_615 xw_1 xw_616) rfl xd_X5_hourOfDay.2 ⟨Nat.le_of_ble_eq_true rfl, Nat.le_of_ble_eq_true rfl⟩ rfl hl.1 rfl (Nat.le_of_ble_eq_true rfl) dX5_goOn_15 ⟨Nat.le_of_ble_eq_true rfl, Nat.le_of_ble_eq_true rfl⟩ (fun v9 H locs hres hW hS => ?_) (fun E9 H locs q9 ce9 hres => by cases hres)
  cases hres
  refine W.eq (g2 := F0 m 18 ls (.int v3 :: .ref (sh.1 11 j1) :: .ref (sh.1 9 j1) :: [])) rfl ?_
  obtain ⟨v4, hc17, hf⟩ := oB_go hf
  refine xcallV (n := 1) F hT hW hS (xm_T hj1 (by decide)) xce_11 rfl (kX4_isInWindow l hl0 G sh s2 sr sl j1 v3 hj1 _ hc17) (xgV xw_618 xw_619 xw_620 xw_16 xw_621) rfl xd_X4_isInWindow ⟨Nat.le_of_ble_eq_true rfl, Nat.le_of_ble_eq_true rfl⟩ rfl hl.1 rfl (Nat.le_of_ble_eq_true rfl) dX5_goOn_18 ⟨Nat.le_of_ble_eq_true rfl, Nat.le_of_ble_eq_true rfl⟩ (fun v9 H locs hres hW hS => ?_) (fun E9 H locs q9 ce9 hres => by cases hres)
  cases hres
  refine W.eq (g2 := F0 m 21 ls (.int v4 :: .ref (sh.1 9 j1) :: [])) rfl ?_
  obtain ⟨v5, s6, hc16, hf⟩ := oP_go hf
  refine xcallV (n := 1) F hT hW hS (xm_T hj1 (by decide)) (xce_mv (by decide)) rfl (kX1_goOn l hl0 G sh s2 sr sl 9 j1 v4 (by decide) (xm_T hj1 (by decide)) _ hc16) (xgV xw_623 xw_624 xw_625 xw_3 xw_626) rfl xd_X1_goOn ⟨Nat.le_of_ble_eq_true rfl, Nat.le_of_ble_eq_true rfl⟩ rfl hl.1 rfl (Nat.le_of_ble_eq_true rfl) dX5_goOn_21 ⟨Nat.le_of_ble_eq_true rfl, Nat.le_of_ble_eq_true rfl⟩ (fun v9 H locs hres hW hS => ?_) (fun E9 H locs q9 ce9 hres => by cases hres)
  cases hres
  refine W.eq (g2 := F0 m 24 ls (.int v5 :: [])) rfl ?_
  refine lv_istore_n (lv' := [(2, .int v5), (0, .ref (sh.1 0 0)), (1, .ref (sh.1 11 j1))]) hx hb dX5_goOn_24 rfl hl (by decide) rfl (fun ls hl => ?_)
  refine lv_iload_n hx hb dX5_goOn_25 rfl (lv_at hl 0 rfl) ?_
  refine lv_if_eq (tgt := 40) hx hb dX5_goOn_26 (by decide) (fun c7 => ?_) (fun c7 => ?_)
  · replace hf := if_t c7 hf
    refine lv_aload_n hx hb dX5_goOn_40 rfl (lv_at hl 1 rfl) ?_
    refine lv_aload_n hx hb dX5_goOn_41 rfl (lv_at hl 2 rfl) ?_
    refine lv_iconst (v := 1) hx hb dX5_goOn_42 (by decide) ?_
    obtain ⟨v8, s9, hc11, hf⟩ := oP_go hf
    refine xcallV (n := 2) F hT hW hS (xm_fix (by decide)) xce_0 rfl (kX5_countUse l hl0 G sh s6 sr sl j1 1 hj1 _ hc11) (xgV xw_469 xw_471 xwp_4 xw_1 xw_472) rfl xd_X5_countUse ⟨Nat.le_of_ble_eq_true rfl, Nat.le_of_ble_eq_true rfl⟩ rfl hl.1 rfl (Nat.le_of_ble_eq_true rfl) dX5_goOn_43 ⟨Nat.le_of_ble_eq_true rfl, Nat.le_of_ble_eq_true rfl⟩ (fun v9 H locs hres hW hS => ?_) (fun E9 H locs q9 ce9 hres => by cases hres)
    cases hres
    refine W.eq (g2 := F0 m 46 ls ([])) rfl ?_
    refine lv_iload_n hx hb dX5_goOn_46 rfl (lv_at hl 0 rfl) ?_
    obtain ⟨g10, hf⟩ := oG_go hf
    cases hf
    exact xret_i (ty := .boolean) F hr hlocks hS (xnb_ok g10).1 rfl hW (Nat.le_of_ble_eq_true rfl) (Nat.le_of_ble_eq_true rfl) dX5_goOn_47
  · replace hf := if_f c7 hf
    refine lv_aload_n hx hb dX5_goOn_29 rfl (lv_at hl 2 rfl) ?_
    refine lv_aload_n hx hb dX5_goOn_30 rfl (lv_at hl 2 rfl) ?_
    refine xgetN (host := "TenantPlacement") F hT hW xuX4 (xm_T hj1 (by decide)) xce_11 rfl 2 (by decide) (List.mem_of_getElem? (i := 13) rfl) rfl rfl dX5_goOn_31 ?_
    refine xgetN (host := "TenantPlacement") F hT hW xuX1 (xm_T hj1 (by decide)) (xce_mv (by decide)) rfl 2 (by decide) (List.mem_of_getElem? (i := 19) rfl) rfl rfl dX5_goOn_34 ?_
    refine xputN (host := "TenantPlacement") (ty := .int) F hT hW hS xuX4 tyX4 tyX4_ok nmX4 (xm_T hj1 (by decide)) xce_11 rfl 3 (by decide) (List.mem_of_getElem? (i := 14) rfl) rfl rfl rfl rfl rfl (Nat.le_of_ble_eq_true rfl) xup_11_3 dX5_goOn_37 (fun H locs hW hS => ?_)
    refine lv_aload_n hx hb dX5_goOn_40 rfl (lv_at hl 1 rfl) ?_
    refine lv_aload_n hx hb dX5_goOn_41 rfl (lv_at hl 2 rfl) ?_
    refine lv_iconst (v := 1) hx hb dX5_goOn_42 (by decide) ?_
    obtain ⟨v12, s13, hc15, hf⟩ := oP_go hf
    refine xcallV (n := 2) F hT hW hS (xm_fix (by decide)) xce_0 rfl (kX5_countUse l hl0 G sh (xuC s6.1 11 j1 3 (s6.1 9 j1 2), s6.2) sr sl j1 1 hj1 _ hc15) (xgV xw_469 xw_471 xwp_4 xw_1 xw_472) rfl xd_X5_countUse ⟨Nat.le_of_ble_eq_true rfl, Nat.le_of_ble_eq_true rfl⟩ rfl hl.1 rfl (Nat.le_of_ble_eq_true rfl) dX5_goOn_43 ⟨Nat.le_of_ble_eq_true rfl, Nat.le_of_ble_eq_true rfl⟩ (fun v9 H locs hres hW hS => ?_) (fun E9 H locs q9 ce9 hres => by cases hres)
    cases hres
    refine W.eq (g2 := F0 m 46 ls ([])) rfl ?_
    refine lv_iload_n hx hb dX5_goOn_46 rfl (lv_at hl 0 rfl) ?_
    obtain ⟨g14, hf⟩ := oG_go hf
    cases hf
    exact xret_i (ty := .boolean) F hr hlocks hS (xnb_ok g14).1 rfl hW (Nat.le_of_ble_eq_true rfl) (Nat.le_of_ble_eq_true rfl) dX5_goOn_47
abbrev rX5_goOnWithMoves : Room := { frames := 5, cells := 0, slots := 0, locals := 112 }
abbrev zX5_goOnWithMoves : List Cond := Cond.code yX5_goOnWithMoves cX5_goOnWithMoves 6 (some .int) :: xB
theorem xd_X5_goOnWithMoves : yX5_goOnWithMoves.cls = RX5 ∧ yX5_goOnWithMoves.cls ≠ "java/lang/invoke/MethodHandle" ∧ yX5_goOnWithMoves.cls ≠ "java/lang/invoke/VarHandle" ∧ (parseMethodDescriptor yX5_goOnWithMoves.desc).map (fun d => d.parameters.length) = some 0 := by decide +kernel
def fX5_goOnWithMoves_K1 (x1L1 : Int32) (x4L1 : Int32) (scL1 : xSC) : Option (Int32 × xSC) := some (x1L1, (xuC scL1.1 0 0 6 ((scL1.1 0 0 6) + x1L1), scL1.2))
def fX5_goOnWithMoves_L1 (nS : Nat) (nT : Nat) (k_L1 : Int32 → Int32 → xSC → Option (Int32 × xSC)) : Nat → Int32 → Int32 → xSC → Option (Int32 × xSC)
  | 0, _, _, _ => none
  | n + 1, x1L1, x4L1, scL1 => (if 6 ≤ x4L1 then k_L1 x1L1 x4L1 scL1 else oG (xinb x4L1 6) (oN (xel nT x4L1) ((fX5_goOnWithMoves_L1 nS nT k_L1 n) x1L1 (x4L1 + 1) scL1) (fun jq2 => oB (fX1_isUnderWay nS nT 9 jq2 scL1) (fun v6 => (if v6 = 0 then (fX5_goOnWithMoves_L1 nS nT k_L1 n) x1L1 (x4L1 + 1) scL1 else oP (fX5_goOn nS nT jq2 scL1) (fun v8 s9 => (if v8 = 0 then (fX5_goOnWithMoves_L1 nS nT k_L1 n) x1L1 (x4L1 + 1) s9 else (fX5_goOnWithMoves_L1 nS nT k_L1 n) (x1L1 + 1) (x4L1 + 1) s9)))))))
def fX5_goOnWithMoves (nS : Nat) (nT : Nat) (sc : xSC) : Option (Int32 × xSC) := fX5_goOnWithMoves_L1 nS nT (fX5_goOnWithMoves_K1) 64 0 0 sc
set_option maxHeartbeats 4000000 in
set_option maxRecDepth 100000 in
theorem kX5_goOnWithMoves (l : Launch) (hl0 : l.stackTraces = false) (G : xG) (sh : xSh) (sc : xSC) (sr : xSR) (sl : xSL) (r : (Int32 × xSC)) (hf : fX5_goOnWithMoves sh.2.1 sh.2.2 sc = some r) : xMet l yX5_goOnWithMoves zX5_goOnWithMoves rX5_goOnWithMoves G sh sc sr sl ([.ref (sh.1 0 0)] : List Value) (xvI (.inr r.1)) (xWd G sh r.2 sr sl) := by
  refine xMet_of (cc := cX5_goOnWithMoves) (maxL := 6) (ret := (some .int)) (by decide) (Nat.le_of_ble_eq_true rfl) ?_
  intro p e s m below meth c F hT hW hr hlocks htab ls hl
  have F : CallFix p m c cX5_goOnWithMoves 6 s ([.ref (sh.1 0 0)] : List Value).toArray xB RX5 := F
  have hx := F.1
  have hb := F.2.1
  have hS : va_S (xA G) s.heap s.heap [] := va_S.rf
  have hl : lv_has ls 6 [(0, .ref (sh.1 0 0))] := hl
  unfold fX5_goOnWithMoves at hf
  refine lv_iconst (v := 0) hx hb dX5_goOnWithMoves_0 (by decide) ?_
  refine lv_istore_n (lv' := [(1, .int 0), (0, .ref (sh.1 0 0))]) hx hb dX5_goOnWithMoves_1 rfl hl (by decide) rfl (fun ls hl => ?_)
  refine lv_aload_n hx hb dX5_goOnWithMoves_2 rfl (lv_at hl 1 rfl) ?_
  refine xget F hT hW xuX5 (xm_fix (by decide)) xce_0 rfl 1 (by decide) xw_72 rfl rfl dX5_goOnWithMoves_3 ?_
  refine lv_astore_n (lv' := [(2, .ref (sh.1 2 0)), (1, .int 0), (0, .ref (sh.1 0 0))]) hx hb dX5_goOnWithMoves_6 rfl hl (by decide) rfl (fun ls hl => ?_)
  refine lv_aload_n hx hb dX5_goOnWithMoves_7 rfl (lv_at hl 0 rfl) ?_
  refine xalenT F hT hW dX5_goOnWithMoves_8 ?_
  refine lv_istore_n (lv' := [(3, .int 6), (2, .ref (sh.1 2 0)), (1, .int 0), (0, .ref (sh.1 0 0))]) hx hb dX5_goOnWithMoves_9 rfl hl (by decide) rfl (fun ls hl => ?_)
  refine lv_iconst (v := 0) hx hb dX5_goOnWithMoves_10 (by decide) ?_
  refine lv_istore (lv' := [(4, .int 0), (3, .int 6), (2, .ref (sh.1 2 0)), (1, .int 0), (0, .ref (sh.1 0 0))]) hx hb dX5_goOnWithMoves_11 hl (by decide) rfl (fun ls hl => ?_)
  have hx_L1 : ∀ (x1L1 : Int32) (x4L1 : Int32) (scL1 : xSC), fX5_goOnWithMoves_K1 x1L1 x4L1 scL1 = some r → ∀ (H : Heap) (locs : List Loc), xWd G sh scL1 sr sl H → va_S (xA G) s.heap H locs → ∀ ls : Array Slot, lv_has ls 6 [(0, .ref (sh.1 0 0)), (1, .int x1L1)] → W p l e rX5_goOnWithMoves s m ([.ref (sh.1 0 0)] : List Value).toArray below meth c H locs 0 0 (xQ below G (xvI (.inr r.1)) (xWd G sh r.2 sr sl) ([.ref (sh.1 0 0)] : List Value).toArray s 0 0) (F0 m 59 ls []) := by
    intro x1L1 x4L1 scL1 hf H locs hW hS ls hl
    unfold fX5_goOnWithMoves_K1 at hf
    refine lv_aload_n hx hb dX5_goOnWithMoves_59 rfl (lv_at hl 0 rfl) ?_
    refine lv_dup hx hb dX5_goOnWithMoves_60 rfl ?_
    refine xget F hT hW xuX5 (xm_fix (by decide)) xce_0 rfl 6 (by decide) xw_77 rfl rfl dX5_goOnWithMoves_61 ?_
    refine lv_iload_n hx hb dX5_goOnWithMoves_64 rfl (lv_at hl 1 rfl) ?_
    refine lv_iadd hx hb dX5_goOnWithMoves_65 ?_
    refine xput (ty := .int) F hT hW hS xuX5 tyX5 tyX5_ok nmX5 (xm_fix (by decide)) xce_0 rfl 6 (by decide) xw_77 rfl rfl rfl rfl rfl (Nat.le_of_ble_eq_true rfl) xup_0_6 dX5_goOnWithMoves_66 (fun H locs hW hS => ?_)
    refine lv_iload_n hx hb dX5_goOnWithMoves_69 rfl (lv_at hl 1 rfl) ?_
    cases hf
    exact xret_i (ty := .int) F hr hlocks hS rfl rfl hW (Nat.le_of_ble_eq_true rfl) (Nat.le_of_ble_eq_true rfl) dX5_goOnWithMoves_70
  have hL_L1 : ∀ (n9 : Nat) (x1L1 : Int32) (x4L1 : Int32) (scL1 : xSC), fX5_goOnWithMoves_L1 sh.2.1 sh.2.2 (fX5_goOnWithMoves_K1) n9 x1L1 x4L1 scL1 = some r → ∀ (H : Heap) (locs : List Loc), xWd G sh scL1 sr sl H → va_S (xA G) s.heap H locs → ∀ ls : Array Slot, lv_has ls 6 [(0, .ref (sh.1 0 0)), (1, .int x1L1), (2, .ref (sh.1 2 0)), (3, .int 6), (4, .int x4L1)] → W p l e rX5_goOnWithMoves s m ([.ref (sh.1 0 0)] : List Value).toArray below meth c H locs 0 0 (xQ below G (xvI (.inr r.1)) (xWd G sh r.2 sr sl) ([.ref (sh.1 0 0)] : List Value).toArray s 0 0) (F0 m 13 ls []) := by
    intro n_L1
    induction n_L1 with
    | zero =>
      intro x1L1 x4L1 scL1 hf
      unfold fX5_goOnWithMoves_L1 at hf
      cases hf
    | succ n_L1 ih_L1 =>
      intro x1L1 x4L1 scL1 hf H locs hW hS ls hl
      unfold fX5_goOnWithMoves_L1 at hf
      refine lv_iload hx hb dX5_goOnWithMoves_13 (lv_at hl 4 rfl) ?_
      refine lv_iload_n hx hb dX5_goOnWithMoves_15 rfl (lv_at hl 3 rfl) ?_
      refine lv_icmp_ge (tgt := 59) hx hb dX5_goOnWithMoves_16 (by decide) (fun c1 => ?_) (fun c1 => ?_)
      · replace hf := if_t c1 hf
        exact hx_L1 _ _ _ hf _ _ hW hS ls (lv_sub hl [0, 1] rfl)
      · replace hf := if_f c1 hf
        refine lv_aload_n hx hb dX5_goOnWithMoves_19 rfl (lv_at hl 2 rfl) ?_
        refine lv_iload hx hb dX5_goOnWithMoves_20 (lv_at hl 4 rfl) ?_
        obtain ⟨g4, hf⟩ := oG_go hf
        refine xaldT F hT hW (xinb_ok g4) dX5_goOnWithMoves_22 ?_
        rcases o5 : xel sh.2.2 x4L1 with _ | jq2
        · replace hf := oN_0 o5 hf
          refine W.eq (g2 := F0 m 23 ls (.null :: [])) rfl ?_
          refine lv_astoreN (lv' := [(5, .null), (0, .ref (sh.1 0 0)), (1, .int x1L1), (2, .ref (sh.1 2 0)), (3, .int 6), (4, .int x4L1)]) hx hb dX5_goOnWithMoves_23 hl (by decide) rfl (fun ls hl => ?_)
          refine lv_aloadN hx hb dX5_goOnWithMoves_25 (lv_at hl 0 rfl) ?_
          refine lv_ifnullN (tgt := 53) hx hb dX5_goOnWithMoves_27 (by decide) ?_
          refine lv_iinc (v := (x4L1 + 1)) (lv' := [(4, .int (x4L1 + 1)), (5, .null), (0, .ref (sh.1 0 0)), (1, .int x1L1), (2, .ref (sh.1 2 0)), (3, .int 6)]) hx hb dX5_goOnWithMoves_53 hl (k := 5) rfl rfl (by decide) rfl (fun ls hl => ?_)
          refine lv_goto (tgt := 13) hx hb dX5_goOnWithMoves_56 (by decide) ?_
          exact ih_L1 _ _ _ hf _ _ hW hS ls (lv_sub hl [2, 3, 4, 5, 0] rfl)
        · replace hf := oN_1 o5 hf
          have h3 : jq2 < sh.2.2 := xel_lt o5
          refine W.eq (g2 := F0 m 23 ls (.ref (sh.1 11 jq2) :: [])) rfl ?_
          refine lv_astore (lv' := [(5, .ref (sh.1 11 jq2)), (0, .ref (sh.1 0 0)), (1, .int x1L1), (2, .ref (sh.1 2 0)), (3, .int 6), (4, .int x4L1)]) hx hb dX5_goOnWithMoves_23 hl (by decide) rfl (fun ls hl => ?_)
          refine lv_aload hx hb dX5_goOnWithMoves_25 (lv_at hl 0 rfl) ?_
          refine lv_ifnull hx hb dX5_goOnWithMoves_27 ?_
          refine lv_aload hx hb dX5_goOnWithMoves_30 (lv_at hl 0 rfl) ?_
          refine xgetN (host := "TenantPlacement") F hT hW xuX4 (xm_T h3 (by decide)) xce_11 rfl 2 (by decide) (List.mem_of_getElem? (i := 13) rfl) rfl rfl dX5_goOnWithMoves_32 ?_
          obtain ⟨v6, hc12, hf⟩ := oB_go hf
          refine xcallV (n := 0) F hT hW hS (xm_T h3 (by decide)) (xce_mv (by decide)) rfl (kX1_isUnderWay l hl0 G sh scL1 sr sl 9 jq2 (by decide) (xm_T h3 (by decide)) _ hc12) (xgV xw_104 xw_105 xw_106 xw_3 xw_107) rfl xd_X1_isUnderWay ⟨Nat.le_of_ble_eq_true rfl, Nat.le_of_ble_eq_true rfl⟩ rfl hl.1 rfl (Nat.le_of_ble_eq_true rfl) dX5_goOnWithMoves_35 ⟨Nat.le_of_ble_eq_true rfl, Nat.le_of_ble_eq_true rfl⟩ (fun v9 H locs hres hW hS => ?_) (fun E9 H locs q9 ce9 hres => by cases hres)
          cases hres
          refine W.eq (g2 := F0 m 38 ls (.int v6 :: [])) rfl ?_
          refine lv_if_eq (tgt := 53) hx hb dX5_goOnWithMoves_38 (by decide) (fun c7 => ?_) (fun c7 => ?_)
          · replace hf := if_t c7 hf
            refine lv_iinc (v := (x4L1 + 1)) (lv' := [(4, .int (x4L1 + 1)), (5, .ref (sh.1 11 jq2)), (0, .ref (sh.1 0 0)), (1, .int x1L1), (2, .ref (sh.1 2 0)), (3, .int 6)]) hx hb dX5_goOnWithMoves_53 hl (k := 5) rfl rfl (by decide) rfl (fun ls hl => ?_)
            refine lv_goto (tgt := 13) hx hb dX5_goOnWithMoves_56 (by decide) ?_
            exact ih_L1 _ _ _ hf _ _ hW hS ls (lv_sub hl [2, 3, 4, 5, 0] rfl)
          · replace hf := if_f c7 hf
            refine lv_aload_n hx hb dX5_goOnWithMoves_41 rfl (lv_at hl 1 rfl) ?_
            refine lv_aload hx hb dX5_goOnWithMoves_42 (lv_at hl 0 rfl) ?_
            obtain ⟨v8, s9, hc11, hf⟩ := oP_go hf
            refine xcallV (n := 1) F hT hW hS (xm_fix (by decide)) xce_0 rfl (kX5_goOn l hl0 G sh scL1 sr sl jq2 h3 _ hc11) (xgV xw_610 xw_612 xwp_11 xw_1 xw_613) rfl xd_X5_goOn ⟨Nat.le_of_ble_eq_true rfl, Nat.le_of_ble_eq_true rfl⟩ rfl hl.1 rfl (Nat.le_of_ble_eq_true rfl) dX5_goOnWithMoves_44 ⟨Nat.le_of_ble_eq_true rfl, Nat.le_of_ble_eq_true rfl⟩ (fun v9 H locs hres hW hS => ?_) (fun E9 H locs q9 ce9 hres => by cases hres)
            cases hres
            refine W.eq (g2 := F0 m 47 ls (.int v8 :: [])) rfl ?_
            refine lv_if_eq (tgt := 53) hx hb dX5_goOnWithMoves_47 (by decide) (fun c10 => ?_) (fun c10 => ?_)
            · replace hf := if_t c10 hf
              refine lv_iinc (v := (x4L1 + 1)) (lv' := [(4, .int (x4L1 + 1)), (5, .ref (sh.1 11 jq2)), (0, .ref (sh.1 0 0)), (1, .int x1L1), (2, .ref (sh.1 2 0)), (3, .int 6)]) hx hb dX5_goOnWithMoves_53 hl (k := 5) rfl rfl (by decide) rfl (fun ls hl => ?_)
              refine lv_goto (tgt := 13) hx hb dX5_goOnWithMoves_56 (by decide) ?_
              exact ih_L1 _ _ _ hf _ _ hW hS ls (lv_sub hl [2, 3, 4, 5, 0] rfl)
            · replace hf := if_f c10 hf
              refine lv_iinc (v := (x1L1 + 1)) (lv' := [(1, .int (x1L1 + 1)), (5, .ref (sh.1 11 jq2)), (0, .ref (sh.1 0 0)), (2, .ref (sh.1 2 0)), (3, .int 6), (4, .int x4L1)]) hx hb dX5_goOnWithMoves_50 hl (k := 2) rfl rfl (by decide) rfl (fun ls hl => ?_)
              refine lv_iinc (v := (x4L1 + 1)) (lv' := [(4, .int (x4L1 + 1)), (1, .int (x1L1 + 1)), (5, .ref (sh.1 11 jq2)), (0, .ref (sh.1 0 0)), (2, .ref (sh.1 2 0)), (3, .int 6)]) hx hb dX5_goOnWithMoves_53 hl (k := 5) rfl rfl (by decide) rfl (fun ls hl => ?_)
              refine lv_goto (tgt := 13) hx hb dX5_goOnWithMoves_56 (by decide) ?_
              exact ih_L1 _ _ _ hf _ _ hW hS ls (lv_sub hl [3, 1, 4, 5, 0] rfl)
  exact hL_L1 _ _ _ _ hf _ _ hW hS ls (lv_sub hl [4, 3, 2, 1, 0] rfl)
abbrev rX5_growStorage : Room := { frames := 4, cells := 0, slots := 0, locals := 90 }
abbrev zX5_growStorage : List Cond := Cond.code yX5_growStorage cX5_growStorage 6 none :: xB
theorem xd_X5_growStorage : yX5_growStorage.cls = RX5 ∧ yX5_growStorage.cls ≠ "java/lang/invoke/MethodHandle" ∧ yX5_growStorage.cls ≠ "java/lang/invoke/VarHandle" ∧ (parseMethodDescriptor yX5_growStorage.desc).map (fun d => d.parameters.length) = some 0 := by decide +kernel
def fX5_growStorage_K1 (x3L1 : Int32) (scL1 : xSC) : Option (Unit × xSC) := some ((), scL1)
def fX5_growStorage_L1 (nS : Nat) (nT : Nat) (k_L1 : Int32 → xSC → Option (Unit × xSC)) : Nat → Int32 → xSC → Option (Unit × xSC)
  | 0, _, _ => none
  | n + 1, x3L1, scL1 => (if 6 ≤ x3L1 then k_L1 x3L1 scL1 else oG (xinb x3L1 6) (oN (xel nT x3L1) ((fX5_growStorage_L1 nS nT k_L1 n) (x3L1 + 1) scL1) (fun jq2 => oP (fX5_countUse nS nT jq2 (-1) scL1) (fun v6 s7 => oB (fX0_of nS nT 8 jq2 0 s7) (fun v8 => oP (fX0_put nS nT 8 jq2 0 (if 999 < (v8 + (s7.1 11 jq2 1)) then 999 else (v8 + (s7.1 11 jq2 1))) s7) (fun v9 s10 => oP (fX5_countUse nS nT jq2 1 s10) (fun v11 s12 => (fX5_growStorage_L1 nS nT k_L1 n) (x3L1 + 1) s12)))))))
def fX5_growStorage (nS : Nat) (nT : Nat) (sc : xSC) : Option (Unit × xSC) := fX5_growStorage_L1 nS nT (fX5_growStorage_K1) 64 0 sc
set_option maxHeartbeats 4000000 in
set_option maxRecDepth 100000 in
theorem kX5_growStorage (l : Launch) (hl0 : l.stackTraces = false) (G : xG) (sh : xSh) (sc : xSC) (sr : xSR) (sl : xSL) (r : (Unit × xSC)) (hf : fX5_growStorage sh.2.1 sh.2.2 sc = some r) : xMet l yX5_growStorage zX5_growStorage rX5_growStorage G sh sc sr sl ([.ref (sh.1 0 0)] : List Value) (xvU (.inr r.1)) (xWd G sh r.2 sr sl) := by
  refine xMet_of (cc := cX5_growStorage) (maxL := 6) (ret := none) (by decide) (Nat.le_of_ble_eq_true rfl) ?_
  intro p e s m below meth c F hT hW hr hlocks htab ls hl
  have F : CallFix p m c cX5_growStorage 6 s ([.ref (sh.1 0 0)] : List Value).toArray xB RX5 := F
  have hx := F.1
  have hb := F.2.1
  have hS : va_S (xA G) s.heap s.heap [] := va_S.rf
  have hl : lv_has ls 6 [(0, .ref (sh.1 0 0))] := hl
  unfold fX5_growStorage at hf
  refine lv_aload_n hx hb dX5_growStorage_0 rfl (lv_at hl 0 rfl) ?_
  refine xget F hT hW xuX5 (xm_fix (by decide)) xce_0 rfl 1 (by decide) xw_72 rfl rfl dX5_growStorage_1 ?_
  refine lv_astore_n (lv' := [(1, .ref (sh.1 2 0)), (0, .ref (sh.1 0 0))]) hx hb dX5_growStorage_4 rfl hl (by decide) rfl (fun ls hl => ?_)
  refine lv_aload_n hx hb dX5_growStorage_5 rfl (lv_at hl 0 rfl) ?_
  refine xalenT F hT hW dX5_growStorage_6 ?_
  refine lv_istore_n (lv' := [(2, .int 6), (1, .ref (sh.1 2 0)), (0, .ref (sh.1 0 0))]) hx hb dX5_growStorage_7 rfl hl (by decide) rfl (fun ls hl => ?_)
  refine lv_iconst (v := 0) hx hb dX5_growStorage_8 (by decide) ?_
  refine lv_istore_n (lv' := [(3, .int 0), (2, .int 6), (1, .ref (sh.1 2 0)), (0, .ref (sh.1 0 0))]) hx hb dX5_growStorage_9 rfl hl (by decide) rfl (fun ls hl => ?_)
  have hx_L1 : ∀ (x3L1 : Int32) (scL1 : xSC), fX5_growStorage_K1 x3L1 scL1 = some r → ∀ (H : Heap) (locs : List Loc), xWd G sh scL1 sr sl H → va_S (xA G) s.heap H locs → ∀ ls : Array Slot, lv_has ls 6 [] → W p l e rX5_growStorage s m ([.ref (sh.1 0 0)] : List Value).toArray below meth c H locs 0 0 (xQ below G (xvU (.inr r.1)) (xWd G sh r.2 sr sl) ([.ref (sh.1 0 0)] : List Value).toArray s 0 0) (F0 m 79 ls []) := by
    intro x3L1 scL1 hf H locs hW hS ls hl
    unfold fX5_growStorage_K1 at hf
    cases hf
    exact xret_v F hr hlocks hS rfl hW (Nat.le_of_ble_eq_true rfl) (Nat.le_of_ble_eq_true rfl) dX5_growStorage_79
  have hL_L1 : ∀ (n9 : Nat) (x3L1 : Int32) (scL1 : xSC), fX5_growStorage_L1 sh.2.1 sh.2.2 (fX5_growStorage_K1) n9 x3L1 scL1 = some r → ∀ (H : Heap) (locs : List Loc), xWd G sh scL1 sr sl H → va_S (xA G) s.heap H locs → ∀ ls : Array Slot, lv_has ls 6 [(0, .ref (sh.1 0 0)), (1, .ref (sh.1 2 0)), (2, .int 6), (3, .int x3L1)] → W p l e rX5_growStorage s m ([.ref (sh.1 0 0)] : List Value).toArray below meth c H locs 0 0 (xQ below G (xvU (.inr r.1)) (xWd G sh r.2 sr sl) ([.ref (sh.1 0 0)] : List Value).toArray s 0 0) (F0 m 10 ls []) := by
    intro n_L1
    induction n_L1 with
    | zero =>
      intro x3L1 scL1 hf
      unfold fX5_growStorage_L1 at hf
      cases hf
    | succ n_L1 ih_L1 =>
      intro x3L1 scL1 hf H locs hW hS ls hl
      unfold fX5_growStorage_L1 at hf
      refine lv_iload_n hx hb dX5_growStorage_10 rfl (lv_at hl 3 rfl) ?_
      refine lv_iload_n hx hb dX5_growStorage_11 rfl (lv_at hl 2 rfl) ?_
      refine lv_icmp_ge (tgt := 79) hx hb dX5_growStorage_12 (by decide) (fun c1 => ?_) (fun c1 => ?_)
      · replace hf := if_t c1 hf
        exact hx_L1 _ _ hf _ _ hW hS ls (lv_sub hl [] rfl)
      · replace hf := if_f c1 hf
        refine lv_aload_n hx hb dX5_growStorage_15 rfl (lv_at hl 1 rfl) ?_
        refine lv_iload_n hx hb dX5_growStorage_16 rfl (lv_at hl 3 rfl) ?_
        obtain ⟨g4, hf⟩ := oG_go hf
        refine xaldT F hT hW (xinb_ok g4) dX5_growStorage_17 ?_
        rcases o5 : xel sh.2.2 x3L1 with _ | jq2
        · replace hf := oN_0 o5 hf
          refine W.eq (g2 := F0 m 18 ls (.null :: [])) rfl ?_
          refine lv_astoreN (lv' := [(4, .null), (0, .ref (sh.1 0 0)), (1, .ref (sh.1 2 0)), (2, .int 6), (3, .int x3L1)]) hx hb dX5_growStorage_18 hl (by decide) rfl (fun ls hl => ?_)
          refine lv_aloadN hx hb dX5_growStorage_20 (lv_at hl 0 rfl) ?_
          refine lv_ifnullN (tgt := 73) hx hb dX5_growStorage_22 (by decide) ?_
          refine lv_iinc (v := (x3L1 + 1)) (lv' := [(3, .int (x3L1 + 1)), (4, .null), (0, .ref (sh.1 0 0)), (1, .ref (sh.1 2 0)), (2, .int 6)]) hx hb dX5_growStorage_73 hl (k := 4) rfl rfl (by decide) rfl (fun ls hl => ?_)
          refine lv_goto (tgt := 10) hx hb dX5_growStorage_76 (by decide) ?_
          exact ih_L1 _ _ hf _ _ hW hS ls (lv_sub hl [2, 3, 4, 0] rfl)
        · replace hf := oN_1 o5 hf
          have h3 : jq2 < sh.2.2 := xel_lt o5
          refine W.eq (g2 := F0 m 18 ls (.ref (sh.1 11 jq2) :: [])) rfl ?_
          refine lv_astore (lv' := [(4, .ref (sh.1 11 jq2)), (0, .ref (sh.1 0 0)), (1, .ref (sh.1 2 0)), (2, .int 6), (3, .int x3L1)]) hx hb dX5_growStorage_18 hl (by decide) rfl (fun ls hl => ?_)
          refine lv_aload hx hb dX5_growStorage_20 (lv_at hl 0 rfl) ?_
          refine lv_ifnull hx hb dX5_growStorage_22 ?_
          refine lv_aload_n hx hb dX5_growStorage_25 rfl (lv_at hl 1 rfl) ?_
          refine lv_aload hx hb dX5_growStorage_26 (lv_at hl 0 rfl) ?_
          refine lv_iconst (v := (-1)) hx hb dX5_growStorage_28 (by decide) ?_
          obtain ⟨v6, s7, hc16, hf⟩ := oP_go hf
          refine xcallV (n := 2) F hT hW hS (xm_fix (by decide)) xce_0 rfl (kX5_countUse l hl0 G sh scL1 sr sl jq2 (-1) h3 _ hc16) (xgV xw_469 xw_471 xwp_4 xw_1 xw_472) rfl xd_X5_countUse ⟨Nat.le_of_ble_eq_true rfl, Nat.le_of_ble_eq_true rfl⟩ rfl hl.1 rfl (Nat.le_of_ble_eq_true rfl) dX5_growStorage_29 ⟨Nat.le_of_ble_eq_true rfl, Nat.le_of_ble_eq_true rfl⟩ (fun v9 H locs hres hW hS => ?_) (fun E9 H locs q9 ce9 hres => by cases hres)
          cases hres
          refine W.eq (g2 := F0 m 32 ls ([])) rfl ?_
          refine lv_aload hx hb dX5_growStorage_32 (lv_at hl 0 rfl) ?_
          refine xgetN (host := "TenantPlacement") F hT hW xuX4 (xm_T h3 (by decide)) xce_11 rfl 0 (by decide) (List.mem_of_getElem? (i := 9) rfl) rfl rfl dX5_growStorage_34 ?_
          refine lv_iconst (v := 0) hx hb dX5_growStorage_37 (by decide) ?_
          obtain ⟨v8, hc15, hf⟩ := oB_go hf
          refine xcallV (n := 1) F hT hW hS (xm_T h3 (by decide)) (xce_am (by decide)) rfl (kX0_of l hl0 G sh s7 sr sl 8 jq2 0 (by decide) (xm_T h3 (by decide)) _ hc15) (xgV xw_386 xw_387 xw_388 xw_11 xw_389) rfl xd_X0_of ⟨Nat.le_of_ble_eq_true rfl, Nat.le_of_ble_eq_true rfl⟩ rfl hl.1 rfl (Nat.le_of_ble_eq_true rfl) dX5_growStorage_38 ⟨Nat.le_of_ble_eq_true rfl, Nat.le_of_ble_eq_true rfl⟩ (fun v9 H locs hres hW hS => ?_) (fun E9 H locs q9 ce9 hres => by cases hres)
          cases hres
          refine W.eq (g2 := F0 m 41 ls (.int v8 :: [])) rfl ?_
          refine lv_aload hx hb dX5_growStorage_41 (lv_at hl 0 rfl) ?_
          refine xgetN (host := "TenantPlacement") F hT hW xuX4 (xm_T h3 (by decide)) xce_11 rfl 1 (by decide) (List.mem_of_getElem? (i := 26) rfl) rfl rfl dX5_growStorage_43 ?_
          refine lv_iadd hx hb dX5_growStorage_46 ?_
          refine lv_istore (lv' := [(5, .int (v8 + (s7.1 11 jq2 1))), (4, .ref (sh.1 11 jq2)), (0, .ref (sh.1 0 0)), (1, .ref (sh.1 2 0)), (2, .int 6), (3, .int x3L1)]) hx hb dX5_growStorage_47 hl (by decide) rfl (fun ls hl => ?_)
          refine lv_aload hx hb dX5_growStorage_49 (lv_at hl 1 rfl) ?_
          refine xgetN (host := "TenantPlacement") F hT hW xuX4 (xm_T h3 (by decide)) xce_11 rfl 0 (by decide) (List.mem_of_getElem? (i := 9) rfl) rfl rfl dX5_growStorage_51 ?_
          refine lv_iconst (v := 0) hx hb dX5_growStorage_54 (by decide) ?_
          refine lv_iload hx hb dX5_growStorage_55 (lv_at hl 0 rfl) ?_
          refine lv_sipush (v := 999) hx hb dX5_growStorage_57 (by decide) ?_
          refine va_mmin hx hb (F.2.2.1.trans hl.1.symm) F.2.2.2.1 (F.2.2.2.2 _ xw_631) (F.2.2.2.2 _ xw_146) (F.2.2.2.2 _ xw_17) (F.2.2.2.2 _ xw_147) (Nat.le_of_ble_eq_true rfl) (Nat.le_of_ble_eq_true rfl) (Nat.le_of_ble_eq_true rfl) (Nat.le_of_ble_eq_true rfl) dX5_growStorage_60 ?_
          obtain ⟨v9, s10, hc14, hf⟩ := oP_go hf
          refine xcallV (n := 2) F hT hW hS (xm_T h3 (by decide)) (xce_am (by decide)) rfl (kX0_put l hl0 G sh s7 sr sl 8 jq2 0 (if 999 < (v8 + (s7.1 11 jq2 1)) then 999 else (v8 + (s7.1 11 jq2 1))) (by decide) (xm_T h3 (by decide)) _ hc14) (xgV xw_390 xw_391 xw_392 xw_11 xw_393) rfl xd_X0_put ⟨Nat.le_of_ble_eq_true rfl, Nat.le_of_ble_eq_true rfl⟩ rfl hl.1 rfl (Nat.le_of_ble_eq_true rfl) dX5_growStorage_63 ⟨Nat.le_of_ble_eq_true rfl, Nat.le_of_ble_eq_true rfl⟩ (fun v9 H locs hres hW hS => ?_) (fun E9 H locs q9 ce9 hres => by cases hres)
          cases hres
          refine W.eq (g2 := F0 m 66 ls ([])) rfl ?_
          refine lv_aload_n hx hb dX5_growStorage_66 rfl (lv_at hl 2 rfl) ?_
          refine lv_aload hx hb dX5_growStorage_67 (lv_at hl 1 rfl) ?_
          refine lv_iconst (v := 1) hx hb dX5_growStorage_69 (by decide) ?_
          obtain ⟨v11, s12, hc13, hf⟩ := oP_go hf
          refine xcallV (n := 2) F hT hW hS (xm_fix (by decide)) xce_0 rfl (kX5_countUse l hl0 G sh s10 sr sl jq2 1 h3 _ hc13) (xgV xw_469 xw_471 xwp_4 xw_1 xw_472) rfl xd_X5_countUse ⟨Nat.le_of_ble_eq_true rfl, Nat.le_of_ble_eq_true rfl⟩ rfl hl.1 rfl (Nat.le_of_ble_eq_true rfl) dX5_growStorage_70 ⟨Nat.le_of_ble_eq_true rfl, Nat.le_of_ble_eq_true rfl⟩ (fun v9 H locs hres hW hS => ?_) (fun E9 H locs q9 ce9 hres => by cases hres)
          cases hres
          refine W.eq (g2 := F0 m 73 ls ([])) rfl ?_
          refine lv_iinc (v := (x3L1 + 1)) (lv' := [(3, .int (x3L1 + 1)), (5, .int (v8 + (s7.1 11 jq2 1))), (4, .ref (sh.1 11 jq2)), (0, .ref (sh.1 0 0)), (1, .ref (sh.1 2 0)), (2, .int 6)]) hx hb dX5_growStorage_73 hl (k := 5) rfl rfl (by decide) rfl (fun ls hl => ?_)
          refine lv_goto (tgt := 10) hx hb dX5_growStorage_76 (by decide) ?_
          exact ih_L1 _ _ hf _ _ hW hS ls (lv_sub hl [3, 4, 5, 0] rfl)
  exact hL_L1 _ _ _ hf _ _ hW hS ls (lv_sub hl [3, 2, 1, 0] rfl)
abbrev rX5_movingTenant : Room := { frames := 7, cells := 2, slots := 12, locals := 112 }
abbrev zX5_movingTenant : List Cond := Cond.code yX5_movingTenant cX5_movingTenant 3 (some (.object "TenantPlacement$Tenant")) :: xB
theorem xd_X5_movingTenant : yX5_movingTenant.cls = RX5 ∧ yX5_movingTenant.cls ≠ "java/lang/invoke/MethodHandle" ∧ yX5_movingTenant.cls ≠ "java/lang/invoke/VarHandle" ∧ (parseMethodDescriptor yX5_movingTenant.desc).map (fun d => d.parameters.length) = some 1 := by decide +kernel
def fX5_movingTenant (nS : Nat) (nT : Nat) (a1 : Int32) (sc : xSC) : Option (String ⊕ Nat) := oT (fX5_knownTenant nS nT a1 sc) (fun E8 => some (Sum.inl E8)) (fun v1 => oG (decide (v1 < nT)) (oB (fX1_isUnderWay nS nT 9 v1 sc) (fun v4 => (if v4 = 0 then some (Sum.inl "java/util/NoSuchElementException") else some (Sum.inr v1)))))
set_option maxHeartbeats 4000000 in
set_option maxRecDepth 100000 in
theorem kX5_movingTenant (l : Launch) (hl0 : l.stackTraces = false) (G : xG) (sh : xSh) (sc : xSC) (sr : xSR) (sl : xSL) (a1 : Int32) (r : (String ⊕ Nat)) (hf : fX5_movingTenant sh.2.1 sh.2.2 a1 sc = some r) : xMet l yX5_movingTenant zX5_movingTenant rX5_movingTenant G sh sc sr sl ([.ref (sh.1 0 0), .int a1] : List Value) (xvR sh 11 r) (xWd G sh sc sr sl) := by
  refine xMet_of (cc := cX5_movingTenant) (maxL := 3) (ret := (some (.object "TenantPlacement$Tenant"))) (by decide) (Nat.le_of_ble_eq_true rfl) ?_
  intro p e s m below meth c F hT hW hr hlocks htab ls hl
  have F : CallFix p m c cX5_movingTenant 3 s ([.ref (sh.1 0 0), .int a1] : List Value).toArray xB RX5 := F
  have hx := F.1
  have hb := F.2.1
  have hS : va_S (xA G) s.heap s.heap [] := va_S.rf
  have hl : lv_has ls 3 [(0, .ref (sh.1 0 0)), (1, .int a1)] := hl
  unfold fX5_movingTenant at hf
  refine lv_aload_n hx hb dX5_movingTenant_0 rfl (lv_at hl 0 rfl) ?_
  refine lv_iload_n hx hb dX5_movingTenant_1 rfl (lv_at hl 1 rfl) ?_
  rcases oT_go hf with ⟨v1, hc7, hf⟩ | ⟨E8, hc7, hf⟩
  · refine xcallV (n := 1) F hT hW hS (xm_fix (by decide)) xce_0 rfl (kX5_knownTenant l hl0 G sh sc sr sl a1  _ hc7) (xgV xw_497 xw_499 xwp_5 xw_1 xw_500) rfl xd_X5_knownTenant ⟨Nat.le_of_ble_eq_true rfl, Nat.le_of_ble_eq_true rfl⟩ rfl hl.1 rfl (Nat.le_of_ble_eq_true rfl) dX5_movingTenant_2 ⟨Nat.le_of_ble_eq_true rfl, Nat.le_of_ble_eq_true rfl⟩ (fun v9 H locs hres hW hS => ?_) (fun E9 H locs q9 ce9 hres => by cases hres)
    cases hres
    refine W.eq (g2 := F0 m 5 ls (.ref (sh.1 11 v1) :: [])) rfl ?_
    obtain ⟨g3, hf⟩ := oG_go hf
    have h2 : v1 < sh.2.2 := of_decide_eq_true g3
    refine lv_astore_n (lv' := [(2, .ref (sh.1 11 v1)), (0, .ref (sh.1 0 0)), (1, .int a1)]) hx hb dX5_movingTenant_5 rfl hl (by decide) rfl (fun ls hl => ?_)
    refine lv_aload_n hx hb dX5_movingTenant_6 rfl (lv_at hl 0 rfl) ?_
    refine xgetN (host := "TenantPlacement") F hT hW xuX4 (xm_T h2 (by decide)) xce_11 rfl 2 (by decide) (List.mem_of_getElem? (i := 13) rfl) rfl rfl dX5_movingTenant_7 ?_
    obtain ⟨v4, hc6, hf⟩ := oB_go hf
    refine xcallV (n := 0) F hT hW hS (xm_T h2 (by decide)) (xce_mv (by decide)) rfl (kX1_isUnderWay l hl0 G sh sc sr sl 9 v1 (by decide) (xm_T h2 (by decide)) _ hc6) (xgV xw_104 xw_105 xw_106 xw_3 xw_107) rfl xd_X1_isUnderWay ⟨Nat.le_of_ble_eq_true rfl, Nat.le_of_ble_eq_true rfl⟩ rfl hl.1 rfl (Nat.le_of_ble_eq_true rfl) dX5_movingTenant_10 ⟨Nat.le_of_ble_eq_true rfl, Nat.le_of_ble_eq_true rfl⟩ (fun v9 H locs hres hW hS => ?_) (fun E9 H locs q9 ce9 hres => by cases hres)
    cases hres
    refine W.eq (g2 := F0 m 13 ls (.int v4 :: [])) rfl ?_
    refine lv_if_ne (tgt := 26) hx hb dX5_movingTenant_13 (by decide) (fun c5 => ?_) (fun c5 => ?_)
    · replace hf := if_f c5 hf
      refine lv_aload_n hx hb dX5_movingTenant_26 rfl (lv_at hl 0 rfl) ?_
      cases hf
      exact xret_a F hr (Or.inl ⟨_, rfl⟩) (Or.inr ⟨_, rfl⟩) hlocks hS rfl hW (Nat.le_of_ble_eq_true rfl) (Nat.le_of_ble_eq_true rfl) dX5_movingTenant_27
    · replace hf := if_t c5 hf
      cases hf
      refine xthrowX (cls := "java/util/NoSuchElementException") (text := "the tenant has no move") (ik := 282) (is := 172) (ic := 286) F hT hW hS hl0 hlocks htab hl.1 rfl rfl xw_651 xw_18 (List.mem_of_getElem? (i := 8) rfl) (Nat.le_of_ble_eq_true rfl) (Nat.le_of_ble_eq_true rfl) (Nat.le_of_ble_eq_true rfl) (Nat.le_of_ble_eq_true rfl) ?_ ?_ (Nat.le_of_ble_eq_true rfl) (Nat.le_of_ble_eq_true rfl) dX5_movingTenant_16 dX5_movingTenant_19 (Or.inl ⟨dX5_movingTenant_20, dX5_movingTenant_22, dX5_movingTenant_25⟩)
      · rfl
      · exact fun H h => h
  · refine xcallV (n := 1) F hT hW hS (xm_fix (by decide)) xce_0 rfl (kX5_knownTenant l hl0 G sh sc sr sl a1  _ hc7) (xgV xw_497 xw_499 xwp_5 xw_1 xw_500) rfl xd_X5_knownTenant ⟨Nat.le_of_ble_eq_true rfl, Nat.le_of_ble_eq_true rfl⟩ rfl hl.1 rfl (Nat.le_of_ble_eq_true rfl) dX5_movingTenant_2 ⟨Nat.le_of_ble_eq_true rfl, Nat.le_of_ble_eq_true rfl⟩ (fun v9 H locs hres => by cases hres) (fun E9 H locs q9 ce9 hres hW hS hcell hv9 hcl => ?_)
    cases hres
    cases hf
    exact xout htab hlocks hS rfl hW hcell hv9 hcl (Nat.le_of_ble_eq_true rfl) (Nat.le_of_ble_eq_true rfl)
abbrev rX5_hoursByPassing : Room := { frames := 8, cells := 2, slots := 12, locals := 134 }
abbrev zX5_hoursByPassing : List Cond := Cond.code yX5_hoursByPassing cX5_hoursByPassing 4 (some .int) :: xB
theorem xd_X5_hoursByPassing : yX5_hoursByPassing.cls = RX5 ∧ yX5_hoursByPassing.cls ≠ "java/lang/invoke/MethodHandle" ∧ yX5_hoursByPassing.cls ≠ "java/lang/invoke/VarHandle" ∧ (parseMethodDescriptor yX5_hoursByPassing.desc).map (fun d => d.parameters.length) = some 1 := by decide +kernel
def fX5_hoursByPassing_K1 (x3L1 : Int32) (scL1 : xSC) : Option ((String ⊕ Int32) × xSC) := some ((Sum.inr x3L1), scL1)
def fX5_hoursByPassing_L1 (nS : Nat) (nT : Nat) (v1 : Nat) (k_L1 : Int32 → xSC → Option ((String ⊕ Int32) × xSC)) : Nat → Int32 → xSC → Option ((String ⊕ Int32) × xSC)
  | 0, _, _ => none
  | n + 1, x3L1, scL1 => (if 1000 ≤ x3L1 then k_L1 x3L1 scL1 else oB (fX1_isUnderWay nS nT 10 0 scL1) (fun v7 => (if v7 = 0 then k_L1 x3L1 scL1 else oB (fX5_hourOfDay nS nT ((scL1.1 0 0 5) + x3L1) scL1) (fun v9 => oB (fX4_isInWindow nS nT v1 v9 scL1) (fun v10 => oP (fX1_goOn nS nT 10 0 v10 scL1) (fun v11 s12 => (fX5_hoursByPassing_L1 nS nT v1 k_L1 n) (x3L1 + 1) s12))))))
def fX5_hoursByPassing (nS : Nat) (nT : Nat) (a1 : Int32) (sc : xSC) : Option ((String ⊕ Int32) × xSC) := oT (fX5_movingTenant nS nT a1 sc) (fun E19 => some ((Sum.inl E19), sc)) (fun v1 => oG (decide (v1 < nT)) (oP (fX1_copyFrom nS nT 10 0 9 v1 sc) (fun v4 s5 => fX5_hoursByPassing_L1 nS nT v1 (fX5_hoursByPassing_K1) 1100 0 s5)))
set_option maxHeartbeats 4000000 in
set_option maxRecDepth 100000 in
theorem kX5_hoursByPassing (l : Launch) (hl0 : l.stackTraces = false) (G : xG) (sh : xSh) (sc : xSC) (sr : xSR) (sl : xSL) (a1 : Int32) (r : ((String ⊕ Int32) × xSC)) (hf : fX5_hoursByPassing sh.2.1 sh.2.2 a1 sc = some r) : xMet l yX5_hoursByPassing zX5_hoursByPassing rX5_hoursByPassing G sh sc sr sl ([.ref (sh.1 0 0), .int a1] : List Value) (xvI r.1) (xWd G sh r.2 sr sl) := by
  refine xMet_of (cc := cX5_hoursByPassing) (maxL := 4) (ret := (some .int)) (by decide) (Nat.le_of_ble_eq_true rfl) ?_
  intro p e s m below meth c F hT hW hr hlocks htab ls hl
  have F : CallFix p m c cX5_hoursByPassing 4 s ([.ref (sh.1 0 0), .int a1] : List Value).toArray xB RX5 := F
  have hx := F.1
  have hb := F.2.1
  have hS : va_S (xA G) s.heap s.heap [] := va_S.rf
  have hl : lv_has ls 4 [(0, .ref (sh.1 0 0)), (1, .int a1)] := hl
  unfold fX5_hoursByPassing at hf
  refine lv_aload_n hx hb dX5_hoursByPassing_0 rfl (lv_at hl 0 rfl) ?_
  refine lv_iload_n hx hb dX5_hoursByPassing_1 rfl (lv_at hl 1 rfl) ?_
  rcases oT_go hf with ⟨v1, hc18, hf⟩ | ⟨E19, hc18, hf⟩
  · refine xcallV (n := 1) F hT hW hS (xm_fix (by decide)) xce_0 rfl (kX5_movingTenant l hl0 G sh sc sr sl a1  _ hc18) (xgV xw_647 xw_649 xwp_13 xw_1 xw_650) rfl xd_X5_movingTenant ⟨Nat.le_of_ble_eq_true rfl, Nat.le_of_ble_eq_true rfl⟩ rfl hl.1 rfl (Nat.le_of_ble_eq_true rfl) dX5_hoursByPassing_2 ⟨Nat.le_of_ble_eq_true rfl, Nat.le_of_ble_eq_true rfl⟩ (fun v9 H locs hres hW hS => ?_) (fun E9 H locs q9 ce9 hres => by cases hres)
    cases hres
    refine W.eq (g2 := F0 m 5 ls (.ref (sh.1 11 v1) :: [])) rfl ?_
    obtain ⟨g3, hf⟩ := oG_go hf
    have h2 : v1 < sh.2.2 := of_decide_eq_true g3
    refine lv_astore_n (lv' := [(2, .ref (sh.1 11 v1)), (0, .ref (sh.1 0 0)), (1, .int a1)]) hx hb dX5_hoursByPassing_5 rfl hl (by decide) rfl (fun ls hl => ?_)
    refine lv_aload_n hx hb dX5_hoursByPassing_6 rfl (lv_at hl 1 rfl) ?_
    refine xget F hT hW xuX5 (xm_fix (by decide)) xce_0 rfl 3 (by decide) xw_74 rfl rfl dX5_hoursByPassing_7 ?_
    refine lv_aload_n hx hb dX5_hoursByPassing_10 rfl (lv_at hl 0 rfl) ?_
    refine xgetN (host := "TenantPlacement") F hT hW xuX4 (xm_T h2 (by decide)) xce_11 rfl 2 (by decide) (List.mem_of_getElem? (i := 13) rfl) rfl rfl dX5_hoursByPassing_11 ?_
    obtain ⟨v4, s5, hc17, hf⟩ := oP_go hf
    refine xcallV (n := 1) F hT hW hS (xm_fix (by decide)) (xce_mv (by decide)) rfl (kX1_copyFrom l hl0 G sh sc sr sl 10 0 9 v1 (by decide) (xm_fix (by decide)) (by decide) (xm_T h2 (by decide)) _ hc17) (xgV xw_685 xw_686 xw_687 xw_3 xw_688) rfl xd_X1_copyFrom ⟨Nat.le_of_ble_eq_true rfl, Nat.le_of_ble_eq_true rfl⟩ rfl hl.1 rfl (Nat.le_of_ble_eq_true rfl) dX5_hoursByPassing_14 ⟨Nat.le_of_ble_eq_true rfl, Nat.le_of_ble_eq_true rfl⟩ (fun v9 H locs hres hW hS => ?_) (fun E9 H locs q9 ce9 hres => by cases hres)
    cases hres
    refine W.eq (g2 := F0 m 17 ls ([])) rfl ?_
    refine lv_iconst (v := 0) hx hb dX5_hoursByPassing_17 (by decide) ?_
    refine lv_istore_n (lv' := [(3, .int 0), (2, .ref (sh.1 11 v1)), (0, .ref (sh.1 0 0)), (1, .int a1)]) hx hb dX5_hoursByPassing_18 rfl hl (by decide) rfl (fun ls hl => ?_)
    have hx_L1 : ∀ (x3L1 : Int32) (scL1 : xSC), fX5_hoursByPassing_K1 x3L1 scL1 = some r → ∀ (H : Heap) (locs : List Loc), xWd G sh scL1 sr sl H → va_S (xA G) s.heap H locs → ∀ ls : Array Slot, lv_has ls 4 [(3, .int x3L1)] → W p l e rX5_hoursByPassing s m ([.ref (sh.1 0 0), .int a1] : List Value).toArray below meth c H locs 2 12 (xQ below G (xvI r.1) (xWd G sh r.2 sr sl) ([.ref (sh.1 0 0), .int a1] : List Value).toArray s 2 12) (F0 m 63 ls []) := by
      intro x3L1 scL1 hf H locs hW hS ls hl
      unfold fX5_hoursByPassing_K1 at hf
      refine lv_iload_n hx hb dX5_hoursByPassing_63 rfl (lv_at hl 0 rfl) ?_
      cases hf
      exact xret_i (ty := .int) F hr hlocks hS rfl rfl hW (Nat.le_of_ble_eq_true rfl) (Nat.le_of_ble_eq_true rfl) dX5_hoursByPassing_64
    have hL_L1 : ∀ (n9 : Nat) (x3L1 : Int32) (scL1 : xSC), fX5_hoursByPassing_L1 sh.2.1 sh.2.2 v1 (fX5_hoursByPassing_K1) n9 x3L1 scL1 = some r → ∀ (H : Heap) (locs : List Loc), xWd G sh scL1 sr sl H → va_S (xA G) s.heap H locs → ∀ ls : Array Slot, lv_has ls 4 [(0, .ref (sh.1 0 0)), (2, .ref (sh.1 11 v1)), (3, .int x3L1)] → W p l e rX5_hoursByPassing s m ([.ref (sh.1 0 0), .int a1] : List Value).toArray below meth c H locs 2 12 (xQ below G (xvI r.1) (xWd G sh r.2 sr sl) ([.ref (sh.1 0 0), .int a1] : List Value).toArray s 2 12) (F0 m 19 ls []) := by
      intro n_L1
      induction n_L1 with
      | zero =>
        intro x3L1 scL1 hf
        unfold fX5_hoursByPassing_L1 at hf
        cases hf
      | succ n_L1 ih_L1 =>
        intro x3L1 scL1 hf H locs hW hS ls hl
        unfold fX5_hoursByPassing_L1 at hf
        refine lv_iload_n hx hb dX5_hoursByPassing_19 rfl (lv_at hl 2 rfl) ?_
        refine lv_sipush (v := 1000) hx hb dX5_hoursByPassing_20 (by decide) ?_
        refine lv_icmp_ge (tgt := 63) hx hb dX5_hoursByPassing_23 (by decide) (fun c6 => ?_) (fun c6 => ?_)
        · replace hf := if_t c6 hf
          exact hx_L1 _ _ hf _ _ hW hS ls (lv_sub hl [2] rfl)
        · replace hf := if_f c6 hf
          refine lv_aload_n hx hb dX5_hoursByPassing_26 rfl (lv_at hl 0 rfl) ?_
          refine xget F hT hW xuX5 (xm_fix (by decide)) xce_0 rfl 3 (by decide) xw_74 rfl rfl dX5_hoursByPassing_27 ?_
          obtain ⟨v7, hc16, hf⟩ := oB_go hf
          refine xcallV (n := 0) F hT hW hS (xm_fix (by decide)) (xce_mv (by decide)) rfl (kX1_isUnderWay l hl0 G sh scL1 sr sl 10 0 (by decide) (xm_fix (by decide)) _ hc16) (xgV xw_104 xw_105 xw_106 xw_3 xw_107) rfl xd_X1_isUnderWay ⟨Nat.le_of_ble_eq_true rfl, Nat.le_of_ble_eq_true rfl⟩ rfl hl.1 rfl (Nat.le_of_ble_eq_true rfl) dX5_hoursByPassing_30 ⟨Nat.le_of_ble_eq_true rfl, Nat.le_of_ble_eq_true rfl⟩ (fun v9 H locs hres hW hS => ?_) (fun E9 H locs q9 ce9 hres => by cases hres)
          cases hres
          refine W.eq (g2 := F0 m 33 ls (.int v7 :: [])) rfl ?_
          refine lv_if_eq (tgt := 63) hx hb dX5_hoursByPassing_33 (by decide) (fun c8 => ?_) (fun c8 => ?_)
          · replace hf := if_t c8 hf
            exact hx_L1 _ _ hf _ _ hW hS ls (lv_sub hl [2] rfl)
          · replace hf := if_f c8 hf
            refine lv_aload_n hx hb dX5_hoursByPassing_36 rfl (lv_at hl 0 rfl) ?_
            refine xget F hT hW xuX5 (xm_fix (by decide)) xce_0 rfl 3 (by decide) xw_74 rfl rfl dX5_hoursByPassing_37 ?_
            refine lv_aload_n hx hb dX5_hoursByPassing_40 rfl (lv_at hl 1 rfl) ?_
            refine lv_aload_n hx hb dX5_hoursByPassing_41 rfl (lv_at hl 0 rfl) ?_
            refine xget F hT hW xuX5 (xm_fix (by decide)) xce_0 rfl 5 (by decide) xw_76 rfl rfl dX5_hoursByPassing_42 ?_
            refine lv_iload_n hx hb dX5_hoursByPassing_45 rfl (lv_at hl 2 rfl) ?_
            refine lv_iadd hx hb dX5_hoursByPassing_46 ?_
            obtain ⟨v9, hc15, hf⟩ := oB_go hf
            refine xcallS (n := 1) F hT hW hS (kX5_hourOfDay l hl0 G sh scL1 sr sl ((scL1.1 0 0 5) + x3L1)  _ hc15) (xgS xw_614 xw_615 xw_1 xw_616) rfl xd_X5_hourOfDay.2 ⟨Nat.le_of_ble_eq_true rfl, Nat.le_of_ble_eq_true rfl⟩ rfl hl.1 rfl (Nat.le_of_ble_eq_true rfl) dX5_hoursByPassing_47 ⟨Nat.le_of_ble_eq_true rfl, Nat.le_of_ble_eq_true rfl⟩ (fun v9 H locs hres hW hS => ?_) (fun E9 H locs q9 ce9 hres => by cases hres)
            cases hres
            refine W.eq (g2 := F0 m 50 ls (.int v9 :: .ref (sh.1 11 v1) :: .ref (sh.1 10 0) :: [])) rfl ?_
            obtain ⟨v10, hc14, hf⟩ := oB_go hf
            refine xcallV (n := 1) F hT hW hS (xm_T h2 (by decide)) xce_11 rfl (kX4_isInWindow l hl0 G sh scL1 sr sl v1 v9 h2 _ hc14) (xgV xw_618 xw_619 xw_620 xw_16 xw_621) rfl xd_X4_isInWindow ⟨Nat.le_of_ble_eq_true rfl, Nat.le_of_ble_eq_true rfl⟩ rfl hl.1 rfl (Nat.le_of_ble_eq_true rfl) dX5_hoursByPassing_50 ⟨Nat.le_of_ble_eq_true rfl, Nat.le_of_ble_eq_true rfl⟩ (fun v9 H locs hres hW hS => ?_) (fun E9 H locs q9 ce9 hres => by cases hres)
            cases hres
            refine W.eq (g2 := F0 m 53 ls (.int v10 :: .ref (sh.1 10 0) :: [])) rfl ?_
            obtain ⟨v11, s12, hc13, hf⟩ := oP_go hf
            refine xcallV (n := 1) F hT hW hS (xm_fix (by decide)) (xce_mv (by decide)) rfl (kX1_goOn l hl0 G sh scL1 sr sl 10 0 v10 (by decide) (xm_fix (by decide)) _ hc13) (xgV xw_623 xw_624 xw_625 xw_3 xw_626) rfl xd_X1_goOn ⟨Nat.le_of_ble_eq_true rfl, Nat.le_of_ble_eq_true rfl⟩ rfl hl.1 rfl (Nat.le_of_ble_eq_true rfl) dX5_hoursByPassing_53 ⟨Nat.le_of_ble_eq_true rfl, Nat.le_of_ble_eq_true rfl⟩ (fun v9 H locs hres hW hS => ?_) (fun E9 H locs q9 ce9 hres => by cases hres)
            cases hres
            refine W.eq (g2 := F0 m 56 ls (.int v11 :: [])) rfl ?_
            refine lv_pop hx hb dX5_hoursByPassing_56 rfl ?_
            refine lv_iinc (v := (x3L1 + 1)) (lv' := [(3, .int (x3L1 + 1)), (0, .ref (sh.1 0 0)), (2, .ref (sh.1 11 v1))]) hx hb dX5_hoursByPassing_57 hl (k := 2) rfl rfl (by decide) rfl (fun ls hl => ?_)
            refine lv_goto (tgt := 19) hx hb dX5_hoursByPassing_60 (by decide) ?_
            exact ih_L1 _ _ hf _ _ hW hS ls (lv_sub hl [1, 2, 0] rfl)
    exact hL_L1 _ _ _ hf _ _ hW hS ls (lv_sub hl [2, 1, 0] rfl)
  · refine xcallV (n := 1) F hT hW hS (xm_fix (by decide)) xce_0 rfl (kX5_movingTenant l hl0 G sh sc sr sl a1  _ hc18) (xgV xw_647 xw_649 xwp_13 xw_1 xw_650) rfl xd_X5_movingTenant ⟨Nat.le_of_ble_eq_true rfl, Nat.le_of_ble_eq_true rfl⟩ rfl hl.1 rfl (Nat.le_of_ble_eq_true rfl) dX5_hoursByPassing_2 ⟨Nat.le_of_ble_eq_true rfl, Nat.le_of_ble_eq_true rfl⟩ (fun v9 H locs hres => by cases hres) (fun E9 H locs q9 ce9 hres hW hS hcell hv9 hcl => ?_)
    cases hres
    cases hf
    exact xout htab hlocks hS rfl hW hcell hv9 hcl (Nat.le_of_ble_eq_true rfl) (Nat.le_of_ble_eq_true rfl)
abbrev rX5_hoursLeft : Room := { frames := 8, cells := 2, slots := 12, locals := 134 }
abbrev zX5_hoursLeft : List Cond := Cond.code yX5_hoursLeft cX5_hoursLeft 5 (some .int) :: xB
theorem xd_X5_hoursLeft : yX5_hoursLeft.cls = RX5 ∧ yX5_hoursLeft.cls ≠ "java/lang/invoke/MethodHandle" ∧ yX5_hoursLeft.cls ≠ "java/lang/invoke/VarHandle" ∧ (parseMethodDescriptor yX5_hoursLeft.desc).map (fun d => d.parameters.length) = some 1 := by decide +kernel
def fX5_hoursLeft (nS : Nat) (nT : Nat) (a1 : Int32) (sc : xSC) : Option (String ⊕ Int32) := oT (fX5_movingTenant nS nT a1 sc) (fun E12 => some (Sum.inl E12)) (fun v1 => oG (decide (v1 < nT)) (oB (fX1_isBeforeCutting nS nT 9 v1 sc) (fun v4 => (if v4 = 0 then some (Sum.inr (sc.1 9 v1 3)) else oB (fX5_hourOfDay nS nT ((sc.1 0 0 5) + (sc.1 9 v1 3)) sc) (fun v6 => oB (fX4_hoursToWindow nS nT v1 v6 sc) (fun v7 => some (Sum.inr ((((sc.1 9 v1 3) + v7) + 1) + 2))))))))
set_option maxHeartbeats 4000000 in
set_option maxRecDepth 100000 in
theorem kX5_hoursLeft (l : Launch) (hl0 : l.stackTraces = false) (G : xG) (sh : xSh) (sc : xSC) (sr : xSR) (sl : xSL) (a1 : Int32) (r : (String ⊕ Int32)) (hf : fX5_hoursLeft sh.2.1 sh.2.2 a1 sc = some r) : xMet l yX5_hoursLeft zX5_hoursLeft rX5_hoursLeft G sh sc sr sl ([.ref (sh.1 0 0), .int a1] : List Value) (xvI r) (xWd G sh sc sr sl) := by
  refine xMet_of (cc := cX5_hoursLeft) (maxL := 5) (ret := (some .int)) (by decide) (Nat.le_of_ble_eq_true rfl) ?_
  intro p e s m below meth c F hT hW hr hlocks htab ls hl
  have F : CallFix p m c cX5_hoursLeft 5 s ([.ref (sh.1 0 0), .int a1] : List Value).toArray xB RX5 := F
  have hx := F.1
  have hb := F.2.1
  have hS : va_S (xA G) s.heap s.heap [] := va_S.rf
  have hl : lv_has ls 5 [(0, .ref (sh.1 0 0)), (1, .int a1)] := hl
  unfold fX5_hoursLeft at hf
  refine lv_aload_n hx hb dX5_hoursLeft_0 rfl (lv_at hl 0 rfl) ?_
  refine lv_iload_n hx hb dX5_hoursLeft_1 rfl (lv_at hl 1 rfl) ?_
  rcases oT_go hf with ⟨v1, hc11, hf⟩ | ⟨E12, hc11, hf⟩
  · refine xcallV (n := 1) F hT hW hS (xm_fix (by decide)) xce_0 rfl (kX5_movingTenant l hl0 G sh sc sr sl a1  _ hc11) (xgV xw_647 xw_649 xwp_13 xw_1 xw_650) rfl xd_X5_movingTenant ⟨Nat.le_of_ble_eq_true rfl, Nat.le_of_ble_eq_true rfl⟩ rfl hl.1 rfl (Nat.le_of_ble_eq_true rfl) dX5_hoursLeft_2 ⟨Nat.le_of_ble_eq_true rfl, Nat.le_of_ble_eq_true rfl⟩ (fun v9 H locs hres hW hS => ?_) (fun E9 H locs q9 ce9 hres => by cases hres)
    cases hres
    refine W.eq (g2 := F0 m 5 ls (.ref (sh.1 11 v1) :: [])) rfl ?_
    obtain ⟨g3, hf⟩ := oG_go hf
    have h2 : v1 < sh.2.2 := of_decide_eq_true g3
    refine lv_astore_n (lv' := [(2, .ref (sh.1 11 v1)), (0, .ref (sh.1 0 0)), (1, .int a1)]) hx hb dX5_hoursLeft_5 rfl hl (by decide) rfl (fun ls hl => ?_)
    refine lv_aload_n hx hb dX5_hoursLeft_6 rfl (lv_at hl 0 rfl) ?_
    refine xgetN (host := "TenantPlacement") F hT hW xuX4 (xm_T h2 (by decide)) xce_11 rfl 2 (by decide) (List.mem_of_getElem? (i := 13) rfl) rfl rfl dX5_hoursLeft_7 ?_
    refine xgetN (host := "TenantPlacement") F hT hW xuX1 (xm_T h2 (by decide)) (xce_mv (by decide)) rfl 3 (by decide) (List.mem_of_getElem? (i := 20) rfl) rfl rfl dX5_hoursLeft_10 ?_
    refine lv_istore_n (lv' := [(3, .int (sc.1 9 v1 3)), (2, .ref (sh.1 11 v1)), (0, .ref (sh.1 0 0)), (1, .int a1)]) hx hb dX5_hoursLeft_13 rfl hl (by decide) rfl (fun ls hl => ?_)
    refine lv_aload_n hx hb dX5_hoursLeft_14 rfl (lv_at hl 1 rfl) ?_
    refine xgetN (host := "TenantPlacement") F hT hW xuX4 (xm_T h2 (by decide)) xce_11 rfl 2 (by decide) (List.mem_of_getElem? (i := 13) rfl) rfl rfl dX5_hoursLeft_15 ?_
    obtain ⟨v4, hc10, hf⟩ := oB_go hf
    refine xcallV (n := 0) F hT hW hS (xm_T h2 (by decide)) (xce_mv (by decide)) rfl (kX1_isBeforeCutting l hl0 G sh sc sr sl 9 v1 (by decide) (xm_T h2 (by decide)) _ hc10) (xgV xw_565 xw_482 xw_483 xw_3 xw_484) rfl xd_X1_isBeforeCutting ⟨Nat.le_of_ble_eq_true rfl, Nat.le_of_ble_eq_true rfl⟩ rfl hl.1 rfl (Nat.le_of_ble_eq_true rfl) dX5_hoursLeft_18 ⟨Nat.le_of_ble_eq_true rfl, Nat.le_of_ble_eq_true rfl⟩ (fun v9 H locs hres hW hS => ?_) (fun E9 H locs q9 ce9 hres => by cases hres)
    cases hres
    refine W.eq (g2 := F0 m 21 ls (.int v4 :: [])) rfl ?_
    refine lv_if_ne (tgt := 26) hx hb dX5_hoursLeft_21 (by decide) (fun c5 => ?_) (fun c5 => ?_)
    · replace hf := if_f c5 hf
      refine lv_aload_n hx hb dX5_hoursLeft_26 rfl (lv_at hl 1 rfl) ?_
      refine lv_aload_n hx hb dX5_hoursLeft_27 rfl (lv_at hl 2 rfl) ?_
      refine xget F hT hW xuX5 (xm_fix (by decide)) xce_0 rfl 5 (by decide) xw_76 rfl rfl dX5_hoursLeft_28 ?_
      refine lv_iload_n hx hb dX5_hoursLeft_31 rfl (lv_at hl 0 rfl) ?_
      refine lv_iadd hx hb dX5_hoursLeft_32 ?_
      obtain ⟨v6, hc9, hf⟩ := oB_go hf
      refine xcallS (n := 1) F hT hW hS (kX5_hourOfDay l hl0 G sh sc sr sl ((sc.1 0 0 5) + (sc.1 9 v1 3))  _ hc9) (xgS xw_614 xw_615 xw_1 xw_616) rfl xd_X5_hourOfDay.2 ⟨Nat.le_of_ble_eq_true rfl, Nat.le_of_ble_eq_true rfl⟩ rfl hl.1 rfl (Nat.le_of_ble_eq_true rfl) dX5_hoursLeft_33 ⟨Nat.le_of_ble_eq_true rfl, Nat.le_of_ble_eq_true rfl⟩ (fun v9 H locs hres hW hS => ?_) (fun E9 H locs q9 ce9 hres => by cases hres)
      cases hres
      refine W.eq (g2 := F0 m 36 ls (.int v6 :: .ref (sh.1 11 v1) :: [])) rfl ?_
      obtain ⟨v7, hc8, hf⟩ := oB_go hf
      refine xcallV (n := 1) F hT hW hS (xm_T h2 (by decide)) xce_11 rfl (kX4_hoursToWindow l hl0 G sh sc sr sl v1 v6 h2 _ hc8) (xgV xw_673 xw_674 xw_675 xw_16 xw_676) rfl xd_X4_hoursToWindow ⟨Nat.le_of_ble_eq_true rfl, Nat.le_of_ble_eq_true rfl⟩ rfl hl.1 rfl (Nat.le_of_ble_eq_true rfl) dX5_hoursLeft_36 ⟨Nat.le_of_ble_eq_true rfl, Nat.le_of_ble_eq_true rfl⟩ (fun v9 H locs hres hW hS => ?_) (fun E9 H locs q9 ce9 hres => by cases hres)
      cases hres
      refine W.eq (g2 := F0 m 39 ls (.int v7 :: [])) rfl ?_
      refine lv_istore (lv' := [(4, .int v7), (3, .int (sc.1 9 v1 3)), (2, .ref (sh.1 11 v1)), (0, .ref (sh.1 0 0)), (1, .int a1)]) hx hb dX5_hoursLeft_39 hl (by decide) rfl (fun ls hl => ?_)
      refine lv_iload_n hx hb dX5_hoursLeft_41 rfl (lv_at hl 1 rfl) ?_
      refine lv_iload hx hb dX5_hoursLeft_42 (lv_at hl 0 rfl) ?_
      refine lv_iadd hx hb dX5_hoursLeft_44 ?_
      refine lv_iconst (v := 1) hx hb dX5_hoursLeft_45 (by decide) ?_
      refine lv_iadd hx hb dX5_hoursLeft_46 ?_
      refine lv_iconst (v := 2) hx hb dX5_hoursLeft_47 (by decide) ?_
      refine lv_iadd hx hb dX5_hoursLeft_48 ?_
      cases hf
      exact xret_i (ty := .int) F hr hlocks hS rfl rfl hW (Nat.le_of_ble_eq_true rfl) (Nat.le_of_ble_eq_true rfl) dX5_hoursLeft_49
    · replace hf := if_t c5 hf
      refine lv_iload_n hx hb dX5_hoursLeft_24 rfl (lv_at hl 0 rfl) ?_
      cases hf
      exact xret_i (ty := .int) F hr hlocks hS rfl rfl hW (Nat.le_of_ble_eq_true rfl) (Nat.le_of_ble_eq_true rfl) dX5_hoursLeft_25
  · refine xcallV (n := 1) F hT hW hS (xm_fix (by decide)) xce_0 rfl (kX5_movingTenant l hl0 G sh sc sr sl a1  _ hc11) (xgV xw_647 xw_649 xwp_13 xw_1 xw_650) rfl xd_X5_movingTenant ⟨Nat.le_of_ble_eq_true rfl, Nat.le_of_ble_eq_true rfl⟩ rfl hl.1 rfl (Nat.le_of_ble_eq_true rfl) dX5_hoursLeft_2 ⟨Nat.le_of_ble_eq_true rfl, Nat.le_of_ble_eq_true rfl⟩ (fun v9 H locs hres => by cases hres) (fun E9 H locs q9 ce9 hres hW hS hcell hv9 hcl => ?_)
    cases hres
    cases hf
    exact xout htab hlocks hS rfl hW hcell hv9 hcl (Nat.le_of_ble_eq_true rfl) (Nat.le_of_ble_eq_true rfl)
abbrev rX5_hoursOver : Room := { frames := 0, cells := 0, slots := 0, locals := 0 }
abbrev zX5_hoursOver : List Cond := Cond.code yX5_hoursOver cX5_hoursOver 1 (some .long) :: xB
theorem xd_X5_hoursOver : yX5_hoursOver.cls = RX5 ∧ yX5_hoursOver.cls ≠ "java/lang/invoke/MethodHandle" ∧ yX5_hoursOver.cls ≠ "java/lang/invoke/VarHandle" ∧ (parseMethodDescriptor yX5_hoursOver.desc).map (fun d => d.parameters.length) = some 0 := by decide +kernel
def fX5_hoursOver (nS : Nat) (nT : Nat) (sc : xSC) : Option Int64 := some sc.2
set_option maxHeartbeats 4000000 in
set_option maxRecDepth 100000 in
theorem kX5_hoursOver (l : Launch) (hl0 : l.stackTraces = false) (G : xG) (sh : xSh) (sc : xSC) (sr : xSR) (sl : xSL) (r : Int64) (hf : fX5_hoursOver sh.2.1 sh.2.2 sc = some r) : xMet l yX5_hoursOver zX5_hoursOver rX5_hoursOver G sh sc sr sl ([.ref (sh.1 0 0)] : List Value) (xvL (.inr r)) (xWd G sh sc sr sl) := by
  refine xMet_of (cc := cX5_hoursOver) (maxL := 1) (ret := (some .long)) (by decide) (Nat.le_of_ble_eq_true rfl) ?_
  intro p e s m below meth c F hT hW hr hlocks htab ls hl
  have F : CallFix p m c cX5_hoursOver 1 s ([.ref (sh.1 0 0)] : List Value).toArray xB RX5 := F
  have hx := F.1
  have hb := F.2.1
  have hS : va_S (xA G) s.heap s.heap [] := va_S.rf
  have hl : lv_has ls 1 [(0, .ref (sh.1 0 0))] := hl
  unfold fX5_hoursOver at hf
  refine lv_aload_n hx hb dX5_hoursOver_0 rfl (lv_at hl 0 rfl) ?_
  refine xget F hT hW xuX5 (xm_fix (by decide)) xce_0 rfl 7 (by decide) xw_78 rfl rfl dX5_hoursOver_1 ?_
  cases hf
  exact xret_l F hr hlocks hS rfl hW (Nat.le_of_ble_eq_true rfl) (Nat.le_of_ble_eq_true rfl) dX5_hoursOver_4
abbrev rX5_isOver : Room := { frames := 7, cells := 1, slots := 6, locals := 112 }
abbrev zX5_isOver : List Cond := Cond.code yX5_isOver cX5_isOver 2 (some .boolean) :: xB
theorem xd_X5_isOver : yX5_isOver.cls = RX5 ∧ yX5_isOver.cls ≠ "java/lang/invoke/MethodHandle" ∧ yX5_isOver.cls ≠ "java/lang/invoke/VarHandle" ∧ (parseMethodDescriptor yX5_isOver.desc).map (fun d => d.parameters.length) = some 1 := by decide +kernel
def fX5_isOver (nS : Nat) (nT : Nat) (a1 : Int32) (sc : xSC) : Option (String ⊕ Int32) := oT (fX5_knownShard nS nT a1 sc) (fun E8 => some (Sum.inl E8)) (fun v1 => oG (decide (v1 < nS)) (oB (fX3_usesTooMuch nS nT v1 sc) (fun v4 => oG (xnb .boolean v4) (some (Sum.inr v4)))))
set_option maxHeartbeats 4000000 in
set_option maxRecDepth 100000 in
theorem kX5_isOver (l : Launch) (hl0 : l.stackTraces = false) (G : xG) (sh : xSh) (sc : xSC) (sr : xSR) (sl : xSL) (a1 : Int32) (r : (String ⊕ Int32)) (hf : fX5_isOver sh.2.1 sh.2.2 a1 sc = some r) : xMet l yX5_isOver zX5_isOver rX5_isOver G sh sc sr sl ([.ref (sh.1 0 0), .int a1] : List Value) (xvI r) (xWd G sh sc sr sl) := by
  refine xMet_of (cc := cX5_isOver) (maxL := 2) (ret := (some .boolean)) (by decide) (Nat.le_of_ble_eq_true rfl) ?_
  intro p e s m below meth c F hT hW hr hlocks htab ls hl
  have F : CallFix p m c cX5_isOver 2 s ([.ref (sh.1 0 0), .int a1] : List Value).toArray xB RX5 := F
  have hx := F.1
  have hb := F.2.1
  have hS : va_S (xA G) s.heap s.heap [] := va_S.rf
  have hl : lv_has ls 2 [(0, .ref (sh.1 0 0)), (1, .int a1)] := hl
  unfold fX5_isOver at hf
  refine lv_aload_n hx hb dX5_isOver_0 rfl (lv_at hl 0 rfl) ?_
  refine lv_iload_n hx hb dX5_isOver_1 rfl (lv_at hl 1 rfl) ?_
  rcases oT_go hf with ⟨v1, hc7, hf⟩ | ⟨E8, hc7, hf⟩
  · refine xcallV (n := 1) F hT hW hS (xm_fix (by decide)) xce_0 rfl (kX5_knownShard l hl0 G sh sc sr sl a1  _ hc7) (xgV xw_354 xw_356 xwp_2 xw_1 xw_357) rfl xd_X5_knownShard ⟨Nat.le_of_ble_eq_true rfl, Nat.le_of_ble_eq_true rfl⟩ rfl hl.1 rfl (Nat.le_of_ble_eq_true rfl) dX5_isOver_2 ⟨Nat.le_of_ble_eq_true rfl, Nat.le_of_ble_eq_true rfl⟩ (fun v9 H locs hres hW hS => ?_) (fun E9 H locs q9 ce9 hres => by cases hres)
    cases hres
    refine W.eq (g2 := F0 m 5 ls (.ref (sh.1 4 v1) :: [])) rfl ?_
    obtain ⟨g3, hf⟩ := oG_go hf
    have h2 : v1 < sh.2.1 := of_decide_eq_true g3
    obtain ⟨v4, hc6, hf⟩ := oB_go hf
    refine xcallV (n := 0) F hT hW hS (xm_S h2 (by decide)) xce_4 rfl (kX3_usesTooMuch l hl0 G sh sc sr sl v1 h2 _ hc6) (xgV xw_602 xw_603 xw_604 xw_10 xw_605) rfl xd_X3_usesTooMuch ⟨Nat.le_of_ble_eq_true rfl, Nat.le_of_ble_eq_true rfl⟩ rfl hl.1 rfl (Nat.le_of_ble_eq_true rfl) dX5_isOver_5 ⟨Nat.le_of_ble_eq_true rfl, Nat.le_of_ble_eq_true rfl⟩ (fun v9 H locs hres hW hS => ?_) (fun E9 H locs q9 ce9 hres => by cases hres)
    cases hres
    refine W.eq (g2 := F0 m 8 ls (.int v4 :: [])) rfl ?_
    obtain ⟨g5, hf⟩ := oG_go hf
    cases hf
    exact xret_i (ty := .boolean) F hr hlocks hS (xnb_ok g5).1 rfl hW (Nat.le_of_ble_eq_true rfl) (Nat.le_of_ble_eq_true rfl) dX5_isOver_8
  · refine xcallV (n := 1) F hT hW hS (xm_fix (by decide)) xce_0 rfl (kX5_knownShard l hl0 G sh sc sr sl a1  _ hc7) (xgV xw_354 xw_356 xwp_2 xw_1 xw_357) rfl xd_X5_knownShard ⟨Nat.le_of_ble_eq_true rfl, Nat.le_of_ble_eq_true rfl⟩ rfl hl.1 rfl (Nat.le_of_ble_eq_true rfl) dX5_isOver_2 ⟨Nat.le_of_ble_eq_true rfl, Nat.le_of_ble_eq_true rfl⟩ (fun v9 H locs hres => by cases hres) (fun E9 H locs q9 ce9 hres hW hS hcell hv9 hcl => ?_)
    cases hres
    cases hf
    exact xout htab hlocks hS rfl hW hcell hv9 hcl (Nat.le_of_ble_eq_true rfl) (Nat.le_of_ble_eq_true rfl)
abbrev rX5_keepApart : Room := { frames := 7, cells := 3, slots := 18, locals := 112 }
abbrev zX5_keepApart : List Cond := Cond.code yX5_keepApart cX5_keepApart 5 (some .int) :: xB
theorem xd_X5_keepApart : yX5_keepApart.cls = RX5 ∧ yX5_keepApart.cls ≠ "java/lang/invoke/MethodHandle" ∧ yX5_keepApart.cls ≠ "java/lang/invoke/VarHandle" ∧ (parseMethodDescriptor yX5_keepApart.desc).map (fun d => d.parameters.length) = some 2 := by decide +kernel
def fX5_keepApart (nS : Nat) (nT : Nat) (a1 : Int32) (a2 : Int32) (sc : xSC) : Option ((String ⊕ Int32) × xSC) := oT (fX5_knownTenant nS nT a1 sc) (fun E15 => some ((Sum.inl E15), sc)) (fun v1 => oG (decide (v1 < nT)) (oT (fX5_knownTenant nS nT a2 sc) (fun E13 => some ((Sum.inl E13), sc)) (fun v4 => oG (decide (v4 < nT)) ((if a1 = a2 then some ((Sum.inl "java/lang/IllegalArgumentException"), sc) else oB (fX4_isApartFrom nS nT v1 a2 sc) (fun v8 => (if v8 = 0 then (if (sc.1 0 0 4) < 6 then some ((Sum.inr ((xuC (xuC (xuC sc.1 11 v1 6 ((sc.1 11 v1 6) ||| (1 <<< (a2 &&& 31))), sc.2).1 11 v4 6 (((xuC sc.1 11 v1 6 ((sc.1 11 v1 6) ||| (1 <<< (a2 &&& 31))), sc.2).1 11 v4 6) ||| (1 <<< (a1 &&& 31))), (xuC sc.1 11 v1 6 ((sc.1 11 v1 6) ||| (1 <<< (a2 &&& 31))), sc.2).2).1 0 0 4 (((xuC (xuC sc.1 11 v1 6 ((sc.1 11 v1 6) ||| (1 <<< (a2 &&& 31))), sc.2).1 11 v4 6 (((xuC sc.1 11 v1 6 ((sc.1 11 v1 6) ||| (1 <<< (a2 &&& 31))), sc.2).1 11 v4 6) ||| (1 <<< (a1 &&& 31))), (xuC sc.1 11 v1 6 ((sc.1 11 v1 6) ||| (1 <<< (a2 &&& 31))), sc.2).2).1 0 0 4) + 1), (xuC (xuC sc.1 11 v1 6 ((sc.1 11 v1 6) ||| (1 <<< (a2 &&& 31))), sc.2).1 11 v4 6 (((xuC sc.1 11 v1 6 ((sc.1 11 v1 6) ||| (1 <<< (a2 &&& 31))), sc.2).1 11 v4 6) ||| (1 <<< (a1 &&& 31))), (xuC sc.1 11 v1 6 ((sc.1 11 v1 6) ||| (1 <<< (a2 &&& 31))), sc.2).2).2).1 0 0 4)), (xuC (xuC (xuC sc.1 11 v1 6 ((sc.1 11 v1 6) ||| (1 <<< (a2 &&& 31))), sc.2).1 11 v4 6 (((xuC sc.1 11 v1 6 ((sc.1 11 v1 6) ||| (1 <<< (a2 &&& 31))), sc.2).1 11 v4 6) ||| (1 <<< (a1 &&& 31))), (xuC sc.1 11 v1 6 ((sc.1 11 v1 6) ||| (1 <<< (a2 &&& 31))), sc.2).2).1 0 0 4 (((xuC (xuC sc.1 11 v1 6 ((sc.1 11 v1 6) ||| (1 <<< (a2 &&& 31))), sc.2).1 11 v4 6 (((xuC sc.1 11 v1 6 ((sc.1 11 v1 6) ||| (1 <<< (a2 &&& 31))), sc.2).1 11 v4 6) ||| (1 <<< (a1 &&& 31))), (xuC sc.1 11 v1 6 ((sc.1 11 v1 6) ||| (1 <<< (a2 &&& 31))), sc.2).2).1 0 0 4) + 1), (xuC (xuC sc.1 11 v1 6 ((sc.1 11 v1 6) ||| (1 <<< (a2 &&& 31))), sc.2).1 11 v4 6 (((xuC sc.1 11 v1 6 ((sc.1 11 v1 6) ||| (1 <<< (a2 &&& 31))), sc.2).1 11 v4 6) ||| (1 <<< (a1 &&& 31))), (xuC sc.1 11 v1 6 ((sc.1 11 v1 6) ||| (1 <<< (a2 &&& 31))), sc.2).2).2)) else some ((Sum.inl "java/lang/IllegalStateException"), sc)) else some ((Sum.inl "java/lang/UnsupportedOperationException"), sc))))))))
set_option maxHeartbeats 4000000 in
set_option maxRecDepth 100000 in
theorem kX5_keepApart (l : Launch) (hl0 : l.stackTraces = false) (G : xG) (sh : xSh) (sc : xSC) (sr : xSR) (sl : xSL) (a1 : Int32) (a2 : Int32) (r : ((String ⊕ Int32) × xSC)) (hf : fX5_keepApart sh.2.1 sh.2.2 a1 a2 sc = some r) : xMet l yX5_keepApart zX5_keepApart rX5_keepApart G sh sc sr sl ([.ref (sh.1 0 0), .int a1, .int a2] : List Value) (xvI r.1) (xWd G sh r.2 sr sl) := by
  refine xMet_of (cc := cX5_keepApart) (maxL := 5) (ret := (some .int)) (by decide) (Nat.le_of_ble_eq_true rfl) ?_
  intro p e s m below meth c F hT hW hr hlocks htab ls hl
  have F : CallFix p m c cX5_keepApart 5 s ([.ref (sh.1 0 0), .int a1, .int a2] : List Value).toArray xB RX5 := F
  have hx := F.1
  have hb := F.2.1
  have hS : va_S (xA G) s.heap s.heap [] := va_S.rf
  have hl : lv_has ls 5 [(0, .ref (sh.1 0 0)), (1, .int a1), (2, .int a2)] := hl
  unfold fX5_keepApart at hf
  refine lv_aload_n hx hb dX5_keepApart_0 rfl (lv_at hl 0 rfl) ?_
  refine lv_iload_n hx hb dX5_keepApart_1 rfl (lv_at hl 1 rfl) ?_
  rcases oT_go hf with ⟨v1, hc14, hf⟩ | ⟨E15, hc14, hf⟩
  · refine xcallV (n := 1) F hT hW hS (xm_fix (by decide)) xce_0 rfl (kX5_knownTenant l hl0 G sh sc sr sl a1  _ hc14) (xgV xw_497 xw_499 xwp_5 xw_1 xw_500) rfl xd_X5_knownTenant ⟨Nat.le_of_ble_eq_true rfl, Nat.le_of_ble_eq_true rfl⟩ rfl hl.1 rfl (Nat.le_of_ble_eq_true rfl) dX5_keepApart_2 ⟨Nat.le_of_ble_eq_true rfl, Nat.le_of_ble_eq_true rfl⟩ (fun v9 H locs hres hW hS => ?_) (fun E9 H locs q9 ce9 hres => by cases hres)
    cases hres
    refine W.eq (g2 := F0 m 5 ls (.ref (sh.1 11 v1) :: [])) rfl ?_
    obtain ⟨g3, hf⟩ := oG_go hf
    have h2 : v1 < sh.2.2 := of_decide_eq_true g3
    refine lv_astore_n (lv' := [(3, .ref (sh.1 11 v1)), (0, .ref (sh.1 0 0)), (1, .int a1), (2, .int a2)]) hx hb dX5_keepApart_5 rfl hl (by decide) rfl (fun ls hl => ?_)
    refine lv_aload_n hx hb dX5_keepApart_6 rfl (lv_at hl 1 rfl) ?_
    refine lv_iload_n hx hb dX5_keepApart_7 rfl (lv_at hl 3 rfl) ?_
    rcases oT_go hf with ⟨v4, hc12, hf⟩ | ⟨E13, hc12, hf⟩
    · refine xcallV (n := 1) F hT hW hS (xm_fix (by decide)) xce_0 rfl (kX5_knownTenant l hl0 G sh sc sr sl a2  _ hc12) (xgV xw_497 xw_499 xwp_5 xw_1 xw_500) rfl xd_X5_knownTenant ⟨Nat.le_of_ble_eq_true rfl, Nat.le_of_ble_eq_true rfl⟩ rfl hl.1 rfl (Nat.le_of_ble_eq_true rfl) dX5_keepApart_8 ⟨Nat.le_of_ble_eq_true rfl, Nat.le_of_ble_eq_true rfl⟩ (fun v9 H locs hres hW hS => ?_) (fun E9 H locs q9 ce9 hres => by cases hres)
      cases hres
      refine W.eq (g2 := F0 m 11 ls (.ref (sh.1 11 v4) :: [])) rfl ?_
      obtain ⟨g6, hf⟩ := oG_go hf
      have h5 : v4 < sh.2.2 := of_decide_eq_true g6
      refine lv_astore (lv' := [(4, .ref (sh.1 11 v4)), (3, .ref (sh.1 11 v1)), (0, .ref (sh.1 0 0)), (1, .int a1), (2, .int a2)]) hx hb dX5_keepApart_11 hl (by decide) rfl (fun ls hl => ?_)
      refine lv_iload_n hx hb dX5_keepApart_13 rfl (lv_at hl 3 rfl) ?_
      refine lv_iload_n hx hb dX5_keepApart_14 rfl (lv_at hl 4 rfl) ?_
      refine lv_icmp_ne (tgt := 28) hx hb dX5_keepApart_15 (by decide) (fun c7 => ?_) (fun c7 => ?_)
      · replace hf := if_f c7 hf
        refine lv_aload_n hx hb dX5_keepApart_28 rfl (lv_at hl 1 rfl) ?_
        refine lv_iload_n hx hb dX5_keepApart_29 rfl (lv_at hl 4 rfl) ?_
        obtain ⟨v8, hc11, hf⟩ := oB_go hf
        refine xcallV (n := 1) F hT hW hS (xm_T h2 (by decide)) xce_11 rfl (kX4_isApartFrom l hl0 G sh sc sr sl v1 a2 h2 _ hc11) (xgV xw_524 xw_525 xw_526 xw_16 xw_527) rfl xd_X4_isApartFrom ⟨Nat.le_of_ble_eq_true rfl, Nat.le_of_ble_eq_true rfl⟩ rfl hl.1 rfl (Nat.le_of_ble_eq_true rfl) dX5_keepApart_30 ⟨Nat.le_of_ble_eq_true rfl, Nat.le_of_ble_eq_true rfl⟩ (fun v9 H locs hres hW hS => ?_) (fun E9 H locs q9 ce9 hres => by cases hres)
        cases hres
        refine W.eq (g2 := F0 m 33 ls (.int v8 :: [])) rfl ?_
        refine lv_if_eq (tgt := 46) hx hb dX5_keepApart_33 (by decide) (fun c9 => ?_) (fun c9 => ?_)
        · replace hf := if_t c9 hf
          refine lv_aload_n hx hb dX5_keepApart_46 rfl (lv_at hl 2 rfl) ?_
          refine xget F hT hW xuX5 (xm_fix (by decide)) xce_0 rfl 4 (by decide) xw_75 rfl rfl dX5_keepApart_47 ?_
          refine lv_bipush (v := 6) hx hb dX5_keepApart_50 (by decide) ?_
          refine lv_icmp_lt (tgt := 65) hx hb dX5_keepApart_52 (by decide) (fun c10 => ?_) (fun c10 => ?_)
          · replace hf := if_t c10 hf
            refine lv_aload_n hx hb dX5_keepApart_65 rfl (lv_at hl 1 rfl) ?_
            refine lv_dup hx hb dX5_keepApart_66 rfl ?_
            refine xgetN (host := "TenantPlacement") F hT hW xuX4 (xm_T h2 (by decide)) xce_11 rfl 6 (by decide) (List.mem_of_getElem? (i := 12) rfl) rfl rfl dX5_keepApart_67 ?_
            refine lv_iconst (v := 1) hx hb dX5_keepApart_70 (by decide) ?_
            refine lv_iload_n hx hb dX5_keepApart_71 rfl (lv_at hl 4 rfl) ?_
            refine lv_ishl hx hb dX5_keepApart_72 ?_
            refine lv_ior hx hb dX5_keepApart_73 ?_
            refine xputN (host := "TenantPlacement") (ty := .int) F hT hW hS xuX4 tyX4 tyX4_ok nmX4 (xm_T h2 (by decide)) xce_11 rfl 6 (by decide) (List.mem_of_getElem? (i := 12) rfl) rfl rfl rfl rfl rfl (Nat.le_of_ble_eq_true rfl) xup_11_6 dX5_keepApart_74 (fun H locs hW hS => ?_)
            refine lv_aload hx hb dX5_keepApart_77 (lv_at hl 0 rfl) ?_
            refine lv_dup hx hb dX5_keepApart_79 rfl ?_
            refine xgetN (host := "TenantPlacement") F hT hW xuX4 (xm_T h5 (by decide)) xce_11 rfl 6 (by decide) (List.mem_of_getElem? (i := 12) rfl) rfl rfl dX5_keepApart_80 ?_
            refine lv_iconst (v := 1) hx hb dX5_keepApart_83 (by decide) ?_
            refine lv_iload_n hx hb dX5_keepApart_84 rfl (lv_at hl 3 rfl) ?_
            refine lv_ishl hx hb dX5_keepApart_85 ?_
            refine lv_ior hx hb dX5_keepApart_86 ?_
            refine xputN (host := "TenantPlacement") (ty := .int) F hT hW hS xuX4 tyX4 tyX4_ok nmX4 (xm_T h5 (by decide)) xce_11 rfl 6 (by decide) (List.mem_of_getElem? (i := 12) rfl) rfl rfl rfl rfl rfl (Nat.le_of_ble_eq_true rfl) xup_11_6 dX5_keepApart_87 (fun H locs hW hS => ?_)
            refine lv_aload_n hx hb dX5_keepApart_90 rfl (lv_at hl 2 rfl) ?_
            refine lv_dup hx hb dX5_keepApart_91 rfl ?_
            refine xget F hT hW xuX5 (xm_fix (by decide)) xce_0 rfl 4 (by decide) xw_75 rfl rfl dX5_keepApart_92 ?_
            refine lv_iconst (v := 1) hx hb dX5_keepApart_95 (by decide) ?_
            refine lv_iadd hx hb dX5_keepApart_96 ?_
            refine xput (ty := .int) F hT hW hS xuX5 tyX5 tyX5_ok nmX5 (xm_fix (by decide)) xce_0 rfl 4 (by decide) xw_75 rfl rfl rfl rfl rfl (Nat.le_of_ble_eq_true rfl) xup_0_4 dX5_keepApart_97 (fun H locs hW hS => ?_)
            refine lv_aload_n hx hb dX5_keepApart_100 rfl (lv_at hl 2 rfl) ?_
            refine xget F hT hW xuX5 (xm_fix (by decide)) xce_0 rfl 4 (by decide) xw_75 rfl rfl dX5_keepApart_101 ?_
            cases hf
            exact xret_i (ty := .int) F hr hlocks hS rfl rfl hW (Nat.le_of_ble_eq_true rfl) (Nat.le_of_ble_eq_true rfl) dX5_keepApart_104
          · replace hf := if_f c10 hf
            cases hf
            refine xthrow (cls := "java/lang/IllegalStateException") (text := "there are 6 pairs") (ik := 43) (is := 130) (ic := 47) F hT hW hS hl0 hlocks htab hl.1 xw_261 xw_9 (List.mem_of_getElem? (i := 5) rfl) xh_47 xb_47 (by decide +kernel) xg_47 (Nat.le_of_ble_eq_true rfl) (Nat.le_of_ble_eq_true rfl) (Nat.le_of_ble_eq_true rfl) (Nat.le_of_ble_eq_true rfl) ?_ ?_ (Nat.le_of_ble_eq_true rfl) (Nat.le_of_ble_eq_true rfl) dX5_keepApart_55 dX5_keepApart_58 dX5_keepApart_59 dX5_keepApart_61 dX5_keepApart_64
            · rfl
            · exact fun H h => h
        · replace hf := if_f c9 hf
          cases hf
          refine xthrow (cls := "java/lang/UnsupportedOperationException") (text := "the tenants are kept apart already") (ik := 82) (is := 125) (ic := 86) F hT hW hS hl0 hlocks htab hl.1 xw_406 xw_15 (List.mem_of_getElem? (i := 4) rfl) xh_86 xb_86 (by decide +kernel) xg_86 (Nat.le_of_ble_eq_true rfl) (Nat.le_of_ble_eq_true rfl) (Nat.le_of_ble_eq_true rfl) (Nat.le_of_ble_eq_true rfl) ?_ ?_ (Nat.le_of_ble_eq_true rfl) (Nat.le_of_ble_eq_true rfl) dX5_keepApart_36 dX5_keepApart_39 dX5_keepApart_40 dX5_keepApart_42 dX5_keepApart_45
          · rfl
          · exact fun H h => h
      · replace hf := if_t c7 hf
        cases hf
        refine xthrow (cls := "java/lang/IllegalArgumentException") (text := "both tenants are the same") (ik := 116) (is := 118) (ic := 120) F hT hW hS hl0 hlocks htab hl.1 xw_188 xw_8 (List.mem_of_getElem? (i := 3) rfl) xh_120 xb_120 (by decide +kernel) xg_120 (Nat.le_of_ble_eq_true rfl) (Nat.le_of_ble_eq_true rfl) (Nat.le_of_ble_eq_true rfl) (Nat.le_of_ble_eq_true rfl) ?_ ?_ (Nat.le_of_ble_eq_true rfl) (Nat.le_of_ble_eq_true rfl) dX5_keepApart_18 dX5_keepApart_21 dX5_keepApart_22 dX5_keepApart_24 dX5_keepApart_27
        · rfl
        · exact fun H h => h
    · refine xcallV (n := 1) F hT hW hS (xm_fix (by decide)) xce_0 rfl (kX5_knownTenant l hl0 G sh sc sr sl a2  _ hc12) (xgV xw_497 xw_499 xwp_5 xw_1 xw_500) rfl xd_X5_knownTenant ⟨Nat.le_of_ble_eq_true rfl, Nat.le_of_ble_eq_true rfl⟩ rfl hl.1 rfl (Nat.le_of_ble_eq_true rfl) dX5_keepApart_8 ⟨Nat.le_of_ble_eq_true rfl, Nat.le_of_ble_eq_true rfl⟩ (fun v9 H locs hres => by cases hres) (fun E9 H locs q9 ce9 hres hW hS hcell hv9 hcl => ?_)
      cases hres
      cases hf
      exact xout htab hlocks hS rfl hW hcell hv9 hcl (Nat.le_of_ble_eq_true rfl) (Nat.le_of_ble_eq_true rfl)
  · refine xcallV (n := 1) F hT hW hS (xm_fix (by decide)) xce_0 rfl (kX5_knownTenant l hl0 G sh sc sr sl a1  _ hc14) (xgV xw_497 xw_499 xwp_5 xw_1 xw_500) rfl xd_X5_knownTenant ⟨Nat.le_of_ble_eq_true rfl, Nat.le_of_ble_eq_true rfl⟩ rfl hl.1 rfl (Nat.le_of_ble_eq_true rfl) dX5_keepApart_2 ⟨Nat.le_of_ble_eq_true rfl, Nat.le_of_ble_eq_true rfl⟩ (fun v9 H locs hres => by cases hres) (fun E9 H locs q9 ce9 hres hW hS hcell hv9 hcl => ?_)
    cases hres
    cases hf
    exact xout htab hlocks hS rfl hW hcell hv9 hcl (Nat.le_of_ble_eq_true rfl) (Nat.le_of_ble_eq_true rfl)
abbrev rX5_meanStorage : Room := { frames := 6, cells := 1, slots := 6, locals := 90 }
abbrev zX5_meanStorage : List Cond := Cond.code yX5_meanStorage cX5_meanStorage 7 (some .double) :: xB
theorem xd_X5_meanStorage : yX5_meanStorage.cls = RX5 ∧ yX5_meanStorage.cls ≠ "java/lang/invoke/MethodHandle" ∧ yX5_meanStorage.cls ≠ "java/lang/invoke/VarHandle" ∧ (parseMethodDescriptor yX5_meanStorage.desc).map (fun d => d.parameters.length) = some 0 := by decide +kernel
def fX5_meanStorage_K1 (x1L1 : Int32) (x2L1 : Int32) (x5L1 : Int32) : Option (String ⊕ UInt64) := (if 1 ≤ x2L1 then oG (xn64 (FP.ddiv (FP.i2d x1L1) (FP.i2d x2L1))) (some (Sum.inr (FP.ddiv (FP.i2d x1L1) (FP.i2d x2L1)))) else some (Sum.inl "java/lang/ArithmeticException"))
def fX5_meanStorage_L1 (nS : Nat) (nT : Nat) (sc : xSC) (k_L1 : Int32 → Int32 → Int32 → Option (String ⊕ UInt64)) : Nat → Int32 → Int32 → Int32 → Option (String ⊕ UInt64)
  | 0, _, _, _ => none
  | n + 1, x1L1, x2L1, x5L1 => (if 6 ≤ x5L1 then k_L1 x1L1 x2L1 x5L1 else oG (xinb x5L1 6) (oN (xel nT x5L1) ((fX5_meanStorage_L1 nS nT sc k_L1 n) x1L1 x2L1 (x5L1 + 1)) (fun jq4 => oB (fX0_of nS nT 8 jq4 0 sc) (fun v8 => (fX5_meanStorage_L1 nS nT sc k_L1 n) (x1L1 + v8) (x2L1 + 1) (x5L1 + 1)))))
def fX5_meanStorage (nS : Nat) (nT : Nat) (sc : xSC) : Option (String ⊕ UInt64) := fX5_meanStorage_L1 nS nT sc (fX5_meanStorage_K1) 64 0 0 0
set_option maxHeartbeats 4000000 in
set_option maxRecDepth 100000 in
theorem kX5_meanStorage (l : Launch) (hl0 : l.stackTraces = false) (G : xG) (sh : xSh) (sc : xSC) (sr : xSR) (sl : xSL) (r : (String ⊕ UInt64)) (hf : fX5_meanStorage sh.2.1 sh.2.2 sc = some r) : xMet l yX5_meanStorage zX5_meanStorage rX5_meanStorage G sh sc sr sl ([.ref (sh.1 0 0)] : List Value) (xvD r) (xWd G sh sc sr sl) := by
  refine xMet_of (cc := cX5_meanStorage) (maxL := 7) (ret := (some .double)) (by decide) (Nat.le_of_ble_eq_true rfl) ?_
  intro p e s m below meth c F hT hW hr hlocks htab ls hl
  have F : CallFix p m c cX5_meanStorage 7 s ([.ref (sh.1 0 0)] : List Value).toArray xB RX5 := F
  have hx := F.1
  have hb := F.2.1
  have hS : va_S (xA G) s.heap s.heap [] := va_S.rf
  have hl : lv_has ls 7 [(0, .ref (sh.1 0 0))] := hl
  unfold fX5_meanStorage at hf
  refine lv_iconst (v := 0) hx hb dX5_meanStorage_0 (by decide) ?_
  refine lv_istore_n (lv' := [(1, .int 0), (0, .ref (sh.1 0 0))]) hx hb dX5_meanStorage_1 rfl hl (by decide) rfl (fun ls hl => ?_)
  refine lv_iconst (v := 0) hx hb dX5_meanStorage_2 (by decide) ?_
  refine lv_istore_n (lv' := [(2, .int 0), (1, .int 0), (0, .ref (sh.1 0 0))]) hx hb dX5_meanStorage_3 rfl hl (by decide) rfl (fun ls hl => ?_)
  refine lv_aload_n hx hb dX5_meanStorage_4 rfl (lv_at hl 2 rfl) ?_
  refine xget F hT hW xuX5 (xm_fix (by decide)) xce_0 rfl 1 (by decide) xw_72 rfl rfl dX5_meanStorage_5 ?_
  refine lv_astore_n (lv' := [(3, .ref (sh.1 2 0)), (2, .int 0), (1, .int 0), (0, .ref (sh.1 0 0))]) hx hb dX5_meanStorage_8 rfl hl (by decide) rfl (fun ls hl => ?_)
  refine lv_aload_n hx hb dX5_meanStorage_9 rfl (lv_at hl 0 rfl) ?_
  refine xalenT F hT hW dX5_meanStorage_10 ?_
  refine lv_istore (lv' := [(4, .int 6), (3, .ref (sh.1 2 0)), (2, .int 0), (1, .int 0), (0, .ref (sh.1 0 0))]) hx hb dX5_meanStorage_11 hl (by decide) rfl (fun ls hl => ?_)
  refine lv_iconst (v := 0) hx hb dX5_meanStorage_13 (by decide) ?_
  refine lv_istore (lv' := [(5, .int 0), (4, .int 6), (3, .ref (sh.1 2 0)), (2, .int 0), (1, .int 0), (0, .ref (sh.1 0 0))]) hx hb dX5_meanStorage_14 hl (by decide) rfl (fun ls hl => ?_)
  have hx_L1 : ∀ (x1L1 : Int32) (x2L1 : Int32) (x5L1 : Int32), fX5_meanStorage_K1 x1L1 x2L1 x5L1 = some r → ∀ (H : Heap) (locs : List Loc), xWd G sh sc sr sl H → va_S (xA G) s.heap H locs → ∀ ls : Array Slot, lv_has ls 7 [(1, .int x1L1), (2, .int x2L1)] → W p l e rX5_meanStorage s m ([.ref (sh.1 0 0)] : List Value).toArray below meth c H locs 0 0 (xQ below G (xvD r) (xWd G sh sc sr sl) ([.ref (sh.1 0 0)] : List Value).toArray s 1 6) (F0 m 55 ls []) := by
    intro x1L1 x2L1 x5L1 hf H locs hW hS ls hl
    unfold fX5_meanStorage_K1 at hf
    refine lv_iload_n hx hb dX5_meanStorage_55 rfl (lv_at hl 1 rfl) ?_
    refine lv_iconst (v := 1) hx hb dX5_meanStorage_56 (by decide) ?_
    refine lv_icmp_ge (tgt := 71) hx hb dX5_meanStorage_57 (by decide) (fun c1 => ?_) (fun c1 => ?_)
    · replace hf := if_t c1 hf
      refine lv_iload_n hx hb dX5_meanStorage_71 rfl (lv_at hl 0 rfl) ?_
      refine lv_i2d hx hb dX5_meanStorage_72 ?_
      refine lv_iload_n hx hb dX5_meanStorage_73 rfl (lv_at hl 1 rfl) ?_
      refine lv_i2d hx hb dX5_meanStorage_74 ?_
      obtain ⟨g2, hf⟩ := oG_go hf
      refine lv_ddiv hx hb dX5_meanStorage_75 (xn64_ok g2) ?_
      cases hf
      exact xret_d F hr hlocks hS rfl hW (Nat.le_of_ble_eq_true rfl) (Nat.le_of_ble_eq_true rfl) dX5_meanStorage_76
    · replace hf := if_f c1 hf
      cases hf
      refine xthrowW (cls := "java/lang/ArithmeticException") (text := "there are no tenants") (ik := 270) (is := 272) (ic := 274) F hT hW hS hl0 hlocks htab hl.1 xw_791 xw_19 (List.mem_of_getElem? (i := 9) rfl) xh_274 xb_274 (by decide +kernel) xg_274 (Nat.le_of_ble_eq_true rfl) (Nat.le_of_ble_eq_true rfl) (Nat.le_of_ble_eq_true rfl) (Nat.le_of_ble_eq_true rfl) ?_ ?_ (Nat.le_of_ble_eq_true rfl) (Nat.le_of_ble_eq_true rfl) dX5_meanStorage_60 dX5_meanStorage_63 dX5_meanStorage_64 dX5_meanStorage_67 dX5_meanStorage_70
      · rfl
      · exact fun H h => h
  have hL_L1 : ∀ (n9 : Nat) (x1L1 : Int32) (x2L1 : Int32) (x5L1 : Int32), fX5_meanStorage_L1 sh.2.1 sh.2.2 sc (fX5_meanStorage_K1) n9 x1L1 x2L1 x5L1 = some r → ∀ (H : Heap) (locs : List Loc), xWd G sh sc sr sl H → va_S (xA G) s.heap H locs → ∀ ls : Array Slot, lv_has ls 7 [(1, .int x1L1), (2, .int x2L1), (3, .ref (sh.1 2 0)), (4, .int 6), (5, .int x5L1)] → W p l e rX5_meanStorage s m ([.ref (sh.1 0 0)] : List Value).toArray below meth c H locs 0 0 (xQ below G (xvD r) (xWd G sh sc sr sl) ([.ref (sh.1 0 0)] : List Value).toArray s 1 6) (F0 m 16 ls []) := by
    intro n_L1
    induction n_L1 with
    | zero =>
      intro x1L1 x2L1 x5L1 hf
      unfold fX5_meanStorage_L1 at hf
      cases hf
    | succ n_L1 ih_L1 =>
      intro x1L1 x2L1 x5L1 hf H locs hW hS ls hl
      unfold fX5_meanStorage_L1 at hf
      refine lv_iload hx hb dX5_meanStorage_16 (lv_at hl 4 rfl) ?_
      refine lv_iload hx hb dX5_meanStorage_18 (lv_at hl 3 rfl) ?_
      refine lv_icmp_ge (tgt := 55) hx hb dX5_meanStorage_20 (by decide) (fun c3 => ?_) (fun c3 => ?_)
      · replace hf := if_t c3 hf
        exact hx_L1 _ _ _ hf _ _ hW hS ls (lv_sub hl [0, 1] rfl)
      · replace hf := if_f c3 hf
        refine lv_aload_n hx hb dX5_meanStorage_23 rfl (lv_at hl 2 rfl) ?_
        refine lv_iload hx hb dX5_meanStorage_24 (lv_at hl 4 rfl) ?_
        obtain ⟨g6, hf⟩ := oG_go hf
        refine xaldT F hT hW (xinb_ok g6) dX5_meanStorage_26 ?_
        rcases o7 : xel sh.2.2 x5L1 with _ | jq4
        · replace hf := oN_0 o7 hf
          refine W.eq (g2 := F0 m 27 ls (.null :: [])) rfl ?_
          refine lv_astoreN (lv' := [(6, .null), (1, .int x1L1), (2, .int x2L1), (3, .ref (sh.1 2 0)), (4, .int 6), (5, .int x5L1)]) hx hb dX5_meanStorage_27 hl (by decide) rfl (fun ls hl => ?_)
          refine lv_aloadN hx hb dX5_meanStorage_29 (lv_at hl 0 rfl) ?_
          refine lv_ifnullN (tgt := 49) hx hb dX5_meanStorage_31 (by decide) ?_
          refine lv_iinc (v := (x5L1 + 1)) (lv' := [(5, .int (x5L1 + 1)), (6, .null), (1, .int x1L1), (2, .int x2L1), (3, .ref (sh.1 2 0)), (4, .int 6)]) hx hb dX5_meanStorage_49 hl (k := 5) rfl rfl (by decide) rfl (fun ls hl => ?_)
          refine lv_goto (tgt := 16) hx hb dX5_meanStorage_52 (by decide) ?_
          exact ih_L1 _ _ _ hf _ _ hW hS ls (lv_sub hl [2, 3, 4, 5, 0] rfl)
        · replace hf := oN_1 o7 hf
          have h5 : jq4 < sh.2.2 := xel_lt o7
          refine W.eq (g2 := F0 m 27 ls (.ref (sh.1 11 jq4) :: [])) rfl ?_
          refine lv_astore (lv' := [(6, .ref (sh.1 11 jq4)), (1, .int x1L1), (2, .int x2L1), (3, .ref (sh.1 2 0)), (4, .int 6), (5, .int x5L1)]) hx hb dX5_meanStorage_27 hl (by decide) rfl (fun ls hl => ?_)
          refine lv_aload hx hb dX5_meanStorage_29 (lv_at hl 0 rfl) ?_
          refine lv_ifnull hx hb dX5_meanStorage_31 ?_
          refine lv_iload_n hx hb dX5_meanStorage_34 rfl (lv_at hl 1 rfl) ?_
          refine lv_aload hx hb dX5_meanStorage_35 (lv_at hl 0 rfl) ?_
          refine xgetN (host := "TenantPlacement") F hT hW xuX4 (xm_T h5 (by decide)) xce_11 rfl 0 (by decide) (List.mem_of_getElem? (i := 9) rfl) rfl rfl dX5_meanStorage_37 ?_
          refine lv_iconst (v := 0) hx hb dX5_meanStorage_40 (by decide) ?_
          obtain ⟨v8, hc9, hf⟩ := oB_go hf
          refine xcallV (n := 1) F hT hW hS (xm_T h5 (by decide)) (xce_am (by decide)) rfl (kX0_of l hl0 G sh sc sr sl 8 jq4 0 (by decide) (xm_T h5 (by decide)) _ hc9) (xgV xw_386 xw_387 xw_388 xw_11 xw_389) rfl xd_X0_of ⟨Nat.le_of_ble_eq_true rfl, Nat.le_of_ble_eq_true rfl⟩ rfl hl.1 rfl (Nat.le_of_ble_eq_true rfl) dX5_meanStorage_41 ⟨Nat.le_of_ble_eq_true rfl, Nat.le_of_ble_eq_true rfl⟩ (fun v9 H locs hres hW hS => ?_) (fun E9 H locs q9 ce9 hres => by cases hres)
          cases hres
          refine W.eq (g2 := F0 m 44 ls (.int v8 :: .int x1L1 :: [])) rfl ?_
          refine lv_iadd hx hb dX5_meanStorage_44 ?_
          refine lv_istore_n (lv' := [(1, .int (x1L1 + v8)), (6, .ref (sh.1 11 jq4)), (2, .int x2L1), (3, .ref (sh.1 2 0)), (4, .int 6), (5, .int x5L1)]) hx hb dX5_meanStorage_45 rfl hl (by decide) rfl (fun ls hl => ?_)
          refine lv_iinc (v := (x2L1 + 1)) (lv' := [(2, .int (x2L1 + 1)), (1, .int (x1L1 + v8)), (6, .ref (sh.1 11 jq4)), (3, .ref (sh.1 2 0)), (4, .int 6), (5, .int x5L1)]) hx hb dX5_meanStorage_46 hl (k := 2) rfl rfl (by decide) rfl (fun ls hl => ?_)
          refine lv_iinc (v := (x5L1 + 1)) (lv' := [(5, .int (x5L1 + 1)), (2, .int (x2L1 + 1)), (1, .int (x1L1 + v8)), (6, .ref (sh.1 11 jq4)), (3, .ref (sh.1 2 0)), (4, .int 6)]) hx hb dX5_meanStorage_49 hl (k := 5) rfl rfl (by decide) rfl (fun ls hl => ?_)
          refine lv_goto (tgt := 16) hx hb dX5_meanStorage_52 (by decide) ?_
          exact ih_L1 _ _ _ hf _ _ hW hS ls (lv_sub hl [2, 1, 4, 5, 0] rfl)
  exact hL_L1 _ _ _ _ hf _ _ hW hS ls (lv_sub hl [4, 3, 2, 1, 0] rfl)
abbrev rX5_reason : Room := { frames := 7, cells := 2, slots := 12, locals := 112 }
abbrev zX5_reason : List Cond := Cond.code yX5_reason cX5_reason 6 (some .char) :: xB
theorem xd_X5_reason : yX5_reason.cls = RX5 ∧ yX5_reason.cls ≠ "java/lang/invoke/MethodHandle" ∧ yX5_reason.cls ≠ "java/lang/invoke/VarHandle" ∧ (parseMethodDescriptor yX5_reason.desc).map (fun d => d.parameters.length) = some 2 := by decide +kernel
def fX5_reason (nS : Nat) (nT : Nat) (a1 : Int32) (a2 : Int32) (sc : xSC) : Option (String ⊕ Int32) := oT (fX5_knownTenant nS nT a1 sc) (fun E21 => some (Sum.inl E21)) (fun v1 => oG (decide (v1 < nT)) (oT (fX5_knownShard nS nT a2 sc) (fun E19 => some (Sum.inl E19)) (fun v4 => oG (decide (v4 < nS)) (oB (fX1_isUnderWay nS nT 9 v1 sc) (fun v7 => (if v7 = 0 then (if (sc.1 11 v1 3) = a2 then some (Sum.inr 115) else (if (sc.1 4 v4 2) = 0 then some (Sum.inr 99) else oB (fX5_isBarred nS nT a2 v1 sc) (fun v11 => (if v11 = 0 then oB (fX3_hasRoom nS nT v4 (sc.1 8 v1 0) (sc.1 8 v1 1) (sc.1 8 v1 2) sc) (fun v13 => (if v13 = 0 then some (Sum.inr 114) else some (Sum.inr 110))) else some (Sum.inr 112))))) else some (Sum.inr 109)))))))
set_option maxHeartbeats 4000000 in
set_option maxRecDepth 100000 in
theorem kX5_reason (l : Launch) (hl0 : l.stackTraces = false) (G : xG) (sh : xSh) (sc : xSC) (sr : xSR) (sl : xSL) (a1 : Int32) (a2 : Int32) (r : (String ⊕ Int32)) (hf : fX5_reason sh.2.1 sh.2.2 a1 a2 sc = some r) : xMet l yX5_reason zX5_reason rX5_reason G sh sc sr sl ([.ref (sh.1 0 0), .int a1, .int a2] : List Value) (xvI r) (xWd G sh sc sr sl) := by
  refine xMet_of (cc := cX5_reason) (maxL := 6) (ret := (some .char)) (by decide) (Nat.le_of_ble_eq_true rfl) ?_
  intro p e s m below meth c F hT hW hr hlocks htab ls hl
  have F : CallFix p m c cX5_reason 6 s ([.ref (sh.1 0 0), .int a1, .int a2] : List Value).toArray xB RX5 := F
  have hx := F.1
  have hb := F.2.1
  have hS : va_S (xA G) s.heap s.heap [] := va_S.rf
  have hl : lv_has ls 6 [(0, .ref (sh.1 0 0)), (1, .int a1), (2, .int a2)] := hl
  unfold fX5_reason at hf
  refine lv_aload_n hx hb dX5_reason_0 rfl (lv_at hl 0 rfl) ?_
  refine lv_iload_n hx hb dX5_reason_1 rfl (lv_at hl 1 rfl) ?_
  rcases oT_go hf with ⟨v1, hc20, hf⟩ | ⟨E21, hc20, hf⟩
  · refine xcallV (n := 1) F hT hW hS (xm_fix (by decide)) xce_0 rfl (kX5_knownTenant l hl0 G sh sc sr sl a1  _ hc20) (xgV xw_497 xw_499 xwp_5 xw_1 xw_500) rfl xd_X5_knownTenant ⟨Nat.le_of_ble_eq_true rfl, Nat.le_of_ble_eq_true rfl⟩ rfl hl.1 rfl (Nat.le_of_ble_eq_true rfl) dX5_reason_2 ⟨Nat.le_of_ble_eq_true rfl, Nat.le_of_ble_eq_true rfl⟩ (fun v9 H locs hres hW hS => ?_) (fun E9 H locs q9 ce9 hres => by cases hres)
    cases hres
    refine W.eq (g2 := F0 m 5 ls (.ref (sh.1 11 v1) :: [])) rfl ?_
    obtain ⟨g3, hf⟩ := oG_go hf
    have h2 : v1 < sh.2.2 := of_decide_eq_true g3
    refine lv_astore_n (lv' := [(3, .ref (sh.1 11 v1)), (0, .ref (sh.1 0 0)), (1, .int a1), (2, .int a2)]) hx hb dX5_reason_5 rfl hl (by decide) rfl (fun ls hl => ?_)
    refine lv_aload_n hx hb dX5_reason_6 rfl (lv_at hl 1 rfl) ?_
    refine lv_iload_n hx hb dX5_reason_7 rfl (lv_at hl 3 rfl) ?_
    rcases oT_go hf with ⟨v4, hc18, hf⟩ | ⟨E19, hc18, hf⟩
    · refine xcallV (n := 1) F hT hW hS (xm_fix (by decide)) xce_0 rfl (kX5_knownShard l hl0 G sh sc sr sl a2  _ hc18) (xgV xw_354 xw_356 xwp_2 xw_1 xw_357) rfl xd_X5_knownShard ⟨Nat.le_of_ble_eq_true rfl, Nat.le_of_ble_eq_true rfl⟩ rfl hl.1 rfl (Nat.le_of_ble_eq_true rfl) dX5_reason_8 ⟨Nat.le_of_ble_eq_true rfl, Nat.le_of_ble_eq_true rfl⟩ (fun v9 H locs hres hW hS => ?_) (fun E9 H locs q9 ce9 hres => by cases hres)
      cases hres
      refine W.eq (g2 := F0 m 11 ls (.ref (sh.1 4 v4) :: [])) rfl ?_
      obtain ⟨g6, hf⟩ := oG_go hf
      have h5 : v4 < sh.2.1 := of_decide_eq_true g6
      refine lv_astore (lv' := [(4, .ref (sh.1 4 v4)), (3, .ref (sh.1 11 v1)), (0, .ref (sh.1 0 0)), (1, .int a1), (2, .int a2)]) hx hb dX5_reason_11 hl (by decide) rfl (fun ls hl => ?_)
      refine lv_aload_n hx hb dX5_reason_13 rfl (lv_at hl 1 rfl) ?_
      refine xgetN (host := "TenantPlacement") F hT hW xuX4 (xm_T h2 (by decide)) xce_11 rfl 2 (by decide) (List.mem_of_getElem? (i := 13) rfl) rfl rfl dX5_reason_14 ?_
      obtain ⟨v7, hc17, hf⟩ := oB_go hf
      refine xcallV (n := 0) F hT hW hS (xm_T h2 (by decide)) (xce_mv (by decide)) rfl (kX1_isUnderWay l hl0 G sh sc sr sl 9 v1 (by decide) (xm_T h2 (by decide)) _ hc17) (xgV xw_104 xw_105 xw_106 xw_3 xw_107) rfl xd_X1_isUnderWay ⟨Nat.le_of_ble_eq_true rfl, Nat.le_of_ble_eq_true rfl⟩ rfl hl.1 rfl (Nat.le_of_ble_eq_true rfl) dX5_reason_17 ⟨Nat.le_of_ble_eq_true rfl, Nat.le_of_ble_eq_true rfl⟩ (fun v9 H locs hres hW hS => ?_) (fun E9 H locs q9 ce9 hres => by cases hres)
      cases hres
      refine W.eq (g2 := F0 m 20 ls (.int v7 :: [])) rfl ?_
      refine lv_if_eq (tgt := 26) hx hb dX5_reason_20 (by decide) (fun c8 => ?_) (fun c8 => ?_)
      · replace hf := if_t c8 hf
        refine lv_aload_n hx hb dX5_reason_26 rfl (lv_at hl 1 rfl) ?_
        refine xgetN (host := "TenantPlacement") F hT hW xuX4 (xm_T h2 (by decide)) xce_11 rfl 3 (by decide) (List.mem_of_getElem? (i := 14) rfl) rfl rfl dX5_reason_27 ?_
        refine lv_iload_n hx hb dX5_reason_30 rfl (lv_at hl 4 rfl) ?_
        refine lv_icmp_ne (tgt := 37) hx hb dX5_reason_31 (by decide) (fun c9 => ?_) (fun c9 => ?_)
        · replace hf := if_f c9 hf
          refine lv_aload hx hb dX5_reason_37 (lv_at hl 0 rfl) ?_
          refine xgetN (host := "TenantPlacement") F hT hW xuX3 (xm_S h5 (by decide)) xce_4 rfl 2 (by decide) (List.mem_of_getElem? (i := 27) rfl) rfl rfl dX5_reason_39 ?_
          refine lv_if_ne (tgt := 48) hx hb dX5_reason_42 (by decide) (fun c10 => ?_) (fun c10 => ?_)
          · replace hf := if_f c10 hf
            refine lv_aload_n hx hb dX5_reason_48 rfl (lv_at hl 2 rfl) ?_
            refine lv_iload_n hx hb dX5_reason_49 rfl (lv_at hl 4 rfl) ?_
            refine lv_aload_n hx hb dX5_reason_50 rfl (lv_at hl 1 rfl) ?_
            obtain ⟨v11, hc16, hf⟩ := oB_go hf
            refine xcallV (n := 2) F hT hW hS (xm_fix (by decide)) xce_0 rfl (kX5_isBarred l hl0 G sh sc sr sl a2 v1 h2 _ hc16) (xgV xw_541 xw_543 xwp_6 xw_1 xw_544) rfl xd_X5_isBarred ⟨Nat.le_of_ble_eq_true rfl, Nat.le_of_ble_eq_true rfl⟩ rfl hl.1 rfl (Nat.le_of_ble_eq_true rfl) dX5_reason_51 ⟨Nat.le_of_ble_eq_true rfl, Nat.le_of_ble_eq_true rfl⟩ (fun v9 H locs hres hW hS => ?_) (fun E9 H locs q9 ce9 hres => by cases hres)
            cases hres
            refine W.eq (g2 := F0 m 54 ls (.int v11 :: [])) rfl ?_
            refine lv_if_eq (tgt := 60) hx hb dX5_reason_54 (by decide) (fun c12 => ?_) (fun c12 => ?_)
            · replace hf := if_t c12 hf
              refine lv_aload_n hx hb dX5_reason_60 rfl (lv_at hl 1 rfl) ?_
              refine xgetN (host := "TenantPlacement") F hT hW xuX4 (xm_T h2 (by decide)) xce_11 rfl 0 (by decide) (List.mem_of_getElem? (i := 9) rfl) rfl rfl dX5_reason_61 ?_
              refine lv_astore (lv' := [(5, .ref (sh.1 8 v1)), (4, .ref (sh.1 4 v4)), (3, .ref (sh.1 11 v1)), (0, .ref (sh.1 0 0)), (1, .int a1), (2, .int a2)]) hx hb dX5_reason_64 hl (by decide) rfl (fun ls hl => ?_)
              refine lv_aload hx hb dX5_reason_66 (lv_at hl 1 rfl) ?_
              refine lv_aload hx hb dX5_reason_68 (lv_at hl 0 rfl) ?_
              refine xgetN (host := "TenantPlacement") F hT hW xuX0 (xm_T h2 (by decide)) (xce_am (by decide)) rfl 0 (by decide) (List.mem_of_getElem? (i := 15) rfl) rfl rfl dX5_reason_70 ?_
              refine lv_aload hx hb dX5_reason_73 (lv_at hl 0 rfl) ?_
              refine xgetN (host := "TenantPlacement") F hT hW xuX0 (xm_T h2 (by decide)) (xce_am (by decide)) rfl 1 (by decide) (List.mem_of_getElem? (i := 16) rfl) rfl rfl dX5_reason_75 ?_
              refine lv_aload hx hb dX5_reason_78 (lv_at hl 0 rfl) ?_
              refine xgetN (host := "TenantPlacement") F hT hW xuX0 (xm_T h2 (by decide)) (xce_am (by decide)) rfl 2 (by decide) (List.mem_of_getElem? (i := 17) rfl) rfl rfl dX5_reason_80 ?_
              obtain ⟨v13, hc15, hf⟩ := oB_go hf
              refine xcallV (n := 3) F hT hW hS (xm_S h5 (by decide)) xce_4 rfl (kX3_hasRoom l hl0 G sh sc sr sl v4 (sc.1 8 v1 0) (sc.1 8 v1 1) (sc.1 8 v1 2) h5 _ hc15) (xgV xw_402 xw_403 xw_404 xw_10 xw_405) rfl xd_X3_hasRoom ⟨Nat.le_of_ble_eq_true rfl, Nat.le_of_ble_eq_true rfl⟩ rfl hl.1 rfl (Nat.le_of_ble_eq_true rfl) dX5_reason_83 ⟨Nat.le_of_ble_eq_true rfl, Nat.le_of_ble_eq_true rfl⟩ (fun v9 H locs hres hW hS => ?_) (fun E9 H locs q9 ce9 hres => by cases hres)
              cases hres
              refine W.eq (g2 := F0 m 86 ls (.int v13 :: [])) rfl ?_
              refine lv_if_ne (tgt := 92) hx hb dX5_reason_86 (by decide) (fun c14 => ?_) (fun c14 => ?_)
              · replace hf := if_f c14 hf
                refine lv_bipush (v := 110) hx hb dX5_reason_92 (by decide) ?_
                cases hf
                exact xret_i (ty := .char) F hr hlocks hS (by decide) rfl hW (Nat.le_of_ble_eq_true rfl) (Nat.le_of_ble_eq_true rfl) dX5_reason_94
              · replace hf := if_t c14 hf
                refine lv_bipush (v := 114) hx hb dX5_reason_89 (by decide) ?_
                cases hf
                exact xret_i (ty := .char) F hr hlocks hS (by decide) rfl hW (Nat.le_of_ble_eq_true rfl) (Nat.le_of_ble_eq_true rfl) dX5_reason_91
            · replace hf := if_f c12 hf
              refine lv_bipush (v := 112) hx hb dX5_reason_57 (by decide) ?_
              cases hf
              exact xret_i (ty := .char) F hr hlocks hS (by decide) rfl hW (Nat.le_of_ble_eq_true rfl) (Nat.le_of_ble_eq_true rfl) dX5_reason_59
          · replace hf := if_t c10 hf
            refine lv_bipush (v := 99) hx hb dX5_reason_45 (by decide) ?_
            cases hf
            exact xret_i (ty := .char) F hr hlocks hS (by decide) rfl hW (Nat.le_of_ble_eq_true rfl) (Nat.le_of_ble_eq_true rfl) dX5_reason_47
        · replace hf := if_t c9 hf
          refine lv_bipush (v := 115) hx hb dX5_reason_34 (by decide) ?_
          cases hf
          exact xret_i (ty := .char) F hr hlocks hS (by decide) rfl hW (Nat.le_of_ble_eq_true rfl) (Nat.le_of_ble_eq_true rfl) dX5_reason_36
      · replace hf := if_f c8 hf
        refine lv_bipush (v := 109) hx hb dX5_reason_23 (by decide) ?_
        cases hf
        exact xret_i (ty := .char) F hr hlocks hS (by decide) rfl hW (Nat.le_of_ble_eq_true rfl) (Nat.le_of_ble_eq_true rfl) dX5_reason_25
    · refine xcallV (n := 1) F hT hW hS (xm_fix (by decide)) xce_0 rfl (kX5_knownShard l hl0 G sh sc sr sl a2  _ hc18) (xgV xw_354 xw_356 xwp_2 xw_1 xw_357) rfl xd_X5_knownShard ⟨Nat.le_of_ble_eq_true rfl, Nat.le_of_ble_eq_true rfl⟩ rfl hl.1 rfl (Nat.le_of_ble_eq_true rfl) dX5_reason_8 ⟨Nat.le_of_ble_eq_true rfl, Nat.le_of_ble_eq_true rfl⟩ (fun v9 H locs hres => by cases hres) (fun E9 H locs q9 ce9 hres hW hS hcell hv9 hcl => ?_)
      cases hres
      cases hf
      exact xout htab hlocks hS rfl hW hcell hv9 hcl (Nat.le_of_ble_eq_true rfl) (Nat.le_of_ble_eq_true rfl)
  · refine xcallV (n := 1) F hT hW hS (xm_fix (by decide)) xce_0 rfl (kX5_knownTenant l hl0 G sh sc sr sl a1  _ hc20) (xgV xw_497 xw_499 xwp_5 xw_1 xw_500) rfl xd_X5_knownTenant ⟨Nat.le_of_ble_eq_true rfl, Nat.le_of_ble_eq_true rfl⟩ rfl hl.1 rfl (Nat.le_of_ble_eq_true rfl) dX5_reason_2 ⟨Nat.le_of_ble_eq_true rfl, Nat.le_of_ble_eq_true rfl⟩ (fun v9 H locs hres => by cases hres) (fun E9 H locs q9 ce9 hres hW hS hcell hv9 hcl => ?_)
    cases hres
    cases hf
    exact xout htab hlocks hS rfl hW hcell hv9 hcl (Nat.le_of_ble_eq_true rfl) (Nat.le_of_ble_eq_true rfl)
abbrev rX5_moves : Room := { frames := 1, cells := 0, slots := 0, locals := 20 }
abbrev zX5_moves : List Cond := Cond.code yX5_moves cX5_moves 6 (some .int) :: xB
theorem xd_X5_moves : yX5_moves.cls = RX5 ∧ yX5_moves.cls ≠ "java/lang/invoke/MethodHandle" ∧ yX5_moves.cls ≠ "java/lang/invoke/VarHandle" ∧ (parseMethodDescriptor yX5_moves.desc).map (fun d => d.parameters.length) = some 0 := by decide +kernel
def fX5_moves_K1 (x1L1 : Int32) (x4L1 : Int32) : Option Int32 := some x1L1
def fX5_moves_L1 (nS : Nat) (nT : Nat) (sc : xSC) (k_L1 : Int32 → Int32 → Option Int32) : Nat → Int32 → Int32 → Option Int32
  | 0, _, _ => none
  | n + 1, x1L1, x4L1 => (if 6 ≤ x4L1 then k_L1 x1L1 x4L1 else oG (xinb x4L1 6) (oN (xel nT x4L1) ((fX5_moves_L1 nS nT sc k_L1 n) x1L1 (x4L1 + 1)) (fun jq2 => oB (fX1_isUnderWay nS nT 9 jq2 sc) (fun v6 => (if v6 = 0 then (fX5_moves_L1 nS nT sc k_L1 n) x1L1 (x4L1 + 1) else (fX5_moves_L1 nS nT sc k_L1 n) (x1L1 + 1) (x4L1 + 1))))))
def fX5_moves (nS : Nat) (nT : Nat) (sc : xSC) : Option Int32 := fX5_moves_L1 nS nT sc (fX5_moves_K1) 64 0 0
set_option maxHeartbeats 4000000 in
set_option maxRecDepth 100000 in
theorem kX5_moves (l : Launch) (hl0 : l.stackTraces = false) (G : xG) (sh : xSh) (sc : xSC) (sr : xSR) (sl : xSL) (r : Int32) (hf : fX5_moves sh.2.1 sh.2.2 sc = some r) : xMet l yX5_moves zX5_moves rX5_moves G sh sc sr sl ([.ref (sh.1 0 0)] : List Value) (xvI (.inr r)) (xWd G sh sc sr sl) := by
  refine xMet_of (cc := cX5_moves) (maxL := 6) (ret := (some .int)) (by decide) (Nat.le_of_ble_eq_true rfl) ?_
  intro p e s m below meth c F hT hW hr hlocks htab ls hl
  have F : CallFix p m c cX5_moves 6 s ([.ref (sh.1 0 0)] : List Value).toArray xB RX5 := F
  have hx := F.1
  have hb := F.2.1
  have hS : va_S (xA G) s.heap s.heap [] := va_S.rf
  have hl : lv_has ls 6 [(0, .ref (sh.1 0 0))] := hl
  unfold fX5_moves at hf
  refine lv_iconst (v := 0) hx hb dX5_moves_0 (by decide) ?_
  refine lv_istore_n (lv' := [(1, .int 0), (0, .ref (sh.1 0 0))]) hx hb dX5_moves_1 rfl hl (by decide) rfl (fun ls hl => ?_)
  refine lv_aload_n hx hb dX5_moves_2 rfl (lv_at hl 1 rfl) ?_
  refine xget F hT hW xuX5 (xm_fix (by decide)) xce_0 rfl 1 (by decide) xw_72 rfl rfl dX5_moves_3 ?_
  refine lv_astore_n (lv' := [(2, .ref (sh.1 2 0)), (1, .int 0), (0, .ref (sh.1 0 0))]) hx hb dX5_moves_6 rfl hl (by decide) rfl (fun ls hl => ?_)
  refine lv_aload_n hx hb dX5_moves_7 rfl (lv_at hl 0 rfl) ?_
  refine xalenT F hT hW dX5_moves_8 ?_
  refine lv_istore_n (lv' := [(3, .int 6), (2, .ref (sh.1 2 0)), (1, .int 0), (0, .ref (sh.1 0 0))]) hx hb dX5_moves_9 rfl hl (by decide) rfl (fun ls hl => ?_)
  refine lv_iconst (v := 0) hx hb dX5_moves_10 (by decide) ?_
  refine lv_istore (lv' := [(4, .int 0), (3, .int 6), (2, .ref (sh.1 2 0)), (1, .int 0), (0, .ref (sh.1 0 0))]) hx hb dX5_moves_11 hl (by decide) rfl (fun ls hl => ?_)
  have hx_L1 : ∀ (x1L1 : Int32) (x4L1 : Int32), fX5_moves_K1 x1L1 x4L1 = some r → ∀ (H : Heap) (locs : List Loc), xWd G sh sc sr sl H → va_S (xA G) s.heap H locs → ∀ ls : Array Slot, lv_has ls 6 [(1, .int x1L1)] → W p l e rX5_moves s m ([.ref (sh.1 0 0)] : List Value).toArray below meth c H locs 0 0 (xQ below G (xvI (.inr r)) (xWd G sh sc sr sl) ([.ref (sh.1 0 0)] : List Value).toArray s 0 0) (F0 m 50 ls []) := by
    intro x1L1 x4L1 hf H locs hW hS ls hl
    unfold fX5_moves_K1 at hf
    refine lv_iload_n hx hb dX5_moves_50 rfl (lv_at hl 0 rfl) ?_
    cases hf
    exact xret_i (ty := .int) F hr hlocks hS rfl rfl hW (Nat.le_of_ble_eq_true rfl) (Nat.le_of_ble_eq_true rfl) dX5_moves_51
  have hL_L1 : ∀ (n9 : Nat) (x1L1 : Int32) (x4L1 : Int32), fX5_moves_L1 sh.2.1 sh.2.2 sc (fX5_moves_K1) n9 x1L1 x4L1 = some r → ∀ (H : Heap) (locs : List Loc), xWd G sh sc sr sl H → va_S (xA G) s.heap H locs → ∀ ls : Array Slot, lv_has ls 6 [(1, .int x1L1), (2, .ref (sh.1 2 0)), (3, .int 6), (4, .int x4L1)] → W p l e rX5_moves s m ([.ref (sh.1 0 0)] : List Value).toArray below meth c H locs 0 0 (xQ below G (xvI (.inr r)) (xWd G sh sc sr sl) ([.ref (sh.1 0 0)] : List Value).toArray s 0 0) (F0 m 13 ls []) := by
    intro n_L1
    induction n_L1 with
    | zero =>
      intro x1L1 x4L1 hf
      unfold fX5_moves_L1 at hf
      cases hf
    | succ n_L1 ih_L1 =>
      intro x1L1 x4L1 hf H locs hW hS ls hl
      unfold fX5_moves_L1 at hf
      refine lv_iload hx hb dX5_moves_13 (lv_at hl 3 rfl) ?_
      refine lv_iload_n hx hb dX5_moves_15 rfl (lv_at hl 2 rfl) ?_
      refine lv_icmp_ge (tgt := 50) hx hb dX5_moves_16 (by decide) (fun c1 => ?_) (fun c1 => ?_)
      · replace hf := if_t c1 hf
        exact hx_L1 _ _ hf _ _ hW hS ls (lv_sub hl [0] rfl)
      · replace hf := if_f c1 hf
        refine lv_aload_n hx hb dX5_moves_19 rfl (lv_at hl 1 rfl) ?_
        refine lv_iload hx hb dX5_moves_20 (lv_at hl 3 rfl) ?_
        obtain ⟨g4, hf⟩ := oG_go hf
        refine xaldT F hT hW (xinb_ok g4) dX5_moves_22 ?_
        rcases o5 : xel sh.2.2 x4L1 with _ | jq2
        · replace hf := oN_0 o5 hf
          refine W.eq (g2 := F0 m 23 ls (.null :: [])) rfl ?_
          refine lv_astoreN (lv' := [(5, .null), (1, .int x1L1), (2, .ref (sh.1 2 0)), (3, .int 6), (4, .int x4L1)]) hx hb dX5_moves_23 hl (by decide) rfl (fun ls hl => ?_)
          refine lv_aloadN hx hb dX5_moves_25 (lv_at hl 0 rfl) ?_
          refine lv_ifnullN (tgt := 44) hx hb dX5_moves_27 (by decide) ?_
          refine lv_iinc (v := (x4L1 + 1)) (lv' := [(4, .int (x4L1 + 1)), (5, .null), (1, .int x1L1), (2, .ref (sh.1 2 0)), (3, .int 6)]) hx hb dX5_moves_44 hl (k := 4) rfl rfl (by decide) rfl (fun ls hl => ?_)
          refine lv_goto (tgt := 13) hx hb dX5_moves_47 (by decide) ?_
          exact ih_L1 _ _ hf _ _ hW hS ls (lv_sub hl [2, 3, 4, 0] rfl)
        · replace hf := oN_1 o5 hf
          have h3 : jq2 < sh.2.2 := xel_lt o5
          refine W.eq (g2 := F0 m 23 ls (.ref (sh.1 11 jq2) :: [])) rfl ?_
          refine lv_astore (lv' := [(5, .ref (sh.1 11 jq2)), (1, .int x1L1), (2, .ref (sh.1 2 0)), (3, .int 6), (4, .int x4L1)]) hx hb dX5_moves_23 hl (by decide) rfl (fun ls hl => ?_)
          refine lv_aload hx hb dX5_moves_25 (lv_at hl 0 rfl) ?_
          refine lv_ifnull hx hb dX5_moves_27 ?_
          refine lv_aload hx hb dX5_moves_30 (lv_at hl 0 rfl) ?_
          refine xgetN (host := "TenantPlacement") F hT hW xuX4 (xm_T h3 (by decide)) xce_11 rfl 2 (by decide) (List.mem_of_getElem? (i := 13) rfl) rfl rfl dX5_moves_32 ?_
          obtain ⟨v6, hc8, hf⟩ := oB_go hf
          refine xcallV (n := 0) F hT hW hS (xm_T h3 (by decide)) (xce_mv (by decide)) rfl (kX1_isUnderWay l hl0 G sh sc sr sl 9 jq2 (by decide) (xm_T h3 (by decide)) _ hc8) (xgV xw_104 xw_105 xw_106 xw_3 xw_107) rfl xd_X1_isUnderWay ⟨Nat.le_of_ble_eq_true rfl, Nat.le_of_ble_eq_true rfl⟩ rfl hl.1 rfl (Nat.le_of_ble_eq_true rfl) dX5_moves_35 ⟨Nat.le_of_ble_eq_true rfl, Nat.le_of_ble_eq_true rfl⟩ (fun v9 H locs hres hW hS => ?_) (fun E9 H locs q9 ce9 hres => by cases hres)
          cases hres
          refine W.eq (g2 := F0 m 38 ls (.int v6 :: [])) rfl ?_
          refine lv_if_eq (tgt := 44) hx hb dX5_moves_38 (by decide) (fun c7 => ?_) (fun c7 => ?_)
          · replace hf := if_t c7 hf
            refine lv_iinc (v := (x4L1 + 1)) (lv' := [(4, .int (x4L1 + 1)), (5, .ref (sh.1 11 jq2)), (1, .int x1L1), (2, .ref (sh.1 2 0)), (3, .int 6)]) hx hb dX5_moves_44 hl (k := 4) rfl rfl (by decide) rfl (fun ls hl => ?_)
            refine lv_goto (tgt := 13) hx hb dX5_moves_47 (by decide) ?_
            exact ih_L1 _ _ hf _ _ hW hS ls (lv_sub hl [2, 3, 4, 0] rfl)
          · replace hf := if_f c7 hf
            refine lv_iinc (v := (x1L1 + 1)) (lv' := [(1, .int (x1L1 + 1)), (5, .ref (sh.1 11 jq2)), (2, .ref (sh.1 2 0)), (3, .int 6), (4, .int x4L1)]) hx hb dX5_moves_41 hl (k := 1) rfl rfl (by decide) rfl (fun ls hl => ?_)
            refine lv_iinc (v := (x4L1 + 1)) (lv' := [(4, .int (x4L1 + 1)), (1, .int (x1L1 + 1)), (5, .ref (sh.1 11 jq2)), (2, .ref (sh.1 2 0)), (3, .int 6)]) hx hb dX5_moves_44 hl (k := 4) rfl rfl (by decide) rfl (fun ls hl => ?_)
            refine lv_goto (tgt := 13) hx hb dX5_moves_47 (by decide) ?_
            exact ih_L1 _ _ hf _ _ hW hS ls (lv_sub hl [1, 3, 4, 0] rfl)
  exact hL_L1 _ _ _ hf _ _ hW hS ls (lv_sub hl [3, 2, 1, 0] rfl)
abbrev rX5_move : Room := { frames := 8, cells := 4, slots := 24, locals := 137 }
abbrev zX5_move : List Cond := Cond.code yX5_move cX5_move 5 (some .int) :: xB
theorem xd_X5_move : yX5_move.cls = RX5 ∧ yX5_move.cls ≠ "java/lang/invoke/MethodHandle" ∧ yX5_move.cls ≠ "java/lang/invoke/VarHandle" ∧ (parseMethodDescriptor yX5_move.desc).map (fun d => d.parameters.length) = some 2 := by decide +kernel
def fX5_move (nS : Nat) (nT : Nat) (a1 : Int32) (a2 : Int32) (sc : xSC) : Option ((String ⊕ Int32) × xSC) := oT (fX5_knownTenant nS nT a1 sc) (fun E23 => some ((Sum.inl E23), sc)) (fun v1 => oG (decide (v1 < nT)) (oT (fX5_reason nS nT a1 a2 sc) (fun E21 => some ((Sum.inl E21), sc)) (fun v4 => (if v4 = 110 then oB (fX5_moves nS nT  sc) (fun v6 => (if v6 < 3 then oB (fX0_of nS nT 8 v1 0 sc) (fun v8 => oP (fX5_countUse nS nT v1 (-1) sc) (fun v9 s10 => oP (fX1_begin nS nT 9 v1 (s10.1 11 v1 3) a2 (((v8 + 20) - 1) / 20) s10) (fun v11 s12 => oP (fX5_countUse nS nT v1 1 s12) (fun v13 s14 => some ((Sum.inr (((v8 + 20) - 1) / 20)), s14))))) else some ((Sum.inl "java/lang/IllegalStateException"), sc))) else some ((Sum.inl "java/lang/UnsupportedOperationException"), sc)))))
set_option maxHeartbeats 4000000 in
set_option maxRecDepth 100000 in
theorem kX5_move (l : Launch) (hl0 : l.stackTraces = false) (G : xG) (sh : xSh) (sc : xSC) (sr : xSR) (sl : xSL) (a1 : Int32) (a2 : Int32) (r : ((String ⊕ Int32) × xSC)) (hf : fX5_move sh.2.1 sh.2.2 a1 a2 sc = some r) : xMet l yX5_move zX5_move rX5_move G sh sc sr sl ([.ref (sh.1 0 0), .int a1, .int a2] : List Value) (xvI r.1) (xWd G sh r.2 sr sl) := by
  refine xMet_of (cc := cX5_move) (maxL := 5) (ret := (some .int)) (by decide) (Nat.le_of_ble_eq_true rfl) ?_
  intro p e s m below meth c F hT hW hr hlocks htab ls hl
  have F : CallFix p m c cX5_move 5 s ([.ref (sh.1 0 0), .int a1, .int a2] : List Value).toArray xB RX5 := F
  have hx := F.1
  have hb := F.2.1
  have hS : va_S (xA G) s.heap s.heap [] := va_S.rf
  have hl : lv_has ls 5 [(0, .ref (sh.1 0 0)), (1, .int a1), (2, .int a2)] := hl
  unfold fX5_move at hf
  refine lv_aload_n hx hb dX5_move_0 rfl (lv_at hl 0 rfl) ?_
  refine lv_iload_n hx hb dX5_move_1 rfl (lv_at hl 1 rfl) ?_
  rcases oT_go hf with ⟨v1, hc22, hf⟩ | ⟨E23, hc22, hf⟩
  · refine xcallV (n := 1) F hT hW hS (xm_fix (by decide)) xce_0 rfl (kX5_knownTenant l hl0 G sh sc sr sl a1  _ hc22) (xgV xw_497 xw_499 xwp_5 xw_1 xw_500) rfl xd_X5_knownTenant ⟨Nat.le_of_ble_eq_true rfl, Nat.le_of_ble_eq_true rfl⟩ rfl hl.1 rfl (Nat.le_of_ble_eq_true rfl) dX5_move_2 ⟨Nat.le_of_ble_eq_true rfl, Nat.le_of_ble_eq_true rfl⟩ (fun v9 H locs hres hW hS => ?_) (fun E9 H locs q9 ce9 hres => by cases hres)
    cases hres
    refine W.eq (g2 := F0 m 5 ls (.ref (sh.1 11 v1) :: [])) rfl ?_
    obtain ⟨g3, hf⟩ := oG_go hf
    have h2 : v1 < sh.2.2 := of_decide_eq_true g3
    refine lv_astore_n (lv' := [(3, .ref (sh.1 11 v1)), (0, .ref (sh.1 0 0)), (1, .int a1), (2, .int a2)]) hx hb dX5_move_5 rfl hl (by decide) rfl (fun ls hl => ?_)
    refine lv_aload_n hx hb dX5_move_6 rfl (lv_at hl 1 rfl) ?_
    refine lv_iload_n hx hb dX5_move_7 rfl (lv_at hl 2 rfl) ?_
    refine lv_iload_n hx hb dX5_move_8 rfl (lv_at hl 3 rfl) ?_
    rcases oT_go hf with ⟨v4, hc20, hf⟩ | ⟨E21, hc20, hf⟩
    · refine xcallV (n := 2) F hT hW hS (xm_fix (by decide)) xce_0 rfl (kX5_reason l hl0 G sh sc sr sl a1 a2  _ hc20) (xgV xw_537 xw_538 xw_539 xw_1 xw_540) rfl xd_X5_reason ⟨Nat.le_of_ble_eq_true rfl, Nat.le_of_ble_eq_true rfl⟩ rfl hl.1 rfl (Nat.le_of_ble_eq_true rfl) dX5_move_9 ⟨Nat.le_of_ble_eq_true rfl, Nat.le_of_ble_eq_true rfl⟩ (fun v9 H locs hres hW hS => ?_) (fun E9 H locs q9 ce9 hres => by cases hres)
      cases hres
      refine W.eq (g2 := F0 m 12 ls (.int v4 :: [])) rfl ?_
      refine lv_bipush (v := 110) hx hb dX5_move_12 (by decide) ?_
      refine lv_icmp_eq (tgt := 27) hx hb dX5_move_14 (by decide) (fun c5 => ?_) (fun c5 => ?_)
      · replace hf := if_t c5 hf
        refine lv_aload_n hx hb dX5_move_27 rfl (lv_at hl 1 rfl) ?_
        obtain ⟨v6, hc19, hf⟩ := oB_go hf
        refine xcallV (n := 0) F hT hW hS (xm_fix (by decide)) xce_0 rfl (kX5_moves l hl0 G sh sc sr sl   _ hc19) (xgV xw_547 xw_101 xw_102 xw_1 xw_103) rfl xd_X5_moves ⟨Nat.le_of_ble_eq_true rfl, Nat.le_of_ble_eq_true rfl⟩ rfl hl.1 rfl (Nat.le_of_ble_eq_true rfl) dX5_move_28 ⟨Nat.le_of_ble_eq_true rfl, Nat.le_of_ble_eq_true rfl⟩ (fun v9 H locs hres hW hS => ?_) (fun E9 H locs q9 ce9 hres => by cases hres)
        cases hres
        refine W.eq (g2 := F0 m 31 ls (.int v6 :: [])) rfl ?_
        refine lv_iconst (v := 3) hx hb dX5_move_31 (by decide) ?_
        refine lv_icmp_lt (tgt := 45) hx hb dX5_move_32 (by decide) (fun c7 => ?_) (fun c7 => ?_)
        · replace hf := if_t c7 hf
          refine lv_aload_n hx hb dX5_move_45 rfl (lv_at hl 0 rfl) ?_
          refine xgetN (host := "TenantPlacement") F hT hW xuX4 (xm_T h2 (by decide)) xce_11 rfl 0 (by decide) (List.mem_of_getElem? (i := 9) rfl) rfl rfl dX5_move_46 ?_
          refine lv_iconst (v := 0) hx hb dX5_move_49 (by decide) ?_
          obtain ⟨v8, hc18, hf⟩ := oB_go hf
          refine xcallV (n := 1) F hT hW hS (xm_T h2 (by decide)) (xce_am (by decide)) rfl (kX0_of l hl0 G sh sc sr sl 8 v1 0 (by decide) (xm_T h2 (by decide)) _ hc18) (xgV xw_386 xw_387 xw_388 xw_11 xw_389) rfl xd_X0_of ⟨Nat.le_of_ble_eq_true rfl, Nat.le_of_ble_eq_true rfl⟩ rfl hl.1 rfl (Nat.le_of_ble_eq_true rfl) dX5_move_50 ⟨Nat.le_of_ble_eq_true rfl, Nat.le_of_ble_eq_true rfl⟩ (fun v9 H locs hres hW hS => ?_) (fun E9 H locs q9 ce9 hres => by cases hres)
          cases hres
          refine W.eq (g2 := F0 m 53 ls (.int v8 :: [])) rfl ?_
          refine lv_bipush (v := 20) hx hb dX5_move_53 (by decide) ?_
          refine lv_iadd hx hb dX5_move_55 ?_
          refine lv_iconst (v := 1) hx hb dX5_move_56 (by decide) ?_
          refine lv_isub hx hb dX5_move_57 ?_
          refine lv_bipush (v := 20) hx hb dX5_move_58 (by decide) ?_
          refine lv_idiv hx hb dX5_move_60 (by decide) ?_
          refine lv_istore (lv' := [(4, .int (((v8 + 20) - 1) / 20)), (3, .ref (sh.1 11 v1)), (0, .ref (sh.1 0 0)), (1, .int a1), (2, .int a2)]) hx hb dX5_move_61 hl (by decide) rfl (fun ls hl => ?_)
          refine lv_aload_n hx hb dX5_move_63 rfl (lv_at hl 2 rfl) ?_
          refine lv_aload_n hx hb dX5_move_64 rfl (lv_at hl 1 rfl) ?_
          refine lv_iconst (v := (-1)) hx hb dX5_move_65 (by decide) ?_
          obtain ⟨v9, s10, hc17, hf⟩ := oP_go hf
          refine xcallV (n := 2) F hT hW hS (xm_fix (by decide)) xce_0 rfl (kX5_countUse l hl0 G sh sc sr sl v1 (-1) h2 _ hc17) (xgV xw_469 xw_471 xwp_4 xw_1 xw_472) rfl xd_X5_countUse ⟨Nat.le_of_ble_eq_true rfl, Nat.le_of_ble_eq_true rfl⟩ rfl hl.1 rfl (Nat.le_of_ble_eq_true rfl) dX5_move_66 ⟨Nat.le_of_ble_eq_true rfl, Nat.le_of_ble_eq_true rfl⟩ (fun v9 H locs hres hW hS => ?_) (fun E9 H locs q9 ce9 hres => by cases hres)
          cases hres
          refine W.eq (g2 := F0 m 69 ls ([])) rfl ?_
          refine lv_aload_n hx hb dX5_move_69 rfl (lv_at hl 1 rfl) ?_
          refine xgetN (host := "TenantPlacement") F hT hW xuX4 (xm_T h2 (by decide)) xce_11 rfl 2 (by decide) (List.mem_of_getElem? (i := 13) rfl) rfl rfl dX5_move_70 ?_
          refine lv_aload_n hx hb dX5_move_73 rfl (lv_at hl 1 rfl) ?_
          refine xgetN (host := "TenantPlacement") F hT hW xuX4 (xm_T h2 (by decide)) xce_11 rfl 3 (by decide) (List.mem_of_getElem? (i := 14) rfl) rfl rfl dX5_move_74 ?_
          refine lv_iload_n hx hb dX5_move_77 rfl (lv_at hl 4 rfl) ?_
          refine lv_iload hx hb dX5_move_78 (lv_at hl 0 rfl) ?_
          obtain ⟨v11, s12, hc16, hf⟩ := oP_go hf
          refine xcallV (n := 3) F hT hW hS (xm_T h2 (by decide)) (xce_mv (by decide)) rfl (kX1_begin l hl0 G sh s10 sr sl 9 v1 (s10.1 11 v1 3) a2 (((v8 + 20) - 1) / 20) (by decide) (xm_T h2 (by decide)) _ hc16) (xgV xw_549 xw_550 xw_551 xw_3 xw_552) rfl xd_X1_begin ⟨Nat.le_of_ble_eq_true rfl, Nat.le_of_ble_eq_true rfl⟩ rfl hl.1 rfl (Nat.le_of_ble_eq_true rfl) dX5_move_80 ⟨Nat.le_of_ble_eq_true rfl, Nat.le_of_ble_eq_true rfl⟩ (fun v9 H locs hres hW hS => ?_) (fun E9 H locs q9 ce9 hres => by cases hres)
          cases hres
          refine W.eq (g2 := F0 m 83 ls ([])) rfl ?_
          refine lv_aload_n hx hb dX5_move_83 rfl (lv_at hl 2 rfl) ?_
          refine lv_aload_n hx hb dX5_move_84 rfl (lv_at hl 1 rfl) ?_
          refine lv_iconst (v := 1) hx hb dX5_move_85 (by decide) ?_
          obtain ⟨v13, s14, hc15, hf⟩ := oP_go hf
          refine xcallV (n := 2) F hT hW hS (xm_fix (by decide)) xce_0 rfl (kX5_countUse l hl0 G sh s12 sr sl v1 1 h2 _ hc15) (xgV xw_469 xw_471 xwp_4 xw_1 xw_472) rfl xd_X5_countUse ⟨Nat.le_of_ble_eq_true rfl, Nat.le_of_ble_eq_true rfl⟩ rfl hl.1 rfl (Nat.le_of_ble_eq_true rfl) dX5_move_86 ⟨Nat.le_of_ble_eq_true rfl, Nat.le_of_ble_eq_true rfl⟩ (fun v9 H locs hres hW hS => ?_) (fun E9 H locs q9 ce9 hres => by cases hres)
          cases hres
          refine W.eq (g2 := F0 m 89 ls ([])) rfl ?_
          refine lv_iload hx hb dX5_move_89 (lv_at hl 0 rfl) ?_
          cases hf
          exact xret_i (ty := .int) F hr hlocks hS rfl rfl hW (Nat.le_of_ble_eq_true rfl) (Nat.le_of_ble_eq_true rfl) dX5_move_91
        · replace hf := if_f c7 hf
          cases hf
          refine xthrow (cls := "java/lang/IllegalStateException") (text := "3 moves are under way") (ik := 43) (is := 144) (ic := 47) F hT hW hS hl0 hlocks htab hl.1 xw_261 xw_9 (List.mem_of_getElem? (i := 7) rfl) xh_47 xb_47 (by decide +kernel) xg_47 (Nat.le_of_ble_eq_true rfl) (Nat.le_of_ble_eq_true rfl) (Nat.le_of_ble_eq_true rfl) (Nat.le_of_ble_eq_true rfl) ?_ ?_ (Nat.le_of_ble_eq_true rfl) (Nat.le_of_ble_eq_true rfl) dX5_move_35 dX5_move_38 dX5_move_39 dX5_move_41 dX5_move_44
          · rfl
          · exact fun H h => h
      · replace hf := if_f c5 hf
        cases hf
        refine xthrow (cls := "java/lang/UnsupportedOperationException") (text := "the tenant cannot be moved to the shard") (ik := 82) (is := 139) (ic := 86) F hT hW hS hl0 hlocks htab hl.1 xw_406 xw_15 (List.mem_of_getElem? (i := 6) rfl) xh_86 xb_86 (by decide +kernel) xg_86 (Nat.le_of_ble_eq_true rfl) (Nat.le_of_ble_eq_true rfl) (Nat.le_of_ble_eq_true rfl) (Nat.le_of_ble_eq_true rfl) ?_ ?_ (Nat.le_of_ble_eq_true rfl) (Nat.le_of_ble_eq_true rfl) dX5_move_17 dX5_move_20 dX5_move_21 dX5_move_23 dX5_move_26
        · rfl
        · exact fun H h => h
    · refine xcallV (n := 2) F hT hW hS (xm_fix (by decide)) xce_0 rfl (kX5_reason l hl0 G sh sc sr sl a1 a2  _ hc20) (xgV xw_537 xw_538 xw_539 xw_1 xw_540) rfl xd_X5_reason ⟨Nat.le_of_ble_eq_true rfl, Nat.le_of_ble_eq_true rfl⟩ rfl hl.1 rfl (Nat.le_of_ble_eq_true rfl) dX5_move_9 ⟨Nat.le_of_ble_eq_true rfl, Nat.le_of_ble_eq_true rfl⟩ (fun v9 H locs hres => by cases hres) (fun E9 H locs q9 ce9 hres hW hS hcell hv9 hcl => ?_)
      cases hres
      cases hf
      exact xout htab hlocks hS rfl hW hcell hv9 hcl (Nat.le_of_ble_eq_true rfl) (Nat.le_of_ble_eq_true rfl)
  · refine xcallV (n := 1) F hT hW hS (xm_fix (by decide)) xce_0 rfl (kX5_knownTenant l hl0 G sh sc sr sl a1  _ hc22) (xgV xw_497 xw_499 xwp_5 xw_1 xw_500) rfl xd_X5_knownTenant ⟨Nat.le_of_ble_eq_true rfl, Nat.le_of_ble_eq_true rfl⟩ rfl hl.1 rfl (Nat.le_of_ble_eq_true rfl) dX5_move_2 ⟨Nat.le_of_ble_eq_true rfl, Nat.le_of_ble_eq_true rfl⟩ (fun v9 H locs hres => by cases hres) (fun E9 H locs q9 ce9 hres hW hS hcell hv9 hcl => ?_)
    cases hres
    cases hf
    exact xout htab hlocks hS rfl hW hcell hv9 hcl (Nat.le_of_ble_eq_true rfl) (Nat.le_of_ble_eq_true rfl)
