abbrev rX2_tryFrom (n : Nat) : Room := { frames := 2 + n, cells := 0, slots := 0, locals := 45 + 28 * n }
abbrev zX2_tryFrom : List Cond := Cond.code yX2_tryFrom cX2_tryFrom 9 none :: xB
theorem xd_X2_tryFrom : yX2_tryFrom.cls = RX2 ∧ yX2_tryFrom.cls ≠ "java/lang/invoke/MethodHandle" ∧ yX2_tryFrom.cls ≠ "java/lang/invoke/VarHandle" ∧ (parseMethodDescriptor yX2_tryFrom.desc).map (fun d => d.parameters.length) = some 5 := by decide +kernel
def fX2_tryFrom_K1 (x6L1 : Int32) (scL1 : xSC) : Option (Unit × xSC) := some ((), scL1)
def fX2_tryFrom_L1 (nS : Nat) (nT : Nat) (a4 : Int32) (a5 : Int32) (self : Int32 → Int32 → xSC → Option (Unit × xSC)) (jq2 : Nat) (k_L1 : Int32 → xSC → Option (Unit × xSC)) : Nat → Int32 → xSC → Option (Unit × xSC)
  | 0, _, _ => none
  | n + 1, x6L1, scL1 => (if 4 ≤ x6L1 then k_L1 x6L1 scL1 else oG (xinb x6L1 4) (oN (xel nS x6L1) ((fX2_tryFrom_L1 nS nT a4 a5 self jq2 k_L1 n) (x6L1 + 1) scL1) (fun jq10 => oB (fX3_takesInTrial nS nT jq10 jq2 scL1) (fun v14 => (if v14 = 0 then (fX2_tryFrom_L1 nS nT a4 a5 self jq2 k_L1 n) (x6L1 + 1) scL1 else oP (fX3_putInTrial nS nT jq10 a4 jq2 scL1) (fun v16 s17 => (if x6L1 = (s17.1 11 jq2 3) then oP (self (a4 + 1) (a5 + 0) s17) (fun v25 s26 => oP (fX3_takeFromTrial nS nT jq10 a4 jq2 s26) (fun v27 s28 => (fX2_tryFrom_L1 nS nT a4 a5 self jq2 k_L1 n) (x6L1 + 1) s28)) else oP (self (a4 + 1) (a5 + 1) s17) (fun v19 s20 => oP (fX3_takeFromTrial nS nT jq10 a4 jq2 s20) (fun v21 s22 => (fX2_tryFrom_L1 nS nT a4 a5 self jq2 k_L1 n) (x6L1 + 1) s22)))))))))
def fX2_tryFrom : Nat → Nat → Nat → Int32 → Int32 → xSC → Option (Unit × xSC)
  | 0, _, _, _, _, _ => none
  | n + 1, nS, nT, a4, a5, sc => oB (fX2_tenantOrNull nS nT a4 sc) (fun v1 => oN v1 (oP (fX2_noteSound nS nT a5 sc) (fun v6 s7 => some ((), s7))) (fun jq2 => oG (decide (jq2 < nT)) (fX2_tryFrom_L1 nS nT a4 a5 (fX2_tryFrom n nS nT) jq2 (fX2_tryFrom_K1) 64 0 sc)))
set_option maxHeartbeats 4000000 in
set_option maxRecDepth 100000 in
theorem kX2_tryFrom (l : Launch) (hl0 : l.stackTraces = false) (G : xG) (sh : xSh) (sr : xSR) (sl : xSL) : ∀ (n : Nat) (sc : xSC) (a4 : Int32) (a5 : Int32) (r : (Unit × xSC)), fX2_tryFrom n sh.2.1 sh.2.2 a4 a5 sc = some r → xMet l yX2_tryFrom zX2_tryFrom (rX2_tryFrom n) G sh sc sr sl ([.ref (sh.1 3 0), .ref (sh.1 1 0), .ref (sh.1 2 0), .int a4, .int a5] : List Value) (xvU (.inr r.1)) (xWd G sh r.2 sr sl) := by
  intro n
  induction n with
  | zero =>
    intro sc a4 a5 r hf
    unfold fX2_tryFrom at hf
    cases hf
  | succ n ih =>
    intro sc a4 a5 r hf
    refine xMet_of (cc := cX2_tryFrom) (maxL := 9) (ret := none) (by decide) (Nat.le_of_ble_eq_true rfl) ?_
    intro p e s m below meth c F hT hW hr hlocks htab ls hl
    have F : CallFix p m c cX2_tryFrom 9 s ([.ref (sh.1 3 0), .ref (sh.1 1 0), .ref (sh.1 2 0), .int a4, .int a5] : List Value).toArray xB RX2 := F
    have hx := F.1
    have hb := F.2.1
    have hS : va_S (xA G) s.heap s.heap [] := va_S.rf
    have hl : lv_has ls 9 [(0, .ref (sh.1 3 0)), (1, .ref (sh.1 1 0)), (2, .ref (sh.1 2 0)), (3, .int a4), (4, .int a5)] := hl
    unfold fX2_tryFrom at hf
    refine lv_aload_n hx hb dX2_tryFrom_0 rfl (lv_at hl 2 rfl) ?_
    refine lv_iload_n hx hb dX2_tryFrom_1 rfl (lv_at hl 3 rfl) ?_
    obtain ⟨v1, hc33, hf⟩ := oB_go hf
    refine xcallS (n := 2) F hT hW hS (kX2_tenantOrNull l hl0 G sh sc sr sl a4  _ hc33) (xgS xw_138 xw_139 xw_2 xw_140) rfl xd_X2_tenantOrNull.2 ⟨(by show _ ≤ _; simp only [rX2_tryFrom]; omega), (by show _ ≤ _; simp only [rX2_tryFrom]; omega)⟩ rfl hl.1 rfl (Nat.le_of_ble_eq_true rfl) dX2_tryFrom_2 ⟨Nat.le_of_ble_eq_true rfl, Nat.le_of_ble_eq_true rfl⟩ (fun v9 H locs hres hW hS => ?_) (fun E9 H locs q9 ce9 hres => by cases hres)
    cases hres
    rcases o5 : v1 with _ | jq2
    · replace hf := oN_0 o5 hf
      refine W.eq (g2 := F0 m 5 ls (.null :: [])) rfl ?_
      refine lv_astoreN (lv' := [(5, .null), (0, .ref (sh.1 3 0)), (1, .ref (sh.1 1 0)), (2, .ref (sh.1 2 0)), (3, .int a4), (4, .int a5)]) hx hb dX2_tryFrom_5 hl (by decide) rfl (fun ls hl => ?_)
      refine lv_aloadN hx hb dX2_tryFrom_7 (lv_at hl 0 rfl) ?_
      refine lv_ifnonnullN hx hb dX2_tryFrom_9 ?_
      refine lv_aload_n hx hb dX2_tryFrom_12 rfl (lv_at hl 1 rfl) ?_
      refine lv_iload hx hb dX2_tryFrom_13 (lv_at hl 5 rfl) ?_
      obtain ⟨v6, s7, hc8, hf⟩ := oP_go hf
      refine xcallV (n := 1) F hT hW hS (xm_fix (by decide)) xce_3 rfl (kX2_noteSound l hl0 G sh sc sr sl a5  _ hc8) (xgV xw_141 xw_143 xwp_0 xw_2 xw_144) rfl xd_X2_noteSound ⟨(by show _ ≤ _; simp only [rX2_tryFrom]; omega), (by show _ ≤ _; simp only [rX2_tryFrom]; omega)⟩ rfl hl.1 rfl (Nat.le_of_ble_eq_true rfl) dX2_tryFrom_15 ⟨Nat.le_of_ble_eq_true rfl, Nat.le_of_ble_eq_true rfl⟩ (fun v9 H locs hres hW hS => ?_) (fun E9 H locs q9 ce9 hres => by cases hres)
      cases hres
      refine W.eq (g2 := F0 m 18 ls ([])) rfl ?_
      cases hf
      exact xret_v F hr hlocks hS rfl hW (Nat.le_of_ble_eq_true rfl) (Nat.le_of_ble_eq_true rfl) dX2_tryFrom_18
    · replace hf := oN_1 o5 hf
      obtain ⟨g4, hf⟩ := oG_go hf
      have h3 : jq2 < sh.2.2 := of_decide_eq_true g4
      refine W.eq (g2 := F0 m 5 ls (.ref (sh.1 11 jq2) :: [])) rfl ?_
      refine lv_astore (lv' := [(5, .ref (sh.1 11 jq2)), (0, .ref (sh.1 3 0)), (1, .ref (sh.1 1 0)), (2, .ref (sh.1 2 0)), (3, .int a4), (4, .int a5)]) hx hb dX2_tryFrom_5 hl (by decide) rfl (fun ls hl => ?_)
      refine lv_aload hx hb dX2_tryFrom_7 (lv_at hl 0 rfl) ?_
      refine lv_ifnonnull (tgt := 19) hx hb dX2_tryFrom_9 (by decide) ?_
      refine lv_iconst (v := 0) hx hb dX2_tryFrom_19 (by decide) ?_
      refine lv_istore (lv' := [(6, .int 0), (5, .ref (sh.1 11 jq2)), (0, .ref (sh.1 3 0)), (1, .ref (sh.1 1 0)), (2, .ref (sh.1 2 0)), (3, .int a4), (4, .int a5)]) hx hb dX2_tryFrom_20 hl (by decide) rfl (fun ls hl => ?_)
      have hx_L1 : ∀ (x6L1 : Int32) (scL1 : xSC), fX2_tryFrom_K1 x6L1 scL1 = some r → ∀ (H : Heap) (locs : List Loc), xWd G sh scL1 sr sl H → va_S (xA G) s.heap H locs → ∀ ls : Array Slot, lv_has ls 9 [] → W p l e (rX2_tryFrom (n + 1)) s m ([.ref (sh.1 3 0), .ref (sh.1 1 0), .ref (sh.1 2 0), .int a4, .int a5] : List Value).toArray below meth c H locs 0 0 (xQ below G (xvU (.inr r.1)) (xWd G sh r.2 sr sl) ([.ref (sh.1 3 0), .ref (sh.1 1 0), .ref (sh.1 2 0), .int a4, .int a5] : List Value).toArray s 0 0) (F0 m 103 ls []) := by
        intro x6L1 scL1 hf H locs hW hS ls hl
        unfold fX2_tryFrom_K1 at hf
        cases hf
        exact xret_v F hr hlocks hS rfl hW (Nat.le_of_ble_eq_true rfl) (Nat.le_of_ble_eq_true rfl) dX2_tryFrom_103
      have hL_L1 : ∀ (n9 : Nat) (x6L1 : Int32) (scL1 : xSC), fX2_tryFrom_L1 sh.2.1 sh.2.2 a4 a5 (fX2_tryFrom n sh.2.1 sh.2.2) jq2 (fX2_tryFrom_K1) n9 x6L1 scL1 = some r → ∀ (H : Heap) (locs : List Loc), xWd G sh scL1 sr sl H → va_S (xA G) s.heap H locs → ∀ ls : Array Slot, lv_has ls 9 [(0, .ref (sh.1 3 0)), (1, .ref (sh.1 1 0)), (2, .ref (sh.1 2 0)), (3, .int a4), (4, .int a5), (5, .ref (sh.1 11 jq2)), (6, .int x6L1)] → W p l e (rX2_tryFrom (n + 1)) s m ([.ref (sh.1 3 0), .ref (sh.1 1 0), .ref (sh.1 2 0), .int a4, .int a5] : List Value).toArray below meth c H locs 0 0 (xQ below G (xvU (.inr r.1)) (xWd G sh r.2 sr sl) ([.ref (sh.1 3 0), .ref (sh.1 1 0), .ref (sh.1 2 0), .int a4, .int a5] : List Value).toArray s 0 0) (F0 m 22 ls []) := by
        intro n_L1
        induction n_L1 with
        | zero =>
          intro x6L1 scL1 hf
          unfold fX2_tryFrom_L1 at hf
          cases hf
        | succ n_L1 ih_L1 =>
          intro x6L1 scL1 hf H locs hW hS ls hl
          unfold fX2_tryFrom_L1 at hf
          refine lv_iload hx hb dX2_tryFrom_22 (lv_at hl 6 rfl) ?_
          refine lv_aload_n hx hb dX2_tryFrom_24 rfl (lv_at hl 1 rfl) ?_
          refine xalenS F hT hW dX2_tryFrom_25 ?_
          refine lv_icmp_ge (tgt := 103) hx hb dX2_tryFrom_26 (by decide) (fun c9 => ?_) (fun c9 => ?_)
          · replace hf := if_t c9 hf
            exact hx_L1 _ _ hf _ _ hW hS ls (lv_sub hl [] rfl)
          · replace hf := if_f c9 hf
            refine lv_aload_n hx hb dX2_tryFrom_29 rfl (lv_at hl 1 rfl) ?_
            refine lv_iload hx hb dX2_tryFrom_30 (lv_at hl 6 rfl) ?_
            obtain ⟨g12, hf⟩ := oG_go hf
            refine xaldS F hT hW (xinb_ok g12) dX2_tryFrom_32 ?_
            rcases o13 : xel sh.2.1 x6L1 with _ | jq10
            · replace hf := oN_0 o13 hf
              refine W.eq (g2 := F0 m 33 ls (.null :: [])) rfl ?_
              refine lv_astoreN (lv' := [(7, .null), (0, .ref (sh.1 3 0)), (1, .ref (sh.1 1 0)), (2, .ref (sh.1 2 0)), (3, .int a4), (4, .int a5), (5, .ref (sh.1 11 jq2)), (6, .int x6L1)]) hx hb dX2_tryFrom_33 hl (by decide) rfl (fun ls hl => ?_)
              refine lv_aloadN hx hb dX2_tryFrom_35 (lv_at hl 0 rfl) ?_
              refine lv_ifnullN (tgt := 97) hx hb dX2_tryFrom_37 (by decide) ?_
              refine lv_iinc (v := (x6L1 + 1)) (lv' := [(6, .int (x6L1 + 1)), (7, .null), (0, .ref (sh.1 3 0)), (1, .ref (sh.1 1 0)), (2, .ref (sh.1 2 0)), (3, .int a4), (4, .int a5), (5, .ref (sh.1 11 jq2))]) hx hb dX2_tryFrom_97 hl (k := 7) rfl rfl (by decide) rfl (fun ls hl => ?_)
              refine lv_goto (tgt := 22) hx hb dX2_tryFrom_100 (by decide) ?_
              exact ih_L1 _ _ hf _ _ hW hS ls (lv_sub hl [2, 3, 4, 5, 6, 7, 0] rfl)
            · replace hf := oN_1 o13 hf
              have h11 : jq10 < sh.2.1 := xel_lt o13
              refine W.eq (g2 := F0 m 33 ls (.ref (sh.1 4 jq10) :: [])) rfl ?_
              refine lv_astore (lv' := [(7, .ref (sh.1 4 jq10)), (0, .ref (sh.1 3 0)), (1, .ref (sh.1 1 0)), (2, .ref (sh.1 2 0)), (3, .int a4), (4, .int a5), (5, .ref (sh.1 11 jq2)), (6, .int x6L1)]) hx hb dX2_tryFrom_33 hl (by decide) rfl (fun ls hl => ?_)
              refine lv_aload hx hb dX2_tryFrom_35 (lv_at hl 0 rfl) ?_
              refine lv_ifnull hx hb dX2_tryFrom_37 ?_
              refine lv_aload hx hb dX2_tryFrom_40 (lv_at hl 0 rfl) ?_
              refine lv_aload hx hb dX2_tryFrom_42 (lv_at hl 6 rfl) ?_
              obtain ⟨v14, hc32, hf⟩ := oB_go hf
              refine xcallV (n := 1) F hT hW hS (xm_S h11 (by decide)) xce_4 rfl (kX3_takesInTrial l hl0 G sh scL1 sr sl jq10 jq2 h11 h3 _ hc32) (xgV xw_148 xw_149 xw_150 xw_10 xw_151) rfl xd_X3_takesInTrial ⟨(by show _ ≤ _; simp only [rX2_tryFrom]; omega), (by show _ ≤ _; simp only [rX2_tryFrom]; omega)⟩ rfl hl.1 rfl (Nat.le_of_ble_eq_true rfl) dX2_tryFrom_44 ⟨Nat.le_of_ble_eq_true rfl, Nat.le_of_ble_eq_true rfl⟩ (fun v9 H locs hres hW hS => ?_) (fun E9 H locs q9 ce9 hres => by cases hres)
              cases hres
              refine W.eq (g2 := F0 m 47 ls (.int v14 :: [])) rfl ?_
              refine lv_if_eq (tgt := 97) hx hb dX2_tryFrom_47 (by decide) (fun c15 => ?_) (fun c15 => ?_)
              · replace hf := if_t c15 hf
                refine lv_iinc (v := (x6L1 + 1)) (lv' := [(6, .int (x6L1 + 1)), (7, .ref (sh.1 4 jq10)), (0, .ref (sh.1 3 0)), (1, .ref (sh.1 1 0)), (2, .ref (sh.1 2 0)), (3, .int a4), (4, .int a5), (5, .ref (sh.1 11 jq2))]) hx hb dX2_tryFrom_97 hl (k := 7) rfl rfl (by decide) rfl (fun ls hl => ?_)
                refine lv_goto (tgt := 22) hx hb dX2_tryFrom_100 (by decide) ?_
                exact ih_L1 _ _ hf _ _ hW hS ls (lv_sub hl [2, 3, 4, 5, 6, 7, 0] rfl)
              · replace hf := if_f c15 hf
                refine lv_aload hx hb dX2_tryFrom_50 (lv_at hl 0 rfl) ?_
                refine lv_iload_n hx hb dX2_tryFrom_52 rfl (lv_at hl 4 rfl) ?_
                refine lv_aload hx hb dX2_tryFrom_53 (lv_at hl 6 rfl) ?_
                obtain ⟨v16, s17, hc31, hf⟩ := oP_go hf
                refine xcallV (n := 2) F hT hW hS (xm_S h11 (by decide)) xce_4 rfl (kX3_putInTrial l hl0 G sh scL1 sr sl jq10 a4 jq2 h11 h3 _ hc31) (xgV xw_152 xw_153 xw_154 xw_10 xw_155) rfl xd_X3_putInTrial ⟨(by show _ ≤ _; simp only [rX2_tryFrom]; omega), (by show _ ≤ _; simp only [rX2_tryFrom]; omega)⟩ rfl hl.1 rfl (Nat.le_of_ble_eq_true rfl) dX2_tryFrom_55 ⟨Nat.le_of_ble_eq_true rfl, Nat.le_of_ble_eq_true rfl⟩ (fun v9 H locs hres hW hS => ?_) (fun E9 H locs q9 ce9 hres => by cases hres)
                cases hres
                refine W.eq (g2 := F0 m 58 ls ([])) rfl ?_
                refine lv_iload hx hb dX2_tryFrom_58 (lv_at hl 7 rfl) ?_
                refine lv_aload hx hb dX2_tryFrom_60 (lv_at hl 6 rfl) ?_
                refine xgetN (host := "TenantPlacement") F hT hW xuX4 (xm_T h3 (by decide)) xce_11 rfl 3 (by decide) (List.mem_of_getElem? (i := 29) rfl) rfl rfl dX2_tryFrom_62 ?_
                refine lv_icmp_ne (tgt := 72) hx hb dX2_tryFrom_65 (by decide) (fun c18 => ?_) (fun c18 => ?_)
                · replace hf := if_f c18 hf
                  refine lv_iconst (v := 1) hx hb dX2_tryFrom_72 (by decide) ?_
                  refine lv_istore (lv' := [(8, .int 1), (7, .ref (sh.1 4 jq10)), (0, .ref (sh.1 3 0)), (1, .ref (sh.1 1 0)), (2, .ref (sh.1 2 0)), (3, .int a4), (4, .int a5), (5, .ref (sh.1 11 jq2)), (6, .int x6L1)]) hx hb dX2_tryFrom_73 hl (by decide) rfl (fun ls hl => ?_)
                  refine lv_aload_n hx hb dX2_tryFrom_75 rfl (lv_at hl 2 rfl) ?_
                  refine lv_aload_n hx hb dX2_tryFrom_76 rfl (lv_at hl 3 rfl) ?_
                  refine lv_aload_n hx hb dX2_tryFrom_77 rfl (lv_at hl 4 rfl) ?_
                  refine lv_iload_n hx hb dX2_tryFrom_78 rfl (lv_at hl 5 rfl) ?_
                  refine lv_iconst (v := 1) hx hb dX2_tryFrom_79 (by decide) ?_
                  refine lv_iadd hx hb dX2_tryFrom_80 ?_
                  refine lv_iload hx hb dX2_tryFrom_81 (lv_at hl 6 rfl) ?_
                  refine lv_iload hx hb dX2_tryFrom_83 (lv_at hl 0 rfl) ?_
                  refine lv_iadd hx hb dX2_tryFrom_85 ?_
                  obtain ⟨v19, s20, hc24, hf⟩ := oP_go hf
                  refine xcallS (n := 5) F hT hW hS (ih s17 (a4 + 1) (a5 + 1)  _ hc24) (xgS xw_135 xw_136 xw_2 xw_137) rfl xd_X2_tryFrom.2 ⟨(by show _ ≤ _; simp only [rX2_tryFrom]; omega), (by show _ ≤ _; simp only [rX2_tryFrom]; omega)⟩ rfl hl.1 rfl (Nat.le_of_ble_eq_true rfl) dX2_tryFrom_86 ⟨Nat.le_of_ble_eq_true rfl, Nat.le_of_ble_eq_true rfl⟩ (fun v9 H locs hres hW hS => ?_) (fun E9 H locs q9 ce9 hres => by cases hres)
                  cases hres
                  refine W.eq (g2 := F0 m 89 ls ([])) rfl ?_
                  refine lv_aload hx hb dX2_tryFrom_89 (lv_at hl 1 rfl) ?_
                  refine lv_iload_n hx hb dX2_tryFrom_91 rfl (lv_at hl 5 rfl) ?_
                  refine lv_aload hx hb dX2_tryFrom_92 (lv_at hl 7 rfl) ?_
                  obtain ⟨v21, s22, hc23, hf⟩ := oP_go hf
                  refine xcallV (n := 2) F hT hW hS (xm_S h11 (by decide)) xce_4 rfl (kX3_takeFromTrial l hl0 G sh s20 sr sl jq10 a4 jq2 h11 h3 _ hc23) (xgV xw_160 xw_161 xw_162 xw_10 xw_163) rfl xd_X3_takeFromTrial ⟨(by show _ ≤ _; simp only [rX2_tryFrom]; omega), (by show _ ≤ _; simp only [rX2_tryFrom]; omega)⟩ rfl hl.1 rfl (Nat.le_of_ble_eq_true rfl) dX2_tryFrom_94 ⟨Nat.le_of_ble_eq_true rfl, Nat.le_of_ble_eq_true rfl⟩ (fun v9 H locs hres hW hS => ?_) (fun E9 H locs q9 ce9 hres => by cases hres)
                  cases hres
                  refine W.eq (g2 := F0 m 97 ls ([])) rfl ?_
                  refine lv_iinc (v := (x6L1 + 1)) (lv' := [(6, .int (x6L1 + 1)), (8, .int 1), (7, .ref (sh.1 4 jq10)), (0, .ref (sh.1 3 0)), (1, .ref (sh.1 1 0)), (2, .ref (sh.1 2 0)), (3, .int a4), (4, .int a5), (5, .ref (sh.1 11 jq2))]) hx hb dX2_tryFrom_97 hl (k := 8) rfl rfl (by decide) rfl (fun ls hl => ?_)
                  refine lv_goto (tgt := 22) hx hb dX2_tryFrom_100 (by decide) ?_
                  exact ih_L1 _ _ hf _ _ hW hS ls (lv_sub hl [3, 4, 5, 6, 7, 8, 0] rfl)
                · replace hf := if_t c18 hf
                  refine lv_iconst (v := 0) hx hb dX2_tryFrom_68 (by decide) ?_
                  refine lv_goto (tgt := 73) hx hb dX2_tryFrom_69 (by decide) ?_
                  refine lv_istore (lv' := [(8, .int 0), (7, .ref (sh.1 4 jq10)), (0, .ref (sh.1 3 0)), (1, .ref (sh.1 1 0)), (2, .ref (sh.1 2 0)), (3, .int a4), (4, .int a5), (5, .ref (sh.1 11 jq2)), (6, .int x6L1)]) hx hb dX2_tryFrom_73 hl (by decide) rfl (fun ls hl => ?_)
                  refine lv_aload_n hx hb dX2_tryFrom_75 rfl (lv_at hl 2 rfl) ?_
                  refine lv_aload_n hx hb dX2_tryFrom_76 rfl (lv_at hl 3 rfl) ?_
                  refine lv_aload_n hx hb dX2_tryFrom_77 rfl (lv_at hl 4 rfl) ?_
                  refine lv_iload_n hx hb dX2_tryFrom_78 rfl (lv_at hl 5 rfl) ?_
                  refine lv_iconst (v := 1) hx hb dX2_tryFrom_79 (by decide) ?_
                  refine lv_iadd hx hb dX2_tryFrom_80 ?_
                  refine lv_iload hx hb dX2_tryFrom_81 (lv_at hl 6 rfl) ?_
                  refine lv_iload hx hb dX2_tryFrom_83 (lv_at hl 0 rfl) ?_
                  refine lv_iadd hx hb dX2_tryFrom_85 ?_
                  obtain ⟨v25, s26, hc30, hf⟩ := oP_go hf
                  refine xcallS (n := 5) F hT hW hS (ih s17 (a4 + 1) (a5 + 0)  _ hc30) (xgS xw_135 xw_136 xw_2 xw_137) rfl xd_X2_tryFrom.2 ⟨(by show _ ≤ _; simp only [rX2_tryFrom]; omega), (by show _ ≤ _; simp only [rX2_tryFrom]; omega)⟩ rfl hl.1 rfl (Nat.le_of_ble_eq_true rfl) dX2_tryFrom_86 ⟨Nat.le_of_ble_eq_true rfl, Nat.le_of_ble_eq_true rfl⟩ (fun v9 H locs hres hW hS => ?_) (fun E9 H locs q9 ce9 hres => by cases hres)
                  cases hres
                  refine W.eq (g2 := F0 m 89 ls ([])) rfl ?_
                  refine lv_aload hx hb dX2_tryFrom_89 (lv_at hl 1 rfl) ?_
                  refine lv_iload_n hx hb dX2_tryFrom_91 rfl (lv_at hl 5 rfl) ?_
                  refine lv_aload hx hb dX2_tryFrom_92 (lv_at hl 7 rfl) ?_
                  obtain ⟨v27, s28, hc29, hf⟩ := oP_go hf
                  refine xcallV (n := 2) F hT hW hS (xm_S h11 (by decide)) xce_4 rfl (kX3_takeFromTrial l hl0 G sh s26 sr sl jq10 a4 jq2 h11 h3 _ hc29) (xgV xw_160 xw_161 xw_162 xw_10 xw_163) rfl xd_X3_takeFromTrial ⟨(by show _ ≤ _; simp only [rX2_tryFrom]; omega), (by show _ ≤ _; simp only [rX2_tryFrom]; omega)⟩ rfl hl.1 rfl (Nat.le_of_ble_eq_true rfl) dX2_tryFrom_94 ⟨Nat.le_of_ble_eq_true rfl, Nat.le_of_ble_eq_true rfl⟩ (fun v9 H locs hres hW hS => ?_) (fun E9 H locs q9 ce9 hres => by cases hres)
                  cases hres
                  refine W.eq (g2 := F0 m 97 ls ([])) rfl ?_
                  refine lv_iinc (v := (x6L1 + 1)) (lv' := [(6, .int (x6L1 + 1)), (8, .int 0), (7, .ref (sh.1 4 jq10)), (0, .ref (sh.1 3 0)), (1, .ref (sh.1 1 0)), (2, .ref (sh.1 2 0)), (3, .int a4), (4, .int a5), (5, .ref (sh.1 11 jq2))]) hx hb dX2_tryFrom_97 hl (k := 8) rfl rfl (by decide) rfl (fun ls hl => ?_)
                  refine lv_goto (tgt := 22) hx hb dX2_tryFrom_100 (by decide) ?_
                  exact ih_L1 _ _ hf _ _ hW hS ls (lv_sub hl [3, 4, 5, 6, 7, 8, 0] rfl)
      exact hL_L1 _ _ _ hf _ _ hW hS ls (lv_sub hl [2, 3, 4, 5, 6, 1, 0] rfl)
abbrev rX2_findFrom (n : Nat) : Room := { frames := 2 + n, cells := 0, slots := 0, locals := 43 + 27 * n }
abbrev zX2_findFrom : List Cond := Cond.code yX2_findFrom cX2_findFrom 8 (some .boolean) :: xB
theorem xd_X2_findFrom : yX2_findFrom.cls = RX2 ∧ yX2_findFrom.cls ≠ "java/lang/invoke/MethodHandle" ∧ yX2_findFrom.cls ≠ "java/lang/invoke/VarHandle" ∧ (parseMethodDescriptor yX2_findFrom.desc).map (fun d => d.parameters.length) = some 4 := by decide +kernel
def fX2_findFrom_K1 (x5L1 : Int32) (scL1 : xSC) : Option (Int32 × xSC) := some (0, scL1)
def fX2_findFrom_L1 (nS : Nat) (nT : Nat) (a3 : Int32) (a4 : Int32) (self : Int32 → Int32 → xSC → Option (Int32 × xSC)) (jq2 : Nat) (k_L1 : Int32 → xSC → Option (Int32 × xSC)) : Nat → Int32 → xSC → Option (Int32 × xSC)
  | 0, _, _ => none
  | n + 1, x5L1, scL1 => (if 4 ≤ x5L1 then k_L1 x5L1 scL1 else oG (xinb x5L1 4) (oN (xel nS x5L1) ((if x5L1 = (scL1.1 11 jq2 3) then (fX2_findFrom_L1 nS nT a3 a4 self jq2 k_L1 n) (x5L1 + 1) scL1 else (fX2_findFrom_L1 nS nT a3 a4 self jq2 k_L1 n) (x5L1 + 1) scL1)) (fun jq7 => (if x5L1 = (scL1.1 11 jq2 3) then (if a4 < 0 then (fX2_findFrom_L1 nS nT a3 a4 self jq2 k_L1 n) (x5L1 + 1) scL1 else oB (fX3_takesInTrial nS nT jq7 jq2 scL1) (fun v28 => (if v28 = 0 then (fX2_findFrom_L1 nS nT a3 a4 self jq2 k_L1 n) (x5L1 + 1) scL1 else oP (fX3_putInTrial nS nT jq7 a3 jq2 scL1) (fun v30 s31 => oP (self (a3 + 1) a4 (xuC s31.1 11 jq2 7 x5L1, s31.2)) (fun v32 s33 => (if v32 = 0 then oP (fX3_takeFromTrial nS nT jq7 a3 jq2 s33) (fun v35 s36 => (fX2_findFrom_L1 nS nT a3 a4 self jq2 k_L1 n) (x5L1 + 1) s36) else some (1, s33))))))) else (if (a4 - 1) < 0 then (fX2_findFrom_L1 nS nT a3 a4 self jq2 k_L1 n) (x5L1 + 1) scL1 else oB (fX3_takesInTrial nS nT jq7 jq2 scL1) (fun v14 => (if v14 = 0 then (fX2_findFrom_L1 nS nT a3 a4 self jq2 k_L1 n) (x5L1 + 1) scL1 else oP (fX3_putInTrial nS nT jq7 a3 jq2 scL1) (fun v16 s17 => oP (self (a3 + 1) (a4 - 1) (xuC s17.1 11 jq2 7 x5L1, s17.2)) (fun v18 s19 => (if v18 = 0 then oP (fX3_takeFromTrial nS nT jq7 a3 jq2 s19) (fun v21 s22 => (fX2_findFrom_L1 nS nT a3 a4 self jq2 k_L1 n) (x5L1 + 1) s22) else some (1, s19)))))))))))
def fX2_findFrom : Nat → Nat → Nat → Int32 → Int32 → xSC → Option (Int32 × xSC)
  | 0, _, _, _, _, _ => none
  | n + 1, nS, nT, a3, a4, sc => oB (fX2_tenantOrNull nS nT a3 sc) (fun v1 => oN v1 (some (1, sc)) (fun jq2 => oG (decide (jq2 < nT)) (fX2_findFrom_L1 nS nT a3 a4 (fX2_findFrom n nS nT) jq2 (fX2_findFrom_K1) 64 0 sc)))
set_option maxHeartbeats 4000000 in
set_option maxRecDepth 100000 in
theorem kX2_findFrom (l : Launch) (hl0 : l.stackTraces = false) (G : xG) (sh : xSh) (sr : xSR) (sl : xSL) : ∀ (n : Nat) (sc : xSC) (a3 : Int32) (a4 : Int32) (r : (Int32 × xSC)), fX2_findFrom n sh.2.1 sh.2.2 a3 a4 sc = some r → xMet l yX2_findFrom zX2_findFrom (rX2_findFrom n) G sh sc sr sl ([.ref (sh.1 1 0), .ref (sh.1 2 0), .int a3, .int a4] : List Value) (xvI (.inr r.1)) (xWd G sh r.2 sr sl) := by
  intro n
  induction n with
  | zero =>
    intro sc a3 a4 r hf
    unfold fX2_findFrom at hf
    cases hf
  | succ n ih =>
    intro sc a3 a4 r hf
    refine xMet_of (cc := cX2_findFrom) (maxL := 8) (ret := (some .boolean)) (by decide) (Nat.le_of_ble_eq_true rfl) ?_
    intro p e s m below meth c F hT hW hr hlocks htab ls hl
    have F : CallFix p m c cX2_findFrom 8 s ([.ref (sh.1 1 0), .ref (sh.1 2 0), .int a3, .int a4] : List Value).toArray xB RX2 := F
    have hx := F.1
    have hb := F.2.1
    have hS : va_S (xA G) s.heap s.heap [] := va_S.rf
    have hl : lv_has ls 8 [(0, .ref (sh.1 1 0)), (1, .ref (sh.1 2 0)), (2, .int a3), (3, .int a4)] := hl
    unfold fX2_findFrom at hf
    refine lv_aload_n hx hb dX2_findFrom_0 rfl (lv_at hl 1 rfl) ?_
    refine lv_iload_n hx hb dX2_findFrom_1 rfl (lv_at hl 2 rfl) ?_
    obtain ⟨v1, hc41, hf⟩ := oB_go hf
    refine xcallS (n := 2) F hT hW hS (kX2_tenantOrNull l hl0 G sh sc sr sl a3  _ hc41) (xgS xw_138 xw_139 xw_2 xw_140) rfl xd_X2_tenantOrNull.2 ⟨(by show _ ≤ _; simp only [rX2_findFrom]; omega), (by show _ ≤ _; simp only [rX2_findFrom]; omega)⟩ rfl hl.1 rfl (Nat.le_of_ble_eq_true rfl) dX2_findFrom_2 ⟨Nat.le_of_ble_eq_true rfl, Nat.le_of_ble_eq_true rfl⟩ (fun v9 H locs hres hW hS => ?_) (fun E9 H locs q9 ce9 hres => by cases hres)
    cases hres
    rcases o5 : v1 with _ | jq2
    · replace hf := oN_0 o5 hf
      refine W.eq (g2 := F0 m 5 ls (.null :: [])) rfl ?_
      refine lv_astoreN (lv' := [(4, .null), (0, .ref (sh.1 1 0)), (1, .ref (sh.1 2 0)), (2, .int a3), (3, .int a4)]) hx hb dX2_findFrom_5 hl (by decide) rfl (fun ls hl => ?_)
      refine lv_aloadN hx hb dX2_findFrom_7 (lv_at hl 0 rfl) ?_
      refine lv_ifnonnullN hx hb dX2_findFrom_9 ?_
      refine lv_iconst (v := 1) hx hb dX2_findFrom_12 (by decide) ?_
      cases hf
      exact xret_i (ty := .boolean) F hr hlocks hS (by decide) rfl hW (Nat.le_of_ble_eq_true rfl) (Nat.le_of_ble_eq_true rfl) dX2_findFrom_13
    · replace hf := oN_1 o5 hf
      obtain ⟨g4, hf⟩ := oG_go hf
      have h3 : jq2 < sh.2.2 := of_decide_eq_true g4
      refine W.eq (g2 := F0 m 5 ls (.ref (sh.1 11 jq2) :: [])) rfl ?_
      refine lv_astore (lv' := [(4, .ref (sh.1 11 jq2)), (0, .ref (sh.1 1 0)), (1, .ref (sh.1 2 0)), (2, .int a3), (3, .int a4)]) hx hb dX2_findFrom_5 hl (by decide) rfl (fun ls hl => ?_)
      refine lv_aload hx hb dX2_findFrom_7 (lv_at hl 0 rfl) ?_
      refine lv_ifnonnull (tgt := 14) hx hb dX2_findFrom_9 (by decide) ?_
      refine lv_iconst (v := 0) hx hb dX2_findFrom_14 (by decide) ?_
      refine lv_istore (lv' := [(5, .int 0), (4, .ref (sh.1 11 jq2)), (0, .ref (sh.1 1 0)), (1, .ref (sh.1 2 0)), (2, .int a3), (3, .int a4)]) hx hb dX2_findFrom_15 hl (by decide) rfl (fun ls hl => ?_)
      have hx_L1 : ∀ (x5L1 : Int32) (scL1 : xSC), fX2_findFrom_K1 x5L1 scL1 = some r → ∀ (H : Heap) (locs : List Loc), xWd G sh scL1 sr sl H → va_S (xA G) s.heap H locs → ∀ ls : Array Slot, lv_has ls 8 [] → W p l e (rX2_findFrom (n + 1)) s m ([.ref (sh.1 1 0), .ref (sh.1 2 0), .int a3, .int a4] : List Value).toArray below meth c H locs 0 0 (xQ below G (xvI (.inr r.1)) (xWd G sh r.2 sr sl) ([.ref (sh.1 1 0), .ref (sh.1 2 0), .int a3, .int a4] : List Value).toArray s 0 0) (F0 m 113 ls []) := by
        intro x5L1 scL1 hf H locs hW hS ls hl
        unfold fX2_findFrom_K1 at hf
        refine lv_iconst (v := 0) hx hb dX2_findFrom_113 (by decide) ?_
        cases hf
        exact xret_i (ty := .boolean) F hr hlocks hS (by decide) rfl hW (Nat.le_of_ble_eq_true rfl) (Nat.le_of_ble_eq_true rfl) dX2_findFrom_114
      have hL_L1 : ∀ (n9 : Nat) (x5L1 : Int32) (scL1 : xSC), fX2_findFrom_L1 sh.2.1 sh.2.2 a3 a4 (fX2_findFrom n sh.2.1 sh.2.2) jq2 (fX2_findFrom_K1) n9 x5L1 scL1 = some r → ∀ (H : Heap) (locs : List Loc), xWd G sh scL1 sr sl H → va_S (xA G) s.heap H locs → ∀ ls : Array Slot, lv_has ls 8 [(0, .ref (sh.1 1 0)), (1, .ref (sh.1 2 0)), (2, .int a3), (3, .int a4), (4, .ref (sh.1 11 jq2)), (5, .int x5L1)] → W p l e (rX2_findFrom (n + 1)) s m ([.ref (sh.1 1 0), .ref (sh.1 2 0), .int a3, .int a4] : List Value).toArray below meth c H locs 0 0 (xQ below G (xvI (.inr r.1)) (xWd G sh r.2 sr sl) ([.ref (sh.1 1 0), .ref (sh.1 2 0), .int a3, .int a4] : List Value).toArray s 0 0) (F0 m 17 ls []) := by
        intro n_L1
        induction n_L1 with
        | zero =>
          intro x5L1 scL1 hf
          unfold fX2_findFrom_L1 at hf
          cases hf
        | succ n_L1 ih_L1 =>
          intro x5L1 scL1 hf H locs hW hS ls hl
          unfold fX2_findFrom_L1 at hf
          refine lv_iload hx hb dX2_findFrom_17 (lv_at hl 5 rfl) ?_
          refine lv_aload_n hx hb dX2_findFrom_19 rfl (lv_at hl 0 rfl) ?_
          refine xalenS F hT hW dX2_findFrom_20 ?_
          refine lv_icmp_ge (tgt := 113) hx hb dX2_findFrom_21 (by decide) (fun c6 => ?_) (fun c6 => ?_)
          · replace hf := if_t c6 hf
            exact hx_L1 _ _ hf _ _ hW hS ls (lv_sub hl [] rfl)
          · replace hf := if_f c6 hf
            refine lv_aload_n hx hb dX2_findFrom_24 rfl (lv_at hl 0 rfl) ?_
            refine lv_iload hx hb dX2_findFrom_25 (lv_at hl 5 rfl) ?_
            obtain ⟨g9, hf⟩ := oG_go hf
            refine xaldS F hT hW (xinb_ok g9) dX2_findFrom_27 ?_
            rcases o10 : xel sh.2.1 x5L1 with _ | jq7
            · replace hf := oN_0 o10 hf
              refine W.eq (g2 := F0 m 28 ls (.null :: [])) rfl ?_
              refine lv_astoreN (lv' := [(6, .null), (0, .ref (sh.1 1 0)), (1, .ref (sh.1 2 0)), (2, .int a3), (3, .int a4), (4, .ref (sh.1 11 jq2)), (5, .int x5L1)]) hx hb dX2_findFrom_28 hl (by decide) rfl (fun ls hl => ?_)
              refine lv_iload hx hb dX2_findFrom_30 (lv_at hl 6 rfl) ?_
              refine lv_aload hx hb dX2_findFrom_32 (lv_at hl 5 rfl) ?_
              refine xgetN (host := "TenantPlacement") F hT hW xuX4 (xm_T h3 (by decide)) xce_11 rfl 3 (by decide) (List.mem_of_getElem? (i := 29) rfl) rfl rfl dX2_findFrom_34 ?_
              refine lv_icmp_ne (tgt := 44) hx hb dX2_findFrom_37 (by decide) (fun c11 => ?_) (fun c11 => ?_)
              · replace hf := if_f c11 hf
                refine lv_iload_n hx hb dX2_findFrom_44 rfl (lv_at hl 4 rfl) ?_
                refine lv_iconst (v := 1) hx hb dX2_findFrom_45 (by decide) ?_
                refine lv_isub hx hb dX2_findFrom_46 ?_
                refine lv_istore (lv' := [(7, .int (a4 - 1)), (6, .null), (0, .ref (sh.1 1 0)), (1, .ref (sh.1 2 0)), (2, .int a3), (3, .int a4), (4, .ref (sh.1 11 jq2)), (5, .int x5L1)]) hx hb dX2_findFrom_47 hl (by decide) rfl (fun ls hl => ?_)
                refine lv_aloadN hx hb dX2_findFrom_49 (lv_at hl 1 rfl) ?_
                refine lv_ifnullN (tgt := 107) hx hb dX2_findFrom_51 (by decide) ?_
                refine lv_iinc (v := (x5L1 + 1)) (lv' := [(5, .int (x5L1 + 1)), (7, .int (a4 - 1)), (6, .null), (0, .ref (sh.1 1 0)), (1, .ref (sh.1 2 0)), (2, .int a3), (3, .int a4), (4, .ref (sh.1 11 jq2))]) hx hb dX2_findFrom_107 hl (k := 7) rfl rfl (by decide) rfl (fun ls hl => ?_)
                refine lv_goto (tgt := 17) hx hb dX2_findFrom_110 (by decide) ?_
                exact ih_L1 _ _ hf _ _ hW hS ls (lv_sub hl [3, 4, 5, 6, 7, 0] rfl)
              · replace hf := if_t c11 hf
                refine lv_iload_n hx hb dX2_findFrom_40 rfl (lv_at hl 4 rfl) ?_
                refine lv_goto (tgt := 47) hx hb dX2_findFrom_41 (by decide) ?_
                refine lv_istore (lv' := [(7, .int a4), (6, .null), (0, .ref (sh.1 1 0)), (1, .ref (sh.1 2 0)), (2, .int a3), (3, .int a4), (4, .ref (sh.1 11 jq2)), (5, .int x5L1)]) hx hb dX2_findFrom_47 hl (by decide) rfl (fun ls hl => ?_)
                refine lv_aloadN hx hb dX2_findFrom_49 (lv_at hl 1 rfl) ?_
                refine lv_ifnullN (tgt := 107) hx hb dX2_findFrom_51 (by decide) ?_
                refine lv_iinc (v := (x5L1 + 1)) (lv' := [(5, .int (x5L1 + 1)), (7, .int a4), (6, .null), (0, .ref (sh.1 1 0)), (1, .ref (sh.1 2 0)), (2, .int a3), (3, .int a4), (4, .ref (sh.1 11 jq2))]) hx hb dX2_findFrom_107 hl (k := 7) rfl rfl (by decide) rfl (fun ls hl => ?_)
                refine lv_goto (tgt := 17) hx hb dX2_findFrom_110 (by decide) ?_
                exact ih_L1 _ _ hf _ _ hW hS ls (lv_sub hl [3, 4, 5, 6, 7, 0] rfl)
            · replace hf := oN_1 o10 hf
              have h8 : jq7 < sh.2.1 := xel_lt o10
              refine W.eq (g2 := F0 m 28 ls (.ref (sh.1 4 jq7) :: [])) rfl ?_
              refine lv_astore (lv' := [(6, .ref (sh.1 4 jq7)), (0, .ref (sh.1 1 0)), (1, .ref (sh.1 2 0)), (2, .int a3), (3, .int a4), (4, .ref (sh.1 11 jq2)), (5, .int x5L1)]) hx hb dX2_findFrom_28 hl (by decide) rfl (fun ls hl => ?_)
              refine lv_iload hx hb dX2_findFrom_30 (lv_at hl 6 rfl) ?_
              refine lv_aload hx hb dX2_findFrom_32 (lv_at hl 5 rfl) ?_
              refine xgetN (host := "TenantPlacement") F hT hW xuX4 (xm_T h3 (by decide)) xce_11 rfl 3 (by decide) (List.mem_of_getElem? (i := 29) rfl) rfl rfl dX2_findFrom_34 ?_
              refine lv_icmp_ne (tgt := 44) hx hb dX2_findFrom_37 (by decide) (fun c12 => ?_) (fun c12 => ?_)
              · replace hf := if_f c12 hf
                refine lv_iload_n hx hb dX2_findFrom_44 rfl (lv_at hl 4 rfl) ?_
                refine lv_iconst (v := 1) hx hb dX2_findFrom_45 (by decide) ?_
                refine lv_isub hx hb dX2_findFrom_46 ?_
                refine lv_istore (lv' := [(7, .int (a4 - 1)), (6, .ref (sh.1 4 jq7)), (0, .ref (sh.1 1 0)), (1, .ref (sh.1 2 0)), (2, .int a3), (3, .int a4), (4, .ref (sh.1 11 jq2)), (5, .int x5L1)]) hx hb dX2_findFrom_47 hl (by decide) rfl (fun ls hl => ?_)
                refine lv_aload hx hb dX2_findFrom_49 (lv_at hl 1 rfl) ?_
                refine lv_ifnull hx hb dX2_findFrom_51 ?_
                refine lv_iload hx hb dX2_findFrom_54 (lv_at hl 0 rfl) ?_
                refine lv_if_lt (tgt := 107) hx hb dX2_findFrom_56 (by decide) (fun c13 => ?_) (fun c13 => ?_)
                · replace hf := if_t c13 hf
                  refine lv_iinc (v := (x5L1 + 1)) (lv' := [(5, .int (x5L1 + 1)), (7, .int (a4 - 1)), (6, .ref (sh.1 4 jq7)), (0, .ref (sh.1 1 0)), (1, .ref (sh.1 2 0)), (2, .int a3), (3, .int a4), (4, .ref (sh.1 11 jq2))]) hx hb dX2_findFrom_107 hl (k := 7) rfl rfl (by decide) rfl (fun ls hl => ?_)
                  refine lv_goto (tgt := 17) hx hb dX2_findFrom_110 (by decide) ?_
                  exact ih_L1 _ _ hf _ _ hW hS ls (lv_sub hl [3, 4, 5, 6, 7, 0] rfl)
                · replace hf := if_f c13 hf
                  refine lv_aload hx hb dX2_findFrom_59 (lv_at hl 1 rfl) ?_
                  refine lv_aload hx hb dX2_findFrom_61 (lv_at hl 6 rfl) ?_
                  obtain ⟨v14, hc26, hf⟩ := oB_go hf
                  refine xcallV (n := 1) F hT hW hS (xm_S h8 (by decide)) xce_4 rfl (kX3_takesInTrial l hl0 G sh scL1 sr sl jq7 jq2 h8 h3 _ hc26) (xgV xw_148 xw_149 xw_150 xw_10 xw_151) rfl xd_X3_takesInTrial ⟨(by show _ ≤ _; simp only [rX2_findFrom]; omega), (by show _ ≤ _; simp only [rX2_findFrom]; omega)⟩ rfl hl.1 rfl (Nat.le_of_ble_eq_true rfl) dX2_findFrom_63 ⟨Nat.le_of_ble_eq_true rfl, Nat.le_of_ble_eq_true rfl⟩ (fun v9 H locs hres hW hS => ?_) (fun E9 H locs q9 ce9 hres => by cases hres)
                  cases hres
                  refine W.eq (g2 := F0 m 66 ls (.int v14 :: [])) rfl ?_
                  refine lv_if_eq (tgt := 107) hx hb dX2_findFrom_66 (by decide) (fun c15 => ?_) (fun c15 => ?_)
                  · replace hf := if_t c15 hf
                    refine lv_iinc (v := (x5L1 + 1)) (lv' := [(5, .int (x5L1 + 1)), (7, .int (a4 - 1)), (6, .ref (sh.1 4 jq7)), (0, .ref (sh.1 1 0)), (1, .ref (sh.1 2 0)), (2, .int a3), (3, .int a4), (4, .ref (sh.1 11 jq2))]) hx hb dX2_findFrom_107 hl (k := 7) rfl rfl (by decide) rfl (fun ls hl => ?_)
                    refine lv_goto (tgt := 17) hx hb dX2_findFrom_110 (by decide) ?_
                    exact ih_L1 _ _ hf _ _ hW hS ls (lv_sub hl [3, 4, 5, 6, 7, 0] rfl)
                  · replace hf := if_f c15 hf
                    refine lv_aload hx hb dX2_findFrom_69 (lv_at hl 1 rfl) ?_
                    refine lv_iload_n hx hb dX2_findFrom_71 rfl (lv_at hl 4 rfl) ?_
                    refine lv_aload hx hb dX2_findFrom_72 (lv_at hl 6 rfl) ?_
                    obtain ⟨v16, s17, hc25, hf⟩ := oP_go hf
                    refine xcallV (n := 2) F hT hW hS (xm_S h8 (by decide)) xce_4 rfl (kX3_putInTrial l hl0 G sh scL1 sr sl jq7 a3 jq2 h8 h3 _ hc25) (xgV xw_152 xw_153 xw_154 xw_10 xw_155) rfl xd_X3_putInTrial ⟨(by show _ ≤ _; simp only [rX2_findFrom]; omega), (by show _ ≤ _; simp only [rX2_findFrom]; omega)⟩ rfl hl.1 rfl (Nat.le_of_ble_eq_true rfl) dX2_findFrom_74 ⟨Nat.le_of_ble_eq_true rfl, Nat.le_of_ble_eq_true rfl⟩ (fun v9 H locs hres hW hS => ?_) (fun E9 H locs q9 ce9 hres => by cases hres)
                    cases hres
                    refine W.eq (g2 := F0 m 77 ls ([])) rfl ?_
                    refine lv_aload hx hb dX2_findFrom_77 (lv_at hl 6 rfl) ?_
                    refine lv_iload hx hb dX2_findFrom_79 (lv_at hl 7 rfl) ?_
                    refine xputN (host := "TenantPlacement") (ty := .int) F hT hW hS xuX4 tyX4 tyX4_ok nmX4 (xm_T h3 (by decide)) xce_11 rfl 7 (by decide) (List.mem_of_getElem? (i := 30) rfl) rfl rfl rfl rfl rfl (Nat.le_of_ble_eq_true rfl) xup_11_7 dX2_findFrom_81 (fun H locs hW hS => ?_)
                    refine lv_aload_n hx hb dX2_findFrom_84 rfl (lv_at hl 2 rfl) ?_
                    refine lv_aload_n hx hb dX2_findFrom_85 rfl (lv_at hl 3 rfl) ?_
                    refine lv_iload_n hx hb dX2_findFrom_86 rfl (lv_at hl 4 rfl) ?_
                    refine lv_iconst (v := 1) hx hb dX2_findFrom_87 (by decide) ?_
                    refine lv_iadd hx hb dX2_findFrom_88 ?_
                    refine lv_iload hx hb dX2_findFrom_89 (lv_at hl 0 rfl) ?_
                    obtain ⟨v18, s19, hc24, hf⟩ := oP_go hf
                    refine xcallS (n := 4) F hT hW hS (ih (xuC s17.1 11 jq2 7 x5L1, s17.2) (a3 + 1) (a4 - 1)  _ hc24) (xgS xw_742 xw_743 xw_2 xw_744) rfl xd_X2_findFrom.2 ⟨(by show _ ≤ _; simp only [rX2_findFrom]; omega), (by show _ ≤ _; simp only [rX2_findFrom]; omega)⟩ rfl hl.1 rfl (Nat.le_of_ble_eq_true rfl) dX2_findFrom_91 ⟨Nat.le_of_ble_eq_true rfl, Nat.le_of_ble_eq_true rfl⟩ (fun v9 H locs hres hW hS => ?_) (fun E9 H locs q9 ce9 hres => by cases hres)
                    cases hres
                    refine W.eq (g2 := F0 m 94 ls (.int v18 :: [])) rfl ?_
                    refine lv_if_eq (tgt := 99) hx hb dX2_findFrom_94 (by decide) (fun c20 => ?_) (fun c20 => ?_)
                    · replace hf := if_t c20 hf
                      refine lv_aload hx hb dX2_findFrom_99 (lv_at hl 1 rfl) ?_
                      refine lv_iload_n hx hb dX2_findFrom_101 rfl (lv_at hl 4 rfl) ?_
                      refine lv_aload hx hb dX2_findFrom_102 (lv_at hl 6 rfl) ?_
                      obtain ⟨v21, s22, hc23, hf⟩ := oP_go hf
                      refine xcallV (n := 2) F hT hW hS (xm_S h8 (by decide)) xce_4 rfl (kX3_takeFromTrial l hl0 G sh s19 sr sl jq7 a3 jq2 h8 h3 _ hc23) (xgV xw_160 xw_161 xw_162 xw_10 xw_163) rfl xd_X3_takeFromTrial ⟨(by show _ ≤ _; simp only [rX2_findFrom]; omega), (by show _ ≤ _; simp only [rX2_findFrom]; omega)⟩ rfl hl.1 rfl (Nat.le_of_ble_eq_true rfl) dX2_findFrom_104 ⟨Nat.le_of_ble_eq_true rfl, Nat.le_of_ble_eq_true rfl⟩ (fun v9 H locs hres hW hS => ?_) (fun E9 H locs q9 ce9 hres => by cases hres)
                      cases hres
                      refine W.eq (g2 := F0 m 107 ls ([])) rfl ?_
                      refine lv_iinc (v := (x5L1 + 1)) (lv' := [(5, .int (x5L1 + 1)), (7, .int (a4 - 1)), (6, .ref (sh.1 4 jq7)), (0, .ref (sh.1 1 0)), (1, .ref (sh.1 2 0)), (2, .int a3), (3, .int a4), (4, .ref (sh.1 11 jq2))]) hx hb dX2_findFrom_107 hl (k := 7) rfl rfl (by decide) rfl (fun ls hl => ?_)
                      refine lv_goto (tgt := 17) hx hb dX2_findFrom_110 (by decide) ?_
                      exact ih_L1 _ _ hf _ _ hW hS ls (lv_sub hl [3, 4, 5, 6, 7, 0] rfl)
                    · replace hf := if_f c20 hf
                      refine lv_iconst (v := 1) hx hb dX2_findFrom_97 (by decide) ?_
                      cases hf
                      exact xret_i (ty := .boolean) F hr hlocks hS (by decide) rfl hW (Nat.le_of_ble_eq_true rfl) (Nat.le_of_ble_eq_true rfl) dX2_findFrom_98
              · replace hf := if_t c12 hf
                refine lv_iload_n hx hb dX2_findFrom_40 rfl (lv_at hl 4 rfl) ?_
                refine lv_goto (tgt := 47) hx hb dX2_findFrom_41 (by decide) ?_
                refine lv_istore (lv' := [(7, .int a4), (6, .ref (sh.1 4 jq7)), (0, .ref (sh.1 1 0)), (1, .ref (sh.1 2 0)), (2, .int a3), (3, .int a4), (4, .ref (sh.1 11 jq2)), (5, .int x5L1)]) hx hb dX2_findFrom_47 hl (by decide) rfl (fun ls hl => ?_)
                refine lv_aload hx hb dX2_findFrom_49 (lv_at hl 1 rfl) ?_
                refine lv_ifnull hx hb dX2_findFrom_51 ?_
                refine lv_iload hx hb dX2_findFrom_54 (lv_at hl 0 rfl) ?_
                refine lv_if_lt (tgt := 107) hx hb dX2_findFrom_56 (by decide) (fun c27 => ?_) (fun c27 => ?_)
                · replace hf := if_t c27 hf
                  refine lv_iinc (v := (x5L1 + 1)) (lv' := [(5, .int (x5L1 + 1)), (7, .int a4), (6, .ref (sh.1 4 jq7)), (0, .ref (sh.1 1 0)), (1, .ref (sh.1 2 0)), (2, .int a3), (3, .int a4), (4, .ref (sh.1 11 jq2))]) hx hb dX2_findFrom_107 hl (k := 7) rfl rfl (by decide) rfl (fun ls hl => ?_)
                  refine lv_goto (tgt := 17) hx hb dX2_findFrom_110 (by decide) ?_
                  exact ih_L1 _ _ hf _ _ hW hS ls (lv_sub hl [3, 4, 5, 6, 7, 0] rfl)
                · replace hf := if_f c27 hf
                  refine lv_aload hx hb dX2_findFrom_59 (lv_at hl 1 rfl) ?_
                  refine lv_aload hx hb dX2_findFrom_61 (lv_at hl 6 rfl) ?_
                  obtain ⟨v28, hc40, hf⟩ := oB_go hf
                  refine xcallV (n := 1) F hT hW hS (xm_S h8 (by decide)) xce_4 rfl (kX3_takesInTrial l hl0 G sh scL1 sr sl jq7 jq2 h8 h3 _ hc40) (xgV xw_148 xw_149 xw_150 xw_10 xw_151) rfl xd_X3_takesInTrial ⟨(by show _ ≤ _; simp only [rX2_findFrom]; omega), (by show _ ≤ _; simp only [rX2_findFrom]; omega)⟩ rfl hl.1 rfl (Nat.le_of_ble_eq_true rfl) dX2_findFrom_63 ⟨Nat.le_of_ble_eq_true rfl, Nat.le_of_ble_eq_true rfl⟩ (fun v9 H locs hres hW hS => ?_) (fun E9 H locs q9 ce9 hres => by cases hres)
                  cases hres
                  refine W.eq (g2 := F0 m 66 ls (.int v28 :: [])) rfl ?_
                  refine lv_if_eq (tgt := 107) hx hb dX2_findFrom_66 (by decide) (fun c29 => ?_) (fun c29 => ?_)
                  · replace hf := if_t c29 hf
                    refine lv_iinc (v := (x5L1 + 1)) (lv' := [(5, .int (x5L1 + 1)), (7, .int a4), (6, .ref (sh.1 4 jq7)), (0, .ref (sh.1 1 0)), (1, .ref (sh.1 2 0)), (2, .int a3), (3, .int a4), (4, .ref (sh.1 11 jq2))]) hx hb dX2_findFrom_107 hl (k := 7) rfl rfl (by decide) rfl (fun ls hl => ?_)
                    refine lv_goto (tgt := 17) hx hb dX2_findFrom_110 (by decide) ?_
                    exact ih_L1 _ _ hf _ _ hW hS ls (lv_sub hl [3, 4, 5, 6, 7, 0] rfl)
                  · replace hf := if_f c29 hf
                    refine lv_aload hx hb dX2_findFrom_69 (lv_at hl 1 rfl) ?_
                    refine lv_iload_n hx hb dX2_findFrom_71 rfl (lv_at hl 4 rfl) ?_
                    refine lv_aload hx hb dX2_findFrom_72 (lv_at hl 6 rfl) ?_
                    obtain ⟨v30, s31, hc39, hf⟩ := oP_go hf
                    refine xcallV (n := 2) F hT hW hS (xm_S h8 (by decide)) xce_4 rfl (kX3_putInTrial l hl0 G sh scL1 sr sl jq7 a3 jq2 h8 h3 _ hc39) (xgV xw_152 xw_153 xw_154 xw_10 xw_155) rfl xd_X3_putInTrial ⟨(by show _ ≤ _; simp only [rX2_findFrom]; omega), (by show _ ≤ _; simp only [rX2_findFrom]; omega)⟩ rfl hl.1 rfl (Nat.le_of_ble_eq_true rfl) dX2_findFrom_74 ⟨Nat.le_of_ble_eq_true rfl, Nat.le_of_ble_eq_true rfl⟩ (fun v9 H locs hres hW hS => ?_) (fun E9 H locs q9 ce9 hres => by cases hres)
                    cases hres
                    refine W.eq (g2 := F0 m 77 ls ([])) rfl ?_
                    refine lv_aload hx hb dX2_findFrom_77 (lv_at hl 6 rfl) ?_
                    refine lv_iload hx hb dX2_findFrom_79 (lv_at hl 7 rfl) ?_
                    refine xputN (host := "TenantPlacement") (ty := .int) F hT hW hS xuX4 tyX4 tyX4_ok nmX4 (xm_T h3 (by decide)) xce_11 rfl 7 (by decide) (List.mem_of_getElem? (i := 30) rfl) rfl rfl rfl rfl rfl (Nat.le_of_ble_eq_true rfl) xup_11_7 dX2_findFrom_81 (fun H locs hW hS => ?_)
                    refine lv_aload_n hx hb dX2_findFrom_84 rfl (lv_at hl 2 rfl) ?_
                    refine lv_aload_n hx hb dX2_findFrom_85 rfl (lv_at hl 3 rfl) ?_
                    refine lv_iload_n hx hb dX2_findFrom_86 rfl (lv_at hl 4 rfl) ?_
                    refine lv_iconst (v := 1) hx hb dX2_findFrom_87 (by decide) ?_
                    refine lv_iadd hx hb dX2_findFrom_88 ?_
                    refine lv_iload hx hb dX2_findFrom_89 (lv_at hl 0 rfl) ?_
                    obtain ⟨v32, s33, hc38, hf⟩ := oP_go hf
                    refine xcallS (n := 4) F hT hW hS (ih (xuC s31.1 11 jq2 7 x5L1, s31.2) (a3 + 1) a4  _ hc38) (xgS xw_742 xw_743 xw_2 xw_744) rfl xd_X2_findFrom.2 ⟨(by show _ ≤ _; simp only [rX2_findFrom]; omega), (by show _ ≤ _; simp only [rX2_findFrom]; omega)⟩ rfl hl.1 rfl (Nat.le_of_ble_eq_true rfl) dX2_findFrom_91 ⟨Nat.le_of_ble_eq_true rfl, Nat.le_of_ble_eq_true rfl⟩ (fun v9 H locs hres hW hS => ?_) (fun E9 H locs q9 ce9 hres => by cases hres)
                    cases hres
                    refine W.eq (g2 := F0 m 94 ls (.int v32 :: [])) rfl ?_
                    refine lv_if_eq (tgt := 99) hx hb dX2_findFrom_94 (by decide) (fun c34 => ?_) (fun c34 => ?_)
                    · replace hf := if_t c34 hf
                      refine lv_aload hx hb dX2_findFrom_99 (lv_at hl 1 rfl) ?_
                      refine lv_iload_n hx hb dX2_findFrom_101 rfl (lv_at hl 4 rfl) ?_
                      refine lv_aload hx hb dX2_findFrom_102 (lv_at hl 6 rfl) ?_
                      obtain ⟨v35, s36, hc37, hf⟩ := oP_go hf
                      refine xcallV (n := 2) F hT hW hS (xm_S h8 (by decide)) xce_4 rfl (kX3_takeFromTrial l hl0 G sh s33 sr sl jq7 a3 jq2 h8 h3 _ hc37) (xgV xw_160 xw_161 xw_162 xw_10 xw_163) rfl xd_X3_takeFromTrial ⟨(by show _ ≤ _; simp only [rX2_findFrom]; omega), (by show _ ≤ _; simp only [rX2_findFrom]; omega)⟩ rfl hl.1 rfl (Nat.le_of_ble_eq_true rfl) dX2_findFrom_104 ⟨Nat.le_of_ble_eq_true rfl, Nat.le_of_ble_eq_true rfl⟩ (fun v9 H locs hres hW hS => ?_) (fun E9 H locs q9 ce9 hres => by cases hres)
                      cases hres
                      refine W.eq (g2 := F0 m 107 ls ([])) rfl ?_
                      refine lv_iinc (v := (x5L1 + 1)) (lv' := [(5, .int (x5L1 + 1)), (7, .int a4), (6, .ref (sh.1 4 jq7)), (0, .ref (sh.1 1 0)), (1, .ref (sh.1 2 0)), (2, .int a3), (3, .int a4), (4, .ref (sh.1 11 jq2))]) hx hb dX2_findFrom_107 hl (k := 7) rfl rfl (by decide) rfl (fun ls hl => ?_)
                      refine lv_goto (tgt := 17) hx hb dX2_findFrom_110 (by decide) ?_
                      exact ih_L1 _ _ hf _ _ hW hS ls (lv_sub hl [3, 4, 5, 6, 7, 0] rfl)
                    · replace hf := if_f c34 hf
                      refine lv_iconst (v := 1) hx hb dX2_findFrom_97 (by decide) ?_
                      cases hf
                      exact xret_i (ty := .boolean) F hr hlocks hS (by decide) rfl hW (Nat.le_of_ble_eq_true rfl) (Nat.le_of_ble_eq_true rfl) dX2_findFrom_98
      exact hL_L1 _ _ _ hf _ _ hW hS ls (lv_sub hl [2, 3, 4, 5, 1, 0] rfl)
abbrev rX2_findBest : Room := { frames := 11, cells := 0, slots := 0, locals := 286 }
abbrev zX2_findBest : List Cond := Cond.code yX2_findBest cX2_findBest 4 (some .int) :: xB
theorem xd_X2_findBest : yX2_findBest.cls = RX2 ∧ yX2_findBest.cls ≠ "java/lang/invoke/MethodHandle" ∧ yX2_findBest.cls ≠ "java/lang/invoke/VarHandle" ∧ (parseMethodDescriptor yX2_findBest.desc).map (fun d => d.parameters.length) = some 2 := by decide +kernel
def fX2_findBest_K1 (x3L1 : Int32) (scL1 : xSC) : Option (Int32 × xSC) := some (7, scL1)
def fX2_findBest_L1 (nS : Nat) (nT : Nat) (k_L1 : Int32 → xSC → Option (Int32 × xSC)) : Nat → Int32 → xSC → Option (Int32 × xSC)
  | 0, _, _ => none
  | n + 1, x3L1, scL1 => (if 6 < x3L1 then k_L1 x3L1 scL1 else oP (fX2_clearTrials nS nT  scL1) (fun v2 s3 => oP (fX2_findFrom 8 nS nT 0 x3L1 s3) (fun v4 s5 => (if v4 = 0 then (fX2_findBest_L1 nS nT k_L1 n) (x3L1 + 1) s5 else some (x3L1, s5)))))
def fX2_findBest (nS : Nat) (nT : Nat) (sc : xSC) : Option (Int32 × xSC) := fX2_findBest_L1 nS nT (fX2_findBest_K1) 64 0 sc
set_option maxHeartbeats 4000000 in
set_option maxRecDepth 100000 in
theorem kX2_findBest (l : Launch) (hl0 : l.stackTraces = false) (G : xG) (sh : xSh) (sc : xSC) (sr : xSR) (sl : xSL) (r : (Int32 × xSC)) (hf : fX2_findBest sh.2.1 sh.2.2 sc = some r) : xMet l yX2_findBest zX2_findBest rX2_findBest G sh sc sr sl ([.ref (sh.1 3 0), .ref (sh.1 1 0), .ref (sh.1 2 0)] : List Value) (xvI (.inr r.1)) (xWd G sh r.2 sr sl) := by
  refine xMet_of (cc := cX2_findBest) (maxL := 4) (ret := (some .int)) (by decide) (Nat.le_of_ble_eq_true rfl) ?_
  intro p e s m below meth c F hT hW hr hlocks htab ls hl
  have F : CallFix p m c cX2_findBest 4 s ([.ref (sh.1 3 0), .ref (sh.1 1 0), .ref (sh.1 2 0)] : List Value).toArray xB RX2 := F
  have hx := F.1
  have hb := F.2.1
  have hS : va_S (xA G) s.heap s.heap [] := va_S.rf
  have hl : lv_has ls 4 [(0, .ref (sh.1 3 0)), (1, .ref (sh.1 1 0)), (2, .ref (sh.1 2 0))] := hl
  unfold fX2_findBest at hf
  refine lv_iconst (v := 0) hx hb dX2_findBest_0 (by decide) ?_
  refine lv_istore_n (lv' := [(3, .int 0), (0, .ref (sh.1 3 0)), (1, .ref (sh.1 1 0)), (2, .ref (sh.1 2 0))]) hx hb dX2_findBest_1 rfl hl (by decide) rfl (fun ls hl => ?_)
  have hx_L1 : ∀ (x3L1 : Int32) (scL1 : xSC), fX2_findBest_K1 x3L1 scL1 = some r → ∀ (H : Heap) (locs : List Loc), xWd G sh scL1 sr sl H → va_S (xA G) s.heap H locs → ∀ ls : Array Slot, lv_has ls 4 [] → W p l e rX2_findBest s m ([.ref (sh.1 3 0), .ref (sh.1 1 0), .ref (sh.1 2 0)] : List Value).toArray below meth c H locs 0 0 (xQ below G (xvI (.inr r.1)) (xWd G sh r.2 sr sl) ([.ref (sh.1 3 0), .ref (sh.1 1 0), .ref (sh.1 2 0)] : List Value).toArray s 0 0) (F0 m 30 ls []) := by
    intro x3L1 scL1 hf H locs hW hS ls hl
    unfold fX2_findBest_K1 at hf
    refine lv_bipush (v := 7) hx hb dX2_findBest_30 (by decide) ?_
    cases hf
    exact xret_i (ty := .int) F hr hlocks hS rfl rfl hW (Nat.le_of_ble_eq_true rfl) (Nat.le_of_ble_eq_true rfl) dX2_findBest_32
  have hL_L1 : ∀ (n9 : Nat) (x3L1 : Int32) (scL1 : xSC), fX2_findBest_L1 sh.2.1 sh.2.2 (fX2_findBest_K1) n9 x3L1 scL1 = some r → ∀ (H : Heap) (locs : List Loc), xWd G sh scL1 sr sl H → va_S (xA G) s.heap H locs → ∀ ls : Array Slot, lv_has ls 4 [(1, .ref (sh.1 1 0)), (2, .ref (sh.1 2 0)), (3, .int x3L1)] → W p l e rX2_findBest s m ([.ref (sh.1 3 0), .ref (sh.1 1 0), .ref (sh.1 2 0)] : List Value).toArray below meth c H locs 0 0 (xQ below G (xvI (.inr r.1)) (xWd G sh r.2 sr sl) ([.ref (sh.1 3 0), .ref (sh.1 1 0), .ref (sh.1 2 0)] : List Value).toArray s 0 0) (F0 m 2 ls []) := by
    intro n_L1
    induction n_L1 with
    | zero =>
      intro x3L1 scL1 hf
      unfold fX2_findBest_L1 at hf
      cases hf
    | succ n_L1 ih_L1 =>
      intro x3L1 scL1 hf H locs hW hS ls hl
      unfold fX2_findBest_L1 at hf
      refine lv_iload_n hx hb dX2_findBest_2 rfl (lv_at hl 2 rfl) ?_
      refine lv_aload_n hx hb dX2_findBest_3 rfl (lv_at hl 1 rfl) ?_
      refine xalenT F hT hW dX2_findBest_4 ?_
      refine lv_icmp_gt (tgt := 30) hx hb dX2_findBest_5 (by decide) (fun c1 => ?_) (fun c1 => ?_)
      · replace hf := if_t c1 hf
        exact hx_L1 _ _ hf _ _ hW hS ls (lv_sub hl [] rfl)
      · replace hf := if_f c1 hf
        refine lv_aload_n hx hb dX2_findBest_8 rfl (lv_at hl 0 rfl) ?_
        obtain ⟨v2, s3, hc8, hf⟩ := oP_go hf
        refine xcallS (n := 1) F hT hW hS (kX2_clearTrials l hl0 G sh scL1 sr sl   _ hc8) (xgS xw_124 xw_125 xw_2 xw_126) rfl xd_X2_clearTrials.2 ⟨Nat.le_of_ble_eq_true rfl, Nat.le_of_ble_eq_true rfl⟩ rfl hl.1 rfl (Nat.le_of_ble_eq_true rfl) dX2_findBest_9 ⟨Nat.le_of_ble_eq_true rfl, Nat.le_of_ble_eq_true rfl⟩ (fun v9 H locs hres hW hS => ?_) (fun E9 H locs q9 ce9 hres => by cases hres)
        cases hres
        refine W.eq (g2 := F0 m 12 ls ([])) rfl ?_
        refine lv_aload_n hx hb dX2_findBest_12 rfl (lv_at hl 0 rfl) ?_
        refine lv_aload_n hx hb dX2_findBest_13 rfl (lv_at hl 1 rfl) ?_
        refine lv_iconst (v := 0) hx hb dX2_findBest_14 (by decide) ?_
        refine lv_iload_n hx hb dX2_findBest_15 rfl (lv_at hl 2 rfl) ?_
        obtain ⟨v4, s5, hc7, hf⟩ := oP_go hf
        refine xcallS (n := 4) F hT hW hS (kX2_findFrom l hl0 G sh sr sl 8 s3 0 x3L1  _ hc7) (xgS xw_742 xw_743 xw_2 xw_744) rfl xd_X2_findFrom.2 ⟨Nat.le_of_ble_eq_true rfl, Nat.le_of_ble_eq_true rfl⟩ rfl hl.1 rfl (Nat.le_of_ble_eq_true rfl) dX2_findBest_16 ⟨Nat.le_of_ble_eq_true rfl, Nat.le_of_ble_eq_true rfl⟩ (fun v9 H locs hres hW hS => ?_) (fun E9 H locs q9 ce9 hres => by cases hres)
        cases hres
        refine W.eq (g2 := F0 m 19 ls (.int v4 :: [])) rfl ?_
        refine lv_if_eq (tgt := 24) hx hb dX2_findBest_19 (by decide) (fun c6 => ?_) (fun c6 => ?_)
        · replace hf := if_t c6 hf
          refine lv_iinc (v := (x3L1 + 1)) (lv' := [(3, .int (x3L1 + 1)), (1, .ref (sh.1 1 0)), (2, .ref (sh.1 2 0))]) hx hb dX2_findBest_24 hl (k := 2) rfl rfl (by decide) rfl (fun ls hl => ?_)
          refine lv_goto (tgt := 2) hx hb dX2_findBest_27 (by decide) ?_
          exact ih_L1 _ _ hf _ _ hW hS ls (lv_sub hl [1, 2, 0] rfl)
        · replace hf := if_f c6 hf
          refine lv_iload_n hx hb dX2_findBest_22 rfl (lv_at hl 2 rfl) ?_
          cases hf
          exact xret_i (ty := .int) F hr hlocks hS rfl rfl hW (Nat.le_of_ble_eq_true rfl) (Nat.le_of_ble_eq_true rfl) dX2_findBest_23
  exact hL_L1 _ _ _ hf _ _ hW hS ls (lv_sub hl [2, 3, 0] rfl)
abbrev rX2_tryAll : Room := { frames := 11, cells := 0, slots := 0, locals := 297 }
abbrev zX2_tryAll : List Cond := Cond.code yX2_tryAll cX2_tryAll 3 none :: xB
theorem xd_X2_tryAll : yX2_tryAll.cls = RX2 ∧ yX2_tryAll.cls ≠ "java/lang/invoke/MethodHandle" ∧ yX2_tryAll.cls ≠ "java/lang/invoke/VarHandle" ∧ (parseMethodDescriptor yX2_tryAll.desc).map (fun d => d.parameters.length) = some 2 := by decide +kernel
def fX2_tryAll (nS : Nat) (nT : Nat) (sc : xSC) : Option (Unit × xSC) := oP (fX2_clearTrials nS nT  (xuC (xuC sc.1 3 0 0 0, sc.2).1 3 0 1 7, (xuC sc.1 3 0 0 0, sc.2).2)) (fun v1 s2 => oP (fX2_tryFrom 8 nS nT 0 0 s2) (fun v3 s4 => some ((), s4)))
set_option maxHeartbeats 4000000 in
set_option maxRecDepth 100000 in
theorem kX2_tryAll (l : Launch) (hl0 : l.stackTraces = false) (G : xG) (sh : xSh) (sc : xSC) (sr : xSR) (sl : xSL) (r : (Unit × xSC)) (hf : fX2_tryAll sh.2.1 sh.2.2 sc = some r) : xMet l yX2_tryAll zX2_tryAll rX2_tryAll G sh sc sr sl ([.ref (sh.1 3 0), .ref (sh.1 1 0), .ref (sh.1 2 0)] : List Value) (xvU (.inr r.1)) (xWd G sh r.2 sr sl) := by
  refine xMet_of (cc := cX2_tryAll) (maxL := 3) (ret := none) (by decide) (Nat.le_of_ble_eq_true rfl) ?_
  intro p e s m below meth c F hT hW hr hlocks htab ls hl
  have F : CallFix p m c cX2_tryAll 3 s ([.ref (sh.1 3 0), .ref (sh.1 1 0), .ref (sh.1 2 0)] : List Value).toArray xB RX2 := F
  have hx := F.1
  have hb := F.2.1
  have hS : va_S (xA G) s.heap s.heap [] := va_S.rf
  have hl : lv_has ls 3 [(0, .ref (sh.1 3 0)), (1, .ref (sh.1 1 0)), (2, .ref (sh.1 2 0))] := hl
  unfold fX2_tryAll at hf
  refine lv_aload_n hx hb dX2_tryAll_0 rfl (lv_at hl 0 rfl) ?_
  refine lv_iconst (v := 0) hx hb dX2_tryAll_1 (by decide) ?_
  refine xput (ty := .int) F hT hW hS xuX2 tyX2 tyX2_ok nmX2 (xm_fix (by decide)) xce_3 rfl 0 (by decide) xw_38 rfl rfl rfl rfl rfl (Nat.le_of_ble_eq_true rfl) xup_3_0 dX2_tryAll_2 (fun H locs hW hS => ?_)
  refine lv_aload_n hx hb dX2_tryAll_5 rfl (lv_at hl 0 rfl) ?_
  refine lv_bipush (v := 7) hx hb dX2_tryAll_6 (by decide) ?_
  refine xput (ty := .int) F hT hW hS xuX2 tyX2 tyX2_ok nmX2 (xm_fix (by decide)) xce_3 rfl 1 (by decide) xw_40 rfl rfl rfl rfl rfl (Nat.le_of_ble_eq_true rfl) xup_3_1 dX2_tryAll_8 (fun H locs hW hS => ?_)
  refine lv_aload_n hx hb dX2_tryAll_11 rfl (lv_at hl 1 rfl) ?_
  obtain ⟨v1, s2, hc6, hf⟩ := oP_go hf
  refine xcallS (n := 1) F hT hW hS (kX2_clearTrials l hl0 G sh (xuC (xuC sc.1 3 0 0 0, sc.2).1 3 0 1 7, (xuC sc.1 3 0 0 0, sc.2).2) sr sl   _ hc6) (xgS xw_124 xw_125 xw_2 xw_126) rfl xd_X2_clearTrials.2 ⟨Nat.le_of_ble_eq_true rfl, Nat.le_of_ble_eq_true rfl⟩ rfl hl.1 rfl (Nat.le_of_ble_eq_true rfl) dX2_tryAll_12 ⟨Nat.le_of_ble_eq_true rfl, Nat.le_of_ble_eq_true rfl⟩ (fun v9 H locs hres hW hS => ?_) (fun E9 H locs q9 ce9 hres => by cases hres)
  cases hres
  refine W.eq (g2 := F0 m 15 ls ([])) rfl ?_
  refine lv_aload_n hx hb dX2_tryAll_15 rfl (lv_at hl 0 rfl) ?_
  refine lv_aload_n hx hb dX2_tryAll_16 rfl (lv_at hl 1 rfl) ?_
  refine lv_aload_n hx hb dX2_tryAll_17 rfl (lv_at hl 2 rfl) ?_
  refine lv_iconst (v := 0) hx hb dX2_tryAll_18 (by decide) ?_
  refine lv_iconst (v := 0) hx hb dX2_tryAll_19 (by decide) ?_
  obtain ⟨v3, s4, hc5, hf⟩ := oP_go hf
  refine xcallS (n := 5) F hT hW hS (kX2_tryFrom l hl0 G sh sr sl 8 s2 0 0  _ hc5) (xgS xw_135 xw_136 xw_2 xw_137) rfl xd_X2_tryFrom.2 ⟨Nat.le_of_ble_eq_true rfl, Nat.le_of_ble_eq_true rfl⟩ rfl hl.1 rfl (Nat.le_of_ble_eq_true rfl) dX2_tryAll_20 ⟨Nat.le_of_ble_eq_true rfl, Nat.le_of_ble_eq_true rfl⟩ (fun v9 H locs hres hW hS => ?_) (fun E9 H locs q9 ce9 hres => by cases hres)
  cases hres
  refine W.eq (g2 := F0 m 23 ls ([])) rfl ?_
  cases hf
  exact xret_v F hr hlocks hS rfl hW (Nat.le_of_ble_eq_true rfl) (Nat.le_of_ble_eq_true rfl) dX2_tryAll_23
abbrev rX5_fewestByTrying : Room := { frames := 12, cells := 1, slots := 6, locals := 319 }
abbrev zX5_fewestByTrying : List Cond := Cond.code yX5_fewestByTrying cX5_fewestByTrying 1 (some .int) :: xB
theorem xd_X5_fewestByTrying : yX5_fewestByTrying.cls = RX5 ∧ yX5_fewestByTrying.cls ≠ "java/lang/invoke/MethodHandle" ∧ yX5_fewestByTrying.cls ≠ "java/lang/invoke/VarHandle" ∧ (parseMethodDescriptor yX5_fewestByTrying.desc).map (fun d => d.parameters.length) = some 0 := by decide +kernel
def fX5_fewestByTrying (nS : Nat) (nT : Nat) (sc : xSC) : Option ((String ⊕ Int32) × xSC) := oP (fX2_tryAll nS nT  sc) (fun v1 s2 => oT (fX5_requirePlan nS nT (s2.1 3 0 1) s2) (fun E5 => some ((Sum.inl E5), s2)) (fun v3 => some ((Sum.inr (s2.1 3 0 1)), s2)))
set_option maxHeartbeats 4000000 in
set_option maxRecDepth 100000 in
theorem kX5_fewestByTrying (l : Launch) (hl0 : l.stackTraces = false) (G : xG) (sh : xSh) (sc : xSC) (sr : xSR) (sl : xSL) (r : ((String ⊕ Int32) × xSC)) (hf : fX5_fewestByTrying sh.2.1 sh.2.2 sc = some r) : xMet l yX5_fewestByTrying zX5_fewestByTrying rX5_fewestByTrying G sh sc sr sl ([.ref (sh.1 0 0)] : List Value) (xvI r.1) (xWd G sh r.2 sr sl) := by
  refine xMet_of (cc := cX5_fewestByTrying) (maxL := 1) (ret := (some .int)) (by decide) (Nat.le_of_ble_eq_true rfl) ?_
  intro p e s m below meth c F hT hW hr hlocks htab ls hl
  have F : CallFix p m c cX5_fewestByTrying 1 s ([.ref (sh.1 0 0)] : List Value).toArray xB RX5 := F
  have hx := F.1
  have hb := F.2.1
  have hS : va_S (xA G) s.heap s.heap [] := va_S.rf
  have hl : lv_has ls 1 [(0, .ref (sh.1 0 0))] := hl
  unfold fX5_fewestByTrying at hf
  refine lv_aload_n hx hb dX5_fewestByTrying_0 rfl (lv_at hl 0 rfl) ?_
  refine xget F hT hW xuX5 (xm_fix (by decide)) xce_0 rfl 2 (by decide) xw_73 rfl rfl dX5_fewestByTrying_1 ?_
  refine lv_aload_n hx hb dX5_fewestByTrying_4 rfl (lv_at hl 0 rfl) ?_
  refine xget F hT hW xuX5 (xm_fix (by decide)) xce_0 rfl 0 (by decide) xw_71 rfl rfl dX5_fewestByTrying_5 ?_
  refine lv_aload_n hx hb dX5_fewestByTrying_8 rfl (lv_at hl 0 rfl) ?_
  refine xget F hT hW xuX5 (xm_fix (by decide)) xce_0 rfl 1 (by decide) xw_72 rfl rfl dX5_fewestByTrying_9 ?_
  obtain ⟨v1, s2, hc6, hf⟩ := oP_go hf
  refine xcallV (n := 2) F hT hW hS (xm_fix (by decide)) xce_3 rfl (kX2_tryAll l hl0 G sh sc sr sl   _ hc6) (xgV xw_120 xw_121 xw_122 xw_2 xw_123) rfl xd_X2_tryAll ⟨Nat.le_of_ble_eq_true rfl, Nat.le_of_ble_eq_true rfl⟩ rfl hl.1 rfl (Nat.le_of_ble_eq_true rfl) dX5_fewestByTrying_12 ⟨Nat.le_of_ble_eq_true rfl, Nat.le_of_ble_eq_true rfl⟩ (fun v9 H locs hres hW hS => ?_) (fun E9 H locs q9 ce9 hres => by cases hres)
  cases hres
  refine W.eq (g2 := F0 m 15 ls ([])) rfl ?_
  refine lv_aload_n hx hb dX5_fewestByTrying_15 rfl (lv_at hl 0 rfl) ?_
  refine xget F hT hW xuX5 (xm_fix (by decide)) xce_0 rfl 2 (by decide) xw_73 rfl rfl dX5_fewestByTrying_16 ?_
  refine xgetN (host := "TenantPlacement") F hT hW xuX2 (xm_fix (by decide)) xce_3 rfl 1 (by decide) (List.mem_of_getElem? (i := 22) rfl) rfl rfl dX5_fewestByTrying_19 ?_
  rcases oT_go hf with ⟨v3, hc4, hf⟩ | ⟨E5, hc4, hf⟩
  · refine xcallS (n := 1) F hT hW hS (kX5_requirePlan l hl0 G sh s2 sr sl (s2.1 3 0 1)  _ hc4) (xgS xw_745 xw_746 xw_1 xw_747) rfl xd_X5_requirePlan.2 ⟨Nat.le_of_ble_eq_true rfl, Nat.le_of_ble_eq_true rfl⟩ rfl hl.1 rfl (Nat.le_of_ble_eq_true rfl) dX5_fewestByTrying_22 ⟨Nat.le_of_ble_eq_true rfl, Nat.le_of_ble_eq_true rfl⟩ (fun v9 H locs hres hW hS => ?_) (fun E9 H locs q9 ce9 hres => by cases hres)
    cases hres
    refine W.eq (g2 := F0 m 25 ls ([])) rfl ?_
    refine lv_aload_n hx hb dX5_fewestByTrying_25 rfl (lv_at hl 0 rfl) ?_
    refine xget F hT hW xuX5 (xm_fix (by decide)) xce_0 rfl 2 (by decide) xw_73 rfl rfl dX5_fewestByTrying_26 ?_
    refine xgetN (host := "TenantPlacement") F hT hW xuX2 (xm_fix (by decide)) xce_3 rfl 1 (by decide) (List.mem_of_getElem? (i := 22) rfl) rfl rfl dX5_fewestByTrying_29 ?_
    cases hf
    exact xret_i (ty := .int) F hr hlocks hS rfl rfl hW (Nat.le_of_ble_eq_true rfl) (Nat.le_of_ble_eq_true rfl) dX5_fewestByTrying_32
  · refine xcallS (n := 1) F hT hW hS (kX5_requirePlan l hl0 G sh s2 sr sl (s2.1 3 0 1)  _ hc4) (xgS xw_745 xw_746 xw_1 xw_747) rfl xd_X5_requirePlan.2 ⟨Nat.le_of_ble_eq_true rfl, Nat.le_of_ble_eq_true rfl⟩ rfl hl.1 rfl (Nat.le_of_ble_eq_true rfl) dX5_fewestByTrying_22 ⟨Nat.le_of_ble_eq_true rfl, Nat.le_of_ble_eq_true rfl⟩ (fun v9 H locs hres => by cases hres) (fun E9 H locs q9 ce9 hres hW hS hcell hv9 hcl => ?_)
    cases hres
    cases hf
    exact xout htab hlocks hS rfl hW hcell hv9 hcl (Nat.le_of_ble_eq_true rfl) (Nat.le_of_ble_eq_true rfl)
abbrev rX5_fewestMoves : Room := { frames := 12, cells := 1, slots := 6, locals := 309 }
abbrev zX5_fewestMoves : List Cond := Cond.code yX5_fewestMoves cX5_fewestMoves 2 (some .int) :: xB
theorem xd_X5_fewestMoves : yX5_fewestMoves.cls = RX5 ∧ yX5_fewestMoves.cls ≠ "java/lang/invoke/MethodHandle" ∧ yX5_fewestMoves.cls ≠ "java/lang/invoke/VarHandle" ∧ (parseMethodDescriptor yX5_fewestMoves.desc).map (fun d => d.parameters.length) = some 0 := by decide +kernel
def fX5_fewestMoves (nS : Nat) (nT : Nat) (sc : xSC) : Option ((String ⊕ Int32) × xSC) := oP (fX2_findBest nS nT  sc) (fun v1 s2 => oT (fX5_requirePlan nS nT v1 s2) (fun E5 => some ((Sum.inl E5), s2)) (fun v3 => some ((Sum.inr v1), s2)))
set_option maxHeartbeats 4000000 in
set_option maxRecDepth 100000 in
theorem kX5_fewestMoves (l : Launch) (hl0 : l.stackTraces = false) (G : xG) (sh : xSh) (sc : xSC) (sr : xSR) (sl : xSL) (r : ((String ⊕ Int32) × xSC)) (hf : fX5_fewestMoves sh.2.1 sh.2.2 sc = some r) : xMet l yX5_fewestMoves zX5_fewestMoves rX5_fewestMoves G sh sc sr sl ([.ref (sh.1 0 0)] : List Value) (xvI r.1) (xWd G sh r.2 sr sl) := by
  refine xMet_of (cc := cX5_fewestMoves) (maxL := 2) (ret := (some .int)) (by decide) (Nat.le_of_ble_eq_true rfl) ?_
  intro p e s m below meth c F hT hW hr hlocks htab ls hl
  have F : CallFix p m c cX5_fewestMoves 2 s ([.ref (sh.1 0 0)] : List Value).toArray xB RX5 := F
  have hx := F.1
  have hb := F.2.1
  have hS : va_S (xA G) s.heap s.heap [] := va_S.rf
  have hl : lv_has ls 2 [(0, .ref (sh.1 0 0))] := hl
  unfold fX5_fewestMoves at hf
  refine lv_aload_n hx hb dX5_fewestMoves_0 rfl (lv_at hl 0 rfl) ?_
  refine xget F hT hW xuX5 (xm_fix (by decide)) xce_0 rfl 2 (by decide) xw_73 rfl rfl dX5_fewestMoves_1 ?_
  refine lv_aload_n hx hb dX5_fewestMoves_4 rfl (lv_at hl 0 rfl) ?_
  refine xget F hT hW xuX5 (xm_fix (by decide)) xce_0 rfl 0 (by decide) xw_71 rfl rfl dX5_fewestMoves_5 ?_
  refine lv_aload_n hx hb dX5_fewestMoves_8 rfl (lv_at hl 0 rfl) ?_
  refine xget F hT hW xuX5 (xm_fix (by decide)) xce_0 rfl 1 (by decide) xw_72 rfl rfl dX5_fewestMoves_9 ?_
  obtain ⟨v1, s2, hc6, hf⟩ := oP_go hf
  refine xcallV (n := 2) F hT hW hS (xm_fix (by decide)) xce_3 rfl (kX2_findBest l hl0 G sh sc sr sl   _ hc6) (xgV xw_738 xw_739 xw_740 xw_2 xw_741) rfl xd_X2_findBest ⟨Nat.le_of_ble_eq_true rfl, Nat.le_of_ble_eq_true rfl⟩ rfl hl.1 rfl (Nat.le_of_ble_eq_true rfl) dX5_fewestMoves_12 ⟨Nat.le_of_ble_eq_true rfl, Nat.le_of_ble_eq_true rfl⟩ (fun v9 H locs hres hW hS => ?_) (fun E9 H locs q9 ce9 hres => by cases hres)
  cases hres
  refine W.eq (g2 := F0 m 15 ls (.int v1 :: [])) rfl ?_
  refine lv_istore_n (lv' := [(1, .int v1), (0, .ref (sh.1 0 0))]) hx hb dX5_fewestMoves_15 rfl hl (by decide) rfl (fun ls hl => ?_)
  refine lv_iload_n hx hb dX5_fewestMoves_16 rfl (lv_at hl 0 rfl) ?_
  rcases oT_go hf with ⟨v3, hc4, hf⟩ | ⟨E5, hc4, hf⟩
  · refine xcallS (n := 1) F hT hW hS (kX5_requirePlan l hl0 G sh s2 sr sl v1  _ hc4) (xgS xw_745 xw_746 xw_1 xw_747) rfl xd_X5_requirePlan.2 ⟨Nat.le_of_ble_eq_true rfl, Nat.le_of_ble_eq_true rfl⟩ rfl hl.1 rfl (Nat.le_of_ble_eq_true rfl) dX5_fewestMoves_17 ⟨Nat.le_of_ble_eq_true rfl, Nat.le_of_ble_eq_true rfl⟩ (fun v9 H locs hres hW hS => ?_) (fun E9 H locs q9 ce9 hres => by cases hres)
    cases hres
    refine W.eq (g2 := F0 m 20 ls ([])) rfl ?_
    refine lv_iload_n hx hb dX5_fewestMoves_20 rfl (lv_at hl 0 rfl) ?_
    cases hf
    exact xret_i (ty := .int) F hr hlocks hS rfl rfl hW (Nat.le_of_ble_eq_true rfl) (Nat.le_of_ble_eq_true rfl) dX5_fewestMoves_21
  · refine xcallS (n := 1) F hT hW hS (kX5_requirePlan l hl0 G sh s2 sr sl v1  _ hc4) (xgS xw_745 xw_746 xw_1 xw_747) rfl xd_X5_requirePlan.2 ⟨Nat.le_of_ble_eq_true rfl, Nat.le_of_ble_eq_true rfl⟩ rfl hl.1 rfl (Nat.le_of_ble_eq_true rfl) dX5_fewestMoves_17 ⟨Nat.le_of_ble_eq_true rfl, Nat.le_of_ble_eq_true rfl⟩ (fun v9 H locs hres => by cases hres) (fun E9 H locs q9 ce9 hres hW hS hcell hv9 hcl => ?_)
    cases hres
    cases hf
    exact xout htab hlocks hS rfl hW hcell hv9 hcl (Nat.le_of_ble_eq_true rfl) (Nat.le_of_ble_eq_true rfl)
abbrev rX5_planned : Room := { frames := 12, cells := 2, slots := 12, locals := 309 }
abbrev zX5_planned : List Cond := Cond.code yX5_planned cX5_planned 3 (some .int) :: xB
theorem xd_X5_planned : yX5_planned.cls = RX5 ∧ yX5_planned.cls ≠ "java/lang/invoke/MethodHandle" ∧ yX5_planned.cls ≠ "java/lang/invoke/VarHandle" ∧ (parseMethodDescriptor yX5_planned.desc).map (fun d => d.parameters.length) = some 1 := by decide +kernel
def fX5_planned (nS : Nat) (nT : Nat) (a1 : Int32) (sc : xSC) : Option ((String ⊕ Int32) × xSC) := oT (fX5_knownTenant nS nT a1 sc) (fun E11 => some ((Sum.inl E11), sc)) (fun v1 => oG (decide (v1 < nT)) (oP (fX2_findBest nS nT  sc) (fun v4 s5 => oT (fX5_requirePlan nS nT v4 s5) (fun E8 => some ((Sum.inl E8), s5)) (fun v6 => some ((Sum.inr (s5.1 11 v1 7)), s5)))))
set_option maxHeartbeats 4000000 in
set_option maxRecDepth 100000 in
theorem kX5_planned (l : Launch) (hl0 : l.stackTraces = false) (G : xG) (sh : xSh) (sc : xSC) (sr : xSR) (sl : xSL) (a1 : Int32) (r : ((String ⊕ Int32) × xSC)) (hf : fX5_planned sh.2.1 sh.2.2 a1 sc = some r) : xMet l yX5_planned zX5_planned rX5_planned G sh sc sr sl ([.ref (sh.1 0 0), .int a1] : List Value) (xvI r.1) (xWd G sh r.2 sr sl) := by
  refine xMet_of (cc := cX5_planned) (maxL := 3) (ret := (some .int)) (by decide) (Nat.le_of_ble_eq_true rfl) ?_
  intro p e s m below meth c F hT hW hr hlocks htab ls hl
  have F : CallFix p m c cX5_planned 3 s ([.ref (sh.1 0 0), .int a1] : List Value).toArray xB RX5 := F
  have hx := F.1
  have hb := F.2.1
  have hS : va_S (xA G) s.heap s.heap [] := va_S.rf
  have hl : lv_has ls 3 [(0, .ref (sh.1 0 0)), (1, .int a1)] := hl
  unfold fX5_planned at hf
  refine lv_aload_n hx hb dX5_planned_0 rfl (lv_at hl 0 rfl) ?_
  refine lv_iload_n hx hb dX5_planned_1 rfl (lv_at hl 1 rfl) ?_
  rcases oT_go hf with ⟨v1, hc10, hf⟩ | ⟨E11, hc10, hf⟩
  · refine xcallV (n := 1) F hT hW hS (xm_fix (by decide)) xce_0 rfl (kX5_knownTenant l hl0 G sh sc sr sl a1  _ hc10) (xgV xw_497 xw_499 xwp_5 xw_1 xw_500) rfl xd_X5_knownTenant ⟨Nat.le_of_ble_eq_true rfl, Nat.le_of_ble_eq_true rfl⟩ rfl hl.1 rfl (Nat.le_of_ble_eq_true rfl) dX5_planned_2 ⟨Nat.le_of_ble_eq_true rfl, Nat.le_of_ble_eq_true rfl⟩ (fun v9 H locs hres hW hS => ?_) (fun E9 H locs q9 ce9 hres => by cases hres)
    cases hres
    refine W.eq (g2 := F0 m 5 ls (.ref (sh.1 11 v1) :: [])) rfl ?_
    obtain ⟨g3, hf⟩ := oG_go hf
    have h2 : v1 < sh.2.2 := of_decide_eq_true g3
    refine lv_astore_n (lv' := [(2, .ref (sh.1 11 v1)), (0, .ref (sh.1 0 0)), (1, .int a1)]) hx hb dX5_planned_5 rfl hl (by decide) rfl (fun ls hl => ?_)
    refine lv_aload_n hx hb dX5_planned_6 rfl (lv_at hl 1 rfl) ?_
    refine xget F hT hW xuX5 (xm_fix (by decide)) xce_0 rfl 2 (by decide) xw_73 rfl rfl dX5_planned_7 ?_
    refine lv_aload_n hx hb dX5_planned_10 rfl (lv_at hl 1 rfl) ?_
    refine xget F hT hW xuX5 (xm_fix (by decide)) xce_0 rfl 0 (by decide) xw_71 rfl rfl dX5_planned_11 ?_
    refine lv_aload_n hx hb dX5_planned_14 rfl (lv_at hl 1 rfl) ?_
    refine xget F hT hW xuX5 (xm_fix (by decide)) xce_0 rfl 1 (by decide) xw_72 rfl rfl dX5_planned_15 ?_
    obtain ⟨v4, s5, hc9, hf⟩ := oP_go hf
    refine xcallV (n := 2) F hT hW hS (xm_fix (by decide)) xce_3 rfl (kX2_findBest l hl0 G sh sc sr sl   _ hc9) (xgV xw_738 xw_739 xw_740 xw_2 xw_741) rfl xd_X2_findBest ⟨Nat.le_of_ble_eq_true rfl, Nat.le_of_ble_eq_true rfl⟩ rfl hl.1 rfl (Nat.le_of_ble_eq_true rfl) dX5_planned_18 ⟨Nat.le_of_ble_eq_true rfl, Nat.le_of_ble_eq_true rfl⟩ (fun v9 H locs hres hW hS => ?_) (fun E9 H locs q9 ce9 hres => by cases hres)
    cases hres
    refine W.eq (g2 := F0 m 21 ls (.int v4 :: [])) rfl ?_
    rcases oT_go hf with ⟨v6, hc7, hf⟩ | ⟨E8, hc7, hf⟩
    · refine xcallS (n := 1) F hT hW hS (kX5_requirePlan l hl0 G sh s5 sr sl v4  _ hc7) (xgS xw_745 xw_746 xw_1 xw_747) rfl xd_X5_requirePlan.2 ⟨Nat.le_of_ble_eq_true rfl, Nat.le_of_ble_eq_true rfl⟩ rfl hl.1 rfl (Nat.le_of_ble_eq_true rfl) dX5_planned_21 ⟨Nat.le_of_ble_eq_true rfl, Nat.le_of_ble_eq_true rfl⟩ (fun v9 H locs hres hW hS => ?_) (fun E9 H locs q9 ce9 hres => by cases hres)
      cases hres
      refine W.eq (g2 := F0 m 24 ls ([])) rfl ?_
      refine lv_aload_n hx hb dX5_planned_24 rfl (lv_at hl 0 rfl) ?_
      refine xgetN (host := "TenantPlacement") F hT hW xuX4 (xm_T h2 (by decide)) xce_11 rfl 7 (by decide) (List.mem_of_getElem? (i := 23) rfl) rfl rfl dX5_planned_25 ?_
      cases hf
      exact xret_i (ty := .int) F hr hlocks hS rfl rfl hW (Nat.le_of_ble_eq_true rfl) (Nat.le_of_ble_eq_true rfl) dX5_planned_28
    · refine xcallS (n := 1) F hT hW hS (kX5_requirePlan l hl0 G sh s5 sr sl v4  _ hc7) (xgS xw_745 xw_746 xw_1 xw_747) rfl xd_X5_requirePlan.2 ⟨Nat.le_of_ble_eq_true rfl, Nat.le_of_ble_eq_true rfl⟩ rfl hl.1 rfl (Nat.le_of_ble_eq_true rfl) dX5_planned_21 ⟨Nat.le_of_ble_eq_true rfl, Nat.le_of_ble_eq_true rfl⟩ (fun v9 H locs hres => by cases hres) (fun E9 H locs q9 ce9 hres hW hS hcell hv9 hcl => ?_)
      cases hres
      cases hf
      exact xout htab hlocks hS rfl hW hcell hv9 hcl (Nat.le_of_ble_eq_true rfl) (Nat.le_of_ble_eq_true rfl)
  · refine xcallV (n := 1) F hT hW hS (xm_fix (by decide)) xce_0 rfl (kX5_knownTenant l hl0 G sh sc sr sl a1  _ hc10) (xgV xw_497 xw_499 xwp_5 xw_1 xw_500) rfl xd_X5_knownTenant ⟨Nat.le_of_ble_eq_true rfl, Nat.le_of_ble_eq_true rfl⟩ rfl hl.1 rfl (Nat.le_of_ble_eq_true rfl) dX5_planned_2 ⟨Nat.le_of_ble_eq_true rfl, Nat.le_of_ble_eq_true rfl⟩ (fun v9 H locs hres => by cases hres) (fun E9 H locs q9 ce9 hres hW hS hcell hv9 hcl => ?_)
    cases hres
    cases hf
    exact xout htab hlocks hS rfl hW hcell hv9 hcl (Nat.le_of_ble_eq_true rfl) (Nat.le_of_ble_eq_true rfl)
abbrev rX5_soundPlans : Room := { frames := 12, cells := 0, slots := 0, locals := 319 }
abbrev zX5_soundPlans : List Cond := Cond.code yX5_soundPlans cX5_soundPlans 1 (some .int) :: xB
theorem xd_X5_soundPlans : yX5_soundPlans.cls = RX5 ∧ yX5_soundPlans.cls ≠ "java/lang/invoke/MethodHandle" ∧ yX5_soundPlans.cls ≠ "java/lang/invoke/VarHandle" ∧ (parseMethodDescriptor yX5_soundPlans.desc).map (fun d => d.parameters.length) = some 0 := by decide +kernel
def fX5_soundPlans (nS : Nat) (nT : Nat) (sc : xSC) : Option (Int32 × xSC) := oP (fX2_tryAll nS nT  sc) (fun v1 s2 => some ((s2.1 3 0 0), s2))
set_option maxHeartbeats 4000000 in
set_option maxRecDepth 100000 in
theorem kX5_soundPlans (l : Launch) (hl0 : l.stackTraces = false) (G : xG) (sh : xSh) (sc : xSC) (sr : xSR) (sl : xSL) (r : (Int32 × xSC)) (hf : fX5_soundPlans sh.2.1 sh.2.2 sc = some r) : xMet l yX5_soundPlans zX5_soundPlans rX5_soundPlans G sh sc sr sl ([.ref (sh.1 0 0)] : List Value) (xvI (.inr r.1)) (xWd G sh r.2 sr sl) := by
  refine xMet_of (cc := cX5_soundPlans) (maxL := 1) (ret := (some .int)) (by decide) (Nat.le_of_ble_eq_true rfl) ?_
  intro p e s m below meth c F hT hW hr hlocks htab ls hl
  have F : CallFix p m c cX5_soundPlans 1 s ([.ref (sh.1 0 0)] : List Value).toArray xB RX5 := F
  have hx := F.1
  have hb := F.2.1
  have hS : va_S (xA G) s.heap s.heap [] := va_S.rf
  have hl : lv_has ls 1 [(0, .ref (sh.1 0 0))] := hl
  unfold fX5_soundPlans at hf
  refine lv_aload_n hx hb dX5_soundPlans_0 rfl (lv_at hl 0 rfl) ?_
  refine xget F hT hW xuX5 (xm_fix (by decide)) xce_0 rfl 2 (by decide) xw_73 rfl rfl dX5_soundPlans_1 ?_
  refine lv_aload_n hx hb dX5_soundPlans_4 rfl (lv_at hl 0 rfl) ?_
  refine xget F hT hW xuX5 (xm_fix (by decide)) xce_0 rfl 0 (by decide) xw_71 rfl rfl dX5_soundPlans_5 ?_
  refine lv_aload_n hx hb dX5_soundPlans_8 rfl (lv_at hl 0 rfl) ?_
  refine xget F hT hW xuX5 (xm_fix (by decide)) xce_0 rfl 1 (by decide) xw_72 rfl rfl dX5_soundPlans_9 ?_
  obtain ⟨v1, s2, hc3, hf⟩ := oP_go hf
  refine xcallV (n := 2) F hT hW hS (xm_fix (by decide)) xce_3 rfl (kX2_tryAll l hl0 G sh sc sr sl   _ hc3) (xgV xw_120 xw_121 xw_122 xw_2 xw_123) rfl xd_X2_tryAll ⟨Nat.le_of_ble_eq_true rfl, Nat.le_of_ble_eq_true rfl⟩ rfl hl.1 rfl (Nat.le_of_ble_eq_true rfl) dX5_soundPlans_12 ⟨Nat.le_of_ble_eq_true rfl, Nat.le_of_ble_eq_true rfl⟩ (fun v9 H locs hres hW hS => ?_) (fun E9 H locs q9 ce9 hres => by cases hres)
  cases hres
  refine W.eq (g2 := F0 m 15 ls ([])) rfl ?_
  refine lv_aload_n hx hb dX5_soundPlans_15 rfl (lv_at hl 0 rfl) ?_
  refine xget F hT hW xuX5 (xm_fix (by decide)) xce_0 rfl 2 (by decide) xw_73 rfl rfl dX5_soundPlans_16 ?_
  refine xgetN (host := "TenantPlacement") F hT hW xuX2 (xm_fix (by decide)) xce_3 rfl 0 (by decide) (List.mem_of_getElem? (i := 24) rfl) rfl rfl dX5_soundPlans_19 ?_
  cases hf
  exact xret_i (ty := .int) F hr hlocks hS rfl rfl hW (Nat.le_of_ble_eq_true rfl) (Nat.le_of_ble_eq_true rfl) dX5_soundPlans_22
