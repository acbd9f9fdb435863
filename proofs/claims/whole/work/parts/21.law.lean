/-! the cases of the law (written by wip/gen/law.py) -/
def xat (sh : xSh) (xa ma oa da : Nat) : Prop := sh.1 0 0 = xa ∧ sh.1 12 0 = ma ∧ sh.1 14 0 = oa ∧ sh.1 15 0 = da
abbrev xR5 : Type := Nat × Nat × xSC × xSR × xSL
def fC_0 (nS nT : Nat) (a1 : Int32) (a2 : Int32) (a3 : Int32) (sc : xSC) (sr : xSR) (sl : xSL) : Option xR5 := oB (fL_addShard nS nT a1 a2 a3 sc sl) (fun q1 => (if q1.1 = 0 then oP (fX6_addShard a1 a2 a3 sr) (fun v4 s6 => oB (fX6_thrown s6) (fun v7 => (if v7 = q1.1 then (if q1.1 = 0 then (if (lg_cmp q1.2.2.1 ((v4).toInt64)) = 0 then some ((nS + 1), nT, q1.2.1, s6, q1.2.2) else none) else some ((nS + 1), nT, q1.2.1, s6, q1.2.2)) else none))) else oP (fX6_addShard a1 a2 a3 sr) (fun v13 s15 => oB (fX6_thrown s15) (fun v16 => (if v16 = q1.1 then (if q1.1 = 0 then (if (lg_cmp q1.2.2.1 ((v13).toInt64)) = 0 then some (nS, nT, q1.2.1, s15, q1.2.2) else none) else some (nS, nT, q1.2.1, s15, q1.2.2)) else none)))))
set_option maxHeartbeats 4000000 in
set_option maxRecDepth 100000 in
theorem kC_0 {p : Program} {l : Launch} {e : Env} {s : State} {m : MethodId} {args : Array Value} {below : List Frame} {meth : Method} {c : Code} {H : Heap} {locs : List Loc} {cells slots : Nat} {Q : State → Prop} {ls : Array Slot} {G : xG} {sh : xSh} {sc : xSC} {sr : xSR} {sl : xSL} {b L xa ma oa da : Nat} {xs : Nat → Int32} {x5 a1 a2 a3 a4 a5 : Int32} (hl0 : l.stackTraces = false) (F : CallFix p m c code 9 s args xB RL) (hT : xTb G s s.heap) (hX : va_X b L xs s s.heap) (hbl : b < s.heap.size) (hbA : ¬ xA G b) (hi1 : vp_in (x5 + 1) L) (hi2 : vp_in (x5 + 2) L) (hi3 : vp_in (x5 + 3) L) (hi4 : vp_in (x5 + 4) L) (hi5 : vp_in (x5 + 5) L) (ha1 : xs (x5 + 1).toNatClampNeg = a1) (ha2 : xs (x5 + 2).toNatClampNeg = a2) (ha3 : xs (x5 + 3).toNatClampNeg = a3) (ha4 : xs (x5 + 4).toNatClampNeg = a4) (ha5 : xs (x5 + 5).toNatClampNeg = a5) (hcl : cells + 16 ≤ 803720) (hsl : slots + 128 ≤ 6592785) (hat : xat sh xa ma oa da) (hW : xWd G sh sc sr sl H) (hS : va_S (xA G) s.heap H locs) (hl : lv_has ls 9 [(5, .int x5), (0, .ref b), (1, .ref xa), (2, .ref ma), (3, .ref oa), (4, .ref da)]) (r : xR5) (hf : fC_0 sh.2.1 sh.2.2 a1 a2 a3 sc sr sl = some r) (hk : ∀ (sh2 : xSh) (H : Heap) (locs : List Loc) (ls : Array Slot), sh2.2.1 = r.1 → sh2.2.2 = r.2.1 → xat sh2 xa ma oa da → xWd G sh2 r.2.2.1 r.2.2.2.1 r.2.2.2.2 H → va_S (xA G) s.heap H locs → lv_has ls 9 [(5, .int x5), (0, .ref b), (1, .ref xa), (2, .ref ma), (3, .ref oa), (4, .ref da)] → W p l e room_1 s m args below meth c H locs (cells + 16) (slots + 128) Q (F0 m 2017 ls [])) : W p l e room_1 s m args below meth c H locs cells slots Q (F0 m 192 ls []) := by
  have hx := F.1
  have hb := F.2.1
  obtain ⟨ex, em, eo, ed⟩ := hat
  unfold fC_0 at hf
  refine lv_aload_n hx hb dL_law_192 rfl (lv_at hl 2 rfl) ?_
  refine lv_aload_n hx hb dL_law_193 rfl (lv_at hl 1 rfl) ?_
  refine lv_iload hx hb dL_law_194 (lv_at hl 0 rfl) ?_
  refine lv_iconst (v := 1) hx hb dL_law_196 (by decide) ?_
  refine lv_iadd hx hb dL_law_197 ?_
  refine va_sld hx hb hX hbl hbA hS hi1 dL_law_198 ?_
  rw [ha1]
  refine lv_aload_n hx hb dL_law_199 rfl (lv_at hl 1 rfl) ?_
  refine lv_iload hx hb dL_law_200 (lv_at hl 0 rfl) ?_
  refine lv_iconst (v := 2) hx hb dL_law_202 (by decide) ?_
  refine lv_iadd hx hb dL_law_203 ?_
  refine va_sld hx hb hX hbl hbA hS hi2 dL_law_204 ?_
  rw [ha2]
  refine lv_aload_n hx hb dL_law_205 rfl (lv_at hl 1 rfl) ?_
  refine lv_iload hx hb dL_law_206 (lv_at hl 0 rfl) ?_
  refine lv_iconst (v := 3) hx hb dL_law_208 (by decide) ?_
  refine lv_iadd hx hb dL_law_209 ?_
  refine va_sld hx hb hX hbl hbA hS hi3 dL_law_210 ?_
  rw [ha3]
  refine lv_aload_n hx hb dL_law_211 rfl (lv_at hl 4 rfl) ?_
  obtain ⟨q1, hc2, hf⟩ := oB_go hf
  refine W.eq (g2 := F0 m 212 ls (.ref (sh.1 14 0) :: .int a3 :: .int a2 :: .int a1 :: .ref (sh.1 0 0) :: [])) (by rw [eo, ex]) ?_
  refine xcallSX (n := 5) F hT hW hS (kL_addShard l hl0 G sh sc sr sl a1 a2 a3 _ hc2) (xgSW (fun _ h => h) xw_176 xw_177 xw_0 xw_178) rfl xd_L_addShard.2 ⟨(Nat.le_of_ble_eq_true rfl), (Nat.le_of_ble_eq_true rfl)⟩ rfl hl.1 rfl (Nat.le_of_ble_eq_true rfl) dL_law_212 ⟨by show cells + 0 + 8 ≤ 803720; omega, by show slots + 0 + 38 ≤ 6592785; omega⟩ (fun v9 H locs hres hW hS => ?_) (fun E9 H locs q9 ce9 hres => by cases hres)
  cases hres
  refine W.eq (g2 := F0 m 215 ls (.int q1.1 :: [])) rfl ?_
  unfold xPwLS at hW
  by_cases c3 : q1.1 = 0
  · rw [if_pos c3] at hW
    obtain ⟨sh2, e1, e2, eg, hW⟩ := hW
    have ex2 : sh2.1 0 0 = xa := eg.1.trans ex
    have em2 : sh2.1 12 0 = ma := eg.2.1.trans em
    have eo2 : sh2.1 14 0 = oa := eg.2.2.1.trans eo
    have ed2 : sh2.1 15 0 = da := eg.2.2.2.trans ed
    replace hf := if_t c3 hf
    refine lv_istore (lv' := [(6, .int q1.1), (5, .int x5), (0, .ref b), (1, .ref xa), (2, .ref ma), (3, .ref oa), (4, .ref da)]) hx hb dL_law_215 hl (by decide) rfl (fun ls hl => ?_)
    refine lv_aload_n hx hb dL_law_217 rfl (lv_at hl 4 rfl) ?_
    refine lv_aload_n hx hb dL_law_218 rfl (lv_at hl 2 rfl) ?_
    refine lv_iload hx hb dL_law_219 (lv_at hl 1 rfl) ?_
    refine lv_iconst (v := 1) hx hb dL_law_221 (by decide) ?_
    refine lv_iadd hx hb dL_law_222 ?_
    refine va_sld hx hb hX hbl hbA hS hi1 dL_law_223 ?_
    rw [ha1]
    refine lv_aload_n hx hb dL_law_224 rfl (lv_at hl 2 rfl) ?_
    refine lv_iload hx hb dL_law_225 (lv_at hl 1 rfl) ?_
    refine lv_iconst (v := 2) hx hb dL_law_227 (by decide) ?_
    refine lv_iadd hx hb dL_law_228 ?_
    refine va_sld hx hb hX hbl hbA hS hi2 dL_law_229 ?_
    rw [ha2]
    refine lv_aload_n hx hb dL_law_230 rfl (lv_at hl 2 rfl) ?_
    refine lv_iload hx hb dL_law_231 (lv_at hl 1 rfl) ?_
    refine lv_iconst (v := 3) hx hb dL_law_233 (by decide) ?_
    refine lv_iadd hx hb dL_law_234 ?_
    refine va_sld hx hb hX hbl hbA hS hi3 dL_law_235 ?_
    rw [ha3]
    obtain ⟨v4, s6, hc5, hf⟩ := oP_go hf
    refine W.eq (g2 := F0 m 236 ls (.int a3 :: .int a2 :: .int a1 :: .ref (sh2.1 12 0) :: [])) (by rw [em2]) ?_
    refine xcallV (n := 3) F hT hW hS (xm_fix (by decide)) xce_12 rfl (kX6_addShard l hl0 G sh2 q1.2.1 sr q1.2.2 a1 a2 a3 _ hc5) (xgV xw_876 xw_877 xw_878 xw_4 xw_879) rfl xd_X6_addShard ⟨(Nat.le_of_ble_eq_true rfl), (Nat.le_of_ble_eq_true rfl)⟩ rfl hl.1 rfl (Nat.le_of_ble_eq_true rfl) dL_law_236 ⟨by show cells + 8 + 0 ≤ 803720; omega, by show slots + 38 + 0 ≤ 6592785; omega⟩ (fun v9 H locs hres hW hS => ?_) (fun E9 H locs q9 ce9 hres => by cases hres)
    cases hres
    refine W.eq (g2 := F0 m 239 ls (.int v4 :: [])) rfl ?_
    refine lv_istore (lv' := [(7, .int v4), (6, .int q1.1), (5, .int x5), (0, .ref b), (1, .ref xa), (2, .ref ma), (3, .ref oa), (4, .ref da)]) hx hb dL_law_239 hl (by decide) rfl (fun ls hl => ?_)
    refine lv_aload_n hx hb dL_law_241 rfl (lv_at hl 5 rfl) ?_
    obtain ⟨v7, hc8, hf⟩ := oB_go hf
    refine W.eq (g2 := F0 m 242 ls (.ref (sh2.1 12 0) :: [])) (by rw [em2]) ?_
    refine xcallV (n := 0) F hT hW hS (xm_fix (by decide)) xce_12 rfl (kX6_thrown l hl0 G sh2 q1.2.1 s6 q1.2.2  _ hc8) (xgV xw_872 xw_873 xw_874 xw_4 xw_875) rfl xd_X6_thrown ⟨(Nat.le_of_ble_eq_true rfl), (Nat.le_of_ble_eq_true rfl)⟩ rfl hl.1 rfl (Nat.le_of_ble_eq_true rfl) dL_law_242 ⟨by show cells + 8 + 0 ≤ 803720; omega, by show slots + 38 + 0 ≤ 6592785; omega⟩ (fun v9 H locs hres hW hS => ?_) (fun E9 H locs q9 ce9 hres => by cases hres)
    cases hres
    refine W.eq (g2 := F0 m 245 ls (.int v7 :: [])) rfl ?_
    refine lv_iload hx hb dL_law_245 (lv_at hl 1 rfl) ?_
    refine lv_icmp_eq (tgt := 252) hx hb dL_law_247 (by decide) (fun c10 => ?_) (fun c10 => ?_)
    · replace hf := if_t c10 hf
      refine lv_iload hx hb dL_law_252 (lv_at hl 1 rfl) ?_
      refine lv_if_ne (tgt := 269) hx hb dL_law_254 (by decide) (fun c11 => ?_) (fun c11 => ?_)
      · replace hf := if_f c11 hf
        refine lv_goto (tgt := 2017) hx hb dL_law_269 (by decide) ?_
        cases hf
        refine W.widen (k := cells + 16) (n := slots + 128) (by show cells + 8 ≤ _; omega) (by show slots + 38 ≤ _; omega) ?_
        exact hk sh2 _ _ ls e1 e2 ⟨ex2, em2, eo2, ed2⟩ hW hS (lv_sub hl [2, 3, 4, 5, 6, 7] rfl)
      · replace hf := if_t c11 hf
        refine lv_aload_n hx hb dL_law_257 rfl (lv_at hl 6 rfl) ?_
        refine lv_iconst (v := 0) hx hb dL_law_258 (by decide) ?_
        refine W.eq (g2 := F0 m 259 ls (.int 0 :: .ref (sh2.1 14 0) :: [])) (by rw [eo2]) ?_
        refine xlald F hT hW dL_law_259 ?_
        refine lv_iload hx hb dL_law_260 (lv_at hl 0 rfl) ?_
        refine lv_i2l hx hb dL_law_262 rfl ?_
        refine W.lcmp hx hb dL_law_263 ?_
        refine lv_if_eq (tgt := 269) hx hb dL_law_264 (by decide) (fun c12 => ?_) (fun c12 => ?_)
        · replace hf := if_t c12 hf
          refine lv_goto (tgt := 2017) hx hb dL_law_269 (by decide) ?_
          cases hf
          refine W.widen (k := cells + 16) (n := slots + 128) (by show cells + 8 ≤ _; omega) (by show slots + 38 ≤ _; omega) ?_
          exact hk sh2 _ _ ls e1 e2 ⟨ex2, em2, eo2, ed2⟩ hW hS (lv_sub hl [2, 3, 4, 5, 6, 7] rfl)
        · replace hf := if_f c12 hf
          refine lv_iconst (v := 0) hx hb dL_law_267 (by decide) ?_
          cases hf
    · replace hf := if_f c10 hf
      refine lv_iconst (v := 0) hx hb dL_law_250 (by decide) ?_
      cases hf
  · rw [if_neg c3] at hW
    replace hf := if_f c3 hf
    refine lv_istore (lv' := [(6, .int q1.1), (5, .int x5), (0, .ref b), (1, .ref xa), (2, .ref ma), (3, .ref oa), (4, .ref da)]) hx hb dL_law_215 hl (by decide) rfl (fun ls hl => ?_)
    refine lv_aload_n hx hb dL_law_217 rfl (lv_at hl 4 rfl) ?_
    refine lv_aload_n hx hb dL_law_218 rfl (lv_at hl 2 rfl) ?_
    refine lv_iload hx hb dL_law_219 (lv_at hl 1 rfl) ?_
    refine lv_iconst (v := 1) hx hb dL_law_221 (by decide) ?_
    refine lv_iadd hx hb dL_law_222 ?_
    refine va_sld hx hb hX hbl hbA hS hi1 dL_law_223 ?_
    rw [ha1]
    refine lv_aload_n hx hb dL_law_224 rfl (lv_at hl 2 rfl) ?_
    refine lv_iload hx hb dL_law_225 (lv_at hl 1 rfl) ?_
    refine lv_iconst (v := 2) hx hb dL_law_227 (by decide) ?_
    refine lv_iadd hx hb dL_law_228 ?_
    refine va_sld hx hb hX hbl hbA hS hi2 dL_law_229 ?_
    rw [ha2]
    refine lv_aload_n hx hb dL_law_230 rfl (lv_at hl 2 rfl) ?_
    refine lv_iload hx hb dL_law_231 (lv_at hl 1 rfl) ?_
    refine lv_iconst (v := 3) hx hb dL_law_233 (by decide) ?_
    refine lv_iadd hx hb dL_law_234 ?_
    refine va_sld hx hb hX hbl hbA hS hi3 dL_law_235 ?_
    rw [ha3]
    obtain ⟨v13, s15, hc14, hf⟩ := oP_go hf
    refine W.eq (g2 := F0 m 236 ls (.int a3 :: .int a2 :: .int a1 :: .ref (sh.1 12 0) :: [])) (by rw [em]) ?_
    refine xcallV (n := 3) F hT hW hS (xm_fix (by decide)) xce_12 rfl (kX6_addShard l hl0 G sh q1.2.1 sr q1.2.2 a1 a2 a3 _ hc14) (xgV xw_876 xw_877 xw_878 xw_4 xw_879) rfl xd_X6_addShard ⟨(Nat.le_of_ble_eq_true rfl), (Nat.le_of_ble_eq_true rfl)⟩ rfl hl.1 rfl (Nat.le_of_ble_eq_true rfl) dL_law_236 ⟨by show cells + 8 + 0 ≤ 803720; omega, by show slots + 38 + 0 ≤ 6592785; omega⟩ (fun v9 H locs hres hW hS => ?_) (fun E9 H locs q9 ce9 hres => by cases hres)
    cases hres
    refine W.eq (g2 := F0 m 239 ls (.int v13 :: [])) rfl ?_
    refine lv_istore (lv' := [(7, .int v13), (6, .int q1.1), (5, .int x5), (0, .ref b), (1, .ref xa), (2, .ref ma), (3, .ref oa), (4, .ref da)]) hx hb dL_law_239 hl (by decide) rfl (fun ls hl => ?_)
    refine lv_aload_n hx hb dL_law_241 rfl (lv_at hl 5 rfl) ?_
    obtain ⟨v16, hc17, hf⟩ := oB_go hf
    refine W.eq (g2 := F0 m 242 ls (.ref (sh.1 12 0) :: [])) (by rw [em]) ?_
    refine xcallV (n := 0) F hT hW hS (xm_fix (by decide)) xce_12 rfl (kX6_thrown l hl0 G sh q1.2.1 s15 q1.2.2  _ hc17) (xgV xw_872 xw_873 xw_874 xw_4 xw_875) rfl xd_X6_thrown ⟨(Nat.le_of_ble_eq_true rfl), (Nat.le_of_ble_eq_true rfl)⟩ rfl hl.1 rfl (Nat.le_of_ble_eq_true rfl) dL_law_242 ⟨by show cells + 8 + 0 ≤ 803720; omega, by show slots + 38 + 0 ≤ 6592785; omega⟩ (fun v9 H locs hres hW hS => ?_) (fun E9 H locs q9 ce9 hres => by cases hres)
    cases hres
    refine W.eq (g2 := F0 m 245 ls (.int v16 :: [])) rfl ?_
    refine lv_iload hx hb dL_law_245 (lv_at hl 1 rfl) ?_
    refine lv_icmp_eq (tgt := 252) hx hb dL_law_247 (by decide) (fun c19 => ?_) (fun c19 => ?_)
    · replace hf := if_t c19 hf
      refine lv_iload hx hb dL_law_252 (lv_at hl 1 rfl) ?_
      refine lv_if_ne (tgt := 269) hx hb dL_law_254 (by decide) (fun c20 => ?_) (fun c20 => ?_)
      · replace hf := if_f c20 hf
        refine lv_goto (tgt := 2017) hx hb dL_law_269 (by decide) ?_
        cases hf
        refine W.widen (k := cells + 16) (n := slots + 128) (by show cells + 8 ≤ _; omega) (by show slots + 38 ≤ _; omega) ?_
        exact hk sh _ _ ls rfl rfl ⟨ex, em, eo, ed⟩ hW hS (lv_sub hl [2, 3, 4, 5, 6, 7] rfl)
      · replace hf := if_t c20 hf
        refine lv_aload_n hx hb dL_law_257 rfl (lv_at hl 6 rfl) ?_
        refine lv_iconst (v := 0) hx hb dL_law_258 (by decide) ?_
        refine W.eq (g2 := F0 m 259 ls (.int 0 :: .ref (sh.1 14 0) :: [])) (by rw [eo]) ?_
        refine xlald F hT hW dL_law_259 ?_
        refine lv_iload hx hb dL_law_260 (lv_at hl 0 rfl) ?_
        refine lv_i2l hx hb dL_law_262 rfl ?_
        refine W.lcmp hx hb dL_law_263 ?_
        refine lv_if_eq (tgt := 269) hx hb dL_law_264 (by decide) (fun c21 => ?_) (fun c21 => ?_)
        · replace hf := if_t c21 hf
          refine lv_goto (tgt := 2017) hx hb dL_law_269 (by decide) ?_
          cases hf
          refine W.widen (k := cells + 16) (n := slots + 128) (by show cells + 8 ≤ _; omega) (by show slots + 38 ≤ _; omega) ?_
          exact hk sh _ _ ls rfl rfl ⟨ex, em, eo, ed⟩ hW hS (lv_sub hl [2, 3, 4, 5, 6, 7] rfl)
        · replace hf := if_f c21 hf
          refine lv_iconst (v := 0) hx hb dL_law_267 (by decide) ?_
          cases hf
    · replace hf := if_f c19 hf
      refine lv_iconst (v := 0) hx hb dL_law_250 (by decide) ?_
      cases hf
def fC_1 (nS nT : Nat) (a1 : Int32) (a2 : Int32) (sc : xSC) (sr : xSR) (sl : xSL) : Option xR5 := (if a2 = 0 then oB (fL_setOpen nS nT a1 0 sc sl) (fun q2 => (if a2 = 0 then oP (fX6_setOpen a1 0 sr) (fun v5 s7 => oB (fX6_thrown s7) (fun v8 => (if v8 = q2.1 then (if q2.1 = 0 then (if v5 = 0 then (if (lg_cmp q2.2.2.1 0) = 0 then some (nS, nT, q2.2.1, s7, q2.2.2) else none) else (if (lg_cmp q2.2.2.1 1) = 0 then some (nS, nT, q2.2.1, s7, q2.2.2) else none)) else some (nS, nT, q2.2.1, s7, q2.2.2)) else none))) else oP (fX6_setOpen a1 1 sr) (fun v16 s18 => oB (fX6_thrown s18) (fun v19 => (if v19 = q2.1 then (if q2.1 = 0 then (if v16 = 0 then (if (lg_cmp q2.2.2.1 0) = 0 then some (nS, nT, q2.2.1, s18, q2.2.2) else none) else (if (lg_cmp q2.2.2.1 1) = 0 then some (nS, nT, q2.2.1, s18, q2.2.2) else none)) else some (nS, nT, q2.2.1, s18, q2.2.2)) else none))))) else oB (fL_setOpen nS nT a1 1 sc sl) (fun q27 => (if a2 = 0 then oP (fX6_setOpen a1 0 sr) (fun v30 s32 => oB (fX6_thrown s32) (fun v33 => (if v33 = q27.1 then (if q27.1 = 0 then (if v30 = 0 then (if (lg_cmp q27.2.2.1 0) = 0 then some (nS, nT, q27.2.1, s32, q27.2.2) else none) else (if (lg_cmp q27.2.2.1 1) = 0 then some (nS, nT, q27.2.1, s32, q27.2.2) else none)) else some (nS, nT, q27.2.1, s32, q27.2.2)) else none))) else oP (fX6_setOpen a1 1 sr) (fun v41 s43 => oB (fX6_thrown s43) (fun v44 => (if v44 = q27.1 then (if q27.1 = 0 then (if v41 = 0 then (if (lg_cmp q27.2.2.1 0) = 0 then some (nS, nT, q27.2.1, s43, q27.2.2) else none) else (if (lg_cmp q27.2.2.1 1) = 0 then some (nS, nT, q27.2.1, s43, q27.2.2) else none)) else some (nS, nT, q27.2.1, s43, q27.2.2)) else none))))))
set_option maxHeartbeats 4000000 in
set_option maxRecDepth 100000 in
theorem kC_1 {p : Program} {l : Launch} {e : Env} {s : State} {m : MethodId} {args : Array Value} {below : List Frame} {meth : Method} {c : Code} {H : Heap} {locs : List Loc} {cells slots : Nat} {Q : State → Prop} {ls : Array Slot} {G : xG} {sh : xSh} {sc : xSC} {sr : xSR} {sl : xSL} {b L xa ma oa da : Nat} {xs : Nat → Int32} {x5 a1 a2 a3 a4 a5 : Int32} (hl0 : l.stackTraces = false) (F : CallFix p m c code 9 s args xB RL) (hT : xTb G s s.heap) (hX : va_X b L xs s s.heap) (hbl : b < s.heap.size) (hbA : ¬ xA G b) (hi1 : vp_in (x5 + 1) L) (hi2 : vp_in (x5 + 2) L) (hi3 : vp_in (x5 + 3) L) (hi4 : vp_in (x5 + 4) L) (hi5 : vp_in (x5 + 5) L) (ha1 : xs (x5 + 1).toNatClampNeg = a1) (ha2 : xs (x5 + 2).toNatClampNeg = a2) (ha3 : xs (x5 + 3).toNatClampNeg = a3) (ha4 : xs (x5 + 4).toNatClampNeg = a4) (ha5 : xs (x5 + 5).toNatClampNeg = a5) (hcl : cells + 16 ≤ 803720) (hsl : slots + 128 ≤ 6592785) (hat : xat sh xa ma oa da) (hW : xWd G sh sc sr sl H) (hS : va_S (xA G) s.heap H locs) (hl : lv_has ls 9 [(5, .int x5), (0, .ref b), (1, .ref xa), (2, .ref ma), (3, .ref oa), (4, .ref da)]) (r : xR5) (hf : fC_1 sh.2.1 sh.2.2 a1 a2 sc sr sl = some r) (hk : ∀ (sh2 : xSh) (H : Heap) (locs : List Loc) (ls : Array Slot), sh2.2.1 = r.1 → sh2.2.2 = r.2.1 → xat sh2 xa ma oa da → xWd G sh2 r.2.2.1 r.2.2.2.1 r.2.2.2.2 H → va_S (xA G) s.heap H locs → lv_has ls 9 [(5, .int x5), (0, .ref b), (1, .ref xa), (2, .ref ma), (3, .ref oa), (4, .ref da)] → W p l e room_1 s m args below meth c H locs (cells + 16) (slots + 128) Q (F0 m 2017 ls [])) : W p l e room_1 s m args below meth c H locs cells slots Q (F0 m 272 ls []) := by
  have hx := F.1
  have hb := F.2.1
  obtain ⟨ex, em, eo, ed⟩ := hat
  unfold fC_1 at hf
  refine lv_aload_n hx hb dL_law_272 rfl (lv_at hl 2 rfl) ?_
  refine lv_aload_n hx hb dL_law_273 rfl (lv_at hl 1 rfl) ?_
  refine lv_iload hx hb dL_law_274 (lv_at hl 0 rfl) ?_
  refine lv_iconst (v := 1) hx hb dL_law_276 (by decide) ?_
  refine lv_iadd hx hb dL_law_277 ?_
  refine va_sld hx hb hX hbl hbA hS hi1 dL_law_278 ?_
  rw [ha1]
  refine lv_aload_n hx hb dL_law_279 rfl (lv_at hl 1 rfl) ?_
  refine lv_iload hx hb dL_law_280 (lv_at hl 0 rfl) ?_
  refine lv_iconst (v := 2) hx hb dL_law_282 (by decide) ?_
  refine lv_iadd hx hb dL_law_283 ?_
  refine va_sld hx hb hX hbl hbA hS hi2 dL_law_284 ?_
  rw [ha2]
  refine lv_if_eq (tgt := 292) hx hb dL_law_285 (by decide) (fun c1 => ?_) (fun c1 => ?_)
  · replace hf := if_t c1 hf
    refine lv_iconst (v := 0) hx hb dL_law_292 (by decide) ?_
    refine lv_aload_n hx hb dL_law_293 rfl (lv_at hl 4 rfl) ?_
    obtain ⟨q2, hc3, hf⟩ := oB_go hf
    refine W.eq (g2 := F0 m 294 ls (.ref (sh.1 14 0) :: .int 0 :: .int a1 :: .ref (sh.1 0 0) :: [])) (by rw [eo, ex]) ?_
    refine xcallSX (n := 4) F hT hW hS (kL_setOpen l hl0 G sh sc sr sl a1 0 _ hc3) (xgSW (fun _ h => h) xw_323 xw_324 xw_0 xw_325) rfl xd_L_setOpen.2 ⟨(Nat.le_of_ble_eq_true rfl), (Nat.le_of_ble_eq_true rfl)⟩ rfl hl.1 rfl (Nat.le_of_ble_eq_true rfl) dL_law_294 ⟨by show cells + 0 + 1 ≤ 803720; omega, by show slots + 0 + 6 ≤ 6592785; omega⟩ (fun v9 H locs hres hW hS => ?_) (fun E9 H locs q9 ce9 hres => by cases hres)
    cases hres
    refine W.eq (g2 := F0 m 297 ls (.int q2.1 :: [])) rfl ?_
    refine lv_istore (lv' := [(6, .int q2.1), (5, .int x5), (0, .ref b), (1, .ref xa), (2, .ref ma), (3, .ref oa), (4, .ref da)]) hx hb dL_law_297 hl (by decide) rfl (fun ls hl => ?_)
    refine lv_aload_n hx hb dL_law_299 rfl (lv_at hl 4 rfl) ?_
    refine lv_aload_n hx hb dL_law_300 rfl (lv_at hl 2 rfl) ?_
    refine lv_iload hx hb dL_law_301 (lv_at hl 1 rfl) ?_
    refine lv_iconst (v := 1) hx hb dL_law_303 (by decide) ?_
    refine lv_iadd hx hb dL_law_304 ?_
    refine va_sld hx hb hX hbl hbA hS hi1 dL_law_305 ?_
    rw [ha1]
    refine lv_aload_n hx hb dL_law_306 rfl (lv_at hl 2 rfl) ?_
    refine lv_iload hx hb dL_law_307 (lv_at hl 1 rfl) ?_
    refine lv_iconst (v := 2) hx hb dL_law_309 (by decide) ?_
    refine lv_iadd hx hb dL_law_310 ?_
    refine va_sld hx hb hX hbl hbA hS hi2 dL_law_311 ?_
    rw [ha2]
    refine lv_if_eq (tgt := 319) hx hb dL_law_312 (by decide) (fun c4 => ?_) (fun c4 => ?_)
    · replace hf := if_t c4 hf
      refine lv_iconst (v := 0) hx hb dL_law_319 (by decide) ?_
      obtain ⟨v5, s7, hc6, hf⟩ := oP_go hf
      refine W.eq (g2 := F0 m 320 ls (.int 0 :: .int a1 :: .ref (sh.1 12 0) :: [])) (by rw [em]) ?_
      refine xcallV (n := 2) F hT hW hS (xm_fix (by decide)) xce_12 rfl (kX6_setOpen l hl0 G sh q2.2.1 sr q2.2.2 a1 0 _ hc6) (xgV xw_887 xw_888 xw_889 xw_4 xw_890) rfl xd_X6_setOpen ⟨(Nat.le_of_ble_eq_true rfl), (Nat.le_of_ble_eq_true rfl)⟩ rfl hl.1 rfl (Nat.le_of_ble_eq_true rfl) dL_law_320 ⟨by show cells + 1 + 0 ≤ 803720; omega, by show slots + 6 + 0 ≤ 6592785; omega⟩ (fun v9 H locs hres hW hS => ?_) (fun E9 H locs q9 ce9 hres => by cases hres)
      cases hres
      refine W.eq (g2 := F0 m 323 ls (.int v5 :: [])) rfl ?_
      refine lv_istore (lv' := [(7, .int v5), (6, .int q2.1), (5, .int x5), (0, .ref b), (1, .ref xa), (2, .ref ma), (3, .ref oa), (4, .ref da)]) hx hb dL_law_323 hl (by decide) rfl (fun ls hl => ?_)
      refine lv_aload_n hx hb dL_law_325 rfl (lv_at hl 5 rfl) ?_
      obtain ⟨v8, hc9, hf⟩ := oB_go hf
      refine W.eq (g2 := F0 m 326 ls (.ref (sh.1 12 0) :: [])) (by rw [em]) ?_
      refine xcallV (n := 0) F hT hW hS (xm_fix (by decide)) xce_12 rfl (kX6_thrown l hl0 G sh q2.2.1 s7 q2.2.2  _ hc9) (xgV xw_872 xw_873 xw_874 xw_4 xw_875) rfl xd_X6_thrown ⟨(Nat.le_of_ble_eq_true rfl), (Nat.le_of_ble_eq_true rfl)⟩ rfl hl.1 rfl (Nat.le_of_ble_eq_true rfl) dL_law_326 ⟨by show cells + 1 + 0 ≤ 803720; omega, by show slots + 6 + 0 ≤ 6592785; omega⟩ (fun v9 H locs hres hW hS => ?_) (fun E9 H locs q9 ce9 hres => by cases hres)
      cases hres
      refine W.eq (g2 := F0 m 329 ls (.int v8 :: [])) rfl ?_
      refine lv_iload hx hb dL_law_329 (lv_at hl 1 rfl) ?_
      refine lv_icmp_eq (tgt := 336) hx hb dL_law_331 (by decide) (fun c11 => ?_) (fun c11 => ?_)
      · replace hf := if_t c11 hf
        refine lv_iload hx hb dL_law_336 (lv_at hl 1 rfl) ?_
        refine lv_if_ne (tgt := 360) hx hb dL_law_338 (by decide) (fun c12 => ?_) (fun c12 => ?_)
        · replace hf := if_f c12 hf
          refine lv_goto (tgt := 2017) hx hb dL_law_360 (by decide) ?_
          cases hf
          refine W.widen (k := cells + 16) (n := slots + 128) (by show cells + 1 ≤ _; omega) (by show slots + 6 ≤ _; omega) ?_
          exact hk sh _ _ ls rfl rfl ⟨ex, em, eo, ed⟩ hW hS (lv_sub hl [2, 3, 4, 5, 6, 7] rfl)
        · replace hf := if_t c12 hf
          refine lv_aload_n hx hb dL_law_341 rfl (lv_at hl 6 rfl) ?_
          refine lv_iconst (v := 0) hx hb dL_law_342 (by decide) ?_
          refine W.eq (g2 := F0 m 343 ls (.int 0 :: .ref (sh.1 14 0) :: [])) (by rw [eo]) ?_
          refine xlald F hT hW dL_law_343 ?_
          refine lv_iload hx hb dL_law_344 (lv_at hl 0 rfl) ?_
          refine lv_if_eq (tgt := 353) hx hb dL_law_346 (by decide) (fun c13 => ?_) (fun c13 => ?_)
          · replace hf := if_t c13 hf
            refine lv_lconst (v := 0) hx hb dL_law_353 (by decide) ?_
            refine W.lcmp hx hb dL_law_354 ?_
            refine lv_if_eq (tgt := 360) hx hb dL_law_355 (by decide) (fun c14 => ?_) (fun c14 => ?_)
            · replace hf := if_t c14 hf
              refine lv_goto (tgt := 2017) hx hb dL_law_360 (by decide) ?_
              cases hf
              refine W.widen (k := cells + 16) (n := slots + 128) (by show cells + 1 ≤ _; omega) (by show slots + 6 ≤ _; omega) ?_
              exact hk sh _ _ ls rfl rfl ⟨ex, em, eo, ed⟩ hW hS (lv_sub hl [2, 3, 4, 5, 6, 7] rfl)
            · replace hf := if_f c14 hf
              refine lv_iconst (v := 0) hx hb dL_law_358 (by decide) ?_
              cases hf
          · replace hf := if_f c13 hf
            refine lv_lconst (v := 1) hx hb dL_law_349 (by decide) ?_
            refine lv_goto (tgt := 354) hx hb dL_law_350 (by decide) ?_
            refine W.lcmp hx hb dL_law_354 ?_
            refine lv_if_eq (tgt := 360) hx hb dL_law_355 (by decide) (fun c15 => ?_) (fun c15 => ?_)
            · replace hf := if_t c15 hf
              refine lv_goto (tgt := 2017) hx hb dL_law_360 (by decide) ?_
              cases hf
              refine W.widen (k := cells + 16) (n := slots + 128) (by show cells + 1 ≤ _; omega) (by show slots + 6 ≤ _; omega) ?_
              exact hk sh _ _ ls rfl rfl ⟨ex, em, eo, ed⟩ hW hS (lv_sub hl [2, 3, 4, 5, 6, 7] rfl)
            · replace hf := if_f c15 hf
              refine lv_iconst (v := 0) hx hb dL_law_358 (by decide) ?_
              cases hf
      · replace hf := if_f c11 hf
        refine lv_iconst (v := 0) hx hb dL_law_334 (by decide) ?_
        cases hf
    · replace hf := if_f c4 hf
      refine lv_iconst (v := 1) hx hb dL_law_315 (by decide) ?_
      refine lv_goto (tgt := 320) hx hb dL_law_316 (by decide) ?_
      obtain ⟨v16, s18, hc17, hf⟩ := oP_go hf
      refine W.eq (g2 := F0 m 320 ls (.int 1 :: .int a1 :: .ref (sh.1 12 0) :: [])) (by rw [em]) ?_
      refine xcallV (n := 2) F hT hW hS (xm_fix (by decide)) xce_12 rfl (kX6_setOpen l hl0 G sh q2.2.1 sr q2.2.2 a1 1 _ hc17) (xgV xw_887 xw_888 xw_889 xw_4 xw_890) rfl xd_X6_setOpen ⟨(Nat.le_of_ble_eq_true rfl), (Nat.le_of_ble_eq_true rfl)⟩ rfl hl.1 rfl (Nat.le_of_ble_eq_true rfl) dL_law_320 ⟨by show cells + 1 + 0 ≤ 803720; omega, by show slots + 6 + 0 ≤ 6592785; omega⟩ (fun v9 H locs hres hW hS => ?_) (fun E9 H locs q9 ce9 hres => by cases hres)
      cases hres
      refine W.eq (g2 := F0 m 323 ls (.int v16 :: [])) rfl ?_
      refine lv_istore (lv' := [(7, .int v16), (6, .int q2.1), (5, .int x5), (0, .ref b), (1, .ref xa), (2, .ref ma), (3, .ref oa), (4, .ref da)]) hx hb dL_law_323 hl (by decide) rfl (fun ls hl => ?_)
      refine lv_aload_n hx hb dL_law_325 rfl (lv_at hl 5 rfl) ?_
      obtain ⟨v19, hc20, hf⟩ := oB_go hf
      refine W.eq (g2 := F0 m 326 ls (.ref (sh.1 12 0) :: [])) (by rw [em]) ?_
      refine xcallV (n := 0) F hT hW hS (xm_fix (by decide)) xce_12 rfl (kX6_thrown l hl0 G sh q2.2.1 s18 q2.2.2  _ hc20) (xgV xw_872 xw_873 xw_874 xw_4 xw_875) rfl xd_X6_thrown ⟨(Nat.le_of_ble_eq_true rfl), (Nat.le_of_ble_eq_true rfl)⟩ rfl hl.1 rfl (Nat.le_of_ble_eq_true rfl) dL_law_326 ⟨by show cells + 1 + 0 ≤ 803720; omega, by show slots + 6 + 0 ≤ 6592785; omega⟩ (fun v9 H locs hres hW hS => ?_) (fun E9 H locs q9 ce9 hres => by cases hres)
      cases hres
      refine W.eq (g2 := F0 m 329 ls (.int v19 :: [])) rfl ?_
      refine lv_iload hx hb dL_law_329 (lv_at hl 1 rfl) ?_
      refine lv_icmp_eq (tgt := 336) hx hb dL_law_331 (by decide) (fun c22 => ?_) (fun c22 => ?_)
      · replace hf := if_t c22 hf
        refine lv_iload hx hb dL_law_336 (lv_at hl 1 rfl) ?_
        refine lv_if_ne (tgt := 360) hx hb dL_law_338 (by decide) (fun c23 => ?_) (fun c23 => ?_)
        · replace hf := if_f c23 hf
          refine lv_goto (tgt := 2017) hx hb dL_law_360 (by decide) ?_
          cases hf
          refine W.widen (k := cells + 16) (n := slots + 128) (by show cells + 1 ≤ _; omega) (by show slots + 6 ≤ _; omega) ?_
          exact hk sh _ _ ls rfl rfl ⟨ex, em, eo, ed⟩ hW hS (lv_sub hl [2, 3, 4, 5, 6, 7] rfl)
        · replace hf := if_t c23 hf
          refine lv_aload_n hx hb dL_law_341 rfl (lv_at hl 6 rfl) ?_
          refine lv_iconst (v := 0) hx hb dL_law_342 (by decide) ?_
          refine W.eq (g2 := F0 m 343 ls (.int 0 :: .ref (sh.1 14 0) :: [])) (by rw [eo]) ?_
          refine xlald F hT hW dL_law_343 ?_
          refine lv_iload hx hb dL_law_344 (lv_at hl 0 rfl) ?_
          refine lv_if_eq (tgt := 353) hx hb dL_law_346 (by decide) (fun c24 => ?_) (fun c24 => ?_)
          · replace hf := if_t c24 hf
            refine lv_lconst (v := 0) hx hb dL_law_353 (by decide) ?_
            refine W.lcmp hx hb dL_law_354 ?_
            refine lv_if_eq (tgt := 360) hx hb dL_law_355 (by decide) (fun c25 => ?_) (fun c25 => ?_)
            · replace hf := if_t c25 hf
              refine lv_goto (tgt := 2017) hx hb dL_law_360 (by decide) ?_
              cases hf
              refine W.widen (k := cells + 16) (n := slots + 128) (by show cells + 1 ≤ _; omega) (by show slots + 6 ≤ _; omega) ?_
              exact hk sh _ _ ls rfl rfl ⟨ex, em, eo, ed⟩ hW hS (lv_sub hl [2, 3, 4, 5, 6, 7] rfl)
            · replace hf := if_f c25 hf
              refine lv_iconst (v := 0) hx hb dL_law_358 (by decide) ?_
              cases hf
          · replace hf := if_f c24 hf
            refine lv_lconst (v := 1) hx hb dL_law_349 (by decide) ?_
            refine lv_goto (tgt := 354) hx hb dL_law_350 (by decide) ?_
            refine W.lcmp hx hb dL_law_354 ?_
            refine lv_if_eq (tgt := 360) hx hb dL_law_355 (by decide) (fun c26 => ?_) (fun c26 => ?_)
            · replace hf := if_t c26 hf
              refine lv_goto (tgt := 2017) hx hb dL_law_360 (by decide) ?_
              cases hf
              refine W.widen (k := cells + 16) (n := slots + 128) (by show cells + 1 ≤ _; omega) (by show slots + 6 ≤ _; omega) ?_
              exact hk sh _ _ ls rfl rfl ⟨ex, em, eo, ed⟩ hW hS (lv_sub hl [2, 3, 4, 5, 6, 7] rfl)
            · replace hf := if_f c26 hf
              refine lv_iconst (v := 0) hx hb dL_law_358 (by decide) ?_
              cases hf
      · replace hf := if_f c22 hf
        refine lv_iconst (v := 0) hx hb dL_law_334 (by decide) ?_
        cases hf
  · replace hf := if_f c1 hf
    refine lv_iconst (v := 1) hx hb dL_law_288 (by decide) ?_
    refine lv_goto (tgt := 293) hx hb dL_law_289 (by decide) ?_
    refine lv_aload_n hx hb dL_law_293 rfl (lv_at hl 4 rfl) ?_
    obtain ⟨q27, hc28, hf⟩ := oB_go hf
    refine W.eq (g2 := F0 m 294 ls (.ref (sh.1 14 0) :: .int 1 :: .int a1 :: .ref (sh.1 0 0) :: [])) (by rw [eo, ex]) ?_
    refine xcallSX (n := 4) F hT hW hS (kL_setOpen l hl0 G sh sc sr sl a1 1 _ hc28) (xgSW (fun _ h => h) xw_323 xw_324 xw_0 xw_325) rfl xd_L_setOpen.2 ⟨(Nat.le_of_ble_eq_true rfl), (Nat.le_of_ble_eq_true rfl)⟩ rfl hl.1 rfl (Nat.le_of_ble_eq_true rfl) dL_law_294 ⟨by show cells + 0 + 1 ≤ 803720; omega, by show slots + 0 + 6 ≤ 6592785; omega⟩ (fun v9 H locs hres hW hS => ?_) (fun E9 H locs q9 ce9 hres => by cases hres)
    cases hres
    refine W.eq (g2 := F0 m 297 ls (.int q27.1 :: [])) rfl ?_
    refine lv_istore (lv' := [(6, .int q27.1), (5, .int x5), (0, .ref b), (1, .ref xa), (2, .ref ma), (3, .ref oa), (4, .ref da)]) hx hb dL_law_297 hl (by decide) rfl (fun ls hl => ?_)
    refine lv_aload_n hx hb dL_law_299 rfl (lv_at hl 4 rfl) ?_
    refine lv_aload_n hx hb dL_law_300 rfl (lv_at hl 2 rfl) ?_
    refine lv_iload hx hb dL_law_301 (lv_at hl 1 rfl) ?_
    refine lv_iconst (v := 1) hx hb dL_law_303 (by decide) ?_
    refine lv_iadd hx hb dL_law_304 ?_
    refine va_sld hx hb hX hbl hbA hS hi1 dL_law_305 ?_
    rw [ha1]
    refine lv_aload_n hx hb dL_law_306 rfl (lv_at hl 2 rfl) ?_
    refine lv_iload hx hb dL_law_307 (lv_at hl 1 rfl) ?_
    refine lv_iconst (v := 2) hx hb dL_law_309 (by decide) ?_
    refine lv_iadd hx hb dL_law_310 ?_
    refine va_sld hx hb hX hbl hbA hS hi2 dL_law_311 ?_
    rw [ha2]
    refine lv_if_eq (tgt := 319) hx hb dL_law_312 (by decide) (fun c29 => ?_) (fun c29 => ?_)
    · replace hf := if_t c29 hf
      refine lv_iconst (v := 0) hx hb dL_law_319 (by decide) ?_
      obtain ⟨v30, s32, hc31, hf⟩ := oP_go hf
      refine W.eq (g2 := F0 m 320 ls (.int 0 :: .int a1 :: .ref (sh.1 12 0) :: [])) (by rw [em]) ?_
      refine xcallV (n := 2) F hT hW hS (xm_fix (by decide)) xce_12 rfl (kX6_setOpen l hl0 G sh q27.2.1 sr q27.2.2 a1 0 _ hc31) (xgV xw_887 xw_888 xw_889 xw_4 xw_890) rfl xd_X6_setOpen ⟨(Nat.le_of_ble_eq_true rfl), (Nat.le_of_ble_eq_true rfl)⟩ rfl hl.1 rfl (Nat.le_of_ble_eq_true rfl) dL_law_320 ⟨by show cells + 1 + 0 ≤ 803720; omega, by show slots + 6 + 0 ≤ 6592785; omega⟩ (fun v9 H locs hres hW hS => ?_) (fun E9 H locs q9 ce9 hres => by cases hres)
      cases hres
      refine W.eq (g2 := F0 m 323 ls (.int v30 :: [])) rfl ?_
      refine lv_istore (lv' := [(7, .int v30), (6, .int q27.1), (5, .int x5), (0, .ref b), (1, .ref xa), (2, .ref ma), (3, .ref oa), (4, .ref da)]) hx hb dL_law_323 hl (by decide) rfl (fun ls hl => ?_)
      refine lv_aload_n hx hb dL_law_325 rfl (lv_at hl 5 rfl) ?_
      obtain ⟨v33, hc34, hf⟩ := oB_go hf
      refine W.eq (g2 := F0 m 326 ls (.ref (sh.1 12 0) :: [])) (by rw [em]) ?_
      refine xcallV (n := 0) F hT hW hS (xm_fix (by decide)) xce_12 rfl (kX6_thrown l hl0 G sh q27.2.1 s32 q27.2.2  _ hc34) (xgV xw_872 xw_873 xw_874 xw_4 xw_875) rfl xd_X6_thrown ⟨(Nat.le_of_ble_eq_true rfl), (Nat.le_of_ble_eq_true rfl)⟩ rfl hl.1 rfl (Nat.le_of_ble_eq_true rfl) dL_law_326 ⟨by show cells + 1 + 0 ≤ 803720; omega, by show slots + 6 + 0 ≤ 6592785; omega⟩ (fun v9 H locs hres hW hS => ?_) (fun E9 H locs q9 ce9 hres => by cases hres)
      cases hres
      refine W.eq (g2 := F0 m 329 ls (.int v33 :: [])) rfl ?_
      refine lv_iload hx hb dL_law_329 (lv_at hl 1 rfl) ?_
      refine lv_icmp_eq (tgt := 336) hx hb dL_law_331 (by decide) (fun c36 => ?_) (fun c36 => ?_)
      · replace hf := if_t c36 hf
        refine lv_iload hx hb dL_law_336 (lv_at hl 1 rfl) ?_
        refine lv_if_ne (tgt := 360) hx hb dL_law_338 (by decide) (fun c37 => ?_) (fun c37 => ?_)
        · replace hf := if_f c37 hf
          refine lv_goto (tgt := 2017) hx hb dL_law_360 (by decide) ?_
          cases hf
          refine W.widen (k := cells + 16) (n := slots + 128) (by show cells + 1 ≤ _; omega) (by show slots + 6 ≤ _; omega) ?_
          exact hk sh _ _ ls rfl rfl ⟨ex, em, eo, ed⟩ hW hS (lv_sub hl [2, 3, 4, 5, 6, 7] rfl)
        · replace hf := if_t c37 hf
          refine lv_aload_n hx hb dL_law_341 rfl (lv_at hl 6 rfl) ?_
          refine lv_iconst (v := 0) hx hb dL_law_342 (by decide) ?_
          refine W.eq (g2 := F0 m 343 ls (.int 0 :: .ref (sh.1 14 0) :: [])) (by rw [eo]) ?_
          refine xlald F hT hW dL_law_343 ?_
          refine lv_iload hx hb dL_law_344 (lv_at hl 0 rfl) ?_
          refine lv_if_eq (tgt := 353) hx hb dL_law_346 (by decide) (fun c38 => ?_) (fun c38 => ?_)
          · replace hf := if_t c38 hf
            refine lv_lconst (v := 0) hx hb dL_law_353 (by decide) ?_
            refine W.lcmp hx hb dL_law_354 ?_
            refine lv_if_eq (tgt := 360) hx hb dL_law_355 (by decide) (fun c39 => ?_) (fun c39 => ?_)
            · replace hf := if_t c39 hf
              refine lv_goto (tgt := 2017) hx hb dL_law_360 (by decide) ?_
              cases hf
              refine W.widen (k := cells + 16) (n := slots + 128) (by show cells + 1 ≤ _; omega) (by show slots + 6 ≤ _; omega) ?_
              exact hk sh _ _ ls rfl rfl ⟨ex, em, eo, ed⟩ hW hS (lv_sub hl [2, 3, 4, 5, 6, 7] rfl)
            · replace hf := if_f c39 hf
              refine lv_iconst (v := 0) hx hb dL_law_358 (by decide) ?_
              cases hf
          · replace hf := if_f c38 hf
            refine lv_lconst (v := 1) hx hb dL_law_349 (by decide) ?_
            refine lv_goto (tgt := 354) hx hb dL_law_350 (by decide) ?_
            refine W.lcmp hx hb dL_law_354 ?_
            refine lv_if_eq (tgt := 360) hx hb dL_law_355 (by decide) (fun c40 => ?_) (fun c40 => ?_)
            · replace hf := if_t c40 hf
              refine lv_goto (tgt := 2017) hx hb dL_law_360 (by decide) ?_
              cases hf
              refine W.widen (k := cells + 16) (n := slots + 128) (by show cells + 1 ≤ _; omega) (by show slots + 6 ≤ _; omega) ?_
              exact hk sh _ _ ls rfl rfl ⟨ex, em, eo, ed⟩ hW hS (lv_sub hl [2, 3, 4, 5, 6, 7] rfl)
            · replace hf := if_f c40 hf
              refine lv_iconst (v := 0) hx hb dL_law_358 (by decide) ?_
              cases hf
      · replace hf := if_f c36 hf
        refine lv_iconst (v := 0) hx hb dL_law_334 (by decide) ?_
        cases hf
    · replace hf := if_f c29 hf
      refine lv_iconst (v := 1) hx hb dL_law_315 (by decide) ?_
      refine lv_goto (tgt := 320) hx hb dL_law_316 (by decide) ?_
      obtain ⟨v41, s43, hc42, hf⟩ := oP_go hf
      refine W.eq (g2 := F0 m 320 ls (.int 1 :: .int a1 :: .ref (sh.1 12 0) :: [])) (by rw [em]) ?_
      refine xcallV (n := 2) F hT hW hS (xm_fix (by decide)) xce_12 rfl (kX6_setOpen l hl0 G sh q27.2.1 sr q27.2.2 a1 1 _ hc42) (xgV xw_887 xw_888 xw_889 xw_4 xw_890) rfl xd_X6_setOpen ⟨(Nat.le_of_ble_eq_true rfl), (Nat.le_of_ble_eq_true rfl)⟩ rfl hl.1 rfl (Nat.le_of_ble_eq_true rfl) dL_law_320 ⟨by show cells + 1 + 0 ≤ 803720; omega, by show slots + 6 + 0 ≤ 6592785; omega⟩ (fun v9 H locs hres hW hS => ?_) (fun E9 H locs q9 ce9 hres => by cases hres)
      cases hres
      refine W.eq (g2 := F0 m 323 ls (.int v41 :: [])) rfl ?_
      refine lv_istore (lv' := [(7, .int v41), (6, .int q27.1), (5, .int x5), (0, .ref b), (1, .ref xa), (2, .ref ma), (3, .ref oa), (4, .ref da)]) hx hb dL_law_323 hl (by decide) rfl (fun ls hl => ?_)
      refine lv_aload_n hx hb dL_law_325 rfl (lv_at hl 5 rfl) ?_
      obtain ⟨v44, hc45, hf⟩ := oB_go hf
      refine W.eq (g2 := F0 m 326 ls (.ref (sh.1 12 0) :: [])) (by rw [em]) ?_
      refine xcallV (n := 0) F hT hW hS (xm_fix (by decide)) xce_12 rfl (kX6_thrown l hl0 G sh q27.2.1 s43 q27.2.2  _ hc45) (xgV xw_872 xw_873 xw_874 xw_4 xw_875) rfl xd_X6_thrown ⟨(Nat.le_of_ble_eq_true rfl), (Nat.le_of_ble_eq_true rfl)⟩ rfl hl.1 rfl (Nat.le_of_ble_eq_true rfl) dL_law_326 ⟨by show cells + 1 + 0 ≤ 803720; omega, by show slots + 6 + 0 ≤ 6592785; omega⟩ (fun v9 H locs hres hW hS => ?_) (fun E9 H locs q9 ce9 hres => by cases hres)
      cases hres
      refine W.eq (g2 := F0 m 329 ls (.int v44 :: [])) rfl ?_
      refine lv_iload hx hb dL_law_329 (lv_at hl 1 rfl) ?_
      refine lv_icmp_eq (tgt := 336) hx hb dL_law_331 (by decide) (fun c47 => ?_) (fun c47 => ?_)
      · replace hf := if_t c47 hf
        refine lv_iload hx hb dL_law_336 (lv_at hl 1 rfl) ?_
        refine lv_if_ne (tgt := 360) hx hb dL_law_338 (by decide) (fun c48 => ?_) (fun c48 => ?_)
        · replace hf := if_f c48 hf
          refine lv_goto (tgt := 2017) hx hb dL_law_360 (by decide) ?_
          cases hf
          refine W.widen (k := cells + 16) (n := slots + 128) (by show cells + 1 ≤ _; omega) (by show slots + 6 ≤ _; omega) ?_
          exact hk sh _ _ ls rfl rfl ⟨ex, em, eo, ed⟩ hW hS (lv_sub hl [2, 3, 4, 5, 6, 7] rfl)
        · replace hf := if_t c48 hf
          refine lv_aload_n hx hb dL_law_341 rfl (lv_at hl 6 rfl) ?_
          refine lv_iconst (v := 0) hx hb dL_law_342 (by decide) ?_
          refine W.eq (g2 := F0 m 343 ls (.int 0 :: .ref (sh.1 14 0) :: [])) (by rw [eo]) ?_
          refine xlald F hT hW dL_law_343 ?_
          refine lv_iload hx hb dL_law_344 (lv_at hl 0 rfl) ?_
          refine lv_if_eq (tgt := 353) hx hb dL_law_346 (by decide) (fun c49 => ?_) (fun c49 => ?_)
          · replace hf := if_t c49 hf
            refine lv_lconst (v := 0) hx hb dL_law_353 (by decide) ?_
            refine W.lcmp hx hb dL_law_354 ?_
            refine lv_if_eq (tgt := 360) hx hb dL_law_355 (by decide) (fun c50 => ?_) (fun c50 => ?_)
            · replace hf := if_t c50 hf
              refine lv_goto (tgt := 2017) hx hb dL_law_360 (by decide) ?_
              cases hf
              refine W.widen (k := cells + 16) (n := slots + 128) (by show cells + 1 ≤ _; omega) (by show slots + 6 ≤ _; omega) ?_
              exact hk sh _ _ ls rfl rfl ⟨ex, em, eo, ed⟩ hW hS (lv_sub hl [2, 3, 4, 5, 6, 7] rfl)
            · replace hf := if_f c50 hf
              refine lv_iconst (v := 0) hx hb dL_law_358 (by decide) ?_
              cases hf
          · replace hf := if_f c49 hf
            refine lv_lconst (v := 1) hx hb dL_law_349 (by decide) ?_
            refine lv_goto (tgt := 354) hx hb dL_law_350 (by decide) ?_
            refine W.lcmp hx hb dL_law_354 ?_
            refine lv_if_eq (tgt := 360) hx hb dL_law_355 (by decide) (fun c51 => ?_) (fun c51 => ?_)
            · replace hf := if_t c51 hf
              refine lv_goto (tgt := 2017) hx hb dL_law_360 (by decide) ?_
              cases hf
              refine W.widen (k := cells + 16) (n := slots + 128) (by show cells + 1 ≤ _; omega) (by show slots + 6 ≤ _; omega) ?_
              exact hk sh _ _ ls rfl rfl ⟨ex, em, eo, ed⟩ hW hS (lv_sub hl [2, 3, 4, 5, 6, 7] rfl)
            · replace hf := if_f c51 hf
              refine lv_iconst (v := 0) hx hb dL_law_358 (by decide) ?_
              cases hf
      · replace hf := if_f c47 hf
        refine lv_iconst (v := 0) hx hb dL_law_334 (by decide) ?_
        cases hf
def fC_2 (nS nT : Nat) (a1 : Int32) (a2 : Int32) (a3 : Int32) (sc : xSC) (sr : xSR) (sl : xSL) : Option xR5 := oB (fL_setLimit nS nT a1 a2 a3 sc sl) (fun q1 => oP (fX6_setLimit a1 a2 a3 sr) (fun v3 s5 => oB (fX6_thrown s5) (fun v6 => (if v6 = q1.1 then (if q1.1 = 0 then (if (lg_cmp q1.2.2.1 ((v3).toInt64)) = 0 then some (nS, nT, q1.2.1, s5, q1.2.2) else none) else some (nS, nT, q1.2.1, s5, q1.2.2)) else none))))
set_option maxHeartbeats 4000000 in
set_option maxRecDepth 100000 in
theorem kC_2 {p : Program} {l : Launch} {e : Env} {s : State} {m : MethodId} {args : Array Value} {below : List Frame} {meth : Method} {c : Code} {H : Heap} {locs : List Loc} {cells slots : Nat} {Q : State → Prop} {ls : Array Slot} {G : xG} {sh : xSh} {sc : xSC} {sr : xSR} {sl : xSL} {b L xa ma oa da : Nat} {xs : Nat → Int32} {x5 a1 a2 a3 a4 a5 : Int32} (hl0 : l.stackTraces = false) (F : CallFix p m c code 9 s args xB RL) (hT : xTb G s s.heap) (hX : va_X b L xs s s.heap) (hbl : b < s.heap.size) (hbA : ¬ xA G b) (hi1 : vp_in (x5 + 1) L) (hi2 : vp_in (x5 + 2) L) (hi3 : vp_in (x5 + 3) L) (hi4 : vp_in (x5 + 4) L) (hi5 : vp_in (x5 + 5) L) (ha1 : xs (x5 + 1).toNatClampNeg = a1) (ha2 : xs (x5 + 2).toNatClampNeg = a2) (ha3 : xs (x5 + 3).toNatClampNeg = a3) (ha4 : xs (x5 + 4).toNatClampNeg = a4) (ha5 : xs (x5 + 5).toNatClampNeg = a5) (hcl : cells + 16 ≤ 803720) (hsl : slots + 128 ≤ 6592785) (hat : xat sh xa ma oa da) (hW : xWd G sh sc sr sl H) (hS : va_S (xA G) s.heap H locs) (hl : lv_has ls 9 [(5, .int x5), (0, .ref b), (1, .ref xa), (2, .ref ma), (3, .ref oa), (4, .ref da)]) (r : xR5) (hf : fC_2 sh.2.1 sh.2.2 a1 a2 a3 sc sr sl = some r) (hk : ∀ (sh2 : xSh) (H : Heap) (locs : List Loc) (ls : Array Slot), sh2.2.1 = r.1 → sh2.2.2 = r.2.1 → xat sh2 xa ma oa da → xWd G sh2 r.2.2.1 r.2.2.2.1 r.2.2.2.2 H → va_S (xA G) s.heap H locs → lv_has ls 9 [(5, .int x5), (0, .ref b), (1, .ref xa), (2, .ref ma), (3, .ref oa), (4, .ref da)] → W p l e room_1 s m args below meth c H locs (cells + 16) (slots + 128) Q (F0 m 2017 ls [])) : W p l e room_1 s m args below meth c H locs cells slots Q (F0 m 363 ls []) := by
  have hx := F.1
  have hb := F.2.1
  obtain ⟨ex, em, eo, ed⟩ := hat
  unfold fC_2 at hf
  refine lv_aload_n hx hb dL_law_363 rfl (lv_at hl 2 rfl) ?_
  refine lv_aload_n hx hb dL_law_364 rfl (lv_at hl 1 rfl) ?_
  refine lv_iload hx hb dL_law_365 (lv_at hl 0 rfl) ?_
  refine lv_iconst (v := 1) hx hb dL_law_367 (by decide) ?_
  refine lv_iadd hx hb dL_law_368 ?_
  refine va_sld hx hb hX hbl hbA hS hi1 dL_law_369 ?_
  rw [ha1]
  refine lv_aload_n hx hb dL_law_370 rfl (lv_at hl 1 rfl) ?_
  refine lv_iload hx hb dL_law_371 (lv_at hl 0 rfl) ?_
  refine lv_iconst (v := 2) hx hb dL_law_373 (by decide) ?_
  refine lv_iadd hx hb dL_law_374 ?_
  refine va_sld hx hb hX hbl hbA hS hi2 dL_law_375 ?_
  rw [ha2]
  refine lv_aload_n hx hb dL_law_376 rfl (lv_at hl 1 rfl) ?_
  refine lv_iload hx hb dL_law_377 (lv_at hl 0 rfl) ?_
  refine lv_iconst (v := 3) hx hb dL_law_379 (by decide) ?_
  refine lv_iadd hx hb dL_law_380 ?_
  refine va_sld hx hb hX hbl hbA hS hi3 dL_law_381 ?_
  rw [ha3]
  refine lv_aload_n hx hb dL_law_382 rfl (lv_at hl 4 rfl) ?_
  obtain ⟨q1, hc2, hf⟩ := oB_go hf
  refine W.eq (g2 := F0 m 383 ls (.ref (sh.1 14 0) :: .int a3 :: .int a2 :: .int a1 :: .ref (sh.1 0 0) :: [])) (by rw [eo, ex]) ?_
  refine xcallSX (n := 5) F hT hW hS (kL_setLimit l hl0 G sh sc sr sl a1 a2 a3 _ hc2) (xgSW (fun _ h => h) xw_375 xw_376 xw_0 xw_377) rfl xd_L_setLimit.2 ⟨(Nat.le_of_ble_eq_true rfl), (Nat.le_of_ble_eq_true rfl)⟩ rfl hl.1 rfl (Nat.le_of_ble_eq_true rfl) dL_law_383 ⟨by show cells + 0 + 3 ≤ 803720; omega, by show slots + 0 + 18 ≤ 6592785; omega⟩ (fun v9 H locs hres hW hS => ?_) (fun E9 H locs q9 ce9 hres => by cases hres)
  cases hres
  refine W.eq (g2 := F0 m 386 ls (.int q1.1 :: [])) rfl ?_
  refine lv_istore (lv' := [(6, .int q1.1), (5, .int x5), (0, .ref b), (1, .ref xa), (2, .ref ma), (3, .ref oa), (4, .ref da)]) hx hb dL_law_386 hl (by decide) rfl (fun ls hl => ?_)
  refine lv_aload_n hx hb dL_law_388 rfl (lv_at hl 4 rfl) ?_
  refine lv_aload_n hx hb dL_law_389 rfl (lv_at hl 2 rfl) ?_
  refine lv_iload hx hb dL_law_390 (lv_at hl 1 rfl) ?_
  refine lv_iconst (v := 1) hx hb dL_law_392 (by decide) ?_
  refine lv_iadd hx hb dL_law_393 ?_
  refine va_sld hx hb hX hbl hbA hS hi1 dL_law_394 ?_
  rw [ha1]
  refine lv_aload_n hx hb dL_law_395 rfl (lv_at hl 2 rfl) ?_
  refine lv_iload hx hb dL_law_396 (lv_at hl 1 rfl) ?_
  refine lv_iconst (v := 2) hx hb dL_law_398 (by decide) ?_
  refine lv_iadd hx hb dL_law_399 ?_
  refine va_sld hx hb hX hbl hbA hS hi2 dL_law_400 ?_
  rw [ha2]
  refine lv_aload_n hx hb dL_law_401 rfl (lv_at hl 2 rfl) ?_
  refine lv_iload hx hb dL_law_402 (lv_at hl 1 rfl) ?_
  refine lv_iconst (v := 3) hx hb dL_law_404 (by decide) ?_
  refine lv_iadd hx hb dL_law_405 ?_
  refine va_sld hx hb hX hbl hbA hS hi3 dL_law_406 ?_
  rw [ha3]
  obtain ⟨v3, s5, hc4, hf⟩ := oP_go hf
  refine W.eq (g2 := F0 m 407 ls (.int a3 :: .int a2 :: .int a1 :: .ref (sh.1 12 0) :: [])) (by rw [em]) ?_
  refine xcallV (n := 3) F hT hW hS (xm_fix (by decide)) xce_12 rfl (kX6_setLimit l hl0 G sh q1.2.1 sr q1.2.2 a1 a2 a3 _ hc4) (xgV xw_895 xw_896 xw_897 xw_4 xw_898) rfl xd_X6_setLimit ⟨(Nat.le_of_ble_eq_true rfl), (Nat.le_of_ble_eq_true rfl)⟩ rfl hl.1 rfl (Nat.le_of_ble_eq_true rfl) dL_law_407 ⟨by show cells + 3 + 0 ≤ 803720; omega, by show slots + 18 + 0 ≤ 6592785; omega⟩ (fun v9 H locs hres hW hS => ?_) (fun E9 H locs q9 ce9 hres => by cases hres)
  cases hres
  refine W.eq (g2 := F0 m 410 ls (.int v3 :: [])) rfl ?_
  refine lv_istore (lv' := [(7, .int v3), (6, .int q1.1), (5, .int x5), (0, .ref b), (1, .ref xa), (2, .ref ma), (3, .ref oa), (4, .ref da)]) hx hb dL_law_410 hl (by decide) rfl (fun ls hl => ?_)
  refine lv_aload_n hx hb dL_law_412 rfl (lv_at hl 5 rfl) ?_
  obtain ⟨v6, hc7, hf⟩ := oB_go hf
  refine W.eq (g2 := F0 m 413 ls (.ref (sh.1 12 0) :: [])) (by rw [em]) ?_
  refine xcallV (n := 0) F hT hW hS (xm_fix (by decide)) xce_12 rfl (kX6_thrown l hl0 G sh q1.2.1 s5 q1.2.2  _ hc7) (xgV xw_872 xw_873 xw_874 xw_4 xw_875) rfl xd_X6_thrown ⟨(Nat.le_of_ble_eq_true rfl), (Nat.le_of_ble_eq_true rfl)⟩ rfl hl.1 rfl (Nat.le_of_ble_eq_true rfl) dL_law_413 ⟨by show cells + 3 + 0 ≤ 803720; omega, by show slots + 18 + 0 ≤ 6592785; omega⟩ (fun v9 H locs hres hW hS => ?_) (fun E9 H locs q9 ce9 hres => by cases hres)
  cases hres
  refine W.eq (g2 := F0 m 416 ls (.int v6 :: [])) rfl ?_
  refine lv_iload hx hb dL_law_416 (lv_at hl 1 rfl) ?_
  refine lv_icmp_eq (tgt := 423) hx hb dL_law_418 (by decide) (fun c9 => ?_) (fun c9 => ?_)
  · replace hf := if_t c9 hf
    refine lv_iload hx hb dL_law_423 (lv_at hl 1 rfl) ?_
    refine lv_if_ne (tgt := 440) hx hb dL_law_425 (by decide) (fun c10 => ?_) (fun c10 => ?_)
    · replace hf := if_f c10 hf
      refine lv_goto (tgt := 2017) hx hb dL_law_440 (by decide) ?_
      cases hf
      refine W.widen (k := cells + 16) (n := slots + 128) (by show cells + 3 ≤ _; omega) (by show slots + 18 ≤ _; omega) ?_
      exact hk sh _ _ ls rfl rfl ⟨ex, em, eo, ed⟩ hW hS (lv_sub hl [2, 3, 4, 5, 6, 7] rfl)
    · replace hf := if_t c10 hf
      refine lv_aload_n hx hb dL_law_428 rfl (lv_at hl 6 rfl) ?_
      refine lv_iconst (v := 0) hx hb dL_law_429 (by decide) ?_
      refine W.eq (g2 := F0 m 430 ls (.int 0 :: .ref (sh.1 14 0) :: [])) (by rw [eo]) ?_
      refine xlald F hT hW dL_law_430 ?_
      refine lv_iload hx hb dL_law_431 (lv_at hl 0 rfl) ?_
      refine lv_i2l hx hb dL_law_433 rfl ?_
      refine W.lcmp hx hb dL_law_434 ?_
      refine lv_if_eq (tgt := 440) hx hb dL_law_435 (by decide) (fun c11 => ?_) (fun c11 => ?_)
      · replace hf := if_t c11 hf
        refine lv_goto (tgt := 2017) hx hb dL_law_440 (by decide) ?_
        cases hf
        refine W.widen (k := cells + 16) (n := slots + 128) (by show cells + 3 ≤ _; omega) (by show slots + 18 ≤ _; omega) ?_
        exact hk sh _ _ ls rfl rfl ⟨ex, em, eo, ed⟩ hW hS (lv_sub hl [2, 3, 4, 5, 6, 7] rfl)
      · replace hf := if_f c11 hf
        refine lv_iconst (v := 0) hx hb dL_law_438 (by decide) ?_
        cases hf
  · replace hf := if_f c9 hf
    refine lv_iconst (v := 0) hx hb dL_law_421 (by decide) ?_
    cases hf
def fC_3 (nS nT : Nat) (a1 : Int32) (a2 : Int32) (a3 : Int32) (a4 : Int32) (a5 : Int32) (sc : xSC) (sr : xSR) (sl : xSL) : Option xR5 := oB (fL_addTenant nS nT a1 a2 a3 a4 a5 sc sl) (fun q1 => (if q1.1 = 0 then oP (fX6_addTenant a1 a2 a3 a4 a5 sr) (fun v4 s6 => oB (fX6_thrown s6) (fun v7 => (if v7 = q1.1 then (if q1.1 = 0 then (if (lg_cmp q1.2.2.1 ((v4).toInt64)) = 0 then some (nS, (nT + 1), q1.2.1, s6, q1.2.2) else none) else some (nS, (nT + 1), q1.2.1, s6, q1.2.2)) else none))) else oP (fX6_addTenant a1 a2 a3 a4 a5 sr) (fun v13 s15 => oB (fX6_thrown s15) (fun v16 => (if v16 = q1.1 then (if q1.1 = 0 then (if (lg_cmp q1.2.2.1 ((v13).toInt64)) = 0 then some (nS, nT, q1.2.1, s15, q1.2.2) else none) else some (nS, nT, q1.2.1, s15, q1.2.2)) else none)))))
set_option maxHeartbeats 4000000 in
set_option maxRecDepth 100000 in
theorem kC_3 {p : Program} {l : Launch} {e : Env} {s : State} {m : MethodId} {args : Array Value} {below : List Frame} {meth : Method} {c : Code} {H : Heap} {locs : List Loc} {cells slots : Nat} {Q : State → Prop} {ls : Array Slot} {G : xG} {sh : xSh} {sc : xSC} {sr : xSR} {sl : xSL} {b L xa ma oa da : Nat} {xs : Nat → Int32} {x5 a1 a2 a3 a4 a5 : Int32} (hl0 : l.stackTraces = false) (F : CallFix p m c code 9 s args xB RL) (hT : xTb G s s.heap) (hX : va_X b L xs s s.heap) (hbl : b < s.heap.size) (hbA : ¬ xA G b) (hi1 : vp_in (x5 + 1) L) (hi2 : vp_in (x5 + 2) L) (hi3 : vp_in (x5 + 3) L) (hi4 : vp_in (x5 + 4) L) (hi5 : vp_in (x5 + 5) L) (ha1 : xs (x5 + 1).toNatClampNeg = a1) (ha2 : xs (x5 + 2).toNatClampNeg = a2) (ha3 : xs (x5 + 3).toNatClampNeg = a3) (ha4 : xs (x5 + 4).toNatClampNeg = a4) (ha5 : xs (x5 + 5).toNatClampNeg = a5) (hcl : cells + 16 ≤ 803720) (hsl : slots + 128 ≤ 6592785) (hat : xat sh xa ma oa da) (hW : xWd G sh sc sr sl H) (hS : va_S (xA G) s.heap H locs) (hl : lv_has ls 9 [(5, .int x5), (0, .ref b), (1, .ref xa), (2, .ref ma), (3, .ref oa), (4, .ref da)]) (r : xR5) (hf : fC_3 sh.2.1 sh.2.2 a1 a2 a3 a4 a5 sc sr sl = some r) (hk : ∀ (sh2 : xSh) (H : Heap) (locs : List Loc) (ls : Array Slot), sh2.2.1 = r.1 → sh2.2.2 = r.2.1 → xat sh2 xa ma oa da → xWd G sh2 r.2.2.1 r.2.2.2.1 r.2.2.2.2 H → va_S (xA G) s.heap H locs → lv_has ls 9 [(5, .int x5), (0, .ref b), (1, .ref xa), (2, .ref ma), (3, .ref oa), (4, .ref da)] → W p l e room_1 s m args below meth c H locs (cells + 16) (slots + 128) Q (F0 m 2017 ls [])) : W p l e room_1 s m args below meth c H locs cells slots Q (F0 m 443 ls []) := by
  have hx := F.1
  have hb := F.2.1
  obtain ⟨ex, em, eo, ed⟩ := hat
  unfold fC_3 at hf
  refine lv_aload_n hx hb dL_law_443 rfl (lv_at hl 2 rfl) ?_
  refine lv_aload_n hx hb dL_law_444 rfl (lv_at hl 1 rfl) ?_
  refine lv_iload hx hb dL_law_445 (lv_at hl 0 rfl) ?_
  refine lv_iconst (v := 1) hx hb dL_law_447 (by decide) ?_
  refine lv_iadd hx hb dL_law_448 ?_
  refine va_sld hx hb hX hbl hbA hS hi1 dL_law_449 ?_
  rw [ha1]
  refine lv_aload_n hx hb dL_law_450 rfl (lv_at hl 1 rfl) ?_
  refine lv_iload hx hb dL_law_451 (lv_at hl 0 rfl) ?_
  refine lv_iconst (v := 2) hx hb dL_law_453 (by decide) ?_
  refine lv_iadd hx hb dL_law_454 ?_
  refine va_sld hx hb hX hbl hbA hS hi2 dL_law_455 ?_
  rw [ha2]
  refine lv_aload_n hx hb dL_law_456 rfl (lv_at hl 1 rfl) ?_
  refine lv_iload hx hb dL_law_457 (lv_at hl 0 rfl) ?_
  refine lv_iconst (v := 3) hx hb dL_law_459 (by decide) ?_
  refine lv_iadd hx hb dL_law_460 ?_
  refine va_sld hx hb hX hbl hbA hS hi3 dL_law_461 ?_
  rw [ha3]
  refine lv_aload_n hx hb dL_law_462 rfl (lv_at hl 1 rfl) ?_
  refine lv_iload hx hb dL_law_463 (lv_at hl 0 rfl) ?_
  refine lv_iconst (v := 4) hx hb dL_law_465 (by decide) ?_
  refine lv_iadd hx hb dL_law_466 ?_
  refine va_sld hx hb hX hbl hbA hS hi4 dL_law_467 ?_
  rw [ha4]
  refine lv_aload_n hx hb dL_law_468 rfl (lv_at hl 1 rfl) ?_
  refine lv_iload hx hb dL_law_469 (lv_at hl 0 rfl) ?_
  refine lv_iconst (v := 5) hx hb dL_law_471 (by decide) ?_
  refine lv_iadd hx hb dL_law_472 ?_
  refine va_sld hx hb hX hbl hbA hS hi5 dL_law_473 ?_
  rw [ha5]
  refine lv_aload_n hx hb dL_law_474 rfl (lv_at hl 4 rfl) ?_
  obtain ⟨q1, hc2, hf⟩ := oB_go hf
  refine W.eq (g2 := F0 m 475 ls (.ref (sh.1 14 0) :: .int a5 :: .int a4 :: .int a3 :: .int a2 :: .int a1 :: .ref (sh.1 0 0) :: [])) (by rw [eo, ex]) ?_
  refine xcallSX (n := 7) F hT hW hS (kL_addTenant l hl0 G sh sc sr sl a1 a2 a3 a4 a5 _ hc2) (xgSW (fun _ h => h) xw_394 xw_395 xw_0 xw_396) rfl xd_L_addTenant.2 ⟨(Nat.le_of_ble_eq_true rfl), (Nat.le_of_ble_eq_true rfl)⟩ rfl hl.1 rfl (Nat.le_of_ble_eq_true rfl) dL_law_475 ⟨by show cells + 0 + 9 ≤ 803720; omega, by show slots + 0 + 51 ≤ 6592785; omega⟩ (fun v9 H locs hres hW hS => ?_) (fun E9 H locs q9 ce9 hres => by cases hres)
  cases hres
  refine W.eq (g2 := F0 m 478 ls (.int q1.1 :: [])) rfl ?_
  unfold xPwLT at hW
  by_cases c3 : q1.1 = 0
  · rw [if_pos c3] at hW
    obtain ⟨sh2, e1, e2, eg, hW⟩ := hW
    have ex2 : sh2.1 0 0 = xa := eg.1.trans ex
    have em2 : sh2.1 12 0 = ma := eg.2.1.trans em
    have eo2 : sh2.1 14 0 = oa := eg.2.2.1.trans eo
    have ed2 : sh2.1 15 0 = da := eg.2.2.2.trans ed
    replace hf := if_t c3 hf
    refine lv_istore (lv' := [(6, .int q1.1), (5, .int x5), (0, .ref b), (1, .ref xa), (2, .ref ma), (3, .ref oa), (4, .ref da)]) hx hb dL_law_478 hl (by decide) rfl (fun ls hl => ?_)
    refine lv_aload_n hx hb dL_law_480 rfl (lv_at hl 4 rfl) ?_
    refine lv_aload_n hx hb dL_law_481 rfl (lv_at hl 2 rfl) ?_
    refine lv_iload hx hb dL_law_482 (lv_at hl 1 rfl) ?_
    refine lv_iconst (v := 1) hx hb dL_law_484 (by decide) ?_
    refine lv_iadd hx hb dL_law_485 ?_
    refine va_sld hx hb hX hbl hbA hS hi1 dL_law_486 ?_
    rw [ha1]
    refine lv_aload_n hx hb dL_law_487 rfl (lv_at hl 2 rfl) ?_
    refine lv_iload hx hb dL_law_488 (lv_at hl 1 rfl) ?_
    refine lv_iconst (v := 2) hx hb dL_law_490 (by decide) ?_
    refine lv_iadd hx hb dL_law_491 ?_
    refine va_sld hx hb hX hbl hbA hS hi2 dL_law_492 ?_
    rw [ha2]
    refine lv_aload_n hx hb dL_law_493 rfl (lv_at hl 2 rfl) ?_
    refine lv_iload hx hb dL_law_494 (lv_at hl 1 rfl) ?_
    refine lv_iconst (v := 3) hx hb dL_law_496 (by decide) ?_
    refine lv_iadd hx hb dL_law_497 ?_
    refine va_sld hx hb hX hbl hbA hS hi3 dL_law_498 ?_
    rw [ha3]
    refine lv_aload_n hx hb dL_law_499 rfl (lv_at hl 2 rfl) ?_
    refine lv_iload hx hb dL_law_500 (lv_at hl 1 rfl) ?_
    refine lv_iconst (v := 4) hx hb dL_law_502 (by decide) ?_
    refine lv_iadd hx hb dL_law_503 ?_
    refine va_sld hx hb hX hbl hbA hS hi4 dL_law_504 ?_
    rw [ha4]
    refine lv_aload_n hx hb dL_law_505 rfl (lv_at hl 2 rfl) ?_
    refine lv_iload hx hb dL_law_506 (lv_at hl 1 rfl) ?_
    refine lv_iconst (v := 5) hx hb dL_law_508 (by decide) ?_
    refine lv_iadd hx hb dL_law_509 ?_
    refine va_sld hx hb hX hbl hbA hS hi5 dL_law_510 ?_
    rw [ha5]
    obtain ⟨v4, s6, hc5, hf⟩ := oP_go hf
    refine W.eq (g2 := F0 m 511 ls (.int a5 :: .int a4 :: .int a3 :: .int a2 :: .int a1 :: .ref (sh2.1 12 0) :: [])) (by rw [em2]) ?_
    refine xcallV (n := 5) F hT hW hS (xm_fix (by decide)) xce_12 rfl (kX6_addTenant l hl0 G sh2 q1.2.1 sr q1.2.2 a1 a2 a3 a4 a5 _ hc5) (xgV xw_902 xw_903 xw_904 xw_4 xw_905) rfl xd_X6_addTenant ⟨(Nat.le_of_ble_eq_true rfl), (Nat.le_of_ble_eq_true rfl)⟩ rfl hl.1 rfl (Nat.le_of_ble_eq_true rfl) dL_law_511 ⟨by show cells + 9 + 0 ≤ 803720; omega, by show slots + 51 + 0 ≤ 6592785; omega⟩ (fun v9 H locs hres hW hS => ?_) (fun E9 H locs q9 ce9 hres => by cases hres)
    cases hres
    refine W.eq (g2 := F0 m 514 ls (.int v4 :: [])) rfl ?_
    refine lv_istore (lv' := [(7, .int v4), (6, .int q1.1), (5, .int x5), (0, .ref b), (1, .ref xa), (2, .ref ma), (3, .ref oa), (4, .ref da)]) hx hb dL_law_514 hl (by decide) rfl (fun ls hl => ?_)
    refine lv_aload_n hx hb dL_law_516 rfl (lv_at hl 5 rfl) ?_
    obtain ⟨v7, hc8, hf⟩ := oB_go hf
    refine W.eq (g2 := F0 m 517 ls (.ref (sh2.1 12 0) :: [])) (by rw [em2]) ?_
    refine xcallV (n := 0) F hT hW hS (xm_fix (by decide)) xce_12 rfl (kX6_thrown l hl0 G sh2 q1.2.1 s6 q1.2.2  _ hc8) (xgV xw_872 xw_873 xw_874 xw_4 xw_875) rfl xd_X6_thrown ⟨(Nat.le_of_ble_eq_true rfl), (Nat.le_of_ble_eq_true rfl)⟩ rfl hl.1 rfl (Nat.le_of_ble_eq_true rfl) dL_law_517 ⟨by show cells + 9 + 0 ≤ 803720; omega, by show slots + 51 + 0 ≤ 6592785; omega⟩ (fun v9 H locs hres hW hS => ?_) (fun E9 H locs q9 ce9 hres => by cases hres)
    cases hres
    refine W.eq (g2 := F0 m 520 ls (.int v7 :: [])) rfl ?_
    refine lv_iload hx hb dL_law_520 (lv_at hl 1 rfl) ?_
    refine lv_icmp_eq (tgt := 527) hx hb dL_law_522 (by decide) (fun c10 => ?_) (fun c10 => ?_)
    · replace hf := if_t c10 hf
      refine lv_iload hx hb dL_law_527 (lv_at hl 1 rfl) ?_
      refine lv_if_ne (tgt := 544) hx hb dL_law_529 (by decide) (fun c11 => ?_) (fun c11 => ?_)
      · replace hf := if_f c11 hf
        refine lv_goto (tgt := 2017) hx hb dL_law_544 (by decide) ?_
        cases hf
        refine W.widen (k := cells + 16) (n := slots + 128) (by show cells + 9 ≤ _; omega) (by show slots + 51 ≤ _; omega) ?_
        exact hk sh2 _ _ ls e1 e2 ⟨ex2, em2, eo2, ed2⟩ hW hS (lv_sub hl [2, 3, 4, 5, 6, 7] rfl)
      · replace hf := if_t c11 hf
        refine lv_aload_n hx hb dL_law_532 rfl (lv_at hl 6 rfl) ?_
        refine lv_iconst (v := 0) hx hb dL_law_533 (by decide) ?_
        refine W.eq (g2 := F0 m 534 ls (.int 0 :: .ref (sh2.1 14 0) :: [])) (by rw [eo2]) ?_
        refine xlald F hT hW dL_law_534 ?_
        refine lv_iload hx hb dL_law_535 (lv_at hl 0 rfl) ?_
        refine lv_i2l hx hb dL_law_537 rfl ?_
        refine W.lcmp hx hb dL_law_538 ?_
        refine lv_if_eq (tgt := 544) hx hb dL_law_539 (by decide) (fun c12 => ?_) (fun c12 => ?_)
        · replace hf := if_t c12 hf
          refine lv_goto (tgt := 2017) hx hb dL_law_544 (by decide) ?_
          cases hf
          refine W.widen (k := cells + 16) (n := slots + 128) (by show cells + 9 ≤ _; omega) (by show slots + 51 ≤ _; omega) ?_
          exact hk sh2 _ _ ls e1 e2 ⟨ex2, em2, eo2, ed2⟩ hW hS (lv_sub hl [2, 3, 4, 5, 6, 7] rfl)
        · replace hf := if_f c12 hf
          refine lv_iconst (v := 0) hx hb dL_law_542 (by decide) ?_
          cases hf
    · replace hf := if_f c10 hf
      refine lv_iconst (v := 0) hx hb dL_law_525 (by decide) ?_
      cases hf
  · rw [if_neg c3] at hW
    replace hf := if_f c3 hf
    refine lv_istore (lv' := [(6, .int q1.1), (5, .int x5), (0, .ref b), (1, .ref xa), (2, .ref ma), (3, .ref oa), (4, .ref da)]) hx hb dL_law_478 hl (by decide) rfl (fun ls hl => ?_)
    refine lv_aload_n hx hb dL_law_480 rfl (lv_at hl 4 rfl) ?_
    refine lv_aload_n hx hb dL_law_481 rfl (lv_at hl 2 rfl) ?_
    refine lv_iload hx hb dL_law_482 (lv_at hl 1 rfl) ?_
    refine lv_iconst (v := 1) hx hb dL_law_484 (by decide) ?_
    refine lv_iadd hx hb dL_law_485 ?_
    refine va_sld hx hb hX hbl hbA hS hi1 dL_law_486 ?_
    rw [ha1]
    refine lv_aload_n hx hb dL_law_487 rfl (lv_at hl 2 rfl) ?_
    refine lv_iload hx hb dL_law_488 (lv_at hl 1 rfl) ?_
    refine lv_iconst (v := 2) hx hb dL_law_490 (by decide) ?_
    refine lv_iadd hx hb dL_law_491 ?_
    refine va_sld hx hb hX hbl hbA hS hi2 dL_law_492 ?_
    rw [ha2]
    refine lv_aload_n hx hb dL_law_493 rfl (lv_at hl 2 rfl) ?_
    refine lv_iload hx hb dL_law_494 (lv_at hl 1 rfl) ?_
    refine lv_iconst (v := 3) hx hb dL_law_496 (by decide) ?_
    refine lv_iadd hx hb dL_law_497 ?_
    refine va_sld hx hb hX hbl hbA hS hi3 dL_law_498 ?_
    rw [ha3]
    refine lv_aload_n hx hb dL_law_499 rfl (lv_at hl 2 rfl) ?_
    refine lv_iload hx hb dL_law_500 (lv_at hl 1 rfl) ?_
    refine lv_iconst (v := 4) hx hb dL_law_502 (by decide) ?_
    refine lv_iadd hx hb dL_law_503 ?_
    refine va_sld hx hb hX hbl hbA hS hi4 dL_law_504 ?_
    rw [ha4]
    refine lv_aload_n hx hb dL_law_505 rfl (lv_at hl 2 rfl) ?_
    refine lv_iload hx hb dL_law_506 (lv_at hl 1 rfl) ?_
    refine lv_iconst (v := 5) hx hb dL_law_508 (by decide) ?_
    refine lv_iadd hx hb dL_law_509 ?_
    refine va_sld hx hb hX hbl hbA hS hi5 dL_law_510 ?_
    rw [ha5]
    obtain ⟨v13, s15, hc14, hf⟩ := oP_go hf
    refine W.eq (g2 := F0 m 511 ls (.int a5 :: .int a4 :: .int a3 :: .int a2 :: .int a1 :: .ref (sh.1 12 0) :: [])) (by rw [em]) ?_
    refine xcallV (n := 5) F hT hW hS (xm_fix (by decide)) xce_12 rfl (kX6_addTenant l hl0 G sh q1.2.1 sr q1.2.2 a1 a2 a3 a4 a5 _ hc14) (xgV xw_902 xw_903 xw_904 xw_4 xw_905) rfl xd_X6_addTenant ⟨(Nat.le_of_ble_eq_true rfl), (Nat.le_of_ble_eq_true rfl)⟩ rfl hl.1 rfl (Nat.le_of_ble_eq_true rfl) dL_law_511 ⟨by show cells + 9 + 0 ≤ 803720; omega, by show slots + 51 + 0 ≤ 6592785; omega⟩ (fun v9 H locs hres hW hS => ?_) (fun E9 H locs q9 ce9 hres => by cases hres)
    cases hres
    refine W.eq (g2 := F0 m 514 ls (.int v13 :: [])) rfl ?_
    refine lv_istore (lv' := [(7, .int v13), (6, .int q1.1), (5, .int x5), (0, .ref b), (1, .ref xa), (2, .ref ma), (3, .ref oa), (4, .ref da)]) hx hb dL_law_514 hl (by decide) rfl (fun ls hl => ?_)
    refine lv_aload_n hx hb dL_law_516 rfl (lv_at hl 5 rfl) ?_
    obtain ⟨v16, hc17, hf⟩ := oB_go hf
    refine W.eq (g2 := F0 m 517 ls (.ref (sh.1 12 0) :: [])) (by rw [em]) ?_
    refine xcallV (n := 0) F hT hW hS (xm_fix (by decide)) xce_12 rfl (kX6_thrown l hl0 G sh q1.2.1 s15 q1.2.2  _ hc17) (xgV xw_872 xw_873 xw_874 xw_4 xw_875) rfl xd_X6_thrown ⟨(Nat.le_of_ble_eq_true rfl), (Nat.le_of_ble_eq_true rfl)⟩ rfl hl.1 rfl (Nat.le_of_ble_eq_true rfl) dL_law_517 ⟨by show cells + 9 + 0 ≤ 803720; omega, by show slots + 51 + 0 ≤ 6592785; omega⟩ (fun v9 H locs hres hW hS => ?_) (fun E9 H locs q9 ce9 hres => by cases hres)
    cases hres
    refine W.eq (g2 := F0 m 520 ls (.int v16 :: [])) rfl ?_
    refine lv_iload hx hb dL_law_520 (lv_at hl 1 rfl) ?_
    refine lv_icmp_eq (tgt := 527) hx hb dL_law_522 (by decide) (fun c19 => ?_) (fun c19 => ?_)
    · replace hf := if_t c19 hf
      refine lv_iload hx hb dL_law_527 (lv_at hl 1 rfl) ?_
      refine lv_if_ne (tgt := 544) hx hb dL_law_529 (by decide) (fun c20 => ?_) (fun c20 => ?_)
      · replace hf := if_f c20 hf
        refine lv_goto (tgt := 2017) hx hb dL_law_544 (by decide) ?_
        cases hf
        refine W.widen (k := cells + 16) (n := slots + 128) (by show cells + 9 ≤ _; omega) (by show slots + 51 ≤ _; omega) ?_
        exact hk sh _ _ ls rfl rfl ⟨ex, em, eo, ed⟩ hW hS (lv_sub hl [2, 3, 4, 5, 6, 7] rfl)
      · replace hf := if_t c20 hf
        refine lv_aload_n hx hb dL_law_532 rfl (lv_at hl 6 rfl) ?_
        refine lv_iconst (v := 0) hx hb dL_law_533 (by decide) ?_
        refine W.eq (g2 := F0 m 534 ls (.int 0 :: .ref (sh.1 14 0) :: [])) (by rw [eo]) ?_
        refine xlald F hT hW dL_law_534 ?_
        refine lv_iload hx hb dL_law_535 (lv_at hl 0 rfl) ?_
        refine lv_i2l hx hb dL_law_537 rfl ?_
        refine W.lcmp hx hb dL_law_538 ?_
        refine lv_if_eq (tgt := 544) hx hb dL_law_539 (by decide) (fun c21 => ?_) (fun c21 => ?_)
        · replace hf := if_t c21 hf
          refine lv_goto (tgt := 2017) hx hb dL_law_544 (by decide) ?_
          cases hf
          refine W.widen (k := cells + 16) (n := slots + 128) (by show cells + 9 ≤ _; omega) (by show slots + 51 ≤ _; omega) ?_
          exact hk sh _ _ ls rfl rfl ⟨ex, em, eo, ed⟩ hW hS (lv_sub hl [2, 3, 4, 5, 6, 7] rfl)
        · replace hf := if_f c21 hf
          refine lv_iconst (v := 0) hx hb dL_law_542 (by decide) ?_
          cases hf
    · replace hf := if_f c19 hf
      refine lv_iconst (v := 0) hx hb dL_law_525 (by decide) ?_
      cases hf
def fC_4 (nS nT : Nat) (a1 : Int32) (a2 : Int32) (a3 : Int32) (sc : xSC) (sr : xSR) (sl : xSL) : Option xR5 := oB (fL_setSize nS nT a1 a2 a3 sc sl) (fun q1 => oP (fX6_setSize a1 a2 a3 sr) (fun v3 s5 => oB (fX6_thrown s5) (fun v6 => (if v6 = q1.1 then (if q1.1 = 0 then (if (lg_cmp q1.2.2.1 ((v3).toInt64)) = 0 then some (nS, nT, q1.2.1, s5, q1.2.2) else none) else some (nS, nT, q1.2.1, s5, q1.2.2)) else none))))
set_option maxHeartbeats 4000000 in
set_option maxRecDepth 100000 in
theorem kC_4 {p : Program} {l : Launch} {e : Env} {s : State} {m : MethodId} {args : Array Value} {below : List Frame} {meth : Method} {c : Code} {H : Heap} {locs : List Loc} {cells slots : Nat} {Q : State → Prop} {ls : Array Slot} {G : xG} {sh : xSh} {sc : xSC} {sr : xSR} {sl : xSL} {b L xa ma oa da : Nat} {xs : Nat → Int32} {x5 a1 a2 a3 a4 a5 : Int32} (hl0 : l.stackTraces = false) (F : CallFix p m c code 9 s args xB RL) (hT : xTb G s s.heap) (hX : va_X b L xs s s.heap) (hbl : b < s.heap.size) (hbA : ¬ xA G b) (hi1 : vp_in (x5 + 1) L) (hi2 : vp_in (x5 + 2) L) (hi3 : vp_in (x5 + 3) L) (hi4 : vp_in (x5 + 4) L) (hi5 : vp_in (x5 + 5) L) (ha1 : xs (x5 + 1).toNatClampNeg = a1) (ha2 : xs (x5 + 2).toNatClampNeg = a2) (ha3 : xs (x5 + 3).toNatClampNeg = a3) (ha4 : xs (x5 + 4).toNatClampNeg = a4) (ha5 : xs (x5 + 5).toNatClampNeg = a5) (hcl : cells + 16 ≤ 803720) (hsl : slots + 128 ≤ 6592785) (hat : xat sh xa ma oa da) (hW : xWd G sh sc sr sl H) (hS : va_S (xA G) s.heap H locs) (hl : lv_has ls 9 [(5, .int x5), (0, .ref b), (1, .ref xa), (2, .ref ma), (3, .ref oa), (4, .ref da)]) (r : xR5) (hf : fC_4 sh.2.1 sh.2.2 a1 a2 a3 sc sr sl = some r) (hk : ∀ (sh2 : xSh) (H : Heap) (locs : List Loc) (ls : Array Slot), sh2.2.1 = r.1 → sh2.2.2 = r.2.1 → xat sh2 xa ma oa da → xWd G sh2 r.2.2.1 r.2.2.2.1 r.2.2.2.2 H → va_S (xA G) s.heap H locs → lv_has ls 9 [(5, .int x5), (0, .ref b), (1, .ref xa), (2, .ref ma), (3, .ref oa), (4, .ref da)] → W p l e room_1 s m args below meth c H locs (cells + 16) (slots + 128) Q (F0 m 2017 ls [])) : W p l e room_1 s m args below meth c H locs cells slots Q (F0 m 547 ls []) := by
  have hx := F.1
  have hb := F.2.1
  obtain ⟨ex, em, eo, ed⟩ := hat
  unfold fC_4 at hf
  refine lv_aload_n hx hb dL_law_547 rfl (lv_at hl 2 rfl) ?_
  refine lv_aload_n hx hb dL_law_548 rfl (lv_at hl 1 rfl) ?_
  refine lv_iload hx hb dL_law_549 (lv_at hl 0 rfl) ?_
  refine lv_iconst (v := 1) hx hb dL_law_551 (by decide) ?_
  refine lv_iadd hx hb dL_law_552 ?_
  refine va_sld hx hb hX hbl hbA hS hi1 dL_law_553 ?_
  rw [ha1]
  refine lv_aload_n hx hb dL_law_554 rfl (lv_at hl 1 rfl) ?_
  refine lv_iload hx hb dL_law_555 (lv_at hl 0 rfl) ?_
  refine lv_iconst (v := 2) hx hb dL_law_557 (by decide) ?_
  refine lv_iadd hx hb dL_law_558 ?_
  refine va_sld hx hb hX hbl hbA hS hi2 dL_law_559 ?_
  rw [ha2]
  refine lv_aload_n hx hb dL_law_560 rfl (lv_at hl 1 rfl) ?_
  refine lv_iload hx hb dL_law_561 (lv_at hl 0 rfl) ?_
  refine lv_iconst (v := 3) hx hb dL_law_563 (by decide) ?_
  refine lv_iadd hx hb dL_law_564 ?_
  refine va_sld hx hb hX hbl hbA hS hi3 dL_law_565 ?_
  rw [ha3]
  refine lv_aload_n hx hb dL_law_566 rfl (lv_at hl 4 rfl) ?_
  obtain ⟨q1, hc2, hf⟩ := oB_go hf
  refine W.eq (g2 := F0 m 567 ls (.ref (sh.1 14 0) :: .int a3 :: .int a2 :: .int a1 :: .ref (sh.1 0 0) :: [])) (by rw [eo, ex]) ?_
  refine xcallSX (n := 5) F hT hW hS (kL_setSize l hl0 G sh sc sr sl a1 a2 a3 _ hc2) (xgSW (fun _ h => h) xw_490 xw_491 xw_0 xw_492) rfl xd_L_setSize.2 ⟨(Nat.le_of_ble_eq_true rfl), (Nat.le_of_ble_eq_true rfl)⟩ rfl hl.1 rfl (Nat.le_of_ble_eq_true rfl) dL_law_567 ⟨by show cells + 0 + 3 ≤ 803720; omega, by show slots + 0 + 18 ≤ 6592785; omega⟩ (fun v9 H locs hres hW hS => ?_) (fun E9 H locs q9 ce9 hres => by cases hres)
  cases hres
  refine W.eq (g2 := F0 m 570 ls (.int q1.1 :: [])) rfl ?_
  refine lv_istore (lv' := [(6, .int q1.1), (5, .int x5), (0, .ref b), (1, .ref xa), (2, .ref ma), (3, .ref oa), (4, .ref da)]) hx hb dL_law_570 hl (by decide) rfl (fun ls hl => ?_)
  refine lv_aload_n hx hb dL_law_572 rfl (lv_at hl 4 rfl) ?_
  refine lv_aload_n hx hb dL_law_573 rfl (lv_at hl 2 rfl) ?_
  refine lv_iload hx hb dL_law_574 (lv_at hl 1 rfl) ?_
  refine lv_iconst (v := 1) hx hb dL_law_576 (by decide) ?_
  refine lv_iadd hx hb dL_law_577 ?_
  refine va_sld hx hb hX hbl hbA hS hi1 dL_law_578 ?_
  rw [ha1]
  refine lv_aload_n hx hb dL_law_579 rfl (lv_at hl 2 rfl) ?_
  refine lv_iload hx hb dL_law_580 (lv_at hl 1 rfl) ?_
  refine lv_iconst (v := 2) hx hb dL_law_582 (by decide) ?_
  refine lv_iadd hx hb dL_law_583 ?_
  refine va_sld hx hb hX hbl hbA hS hi2 dL_law_584 ?_
  rw [ha2]
  refine lv_aload_n hx hb dL_law_585 rfl (lv_at hl 2 rfl) ?_
  refine lv_iload hx hb dL_law_586 (lv_at hl 1 rfl) ?_
  refine lv_iconst (v := 3) hx hb dL_law_588 (by decide) ?_
  refine lv_iadd hx hb dL_law_589 ?_
  refine va_sld hx hb hX hbl hbA hS hi3 dL_law_590 ?_
  rw [ha3]
  obtain ⟨v3, s5, hc4, hf⟩ := oP_go hf
  refine W.eq (g2 := F0 m 591 ls (.int a3 :: .int a2 :: .int a1 :: .ref (sh.1 12 0) :: [])) (by rw [em]) ?_
  refine xcallV (n := 3) F hT hW hS (xm_fix (by decide)) xce_12 rfl (kX6_setSize l hl0 G sh q1.2.1 sr q1.2.2 a1 a2 a3 _ hc4) (xgV xw_922 xw_923 xw_924 xw_4 xw_925) rfl xd_X6_setSize ⟨(Nat.le_of_ble_eq_true rfl), (Nat.le_of_ble_eq_true rfl)⟩ rfl hl.1 rfl (Nat.le_of_ble_eq_true rfl) dL_law_591 ⟨by show cells + 3 + 0 ≤ 803720; omega, by show slots + 18 + 0 ≤ 6592785; omega⟩ (fun v9 H locs hres hW hS => ?_) (fun E9 H locs q9 ce9 hres => by cases hres)
  cases hres
  refine W.eq (g2 := F0 m 594 ls (.int v3 :: [])) rfl ?_
  refine lv_istore (lv' := [(7, .int v3), (6, .int q1.1), (5, .int x5), (0, .ref b), (1, .ref xa), (2, .ref ma), (3, .ref oa), (4, .ref da)]) hx hb dL_law_594 hl (by decide) rfl (fun ls hl => ?_)
  refine lv_aload_n hx hb dL_law_596 rfl (lv_at hl 5 rfl) ?_
  obtain ⟨v6, hc7, hf⟩ := oB_go hf
  refine W.eq (g2 := F0 m 597 ls (.ref (sh.1 12 0) :: [])) (by rw [em]) ?_
  refine xcallV (n := 0) F hT hW hS (xm_fix (by decide)) xce_12 rfl (kX6_thrown l hl0 G sh q1.2.1 s5 q1.2.2  _ hc7) (xgV xw_872 xw_873 xw_874 xw_4 xw_875) rfl xd_X6_thrown ⟨(Nat.le_of_ble_eq_true rfl), (Nat.le_of_ble_eq_true rfl)⟩ rfl hl.1 rfl (Nat.le_of_ble_eq_true rfl) dL_law_597 ⟨by show cells + 3 + 0 ≤ 803720; omega, by show slots + 18 + 0 ≤ 6592785; omega⟩ (fun v9 H locs hres hW hS => ?_) (fun E9 H locs q9 ce9 hres => by cases hres)
  cases hres
  refine W.eq (g2 := F0 m 600 ls (.int v6 :: [])) rfl ?_
  refine lv_iload hx hb dL_law_600 (lv_at hl 1 rfl) ?_
  refine lv_icmp_eq (tgt := 607) hx hb dL_law_602 (by decide) (fun c9 => ?_) (fun c9 => ?_)
  · replace hf := if_t c9 hf
    refine lv_iload hx hb dL_law_607 (lv_at hl 1 rfl) ?_
    refine lv_if_ne (tgt := 624) hx hb dL_law_609 (by decide) (fun c10 => ?_) (fun c10 => ?_)
    · replace hf := if_f c10 hf
      refine lv_goto (tgt := 2017) hx hb dL_law_624 (by decide) ?_
      cases hf
      refine W.widen (k := cells + 16) (n := slots + 128) (by show cells + 3 ≤ _; omega) (by show slots + 18 ≤ _; omega) ?_
      exact hk sh _ _ ls rfl rfl ⟨ex, em, eo, ed⟩ hW hS (lv_sub hl [2, 3, 4, 5, 6, 7] rfl)
    · replace hf := if_t c10 hf
      refine lv_aload_n hx hb dL_law_612 rfl (lv_at hl 6 rfl) ?_
      refine lv_iconst (v := 0) hx hb dL_law_613 (by decide) ?_
      refine W.eq (g2 := F0 m 614 ls (.int 0 :: .ref (sh.1 14 0) :: [])) (by rw [eo]) ?_
      refine xlald F hT hW dL_law_614 ?_
      refine lv_iload hx hb dL_law_615 (lv_at hl 0 rfl) ?_
      refine lv_i2l hx hb dL_law_617 rfl ?_
      refine W.lcmp hx hb dL_law_618 ?_
      refine lv_if_eq (tgt := 624) hx hb dL_law_619 (by decide) (fun c11 => ?_) (fun c11 => ?_)
      · replace hf := if_t c11 hf
        refine lv_goto (tgt := 2017) hx hb dL_law_624 (by decide) ?_
        cases hf
        refine W.widen (k := cells + 16) (n := slots + 128) (by show cells + 3 ≤ _; omega) (by show slots + 18 ≤ _; omega) ?_
        exact hk sh _ _ ls rfl rfl ⟨ex, em, eo, ed⟩ hW hS (lv_sub hl [2, 3, 4, 5, 6, 7] rfl)
      · replace hf := if_f c11 hf
        refine lv_iconst (v := 0) hx hb dL_law_622 (by decide) ?_
        cases hf
  · replace hf := if_f c9 hf
    refine lv_iconst (v := 0) hx hb dL_law_605 (by decide) ?_
    cases hf
def fC_5 (nS nT : Nat) (a1 : Int32) (a2 : Int32) (a3 : Int32) (sc : xSC) (sr : xSR) (sl : xSL) : Option xR5 := oB (fL_setWindow nS nT a1 a2 a3 sc sl) (fun q1 => oP (fX6_setWindow a1 a2 a3 sr) (fun v3 s5 => oB (fX6_thrown s5) (fun v6 => (if v6 = q1.1 then (if q1.1 = 0 then (if (lg_cmp q1.2.2.1 ((v3).toInt64)) = 0 then some (nS, nT, q1.2.1, s5, q1.2.2) else none) else some (nS, nT, q1.2.1, s5, q1.2.2)) else none))))
set_option maxHeartbeats 4000000 in
set_option maxRecDepth 100000 in
theorem kC_5 {p : Program} {l : Launch} {e : Env} {s : State} {m : MethodId} {args : Array Value} {below : List Frame} {meth : Method} {c : Code} {H : Heap} {locs : List Loc} {cells slots : Nat} {Q : State → Prop} {ls : Array Slot} {G : xG} {sh : xSh} {sc : xSC} {sr : xSR} {sl : xSL} {b L xa ma oa da : Nat} {xs : Nat → Int32} {x5 a1 a2 a3 a4 a5 : Int32} (hl0 : l.stackTraces = false) (F : CallFix p m c code 9 s args xB RL) (hT : xTb G s s.heap) (hX : va_X b L xs s s.heap) (hbl : b < s.heap.size) (hbA : ¬ xA G b) (hi1 : vp_in (x5 + 1) L) (hi2 : vp_in (x5 + 2) L) (hi3 : vp_in (x5 + 3) L) (hi4 : vp_in (x5 + 4) L) (hi5 : vp_in (x5 + 5) L) (ha1 : xs (x5 + 1).toNatClampNeg = a1) (ha2 : xs (x5 + 2).toNatClampNeg = a2) (ha3 : xs (x5 + 3).toNatClampNeg = a3) (ha4 : xs (x5 + 4).toNatClampNeg = a4) (ha5 : xs (x5 + 5).toNatClampNeg = a5) (hcl : cells + 16 ≤ 803720) (hsl : slots + 128 ≤ 6592785) (hat : xat sh xa ma oa da) (hW : xWd G sh sc sr sl H) (hS : va_S (xA G) s.heap H locs) (hl : lv_has ls 9 [(5, .int x5), (0, .ref b), (1, .ref xa), (2, .ref ma), (3, .ref oa), (4, .ref da)]) (r : xR5) (hf : fC_5 sh.2.1 sh.2.2 a1 a2 a3 sc sr sl = some r) (hk : ∀ (sh2 : xSh) (H : Heap) (locs : List Loc) (ls : Array Slot), sh2.2.1 = r.1 → sh2.2.2 = r.2.1 → xat sh2 xa ma oa da → xWd G sh2 r.2.2.1 r.2.2.2.1 r.2.2.2.2 H → va_S (xA G) s.heap H locs → lv_has ls 9 [(5, .int x5), (0, .ref b), (1, .ref xa), (2, .ref ma), (3, .ref oa), (4, .ref da)] → W p l e room_1 s m args below meth c H locs (cells + 16) (slots + 128) Q (F0 m 2017 ls [])) : W p l e room_1 s m args below meth c H locs cells slots Q (F0 m 627 ls []) := by
  have hx := F.1
  have hb := F.2.1
  obtain ⟨ex, em, eo, ed⟩ := hat
  unfold fC_5 at hf
  refine lv_aload_n hx hb dL_law_627 rfl (lv_at hl 2 rfl) ?_
  refine lv_aload_n hx hb dL_law_628 rfl (lv_at hl 1 rfl) ?_
  refine lv_iload hx hb dL_law_629 (lv_at hl 0 rfl) ?_
  refine lv_iconst (v := 1) hx hb dL_law_631 (by decide) ?_
  refine lv_iadd hx hb dL_law_632 ?_
  refine va_sld hx hb hX hbl hbA hS hi1 dL_law_633 ?_
  rw [ha1]
  refine lv_aload_n hx hb dL_law_634 rfl (lv_at hl 1 rfl) ?_
  refine lv_iload hx hb dL_law_635 (lv_at hl 0 rfl) ?_
  refine lv_iconst (v := 2) hx hb dL_law_637 (by decide) ?_
  refine lv_iadd hx hb dL_law_638 ?_
  refine va_sld hx hb hX hbl hbA hS hi2 dL_law_639 ?_
  rw [ha2]
  refine lv_aload_n hx hb dL_law_640 rfl (lv_at hl 1 rfl) ?_
  refine lv_iload hx hb dL_law_641 (lv_at hl 0 rfl) ?_
  refine lv_iconst (v := 3) hx hb dL_law_643 (by decide) ?_
  refine lv_iadd hx hb dL_law_644 ?_
  refine va_sld hx hb hX hbl hbA hS hi3 dL_law_645 ?_
  rw [ha3]
  refine lv_aload_n hx hb dL_law_646 rfl (lv_at hl 4 rfl) ?_
  obtain ⟨q1, hc2, hf⟩ := oB_go hf
  refine W.eq (g2 := F0 m 647 ls (.ref (sh.1 14 0) :: .int a3 :: .int a2 :: .int a1 :: .ref (sh.1 0 0) :: [])) (by rw [eo, ex]) ?_
  refine xcallSX (n := 5) F hT hW hS (kL_setWindow l hl0 G sh sc sr sl a1 a2 a3 _ hc2) (xgSW (fun _ h => h) xw_502 xw_503 xw_0 xw_504) rfl xd_L_setWindow.2 ⟨(Nat.le_of_ble_eq_true rfl), (Nat.le_of_ble_eq_true rfl)⟩ rfl hl.1 rfl (Nat.le_of_ble_eq_true rfl) dL_law_647 ⟨by show cells + 0 + 3 ≤ 803720; omega, by show slots + 0 + 18 ≤ 6592785; omega⟩ (fun v9 H locs hres hW hS => ?_) (fun E9 H locs q9 ce9 hres => by cases hres)
  cases hres
  refine W.eq (g2 := F0 m 650 ls (.int q1.1 :: [])) rfl ?_
  refine lv_istore (lv' := [(6, .int q1.1), (5, .int x5), (0, .ref b), (1, .ref xa), (2, .ref ma), (3, .ref oa), (4, .ref da)]) hx hb dL_law_650 hl (by decide) rfl (fun ls hl => ?_)
  refine lv_aload_n hx hb dL_law_652 rfl (lv_at hl 4 rfl) ?_
  refine lv_aload_n hx hb dL_law_653 rfl (lv_at hl 2 rfl) ?_
  refine lv_iload hx hb dL_law_654 (lv_at hl 1 rfl) ?_
  refine lv_iconst (v := 1) hx hb dL_law_656 (by decide) ?_
  refine lv_iadd hx hb dL_law_657 ?_
  refine va_sld hx hb hX hbl hbA hS hi1 dL_law_658 ?_
  rw [ha1]
  refine lv_aload_n hx hb dL_law_659 rfl (lv_at hl 2 rfl) ?_
  refine lv_iload hx hb dL_law_660 (lv_at hl 1 rfl) ?_
  refine lv_iconst (v := 2) hx hb dL_law_662 (by decide) ?_
  refine lv_iadd hx hb dL_law_663 ?_
  refine va_sld hx hb hX hbl hbA hS hi2 dL_law_664 ?_
  rw [ha2]
  refine lv_aload_n hx hb dL_law_665 rfl (lv_at hl 2 rfl) ?_
  refine lv_iload hx hb dL_law_666 (lv_at hl 1 rfl) ?_
  refine lv_iconst (v := 3) hx hb dL_law_668 (by decide) ?_
  refine lv_iadd hx hb dL_law_669 ?_
  refine va_sld hx hb hX hbl hbA hS hi3 dL_law_670 ?_
  rw [ha3]
  obtain ⟨v3, s5, hc4, hf⟩ := oP_go hf
  refine W.eq (g2 := F0 m 671 ls (.int a3 :: .int a2 :: .int a1 :: .ref (sh.1 12 0) :: [])) (by rw [em]) ?_
  refine xcallV (n := 3) F hT hW hS (xm_fix (by decide)) xce_12 rfl (kX6_setWindow l hl0 G sh q1.2.1 sr q1.2.2 a1 a2 a3 _ hc4) (xgV xw_930 xw_931 xw_932 xw_4 xw_933) rfl xd_X6_setWindow ⟨(Nat.le_of_ble_eq_true rfl), (Nat.le_of_ble_eq_true rfl)⟩ rfl hl.1 rfl (Nat.le_of_ble_eq_true rfl) dL_law_671 ⟨by show cells + 3 + 0 ≤ 803720; omega, by show slots + 18 + 0 ≤ 6592785; omega⟩ (fun v9 H locs hres hW hS => ?_) (fun E9 H locs q9 ce9 hres => by cases hres)
  cases hres
  refine W.eq (g2 := F0 m 674 ls (.int v3 :: [])) rfl ?_
  refine lv_istore (lv' := [(7, .int v3), (6, .int q1.1), (5, .int x5), (0, .ref b), (1, .ref xa), (2, .ref ma), (3, .ref oa), (4, .ref da)]) hx hb dL_law_674 hl (by decide) rfl (fun ls hl => ?_)
  refine lv_aload_n hx hb dL_law_676 rfl (lv_at hl 5 rfl) ?_
  obtain ⟨v6, hc7, hf⟩ := oB_go hf
  refine W.eq (g2 := F0 m 677 ls (.ref (sh.1 12 0) :: [])) (by rw [em]) ?_
  refine xcallV (n := 0) F hT hW hS (xm_fix (by decide)) xce_12 rfl (kX6_thrown l hl0 G sh q1.2.1 s5 q1.2.2  _ hc7) (xgV xw_872 xw_873 xw_874 xw_4 xw_875) rfl xd_X6_thrown ⟨(Nat.le_of_ble_eq_true rfl), (Nat.le_of_ble_eq_true rfl)⟩ rfl hl.1 rfl (Nat.le_of_ble_eq_true rfl) dL_law_677 ⟨by show cells + 3 + 0 ≤ 803720; omega, by show slots + 18 + 0 ≤ 6592785; omega⟩ (fun v9 H locs hres hW hS => ?_) (fun E9 H locs q9 ce9 hres => by cases hres)
  cases hres
  refine W.eq (g2 := F0 m 680 ls (.int v6 :: [])) rfl ?_
  refine lv_iload hx hb dL_law_680 (lv_at hl 1 rfl) ?_
  refine lv_icmp_eq (tgt := 687) hx hb dL_law_682 (by decide) (fun c9 => ?_) (fun c9 => ?_)
  · replace hf := if_t c9 hf
    refine lv_iload hx hb dL_law_687 (lv_at hl 1 rfl) ?_
    refine lv_if_ne (tgt := 704) hx hb dL_law_689 (by decide) (fun c10 => ?_) (fun c10 => ?_)
    · replace hf := if_f c10 hf
      refine lv_goto (tgt := 2017) hx hb dL_law_704 (by decide) ?_
      cases hf
      refine W.widen (k := cells + 16) (n := slots + 128) (by show cells + 3 ≤ _; omega) (by show slots + 18 ≤ _; omega) ?_
      exact hk sh _ _ ls rfl rfl ⟨ex, em, eo, ed⟩ hW hS (lv_sub hl [2, 3, 4, 5, 6, 7] rfl)
    · replace hf := if_t c10 hf
      refine lv_aload_n hx hb dL_law_692 rfl (lv_at hl 6 rfl) ?_
      refine lv_iconst (v := 0) hx hb dL_law_693 (by decide) ?_
      refine W.eq (g2 := F0 m 694 ls (.int 0 :: .ref (sh.1 14 0) :: [])) (by rw [eo]) ?_
      refine xlald F hT hW dL_law_694 ?_
      refine lv_iload hx hb dL_law_695 (lv_at hl 0 rfl) ?_
      refine lv_i2l hx hb dL_law_697 rfl ?_
      refine W.lcmp hx hb dL_law_698 ?_
      refine lv_if_eq (tgt := 704) hx hb dL_law_699 (by decide) (fun c11 => ?_) (fun c11 => ?_)
      · replace hf := if_t c11 hf
        refine lv_goto (tgt := 2017) hx hb dL_law_704 (by decide) ?_
        cases hf
        refine W.widen (k := cells + 16) (n := slots + 128) (by show cells + 3 ≤ _; omega) (by show slots + 18 ≤ _; omega) ?_
        exact hk sh _ _ ls rfl rfl ⟨ex, em, eo, ed⟩ hW hS (lv_sub hl [2, 3, 4, 5, 6, 7] rfl)
      · replace hf := if_f c11 hf
        refine lv_iconst (v := 0) hx hb dL_law_702 (by decide) ?_
        cases hf
  · replace hf := if_f c9 hf
    refine lv_iconst (v := 0) hx hb dL_law_685 (by decide) ?_
    cases hf
def fC_6 (nS nT : Nat) (a1 : Int32) (a2 : Int32) (sc : xSC) (sr : xSR) (sl : xSL) : Option xR5 := oB (fL_keepApart nS nT a1 a2 sc sl) (fun q1 => oP (fX6_keepApart a1 a2 sr) (fun v3 s5 => oB (fX6_thrown s5) (fun v6 => (if v6 = q1.1 then (if q1.1 = 0 then (if (lg_cmp q1.2.2.1 ((v3).toInt64)) = 0 then some (nS, nT, q1.2.1, s5, q1.2.2) else none) else some (nS, nT, q1.2.1, s5, q1.2.2)) else none))))
set_option maxHeartbeats 4000000 in
set_option maxRecDepth 100000 in
theorem kC_6 {p : Program} {l : Launch} {e : Env} {s : State} {m : MethodId} {args : Array Value} {below : List Frame} {meth : Method} {c : Code} {H : Heap} {locs : List Loc} {cells slots : Nat} {Q : State → Prop} {ls : Array Slot} {G : xG} {sh : xSh} {sc : xSC} {sr : xSR} {sl : xSL} {b L xa ma oa da : Nat} {xs : Nat → Int32} {x5 a1 a2 a3 a4 a5 : Int32} (hl0 : l.stackTraces = false) (F : CallFix p m c code 9 s args xB RL) (hT : xTb G s s.heap) (hX : va_X b L xs s s.heap) (hbl : b < s.heap.size) (hbA : ¬ xA G b) (hi1 : vp_in (x5 + 1) L) (hi2 : vp_in (x5 + 2) L) (hi3 : vp_in (x5 + 3) L) (hi4 : vp_in (x5 + 4) L) (hi5 : vp_in (x5 + 5) L) (ha1 : xs (x5 + 1).toNatClampNeg = a1) (ha2 : xs (x5 + 2).toNatClampNeg = a2) (ha3 : xs (x5 + 3).toNatClampNeg = a3) (ha4 : xs (x5 + 4).toNatClampNeg = a4) (ha5 : xs (x5 + 5).toNatClampNeg = a5) (hcl : cells + 16 ≤ 803720) (hsl : slots + 128 ≤ 6592785) (hat : xat sh xa ma oa da) (hW : xWd G sh sc sr sl H) (hS : va_S (xA G) s.heap H locs) (hl : lv_has ls 9 [(5, .int x5), (0, .ref b), (1, .ref xa), (2, .ref ma), (3, .ref oa), (4, .ref da)]) (r : xR5) (hf : fC_6 sh.2.1 sh.2.2 a1 a2 sc sr sl = some r) (hk : ∀ (sh2 : xSh) (H : Heap) (locs : List Loc) (ls : Array Slot), sh2.2.1 = r.1 → sh2.2.2 = r.2.1 → xat sh2 xa ma oa da → xWd G sh2 r.2.2.1 r.2.2.2.1 r.2.2.2.2 H → va_S (xA G) s.heap H locs → lv_has ls 9 [(5, .int x5), (0, .ref b), (1, .ref xa), (2, .ref ma), (3, .ref oa), (4, .ref da)] → W p l e room_1 s m args below meth c H locs (cells + 16) (slots + 128) Q (F0 m 2017 ls [])) : W p l e room_1 s m args below meth c H locs cells slots Q (F0 m 707 ls []) := by
  have hx := F.1
  have hb := F.2.1
  obtain ⟨ex, em, eo, ed⟩ := hat
  unfold fC_6 at hf
  refine lv_aload_n hx hb dL_law_707 rfl (lv_at hl 2 rfl) ?_
  refine lv_aload_n hx hb dL_law_708 rfl (lv_at hl 1 rfl) ?_
  refine lv_iload hx hb dL_law_709 (lv_at hl 0 rfl) ?_
  refine lv_iconst (v := 1) hx hb dL_law_711 (by decide) ?_
  refine lv_iadd hx hb dL_law_712 ?_
  refine va_sld hx hb hX hbl hbA hS hi1 dL_law_713 ?_
  rw [ha1]
  refine lv_aload_n hx hb dL_law_714 rfl (lv_at hl 1 rfl) ?_
  refine lv_iload hx hb dL_law_715 (lv_at hl 0 rfl) ?_
  refine lv_iconst (v := 2) hx hb dL_law_717 (by decide) ?_
  refine lv_iadd hx hb dL_law_718 ?_
  refine va_sld hx hb hX hbl hbA hS hi2 dL_law_719 ?_
  rw [ha2]
  refine lv_aload_n hx hb dL_law_720 rfl (lv_at hl 4 rfl) ?_
  obtain ⟨q1, hc2, hf⟩ := oB_go hf
  refine W.eq (g2 := F0 m 721 ls (.ref (sh.1 14 0) :: .int a2 :: .int a1 :: .ref (sh.1 0 0) :: [])) (by rw [eo, ex]) ?_
  refine xcallSX (n := 4) F hT hW hS (kL_keepApart l hl0 G sh sc sr sl a1 a2 _ hc2) (xgSW (fun _ h => h) xw_516 xw_517 xw_0 xw_518) rfl xd_L_keepApart.2 ⟨(Nat.le_of_ble_eq_true rfl), (Nat.le_of_ble_eq_true rfl)⟩ rfl hl.1 rfl (Nat.le_of_ble_eq_true rfl) dL_law_721 ⟨by show cells + 0 + 3 ≤ 803720; omega, by show slots + 0 + 18 ≤ 6592785; omega⟩ (fun v9 H locs hres hW hS => ?_) (fun E9 H locs q9 ce9 hres => by cases hres)
  cases hres
  refine W.eq (g2 := F0 m 724 ls (.int q1.1 :: [])) rfl ?_
  refine lv_istore (lv' := [(6, .int q1.1), (5, .int x5), (0, .ref b), (1, .ref xa), (2, .ref ma), (3, .ref oa), (4, .ref da)]) hx hb dL_law_724 hl (by decide) rfl (fun ls hl => ?_)
  refine lv_aload_n hx hb dL_law_726 rfl (lv_at hl 4 rfl) ?_
  refine lv_aload_n hx hb dL_law_727 rfl (lv_at hl 2 rfl) ?_
  refine lv_iload hx hb dL_law_728 (lv_at hl 1 rfl) ?_
  refine lv_iconst (v := 1) hx hb dL_law_730 (by decide) ?_
  refine lv_iadd hx hb dL_law_731 ?_
  refine va_sld hx hb hX hbl hbA hS hi1 dL_law_732 ?_
  rw [ha1]
  refine lv_aload_n hx hb dL_law_733 rfl (lv_at hl 2 rfl) ?_
  refine lv_iload hx hb dL_law_734 (lv_at hl 1 rfl) ?_
  refine lv_iconst (v := 2) hx hb dL_law_736 (by decide) ?_
  refine lv_iadd hx hb dL_law_737 ?_
  refine va_sld hx hb hX hbl hbA hS hi2 dL_law_738 ?_
  rw [ha2]
  obtain ⟨v3, s5, hc4, hf⟩ := oP_go hf
  refine W.eq (g2 := F0 m 739 ls (.int a2 :: .int a1 :: .ref (sh.1 12 0) :: [])) (by rw [em]) ?_
  refine xcallV (n := 2) F hT hW hS (xm_fix (by decide)) xce_12 rfl (kX6_keepApart l hl0 G sh q1.2.1 sr q1.2.2 a1 a2 _ hc4) (xgV xw_934 xw_935 xw_936 xw_4 xw_937) rfl xd_X6_keepApart ⟨(Nat.le_of_ble_eq_true rfl), (Nat.le_of_ble_eq_true rfl)⟩ rfl hl.1 rfl (Nat.le_of_ble_eq_true rfl) dL_law_739 ⟨by show cells + 3 + 0 ≤ 803720; omega, by show slots + 18 + 0 ≤ 6592785; omega⟩ (fun v9 H locs hres hW hS => ?_) (fun E9 H locs q9 ce9 hres => by cases hres)
  cases hres
  refine W.eq (g2 := F0 m 742 ls (.int v3 :: [])) rfl ?_
  refine lv_istore (lv' := [(7, .int v3), (6, .int q1.1), (5, .int x5), (0, .ref b), (1, .ref xa), (2, .ref ma), (3, .ref oa), (4, .ref da)]) hx hb dL_law_742 hl (by decide) rfl (fun ls hl => ?_)
  refine lv_aload_n hx hb dL_law_744 rfl (lv_at hl 5 rfl) ?_
  obtain ⟨v6, hc7, hf⟩ := oB_go hf
  refine W.eq (g2 := F0 m 745 ls (.ref (sh.1 12 0) :: [])) (by rw [em]) ?_
  refine xcallV (n := 0) F hT hW hS (xm_fix (by decide)) xce_12 rfl (kX6_thrown l hl0 G sh q1.2.1 s5 q1.2.2  _ hc7) (xgV xw_872 xw_873 xw_874 xw_4 xw_875) rfl xd_X6_thrown ⟨(Nat.le_of_ble_eq_true rfl), (Nat.le_of_ble_eq_true rfl)⟩ rfl hl.1 rfl (Nat.le_of_ble_eq_true rfl) dL_law_745 ⟨by show cells + 3 + 0 ≤ 803720; omega, by show slots + 18 + 0 ≤ 6592785; omega⟩ (fun v9 H locs hres hW hS => ?_) (fun E9 H locs q9 ce9 hres => by cases hres)
  cases hres
  refine W.eq (g2 := F0 m 748 ls (.int v6 :: [])) rfl ?_
  refine lv_iload hx hb dL_law_748 (lv_at hl 1 rfl) ?_
  refine lv_icmp_eq (tgt := 755) hx hb dL_law_750 (by decide) (fun c9 => ?_) (fun c9 => ?_)
  · replace hf := if_t c9 hf
    refine lv_iload hx hb dL_law_755 (lv_at hl 1 rfl) ?_
    refine lv_if_ne (tgt := 772) hx hb dL_law_757 (by decide) (fun c10 => ?_) (fun c10 => ?_)
    · replace hf := if_f c10 hf
      refine lv_goto (tgt := 2017) hx hb dL_law_772 (by decide) ?_
      cases hf
      refine W.widen (k := cells + 16) (n := slots + 128) (by show cells + 3 ≤ _; omega) (by show slots + 18 ≤ _; omega) ?_
      exact hk sh _ _ ls rfl rfl ⟨ex, em, eo, ed⟩ hW hS (lv_sub hl [2, 3, 4, 5, 6, 7] rfl)
    · replace hf := if_t c10 hf
      refine lv_aload_n hx hb dL_law_760 rfl (lv_at hl 6 rfl) ?_
      refine lv_iconst (v := 0) hx hb dL_law_761 (by decide) ?_
      refine W.eq (g2 := F0 m 762 ls (.int 0 :: .ref (sh.1 14 0) :: [])) (by rw [eo]) ?_
      refine xlald F hT hW dL_law_762 ?_
      refine lv_iload hx hb dL_law_763 (lv_at hl 0 rfl) ?_
      refine lv_i2l hx hb dL_law_765 rfl ?_
      refine W.lcmp hx hb dL_law_766 ?_
      refine lv_if_eq (tgt := 772) hx hb dL_law_767 (by decide) (fun c11 => ?_) (fun c11 => ?_)
      · replace hf := if_t c11 hf
        refine lv_goto (tgt := 2017) hx hb dL_law_772 (by decide) ?_
        cases hf
        refine W.widen (k := cells + 16) (n := slots + 128) (by show cells + 3 ≤ _; omega) (by show slots + 18 ≤ _; omega) ?_
        exact hk sh _ _ ls rfl rfl ⟨ex, em, eo, ed⟩ hW hS (lv_sub hl [2, 3, 4, 5, 6, 7] rfl)
      · replace hf := if_f c11 hf
        refine lv_iconst (v := 0) hx hb dL_law_770 (by decide) ?_
        cases hf
  · replace hf := if_f c9 hf
    refine lv_iconst (v := 0) hx hb dL_law_753 (by decide) ?_
    cases hf
def fC_7 (nS nT : Nat) (a1 : Int32) (a2 : Int32) (sc : xSC) (sr : xSR) (sl : xSL) : Option xR5 := oB (fL_move nS nT a1 a2 sc sl) (fun q1 => oP (fX6_move a1 a2 sr) (fun v3 s5 => oB (fX6_thrown s5) (fun v6 => (if v6 = q1.1 then (if q1.1 = 0 then (if (lg_cmp q1.2.2.1 ((v3).toInt64)) = 0 then some (nS, nT, q1.2.1, s5, q1.2.2) else none) else some (nS, nT, q1.2.1, s5, q1.2.2)) else none))))
set_option maxHeartbeats 4000000 in
set_option maxRecDepth 100000 in
theorem kC_7 {p : Program} {l : Launch} {e : Env} {s : State} {m : MethodId} {args : Array Value} {below : List Frame} {meth : Method} {c : Code} {H : Heap} {locs : List Loc} {cells slots : Nat} {Q : State → Prop} {ls : Array Slot} {G : xG} {sh : xSh} {sc : xSC} {sr : xSR} {sl : xSL} {b L xa ma oa da : Nat} {xs : Nat → Int32} {x5 a1 a2 a3 a4 a5 : Int32} (hl0 : l.stackTraces = false) (F : CallFix p m c code 9 s args xB RL) (hT : xTb G s s.heap) (hX : va_X b L xs s s.heap) (hbl : b < s.heap.size) (hbA : ¬ xA G b) (hi1 : vp_in (x5 + 1) L) (hi2 : vp_in (x5 + 2) L) (hi3 : vp_in (x5 + 3) L) (hi4 : vp_in (x5 + 4) L) (hi5 : vp_in (x5 + 5) L) (ha1 : xs (x5 + 1).toNatClampNeg = a1) (ha2 : xs (x5 + 2).toNatClampNeg = a2) (ha3 : xs (x5 + 3).toNatClampNeg = a3) (ha4 : xs (x5 + 4).toNatClampNeg = a4) (ha5 : xs (x5 + 5).toNatClampNeg = a5) (hcl : cells + 16 ≤ 803720) (hsl : slots + 128 ≤ 6592785) (hat : xat sh xa ma oa da) (hW : xWd G sh sc sr sl H) (hS : va_S (xA G) s.heap H locs) (hl : lv_has ls 9 [(5, .int x5), (0, .ref b), (1, .ref xa), (2, .ref ma), (3, .ref oa), (4, .ref da)]) (r : xR5) (hf : fC_7 sh.2.1 sh.2.2 a1 a2 sc sr sl = some r) (hk : ∀ (sh2 : xSh) (H : Heap) (locs : List Loc) (ls : Array Slot), sh2.2.1 = r.1 → sh2.2.2 = r.2.1 → xat sh2 xa ma oa da → xWd G sh2 r.2.2.1 r.2.2.2.1 r.2.2.2.2 H → va_S (xA G) s.heap H locs → lv_has ls 9 [(5, .int x5), (0, .ref b), (1, .ref xa), (2, .ref ma), (3, .ref oa), (4, .ref da)] → W p l e room_1 s m args below meth c H locs (cells + 16) (slots + 128) Q (F0 m 2017 ls [])) : W p l e room_1 s m args below meth c H locs cells slots Q (F0 m 775 ls []) := by
  have hx := F.1
  have hb := F.2.1
  obtain ⟨ex, em, eo, ed⟩ := hat
  unfold fC_7 at hf
  refine lv_aload_n hx hb dL_law_775 rfl (lv_at hl 2 rfl) ?_
  refine lv_aload_n hx hb dL_law_776 rfl (lv_at hl 1 rfl) ?_
  refine lv_iload hx hb dL_law_777 (lv_at hl 0 rfl) ?_
  refine lv_iconst (v := 1) hx hb dL_law_779 (by decide) ?_
  refine lv_iadd hx hb dL_law_780 ?_
  refine va_sld hx hb hX hbl hbA hS hi1 dL_law_781 ?_
  rw [ha1]
  refine lv_aload_n hx hb dL_law_782 rfl (lv_at hl 1 rfl) ?_
  refine lv_iload hx hb dL_law_783 (lv_at hl 0 rfl) ?_
  refine lv_iconst (v := 2) hx hb dL_law_785 (by decide) ?_
  refine lv_iadd hx hb dL_law_786 ?_
  refine va_sld hx hb hX hbl hbA hS hi2 dL_law_787 ?_
  rw [ha2]
  refine lv_aload_n hx hb dL_law_788 rfl (lv_at hl 4 rfl) ?_
  obtain ⟨q1, hc2, hf⟩ := oB_go hf
  refine W.eq (g2 := F0 m 789 ls (.ref (sh.1 14 0) :: .int a2 :: .int a1 :: .ref (sh.1 0 0) :: [])) (by rw [eo, ex]) ?_
  refine xcallSX (n := 4) F hT hW hS (kL_move l hl0 G sh sc sr sl a1 a2 _ hc2) (xgSW (fun _ h => h) xw_530 xw_531 xw_0 xw_532) rfl xd_L_move.2 ⟨(Nat.le_of_ble_eq_true rfl), (Nat.le_of_ble_eq_true rfl)⟩ rfl hl.1 rfl (Nat.le_of_ble_eq_true rfl) dL_law_789 ⟨by show cells + 0 + 4 ≤ 803720; omega, by show slots + 0 + 24 ≤ 6592785; omega⟩ (fun v9 H locs hres hW hS => ?_) (fun E9 H locs q9 ce9 hres => by cases hres)
  cases hres
  refine W.eq (g2 := F0 m 792 ls (.int q1.1 :: [])) rfl ?_
  refine lv_istore (lv' := [(6, .int q1.1), (5, .int x5), (0, .ref b), (1, .ref xa), (2, .ref ma), (3, .ref oa), (4, .ref da)]) hx hb dL_law_792 hl (by decide) rfl (fun ls hl => ?_)
  refine lv_aload_n hx hb dL_law_794 rfl (lv_at hl 4 rfl) ?_
  refine lv_aload_n hx hb dL_law_795 rfl (lv_at hl 2 rfl) ?_
  refine lv_iload hx hb dL_law_796 (lv_at hl 1 rfl) ?_
  refine lv_iconst (v := 1) hx hb dL_law_798 (by decide) ?_
  refine lv_iadd hx hb dL_law_799 ?_
  refine va_sld hx hb hX hbl hbA hS hi1 dL_law_800 ?_
  rw [ha1]
  refine lv_aload_n hx hb dL_law_801 rfl (lv_at hl 2 rfl) ?_
  refine lv_iload hx hb dL_law_802 (lv_at hl 1 rfl) ?_
  refine lv_iconst (v := 2) hx hb dL_law_804 (by decide) ?_
  refine lv_iadd hx hb dL_law_805 ?_
  refine va_sld hx hb hX hbl hbA hS hi2 dL_law_806 ?_
  rw [ha2]
  obtain ⟨v3, s5, hc4, hf⟩ := oP_go hf
  refine W.eq (g2 := F0 m 807 ls (.int a2 :: .int a1 :: .ref (sh.1 12 0) :: [])) (by rw [em]) ?_
  refine xcallV (n := 2) F hT hW hS (xm_fix (by decide)) xce_12 rfl (kX6_move l hl0 G sh q1.2.1 sr q1.2.2 a1 a2 _ hc4) (xgV xw_942 xw_943 xw_944 xw_4 xw_945) rfl xd_X6_move ⟨(Nat.le_of_ble_eq_true rfl), (Nat.le_of_ble_eq_true rfl)⟩ rfl hl.1 rfl (Nat.le_of_ble_eq_true rfl) dL_law_807 ⟨by show cells + 4 + 0 ≤ 803720; omega, by show slots + 24 + 0 ≤ 6592785; omega⟩ (fun v9 H locs hres hW hS => ?_) (fun E9 H locs q9 ce9 hres => by cases hres)
  cases hres
  refine W.eq (g2 := F0 m 810 ls (.int v3 :: [])) rfl ?_
  refine lv_istore (lv' := [(7, .int v3), (6, .int q1.1), (5, .int x5), (0, .ref b), (1, .ref xa), (2, .ref ma), (3, .ref oa), (4, .ref da)]) hx hb dL_law_810 hl (by decide) rfl (fun ls hl => ?_)
  refine lv_aload_n hx hb dL_law_812 rfl (lv_at hl 5 rfl) ?_
  obtain ⟨v6, hc7, hf⟩ := oB_go hf
  refine W.eq (g2 := F0 m 813 ls (.ref (sh.1 12 0) :: [])) (by rw [em]) ?_
  refine xcallV (n := 0) F hT hW hS (xm_fix (by decide)) xce_12 rfl (kX6_thrown l hl0 G sh q1.2.1 s5 q1.2.2  _ hc7) (xgV xw_872 xw_873 xw_874 xw_4 xw_875) rfl xd_X6_thrown ⟨(Nat.le_of_ble_eq_true rfl), (Nat.le_of_ble_eq_true rfl)⟩ rfl hl.1 rfl (Nat.le_of_ble_eq_true rfl) dL_law_813 ⟨by show cells + 4 + 0 ≤ 803720; omega, by show slots + 24 + 0 ≤ 6592785; omega⟩ (fun v9 H locs hres hW hS => ?_) (fun E9 H locs q9 ce9 hres => by cases hres)
  cases hres
  refine W.eq (g2 := F0 m 816 ls (.int v6 :: [])) rfl ?_
  refine lv_iload hx hb dL_law_816 (lv_at hl 1 rfl) ?_
  refine lv_icmp_eq (tgt := 823) hx hb dL_law_818 (by decide) (fun c9 => ?_) (fun c9 => ?_)
  · replace hf := if_t c9 hf
    refine lv_iload hx hb dL_law_823 (lv_at hl 1 rfl) ?_
    refine lv_if_ne (tgt := 840) hx hb dL_law_825 (by decide) (fun c10 => ?_) (fun c10 => ?_)
    · replace hf := if_f c10 hf
      refine lv_goto (tgt := 2017) hx hb dL_law_840 (by decide) ?_
      cases hf
      refine W.widen (k := cells + 16) (n := slots + 128) (by show cells + 4 ≤ _; omega) (by show slots + 24 ≤ _; omega) ?_
      exact hk sh _ _ ls rfl rfl ⟨ex, em, eo, ed⟩ hW hS (lv_sub hl [2, 3, 4, 5, 6, 7] rfl)
    · replace hf := if_t c10 hf
      refine lv_aload_n hx hb dL_law_828 rfl (lv_at hl 6 rfl) ?_
      refine lv_iconst (v := 0) hx hb dL_law_829 (by decide) ?_
      refine W.eq (g2 := F0 m 830 ls (.int 0 :: .ref (sh.1 14 0) :: [])) (by rw [eo]) ?_
      refine xlald F hT hW dL_law_830 ?_
      refine lv_iload hx hb dL_law_831 (lv_at hl 0 rfl) ?_
      refine lv_i2l hx hb dL_law_833 rfl ?_
      refine W.lcmp hx hb dL_law_834 ?_
      refine lv_if_eq (tgt := 840) hx hb dL_law_835 (by decide) (fun c11 => ?_) (fun c11 => ?_)
      · replace hf := if_t c11 hf
        refine lv_goto (tgt := 2017) hx hb dL_law_840 (by decide) ?_
        cases hf
        refine W.widen (k := cells + 16) (n := slots + 128) (by show cells + 4 ≤ _; omega) (by show slots + 24 ≤ _; omega) ?_
        exact hk sh _ _ ls rfl rfl ⟨ex, em, eo, ed⟩ hW hS (lv_sub hl [2, 3, 4, 5, 6, 7] rfl)
      · replace hf := if_f c11 hf
        refine lv_iconst (v := 0) hx hb dL_law_838 (by decide) ?_
        cases hf
  · replace hf := if_f c9 hf
    refine lv_iconst (v := 0) hx hb dL_law_821 (by decide) ?_
    cases hf
def fC_8 (nS nT : Nat) (a1 : Int32) (a2 : Int32) (sc : xSC) (sr : xSR) (sl : xSL) : Option xR5 := oB (fL_reason nS nT a1 a2 sc sl) (fun q1 => oP (fX6_reason a1 a2 sr) (fun v3 s5 => oB (fX6_thrown s5) (fun v6 => (if v6 = q1.1 then (if q1.1 = 0 then (if (lg_cmp q1.2.2.1 ((v3).toInt64)) = 0 then some (nS, nT, q1.2.1, s5, q1.2.2) else none) else some (nS, nT, q1.2.1, s5, q1.2.2)) else none))))
set_option maxHeartbeats 4000000 in
set_option maxRecDepth 100000 in
theorem kC_8 {p : Program} {l : Launch} {e : Env} {s : State} {m : MethodId} {args : Array Value} {below : List Frame} {meth : Method} {c : Code} {H : Heap} {locs : List Loc} {cells slots : Nat} {Q : State → Prop} {ls : Array Slot} {G : xG} {sh : xSh} {sc : xSC} {sr : xSR} {sl : xSL} {b L xa ma oa da : Nat} {xs : Nat → Int32} {x5 a1 a2 a3 a4 a5 : Int32} (hl0 : l.stackTraces = false) (F : CallFix p m c code 9 s args xB RL) (hT : xTb G s s.heap) (hX : va_X b L xs s s.heap) (hbl : b < s.heap.size) (hbA : ¬ xA G b) (hi1 : vp_in (x5 + 1) L) (hi2 : vp_in (x5 + 2) L) (hi3 : vp_in (x5 + 3) L) (hi4 : vp_in (x5 + 4) L) (hi5 : vp_in (x5 + 5) L) (ha1 : xs (x5 + 1).toNatClampNeg = a1) (ha2 : xs (x5 + 2).toNatClampNeg = a2) (ha3 : xs (x5 + 3).toNatClampNeg = a3) (ha4 : xs (x5 + 4).toNatClampNeg = a4) (ha5 : xs (x5 + 5).toNatClampNeg = a5) (hcl : cells + 16 ≤ 803720) (hsl : slots + 128 ≤ 6592785) (hat : xat sh xa ma oa da) (hW : xWd G sh sc sr sl H) (hS : va_S (xA G) s.heap H locs) (hl : lv_has ls 9 [(5, .int x5), (0, .ref b), (1, .ref xa), (2, .ref ma), (3, .ref oa), (4, .ref da)]) (r : xR5) (hf : fC_8 sh.2.1 sh.2.2 a1 a2 sc sr sl = some r) (hk : ∀ (sh2 : xSh) (H : Heap) (locs : List Loc) (ls : Array Slot), sh2.2.1 = r.1 → sh2.2.2 = r.2.1 → xat sh2 xa ma oa da → xWd G sh2 r.2.2.1 r.2.2.2.1 r.2.2.2.2 H → va_S (xA G) s.heap H locs → lv_has ls 9 [(5, .int x5), (0, .ref b), (1, .ref xa), (2, .ref ma), (3, .ref oa), (4, .ref da)] → W p l e room_1 s m args below meth c H locs (cells + 16) (slots + 128) Q (F0 m 2017 ls [])) : W p l e room_1 s m args below meth c H locs cells slots Q (F0 m 843 ls []) := by
  have hx := F.1
  have hb := F.2.1
  obtain ⟨ex, em, eo, ed⟩ := hat
  unfold fC_8 at hf
  refine lv_aload_n hx hb dL_law_843 rfl (lv_at hl 2 rfl) ?_
  refine lv_aload_n hx hb dL_law_844 rfl (lv_at hl 1 rfl) ?_
  refine lv_iload hx hb dL_law_845 (lv_at hl 0 rfl) ?_
  refine lv_iconst (v := 1) hx hb dL_law_847 (by decide) ?_
  refine lv_iadd hx hb dL_law_848 ?_
  refine va_sld hx hb hX hbl hbA hS hi1 dL_law_849 ?_
  rw [ha1]
  refine lv_aload_n hx hb dL_law_850 rfl (lv_at hl 1 rfl) ?_
  refine lv_iload hx hb dL_law_851 (lv_at hl 0 rfl) ?_
  refine lv_iconst (v := 2) hx hb dL_law_853 (by decide) ?_
  refine lv_iadd hx hb dL_law_854 ?_
  refine va_sld hx hb hX hbl hbA hS hi2 dL_law_855 ?_
  rw [ha2]
  refine lv_aload_n hx hb dL_law_856 rfl (lv_at hl 4 rfl) ?_
  obtain ⟨q1, hc2, hf⟩ := oB_go hf
  refine W.eq (g2 := F0 m 857 ls (.ref (sh.1 14 0) :: .int a2 :: .int a1 :: .ref (sh.1 0 0) :: [])) (by rw [eo, ex]) ?_
  refine xcallSX (n := 4) F hT hW hS (kL_reason l hl0 G sh sc sr sl a1 a2 _ hc2) (xgSW (fun _ h => h) xw_553 xw_554 xw_0 xw_555) rfl xd_L_reason.2 ⟨(Nat.le_of_ble_eq_true rfl), (Nat.le_of_ble_eq_true rfl)⟩ rfl hl.1 rfl (Nat.le_of_ble_eq_true rfl) dL_law_857 ⟨by show cells + 0 + 2 ≤ 803720; omega, by show slots + 0 + 12 ≤ 6592785; omega⟩ (fun v9 H locs hres hW hS => ?_) (fun E9 H locs q9 ce9 hres => by cases hres)
  cases hres
  refine W.eq (g2 := F0 m 860 ls (.int q1.1 :: [])) rfl ?_
  refine lv_istore (lv' := [(6, .int q1.1), (5, .int x5), (0, .ref b), (1, .ref xa), (2, .ref ma), (3, .ref oa), (4, .ref da)]) hx hb dL_law_860 hl (by decide) rfl (fun ls hl => ?_)
  refine lv_aload_n hx hb dL_law_862 rfl (lv_at hl 4 rfl) ?_
  refine lv_aload_n hx hb dL_law_863 rfl (lv_at hl 2 rfl) ?_
  refine lv_iload hx hb dL_law_864 (lv_at hl 1 rfl) ?_
  refine lv_iconst (v := 1) hx hb dL_law_866 (by decide) ?_
  refine lv_iadd hx hb dL_law_867 ?_
  refine va_sld hx hb hX hbl hbA hS hi1 dL_law_868 ?_
  rw [ha1]
  refine lv_aload_n hx hb dL_law_869 rfl (lv_at hl 2 rfl) ?_
  refine lv_iload hx hb dL_law_870 (lv_at hl 1 rfl) ?_
  refine lv_iconst (v := 2) hx hb dL_law_872 (by decide) ?_
  refine lv_iadd hx hb dL_law_873 ?_
  refine va_sld hx hb hX hbl hbA hS hi2 dL_law_874 ?_
  rw [ha2]
  obtain ⟨v3, s5, hc4, hf⟩ := oP_go hf
  refine W.eq (g2 := F0 m 875 ls (.int a2 :: .int a1 :: .ref (sh.1 12 0) :: [])) (by rw [em]) ?_
  refine xcallV (n := 2) F hT hW hS (xm_fix (by decide)) xce_12 rfl (kX6_reason l hl0 G sh q1.2.1 sr q1.2.2 a1 a2 _ hc4) (xgV xw_962 xw_963 xw_964 xw_4 xw_965) rfl xd_X6_reason ⟨(Nat.le_of_ble_eq_true rfl), (Nat.le_of_ble_eq_true rfl)⟩ rfl hl.1 rfl (Nat.le_of_ble_eq_true rfl) dL_law_875 ⟨by show cells + 2 + 0 ≤ 803720; omega, by show slots + 12 + 0 ≤ 6592785; omega⟩ (fun v9 H locs hres hW hS => ?_) (fun E9 H locs q9 ce9 hres => by cases hres)
  cases hres
  refine W.eq (g2 := F0 m 878 ls (.int v3 :: [])) rfl ?_
  refine lv_istore (lv' := [(7, .int v3), (6, .int q1.1), (5, .int x5), (0, .ref b), (1, .ref xa), (2, .ref ma), (3, .ref oa), (4, .ref da)]) hx hb dL_law_878 hl (by decide) rfl (fun ls hl => ?_)
  refine lv_aload_n hx hb dL_law_880 rfl (lv_at hl 5 rfl) ?_
  obtain ⟨v6, hc7, hf⟩ := oB_go hf
  refine W.eq (g2 := F0 m 881 ls (.ref (sh.1 12 0) :: [])) (by rw [em]) ?_
  refine xcallV (n := 0) F hT hW hS (xm_fix (by decide)) xce_12 rfl (kX6_thrown l hl0 G sh q1.2.1 s5 q1.2.2  _ hc7) (xgV xw_872 xw_873 xw_874 xw_4 xw_875) rfl xd_X6_thrown ⟨(Nat.le_of_ble_eq_true rfl), (Nat.le_of_ble_eq_true rfl)⟩ rfl hl.1 rfl (Nat.le_of_ble_eq_true rfl) dL_law_881 ⟨by show cells + 2 + 0 ≤ 803720; omega, by show slots + 12 + 0 ≤ 6592785; omega⟩ (fun v9 H locs hres hW hS => ?_) (fun E9 H locs q9 ce9 hres => by cases hres)
  cases hres
  refine W.eq (g2 := F0 m 884 ls (.int v6 :: [])) rfl ?_
  refine lv_iload hx hb dL_law_884 (lv_at hl 1 rfl) ?_
  refine lv_icmp_eq (tgt := 891) hx hb dL_law_886 (by decide) (fun c9 => ?_) (fun c9 => ?_)
  · replace hf := if_t c9 hf
    refine lv_iload hx hb dL_law_891 (lv_at hl 1 rfl) ?_
    refine lv_if_ne (tgt := 908) hx hb dL_law_893 (by decide) (fun c10 => ?_) (fun c10 => ?_)
    · replace hf := if_f c10 hf
      refine lv_goto (tgt := 2017) hx hb dL_law_908 (by decide) ?_
      cases hf
      refine W.widen (k := cells + 16) (n := slots + 128) (by show cells + 2 ≤ _; omega) (by show slots + 12 ≤ _; omega) ?_
      exact hk sh _ _ ls rfl rfl ⟨ex, em, eo, ed⟩ hW hS (lv_sub hl [2, 3, 4, 5, 6, 7] rfl)
    · replace hf := if_t c10 hf
      refine lv_aload_n hx hb dL_law_896 rfl (lv_at hl 6 rfl) ?_
      refine lv_iconst (v := 0) hx hb dL_law_897 (by decide) ?_
      refine W.eq (g2 := F0 m 898 ls (.int 0 :: .ref (sh.1 14 0) :: [])) (by rw [eo]) ?_
      refine xlald F hT hW dL_law_898 ?_
      refine lv_iload hx hb dL_law_899 (lv_at hl 0 rfl) ?_
      refine lv_i2l hx hb dL_law_901 rfl ?_
      refine W.lcmp hx hb dL_law_902 ?_
      refine lv_if_eq (tgt := 908) hx hb dL_law_903 (by decide) (fun c11 => ?_) (fun c11 => ?_)
      · replace hf := if_t c11 hf
        refine lv_goto (tgt := 2017) hx hb dL_law_908 (by decide) ?_
        cases hf
        refine W.widen (k := cells + 16) (n := slots + 128) (by show cells + 2 ≤ _; omega) (by show slots + 12 ≤ _; omega) ?_
        exact hk sh _ _ ls rfl rfl ⟨ex, em, eo, ed⟩ hW hS (lv_sub hl [2, 3, 4, 5, 6, 7] rfl)
      · replace hf := if_f c11 hf
        refine lv_iconst (v := 0) hx hb dL_law_906 (by decide) ?_
        cases hf
  · replace hf := if_f c9 hf
    refine lv_iconst (v := 0) hx hb dL_law_889 (by decide) ?_
    cases hf
def fC_9 (nS nT : Nat) (a1 : Int32) (sc : xSC) (sr : xSR) (sl : xSL) : Option xR5 := oB (fL_fail nS nT a1 sc sl) (fun q1 => oP (fX6_fail a1 sr) (fun v3 s5 => oB (fX6_thrown s5) (fun v6 => (if v6 = q1.1 then (if q1.1 = 0 then (if (lg_cmp q1.2.2.1 ((v3).toInt64)) = 0 then some (nS, nT, q1.2.1, s5, q1.2.2) else none) else some (nS, nT, q1.2.1, s5, q1.2.2)) else none))))
set_option maxHeartbeats 4000000 in
set_option maxRecDepth 100000 in
theorem kC_9 {p : Program} {l : Launch} {e : Env} {s : State} {m : MethodId} {args : Array Value} {below : List Frame} {meth : Method} {c : Code} {H : Heap} {locs : List Loc} {cells slots : Nat} {Q : State → Prop} {ls : Array Slot} {G : xG} {sh : xSh} {sc : xSC} {sr : xSR} {sl : xSL} {b L xa ma oa da : Nat} {xs : Nat → Int32} {x5 a1 a2 a3 a4 a5 : Int32} (hl0 : l.stackTraces = false) (F : CallFix p m c code 9 s args xB RL) (hT : xTb G s s.heap) (hX : va_X b L xs s s.heap) (hbl : b < s.heap.size) (hbA : ¬ xA G b) (hi1 : vp_in (x5 + 1) L) (hi2 : vp_in (x5 + 2) L) (hi3 : vp_in (x5 + 3) L) (hi4 : vp_in (x5 + 4) L) (hi5 : vp_in (x5 + 5) L) (ha1 : xs (x5 + 1).toNatClampNeg = a1) (ha2 : xs (x5 + 2).toNatClampNeg = a2) (ha3 : xs (x5 + 3).toNatClampNeg = a3) (ha4 : xs (x5 + 4).toNatClampNeg = a4) (ha5 : xs (x5 + 5).toNatClampNeg = a5) (hcl : cells + 16 ≤ 803720) (hsl : slots + 128 ≤ 6592785) (hat : xat sh xa ma oa da) (hW : xWd G sh sc sr sl H) (hS : va_S (xA G) s.heap H locs) (hl : lv_has ls 9 [(5, .int x5), (0, .ref b), (1, .ref xa), (2, .ref ma), (3, .ref oa), (4, .ref da)]) (r : xR5) (hf : fC_9 sh.2.1 sh.2.2 a1 sc sr sl = some r) (hk : ∀ (sh2 : xSh) (H : Heap) (locs : List Loc) (ls : Array Slot), sh2.2.1 = r.1 → sh2.2.2 = r.2.1 → xat sh2 xa ma oa da → xWd G sh2 r.2.2.1 r.2.2.2.1 r.2.2.2.2 H → va_S (xA G) s.heap H locs → lv_has ls 9 [(5, .int x5), (0, .ref b), (1, .ref xa), (2, .ref ma), (3, .ref oa), (4, .ref da)] → W p l e room_1 s m args below meth c H locs (cells + 16) (slots + 128) Q (F0 m 2017 ls [])) : W p l e room_1 s m args below meth c H locs cells slots Q (F0 m 911 ls []) := by
  have hx := F.1
  have hb := F.2.1
  obtain ⟨ex, em, eo, ed⟩ := hat
  unfold fC_9 at hf
  refine lv_aload_n hx hb dL_law_911 rfl (lv_at hl 2 rfl) ?_
  refine lv_aload_n hx hb dL_law_912 rfl (lv_at hl 1 rfl) ?_
  refine lv_iload hx hb dL_law_913 (lv_at hl 0 rfl) ?_
  refine lv_iconst (v := 1) hx hb dL_law_915 (by decide) ?_
  refine lv_iadd hx hb dL_law_916 ?_
  refine va_sld hx hb hX hbl hbA hS hi1 dL_law_917 ?_
  rw [ha1]
  refine lv_aload_n hx hb dL_law_918 rfl (lv_at hl 4 rfl) ?_
  obtain ⟨q1, hc2, hf⟩ := oB_go hf
  refine W.eq (g2 := F0 m 919 ls (.ref (sh.1 14 0) :: .int a1 :: .ref (sh.1 0 0) :: [])) (by rw [eo, ex]) ?_
  refine xcallSX (n := 3) F hT hW hS (kL_fail l hl0 G sh sc sr sl a1 _ hc2) (xgSW (fun _ h => h) xw_557 xw_558 xw_0 xw_559) rfl xd_L_fail.2 ⟨(Nat.le_of_ble_eq_true rfl), (Nat.le_of_ble_eq_true rfl)⟩ rfl hl.1 rfl (Nat.le_of_ble_eq_true rfl) dL_law_919 ⟨by show cells + 0 + 2 ≤ 803720; omega, by show slots + 0 + 12 ≤ 6592785; omega⟩ (fun v9 H locs hres hW hS => ?_) (fun E9 H locs q9 ce9 hres => by cases hres)
  cases hres
  refine W.eq (g2 := F0 m 922 ls (.int q1.1 :: [])) rfl ?_
  refine lv_istore (lv' := [(6, .int q1.1), (5, .int x5), (0, .ref b), (1, .ref xa), (2, .ref ma), (3, .ref oa), (4, .ref da)]) hx hb dL_law_922 hl (by decide) rfl (fun ls hl => ?_)
  refine lv_aload_n hx hb dL_law_924 rfl (lv_at hl 4 rfl) ?_
  refine lv_aload_n hx hb dL_law_925 rfl (lv_at hl 2 rfl) ?_
  refine lv_iload hx hb dL_law_926 (lv_at hl 1 rfl) ?_
  refine lv_iconst (v := 1) hx hb dL_law_928 (by decide) ?_
  refine lv_iadd hx hb dL_law_929 ?_
  refine va_sld hx hb hX hbl hbA hS hi1 dL_law_930 ?_
  rw [ha1]
  obtain ⟨v3, s5, hc4, hf⟩ := oP_go hf
  refine W.eq (g2 := F0 m 931 ls (.int a1 :: .ref (sh.1 12 0) :: [])) (by rw [em]) ?_
  refine xcallV (n := 1) F hT hW hS (xm_fix (by decide)) xce_12 rfl (kX6_fail l hl0 G sh q1.2.1 sr q1.2.2 a1 _ hc4) (xgV xw_966 xw_967 xw_968 xw_4 xw_969) rfl xd_X6_fail ⟨(Nat.le_of_ble_eq_true rfl), (Nat.le_of_ble_eq_true rfl)⟩ rfl hl.1 rfl (Nat.le_of_ble_eq_true rfl) dL_law_931 ⟨by show cells + 2 + 0 ≤ 803720; omega, by show slots + 12 + 0 ≤ 6592785; omega⟩ (fun v9 H locs hres hW hS => ?_) (fun E9 H locs q9 ce9 hres => by cases hres)
  cases hres
  refine W.eq (g2 := F0 m 934 ls (.int v3 :: [])) rfl ?_
  refine lv_istore (lv' := [(7, .int v3), (6, .int q1.1), (5, .int x5), (0, .ref b), (1, .ref xa), (2, .ref ma), (3, .ref oa), (4, .ref da)]) hx hb dL_law_934 hl (by decide) rfl (fun ls hl => ?_)
  refine lv_aload_n hx hb dL_law_936 rfl (lv_at hl 5 rfl) ?_
  obtain ⟨v6, hc7, hf⟩ := oB_go hf
  refine W.eq (g2 := F0 m 937 ls (.ref (sh.1 12 0) :: [])) (by rw [em]) ?_
  refine xcallV (n := 0) F hT hW hS (xm_fix (by decide)) xce_12 rfl (kX6_thrown l hl0 G sh q1.2.1 s5 q1.2.2  _ hc7) (xgV xw_872 xw_873 xw_874 xw_4 xw_875) rfl xd_X6_thrown ⟨(Nat.le_of_ble_eq_true rfl), (Nat.le_of_ble_eq_true rfl)⟩ rfl hl.1 rfl (Nat.le_of_ble_eq_true rfl) dL_law_937 ⟨by show cells + 2 + 0 ≤ 803720; omega, by show slots + 12 + 0 ≤ 6592785; omega⟩ (fun v9 H locs hres hW hS => ?_) (fun E9 H locs q9 ce9 hres => by cases hres)
  cases hres
  refine W.eq (g2 := F0 m 940 ls (.int v6 :: [])) rfl ?_
  refine lv_iload hx hb dL_law_940 (lv_at hl 1 rfl) ?_
  refine lv_icmp_eq (tgt := 947) hx hb dL_law_942 (by decide) (fun c9 => ?_) (fun c9 => ?_)
  · replace hf := if_t c9 hf
    refine lv_iload hx hb dL_law_947 (lv_at hl 1 rfl) ?_
    refine lv_if_ne (tgt := 964) hx hb dL_law_949 (by decide) (fun c10 => ?_) (fun c10 => ?_)
    · replace hf := if_f c10 hf
      refine lv_goto (tgt := 2017) hx hb dL_law_964 (by decide) ?_
      cases hf
      refine W.widen (k := cells + 16) (n := slots + 128) (by show cells + 2 ≤ _; omega) (by show slots + 12 ≤ _; omega) ?_
      exact hk sh _ _ ls rfl rfl ⟨ex, em, eo, ed⟩ hW hS (lv_sub hl [2, 3, 4, 5, 6, 7] rfl)
    · replace hf := if_t c10 hf
      refine lv_aload_n hx hb dL_law_952 rfl (lv_at hl 6 rfl) ?_
      refine lv_iconst (v := 0) hx hb dL_law_953 (by decide) ?_
      refine W.eq (g2 := F0 m 954 ls (.int 0 :: .ref (sh.1 14 0) :: [])) (by rw [eo]) ?_
      refine xlald F hT hW dL_law_954 ?_
      refine lv_iload hx hb dL_law_955 (lv_at hl 0 rfl) ?_
      refine lv_i2l hx hb dL_law_957 rfl ?_
      refine W.lcmp hx hb dL_law_958 ?_
      refine lv_if_eq (tgt := 964) hx hb dL_law_959 (by decide) (fun c11 => ?_) (fun c11 => ?_)
      · replace hf := if_t c11 hf
        refine lv_goto (tgt := 2017) hx hb dL_law_964 (by decide) ?_
        cases hf
        refine W.widen (k := cells + 16) (n := slots + 128) (by show cells + 2 ≤ _; omega) (by show slots + 12 ≤ _; omega) ?_
        exact hk sh _ _ ls rfl rfl ⟨ex, em, eo, ed⟩ hW hS (lv_sub hl [2, 3, 4, 5, 6, 7] rfl)
      · replace hf := if_f c11 hf
        refine lv_iconst (v := 0) hx hb dL_law_962 (by decide) ?_
        cases hf
  · replace hf := if_f c9 hf
    refine lv_iconst (v := 0) hx hb dL_law_945 (by decide) ?_
    cases hf
def fC_10 (nS nT : Nat) (a1 : Int32) (sc : xSC) (sr : xSR) (sl : xSL) : Option xR5 := oB (fL_pass nS nT a1 sc sl) (fun q1 => oP (fX6_pass a1 sr) (fun v3 s5 => oB (fX6_thrown s5) (fun v6 => (if v6 = q1.1 then (if q1.1 = 0 then (if (lg_cmp q1.2.2.1 ((v3).toInt64)) = 0 then some (nS, nT, q1.2.1, s5, q1.2.2) else none) else some (nS, nT, q1.2.1, s5, q1.2.2)) else none))))
set_option maxHeartbeats 4000000 in
set_option maxRecDepth 100000 in
theorem kC_10 {p : Program} {l : Launch} {e : Env} {s : State} {m : MethodId} {args : Array Value} {below : List Frame} {meth : Method} {c : Code} {H : Heap} {locs : List Loc} {cells slots : Nat} {Q : State → Prop} {ls : Array Slot} {G : xG} {sh : xSh} {sc : xSC} {sr : xSR} {sl : xSL} {b L xa ma oa da : Nat} {xs : Nat → Int32} {x5 a1 a2 a3 a4 a5 : Int32} (hl0 : l.stackTraces = false) (F : CallFix p m c code 9 s args xB RL) (hT : xTb G s s.heap) (hX : va_X b L xs s s.heap) (hbl : b < s.heap.size) (hbA : ¬ xA G b) (hi1 : vp_in (x5 + 1) L) (hi2 : vp_in (x5 + 2) L) (hi3 : vp_in (x5 + 3) L) (hi4 : vp_in (x5 + 4) L) (hi5 : vp_in (x5 + 5) L) (ha1 : xs (x5 + 1).toNatClampNeg = a1) (ha2 : xs (x5 + 2).toNatClampNeg = a2) (ha3 : xs (x5 + 3).toNatClampNeg = a3) (ha4 : xs (x5 + 4).toNatClampNeg = a4) (ha5 : xs (x5 + 5).toNatClampNeg = a5) (hcl : cells + 16 ≤ 803720) (hsl : slots + 128 ≤ 6592785) (hat : xat sh xa ma oa da) (hW : xWd G sh sc sr sl H) (hS : va_S (xA G) s.heap H locs) (hl : lv_has ls 9 [(5, .int x5), (0, .ref b), (1, .ref xa), (2, .ref ma), (3, .ref oa), (4, .ref da)]) (r : xR5) (hf : fC_10 sh.2.1 sh.2.2 a1 sc sr sl = some r) (hk : ∀ (sh2 : xSh) (H : Heap) (locs : List Loc) (ls : Array Slot), sh2.2.1 = r.1 → sh2.2.2 = r.2.1 → xat sh2 xa ma oa da → xWd G sh2 r.2.2.1 r.2.2.2.1 r.2.2.2.2 H → va_S (xA G) s.heap H locs → lv_has ls 9 [(5, .int x5), (0, .ref b), (1, .ref xa), (2, .ref ma), (3, .ref oa), (4, .ref da)] → W p l e room_1 s m args below meth c H locs (cells + 16) (slots + 128) Q (F0 m 2017 ls [])) : W p l e room_1 s m args below meth c H locs cells slots Q (F0 m 967 ls []) := by
  have hx := F.1
  have hb := F.2.1
  obtain ⟨ex, em, eo, ed⟩ := hat
  unfold fC_10 at hf
  refine lv_aload_n hx hb dL_law_967 rfl (lv_at hl 2 rfl) ?_
  refine lv_aload_n hx hb dL_law_968 rfl (lv_at hl 1 rfl) ?_
  refine lv_iload hx hb dL_law_969 (lv_at hl 0 rfl) ?_
  refine lv_iconst (v := 1) hx hb dL_law_971 (by decide) ?_
  refine lv_iadd hx hb dL_law_972 ?_
  refine va_sld hx hb hX hbl hbA hS hi1 dL_law_973 ?_
  rw [ha1]
  refine lv_aload_n hx hb dL_law_974 rfl (lv_at hl 4 rfl) ?_
  obtain ⟨q1, hc2, hf⟩ := oB_go hf
  refine W.eq (g2 := F0 m 975 ls (.ref (sh.1 14 0) :: .int a1 :: .ref (sh.1 0 0) :: [])) (by rw [eo, ex]) ?_
  refine xcallSX (n := 3) F hT hW hS (kL_pass l hl0 G sh sc sr sl a1 _ hc2) (xgSW (fun _ h => h) xw_591 xw_592 xw_0 xw_593) rfl xd_L_pass.2 ⟨(Nat.le_of_ble_eq_true rfl), (Nat.le_of_ble_eq_true rfl)⟩ rfl hl.1 rfl (Nat.le_of_ble_eq_true rfl) dL_law_975 ⟨by show cells + 0 + 1 ≤ 803720; omega, by show slots + 0 + 6 ≤ 6592785; omega⟩ (fun v9 H locs hres hW hS => ?_) (fun E9 H locs q9 ce9 hres => by cases hres)
  cases hres
  refine W.eq (g2 := F0 m 978 ls (.int q1.1 :: [])) rfl ?_
  refine lv_istore (lv' := [(6, .int q1.1), (5, .int x5), (0, .ref b), (1, .ref xa), (2, .ref ma), (3, .ref oa), (4, .ref da)]) hx hb dL_law_978 hl (by decide) rfl (fun ls hl => ?_)
  refine lv_aload_n hx hb dL_law_980 rfl (lv_at hl 4 rfl) ?_
  refine lv_aload_n hx hb dL_law_981 rfl (lv_at hl 2 rfl) ?_
  refine lv_iload hx hb dL_law_982 (lv_at hl 1 rfl) ?_
  refine lv_iconst (v := 1) hx hb dL_law_984 (by decide) ?_
  refine lv_iadd hx hb dL_law_985 ?_
  refine va_sld hx hb hX hbl hbA hS hi1 dL_law_986 ?_
  rw [ha1]
  obtain ⟨v3, s5, hc4, hf⟩ := oP_go hf
  refine W.eq (g2 := F0 m 987 ls (.int a1 :: .ref (sh.1 12 0) :: [])) (by rw [em]) ?_
  refine xcallV (n := 1) F hT hW hS (xm_fix (by decide)) xce_12 rfl (kX6_pass l hl0 G sh q1.2.1 sr q1.2.2 a1 _ hc4) (xgV xw_970 xw_971 xw_972 xw_4 xw_973) rfl xd_X6_pass ⟨(Nat.le_of_ble_eq_true rfl), (Nat.le_of_ble_eq_true rfl)⟩ rfl hl.1 rfl (Nat.le_of_ble_eq_true rfl) dL_law_987 ⟨by show cells + 1 + 0 ≤ 803720; omega, by show slots + 6 + 0 ≤ 6592785; omega⟩ (fun v9 H locs hres hW hS => ?_) (fun E9 H locs q9 ce9 hres => by cases hres)
  cases hres
  refine W.eq (g2 := F0 m 990 ls (.int v3 :: [])) rfl ?_
  refine lv_istore (lv' := [(7, .int v3), (6, .int q1.1), (5, .int x5), (0, .ref b), (1, .ref xa), (2, .ref ma), (3, .ref oa), (4, .ref da)]) hx hb dL_law_990 hl (by decide) rfl (fun ls hl => ?_)
  refine lv_aload_n hx hb dL_law_992 rfl (lv_at hl 5 rfl) ?_
  obtain ⟨v6, hc7, hf⟩ := oB_go hf
  refine W.eq (g2 := F0 m 993 ls (.ref (sh.1 12 0) :: [])) (by rw [em]) ?_
  refine xcallV (n := 0) F hT hW hS (xm_fix (by decide)) xce_12 rfl (kX6_thrown l hl0 G sh q1.2.1 s5 q1.2.2  _ hc7) (xgV xw_872 xw_873 xw_874 xw_4 xw_875) rfl xd_X6_thrown ⟨(Nat.le_of_ble_eq_true rfl), (Nat.le_of_ble_eq_true rfl)⟩ rfl hl.1 rfl (Nat.le_of_ble_eq_true rfl) dL_law_993 ⟨by show cells + 1 + 0 ≤ 803720; omega, by show slots + 6 + 0 ≤ 6592785; omega⟩ (fun v9 H locs hres hW hS => ?_) (fun E9 H locs q9 ce9 hres => by cases hres)
  cases hres
  refine W.eq (g2 := F0 m 996 ls (.int v6 :: [])) rfl ?_
  refine lv_iload hx hb dL_law_996 (lv_at hl 1 rfl) ?_
  refine lv_icmp_eq (tgt := 1003) hx hb dL_law_998 (by decide) (fun c9 => ?_) (fun c9 => ?_)
  · replace hf := if_t c9 hf
    refine lv_iload hx hb dL_law_1003 (lv_at hl 1 rfl) ?_
    refine lv_if_ne (tgt := 1020) hx hb dL_law_1005 (by decide) (fun c10 => ?_) (fun c10 => ?_)
    · replace hf := if_f c10 hf
      refine lv_goto (tgt := 2017) hx hb dL_law_1020 (by decide) ?_
      cases hf
      refine W.widen (k := cells + 16) (n := slots + 128) (by show cells + 1 ≤ _; omega) (by show slots + 6 ≤ _; omega) ?_
      exact hk sh _ _ ls rfl rfl ⟨ex, em, eo, ed⟩ hW hS (lv_sub hl [2, 3, 4, 5, 6, 7] rfl)
    · replace hf := if_t c10 hf
      refine lv_aload_n hx hb dL_law_1008 rfl (lv_at hl 6 rfl) ?_
      refine lv_iconst (v := 0) hx hb dL_law_1009 (by decide) ?_
      refine W.eq (g2 := F0 m 1010 ls (.int 0 :: .ref (sh.1 14 0) :: [])) (by rw [eo]) ?_
      refine xlald F hT hW dL_law_1010 ?_
      refine lv_iload hx hb dL_law_1011 (lv_at hl 0 rfl) ?_
      refine lv_i2l hx hb dL_law_1013 rfl ?_
      refine W.lcmp hx hb dL_law_1014 ?_
      refine lv_if_eq (tgt := 1020) hx hb dL_law_1015 (by decide) (fun c11 => ?_) (fun c11 => ?_)
      · replace hf := if_t c11 hf
        refine lv_goto (tgt := 2017) hx hb dL_law_1020 (by decide) ?_
        cases hf
        refine W.widen (k := cells + 16) (n := slots + 128) (by show cells + 1 ≤ _; omega) (by show slots + 6 ≤ _; omega) ?_
        exact hk sh _ _ ls rfl rfl ⟨ex, em, eo, ed⟩ hW hS (lv_sub hl [2, 3, 4, 5, 6, 7] rfl)
      · replace hf := if_f c11 hf
        refine lv_iconst (v := 0) hx hb dL_law_1018 (by decide) ?_
        cases hf
  · replace hf := if_f c9 hf
    refine lv_iconst (v := 0) hx hb dL_law_1001 (by decide) ?_
    cases hf
def fC_11 (nS nT : Nat) (sc : xSC) (sr : xSR) (sl : xSL) : Option xR5 := oB (fX5_time nS nT sc) (fun v1 => oP (fX6_time sr) (fun v4 s6 => (if v1 = v4 then some (nS, nT, sc, s6, sl) else none)))
set_option maxHeartbeats 4000000 in
set_option maxRecDepth 100000 in
theorem kC_11 {p : Program} {l : Launch} {e : Env} {s : State} {m : MethodId} {args : Array Value} {below : List Frame} {meth : Method} {c : Code} {H : Heap} {locs : List Loc} {cells slots : Nat} {Q : State → Prop} {ls : Array Slot} {G : xG} {sh : xSh} {sc : xSC} {sr : xSR} {sl : xSL} {b L xa ma oa da : Nat} {xs : Nat → Int32} {x5 a1 a2 a3 a4 a5 : Int32} (hl0 : l.stackTraces = false) (F : CallFix p m c code 9 s args xB RL) (hT : xTb G s s.heap) (hX : va_X b L xs s s.heap) (hbl : b < s.heap.size) (hbA : ¬ xA G b) (hi1 : vp_in (x5 + 1) L) (hi2 : vp_in (x5 + 2) L) (hi3 : vp_in (x5 + 3) L) (hi4 : vp_in (x5 + 4) L) (hi5 : vp_in (x5 + 5) L) (ha1 : xs (x5 + 1).toNatClampNeg = a1) (ha2 : xs (x5 + 2).toNatClampNeg = a2) (ha3 : xs (x5 + 3).toNatClampNeg = a3) (ha4 : xs (x5 + 4).toNatClampNeg = a4) (ha5 : xs (x5 + 5).toNatClampNeg = a5) (hcl : cells + 16 ≤ 803720) (hsl : slots + 128 ≤ 6592785) (hat : xat sh xa ma oa da) (hW : xWd G sh sc sr sl H) (hS : va_S (xA G) s.heap H locs) (hl : lv_has ls 9 [(5, .int x5), (0, .ref b), (1, .ref xa), (2, .ref ma), (3, .ref oa), (4, .ref da)]) (r : xR5) (hf : fC_11 sh.2.1 sh.2.2 sc sr sl = some r) (hk : ∀ (sh2 : xSh) (H : Heap) (locs : List Loc) (ls : Array Slot), sh2.2.1 = r.1 → sh2.2.2 = r.2.1 → xat sh2 xa ma oa da → xWd G sh2 r.2.2.1 r.2.2.2.1 r.2.2.2.2 H → va_S (xA G) s.heap H locs → lv_has ls 9 [(5, .int x5), (0, .ref b), (1, .ref xa), (2, .ref ma), (3, .ref oa), (4, .ref da)] → W p l e room_1 s m args below meth c H locs (cells + 16) (slots + 128) Q (F0 m 2017 ls [])) : W p l e room_1 s m args below meth c H locs cells slots Q (F0 m 1023 ls []) := by
  have hx := F.1
  have hb := F.2.1
  obtain ⟨ex, em, eo, ed⟩ := hat
  unfold fC_11 at hf
  refine lv_aload_n hx hb dL_law_1023 rfl (lv_at hl 2 rfl) ?_
  obtain ⟨v1, hc2, hf⟩ := oB_go hf
  refine W.eq (g2 := F0 m 1024 ls (.ref (sh.1 0 0) :: [])) (by rw [ex]) ?_
  refine xcallV (n := 0) F hT hW hS (xm_fix (by decide)) xce_0 rfl (kX5_time l hl0 G sh sc sr sl  _ hc2) (xgV xw_96 xw_97 xw_98 xw_1 xw_99) rfl xd_X5_time ⟨(Nat.le_of_ble_eq_true rfl), (Nat.le_of_ble_eq_true rfl)⟩ rfl hl.1 rfl (Nat.le_of_ble_eq_true rfl) dL_law_1024 ⟨by show cells + 0 + 0 ≤ 803720; omega, by show slots + 0 + 0 ≤ 6592785; omega⟩ (fun v9 H locs hres hW hS => ?_) (fun E9 H locs q9 ce9 hres => by cases hres)
  cases hres
  refine W.eq (g2 := F0 m 1027 ls (.int v1 :: [])) rfl ?_
  refine lv_aload_n hx hb dL_law_1027 rfl (lv_at hl 3 rfl) ?_
  obtain ⟨v4, s6, hc5, hf⟩ := oP_go hf
  refine W.eq (g2 := F0 m 1028 ls (.ref (sh.1 12 0) :: .int v1 :: [])) (by rw [em]) ?_
  refine xcallV (n := 0) F hT hW hS (xm_fix (by decide)) xce_12 rfl (kX6_time l hl0 G sh sc sr sl  _ hc5) (xgV xw_990 xw_991 xw_992 xw_4 xw_993) rfl xd_X6_time ⟨(Nat.le_of_ble_eq_true rfl), (Nat.le_of_ble_eq_true rfl)⟩ rfl hl.1 rfl (Nat.le_of_ble_eq_true rfl) dL_law_1028 ⟨by show cells + 0 + 0 ≤ 803720; omega, by show slots + 0 + 0 ≤ 6592785; omega⟩ (fun v9 H locs hres hW hS => ?_) (fun E9 H locs q9 ce9 hres => by cases hres)
  cases hres
  refine W.eq (g2 := F0 m 1031 ls (.int v4 :: .int v1 :: [])) rfl ?_
  refine lv_icmp_eq (tgt := 2017) hx hb dL_law_1031 (by decide) (fun c7 => ?_) (fun c7 => ?_)
  · replace hf := if_t c7 hf
    cases hf
    refine W.widen (k := cells + 16) (n := slots + 128) (by show cells + 0 ≤ _; omega) (by show slots + 0 ≤ _; omega) ?_
    exact hk sh _ _ ls rfl rfl ⟨ex, em, eo, ed⟩ hW hS (lv_sub hl [0, 1, 2, 3, 4, 5] rfl)
  · replace hf := if_f c7 hf
    refine lv_iconst (v := 0) hx hb dL_law_1034 (by decide) ?_
    cases hf
def fC_12 (nS nT : Nat) (a1 : Int32) (sc : xSC) (sr : xSR) (sl : xSL) : Option xR5 := oB (fL_phase nS nT a1 sc sl) (fun q1 => oP (fX6_phase a1 sr) (fun v3 s5 => oB (fX6_thrown s5) (fun v6 => (if v6 = q1.1 then (if q1.1 = 0 then (if (lg_cmp q1.2.2.1 ((v3).toInt64)) = 0 then some (nS, nT, q1.2.1, s5, q1.2.2) else none) else some (nS, nT, q1.2.1, s5, q1.2.2)) else none))))
set_option maxHeartbeats 4000000 in
set_option maxRecDepth 100000 in
theorem kC_12 {p : Program} {l : Launch} {e : Env} {s : State} {m : MethodId} {args : Array Value} {below : List Frame} {meth : Method} {c : Code} {H : Heap} {locs : List Loc} {cells slots : Nat} {Q : State → Prop} {ls : Array Slot} {G : xG} {sh : xSh} {sc : xSC} {sr : xSR} {sl : xSL} {b L xa ma oa da : Nat} {xs : Nat → Int32} {x5 a1 a2 a3 a4 a5 : Int32} (hl0 : l.stackTraces = false) (F : CallFix p m c code 9 s args xB RL) (hT : xTb G s s.heap) (hX : va_X b L xs s s.heap) (hbl : b < s.heap.size) (hbA : ¬ xA G b) (hi1 : vp_in (x5 + 1) L) (hi2 : vp_in (x5 + 2) L) (hi3 : vp_in (x5 + 3) L) (hi4 : vp_in (x5 + 4) L) (hi5 : vp_in (x5 + 5) L) (ha1 : xs (x5 + 1).toNatClampNeg = a1) (ha2 : xs (x5 + 2).toNatClampNeg = a2) (ha3 : xs (x5 + 3).toNatClampNeg = a3) (ha4 : xs (x5 + 4).toNatClampNeg = a4) (ha5 : xs (x5 + 5).toNatClampNeg = a5) (hcl : cells + 16 ≤ 803720) (hsl : slots + 128 ≤ 6592785) (hat : xat sh xa ma oa da) (hW : xWd G sh sc sr sl H) (hS : va_S (xA G) s.heap H locs) (hl : lv_has ls 9 [(5, .int x5), (0, .ref b), (1, .ref xa), (2, .ref ma), (3, .ref oa), (4, .ref da)]) (r : xR5) (hf : fC_12 sh.2.1 sh.2.2 a1 sc sr sl = some r) (hk : ∀ (sh2 : xSh) (H : Heap) (locs : List Loc) (ls : Array Slot), sh2.2.1 = r.1 → sh2.2.2 = r.2.1 → xat sh2 xa ma oa da → xWd G sh2 r.2.2.1 r.2.2.2.1 r.2.2.2.2 H → va_S (xA G) s.heap H locs → lv_has ls 9 [(5, .int x5), (0, .ref b), (1, .ref xa), (2, .ref ma), (3, .ref oa), (4, .ref da)] → W p l e room_1 s m args below meth c H locs (cells + 16) (slots + 128) Q (F0 m 2017 ls [])) : W p l e room_1 s m args below meth c H locs cells slots Q (F0 m 1036 ls []) := by
  have hx := F.1
  have hb := F.2.1
  obtain ⟨ex, em, eo, ed⟩ := hat
  unfold fC_12 at hf
  refine lv_aload_n hx hb dL_law_1036 rfl (lv_at hl 2 rfl) ?_
  refine lv_aload_n hx hb dL_law_1037 rfl (lv_at hl 1 rfl) ?_
  refine lv_iload hx hb dL_law_1038 (lv_at hl 0 rfl) ?_
  refine lv_iconst (v := 1) hx hb dL_law_1040 (by decide) ?_
  refine lv_iadd hx hb dL_law_1041 ?_
  refine va_sld hx hb hX hbl hbA hS hi1 dL_law_1042 ?_
  rw [ha1]
  refine lv_aload_n hx hb dL_law_1043 rfl (lv_at hl 4 rfl) ?_
  obtain ⟨q1, hc2, hf⟩ := oB_go hf
  refine W.eq (g2 := F0 m 1044 ls (.ref (sh.1 14 0) :: .int a1 :: .ref (sh.1 0 0) :: [])) (by rw [eo, ex]) ?_
  refine xcallSX (n := 3) F hT hW hS (kL_phase l hl0 G sh sc sr sl a1 _ hc2) (xgSW (fun _ h => h) xw_632 xw_633 xw_0 xw_634) rfl xd_L_phase.2 ⟨(Nat.le_of_ble_eq_true rfl), (Nat.le_of_ble_eq_true rfl)⟩ rfl hl.1 rfl (Nat.le_of_ble_eq_true rfl) dL_law_1044 ⟨by show cells + 0 + 1 ≤ 803720; omega, by show slots + 0 + 6 ≤ 6592785; omega⟩ (fun v9 H locs hres hW hS => ?_) (fun E9 H locs q9 ce9 hres => by cases hres)
  cases hres
  refine W.eq (g2 := F0 m 1047 ls (.int q1.1 :: [])) rfl ?_
  refine lv_istore (lv' := [(6, .int q1.1), (5, .int x5), (0, .ref b), (1, .ref xa), (2, .ref ma), (3, .ref oa), (4, .ref da)]) hx hb dL_law_1047 hl (by decide) rfl (fun ls hl => ?_)
  refine lv_aload_n hx hb dL_law_1049 rfl (lv_at hl 4 rfl) ?_
  refine lv_aload_n hx hb dL_law_1050 rfl (lv_at hl 2 rfl) ?_
  refine lv_iload hx hb dL_law_1051 (lv_at hl 1 rfl) ?_
  refine lv_iconst (v := 1) hx hb dL_law_1053 (by decide) ?_
  refine lv_iadd hx hb dL_law_1054 ?_
  refine va_sld hx hb hX hbl hbA hS hi1 dL_law_1055 ?_
  rw [ha1]
  obtain ⟨v3, s5, hc4, hf⟩ := oP_go hf
  refine W.eq (g2 := F0 m 1056 ls (.int a1 :: .ref (sh.1 12 0) :: [])) (by rw [em]) ?_
  refine xcallV (n := 1) F hT hW hS (xm_fix (by decide)) xce_12 rfl (kX6_phase l hl0 G sh q1.2.1 sr q1.2.2 a1 _ hc4) (xgV xw_998 xw_999 xw_1000 xw_4 xw_1001) rfl xd_X6_phase ⟨(Nat.le_of_ble_eq_true rfl), (Nat.le_of_ble_eq_true rfl)⟩ rfl hl.1 rfl (Nat.le_of_ble_eq_true rfl) dL_law_1056 ⟨by show cells + 1 + 0 ≤ 803720; omega, by show slots + 6 + 0 ≤ 6592785; omega⟩ (fun v9 H locs hres hW hS => ?_) (fun E9 H locs q9 ce9 hres => by cases hres)
  cases hres
  refine W.eq (g2 := F0 m 1059 ls (.int v3 :: [])) rfl ?_
  refine lv_istore (lv' := [(7, .int v3), (6, .int q1.1), (5, .int x5), (0, .ref b), (1, .ref xa), (2, .ref ma), (3, .ref oa), (4, .ref da)]) hx hb dL_law_1059 hl (by decide) rfl (fun ls hl => ?_)
  refine lv_aload_n hx hb dL_law_1061 rfl (lv_at hl 5 rfl) ?_
  obtain ⟨v6, hc7, hf⟩ := oB_go hf
  refine W.eq (g2 := F0 m 1062 ls (.ref (sh.1 12 0) :: [])) (by rw [em]) ?_
  refine xcallV (n := 0) F hT hW hS (xm_fix (by decide)) xce_12 rfl (kX6_thrown l hl0 G sh q1.2.1 s5 q1.2.2  _ hc7) (xgV xw_872 xw_873 xw_874 xw_4 xw_875) rfl xd_X6_thrown ⟨(Nat.le_of_ble_eq_true rfl), (Nat.le_of_ble_eq_true rfl)⟩ rfl hl.1 rfl (Nat.le_of_ble_eq_true rfl) dL_law_1062 ⟨by show cells + 1 + 0 ≤ 803720; omega, by show slots + 6 + 0 ≤ 6592785; omega⟩ (fun v9 H locs hres hW hS => ?_) (fun E9 H locs q9 ce9 hres => by cases hres)
  cases hres
  refine W.eq (g2 := F0 m 1065 ls (.int v6 :: [])) rfl ?_
  refine lv_iload hx hb dL_law_1065 (lv_at hl 1 rfl) ?_
  refine lv_icmp_eq (tgt := 1072) hx hb dL_law_1067 (by decide) (fun c9 => ?_) (fun c9 => ?_)
  · replace hf := if_t c9 hf
    refine lv_iload hx hb dL_law_1072 (lv_at hl 1 rfl) ?_
    refine lv_if_ne (tgt := 1089) hx hb dL_law_1074 (by decide) (fun c10 => ?_) (fun c10 => ?_)
    · replace hf := if_f c10 hf
      refine lv_goto (tgt := 2017) hx hb dL_law_1089 (by decide) ?_
      cases hf
      refine W.widen (k := cells + 16) (n := slots + 128) (by show cells + 1 ≤ _; omega) (by show slots + 6 ≤ _; omega) ?_
      exact hk sh _ _ ls rfl rfl ⟨ex, em, eo, ed⟩ hW hS (lv_sub hl [2, 3, 4, 5, 6, 7] rfl)
    · replace hf := if_t c10 hf
      refine lv_aload_n hx hb dL_law_1077 rfl (lv_at hl 6 rfl) ?_
      refine lv_iconst (v := 0) hx hb dL_law_1078 (by decide) ?_
      refine W.eq (g2 := F0 m 1079 ls (.int 0 :: .ref (sh.1 14 0) :: [])) (by rw [eo]) ?_
      refine xlald F hT hW dL_law_1079 ?_
      refine lv_iload hx hb dL_law_1080 (lv_at hl 0 rfl) ?_
      refine lv_i2l hx hb dL_law_1082 rfl ?_
      refine W.lcmp hx hb dL_law_1083 ?_
      refine lv_if_eq (tgt := 1089) hx hb dL_law_1084 (by decide) (fun c11 => ?_) (fun c11 => ?_)
      · replace hf := if_t c11 hf
        refine lv_goto (tgt := 2017) hx hb dL_law_1089 (by decide) ?_
        cases hf
        refine W.widen (k := cells + 16) (n := slots + 128) (by show cells + 1 ≤ _; omega) (by show slots + 6 ≤ _; omega) ?_
        exact hk sh _ _ ls rfl rfl ⟨ex, em, eo, ed⟩ hW hS (lv_sub hl [2, 3, 4, 5, 6, 7] rfl)
      · replace hf := if_f c11 hf
        refine lv_iconst (v := 0) hx hb dL_law_1087 (by decide) ?_
        cases hf
  · replace hf := if_f c9 hf
    refine lv_iconst (v := 0) hx hb dL_law_1070 (by decide) ?_
    cases hf
def fC_13 (nS nT : Nat) (a1 : Int32) (sc : xSC) (sr : xSR) (sl : xSL) : Option xR5 := oB (fL_targetOf nS nT a1 sc sl) (fun q1 => oP (fX6_targetOf a1 sr) (fun v3 s5 => oB (fX6_thrown s5) (fun v6 => (if v6 = q1.1 then (if q1.1 = 0 then (if (lg_cmp q1.2.2.1 ((v3).toInt64)) = 0 then some (nS, nT, q1.2.1, s5, q1.2.2) else none) else some (nS, nT, q1.2.1, s5, q1.2.2)) else none))))
set_option maxHeartbeats 4000000 in
set_option maxRecDepth 100000 in
theorem kC_13 {p : Program} {l : Launch} {e : Env} {s : State} {m : MethodId} {args : Array Value} {below : List Frame} {meth : Method} {c : Code} {H : Heap} {locs : List Loc} {cells slots : Nat} {Q : State → Prop} {ls : Array Slot} {G : xG} {sh : xSh} {sc : xSC} {sr : xSR} {sl : xSL} {b L xa ma oa da : Nat} {xs : Nat → Int32} {x5 a1 a2 a3 a4 a5 : Int32} (hl0 : l.stackTraces = false) (F : CallFix p m c code 9 s args xB RL) (hT : xTb G s s.heap) (hX : va_X b L xs s s.heap) (hbl : b < s.heap.size) (hbA : ¬ xA G b) (hi1 : vp_in (x5 + 1) L) (hi2 : vp_in (x5 + 2) L) (hi3 : vp_in (x5 + 3) L) (hi4 : vp_in (x5 + 4) L) (hi5 : vp_in (x5 + 5) L) (ha1 : xs (x5 + 1).toNatClampNeg = a1) (ha2 : xs (x5 + 2).toNatClampNeg = a2) (ha3 : xs (x5 + 3).toNatClampNeg = a3) (ha4 : xs (x5 + 4).toNatClampNeg = a4) (ha5 : xs (x5 + 5).toNatClampNeg = a5) (hcl : cells + 16 ≤ 803720) (hsl : slots + 128 ≤ 6592785) (hat : xat sh xa ma oa da) (hW : xWd G sh sc sr sl H) (hS : va_S (xA G) s.heap H locs) (hl : lv_has ls 9 [(5, .int x5), (0, .ref b), (1, .ref xa), (2, .ref ma), (3, .ref oa), (4, .ref da)]) (r : xR5) (hf : fC_13 sh.2.1 sh.2.2 a1 sc sr sl = some r) (hk : ∀ (sh2 : xSh) (H : Heap) (locs : List Loc) (ls : Array Slot), sh2.2.1 = r.1 → sh2.2.2 = r.2.1 → xat sh2 xa ma oa da → xWd G sh2 r.2.2.1 r.2.2.2.1 r.2.2.2.2 H → va_S (xA G) s.heap H locs → lv_has ls 9 [(5, .int x5), (0, .ref b), (1, .ref xa), (2, .ref ma), (3, .ref oa), (4, .ref da)] → W p l e room_1 s m args below meth c H locs (cells + 16) (slots + 128) Q (F0 m 2017 ls [])) : W p l e room_1 s m args below meth c H locs cells slots Q (F0 m 1092 ls []) := by
  have hx := F.1
  have hb := F.2.1
  obtain ⟨ex, em, eo, ed⟩ := hat
  unfold fC_13 at hf
  refine lv_aload_n hx hb dL_law_1092 rfl (lv_at hl 2 rfl) ?_
  refine lv_aload_n hx hb dL_law_1093 rfl (lv_at hl 1 rfl) ?_
  refine lv_iload hx hb dL_law_1094 (lv_at hl 0 rfl) ?_
  refine lv_iconst (v := 1) hx hb dL_law_1096 (by decide) ?_
  refine lv_iadd hx hb dL_law_1097 ?_
  refine va_sld hx hb hX hbl hbA hS hi1 dL_law_1098 ?_
  rw [ha1]
  refine lv_aload_n hx hb dL_law_1099 rfl (lv_at hl 4 rfl) ?_
  obtain ⟨q1, hc2, hf⟩ := oB_go hf
  refine W.eq (g2 := F0 m 1100 ls (.ref (sh.1 14 0) :: .int a1 :: .ref (sh.1 0 0) :: [])) (by rw [eo, ex]) ?_
  refine xcallSX (n := 3) F hT hW hS (kL_targetOf l hl0 G sh sc sr sl a1 _ hc2) (xgSW (fun _ h => h) xw_639 xw_640 xw_0 xw_641) rfl xd_L_targetOf.2 ⟨(Nat.le_of_ble_eq_true rfl), (Nat.le_of_ble_eq_true rfl)⟩ rfl hl.1 rfl (Nat.le_of_ble_eq_true rfl) dL_law_1100 ⟨by show cells + 0 + 2 ≤ 803720; omega, by show slots + 0 + 12 ≤ 6592785; omega⟩ (fun v9 H locs hres hW hS => ?_) (fun E9 H locs q9 ce9 hres => by cases hres)
  cases hres
  refine W.eq (g2 := F0 m 1103 ls (.int q1.1 :: [])) rfl ?_
  refine lv_istore (lv' := [(6, .int q1.1), (5, .int x5), (0, .ref b), (1, .ref xa), (2, .ref ma), (3, .ref oa), (4, .ref da)]) hx hb dL_law_1103 hl (by decide) rfl (fun ls hl => ?_)
  refine lv_aload_n hx hb dL_law_1105 rfl (lv_at hl 4 rfl) ?_
  refine lv_aload_n hx hb dL_law_1106 rfl (lv_at hl 2 rfl) ?_
  refine lv_iload hx hb dL_law_1107 (lv_at hl 1 rfl) ?_
  refine lv_iconst (v := 1) hx hb dL_law_1109 (by decide) ?_
  refine lv_iadd hx hb dL_law_1110 ?_
  refine va_sld hx hb hX hbl hbA hS hi1 dL_law_1111 ?_
  rw [ha1]
  obtain ⟨v3, s5, hc4, hf⟩ := oP_go hf
  refine W.eq (g2 := F0 m 1112 ls (.int a1 :: .ref (sh.1 12 0) :: [])) (by rw [em]) ?_
  refine xcallV (n := 1) F hT hW hS (xm_fix (by decide)) xce_12 rfl (kX6_targetOf l hl0 G sh q1.2.1 sr q1.2.2 a1 _ hc4) (xgV xw_1002 xw_1003 xw_1004 xw_4 xw_1005) rfl xd_X6_targetOf ⟨(Nat.le_of_ble_eq_true rfl), (Nat.le_of_ble_eq_true rfl)⟩ rfl hl.1 rfl (Nat.le_of_ble_eq_true rfl) dL_law_1112 ⟨by show cells + 2 + 0 ≤ 803720; omega, by show slots + 12 + 0 ≤ 6592785; omega⟩ (fun v9 H locs hres hW hS => ?_) (fun E9 H locs q9 ce9 hres => by cases hres)
  cases hres
  refine W.eq (g2 := F0 m 1115 ls (.int v3 :: [])) rfl ?_
  refine lv_istore (lv' := [(7, .int v3), (6, .int q1.1), (5, .int x5), (0, .ref b), (1, .ref xa), (2, .ref ma), (3, .ref oa), (4, .ref da)]) hx hb dL_law_1115 hl (by decide) rfl (fun ls hl => ?_)
  refine lv_aload_n hx hb dL_law_1117 rfl (lv_at hl 5 rfl) ?_
  obtain ⟨v6, hc7, hf⟩ := oB_go hf
  refine W.eq (g2 := F0 m 1118 ls (.ref (sh.1 12 0) :: [])) (by rw [em]) ?_
  refine xcallV (n := 0) F hT hW hS (xm_fix (by decide)) xce_12 rfl (kX6_thrown l hl0 G sh q1.2.1 s5 q1.2.2  _ hc7) (xgV xw_872 xw_873 xw_874 xw_4 xw_875) rfl xd_X6_thrown ⟨(Nat.le_of_ble_eq_true rfl), (Nat.le_of_ble_eq_true rfl)⟩ rfl hl.1 rfl (Nat.le_of_ble_eq_true rfl) dL_law_1118 ⟨by show cells + 2 + 0 ≤ 803720; omega, by show slots + 12 + 0 ≤ 6592785; omega⟩ (fun v9 H locs hres hW hS => ?_) (fun E9 H locs q9 ce9 hres => by cases hres)
  cases hres
  refine W.eq (g2 := F0 m 1121 ls (.int v6 :: [])) rfl ?_
  refine lv_iload hx hb dL_law_1121 (lv_at hl 1 rfl) ?_
  refine lv_icmp_eq (tgt := 1128) hx hb dL_law_1123 (by decide) (fun c9 => ?_) (fun c9 => ?_)
  · replace hf := if_t c9 hf
    refine lv_iload hx hb dL_law_1128 (lv_at hl 1 rfl) ?_
    refine lv_if_ne (tgt := 1145) hx hb dL_law_1130 (by decide) (fun c10 => ?_) (fun c10 => ?_)
    · replace hf := if_f c10 hf
      refine lv_goto (tgt := 2017) hx hb dL_law_1145 (by decide) ?_
      cases hf
      refine W.widen (k := cells + 16) (n := slots + 128) (by show cells + 2 ≤ _; omega) (by show slots + 12 ≤ _; omega) ?_
      exact hk sh _ _ ls rfl rfl ⟨ex, em, eo, ed⟩ hW hS (lv_sub hl [2, 3, 4, 5, 6, 7] rfl)
    · replace hf := if_t c10 hf
      refine lv_aload_n hx hb dL_law_1133 rfl (lv_at hl 6 rfl) ?_
      refine lv_iconst (v := 0) hx hb dL_law_1134 (by decide) ?_
      refine W.eq (g2 := F0 m 1135 ls (.int 0 :: .ref (sh.1 14 0) :: [])) (by rw [eo]) ?_
      refine xlald F hT hW dL_law_1135 ?_
      refine lv_iload hx hb dL_law_1136 (lv_at hl 0 rfl) ?_
      refine lv_i2l hx hb dL_law_1138 rfl ?_
      refine W.lcmp hx hb dL_law_1139 ?_
      refine lv_if_eq (tgt := 1145) hx hb dL_law_1140 (by decide) (fun c11 => ?_) (fun c11 => ?_)
      · replace hf := if_t c11 hf
        refine lv_goto (tgt := 2017) hx hb dL_law_1145 (by decide) ?_
        cases hf
        refine W.widen (k := cells + 16) (n := slots + 128) (by show cells + 2 ≤ _; omega) (by show slots + 12 ≤ _; omega) ?_
        exact hk sh _ _ ls rfl rfl ⟨ex, em, eo, ed⟩ hW hS (lv_sub hl [2, 3, 4, 5, 6, 7] rfl)
      · replace hf := if_f c11 hf
        refine lv_iconst (v := 0) hx hb dL_law_1143 (by decide) ?_
        cases hf
  · replace hf := if_f c9 hf
    refine lv_iconst (v := 0) hx hb dL_law_1126 (by decide) ?_
    cases hf
def fC_14 (nS nT : Nat) (a1 : Int32) (sc : xSC) (sr : xSR) (sl : xSL) : Option xR5 := oB (fL_hoursLeft nS nT a1 sc sl) (fun q1 => oP (fX6_hoursLeft a1 sr) (fun v3 s5 => oB (fX6_thrown s5) (fun v6 => (if v6 = q1.1 then (if q1.1 = 0 then (if (lg_cmp q1.2.2.1 ((v3).toInt64)) = 0 then some (nS, nT, q1.2.1, s5, q1.2.2) else none) else some (nS, nT, q1.2.1, s5, q1.2.2)) else none))))
set_option maxHeartbeats 4000000 in
set_option maxRecDepth 100000 in
theorem kC_14 {p : Program} {l : Launch} {e : Env} {s : State} {m : MethodId} {args : Array Value} {below : List Frame} {meth : Method} {c : Code} {H : Heap} {locs : List Loc} {cells slots : Nat} {Q : State → Prop} {ls : Array Slot} {G : xG} {sh : xSh} {sc : xSC} {sr : xSR} {sl : xSL} {b L xa ma oa da : Nat} {xs : Nat → Int32} {x5 a1 a2 a3 a4 a5 : Int32} (hl0 : l.stackTraces = false) (F : CallFix p m c code 9 s args xB RL) (hT : xTb G s s.heap) (hX : va_X b L xs s s.heap) (hbl : b < s.heap.size) (hbA : ¬ xA G b) (hi1 : vp_in (x5 + 1) L) (hi2 : vp_in (x5 + 2) L) (hi3 : vp_in (x5 + 3) L) (hi4 : vp_in (x5 + 4) L) (hi5 : vp_in (x5 + 5) L) (ha1 : xs (x5 + 1).toNatClampNeg = a1) (ha2 : xs (x5 + 2).toNatClampNeg = a2) (ha3 : xs (x5 + 3).toNatClampNeg = a3) (ha4 : xs (x5 + 4).toNatClampNeg = a4) (ha5 : xs (x5 + 5).toNatClampNeg = a5) (hcl : cells + 16 ≤ 803720) (hsl : slots + 128 ≤ 6592785) (hat : xat sh xa ma oa da) (hW : xWd G sh sc sr sl H) (hS : va_S (xA G) s.heap H locs) (hl : lv_has ls 9 [(5, .int x5), (0, .ref b), (1, .ref xa), (2, .ref ma), (3, .ref oa), (4, .ref da)]) (r : xR5) (hf : fC_14 sh.2.1 sh.2.2 a1 sc sr sl = some r) (hk : ∀ (sh2 : xSh) (H : Heap) (locs : List Loc) (ls : Array Slot), sh2.2.1 = r.1 → sh2.2.2 = r.2.1 → xat sh2 xa ma oa da → xWd G sh2 r.2.2.1 r.2.2.2.1 r.2.2.2.2 H → va_S (xA G) s.heap H locs → lv_has ls 9 [(5, .int x5), (0, .ref b), (1, .ref xa), (2, .ref ma), (3, .ref oa), (4, .ref da)] → W p l e room_1 s m args below meth c H locs (cells + 16) (slots + 128) Q (F0 m 2017 ls [])) : W p l e room_1 s m args below meth c H locs cells slots Q (F0 m 1148 ls []) := by
  have hx := F.1
  have hb := F.2.1
  obtain ⟨ex, em, eo, ed⟩ := hat
  unfold fC_14 at hf
  refine lv_aload_n hx hb dL_law_1148 rfl (lv_at hl 2 rfl) ?_
  refine lv_aload_n hx hb dL_law_1149 rfl (lv_at hl 1 rfl) ?_
  refine lv_iload hx hb dL_law_1150 (lv_at hl 0 rfl) ?_
  refine lv_iconst (v := 1) hx hb dL_law_1152 (by decide) ?_
  refine lv_iadd hx hb dL_law_1153 ?_
  refine va_sld hx hb hX hbl hbA hS hi1 dL_law_1154 ?_
  rw [ha1]
  refine lv_aload_n hx hb dL_law_1155 rfl (lv_at hl 4 rfl) ?_
  obtain ⟨q1, hc2, hf⟩ := oB_go hf
  refine W.eq (g2 := F0 m 1156 ls (.ref (sh.1 14 0) :: .int a1 :: .ref (sh.1 0 0) :: [])) (by rw [eo, ex]) ?_
  refine xcallSX (n := 3) F hT hW hS (kL_hoursLeft l hl0 G sh sc sr sl a1 _ hc2) (xgSW (fun _ h => h) xw_666 xw_667 xw_0 xw_668) rfl xd_L_hoursLeft.2 ⟨(Nat.le_of_ble_eq_true rfl), (Nat.le_of_ble_eq_true rfl)⟩ rfl hl.1 rfl (Nat.le_of_ble_eq_true rfl) dL_law_1156 ⟨by show cells + 0 + 2 ≤ 803720; omega, by show slots + 0 + 12 ≤ 6592785; omega⟩ (fun v9 H locs hres hW hS => ?_) (fun E9 H locs q9 ce9 hres => by cases hres)
  cases hres
  refine W.eq (g2 := F0 m 1159 ls (.int q1.1 :: [])) rfl ?_
  refine lv_istore (lv' := [(6, .int q1.1), (5, .int x5), (0, .ref b), (1, .ref xa), (2, .ref ma), (3, .ref oa), (4, .ref da)]) hx hb dL_law_1159 hl (by decide) rfl (fun ls hl => ?_)
  refine lv_aload_n hx hb dL_law_1161 rfl (lv_at hl 4 rfl) ?_
  refine lv_aload_n hx hb dL_law_1162 rfl (lv_at hl 2 rfl) ?_
  refine lv_iload hx hb dL_law_1163 (lv_at hl 1 rfl) ?_
  refine lv_iconst (v := 1) hx hb dL_law_1165 (by decide) ?_
  refine lv_iadd hx hb dL_law_1166 ?_
  refine va_sld hx hb hX hbl hbA hS hi1 dL_law_1167 ?_
  rw [ha1]
  obtain ⟨v3, s5, hc4, hf⟩ := oP_go hf
  refine W.eq (g2 := F0 m 1168 ls (.int a1 :: .ref (sh.1 12 0) :: [])) (by rw [em]) ?_
  refine xcallV (n := 1) F hT hW hS (xm_fix (by decide)) xce_12 rfl (kX6_hoursLeft l hl0 G sh q1.2.1 sr q1.2.2 a1 _ hc4) (xgV xw_1010 xw_1011 xw_1012 xw_4 xw_1013) rfl xd_X6_hoursLeft ⟨(Nat.le_of_ble_eq_true rfl), (Nat.le_of_ble_eq_true rfl)⟩ rfl hl.1 rfl (Nat.le_of_ble_eq_true rfl) dL_law_1168 ⟨by show cells + 2 + 0 ≤ 803720; omega, by show slots + 12 + 0 ≤ 6592785; omega⟩ (fun v9 H locs hres hW hS => ?_) (fun E9 H locs q9 ce9 hres => by cases hres)
  cases hres
  refine W.eq (g2 := F0 m 1171 ls (.int v3 :: [])) rfl ?_
  refine lv_istore (lv' := [(7, .int v3), (6, .int q1.1), (5, .int x5), (0, .ref b), (1, .ref xa), (2, .ref ma), (3, .ref oa), (4, .ref da)]) hx hb dL_law_1171 hl (by decide) rfl (fun ls hl => ?_)
  refine lv_aload_n hx hb dL_law_1173 rfl (lv_at hl 5 rfl) ?_
  obtain ⟨v6, hc7, hf⟩ := oB_go hf
  refine W.eq (g2 := F0 m 1174 ls (.ref (sh.1 12 0) :: [])) (by rw [em]) ?_
  refine xcallV (n := 0) F hT hW hS (xm_fix (by decide)) xce_12 rfl (kX6_thrown l hl0 G sh q1.2.1 s5 q1.2.2  _ hc7) (xgV xw_872 xw_873 xw_874 xw_4 xw_875) rfl xd_X6_thrown ⟨(Nat.le_of_ble_eq_true rfl), (Nat.le_of_ble_eq_true rfl)⟩ rfl hl.1 rfl (Nat.le_of_ble_eq_true rfl) dL_law_1174 ⟨by show cells + 2 + 0 ≤ 803720; omega, by show slots + 12 + 0 ≤ 6592785; omega⟩ (fun v9 H locs hres hW hS => ?_) (fun E9 H locs q9 ce9 hres => by cases hres)
  cases hres
  refine W.eq (g2 := F0 m 1177 ls (.int v6 :: [])) rfl ?_
  refine lv_iload hx hb dL_law_1177 (lv_at hl 1 rfl) ?_
  refine lv_icmp_eq (tgt := 1184) hx hb dL_law_1179 (by decide) (fun c9 => ?_) (fun c9 => ?_)
  · replace hf := if_t c9 hf
    refine lv_iload hx hb dL_law_1184 (lv_at hl 1 rfl) ?_
    refine lv_if_ne (tgt := 1201) hx hb dL_law_1186 (by decide) (fun c10 => ?_) (fun c10 => ?_)
    · replace hf := if_f c10 hf
      refine lv_goto (tgt := 2017) hx hb dL_law_1201 (by decide) ?_
      cases hf
      refine W.widen (k := cells + 16) (n := slots + 128) (by show cells + 2 ≤ _; omega) (by show slots + 12 ≤ _; omega) ?_
      exact hk sh _ _ ls rfl rfl ⟨ex, em, eo, ed⟩ hW hS (lv_sub hl [2, 3, 4, 5, 6, 7] rfl)
    · replace hf := if_t c10 hf
      refine lv_aload_n hx hb dL_law_1189 rfl (lv_at hl 6 rfl) ?_
      refine lv_iconst (v := 0) hx hb dL_law_1190 (by decide) ?_
      refine W.eq (g2 := F0 m 1191 ls (.int 0 :: .ref (sh.1 14 0) :: [])) (by rw [eo]) ?_
      refine xlald F hT hW dL_law_1191 ?_
      refine lv_iload hx hb dL_law_1192 (lv_at hl 0 rfl) ?_
      refine lv_i2l hx hb dL_law_1194 rfl ?_
      refine W.lcmp hx hb dL_law_1195 ?_
      refine lv_if_eq (tgt := 1201) hx hb dL_law_1196 (by decide) (fun c11 => ?_) (fun c11 => ?_)
      · replace hf := if_t c11 hf
        refine lv_goto (tgt := 2017) hx hb dL_law_1201 (by decide) ?_
        cases hf
        refine W.widen (k := cells + 16) (n := slots + 128) (by show cells + 2 ≤ _; omega) (by show slots + 12 ≤ _; omega) ?_
        exact hk sh _ _ ls rfl rfl ⟨ex, em, eo, ed⟩ hW hS (lv_sub hl [2, 3, 4, 5, 6, 7] rfl)
      · replace hf := if_f c11 hf
        refine lv_iconst (v := 0) hx hb dL_law_1199 (by decide) ?_
        cases hf
  · replace hf := if_f c9 hf
    refine lv_iconst (v := 0) hx hb dL_law_1182 (by decide) ?_
    cases hf
def fC_15 (nS nT : Nat) (a1 : Int32) (sc : xSC) (sr : xSR) (sl : xSL) : Option xR5 := oB (fL_hoursByPassing nS nT a1 sc sl) (fun q1 => oP (fX6_hoursByPassing a1 sr) (fun v3 s5 => oB (fX6_thrown s5) (fun v6 => (if v6 = q1.1 then (if q1.1 = 0 then (if (lg_cmp q1.2.2.1 ((v3).toInt64)) = 0 then some (nS, nT, q1.2.1, s5, q1.2.2) else none) else some (nS, nT, q1.2.1, s5, q1.2.2)) else none))))
set_option maxHeartbeats 4000000 in
set_option maxRecDepth 100000 in
theorem kC_15 {p : Program} {l : Launch} {e : Env} {s : State} {m : MethodId} {args : Array Value} {below : List Frame} {meth : Method} {c : Code} {H : Heap} {locs : List Loc} {cells slots : Nat} {Q : State → Prop} {ls : Array Slot} {G : xG} {sh : xSh} {sc : xSC} {sr : xSR} {sl : xSL} {b L xa ma oa da : Nat} {xs : Nat → Int32} {x5 a1 a2 a3 a4 a5 : Int32} (hl0 : l.stackTraces = false) (F : CallFix p m c code 9 s args xB RL) (hT : xTb G s s.heap) (hX : va_X b L xs s s.heap) (hbl : b < s.heap.size) (hbA : ¬ xA G b) (hi1 : vp_in (x5 + 1) L) (hi2 : vp_in (x5 + 2) L) (hi3 : vp_in (x5 + 3) L) (hi4 : vp_in (x5 + 4) L) (hi5 : vp_in (x5 + 5) L) (ha1 : xs (x5 + 1).toNatClampNeg = a1) (ha2 : xs (x5 + 2).toNatClampNeg = a2) (ha3 : xs (x5 + 3).toNatClampNeg = a3) (ha4 : xs (x5 + 4).toNatClampNeg = a4) (ha5 : xs (x5 + 5).toNatClampNeg = a5) (hcl : cells + 16 ≤ 803720) (hsl : slots + 128 ≤ 6592785) (hat : xat sh xa ma oa da) (hW : xWd G sh sc sr sl H) (hS : va_S (xA G) s.heap H locs) (hl : lv_has ls 9 [(5, .int x5), (0, .ref b), (1, .ref xa), (2, .ref ma), (3, .ref oa), (4, .ref da)]) (r : xR5) (hf : fC_15 sh.2.1 sh.2.2 a1 sc sr sl = some r) (hk : ∀ (sh2 : xSh) (H : Heap) (locs : List Loc) (ls : Array Slot), sh2.2.1 = r.1 → sh2.2.2 = r.2.1 → xat sh2 xa ma oa da → xWd G sh2 r.2.2.1 r.2.2.2.1 r.2.2.2.2 H → va_S (xA G) s.heap H locs → lv_has ls 9 [(5, .int x5), (0, .ref b), (1, .ref xa), (2, .ref ma), (3, .ref oa), (4, .ref da)] → W p l e room_1 s m args below meth c H locs (cells + 16) (slots + 128) Q (F0 m 2017 ls [])) : W p l e room_1 s m args below meth c H locs cells slots Q (F0 m 1204 ls []) := by
  have hx := F.1
  have hb := F.2.1
  obtain ⟨ex, em, eo, ed⟩ := hat
  unfold fC_15 at hf
  refine lv_aload_n hx hb dL_law_1204 rfl (lv_at hl 2 rfl) ?_
  refine lv_aload_n hx hb dL_law_1205 rfl (lv_at hl 1 rfl) ?_
  refine lv_iload hx hb dL_law_1206 (lv_at hl 0 rfl) ?_
  refine lv_iconst (v := 1) hx hb dL_law_1208 (by decide) ?_
  refine lv_iadd hx hb dL_law_1209 ?_
  refine va_sld hx hb hX hbl hbA hS hi1 dL_law_1210 ?_
  rw [ha1]
  refine lv_aload_n hx hb dL_law_1211 rfl (lv_at hl 4 rfl) ?_
  obtain ⟨q1, hc2, hf⟩ := oB_go hf
  refine W.eq (g2 := F0 m 1212 ls (.ref (sh.1 14 0) :: .int a1 :: .ref (sh.1 0 0) :: [])) (by rw [eo, ex]) ?_
  refine xcallSX (n := 3) F hT hW hS (kL_hoursByPassing l hl0 G sh sc sr sl a1 _ hc2) (xgSW (fun _ h => h) xw_678 xw_679 xw_0 xw_680) rfl xd_L_hoursByPassing.2 ⟨(Nat.le_of_ble_eq_true rfl), (Nat.le_of_ble_eq_true rfl)⟩ rfl hl.1 rfl (Nat.le_of_ble_eq_true rfl) dL_law_1212 ⟨by show cells + 0 + 2 ≤ 803720; omega, by show slots + 0 + 12 ≤ 6592785; omega⟩ (fun v9 H locs hres hW hS => ?_) (fun E9 H locs q9 ce9 hres => by cases hres)
  cases hres
  refine W.eq (g2 := F0 m 1215 ls (.int q1.1 :: [])) rfl ?_
  refine lv_istore (lv' := [(6, .int q1.1), (5, .int x5), (0, .ref b), (1, .ref xa), (2, .ref ma), (3, .ref oa), (4, .ref da)]) hx hb dL_law_1215 hl (by decide) rfl (fun ls hl => ?_)
  refine lv_aload_n hx hb dL_law_1217 rfl (lv_at hl 4 rfl) ?_
  refine lv_aload_n hx hb dL_law_1218 rfl (lv_at hl 2 rfl) ?_
  refine lv_iload hx hb dL_law_1219 (lv_at hl 1 rfl) ?_
  refine lv_iconst (v := 1) hx hb dL_law_1221 (by decide) ?_
  refine lv_iadd hx hb dL_law_1222 ?_
  refine va_sld hx hb hX hbl hbA hS hi1 dL_law_1223 ?_
  rw [ha1]
  obtain ⟨v3, s5, hc4, hf⟩ := oP_go hf
  refine W.eq (g2 := F0 m 1224 ls (.int a1 :: .ref (sh.1 12 0) :: [])) (by rw [em]) ?_
  refine xcallV (n := 1) F hT hW hS (xm_fix (by decide)) xce_12 rfl (kX6_hoursByPassing l hl0 G sh q1.2.1 sr q1.2.2 a1 _ hc4) (xgV xw_1018 xw_1019 xw_1020 xw_4 xw_1021) rfl xd_X6_hoursByPassing ⟨(Nat.le_of_ble_eq_true rfl), (Nat.le_of_ble_eq_true rfl)⟩ rfl hl.1 rfl (Nat.le_of_ble_eq_true rfl) dL_law_1224 ⟨by show cells + 2 + 0 ≤ 803720; omega, by show slots + 12 + 0 ≤ 6592785; omega⟩ (fun v9 H locs hres hW hS => ?_) (fun E9 H locs q9 ce9 hres => by cases hres)
  cases hres
  refine W.eq (g2 := F0 m 1227 ls (.int v3 :: [])) rfl ?_
  refine lv_istore (lv' := [(7, .int v3), (6, .int q1.1), (5, .int x5), (0, .ref b), (1, .ref xa), (2, .ref ma), (3, .ref oa), (4, .ref da)]) hx hb dL_law_1227 hl (by decide) rfl (fun ls hl => ?_)
  refine lv_aload_n hx hb dL_law_1229 rfl (lv_at hl 5 rfl) ?_
  obtain ⟨v6, hc7, hf⟩ := oB_go hf
  refine W.eq (g2 := F0 m 1230 ls (.ref (sh.1 12 0) :: [])) (by rw [em]) ?_
  refine xcallV (n := 0) F hT hW hS (xm_fix (by decide)) xce_12 rfl (kX6_thrown l hl0 G sh q1.2.1 s5 q1.2.2  _ hc7) (xgV xw_872 xw_873 xw_874 xw_4 xw_875) rfl xd_X6_thrown ⟨(Nat.le_of_ble_eq_true rfl), (Nat.le_of_ble_eq_true rfl)⟩ rfl hl.1 rfl (Nat.le_of_ble_eq_true rfl) dL_law_1230 ⟨by show cells + 2 + 0 ≤ 803720; omega, by show slots + 12 + 0 ≤ 6592785; omega⟩ (fun v9 H locs hres hW hS => ?_) (fun E9 H locs q9 ce9 hres => by cases hres)
  cases hres
  refine W.eq (g2 := F0 m 1233 ls (.int v6 :: [])) rfl ?_
  refine lv_iload hx hb dL_law_1233 (lv_at hl 1 rfl) ?_
  refine lv_icmp_eq (tgt := 1240) hx hb dL_law_1235 (by decide) (fun c9 => ?_) (fun c9 => ?_)
  · replace hf := if_t c9 hf
    refine lv_iload hx hb dL_law_1240 (lv_at hl 1 rfl) ?_
    refine lv_if_ne (tgt := 1257) hx hb dL_law_1242 (by decide) (fun c10 => ?_) (fun c10 => ?_)
    · replace hf := if_f c10 hf
      refine lv_goto (tgt := 2017) hx hb dL_law_1257 (by decide) ?_
      cases hf
      refine W.widen (k := cells + 16) (n := slots + 128) (by show cells + 2 ≤ _; omega) (by show slots + 12 ≤ _; omega) ?_
      exact hk sh _ _ ls rfl rfl ⟨ex, em, eo, ed⟩ hW hS (lv_sub hl [2, 3, 4, 5, 6, 7] rfl)
    · replace hf := if_t c10 hf
      refine lv_aload_n hx hb dL_law_1245 rfl (lv_at hl 6 rfl) ?_
      refine lv_iconst (v := 0) hx hb dL_law_1246 (by decide) ?_
      refine W.eq (g2 := F0 m 1247 ls (.int 0 :: .ref (sh.1 14 0) :: [])) (by rw [eo]) ?_
      refine xlald F hT hW dL_law_1247 ?_
      refine lv_iload hx hb dL_law_1248 (lv_at hl 0 rfl) ?_
      refine lv_i2l hx hb dL_law_1250 rfl ?_
      refine W.lcmp hx hb dL_law_1251 ?_
      refine lv_if_eq (tgt := 1257) hx hb dL_law_1252 (by decide) (fun c11 => ?_) (fun c11 => ?_)
      · replace hf := if_t c11 hf
        refine lv_goto (tgt := 2017) hx hb dL_law_1257 (by decide) ?_
        cases hf
        refine W.widen (k := cells + 16) (n := slots + 128) (by show cells + 2 ≤ _; omega) (by show slots + 12 ≤ _; omega) ?_
        exact hk sh _ _ ls rfl rfl ⟨ex, em, eo, ed⟩ hW hS (lv_sub hl [2, 3, 4, 5, 6, 7] rfl)
      · replace hf := if_f c11 hf
        refine lv_iconst (v := 0) hx hb dL_law_1255 (by decide) ?_
        cases hf
  · replace hf := if_f c9 hf
    refine lv_iconst (v := 0) hx hb dL_law_1238 (by decide) ?_
    cases hf
def fC_16 (nS nT : Nat) (sc : xSC) (sr : xSR) (sl : xSL) : Option xR5 := oB (fX5_moves nS nT sc) (fun v1 => oP (fX6_moves sr) (fun v4 s6 => (if v1 = v4 then some (nS, nT, sc, s6, sl) else none)))
set_option maxHeartbeats 4000000 in
set_option maxRecDepth 100000 in
theorem kC_16 {p : Program} {l : Launch} {e : Env} {s : State} {m : MethodId} {args : Array Value} {below : List Frame} {meth : Method} {c : Code} {H : Heap} {locs : List Loc} {cells slots : Nat} {Q : State → Prop} {ls : Array Slot} {G : xG} {sh : xSh} {sc : xSC} {sr : xSR} {sl : xSL} {b L xa ma oa da : Nat} {xs : Nat → Int32} {x5 a1 a2 a3 a4 a5 : Int32} (hl0 : l.stackTraces = false) (F : CallFix p m c code 9 s args xB RL) (hT : xTb G s s.heap) (hX : va_X b L xs s s.heap) (hbl : b < s.heap.size) (hbA : ¬ xA G b) (hi1 : vp_in (x5 + 1) L) (hi2 : vp_in (x5 + 2) L) (hi3 : vp_in (x5 + 3) L) (hi4 : vp_in (x5 + 4) L) (hi5 : vp_in (x5 + 5) L) (ha1 : xs (x5 + 1).toNatClampNeg = a1) (ha2 : xs (x5 + 2).toNatClampNeg = a2) (ha3 : xs (x5 + 3).toNatClampNeg = a3) (ha4 : xs (x5 + 4).toNatClampNeg = a4) (ha5 : xs (x5 + 5).toNatClampNeg = a5) (hcl : cells + 16 ≤ 803720) (hsl : slots + 128 ≤ 6592785) (hat : xat sh xa ma oa da) (hW : xWd G sh sc sr sl H) (hS : va_S (xA G) s.heap H locs) (hl : lv_has ls 9 [(5, .int x5), (0, .ref b), (1, .ref xa), (2, .ref ma), (3, .ref oa), (4, .ref da)]) (r : xR5) (hf : fC_16 sh.2.1 sh.2.2 sc sr sl = some r) (hk : ∀ (sh2 : xSh) (H : Heap) (locs : List Loc) (ls : Array Slot), sh2.2.1 = r.1 → sh2.2.2 = r.2.1 → xat sh2 xa ma oa da → xWd G sh2 r.2.2.1 r.2.2.2.1 r.2.2.2.2 H → va_S (xA G) s.heap H locs → lv_has ls 9 [(5, .int x5), (0, .ref b), (1, .ref xa), (2, .ref ma), (3, .ref oa), (4, .ref da)] → W p l e room_1 s m args below meth c H locs (cells + 16) (slots + 128) Q (F0 m 2017 ls [])) : W p l e room_1 s m args below meth c H locs cells slots Q (F0 m 1260 ls []) := by
  have hx := F.1
  have hb := F.2.1
  obtain ⟨ex, em, eo, ed⟩ := hat
  unfold fC_16 at hf
  refine lv_aload_n hx hb dL_law_1260 rfl (lv_at hl 2 rfl) ?_
  obtain ⟨v1, hc2, hf⟩ := oB_go hf
  refine W.eq (g2 := F0 m 1261 ls (.ref (sh.1 0 0) :: [])) (by rw [ex]) ?_
  refine xcallV (n := 0) F hT hW hS (xm_fix (by decide)) xce_0 rfl (kX5_moves l hl0 G sh sc sr sl  _ hc2) (xgV xw_100 xw_101 xw_102 xw_1 xw_103) rfl xd_X5_moves ⟨(Nat.le_of_ble_eq_true rfl), (Nat.le_of_ble_eq_true rfl)⟩ rfl hl.1 rfl (Nat.le_of_ble_eq_true rfl) dL_law_1261 ⟨by show cells + 0 + 0 ≤ 803720; omega, by show slots + 0 + 0 ≤ 6592785; omega⟩ (fun v9 H locs hres hW hS => ?_) (fun E9 H locs q9 ce9 hres => by cases hres)
  cases hres
  refine W.eq (g2 := F0 m 1264 ls (.int v1 :: [])) rfl ?_
  refine lv_aload_n hx hb dL_law_1264 rfl (lv_at hl 3 rfl) ?_
  obtain ⟨v4, s6, hc5, hf⟩ := oP_go hf
  refine W.eq (g2 := F0 m 1265 ls (.ref (sh.1 12 0) :: .int v1 :: [])) (by rw [em]) ?_
  refine xcallV (n := 0) F hT hW hS (xm_fix (by decide)) xce_12 rfl (kX6_moves l hl0 G sh sc sr sl  _ hc5) (xgV xw_1022 xw_1023 xw_1024 xw_4 xw_1025) rfl xd_X6_moves ⟨(Nat.le_of_ble_eq_true rfl), (Nat.le_of_ble_eq_true rfl)⟩ rfl hl.1 rfl (Nat.le_of_ble_eq_true rfl) dL_law_1265 ⟨by show cells + 0 + 0 ≤ 803720; omega, by show slots + 0 + 0 ≤ 6592785; omega⟩ (fun v9 H locs hres hW hS => ?_) (fun E9 H locs q9 ce9 hres => by cases hres)
  cases hres
  refine W.eq (g2 := F0 m 1268 ls (.int v4 :: .int v1 :: [])) rfl ?_
  refine lv_icmp_eq (tgt := 2017) hx hb dL_law_1268 (by decide) (fun c7 => ?_) (fun c7 => ?_)
  · replace hf := if_t c7 hf
    cases hf
    refine W.widen (k := cells + 16) (n := slots + 128) (by show cells + 0 ≤ _; omega) (by show slots + 0 ≤ _; omega) ?_
    exact hk sh _ _ ls rfl rfl ⟨ex, em, eo, ed⟩ hW hS (lv_sub hl [0, 1, 2, 3, 4, 5] rfl)
  · replace hf := if_f c7 hf
    refine lv_iconst (v := 0) hx hb dL_law_1271 (by decide) ?_
    cases hf
def fC_17 (nS nT : Nat) (sc : xSC) (sr : xSR) (sl : xSL) : Option xR5 := oB (fX5_shards nS nT sc) (fun v1 => oP (fX6_shards sr) (fun v4 s6 => (if v1 = v4 then some (nS, nT, sc, s6, sl) else none)))
set_option maxHeartbeats 4000000 in
set_option maxRecDepth 100000 in
theorem kC_17 {p : Program} {l : Launch} {e : Env} {s : State} {m : MethodId} {args : Array Value} {below : List Frame} {meth : Method} {c : Code} {H : Heap} {locs : List Loc} {cells slots : Nat} {Q : State → Prop} {ls : Array Slot} {G : xG} {sh : xSh} {sc : xSC} {sr : xSR} {sl : xSL} {b L xa ma oa da : Nat} {xs : Nat → Int32} {x5 a1 a2 a3 a4 a5 : Int32} (hl0 : l.stackTraces = false) (F : CallFix p m c code 9 s args xB RL) (hT : xTb G s s.heap) (hX : va_X b L xs s s.heap) (hbl : b < s.heap.size) (hbA : ¬ xA G b) (hi1 : vp_in (x5 + 1) L) (hi2 : vp_in (x5 + 2) L) (hi3 : vp_in (x5 + 3) L) (hi4 : vp_in (x5 + 4) L) (hi5 : vp_in (x5 + 5) L) (ha1 : xs (x5 + 1).toNatClampNeg = a1) (ha2 : xs (x5 + 2).toNatClampNeg = a2) (ha3 : xs (x5 + 3).toNatClampNeg = a3) (ha4 : xs (x5 + 4).toNatClampNeg = a4) (ha5 : xs (x5 + 5).toNatClampNeg = a5) (hcl : cells + 16 ≤ 803720) (hsl : slots + 128 ≤ 6592785) (hat : xat sh xa ma oa da) (hW : xWd G sh sc sr sl H) (hS : va_S (xA G) s.heap H locs) (hl : lv_has ls 9 [(5, .int x5), (0, .ref b), (1, .ref xa), (2, .ref ma), (3, .ref oa), (4, .ref da)]) (r : xR5) (hf : fC_17 sh.2.1 sh.2.2 sc sr sl = some r) (hk : ∀ (sh2 : xSh) (H : Heap) (locs : List Loc) (ls : Array Slot), sh2.2.1 = r.1 → sh2.2.2 = r.2.1 → xat sh2 xa ma oa da → xWd G sh2 r.2.2.1 r.2.2.2.1 r.2.2.2.2 H → va_S (xA G) s.heap H locs → lv_has ls 9 [(5, .int x5), (0, .ref b), (1, .ref xa), (2, .ref ma), (3, .ref oa), (4, .ref da)] → W p l e room_1 s m args below meth c H locs (cells + 16) (slots + 128) Q (F0 m 2017 ls [])) : W p l e room_1 s m args below meth c H locs cells slots Q (F0 m 1273 ls []) := by
  have hx := F.1
  have hb := F.2.1
  obtain ⟨ex, em, eo, ed⟩ := hat
  unfold fC_17 at hf
  refine lv_aload_n hx hb dL_law_1273 rfl (lv_at hl 2 rfl) ?_
  obtain ⟨v1, hc2, hf⟩ := oB_go hf
  refine W.eq (g2 := F0 m 1274 ls (.ref (sh.1 0 0) :: [])) (by rw [ex]) ?_
  refine xcallV (n := 0) F hT hW hS (xm_fix (by decide)) xce_0 rfl (kX5_shards l hl0 G sh sc sr sl  _ hc2) (xgV xw_108 xw_109 xw_110 xw_1 xw_111) rfl xd_X5_shards ⟨(Nat.le_of_ble_eq_true rfl), (Nat.le_of_ble_eq_true rfl)⟩ rfl hl.1 rfl (Nat.le_of_ble_eq_true rfl) dL_law_1274 ⟨by show cells + 0 + 0 ≤ 803720; omega, by show slots + 0 + 0 ≤ 6592785; omega⟩ (fun v9 H locs hres hW hS => ?_) (fun E9 H locs q9 ce9 hres => by cases hres)
  cases hres
  refine W.eq (g2 := F0 m 1277 ls (.int v1 :: [])) rfl ?_
  refine lv_aload_n hx hb dL_law_1277 rfl (lv_at hl 3 rfl) ?_
  obtain ⟨v4, s6, hc5, hf⟩ := oP_go hf
  refine W.eq (g2 := F0 m 1278 ls (.ref (sh.1 12 0) :: .int v1 :: [])) (by rw [em]) ?_
  refine xcallV (n := 0) F hT hW hS (xm_fix (by decide)) xce_12 rfl (kX6_shards l hl0 G sh sc sr sl  _ hc5) (xgV xw_1026 xw_1027 xw_1028 xw_4 xw_1029) rfl xd_X6_shards ⟨(Nat.le_of_ble_eq_true rfl), (Nat.le_of_ble_eq_true rfl)⟩ rfl hl.1 rfl (Nat.le_of_ble_eq_true rfl) dL_law_1278 ⟨by show cells + 0 + 0 ≤ 803720; omega, by show slots + 0 + 0 ≤ 6592785; omega⟩ (fun v9 H locs hres hW hS => ?_) (fun E9 H locs q9 ce9 hres => by cases hres)
  cases hres
  refine W.eq (g2 := F0 m 1281 ls (.int v4 :: .int v1 :: [])) rfl ?_
  refine lv_icmp_eq (tgt := 2017) hx hb dL_law_1281 (by decide) (fun c7 => ?_) (fun c7 => ?_)
  · replace hf := if_t c7 hf
    cases hf
    refine W.widen (k := cells + 16) (n := slots + 128) (by show cells + 0 ≤ _; omega) (by show slots + 0 ≤ _; omega) ?_
    exact hk sh _ _ ls rfl rfl ⟨ex, em, eo, ed⟩ hW hS (lv_sub hl [0, 1, 2, 3, 4, 5] rfl)
  · replace hf := if_f c7 hf
    refine lv_iconst (v := 0) hx hb dL_law_1284 (by decide) ?_
    cases hf
def fC_18 (nS nT : Nat) (sc : xSC) (sr : xSR) (sl : xSL) : Option xR5 := oB (fX5_tenants nS nT sc) (fun v1 => oP (fX6_tenants sr) (fun v4 s6 => (if v1 = v4 then some (nS, nT, sc, s6, sl) else none)))
set_option maxHeartbeats 4000000 in
set_option maxRecDepth 100000 in
theorem kC_18 {p : Program} {l : Launch} {e : Env} {s : State} {m : MethodId} {args : Array Value} {below : List Frame} {meth : Method} {c : Code} {H : Heap} {locs : List Loc} {cells slots : Nat} {Q : State → Prop} {ls : Array Slot} {G : xG} {sh : xSh} {sc : xSC} {sr : xSR} {sl : xSL} {b L xa ma oa da : Nat} {xs : Nat → Int32} {x5 a1 a2 a3 a4 a5 : Int32} (hl0 : l.stackTraces = false) (F : CallFix p m c code 9 s args xB RL) (hT : xTb G s s.heap) (hX : va_X b L xs s s.heap) (hbl : b < s.heap.size) (hbA : ¬ xA G b) (hi1 : vp_in (x5 + 1) L) (hi2 : vp_in (x5 + 2) L) (hi3 : vp_in (x5 + 3) L) (hi4 : vp_in (x5 + 4) L) (hi5 : vp_in (x5 + 5) L) (ha1 : xs (x5 + 1).toNatClampNeg = a1) (ha2 : xs (x5 + 2).toNatClampNeg = a2) (ha3 : xs (x5 + 3).toNatClampNeg = a3) (ha4 : xs (x5 + 4).toNatClampNeg = a4) (ha5 : xs (x5 + 5).toNatClampNeg = a5) (hcl : cells + 16 ≤ 803720) (hsl : slots + 128 ≤ 6592785) (hat : xat sh xa ma oa da) (hW : xWd G sh sc sr sl H) (hS : va_S (xA G) s.heap H locs) (hl : lv_has ls 9 [(5, .int x5), (0, .ref b), (1, .ref xa), (2, .ref ma), (3, .ref oa), (4, .ref da)]) (r : xR5) (hf : fC_18 sh.2.1 sh.2.2 sc sr sl = some r) (hk : ∀ (sh2 : xSh) (H : Heap) (locs : List Loc) (ls : Array Slot), sh2.2.1 = r.1 → sh2.2.2 = r.2.1 → xat sh2 xa ma oa da → xWd G sh2 r.2.2.1 r.2.2.2.1 r.2.2.2.2 H → va_S (xA G) s.heap H locs → lv_has ls 9 [(5, .int x5), (0, .ref b), (1, .ref xa), (2, .ref ma), (3, .ref oa), (4, .ref da)] → W p l e room_1 s m args below meth c H locs (cells + 16) (slots + 128) Q (F0 m 2017 ls [])) : W p l e room_1 s m args below meth c H locs cells slots Q (F0 m 1286 ls []) := by
  have hx := F.1
  have hb := F.2.1
  obtain ⟨ex, em, eo, ed⟩ := hat
  unfold fC_18 at hf
  refine lv_aload_n hx hb dL_law_1286 rfl (lv_at hl 2 rfl) ?_
  obtain ⟨v1, hc2, hf⟩ := oB_go hf
  refine W.eq (g2 := F0 m 1287 ls (.ref (sh.1 0 0) :: [])) (by rw [ex]) ?_
  refine xcallV (n := 0) F hT hW hS (xm_fix (by decide)) xce_0 rfl (kX5_tenants l hl0 G sh sc sr sl  _ hc2) (xgV xw_112 xw_113 xw_114 xw_1 xw_115) rfl xd_X5_tenants ⟨(Nat.le_of_ble_eq_true rfl), (Nat.le_of_ble_eq_true rfl)⟩ rfl hl.1 rfl (Nat.le_of_ble_eq_true rfl) dL_law_1287 ⟨by show cells + 0 + 0 ≤ 803720; omega, by show slots + 0 + 0 ≤ 6592785; omega⟩ (fun v9 H locs hres hW hS => ?_) (fun E9 H locs q9 ce9 hres => by cases hres)
  cases hres
  refine W.eq (g2 := F0 m 1290 ls (.int v1 :: [])) rfl ?_
  refine lv_aload_n hx hb dL_law_1290 rfl (lv_at hl 3 rfl) ?_
  obtain ⟨v4, s6, hc5, hf⟩ := oP_go hf
  refine W.eq (g2 := F0 m 1291 ls (.ref (sh.1 12 0) :: .int v1 :: [])) (by rw [em]) ?_
  refine xcallV (n := 0) F hT hW hS (xm_fix (by decide)) xce_12 rfl (kX6_tenants l hl0 G sh sc sr sl  _ hc5) (xgV xw_1030 xw_1031 xw_1032 xw_4 xw_1033) rfl xd_X6_tenants ⟨(Nat.le_of_ble_eq_true rfl), (Nat.le_of_ble_eq_true rfl)⟩ rfl hl.1 rfl (Nat.le_of_ble_eq_true rfl) dL_law_1291 ⟨by show cells + 0 + 0 ≤ 803720; omega, by show slots + 0 + 0 ≤ 6592785; omega⟩ (fun v9 H locs hres hW hS => ?_) (fun E9 H locs q9 ce9 hres => by cases hres)
  cases hres
  refine W.eq (g2 := F0 m 1294 ls (.int v4 :: .int v1 :: [])) rfl ?_
  refine lv_icmp_eq (tgt := 2017) hx hb dL_law_1294 (by decide) (fun c7 => ?_) (fun c7 => ?_)
  · replace hf := if_t c7 hf
    cases hf
    refine W.widen (k := cells + 16) (n := slots + 128) (by show cells + 0 ≤ _; omega) (by show slots + 0 ≤ _; omega) ?_
    exact hk sh _ _ ls rfl rfl ⟨ex, em, eo, ed⟩ hW hS (lv_sub hl [0, 1, 2, 3, 4, 5] rfl)
  · replace hf := if_f c7 hf
    refine lv_iconst (v := 0) hx hb dL_law_1297 (by decide) ?_
    cases hf
def fC_19 (nS nT : Nat) (a1 : Int32) (sc : xSC) (sr : xSR) (sl : xSL) : Option xR5 := oB (fL_servedBy nS nT a1 sc sl) (fun q1 => oP (fX6_servedBy a1 sr) (fun v3 s5 => oB (fX6_thrown s5) (fun v6 => (if v6 = q1.1 then (if q1.1 = 0 then (if (lg_cmp q1.2.2.1 ((v3).toInt64)) = 0 then some (nS, nT, q1.2.1, s5, q1.2.2) else none) else some (nS, nT, q1.2.1, s5, q1.2.2)) else none))))
set_option maxHeartbeats 4000000 in
set_option maxRecDepth 100000 in
theorem kC_19 {p : Program} {l : Launch} {e : Env} {s : State} {m : MethodId} {args : Array Value} {below : List Frame} {meth : Method} {c : Code} {H : Heap} {locs : List Loc} {cells slots : Nat} {Q : State → Prop} {ls : Array Slot} {G : xG} {sh : xSh} {sc : xSC} {sr : xSR} {sl : xSL} {b L xa ma oa da : Nat} {xs : Nat → Int32} {x5 a1 a2 a3 a4 a5 : Int32} (hl0 : l.stackTraces = false) (F : CallFix p m c code 9 s args xB RL) (hT : xTb G s s.heap) (hX : va_X b L xs s s.heap) (hbl : b < s.heap.size) (hbA : ¬ xA G b) (hi1 : vp_in (x5 + 1) L) (hi2 : vp_in (x5 + 2) L) (hi3 : vp_in (x5 + 3) L) (hi4 : vp_in (x5 + 4) L) (hi5 : vp_in (x5 + 5) L) (ha1 : xs (x5 + 1).toNatClampNeg = a1) (ha2 : xs (x5 + 2).toNatClampNeg = a2) (ha3 : xs (x5 + 3).toNatClampNeg = a3) (ha4 : xs (x5 + 4).toNatClampNeg = a4) (ha5 : xs (x5 + 5).toNatClampNeg = a5) (hcl : cells + 16 ≤ 803720) (hsl : slots + 128 ≤ 6592785) (hat : xat sh xa ma oa da) (hW : xWd G sh sc sr sl H) (hS : va_S (xA G) s.heap H locs) (hl : lv_has ls 9 [(5, .int x5), (0, .ref b), (1, .ref xa), (2, .ref ma), (3, .ref oa), (4, .ref da)]) (r : xR5) (hf : fC_19 sh.2.1 sh.2.2 a1 sc sr sl = some r) (hk : ∀ (sh2 : xSh) (H : Heap) (locs : List Loc) (ls : Array Slot), sh2.2.1 = r.1 → sh2.2.2 = r.2.1 → xat sh2 xa ma oa da → xWd G sh2 r.2.2.1 r.2.2.2.1 r.2.2.2.2 H → va_S (xA G) s.heap H locs → lv_has ls 9 [(5, .int x5), (0, .ref b), (1, .ref xa), (2, .ref ma), (3, .ref oa), (4, .ref da)] → W p l e room_1 s m args below meth c H locs (cells + 16) (slots + 128) Q (F0 m 2017 ls [])) : W p l e room_1 s m args below meth c H locs cells slots Q (F0 m 1299 ls []) := by
  have hx := F.1
  have hb := F.2.1
  obtain ⟨ex, em, eo, ed⟩ := hat
  unfold fC_19 at hf
  refine lv_aload_n hx hb dL_law_1299 rfl (lv_at hl 2 rfl) ?_
  refine lv_aload_n hx hb dL_law_1300 rfl (lv_at hl 1 rfl) ?_
  refine lv_iload hx hb dL_law_1301 (lv_at hl 0 rfl) ?_
  refine lv_iconst (v := 1) hx hb dL_law_1303 (by decide) ?_
  refine lv_iadd hx hb dL_law_1304 ?_
  refine va_sld hx hb hX hbl hbA hS hi1 dL_law_1305 ?_
  rw [ha1]
  refine lv_aload_n hx hb dL_law_1306 rfl (lv_at hl 4 rfl) ?_
  obtain ⟨q1, hc2, hf⟩ := oB_go hf
  refine W.eq (g2 := F0 m 1307 ls (.ref (sh.1 14 0) :: .int a1 :: .ref (sh.1 0 0) :: [])) (by rw [eo, ex]) ?_
  refine xcallSX (n := 3) F hT hW hS (kL_servedBy l hl0 G sh sc sr sl a1 _ hc2) (xgSW (fun _ h => h) xw_689 xw_690 xw_0 xw_691) rfl xd_L_servedBy.2 ⟨(Nat.le_of_ble_eq_true rfl), (Nat.le_of_ble_eq_true rfl)⟩ rfl hl.1 rfl (Nat.le_of_ble_eq_true rfl) dL_law_1307 ⟨by show cells + 0 + 1 ≤ 803720; omega, by show slots + 0 + 6 ≤ 6592785; omega⟩ (fun v9 H locs hres hW hS => ?_) (fun E9 H locs q9 ce9 hres => by cases hres)
  cases hres
  refine W.eq (g2 := F0 m 1310 ls (.int q1.1 :: [])) rfl ?_
  refine lv_istore (lv' := [(6, .int q1.1), (5, .int x5), (0, .ref b), (1, .ref xa), (2, .ref ma), (3, .ref oa), (4, .ref da)]) hx hb dL_law_1310 hl (by decide) rfl (fun ls hl => ?_)
  refine lv_aload_n hx hb dL_law_1312 rfl (lv_at hl 4 rfl) ?_
  refine lv_aload_n hx hb dL_law_1313 rfl (lv_at hl 2 rfl) ?_
  refine lv_iload hx hb dL_law_1314 (lv_at hl 1 rfl) ?_
  refine lv_iconst (v := 1) hx hb dL_law_1316 (by decide) ?_
  refine lv_iadd hx hb dL_law_1317 ?_
  refine va_sld hx hb hX hbl hbA hS hi1 dL_law_1318 ?_
  rw [ha1]
  obtain ⟨v3, s5, hc4, hf⟩ := oP_go hf
  refine W.eq (g2 := F0 m 1319 ls (.int a1 :: .ref (sh.1 12 0) :: [])) (by rw [em]) ?_
  refine xcallV (n := 1) F hT hW hS (xm_fix (by decide)) xce_12 rfl (kX6_servedBy l hl0 G sh q1.2.1 sr q1.2.2 a1 _ hc4) (xgV xw_1034 xw_1035 xw_1036 xw_4 xw_1037) rfl xd_X6_servedBy ⟨(Nat.le_of_ble_eq_true rfl), (Nat.le_of_ble_eq_true rfl)⟩ rfl hl.1 rfl (Nat.le_of_ble_eq_true rfl) dL_law_1319 ⟨by show cells + 1 + 0 ≤ 803720; omega, by show slots + 6 + 0 ≤ 6592785; omega⟩ (fun v9 H locs hres hW hS => ?_) (fun E9 H locs q9 ce9 hres => by cases hres)
  cases hres
  refine W.eq (g2 := F0 m 1322 ls (.int v3 :: [])) rfl ?_
  refine lv_istore (lv' := [(7, .int v3), (6, .int q1.1), (5, .int x5), (0, .ref b), (1, .ref xa), (2, .ref ma), (3, .ref oa), (4, .ref da)]) hx hb dL_law_1322 hl (by decide) rfl (fun ls hl => ?_)
  refine lv_aload_n hx hb dL_law_1324 rfl (lv_at hl 5 rfl) ?_
  obtain ⟨v6, hc7, hf⟩ := oB_go hf
  refine W.eq (g2 := F0 m 1325 ls (.ref (sh.1 12 0) :: [])) (by rw [em]) ?_
  refine xcallV (n := 0) F hT hW hS (xm_fix (by decide)) xce_12 rfl (kX6_thrown l hl0 G sh q1.2.1 s5 q1.2.2  _ hc7) (xgV xw_872 xw_873 xw_874 xw_4 xw_875) rfl xd_X6_thrown ⟨(Nat.le_of_ble_eq_true rfl), (Nat.le_of_ble_eq_true rfl)⟩ rfl hl.1 rfl (Nat.le_of_ble_eq_true rfl) dL_law_1325 ⟨by show cells + 1 + 0 ≤ 803720; omega, by show slots + 6 + 0 ≤ 6592785; omega⟩ (fun v9 H locs hres hW hS => ?_) (fun E9 H locs q9 ce9 hres => by cases hres)
  cases hres
  refine W.eq (g2 := F0 m 1328 ls (.int v6 :: [])) rfl ?_
  refine lv_iload hx hb dL_law_1328 (lv_at hl 1 rfl) ?_
  refine lv_icmp_eq (tgt := 1335) hx hb dL_law_1330 (by decide) (fun c9 => ?_) (fun c9 => ?_)
  · replace hf := if_t c9 hf
    refine lv_iload hx hb dL_law_1335 (lv_at hl 1 rfl) ?_
    refine lv_if_ne (tgt := 1352) hx hb dL_law_1337 (by decide) (fun c10 => ?_) (fun c10 => ?_)
    · replace hf := if_f c10 hf
      refine lv_goto (tgt := 2017) hx hb dL_law_1352 (by decide) ?_
      cases hf
      refine W.widen (k := cells + 16) (n := slots + 128) (by show cells + 1 ≤ _; omega) (by show slots + 6 ≤ _; omega) ?_
      exact hk sh _ _ ls rfl rfl ⟨ex, em, eo, ed⟩ hW hS (lv_sub hl [2, 3, 4, 5, 6, 7] rfl)
    · replace hf := if_t c10 hf
      refine lv_aload_n hx hb dL_law_1340 rfl (lv_at hl 6 rfl) ?_
      refine lv_iconst (v := 0) hx hb dL_law_1341 (by decide) ?_
      refine W.eq (g2 := F0 m 1342 ls (.int 0 :: .ref (sh.1 14 0) :: [])) (by rw [eo]) ?_
      refine xlald F hT hW dL_law_1342 ?_
      refine lv_iload hx hb dL_law_1343 (lv_at hl 0 rfl) ?_
      refine lv_i2l hx hb dL_law_1345 rfl ?_
      refine W.lcmp hx hb dL_law_1346 ?_
      refine lv_if_eq (tgt := 1352) hx hb dL_law_1347 (by decide) (fun c11 => ?_) (fun c11 => ?_)
      · replace hf := if_t c11 hf
        refine lv_goto (tgt := 2017) hx hb dL_law_1352 (by decide) ?_
        cases hf
        refine W.widen (k := cells + 16) (n := slots + 128) (by show cells + 1 ≤ _; omega) (by show slots + 6 ≤ _; omega) ?_
        exact hk sh _ _ ls rfl rfl ⟨ex, em, eo, ed⟩ hW hS (lv_sub hl [2, 3, 4, 5, 6, 7] rfl)
      · replace hf := if_f c11 hf
        refine lv_iconst (v := 0) hx hb dL_law_1350 (by decide) ?_
        cases hf
  · replace hf := if_f c9 hf
    refine lv_iconst (v := 0) hx hb dL_law_1333 (by decide) ?_
    cases hf
def fC_20 (nS nT : Nat) (a1 : Int32) (a2 : Int32) (sc : xSC) (sr : xSR) (sl : xSL) : Option xR5 := oB (fL_sizeOf nS nT a1 a2 sc sl) (fun q1 => oP (fX6_sizeOf a1 a2 sr) (fun v3 s5 => oB (fX6_thrown s5) (fun v6 => (if v6 = q1.1 then (if q1.1 = 0 then (if (lg_cmp q1.2.2.1 ((v3).toInt64)) = 0 then some (nS, nT, q1.2.1, s5, q1.2.2) else none) else some (nS, nT, q1.2.1, s5, q1.2.2)) else none))))
set_option maxHeartbeats 4000000 in
set_option maxRecDepth 100000 in
theorem kC_20 {p : Program} {l : Launch} {e : Env} {s : State} {m : MethodId} {args : Array Value} {below : List Frame} {meth : Method} {c : Code} {H : Heap} {locs : List Loc} {cells slots : Nat} {Q : State → Prop} {ls : Array Slot} {G : xG} {sh : xSh} {sc : xSC} {sr : xSR} {sl : xSL} {b L xa ma oa da : Nat} {xs : Nat → Int32} {x5 a1 a2 a3 a4 a5 : Int32} (hl0 : l.stackTraces = false) (F : CallFix p m c code 9 s args xB RL) (hT : xTb G s s.heap) (hX : va_X b L xs s s.heap) (hbl : b < s.heap.size) (hbA : ¬ xA G b) (hi1 : vp_in (x5 + 1) L) (hi2 : vp_in (x5 + 2) L) (hi3 : vp_in (x5 + 3) L) (hi4 : vp_in (x5 + 4) L) (hi5 : vp_in (x5 + 5) L) (ha1 : xs (x5 + 1).toNatClampNeg = a1) (ha2 : xs (x5 + 2).toNatClampNeg = a2) (ha3 : xs (x5 + 3).toNatClampNeg = a3) (ha4 : xs (x5 + 4).toNatClampNeg = a4) (ha5 : xs (x5 + 5).toNatClampNeg = a5) (hcl : cells + 16 ≤ 803720) (hsl : slots + 128 ≤ 6592785) (hat : xat sh xa ma oa da) (hW : xWd G sh sc sr sl H) (hS : va_S (xA G) s.heap H locs) (hl : lv_has ls 9 [(5, .int x5), (0, .ref b), (1, .ref xa), (2, .ref ma), (3, .ref oa), (4, .ref da)]) (r : xR5) (hf : fC_20 sh.2.1 sh.2.2 a1 a2 sc sr sl = some r) (hk : ∀ (sh2 : xSh) (H : Heap) (locs : List Loc) (ls : Array Slot), sh2.2.1 = r.1 → sh2.2.2 = r.2.1 → xat sh2 xa ma oa da → xWd G sh2 r.2.2.1 r.2.2.2.1 r.2.2.2.2 H → va_S (xA G) s.heap H locs → lv_has ls 9 [(5, .int x5), (0, .ref b), (1, .ref xa), (2, .ref ma), (3, .ref oa), (4, .ref da)] → W p l e room_1 s m args below meth c H locs (cells + 16) (slots + 128) Q (F0 m 2017 ls [])) : W p l e room_1 s m args below meth c H locs cells slots Q (F0 m 1355 ls []) := by
  have hx := F.1
  have hb := F.2.1
  obtain ⟨ex, em, eo, ed⟩ := hat
  unfold fC_20 at hf
  refine lv_aload_n hx hb dL_law_1355 rfl (lv_at hl 2 rfl) ?_
  refine lv_aload_n hx hb dL_law_1356 rfl (lv_at hl 1 rfl) ?_
  refine lv_iload hx hb dL_law_1357 (lv_at hl 0 rfl) ?_
  refine lv_iconst (v := 1) hx hb dL_law_1359 (by decide) ?_
  refine lv_iadd hx hb dL_law_1360 ?_
  refine va_sld hx hb hX hbl hbA hS hi1 dL_law_1361 ?_
  rw [ha1]
  refine lv_aload_n hx hb dL_law_1362 rfl (lv_at hl 1 rfl) ?_
  refine lv_iload hx hb dL_law_1363 (lv_at hl 0 rfl) ?_
  refine lv_iconst (v := 2) hx hb dL_law_1365 (by decide) ?_
  refine lv_iadd hx hb dL_law_1366 ?_
  refine va_sld hx hb hX hbl hbA hS hi2 dL_law_1367 ?_
  rw [ha2]
  refine lv_aload_n hx hb dL_law_1368 rfl (lv_at hl 4 rfl) ?_
  obtain ⟨q1, hc2, hf⟩ := oB_go hf
  refine W.eq (g2 := F0 m 1369 ls (.ref (sh.1 14 0) :: .int a2 :: .int a1 :: .ref (sh.1 0 0) :: [])) (by rw [eo, ex]) ?_
  refine xcallSX (n := 4) F hT hW hS (kL_sizeOf l hl0 G sh sc sr sl a1 a2 _ hc2) (xgSW (fun _ h => h) xw_696 xw_697 xw_0 xw_698) rfl xd_L_sizeOf.2 ⟨(Nat.le_of_ble_eq_true rfl), (Nat.le_of_ble_eq_true rfl)⟩ rfl hl.1 rfl (Nat.le_of_ble_eq_true rfl) dL_law_1369 ⟨by show cells + 0 + 2 ≤ 803720; omega, by show slots + 0 + 12 ≤ 6592785; omega⟩ (fun v9 H locs hres hW hS => ?_) (fun E9 H locs q9 ce9 hres => by cases hres)
  cases hres
  refine W.eq (g2 := F0 m 1372 ls (.int q1.1 :: [])) rfl ?_
  refine lv_istore (lv' := [(6, .int q1.1), (5, .int x5), (0, .ref b), (1, .ref xa), (2, .ref ma), (3, .ref oa), (4, .ref da)]) hx hb dL_law_1372 hl (by decide) rfl (fun ls hl => ?_)
  refine lv_aload_n hx hb dL_law_1374 rfl (lv_at hl 4 rfl) ?_
  refine lv_aload_n hx hb dL_law_1375 rfl (lv_at hl 2 rfl) ?_
  refine lv_iload hx hb dL_law_1376 (lv_at hl 1 rfl) ?_
  refine lv_iconst (v := 1) hx hb dL_law_1378 (by decide) ?_
  refine lv_iadd hx hb dL_law_1379 ?_
  refine va_sld hx hb hX hbl hbA hS hi1 dL_law_1380 ?_
  rw [ha1]
  refine lv_aload_n hx hb dL_law_1381 rfl (lv_at hl 2 rfl) ?_
  refine lv_iload hx hb dL_law_1382 (lv_at hl 1 rfl) ?_
  refine lv_iconst (v := 2) hx hb dL_law_1384 (by decide) ?_
  refine lv_iadd hx hb dL_law_1385 ?_
  refine va_sld hx hb hX hbl hbA hS hi2 dL_law_1386 ?_
  rw [ha2]
  obtain ⟨v3, s5, hc4, hf⟩ := oP_go hf
  refine W.eq (g2 := F0 m 1387 ls (.int a2 :: .int a1 :: .ref (sh.1 12 0) :: [])) (by rw [em]) ?_
  refine xcallV (n := 2) F hT hW hS (xm_fix (by decide)) xce_12 rfl (kX6_sizeOf l hl0 G sh q1.2.1 sr q1.2.2 a1 a2 _ hc4) (xgV xw_1038 xw_1039 xw_1040 xw_4 xw_1041) rfl xd_X6_sizeOf ⟨(Nat.le_of_ble_eq_true rfl), (Nat.le_of_ble_eq_true rfl)⟩ rfl hl.1 rfl (Nat.le_of_ble_eq_true rfl) dL_law_1387 ⟨by show cells + 2 + 0 ≤ 803720; omega, by show slots + 12 + 0 ≤ 6592785; omega⟩ (fun v9 H locs hres hW hS => ?_) (fun E9 H locs q9 ce9 hres => by cases hres)
  cases hres
  refine W.eq (g2 := F0 m 1390 ls (.int v3 :: [])) rfl ?_
  refine lv_istore (lv' := [(7, .int v3), (6, .int q1.1), (5, .int x5), (0, .ref b), (1, .ref xa), (2, .ref ma), (3, .ref oa), (4, .ref da)]) hx hb dL_law_1390 hl (by decide) rfl (fun ls hl => ?_)
  refine lv_aload_n hx hb dL_law_1392 rfl (lv_at hl 5 rfl) ?_
  obtain ⟨v6, hc7, hf⟩ := oB_go hf
  refine W.eq (g2 := F0 m 1393 ls (.ref (sh.1 12 0) :: [])) (by rw [em]) ?_
  refine xcallV (n := 0) F hT hW hS (xm_fix (by decide)) xce_12 rfl (kX6_thrown l hl0 G sh q1.2.1 s5 q1.2.2  _ hc7) (xgV xw_872 xw_873 xw_874 xw_4 xw_875) rfl xd_X6_thrown ⟨(Nat.le_of_ble_eq_true rfl), (Nat.le_of_ble_eq_true rfl)⟩ rfl hl.1 rfl (Nat.le_of_ble_eq_true rfl) dL_law_1393 ⟨by show cells + 2 + 0 ≤ 803720; omega, by show slots + 12 + 0 ≤ 6592785; omega⟩ (fun v9 H locs hres hW hS => ?_) (fun E9 H locs q9 ce9 hres => by cases hres)
  cases hres
  refine W.eq (g2 := F0 m 1396 ls (.int v6 :: [])) rfl ?_
  refine lv_iload hx hb dL_law_1396 (lv_at hl 1 rfl) ?_
  refine lv_icmp_eq (tgt := 1403) hx hb dL_law_1398 (by decide) (fun c9 => ?_) (fun c9 => ?_)
  · replace hf := if_t c9 hf
    refine lv_iload hx hb dL_law_1403 (lv_at hl 1 rfl) ?_
    refine lv_if_ne (tgt := 1420) hx hb dL_law_1405 (by decide) (fun c10 => ?_) (fun c10 => ?_)
    · replace hf := if_f c10 hf
      refine lv_goto (tgt := 2017) hx hb dL_law_1420 (by decide) ?_
      cases hf
      refine W.widen (k := cells + 16) (n := slots + 128) (by show cells + 2 ≤ _; omega) (by show slots + 12 ≤ _; omega) ?_
      exact hk sh _ _ ls rfl rfl ⟨ex, em, eo, ed⟩ hW hS (lv_sub hl [2, 3, 4, 5, 6, 7] rfl)
    · replace hf := if_t c10 hf
      refine lv_aload_n hx hb dL_law_1408 rfl (lv_at hl 6 rfl) ?_
      refine lv_iconst (v := 0) hx hb dL_law_1409 (by decide) ?_
      refine W.eq (g2 := F0 m 1410 ls (.int 0 :: .ref (sh.1 14 0) :: [])) (by rw [eo]) ?_
      refine xlald F hT hW dL_law_1410 ?_
      refine lv_iload hx hb dL_law_1411 (lv_at hl 0 rfl) ?_
      refine lv_i2l hx hb dL_law_1413 rfl ?_
      refine W.lcmp hx hb dL_law_1414 ?_
      refine lv_if_eq (tgt := 1420) hx hb dL_law_1415 (by decide) (fun c11 => ?_) (fun c11 => ?_)
      · replace hf := if_t c11 hf
        refine lv_goto (tgt := 2017) hx hb dL_law_1420 (by decide) ?_
        cases hf
        refine W.widen (k := cells + 16) (n := slots + 128) (by show cells + 2 ≤ _; omega) (by show slots + 12 ≤ _; omega) ?_
        exact hk sh _ _ ls rfl rfl ⟨ex, em, eo, ed⟩ hW hS (lv_sub hl [2, 3, 4, 5, 6, 7] rfl)
      · replace hf := if_f c11 hf
        refine lv_iconst (v := 0) hx hb dL_law_1418 (by decide) ?_
        cases hf
  · replace hf := if_f c9 hf
    refine lv_iconst (v := 0) hx hb dL_law_1401 (by decide) ?_
    cases hf
def fC_21 (nS nT : Nat) (a1 : Int32) (a2 : Int32) (sc : xSC) (sr : xSR) (sl : xSL) : Option xR5 := oB (fL_used nS nT a1 a2 sc sl) (fun q1 => oP (fX6_used a1 a2 sr) (fun v3 s5 => oB (fX6_thrown s5) (fun v6 => (if v6 = q1.1 then (if q1.1 = 0 then (if (lg_cmp q1.2.2.1 ((v3).toInt64)) = 0 then some (nS, nT, q1.2.1, s5, q1.2.2) else none) else some (nS, nT, q1.2.1, s5, q1.2.2)) else none))))
set_option maxHeartbeats 4000000 in
set_option maxRecDepth 100000 in
theorem kC_21 {p : Program} {l : Launch} {e : Env} {s : State} {m : MethodId} {args : Array Value} {below : List Frame} {meth : Method} {c : Code} {H : Heap} {locs : List Loc} {cells slots : Nat} {Q : State → Prop} {ls : Array Slot} {G : xG} {sh : xSh} {sc : xSC} {sr : xSR} {sl : xSL} {b L xa ma oa da : Nat} {xs : Nat → Int32} {x5 a1 a2 a3 a4 a5 : Int32} (hl0 : l.stackTraces = false) (F : CallFix p m c code 9 s args xB RL) (hT : xTb G s s.heap) (hX : va_X b L xs s s.heap) (hbl : b < s.heap.size) (hbA : ¬ xA G b) (hi1 : vp_in (x5 + 1) L) (hi2 : vp_in (x5 + 2) L) (hi3 : vp_in (x5 + 3) L) (hi4 : vp_in (x5 + 4) L) (hi5 : vp_in (x5 + 5) L) (ha1 : xs (x5 + 1).toNatClampNeg = a1) (ha2 : xs (x5 + 2).toNatClampNeg = a2) (ha3 : xs (x5 + 3).toNatClampNeg = a3) (ha4 : xs (x5 + 4).toNatClampNeg = a4) (ha5 : xs (x5 + 5).toNatClampNeg = a5) (hcl : cells + 16 ≤ 803720) (hsl : slots + 128 ≤ 6592785) (hat : xat sh xa ma oa da) (hW : xWd G sh sc sr sl H) (hS : va_S (xA G) s.heap H locs) (hl : lv_has ls 9 [(5, .int x5), (0, .ref b), (1, .ref xa), (2, .ref ma), (3, .ref oa), (4, .ref da)]) (r : xR5) (hf : fC_21 sh.2.1 sh.2.2 a1 a2 sc sr sl = some r) (hk : ∀ (sh2 : xSh) (H : Heap) (locs : List Loc) (ls : Array Slot), sh2.2.1 = r.1 → sh2.2.2 = r.2.1 → xat sh2 xa ma oa da → xWd G sh2 r.2.2.1 r.2.2.2.1 r.2.2.2.2 H → va_S (xA G) s.heap H locs → lv_has ls 9 [(5, .int x5), (0, .ref b), (1, .ref xa), (2, .ref ma), (3, .ref oa), (4, .ref da)] → W p l e room_1 s m args below meth c H locs (cells + 16) (slots + 128) Q (F0 m 2017 ls [])) : W p l e room_1 s m args below meth c H locs cells slots Q (F0 m 1423 ls []) := by
  have hx := F.1
  have hb := F.2.1
  obtain ⟨ex, em, eo, ed⟩ := hat
  unfold fC_21 at hf
  refine lv_aload_n hx hb dL_law_1423 rfl (lv_at hl 2 rfl) ?_
  refine lv_aload_n hx hb dL_law_1424 rfl (lv_at hl 1 rfl) ?_
  refine lv_iload hx hb dL_law_1425 (lv_at hl 0 rfl) ?_
  refine lv_iconst (v := 1) hx hb dL_law_1427 (by decide) ?_
  refine lv_iadd hx hb dL_law_1428 ?_
  refine va_sld hx hb hX hbl hbA hS hi1 dL_law_1429 ?_
  rw [ha1]
  refine lv_aload_n hx hb dL_law_1430 rfl (lv_at hl 1 rfl) ?_
  refine lv_iload hx hb dL_law_1431 (lv_at hl 0 rfl) ?_
  refine lv_iconst (v := 2) hx hb dL_law_1433 (by decide) ?_
  refine lv_iadd hx hb dL_law_1434 ?_
  refine va_sld hx hb hX hbl hbA hS hi2 dL_law_1435 ?_
  rw [ha2]
  refine lv_aload_n hx hb dL_law_1436 rfl (lv_at hl 4 rfl) ?_
  obtain ⟨q1, hc2, hf⟩ := oB_go hf
  refine W.eq (g2 := F0 m 1437 ls (.ref (sh.1 14 0) :: .int a2 :: .int a1 :: .ref (sh.1 0 0) :: [])) (by rw [eo, ex]) ?_
  refine xcallSX (n := 4) F hT hW hS (kL_used l hl0 G sh sc sr sl a1 a2 _ hc2) (xgSW (fun _ h => h) xw_703 xw_704 xw_0 xw_705) rfl xd_L_used.2 ⟨(Nat.le_of_ble_eq_true rfl), (Nat.le_of_ble_eq_true rfl)⟩ rfl hl.1 rfl (Nat.le_of_ble_eq_true rfl) dL_law_1437 ⟨by show cells + 0 + 2 ≤ 803720; omega, by show slots + 0 + 12 ≤ 6592785; omega⟩ (fun v9 H locs hres hW hS => ?_) (fun E9 H locs q9 ce9 hres => by cases hres)
  cases hres
  refine W.eq (g2 := F0 m 1440 ls (.int q1.1 :: [])) rfl ?_
  refine lv_istore (lv' := [(6, .int q1.1), (5, .int x5), (0, .ref b), (1, .ref xa), (2, .ref ma), (3, .ref oa), (4, .ref da)]) hx hb dL_law_1440 hl (by decide) rfl (fun ls hl => ?_)
  refine lv_aload_n hx hb dL_law_1442 rfl (lv_at hl 4 rfl) ?_
  refine lv_aload_n hx hb dL_law_1443 rfl (lv_at hl 2 rfl) ?_
  refine lv_iload hx hb dL_law_1444 (lv_at hl 1 rfl) ?_
  refine lv_iconst (v := 1) hx hb dL_law_1446 (by decide) ?_
  refine lv_iadd hx hb dL_law_1447 ?_
  refine va_sld hx hb hX hbl hbA hS hi1 dL_law_1448 ?_
  rw [ha1]
  refine lv_aload_n hx hb dL_law_1449 rfl (lv_at hl 2 rfl) ?_
  refine lv_iload hx hb dL_law_1450 (lv_at hl 1 rfl) ?_
  refine lv_iconst (v := 2) hx hb dL_law_1452 (by decide) ?_
  refine lv_iadd hx hb dL_law_1453 ?_
  refine va_sld hx hb hX hbl hbA hS hi2 dL_law_1454 ?_
  rw [ha2]
  obtain ⟨v3, s5, hc4, hf⟩ := oP_go hf
  refine W.eq (g2 := F0 m 1455 ls (.int a2 :: .int a1 :: .ref (sh.1 12 0) :: [])) (by rw [em]) ?_
  refine xcallV (n := 2) F hT hW hS (xm_fix (by decide)) xce_12 rfl (kX6_used l hl0 G sh q1.2.1 sr q1.2.2 a1 a2 _ hc4) (xgV xw_1042 xw_1043 xw_1044 xw_4 xw_1045) rfl xd_X6_used ⟨(Nat.le_of_ble_eq_true rfl), (Nat.le_of_ble_eq_true rfl)⟩ rfl hl.1 rfl (Nat.le_of_ble_eq_true rfl) dL_law_1455 ⟨by show cells + 2 + 0 ≤ 803720; omega, by show slots + 12 + 0 ≤ 6592785; omega⟩ (fun v9 H locs hres hW hS => ?_) (fun E9 H locs q9 ce9 hres => by cases hres)
  cases hres
  refine W.eq (g2 := F0 m 1458 ls (.int v3 :: [])) rfl ?_
  refine lv_istore (lv' := [(7, .int v3), (6, .int q1.1), (5, .int x5), (0, .ref b), (1, .ref xa), (2, .ref ma), (3, .ref oa), (4, .ref da)]) hx hb dL_law_1458 hl (by decide) rfl (fun ls hl => ?_)
  refine lv_aload_n hx hb dL_law_1460 rfl (lv_at hl 5 rfl) ?_
  obtain ⟨v6, hc7, hf⟩ := oB_go hf
  refine W.eq (g2 := F0 m 1461 ls (.ref (sh.1 12 0) :: [])) (by rw [em]) ?_
  refine xcallV (n := 0) F hT hW hS (xm_fix (by decide)) xce_12 rfl (kX6_thrown l hl0 G sh q1.2.1 s5 q1.2.2  _ hc7) (xgV xw_872 xw_873 xw_874 xw_4 xw_875) rfl xd_X6_thrown ⟨(Nat.le_of_ble_eq_true rfl), (Nat.le_of_ble_eq_true rfl)⟩ rfl hl.1 rfl (Nat.le_of_ble_eq_true rfl) dL_law_1461 ⟨by show cells + 2 + 0 ≤ 803720; omega, by show slots + 12 + 0 ≤ 6592785; omega⟩ (fun v9 H locs hres hW hS => ?_) (fun E9 H locs q9 ce9 hres => by cases hres)
  cases hres
  refine W.eq (g2 := F0 m 1464 ls (.int v6 :: [])) rfl ?_
  refine lv_iload hx hb dL_law_1464 (lv_at hl 1 rfl) ?_
  refine lv_icmp_eq (tgt := 1471) hx hb dL_law_1466 (by decide) (fun c9 => ?_) (fun c9 => ?_)
  · replace hf := if_t c9 hf
    refine lv_iload hx hb dL_law_1471 (lv_at hl 1 rfl) ?_
    refine lv_if_ne (tgt := 1488) hx hb dL_law_1473 (by decide) (fun c10 => ?_) (fun c10 => ?_)
    · replace hf := if_f c10 hf
      refine lv_goto (tgt := 2017) hx hb dL_law_1488 (by decide) ?_
      cases hf
      refine W.widen (k := cells + 16) (n := slots + 128) (by show cells + 2 ≤ _; omega) (by show slots + 12 ≤ _; omega) ?_
      exact hk sh _ _ ls rfl rfl ⟨ex, em, eo, ed⟩ hW hS (lv_sub hl [2, 3, 4, 5, 6, 7] rfl)
    · replace hf := if_t c10 hf
      refine lv_aload_n hx hb dL_law_1476 rfl (lv_at hl 6 rfl) ?_
      refine lv_iconst (v := 0) hx hb dL_law_1477 (by decide) ?_
      refine W.eq (g2 := F0 m 1478 ls (.int 0 :: .ref (sh.1 14 0) :: [])) (by rw [eo]) ?_
      refine xlald F hT hW dL_law_1478 ?_
      refine lv_iload hx hb dL_law_1479 (lv_at hl 0 rfl) ?_
      refine lv_i2l hx hb dL_law_1481 rfl ?_
      refine W.lcmp hx hb dL_law_1482 ?_
      refine lv_if_eq (tgt := 1488) hx hb dL_law_1483 (by decide) (fun c11 => ?_) (fun c11 => ?_)
      · replace hf := if_t c11 hf
        refine lv_goto (tgt := 2017) hx hb dL_law_1488 (by decide) ?_
        cases hf
        refine W.widen (k := cells + 16) (n := slots + 128) (by show cells + 2 ≤ _; omega) (by show slots + 12 ≤ _; omega) ?_
        exact hk sh _ _ ls rfl rfl ⟨ex, em, eo, ed⟩ hW hS (lv_sub hl [2, 3, 4, 5, 6, 7] rfl)
      · replace hf := if_f c11 hf
        refine lv_iconst (v := 0) hx hb dL_law_1486 (by decide) ?_
        cases hf
  · replace hf := if_f c9 hf
    refine lv_iconst (v := 0) hx hb dL_law_1469 (by decide) ?_
    cases hf
def fC_22 (nS nT : Nat) (a1 : Int32) (a2 : Int32) (sc : xSC) (sr : xSR) (sl : xSL) : Option xR5 := oB (fL_usedByLooking nS nT a1 a2 sc sl) (fun q1 => oP (fX6_usedByLooking a1 a2 sr) (fun v3 s5 => oB (fX6_thrown s5) (fun v6 => (if v6 = q1.1 then (if q1.1 = 0 then (if (lg_cmp q1.2.2.1 ((v3).toInt64)) = 0 then some (nS, nT, q1.2.1, s5, q1.2.2) else none) else some (nS, nT, q1.2.1, s5, q1.2.2)) else none))))
set_option maxHeartbeats 4000000 in
set_option maxRecDepth 100000 in
theorem kC_22 {p : Program} {l : Launch} {e : Env} {s : State} {m : MethodId} {args : Array Value} {below : List Frame} {meth : Method} {c : Code} {H : Heap} {locs : List Loc} {cells slots : Nat} {Q : State → Prop} {ls : Array Slot} {G : xG} {sh : xSh} {sc : xSC} {sr : xSR} {sl : xSL} {b L xa ma oa da : Nat} {xs : Nat → Int32} {x5 a1 a2 a3 a4 a5 : Int32} (hl0 : l.stackTraces = false) (F : CallFix p m c code 9 s args xB RL) (hT : xTb G s s.heap) (hX : va_X b L xs s s.heap) (hbl : b < s.heap.size) (hbA : ¬ xA G b) (hi1 : vp_in (x5 + 1) L) (hi2 : vp_in (x5 + 2) L) (hi3 : vp_in (x5 + 3) L) (hi4 : vp_in (x5 + 4) L) (hi5 : vp_in (x5 + 5) L) (ha1 : xs (x5 + 1).toNatClampNeg = a1) (ha2 : xs (x5 + 2).toNatClampNeg = a2) (ha3 : xs (x5 + 3).toNatClampNeg = a3) (ha4 : xs (x5 + 4).toNatClampNeg = a4) (ha5 : xs (x5 + 5).toNatClampNeg = a5) (hcl : cells + 16 ≤ 803720) (hsl : slots + 128 ≤ 6592785) (hat : xat sh xa ma oa da) (hW : xWd G sh sc sr sl H) (hS : va_S (xA G) s.heap H locs) (hl : lv_has ls 9 [(5, .int x5), (0, .ref b), (1, .ref xa), (2, .ref ma), (3, .ref oa), (4, .ref da)]) (r : xR5) (hf : fC_22 sh.2.1 sh.2.2 a1 a2 sc sr sl = some r) (hk : ∀ (sh2 : xSh) (H : Heap) (locs : List Loc) (ls : Array Slot), sh2.2.1 = r.1 → sh2.2.2 = r.2.1 → xat sh2 xa ma oa da → xWd G sh2 r.2.2.1 r.2.2.2.1 r.2.2.2.2 H → va_S (xA G) s.heap H locs → lv_has ls 9 [(5, .int x5), (0, .ref b), (1, .ref xa), (2, .ref ma), (3, .ref oa), (4, .ref da)] → W p l e room_1 s m args below meth c H locs (cells + 16) (slots + 128) Q (F0 m 2017 ls [])) : W p l e room_1 s m args below meth c H locs cells slots Q (F0 m 1491 ls []) := by
  have hx := F.1
  have hb := F.2.1
  obtain ⟨ex, em, eo, ed⟩ := hat
  unfold fC_22 at hf
  refine lv_aload_n hx hb dL_law_1491 rfl (lv_at hl 2 rfl) ?_
  refine lv_aload_n hx hb dL_law_1492 rfl (lv_at hl 1 rfl) ?_
  refine lv_iload hx hb dL_law_1493 (lv_at hl 0 rfl) ?_
  refine lv_iconst (v := 1) hx hb dL_law_1495 (by decide) ?_
  refine lv_iadd hx hb dL_law_1496 ?_
  refine va_sld hx hb hX hbl hbA hS hi1 dL_law_1497 ?_
  rw [ha1]
  refine lv_aload_n hx hb dL_law_1498 rfl (lv_at hl 1 rfl) ?_
  refine lv_iload hx hb dL_law_1499 (lv_at hl 0 rfl) ?_
  refine lv_iconst (v := 2) hx hb dL_law_1501 (by decide) ?_
  refine lv_iadd hx hb dL_law_1502 ?_
  refine va_sld hx hb hX hbl hbA hS hi2 dL_law_1503 ?_
  rw [ha2]
  refine lv_aload_n hx hb dL_law_1504 rfl (lv_at hl 4 rfl) ?_
  obtain ⟨q1, hc2, hf⟩ := oB_go hf
  refine W.eq (g2 := F0 m 1505 ls (.ref (sh.1 14 0) :: .int a2 :: .int a1 :: .ref (sh.1 0 0) :: [])) (by rw [eo, ex]) ?_
  refine xcallSX (n := 4) F hT hW hS (kL_usedByLooking l hl0 G sh sc sr sl a1 a2 _ hc2) (xgSW (fun _ h => h) xw_710 xw_711 xw_0 xw_712) rfl xd_L_usedByLooking.2 ⟨(Nat.le_of_ble_eq_true rfl), (Nat.le_of_ble_eq_true rfl)⟩ rfl hl.1 rfl (Nat.le_of_ble_eq_true rfl) dL_law_1505 ⟨by show cells + 0 + 2 ≤ 803720; omega, by show slots + 0 + 12 ≤ 6592785; omega⟩ (fun v9 H locs hres hW hS => ?_) (fun E9 H locs q9 ce9 hres => by cases hres)
  cases hres
  refine W.eq (g2 := F0 m 1508 ls (.int q1.1 :: [])) rfl ?_
  refine lv_istore (lv' := [(6, .int q1.1), (5, .int x5), (0, .ref b), (1, .ref xa), (2, .ref ma), (3, .ref oa), (4, .ref da)]) hx hb dL_law_1508 hl (by decide) rfl (fun ls hl => ?_)
  refine lv_aload_n hx hb dL_law_1510 rfl (lv_at hl 4 rfl) ?_
  refine lv_aload_n hx hb dL_law_1511 rfl (lv_at hl 2 rfl) ?_
  refine lv_iload hx hb dL_law_1512 (lv_at hl 1 rfl) ?_
  refine lv_iconst (v := 1) hx hb dL_law_1514 (by decide) ?_
  refine lv_iadd hx hb dL_law_1515 ?_
  refine va_sld hx hb hX hbl hbA hS hi1 dL_law_1516 ?_
  rw [ha1]
  refine lv_aload_n hx hb dL_law_1517 rfl (lv_at hl 2 rfl) ?_
  refine lv_iload hx hb dL_law_1518 (lv_at hl 1 rfl) ?_
  refine lv_iconst (v := 2) hx hb dL_law_1520 (by decide) ?_
  refine lv_iadd hx hb dL_law_1521 ?_
  refine va_sld hx hb hX hbl hbA hS hi2 dL_law_1522 ?_
  rw [ha2]
  obtain ⟨v3, s5, hc4, hf⟩ := oP_go hf
  refine W.eq (g2 := F0 m 1523 ls (.int a2 :: .int a1 :: .ref (sh.1 12 0) :: [])) (by rw [em]) ?_
  refine xcallV (n := 2) F hT hW hS (xm_fix (by decide)) xce_12 rfl (kX6_usedByLooking l hl0 G sh q1.2.1 sr q1.2.2 a1 a2 _ hc4) (xgV xw_1050 xw_1051 xw_1052 xw_4 xw_1053) rfl xd_X6_usedByLooking ⟨(Nat.le_of_ble_eq_true rfl), (Nat.le_of_ble_eq_true rfl)⟩ rfl hl.1 rfl (Nat.le_of_ble_eq_true rfl) dL_law_1523 ⟨by show cells + 2 + 0 ≤ 803720; omega, by show slots + 12 + 0 ≤ 6592785; omega⟩ (fun v9 H locs hres hW hS => ?_) (fun E9 H locs q9 ce9 hres => by cases hres)
  cases hres
  refine W.eq (g2 := F0 m 1526 ls (.int v3 :: [])) rfl ?_
  refine lv_istore (lv' := [(7, .int v3), (6, .int q1.1), (5, .int x5), (0, .ref b), (1, .ref xa), (2, .ref ma), (3, .ref oa), (4, .ref da)]) hx hb dL_law_1526 hl (by decide) rfl (fun ls hl => ?_)
  refine lv_aload_n hx hb dL_law_1528 rfl (lv_at hl 5 rfl) ?_
  obtain ⟨v6, hc7, hf⟩ := oB_go hf
  refine W.eq (g2 := F0 m 1529 ls (.ref (sh.1 12 0) :: [])) (by rw [em]) ?_
  refine xcallV (n := 0) F hT hW hS (xm_fix (by decide)) xce_12 rfl (kX6_thrown l hl0 G sh q1.2.1 s5 q1.2.2  _ hc7) (xgV xw_872 xw_873 xw_874 xw_4 xw_875) rfl xd_X6_thrown ⟨(Nat.le_of_ble_eq_true rfl), (Nat.le_of_ble_eq_true rfl)⟩ rfl hl.1 rfl (Nat.le_of_ble_eq_true rfl) dL_law_1529 ⟨by show cells + 2 + 0 ≤ 803720; omega, by show slots + 12 + 0 ≤ 6592785; omega⟩ (fun v9 H locs hres hW hS => ?_) (fun E9 H locs q9 ce9 hres => by cases hres)
  cases hres
  refine W.eq (g2 := F0 m 1532 ls (.int v6 :: [])) rfl ?_
  refine lv_iload hx hb dL_law_1532 (lv_at hl 1 rfl) ?_
  refine lv_icmp_eq (tgt := 1539) hx hb dL_law_1534 (by decide) (fun c9 => ?_) (fun c9 => ?_)
  · replace hf := if_t c9 hf
    refine lv_iload hx hb dL_law_1539 (lv_at hl 1 rfl) ?_
    refine lv_if_ne (tgt := 1556) hx hb dL_law_1541 (by decide) (fun c10 => ?_) (fun c10 => ?_)
    · replace hf := if_f c10 hf
      refine lv_goto (tgt := 2017) hx hb dL_law_1556 (by decide) ?_
      cases hf
      refine W.widen (k := cells + 16) (n := slots + 128) (by show cells + 2 ≤ _; omega) (by show slots + 12 ≤ _; omega) ?_
      exact hk sh _ _ ls rfl rfl ⟨ex, em, eo, ed⟩ hW hS (lv_sub hl [2, 3, 4, 5, 6, 7] rfl)
    · replace hf := if_t c10 hf
      refine lv_aload_n hx hb dL_law_1544 rfl (lv_at hl 6 rfl) ?_
      refine lv_iconst (v := 0) hx hb dL_law_1545 (by decide) ?_
      refine W.eq (g2 := F0 m 1546 ls (.int 0 :: .ref (sh.1 14 0) :: [])) (by rw [eo]) ?_
      refine xlald F hT hW dL_law_1546 ?_
      refine lv_iload hx hb dL_law_1547 (lv_at hl 0 rfl) ?_
      refine lv_i2l hx hb dL_law_1549 rfl ?_
      refine W.lcmp hx hb dL_law_1550 ?_
      refine lv_if_eq (tgt := 1556) hx hb dL_law_1551 (by decide) (fun c11 => ?_) (fun c11 => ?_)
      · replace hf := if_t c11 hf
        refine lv_goto (tgt := 2017) hx hb dL_law_1556 (by decide) ?_
        cases hf
        refine W.widen (k := cells + 16) (n := slots + 128) (by show cells + 2 ≤ _; omega) (by show slots + 12 ≤ _; omega) ?_
        exact hk sh _ _ ls rfl rfl ⟨ex, em, eo, ed⟩ hW hS (lv_sub hl [2, 3, 4, 5, 6, 7] rfl)
      · replace hf := if_f c11 hf
        refine lv_iconst (v := 0) hx hb dL_law_1554 (by decide) ?_
        cases hf
  · replace hf := if_f c9 hf
    refine lv_iconst (v := 0) hx hb dL_law_1537 (by decide) ?_
    cases hf
def fC_23 (nS nT : Nat) (a1 : Int32) (sc : xSC) (sr : xSR) (sl : xSL) : Option xR5 := oB (fL_isOver nS nT a1 sc sl) (fun q1 => oP (fX6_isOver a1 sr) (fun v3 s5 => oB (fX6_thrown s5) (fun v6 => (if v6 = q1.1 then (if q1.1 = 0 then (if v3 = 0 then (if (lg_cmp q1.2.2.1 0) = 0 then some (nS, nT, q1.2.1, s5, q1.2.2) else none) else (if (lg_cmp q1.2.2.1 1) = 0 then some (nS, nT, q1.2.1, s5, q1.2.2) else none)) else some (nS, nT, q1.2.1, s5, q1.2.2)) else none))))
set_option maxHeartbeats 4000000 in
set_option maxRecDepth 100000 in
theorem kC_23 {p : Program} {l : Launch} {e : Env} {s : State} {m : MethodId} {args : Array Value} {below : List Frame} {meth : Method} {c : Code} {H : Heap} {locs : List Loc} {cells slots : Nat} {Q : State → Prop} {ls : Array Slot} {G : xG} {sh : xSh} {sc : xSC} {sr : xSR} {sl : xSL} {b L xa ma oa da : Nat} {xs : Nat → Int32} {x5 a1 a2 a3 a4 a5 : Int32} (hl0 : l.stackTraces = false) (F : CallFix p m c code 9 s args xB RL) (hT : xTb G s s.heap) (hX : va_X b L xs s s.heap) (hbl : b < s.heap.size) (hbA : ¬ xA G b) (hi1 : vp_in (x5 + 1) L) (hi2 : vp_in (x5 + 2) L) (hi3 : vp_in (x5 + 3) L) (hi4 : vp_in (x5 + 4) L) (hi5 : vp_in (x5 + 5) L) (ha1 : xs (x5 + 1).toNatClampNeg = a1) (ha2 : xs (x5 + 2).toNatClampNeg = a2) (ha3 : xs (x5 + 3).toNatClampNeg = a3) (ha4 : xs (x5 + 4).toNatClampNeg = a4) (ha5 : xs (x5 + 5).toNatClampNeg = a5) (hcl : cells + 16 ≤ 803720) (hsl : slots + 128 ≤ 6592785) (hat : xat sh xa ma oa da) (hW : xWd G sh sc sr sl H) (hS : va_S (xA G) s.heap H locs) (hl : lv_has ls 9 [(5, .int x5), (0, .ref b), (1, .ref xa), (2, .ref ma), (3, .ref oa), (4, .ref da)]) (r : xR5) (hf : fC_23 sh.2.1 sh.2.2 a1 sc sr sl = some r) (hk : ∀ (sh2 : xSh) (H : Heap) (locs : List Loc) (ls : Array Slot), sh2.2.1 = r.1 → sh2.2.2 = r.2.1 → xat sh2 xa ma oa da → xWd G sh2 r.2.2.1 r.2.2.2.1 r.2.2.2.2 H → va_S (xA G) s.heap H locs → lv_has ls 9 [(5, .int x5), (0, .ref b), (1, .ref xa), (2, .ref ma), (3, .ref oa), (4, .ref da)] → W p l e room_1 s m args below meth c H locs (cells + 16) (slots + 128) Q (F0 m 2017 ls [])) : W p l e room_1 s m args below meth c H locs cells slots Q (F0 m 1559 ls []) := by
  have hx := F.1
  have hb := F.2.1
  obtain ⟨ex, em, eo, ed⟩ := hat
  unfold fC_23 at hf
  refine lv_aload_n hx hb dL_law_1559 rfl (lv_at hl 2 rfl) ?_
  refine lv_aload_n hx hb dL_law_1560 rfl (lv_at hl 1 rfl) ?_
  refine lv_iload hx hb dL_law_1561 (lv_at hl 0 rfl) ?_
  refine lv_iconst (v := 1) hx hb dL_law_1563 (by decide) ?_
  refine lv_iadd hx hb dL_law_1564 ?_
  refine va_sld hx hb hX hbl hbA hS hi1 dL_law_1565 ?_
  rw [ha1]
  refine lv_aload_n hx hb dL_law_1566 rfl (lv_at hl 4 rfl) ?_
  obtain ⟨q1, hc2, hf⟩ := oB_go hf
  refine W.eq (g2 := F0 m 1567 ls (.ref (sh.1 14 0) :: .int a1 :: .ref (sh.1 0 0) :: [])) (by rw [eo, ex]) ?_
  refine xcallSX (n := 3) F hT hW hS (kL_isOver l hl0 G sh sc sr sl a1 _ hc2) (xgSW (fun _ h => h) xw_717 xw_718 xw_0 xw_719) rfl xd_L_isOver.2 ⟨(Nat.le_of_ble_eq_true rfl), (Nat.le_of_ble_eq_true rfl)⟩ rfl hl.1 rfl (Nat.le_of_ble_eq_true rfl) dL_law_1567 ⟨by show cells + 0 + 1 ≤ 803720; omega, by show slots + 0 + 6 ≤ 6592785; omega⟩ (fun v9 H locs hres hW hS => ?_) (fun E9 H locs q9 ce9 hres => by cases hres)
  cases hres
  refine W.eq (g2 := F0 m 1570 ls (.int q1.1 :: [])) rfl ?_
  refine lv_istore (lv' := [(6, .int q1.1), (5, .int x5), (0, .ref b), (1, .ref xa), (2, .ref ma), (3, .ref oa), (4, .ref da)]) hx hb dL_law_1570 hl (by decide) rfl (fun ls hl => ?_)
  refine lv_aload_n hx hb dL_law_1572 rfl (lv_at hl 4 rfl) ?_
  refine lv_aload_n hx hb dL_law_1573 rfl (lv_at hl 2 rfl) ?_
  refine lv_iload hx hb dL_law_1574 (lv_at hl 1 rfl) ?_
  refine lv_iconst (v := 1) hx hb dL_law_1576 (by decide) ?_
  refine lv_iadd hx hb dL_law_1577 ?_
  refine va_sld hx hb hX hbl hbA hS hi1 dL_law_1578 ?_
  rw [ha1]
  obtain ⟨v3, s5, hc4, hf⟩ := oP_go hf
  refine W.eq (g2 := F0 m 1579 ls (.int a1 :: .ref (sh.1 12 0) :: [])) (by rw [em]) ?_
  refine xcallV (n := 1) F hT hW hS (xm_fix (by decide)) xce_12 rfl (kX6_isOver l hl0 G sh q1.2.1 sr q1.2.2 a1 _ hc4) (xgV xw_1054 xw_1055 xw_1056 xw_4 xw_1057) rfl xd_X6_isOver ⟨(Nat.le_of_ble_eq_true rfl), (Nat.le_of_ble_eq_true rfl)⟩ rfl hl.1 rfl (Nat.le_of_ble_eq_true rfl) dL_law_1579 ⟨by show cells + 1 + 0 ≤ 803720; omega, by show slots + 6 + 0 ≤ 6592785; omega⟩ (fun v9 H locs hres hW hS => ?_) (fun E9 H locs q9 ce9 hres => by cases hres)
  cases hres
  refine W.eq (g2 := F0 m 1582 ls (.int v3 :: [])) rfl ?_
  refine lv_istore (lv' := [(7, .int v3), (6, .int q1.1), (5, .int x5), (0, .ref b), (1, .ref xa), (2, .ref ma), (3, .ref oa), (4, .ref da)]) hx hb dL_law_1582 hl (by decide) rfl (fun ls hl => ?_)
  refine lv_aload_n hx hb dL_law_1584 rfl (lv_at hl 5 rfl) ?_
  obtain ⟨v6, hc7, hf⟩ := oB_go hf
  refine W.eq (g2 := F0 m 1585 ls (.ref (sh.1 12 0) :: [])) (by rw [em]) ?_
  refine xcallV (n := 0) F hT hW hS (xm_fix (by decide)) xce_12 rfl (kX6_thrown l hl0 G sh q1.2.1 s5 q1.2.2  _ hc7) (xgV xw_872 xw_873 xw_874 xw_4 xw_875) rfl xd_X6_thrown ⟨(Nat.le_of_ble_eq_true rfl), (Nat.le_of_ble_eq_true rfl)⟩ rfl hl.1 rfl (Nat.le_of_ble_eq_true rfl) dL_law_1585 ⟨by show cells + 1 + 0 ≤ 803720; omega, by show slots + 6 + 0 ≤ 6592785; omega⟩ (fun v9 H locs hres hW hS => ?_) (fun E9 H locs q9 ce9 hres => by cases hres)
  cases hres
  refine W.eq (g2 := F0 m 1588 ls (.int v6 :: [])) rfl ?_
  refine lv_iload hx hb dL_law_1588 (lv_at hl 1 rfl) ?_
  refine lv_icmp_eq (tgt := 1595) hx hb dL_law_1590 (by decide) (fun c9 => ?_) (fun c9 => ?_)
  · replace hf := if_t c9 hf
    refine lv_iload hx hb dL_law_1595 (lv_at hl 1 rfl) ?_
    refine lv_if_ne (tgt := 1619) hx hb dL_law_1597 (by decide) (fun c10 => ?_) (fun c10 => ?_)
    · replace hf := if_f c10 hf
      refine lv_goto (tgt := 2017) hx hb dL_law_1619 (by decide) ?_
      cases hf
      refine W.widen (k := cells + 16) (n := slots + 128) (by show cells + 1 ≤ _; omega) (by show slots + 6 ≤ _; omega) ?_
      exact hk sh _ _ ls rfl rfl ⟨ex, em, eo, ed⟩ hW hS (lv_sub hl [2, 3, 4, 5, 6, 7] rfl)
    · replace hf := if_t c10 hf
      refine lv_aload_n hx hb dL_law_1600 rfl (lv_at hl 6 rfl) ?_
      refine lv_iconst (v := 0) hx hb dL_law_1601 (by decide) ?_
      refine W.eq (g2 := F0 m 1602 ls (.int 0 :: .ref (sh.1 14 0) :: [])) (by rw [eo]) ?_
      refine xlald F hT hW dL_law_1602 ?_
      refine lv_iload hx hb dL_law_1603 (lv_at hl 0 rfl) ?_
      refine lv_if_eq (tgt := 1612) hx hb dL_law_1605 (by decide) (fun c11 => ?_) (fun c11 => ?_)
      · replace hf := if_t c11 hf
        refine lv_lconst (v := 0) hx hb dL_law_1612 (by decide) ?_
        refine W.lcmp hx hb dL_law_1613 ?_
        refine lv_if_eq (tgt := 1619) hx hb dL_law_1614 (by decide) (fun c12 => ?_) (fun c12 => ?_)
        · replace hf := if_t c12 hf
          refine lv_goto (tgt := 2017) hx hb dL_law_1619 (by decide) ?_
          cases hf
          refine W.widen (k := cells + 16) (n := slots + 128) (by show cells + 1 ≤ _; omega) (by show slots + 6 ≤ _; omega) ?_
          exact hk sh _ _ ls rfl rfl ⟨ex, em, eo, ed⟩ hW hS (lv_sub hl [2, 3, 4, 5, 6, 7] rfl)
        · replace hf := if_f c12 hf
          refine lv_iconst (v := 0) hx hb dL_law_1617 (by decide) ?_
          cases hf
      · replace hf := if_f c11 hf
        refine lv_lconst (v := 1) hx hb dL_law_1608 (by decide) ?_
        refine lv_goto (tgt := 1613) hx hb dL_law_1609 (by decide) ?_
        refine W.lcmp hx hb dL_law_1613 ?_
        refine lv_if_eq (tgt := 1619) hx hb dL_law_1614 (by decide) (fun c13 => ?_) (fun c13 => ?_)
        · replace hf := if_t c13 hf
          refine lv_goto (tgt := 2017) hx hb dL_law_1619 (by decide) ?_
          cases hf
          refine W.widen (k := cells + 16) (n := slots + 128) (by show cells + 1 ≤ _; omega) (by show slots + 6 ≤ _; omega) ?_
          exact hk sh _ _ ls rfl rfl ⟨ex, em, eo, ed⟩ hW hS (lv_sub hl [2, 3, 4, 5, 6, 7] rfl)
        · replace hf := if_f c13 hf
          refine lv_iconst (v := 0) hx hb dL_law_1617 (by decide) ?_
          cases hf
  · replace hf := if_f c9 hf
    refine lv_iconst (v := 0) hx hb dL_law_1593 (by decide) ?_
    cases hf
def fC_24 (nS nT : Nat) (a1 : Int32) (sc : xSC) (sr : xSR) (sl : xSL) : Option xR5 := oB (fL_served nS nT a1 sc sl) (fun q1 => oP (fX6_served a1 sr) (fun v3 s5 => oB (fX6_thrown s5) (fun v6 => (if v6 = q1.1 then (if q1.1 = 0 then (if (lg_cmp q1.2.2.1 ((v3).toInt64)) = 0 then some (nS, nT, q1.2.1, s5, q1.2.2) else none) else some (nS, nT, q1.2.1, s5, q1.2.2)) else none))))
set_option maxHeartbeats 4000000 in
set_option maxRecDepth 100000 in
theorem kC_24 {p : Program} {l : Launch} {e : Env} {s : State} {m : MethodId} {args : Array Value} {below : List Frame} {meth : Method} {c : Code} {H : Heap} {locs : List Loc} {cells slots : Nat} {Q : State → Prop} {ls : Array Slot} {G : xG} {sh : xSh} {sc : xSC} {sr : xSR} {sl : xSL} {b L xa ma oa da : Nat} {xs : Nat → Int32} {x5 a1 a2 a3 a4 a5 : Int32} (hl0 : l.stackTraces = false) (F : CallFix p m c code 9 s args xB RL) (hT : xTb G s s.heap) (hX : va_X b L xs s s.heap) (hbl : b < s.heap.size) (hbA : ¬ xA G b) (hi1 : vp_in (x5 + 1) L) (hi2 : vp_in (x5 + 2) L) (hi3 : vp_in (x5 + 3) L) (hi4 : vp_in (x5 + 4) L) (hi5 : vp_in (x5 + 5) L) (ha1 : xs (x5 + 1).toNatClampNeg = a1) (ha2 : xs (x5 + 2).toNatClampNeg = a2) (ha3 : xs (x5 + 3).toNatClampNeg = a3) (ha4 : xs (x5 + 4).toNatClampNeg = a4) (ha5 : xs (x5 + 5).toNatClampNeg = a5) (hcl : cells + 16 ≤ 803720) (hsl : slots + 128 ≤ 6592785) (hat : xat sh xa ma oa da) (hW : xWd G sh sc sr sl H) (hS : va_S (xA G) s.heap H locs) (hl : lv_has ls 9 [(5, .int x5), (0, .ref b), (1, .ref xa), (2, .ref ma), (3, .ref oa), (4, .ref da)]) (r : xR5) (hf : fC_24 sh.2.1 sh.2.2 a1 sc sr sl = some r) (hk : ∀ (sh2 : xSh) (H : Heap) (locs : List Loc) (ls : Array Slot), sh2.2.1 = r.1 → sh2.2.2 = r.2.1 → xat sh2 xa ma oa da → xWd G sh2 r.2.2.1 r.2.2.2.1 r.2.2.2.2 H → va_S (xA G) s.heap H locs → lv_has ls 9 [(5, .int x5), (0, .ref b), (1, .ref xa), (2, .ref ma), (3, .ref oa), (4, .ref da)] → W p l e room_1 s m args below meth c H locs (cells + 16) (slots + 128) Q (F0 m 2017 ls [])) : W p l e room_1 s m args below meth c H locs cells slots Q (F0 m 1622 ls []) := by
  have hx := F.1
  have hb := F.2.1
  obtain ⟨ex, em, eo, ed⟩ := hat
  unfold fC_24 at hf
  refine lv_aload_n hx hb dL_law_1622 rfl (lv_at hl 2 rfl) ?_
  refine lv_aload_n hx hb dL_law_1623 rfl (lv_at hl 1 rfl) ?_
  refine lv_iload hx hb dL_law_1624 (lv_at hl 0 rfl) ?_
  refine lv_iconst (v := 1) hx hb dL_law_1626 (by decide) ?_
  refine lv_iadd hx hb dL_law_1627 ?_
  refine va_sld hx hb hX hbl hbA hS hi1 dL_law_1628 ?_
  rw [ha1]
  refine lv_aload_n hx hb dL_law_1629 rfl (lv_at hl 4 rfl) ?_
  obtain ⟨q1, hc2, hf⟩ := oB_go hf
  refine W.eq (g2 := F0 m 1630 ls (.ref (sh.1 14 0) :: .int a1 :: .ref (sh.1 0 0) :: [])) (by rw [eo, ex]) ?_
  refine xcallSX (n := 3) F hT hW hS (kL_served l hl0 G sh sc sr sl a1 _ hc2) (xgSW (fun _ h => h) xw_724 xw_725 xw_0 xw_726) rfl xd_L_served.2 ⟨(Nat.le_of_ble_eq_true rfl), (Nat.le_of_ble_eq_true rfl)⟩ rfl hl.1 rfl (Nat.le_of_ble_eq_true rfl) dL_law_1630 ⟨by show cells + 0 + 1 ≤ 803720; omega, by show slots + 0 + 6 ≤ 6592785; omega⟩ (fun v9 H locs hres hW hS => ?_) (fun E9 H locs q9 ce9 hres => by cases hres)
  cases hres
  refine W.eq (g2 := F0 m 1633 ls (.int q1.1 :: [])) rfl ?_
  refine lv_istore (lv' := [(6, .int q1.1), (5, .int x5), (0, .ref b), (1, .ref xa), (2, .ref ma), (3, .ref oa), (4, .ref da)]) hx hb dL_law_1633 hl (by decide) rfl (fun ls hl => ?_)
  refine lv_aload_n hx hb dL_law_1635 rfl (lv_at hl 4 rfl) ?_
  refine lv_aload_n hx hb dL_law_1636 rfl (lv_at hl 2 rfl) ?_
  refine lv_iload hx hb dL_law_1637 (lv_at hl 1 rfl) ?_
  refine lv_iconst (v := 1) hx hb dL_law_1639 (by decide) ?_
  refine lv_iadd hx hb dL_law_1640 ?_
  refine va_sld hx hb hX hbl hbA hS hi1 dL_law_1641 ?_
  rw [ha1]
  obtain ⟨v3, s5, hc4, hf⟩ := oP_go hf
  refine W.eq (g2 := F0 m 1642 ls (.int a1 :: .ref (sh.1 12 0) :: [])) (by rw [em]) ?_
  refine xcallV (n := 1) F hT hW hS (xm_fix (by decide)) xce_12 rfl (kX6_served l hl0 G sh q1.2.1 sr q1.2.2 a1 _ hc4) (xgV xw_1058 xw_1059 xw_1060 xw_4 xw_1061) rfl xd_X6_served ⟨(Nat.le_of_ble_eq_true rfl), (Nat.le_of_ble_eq_true rfl)⟩ rfl hl.1 rfl (Nat.le_of_ble_eq_true rfl) dL_law_1642 ⟨by show cells + 1 + 0 ≤ 803720; omega, by show slots + 6 + 0 ≤ 6592785; omega⟩ (fun v9 H locs hres hW hS => ?_) (fun E9 H locs q9 ce9 hres => by cases hres)
  cases hres
  refine W.eq (g2 := F0 m 1645 ls (.int v3 :: [])) rfl ?_
  refine lv_istore (lv' := [(7, .int v3), (6, .int q1.1), (5, .int x5), (0, .ref b), (1, .ref xa), (2, .ref ma), (3, .ref oa), (4, .ref da)]) hx hb dL_law_1645 hl (by decide) rfl (fun ls hl => ?_)
  refine lv_aload_n hx hb dL_law_1647 rfl (lv_at hl 5 rfl) ?_
  obtain ⟨v6, hc7, hf⟩ := oB_go hf
  refine W.eq (g2 := F0 m 1648 ls (.ref (sh.1 12 0) :: [])) (by rw [em]) ?_
  refine xcallV (n := 0) F hT hW hS (xm_fix (by decide)) xce_12 rfl (kX6_thrown l hl0 G sh q1.2.1 s5 q1.2.2  _ hc7) (xgV xw_872 xw_873 xw_874 xw_4 xw_875) rfl xd_X6_thrown ⟨(Nat.le_of_ble_eq_true rfl), (Nat.le_of_ble_eq_true rfl)⟩ rfl hl.1 rfl (Nat.le_of_ble_eq_true rfl) dL_law_1648 ⟨by show cells + 1 + 0 ≤ 803720; omega, by show slots + 6 + 0 ≤ 6592785; omega⟩ (fun v9 H locs hres hW hS => ?_) (fun E9 H locs q9 ce9 hres => by cases hres)
  cases hres
  refine W.eq (g2 := F0 m 1651 ls (.int v6 :: [])) rfl ?_
  refine lv_iload hx hb dL_law_1651 (lv_at hl 1 rfl) ?_
  refine lv_icmp_eq (tgt := 1658) hx hb dL_law_1653 (by decide) (fun c9 => ?_) (fun c9 => ?_)
  · replace hf := if_t c9 hf
    refine lv_iload hx hb dL_law_1658 (lv_at hl 1 rfl) ?_
    refine lv_if_ne (tgt := 1675) hx hb dL_law_1660 (by decide) (fun c10 => ?_) (fun c10 => ?_)
    · replace hf := if_f c10 hf
      refine lv_goto (tgt := 2017) hx hb dL_law_1675 (by decide) ?_
      cases hf
      refine W.widen (k := cells + 16) (n := slots + 128) (by show cells + 1 ≤ _; omega) (by show slots + 6 ≤ _; omega) ?_
      exact hk sh _ _ ls rfl rfl ⟨ex, em, eo, ed⟩ hW hS (lv_sub hl [2, 3, 4, 5, 6, 7] rfl)
    · replace hf := if_t c10 hf
      refine lv_aload_n hx hb dL_law_1663 rfl (lv_at hl 6 rfl) ?_
      refine lv_iconst (v := 0) hx hb dL_law_1664 (by decide) ?_
      refine W.eq (g2 := F0 m 1665 ls (.int 0 :: .ref (sh.1 14 0) :: [])) (by rw [eo]) ?_
      refine xlald F hT hW dL_law_1665 ?_
      refine lv_iload hx hb dL_law_1666 (lv_at hl 0 rfl) ?_
      refine lv_i2l hx hb dL_law_1668 rfl ?_
      refine W.lcmp hx hb dL_law_1669 ?_
      refine lv_if_eq (tgt := 1675) hx hb dL_law_1670 (by decide) (fun c11 => ?_) (fun c11 => ?_)
      · replace hf := if_t c11 hf
        refine lv_goto (tgt := 2017) hx hb dL_law_1675 (by decide) ?_
        cases hf
        refine W.widen (k := cells + 16) (n := slots + 128) (by show cells + 1 ≤ _; omega) (by show slots + 6 ≤ _; omega) ?_
        exact hk sh _ _ ls rfl rfl ⟨ex, em, eo, ed⟩ hW hS (lv_sub hl [2, 3, 4, 5, 6, 7] rfl)
      · replace hf := if_f c11 hf
        refine lv_iconst (v := 0) hx hb dL_law_1673 (by decide) ?_
        cases hf
  · replace hf := if_f c9 hf
    refine lv_iconst (v := 0) hx hb dL_law_1656 (by decide) ?_
    cases hf
def fC_25 (nS nT : Nat) (sc : xSC) (sr : xSR) (sl : xSL) : Option xR5 := oB (fL_fewestMoves nS nT  sc sl) (fun q1 => oP (fX6_fewestMoves sr) (fun v3 s5 => oB (fX6_thrown s5) (fun v6 => (if v6 = q1.1 then (if q1.1 = 0 then (if (lg_cmp q1.2.2.1 ((v3).toInt64)) = 0 then some (nS, nT, q1.2.1, s5, q1.2.2) else none) else some (nS, nT, q1.2.1, s5, q1.2.2)) else none))))
set_option maxHeartbeats 4000000 in
set_option maxRecDepth 100000 in
theorem kC_25 {p : Program} {l : Launch} {e : Env} {s : State} {m : MethodId} {args : Array Value} {below : List Frame} {meth : Method} {c : Code} {H : Heap} {locs : List Loc} {cells slots : Nat} {Q : State → Prop} {ls : Array Slot} {G : xG} {sh : xSh} {sc : xSC} {sr : xSR} {sl : xSL} {b L xa ma oa da : Nat} {xs : Nat → Int32} {x5 a1 a2 a3 a4 a5 : Int32} (hl0 : l.stackTraces = false) (F : CallFix p m c code 9 s args xB RL) (hT : xTb G s s.heap) (hX : va_X b L xs s s.heap) (hbl : b < s.heap.size) (hbA : ¬ xA G b) (hi1 : vp_in (x5 + 1) L) (hi2 : vp_in (x5 + 2) L) (hi3 : vp_in (x5 + 3) L) (hi4 : vp_in (x5 + 4) L) (hi5 : vp_in (x5 + 5) L) (ha1 : xs (x5 + 1).toNatClampNeg = a1) (ha2 : xs (x5 + 2).toNatClampNeg = a2) (ha3 : xs (x5 + 3).toNatClampNeg = a3) (ha4 : xs (x5 + 4).toNatClampNeg = a4) (ha5 : xs (x5 + 5).toNatClampNeg = a5) (hcl : cells + 16 ≤ 803720) (hsl : slots + 128 ≤ 6592785) (hat : xat sh xa ma oa da) (hW : xWd G sh sc sr sl H) (hS : va_S (xA G) s.heap H locs) (hl : lv_has ls 9 [(5, .int x5), (0, .ref b), (1, .ref xa), (2, .ref ma), (3, .ref oa), (4, .ref da)]) (r : xR5) (hf : fC_25 sh.2.1 sh.2.2 sc sr sl = some r) (hk : ∀ (sh2 : xSh) (H : Heap) (locs : List Loc) (ls : Array Slot), sh2.2.1 = r.1 → sh2.2.2 = r.2.1 → xat sh2 xa ma oa da → xWd G sh2 r.2.2.1 r.2.2.2.1 r.2.2.2.2 H → va_S (xA G) s.heap H locs → lv_has ls 9 [(5, .int x5), (0, .ref b), (1, .ref xa), (2, .ref ma), (3, .ref oa), (4, .ref da)] → W p l e room_1 s m args below meth c H locs (cells + 16) (slots + 128) Q (F0 m 2017 ls [])) : W p l e room_1 s m args below meth c H locs cells slots Q (F0 m 1678 ls []) := by
  have hx := F.1
  have hb := F.2.1
  obtain ⟨ex, em, eo, ed⟩ := hat
  unfold fC_25 at hf
  refine lv_aload_n hx hb dL_law_1678 rfl (lv_at hl 2 rfl) ?_
  refine lv_aload_n hx hb dL_law_1679 rfl (lv_at hl 4 rfl) ?_
  obtain ⟨q1, hc2, hf⟩ := oB_go hf
  refine W.eq (g2 := F0 m 1680 ls (.ref (sh.1 14 0) :: .ref (sh.1 0 0) :: [])) (by rw [eo, ex]) ?_
  refine xcallSX (n := 2) F hT hW hS (kL_fewestMoves l hl0 G sh sc sr sl  _ hc2) (xgSW (fun _ h => h) xw_731 xw_732 xw_0 xw_733) rfl xd_L_fewestMoves.2 ⟨(Nat.le_of_ble_eq_true rfl), (Nat.le_of_ble_eq_true rfl)⟩ rfl hl.1 rfl (Nat.le_of_ble_eq_true rfl) dL_law_1680 ⟨by show cells + 0 + 1 ≤ 803720; omega, by show slots + 0 + 6 ≤ 6592785; omega⟩ (fun v9 H locs hres hW hS => ?_) (fun E9 H locs q9 ce9 hres => by cases hres)
  cases hres
  refine W.eq (g2 := F0 m 1683 ls (.int q1.1 :: [])) rfl ?_
  refine lv_istore (lv' := [(6, .int q1.1), (5, .int x5), (0, .ref b), (1, .ref xa), (2, .ref ma), (3, .ref oa), (4, .ref da)]) hx hb dL_law_1683 hl (by decide) rfl (fun ls hl => ?_)
  refine lv_aload_n hx hb dL_law_1685 rfl (lv_at hl 4 rfl) ?_
  obtain ⟨v3, s5, hc4, hf⟩ := oP_go hf
  refine W.eq (g2 := F0 m 1686 ls (.ref (sh.1 12 0) :: [])) (by rw [em]) ?_
  refine xcallV (n := 0) F hT hW hS (xm_fix (by decide)) xce_12 rfl (kX6_fewestMoves l hl0 G sh q1.2.1 sr q1.2.2  _ hc4) (xgV xw_1062 xw_1063 xw_1064 xw_4 xw_1065) rfl xd_X6_fewestMoves ⟨(Nat.le_of_ble_eq_true rfl), (Nat.le_of_ble_eq_true rfl)⟩ rfl hl.1 rfl (Nat.le_of_ble_eq_true rfl) dL_law_1686 ⟨by show cells + 1 + 0 ≤ 803720; omega, by show slots + 6 + 0 ≤ 6592785; omega⟩ (fun v9 H locs hres hW hS => ?_) (fun E9 H locs q9 ce9 hres => by cases hres)
  cases hres
  refine W.eq (g2 := F0 m 1689 ls (.int v3 :: [])) rfl ?_
  refine lv_istore (lv' := [(7, .int v3), (6, .int q1.1), (5, .int x5), (0, .ref b), (1, .ref xa), (2, .ref ma), (3, .ref oa), (4, .ref da)]) hx hb dL_law_1689 hl (by decide) rfl (fun ls hl => ?_)
  refine lv_aload_n hx hb dL_law_1691 rfl (lv_at hl 5 rfl) ?_
  obtain ⟨v6, hc7, hf⟩ := oB_go hf
  refine W.eq (g2 := F0 m 1692 ls (.ref (sh.1 12 0) :: [])) (by rw [em]) ?_
  refine xcallV (n := 0) F hT hW hS (xm_fix (by decide)) xce_12 rfl (kX6_thrown l hl0 G sh q1.2.1 s5 q1.2.2  _ hc7) (xgV xw_872 xw_873 xw_874 xw_4 xw_875) rfl xd_X6_thrown ⟨(Nat.le_of_ble_eq_true rfl), (Nat.le_of_ble_eq_true rfl)⟩ rfl hl.1 rfl (Nat.le_of_ble_eq_true rfl) dL_law_1692 ⟨by show cells + 1 + 0 ≤ 803720; omega, by show slots + 6 + 0 ≤ 6592785; omega⟩ (fun v9 H locs hres hW hS => ?_) (fun E9 H locs q9 ce9 hres => by cases hres)
  cases hres
  refine W.eq (g2 := F0 m 1695 ls (.int v6 :: [])) rfl ?_
  refine lv_iload hx hb dL_law_1695 (lv_at hl 1 rfl) ?_
  refine lv_icmp_eq (tgt := 1702) hx hb dL_law_1697 (by decide) (fun c9 => ?_) (fun c9 => ?_)
  · replace hf := if_t c9 hf
    refine lv_iload hx hb dL_law_1702 (lv_at hl 1 rfl) ?_
    refine lv_if_ne (tgt := 1719) hx hb dL_law_1704 (by decide) (fun c10 => ?_) (fun c10 => ?_)
    · replace hf := if_f c10 hf
      refine lv_goto (tgt := 2017) hx hb dL_law_1719 (by decide) ?_
      cases hf
      refine W.widen (k := cells + 16) (n := slots + 128) (by show cells + 1 ≤ _; omega) (by show slots + 6 ≤ _; omega) ?_
      exact hk sh _ _ ls rfl rfl ⟨ex, em, eo, ed⟩ hW hS (lv_sub hl [2, 3, 4, 5, 6, 7] rfl)
    · replace hf := if_t c10 hf
      refine lv_aload_n hx hb dL_law_1707 rfl (lv_at hl 6 rfl) ?_
      refine lv_iconst (v := 0) hx hb dL_law_1708 (by decide) ?_
      refine W.eq (g2 := F0 m 1709 ls (.int 0 :: .ref (sh.1 14 0) :: [])) (by rw [eo]) ?_
      refine xlald F hT hW dL_law_1709 ?_
      refine lv_iload hx hb dL_law_1710 (lv_at hl 0 rfl) ?_
      refine lv_i2l hx hb dL_law_1712 rfl ?_
      refine W.lcmp hx hb dL_law_1713 ?_
      refine lv_if_eq (tgt := 1719) hx hb dL_law_1714 (by decide) (fun c11 => ?_) (fun c11 => ?_)
      · replace hf := if_t c11 hf
        refine lv_goto (tgt := 2017) hx hb dL_law_1719 (by decide) ?_
        cases hf
        refine W.widen (k := cells + 16) (n := slots + 128) (by show cells + 1 ≤ _; omega) (by show slots + 6 ≤ _; omega) ?_
        exact hk sh _ _ ls rfl rfl ⟨ex, em, eo, ed⟩ hW hS (lv_sub hl [2, 3, 4, 5, 6, 7] rfl)
      · replace hf := if_f c11 hf
        refine lv_iconst (v := 0) hx hb dL_law_1717 (by decide) ?_
        cases hf
  · replace hf := if_f c9 hf
    refine lv_iconst (v := 0) hx hb dL_law_1700 (by decide) ?_
    cases hf
def fC_26 (nS nT : Nat) (sc : xSC) (sr : xSR) (sl : xSL) : Option xR5 := oB (fL_fewestByTrying nS nT  sc sl) (fun q1 => oP (fX6_fewestByTrying sr) (fun v3 s5 => oB (fX6_thrown s5) (fun v6 => (if v6 = q1.1 then (if q1.1 = 0 then (if (lg_cmp q1.2.2.1 ((v3).toInt64)) = 0 then some (nS, nT, q1.2.1, s5, q1.2.2) else none) else some (nS, nT, q1.2.1, s5, q1.2.2)) else none))))
set_option maxHeartbeats 4000000 in
set_option maxRecDepth 100000 in
theorem kC_26 {p : Program} {l : Launch} {e : Env} {s : State} {m : MethodId} {args : Array Value} {below : List Frame} {meth : Method} {c : Code} {H : Heap} {locs : List Loc} {cells slots : Nat} {Q : State → Prop} {ls : Array Slot} {G : xG} {sh : xSh} {sc : xSC} {sr : xSR} {sl : xSL} {b L xa ma oa da : Nat} {xs : Nat → Int32} {x5 a1 a2 a3 a4 a5 : Int32} (hl0 : l.stackTraces = false) (F : CallFix p m c code 9 s args xB RL) (hT : xTb G s s.heap) (hX : va_X b L xs s s.heap) (hbl : b < s.heap.size) (hbA : ¬ xA G b) (hi1 : vp_in (x5 + 1) L) (hi2 : vp_in (x5 + 2) L) (hi3 : vp_in (x5 + 3) L) (hi4 : vp_in (x5 + 4) L) (hi5 : vp_in (x5 + 5) L) (ha1 : xs (x5 + 1).toNatClampNeg = a1) (ha2 : xs (x5 + 2).toNatClampNeg = a2) (ha3 : xs (x5 + 3).toNatClampNeg = a3) (ha4 : xs (x5 + 4).toNatClampNeg = a4) (ha5 : xs (x5 + 5).toNatClampNeg = a5) (hcl : cells + 16 ≤ 803720) (hsl : slots + 128 ≤ 6592785) (hat : xat sh xa ma oa da) (hW : xWd G sh sc sr sl H) (hS : va_S (xA G) s.heap H locs) (hl : lv_has ls 9 [(5, .int x5), (0, .ref b), (1, .ref xa), (2, .ref ma), (3, .ref oa), (4, .ref da)]) (r : xR5) (hf : fC_26 sh.2.1 sh.2.2 sc sr sl = some r) (hk : ∀ (sh2 : xSh) (H : Heap) (locs : List Loc) (ls : Array Slot), sh2.2.1 = r.1 → sh2.2.2 = r.2.1 → xat sh2 xa ma oa da → xWd G sh2 r.2.2.1 r.2.2.2.1 r.2.2.2.2 H → va_S (xA G) s.heap H locs → lv_has ls 9 [(5, .int x5), (0, .ref b), (1, .ref xa), (2, .ref ma), (3, .ref oa), (4, .ref da)] → W p l e room_1 s m args below meth c H locs (cells + 16) (slots + 128) Q (F0 m 2017 ls [])) : W p l e room_1 s m args below meth c H locs cells slots Q (F0 m 1722 ls []) := by
  have hx := F.1
  have hb := F.2.1
  obtain ⟨ex, em, eo, ed⟩ := hat
  unfold fC_26 at hf
  refine lv_aload_n hx hb dL_law_1722 rfl (lv_at hl 2 rfl) ?_
  refine lv_aload_n hx hb dL_law_1723 rfl (lv_at hl 4 rfl) ?_
  obtain ⟨q1, hc2, hf⟩ := oB_go hf
  refine W.eq (g2 := F0 m 1724 ls (.ref (sh.1 14 0) :: .ref (sh.1 0 0) :: [])) (by rw [eo, ex]) ?_
  refine xcallSX (n := 2) F hT hW hS (kL_fewestByTrying l hl0 G sh sc sr sl  _ hc2) (xgSW (fun _ h => h) xw_749 xw_750 xw_0 xw_751) rfl xd_L_fewestByTrying.2 ⟨(Nat.le_of_ble_eq_true rfl), (Nat.le_of_ble_eq_true rfl)⟩ rfl hl.1 rfl (Nat.le_of_ble_eq_true rfl) dL_law_1724 ⟨by show cells + 0 + 1 ≤ 803720; omega, by show slots + 0 + 6 ≤ 6592785; omega⟩ (fun v9 H locs hres hW hS => ?_) (fun E9 H locs q9 ce9 hres => by cases hres)
  cases hres
  refine W.eq (g2 := F0 m 1727 ls (.int q1.1 :: [])) rfl ?_
  refine lv_istore (lv' := [(6, .int q1.1), (5, .int x5), (0, .ref b), (1, .ref xa), (2, .ref ma), (3, .ref oa), (4, .ref da)]) hx hb dL_law_1727 hl (by decide) rfl (fun ls hl => ?_)
  refine lv_aload_n hx hb dL_law_1729 rfl (lv_at hl 4 rfl) ?_
  obtain ⟨v3, s5, hc4, hf⟩ := oP_go hf
  refine W.eq (g2 := F0 m 1730 ls (.ref (sh.1 12 0) :: [])) (by rw [em]) ?_
  refine xcallV (n := 0) F hT hW hS (xm_fix (by decide)) xce_12 rfl (kX6_fewestByTrying l hl0 G sh q1.2.1 sr q1.2.2  _ hc4) (xgV xw_1090 xw_1091 xw_1092 xw_4 xw_1093) rfl xd_X6_fewestByTrying ⟨(Nat.le_of_ble_eq_true rfl), (Nat.le_of_ble_eq_true rfl)⟩ rfl hl.1 rfl (Nat.le_of_ble_eq_true rfl) dL_law_1730 ⟨by show cells + 1 + 0 ≤ 803720; omega, by show slots + 6 + 0 ≤ 6592785; omega⟩ (fun v9 H locs hres hW hS => ?_) (fun E9 H locs q9 ce9 hres => by cases hres)
  cases hres
  refine W.eq (g2 := F0 m 1733 ls (.int v3 :: [])) rfl ?_
  refine lv_istore (lv' := [(7, .int v3), (6, .int q1.1), (5, .int x5), (0, .ref b), (1, .ref xa), (2, .ref ma), (3, .ref oa), (4, .ref da)]) hx hb dL_law_1733 hl (by decide) rfl (fun ls hl => ?_)
  refine lv_aload_n hx hb dL_law_1735 rfl (lv_at hl 5 rfl) ?_
  obtain ⟨v6, hc7, hf⟩ := oB_go hf
  refine W.eq (g2 := F0 m 1736 ls (.ref (sh.1 12 0) :: [])) (by rw [em]) ?_
  refine xcallV (n := 0) F hT hW hS (xm_fix (by decide)) xce_12 rfl (kX6_thrown l hl0 G sh q1.2.1 s5 q1.2.2  _ hc7) (xgV xw_872 xw_873 xw_874 xw_4 xw_875) rfl xd_X6_thrown ⟨(Nat.le_of_ble_eq_true rfl), (Nat.le_of_ble_eq_true rfl)⟩ rfl hl.1 rfl (Nat.le_of_ble_eq_true rfl) dL_law_1736 ⟨by show cells + 1 + 0 ≤ 803720; omega, by show slots + 6 + 0 ≤ 6592785; omega⟩ (fun v9 H locs hres hW hS => ?_) (fun E9 H locs q9 ce9 hres => by cases hres)
  cases hres
  refine W.eq (g2 := F0 m 1739 ls (.int v6 :: [])) rfl ?_
  refine lv_iload hx hb dL_law_1739 (lv_at hl 1 rfl) ?_
  refine lv_icmp_eq (tgt := 1746) hx hb dL_law_1741 (by decide) (fun c9 => ?_) (fun c9 => ?_)
  · replace hf := if_t c9 hf
    refine lv_iload hx hb dL_law_1746 (lv_at hl 1 rfl) ?_
    refine lv_if_ne (tgt := 1763) hx hb dL_law_1748 (by decide) (fun c10 => ?_) (fun c10 => ?_)
    · replace hf := if_f c10 hf
      refine lv_goto (tgt := 2017) hx hb dL_law_1763 (by decide) ?_
      cases hf
      refine W.widen (k := cells + 16) (n := slots + 128) (by show cells + 1 ≤ _; omega) (by show slots + 6 ≤ _; omega) ?_
      exact hk sh _ _ ls rfl rfl ⟨ex, em, eo, ed⟩ hW hS (lv_sub hl [2, 3, 4, 5, 6, 7] rfl)
    · replace hf := if_t c10 hf
      refine lv_aload_n hx hb dL_law_1751 rfl (lv_at hl 6 rfl) ?_
      refine lv_iconst (v := 0) hx hb dL_law_1752 (by decide) ?_
      refine W.eq (g2 := F0 m 1753 ls (.int 0 :: .ref (sh.1 14 0) :: [])) (by rw [eo]) ?_
      refine xlald F hT hW dL_law_1753 ?_
      refine lv_iload hx hb dL_law_1754 (lv_at hl 0 rfl) ?_
      refine lv_i2l hx hb dL_law_1756 rfl ?_
      refine W.lcmp hx hb dL_law_1757 ?_
      refine lv_if_eq (tgt := 1763) hx hb dL_law_1758 (by decide) (fun c11 => ?_) (fun c11 => ?_)
      · replace hf := if_t c11 hf
        refine lv_goto (tgt := 2017) hx hb dL_law_1763 (by decide) ?_
        cases hf
        refine W.widen (k := cells + 16) (n := slots + 128) (by show cells + 1 ≤ _; omega) (by show slots + 6 ≤ _; omega) ?_
        exact hk sh _ _ ls rfl rfl ⟨ex, em, eo, ed⟩ hW hS (lv_sub hl [2, 3, 4, 5, 6, 7] rfl)
      · replace hf := if_f c11 hf
        refine lv_iconst (v := 0) hx hb dL_law_1761 (by decide) ?_
        cases hf
  · replace hf := if_f c9 hf
    refine lv_iconst (v := 0) hx hb dL_law_1744 (by decide) ?_
    cases hf
def fC_27 (nS nT : Nat) (a1 : Int32) (sc : xSC) (sr : xSR) (sl : xSL) : Option xR5 := oB (fL_planned nS nT a1 sc sl) (fun q1 => oP (fX6_planned a1 sr) (fun v3 s5 => oB (fX6_thrown s5) (fun v6 => (if v6 = q1.1 then (if q1.1 = 0 then (if (lg_cmp q1.2.2.1 ((v3).toInt64)) = 0 then some (nS, nT, q1.2.1, s5, q1.2.2) else none) else some (nS, nT, q1.2.1, s5, q1.2.2)) else none))))
set_option maxHeartbeats 4000000 in
set_option maxRecDepth 100000 in
theorem kC_27 {p : Program} {l : Launch} {e : Env} {s : State} {m : MethodId} {args : Array Value} {below : List Frame} {meth : Method} {c : Code} {H : Heap} {locs : List Loc} {cells slots : Nat} {Q : State → Prop} {ls : Array Slot} {G : xG} {sh : xSh} {sc : xSC} {sr : xSR} {sl : xSL} {b L xa ma oa da : Nat} {xs : Nat → Int32} {x5 a1 a2 a3 a4 a5 : Int32} (hl0 : l.stackTraces = false) (F : CallFix p m c code 9 s args xB RL) (hT : xTb G s s.heap) (hX : va_X b L xs s s.heap) (hbl : b < s.heap.size) (hbA : ¬ xA G b) (hi1 : vp_in (x5 + 1) L) (hi2 : vp_in (x5 + 2) L) (hi3 : vp_in (x5 + 3) L) (hi4 : vp_in (x5 + 4) L) (hi5 : vp_in (x5 + 5) L) (ha1 : xs (x5 + 1).toNatClampNeg = a1) (ha2 : xs (x5 + 2).toNatClampNeg = a2) (ha3 : xs (x5 + 3).toNatClampNeg = a3) (ha4 : xs (x5 + 4).toNatClampNeg = a4) (ha5 : xs (x5 + 5).toNatClampNeg = a5) (hcl : cells + 16 ≤ 803720) (hsl : slots + 128 ≤ 6592785) (hat : xat sh xa ma oa da) (hW : xWd G sh sc sr sl H) (hS : va_S (xA G) s.heap H locs) (hl : lv_has ls 9 [(5, .int x5), (0, .ref b), (1, .ref xa), (2, .ref ma), (3, .ref oa), (4, .ref da)]) (r : xR5) (hf : fC_27 sh.2.1 sh.2.2 a1 sc sr sl = some r) (hk : ∀ (sh2 : xSh) (H : Heap) (locs : List Loc) (ls : Array Slot), sh2.2.1 = r.1 → sh2.2.2 = r.2.1 → xat sh2 xa ma oa da → xWd G sh2 r.2.2.1 r.2.2.2.1 r.2.2.2.2 H → va_S (xA G) s.heap H locs → lv_has ls 9 [(5, .int x5), (0, .ref b), (1, .ref xa), (2, .ref ma), (3, .ref oa), (4, .ref da)] → W p l e room_1 s m args below meth c H locs (cells + 16) (slots + 128) Q (F0 m 2017 ls [])) : W p l e room_1 s m args below meth c H locs cells slots Q (F0 m 1766 ls []) := by
  have hx := F.1
  have hb := F.2.1
  obtain ⟨ex, em, eo, ed⟩ := hat
  unfold fC_27 at hf
  refine lv_aload_n hx hb dL_law_1766 rfl (lv_at hl 2 rfl) ?_
  refine lv_aload_n hx hb dL_law_1767 rfl (lv_at hl 1 rfl) ?_
  refine lv_iload hx hb dL_law_1768 (lv_at hl 0 rfl) ?_
  refine lv_iconst (v := 1) hx hb dL_law_1770 (by decide) ?_
  refine lv_iadd hx hb dL_law_1771 ?_
  refine va_sld hx hb hX hbl hbA hS hi1 dL_law_1772 ?_
  rw [ha1]
  refine lv_aload_n hx hb dL_law_1773 rfl (lv_at hl 4 rfl) ?_
  obtain ⟨q1, hc2, hf⟩ := oB_go hf
  refine W.eq (g2 := F0 m 1774 ls (.ref (sh.1 14 0) :: .int a1 :: .ref (sh.1 0 0) :: [])) (by rw [eo, ex]) ?_
  refine xcallSX (n := 3) F hT hW hS (kL_planned l hl0 G sh sc sr sl a1 _ hc2) (xgSW (fun _ h => h) xw_756 xw_757 xw_0 xw_758) rfl xd_L_planned.2 ⟨(Nat.le_of_ble_eq_true rfl), (Nat.le_of_ble_eq_true rfl)⟩ rfl hl.1 rfl (Nat.le_of_ble_eq_true rfl) dL_law_1774 ⟨by show cells + 0 + 2 ≤ 803720; omega, by show slots + 0 + 12 ≤ 6592785; omega⟩ (fun v9 H locs hres hW hS => ?_) (fun E9 H locs q9 ce9 hres => by cases hres)
  cases hres
  refine W.eq (g2 := F0 m 1777 ls (.int q1.1 :: [])) rfl ?_
  refine lv_istore (lv' := [(6, .int q1.1), (5, .int x5), (0, .ref b), (1, .ref xa), (2, .ref ma), (3, .ref oa), (4, .ref da)]) hx hb dL_law_1777 hl (by decide) rfl (fun ls hl => ?_)
  refine lv_aload_n hx hb dL_law_1779 rfl (lv_at hl 4 rfl) ?_
  refine lv_aload_n hx hb dL_law_1780 rfl (lv_at hl 2 rfl) ?_
  refine lv_iload hx hb dL_law_1781 (lv_at hl 1 rfl) ?_
  refine lv_iconst (v := 1) hx hb dL_law_1783 (by decide) ?_
  refine lv_iadd hx hb dL_law_1784 ?_
  refine va_sld hx hb hX hbl hbA hS hi1 dL_law_1785 ?_
  rw [ha1]
  obtain ⟨v3, s5, hc4, hf⟩ := oP_go hf
  refine W.eq (g2 := F0 m 1786 ls (.int a1 :: .ref (sh.1 12 0) :: [])) (by rw [em]) ?_
  refine xcallV (n := 1) F hT hW hS (xm_fix (by decide)) xce_12 rfl (kX6_planned l hl0 G sh q1.2.1 sr q1.2.2 a1 _ hc4) (xgV xw_1094 xw_1095 xw_1096 xw_4 xw_1097) rfl xd_X6_planned ⟨(Nat.le_of_ble_eq_true rfl), (Nat.le_of_ble_eq_true rfl)⟩ rfl hl.1 rfl (Nat.le_of_ble_eq_true rfl) dL_law_1786 ⟨by show cells + 2 + 0 ≤ 803720; omega, by show slots + 12 + 0 ≤ 6592785; omega⟩ (fun v9 H locs hres hW hS => ?_) (fun E9 H locs q9 ce9 hres => by cases hres)
  cases hres
  refine W.eq (g2 := F0 m 1789 ls (.int v3 :: [])) rfl ?_
  refine lv_istore (lv' := [(7, .int v3), (6, .int q1.1), (5, .int x5), (0, .ref b), (1, .ref xa), (2, .ref ma), (3, .ref oa), (4, .ref da)]) hx hb dL_law_1789 hl (by decide) rfl (fun ls hl => ?_)
  refine lv_aload_n hx hb dL_law_1791 rfl (lv_at hl 5 rfl) ?_
  obtain ⟨v6, hc7, hf⟩ := oB_go hf
  refine W.eq (g2 := F0 m 1792 ls (.ref (sh.1 12 0) :: [])) (by rw [em]) ?_
  refine xcallV (n := 0) F hT hW hS (xm_fix (by decide)) xce_12 rfl (kX6_thrown l hl0 G sh q1.2.1 s5 q1.2.2  _ hc7) (xgV xw_872 xw_873 xw_874 xw_4 xw_875) rfl xd_X6_thrown ⟨(Nat.le_of_ble_eq_true rfl), (Nat.le_of_ble_eq_true rfl)⟩ rfl hl.1 rfl (Nat.le_of_ble_eq_true rfl) dL_law_1792 ⟨by show cells + 2 + 0 ≤ 803720; omega, by show slots + 12 + 0 ≤ 6592785; omega⟩ (fun v9 H locs hres hW hS => ?_) (fun E9 H locs q9 ce9 hres => by cases hres)
  cases hres
  refine W.eq (g2 := F0 m 1795 ls (.int v6 :: [])) rfl ?_
  refine lv_iload hx hb dL_law_1795 (lv_at hl 1 rfl) ?_
  refine lv_icmp_eq (tgt := 1802) hx hb dL_law_1797 (by decide) (fun c9 => ?_) (fun c9 => ?_)
  · replace hf := if_t c9 hf
    refine lv_iload hx hb dL_law_1802 (lv_at hl 1 rfl) ?_
    refine lv_if_ne (tgt := 1819) hx hb dL_law_1804 (by decide) (fun c10 => ?_) (fun c10 => ?_)
    · replace hf := if_f c10 hf
      refine lv_goto (tgt := 2017) hx hb dL_law_1819 (by decide) ?_
      cases hf
      refine W.widen (k := cells + 16) (n := slots + 128) (by show cells + 2 ≤ _; omega) (by show slots + 12 ≤ _; omega) ?_
      exact hk sh _ _ ls rfl rfl ⟨ex, em, eo, ed⟩ hW hS (lv_sub hl [2, 3, 4, 5, 6, 7] rfl)
    · replace hf := if_t c10 hf
      refine lv_aload_n hx hb dL_law_1807 rfl (lv_at hl 6 rfl) ?_
      refine lv_iconst (v := 0) hx hb dL_law_1808 (by decide) ?_
      refine W.eq (g2 := F0 m 1809 ls (.int 0 :: .ref (sh.1 14 0) :: [])) (by rw [eo]) ?_
      refine xlald F hT hW dL_law_1809 ?_
      refine lv_iload hx hb dL_law_1810 (lv_at hl 0 rfl) ?_
      refine lv_i2l hx hb dL_law_1812 rfl ?_
      refine W.lcmp hx hb dL_law_1813 ?_
      refine lv_if_eq (tgt := 1819) hx hb dL_law_1814 (by decide) (fun c11 => ?_) (fun c11 => ?_)
      · replace hf := if_t c11 hf
        refine lv_goto (tgt := 2017) hx hb dL_law_1819 (by decide) ?_
        cases hf
        refine W.widen (k := cells + 16) (n := slots + 128) (by show cells + 2 ≤ _; omega) (by show slots + 12 ≤ _; omega) ?_
        exact hk sh _ _ ls rfl rfl ⟨ex, em, eo, ed⟩ hW hS (lv_sub hl [2, 3, 4, 5, 6, 7] rfl)
      · replace hf := if_f c11 hf
        refine lv_iconst (v := 0) hx hb dL_law_1817 (by decide) ?_
        cases hf
  · replace hf := if_f c9 hf
    refine lv_iconst (v := 0) hx hb dL_law_1800 (by decide) ?_
    cases hf
def fC_28 (nS nT : Nat) (sc : xSC) (sr : xSR) (sl : xSL) : Option xR5 := oP (fX5_soundPlans nS nT sc) (fun v1 s3 => oP (fX6_soundPlans sr) (fun v4 s6 => (if v1 = v4 then some (nS, nT, s3, s6, sl) else none)))
set_option maxHeartbeats 4000000 in
set_option maxRecDepth 100000 in
theorem kC_28 {p : Program} {l : Launch} {e : Env} {s : State} {m : MethodId} {args : Array Value} {below : List Frame} {meth : Method} {c : Code} {H : Heap} {locs : List Loc} {cells slots : Nat} {Q : State → Prop} {ls : Array Slot} {G : xG} {sh : xSh} {sc : xSC} {sr : xSR} {sl : xSL} {b L xa ma oa da : Nat} {xs : Nat → Int32} {x5 a1 a2 a3 a4 a5 : Int32} (hl0 : l.stackTraces = false) (F : CallFix p m c code 9 s args xB RL) (hT : xTb G s s.heap) (hX : va_X b L xs s s.heap) (hbl : b < s.heap.size) (hbA : ¬ xA G b) (hi1 : vp_in (x5 + 1) L) (hi2 : vp_in (x5 + 2) L) (hi3 : vp_in (x5 + 3) L) (hi4 : vp_in (x5 + 4) L) (hi5 : vp_in (x5 + 5) L) (ha1 : xs (x5 + 1).toNatClampNeg = a1) (ha2 : xs (x5 + 2).toNatClampNeg = a2) (ha3 : xs (x5 + 3).toNatClampNeg = a3) (ha4 : xs (x5 + 4).toNatClampNeg = a4) (ha5 : xs (x5 + 5).toNatClampNeg = a5) (hcl : cells + 16 ≤ 803720) (hsl : slots + 128 ≤ 6592785) (hat : xat sh xa ma oa da) (hW : xWd G sh sc sr sl H) (hS : va_S (xA G) s.heap H locs) (hl : lv_has ls 9 [(5, .int x5), (0, .ref b), (1, .ref xa), (2, .ref ma), (3, .ref oa), (4, .ref da)]) (r : xR5) (hf : fC_28 sh.2.1 sh.2.2 sc sr sl = some r) (hk : ∀ (sh2 : xSh) (H : Heap) (locs : List Loc) (ls : Array Slot), sh2.2.1 = r.1 → sh2.2.2 = r.2.1 → xat sh2 xa ma oa da → xWd G sh2 r.2.2.1 r.2.2.2.1 r.2.2.2.2 H → va_S (xA G) s.heap H locs → lv_has ls 9 [(5, .int x5), (0, .ref b), (1, .ref xa), (2, .ref ma), (3, .ref oa), (4, .ref da)] → W p l e room_1 s m args below meth c H locs (cells + 16) (slots + 128) Q (F0 m 2017 ls [])) : W p l e room_1 s m args below meth c H locs cells slots Q (F0 m 1822 ls []) := by
  have hx := F.1
  have hb := F.2.1
  obtain ⟨ex, em, eo, ed⟩ := hat
  unfold fC_28 at hf
  refine lv_aload_n hx hb dL_law_1822 rfl (lv_at hl 2 rfl) ?_
  obtain ⟨v1, s3, hc2, hf⟩ := oP_go hf
  refine W.eq (g2 := F0 m 1823 ls (.ref (sh.1 0 0) :: [])) (by rw [ex]) ?_
  refine xcallV (n := 0) F hT hW hS (xm_fix (by decide)) xce_0 rfl (kX5_soundPlans l hl0 G sh sc sr sl  _ hc2) (xgV xw_116 xw_117 xw_118 xw_1 xw_119) rfl xd_X5_soundPlans ⟨(Nat.le_of_ble_eq_true rfl), (Nat.le_of_ble_eq_true rfl)⟩ rfl hl.1 rfl (Nat.le_of_ble_eq_true rfl) dL_law_1823 ⟨by show cells + 0 + 0 ≤ 803720; omega, by show slots + 0 + 0 ≤ 6592785; omega⟩ (fun v9 H locs hres hW hS => ?_) (fun E9 H locs q9 ce9 hres => by cases hres)
  cases hres
  refine W.eq (g2 := F0 m 1826 ls (.int v1 :: [])) rfl ?_
  refine lv_aload_n hx hb dL_law_1826 rfl (lv_at hl 3 rfl) ?_
  obtain ⟨v4, s6, hc5, hf⟩ := oP_go hf
  refine W.eq (g2 := F0 m 1827 ls (.ref (sh.1 12 0) :: .int v1 :: [])) (by rw [em]) ?_
  refine xcallV (n := 0) F hT hW hS (xm_fix (by decide)) xce_12 rfl (kX6_soundPlans l hl0 G sh s3 sr sl  _ hc5) (xgV xw_1098 xw_1099 xw_1100 xw_4 xw_1101) rfl xd_X6_soundPlans ⟨(Nat.le_of_ble_eq_true rfl), (Nat.le_of_ble_eq_true rfl)⟩ rfl hl.1 rfl (Nat.le_of_ble_eq_true rfl) dL_law_1827 ⟨by show cells + 0 + 0 ≤ 803720; omega, by show slots + 0 + 0 ≤ 6592785; omega⟩ (fun v9 H locs hres hW hS => ?_) (fun E9 H locs q9 ce9 hres => by cases hres)
  cases hres
  refine W.eq (g2 := F0 m 1830 ls (.int v4 :: .int v1 :: [])) rfl ?_
  refine lv_icmp_eq (tgt := 2017) hx hb dL_law_1830 (by decide) (fun c7 => ?_) (fun c7 => ?_)
  · replace hf := if_t c7 hf
    cases hf
    refine W.widen (k := cells + 16) (n := slots + 128) (by show cells + 0 ≤ _; omega) (by show slots + 0 ≤ _; omega) ?_
    exact hk sh _ _ ls rfl rfl ⟨ex, em, eo, ed⟩ hW hS (lv_sub hl [0, 1, 2, 3, 4, 5] rfl)
  · replace hf := if_f c7 hf
    refine lv_iconst (v := 0) hx hb dL_law_1833 (by decide) ?_
    cases hf
def fC_29 (nS nT : Nat) (sc : xSC) (sr : xSR) (sl : xSL) : Option xR5 := oB (fX5_switches nS nT sc) (fun v1 => oP (fX6_switches sr) (fun v4 s6 => (if v1 = v4 then some (nS, nT, sc, s6, sl) else none)))
set_option maxHeartbeats 4000000 in
set_option maxRecDepth 100000 in
theorem kC_29 {p : Program} {l : Launch} {e : Env} {s : State} {m : MethodId} {args : Array Value} {below : List Frame} {meth : Method} {c : Code} {H : Heap} {locs : List Loc} {cells slots : Nat} {Q : State → Prop} {ls : Array Slot} {G : xG} {sh : xSh} {sc : xSC} {sr : xSR} {sl : xSL} {b L xa ma oa da : Nat} {xs : Nat → Int32} {x5 a1 a2 a3 a4 a5 : Int32} (hl0 : l.stackTraces = false) (F : CallFix p m c code 9 s args xB RL) (hT : xTb G s s.heap) (hX : va_X b L xs s s.heap) (hbl : b < s.heap.size) (hbA : ¬ xA G b) (hi1 : vp_in (x5 + 1) L) (hi2 : vp_in (x5 + 2) L) (hi3 : vp_in (x5 + 3) L) (hi4 : vp_in (x5 + 4) L) (hi5 : vp_in (x5 + 5) L) (ha1 : xs (x5 + 1).toNatClampNeg = a1) (ha2 : xs (x5 + 2).toNatClampNeg = a2) (ha3 : xs (x5 + 3).toNatClampNeg = a3) (ha4 : xs (x5 + 4).toNatClampNeg = a4) (ha5 : xs (x5 + 5).toNatClampNeg = a5) (hcl : cells + 16 ≤ 803720) (hsl : slots + 128 ≤ 6592785) (hat : xat sh xa ma oa da) (hW : xWd G sh sc sr sl H) (hS : va_S (xA G) s.heap H locs) (hl : lv_has ls 9 [(5, .int x5), (0, .ref b), (1, .ref xa), (2, .ref ma), (3, .ref oa), (4, .ref da)]) (r : xR5) (hf : fC_29 sh.2.1 sh.2.2 sc sr sl = some r) (hk : ∀ (sh2 : xSh) (H : Heap) (locs : List Loc) (ls : Array Slot), sh2.2.1 = r.1 → sh2.2.2 = r.2.1 → xat sh2 xa ma oa da → xWd G sh2 r.2.2.1 r.2.2.2.1 r.2.2.2.2 H → va_S (xA G) s.heap H locs → lv_has ls 9 [(5, .int x5), (0, .ref b), (1, .ref xa), (2, .ref ma), (3, .ref oa), (4, .ref da)] → W p l e room_1 s m args below meth c H locs (cells + 16) (slots + 128) Q (F0 m 2017 ls [])) : W p l e room_1 s m args below meth c H locs cells slots Q (F0 m 1835 ls []) := by
  have hx := F.1
  have hb := F.2.1
  obtain ⟨ex, em, eo, ed⟩ := hat
  unfold fC_29 at hf
  refine lv_aload_n hx hb dL_law_1835 rfl (lv_at hl 2 rfl) ?_
  obtain ⟨v1, hc2, hf⟩ := oB_go hf
  refine W.eq (g2 := F0 m 1836 ls (.ref (sh.1 0 0) :: [])) (by rw [ex]) ?_
  refine xcallV (n := 0) F hT hW hS (xm_fix (by decide)) xce_0 rfl (kX5_switches l hl0 G sh sc sr sl  _ hc2) (xgV xw_168 xw_169 xw_170 xw_1 xw_171) rfl xd_X5_switches ⟨(Nat.le_of_ble_eq_true rfl), (Nat.le_of_ble_eq_true rfl)⟩ rfl hl.1 rfl (Nat.le_of_ble_eq_true rfl) dL_law_1836 ⟨by show cells + 0 + 0 ≤ 803720; omega, by show slots + 0 + 0 ≤ 6592785; omega⟩ (fun v9 H locs hres hW hS => ?_) (fun E9 H locs q9 ce9 hres => by cases hres)
  cases hres
  refine W.eq (g2 := F0 m 1839 ls (.int v1 :: [])) rfl ?_
  refine lv_aload_n hx hb dL_law_1839 rfl (lv_at hl 3 rfl) ?_
  obtain ⟨v4, s6, hc5, hf⟩ := oP_go hf
  refine W.eq (g2 := F0 m 1840 ls (.ref (sh.1 12 0) :: .int v1 :: [])) (by rw [em]) ?_
  refine xcallV (n := 0) F hT hW hS (xm_fix (by decide)) xce_12 rfl (kX6_switches l hl0 G sh sc sr sl  _ hc5) (xgV xw_1102 xw_1103 xw_1104 xw_4 xw_1105) rfl xd_X6_switches ⟨(Nat.le_of_ble_eq_true rfl), (Nat.le_of_ble_eq_true rfl)⟩ rfl hl.1 rfl (Nat.le_of_ble_eq_true rfl) dL_law_1840 ⟨by show cells + 0 + 0 ≤ 803720; omega, by show slots + 0 + 0 ≤ 6592785; omega⟩ (fun v9 H locs hres hW hS => ?_) (fun E9 H locs q9 ce9 hres => by cases hres)
  cases hres
  refine W.eq (g2 := F0 m 1843 ls (.int v4 :: .int v1 :: [])) rfl ?_
  refine lv_icmp_eq (tgt := 2017) hx hb dL_law_1843 (by decide) (fun c7 => ?_) (fun c7 => ?_)
  · replace hf := if_t c7 hf
    cases hf
    refine W.widen (k := cells + 16) (n := slots + 128) (by show cells + 0 ≤ _; omega) (by show slots + 0 ≤ _; omega) ?_
    exact hk sh _ _ ls rfl rfl ⟨ex, em, eo, ed⟩ hW hS (lv_sub hl [0, 1, 2, 3, 4, 5] rfl)
  · replace hf := if_f c7 hf
    refine lv_iconst (v := 0) hx hb dL_law_1846 (by decide) ?_
    cases hf
def fC_30 (nS nT : Nat) (sc : xSC) (sr : xSR) (sl : xSL) : Option xR5 := oB (fX5_hoursOver nS nT sc) (fun v1 => oP (fX6_hoursOver sr) (fun v4 s6 => (if (lg_cmp v1 v4) = 0 then some (nS, nT, sc, s6, sl) else none)))
set_option maxHeartbeats 4000000 in
set_option maxRecDepth 100000 in
theorem kC_30 {p : Program} {l : Launch} {e : Env} {s : State} {m : MethodId} {args : Array Value} {below : List Frame} {meth : Method} {c : Code} {H : Heap} {locs : List Loc} {cells slots : Nat} {Q : State → Prop} {ls : Array Slot} {G : xG} {sh : xSh} {sc : xSC} {sr : xSR} {sl : xSL} {b L xa ma oa da : Nat} {xs : Nat → Int32} {x5 a1 a2 a3 a4 a5 : Int32} (hl0 : l.stackTraces = false) (F : CallFix p m c code 9 s args xB RL) (hT : xTb G s s.heap) (hX : va_X b L xs s s.heap) (hbl : b < s.heap.size) (hbA : ¬ xA G b) (hi1 : vp_in (x5 + 1) L) (hi2 : vp_in (x5 + 2) L) (hi3 : vp_in (x5 + 3) L) (hi4 : vp_in (x5 + 4) L) (hi5 : vp_in (x5 + 5) L) (ha1 : xs (x5 + 1).toNatClampNeg = a1) (ha2 : xs (x5 + 2).toNatClampNeg = a2) (ha3 : xs (x5 + 3).toNatClampNeg = a3) (ha4 : xs (x5 + 4).toNatClampNeg = a4) (ha5 : xs (x5 + 5).toNatClampNeg = a5) (hcl : cells + 16 ≤ 803720) (hsl : slots + 128 ≤ 6592785) (hat : xat sh xa ma oa da) (hW : xWd G sh sc sr sl H) (hS : va_S (xA G) s.heap H locs) (hl : lv_has ls 9 [(5, .int x5), (0, .ref b), (1, .ref xa), (2, .ref ma), (3, .ref oa), (4, .ref da)]) (r : xR5) (hf : fC_30 sh.2.1 sh.2.2 sc sr sl = some r) (hk : ∀ (sh2 : xSh) (H : Heap) (locs : List Loc) (ls : Array Slot), sh2.2.1 = r.1 → sh2.2.2 = r.2.1 → xat sh2 xa ma oa da → xWd G sh2 r.2.2.1 r.2.2.2.1 r.2.2.2.2 H → va_S (xA G) s.heap H locs → lv_has ls 9 [(5, .int x5), (0, .ref b), (1, .ref xa), (2, .ref ma), (3, .ref oa), (4, .ref da)] → W p l e room_1 s m args below meth c H locs (cells + 16) (slots + 128) Q (F0 m 2017 ls [])) : W p l e room_1 s m args below meth c H locs cells slots Q (F0 m 1848 ls []) := by
  have hx := F.1
  have hb := F.2.1
  obtain ⟨ex, em, eo, ed⟩ := hat
  unfold fC_30 at hf
  refine lv_aload_n hx hb dL_law_1848 rfl (lv_at hl 2 rfl) ?_
  obtain ⟨v1, hc2, hf⟩ := oB_go hf
  refine W.eq (g2 := F0 m 1849 ls (.ref (sh.1 0 0) :: [])) (by rw [ex]) ?_
  refine xcallV (n := 0) F hT hW hS (xm_fix (by decide)) xce_0 rfl (kX5_hoursOver l hl0 G sh sc sr sl  _ hc2) (xgV xw_172 xw_173 xw_174 xw_1 xw_175) rfl xd_X5_hoursOver ⟨(Nat.le_of_ble_eq_true rfl), (Nat.le_of_ble_eq_true rfl)⟩ rfl hl.1 rfl (Nat.le_of_ble_eq_true rfl) dL_law_1849 ⟨by show cells + 0 + 0 ≤ 803720; omega, by show slots + 0 + 0 ≤ 6592785; omega⟩ (fun v9 H locs hres hW hS => ?_) (fun E9 H locs q9 ce9 hres => by cases hres)
  cases hres
  refine W.eq (g2 := F0 m 1852 ls (.long v1 :: [])) rfl ?_
  refine lv_aload_n hx hb dL_law_1852 rfl (lv_at hl 3 rfl) ?_
  obtain ⟨v4, s6, hc5, hf⟩ := oP_go hf
  refine W.eq (g2 := F0 m 1853 ls (.ref (sh.1 12 0) :: .long v1 :: [])) (by rw [em]) ?_
  refine xcallV (n := 0) F hT hW hS (xm_fix (by decide)) xce_12 rfl (kX6_hoursOver l hl0 G sh sc sr sl  _ hc5) (xgV xw_1106 xw_1107 xw_1108 xw_4 xw_1109) rfl xd_X6_hoursOver ⟨(Nat.le_of_ble_eq_true rfl), (Nat.le_of_ble_eq_true rfl)⟩ rfl hl.1 rfl (Nat.le_of_ble_eq_true rfl) dL_law_1853 ⟨by show cells + 0 + 0 ≤ 803720; omega, by show slots + 0 + 0 ≤ 6592785; omega⟩ (fun v9 H locs hres hW hS => ?_) (fun E9 H locs q9 ce9 hres => by cases hres)
  cases hres
  refine W.eq (g2 := F0 m 1856 ls (.long v4 :: .long v1 :: [])) rfl ?_
  refine W.lcmp hx hb dL_law_1856 ?_
  refine lv_if_eq (tgt := 2017) hx hb dL_law_1857 (by decide) (fun c7 => ?_) (fun c7 => ?_)
  · replace hf := if_t c7 hf
    cases hf
    refine W.widen (k := cells + 16) (n := slots + 128) (by show cells + 0 ≤ _; omega) (by show slots + 0 ≤ _; omega) ?_
    exact hk sh _ _ ls rfl rfl ⟨ex, em, eo, ed⟩ hW hS (lv_sub hl [0, 1, 2, 3, 4, 5] rfl)
  · replace hf := if_f c7 hf
    refine lv_iconst (v := 0) hx hb dL_law_1860 (by decide) ?_
    cases hf
def fC_31 (nS nT : Nat) (a1 : Int32) (a2 : Int32) (sc : xSC) (sr : xSR) (sl : xSL) : Option xR5 := oB (fL_shareOf nS nT a1 a2 sc sl) (fun q1 => oP (fX6_shareOf a1 a2 sr) (fun v3 s5 => oB (fX6_thrown s5) (fun v6 => (if v6 = q1.1 then (if q1.1 = 0 then oG (xn64 (FP.f2d v3)) ((if (Op.cmpValue (FP.dcmp q1.2.2.2 (FP.f2d v3)) .l) = 0 then some (nS, nT, q1.2.1, s5, q1.2.2) else (if (Op.cmpValue (FP.dcmp q1.2.2.2 q1.2.2.2) .l) = 0 then none else (if (Op.cmpValue (FP.fcmp v3 v3) .l) = 0 then none else some (nS, nT, q1.2.1, s5, q1.2.2))))) else some (nS, nT, q1.2.1, s5, q1.2.2)) else none))))
set_option maxHeartbeats 4000000 in
set_option maxRecDepth 100000 in
theorem kC_31 {p : Program} {l : Launch} {e : Env} {s : State} {m : MethodId} {args : Array Value} {below : List Frame} {meth : Method} {c : Code} {H : Heap} {locs : List Loc} {cells slots : Nat} {Q : State → Prop} {ls : Array Slot} {G : xG} {sh : xSh} {sc : xSC} {sr : xSR} {sl : xSL} {b L xa ma oa da : Nat} {xs : Nat → Int32} {x5 a1 a2 a3 a4 a5 : Int32} (hl0 : l.stackTraces = false) (F : CallFix p m c code 9 s args xB RL) (hT : xTb G s s.heap) (hX : va_X b L xs s s.heap) (hbl : b < s.heap.size) (hbA : ¬ xA G b) (hi1 : vp_in (x5 + 1) L) (hi2 : vp_in (x5 + 2) L) (hi3 : vp_in (x5 + 3) L) (hi4 : vp_in (x5 + 4) L) (hi5 : vp_in (x5 + 5) L) (ha1 : xs (x5 + 1).toNatClampNeg = a1) (ha2 : xs (x5 + 2).toNatClampNeg = a2) (ha3 : xs (x5 + 3).toNatClampNeg = a3) (ha4 : xs (x5 + 4).toNatClampNeg = a4) (ha5 : xs (x5 + 5).toNatClampNeg = a5) (hcl : cells + 16 ≤ 803720) (hsl : slots + 128 ≤ 6592785) (hat : xat sh xa ma oa da) (hW : xWd G sh sc sr sl H) (hS : va_S (xA G) s.heap H locs) (hl : lv_has ls 9 [(5, .int x5), (0, .ref b), (1, .ref xa), (2, .ref ma), (3, .ref oa), (4, .ref da)]) (r : xR5) (hf : fC_31 sh.2.1 sh.2.2 a1 a2 sc sr sl = some r) (hk : ∀ (sh2 : xSh) (H : Heap) (locs : List Loc) (ls : Array Slot), sh2.2.1 = r.1 → sh2.2.2 = r.2.1 → xat sh2 xa ma oa da → xWd G sh2 r.2.2.1 r.2.2.2.1 r.2.2.2.2 H → va_S (xA G) s.heap H locs → lv_has ls 9 [(5, .int x5), (0, .ref b), (1, .ref xa), (2, .ref ma), (3, .ref oa), (4, .ref da)] → W p l e room_1 s m args below meth c H locs (cells + 16) (slots + 128) Q (F0 m 2017 ls [])) : W p l e room_1 s m args below meth c H locs cells slots Q (F0 m 1862 ls []) := by
  have hx := F.1
  have hb := F.2.1
  obtain ⟨ex, em, eo, ed⟩ := hat
  unfold fC_31 at hf
  refine lv_aload_n hx hb dL_law_1862 rfl (lv_at hl 2 rfl) ?_
  refine lv_aload_n hx hb dL_law_1863 rfl (lv_at hl 1 rfl) ?_
  refine lv_iload hx hb dL_law_1864 (lv_at hl 0 rfl) ?_
  refine lv_iconst (v := 1) hx hb dL_law_1866 (by decide) ?_
  refine lv_iadd hx hb dL_law_1867 ?_
  refine va_sld hx hb hX hbl hbA hS hi1 dL_law_1868 ?_
  rw [ha1]
  refine lv_aload_n hx hb dL_law_1869 rfl (lv_at hl 1 rfl) ?_
  refine lv_iload hx hb dL_law_1870 (lv_at hl 0 rfl) ?_
  refine lv_iconst (v := 2) hx hb dL_law_1872 (by decide) ?_
  refine lv_iadd hx hb dL_law_1873 ?_
  refine va_sld hx hb hX hbl hbA hS hi2 dL_law_1874 ?_
  rw [ha2]
  refine lv_aload hx hb dL_law_1875 (lv_at hl 5 rfl) ?_
  obtain ⟨q1, hc2, hf⟩ := oB_go hf
  refine W.eq (g2 := F0 m 1877 ls (.ref (sh.1 15 0) :: .int a2 :: .int a1 :: .ref (sh.1 0 0) :: [])) (by rw [ed, ex]) ?_
  refine xcallSX (n := 4) F hT hW hS (kL_shareOf l hl0 G sh sc sr sl a1 a2 _ hc2) (xgSW (fun _ h => h) xw_763 xw_764 xw_0 xw_765) rfl xd_L_shareOf.2 ⟨(Nat.le_of_ble_eq_true rfl), (Nat.le_of_ble_eq_true rfl)⟩ rfl hl.1 rfl (Nat.le_of_ble_eq_true rfl) dL_law_1877 ⟨by show cells + 0 + 2 ≤ 803720; omega, by show slots + 0 + 12 ≤ 6592785; omega⟩ (fun v9 H locs hres hW hS => ?_) (fun E9 H locs q9 ce9 hres => by cases hres)
  cases hres
  refine W.eq (g2 := F0 m 1880 ls (.int q1.1 :: [])) rfl ?_
  refine lv_istore (lv' := [(6, .int q1.1), (5, .int x5), (0, .ref b), (1, .ref xa), (2, .ref ma), (3, .ref oa), (4, .ref da)]) hx hb dL_law_1880 hl (by decide) rfl (fun ls hl => ?_)
  refine lv_aload_n hx hb dL_law_1882 rfl (lv_at hl 4 rfl) ?_
  refine lv_aload_n hx hb dL_law_1883 rfl (lv_at hl 2 rfl) ?_
  refine lv_iload hx hb dL_law_1884 (lv_at hl 1 rfl) ?_
  refine lv_iconst (v := 1) hx hb dL_law_1886 (by decide) ?_
  refine lv_iadd hx hb dL_law_1887 ?_
  refine va_sld hx hb hX hbl hbA hS hi1 dL_law_1888 ?_
  rw [ha1]
  refine lv_aload_n hx hb dL_law_1889 rfl (lv_at hl 2 rfl) ?_
  refine lv_iload hx hb dL_law_1890 (lv_at hl 1 rfl) ?_
  refine lv_iconst (v := 2) hx hb dL_law_1892 (by decide) ?_
  refine lv_iadd hx hb dL_law_1893 ?_
  refine va_sld hx hb hX hbl hbA hS hi2 dL_law_1894 ?_
  rw [ha2]
  obtain ⟨v3, s5, hc4, hf⟩ := oP_go hf
  refine W.eq (g2 := F0 m 1895 ls (.int a2 :: .int a1 :: .ref (sh.1 12 0) :: [])) (by rw [em]) ?_
  refine xcallV (n := 2) F hT hW hS (xm_fix (by decide)) xce_12 rfl (kX6_shareOf l hl0 G sh q1.2.1 sr q1.2.2 a1 a2 _ hc4) (xgV xw_1110 xw_1111 xw_1112 xw_4 xw_1113) rfl xd_X6_shareOf ⟨(Nat.le_of_ble_eq_true rfl), (Nat.le_of_ble_eq_true rfl)⟩ rfl hl.1 rfl (Nat.le_of_ble_eq_true rfl) dL_law_1895 ⟨by show cells + 2 + 0 ≤ 803720; omega, by show slots + 12 + 0 ≤ 6592785; omega⟩ (fun v9 H locs hres hW hS => ?_) (fun E9 H locs q9 ce9 hres => by cases hres)
  cases hres
  refine W.eq (g2 := F0 m 1898 ls (.float v3 :: [])) rfl ?_
  refine lv_fstore (lv' := [(7, .float v3), (6, .int q1.1), (5, .int x5), (0, .ref b), (1, .ref xa), (2, .ref ma), (3, .ref oa), (4, .ref da)]) hx hb dL_law_1898 hl (by decide) rfl (fun ls hl => ?_)
  refine lv_aload_n hx hb dL_law_1900 rfl (lv_at hl 5 rfl) ?_
  obtain ⟨v6, hc7, hf⟩ := oB_go hf
  refine W.eq (g2 := F0 m 1901 ls (.ref (sh.1 12 0) :: [])) (by rw [em]) ?_
  refine xcallV (n := 0) F hT hW hS (xm_fix (by decide)) xce_12 rfl (kX6_thrown l hl0 G sh q1.2.1 s5 q1.2.2  _ hc7) (xgV xw_872 xw_873 xw_874 xw_4 xw_875) rfl xd_X6_thrown ⟨(Nat.le_of_ble_eq_true rfl), (Nat.le_of_ble_eq_true rfl)⟩ rfl hl.1 rfl (Nat.le_of_ble_eq_true rfl) dL_law_1901 ⟨by show cells + 2 + 0 ≤ 803720; omega, by show slots + 12 + 0 ≤ 6592785; omega⟩ (fun v9 H locs hres hW hS => ?_) (fun E9 H locs q9 ce9 hres => by cases hres)
  cases hres
  refine W.eq (g2 := F0 m 1904 ls (.int v6 :: [])) rfl ?_
  refine lv_iload hx hb dL_law_1904 (lv_at hl 1 rfl) ?_
  refine lv_icmp_eq (tgt := 1911) hx hb dL_law_1906 (by decide) (fun c9 => ?_) (fun c9 => ?_)
  · replace hf := if_t c9 hf
    refine lv_iload hx hb dL_law_1911 (lv_at hl 1 rfl) ?_
    refine lv_if_ne (tgt := 1949) hx hb dL_law_1913 (by decide) (fun c10 => ?_) (fun c10 => ?_)
    · replace hf := if_f c10 hf
      refine lv_goto (tgt := 2017) hx hb dL_law_1949 (by decide) ?_
      cases hf
      refine W.widen (k := cells + 16) (n := slots + 128) (by show cells + 2 ≤ _; omega) (by show slots + 12 ≤ _; omega) ?_
      exact hk sh _ _ ls rfl rfl ⟨ex, em, eo, ed⟩ hW hS (lv_sub hl [2, 3, 4, 5, 6, 7] rfl)
    · replace hf := if_t c10 hf
      refine lv_aload hx hb dL_law_1916 (lv_at hl 7 rfl) ?_
      refine lv_iconst (v := 0) hx hb dL_law_1918 (by decide) ?_
      refine W.eq (g2 := F0 m 1919 ls (.int 0 :: .ref (sh.1 15 0) :: [])) (by rw [ed]) ?_
      refine xdald F hT hW dL_law_1919 ?_
      refine lv_fload hx hb dL_law_1920 (lv_at hl 0 rfl) ?_
      obtain ⟨g11, hf⟩ := oG_go hf
      refine lv_f2d hx hb dL_law_1922 (xn64_ok g11) ?_
      refine lv_dcmp hx hb dL_law_1923 ?_
      refine lv_if_eq (tgt := 1949) hx hb dL_law_1924 (by decide) (fun c12 => ?_) (fun c12 => ?_)
      · replace hf := if_t c12 hf
        refine lv_goto (tgt := 2017) hx hb dL_law_1949 (by decide) ?_
        cases hf
        refine W.widen (k := cells + 16) (n := slots + 128) (by show cells + 2 ≤ _; omega) (by show slots + 12 ≤ _; omega) ?_
        exact hk sh _ _ ls rfl rfl ⟨ex, em, eo, ed⟩ hW hS (lv_sub hl [2, 3, 4, 5, 6, 7] rfl)
      · replace hf := if_f c12 hf
        refine lv_aload hx hb dL_law_1927 (lv_at hl 7 rfl) ?_
        refine lv_iconst (v := 0) hx hb dL_law_1929 (by decide) ?_
        refine W.eq (g2 := F0 m 1930 ls (.int 0 :: .ref (sh.1 15 0) :: [])) (by rw [ed]) ?_
        refine xdald F hT hW dL_law_1930 ?_
        refine lv_aload hx hb dL_law_1931 (lv_at hl 7 rfl) ?_
        refine lv_iconst (v := 0) hx hb dL_law_1933 (by decide) ?_
        refine W.eq (g2 := F0 m 1934 ls (.int 0 :: .ref (sh.1 15 0) :: .double q1.2.2.2 :: [])) (by rw [ed]) ?_
        refine xdald F hT hW dL_law_1934 ?_
        refine lv_dcmp hx hb dL_law_1935 ?_
        refine lv_if_eq (tgt := 1947) hx hb dL_law_1936 (by decide) (fun c13 => ?_) (fun c13 => ?_)
        · replace hf := if_t c13 hf
          refine lv_iconst (v := 0) hx hb dL_law_1947 (by decide) ?_
          cases hf
        · replace hf := if_f c13 hf
          refine lv_fload hx hb dL_law_1939 (lv_at hl 0 rfl) ?_
          refine lv_fload hx hb dL_law_1941 (lv_at hl 0 rfl) ?_
          refine lv_fcmp hx hb dL_law_1943 ?_
          refine lv_if_ne (tgt := 1949) hx hb dL_law_1944 (by decide) (fun c14 => ?_) (fun c14 => ?_)
          · replace hf := if_f c14 hf
            refine lv_goto (tgt := 2017) hx hb dL_law_1949 (by decide) ?_
            cases hf
            refine W.widen (k := cells + 16) (n := slots + 128) (by show cells + 2 ≤ _; omega) (by show slots + 12 ≤ _; omega) ?_
            exact hk sh _ _ ls rfl rfl ⟨ex, em, eo, ed⟩ hW hS (lv_sub hl [2, 3, 4, 5, 6, 7] rfl)
          · replace hf := if_t c14 hf
            refine lv_iconst (v := 0) hx hb dL_law_1947 (by decide) ?_
            cases hf
  · replace hf := if_f c9 hf
    refine lv_iconst (v := 0) hx hb dL_law_1909 (by decide) ?_
    cases hf
def fC_32 (nS nT : Nat) (sc : xSC) (sr : xSR) (sl : xSL) : Option xR5 := oB (fL_meanStorage nS nT  sc sl) (fun q1 => oP (fX6_meanStorage sr) (fun v3 s5 => oB (fX6_thrown s5) (fun v6 => (if v6 = q1.1 then (if q1.1 = 0 then (if (Op.cmpValue (FP.dcmp q1.2.2.2 v3) .l) = 0 then some (nS, nT, q1.2.1, s5, q1.2.2) else (if (Op.cmpValue (FP.dcmp q1.2.2.2 q1.2.2.2) .l) = 0 then none else (if (Op.cmpValue (FP.dcmp v3 v3) .l) = 0 then none else some (nS, nT, q1.2.1, s5, q1.2.2)))) else some (nS, nT, q1.2.1, s5, q1.2.2)) else none))))
set_option maxHeartbeats 4000000 in
set_option maxRecDepth 100000 in
theorem kC_32 {p : Program} {l : Launch} {e : Env} {s : State} {m : MethodId} {args : Array Value} {below : List Frame} {meth : Method} {c : Code} {H : Heap} {locs : List Loc} {cells slots : Nat} {Q : State → Prop} {ls : Array Slot} {G : xG} {sh : xSh} {sc : xSC} {sr : xSR} {sl : xSL} {b L xa ma oa da : Nat} {xs : Nat → Int32} {x5 a1 a2 a3 a4 a5 : Int32} (hl0 : l.stackTraces = false) (F : CallFix p m c code 9 s args xB RL) (hT : xTb G s s.heap) (hX : va_X b L xs s s.heap) (hbl : b < s.heap.size) (hbA : ¬ xA G b) (hi1 : vp_in (x5 + 1) L) (hi2 : vp_in (x5 + 2) L) (hi3 : vp_in (x5 + 3) L) (hi4 : vp_in (x5 + 4) L) (hi5 : vp_in (x5 + 5) L) (ha1 : xs (x5 + 1).toNatClampNeg = a1) (ha2 : xs (x5 + 2).toNatClampNeg = a2) (ha3 : xs (x5 + 3).toNatClampNeg = a3) (ha4 : xs (x5 + 4).toNatClampNeg = a4) (ha5 : xs (x5 + 5).toNatClampNeg = a5) (hcl : cells + 16 ≤ 803720) (hsl : slots + 128 ≤ 6592785) (hat : xat sh xa ma oa da) (hW : xWd G sh sc sr sl H) (hS : va_S (xA G) s.heap H locs) (hl : lv_has ls 9 [(5, .int x5), (0, .ref b), (1, .ref xa), (2, .ref ma), (3, .ref oa), (4, .ref da)]) (r : xR5) (hf : fC_32 sh.2.1 sh.2.2 sc sr sl = some r) (hk : ∀ (sh2 : xSh) (H : Heap) (locs : List Loc) (ls : Array Slot), sh2.2.1 = r.1 → sh2.2.2 = r.2.1 → xat sh2 xa ma oa da → xWd G sh2 r.2.2.1 r.2.2.2.1 r.2.2.2.2 H → va_S (xA G) s.heap H locs → lv_has ls 9 [(5, .int x5), (0, .ref b), (1, .ref xa), (2, .ref ma), (3, .ref oa), (4, .ref da)] → W p l e room_1 s m args below meth c H locs (cells + 16) (slots + 128) Q (F0 m 2017 ls [])) : W p l e room_1 s m args below meth c H locs cells slots Q (F0 m 1952 ls []) := by
  have hx := F.1
  have hb := F.2.1
  obtain ⟨ex, em, eo, ed⟩ := hat
  unfold fC_32 at hf
  refine lv_aload_n hx hb dL_law_1952 rfl (lv_at hl 2 rfl) ?_
  refine lv_aload hx hb dL_law_1953 (lv_at hl 5 rfl) ?_
  obtain ⟨q1, hc2, hf⟩ := oB_go hf
  refine W.eq (g2 := F0 m 1955 ls (.ref (sh.1 15 0) :: .ref (sh.1 0 0) :: [])) (by rw [ed, ex]) ?_
  refine xcallSX (n := 2) F hT hW hS (kL_meanStorage l hl0 G sh sc sr sl  _ hc2) (xgSW (fun _ h => h) xw_770 xw_771 xw_0 xw_772) rfl xd_L_meanStorage.2 ⟨(Nat.le_of_ble_eq_true rfl), (Nat.le_of_ble_eq_true rfl)⟩ rfl hl.1 rfl (Nat.le_of_ble_eq_true rfl) dL_law_1955 ⟨by show cells + 0 + 1 ≤ 803720; omega, by show slots + 0 + 6 ≤ 6592785; omega⟩ (fun v9 H locs hres hW hS => ?_) (fun E9 H locs q9 ce9 hres => by cases hres)
  cases hres
  refine W.eq (g2 := F0 m 1958 ls (.int q1.1 :: [])) rfl ?_
  refine lv_istore (lv' := [(6, .int q1.1), (5, .int x5), (0, .ref b), (1, .ref xa), (2, .ref ma), (3, .ref oa), (4, .ref da)]) hx hb dL_law_1958 hl (by decide) rfl (fun ls hl => ?_)
  refine lv_aload_n hx hb dL_law_1960 rfl (lv_at hl 4 rfl) ?_
  obtain ⟨v3, s5, hc4, hf⟩ := oP_go hf
  refine W.eq (g2 := F0 m 1961 ls (.ref (sh.1 12 0) :: [])) (by rw [em]) ?_
  refine xcallV (n := 0) F hT hW hS (xm_fix (by decide)) xce_12 rfl (kX6_meanStorage l hl0 G sh q1.2.1 sr q1.2.2  _ hc4) (xgV xw_1114 xw_1115 xw_1116 xw_4 xw_1117) rfl xd_X6_meanStorage ⟨(Nat.le_of_ble_eq_true rfl), (Nat.le_of_ble_eq_true rfl)⟩ rfl hl.1 rfl (Nat.le_of_ble_eq_true rfl) dL_law_1961 ⟨by show cells + 1 + 0 ≤ 803720; omega, by show slots + 6 + 0 ≤ 6592785; omega⟩ (fun v9 H locs hres hW hS => ?_) (fun E9 H locs q9 ce9 hres => by cases hres)
  cases hres
  refine W.eq (g2 := F0 m 1964 ls (.double v3 :: [])) rfl ?_
  refine lv_dstore (lv' := [(7, .double v3), (6, .int q1.1), (5, .int x5), (0, .ref b), (1, .ref xa), (2, .ref ma), (3, .ref oa), (4, .ref da)]) hx hb dL_law_1964 hl (by decide) rfl (fun ls hl => ?_)
  refine lv_aload_n hx hb dL_law_1966 rfl (lv_at hl 5 rfl) ?_
  obtain ⟨v6, hc7, hf⟩ := oB_go hf
  refine W.eq (g2 := F0 m 1967 ls (.ref (sh.1 12 0) :: [])) (by rw [em]) ?_
  refine xcallV (n := 0) F hT hW hS (xm_fix (by decide)) xce_12 rfl (kX6_thrown l hl0 G sh q1.2.1 s5 q1.2.2  _ hc7) (xgV xw_872 xw_873 xw_874 xw_4 xw_875) rfl xd_X6_thrown ⟨(Nat.le_of_ble_eq_true rfl), (Nat.le_of_ble_eq_true rfl)⟩ rfl hl.1 rfl (Nat.le_of_ble_eq_true rfl) dL_law_1967 ⟨by show cells + 1 + 0 ≤ 803720; omega, by show slots + 6 + 0 ≤ 6592785; omega⟩ (fun v9 H locs hres hW hS => ?_) (fun E9 H locs q9 ce9 hres => by cases hres)
  cases hres
  refine W.eq (g2 := F0 m 1970 ls (.int v6 :: [])) rfl ?_
  refine lv_iload hx hb dL_law_1970 (lv_at hl 1 rfl) ?_
  refine lv_icmp_eq (tgt := 1977) hx hb dL_law_1972 (by decide) (fun c9 => ?_) (fun c9 => ?_)
  · replace hf := if_t c9 hf
    refine lv_iload hx hb dL_law_1977 (lv_at hl 1 rfl) ?_
    refine lv_if_ne (tgt := 2014) hx hb dL_law_1979 (by decide) (fun c10 => ?_) (fun c10 => ?_)
    · replace hf := if_f c10 hf
      refine lv_goto (tgt := 2017) hx hb dL_law_2014 (by decide) ?_
      cases hf
      refine W.widen (k := cells + 16) (n := slots + 128) (by show cells + 1 ≤ _; omega) (by show slots + 6 ≤ _; omega) ?_
      exact hk sh _ _ ls rfl rfl ⟨ex, em, eo, ed⟩ hW hS (lv_sub hl [2, 3, 4, 5, 6, 7] rfl)
    · replace hf := if_t c10 hf
      refine lv_aload hx hb dL_law_1982 (lv_at hl 7 rfl) ?_
      refine lv_iconst (v := 0) hx hb dL_law_1984 (by decide) ?_
      refine W.eq (g2 := F0 m 1985 ls (.int 0 :: .ref (sh.1 15 0) :: [])) (by rw [ed]) ?_
      refine xdald F hT hW dL_law_1985 ?_
      refine lv_dload hx hb dL_law_1986 (lv_at hl 0 rfl) ?_
      refine lv_dcmp hx hb dL_law_1988 ?_
      refine lv_if_eq (tgt := 2014) hx hb dL_law_1989 (by decide) (fun c11 => ?_) (fun c11 => ?_)
      · replace hf := if_t c11 hf
        refine lv_goto (tgt := 2017) hx hb dL_law_2014 (by decide) ?_
        cases hf
        refine W.widen (k := cells + 16) (n := slots + 128) (by show cells + 1 ≤ _; omega) (by show slots + 6 ≤ _; omega) ?_
        exact hk sh _ _ ls rfl rfl ⟨ex, em, eo, ed⟩ hW hS (lv_sub hl [2, 3, 4, 5, 6, 7] rfl)
      · replace hf := if_f c11 hf
        refine lv_aload hx hb dL_law_1992 (lv_at hl 7 rfl) ?_
        refine lv_iconst (v := 0) hx hb dL_law_1994 (by decide) ?_
        refine W.eq (g2 := F0 m 1995 ls (.int 0 :: .ref (sh.1 15 0) :: [])) (by rw [ed]) ?_
        refine xdald F hT hW dL_law_1995 ?_
        refine lv_aload hx hb dL_law_1996 (lv_at hl 7 rfl) ?_
        refine lv_iconst (v := 0) hx hb dL_law_1998 (by decide) ?_
        refine W.eq (g2 := F0 m 1999 ls (.int 0 :: .ref (sh.1 15 0) :: .double q1.2.2.2 :: [])) (by rw [ed]) ?_
        refine xdald F hT hW dL_law_1999 ?_
        refine lv_dcmp hx hb dL_law_2000 ?_
        refine lv_if_eq (tgt := 2012) hx hb dL_law_2001 (by decide) (fun c12 => ?_) (fun c12 => ?_)
        · replace hf := if_t c12 hf
          refine lv_iconst (v := 0) hx hb dL_law_2012 (by decide) ?_
          cases hf
        · replace hf := if_f c12 hf
          refine lv_dload hx hb dL_law_2004 (lv_at hl 0 rfl) ?_
          refine lv_dload hx hb dL_law_2006 (lv_at hl 0 rfl) ?_
          refine lv_dcmp hx hb dL_law_2008 ?_
          refine lv_if_ne (tgt := 2014) hx hb dL_law_2009 (by decide) (fun c13 => ?_) (fun c13 => ?_)
          · replace hf := if_f c13 hf
            refine lv_goto (tgt := 2017) hx hb dL_law_2014 (by decide) ?_
            cases hf
            refine W.widen (k := cells + 16) (n := slots + 128) (by show cells + 1 ≤ _; omega) (by show slots + 6 ≤ _; omega) ?_
            exact hk sh _ _ ls rfl rfl ⟨ex, em, eo, ed⟩ hW hS (lv_sub hl [2, 3, 4, 5, 6, 7] rfl)
          · replace hf := if_t c13 hf
            refine lv_iconst (v := 0) hx hb dL_law_2012 (by decide) ?_
            cases hf
  · replace hf := if_f c9 hf
    refine lv_iconst (v := 0) hx hb dL_law_1975 (by decide) ?_
    cases hf
def fLaw1 (nS nT : Nat) (v a1 a2 a3 a4 a5 : Int32) (sc : xSC) (sr : xSR) (sl : xSL) : Option xR5 := (if v = 0 then fC_0 nS nT a1 a2 a3 sc sr sl else (if v = 1 then fC_1 nS nT a1 a2 sc sr sl else (if v = 2 then fC_2 nS nT a1 a2 a3 sc sr sl else (if v = 3 then fC_3 nS nT a1 a2 a3 a4 a5 sc sr sl else (if v = 4 then fC_4 nS nT a1 a2 a3 sc sr sl else (if v = 5 then fC_5 nS nT a1 a2 a3 sc sr sl else (if v = 6 then fC_6 nS nT a1 a2 sc sr sl else (if v = 7 then fC_7 nS nT a1 a2 sc sr sl else (if v = 8 then fC_8 nS nT a1 a2 sc sr sl else (if v = 9 then fC_9 nS nT a1 sc sr sl else (if v = 10 then fC_10 nS nT a1 sc sr sl else (if v = 11 then fC_11 nS nT sc sr sl else (if v = 12 then fC_12 nS nT a1 sc sr sl else (if v = 13 then fC_13 nS nT a1 sc sr sl else (if v = 14 then fC_14 nS nT a1 sc sr sl else (if v = 15 then fC_15 nS nT a1 sc sr sl else (if v = 16 then fC_16 nS nT sc sr sl else (if v = 17 then fC_17 nS nT sc sr sl else (if v = 18 then fC_18 nS nT sc sr sl else (if v = 19 then fC_19 nS nT a1 sc sr sl else (if v = 20 then fC_20 nS nT a1 a2 sc sr sl else (if v = 21 then fC_21 nS nT a1 a2 sc sr sl else (if v = 22 then fC_22 nS nT a1 a2 sc sr sl else (if v = 23 then fC_23 nS nT a1 sc sr sl else (if v = 24 then fC_24 nS nT a1 sc sr sl else (if v = 25 then fC_25 nS nT sc sr sl else (if v = 26 then fC_26 nS nT sc sr sl else (if v = 27 then fC_27 nS nT a1 sc sr sl else (if v = 28 then fC_28 nS nT sc sr sl else (if v = 29 then fC_29 nS nT sc sr sl else (if v = 30 then fC_30 nS nT sc sr sl else (if v = 31 then fC_31 nS nT a1 a2 sc sr sl else (if v = 32 then fC_32 nS nT sc sr sl else some (nS, nT, sc, sr, sl))))))))))))))))))))))))))))))))))
theorem xsw_out33 {x : Int32} (h : ∀ k : Nat, k ≤ 32 → ¬ x = Int32.ofNat k) : x.toInt < 0 ∨ 32 < x.toInt := by
  rcases Int.lt_or_le x.toInt 0 with h0 | h0
  · exact Or.inl h0
  · rcases Int.lt_or_le 32 x.toInt with h1 | h1
    · exact Or.inr h1
    · exfalso
      refine h x.toInt.toNat (by omega) (Int32.toInt_inj.mp ?_)
      rw [Int32.toInt_ofNat_of_lt (by omega)]
      omega
set_option maxHeartbeats 4000000 in
set_option maxRecDepth 100000 in
theorem kLaw1 {p : Program} {l : Launch} {e : Env} {s : State} {m : MethodId} {args : Array Value} {below : List Frame} {meth : Method} {c : Code} {H : Heap} {locs : List Loc} {cells slots : Nat} {Q : State → Prop} {ls : Array Slot} {G : xG} {sh : xSh} {sc : xSC} {sr : xSR} {sl : xSL} {b L xa ma oa da : Nat} {xs : Nat → Int32} {x5 a1 a2 a3 a4 a5 : Int32} (hl0 : l.stackTraces = false) (F : CallFix p m c code 9 s args xB RL) (hT : xTb G s s.heap) (hX : va_X b L xs s s.heap) (hbl : b < s.heap.size) (hbA : ¬ xA G b) (hi1 : vp_in (x5 + 1) L) (hi2 : vp_in (x5 + 2) L) (hi3 : vp_in (x5 + 3) L) (hi4 : vp_in (x5 + 4) L) (hi5 : vp_in (x5 + 5) L) (ha1 : xs (x5 + 1).toNatClampNeg = a1) (ha2 : xs (x5 + 2).toNatClampNeg = a2) (ha3 : xs (x5 + 3).toNatClampNeg = a3) (ha4 : xs (x5 + 4).toNatClampNeg = a4) (ha5 : xs (x5 + 5).toNatClampNeg = a5) (hcl : cells + 16 ≤ 803720) (hsl : slots + 128 ≤ 6592785) (hat : xat sh xa ma oa da) (hW : xWd G sh sc sr sl H) (hS : va_S (xA G) s.heap H locs) (hl : lv_has ls 9 [(5, .int x5), (0, .ref b), (1, .ref xa), (2, .ref ma), (3, .ref oa), (4, .ref da)]) {a0 : Int32} (hi0 : vp_in x5 L) (ha0 : xs x5.toNatClampNeg = a0) (r : xR5) (hf : fLaw1 sh.2.1 sh.2.2 (a0 &&& 63) a1 a2 a3 a4 a5 sc sr sl = some r) (hk : ∀ (sh2 : xSh) (H : Heap) (locs : List Loc) (ls : Array Slot), sh2.2.1 = r.1 → sh2.2.2 = r.2.1 → xat sh2 xa ma oa da → xWd G sh2 r.2.2.1 r.2.2.2.1 r.2.2.2.2 H → va_S (xA G) s.heap H locs → lv_has ls 9 [(5, .int x5), (0, .ref b), (1, .ref xa), (2, .ref ma), (3, .ref oa), (4, .ref da)] → W p l e room_1 s m args below meth c H locs (cells + 16) (slots + 128) Q (F0 m 2017 ls [])) : W p l e room_1 s m args below meth c H locs cells slots Q (F0 m 38 ls []) := by
  have hx := F.1
  have hb := F.2.1
  unfold fLaw1 at hf
  refine lv_aload_n hx hb dL_law_38 rfl (lv_at hl 1 rfl) ?_
  refine lv_iload hx hb dL_law_39 (lv_at hl 0 rfl) ?_
  refine va_sld hx hb hX hbl hbA hS hi0 dL_law_41 ?_
  rw [ha0]
  refine lv_bipush (v := 63) hx hb dL_law_42 (by decide) ?_
  refine lv_iand hx hb dL_law_44 ?_
  generalize a0 &&& 63 = v at hf ⊢
  by_cases c0 : v = 0
  · replace hf := if_t c0 hf
    refine W.eq (g2 := F0 m 45 ls [.int 0]) (by rw [c0]) ?_
    refine lv_tableIn (tgt := 192) hx hb dL_law_45 (by decide) (by decide) rfl (by decide) ?_
    exact kC_0 hl0 F hT hX hbl hbA hi1 hi2 hi3 hi4 hi5 ha1 ha2 ha3 ha4 ha5 hcl hsl hat hW hS hl r hf hk
  replace hf := if_f c0 hf
  by_cases c1 : v = 1
  · replace hf := if_t c1 hf
    refine W.eq (g2 := F0 m 45 ls [.int 1]) (by rw [c1]) ?_
    refine lv_tableIn (tgt := 272) hx hb dL_law_45 (by decide) (by decide) rfl (by decide) ?_
    exact kC_1 hl0 F hT hX hbl hbA hi1 hi2 hi3 hi4 hi5 ha1 ha2 ha3 ha4 ha5 hcl hsl hat hW hS hl r hf hk
  replace hf := if_f c1 hf
  by_cases c2 : v = 2
  · replace hf := if_t c2 hf
    refine W.eq (g2 := F0 m 45 ls [.int 2]) (by rw [c2]) ?_
    refine lv_tableIn (tgt := 363) hx hb dL_law_45 (by decide) (by decide) rfl (by decide) ?_
    exact kC_2 hl0 F hT hX hbl hbA hi1 hi2 hi3 hi4 hi5 ha1 ha2 ha3 ha4 ha5 hcl hsl hat hW hS hl r hf hk
  replace hf := if_f c2 hf
  by_cases c3 : v = 3
  · replace hf := if_t c3 hf
    refine W.eq (g2 := F0 m 45 ls [.int 3]) (by rw [c3]) ?_
    refine lv_tableIn (tgt := 443) hx hb dL_law_45 (by decide) (by decide) rfl (by decide) ?_
    exact kC_3 hl0 F hT hX hbl hbA hi1 hi2 hi3 hi4 hi5 ha1 ha2 ha3 ha4 ha5 hcl hsl hat hW hS hl r hf hk
  replace hf := if_f c3 hf
  by_cases c4 : v = 4
  · replace hf := if_t c4 hf
    refine W.eq (g2 := F0 m 45 ls [.int 4]) (by rw [c4]) ?_
    refine lv_tableIn (tgt := 547) hx hb dL_law_45 (by decide) (by decide) rfl (by decide) ?_
    exact kC_4 hl0 F hT hX hbl hbA hi1 hi2 hi3 hi4 hi5 ha1 ha2 ha3 ha4 ha5 hcl hsl hat hW hS hl r hf hk
  replace hf := if_f c4 hf
  by_cases c5 : v = 5
  · replace hf := if_t c5 hf
    refine W.eq (g2 := F0 m 45 ls [.int 5]) (by rw [c5]) ?_
    refine lv_tableIn (tgt := 627) hx hb dL_law_45 (by decide) (by decide) rfl (by decide) ?_
    exact kC_5 hl0 F hT hX hbl hbA hi1 hi2 hi3 hi4 hi5 ha1 ha2 ha3 ha4 ha5 hcl hsl hat hW hS hl r hf hk
  replace hf := if_f c5 hf
  by_cases c6 : v = 6
  · replace hf := if_t c6 hf
    refine W.eq (g2 := F0 m 45 ls [.int 6]) (by rw [c6]) ?_
    refine lv_tableIn (tgt := 707) hx hb dL_law_45 (by decide) (by decide) rfl (by decide) ?_
    exact kC_6 hl0 F hT hX hbl hbA hi1 hi2 hi3 hi4 hi5 ha1 ha2 ha3 ha4 ha5 hcl hsl hat hW hS hl r hf hk
  replace hf := if_f c6 hf
  by_cases c7 : v = 7
  · replace hf := if_t c7 hf
    refine W.eq (g2 := F0 m 45 ls [.int 7]) (by rw [c7]) ?_
    refine lv_tableIn (tgt := 775) hx hb dL_law_45 (by decide) (by decide) rfl (by decide) ?_
    exact kC_7 hl0 F hT hX hbl hbA hi1 hi2 hi3 hi4 hi5 ha1 ha2 ha3 ha4 ha5 hcl hsl hat hW hS hl r hf hk
  replace hf := if_f c7 hf
  by_cases c8 : v = 8
  · replace hf := if_t c8 hf
    refine W.eq (g2 := F0 m 45 ls [.int 8]) (by rw [c8]) ?_
    refine lv_tableIn (tgt := 843) hx hb dL_law_45 (by decide) (by decide) rfl (by decide) ?_
    exact kC_8 hl0 F hT hX hbl hbA hi1 hi2 hi3 hi4 hi5 ha1 ha2 ha3 ha4 ha5 hcl hsl hat hW hS hl r hf hk
  replace hf := if_f c8 hf
  by_cases c9 : v = 9
  · replace hf := if_t c9 hf
    refine W.eq (g2 := F0 m 45 ls [.int 9]) (by rw [c9]) ?_
    refine lv_tableIn (tgt := 911) hx hb dL_law_45 (by decide) (by decide) rfl (by decide) ?_
    exact kC_9 hl0 F hT hX hbl hbA hi1 hi2 hi3 hi4 hi5 ha1 ha2 ha3 ha4 ha5 hcl hsl hat hW hS hl r hf hk
  replace hf := if_f c9 hf
  by_cases c10 : v = 10
  · replace hf := if_t c10 hf
    refine W.eq (g2 := F0 m 45 ls [.int 10]) (by rw [c10]) ?_
    refine lv_tableIn (tgt := 967) hx hb dL_law_45 (by decide) (by decide) rfl (by decide) ?_
    exact kC_10 hl0 F hT hX hbl hbA hi1 hi2 hi3 hi4 hi5 ha1 ha2 ha3 ha4 ha5 hcl hsl hat hW hS hl r hf hk
  replace hf := if_f c10 hf
  by_cases c11 : v = 11
  · replace hf := if_t c11 hf
    refine W.eq (g2 := F0 m 45 ls [.int 11]) (by rw [c11]) ?_
    refine lv_tableIn (tgt := 1023) hx hb dL_law_45 (by decide) (by decide) rfl (by decide) ?_
    exact kC_11 hl0 F hT hX hbl hbA hi1 hi2 hi3 hi4 hi5 ha1 ha2 ha3 ha4 ha5 hcl hsl hat hW hS hl r hf hk
  replace hf := if_f c11 hf
  by_cases c12 : v = 12
  · replace hf := if_t c12 hf
    refine W.eq (g2 := F0 m 45 ls [.int 12]) (by rw [c12]) ?_
    refine lv_tableIn (tgt := 1036) hx hb dL_law_45 (by decide) (by decide) rfl (by decide) ?_
    exact kC_12 hl0 F hT hX hbl hbA hi1 hi2 hi3 hi4 hi5 ha1 ha2 ha3 ha4 ha5 hcl hsl hat hW hS hl r hf hk
  replace hf := if_f c12 hf
  by_cases c13 : v = 13
  · replace hf := if_t c13 hf
    refine W.eq (g2 := F0 m 45 ls [.int 13]) (by rw [c13]) ?_
    refine lv_tableIn (tgt := 1092) hx hb dL_law_45 (by decide) (by decide) rfl (by decide) ?_
    exact kC_13 hl0 F hT hX hbl hbA hi1 hi2 hi3 hi4 hi5 ha1 ha2 ha3 ha4 ha5 hcl hsl hat hW hS hl r hf hk
  replace hf := if_f c13 hf
  by_cases c14 : v = 14
  · replace hf := if_t c14 hf
    refine W.eq (g2 := F0 m 45 ls [.int 14]) (by rw [c14]) ?_
    refine lv_tableIn (tgt := 1148) hx hb dL_law_45 (by decide) (by decide) rfl (by decide) ?_
    exact kC_14 hl0 F hT hX hbl hbA hi1 hi2 hi3 hi4 hi5 ha1 ha2 ha3 ha4 ha5 hcl hsl hat hW hS hl r hf hk
  replace hf := if_f c14 hf
  by_cases c15 : v = 15
  · replace hf := if_t c15 hf
    refine W.eq (g2 := F0 m 45 ls [.int 15]) (by rw [c15]) ?_
    refine lv_tableIn (tgt := 1204) hx hb dL_law_45 (by decide) (by decide) rfl (by decide) ?_
    exact kC_15 hl0 F hT hX hbl hbA hi1 hi2 hi3 hi4 hi5 ha1 ha2 ha3 ha4 ha5 hcl hsl hat hW hS hl r hf hk
  replace hf := if_f c15 hf
  by_cases c16 : v = 16
  · replace hf := if_t c16 hf
    refine W.eq (g2 := F0 m 45 ls [.int 16]) (by rw [c16]) ?_
    refine lv_tableIn (tgt := 1260) hx hb dL_law_45 (by decide) (by decide) rfl (by decide) ?_
    exact kC_16 hl0 F hT hX hbl hbA hi1 hi2 hi3 hi4 hi5 ha1 ha2 ha3 ha4 ha5 hcl hsl hat hW hS hl r hf hk
  replace hf := if_f c16 hf
  by_cases c17 : v = 17
  · replace hf := if_t c17 hf
    refine W.eq (g2 := F0 m 45 ls [.int 17]) (by rw [c17]) ?_
    refine lv_tableIn (tgt := 1273) hx hb dL_law_45 (by decide) (by decide) rfl (by decide) ?_
    exact kC_17 hl0 F hT hX hbl hbA hi1 hi2 hi3 hi4 hi5 ha1 ha2 ha3 ha4 ha5 hcl hsl hat hW hS hl r hf hk
  replace hf := if_f c17 hf
  by_cases c18 : v = 18
  · replace hf := if_t c18 hf
    refine W.eq (g2 := F0 m 45 ls [.int 18]) (by rw [c18]) ?_
    refine lv_tableIn (tgt := 1286) hx hb dL_law_45 (by decide) (by decide) rfl (by decide) ?_
    exact kC_18 hl0 F hT hX hbl hbA hi1 hi2 hi3 hi4 hi5 ha1 ha2 ha3 ha4 ha5 hcl hsl hat hW hS hl r hf hk
  replace hf := if_f c18 hf
  by_cases c19 : v = 19
  · replace hf := if_t c19 hf
    refine W.eq (g2 := F0 m 45 ls [.int 19]) (by rw [c19]) ?_
    refine lv_tableIn (tgt := 1299) hx hb dL_law_45 (by decide) (by decide) rfl (by decide) ?_
    exact kC_19 hl0 F hT hX hbl hbA hi1 hi2 hi3 hi4 hi5 ha1 ha2 ha3 ha4 ha5 hcl hsl hat hW hS hl r hf hk
  replace hf := if_f c19 hf
  by_cases c20 : v = 20
  · replace hf := if_t c20 hf
    refine W.eq (g2 := F0 m 45 ls [.int 20]) (by rw [c20]) ?_
    refine lv_tableIn (tgt := 1355) hx hb dL_law_45 (by decide) (by decide) rfl (by decide) ?_
    exact kC_20 hl0 F hT hX hbl hbA hi1 hi2 hi3 hi4 hi5 ha1 ha2 ha3 ha4 ha5 hcl hsl hat hW hS hl r hf hk
  replace hf := if_f c20 hf
  by_cases c21 : v = 21
  · replace hf := if_t c21 hf
    refine W.eq (g2 := F0 m 45 ls [.int 21]) (by rw [c21]) ?_
    refine lv_tableIn (tgt := 1423) hx hb dL_law_45 (by decide) (by decide) rfl (by decide) ?_
    exact kC_21 hl0 F hT hX hbl hbA hi1 hi2 hi3 hi4 hi5 ha1 ha2 ha3 ha4 ha5 hcl hsl hat hW hS hl r hf hk
  replace hf := if_f c21 hf
  by_cases c22 : v = 22
  · replace hf := if_t c22 hf
    refine W.eq (g2 := F0 m 45 ls [.int 22]) (by rw [c22]) ?_
    refine lv_tableIn (tgt := 1491) hx hb dL_law_45 (by decide) (by decide) rfl (by decide) ?_
    exact kC_22 hl0 F hT hX hbl hbA hi1 hi2 hi3 hi4 hi5 ha1 ha2 ha3 ha4 ha5 hcl hsl hat hW hS hl r hf hk
  replace hf := if_f c22 hf
  by_cases c23 : v = 23
  · replace hf := if_t c23 hf
    refine W.eq (g2 := F0 m 45 ls [.int 23]) (by rw [c23]) ?_
    refine lv_tableIn (tgt := 1559) hx hb dL_law_45 (by decide) (by decide) rfl (by decide) ?_
    exact kC_23 hl0 F hT hX hbl hbA hi1 hi2 hi3 hi4 hi5 ha1 ha2 ha3 ha4 ha5 hcl hsl hat hW hS hl r hf hk
  replace hf := if_f c23 hf
  by_cases c24 : v = 24
  · replace hf := if_t c24 hf
    refine W.eq (g2 := F0 m 45 ls [.int 24]) (by rw [c24]) ?_
    refine lv_tableIn (tgt := 1622) hx hb dL_law_45 (by decide) (by decide) rfl (by decide) ?_
    exact kC_24 hl0 F hT hX hbl hbA hi1 hi2 hi3 hi4 hi5 ha1 ha2 ha3 ha4 ha5 hcl hsl hat hW hS hl r hf hk
  replace hf := if_f c24 hf
  by_cases c25 : v = 25
  · replace hf := if_t c25 hf
    refine W.eq (g2 := F0 m 45 ls [.int 25]) (by rw [c25]) ?_
    refine lv_tableIn (tgt := 1678) hx hb dL_law_45 (by decide) (by decide) rfl (by decide) ?_
    exact kC_25 hl0 F hT hX hbl hbA hi1 hi2 hi3 hi4 hi5 ha1 ha2 ha3 ha4 ha5 hcl hsl hat hW hS hl r hf hk
  replace hf := if_f c25 hf
  by_cases c26 : v = 26
  · replace hf := if_t c26 hf
    refine W.eq (g2 := F0 m 45 ls [.int 26]) (by rw [c26]) ?_
    refine lv_tableIn (tgt := 1722) hx hb dL_law_45 (by decide) (by decide) rfl (by decide) ?_
    exact kC_26 hl0 F hT hX hbl hbA hi1 hi2 hi3 hi4 hi5 ha1 ha2 ha3 ha4 ha5 hcl hsl hat hW hS hl r hf hk
  replace hf := if_f c26 hf
  by_cases c27 : v = 27
  · replace hf := if_t c27 hf
    refine W.eq (g2 := F0 m 45 ls [.int 27]) (by rw [c27]) ?_
    refine lv_tableIn (tgt := 1766) hx hb dL_law_45 (by decide) (by decide) rfl (by decide) ?_
    exact kC_27 hl0 F hT hX hbl hbA hi1 hi2 hi3 hi4 hi5 ha1 ha2 ha3 ha4 ha5 hcl hsl hat hW hS hl r hf hk
  replace hf := if_f c27 hf
  by_cases c28 : v = 28
  · replace hf := if_t c28 hf
    refine W.eq (g2 := F0 m 45 ls [.int 28]) (by rw [c28]) ?_
    refine lv_tableIn (tgt := 1822) hx hb dL_law_45 (by decide) (by decide) rfl (by decide) ?_
    exact kC_28 hl0 F hT hX hbl hbA hi1 hi2 hi3 hi4 hi5 ha1 ha2 ha3 ha4 ha5 hcl hsl hat hW hS hl r hf hk
  replace hf := if_f c28 hf
  by_cases c29 : v = 29
  · replace hf := if_t c29 hf
    refine W.eq (g2 := F0 m 45 ls [.int 29]) (by rw [c29]) ?_
    refine lv_tableIn (tgt := 1835) hx hb dL_law_45 (by decide) (by decide) rfl (by decide) ?_
    exact kC_29 hl0 F hT hX hbl hbA hi1 hi2 hi3 hi4 hi5 ha1 ha2 ha3 ha4 ha5 hcl hsl hat hW hS hl r hf hk
  replace hf := if_f c29 hf
  by_cases c30 : v = 30
  · replace hf := if_t c30 hf
    refine W.eq (g2 := F0 m 45 ls [.int 30]) (by rw [c30]) ?_
    refine lv_tableIn (tgt := 1848) hx hb dL_law_45 (by decide) (by decide) rfl (by decide) ?_
    exact kC_30 hl0 F hT hX hbl hbA hi1 hi2 hi3 hi4 hi5 ha1 ha2 ha3 ha4 ha5 hcl hsl hat hW hS hl r hf hk
  replace hf := if_f c30 hf
  by_cases c31 : v = 31
  · replace hf := if_t c31 hf
    refine W.eq (g2 := F0 m 45 ls [.int 31]) (by rw [c31]) ?_
    refine lv_tableIn (tgt := 1862) hx hb dL_law_45 (by decide) (by decide) rfl (by decide) ?_
    exact kC_31 hl0 F hT hX hbl hbA hi1 hi2 hi3 hi4 hi5 ha1 ha2 ha3 ha4 ha5 hcl hsl hat hW hS hl r hf hk
  replace hf := if_f c31 hf
  by_cases c32 : v = 32
  · replace hf := if_t c32 hf
    refine W.eq (g2 := F0 m 45 ls [.int 32]) (by rw [c32]) ?_
    refine lv_tableIn (tgt := 1952) hx hb dL_law_45 (by decide) (by decide) rfl (by decide) ?_
    exact kC_32 hl0 F hT hX hbl hbA hi1 hi2 hi3 hi4 hi5 ha1 ha2 ha3 ha4 ha5 hcl hsl hat hW hS hl r hf hk
  replace hf := if_f c32 hf
  refine lv_tableOut (tgt := 2017) hx hb dL_law_45 (xsw_out33 (fun k hk => ?_)) (by decide) ?_
  · rcases (show k = 0 ∨ k = 1 ∨ k = 2 ∨ k = 3 ∨ k = 4 ∨ k = 5 ∨ k = 6 ∨ k = 7 ∨ k = 8 ∨ k = 9 ∨ k = 10 ∨ k = 11 ∨ k = 12 ∨ k = 13 ∨ k = 14 ∨ k = 15 ∨ k = 16 ∨ k = 17 ∨ k = 18 ∨ k = 19 ∨ k = 20 ∨ k = 21 ∨ k = 22 ∨ k = 23 ∨ k = 24 ∨ k = 25 ∨ k = 26 ∨ k = 27 ∨ k = 28 ∨ k = 29 ∨ k = 30 ∨ k = 31 ∨ k = 32 by omega) with rfl | rfl | rfl | rfl | rfl | rfl | rfl | rfl | rfl | rfl | rfl | rfl | rfl | rfl | rfl | rfl | rfl | rfl | rfl | rfl | rfl | rfl | rfl | rfl | rfl | rfl | rfl | rfl | rfl | rfl | rfl | rfl | rfl
    · exact c0
    · exact c1
    · exact c2
    · exact c3
    · exact c4
    · exact c5
    · exact c6
    · exact c7
    · exact c8
    · exact c9
    · exact c10
    · exact c11
    · exact c12
    · exact c13
    · exact c14
    · exact c15
    · exact c16
    · exact c17
    · exact c18
    · exact c19
    · exact c20
    · exact c21
    · exact c22
    · exact c23
    · exact c24
    · exact c25
    · exact c26
    · exact c27
    · exact c28
    · exact c29
    · exact c30
    · exact c31
    · exact c32
  · cases hf
    refine W.widen (k := cells + 16) (n := slots + 128) (by omega) (by omega) ?_
    exact hk sh _ _ ls rfl rfl hat hW hS hl
