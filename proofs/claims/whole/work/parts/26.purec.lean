/-! the easy cases -/
theorem kp_19 {k nS nT : Nat} {sc : xSC} {sr : xSR} {sl : xSL} (h : xInv k 0 nS nT sc sr) (a1 : Int32) : xGood (k + 1) (fC_19 nS nT a1 sc sr sl) := by
  rcases xidx nT (by have := h.T6; omega) a1 with ⟨t, ht, rfl⟩ | ha
  · obtain ⟨j, hj, e1, e2⟩ := h.srv t ht
    have g := xin_n (n := t) (N := 6) (by have := h.T6; omega) (by omega)
    simp [fC_19, fL_servedBy, fX5_servedBy, fX6_servedBy, fX6_thrown, knT_y h.T6 ht, noT_y (N := nT) (by have := h.T6; omega) ht h.c103, fls_0, ht, g, nI_N (n := t) (by have := h.T6; omega), e1, e2, lgc, xuR, oG_t, oB_s, oP_s, oT_r, oT_l, oC_r, oC_l, oN_s, oN_n]
    exact xGood_cd h
  · simp [fC_19, fL_servedBy, fX5_servedBy, fX6_servedBy, fX6_thrown, knT_n h.T6 ha, noT_n (N := nT) (by have := h.T6; omega) ha h.c103, fls_1, lgc, xuR, oG_t, oB_s, oP_s, oT_r, oT_l, oC_r, oC_l, oN_s, oN_n]
    exact xGood_cd h
theorem kp_11 {k nS nT : Nat} {sc : xSC} {sr : xSR} {sl : xSL} (h : xInv k 0 nS nT sc sr) : xGood (k + 1) (fC_11 nS nT sc sr sl) := by
  obtain ⟨T, h1, h2, h3⟩ := h.tim
  simp [fC_11, fX5_time, fX6_time, fX6_tells, h2, h3, oG_t, oB_s, oP_s, oT_r, oT_l, oC_r, oC_l, oN_s, oN_n]
  exact xGood_cd h
theorem kp_29 {k nS nT : Nat} {sc : xSC} {sr : xSR} {sl : xSL} (h : xInv k 0 nS nT sc sr) : xGood (k + 1) (fC_29 nS nT sc sr sl) := by
  have e := h.swi
  simp [fC_29, fX5_switches, fX6_switches, fX6_tells, e, oG_t, oB_s, oP_s, oT_r, oT_l, oC_r, oC_l, oN_s, oN_n]
  exact xGood_cd h
theorem kp_30 {k nS nT : Nat} {sc : xSC} {sr : xSR} {sl : xSL} (h : xInv k 0 nS nT sc sr) : xGood (k + 1) (fC_30 nS nT sc sr sl) := by
  have e := h.ovr
  simp [fC_30, fX5_hoursOver, fX6_hoursOver, e, lgc, oG_t, oB_s, oP_s, oT_r, oT_l, oC_r, oC_l, oN_s, oN_n]
  rw [← e]
  rw [e]
  exact xGood_cd h
theorem shards_e {nS nT : Nat} {sc : xSC} (h : nS ≤ 4) : fX5_shards nS nT sc = some (nI nS) := by
  rcases (show nS = 0 ∨ nS = 1 ∨ nS = 2 ∨ nS = 3 ∨ nS = 4 by omega) with rfl | rfl | rfl | rfl | rfl <;> rfl
theorem tenants_e {nS nT : Nat} {sc : xSC} (h : nT ≤ 6) : fX5_tenants nS nT sc = some (nI nT) := by
  rcases (show nT = 0 ∨ nT = 1 ∨ nT = 2 ∨ nT = 3 ∨ nT = 4 ∨ nT = 5 ∨ nT = 6 by omega) with rfl | rfl | rfl | rfl | rfl | rfl | rfl <;> rfl
theorem kp_17 {k nS nT : Nat} {sc : xSC} {sr : xSR} {sl : xSL} (h : xInv k 0 nS nT sc sr) : xGood (k + 1) (fC_17 nS nT sc sr sl) := by
  simp [fC_17, shards_e h.S4, fX6_shards, fX6_tells, h.c100, oG_t, oB_s, oP_s, oT_r, oT_l, oC_r, oC_l, oN_s, oN_n]
  exact xGood_cd h
theorem kp_18 {k nS nT : Nat} {sc : xSC} {sr : xSR} {sl : xSL} (h : xInv k 0 nS nT sc sr) : xGood (k + 1) (fC_18 nS nT sc sr sl) := by
  simp [fC_18, tenants_e h.T6, fX6_tenants, fX6_tells, h.c103, oG_t, oB_s, oP_s, oT_r, oT_l, oC_r, oC_l, oN_s, oN_n]
  exact xGood_cd h
theorem kp_12 {k nS nT : Nat} {sc : xSC} {sr : xSR} {sl : xSL} (h : xInv k 0 nS nT sc sr) (a1 : Int32) : xGood (k + 1) (fC_12 nS nT a1 sc sr sl) := by
  have h6 := h.T6
  rcases xidx nT (by omega) a1 with ⟨t, ht, rfl⟩ | ha
  · have g := xin_n (n := t) (N := 6) (by omega) (by omega)
    have e0 : xnb .char 45 = true := by decide
    have e1 : xnb .char 99 = true := by decide
    have e2 : xnb .char 102 = true := by decide
    have e3 : xnb .char 100 = true := by decide
    rcases h.mov t ht with ⟨p, q⟩ | ⟨i, j, n, -, -, -, -, -, -, -, ⟨p, q, -⟩ | ⟨p, q, -⟩ | ⟨p, q, -⟩⟩ <;>
    · simp [fC_12, fL_phase, fX5_phase, fX6_phase, fX6_thrown, knT_y h6 ht, noT_y (N := nT) (by omega) ht h.c103, fls_0, ht, g, nI_N (n := t) (by omega), p, q, lgc, xuR, e0, e1, e2, e3, oG_t, oB_s, oP_s, oT_r, oT_l, oC_r, oC_l, oN_s, oN_n]
      exact xGood_cd h
  · simp [fC_12, fL_phase, fX5_phase, fX6_phase, fX6_thrown, knT_n h6 ha, noT_n (N := nT) (by omega) ha h.c103, fls_1, lgc, xuR, oG_t, oB_s, oP_s, oT_r, oT_l, oC_r, oC_l, oN_s, oN_n]
    exact xGood_cd h
theorem und_e {nS nT t : Nat} {sc : xSC} {k0 : Nat} : fX1_isUnderWay nS nT k0 t sc = some (if sc.1 k0 t 0 = 45 then 0 else 1) := by
  unfold fX1_isUnderWay
  split <;> rfl
theorem movT_n {nS nT : Nat} {a : Int32} {sc : xSC} (h6 : nT ≤ 6) (h : a < 0 ∨ nI nT ≤ a) : fX5_movingTenant nS nT a sc = some (.inl "java/lang/IndexOutOfBoundsException") := by
  simp [fX5_movingTenant, knT_n h6 h, oG_t, oB_s, oP_s, oT_r, oT_l, oC_r, oC_l, oN_s, oN_n]
theorem movT_y {nS nT t : Nat} {sc : xSC} (h6 : nT ≤ 6) (h : t < nT) (e : sc.1 9 t 0 ≠ 45) : fX5_movingTenant nS nT (nI t) sc = some (.inr t) := by
  simp [fX5_movingTenant, knT_y h6 h, h, und_e, e, oG_t, oB_s, oP_s, oT_r, oT_l, oC_r, oC_l, oN_s, oN_n]
theorem movT_s {nS nT t : Nat} {sc : xSC} (h6 : nT ≤ 6) (h : t < nT) (e : sc.1 9 t 0 = 45) : fX5_movingTenant nS nT (nI t) sc = some (.inl "java/util/NoSuchElementException") := by
  simp [fX5_movingTenant, knT_y h6 h, h, und_e, e, oG_t, oB_s, oP_s, oT_r, oT_l, oC_r, oC_l, oN_s, oN_n]
theorem xnb0 : xnb .boolean 0 = true := by decide
theorem xnb1 : xnb .boolean 1 = true := by decide
theorem hnm_n {nT : Nat} {a : Int32} {sr : xSR} (h6 : nT ≤ 6) (h : a < 0 ∨ nI nT ≤ a) (e : sr.1 103 0 = nI nT) : fX6_hasNoMove a sr = some (1, (xuR sr.1 122 0 1, sr.2)) := by
  simp [fX6_hasNoMove, noT_n (N := nT) (by omega) h e, fls_1, xnb1, oG_t, oB_s, oP_s, oT_r, oT_l, oC_r, oC_l, oN_s, oN_n]
theorem hnm_s {nT t : Nat} {sr : xSR} (h6 : nT ≤ 6) (h : t < nT) (e : sr.1 103 0 = nI nT) (q : sr.1 9 t = 0) : fX6_hasNoMove (nI t) sr = some (1, (xuR sr.1 122 0 2, sr.2)) := by
  simp [fX6_hasNoMove, noT_y (N := nT) (by omega) h e, xin_n (n := t) (N := 6) (by omega) (by omega), nI_N (n := t) (by omega), q, fls_2, xnb1, oG_t, oB_s, oP_s, oT_r, oT_l, oC_r, oC_l, oN_s, oN_n]
theorem hnm_y {nT t : Nat} {sr : xSR} (h6 : nT ≤ 6) (h : t < nT) (e : sr.1 103 0 = nI nT) (q : sr.1 9 t ≠ 0) : fX6_hasNoMove (nI t) sr = some (0, (xuR sr.1 122 0 0, sr.2)) := by
  simp [fX6_hasNoMove, noT_y (N := nT) (by omega) h e, xin_n (n := t) (N := 6) (by omega) (by omega), nI_N (n := t) (by omega), q, fls_0, xnb0, oG_t, oB_s, oP_s, oT_r, oT_l, oC_r, oC_l, oN_s, oN_n]
theorem kp_13 {k nS nT : Nat} {sc : xSC} {sr : xSR} {sl : xSL} (h : xInv k 0 nS nT sc sr) (a1 : Int32) : xGood (k + 1) (fC_13 nS nT a1 sc sr sl) := by
  have h6 := h.T6
  rcases xidx nT (by omega) a1 with ⟨t, ht, rfl⟩ | ha
  · have g := xin_n (n := t) (N := 6) (by omega) (by omega)
    rcases h.mov t ht with ⟨p, q⟩ | ⟨i, j, n, -, -, -, b, -, -, d, c⟩
    · simp [fC_13, fL_targetOf, fX5_targetOf, fX6_targetOf, fX6_thrown, movT_s h6 ht p, hnm_s h6 ht h.c103 q, xuR, oG_t, oB_s, oP_s, oT_r, oT_l, oC_r, oC_l, oN_s, oN_n]
      exact xGood_cd h
    · have p : sc.1 9 t 0 ≠ 45 := by rcases c with ⟨c, -⟩ | ⟨c, -⟩ | ⟨c, -⟩ <;> rw [c] <;> decide
      have q : sr.1 9 t ≠ 0 := by rcases c with ⟨-, c, -⟩ | ⟨-, c, -⟩ | ⟨-, c, -⟩ <;> rw [c] <;> decide
      simp [fC_13, fL_targetOf, fX5_targetOf, fX6_targetOf, fX6_thrown, movT_y h6 ht p, hnm_y h6 ht h.c103 q, ht, g, nI_N (n := t) (by omega), b, d, lgc, xuR, oG_t, oB_s, oP_s, oT_r, oT_l, oC_r, oC_l, oN_s, oN_n]
      exact xGood_cd h
  · simp [fC_13, fL_targetOf, fX5_targetOf, fX6_targetOf, fX6_thrown, movT_n h6 ha, hnm_n h6 ha h.c103, lgc, xuR, oG_t, oB_s, oP_s, oT_r, oT_l, oC_r, oC_l, oN_s, oN_n]
    exact xGood_cd h
theorem rm_y {nS nT m : Nat} {sc : xSC} (h : m < 3) : fX5_requireMeasure nS nT (nI m) sc = some (.inr ()) := by
  rcases (show m = 0 ∨ m = 1 ∨ m = 2 by omega) with rfl | rfl | rfl <;> rfl
theorem rm_n {nS nT : Nat} {a : Int32} {sc : xSC} (h : a < 0 ∨ nI 3 ≤ a) : fX5_requireMeasure nS nT a sc = some (.inl "java/lang/IndexOutOfBoundsException") := by
  unfold fX5_requireMeasure
  rcases h with h | h
  · rw [if_pos h]
  · split
    · rfl
    · rw [if_neg]
      intro h'
      exact absurd (Int32.lt_of_le_of_lt h h') (by decide)
theorem im_y {m : Nat} {sr : xSR} (h : m < 3) : fX6_isMeasure (nI m) sr = some 1 := by
  unfold fX6_isMeasure
  rw [show (2 : Int32) = nI 3 - 1 from rfl, fin_y (by omega) h]
  rfl
theorem im_n {a : Int32} {sr : xSR} (h : a < 0 ∨ nI 3 ≤ a) : fX6_isMeasure a sr = some 0 := by
  unfold fX6_isMeasure
  rw [show (2 : Int32) = nI 3 - 1 from rfl, fin_n (by omega) h]
  rfl
theorem of_e {nS nT k0 j0 m : Nat} {sc : xSC} (h : m < 3) : fX0_of nS nT k0 j0 (nI m) sc = some (sc.1 k0 j0 m) := by
  rcases (show m = 0 ∨ m = 1 ∨ m = 2 by omega) with rfl | rfl | rfl <;> rfl
theorem put_e {nS nT k0 j0 m : Nat} {v : Int32} {sc : xSC} (h : m < 3) : fX0_put nS nT k0 j0 (nI m) v sc = some ((), (xuC sc.1 k0 j0 m v, sc.2)) := by
  rcases (show m = 0 ∨ m = 1 ∨ m = 2 by omega) with rfl | rfl | rfl <;> rfl
theorem nI_mul (a b : Nat) : nI a * nI b = nI (a * b) := (Int32.ofNat_mul a b).symm
theorem nI_3m (j m : Nat) : (3 : Int32) * nI j + nI m = nI (3 * j + m) := by
  rw [show (3 : Int32) = nI 3 from rfl, nI_mul, nI_add]
theorem nI_3 (j : Nat) : (3 : Int32) * nI j = nI (3 * j) := by
  rw [show (3 : Int32) = nI 3 from rfl, nI_mul]
theorem kp_20 {k nS nT : Nat} {sc : xSC} {sr : xSR} {sl : xSL} (h : xInv k 0 nS nT sc sr) (a1 a2 : Int32) : xGood (k + 1) (fC_20 nS nT a1 a2 sc sr sl) := by
  have h6 := h.T6
  rcases xidx nT (by omega) a1 with ⟨t, ht, rfl⟩ | ha
  · rcases xidx 3 (by omega) a2 with ⟨m, hm, rfl⟩ | hb
    · obtain ⟨n, -, -, e1, e2⟩ := h.siz t m ht hm
      simp [fC_20, fL_sizeOf, fX5_sizeOf, fX6_sizeOf, fX6_thrown, knT_y h6 ht, noT_y (N := nT) (by omega) ht h.c103, rm_y hm, im_y hm, of_e hm, nI_3m, fls_0, ht, xin_n (n := 3 * t + m) (N := 18) (by omega) (by omega), nI_N (n := 3 * t + m) (by omega), e1, e2, lgc, xuR, oG_t, oB_s, oP_s, oT_r, oT_l, oC_r, oC_l, oN_s, oN_n]
      exact xGood_cd h
    · simp [fC_20, fL_sizeOf, fX5_sizeOf, fX6_sizeOf, fX6_thrown, knT_y h6 ht, noT_y (N := nT) (by omega) ht h.c103, rm_n hb, im_n hb, fls_1, ht, lgc, xuR, oG_t, oB_s, oP_s, oT_r, oT_l, oC_r, oC_l, oN_s, oN_n]
      exact xGood_cd h
  · simp [fC_20, fL_sizeOf, fX5_sizeOf, fX6_sizeOf, fX6_thrown, knT_n h6 ha, noT_n (N := nT) (by omega) ha h.c103, fls_1, lgc, xuR, oG_t, oB_s, oP_s, oT_r, oT_l, oC_r, oC_l, oN_s, oN_n]
    exact xGood_cd h
/-- a number in a range, as both sides ask for it -/
theorem rr_e {nS nT : Nat} {a b c : Int32} {sc : xSC} : fX5_requireRange nS nT a b c sc = some (if a < b then .inl "java/lang/IllegalArgumentException" else if c < a then .inl "java/lang/IllegalArgumentException" else .inr ()) := by
  unfold fX5_requireRange
  split
  · rfl
  · by_cases h : a ≤ c
    · rw [if_pos h, if_neg (Int32.not_lt.mpr h)]
    · rw [if_neg h, if_pos (Int32.not_le.mp h)]
theorem rr_y {nS nT : Nat} {a b c : Int32} {sc : xSC} (h1 : b ≤ a) (h2 : a ≤ c) : fX5_requireRange nS nT a b c sc = some (.inr ()) := by
  rw [rr_e, if_neg (Int32.not_lt.mpr h1), if_neg (Int32.not_lt.mpr h2)]
theorem rr_n {nS nT : Nat} {a b c : Int32} {sc : xSC} (h : a < b ∨ c < a) : fX5_requireRange nS nT a b c sc = some (.inl "java/lang/IllegalArgumentException") := by
  rw [rr_e]
  rcases h with h | h
  · rw [if_pos h]
  · rw [if_pos h]; split <;> rfl
theorem in_y {a b c : Int32} {sr : xSR} (h1 : b ≤ a) (h2 : a ≤ c) : fX6_in a b c sr = some 1 := by
  unfold fX6_in
  rw [if_neg (Int32.not_lt.mpr h1), if_neg (Int32.not_lt.mpr h2)]
theorem in_n {a b c : Int32} {sr : xSR} (h : a < b ∨ c < a) : fX6_in a b c sr = some 0 := by
  unfold fX6_in
  rcases h with h | h
  · rw [if_pos h]
  · rw [if_pos h]; split <;> rfl
theorem xrng (a b c : Int32) : (b ≤ a ∧ a ≤ c) ∨ (a < b ∨ c < a) := by
  by_cases h1 : a < b
  · exact .inr (.inl h1)
  · by_cases h2 : c < a
    · exact .inr (.inr h2)
    · exact .inl ⟨Int32.not_lt.mp h1, Int32.not_lt.mp h2⟩
/-- a number in a range of small numbers -/
theorem xrng_n {a b c : Int32} {x y : Nat} (hb : b = nI x) (hc : c = nI y) (hy : y < 1000000) (hxy : x ≤ y) (h1 : b ≤ a) (h2 : a ≤ c) : ∃ n, x ≤ n ∧ n ≤ y ∧ a = nI n := by
  subst hb hc
  rw [Int32.le_iff_toInt_le, nI_toI (by omega)] at h1 h2
  have h0 : ¬ a < 0 := by
    rw [Int32.lt_iff_toInt_lt]
    have : (0 : Int32).toInt = 0 := rfl
    omega
  obtain ⟨j, hj, rfl⟩ := nI_of h0
  rw [nI_toInt hj] at h1 h2
  exact ⟨j, by omega, by omega, rfl⟩
