/-! the easy cases -/
theorem kp_19 {k nS nT : Nat} {sc : xSC} {sr : xSR} {sl : xSL} (h : xInv k 0 nS nT sc sr) (a1 : Int32) : xGood (k + 1) (fC_19 nS nT a1 sc sr sl) := by
  rcases xidx nT (by have := h.T6; omega) a1 with ⟨t, ht, rfl⟩ | ha
  · obtain ⟨j, hj, e1, e2⟩ := h.srv t ht
    have g := xin_n (n := t) (N := 6) (by have := h.T6; omega) (by omega)
    simp [fC_19, fL_servedBy, fX5_servedBy, fX6_servedBy, fX6_thrown, knT_y h.T6 ht, noT_y (N := nT) (by have := h.T6; omega) ht h.c103, fls_0, ht, g, nI_N (n := t) (by have := h.T6; omega), e1, e2, lgc, xuR, oG_t, oB_s, oP_s, oT_r, oT_l, oC_r, oC_l, oN_s, oN_n]
    exact xGood_cd h
  · simp [fC_19, fL_servedBy, fX5_servedBy, fX6_servedBy, fX6_thrown, knT_n h.T6 ha, noT_n (N := nT) (by have := h.T6; omega) ha h.c103, fls_1, lgc, xuR, oG_t, oB_s, oP_s, oT_r, oT_l, oC_r, oC_l, oN_s, oN_n]
    exact xGood_cd h
theorem kp_11 {k nS nT : Nat} {sc : xSC} {sr : xSR} {sl : xSL} (h : xInv k 0 nS nT sc sr) : xGood (k + 1) (fC_11 nS nT sc sr sl) := by
  obtain ⟨T, h1, h2, h3⟩ := h.tim
  simp [fC_11, fX5_time, fX6_time, fX6_tells, h2, h3, oG_t, oB_s, oP_s, oT_r, oT_l, oC_r, oC_l, oN_s, oN_n]
  exact xGood_cd h
theorem kp_29 {k nS nT : Nat} {sc : xSC} {sr : xSR} {sl : xSL} (h : xInv k 0 nS nT sc sr) : xGood (k + 1) (fC_29 nS nT sc sr sl) := by
  have e := h.swi
  simp [fC_29, fX5_switches, fX6_switches, fX6_tells, e, oG_t, oB_s, oP_s, oT_r, oT_l, oC_r, oC_l, oN_s, oN_n]
  exact xGood_cd h
theorem kp_30 {k nS nT : Nat} {sc : xSC} {sr : xSR} {sl : xSL} (h : xInv k 0 nS nT sc sr) : xGood (k + 1) (fC_30 nS nT sc sr sl) := by
  have e := h.ovr
  simp [fC_30, fX5_hoursOver, fX6_hoursOver, e, lgc, oG_t, oB_s, oP_s, oT_r, oT_l, oC_r, oC_l, oN_s, oN_n]
  rw [← e]
  rw [e]
  exact xGood_cd h
theorem shards_e {nS nT : Nat} {sc : xSC} (h : nS ≤ 4) : fX5_shards nS nT sc = some (nI nS) := by
  rcases (show nS = 0 ∨ nS = 1 ∨ nS = 2 ∨ nS = 3 ∨ nS = 4 by omega) with rfl | rfl | rfl | rfl | rfl <;> rfl
theorem tenants_e {nS nT : Nat} {sc : xSC} (h : nT ≤ 6) : fX5_tenants nS nT sc = some (nI nT) := by
  rcases (show nT = 0 ∨ nT = 1 ∨ nT = 2 ∨ nT = 3 ∨ nT = 4 ∨ nT = 5 ∨ nT = 6 by omega) with rfl | rfl | rfl | rfl | rfl | rfl | rfl <;> rfl
theorem kp_17 {k nS nT : Nat} {sc : xSC} {sr : xSR} {sl : xSL} (h : xInv k 0 nS nT sc sr) : xGood (k + 1) (fC_17 nS nT sc sr sl) := by
  simp [fC_17, shards_e h.S4, fX6_shards, fX6_tells, h.c100, oG_t, oB_s, oP_s, oT_r, oT_l, oC_r, oC_l, oN_s, oN_n]
  exact xGood_cd h
theorem kp_18 {k nS nT : Nat} {sc : xSC} {sr : xSR} {sl : xSL} (h : xInv k 0 nS nT sc sr) : xGood (k + 1) (fC_18 nS nT sc sr sl) := by
  simp [fC_18, tenants_e h.T6, fX6_tenants, fX6_tells, h.c103, oG_t, oB_s, oP_s, oT_r, oT_l, oC_r, oC_l, oN_s, oN_n]
  exact xGood_cd h
theorem kp_12 {k nS nT : Nat} {sc : xSC} {sr : xSR} {sl : xSL} (h : xInv k 0 nS nT sc sr) (a1 : Int32) : xGood (k + 1) (fC_12 nS nT a1 sc sr sl) := by
  have h6 := h.T6
  rcases xidx nT (by omega) a1 with ⟨t, ht, rfl⟩ | ha
  · have g := xin_n (n := t) (N := 6) (by omega) (by omega)
    have e0 : xnb .char 45 = true := by decide
    have e1 : xnb .char 99 = true := by decide
    have e2 : xnb .char 102 = true := by decide
    have e3 : xnb .char 100 = true := by decide
    rcases h.mov t ht with ⟨p, q⟩ | ⟨i, j, n, -, -, -, -, -, -, -, ⟨p, q, -⟩ | ⟨p, q, -⟩ | ⟨p, q, -⟩⟩ <;>
    · simp [fC_12, fL_phase, fX5_phase, fX6_phase, fX6_thrown, knT_y h6 ht, noT_y (N := nT) (by omega) ht h.c103, fls_0, ht, g, nI_N (n := t) (by omega), p, q, lgc, xuR, e0, e1, e2, e3, oG_t, oB_s, oP_s, oT_r, oT_l, oC_r, oC_l, oN_s, oN_n]
      exact xGood_cd h
  · simp [fC_12, fL_phase, fX5_phase, fX6_phase, fX6_thrown, knT_n h6 ha, noT_n (N := nT) (by omega) ha h.c103, fls_1, lgc, xuR, oG_t, oB_s, oP_s, oT_r, oT_l, oC_r, oC_l, oN_s, oN_n]
    exact xGood_cd h
theorem und_e {nS nT t : Nat} {sc : xSC} {k0 : Nat} : fX1_isUnderWay nS nT k0 t sc = some (if sc.1 k0 t 0 = 45 then 0 else 1) := by
  unfold fX1_isUnderWay
  split <;> rfl
theorem movT_n {nS nT : Nat} {a : Int32} {sc : xSC} (h6 : nT ≤ 6) (h : a < 0 ∨ nI nT ≤ a) : fX5_movingTenant nS nT a sc = some (.inl "java/lang/IndexOutOfBoundsException") := by
  simp [fX5_movingTenant, knT_n h6 h, oG_t, oB_s, oP_s, oT_r, oT_l, oC_r, oC_l, oN_s, oN_n]
theorem movT_y {nS nT t : Nat} {sc : xSC} (h6 : nT ≤ 6) (h : t < nT) (e : sc.1 9 t 0 ≠ 45) : fX5_movingTenant nS nT (nI t) sc = some (.inr t) := by
  simp [fX5_movingTenant, knT_y h6 h, h, und_e, e, oG_t, oB_s, oP_s, oT_r, oT_l, oC_r, oC_l, oN_s, oN_n]
theorem movT_s {nS nT t : Nat} {sc : xSC} (h6 : nT ≤ 6) (h : t < nT) (e : sc.1 9 t 0 = 45) : fX5_movingTenant nS nT (nI t) sc = some (.inl "java/util/NoSuchElementException") := by
  simp [fX5_movingTenant, knT_y h6 h, h, und_e, e, oG_t, oB_s, oP_s, oT_r, oT_l, oC_r, oC_l, oN_s, oN_n]
theorem xnb0 : xnb .boolean 0 = true := by decide
theorem xnb1 : xnb .boolean 1 = true := by decide
theorem hnm_n {nT : Nat} {a : Int32} {sr : xSR} (h6 : nT ≤ 6) (h : a < 0 ∨ nI nT ≤ a) (e : sr.1 103 0 = nI nT) : fX6_hasNoMove a sr = some (1, (xuR sr.1 122 0 1, sr.2)) := by
  simp [fX6_hasNoMove, noT_n (N := nT) (by omega) h e, fls_1, xnb1, oG_t, oB_s, oP_s, oT_r, oT_l, oC_r, oC_l, oN_s, oN_n]
theorem hnm_s {nT t : Nat} {sr : xSR} (h6 : nT ≤ 6) (h : t < nT) (e : sr.1 103 0 = nI nT) (q : sr.1 9 t = 0) : fX6_hasNoMove (nI t) sr = some (1, (xuR sr.1 122 0 2, sr.2)) := by
  simp [fX6_hasNoMove, noT_y (N := nT) (by omega) h e, xin_n (n := t) (N := 6) (by omega) (by omega), nI_N (n := t) (by omega), q, fls_2, xnb1, oG_t, oB_s, oP_s, oT_r, oT_l, oC_r, oC_l, oN_s, oN_n]
theorem hnm_y {nT t : Nat} {sr : xSR} (h6 : nT ≤ 6) (h : t < nT) (e : sr.1 103 0 = nI nT) (q : sr.1 9 t ≠ 0) : fX6_hasNoMove (nI t) sr = some (0, (xuR sr.1 122 0 0, sr.2)) := by
  simp [fX6_hasNoMove, noT_y (N := nT) (by omega) h e, xin_n (n := t) (N := 6) (by omega) (by omega), nI_N (n := t) (by omega), q, fls_0, xnb0, oG_t, oB_s, oP_s, oT_r, oT_l, oC_r, oC_l, oN_s, oN_n]
theorem kp_13 {k nS nT : Nat} {sc : xSC} {sr : xSR} {sl : xSL} (h : xInv k 0 nS nT sc sr) (a1 : Int32) : xGood (k + 1) (fC_13 nS nT a1 sc sr sl) := by
  have h6 := h.T6
  rcases xidx nT (by omega) a1 with ⟨t, ht, rfl⟩ | ha
  · have g := xin_n (n := t) (N := 6) (by omega) (by omega)
    rcases h.mov t ht with ⟨p, q⟩ | ⟨i, j, n, -, -, -, b, -, -, d, c⟩
    · simp [fC_13, fL_targetOf, fX5_targetOf, fX6_targetOf, fX6_thrown, movT_s h6 ht p, hnm_s h6 ht h.c103 q, xuR, oG_t, oB_s, oP_s, oT_r, oT_l, oC_r, oC_l, oN_s, oN_n]
      exact xGood_cd h
    · have p : sc.1 9 t 0 ≠ 45 := by rcases c with ⟨c, -⟩ | ⟨c, -⟩ | ⟨c, -⟩ <;> rw [c] <;> decide
      have q : sr.1 9 t ≠ 0 := by rcases c with ⟨-, c, -⟩ | ⟨-, c, -⟩ | ⟨-, c, -⟩ <;> rw [c] <;> decide
      simp [fC_13, fL_targetOf, fX5_targetOf, fX6_targetOf, fX6_thrown, movT_y h6 ht p, hnm_y h6 ht h.c103 q, ht, g, nI_N (n := t) (by omega), b, d, lgc, xuR, oG_t, oB_s, oP_s, oT_r, oT_l, oC_r, oC_l, oN_s, oN_n]
      exact xGood_cd h
  · simp [fC_13, fL_targetOf, fX5_targetOf, fX6_targetOf, fX6_thrown, movT_n h6 ha, hnm_n h6 ha h.c103, lgc, xuR, oG_t, oB_s, oP_s, oT_r, oT_l, oC_r, oC_l, oN_s, oN_n]
    exact xGood_cd h
