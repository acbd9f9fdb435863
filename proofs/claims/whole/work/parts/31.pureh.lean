/-! cases of settings -/
theorem inv_lim {k nS nT : Nat} {d : Int32} {sc : xSC} {sr : xSR} (h : xInv k d nS nT sc sr) {j m w : Nat} (hj : j < nS) (hm : m < 3) (h1 : 1 ≤ w) (h2 : w ≤ 300) : xInv k d nS nT (xuC sc.1 5 j m (nI w), sc.2) (xuR sr.1 1 (3 * j + m) (nI w), sr.2) := by
  refine ⟨h.S4, h.T6, by simpa [xuR] using h.c100, by simpa [xuR] using h.c103, ?_, by simpa [xuC, xuR] using h.opn, by simpa [xuR] using h.opz, by simpa [xuC, xuR] using h.siz, by simpa [xuC, xuR] using h.gro, by simpa [xuC, xuR] using h.win, by simpa [xuC, xuR] using h.srv, by simpa [xuC, xuR] using h.mov, by simpa [xuR] using h.fre, by simpa [xuC, xUse] using h.use, Nat.le_trans (xCnt_le (fun u _ e => by simpa [xuC] using e)) h.cnt, by simpa [xuC, xuR] using h.par, by simpa [xuC, xuR] using h.tim, by simpa [xuC, xuR] using h.swi, h.ovr⟩
  intro j' m' hj' hm'
  by_cases e : j' = j ∧ m' = m
  · obtain ⟨rfl, rfl⟩ := e
    exact ⟨w, h1, h2, by simp [xuC], by simp [xuR]⟩
  · obtain ⟨n, n1, n2, n3, n4⟩ := h.lim j' m' hj' hm'
    refine ⟨n, n1, n2, ?_, ?_⟩
    · simp only [xuC]
      rw [if_neg (by omega)]
      exact n3
    · simp only [xuR]
      rw [if_neg (by omega)]
      exact n4
theorem kp_2 {k nS nT : Nat} {sc : xSC} {sr : xSR} {sl : xSL} (h : xInv k 0 nS nT sc sr) (a1 a2 a3 : Int32) : xGood (k + 1) (fC_2 nS nT a1 a2 a3 sc sr sl) := by
  have h4 := h.S4
  rcases xidx nS (by omega) a1 with ⟨j, hj, rfl⟩ | ha
  · rcases xidx 3 (by omega) a2 with ⟨m, hm, rfl⟩ | hb
    · rcases xrng a3 1 300 with ⟨g1, g2⟩ | g
      · obtain ⟨w, w1, w2, rfl⟩ := xrng_n (x := 1) (y := 300) rfl rfl (by omega) (by omega) g1 g2
        obtain ⟨n, -, -, e1, e2⟩ := h.lim j m hj hm
        simp [fC_2, fL_setLimit, fX5_setLimit, fX6_setLimit, fX6_thrown, knS_y h4 hj, noS_y (N := nS) (by omega) hj h.c100, rm_y hm, im_y hm, rr_y g1 g2, in_y g1 g2, of_e hm, put_e hm, fls_0, hj, nI_3m, xin_n (show 3 * j + m < 12 by omega) (by omega), nN (show 3 * j + m < 100 by omega), lgc, oG_t, oB_s, oP_s, oT_r, oT_l, oC_r, oC_l, oN_s, oN_n]
        simp [show (xuR sr.1 122 0 0) 1 (3 * j + m) = nI n from by simpa [xuR] using e2, e1, lgc, show ∀ v, xuR (xuR sr.1 122 0 0) 1 (3 * j + m) v 122 0 = 0 from fun v => by simp [xuR]]
        exact xGood_i (inv_lim (xInv_cd h) hj hm w1 w2)
      · simp [fC_2, fL_setLimit, fX5_setLimit, fX6_setLimit, fX6_thrown, knS_y h4 hj, noS_y (N := nS) (by omega) hj h.c100, rm_y hm, im_y hm, rr_n g, in_n g, fls_2, hj, lgc, xuR, oG_t, oB_s, oP_s, oT_r, oT_l, oC_r, oC_l, oN_s, oN_n]
        exact xGood_cd h
    · simp [fC_2, fL_setLimit, fX5_setLimit, fX6_setLimit, fX6_thrown, knS_y h4 hj, noS_y (N := nS) (by omega) hj h.c100, rm_n hb, im_n hb, fls_1, hj, lgc, xuR, oG_t, oB_s, oP_s, oT_r, oT_l, oC_r, oC_l, oN_s, oN_n]
      exact xGood_cd h
  · simp [fC_2, fL_setLimit, fX5_setLimit, fX6_setLimit, fX6_thrown, knS_n h4 ha, noS_n (N := nS) (by omega) ha h.c100, fls_1, lgc, xuR, oG_t, oB_s, oP_s, oT_r, oT_l, oC_r, oC_l, oN_s, oN_n]
    exact xGood_cd h
theorem inv_opn {k nS nT : Nat} {d : Int32} {sc : xSC} {sr : xSR} (h : xInv k d nS nT sc sr) {j : Nat} {v w : Int32} (hj : j < nS) (hv : (v = 1 ∧ w = 0) ∨ (v = 0 ∧ w = 1)) : xInv k d nS nT (xuC sc.1 4 j 2 v, sc.2) (xuR sr.1 2 j w, sr.2) := by
  refine ⟨h.S4, h.T6, by simpa [xuR] using h.c100, by simpa [xuR] using h.c103, by simpa [xuC, xuR] using h.lim, ?_, ?_, by simpa [xuC, xuR] using h.siz, by simpa [xuC, xuR] using h.gro, by simpa [xuC, xuR] using h.win, by simpa [xuC, xuR] using h.srv, by simpa [xuC, xuR] using h.mov, by simpa [xuR] using h.fre, by simpa [xuC, xUse] using h.use, Nat.le_trans (xCnt_le (fun u _ e => by simpa [xuC] using e)) h.cnt, by simpa [xuC, xuR] using h.par, by simpa [xuC, xuR] using h.tim, by simpa [xuC, xuR] using h.swi, h.ovr⟩
  · intro j' hj'
    by_cases e : j' = j
    · subst e
      simpa [xuC, xuR] using hv
    · simpa [xuC, xuR, e] using h.opn j' hj'
  · intro j' h1 h2
    have e : ¬ j' = j := by omega
    simpa [xuR, e] using h.opz j' h1 h2
theorem kp_1 {k nS nT : Nat} {sc : xSC} {sr : xSR} {sl : xSL} (h : xInv k 0 nS nT sc sr) (a1 a2 : Int32) : xGood (k + 1) (fC_1 nS nT a1 a2 sc sr sl) := by
  have h4 := h.S4
  have i0 := @inv_opn k nS nT 0 sc (xuR sr.1 122 0 0, sr.2) (xInv_cd h)
  rcases xidx nS (by omega) a1 with ⟨j, hj, rfl⟩ | ha
  · have t0 : ∀ v, xuR (xuR sr.1 122 0 0) 2 j v 122 0 = 0 := fun v => by simp [xuR]
    rcases h.opn j hj with ⟨e1, e2⟩ | ⟨e1, e2⟩
    · have t1 : (xuR sr.1 122 0 0) 2 j = 0 := by simpa [xuR] using e2
      by_cases g : a2 = 0
      · subst g
        simp [fC_1, fL_setOpen, fX5_setOpen, fX6_setOpen, fX6_thrown, knS_y h4 hj, noS_y (N := nS) (by omega) hj h.c100, fls_0, hj, xin4 (show j < 4 by omega), nN (show j < 100 by omega), e1, xnb0, xnb1, lgc, t0, t1, oG_t, oB_s, oP_s, oT_r, oT_l, oC_r, oC_l, oN_s, oN_n]
        exact xGood_i (i0 hj (.inr ⟨rfl, rfl⟩))
      · simp [fC_1, fL_setOpen, fX5_setOpen, fX6_setOpen, fX6_thrown, knS_y h4 hj, noS_y (N := nS) (by omega) hj h.c100, fls_0, hj, xin4 (show j < 4 by omega), nN (show j < 100 by omega), e1, xnb0, xnb1, lgc, t0, t1, g, oG_t, oB_s, oP_s, oT_r, oT_l, oC_r, oC_l, oN_s, oN_n]
        exact xGood_i (i0 hj (.inl ⟨rfl, rfl⟩))
    · have t1 : ¬ (xuR sr.1 122 0 0) 2 j = 0 := by simp [xuR, e2]
      by_cases g : a2 = 0
      · subst g
        simp [fC_1, fL_setOpen, fX5_setOpen, fX6_setOpen, fX6_thrown, knS_y h4 hj, noS_y (N := nS) (by omega) hj h.c100, fls_0, hj, xin4 (show j < 4 by omega), nN (show j < 100 by omega), e1, xnb0, xnb1, lgc, t0, t1, oG_t, oB_s, oP_s, oT_r, oT_l, oC_r, oC_l, oN_s, oN_n]
        exact xGood_i (i0 hj (.inr ⟨rfl, rfl⟩))
      · simp [fC_1, fL_setOpen, fX5_setOpen, fX6_setOpen, fX6_thrown, knS_y h4 hj, noS_y (N := nS) (by omega) hj h.c100, fls_0, hj, xin4 (show j < 4 by omega), nN (show j < 100 by omega), e1, xnb0, xnb1, lgc, t0, t1, g, oG_t, oB_s, oP_s, oT_r, oT_l, oC_r, oC_l, oN_s, oN_n]
        exact xGood_i (i0 hj (.inl ⟨rfl, rfl⟩))
  · by_cases g : a2 = 0
    · subst g
      simp [fC_1, fL_setOpen, fX5_setOpen, fX6_setOpen, fX6_thrown, knS_n h4 ha, noS_n (N := nS) (by omega) ha h.c100, fls_1, lgc, xuR, oG_t, oB_s, oP_s, oT_r, oT_l, oC_r, oC_l, oN_s, oN_n]
      exact xGood_cd h
    · simp [fC_1, fL_setOpen, fX5_setOpen, fX6_setOpen, fX6_thrown, knS_n h4 ha, noS_n (N := nS) (by omega) ha h.c100, fls_1, lgc, xuR, g, oG_t, oB_s, oP_s, oT_r, oT_l, oC_r, oC_l, oN_s, oN_n]
      exact xGood_cd h
theorem inv_win {k nS nT : Nat} {d : Int32} {sc : xSC} {sr : xSR} (h : xInv k d nS nT sc sr) {t a b : Nat} (ht : t < nT) (ha : a < 24) (hb : b < 24) : xInv k d nS nT (xuC (xuC sc.1 11 t 4 (nI a)) 11 t 5 (nI b), sc.2) (xuR (xuR sr.1 6 t (nI a)) 7 t (nI b), sr.2) := by
  refine ⟨h.S4, h.T6, by simpa [xuR] using h.c100, by simpa [xuR] using h.c103, by simpa [xuC, xuR] using h.lim, by simpa [xuC, xuR] using h.opn, by simpa [xuR] using h.opz, by simpa [xuC, xuR] using h.siz, by simpa [xuC, xuR] using h.gro, ?_, by simpa [xuC, xuR] using h.srv, by simpa [xuC, xuR] using h.mov, ?_, by simpa [xuC, xUse] using h.use, Nat.le_trans (xCnt_le (fun u _ e => by simpa [xuC] using e)) h.cnt, by simpa [xuC, xuR] using h.par, by simpa [xuC, xuR] using h.tim, by simpa [xuC, xuR] using h.swi, h.ovr⟩
  · intro t' ht'
    by_cases e : t' = t
    · subst e
      exact ⟨a, b, ha, hb, by simp [xuC], by simp [xuR], by simp [xuC], by simp [xuR]⟩
    · simpa [xuC, xuR, e] using h.win t' ht'
  · intro t' h1 h2
    have e : ¬ t' = t := by omega
    simpa [xuR, e] using h.fre t' h1 h2
theorem kp_5 {k nS nT : Nat} {sc : xSC} {sr : xSR} {sl : xSL} (h : xInv k 0 nS nT sc sr) (a1 a2 a3 : Int32) : xGood (k + 1) (fC_5 nS nT a1 a2 a3 sc sr sl) := by
  have h6 := h.T6
  rcases xidx nT (by omega) a1 with ⟨t, ht, rfl⟩ | ha
  · rcases xrng a2 0 23 with ⟨g1, g2⟩ | g
    · obtain ⟨a, -, w2, rfl⟩ := xrng_n (x := 0) (y := 23) rfl rfl (by omega) (by omega) g1 g2
      rcases xrng a3 0 23 with ⟨g3, g4⟩ | g
      · obtain ⟨b, -, w4, rfl⟩ := xrng_n (x := 0) (y := 23) rfl rfl (by omega) (by omega) g3 g4
        have e := wh_e (nS := nS) (nT := nT) (t := t) (a := a) (b := b) (sc := (xuC (xuC sc.1 11 t 4 (nI a)) 11 t 5 (nI b), sc.2)) (by omega) (by omega) (by simp [xuC]) (by simp [xuC])
        have t0 : ∀ v w, xuR (xuR (xuR sr.1 122 0 0) 6 t v) 7 t w 122 0 = 0 := fun v w => by simp [xuR]
        by_cases q : a < b
        · rw [if_pos q] at e
          simp [fC_5, fL_setWindow, fX5_setWindow, fX6_setWindow, fX6_thrown, knT_y h6 ht, noT_y (N := nT) (by omega) ht h.c103, rr_y g1 g2, in_y g1 g2, rr_y g3 g4, in_y g3 g4, fls_0, ht, xin6 (show t < 6 by omega), nN (show t < 100 by omega), e, nI_ge q (by omega), pk_sub (show a ≤ b by omega), lgc, t0, oG_t, oB_s, oP_s, oT_r, oT_l, oC_r, oC_l, oN_s, oN_n]
          exact xGood_i (inv_win (xInv_cd h) ht (by omega) (by omega))
        · rw [if_neg q] at e
          have e24 : nI b - nI a + 24 = nI (b + 24 - a) := by
            rw [Int32.sub_eq_add_neg, Int32.add_assoc, Int32.add_comm (-nI a), ← Int32.sub_eq_add_neg, show (24 : Int32) = nI 24 from rfl, pk_sub (show a ≤ 24 by omega), nI_add]
            congr 1
            omega
          simp [fC_5, fL_setWindow, fX5_setWindow, fX6_setWindow, fX6_thrown, knT_y h6 ht, noT_y (N := nT) (by omega) ht h.c103, rr_y g1 g2, in_y g1 g2, rr_y g3 g4, in_y g3 g4, fls_0, ht, xin6 (show t < 6 by omega), nN (show t < 100 by omega), e, nI_le (show b ≤ a by omega) (by omega), e24, lgc, t0, oG_t, oB_s, oP_s, oT_r, oT_l, oC_r, oC_l, oN_s, oN_n]
          exact xGood_i (inv_win (xInv_cd h) ht (by omega) (by omega))
      · simp [fC_5, fL_setWindow, fX5_setWindow, fX6_setWindow, fX6_thrown, knT_y h6 ht, noT_y (N := nT) (by omega) ht h.c103, rr_y g1 g2, in_y g1 g2, rr_n g, in_n g, fls_2, ht, lgc, xuR, oG_t, oB_s, oP_s, oT_r, oT_l, oC_r, oC_l, oN_s, oN_n]
        exact xGood_cd h
    · simp [fC_5, fL_setWindow, fX5_setWindow, fX6_setWindow, fX6_thrown, knT_y h6 ht, noT_y (N := nT) (by omega) ht h.c103, rr_n g, in_n g, fls_2, ht, lgc, xuR, oG_t, oB_s, oP_s, oT_r, oT_l, oC_r, oC_l, oN_s, oN_n]
      exact xGood_cd h
  · simp [fC_5, fL_setWindow, fX5_setWindow, fX6_setWindow, fX6_thrown, knT_n h6 ha, noT_n (N := nT) (by omega) ha h.c103, fls_1, lgc, xuR, oG_t, oB_s, oP_s, oT_r, oT_l, oC_r, oC_l, oN_s, oN_n]
    exact xGood_cd h
