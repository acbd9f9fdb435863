/-! reasons, moves -/
theorem ph_q {k nS nT : Nat} {d : Int32} {sc : xSC} {sr : xSR} (h : xInv k d nS nT sc sr) {t : Nat} (ht : t < nT) : (sr.1 9 t = 0) = (sc.1 9 t 0 = 45) := by
  rcases h.mov t ht with ⟨p, q⟩ | ⟨_, _, _, -, -, -, -, -, -, -, ⟨p, q, -⟩ | ⟨p, q, -⟩ | ⟨p, q, -⟩⟩ <;> simp [p, q]
theorem why_e {k nS nT : Nat} {d : Int32} {sc : xSC} {sr : xSR} (h : xInv k d nS nT sc sr) {t j : Nat} (ht : t < nT) (hj : j < nS) : ∃ v, fX6_why (nI t) (nI j) sr = some v ∧ fX5_reason nS nT (nI t) (nI j) sc = some (.inr v) ∧ xnb .char v = true ∧ (v = 110 → sc.1 9 t 0 = 45) := by
  have h6 := h.T6
  have h4 := h.S4
  obtain ⟨s, -, s1, s2⟩ := h.srv t ht
  obtain ⟨b, hb, b1, b2⟩ := bar_e h (t := t) (j := j) ht
  by_cases g1 : sc.1 9 t 0 = 45
  · have q1 : sr.1 9 t = 0 := by rw [ph_q h ht]; exact g1
    by_cases g2 : nI s = nI j
    · refine ⟨115, ?_, ?_, by decide, fun _ => g1⟩
      · simp [fX6_why, xin6 (show t < 6 by omega), nN (show t < 100 by omega), q1, s2, g2, oG_t, oB_s, oP_s, oT_r, oT_l, oC_r, oC_l, oN_s, oN_n]
      · simp [fX5_reason, knT_y h6 ht, knS_y h4 hj, ht, hj, und_e, g1, s1, g2, oG_t, oB_s, oP_s, oT_r, oT_l, oC_r, oC_l, oN_s, oN_n]
    · rcases h.opn j hj with ⟨e1, e2⟩ | ⟨e1, e2⟩
      · rcases hb with rfl | rfl
        · have rr := room_r h ht hj
          rcases room_b (nS := nS) (nT := nT) (j := j) (a := sc.1 8 t 0) (b := sc.1 8 t 1) (c := sc.1 8 t 2) (sc := sc) with e | e
          · rw [e] at rr
            refine ⟨114, ?_, ?_, by decide, fun _ => g1⟩
            · simp [fX6_why, xin6 (show t < 6 by omega), nN (show t < 100 by omega), xin4 (show j < 4 by omega), nN (show j < 100 by omega), q1, s2, g2, e2, b2, rr, oG_t, oB_s, oP_s, oT_r, oT_l, oC_r, oC_l, oN_s, oN_n]
            · simp [fX5_reason, knT_y h6 ht, knS_y h4 hj, ht, hj, und_e, g1, s1, g2, e1, b1, e, oG_t, oB_s, oP_s, oT_r, oT_l, oC_r, oC_l, oN_s, oN_n]
          · rw [e] at rr
            refine ⟨110, ?_, ?_, by decide, fun _ => g1⟩
            · simp [fX6_why, xin6 (show t < 6 by omega), nN (show t < 100 by omega), xin4 (show j < 4 by omega), nN (show j < 100 by omega), q1, s2, g2, e2, b2, rr, oG_t, oB_s, oP_s, oT_r, oT_l, oC_r, oC_l, oN_s, oN_n]
            · simp [fX5_reason, knT_y h6 ht, knS_y h4 hj, ht, hj, und_e, g1, s1, g2, e1, b1, e, oG_t, oB_s, oP_s, oT_r, oT_l, oC_r, oC_l, oN_s, oN_n]
        · refine ⟨112, ?_, ?_, by decide, fun _ => g1⟩
          · simp [fX6_why, xin6 (show t < 6 by omega), nN (show t < 100 by omega), xin4 (show j < 4 by omega), nN (show j < 100 by omega), q1, s2, g2, e2, b2, oG_t, oB_s, oP_s, oT_r, oT_l, oC_r, oC_l, oN_s, oN_n]
          · simp [fX5_reason, knT_y h6 ht, knS_y h4 hj, ht, hj, und_e, g1, s1, g2, e1, b1, oG_t, oB_s, oP_s, oT_r, oT_l, oC_r, oC_l, oN_s, oN_n]
      · refine ⟨99, ?_, ?_, by decide, fun _ => g1⟩
        · simp [fX6_why, xin6 (show t < 6 by omega), nN (show t < 100 by omega), xin4 (show j < 4 by omega), nN (show j < 100 by omega), q1, s2, g2, e2, oG_t, oB_s, oP_s, oT_r, oT_l, oC_r, oC_l, oN_s, oN_n]
        · simp [fX5_reason, knT_y h6 ht, knS_y h4 hj, ht, hj, und_e, g1, s1, g2, e1, oG_t, oB_s, oP_s, oT_r, oT_l, oC_r, oC_l, oN_s, oN_n]
  · have q1 : ¬ sr.1 9 t = 0 := by rw [ph_q h ht]; exact g1
    refine ⟨109, ?_, ?_, by decide, fun e => absurd e (by decide)⟩
    · simp [fX6_why, xin6 (show t < 6 by omega), nN (show t < 100 by omega), q1, oG_t, oB_s, oP_s, oT_r, oT_l, oC_r, oC_l, oN_s, oN_n]
    · simp [fX5_reason, knT_y h6 ht, knS_y h4 hj, ht, hj, und_e, g1, oG_t, oB_s, oP_s, oT_r, oT_l, oC_r, oC_l, oN_s, oN_n]
theorem kp_8 {k nS nT : Nat} {sc : xSC} {sr : xSR} {sl : xSL} (h : xInv k 0 nS nT sc sr) (a1 a2 : Int32) : xGood (k + 1) (fC_8 nS nT a1 a2 sc sr sl) := by
  have h6 := h.T6
  have h4 := h.S4
  rcases xidx nT (by omega) a1 with ⟨t, ht, rfl⟩ | ha
  · rcases xidx nS (by omega) a2 with ⟨j, hj, rfl⟩ | hb
    · obtain ⟨v, v1, v2, v3, -⟩ := why_e (xInv_cd (c := 0) h) ht hj
      simp [fC_8, fL_reason, fX6_reason, fX6_thrown, v1, v2, v3, noT_y (N := nT) (by omega) ht h.c103, noS_y (N := nS) (by omega) hj h.c100, fls_0, lgc, oG_t, oB_s, oP_s, oT_r, oT_l, oC_r, oC_l, oN_s, oN_n]
      simp [xuR]
      exact xGood_cd h
    · simp [fC_8, fL_reason, fX5_reason, fX6_reason, fX6_thrown, knT_y h6 ht, knS_n h4 hb, ht, noT_y (N := nT) (by omega) ht h.c103, noS_n (N := nS) (by omega) hb h.c100, fls_1, lgc, xuR, oG_t, oB_s, oP_s, oT_r, oT_l, oC_r, oC_l, oN_s, oN_n]
      exact xGood_cd h
  · simp [fC_8, fL_reason, fX5_reason, fX6_reason, fX6_thrown, knT_n h6 ha, noT_n (N := nT) (by omega) ha h.c103, fls_1, lgc, xuR, oG_t, oB_s, oP_s, oT_r, oT_l, oC_r, oC_l, oN_s, oN_n]
    exact xGood_cd h
theorem hrs_e {w : Nat} (hw : w ≤ 999) : (nI w + 20 - 1) / 20 = nI ((w + 19) / 20) ∧ (nI w + 19) / 20 = nI ((w + 19) / 20) := by
  have e1 : nI w + 20 - 1 = nI (w + 19) := by
    rw [show nI w + 20 = nI ((w + 19) + 1) from nI_add w 20, nI_pred]
  have e2 : nI w + 19 = nI (w + 19) := nI_add w 19
  rw [e1, e2]
  have := pk_div (a := w + 19) (d := 20) (by omega) (by omega) (by omega)
  exact ⟨this, this⟩
theorem kp_7 {k nS nT : Nat} {sc : xSC} {sr : xSR} {sl : xSL} (h : xInv k 0 nS nT sc sr) (a1 a2 : Int32) : xGood (k + 1) (fC_7 nS nT a1 a2 sc sr sl) := by
  have h6 := h.T6
  have h4 := h.S4
  rcases xidx nT (by omega) a1 with ⟨t, ht, rfl⟩ | ha
  · rcases xidx nS (by omega) a2 with ⟨j, hj, rfl⟩ | hb
    · obtain ⟨v, v1, v2, v3, v4⟩ := why_e h ht hj
      obtain ⟨u, u1, u2, u3⟩ := moves_e h
      by_cases g : v = 110
      · subst g
        have g1 := v4 rfl
        by_cases g2 : xCnt sc nT = 3
        · have e3 : u = 3 := by rw [u3, g2]; rfl
          subst e3
          simp [fC_7, fL_move, fX5_move, fX6_move, fX6_thrown, knT_y h6 ht, ht, v1, v2, u1, u2, noT_y (N := nT) (by omega) ht h.c103, noS_y (N := nS) (by omega) hj h.c100, fls_3, lgc, oG_t, oB_s, oP_s, oT_r, oT_l, oC_r, oC_l, oN_s, oN_n]
          simp [xuR]
          exact xGood_cd h
        · have h3 := h.cnt
          have e3 : u < 3 := by rw [u3]; exact nI_lt (b := 3) (by omega) (by omega)
          have e3' : ¬ u = 3 := fun e => by rw [e] at e3; exact absurd e3 (by decide)
          obtain ⟨w, w1, w2, e1, e2⟩ := h.siz t 0 ht (by omega)
          obtain ⟨s, s0, s1, s2⟩ := h.srv t ht
          have o : fX0_of nS nT 8 t 0 sc = some (sc.1 8 t 0) := of_e (m := 0) (by omega)
          have x1 : ∀ a b c e : Int32, xuR (xuR (xuR (xuR (xuR sr.1 122 0 0) 9 t a) 10 t b) 11 t c) 12 t e 122 0 = 0 := fun a b c e => by simp [xuR]
          have x2 : ∀ a b c : Int32, xuR (xuR (xuR (xuR sr.1 122 0 0) 9 t a) 10 t b) 11 t c 4 (3 * t) = nI w := fun a b c => by simpa [xuR] using e2
          have x3 : ∀ a b c e : Int32, xuR (xuR (xuR (xuR (xuR sr.1 122 0 0) 9 t a) 10 t b) 11 t c) 12 t e 12 t = e := fun a b c e => by simp [xuR]
          have x4 : ∀ a : Int32, xuR (xuR sr.1 122 0 0) 9 t a 8 t = nI s := fun a => by simpa [xuR] using s2
          simp [fC_7, fL_move, fX5_move, fX6_move, fX6_thrown, fX1_begin, knT_y h6 ht, ht, v1, v2, u1, u2, e3, e3', o, countUse_e h4, noT_y (N := nT) (by omega) ht h.c103, noS_y (N := nS) (by omega) hj h.c100, fls_0, xin6 (show t < 6 by omega), nN (show t < 100 by omega), nI_3, xin_n (show 3 * t < 18 by omega) (by omega), nN (show 3 * t < 100 by omega), x1, x2, x3, x4, e1, (hrs_e w2).1, (hrs_e w2).2, xCU_o, lgc, oG_t, oB_s, oP_s, oT_r, oT_l, oC_r, oC_l, oN_s, oN_n]
          refine xGood_i (inv_ci (xInv_cd (c := 0) h) ht (fun k j i hn => ?_) rfl (fun a b hn => ?_) rfl (fun m' hm' => ?_) ?_ ?_ ?_)
          · simp only [xuC]
            rw [if_neg (by omega), if_neg (by omega), if_neg (by omega), if_neg (by omega)]
          · simp only [xuR]
            rw [if_neg (by omega), if_neg (by omega), if_neg (by omega), if_neg (by omega)]
          · obtain ⟨n', n1, n2, n3, n4⟩ := h.siz t m' ht hm'
            exact ⟨n', n1, n2, by simp [xuC, xCU_o, n3], by simp [xuR, n4]⟩
          · exact ⟨s, s0, by simp [xuC, xCU_o, s1], by simp [xuR, s2]⟩
          · refine .inr ⟨s, j, (w + 19) / 20, s0, hj, ?_, ?_, ?_, ?_, ?_, .inl ⟨?_, ?_, by omega, by omega, ?_⟩⟩
            · simp [xuC, s1]
            · simp [xuC]
            · simp [xuC]
            · simp [xuR]
            · simp [xuR]
            · simp [xuC]
            · simp [xuR]
            · simp [xuR]
          · refine Nat.le_trans (xCnt_1 (sc := sc) (t := t) (fun u _ hu e => ?_)) (by omega)
            simp [xuC, xCU_o, hu, e]
      · simp [fC_7, fL_move, fX5_move, fX6_move, fX6_thrown, knT_y h6 ht, ht, v1, v2, g, noT_y (N := nT) (by omega) ht h.c103, noS_y (N := nS) (by omega) hj h.c100, fls_2, lgc, oG_t, oB_s, oP_s, oT_r, oT_l, oC_r, oC_l, oN_s, oN_n]
        simp [xuR]
        exact xGood_cd h
    · simp [fC_7, fL_move, fX5_move, fX5_reason, fX6_move, fX6_thrown, knT_y h6 ht, knS_n h4 hb, ht, noT_y (N := nT) (by omega) ht h.c103, noS_n (N := nS) (by omega) hb h.c100, fls_1, lgc, xuR, oG_t, oB_s, oP_s, oT_r, oT_l, oC_r, oC_l, oN_s, oN_n]
      exact xGood_cd h
  · simp [fC_7, fL_move, fX5_move, fX6_move, fX6_thrown, knT_n h6 ha, noT_n (N := nT) (by omega) ha h.c103, fls_1, lgc, xuR, oG_t, oB_s, oP_s, oT_r, oT_l, oC_r, oC_l, oN_s, oN_n]
    exact xGood_cd h
