/-! cases of use, counts and settings -/
theorem ca_y {k nS nT : Nat} {d : Int32} {sc : xSC} {sr : xSR} (h : xInv k d nS nT sc sr) {j m : Nat} (hj : j < nS) (hm : m < 3) : fX6_cannotAsk (nI j) (nI m) sr = some (0, (xuR sr.1 122 0 0, sr.2)) := by
  have h4 := h.S4
  simp [fX6_cannotAsk, noS_y (N := nS) (by omega) hj h.c100, im_y hm, fls_0, xnb0, oG_t, oB_s, oP_s, oT_r, oT_l, oC_r, oC_l, oN_s, oN_n]
theorem ca_n {k nS nT : Nat} {d : Int32} {sc : xSC} {sr : xSR} (h : xInv k d nS nT sc sr) {a b : Int32} (ha : a < 0 ∨ nI nS ≤ a) : fX6_cannotAsk a b sr = some (1, (xuR sr.1 122 0 1, sr.2)) := by
  have h4 := h.S4
  simp [fX6_cannotAsk, noS_n (N := nS) (by omega) ha h.c100, fls_1, xnb1, oG_t, oB_s, oP_s, oT_r, oT_l, oC_r, oC_l, oN_s, oN_n]
theorem ca_m {k nS nT : Nat} {d : Int32} {sc : xSC} {sr : xSR} (h : xInv k d nS nT sc sr) {j : Nat} {b : Int32} (hj : j < nS) (hb : b < 0 ∨ nI 3 ≤ b) : fX6_cannotAsk (nI j) b sr = some (1, (xuR sr.1 122 0 1, sr.2)) := by
  have h4 := h.S4
  simp [fX6_cannotAsk, noS_y (N := nS) (by omega) hj h.c100, im_n hb, fls_1, xnb1, oG_t, oB_s, oP_s, oT_r, oT_l, oC_r, oC_l, oN_s, oN_n]
theorem kp_21 {k nS nT : Nat} {sc : xSC} {sr : xSR} {sl : xSL} (h : xInv k 0 nS nT sc sr) (a1 a2 : Int32) : xGood (k + 1) (fC_21 nS nT a1 a2 sc sr sl) := by
  have h4 := h.S4
  rcases xidx nS (by omega) a1 with ⟨j, hj, rfl⟩ | ha
  · rcases xidx 3 (by omega) a2 with ⟨m, hm, rfl⟩ | hb
    · simp [fC_21, fL_used, fX5_used, fX6_used, fX6_thrown, knS_y h4 hj, ca_y h hj hm, rm_y hm, of_e hm, hj, use_r (xInv_cd h) rfl hj hm, lgc, oG_t, oB_s, oP_s, oT_r, oT_l, oC_r, oC_l, oN_s, oN_n]
      simp [xuR]
      exact xGood_cd h
    · simp [fC_21, fL_used, fX5_used, fX6_used, fX6_thrown, knS_y h4 hj, ca_m h hj hb, rm_n hb, hj, lgc, xuR, oG_t, oB_s, oP_s, oT_r, oT_l, oC_r, oC_l, oN_s, oN_n]
      exact xGood_cd h
  · simp [fC_21, fL_used, fX5_used, fX6_used, fX6_thrown, knS_n h4 ha, ca_n h ha, lgc, xuR, oG_t, oB_s, oP_s, oT_r, oT_l, oC_r, oC_l, oN_s, oN_n]
    exact xGood_cd h
theorem ubl_e {k nS nT : Nat} {d : Int32} {sc : xSC} {sr : xSR} (h : xInv k d nS nT sc sr) {j m : Nat} (hj : j < nS) (hm : m < 3) : fX5_usedByLooking_L1 nS nT (nI j) (nI m) sc fX5_usedByLooking_K1 64 0 0 = some (.inr (sc.1 6 j m)) := by
  have h6 := h.T6
  obtain ⟨s', hs, e⟩ := xlpR (fun n i s => fX5_usedByLooking_L1 nS nT (nI j) (nI m) sc fX5_usedByLooking_K1 n s i) (fun s => some (.inr s)) (fun i s => s = xSum i (fun t => xUse sc t j m)) nT 6 h6
    (fun n i s hi hp => ⟨_, by
      subst hp
      show fX5_usedByLooking_L1 nS nT (nI j) (nI m) sc fX5_usedByLooking_K1 (n + 1) (xSum i (fun t => xUse sc t j m)) (nI i) = fX5_usedByLooking_L1 nS nT (nI j) (nI m) sc fX5_usedByLooking_K1 n (xSum (i + 1) (fun t => xUse sc t j m)) (nI (i + 1))
      rw [fX5_usedByLooking_L1]
      simp only [ge6 (show i < 6 by omega), xin6 (show i < 6 by omega), xel_n hi (by omega), useOn_e rfl hm, nI_1, xSum, if_false, oG_t, oB_s, oP_s, oT_r, oT_l, oC_r, oC_l, oN_s, oN_n], rfl⟩)
    (fun n i s h1 h2 => by
      show fX5_usedByLooking_L1 nS nT (nI j) (nI m) sc fX5_usedByLooking_K1 (n + 1) s (nI i) = fX5_usedByLooking_L1 nS nT (nI j) (nI m) sc fX5_usedByLooking_K1 n s (nI (i + 1))
      rw [fX5_usedByLooking_L1]
      simp only [ge6 h2, xin6 h2, xel_o (show ¬ i < nT by omega) (by omega), nI_1, if_false, oG_t, oB_s, oP_s, oT_r, oT_l, oC_r, oC_l, oN_s, oN_n])
    (fun n s hp => by
      show fX5_usedByLooking_L1 nS nT (nI j) (nI m) sc fX5_usedByLooking_K1 (n + 1) s (nI 6) = some (.inr s)
      rw [fX5_usedByLooking_L1]
      simp only [le6, if_true, fX5_usedByLooking_K1])
    64 (by omega) 0 rfl
  have e : fX5_usedByLooking_L1 nS nT (nI j) (nI m) sc fX5_usedByLooking_K1 64 0 (nI 0) = some (.inr s') := e
  rw [nI_0] at e
  rw [e, hs, h.use j m hj hm]
theorem kp_22 {k nS nT : Nat} {sc : xSC} {sr : xSR} {sl : xSL} (h : xInv k 0 nS nT sc sr) (a1 a2 : Int32) : xGood (k + 1) (fC_22 nS nT a1 a2 sc sr sl) := by
  have h4 := h.S4
  rcases xidx nS (by omega) a1 with ⟨j, hj, rfl⟩ | ha
  · rcases xidx 3 (by omega) a2 with ⟨m, hm, rfl⟩ | hb
    · simp [fC_22, fL_usedByLooking, fX5_usedByLooking, fX6_usedByLooking, fX6_thrown, knS_y h4 hj, ca_y h hj hm, rm_y hm, ubl_e h hj hm, hj, use_r (xInv_cd h) rfl hj hm, lgc, oG_t, oB_s, oP_s, oT_r, oT_l, oC_r, oC_l, oN_s, oN_n]
      simp [xuR]
      exact xGood_cd h
    · simp [fC_22, fL_usedByLooking, fX5_usedByLooking, fX6_usedByLooking, fX6_thrown, knS_y h4 hj, ca_m h hj hb, rm_n hb, hj, lgc, xuR, oG_t, oB_s, oP_s, oT_r, oT_l, oC_r, oC_l, oN_s, oN_n]
      exact xGood_cd h
  · simp [fC_22, fL_usedByLooking, fX5_usedByLooking, fX6_usedByLooking, fX6_thrown, knS_n h4 ha, ca_n h ha, lgc, xuR, oG_t, oB_s, oP_s, oT_r, oT_l, oC_r, oC_l, oN_s, oN_n]
    exact xGood_cd h
theorem kp_23 {k nS nT : Nat} {sc : xSC} {sr : xSR} {sl : xSL} (h : xInv k 0 nS nT sc sr) (a1 : Int32) : xGood (k + 1) (fC_23 nS nT a1 sc sr sl) := by
  have h4 := h.S4
  rcases xidx nS (by omega) a1 with ⟨j, hj, rfl⟩ | ha
  · have e := much_r (xInv_cd (c := 0) h) hj
    rcases much_b (nS := nS) (nT := nT) (j := j) (sc := sc) with g | g
    · rw [g] at e
      simp [fC_23, fL_isOver, fX5_isOver, fX6_isOver, fX6_thrown, knS_y h4 hj, noS_y (N := nS) (by omega) hj h.c100, fls_0, hj, e, g, xnb0, lgc, oG_t, oB_s, oP_s, oT_r, oT_l, oC_r, oC_l, oN_s, oN_n]
      simp [xuR]
      exact xGood_cd h
    · rw [g] at e
      simp [fC_23, fL_isOver, fX5_isOver, fX6_isOver, fX6_thrown, knS_y h4 hj, noS_y (N := nS) (by omega) hj h.c100, fls_0, hj, e, g, xnb1, lgc, oG_t, oB_s, oP_s, oT_r, oT_l, oC_r, oC_l, oN_s, oN_n]
      simp [xuR]
      exact xGood_cd h
  · simp [fC_23, fL_isOver, fX5_isOver, fX6_isOver, fX6_thrown, knS_n h4 ha, noS_n (N := nS) (by omega) ha h.c100, fls_1, lgc, xuR, oG_t, oB_s, oP_s, oT_r, oT_l, oC_r, oC_l, oN_s, oN_n]
    exact xGood_cd h
theorem moves_e {k nS nT : Nat} {d : Int32} {sc : xSC} {sr : xSR} (h : xInv k d nS nT sc sr) : ∃ v, fX5_moves nS nT sc = some v ∧ fX6_underWay sr = some v ∧ v = nI (xCnt sc nT) := by
  have h6 := h.T6
  obtain ⟨s', u', ⟨hs, hv⟩, e1, e2⟩ := xlp2 (fun n i s => fX5_moves_L1 nS nT sc fX5_moves_K1 n s i) (fun s => some s) (fun n i s => fX6_underWay_L1 sr fX6_underWay_K1 n s i) (fun s => some s) (fun i s u => s = u ∧ s = nI (xCnt sc i)) nT 6 h6
    (fun i s u hi hp => by
      obtain ⟨rfl, rfl⟩ := hp
      obtain ⟨n, hn⟩ : ∃ n, n = xCnt sc i := ⟨_, rfl⟩
      rw [← hn]
      by_cases g : sc.1 9 i 0 = 45
      · have q : sr.1 9 i = 0 := by
          rcases h.mov i hi with ⟨p, q⟩ | ⟨_, _, _, -, -, -, -, -, -, -, ⟨p, q, -⟩ | ⟨p, q, -⟩ | ⟨p, q, -⟩⟩
          · exact q
          all_goals exact absurd (p.symm.trans g) (by decide)
        refine ⟨nI n, nI n, fun f => ?_, fun f => ?_, rfl, by simp [xCnt, g, ← hn]⟩
        · show fX5_moves_L1 nS nT sc fX5_moves_K1 (f + 1) (nI n) (nI i) = fX5_moves_L1 nS nT sc fX5_moves_K1 f (nI n) (nI (i + 1))
          rw [fX5_moves_L1]
          simp only [ge6 (show i < 6 by omega), xin6 (show i < 6 by omega), xel_n hi (by omega), und_e, g, nI_1, if_false, if_true, oG_t, oB_s, oP_s, oT_r, oT_l, oC_r, oC_l, oN_s, oN_n]
        · show fX6_underWay_L1 sr fX6_underWay_K1 (f + 1) (nI n) (nI i) = fX6_underWay_L1 sr fX6_underWay_K1 f (nI n) (nI (i + 1))
          rw [fX6_underWay_L1]
          simp only [h.c103, geN hi (by omega), xin6 (show i < 6 by omega), nN (show i < 100 by omega), q, nI_1, if_false, if_true, Int32.add_zero, oG_t, oB_s, oP_s, oT_r, oT_l, oC_r, oC_l, oN_s, oN_n]
      · have q : ¬ sr.1 9 i = 0 := by
          rcases h.mov i hi with ⟨p, q⟩ | ⟨_, _, _, -, -, -, -, -, -, -, ⟨p, q, -⟩ | ⟨p, q, -⟩ | ⟨p, q, -⟩⟩
          · exact absurd p g
          all_goals rw [q]; decide
        refine ⟨nI (n + 1), nI (n + 1), fun f => ?_, fun f => ?_, rfl, by simp [xCnt, g, ← hn]⟩
        · show fX5_moves_L1 nS nT sc fX5_moves_K1 (f + 1) (nI n) (nI i) = fX5_moves_L1 nS nT sc fX5_moves_K1 f (nI (n + 1)) (nI (i + 1))
          rw [fX5_moves_L1]
          simp only [ge6 (show i < 6 by omega), xin6 (show i < 6 by omega), xel_n hi (by omega), und_e, g, nI_1, if_false, if_true, show ((1 : Int32) = 0) = False from eq_false (by decide), oG_t, oB_s, oP_s, oT_r, oT_l, oC_r, oC_l, oN_s, oN_n]
        · show fX6_underWay_L1 sr fX6_underWay_K1 (f + 1) (nI n) (nI i) = fX6_underWay_L1 sr fX6_underWay_K1 f (nI (n + 1)) (nI (i + 1))
          rw [fX6_underWay_L1]
          simp only [h.c103, geN hi (by omega), xin6 (show i < 6 by omega), nN (show i < 100 by omega), q, nI_1, if_false, if_true, oG_t, oB_s, oP_s, oT_r, oT_l, oC_r, oC_l, oN_s, oN_n])
    (fun f i s h1 h2 => by
      show fX5_moves_L1 nS nT sc fX5_moves_K1 (f + 1) s (nI i) = fX5_moves_L1 nS nT sc fX5_moves_K1 f s (nI (i + 1))
      rw [fX5_moves_L1]
      simp only [ge6 h2, xin6 h2, xel_o (show ¬ i < nT by omega) (by omega), nI_1, if_false, oG_t, oB_s, oP_s, oT_r, oT_l, oC_r, oC_l, oN_s, oN_n])
    (fun f s u hp => by
      show fX5_moves_L1 nS nT sc fX5_moves_K1 (f + 1) s (nI 6) = some s
      rw [fX5_moves_L1]
      simp only [le6, if_true, fX5_moves_K1])
    (fun f s u hp => by
      show fX6_underWay_L1 sr fX6_underWay_K1 (f + 1) u (nI nT) = some u
      rw [fX6_underWay_L1]
      simp only [h.c103, leN, if_true, fX6_underWay_K1])
    64 64 (by omega) (by omega) 0 0 ⟨rfl, rfl⟩
  refine ⟨s', ?_, ?_, hv⟩
  · have e1 : fX5_moves_L1 nS nT sc fX5_moves_K1 64 0 (nI 0) = some s' := e1
    rw [nI_0] at e1
    rw [fX5_moves, e1]
  · have e2 : fX6_underWay_L1 sr fX6_underWay_K1 64 0 (nI 0) = some u' := e2
    rw [nI_0] at e2
    rw [fX6_underWay, e2, hs]
theorem kp_16 {k nS nT : Nat} {sc : xSC} {sr : xSR} {sl : xSL} (h : xInv k 0 nS nT sc sr) : xGood (k + 1) (fC_16 nS nT sc sr sl) := by
  obtain ⟨v, e1, e2, -⟩ := moves_e h
  simp [fC_16, fX6_moves, fX6_tells, e1, e2, oG_t, oB_s, oP_s, oT_r, oT_l, oC_r, oC_l, oN_s, oN_n]
  exact xGood_cd h
theorem served_e {k nS nT : Nat} {d : Int32} {sc : xSC} {sr : xSR} (h : xInv k d nS nT sc sr) {j : Nat} (sr' : xSR) (g8 : ∀ t, sr'.1 8 t = sr.1 8 t) (g103 : sr'.1 103 0 = sr.1 103 0) : ∃ v, fX5_served_L1 nT (nI j) sc fX5_served_K1 64 0 0 = some (.inr v) ∧ fX6_served_L1 (nI j) fX6_served_K1 64 0 0 sr' = some (v, sr') := by
  have h6 := h.T6
  obtain ⟨s', u', hs, e1, e2⟩ := xlp2 (fun n i s => fX5_served_L1 nT (nI j) sc fX5_served_K1 n s i) (fun s => some (.inr s)) (fun n i s => fX6_served_L1 (nI j) fX6_served_K1 n s i sr') (fun s => some (s, sr')) (fun i s u => s = u) nT 6 h6
    (fun i s u hi hp => by
      subst hp
      obtain ⟨w, -, q1, q2⟩ := h.srv i hi
      refine ⟨if sc.1 11 i 3 = nI j then s + 1 else s, if sc.1 11 i 3 = nI j then s + 1 else s, fun f => ?_, fun f => ?_, rfl⟩
      · show fX5_served_L1 nT (nI j) sc fX5_served_K1 (f + 1) s (nI i) = fX5_served_L1 nT (nI j) sc fX5_served_K1 f (if sc.1 11 i 3 = nI j then s + 1 else s) (nI (i + 1))
        rw [fX5_served_L1]
        simp only [ge6 (show i < 6 by omega), xin6 (show i < 6 by omega), xel_n hi (by omega), nI_1, if_false, oG_t, oB_s, oP_s, oT_r, oT_l, oC_r, oC_l, oN_s, oN_n]
        by_cases g : sc.1 11 i 3 = nI j
        · rw [if_pos g, if_pos g]
        · rw [if_neg g, if_neg g]
      · show fX6_served_L1 (nI j) fX6_served_K1 (f + 1) s (nI i) sr' = fX6_served_L1 (nI j) fX6_served_K1 f (if sc.1 11 i 3 = nI j then s + 1 else s) (nI (i + 1)) sr'
        rw [fX6_served_L1]
        simp only [g103, g8, h.c103, geN hi (by omega), xin6 (show i < 6 by omega), nN (show i < 100 by omega), nI_1, if_false, Int32.add_zero, q1, q2, oG_t, oB_s, oP_s, oT_r, oT_l, oC_r, oC_l, oN_s, oN_n]
        by_cases g : nI w = nI j
        · rw [if_pos g, if_pos g]
        · rw [if_neg g, if_neg g])
    (fun f i s h1 h2 => by
      show fX5_served_L1 nT (nI j) sc fX5_served_K1 (f + 1) s (nI i) = fX5_served_L1 nT (nI j) sc fX5_served_K1 f s (nI (i + 1))
      rw [fX5_served_L1]
      simp only [ge6 h2, xin6 h2, xel_o (show ¬ i < nT by omega) (by omega), nI_1, if_false, oG_t, oB_s, oP_s, oT_r, oT_l, oC_r, oC_l, oN_s, oN_n])
    (fun f s u hp => by
      show fX5_served_L1 nT (nI j) sc fX5_served_K1 (f + 1) s (nI 6) = some (.inr s)
      rw [fX5_served_L1]
      simp only [le6, if_true, fX5_served_K1])
    (fun f s u hp => by
      show fX6_served_L1 (nI j) fX6_served_K1 (f + 1) u (nI nT) sr' = some (u, sr')
      rw [fX6_served_L1]
      simp only [g103, h.c103, leN, if_true, fX6_served_K1])
    64 64 (by omega) (by omega) 0 0 rfl
  subst hs
  refine ⟨s', ?_, ?_⟩
  · have e1 : fX5_served_L1 nT (nI j) sc fX5_served_K1 64 0 (nI 0) = some (.inr s') := e1
    rw [nI_0] at e1
    exact e1
  · have e2 : fX6_served_L1 (nI j) fX6_served_K1 64 0 (nI 0) sr' = some (s', sr') := e2
    rw [nI_0] at e2
    exact e2
theorem kp_24 {k nS nT : Nat} {sc : xSC} {sr : xSR} {sl : xSL} (h : xInv k 0 nS nT sc sr) (a1 : Int32) : xGood (k + 1) (fC_24 nS nT a1 sc sr sl) := by
  have h4 := h.S4
  rcases xidx nS (by omega) a1 with ⟨j, hj, rfl⟩ | ha
  · obtain ⟨v, e1, e2⟩ := served_e h (j := j) (xuR sr.1 122 0 0, sr.2) (fun t => by simp [xuR]) (by simp [xuR])
    simp [fC_24, fL_served, fX5_served, fX6_served, fX6_thrown, knS_y h4 hj, noS_y (N := nS) (by omega) hj h.c100, fls_0, hj, e1, e2, lgc, oG_t, oB_s, oP_s, oT_r, oT_l, oC_r, oC_l, oN_s, oN_n]
    simp [xuR]
    exact xGood_cd h
  · simp [fC_24, fL_served, fX5_served, fX6_served, fX6_thrown, knS_n h4 ha, noS_n (N := nS) (by omega) ha h.c100, fls_1, lgc, xuR, oG_t, oB_s, oP_s, oT_r, oT_l, oC_r, oC_l, oN_s, oN_n]
    exact xGood_cd h
