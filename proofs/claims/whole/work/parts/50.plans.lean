/-! plans -/
theorem xInv_so {k nS nT : Nat} {d : Int32} {sc : xSC} {sr : xSR} (h : xInv k d nS nT sc sr) {F : Nat × Nat × Nat} {x c : Int32} {s : xSC} {s' : xSR} (h1 : xFrm sc s) (h2 : xSo nS nT sr F x s') : xInv k d nS nT s (xuR s'.1 122 0 c, s'.2) :=
  xInv_fr h h1.1 (fun a b ha => by
    show xuR s'.1 122 0 c a b = sr.1 a b
    rw [← h2.2.1 a b ha]
    simp only [xuR]
    rw [if_neg (fun q => ha (by simp [xScrR, q.1]))]) h1.2 h2.2.2.1
/-- both searches end alike -/
theorem both_e {k nS nT : Nat} {d : Int32} {sc : xSC} {sr : xSR} (h : xInv k d nS nT sc sr) : ∃ x s', fX6_sound sr = some (x, s') ∧ ((∃ s, fX2_findBest nS nT sc = some (7, s) ∧ xFrm sc s ∧ x = 0 ∧ ∃ F y, xSo nS nT sr F y s') ∨
    ∃ A s, A ≤ 6 ∧ fX2_findBest nS nT sc = some (nI A, s) ∧ xFrm sc s ∧ x ≠ 0 ∧ (∃ F y, xSo nS nT sr F y s') ∧ s'.1 121 0 = nI A ∧ ∀ t, t < nT → s'.1 20 t = s.1 11 t 7) := by
  obtain ⟨z, l, w, v, np, P, R⟩ := xPR h
  obtain ⟨x, s', e1, So⟩ := sound_e P R
  refine ⟨x, s', e1, ?_⟩
  have h4 := P.1
  have h6 := P.2.1
  have m6 : ∀ k, xMB nS nT v k ≤ 6 := fun k => Nat.le_trans xMvp_le h6
  have W := pow_b h4 h6
  have So' := So
  obtain ⟨c1, c2, c3, c4, c5⟩ := So
  have rel := xFd_r (snd := xSB nS nT z l w sc) (mv := xMB nS nT v) (n := nS ^ nT) m6
  have n7 := xFd_n (snd := xSB nS nT z l w sc) (mv := xMB nS nT v) (lo := 0) (n := nS ^ nT) (s := (0, 7, 0))
  rcases best_e P (xSB nS nT z l w sc) (xMB nS nT v) xHL xHP xHM with ⟨A, k, s, a1, a2, a3, a4, a5, a6⟩ | ⟨a1, s, a2, a3⟩
  · obtain ⟨f1, f2, f3, f4, f5⟩ := xFst_s a3
    rcases rel with ⟨r1, r2, r3⟩ | ⟨m, b, kb, r1, r2, r3, r4, r5, r6, r7⟩
    · rw [r3 k (by omega)] at f3
      exact absurd f3 (by simp)
    · rw [r1] at c1 c4 c5 n7
      have bA : b = A := by
        have q1 := r6 k (by omega) f3
        rcases Nat.lt_or_ge b A with g | g
        · have := xFst_z (a2 b g) kb r3
          rw [Nat.zero_add] at this
          exact absurd ⟨r4, by omega⟩ this
        · omega
      subst bA
      have kk : kb = k := by
        rcases Nat.lt_trichotomy kb k with g | g | g
        · exact absurd ⟨r4, by omega⟩ (f5 kb (by omega) g)
        · exact g
        · have := r7 k g f3
          omega
      subst kk
      refine .inr ⟨b, s, a1, a4, a5, ?_, ⟨_, _, So'⟩, ?_, fun t ht => ?_⟩
      · rw [c1]
        have n7 : m + 1 ≤ 0 + nS ^ nT := n7
        exact nI_ne0 (by omega) (show m + 1 < 2 ^ 31 by omega)
      · rw [c4]
        show xBv b = nI b
        rw [xBv, if_neg (by omega)]
      · rw [c5 (show b ≠ 7 by omega) t ht, a6 t ht]
  · refine .inl ⟨s, a2, a3, ?_, _, _, So'⟩
    rcases rel with ⟨r1, r2, r3⟩ | ⟨m, b, kb, r1, r2, r3, r4, r5, r6, r7⟩
    · rw [c1, r1, nI_0]
    · have := xFst_z (a1 6 (by omega)) kb r3
      rw [Nat.zero_add] at this
      exact absurd ⟨r4, by omega⟩ this
theorem n70 : ∀ A, A ≤ 6 → ¬ nI A = 7 := fun A hA => by
  rw [show (7 : Int32) = nI 7 by decide, nI_eq (by omega) (by omega)]; omega
theorem kp_25 {k nS nT : Nat} {sc : xSC} {sr : xSR} {sl : xSL} (h : xInv k 0 nS nT sc sr) : xGood (k + 1) (fC_25 nS nT sc sr sl) := by
  obtain ⟨x, s', e1, e2⟩ := both_e h
  rcases e2 with ⟨s, a1, a2, a3, F, y, So⟩ | ⟨A, s, a0, a1, a2, a3, ⟨F, y, So⟩, a4, a5⟩
  · have q : fC_25 nS nT sc sr sl = some (nS, nT, s, (xuR s'.1 122 0 1, s'.2), sl) := by
      unfold fC_25 fL_fewestMoves fX5_fewestMoves fX6_fewestMoves fX6_fewest
      refine oB_e (a := (1, s, sl)) ?_ ?_
      · rw [a1, oP_s]
        simp only [fX5_requirePlan, if_true, oG_t, oB_s, oP_s, oT_r, oT_l, oC_r, oC_l, oN_s, oN_n]
      · simp only [e1, a3, fls_1, fX6_thrown, xsm, n10, if_true, if_false, oG_t, oB_s, oP_s, oT_r, oT_l, oC_r, oC_l, oN_s, oN_n]
    rw [q]
    exact xGood_i (xInv_so h a2 So)
  · have q : fC_25 nS nT sc sr sl = some (nS, nT, s, (xuR s'.1 122 0 0, s'.2), ((nI A).toInt64, sl.2)) := by
      unfold fC_25 fL_fewestMoves fX5_fewestMoves fX6_fewestMoves fX6_fewest
      refine oB_e (a := (0, s, ((nI A).toInt64, sl.2))) ?_ ?_
      · rw [a1, oP_s]
        simp only [fX5_requirePlan, if_neg (n70 A a0), oG_t, oB_s, oP_s, oT_r, oT_l, oC_r, oC_l, oN_s, oN_n]
      · have g : xuR s'.1 122 0 0 121 0 = nI A := by rw [← a4]; simp [xuR]
        simp only [e1, if_neg a3, fls_0, fX6_thrown, xsm, g, lgc, if_true, oG_t, oB_s, oP_s, oT_r, oT_l, oC_r, oC_l, oN_s, oN_n]
    rw [q]
    exact xGood_i (xInv_so h a2 So)
theorem kp_27 {k nS nT : Nat} {sc : xSC} {sr : xSR} {sl : xSL} (h : xInv k 0 nS nT sc sr) (a1 : Int32) : xGood (k + 1) (fC_27 nS nT a1 sc sr sl) := by
  rcases xidx nT (by have := h.T6; omega) a1 with ⟨t, ht, rfl⟩ | hn
  · have t6 := h.T6
    obtain ⟨x, s', e1, e2⟩ := both_e h
    rcases e2 with ⟨s, a1, a2, a3, F, y, So⟩ | ⟨A, s, a0, a1, a2, a3, ⟨F, y, So⟩, a4, a5⟩
    · have q : fC_27 nS nT (nI t) sc sr sl = some (nS, nT, s, (xuR s'.1 122 0 2, s'.2), sl) := by
        unfold fC_27 fL_planned fX5_planned fX6_planned
        refine oB_e (a := (2, s, sl)) ?_ ?_
        · rw [knT_y h.T6 ht, oT_r, oG_e (by simpa using ht) rfl, a1, oP_s]
          simp only [fX5_requirePlan, if_true, oG_t, oB_s, oP_s, oT_r, oT_l, oC_r, oC_l, oN_s, oN_n]
          rw [if_neg (by decide)]
        · simp only [noT_y (by omega) ht h.c103, e1, a3, fls_2, fX6_thrown, xsm, n10, if_true, if_false, oG_t, oB_s, oP_s, oT_r, oT_l, oC_r, oC_l, oN_s, oN_n]
          rw [if_neg (by decide)]
      rw [q]
      exact xGood_i (xInv_so h a2 So)
    · have q : fC_27 nS nT (nI t) sc sr sl = some (nS, nT, s, (xuR s'.1 122 0 0, s'.2), ((s.1 11 t 7).toInt64, sl.2)) := by
        unfold fC_27 fL_planned fX5_planned fX6_planned
        refine oB_e (a := (0, s, ((s.1 11 t 7).toInt64, sl.2))) ?_ ?_
        · rw [knT_y h.T6 ht, oT_r, oG_e (by simpa using ht) rfl, a1, oP_s]
          simp only [fX5_requirePlan, if_neg (n70 A a0), oG_t, oB_s, oP_s, oT_r, oT_l, oC_r, oC_l, oN_s, oN_n]
        · have g : xuR s'.1 122 0 0 20 t = s.1 11 t 7 := by rw [← a5 t ht]; simp [xuR]
          simp only [noT_y (by omega) ht h.c103, e1, if_neg a3, fls_0, fX6_thrown, xsm, xin6' (show t < 6 by omega), nI_N (show t < 1000000 by omega), g, lgc, if_true, oG_t, oB_s, oP_s, oT_r, oT_l, oC_r, oC_l, oN_s, oN_n]
      rw [q]
      exact xGood_i (xInv_so h a2 So)
  · have t6 := h.T6
    have q : fC_27 nS nT a1 sc sr sl = some (nS, nT, sc, (xuR sr.1 122 0 1, sr.2), sl) := by
      unfold fC_27 fL_planned fX5_planned fX6_planned
      refine oB_e (a := (1, sc, sl)) ?_ ?_
      · rw [knT_n h.T6 hn]
        simp only [if_true, oG_t, oB_s, oP_s, oT_r, oT_l, oC_r, oC_l, oN_s, oN_n]
      · simp only [noT_n (by omega) hn h.c103, fls_1, fX6_thrown, xsm, n10, if_true, if_false, oG_t, oB_s, oP_s, oT_r, oT_l, oC_r, oC_l, oN_s, oN_n]
    rw [q]
    exact xGood_cd h
/-- all plans tried, on both sides -/
theorem tries_e {k nS nT : Nat} {d : Int32} {sc : xSC} {sr : xSR} (h : xInv k d nS nT sc sr) : ∃ x s' s, fX6_sound sr = some (x, s') ∧ fX2_tryAll nS nT sc = some ((), s) ∧ xFrm sc s ∧ (∃ F y, xSo nS nT sr F y s') ∧ s.1 3 0 0 = x ∧ ((x = 0 ∧ s.1 3 0 1 = 7) ∨ ∃ A, A ≤ 6 ∧ x ≠ 0 ∧ s.1 3 0 1 = nI A ∧ s'.1 121 0 = nI A) := by
  obtain ⟨z, l, w, v, np, P, R⟩ := xPR h
  obtain ⟨x, s', e1, So⟩ := sound_e P R
  have h4 := P.1
  have h6 := P.2.1
  have m6 : ∀ k, xMB nS nT v k ≤ 6 := fun k => Nat.le_trans xMvp_le h6
  have W := pow_b h4 h6
  have So' := So
  obtain ⟨c1, c2, c3, c4, c5⟩ := So
  have rel := xFd_r (snd := xSB nS nT z l w sc) (mv := xMB nS nT v) (n := nS ^ nT) m6
  have n7 := xFd_n (snd := xSB nS nT z l w sc) (mv := xMB nS nT v) (lo := 0) (n := nS ^ nT) (s := (0, 7, 0))
  obtain ⟨s, b1, b2, b3, b4⟩ := tryall_e P (xSB nS nT z l w sc) (xMB nS nT v) xHL xHP
  refine ⟨x, s', s, e1, b1, b2, ⟨_, _, So'⟩, by rw [b3, c1], ?_⟩
  rcases rel with ⟨r1, r2, r3⟩ | ⟨m, b, kb, r1, r2, r3, r4, r5, r6, r7⟩
  · refine .inl ⟨by rw [c1, r1, nI_0], ?_⟩
    rw [b4, r2]
    decide
  · rw [r1] at c1 c4 b4 n7
    refine .inr ⟨b, r2, ?_, b4, ?_⟩
    · rw [c1]
      have n7 : m + 1 ≤ 0 + nS ^ nT := n7
      exact nI_ne0 (by omega) (show m + 1 < 2 ^ 31 by omega)
    · rw [c4]
      show xBv b = nI b
      rw [xBv, if_neg (by omega)]
theorem kp_26 {k nS nT : Nat} {sc : xSC} {sr : xSR} {sl : xSL} (h : xInv k 0 nS nT sc sr) : xGood (k + 1) (fC_26 nS nT sc sr sl) := by
  obtain ⟨x, s', s, e1, a1, a2, ⟨F, y, So⟩, a3, e2⟩ := tries_e h
  rcases e2 with ⟨b1, b2⟩ | ⟨A, a0, b1, b2, b3⟩
  · have q : fC_26 nS nT sc sr sl = some (nS, nT, s, (xuR s'.1 122 0 1, s'.2), sl) := by
      unfold fC_26 fL_fewestByTrying fX5_fewestByTrying fX6_fewestByTrying fX6_fewest
      refine oB_e (a := (1, s, sl)) ?_ ?_
      · rw [a1, oP_s]
        simp only [fX5_requirePlan, b2, if_true, oG_t, oB_s, oP_s, oT_r, oT_l, oC_r, oC_l, oN_s, oN_n]
      · simp only [e1, b1, fls_1, fX6_thrown, xsm, n10, if_true, if_false, oG_t, oB_s, oP_s, oT_r, oT_l, oC_r, oC_l, oN_s, oN_n]
    rw [q]
    exact xGood_i (xInv_so h a2 So)
  · have q : fC_26 nS nT sc sr sl = some (nS, nT, s, (xuR s'.1 122 0 0, s'.2), ((nI A).toInt64, sl.2)) := by
      unfold fC_26 fL_fewestByTrying fX5_fewestByTrying fX6_fewestByTrying fX6_fewest
      refine oB_e (a := (0, s, ((nI A).toInt64, sl.2))) ?_ ?_
      · rw [a1, oP_s]
        simp only [fX5_requirePlan, b2, if_neg (n70 A a0), oG_t, oB_s, oP_s, oT_r, oT_l, oC_r, oC_l, oN_s, oN_n]
      · have g : xuR s'.1 122 0 0 121 0 = nI A := by rw [← b3]; simp [xuR]
        simp only [e1, if_neg b1, fls_0, fX6_thrown, xsm, g, lgc, if_true, oG_t, oB_s, oP_s, oT_r, oT_l, oC_r, oC_l, oN_s, oN_n]
    rw [q]
    exact xGood_i (xInv_so h a2 So)
theorem kp_28 {k nS nT : Nat} {sc : xSC} {sr : xSR} {sl : xSL} (h : xInv k 0 nS nT sc sr) : xGood (k + 1) (fC_28 nS nT sc sr sl) := by
  obtain ⟨x, s', s, e1, a1, a2, ⟨F, y, So⟩, a3, e2⟩ := tries_e h
  have q : fC_28 nS nT sc sr sl = some (nS, nT, s, (xuR s'.1 122 0 0, s'.2), sl) := by
    unfold fC_28 fX5_soundPlans fX6_soundPlans fX6_tells
    simp only [a1, e1, a3, if_true, oG_t, oB_s, oP_s, oT_r, oT_l, oC_r, oC_l, oN_s, oN_n]
  rw [q]
  exact xGood_i (xInv_so h a2 So)
