/-! failed steps -/
theorem inv_cl {k nS nT : Nat} {d : Int32} {sc : xSC} {sr : xSR} (h : xInv k d nS nT sc sr) {t : Nat} (ht : t < nT) (e : sc.1 9 t 0 = 100) : xInv k d nS nT (xuC sc.1 9 t 3 2, sc.2) (xuR sr.1 12 t 2, sr.2) := by
  refine ⟨h.S4, h.T6, by simpa [xuR] using h.c100, by simpa [xuR] using h.c103, by simpa [xuC, xuR] using h.lim, by simpa [xuC, xuR] using h.opn, by simpa [xuR] using h.opz, by simpa [xuC, xuR] using h.siz, by simpa [xuC, xuR] using h.gro, by simpa [xuC, xuR] using h.win, by simpa [xuC, xuR] using h.srv, ?_, by simpa [xuR] using h.fre, by simpa [xuC, xUse] using h.use, Nat.le_trans (xCnt_le (fun u _ e => by simpa [xuC] using e)) h.cnt, by simpa [xuC, xuR] using h.par, by simpa [xuC, xuR] using h.tim, by simpa [xuC, xuR] using h.swi, h.ovr⟩
  intro u hu
  by_cases e' : u = t
  · subst e'
    rcases h.mov u hu with ⟨p, q⟩ | ⟨i, j, n, i1, j1, a, b, l, c, d, ⟨p, q, -⟩ | ⟨p, q, -⟩ | ⟨p, q, -⟩⟩
    · exact absurd (p.symm.trans e) (by decide)
    · exact absurd (p.symm.trans e) (by decide)
    · exact absurd (p.symm.trans e) (by decide)
    · exact .inr ⟨i, j, 2, i1, j1, by simpa [xuC] using a, by simpa [xuC] using b, by simp [xuC]; rfl, by simpa [xuR] using c, by simpa [xuR] using d, .inr (.inr ⟨by simpa [xuC] using p, by simpa [xuR] using q, by omega, by omega, by simp [xuR]; rfl⟩)⟩
  · simpa [xuC, xuR, e'] using h.mov u hu
theorem inv_sw {k nS nT : Nat} {d : Int32} {sc : xSC} {sr : xSR} (h : xInv k d nS nT sc sr) {x : Int32} : xInv k d nS nT (xuC sc.1 0 0 6 (sc.1 0 0 6 + x), sc.2) (xuR sr.1 117 0 (sr.1 117 0 + x), sr.2) := by
  refine ⟨h.S4, h.T6, by simpa [xuR] using h.c100, by simpa [xuR] using h.c103, by simpa [xuC, xuR] using h.lim, by simpa [xuC, xuR] using h.opn, by simpa [xuR] using h.opz, by simpa [xuC, xuR] using h.siz, by simpa [xuC, xuR] using h.gro, by simpa [xuC, xuR] using h.win, by simpa [xuC, xuR] using h.srv, by simpa [xuC, xuR] using h.mov, by simpa [xuR] using h.fre, by simpa [xuC, xUse] using h.use, Nat.le_trans (xCnt_le (fun u _ e => by simpa [xuC] using e)) h.cnt, by simpa [xuC, xuR] using h.par, by simpa [xuC, xuR] using h.tim, ?_, h.ovr⟩
  have e := h.swi
  simp [xuC, xuR, e]
  rw [Int32.add_assoc, Int32.add_comm d x, ← Int32.add_assoc]
theorem inv_swc {k nS nT : Nat} {d x : Int32} {f : xSC} {g : Nat → Nat → Int32} {p : Int64} (h : xInv k d nS nT f (g, p)) : xInv k d nS nT (xuC f.1 0 0 6 (f.1 0 0 6 + x), f.2) (xuR g 117 0 (g 117 0 + x), p) := inv_sw h
theorem bar_cg {nS nT t : Nat} {a : Int32} {sc sc' : xSC} (h1 : ∀ o, sc'.1 11 o 6 = sc.1 11 o 6) (h2 : ∀ o, sc'.1 11 o 3 = sc.1 11 o 3) (h3 : ∀ o, sc'.1 9 o 0 = sc.1 9 o 0) (h4 : ∀ o, sc'.1 9 o 2 = sc.1 9 o 2) : fX5_isBarred nS nT a t sc' = fX5_isBarred nS nT a t sc := by
  have A : ∀ n x, fX5_isBarred_L1 nS nT a t sc' fX5_isBarred_K1 n x = fX5_isBarred_L1 nS nT a t sc fX5_isBarred_K1 n x := by
    intro n
    induction n with
    | zero => intro x; rfl
    | succ n ih =>
      intro x
      rw [fX5_isBarred_L1, fX5_isBarred_L1]
      simp only [ih, fX4_isApartFrom, pres_e, h1, h2, h3, h4]
  rw [fX5_isBarred, fX5_isBarred, A]
theorem kp_9 {k nS nT : Nat} {sc : xSC} {sr : xSR} {sl : xSL} (h : xInv k 0 nS nT sc sr) (a1 : Int32) : xGood (k + 1) (fC_9 nS nT a1 sc sr sl) := by
  have h6 := h.T6
  have h4 := h.S4
  rcases xidx nT (by omega) a1 with ⟨t, ht, rfl⟩ | ha
  · have g1 := xin6 (show t < 6 by omega)
    have g2 := nN (show t < 100 by omega)
    have g3 := noT_y (N := nT) (by omega) ht h.c103
    have g4 := knT_y (nS := nS) (sc := sc) h6 ht
    have hend : ∀ (p : sc.1 9 t 0 ≠ 45), xInv k 0 nS nT (xCUi nS t 1 (xuC (xCUi nS t (-1) sc).1 9 t 0 45, (xCUi nS t (-1) sc).2)) (xuR (xuR sr.1 122 0 0) 9 t 0, sr.2) := fun p => by
      refine inv_ci (xInv_cd (c := 0) h) ht (fun k j i hn => ?_) rfl (fun a b hn => ?_) rfl (fun m' hm' => ?_) ?_ ?_ ?_
      · simp only [xuC]
        rw [if_neg (by omega)]
      · simp only [xuR]
        rw [if_neg (by omega)]
      · obtain ⟨n', n1, n2, n3, n4⟩ := h.siz t m' ht hm'
        exact ⟨n', n1, n2, by simp [xuC, xCU_o, n3], by simp [xuR, n4]⟩
      · obtain ⟨j, q1, q2, q3⟩ := h.srv t ht
        exact ⟨j, q1, by simp [xuC, xCU_o, q2], by simp [xuR, q3]⟩
      · exact .inl ⟨by simp [xuC], by simp [xuR]⟩
      · refine Nat.le_trans (xCnt_le (fun u _ e => ?_)) h.cnt
        simp only [xuC]
        split
        · rfl
        · rw [xCU_o (by omega)]; exact e
    rcases h.mov t ht with ⟨p, q⟩ | ⟨i, j, n, i1, j1, a, b, l, c, d, ⟨p, q, -⟩ | ⟨p, q, -⟩ | ⟨p, q, n1, n2, l'⟩⟩
    · simp [fC_9, fL_fail, fX5_fail, fX6_fail, fX6_thrown, g1, g2, g3, g4, ht, und_e, p, q, fls_2, lgc, oG_t, oB_s, oP_s, oT_r, oT_l, oC_r, oC_l, oN_s, oN_n]
      simp [xuR]
      exact xGood_cd h
    · have t1 : ¬ (xuR sr.1 122 0 0) 9 t = 3 := by simp [xuR, q]
      have t2 : ∀ v, xuR (xuR sr.1 122 0 0) 9 t v 122 0 = 0 := fun v => by simp [xuR]
      simp [fC_9, fL_fail, fX5_fail, fX6_fail, fX6_thrown, fX1_isBeforeCutting, fX1_end, g1, g2, g3, g4, ht, und_e, p, q, fls_0, t1, t2, countUse_e h4, lgc, oG_t, oB_s, oP_s, oT_r, oT_l, oC_r, oC_l, oN_s, oN_n]
      exact xGood_i (hend (by rw [p]; decide))
    · have t1 : ¬ (xuR sr.1 122 0 0) 9 t = 3 := by simp [xuR, q]
      have t2 : ∀ v, xuR (xuR sr.1 122 0 0) 9 t v 122 0 = 0 := fun v => by simp [xuR]
      simp [fC_9, fL_fail, fX5_fail, fX6_fail, fX6_thrown, fX1_isBeforeCutting, fX1_end, g1, g2, g3, g4, ht, und_e, p, q, fls_0, t1, t2, countUse_e h4, lgc, oG_t, oB_s, oP_s, oT_r, oT_l, oC_r, oC_l, oN_s, oN_n]
      exact xGood_i (hend (by rw [p]; decide))
    · have hc := inv_cl (xInv_cd (c := 0) h) ht p
      obtain ⟨bv, hb, b1, b2⟩ := bar_e hc (t := t) (j := i) ht
      rw [bar_cg (sc := sc) (fun o => by simp [xuC]) (fun o => by simp [xuC]) (fun o => by simp [xuC]) (fun o => by simp [xuC])] at b1
      have rm := room_r1 hc (t := t) (j := i) ht i1
      have rc : fX3_hasRoomBesidesStorage nS nT i 8 t (xuC sc.1 9 t 3 2, sc.2) = fX3_hasRoomBesidesStorage nS nT i 8 t sc := by simp [fX3_hasRoomBesidesStorage, xuC]
      rw [rc] at rm
      have t1 : (xuR sr.1 122 0 0) 9 t = 3 := by simp [xuR, q]
      have t2 : ∀ v, xuR (xuR sr.1 122 0 0) 12 t v 122 0 = 0 := fun v => by simp [xuR]
      have t3 : ∀ v, xuR (xuR sr.1 122 0 0) 12 t v 10 t = nI i := fun v => by simp [xuR, c]
      have t3' : ∀ v, xuR (xuR sr.1 122 0 0) 12 t v 11 t = nI j := fun v => by simp [xuR, d]
      have t4 := shN_y (nS := nS) (nT := nT) (sc := sc) h4 i1
      rcases h.opn i i1 with ⟨e1, e2⟩ | ⟨e1, e2⟩
      · have t5 : ∀ v, xuR (xuR sr.1 122 0 0) 12 t v 2 i = 0 := fun v => by simp [xuR, e2]
        rcases hb with rfl | rfl
        · by_cases hr : fX3_hasRoomBesidesStorage nS nT i 8 t sc = some 0
          · rw [hr] at rm
            simp [fC_9, fL_fail, fX5_fail, fX5_canGoBack, fX6_fail, fX6_thrown, fX1_isBeforeCutting, fX1_cleanAnew, g1, g2, g3, g4, ht, und_e, p, q, a, t4, i1, xin4 (show i < 4 by omega), nN (show i < 100 by omega), fls_0, t1, t2, t3, t5, e1, b1, b2, rm, hr, lgc, oG_t, oB_s, oP_s, oT_r, oT_l, oC_r, oC_l, oN_s, oN_n]
            exact xGood_i hc
          · have hr : fX3_hasRoomBesidesStorage nS nT i 8 t sc = some 1 := by
              revert hr
              unfold fX3_hasRoomBesidesStorage
              split
              · intro x; exact absurd rfl x
              · split
                · intro x; exact absurd rfl x
                · intro _; rfl
            rw [hr] at rm
            have t6 : ∀ v x y z w, xuR (xuR (xuR (xuR (xuR (xuR sr.1 122 0 0) 12 t v) 10 t x) 11 t y) 8 t z) 117 0 w 122 0 = 0 := fun v x y z w => by simp [xuR]
            simp [fC_9, fL_fail, fX5_fail, fX5_canGoBack, fX5_goBack, fX6_fail, fX6_thrown, fX1_isBeforeCutting, fX1_turnRound, fX1_cleanAnew, countUse_e h4, g1, g2, g3, g4, ht, und_e, p, q, a, t4, i1, xin4 (show i < 4 by omega), nN (show i < 100 by omega), fls_0, t1, t2, t3, t3', t5, t6, e1, b1, b2, rm, hr, lgc, oG_t, oB_s, oP_s, oT_r, oT_l, oC_r, oC_l, oN_s, oN_n]
            refine xGood_i (inv_swc ?_)
            refine inv_ci (xInv_cd (c := 0) h) ht (fun k j i hn => ?_) rfl (fun a b hn => ?_) rfl (fun m' hm' => ?_) ?_ ?_ ?_
            · simp only [xuC]
              rw [if_neg (by omega), if_neg (by omega), if_neg (by omega), if_neg (by omega)]
            · simp only [xuR]
              rw [if_neg (by omega), if_neg (by omega), if_neg (by omega), if_neg (by omega)]
            · obtain ⟨n', n1, n2, n3, n4⟩ := h.siz t m' ht hm'
              exact ⟨n', n1, n2, by simp [xuC, xCU_o, n3], by simp [xuR, n4]⟩
            · exact ⟨i, i1, by simp [xuC, xCU_o, a], by simp [xuR]⟩
            · refine .inr ⟨j, i, 2, j1, i1, ?_, ?_, ?_, ?_, ?_, .inr (.inr ⟨?_, ?_, by omega, by omega, ?_⟩)⟩
              · simp [xuC, xCU_o, b]
              · simp [xuC, xCU_o, a]
              · simp [xuC, xCU_o]; rfl
              · simp [xuR]
              · simp [xuR]
              · simp [xuC, xCU_o, p]
              · simp [xuR, q]
              · simp [xuR]; rfl
            · refine Nat.le_trans (xCnt_le (fun u _ e => ?_)) h.cnt
              simp [xuC, xCU_o, e]
        · simp [fC_9, fL_fail, fX5_fail, fX5_canGoBack, fX6_fail, fX6_thrown, fX1_isBeforeCutting, fX1_cleanAnew, g1, g2, g3, g4, ht, und_e, p, q, a, t4, i1, xin4 (show i < 4 by omega), nN (show i < 100 by omega), fls_0, t1, t2, t3, t5, e1, b1, b2, lgc, oG_t, oB_s, oP_s, oT_r, oT_l, oC_r, oC_l, oN_s, oN_n]
          exact xGood_i hc
      · have t5 : ∀ v, ¬ xuR (xuR sr.1 122 0 0) 12 t v 2 i = 0 := fun v => by simp [xuR, e2]
        simp [fC_9, fL_fail, fX5_fail, fX5_canGoBack, fX6_fail, fX6_thrown, fX1_isBeforeCutting, fX1_cleanAnew, g1, g2, g3, g4, ht, und_e, p, q, a, t4, i1, xin4 (show i < 4 by omega), nN (show i < 100 by omega), fls_0, t1, t2, t3, t5, e1, lgc, oG_t, oB_s, oP_s, oT_r, oT_l, oC_r, oC_l, oN_s, oN_n]
        exact xGood_i hc
  · simp [fC_9, fL_fail, fX5_fail, fX6_fail, fX6_thrown, knT_n h6 ha, noT_n (N := nT) (by omega) ha h.c103, fls_1, lgc, xuR, oG_t, oB_s, oP_s, oT_r, oT_l, oC_r, oC_l, oN_s, oN_n]
    exact xGood_cd h
