/-! an hour, and passing -/
theorem inv_ov {k nS nT : Nat} {d : Int32} {sc : xSC} {sr : xSR} (h : xInv k d nS nT sc sr) {x : Int64} : xInv k d nS nT (sc.1, sc.2 + x) (sr.1, sr.2 + x) :=
  ⟨h.S4, h.T6, h.c100, h.c103, h.lim, h.opn, h.opz, h.siz, h.gro, h.win, h.srv, h.mov, h.fre, h.use, Nat.le_trans (xCnt_le (sc := sc) (sc' := (sc.1, sc.2 + x)) (fun _ _ e => e)) h.cnt, h.par, h.tim, h.swi, by rw [h.ovr]⟩
theorem over_e {k nS nT : Nat} {d : Int32} {sc : xSC} {sr : xSR} (h : xInv k d nS nT sc sr) (K : xSR → Option (Int32 × xSR)) (hK : ∀ u x, fX6_hour_K1 x u = K u) : ∃ s u, fX5_noteHoursOver nS nT sc = some ((), s) ∧ fX6_hour sr = K u ∧ xInv k d nS nT s u ∧ s.1 = sc.1 ∧ u.1 = sr.1 := by
  have h6 := h.T6
  obtain ⟨s', u', ⟨hI, hs, hu⟩, e1, e2⟩ := xlp2 (fun n i s => fX5_noteHoursOver_L1 nS nT fX5_noteHoursOver_K1 n i s) (fun s => some ((), s)) (fun n i u => fX6_hour_L1 fX6_hour_K1 n i u) K (fun i s u => xInv k d nS nT s u ∧ s.1 = sc.1 ∧ u.1 = sr.1) nT 6 h6
    (fun i s u hi hp => by
      obtain ⟨hI, hs, hu⟩ := hp
      obtain ⟨j, j1, v1, v2⟩ := hI.srv i hi
      have m := much_r hI j1
      rcases much_b (nS := nS) (nT := nT) (j := j) (sc := s) with g | g
      · rw [g] at m
        refine ⟨s, (u.1, u.2 + 0), fun f => ?_, fun f => ?_, ?_, hs, hu⟩
        · show fX5_noteHoursOver_L1 nS nT fX5_noteHoursOver_K1 (f + 1) (nI i) s = fX5_noteHoursOver_L1 nS nT fX5_noteHoursOver_K1 f (nI (i + 1)) s
          rw [fX5_noteHoursOver_L1]
          simp only [ge6 (show i < 6 by omega), xin6 (show i < 6 by omega), xel_n hi (by omega), v1, shN_y hI.S4 j1, j1, decide_true, g, nI_1, if_false, if_true, oG_t, oB_s, oP_s, oT_r, oT_l, oC_r, oC_l, oN_s, oN_n]
        · show fX6_hour_L1 fX6_hour_K1 (f + 1) (nI i) u = fX6_hour_L1 fX6_hour_K1 f (nI (i + 1)) (u.1, u.2 + 0)
          rw [fX6_hour_L1]
          simp only [hI.c103, geN hi (by omega), xin6 (show i < 6 by omega), nN (show i < 100 by omega), v2, m, nI_1, if_false, if_true, oG_t, oB_s, oP_s, oT_r, oT_l, oC_r, oC_l, oN_s, oN_n]
        · rw [Int64.add_zero]; exact hI
      · rw [g] at m
        refine ⟨(s.1, s.2 + 1), (u.1, u.2 + 1), fun f => ?_, fun f => ?_, inv_ov hI, hs, hu⟩
        · show fX5_noteHoursOver_L1 nS nT fX5_noteHoursOver_K1 (f + 1) (nI i) s = fX5_noteHoursOver_L1 nS nT fX5_noteHoursOver_K1 f (nI (i + 1)) (s.1, s.2 + 1)
          rw [fX5_noteHoursOver_L1]
          simp only [ge6 (show i < 6 by omega), xin6 (show i < 6 by omega), xel_n hi (by omega), v1, shN_y hI.S4 j1, j1, decide_true, g, n10, nI_1, if_false, if_true, oG_t, oB_s, oP_s, oT_r, oT_l, oC_r, oC_l, oN_s, oN_n]
        · show fX6_hour_L1 fX6_hour_K1 (f + 1) (nI i) u = fX6_hour_L1 fX6_hour_K1 f (nI (i + 1)) (u.1, u.2 + 1)
          rw [fX6_hour_L1]
          simp only [hI.c103, geN hi (by omega), xin6 (show i < 6 by omega), nN (show i < 100 by omega), v2, m, n10, nI_1, if_false, if_true, oG_t, oB_s, oP_s, oT_r, oT_l, oC_r, oC_l, oN_s, oN_n])
    (fun f i s h1 h2 => by
      show fX5_noteHoursOver_L1 nS nT fX5_noteHoursOver_K1 (f + 1) (nI i) s = fX5_noteHoursOver_L1 nS nT fX5_noteHoursOver_K1 f (nI (i + 1)) s
      rw [fX5_noteHoursOver_L1]
      simp only [ge6 h2, xin6 h2, xel_o (show ¬ i < nT by omega) (by omega), nI_1, if_false, oG_t, oB_s, oP_s, oT_r, oT_l, oC_r, oC_l, oN_s, oN_n])
    (fun f s u hp => by
      show fX5_noteHoursOver_L1 nS nT fX5_noteHoursOver_K1 (f + 1) (nI 6) s = some ((), s)
      rw [fX5_noteHoursOver_L1]
      simp only [le6, if_true, fX5_noteHoursOver_K1])
    (fun f s u hp => by
      show fX6_hour_L1 fX6_hour_K1 (f + 1) (nI nT) u = K u
      rw [fX6_hour_L1]
      simp only [hp.1.c103, leN, if_true, hK])
    64 64 (by omega) (by omega) sc sr ⟨h, rfl, rfl⟩
  refine ⟨s', u', ?_, ?_, hI, hs, hu⟩
  · have e1 : fX5_noteHoursOver_L1 nS nT fX5_noteHoursOver_K1 64 (nI 0) sc = some ((), s') := e1
    rw [nI_0] at e1
    rw [fX5_noteHoursOver, e1]
  · have e2 : fX6_hour_L1 fX6_hour_K1 64 (nI 0) sr = K u' := e2
    rw [nI_0] at e2
    rw [fX6_hour, e2]
theorem gowm_e {k nS nT : Nat} {d : Int32} {sc : xSC} {sr : xSR} (h : xInv k d nS nT sc sr) {T : Nat} (e : sc.1 0 0 5 = nI T) (hT : T < 50000) (K : Int32 × xSR → Option (Int32 × xSR)) (hK : ∀ q x, fX6_hour_K2 q.1 x q.2 = K q) : ∃ v s u, fX5_goOnWithMoves nS nT sc = some (v, (xuC s.1 0 0 6 (s.1 0 0 6 + v), s.2)) ∧ fX6_hour_L2 fX6_hour_K2 64 0 0 sr = K (v, u) ∧ xInv k d nS nT s u ∧ s.1 0 0 5 = nI T ∧ u.1 122 0 = sr.1 122 0 := by
  have h6 := h.T6
  obtain ⟨s', u', ⟨hv, hI, hs, hu⟩, e1, e2⟩ := xlp2 (fun n i (q : Int32 × xSC) => fX5_goOnWithMoves_L1 nS nT fX5_goOnWithMoves_K1 n q.1 i q.2) (fun q => some (q.1, (xuC q.2.1 0 0 6 (q.2.1 0 0 6 + q.1), q.2.2))) (fun n i (q : Int32 × xSR) => fX6_hour_L2 fX6_hour_K2 n q.1 i q.2) K (fun i q q' => q.1 = q'.1 ∧ xInv k d nS nT q.2 q'.2 ∧ q.2.1 0 0 5 = nI T ∧ q'.2.1 122 0 = sr.1 122 0) nT 6 h6
    (fun i q q' hi hp => by
      obtain ⟨x, s⟩ := q
      obtain ⟨x', u⟩ := q'
      obtain ⟨rfl, hI, hs, hu⟩ := hp
      have hI : xInv k d nS nT s u := hI
      have hs : s.1 0 0 5 = nI T := hs
      show ∃ (s' : Int32 × xSC) (u' : Int32 × xSR), (∀ n, fX5_goOnWithMoves_L1 nS nT fX5_goOnWithMoves_K1 (n + 1) x (nI i) s = fX5_goOnWithMoves_L1 nS nT fX5_goOnWithMoves_K1 n s'.1 (nI (i + 1)) s'.2) ∧ (∀ n, fX6_hour_L2 fX6_hour_K2 (n + 1) x (nI i) u = fX6_hour_L2 fX6_hour_K2 n u'.1 (nI (i + 1)) u'.2) ∧ _
      by_cases p0 : s.1 9 i 0 = 45
      · have q0 : u.1 9 i = 0 := by rw [ph_q hI hi]; exact p0
        have gg : fX6_goesOn (nI i) u = some (0, u) := by
          rw [fX6_goesOn]
          simp only [xin6 (show i < 6 by omega), nN (show i < 100 by omega), q0, show ((0 : Int32) = 2) = False from eq_false (by decide), if_true, if_false, oG_t, oB_s, oP_s, oT_r, oT_l, oC_r, oC_l, oN_s, oN_n]
        refine ⟨(x, s), (x + 0, u), fun f => ?_, fun f => ?_, by simp, hI, hs, hu⟩
        · rw [fX5_goOnWithMoves_L1]
          simp only [ge6 (show i < 6 by omega), xin6 (show i < 6 by omega), xel_n hi (by omega), und_e, p0, nI_1, if_false, if_true, oG_t, oB_s, oP_s, oT_r, oT_l, oC_r, oC_l, oN_s, oN_n]
        · rw [fX6_hour_L2]
          simp only [hI.c103, geN hi (by omega), gg, nI_1, if_false, if_true, oG_t, oB_s, oP_s, oT_r, oT_l, oC_r, oC_l, oN_s, oN_n]
      · obtain ⟨v, s1, u1, hv, g1, g2, hI', hs', hu'⟩ := goOn_e hI hi hs hT p0
        rcases hv with rfl | rfl
        · refine ⟨(x, s1), (x + 0, u1), fun f => ?_, fun f => ?_, by simp, hI', hs', hu'.trans hu⟩
          · rw [fX5_goOnWithMoves_L1]
            simp only [ge6 (show i < 6 by omega), xin6 (show i < 6 by omega), xel_n hi (by omega), und_e, p0, n10, g1, nI_1, if_false, if_true, oG_t, oB_s, oP_s, oT_r, oT_l, oC_r, oC_l, oN_s, oN_n]
          · rw [fX6_hour_L2]
            simp only [hI.c103, geN hi (by omega), g2, nI_1, if_false, if_true, oG_t, oB_s, oP_s, oT_r, oT_l, oC_r, oC_l, oN_s, oN_n]
        · refine ⟨(x + 1, s1), (x + 1, u1), fun f => ?_, fun f => ?_, rfl, hI', hs', hu'.trans hu⟩
          · rw [fX5_goOnWithMoves_L1]
            simp only [ge6 (show i < 6 by omega), xin6 (show i < 6 by omega), xel_n hi (by omega), und_e, p0, n10, g1, nI_1, if_false, if_true, oG_t, oB_s, oP_s, oT_r, oT_l, oC_r, oC_l, oN_s, oN_n]
          · rw [fX6_hour_L2]
            simp only [hI.c103, geN hi (by omega), g2, n10, nI_1, if_false, if_true, oG_t, oB_s, oP_s, oT_r, oT_l, oC_r, oC_l, oN_s, oN_n])
    (fun f i q h1 h2 => by
      show fX5_goOnWithMoves_L1 nS nT fX5_goOnWithMoves_K1 (f + 1) q.1 (nI i) q.2 = fX5_goOnWithMoves_L1 nS nT fX5_goOnWithMoves_K1 f q.1 (nI (i + 1)) q.2
      rw [fX5_goOnWithMoves_L1]
      simp only [ge6 h2, xin6 h2, xel_o (show ¬ i < nT by omega) (by omega), nI_1, if_false, oG_t, oB_s, oP_s, oT_r, oT_l, oC_r, oC_l, oN_s, oN_n])
    (fun f q u hp => by
      show fX5_goOnWithMoves_L1 nS nT fX5_goOnWithMoves_K1 (f + 1) q.1 (nI 6) q.2 = _
      rw [fX5_goOnWithMoves_L1]
      simp only [le6, if_true, fX5_goOnWithMoves_K1])
    (fun f s q hp => by
      show fX6_hour_L2 fX6_hour_K2 (f + 1) q.1 (nI nT) q.2 = K q
      rw [fX6_hour_L2]
      simp only [hp.2.1.c103, leN, if_true, hK])
    64 64 (by omega) (by omega) (0, sc) (0, sr) ⟨rfl, h, e, rfl⟩
  obtain ⟨x, s⟩ := s'
  obtain ⟨x', u⟩ := u'
  have hv : x = x' := hv
  subst hv
  refine ⟨x, s, u, ?_, ?_, hI, hs, hu⟩
  · have e1 : fX5_goOnWithMoves_L1 nS nT fX5_goOnWithMoves_K1 64 0 (nI 0) sc = some (x, (xuC s.1 0 0 6 (s.1 0 0 6 + x), s.2)) := e1
    rw [nI_0] at e1
    rw [fX5_goOnWithMoves, e1]
  · have e2 : fX6_hour_L2 fX6_hour_K2 64 0 (nI 0) sr = K (x, u) := e2
    rw [nI_0] at e2
    exact e2
theorem inv_sd {k nS nT : Nat} {d : Int32} {sc : xSC} {sr : xSR} (h : xInv k d nS nT sc sr) {x : Int32} : xInv k (d + x) nS nT (xuC sc.1 0 0 6 (sc.1 0 0 6 + x), sc.2) sr := by
  refine ⟨h.S4, h.T6, h.c100, h.c103, by simpa [xuC] using h.lim, by simpa [xuC] using h.opn, h.opz, by simpa [xuC] using h.siz, by simpa [xuC] using h.gro, by simpa [xuC] using h.win, by simpa [xuC] using h.srv, by simpa [xuC] using h.mov, h.fre, by simpa [xuC, xUse] using h.use, Nat.le_trans (xCnt_le (fun u _ e => by simpa [xuC] using e)) h.cnt, by simpa [xuC] using h.par, by simpa [xuC] using h.tim, ?_, h.ovr⟩
  have e := h.swi
  simp [xuC, e, Int32.add_assoc]
theorem inv_sr {k nS nT : Nat} {d : Int32} {sc : xSC} {sr : xSR} (h : xInv k d nS nT sc sr) : xInv k 0 nS nT sc (xuR sr.1 117 0 (sr.1 117 0 + d), sr.2) := by
  refine ⟨h.S4, h.T6, by simpa [xuR] using h.c100, by simpa [xuR] using h.c103, by simpa [xuR] using h.lim, by simpa [xuR] using h.opn, by simpa [xuR] using h.opz, by simpa [xuR] using h.siz, by simpa [xuR] using h.gro, by simpa [xuR] using h.win, by simpa [xuR] using h.srv, by simpa [xuR] using h.mov, by simpa [xuR] using h.fre, h.use, h.cnt, by simpa [xuR] using h.par, by simpa [xuR] using h.tim, ?_, h.ovr⟩
  have e := h.swi
  simp [xuR, e]
theorem inv_tm {k nS nT : Nat} {d : Int32} {sc : xSC} {sr : xSR} (h : xInv k d nS nT sc sr) {T : Nat} (hT : T ≤ 48 * k) : xInv k d nS nT (xuC sc.1 0 0 5 (nI T), sc.2) (xuR sr.1 116 0 (nI T), sr.2) := by
  refine ⟨h.S4, h.T6, by simpa [xuR] using h.c100, by simpa [xuR] using h.c103, by simpa [xuC, xuR] using h.lim, by simpa [xuC, xuR] using h.opn, by simpa [xuR] using h.opz, by simpa [xuC, xuR] using h.siz, by simpa [xuC, xuR] using h.gro, by simpa [xuC, xuR] using h.win, by simpa [xuC, xuR] using h.srv, by simpa [xuC, xuR] using h.mov, by simpa [xuR] using h.fre, by simpa [xuC, xUse] using h.use, Nat.le_trans (xCnt_le (fun u _ e => by simpa [xuC] using e)) h.cnt, by simpa [xuC, xuR] using h.par, ⟨T, hT, by simp [xuC], by simp [xuR]⟩, by simpa [xuC, xuR] using h.swi, h.ovr⟩
theorem grow_e {k nS nT : Nat} {d : Int32} {sc : xSC} {sr : xSR} (h : xInv k d nS nT sc sr) {T : Nat} (e : sc.1 0 0 5 = nI T) (hT : T < 50000) (h0 : T % 24 = 0) (x : Int32) : ∃ s u, fX5_growStorage nS nT sc = some ((), s) ∧ fX6_hour_L3 (fX6_hour_K3 x) 64 0 sr = some (x, (xuR u.1 117 0 (u.1 117 0 + x), u.2)) ∧ xInv k d nS nT s u ∧ s.1 0 0 5 = nI T ∧ u.1 122 0 = sr.1 122 0 := by
  have h6 := h.T6
  have r := pk_rem (a := T) (d := 24) (by omega) (by omega) (by omega)
  rw [show nI 24 = (24 : Int32) from rfl, h0] at r
  obtain ⟨s', u', ⟨hI, hs, hu⟩, e1, e2⟩ := xlp2 (fun n i s => fX5_growStorage_L1 nS nT fX5_growStorage_K1 n i s) (fun s => some ((), s)) (fun n i u => fX6_hour_L3 (fX6_hour_K3 x) n i u) (fun u => some (x, (xuR u.1 117 0 (u.1 117 0 + x), u.2))) (fun i s u => xInv k d nS nT s u ∧ s.1 0 0 5 = nI T ∧ u.1 122 0 = sr.1 122 0) nT 6 h6
    (fun i s u hi hp => by
      obtain ⟨hI, hs, hu⟩ := hp
      obtain ⟨T', -, t1, t2⟩ := hI.tim
      have t3 : u.1 116 0 = nI T := by rw [t2, ← t1, hs]
      obtain ⟨w, w1, w2, w3, w4⟩ := hI.siz i 0 hi (by omega)
      obtain ⟨g, g1, g2, g3⟩ := hI.gro i hi
      have z : (if 999 < nI w + nI g then (999 : Int32) else nI w + nI g) = nI (if 999 < w + g then 999 else w + g) := by
        rw [nI_add]
        by_cases q : 999 < w + g
        · rw [if_pos q, if_pos (show (999 : Int32) < nI (w + g) from nI_lt (a := 999) q (by omega))]
          rfl
        · rw [if_neg q, if_neg (show ¬ (999 : Int32) < nI (w + g) from nI_nlt (b := w + g) (a := 999) (by omega) (by omega))]
      have o : ∀ s : xSC, fX0_of nS nT 8 i 0 s = some (s.1 8 i 0) := fun s => of_e (m := 0) (by omega)
      have p : ∀ (s : xSC) v, fX0_put nS nT 8 i 0 v s = some ((), (xuC s.1 8 i 0 v, s.2)) := fun s v => put_e (m := 0) (by omega)
      have c1 : (xCUi nS i (-1) s).1 8 i 0 = nI w := by rw [xCU_o (by omega), w3]
      have c2 : (xCUi nS i (-1) s).1 11 i 1 = nI g := by rw [xCU_o (by omega), g2]
      have w4' : u.1 4 (3 * i) = nI w := w4
      refine ⟨xCUi nS i 1 (xuC (xCUi nS i (-1) s).1 8 i 0 (nI (if 999 < w + g then 999 else w + g)), (xCUi nS i (-1) s).2), (xuR u.1 4 (3 * i) (nI (if 999 < w + g then 999 else w + g)), u.2), fun f => ?_, fun f => ?_, inv_ci hI hi (fun k j i hn => ?_) rfl (fun a b hn => ?_) rfl (fun m' hm' => ?_) ?_ ?_ ?_, ?_, by simpa [xuR] using hu⟩
      · show fX5_growStorage_L1 nS nT fX5_growStorage_K1 (f + 1) (nI i) s = fX5_growStorage_L1 nS nT fX5_growStorage_K1 f (nI (i + 1)) _
        rw [fX5_growStorage_L1]
        simp only [ge6 (show i < 6 by omega), xin6 (show i < 6 by omega), xel_n hi (by omega), countUse_e hI.S4, o, p, c1, c2, z, nI_1, if_false, oG_t, oB_s, oP_s, oT_r, oT_l, oC_r, oC_l, oN_s, oN_n]
      · show fX6_hour_L3 (fX6_hour_K3 x) (f + 1) (nI i) u = fX6_hour_L3 (fX6_hour_K3 x) f (nI (i + 1)) _
        rw [fX6_hour_L3]
        simp only [hI.c103, geN hi (by omega), t3, r, nI_0, nI_3, xin_n (show 3 * i < 18 by omega) (by omega), xin6 (show i < 6 by omega), nN (show i < 100 by omega), nN (show 3 * i < 100 by omega), w4', g3, nI_1, if_false, if_true, oG_t, oB_s, oP_s, oT_r, oT_l, oC_r, oC_l, oN_s, oN_n]
        rw [nI_add]
        by_cases q : 999 ≤ w + g
        · rw [if_pos (show (999 : Int32) ≤ nI (w + g) from nI_le (a := 999) q (by omega)), show (if 999 < w + g then 999 else w + g) = 999 by split <;> omega]
          rfl
        · rw [if_neg (show ¬ (999 : Int32) ≤ nI (w + g) from nI_ge (b := 999) (by omega) (by omega)), if_neg (by omega)]
      · simp only [xuC]
        rw [if_neg (by omega)]
      · simp only [xuR]
        rw [if_neg (by omega)]
      · rcases (show m' = 0 ∨ m' = 1 ∨ m' = 2 by omega) with rfl | rfl | rfl
        · exact ⟨(if 999 < w + g then 999 else w + g), by split <;> omega, by split <;> omega, by simp [xuC], by simp [xuR]⟩
        · obtain ⟨n', n1, n2, n3, n4⟩ := hI.siz i 1 hi (by omega)
          exact ⟨n', n1, n2, by simp [xuC, xCU_o, n3], by simp [xuR, n4]⟩
        · obtain ⟨n', n1, n2, n3, n4⟩ := hI.siz i 2 hi (by omega)
          exact ⟨n', n1, n2, by simp [xuC, xCU_o, n3], by simp [xuR, n4]⟩
      · obtain ⟨q, v1, v2, v3⟩ := hI.srv i hi
        exact ⟨q, v1, by simp [xuC, xCU_o, v2], by simp [xuR, v3]⟩
      · simpa [xuC, xuR, xCU_o] using hI.mov i hi
      · exact Nat.le_trans (xCnt_le (fun u _ e => by simpa [xuC, xCU_o] using e)) hI.cnt
      · rw [xCU_o (by omega)]
        simp [xuC, xCU_o, hs])
    (fun f i s h1 h2 => by
      show fX5_growStorage_L1 nS nT fX5_growStorage_K1 (f + 1) (nI i) s = fX5_growStorage_L1 nS nT fX5_growStorage_K1 f (nI (i + 1)) s
      rw [fX5_growStorage_L1]
      simp only [ge6 h2, xin6 h2, xel_o (show ¬ i < nT by omega) (by omega), nI_1, if_false, oG_t, oB_s, oP_s, oT_r, oT_l, oC_r, oC_l, oN_s, oN_n])
    (fun f s u hp => by
      show fX5_growStorage_L1 nS nT fX5_growStorage_K1 (f + 1) (nI 6) s = some ((), s)
      rw [fX5_growStorage_L1]
      simp only [le6, if_true, fX5_growStorage_K1])
    (fun f s u hp => by
      show fX6_hour_L3 (fX6_hour_K3 x) (f + 1) (nI nT) u = _
      rw [fX6_hour_L3]
      simp only [hp.1.c103, leN, if_true, fX6_hour_K3])
    64 64 (by omega) (by omega) sc sr ⟨h, e, rfl⟩
  refine ⟨s', u', ?_, ?_, hI, hs, hu⟩
  · have e1 : fX5_growStorage_L1 nS nT fX5_growStorage_K1 64 (nI 0) sc = some ((), s') := e1
    rw [nI_0] at e1
    rw [fX5_growStorage, e1]
  · have e2 : fX6_hour_L3 (fX6_hour_K3 x) 64 (nI 0) sr = some (x, (xuR u'.1 117 0 (u'.1 117 0 + x), u'.2)) := e2
    rw [nI_0] at e2
    exact e2
