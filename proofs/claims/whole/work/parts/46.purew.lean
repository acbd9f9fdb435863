/-! shares and the mean -/
theorem cmp_eq : Op.cmpValue (some .eq) .l = 0 := by decide
theorem kp_31 {k nS nT : Nat} {sc : xSC} {sr : xSR} {sl : xSL} (h : xInv k 0 nS nT sc sr) (a1 a2 : Int32) : xGood (k + 1) (fC_31 nS nT a1 a2 sc sr sl) := by
  have h4 := h.S4
  rcases xidx nS (by omega) a1 with ⟨j, hj, rfl⟩ | ha
  · rcases xidx 3 (by omega) a2 with ⟨m, hm, rfl⟩ | hb
    · obtain ⟨n, n1, n2, n3, n4⟩ := h.lim j m hj hm
      obtain ⟨f1, f2, f3⟩ := fdiv_n (sc.1 6 j m) n1 (show n < 301 by omega)
      have E5 : fX5_shareOf nS nT (nI j) (nI m) sc = some (.inr (FP.fdiv (FP.i2f (sc.1 6 j m)) (FP.i2f (nI n)))) := by
        simp only [fX5_shareOf, knS_y h4 hj, hj, rm_y hm, of_e hm, n3, decide_true, f1, oG_t, oB_s, oP_s, oT_r, oT_l, oC_r, oC_l, oN_s, oN_n]
        rw [if_pos (show (1 : Int32) ≤ nI n from nI_le (a := 1) n1 (by omega))]
      have E6 : fX6_shareOf (nI j) (nI m) sr = some (FP.fdiv (FP.i2f (sc.1 6 j m)) (FP.i2f (nI n)), (xuR sr.1 122 0 0, sr.2)) := by
        have n4' : (xuR sr.1 122 0 0) 1 (3 * j + m) = nI n := by simp [xuR, n4]
        simp only [fX6_shareOf, ca_y h hj hm, use_r (xInv_cd (c := 0) h) rfl hj hm, nI_3m, xin_n (show 3 * j + m < 12 by omega) (by omega), nN (show 3 * j + m < 100 by omega), n4', f1, if_true, oG_t, oB_s, oP_s, oT_r, oT_l, oC_r, oC_l, oN_s, oN_n]
      simp only [fC_31, fL_shareOf, E5, E6, f2, f3, cmp_eq, fX6_thrown, xsm, if_true, oG_t, oB_s, oP_s, oT_r, oT_l, oC_r, oC_l, oN_s, oN_n]
      exact xGood_cd h
    · simp [fC_31, fL_shareOf, fX5_shareOf, fX6_shareOf, fX6_thrown, knS_y h4 hj, ca_m h hj hb, rm_n hb, hj, xuR, oG_t, oB_s, oP_s, oT_r, oT_l, oC_r, oC_l, oN_s, oN_n]
      exact xGood_cd h
  · simp [fC_31, fL_shareOf, fX5_shareOf, fX6_shareOf, fX6_thrown, knS_n h4 ha, ca_n h ha, xuR, oG_t, oB_s, oP_s, oT_r, oT_l, oC_r, oC_l, oN_s, oN_n]
    exact xGood_cd h
theorem mean_e {k nS nT : Nat} {d : Int32} {sc : xSC} {sr : xSR} (h : xInv k d nS nT sc sr) (sr' : xSR) (g4 : ∀ t, sr'.1 4 t = sr.1 4 t) (g103 : sr'.1 103 0 = sr.1 103 0) : ∃ x, fX5_meanStorage nS nT sc = fX5_meanStorage_K1 x (nI nT) 6 ∧ fX6_meanStorage_L1 fX6_meanStorage_K1 64 0 0 sr' = fX6_meanStorage_K1 x (nI nT) sr' := by
  have h6 := h.T6
  obtain ⟨s', u', ⟨hs, hn⟩, e1, e2⟩ := xlp2 (fun n i (q : Int32 × Int32) => fX5_meanStorage_L1 nS nT sc fX5_meanStorage_K1 n q.1 q.2 i) (fun q => fX5_meanStorage_K1 q.1 q.2 6) (fun n i u => fX6_meanStorage_L1 fX6_meanStorage_K1 n u i sr') (fun u => fX6_meanStorage_K1 u (nI nT) sr') (fun i q u => q.1 = u ∧ q.2 = nI i) nT 6 h6
    (fun i q u hi hp => by
      obtain ⟨x, y⟩ := q
      obtain ⟨rfl, hy⟩ := hp
      have hy : y = nI i := hy
      subst hy
      obtain ⟨w, -, -, s1, s2⟩ := h.siz i 0 hi (by omega)
      have s2 : sr'.1 4 (3 * i) = nI w := by rw [g4]; exact s2
      have o : fX0_of nS nT 8 i 0 sc = some (sc.1 8 i 0) := of_e (m := 0) (by omega)
      refine ⟨(x + nI w, nI (i + 1)), x + nI w, fun f => ?_, fun f => ?_, rfl, rfl⟩
      · show fX5_meanStorage_L1 nS nT sc fX5_meanStorage_K1 (f + 1) x (nI i) (nI i) = fX5_meanStorage_L1 nS nT sc fX5_meanStorage_K1 f (x + nI w) (nI (i + 1)) (nI (i + 1))
        rw [fX5_meanStorage_L1]
        simp only [ge6 (show i < 6 by omega), xin6 (show i < 6 by omega), xel_n hi (by omega), o, s1, nI_1, if_false, oG_t, oB_s, oP_s, oT_r, oT_l, oC_r, oC_l, oN_s, oN_n]
      · show fX6_meanStorage_L1 fX6_meanStorage_K1 (f + 1) x (nI i) sr' = fX6_meanStorage_L1 fX6_meanStorage_K1 f (x + nI w) (nI (i + 1)) sr'
        rw [fX6_meanStorage_L1]
        simp only [g103, h.c103, geN hi (by omega), nI_3, xin_n (show 3 * i < 18 by omega) (by omega), nN (show 3 * i < 100 by omega), s2, nI_1, if_false, oG_t, oB_s, oP_s, oT_r, oT_l, oC_r, oC_l, oN_s, oN_n])
    (fun f i q h1 h2 => by
      show fX5_meanStorage_L1 nS nT sc fX5_meanStorage_K1 (f + 1) q.1 q.2 (nI i) = fX5_meanStorage_L1 nS nT sc fX5_meanStorage_K1 f q.1 q.2 (nI (i + 1))
      rw [fX5_meanStorage_L1]
      simp only [ge6 h2, xin6 h2, xel_o (show ¬ i < nT by omega) (by omega), nI_1, if_false, oG_t, oB_s, oP_s, oT_r, oT_l, oC_r, oC_l, oN_s, oN_n])
    (fun f q u hp => by
      show fX5_meanStorage_L1 nS nT sc fX5_meanStorage_K1 (f + 1) q.1 q.2 (nI 6) = fX5_meanStorage_K1 q.1 q.2 6
      rw [fX5_meanStorage_L1]
      simp only [le6, if_true]
      rfl)
    (fun f q u hp => by
      show fX6_meanStorage_L1 fX6_meanStorage_K1 (f + 1) u (nI nT) sr' = _
      rw [fX6_meanStorage_L1]
      simp only [g103, h.c103, leN, if_true])
    64 64 (by omega) (by omega) (0, 0) 0 ⟨rfl, rfl⟩
  obtain ⟨x, y⟩ := s'
  have hs : x = u' := hs
  have hn : y = nI nT := hn
  subst hs hn
  refine ⟨x, ?_, ?_⟩
  · have e1 : fX5_meanStorage_L1 nS nT sc fX5_meanStorage_K1 64 0 0 (nI 0) = fX5_meanStorage_K1 x (nI nT) 6 := e1
    rw [nI_0] at e1
    rw [fX5_meanStorage, e1]
  · have e2 : fX6_meanStorage_L1 fX6_meanStorage_K1 64 0 (nI 0) sr' = fX6_meanStorage_K1 x (nI nT) sr' := e2
    rw [nI_0] at e2
    exact e2
theorem kp_32 {k nS nT : Nat} {sc : xSC} {sr : xSR} {sl : xSL} (h : xInv k 0 nS nT sc sr) : xGood (k + 1) (fC_32 nS nT sc sr sl) := by
  have h6 := h.T6
  obtain ⟨x, e1, e2⟩ := mean_e h (xuR sr.1 122 0 0, sr.2) (fun t => by simp [xuR]) (by simp [xuR])
  by_cases g : nT = 0
  · subst g
    have c : sr.1 103 0 = 0 := h.c103
    have E5 : fX5_meanStorage nS 0 sc = some (.inl "java/lang/ArithmeticException") := by
      rw [e1, fX5_meanStorage_K1]
      exact if_neg (by decide)
    simp [fC_32, fL_meanStorage, fX6_meanStorage, fX6_thrown, E5, c, fls_1, xuR, oG_t, oB_s, oP_s, oT_r, oT_l, oC_r, oC_l, oN_s, oN_n]
    exact xGood_cd h
  · have d := ddiv_n x (n := nT) (by omega) (by omega)
    have c : ¬ sr.1 103 0 = 0 := by rw [h.c103]; exact nI_ne0 (by omega) (by omega)
    have E5 : fX5_meanStorage nS nT sc = some (.inr (FP.ddiv (FP.i2d x) (FP.i2d (nI nT)))) := by
      rw [e1, fX5_meanStorage_K1, if_pos (show (1 : Int32) ≤ nI nT from nI_le (a := 1) (by omega) (by omega)), d, oG_t]
    have E6 : fX6_meanStorage sr = some (FP.ddiv (FP.i2d x) (FP.i2d (nI nT)), (xuR sr.1 122 0 0, sr.2)) := by
      have c2 : (xuR sr.1 122 0 0) 103 0 = nI nT := by simp [xuR, h.c103]
      rw [fX6_meanStorage, if_neg c, fls_0, oP_s]
      refine (if_pos rfl).trans (e2.trans ?_)
      simp only [fX6_meanStorage_K1, c2, d, oG_t, oB_s, oP_s, oT_r, oT_l, oC_r, oC_l, oN_s, oN_n]
    simp only [fC_32, fL_meanStorage, E5, E6, fX6_thrown, xsm, if_true, oG_t, oB_s, oP_s, oT_r, oT_l, oC_r, oC_l, oN_s, oN_n]
    by_cases q : Op.cmpValue (FP.dcmp (FP.ddiv (FP.i2d x) (FP.i2d (nI nT))) (FP.ddiv (FP.i2d x) (FP.i2d (nI nT)))) .l = 0
    · simp only [q, if_true]
      exact xGood_cd h
    · simp only [q, if_false]
      exact xGood_cd h
