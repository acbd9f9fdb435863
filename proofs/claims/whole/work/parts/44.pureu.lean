/-! passing hours -/
theorem hour_e {k nS nT : Nat} {sc : xSC} {sr : xSR} (h : xInv k 0 nS nT sc sr) {T : Nat} (e : sc.1 0 0 5 = nI T) (hT : T < 49000) (hk : T + 1 ≤ 48 * k) : ∃ v s1 s2 sc' sr', fX5_noteHoursOver nS nT sc = some ((), s1) ∧ fX5_goOnWithMoves nS nT s1 = some (v, s2) ∧ s2.1 0 0 5 = nI T ∧ ((T + 1) % 24 = 0 → fX5_growStorage nS nT (xuC s2.1 0 0 5 (nI (T + 1)), s2.2) = some ((), sc')) ∧ ((T + 1) % 24 ≠ 0 → sc' = (xuC s2.1 0 0 5 (nI (T + 1)), s2.2)) ∧ fX6_hour sr = some (v, sr') ∧ xInv k 0 nS nT sc' sr' ∧ sc'.1 0 0 5 = nI (T + 1) ∧ sr'.1 122 0 = sr.1 122 0 := by
  have h6 := h.T6
  obtain ⟨s1, u1, a1, a2, h1, a3, a4⟩ := over_e h (fun u => fX6_hour_L2 (fX6_hour_K2) 64 0 0 u) (fun u x => by rw [fX6_hour_K1])
  have e1 : s1.1 0 0 5 = nI T := by rw [a3, e]
  obtain ⟨v, s2, u2, b1, b2, h2, e2, b5⟩ := gowm_e h1 e1 (by omega) (fun q => fX6_hour_L3 (fX6_hour_K3 q.1) 64 0 (xuR q.2.1 116 0 (q.2.1 116 0 + 1), q.2.2)) (fun q x => by rw [fX6_hour_K2])
  have h3 := inv_sd (x := v) h2
  rw [show (0 : Int32) + v = v from Int32.zero_add v] at h3
  have h4 := inv_tm (T := T + 1) h3 hk
  have t1 : u2.1 116 0 + 1 = nI (T + 1) := by
    obtain ⟨T', -, q1, q2⟩ := h2.tim
    rw [q2, ← q1, e2, nI_1]
  have e4 : (xuC (xuC s2.1 0 0 6 (s2.1 0 0 6 + v)) 0 0 5 (nI (T + 1))) 0 0 5 = nI (T + 1) := by simp [xuC]
  have R : fX6_hour sr = fX6_hour_L3 (fX6_hour_K3 v) 64 0 (xuR u2.1 116 0 (nI (T + 1)), u2.2) := by
    rw [a2]
    show fX6_hour_L2 fX6_hour_K2 64 0 0 u1 = _
    rw [b2]
    simp only [t1]
  by_cases g : (T + 1) % 24 = 0
  · obtain ⟨s5, u5, c1, c2, h5, e5, c6⟩ := grow_e h4 e4 (by omega) g v
    refine ⟨v, s1, _, s5, _, a1, b1, ?_, fun _ => c1, fun x => absurd g x, by rw [R]; exact c2, inv_sr h5, e5, by simpa [xuR, b5, a4] using c6⟩
    simp [xuC, e2]
  · refine ⟨v, s1, _, _, (xuR (xuR u2.1 116 0 (nI (T + 1))) 117 0 ((xuR u2.1 116 0 (nI (T + 1))) 117 0 + v), u2.2), a1, b1, ?_, fun x => absurd x g, fun _ => rfl, ?_, inv_sr h4, e4, by simp [xuR, b5, a4]⟩
    · simp [xuC, e2]
    · rw [R]
      have r := pk_rem (a := T + 1) (d := 24) (by omega) (by omega) (by omega)
      rw [show nI 24 = (24 : Int32) from rfl] at r
      have t2 : (xuR u2.1 116 0 (nI (T + 1))) 116 0 = nI (T + 1) := by simp [xuR]
      rw [fX6_hour_L3]
      simp only [t2, r, nI_ne0 (show 0 < (T + 1) % 24 by omega) (by omega), if_false, fX6_hour_K3, ite_self]
theorem kp_10 {k nS nT : Nat} {sc : xSC} {sr : xSR} {sl : xSL} (h : xInv k 0 nS nT sc sr) (hk : k < 512) (a1 : Int32) : xGood (k + 1) (fC_10 nS nT a1 sc sr sl) := by
  rcases xrng a1 1 48 with ⟨g1, g2⟩ | g
  · obtain ⟨H, H1, H2, rfl⟩ := xrng_n (x := 1) (y := 48) rfl rfl (by omega) (by omega) g1 g2
    obtain ⟨T, hT, e, -⟩ := h.tim
    have h0 : xInv (k + 1) 0 nS nT sc (xuR sr.1 122 0 0, sr.2) := xInv_k (xInv_cd h) (by omega)
    obtain ⟨q, q', ⟨hv, hI, hs, hu⟩, e1, e2⟩ := xlp2 (fun n i (q : Int32 × xSC) => fX5_pass_L1 nS nT (nI H) fX5_pass_K1 n q.1 i q.2) (fun q => some (.inr q.1, q.2)) (fun n i (q : Int32 × xSR) => fX6_pass_L2 (nI H) fX6_pass_K2 n q.1 i q.2) (fun q => some q) (fun i q q' => q.1 = q'.1 ∧ xInv (k + 1) 0 nS nT q.2 q'.2 ∧ q.2.1 0 0 5 = nI (T + i) ∧ q'.2.1 122 0 = 0) H H (by omega)
      (fun i q q' hi hp => by
        obtain ⟨x, s⟩ := q
        obtain ⟨x', u⟩ := q'
        obtain ⟨rfl, hI, hs, hu⟩ := hp
        have hI : xInv (k + 1) 0 nS nT s u := hI
        have hs : s.1 0 0 5 = nI (T + i) := hs
        obtain ⟨v, s1, s2, sc', sr', b1, b2, b3, b4, b5, b6, b7, b8, b9⟩ := hour_e hI hs (by omega) (by omega)
        have hd := hod_e (nS := nS) (nT := nT) (n := T + i + 1) (x := nI (T + i + 1)) (s := (xuC s2.1 0 0 5 (nI (T + i + 1)), s2.2)) rfl (by omega)
        have t2 : (xuC s2.1 0 0 5 (nI (T + i + 1))) 0 0 5 = nI (T + i + 1) := by simp [xuC]
        refine ⟨(x + v, sc'), (x + v, sr'), fun f => ?_, fun f => ?_, rfl, b7, b8, b9.trans hu⟩
        · show fX5_pass_L1 nS nT (nI H) fX5_pass_K1 (f + 1) x (nI i) s = fX5_pass_L1 nS nT (nI H) fX5_pass_K1 f (x + v) (nI (i + 1)) sc'
          rw [fX5_pass_L1]
          simp only [geN hi (by omega), b1, b2, b3, t2, hd, nI_1, if_false, oG_t, oB_s, oP_s, oT_r, oT_l, oC_r, oC_l, oN_s, oN_n]
          by_cases g : (T + i + 1) % 24 = 0
          · rw [if_pos (by rw [g]; rfl), b4 g]
            rfl
          · rw [if_neg (nI_ne0 (by omega) (by omega)), b5 g]
        · show fX6_pass_L2 (nI H) fX6_pass_K2 (f + 1) x (nI i) u = fX6_pass_L2 (nI H) fX6_pass_K2 f (x + v) (nI (i + 1)) sr'
          rw [fX6_pass_L2]
          simp only [geN hi (by omega), b6, nI_1, if_false, oG_t, oB_s, oP_s, oT_r, oT_l, oC_r, oC_l, oN_s, oN_n])
      (fun f i s h1 h2 => by omega)
      (fun f q u hp => by
        show fX5_pass_L1 nS nT (nI H) fX5_pass_K1 (f + 1) q.1 (nI H) q.2 = some (.inr q.1, q.2)
        rw [fX5_pass_L1]
        simp only [leN, if_true, fX5_pass_K1])
      (fun f q u hp => by
        show fX6_pass_L2 (nI H) fX6_pass_K2 (f + 1) u.1 (nI H) u.2 = some u
        rw [fX6_pass_L2]
        simp only [leN, if_true, fX6_pass_K2])
      64 64 (by omega) (by omega) (0, sc) (0, (xuR sr.1 122 0 0, sr.2)) ⟨rfl, h0, e, by simp [xuR]⟩
    obtain ⟨x, s⟩ := q
    obtain ⟨x', u⟩ := q'
    have hv : x = x' := hv
    subst hv
    have hI : xInv (k + 1) 0 nS nT s u := hI
    have e1 : fX5_pass_L1 nS nT (nI H) fX5_pass_K1 64 0 (nI 0) sc = some (.inr x, s) := e1
    have e2 : fX6_pass_L2 (nI H) fX6_pass_K2 64 0 (nI 0) (xuR sr.1 122 0 0, sr.2) = some (x, u) := e2
    rw [nI_0] at e1 e2
    have hu : u.1 122 0 = 0 := hu
    have E5 : fX5_pass nS nT (nI H) sc = some (.inr x, s) := by
      rw [fX5_pass, rr_y g1 g2, oT_r, e1]
    have E6 : fX6_pass (nI H) sr = some (x, u) := by
      rw [fX6_pass, in_y g1 g2, oB_s, if_neg n10, fls_0, oP_s]
      exact (if_pos rfl).trans e2
    simp [fC_10, fL_pass, fX6_thrown, E5, E6, hu, lgc, oG_t, oB_s, oP_s, oT_r, oT_l, oC_r, oC_l, oN_s, oN_n]
    exact ⟨_, rfl, hI⟩
  · simp [fC_10, fL_pass, fX5_pass, fX6_pass, fX6_thrown, rr_n g, in_n g, fls_1, lgc, xuR, oG_t, oB_s, oP_s, oT_r, oT_l, oC_r, oC_l, oN_s, oN_n]
    exact xGood_cd h
