/-! trying all plans from a prefix on: the search -/
theorem xFd_7 {snd : Nat → Bool} {mv : Nat → Nat} {lo n : Nat} {s : Nat × Nat × Nat} (h : s.2.1 ≤ 7) : (xFd snd mv lo n s).2.1 ≤ 7 := by
  induction n with
  | zero => exact h
  | succ n ih =>
    simp only [xFd]
    split
    · show (if mv (lo + n) < (xFd snd mv lo n s).2.1 then mv (lo + n) else (xFd snd mv lo n s).2.1) ≤ 7
      split <;> omega
    · exact ih
theorem try_e {nS nT : Nat} {z l : Nat → Nat → Nat} {w v : Nat → Nat} {sc : xSC} (P : xPz nS nT z l w v sc) (snd : Nat → Bool) (mv : Nat → Nat)
    (HL : ∀ p : Nat → Nat, (∀ u, u < nT → p u < nS ∧ xOK z l w sc u p (p u)) → snd (xNum nS p nT) = true ∧ mv (xNum nS p nT) = xMvp v p nT)
    (HP : ∀ t (p : Nat → Nat) j, t < nT → j < nS → (∀ u, u < t → p u < nS) → ¬ xOK z l w sc t p j → ∀ r, r < nS ^ (nT - (t + 1)) → snd ((xNum nS p t * nS + j) * nS ^ (nT - (t + 1)) + r) = false) (d : Nat) :
    ∀ t f p s n b kb, nT - t = d → t ≤ nT → xTr nS t z p sc s → (∀ u, u < t → p u < nS ∧ xOK z l w sc u p (p u)) → b ≤ 7 → s.1 3 0 0 = nI n → s.1 3 0 1 = nI b →
    ∃ s', fX2_tryFrom (f + d + 1) nS nT (nI t) (nI (xMvp v p t)) s = some ((), s') ∧ xTr nS t z p sc s' ∧ s'.1 3 0 0 = nI (xFd snd mv (xNum nS p t * nS ^ (nT - t)) (nS ^ (nT - t)) (n, b, kb)).1 ∧ s'.1 3 0 1 = nI (xFd snd mv (xNum nS p t * nS ^ (nT - t)) (nS ^ (nT - t)) (n, b, kb)).2.1 := by
  have P' := P
  obtain ⟨h4, h6, hz, hl, hw, hv⟩ := P'
  induction d with
  | zero =>
    intro t f p s n b kb e ht hT hp hb q1 q2
    obtain rfl : t = nT := by omega
    have m := xMvp_le (v := v) (p := p) (t := t)
    obtain ⟨s', a1, a2, a3, a4, a5⟩ := note_e (nS := nS) (nT := t) q1 q2 (show xMvp v p t < 100 by omega) (by omega)
    obtain ⟨g1, g2⟩ := HL p hp
    refine ⟨s', ?_, ⟨fun a b i hn => ?_, a5.trans hT.2.1, fun j hj => ?_⟩, ?_, ?_⟩
    · rw [fX2_tryFrom, ton_n h6, oB_s, oN_n, a1, oP_s]
    · rw [a4 a b i (fun x => hn (.inl x))]
      exact hT.1 a b i hn
    · refine ⟨?_, fun m hm => ?_⟩
      · rw [a4 4 j 4 (by omega)]
        exact (hT.2.2 j hj).1
      · rw [a4 7 j m (by omega)]
        exact (hT.2.2 j hj).2 m hm
    · rw [Nat.sub_self, Nat.pow_zero, Nat.mul_one]
      simp only [xFd, Nat.add_zero, g1, if_true]
      exact a2
    · rw [Nat.sub_self, Nat.pow_zero, Nat.mul_one]
      simp only [xFd, Nat.add_zero, g1, g2, if_true]
      exact a3
  | succ d ih =>
    intro t f' p s n b kb e ht hT hp hb q1 q2
    have htl : t < nT := by omega
    obtain ⟨W, hW⟩ : ∃ W, W = nS ^ (nT - (t + 1)) := ⟨_, rfl⟩
    have hW' : nS ^ (nT - t) = nS * W := by rw [hW, show nT - t = (nT - (t + 1)) + 1 by omega, Nat.pow_succ, Nat.mul_comm]
    rw [hW']
    obtain ⟨lo, hlo⟩ : ∃ lo, lo = xNum nS p t * (nS * W) := ⟨_, rfl⟩
    rw [← hlo]
    have hlo' : ∀ i, (xNum nS p t * nS + i) * W = lo + i * W := fun i => by rw [hlo, Nat.add_mul, Nat.mul_assoc]
    obtain ⟨s', ⟨r1, r2, r3⟩, E⟩ := xlpR (fun f i s => fX2_tryFrom_L1 nS nT (nI t) (nI (xMvp v p t)) (fX2_tryFrom (f' + d + 1) nS nT) t fX2_tryFrom_K1 f i s) (fun s => some ((), s)) (fun i s => xTr nS t z p sc s ∧ s.1 3 0 0 = nI (xFd snd mv lo (i * W) (n, b, kb)).1 ∧ s.1 3 0 1 = nI (xFd snd mv lo (i * W) (n, b, kb)).2.1) nS 4 h4
      (fun g i s hi hp' => by
        obtain ⟨c1, c2, c3⟩ := hp'
        show ∃ s', fX2_tryFrom_L1 nS nT (nI t) (nI (xMvp v p t)) (fX2_tryFrom (f' + d + 1) nS nT) t fX2_tryFrom_K1 (g + 1) (nI i) s = fX2_tryFrom_L1 nS nT (nI t) (nI (xMvp v p t)) (fX2_tryFrom (f' + d + 1) nS nT) t fX2_tryFrom_K1 g (nI (i + 1)) s' ∧ _
        have hq : xFd snd mv lo ((i + 1) * W) (n, b, kb) = xFd snd mv (lo + i * W) W (xFd snd mv lo (i * W) (n, b, kb)) := by rw [Nat.succ_mul, xFd_add]
        rw [fX2_tryFrom_L1]
        simp only [ge4 (show i < 4 by omega), xin4 (show i < 4 by omega), xel_n hi (by omega), if_false, oG_t, oB_s, oP_s, oT_r, oT_l, oC_r, oC_l, oN_s, oN_n]
        rcases takes_e P c1 htl hi with ⟨ok, tk⟩ | ⟨no, tk⟩
        · obtain ⟨s1, a1, a2, a3⟩ := put_t P c1 htl hi
          have b1 : s1.1 3 0 0 = _ := (a3 3 0 0 (by omega) (by omega)).trans c2
          have b2 : s1.1 3 0 1 = _ := (a3 3 0 1 (by omega) (by omega)).trans c3
          have b3 : s1.1 11 t 3 = nI (v t) := by rw [a2.1 11 t 3 (by simp [xScrC]), (hv t htl).1]
          obtain ⟨s2, d1, d2, d3, d4⟩ := ih (t + 1) f' (pU p t i) s1 _ _ (xFd snd mv lo (i * W) (n, b, kb)).2.2 (by omega) (by omega) a2 (fun u hu => by
            by_cases eu : u = t
            · subst eu
              rw [pU_s]
              exact ⟨hi, (xOK_c (fun x hx => pU_o hx)).mpr ok⟩
            · rw [pU_o (by omega)]
              exact ⟨(hp u (by omega)).1, (xOK_c (fun x hx => pU_o (by omega))).mpr (hp u (by omega)).2⟩) (xFd_7 hb) b1 b2
          obtain ⟨s3, g1, g2, g3⟩ := take_t P d2 htl hi
          have nu : xNum nS (pU p t i) (t + 1) * nS ^ (nT - (t + 1)) = lo + i * W := by
            rw [← hlo' i, hW]
            simp only [xNum, pU_s, xNum_c (p := pU p t i) (q := p) (fun u hu => pU_o hu)]
          rw [nu, ← hW] at d3 d4
          have mvq : xMvp v (pU p t i) (t + 1) = xMvp v p t + (if i = v t then 0 else 1) := by
            simp only [xMvp, pU_s, xMvp_c (p := pU p t i) (q := p) (fun u hu => pU_o hu)]
          rw [mvq] at d1
          refine ⟨s3, ?_, g2, ?_, ?_⟩
          · have hvl := (hv t htl).2
            simp only [tk, n10, if_false, a1, b3, nI_1, oG_t, oB_s, oP_s, oT_r, oT_l, oC_r, oC_l, oN_s, oN_n]
            by_cases ev : i = v t
            · have ee : nI i = nI (v t) := by rw [ev]
              rw [if_pos ev, show xMvp v p t + 0 = xMvp v p t from rfl] at d1
              rw [if_pos ee, Int32.add_zero, d1, oP_s, g1, oP_s]
            · rw [if_neg (by rw [nI_eq (by omega) (by omega)]; exact ev)]
              rw [if_neg ev] at d1
              rw [d1, oP_s, g1, oP_s]
          · rw [g3 3 0 0 (by omega) (by omega), d3, hq]
          · rw [g3 3 0 1 (by omega) (by omega), d4, hq]
        · have z0 := xFd_no (snd := snd) (mv := mv) (lo := lo + i * W) (n := W) (s := xFd snd mv lo (i * W) (n, b, kb)) (fun r hr => by
            rw [← hlo' i, hW]
            exact HP t p i htl hi (fun u hu => (hp u hu).1) no r (by rw [← hW]; exact hr))
          refine ⟨s, ?_, c1, ?_, ?_⟩
          · simp only [tk, if_true, nI_1, oG_t, oB_s, oP_s, oT_r, oT_l, oC_r, oC_l, oN_s, oN_n]
          · rw [hq, z0]; exact c2
          · rw [hq, z0]; exact c3)
      (fun g i s h1 h2 => by
        show fX2_tryFrom_L1 nS nT (nI t) (nI (xMvp v p t)) (fX2_tryFrom (f' + d + 1) nS nT) t fX2_tryFrom_K1 (g + 1) (nI i) s = fX2_tryFrom_L1 nS nT (nI t) (nI (xMvp v p t)) (fX2_tryFrom (f' + d + 1) nS nT) t fX2_tryFrom_K1 g (nI (i + 1)) s
        rw [fX2_tryFrom_L1]
        simp only [ge4 h2, xin4 h2, xel_o (show ¬ i < nS by omega) (by omega), nI_1, if_false, oG_t, oB_s, oP_s, oT_r, oT_l, oC_r, oC_l, oN_s, oN_n])
      (fun g s hp' => by
        show fX2_tryFrom_L1 nS nT (nI t) (nI (xMvp v p t)) (fX2_tryFrom (f' + d + 1) nS nT) t fX2_tryFrom_K1 (g + 1) (nI 4) s = some ((), s)
        rw [fX2_tryFrom_L1]
        simp only [le4, if_true, fX2_tryFrom_K1])
      64 (by omega) s ⟨hT, by rw [Nat.zero_mul]; exact q1, by rw [Nat.zero_mul]; exact q2⟩
    have E : fX2_tryFrom_L1 nS nT (nI t) (nI (xMvp v p t)) (fX2_tryFrom (f' + d + 1) nS nT) t fX2_tryFrom_K1 64 (nI 0) s = some ((), s') := E
    rw [nI_0] at E
    refine ⟨s', ?_, r1, r2, r3⟩
    rw [show f' + (d + 1) + 1 = (f' + d + 1) + 1 by omega, fX2_tryFrom, ton_y h6 htl, oB_s, oN_s, oG_e (by simpa using htl) rfl, E]
