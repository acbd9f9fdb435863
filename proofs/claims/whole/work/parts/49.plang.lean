/-! clearing the trial -/
theorem clear_e {nS nT : Nat} {z : Nat → Nat → Nat} {p : Nat → Nat} {sc s : xSC} (h4 : nS ≤ 4) (h1 : ∀ a b i, ¬ xScrC a i → s.1 a b i = sc.1 a b i) (h2 : s.2 = sc.2) : ∃ s', fX2_clearTrials nS nT s = some ((), s') ∧ xTr nS 0 z p sc s' ∧ ∀ a b i, a ≠ 4 → a ≠ 7 → s'.1 a b i = s.1 a b i := by
  obtain ⟨s', ⟨r1, r2, r3⟩, E⟩ := xlpR (fun f i s => fX2_clearTrials_L1 nS nT fX2_clearTrials_K1 f i s) (fun s => some ((), s)) (fun i s' => (∀ a b c, a ≠ 4 → a ≠ 7 → s'.1 a b c = s.1 a b c) ∧ ((∀ b c, c ≠ 4 → s'.1 4 b c = s.1 4 b c) ∧ s'.2 = s.2) ∧ ∀ j, j < i → s'.1 4 j 4 = 0 ∧ ∀ m, m < 3 → s'.1 7 j m = 0) nS 4 h4
    (fun g i s' hi hp => by
      obtain ⟨c1, ⟨c2, c2'⟩, c3⟩ := hp
      refine ⟨(xuC (xuC (xuC (xuC s'.1 4 i 4 0) 7 i 0 0) 7 i 1 0) 7 i 2 0, s'.2), ?_, fun a b c ha hb => ?_, ⟨fun b c hc => ?_, c2'⟩, fun j hj => ?_⟩
      · show fX2_clearTrials_L1 nS nT fX2_clearTrials_K1 (g + 1) (nI i) s' = fX2_clearTrials_L1 nS nT fX2_clearTrials_K1 g (nI (i + 1)) _
        rw [fX2_clearTrials_L1]
        simp only [ge4 (show i < 4 by omega), xin4 (show i < 4 by omega), xel_n hi (by omega), fX3_clearTrial, fX0_clear, nI_1, if_false, oG_t, oB_s, oP_s, oT_r, oT_l, oC_r, oC_l, oN_s, oN_n]
      · simp only [xuC]
        rw [if_neg (by omega), if_neg (by omega), if_neg (by omega), if_neg (by omega)]
        exact c1 a b c ha hb
      · simp only [xuC]
        rw [if_neg (by omega), if_neg (by omega), if_neg (by omega), if_neg (by omega)]
        exact c2 b c hc
      · by_cases e : j = i
        · subst e
          refine ⟨by simp [xuC], fun m hm => ?_⟩
          rcases (show m = 0 ∨ m = 1 ∨ m = 2 by omega) with rfl | rfl | rfl <;> simp [xuC]
        · have q := c3 j (by omega)
          refine ⟨by simp [xuC, e, q.1], fun m hm => ?_⟩
          simp [xuC, e, q.2 m hm])
    (fun g i s h1 h2 => by
      show fX2_clearTrials_L1 nS nT fX2_clearTrials_K1 (g + 1) (nI i) s = fX2_clearTrials_L1 nS nT fX2_clearTrials_K1 g (nI (i + 1)) s
      rw [fX2_clearTrials_L1]
      simp only [ge4 h2, xin4 h2, xel_o (show ¬ i < nS by omega) (by omega), nI_1, if_false, oG_t, oB_s, oP_s, oT_r, oT_l, oC_r, oC_l, oN_s, oN_n])
    (fun g s hp => by
      show fX2_clearTrials_L1 nS nT fX2_clearTrials_K1 (g + 1) (nI 4) s = some ((), s)
      rw [fX2_clearTrials_L1]
      simp only [le4, if_true, fX2_clearTrials_K1])
    64 (by omega) s ⟨fun _ _ _ _ _ => rfl, ⟨fun _ _ _ => rfl, rfl⟩, fun j hj => by omega⟩
  have E : fX2_clearTrials_L1 nS nT fX2_clearTrials_K1 64 (nI 0) s = some ((), s') := E
  rw [nI_0] at E
  refine ⟨s', by rw [fX2_clearTrials, E], ⟨fun a b i hn => ?_, r2.2.trans h2, fun j hj => r3 j hj⟩, r1⟩
  rw [← h1 a b i hn]
  simp only [xScrC, not_or, not_and] at hn
  by_cases e : a = 4
  · subst e
    exact r2.1 b i (fun x => hn.2.1 rfl x)
  · exact r1 a b i e hn.2.2.1
