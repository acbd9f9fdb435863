/-! the fewest moves, by allowing more and more; all plans tried -/
def xFrm (sc s : xSC) : Prop := (∀ a b i, ¬ xScrC a i → s.1 a b i = sc.1 a b i) ∧ s.2 = sc.2
def xBst (nS nT : Nat) (snd : Nat → Bool) (mv : Nat → Nat) (sc : xSC) (r : Option (Int32 × xSC)) : Prop :=
  ∃ A k s', A ≤ 6 ∧ (∀ B, B < A → xFst snd mv B 0 (nS ^ nT) = none) ∧ xFst snd mv A 0 (nS ^ nT) = some k ∧ r = some (nI A, s') ∧ xFrm sc s' ∧ ∀ u, u < nT → s'.1 11 u 7 = nI (xDig nS nT k u)
theorem best_e {nS nT : Nat} {z l : Nat → Nat → Nat} {w v : Nat → Nat} {sc : xSC} (P : xPz nS nT z l w v sc) (snd : Nat → Bool) (mv : Nat → Nat)
    (HL : ∀ p : Nat → Nat, (∀ u, u < nT → p u < nS ∧ xOK z l w sc u p (p u)) → snd (xNum nS p nT) = true ∧ mv (xNum nS p nT) = xMvp v p nT)
    (HP : ∀ t (p : Nat → Nat) j, t < nT → j < nS → (∀ u, u < t → p u < nS) → ¬ xOK z l w sc t p j → ∀ r, r < nS ^ (nT - (t + 1)) → snd ((xNum nS p t * nS + j) * nS ^ (nT - (t + 1)) + r) = false)
    (HM : ∀ t (p : Nat → Nat) j, t < nT → j < nS → (∀ u, u < t → p u < nS) → ∀ r, r < nS ^ (nT - (t + 1)) → xMvp v (pU p t j) (t + 1) ≤ mv ((xNum nS p t * nS + j) * nS ^ (nT - (t + 1)) + r)) :
    xBst nS nT snd mv sc (fX2_findBest nS nT sc) ∨ ((∀ B, B < 7 → xFst snd mv B 0 (nS ^ nT) = none) ∧ ∃ s', fX2_findBest nS nT sc = some (7, s') ∧ xFrm sc s') := by
  have P' := P
  obtain ⟨h4, h6, hz, hl, hw, hv⟩ := P'
  have gt7 : ∀ i, i < 7 → ((6 : Int32) < nI i) = False := fun i hi => eq_false (nI_nlt (a := 6) (b := i) (by omega) (by omega))
  have F := xschS (fun f i s => fX2_findBest_L1 nS nT fX2_findBest_K1 f i s) (fun s => some (7, s)) (fun i s => xFrm sc s ∧ ∀ B, B < i → xFst snd mv B 0 (nS ^ nT) = none) (xBst nS nT snd mv sc) 7 7 (by omega)
    (fun i s hi hp => by
      obtain ⟨⟨c1, c2⟩, c3⟩ := hp
      obtain ⟨s1, a1, a2, a3⟩ := clear_e (nS := nS) (nT := nT) (z := z) (p := fun _ => 0) (sc := sc) (s := s) h4 c1 c2
      have F := find_e P snd mv HL HP HM nT 0 (7 - nT) (fun _ => 0) s1 i (by omega) (by omega) (by omega) a2 (fun u hu => by omega) (fun u hu => by omega)
      simp only [xNum, xMvp, Nat.zero_mul, Nat.sub_zero, Nat.add_zero] at F
      rw [nI_0, show 7 - nT + nT + 1 = 8 by omega] at F
      rcases F with ⟨k, k1, s2, k2, k3, k4, k5⟩ | ⟨k1, s2, k2, k3, k4⟩
      · refine .inl ⟨some (nI i, s2), ⟨i, k, s2, by omega, c3, k1, rfl, ⟨k3, k4⟩, k5⟩, fun n => ?_⟩
        show fX2_findBest_L1 nS nT fX2_findBest_K1 (n + 1) (nI i) s = some (nI i, s2)
        rw [fX2_findBest_L1]
        simp only [gt7 i hi, a1, k2, n10, if_false, oG_t, oB_s, oP_s, oT_r, oT_l, oC_r, oC_l, oN_s, oN_n]
      · refine .inr ⟨s2, ⟨⟨k3.1, k3.2.1⟩, fun B hB => ?_⟩, fun n => ?_⟩
        · by_cases e : B = i
          · subst e; exact k1
          · exact c3 B (by omega)
        · show fX2_findBest_L1 nS nT fX2_findBest_K1 (n + 1) (nI i) s = fX2_findBest_L1 nS nT fX2_findBest_K1 n (nI (i + 1)) s2
          rw [fX2_findBest_L1]
          simp only [gt7 i hi, a1, k2, nI_1, if_false, if_true, oG_t, oB_s, oP_s, oT_r, oT_l, oC_r, oC_l, oN_s, oN_n])
    (fun g i s h1 h2 => by omega)
    (fun g s hp' => by
      show fX2_findBest_L1 nS nT fX2_findBest_K1 (g + 1) (nI 7) s = some (7, s)
      rw [fX2_findBest_L1]
      simp only [show ((6 : Int32) < nI 7) = True from eq_true (by decide), if_true, fX2_findBest_K1])
    64 (by omega) sc ⟨⟨fun a b i _ => rfl, rfl⟩, fun B hB => by omega⟩
  have R : fX2_findBest nS nT sc = fX2_findBest_L1 nS nT fX2_findBest_K1 64 (nI 0) sc := by rw [nI_0, fX2_findBest]
  rw [R]
  rcases F with F | ⟨s', ⟨r1, r2⟩, E⟩
  · exact .inl F
  · exact .inr ⟨r2, s', E, r1⟩
theorem tryall_e {nS nT : Nat} {z l : Nat → Nat → Nat} {w v : Nat → Nat} {sc : xSC} (P : xPz nS nT z l w v sc) (snd : Nat → Bool) (mv : Nat → Nat)
    (HL : ∀ p : Nat → Nat, (∀ u, u < nT → p u < nS ∧ xOK z l w sc u p (p u)) → snd (xNum nS p nT) = true ∧ mv (xNum nS p nT) = xMvp v p nT)
    (HP : ∀ t (p : Nat → Nat) j, t < nT → j < nS → (∀ u, u < t → p u < nS) → ¬ xOK z l w sc t p j → ∀ r, r < nS ^ (nT - (t + 1)) → snd ((xNum nS p t * nS + j) * nS ^ (nT - (t + 1)) + r) = false) :
    ∃ s', fX2_tryAll nS nT sc = some ((), s') ∧ xFrm sc s' ∧ s'.1 3 0 0 = nI (xFd snd mv 0 (nS ^ nT) (0, 7, 0)).1 ∧ s'.1 3 0 1 = nI (xFd snd mv 0 (nS ^ nT) (0, 7, 0)).2.1 := by
  have P' := P
  obtain ⟨h4, h6, hz, hl, hw, hv⟩ := P'
  obtain ⟨s1, a1, a2, a3⟩ := clear_e (nS := nS) (nT := nT) (z := z) (p := fun _ => 0) (sc := sc) (s := (xuC (xuC sc.1 3 0 0 0) 3 0 1 7, sc.2)) h4 (fun a b i hn => by
    simp only [xScrC, not_or, not_and] at hn
    simp only [xuC]
    rw [if_neg (by omega), if_neg (by omega)]) rfl
  have b1 : s1.1 3 0 0 = nI 0 := by rw [a3 3 0 0 (by omega) (by omega), nI_0]; simp [xuC]
  have b2 : s1.1 3 0 1 = nI 7 := by rw [a3 3 0 1 (by omega) (by omega)]; simp only [xuC]; rw [if_pos ⟨trivial, trivial, trivial⟩]; decide
  obtain ⟨s2, d1, d2, d3, d4⟩ := try_e P snd mv HL HP nT 0 (7 - nT) (fun _ => 0) s1 0 7 0 (by omega) (by omega) a2 (fun u hu => by omega) (by omega) b1 b2
  simp only [xNum, xMvp, Nat.zero_mul, Nat.sub_zero] at d1 d3 d4
  rw [nI_0, show 7 - nT + nT + 1 = 8 by omega] at d1
  refine ⟨s2, ?_, ⟨d2.1, d2.2.1⟩, d3, d4⟩
  unfold fX2_tryAll
  exact oP_e a1 (oP_e d1 rfl)
