/-! finding the first plan with few moves from a prefix on -/
/-- what a found plan leaves -/
def xFnd (nS nT k : Nat) (sc : xSC) (r : Option (Int32 × xSC)) : Prop := ∃ s', r = some (1, s') ∧ (∀ a b i, ¬ xScrC a i → s'.1 a b i = sc.1 a b i) ∧ s'.2 = sc.2 ∧ ∀ u, u < nT → s'.1 11 u 7 = nI (xDig nS nT k u)
theorem find_e {nS nT : Nat} {z l : Nat → Nat → Nat} {w v : Nat → Nat} {sc : xSC} (P : xPz nS nT z l w v sc) (snd : Nat → Bool) (mv : Nat → Nat)
    (HL : ∀ p : Nat → Nat, (∀ u, u < nT → p u < nS ∧ xOK z l w sc u p (p u)) → snd (xNum nS p nT) = true ∧ mv (xNum nS p nT) = xMvp v p nT)
    (HP : ∀ t (p : Nat → Nat) j, t < nT → j < nS → (∀ u, u < t → p u < nS) → ¬ xOK z l w sc t p j → ∀ r, r < nS ^ (nT - (t + 1)) → snd ((xNum nS p t * nS + j) * nS ^ (nT - (t + 1)) + r) = false)
    (HM : ∀ t (p : Nat → Nat) j, t < nT → j < nS → (∀ u, u < t → p u < nS) → ∀ r, r < nS ^ (nT - (t + 1)) → xMvp v (pU p t j) (t + 1) ≤ mv ((xNum nS p t * nS + j) * nS ^ (nT - (t + 1)) + r)) (d : Nat) :
    ∀ t f p s a, nT - t = d → t ≤ nT → a ≤ 100 → xTr nS t z p sc s → (∀ u, u < t → p u < nS ∧ xOK z l w sc u p (p u)) → (∀ u, u < t → s.1 11 u 7 = nI (p u)) →
    (∃ k, xFst snd mv (a + xMvp v p t) (xNum nS p t * nS ^ (nT - t)) (nS ^ (nT - t)) = some k ∧ xFnd nS nT k sc (fX2_findFrom (f + d + 1) nS nT (nI t) (nI a) s)) ∨
    (xFst snd mv (a + xMvp v p t) (xNum nS p t * nS ^ (nT - t)) (nS ^ (nT - t)) = none ∧ ∃ s', fX2_findFrom (f + d + 1) nS nT (nI t) (nI a) s = some (0, s') ∧ xTr nS t z p sc s' ∧ ∀ u, u < t → s'.1 11 u 7 = nI (p u)) := by
  have P' := P
  obtain ⟨h4, h6, hz, hl, hw, hv⟩ := P'
  induction d with
  | zero =>
    intro t f p s a e ht ha hT hp hq
    obtain rfl : t = nT := by omega
    obtain ⟨g1, g2⟩ := HL p hp
    refine .inl ⟨xNum nS p t, ?_, s, ?_, hT.1, hT.2.1, fun u hu => ?_⟩
    · rw [Nat.sub_self, Nat.pow_zero, Nat.mul_one]
      simp only [xFst, Nat.add_zero]
      rw [if_pos ⟨g1, by rw [g2]; omega⟩]
    · rw [fX2_findFrom, ton_n h6, oB_s, oN_n]
    · rw [hq u hu]
      have hS : 0 < nS := by have := (hp u hu).1; omega
      have q := xDig_n (S := nS) (N := t) (p := p) (t := t) (u := u) (r := 0) hS (fun u hu => (hp u hu).1) hu (by omega) (by rw [Nat.sub_self]; simp)
      rw [Nat.sub_self, Nat.pow_zero, Nat.mul_one, Nat.add_zero] at q
      rw [q]
  | succ d ih =>
    intro t f p s a e ht ha hT hp hq
    sorry
