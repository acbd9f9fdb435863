/-! trying all plans from a prefix on: the search -/
theorem xFd_7 {snd : Nat → Bool} {mv : Nat → Nat} {lo n : Nat} {s : Nat × Nat × Nat} (h : s.2.1 ≤ 7) : (xFd snd mv lo n s).2.1 ≤ 7 := by
  induction n with
  | zero => exact h
  | succ n ih =>
    simp only [xFd]
    split
    · show (if mv (lo + n) < (xFd snd mv lo n s).2.1 then mv (lo + n) else (xFd snd mv lo n s).2.1) ≤ 7
      split <;> omega
    · exact ih
theorem try_e {nS nT : Nat} {z l : Nat → Nat → Nat} {w v : Nat → Nat} {sc : xSC} (P : xPz nS nT z l w v sc) (snd : Nat → Bool) (mv : Nat → Nat)
    (HL : ∀ p : Nat → Nat, (∀ u, u < nT → p u < nS ∧ xOK z l w sc u p (p u)) → snd (xNum nS p nT) = true ∧ mv (xNum nS p nT) = xMvp v p nT)
    (HP : ∀ t (p : Nat → Nat) j, t < nT → j < nS → (∀ u, u < t → p u < nS) → ¬ xOK z l w sc t p j → ∀ r, r < nS ^ (nT - (t + 1)) → snd ((xNum nS p t * nS + j) * nS ^ (nT - (t + 1)) + r) = false) (d : Nat) :
    ∀ t f p s n b kb, nT - t = d → t ≤ nT → xTr nS t z p sc s → (∀ u, u < t → p u < nS ∧ xOK z l w sc u p (p u)) → b ≤ 7 → s.1 3 0 0 = nI n → s.1 3 0 1 = nI b →
    ∃ s', fX2_tryFrom (f + d + 1) nS nT (nI t) (nI (xMvp v p t)) s = some ((), s') ∧ xTr nS t z p sc s' ∧ s'.1 3 0 0 = nI (xFd snd mv (xNum nS p t * nS ^ (nT - t)) (nS ^ (nT - t)) (n, b, kb)).1 ∧ s'.1 3 0 1 = nI (xFd snd mv (xNum nS p t * nS ^ (nT - t)) (nS ^ (nT - t)) (n, b, kb)).2.1 := by
  have P' := P
  obtain ⟨h4, h6, hz, hl, hw, hv⟩ := P'
  induction d with
  | zero =>
    intro t f p s n b kb e ht hT hp hb q1 q2
    obtain rfl : t = nT := by omega
    have m := xMvp_le (v := v) (p := p) (t := t)
    obtain ⟨s', a1, a2, a3, a4, a5⟩ := note_e (nS := nS) (nT := t) q1 q2 (show xMvp v p t < 100 by omega) (by omega)
    obtain ⟨g1, g2⟩ := HL p hp
    refine ⟨s', ?_, ⟨fun a b i hn => ?_, a5.trans hT.2.1, fun j hj => ?_⟩, ?_, ?_⟩
    · rw [fX2_tryFrom, ton_n h6, oB_s, oN_n, a1, oP_s]
    · rw [a4 a b i (fun x => hn (.inl x))]
      exact hT.1 a b i hn
    · refine ⟨?_, fun m hm => ?_⟩
      · rw [a4 4 j 4 (by omega)]
        exact (hT.2.2 j hj).1
      · rw [a4 7 j m (by omega)]
        exact (hT.2.2 j hj).2 m hm
    · rw [Nat.sub_self, Nat.pow_zero, Nat.mul_one]
      simp only [xFd, Nat.add_zero, g1, if_true]
      exact a2
    · rw [Nat.sub_self, Nat.pow_zero, Nat.mul_one]
      simp only [xFd, Nat.add_zero, g1, g2, if_true]
      exact a3
  | succ d ih =>
    intro t f p s n b kb e ht hT hp hb q1 q2
    sorry
