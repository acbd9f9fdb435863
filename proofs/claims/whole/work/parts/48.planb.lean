/-! plans: the program's trial -/
def xPz (nS nT : Nat) (z l : Nat → Nat → Nat) (w v : Nat → Nat) (sc : xSC) : Prop :=
  nS ≤ 4 ∧ nT ≤ 6 ∧ (∀ t m, t < nT → m < 3 → sc.1 8 t m = nI (z t m) ∧ z t m ≤ 999) ∧ (∀ j m, j < nS → m < 3 → sc.1 5 j m = nI (l j m) ∧ 1 ≤ l j m ∧ l j m ≤ 300) ∧ (∀ t, t < nT → sc.1 11 t 6 = nI (w t) ∧ w t < 64) ∧ ∀ t, t < nT → sc.1 11 t 3 = nI (v t) ∧ v t < nS
def xTr (nS t : Nat) (z : Nat → Nat → Nat) (p : Nat → Nat) (sc s : xSC) : Prop :=
  (∀ a b i, ¬ xScrC a i → s.1 a b i = sc.1 a b i) ∧ s.2 = sc.2 ∧ ∀ j, j < nS → s.1 4 j 4 = nI (pB p j t) ∧ ∀ m, m < 3 → s.1 7 j m = nI (pS (fun u => z u m) p j t)
def xOK (z l : Nat → Nat → Nat) (w : Nat → Nat) (sc : xSC) (t : Nat) (p : Nat → Nat) (j : Nat) : Prop :=
  sc.1 4 j 2 ≠ 0 ∧ pB p j t &&& w t = 0 ∧ ∀ m, m < 3 → pS (fun u => z u m) p j t + z t m ≤ l j m
theorem takes_e {nS nT t j : Nat} {z l : Nat → Nat → Nat} {w v p : Nat → Nat} {sc s : xSC} (P : xPz nS nT z l w v sc) (h : xTr nS t z p sc s) (ht : t < nT) (hj : j < nS) : (xOK z l w sc t p j ∧ fX3_takesInTrial nS nT j t s = some 1) ∨ (¬ xOK z l w sc t p j ∧ fX3_takesInTrial nS nT j t s = some 0) := by
  obtain ⟨h4, h6, hz, hl, hw, hv⟩ := P
  obtain ⟨f1, f2, f3⟩ := h
  have e1 : s.1 4 j 2 = sc.1 4 j 2 := f1 _ _ _ (by simp [xScrC])
  have e2 : s.1 11 t 6 = nI (w t) := by rw [f1 11 t 6 (by simp [xScrC]), (hw t ht).1]
  have e3 := (f3 j hj).1
  have e5 : ∀ m, m < 3 → s.1 5 j m = nI (l j m) := fun m hm => by rw [f1 5 j m (by simp [xScrC]), (hl j m hj hm).1]
  have e8 : ∀ m, m < 3 → s.1 8 t m = nI (z t m) := fun m hm => by rw [f1 8 t m (by simp [xScrC]), (hz t m ht hm).1]
  have e7 := (f3 j hj).2
  have b1 : ∀ m, m < 3 → pS (fun u => z u m) p j t ≤ 999 * t := fun m hm => pS_le (fun u hu => (hz u m (by omega) hm).2)
  have c : ∀ m, m < 3 → ((s.1 5 j m < s.1 7 j m + s.1 8 t m) ↔ ¬ pS (fun u => z u m) p j t + z t m ≤ l j m) := fun m hm => by
    have q1 := b1 m hm
    have q2 := (hz t m ht hm).2
    have q3 := (hl j m hj hm).2.2
    have q4 : 999 * t ≤ 5994 := by omega
    rw [e5 m hm, e7 m hm, e8 m hm, nI_add, nI_ltI (by omega) (by omega)]
    omega
  have cb := bit_and (pB p j t) (pB_lt (by omega)) (w t) (hw t ht).2
  unfold fX3_takesInTrial
  rw [e1, e2, e3]
  by_cases g1 : sc.1 4 j 2 = 0
  · exact .inr ⟨fun q => q.1 g1, if_pos g1⟩
  · rw [if_neg g1]
    by_cases g2 : pB p j t &&& w t = 0
    · rw [if_pos (cb.mpr g2)]
      by_cases g3 : s.1 5 j 0 < s.1 7 j 0 + s.1 8 t 0
      · exact .inr ⟨fun q => (c 0 (by omega)).mp g3 (q.2.2 0 (by omega)), if_pos g3⟩
      · rw [if_neg g3]
        by_cases g4 : s.1 5 j 1 < s.1 7 j 1 + s.1 8 t 1
        · exact .inr ⟨fun q => (c 1 (by omega)).mp g4 (q.2.2 1 (by omega)), if_pos g4⟩
        · rw [if_neg g4]
          by_cases g5 : s.1 5 j 2 < s.1 7 j 2 + s.1 8 t 2
          · exact .inr ⟨fun q => (c 2 (by omega)).mp g5 (q.2.2 2 (by omega)), if_pos g5⟩
          · rw [if_neg g5]
            refine .inl ⟨⟨g1, g2, fun m hm => ?_⟩, rfl⟩
            rcases (show m = 0 ∨ m = 1 ∨ m = 2 by omega) with rfl | rfl | rfl
            · exact Classical.byContradiction fun q => g3 ((c 0 (by omega)).mpr q)
            · exact Classical.byContradiction fun q => g4 ((c 1 (by omega)).mpr q)
            · exact Classical.byContradiction fun q => g5 ((c 2 (by omega)).mpr q)
    · exact .inr ⟨fun q => g2 q.2.1, if_neg (fun q => g2 (cb.mp q))⟩
