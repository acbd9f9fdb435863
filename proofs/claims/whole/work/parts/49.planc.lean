/-! plans: laying a tenant and taking it up again -/
theorem put_t {nS nT t j : Nat} {z l : Nat → Nat → Nat} {w v p : Nat → Nat} {sc s : xSC} (P : xPz nS nT z l w v sc) (h : xTr nS t z p sc s) (ht : t < nT) (hj : j < nS) : ∃ s', fX3_putInTrial nS nT j (nI t) t s = some ((), s') ∧ xTr nS (t + 1) z (pU p t j) sc s' ∧ ∀ a b i, a ≠ 4 → a ≠ 7 → s'.1 a b i = s.1 a b i := by
  obtain ⟨h4, h6, hz, hl, hw, hv⟩ := P
  obtain ⟨f1, f2, f3⟩ := h
  have e8 : ∀ m, m < 3 → s.1 8 t m = nI (z t m) := fun m hm => by rw [f1 8 t m (by simp [xScrC]), (hz t m ht hm).1]
  have e3 := (f3 j hj).1
  have e7 := (f3 j hj).2
  unfold fX3_putInTrial fX0_add
  simp only [oP_s]
  refine ⟨_, rfl, ⟨fun a b i hn => ?_, f2, fun i hi => ⟨?_, fun m hm => ?_⟩⟩, fun a b i h1 h2 => ?_⟩
  · rw [← f1 a b i hn]
    simp only [xScrC, not_or, not_and] at hn
    simp only [xuC]
    rw [if_neg (by omega), if_neg (by omega), if_neg (by omega), if_neg (by omega)]
  · simp only [pB, pU_s, pB_c (p := pU p t j) (q := p) (fun u hu => pU_o hu)]
    by_cases e : i = j
    · subst e
      rw [if_pos rfl, ← bit_o (pB p i t) (pB_lt (by omega)) t (by omega), ← e3]
      simp [xuC]
    · rw [if_neg (fun x => e x.symm), ← (f3 i hi).1]
      simp [xuC, e]
  · simp only [pS, pU_s, pS_c (p := pU p t j) (q := p) (fun u hu => pU_o hu)]
    by_cases e : i = j
    · subst e
      rw [if_pos rfl, ← nI_add, ← e7 m hm, ← e8 m hm]
      rcases (show m = 0 ∨ m = 1 ∨ m = 2 by omega) with rfl | rfl | rfl <;> simp [xuC]
    · rw [if_neg (fun x => e x.symm), ← (f3 i hi).2 m hm]
      simp [xuC, e]
  · simp only [xuC]
    rw [if_neg (by omega), if_neg (by omega), if_neg (by omega), if_neg (by omega)]
theorem take_t {nS nT t j : Nat} {z l : Nat → Nat → Nat} {w v p : Nat → Nat} {sc s : xSC} (P : xPz nS nT z l w v sc) (h : xTr nS (t + 1) z (pU p t j) sc s) (ht : t < nT) (hj : j < nS) : ∃ s', fX3_takeFromTrial nS nT j (nI t) t s = some ((), s') ∧ xTr nS t z p sc s' ∧ ∀ a b i, a ≠ 4 → a ≠ 7 → s'.1 a b i = s.1 a b i := by
  obtain ⟨h4, h6, hz, hl, hw, hv⟩ := P
  obtain ⟨f1, f2, f3⟩ := h
  have e8 : ∀ m, m < 3 → s.1 8 t m = nI (z t m) := fun m hm => by rw [f1 8 t m (by simp [xScrC]), (hz t m ht hm).1]
  have e3 := (f3 j hj).1
  have e7 := (f3 j hj).2
  simp only [pB, pU_s, if_true, pB_c (p := pU p t j) (q := p) (fun u hu => pU_o hu)] at e3
  simp only [pS, pU_s, if_true, pS_c (p := pU p t j) (q := p) (fun u hu => pU_o hu)] at e7
  have hb : (pB p j t).testBit t = false := by
    cases hq : (pB p j t).testBit t with
    | false => rfl
    | true => exact absurd (pB_bit.mp hq).1 (by omega)
  unfold fX3_takeFromTrial fX0_subtract
  simp only [oP_s]
  refine ⟨_, rfl, ⟨fun a b i hn => ?_, f2, fun i hi => ⟨?_, fun m hm => ?_⟩⟩, fun a b i h1 h2 => ?_⟩
  · rw [← f1 a b i hn]
    simp only [xScrC, not_or, not_and] at hn
    simp only [xuC]
    rw [if_neg (by omega), if_neg (by omega), if_neg (by omega), if_neg (by omega)]
  · by_cases e : i = j
    · subst e
      rw [← bit_take (pB p i t) (pB_lt (by omega)) t (by omega) hb, ← e3]
      simp [xuC]
    · have g := (f3 i hi).1
      simp only [pB, pU_s, pB_c (p := pU p t j) (q := p) (fun u hu => pU_o hu)] at g
      rw [if_neg (fun x => e x.symm)] at g
      rw [← g]
      simp [xuC, e]
  · by_cases e : i = j
    · subst e
      have q : nI (pS (fun u => z u m) p i t) = s.1 7 i m - s.1 8 t m := by
        rw [e7 m hm, e8 m hm, pk_sub (by omega), Nat.add_sub_cancel]
      rw [q]
      rcases (show m = 0 ∨ m = 1 ∨ m = 2 by omega) with rfl | rfl | rfl <;> simp [xuC]
    · have g := (f3 i hi).2 m hm
      simp only [pS, pU_s, pS_c (p := pU p t j) (q := p) (fun u hu => pU_o hu)] at g
      rw [if_neg (fun x => e x.symm)] at g
      rw [← g]
      simp [xuC, e]
  · simp only [xuC]
    rw [if_neg (by omega), if_neg (by omega), if_neg (by omega), if_neg (by omega)]
