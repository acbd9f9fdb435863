/-! trying all plans from a prefix on -/
def xMvp (v p : Nat → Nat) : Nat → Nat
  | 0 => 0
  | t + 1 => xMvp v p t + (if p t = v t then 0 else 1)
theorem xMvp_c {v p q : Nat → Nat} {t : Nat} (h : ∀ u, u < t → p u = q u) : xMvp v p t = xMvp v q t := by
  induction t with
  | zero => rfl
  | succ t ih =>
    simp only [xMvp]
    rw [ih (fun u hu => h u (by omega)), h t (by omega)]
theorem xMvp_le {v p : Nat → Nat} {t : Nat} : xMvp v p t ≤ t := by
  induction t with
  | zero => simp [xMvp]
  | succ t ih =>
    simp only [xMvp]
    split <;> omega
theorem xOK_c {z l : Nat → Nat → Nat} {w p q : Nat → Nat} {sc : xSC} {t j : Nat} (h : ∀ u, u < t → p u = q u) : xOK z l w sc t p j ↔ xOK z l w sc t q j := by
  unfold xOK
  rw [pB_c h]
  simp only [pS_c (z := fun u => z u _) h]
theorem ton_y {nS nT t : Nat} {sc : xSC} (h6 : nT ≤ 6) (h : t < nT) : fX2_tenantOrNull nS nT (nI t) sc = some (some t) := by
  unfold fX2_tenantOrNull
  rw [if_neg (nI_pos (by omega)), if_pos (show nI t < 6 from nI_lt (b := 6) (by omega) (by omega)), xin_n (by omega) (by omega), xel_n h (by omega), oG_t, oN_s]
theorem ton_n {nS nT : Nat} {sc : xSC} (h6 : nT ≤ 6) : fX2_tenantOrNull nS nT (nI nT) sc = some none := by
  unfold fX2_tenantOrNull
  rw [if_neg (nI_pos (by omega))]
  by_cases g : nT = 6
  · rw [g]
    exact if_neg (by decide)
  · rw [if_pos (show nI nT < 6 from nI_lt (b := 6) (by omega) (by omega)), xin_n (by omega) (by omega), xel_o (by omega) (by omega), oG_t, oN_n]
theorem note_e {nS nT m n b : Nat} {s : xSC} (h1 : s.1 3 0 0 = nI n) (h2 : s.1 3 0 1 = nI b) (hm : m < 100) (hb : b < 100) : ∃ s', fX2_noteSound nS nT (nI m) s = some ((), s') ∧ s'.1 3 0 0 = nI (n + 1) ∧ s'.1 3 0 1 = nI (if m < b then m else b) ∧ (∀ a b i, a ≠ 3 → s'.1 a b i = s.1 a b i) ∧ s'.2 = s.2 := by
  unfold fX2_noteSound
  have e1 : (xuC s.1 3 0 0 (s.1 3 0 0 + 1)) 3 0 1 = nI b := by simp [xuC, h2]
  simp only [e1]
  refine ⟨_, rfl, ?_, ?_, fun a b i h => ?_, rfl⟩
  · simp [xuC, h1, nI_1]
  · by_cases g : m < b
    · rw [if_pos g, if_pos (nI_lt g (by omega))]
      simp [xuC]
    · rw [if_neg g, if_neg (by rw [nI_ltI (by omega) (by omega)]; exact g)]
      simp [xuC]
  · simp [xuC, h]
