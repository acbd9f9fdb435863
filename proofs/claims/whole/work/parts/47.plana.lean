/-! plans: what a prefix puts where -/
def pU (p : Nat → Nat) (t j : Nat) : Nat → Nat := fun u => if u = t then j else p u
def pB (p : Nat → Nat) (j : Nat) : Nat → Nat
  | 0 => 0
  | t + 1 => if p t = j then pB p j t ||| (1 <<< t) else pB p j t
def pS (z : Nat → Nat) (p : Nat → Nat) (j : Nat) : Nat → Nat
  | 0 => 0
  | t + 1 => if p t = j then pS z p j t + z t else pS z p j t
theorem pB_c {p q : Nat → Nat} {j t : Nat} (h : ∀ u, u < t → p u = q u) : pB p j t = pB q j t := by
  induction t with
  | zero => rfl
  | succ t ih =>
    simp only [pB]
    rw [ih (fun u hu => h u (by omega)), h t (by omega)]
theorem pS_c {z p q : Nat → Nat} {j t : Nat} (h : ∀ u, u < t → p u = q u) : pS z p j t = pS z q j t := by
  induction t with
  | zero => rfl
  | succ t ih =>
    simp only [pS]
    rw [ih (fun u hu => h u (by omega)), h t (by omega)]
theorem pU_o {p : Nat → Nat} {t j u : Nat} (h : u < t) : pU p t j u = p u := by
  unfold pU
  rw [if_neg (by omega)]
theorem pU_s {p : Nat → Nat} {t j : Nat} : pU p t j t = j := by simp [pU]
theorem pB_lt {p : Nat → Nat} {j t : Nat} (ht : t ≤ 6) : pB p j t < 64 := by
  induction t with
  | zero => simp [pB]
  | succ t ih =>
    simp only [pB]
    split
    · exact or_lt (ih (by omega)) (by omega)
    · exact ih (by omega)
theorem pB_bit {p : Nat → Nat} {j t u : Nat} : (pB p j t).testBit u = true ↔ (u < t ∧ p u = j) := by
  induction t with
  | zero => simp [pB]
  | succ t ih =>
    simp only [pB]
    split
    · rename_i g
      rw [or_bit, ih]
      constructor
      · rintro (⟨a, b⟩ | a)
        · exact ⟨by omega, b⟩
        · subst a; exact ⟨by omega, g⟩
      · rintro ⟨a, b⟩
        by_cases e : u = t
        · exact .inr e.symm
        · exact .inl ⟨by omega, b⟩
    · rename_i g
      rw [ih]
      constructor
      · rintro ⟨a, b⟩
        exact ⟨by omega, b⟩
      · rintro ⟨a, b⟩
        refine ⟨?_, b⟩
        rcases Nat.lt_or_ge u t with h | h
        · exact h
        · obtain rfl : u = t := by omega
          exact absurd b g
theorem pS_le {z p : Nat → Nat} {j t c : Nat} (h : ∀ u, u < t → z u ≤ c) : pS z p j t ≤ c * t := by
  induction t with
  | zero => simp [pS]
  | succ t ih =>
    have i1 := ih (fun u hu => h u (by omega))
    have i2 := h t (by omega)
    simp only [pS, Nat.mul_succ]
    split <;> omega
theorem pS_mono {z p : Nat → Nat} {j a b : Nat} (h : a ≤ b) : pS z p j a ≤ pS z p j b := by
  induction b with
  | zero =>
    obtain rfl : a = 0 := by omega
    exact Nat.le_refl _
  | succ b ih =>
    by_cases e : a = b + 1
    · subst e; exact Nat.le_refl _
    · have := ih (by omega)
      simp only [pS]
      split <;> omega
theorem bit_put : ∀ w, w < 64 → ∀ o, o < 6 → (nI w ||| (1 <<< (nI o &&& 31))) = nI (w ||| (1 <<< o)) := bit_o
theorem bit_take : ∀ w, w < 64 → ∀ o, o < 6 → w.testBit o = false → (nI (w ||| (1 <<< o)) &&& ((1 <<< (nI o &&& 31)) ^^^ (-1))) = nI w := by
  decide +kernel
theorem bit_and : ∀ w, w < 64 → ∀ v, v < 64 → ((nI w &&& nI v = 0) ↔ w &&& v = 0) := by
  decide +kernel
