/-! the first sound plan with few moves -/
def xFst (snd : Nat → Bool) (mv : Nat → Nat) (A lo : Nat) : Nat → Option Nat
  | 0 => none
  | n + 1 => match xFst snd mv A lo n with
    | some k => some k
    | none => if snd (lo + n) = true ∧ mv (lo + n) ≤ A then some (lo + n) else none
theorem xFst_add {snd : Nat → Bool} {mv : Nat → Nat} {A lo a b : Nat} : xFst snd mv A lo (a + b) = match xFst snd mv A lo a with
    | some k => some k
    | none => xFst snd mv A (lo + a) b := by
  induction b with
  | zero => cases h : xFst snd mv A lo a <;> simp [h, xFst]
  | succ b ih =>
    rw [show a + (b + 1) = (a + b) + 1 by omega]
    simp only [xFst]
    rw [ih, show lo + (a + b) = lo + a + b by omega]
    cases h : xFst snd mv A lo a <;> simp
theorem xFst_no {snd : Nat → Bool} {mv : Nat → Nat} {A lo n : Nat} (h : ∀ i, i < n → ¬ (snd (lo + i) = true ∧ mv (lo + i) ≤ A)) : xFst snd mv A lo n = none := by
  induction n with
  | zero => rfl
  | succ n ih =>
    simp only [xFst]
    rw [ih (fun i hi => h i (by omega))]
    exact if_neg (h n (by omega))
