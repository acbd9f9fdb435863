/-! the first sound plan with few moves -/
def xFst (snd : Nat → Bool) (mv : Nat → Nat) (A lo : Nat) : Nat → Option Nat
  | 0 => none
  | n + 1 => match xFst snd mv A lo n with
    | some k => some k
    | none => if snd (lo + n) = true ∧ mv (lo + n) ≤ A then some (lo + n) else none
theorem xFst_add {snd : Nat → Bool} {mv : Nat → Nat} {A lo a b : Nat} : xFst snd mv A lo (a + b) = match xFst snd mv A lo a with
    | some k => some k
    | none => xFst snd mv A (lo + a) b := by
  induction b with
  | zero => cases h : xFst snd mv A lo a <;> simp [h, xFst]
  | succ b ih =>
    rw [show a + (b + 1) = (a + b) + 1 by omega]
    simp only [xFst]
    rw [ih, show lo + (a + b) = lo + a + b by omega]
    cases h : xFst snd mv A lo a <;> simp
theorem xFst_no {snd : Nat → Bool} {mv : Nat → Nat} {A lo n : Nat} (h : ∀ i, i < n → ¬ (snd (lo + i) = true ∧ mv (lo + i) ≤ A)) : xFst snd mv A lo n = none := by
  induction n with
  | zero => rfl
  | succ n ih =>
    simp only [xFst]
    rw [ih (fun i hi => h i (by omega))]
    exact if_neg (h n (by omega))
/-- a search over a state: each turn ends it or goes on with what holds behind -/
theorem xschS {α β : Type} (L : Nat → Int32 → α → Option β) (K : α → Option β) (P : Nat → α → Prop) (D : Option β → Prop) (N M : Nat) (hNM : N ≤ M)
    (h1 : ∀ i s, i < N → P i s → (∃ r, D r ∧ ∀ n, L (n + 1) (nI i) s = r) ∨ ∃ s', P (i + 1) s' ∧ ∀ n, L (n + 1) (nI i) s = L n (nI (i + 1)) s')
    (h2 : ∀ n i s, N ≤ i → i < M → L (n + 1) (nI i) s = L n (nI (i + 1)) s)
    (h3 : ∀ n s, P N s → L (n + 1) (nI M) s = K s)
    (f : Nat) (hf : M < f) (s : α) (h0 : P 0 s) : D (L f (nI 0) s) ∨ ∃ s', P N s' ∧ L f (nI 0) s = K s' := by
  have B : ∀ d i f s, M - i = d → N ≤ i → i ≤ M → M < f + i → P N s → L f (nI i) s = K s := by
    intro d
    induction d with
    | zero =>
      intro i f s e hi hi' hf hp
      obtain rfl : i = M := by omega
      obtain ⟨g, rfl⟩ : ∃ g, f = g + 1 := ⟨f - 1, by omega⟩
      exact h3 g s hp
    | succ d ih =>
      intro i f s e hi hi' hf hp
      obtain ⟨g, rfl⟩ : ∃ g, f = g + 1 := ⟨f - 1, by omega⟩
      rw [h2 g i s hi (by omega)]
      exact ih (i + 1) g s (by omega) (by omega) (by omega) (by omega) hp
  have A : ∀ d i f s, N - i = d → i ≤ N → M < f + i → P i s → D (L f (nI i) s) ∨ ∃ s', P N s' ∧ L f (nI i) s = K s' := by
    intro d
    induction d with
    | zero =>
      intro i f s e hi hf hp
      obtain rfl : i = N := by omega
      exact .inr ⟨s, hp, B (M - i) i f s rfl (by omega) hNM hf hp⟩
    | succ d ih =>
      intro i f s e hi hf hp
      obtain ⟨g, rfl⟩ : ∃ g, f = g + 1 := ⟨f - 1, by omega⟩
      rcases h1 i s (by omega) hp with ⟨r, hr, e1⟩ | ⟨s', hp', e1⟩
      · rw [e1 g]; exact .inl hr
      · rw [e1 g]; exact ih (i + 1) g s' (by omega) (by omega) (by omega) hp'
  exact A N 0 f s (by omega) (by omega) (by omega) h0
