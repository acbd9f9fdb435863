/-! plans by their numbers -/
def xFd (snd : Nat → Bool) (mv : Nat → Nat) (lo : Nat) : Nat → Nat × Nat × Nat → Nat × Nat × Nat
  | 0, s => s
  | n + 1, s => if snd (lo + n) = true then ((xFd snd mv lo n s).1 + 1, if mv (lo + n) < (xFd snd mv lo n s).2.1 then mv (lo + n) else (xFd snd mv lo n s).2.1, if mv (lo + n) < (xFd snd mv lo n s).2.1 then lo + n else (xFd snd mv lo n s).2.2) else xFd snd mv lo n s
theorem xFd_add {snd : Nat → Bool} {mv : Nat → Nat} {lo a b : Nat} {s : Nat × Nat × Nat} : xFd snd mv lo (a + b) s = xFd snd mv (lo + a) b (xFd snd mv lo a s) := by
  induction b with
  | zero => rfl
  | succ b ih =>
    rw [show a + (b + 1) = (a + b) + 1 by omega]
    simp only [xFd]
    rw [ih, show lo + (a + b) = lo + a + b by omega]
theorem xFd_no {snd : Nat → Bool} {mv : Nat → Nat} {lo n : Nat} {s : Nat × Nat × Nat} (h : ∀ i, i < n → snd (lo + i) = false) : xFd snd mv lo n s = s := by
  induction n with
  | zero => rfl
  | succ n ih =>
    simp only [xFd]
    rw [if_neg (by rw [h n (by omega)]; simp), ih (fun i hi => h i (by omega))]
def xNum (S : Nat) (p : Nat → Nat) : Nat → Nat
  | 0 => 0
  | t + 1 => xNum S p t * S + p t
def xDig (S N k u : Nat) : Nat := k / S ^ (N - 1 - u) % S
theorem xNum_c {S : Nat} {p q : Nat → Nat} {t : Nat} (h : ∀ u, u < t → p u = q u) : xNum S p t = xNum S q t := by
  induction t with
  | zero => rfl
  | succ t ih =>
    simp only [xNum]
    rw [ih (fun u hu => h u (by omega)), h t (by omega)]
theorem xNum_d {S : Nat} {p : Nat → Nat} {t u : Nat} (hS : 0 < S) (hp : ∀ u, u < t → p u < S) (hu : u < t) : xNum S p t / S ^ (t - 1 - u) % S = p u := by
  induction t with
  | zero => omega
  | succ t ih =>
    have h1 := hp t (by omega)
    by_cases e : u = t
    · subst e
      rw [show u + 1 - 1 - u = 0 by omega, Nat.pow_zero, Nat.div_one]
      simp only [xNum]
      rw [Nat.mul_comm, Nat.mul_add_mod, Nat.mod_eq_of_lt h1]
    · have i1 := ih (fun u hu => hp u (by omega)) (by omega)
      rw [show t + 1 - 1 - u = (t - 1 - u) + 1 by omega, Nat.pow_succ, Nat.mul_comm (S ^ (t - 1 - u)) S, ← Nat.div_div_eq_div_mul]
      simp only [xNum]
      rw [Nat.mul_comm (xNum S p t) S, Nat.mul_add_div hS, Nat.div_eq_of_lt h1, Nat.add_zero]
      exact i1
theorem xDig_n {S N : Nat} {p : Nat → Nat} {t u r : Nat} (hS : 0 < S) (hp : ∀ u, u < t → p u < S) (hu : u < t) (ht : t ≤ N) (hr : r < S ^ (N - t)) : xDig S N (xNum S p t * S ^ (N - t) + r) u = p u := by
  unfold xDig
  rw [show N - 1 - u = (N - t) + (t - 1 - u) by omega, Nat.pow_add, ← Nat.div_div_eq_div_mul, Nat.mul_comm (xNum S p t), Nat.mul_add_div (Nat.pow_pos hS), Nat.div_eq_of_lt hr, Nat.add_zero]
  exact xNum_d hS hp hu
