/-! what shards use -/
theorem pres_e {nS nT t : Nat} {a : Int32} {sc : xSC} : fX4_isPresentOn nS nT t a sc = some (if sc.1 11 t 3 = a ∨ ((sc.1 9 t 0 = 99 ∨ sc.1 9 t 0 = 102) ∧ sc.1 9 t 2 = a) then 1 else 0) := by
  unfold fX4_isPresentOn fX1_isBeforeCutting
  by_cases h1 : sc.1 11 t 3 = a
  · simp [h1]
  · by_cases h2 : sc.1 9 t 0 = 99
    · by_cases h3 : sc.1 9 t 2 = a <;> simp [h1, h2, h3, oG_t, oB_s, oP_s, oT_r, oT_l, oC_r, oC_l, oN_s, oN_n]
    · by_cases h2' : sc.1 9 t 0 = 102
      · by_cases h3 : sc.1 9 t 2 = a <;> simp [h1, h2', h3, oG_t, oB_s, oP_s, oT_r, oT_l, oC_r, oC_l, oN_s, oN_n]
      · simp [h1, h2, h2', oG_t, oB_s, oP_s, oT_r, oT_l, oC_r, oC_l, oN_s, oN_n]
theorem useOn_e {nS nT t j m : Nat} {a2 : Int32} {sc : xSC} (e : a2 = nI m) (hm : m < 3) : fX4_useOn nS nT t (nI j) a2 sc = some (xUse sc t j m) := by
  subst e
  unfold fX4_useOn xUse
  simp only [pres_e, oG_t, oB_s, oP_s, oT_r, oT_l, oC_r, oC_l, oN_s, oN_n]
  by_cases h1 : sc.1 11 t 3 = nI j ∨ ((sc.1 9 t 0 = 99 ∨ sc.1 9 t 0 = 102) ∧ sc.1 9 t 2 = nI j)
  · rw [if_pos h1, if_neg (by decide), of_e hm, if_pos (by rcases h1 with h | h; exact .inl h; exact .inr (.inl h))]
    rfl
  · rw [if_neg h1, if_pos rfl]
    simp only [not_or] at h1
    by_cases h2 : m = 0
    · subst h2
      rw [if_pos (show nI 0 = 0 from rfl)]
      simp only [fX1_isCleaning]
      by_cases h3 : sc.1 9 t 0 = 100
      · by_cases h4 : sc.1 9 t 1 = nI j
        · simp only [if_pos h3, if_pos h4, oB_s]
          rw [if_neg (by decide), of_e hm, if_pos (.inr (.inr ⟨trivial, h3, h4⟩))]
          rfl
        · simp only [if_pos h3, if_neg h4, oB_s]
          rw [if_pos trivial, if_neg]
          rintro (h | h | h)
          · exact h1.1 h
          · exact h1.2 h
          · exact h4 h.2.2
      · simp only [if_neg h3, oB_s]
        rw [if_pos trivial, if_neg]
        rintro (h | h | h)
        · exact h1.1 h
        · exact h1.2 h
        · exact h3 h.2.1
    · have h3 : ¬ nI m = 0 := nI_ne0 (by omega) (by omega)
      rw [if_neg h3, if_neg]
      rintro (h | h | h)
      · exact h1.1 h
      · exact h1.2 h
      · exact h2 h.1
/-- a tenant counted in or out -/
def xCUi (i t : Nat) (g : Int32) (sc : xSC) : xSC := (fun k j m => if k = 6 ∧ j < i ∧ m < 3 then sc.1 6 j m + g * xUse sc t j m else sc.1 k j m, sc.2)
theorem xUse_6 {sc sc' : xSC} (h : ∀ k j m, k ≠ 6 → sc'.1 k j m = sc.1 k j m) (t j m : Nat) : xUse sc' t j m = xUse sc t j m := by
  unfold xUse
  rw [h 11 t 3 (by omega), h 9 t 0 (by omega), h 9 t 1 (by omega), h 9 t 2 (by omega), h 8 t m (by omega)]
theorem cu_stepf (f : Nat) {nS nT t i : Nat} {g : Int32} {sc : xSC} (k : Int32 → xSC → Option (Unit × xSC)) (hi : i < 1000) : fX5_countUse_L2 nS nT t g (nI i) i k (f + 4) 0 (xCUi i t g sc) = k 3 (xCUi (i + 1) t g sc) := by
  have e : ∀ s : xSC, (∀ k j m, k ≠ 6 → s.1 k j m = sc.1 k j m) → ∀ m, xUse s t i m = xUse sc t i m := fun s h m => xUse_6 h t i m
  have u0 : ∀ s : xSC, fX4_useOn nS nT t (nI i) 0 s = some (xUse s t i 0) := fun s => useOn_e rfl (by omega)
  have u1 : ∀ s : xSC, fX4_useOn nS nT t (nI i) 1 s = some (xUse s t i 1) := fun s => useOn_e rfl (by omega)
  have u2 : ∀ s : xSC, fX4_useOn nS nT t (nI i) 2 s = some (xUse s t i 2) := fun s => useOn_e rfl (by omega)
  have o0 : ∀ s : xSC, fX0_of nS nT 6 i 0 s = some (s.1 6 i 0) := fun s => of_e (m := 0) (by omega)
  have o1 : ∀ s : xSC, fX0_of nS nT 6 i 1 s = some (s.1 6 i 1) := fun s => of_e (m := 1) (by omega)
  have o2 : ∀ s : xSC, fX0_of nS nT 6 i 2 s = some (s.1 6 i 2) := fun s => of_e (m := 2) (by omega)
  have p0 : ∀ (s : xSC) v, fX0_put nS nT 6 i 0 v s = some ((), (xuC s.1 6 i 0 v, s.2)) := fun s v => put_e (m := 0) (by omega)
  have p1 : ∀ (s : xSC) v, fX0_put nS nT 6 i 1 v s = some ((), (xuC s.1 6 i 1 v, s.2)) := fun s v => put_e (m := 1) (by omega)
  have p2 : ∀ (s : xSC) v, fX0_put nS nT 6 i 2 v s = some ((), (xuC s.1 6 i 2 v, s.2)) := fun s v => put_e (m := 2) (by omega)
  have a1 : (0 : Int32) + 1 = 1 := rfl
  have a2 : (1 : Int32) + 1 = 2 := rfl
  have a3 : (2 : Int32) + 1 = 3 := rfl
  have l0 : ((3 : Int32) ≤ 0) = False := eq_false (by decide)
  have l1 : ((3 : Int32) ≤ 1) = False := eq_false (by decide)
  have l2 : ((3 : Int32) ≤ 2) = False := eq_false (by decide)
  have l3 : ((3 : Int32) ≤ 3) = True := eq_true (by decide)
  simp only [fX5_countUse_L2, l0, l1, l2, l3, if_false, if_true, u0, u1, u2, o0, o1, o2, p0, p1, p2, a1, a2, a3, oG_t, oB_s, oP_s, oT_r, oT_l, oC_r, oC_l, oN_s, oN_n]
  refine congrArg (k 3) ?_
  refine Prod.ext ?_ rfl
  funext a b c
  have q1 : xUse (xCUi i t g sc) t i 0 = xUse sc t i 0 := e _ (fun k j m hk => by simp [xCUi, hk]) 0
  rw [q1]
  have q2 : xUse (xuC (xCUi i t g sc).1 6 i 0 ((xCUi i t g sc).1 6 i 0 + g * xUse sc t i 0), (xCUi i t g sc).2) t i 1 = xUse sc t i 1 := e _ (fun k j m hk => by simp [xuC, xCUi, hk]) 1
  rw [q2]
  have q3 : ∀ v w, xUse (xuC (xuC (xCUi i t g sc).1 6 i 0 v) 6 i 1 w, (xCUi i t g sc).2) t i 2 = xUse sc t i 2 := fun v w => e _ (fun k j m hk => by simp [xuC, xCUi, hk]) 2
  rw [q3]
  simp only [xuC, xCUi]
  by_cases ha : a = 6
  · subst ha
    by_cases hb : b = i
    · subst hb
      rcases (show c = 0 ∨ c = 1 ∨ c = 2 ∨ 3 ≤ c by omega) with rfl | rfl | rfl | hc
      · simp
      · simp
      · simp
      · simp [show ¬ c = 0 by omega, show ¬ c = 1 by omega, show ¬ c = 2 by omega, show ¬ c < 3 by omega]
    · simp [hb, show (b < i + 1) = (b < i) by simp; omega]
  · simp [ha]
theorem cu_step {nS nT t i : Nat} {g : Int32} {sc : xSC} (k : Int32 → xSC → Option (Unit × xSC)) (hi : i < 1000) : fX5_countUse_L2 nS nT t g (nI i) i k 64 0 (xCUi i t g sc) = k 3 (xCUi (i + 1) t g sc) := cu_stepf 60 k hi
theorem cu_s1 {nS nT t i n : Nat} {g : Int32} {sc : xSC} (h4 : nS ≤ 4) (hi : i < nS) : fX5_countUse_L1 nS nT t g fX5_countUse_K1 (n + 1) (nI i) (xCUi i t g sc) = fX5_countUse_L1 nS nT t g fX5_countUse_K1 n (nI (i + 1)) (xCUi (i + 1) t g sc) := by
  rw [fX5_countUse_L1]
  simp only [ge4 (show i < 4 by omega), xin_n (show i < 4 by omega) (by omega), xel_n hi (by omega), if_false, oG_t, oB_s, oP_s, oT_r, oT_l, oC_r, oC_l, oN_s, oN_n]
  rw [cu_step _ (by omega)]
  simp only [fX5_countUse_K2, nI_1]
theorem cu_s2 {nS nT t i n : Nat} {g : Int32} {s : xSC} (h1 : nS ≤ i) (h2 : i < 4) : fX5_countUse_L1 nS nT t g fX5_countUse_K1 (n + 1) (nI i) s = fX5_countUse_L1 nS nT t g fX5_countUse_K1 n (nI (i + 1)) s := by
  rw [fX5_countUse_L1]
  simp only [ge4 h2, xin_n h2 (by omega), xel_o (show ¬ i < nS by omega) (by omega), if_false, nI_1, oG_t, oB_s, oP_s, oT_r, oT_l, oC_r, oC_l, oN_s, oN_n]
theorem cu_s3 {nS nT t n : Nat} {g : Int32} {s : xSC} : fX5_countUse_L1 nS nT t g fX5_countUse_K1 (n + 1) (nI 4) s = some ((), s) := by
  rw [fX5_countUse_L1]
  simp only [le4, if_true, fX5_countUse_K1]
theorem cu_all {nS nT t f : Nat} {g : Int32} {sc : xSC} (h4 : nS ≤ 4) (hf : 4 < f) : fX5_countUse_L1 nS nT t g fX5_countUse_K1 f (nI 0) sc = some ((), xCUi nS t g sc) := by
  obtain ⟨s', hs, e⟩ := xlpR (fX5_countUse_L1 nS nT t g fX5_countUse_K1) (fun s => some ((), s)) (fun i s => s = xCUi i t g sc) nS 4 h4
    (fun n i s hi hp => ⟨xCUi (i + 1) t g sc, by rw [hp]; exact cu_s1 h4 hi, rfl⟩)
    (fun n i s h1 h2 => cu_s2 h1 h2)
    (fun n s hp => cu_s3)
    f hf sc (by simp [xCUi])
  rw [e, hs]
theorem countUse_e {nS nT t : Nat} {g : Int32} {sc : xSC} (h4 : nS ≤ 4) : fX5_countUse nS nT t g sc = some ((), xCUi nS t g sc) := by
  have e : fX5_countUse_L1 nS nT t g fX5_countUse_K1 64 (nI 0) sc = some ((), xCUi nS t g sc) := cu_all h4 (by omega)
  rw [nI_0] at e
  rw [fX5_countUse]
  exact e
theorem xSum_c {n : Nat} {f g : Nat → Int32} (h : ∀ t, t < n → f t = g t) : xSum n f = xSum n g := by
  induction n with
  | zero => rfl
  | succ n ih => simp only [xSum]; rw [ih (fun t ht => h t (by omega)), h n (by omega)]
theorem xSum_u {n t : Nat} {f g : Nat → Int32} (ht : t < n) (h : ∀ u, u < n → u ≠ t → g u = f u) : xSum n g = xSum n f + (-1) * f t + 1 * g t := by
  have e1 : ∀ x : Int32, (-1) * x = -x := fun x => (Int32.neg_eq_neg_one_mul x).symm
  have e2 : ∀ x : Int32, 1 * x = x := fun x => Int32.one_mul x
  rw [e1, e2]
  induction n with
  | zero => omega
  | succ n ih =>
    simp only [xSum]
    by_cases hn : t = n
    · subst hn
      rw [xSum_c (f := g) (g := f) (fun u hu => h u (by omega) (by omega))]
      rw [Int32.add_assoc (xSum t f) (f t), Int32.add_right_neg, Int32.add_zero]
    · rw [ih (by omega) (fun u hu => h u (by omega)), h n (by omega) (fun e => hn e.symm)]
      rw [Int32.add_assoc (xSum n f + -f t), Int32.add_comm (g t), ← Int32.add_assoc, Int32.add_assoc (xSum n f), Int32.add_comm (-f t), ← Int32.add_assoc]
/-- counted out, changed, counted in again -/
theorem use_ci {nS nT t : Nat} {sc s2 : xSC} (ht : t < nT) (hu : ∀ j m, j < nS → m < 3 → sc.1 6 j m = xSum nT (fun t => xUse sc t j m))
    (h2 : ∀ k j m, ¬ ((k = 8 ∨ k = 9 ∨ k = 11) ∧ j = t) → s2.1 k j m = (xCUi nS t (-1) sc).1 k j m) :
    ∀ j m, j < nS → m < 3 → (xCUi nS t 1 s2).1 6 j m = xSum nT (fun u => xUse (xCUi nS t 1 s2) u j m) := by
  intro j m hj hm
  have e0 : ∀ u, xUse (xCUi nS t 1 s2) u j m = xUse s2 u j m := fun u => xUse_6 (fun k j m hk => by simp [xCUi, hk]) u j m
  have e1 : (xCUi nS t 1 s2).1 6 j m = s2.1 6 j m + 1 * xUse s2 t j m := by simp [xCUi, hj, hm]
  have e2 : s2.1 6 j m = sc.1 6 j m + (-1) * xUse sc t j m := by
    rw [h2 6 j m (by omega)]
    simp only [xCUi]
    rw [if_pos ⟨trivial, hj, hm⟩]
  have e3 : ∀ u, u ≠ t → xUse s2 u j m = xUse sc u j m := fun u hu => by
    unfold xUse
    rw [h2 11 u 3 (by omega), h2 9 u 0 (by omega), h2 9 u 1 (by omega), h2 9 u 2 (by omega), h2 8 u m (by omega)]
    simp [xCUi]
  rw [e1, e2, hu j m hj hm, ← xSum_u ht (fun u _ h => e3 u h)]
  exact (xSum_c (fun u _ => e0 u)).symm
