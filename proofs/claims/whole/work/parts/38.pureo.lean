/-! a new tenant -/
theorem inv_addT {k nS nT : Nat} {d : Int32} {sc : xSC} {sr : xSR} (h : xInv k d nS nT sc sr) {j x y z g : Nat} {N : Int32} (hn : nT < 6) (hj : j < nS) (hx : 1 ≤ x ∧ x ≤ 100) (hy : 1 ≤ y ∧ y ≤ 100) (hz : 1 ≤ z ∧ z ≤ 100) (hg : g ≤ 9) (hN : N = nI (nT + 1)) : xInv k d nS (nT + 1) (xCUi nS nT 1 (xaddT nT (nI j) (nI x) (nI y) (nI z) (nI g) sc)) (xuR (xuR (xuR (xuR (xuR (xuR sr.1 4 (3 * nT) (nI x)) 4 (3 * nT + 1) (nI y)) 4 (3 * nT + 2) (nI z)) 5 nT (nI g)) 8 nT (nI j)) 103 0 N, sr.2) := by
  obtain ⟨s1, hs1⟩ : ∃ s1, s1 = xaddT nT (nI j) (nI x) (nI y) (nI z) (nI g) sc := ⟨_, rfl⟩
  obtain ⟨r1, hr1⟩ : ∃ r1, r1 = xuR (xuR (xuR (xuR (xuR (xuR sr.1 4 (3 * nT) (nI x)) 4 (3 * nT + 1) (nI y)) 4 (3 * nT + 2) (nI z)) 5 nT (nI g)) 8 nT (nI j)) 103 0 N := ⟨_, rfl⟩
  rw [← hs1, ← hr1]
  have c0 : ∀ a b i, ¬ ((a = 8 ∨ a = 9 ∨ a = 11) ∧ b = nT) → s1.1 a b i = sc.1 a b i := fun a b i hn => by
    rw [hs1]
    simp only [xaddT]
    rw [if_neg (by omega), if_neg (by omega), if_neg (by omega)]
  have c : ∀ a b i, a ≠ 6 → ¬ ((a = 8 ∨ a = 9 ∨ a = 11) ∧ b = nT) → (xCUi nS nT 1 s1).1 a b i = sc.1 a b i := fun a b i h6 hn => by
    rw [xCU_o h6, c0 _ _ _ hn]
  have c' : ∀ a b i, a ≠ 6 → (xCUi nS nT 1 s1).1 a b i = s1.1 a b i := fun a b i h6 => xCU_o h6
  have r : ∀ a b, ¬ (a = 4 ∧ 3 * nT ≤ b) → ¬ (a = 5 ∧ b = nT) → ¬ (a = 8 ∧ b = nT) → a ≠ 103 → r1 a b = sr.1 a b := fun a b h1 h2 h3 h4 => by
    rw [hr1]
    simp only [xuR]
    rw [if_neg (by omega), if_neg (by omega), if_neg (by omega), if_neg (by omega), if_neg (by omega), if_neg (by omega)]
  have hU : ∀ t i m, t < nT → xUse (xCUi nS nT 1 s1) t i m = xUse sc t i m := fun t i m ht => by
    unfold xUse
    rw [c 11 t 3 (by omega) (by omega), c 9 t 0 (by omega) (by omega), c 9 t 1 (by omega) (by omega), c 9 t 2 (by omega) (by omega), c 8 t m (by omega) (by omega)]
  have hU' : ∀ i m, xUse (xCUi nS nT 1 s1) nT i m = xUse s1 nT i m := fun i m => xUse_6 (fun k j m hk => xCU_o hk) nT i m
  refine ⟨h.S4, by omega, ?_, ?_, fun i m hi hm => ?_, fun i hi => ?_, fun i hi hi' => ?_, fun t m ht hm => ?_, fun t ht => ?_, fun t ht => ?_, fun t ht => ?_, fun t ht => ?_, fun t ht ht' => ?_, fun i m hi hm => ?_, ?_, ?_, ?_, ?_, ?_⟩
  · show r1 100 0 = _
    rw [r 100 0 (by omega) (by omega) (by omega) (by omega)]; exact h.c100
  · show r1 103 0 = _
    rw [hr1]; simp [xuR, hN]
  · show ∃ n, 1 ≤ n ∧ n ≤ 300 ∧ (xCUi nS nT 1 s1).1 5 i m = nI n ∧ r1 1 (3 * i + m) = nI n
    rw [r 1 _ (by omega) (by omega) (by omega) (by omega), c 5 _ _ (by omega) (by omega)]; exact h.lim i m hi hm
  · show ((xCUi nS nT 1 s1).1 4 i 2 = 1 ∧ r1 2 i = 0) ∨ ((xCUi nS nT 1 s1).1 4 i 2 = 0 ∧ r1 2 i = 1)
    rw [r 2 _ (by omega) (by omega) (by omega) (by omega), c 4 _ _ (by omega) (by omega)]; exact h.opn i hi
  · show r1 2 i = 0
    rw [r 2 _ (by omega) (by omega) (by omega) (by omega)]; exact h.opz i hi hi'
  · show ∃ n, 1 ≤ n ∧ n ≤ 999 ∧ (xCUi nS nT 1 s1).1 8 t m = nI n ∧ r1 4 (3 * t + m) = nI n
    by_cases e : t = nT
    · subst e
      rw [c' _ _ _ (by omega), hs1, hr1]
      rcases (show m = 0 ∨ m = 1 ∨ m = 2 by omega) with rfl | rfl | rfl
      · exact ⟨x, hx.1, by omega, by simp [xaddT], by simp [xuR]⟩
      · exact ⟨y, hy.1, by omega, by simp [xaddT], by simp [xuR]⟩
      · exact ⟨z, hz.1, by omega, by simp [xaddT], by simp [xuR]⟩
    · rw [r 4 _ (by omega) (by omega) (by omega) (by omega), c 8 _ _ (by omega) (by omega)]; exact h.siz t m (by omega) hm
  · show ∃ n, n ≤ 9 ∧ (xCUi nS nT 1 s1).1 11 t 1 = nI n ∧ r1 5 t = nI n
    by_cases e : t = nT
    · subst e
      rw [c' _ _ _ (by omega), hs1, hr1]
      exact ⟨g, hg, by simp [xaddT], by simp [xuR]⟩
    · rw [r 5 _ (by omega) (by omega) (by omega) (by omega), c 11 _ _ (by omega) (by omega)]; exact h.gro t (by omega)
  · show ∃ a b, a < 24 ∧ b < 24 ∧ (xCUi nS nT 1 s1).1 11 t 4 = nI a ∧ r1 6 t = nI a ∧ (xCUi nS nT 1 s1).1 11 t 5 = nI b ∧ r1 7 t = nI b
    rw [r 6 _ (by omega) (by omega) (by omega) (by omega), r 7 _ (by omega) (by omega) (by omega) (by omega)]
    by_cases e : t = nT
    · subst e
      rw [c' _ _ _ (by omega), c' _ _ _ (by omega), hs1]
      obtain ⟨f1, f2, -⟩ := h.fre t (by omega) hn
      exact ⟨0, 0, by omega, by omega, by simp [xaddT]; rfl, f1, by simp [xaddT]; rfl, f2⟩
    · rw [c 11 _ _ (by omega) (by omega), c 11 _ _ (by omega) (by omega)]; exact h.win t (by omega)
  · show ∃ i, i < nS ∧ (xCUi nS nT 1 s1).1 11 t 3 = nI i ∧ r1 8 t = nI i
    by_cases e : t = nT
    · subst e
      rw [c' _ _ _ (by omega), hs1, hr1]
      exact ⟨j, hj, by simp [xaddT], by simp [xuR]⟩
    · rw [r 8 _ (by omega) (by omega) (by omega) (by omega), c 11 _ _ (by omega) (by omega)]; exact h.srv t (by omega)
  · show xMvR nS _ _ _ _ (r1 9 t) (r1 10 t) (r1 11 t) (r1 12 t)
    rw [r 9 _ (by omega) (by omega) (by omega) (by omega), r 10 _ (by omega) (by omega) (by omega) (by omega), r 11 _ (by omega) (by omega) (by omega) (by omega), r 12 _ (by omega) (by omega) (by omega) (by omega)]
    by_cases e : t = nT
    · subst e
      refine .inl ⟨?_, (h.fre t (by omega) hn).2.2⟩
      rw [c' _ _ _ (by omega), hs1]
      simp [xaddT]
    · rw [c 9 t 0 (by omega) (by omega), c 9 t 1 (by omega) (by omega), c 9 t 2 (by omega) (by omega), c 9 t 3 (by omega) (by omega)]
      exact h.mov t (by omega)
  · show r1 6 t = 0 ∧ r1 7 t = 0 ∧ r1 9 t = 0
    rw [r 6 _ (by omega) (by omega) (by omega) (by omega), r 7 _ (by omega) (by omega) (by omega) (by omega), r 9 _ (by omega) (by omega) (by omega) (by omega)]
    exact h.fre t (by omega) ht'
  · simp only [xSum]
    rw [xSum_c (fun t ht => hU t i m ht), hU', ← h.use i m hi hm]
    have e1 : (xCUi nS nT 1 s1).1 6 i m = s1.1 6 i m + 1 * xUse s1 nT i m := by simp [xCUi, hi, hm]
    rw [e1, c0 6 i m (by omega), Int32.one_mul]
  · simp only [xCnt]
    rw [c' 9 nT 0 (by omega), if_pos (by rw [hs1]; simp [xaddT])]
    exact Nat.le_trans (xCnt_le (fun u hu e => by rw [c 9 u 0 (by omega) (by omega)]; exact e)) h.cnt
  · obtain ⟨np, p1, p2, p3, p4, p5⟩ := h.par
    refine ⟨np, p1, ?_, ?_, fun p hp => ?_, fun u hu => ?_⟩
    · rw [c 0 0 4 (by omega) (by omega)]; exact p2
    · show r1 113 0 = _
      rw [r 113 0 (by omega) (by omega) (by omega) (by omega)]; exact p3
    · show ∃ a b, a < nT + 1 ∧ b < nT + 1 ∧ a ≠ b ∧ r1 14 p = nI a ∧ r1 15 p = nI b
      rw [r 14 _ (by omega) (by omega) (by omega) (by omega), r 15 _ (by omega) (by omega) (by omega) (by omega)]
      obtain ⟨a, b, a1, b1, q⟩ := p4 p hp
      exact ⟨a, b, by omega, by omega, q⟩
    · show ∃ w, w < 64 ∧ (xCUi nS nT 1 s1).1 11 u 6 = nI w ∧ ∀ o, o < 6 → (w.testBit o = true ↔ ∃ p, p < np ∧ ((r1 14 p = nI u ∧ r1 15 p = nI o) ∨ (r1 14 p = nI o ∧ r1 15 p = nI u)))
      have k14 : ∀ p, r1 14 p = sr.1 14 p := fun p => r 14 p (by omega) (by omega) (by omega) (by omega)
      have k15 : ∀ p, r1 15 p = sr.1 15 p := fun p => r 15 p (by omega) (by omega) (by omega) (by omega)
      simp only [k14, k15]
      by_cases e : u = nT
      · subst e
        refine ⟨0, by omega, ?_, fun o ho => ?_⟩
        · rw [c' _ _ _ (by omega), hs1]
          simp [xaddT]
          rfl
        · simp only [Nat.zero_testBit, Bool.false_eq_true, false_iff]
          rintro ⟨p, hp, q⟩
          obtain ⟨a, b, a1, b1, -, q1, q2⟩ := p4 p hp
          rw [q1, q2, nI_eq (by omega) (by omega), nI_eq (by omega) (by omega), nI_eq (by omega) (by omega), nI_eq (by omega) (by omega)] at q
          omega
      · rw [c 11 _ _ (by omega) (by omega)]
        exact p5 u (by omega)
  · show ∃ T, T ≤ 48 * k ∧ (xCUi nS nT 1 s1).1 0 0 5 = nI T ∧ r1 116 0 = nI T
    rw [r 116 0 (by omega) (by omega) (by omega) (by omega), c 0 0 5 (by omega) (by omega)]; exact h.tim
  · show (xCUi nS nT 1 s1).1 0 0 6 = r1 117 0 + d
    rw [r 117 0 (by omega) (by omega) (by omega) (by omega), c 0 0 6 (by omega) (by omega)]; exact h.swi
  · show s1.2 = sr.2
    rw [hs1]; exact h.ovr
