/-! the pure half: how the joints open, indices, and the relation between both states -/
/-- not by computation: else the kernel unrolls loops -/
theorem xno {α : Type} {a b : α} (h : a = b) : a = b := h
theorem oG_t {β : Type} (a : Option β) : oG true a = a := xno rfl
theorem oB_s {α β : Type} (a : α) (k : α → Option β) : oB (some a) k = k a := xno rfl
theorem oP_s {α σ β : Type} (q : α × σ) (k : α → σ → Option β) : oP (some q) k = k q.1 q.2 := xno rfl
theorem oT_r {α β : Type} (a : α) (kx : String → Option β) (k : α → Option β) : oT (some (.inr a)) kx k = k a := xno rfl
theorem oT_l {α β : Type} (E : String) (kx : String → Option β) (k : α → Option β) : oT (some (.inl E)) kx k = kx E := xno rfl
theorem oC_r {α σ β : Type} (a : α) (s : σ) (kx : String → σ → Option β) (k : α → σ → Option β) : oC (some (.inr a, s)) kx k = k a s := xno rfl
theorem oC_l {α σ β : Type} (E : String) (s : σ) (kx : String → σ → Option β) (k : α → σ → Option β) : oC (some (.inl E, s)) kx k = kx E s := xno rfl
theorem oN_s {β : Type} (j : Nat) (a : β) (b : Nat → β) : oN (some j) a b = b j := xno rfl
theorem oN_n {β : Type} (a : β) (b : Nat → β) : oN none a b = a := xno rfl
theorem lgc (a : Int64) : lg_cmp a a = 0 := by simp [lg_cmp]
theorem nI_toI {n : Nat} (h : n < 1000000) : (nI n).toInt = (n : Int) := nI_toInt (by omega)
theorem nI_N {n : Nat} (h : n < 1000000) : (nI n).toNatClampNeg = n := nI_clamp (by omega)
theorem xin_n {n N : Nat} (h : n < N) (hN : N < 1000000) : xinb (nI n) N = true := by
  unfold xinb
  rw [nI_N (by omega)]
  simp [nI_pos (n := n) (by omega), h]
theorem xel_n {n N : Nat} (h : n < N) (hN : N < 1000000) : xel N (nI n) = some n := by
  unfold xel
  rw [nI_N (by omega), if_pos h]
theorem xel_o {n N : Nat} (h : ¬ n < N) (hN : n < 1000000) : xel N (nI n) = none := by
  unfold xel
  rw [nI_N (by omega), if_neg h]
theorem xidx (N : Nat) (hN : N < 1000000) (a : Int32) : (∃ t, t < N ∧ a = nI t) ∨ (a < 0 ∨ nI N ≤ a) := by
  by_cases h0 : a < 0
  · exact .inr (.inl h0)
  · by_cases h1 : nI N ≤ a
    · exact .inr (.inr h1)
    · obtain ⟨j, hj, rfl⟩ := nI_of h0
      refine .inl ⟨j, ?_, rfl⟩
      rcases Nat.lt_or_ge j N with h | h
      · exact h
      · exact absurd (nI_le h hj) h1
theorem nI_m1 {n : Nat} (h : n < 1000000) : (nI n - 1).toInt = (n : Int) - 1 := by
  rcases n with _ | n
  · decide
  · rw [nI_pred, nI_toI (by omega)]; omega
/-- a number of a row, as both sides ask for it -/
theorem fin_y {N : Nat} (hN : N < 1000000) {t : Nat} (h : t < N) (sr : xSR) : fX6_in (nI t) 0 (nI N - 1) sr = some 1 := by
  unfold fX6_in
  rw [if_neg (nI_pos (by omega)), if_neg ?_]
  rw [Int32.lt_iff_toInt_lt, nI_m1 hN, nI_toI (by omega)]
  omega
theorem fin_n {N : Nat} (hN : N < 1000000) {a : Int32} (h : a < 0 ∨ nI N ≤ a) (sr : xSR) : fX6_in a 0 (nI N - 1) sr = some 0 := by
  unfold fX6_in
  rcases h with h | h
  · rw [if_pos h]
  · split
    · rfl
    · rw [if_pos ?_]
      rw [Int32.le_iff_toInt_le, nI_toI hN] at h
      rw [Int32.lt_iff_toInt_lt, nI_m1 hN]
      omega
/-- what a tenant takes on a shard -/
def xUse (sc : xSC) (t j m : Nat) : Int32 := if sc.1 11 t 3 = nI j ∨ ((sc.1 9 t 0 = 99 ∨ sc.1 9 t 0 = 102) ∧ sc.1 9 t 2 = nI j) ∨ (m = 0 ∧ sc.1 9 t 0 = 100 ∧ sc.1 9 t 1 = nI j) then sc.1 8 t m else 0
def xSum : Nat → (Nat → Int32) → Int32
  | 0, _ => 0
  | n + 1, f => xSum n f + f n
/-- a move on both sides -/
def xMvR (nS : Nat) (p a b l q c d e : Int32) : Prop := (p = 45 ∧ q = 0) ∨ ∃ i j n, i < nS ∧ j < nS ∧ a = nI i ∧ b = nI j ∧ l = nI n ∧ c = nI i ∧ d = nI j ∧ ((p = 99 ∧ q = 1 ∧ 1 ≤ n ∧ n ≤ 50 ∧ e = nI n) ∨ (p = 102 ∧ q = 2 ∧ n = 0) ∨ (p = 100 ∧ q = 3 ∧ 1 ≤ n ∧ n ≤ 2 ∧ e = nI n))
/-- how many moves are under way -/
def xCnt (sc : xSC) : Nat → Nat
  | 0 => 0
  | n + 1 => xCnt sc n + (if sc.1 9 n 0 = 45 then 0 else 1)
theorem xCnt_le {sc sc' : xSC} {n : Nat} (h : ∀ t, t < n → sc.1 9 t 0 = 45 → sc'.1 9 t 0 = 45) : xCnt sc' n ≤ xCnt sc n := by
  induction n with
  | zero => exact Nat.le_refl _
  | succ n ih =>
    have i1 := ih (fun t ht => h t (by omega))
    have i2 := h n (by omega)
    simp only [xCnt]
    by_cases g : sc.1 9 n 0 = 45
    · rw [if_pos g, if_pos (i2 g)]; omega
    · rw [if_neg g]; split <;> omega
theorem xCnt_1 {sc sc' : xSC} {n t : Nat} (h : ∀ u, u < n → u ≠ t → sc.1 9 u 0 = 45 → sc'.1 9 u 0 = 45) : xCnt sc' n ≤ xCnt sc n + 1 := by
  induction n with
  | zero => simp [xCnt]
  | succ n ih =>
    simp only [xCnt]
    by_cases e : n = t
    · have i1 : xCnt sc' n ≤ xCnt sc n := xCnt_le (fun u hu => h u (by omega) (by omega))
      split <;> split <;> omega
    · have i1 := ih (fun t ht => h t (by omega))
      have i2 := h n (by omega) e
      by_cases g : sc.1 9 n 0 = 45
      · rw [if_pos g, if_pos (i2 g)]; omega
      · rw [if_neg g]; split <;> omega
def xInv (k : Nat) (d : Int32) (nS nT : Nat) (sc : xSC) (sr : xSR) : Prop :=
  (nS ≤ 4) ∧
  (nT ≤ 6) ∧
  (sr.1 100 0 = nI nS) ∧
  (sr.1 103 0 = nI nT) ∧
  (∀ j m, j < nS → m < 3 → ∃ n, 1 ≤ n ∧ n ≤ 300 ∧ sc.1 5 j m = nI n ∧ sr.1 1 (3 * j + m) = nI n) ∧
  (∀ j, j < nS → (sc.1 4 j 2 = 1 ∧ sr.1 2 j = 0) ∨ (sc.1 4 j 2 = 0 ∧ sr.1 2 j = 1)) ∧
  (∀ j, nS ≤ j → j < 4 → sr.1 2 j = 0) ∧
  (∀ t m, t < nT → m < 3 → ∃ n, 1 ≤ n ∧ n ≤ 999 ∧ sc.1 8 t m = nI n ∧ sr.1 4 (3 * t + m) = nI n) ∧
  (∀ t, t < nT → ∃ n, n ≤ 9 ∧ sc.1 11 t 1 = nI n ∧ sr.1 5 t = nI n) ∧
  (∀ t, t < nT → ∃ a b, a < 24 ∧ b < 24 ∧ sc.1 11 t 4 = nI a ∧ sr.1 6 t = nI a ∧ sc.1 11 t 5 = nI b ∧ sr.1 7 t = nI b) ∧
  (∀ t, t < nT → ∃ j, j < nS ∧ sc.1 11 t 3 = nI j ∧ sr.1 8 t = nI j) ∧
  (∀ t, t < nT → xMvR nS (sc.1 9 t 0) (sc.1 9 t 1) (sc.1 9 t 2) (sc.1 9 t 3) (sr.1 9 t) (sr.1 10 t) (sr.1 11 t) (sr.1 12 t)) ∧
  (∀ t, nT ≤ t → t < 6 → sr.1 6 t = 0 ∧ sr.1 7 t = 0 ∧ sr.1 9 t = 0) ∧
  (∀ j m, j < nS → m < 3 → sc.1 6 j m = xSum nT (fun t => xUse sc t j m)) ∧
  (xCnt sc nT ≤ 3) ∧
  (∃ np, np ≤ 6 ∧ sc.1 0 0 4 = nI np ∧ sr.1 113 0 = nI np ∧ (∀ p, p < np → ∃ a b, a < nT ∧ b < nT ∧ a ≠ b ∧ sr.1 14 p = nI a ∧ sr.1 15 p = nI b) ∧ ∀ t, t < nT → ∃ w, w < 64 ∧ sc.1 11 t 6 = nI w ∧ ∀ o, o < 6 → (w.testBit o = true ↔ ∃ p, p < np ∧ ((sr.1 14 p = nI t ∧ sr.1 15 p = nI o) ∨ (sr.1 14 p = nI o ∧ sr.1 15 p = nI t)))) ∧
  (∃ T, T ≤ 48 * k ∧ sc.1 0 0 5 = nI T ∧ sr.1 116 0 = nI T) ∧
  (sc.1 0 0 6 = sr.1 117 0 + d) ∧
  (sc.2 = sr.2)
theorem xInv.S4 {k nS nT : Nat} {d : Int32} {sc : xSC} {sr : xSR} (h : xInv k d nS nT sc sr) : nS ≤ 4 := h.1
theorem xInv.T6 {k nS nT : Nat} {d : Int32} {sc : xSC} {sr : xSR} (h : xInv k d nS nT sc sr) : nT ≤ 6 := h.2.1
theorem xInv.c100 {k nS nT : Nat} {d : Int32} {sc : xSC} {sr : xSR} (h : xInv k d nS nT sc sr) : sr.1 100 0 = nI nS := h.2.2.1
theorem xInv.c103 {k nS nT : Nat} {d : Int32} {sc : xSC} {sr : xSR} (h : xInv k d nS nT sc sr) : sr.1 103 0 = nI nT := h.2.2.2.1
theorem xInv.lim {k nS nT : Nat} {d : Int32} {sc : xSC} {sr : xSR} (h : xInv k d nS nT sc sr) : ∀ j m, j < nS → m < 3 → ∃ n, 1 ≤ n ∧ n ≤ 300 ∧ sc.1 5 j m = nI n ∧ sr.1 1 (3 * j + m) = nI n := h.2.2.2.2.1
theorem xInv.opn {k nS nT : Nat} {d : Int32} {sc : xSC} {sr : xSR} (h : xInv k d nS nT sc sr) : ∀ j, j < nS → (sc.1 4 j 2 = 1 ∧ sr.1 2 j = 0) ∨ (sc.1 4 j 2 = 0 ∧ sr.1 2 j = 1) := h.2.2.2.2.2.1
theorem xInv.opz {k nS nT : Nat} {d : Int32} {sc : xSC} {sr : xSR} (h : xInv k d nS nT sc sr) : ∀ j, nS ≤ j → j < 4 → sr.1 2 j = 0 := h.2.2.2.2.2.2.1
theorem xInv.siz {k nS nT : Nat} {d : Int32} {sc : xSC} {sr : xSR} (h : xInv k d nS nT sc sr) : ∀ t m, t < nT → m < 3 → ∃ n, 1 ≤ n ∧ n ≤ 999 ∧ sc.1 8 t m = nI n ∧ sr.1 4 (3 * t + m) = nI n := h.2.2.2.2.2.2.2.1
theorem xInv.gro {k nS nT : Nat} {d : Int32} {sc : xSC} {sr : xSR} (h : xInv k d nS nT sc sr) : ∀ t, t < nT → ∃ n, n ≤ 9 ∧ sc.1 11 t 1 = nI n ∧ sr.1 5 t = nI n := h.2.2.2.2.2.2.2.2.1
theorem xInv.win {k nS nT : Nat} {d : Int32} {sc : xSC} {sr : xSR} (h : xInv k d nS nT sc sr) : ∀ t, t < nT → ∃ a b, a < 24 ∧ b < 24 ∧ sc.1 11 t 4 = nI a ∧ sr.1 6 t = nI a ∧ sc.1 11 t 5 = nI b ∧ sr.1 7 t = nI b := h.2.2.2.2.2.2.2.2.2.1
theorem xInv.srv {k nS nT : Nat} {d : Int32} {sc : xSC} {sr : xSR} (h : xInv k d nS nT sc sr) : ∀ t, t < nT → ∃ j, j < nS ∧ sc.1 11 t 3 = nI j ∧ sr.1 8 t = nI j := h.2.2.2.2.2.2.2.2.2.2.1
theorem xInv.mov {k nS nT : Nat} {d : Int32} {sc : xSC} {sr : xSR} (h : xInv k d nS nT sc sr) : ∀ t, t < nT → xMvR nS (sc.1 9 t 0) (sc.1 9 t 1) (sc.1 9 t 2) (sc.1 9 t 3) (sr.1 9 t) (sr.1 10 t) (sr.1 11 t) (sr.1 12 t) := h.2.2.2.2.2.2.2.2.2.2.2.1
theorem xInv.fre {k nS nT : Nat} {d : Int32} {sc : xSC} {sr : xSR} (h : xInv k d nS nT sc sr) : ∀ t, nT ≤ t → t < 6 → sr.1 6 t = 0 ∧ sr.1 7 t = 0 ∧ sr.1 9 t = 0 := h.2.2.2.2.2.2.2.2.2.2.2.2.1
theorem xInv.use {k nS nT : Nat} {d : Int32} {sc : xSC} {sr : xSR} (h : xInv k d nS nT sc sr) : ∀ j m, j < nS → m < 3 → sc.1 6 j m = xSum nT (fun t => xUse sc t j m) := h.2.2.2.2.2.2.2.2.2.2.2.2.2.1
theorem xInv.cnt {k nS nT : Nat} {d : Int32} {sc : xSC} {sr : xSR} (h : xInv k d nS nT sc sr) : xCnt sc nT ≤ 3 := h.2.2.2.2.2.2.2.2.2.2.2.2.2.2.1
theorem xInv.par {k nS nT : Nat} {d : Int32} {sc : xSC} {sr : xSR} (h : xInv k d nS nT sc sr) : ∃ np, np ≤ 6 ∧ sc.1 0 0 4 = nI np ∧ sr.1 113 0 = nI np ∧ (∀ p, p < np → ∃ a b, a < nT ∧ b < nT ∧ a ≠ b ∧ sr.1 14 p = nI a ∧ sr.1 15 p = nI b) ∧ ∀ t, t < nT → ∃ w, w < 64 ∧ sc.1 11 t 6 = nI w ∧ ∀ o, o < 6 → (w.testBit o = true ↔ ∃ p, p < np ∧ ((sr.1 14 p = nI t ∧ sr.1 15 p = nI o) ∨ (sr.1 14 p = nI o ∧ sr.1 15 p = nI t))) := h.2.2.2.2.2.2.2.2.2.2.2.2.2.2.2.1
theorem xInv.tim {k nS nT : Nat} {d : Int32} {sc : xSC} {sr : xSR} (h : xInv k d nS nT sc sr) : ∃ T, T ≤ 48 * k ∧ sc.1 0 0 5 = nI T ∧ sr.1 116 0 = nI T := h.2.2.2.2.2.2.2.2.2.2.2.2.2.2.2.2.1
theorem xInv.swi {k nS nT : Nat} {d : Int32} {sc : xSC} {sr : xSR} (h : xInv k d nS nT sc sr) : sc.1 0 0 6 = sr.1 117 0 + d := h.2.2.2.2.2.2.2.2.2.2.2.2.2.2.2.2.2.1
theorem xInv.ovr {k nS nT : Nat} {d : Int32} {sc : xSC} {sr : xSR} (h : xInv k d nS nT sc sr) : sc.2 = sr.2 := h.2.2.2.2.2.2.2.2.2.2.2.2.2.2.2.2.2.2
theorem xInv_0 : xInv 0 0 0 0 xsc0 xsr0 := by
  refine ⟨by omega, by omega, rfl, rfl, ?_, ?_, ?_, ?_, ?_, ?_, ?_, ?_, ?_, ?_, by simp [xCnt], ?_, ?_, rfl, rfl⟩
  any_goals (intros; omega)
  · intros; rfl
  · intros; exact ⟨rfl, rfl, rfl⟩
  · exact ⟨0, by omega, rfl, rfl, fun p h => by omega, fun t h => by omega⟩
  · exact ⟨0, by omega, rfl, rfl⟩
/-- what no later call looks at -/
def xScrC (k i : Nat) : Prop := k = 3 ∨ (k = 4 ∧ i = 4) ∨ k = 7 ∨ k = 10 ∨ (k = 11 ∧ i = 7)
def xScrR (k : Nat) : Prop := k = 19 ∨ k = 20 ∨ k = 121 ∨ k = 122
theorem xInv_fr {k nS nT : Nat} {d : Int32} {sc sc' : xSC} {sr sr' : xSR} (h : xInv k d nS nT sc sr) (h1 : ∀ a b d, ¬ xScrC a d → sc'.1 a b d = sc.1 a b d) (h2 : ∀ a b, ¬ xScrR a → sr'.1 a b = sr.1 a b) (h3 : sc'.2 = sc.2) (h4 : sr'.2 = sr.2) : xInv k d nS nT sc' sr' := by
  have e1 : ∀ t j m, xUse sc' t j m = xUse sc t j m := fun t j m => by
    unfold xUse
    rw [h1 11 t 3 (by simp [xScrC]), h1 9 t 0 (by simp [xScrC]), h1 9 t 1 (by simp [xScrC]), h1 9 t 2 (by simp [xScrC]), h1 8 t m (by simp [xScrC])]
  refine ⟨h.S4, h.T6, ?_, ?_, fun j m hj hm => ?_, fun j hj => ?_, fun j hj hj' => ?_, fun t m ht hm => ?_, fun t ht => ?_, fun t ht => ?_, fun t ht => ?_, fun t ht => ?_, fun t ht ht' => ?_, fun j m hj hm => ?_, Nat.le_trans (xCnt_le (fun t _ e => by rw [h1 9 t 0 (by simp [xScrC])]; exact e)) h.cnt, ?_, ?_, ?_, ?_⟩
  · rw [h2 _ _ (by simp [xScrR])]; exact h.c100
  · rw [h2 _ _ (by simp [xScrR])]; exact h.c103
  · rw [h2 _ _ (by simp [xScrR]), h1 _ _ _ (by simp [xScrC])]; exact h.lim j m hj hm
  · rw [h2 _ _ (by simp [xScrR]), h1 _ _ _ (by simp [xScrC])]; exact h.opn j hj
  · rw [h2 _ _ (by simp [xScrR])]; exact h.opz j hj hj'
  · rw [h2 _ _ (by simp [xScrR]), h1 _ _ _ (by simp [xScrC])]; exact h.siz t m ht hm
  · rw [h2 _ _ (by simp [xScrR]), h1 _ _ _ (by simp [xScrC])]; exact h.gro t ht
  · rw [h2 6 _ (by simp [xScrR]), h2 7 _ (by simp [xScrR]), h1 11 t 4 (by simp [xScrC]), h1 11 t 5 (by simp [xScrC])]; exact h.win t ht
  · rw [h2 _ _ (by simp [xScrR]), h1 _ _ _ (by simp [xScrC])]; exact h.srv t ht
  · rw [h2 9 _ (by simp [xScrR]), h2 10 _ (by simp [xScrR]), h2 11 _ (by simp [xScrR]), h2 12 _ (by simp [xScrR]), h1 9 t 0 (by simp [xScrC]), h1 9 t 1 (by simp [xScrC]), h1 9 t 2 (by simp [xScrC]), h1 9 t 3 (by simp [xScrC])]; exact h.mov t ht
  · rw [h2 6 _ (by simp [xScrR]), h2 7 _ (by simp [xScrR]), h2 9 _ (by simp [xScrR])]; exact h.fre t ht ht'
  · rw [h1 _ _ _ (by simp [xScrC]), h.use j m hj hm]
    exact congrArg (xSum nT) (funext fun t => (e1 t j m).symm)
  · obtain ⟨np, p1, p2, p3, p4, p5⟩ := h.par
    refine ⟨np, p1, ?_, ?_, fun p hp => ?_, fun t ht => ?_⟩
    · rw [h1 _ _ _ (by simp [xScrC])]; exact p2
    · rw [h2 _ _ (by simp [xScrR])]; exact p3
    · rw [h2 14 _ (by simp [xScrR]), h2 15 _ (by simp [xScrR])]; exact p4 p hp
    · obtain ⟨w, w1, w2, w3⟩ := p5 t ht
      refine ⟨w, w1, ?_, fun o ho => ?_⟩
      · rw [h1 _ _ _ (by simp [xScrC])]; exact w2
      · rw [w3 o ho]
        exact exists_congr fun p => by rw [h2 14 _ (by simp [xScrR]), h2 15 _ (by simp [xScrR])]
  · rw [h2 _ _ (by simp [xScrR]), h1 _ _ _ (by simp [xScrC])]; exact h.tim
  · rw [h2 _ _ (by simp [xScrR]), h1 _ _ _ (by simp [xScrC])]; exact h.swi
  · rw [h3, h4]; exact h.ovr
theorem xInv_k {k k' nS nT : Nat} {d : Int32} {sc : xSC} {sr : xSR} (h : xInv k d nS nT sc sr) (hk : k ≤ k') : xInv k' d nS nT sc sr := by
  obtain ⟨T, h1, h2, h3⟩ := h.tim
  exact ⟨h.S4, h.T6, h.c100, h.c103, h.lim, h.opn, h.opz, h.siz, h.gro, h.win, h.srv, h.mov, h.fre, h.use, h.cnt, h.par, ⟨T, by omega, h2, h3⟩, h.swi, h.ovr⟩
