/-! the least and the first -/
theorem xFst_z {snd : Nat → Bool} {mv : Nat → Nat} {A lo n : Nat} (h : xFst snd mv A lo n = none) : ∀ i, i < n → ¬ (snd (lo + i) = true ∧ mv (lo + i) ≤ A) := by
  induction n with
  | zero => intro i hi; omega
  | succ n ih =>
    intro i hi
    simp only [xFst] at h
    cases e' : xFst snd mv A lo n with
    | some k' => rw [e'] at h; simp at h
    | none =>
      rw [e'] at h
      have e : (if snd (lo + n) = true ∧ mv (lo + n) ≤ A then some (lo + n) else none) = none := h
      by_cases u : i = n
      · subst u
        intro q
        rw [if_pos q] at e
        simp at e
      · exact ih e' i (by omega)
theorem xFst_s {snd : Nat → Bool} {mv : Nat → Nat} {A lo n k : Nat} (h : xFst snd mv A lo n = some k) : lo ≤ k ∧ k < lo + n ∧ snd k = true ∧ mv k ≤ A ∧ ∀ i, lo ≤ i → i < k → ¬ (snd i = true ∧ mv i ≤ A) := by
  induction n with
  | zero => simp [xFst] at h
  | succ n ih =>
    simp only [xFst] at h
    cases e : xFst snd mv A lo n with
    | some k' =>
      rw [e] at h
      obtain rfl : k' = k := by simpa using h
      obtain ⟨a, b, c⟩ := ih e
      exact ⟨a, by omega, c⟩
    | none =>
      rw [e] at h
      by_cases g : snd (lo + n) = true ∧ mv (lo + n) ≤ A
      · have h : (if snd (lo + n) = true ∧ mv (lo + n) ≤ A then some (lo + n) else none) = some k := h
        rw [if_pos g] at h
        obtain rfl : lo + n = k := by simpa using h
        refine ⟨by omega, by omega, g.1, g.2, fun i hi hi' q => ?_⟩
        exact xFst_z e (i - lo) (by omega) (by rw [show lo + (i - lo) = i by omega]; exact q)
      · have h : (if snd (lo + n) = true ∧ mv (lo + n) ≤ A then some (lo + n) else none) = some k := h
        rw [if_neg g] at h
        simp at h
theorem xFd_r {snd : Nat → Bool} {mv : Nat → Nat} {n : Nat} (h6 : ∀ k, mv k ≤ 6) :
    ((xFd snd mv 0 n (0, 7, 0)).1 = 0 ∧ (xFd snd mv 0 n (0, 7, 0)).2.1 = 7 ∧ ∀ i, i < n → snd i = false) ∨
    ∃ m b k, xFd snd mv 0 n (0, 7, 0) = (m + 1, b, k) ∧ b ≤ 6 ∧ k < n ∧ snd k = true ∧ mv k = b ∧ (∀ i, i < n → snd i = true → b ≤ mv i) ∧ ∀ i, i < k → snd i = true → b < mv i := by
  induction n with
  | zero => exact .inl ⟨rfl, rfl, fun i hi => by omega⟩
  | succ n ih =>
    simp only [xFd, Nat.zero_add]
    cases e : snd n with
    | false =>
      rw [if_neg (by simp)]
      rcases ih with ⟨a, b, c⟩ | ⟨m, b, k, a1, a2, a3, a4, a5, a6, a7⟩
      · refine .inl ⟨a, b, fun i hi => ?_⟩
        by_cases u : i = n
        · subst u; exact e
        · exact c i (by omega)
      · refine .inr ⟨m, b, k, a1, a2, by omega, a4, a5, fun i hi q => ?_, a7⟩
        by_cases u : i = n
        · subst u; rw [e] at q; exact absurd q (by simp)
        · exact a6 i (by omega) q
    | true =>
      rw [if_pos rfl]
      have m6 := h6 n
      refine .inr ?_
      rcases ih with ⟨a, b, c⟩ | ⟨m, b, k, a1, a2, a3, a4, a5, a6, a7⟩
      · rw [a, b, if_pos (by omega), if_pos (by omega)]
        refine ⟨0, mv n, n, rfl, m6, by omega, e, rfl, fun i hi q => ?_, fun i hi q => ?_⟩
        · by_cases u : i = n
          · subst u; exact Nat.le_refl _
          · rw [c i (by omega)] at q; exact absurd q (by simp)
        · rw [c i (by omega)] at q; exact absurd q (by simp)
      · rw [a1]
        by_cases g : mv n < b
        · rw [if_pos g, if_pos g]
          refine ⟨m + 1, mv n, n, rfl, m6, by omega, e, rfl, fun i hi q => ?_, fun i hi q => ?_⟩
          · by_cases u : i = n
            · subst u; exact Nat.le_refl _
            · have := a6 i (by omega) q
              omega
          · have := a6 i (by omega) q
            omega
        · rw [if_neg g, if_neg g]
          refine ⟨m + 1, b, k, rfl, a2, by omega, a4, a5, fun i hi q => ?_, a7⟩
          by_cases u : i = n
          · subst u; omega
          · exact a6 i (by omega) q
/-! what both sides need of a sound plan -/
theorem xHL {nS nT : Nat} {z l : Nat → Nat → Nat} {w v : Nat → Nat} {sc : xSC} (p : Nat → Nat) (hp : ∀ u, u < nT → p u < nS ∧ xOK z l w sc u p (p u)) : xSB nS nT z l w sc (xNum nS p nT) = true ∧ xMB nS nT v (xNum nS p nT) = xMvp v p nT := by
  have hd : ∀ u, u < nT → xDig nS nT (xNum nS p nT) u = p u := fun u hu => by
    have hS : 0 < nS := by have := (hp u hu).1; omega
    have q := xDig_n (S := nS) (N := nT) (p := p) (t := nT) (u := u) (r := 0) hS (fun u hu => (hp u hu).1) hu (by omega) (by rw [Nat.sub_self]; simp)
    rw [Nat.sub_self, Nat.pow_zero, Nat.mul_one, Nat.add_zero] at q
    exact q
  refine ⟨xSB_t.mpr fun t ht => ?_, xMvp_c hd⟩
  rw [hd t ht]
  exact (xOK_c (fun u hu => hd u (by omega))).mpr (hp t ht).2
theorem xdg {nS nT t j : Nat} {p : Nat → Nat} (ht : t < nT) (hj : j < nS) (hp : ∀ u, u < t → p u < nS) {r : Nat} (hr : r < nS ^ (nT - (t + 1))) : ∀ u, u < t + 1 → xDig nS nT ((xNum nS p t * nS + j) * nS ^ (nT - (t + 1)) + r) u = pU p t j u := fun u hu => by
  have e : xNum nS (pU p t j) (t + 1) = xNum nS p t * nS + j := by
    simp only [xNum, pU_s, xNum_c (p := pU p t j) (q := p) (fun u hu => pU_o hu)]
  rw [← e]
  refine xDig_n (by omega) (fun x hx => ?_) hu (by omega) hr
  by_cases g : x = t
  · subst g; rw [pU_s]; exact hj
  · rw [pU_o (by omega)]; exact hp x (by omega)
theorem xHP {nS nT : Nat} {z l : Nat → Nat → Nat} {w : Nat → Nat} {sc : xSC} (t : Nat) (p : Nat → Nat) (j : Nat) (ht : t < nT) (hj : j < nS) (hp : ∀ u, u < t → p u < nS) (no : ¬ xOK z l w sc t p j) (r : Nat) (hr : r < nS ^ (nT - (t + 1))) : xSB nS nT z l w sc ((xNum nS p t * nS + j) * nS ^ (nT - (t + 1)) + r) = false := by
  have D := xdg ht hj hp hr
  refine xSB_f fun q => no ?_
  have q := q t ht
  rw [D t (by omega), pU_s] at q
  exact (xOK_c (fun u hu => by rw [D u (by omega), pU_o hu])).mp q
theorem xMvp_m {v p : Nat → Nat} {a b : Nat} (h : a ≤ b) : xMvp v p a ≤ xMvp v p b := by
  induction b with
  | zero =>
    obtain rfl : a = 0 := by omega
    exact Nat.le_refl _
  | succ b ih =>
    by_cases e : a = b + 1
    · subst e; exact Nat.le_refl _
    · have := ih (by omega)
      simp only [xMvp]
      omega
theorem xHM {nS nT : Nat} {v : Nat → Nat} (t : Nat) (p : Nat → Nat) (j : Nat) (ht : t < nT) (hj : j < nS) (hp : ∀ u, u < t → p u < nS) (r : Nat) (hr : r < nS ^ (nT - (t + 1))) : xMvp v (pU p t j) (t + 1) ≤ xMB nS nT v ((xNum nS p t * nS + j) * nS ^ (nT - (t + 1)) + r) := by
  have D := xdg ht hj hp hr
  unfold xMB
  rw [← xMvp_c D]
  exact xMvp_m (by omega)
/-- both sides' data, from what holds between them -/
theorem xPR {k nS nT : Nat} {d : Int32} {sc : xSC} {sr : xSR} (h : xInv k d nS nT sc sr) : ∃ z l w v np, xPz nS nT z l w v sc ∧ xRz nS nT z l w v np sc sr := by
  obtain ⟨np, n1, n2, n3, n4, n5⟩ := h.par
  refine ⟨fun t m => (sc.1 8 t m).toNatClampNeg, fun j m => (sc.1 5 j m).toNatClampNeg, fun t => (sc.1 11 t 6).toNatClampNeg, fun t => (sc.1 11 t 3).toNatClampNeg, np, ⟨h.S4, h.T6, fun t m ht hm => ?_, fun j m hj hm => ?_, fun t ht => ?_, fun t ht => ?_⟩, h.c100, h.c103, fun t m ht hm => ?_, fun j m hj hm => ?_, fun t ht => ?_, n1, n3, n4, fun t ht o ho => ?_, fun j hj => ?_⟩
  · obtain ⟨n, a1, a2, a3, a4⟩ := h.siz t m ht hm
    show _ = nI ((sc.1 8 t m).toNatClampNeg) ∧ (sc.1 8 t m).toNatClampNeg ≤ 999
    rw [a3, nI_N (by omega)]
    exact ⟨rfl, by omega⟩
  · obtain ⟨n, a1, a2, a3, a4⟩ := h.lim j m hj hm
    show _ = nI ((sc.1 5 j m).toNatClampNeg) ∧ 1 ≤ (sc.1 5 j m).toNatClampNeg ∧ (sc.1 5 j m).toNatClampNeg ≤ 300
    rw [a3, nI_N (by omega)]
    exact ⟨rfl, by omega, by omega⟩
  · obtain ⟨n, a1, a2, a3⟩ := n5 t ht
    show _ = nI ((sc.1 11 t 6).toNatClampNeg) ∧ (sc.1 11 t 6).toNatClampNeg < 64
    rw [a2, nI_N (by omega)]
    exact ⟨rfl, by omega⟩
  · obtain ⟨n, a1, a2, a3⟩ := h.srv t ht
    have := h.S4
    show _ = nI ((sc.1 11 t 3).toNatClampNeg) ∧ (sc.1 11 t 3).toNatClampNeg < nS
    rw [a2, nI_N (by omega)]
    exact ⟨rfl, by omega⟩
  · obtain ⟨n, a1, a2, a3, a4⟩ := h.siz t m ht hm
    show _ = nI ((sc.1 8 t m).toNatClampNeg)
    rw [a3, nI_N (by omega), a4]
  · obtain ⟨n, a1, a2, a3, a4⟩ := h.lim j m hj hm
    show _ = nI ((sc.1 5 j m).toNatClampNeg)
    rw [a3, nI_N (by omega), a4]
  · obtain ⟨n, a1, a2, a3⟩ := h.srv t ht
    have := h.S4
    show _ = nI ((sc.1 11 t 3).toNatClampNeg)
    rw [a2, nI_N (by omega), a3]
  · obtain ⟨n, a1, a2, a3⟩ := n5 t ht
    show (((sc.1 11 t 6).toNatClampNeg).testBit o = true ↔ _)
    rw [a2, nI_N (by omega)]
    exact a3 o ho
  · rcases h.opn j hj with ⟨a1, a2⟩ | ⟨a1, a2⟩
    · rw [a1, a2]; simp
    · rw [a1, a2]; simp
