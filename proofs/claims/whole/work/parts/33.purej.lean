/-! pairs, barred shards, reasons -/
theorem xsch {β : Type} (L : Nat → Int32 → Option β) (N M : Nat) (hNM : N ≤ M) (q : Nat → Bool) (v w : β)
    (h1 : ∀ n i, i < N → L (n + 1) (nI i) = if q i = true then some v else L n (nI (i + 1)))
    (h2 : ∀ n i, N ≤ i → i < M → L (n + 1) (nI i) = L n (nI (i + 1)))
    (h3 : ∀ n, L (n + 1) (nI M) = some w) (f : Nat) (hf : M < f) :
    ((∃ i, i < N ∧ q i = true) ∧ L f (nI 0) = some v) ∨ ((∀ i, i < N → q i = false) ∧ L f (nI 0) = some w) := by
  have B : ∀ d i f, M - i = d → N ≤ i → i ≤ M → M < f + i → L f (nI i) = some w := by
    intro d
    induction d with
    | zero =>
      intro i f e hi hi' hf
      obtain rfl : i = M := by omega
      obtain ⟨g, rfl⟩ : ∃ g, f = g + 1 := ⟨f - 1, by omega⟩
      exact h3 g
    | succ d ih =>
      intro i f e hi hi' hf
      obtain ⟨g, rfl⟩ : ∃ g, f = g + 1 := ⟨f - 1, by omega⟩
      rw [h2 g i hi (by omega)]
      exact ih (i + 1) g (by omega) (by omega) (by omega) (by omega)
  have A : ∀ d i f, N - i = d → i ≤ N → M < f + i → ((∃ j, i ≤ j ∧ j < N ∧ q j = true) ∧ L f (nI i) = some v) ∨ ((∀ j, i ≤ j → j < N → q j = false) ∧ L f (nI i) = some w) := by
    intro d
    induction d with
    | zero =>
      intro i f e hi hf
      obtain rfl : i = N := by omega
      exact .inr ⟨fun j a b => by omega, B (M - i) i f rfl (by omega) hNM hf⟩
    | succ d ih =>
      intro i f e hi hf
      obtain ⟨g, rfl⟩ : ∃ g, f = g + 1 := ⟨f - 1, by omega⟩
      rw [h1 g i (by omega)]
      cases hq : q i with
      | true => exact .inl ⟨⟨i, by omega, by omega, hq⟩, if_pos rfl⟩
      | false =>
        rw [if_neg (by simp)]
        rcases ih (i + 1) g (by omega) (by omega) (by omega) with ⟨⟨j, a, b, c⟩, e2⟩ | ⟨a, e2⟩
        · exact .inl ⟨⟨j, by omega, b, c⟩, e2⟩
        · refine .inr ⟨fun j b c => ?_, e2⟩
          rcases Nat.eq_or_lt_of_le b with rfl | b
          · exact hq
          · exact a j b c
  rcases A N 0 f (by omega) (by omega) (by omega) with ⟨⟨j, a, b, c⟩, e2⟩ | ⟨a, e2⟩
  · exact .inl ⟨⟨j, b, c⟩, e2⟩
  · exact .inr ⟨fun j b => a j (by omega) b, e2⟩
theorem bit_d : ∀ w, w < 64 → ∀ o, o < 6 → (((nI w >>> (nI o &&& 31)) &&& 1 = 0) ↔ w.testBit o = false) := by
  decide +kernel
theorem bit_o : ∀ w, w < 64 → ∀ o, o < 6 → (nI w ||| (1 <<< (nI o &&& 31))) = nI (w ||| (1 <<< o)) := by
  decide +kernel
theorem apf_e {nS nT t o w : Nat} {sc : xSC} (hw : w < 64) (ho : o < 6) (e : sc.1 11 t 6 = nI w) : fX4_isApartFrom nS nT t (nI o) sc = some (if w.testBit o = true then 1 else 0) := by
  unfold fX4_isApartFrom
  rw [e]
  cases hq : w.testBit o with
  | true => rw [if_neg (by rw [bit_d w hw o ho, hq]; simp)]; rfl
  | false => rw [if_pos ((bit_d w hw o ho).mpr hq)]; rfl
theorem ap_r {a b np : Nat} {sr : xSR} (hn : np ≤ 6) (e : sr.1 113 0 = nI np) : ((∃ p, p < np ∧ ((sr.1 14 p = nI a ∧ sr.1 15 p = nI b) ∨ (sr.1 14 p = nI b ∧ sr.1 15 p = nI a))) ∧ fX6_areApart (nI a) (nI b) sr = some 1) ∨ ((¬ ∃ p, p < np ∧ ((sr.1 14 p = nI a ∧ sr.1 15 p = nI b) ∨ (sr.1 14 p = nI b ∧ sr.1 15 p = nI a))) ∧ fX6_areApart (nI a) (nI b) sr = some 0) := by
  have A := xsch (fun n i => fX6_areApart_L1 (nI a) (nI b) sr fX6_areApart_K1 n i) np np (by omega) (fun p => decide ((sr.1 14 p = nI a ∧ sr.1 15 p = nI b) ∨ (sr.1 14 p = nI b ∧ sr.1 15 p = nI a))) 1 0
    (fun n i hi => by
      show fX6_areApart_L1 (nI a) (nI b) sr fX6_areApart_K1 (n + 1) (nI i) = _
      rw [fX6_areApart_L1]
      simp only [e, geN hi (by omega), xin6 (show i < 6 by omega), nN (show i < 100 by omega), nI_1, if_false, decide_eq_true_eq, oG_t, oB_s, oP_s, oT_r, oT_l, oC_r, oC_l, oN_s, oN_n]
      by_cases g1 : sr.1 14 i = nI a
      · by_cases g2 : sr.1 15 i = nI b
        · simp only [g1, g2, if_true, true_and, true_or]
        · by_cases g3 : nI a = nI b
          · by_cases g4 : sr.1 15 i = nI a
            · simp only [g1, g2, g3, g4, if_true, if_false, true_and, true_or]
            · simp only [g1, g2, g3, g4, if_true, if_false, true_and, false_or, and_false, and_self]
          · simp only [g1, g2, g3, if_true, if_false, true_and, false_and, or_false]
      · by_cases g3 : sr.1 14 i = nI b
        · by_cases g4 : sr.1 15 i = nI a
          · simp only [g1, g3, g4, if_true, if_false, and_self, or_true]
            simp
          · have g6 : ¬ nI b = nI a := fun x => g1 (g3.trans x)
            simp [g3, g4, g6]
        · simp only [g1, g3, if_false, false_and, or_false])
    (fun n i h1 h2 => by omega)
    (fun n => by
      show fX6_areApart_L1 (nI a) (nI b) sr fX6_areApart_K1 (n + 1) (nI np) = some 0
      rw [fX6_areApart_L1]
      simp only [e, leN, if_true, fX6_areApart_K1])
    64 (by omega)
  simp only [nI_0, decide_eq_true_eq, decide_eq_false_iff_not] at A
  rcases A with ⟨⟨p, h1, h2⟩, h3⟩ | ⟨h1, h3⟩
  · exact .inl ⟨⟨p, h1, h2⟩, h3⟩
  · exact .inr ⟨fun ⟨p, h4, h5⟩ => h1 p h4 h5, h3⟩
theorem bar_e {k nS nT : Nat} {d : Int32} {sc : xSC} {sr : xSR} (h : xInv k d nS nT sc sr) {t j : Nat} (ht : t < nT) : ∃ v, (v = 0 ∨ v = 1) ∧ fX5_isBarred nS nT (nI j) t sc = some v ∧ fX6_isBarred (nI t) (nI j) sr = some v := by
  have h6 := h.T6
  obtain ⟨np, p1, p2, p3, p4, p5⟩ := h.par
  obtain ⟨w, w1, w2, w3⟩ := p5 t ht
  have A := xsch (fun n i => fX5_isBarred_L1 nS nT (nI j) t sc fX5_isBarred_K1 n i) nT 6 h6 (fun o => w.testBit o && decide (sc.1 11 o 3 = nI j ∨ ((sc.1 9 o 0 = 99 ∨ sc.1 9 o 0 = 102) ∧ sc.1 9 o 2 = nI j))) 1 0
    (fun n i hi => by
      show fX5_isBarred_L1 nS nT (nI j) t sc fX5_isBarred_K1 (n + 1) (nI i) = _
      rw [fX5_isBarred_L1]
      simp only [ge6 (show i < 6 by omega), xin6 (show i < 6 by omega), xel_n hi (by omega), apf_e w1 (show i < 6 by omega) w2, pres_e, nI_1, if_false, oG_t, oB_s, oP_s, oT_r, oT_l, oC_r, oC_l, oN_s, oN_n]
      cases hb : w.testBit i with
      | false => simp
      | true =>
        by_cases g : sc.1 11 i 3 = nI j ∨ ((sc.1 9 i 0 = 99 ∨ sc.1 9 i 0 = 102) ∧ sc.1 9 i 2 = nI j)
        · simp [g]
        · simp [g])
    (fun n i h1 h2 => by
      show fX5_isBarred_L1 nS nT (nI j) t sc fX5_isBarred_K1 (n + 1) (nI i) = fX5_isBarred_L1 nS nT (nI j) t sc fX5_isBarred_K1 n (nI (i + 1))
      rw [fX5_isBarred_L1]
      simp only [ge6 h2, xin6 h2, xel_o (show ¬ i < nT by omega) (by omega), nI_1, if_false, oG_t, oB_s, oP_s, oT_r, oT_l, oC_r, oC_l, oN_s, oN_n])
    (fun n => by
      show fX5_isBarred_L1 nS nT (nI j) t sc fX5_isBarred_K1 (n + 1) (nI 6) = some 0
      rw [fX5_isBarred_L1]
      simp only [le6, if_true, fX5_isBarred_K1])
    64 (by omega)
  have B := xsch (fun n i => fX6_isBarred_L1 (nI t) (nI j) sr fX6_isBarred_K1 n i) nT nT (by omega) (fun o => w.testBit o && decide (sc.1 11 o 3 = nI j ∨ ((sc.1 9 o 0 = 99 ∨ sc.1 9 o 0 = 102) ∧ sc.1 9 o 2 = nI j))) 1 0
    (fun n i hi => by
      show fX6_isBarred_L1 (nI t) (nI j) sr fX6_isBarred_K1 (n + 1) (nI i) = _
      rw [fX6_isBarred_L1]
      simp only [h.c103, geN hi (by omega), pres_r (show i < 6 by omega), pres_q h hi, nI_1, if_false, oG_t, oB_s, oP_s, oT_r, oT_l, oC_r, oC_l, oN_s, oN_n]
      by_cases e : i = t
      · subst e
        have : w.testBit i = false := by
          cases hb : w.testBit i with
          | false => rfl
          | true =>
            obtain ⟨p, hp, hq⟩ := (w3 i (by omega)).mp hb
            obtain ⟨a, b, a1, b1, ab, q1, q2⟩ := p4 p hp
            rw [q1, q2] at hq
            rcases hq with ⟨x, y⟩ | ⟨x, y⟩
            · rw [nI_eq (by omega) (by omega)] at x y
              omega
            · rw [nI_eq (by omega) (by omega)] at x y
              omega
        simp [this]
      · have e' : ¬ nI i = nI t := by
          rw [nI_eq (by omega) (by omega)]
          exact e
        rw [if_neg e']
        by_cases g : sc.1 11 i 3 = nI j ∨ ((sc.1 9 i 0 = 99 ∨ sc.1 9 i 0 = 102) ∧ sc.1 9 i 2 = nI j)
        · rcases ap_r (a := i) (b := t) p1 p3 with ⟨x, y⟩ | ⟨x, y⟩
          · have z : w.testBit i = true := (w3 i (by omega)).mpr (by
              obtain ⟨p, hp, hq⟩ := x
              exact ⟨p, hp, hq.symm⟩)
            simp [g, y, z, oG_t, oB_s, oP_s, oT_r, oT_l, oC_r, oC_l, oN_s, oN_n]
          · have z : w.testBit i = false := by
              cases hb : w.testBit i with
              | false => rfl
              | true =>
                obtain ⟨p, hp, hq⟩ := (w3 i (by omega)).mp hb
                exact absurd ⟨p, hp, hq.symm⟩ x
            simp [g, y, z, oG_t, oB_s, oP_s, oT_r, oT_l, oC_r, oC_l, oN_s, oN_n]
        · simp [g])
    (fun n i h1 h2 => by omega)
    (fun n => by
      show fX6_isBarred_L1 (nI t) (nI j) sr fX6_isBarred_K1 (n + 1) (nI nT) = some 0
      rw [fX6_isBarred_L1]
      simp only [h.c103, leN, if_true, fX6_isBarred_K1])
    64 (by omega)
  simp only [nI_0] at A B
  rcases A with ⟨⟨i, i1, i2⟩, A⟩ | ⟨a, A⟩
  · rcases B with ⟨-, B⟩ | ⟨b, B⟩
    · exact ⟨1, .inr rfl, A, B⟩
    · exact absurd (b i i1) (by rw [i2]; simp)
  · rcases B with ⟨⟨i, i1, i2⟩, B⟩ | ⟨b, B⟩
    · exact absurd (a i i1) (by rw [i2]; simp)
    · exact ⟨0, .inl rfl, A, B⟩
