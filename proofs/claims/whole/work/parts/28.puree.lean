/-! what the reference says of use, room and presence -/
theorem xin6 {t : Nat} (h : t < 6) : xinb (nI t) 6 = true := xin_n h (by omega)
theorem xin4 {t : Nat} (h : t < 4) : xinb (nI t) 4 = true := xin_n h (by omega)
theorem nN {t : Nat} (h : t < 100) : (nI t).toNatClampNeg = t := nI_N (by omega)
theorem pres_r {t : Nat} {a : Int32} {sr : xSR} (ht : t < 6) : fX6_isPresent (nI t) a sr = some (if sr.1 8 t = a ∨ ((sr.1 9 t = 1 ∨ sr.1 9 t = 2) ∧ sr.1 11 t = a) then 1 else 0) := by
  unfold fX6_isPresent fX6_isComing
  simp only [xin6 ht, nN (show t < 100 by omega), oG_t, oB_s, oP_s, oT_r, oT_l, oC_r, oC_l, oN_s, oN_n]
  by_cases h1 : sr.1 8 t = a
  · simp [h1]
  · by_cases h2 : sr.1 9 t = 1
    · by_cases h3 : sr.1 11 t = a <;> simp [h1, h2, h3, oG_t, oB_s, oP_s, oT_r, oT_l, oC_r, oC_l, oN_s, oN_n]
    · by_cases h2' : sr.1 9 t = 2
      · by_cases h3 : sr.1 11 t = a <;> simp [h1, h2', h3, oG_t, oB_s, oP_s, oT_r, oT_l, oC_r, oC_l, oN_s, oN_n]
      · simp [h1, h2, h2', oG_t, oB_s, oP_s, oT_r, oT_l, oC_r, oC_l, oN_s, oN_n]
theorem pres_q {k nS nT : Nat} {d : Int32} {sc : xSC} {sr : xSR} (h : xInv k d nS nT sc sr) {t : Nat} {a : Int32} (ht : t < nT) : (sr.1 8 t = a ∨ ((sr.1 9 t = 1 ∨ sr.1 9 t = 2) ∧ sr.1 11 t = a)) = (sc.1 11 t 3 = a ∨ ((sc.1 9 t 0 = 99 ∨ sc.1 9 t 0 = 102) ∧ sc.1 9 t 2 = a)) := by
  obtain ⟨j, -, e1, e2⟩ := h.srv t ht
  rw [e1, e2]
  rcases h.mov t ht with ⟨p, q⟩ | ⟨i, j, n, -, -, -, b, -, -, d, ⟨p, q, -⟩ | ⟨p, q, -⟩ | ⟨p, q, -⟩⟩ <;> simp [p, q, *]
theorem clean_q {k nS nT : Nat} {d : Int32} {sc : xSC} {sr : xSR} (h : xInv k d nS nT sc sr) {t : Nat} {a : Int32} (ht : t < nT) : (sr.1 9 t = 3 ∧ sr.1 10 t = a) = (sc.1 9 t 0 = 100 ∧ sc.1 9 t 1 = a) := by
  rcases h.mov t ht with ⟨p, q⟩ | ⟨i, j, n, -, -, b, -, -, d, -, ⟨p, q, -⟩ | ⟨p, q, -⟩ | ⟨p, q, -⟩⟩ <;> simp [p, q, *]
theorem use_s1 {k nS nT : Nat} {d : Int32} {sc : xSC} {sr : xSR} (h : xInv k d nS nT sc sr) {j m i n : Nat} (hi : i < nT) (hm : m < 3) : fX6_use_L1 (nI j) (nI m) sr fX6_use_K1 (n + 1) (xSum i (fun t => xUse sc t j m)) (nI i) = fX6_use_L1 (nI j) (nI m) sr fX6_use_K1 n (xSum (i + 1) (fun t => xUse sc t j m)) (nI (i + 1)) := by
  have h6 := h.T6
  obtain ⟨w, -, -, s1, s2⟩ := h.siz i m hi hm
  rw [fX6_use_L1]
  simp only [h.c103, geN hi (by omega), pres_r (show i < 6 by omega), pres_q h hi, xin6 (show i < 6 by omega), nN (show i < 100 by omega), nI_3m, xin_n (show 3 * i + m < 18 by omega) (by omega), nN (show 3 * i + m < 100 by omega), nI_1, s2, if_false, xSum, oG_t, oB_s, oP_s, oT_r, oT_l, oC_r, oC_l, oN_s, oN_n]
  by_cases h1 : sc.1 11 i 3 = nI j ∨ ((sc.1 9 i 0 = 99 ∨ sc.1 9 i 0 = 102) ∧ sc.1 9 i 2 = nI j)
  · have e : xUse sc i j m = nI w := by
      unfold xUse
      rw [if_pos (by rcases h1 with h | h; exact .inl h; exact .inr (.inl h)), s1]
    simp [h1, e]
  · by_cases h0 : m = 0
    · subst h0
      by_cases h2 : sc.1 9 i 0 = 100 ∧ sc.1 9 i 1 = nI j
      · have e : xUse sc i j 0 = nI w := by
          unfold xUse
          rw [if_pos (.inr (.inr ⟨rfl, h2⟩)), s1]
        have g := h2
        rw [← clean_q h hi] at g
        simp [h1, nI_0, g.1, g.2, e]
      · have e : xUse sc i j 0 = 0 := by
          unfold xUse
          rw [if_neg]
          rintro (g | g | g)
          · exact h1 (.inl g)
          · exact h1 (.inr g)
          · exact h2 g.2
        have g := h2
        rw [← clean_q h hi] at g
        by_cases g1 : sr.1 9 i = 3
        · have g2 : ¬ sr.1 10 i = nI j := fun x => g ⟨g1, x⟩
          simp [h1, nI_0, g1, g2, e]
        · simp [h1, nI_0, g1, e]
    · have e : xUse sc i j m = 0 := by
        unfold xUse
        rw [if_neg]
        rintro (g | g | g)
        · exact h1 (.inl g)
        · exact h1 (.inr g)
        · exact h0 g.1
      simp [h1, nI_ne0 (show 0 < m by omega) (by omega), e]
theorem use_r {k nS nT : Nat} {d : Int32} {sc : xSC} {sr : xSR} (h : xInv k d nS nT sc sr) {j m : Nat} {a2 : Int32} (ha : a2 = nI m) (hj : j < nS) (hm : m < 3) : fX6_use (nI j) a2 sr = some (sc.1 6 j m) := by
  subst ha
  have h6 := h.T6
  obtain ⟨s', hs, e⟩ := xlpR (fun n i s => fX6_use_L1 (nI j) (nI m) sr fX6_use_K1 n s i) (fun s => some s) (fun i s => s = xSum i (fun t => xUse sc t j m)) nT nT (by omega)
    (fun n i s hi hp => ⟨_, by subst hp; exact use_s1 h hi hm, rfl⟩)
    (fun n i s h1 h2 => by omega)
    (fun n s hp => by
      show fX6_use_L1 (nI j) (nI m) sr fX6_use_K1 (n + 1) s (nI nT) = some s
      rw [fX6_use_L1]
      simp only [h.c103, leN, if_true, fX6_use_K1])
    64 (by omega) 0 rfl
  have e : fX6_use_L1 (nI j) (nI m) sr fX6_use_K1 64 0 (nI 0) = some s' := e
  rw [nI_0] at e
  rw [fX6_use, e, hs, h.use j m hj hm]
theorem full_r {k nS nT : Nat} {d : Int32} {sc : xSC} {sr : xSR} (h : xInv k d nS nT sc sr) {j m : Nat} {a2 x : Int32} (ha : a2 = nI m) (hj : j < nS) (hm : m < 3) : fX6_isFull (nI j) a2 x sr = some (if sc.1 5 j m < sc.1 6 j m + x then 1 else 0) := by
  have h4 := h.S4
  obtain ⟨w, -, -, s1, s2⟩ := h.lim j m hj hm
  unfold fX6_isFull
  rw [use_r h ha hj hm]
  subst ha
  simp only [nI_3m, xin_n (show 3 * j + m < 12 by omega) (by omega), nN (show 3 * j + m < 100 by omega), s1, s2, oG_t, oB_s, oP_s, oT_r, oT_l, oC_r, oC_l, oN_s, oN_n]
  by_cases g : nI w < sc.1 6 j m + x
  · rw [if_neg (Int32.not_le.mpr g), if_pos g]
  · rw [if_pos (Int32.not_lt.mp g), if_neg g]
theorem room_rf {k nS nT : Nat} {d : Int32} {sc : xSC} {sr : xSR} (h : xInv k d nS nT sc sr) (f : Nat) {t j : Nat} (ht : t < nT) (hj : j < nS) : fX6_hasRoom_L1 (nI t) (nI j) sr fX6_hasRoom_K1 (f + 4) 0 = fX3_hasRoom nS nT j (sc.1 8 t 0) (sc.1 8 t 1) (sc.1 8 t 2) sc ∧ fX6_hasRoom_L1 (nI t) (nI j) sr fX6_hasRoom_K1 (f + 3) 1 = fX3_hasRoomBesidesStorage nS nT j 8 t sc := by
  have h6 := h.T6
  obtain ⟨w0, -, -, p0, q0⟩ := h.siz t 0 ht (by omega)
  obtain ⟨w1, -, -, p1, q1⟩ := h.siz t 1 ht (by omega)
  obtain ⟨w2, -, -, p2, q2⟩ := h.siz t 2 ht (by omega)
  have a1 : (0 : Int32) + 1 = 1 := rfl
  have a2 : (1 : Int32) + 1 = 2 := rfl
  have a3 : (2 : Int32) + 1 = 3 := rfl
  have l0 : ((3 : Int32) ≤ 0) = False := eq_false (by decide)
  have l1 : ((3 : Int32) ≤ 1) = False := eq_false (by decide)
  have l2 : ((3 : Int32) ≤ 2) = False := eq_false (by decide)
  have l3 : ((3 : Int32) ≤ 3) = True := eq_true (by decide)
  have m0 : (3 : Int32) * nI t + 0 = nI (3 * t + 0) := nI_3m t 0
  have m1 : (3 : Int32) * nI t + 1 = nI (3 * t + 1) := nI_3m t 1
  have m2 : (3 : Int32) * nI t + 2 = nI (3 * t + 2) := nI_3m t 2
  have z01 : ((0 : Int32) = 1) = False := eq_false (by decide)
  have z10 : ((1 : Int32) = 0) = False := eq_false (by decide)
  constructor
  · simp only [fX6_hasRoom_L1, l0, l1, l2, l3, a1, a2, a3, m0, m1, m2, xin_n (show 3 * t + 0 < 18 by omega) (by omega), xin_n (show 3 * t + 1 < 18 by omega) (by omega), xin_n (show 3 * t + 2 < 18 by omega) (by omega), nN (show 3 * t + 0 < 100 by omega), nN (show 3 * t + 1 < 100 by omega), nN (show 3 * t + 2 < 100 by omega), q0, q1, q2, full_r h (show (0 : Int32) = nI 0 from rfl) hj (by omega), full_r h (show (1 : Int32) = nI 1 from rfl) hj (by omega), full_r h (show (2 : Int32) = nI 2 from rfl) hj (by omega), if_false, if_true, fX6_hasRoom_K1, fX3_hasRoom, p0, p1, p2, oG_t, oB_s, oP_s, oT_r, oT_l, oC_r, oC_l, oN_s, oN_n]
    by_cases g0 : sc.1 5 j 0 < sc.1 6 j 0 + nI w0
    · simp [g0]
    · by_cases g1 : sc.1 5 j 1 < sc.1 6 j 1 + nI w1
      · simp [g0, g1]
      · by_cases g2 : sc.1 5 j 2 < sc.1 6 j 2 + nI w2
        · simp [g0, g1, g2]
        · simp [g0, g1, g2]
  · simp only [fX6_hasRoom_L1, l0, l1, l2, l3, a1, a2, a3, m0, m1, m2, xin_n (show 3 * t + 1 < 18 by omega) (by omega), xin_n (show 3 * t + 2 < 18 by omega) (by omega), nN (show 3 * t + 1 < 100 by omega), nN (show 3 * t + 2 < 100 by omega), q1, q2, full_r h (show (1 : Int32) = nI 1 from rfl) hj (by omega), full_r h (show (2 : Int32) = nI 2 from rfl) hj (by omega), if_false, if_true, fX6_hasRoom_K1, fX3_hasRoomBesidesStorage, p1, p2, oG_t, oB_s, oP_s, oT_r, oT_l, oC_r, oC_l, oN_s, oN_n]
    by_cases g1 : sc.1 5 j 1 < sc.1 6 j 1 + nI w1
    · simp [g1]
    · by_cases g2 : sc.1 5 j 2 < sc.1 6 j 2 + nI w2
      · simp [g1, g2]
      · simp [g1, g2]
theorem room_r {k nS nT : Nat} {d : Int32} {sc : xSC} {sr : xSR} (h : xInv k d nS nT sc sr) {t j : Nat} (ht : t < nT) (hj : j < nS) : fX6_hasRoom (nI t) (nI j) 0 sr = fX3_hasRoom nS nT j (sc.1 8 t 0) (sc.1 8 t 1) (sc.1 8 t 2) sc := (room_rf h 60 ht hj).1
theorem room_r1 {k nS nT : Nat} {d : Int32} {sc : xSC} {sr : xSR} (h : xInv k d nS nT sc sr) {t j : Nat} (ht : t < nT) (hj : j < nS) : fX6_hasRoom (nI t) (nI j) 1 sr = fX3_hasRoomBesidesStorage nS nT j 8 t sc := (room_rf h 61 ht hj).2
theorem room_b {nS nT j : Nat} {a b c : Int32} {sc : xSC} : fX3_hasRoom nS nT j a b c sc = some 0 ∨ fX3_hasRoom nS nT j a b c sc = some 1 := by
  unfold fX3_hasRoom
  split
  · exact .inl rfl
  · split
    · exact .inl rfl
    · split
      · exact .inl rfl
      · exact .inr rfl
theorem much_rf {k nS nT : Nat} {d : Int32} {sc : xSC} {sr : xSR} (h : xInv k d nS nT sc sr) (f : Nat) {j : Nat} (hj : j < nS) : fX6_isTooMuch_L1 (nI j) sr fX6_isTooMuch_K1 (f + 4) 0 = fX3_usesTooMuch nS nT j sc := by
  have a1 : (0 : Int32) + 1 = 1 := rfl
  have a2 : (1 : Int32) + 1 = 2 := rfl
  have a3 : (2 : Int32) + 1 = 3 := rfl
  have l0 : ((3 : Int32) ≤ 0) = False := eq_false (by decide)
  have l1 : ((3 : Int32) ≤ 1) = False := eq_false (by decide)
  have l2 : ((3 : Int32) ≤ 2) = False := eq_false (by decide)
  have l3 : ((3 : Int32) ≤ 3) = True := eq_true (by decide)
  simp only [fX6_isTooMuch_L1, l0, l1, l2, l3, a1, a2, a3, full_r h (show (0 : Int32) = nI 0 from rfl) hj (by omega), full_r h (show (1 : Int32) = nI 1 from rfl) hj (by omega), full_r h (show (2 : Int32) = nI 2 from rfl) hj (by omega), if_false, if_true, fX6_isTooMuch_K1, fX3_usesTooMuch, Int32.add_zero, oG_t, oB_s, oP_s, oT_r, oT_l, oC_r, oC_l, oN_s, oN_n]
  by_cases g0 : sc.1 5 j 0 < sc.1 6 j 0
  · simp [g0]
  · by_cases g1 : sc.1 5 j 1 < sc.1 6 j 1
    · simp [g0, g1]
    · by_cases g2 : sc.1 5 j 2 < sc.1 6 j 2
      · simp [g0, g1, g2, Int32.not_le.mpr g2]
      · simp [g0, g1, g2, Int32.not_lt.mp g2]
theorem much_r {k nS nT : Nat} {d : Int32} {sc : xSC} {sr : xSR} (h : xInv k d nS nT sc sr) {j : Nat} (hj : j < nS) : fX6_isTooMuch (nI j) sr = fX3_usesTooMuch nS nT j sc := much_rf h 60 hj
theorem much_b {nS nT j : Nat} {sc : xSC} : fX3_usesTooMuch nS nT j sc = some 0 ∨ fX3_usesTooMuch nS nT j sc = some 1 := by
  unfold fX3_usesTooMuch
  split
  · exact .inr rfl
  · split
    · exact .inr rfl
    · split
      · exact .inl rfl
      · exact .inr rfl
