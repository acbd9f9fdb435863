/-! hours and windows; cases of settings -/
theorem xor24 {n : Nat} (h : n < 1000000) : nI n ^^^ 24 = nI (n ^^^ 24) := by
  have h1 : n ^^^ 24 < 2 ^ 30 := Nat.xor_lt_two_pow (by omega) (by omega)
  apply Int32.toBitVec_inj.mp
  apply BitVec.eq_of_toNat_eq
  rw [Int32.toBitVec_xor, BitVec.toNat_xor, pk_tn (by omega), pk_tn (by omega)]
  rfl
theorem fm_p {n : Nat} (h : n < 1000000) : fJ9_floorMod_7cf53 (nI n) 24 = some (nI (n % 24)) := by
  have h1 : n ^^^ 24 < 2 ^ 30 := Nat.xor_lt_two_pow (by omega) (by omega)
  have e := pk_rem (a := n) (d := 24) (by omega) (by omega) (by omega)
  rw [show nI 24 = (24 : Int32) from rfl] at e
  unfold fJ9_floorMod_7cf53
  rw [xor24 h, if_pos (nI_pos' (by omega)), e]
  exact if_pos (by decide)
theorem fm_d : ∀ a, a < 24 → ∀ b, b < 24 → fJ9_floorMod_7cf53 (nI a - nI b) 24 = some (nI ((a + 24 - b) % 24)) := by
  decide +kernel
theorem wh_e {nS nT t a b : Nat} {sc : xSC} (ha : a < 24) (hb : b < 24) (e1 : sc.1 11 t 4 = nI a) (e2 : sc.1 11 t 5 = nI b) : fX4_windowHours nS nT t sc = some (nI (if a < b then b - a else b + 24 - a)) := by
  unfold fX4_windowHours
  rw [e1, e2, fm_d b hb a ha, oB_s]
  by_cases g : a < b
  · rw [if_pos g, show (b + 24 - a) % 24 = b - a by omega, if_neg (nI_ne0 (by omega) (by omega))]
  · rw [if_neg g]
    by_cases g' : a = b
    · subst g'
      rw [show (a + 24 - a) % 24 = 0 by omega, show a + 24 - a = 24 by omega]
      rfl
    · rw [show (b + 24 - a) % 24 = b + 24 - a by omega, if_neg (nI_ne0 (by omega) (by omega))]
/-- whether an hour of the day lies in a window -/
def xWin (a b x : Nat) : Bool := if a = b then true else if a < b then decide (a ≤ x ∧ x < b) else decide (a ≤ x ∨ x < b)
theorem iw_e {nS nT t a b x : Nat} {sc : xSC} (ha : a < 24) (hb : b < 24) (hx : x < 24) (e1 : sc.1 11 t 4 = nI a) (e2 : sc.1 11 t 5 = nI b) : fX4_isInWindow nS nT t (nI x) sc = some (if xWin a b x then 1 else 0) := by
  unfold fX4_isInWindow
  rw [e1, fm_d x hx a ha, wh_e ha hb e1 e2, oB_s, oB_s]
  by_cases g : (if a < b then b - a else b + 24 - a) ≤ (x + 24 - a) % 24
  · rw [if_pos (nI_le g (by omega)), if_neg]
    unfold xWin
    split at g
    · simp; split <;> (try split) <;> simp <;> omega
    · simp; split <;> (try split) <;> simp <;> omega
  · rw [if_neg (by rw [nI_leI (by split <;> omega) (by omega)]; exact g), if_pos]
    unfold xWin
    split at g
    · split <;> (try split) <;> simp <;> omega
    · split <;> (try split) <;> simp <;> omega
theorem iw_r {t a b x : Nat} {sr : xSR} (ht : t < 6) (ha : a < 24) (hb : b < 24) (hx : x < 24) (e1 : sr.1 6 t = nI a) (e2 : sr.1 7 t = nI b) : fX6_isInWindow (nI t) (nI x) sr = some (if xWin a b x then 1 else 0) := by
  unfold fX6_isInWindow
  simp only [xin6 ht, nN (show t < 100 by omega), e1, e2, oG_t, oB_s, oP_s, oT_r, oT_l, oC_r, oC_l, oN_s, oN_n]
  unfold xWin
  by_cases g : a = b
  · rw [if_pos (by rw [g]), if_pos g]; rfl
  · rw [if_neg (by rw [nI_eq (by omega) (by omega)]; exact g), if_neg g]
    by_cases g1 : a < b
    · rw [if_neg (nI_ge g1 (by omega)), if_pos g1]
      obtain ⟨c, rfl⟩ : ∃ c, b = c + 1 := ⟨b - 1, by omega⟩
      rw [nI_pred]
      by_cases g2 : a ≤ x ∧ x < c + 1
      · rw [in_y (nI_le g2.1 (by omega)) (nI_le (by omega) (by omega)), oB_s, if_neg (by decide), if_pos (by simpa using g2)]
      · rw [in_n (by by_cases g3 : x < a; exact .inl (nI_lt g3 (by omega)); exact .inr (nI_lt (by omega) (by omega))), oB_s, if_pos rfl, if_neg (by simpa using g2)]
    · rw [if_pos (nI_le (by omega) (by omega)), if_neg g1]
      by_cases g2 : a ≤ x
      · rw [if_pos (nI_le g2 (by omega)), if_pos (by simp [g2])]
      · rw [if_neg (nI_ge (by omega) (by omega))]
        by_cases g3 : b ≤ x
        · rw [if_pos (nI_le g3 (by omega)), if_neg (by simp; omega)]
        · rw [if_neg (nI_ge (by omega) (by omega)), if_pos (by simp; omega)]
