/-! the reference goes through all plans -/
theorem cpy3 {nT : Nat} (h6 : nT ≤ 6) (k : Int32 → xSR → Option (Int32 × xSR)) {s : xSR} (e3 : s.1 103 0 = nI nT) : ∃ s', fX6_sound_L3 k 64 0 s = k (nI nT) s' ∧ (∀ a b, a ≠ 20 → s'.1 a b = s.1 a b) ∧ s'.2 = s.2 ∧ ∀ t, t < nT → s'.1 20 t = s.1 19 t := by
  obtain ⟨s', ⟨r1, r2, r3⟩, E⟩ := xlpR (fun f i s => fX6_sound_L3 k f i s) (fun s => k (nI nT) s) (fun i s' => (∀ a b, a ≠ 20 → s'.1 a b = s.1 a b) ∧ s'.2 = s.2 ∧ ∀ t, t < i → s'.1 20 t = s.1 19 t) nT nT (Nat.le_refl _)
    (fun g i s' hi hp => by
      obtain ⟨c1, c2, c3⟩ := hp
      refine ⟨(xuR s'.1 20 i (s'.1 19 i), s'.2), ?_, fun a b h => ?_, c2, fun t ht => ?_⟩
      · show fX6_sound_L3 k (g + 1) (nI i) s' = fX6_sound_L3 k g (nI (i + 1)) _
        rw [fX6_sound_L3]
        simp only [c1 103 0 (by omega), e3, geN hi (by omega), xin6' (show i < 6 by omega), nI_N (show i < 1000000 by omega), nI_1, if_false, oG_t, oB_s, oP_s, oT_r, oT_l, oC_r, oC_l, oN_s, oN_n]
      · simp only [xuR]
        rw [if_neg (by omega)]
        exact c1 a b h
      · by_cases e : t = i
        · subst e
          simp only [xuR]
          simp [c1 19 t (by omega)]
        · simp only [xuR]
          rw [if_neg (by omega)]
          exact c3 t (by omega))
    (fun g i x h1 h2 => by omega)
    (fun g s' hp => by
      show fX6_sound_L3 k (g + 1) (nI nT) s' = k (nI nT) s'
      rw [fX6_sound_L3]
      simp only [hp.1 103 0 (by omega), e3, leN, if_true])
    64 (by omega) s ⟨fun a b h => rfl, rfl, fun t ht => by omega⟩
  have E : fX6_sound_L3 k 64 (nI 0) s = k (nI nT) s' := E
  rw [nI_0] at E
  exact ⟨s', E, r1, r2, r3⟩
theorem cpy4 {nT : Nat} (h6 : nT ≤ 6) (k : Int32 → xSR → Option (Int32 × xSR)) {s : xSR} (e3 : s.1 103 0 = nI nT) : ∃ s', fX6_sound_L4 k 64 0 s = k (nI nT) s' ∧ (∀ a b, a ≠ 20 → s'.1 a b = s.1 a b) ∧ s'.2 = s.2 ∧ ∀ t, t < nT → s'.1 20 t = s.1 19 t := by
  obtain ⟨s', ⟨r1, r2, r3⟩, E⟩ := xlpR (fun f i s => fX6_sound_L4 k f i s) (fun s => k (nI nT) s) (fun i s' => (∀ a b, a ≠ 20 → s'.1 a b = s.1 a b) ∧ s'.2 = s.2 ∧ ∀ t, t < i → s'.1 20 t = s.1 19 t) nT nT (Nat.le_refl _)
    (fun g i s' hi hp => by
      obtain ⟨c1, c2, c3⟩ := hp
      refine ⟨(xuR s'.1 20 i (s'.1 19 i), s'.2), ?_, fun a b h => ?_, c2, fun t ht => ?_⟩
      · show fX6_sound_L4 k (g + 1) (nI i) s' = fX6_sound_L4 k g (nI (i + 1)) _
        rw [fX6_sound_L4]
        simp only [c1 103 0 (by omega), e3, geN hi (by omega), xin6' (show i < 6 by omega), nI_N (show i < 1000000 by omega), nI_1, if_false, oG_t, oB_s, oP_s, oT_r, oT_l, oC_r, oC_l, oN_s, oN_n]
      · simp only [xuR]
        rw [if_neg (by omega)]
        exact c1 a b h
      · by_cases e : t = i
        · subst e
          simp only [xuR]
          simp [c1 19 t (by omega)]
        · simp only [xuR]
          rw [if_neg (by omega)]
          exact c3 t (by omega))
    (fun g i x h1 h2 => by omega)
    (fun g s' hp => by
      show fX6_sound_L4 k (g + 1) (nI nT) s' = k (nI nT) s'
      rw [fX6_sound_L4]
      simp only [hp.1 103 0 (by omega), e3, leN, if_true])
    64 (by omega) s ⟨fun a b h => rfl, rfl, fun t ht => by omega⟩
  have E : fX6_sound_L4 k 64 (nI 0) s = k (nI nT) s' := E
  rw [nI_0] at E
  exact ⟨s', E, r1, r2, r3⟩
noncomputable def xSB (nS nT : Nat) (z l : Nat → Nat → Nat) (w : Nat → Nat) (sc : xSC) (k : Nat) : Bool := @decide (xSnd nT z l w sc (xDig nS nT k)) (Classical.propDecidable _)
def xMB (nS nT : Nat) (v : Nat → Nat) (k : Nat) : Nat := xMvp v (xDig nS nT k) nT
theorem xSB_t {nS nT : Nat} {z l : Nat → Nat → Nat} {w : Nat → Nat} {sc : xSC} {k : Nat} : xSB nS nT z l w sc k = true ↔ xSnd nT z l w sc (xDig nS nT k) := by
  unfold xSB
  exact @decide_eq_true_iff _ (Classical.propDecidable _)
theorem xSB_f {nS nT : Nat} {z l : Nat → Nat → Nat} {w : Nat → Nat} {sc : xSC} {k : Nat} (h : ¬ xSnd nT z l w sc (xDig nS nT k)) : xSB nS nT z l w sc k = false := by
  cases e : xSB nS nT z l w sc k with
  | false => rfl
  | true => exact absurd (xSB_t.mp e) h
theorem pow_b {S N : Nat} (h4 : S ≤ 4) (h6 : N ≤ 6) : S ^ N ≤ 4096 :=
  Nat.le_trans (Nat.pow_le_pow_left h4 N) (Nat.le_trans (Nat.pow_le_pow_right (by omega) h6) (by decide))
theorem xFd_n {snd : Nat → Bool} {mv : Nat → Nat} {lo n : Nat} {s : Nat × Nat × Nat} : (xFd snd mv lo n s).1 ≤ s.1 + n := by
  induction n with
  | zero => exact Nat.le_refl _
  | succ n ih =>
    simp only [xFd]
    split
    · show (xFd snd mv lo n s).1 + 1 ≤ s.1 + (n + 1)
      omega
    · omega
def xBv (b : Nat) : Int32 := if b = 7 then -1 else nI b
/-- what the reference holds when it has gone through the numbers below i -/
def xSo (nS nT : Nat) (sr : xSR) (F : Nat × Nat × Nat) (x : Int32) (s : xSR) : Prop :=
  x = nI F.1 ∧ (∀ a b, ¬ xScrR a → s.1 a b = sr.1 a b) ∧ s.2 = sr.2 ∧ s.1 121 0 = xBv F.2.1 ∧ (F.2.1 ≠ 7 → ∀ t, t < nT → s.1 20 t = nI (xDig nS nT F.2.2 t))
