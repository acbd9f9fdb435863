/-! the reference asks whether a plan is sound: open shards, pairs, limits -/
def xPr (nT np : Nat) (d : Nat → Nat) (s : xSR) : Prop := ∀ p, p < np → ∀ a b, a < nT → b < nT → s.1 14 p = nI a → s.1 15 p = nI b → d a ≠ d b
theorem sndL2 {nS nT np : Nat} {z l : Nat → Nat → Nat} {w v d : Nat → Nat} {sc : xSC} {s : xSR} (P : xPz nS nT z l w v sc) (R : xRz nS nT z l w v np sc s) (Y : xLy nS nT d s) :
    (fX6_isSound_L2 s (fX6_isSound_K2 s) 64 0 = some 0 ∧ ¬ xPr nT np d s) ∨ (xPr nT np d s ∧ fX6_isSound_L2 s (fX6_isSound_K2 s) 64 0 = fX6_isSound_L3 s fX6_isSound_K3 64 0) := by
  obtain ⟨h4, h6, hz, hl, hw, hv⟩ := P
  obtain ⟨r0, r3, rz, rl, rv, rn, rnp, rp, rw', ro⟩ := R
  have F := xschS (fun f i (_ : Unit) => fX6_isSound_L2 s (fX6_isSound_K2 s) f i) (fun _ => fX6_isSound_L3 s fX6_isSound_K3 64 0) (fun i _ => xPr nT i d s) (fun r => r = some 0 ∧ ¬ xPr nT np d s) np np (Nat.le_refl _)
    (fun i _ hi hp => by
      obtain ⟨a, b, ha, hb, hab, ea, eb⟩ := rp i hi
      have ya := Y a ha
      have yb := Y b hb
      by_cases g : d a = d b
      · refine .inl ⟨some 0, ⟨rfl, fun q => q i hi a b ha hb ea eb g⟩, fun n => ?_⟩
        show fX6_isSound_L2 s (fX6_isSound_K2 s) (n + 1) (nI i) = some 0
        rw [fX6_isSound_L2]
        simp only [rnp, geN hi (by omega), xin6' (show i < 6 by omega), nI_N (show i < 1000000 by omega), ea, eb, xin6' (show a < 6 by omega), xin6' (show b < 6 by omega), nI_N (show a < 1000000 by omega), nI_N (show b < 1000000 by omega), ya.1, yb.1, g, if_false, if_true, oG_t, oB_s, oP_s, oT_r, oT_l, oC_r, oC_l, oN_s, oN_n]
      · refine .inr ⟨(), fun p hp' a' b' ha' hb' ea' eb' => ?_, fun n => ?_⟩
        · by_cases e : p = i
          · subst e
            rw [ea, nI_eq (by omega) (by omega)] at ea'
            rw [eb, nI_eq (by omega) (by omega)] at eb'
            rw [← ea', ← eb']; exact g
          · exact hp p (by omega) a' b' ha' hb' ea' eb'
        · show fX6_isSound_L2 s (fX6_isSound_K2 s) (n + 1) (nI i) = fX6_isSound_L2 s (fX6_isSound_K2 s) n (nI (i + 1))
          have gg : (nI (d a) = nI (d b)) = False := eq_false (by rw [nI_eq (by omega) (by omega)]; exact g)
          rw [fX6_isSound_L2]
          simp only [rnp, geN hi (by omega), xin6' (show i < 6 by omega), nI_N (show i < 1000000 by omega), ea, eb, xin6' (show a < 6 by omega), xin6' (show b < 6 by omega), nI_N (show a < 1000000 by omega), nI_N (show b < 1000000 by omega), ya.1, yb.1, gg, nI_1, if_false, oG_t, oB_s, oP_s, oT_r, oT_l, oC_r, oC_l, oN_s, oN_n])
    (fun g i s h1 h2 => by omega)
    (fun g _ hp => by
      show fX6_isSound_L2 s (fX6_isSound_K2 s) (g + 1) (nI np) = fX6_isSound_L3 s fX6_isSound_K3 64 0
      rw [fX6_isSound_L2]
      simp only [rnp, leN, if_true, fX6_isSound_K2])
    64 (by omega) () (fun m hm => by omega)
  have F' := F
  rw [nI_0] at F'
  rcases F' with F | ⟨_, r, E⟩
  · exact .inl F
  · exact .inr ⟨r, E⟩
theorem sndL1 {nS nT np : Nat} {z l : Nat → Nat → Nat} {w v d : Nat → Nat} {sc : xSC} {s : xSR} (P : xPz nS nT z l w v sc) (R : xRz nS nT z l w v np sc s) (Y : xLy nS nT d s) :
    (fX6_isSound s = some 0 ∧ ∃ t, t < nT ∧ sc.1 4 (d t) 2 = 0) ∨ ((∀ t, t < nT → sc.1 4 (d t) 2 ≠ 0) ∧ fX6_isSound s = fX6_isSound_L2 s (fX6_isSound_K2 s) 64 0) := by
  obtain ⟨h4, h6, hz, hl, hw, hv⟩ := P
  obtain ⟨r0, r3, rz, rl, rv, rn, rnp, rp, rw', ro⟩ := R
  have F := xschS (fun f i (_ : Unit) => fX6_isSound_L1 s (fX6_isSound_K1 s) f i) (fun _ => fX6_isSound_L2 s (fX6_isSound_K2 s) 64 0) (fun i _ => ∀ t, t < i → sc.1 4 (d t) 2 ≠ 0) (fun r => r = some 0 ∧ ∃ t, t < nT ∧ sc.1 4 (d t) 2 = 0) nT nT (Nat.le_refl _)
    (fun i _ hi hp => by
      have yi := Y i hi
      have oi := ro (d i) yi.2
      by_cases g : s.1 2 (d i) = 0
      · refine .inr ⟨(), fun t ht => ?_, fun n => ?_⟩
        · by_cases e : t = i
          · subst e; exact oi.mpr g
          · exact hp t (by omega)
        · show fX6_isSound_L1 s (fX6_isSound_K1 s) (n + 1) (nI i) = fX6_isSound_L1 s (fX6_isSound_K1 s) n (nI (i + 1))
          rw [fX6_isSound_L1]
          simp only [r3, geN hi (by omega), xin6' (show i < 6 by omega), nI_N (show i < 1000000 by omega), yi.1, xin4 (show d i < 4 by omega), nI_N (show d i < 1000000 by omega), g, nI_1, if_false, if_true, oG_t, oB_s, oP_s, oT_r, oT_l, oC_r, oC_l, oN_s, oN_n]
      · refine .inl ⟨some 0, ⟨rfl, i, hi, Classical.byContradiction fun q => g (oi.mp q)⟩, fun n => ?_⟩
        show fX6_isSound_L1 s (fX6_isSound_K1 s) (n + 1) (nI i) = some 0
        rw [fX6_isSound_L1]
        simp only [r3, geN hi (by omega), xin6' (show i < 6 by omega), nI_N (show i < 1000000 by omega), yi.1, xin4 (show d i < 4 by omega), nI_N (show d i < 1000000 by omega), g, if_false, oG_t, oB_s, oP_s, oT_r, oT_l, oC_r, oC_l, oN_s, oN_n])
    (fun g i s h1 h2 => by omega)
    (fun g _ hp => by
      show fX6_isSound_L1 s (fX6_isSound_K1 s) (g + 1) (nI nT) = fX6_isSound_L2 s (fX6_isSound_K2 s) 64 0
      rw [fX6_isSound_L1]
      simp only [r3, leN, if_true, fX6_isSound_K1])
    64 (by omega) () (fun m hm => by omega)
  have F' := F
  rw [nI_0] at F'
  rw [fX6_isSound]
  rcases F' with F | ⟨_, r, E⟩
  · exact .inl F
  · exact .inr ⟨r, E⟩
/-- sound, step by step -/
def xSnd (nT : Nat) (z l : Nat → Nat → Nat) (w : Nat → Nat) (sc : xSC) (d : Nat → Nat) : Prop := ∀ t, t < nT → xOK z l w sc t d (d t)
theorem and_0 {a b : Nat} (ha : a < 64) : a &&& b = 0 ↔ ∀ o, o < 6 → a.testBit o = true → b.testBit o = false := by
  constructor
  · intro h o ho h1
    have q : (a &&& b).testBit o = false := by rw [h]; exact Nat.zero_testBit o
    rw [Nat.testBit_and, h1, Bool.true_and] at q
    exact q
  · intro h
    refine Nat.eq_of_testBit_eq fun o => ?_
    rw [Nat.zero_testBit, Nat.testBit_and]
    by_cases ho : o < 6
    · cases e : a.testBit o with
      | false => rfl
      | true => rw [h o ho e]; rfl
    · have : a.testBit o = false := Nat.testBit_lt_two_pow (Nat.lt_of_lt_of_le ha (by
        have : 2 ^ 6 ≤ 2 ^ o := Nat.pow_le_pow_right (by omega) (by omega)
        omega))
      rw [this]; rfl
theorem xSnd_iff {nS nT np : Nat} {z l : Nat → Nat → Nat} {w v d : Nat → Nat} {sc : xSC} {s : xSR} (P : xPz nS nT z l w v sc) (R : xRz nS nT z l w v np sc s) (Y : ∀ t, t < nT → d t < nS) :
    xSnd nT z l w sc d ↔ ((∀ t, t < nT → sc.1 4 (d t) 2 ≠ 0) ∧ xPr nT np d s ∧ ∀ j, j < nS → ∀ m, m < 3 → pS (fun u => z u m) d j nT ≤ l j m) := by
  obtain ⟨h4, h6, hz, hl, hw, hv⟩ := P
  obtain ⟨r0, r3, rz, rl, rv, rn, rnp, rp, rw', ro⟩ := R
  constructor
  · intro h
    refine ⟨fun t ht => (h t ht).1, fun p hp a b ha hb ea eb e => ?_, fun j hj m hm => ?_⟩
    · have key : ∀ a b, a < nT → b < a → d a = d b → (∃ p, p < np ∧ ((s.1 14 p = nI a ∧ s.1 15 p = nI b) ∨ (s.1 14 p = nI b ∧ s.1 15 p = nI a))) → False := fun a b ha hb e q => by
        have c := (and_0 (pB_lt (p := d) (j := d a) (t := a) (by omega))).mp (h a ha).2.1 b (by omega) (pB_bit.mpr ⟨hb, e.symm⟩)
        rw [(rw' a ha b (by omega)).mpr q] at c
        exact absurd c (by simp)
      rcases Nat.lt_trichotomy a b with g | g | g
      · exact key b a hb g e.symm ⟨p, hp, .inr ⟨ea, eb⟩⟩
      · obtain ⟨a', b', ha', hb', hab, ea', eb'⟩ := rp p hp
        rw [ea, nI_eq (by omega) (by omega)] at ea'
        rw [eb, nI_eq (by omega) (by omega)] at eb'
        omega
      · exact key a b ha g e ⟨p, hp, .inl ⟨ea, eb⟩⟩
    · have A : ∀ n, n ≤ nT → pS (fun u => z u m) d j n ≤ l j m := by
        intro n
        induction n with
        | zero => intro _; simp [pS]
        | succ n ih =>
          intro hn
          simp only [pS]
          split
          · rename_i g
            subst g
            exact (h n (by omega)).2.2 m hm
          · exact ih (by omega)
      exact A nT (Nat.le_refl _)
  · rintro ⟨h1, h2, h3⟩ t ht
    refine ⟨h1 t ht, ?_, fun m hm => ?_⟩
    · refine (and_0 (pB_lt (by omega))).mpr fun o ho q => ?_
      obtain ⟨q1, q2⟩ := pB_bit.mp q
      cases e : (w t).testBit o with
      | false => rfl
      | true =>
        obtain ⟨p, hp, c⟩ := (rw' t ht o ho).mp e
        rcases c with ⟨c1, c2⟩ | ⟨c1, c2⟩
        · exact absurd q2.symm (h2 p hp t o ht (by omega) c1 c2)
        · exact absurd q2 (h2 p hp o t (by omega) ht c1 c2)
    · have a := h3 (d t) (Y t ht) m hm
      have b : pS (fun u => z u m) d (d t) (t + 1) ≤ pS (fun u => z u m) d (d t) nT := pS_mono (by omega)
      simp only [pS, if_true] at b
      omega
theorem isSnd_e {nS nT np : Nat} {z l : Nat → Nat → Nat} {w v d : Nat → Nat} {sc : xSC} {s : xSR} (P : xPz nS nT z l w v sc) (R : xRz nS nT z l w v np sc s) (Y : xLy nS nT d s) :
    (xSnd nT z l w sc d ∧ fX6_isSound s = some 1) ∨ (¬ xSnd nT z l w sc d ∧ fX6_isSound s = some 0) := by
  have I := xSnd_iff P R (d := d) (fun t ht => (Y t ht).2)
  rcases sndL1 P R Y with ⟨a1, t, a2, a3⟩ | ⟨a1, a2⟩
  · exact .inr ⟨fun q => (I.mp q).1 t a2 a3, a1⟩
  · rcases sndL2 P R Y with ⟨b1, b2⟩ | ⟨b1, b2⟩
    · exact .inr ⟨fun q => b2 (I.mp q).2.1, by rw [a2, b1]⟩
    · rcases sndL3 P R Y with ⟨c1, j, hj, m, hm, c2⟩ | ⟨c1, c2⟩
      · exact .inr ⟨fun q => by
          have := (I.mp q).2.2 j hj m hm
          omega, by rw [a2, b2, c1]⟩
      · exact .inl ⟨I.mpr ⟨a1, b1, c1⟩, by rw [a2, b2, c2]⟩
