/-! finding the first plan with few moves from a prefix on -/
/-- what a found plan leaves -/
def xFnd (nS nT k : Nat) (sc : xSC) (r : Option (Int32 × xSC)) : Prop := ∃ s', r = some (1, s') ∧ (∀ a b i, ¬ xScrC a i → s'.1 a b i = sc.1 a b i) ∧ s'.2 = sc.2 ∧ ∀ u, u < nT → s'.1 11 u 7 = nI (xDig nS nT k u)
theorem find_e {nS nT : Nat} {z l : Nat → Nat → Nat} {w v : Nat → Nat} {sc : xSC} (P : xPz nS nT z l w v sc) (snd : Nat → Bool) (mv : Nat → Nat)
    (HL : ∀ p : Nat → Nat, (∀ u, u < nT → p u < nS ∧ xOK z l w sc u p (p u)) → snd (xNum nS p nT) = true ∧ mv (xNum nS p nT) = xMvp v p nT)
    (HP : ∀ t (p : Nat → Nat) j, t < nT → j < nS → (∀ u, u < t → p u < nS) → ¬ xOK z l w sc t p j → ∀ r, r < nS ^ (nT - (t + 1)) → snd ((xNum nS p t * nS + j) * nS ^ (nT - (t + 1)) + r) = false)
    (HM : ∀ t (p : Nat → Nat) j, t < nT → j < nS → (∀ u, u < t → p u < nS) → ∀ r, r < nS ^ (nT - (t + 1)) → xMvp v (pU p t j) (t + 1) ≤ mv ((xNum nS p t * nS + j) * nS ^ (nT - (t + 1)) + r)) (d : Nat) :
    ∀ t f p s a, nT - t = d → t ≤ nT → a ≤ 100 → xTr nS t z p sc s → (∀ u, u < t → p u < nS ∧ xOK z l w sc u p (p u)) → (∀ u, u < t → s.1 11 u 7 = nI (p u)) →
    (∃ k, xFst snd mv (a + xMvp v p t) (xNum nS p t * nS ^ (nT - t)) (nS ^ (nT - t)) = some k ∧ xFnd nS nT k sc (fX2_findFrom (f + d + 1) nS nT (nI t) (nI a) s)) ∨
    (xFst snd mv (a + xMvp v p t) (xNum nS p t * nS ^ (nT - t)) (nS ^ (nT - t)) = none ∧ ∃ s', fX2_findFrom (f + d + 1) nS nT (nI t) (nI a) s = some (0, s') ∧ xTr nS t z p sc s' ∧ ∀ u, u < t → s'.1 11 u 7 = nI (p u)) := by
  have P' := P
  obtain ⟨h4, h6, hz, hl, hw, hv⟩ := P'
  induction d with
  | zero =>
    intro t f p s a e ht ha hT hp hq
    obtain rfl : t = nT := by omega
    obtain ⟨g1, g2⟩ := HL p hp
    refine .inl ⟨xNum nS p t, ?_, s, ?_, hT.1, hT.2.1, fun u hu => ?_⟩
    · rw [Nat.sub_self, Nat.pow_zero, Nat.mul_one]
      simp only [xFst, Nat.add_zero]
      rw [if_pos ⟨g1, by rw [g2]; omega⟩]
    · rw [fX2_findFrom, ton_n h6, oB_s, oN_n]
    · rw [hq u hu]
      have hS : 0 < nS := by have := (hp u hu).1; omega
      have q := xDig_n (S := nS) (N := t) (p := p) (t := t) (u := u) (r := 0) hS (fun u hu => (hp u hu).1) hu (by omega) (by rw [Nat.sub_self]; simp)
      rw [Nat.sub_self, Nat.pow_zero, Nat.mul_one, Nat.add_zero] at q
      rw [q]
  | succ d ih =>
    intro t f' p s a e ht ha hT hp hq
    have htl : t < nT := by omega
    obtain ⟨W, hW⟩ : ∃ W, W = nS ^ (nT - (t + 1)) := ⟨_, rfl⟩
    have hW' : nS ^ (nT - t) = nS * W := by rw [hW, show nT - t = (nT - (t + 1)) + 1 by omega, Nat.pow_succ, Nat.mul_comm]
    rw [hW']
    obtain ⟨lo, hlo⟩ : ∃ lo, lo = xNum nS p t * (nS * W) := ⟨_, rfl⟩
    rw [← hlo]
    obtain ⟨A, hA⟩ : ∃ A, A = a + xMvp v p t := ⟨_, rfl⟩
    rw [← hA]
    have hlo' : ∀ i, (xNum nS p t * nS + i) * W = lo + i * W := fun i => by rw [hlo, Nat.add_mul, Nat.mul_assoc]
    have up : ∀ i k, i < nS → xFst snd mv A lo ((i + 1) * W) = some k → xFst snd mv A lo (nS * W) = some k := fun i k hi hk => by
      rw [show nS * W = (i + 1) * W + (nS - (i + 1)) * W by rw [← Nat.add_mul]; congr 1; omega, xFst_add, hk]
    have st : ∀ i, xFst snd mv A lo (i * W) = none → xFst snd mv A lo ((i + 1) * W) = xFst snd mv A (lo + i * W) W := fun i hi => by
      rw [Nat.succ_mul, xFst_add, hi]
    have R : ∀ r, fX2_findFrom_L1 nS nT (nI t) (nI a) (fX2_findFrom (f' + d + 1) nS nT) t fX2_findFrom_K1 64 (nI 0) s = r → fX2_findFrom (f' + (d + 1) + 1) nS nT (nI t) (nI a) s = r := fun r hr => by
      rw [nI_0] at hr
      rw [show f' + (d + 1) + 1 = (f' + d + 1) + 1 by omega, fX2_findFrom, ton_y h6 htl, oB_s, oN_s, oG_e (by simpa using htl) rfl, hr]
    have core : ∀ i s a', i < nS → xTr nS t z p sc s → (∀ u, u < t → s.1 11 u 7 = nI (p u)) → xFst snd mv A lo (i * W) = none → a' ≤ 100 → a' + xMvp v (pU p t i) (t + 1) = A → xOK z l w sc t p i →
        ∃ s1, fX3_putInTrial nS nT i (nI t) t s = some ((), s1) ∧ ((∃ k s2, xFst snd mv A lo (nS * W) = some k ∧ fX2_findFrom (f' + d + 1) nS nT (nI (t + 1)) (nI a') (xuC s1.1 11 t 7 (nI i), s1.2) = some (1, s2) ∧ xFnd nS nT k sc (some (1, s2))) ∨ ∃ s2 s3, fX2_findFrom (f' + d + 1) nS nT (nI (t + 1)) (nI a') (xuC s1.1 11 t 7 (nI i), s1.2) = some (0, s2) ∧ fX3_takeFromTrial nS nT i (nI t) t s2 = some ((), s3) ∧ xTr nS t z p sc s3 ∧ (∀ u, u < t → s3.1 11 u 7 = nI (p u)) ∧ xFst snd mv A lo ((i + 1) * W) = none) := fun i s a' hi c1 c2 c3 ha' hA' ok => by
      obtain ⟨s1, a1, a2, a3⟩ := put_t P c1 htl hi
      have T1 : xTr nS (t + 1) z (pU p t i) sc (xuC s1.1 11 t 7 (nI i), s1.2) := by
        refine ⟨fun a b c hn => ?_, a2.2.1, fun j hj => ⟨?_, fun m hm => ?_⟩⟩
        · rw [← a2.1 a b c hn]
          simp only [xScrC, not_or, not_and] at hn
          simp only [xuC]
          rw [if_neg (by omega)]
        · rw [← (a2.2.2 j hj).1]; simp [xuC]
        · rw [← (a2.2.2 j hj).2 m hm]; simp [xuC]
      have q1 : ∀ u, u < t + 1 → (xuC s1.1 11 t 7 (nI i), s1.2).1 11 u 7 = nI (pU p t i u) := fun u hu => by
        by_cases eu : u = t
        · subst eu; simp [xuC, pU_s]
        · rw [pU_o (by omega), ← c2 u (by omega), ← a3 11 u 7 (by omega) (by omega)]
          simp [xuC, eu]
      have nu : xNum nS (pU p t i) (t + 1) * nS ^ (nT - (t + 1)) = lo + i * W := by
        rw [← hlo' i, hW]
        simp only [xNum, pU_s, xNum_c (p := pU p t i) (q := p) (fun u hu => pU_o hu)]
      have I := ih (t + 1) f' (pU p t i) (xuC s1.1 11 t 7 (nI i), s1.2) a' (by omega) (by omega) ha' T1 (fun u hu => by
        by_cases eu : u = t
        · subst eu
          rw [pU_s]
          exact ⟨hi, (xOK_c (fun x hx => pU_o hx)).mpr ok⟩
        · rw [pU_o (by omega)]
          exact ⟨(hp u (by omega)).1, (xOK_c (fun x hx => pU_o (by omega))).mpr (hp u (by omega)).2⟩) q1
      rw [nu, hA', ← hW, ← st i c3] at I
      refine ⟨s1, a1, ?_⟩
      rcases I with ⟨k, k1, s2, k2, k3⟩ | ⟨k1, s2, k2, k3, k4⟩
      · exact .inl ⟨k, s2, up i k hi k1, k2, s2, rfl, k3⟩
      · obtain ⟨s3, g1, g2, g3⟩ := take_t P k3 htl hi
        refine .inr ⟨s2, s3, k2, g1, g2, fun u hu => ?_, k1⟩
        rw [g3 11 u 7 (by omega) (by omega), k4 u (by omega), pU_o hu]
    have F := xschS (fun f i s => fX2_findFrom_L1 nS nT (nI t) (nI a) (fX2_findFrom (f' + d + 1) nS nT) t fX2_findFrom_K1 f i s) (fun s => some (0, s)) (fun i s => xTr nS t z p sc s ∧ (∀ u, u < t → s.1 11 u 7 = nI (p u)) ∧ xFst snd mv A lo (i * W) = none) (fun r => ∃ k, xFst snd mv A lo (nS * W) = some k ∧ xFnd nS nT k sc r) nS 4 h4
      (fun i s hi hp' => by
        obtain ⟨c1, c2, c3⟩ := hp'
        have b3 : s.1 11 t 3 = nI (v t) := by rw [c1.1 11 t 3 (by simp [xScrC]), (hv t htl).1]
        have hvl := (hv t htl).2
        have mvq : xMvp v (pU p t i) (t + 1) = xMvp v p t + (if i = v t then 0 else 1) := by
          simp only [xMvp, pU_s, xMvp_c (p := pU p t i) (q := p) (fun u hu => pU_o hu)]
        have skip : xFst snd mv A (lo + i * W) W = none → xFst snd mv A lo ((i + 1) * W) = none := fun q => by rw [st i c3, q]
        have nok : ¬ xOK z l w sc t p i → xFst snd mv A (lo + i * W) W = none := fun no => xFst_no (fun r hr q => by
          have := HP t p i htl hi (fun u hu => (hp u hu).1) no r (by rw [← hW]; exact hr)
          rw [← hW, hlo' i] at this
          rw [this] at q
          exact absurd q.1 (by simp))
        by_cases ev : i = v t
        · have ee : nI i = nI (v t) := by rw [ev]
          rw [if_pos ev] at mvq
          rcases takes_e P c1 htl hi with ⟨ok, tk⟩ | ⟨no, tk⟩
          · obtain ⟨s1, a1, ⟨k, s2, k1, k2, k3⟩ | ⟨s2, s3, k1, k2, k3, k4, k5⟩⟩ := core i s a hi c1 c2 c3 ha (by rw [mvq, hA]; omega) ok
            · refine .inl ⟨some (1, s2), ⟨k, k1, k3⟩, fun n => ?_⟩
              show fX2_findFrom_L1 nS nT (nI t) (nI a) (fX2_findFrom (f' + d + 1) nS nT) t fX2_findFrom_K1 (n + 1) (nI i) s = some (1, s2)
              rw [fX2_findFrom_L1]
              simp only [ge4 (show i < 4 by omega), xin4 (show i < 4 by omega), xel_n hi (by omega), b3, if_pos ee, nI_pos (show a < 2 ^ 31 by omega), tk, n10, a1, nI_1, k2, if_false, oG_t, oB_s, oP_s, oT_r, oT_l, oC_r, oC_l, oN_s, oN_n]
            · refine .inr ⟨s3, ⟨k3, k4, k5⟩, fun n => ?_⟩
              show fX2_findFrom_L1 nS nT (nI t) (nI a) (fX2_findFrom (f' + d + 1) nS nT) t fX2_findFrom_K1 (n + 1) (nI i) s = fX2_findFrom_L1 nS nT (nI t) (nI a) (fX2_findFrom (f' + d + 1) nS nT) t fX2_findFrom_K1 n (nI (i + 1)) s3
              rw [fX2_findFrom_L1]
              simp only [ge4 (show i < 4 by omega), xin4 (show i < 4 by omega), xel_n hi (by omega), b3, if_pos ee, nI_pos (show a < 2 ^ 31 by omega), tk, n10, a1, nI_1, k1, k2, if_false, if_true, oG_t, oB_s, oP_s, oT_r, oT_l, oC_r, oC_l, oN_s, oN_n]
          · refine .inr ⟨s, ⟨c1, c2, skip (nok no)⟩, fun n => ?_⟩
            show fX2_findFrom_L1 nS nT (nI t) (nI a) (fX2_findFrom (f' + d + 1) nS nT) t fX2_findFrom_K1 (n + 1) (nI i) s = fX2_findFrom_L1 nS nT (nI t) (nI a) (fX2_findFrom (f' + d + 1) nS nT) t fX2_findFrom_K1 n (nI (i + 1)) s
            rw [fX2_findFrom_L1]
            simp only [ge4 (show i < 4 by omega), xin4 (show i < 4 by omega), xel_n hi (by omega), b3, if_pos ee, nI_pos (show a < 2 ^ 31 by omega), tk, nI_1, if_false, if_true, oG_t, oB_s, oP_s, oT_r, oT_l, oC_r, oC_l, oN_s, oN_n]
        · have ee : ¬ nI i = nI (v t) := by rw [nI_eq (by omega) (by omega)]; exact ev
          rw [if_neg ev] at mvq
          rcases a with _ | a'
          · have lt : nI 0 - 1 < 0 := by decide
            refine .inr ⟨s, ⟨c1, c2, skip (xFst_no (fun r hr q => ?_))⟩, fun n => ?_⟩
            · have g := HM t p i htl hi (fun u hu => (hp u hu).1) r (by rw [← hW]; exact hr)
              rw [← hW, hlo' i, mvq] at g
              omega
            · show fX2_findFrom_L1 nS nT (nI t) (nI 0) (fX2_findFrom (f' + d + 1) nS nT) t fX2_findFrom_K1 (n + 1) (nI i) s = fX2_findFrom_L1 nS nT (nI t) (nI 0) (fX2_findFrom (f' + d + 1) nS nT) t fX2_findFrom_K1 n (nI (i + 1)) s
              rw [fX2_findFrom_L1]
              simp only [ge4 (show i < 4 by omega), xin4 (show i < 4 by omega), xel_n hi (by omega), b3, if_neg ee, if_pos lt, nI_1, if_false, oG_t, oB_s, oP_s, oT_r, oT_l, oC_r, oC_l, oN_s, oN_n]
          · have pr : nI (a' + 1) - 1 = nI a' := nI_pred a'
            rcases takes_e P c1 htl hi with ⟨ok, tk⟩ | ⟨no, tk⟩
            · obtain ⟨s1, a1, ⟨k, s2, k1, k2, k3⟩ | ⟨s2, s3, k1, k2, k3, k4, k5⟩⟩ := core i s a' hi c1 c2 c3 (by omega) (by rw [mvq, hA]; omega) ok
              · refine .inl ⟨some (1, s2), ⟨k, k1, k3⟩, fun n => ?_⟩
                show fX2_findFrom_L1 nS nT (nI t) (nI (a' + 1)) (fX2_findFrom (f' + d + 1) nS nT) t fX2_findFrom_K1 (n + 1) (nI i) s = some (1, s2)
                rw [fX2_findFrom_L1]
                simp only [ge4 (show i < 4 by omega), xin4 (show i < 4 by omega), xel_n hi (by omega), b3, if_neg ee, pr, nI_pos (show a' < 2 ^ 31 by omega), tk, n10, a1, nI_1, k2, if_false, oG_t, oB_s, oP_s, oT_r, oT_l, oC_r, oC_l, oN_s, oN_n]
              · refine .inr ⟨s3, ⟨k3, k4, k5⟩, fun n => ?_⟩
                show fX2_findFrom_L1 nS nT (nI t) (nI (a' + 1)) (fX2_findFrom (f' + d + 1) nS nT) t fX2_findFrom_K1 (n + 1) (nI i) s = fX2_findFrom_L1 nS nT (nI t) (nI (a' + 1)) (fX2_findFrom (f' + d + 1) nS nT) t fX2_findFrom_K1 n (nI (i + 1)) s3
                rw [fX2_findFrom_L1]
                simp only [ge4 (show i < 4 by omega), xin4 (show i < 4 by omega), xel_n hi (by omega), b3, if_neg ee, pr, nI_pos (show a' < 2 ^ 31 by omega), tk, n10, a1, nI_1, k1, k2, if_false, if_true, oG_t, oB_s, oP_s, oT_r, oT_l, oC_r, oC_l, oN_s, oN_n]
            · refine .inr ⟨s, ⟨c1, c2, skip (nok no)⟩, fun n => ?_⟩
              show fX2_findFrom_L1 nS nT (nI t) (nI (a' + 1)) (fX2_findFrom (f' + d + 1) nS nT) t fX2_findFrom_K1 (n + 1) (nI i) s = fX2_findFrom_L1 nS nT (nI t) (nI (a' + 1)) (fX2_findFrom (f' + d + 1) nS nT) t fX2_findFrom_K1 n (nI (i + 1)) s
              rw [fX2_findFrom_L1]
              simp only [ge4 (show i < 4 by omega), xin4 (show i < 4 by omega), xel_n hi (by omega), b3, if_neg ee, pr, nI_pos (show a' < 2 ^ 31 by omega), tk, nI_1, if_false, if_true, oG_t, oB_s, oP_s, oT_r, oT_l, oC_r, oC_l, oN_s, oN_n])
      (fun g i s h1 h2 => by
        show fX2_findFrom_L1 nS nT (nI t) (nI a) (fX2_findFrom (f' + d + 1) nS nT) t fX2_findFrom_K1 (g + 1) (nI i) s = fX2_findFrom_L1 nS nT (nI t) (nI a) (fX2_findFrom (f' + d + 1) nS nT) t fX2_findFrom_K1 g (nI (i + 1)) s
        rw [fX2_findFrom_L1]
        simp only [ge4 h2, xin4 h2, xel_o (show ¬ i < nS by omega) (by omega), nI_1, if_false, ite_self, oG_t, oB_s, oP_s, oT_r, oT_l, oC_r, oC_l, oN_s, oN_n])
      (fun g s hp' => by
        show fX2_findFrom_L1 nS nT (nI t) (nI a) (fX2_findFrom (f' + d + 1) nS nT) t fX2_findFrom_K1 (g + 1) (nI 4) s = some (0, s)
        rw [fX2_findFrom_L1]
        simp only [le4, if_true, fX2_findFrom_K1])
      64 (by omega) s ⟨hT, hq, by rw [Nat.zero_mul]; rfl⟩
    rcases F with ⟨k, k1, k2⟩ | ⟨s', ⟨r1, r2, r3⟩, E⟩
    · exact .inl ⟨k, k1, by rw [R _ rfl]; exact k2⟩
    · exact .inr ⟨r3, s', R _ E, r1, r2⟩
