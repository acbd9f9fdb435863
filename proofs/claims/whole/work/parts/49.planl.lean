/-! the reference's own words for sizes, limits, pairs -/
def xRz (nS nT : Nat) (z l : Nat → Nat → Nat) (w v : Nat → Nat) (np : Nat) (sc : xSC) (sr : xSR) : Prop :=
  sr.1 100 0 = nI nS ∧ sr.1 103 0 = nI nT ∧ (∀ t m, t < nT → m < 3 → sr.1 4 (3 * t + m) = nI (z t m)) ∧ (∀ j m, j < nS → m < 3 → sr.1 1 (3 * j + m) = nI (l j m)) ∧ (∀ t, t < nT → sr.1 8 t = nI (v t)) ∧ np ≤ 6 ∧ sr.1 113 0 = nI np ∧ (∀ p, p < np → ∃ a b, a < nT ∧ b < nT ∧ a ≠ b ∧ sr.1 14 p = nI a ∧ sr.1 15 p = nI b) ∧ (∀ t, t < nT → ∀ o, o < 6 → ((w t).testBit o = true ↔ ∃ p, p < np ∧ ((sr.1 14 p = nI t ∧ sr.1 15 p = nI o) ∨ (sr.1 14 p = nI o ∧ sr.1 15 p = nI t)))) ∧ ∀ j, j < nS → (sc.1 4 j 2 ≠ 0 ↔ sr.1 2 j = 0)
theorem xRz_fr {nS nT : Nat} {z l : Nat → Nat → Nat} {w v : Nat → Nat} {np : Nat} {sc : xSC} {sr sr' : xSR} (h : xRz nS nT z l w v np sc sr) (e : ∀ a b, ¬ xScrR a → sr'.1 a b = sr.1 a b) : xRz nS nT z l w v np sc sr' := by
  have e' : ∀ a, ¬ xScrR a → sr'.1 a = sr.1 a := fun a ha => funext fun b => e a b ha
  unfold xRz at h ⊢
  rw [e' 100 (by simp [xScrR]), e' 103 (by simp [xScrR]), e' 4 (by simp [xScrR]), e' 1 (by simp [xScrR]), e' 8 (by simp [xScrR]), e' 113 (by simp [xScrR]), e' 14 (by simp [xScrR]), e' 15 (by simp [xScrR]), e' 2 (by simp [xScrR])]
  exact h
/-- the plan that lies in the reference -/
def xLy (nS nT : Nat) (d : Nat → Nat) (sr : xSR) : Prop := ∀ t, t < nT → sr.1 19 t = nI (d t) ∧ d t < nS
theorem fits_e {nS nT j m np : Nat} {z l : Nat → Nat → Nat} {w v d : Nat → Nat} {sc : xSC} {s : xSR} (P : xPz nS nT z l w v sc) (R : xRz nS nT z l w v np sc s) (Y : xLy nS nT d s) (hj : j < nS) (hm : m < 3) : fX6_fits (nI j) (nI m) s = some (if l j m < pS (fun u => z u m) d j nT then 0 else 1) := by
  obtain ⟨h4, h6, hz, hl, hw, hv⟩ := P
  obtain ⟨r0, r3, rz, rl, rv, rn, rnp, rp, rw', ro⟩ := R
  have gt3 : ∀ t, t < nT → t < 6 := fun t ht => by omega
  obtain ⟨x, r, E⟩ := xlpR (fun f i (x : Int32) => fX6_fits_L1 (nI j) (nI m) s (fX6_fits_K1 (nI j) (nI m) s) f x i) (fun x => fX6_fits_K1 (nI j) (nI m) s x (nI nT)) (fun i x => x = nI (pS (fun u => z u m) d j i)) nT nT (Nat.le_refl _)
    (fun g i x hi hp => by
      refine ⟨nI (pS (fun u => z u m) d j (i + 1)), ?_, rfl⟩
      show fX6_fits_L1 (nI j) (nI m) s (fX6_fits_K1 (nI j) (nI m) s) (g + 1) x (nI i) = fX6_fits_L1 (nI j) (nI m) s (fX6_fits_K1 (nI j) (nI m) s) g (nI (pS (fun u => z u m) d j (i + 1))) (nI (i + 1))
      rw [fX6_fits_L1]
      simp only [r3, geN hi (by omega), xin6' (gt3 i hi), nI_N (show i < 1000000 by omega), (Y i hi).1, nI_1, nI_3m, xin_n (show 3 * i + m < 18 by omega) (by omega), nI_N (show 3 * i + m < 1000000 by omega), rz i m hi hm, if_false, oG_t, oB_s, oP_s, oT_r, oT_l, oC_r, oC_l, oN_s, oN_n]
      have a1 := (Y i hi).2
      rw [hp]
      simp only [pS]
      by_cases g : d i = j
      · rw [if_pos (by rw [g]), if_pos g, nI_add]
      · rw [if_neg (by rw [nI_eq (by omega) (by omega)]; exact g), if_neg g, Int32.add_zero])
    (fun g i x h1 h2 => by omega)
    (fun g x hp => by
      show fX6_fits_L1 (nI j) (nI m) s (fX6_fits_K1 (nI j) (nI m) s) (g + 1) x (nI nT) = fX6_fits_K1 (nI j) (nI m) s x (nI nT)
      rw [fX6_fits_L1]
      simp only [r3, leN, if_true])
    64 (by omega) (nI 0) rfl
  have E : fX6_fits_L1 (nI j) (nI m) s (fX6_fits_K1 (nI j) (nI m) s) 64 (nI 0) (nI 0) = fX6_fits_K1 (nI j) (nI m) s x (nI nT) := E
  rw [nI_0] at E
  have b1 : pS (fun u => z u m) d j nT ≤ 999 * nT := pS_le (fun u hu => (hz u m hu hm).2)
  have b2 := (hl j m hj hm).2.2
  rw [fX6_fits, E, r, fX6_fits_K1, nI_3m, xin_n (show 3 * j + m < 12 by omega) (by omega), oG_t, nI_N (by omega), rl j m hj hm]
  by_cases g : l j m < pS (fun u => z u m) d j nT
  · rw [if_pos (nI_lt g (by omega)), if_pos g]
  · rw [if_neg (by rw [nI_ltI (by omega) (by omega)]; exact g), if_neg g]
theorem sndL4 {nS nT j np : Nat} {z l : Nat → Nat → Nat} {w v d : Nat → Nat} {sc : xSC} {s : xSR} (P : xPz nS nT z l w v sc) (R : xRz nS nT z l w v np sc s) (Y : xLy nS nT d s) (hj : j < nS) (k : Int32 → Option Int32) :
    (fX6_isSound_L4 s (nI j) k 64 0 = some 0 ∧ ∃ m, m < 3 ∧ l j m < pS (fun u => z u m) d j nT) ∨ ((∀ m, m < 3 → pS (fun u => z u m) d j nT ≤ l j m) ∧ fX6_isSound_L4 s (nI j) k 64 0 = k (nI 3)) := by
  have F := xschS (fun f i (_ : Unit) => fX6_isSound_L4 s (nI j) k f i) (fun _ => k (nI 3)) (fun i _ => ∀ m, m < i → pS (fun u => z u m) d j nT ≤ l j m) (fun r => r = some 0 ∧ ∃ m, m < 3 ∧ l j m < pS (fun u => z u m) d j nT) 3 3 (by omega)
    (fun i _ hi hp => by
      by_cases g : l j i < pS (fun u => z u i) d j nT
      · refine .inl ⟨some 0, ⟨rfl, i, hi, g⟩, fun n => ?_⟩
        show fX6_isSound_L4 s (nI j) k (n + 1) (nI i) = some 0
        rw [fX6_isSound_L4]
        simp only [ge3 hi, fits_e P R Y hj hi, if_pos g, if_false, if_true, oG_t, oB_s, oP_s, oT_r, oT_l, oC_r, oC_l, oN_s, oN_n]
      · refine .inr ⟨(), fun m hm => ?_, fun n => ?_⟩
        · by_cases e : m = i
          · subst e; omega
          · exact hp m (by omega)
        · show fX6_isSound_L4 s (nI j) k (n + 1) (nI i) = fX6_isSound_L4 s (nI j) k n (nI (i + 1))
          rw [fX6_isSound_L4]
          simp only [ge3 hi, fits_e P R Y hj hi, if_neg g, n10, nI_1, if_false, oG_t, oB_s, oP_s, oT_r, oT_l, oC_r, oC_l, oN_s, oN_n])
    (fun g i s h1 h2 => by omega)
    (fun g _ hp => by
      show fX6_isSound_L4 s (nI j) k (g + 1) (nI 3) = k (nI 3)
      rw [fX6_isSound_L4]
      simp only [le3, if_true])
    64 (by omega) () (fun m hm => by omega)
  rw [← nI_0]
  rcases F with F | ⟨_, r, E⟩
  · exact .inl F
  · exact .inr ⟨r, E⟩
theorem sndL3 {nS nT np : Nat} {z l : Nat → Nat → Nat} {w v d : Nat → Nat} {sc : xSC} {s : xSR} (P : xPz nS nT z l w v sc) (R : xRz nS nT z l w v np sc s) (Y : xLy nS nT d s) :
    (fX6_isSound_L3 s fX6_isSound_K3 64 0 = some 0 ∧ ∃ j, j < nS ∧ ∃ m, m < 3 ∧ l j m < pS (fun u => z u m) d j nT) ∨ ((∀ j, j < nS → ∀ m, m < 3 → pS (fun u => z u m) d j nT ≤ l j m) ∧ fX6_isSound_L3 s fX6_isSound_K3 64 0 = some 1) := by
  have h4 := P.1
  have r0 := R.1
  have F := xschS (fun f i (_ : Unit) => fX6_isSound_L3 s fX6_isSound_K3 f i) (fun _ => some 1) (fun i _ => ∀ j, j < i → ∀ m, m < 3 → pS (fun u => z u m) d j nT ≤ l j m) (fun r => r = some 0 ∧ ∃ j, j < nS ∧ ∃ m, m < 3 ∧ l j m < pS (fun u => z u m) d j nT) nS nS (Nat.le_refl _)
    (fun i _ hi hp => by
      by_cases g : ∃ m, m < 3 ∧ l i m < pS (fun u => z u m) d i nT
      · refine .inl ⟨some 0, ⟨rfl, i, hi, g⟩, fun n => ?_⟩
        show fX6_isSound_L3 s fX6_isSound_K3 (n + 1) (nI i) = some 0
        rw [fX6_isSound_L3]
        simp only [r0, geN hi (by omega), if_false]
        rcases sndL4 P R Y hi (fX6_isSound_K4 (nI i) (fX6_isSound_L3 s fX6_isSound_K3 n)) with ⟨a, _⟩ | ⟨a, _⟩
        · exact a
        · obtain ⟨m, hm, g⟩ := g
          have := a m hm
          omega
      · have g' : ∀ m, m < 3 → pS (fun u => z u m) d i nT ≤ l i m := fun m hm => Nat.le_of_not_lt fun q => g ⟨m, hm, q⟩
        refine .inr ⟨(), fun j hj => ?_, fun n => ?_⟩
        · by_cases e : j = i
          · subst e; exact g'
          · exact hp j (by omega)
        · show fX6_isSound_L3 s fX6_isSound_K3 (n + 1) (nI i) = fX6_isSound_L3 s fX6_isSound_K3 n (nI (i + 1))
          rw [fX6_isSound_L3]
          simp only [r0, geN hi (by omega), if_false]
          rcases sndL4 P R Y hi (fX6_isSound_K4 (nI i) (fX6_isSound_L3 s fX6_isSound_K3 n)) with ⟨_, a⟩ | ⟨_, a⟩
          · exact absurd a g
          · rw [a, fX6_isSound_K4, nI_1])
    (fun g i s h1 h2 => by omega)
    (fun g _ hp => by
      show fX6_isSound_L3 s fX6_isSound_K3 (g + 1) (nI nS) = some 1
      rw [fX6_isSound_L3]
      simp only [r0, leN, if_true, fX6_isSound_K3])
    64 (by omega) () (fun m hm => by omega)
  rw [← nI_0]
  rcases F with F | ⟨_, r, E⟩
  · exact .inl F
  · exact .inr ⟨r, E⟩
