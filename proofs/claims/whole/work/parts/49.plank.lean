/-! the reference lays a plan by its number -/
theorem lays_L {S N k : Nat} (hN : N ≤ 6) (hS4 : S ≤ 4) (hk : k < 5000) (m : Nat) : ∀ f (sr : xSR), m ≤ N → (0 < m → 0 < S) → sr.1 100 0 = nI S →
    ∃ sr', fX6_laysPlan_L1 fX6_laysPlan_K1 (f + m + 1) (nI (k / S ^ (N - m))) (nI m - 1) sr = some ((), sr') ∧ (∀ a b, a ≠ 19 → sr'.1 a b = sr.1 a b) ∧ sr'.2 = sr.2 ∧ (∀ t, m ≤ t → sr'.1 19 t = sr.1 19 t) ∧ ∀ t, t < m → sr'.1 19 t = nI (xDig S N k t) := by
  induction m with
  | zero =>
    intro f sr hm hS e
    refine ⟨sr, ?_, fun a b h => rfl, rfl, fun t h => rfl, fun t h => by omega⟩
    rw [fX6_laysPlan_L1, if_pos (by decide), fX6_laysPlan_K1]
  | succ m ih =>
    intro f sr hm hS e
    have hS := hS (by omega)
    have hq : k / S ^ (N - (m + 1)) < 5000 := Nat.lt_of_le_of_lt (Nat.div_le_self _ _) hk
    have hd : k / S ^ (N - (m + 1)) % S = xDig S N k m := by unfold xDig; rw [show N - 1 - m = N - (m + 1) by omega]
    have hn : k / S ^ (N - (m + 1)) / S = k / S ^ (N - m) := by
      rw [Nat.div_div_eq_div_mul, ← Nat.pow_succ, show (N - (m + 1)).succ = N - m by omega]
    have hS0 : ¬ nI S = 0 := nI_ne0 hS (by omega)
    obtain ⟨s1, hs1⟩ : ∃ s1 : xSR, s1 = (xuR sr.1 19 m (nI (xDig S N k m)), sr.2) := ⟨_, rfl⟩
    have e1 : s1.1 100 0 = nI S := by rw [hs1]; simp [xuR, e]
    obtain ⟨sr', i1, i2, i3, i4, i5⟩ := ih f s1 (by omega) (fun _ => hS) e1
    refine ⟨sr', ?_, fun a b h => ?_, ?_, fun t ht => ?_, fun t ht => ?_⟩
    · rw [show f + (m + 1) + 1 = (f + m + 1) + 1 by omega, fX6_laysPlan_L1]
      rw [nI_pred, if_neg (nI_pos (by omega)), e, xin_n (by omega) (by omega), nI_N (by omega), pk_rem (by omega) hS (by omega), hd]
      rw [← hs1, e1, pk_div (by omega) hS (by omega), hn]
      rw [oG_e (by simpa using hS0) rfl, oG_t, oG_e (by simpa using hS0) rfl]
      rw [← i1]
      cases m with
      | zero => rfl
      | succ m => rw [pk_m1, nI_pred]
    · rw [i2 a b h, hs1]; simp [xuR, h]
    · rw [i3, hs1]
    · rw [i4 t (by omega), hs1]; simp only [xuR]; rw [if_neg (by omega)]
    · by_cases g : t = m
      · subst g
        rw [i4 t (by omega), hs1]; simp [xuR]
      · exact i5 t (by omega)
theorem lays_e {S N k : Nat} (hN : N ≤ 6) (hS4 : S ≤ 4) (hk : k < 5000) (hS : 0 < N → 0 < S) {sr : xSR} (e : sr.1 100 0 = nI S) (e3 : sr.1 103 0 = nI N) :
    ∃ sr', fX6_laysPlan (nI k) sr = some ((), sr') ∧ (∀ a b, a ≠ 19 → sr'.1 a b = sr.1 a b) ∧ sr'.2 = sr.2 ∧ ∀ t, t < N → sr'.1 19 t = nI (xDig S N k t) := by
  obtain ⟨sr', i1, i2, i3, i4, i5⟩ := lays_L hN hS4 hk N (63 - N) sr (Nat.le_refl _) hS e
  refine ⟨sr', ?_, i2, i3, i5⟩
  rw [Nat.sub_self, Nat.pow_zero, Nat.div_one, show 63 - N + N + 1 = 64 by omega] at i1
  rw [fX6_laysPlan, e3, i1]
/-! its moves -/
theorem xin6' {i : Nat} (h : i < 6) : xinb (nI i) 6 = true := xin_n h (by omega)
theorem movP_e {N : Nat} {v d : Nat → Nat} {s : xSR} (hN : N ≤ 6) (e3 : s.1 103 0 = nI N) (hd : ∀ t, t < N → s.1 19 t = nI (d t) ∧ d t < 4) (hv : ∀ t, t < N → s.1 8 t = nI (v t) ∧ v t < 4) : fX6_movesOfPlan s = some (nI (xMvp v d N)) := by
  obtain ⟨x, r, E⟩ := xlpR (fun f i (x : Int32) => fX6_movesOfPlan_L1 s fX6_movesOfPlan_K1 f x i) (fun x => some x) (fun i x => x = nI (xMvp v d i)) N N (Nat.le_refl _)
    (fun g i x hi hp => by
      refine ⟨nI (xMvp v d (i + 1)), ?_, rfl⟩
      show fX6_movesOfPlan_L1 s fX6_movesOfPlan_K1 (g + 1) x (nI i) = fX6_movesOfPlan_L1 s fX6_movesOfPlan_K1 g (nI (xMvp v d (i + 1))) (nI (i + 1))
      rw [fX6_movesOfPlan_L1]
      simp only [e3, geN hi (by omega), xin6' (show i < 6 by omega), nI_N (show i < 1000000 by omega), (hd i hi).1, (hv i hi).1, nI_1, if_false, oG_t, oB_s, oP_s, oT_r, oT_l, oC_r, oC_l, oN_s, oN_n]
      have a1 := (hd i hi).2
      have a2 := (hv i hi).2
      rw [hp]
      simp only [xMvp]
      by_cases g : d i = v i
      · rw [if_pos (by rw [g]), if_pos g, Int32.add_zero]; rfl
      · rw [if_neg (by rw [nI_eq (by omega) (by omega)]; exact g), if_neg g, nI_1])
    (fun g i x h1 h2 => by omega)
    (fun g x hp => by
      show fX6_movesOfPlan_L1 s fX6_movesOfPlan_K1 (g + 1) x (nI N) = some x
      rw [fX6_movesOfPlan_L1]
      simp only [e3, leN, if_true, fX6_movesOfPlan_K1])
    64 (by omega) (nI 0) rfl
  have E : fX6_movesOfPlan_L1 s fX6_movesOfPlan_K1 64 (nI 0) (nI 0) = some x := E
  rw [nI_0] at E
  rw [fX6_movesOfPlan, E, r]
