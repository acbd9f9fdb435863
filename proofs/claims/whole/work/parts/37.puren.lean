/-! a new shard -/
theorem nI_2 (a : Nat) : nI a + 2 = nI (a + 2) := nI_add a 2
theorem xMvR_m {n m : Nat} {p a b l q c d e : Int32} (hnm : n ≤ m) (h : xMvR n p a b l q c d e) : xMvR m p a b l q c d e := by
  rcases h with h | ⟨i, j, w, i1, j1, g⟩
  · exact .inl h
  · exact .inr ⟨i, j, w, by omega, by omega, g⟩
theorem xUse_z {k nS nT : Nat} {d : Int32} {sc : xSC} {sr : xSR} (h : xInv k d nS nT sc sr) {t m : Nat} (ht : t < nT) : xUse sc t nS m = 0 := by
  have h4 := h.S4
  unfold xUse
  rw [if_neg]
  obtain ⟨s, s0, s1, -⟩ := h.srv t ht
  have ne : ∀ j, j < nS → ¬ nI j = nI nS := fun j hj e => by
    rw [nI_eq (by omega) (by omega)] at e
    omega
  rintro (g | ⟨g1, g2⟩ | ⟨-, g1, g2⟩)
  · rw [s1] at g
    exact ne s s0 g
  · rcases h.mov t ht with ⟨p, q⟩ | ⟨i, j, n, i1, j1, a, b, -⟩
    · rw [p] at g1
      exact absurd g1 (by decide)
    · rw [b] at g2
      exact ne j j1 g2
  · rcases h.mov t ht with ⟨p, q⟩ | ⟨i, j, n, i1, j1, a, b, -⟩
    · rw [p] at g1
      exact absurd g1 (by decide)
    · rw [a] at g2
      exact ne i i1 g2
theorem inv_addS {k nS nT : Nat} {d : Int32} {sc : xSC} {sr : xSR} (h : xInv k d nS nT sc sr) {x y z : Nat} {N : Int32} (hn : nS < 4) (hx : 1 ≤ x ∧ x ≤ 300) (hy : 1 ≤ y ∧ y ≤ 300) (hz : 1 ≤ z ∧ z ≤ 300) (hN : N = nI (nS + 1)) : xInv k d (nS + 1) nT (xaddS nS (nI x) (nI y) (nI z) sc) (xuR (xuR (xuR (xuR sr.1 1 (3 * nS) (nI x)) 1 (3 * nS + 1) (nI y)) 1 (3 * nS + 2) (nI z)) 100 0 N, sr.2) := by
  have c : ∀ a b i, ¬ ((a = 4 ∨ a = 5 ∨ a = 6 ∨ a = 7) ∧ b = nS) → (xaddS nS (nI x) (nI y) (nI z) sc).1 a b i = sc.1 a b i := fun a b i hn => by
    simp only [xaddS]
    rw [if_neg (by omega), if_neg (by omega), if_neg (by omega)]
  have r : ∀ a b, a ≠ 1 → a ≠ 100 → (xuR (xuR (xuR (xuR sr.1 1 (3 * nS) (nI x)) 1 (3 * nS + 1) (nI y)) 1 (3 * nS + 2) (nI z)) 100 0 N) a b = sr.1 a b := fun a b h1 h2 => by simp [xuR, h1, h2]
  have hU : ∀ t j m, xUse (xaddS nS (nI x) (nI y) (nI z) sc) t j m = xUse sc t j m := fun t j m => by
    unfold xUse
    rw [c 11 t 3 (by omega), c 9 t 0 (by omega), c 9 t 1 (by omega), c 9 t 2 (by omega), c 8 t m (by omega)]
  refine ⟨by omega, h.T6, by simp [xuR, hN], ?_, fun j m hj hm => ?_, fun j hj => ?_, fun j hj hj' => ?_, fun t m ht hm => ?_, fun t ht => ?_, fun t ht => ?_, fun t ht => ?_, fun t ht => ?_, fun t ht ht' => ?_, fun j m hj hm => ?_, Nat.le_trans (xCnt_le (fun u _ e => by rw [c 9 u 0 (by omega)]; exact e)) h.cnt, ?_, ?_, ?_, h.ovr⟩
  · show (xuR (xuR (xuR (xuR sr.1 1 (3 * nS) (nI x)) 1 (3 * nS + 1) (nI y)) 1 (3 * nS + 2) (nI z)) 100 0 N) 103 0 = nI nT
    rw [r _ _ (by omega) (by omega)]; exact h.c103
  · by_cases e : j = nS
    · subst e
      rcases (show m = 0 ∨ m = 1 ∨ m = 2 by omega) with rfl | rfl | rfl
      · exact ⟨x, hx.1, hx.2, by simp [xaddS], by simp [xuR]⟩
      · exact ⟨y, hy.1, hy.2, by simp [xaddS], by simp [xuR]⟩
      · exact ⟨z, hz.1, hz.2, by simp [xaddS], by simp [xuR]⟩
    · obtain ⟨n, n1, n2, n3, n4⟩ := h.lim j m (by omega) hm
      refine ⟨n, n1, n2, ?_, ?_⟩
      · rw [c _ _ _ (by omega)]; exact n3
      · simp only [xuR]
        rw [if_neg (by omega), if_neg (by omega), if_neg (by omega), if_neg (by omega)]
        exact n4
  · rw [show (xuR (xuR (xuR (xuR sr.1 1 (3 * nS) (nI x)) 1 (3 * nS + 1) (nI y)) 1 (3 * nS + 2) (nI z)) 100 0 N, sr.2).1 2 j = sr.1 2 j from r 2 j (by omega) (by omega)]
    by_cases e : j = nS
    · subst e
      exact .inl ⟨by simp [xaddS], h.opz j (by omega) (by omega)⟩
    · rw [c _ _ _ (by omega)]
      exact h.opn j (by omega)
  · rw [show (xuR (xuR (xuR (xuR sr.1 1 (3 * nS) (nI x)) 1 (3 * nS + 1) (nI y)) 1 (3 * nS + 2) (nI z)) 100 0 N, sr.2).1 2 j = sr.1 2 j from r 2 j (by omega) (by omega)]
    exact h.opz j (by omega) hj'
  · rw [show (xuR (xuR (xuR (xuR sr.1 1 (3 * nS) (nI x)) 1 (3 * nS + 1) (nI y)) 1 (3 * nS + 2) (nI z)) 100 0 N, sr.2).1 4 (3 * t + m) = sr.1 4 (3 * t + m) from r 4 (3 * t + m) (by omega) (by omega), c _ _ _ (by omega)]
    exact h.siz t m ht hm
  · simpa [xuR, xaddS] using h.gro t ht
  · simpa [xuR, xaddS] using h.win t ht
  · obtain ⟨j, q1, q2, q3⟩ := h.srv t ht
    exact ⟨j, by omega, by simpa [xaddS] using q2, by simpa [xuR] using q3⟩
  · have g := xMvR_m (m := nS + 1) (by omega) (h.mov t ht)
    simpa [xuR, xaddS] using g
  · simpa [xuR] using h.fre t ht ht'
  · rw [xSum_c (fun t _ => hU t j m)]
    by_cases e : j = nS
    · subst e
      have z0 : ∀ n, n ≤ nT → xSum n (fun t => xUse sc t j m) = 0 := by
        intro n
        induction n with
        | zero => intro _; rfl
        | succ n ih =>
          intro hn'
          simp only [xSum]
          rw [ih (by omega), xUse_z h (by omega)]
          rfl
      rw [z0 nT (by omega)]
      simp [xaddS]
    · rw [c _ _ _ (by omega)]
      exact h.use j m (by omega) hm
  · simpa [xuR, xaddS] using h.par
  · simpa [xuR, xaddS] using h.tim
  · simpa [xuR, xaddS] using h.swi
theorem kp_0 {k nS nT : Nat} {sc : xSC} {sr : xSR} {sl : xSL} (h : xInv k 0 nS nT sc sr) (a1 a2 a3 : Int32) : xGood (k + 1) (fC_0 nS nT a1 a2 a3 sc sr sl) := by
  have h4 := h.S4
  have bad : ∀ {a b c : Int32}, a < 1 ∨ 300 < a → fX6_in a 1 300 sr = some 0 := fun g => in_n g
  rcases xrng a1 1 300 with ⟨g1, g2⟩ | g
  · rcases xrng a2 1 300 with ⟨g3, g4⟩ | g
    · rcases xrng a3 1 300 with ⟨g5, g6⟩ | g
      · obtain ⟨x, x1, x2, rfl⟩ := xrng_n (x := 1) (y := 300) rfl rfl (by omega) (by omega) g1 g2
        obtain ⟨y, y1, y2, rfl⟩ := xrng_n (x := 1) (y := 300) rfl rfl (by omega) (by omega) g3 g4
        obtain ⟨z, z1, z2, rfl⟩ := xrng_n (x := 1) (y := 300) rfl rfl (by omega) (by omega) g5 g6
        by_cases e : nS = 4
        · subst e
          have e1 : ¬ nI 4 < 4 := by decide
          have e2 : sr.1 100 0 = 4 := h.c100
          simp [fC_0, fL_addShard, fX5_addShard, fX6_addShard, fX6_thrown, rr_y g1 g2, in_y g1 g2, rr_y g3 g4, in_y g3 g4, rr_y g5 g6, in_y g5 g6, shards_e h4, e1, e2, fls_2, lgc, oG_t, oB_s, oP_s, oT_r, oT_l, oC_r, oC_l, oN_s, oN_n]
          simp [xuR]
          exact xGood_cd h
        · have e1 : nI nS < 4 := nI_lt (b := 4) (by omega) (by omega)
          have e2 : ¬ nI nS = 4 := fun z => by
            have := (nI_eq (a := nS) (b := 4) (by omega) (by omega)).mp z
            omega
          have t0 : xuR sr.1 122 0 0 100 0 = nI nS := by simp [xuR, h.c100]
          have t1 : ∀ v, xuR (xuR sr.1 122 0 0) 1 (3 * nS) v 100 0 = nI nS := fun v => by simp [xuR, h.c100]
          have t2 : ∀ v w, xuR (xuR (xuR sr.1 122 0 0) 1 (3 * nS) v) 1 (3 * nS + 1) w 100 0 = nI nS := fun v w => by simp [xuR, h.c100]
          have t3 : ∀ v w u, xuR (xuR (xuR (xuR sr.1 122 0 0) 1 (3 * nS) v) 1 (3 * nS + 1) w) 1 (3 * nS + 2) u 100 0 = nI nS := fun v w u => by simp [xuR, h.c100]
          have t4 : ∀ v w u r, xuR (xuR (xuR (xuR (xuR sr.1 122 0 0) 1 (3 * nS) v) 1 (3 * nS + 1) w) 1 (3 * nS + 2) u) 100 0 r 100 0 = r := fun v w u r => by simp [xuR]
          have t5 : ∀ v w u r, xuR (xuR (xuR (xuR (xuR sr.1 122 0 0) 1 (3 * nS) v) 1 (3 * nS + 1) w) 1 (3 * nS + 2) u) 100 0 r 122 0 = 0 := fun v w u r => by simp [xuR]
          simp [fC_0, fL_addShard, fX5_addShard, fX6_addShard, fX6_thrown, rr_y g1 g2, in_y g1 g2, rr_y g3 g4, in_y g3 g4, rr_y g5 g6, in_y g5 g6, shards_e h4, e1, e2, h.c100, fls_0, t0, t1, t2, t3, t4, t5, xin4 (show nS < 4 by omega), nN (show nS < 100 by omega), nI_3, nI_1, nI_2, xin_n (show 3 * nS < 12 by omega) (by omega), xin_n (show 3 * nS + 1 < 12 by omega) (by omega), xin_n (show 3 * nS + 2 < 12 by omega) (by omega), nN (show 3 * nS < 100 by omega), nN (show 3 * nS + 1 < 100 by omega), nN (show 3 * nS + 2 < 100 by omega), nI_pred, lgc, oG_t, oB_s, oP_s, oT_r, oT_l, oC_r, oC_l, oN_s, oN_n]
          exact ⟨_, rfl, xInv_k (inv_addS (xInv_cd (c := 0) h) (by omega) ⟨x1, x2⟩ ⟨y1, y2⟩ ⟨z1, z2⟩ rfl) (by omega)⟩
      · simp [fC_0, fL_addShard, fX5_addShard, fX6_addShard, fX6_thrown, rr_y g1 g2, in_y g1 g2, rr_y g3 g4, in_y g3 g4, rr_n g, in_n g, fls_1, lgc, oG_t, oB_s, oP_s, oT_r, oT_l, oC_r, oC_l, oN_s, oN_n]
        simp [xuR]
        exact xGood_cd h
    · simp [fC_0, fL_addShard, fX5_addShard, fX6_addShard, fX6_thrown, rr_y g1 g2, in_y g1 g2, rr_n g, in_n g, fls_1, lgc, oG_t, oB_s, oP_s, oT_r, oT_l, oC_r, oC_l, oN_s, oN_n]
      simp [xuR]
      exact xGood_cd h
  · simp [fC_0, fL_addShard, fX5_addShard, fX6_addShard, fX6_thrown, rr_n g, in_n g, fls_1, lgc, oG_t, oB_s, oP_s, oT_r, oT_l, oC_r, oC_l, oN_s, oN_n]
    simp [xuR]
    exact xGood_cd h
