/-! a tenant changed between counting out and in -/
theorem xCU_o {i t k j m : Nat} {g : Int32} {sc : xSC} (hk : k ≠ 6) : (xCUi i t g sc).1 k j m = sc.1 k j m := by simp [xCUi, hk]
theorem inv_ci {k nS nT : Nat} {d : Int32} {sc : xSC} {sr : xSR} (h : xInv k d nS nT sc sr) {t : Nat} (ht : t < nT) {s2 : xSC} {sr' : xSR}
    (h2 : ∀ k j m, ¬ ((k = 8 ∨ k = 9 ∨ (k = 11 ∧ m = 3)) ∧ j = t) → s2.1 k j m = (xCUi nS t (-1) sc).1 k j m) (h2' : s2.2 = sc.2)
    (hr : ∀ a b, ¬ ((a = 4 ∧ 3 * t ≤ b ∧ b < 3 * t + 3) ∨ ((a = 8 ∨ a = 9 ∨ a = 10 ∨ a = 11 ∨ a = 12) ∧ b = t)) → sr'.1 a b = sr.1 a b) (hr' : sr'.2 = sr.2)
    (hs : ∀ m, m < 3 → ∃ n, 1 ≤ n ∧ n ≤ 999 ∧ s2.1 8 t m = nI n ∧ sr'.1 4 (3 * t + m) = nI n)
    (hv : ∃ j, j < nS ∧ s2.1 11 t 3 = nI j ∧ sr'.1 8 t = nI j)
    (hmv : xMvR nS (s2.1 9 t 0) (s2.1 9 t 1) (s2.1 9 t 2) (s2.1 9 t 3) (sr'.1 9 t) (sr'.1 10 t) (sr'.1 11 t) (sr'.1 12 t))
    (hc : xCnt s2 nT ≤ 3) :
    xInv k d nS nT (xCUi nS t 1 s2) sr' := by
  have c : ∀ k j m, k ≠ 6 → ¬ ((k = 8 ∨ k = 9 ∨ (k = 11 ∧ m = 3)) ∧ j = t) → (xCUi nS t 1 s2).1 k j m = sc.1 k j m := fun k j m hk hn => by
    rw [xCU_o hk, h2 k j m hn, xCU_o hk]
  have c' : ∀ k j m, k ≠ 6 → (xCUi nS t 1 s2).1 k j m = s2.1 k j m := fun k j m hk => xCU_o hk
  refine ⟨h.S4, h.T6, ?_, ?_, fun j m hj hm => ?_, fun j hj => ?_, fun j hj hj' => ?_, fun u m hu hm => ?_, fun u hu => ?_, fun u hu => ?_, fun u hu => ?_, fun u hu => ?_, fun u hu hu' => ?_, ?_, Nat.le_trans (xCnt_le (fun u _ e => by rw [c' 9 u 0 (by omega)]; exact e)) hc, ?_, ?_, ?_, ?_⟩
  · rw [hr _ _ (by omega)]; exact h.c100
  · rw [hr _ _ (by omega)]; exact h.c103
  · rw [hr _ _ (by omega), c _ _ _ (by omega) (by omega)]; exact h.lim j m hj hm
  · rw [hr _ _ (by omega), c _ _ _ (by omega) (by omega)]; exact h.opn j hj
  · rw [hr _ _ (by omega)]; exact h.opz j hj hj'
  · by_cases e : u = t
    · subst e
      rw [c' _ _ _ (by omega)]
      exact hs m hm
    · rw [hr _ _ (by omega), c _ _ _ (by omega) (by omega)]; exact h.siz u m hu hm
  · rw [hr _ _ (by omega), c _ _ _ (by omega) (by omega)]; exact h.gro u hu
  · rw [hr 6 _ (by omega), hr 7 _ (by omega), c 11 u 4 (by omega) (by omega), c 11 u 5 (by omega) (by omega)]; exact h.win u hu
  · by_cases e : u = t
    · subst e
      rw [c' _ _ _ (by omega)]
      exact hv
    · rw [hr _ _ (by omega), c _ _ _ (by omega) (by omega)]; exact h.srv u hu
  · by_cases e : u = t
    · subst e
      rw [c' 9 u 0 (by omega), c' 9 u 1 (by omega), c' 9 u 2 (by omega), c' 9 u 3 (by omega)]
      exact hmv
    · rw [hr 9 _ (by omega), hr 10 _ (by omega), hr 11 _ (by omega), hr 12 _ (by omega), c 9 u 0 (by omega) (by omega), c 9 u 1 (by omega) (by omega), c 9 u 2 (by omega) (by omega), c 9 u 3 (by omega) (by omega)]; exact h.mov u hu
  · rw [hr 6 _ (by omega), hr 7 _ (by omega), hr 9 _ (by omega)]; exact h.fre u hu hu'
  · exact use_ci ht h.use (fun k j m hn => h2 k j m (by omega))
  · obtain ⟨np, p1, p2, p3, p4, p5⟩ := h.par
    refine ⟨np, p1, ?_, ?_, fun p hp => ?_, fun u hu => ?_⟩
    · rw [c _ _ _ (by omega) (by omega)]; exact p2
    · rw [hr _ _ (by omega)]; exact p3
    · rw [hr 14 _ (by omega), hr 15 _ (by omega)]; exact p4 p hp
    · obtain ⟨w, w1, w2, w3⟩ := p5 u hu
      refine ⟨w, w1, ?_, fun o ho => ?_⟩
      · rw [c _ _ _ (by omega) (by omega)]; exact w2
      · rw [w3 o ho]
        exact exists_congr fun p => by rw [hr 14 _ (by omega), hr 15 _ (by omega)]
  · rw [hr _ _ (by omega), c _ _ _ (by omega) (by omega)]; exact h.tim
  · rw [hr _ _ (by omega), c _ _ _ (by omega) (by omega)]; exact h.swi
  · show s2.2 = sr'.2
    rw [h2', hr']; exact h.ovr
theorem kp_4 {k nS nT : Nat} {sc : xSC} {sr : xSR} {sl : xSL} (h : xInv k 0 nS nT sc sr) (a1 a2 a3 : Int32) : xGood (k + 1) (fC_4 nS nT a1 a2 a3 sc sr sl) := by
  have h6 := h.T6
  rcases xidx nT (by omega) a1 with ⟨t, ht, rfl⟩ | ha
  · rcases xrng a2 1 2 with ⟨g1, g2⟩ | g
    · obtain ⟨m, m1, m2, rfl⟩ := xrng_n (x := 1) (y := 2) rfl rfl (by omega) (by omega) g1 g2
      rcases xrng a3 1 100 with ⟨g3, g4⟩ | g
      · obtain ⟨w, w1, w2, rfl⟩ := xrng_n (x := 1) (y := 100) rfl rfl (by omega) (by omega) g3 g4
        obtain ⟨n, -, -, e1, e2⟩ := h.siz t m ht (by omega)
        have o : ∀ s : xSC, fX0_of nS nT 8 t (nI m) s = some (s.1 8 t m) := fun s => of_e (by omega)
        have p : ∀ (s : xSC) v, fX0_put nS nT 8 t (nI m) v s = some ((), (xuC s.1 8 t m v, s.2)) := fun s v => put_e (by omega)
        simp [fC_4, fL_setSize, fX5_setSize, fX6_setSize, fX6_thrown, knT_y h6 ht, noT_y (N := nT) (by omega) ht h.c103, rr_y g1 g2, in_y g1 g2, rr_y g3 g4, in_y g3 g4, countUse_e h.S4, o, p, fls_0, ht, nI_3m, xin_n (show 3 * t + m < 18 by omega) (by omega), nN (show 3 * t + m < 100 by omega), lgc, oG_t, oB_s, oP_s, oT_r, oT_l, oC_r, oC_l, oN_s, oN_n]
        simp [show (xuR sr.1 122 0 0) 4 (3 * t + m) = nI n from by simpa [xuR] using e2, e1, lgc, show ∀ v, xuR (xuR sr.1 122 0 0) 4 (3 * t + m) v 122 0 = 0 from fun v => by simp [xuR]]
        refine xGood_i (inv_ci (xInv_cd (c := 0) h) ht (fun k j i hn => ?_) rfl (fun a b hn => ?_) rfl (fun m' hm' => ?_) ?_ ?_ (Nat.le_trans (xCnt_le (fun u _ e => by simpa [xuC, xCU_o] using e)) h.cnt))
        · simp only [xuC]
          rw [if_neg (by omega)]
        · simp only [xuR]
          rw [if_neg (by omega)]
        · by_cases e : m' = m
          · subst e
            exact ⟨w, w1, by omega, by simp [xuC], by simp [xuR]⟩
          · obtain ⟨n', n1, n2, n3, n4⟩ := h.siz t m' ht hm'
            refine ⟨n', n1, n2, ?_, ?_⟩
            · simp [xuC, e, xCU_o, n3]
            · simp [xuR, e, n4]
        · obtain ⟨j, q1, q2, q3⟩ := h.srv t ht
          exact ⟨j, q1, by simp [xuC, xCU_o, q2], by simp [xuR, q3]⟩
        · simpa [xuC, xuR, xCU_o] using h.mov t ht
      · simp [fC_4, fL_setSize, fX5_setSize, fX6_setSize, fX6_thrown, knT_y h6 ht, noT_y (N := nT) (by omega) ht h.c103, rr_y g1 g2, in_y g1 g2, rr_n g, in_n g, fls_2, ht, lgc, xuR, oG_t, oB_s, oP_s, oT_r, oT_l, oC_r, oC_l, oN_s, oN_n]
        exact xGood_cd h
    · simp [fC_4, fL_setSize, fX5_setSize, fX6_setSize, fX6_thrown, knT_y h6 ht, noT_y (N := nT) (by omega) ht h.c103, rr_n g, in_n g, fls_2, ht, lgc, xuR, oG_t, oB_s, oP_s, oT_r, oT_l, oC_r, oC_l, oN_s, oN_n]
      exact xGood_cd h
  · simp [fC_4, fL_setSize, fX5_setSize, fX6_setSize, fX6_thrown, knT_n h6 ha, noT_n (N := nT) (by omega) ha h.c103, fls_1, lgc, xuR, oG_t, oB_s, oP_s, oT_r, oT_l, oC_r, oC_l, oN_s, oN_n]
    exact xGood_cd h
