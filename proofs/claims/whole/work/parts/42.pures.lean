/-! one hour of one move, on both sides -/
theorem goOn_e {k nS nT : Nat} {d : Int32} {sc : xSC} {sr : xSR} (h : xInv k d nS nT sc sr) {t T : Nat} (ht : t < nT) (e : sc.1 0 0 5 = nI T) (hT : T < 50000) (p0 : sc.1 9 t 0 ≠ 45) : ∃ v sc' sr', (v = 0 ∨ v = 1) ∧ fX5_goOn nS nT t sc = some (v, sc') ∧ fX6_goesOn (nI t) sr = some (v, sr') ∧ xInv k d nS nT sc' sr' ∧ sc'.1 0 0 5 = nI T ∧ sr'.1 122 0 = sr.1 122 0 := by
  have h6 := h.T6
  have h4 := h.S4
  have g1 := xin6 (show t < 6 by omega)
  have g2 := nN (show t < 100 by omega)
  obtain ⟨T', hT', e', e2⟩ := h.tim
  have e2 : sr.1 116 0 = nI T := by rw [e2, ← e', e]
  obtain ⟨a, b, ha, hb, u1, u2, u3, u4⟩ := h.win t ht
  obtain ⟨s2, hs2⟩ : ∃ s2, s2 = xCUi nS t (-1) sc := ⟨_, rfl⟩
  have c : ∀ a b i, a ≠ 6 → s2.1 a b i = sc.1 a b i := fun a b i h => by rw [hs2]; exact xCU_o h
  have hd := hod_e (nS := nS) (nT := nT) (n := T) (x := s2.1 0 0 5) (s := s2) (by rw [c _ _ _ (by omega), e]) (by omega)
  have hw := iw_e (nS := nS) (nT := nT) (t := t) (x := T % 24) (sc := s2) ha hb (by omega) (by rw [c _ _ _ (by omega), u1]) (by rw [c _ _ _ (by omega), u3])
  have hr := iw_r (t := t) (x := T % 24) (sr := sr) (by omega) ha hb (by omega) u2 u4
  have r := pk_rem (a := T) (d := 24) (by omega) (by omega) (by omega)
  rw [show nI 24 = (24 : Int32) from rfl] at r
  have hS : ∀ m, m < 3 → ∃ n, 1 ≤ n ∧ n ≤ 999 ∧ sc.1 8 t m = nI n ∧ sr.1 4 (3 * t + m) = nI n := fun m hm => h.siz t m ht hm
  have C0 : ∀ s6, fX1_goOn nS nT 9 t (if xWin a b (T % 24) = true then 1 else 0) s2 = some (0, s6) → fX5_goOn nS nT t sc = some (0, xCUi nS t 1 s6) := fun s6 g => by
    rw [fX5_goOn, countUse_e h4, ← hs2, oP_s]
    simp only [hd, hw, g, countUse_e h4, xnb0, if_true, oG_t, oB_s, oP_s, oT_r, oT_l, oC_r, oC_l, oN_s, oN_n]
  rcases h.mov t ht with ⟨p, q⟩ | ⟨i, j, n, i1, j1, ma, mb, ml, mc, md, ⟨p, q, n1, n2, ml'⟩ | ⟨p, q, n0⟩ | ⟨p, q, n1, n2, ml'⟩⟩
  · exact absurd p p0
  · have q2 : ¬ sr.1 9 t = 2 := by rw [q]; decide
    have q0 : ¬ sr.1 9 t = 0 := by rw [q]; decide
    by_cases hn : n = 1
    · subst hn
      refine ⟨0, _, _, .inl rfl, C0 _ (go_c (by rw [c _ _ _ (by omega), p]) (by rw [c _ _ _ (by omega), ml])), ?_, inv_ci (sr' := (xuR (xuR sr.1 12 t 0) 9 t 2, sr.2)) h ht (fun k j i hn => ?_) ?_ (fun a b hn => ?_) rfl (fun m' hm' => ?_) ?_ ?_ ?_, ?_, by simp [xuR]⟩
      · have w : sr.1 12 t - 1 = 0 := by rw [ml']; rfl
        have w1 : xuR sr.1 12 t 0 12 t = 0 := by simp [xuR]
        have w2 : xuR sr.1 12 t 0 9 t = 1 := by simp [xuR, q]
        rw [fX6_goesOn]
        simp only [g1, g2, q2, q0, w, w1, w2, if_true, if_false, oG_t, oB_s, oP_s, oT_r, oT_l, oC_r, oC_l, oN_s, oN_n]
      · simp only [xuC]
        rw [if_neg (by omega), if_neg (by omega), hs2]
      · show s2.2 = sc.2
        rw [hs2]; rfl
      · simp only [xuR]
        rw [if_neg (by omega), if_neg (by omega)]
      · obtain ⟨n', n1, n2, n3, n4⟩ := hS m' hm'
        exact ⟨n', n1, n2, by simp [xuC, c, n3], by simp [xuR, n4]⟩
      · obtain ⟨s, v1, v2, v3⟩ := h.srv t ht
        exact ⟨s, v1, by simp [xuC, c, v2], by simp [xuR, v3]⟩
      · exact .inr ⟨i, j, 0, i1, j1, by simp [xuC, c, ma], by simp [xuC, c, mb], by simp [xuC]; rfl, by simp [xuR, mc], by simp [xuR, md], .inr (.inl ⟨by simp [xuC], by simp [xuR], rfl⟩)⟩
      · refine Nat.le_trans (xCnt_le (fun u _ x => ?_)) h.cnt
        by_cases hu : u = t
        · subst hu; exact absurd x p0
        · simp [xuC, c, hu, x]
      · rw [xCU_o (by omega)]
        simp [xuC, c, e]
    · obtain ⟨l, rfl⟩ : ∃ l, n = l + 2 := ⟨n - 2, by omega⟩
      refine ⟨0, _, _, .inl rfl, C0 _ (go_n (l := l) (k0 := 9) (j0 := t) (s := s2) (by omega) (by rw [c 9 t 0 (by omega), p]; decide) (by rw [c 9 t 3 (by omega), ml])), ?_, inv_ci (sr' := (xuR sr.1 12 t (nI (l + 1)), sr.2)) h ht (fun k j i hn => ?_) ?_ (fun a b hn => ?_) rfl (fun m' hm' => ?_) ?_ ?_ ?_, ?_, by simp [xuR]⟩
      · have w : sr.1 12 t - 1 = nI (l + 1) := by rw [ml', nI_pred]
        have w1 : ¬ xuR sr.1 12 t (nI (l + 1)) 12 t = 0 := by simp only [xuR, and_self, if_true]; exact nI_ne0 (by omega) (by omega)
        rw [fX6_goesOn]
        simp only [g1, g2, q2, q0, w, w1, if_true, if_false, oG_t, oB_s, oP_s, oT_r, oT_l, oC_r, oC_l, oN_s, oN_n]
      · simp only [xuC]
        rw [if_neg (by omega), hs2]
      · show s2.2 = sc.2
        rw [hs2]; rfl
      · simp only [xuR]
        rw [if_neg (by omega)]
      · obtain ⟨n', n1, n2, n3, n4⟩ := hS m' hm'
        exact ⟨n', n1, n2, by simp [xuC, c, n3], by simp [xuR, n4]⟩
      · obtain ⟨s, v1, v2, v3⟩ := h.srv t ht
        exact ⟨s, v1, by simp [xuC, c, v2], by simp [xuR, v3]⟩
      · exact .inr ⟨i, j, l + 1, i1, j1, by simp [xuC, c, ma], by simp [xuC, c, mb], by simp [xuC], by simp [xuR, mc], by simp [xuR, md], .inl ⟨by simp [xuC, c, p], by simp [xuR, q], by omega, by omega, by simp [xuR]⟩⟩
      · refine Nat.le_trans (xCnt_le (fun u _ x => ?_)) h.cnt
        by_cases hu : u = t
        · subst hu; exact absurd x p0
        · simp [xuC, c, x]
      · rw [xCU_o (by omega)]
        simp [xuC, c, e]
  · subst n0
    by_cases w : xWin a b (T % 24) = true
    · rw [if_pos w] at hw hr
      have g : fX1_goOn nS nT 9 t 1 s2 = some (1, (xuC (xuC s2.1 9 t 0 100) 9 t 3 2, s2.2)) := go_f1 (by rw [c _ _ _ (by omega), p])
      have w0 : (xuC (xuC s2.1 9 t 0 100) 9 t 3 2) 9 t 2 = nI j := by simp [xuC, c, mb]
      refine ⟨1, xCUi nS t 1 (xuC (xuC (xuC s2.1 9 t 0 100) 9 t 3 2) 11 t 3 (nI j), s2.2), _, .inr rfl, ?_, ?_, inv_ci (sr' := (xuR (xuR (xuR sr.1 8 t (nI j)) 9 t 3) 12 t 2, sr.2)) h ht (fun k j i hn => ?_) ?_ (fun a b hn => ?_) rfl (fun m' hm' => ?_) ?_ ?_ ?_, ?_, by simp [xuR]⟩
      · rw [fX5_goOn, countUse_e h4, ← hs2, oP_s]
        simp only [hd, hw, g, w0, countUse_e h4, xnb1, n10, if_false, oG_t, oB_s, oP_s, oT_r, oT_l, oC_r, oC_l, oN_s, oN_n]
      · rw [fX6_goesOn]
        simp only [g1, g2, q, e2, r, hr, n10, md, if_true, if_false, oG_t, oB_s, oP_s, oT_r, oT_l, oC_r, oC_l, oN_s, oN_n]
      · simp only [xuC]
        rw [if_neg (by omega), if_neg (by omega), if_neg (by omega), hs2]
      · show s2.2 = sc.2
        rw [hs2]; rfl
      · simp only [xuR]
        rw [if_neg (by omega), if_neg (by omega), if_neg (by omega)]
      · obtain ⟨n', n1, n2, n3, n4⟩ := hS m' hm'
        exact ⟨n', n1, n2, by simp [xuC, c, n3], by simp [xuR, n4]⟩
      · exact ⟨j, j1, by simp [xuC], by simp [xuR]⟩
      · exact .inr ⟨i, j, 2, i1, j1, by simp [xuC, c, ma], by simp [xuC, c, mb], by simp [xuC]; rfl, by simp [xuR, mc], by simp [xuR, md], .inr (.inr ⟨by simp [xuC], by simp [xuR], by omega, by omega, by simp [xuR]; rfl⟩)⟩
      · refine Nat.le_trans (xCnt_le (fun u _ x => ?_)) h.cnt
        by_cases hu : u = t
        · subst hu; exact absurd x p0
        · simp [xuC, c, hu, x]
      · rw [xCU_o (by omega)]
        simp [xuC, c, e]
    · rw [if_neg w] at hw hr C0
      refine ⟨0, _, _, .inl rfl, C0 _ (go_f0 (by rw [c _ _ _ (by omega), p])), ?_, inv_ci (sr' := sr) h ht (fun k j i hn => by rw [hs2]) (by rw [hs2]; rfl) (fun a b hn => rfl) rfl (fun m' hm' => ?_) ?_ ?_ ?_, ?_, by simp [xuR]⟩
      · rw [fX6_goesOn]
        simp only [g1, g2, q, e2, r, hr, if_true, oG_t, oB_s, oP_s, oT_r, oT_l, oC_r, oC_l, oN_s, oN_n]
      · obtain ⟨n', n1, n2, n3, n4⟩ := hS m' hm'
        exact ⟨n', n1, n2, by simp [c, n3], n4⟩
      · obtain ⟨s, v1, v2, v3⟩ := h.srv t ht
        exact ⟨s, v1, by simp [c, v2], v3⟩
      · simpa [c] using h.mov t ht
      · refine Nat.le_trans (xCnt_le (fun u _ x => ?_)) h.cnt
        rw [c _ _ _ (by omega)]; exact x
      · rw [xCU_o (by omega)]
        simp [c, e]
  · have q2 : ¬ sr.1 9 t = 2 := by rw [q]; decide
    have q0 : ¬ sr.1 9 t = 0 := by rw [q]; decide
    by_cases hn : n = 1
    · subst hn
      refine ⟨0, _, _, .inl rfl, C0 _ (go_d (by rw [c _ _ _ (by omega), p]) (by rw [c _ _ _ (by omega), ml])), ?_, inv_ci (sr' := (xuR (xuR sr.1 12 t 0) 9 t 0, sr.2)) h ht (fun k j i hn => ?_) ?_ (fun a b hn => ?_) rfl (fun m' hm' => ?_) ?_ ?_ ?_, ?_, by simp [xuR]⟩
      · have w : sr.1 12 t - 1 = 0 := by rw [ml']; rfl
        have w1 : xuR sr.1 12 t 0 12 t = 0 := by simp [xuR]
        have w2 : xuR sr.1 12 t 0 9 t = 3 := by simp [xuR, q]
        rw [fX6_goesOn]
        simp only [g1, g2, q2, q0, w, w1, w2, if_true, if_false, show ((3 : Int32) = 1) = False from eq_false (by decide), oG_t, oB_s, oP_s, oT_r, oT_l, oC_r, oC_l, oN_s, oN_n]
      · simp only [xuC]
        rw [if_neg (by omega), if_neg (by omega), hs2]
      · show s2.2 = sc.2
        rw [hs2]; rfl
      · simp only [xuR]
        rw [if_neg (by omega), if_neg (by omega)]
      · obtain ⟨n', n1, n2, n3, n4⟩ := hS m' hm'
        exact ⟨n', n1, n2, by simp [xuC, c, n3], by simp [xuR, n4]⟩
      · obtain ⟨s, v1, v2, v3⟩ := h.srv t ht
        exact ⟨s, v1, by simp [xuC, c, v2], by simp [xuR, v3]⟩
      · exact .inl ⟨by simp [xuC], by simp [xuR]⟩
      · refine Nat.le_trans (xCnt_le (fun u _ x => ?_)) h.cnt
        by_cases hu : u = t
        · subst hu; exact absurd x p0
        · simp [xuC, c, hu, x]
      · rw [xCU_o (by omega)]
        simp [xuC, c, e]
    · obtain ⟨l, rfl⟩ : ∃ l, n = l + 2 := ⟨n - 2, by omega⟩
      refine ⟨0, _, _, .inl rfl, C0 _ (go_n (l := l) (k0 := 9) (j0 := t) (s := s2) (by omega) (by rw [c 9 t 0 (by omega), p]; decide) (by rw [c 9 t 3 (by omega), ml])), ?_, inv_ci (sr' := (xuR sr.1 12 t (nI (l + 1)), sr.2)) h ht (fun k j i hn => ?_) ?_ (fun a b hn => ?_) rfl (fun m' hm' => ?_) ?_ ?_ ?_, ?_, by simp [xuR]⟩
      · have w : sr.1 12 t - 1 = nI (l + 1) := by rw [ml', nI_pred]
        have w1 : ¬ xuR sr.1 12 t (nI (l + 1)) 12 t = 0 := by simp only [xuR, and_self, if_true]; exact nI_ne0 (by omega) (by omega)
        rw [fX6_goesOn]
        simp only [g1, g2, q2, q0, w, w1, if_true, if_false, oG_t, oB_s, oP_s, oT_r, oT_l, oC_r, oC_l, oN_s, oN_n]
      · simp only [xuC]
        rw [if_neg (by omega), hs2]
      · show s2.2 = sc.2
        rw [hs2]; rfl
      · simp only [xuR]
        rw [if_neg (by omega)]
      · obtain ⟨n', n1, n2, n3, n4⟩ := hS m' hm'
        exact ⟨n', n1, n2, by simp [xuC, c, n3], by simp [xuR, n4]⟩
      · obtain ⟨s, v1, v2, v3⟩ := h.srv t ht
        exact ⟨s, v1, by simp [xuC, c, v2], by simp [xuR, v3]⟩
      · exact .inr ⟨i, j, l + 1, i1, j1, by simp [xuC, c, ma], by simp [xuC, c, mb], by simp [xuC], by simp [xuR, mc], by simp [xuR, md], .inr (.inr ⟨by simp [xuC, c, p], by simp [xuR, q], by omega, by omega, by simp [xuR]⟩)⟩
      · refine Nat.le_trans (xCnt_le (fun u _ x => ?_)) h.cnt
        by_cases hu : u = t
        · subst hu; exact absurd x p0
        · simp [xuC, c, x]
      · rw [xCU_o (by omega)]
        simp [xuC, c, e]
