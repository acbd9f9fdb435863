/-! a new tenant: the case -/
theorem oB_e {α β : Type} {x : Option α} {k : α → Option β} {a : α} {r : Option β} (hx : x = some a) (h : k a = r) : oB x k = r := by rw [hx, oB_s, h]
theorem oP_e {α σ β : Type} {x : Option (α × σ)} {k : α → σ → Option β} {a : α} {s : σ} {r : Option β} (hx : x = some (a, s)) (h : k a s = r) : oP x k = r := by rw [hx, oP_s, h]
theorem oG_e {β : Type} {c : Bool} {a r : Option β} (hc : c = true) (h : a = r) : oG c a = r := by rw [hc, oG_t, h]
theorem it_p {c : Prop} [Decidable c] {β : Type} {a b r : β} (hc : c) (h : a = r) : (if c then a else b) = r := by rw [if_pos hc, h]
theorem it_n {c : Prop} [Decidable c] {β : Type} {a b r : β} (hc : ¬ c) (h : b = r) : (if c then a else b) = r := by rw [if_neg hc, h]
theorem n10 : ¬ (1 : Int32) = 0 := by decide
theorem x103_0 {f : Nat → Nat → Int32} {k j : Nat} {v : Int32} (h : k ≠ 103) : xuR f k j v 103 0 = f 103 0 := by
  simp only [xuR]
  rw [if_neg (by omega)]
theorem x122_0 {f : Nat → Nat → Int32} {k j : Nat} {v : Int32} (h : k ≠ 122) : xuR f k j v 122 0 = f 122 0 := by
  simp only [xuR]
  rw [if_neg (by omega)]
theorem xsm {f : Nat → Nat → Int32} {k j : Nat} {v : Int32} : xuR f k j v k j = v := by simp [xuR]
theorem at_n1 {k nS nT : Nat} {d : Int32} {sc : xSC} {sr : xSR} (h : xInv k d nS nT sc sr) {a1 a2 a3 a4 a5 : Int32} (ha : a1 < 0 ∨ nI nS ≤ a1) : fX6_addTenant a1 a2 a3 a4 a5 sr = some (0, (xuR sr.1 122 0 1, sr.2)) := by
  have h4 := h.S4
  rw [fX6_addTenant]
  exact oB_e (noS_n (N := nS) (by omega) ha h.c100) (it_n n10 (oP_e (fls_1 sr) (it_n n10 rfl)))
theorem at_n2 {k nS nT : Nat} {d : Int32} {sc : xSC} {sr : xSR} (h : xInv k d nS nT sc sr) {j : Nat} {a2 a3 a4 a5 : Int32} (hj : j < nS) (hb : (a2 < 1 ∨ 100 < a2) ∨ (a3 < 1 ∨ 100 < a3) ∨ (a4 < 1 ∨ 100 < a4) ∨ (a5 < 0 ∨ 9 < a5)) : fX6_addTenant (nI j) a2 a3 a4 a5 sr = some (0, (xuR sr.1 122 0 2, sr.2)) := by
  have h4 := h.S4
  rw [fX6_addTenant]
  refine oB_e (noS_y (N := nS) (by omega) hj h.c100) (it_p rfl ?_)
  rcases xrng a2 1 100 with ⟨g1, g2⟩ | g
  · refine oB_e (in_y g1 g2) (it_n n10 ?_)
    rcases xrng a3 1 100 with ⟨g3, g4⟩ | g
    · refine oB_e (in_y g3 g4) (it_n n10 ?_)
      rcases xrng a4 1 100 with ⟨g5, g6⟩ | g
      · refine oB_e (in_y g5 g6) (it_n n10 ?_)
        rcases xrng a5 0 9 with ⟨g7, g8⟩ | g
        · exact absurd hb (by
            rintro ((q | q) | (q | q) | (q | q) | (q | q))
            · exact absurd g1 (Int32.not_le.mpr q)
            · exact absurd g2 (Int32.not_le.mpr q)
            · exact absurd g3 (Int32.not_le.mpr q)
            · exact absurd g4 (Int32.not_le.mpr q)
            · exact absurd g5 (Int32.not_le.mpr q)
            · exact absurd g6 (Int32.not_le.mpr q)
            · exact absurd g7 (Int32.not_le.mpr q)
            · exact absurd g8 (Int32.not_le.mpr q))
        · exact oB_e (in_n g) (it_p rfl (oP_e (fls_2 sr) (it_n n10 rfl)))
      · exact oB_e (in_n g) (it_p rfl (oP_e (fls_2 sr) (it_n n10 rfl)))
    · exact oB_e (in_n g) (it_p rfl (oP_e (fls_2 sr) (it_n n10 rfl)))
  · exact oB_e (in_n g) (it_p rfl (oP_e (fls_2 sr) (it_n n10 rfl)))
theorem at_n3 {k nS nT : Nat} {d : Int32} {sc : xSC} {sr : xSR} (h : xInv k d nS nT sc sr) {j : Nat} {a2 a3 a4 a5 : Int32} (hj : j < nS) (g1 : 1 ≤ a2) (g2 : a2 ≤ 100) (g3 : 1 ≤ a3) (g4 : a3 ≤ 100) (g5 : 1 ≤ a4) (g6 : a4 ≤ 100) (g7 : 0 ≤ a5) (g8 : a5 ≤ 9) (hb : sc.1 4 j 2 = 0 ∨ fX3_hasRoom nS nT j a2 a3 a4 sc = some 0) : fX6_addTenant (nI j) a2 a3 a4 a5 sr = some (0, (xuR sr.1 122 0 3, sr.2)) := by
  have h4 := h.S4
  have f0 := fun x => full_r h (x := x) (show (0 : Int32) = nI 0 from rfl) hj (by omega)
  have f1 := fun x => full_r h (x := x) (show (1 : Int32) = nI 1 from rfl) hj (by omega)
  have f2 := fun x => full_r h (x := x) (show (2 : Int32) = nI 2 from rfl) hj (by omega)
  rw [fX6_addTenant]
  refine oB_e (noS_y (N := nS) (by omega) hj h.c100) (it_p rfl ?_)
  refine oB_e (in_y g1 g2) (it_n n10 (oB_e (in_y g3 g4) (it_n n10 (oB_e (in_y g5 g6) (it_n n10 (oB_e (in_y g7 g8) (it_n n10 (oG_e (xin4 (show j < 4 by omega)) ?_))))))))
  rcases h.opn j hj with ⟨e1, e2⟩ | ⟨e1, e2⟩
  · refine it_p (by rw [nN (show j < 100 by omega)]; exact e2) ?_
    have hr := hb.resolve_left (by rw [e1]; decide)
    unfold fX3_hasRoom at hr
    by_cases q0 : sc.1 5 j 0 < sc.1 6 j 0 + a2
    · exact oB_e (f0 a2) (it_n (by rw [if_pos q0]; decide) (oP_e (fls_3 sr) (it_n n10 rfl)))
    · refine oB_e (f0 a2) (it_p (by rw [if_neg q0]) ?_)
      rw [if_neg q0] at hr
      by_cases q1 : sc.1 5 j 1 < sc.1 6 j 1 + a3
      · exact oB_e (f1 a3) (it_n (by rw [if_pos q1]; decide) (oP_e (fls_3 sr) (it_n n10 rfl)))
      · refine oB_e (f1 a3) (it_p (by rw [if_neg q1]) ?_)
        rw [if_neg q1] at hr
        by_cases q2 : sc.1 5 j 2 < sc.1 6 j 2 + a4
        · exact oB_e (f2 a4) (it_n (by rw [if_pos q2]; decide) (oP_e (fls_3 sr) (it_n n10 rfl)))
        · rw [if_neg q2] at hr
          exact absurd hr (by decide)
  · exact it_n (by rw [nN (show j < 100 by omega), e2]; decide) (oP_e (fls_3 sr) (it_n n10 rfl))
theorem at_y {k nS nT : Nat} {d : Int32} {sc : xSC} {sr : xSR} (h : xInv k d nS nT sc sr) {j : Nat} {a2 a3 a4 a5 : Int32} {r : Option (Int32 × xSR)} (hj : j < nS) (g1 : 1 ≤ a2) (g2 : a2 ≤ 100) (g3 : 1 ≤ a3) (g4 : a3 ≤ 100) (g5 : 1 ≤ a4) (g6 : a4 ≤ 100) (g7 : 0 ≤ a5) (g8 : a5 ≤ 9) (e1 : sc.1 4 j 2 = 1) (hr : fX3_hasRoom nS nT j a2 a3 a4 sc = some 1)
    (hf : nT = 6 → r = some (0, (xuR sr.1 122 0 4, sr.2))) (ht : nT < 6 → r = some (nI nT, (xuR (xuR (xuR (xuR (xuR (xuR (xuR sr.1 122 0 0) 4 (3 * nT) a2) 4 (3 * nT + 1) a3) 4 (3 * nT + 2) a4) 5 nT a5) 8 nT (nI j)) 103 0 (nI (nT + 1)), sr.2))) : fX6_addTenant (nI j) a2 a3 a4 a5 sr = r := by
  have h4 := h.S4
  have h6 := h.T6
  have f0 := fun x => full_r h (x := x) (show (0 : Int32) = nI 0 from rfl) hj (by omega)
  have f1 := fun x => full_r h (x := x) (show (1 : Int32) = nI 1 from rfl) hj (by omega)
  have f2 := fun x => full_r h (x := x) (show (2 : Int32) = nI 2 from rfl) hj (by omega)
  rw [fX6_addTenant]
  refine oB_e (noS_y (N := nS) (by omega) hj h.c100) (it_p rfl ?_)
  refine oB_e (in_y g1 g2) (it_n n10 (oB_e (in_y g3 g4) (it_n n10 (oB_e (in_y g5 g6) (it_n n10 (oB_e (in_y g7 g8) (it_n n10 (oG_e (xin4 (show j < 4 by omega)) ?_))))))))
  have e2 : sr.1 2 j = 0 := by
    rcases h.opn j hj with ⟨-, e⟩ | ⟨e, -⟩
    · exact e
    · exact absurd (e1.symm.trans e) (by decide)
  refine it_p (by rw [nN (show j < 100 by omega)]; exact e2) ?_
  unfold fX3_hasRoom at hr
  by_cases q0 : sc.1 5 j 0 < sc.1 6 j 0 + a2
  · rw [if_pos q0] at hr
    exact absurd hr (by decide)
  rw [if_neg q0] at hr
  by_cases q1 : sc.1 5 j 1 < sc.1 6 j 1 + a3
  · rw [if_pos q1] at hr
    exact absurd hr (by decide)
  rw [if_neg q1] at hr
  by_cases q2 : sc.1 5 j 2 < sc.1 6 j 2 + a4
  · rw [if_pos q2] at hr
    exact absurd hr (by decide)
  refine oB_e (f0 a2) (it_p (by rw [if_neg q0]) (oB_e (f1 a3) (it_p (by rw [if_neg q1]) (oB_e (f2 a4) (it_p (by rw [if_neg q2]) ?_)))))
  by_cases e : nT = 6
  · rw [hf e]
    subst e
    exact it_p h.c103 (oP_e (fls_4 sr) (it_n n10 rfl))
  · rw [ht (by omega)]
    refine it_n (by rw [h.c103]; intro z; have := (nI_eq (a := nT) (b := 6) (by omega) (by omega)).mp z; omega) (oP_e (fls_0 sr) (it_p rfl ?_))
    simp only [x103_0 (show 4 ≠ 103 by omega), x103_0 (show 5 ≠ 103 by omega), x103_0 (show 8 ≠ 103 by omega), x103_0 (show 122 ≠ 103 by omega), xsm, h.c103, nI_3, nI_1, nI_2, xin_n (show 3 * nT < 18 by omega) (by omega), xin_n (show 3 * nT + 1 < 18 by omega) (by omega), xin_n (show 3 * nT + 2 < 18 by omega) (by omega), xin6 (show nT < 6 by omega), nN (show 3 * nT < 100 by omega), nN (show 3 * nT + 1 < 100 by omega), nN (show 3 * nT + 2 < 100 by omega), nN (show nT < 100 by omega), nI_pred, oG_t, oB_s, oP_s, oT_r, oT_l, oC_r, oC_l, oN_s, oN_n]
theorem kp_3 {k nS nT : Nat} {sc : xSC} {sr : xSR} {sl : xSL} (h : xInv k 0 nS nT sc sr) (a1 a2 a3 a4 a5 : Int32) : xGood (k + 1) (fC_3 nS nT a1 a2 a3 a4 a5 sc sr sl) := by
  have h4 := h.S4
  have h6 := h.T6
  rcases xidx nS (by omega) a1 with ⟨j, hj, rfl⟩ | ha
  · have K := knS_y (nT := nT) (sc := sc) h4 hj
    by_cases hb : (a2 < 1 ∨ 100 < a2) ∨ (a3 < 1 ∨ 100 < a3) ∨ (a4 < 1 ∨ 100 < a4) ∨ (a5 < 0 ∨ 9 < a5)
    · have E := at_n2 h hj hb
      have E5 : fX5_addTenant nS nT (nI j) a2 a3 a4 a5 sc = some (.inl "java/lang/IllegalArgumentException", sc) := by
        rw [fX5_addTenant, K, oT_r, oG_e (by simpa using hj) rfl]
        rcases xrng a2 1 100 with ⟨g1, g2⟩ | g
        · rw [rr_y g1 g2, oT_r]
          rcases xrng a3 1 100 with ⟨g3, g4⟩ | g
          · rw [rr_y g3 g4, oT_r]
            rcases xrng a4 1 100 with ⟨g5, g6⟩ | g
            · rw [rr_y g5 g6, oT_r]
              rcases xrng a5 0 9 with ⟨g7, g8⟩ | g
              · exact absurd hb (by
                  rintro ((q | q) | (q | q) | (q | q) | (q | q))
                  · exact absurd g1 (Int32.not_le.mpr q)
                  · exact absurd g2 (Int32.not_le.mpr q)
                  · exact absurd g3 (Int32.not_le.mpr q)
                  · exact absurd g4 (Int32.not_le.mpr q)
                  · exact absurd g5 (Int32.not_le.mpr q)
                  · exact absurd g6 (Int32.not_le.mpr q)
                  · exact absurd g7 (Int32.not_le.mpr q)
                  · exact absurd g8 (Int32.not_le.mpr q))
              · rw [rr_n g, oT_l]
            · rw [rr_n g, oT_l]
          · rw [rr_n g, oT_l]
        · rw [rr_n g, oT_l]
      simp [fC_3, fL_addTenant, fX6_thrown, E, E5, lgc, oG_t, oB_s, oP_s, oT_r, oT_l, oC_r, oC_l, oN_s, oN_n]
      simp [xuR]
      exact xGood_cd h
    · have ⟨⟨b1, b2⟩, ⟨b3, b4⟩, ⟨b5, b6⟩, b7, b8⟩ : (1 ≤ a2 ∧ a2 ≤ 100) ∧ (1 ≤ a3 ∧ a3 ≤ 100) ∧ (1 ≤ a4 ∧ a4 ≤ 100) ∧ (0 ≤ a5 ∧ a5 ≤ 9) := by
        simp only [not_or, Int32.not_lt] at hb
        exact hb
      obtain ⟨x, x1, x2, rfl⟩ := xrng_n (x := 1) (y := 100) rfl rfl (by omega) (by omega) b1 b2
      obtain ⟨y, y1, y2, rfl⟩ := xrng_n (x := 1) (y := 100) rfl rfl (by omega) (by omega) b3 b4
      obtain ⟨z, z1, z2, rfl⟩ := xrng_n (x := 1) (y := 100) rfl rfl (by omega) (by omega) b5 b6
      obtain ⟨w, w1, w2, rfl⟩ := xrng_n (x := 0) (y := 9) rfl rfl (by omega) (by omega) b7 b8
      have R1 := rr_y (nS := nS) (nT := nT) (sc := sc) b1 b2
      have R2 := rr_y (nS := nS) (nT := nT) (sc := sc) b3 b4
      have R3 := rr_y (nS := nS) (nT := nT) (sc := sc) b5 b6
      have R4 := rr_y (nS := nS) (nT := nT) (sc := sc) b7 b8
      by_cases hq : sc.1 4 j 2 = 0 ∨ fX3_hasRoom nS nT j (nI x) (nI y) (nI z) sc = some 0
      · have E := at_n3 h hj b1 b2 b3 b4 b5 b6 b7 b8 hq
        have E5 : fX5_addTenant nS nT (nI j) (nI x) (nI y) (nI z) (nI w) sc = some (.inl "java/lang/UnsupportedOperationException", sc) := by
          simp only [fX5_addTenant, K, hj, R1, R2, R3, R4, decide_true, oG_t, oB_s, oP_s, oT_r, oT_l, oC_r, oC_l, oN_s, oN_n]
          rcases hq with q | q
          · rw [if_pos q]
          · split
            · rfl
            · rw [q, oB_s, if_pos rfl]
        simp [fC_3, fL_addTenant, fX6_thrown, E, E5, lgc, oG_t, oB_s, oP_s, oT_r, oT_l, oC_r, oC_l, oN_s, oN_n]
        simp [xuR]
        exact xGood_cd h
      · simp only [not_or] at hq
        have e1 : sc.1 4 j 2 = 1 := by
          rcases h.opn j hj with ⟨e, -⟩ | ⟨e, -⟩
          · exact e
          · exact absurd e hq.1
        have hr := (room_b (nS := nS) (nT := nT) (j := j) (a := nI x) (b := nI y) (c := nI z) (sc := sc)).resolve_left hq.2
        have E := fun r => at_y (r := r) h hj b1 b2 b3 b4 b5 b6 b7 b8 e1 hr
        by_cases e : nT = 6
        · have E := E _ (fun _ => rfl) (fun q => by omega)
          have E5 : fX5_addTenant nS nT (nI j) (nI x) (nI y) (nI z) (nI w) sc = some (.inl "java/lang/IllegalStateException", sc) := by
            simp only [fX5_addTenant, K, hj, R1, R2, R3, R4, decide_true, e1, hr, tenants_e h6, n10, if_false, oG_t, oB_s, oP_s, oT_r, oT_l, oC_r, oC_l, oN_s, oN_n]
            rw [if_neg]
            rw [e]
            decide
          simp [fC_3, fL_addTenant, fX6_thrown, E, E5, lgc, oG_t, oB_s, oP_s, oT_r, oT_l, oC_r, oC_l, oN_s, oN_n]
          simp [xuR]
          exact xGood_cd h
        · have E := E _ (fun q => absurd q e) (fun _ => rfl)
          have E5 : fX5_addTenant nS nT (nI j) (nI x) (nI y) (nI z) (nI w) sc = some (.inr (nI nT), xCUi nS nT 1 (xaddT nT (nI j) (nI x) (nI y) (nI z) (nI w) sc)) := by
            simp only [fX5_addTenant, K, hj, R1, R2, R3, R4, decide_true, e1, hr, tenants_e h6, n10, if_false, countUse_e h4, xin6 (show nT < 6 by omega), nN (show nT < 100 by omega), oG_t, oB_s, oP_s, oT_r, oT_l, oC_r, oC_l, oN_s, oN_n]
            rw [if_pos (show nI nT < 6 from nI_lt (b := 6) (by omega) (by omega))]
          simp [fC_3, fL_addTenant, fX6_thrown, E, E5, lgc, x122_0 (show 4 ≠ 122 by omega), x122_0 (show 5 ≠ 122 by omega), x122_0 (show 8 ≠ 122 by omega), x122_0 (show 103 ≠ 122 by omega), xsm, oG_t, oB_s, oP_s, oT_r, oT_l, oC_r, oC_l, oN_s, oN_n]
          exact ⟨_, rfl, xInv_k (inv_addT (xInv_cd (c := 0) h) (by omega) hj ⟨x1, x2⟩ ⟨y1, y2⟩ ⟨z1, z2⟩ w2 rfl) (by omega)⟩
  · have E := at_n1 (a2 := a2) (a3 := a3) (a4 := a4) (a5 := a5) h ha
    have E5 : fX5_addTenant nS nT a1 a2 a3 a4 a5 sc = some (.inl "java/lang/IndexOutOfBoundsException", sc) := by
      rw [fX5_addTenant, knS_n h4 ha, oT_l]
    simp [fC_3, fL_addTenant, fX6_thrown, E, E5, lgc, oG_t, oB_s, oP_s, oT_r, oT_l, oC_r, oC_l, oN_s, oN_n]
    simp [xuR]
    exact xGood_cd h
