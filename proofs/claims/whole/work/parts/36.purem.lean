/-! pairs -/
theorem or_lt {w o : Nat} (hw : w < 64) (ho : o < 6) : w ||| (1 <<< o) < 64 := by
  have h1 : 1 <<< o < 2 ^ 6 := by
    rw [Nat.one_shiftLeft]
    exact Nat.pow_lt_pow_right (by omega) ho
  exact Nat.or_lt_two_pow (n := 6) hw h1
theorem or_bit {w o x : Nat} : (w ||| (1 <<< o)).testBit x = true ↔ (w.testBit x = true ∨ o = x) := by
  rw [Nat.testBit_or, Nat.one_shiftLeft, Nat.testBit_two_pow]
  simp
theorem inv_par {k nS nT : Nat} {d : Int32} {sc : xSC} {sr : xSR} (h : xInv k d nS nT sc sr) {t o np : Nat} {A B C C' : Int32} (ht : t < nT) (ho : o < nT) (hto : t ≠ o) (hnp : np < 6) (e4 : sc.1 0 0 4 = nI np) (hA : A = sc.1 11 t 6 ||| (1 <<< (nI o &&& 31))) (hB : B = sc.1 11 o 6 ||| (1 <<< (nI t &&& 31))) (hC : C = nI (np + 1)) (hC' : C' = nI (np + 1)) : xInv k d nS nT (xuC (xuC (xuC sc.1 11 t 6 A) 11 o 6 B) 0 0 4 C, sc.2) (xuR (xuR (xuR sr.1 14 np (nI t)) 15 np (nI o)) 113 0 C', sr.2) := by
  have h6 := h.T6
  refine ⟨h.S4, h.T6, by simpa [xuR] using h.c100, by simpa [xuR] using h.c103, by simpa [xuC, xuR] using h.lim, by simpa [xuC, xuR] using h.opn, by simpa [xuR] using h.opz, by simpa [xuC, xuR] using h.siz, by simpa [xuC, xuR] using h.gro, by simpa [xuC, xuR] using h.win, by simpa [xuC, xuR] using h.srv, by simpa [xuC, xuR] using h.mov, by simpa [xuR] using h.fre, by simpa [xuC, xUse] using h.use, Nat.le_trans (xCnt_le (fun u _ e => by simpa [xuC] using e)) h.cnt, ?_, by simpa [xuC, xuR] using h.tim, by simpa [xuC, xuR] using h.swi, h.ovr⟩
  obtain ⟨np', p1, p2, p3, p4, p5⟩ := h.par
  obtain rfl : np = np' := by
    rw [e4, nI_eq (by omega) (by omega)] at p2
    exact p2
  refine ⟨np + 1, by omega, by simp [xuC, hC], by simp [xuR, hC'], fun p hp => ?_, fun u hu => ?_⟩
  · by_cases e : p = np
    · subst e
      exact ⟨t, o, ht, ho, hto, by simp [xuR], by simp [xuR]⟩
    · obtain ⟨a, b, a1, b1, ab, q1, q2⟩ := p4 p (by omega)
      exact ⟨a, b, a1, b1, ab, by simp [xuR, e, q1], by simp [xuR, e, q2]⟩
  · have key : ∀ x, x < 6 → ∀ v : Nat, (v.testBit x = true ↔ ∃ p, p < np ∧ ((sr.1 14 p = nI u ∧ sr.1 15 p = nI x) ∨ (sr.1 14 p = nI x ∧ sr.1 15 p = nI u))) → ((v.testBit x = true ∨ (t = u ∧ o = x) ∨ (t = x ∧ o = u)) ↔ ∃ p, p < np + 1 ∧ (((xuR (xuR (xuR sr.1 14 np (nI t)) 15 np (nI o)) 113 0 C') 14 p = nI u ∧ (xuR (xuR (xuR sr.1 14 np (nI t)) 15 np (nI o)) 113 0 C') 15 p = nI x) ∨ ((xuR (xuR (xuR sr.1 14 np (nI t)) 15 np (nI o)) 113 0 C') 14 p = nI x ∧ (xuR (xuR (xuR sr.1 14 np (nI t)) 15 np (nI o)) 113 0 C') 15 p = nI u))) := by
      intro x hx v hv
      have a1 : ∀ p, p ≠ np → (xuR (xuR (xuR sr.1 14 np (nI t)) 15 np (nI o)) 113 0 C') 14 p = sr.1 14 p := fun p hp => by simp [xuR, hp]
      have a2 : ∀ p, p ≠ np → (xuR (xuR (xuR sr.1 14 np (nI t)) 15 np (nI o)) 113 0 C') 15 p = sr.1 15 p := fun p hp => by simp [xuR, hp]
      have a3 : (xuR (xuR (xuR sr.1 14 np (nI t)) 15 np (nI o)) 113 0 C') 14 np = nI t := by simp [xuR]
      have a4 : (xuR (xuR (xuR sr.1 14 np (nI t)) 15 np (nI o)) 113 0 C') 15 np = nI o := by simp [xuR]
      constructor
      · rintro (g | g | g)
        · obtain ⟨p, q1, q2⟩ := hv.mp g
          refine ⟨p, by omega, ?_⟩
          rw [a1 p (by omega), a2 p (by omega)]
          exact q2
        · exact ⟨np, by omega, .inl ⟨by rw [a3, g.1], by rw [a4, g.2]⟩⟩
        · exact ⟨np, by omega, .inr ⟨by rw [a3, g.1], by rw [a4, g.2]⟩⟩
      · rintro ⟨p, q1, q2⟩
        by_cases e : p = np
        · subst e
          rw [a3, a4, nI_eq (by omega) (by omega), nI_eq (by omega) (by omega), nI_eq (by omega) (by omega), nI_eq (by omega) (by omega)] at q2
          exact .inr q2
        · rw [a1 p e, a2 p e] at q2
          exact .inl (hv.mpr ⟨p, by omega, q2⟩)
    by_cases e1 : u = t
    · subst e1
      obtain ⟨w, w1, w2, w3⟩ := p5 u hu
      refine ⟨w ||| (1 <<< o), or_lt w1 (by omega), ?_, fun x hx => ?_⟩
      · simp [xuC, hto, hA, w2, bit_o w w1 o (by omega)]
      · rw [or_bit, ← key x hx w (w3 x hx)]
        simp only [true_and]
        constructor
        · rintro (g | g)
          · exact .inl g
          · exact .inr (.inl g)
        · rintro (g | g | g)
          · exact .inl g
          · exact .inr g
          · exact absurd g.2.symm hto
    · by_cases e2 : u = o
      · subst e2
        obtain ⟨w, w1, w2, w3⟩ := p5 u hu
        refine ⟨w ||| (1 <<< t), or_lt w1 (by omega), ?_, fun x hx => ?_⟩
        · simp [xuC, hB, w2, bit_o w w1 t (by omega)]
        · rw [or_bit, ← key x hx w (w3 x hx)]
          constructor
          · rintro (g | g)
            · exact .inl g
            · exact .inr (.inr ⟨g, rfl⟩)
          · rintro (g | g | g)
            · exact .inl g
            · exact absurd g.1 hto
            · exact .inr g.1
      · obtain ⟨w, w1, w2, w3⟩ := p5 u hu
        refine ⟨w, w1, by simp [xuC, e1, e2, w2], fun x hx => ?_⟩
        rw [← key x hx w (w3 x hx)]
        constructor
        · exact .inl
        · rintro (g | g | g)
          · exact g
          · exact absurd g.1.symm e1
          · exact absurd g.2.symm e2
theorem kp_6 {k nS nT : Nat} {sc : xSC} {sr : xSR} {sl : xSL} (h : xInv k 0 nS nT sc sr) (a1 a2 : Int32) : xGood (k + 1) (fC_6 nS nT a1 a2 sc sr sl) := by
  have h6 := h.T6
  rcases xidx nT (by omega) a1 with ⟨t, ht, rfl⟩ | ha
  · rcases xidx nT (by omega) a2 with ⟨o, ho, rfl⟩ | hb
    · have g1 := noT_y (N := nT) (by omega) ht h.c103
      have g2 := noT_y (N := nT) (by omega) ho h.c103
      have g3 := knT_y (nS := nS) (sc := sc) h6 ht
      have g4 := knT_y (nS := nS) (sc := sc) h6 ho
      by_cases e : t = o
      · subst e
        simp [fC_6, fL_keepApart, fX5_keepApart, fX6_keepApart, fX6_thrown, g1, g3, ht, fls_2, lgc, oG_t, oB_s, oP_s, oT_r, oT_l, oC_r, oC_l, oN_s, oN_n]
        simp [xuR]
        exact xGood_cd h
      · have e' : ¬ nI t = nI o := by rw [nI_eq (by omega) (by omega)]; exact e
        obtain ⟨np, p1, p2, p3, p4, p5⟩ := h.par
        obtain ⟨w, w1, w2, w3⟩ := p5 t ht
        have g5 := apf_e (nS := nS) (nT := nT) w1 (show o < 6 by omega) w2
        rcases ap_r (a := t) (b := o) p1 p3 with ⟨x, y⟩ | ⟨x, y⟩
        · rw [if_pos ((w3 o (by omega)).mpr x)] at g5
          simp [fC_6, fL_keepApart, fX5_keepApart, fX6_keepApart, fX6_thrown, g1, g2, g3, g4, ht, ho, e', g5, y, fls_3, lgc, oG_t, oB_s, oP_s, oT_r, oT_l, oC_r, oC_l, oN_s, oN_n]
          simp [xuR]
          exact xGood_cd h
        · rw [if_neg (fun z => x ((w3 o (by omega)).mp z))] at g5
          by_cases g6 : np = 6
          · subst g6
            have g7 : ¬ sc.1 0 0 4 < 6 := by rw [p2]; decide
            have g8 : sr.1 113 0 = 6 := p3
            simp [fC_6, fL_keepApart, fX5_keepApart, fX6_keepApart, fX6_thrown, g1, g2, g3, g4, ht, ho, e', g5, y, g7, g8, fls_4, lgc, oG_t, oB_s, oP_s, oT_r, oT_l, oC_r, oC_l, oN_s, oN_n]
            simp [xuR]
            exact xGood_cd h
          · have g7 : sc.1 0 0 4 < 6 := by rw [p2]; exact nI_lt (b := 6) (by omega) (by omega)
            have g8 : ¬ sr.1 113 0 = 6 := by
              rw [p3]
              intro z
              have := (nI_eq (a := np) (b := 6) (by omega) (by omega)).mp z
              omega
            have t1 : xuR sr.1 122 0 0 113 0 = nI np := by simp [xuR, p3]
            have t2 : ∀ v, xuR (xuR sr.1 122 0 0) 14 np v 113 0 = nI np := fun v => by simp [xuR, p3]
            have t3 : ∀ v w, xuR (xuR (xuR sr.1 122 0 0) 14 np v) 15 np w 113 0 = nI np := fun v w => by simp [xuR, p3]
            have t4 : ∀ v w z, xuR (xuR (xuR (xuR sr.1 122 0 0) 14 np v) 15 np w) 113 0 z 122 0 = 0 := fun v w z => by simp [xuR]
            have t5 : ∀ v w z, xuR (xuR (xuR (xuR sr.1 122 0 0) 14 np v) 15 np w) 113 0 z 113 0 = z := fun v w z => by simp [xuR]
            have c1 : ∀ v, xuC sc.1 11 t 6 v 11 o 6 = sc.1 11 o 6 := fun v => by simp [xuC, Ne.symm e]
            have c2 : ∀ v w, xuC (xuC sc.1 11 t 6 v) 11 o 6 w 0 0 4 = nI np := fun v w => by simp [xuC, p2]
            have c3 : ∀ v w z, xuC (xuC (xuC sc.1 11 t 6 v) 11 o 6 w) 0 0 4 z 0 0 4 = z := fun v w z => by simp [xuC]
            simp [fC_6, fL_keepApart, fX5_keepApart, fX6_keepApart, fX6_thrown, g1, g2, g3, g4, ht, ho, e', g5, y, g7, g8, fls_0, t1, t2, t3, t4, t5, c1, c2, c3, xin6 (show np < 6 by omega), nN (show np < 100 by omega), lgc, oG_t, oB_s, oP_s, oT_r, oT_l, oC_r, oC_l, oN_s, oN_n]
            exact xGood_i (inv_par (xInv_cd (c := 0) h) ht ho e (by omega) p2 rfl rfl (nI_1 np) (nI_1 np))
    · simp [fC_6, fL_keepApart, fX5_keepApart, fX6_keepApart, fX6_thrown, knT_y h6 ht, knT_n h6 hb, ht, noT_y (N := nT) (by omega) ht h.c103, noT_n (N := nT) (by omega) hb h.c103, fls_1, lgc, xuR, oG_t, oB_s, oP_s, oT_r, oT_l, oC_r, oC_l, oN_s, oN_n]
      exact xGood_cd h
  · simp [fC_6, fL_keepApart, fX5_keepApart, fX6_keepApart, fX6_thrown, knT_n h6 ha, noT_n (N := nT) (by omega) ha h.c103, fls_1, lgc, xuR, oG_t, oB_s, oP_s, oT_r, oT_l, oC_r, oC_l, oN_s, oN_n]
    exact xGood_cd h
