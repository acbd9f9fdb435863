/-! hours left, and by passing -/
theorem htw_e {nS nT t a b x : Nat} {sc : xSC} (ha : a < 24) (hb : b < 24) (hx : x < 24) (e1 : sc.1 11 t 4 = nI a) (e2 : sc.1 11 t 5 = nI b) : fX4_hoursToWindow nS nT t (nI x) sc = some (nI (xWait a b x)) := by
  unfold fX4_hoursToWindow xWait
  rw [iw_e ha hb hx e1 e2, oB_s]
  by_cases g : xWin a b x = true
  · rw [if_pos g, if_pos g, if_neg n10]
    rfl
  · rw [if_neg g, if_neg g, if_pos rfl, e1, fm_d a ha x hx, oB_s]
theorem kp_14 {k nS nT : Nat} {sc : xSC} {sr : xSR} {sl : xSL} (h : xInv k 0 nS nT sc sr) (hk : k < 512) (a1 : Int32) : xGood (k + 1) (fC_14 nS nT a1 sc sr sl) := by
  have h6 := h.T6
  rcases xidx nT (by omega) a1 with ⟨t, ht, rfl⟩ | ha
  · obtain ⟨G1, G2, G3⟩ := gone_e h (by omega) ht
    obtain ⟨T, hT, e, -⟩ := h.tim
    obtain ⟨a, b, ha, hb, u1, u2, u3, u4⟩ := h.win t ht
    have D : ∀ n, (sc.1 9 t 0 = 99 ∨ sc.1 9 t 0 = 102) → sc.1 9 t 3 = nI n → n ≤ 50 → xGood (k + 1) (fC_14 nS nT (nI t) sc sr sl) := fun n p l hn => by
      have g := G3 n a b T p l hn ha hb u1 u3 (by omega) e
      have p' : sc.1 9 t 0 ≠ 45 := by rcases p with p | p <;> rw [p] <;> decide
      have bc : fX1_isBeforeCutting nS nT 9 t sc = some 1 := by rcases p with p | p <;> simp [fX1_isBeforeCutting, p]
      have hd := hod_e (nS := nS) (nT := nT) (n := T + n) (x := sc.1 0 0 5 + sc.1 9 t 3) (s := sc) (by rw [e, l, nI_add]) (by omega)
      have hw := htw_e (nS := nS) (nT := nT) (x := (T + n) % 24) ha hb (by omega) u1 u3
      have v : sc.1 9 t 3 + nI (xWait a b ((T + n) % 24)) + 1 + 2 = nI (n + xWait a b ((T + n) % 24) + 3) := by rw [l, nI_add, nI_1, nI_2]
      simp [fC_14, fL_hoursLeft, fX5_hoursLeft, fX6_hoursLeft, fX6_thrown, movT_y h6 ht p', ht, bc, hd, hw, v, g, lgc, oG_t, oB_s, oP_s, oT_r, oT_l, oC_r, oC_l, oN_s, oN_n]
      simp [xuR]
      exact xGood_cd h
    rcases h.mov t ht with ⟨p, q⟩ | ⟨i, j, n, i1, j1, _, _, l, _, _, ⟨p, q, n1, n2, -⟩ | ⟨p, q, n0⟩ | ⟨p, q, n1, n2, l''⟩⟩
    · simp [fC_14, fL_hoursLeft, fX5_hoursLeft, fX6_hoursLeft, fX6_thrown, movT_s h6 ht p, G1 p, lgc, oG_t, oB_s, oP_s, oT_r, oT_l, oC_r, oC_l, oN_s, oN_n]
      simp [xuR]
      exact xGood_cd h
    · exact D n (.inl p) l n2
    · exact D n (.inr p) l (by omega)
    · have p' : sc.1 9 t 0 ≠ 45 := by rw [p]; decide
      have bc : fX1_isBeforeCutting nS nT 9 t sc = some 0 := by simp [fX1_isBeforeCutting, p]
      simp [fC_14, fL_hoursLeft, fX5_hoursLeft, fX6_hoursLeft, fX6_thrown, movT_y h6 ht p', ht, bc, G2 n p l, l, lgc, oG_t, oB_s, oP_s, oT_r, oT_l, oC_r, oC_l, oN_s, oN_n]
      simp [xuR]
      exact xGood_cd h
  · simp [fC_14, fL_hoursLeft, fX5_hoursLeft, fX6_hoursLeft, fX6_goneOn, fX6_thrown, movT_n h6 ha, hnm_n h6 ha h.c103, lgc, oG_t, oB_s, oP_s, oT_r, oT_l, oC_r, oC_l, oN_s, oN_n]
    simp [xuR]
    exact xGood_cd h
/-- off the trial move nothing differs -/
def xFr (sc s : xSC) : Prop := (∀ a b c, a ≠ 10 → s.1 a b c = sc.1 a b c) ∧ s.2 = sc.2
theorem xFr_u {sc s : xSC} {i : Nat} {v : Int32} (h : xFr sc s) : xFr sc (xuC s.1 10 0 i v, s.2) := ⟨fun a b c ha => by simp [xuC, ha, h.1 a b c ha], h.2⟩
theorem xFr_u2 {sc s : xSC} {i i' : Nat} {v v' : Int32} (h : xFr sc s) : xFr sc (xuC (xuC s.1 10 0 i v) 10 0 i' v', s.2) := xFr_u (xFr_u h)
theorem ge1k {i : Nat} (h : i < 1000) : ((1000 : Int32) ≤ nI i) = False := eq_false (nI_ge (b := 1000) h (by omega))
theorem hb_step {nS nT t T a b x f : Nat} {sc s : xSC} (F : xFr sc s) (e : sc.1 0 0 5 = nI T) (hT : T < 50000) (ha : a < 24) (hb : b < 24) (u1 : sc.1 11 t 4 = nI a) (u3 : sc.1 11 t 5 = nI b) (hx : x < 1000) (p : s.1 10 0 0 ≠ 45) {v : Int32} {s' : xSC} (hg : fX1_goOn nS nT 10 0 (if xWin a b ((T + x) % 24) = true then 1 else 0) s = some (v, s')) : fX5_hoursByPassing_L1 nS nT t fX5_hoursByPassing_K1 (f + 1) (nI x) s = fX5_hoursByPassing_L1 nS nT t fX5_hoursByPassing_K1 f (nI (x + 1)) s' := by
  have hd := hod_e (nS := nS) (nT := nT) (n := T + x) (x := s.1 0 0 5 + nI x) (s := s) (by rw [F.1 0 0 5 (by omega), e, nI_add]) (by omega)
  have hw := iw_e (nS := nS) (nT := nT) (t := t) (x := (T + x) % 24) (sc := s) ha hb (by omega) (by rw [F.1 11 t 4 (by omega), u1]) (by rw [F.1 11 t 5 (by omega), u3])
  rw [fX5_hoursByPassing_L1]
  simp only [ge1k hx, if_false, und_e, p, n10, hd, hw, hg, nI_1, oG_t, oB_s, oP_s, oT_r, oT_l, oC_r, oC_l, oN_s, oN_n]
theorem hb_A {nS nT t T a b : Nat} {sc : xSC} (e : sc.1 0 0 5 = nI T) (hT : T < 50000) (ha : a < 24) (hb : b < 24) (u1 : sc.1 11 t 4 = nI a) (u3 : sc.1 11 t 5 = nI b) (l : Nat) : ∀ (f x : Nat) (s : xSC), xFr sc s → x + l < 999 → s.1 10 0 0 = 99 → s.1 10 0 3 = nI (l + 1) → ∃ s', xFr sc s' ∧ s'.1 10 0 0 = 102 ∧ fX5_hoursByPassing_L1 nS nT t fX5_hoursByPassing_K1 (f + l + 1) (nI x) s = fX5_hoursByPassing_L1 nS nT t fX5_hoursByPassing_K1 f (nI (x + l + 1)) s' := by
  induction l with
  | zero =>
    intro f x s F hx p q
    exact ⟨_, xFr_u2 F, by simp [xuC], hb_step F e hT ha hb u1 u3 (by omega) (by rw [p]; decide) (go_c p q)⟩
  | succ l ih =>
    intro f x s F hx p q
    have st := hb_step (nS := nS) (nT := nT) (f := f + l + 1) F e hT ha hb u1 u3 (by omega) (by rw [p]; decide) (go_n (nS := nS) (nT := nT) (v := if xWin a b ((T + x) % 24) = true then 1 else 0) (by omega) (by rw [p]; decide) q)
    obtain ⟨s', F', p', E⟩ := ih f (x + 1) _ (xFr_u (i := 3) (v := nI (l + 1)) F) (by omega) (by simpa [xuC] using p) (by simp [xuC])
    refine ⟨s', F', p', ?_⟩
    rw [show f + (l + 1) + 1 = f + l + 1 + 1 by omega, st, E, show x + 1 + l + 1 = x + (l + 1) + 1 by omega]
theorem hb_C {nS nT t T a b : Nat} {sc : xSC} (e : sc.1 0 0 5 = nI T) (hT : T < 50000) (ha : a < 24) (hb : b < 24) (u1 : sc.1 11 t 4 = nI a) (u3 : sc.1 11 t 5 = nI b) (l : Nat) : ∀ (f x : Nat) (s : xSC), xFr sc s → x + l < 999 → s.1 10 0 0 = 100 → s.1 10 0 3 = nI (l + 1) → ∃ s', xFr sc s' ∧ s'.1 10 0 0 = 45 ∧ fX5_hoursByPassing_L1 nS nT t fX5_hoursByPassing_K1 (f + l + 1) (nI x) s = fX5_hoursByPassing_L1 nS nT t fX5_hoursByPassing_K1 f (nI (x + l + 1)) s' := by
  induction l with
  | zero =>
    intro f x s F hx p q
    exact ⟨_, xFr_u2 F, by simp [xuC], hb_step F e hT ha hb u1 u3 (by omega) (by rw [p]; decide) (go_d p q)⟩
  | succ l ih =>
    intro f x s F hx p q
    have st := hb_step (nS := nS) (nT := nT) (f := f + l + 1) F e hT ha hb u1 u3 (by omega) (by rw [p]; decide) (go_n (nS := nS) (nT := nT) (v := if xWin a b ((T + x) % 24) = true then 1 else 0) (by omega) (by rw [p]; decide) q)
    obtain ⟨s', F', p', E⟩ := ih f (x + 1) _ (xFr_u (i := 3) (v := nI (l + 1)) F) (by omega) (by simpa [xuC] using p) (by simp [xuC])
    refine ⟨s', F', p', ?_⟩
    rw [show f + (l + 1) + 1 = f + l + 1 + 1 by omega, st, E, show x + 1 + l + 1 = x + (l + 1) + 1 by omega]
theorem hb_B {nS nT t T a b : Nat} {sc : xSC} (e : sc.1 0 0 5 = nI T) (hT : T < 50000) (ha : a < 24) (hb : b < 24) (u1 : sc.1 11 t 4 = nI a) (u3 : sc.1 11 t 5 = nI b) (d : Nat) : ∀ (f x : Nat) (s : xSC), xFr sc s → x + d < 999 → s.1 10 0 0 = 102 → (∀ y, y < d → xWin a b ((T + x + y) % 24) = false) → xWin a b ((T + x + d) % 24) = true → ∃ s', xFr sc s' ∧ s'.1 10 0 0 = 100 ∧ s'.1 10 0 3 = nI 2 ∧ fX5_hoursByPassing_L1 nS nT t fX5_hoursByPassing_K1 (f + d + 1) (nI x) s = fX5_hoursByPassing_L1 nS nT t fX5_hoursByPassing_K1 f (nI (x + d + 1)) s' := by
  induction d with
  | zero =>
    intro f x s F hx p h0 h1
    refine ⟨_, xFr_u2 (i := 0) (v := 100) (i' := 3) (v' := 2) F, by simp [xuC], by simp [xuC]; rfl, hb_step (v := 1) F e hT ha hb u1 u3 (by omega) (by rw [p]; decide) ?_⟩
    rw [show T + x + 0 = T + x by omega] at h1
    rw [if_pos h1]
    exact go_f1 p
  | succ d ih =>
    intro f x s F hx p h0 h1
    have st := hb_step (nS := nS) (nT := nT) (t := t) (f := f + d + 1) (v := 0) (s' := s) F e hT ha hb u1 u3 (x := x) (by omega) (by rw [p]; decide) (by
      have h00 := h0 0 (by omega)
      rw [show T + x + 0 = T + x by omega] at h00
      rw [h00]
      exact go_f0 p)
    obtain ⟨s', F', p', q', E⟩ := ih f (x + 1) s F (by omega) p (fun y hy => by rw [show T + (x + 1) + y = T + x + (y + 1) by omega]; exact h0 (y + 1) (by omega)) (by rw [show T + (x + 1) + d = T + x + (d + 1) by omega]; exact h1)
    refine ⟨s', F', p', q', ?_⟩
    rw [show f + (d + 1) + 1 = f + d + 1 + 1 by omega, st, E, show x + 1 + d + 1 = x + (d + 1) + 1 by omega]
theorem hb_D {nS nT t x f : Nat} {s : xSC} (hx : x < 1000) (p : s.1 10 0 0 = 45) : fX5_hoursByPassing_L1 nS nT t fX5_hoursByPassing_K1 (f + 1) (nI x) s = some (.inr (nI x), s) := by
  rw [fX5_hoursByPassing_L1]
  simp only [ge1k hx, if_false, if_true, und_e, p, fX5_hoursByPassing_K1, oG_t, oB_s, oP_s, oT_r, oT_l, oC_r, oC_l, oN_s, oN_n]
theorem xInv_t {k nS nT : Nat} {d : Int32} {sc : xSC} {sr : xSR} (h : xInv k d nS nT sc sr) {s : xSC} {c : Int32} (F : xFr sc s) : xInv k d nS nT s (xuR sr.1 122 0 c, sr.2) := by
  refine xInv_fr (xInv_cd (c := c) h) (fun a b i hn => F.1 a b i ?_) (fun _ _ _ => rfl) F.2 rfl
  intro e
  exact hn (.inr (.inr (.inr (.inl e))))
theorem kp_15 {k nS nT : Nat} {sc : xSC} {sr : xSR} {sl : xSL} (h : xInv k 0 nS nT sc sr) (hk : k < 512) (a1 : Int32) : xGood (k + 1) (fC_15 nS nT a1 sc sr sl) := by
  have h6 := h.T6
  rcases xidx nT (by omega) a1 with ⟨t, ht, rfl⟩ | hna
  · obtain ⟨G1, G2, G3⟩ := gone_e h (by omega) ht
    obtain ⟨T, hT, e, -⟩ := h.tim
    obtain ⟨a, b, ha, hb, u1, u2, u3, u4⟩ := h.win t ht
    have hT' : T < 50000 := by omega
    obtain ⟨s0, hs0⟩ : ∃ s0 : xSC, s0 = (xuC (xuC (xuC (xuC sc.1 10 0 0 (sc.1 9 t 0)) 10 0 1 (sc.1 9 t 1)) 10 0 2 (sc.1 9 t 2)) 10 0 3 (sc.1 9 t 3), sc.2) := ⟨_, rfl⟩
    have F0 : xFr sc s0 := by
      rw [hs0]
      exact ⟨fun a b c ha => by simp [xuC, ha], rfl⟩
    have p0 : s0.1 10 0 0 = sc.1 9 t 0 := by rw [hs0]; simp [xuC]
    have p3 : s0.1 10 0 3 = sc.1 9 t 3 := by rw [hs0]; simp [xuC]
    have cf : xnb .char (sc.1 9 t 0) = true → fX1_copyFrom nS nT 10 0 9 t sc = some ((), s0) := fun g => by
      rw [fX1_copyFrom, g, oG_t, hs0]
      congr 3
    have fin : ∀ v s' , sc.1 9 t 0 ≠ 45 → xnb .char (sc.1 9 t 0) = true → xFr sc s' → fX5_hoursByPassing_L1 nS nT t fX5_hoursByPassing_K1 1100 0 s0 = some (.inr v, s') → fX6_goneOn (nI t) sr = some (v, (xuR sr.1 122 0 0, sr.2)) → xGood (k + 1) (fC_15 nS nT (nI t) sc sr sl) := fun v s' p' g F E G => by
      have E5 : fX5_hoursByPassing nS nT (nI t) sc = some (.inr v, s') := by
        rw [fX5_hoursByPassing, movT_y h6 ht p', oT_r, oG_e (by simpa using ht) rfl, cf g, oP_s, E]
      simp [fC_15, fL_hoursByPassing, fX6_hoursByPassing, fX6_thrown, E5, G, lgc, oG_t, oB_s, oP_s, oT_r, oT_l, oC_r, oC_l, oN_s, oN_n]
      simp [xuR]
      exact xGood_i (xInv_t h F)
    have bot : ∀ n f s, xFr sc s → n ≤ 50 → s.1 10 0 0 = 102 → ∃ s', xFr sc s' ∧ fX5_hoursByPassing_L1 nS nT t fX5_hoursByPassing_K1 (f + 30) (nI n) s = some (.inr (nI (n + xWait a b ((T + n) % 24) + 3)), s') := fun n f s F hn p => by
      have hx : (T + n) % 24 < 24 := by omega
      have hw := wait_lt (a := a) (b := b) (x := (T + n) % 24)
      obtain ⟨s1, F1, q1, q1', E1⟩ := hb_B (nS := nS) (nT := nT) (t := t) e hT' ha hb u1 u3 (xWait a b ((T + n) % 24)) (f + 29 - xWait a b ((T + n) % 24)) n s F (by omega) p
        (fun y hy => by rw [show (T + n + y) % 24 = ((T + n) % 24 + y) % 24 by omega]; exact wait_2 ha hb hx hy)
        (by rw [show (T + n + xWait a b ((T + n) % 24)) % 24 = ((T + n) % 24 + xWait a b ((T + n) % 24)) % 24 by omega]; exact wait_1 ha hb hx)
      obtain ⟨s2, F2, q2, E2⟩ := hb_C (nS := nS) (nT := nT) (t := t) e hT' ha hb u1 u3 1 (f + 27 - xWait a b ((T + n) % 24)) (n + xWait a b ((T + n) % 24) + 1) s1 F1 (by omega) q1 q1'
      rw [show f + 27 - xWait a b ((T + n) % 24) + 1 + 1 = f + 29 - xWait a b ((T + n) % 24) by omega] at E2
      rw [show f + 29 - xWait a b ((T + n) % 24) + xWait a b ((T + n) % 24) + 1 = f + 30 by omega, E2] at E1
      obtain ⟨g, hg⟩ : ∃ g, f + 27 - xWait a b ((T + n) % 24) = g + 1 := ⟨f + 26 - xWait a b ((T + n) % 24), by omega⟩
      rw [hg, hb_D (by omega) q2] at E1
      exact ⟨s2, F2, by rw [E1]⟩
    rcases h.mov t ht with ⟨p, q⟩ | ⟨i, j, n, i1, j1, _, _, l, _, _, ⟨p, q, n1, n2, -⟩ | ⟨p, q, n0⟩ | ⟨p, q, n1, n2, l''⟩⟩
    · simp [fC_15, fL_hoursByPassing, fX5_hoursByPassing, fX6_hoursByPassing, fX6_thrown, movT_s h6 ht p, G1 p, lgc, oG_t, oB_s, oP_s, oT_r, oT_l, oC_r, oC_l, oN_s, oN_n]
      simp [xuR]
      exact xGood_cd h
    · obtain ⟨m, rfl⟩ : ∃ m, n = m + 1 := ⟨n - 1, by omega⟩
      obtain ⟨s1, F1, q1, E1⟩ := hb_A (nS := nS) (nT := nT) (t := t) e hT' ha hb u1 u3 m (1099 - m) 0 s0 F0 (by omega) (by rw [p0, p]) (by rw [p3, l])
      obtain ⟨s2, F2, E2⟩ := bot (m + 1) (1069 - m) s1 F1 n2 q1
      rw [show 1069 - m + 30 = 1099 - m by omega] at E2
      rw [show 1099 - m + m + 1 = 1100 by omega, show 0 + m + 1 = m + 1 by omega, E2, nI_0] at E1
      exact fin _ s2 (by rw [p]; decide) (by rw [p]; decide) F2 E1 (G3 (m + 1) a b T (.inl p) l n2 ha hb u1 u3 hT' e)
    · subst n0
      obtain ⟨s2, F2, E2⟩ := bot 0 1070 s0 F0 (by omega) (by rw [p0, p])
      rw [show 1070 + 30 = 1100 from rfl, nI_0] at E2
      exact fin _ s2 (by rw [p]; decide) (by rw [p]; decide) F2 E2 (G3 0 a b T (.inr p) l (by omega) ha hb u1 u3 hT' e)
    · obtain ⟨m, rfl⟩ : ∃ m, n = m + 1 := ⟨n - 1, by omega⟩
      obtain ⟨s1, F1, q1, E1⟩ := hb_C (nS := nS) (nT := nT) (t := t) e hT' ha hb u1 u3 m (1099 - m) 0 s0 F0 (by omega) (by rw [p0, p]) (by rw [p3, l])
      obtain ⟨g, hg⟩ : ∃ g, 1099 - m = g + 1 := ⟨1098 - m, by omega⟩
      rw [show 1099 - m + m + 1 = 1100 by omega, show 0 + m + 1 = m + 1 by omega, hg, hb_D (by omega) q1, nI_0] at E1
      exact fin _ s1 (by rw [p]; decide) (by rw [p]; decide) F1 E1 (G2 _ p l)
  · simp [fC_15, fL_hoursByPassing, fX5_hoursByPassing, fX6_hoursByPassing, fX6_goneOn, fX6_thrown, movT_n h6 hna, hnm_n h6 hna h.c103, lgc, oG_t, oB_s, oP_s, oT_r, oT_l, oC_r, oC_l, oN_s, oN_n]
    simp [xuR]
    exact xGood_cd h
