/-! hours of moves -/
theorem go_f0 {nS nT k0 j0 : Nat} {s : xSC} (e : s.1 k0 j0 0 = 102) : fX1_goOn nS nT k0 j0 0 s = some (0, s) := by
  unfold fX1_goOn
  rw [if_pos e, if_pos rfl, xnb0, oG_t]
theorem go_f1 {nS nT k0 j0 : Nat} {s : xSC} (e : s.1 k0 j0 0 = 102) : fX1_goOn nS nT k0 j0 1 s = some (1, (xuC (xuC s.1 k0 j0 0 100) k0 j0 3 2, s.2)) := by
  unfold fX1_goOn fX1_cleanAnew
  rw [if_pos e, if_neg n10, oP_s, xnb1, oG_t]
theorem go_n {nS nT k0 j0 l : Nat} {v : Int32} {s : xSC} (hl : l < 1000) (e : s.1 k0 j0 0 ≠ 102) (g : s.1 k0 j0 3 = nI (l + 2)) : fX1_goOn nS nT k0 j0 v s = some (0, (xuC s.1 k0 j0 3 (nI (l + 1)), s.2)) := by
  unfold fX1_goOn
  have x : s.1 k0 j0 3 - 1 = nI (l + 1) := by rw [g, nI_pred]
  rw [if_neg e, x, if_pos]
  show 0 < xuC s.1 k0 j0 3 (nI (l + 1)) k0 j0 3
  rw [show xuC s.1 k0 j0 3 (nI (l + 1)) k0 j0 3 = nI (l + 1) by simp [xuC]]
  exact nI_lt (a := 0) (by omega) (by omega)
theorem go_c {nS nT k0 j0 : Nat} {v : Int32} {s : xSC} (e : s.1 k0 j0 0 = 99) (g : s.1 k0 j0 3 = nI 1) : fX1_goOn nS nT k0 j0 v s = some (0, (xuC (xuC s.1 k0 j0 3 0) k0 j0 0 102, s.2)) := by
  unfold fX1_goOn
  have x : s.1 k0 j0 3 - 1 = 0 := by rw [g]; rfl
  have x1 : xuC s.1 k0 j0 3 0 k0 j0 3 = 0 := by simp [xuC]
  have x2 : xuC s.1 k0 j0 3 0 k0 j0 0 = 99 := by simp [xuC, e]
  rw [if_neg (by rw [e]; decide), x]
  simp only [x1, x2]
  rw [if_neg (by decide), if_pos trivial]
theorem go_d {nS nT k0 j0 : Nat} {v : Int32} {s : xSC} (e : s.1 k0 j0 0 = 100) (g : s.1 k0 j0 3 = nI 1) : fX1_goOn nS nT k0 j0 v s = some (0, (xuC (xuC s.1 k0 j0 3 0) k0 j0 0 45, s.2)) := by
  unfold fX1_goOn
  have x : s.1 k0 j0 3 - 1 = 0 := by rw [g]; rfl
  have x1 : xuC s.1 k0 j0 3 0 k0 j0 3 = 0 := by simp [xuC]
  have x2 : xuC s.1 k0 j0 3 0 k0 j0 0 = 100 := by simp [xuC, e]
  rw [if_neg (by rw [e]; decide), x]
  simp only [x1, x2]
  rw [if_neg (by decide), if_neg (by decide)]
def xWait (a b x : Nat) : Nat := if xWin a b x = true then 0 else (a + 24 - x) % 24
theorem wait_1 {a b x : Nat} (ha : a < 24) (hb : b < 24) (hx : x < 24) : xWin a b ((x + xWait a b x) % 24) = true := by
  unfold xWait
  split
  · rename_i g
    rw [Nat.add_zero, Nat.mod_eq_of_lt hx]
    exact g
  · rw [show (x + (a + 24 - x) % 24) % 24 = a by omega]
    unfold xWin
    split
    · rfl
    · split
      · simp; omega
      · simp
theorem wait_2 {a b x y : Nat} (ha : a < 24) (hb : b < 24) (hx : x < 24) (hy : y < xWait a b x) : xWin a b ((x + y) % 24) = false := by
  unfold xWait at hy
  split at hy
  · omega
  · rename_i g
    unfold xWin at g ⊢
    split
    · rename_i e
      rw [if_pos e] at g
      exact absurd rfl g
    · rename_i e
      rw [if_neg e] at g
      split
      · rename_i e'
        rw [if_pos e'] at g
        simp at g ⊢
        omega
      · rename_i e'
        rw [if_neg e'] at g
        simp at g ⊢
        omega
theorem wait_lt {a b x : Nat} : xWait a b x < 24 := by
  unfold xWait
  split <;> omega
theorem hod_e {nS nT n : Nat} {x : Int32} {s : xSC} (e : x = nI n) (hn : n < 1000000) : fX5_hourOfDay nS nT x s = some (nI (n % 24)) := by
  subst e
  unfold fX5_hourOfDay
  rw [fm_p hn, oB_s]
/-- what the reference counts from an hour on -/
theorem gone_L {t T a b : Nat} {sr : xSR} (ht : t < 6) (hT : T < 100000) (e : sr.1 116 0 = nI T) (ha : a < 24) (hb : b < 24) (e1 : sr.1 6 t = nI a) (e2 : sr.1 7 t = nI b) (d : Nat) : ∀ (f n : Nat), n + d < 1000 → d < 100 → (∀ y, y < d → xWin a b ((T + n + y) % 24) = false) → xWin a b ((T + n + d) % 24) = true → fX6_goneOn_L1 (nI t) fX6_goneOn_K1 (f + d + 1) (nI n) sr = some (nI (n + d + 3), sr) ∧ fX6_goneOn_L2 (nI t) fX6_goneOn_K2 (f + d + 1) (nI n) sr = some (nI (n + d + 3), sr) := by
  induction d with
  | zero =>
    intro f n hn hd h0 h1
    have r := pk_rem (a := T + n) (d := 24) (by omega) (by omega) (by omega)
    rw [show nI 24 = (24 : Int32) from rfl] at r
    have w := iw_r (x := (T + n) % 24) ht ha hb (by omega) e1 e2
    rw [show T + n + 0 = T + n by omega] at h1
    rw [if_pos h1] at w
    constructor
    · rw [fX6_goneOn_L1]
      simp only [e, nI_add, r, w, n10, if_false, fX6_goneOn_K1, nI_1, nI_2, oG_t, oB_s, oP_s, oT_r, oT_l, oC_r, oC_l, oN_s, oN_n]
    · rw [fX6_goneOn_L2]
      simp only [e, nI_add, r, w, n10, if_false, fX6_goneOn_K2, nI_1, nI_2, oG_t, oB_s, oP_s, oT_r, oT_l, oC_r, oC_l, oN_s, oN_n]
  | succ d ih =>
    intro f n hn hd h0 h1
    have r := pk_rem (a := T + n) (d := 24) (by omega) (by omega) (by omega)
    rw [show nI 24 = (24 : Int32) from rfl] at r
    have w := iw_r (x := (T + n) % 24) ht ha hb (by omega) e1 e2
    have h00 := h0 0 (by omega)
    rw [show T + n + 0 = T + n by omega] at h00
    rw [if_neg (by rw [h00]; simp)] at w
    have A := ih f (n + 1) (by omega) (by omega) (fun y hy => by rw [show T + (n + 1) + y = T + n + (y + 1) by omega]; exact h0 (y + 1) (by omega)) (by rw [show T + (n + 1) + d = T + n + (d + 1) by omega]; exact h1)
    rw [show n + 1 + d + 3 = n + (d + 1) + 3 by omega] at A
    rw [show f + (d + 1) + 1 = (f + d + 1) + 1 by omega]
    constructor
    · rw [fX6_goneOn_L1]
      simp only [e, nI_add, r, w, if_true, nI_1, oG_t, oB_s, oP_s, oT_r, oT_l, oC_r, oC_l, oN_s, oN_n]
      exact A.1
    · rw [fX6_goneOn_L2]
      simp only [e, nI_add, r, w, if_true, nI_1, oG_t, oB_s, oP_s, oT_r, oT_l, oC_r, oC_l, oN_s, oN_n]
      exact A.2
theorem gone_e {k nS nT : Nat} {d : Int32} {sc : xSC} {sr : xSR} (h : xInv k d nS nT sc sr) {t : Nat} (hk : k < 1000) (ht : t < nT) : (sc.1 9 t 0 = 45 → fX6_goneOn (nI t) sr = some (0, (xuR sr.1 122 0 2, sr.2))) ∧ (∀ n, sc.1 9 t 0 = 100 → sc.1 9 t 3 = nI n → fX6_goneOn (nI t) sr = some (nI n, (xuR sr.1 122 0 0, sr.2))) ∧ (∀ n a b T, sc.1 9 t 0 = 99 ∨ sc.1 9 t 0 = 102 → sc.1 9 t 3 = nI n → n ≤ 50 → a < 24 → b < 24 → sc.1 11 t 4 = nI a → sc.1 11 t 5 = nI b → T < 50000 → sc.1 0 0 5 = nI T → fX6_goneOn (nI t) sr = some (nI (n + xWait a b ((T + n) % 24) + 3), (xuR sr.1 122 0 0, sr.2))) := by
  have h6 := h.T6
  have g1 := xin6 (show t < 6 by omega)
  have g2 := nN (show t < 100 by omega)
  refine ⟨fun p => ?_, fun n p l => ?_, fun n a b T p l hn ha hb w1 w2 hT e => ?_⟩
  · have q : sr.1 9 t = 0 := by rw [ph_q h ht]; exact p
    rw [fX6_goneOn, hnm_s h6 ht h.c103 q, oP_s]
    exact if_neg n10
  · rcases h.mov t ht with ⟨p', q⟩ | ⟨i, j, n', i1, j1, _, _, l', _, _, ⟨p', q, -⟩ | ⟨p', q, -⟩ | ⟨p', q, n1, n2, l''⟩⟩
    · exact absurd (p.symm.trans p') (by decide)
    · exact absurd (p.symm.trans p') (by decide)
    · exact absurd (p.symm.trans p') (by decide)
    · have q' : sr.1 9 t ≠ 0 := by rw [q]; decide
      rw [fX6_goneOn, hnm_y h6 ht h.c103 q', oP_s]
      simp [g1, g2, xuR, q, l'', oG_t, oB_s, oP_s, oT_r, oT_l, oC_r, oC_l, oN_s, oN_n]
      rw [← l', l]
  · obtain ⟨T', -, e', e2⟩ := h.tim
    obtain ⟨a', b', ha', hb', u1, u2, u3, u4⟩ := h.win t ht
    rw [e'] at e
    rw [u1] at w1
    rw [u3] at w2
    have z1 : sr.1 116 0 = nI T := by rw [e2, e]
    have z2 : sr.1 6 t = nI a := by rw [u2, w1]
    have z3 : sr.1 7 t = nI b := by rw [u4, w2]
    have q' : sr.1 9 t ≠ 0 := by
      rw [Ne, ph_q h ht]
      rcases p with p | p <;> rw [p] <;> decide
    have hx : (T + n) % 24 < 24 := by omega
    have hw := wait_lt (a := a) (b := b) (x := (T + n) % 24)
    have G := gone_L (t := t) (T := T) (a := a) (b := b) (sr := (xuR sr.1 122 0 0, sr.2)) (by omega) (by omega) (by simp [xuR, z1]) ha hb (by simp [xuR, z2]) (by simp [xuR, z3]) (xWait a b ((T + n) % 24)) (63 - xWait a b ((T + n) % 24)) n (by omega) (by omega)
      (fun y hy => by rw [show (T + n + y) % 24 = ((T + n) % 24 + y) % 24 by omega]; exact wait_2 ha hb hx hy)
      (by rw [show (T + n + xWait a b ((T + n) % 24)) % 24 = ((T + n) % 24 + xWait a b ((T + n) % 24)) % 24 by omega]; exact wait_1 ha hb hx)
    rw [show 63 - xWait a b ((T + n) % 24) + xWait a b ((T + n) % 24) + 1 = 64 by omega] at G
    rcases h.mov t ht with ⟨p', q⟩ | ⟨i, j, n', i1, j1, _, _, l', _, _, ⟨p', q, n1, n2, l''⟩ | ⟨p', q, n0⟩ | ⟨p', q, n1, n2, l''⟩⟩
    · rcases p with p | p <;> exact absurd (p.symm.trans p') (by decide)
    · rw [fX6_goneOn, hnm_y h6 ht h.c103 q', oP_s]
      have q1 : ¬ (xuR sr.1 122 0 0) 9 t = 3 := by simp [xuR, q]
      have q2 : (xuR sr.1 122 0 0) 9 t = 1 := by simp [xuR, q]
      have q3 : (xuR sr.1 122 0 0) 12 t = nI n := by simp [xuR, l'', ← l', l]
      simp only [g1, g2, q1, q2, q3, if_true, if_false, oG_t, oB_s, oP_s, oT_r, oT_l, oC_r, oC_l, oN_s, oN_n]
      exact G.2
    · rw [fX6_goneOn, hnm_y h6 ht h.c103 q', oP_s]
      have q1 : ¬ (xuR sr.1 122 0 0) 9 t = 3 := by simp [xuR, q]
      have q2 : ¬ (xuR sr.1 122 0 0) 9 t = 1 := by simp [xuR, q]
      have q3 : n = 0 := by
        subst n0
        rw [l, nI_eq (by omega) (by omega)] at l'
        exact l'
      subst q3
      simp only [g1, g2, q1, q2, if_true, if_false, oG_t, oB_s, oP_s, oT_r, oT_l, oC_r, oC_l, oN_s, oN_n]
      exact G.1
    · rcases p with p | p <;> exact absurd (p.symm.trans p') (by decide)
