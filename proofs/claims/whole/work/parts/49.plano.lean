/-! the reference goes through all plans: a turn -/
theorem sound_t {nS nT np : Nat} {z l : Nat → Nat → Nat} {w v : Nat → Nat} {sc : xSC} {sr : xSR} (P : xPz nS nT z l w v sc) (R : xRz nS nT z l w v np sc sr) {i n b kb W : Nat} {x : Int32} {s : xSR} (hW : W ≤ 4096) (hi : i < W) (hb : b ≤ 7) (hn : n ≤ i) (h : xSo nS nT sr (n, b, kb) x s) (g : Nat) :
    ∃ q : Int32 × xSR, fX6_sound_L2 (nI W) fX6_sound_K2 (g + 1) x (nI i) s = fX6_sound_L2 (nI W) fX6_sound_K2 g q.1 (nI (i + 1)) q.2 ∧ xSo nS nT sr (if xSB nS nT z l w sc i = true then (n + 1, if xMB nS nT v i < b then xMB nS nT v i else b, if xMB nS nT v i < b then i else kb) else (n, b, kb)) q.1 q.2 := by
  obtain ⟨c1, c2, c3, c4, c5⟩ := h
  have P' := P
  obtain ⟨h4, h6, hz, hl, hw, hv⟩ := P'
  have Rs := xRz_fr R c2
  have hS : 0 < nT → 0 < nS := fun q => by have := (hv 0 q).2; omega
  obtain ⟨s3, a1, a2, a3, a4⟩ := lays_e h6 h4 (show i < 5000 by omega) hS Rs.1 Rs.2.1
  have R3 : xRz nS nT z l w v np sc s3 := xRz_fr Rs (fun a b ha => a2 a b (fun q => ha (.inl q)))
  have Y : xLy nS nT (xDig nS nT i) s3 := fun t ht => ⟨a4 t ht, Nat.mod_lt _ (hS (by omega))⟩
  have f3 : ∀ a b, ¬ xScrR a → s3.1 a b = sr.1 a b := fun a b ha => by rw [a2 a b (fun q => ha (.inl q)), c2 a b ha]
  have e121 : s3.1 121 0 = xBv b := by rw [a2 121 0 (by omega)]; exact c4
  have e20 : ∀ t, s3.1 20 t = s.1 20 t := fun t => a2 20 t (by omega)
  have mvE : ∀ s' : xSR, (∀ a b, a ≠ 121 → s'.1 a b = s3.1 a b) → fX6_movesOfPlan s' = some (nI (xMB nS nT v i)) := fun s' h' => by
    refine movP_e h6 ?_ (fun t ht => ?_) (fun t ht => ?_)
    · rw [h' _ _ (by omega)]; exact R3.2.1
    · rw [h' _ _ (by omega)]
      have := Y t ht
      exact ⟨this.1, by omega⟩
    · rw [h' _ _ (by omega)]
      have := (hv t ht).2
      exact ⟨R3.2.2.2.2.1 t ht, by omega⟩
  have m6 : xMB nS nT v i ≤ 6 := Nat.le_trans xMvp_le h6
  have copyd : ∀ s' : xSR, (∀ a b, a ≠ 20 → s'.1 a b = (xuR s3.1 121 0 (nI (xMB nS nT v i))) a b) → s'.2 = s3.2 → (∀ t, t < nT → s'.1 20 t = (xuR s3.1 121 0 (nI (xMB nS nT v i))) 19 t) → xMB nS nT v i < b → xSo nS nT sr (n + 1, if xMB nS nT v i < b then xMB nS nT v i else b, if xMB nS nT v i < b then i else kb) (nI (n + 1)) s' := fun s' q1 q2 q3 q4 => by
    rw [if_pos q4, if_pos q4]
    refine ⟨rfl, fun a c ha => ?_, by rw [q2, a3]; exact c3, ?_, fun _ t ht => ?_⟩
    · rw [q1 a c (fun q => ha (by simp [xScrR, q])), ← f3 a c ha]
      simp only [xuR]
      rw [if_neg (fun q => ha (by simp [xScrR, q.1]))]
    · rw [q1 _ _ (by omega)]
      show xuR s3.1 121 0 (nI (xMB nS nT v i)) 121 0 = xBv (xMB nS nT v i)
      rw [xBv, if_neg (by omega)]
      simp [xuR]
    · rw [q3 t ht]
      show xuR s3.1 121 0 (nI (xMB nS nT v i)) 19 t = nI (xDig nS nT i t)
      rw [← a4 t ht]
      simp [xuR]
  rw [fX6_sound_L2]
  simp only [geN hi (show W < 1000000 by omega), a1, if_false, oG_t, oB_s, oP_s, oT_r, oT_l, oC_r, oC_l, oN_s, oN_n]
  rcases isSnd_e P R3 Y with ⟨y1, y2⟩ | ⟨y1, y2⟩
  · rw [if_pos (xSB_t.mpr y1), y2, oB_s, if_neg n10, e121]
    have mE := mvE s3 (fun a b _ => rfl)
    by_cases g7 : b = 7
    · have lt : xBv b < 0 := by rw [g7]; decide
      obtain ⟨s', u1, u2, u3, u4⟩ := cpy3 h6 (fX6_sound_K3 x (nI i) (fX6_sound_L2 (nI W) fX6_sound_K2 g)) (s := (xuR s3.1 121 0 (nI (xMB nS nT v i)), s3.2)) (by
        show xuR s3.1 121 0 (nI (xMB nS nT v i)) 103 0 = nI nT
        rw [← R3.2.1]; simp [xuR])
      refine ⟨(nI (n + 1), s'), ?_, copyd s' u2 u3 u4 (by omega)⟩
      rw [if_pos lt, mE, oB_s, u1, fX6_sound_K3, c1, nI_1, nI_1]
    · have nlt : ¬ xBv b < 0 := by rw [xBv, if_neg g7]; exact nI_pos (by omega)
      rw [if_neg nlt, mE, oB_s, xBv, if_neg g7, oB_s]
      by_cases q4 : xMB nS nT v i < b
      · obtain ⟨s', u1, u2, u3, u4⟩ := cpy4 h6 (fX6_sound_K4 x (nI i) (fX6_sound_L2 (nI W) fX6_sound_K2 g)) (s := (xuR s3.1 121 0 (nI (xMB nS nT v i)), s3.2)) (by
          show xuR s3.1 121 0 (nI (xMB nS nT v i)) 103 0 = nI nT
          rw [← R3.2.1]; simp [xuR])
        refine ⟨(nI (n + 1), s'), ?_, copyd s' u2 u3 u4 q4⟩
        rw [if_pos (nI_lt q4 (by omega)), u1, fX6_sound_K4, c1, nI_1, nI_1]
      · refine ⟨(nI (n + 1), s3), ?_, rfl, f3, by rw [a3]; exact c3, ?_, fun q t ht => ?_⟩
        · rw [if_neg (by rw [nI_ltI (by omega) (by omega)]; exact q4), c1, nI_1, nI_1]
        · rw [if_neg q4]; exact e121
        · have q : (if xMB nS nT v i < b then xMB nS nT v i else b) ≠ 7 := q
          rw [if_neg q4] at q
          show s3.1 20 t = nI (xDig nS nT (if xMB nS nT v i < b then i else kb) t)
          rw [if_neg q4, e20 t]
          exact c5 q t ht
  · have ee : ∀ A B : Nat × Nat × Nat, (if false = true then A else B) = B := fun _ _ => if_neg (by simp)
    rw [xSB_f y1, ee]
    refine ⟨(x, s3), ?_, c1, f3, by rw [a3]; exact c3, e121, fun q t ht => ?_⟩
    · simp only [y2, if_true, nI_1, oG_t, oB_s, oP_s, oT_r, oT_l, oC_r, oC_l, oN_s, oN_n]
    · rw [e20 t]
      exact c5 q t ht
theorem sound_e {nS nT np : Nat} {z l : Nat → Nat → Nat} {w v : Nat → Nat} {sc : xSC} {sr : xSR} (P : xPz nS nT z l w v sc) (R : xRz nS nT z l w v np sc sr) :
    ∃ x s', fX6_sound sr = some (x, s') ∧ xSo nS nT sr (xFd (xSB nS nT z l w sc) (xMB nS nT v) 0 (nS ^ nT) (0, 7, 0)) x s' := by
  have h4 := P.1
  have h6 := P.2.1
  obtain ⟨W, hW⟩ : ∃ W, W = nS ^ nT := ⟨_, rfl⟩
  have hW' : W ≤ 4096 := by rw [hW]; exact pow_b h4 h6
  obtain ⟨x, r, E⟩ := xlpR (fun f i (x : Int32) => fX6_sound_L1 fX6_sound_K1 f x i sr) (fun x => fX6_sound_K1 x (nI nT) sr) (fun i x => x = nI (nS ^ i)) nT nT (Nat.le_refl _)
    (fun g i x hi hp => by
      refine ⟨nI (nS ^ (i + 1)), ?_, rfl⟩
      show fX6_sound_L1 fX6_sound_K1 (g + 1) x (nI i) sr = fX6_sound_L1 fX6_sound_K1 g (nI (nS ^ (i + 1))) (nI (i + 1)) sr
      rw [fX6_sound_L1]
      simp only [R.1, R.2.1, geN hi (by omega), nI_1, if_false]
      rw [hp, nI_mul, Nat.pow_succ])
    (fun g i x h1 h2 => by omega)
    (fun g x hp => by
      show fX6_sound_L1 fX6_sound_K1 (g + 1) x (nI nT) sr = fX6_sound_K1 x (nI nT) sr
      rw [fX6_sound_L1]
      simp only [R.2.1, leN, if_true])
    64 (by omega) (nI 1) (by rw [Nat.pow_zero])
  have E : fX6_sound_L1 fX6_sound_K1 64 (nI 1) (nI 0) sr = fX6_sound_K1 x (nI nT) sr := E
  rw [nI_0, show nI 1 = 1 by decide, r, ← hW, fX6_sound_K1] at E
  obtain ⟨q, r2, E2⟩ := xlpR (fun f i (q : Int32 × xSR) => fX6_sound_L2 (nI W) fX6_sound_K2 f q.1 i q.2) (fun q => some q) (fun i q => xSo nS nT sr (xFd (xSB nS nT z l w sc) (xMB nS nT v) 0 i (0, 7, 0)) q.1 q.2) W W (Nat.le_refl _)
    (fun g i q hi hp => by
      have b7 : (xFd (xSB nS nT z l w sc) (xMB nS nT v) 0 i (0, 7, 0)).2.1 ≤ 7 := xFd_7 (by simp)
      have n7 : (xFd (xSB nS nT z l w sc) (xMB nS nT v) 0 i (0, 7, 0)).1 ≤ 0 + i := xFd_n
      obtain ⟨q', e1, e2⟩ := sound_t P R (W := W) hW' hi b7 (show (xFd (xSB nS nT z l w sc) (xMB nS nT v) 0 i (0, 7, 0)).1 ≤ i by omega) hp g
      refine ⟨q', e1, ?_⟩
      simp only [xFd, Nat.zero_add]
      exact e2)
    (fun g i x h1 h2 => by omega)
    (fun g q hp => by
      show fX6_sound_L2 (nI W) fX6_sound_K2 (g + 1) q.1 (nI W) q.2 = some q
      rw [fX6_sound_L2]
      simp only [leN, if_true, fX6_sound_K2])
    5000 (by omega) (0, (xuR sr.1 121 0 (-1), sr.2)) ⟨by rw [← nI_0]; rfl, fun a b ha => by
      show xuR sr.1 121 0 (-1) a b = sr.1 a b
      simp only [xuR]
      rw [if_neg (fun q => ha (by simp [xScrR, q.1]))], rfl, by
      show xuR sr.1 121 0 (-1) 121 0 = xBv 7
      simp [xuR, xBv], fun q => absurd rfl q⟩
  have E2 : fX6_sound_L2 (nI W) fX6_sound_K2 5000 0 (nI 0) (xuR sr.1 121 0 (-1), sr.2) = some q := E2
  rw [nI_0] at E2
  refine ⟨q.1, q.2, ?_, by rw [← hW]; exact r2⟩
  rw [fX6_sound, E, E2]
