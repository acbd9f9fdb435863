/-! both sides' small calls, and the easy cases -/
def xGood (k : Nat) (x : Option xR5) : Prop := ∃ r : xR5, x = some r ∧ xInv k 0 r.1 r.2.1 r.2.2.1 r.2.2.2.1
theorem xGood_i {k nS nT : Nat} {sc : xSC} {sr : xSR} {sl : xSL} (h : xInv k 0 nS nT sc sr) : xGood (k + 1) (some (nS, nT, sc, sr, sl)) := ⟨_, rfl, xInv_k h (by omega)⟩
theorem xInv_cd {k nS nT : Nat} {d : Int32} {sc : xSC} {sr : xSR} {c : Int32} (h : xInv k d nS nT sc sr) : xInv k d nS nT sc (xuR sr.1 122 0 c, sr.2) :=
  xInv_fr h (fun _ _ _ _ => rfl) (fun a b hn => by simp [xScrR] at hn; simp [xuR]; omega) rfl rfl
theorem xGood_cd {k nS nT : Nat} {sc : xSC} {sr : xSR} {sl : xSL} {c : Int32} (h : xInv k 0 nS nT sc sr) : xGood (k + 1) (some (nS, nT, sc, (xuR sr.1 122 0 c, sr.2), sl)) := xGood_i (xInv_cd h)
theorem knT_y {nS nT t : Nat} {sc : xSC} (h6 : nT ≤ 6) (h : t < nT) : fX5_knownTenant nS nT (nI t) sc = some (.inr t) := by
  unfold fX5_knownTenant
  rw [if_neg (nI_pos (by omega)), if_pos (show nI t < 6 from nI_lt (b := 6) (by omega) (by omega)), xin_n (by omega) (by omega), xel_n h (by omega)]
  rfl
theorem nI_split {N M : Nat} (h : N ≤ M) (hM : M < 1000000) {a : Int32} (h0 : ¬ a < 0) (h1 : nI N ≤ a) (h2 : a < nI M) : ∃ t, t < M ∧ ¬ t < N ∧ a = nI t := by
  obtain ⟨j, hj, rfl⟩ := nI_of h0
  refine ⟨j, (nI_ltI hj (by omega)).mp h2, ?_, rfl⟩
  have := (nI_leI (a := N) (b := j) (by omega) hj).mp h1
  omega
theorem knT_n {nS nT : Nat} {a : Int32} {sc : xSC} (h6 : nT ≤ 6) (h : a < 0 ∨ nI nT ≤ a) : fX5_knownTenant nS nT a sc = some (.inl "java/lang/IndexOutOfBoundsException") := by
  unfold fX5_knownTenant
  by_cases h0 : a < 0
  · rw [if_pos h0]
  · rw [if_neg h0]
    have h1 := h.resolve_left h0
    by_cases h2 : a < 6
    · obtain ⟨t, h3, h4, rfl⟩ := nI_split h6 (by omega) h0 h1 h2
      rw [if_pos h2, xin_n h3 (by omega), xel_o h4 (by omega)]
      rfl
    · rw [if_neg h2]
theorem shN_y {nS nT j : Nat} {sc : xSC} (h6 : nS ≤ 4) (h : j < nS) : fX5_shardOrNull nS nT (nI j) sc = some (some j) := by
  unfold fX5_shardOrNull
  rw [if_neg (nI_pos (by omega)), if_pos (show nI j < 4 from nI_lt (b := 4) (by omega) (by omega)), xin_n (by omega) (by omega), xel_n h (by omega)]
  rfl
theorem shN_n {nS nT : Nat} {a : Int32} {sc : xSC} (h6 : nS ≤ 4) (h : a < 0 ∨ nI nS ≤ a) : fX5_shardOrNull nS nT a sc = some none := by
  unfold fX5_shardOrNull
  by_cases h0 : a < 0
  · rw [if_pos h0]
  · rw [if_neg h0]
    have h1 := h.resolve_left h0
    by_cases h2 : a < 4
    · obtain ⟨t, h3, h4, rfl⟩ := nI_split h6 (by omega) h0 h1 h2
      rw [if_pos h2, xin_n h3 (by omega), xel_o h4 (by omega)]
      rfl
    · rw [if_neg h2]
theorem knS_y {nS nT j : Nat} {sc : xSC} (h6 : nS ≤ 4) (h : j < nS) : fX5_knownShard nS nT (nI j) sc = some (.inr j) := by
  unfold fX5_knownShard
  simp only [shN_y h6 h, h, decide_true, oG_t, oB_s, oP_s, oT_r, oT_l, oC_r, oC_l, oN_s, oN_n]
theorem knS_n {nS nT : Nat} {a : Int32} {sc : xSC} (h6 : nS ≤ 4) (h : a < 0 ∨ nI nS ≤ a) : fX5_knownShard nS nT a sc = some (.inl "java/lang/IndexOutOfBoundsException") := by
  unfold fX5_knownShard
  simp only [shN_n h6 h, oG_t, oB_s, oP_s, oT_r, oT_l, oC_r, oC_l, oN_s, oN_n]
theorem noT_y {N t : Nat} (hN : N < 1000000) (h : t < N) {sr : xSR} (e : sr.1 103 0 = nI N) : fX6_isNoTenant (nI t) sr = some 0 := by
  unfold fX6_isNoTenant
  simp [e, fin_y hN h, oG_t, oB_s, oP_s, oT_r, oT_l, oC_r, oC_l, oN_s, oN_n]
theorem noT_n {N : Nat} (hN : N < 1000000) {a : Int32} (h : a < 0 ∨ nI N ≤ a) {sr : xSR} (e : sr.1 103 0 = nI N) : fX6_isNoTenant a sr = some 1 := by
  unfold fX6_isNoTenant
  simp [e, fin_n hN h, oG_t, oB_s, oP_s, oT_r, oT_l, oC_r, oC_l, oN_s, oN_n]
theorem noS_y {N t : Nat} (hN : N < 1000000) (h : t < N) {sr : xSR} (e : sr.1 100 0 = nI N) : fX6_isNoShard (nI t) sr = some 0 := by
  unfold fX6_isNoShard
  simp [e, fin_y hN h, oG_t, oB_s, oP_s, oT_r, oT_l, oC_r, oC_l, oN_s, oN_n]
theorem noS_n {N : Nat} (hN : N < 1000000) {a : Int32} (h : a < 0 ∨ nI N ≤ a) {sr : xSR} (e : sr.1 100 0 = nI N) : fX6_isNoShard a sr = some 1 := by
  unfold fX6_isNoShard
  simp [e, fin_n hN h, oG_t, oB_s, oP_s, oT_r, oT_l, oC_r, oC_l, oN_s, oN_n]
theorem fls_0 (sr : xSR) : fX6_fails 0 sr = some (0, (xuR sr.1 122 0 0, sr.2)) := by simp [fX6_fails]
theorem fls_1 (sr : xSR) : fX6_fails 1 sr = some (1, (xuR sr.1 122 0 1, sr.2)) := by simp [fX6_fails]
theorem fls_2 (sr : xSR) : fX6_fails 2 sr = some (1, (xuR sr.1 122 0 2, sr.2)) := by simp [fX6_fails]
theorem fls_3 (sr : xSR) : fX6_fails 3 sr = some (1, (xuR sr.1 122 0 3, sr.2)) := by simp [fX6_fails]
theorem fls_4 (sr : xSR) : fX6_fails 4 sr = some (1, (xuR sr.1 122 0 4, sr.2)) := by simp [fX6_fails]
theorem ge6 {i : Nat} (h : i < 6) : ((6 : Int32) ≤ nI i) = False := eq_false (nI_ge (b := 6) h (by omega))
theorem ge4 {i : Nat} (h : i < 4) : ((4 : Int32) ≤ nI i) = False := eq_false (nI_ge (b := 4) h (by omega))
theorem ge3 {i : Nat} (h : i < 3) : ((3 : Int32) ≤ nI i) = False := eq_false (nI_ge (b := 3) h (by omega))
theorem geN {i N : Nat} (h : i < N) (hN : N < 1000000) : (nI N ≤ nI i) = False := eq_false (nI_ge h (by omega))
theorem leN {N : Nat} : (nI N ≤ nI N) = True := eq_true (Int32.le_refl _)
theorem le6 : ((6 : Int32) ≤ nI 6) = True := eq_true (by decide)
theorem le4 : ((4 : Int32) ≤ nI 4) = True := eq_true (by decide)
theorem le3 : ((3 : Int32) ≤ nI 3) = True := eq_true (by decide)
/-- one loop, by what holds behind each turn; from N on nothing happens till M -/
theorem xlpR {α β : Type} (L : Nat → Int32 → α → Option β) (K : α → Option β) (P : Nat → α → Prop) (N M : Nat) (hNM : N ≤ M)
    (h1 : ∀ n i s, i < N → P i s → ∃ s', L (n + 1) (nI i) s = L n (nI (i + 1)) s' ∧ P (i + 1) s')
    (h2 : ∀ n i s, N ≤ i → i < M → L (n + 1) (nI i) s = L n (nI (i + 1)) s)
    (h3 : ∀ n s, P N s → L (n + 1) (nI M) s = K s)
    (f : Nat) (hf : M < f) (s : α) (h0 : P 0 s) : ∃ s', P N s' ∧ L f (nI 0) s = K s' := by
  have A : ∀ d i f s, N - i = d → i ≤ N → M < f + i → P i s → ∃ s' f', P N s' ∧ M < f' + N ∧ L f (nI i) s = L f' (nI N) s' := by
    intro d
    induction d with
    | zero =>
      intro i f s e hi hf hp
      obtain rfl : i = N := by omega
      exact ⟨s, f, hp, by omega, rfl⟩
    | succ d ih =>
      intro i f s e hi hf hp
      obtain ⟨g, rfl⟩ : ∃ g, f = g + 1 := ⟨f - 1, by omega⟩
      obtain ⟨s', e1, hp'⟩ := h1 g i s (by omega) hp
      obtain ⟨s'', f', a1, a2, a3⟩ := ih (i + 1) g s' (by omega) (by omega) (by omega) hp'
      exact ⟨s'', f', a1, a2, by rw [e1, a3]⟩
  have B : ∀ d i f s, M - i = d → N ≤ i → i ≤ M → M < f + i → P N s → L f (nI i) s = K s := by
    intro d
    induction d with
    | zero =>
      intro i f s e hi hi' hf hp
      obtain rfl : i = M := by omega
      obtain ⟨g, rfl⟩ : ∃ g, f = g + 1 := ⟨f - 1, by omega⟩
      exact h3 g s hp
    | succ d ih =>
      intro i f s e hi hi' hf hp
      obtain ⟨g, rfl⟩ : ∃ g, f = g + 1 := ⟨f - 1, by omega⟩
      rw [h2 g i s hi (by omega)]
      exact ih (i + 1) g s (by omega) (by omega) (by omega) (by omega) hp
  obtain ⟨s', f', a1, a2, a3⟩ := A N 0 f s (by omega) (by omega) (by omega) h0
  exact ⟨s', a1, by rw [a3, B (M - N) N f' s' rfl (by omega) hNM (by omega) a1]⟩
/-- two loops abreast -/
theorem xlp2 {α β γ δ : Type} (L : Nat → Int32 → α → Option β) (K : α → Option β) (L' : Nat → Int32 → γ → Option δ) (K' : γ → Option δ) (P : Nat → α → γ → Prop) (N M : Nat) (hNM : N ≤ M)
    (h1 : ∀ i s u, i < N → P i s u → ∃ s' u', (∀ n, L (n + 1) (nI i) s = L n (nI (i + 1)) s') ∧ (∀ n, L' (n + 1) (nI i) u = L' n (nI (i + 1)) u') ∧ P (i + 1) s' u')
    (h2 : ∀ n i s, N ≤ i → i < M → L (n + 1) (nI i) s = L n (nI (i + 1)) s)
    (h3 : ∀ n s u, P N s u → L (n + 1) (nI M) s = K s)
    (h4 : ∀ n s u, P N s u → L' (n + 1) (nI N) u = K' u)
    (f g : Nat) (hf : M < f) (hg : N < g) (s : α) (u : γ) (h0 : P 0 s u) : ∃ s' u', P N s' u' ∧ L f (nI 0) s = K s' ∧ L' g (nI 0) u = K' u' := by
  have A : ∀ d i s u, N - i = d → i ≤ N → P i s u → ∃ s' u', P N s' u' ∧ (∀ f, M < f + i → ∃ f', M < f' + N ∧ L f (nI i) s = L f' (nI N) s') ∧ (∀ g, N < g + i → ∃ g', 0 < g' ∧ L' g (nI i) u = L' g' (nI N) u') := by
    intro d
    induction d with
    | zero =>
      intro i s u e hi hp
      obtain rfl : i = N := by omega
      exact ⟨s, u, hp, fun f hf => ⟨f, by omega, rfl⟩, fun g hg => ⟨g, by omega, rfl⟩⟩
    | succ d ih =>
      intro i s u e hi hp
      obtain ⟨s', u', e1, e2, hp'⟩ := h1 i s u (by omega) hp
      obtain ⟨s'', u'', a1, a2, a3⟩ := ih (i + 1) s' u' (by omega) (by omega) hp'
      refine ⟨s'', u'', a1, fun f hf => ?_, fun g hg => ?_⟩
      · obtain ⟨f1, rfl⟩ : ∃ g, f = g + 1 := ⟨f - 1, by omega⟩
        obtain ⟨f', b1, b2⟩ := a2 f1 (by omega)
        exact ⟨f', b1, by rw [e1, b2]⟩
      · obtain ⟨f1, rfl⟩ : ∃ g', g = g' + 1 := ⟨g - 1, by omega⟩
        obtain ⟨f', b1, b2⟩ := a3 f1 (by omega)
        exact ⟨f', b1, by rw [e2, b2]⟩
  have B : ∀ d i f s u, M - i = d → N ≤ i → i ≤ M → M < f + i → P N s u → L f (nI i) s = K s := by
    intro d
    induction d with
    | zero =>
      intro i f s u e hi hi' hf hp
      obtain rfl : i = M := by omega
      obtain ⟨g, rfl⟩ : ∃ g, f = g + 1 := ⟨f - 1, by omega⟩
      exact h3 g s u hp
    | succ d ih =>
      intro i f s u e hi hi' hf hp
      obtain ⟨g, rfl⟩ : ∃ g, f = g + 1 := ⟨f - 1, by omega⟩
      rw [h2 g i s hi (by omega)]
      exact ih (i + 1) g s u (by omega) (by omega) (by omega) (by omega) hp
  obtain ⟨s', u', a1, a2, a3⟩ := A N 0 s u (by omega) (by omega) h0
  obtain ⟨f', b1, b2⟩ := a2 f (by omega)
  obtain ⟨g', c1, c2⟩ := a3 g (by omega)
  obtain ⟨g1, rfl⟩ : ∃ g, g' = g + 1 := ⟨g' - 1, by omega⟩
  exact ⟨s', u', a1, by rw [b2, B (M - N) N f' s' u' rfl (by omega) hNM (by omega) a1], by rw [c2, h4 g1 s' u' a1]⟩
