/-! floats: nothing here is a NaN -/
def gd (f : FP.Core.Fmt) : FP.Core.Datum → Prop
  | .nan => False
  | .inf _ => True
  | .fin _ c q => c < 2 ^ f.p ∧ q ≤ FP.Core.Fmt.qmax f
theorem gd_b {f : FP.Core.Fmt} {s : Bool} {c : Nat} {q : Int} (h : c < 2 ^ f.p) : gd f (FP.Core.bound f s c q) := by
  unfold FP.Core.bound
  split
  · rename_i g
    exact ⟨h, g⟩
  · trivial
theorem gd_r64 {s : Bool} {n m : Nat} {e : Int} : gd FP.Core.b64 (FP.Core.roundRatio FP.Core.b64 s n m e) := by
  unfold FP.Core.roundRatio
  split
  · exact ⟨by decide, by decide⟩
  · unfold FP.Core.roundAt FP.Core.settle
    split
    · rename_i g
      exact gd_b g
    · exact gd_b (by decide)
theorem gd_r32 {s : Bool} {n m : Nat} {e : Int} : gd FP.Core.b32 (FP.Core.roundRatio FP.Core.b32 s n m e) := by
  unfold FP.Core.roundRatio
  split
  · exact ⟨by decide, by decide⟩
  · unfold FP.Core.roundAt FP.Core.settle
    split
    · rename_i g
      exact gd_b g
    · exact gd_b (by decide)
theorem enc64 {d : FP.Core.Datum} (h : gd FP.Core.b64 d) : FP.Core.encode FP.Core.b64 d < 2 ^ 64 ∧ FP.Core.encode FP.Core.b64 d % 2 ^ 63 ≤ 0x7ff0000000000000 := by
  have e1 : FP.Core.Fmt.tails FP.Core.b64 = 4503599627370496 := by decide
  have e2 : FP.Core.Fmt.exps FP.Core.b64 = 2048 := by decide
  have e3 : FP.Core.Fmt.qmin FP.Core.b64 = -1074 := by decide
  have e4 : FP.Core.Fmt.qmax FP.Core.b64 = 971 := by decide
  cases d with
  | nan => exact h.elim
  | inf s =>
    simp only [FP.Core.encode, FP.Core.assemble, e1, e2]
    cases s <;> decide
  | fin s c q =>
    obtain ⟨h1, h2⟩ := h
    have h1 : c < 9007199254740992 := h1
    rw [e4] at h2
    simp only [FP.Core.encode, FP.Core.assemble, e1, e2, e3]
    have hs : s.toNat ≤ 1 := by cases s <;> decide
    have hs : s.toNat = 0 ∨ s.toNat = 1 := by omega
    have hq : (q - -1074).toNat + 1 ≤ 2046 := by omega
    split
    · rcases hs with hs | hs <;> rw [hs] <;> omega
    · rcases hs with hs | hs <;> rw [hs] <;> omega
theorem enc32 {d : FP.Core.Datum} (h : gd FP.Core.b32 d) : FP.Core.encode FP.Core.b32 d < 2 ^ 32 ∧ FP.Core.encode FP.Core.b32 d % 2 ^ 31 ≤ 0x7f800000 := by
  have e1 : FP.Core.Fmt.tails FP.Core.b32 = 8388608 := by decide
  have e2 : FP.Core.Fmt.exps FP.Core.b32 = 256 := by decide
  have e3 : FP.Core.Fmt.qmin FP.Core.b32 = -149 := by decide
  have e4 : FP.Core.Fmt.qmax FP.Core.b32 = 104 := by decide
  cases d with
  | nan => exact h.elim
  | inf s =>
    simp only [FP.Core.encode, FP.Core.assemble, e1, e2]
    cases s <;> decide
  | fin s c q =>
    obtain ⟨h1, h2⟩ := h
    have h1 : c < 16777216 := h1
    rw [e4] at h2
    simp only [FP.Core.encode, FP.Core.assemble, e1, e2, e3]
    have hs : s.toNat ≤ 1 := by cases s <;> decide
    have hs : s.toNat = 0 ∨ s.toNat = 1 := by omega
    have hq : (q - -149).toNat + 1 ≤ 254 := by omega
    split
    · rcases hs with hs | hs <;> rw [hs] <;> omega
    · rcases hs with hs | hs <;> rw [hs] <;> omega
theorem dec64 {n : Nat} (h : n % 2 ^ 63 ≤ 0x7ff0000000000000) : FP.Core.decode FP.Core.b64 n ≠ .nan := by
  have e1 : FP.Core.Fmt.tails FP.Core.b64 = 4503599627370496 := by decide
  have e2 : FP.Core.Fmt.exps FP.Core.b64 = 2048 := by decide
  unfold FP.Core.decode FP.Core.fieldE FP.Core.fieldT
  rw [e1, e2]
  split
  · rw [if_pos (by omega)]
    intro x
    cases x
  · split <;> (intro x; cases x)
theorem dec32 {n : Nat} (h : n % 2 ^ 31 ≤ 0x7f800000) : FP.Core.decode FP.Core.b32 n ≠ .nan := by
  have e1 : FP.Core.Fmt.tails FP.Core.b32 = 8388608 := by decide
  have e2 : FP.Core.Fmt.exps FP.Core.b32 = 256 := by decide
  unfold FP.Core.decode FP.Core.fieldE FP.Core.fieldT
  rw [e1, e2]
  split
  · rw [if_pos (by omega)]
    intro x
    cases x
  · split <;> (intro x; cases x)
theorem xn64_of {n : Nat} (h1 : n < 2 ^ 64) (h2 : n % 2 ^ 63 ≤ 0x7ff0000000000000) : xn64 (UInt64.ofNat n) = true := by
  unfold xn64
  apply decide_eq_true
  rw [UInt64.le_iff_toNat_le, UInt64.toNat_and]
  rw [show (0x7fffffffffffffff : UInt64).toNat = 2 ^ 63 - 1 from rfl, Nat.and_two_pow_sub_one_eq_mod, UInt64.toNat_ofNat_of_lt' h1]
  exact h2
theorem xn32_of {n : Nat} (h1 : n < 2 ^ 32) (h2 : n % 2 ^ 31 ≤ 0x7f800000) : xn32 (UInt32.ofNat n) = true := by
  unfold xn32
  apply decide_eq_true
  rw [UInt32.le_iff_toNat_le, UInt32.toNat_and]
  rw [show (0x7fffffff : UInt32).toNat = 2 ^ 31 - 1 from rfl, Nat.and_two_pow_sub_one_eq_mod, UInt32.toNat_ofNat_of_lt' h1]
  exact h2
/-- the divisors that occur are finite and not zero -/
def xFin (d : FP.Core.Datum) : Bool := match d with | .fin _ c _ => decide (c ≠ 0) | _ => false
theorem div64 : ∀ n : Nat, n < 7 → 1 ≤ n → xFin (FP.Core.decode FP.Core.b64 (FP.Core.fromInt FP.Core.b64 (n : Int))) = true := by decide +kernel
theorem div32 : ∀ n : Nat, n < 301 → 1 ≤ n → xFin (FP.Core.decode FP.Core.b32 (FP.Core.fromInt FP.Core.b32 (n : Int))) = true := by decide +kernel
theorem quo64 {a b : FP.Core.Datum} (ha : a ≠ .nan) (hb : xFin b = true) : gd FP.Core.b64 (FP.Core.quotient FP.Core.b64 a b) := by
  cases b with
  | nan => exact absurd hb (by decide)
  | inf s => exact absurd hb (by simp [xFin])
  | fin t d r =>
    have hd : ¬ d = 0 := by simpa [xFin] using hb
    cases a with
    | nan => exact absurd rfl ha
    | inf s => trivial
    | fin s c q =>
      simp only [FP.Core.quotient, hd, if_false]
      exact gd_r64
theorem quo32 {a b : FP.Core.Datum} (ha : a ≠ .nan) (hb : xFin b = true) : gd FP.Core.b32 (FP.Core.quotient FP.Core.b32 a b) := by
  cases b with
  | nan => exact absurd hb (by decide)
  | inf s => exact absurd hb (by simp [xFin])
  | fin t d r =>
    have hd : ¬ d = 0 := by simpa [xFin] using hb
    cases a with
    | nan => exact absurd rfl ha
    | inf s => trivial
    | fin s c q =>
      simp only [FP.Core.quotient, hd, if_false]
      exact gd_r32
theorem i2d_n (x : Int32) : FP.Core.decode FP.Core.b64 (FP.i2d x).toNat ≠ .nan := by
  have g : FP.Core.fromInt FP.Core.b64 x.toInt < 2 ^ 64 ∧ FP.Core.fromInt FP.Core.b64 x.toInt % 2 ^ 63 ≤ 0x7ff0000000000000 := enc64 (d := FP.Core.round FP.Core.b64 (FP.Core.ofInt x.toInt)) gd_r64
  show FP.Core.decode FP.Core.b64 (UInt64.ofNat (FP.Core.fromInt FP.Core.b64 x.toInt)).toNat ≠ .nan
  rw [UInt64.toNat_ofNat_of_lt' g.1]
  exact dec64 g.2
theorem i2f_n (x : Int32) : FP.Core.decode FP.Core.b32 (FP.i2f x).toNat ≠ .nan := by
  have g : FP.Core.fromInt FP.Core.b32 x.toInt < 2 ^ 32 ∧ FP.Core.fromInt FP.Core.b32 x.toInt % 2 ^ 31 ≤ 0x7f800000 := enc32 (d := FP.Core.round FP.Core.b32 (FP.Core.ofInt x.toInt)) gd_r32
  show FP.Core.decode FP.Core.b32 (UInt32.ofNat (FP.Core.fromInt FP.Core.b32 x.toInt)).toNat ≠ .nan
  rw [UInt32.toNat_ofNat_of_lt' g.1]
  exact dec32 g.2
theorem i2d_f {n : Nat} (h1 : 1 ≤ n) (h2 : n < 7) : xFin (FP.Core.decode FP.Core.b64 (FP.i2d (nI n)).toNat) = true := by
  have g : FP.Core.fromInt FP.Core.b64 (n : Int) < 2 ^ 64 ∧ FP.Core.fromInt FP.Core.b64 (n : Int) % 2 ^ 63 ≤ 0x7ff0000000000000 := enc64 (d := FP.Core.round FP.Core.b64 (FP.Core.ofInt (n : Int))) gd_r64
  show xFin (FP.Core.decode FP.Core.b64 (UInt64.ofNat (FP.Core.fromInt FP.Core.b64 (nI n).toInt)).toNat) = true
  rw [nI_toI (by omega), UInt64.toNat_ofNat_of_lt' g.1]
  exact div64 n h2 h1
theorem i2f_f {n : Nat} (h1 : 1 ≤ n) (h2 : n < 301) : xFin (FP.Core.decode FP.Core.b32 (FP.i2f (nI n)).toNat) = true := by
  have g : FP.Core.fromInt FP.Core.b32 (n : Int) < 2 ^ 32 ∧ FP.Core.fromInt FP.Core.b32 (n : Int) % 2 ^ 31 ≤ 0x7f800000 := enc32 (d := FP.Core.round FP.Core.b32 (FP.Core.ofInt (n : Int))) gd_r32
  show xFin (FP.Core.decode FP.Core.b32 (UInt32.ofNat (FP.Core.fromInt FP.Core.b32 (nI n).toInt)).toNat) = true
  rw [nI_toI (by omega), UInt32.toNat_ofNat_of_lt' g.1]
  exact div32 n h2 h1
theorem ddiv_n (x : Int32) {n : Nat} (h1 : 1 ≤ n) (h2 : n < 7) : xn64 (FP.ddiv (FP.i2d x) (FP.i2d (nI n))) = true := by
  have g := enc64 (quo64 (i2d_n x) (i2d_f h1 h2))
  exact xn64_of g.1 g.2
theorem fdiv_n (x : Int32) {n : Nat} (h1 : 1 ≤ n) (h2 : n < 301) : xn32 (FP.fdiv (FP.i2f x) (FP.i2f (nI n))) = true ∧ xn64 (FP.f2d (FP.fdiv (FP.i2f x) (FP.i2f (nI n)))) = true ∧ FP.dcmp (FP.f2d (FP.fdiv (FP.i2f x) (FP.i2f (nI n)))) (FP.f2d (FP.fdiv (FP.i2f x) (FP.i2f (nI n)))) = some .eq := by
  have g : FP.Core.div FP.Core.b32 (FP.i2f x).toNat (FP.i2f (nI n)).toNat < 2 ^ 32 ∧ FP.Core.div FP.Core.b32 (FP.i2f x).toNat (FP.i2f (nI n)).toNat % 2 ^ 31 ≤ 0x7f800000 := enc32 (quo32 (i2f_n x) (i2f_f h1 h2))
  have hd : FP.Core.decode FP.Core.b32 (FP.fdiv (FP.i2f x) (FP.i2f (nI n))).toNat ≠ .nan := by
    show FP.Core.decode FP.Core.b32 (UInt32.ofNat (FP.Core.div FP.Core.b32 (FP.i2f x).toNat (FP.i2f (nI n)).toNat)).toNat ≠ .nan
    rw [UInt32.toNat_ofNat_of_lt' g.1]
    exact dec32 g.2
  obtain ⟨v, hv⟩ : ∃ v, v = FP.fdiv (FP.i2f x) (FP.i2f (nI n)) := ⟨_, rfl⟩
  refine ⟨xn32_of g.1 g.2, ?_⟩
  rw [← hv] at hd ⊢
  have hn : FP.Core.fIsNaN v = false := by
    show decide (FP.Core.decode FP.Core.b32 v.toNat = .nan) = false
    exact decide_eq_false hd
  have hf : FP.f2d v = FP.Core.f2d v := by
    unfold FP.f2d
    rw [hn]
    rfl
  have hg : gd FP.Core.b64 (FP.Core.round FP.Core.b64 (FP.Core.decode FP.Core.b32 v.toNat)) := by
    cases hq : FP.Core.decode FP.Core.b32 v.toNat with
    | nan => exact absurd hq hd
    | inf s => trivial
    | fin s c q => exact gd_r64
  have g2 : FP.Core.convert FP.Core.b32 FP.Core.b64 v.toNat < 2 ^ 64 ∧ FP.Core.convert FP.Core.b32 FP.Core.b64 v.toNat % 2 ^ 63 ≤ 0x7ff0000000000000 := enc64 hg
  rw [hf]
  refine ⟨xn64_of g2.1 g2.2, ?_⟩
  have hw : FP.Core.decode FP.Core.b64 (FP.Core.f2d v).toNat ≠ .nan := by
    show FP.Core.decode FP.Core.b64 (UInt64.ofNat (FP.Core.convert FP.Core.b32 FP.Core.b64 v.toNat)).toNat ≠ .nan
    rw [UInt64.toNat_ofNat_of_lt' g2.1]
    exact dec64 g2.2
  show FP.Core.order (FP.Core.decode FP.Core.b64 (FP.Core.f2d v).toNat) (FP.Core.decode FP.Core.b64 (FP.Core.f2d v).toNat) = some .eq
  cases hq : FP.Core.decode FP.Core.b64 (FP.Core.f2d v).toNat with
  | nan => exact absurd hq hw
  | inf s => simp [FP.Core.order, compare, compareOfLessAndEq]
  | fin s c q => simp [FP.Core.order, compare, compareOfLessAndEq]
