/-! floats: nothing here is a NaN -/
def gd (f : FP.Core.Fmt) : FP.Core.Datum → Prop
  | .nan => False
  | .inf _ => True
  | .fin _ c q => c < 2 ^ f.p ∧ q ≤ FP.Core.Fmt.qmax f
theorem gd_b {f : FP.Core.Fmt} {s : Bool} {c : Nat} {q : Int} (h : c < 2 ^ f.p) : gd f (FP.Core.bound f s c q) := by
  unfold FP.Core.bound
  split
  · rename_i g
    exact ⟨h, g⟩
  · trivial
theorem gd_r64 {s : Bool} {n m : Nat} {e : Int} : gd FP.Core.b64 (FP.Core.roundRatio FP.Core.b64 s n m e) := by
  unfold FP.Core.roundRatio
  split
  · exact ⟨by decide, by decide⟩
  · unfold FP.Core.roundAt FP.Core.settle
    split
    · rename_i g
      exact gd_b g
    · exact gd_b (by decide)
theorem gd_r32 {s : Bool} {n m : Nat} {e : Int} : gd FP.Core.b32 (FP.Core.roundRatio FP.Core.b32 s n m e) := by
  unfold FP.Core.roundRatio
  split
  · exact ⟨by decide, by decide⟩
  · unfold FP.Core.roundAt FP.Core.settle
    split
    · rename_i g
      exact gd_b g
    · exact gd_b (by decide)
