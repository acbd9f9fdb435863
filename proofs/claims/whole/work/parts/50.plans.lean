/-! plans -/
theorem kp_25 {k nS nT : Nat} {sc : xSC} {sr : xSR} {sl : xSL} (h : xInv k 0 nS nT sc sr) : xGood (k + 1) (fC_25 nS nT sc sr sl) := by
  sorry
theorem kp_26 {k nS nT : Nat} {sc : xSC} {sr : xSR} {sl : xSL} (h : xInv k 0 nS nT sc sr) : xGood (k + 1) (fC_26 nS nT sc sr sl) := by
  sorry
theorem kp_28 {k nS nT : Nat} {sc : xSC} {sr : xSR} {sl : xSL} (h : xInv k 0 nS nT sc sr) : xGood (k + 1) (fC_28 nS nT sc sr sl) := by
  sorry
theorem kp_27 {k nS nT : Nat} {sc : xSC} {sr : xSR} {sl : xSL} (h : xInv k 0 nS nT sc sr) (a1 : Int32) : xGood (k + 1) (fC_27 nS nT a1 sc sr sl) := by
  sorry
