/-! the pure half, from all cases -/
theorem it_g {c : Prop} [Decidable c] {k : Nat} {a b : Option xR5} (ha : c → xGood k a) (hb : ¬ c → xGood k b) : xGood k (if c then a else b) := by
  split
  · exact ha ‹_›
  · exact hb ‹_›
theorem kp_all {k nS nT : Nat} {sc : xSC} {sr : xSR} {sl : xSL} (h : xInv k 0 nS nT sc sr) (hk : k < 512) (v a1 a2 a3 a4 a5 : Int32) : xGood (k + 1) (fLaw1 nS nT v a1 a2 a3 a4 a5 sc sr sl) := by
  rw [fLaw1]
  refine it_g (fun _ => kp_0 h a1 a2 a3) (fun _ => ?_)
  refine it_g (fun _ => kp_1 h a1 a2) (fun _ => ?_)
  refine it_g (fun _ => kp_2 h a1 a2 a3) (fun _ => ?_)
  refine it_g (fun _ => kp_3 h a1 a2 a3 a4 a5) (fun _ => ?_)
  refine it_g (fun _ => kp_4 h a1 a2 a3) (fun _ => ?_)
  refine it_g (fun _ => kp_5 h a1 a2 a3) (fun _ => ?_)
  refine it_g (fun _ => kp_6 h a1 a2) (fun _ => ?_)
  refine it_g (fun _ => kp_7 h a1 a2) (fun _ => ?_)
  refine it_g (fun _ => kp_8 h a1 a2) (fun _ => ?_)
  refine it_g (fun _ => kp_9 h a1) (fun _ => ?_)
  refine it_g (fun _ => kp_10 h hk a1) (fun _ => ?_)
  refine it_g (fun _ => kp_11 h) (fun _ => ?_)
  refine it_g (fun _ => kp_12 h a1) (fun _ => ?_)
  refine it_g (fun _ => kp_13 h a1) (fun _ => ?_)
  refine it_g (fun _ => kp_14 h hk a1) (fun _ => ?_)
  refine it_g (fun _ => kp_15 h hk a1) (fun _ => ?_)
  refine it_g (fun _ => kp_16 h) (fun _ => ?_)
  refine it_g (fun _ => kp_17 h) (fun _ => ?_)
  refine it_g (fun _ => kp_18 h) (fun _ => ?_)
  refine it_g (fun _ => kp_19 h a1) (fun _ => ?_)
  refine it_g (fun _ => kp_20 h a1 a2) (fun _ => ?_)
  refine it_g (fun _ => kp_21 h a1 a2) (fun _ => ?_)
  refine it_g (fun _ => kp_22 h a1 a2) (fun _ => ?_)
  refine it_g (fun _ => kp_23 h a1) (fun _ => ?_)
  refine it_g (fun _ => kp_24 h a1) (fun _ => ?_)
  refine it_g (fun _ => kp_25 h) (fun _ => ?_)
  refine it_g (fun _ => kp_26 h) (fun _ => ?_)
  refine it_g (fun _ => kp_27 h a1) (fun _ => ?_)
  refine it_g (fun _ => kp_28 h) (fun _ => ?_)
  refine it_g (fun _ => kp_29 h) (fun _ => ?_)
  refine it_g (fun _ => kp_30 h) (fun _ => ?_)
  refine it_g (fun _ => kp_31 h a1 a2) (fun _ => ?_)
  refine it_g (fun _ => kp_32 h) (fun _ => ?_)
  exact xGood_i h
theorem pure_half : ∃ Inv : Nat → Nat → Nat → xSC → xSR → Prop, xKeeps Inv ∧ Inv 0 0 0 xsc0 xsr0 :=
  ⟨fun k nS nT sc sr => xInv k 0 nS nT sc sr, fun k hk nS nT v a1 a2 a3 a4 a5 sc sr sl h => kp_all h hk v a1 a2 a3 a4 a5, xInv_0⟩
