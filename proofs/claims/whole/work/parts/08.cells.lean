/-! what each kind of cell holds, and what a store makes of the state (written by wip/gen/cells.py) -/
abbrev xAm (k : Nat) : Prop := k = 5 ∨ k = 6 ∨ k = 7 ∨ k = 8
abbrev xMv (k : Nat) : Prop := k = 9 ∨ k = 10
theorem xce_0 {G : xG} {sh : xSh} {sc : xSC} {sr : xSR} {sl : xSL} : xce G sh sc sr sl 0 0 = .inr (7, [.ref (sh.1 1 0), .ref (sh.1 2 0), .ref (sh.1 3 0), .ref (sh.1 10 0), .int (sc.1 0 0 4), .int (sc.1 0 0 5), .int (sc.1 0 0 6), .long sc.2]) := rfl
theorem xce_3 {G : xG} {sh : xSh} {sc : xSC} {sr : xSR} {sl : xSL} : xce G sh sc sr sl 3 0 = .inr (4, [.int (sc.1 3 0 0), .int (sc.1 3 0 1)]) := rfl
theorem xce_4 {G : xG} {sh : xSh} {sc : xSC} {sr : xSR} {sl : xSL} {j : Nat} : xce G sh sc sr sl 4 j = .inr (5, [.ref (sh.1 5 j), .ref (sh.1 6 j), .int (sc.1 4 j 2), .ref (sh.1 7 j), .int (sc.1 4 j 4)]) := rfl
theorem xce_11 {G : xG} {sh : xSh} {sc : xSC} {sr : xSR} {sl : xSL} {j : Nat} : xce G sh sc sr sl 11 j = .inr (6, [.ref (sh.1 8 j), .int (sc.1 11 j 1), .ref (sh.1 9 j), .int (sc.1 11 j 3), .int (sc.1 11 j 4), .int (sc.1 11 j 5), .int (sc.1 11 j 6), .int (sc.1 11 j 7)]) := rfl
theorem xce_12 {G : xG} {sh : xSh} {sc : xSC} {sr : xSR} {sl : xSL} : xce G sh sc sr sl 12 0 = .inr (8, [.int (sr.1 100 0), .ref (sh.1 13 1), .ref (sh.1 13 2), .int (sr.1 103 0), .ref (sh.1 13 4), .ref (sh.1 13 5), .ref (sh.1 13 6), .ref (sh.1 13 7), .ref (sh.1 13 8), .ref (sh.1 13 9), .ref (sh.1 13 10), .ref (sh.1 13 11), .ref (sh.1 13 12), .int (sr.1 113 0), .ref (sh.1 13 14), .ref (sh.1 13 15), .int (sr.1 116 0), .int (sr.1 117 0), .long sr.2, .ref (sh.1 13 19), .ref (sh.1 13 20), .int (sr.1 121 0), .int (sr.1 122 0)]) := rfl
theorem xce_am {G : xG} {sh : xSh} {sc : xSC} {sr : xSR} {sl : xSL} {k j : Nat} (hk : xAm k) : xce G sh sc sr sl k j = .inr (2, [.int (sc.1 k j 0), .int (sc.1 k j 1), .int (sc.1 k j 2)]) := by
  rcases hk with rfl | rfl | rfl | rfl <;> rfl
theorem xce_mv {G : xG} {sh : xSh} {sc : xSC} {sr : xSR} {sl : xSL} {k j : Nat} (hk : xMv k) : xce G sh sc sr sl k j = .inr (3, [.int (sc.1 k j 0), .int (sc.1 k j 1), .int (sc.1 k j 2), .int (sc.1 k j 3)]) := by
  rcases hk with rfl | rfl <;> rfl
set_option maxHeartbeats 2000000 in
theorem xup_0_4 {G : xG} {sh : xSh} {sc : xSC} {sr : xSR} {sl : xSL} {v : Int32} : xu2 (xce G sh sc sr sl) 0 0 (.inr (7, ([.ref (sh.1 1 0), .ref (sh.1 2 0), .ref (sh.1 3 0), .ref (sh.1 10 0), .int (sc.1 0 0 4), .int (sc.1 0 0 5), .int (sc.1 0 0 6), .long sc.2] : List Value).set 4 (.int v))) = xce G sh (xuC sc.1 0 0 4 v, sc.2) sr sl := by
  funext a b
  by_cases h : a = 0
  · subst h
    by_cases hb : b = 0
    · subst hb
      simp [xu2, xce, xuC]
    · simp [xu2, xce, hb]
  · simp [xu2, xce, xuC, h]
set_option maxHeartbeats 2000000 in
theorem xup_0_5 {G : xG} {sh : xSh} {sc : xSC} {sr : xSR} {sl : xSL} {v : Int32} : xu2 (xce G sh sc sr sl) 0 0 (.inr (7, ([.ref (sh.1 1 0), .ref (sh.1 2 0), .ref (sh.1 3 0), .ref (sh.1 10 0), .int (sc.1 0 0 4), .int (sc.1 0 0 5), .int (sc.1 0 0 6), .long sc.2] : List Value).set 5 (.int v))) = xce G sh (xuC sc.1 0 0 5 v, sc.2) sr sl := by
  funext a b
  by_cases h : a = 0
  · subst h
    by_cases hb : b = 0
    · subst hb
      simp [xu2, xce, xuC]
    · simp [xu2, xce, hb]
  · simp [xu2, xce, xuC, h]
set_option maxHeartbeats 2000000 in
theorem xup_0_6 {G : xG} {sh : xSh} {sc : xSC} {sr : xSR} {sl : xSL} {v : Int32} : xu2 (xce G sh sc sr sl) 0 0 (.inr (7, ([.ref (sh.1 1 0), .ref (sh.1 2 0), .ref (sh.1 3 0), .ref (sh.1 10 0), .int (sc.1 0 0 4), .int (sc.1 0 0 5), .int (sc.1 0 0 6), .long sc.2] : List Value).set 6 (.int v))) = xce G sh (xuC sc.1 0 0 6 v, sc.2) sr sl := by
  funext a b
  by_cases h : a = 0
  · subst h
    by_cases hb : b = 0
    · subst hb
      simp [xu2, xce, xuC]
    · simp [xu2, xce, hb]
  · simp [xu2, xce, xuC, h]
set_option maxHeartbeats 2000000 in
theorem xup_0_7 {G : xG} {sh : xSh} {sc : xSC} {sr : xSR} {sl : xSL} {v : Int64} : xu2 (xce G sh sc sr sl) 0 0 (.inr (7, ([.ref (sh.1 1 0), .ref (sh.1 2 0), .ref (sh.1 3 0), .ref (sh.1 10 0), .int (sc.1 0 0 4), .int (sc.1 0 0 5), .int (sc.1 0 0 6), .long sc.2] : List Value).set 7 (.long v))) = xce G sh (sc.1, v) sr sl := by
  funext a b
  by_cases h : a = 0
  · subst h
    by_cases hb : b = 0
    · subst hb
      simp [xu2, xce, xuC]
    · simp [xu2, xce, hb]
  · simp [xu2, xce, xuC, h]
set_option maxHeartbeats 2000000 in
theorem xup_3_0 {G : xG} {sh : xSh} {sc : xSC} {sr : xSR} {sl : xSL} {v : Int32} : xu2 (xce G sh sc sr sl) 3 0 (.inr (4, ([.int (sc.1 3 0 0), .int (sc.1 3 0 1)] : List Value).set 0 (.int v))) = xce G sh (xuC sc.1 3 0 0 v, sc.2) sr sl := by
  funext a b
  by_cases h : a = 3
  · subst h
    by_cases hb : b = 0
    · subst hb
      simp [xu2, xce, xuC]
    · simp [xu2, xce, hb]
  · simp [xu2, xce, xuC, h]
set_option maxHeartbeats 2000000 in
theorem xup_3_1 {G : xG} {sh : xSh} {sc : xSC} {sr : xSR} {sl : xSL} {v : Int32} : xu2 (xce G sh sc sr sl) 3 0 (.inr (4, ([.int (sc.1 3 0 0), .int (sc.1 3 0 1)] : List Value).set 1 (.int v))) = xce G sh (xuC sc.1 3 0 1 v, sc.2) sr sl := by
  funext a b
  by_cases h : a = 3
  · subst h
    by_cases hb : b = 0
    · subst hb
      simp [xu2, xce, xuC]
    · simp [xu2, xce, hb]
  · simp [xu2, xce, xuC, h]
set_option maxHeartbeats 2000000 in
theorem xup_4_2 {G : xG} {sh : xSh} {sc : xSC} {sr : xSR} {sl : xSL} {j : Nat} {v : Int32} : xu2 (xce G sh sc sr sl) 4 j (.inr (5, ([.ref (sh.1 5 j), .ref (sh.1 6 j), .int (sc.1 4 j 2), .ref (sh.1 7 j), .int (sc.1 4 j 4)] : List Value).set 2 (.int v))) = xce G sh (xuC sc.1 4 j 2 v, sc.2) sr sl := by
  funext a b
  by_cases h : a = 4
  · subst h
    by_cases hb : b = j
    · subst hb
      simp [xu2, xce, xuC]
    · simp [xu2, xce, xuC, hb]
  · simp [xu2, xce, xuC, h]
set_option maxHeartbeats 2000000 in
theorem xup_4_4 {G : xG} {sh : xSh} {sc : xSC} {sr : xSR} {sl : xSL} {j : Nat} {v : Int32} : xu2 (xce G sh sc sr sl) 4 j (.inr (5, ([.ref (sh.1 5 j), .ref (sh.1 6 j), .int (sc.1 4 j 2), .ref (sh.1 7 j), .int (sc.1 4 j 4)] : List Value).set 4 (.int v))) = xce G sh (xuC sc.1 4 j 4 v, sc.2) sr sl := by
  funext a b
  by_cases h : a = 4
  · subst h
    by_cases hb : b = j
    · subst hb
      simp [xu2, xce, xuC]
    · simp [xu2, xce, xuC, hb]
  · simp [xu2, xce, xuC, h]
set_option maxHeartbeats 2000000 in
theorem xup_11_3 {G : xG} {sh : xSh} {sc : xSC} {sr : xSR} {sl : xSL} {j : Nat} {v : Int32} : xu2 (xce G sh sc sr sl) 11 j (.inr (6, ([.ref (sh.1 8 j), .int (sc.1 11 j 1), .ref (sh.1 9 j), .int (sc.1 11 j 3), .int (sc.1 11 j 4), .int (sc.1 11 j 5), .int (sc.1 11 j 6), .int (sc.1 11 j 7)] : List Value).set 3 (.int v))) = xce G sh (xuC sc.1 11 j 3 v, sc.2) sr sl := by
  funext a b
  by_cases h : a = 11
  · subst h
    by_cases hb : b = j
    · subst hb
      simp [xu2, xce, xuC]
    · simp [xu2, xce, xuC, hb]
  · simp [xu2, xce, xuC, h]
set_option maxHeartbeats 2000000 in
theorem xup_11_4 {G : xG} {sh : xSh} {sc : xSC} {sr : xSR} {sl : xSL} {j : Nat} {v : Int32} : xu2 (xce G sh sc sr sl) 11 j (.inr (6, ([.ref (sh.1 8 j), .int (sc.1 11 j 1), .ref (sh.1 9 j), .int (sc.1 11 j 3), .int (sc.1 11 j 4), .int (sc.1 11 j 5), .int (sc.1 11 j 6), .int (sc.1 11 j 7)] : List Value).set 4 (.int v))) = xce G sh (xuC sc.1 11 j 4 v, sc.2) sr sl := by
  funext a b
  by_cases h : a = 11
  · subst h
    by_cases hb : b = j
    · subst hb
      simp [xu2, xce, xuC]
    · simp [xu2, xce, xuC, hb]
  · simp [xu2, xce, xuC, h]
set_option maxHeartbeats 2000000 in
theorem xup_11_5 {G : xG} {sh : xSh} {sc : xSC} {sr : xSR} {sl : xSL} {j : Nat} {v : Int32} : xu2 (xce G sh sc sr sl) 11 j (.inr (6, ([.ref (sh.1 8 j), .int (sc.1 11 j 1), .ref (sh.1 9 j), .int (sc.1 11 j 3), .int (sc.1 11 j 4), .int (sc.1 11 j 5), .int (sc.1 11 j 6), .int (sc.1 11 j 7)] : List Value).set 5 (.int v))) = xce G sh (xuC sc.1 11 j 5 v, sc.2) sr sl := by
  funext a b
  by_cases h : a = 11
  · subst h
    by_cases hb : b = j
    · subst hb
      simp [xu2, xce, xuC]
    · simp [xu2, xce, xuC, hb]
  · simp [xu2, xce, xuC, h]
set_option maxHeartbeats 2000000 in
theorem xup_11_6 {G : xG} {sh : xSh} {sc : xSC} {sr : xSR} {sl : xSL} {j : Nat} {v : Int32} : xu2 (xce G sh sc sr sl) 11 j (.inr (6, ([.ref (sh.1 8 j), .int (sc.1 11 j 1), .ref (sh.1 9 j), .int (sc.1 11 j 3), .int (sc.1 11 j 4), .int (sc.1 11 j 5), .int (sc.1 11 j 6), .int (sc.1 11 j 7)] : List Value).set 6 (.int v))) = xce G sh (xuC sc.1 11 j 6 v, sc.2) sr sl := by
  funext a b
  by_cases h : a = 11
  · subst h
    by_cases hb : b = j
    · subst hb
      simp [xu2, xce, xuC]
    · simp [xu2, xce, xuC, hb]
  · simp [xu2, xce, xuC, h]
set_option maxHeartbeats 2000000 in
theorem xup_11_7 {G : xG} {sh : xSh} {sc : xSC} {sr : xSR} {sl : xSL} {j : Nat} {v : Int32} : xu2 (xce G sh sc sr sl) 11 j (.inr (6, ([.ref (sh.1 8 j), .int (sc.1 11 j 1), .ref (sh.1 9 j), .int (sc.1 11 j 3), .int (sc.1 11 j 4), .int (sc.1 11 j 5), .int (sc.1 11 j 6), .int (sc.1 11 j 7)] : List Value).set 7 (.int v))) = xce G sh (xuC sc.1 11 j 7 v, sc.2) sr sl := by
  funext a b
  by_cases h : a = 11
  · subst h
    by_cases hb : b = j
    · subst hb
      simp [xu2, xce, xuC]
    · simp [xu2, xce, xuC, hb]
  · simp [xu2, xce, xuC, h]
set_option maxHeartbeats 2000000 in
theorem xup_12_0 {G : xG} {sh : xSh} {sc : xSC} {sr : xSR} {sl : xSL} {v : Int32} : xu2 (xce G sh sc sr sl) 12 0 (.inr (8, ([.int (sr.1 100 0), .ref (sh.1 13 1), .ref (sh.1 13 2), .int (sr.1 103 0), .ref (sh.1 13 4), .ref (sh.1 13 5), .ref (sh.1 13 6), .ref (sh.1 13 7), .ref (sh.1 13 8), .ref (sh.1 13 9), .ref (sh.1 13 10), .ref (sh.1 13 11), .ref (sh.1 13 12), .int (sr.1 113 0), .ref (sh.1 13 14), .ref (sh.1 13 15), .int (sr.1 116 0), .int (sr.1 117 0), .long sr.2, .ref (sh.1 13 19), .ref (sh.1 13 20), .int (sr.1 121 0), .int (sr.1 122 0)] : List Value).set 0 (.int v))) = xce G sh sc (xuR sr.1 100 0 v, sr.2) sl := by
  funext a b
  by_cases h : a = 12
  · subst h
    by_cases hb : b = 0
    · subst hb
      simp [xu2, xce, xuR]
    · simp [xu2, xce, hb]
  · by_cases hb5 : b < 50
    · have e : ∀ n : Nat, 100 ≤ n → ¬ b = n := fun n hn => by omega
      simp [xu2, xce, xuR, h, e]
    · simp [xu2, xce, xuR, h, hb5]
set_option maxHeartbeats 2000000 in
theorem xup_12_3 {G : xG} {sh : xSh} {sc : xSC} {sr : xSR} {sl : xSL} {v : Int32} : xu2 (xce G sh sc sr sl) 12 0 (.inr (8, ([.int (sr.1 100 0), .ref (sh.1 13 1), .ref (sh.1 13 2), .int (sr.1 103 0), .ref (sh.1 13 4), .ref (sh.1 13 5), .ref (sh.1 13 6), .ref (sh.1 13 7), .ref (sh.1 13 8), .ref (sh.1 13 9), .ref (sh.1 13 10), .ref (sh.1 13 11), .ref (sh.1 13 12), .int (sr.1 113 0), .ref (sh.1 13 14), .ref (sh.1 13 15), .int (sr.1 116 0), .int (sr.1 117 0), .long sr.2, .ref (sh.1 13 19), .ref (sh.1 13 20), .int (sr.1 121 0), .int (sr.1 122 0)] : List Value).set 3 (.int v))) = xce G sh sc (xuR sr.1 103 0 v, sr.2) sl := by
  funext a b
  by_cases h : a = 12
  · subst h
    by_cases hb : b = 0
    · subst hb
      simp [xu2, xce, xuR]
    · simp [xu2, xce, hb]
  · by_cases hb5 : b < 50
    · have e : ∀ n : Nat, 100 ≤ n → ¬ b = n := fun n hn => by omega
      simp [xu2, xce, xuR, h, e]
    · simp [xu2, xce, xuR, h, hb5]
set_option maxHeartbeats 2000000 in
theorem xup_12_13 {G : xG} {sh : xSh} {sc : xSC} {sr : xSR} {sl : xSL} {v : Int32} : xu2 (xce G sh sc sr sl) 12 0 (.inr (8, ([.int (sr.1 100 0), .ref (sh.1 13 1), .ref (sh.1 13 2), .int (sr.1 103 0), .ref (sh.1 13 4), .ref (sh.1 13 5), .ref (sh.1 13 6), .ref (sh.1 13 7), .ref (sh.1 13 8), .ref (sh.1 13 9), .ref (sh.1 13 10), .ref (sh.1 13 11), .ref (sh.1 13 12), .int (sr.1 113 0), .ref (sh.1 13 14), .ref (sh.1 13 15), .int (sr.1 116 0), .int (sr.1 117 0), .long sr.2, .ref (sh.1 13 19), .ref (sh.1 13 20), .int (sr.1 121 0), .int (sr.1 122 0)] : List Value).set 13 (.int v))) = xce G sh sc (xuR sr.1 113 0 v, sr.2) sl := by
  funext a b
  by_cases h : a = 12
  · subst h
    by_cases hb : b = 0
    · subst hb
      simp [xu2, xce, xuR]
    · simp [xu2, xce, hb]
  · by_cases hb5 : b < 50
    · have e : ∀ n : Nat, 100 ≤ n → ¬ b = n := fun n hn => by omega
      simp [xu2, xce, xuR, h, e]
    · simp [xu2, xce, xuR, h, hb5]
set_option maxHeartbeats 2000000 in
theorem xup_12_16 {G : xG} {sh : xSh} {sc : xSC} {sr : xSR} {sl : xSL} {v : Int32} : xu2 (xce G sh sc sr sl) 12 0 (.inr (8, ([.int (sr.1 100 0), .ref (sh.1 13 1), .ref (sh.1 13 2), .int (sr.1 103 0), .ref (sh.1 13 4), .ref (sh.1 13 5), .ref (sh.1 13 6), .ref (sh.1 13 7), .ref (sh.1 13 8), .ref (sh.1 13 9), .ref (sh.1 13 10), .ref (sh.1 13 11), .ref (sh.1 13 12), .int (sr.1 113 0), .ref (sh.1 13 14), .ref (sh.1 13 15), .int (sr.1 116 0), .int (sr.1 117 0), .long sr.2, .ref (sh.1 13 19), .ref (sh.1 13 20), .int (sr.1 121 0), .int (sr.1 122 0)] : List Value).set 16 (.int v))) = xce G sh sc (xuR sr.1 116 0 v, sr.2) sl := by
  funext a b
  by_cases h : a = 12
  · subst h
    by_cases hb : b = 0
    · subst hb
      simp [xu2, xce, xuR]
    · simp [xu2, xce, hb]
  · by_cases hb5 : b < 50
    · have e : ∀ n : Nat, 100 ≤ n → ¬ b = n := fun n hn => by omega
      simp [xu2, xce, xuR, h, e]
    · simp [xu2, xce, xuR, h, hb5]
set_option maxHeartbeats 2000000 in
theorem xup_12_17 {G : xG} {sh : xSh} {sc : xSC} {sr : xSR} {sl : xSL} {v : Int32} : xu2 (xce G sh sc sr sl) 12 0 (.inr (8, ([.int (sr.1 100 0), .ref (sh.1 13 1), .ref (sh.1 13 2), .int (sr.1 103 0), .ref (sh.1 13 4), .ref (sh.1 13 5), .ref (sh.1 13 6), .ref (sh.1 13 7), .ref (sh.1 13 8), .ref (sh.1 13 9), .ref (sh.1 13 10), .ref (sh.1 13 11), .ref (sh.1 13 12), .int (sr.1 113 0), .ref (sh.1 13 14), .ref (sh.1 13 15), .int (sr.1 116 0), .int (sr.1 117 0), .long sr.2, .ref (sh.1 13 19), .ref (sh.1 13 20), .int (sr.1 121 0), .int (sr.1 122 0)] : List Value).set 17 (.int v))) = xce G sh sc (xuR sr.1 117 0 v, sr.2) sl := by
  funext a b
  by_cases h : a = 12
  · subst h
    by_cases hb : b = 0
    · subst hb
      simp [xu2, xce, xuR]
    · simp [xu2, xce, hb]
  · by_cases hb5 : b < 50
    · have e : ∀ n : Nat, 100 ≤ n → ¬ b = n := fun n hn => by omega
      simp [xu2, xce, xuR, h, e]
    · simp [xu2, xce, xuR, h, hb5]
set_option maxHeartbeats 2000000 in
theorem xup_12_18 {G : xG} {sh : xSh} {sc : xSC} {sr : xSR} {sl : xSL} {v : Int64} : xu2 (xce G sh sc sr sl) 12 0 (.inr (8, ([.int (sr.1 100 0), .ref (sh.1 13 1), .ref (sh.1 13 2), .int (sr.1 103 0), .ref (sh.1 13 4), .ref (sh.1 13 5), .ref (sh.1 13 6), .ref (sh.1 13 7), .ref (sh.1 13 8), .ref (sh.1 13 9), .ref (sh.1 13 10), .ref (sh.1 13 11), .ref (sh.1 13 12), .int (sr.1 113 0), .ref (sh.1 13 14), .ref (sh.1 13 15), .int (sr.1 116 0), .int (sr.1 117 0), .long sr.2, .ref (sh.1 13 19), .ref (sh.1 13 20), .int (sr.1 121 0), .int (sr.1 122 0)] : List Value).set 18 (.long v))) = xce G sh sc (sr.1, v) sl := by
  funext a b
  by_cases h : a = 12
  · subst h
    by_cases hb : b = 0
    · subst hb
      simp [xu2, xce, xuR]
    · simp [xu2, xce, hb]
  · by_cases hb5 : b < 50
    · have e : ∀ n : Nat, 100 ≤ n → ¬ b = n := fun n hn => by omega
      simp [xu2, xce, xuR, h, e]
    · simp [xu2, xce, xuR, h, hb5]
set_option maxHeartbeats 2000000 in
theorem xup_12_21 {G : xG} {sh : xSh} {sc : xSC} {sr : xSR} {sl : xSL} {v : Int32} : xu2 (xce G sh sc sr sl) 12 0 (.inr (8, ([.int (sr.1 100 0), .ref (sh.1 13 1), .ref (sh.1 13 2), .int (sr.1 103 0), .ref (sh.1 13 4), .ref (sh.1 13 5), .ref (sh.1 13 6), .ref (sh.1 13 7), .ref (sh.1 13 8), .ref (sh.1 13 9), .ref (sh.1 13 10), .ref (sh.1 13 11), .ref (sh.1 13 12), .int (sr.1 113 0), .ref (sh.1 13 14), .ref (sh.1 13 15), .int (sr.1 116 0), .int (sr.1 117 0), .long sr.2, .ref (sh.1 13 19), .ref (sh.1 13 20), .int (sr.1 121 0), .int (sr.1 122 0)] : List Value).set 21 (.int v))) = xce G sh sc (xuR sr.1 121 0 v, sr.2) sl := by
  funext a b
  by_cases h : a = 12
  · subst h
    by_cases hb : b = 0
    · subst hb
      simp [xu2, xce, xuR]
    · simp [xu2, xce, hb]
  · by_cases hb5 : b < 50
    · have e : ∀ n : Nat, 100 ≤ n → ¬ b = n := fun n hn => by omega
      simp [xu2, xce, xuR, h, e]
    · simp [xu2, xce, xuR, h, hb5]
set_option maxHeartbeats 2000000 in
theorem xup_12_22 {G : xG} {sh : xSh} {sc : xSC} {sr : xSR} {sl : xSL} {v : Int32} : xu2 (xce G sh sc sr sl) 12 0 (.inr (8, ([.int (sr.1 100 0), .ref (sh.1 13 1), .ref (sh.1 13 2), .int (sr.1 103 0), .ref (sh.1 13 4), .ref (sh.1 13 5), .ref (sh.1 13 6), .ref (sh.1 13 7), .ref (sh.1 13 8), .ref (sh.1 13 9), .ref (sh.1 13 10), .ref (sh.1 13 11), .ref (sh.1 13 12), .int (sr.1 113 0), .ref (sh.1 13 14), .ref (sh.1 13 15), .int (sr.1 116 0), .int (sr.1 117 0), .long sr.2, .ref (sh.1 13 19), .ref (sh.1 13 20), .int (sr.1 121 0), .int (sr.1 122 0)] : List Value).set 22 (.int v))) = xce G sh sc (xuR sr.1 122 0 v, sr.2) sl := by
  funext a b
  by_cases h : a = 12
  · subst h
    by_cases hb : b = 0
    · subst hb
      simp [xu2, xce, xuR]
    · simp [xu2, xce, hb]
  · by_cases hb5 : b < 50
    · have e : ∀ n : Nat, 100 ≤ n → ¬ b = n := fun n hn => by omega
      simp [xu2, xce, xuR, h, e]
    · simp [xu2, xce, xuR, h, hb5]
set_option maxHeartbeats 2000000 in
theorem xup_am_0 {G : xG} {sh : xSh} {sc : xSC} {sr : xSR} {sl : xSL} {k j : Nat} (hk : xAm k) {v : Int32} : xu2 (xce G sh sc sr sl) k j (.inr (2, ([.int (sc.1 k j 0), .int (sc.1 k j 1), .int (sc.1 k j 2)] : List Value).set 0 (.int v))) = xce G sh (xuC sc.1 k j 0 v, sc.2) sr sl := by
  funext a b
  by_cases h : a = k
  · subst h
    by_cases hb : b = j
    · subst hb
      rcases hk with rfl | rfl | rfl | rfl <;> simp [xu2, xce, xuC]
    · rcases hk with rfl | rfl | rfl | rfl <;> simp [xu2, xce, xuC, hb]
  · rcases hk with rfl | rfl | rfl | rfl <;> simp [xu2, xce, xuC, h]
set_option maxHeartbeats 2000000 in
theorem xup_am_1 {G : xG} {sh : xSh} {sc : xSC} {sr : xSR} {sl : xSL} {k j : Nat} (hk : xAm k) {v : Int32} : xu2 (xce G sh sc sr sl) k j (.inr (2, ([.int (sc.1 k j 0), .int (sc.1 k j 1), .int (sc.1 k j 2)] : List Value).set 1 (.int v))) = xce G sh (xuC sc.1 k j 1 v, sc.2) sr sl := by
  funext a b
  by_cases h : a = k
  · subst h
    by_cases hb : b = j
    · subst hb
      rcases hk with rfl | rfl | rfl | rfl <;> simp [xu2, xce, xuC]
    · rcases hk with rfl | rfl | rfl | rfl <;> simp [xu2, xce, xuC, hb]
  · rcases hk with rfl | rfl | rfl | rfl <;> simp [xu2, xce, xuC, h]
set_option maxHeartbeats 2000000 in
theorem xup_am_2 {G : xG} {sh : xSh} {sc : xSC} {sr : xSR} {sl : xSL} {k j : Nat} (hk : xAm k) {v : Int32} : xu2 (xce G sh sc sr sl) k j (.inr (2, ([.int (sc.1 k j 0), .int (sc.1 k j 1), .int (sc.1 k j 2)] : List Value).set 2 (.int v))) = xce G sh (xuC sc.1 k j 2 v, sc.2) sr sl := by
  funext a b
  by_cases h : a = k
  · subst h
    by_cases hb : b = j
    · subst hb
      rcases hk with rfl | rfl | rfl | rfl <;> simp [xu2, xce, xuC]
    · rcases hk with rfl | rfl | rfl | rfl <;> simp [xu2, xce, xuC, hb]
  · rcases hk with rfl | rfl | rfl | rfl <;> simp [xu2, xce, xuC, h]
set_option maxHeartbeats 2000000 in
theorem xup_mv_0 {G : xG} {sh : xSh} {sc : xSC} {sr : xSR} {sl : xSL} {k j : Nat} (hk : xMv k) {v : Int32} : xu2 (xce G sh sc sr sl) k j (.inr (3, ([.int (sc.1 k j 0), .int (sc.1 k j 1), .int (sc.1 k j 2), .int (sc.1 k j 3)] : List Value).set 0 (.int v))) = xce G sh (xuC sc.1 k j 0 v, sc.2) sr sl := by
  funext a b
  by_cases h : a = k
  · subst h
    by_cases hb : b = j
    · subst hb
      rcases hk with rfl | rfl <;> simp [xu2, xce, xuC]
    · rcases hk with rfl | rfl <;> simp [xu2, xce, xuC, hb]
  · rcases hk with rfl | rfl <;> simp [xu2, xce, xuC, h]
set_option maxHeartbeats 2000000 in
theorem xup_mv_1 {G : xG} {sh : xSh} {sc : xSC} {sr : xSR} {sl : xSL} {k j : Nat} (hk : xMv k) {v : Int32} : xu2 (xce G sh sc sr sl) k j (.inr (3, ([.int (sc.1 k j 0), .int (sc.1 k j 1), .int (sc.1 k j 2), .int (sc.1 k j 3)] : List Value).set 1 (.int v))) = xce G sh (xuC sc.1 k j 1 v, sc.2) sr sl := by
  funext a b
  by_cases h : a = k
  · subst h
    by_cases hb : b = j
    · subst hb
      rcases hk with rfl | rfl <;> simp [xu2, xce, xuC]
    · rcases hk with rfl | rfl <;> simp [xu2, xce, xuC, hb]
  · rcases hk with rfl | rfl <;> simp [xu2, xce, xuC, h]
set_option maxHeartbeats 2000000 in
theorem xup_mv_2 {G : xG} {sh : xSh} {sc : xSC} {sr : xSR} {sl : xSL} {k j : Nat} (hk : xMv k) {v : Int32} : xu2 (xce G sh sc sr sl) k j (.inr (3, ([.int (sc.1 k j 0), .int (sc.1 k j 1), .int (sc.1 k j 2), .int (sc.1 k j 3)] : List Value).set 2 (.int v))) = xce G sh (xuC sc.1 k j 2 v, sc.2) sr sl := by
  funext a b
  by_cases h : a = k
  · subst h
    by_cases hb : b = j
    · subst hb
      rcases hk with rfl | rfl <;> simp [xu2, xce, xuC]
    · rcases hk with rfl | rfl <;> simp [xu2, xce, xuC, hb]
  · rcases hk with rfl | rfl <;> simp [xu2, xce, xuC, h]
set_option maxHeartbeats 2000000 in
theorem xup_mv_3 {G : xG} {sh : xSh} {sc : xSC} {sr : xSR} {sl : xSL} {k j : Nat} (hk : xMv k) {v : Int32} : xu2 (xce G sh sc sr sl) k j (.inr (3, ([.int (sc.1 k j 0), .int (sc.1 k j 1), .int (sc.1 k j 2), .int (sc.1 k j 3)] : List Value).set 3 (.int v))) = xce G sh (xuC sc.1 k j 3 v, sc.2) sr sl := by
  funext a b
  by_cases h : a = k
  · subst h
    by_cases hb : b = j
    · subst hb
      rcases hk with rfl | rfl <;> simp [xu2, xce, xuC]
    · rcases hk with rfl | rfl <;> simp [xu2, xce, xuC, hb]
  · rcases hk with rfl | rfl <;> simp [xu2, xce, xuC, h]
/-! the pure functions' joints -/
def oG {β : Type} (c : Bool) (a : Option β) : Option β := if c = true then a else none
theorem oG_go {β : Type} {c : Bool} {a : Option β} {r : β} (h : oG c a = some r) : c = true ∧ a = some r := by
  unfold oG at h
  by_cases hc : c = true
  · rw [if_pos hc] at h
    exact ⟨hc, h⟩
  · rw [if_neg hc] at h
    cases h
def oN {β : Type} (o : Option Nat) (a : β) (b : Nat → β) : β := match o with
  | none => a
  | some j => b j
theorem oN_0 {β : Type} {o : Option Nat} {a r : β} {b : Nat → β} (ho : o = none) (h : oN o a b = r) : a = r := by subst ho; exact h
theorem oN_1 {β : Type} {o : Option Nat} {j : Nat} {a r : β} {b : Nat → β} (ho : o = some j) (h : oN o a b = r) : b j = r := by subst ho; exact h
def oB {α β : Type} (x : Option α) (k : α → Option β) : Option β := match x with
  | none => none
  | some a => k a
theorem oB_go {α β : Type} {x : Option α} {k : α → Option β} {r : β} (h : oB x k = some r) : ∃ a, x = some a ∧ k a = some r := by
  cases x with
  | none => cases h
  | some a => exact ⟨a, rfl, h⟩
def oP {α σ β : Type} (x : Option (α × σ)) (k : α → σ → Option β) : Option β := match x with
  | none => none
  | some q => k q.1 q.2
theorem oP_go {α σ β : Type} {x : Option (α × σ)} {k : α → σ → Option β} {r : β} (h : oP x k = some r) : ∃ a s, x = some (a, s) ∧ k a s = some r := by
  cases x with
  | none => cases h
  | some q => exact ⟨q.1, q.2, rfl, h⟩
def oT {α β : Type} (x : Option (String ⊕ α)) (kx : String → Option β) (k : α → Option β) : Option β := match x with
  | none => none
  | some (.inl E) => kx E
  | some (.inr a) => k a
theorem oT_go {α β : Type} {x : Option (String ⊕ α)} {kx : String → Option β} {k : α → Option β} {r : β} (h : oT x kx k = some r) : (∃ a, x = some (.inr a) ∧ k a = some r) ∨ ∃ E, x = some (.inl E) ∧ kx E = some r := by
  rcases x with _ | E | a
  · cases h
  · exact Or.inr ⟨E, rfl, h⟩
  · exact Or.inl ⟨a, rfl, h⟩
def oC {α σ β : Type} (x : Option ((String ⊕ α) × σ)) (kx : String → σ → Option β) (k : α → σ → Option β) : Option β := match x with
  | none => none
  | some (.inl E, s) => kx E s
  | some (.inr a, s) => k a s
theorem oC_go {α σ β : Type} {x : Option ((String ⊕ α) × σ)} {kx : String → σ → Option β} {k : α → σ → Option β} {r : β} (h : oC x kx k = some r) : (∃ a s, x = some (.inr a, s) ∧ k a s = some r) ∨ ∃ E s, x = some (.inl E, s) ∧ kx E s = some r := by
  rcases x with _ | ⟨E | a, s⟩
  · cases h
  · exact Or.inr ⟨E, s, rfl, h⟩
  · exact Or.inl ⟨a, s, rfl, h⟩
theorem if_t {α : Type} {c : Prop} [Decidable c] {a b r : α} (hc : c) (h : (if c then a else b) = r) : a = r := by rw [if_pos hc] at h; exact h
theorem if_f {α : Type} {c : Prop} [Decidable c] {a b r : α} (hc : ¬ c) (h : (if c then a else b) = r) : b = r := by rw [if_neg hc] at h; exact h
def xinb (i : Int32) (n : Nat) : Bool := decide (¬ i < 0) && decide (i.toNatClampNeg < n)
theorem xinb_ok {i : Int32} {n : Nat} (h : xinb i n = true) : vp_in i n := by
  unfold xinb at h
  rw [Bool.and_eq_true] at h
  rintro (q | q)
  · exact of_decide_eq_true h.1 q
  · exact absurd (of_decide_eq_true h.2) (Nat.not_lt.mpr q)
theorem xel_lt {n j : Nat} {i : Int32} (h : xel n i = some j) : j < n := by
  unfold xel at h
  split at h
  · cases h
    assumption
  · cases h
def xnb (ty : FieldType) (v : Int32) : Bool := decide (narrow ty (.int v) = .int v) && fits ty (.int v)
theorem xnb_ok {ty : FieldType} {v : Int32} (h : xnb ty v = true) : narrow ty (.int v) = .int v ∧ fits ty (.int v) = true := by
  unfold xnb at h
  rw [Bool.and_eq_true] at h
  exact ⟨of_decide_eq_true h.1, h.2⟩
def xnz (v : Int32) : Bool := decide (vp_nar .boolean v = v)
theorem xnz_ok {v : Int32} (h : xnz v = true) : vp_nar .boolean v = v := of_decide_eq_true h
def xn32 (r : UInt32) : Bool := decide (r &&& 0x7fffffff ≤ 0x7f800000)
theorem xn32_ok {r : UInt32} (h : xn32 r = true) : vf_n32 r := of_decide_eq_true (p := r &&& 0x7fffffff ≤ 0x7f800000) h
def xn64 (r : UInt64) : Bool := decide (r &&& 0x7fffffffffffffff ≤ 0x7ff0000000000000)
theorem xn64_ok {r : UInt64} (h : xn64 r = true) : vf_n64 r := of_decide_eq_true (p := r &&& 0x7fffffffffffffff ≤ 0x7ff0000000000000) h
theorem xsw_out3 {x : Int32} (h0 : ¬ x = 0) (h1 : ¬ x = 1) (h2 : ¬ x = 2) : x.toInt < 0 ∨ 2 < x.toInt := by
  rcases Int.lt_or_le x.toInt 0 with h | h
  · exact Or.inl h
  · right
    have e0 : x.toInt ≠ 0 := fun e => h0 (Int32.toInt_inj.mp (by rw [e]; rfl))
    have e1 : x.toInt ≠ 1 := fun e => h1 (Int32.toInt_inj.mp (by rw [e]; rfl))
    have e2 : x.toInt ≠ 2 := fun e => h2 (Int32.toInt_inj.mp (by rw [e]; rfl))
    omega
/-! answers as the machine has them -/
def xvI (r : String ⊕ Int32) : String ⊕ Option Value := match r with | .inl E => .inl E | .inr v => .inr (some (.int v))
def xvL (r : String ⊕ Int64) : String ⊕ Option Value := match r with | .inl E => .inl E | .inr v => .inr (some (.long v))
def xvF (r : String ⊕ UInt32) : String ⊕ Option Value := match r with | .inl E => .inl E | .inr v => .inr (some (.float v))
def xvD (r : String ⊕ UInt64) : String ⊕ Option Value := match r with | .inl E => .inl E | .inr v => .inr (some (.double v))
def xvU (r : String ⊕ Unit) : String ⊕ Option Value := match r with | .inl E => .inl E | .inr _ => .inr none
def xvR (sh : xSh) (k : Nat) (r : String ⊕ Nat) : String ⊕ Option Value := match r with | .inl E => .inl E | .inr j => .inr (some (.ref (sh.1 k j)))
def xvO (sh : xSh) (k : Nat) (r : String ⊕ Option Nat) : String ⊕ Option Value := match r with | .inl E => .inl E | .inr o => .inr (some (va_rf (Option.map (fun q => sh.1 k q) o)))

theorem xuX0 : ∀ w ∈ u_ws RX0 TX0 3, w ∈ xB := fun w h => List.mem_filter.mpr ⟨inX0 w h, List.all_eq_true.mp (by decide +kernel : (u_ws RX0 TX0 3).all goodWord = true) w h⟩
theorem xuX1 : ∀ w ∈ u_ws RX1 TX1 4, w ∈ xB := fun w h => List.mem_filter.mpr ⟨inX1 w h, List.all_eq_true.mp (by decide +kernel : (u_ws RX1 TX1 4).all goodWord = true) w h⟩
theorem xuX2 : ∀ w ∈ u_ws RX2 TX2 2, w ∈ xB := fun w h => List.mem_filter.mpr ⟨inX2 w h, List.all_eq_true.mp (by decide +kernel : (u_ws RX2 TX2 2).all goodWord = true) w h⟩
theorem xuX3 : ∀ w ∈ u_ws RX3 TX3 5, w ∈ xB := fun w h => List.mem_filter.mpr ⟨inX3 w h, List.all_eq_true.mp (by decide +kernel : (u_ws RX3 TX3 5).all goodWord = true) w h⟩
theorem xuX4 : ∀ w ∈ u_ws RX4 TX4 8, w ∈ xB := fun w h => List.mem_filter.mpr ⟨inX4 w h, List.all_eq_true.mp (by decide +kernel : (u_ws RX4 TX4 8).all goodWord = true) w h⟩
theorem xuX5 : ∀ w ∈ u_ws RX5 TX5 8, w ∈ xB := fun w h => List.mem_filter.mpr ⟨inX5 w h, List.all_eq_true.mp (by decide +kernel : (u_ws RX5 TX5 8).all goodWord = true) w h⟩
theorem xuX6 : ∀ w ∈ u_ws RX6 TX6 23, w ∈ xB := fun w h => List.mem_filter.mpr ⟨inX6 w h, List.all_eq_true.mp (by decide +kernel : (u_ws RX6 TX6 23).all goodWord = true) w h⟩
theorem xh_47 : ∀ w ∈ (vx_atS RX5 47 "java/lang/IllegalStateException" ["java/lang/RuntimeException", "java/lang/Exception"]).filter goodWord, w ∈ xB := fun w h => List.mem_filter.mpr ⟨(by decide +kernel : ∀ w ∈ (vx_atS RX5 47 "java/lang/IllegalStateException" ["java/lang/RuntimeException", "java/lang/Exception"]).filter goodWord, w ∈ lw_tbl) w h, (List.mem_filter.mp h).2⟩
theorem xb_47 : ∀ w ∈ (vx_atS RX5 47 "java/lang/IllegalStateException" ["java/lang/RuntimeException", "java/lang/Exception"]).filter (fun w => !goodWord w), w ∈ xnw := by decide +kernel
theorem xg_47 : ∀ w ∈ Cond.classLink RX5 43 "java/lang/IllegalStateException" :: Cond.initialized "java/lang/IllegalStateException" :: vx_atS RX5 47 "java/lang/IllegalStateException" ["java/lang/RuntimeException", "java/lang/Exception"], vx_ot w = true := by decide +kernel
theorem xh_86 : ∀ w ∈ (vx_atS RX5 86 "java/lang/UnsupportedOperationException" ["java/lang/RuntimeException", "java/lang/Exception"]).filter goodWord, w ∈ xB := fun w h => List.mem_filter.mpr ⟨(by decide +kernel : ∀ w ∈ (vx_atS RX5 86 "java/lang/UnsupportedOperationException" ["java/lang/RuntimeException", "java/lang/Exception"]).filter goodWord, w ∈ lw_tbl) w h, (List.mem_filter.mp h).2⟩
theorem xb_86 : ∀ w ∈ (vx_atS RX5 86 "java/lang/UnsupportedOperationException" ["java/lang/RuntimeException", "java/lang/Exception"]).filter (fun w => !goodWord w), w ∈ xnw := by decide +kernel
theorem xg_86 : ∀ w ∈ Cond.classLink RX5 82 "java/lang/UnsupportedOperationException" :: Cond.initialized "java/lang/UnsupportedOperationException" :: vx_atS RX5 86 "java/lang/UnsupportedOperationException" ["java/lang/RuntimeException", "java/lang/Exception"], vx_ot w = true := by decide +kernel
theorem xh_120 : ∀ w ∈ (vx_atS RX5 120 "java/lang/IllegalArgumentException" ["java/lang/RuntimeException", "java/lang/Exception"]).filter goodWord, w ∈ xB := fun w h => List.mem_filter.mpr ⟨(by decide +kernel : ∀ w ∈ (vx_atS RX5 120 "java/lang/IllegalArgumentException" ["java/lang/RuntimeException", "java/lang/Exception"]).filter goodWord, w ∈ lw_tbl) w h, (List.mem_filter.mp h).2⟩
theorem xb_120 : ∀ w ∈ (vx_atS RX5 120 "java/lang/IllegalArgumentException" ["java/lang/RuntimeException", "java/lang/Exception"]).filter (fun w => !goodWord w), w ∈ xnw := by decide +kernel
theorem xg_120 : ∀ w ∈ Cond.classLink RX5 116 "java/lang/IllegalArgumentException" :: Cond.initialized "java/lang/IllegalArgumentException" :: vx_atS RX5 120 "java/lang/IllegalArgumentException" ["java/lang/RuntimeException", "java/lang/Exception"], vx_ot w = true := by decide +kernel
theorem xh_274 : ∀ w ∈ (vx_atS RX5 274 "java/lang/ArithmeticException" ["java/lang/RuntimeException", "java/lang/Exception"]).filter goodWord, w ∈ xB := fun w h => List.mem_filter.mpr ⟨(by decide +kernel : ∀ w ∈ (vx_atS RX5 274 "java/lang/ArithmeticException" ["java/lang/RuntimeException", "java/lang/Exception"]).filter goodWord, w ∈ lw_tbl) w h, (List.mem_filter.mp h).2⟩
theorem xb_274 : ∀ w ∈ (vx_atS RX5 274 "java/lang/ArithmeticException" ["java/lang/RuntimeException", "java/lang/Exception"]).filter (fun w => !goodWord w), w ∈ xnw := by decide +kernel
theorem xg_274 : ∀ w ∈ Cond.classLink RX5 270 "java/lang/ArithmeticException" :: Cond.initialized "java/lang/ArithmeticException" :: vx_atS RX5 274 "java/lang/ArithmeticException" ["java/lang/RuntimeException", "java/lang/Exception"], vx_ot w = true := by decide +kernel
theorem xh_281 : ∀ w ∈ (vx_atS RX5 281 "java/lang/IndexOutOfBoundsException" ["java/lang/RuntimeException", "java/lang/Exception"]).filter goodWord, w ∈ xB := fun w h => List.mem_filter.mpr ⟨(by decide +kernel : ∀ w ∈ (vx_atS RX5 281 "java/lang/IndexOutOfBoundsException" ["java/lang/RuntimeException", "java/lang/Exception"]).filter goodWord, w ∈ lw_tbl) w h, (List.mem_filter.mp h).2⟩
theorem xb_281 : ∀ w ∈ (vx_atS RX5 281 "java/lang/IndexOutOfBoundsException" ["java/lang/RuntimeException", "java/lang/Exception"]).filter (fun w => !goodWord w), w ∈ xnw := by decide +kernel
theorem xg_281 : ∀ w ∈ Cond.classLink RX5 277 "java/lang/IndexOutOfBoundsException" :: Cond.initialized "java/lang/IndexOutOfBoundsException" :: vx_atS RX5 281 "java/lang/IndexOutOfBoundsException" ["java/lang/RuntimeException", "java/lang/Exception"], vx_ot w = true := by decide +kernel

