/-! THE WORLD OF THE RUN: every cell that the law makes, by a kind and a number; the class's state, the reference's state, the law's two arrays. -/
/-- the class: what it holds, by kind, number and slot; hoursOverSoFar -/
abbrev xSC : Type := (Nat → Nat → Nat → Int32) × Int64
/-- the reference: what it holds, by slot and place; over -/
abbrev xSR : Type := (Nat → Nat → Int32) × Int64
/-- the law's arrays -/
abbrev xSL : Type := Int64 × UInt64
/-- the shape: addresses by kind and number, how many shards, how many tenants -/
abbrev xSh : Type := (Nat → Nat → Nat) × Nat × Nat
/-- classes, first address of the run, the arrays' classes -/
abbrev xG : Type := va_G × Nat × (Nat → ClassId)
def xA (G : xG) : Nat → Prop := fun q => G.2.1 ≤ q
def xtys (G : xG) : List (ClassId × FieldType) := [(G.2.2 0, .int), (G.2.2 1, .boolean), (G.2.2 2, .object "TenantPlacement$Shard"), (G.2.2 3, .object "TenantPlacement$Tenant"), (G.2.2 4, .long), (G.2.2 5, .double)]
def xlen (j : Nat) : Nat := if j = 1 then 12 else if j = 2 then 4 else if j = 4 then 18 else 6
/-- what lies in a cell -/
def xce (G : xG) (sh : xSh) (sc : xSC) (sr : xSR) (sl : xSL) : Nat → Nat → va_E := fun k j =>
  if k = 0 ∧ j = 0 then .inr (7, [.ref (sh.1 1 0), .ref (sh.1 2 0), .ref (sh.1 3 0), .ref (sh.1 10 0), .int (sc.1 0 0 4), .int (sc.1 0 0 5), .int (sc.1 0 0 6), .long sc.2])
  else if k = 1 then .inl (G.2.2 2, 4, .inr (.inr (.inr (.inr (fun i => if i < sh.2.1 then some (sh.1 4 i) else none)))))
  else if k = 2 then .inl (G.2.2 3, 6, .inr (.inr (.inr (.inr (fun i => if i < sh.2.2 then some (sh.1 11 i) else none)))))
  else if k = 3 ∧ j = 0 then .inr (4, [.int (sc.1 3 0 0), .int (sc.1 3 0 1)])
  else if k = 4 then .inr (5, [.ref (sh.1 5 j), .ref (sh.1 6 j), .int (sc.1 4 j 2), .ref (sh.1 7 j), .int (sc.1 4 j 4)])
  else if k = 5 ∨ k = 6 ∨ k = 7 ∨ k = 8 then .inr (2, [.int (sc.1 k j 0), .int (sc.1 k j 1), .int (sc.1 k j 2)])
  else if k = 9 ∨ k = 10 then .inr (3, [.int (sc.1 k j 0), .int (sc.1 k j 1), .int (sc.1 k j 2), .int (sc.1 k j 3)])
  else if k = 11 then .inr (6, [.ref (sh.1 8 j), .int (sc.1 11 j 1), .ref (sh.1 9 j), .int (sc.1 11 j 3), .int (sc.1 11 j 4), .int (sc.1 11 j 5), .int (sc.1 11 j 6), .int (sc.1 11 j 7)])
  else if k = 12 ∧ j = 0 then .inr (8, [.int (sr.1 100 0), .ref (sh.1 13 1), .ref (sh.1 13 2), .int (sr.1 103 0), .ref (sh.1 13 4), .ref (sh.1 13 5), .ref (sh.1 13 6), .ref (sh.1 13 7), .ref (sh.1 13 8), .ref (sh.1 13 9), .ref (sh.1 13 10), .ref (sh.1 13 11), .ref (sh.1 13 12), .int (sr.1 113 0), .ref (sh.1 13 14), .ref (sh.1 13 15), .int (sr.1 116 0), .int (sr.1 117 0), .long sr.2, .ref (sh.1 13 19), .ref (sh.1 13 20), .int (sr.1 121 0), .int (sr.1 122 0)])
  else if k = 13 ∧ j < 50 then .inl (if j = 2 then G.2.2 1 else G.2.2 0, xlen j, .inl (fun i => sr.1 j i))
  else if k = 14 ∧ j = 0 then .inl (G.2.2 4, 1, .inr (.inl (fun i => if i = 0 then sl.1 else 0)))
  else if k = 15 ∧ j = 0 then .inl (G.2.2 5, 1, .inr (.inr (.inr (.inl (fun i => if i = 0 then sl.2 else 0)))))
  else .inr (0, [])
def xfix : List (Nat × Nat) := [(0, 0), (1, 0), (2, 0), (3, 0), (10, 0), (12, 0), (13, 1), (13, 2), (13, 4), (13, 5), (13, 6), (13, 7), (13, 8), (13, 9), (13, 10), (13, 11), (13, 12), (13, 14), (13, 15), (13, 19), (13, 20), (14, 0), (15, 0)]
def xixS (n : Nat) : List (Nat × Nat) := (List.range n).flatMap (fun j => [(4, j), (5, j), (6, j), (7, j)])
def xixT (n : Nat) : List (Nat × Nat) := (List.range n).flatMap (fun t => [(11, t), (8, t), (9, t)])
def xix (sh : xSh) : List (Nat × Nat) := xfix ++ (xixS sh.2.1 ++ xixT sh.2.2)
theorem xm_fix {sh : xSh} {q : Nat × Nat} (h : q ∈ xfix) : q ∈ xix sh := List.mem_append_left _ h
theorem xm_S {sh : xSh} {k j : Nat} (hj : j < sh.2.1) (hk : k = 4 ∨ k = 5 ∨ k = 6 ∨ k = 7) : (k, j) ∈ xix sh := by
  refine List.mem_append_right _ (List.mem_append_left _ (List.mem_flatMap.mpr ⟨j, List.mem_range.mpr hj, ?_⟩))
  rcases hk with rfl | rfl | rfl | rfl <;> simp
theorem xm_T {sh : xSh} {k j : Nat} (hj : j < sh.2.2) (hk : k = 11 ∨ k = 8 ∨ k = 9) : (k, j) ∈ xix sh := by
  refine List.mem_append_right _ (List.mem_append_right _ (List.mem_flatMap.mpr ⟨j, List.mem_range.mpr hj, ?_⟩))
  rcases hk with rfl | rfl | rfl <;> simp
/-- the cells, in a row -/
def xW (ad : Nat → Nat → Nat) (ce : Nat → Nat → va_E) (ix : List (Nat × Nat)) : va_W := ix.map (fun q => (ad q.1 q.2, ce q.1 q.2))
def xu2 (ce : Nat → Nat → va_E) (k j : Nat) (e : va_E) : Nat → Nat → va_E := fun a b => if a = k ∧ b = j then e else ce a b
theorem xW_at {ad : Nat → Nat → Nat} {ce : Nat → Nat → va_E} {ix : List (Nat × Nat)} {i : Nat} {q : Nat × Nat} (h : ix[i]? = some q) : (xW ad ce ix)[i]? = some (ad q.1 q.2, ce q.1 q.2) := by
  simp [xW, h]
theorem xW_get {ad : Nat → Nat → Nat} {ce : Nat → Nat → va_E} {ix : List (Nat × Nat)} {k j : Nat} (h : (k, j) ∈ ix) : ∃ i : Nat, ix[i]? = some (k, j) ∧ (xW ad ce ix)[i]? = some (ad k j, ce k j) := by
  obtain ⟨i, hi⟩ := List.getElem?_of_mem h
  exact ⟨i, hi, xW_at hi⟩
theorem xW_set {A : Nat → Prop} {ad : Nat → Nat → Nat} {ce : Nat → Nat → va_E} {ix : List (Nat × Nat)} {k j i : Nat} {e : va_E} (hD : va_D A (xW ad ce ix)) (hi : ix[i]? = some (k, j)) : (xW ad ce ix).set i (ad k j, e) = xW ad (xu2 ce k j e) ix := by
  apply List.ext_getElem?
  intro n
  rw [List.getElem?_set]
  by_cases hn : i = n
  · subst hn
    have hlt : i < (xW ad ce ix).length := by
      have := (List.getElem?_eq_some_iff.mp hi).1
      simpa [xW] using this
    rw [if_pos rfl, if_pos hlt, xW_at hi]
    simp [xu2]
  · rw [if_neg hn]
    cases hq : ix[n]? with
    | none => simp [xW, hq]
    | some q =>
      rw [xW_at hq, xW_at hq]
      have hne : ¬ (q.1 = k ∧ q.2 = j) := by
        rintro ⟨h1, h2⟩
        refine hn (hD.1 i n _ _ (xW_at hi) (xW_at hq) ?_)
        rw [h1, h2]
      simp [xu2, hne]
/-- the world lies in the heap -/
def xWd (G : xG) (sh : xSh) (sc : xSC) (sr : xSR) (sl : xSL) (H : Heap) : Prop :=
  va_P G.1 vwCl (xW sh.1 (xce G sh sc sr sl) (xix sh)) H ∧ va_D (xA G) (xW sh.1 (xce G sh sc sr sl) (xix sh))
theorem xWd.kept {G : xG} {sh : xSh} {sc : xSC} {sr : xSR} {sl : xSL} {H H1 : Heap} (h : xWd G sh sc sr sl H) (hq : ∀ q : Nat, q < H.size → H1[q]? = H[q]?) : xWd G sh sc sr sl H1 :=
  ⟨h.1.kept (fun k q hk => hq _ (h.1 k q hk).lt), h.2⟩
def xstrs : List (Nat × String) := [(45, "there are 4 shards"), (84, "the shard is closed or has no room"), (90, "there are 6 tenants"), (118, "both tenants are the same"), (125, "the tenants are kept apart already"), (130, "there are 6 pairs"), (139, "the tenant cannot be moved to the shard"), (144, "3 moves are under way"), (172, "the tenant has no move"), (272, "there are no tenants"), (275, "a number is out of range"), (279, "there is no such measure"), (284, "no plan is sound"), (290, "there is no such shard"), (292, "there is no such tenant")]
/-- words that a state keeps, though no method's list bears them -/
def xokw : Cond → Bool
  | .declares _ => true
  | .castable _ _ => true
  | .fieldLinkNest _ _ _ _ _ _ => true
  | .methodLinkNest _ _ _ _ => true
  | _ => false
theorem xokw_warm {s U : State} (hW : s.WarmedH U.vm) : ∀ w : Cond, xokw w = true → va_Nw w s → va_Nw w U := by
  intro w hw h
  cases w with
  | declares x => exact h.warmD hW
  | castable a b => exact h.warmC hW
  | fieldLinkNest a b c d e f => exact h.warmF hW
  | methodLinkNest a b c d => exact h.warmM hW
  | _ => simp [xokw] at hw
def xexs : List String := ["java/lang/IllegalArgumentException", "java/lang/IllegalStateException", "java/lang/IndexOutOfBoundsException", "java/lang/UnsupportedOperationException", "java/util/NoSuchElementException", "java/lang/ArithmeticException"]
def xnw : List Cond := [.declares (Bundle.initS "java/lang/RuntimeException"), .declares (Bundle.initS "java/lang/Exception"), .declares (Bundle.initS Bundle.tN), .castable "java/lang/IllegalArgumentException" "java/lang/IllegalArgumentException", .castable "java/lang/IllegalStateException" "java/lang/IllegalStateException", .castable "java/lang/IndexOutOfBoundsException" "java/lang/IndexOutOfBoundsException", .castable "java/lang/UnsupportedOperationException" "java/lang/UnsupportedOperationException", .castable "java/util/NoSuchElementException" "java/util/NoSuchElementException", .castable "java/lang/ArithmeticException" "java/lang/ArithmeticException", .fieldLinkNest "TenantPlacement" 103 "TenantPlacement$Tenant" "sizes" "LTenantPlacement$Amounts;" "TenantPlacement", .fieldLinkNest "TenantPlacement" 106 "TenantPlacement$Tenant" "windowFirst" "I" "TenantPlacement", .fieldLinkNest "TenantPlacement" 110 "TenantPlacement$Tenant" "windowEnd" "I" "TenantPlacement", .fieldLinkNest "TenantPlacement" 132 "TenantPlacement$Tenant" "apartFrom" "I" "TenantPlacement", .fieldLinkNest "TenantPlacement" 146 "TenantPlacement$Tenant" "move" "LTenantPlacement$Move;" "TenantPlacement", .fieldLinkNest "TenantPlacement" 149 "TenantPlacement$Tenant" "server" "I" "TenantPlacement", .fieldLinkNest "TenantPlacement" 163 "TenantPlacement$Amounts" "storage" "I" "TenantPlacement", .fieldLinkNest "TenantPlacement" 166 "TenantPlacement$Amounts" "load" "I" "TenantPlacement", .fieldLinkNest "TenantPlacement" 169 "TenantPlacement$Amounts" "connections" "I" "TenantPlacement", .fieldLinkNest "TenantPlacement" 206 "TenantPlacement$Move" "phase" "C" "TenantPlacement", .fieldLinkNest "TenantPlacement" 213 "TenantPlacement$Move" "target" "I" "TenantPlacement", .fieldLinkNest "TenantPlacement" 216 "TenantPlacement$Move" "left" "I" "TenantPlacement", .fieldLinkNest "TenantPlacement" 233 "TenantPlacement$Shard" "use" "LTenantPlacement$Amounts;" "TenantPlacement", .fieldLinkNest "TenantPlacement" 254 "TenantPlacement$Planner" "fewest" "I" "TenantPlacement", .fieldLinkNest "TenantPlacement" 257 "TenantPlacement$Tenant" "trialShard" "I" "TenantPlacement", .fieldLinkNest "TenantPlacement" 260 "TenantPlacement$Planner" "sound" "I" "TenantPlacement", .fieldLinkNest "TenantPlacement" 302 "TenantPlacement$Move" "source" "I" "TenantPlacement", .fieldLinkNest "TenantPlacement" 314 "TenantPlacement$Tenant" "growth" "I" "TenantPlacement", .fieldLinkNest "TenantPlacement" 56 "TenantPlacement$Shard" "isOpen" "Z" "TenantPlacement", .fieldLinkNest "TenantPlacement" 64 "TenantPlacement$Shard" "limits" "LTenantPlacement$Amounts;" "TenantPlacement", .fieldLinkNest "TenantPlacement$Planner" 51 "TenantPlacement$Tenant" "server" "I" "TenantPlacement", .fieldLinkNest "TenantPlacement$Planner" 65 "TenantPlacement$Tenant" "trialShard" "I" "TenantPlacement", .fieldLinkNest "TenantPlacement$Shard" 28 "TenantPlacement$Amounts" "storage" "I" "TenantPlacement", .fieldLinkNest "TenantPlacement$Shard" 32 "TenantPlacement$Amounts" "load" "I" "TenantPlacement", .fieldLinkNest "TenantPlacement$Shard" 35 "TenantPlacement$Amounts" "connections" "I" "TenantPlacement", .fieldLinkNest "TenantPlacement$Shard" 38 "TenantPlacement$Tenant" "sizes" "LTenantPlacement$Amounts;" "TenantPlacement", .fieldLinkNest "TenantPlacement$Shard" 46 "TenantPlacement$Tenant" "apartFrom" "I" "TenantPlacement", .fieldLinkNest "TenantPlacement$Tenant" 41 "TenantPlacement$Move" "target" "I" "TenantPlacement", .methodLinkNest "TenantPlacement" 23 ⟨"TenantPlacement$Planner", "<init>", "()V"⟩ "TenantPlacement"]
def xncs : List (String × String) := [("java/lang/ArithmeticException", "java/lang/IllegalArgumentException"), ("java/lang/ArithmeticException", "java/lang/IllegalStateException"), ("java/lang/ArithmeticException", "java/lang/IndexOutOfBoundsException"), ("java/lang/ArithmeticException", "java/lang/UnsupportedOperationException"), ("java/lang/ArithmeticException", "java/util/NoSuchElementException"), ("java/lang/IllegalArgumentException", "java/lang/ArithmeticException"), ("java/lang/IllegalArgumentException", "java/lang/IllegalStateException"), ("java/lang/IllegalArgumentException", "java/lang/IndexOutOfBoundsException"), ("java/lang/IllegalArgumentException", "java/lang/UnsupportedOperationException"), ("java/lang/IllegalArgumentException", "java/util/NoSuchElementException"), ("java/lang/IllegalStateException", "java/lang/ArithmeticException"), ("java/lang/IllegalStateException", "java/lang/IllegalArgumentException"), ("java/lang/IllegalStateException", "java/lang/IndexOutOfBoundsException"), ("java/lang/IllegalStateException", "java/lang/UnsupportedOperationException"), ("java/lang/IllegalStateException", "java/util/NoSuchElementException"), ("java/lang/IndexOutOfBoundsException", "java/lang/ArithmeticException"), ("java/lang/IndexOutOfBoundsException", "java/lang/IllegalArgumentException"), ("java/lang/IndexOutOfBoundsException", "java/lang/IllegalStateException"), ("java/lang/IndexOutOfBoundsException", "java/lang/UnsupportedOperationException"), ("java/lang/IndexOutOfBoundsException", "java/util/NoSuchElementException"), ("java/lang/UnsupportedOperationException", "java/lang/ArithmeticException"), ("java/lang/UnsupportedOperationException", "java/lang/IllegalArgumentException"), ("java/lang/UnsupportedOperationException", "java/lang/IllegalStateException"), ("java/lang/UnsupportedOperationException", "java/lang/IndexOutOfBoundsException"), ("java/lang/UnsupportedOperationException", "java/util/NoSuchElementException"), ("java/util/NoSuchElementException", "java/lang/ArithmeticException"), ("java/util/NoSuchElementException", "java/lang/IllegalArgumentException"), ("java/util/NoSuchElementException", "java/lang/IllegalStateException"), ("java/util/NoSuchElementException", "java/lang/IndexOutOfBoundsException"), ("java/util/NoSuchElementException", "java/lang/UnsupportedOperationException")]
/-- what the tables say: classes, the two statics of Throwable, the texts -/
def xTb (G : xG) (s : State) (H : Heap) : Prop :=
  va_K G.1 vwCl (xtys G) s ∧ vx_Zq Bundle.tN "UNASSIGNED_STACK" Bundle.steD (xA G) s H ∧ vx_Zq Bundle.tN "SUPPRESSED_SENTINEL" Bundle.listD (xA G) s H ∧ (∀ q ∈ xstrs, ∃ a : Nat, vk_R RX5 q.1 q.2 a s) ∧ (∀ w ∈ xnw, va_Nw w s) ∧ (∀ q ∈ xncs, va_Nc q.1 q.2 s) ∧ G.2.1 ≤ H.size ∧ va_AO "TenantPlacement$Shard" s ∧ va_AO "TenantPlacement$Tenant" s
theorem xnw_ok : ∀ w ∈ xnw, xokw w = true := by decide
theorem xTb.go {G : xG} {s U : State} {H0 H : Heap} {locs : List Loc} (h : xTb G s H0) (hS : va_S (xA G) H0 H locs) (hW : s.WarmedH U.vm) (hU : U.heap = H) : xTb G U U.heap := by
  obtain ⟨h1, h2, h3, h4, h5, h6, h7, h8, h9⟩ := h
  rw [hU]
  exact ⟨va_K.moved hW.alike h1, (h2.kept hS.2.1).moved hW.alike, (h3.kept hS.2.1).moved hW.alike, fun q hq => by obtain ⟨a, ha⟩ := h4 q hq; exact ⟨a, ha.warm hW⟩, fun w hw => xokw_warm hW w (xnw_ok w hw) (h5 w hw), fun q hq => (h6 q hq).moved hW.alike, Nat.le_trans h7 hS.1, h8.moved hW.alike, h9.moved hW.alike⟩
theorem xTb.calling {G : xG} {U : State} {g : JFrame} {mk : MethodId} {a : Array Value} (h : xTb G U U.heap) : xTb G (U.calling g mk a) (U.calling g mk a).heap := by
  obtain ⟨h1, h2, h3, h4, h5, h6, h7, h8, h9⟩ := h
  exact ⟨va_K.moved (u := U) (U := U.calling g mk a) (Vm.Alike.refl U.vm) h1, vx_Zq.moved (u := U) (U := U.calling g mk a) (Vm.Alike.refl U.vm) h2, vx_Zq.moved (u := U) (U := U.calling g mk a) (Vm.Alike.refl U.vm) h3, fun q hq => by obtain ⟨b, hb⟩ := h4 q hq; exact ⟨b, vk_R.same (u := U) rfl hb⟩, fun w hw => (h5 w hw).same (u := U) (by revert w; decide) rfl, fun q hq => va_Nc.moved (u := U) (U := U.calling g mk a) (Vm.Alike.refl U.vm) (h6 q hq), h7, va_AO.moved (u := U) (U := U.calling g mk a) (Vm.Alike.refl U.vm) h8, va_AO.moved (u := U) (U := U.calling g mk a) (Vm.Alike.refl U.vm) h9⟩
/-- a method's start -/
def xPre (G : xG) (sh : xSh) (sc : xSC) (sr : xSR) (sl : xSL) : State → Prop := fun U => xWd G sh sc sr sl U.heap ∧ xTb G U U.heap
/-- what a method owes: it answers 'res' (a class's name: thrown), and the world is Pw -/
def xMet (l : Launch) (y : MethodName) (ws : List Cond) (rm : Room) (G : xG) (sh : xSh) (sc : xSC) (sr : xSR) (sl : xSL) (args : List Value) (res : String ⊕ Option Value) (Pw : Heap → Prop) : Prop :=
  vx_Met l y ws rm (va_Pc args (xPre G sh sc sr sl)) (fun _ st o t => ∃ v, res = .inr v ∧ o = .returned v ∧ Pw t.heap ∧ va_F (xA G) st t) (fun E st t => res = .inl E ∧ Pw t.heap ∧ va_F (xA G) st t) rm.cells rm.slots (xA G)
theorem xPc_blind {G : xG} {sh : xSh} {sc : xSC} {sr : xSR} {sl : xSL} {args : List Value} : FrameBlind (va_Pc args (xPre G sh sc sr sl)) := by
  intro a U g mk ⟨h1, h2, h3⟩
  exact ⟨h1, h2, h3.calling⟩
