/-! THE LAW'S START AND ITS LOOP; what the machine gives at the start -/
theorem xnw_in : ∀ w ∈ xnw, w ∈ lw_tbl := by decide +kernel
theorem xstr_in : ∀ q ∈ xstrs, Cond.stringRef "TenantPlacement" q.1 q.2 ∈ lw_tbl := by decide +kernel
theorem xlay_in : Cond.laysStatic Bundle.tN "UNASSIGNED_STACK" Bundle.steD ∈ lw_tbl ∧ Cond.laysStatic Bundle.tN "SUPPRESSED_SENTINEL" Bundle.listD ∈ lw_tbl ∧ Cond.initialized Bundle.tN ∈ lw_tbl ∧ Cond.arrayOver (.object "TenantPlacement$Shard") ∈ lw_tbl ∧ Cond.arrayOver (.object "TenantPlacement$Tenant") ∈ lw_tbl := by decide +kernel
theorem xarc_in : Cond.arrayClass .int ∈ lw_tbl ∧ Cond.arrayClass .boolean ∈ lw_tbl ∧ Cond.arrayClass .long ∈ lw_tbl ∧ Cond.arrayClass .double ∈ lw_tbl := by decide +kernel
theorem xins_in : Cond.instantiable RJ0 4 ∈ lw_tbl ∧ Cond.instantiable RJx00060 6 ∈ lw_tbl ∧ Cond.instantiable RX0 3 ∈ lw_tbl ∧ Cond.instantiable RX1 4 ∈ lw_tbl ∧ Cond.instantiable RX2 2 ∈ lw_tbl ∧ Cond.instantiable RX3 5 ∈ lw_tbl ∧ Cond.instantiable RX4 8 ∈ lw_tbl ∧ Cond.instantiable RX5 8 ∈ lw_tbl ∧ Cond.instantiable RX6 23 ∈ lw_tbl := by decide +kernel
theorem xref_in : Cond.isRef (.static Bundle.tN "UNASSIGNED_STACK" Bundle.steD) ∈ flatC (Jvm.Cond.and given_1 narrow_1) ∧ Cond.isRef (.static Bundle.tN "SUPPRESSED_SENTINEL" Bundle.listD) ∈ flatC (Jvm.Cond.and given_1 narrow_1) := by decide +kernel
theorem xexa_in : ∀ q ∈ xstrs, Cond.exactly (.string "TenantPlacement" q.1) "java/lang/String" ∈ flatC (Jvm.Cond.and given_1 narrow_1) := by decide +kernel
theorem xncs_in : ∀ q ∈ xncs, Cond.not (.castable q.1 q.2) ∈ flatC (Jvm.Cond.and given_1 narrow_1) := by decide +kernel
theorem xArr_at {args : Array Value} {s : State} {ty : FieldType} (hp : ∀ C, ty ≠ .object C) (h : (Cond.arrayClass ty).before args s = true) : ∃ c : ClassId, ArrOfT s c ty ∧ va_RA s c ty := by
  obtain ⟨c, k, comp, h1, h2, h3⟩ := Cond.arrayClass_spec h
  refine ⟨c, fun n z => ⟨fun k h => (by cases h), k, h2, comp, h3⟩, ?_⟩
  cases ty with
  | object C => exact absurd rfl (hp C)
  | _ => exact h1
theorem xArr_over {args : Array Value} {s : State} {C : String} (h : (Cond.arrayOver (.object C)).before args s = true) : ∃ c : ClassId, ArrOfT s c (.object C) ∧ va_RA s c (.object C) := by
  obtain ⟨comp, c, k, h1, h2, h3, h4, h5⟩ := Cond.arrayOver_spec h
  exact ⟨c, fun n z => ⟨fun k h => (by cases h), k, h3, comp, h4⟩, k, comp, h3, h4, h1, h5⟩
theorem xstart_tb {args : Array Value} {s : State} (hts : ∀ w ∈ lw_tbl, w.before args s = true) (hgv : (Jvm.Cond.and given_1 narrow_1).before args s = true) : ∃ G : xG, G.2.1 = s.heap.size ∧ xTb G s s.heap := by
  have hs := flat_of_before _ hgv
  obtain ⟨i0, i1, i2, i3, i4, i5, i6, i7, i8⟩ := xins_in
  obtain ⟨c0, f0, k0⟩ := u_known hts inJ0 (hts _ i0)
  obtain ⟨c1, f1, k1⟩ := u_known hts inJx00060 (hts _ i1)
  obtain ⟨c2, f2, k2⟩ := u_known hts inX0 (hts _ i2)
  obtain ⟨c3, f3, k3⟩ := u_known hts inX1 (hts _ i3)
  obtain ⟨c4, f4, k4⟩ := u_known hts inX2 (hts _ i4)
  obtain ⟨c5, f5, k5⟩ := u_known hts inX3 (hts _ i5)
  obtain ⟨c6, f6, k6⟩ := u_known hts inX4 (hts _ i6)
  obtain ⟨c7, f7, k7⟩ := u_known hts inX5 (hts _ i7)
  obtain ⟨c8, f8, k8⟩ := u_known hts inX6 (hts _ i8)
  obtain ⟨a0, b0⟩ := xArr_at (fun _ h => by cases h) (hts _ xarc_in.1)
  obtain ⟨a1, b1⟩ := xArr_at (fun _ h => by cases h) (hts _ xarc_in.2.1)
  obtain ⟨a4, b4⟩ := xArr_at (fun _ h => by cases h) (hts _ xarc_in.2.2.1)
  obtain ⟨a5, b5⟩ := xArr_at (fun _ h => by cases h) (hts _ xarc_in.2.2.2)
  obtain ⟨a2, b2⟩ := xArr_over (hts _ xlay_in.2.2.2.1)
  obtain ⟨a3, b3⟩ := xArr_over (hts _ xlay_in.2.2.2.2)
  have hA : ∀ a : Nat, a < s.heap.size → ¬ s.heap.size ≤ a := fun a h => Nat.not_le.mpr h
  refine ⟨((fun c => [c0, c1, c2, c3, c4, c5, c6, c7, c8].getD c 0, fun c => [f0, f1, f2, f3, f4, f5, f6, f7, f8].getD c (fun _ => 0)), s.heap.size, fun k => [a0, a1, a2, a3, a4, a5].getD k 0), rfl, ⟨?_, ?_⟩, ?_, ?_, ?_, ?_, ?_, ?_, ?_, ?_⟩
  · intro c q hq
    match c, hq with
    | 0, hq => cases hq; exact k0
    | 1, hq => cases hq; exact k1
    | 2, hq => cases hq; exact k2
    | 3, hq => cases hq; exact k3
    | 4, hq => cases hq; exact k4
    | 5, hq => cases hq; exact k5
    | 6, hq => cases hq; exact k6
    | 7, hq => cases hq; exact k7
    | 8, hq => cases hq; exact k8
    | n + 9, hq => simp at hq
  · intro k q hq
    match k, hq with
    | 0, hq => cases hq; exact b0
    | 1, hq => cases hq; exact b1
    | 2, hq => cases hq; exact b2
    | 3, hq => cases hq; exact b3
    | 4, hq => cases hq; exact b4
    | 5, hq => cases hq; exact b5
    | n + 6, hq => simp [xtys] at hq
  · exact vx_Zqof (hts _ xlay_in.1) (hts _ xlay_in.2.2.1) (hs _ xref_in.1) hA
  · exact vx_Zqof (hts _ xlay_in.2.1) (hts _ xlay_in.2.2.1) (hs _ xref_in.2) hA
  · intro q hq
    obtain ⟨a, c, cell, k, h1, -⟩ := Cond.exactly_spec (hs _ (xexa_in q hq))
    exact ⟨a, vk_R.of (hts _ (xstr_in q hq)) h1⟩
  · exact fun w hw => va_Nw.of (xnw_tab w hw) (hts _ (xnw_in w hw))
  · exact fun q hq => va_Nc.of (hs _ (xncs_in q hq))
  · exact Nat.le_refl _
  · exact va_AO.of (hts _ xlay_in.2.2.2.1)
  · exact va_AO.of (hts _ xlay_in.2.2.2.2)
/-- the states at the start -/
def xsc0 : xSC := (fun k _ i => if k = 10 ∧ i = 0 then 45 else 0, 0)
def xsr0 : xSR := (fun _ _ => 0, 0)
def xsl0 : xSL := (0, 0)
/-- what the pure half owes: a relation that every call keeps, and under which every call's comparison holds -/
def xKeeps (Inv : Nat → Nat → Nat → xSC → xSR → Prop) : Prop := ∀ (k : Nat), k < 512 → ∀ (nS nT : Nat) (v a1 a2 a3 a4 a5 : Int32) (sc : xSC) (sr : xSR) (sl : xSL), Inv k nS nT sc sr → ∃ r : xR5, fLaw1 nS nT v a1 a2 a3 a4 a5 sc sr sl = some r ∧ Inv (k + 1) r.1 r.2.1 r.2.2.1 r.2.2.2.1
theorem xi_add (k j : Nat) : nI k + nI j = nI (k + j) := nI_add k j
set_option maxHeartbeats 4000000 in
set_option maxRecDepth 100000 in
theorem law_loop {p : Program} {l : Launch} {e : Env} {s : State} {m : MethodId} {below : List Frame} {meth : Method} {c : Code} {b L xa ma oa da : Nat} {xs : Nat → Int32} {G : xG} {Inv : Nat → Nat → Nat → xSC → xSR → Prop} (hInv : xKeeps Inv) (hl0 : l.stackTraces = false) (hL : L ≤ 3072) (C0 : lw_At p s m meth c b L xs) (hG : G.2.1 = s.heap.size) (hT : xTb G s s.heap) (F : CallFix p m c code 9 s #[Value.ref b] xB RL) :
    ∀ (n k : Nat), L < 6 * k + 6 * (n + 1) → ∀ (cells slots : Nat), cells + 16 * n ≤ 803720 → slots + 128 * n ≤ 6592785 → ∀ (sh : xSh) (sc : xSC) (sr : xSR) (sl : xSL) (H : Heap) (locs : List Loc) (ls : Array Slot), 6 * k ≤ L + 6 → Inv k sh.2.1 sh.2.2 sc sr → xat sh xa ma oa da → xWd G sh sc sr sl H → va_S (xA G) s.heap H locs → lv_has ls 9 [(5, .int (nI (6 * k))), (0, .ref b), (1, .ref xa), (2, .ref ma), (3, .ref oa), (4, .ref da)] →
      W p l e room_1 s m #[Value.ref b] below meth c H locs cells slots (lw_Z below #[Value.ref b] s) (F0 m 28 ls []) := by
  obtain ⟨hx, hb, hr, hml, hown, hts, hX, hbl, hlocks, hgv⟩ := id C0
  have hbA : ¬ xA G b := by
    unfold xA
    rw [hG]
    exact Nat.not_le.mpr hbl
  have key : ∀ (n k : Nat) (cells slots : Nat), cells ≤ 803720 → slots ≤ 6592785 → ∀ (sh : xSh) (sc : xSC) (sr : xSR) (sl : xSL) (H : Heap) (locs : List Loc) (ls : Array Slot), 6 * k ≤ L + 6 → va_S (xA G) s.heap H locs → lv_has ls 9 [(5, .int (nI (6 * k))), (0, .ref b), (1, .ref xa), (2, .ref ma), (3, .ref oa), (4, .ref da)] →
      (6 * k + 6 ≤ L → W p l e room_1 s m #[Value.ref b] below meth c H locs cells slots (lw_Z below #[Value.ref b] s) (F0 m 38 ls [])) → W p l e room_1 s m #[Value.ref b] below meth c H locs cells slots (lw_Z below #[Value.ref b] s) (F0 m 28 ls []) := by
    intro n k cells slots hc hs sh sc sr sl H locs ls hk hS hl kk
    refine lv_iload hx hb dL_law_28 (lv_at hl 0 rfl) ?_
    refine lv_aload_n hx hb dL_law_30 rfl (lv_at hl 1 rfl) ?_
    refine va_slen hx hb hX hbl hbA hS dL_law_31 ?_
    refine lv_bipush (v := 6) hx hb dL_law_32 (by decide) ?_
    refine lv_isub hx hb dL_law_34 ?_
    have e1 : (nI L - nI 6).toInt = (L : Int) - (6 : Nat) := pk_sub_toInt (by omega) (by omega)
    have e2 : (nI (6 * k)).toInt = ((6 * k : Nat) : Int) := nI_toInt (by omega)
    refine lv_icmp_gt (tgt := 2023) hx hb dL_law_35 (by decide) (fun c1 => ?_) (fun c1 => ?_)
    · refine lv_iconst (v := 1) hx hb dL_law_2023 (by decide) ?_
      refine va_forget (fun q hq => ?_) ?_
      · have h9 := hS.2.2 q hq
        unfold xA at h9
        rw [hG] at h9
        exact h9
      · refine W.widen (k := 803720) (n := 6592785) hc hs ?_
        exact lw_ret (d0 := s.drawn) (Drawn.sameBut.refl s.drawn lw_cs) hx hb hr hlocks dL_law_2024
    · refine kk ?_
      have c2 : ¬ (nI L - nI 6 < nI (6 * k)) := c1
      rw [Int32.lt_iff_toInt_lt, e1, e2] at c2
      omega
  intro n
  induction n with
  | zero =>
    intro k hn cells slots hc hs sh sc sr sl H locs ls hk hI hat hW hS hl
    refine key 0 k cells slots (by omega) (by omega) sh sc sr sl H locs ls hk hS hl (fun h => ?_)
    omega
  | succ n ih =>
    intro k hn cells slots hc hs sh sc sr sl H locs ls hk hI hat hW hS hl
    refine key 0 k cells slots (by omega) (by omega) sh sc sr sl H locs ls hk hS hl (fun h => ?_)
    have hin : ∀ j : Nat, j < 6 → vp_in (nI (6 * k) + nI j) L := fun j hj => by
      rw [xi_add]
      exact vp_in_nI (by omega) (by omega)
    obtain ⟨r, hf, hI2⟩ := hInv k (by omega) sh.2.1 sh.2.2 (xs (nI (6 * k)).toNatClampNeg &&& 63) (xs (nI (6 * k) + 1).toNatClampNeg) (xs (nI (6 * k) + 2).toNatClampNeg) (xs (nI (6 * k) + 3).toNatClampNeg) (xs (nI (6 * k) + 4).toNatClampNeg) (xs (nI (6 * k) + 5).toNatClampNeg) sc sr sl hI
    refine kLaw1 hl0 F hT hX hbl hbA (hin 1 (by omega)) (hin 2 (by omega)) (hin 3 (by omega)) (hin 4 (by omega)) (hin 5 (by omega)) rfl rfl rfl rfl rfl (by omega) (by omega) hat hW hS hl (vp_in_nI (by omega) (by omega)) rfl r hf (fun sh2 H locs ls h1 h2 hat hW hS hl => ?_)
    refine lv_iinc (v := nI (6 * (k + 1))) (lv' := [(5, .int (nI (6 * (k + 1)))), (0, .ref b), (1, .ref xa), (2, .ref ma), (3, .ref oa), (4, .ref da)]) hx hb dL_law_2017 hl (k := 0) rfl ?_ (by decide) rfl (fun ls hl => ?_)
    · show nI (6 * k) + nI 6 = _
      rw [xi_add]
      rfl
    · refine lv_goto (tgt := 28) hx hb dL_law_2020 (by decide) ?_
      exact ih (k + 1) (by omega) (cells + 16) (slots + 128) (by omega) (by omega) sh2 r.2.2.1 r.2.2.2.1 r.2.2.2.2 H locs ls (by omega) (by rw [h1, h2]; exact hI2) hat hW hS hl

set_option maxHeartbeats 4000000 in
set_option maxRecDepth 100000 in
theorem whole_open {p : Program} {e : Env} {s : State} {m : MethodId} {below : List Frame} {meth : Method} {c : Code} (l : Launch) (hflags : l.flags = flags0) {b L : Nat} {xs : Nat → Int32} (hL : L ≤ 3072) (C0 : lw_At p s m meth c b L xs) {Inv : Nat → Nat → Nat → xSC → xSR → Prop} (hInv : xKeeps Inv) (hI0 : Inv 0 0 0 xsc0 xsr0) : W p l e room_1 s m #[Value.ref b] below meth c s.heap [] 0 0 (lw_Z below #[Value.ref b] s) (entryFrame m ([Value.ref b] : List Value).toArray 9) := by
  have hl0 : l.stackTraces = false := by
    unfold Launch.stackTraces
    rw [hflags]
    decide
  obtain ⟨hx, hb, hr, hml, hown, hts, hX, hbl, hlocks, hgv⟩ := id C0
  obtain ⟨G, hG, hT⟩ := xstart_tb hts hgv
  have F : CallFix p m c code 9 s #[Value.ref b] xB RL := ⟨hx, hb, hml, hown, fun w hw => hts w (List.mem_filter.mp hw).1⟩
  have hl := lv_entry ([.ref b]) (n := 9) (Nat.le_of_ble_eq_true rfl)
  rw [lg_entry_eq]
  generalize (lg_sl ([.ref b]) ++ List.replicate (9 - (lg_sl ([.ref b])).length) Slot.unset).toArray = ls at hl ⊢
  have hl : lv_has ls 9 [(0, .ref b)] := hl
  have hS : va_S (xA G) s.heap s.heap [] := va_S.rf
  have hP : va_P G.1 vwCl [] s.heap := fun k q h => by simp at h
  have hD : va_D (xA G) [] := ⟨fun i j p q h => by simp at h, fun k q h => by simp at h⟩
  refine ynew (ci := 7) (fs := [.null, .null, .null, .null, .int 0, .int 0, .int 0, .long 0]) F hT hP hD hS xuX5 tyX5 tyX5_ok xw_20 xw_21 xw_1 rfl (fun j hj => by rcases (show j = 0 ∨ j = 1 ∨ j = 2 ∨ j = 3 ∨ j = 4 ∨ j = 5 ∨ j = 6 ∨ j = 7 by omega) with rfl | rfl | rfl | rfl | rfl | rfl | rfl | rfl <;> rfl) (Nat.le_of_ble_eq_true rfl) (Nat.le_of_ble_eq_true rfl) dL_law_0 (fun x0 H hP hD hS => ?_)
  refine lv_dup hx hb dL_law_3 rfl ?_
  refine ycallI (n := 0) F hT hP hD hS (kX5_init l G [] x0) xw_22 xw_23 xw_1 xw_24 rfl xd_X5_init.2 ⟨(Nat.le_of_ble_eq_true rfl), (Nat.le_of_ble_eq_true rfl)⟩ rfl hl.1 rfl (Nat.le_of_ble_eq_true rfl) dL_law_4 ⟨(Nat.le_of_ble_eq_true rfl), (Nat.le_of_ble_eq_true rfl)⟩ (fun w1 H locs hw hP hD hS => ?_)
  obtain ⟨q1, q2, q3, q4, rfl⟩ := hw
  refine lv_astore_n (lv' := [(1, .ref x0), (0, .ref b)]) hx hb dL_law_7 rfl hl (by decide) rfl (fun ls hl => ?_)
  refine ynew (ci := 8) (fs := [.int 0, .null, .null, .int 0, .null, .null, .null, .null, .null, .null, .null, .null, .null, .int 0, .null, .null, .int 0, .int 0, .long 0, .null, .null, .int 0, .int 0]) F hT hP hD hS xuX6 tyX6 tyX6_ok xw_794 xw_795 xw_4 rfl (fun j hj => by
    rcases (show j = 0 ∨ j = 1 ∨ j = 2 ∨ j = 3 ∨ j = 4 ∨ j = 5 ∨ j = 6 ∨ j = 7 ∨ j = 8 ∨ j = 9 ∨ j = 10 ∨ j = 11 ∨ j = 12 ∨ j = 13 ∨ j = 14 ∨ j = 15 ∨ j = 16 ∨ j = 17 ∨ j = 18 ∨ j = 19 ∨ j = 20 ∨ j = 21 ∨ j = 22 by omega) with rfl | rfl | rfl | rfl | rfl | rfl | rfl | rfl | rfl | rfl | rfl | rfl | rfl | rfl | rfl | rfl | rfl | rfl | rfl | rfl | rfl | rfl | rfl <;> rfl) (Nat.le_of_ble_eq_true rfl) (Nat.le_of_ble_eq_true rfl) dL_law_8 (fun m0 H hP hD hS => ?_)
  refine lv_dup hx hb dL_law_11 rfl ?_
  refine ycallI (n := 0) F hT hP hD hS (kX6_init l G _ m0) xw_796 xw_797 xw_4 xw_798 rfl xd_X6_init.2 ⟨(Nat.le_of_ble_eq_true rfl), (Nat.le_of_ble_eq_true rfl)⟩ rfl hl.1 rfl (Nat.le_of_ble_eq_true rfl) dL_law_12 ⟨(Nat.le_of_ble_eq_true rfl), (Nat.le_of_ble_eq_true rfl)⟩ (fun w1 H locs hw hP hD hS => ?_)
  obtain ⟨r1, r2, r3, r4, r5, r6, r7, r8, r9, r10, r11, r12, r13, r14, r15, rfl⟩ := hw
  refine lv_astore_n (lv' := [(2, .ref m0), (1, .ref x0), (0, .ref b)]) hx hb dL_law_15 rfl hl (by decide) rfl (fun ls hl => ?_)
  refine lv_iconst (v := 1) hx hb dL_law_16 (by decide) ?_
  refine ynewa (atype := .long) (ty := .long) (N' := 1) (i := 4) (a0 := (1, .inr (.inl (fun _ => 0)))) F hT hP hD hS rfl rfl xw_1118 (fun _ => rfl) (by decide) (by decide) (by decide) (Nat.le_of_ble_eq_true rfl) (Nat.le_of_ble_eq_true rfl) dL_law_17 (fun o0 H hP hD hS => ?_)
  refine lv_astore_n (lv' := [(3, .ref o0), (2, .ref m0), (1, .ref x0), (0, .ref b)]) hx hb dL_law_19 rfl hl (by decide) rfl (fun ls hl => ?_)
  refine lv_iconst (v := 1) hx hb dL_law_20 (by decide) ?_
  refine ynewa (atype := .double) (ty := .double) (N' := 1) (i := 5) (a0 := (1, .inr (.inr (.inr (.inl (fun _ => 0)))))) F hT hP hD hS rfl rfl xw_1119 (fun _ => rfl) (by decide) (by decide) (by decide) (Nat.le_of_ble_eq_true rfl) (Nat.le_of_ble_eq_true rfl) dL_law_21 (fun d0 H hP hD hS => ?_)
  refine lv_astore (lv' := [(4, .ref d0), (3, .ref o0), (2, .ref m0), (1, .ref x0), (0, .ref b)]) hx hb dL_law_23 hl (by decide) rfl (fun ls hl => ?_)
  refine lv_iconst (v := 0) hx hb dL_law_25 (by decide) ?_
  refine lv_istore (lv' := [(5, .int 0), (4, .ref d0), (3, .ref o0), (2, .ref m0), (1, .ref x0), (0, .ref b)]) hx hb dL_law_26 hl (by decide) rfl (fun ls hl => ?_)
  obtain ⟨ad, had⟩ : ∃ ad : Nat → Nat → Nat, ad = (fun k j => if k = 0 ∧ j = 0 then x0 else if k = 1 ∧ j = 0 then q1 else if k = 2 ∧ j = 0 then q2 else if k = 3 ∧ j = 0 then q3 else if k = 10 ∧ j = 0 then q4 else if k = 12 ∧ j = 0 then m0 else if k = 13 ∧ j = 1 then r1 else if k = 13 ∧ j = 2 then r2 else if k = 13 ∧ j = 4 then r3 else if k = 13 ∧ j = 5 then r4 else if k = 13 ∧ j = 6 then r5 else if k = 13 ∧ j = 7 then r6 else if k = 13 ∧ j = 8 then r7 else if k = 13 ∧ j = 9 then r8 else if k = 13 ∧ j = 10 then r9 else if k = 13 ∧ j = 11 then r10 else if k = 13 ∧ j = 12 then r11 else if k = 13 ∧ j = 14 then r12 else if k = 13 ∧ j = 15 then r13 else if k = 13 ∧ j = 19 then r14 else if k = 13 ∧ j = 20 then r15 else if k = 14 ∧ j = 0 then o0 else if k = 15 ∧ j = 0 then d0 else 0) := ⟨_, rfl⟩
  have hW : xWd G (ad, 0, 0) xsc0 xsr0 xsl0 H := by
    have e : ∀ w : va_W, w = xW ad (xce G (ad, 0, 0) xsc0 xsr0 xsl0) (xix (ad, 0, 0)) → va_P G.1 vwCl w H → va_D (xA G) w → xWd G (ad, 0, 0) xsc0 xsr0 xsl0 H := fun w hw h1 h2 => by
      subst hw
      exact ⟨h1, h2⟩
    refine e _ ?_ hP hD
    subst had
    simp [xW, xix, xfix, xixS, xixT, xce, xlen, xsc0, xsr0, xsl0]
  have hat : xat (ad, 0, 0) x0 m0 o0 d0 := by
    subst had
    refine ⟨?_, ?_, ?_, ?_⟩ <;> simp
  exact law_loop hInv hl0 hL C0 hG hT F 512 0 (by omega) _ _ (Nat.le_of_ble_eq_true rfl) (Nat.le_of_ble_eq_true rfl) (ad, 0, 0) xsc0 xsr0 xsl0 H _ ls (by omega) hI0 hat hW hS (lv_sub hl [0, 5, 4, 3, 2, 1] rfl)
