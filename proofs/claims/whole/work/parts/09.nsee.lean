/-! NoSuchElementException: its constructor with a text calls RuntimeException's by pool place 13, where the bundle of the other exceptions has 7. The walk follows the library's (BundleOwnThrow) and the kit's vx_throwS, with the first link of the chain put in by hand. -/
def xNs : String := "java/util/NoSuchElementException"
def xRt : String := "java/lang/RuntimeException"
abbrev xNsCode : ByteArray := prog_21_method_4_code
theorem dNs_0 : decode xNsCode 0 = .ok (.aload_n 0, 1) := by decide +kernel
theorem dNs_1 : decode xNsCode 1 = .ok (.aload_n 1, 1) := by decide +kernel
theorem dNs_2 : decode xNsCode 2 = .ok (.invokespecial 13, 3) := by decide +kernel
theorem dNs_5 : decode xNsCode 5 = .ok (.return_, 1) := by decide +kernel
/-- the words that such a throw asks -/
def xAtN (own : String) (ic : Nat) : List Cond :=
  Bundle.throwableAtoms ++ (Bundle.throwableSAtoms ++ (Bundle.passSAtoms xNs xRt 13 xNsCode ++ (Bundle.chainSAtoms xRt ["java/lang/Exception"] ++
  [.methodLink own ic (Bundle.initS xNs), .instantiable xNs 6, .castable xNs xNs, .selects xNs Bundle.tFill0 Bundle.tFill0, .selects xNs Bundle.tFill Bundle.tFill,
   .lays xNs Bundle.tN "cause" "Ljava/lang/Throwable;", .lays xNs Bundle.tN "stackTrace" Bundle.steD, .lays xNs Bundle.tN "suppressedExceptions" Bundle.listD, .lays xNs Bundle.tN "detailMessage" "Ljava/lang/String;",
   .isRef (.static Bundle.tN "UNASSIGNED_STACK" Bundle.steD), .isRef (.static Bundle.tN "SUPPRESSED_SENTINEL" Bundle.listD),
   .fieldLink Bundle.tN 198 Bundle.tN "backtrace" "Ljava/lang/Object;", .lays Bundle.tN Bundle.tN "backtrace" "Ljava/lang/Object;", .lays xNs Bundle.tN "backtrace" "Ljava/lang/Object;"])))
section XN
variable {p : Program} {l : Launch} {e : Env} {R : Room} {s : State} {m₀ : MethodId} {args : Array Value} {below : List Frame} {meth : Method} {c : Code} {W : State} {locs : List Loc} {cells slots : Nat}
set_option maxHeartbeats 2000000 in
theorem xctorN (X : Stand p l e R s m₀ args below meth c W locs cells slots) (hexec : p.tables.exec = Jvm.exec) (htr : e.platform.stackTraces = false) {own : String} {ic : Nat}
    (hown : s.vm.findClass own = some m₀.cls) (h : ∀ a ∈ xAtN own ic, a.before args s = true) (hlocs : ∀ x ∈ locs, ∀ cell, s.heap[x.base]? = some cell → cell.vm.isStatics = false)
    {a : Addr} {cX : ClassId} {kX : Class} (hfoundX : s.vm.findClass xNs = some cX) (hkX : s.vm.classes[cX]? = some kX) (hcell : W.heap[a]? = some (freshCell cX kX)) (hnew : s.heap.size ≤ a)
    {msg : Value} (hmsg : msg.isRef = true)
    {g : JFrame} (hg : g.method = m₀) (hsize : g.locals.size = c.maxLocals) (hlocked : g.locked = none) (hentered : g.entered = []) {rest : List Value} (hstack : g.stack = msg :: .ref a :: .ref a :: rest)
    (hd6 : decode c.code g.pc = .ok (.invokespecial ic, 3)) (hd9 : decode c.code (g.pc + 3) = .ok (.athrow, 1)) (hout : ∀ x ∈ c.exceptionTable.toList, covers x (g.pc + 3) = false)
    (hRframes : 5 < R.frames) (hRlocals : 2 * g.monitorRoom + ((Value.ref a :: rest).map fun v => v.category).sum + 81 ≤ R.locals) (hlocks : meth.locks = false) :
    ∃ U : State, Steps p.tables e below (W.setTop g) U ∧ U.status = .running ∧ Ended U below (.threw a) ∧ s.WarmedH U.vm ∧ s.sameButNew ({ U with vm := s.vm } : State) locs cells slots ∧
      ∃ ce, U.heap[a]? = some ce ∧ ce.vm = .none ∧ ce.cls = cX := by
  have howns : e.platform.frameOwnsMonitors = true := by rw [X.admits.platform]
  have hfin : e.platform.finalization = false := by rw [X.admits.platform]
  have hpl : e.platform.magicAccessors = ({} : Platform).magicAccessors := by rw [X.admits.platform]
  have inT : ∀ x ∈ Bundle.throwableAtoms, x ∈ xAtN own ic := fun x hx => List.mem_append_left _ hx
  have inS : ∀ x ∈ Bundle.throwableSAtoms, x ∈ xAtN own ic := fun x hx => List.mem_append_right _ (List.mem_append_left _ hx)
  have inP : ∀ x ∈ Bundle.passSAtoms xNs xRt 13 xNsCode, x ∈ xAtN own ic := fun x hx => List.mem_append_right _ (List.mem_append_right _ (List.mem_append_left _ hx))
  have inC : ∀ x ∈ Bundle.chainSAtoms xRt ["java/lang/Exception"], x ∈ xAtN own ic := fun x hx => List.mem_append_right _ (List.mem_append_right _ (List.mem_append_right _ (List.mem_append_left _ hx)))
  have inL : ∀ {x : Cond} {i : Nat}, ([.methodLink own ic (Bundle.initS xNs), .instantiable xNs 6, .castable xNs xNs, .selects xNs Bundle.tFill0 Bundle.tFill0, .selects xNs Bundle.tFill Bundle.tFill, .lays xNs Bundle.tN "cause" "Ljava/lang/Throwable;", .lays xNs Bundle.tN "stackTrace" Bundle.steD, .lays xNs Bundle.tN "suppressedExceptions" Bundle.listD, .lays xNs Bundle.tN "detailMessage" "Ljava/lang/String;", .isRef (.static Bundle.tN "UNASSIGNED_STACK" Bundle.steD), .isRef (.static Bundle.tN "SUPPRESSED_SENTINEL" Bundle.listD), .fieldLink Bundle.tN 198 Bundle.tN "backtrace" "Ljava/lang/Object;", .lays Bundle.tN Bundle.tN "backtrace" "Ljava/lang/Object;", .lays xNs Bundle.tN "backtrace" "Ljava/lang/Object;"] : List Cond)[i]? = some x → x.before args s = true := fun hi => h _ (List.mem_append_right _ (List.mem_append_right _ (List.mem_append_right _ (List.mem_append_right _ (List.mem_of_getElem? hi)))))
  obtain ⟨T, Z0, L, -, Y⟩ := ThrowableC.of_atoms (args := args) howns hfin hpl (fun x hx => h x (inT x hx))
  obtain ⟨Z, M, LZ, LM, hnZ⟩ := Init0T.ofS_atoms (args := args) hpl L Y (fun x hx => h x (inS x hx))
  obtain ⟨P1, L1, hP1m, hs1⟩ := PassC.ofS_atoms (args := args) (s := s) hpl (X := xNs) (Y := xRt) (by decide) (by decide) dNs_0 dNs_1 dNs_2 dNs_5 (fun x hx => h x (inP x hx))
  obtain ⟨P2, Ps, hlen, L2, hL, hP2m, hlink2, hlink⟩ := Bundle.chainS (args := args) hpl hnZ ["java/lang/Exception"] xRt (by decide +kernel) (by decide +kernel) (fun x hx => h x (inC x hx))
  have hlink1 : P1.sup = P2.m := Option.some.inj (hs1.symm.trans hP2m)
  have hfound : s.vm.findClass xNs = some P1.m.cls := findClass_of_methodNamed hP1m
  cases Option.some.inj (hfoundX.symm.trans hfound)
  obtain ⟨c1, kX', hc1, hk, hord, -, -, hn6⟩ := Cond.instantiable_spec (inL (i := 1) (x := .instantiable xNs 6) rfl)
  cases Option.some.inj (hc1.symm.trans hfound)
  cases Option.some.inj (hkX.symm.trans hk)
  have hsel0 : selectMethod e.platform s.vm P1.m.cls T.fill0 = .method T.fill0 := by
    obtain ⟨c2, r2, m2, q1, q2, q3, q4, -⟩ := Cond.selects_spec (inL (i := 3) (x := .selects xNs Bundle.tFill0 Bundle.tFill0) rfl)
    cases Option.some.inj (q1.symm.trans hfound)
    cases Option.some.inj (q2.symm.trans (State.methodFound?_of_named Y.fill0 (by decide)))
    cases Option.some.inj (q3.symm.trans Y.fill0)
    rw [Launch.admits_selectMethod X.admits]; exact q4
  have hselF : selectMethod e.platform s.vm P1.m.cls T.fill = .method T.fill := by
    obtain ⟨c2, r2, m2, q1, q2, q3, q4, -⟩ := Cond.selects_spec (inL (i := 4) (x := .selects xNs Bundle.tFill Bundle.tFill) rfl)
    cases Option.some.inj (q1.symm.trans hfound)
    cases Option.some.inj (q2.symm.trans (State.methodFound?_of_named Y.fill (by decide)))
    cases Option.some.inj (q3.symm.trans Y.fill)
    rw [Launch.admits_selectMethod X.admits]; exact q4
  obtain ⟨cellS0, hcS0, hiss⟩ := Y.statics
  obtain ⟨u0, hu0⟩ := Cond.staticRefV Y.unassigned L.unassignedStatic L.statics hcS0 hiss (inL (i := 9) (x := .isRef (.static Bundle.tN "UNASSIGNED_STACK" Bundle.steD)) rfl)
  obtain ⟨sen, hsen⟩ := Cond.staticRefV Y.sentinel L.sentinelStatic L.statics hcS0 hiss (inL (i := 10) (x := .isRef (.static Bundle.tN "SUPPRESSED_SENTINEL" Bundle.listD)) rfl)
  obtain ⟨ci198, i198, fB, hk198, hg198, ha198, hsB, -, hnB, htB, hffB⟩ := Cond.ownField (t := .object "java/lang/Object") Y.found L.cls (by decide +kernel) (inL (i := 11) (x := .fieldLink Bundle.tN 198 Bundle.tN "backtrace" "Ljava/lang/Object;") rfl) (inL (i := 12) (x := .lays Bundle.tN Bundle.tN "backtrace" "Ljava/lang/Object;") rfl) e.platform hpl
  obtain ⟨cellS, hcS', heS, -, hkeep⟩ := X.same.2.2.2.2.2 T.aS cellS0 hcS0
  have hcellS : W.heap[T.aS]? = some cellS := hcS'
  have hout' : ∀ i, (⟨T.aS, i⟩ : Loc) ∉ locs := fun i hmem => by
    have := hlocs _ hmem cellS0 hcS0
    rw [hiss] at this; cases this
  have hknownS : cellS.vm ≠ .unknown := by
    rw [heS]; intro hu
    rw [show cellS0.vm = .unknown from hu] at hiss
    cases hiss
  have hneS : T.aS ≠ a := Nat.ne_of_lt (Nat.lt_of_lt_of_le (Array.getElem?_eq_some_iff.mp hcS0).1 hnew)
  obtain ⟨iM, hffM⟩ := Y.msg
  obtain ⟨tyC, dC, hdC, hdnC⟩ := Cond.laysAt hfound hk Y.cause (inL (i := 5) (x := .lays xNs Bundle.tN "cause" "Ljava/lang/Throwable;") rfl)
  obtain ⟨tyS, dS, hdS, hdnS⟩ := Cond.laysAt hfound hk Y.stack (inL (i := 6) (x := .lays xNs Bundle.tN "stackTrace" Bundle.steD) rfl)
  obtain ⟨tyP, dP, hdP, hdnP⟩ := Cond.laysAt hfound hk Y.supp (inL (i := 7) (x := .lays xNs Bundle.tN "suppressedExceptions" Bundle.listD) rfl)
  obtain ⟨tyM, dM, hdM, hdnM⟩ := Cond.laysAt hfound hk hffM (inL (i := 8) (x := .lays xNs Bundle.tN "detailMessage" "Ljava/lang/String;") rfl)
  obtain ⟨tyB, dB, hdB, hdnB⟩ := Cond.laysAt hfound hk hffB (inL (i := 13) (x := .lays xNs Bundle.tN "backtrace" "Ljava/lang/Object;") rfl)
  have bC := Cond.laysApart hdB hdC hdnB hdnC (by rw [hnB, Y.causeName]; decide)
  have bS := Cond.laysApart hdB hdS hdnB hdnS (by rw [hnB, Y.stackName]; decide)
  have bP := Cond.laysApart hdB hdP hdnB hdnP (by rw [hnB, Y.suppName]; decide)
  have hskip : SkipFacts T e.platform s (fun u => u) u0 ((preparedCellV T.toThrowableT (freshCell P1.m.cls kX) a u0 sen).withEntry W.cur) :=
    ⟨{ ci198 := ci198, i198 := i198, fBack := fB }, ⟨hk198, hg198, ha198, hsB⟩, by
      have := fresh_default (c := P1.m.cls) tyB
      rw [htB] at this
      simpa [preparedCellV, Cell.setSlot, Cell.withEntry, Array.getElem?_setIfInBounds, bC, bS, bP, bC.symm, bS.symm, bP.symm, defaultValue] using this, fun _ _ => rfl⟩
  obtain ⟨tm, methC, cdC, kC, vm₁, hnC, -, -, -, -, -, -, -, hW₁, st1⟩ := Steps.initColdS (tb := p.tables) (e := e) (below := below) (s := s) (U := W) X.here hexec X.warmed hpl hown (t := Bundle.initS xNs) rfl rfl (by decide)
    (inL (i := 0) (x := .methodLink own ic (Bundle.initS xNs)) rfl) (h (.instanceMethod (Bundle.initS xNs)) (inP _ (List.mem_of_getElem? (i := 0) rfl))) (bytes := xNsCode) (maxL := 2) (h (.code (Bundle.initS xNs) xNsCode 2 none) (inP _ (List.mem_of_getElem? (i := 1) rfl)))
    (f := g) hg (a := a) (msg := msg) (rest := .ref a :: rest) hstack hd6
  cases Option.some.inj (hnC.symm.trans hP1m)
  have X₁ := X.noted hW₁
  obtain ⟨vm₂, X₂, st2⟩ := X₁.ctorMessageOffV hexec (g := { g with stack := .ref a :: rest }) hg hsize T L Z LZ M LM (P1 :: P2 :: Ps)
    (fun P hP => by
      rcases List.mem_cons.mp hP with rfl | hP
      · exact L1
      · rcases List.mem_cons.mp hP with rfl | hP
        · exact L2
        · exact hL P hP) ⟨hlink1, hlink2, hlink⟩ (u0 := u0) (sen := sen) (self := a) hmsg (cell := freshCell P1.m.cls kX) (cellS := cellS)
    hcell (fun _ => by simp) (by simp) rfl rfl hsel0 hselF hcellS hneS hknownS (by rw [hkeep _ (hout' _)]; exact hu0) (by rw [hkeep _ (hout' _)]; exact hsen)
    (Takes.of_laid hk hord tyC (by rw [Y.causeType]; rfl)) (Takes.of_laid hk hord tyS (by rw [Y.stackType]; exact fits_refV_array _ u0)) (Takes.of_laid hk hord tyP (by rw [Y.suppType]; exact fits_refV_object _ sen))
    (Takes.of_laid hk hord tyM (by rw [Y.msgType]; exact fits_refV_object _ ⟨msg, hmsg⟩)) Y.objLocals hskip htr [] hd6
    (by simp only [List.length_cons, hlen, List.length_nil]; omega) (by simp only [List.length_cons, hlen, List.length_nil]; omega)
  obtain ⟨hwalk, hrun, hended, hWU, hsame⟩ := X₂.athrowLeaves hexec (g := { g with stack := .ref a :: rest, pc := g.pc + 3 }) hg hlocked hentered hout (a := a) (rest := rest) rfl hd9
  have hlt : a < ((W.setVm vm₁).setVm vm₂).heap.size := (Array.getElem?_eq_some_iff.mp hcell).1
  have hU := heapAt_setCell_self (s := (W.setVm vm₁).setVm vm₂) (plainBareV T.toThrowableT (freshCell P1.m.cls kX) a u0 sen msg) hlt
  refine ⟨_, st1 _ (fun acts => ?_), hrun, hended, hWU, hsame.weaken (fun y hy hlt' => ?_) (Nat.le_refl _) (Nat.le_refl _), _, hU, rfl, rfl⟩
  · rw [doInvoke_state]
    exact st2 _ hwalk
  · rcases List.mem_append.mp hy with h1 | h1
    · exact h1
    · exfalso
      have hb : y.base = a := by
        simp only [List.mem_cons, List.not_mem_nil, or_false] at h1
        rcases h1 with rfl | rfl | rfl | rfl | rfl <;> rfl
      rw [hb] at hlt'
      exact Nat.not_lt.mpr hnew hlt'
end XN
section XNT
variable {p : Program} {l : Launch} {e : Env} {R : Room} {s : State} {m : MethodId} {args : Array Value} {below : List Frame} {meth : Method} {c : Code} {H : Heap} {locs : List Loc} {cells slots : Nat}
variable {cc : ByteArray} {nL pc : Nat} {ls : Array Slot} {rest : List Value} {G : xG} {sh : xSh} {sc : xSC} {sr : xSR} {sl : xSL}
variable {res : String ⊕ Option Value} {Pw : Heap → Prop} {mc ms : Nat}
theorem xNs_h : ∀ w ∈ (xAtN RX5 286).filter (fun w => goodWord w && vx_no w), w ∈ xB := fun w h => List.mem_filter.mpr ⟨(by decide +kernel : ∀ w ∈ (xAtN RX5 286).filter (fun w => goodWord w && vx_no w), w ∈ lw_tbl) w h, by
  have h2 := (List.mem_filter.mp h).2
  rw [Bool.and_eq_true] at h2
  exact h2.1⟩
theorem xNs_b : ∀ w ∈ (xAtN RX5 286).filter (fun w => !goodWord w && vx_no w), w ∈ xnw := by decide +kernel
theorem xNs_g : ∀ w ∈ (xAtN RX5 286).filter vx_no, vx_ot w = true := by decide +kernel
set_option maxHeartbeats 2000000 in
/-- throw new NoSuchElementException("text") -/
theorem xthrowX {cls text : String} {ik is ic : Nat} (F : CallFix p m c cc nL s args xB RX5) (hT : xTb G s s.heap) (hW : xWd G sh sc sr sl H) (hS : va_S (xA G) s.heap H locs) (hl : l.stackTraces = false) (hlocks : meth.locks = false) (htab : ∀ x ∈ c.exceptionTable.toList, False) (hsize : ls.size = nL)
    (hcls : cls = xNs) (hic : ic = 286)
    (hk : Cond.classLink RX5 ik xNs ∈ xB) (hini : Cond.initialized xNs ∈ xB) (hstr : (is, text) ∈ xstrs)
    (hRf : 6 ≤ R.frames) (hRl : (rest.map fun v => v.category).sum + 82 ≤ R.locals) (hRc : cells + 1 ≤ R.cells) (hRs : slots + 6 ≤ R.slots)
    (hres : res = .inl cls) (hPw : ∀ H : Heap, xWd G sh sc sr sl H → Pw H) (hc : cells + 1 ≤ mc) (hs : slots + 6 ≤ ms)
    (d0 : decode cc pc = .ok (.new ik, 3)) (d3 : decode cc (pc + 3) = .ok (.dup, 1)) (dd : (decode cc (pc + 4) = .ok (.ldc is, 2) ∧ decode cc (pc + 6) = .ok (.invokespecial ic, 3) ∧ decode cc (pc + 9) = .ok (.athrow, 1)) ∨ (decode cc (pc + 4) = .ok (.ldc_w is, 3) ∧ decode cc (pc + 7) = .ok (.invokespecial ic, 3) ∧ decode cc (pc + 10) = .ok (.athrow, 1))) :
    W p l e R s m args below meth c H locs cells slots (xQ below G res Pw args s mc ms) (F0 m pc ls rest) := by
  subst hcls; subst hic
  obtain ⟨hexec, hb, hml, hown, hts⟩ := F
  obtain ⟨sa, hstr⟩ := hT.2.2.2.1 _ hstr
  have hU := hT.2.1
  have hN := hT.2.2.1
  have hat : ∀ w ∈ (xAtN RX5 286).filter vx_no, w.before args s = true := fun w hw => by
    obtain ⟨h1, h2⟩ := List.mem_filter.mp hw
    by_cases g : goodWord w = true
    · exact hts w (xNs_h w (List.mem_filter.mpr ⟨h1, by rw [g, h2]; rfl⟩))
    · have hx : w ∈ xnw := xNs_b w (List.mem_filter.mpr ⟨h1, by rw [h2, show goodWord w = false from by cases hgw : goodWord w with | false => rfl | true => exact absurd hgw g]; rfl⟩)
      exact va_Nw.use (xnw_tab w hx) (hT.2.2.2.2.1 w hx)
  have hsize := hsize.trans hml.symm
  intro T hTH X
  have htr : e.platform.stackTraces = false := (show e.platform.stackTraces = l.stackTraces by rw [X.admits.platform]).trans hl
  have Y := vx_rebase X (R' := { frames := R.frames, locals := R.locals, cells := 1, slots := 6 }) (Nat.le_refl _) (Nat.le_refl _) hRc hRs
  obtain ⟨s', hA⟩ : ∃ z, z = (T.setVm s.vm).setFrames (.invoking m args :: below) := ⟨_, rfl⟩
  rw [← hA] at Y
  have hvm : s'.vm = s.vm := by rw [hA]; rfl
  have hhp : s'.heap = H := by rw [hA]; exact hTH
  have hW0 : s.WarmedH s'.vm := by rw [hvm]; exact State.WarmedH.refl s
  have hat' : ∀ w ∈ (xAtN RX5 286).filter vx_no, w.before args s' = true := fun w hw => vx_ot_at hW0 hvm.symm (xNs_g w hw) (hat w hw)
  have hk' : (Cond.classLink RX5 ik xNs).before args s' = true := word_at hW0 (xB_good hk).2 (hts _ hk)
  have hini' : (Cond.initialized xNs).before args s' = true := word_at hW0 (xB_good hini).2 (hts _ hini)
  have hU' : vx_Zq Bundle.tN "UNASSIGNED_STACK" Bundle.steD (xA G) s' s'.heap := by rw [hhp]; exact vx_Zq.moved hW0.alike (hU.kept hS.2.1)
  have hN' : vx_Zq Bundle.tN "SUPPRESSED_SENTINEL" Bundle.listD (xA G) s' s'.heap := by rw [hhp]; exact vx_Zq.moved hW0.alike (hN.kept hS.2.1)
  have h : ∀ w ∈ xAtN RX5 286, w.before args s' = true := vx_own hat' (vx_isRefq hU'.1) (vx_isRefq hN'.1) hU'.2.word hN'.2.word
  have hown' : s'.vm.findClass RX5 = some m.cls := by rw [hvm]; exact hown
  have hins : (Cond.instantiable xNs 6).before args s' = true := h _ (List.mem_append_right _ (List.mem_append_right _ (List.mem_append_right _ (List.mem_append_right _ (List.mem_of_getElem? (i := 1) rfl)))))
  obtain ⟨vm₁, cX, kX, hfX, hkX, -, -, X₁, st1⟩ := Y.newCold hexec (own := RX5) (C := xNs) (index := ik) (n := 6) hown' hk' hins hini'
    (g := F0 m pc ls rest) rfl (by rw [hb]; exact d0) (Nat.le_refl _) (Nat.le_refl _)
  generalize hT1 : (T.setVm vm₁).pushCell { cls := cX, slots := kX.instanceTypes.map defaultValue, vm := .none } = T1 at X₁ st1
  have hcat : (Value.ref T.heap.size).category = 1 := rfl
  have hcellA : T1.heap[T.heap.size]? = some (freshCell cX kX) := by rw [← hT1]; exact State.heap_pushCell_size _ _
  have d3' : decode c.code (pc + 3) = .ok (.dup, 1) := by rw [hb]; exact d3
  have hstr' : vk_R RX5 is text sa s' := vk_R.warm hW0 hstr
  have hmid : ∀ q6 : Nat, decode cc q6 = .ok (.invokespecial 286, 3) → decode cc (q6 + 3) = .ok (.athrow, 1) → ∃ U : State, Steps p.tables e below (T1.setTop { method := m, pc := q6, locals := ls, stack := .ref sa :: .ref T.heap.size :: .ref T.heap.size :: rest, locked := none }) U ∧ xQ below G res Pw args s mc ms U := by
    intro q6 d6 d9
    obtain ⟨U, hsteps, hrun, hend, hWm, hsame, ce, hce, hcv, hcc⟩ := xctorN X₁ hexec htr (own := RX5) (ic := 286) hown' h (fun x hx => nomatch hx) hfX hkX hcellA (by rw [hhp, hTH]; exact Nat.le_refl _) (msg := .ref sa) rfl
      (g := { method := m, pc := q6, locals := ls, stack := .ref sa :: .ref T.heap.size :: .ref T.heap.size :: rest, locked := none }) rfl hsize rfl rfl (rest := rest) rfl
      (by rw [hb]; exact d6) (by rw [hb]; exact d9) (fun x hx => (htab x hx).elim) hRf (by
        show 2 * 0 + _ + 81 ≤ R.locals
        simp only [List.map_cons, List.sum_cons, hcat]; omega) hlocks
    obtain ⟨f1, f2⟩ := vx_frame hsame
    rw [hhp] at f1 f2
    have hWs : s.WarmedH U.vm := State.WarmedH.trans hW0 hWm
    have hcl : s.vm.findClass xNs = some ce.cls := by
      rw [hvm] at hfX
      rw [hcc]; exact hfX
    have hall : s.sameButNew ({ U with vm := s.vm } : State) locs mc ms := by
      subst hA
      obtain ⟨e1, e2⟩ := hsame
      rw [State.setFrames_setFrames] at e1
      have h2 : (T.setVm s.vm).sameButNew ({ U with vm := s.vm } : State) [] (0 + 1) (0 + 6) := ⟨e1, e2⟩
      have h3 := X.same.trans h2
      rw [List.append_nil] at h3
      exact h3.mono hc hs
    have f2' : ∀ q : Nat, q < H.size → U.heap[q]? = H[q]? := fun q hq => f2 q hq (fun z hz => nomatch hz)
    refine ⟨U, hsteps, .threw T.heap.size, hrun, hend, Or.inr ⟨T.heap.size, rfl, xNs, ce, locs, ⟨hres, hPw _ (hW.kept f2'), Nat.le_trans hS.1 f1, fun q h1 h2 => ?_⟩, hce, hcv, hcl, hWs, hall, fun z hz => hS.2.2 z hz⟩⟩
    rw [f2' q (Nat.lt_of_lt_of_le h1 hS.1)]
    exact hS.2.1 q h1 h2
  rcases dd with ⟨d4, d6, d9⟩ | ⟨d4, d6, d9⟩
  · obtain ⟨U, hsteps, hq⟩ := hmid (pc + 6) d6 d9
    refine ⟨U, st1 _ ?_, hq⟩
    have d4' : decode c.code (pc + 4) = .ok (.ldc is, 2) := by rw [hb]; exact d4
    show Steps p.tables e below (T1.setTop { method := m, pc := pc + 3, locals := ls, stack := .ref T.heap.size :: rest, locked := none }) _
    jvm_step X₁.here [X₁.here.top, hexec, d3', Value.category]
    exact X₁.ldcString hexec (own := RX5) (text := text) (index := is) (a := sa) hown' hstr'.1 hstr'.2
      (g := { method := m, pc := pc + 4, locals := ls, stack := .ref T.heap.size :: .ref T.heap.size :: rest, locked := none }) rfl d4' _ hsteps
  · obtain ⟨U, hsteps, hq⟩ := hmid (pc + 7) d6 d9
    refine ⟨U, st1 _ ?_, hq⟩
    have d4' : decode c.code (pc + 4) = .ok (.ldc_w is, 3) := by rw [hb]; exact d4
    show Steps p.tables e below (T1.setTop { method := m, pc := pc + 3, locals := ls, stack := .ref T.heap.size :: rest, locked := none }) _
    jvm_step X₁.here [X₁.here.top, hexec, d3', Value.category]
    exact X₁.ldcStringW hexec (own := RX5) (text := text) (index := is) (a := sa) hown' hstr'.1 hstr'.2
      (g := { method := m, pc := pc + 4, locals := ls, stack := .ref T.heap.size :: .ref T.heap.size :: rest, locked := none }) rfl d4' _ hsteps
end XNT
