/-! CALLS and ENDS over the world. -/
/-- what a body owes at its end -/
abbrev xQ (below : List Frame) (G : xG) (res : String ⊕ Option Value) (Pw : Heap → Prop) (args : Array Value) (s : State) (mc ms : Nat) : State → Prop :=
  vx_MQ below (fun _ st o t => ∃ v, res = .inr v ∧ o = .returned v ∧ Pw t.heap ∧ va_F (xA G) st t) (fun E st t => res = .inl E ∧ Pw t.heap ∧ va_F (xA G) st t) args s mc ms (xA G)
section XC
variable {p : Program} {l : Launch} {e : Env} {R : Room} {s : State} {m : MethodId} {args : Array Value} {below : List Frame} {meth : Method} {c : Code} {H : Heap} {locs : List Loc} {cells slots : Nat} {Q : State → Prop}
variable {cc : ByteArray} {nL pc : Nat} {ls : Array Slot} {st0 rest : List Value} {Ts : List Cond} {own : String} {G : xG} {sh : xSh} {sc : xSC} {sr : xSR} {sl : xSL}
variable {res : String ⊕ Option Value} {Pw : Heap → Prop} {mc ms : Nat}
theorem xrun_go (hr : vx_Run p l e R s m args below meth c H locs cells slots mc ms (F0 m pc ls st0) rest (fun st o t => ∃ v, res = .inr v ∧ o = .returned v ∧ Pw t.heap ∧ va_F (xA G) st t) (fun E st t => res = .inl E ∧ Pw t.heap ∧ va_F (xA G) st t) (xA G)) (hS : va_S (xA G) s.heap H locs)
    (kn : ∀ (v : Option Value) (H : Heap) (locs : List Loc), res = .inr v → Pw H → va_S (xA G) s.heap H locs → W p l e R s m args below meth c H locs (cells + mc) (slots + ms) Q (F0 m (pc + 3) ls (v.toList ++ rest)))
    (kx : ∀ (E : String) (H : Heap) (locs : List Loc) (q : Addr) (ce : Cell), res = .inl E → Pw H → va_S (xA G) s.heap H locs → H[q]? = some ce → ce.vm = .none → s.vm.findClass E = some ce.cls → vx_W p l e R s m args below meth c H locs (cells + mc) (slots + ms) Q (F0 m pc ls rest) q) : W p l e R s m args below meth c H locs cells slots Q (F0 m pc ls st0) := by
  intro T hT X
  rcases hr T hT X with ⟨v, st₀, t, T', L, h0, X', hL, e1, e2, ⟨v', hres, hv, hp, hF⟩, st⟩ | ⟨q, st₀, t, T', L, E, ce, h0, X', hL, e1, e2, ⟨hres, hp, hF⟩, hce, hcv, hcl, st⟩
  · cases hv
    obtain ⟨-, -, k3⟩ := vx_keep h0 e1 hS (fun q _ h => h) (fun q h => h) hL hF
    obtain ⟨t2, a1, b1⟩ := kn v T'.heap (locs ++ L) hres (by rw [e1]; exact hp) k3 T' rfl X'
    exact ⟨t2, st t2 a1, b1⟩
  · obtain ⟨-, -, k3⟩ := vx_keep h0 e1 hS (fun q _ h => h) (fun q h => h) hL hF
    obtain ⟨t2, a1, b1⟩ := kx E T'.heap (locs ++ L) q ce hres (by rw [e1]; exact hp) k3 (by rw [e1]; exact hce) hcv hcl T' rfl X'
    exact ⟨t2, st.trans a1, b1⟩
theorem xcallV {C : String} {T : u_T} {N ci k j index maxL n : Nat} {fs As : List Value} {y : MethodName} {bytes : ByteArray} {ret : Option FieldType} {ws ws' : List Cond} {rm : Room}
    (F : CallFix p m c cc nL s args Ts own) (hT : xTb G s s.heap) (hW : xWd G sh sc sr sl H) (hS : va_S (xA G) s.heap H locs) (hm : (k, j) ∈ xix sh) (he : xce G sh sc sr sl k j = .inr (ci, fs)) (hc : vwCl[ci]? = some (C, T, N))
    (hM : xMet l y ws rm G sh sc sr sl (.ref (sh.1 k j) :: As) res Pw) (hG : GoodIn Ts (wsV own index C y ws)) (hws : ws = Cond.code y bytes maxL ret :: ws')
    (hd : y.cls = C ∧ y.cls ≠ "java/lang/invoke/MethodHandle" ∧ y.cls ≠ "java/lang/invoke/VarHandle" ∧ (parseMethodDescriptor y.desc).map (fun d => d.parameters.length) = some n) (hR : rm.frames + 1 ≤ R.frames ∧ 8 + (maxL + 11) + rm.locals ≤ R.locals)
    (hn : As.length = n) (hsize : ls.size = nL) (hst : st0 = As.reverse ++ .ref (sh.1 k j) :: rest) (hrest : (rest.map fun v => v.category).sum ≤ 8) (hdg : decode cc pc = .ok (.invokevirtual index, 3)) (hf : cells + rm.cells ≤ R.cells ∧ slots + rm.slots ≤ R.slots)
    (kn : ∀ (v : Option Value) (H : Heap) (locs : List Loc), res = .inr v → Pw H → va_S (xA G) s.heap H locs → W p l e R s m args below meth c H locs (cells + rm.cells) (slots + rm.slots) Q (F0 m (pc + 3) ls (v.toList ++ rest)))
    (kx : ∀ (E : String) (H : Heap) (locs : List Loc) (q : Addr) (ce : Cell), res = .inl E → Pw H → va_S (xA G) s.heap H locs → H[q]? = some ce → ce.vm = .none → s.vm.findClass E = some ce.cls → vx_W p l e R s m args below meth c H locs (cells + rm.cells) (slots + rm.slots) Q (F0 m pc ls rest) q) : W p l e R s m args below meth c H locs cells slots Q (F0 m pc ls st0) := by
  obtain ⟨i, -, hi⟩ := xW_get (ad := sh.1) (ce := xce G sh sc sr sl) hm
  rw [he] at hi
  refine xrun_go (vx_runV F hM (cwV n F.2.2.2.2 hG hws rfl rfl hd hR) ⟨xPc_blind, va_recv hT.1 hW.1 hc hi, fun U hU hWm => ⟨rfl, ?_, hT.go hS hWm hU⟩⟩ rfl hn hsize hst (lv_room hrest) hdg hf) hS kn kx
  rw [hU]
  exact hW
theorem xcallS {index maxL n : Nat} {As : List Value} {y : MethodName} {bytes : ByteArray} {ret : Option FieldType} {ws ws' : List Cond} {rm : Room}
    (F : CallFix p m c cc nL s args Ts own) (hT : xTb G s s.heap) (hW : xWd G sh sc sr sl H) (hS : va_S (xA G) s.heap H locs)
    (hM : xMet l y ws rm G sh sc sr sl As res Pw) (hG : GoodIn Ts (va_wsS own index y ws)) (hws : ws = Cond.code y bytes maxL ret :: ws')
    (hd : y.cls ≠ "java/lang/invoke/MethodHandle" ∧ y.cls ≠ "java/lang/invoke/VarHandle" ∧ (parseMethodDescriptor y.desc).map (fun d => d.parameters.length) = some n) (hR : rm.frames + 1 ≤ R.frames ∧ 8 + (maxL + 11) + rm.locals ≤ R.locals)
    (hn : As.length = n) (hsize : ls.size = nL) (hst : st0 = As.reverse ++ rest) (hrest : (rest.map fun v => v.category).sum ≤ 8) (hdg : decode cc pc = .ok (.invokestatic index, 3)) (hf : cells + rm.cells ≤ R.cells ∧ slots + rm.slots ≤ R.slots)
    (kn : ∀ (v : Option Value) (H : Heap) (locs : List Loc), res = .inr v → Pw H → va_S (xA G) s.heap H locs → W p l e R s m args below meth c H locs (cells + rm.cells) (slots + rm.slots) Q (F0 m (pc + 3) ls (v.toList ++ rest)))
    (kx : ∀ (E : String) (H : Heap) (locs : List Loc) (q : Addr) (ce : Cell), res = .inl E → Pw H → va_S (xA G) s.heap H locs → H[q]? = some ce → ce.vm = .none → s.vm.findClass E = some ce.cls → vx_W p l e R s m args below meth c H locs (cells + rm.cells) (slots + rm.slots) Q (F0 m pc ls rest) q) : W p l e R s m args below meth c H locs cells slots Q (F0 m pc ls st0) := by
  refine xrun_go (vx_runS F hM (va_cwS n F.2.2.2.2 hG hws rfl rfl hd hR) ⟨xPc_blind, fun U hU hWm => ⟨rfl, ?_, hT.go hS hWm hU⟩⟩ rfl hn hsize hst (lv_room hrest) hdg hf) hS kn kx
  rw [hU]
  exact hW
/-! ends -/
theorem xret_i {ty : FieldType} {v : Int32} (F : CallFix p m c cc nL s args Ts own) (hr : meth.sig.returnType = some ty) (hlocks : meth.locks = false) (hS : va_S (xA G) s.heap H locs) (hn : narrow ty (.int v) = .int v) (hres : res = .inr (some (.int v))) (hPw : Pw H) (hc : cells ≤ mc) (hs : slots ≤ ms) (hdg : decode cc pc = .ok (.ireturn, 1)) :
    W p l e R s m args below meth c H locs cells slots (xQ below G res Pw args s mc ms) (F0 m pc ls [.int v]) :=
  W.widen (k := mc) (n := ms) hc hs (vx_ret (W.zret F.1 F.2.1 hr hn (fun t ht _ => ⟨some (.int v), hres, rfl, by rw [ht]; exact hPw, hS.F ht⟩) (fun q hq => hS.2.2 q hq) hdg hlocks))
theorem xret_v (F : CallFix p m c cc nL s args Ts own) (hr : meth.sig.returnType = none) (hlocks : meth.locks = false) (hS : va_S (xA G) s.heap H locs) (hres : res = .inr none) (hPw : Pw H) (hc : cells ≤ mc) (hs : slots ≤ ms) (hdg : decode cc pc = .ok (.return_, 1)) :
    W p l e R s m args below meth c H locs cells slots (xQ below G res Pw args s mc ms) (F0 m pc ls []) :=
  W.widen (k := mc) (n := ms) hc hs (vx_ret (W.vret F.1 F.2.1 hr (fun t ht _ => ⟨none, hres, rfl, by rw [ht]; exact hPw, hS.F ht⟩) (fun q hq => hS.2.2 q hq) hdg hlocks))
theorem xret_a {v : Value} {rt : FieldType} (F : CallFix p m c cc nL s args Ts own) (hr : meth.sig.returnType = some rt) (hrt : (∃ n, rt = .object n) ∨ ∃ t, rt = .array t) (hv : v = .null ∨ ∃ a, v = .ref a) (hlocks : meth.locks = false) (hS : va_S (xA G) s.heap H locs) (hres : res = .inr (some v)) (hPw : Pw H) (hc : cells ≤ mc) (hs : slots ≤ ms) (hdg : decode cc pc = .ok (.areturn, 1)) :
    W p l e R s m args below meth c H locs cells slots (xQ below G res Pw args s mc ms) (F0 m pc ls [v]) :=
  W.widen (k := mc) (n := ms) hc hs (vx_ret (W.aret F.1 F.2.1 hr hrt hv (fun t ht _ => ⟨some v, hres, rfl, by rw [ht]; exact hPw, hS.F ht⟩) (fun q hq => hS.2.2 q hq) hdg hlocks))
theorem xret_l {v : Int64} (F : CallFix p m c cc nL s args Ts own) (hr : meth.sig.returnType = some .long) (hlocks : meth.locks = false) (hS : va_S (xA G) s.heap H locs) (hres : res = .inr (some (.long v))) (hPw : Pw H) (hc : cells ≤ mc) (hs : slots ≤ ms) (hdg : decode cc pc = .ok (.lreturn, 1)) :
    W p l e R s m args below meth c H locs cells slots (xQ below G res Pw args s mc ms) (F0 m pc ls [.long v]) :=
  W.widen (k := mc) (n := ms) hc hs (vx_ret (W.lret F.1 F.2.1 hr (fun t ht _ => ⟨some (.long v), hres, rfl, by rw [ht]; exact hPw, hS.F ht⟩) (fun q hq => hS.2.2 q hq) hdg hlocks))
theorem xret_f {v : UInt32} (F : CallFix p m c cc nL s args Ts own) (hr : meth.sig.returnType = some .float) (hlocks : meth.locks = false) (hS : va_S (xA G) s.heap H locs) (hres : res = .inr (some (.float v))) (hPw : Pw H) (hc : cells ≤ mc) (hs : slots ≤ ms) (hdg : decode cc pc = .ok (.freturn, 1)) :
    W p l e R s m args below meth c H locs cells slots (xQ below G res Pw args s mc ms) (F0 m pc ls [.float v]) :=
  W.widen (k := mc) (n := ms) hc hs (vx_ret (W.fret F.1 F.2.1 hr (fun t ht _ => ⟨some (.float v), hres, rfl, by rw [ht]; exact hPw, hS.F ht⟩) (fun q hq => hS.2.2 q hq) hdg hlocks))
theorem xret_d {v : UInt64} (F : CallFix p m c cc nL s args Ts own) (hr : meth.sig.returnType = some .double) (hlocks : meth.locks = false) (hS : va_S (xA G) s.heap H locs) (hres : res = .inr (some (.double v))) (hPw : Pw H) (hc : cells ≤ mc) (hs : slots ≤ ms) (hdg : decode cc pc = .ok (.dreturn, 1)) :
    W p l e R s m args below meth c H locs cells slots (xQ below G res Pw args s mc ms) (F0 m pc ls [.double v]) :=
  W.widen (k := mc) (n := ms) hc hs (vx_ret (W.dret F.1 F.2.1 hr (fun t ht _ => ⟨some (.double v), hres, rfl, by rw [ht]; exact hPw, hS.F ht⟩) (fun q hq => hS.2.2 q hq) hdg hlocks))
/-- what a callee threw goes on to the caller -/
theorem xout {E : String} {q : Addr} {ce : Cell} (htab : ∀ x ∈ c.exceptionTable.toList, False) (hlocks : meth.locks = false) (hS : va_S (xA G) s.heap H locs) (hres : res = .inl E) (hPw : Pw H) (hcell : H[q]? = some ce) (hv : ce.vm = .none) (hcl : s.vm.findClass E = some ce.cls) (hc : cells ≤ mc) (hs : slots ≤ ms) :
    vx_W p l e R s m args below meth c H locs cells slots (xQ below G res Pw args s mc ms) (F0 m pc ls rest) q :=
  vx_out (fun x hx => (htab x hx).elim) hlocks hcell hv hcl (fun t ht _ => ⟨hres, by rw [ht]; exact hPw, hS.F ht⟩) (fun z hz => hS.2.2 z hz) hc hs
/-- a body that may throw, of a method that no entry runs instead -/
theorem xofW {y : MethodName} {ws ws' : List Cond} {rm : Room} {Pc : Array Value → State → Prop} {Qc : Array Value → State → Outcome → State → Prop} {XC : String → State → State → Prop} {free : Addr → Prop} {maxL : Nat} {ret : Option FieldType}
    (hy : plainFor y = true) (hw : ws = Cond.code y cc maxL ret :: ws')
    (body : ∀ p e s m args below meth c s₁, BodyLoose p l y (headSpec ws rm) cc maxL ret e s m args below meth c s₁ → c.maxLocals = maxL → (∀ x ∈ c.exceptionTable.toList, False) → Pc args s →
      W p l e (headSpec ws rm).room s m args below meth c s.heap [] 0 0 (vx_MQ below Qc XC args s mc ms free) (entryFrame m args maxL)) : vx_Met l y ws rm Pc Qc XC mc ms free := by
  refine MetFree.of_bodySF (code := cc) (maxLocals := maxL) (ret := ret) hy ?_ ?_
  · intro args s m h hn
    obtain ⟨meth, c, h1, h2, h3, h4, h5, h6, -, -⟩ := Cond.code_spec hn (atoms_spec (ws := ws) h _ (by rw [hw]; exact List.mem_cons_self))
    exact ⟨meth, c, h1, h2, h3, h4, h5, h6⟩
  · intro p e s m args below meth c s₁ B hml hP _
    have hh0 : s₁.heap = s.heap := by rw [B.state]; rfl
    have ht : ∀ x ∈ c.exceptionTable.toList, False := by
      obtain ⟨meth9, c9, h1, h2, -, -, -, -, h7, -⟩ := Cond.code_spec B.named (atoms_spec (ws := ws) B.pre _ (by rw [hw]; exact List.mem_cons_self))
      cases Option.some.inj (h1.symm.trans B.method)
      cases Option.some.inj (h2.symm.trans (Stand.of_body B).code)
      intro x hx
      rw [Array.isEmpty_iff.mp h7] at hx
      cases hx
    obtain ⟨t, a1, o, b1, b2, b3⟩ := body p e s m args below meth c s₁ B hml ht hP s₁ hh0 (Stand.of_body B)
    exact ⟨t, o, a1, b1, b2, b3⟩
/-- the body of a method without handlers; its words: its own code, then all good words of the tables -/
theorem xMet_of {y : MethodName} {rm : Room} {maxL : Nat} {ret : Option FieldType} {vs : List Value} (hy : plainFor y = true) (hlen : (lg_sl vs).length ≤ maxL)
    (body : ∀ (p : Program) (e : Env) (s : State) (m : MethodId) (below : List Frame) (meth : Method) (c : Code), CallFix p m c cc maxL s vs.toArray xB y.cls → xTb G s s.heap → xWd G sh sc sr sl s.heap → meth.sig.returnType = ret → meth.locks = false → (∀ x ∈ c.exceptionTable.toList, False) →
      ∀ ls : Array Slot, lv_has ls maxL (lv_args 0 vs) → W p l e rm s m vs.toArray below meth c s.heap [] 0 0 (xQ below G res Pw vs.toArray s rm.cells rm.slots) (F0 m 0 ls [])) : xMet l y (Cond.code y cc maxL ret :: xB) rm G sh sc sr sl vs res Pw := by
  refine xofW hy rfl ?_
  intro p e s m args below meth c s₁ B hml htab hv
  obtain ⟨rfl, hW, hT⟩ := hv
  rw [lg_entry_eq]
  exact body p e s m below meth c ⟨B.exec, B.bytes, hml, findClass_of_methodNamed B.named, fun w hw => atoms_spec (ws := Cond.code y cc maxL ret :: xB) B.pre w (List.mem_cons_of_mem _ hw)⟩ hT hW B.returns B.notSynchronized htab _ (lv_entry vs hlen)
theorem xB_good {w : Cond} (h : w ∈ xB) : w ∈ xB ∧ ((w.onTables && w.keeps) = true ∨ ∃ ty, w = .arrayClass ty) := ⟨h, good_of_word (List.mem_filter.mp h).2⟩
theorem xgV {own C : String} {idx n : Nat} {y : MethodName} {b : ByteArray} {ret : Option FieldType} (h1 : Cond.methodLink own idx y ∈ xB) (h2 : Cond.instanceMethod y ∈ xB) (h3 : Cond.selects C y y ∈ xB) (h4 : Cond.initialized C ∈ xB) (h5 : Cond.code y b n ret ∈ xB) : GoodIn xB (wsV own idx C y (Cond.code y b n ret :: xB)) := by
  intro w hw
  refine xB_good ?_
  unfold wsV at hw
  rcases List.mem_append.mp hw with h | h
  · simp only [List.mem_cons, List.not_mem_nil, or_false] at h
    rcases h with rfl | rfl | rfl | rfl
    · exact h1
    · exact h2
    · exact h3
    · exact h4
  · rcases List.mem_cons.mp h with rfl | h
    · exact h5
    · exact h
theorem xgS {own : String} {idx n : Nat} {y : MethodName} {b : ByteArray} {ret : Option FieldType} (h1 : Cond.methodLink own idx y ∈ xB) (h2 : Cond.static y ∈ xB) (h3 : Cond.initialized y.cls ∈ xB) (h5 : Cond.code y b n ret ∈ xB) : GoodIn xB (va_wsS own idx y (Cond.code y b n ret :: xB)) := by
  intro w hw
  refine xB_good ?_
  unfold va_wsS at hw
  rcases List.mem_append.mp hw with h | h
  · simp only [List.mem_cons, List.not_mem_nil, or_false] at h
    rcases h with rfl | rfl | rfl
    · exact h1
    · exact h2
    · exact h3
  · rcases List.mem_cons.mp h with rfl | h
    · exact h5
    · exact h
end XC
section XT
variable {p : Program} {l : Launch} {e : Env} {R : Room} {s : State} {m : MethodId} {args : Array Value} {below : List Frame} {meth : Method} {c : Code} {H : Heap} {locs : List Loc} {cells slots : Nat} {Q : State → Prop}
variable {cc : ByteArray} {nL pc : Nat} {ls : Array Slot} {st0 rest : List Value} {Ts : List Cond} {G : xG} {sh : xSh} {sc : xSC} {sr : xSR} {sl : xSL}
variable {res : String ⊕ Option Value} {Pw : Heap → Prop} {mc ms : Nat}
theorem xnw_tab : ∀ w ∈ xnw, w.onTables = true := by decide
/-- throw new E("text") -/
theorem xthrow {cls text : String} {ik is ic : Nat} (F : CallFix p m c cc nL s args Ts RX5) (hT : xTb G s s.heap) (hW : xWd G sh sc sr sl H) (hS : va_S (xA G) s.heap H locs) (hl : l.stackTraces = false) (hlocks : meth.locks = false) (htab : ∀ x ∈ c.exceptionTable.toList, False) (hsize : ls.size = nL)
    (hk : Cond.classLink RX5 ik cls ∈ Ts) (hini : Cond.initialized cls ∈ Ts) (hstr : (is, text) ∈ xstrs)
    (hats : ∀ w ∈ (vx_atS RX5 ic cls ["java/lang/RuntimeException", "java/lang/Exception"]).filter goodWord, w ∈ Ts)
    (hbad : ∀ w ∈ (vx_atS RX5 ic cls ["java/lang/RuntimeException", "java/lang/Exception"]).filter (fun w => !goodWord w), w ∈ xnw)
    (hcls : Bundle.fit cls = true) (hgood : ∀ w ∈ Cond.classLink RX5 ik cls :: Cond.initialized cls :: vx_atS RX5 ic cls ["java/lang/RuntimeException", "java/lang/Exception"], vx_ot w = true)
    (hRf : 6 ≤ R.frames) (hRl : (rest.map fun v => v.category).sum + 82 ≤ R.locals) (hRc : cells + 1 ≤ R.cells) (hRs : slots + 6 ≤ R.slots)
    (hres : res = .inl cls) (hPw : ∀ H : Heap, xWd G sh sc sr sl H → Pw H) (hc : cells + 1 ≤ mc) (hs : slots + 6 ≤ ms)
    (d0 : decode cc pc = .ok (.new ik, 3)) (d3 : decode cc (pc + 3) = .ok (.dup, 1)) (d4 : decode cc (pc + 4) = .ok (.ldc is, 2)) (d6 : decode cc (pc + 6) = .ok (.invokespecial ic, 3)) (d9 : decode cc (pc + 9) = .ok (.athrow, 1)) :
    W p l e R s m args below meth c H locs cells slots (xQ below G res Pw args s mc ms) (F0 m pc ls rest) := by
  obtain ⟨hx, hb, hml, hown, hts⟩ := F
  obtain ⟨sa, hsa⟩ := hT.2.2.2.1 _ hstr
  refine vx_throwS (cls := cls) (text := text) (names := ["java/lang/RuntimeException", "java/lang/Exception"]) hx hb hl hown hcls (by decide) (hts _ hk) (hts _ hini) hsa (vx_hat (fun w hw => hts w (hats w hw)) hbad (fun w hw => va_Nw.use (xnw_tab w hw) (hT.2.2.2.2.1 w hw))) hgood hT.2.1 hT.2.2.1 hS (hsize.trans hml.symm) d0 d3 d4 d6 d9 (fun x hx => (htab x hx).elim) hRf hRl hRc hRs hlocks (fun t _ hz hq => ⟨hres, hPw _ (hW.kept hq), Nat.le_trans hS.1 hz, fun q h1 h2 => ?_⟩) (fun z hz => hS.2.2 z hz) hc hs
  rw [hq q (Nat.lt_of_lt_of_le h1 hS.1)]
  exact hS.2.1 q h1 h2
/-- the same, the text by a wide index -/
theorem xthrowW {cls text : String} {ik is ic : Nat} (F : CallFix p m c cc nL s args Ts RX5) (hT : xTb G s s.heap) (hW : xWd G sh sc sr sl H) (hS : va_S (xA G) s.heap H locs) (hl : l.stackTraces = false) (hlocks : meth.locks = false) (htab : ∀ x ∈ c.exceptionTable.toList, False) (hsize : ls.size = nL)
    (hk : Cond.classLink RX5 ik cls ∈ Ts) (hini : Cond.initialized cls ∈ Ts) (hstr : (is, text) ∈ xstrs)
    (hats : ∀ w ∈ (vx_atS RX5 ic cls ["java/lang/RuntimeException", "java/lang/Exception"]).filter goodWord, w ∈ Ts)
    (hbad : ∀ w ∈ (vx_atS RX5 ic cls ["java/lang/RuntimeException", "java/lang/Exception"]).filter (fun w => !goodWord w), w ∈ xnw)
    (hcls : Bundle.fit cls = true) (hgood : ∀ w ∈ Cond.classLink RX5 ik cls :: Cond.initialized cls :: vx_atS RX5 ic cls ["java/lang/RuntimeException", "java/lang/Exception"], vx_ot w = true)
    (hRf : 6 ≤ R.frames) (hRl : (rest.map fun v => v.category).sum + 82 ≤ R.locals) (hRc : cells + 1 ≤ R.cells) (hRs : slots + 6 ≤ R.slots)
    (hres : res = .inl cls) (hPw : ∀ H : Heap, xWd G sh sc sr sl H → Pw H) (hc : cells + 1 ≤ mc) (hs : slots + 6 ≤ ms)
    (d0 : decode cc pc = .ok (.new ik, 3)) (d3 : decode cc (pc + 3) = .ok (.dup, 1)) (d4 : decode cc (pc + 4) = .ok (.ldc_w is, 3)) (d7 : decode cc (pc + 7) = .ok (.invokespecial ic, 3)) (d10 : decode cc (pc + 10) = .ok (.athrow, 1)) :
    W p l e R s m args below meth c H locs cells slots (xQ below G res Pw args s mc ms) (F0 m pc ls rest) := by
  obtain ⟨hx, hb, hml, hown, hts⟩ := F
  obtain ⟨sa, hsa⟩ := hT.2.2.2.1 _ hstr
  refine vx_throwSW (cls := cls) (text := text) (names := ["java/lang/RuntimeException", "java/lang/Exception"]) hx hb hl hown hcls (by decide) (hts _ hk) (hts _ hini) hsa (vx_hat (fun w hw => hts w (hats w hw)) hbad (fun w hw => va_Nw.use (xnw_tab w hw) (hT.2.2.2.2.1 w hw))) hgood hT.2.1 hT.2.2.1 hS (hsize.trans hml.symm) d0 d3 d4 d7 d10 (fun x hx => (htab x hx).elim) hRf hRl hRc hRs hlocks (fun t _ hz hq => ⟨hres, hPw _ (hW.kept hq), Nat.le_trans hS.1 hz, fun q h1 h2 => ?_⟩) (fun z hz => hS.2.2 z hz) hc hs
  rw [hq q (Nat.lt_of_lt_of_le h1 hS.1)]
  exact hS.2.1 q h1 h2
end XT
