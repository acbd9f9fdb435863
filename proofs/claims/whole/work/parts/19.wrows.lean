/-! the law's two arrays; methods with handlers -/
section XL
variable {p : Program} {l : Launch} {e : Env} {R : Room} {s : State} {m : MethodId} {args : Array Value} {below : List Frame} {meth : Method} {c : Code} {H : Heap} {locs : List Loc} {cells slots : Nat} {Q : State → Prop}
variable {cc : ByteArray} {nL pc : Nat} {ls : Array Slot} {st0 rest : List Value} {Ts : List Cond} {own : String} {G : xG} {sh : xSh} {sc : xSC} {sr : xSR} {sl : xSL}
variable {res : String ⊕ Option Value} {Pw : Heap → Prop}
theorem xup_14 {x : Int64} : xu2 (xce G sh sc sr sl) 14 0 (.inl (G.2.2 4, 1, .inr (.inl (vp_updL (fun i => if i = 0 then sl.1 else 0) (0 : Int32).toNatClampNeg x)))) = xce G sh sc sr (x, sl.2) := by
  have e : vp_updL (fun i => if i = 0 then sl.1 else 0) (0 : Int32).toNatClampNeg x = fun i => if i = 0 then x else 0 := by
    funext i
    by_cases h : i = 0
    · subst h; rfl
    · have : ¬ i = (0 : Int32).toNatClampNeg := h
      simp [vp_updL, h, this]
  rw [e]
  funext a b
  by_cases h : a = 14
  · subst h
    by_cases hb : b = 0
    · subst hb; simp [xu2, xce]
    · simp [xu2, xce, hb]
  · simp [xu2, xce, h]
theorem xup_15 {x : UInt64} : xu2 (xce G sh sc sr sl) 15 0 (.inl (G.2.2 5, 1, .inr (.inr (.inr (.inl (vf_upd (fun i => if i = 0 then sl.2 else 0) (0 : Int32).toNatClampNeg x)))))) = xce G sh sc sr (sl.1, x) := by
  have e : vf_upd (fun i => if i = 0 then sl.2 else 0) (0 : Int32).toNatClampNeg x = fun i => if i = 0 then x else 0 := by
    funext i
    by_cases h : i = 0
    · subst h; rfl
    · have : ¬ i = (0 : Int32).toNatClampNeg := h
      simp [vf_upd, h, this]
  rw [e]
  funext a b
  by_cases h : a = 15
  · subst h
    by_cases hb : b = 0
    · subst hb; simp [xu2, xce]
    · simp [xu2, xce, hb]
  · simp [xu2, xce, h]
theorem x0in : vp_in (0 : Int32) 1 := by
  intro q
  rcases q with q | q
  · exact absurd q (by decide)
  · exact absurd q (by decide)
theorem xlast {x : Int64} (F : CallFix p m c cc nL s args Ts own) (hT : xTb G s s.heap) (hW : xWd G sh sc sr sl H) (hS : va_S (xA G) s.heap H locs) (hdg : decode cc pc = .ok (.lastore, 1))
    (kk : ∀ (H : Heap) (locs : List Loc), xWd G sh sc sr (x, sl.2) H → va_S (xA G) s.heap H locs → W p l e R s m args below meth c H locs cells slots Q (F0 m (pc + 1) ls rest)) : W p l e R s m args below meth c H locs cells slots Q (F0 m pc ls (.long x :: .int 0 :: .ref (sh.1 14 0) :: rest)) := by
  obtain ⟨hx, hb, hml, hown, hts⟩ := F
  obtain ⟨q, hi0, hi⟩ := xW_get (ad := sh.1) (ce := xce G sh sc sr sl) (ix := xix sh) (k := 14) (j := 0) (xm_fix (by decide))
  refine va_last (cA := G.2.2 4) (n := 1) (f := fun i => if i = 0 then sl.1 else 0) hx hb hT.1 hW.1 hW.2 hS q 4 hi rfl x0in hdg (fun H1 locs1 hP hD hS1 => ?_)
  rw [xW_set hW.2 hi0, xup_14] at hP hD
  exact kk H1 locs1 ⟨hP, hD⟩ hS1
theorem xdast {x : UInt64} (F : CallFix p m c cc nL s args Ts own) (hT : xTb G s s.heap) (hW : xWd G sh sc sr sl H) (hS : va_S (xA G) s.heap H locs) (hdg : decode cc pc = .ok (.dastore, 1))
    (kk : ∀ (H : Heap) (locs : List Loc), xWd G sh sc sr (sl.1, x) H → va_S (xA G) s.heap H locs → W p l e R s m args below meth c H locs cells slots Q (F0 m (pc + 1) ls rest)) : W p l e R s m args below meth c H locs cells slots Q (F0 m pc ls (.double x :: .int 0 :: .ref (sh.1 15 0) :: rest)) := by
  obtain ⟨hx, hb, hml, hown, hts⟩ := F
  obtain ⟨q, hi0, hi⟩ := xW_get (ad := sh.1) (ce := xce G sh sc sr sl) (ix := xix sh) (k := 15) (j := 0) (xm_fix (by decide))
  refine va_dast (cA := G.2.2 5) (n := 1) (f := fun i => if i = 0 then sl.2 else 0) hx hb hT.1 hW.1 hW.2 hS q 5 hi rfl x0in hdg (fun H1 locs1 hP hD hS1 => ?_)
  rw [xW_set hW.2 hi0, xup_15] at hP hD
  exact kk H1 locs1 ⟨hP, hD⟩ hS1
theorem xlald (F : CallFix p m c cc nL s args Ts own) (hT : xTb G s s.heap) (hW : xWd G sh sc sr sl H) (hdg : decode cc pc = .ok (.laload, 1))
    (kk : W p l e R s m args below meth c H locs cells slots Q (F0 m (pc + 1) ls (.long sl.1 :: rest))) : W p l e R s m args below meth c H locs cells slots Q (F0 m pc ls (.int 0 :: .ref (sh.1 14 0) :: rest)) := by
  obtain ⟨hx, hb, hml, hown, hts⟩ := F
  obtain ⟨q, -, hi⟩ := xW_get (ad := sh.1) (ce := xce G sh sc sr sl) (ix := xix sh) (k := 14) (j := 0) (xm_fix (by decide))
  exact va_lald (cA := G.2.2 4) (n := 1) (f := fun i => if i = 0 then sl.1 else 0) hx hb hT.1 hW.1 q 4 hi rfl x0in hdg kk
theorem xdald (F : CallFix p m c cc nL s args Ts own) (hT : xTb G s s.heap) (hW : xWd G sh sc sr sl H) (hdg : decode cc pc = .ok (.daload, 1))
    (kk : W p l e R s m args below meth c H locs cells slots Q (F0 m (pc + 1) ls (.double sl.2 :: rest))) : W p l e R s m args below meth c H locs cells slots Q (F0 m pc ls (.int 0 :: .ref (sh.1 15 0) :: rest)) := by
  obtain ⟨hx, hb, hml, hown, hts⟩ := F
  obtain ⟨q, -, hi⟩ := xW_get (ad := sh.1) (ce := xce G sh sc sr sl) (ix := xix sh) (k := 15) (j := 0) (xm_fix (by decide))
  exact va_dald (cA := G.2.2 5) (n := 1) (f := fun i => if i = 0 then sl.2 else 0) hx hb hT.1 hW.1 q 5 hi rfl x0in hdg kk
/-- the body of a method with handlers -/
theorem xMet_ofH {y : MethodName} {rm : Room} {maxL : Nat} {ret : Option FieldType} {vs : List Value} {hh : List (Nat × Nat × Nat × Nat)} (hy : plainName y.cls = true) (hlen : (lg_sl vs).length ≤ maxL)
    (body : ∀ (p : Program) (e : Env) (s : State) (m : MethodId) (below : List Frame) (meth : Method) (c : Code), CallFix p m c cc maxL s vs.toArray xB y.cls → xTb G s s.heap → xWd G sh sc sr sl s.heap → meth.sig.returnType = ret → meth.locks = false → c.exceptionTable.toList = tableOf hh →
      ∀ ls : Array Slot, lv_has ls maxL (lv_args 0 vs) → W p l e rm s m vs.toArray below meth c s.heap [] 0 0 (xQ below G res Pw vs.toArray s rm.cells rm.slots) (F0 m 0 ls [])) : xMet l y (Cond.codeWith y cc maxL ret hh :: xB) rm G sh sc sr sl vs res Pw := by
  refine vx_ofWH hy rfl ?_
  intro p e s m args below meth c s₁ B hml hv
  obtain ⟨rfl, hW, hT⟩ := hv
  rw [lg_entry_eq]
  exact body p e s m below meth c ⟨B.exec, B.bytes, hml, findClass_of_methodNamed B.named, fun w hw => atoms_spec (ws := Cond.codeWith y cc maxL ret hh :: xB) B.pre w (List.mem_cons_of_mem _ hw)⟩ hT hW B.returns B.notSynchronized (vx_table (x := y) B (atoms_spec (ws := Cond.codeWith y cc maxL ret hh :: xB) B.pre _ List.mem_cons_self)) _ (lv_entry vs hlen)
theorem xgSW {Ts : List Cond} {own : String} {idx n : Nat} {y : MethodName} {b : ByteArray} {ret : Option FieldType} {hh : List (Nat × Nat × Nat × Nat)} (hB : ∀ w ∈ xB, w ∈ Ts) (h1 : Cond.methodLink own idx y ∈ xB) (h2 : Cond.static y ∈ xB) (h3 : Cond.initialized y.cls ∈ xB) (h5 : Cond.codeWith y b n ret hh ∈ xB) : GoodIn Ts (va_wsS own idx y (Cond.codeWith y b n ret hh :: xB)) := by
  intro w hw
  suffices h : w ∈ xB from ⟨hB w h, (xB_good h).2⟩
  unfold va_wsS at hw
  rcases List.mem_append.mp hw with h | h
  · simp only [List.mem_cons, List.not_mem_nil, or_false] at h
    rcases h with rfl | rfl | rfl
    · exact h1
    · exact h2
    · exact h3
  · rcases List.mem_cons.mp h with rfl | h
    · exact h5
    · exact h
/-- a call of a method with handlers, static -/
theorem xcallSX {index maxL n : Nat} {As : List Value} {y : MethodName} {bytes : ByteArray} {ret : Option FieldType} {ws ws' : List Cond} {rm : Room} {hh : List (Nat × Nat × Nat × Nat)}
    (F : CallFix p m c cc nL s args Ts own) (hT : xTb G s s.heap) (hW : xWd G sh sc sr sl H) (hS : va_S (xA G) s.heap H locs)
    (hM : xMet l y ws rm G sh sc sr sl As res Pw) (hG : GoodIn Ts (va_wsS own index y ws)) (hws : ws = Cond.codeWith y bytes maxL ret hh :: ws')
    (hd : y.cls ≠ "java/lang/invoke/MethodHandle" ∧ y.cls ≠ "java/lang/invoke/VarHandle" ∧ (parseMethodDescriptor y.desc).map (fun d => d.parameters.length) = some n) (hR : rm.frames + 1 ≤ R.frames ∧ 8 + (maxL + 11) + rm.locals ≤ R.locals)
    (hn : As.length = n) (hsize : ls.size = nL) (hst : st0 = As.reverse ++ rest) (hrest : (rest.map fun v => v.category).sum ≤ 8) (hdg : decode cc pc = .ok (.invokestatic index, 3)) (hf : cells + rm.cells ≤ R.cells ∧ slots + rm.slots ≤ R.slots)
    (kn : ∀ (v : Option Value) (H : Heap) (locs : List Loc), res = .inr v → Pw H → va_S (xA G) s.heap H locs → W p l e R s m args below meth c H locs (cells + rm.cells) (slots + rm.slots) Q (F0 m (pc + 3) ls (v.toList ++ rest)))
    (kx : ∀ (E : String) (H : Heap) (locs : List Loc) (q : Addr) (ce : Cell), res = .inl E → Pw H → va_S (xA G) s.heap H locs → H[q]? = some ce → ce.vm = .none → s.vm.findClass E = some ce.cls → vx_W p l e R s m args below meth c H locs (cells + rm.cells) (slots + rm.slots) Q (F0 m pc ls rest) q) : W p l e R s m args below meth c H locs cells slots Q (F0 m pc ls st0) := by
  refine xrun_go (vx_runSX F hM (vx_cwSW n F.2.2.2.2 hG hws rfl rfl hd hR) ⟨xPc_blind, fun U hU hWm => ⟨rfl, ?_, hT.go hS hWm hU⟩⟩ rfl hn hsize hst (lv_room hrest) hdg hf) hS kn kx
  rw [hU]
  exact hW
end XL
/-- what a law's caller of a growing call hands back -/
def xPwLS (G : xG) (sh : xSh) (r : Int32 × xSC × xSL) (sr : xSR) : Heap → Prop := fun H => if r.1 = 0 then ∃ sh' : xSh, sh'.2.1 = sh.2.1 + 1 ∧ sh'.2.2 = sh.2.2 ∧ xgr sh sh' ∧ xWd G sh' r.2.1 sr r.2.2 H else xWd G sh r.2.1 sr r.2.2 H
def xPwLT (G : xG) (sh : xSh) (r : Int32 × xSC × xSL) (sr : xSR) : Heap → Prop := fun H => if r.1 = 0 then ∃ sh' : xSh, sh'.2.1 = sh.2.1 ∧ sh'.2.2 = sh.2.2 + 1 ∧ xgr sh sh' ∧ xWd G sh' r.2.1 sr r.2.2 H else xWd G sh r.2.1 sr r.2.2 H
