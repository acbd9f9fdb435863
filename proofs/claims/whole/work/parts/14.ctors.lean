/-! CONSTRUCTORS: over any list of cells; the object that is made stands behind 'ws', what it makes behind it. -/
abbrev yPre (G : xG) (ws : va_W) : State → Prop := fun U => va_P G.1 vwCl ws U.heap ∧ va_D (xA G) ws ∧ xTb G U U.heap
abbrev yQ (G : xG) (Pw : va_W → Prop) : Array Value → State → Outcome → State → Prop := fun _ st o t => (o = .returned none ∧ ∃ w1, Pw w1 ∧ va_P G.1 vwCl w1 t.heap ∧ va_D (xA G) w1) ∧ va_F (xA G) st t
def yMet (l : Launch) (y : MethodName) (ws : List Cond) (rm : Room) (G : xG) (args : List Value) (w0 : va_W) (Pw : va_W → Prop) : Prop :=
  Met l y ws rm (va_Pc args (yPre G w0)) (yQ G Pw) rm.cells rm.slots (xA G)
theorem yPc_blind {G : xG} {ws : va_W} {args : List Value} : FrameBlind (va_Pc args (yPre G ws)) := by
  intro a U g mk ⟨h1, h2, h3, h4⟩
  exact ⟨h1, h2, h3, h4.calling⟩
theorem y_set {ws r : va_W} {x x' : Nat × va_E} : (ws ++ x :: r).set ws.length x' = ws ++ x' :: r := by simp [List.set_append]
theorem y_at {ws r : va_W} {x : Nat × va_E} : (ws ++ x :: r)[ws.length]? = some x := by simp
theorem y_as {ws r : va_W} {x c : Nat × va_E} : (ws ++ x :: r) ++ [c] = ws ++ x :: (r ++ [c]) := by simp
theorem xgI {y : MethodName} {b : ByteArray} {n : Nat} {ret : Option FieldType} (h5 : Cond.code y b n ret ∈ xB) : GoodIn xB (Cond.code y b n ret :: xB) := by
  intro w hw
  refine xB_good ?_
  rcases List.mem_cons.mp hw with rfl | h
  · exact h5
  · exact h
section YR
variable {p : Program} {l : Launch} {e : Env} {R : Room} {s : State} {m : MethodId} {args : Array Value} {below : List Frame} {meth : Method} {c : Code} {H : Heap} {locs : List Loc} {cells slots : Nat} {Q : State → Prop}
variable {cc : ByteArray} {nL pc : Nat} {ls : Array Slot} {st0 rest : List Value} {own : String} {G : xG} {ws r : va_W}
theorem yMet_of {y : MethodName} {rm : Room} {maxL : Nat} {vs : List Value} {w0 : va_W} {Pw : va_W → Prop} (hy : plainName y.cls = true) (hn : y.name = "<init>") (hlen : (lg_sl vs).length ≤ maxL)
    (body : ∀ (p : Program) (e : Env) (s : State) (m : MethodId) (below : List Frame) (meth : Method) (c : Code), CallFix p m c cc maxL s vs.toArray xB y.cls → xTb G s s.heap → va_P G.1 vwCl w0 s.heap → va_D (xA G) w0 → meth.sig.returnType = none → meth.locks = false → meth.name = "<init>" →
      ∀ ls : Array Slot, lv_has ls maxL (lv_args 0 vs) → W p l e rm s m vs.toArray below meth c s.heap [] 0 0 (MQ below (yQ G Pw) vs.toArray s rm.cells rm.slots (xA G)) (F0 m 0 ls [])) : yMet l y (Cond.code y cc maxL none :: xB) rm G vs w0 Pw := by
  refine Met.ofW hy rfl ?_
  intro p e s m args below meth c s₁ B hml hv
  obtain ⟨rfl, hP, hD, hT⟩ := hv
  rw [lg_entry_eq]
  exact body p e s m below meth c ⟨B.exec, B.bytes, hml, findClass_of_methodNamed B.named, fun w hw => atoms_spec (ws := Cond.code y cc maxL none :: xB) B.pre w (List.mem_cons_of_mem _ hw)⟩ hT hP hD B.returns B.notSynchronized ((name_of_methodNamed B.named B.method).1.trans hn) _ (lv_entry vs hlen)
theorem yret {Pw : va_W → Prop} {w1 : va_W} {mc ms : Nat} (F : CallFix p m c cc nL s args xB own) (hr : meth.sig.returnType = none) (hlocks : meth.locks = false) (hS : va_S (xA G) s.heap H locs) (hPw : Pw w1) (hP : va_P G.1 vwCl w1 H) (hD : va_D (xA G) w1) (hc : cells ≤ mc) (hs : slots ≤ ms) (hdg : decode cc pc = .ok (.return_, 1)) :
    W p l e R s m args below meth c H locs cells slots (MQ below (yQ G Pw) args s mc ms (xA G)) (F0 m pc ls []) :=
  W.widen (k := mc) (n := ms) hc hs (W.vret F.1 F.2.1 hr (fun t ht _ => ⟨⟨rfl, w1, hPw, by rw [ht]; exact hP, hD⟩, hS.F ht⟩) (fun q hq => hS.2.2 q hq) hdg hlocks)
theorem yA_new (hT : xTb G s s.heap) : ∀ q : Nat, s.heap.size ≤ q → xA G q := fun q hq => Nat.le_trans hT.2.2.2.2.2.2.1 hq
/-- Object's own constructor -/
theorem yobj {idx a : Nat} (F : CallFix p m c cc nL s args xB own) (h1 : Cond.methodLink own idx objectInit ∈ xB) (h2 : Cond.instanceMethod objectInit ∈ xB) (h3 : Cond.code objectInit ⟨#[0xb1]⟩ 1 none ∈ xB) (hsize : ls.size = nL) (hd : decode cc pc = .ok (.invokespecial idx, 3)) (hframes : 1 ≤ R.frames) (hlocals : (rest.map fun v => v.category).sum + 12 ≤ R.locals)
    (kk : W p l e R s m args below meth c H locs cells slots Q (F0 m (pc + 3) ls rest)) : W p l e R s m args below meth c H locs cells slots Q (F0 m pc ls (.ref a :: rest)) := by
  obtain ⟨hx, hb, hml, hown, hts⟩ := F
  exact W.objInit hx hb hown (hts _ h1) (hts _ h2) (hts _ h3) rfl (hsize.trans hml.symm) rfl hd hframes (by show 2 * 0 + _ + 12 ≤ _; omega) kk
/-- new -/
theorem ynew {C : String} {T : u_T} {N ci index : Nat} {fs : List Value} {w : va_W} (F : CallFix p m c cc nL s args xB own) (hT : xTb G s s.heap) (hP : va_P G.1 vwCl w H) (hD : va_D (xA G) w) (hS : va_S (xA G) s.heap H locs) (hin : ∀ w ∈ u_ws C T N, w ∈ xB) (ty : Nat → FieldType) (hty : ∀ k, k < N → parseFieldDescriptor (T k).2.2.1 = some (ty k)) (h1 : Cond.classLink own index C ∈ xB) (h2 : Cond.instantiable C N ∈ xB) (h3 : Cond.initialized C ∈ xB)
    (hc : vwCl[ci]? = some (C, T, N)) (hfs : ∀ j, j < N → defaultValue (ty j) = vp_V fs j) (hcells : cells + 1 ≤ R.cells) (hslots : slots + N ≤ R.slots) (hdg : decode cc pc = .ok (.new index, 3))
    (kk : ∀ (q : Nat) (H : Heap), va_P G.1 vwCl (w ++ [(q, .inr (ci, fs))]) H → va_D (xA G) (w ++ [(q, .inr (ci, fs))]) → va_S (xA G) s.heap H locs → W p l e R s m args below meth c H locs (cells + 1) (slots + N) Q (F0 m (pc + 3) ls (.ref q :: st0))) : W p l e R s m args below meth c H locs cells slots Q (F0 m pc ls st0) := by
  obtain ⟨hx, hb, hml, hown, hts⟩ := F
  exact va_new (ci := ci) (fs := fs) (C := C) (T := T) (N := N) hx hb hts hin ty hty hown (hts _ h1) (hts _ h2) (hts _ h3) hT.1 hP hD hS (yA_new hT) hc hfs hcells hslots hdg kk
/-- a field of the object under way: not final, final -/
theorem yput {C : String} {T : u_T} {N ci index a : Nat} {fs : List Value} {v : Value} (F : CallFix p m c cc nL s args xB own) (hT : xTb G s s.heap) (hP : va_P G.1 vwCl (ws ++ (a, .inr (ci, fs)) :: r) H) (hD : va_D (xA G) (ws ++ (a, .inr (ci, fs)) :: r)) (hS : va_S (xA G) s.heap H locs) (hin : ∀ w ∈ u_ws C T N, w ∈ xB) (ty0 : Nat → FieldType) (hty : ∀ k, k < N → parseFieldDescriptor (T k).2.2.1 = some (ty0 k)) (hnm : ∀ a, a < N → ∀ b, b < N → a ≠ b → (T a).2.1 ≠ (T b).2.1) (hc : vwCl[ci]? = some (C, T, N)) (fi : Nat) (hfi : fi < N) (hlink : Cond.fieldLink own index C (T fi).2.1 (T fi).2.2.1 ∈ xB) (hsame : (T fi).1 = C) (hfin : (T fi).2.2.2 = false) {ty : FieldType} (hd : parseFieldDescriptor (T fi).2.2.1 = some ty) (hn : narrow ty v = v) (hfit : fits ty v = true) (hl : fi < fs.length) (hdg : decode cc pc = .ok (.putfield index, 3))
    (kk : ∀ (H : Heap) (locs : List Loc), va_P G.1 vwCl (ws ++ (a, .inr (ci, fs.set fi v)) :: r) H → va_D (xA G) (ws ++ (a, .inr (ci, fs.set fi v)) :: r) → va_S (xA G) s.heap H locs → W p l e R s m args below meth c H locs cells slots Q (F0 m (pc + 3) ls rest)) : W p l e R s m args below meth c H locs cells slots Q (F0 m pc ls (v :: .ref a :: rest)) := by
  obtain ⟨hx, hb, hml, hown, hts⟩ := F
  refine va_put hx hb hts hin ty0 hty hnm hown hT.1 hP hD hS ws.length y_at hc fi hfi (hts _ hlink) (fun x h => by rw [hsame] at h; exact h) hfin hd hn hfit hl hdg (fun H1 locs1 hP hD hS1 => ?_)
  rw [y_set] at hP hD
  exact kk H1 locs1 hP hD hS1
theorem yputF {C : String} {T : u_T} {N ci index a : Nat} {fs : List Value} {v : Value} (F : CallFix p m c cc nL s args xB own) (hT : xTb G s s.heap) (hP : va_P G.1 vwCl (ws ++ (a, .inr (ci, fs)) :: r) H) (hD : va_D (xA G) (ws ++ (a, .inr (ci, fs)) :: r)) (hS : va_S (xA G) s.heap H locs) (hin : ∀ w ∈ u_ws C T N, w ∈ xB) (ty0 : Nat → FieldType) (hty : ∀ k, k < N → parseFieldDescriptor (T k).2.2.1 = some (ty0 k)) (hnm : ∀ a, a < N → ∀ b, b < N → a ≠ b → (T a).2.1 ≠ (T b).2.1) (hc : vwCl[ci]? = some (C, T, N)) (hmn : meth.name = "<init>") (fi : Nat) (hfi : fi < N) (hlink : Cond.fieldLink own index C (T fi).2.1 (T fi).2.2.1 ∈ xB) (hsame : (T fi).1 = C) (hown0 : own = C) (hfin : (T fi).2.2.2 = true) {ty : FieldType} (hd : parseFieldDescriptor (T fi).2.2.1 = some ty) (hn : narrow ty v = v) (hfit : fits ty v = true) (hl : fi < fs.length) (hdg : decode cc pc = .ok (.putfield index, 3))
    (kk : ∀ (H : Heap) (locs : List Loc), va_P G.1 vwCl (ws ++ (a, .inr (ci, fs.set fi v)) :: r) H → va_D (xA G) (ws ++ (a, .inr (ci, fs.set fi v)) :: r) → va_S (xA G) s.heap H locs → W p l e R s m args below meth c H locs cells slots Q (F0 m (pc + 3) ls rest)) : W p l e R s m args below meth c H locs cells slots Q (F0 m pc ls (v :: .ref a :: rest)) := by
  obtain ⟨hx, hb, hml, hown, hts⟩ := F
  refine va_putF hx hb hts hin ty0 hty hnm hown hT.1 hP hD hS ws.length y_at hc fi hfi (hts _ hlink) (fun x h => by rw [hsame] at h; exact h) hfin hmn (hsame.trans hown0.symm) hd hn hfit hl hdg (fun H1 locs1 hP hD hS1 => ?_)
  rw [y_set] at hP hD
  exact kk H1 locs1 hP hD hS1
theorem yrun_go {Pw : va_W → Prop} {mc ms : Nat} {a : Array Value} (hr : va_Run p l e R s m args below meth c H locs cells slots mc ms (F0 m pc ls st0) rest (yQ G Pw a) (xA G)) (hS : va_S (xA G) s.heap H locs)
    (kn : ∀ (w1 : va_W) (H : Heap) (locs : List Loc), Pw w1 → va_P G.1 vwCl w1 H → va_D (xA G) w1 → va_S (xA G) s.heap H locs → W p l e R s m args below meth c H locs (cells + mc) (slots + ms) Q (F0 m (pc + 3) ls rest)) : W p l e R s m args below meth c H locs cells slots Q (F0 m pc ls st0) := by
  intro T hT X
  obtain ⟨v, st₀, t, T', L, h0, X', hL, e1, e2, ⟨⟨hv, w1, hw, hp, hd⟩, hF⟩, st⟩ := hr T hT X
  cases hv
  obtain ⟨-, -, k3⟩ := vx_keep h0 e1 hS (fun q _ h => h) (fun q h => h) hL hF
  obtain ⟨t2, a1, b1⟩ := kn w1 T'.heap (locs ++ L) hw (by rw [e1]; exact hp) hd k3 T' rfl X'
  exact ⟨t2, st t2 a1, b1⟩
theorem ycallI {index maxL n b : Nat} {As : List Value} {y : MethodName} {bytes : ByteArray} {rm : Room} {w0 : va_W} {Pw : va_W → Prop} (F : CallFix p m c cc nL s args xB own) (hT : xTb G s s.heap) (hP : va_P G.1 vwCl w0 H) (hD : va_D (xA G) w0) (hS : va_S (xA G) s.heap H locs)
    (hM : yMet l y (Cond.code y bytes maxL none :: xB) rm G (.ref b :: As) w0 Pw) (h1 : Cond.methodLink own index y ∈ xB) (h2 : Cond.instanceMethod y ∈ xB) (h3 : Cond.initialized y.cls ∈ xB) (h5 : Cond.code y bytes maxL none ∈ xB) (hy1 : y.name = "<init>")
    (hd : y.cls ≠ "java/lang/invoke/MethodHandle" ∧ y.cls ≠ "java/lang/invoke/VarHandle" ∧ (parseMethodDescriptor y.desc).map (fun d => d.parameters.length) = some n) (hR : rm.frames + 1 ≤ R.frames ∧ 8 + (maxL + 11) + rm.locals ≤ R.locals)
    (hn : As.length = n) (hsize : ls.size = nL) (hst : st0 = As.reverse ++ .ref b :: rest) (hrest : (rest.map fun v => v.category).sum ≤ 8) (hdg : decode cc pc = .ok (.invokespecial index, 3)) (hf : cells + rm.cells ≤ R.cells ∧ slots + rm.slots ≤ R.slots)
    (kn : ∀ (w1 : va_W) (H : Heap) (locs : List Loc), Pw w1 → va_P G.1 vwCl w1 H → va_D (xA G) w1 → va_S (xA G) s.heap H locs → W p l e R s m args below meth c H locs (cells + rm.cells) (slots + rm.slots) Q (F0 m (pc + 3) ls rest)) : W p l e R s m args below meth c H locs cells slots Q (F0 m pc ls st0) := by
  refine yrun_go (va_runI F hM (cwI n F.2.2.2.2 (xgI h5) rfl rfl rfl (F.2.2.2.2 _ h3) (F.2.2.2.2 _ h1) (F.2.2.2.2 _ h2) hy1 hd hR) ⟨yPc_blind, fun U hU hWm => ⟨rfl, ?_, hD, hT.go hS hWm hU⟩⟩ rfl hn hsize hst (lv_room hrest) hdg hf) hS kn
  rw [hU]
  exact hP
theorem ycallIN {index maxL n b : Nat} {As : List Value} {y : MethodName} {bytes : ByteArray} {rm : Room} {w0 : va_W} {Pw : va_W → Prop} {host : String} (F : CallFix p m c cc nL s args xB own) (hT : xTb G s s.heap) (hP : va_P G.1 vwCl w0 H) (hD : va_D (xA G) w0) (hS : va_S (xA G) s.heap H locs)
    (hM : yMet l y (Cond.code y bytes maxL none :: xB) rm G (.ref b :: As) w0 Pw) (h1 : Cond.methodLinkNest own index y host ∈ xnw) (h2 : Cond.instanceMethod y ∈ xB) (h3 : Cond.initialized y.cls ∈ xB) (h5 : Cond.code y bytes maxL none ∈ xB) (hy1 : y.name = "<init>")
    (hd : y.cls ≠ "java/lang/invoke/MethodHandle" ∧ y.cls ≠ "java/lang/invoke/VarHandle" ∧ (parseMethodDescriptor y.desc).map (fun d => d.parameters.length) = some n) (hR : rm.frames + 1 ≤ R.frames ∧ 8 + (maxL + 11) + rm.locals ≤ R.locals)
    (hn : As.length = n) (hsize : ls.size = nL) (hst : st0 = As.reverse ++ .ref b :: rest) (hrest : (rest.map fun v => v.category).sum ≤ 8) (hdg : decode cc pc = .ok (.invokespecial index, 3)) (hf : cells + rm.cells ≤ R.cells ∧ slots + rm.slots ≤ R.slots)
    (kn : ∀ (w1 : va_W) (H : Heap) (locs : List Loc), Pw w1 → va_P G.1 vwCl w1 H → va_D (xA G) w1 → va_S (xA G) s.heap H locs → W p l e R s m args below meth c H locs (cells + rm.cells) (slots + rm.slots) Q (F0 m (pc + 3) ls rest)) : W p l e R s m args below meth c H locs cells slots Q (F0 m pc ls st0) := by
  refine yrun_go (va_runIN F hM ⟨va_cnB n F.2.2.2.2 (xgI h5) rfl rfl rfl (hT.2.2.2.2.1 _ h1) (F.2.2.2.2 _ h3) hd hR, hy1, F.2.2.2.2 _ h2⟩ ⟨yPc_blind, fun U hU hWm => ⟨rfl, ?_, hD, hT.go hS hWm hU⟩⟩ rfl hn hsize hst (lv_room hrest) hdg hf) hS kn
  rw [hU]
  exact hP
theorem yRA_inj {U : State} {c1 c2 : ClassId} {ty : FieldType} (h1 : va_RA U c1 ty) (h2 : va_RA U c2 ty) : c1 = c2 := by
  cases ty with
  | object C =>
    obtain ⟨k1, p1, -, -, -, e1⟩ := h1
    obtain ⟨k2, p2, -, -, -, e2⟩ := h2
    exact Option.some.inj (e1.symm.trans e2)
  | _ => exact Option.some.inj (Eq.trans (Eq.symm h1) h2)
/-- a new array of numbers -/
theorem ynewa {w : va_W} {atype : ArrayType} {ty : FieldType} {n : Int32} {N' i : Nat} {a0 : vp_A} (F : CallFix p m c cc nL s args xB own) (hT : xTb G s s.heap) (hP : va_P G.1 vwCl w H) (hD : va_D (xA G) w) (hS : va_S (xA G) s.heap H locs) (hi : (xtys G)[i]? = some (G.2.2 i, ty)) (hty : newarray.typeOf atype = ty) (harr : Cond.arrayClass (newarray.typeOf atype) ∈ xB) (ha : ∀ cA : ClassId, vp_cell cA a0 = arrV cA N' (fun _ => defaultValue ty)) (hn : ¬ n < 0) (hN : n.toNatClampNeg = N') (hbytes : N' * componentBytes ty ≤ 536870912) (hcells : cells + 1 ≤ R.cells) (hslots : slots + N' ≤ R.slots) (hdg : decode cc pc = .ok (.newarray atype, 2))
    (kk : ∀ (q : Nat) (H : Heap), va_P G.1 vwCl (w ++ [(q, .inl (G.2.2 i, a0))]) H → va_D (xA G) (w ++ [(q, .inl (G.2.2 i, a0))]) → va_S (xA G) s.heap H locs → W p l e R s m args below meth c H locs (cells + 1) (slots + N') Q (F0 m (pc + 2) ls (.ref q :: rest))) : W p l e R s m args below meth c H locs cells slots Q (F0 m pc ls (.int n :: rest)) := by
  obtain ⟨hx, hb, hml, hown, hts⟩ := F
  refine va_newa hx hb (hts _ harr) hty hT.1 hP hD hS (yA_new hT) ha hn hN hbytes hcells hslots hdg (fun q cA H1 hK hP hD hS => ?_)
  have e : cA = G.2.2 i := yRA_inj (hK.2 _ (cA, ty) (by rw [List.getElem?_append_right (Nat.le_refl _), Nat.sub_self]; rfl)).2 (hT.1.2 i _ hi).2
  subst e
  exact kk q H1 hP hD hS
/-- a new row of objects -/
theorem ynewq {w : va_W} {C : String} {index : Nat} {n : Int32} {N' i : Nat} (F : CallFix p m c cc nL s args xB own) (hT : xTb G s s.heap) (hP : va_P G.1 vwCl w H) (hD : va_D (xA G) w) (hS : va_S (xA G) s.heap H locs) (hi : (xtys G)[i]? = some (G.2.2 i, .object C)) (h1 : Cond.classLink own index C ∈ xB) (hover : va_AO C s) (hn : ¬ n < 0) (hN : n.toNatClampNeg = N') (hbytes : N' * 4 ≤ 536870912) (hcells : cells + 1 ≤ R.cells) (hslots : slots + N' ≤ R.slots) (hdg : decode cc pc = .ok (.anewarray index, 3))
    (kk : ∀ (q : Nat) (H : Heap), va_P G.1 vwCl (w ++ [(q, .inl (G.2.2 i, N', .inr (.inr (.inr (.inr (fun _ => none))))))]) H → va_D (xA G) (w ++ [(q, .inl (G.2.2 i, N', .inr (.inr (.inr (.inr (fun _ => none))))))]) → va_S (xA G) s.heap H locs → W p l e R s m args below meth c H locs (cells + 1) (slots + N') Q (F0 m (pc + 3) ls (.ref q :: rest))) : W p l e R s m args below meth c H locs cells slots Q (F0 m pc ls (.int n :: rest)) := by
  obtain ⟨hx, hb, hml, hown, hts⟩ := F
  refine va_newq hx hb hown (hts _ h1) hover hT.1 hP hD hS (yA_new hT) hn hN hbytes hcells hslots hdg (fun q cA H1 hK hP hD hS => ?_)
  have e : cA = G.2.2 i := yRA_inj (hK.2 _ (cA, .object C) (by rw [List.getElem?_append_right (Nat.le_refl _), Nat.sub_self]; rfl)).2 (hT.1.2 i _ hi).2
  subst e
  exact kk q H1 hP hD hS
end YR
