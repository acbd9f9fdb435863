/-! ROWS over the world: fields, arrays, calls, ends. -/
def xuC (f : Nat → Nat → Nat → Int32) (k j i : Nat) (v : Int32) : Nat → Nat → Nat → Int32 := fun a b d => if a = k ∧ b = j ∧ d = i then v else f a b d
def xuR (f : Nat → Nat → Int32) (k j : Nat) (v : Int32) : Nat → Nat → Int32 := fun a b => if a = k ∧ b = j then v else f a b
/-- an element of a row of objects, of which the first n stand -/
def xel (n : Nat) (i : Int32) : Option Nat := if i.toNatClampNeg < n then some i.toNatClampNeg else none
section XR
variable {p : Program} {l : Launch} {e : Env} {R : Room} {s : State} {m : MethodId} {args : Array Value} {below : List Frame} {meth : Method} {c : Code} {H : Heap} {locs : List Loc} {cells slots : Nat} {Q : State → Prop}
variable {cc : ByteArray} {nL pc : Nat} {ls : Array Slot} {st0 rest : List Value} {Ts : List Cond} {own : String} {G : xG} {sh : xSh} {sc : xSC} {sr : xSR} {sl : xSL}
theorem xget {C : String} {T : u_T} {N ci index k j : Nat} {fs : List Value} {v : Value} (F : CallFix p m c cc nL s args Ts own) (hT : xTb G s s.heap) (hW : xWd G sh sc sr sl H) (hin : ∀ w ∈ u_ws C T N, w ∈ Ts) (hm : (k, j) ∈ xix sh) (he : xce G sh sc sr sl k j = .inr (ci, fs)) (hc : vwCl[ci]? = some (C, T, N)) (fi : Nat) (hfi : fi < N) (hlink : Cond.fieldLink own index C (T fi).2.1 (T fi).2.2.1 ∈ Ts) (hsame : (T fi).1 = C) (hv : fs[fi]? = some v) (hdg : decode cc pc = .ok (.getfield index, 3))
    (kk : W p l e R s m args below meth c H locs cells slots Q (F0 m (pc + 3) ls (v :: rest))) : W p l e R s m args below meth c H locs cells slots Q (F0 m pc ls (.ref (sh.1 k j) :: rest)) := by
  obtain ⟨hx, hb, hml, hown, hts⟩ := F
  obtain ⟨i, -, hi⟩ := xW_get (ad := sh.1) (ce := xce G sh sc sr sl) hm
  rw [he] at hi
  exact va_get hx hb hts hin hown hT.1 hW.1 i hi hc fi hfi (hts _ hlink) (fun x h => by rw [hsame] at h; exact h) hv hdg kk
theorem xgetN {C host : String} {T : u_T} {N ci index k j : Nat} {fs : List Value} {v : Value} (F : CallFix p m c cc nL s args Ts own) (hT : xTb G s s.heap) (hW : xWd G sh sc sr sl H) (hin : ∀ w ∈ u_ws C T N, w ∈ Ts) (hm : (k, j) ∈ xix sh) (he : xce G sh sc sr sl k j = .inr (ci, fs)) (hc : vwCl[ci]? = some (C, T, N)) (fi : Nat) (hfi : fi < N) (hlink : Cond.fieldLinkNest own index C (T fi).2.1 (T fi).2.2.1 host ∈ xnw) (hsame : (T fi).1 = C) (hv : fs[fi]? = some v) (hdg : decode cc pc = .ok (.getfield index, 3))
    (kk : W p l e R s m args below meth c H locs cells slots Q (F0 m (pc + 3) ls (v :: rest))) : W p l e R s m args below meth c H locs cells slots Q (F0 m pc ls (.ref (sh.1 k j) :: rest)) := by
  obtain ⟨hx, hb, hml, hown, hts⟩ := F
  obtain ⟨i, -, hi⟩ := xW_get (ad := sh.1) (ce := xce G sh sc sr sl) hm
  rw [he] at hi
  exact va_getN hx hb hts hin hown hT.1 hW.1 i hi hc fi hfi (va_Nw.use rfl (hT.2.2.2.2.1 _ hlink)) (fun x h => by rw [hsame] at h; exact h) hv hdg kk
theorem xput {C : String} {T : u_T} {N ci index k j : Nat} {fs : List Value} {v : Value} {sc' : xSC} {sr' : xSR} {sl' : xSL} (F : CallFix p m c cc nL s args Ts own) (hT : xTb G s s.heap) (hW : xWd G sh sc sr sl H) (hS : va_S (xA G) s.heap H locs) (hin : ∀ w ∈ u_ws C T N, w ∈ Ts) (ty0 : Nat → FieldType) (hty : ∀ k, k < N → parseFieldDescriptor (T k).2.2.1 = some (ty0 k)) (hnm : ∀ a, a < N → ∀ b, b < N → a ≠ b → (T a).2.1 ≠ (T b).2.1) (hm : (k, j) ∈ xix sh) (he : xce G sh sc sr sl k j = .inr (ci, fs)) (hc : vwCl[ci]? = some (C, T, N)) (fi : Nat) (hfi : fi < N) (hlink : Cond.fieldLink own index C (T fi).2.1 (T fi).2.2.1 ∈ Ts) (hsame : (T fi).1 = C) (hfin : (T fi).2.2.2 = false) {ty : FieldType} (hd : parseFieldDescriptor (T fi).2.2.1 = some ty) (hn : narrow ty v = v) (hfit : fits ty v = true) (hl : fi < fs.length) (hup : xu2 (xce G sh sc sr sl) k j (.inr (ci, fs.set fi v)) = xce G sh sc' sr' sl') (hdg : decode cc pc = .ok (.putfield index, 3))
    (kk : ∀ (H : Heap) (locs : List Loc), xWd G sh sc' sr' sl' H → va_S (xA G) s.heap H locs → W p l e R s m args below meth c H locs cells slots Q (F0 m (pc + 3) ls rest)) : W p l e R s m args below meth c H locs cells slots Q (F0 m pc ls (v :: .ref (sh.1 k j) :: rest)) := by
  obtain ⟨hx, hb, hml, hown, hts⟩ := F
  obtain ⟨i, hi0, hi⟩ := xW_get (ad := sh.1) (ce := xce G sh sc sr sl) hm
  rw [he] at hi
  refine va_put hx hb hts hin ty0 hty hnm hown hT.1 hW.1 hW.2 hS i hi hc fi hfi (hts _ hlink) (fun x h => by rw [hsame] at h; exact h) hfin hd hn hfit hl hdg (fun H1 locs1 hP hD hS1 => ?_)
  rw [xW_set hW.2 hi0, hup] at hP hD
  exact kk H1 locs1 ⟨hP, hD⟩ hS1
theorem xputN {C host : String} {T : u_T} {N ci index k j : Nat} {fs : List Value} {v : Value} {sc' : xSC} {sr' : xSR} {sl' : xSL} (F : CallFix p m c cc nL s args Ts own) (hT : xTb G s s.heap) (hW : xWd G sh sc sr sl H) (hS : va_S (xA G) s.heap H locs) (hin : ∀ w ∈ u_ws C T N, w ∈ Ts) (ty0 : Nat → FieldType) (hty : ∀ k, k < N → parseFieldDescriptor (T k).2.2.1 = some (ty0 k)) (hnm : ∀ a, a < N → ∀ b, b < N → a ≠ b → (T a).2.1 ≠ (T b).2.1) (hm : (k, j) ∈ xix sh) (he : xce G sh sc sr sl k j = .inr (ci, fs)) (hc : vwCl[ci]? = some (C, T, N)) (fi : Nat) (hfi : fi < N) (hlink : Cond.fieldLinkNest own index C (T fi).2.1 (T fi).2.2.1 host ∈ xnw) (hsame : (T fi).1 = C) (hfin : (T fi).2.2.2 = false) {ty : FieldType} (hd : parseFieldDescriptor (T fi).2.2.1 = some ty) (hn : narrow ty v = v) (hfit : fits ty v = true) (hl : fi < fs.length) (hup : xu2 (xce G sh sc sr sl) k j (.inr (ci, fs.set fi v)) = xce G sh sc' sr' sl') (hdg : decode cc pc = .ok (.putfield index, 3))
    (kk : ∀ (H : Heap) (locs : List Loc), xWd G sh sc' sr' sl' H → va_S (xA G) s.heap H locs → W p l e R s m args below meth c H locs cells slots Q (F0 m (pc + 3) ls rest)) : W p l e R s m args below meth c H locs cells slots Q (F0 m pc ls (v :: .ref (sh.1 k j) :: rest)) := by
  obtain ⟨hx, hb, hml, hown, hts⟩ := F
  obtain ⟨i, hi0, hi⟩ := xW_get (ad := sh.1) (ce := xce G sh sc sr sl) hm
  rw [he] at hi
  refine va_putN hx hb hts hin ty0 hty hnm hown hT.1 hW.1 hW.2 hS i hi hc fi hfi (va_Nw.use rfl (hT.2.2.2.2.1 _ hlink)) (fun x h => by rw [hsame] at h; exact h) hfin hd hn hfit hl hdg (fun H1 locs1 hP hD hS1 => ?_)
  rw [xW_set hW.2 hi0, hup] at hP hD
  exact kk H1 locs1 ⟨hP, hD⟩ hS1
/-- the reference's rows -/
theorem xce_13 {j : Nat} (hj : j < 50) : xce G sh sc sr sl 13 j = .inl (if j = 2 then G.2.2 1 else G.2.2 0, xlen j, .inl (fun i => sr.1 j i)) := by
  simp [xce, hj]
theorem xce_13u {j : Nat} (hj : j < 50) {i : Nat} {x : Int32} : xu2 (xce G sh sc sr sl) 13 j (.inl (if j = 2 then G.2.2 1 else G.2.2 0, xlen j, .inl (upd (fun i => sr.1 j i) i x))) = xce G sh sc (xuR sr.1 j i x, sr.2) sl := by
  have e : ∀ n : Nat, 100 ≤ n → ¬ n = j := fun n hn => by omega
  funext a b
  by_cases h : a = 13
  · subst h
    by_cases hb : b = j
    · subst hb
      simp only [xu2, xce_13 hj, and_self, if_true]
      congr 4
      funext y
      simp [xuR, upd]
    · by_cases hb5 : b < 50
      · simp only [xu2, xce_13 hb5, hb, and_false, if_false]
        congr 4
        funext y
        simp [xuR, hb]
      · simp [xu2, xce, hb, hb5]
  · simp [xu2, xce, xuR, h, e]
theorem xmald {j : Nat} (hj5 : j < 50) (F : CallFix p m c cc nL s args Ts own) (hT : xTb G s s.heap) (hW : xWd G sh sc sr sl H) (hm : (13, j) ∈ xix sh) (hj : ¬ j = 2) {i : Int32} (hin : vp_in i (xlen j)) (hdg : decode cc pc = .ok (.iaload, 1))
    (kk : W p l e R s m args below meth c H locs cells slots Q (F0 m (pc + 1) ls (.int (sr.1 j i.toNatClampNeg) :: rest))) : W p l e R s m args below meth c H locs cells slots Q (F0 m pc ls (.int i :: .ref (sh.1 13 j) :: rest)) := by
  obtain ⟨hx, hb, hml, hown, hts⟩ := F
  obtain ⟨q, -, hi⟩ := xW_get (ad := sh.1) (ce := xce G sh sc sr sl) hm
  rw [xce_13 hj5, if_neg hj] at hi
  exact va_iald hx hb hT.1 hW.1 q 0 hi rfl hin hdg kk
theorem xmbld (F : CallFix p m c cc nL s args Ts own) (hT : xTb G s s.heap) (hW : xWd G sh sc sr sl H) {i : Int32} (hin : vp_in i (xlen 2)) (hdg : decode cc pc = .ok (.baload, 1))
    (kk : W p l e R s m args below meth c H locs cells slots Q (F0 m (pc + 1) ls (.int (sr.1 2 i.toNatClampNeg) :: rest))) : W p l e R s m args below meth c H locs cells slots Q (F0 m pc ls (.int i :: .ref (sh.1 13 2) :: rest)) := by
  obtain ⟨hx, hb, hml, hown, hts⟩ := F
  obtain ⟨q, -, hi⟩ := xW_get (ad := sh.1) (ce := xce G sh sc sr sl) (ix := xix sh) (k := 13) (j := 2) (xm_fix (by decide))
  rw [xce_13 (by decide), if_pos rfl] at hi
  exact va_zald hx hb hT.1 hW.1 q 1 hi rfl hin hdg kk
theorem xmast {j : Nat} (hj5 : j < 50) (F : CallFix p m c cc nL s args Ts own) (hT : xTb G s s.heap) (hW : xWd G sh sc sr sl H) (hS : va_S (xA G) s.heap H locs) (hm : (13, j) ∈ xix sh) (hj : ¬ j = 2) {i x : Int32} (hin : vp_in i (xlen j)) (hdg : decode cc pc = .ok (.iastore, 1))
    (kk : ∀ (H : Heap) (locs : List Loc), xWd G sh sc (xuR sr.1 j i.toNatClampNeg x, sr.2) sl H → va_S (xA G) s.heap H locs → W p l e R s m args below meth c H locs cells slots Q (F0 m (pc + 1) ls rest)) : W p l e R s m args below meth c H locs cells slots Q (F0 m pc ls (.int x :: .int i :: .ref (sh.1 13 j) :: rest)) := by
  obtain ⟨hx, hb, hml, hown, hts⟩ := F
  obtain ⟨q, hi0, hi⟩ := xW_get (ad := sh.1) (ce := xce G sh sc sr sl) hm
  rw [xce_13 hj5, if_neg hj] at hi
  have hup := xce_13u (G := G) (hj := hj5) (sh := sh) (sc := sc) (sr := sr) (sl := sl) (j := j) (i := i.toNatClampNeg) (x := x)
  rw [if_neg hj] at hup
  refine va_iast hx hb hT.1 hW.1 hW.2 hS q 0 hi rfl hin hdg (fun H1 locs1 hP hD hS1 => ?_)
  rw [xW_set hW.2 hi0, hup] at hP hD
  exact kk H1 locs1 ⟨hP, hD⟩ hS1
theorem xmbst (F : CallFix p m c cc nL s args Ts own) (hT : xTb G s s.heap) (hW : xWd G sh sc sr sl H) (hS : va_S (xA G) s.heap H locs) {i x : Int32} (hx0 : vp_nar .boolean x = x) (hin : vp_in i (xlen 2)) (hdg : decode cc pc = .ok (.bastore, 1))
    (kk : ∀ (H : Heap) (locs : List Loc), xWd G sh sc (xuR sr.1 2 i.toNatClampNeg x, sr.2) sl H → va_S (xA G) s.heap H locs → W p l e R s m args below meth c H locs cells slots Q (F0 m (pc + 1) ls rest)) : W p l e R s m args below meth c H locs cells slots Q (F0 m pc ls (.int x :: .int i :: .ref (sh.1 13 2) :: rest)) := by
  obtain ⟨hx, hb, hml, hown, hts⟩ := F
  obtain ⟨q, hi0, hi⟩ := xW_get (ad := sh.1) (ce := xce G sh sc sr sl) (ix := xix sh) (k := 13) (j := 2) (xm_fix (by decide))
  rw [xce_13 (by decide), if_pos rfl] at hi
  have hup := xce_13u (G := G) (hj := by decide) (sh := sh) (sc := sc) (sr := sr) (sl := sl) (j := 2) (i := i.toNatClampNeg) (x := x)
  rw [if_pos rfl] at hup
  refine va_zast hx hb hT.1 hW.1 hW.2 hS q 1 hi rfl hin hdg (fun H1 locs1 hP hD hS1 => ?_)
  rw [hx0, xW_set hW.2 hi0, hup] at hP hD
  exact kk H1 locs1 ⟨hP, hD⟩ hS1
/-- the class's two rows of objects -/
theorem xaldS (F : CallFix p m c cc nL s args Ts own) (hT : xTb G s s.heap) (hW : xWd G sh sc sr sl H) {i : Int32} (hin : vp_in i 4) (hdg : decode cc pc = .ok (.aaload, 1))
    (kk : W p l e R s m args below meth c H locs cells slots Q (F0 m (pc + 1) ls (va_rf (Option.map (fun q => sh.1 4 q) (xel sh.2.1 i)) :: rest))) : W p l e R s m args below meth c H locs cells slots Q (F0 m pc ls (.int i :: .ref (sh.1 1 0) :: rest)) := by
  obtain ⟨hx, hb, hml, hown, hts⟩ := F
  obtain ⟨q, -, hi⟩ := xW_get (ad := sh.1) (ce := xce G sh sc sr sl) (ix := xix sh) (k := 1) (j := 0) (xm_fix (by decide))
  refine va_aldq hx hb hT.1 hW.1 q 2 hi rfl hin hdg (W.eq ?_ kk)
  unfold xel
  split <;> rfl
theorem xaldT (F : CallFix p m c cc nL s args Ts own) (hT : xTb G s s.heap) (hW : xWd G sh sc sr sl H) {i : Int32} (hin : vp_in i 6) (hdg : decode cc pc = .ok (.aaload, 1))
    (kk : W p l e R s m args below meth c H locs cells slots Q (F0 m (pc + 1) ls (va_rf (Option.map (fun q => sh.1 11 q) (xel sh.2.2 i)) :: rest))) : W p l e R s m args below meth c H locs cells slots Q (F0 m pc ls (.int i :: .ref (sh.1 2 0) :: rest)) := by
  obtain ⟨hx, hb, hml, hown, hts⟩ := F
  obtain ⟨q, -, hi⟩ := xW_get (ad := sh.1) (ce := xce G sh sc sr sl) (ix := xix sh) (k := 2) (j := 0) (xm_fix (by decide))
  refine va_aldq hx hb hT.1 hW.1 q 3 hi rfl hin hdg (W.eq ?_ kk)
  unfold xel
  split <;> rfl
theorem xalenS (F : CallFix p m c cc nL s args Ts own) (hT : xTb G s s.heap) (hW : xWd G sh sc sr sl H) (hdg : decode cc pc = .ok (.arraylength, 1))
    (kk : W p l e R s m args below meth c H locs cells slots Q (F0 m (pc + 1) ls (.int 4 :: rest))) : W p l e R s m args below meth c H locs cells slots Q (F0 m pc ls (.ref (sh.1 1 0) :: rest)) := by
  obtain ⟨hx, hb, hml, hown, hts⟩ := F
  obtain ⟨q, -, hi⟩ := xW_get (ad := sh.1) (ce := xce G sh sc sr sl) (ix := xix sh) (k := 1) (j := 0) (xm_fix (by decide))
  exact va_alen hx hb hT.1 hW.1 q 2 hi rfl rfl hdg kk
theorem xalenT (F : CallFix p m c cc nL s args Ts own) (hT : xTb G s s.heap) (hW : xWd G sh sc sr sl H) (hdg : decode cc pc = .ok (.arraylength, 1))
    (kk : W p l e R s m args below meth c H locs cells slots Q (F0 m (pc + 1) ls (.int 6 :: rest))) : W p l e R s m args below meth c H locs cells slots Q (F0 m pc ls (.ref (sh.1 2 0) :: rest)) := by
  obtain ⟨hx, hb, hml, hown, hts⟩ := F
  obtain ⟨q, -, hi⟩ := xW_get (ad := sh.1) (ce := xce G sh sc sr sl) (ix := xix sh) (k := 2) (j := 0) (xm_fix (by decide))
  exact va_alen hx hb hT.1 hW.1 q 3 hi rfl rfl hdg kk
end XR
