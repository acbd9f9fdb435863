/-! a shard or a tenant more: the world's new shape -/
theorem va_P_mem {D : va_G} {cl : List vw_C} {ws ws' : va_W} {H : Heap} (h : va_P D cl ws H) (hm : ∀ q ∈ ws', q ∈ ws) : va_P D cl ws' H := by
  intro k q hk
  obtain ⟨i, hi⟩ := List.getElem?_of_mem (hm q (List.mem_of_getElem? hk))
  exact h i q hi
theorem va_D_nd {A : Nat → Prop} {ws : va_W} (h : va_D A ws) : (ws.map Prod.fst).Nodup := by
  rw [List.nodup_iff_pairwise_ne, List.pairwise_iff_getElem]
  intro i j hi hj hij he
  simp only [List.length_map] at hi hj
  simp only [List.getElem_map] at he
  exact absurd (h.1 i j _ _ (List.getElem?_eq_getElem hi) (List.getElem?_eq_getElem hj) he) (Nat.ne_of_lt hij)
theorem va_D_of_nd {A : Nat → Prop} {ws : va_W} (h : (ws.map Prod.fst).Nodup) (hA : ∀ q ∈ ws, A q.1) : va_D A ws := by
  refine ⟨fun i j p q hi hj he => ?_, fun k q hk => hA q (List.mem_of_getElem? hk)⟩
  obtain ⟨li, ei⟩ := List.getElem?_eq_some_iff.mp hi
  obtain ⟨lj, ej⟩ := List.getElem?_eq_some_iff.mp hj
  rw [List.nodup_iff_pairwise_ne, List.pairwise_iff_getElem] at h
  rcases Nat.lt_trichotomy i j with hlt | heq | hgt
  · have := h i j (by simpa using li) (by simpa using lj) hlt
    simp only [List.getElem_map, ei, ej] at this
    exact absurd he this
  · exact heq
  · have := h j i (by simpa using lj) (by simpa using li) hgt
    simp only [List.getElem_map, ei, ej] at this
    exact absurd he.symm this
theorem va_D_perm {A : Nat → Prop} {ws ws' : va_W} (h : va_D A ws) (hp : ws'.Perm ws) : va_D A ws' := by
  refine va_D_of_nd ((hp.map Prod.fst).nodup_iff.mpr (va_D_nd h)) (fun q hq => ?_)
  obtain ⟨i, hi⟩ := List.getElem?_of_mem (hp.mem_iff.mp hq)
  exact h.2 i q hi
theorem xfix_k {q : Nat × Nat} (h : q ∈ xfix) : q.1 = 0 ∨ q.1 = 1 ∨ q.1 = 2 ∨ q.1 = 3 ∨ q.1 = 10 ∨ q.1 = 12 ∨ q.1 = 13 ∨ q.1 = 14 ∨ q.1 = 15 := by
  revert q
  decide
theorem xixS_k {n : Nat} {q : Nat × Nat} (h : q ∈ xixS n) : q.2 < n ∧ (q.1 = 4 ∨ q.1 = 5 ∨ q.1 = 6 ∨ q.1 = 7) := by
  obtain ⟨j, hj, hq⟩ := List.mem_flatMap.mp h
  have hj := List.mem_range.mp hj
  simp only [List.mem_cons, List.not_mem_nil, or_false] at hq
  rcases hq with rfl | rfl | rfl | rfl <;> exact ⟨hj, by simp⟩
theorem xixT_k {n : Nat} {q : Nat × Nat} (h : q ∈ xixT n) : q.2 < n ∧ (q.1 = 11 ∨ q.1 = 8 ∨ q.1 = 9) := by
  obtain ⟨j, hj, hq⟩ := List.mem_flatMap.mp h
  have hj := List.mem_range.mp hj
  simp only [List.mem_cons, List.not_mem_nil, or_false] at hq
  rcases hq with rfl | rfl | rfl <;> exact ⟨hj, by simp⟩
theorem xixS_s (n : Nat) : xixS (n + 1) = xixS n ++ [(4, n), (5, n), (6, n), (7, n)] := by
  simp [xixS, List.range_succ, List.flatMap_append]
theorem xixT_s (n : Nat) : xixT (n + 1) = xixT n ++ [(11, n), (8, n), (9, n)] := by
  simp [xixT, List.range_succ, List.flatMap_append]
/-- the shapes behind -/
def xshS (sh : xSh) (q0 q1 q2 q3 : Nat) : xSh := (fun k j => if j = sh.2.1 ∧ k = 4 then q0 else if j = sh.2.1 ∧ k = 5 then q1 else if j = sh.2.1 ∧ k = 6 then q2 else if j = sh.2.1 ∧ k = 7 then q3 else sh.1 k j, sh.2.1 + 1, sh.2.2)
def xshT (sh : xSh) (q0 q1 q2 : Nat) : xSh := (fun k j => if j = sh.2.2 ∧ k = 11 then q0 else if j = sh.2.2 ∧ k = 8 then q1 else if j = sh.2.2 ∧ k = 9 then q2 else sh.1 k j, sh.2.1, sh.2.2 + 1)
/-- the class's state behind -/
def xaddS (n : Nat) (a b d : Int32) (sc : xSC) : xSC := (fun k j i => if j = n ∧ k = 4 then (if i = 2 then 1 else 0) else if j = n ∧ k = 5 then (if i = 0 then a else if i = 1 then b else d) else if j = n ∧ (k = 6 ∨ k = 7) then 0 else sc.1 k j i, sc.2)
def xaddT (n : Nat) (server a b d growth : Int32) (sc : xSC) : xSC := (fun k j i => if j = n ∧ k = 11 then (if i = 1 then growth else if i = 3 then server else 0) else if j = n ∧ k = 8 then (if i = 0 then a else if i = 1 then b else d) else if j = n ∧ k = 9 then (if i = 0 then 45 else 0) else sc.1 k j i, sc.2)
/-- what a growing call hands back: the new shape keeps the fixed cells' places -/
def xgr (sh sh' : xSh) : Prop := sh'.1 0 0 = sh.1 0 0 ∧ sh'.1 12 0 = sh.1 12 0 ∧ sh'.1 14 0 = sh.1 14 0 ∧ sh'.1 15 0 = sh.1 15 0
def xPwS (G : xG) (sh : xSh) (r : String ⊕ Int32) (sc : xSC) (sr : xSR) (sl : xSL) : Heap → Prop := fun H => match r with
  | .inl _ => xWd G sh sc sr sl H
  | .inr _ => ∃ sh' : xSh, sh'.2.1 = sh.2.1 + 1 ∧ sh'.2.2 = sh.2.2 ∧ xgr sh sh' ∧ xWd G sh' sc sr sl H
def xPwT (G : xG) (sh : xSh) (r : String ⊕ Int32) (sc : xSC) (sr : xSR) (sl : xSL) : Heap → Prop := fun H => match r with
  | .inl _ => xWd G sh sc sr sl H
  | .inr _ => ∃ sh' : xSh, sh'.2.1 = sh.2.1 ∧ sh'.2.2 = sh.2.2 + 1 ∧ xgr sh sh' ∧ xWd G sh' sc sr sl H
abbrev xnewS (q0 q1 q2 q3 : Nat) (a b d : Int32) : va_W := [(q0, .inr (5, [.ref q1, .ref q2, .int 1, .ref q3, .int 0])), (q1, .inr (2, [.int a, .int b, .int d])), (q2, .inr (2, [.int 0, .int 0, .int 0])), (q3, .inr (2, [.int 0, .int 0, .int 0]))]
abbrev xarS (G : xG) (sh : xSh) (q0 : Nat) : va_E := .inl (G.2.2 2, 4, .inr (.inr (.inr (.inr (va_up (fun i => if i < sh.2.1 then some (sh.1 4 i) else none) sh.2.1 (some q0))))))
abbrev xnewT (q0 q1 q2 : Nat) (v a b d g : Int32) : va_W := [(q0, .inr (6, [.ref q1, .int g, .ref q2, .int v, .int 0, .int 0, .int 0, .int 0])), (q1, .inr (2, [.int a, .int b, .int d])), (q2, .inr (3, [.int 45, .int 0, .int 0, .int 0]))]
abbrev xarT (G : xG) (sh : xSh) (q0 : Nat) : va_E := .inl (G.2.2 3, 6, .inr (.inr (.inr (.inr (va_up (fun i => if i < sh.2.2 then some (sh.1 11 i) else none) sh.2.2 (some q0))))))
section XG
variable {G : xG} {sh : xSh} {sc : xSC} {sr : xSR} {sl : xSL} {H : Heap}
set_option maxHeartbeats 4000000 in
theorem xWd_growS {q0 q1 q2 q3 i : Nat} {a b d : Int32} (hi : (xix sh)[i]? = some (1, 0)) (hP : va_P G.1 vwCl ((xW sh.1 (xce G sh sc sr sl) (xix sh) ++ xnewS q0 q1 q2 q3 a b d).set i (sh.1 1 0, xarS G sh q0)) H)
    (hD : va_D (xA G) ((xW sh.1 (xce G sh sc sr sl) (xix sh) ++ xnewS q0 q1 q2 q3 a b d).set i (sh.1 1 0, xarS G sh q0))) (hD0 : va_D (xA G) (xW sh.1 (xce G sh sc sr sl) (xix sh))) :
    xWd G (xshS sh q0 q1 q2 q3) (xaddS sh.2.1 a b d sc) sr sl H := by
  have hlt : i < (xW sh.1 (xce G sh sc sr sl) (xix sh)).length := by
    have := (List.getElem?_eq_some_iff.mp hi).1
    simpa [xW] using this
  rw [List.set_append_left _ _ hlt, xW_set hD0 hi] at hP hD
  have e1 : ∀ q ∈ xix sh, (sh.1 q.1 q.2, xu2 (xce G sh sc sr sl) 1 0 (xarS G sh q0) q.1 q.2) = ((xshS sh q0 q1 q2 q3).1 q.1 q.2, xce G (xshS sh q0 q1 q2 q3) (xaddS sh.2.1 a b d sc) sr sl q.1 q.2) := by
    rintro ⟨k, j⟩ hq
    rcases List.mem_append.mp hq with h | h
    · by_cases h1 : k = 1
      · have hj : j = 0 := by
          subst h1
          have : ∀ q ∈ xfix, q.1 = 1 → q.2 = 0 := by decide
          exact this _ h rfl
        subst h1; subst hj
        simp only [xu2, and_self, if_true]
        have e2 : va_up (fun i => if i < sh.2.1 then some (sh.1 4 i) else none) sh.2.1 (some q0) = (fun i => if i < sh.2.1 + 1 then some ((xshS sh q0 q1 q2 q3).1 4 i) else none) := by
          funext x
          by_cases hx : x = sh.2.1
          · subst hx; simp [va_up, xshS]
          · by_cases hx2 : x < sh.2.1
            · simp [va_up, xshS, hx, hx2, Nat.lt_succ_of_lt hx2]
            · have : ¬ x < sh.2.1 + 1 := by omega
              simp [va_up, hx, hx2, this]
        unfold xarS
        rw [e2]
        simp [xshS, xce]
      · have hk := xfix_k h
        rcases hk with hk | hk | hk | hk | hk | hk | hk | hk | hk <;> (simp only at hk; subst hk) <;> first | exact absurd rfl h1 | simp [xu2, xce, xshS, xaddS]
    · rcases List.mem_append.mp h with h | h
      · obtain ⟨hj, hk⟩ := xixS_k h
        have hne : ¬ j = sh.2.1 := Nat.ne_of_lt hj
        rcases hk with hk | hk | hk | hk <;> (simp only at hk; subst hk) <;> simp [xu2, xce, xshS, xaddS, hne]
      · obtain ⟨hj, hk⟩ := xixT_k h
        rcases hk with hk | hk | hk <;> (simp only at hk; subst hk) <;> simp [xu2, xce, xshS, xaddS]
  have e3 : xW sh.1 (xu2 (xce G sh sc sr sl) 1 0 (xarS G sh q0)) (xix sh) = xW (xshS sh q0 q1 q2 q3).1 (xce G (xshS sh q0 q1 q2 q3) (xaddS sh.2.1 a b d sc) sr sl) (xix sh) := List.map_congr_left e1
  rw [e3] at hP hD
  have e4 : xnewS q0 q1 q2 q3 a b d = xW (xshS sh q0 q1 q2 q3).1 (xce G (xshS sh q0 q1 q2 q3) (xaddS sh.2.1 a b d sc) sr sl) [(4, sh.2.1), (5, sh.2.1), (6, sh.2.1), (7, sh.2.1)] := by
    simp [xW, xce, xshS, xaddS]
  rw [e4] at hP hD
  have hp : (xW (xshS sh q0 q1 q2 q3).1 (xce G (xshS sh q0 q1 q2 q3) (xaddS sh.2.1 a b d sc) sr sl) (xix (xshS sh q0 q1 q2 q3))).Perm (xW (xshS sh q0 q1 q2 q3).1 (xce G (xshS sh q0 q1 q2 q3) (xaddS sh.2.1 a b d sc) sr sl) (xix sh) ++ xW (xshS sh q0 q1 q2 q3).1 (xce G (xshS sh q0 q1 q2 q3) (xaddS sh.2.1 a b d sc) sr sl) [(4, sh.2.1), (5, sh.2.1), (6, sh.2.1), (7, sh.2.1)]) := by
    unfold xW
    rw [← List.map_append]
    refine List.Perm.map _ ?_
    show (xfix ++ (xixS (sh.2.1 + 1) ++ xixT sh.2.2)).Perm (xfix ++ (xixS sh.2.1 ++ xixT sh.2.2) ++ _)
    rw [xixS_s, List.append_assoc xfix, List.append_assoc (xixS sh.2.1), List.append_assoc (xixS sh.2.1)]
    exact List.Perm.append_left _ (List.Perm.append_left _ List.perm_append_comm)
  exact ⟨va_P_mem hP (fun q hq => hp.mem_iff.mp hq), va_D_perm hD hp⟩
set_option maxHeartbeats 4000000 in
theorem xWd_growT {q0 q1 q2 i : Nat} {v a b d g : Int32} (hi : (xix sh)[i]? = some (2, 0)) (hP : va_P G.1 vwCl ((xW sh.1 (xce G sh sc sr sl) (xix sh) ++ xnewT q0 q1 q2 v a b d g).set i (sh.1 2 0, xarT G sh q0)) H)
    (hD : va_D (xA G) ((xW sh.1 (xce G sh sc sr sl) (xix sh) ++ xnewT q0 q1 q2 v a b d g).set i (sh.1 2 0, xarT G sh q0))) (hD0 : va_D (xA G) (xW sh.1 (xce G sh sc sr sl) (xix sh))) :
    xWd G (xshT sh q0 q1 q2) (xaddT sh.2.2 v a b d g sc) sr sl H := by
  have hlt : i < (xW sh.1 (xce G sh sc sr sl) (xix sh)).length := by
    have := (List.getElem?_eq_some_iff.mp hi).1
    simpa [xW] using this
  rw [List.set_append_left _ _ hlt, xW_set hD0 hi] at hP hD
  have e1 : ∀ q ∈ xix sh, (sh.1 q.1 q.2, xu2 (xce G sh sc sr sl) 2 0 (xarT G sh q0) q.1 q.2) = ((xshT sh q0 q1 q2).1 q.1 q.2, xce G (xshT sh q0 q1 q2) (xaddT sh.2.2 v a b d g sc) sr sl q.1 q.2) := by
    rintro ⟨k, j⟩ hq
    rcases List.mem_append.mp hq with h | h
    · by_cases h1 : k = 2
      · have hj : j = 0 := by
          subst h1
          have : ∀ q ∈ xfix, q.1 = 2 → q.2 = 0 := by decide
          exact this _ h rfl
        subst h1; subst hj
        simp only [xu2, and_self, if_true]
        have e2 : va_up (fun i => if i < sh.2.2 then some (sh.1 11 i) else none) sh.2.2 (some q0) = (fun i => if i < sh.2.2 + 1 then some ((xshT sh q0 q1 q2).1 11 i) else none) := by
          funext x
          by_cases hx : x = sh.2.2
          · subst hx; simp [va_up, xshT]
          · by_cases hx2 : x < sh.2.2
            · simp [va_up, xshT, hx, hx2, Nat.lt_succ_of_lt hx2]
            · have : ¬ x < sh.2.2 + 1 := by omega
              simp [va_up, hx, hx2, this]
        unfold xarT
        rw [e2]
        simp [xshT, xce]
      · have hk := xfix_k h
        rcases hk with hk | hk | hk | hk | hk | hk | hk | hk | hk <;> (simp only at hk; subst hk) <;> first | exact absurd rfl h1 | simp [xu2, xce, xshT, xaddT]
    · rcases List.mem_append.mp h with h | h
      · obtain ⟨hj, hk⟩ := xixS_k h
        rcases hk with hk | hk | hk | hk <;> (simp only at hk; subst hk) <;> simp [xu2, xce, xshT, xaddT]
      · obtain ⟨hj, hk⟩ := xixT_k h
        have hne : ¬ j = sh.2.2 := Nat.ne_of_lt hj
        rcases hk with hk | hk | hk <;> (simp only at hk; subst hk) <;> simp [xu2, xce, xshT, xaddT, hne]
  have e3 : xW sh.1 (xu2 (xce G sh sc sr sl) 2 0 (xarT G sh q0)) (xix sh) = xW (xshT sh q0 q1 q2).1 (xce G (xshT sh q0 q1 q2) (xaddT sh.2.2 v a b d g sc) sr sl) (xix sh) := List.map_congr_left e1
  rw [e3] at hP hD
  have e4 : xnewT q0 q1 q2 v a b d g = xW (xshT sh q0 q1 q2).1 (xce G (xshT sh q0 q1 q2) (xaddT sh.2.2 v a b d g sc) sr sl) [(11, sh.2.2), (8, sh.2.2), (9, sh.2.2)] := by
    simp [xW, xce, xshT, xaddT]
  rw [e4] at hP hD
  have hp : (xW (xshT sh q0 q1 q2).1 (xce G (xshT sh q0 q1 q2) (xaddT sh.2.2 v a b d g sc) sr sl) (xix (xshT sh q0 q1 q2))).Perm (xW (xshT sh q0 q1 q2).1 (xce G (xshT sh q0 q1 q2) (xaddT sh.2.2 v a b d g sc) sr sl) (xix sh) ++ xW (xshT sh q0 q1 q2).1 (xce G (xshT sh q0 q1 q2) (xaddT sh.2.2 v a b d g sc) sr sl) [(11, sh.2.2), (8, sh.2.2), (9, sh.2.2)]) := by
    unfold xW
    rw [← List.map_append]
    refine List.Perm.map _ ?_
    show (xfix ++ (xixS sh.2.1 ++ xixT (sh.2.2 + 1))).Perm (xfix ++ (xixS sh.2.1 ++ xixT sh.2.2) ++ _)
    rw [xixT_s, List.append_assoc xfix, List.append_assoc (xixS sh.2.1)]
  exact ⟨va_P_mem hP (fun q hq => hp.mem_iff.mp hq), va_D_perm hD hp⟩
theorem xgr_S {q0 q1 q2 q3 : Nat} : xgr sh (xshS sh q0 q1 q2 q3) := by
  refine ⟨?_, ?_, ?_, ?_⟩ <;> simp [xshS]
theorem xgr_T {q0 q1 q2 : Nat} : xgr sh (xshT sh q0 q1 q2) := by
  refine ⟨?_, ?_, ?_, ?_⟩ <;> simp [xshT]
end XG
