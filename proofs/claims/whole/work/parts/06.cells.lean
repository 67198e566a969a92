/-- the objects: number of the class, and of each field: (0, cell) a fixed reference, (1, _) int, (2, _) long, (3, _) a reference that changes -/
def objL : List (Option (Nat × List (Nat × Nat))) := [some (11, [(0, 1), (0, 2), (0, 3), (0, 4), (0, 5), (0, 9), (0, 10), (1, 0)]), some (6, [(0, 14), (1, 0), (1, 0), (2, 0), (1, 0), (1, 0), (1, 0)]), some (4, [(0, 15), (0, 16), (0, 17), (1, 0), (1, 0), (1, 0), (0, 18), (0, 19), (0, 29), (0, 30), (0, 31), (0, 32)]), some (7, [(0, 33), (0, 34), (0, 35), (0, 36), (1, 0), (0, 37), (1, 0), (0, 38), (0, 39), (0, 40), (1, 0), (0, 41), (1, 0)]), some (2, [(0, 1), (0, 2), (0, 3), (1, 0), (1, 0), (1, 0)]), some (0, [(0, 2), (0, 3), (0, 6), (0, 42), (1, 0), (1, 0), (0, 43), (0, 44), (0, 45), (0, 46), (1, 0), (0, 47), (1, 0), (1, 0)]), some (10, [(0, 48), (1, 0), (0, 49), (0, 50), (1, 0), (0, 51), (0, 52), (1, 0), (0, 53), (0, 54), (1, 0), (1, 0), (0, 55), (0, 56), (1, 0)]), some (5, [(0, 2), (0, 57), (0, 58), (0, 59), (0, 60), (0, 61), (1, 0), (1, 0), (0, 62), (0, 63), (0, 64), (1, 0)]), some (8, [(0, 2), (0, 7), (0, 11), (0, 12), (0, 13), (1, 0)]), some (3, [(0, 2), (0, 7), (0, 8), (0, 65), (0, 66), (0, 67), (0, 68), (0, 69), (0, 70), (1, 0), (1, 0), (1, 0), (1, 0), (1, 0), (1, 0), (1, 0)]), some (1, [(0, 2), (0, 13), (3, 0), (1, 0), (3, 0), (1, 0), (1, 0), (0, 73), (1, 0), (0, 74), (1, 0), (0, 75)]), some (9, [(0, 2), (0, 7), (0, 20), (0, 21), (0, 22), (1, 0)]), some (9, [(0, 2), (0, 7), (0, 23), (0, 24), (0, 25), (1, 0)]), some (9, [(0, 2), (0, 7), (0, 26), (0, 27), (0, 28), (1, 0)])]
def objR : Nat × List (Nat × Nat) := (12, [(1, 0), (0, 101), (1, 0), (1, 0), (0, 102), (0, 103), (0, 104), (1, 0), (1, 0), (0, 105), (1, 0), (0, 106), (0, 107), (0, 108), (1, 0), (0, 109), (0, 110), (1, 0), (0, 111), (0, 112), (0, 113), (1, 0), (1, 0), (1, 0), (1, 0), (1, 0), (1, 0), (2, 0), (1, 0), (0, 114), (0, 115), (0, 116), (0, 117), (1, 0), (0, 118), (1, 0), (0, 119), (1, 0), (1, 0), (0, 120), (0, 121), (1, 0), (0, 122), (1, 0), (0, 123), (0, 124), (0, 125), (1, 0), (1, 0), (1, 0), (0, 126), (0, 127), (0, 128), (1, 0), (0, 129), (1, 0), (1, 0), (0, 130), (0, 131), (0, 132), (0, 133), (1, 0), (0, 134), (0, 135), (0, 136), (0, 137), (1, 0), (0, 138), (0, 139), (1, 0), (0, 140), (0, 141), (0, 142), (1, 0), (0, 143), (0, 144), (1, 0), (0, 145), (1, 0), (1, 0), (0, 146), (1, 0), (0, 147), (0, 148), (0, 149), (0, 150), (0, 151), (0, 152), (0, 153), (1, 0), (0, 154), (0, 155), (1, 0), (1, 0), (0, 156), (1, 0), (1, 0), (1, 0), (1, 0), (1, 0), (1, 0), (1, 0), (1, 0), (1, 0), (1, 0), (1, 0), (0, 157), (0, 158), (0, 159), (0, 160), (1, 0), (1, 0), (0, 161), (0, 162), (0, 163), (0, 164), (1, 0), (0, 165), (0, 166), (0, 167), (1, 0), (0, 168), (0, 169), (0, 170), (0, 171), (0, 172), (0, 173), (0, 174), (0, 175), (0, 176), (1, 0)])
def objT (k : Nat) : Option (Nat × List (Nat × Nat)) := if k = 100 then some objR else objL.getD k none
/-- the arrays: kind (0 byte, 1 int, 2 long, 3 boolean) and length -/
def arrL : List (Nat × Nat) := [(1, 0), (1, 0), (1, 0), (1, 0), (1, 0), (1, 0), (1, 0), (1, 0), (1, 0), (1, 0), (1, 0), (1, 0), (1, 0), (1, 0), (0, 1500), (2, 811), (1, 811), (3, 811), (1, 101), (1, 100), (1, 222), (1, 222), (1, 222), (1, 222), (1, 222), (1, 222), (1, 222), (1, 222), (1, 222), (1, 1201), (3, 1200), (1, 1200), (1, 20000), (1, 1501), (1, 1501), (1, 1501), (1, 1501), (1, 1501), (2, 1501), (1, 1501), (3, 1501), (1, 1501), (1, 4500), (1, 1501), (1, 40), (1, 40), (1, 40), (1, 290), (1, 18000), (1, 601), (3, 600), (1, 6000), (1, 601), (1, 400), (1, 400), (1, 12), (1, 10), (1, 150), (1, 150), (1, 150), (1, 150), (1, 150), (1, 220), (1, 220), (1, 220), (1, 151), (1, 151), (1, 151), (1, 151), (1, 151), (1, 151), (0, 4000), (0, 4000), (1, 4000), (1, 220), (1, 10), (1, 0), (1, 0), (1, 0), (1, 0), (1, 0), (1, 0), (1, 0), (1, 0), (1, 0), (1, 0), (1, 0), (1, 0), (1, 0), (1, 0), (1, 0), (1, 0), (1, 0), (1, 0), (1, 0), (1, 0), (1, 0), (1, 0), (1, 0), (1, 0), (1, 0), (0, 1500), (2, 820), (1, 820), (3, 820), (1, 3100), (1, 101), (1, 101), (1, 101), (3, 1300), (1, 1300), (1, 20400), (1, 20400), (1, 20400), (1, 1600), (1, 1600), (1, 1600), (2, 1600), (1, 1600), (2, 1600), (1, 6000), (1, 6000), (1, 3000), (1, 40), (1, 40), (1, 40), (1, 700), (1, 700), (1, 700), (1, 700), (1, 6100), (1, 6100), (1, 6100), (3, 6100), (1, 24000), (1, 15500), (1, 6100), (1, 6100), (1, 700), (1, 700), (1, 7000), (1, 13), (1, 200), (1, 300), (0, 4100), (0, 4100), (1, 4200), (1, 21000), (1, 21000), (1, 5), (1, 400), (1, 400), (1, 400), (1, 400), (1, 300), (1, 300), (1, 400), (1, 400), (1, 400), (1, 400), (1, 400), (1, 20100), (1, 20100), (1, 20100), (1, 20100), (1, 20100), (1, 20100), (1, 400), (1, 400), (1, 400), (1, 400), (1, 400), (1, 400), (1, 400), (1, 400), (1, 400), (1, 400)]
def arrT (k : Nat) : Nat × Nat := arrL.getD k (1, 0)
def fval (G : Gt) (u : St) (k i : Nat) (t : Nat × Nat) : Value := if t.1 = 0 then .ref (G.1 t.2) else if t.1 = 1 then .int (gI u k i) else if t.1 = 2 then .long (gJ u k i) else .ref (G.1 (gR u k i))
def cell (G : Gt) (u : St) (k : Nat) : va_E := match objT k with
  | some o => .inr (o.1, o.2.mapIdx (fun i t => fval G u k i t))
  | none => if (arrT k).1 = 2 then .inl (G.2.2.1 2, (arrT k).2, .inr (.inl (gJ u k))) else .inl (G.2.2.1 (arrT k).1, (arrT k).2, .inl (gI u k))
def X (a N : Nat) (G : Gt) (u : St) : va_W := (List.range N).map (fun i => (G.1 (a + i), cell G u (a + i)))
theorem X_at {a N : Nat} (G : Gt) (u : St) {i : Nat} (h : i < N) : (X a N G u)[i]? = some (G.1 (a + i), cell G u (a + i)) := by
  simp [X, h]
theorem X_in {a N : Nat} {G : Gt} {u : St} {i : Nat} {q : Nat × va_E} (h : (X a N G u)[i]? = some q) : i < N ∧ q = (G.1 (a + i), cell G u (a + i)) := by
  have hi : i < N := by
    have := (List.getElem?_eq_some_iff.mp h).1
    simpa [X] using this
  exact ⟨hi, Option.some.inj (h.symm.trans (X_at G u hi))⟩
theorem X_k {a N : Nat} (G : Gt) (u : St) {k : Nat} (h : a ≤ k ∧ k - a < N) : (X a N G u)[k - a]? = some (G.1 k, cell G u k) := by
  have e : a + (k - a) = k := by omega
  rw [X_at G u h.2, e]
theorem X_set {a N : Nat} (G : Gt) (u u' : St) {k : Nat} (h : a ≤ k ∧ k - a < N) (e : va_E) (h1 : cell G u' k = e) (h2 : ∀ j, j ≠ k → cell G u' j = cell G u j) : (X a N G u).set (k - a) (G.1 k, e) = X a N G u' := by
  apply List.ext_getElem?
  intro j
  rw [List.getElem?_set]
  have hl : (X a N G u).length = N := by simp [X]
  by_cases hj : k - a = j
  · subst hj
    rw [if_pos rfl, if_pos (by rw [hl]; exact h.2), X_k G u' h, h1]
  · rw [if_neg hj]
    by_cases hjN : j < N
    · rw [X_at G u hjN, X_at G u' hjN, h2 (a + j) (by omega)]
    · have z1 : (X a N G u)[j]? = none := by rw [List.getElem?_eq_none_iff, hl]; omega
      have z2 : (X a N G u')[j]? = none := by rw [List.getElem?_eq_none_iff]; simp [X]; omega
      rw [z1, z2]
theorem cell_obj {G : Gt} {u : St} {k ci : Nat} {ts : List (Nat × Nat)} (h : objT k = some (ci, ts)) : cell G u k = .inr (ci, ts.mapIdx (fun i t => fval G u k i t)) := by
  simp only [cell, h]
theorem cell_I {G : Gt} {u : St} {k t n : Nat} (h0 : objT k = none) (h1 : arrT k = (t, n)) (ht : t ≠ 2) : cell G u k = .inl (G.2.2.1 t, n, .inl (gI u k)) := by
  simp only [cell, h0, h1, if_neg ht]
theorem cell_J {G : Gt} {u : St} {k n : Nat} (h0 : objT k = none) (h1 : arrT k = (2, n)) : cell G u k = .inl (G.2.2.1 2, n, .inr (.inl (gJ u k))) := by
  simp only [cell, h0, h1, if_pos]
theorem gI_ne {u : St} {k j i : Nat} {x : Int32} (h : j ≠ k) : gI (uI u k i x) j = gI u j := by simp [gI, uI, va_up, h]
theorem gJ_ne {u : St} {k j i : Nat} {x : Int64} (h : j ≠ k) : gJ (uJ u k i x) j = gJ u j := by simp [gJ, uJ, va_up, h]
theorem cell_neI {G : Gt} {u : St} {k i : Nat} {x : Int32} (j : Nat) (h : j ≠ k) : cell G (uI u k i x) j = cell G u j := by
  have e : gI (uI u k i x) j = gI u j := gI_ne h
  have e2 : gJ (uI u k i x) j = gJ u j := rfl
  have e3 : ∀ z, gR (uI u k i x) j z = gR u j z := fun _ => rfl
  simp only [cell, fval, e, e2, e3]
theorem cell_neJ {G : Gt} {u : St} {k i : Nat} {x : Int64} (j : Nat) (h : j ≠ k) : cell G (uJ u k i x) j = cell G u j := by
  have e : gI (uJ u k i x) j = gI u j := rfl
  have e2 : gJ (uJ u k i x) j = gJ u j := gJ_ne h
  have e3 : ∀ z, gR (uJ u k i x) j z = gR u j z := fun _ => rfl
  simp only [cell, fval, e, e2, e3]
theorem cell_neR {G : Gt} {u : St} {k i x : Nat} (j : Nat) (h : j ≠ k) : cell G (uR u k i x) j = cell G u j := by
  have e : gI (uR u k i x) j = gI u j := rfl
  have e2 : gJ (uR u k i x) j = gJ u j := rfl
  have e3 : ∀ z, gR (uR u k i x) j z = gR u j z := fun _ => by simp [gR, uR, va_up, h]
  simp only [cell, fval, e, e2, e3]
theorem fs_set {G : Gt} {u u' : St} {k i : Nat} {ts : List (Nat × Nat)} {t : Nat × Nat} {v : Value} (hi : ts[i]? = some t) (h1 : fval G u' k i t = v) (h2 : ∀ j t, j ≠ i → fval G u' k j t = fval G u k j t) : (ts.mapIdx (fun i t => fval G u k i t)).set i v = ts.mapIdx (fun i t => fval G u' k i t) := by
  apply List.ext_getElem?
  intro j
  rw [List.getElem?_set]
  have hlt : i < ts.length := (List.getElem?_eq_some_iff.mp hi).1
  by_cases hj : i = j
  · subst hj
    rw [if_pos rfl, if_pos (by simpa using hlt), List.getElem?_mapIdx, hi]
    simp [h1]
  · rw [if_neg hj, List.getElem?_mapIdx, List.getElem?_mapIdx]
    cases ts[j]? with
    | none => rfl
    | some t => simp [h2 j t (fun z => hj z.symm)]
/-! the constants: String constants, static arrays: old cells that nobody writes -/
def Ev (G : Gt) (A : Nat → Prop) (U : State) (H : Heap) : Prop :=
  vk_S 5 strN strB G.2.2.2.1 G.2.2.2.2.1 A U H ∧ (∀ i q, strI[i]? = some q → vk_R "PathProver$Text" q.1 q.2 (G.2.2.2.1 i) U) ∧ va_Z "java/lang/String" "COMPACT_STRINGS" "Z" (.int 1) A U H ∧
  va_Z "PathProver$Parser" "SIGNS" "[I" (.ref (G.2.2.2.2.2 0)) A U H ∧ va_T .int (G.2.2.2.2.2 0) 4 (fun j => .int (signs4 j)) A U H ∧ va_Z "PathProver$Parser" "KINDS" "[I" (.ref (G.2.2.2.2.2 1)) A U H ∧ va_T .int (G.2.2.2.2.2 1) 4 (fun j => .int (kinds4 j)) A U H
theorem Ev.kept {G : Gt} {A : Nat → Prop} {U : State} {H H1 : Heap} (h : Ev G A U H) (hq : ∀ a : Nat, a < H.size → ¬ A a → H1[a]? = H[a]?) : Ev G A U H1 :=
  ⟨h.1.kept hq, h.2.1, h.2.2.1.kept hq, h.2.2.2.1.kept hq, h.2.2.2.2.1.kept hq, h.2.2.2.2.2.1.kept hq, h.2.2.2.2.2.2.kept hq⟩
theorem Ev.narrow {G : Gt} {A B : Nat → Prop} {U : State} {H : Heap} (h : Ev G A U H) (hq : ∀ q, B q → A q) : Ev G B U H :=
  ⟨h.1.narrow hq, h.2.1, h.2.2.1.narrow hq, h.2.2.2.1.narrow hq, h.2.2.2.2.1.narrow hq, h.2.2.2.2.2.1.narrow hq, h.2.2.2.2.2.2.narrow hq⟩
theorem Ev.warm {G : Gt} {A : Nat → Prop} {s U : State} {H : Heap} (hW : s.WarmedH U.vm) (h : Ev G A s H) : Ev G A U H :=
  ⟨h.1.moved hW.alike, fun i q hi => (h.2.1 i q hi).warm hW, h.2.2.1.moved hW.alike, h.2.2.2.1.moved hW.alike, h.2.2.2.2.1.moved hW.alike, h.2.2.2.2.2.1.moved hW.alike, h.2.2.2.2.2.2.moved hW.alike⟩
theorem Ev.same {G : Gt} {A : Nat → Prop} {s U : State} {H : Heap} (hv : U.vm = s.vm) (h : Ev G A s H) : Ev G A U H := by
  have ha : s.vm.Alike U.vm := by rw [hv]; exact Vm.Alike.refl _
  exact ⟨h.1.moved ha, fun i q hi => (h.2.1 i q hi).same hv, h.2.2.1.moved ha, h.2.2.2.1.moved ha, h.2.2.2.2.1.moved ha, h.2.2.2.2.2.1.moved ha, h.2.2.2.2.2.2.moved ha⟩
/-- the addresses that a method of a system may change: its cells, and those to come -/
def AX (a N : Nat) (G : Gt) (sz : Nat) : Nat → Prop := fun q => (∃ i, i < N ∧ q = G.1 (a + i)) ∨ sz ≤ q
/-- where a body stands: tables, cells, apartness, frame, constants -/
def Ok (a N : Nat) (G : Gt) (A : Nat → Prop) (s : State) (u : St) (H : Heap) (locs : List Loc) : Prop :=
  va_K G.2.1 vwCl (tysG G) s ∧ va_P G.2.1 vwCl (X a N G u) H ∧ va_D A (X a N G u) ∧ va_S A s.heap H locs ∧ (∀ q, s.heap.size ≤ q → A q) ∧ Ev G A s s.heap
theorem Ok.ax {a N : Nat} {G : Gt} {A : Nat → Prop} {s : State} {u : St} {H : Heap} {locs : List Loc} (K : Ok a N G A s u H locs) : ∀ q, AX a N G H.size q → A q := by
  intro q h
  rcases h with ⟨i, hi, rfl⟩ | h
  · exact K.2.2.1.2 i _ (X_at G u hi)
  · exact K.2.2.2.2.1 q (Nat.le_trans K.2.2.2.1.1 h)
/-- a method's start -/
def Pg (a N : Nat) (G : Gt) (u : St) (sz : Nat) (U : State) : Prop := U.heap.size = sz ∧ va_P G.2.1 vwCl (X a N G u) U.heap ∧ va_K G.2.1 vwCl (tysG G) U ∧ va_D (fun _ => True) (X a N G u) ∧ Ev G (AX a N G sz) U U.heap
/-- a method's end -/
def Qg (a N : Nat) (G : Gt) (A : Nat → Prop) (r : Option Value) (u' : St) : Array Value → State → Outcome → State → Prop := fun _ st oc t => (oc = .returned r ∧ va_P G.2.1 vwCl (X a N G u') t.heap ∧ va_D A (X a N G u')) ∧ va_F A st t
/-- the contract of a method that makes nothing: from u it comes to u' with the answer r -/
def Ctr (a N : Nat) (l : Launch) (y : MethodName) (cc : ByteArray) (nL : Nat) (ret : Option FieldType) (rm : Room) (av : List Value) (G : Gt) (u : St) (r : Option Value) (u' : St) : Prop :=
  ∀ sz : Nat, Met l y (Cond.code y cc nL ret :: BIG) rm (va_Pc av (Pg a N G u sz)) (Qg a N G (AX a N G sz) r u') 0 0 (AX a N G sz)
/-- where a body runs -/
def Bd (p : Program) (s : State) (m : MethodId) (av : List Value) (meth : Method) (c : Code) (y : MethodName) (cc : ByteArray) (nL : Nat) (ret : Option FieldType) : Prop :=
  CallFix p m c cc nL s av.toArray BIG y.cls ∧ meth.sig.returnType = ret ∧ meth.locks = false
theorem Ctr.mk {a N : Nat} {l : Launch} {y : MethodName} {cc : ByteArray} {nL : Nat} {ret : Option FieldType} {rm : Room} {av : List Value} {G : Gt} {u : St} {r : Option Value} {u' : St} (hy : plainName y.cls = true) (hlen : (lg_sl av).length ≤ nL)
    (body : ∀ p e s m below meth c A ls, Bd p s m av meth c y cc nL ret → Ok a N G A s u s.heap [] → lv_has ls nL (lv_args 0 av) → W p l e rm s m av.toArray below meth c s.heap [] 0 0 (MQ below (Qg a N G A r u') av.toArray s 0 0 A) (F0 m 0 ls [])) : Ctr a N l y cc nL ret rm av G u r u' := by
  intro sz
  refine Met.ofW (cc := cc) (maxL := nL) (ret := ret) hy rfl ?_
  intro p e s m args below meth c s₁ B hml hv
  obtain ⟨rfl, hsz, hP, hK, hD, hE⟩ := hv
  have hts := atoms_spec (ws := Cond.code y cc nL ret :: BIG) B.pre
  have hown : s.vm.findClass y.cls = some m.cls := findClass_of_methodNamed B.named
  rw [lg_entry_eq]
  exact body p e s m below meth c (AX a N G sz) _ ⟨⟨B.exec, B.bytes, hml, hown, fun w hw => hts w (List.mem_cons_of_mem _ hw)⟩, B.returns, B.notSynchronized⟩
    ⟨hK, hP, ⟨hD.1, fun k q hk => by obtain ⟨hi, rfl⟩ := X_in hk; exact Or.inl ⟨k, hi, rfl⟩⟩, va_S.rf, fun q h => Or.inr (hsz ▸ h), hE⟩ (lv_entry av hlen)

