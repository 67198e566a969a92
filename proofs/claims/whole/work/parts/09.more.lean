/-! String constants, static arrays, arraycopy, Math.max: rows -/
section MR
variable {p : Program} {l : Launch} {e : Env} {R : Room} {s : State} {m : MethodId} {args : Array Value} {below : List Frame} {meth : Method} {c : Code} {H : Heap} {locs : List Loc} {Q : State → Prop}
variable {cc : ByteArray} {nL pc : Nat} {ls : Array Slot} {rest : List Value} {A : Nat → Prop} {own : String} {a N : Nat} {G : Gt} {u : St}
theorem ok_ldcS (F : CallFix p m c cc nL s args BIG "PathProver$Text") (K : Ok a N G A s u H locs) (i : Nat) {idx : Nat} {tx : String} (hi : strI[i]? = some (idx, tx)) (d : decode cc pc = .ok (.ldc idx, 2))
    (kk : W p l e R s m args below meth c H locs 0 0 Q (F0 m (pc + 2) ls (.ref (G.2.2.2.1 i) :: rest))) : W p l e R s m args below meth c H locs 0 0 Q (F0 m pc ls rest) :=
  va_ldcS F.1 F.2.1 F.2.2.2.1 (K.2.2.2.2.2.2.1 i _ hi) d kk
theorem ok_sval (F : CallFix p m c cc nL s args BIG own) (K : Ok a N G A s u H locs) {k idx : Nat} (hk : k < 5) (hl : Cond.fieldLink own idx "java/lang/String" "value" "[B" ∈ BIG) (d : decode cc pc = .ok (.getfield idx, 3))
    (kk : W p l e R s m args below meth c H locs 0 0 Q (F0 m (pc + 3) ls (.ref (G.2.2.2.2.1 k) :: rest))) : W p l e R s m args below meth c H locs 0 0 Q (F0 m pc ls (.ref (G.2.2.2.1 k) :: rest)) :=
  vk_getf F.1 F.2.1 (K.2.2.2.2.2.1.1 k hk).2.2.1 K.2.2.2.1 F.2.2.2.1 (F.2.2.2.2 _ hl) (fun _ h => h) d kk
theorem ok_scod (F : CallFix p m c cc nL s args BIG own) (K : Ok a N G A s u H locs) {k idx : Nat} (hk : k < 5) (hl : Cond.fieldLink own idx "java/lang/String" "coder" "B" ∈ BIG) (d : decode cc pc = .ok (.getfield idx, 3))
    (kk : W p l e R s m args below meth c H locs 0 0 Q (F0 m (pc + 3) ls (.int 0 :: rest))) : W p l e R s m args below meth c H locs 0 0 Q (F0 m pc ls (.ref (G.2.2.2.1 k) :: rest)) :=
  vk_getf F.1 F.2.1 (K.2.2.2.2.2.1.1 k hk).2.1 K.2.2.2.1 F.2.2.2.1 (F.2.2.2.2 _ hl) (fun _ h => h) d kk
theorem ok_slen (F : CallFix p m c cc nL s args BIG own) (K : Ok a N G A s u H locs) {k : Nat} (hk : k < 5) (d : decode cc pc = .ok (.arraylength, 1))
    (kk : W p l e R s m args below meth c H locs 0 0 Q (F0 m (pc + 1) ls (.int (Int32.ofNat (strN.getD k 0)) :: rest))) : W p l e R s m args below meth c H locs 0 0 Q (F0 m pc ls (.ref (G.2.2.2.2.1 k) :: rest)) :=
  va_tlen F.1 F.2.1 (K.2.2.2.2.2.1.1 k hk).2.2.2 K.2.2.2.1 rfl d kk
theorem ok_sbyte (F : CallFix p m c cc nL s args BIG own) (K : Ok a N G A s u H locs) {k : Nat} (hk : k < 5) {j v : Int32} (hv : ldS k j = some v) (d : decode cc pc = .ok (.baload, 1))
    (kk : W p l e R s m args below meth c H locs 0 0 Q (F0 m (pc + 1) ls (.int v :: rest))) : W p l e R s m args below meth c H locs 0 0 Q (F0 m pc ls (.int j :: .ref (G.2.2.2.2.1 k) :: rest)) := by
  obtain ⟨hi, rfl⟩ := g_ldS hv
  exact va_tb F.1 F.2.1 (K.2.2.2.2.2.1.1 k hk).2.2.2 K.2.2.2.1 hi rfl d kk
theorem ok_compact (F : CallFix p m c cc nL s args BIG own) (K : Ok a N G A s u H locs) {idx : Nat} (hl : Cond.fieldLink own idx "java/lang/String" "COMPACT_STRINGS" "Z" ∈ BIG) (d : decode cc pc = .ok (.getstatic idx, 3))
    (kk : W p l e R s m args below meth c H locs 0 0 Q (F0 m (pc + 3) ls (.int 1 :: rest))) : W p l e R s m args below meth c H locs 0 0 Q (F0 m pc ls rest) :=
  va_gets F.1 F.2.1 K.2.2.2.2.2.2.2.1 K.2.2.2.1 F.2.2.2.1 (F.2.2.2.2 _ hl) (fun _ h => h) d kk
theorem ok_gets_SIGNS (F : CallFix p m c cc nL s args BIG own) (K : Ok a N G A s u H locs) {idx : Nat} (hl : Cond.fieldLink own idx "PathProver$Parser" "SIGNS" "[I" ∈ BIG) (d : decode cc pc = .ok (.getstatic idx, 3))
    (kk : W p l e R s m args below meth c H locs 0 0 Q (F0 m (pc + 3) ls (.ref (G.2.2.2.2.2 0) :: rest))) : W p l e R s m args below meth c H locs 0 0 Q (F0 m pc ls rest) :=
  va_gets F.1 F.2.1 K.2.2.2.2.2.2.2.2.1 K.2.2.2.1 F.2.2.2.1 (F.2.2.2.2 _ hl) (fun _ h => h) d kk
theorem ok_gets_KINDS (F : CallFix p m c cc nL s args BIG own) (K : Ok a N G A s u H locs) {idx : Nat} (hl : Cond.fieldLink own idx "PathProver$Parser" "KINDS" "[I" ∈ BIG) (d : decode cc pc = .ok (.getstatic idx, 3))
    (kk : W p l e R s m args below meth c H locs 0 0 Q (F0 m (pc + 3) ls (.ref (G.2.2.2.2.2 1) :: rest))) : W p l e R s m args below meth c H locs 0 0 Q (F0 m pc ls rest) :=
  va_gets F.1 F.2.1 K.2.2.2.2.2.2.2.2.2.2.1 K.2.2.2.1 F.2.2.2.1 (F.2.2.2.2 _ hl) (fun _ h => h) d kk
theorem ok_signs (hx : p.tables.exec = Jvm.exec) (hb : c.code = cc) (K : Ok a N G A s u H locs) {i v : Int32} (hv : ld4 signs4 i = some v) (d : decode cc pc = .ok (.iaload, 1))
    (kk : W p l e R s m args below meth c H locs 0 0 Q (F0 m (pc + 1) ls (.int v :: rest))) : W p l e R s m args below meth c H locs 0 0 Q (F0 m pc ls (.int i :: .ref (G.2.2.2.2.2 0) :: rest)) := by
  obtain ⟨hi, rfl⟩ := g_ld4 hv
  exact va_ti hx hb K.2.2.2.2.2.2.2.2.2.1 K.2.2.2.1 hi rfl d kk
theorem ok_kinds (hx : p.tables.exec = Jvm.exec) (hb : c.code = cc) (K : Ok a N G A s u H locs) {i v : Int32} (hv : ld4 kinds4 i = some v) (d : decode cc pc = .ok (.iaload, 1))
    (kk : W p l e R s m args below meth c H locs 0 0 Q (F0 m (pc + 1) ls (.int v :: rest))) : W p l e R s m args below meth c H locs 0 0 Q (F0 m pc ls (.int i :: .ref (G.2.2.2.2.2 1) :: rest)) := by
  obtain ⟨hi, rfl⟩ := g_ld4 hv
  exact va_ti hx hb K.2.2.2.2.2.2.2.2.2.2.2 K.2.2.2.1 hi rfl d kk
theorem ok_signs_len (hx : p.tables.exec = Jvm.exec) (hb : c.code = cc) (K : Ok a N G A s u H locs) (d : decode cc pc = .ok (.arraylength, 1))
    (kk : W p l e R s m args below meth c H locs 0 0 Q (F0 m (pc + 1) ls (.int 4 :: rest))) : W p l e R s m args below meth c H locs 0 0 Q (F0 m pc ls (.ref (G.2.2.2.2.2 0) :: rest)) :=
  va_tlen hx hb K.2.2.2.2.2.2.2.2.2.1 K.2.2.2.1 (by decide) d kk
theorem ok_copy (F : CallFix p m c cc nL s args BIG own) (hsz : ls.size = nL) (K : Ok a N G A s u H locs) {k n idx : Nat} (f : AT a N k 1 n) (hl : Cond.methodLink own idx arraycopyName ∈ BIG) (hw : Cond.native arraycopyName ∈ BIG ∧ Cond.static arraycopyName ∈ BIG ∧ Cond.initialized "java/lang/System" ∈ BIG) {sp dp z : Int32} {u1 : St} (hv : cpA u k n sp dp z = some u1)
    (hr : 1 ≤ R.frames ∧ (rest.map fun v => v.category).sum + (nativeFrameWords "java/lang/System" "arraycopy" 5 + 11) ≤ R.locals) (d : decode cc pc = .ok (.invokestatic idx, 3))
    (kk : ∀ H1 locs1, Ok a N G A s u1 H1 locs1 → W p l e R s m args below meth c H1 locs1 0 0 Q (F0 m (pc + 3) ls rest)) : W p l e R s m args below meth c H locs 0 0 Q (F0 m pc ls (.int z :: .int dp :: .ref (G.1 k) :: .int sp :: .ref (G.1 k) :: rest)) := by
  unfold cpA at hv
  by_cases hc : sp < 0 ∨ dp < 0 ∨ z < 0 ∨ n < sp.toNatClampNeg + z.toNatClampNeg ∨ n < dp.toNatClampNeg + z.toNatClampNeg
  · rw [if_pos hc] at hv; cases hv
  · rw [if_neg hc] at hv
    obtain rfl := Option.some.inj hv
    simp only [not_or] at hc
    obtain ⟨c1, c2, c3, c4, c5⟩ := hc
    obtain ⟨h1, h2, h3⟩ := f
    have hs : (X a N G u).set (k - a) (G.1 k, .inl (G.2.2.1 1, n, .inl (va_cpy (gI u k) (gI u k) sp.toNatClampNeg dp.toNatClampNeg z.toNatClampNeg))) = X a N G (uW u k (va_cpy (gI u k) (gI u k) sp.toNatClampNeg dp.toNatClampNeg z.toNatClampNeg)) := by
      refine X_set G u _ h3 _ ?_ (fun j hj => ?_)
      · rw [cell_I h1 h2 (by decide)]
        have e : ∀ f : Nat → Int32, gI (uW u k f) k = f := fun f => by simp [gI, uW, va_up]
        rw [e]
      · have e : ∀ f : Nat → Int32, gI (uW u k f) j = gI u j := fun f => by simp [gI, uW, va_up, hj]
        have e2 : ∀ f : Nat → Int32, gJ (uW u k f) j = gJ u j := fun f => rfl
        have e3 : ∀ (f : Nat → Int32) z, gR (uW u k f) j z = gR u j z := fun f z => rfl
        simp only [cell, fval, e, e2, e3]
    obtain ⟨K1, K2, K3, K4, K5, K6⟩ := K
    have hx := X_k (N := N) G u h3
    rw [cell_I h1 h2 (by decide)] at hx
    refine va_copyi F.1 F.2.1 (F.2.2.1.trans hsz.symm) F.2.2.2.1 (F.2.2.2.2 _ hl) (F.2.2.2.2 _ hw.1) (F.2.2.2.2 _ hw.2.1) (F.2.2.2.2 _ hw.2.2) K1 K2 K3 K4 (k - a) (k - a) 1 1 hx hx rfl rfl rfl c1 c2 c3 (Nat.not_lt.mp c4) (Nat.not_lt.mp c5) (fun _ _ => rfl) hr.1 hr.2 d (fun H1 locs1 g1 g2 g3 => kk H1 locs1 ⟨K1, ?_, ?_, g3, K5, K6⟩)
    · rw [← hs]; exact g1
    · rw [← hs]; exact g2
theorem ok_mmax (F : CallFix p m c cc nL s args BIG own) (hsz : ls.size = nL) {idx : Nat} (hl : Cond.methodLink own idx Lib.Math.max.name ∈ BIG) (hw : Cond.static Lib.Math.max.name ∈ BIG ∧ Cond.initialized "java/lang/Math" ∈ BIG ∧ Cond.code Lib.Math.max.name Lib.Math.max.code 2 (some .int) ∈ BIG) (hr : 1 ≤ R.frames ∧ (rest.map fun v => v.category).sum + 13 ≤ R.locals) {x y : Int32} (d : decode cc pc = .ok (.invokestatic idx, 3))
    (kk : W p l e R s m args below meth c H locs 0 0 Q (F0 m (pc + 3) ls (.int (if x < y then y else x) :: rest))) : W p l e R s m args below meth c H locs 0 0 Q (F0 m pc ls (.int y :: .int x :: rest)) :=
  va_mmax F.1 F.2.1 (F.2.2.1.trans hsz.symm) F.2.2.2.1 (F.2.2.2.2 _ hl) (F.2.2.2.2 _ hw.1) (F.2.2.2.2 _ hw.2.1) (F.2.2.2.2 _ hw.2.2) hr.1 hr.2 (Nat.zero_le _) (Nat.zero_le _) d kk
/-- a call of a method of String on a String constant -/
theorem ok_callki (F : CallFix p m c cc nL s args BIG own) (K : Ok a N G A s u H locs) {k idx nM n : Nat} {y : MethodName} {cy : ByteArray} {ret : Option FieldType} {rm : Room} {As st0 : List Value} {r : Int32} {u1 : St}
    (hM : Ctr a N l y cy nM ret rm (.ref (G.2.2.2.1 k) :: As) G u (some (.int r)) u1) (hy : MI "java/lang/String" y cy nM n ret) (hk : k < 5) (hl : Cond.methodLink own idx y ∈ BIG) (hn : As.length = n) (hsz : ls.size = nL) (hst : st0 = As.reverse ++ .ref (G.2.2.2.1 k) :: rest) (hrm : (rm.cells = 0 ∧ rm.slots = 0) ∧ rm.frames + 1 ≤ R.frames ∧ 8 + (nM + 11) + rm.locals ≤ R.locals) (hW : (rest.map fun v => v.category).sum ≤ 8) (d : decode cc pc = .ok (.invokevirtual idx, 3))
    (kk : ∀ H1 locs1, Ok a N G A s u1 H1 locs1 → W p l e R s m args below meth c H1 locs1 0 0 Q (F0 m (pc + 3) ls (.int r :: rest))) : W p l e R s m args below meth c H locs 0 0 Q (F0 m pc ls st0) := by
  subst hst
  obtain ⟨y1, y2, y3, y4, y5⟩ := hy
  have hG : GoodIn BIG (wsV own idx "java/lang/String" y (Cond.code y cy nM ret :: BIG)) := BIG_goodIn (fun w hw => by
    simp only [wsV, List.mem_append, List.mem_cons, List.not_mem_nil, or_false] at hw
    rcases hw with (rfl | rfl | rfl | rfl) | (rfl | h)
    · exact hl
    · exact y1
    · exact y2
    · exact y3
    · exact y4
    · exact h)
  exact ok_back K (va_runV (As := As) (rest := rest) F (hM H.size) (cwV n F.2.2.2.2 hG rfl hrm.1.1 hrm.1.2 y5 hrm.2) ⟨Pg.blind, vk_recv K.2.2.2.2.2.1 hk K.2.2.2.1, fun U hU hW => ⟨rfl, K.pg hU hW⟩⟩ rfl hn hsz rfl (lv_room hW) d ⟨Nat.zero_le _, Nat.zero_le _⟩) kk
/-- a call of a static method of any class -/
theorem ok_calloi (F : CallFix p m c cc nL s args BIG own) (K : Ok a N G A s u H locs) {idx nM n : Nat} {y : MethodName} {cy : ByteArray} {ret : Option FieldType} {rm : Room} {As st0 : List Value} {r : Int32} {u1 : St}
    (hM : Ctr a N l y cy nM ret rm As G u (some (.int r)) u1) (hy : Cond.static y ∈ BIG ∧ Cond.initialized y.cls ∈ BIG ∧ Cond.code y cy nM ret ∈ BIG ∧ (y.cls ≠ "java/lang/invoke/MethodHandle" ∧ y.cls ≠ "java/lang/invoke/VarHandle" ∧ (parseMethodDescriptor y.desc).map (fun d => d.parameters.length) = some n)) (hl : Cond.methodLink own idx y ∈ BIG) (hn : As.length = n) (hsz : ls.size = nL) (hst : st0 = As.reverse ++ rest) (hrm : (rm.cells = 0 ∧ rm.slots = 0) ∧ rm.frames + 1 ≤ R.frames ∧ 8 + (nM + 11) + rm.locals ≤ R.locals) (hW : (rest.map fun v => v.category).sum ≤ 8) (d : decode cc pc = .ok (.invokestatic idx, 3))
    (kk : ∀ H1 locs1, Ok a N G A s u1 H1 locs1 → W p l e R s m args below meth c H1 locs1 0 0 Q (F0 m (pc + 3) ls (.int r :: rest))) : W p l e R s m args below meth c H locs 0 0 Q (F0 m pc ls st0) := by
  subst hst
  obtain ⟨y1, y3, y4, y5⟩ := hy
  have hG : GoodIn BIG (va_wsS own idx y (Cond.code y cy nM ret :: BIG)) := BIG_goodIn (fun w hw => by
    simp only [va_wsS, List.mem_append, List.mem_cons, List.not_mem_nil, or_false] at hw
    rcases hw with (rfl | rfl | rfl) | (rfl | h)
    · exact hl
    · exact y1
    · exact y3
    · exact y4
    · exact h)
  exact ok_back K (va_runS (As := As) (rest := rest) F (hM H.size) (va_cwS n F.2.2.2.2 hG rfl hrm.1.1 hrm.1.2 y5 hrm.2) ⟨Pg.blind, fun U hU hW => ⟨rfl, K.pg hU hW⟩⟩ rfl hn hsz rfl (lv_room hW) d ⟨Nat.zero_le _, Nat.zero_le _⟩) kk
end MR
section RT
variable {p : Program} {l : Launch} {e : Env} {R : Room} {s : State} {m : MethodId} {av : List Value} {below : List Frame} {meth : Method} {c : Code} {H : Heap} {locs : List Loc}
variable {y : MethodName} {cc : ByteArray} {nL pc : Nat} {ls : Array Slot} {A : Nat → Prop} {a N : Nat} {G : Gt} {u u' : St} {v r : Int32}
theorem ok_retb (B : Bd p s m av meth c y cc nL (some .byte)) (K : Ok a N G A s u H locs) (hf : some (v, u) = some (r, u')) (hz : narrow .byte (.int v) = .int v) (d : decode cc pc = .ok (.ireturn, 1)) : W p l e R s m av.toArray below meth c H locs 0 0 (MQ below (Qg a N G A (some (.int r)) u') av.toArray s 0 0 A) (F0 m pc ls [.int v]) := by
  cases hf
  exact W.zret B.1.1 B.1.2.1 B.2.1 hz (fun t ht hW => ⟨⟨rfl, by rw [ht]; exact K.2.1, K.2.2.1⟩, K.2.2.2.1.F ht⟩) K.2.2.2.1.2.2 d B.2.2
end RT
/-! the rooms of the group that calls itself: by the depth that is left -/
abbrev rmP (d : Nat) : Room := { frames := d + 20, cells := 0, slots := 0, locals := 60 * d + 400 }
theorem rmPr (d nM : Nat) (h : nM ≤ 30) : ((rmP d).cells = 0 ∧ (rmP d).slots = 0) ∧ (rmP d).frames + 1 ≤ (rmP (d + 1)).frames ∧ 8 + (nM + 11) + (rmP d).locals ≤ (rmP (d + 1)).locals :=
  ⟨⟨rfl, rfl⟩, (by show d + 20 + 1 ≤ d + 1 + 20; omega), (by show 8 + (nM + 11) + (60 * d + 400) ≤ 60 * (d + 1) + 400; omega)⟩
theorem rmPc (d nM : Nat) {rm : Room} (h : (rm.cells = 0 ∧ rm.slots = 0) ∧ rm.frames + 1 ≤ 20 ∧ 8 + (nM + 11) + rm.locals ≤ 400) : (rm.cells = 0 ∧ rm.slots = 0) ∧ rm.frames + 1 ≤ (rmP (d + 1)).frames ∧ 8 + (nM + 11) + rm.locals ≤ (rmP (d + 1)).locals :=
  ⟨h.1, Nat.le_trans h.2.1 (by show 20 ≤ d + 1 + 20; omega), Nat.le_trans h.2.2 (by show 400 ≤ 60 * (d + 1) + 400; omega)⟩
