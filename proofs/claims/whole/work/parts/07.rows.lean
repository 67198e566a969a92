/-! what a class's tables say -/
def CF (ci : Nat) (C : String) (T : u_T) (M : Nat) (ty : Nat → FieldType) : Prop := vwCl[ci]? = some (C, T, M) ∧ (∀ w ∈ u_ws C T M, w ∈ BIG) ∧ (∀ k, k < M → parseFieldDescriptor (T k).2.2.1 = some (ty k)) ∧ ∀ a, a < M → ∀ b, b < M → a ≠ b → (T a).2.1 ≠ (T b).2.1
/-- field i of cell k, of the sort (c, r), as class own names it by idx -/
def FI (a N k i c r : Nat) (own : String) (idx : Nat) : Prop := ∃ (ci : Nat) (ts : List (Nat × Nat)) (C : String) (T : u_T) (M : Nat) (ty : Nat → FieldType), objT k = some (ci, ts) ∧ ts[i]? = some (c, r) ∧ CF ci C T M ty ∧ i < M ∧ Cond.fieldLink own idx (T i).1 (T i).2.1 (T i).2.2.1 ∈ BIG ∧ (a ≤ k ∧ k - a < N)
/-- the same, of a field of type tz that may be written -/
def FP (a N k i c : Nat) (tz : FieldType) (own : String) (idx : Nat) : Prop := ∃ (ci : Nat) (ts : List (Nat × Nat)) (C : String) (T : u_T) (M r : Nat) (ty : Nat → FieldType), objT k = some (ci, ts) ∧ ts[i]? = some (c, r) ∧ CF ci C T M ty ∧ i < M ∧ Cond.fieldLink own idx (T i).1 (T i).2.1 (T i).2.2.1 ∈ BIG ∧ (a ≤ k ∧ k - a < N) ∧ (T i).2.2.2 = false ∧ ty i = tz
/-- cell k is an array of kind t and length n -/
def AT (a N k t n : Nat) : Prop := objT k = none ∧ arrT k = (t, n) ∧ (a ≤ k ∧ k - a < N)
theorem nb_z {x : Int32} (h : x = 0 ∨ x = 1) : narrow .boolean (.int x) = .int x := by rcases h with rfl | rfl <;> decide
theorem fb_z {x : Int32} (h : x = 0 ∨ x = 1) : fits .boolean (.int x) = true := by rcases h with rfl | rfl <;> decide
theorem vb_z {x : Int32} (h : x = 0 ∨ x = 1) : vp_nar .boolean x = x := by rcases h with rfl | rfl <;> decide
section RW
variable {p : Program} {l : Launch} {e : Env} {R : Room} {s : State} {m : MethodId} {args : Array Value} {below : List Frame} {meth : Method} {c : Code} {H : Heap} {locs : List Loc} {Q : State → Prop}
variable {cc : ByteArray} {nL pc : Nat} {ls : Array Slot} {rest : List Value} {A : Nat → Prop} {own : String} {a N : Nat} {G : Gt} {u : St}
theorem ok_get (F : CallFix p m c cc nL s args BIG own) (K : Ok a N G A s u H locs) {k i t r idx : Nat} {v : Value} (f : FI a N k i t r own idx) (hv : fval G u k i (t, r) = v) (d : decode cc pc = .ok (.getfield idx, 3))
    (kk : W p l e R s m args below meth c H locs 0 0 Q (F0 m (pc + 3) ls (v :: rest))) : W p l e R s m args below meth c H locs 0 0 Q (F0 m pc ls (.ref (G.1 k) :: rest)) := by
  obtain ⟨ci, ts, C, T, M, ty, h1, h2, ⟨h3, h4, h5, h6⟩, h7, h8, h9⟩ := f
  have hx := X_k (N := N) G u h9
  rw [cell_obj h1] at hx
  exact va_get F.1 F.2.1 F.2.2.2.2 h4 F.2.2.2.1 K.1 K.2.1 (k - a) hx h3 i h7 (F.2.2.2.2 _ h8) (fun _ h => h) (by rw [List.getElem?_mapIdx, h2]; exact congrArg some hv) d kk
theorem ok_int (F : CallFix p m c cc nL s args BIG own) (K : Ok a N G A s u H locs) {k i r idx : Nat} (f : FI a N k i 1 r own idx) (d : decode cc pc = .ok (.getfield idx, 3))
    (kk : W p l e R s m args below meth c H locs 0 0 Q (F0 m (pc + 3) ls (.int (gI u k i) :: rest))) : W p l e R s m args below meth c H locs 0 0 Q (F0 m pc ls (.ref (G.1 k) :: rest)) := ok_get F K f rfl d kk
theorem ok_long (F : CallFix p m c cc nL s args BIG own) (K : Ok a N G A s u H locs) {k i r idx : Nat} (f : FI a N k i 2 r own idx) (d : decode cc pc = .ok (.getfield idx, 3))
    (kk : W p l e R s m args below meth c H locs 0 0 Q (F0 m (pc + 3) ls (.long (gJ u k i) :: rest))) : W p l e R s m args below meth c H locs 0 0 Q (F0 m pc ls (.ref (G.1 k) :: rest)) := ok_get F K f rfl d kk
theorem ok_ref (F : CallFix p m c cc nL s args BIG own) (K : Ok a N G A s u H locs) {k i r idx : Nat} (f : FI a N k i 0 r own idx) (d : decode cc pc = .ok (.getfield idx, 3))
    (kk : W p l e R s m args below meth c H locs 0 0 Q (F0 m (pc + 3) ls (.ref (G.1 r) :: rest))) : W p l e R s m args below meth c H locs 0 0 Q (F0 m pc ls (.ref (G.1 k) :: rest)) := ok_get F K f rfl d kk
theorem ok_mref (F : CallFix p m c cc nL s args BIG own) (K : Ok a N G A s u H locs) {k i r idx : Nat} (f : FI a N k i 3 r own idx) (d : decode cc pc = .ok (.getfield idx, 3))
    (kk : W p l e R s m args below meth c H locs 0 0 Q (F0 m (pc + 3) ls (.ref (G.1 (gR u k i)) :: rest))) : W p l e R s m args below meth c H locs 0 0 Q (F0 m pc ls (.ref (G.1 k) :: rest)) := ok_get F K f rfl d kk
theorem ok_put (F : CallFix p m c cc nL s args BIG own) (K : Ok a N G A s u H locs) {k i t idx : Nat} {tz : FieldType} {v : Value} (f : FP a N k i t tz own idx) (hn : narrow tz v = v) (hfit : fits tz v = true) (u1 : St) (hv : ∀ r, fval G u1 k i (t, r) = v) (hw : ∀ j t, j ≠ i → fval G u1 k j t = fval G u k j t) (hc : ∀ j, j ≠ k → cell G u1 j = cell G u j) (d : decode cc pc = .ok (.putfield idx, 3))
    (kk : ∀ H1 locs1, Ok a N G A s u1 H1 locs1 → W p l e R s m args below meth c H1 locs1 0 0 Q (F0 m (pc + 3) ls rest)) : W p l e R s m args below meth c H locs 0 0 Q (F0 m pc ls (v :: .ref (G.1 k) :: rest)) := by
  obtain ⟨ci, ts, C, T, M, r, ty, h1, h2, ⟨h3, h4, h5, h6⟩, h7, h8, h9, h10, h11⟩ := f
  obtain ⟨K1, K2, K3, K4, K5, K6⟩ := K
  have hx := X_k (N := N) G u h9
  rw [cell_obj h1] at hx
  have hs : (X a N G u).set (k - a) (G.1 k, .inr (ci, (ts.mapIdx (fun i t => fval G u k i t)).set i v)) = X a N G u1 := X_set G u u1 h9 _ (by rw [cell_obj h1, fs_set h2 (hv r) hw]) hc
  refine va_put (ty := tz) F.1 F.2.1 F.2.2.2.2 h4 ty h5 h6 F.2.2.2.1 K1 K2 K3 K4 (k - a) hx h3 i h7 (F.2.2.2.2 _ h8) (fun _ h => h) h10 (by rw [← h11]; exact h5 i h7) hn hfit (by rw [List.length_mapIdx]; exact (List.getElem?_eq_some_iff.mp h2).1) d (fun H1 locs1 g1 g2 g3 => kk H1 locs1 ⟨K1, ?_, ?_, g3, K5, K6⟩)
  · rw [← hs]; exact g1
  · rw [← hs]; exact g2
theorem ok_putI (F : CallFix p m c cc nL s args BIG own) (K : Ok a N G A s u H locs) {k i idx : Nat} {x : Int32} (f : FP a N k i 1 .int own idx) (d : decode cc pc = .ok (.putfield idx, 3))
    (kk : ∀ u1 H1 locs1, u1 = uI u k i x → Ok a N G A s u1 H1 locs1 → W p l e R s m args below meth c H1 locs1 0 0 Q (F0 m (pc + 3) ls rest)) : W p l e R s m args below meth c H locs 0 0 Q (F0 m pc ls (.int x :: .ref (G.1 k) :: rest)) :=
  ok_put F K f rfl rfl (uI u k i x) (fun r => by simp [fval, gI, uI, va_up]) (fun j t hj => by simp [fval, gI, gJ, gR, uI, va_up, hj]) (fun j hj => cell_neI j hj) d (fun H1 locs1 K1 => kk _ H1 locs1 rfl K1)
theorem ok_putZ (F : CallFix p m c cc nL s args BIG own) (K : Ok a N G A s u H locs) {k i idx : Nat} {x : Int32} (f : FP a N k i 1 .boolean own idx) (hz : x = 0 ∨ x = 1) (d : decode cc pc = .ok (.putfield idx, 3))
    (kk : ∀ u1 H1 locs1, u1 = uI u k i x → Ok a N G A s u1 H1 locs1 → W p l e R s m args below meth c H1 locs1 0 0 Q (F0 m (pc + 3) ls rest)) : W p l e R s m args below meth c H locs 0 0 Q (F0 m pc ls (.int x :: .ref (G.1 k) :: rest)) :=
  ok_put F K f (nb_z hz) (fb_z hz) (uI u k i x) (fun r => by simp [fval, gI, uI, va_up]) (fun j t hj => by simp [fval, gI, gJ, gR, uI, va_up, hj]) (fun j hj => cell_neI j hj) d (fun H1 locs1 K1 => kk _ H1 locs1 rfl K1)
theorem ok_putJ (F : CallFix p m c cc nL s args BIG own) (K : Ok a N G A s u H locs) {k i idx : Nat} {x : Int64} (f : FP a N k i 2 .long own idx) (d : decode cc pc = .ok (.putfield idx, 3))
    (kk : ∀ u1 H1 locs1, u1 = uJ u k i x → Ok a N G A s u1 H1 locs1 → W p l e R s m args below meth c H1 locs1 0 0 Q (F0 m (pc + 3) ls rest)) : W p l e R s m args below meth c H locs 0 0 Q (F0 m pc ls (.long x :: .ref (G.1 k) :: rest)) :=
  ok_put F K f rfl rfl (uJ u k i x) (fun r => by simp [fval, gJ, uJ, va_up]) (fun j t hj => by simp [fval, gI, gJ, gR, uJ, va_up, hj]) (fun j hj => cell_neJ j hj) d (fun H1 locs1 K1 => kk _ H1 locs1 rfl K1)
theorem ok_putR (F : CallFix p m c cc nL s args BIG own) (K : Ok a N G A s u H locs) {k i idx x : Nat} {tz : FieldType} (f : FP a N k i 3 (.array tz) own idx) (d : decode cc pc = .ok (.putfield idx, 3))
    (kk : ∀ u1 H1 locs1, u1 = uR u k i x → Ok a N G A s u1 H1 locs1 → W p l e R s m args below meth c H1 locs1 0 0 Q (F0 m (pc + 3) ls rest)) : W p l e R s m args below meth c H locs 0 0 Q (F0 m pc ls (.ref (G.1 x) :: .ref (G.1 k) :: rest)) :=
  ok_put F K f rfl rfl (uR u k i x) (fun r => by simp [fval, gR, uR, va_up]) (fun j t hj => by simp [fval, gI, gJ, gR, uR, va_up, hj]) (fun j hj => cell_neR j hj) d (fun H1 locs1 K1 => kk _ H1 locs1 rfl K1)
theorem ok_iald (F : CallFix p m c cc nL s args BIG own) (K : Ok a N G A s u H locs) {k n : Nat} {i v : Int32} (f : AT a N k 1 n) (hv : ld u k n i = some v) (d : decode cc pc = .ok (.iaload, 1))
    (kk : W p l e R s m args below meth c H locs 0 0 Q (F0 m (pc + 1) ls (.int v :: rest))) : W p l e R s m args below meth c H locs 0 0 Q (F0 m pc ls (.int i :: .ref (G.1 k) :: rest)) := by
  obtain ⟨h1, h2, h3⟩ := f
  obtain ⟨hi, rfl⟩ := g_ld hv
  have hx := X_k (N := N) G u h3
  rw [cell_I h1 h2 (by decide)] at hx
  exact va_iald F.1 F.2.1 K.1 K.2.1 (k - a) 1 hx rfl hi d kk
theorem ok_bald (F : CallFix p m c cc nL s args BIG own) (K : Ok a N G A s u H locs) {k n : Nat} {i v : Int32} (f : AT a N k 0 n) (hv : ld u k n i = some v) (d : decode cc pc = .ok (.baload, 1))
    (kk : W p l e R s m args below meth c H locs 0 0 Q (F0 m (pc + 1) ls (.int v :: rest))) : W p l e R s m args below meth c H locs 0 0 Q (F0 m pc ls (.int i :: .ref (G.1 k) :: rest)) := by
  obtain ⟨h1, h2, h3⟩ := f
  obtain ⟨hi, rfl⟩ := g_ld hv
  have hx := X_k (N := N) G u h3
  rw [cell_I h1 h2 (by decide)] at hx
  exact va_bald F.1 F.2.1 K.1 K.2.1 (k - a) 0 hx rfl hi d kk
theorem ok_zald (F : CallFix p m c cc nL s args BIG own) (K : Ok a N G A s u H locs) {k n : Nat} {i v : Int32} (f : AT a N k 3 n) (hv : ld u k n i = some v) (d : decode cc pc = .ok (.baload, 1))
    (kk : W p l e R s m args below meth c H locs 0 0 Q (F0 m (pc + 1) ls (.int v :: rest))) : W p l e R s m args below meth c H locs 0 0 Q (F0 m pc ls (.int i :: .ref (G.1 k) :: rest)) := by
  obtain ⟨h1, h2, h3⟩ := f
  obtain ⟨hi, rfl⟩ := g_ld hv
  have hx := X_k (N := N) G u h3
  rw [cell_I h1 h2 (by decide)] at hx
  exact va_zald F.1 F.2.1 K.1 K.2.1 (k - a) 3 hx rfl hi d kk
theorem ok_lald (F : CallFix p m c cc nL s args BIG own) (K : Ok a N G A s u H locs) {k n : Nat} {i : Int32} {v : Int64} (f : AT a N k 2 n) (hv : ldJ u k n i = some v) (d : decode cc pc = .ok (.laload, 1))
    (kk : W p l e R s m args below meth c H locs 0 0 Q (F0 m (pc + 1) ls (.long v :: rest))) : W p l e R s m args below meth c H locs 0 0 Q (F0 m pc ls (.int i :: .ref (G.1 k) :: rest)) := by
  obtain ⟨h1, h2, h3⟩ := f
  obtain ⟨hi, rfl⟩ := g_ldJ hv
  have hx := X_k (N := N) G u h3
  rw [cell_J h1 h2] at hx
  exact va_lald F.1 F.2.1 K.1 K.2.1 (k - a) 2 hx rfl hi d kk
theorem ok_stC {k n t i : Nat} {x : Int32} (f : AT a N k t n) (ht : t ≠ 2) : (X a N G u).set (k - a) (G.1 k, .inl (G.2.2.1 t, n, .inl (upd (gI u k) i x))) = X a N G (uI u k i x) := by
  obtain ⟨h1, h2, h3⟩ := f
  refine X_set G u _ h3 _ ?_ (fun j hj => cell_neI j hj)
  rw [cell_I h1 h2 ht]
  have e : gI (uI u k i x) k = upd (gI u k) i x := by simp [gI, uI, va_up]; rfl
  rw [e]
theorem ok_iast (F : CallFix p m c cc nL s args BIG own) (K : Ok a N G A s u H locs) {k n : Nat} {i x : Int32} {u1 : St} (f : AT a N k 1 n) (hv : st u k n i x = some u1) (d : decode cc pc = .ok (.iastore, 1))
    (kk : ∀ H1 locs1, Ok a N G A s u1 H1 locs1 → W p l e R s m args below meth c H1 locs1 0 0 Q (F0 m (pc + 1) ls rest)) : W p l e R s m args below meth c H locs 0 0 Q (F0 m pc ls (.int x :: .int i :: .ref (G.1 k) :: rest)) := by
  obtain ⟨hi, rfl⟩ := g_st hv
  have hs := ok_stC (G := G) (u := u) (i := i.toNatClampNeg) (x := x) f (by decide)
  obtain ⟨h1, h2, h3⟩ := f
  obtain ⟨K1, K2, K3, K4, K5, K6⟩ := K
  have hx := X_k (N := N) G u h3
  rw [cell_I h1 h2 (by decide)] at hx
  refine va_iast F.1 F.2.1 K1 K2 K3 K4 (k - a) 1 hx rfl hi d (fun H1 locs1 g1 g2 g3 => kk H1 locs1 ⟨K1, ?_, ?_, g3, K5, K6⟩)
  · rw [← hs]; exact g1
  · rw [← hs]; exact g2
theorem ok_bast (F : CallFix p m c cc nL s args BIG own) (K : Ok a N G A s u H locs) {k n : Nat} {i x : Int32} {u1 : St} (f : AT a N k 0 n) (hv : stB u k n i x = some u1) (d : decode cc pc = .ok (.bastore, 1))
    (kk : ∀ H1 locs1, Ok a N G A s u1 H1 locs1 → W p l e R s m args below meth c H1 locs1 0 0 Q (F0 m (pc + 1) ls rest)) : W p l e R s m args below meth c H locs 0 0 Q (F0 m pc ls (.int x :: .int i :: .ref (G.1 k) :: rest)) := by
  obtain ⟨hi, rfl⟩ := g_stB hv
  have hs := ok_stC (G := G) (u := u) (i := i.toNatClampNeg) (x := x.toInt8.toInt32) f (by decide)
  obtain ⟨h1, h2, h3⟩ := f
  obtain ⟨K1, K2, K3, K4, K5, K6⟩ := K
  have hx := X_k (N := N) G u h3
  rw [cell_I h1 h2 (by decide)] at hx
  refine va_bast F.1 F.2.1 K1 K2 K3 K4 (k - a) 0 hx rfl hi d (fun H1 locs1 g1 g2 g3 => kk H1 locs1 ⟨K1, ?_, ?_, g3, K5, K6⟩)
  · rw [← hs]; exact g1
  · rw [← hs]; exact g2
theorem ok_zast (F : CallFix p m c cc nL s args BIG own) (K : Ok a N G A s u H locs) {k n : Nat} {i x : Int32} {u1 : St} (f : AT a N k 3 n) (hz : x = 0 ∨ x = 1) (hv : st u k n i x = some u1) (d : decode cc pc = .ok (.bastore, 1))
    (kk : ∀ H1 locs1, Ok a N G A s u1 H1 locs1 → W p l e R s m args below meth c H1 locs1 0 0 Q (F0 m (pc + 1) ls rest)) : W p l e R s m args below meth c H locs 0 0 Q (F0 m pc ls (.int x :: .int i :: .ref (G.1 k) :: rest)) := by
  obtain ⟨hi, rfl⟩ := g_st hv
  have hs := ok_stC (G := G) (u := u) (i := i.toNatClampNeg) (x := x) f (by decide)
  obtain ⟨h1, h2, h3⟩ := f
  obtain ⟨K1, K2, K3, K4, K5, K6⟩ := K
  have hx := X_k (N := N) G u h3
  rw [cell_I h1 h2 (by decide)] at hx
  refine va_zast F.1 F.2.1 K1 K2 K3 K4 (k - a) 3 hx rfl hi d (fun H1 locs1 g1 g2 g3 => kk H1 locs1 ⟨K1, ?_, ?_, g3, K5, K6⟩)
  · rw [← hs]; rw [vb_z hz] at g1; exact g1
  · rw [← hs]; rw [vb_z hz] at g2; exact g2
theorem ok_last (F : CallFix p m c cc nL s args BIG own) (K : Ok a N G A s u H locs) {k n : Nat} {i : Int32} {x : Int64} {u1 : St} (f : AT a N k 2 n) (hv : stJ u k n i x = some u1) (d : decode cc pc = .ok (.lastore, 1))
    (kk : ∀ H1 locs1, Ok a N G A s u1 H1 locs1 → W p l e R s m args below meth c H1 locs1 0 0 Q (F0 m (pc + 1) ls rest)) : W p l e R s m args below meth c H locs 0 0 Q (F0 m pc ls (.long x :: .int i :: .ref (G.1 k) :: rest)) := by
  obtain ⟨hi, rfl⟩ := g_stJ hv
  obtain ⟨h1, h2, h3⟩ := f
  have hs : (X a N G u).set (k - a) (G.1 k, .inl (G.2.2.1 2, n, .inr (.inl (vp_updL (gJ u k) i.toNatClampNeg x)))) = X a N G (uJ u k i.toNatClampNeg x) := by
    refine X_set G u _ h3 _ ?_ (fun j hj => cell_neJ j hj)
    rw [cell_J h1 h2]
    have e : gJ (uJ u k i.toNatClampNeg x) k = vp_updL (gJ u k) i.toNatClampNeg x := by simp [gJ, uJ, va_up]; rfl
    rw [e]
  obtain ⟨K1, K2, K3, K4, K5, K6⟩ := K
  have hx := X_k (N := N) G u h3
  rw [cell_J h1 h2] at hx
  refine va_last F.1 F.2.1 K1 K2 K3 K4 (k - a) 2 hx rfl hi d (fun H1 locs1 g1 g2 g3 => kk H1 locs1 ⟨K1, ?_, ?_, g3, K5, K6⟩)
  · rw [← hs]; exact g1
  · rw [← hs]; exact g2
theorem ok_alen (F : CallFix p m c cc nL s args BIG own) (K : Ok a N G A s u H locs) {k t n : Nat} (f : AT a N k t n) (ht : t ≠ 2 ∧ t < 4) {v : Int32} (hv : Int32.ofNat n = v) (d : decode cc pc = .ok (.arraylength, 1))
    (kk : W p l e R s m args below meth c H locs 0 0 Q (F0 m (pc + 1) ls (.int v :: rest))) : W p l e R s m args below meth c H locs 0 0 Q (F0 m pc ls (.ref (G.1 k) :: rest)) := by
  obtain ⟨h1, h2, h3⟩ := f
  have hx := X_k (N := N) G u h3
  rw [cell_I h1 h2 ht.1] at hx
  exact va_alen F.1 F.2.1 K.1 K.2.1 (k - a) t hx (tysG_at G ht.2) hv d kk
end RW
/-! returns -/
section RT
variable {p : Program} {l : Launch} {e : Env} {R : Room} {s : State} {m : MethodId} {av : List Value} {below : List Frame} {meth : Method} {c : Code} {H : Heap} {locs : List Loc}
variable {y : MethodName} {cc : ByteArray} {nL pc : Nat} {ls : Array Slot} {A : Nat → Prop} {a N : Nat} {G : Gt} {u u' : St} {v r : Int32}
theorem ok_reti (B : Bd p s m av meth c y cc nL (some .int)) (K : Ok a N G A s u H locs) (hf : some (v, u) = some (r, u')) (d : decode cc pc = .ok (.ireturn, 1)) : W p l e R s m av.toArray below meth c H locs 0 0 (MQ below (Qg a N G A (some (.int r)) u') av.toArray s 0 0 A) (F0 m pc ls [.int v]) := by
  cases hf
  exact W.iret B.1.1 B.1.2.1 B.2.1 (fun t ht hW => ⟨⟨rfl, by rw [ht]; exact K.2.1, K.2.2.1⟩, K.2.2.2.1.F ht⟩) K.2.2.2.1.2.2 d B.2.2
theorem ok_retz (B : Bd p s m av meth c y cc nL (some .boolean)) (K : Ok a N G A s u H locs) (hf : some (v, u) = some (r, u')) (hz : v = 0 ∨ v = 1) (d : decode cc pc = .ok (.ireturn, 1)) : W p l e R s m av.toArray below meth c H locs 0 0 (MQ below (Qg a N G A (some (.int r)) u') av.toArray s 0 0 A) (F0 m pc ls [.int v]) := by
  cases hf
  exact W.zret B.1.1 B.1.2.1 B.2.1 (nb_z hz) (fun t ht hW => ⟨⟨rfl, by rw [ht]; exact K.2.1, K.2.2.1⟩, K.2.2.2.1.F ht⟩) K.2.2.2.1.2.2 d B.2.2
theorem ok_retv (B : Bd p s m av meth c y cc nL none) (K : Ok a N G A s u H locs) (hf : some u = some u') (d : decode cc pc = .ok (.return_, 1)) : W p l e R s m av.toArray below meth c H locs 0 0 (MQ below (Qg a N G A none u') av.toArray s 0 0 A) (F0 m pc ls []) := by
  cases hf
  exact W.vret B.1.1 B.1.2.1 B.2.1 (fun t ht hW => ⟨⟨rfl, by rw [ht]; exact K.2.1, K.2.2.1⟩, K.2.2.2.1.F ht⟩) K.2.2.2.1.2.2 d B.2.2
end RT
/-! calls -/
/-- what the tables say of an instance method -/
def MI (C : String) (y : MethodName) (cc : ByteArray) (nL n : Nat) (ret : Option FieldType) : Prop := Cond.instanceMethod y ∈ BIG ∧ Cond.selects C y y ∈ BIG ∧ Cond.initialized C ∈ BIG ∧ Cond.code y cc nL ret ∈ BIG ∧ (y.cls = C ∧ y.cls ≠ "java/lang/invoke/MethodHandle" ∧ y.cls ≠ "java/lang/invoke/VarHandle" ∧ (parseMethodDescriptor y.desc).map (fun d => d.parameters.length) = some n)
/-- cell k is an object of class C -/
def OC (a N k : Nat) (C : String) : Prop := ∃ (ci : Nat) (ts : List (Nat × Nat)) (T : u_T) (M : Nat), objT k = some (ci, ts) ∧ vwCl[ci]? = some (C, T, M) ∧ (a ≤ k ∧ k - a < N)
section CL
variable {p : Program} {l : Launch} {e : Env} {R : Room} {s : State} {m : MethodId} {args : Array Value} {below : List Frame} {meth : Method} {c : Code} {H : Heap} {locs : List Loc} {Q : State → Prop}
variable {cc : ByteArray} {nL pc : Nat} {ls : Array Slot} {rest : List Value} {A : Nat → Prop} {own : String} {a N : Nat} {G : Gt} {u : St}
theorem Pg.blind {av : List Value} {sz : Nat} : FrameBlind (va_Pc av (Pg a N G u sz)) := fun b U g mk q => by
  obtain ⟨q0, q1, qP, qK, qD, qE⟩ := q
  exact ⟨q0, q1, qP, va_K.moved (u := U) (U := U.calling g mk b) (Vm.Alike.refl U.vm) qK, qD, Ev.same (s := U) (U := U.calling g mk b) rfl qE⟩
theorem Ok.pg (K : Ok a N G A s u H locs) {U : State} (hU : U.heap = H) (hW : s.WarmedH U.vm) : Pg a N G u H.size U := by
  refine ⟨by rw [hU], by rw [hU]; exact K.2.1, va_K.moved hW.alike K.1, K.2.2.1.weaken (fun _ _ _ _ => trivial), ?_⟩
  have h1 : Ev G A s H := K.2.2.2.2.2.kept K.2.2.2.1.2.1
  rw [hU]
  exact (h1.narrow K.ax).warm hW
theorem ok_back {st0 : List Value} {r : Option Value} {u1 : St} {aa : Array Value} (K : Ok a N G A s u H locs) (hr : va_Run p l e R s m args below meth c H locs 0 0 0 0 (F0 m pc ls st0) rest (Qg a N G (AX a N G H.size) r u1 aa) (AX a N G H.size))
    (kk : ∀ H1 locs1, Ok a N G A s u1 H1 locs1 → W p l e R s m args below meth c H1 locs1 0 0 Q (F0 m (pc + 3) ls (r.toList ++ rest))) : W p l e R s m args below meth c H locs 0 0 Q (F0 m pc ls st0) := by
  intro T hT Xs
  obtain ⟨v, st₀, t, T', L, h0, X', hL, e1, e2, ⟨⟨hv, hP, hD⟩, hz, hk⟩, stp⟩ := hr T hT Xs
  cases hv
  rw [h0] at hz hk
  have hAX := K.ax
  obtain ⟨K1, K2, K3, K4, K5, K6⟩ := K
  obtain ⟨t2, a1, b1⟩ := kk T'.heap (locs ++ L) ⟨K1, by rw [e1]; exact hP, hD.weaken (fun _ q _ h => hAX _ h), ⟨Nat.le_trans K4.1 (by rw [e1]; exact hz), fun q h1 h2 => by rw [e1, hk q (Nat.lt_of_lt_of_le h1 K4.1) (fun z => h2 (hAX q z))]; exact K4.2.1 q h1 h2, fun q hq => by
      rcases List.mem_append.mp hq with h | h
      · exact K4.2.2 q h
      · exact hAX _ (hL q h)⟩, K5, K6⟩ T' rfl X'
  exact ⟨t2, stp t2 a1, b1⟩
theorem ok_call (F : CallFix p m c cc nL s args BIG own) (K : Ok a N G A s u H locs) {k idx nM n : Nat} {C : String} {y : MethodName} {cy : ByteArray} {ret : Option FieldType} {rm : Room} {As st0 : List Value} {r : Option Value} {u1 : St}
    (hM : Ctr a N l y cy nM ret rm (.ref (G.1 k) :: As) G u r u1) (hy : MI C y cy nM n ret) (ho : OC a N k C) (hl : Cond.methodLink own idx y ∈ BIG) (hn : As.length = n) (hsz : ls.size = nL) (hst : st0 = As.reverse ++ .ref (G.1 k) :: rest) (hrm : (rm.cells = 0 ∧ rm.slots = 0) ∧ rm.frames + 1 ≤ R.frames ∧ 8 + (nM + 11) + rm.locals ≤ R.locals) (hW : (rest.map fun v => v.category).sum ≤ 8) (d : decode cc pc = .ok (.invokevirtual idx, 3))
    (kk : ∀ H1 locs1, Ok a N G A s u1 H1 locs1 → W p l e R s m args below meth c H1 locs1 0 0 Q (F0 m (pc + 3) ls (r.toList ++ rest))) : W p l e R s m args below meth c H locs 0 0 Q (F0 m pc ls st0) := by
  subst hst
  obtain ⟨y1, y2, y3, y4, y5⟩ := hy
  have hG : GoodIn BIG (wsV own idx C y (Cond.code y cy nM ret :: BIG)) := BIG_goodIn (fun w hw => by
    simp only [wsV, List.mem_append, List.mem_cons, List.not_mem_nil, or_false] at hw
    rcases hw with (rfl | rfl | rfl | rfl) | (rfl | h)
    · exact hl
    · exact y1
    · exact y2
    · exact y3
    · exact y4
    · exact h)
  obtain ⟨ci, ts, T, M, o1, o2, o3⟩ := ho
  have hx := X_k (N := N) G u o3
  rw [cell_obj o1] at hx
  exact ok_back K (va_runV (As := As) (rest := rest) F (hM H.size) (cwV n F.2.2.2.2 hG rfl hrm.1.1 hrm.1.2 y5 hrm.2) ⟨Pg.blind, va_recv K.1 K.2.1 o2 hx, fun U hU hW => ⟨rfl, K.pg hU hW⟩⟩ rfl hn hsz rfl (lv_room hW) d ⟨Nat.zero_le _, Nat.zero_le _⟩) kk
theorem ok_calli (F : CallFix p m c cc nL s args BIG own) (K : Ok a N G A s u H locs) {k idx nM n : Nat} {C : String} {y : MethodName} {cy : ByteArray} {ret : Option FieldType} {rm : Room} {As st0 : List Value} {r : Int32} {u1 : St}
    (hM : Ctr a N l y cy nM ret rm (.ref (G.1 k) :: As) G u (some (.int r)) u1) (hy : MI C y cy nM n ret) (ho : OC a N k C) (hl : Cond.methodLink own idx y ∈ BIG) (hn : As.length = n) (hsz : ls.size = nL) (hst : st0 = As.reverse ++ .ref (G.1 k) :: rest) (hrm : (rm.cells = 0 ∧ rm.slots = 0) ∧ rm.frames + 1 ≤ R.frames ∧ 8 + (nM + 11) + rm.locals ≤ R.locals) (hW : (rest.map fun v => v.category).sum ≤ 8) (d : decode cc pc = .ok (.invokevirtual idx, 3))
    (kk : ∀ H1 locs1, Ok a N G A s u1 H1 locs1 → W p l e R s m args below meth c H1 locs1 0 0 Q (F0 m (pc + 3) ls (.int r :: rest))) : W p l e R s m args below meth c H locs 0 0 Q (F0 m pc ls st0) := ok_call F K hM hy ho hl hn hsz hst hrm hW d kk
theorem ok_callv (F : CallFix p m c cc nL s args BIG own) (K : Ok a N G A s u H locs) {k idx nM n : Nat} {C : String} {y : MethodName} {cy : ByteArray} {ret : Option FieldType} {rm : Room} {As st0 : List Value} {u1 : St}
    (hM : Ctr a N l y cy nM ret rm (.ref (G.1 k) :: As) G u none u1) (hy : MI C y cy nM n ret) (ho : OC a N k C) (hl : Cond.methodLink own idx y ∈ BIG) (hn : As.length = n) (hsz : ls.size = nL) (hst : st0 = As.reverse ++ .ref (G.1 k) :: rest) (hrm : (rm.cells = 0 ∧ rm.slots = 0) ∧ rm.frames + 1 ≤ R.frames ∧ 8 + (nM + 11) + rm.locals ≤ R.locals) (hW : (rest.map fun v => v.category).sum ≤ 8) (d : decode cc pc = .ok (.invokevirtual idx, 3))
    (kk : ∀ H1 locs1, Ok a N G A s u1 H1 locs1 → W p l e R s m args below meth c H1 locs1 0 0 Q (F0 m (pc + 3) ls rest)) : W p l e R s m args below meth c H locs 0 0 Q (F0 m pc ls st0) := ok_call F K hM hy ho hl hn hsz hst hrm hW d kk
/-- what the tables say of a static method -/
theorem ok_callS (F : CallFix p m c cc nL s args BIG own) (K : Ok a N G A s u H locs) {idx nM n : Nat} {y : MethodName} {cy : ByteArray} {ret : Option FieldType} {rm : Room} {As st0 : List Value} {r : Option Value} {u1 : St}
    (hM : Ctr a N l y cy nM ret rm As G u r u1) (hy : Cond.static y ∈ BIG ∧ Cond.initialized own ∈ BIG ∧ Cond.code y cy nM ret ∈ BIG ∧ (y.cls = own ∧ y.cls ≠ "java/lang/invoke/MethodHandle" ∧ y.cls ≠ "java/lang/invoke/VarHandle" ∧ (parseMethodDescriptor y.desc).map (fun d => d.parameters.length) = some n)) (hl : Cond.methodLink own idx y ∈ BIG) (hn : As.length = n) (hsz : ls.size = nL) (hst : st0 = As.reverse ++ rest) (hrm : (rm.cells = 0 ∧ rm.slots = 0) ∧ rm.frames + 1 ≤ R.frames ∧ 8 + (nM + 11) + rm.locals ≤ R.locals) (hW : (rest.map fun v => v.category).sum ≤ 8) (d : decode cc pc = .ok (.invokestatic idx, 3))
    (kk : ∀ H1 locs1, Ok a N G A s u1 H1 locs1 → W p l e R s m args below meth c H1 locs1 0 0 Q (F0 m (pc + 3) ls (r.toList ++ rest))) : W p l e R s m args below meth c H locs 0 0 Q (F0 m pc ls st0) := by
  subst hst
  obtain ⟨y1, y3, y4, y5⟩ := hy
  have hG : GoodIn BIG (wsS own idx y (Cond.code y cy nM ret :: BIG)) := BIG_goodIn (fun w hw => by
    simp only [wsS, List.mem_append, List.mem_cons, List.not_mem_nil, or_false] at hw
    rcases hw with (rfl | rfl | rfl) | (rfl | h)
    · exact hl
    · exact y1
    · exact y3
    · exact y4
    · exact h)
  exact ok_back K (va_runS (As := As) (rest := rest) F (hM H.size) (cwS n F.2.2.2.2 hG rfl hrm.1.1 hrm.1.2 y5 hrm.2) ⟨Pg.blind, fun U hU hW => ⟨rfl, K.pg hU hW⟩⟩ rfl hn hsz rfl (lv_room hW) d ⟨Nat.zero_le _, Nat.zero_le _⟩) kk
theorem ok_callsi (F : CallFix p m c cc nL s args BIG own) (K : Ok a N G A s u H locs) {idx nM n : Nat} {y : MethodName} {cy : ByteArray} {ret : Option FieldType} {rm : Room} {As st0 : List Value} {r : Int32} {u1 : St}
    (hM : Ctr a N l y cy nM ret rm As G u (some (.int r)) u1) (hy : Cond.static y ∈ BIG ∧ Cond.initialized own ∈ BIG ∧ Cond.code y cy nM ret ∈ BIG ∧ (y.cls = own ∧ y.cls ≠ "java/lang/invoke/MethodHandle" ∧ y.cls ≠ "java/lang/invoke/VarHandle" ∧ (parseMethodDescriptor y.desc).map (fun d => d.parameters.length) = some n)) (hl : Cond.methodLink own idx y ∈ BIG) (hn : As.length = n) (hsz : ls.size = nL) (hst : st0 = As.reverse ++ rest) (hrm : (rm.cells = 0 ∧ rm.slots = 0) ∧ rm.frames + 1 ≤ R.frames ∧ 8 + (nM + 11) + rm.locals ≤ R.locals) (hW : (rest.map fun v => v.category).sum ≤ 8) (d : decode cc pc = .ok (.invokestatic idx, 3))
    (kk : ∀ H1 locs1, Ok a N G A s u1 H1 locs1 → W p l e R s m args below meth c H1 locs1 0 0 Q (F0 m (pc + 3) ls (.int r :: rest))) : W p l e R s m args below meth c H locs 0 0 Q (F0 m pc ls st0) := ok_callS F K hM hy hl hn hsz hst hrm hW d kk
theorem lv_tableInE (hexec : p.tables.exec = Jvm.exec) (hb : c.code = cc) {dflt lo hi : Int} {offs : Array Int} {len : Nat} {x K : Int32} {off : Int} {tgt : Nat} (hdg : decode cc pc = .ok (.tableswitch dflt lo hi offs, len)) (hK : x = K) (h1 : ¬ K.toInt < lo) (h2 : ¬ hi < K.toInt) (ho : offs[(K.toInt - lo).toNat]? = some off) (ht : (pc : Int) + off = (tgt : Int))
    (k : W p l e R s m args below meth c H locs 0 0 Q (F0 m tgt ls rest)) : W p l e R s m args below meth c H locs 0 0 Q (F0 m pc ls (.int x :: rest)) := by
  subst hK
  exact lv_tableIn hexec hb hdg h1 h2 ho ht k
theorem lv_lookupE (hexec : p.tables.exec = Jvm.exec) (hb : c.code = cc) {dflt : Int} {ps : Array (Int × Int)} {len : Nat} {x K : Int32} {off : Int} {tgt : Nat} (hdg : decode cc pc = .ok (.lookupswitch dflt ps, len)) (hK : x = K) (hp : (ps.toList.zip (ps.toList.drop 1)).all (fun (a, next) => a.1 < next.1) = true) (ho : Op.lookupswitch.offset ps.toList dflt K.toInt = off) (ht : (pc : Int) + off = (tgt : Int))
    (k : W p l e R s m args below meth c H locs 0 0 Q (F0 m tgt ls rest)) : W p l e R s m args below meth c H locs 0 0 Q (F0 m pc ls (.int x :: rest)) := by
  subst hK
  exact lv_lookup hexec hb hdg hp ho ht k
theorem ok_mmin (F : CallFix p m c cc nL s args BIG own) (hsz : ls.size = nL) {idx : Nat} (hl : Cond.methodLink own idx Lib.Math.min.name ∈ BIG) (hw : Cond.static Lib.Math.min.name ∈ BIG ∧ Cond.initialized "java/lang/Math" ∈ BIG ∧ Cond.code Lib.Math.min.name Lib.Math.min.code 2 (some .int) ∈ BIG) (hr : 1 ≤ R.frames ∧ (rest.map fun v => v.category).sum + 13 ≤ R.locals) {x y : Int32} (d : decode cc pc = .ok (.invokestatic idx, 3))
    (kk : W p l e R s m args below meth c H locs 0 0 Q (F0 m (pc + 3) ls (.int (if y < x then y else x) :: rest))) : W p l e R s m args below meth c H locs 0 0 Q (F0 m pc ls (.int y :: .int x :: rest)) :=
  va_mmin F.1 F.2.1 (F.2.2.1.trans hsz.symm) F.2.2.2.1 (F.2.2.2.2 _ hl) (F.2.2.2.2 _ hw.1) (F.2.2.2.2 _ hw.2.1) (F.2.2.2.2 _ hw.2.2) hr.1 hr.2 (Nat.zero_le _) (Nat.zero_le _) d kk
end CL
theorem sw_out (x : Int32) (lo hi : Int) (h : ∀ k : Int, lo ≤ k → k ≤ hi → ¬ x = Int32.ofInt k) : x.toInt < lo ∨ hi < x.toInt := by
  by_cases h1 : x.toInt < lo
  · exact Or.inl h1
  · by_cases h2 : hi < x.toInt
    · exact Or.inr h2
    · exact absurd (Int32.ofInt_toInt x).symm (h x.toInt (by omega) (by omega))
theorem g_pg {k z : Nat} (h : pg k = some z) : AT 0 76 k 0 4000 := by
  unfold pg at h
  by_cases hc : k = 71 ∨ k = 72
  · rcases hc with rfl | rfl
    · exact ⟨rfl, rfl, by decide⟩
    · exact ⟨rfl, rfl, by decide⟩
  · rw [if_neg hc] at h; cases h
theorem lk_out (x : Int32) (d : Int) : ∀ (l : List (Int × Int)), (∀ q ∈ l, ¬ x = Int32.ofInt q.1) → Op.lookupswitch.offset l d x.toInt = d
  | [], _ => rfl
  | (a, o) :: r, h => by
    rw [Op.lookupswitch.offset_cons, if_neg (fun e => h (a, o) List.mem_cons_self (by rw [e]; exact (Int32.ofInt_toInt x).symm))]
    exact lk_out x d r (fun q hq => h q (List.mem_cons_of_mem _ hq))
