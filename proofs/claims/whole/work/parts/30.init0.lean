/-! constructors: worlds that grow -/
def Ok0 (G : Gt) (A : Nat → Prop) (s : State) (ws : va_W) (H : Heap) (locs : List Loc) : Prop :=
  va_K G.2.1 vwCl (tysG G) s ∧ va_P G.2.1 vwCl ws H ∧ va_D A ws ∧ va_S A s.heap H locs ∧ (∀ q, s.heap.size ≤ q → A q)
/-- the links inside a nest that a constructor uses -/
def Nws (nw : List Cond) (U : State) : Prop := ∀ w ∈ nw, ∃ own idx y host, w = .methodLinkNest own idx y host ∧ va_Nw (.methodLinkNest own idx y host) U
def Pn (G : Gt) (nw : List Cond) (ws : va_W) (sz : Nat) (U : State) : Prop := U.heap.size = sz ∧ va_P G.2.1 vwCl ws U.heap ∧ va_K G.2.1 vwCl (tysG G) U ∧ va_D (fun _ => True) ws ∧ Nws nw U
def Qn (G : Gt) (A : Nat → Prop) (post : va_W → Prop) : Array Value → State → Outcome → State → Prop := fun _ st oc t => (∃ ws', oc = .returned none ∧ post ws' ∧ va_P G.2.1 vwCl ws' t.heap ∧ va_D A ws') ∧ va_F A st t
def CtrN (l : Launch) (y : MethodName) (cc : ByteArray) (nL : Nat) (rm : Room) (av : List Value) (G : Gt) (nw : List Cond) (ws : va_W) (mc ms : Nat) (post : va_W → Prop) : Prop :=
  ∀ sz : Nat, Met l y (Cond.code y cc nL none :: BIG) rm (va_Pc av (Pn G nw ws sz)) (Qn G (va_A ws sz) post) mc ms (va_A ws sz)
theorem CtrN.mk {l : Launch} {y : MethodName} {cc : ByteArray} {nL : Nat} {rm : Room} {av : List Value} {G : Gt} {nw : List Cond} {ws : va_W} {mc ms : Nat} {post : va_W → Prop} (hy : plainName y.cls = true) (hlen : (lg_sl av).length ≤ nL)
    (body : ∀ p e s m below meth c A ls, Bd p s m av meth c y cc nL none → meth.name = y.name → Nws nw s → Ok0 G A s ws s.heap [] → lv_has ls nL (lv_args 0 av) → W p l e rm s m av.toArray below meth c s.heap [] 0 0 (MQ below (Qn G A post) av.toArray s mc ms A) (F0 m 0 ls [])) : CtrN l y cc nL rm av G nw ws mc ms post := by
  intro sz
  refine Met.ofW (cc := cc) (maxL := nL) (ret := none) hy rfl ?_
  intro p e s m args below meth c s₁ B hml hv
  obtain ⟨rfl, hsz, hP, hK, hD, hN⟩ := hv
  have hts := atoms_spec (ws := Cond.code y cc nL none :: BIG) B.pre
  have hown : s.vm.findClass y.cls = some m.cls := findClass_of_methodNamed B.named
  rw [lg_entry_eq]
  exact body p e s m below meth c (va_A ws sz) _ ⟨⟨B.exec, B.bytes, hml, hown, fun w hw => hts w (List.mem_cons_of_mem _ hw)⟩, B.returns, B.notSynchronized⟩ (name_of_methodNamed B.named B.method).1 hN
    ⟨hK, hP, hD.self, va_S.rf, fun q h => Or.inr (hsz ▸ h)⟩ (lv_entry av hlen)
section RN
variable {p : Program} {l : Launch} {e : Env} {R : Room} {s : State} {m : MethodId} {args : Array Value} {below : List Frame} {meth : Method} {c : Code} {H : Heap} {locs : List Loc} {Q : State → Prop} {cells slots : Nat}
variable {cc : ByteArray} {nL pc : Nat} {ls : Array Slot} {rest : List Value} {A : Nat → Prop} {own : String} {G : Gt} {ws : va_W}
theorem o_obj (F : CallFix p m c cc nL s args BIG own) (hsz : ls.size = nL) {idx a : Nat} (hl : Cond.methodLink own idx objectInit ∈ BIG) (hw : Cond.instanceMethod objectInit ∈ BIG ∧ Cond.code objectInit ⟨#[0xb1]⟩ 1 none ∈ BIG) (hr : 1 ≤ R.frames ∧ (rest.map fun v => v.category).sum + 12 ≤ R.locals) (d : decode cc pc = .ok (.invokespecial idx, 3))
    (kk : W p l e R s m args below meth c H locs cells slots Q (F0 m (pc + 3) ls rest)) : W p l e R s m args below meth c H locs cells slots Q (F0 m pc ls (.ref a :: rest)) :=
  W.objInit F.1 F.2.1 F.2.2.2.1 (F.2.2.2.2 _ hl) (F.2.2.2.2 _ hw.1) (F.2.2.2.2 _ hw.2) rfl (hsz.trans F.2.2.1.symm) rfl d hr.1 (by show 2 * 0 + _ + 12 ≤ _; omega) kk
theorem o_newa (F : CallFix p m c cc nL s args BIG own) (K : Ok0 G A s ws H locs) (t : Nat) {atype : ArrayType} (ht : t < 4) (hty : newarray.typeOf atype = tyF t) (harr : Cond.arrayClass (newarray.typeOf atype) ∈ BIG) {n : Int32} (n' : Nat) {a0 : vp_A} (ha : ∀ cA : ClassId, vp_cell cA a0 = arrV cA n' (fun _ => defaultValue (tyF t))) (hn : ¬ n < 0) (hN : n.toNatClampNeg = n') (hbytes : n' * componentBytes (tyF t) ≤ 536870912) (hcells : cells + 1 ≤ R.cells) (hslots : slots + n' ≤ R.slots) (d : decode cc pc = .ok (.newarray atype, 2))
    (kk : ∀ (q : Nat) (H1 : Heap), Ok0 G A s (ws ++ [(q, .inl (G.2.2.1 t, a0))]) H1 locs → W p l e R s m args below meth c H1 locs (cells + 1) (slots + n') Q (F0 m (pc + 2) ls (.ref q :: rest))) : W p l e R s m args below meth c H locs cells slots Q (F0 m pc ls (.int n :: rest)) := by
  obtain ⟨K1, K2, K3, K4, K5⟩ := K
  refine va_newa F.1 F.2.1 (F.2.2.2.2 _ harr) hty K1 K2 K3 K4 K5 ha hn hN hbytes hcells hslots d (fun q cA H1 k1 g1 g2 g3 => ?_)
  have e1 := (k1.2 (tysG G).length (cA, tyF t) (by simp)).2
  have e2 := (K1.2 t _ (tysG_at G ht)).2
  have e : cA = G.2.2.1 t := by
    have f1 : s.vm.findClass ("[" ++ (tyF t).toString) = some cA := by
      match t, ht, e1 with
      | 0, _, h => exact h
      | 1, _, h => exact h
      | 2, _, h => exact h
      | 3, _, h => exact h
    have f2 : s.vm.findClass ("[" ++ (tyF t).toString) = some (G.2.2.1 t) := by
      match t, ht, e2 with
      | 0, _, h => exact h
      | 1, _, h => exact h
      | 2, _, h => exact h
      | 3, _, h => exact h
    exact Option.some.inj (f1.symm.trans f2)
  subst e
  exact kk q H1 ⟨K1, g1, g2, g3, K5⟩
theorem o_new (F : CallFix p m c cc nL s args BIG own) (K : Ok0 G A s ws H locs) {ci M idx : Nat} {C : String} {T : u_T} {ty : Nat → FieldType} (f : CF ci C T M ty) (hcl : Cond.classLink own idx C ∈ BIG) (hinst : Cond.instantiable C M ∈ BIG) (hini : Cond.initialized C ∈ BIG) {fs : List Value} (hfs : ∀ j, j < M → defaultValue (ty j) = vp_V fs j) (hcells : cells + 1 ≤ R.cells) (hslots : slots + M ≤ R.slots) (d : decode cc pc = .ok (.new idx, 3))
    (kk : ∀ (q : Nat) (H1 : Heap), Ok0 G A s (ws ++ [(q, .inr (ci, fs))]) H1 locs → W p l e R s m args below meth c H1 locs (cells + 1) (slots + M) Q (F0 m (pc + 3) ls (.ref q :: rest))) : W p l e R s m args below meth c H locs cells slots Q (F0 m pc ls rest) := by
  obtain ⟨K1, K2, K3, K4, K5⟩ := K
  exact va_new F.1 F.2.1 F.2.2.2.2 f.2.1 ty f.2.2.1 F.2.2.2.1 (F.2.2.2.2 _ hcl) (F.2.2.2.2 _ hinst) (F.2.2.2.2 _ hini) K1 K2 K3 K4 K5 f.1 hfs hcells hslots d (fun q H1 g1 g2 g3 => kk q H1 ⟨K1, g1, g2, g3, K5⟩)
theorem o_put (F : CallFix p m c cc nL s args BIG own) (hnm : meth.name = "<init>") (K : Ok0 G A s ws H locs) (q0 : Nat) {a ci M k idx : Nat} {C : String} {T : u_T} {ty : Nat → FieldType} {fs : List Value} {v : Value} (f : CF ci C T M ty) (he : ws[q0]? = some (a, .inr (ci, fs))) (hk : k < M) (hl : Cond.fieldLink own idx (T k).1 (T k).2.1 (T k).2.2.1 ∈ BIG) (hown : (T k).1 = own) (hn : narrow (ty k) v = v) (hfit : fits (ty k) v = true) (hlen : k < fs.length) (ws' : va_W) (hws : ws.set q0 (a, .inr (ci, fs.set k v)) = ws') (d : decode cc pc = .ok (.putfield idx, 3))
    (kk : ∀ H1 locs1, Ok0 G A s ws' H1 locs1 → W p l e R s m args below meth c H1 locs1 cells slots Q (F0 m (pc + 3) ls rest)) : W p l e R s m args below meth c H locs cells slots Q (F0 m pc ls (v :: .ref a :: rest)) := by
  obtain ⟨K1, K2, K3, K4, K5⟩ := K
  subst hws
  cases hfin : (T k).2.2.2 with
  | true => exact va_putF (ty := ty k) F.1 F.2.1 F.2.2.2.2 f.2.1 ty f.2.2.1 f.2.2.2 F.2.2.2.1 K1 K2 K3 K4 q0 he f.1 k hk (F.2.2.2.2 _ hl) (fun _ h => h) hfin hnm hown (f.2.2.1 k hk) hn hfit hlen d (fun H1 locs1 g1 g2 g3 => kk H1 locs1 ⟨K1, g1, g2, g3, K5⟩)
  | false => exact va_put (ty := ty k) F.1 F.2.1 F.2.2.2.2 f.2.1 ty f.2.2.1 f.2.2.2 F.2.2.2.1 K1 K2 K3 K4 q0 he f.1 k hk (F.2.2.2.2 _ hl) (fun _ h => h) hfin (f.2.2.1 k hk) hn hfit hlen d (fun H1 locs1 g1 g2 g3 => kk H1 locs1 ⟨K1, g1, g2, g3, K5⟩)
theorem o_get (F : CallFix p m c cc nL s args BIG own) (K : Ok0 G A s ws H locs) (q0 : Nat) {a ci M k idx : Nat} {C : String} {T : u_T} {ty : Nat → FieldType} {fs : List Value} {v : Value} (f : CF ci C T M ty) (he : ws[q0]? = some (a, .inr (ci, fs))) (hk : k < M) (hl : Cond.fieldLink own idx (T k).1 (T k).2.1 (T k).2.2.1 ∈ BIG) (hv : fs[k]? = some v) (d : decode cc pc = .ok (.getfield idx, 3))
    (kk : W p l e R s m args below meth c H locs cells slots Q (F0 m (pc + 3) ls (v :: rest))) : W p l e R s m args below meth c H locs cells slots Q (F0 m pc ls (.ref a :: rest)) :=
  va_get F.1 F.2.1 F.2.2.2.2 f.2.1 F.2.2.2.1 K.1 K.2.1 q0 he f.1 k hk (F.2.2.2.2 _ hl) (fun _ h => h) hv d kk
theorem o_iast (F : CallFix p m c cc nL s args BIG own) (K : Ok0 G A s ws H locs) (q0 : Nat) {a n : Nat} {f : Nat → Int32} {i x : Int32} (he : ws[q0]? = some (a, .inl (G.2.2.1 1, n, .inl f))) (hi : vp_in i n) (d : decode cc pc = .ok (.iastore, 1))
    (kk : ∀ H1 locs1, Ok0 G A s (ws.set q0 (a, .inl (G.2.2.1 1, n, .inl (upd f i.toNatClampNeg x)))) H1 locs1 → W p l e R s m args below meth c H1 locs1 cells slots Q (F0 m (pc + 1) ls rest)) : W p l e R s m args below meth c H locs cells slots Q (F0 m pc ls (.int x :: .int i :: .ref a :: rest)) := by
  obtain ⟨K1, K2, K3, K4, K5⟩ := K
  exact va_iast F.1 F.2.1 K1 K2 K3 K4 q0 1 he rfl hi d (fun H1 locs1 g1 g2 g3 => kk H1 locs1 ⟨K1, g1, g2, g3, K5⟩)
theorem o_ret {av : List Value} {y : MethodName} (B : Bd p s m av meth c y cc nL none) (K : Ok0 G A s ws H locs) {post : va_W → Prop} (hp : post ws) (d : decode cc pc = .ok (.return_, 1)) : W p l e R s m av.toArray below meth c H locs cells slots (MQ below (Qn G A post) av.toArray s cells slots A) (F0 m pc ls []) :=
  W.vret B.1.1 B.1.2.1 B.2.1 (fun t ht hW => ⟨⟨ws, rfl, hp, by rw [ht]; exact K.2.1, K.2.2.1⟩, K.2.2.2.1.F ht⟩) K.2.2.2.1.2.2 d B.2.2
theorem Nws.warm {nw : List Cond} {U : State} (hW : s.WarmedH U.vm) (h : Nws nw s) : Nws nw U := fun w hw => by
  obtain ⟨o, i, y, ho, e1, e2⟩ := h w hw
  exact ⟨o, i, y, ho, e1, e2.warmM hW⟩
theorem Pn.blind {av : List Value} {nw : List Cond} {sz : Nat} : FrameBlind (va_Pc av (Pn G nw ws sz)) := fun b U g mk q => by
  obtain ⟨q0, q1, qP, qK, qD, qN⟩ := q
  exact ⟨q0, q1, qP, va_K.moved (u := U) (U := U.calling g mk b) (Vm.Alike.refl U.vm) qK, qD, fun w hw => by
    obtain ⟨o, i, y, ho, e1, e2⟩ := qN w hw
    exact ⟨o, i, y, ho, e1, va_Nw.same (u := U) (U := U.calling g mk b) rfl rfl e2⟩⟩
theorem P_sub {D : va_G} {cl : List vw_C} {w1 wc : va_W} (h : va_P D cl w1 H) (isC : List Nat) (hC : isC.map (fun i => w1[i]?) = wc.map some) : va_P D cl wc H := by
  intro k q hq
  have h1 : (isC.map (fun i => w1[i]?))[k]? = some (some q) := by rw [hC, List.getElem?_map, hq]; rfl
  rw [List.getElem?_map] at h1
  cases hi : isC[k]? with
  | none => rw [hi] at h1; cases h1
  | some i => rw [hi] at h1; exact h i q (Option.some.inj h1)
theorem Ok0.pn (K : Ok0 G A s ws H locs) {nw : List Cond} (hN : Nws nw s) {wc : va_W} (isC : List Nat) (hnd : va_nd isC = true) (hC : isC.map (fun i => ws[i]?) = wc.map some) {U : State} (hU : U.heap = H) (hW : s.WarmedH U.vm) : Pn G nw wc H.size U :=
  ⟨by rw [hU], by rw [hU]; exact P_sub K.2.1 isC hC, va_K.moved hW.alike K.1, (K.2.2.1.sub isC hnd hC).weaken (fun _ _ _ _ => trivial), hN.warm hW⟩
theorem o_back {st0 : List Value} {aa : Array Value} {wc wr : va_W} {mc ms : Nat} {post : va_W → Prop} (K : Ok0 G A s ws H locs) (isC isR : List Nat) (hC : isC.map (fun i => ws[i]?) = wc.map some) (hR : isR.map (fun i => ws[i]?) = wr.map some) (hn : va_nd isR = true) (hdis : ∀ i ∈ isR, i ∉ isC)
    (hr : va_Run p l e R s m args below meth c H locs cells slots mc ms (F0 m pc ls st0) rest (Qn G (va_A wc H.size) post aa) (va_A wc H.size))
    (kk : ∀ ws' H1 locs1, post ws' → Ok0 G A s (wr ++ ws') H1 locs1 → W p l e R s m args below meth c H1 locs1 (cells + mc) (slots + ms) Q (F0 m (pc + 3) ls rest)) : W p l e R s m args below meth c H locs cells slots Q (F0 m pc ls st0) := by
  intro T hT Xs
  obtain ⟨v, st₀, t, T', L, h0, X', hL, e1, e2, ⟨⟨ws', hv, hpost, hP, hD⟩, hz, hk⟩, stp⟩ := hr T hT Xs
  cases hv
  rw [h0] at hz hk
  obtain ⟨K1, K2, K3, K4, K5⟩ := K
  have hFc := va_free (wc := wc) K3 K4 K5 isC hC
  obtain ⟨j1, j2⟩ := va_join K2 K3 isC isR hC hR hn hdis hk hFc hP hD
  obtain ⟨t2, a1, b1⟩ := kk ws' T'.heap (locs ++ L) hpost ⟨K1, by rw [e1]; exact j1, j2, ⟨Nat.le_trans K4.1 (by rw [e1]; exact hz), fun q h1 h2 => by rw [e1, hk q (Nat.lt_of_lt_of_le h1 K4.1) (fun z => h2 (hFc q z))]; exact K4.2.1 q h1 h2, fun q hq => by
      rcases List.mem_append.mp hq with h | h
      · exact K4.2.2 q h
      · exact hFc _ (hL q h)⟩, K5⟩ T' rfl X'
  exact ⟨t2, stp t2 a1, b1⟩
/-- what the tables say of a constructor -/
def MN (y : MethodName) (cc : ByteArray) (nL n : Nat) : Prop := Cond.instanceMethod y ∈ BIG ∧ Cond.initialized y.cls ∈ BIG ∧ Cond.code y cc nL none ∈ BIG ∧ y.name = "<init>" ∧ (y.cls ≠ "java/lang/invoke/MethodHandle" ∧ y.cls ≠ "java/lang/invoke/VarHandle" ∧ (parseMethodDescriptor y.desc).map (fun d => d.parameters.length) = some n)
theorem BIG_code {y : MethodName} {cy : ByteArray} {nM : Nat} {ret : Option FieldType} (h : Cond.code y cy nM ret ∈ BIG) : GoodIn BIG (Cond.code y cy nM ret :: BIG) := BIG_goodIn (fun w hw => by
  rcases List.mem_cons.mp hw with rfl | h2
  · exact h
  · exact h2)
theorem o_init (F : CallFix p m c cc nL s args BIG own) (K : Ok0 G A s ws H locs) {nw : List Cond} (hN : Nws nw s) {b idx nM n mc ms : Nat} {y : MethodName} {cy : ByteArray} {rm : Room} {As st0 : List Value} {wc wr : va_W} {post : va_W → Prop}
    (hM : CtrN l y cy nM rm (.ref b :: As) G nw wc mc ms post) (hy : MN y cy nM n) (hl : Cond.methodLink own idx y ∈ BIG) (isC isR : List Nat) (hC : isC.map (fun i => ws[i]?) = wc.map some) (hR : isR.map (fun i => ws[i]?) = wr.map some) (hnd : va_nd isC = true ∧ va_nd isR = true ∧ ∀ i ∈ isR, i ∉ isC) (hn : As.length = n) (hsz : ls.size = nL) (hst : st0 = As.reverse ++ .ref b :: rest) (hrm : (rm.cells = mc ∧ rm.slots = ms) ∧ rm.frames + 1 ≤ R.frames ∧ 8 + (nM + 11) + rm.locals ≤ R.locals) (hcs : cells + mc ≤ R.cells ∧ slots + ms ≤ R.slots) (hW : (rest.map fun v => v.category).sum ≤ 8) (d : decode cc pc = .ok (.invokespecial idx, 3))
    (kk : ∀ ws' H1 locs1, post ws' → Ok0 G A s (wr ++ ws') H1 locs1 → W p l e R s m args below meth c H1 locs1 (cells + mc) (slots + ms) Q (F0 m (pc + 3) ls rest)) : W p l e R s m args below meth c H locs cells slots Q (F0 m pc ls st0) := by
  subst hst
  obtain ⟨y1, y3, y4, y5, y6⟩ := hy
  exact o_back K isC isR hC hR hnd.2.1 hnd.2.2 (va_runI (As := As) (rest := rest) F (hM H.size) (cwI n F.2.2.2.2 (BIG_code y4) rfl hrm.1.1 hrm.1.2 (F.2.2.2.2 _ y3) (F.2.2.2.2 _ hl) (F.2.2.2.2 _ y1) y5 y6 hrm.2) ⟨Pn.blind, fun U hU hW => ⟨rfl, K.pn hN isC hnd.1 hC hU hW⟩⟩ rfl hn hsz rfl (lv_room hW) d hcs) kk
theorem o_initN (F : CallFix p m c cc nL s args BIG own) (K : Ok0 G A s ws H locs) {nw : List Cond} (hN : Nws nw s) {b idx nM n mc ms : Nat} {y : MethodName} {host : String} {cy : ByteArray} {rm : Room} {As st0 : List Value} {wc wr : va_W} {post : va_W → Prop}
    (hM : CtrN l y cy nM rm (.ref b :: As) G nw wc mc ms post) (hy : MN y cy nM n) (hl : va_Nw (.methodLinkNest own idx y host) s) (isC isR : List Nat) (hC : isC.map (fun i => ws[i]?) = wc.map some) (hR : isR.map (fun i => ws[i]?) = wr.map some) (hnd : va_nd isC = true ∧ va_nd isR = true ∧ ∀ i ∈ isR, i ∉ isC) (hn : As.length = n) (hsz : ls.size = nL) (hst : st0 = As.reverse ++ .ref b :: rest) (hrm : (rm.cells = mc ∧ rm.slots = ms) ∧ rm.frames + 1 ≤ R.frames ∧ 8 + (nM + 11) + rm.locals ≤ R.locals) (hcs : cells + mc ≤ R.cells ∧ slots + ms ≤ R.slots) (hW : (rest.map fun v => v.category).sum ≤ 8) (d : decode cc pc = .ok (.invokespecial idx, 3))
    (kk : ∀ ws' H1 locs1, post ws' → Ok0 G A s (wr ++ ws') H1 locs1 → W p l e R s m args below meth c H1 locs1 (cells + mc) (slots + ms) Q (F0 m (pc + 3) ls rest)) : W p l e R s m args below meth c H locs cells slots Q (F0 m pc ls st0) := by
  subst hst
  obtain ⟨y1, y3, y4, y5, y6⟩ := hy
  exact o_back K isC isR hC hR hnd.2.1 hnd.2.2 (va_runIN (As := As) (rest := rest) F (hM H.size) ⟨va_cnB n F.2.2.2.2 (BIG_code y4) rfl hrm.1.1 hrm.1.2 hl (F.2.2.2.2 _ y3) y6 hrm.2, y5, F.2.2.2.2 _ y1⟩ ⟨Pn.blind, fun U hU hW => ⟨rfl, K.pn hN isC hnd.1 hC hU hW⟩⟩ rfl hn hsz rfl (lv_room hW) d hcs) kk
end RN
