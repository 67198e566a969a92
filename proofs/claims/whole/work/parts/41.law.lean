/-! the two systems side by side -/
def Ok2 (G : Gt) (A : Nat → Prop) (s : State) (u v : St) (H : Heap) (locs : List Loc) : Prop :=
  va_K G.2.1 vwCl (tysG G) s ∧ va_P G.2.1 vwCl (X 0 76 G u ++ X 100 77 G v) H ∧ va_D A (X 0 76 G u ++ X 100 77 G v) ∧ va_S A s.heap H locs ∧ (∀ q, s.heap.size ≤ q → A q) ∧ Ev G A s s.heap
theorem X_len {a N : Nat} {G : Gt} {u : St} : (X a N G u).length = N := by simp [X]
theorem P_left {D : va_G} {cl : List vw_C} {a b : va_W} {H : Heap} (h : va_P D cl (a ++ b) H) : va_P D cl a H := fun k q hq => h k q (by rw [List.getElem?_append_left (List.getElem?_eq_some_iff.mp hq).1]; exact hq)
theorem P_right {D : va_G} {cl : List vw_C} {a b : va_W} {H : Heap} (h : va_P D cl (a ++ b) H) : va_P D cl b H := fun k q hq => h (a.length + k) q (by rw [List.getElem?_append_right (by omega)]; rw [show a.length + k - a.length = k by omega]; exact hq)
theorem D_left {A : Nat → Prop} {a b : va_W} (h : va_D A (a ++ b)) : va_D A a := by
  have e : ∀ (k : Nat) (q : Nat × va_E), a[k]? = some q → (a ++ b)[k]? = some q := fun k q hq => by rw [List.getElem?_append_left (List.getElem?_eq_some_iff.mp hq).1]; exact hq
  exact ⟨fun i j p q hi hj => h.1 i j p q (e i p hi) (e j q hj), fun k q hk => h.2 k q (e k q hk)⟩
theorem D_right {A : Nat → Prop} {a b : va_W} (h : va_D A (a ++ b)) : va_D A b := by
  have e : ∀ (k : Nat) (q : Nat × va_E), b[k]? = some q → (a ++ b)[a.length + k]? = some q := fun k q hq => by rw [List.getElem?_append_right (by omega)]; rw [show a.length + k - a.length = k by omega]; exact hq
  exact ⟨fun i j p q hi hj hpq => by have := h.1 _ _ p q (e i p hi) (e j q hj) hpq; omega, fun k q hk => h.2 _ q (e k q hk)⟩
theorem D_apart {A : Nat → Prop} {a b : va_W} (h : va_D A (a ++ b)) {i j : Nat} {p q : Nat × va_E} (hi : a[i]? = some p) (hj : b[j]? = some q) : p.1 ≠ q.1 := by
  intro e
  have hl := (List.getElem?_eq_some_iff.mp hi).1
  have := h.1 i (a.length + j) p q (by rw [List.getElem?_append_left hl]; exact hi) (by rw [List.getElem?_append_right (by omega)]; rw [show a.length + j - a.length = j by omega]; exact hj) e
  omega
theorem Ok2.fst {G : Gt} {A : Nat → Prop} {s : State} {u v : St} {H : Heap} {locs : List Loc} (K : Ok2 G A s u v H locs) : Ok 0 76 G A s u H locs := ⟨K.1, P_left K.2.1, D_left K.2.2.1, K.2.2.2⟩
theorem Ok2.snd {G : Gt} {A : Nat → Prop} {s : State} {u v : St} {H : Heap} {locs : List Loc} (K : Ok2 G A s u v H locs) : Ok 100 77 G A s v H locs := ⟨K.1, P_right K.2.1, D_right K.2.2.1, K.2.2.2⟩
section L2
variable {p : Program} {l : Launch} {e : Env} {R : Room} {s : State} {m : MethodId} {args : Array Value} {below : List Frame} {meth : Method} {c : Code} {H : Heap} {locs : List Loc} {Q : State → Prop} {cells slots : Nat}
variable {cc : ByteArray} {nL pc : Nat} {ls : Array Slot} {rest : List Value} {A : Nat → Prop} {own : String} {G : Gt} {u v : St}
theorem ok2_backC {st0 : List Value} {r : Option Value} {u1 : St} {aa : Array Value} (K : Ok2 G A s u v H locs) (hr : va_Run p l e R s m args below meth c H locs cells slots 0 0 (F0 m pc ls st0) rest (Qg 0 76 G (AX 0 76 G H.size) r u1 aa) (AX 0 76 G H.size))
    (kk : ∀ H1 locs1, Ok2 G A s u1 v H1 locs1 → W p l e R s m args below meth c H1 locs1 cells slots Q (F0 m (pc + 3) ls (r.toList ++ rest))) : W p l e R s m args below meth c H locs cells slots Q (F0 m pc ls st0) := by
  intro T hT Xs
  obtain ⟨v0, st₀, t, T', L, h0, X', hL, e1, e2, ⟨⟨hv, hP, hD⟩, hz, hk⟩, stp⟩ := hr T hT Xs
  cases hv
  rw [h0] at hz hk
  have hAX := K.fst.ax
  have hr1 := K.snd
  obtain ⟨K1, K2, K3, K4, K5, K6⟩ := K
  have hPr : va_P G.2.1 vwCl (X 100 77 G v) T'.heap := fun i q hi => by
    refine (hr1.2.1 i q hi).kept ?_
    rw [e1]
    refine hk q.1 (hr1.2.1 i q hi).lt ?_
    rintro (⟨j, hj, ej⟩ | h)
    · exact D_apart K3 (X_at G u hj) hi ej.symm
    · exact absurd (hr1.2.1 i q hi).lt (Nat.not_lt.mpr h)
  obtain ⟨t2, a1, b1⟩ := kk T'.heap (locs ++ L) ⟨K1, va_P.app (by rw [e1]; exact hP) hPr, va_D.app (hD.weaken (fun _ q _ h => hAX _ h)) hr1.2.2.1 (fun i j x y hx hy => by
      obtain ⟨hi, rfl⟩ := X_in hx
      have z9 := D_apart K3 (X_at (a := 0) G u hi) hy
      exact z9), ⟨Nat.le_trans K4.1 (by rw [e1]; exact hz), fun q h1 h2 => by rw [e1, hk q (Nat.lt_of_lt_of_le h1 K4.1) (fun z => h2 (hAX q z))]; exact K4.2.1 q h1 h2, fun q hq => by
      rcases List.mem_append.mp hq with h | h
      · exact K4.2.2 q h
      · exact hAX _ (hL q h)⟩, K5, K6⟩ T' rfl X'
  exact ⟨t2, stp t2 a1, b1⟩
theorem ok2_backR {st0 : List Value} {r : Option Value} {v1 : St} {aa : Array Value} (K : Ok2 G A s u v H locs) (hr : va_Run p l e R s m args below meth c H locs cells slots 0 0 (F0 m pc ls st0) rest (Qg 100 77 G (AX 100 77 G H.size) r v1 aa) (AX 100 77 G H.size))
    (kk : ∀ H1 locs1, Ok2 G A s u v1 H1 locs1 → W p l e R s m args below meth c H1 locs1 cells slots Q (F0 m (pc + 3) ls (r.toList ++ rest))) : W p l e R s m args below meth c H locs cells slots Q (F0 m pc ls st0) := by
  intro T hT Xs
  obtain ⟨v0, st₀, t, T', L, h0, X', hL, e1, e2, ⟨⟨hv, hP, hD⟩, hz, hk⟩, stp⟩ := hr T hT Xs
  cases hv
  rw [h0] at hz hk
  have hAX := K.snd.ax
  have hr1 := K.fst
  obtain ⟨K1, K2, K3, K4, K5, K6⟩ := K
  have hPr : va_P G.2.1 vwCl (X 0 76 G u) T'.heap := fun i q hi => by
    refine (hr1.2.1 i q hi).kept ?_
    rw [e1]
    refine hk q.1 (hr1.2.1 i q hi).lt ?_
    rintro (⟨j, hj, ej⟩ | h)
    · exact D_apart K3 hi (X_at G v hj) ej
    · exact absurd (hr1.2.1 i q hi).lt (Nat.not_lt.mpr h)
  obtain ⟨t2, a1, b1⟩ := kk T'.heap (locs ++ L) ⟨K1, va_P.app hPr (by rw [e1]; exact hP), va_D.app hr1.2.2.1 (hD.weaken (fun _ q _ h => hAX _ h)) (fun i j x y hx hy => by
      obtain ⟨hi, rfl⟩ := X_in hy
      have z9 := D_apart K3 hx (X_at (a := 100) G v hi)
      exact z9), ⟨Nat.le_trans K4.1 (by rw [e1]; exact hz), fun q h1 h2 => by rw [e1, hk q (Nat.lt_of_lt_of_le h1 K4.1) (fun z => h2 (hAX q z))]; exact K4.2.1 q h1 h2, fun q hq => by
      rcases List.mem_append.mp hq with h | h
      · exact K4.2.2 q h
      · exact hAX _ (hL q h)⟩, K5, K6⟩ T' rfl X'
  exact ⟨t2, stp t2 a1, b1⟩
theorem ok2_callC (F : CallFix p m c cc nL s args BIG own) (K : Ok2 G A s u v H locs) {k idx nM n : Nat} {C : String} {y : MethodName} {cy : ByteArray} {ret : Option FieldType} {rm : Room} {As st0 : List Value} {r : Int32} {u1 : St}
    (hM : Ctr 0 76 l y cy nM ret rm (.ref (G.1 k) :: As) G u (some (.int r)) u1) (hy : MI C y cy nM n ret) (ho : OC 0 76 k C) (hl : Cond.methodLink own idx y ∈ BIG) (hn : As.length = n) (hsz : ls.size = nL) (hst : st0 = As.reverse ++ .ref (G.1 k) :: rest) (hrm : (rm.cells = 0 ∧ rm.slots = 0) ∧ rm.frames + 1 ≤ R.frames ∧ 8 + (nM + 11) + rm.locals ≤ R.locals) (hcs : cells ≤ R.cells ∧ slots ≤ R.slots) (hW : (rest.map fun v => v.category).sum ≤ 8) (d : decode cc pc = .ok (.invokevirtual idx, 3))
    (kk : ∀ H1 locs1, Ok2 G A s u1 v H1 locs1 → W p l e R s m args below meth c H1 locs1 cells slots Q (F0 m (pc + 3) ls (.int r :: rest))) : W p l e R s m args below meth c H locs cells slots Q (F0 m pc ls st0) := by
  subst hst
  obtain ⟨y1, y2, y3, y4, y5⟩ := hy
  have hG : GoodIn BIG (wsV own idx C y (Cond.code y cy nM ret :: BIG)) := BIG_goodIn (fun w hw => by
    simp only [wsV, List.mem_append, List.mem_cons, List.not_mem_nil, or_false] at hw
    rcases hw with (rfl | rfl | rfl | rfl) | (rfl | h)
    · exact hl
    · exact y1
    · exact y2
    · exact y3
    · exact y4
    · exact h)
  obtain ⟨ci, ts, T, M, o1, o2, o3⟩ := ho
  have hx := X_k (N := 76) G u o3
  rw [cell_obj o1] at hx
  exact ok2_backC K (va_runV (As := As) (rest := rest) F (hM H.size) (cwV n F.2.2.2.2 hG rfl hrm.1.1 hrm.1.2 y5 hrm.2) ⟨Pg.blind, va_recv K.fst.1 K.fst.2.1 o2 hx, fun U hU hW => ⟨rfl, K.fst.pg hU hW⟩⟩ rfl hn hsz rfl (lv_room hW) d hcs) kk
theorem ok2_callR (F : CallFix p m c cc nL s args BIG own) (K : Ok2 G A s u v H locs) {k idx nM n : Nat} {C : String} {y : MethodName} {cy : ByteArray} {ret : Option FieldType} {rm : Room} {As st0 : List Value} {r : Int32} {u1 : St}
    (hM : Ctr 100 77 l y cy nM ret rm (.ref (G.1 k) :: As) G v (some (.int r)) u1) (hy : MI C y cy nM n ret) (ho : OC 100 77 k C) (hl : Cond.methodLink own idx y ∈ BIG) (hn : As.length = n) (hsz : ls.size = nL) (hst : st0 = As.reverse ++ .ref (G.1 k) :: rest) (hrm : (rm.cells = 0 ∧ rm.slots = 0) ∧ rm.frames + 1 ≤ R.frames ∧ 8 + (nM + 11) + rm.locals ≤ R.locals) (hcs : cells ≤ R.cells ∧ slots ≤ R.slots) (hW : (rest.map fun v => v.category).sum ≤ 8) (d : decode cc pc = .ok (.invokevirtual idx, 3))
    (kk : ∀ H1 locs1, Ok2 G A s u u1 H1 locs1 → W p l e R s m args below meth c H1 locs1 cells slots Q (F0 m (pc + 3) ls (.int r :: rest))) : W p l e R s m args below meth c H locs cells slots Q (F0 m pc ls st0) := by
  subst hst
  obtain ⟨y1, y2, y3, y4, y5⟩ := hy
  have hG : GoodIn BIG (wsV own idx C y (Cond.code y cy nM ret :: BIG)) := BIG_goodIn (fun w hw => by
    simp only [wsV, List.mem_append, List.mem_cons, List.not_mem_nil, or_false] at hw
    rcases hw with (rfl | rfl | rfl | rfl) | (rfl | h)
    · exact hl
    · exact y1
    · exact y2
    · exact y3
    · exact y4
    · exact h)
  obtain ⟨ci, ts, T, M, o1, o2, o3⟩ := ho
  have hx := X_k (N := 77) G v o3
  rw [cell_obj o1] at hx
  exact ok2_backR K (va_runV (As := As) (rest := rest) F (hM H.size) (cwV n F.2.2.2.2 hG rfl hrm.1.1 hrm.1.2 y5 hrm.2) ⟨Pg.blind, va_recv K.snd.1 K.snd.2.1 o2 hx, fun U hU hW => ⟨rfl, K.snd.pg hU hW⟩⟩ rfl hn hsz rfl (lv_room hW) d hcs) kk
end L2
theorem lL_15 : Cond.methodLink R_law 15 yX11_feed ∈ BIG := bt3 73 rfl rfl
theorem lL_19 : Cond.methodLink R_law 19 yX12_feed ∈ BIG := bt7 66 rfl rfl
theorem lL_20 : Cond.methodLink R_law 20 yX11_read ∈ BIG := bt3 81 rfl rfl
theorem lL_24 : Cond.methodLink R_law 24 yX12_read ∈ BIG := bt7 73 rfl rfl
theorem lL_25 : Cond.methodLink R_law 25 yX11_place ∈ BIG := bt4 147 rfl rfl
theorem lL_28 : Cond.methodLink R_law 28 yX12_place ∈ BIG := bt8 1 rfl rfl
theorem lL_29 : Cond.methodLink R_law 29 yX11_clear ∈ BIG := bt4 151 rfl rfl
theorem lL_32 : Cond.methodLink R_law 32 yX12_clear ∈ BIG := bt8 5 rfl rfl
theorem lL_33 : Cond.methodLink R_law 33 yX11_count ∈ BIG := bt4 155 rfl rfl
theorem lL_37 : Cond.methodLink R_law 37 yX12_count ∈ BIG := bt8 9 rfl rfl
theorem lL_38 : Cond.methodLink R_law 38 yX11_clause ∈ BIG := bt4 159 rfl rfl
theorem lL_42 : Cond.methodLink R_law 42 yX12_clause ∈ BIG := bt8 13 rfl rfl
theorem lL_43 : Cond.methodLink R_law 43 yX11_write ∈ BIG := bt4 167 rfl rfl
theorem lL_46 : Cond.methodLink R_law 46 yX12_write ∈ BIG := bt8 21 rfl rfl
theorem lL_47 : Cond.methodLink R_law 47 yX11_octet ∈ BIG := bt4 232 rfl rfl
theorem lL_50 : Cond.methodLink R_law 50 yX12_octet ∈ BIG := bt8 69 rfl rfl
theorem lL_51 : Cond.methodLink R_law 51 yX11_search ∈ BIG := bt4 236 rfl rfl
theorem lL_54 : Cond.methodLink R_law 54 yX12_search ∈ BIG := bt8 73 rfl rfl
theorem lL_55 : Cond.methodLink R_law 55 yX11_told ∈ BIG := bt5 116 rfl rfl
theorem lL_58 : Cond.methodLink R_law 58 yX12_told ∈ BIG := bt8 161 rfl rfl
theorem lL_59 : Cond.methodLink R_law 59 yX11_move ∈ BIG := bt5 120 rfl rfl
theorem lL_62 : Cond.methodLink R_law 62 yX12_move ∈ BIG := bt8 165 rfl rfl
theorem lL_63 : Cond.methodLink R_law 63 yX11_show ∈ BIG := bt5 133 rfl rfl
theorem lL_66 : Cond.methodLink R_law 66 yX12_show ∈ BIG := bt8 169 rfl rfl
theorem law_le {L j : Nat} (hL : L ≤ 2048) (hj : j ≤ 4096) (h : ¬ (Int32.ofNat L - 4 < nI j)) : j + 4 ≤ L := by
  rw [Int32.lt_iff_toInt_lt] at h
  have e1 : (Int32.ofNat L - 4).toInt = (L : Int) - 4 := pk_sub_toInt (a := L) (b := 4) (by omega) (by omega)
  rw [e1, nI_toInt (by omega)] at h
  omega
theorem law_ix {L j k : Nat} (hL : L ≤ 2048) (h : j + k < L) : vp_in (nI j + nI k) L := by
  rw [nI_add]; exact vp_in_nI h (by omega)
set_option maxRecDepth 100000 in
set_option maxHeartbeats 4000000 in
theorem law_feed {p : Program} {l : Launch} {e : Env} {s : State} {m : MethodId} {below : List Frame} {meth : Method} {c : Code} {G : Gt} {b L : Nat} {xs : Nat → Int32} (C0 : lw_At p s m meth c b L xs) {x3 : Int32} {P Q : St → St → Prop} (h1 : vp_in (x3 + 1) L) (h2 : vp_in (x3 + 2) L) (h3 : vp_in (x3 + 3) L) {u v : St} {H : Heap} {locs : List Loc} {ls : Array Slot} (hst : ∀ (a0 : Int64) (a1 : Int32), StepBoth (fX11_feed a0 a1) (fX12_feed a0 a1) P Q) (hP : P u v) (K : Ok2 G (fun q : Nat => s.heap.size ≤ q) s u v H locs) (hl : lv_has ls 4 [(0, .ref b), (1, .ref (G.1 0)), (2, .ref (G.1 100)), (3, .int x3)]) (kk : ∀ u1 v1 H locs, Q u1 v1 → Ok2 G (fun q : Nat => s.heap.size ≤ q) s u1 v1 H locs → W p l e room_1 s m #[Value.ref b] below meth c H locs 600000 7302250 (lw_Z below #[Value.ref b] s) (F0 m 412 ls [])) : W p l e room_1 s m #[Value.ref b] below meth c H locs 600000 7302250 (lw_Z below #[Value.ref b] s) (F0 m 96 ls []) := by
  obtain ⟨hx, hb, hr, hml, hown, hts, hX, hbl, hlocks, hgv⟩ := C0
  have hbA : ¬ (fun q : Nat => s.heap.size ≤ q) b := Nat.not_le.mpr hbl
  have F : CallFix p m c code 4 s #[Value.ref b] BIG R_law := ⟨hx, hb, hml, hown, fun w hw => hts w (List.mem_filter.mp hw).1⟩
  obtain ⟨r, u1, v1, h7, h8, hR⟩ := hst (((xs (x3 + 1).toNatClampNeg).toInt64 <<< ((32 : Int32).toInt64 &&& 63)) ||| ((xs (x3 + 2).toNatClampNeg).toInt64 &&& 4294967295)) (xs (x3 + 3).toNatClampNeg) u v hP
  refine lv_aload_n hx hb dL_law_96 rfl (lv_at hl 1 rfl) ?_
  refine lv_aload_n hx hb dL_law_97 rfl (lv_at hl 0 rfl) ?_
  refine lv_iload_n hx hb dL_law_98 rfl (lv_at hl 3 rfl) ?_
  refine lv_iconst (v := 1) hx hb dL_law_99 kI_1 ?_
  refine lv_iadd hx hb dL_law_100 ?_
  refine va_sld hx hb hX hbl hbA K.2.2.2.1 h1 dL_law_101 ?_
  refine lv_i2l hx hb dL_law_102 rfl ?_
  refine lv_bipush (v := 32) hx hb dL_law_103 kB_32 ?_
  refine lv_lshl hx hb dL_law_105 rfl ?_
  refine lv_aload_n hx hb dL_law_106 rfl (lv_at hl 0 rfl) ?_
  refine lv_iload_n hx hb dL_law_107 rfl (lv_at hl 3 rfl) ?_
  refine lv_iconst (v := 2) hx hb dL_law_108 kI_2 ?_
  refine lv_iadd hx hb dL_law_109 ?_
  refine va_sld hx hb hX hbl hbA K.2.2.2.1 h2 dL_law_110 ?_
  refine lv_i2l hx hb dL_law_111 rfl ?_
  refine lv_ldc2 (v := 4294967295) hx hb hown (F.2.2.2.2 _ kcL_13) dL_law_112 ?_
  refine lv_land hx hb dL_law_115 ?_
  refine lv_lor hx hb dL_law_116 ?_
  refine lv_aload_n hx hb dL_law_117 rfl (lv_at hl 0 rfl) ?_
  refine lv_iload_n hx hb dL_law_118 rfl (lv_at hl 3 rfl) ?_
  refine lv_iconst (v := 3) hx hb dL_law_119 kI_3 ?_
  refine lv_iadd hx hb dL_law_120 ?_
  refine va_sld hx hb hX hbl hbA K.2.2.2.1 h3 dL_law_121 ?_
  refine ok2_callC (rest := []) F K (pX11_feed G h7) mX11_feed oc0 lL_15 rfl hl.1 rfl ⟨⟨rfl, rfl⟩, Nat.le_of_ble_eq_true rfl, Nat.le_of_ble_eq_true rfl⟩ ⟨Nat.le_of_ble_eq_true rfl, Nat.le_of_ble_eq_true rfl⟩ (Nat.le_of_ble_eq_true rfl) dL_law_122 (fun H locs K => ?_)
  refine lv_aload_n hx hb dL_law_125 rfl (lv_at hl 2 rfl) ?_
  refine lv_aload_n hx hb dL_law_126 rfl (lv_at hl 0 rfl) ?_
  refine lv_iload_n hx hb dL_law_127 rfl (lv_at hl 3 rfl) ?_
  refine lv_iconst (v := 1) hx hb dL_law_128 kI_1 ?_
  refine lv_iadd hx hb dL_law_129 ?_
  refine va_sld hx hb hX hbl hbA K.2.2.2.1 h1 dL_law_130 ?_
  refine lv_i2l hx hb dL_law_131 rfl ?_
  refine lv_bipush (v := 32) hx hb dL_law_132 kB_32 ?_
  refine lv_lshl hx hb dL_law_134 rfl ?_
  refine lv_aload_n hx hb dL_law_135 rfl (lv_at hl 0 rfl) ?_
  refine lv_iload_n hx hb dL_law_136 rfl (lv_at hl 3 rfl) ?_
  refine lv_iconst (v := 2) hx hb dL_law_137 kI_2 ?_
  refine lv_iadd hx hb dL_law_138 ?_
  refine va_sld hx hb hX hbl hbA K.2.2.2.1 h2 dL_law_139 ?_
  refine lv_i2l hx hb dL_law_140 rfl ?_
  refine lv_ldc2 (v := 4294967295) hx hb hown (F.2.2.2.2 _ kcL_13) dL_law_141 ?_
  refine lv_land hx hb dL_law_144 ?_
  refine lv_lor hx hb dL_law_145 ?_
  refine lv_aload_n hx hb dL_law_146 rfl (lv_at hl 0 rfl) ?_
  refine lv_iload_n hx hb dL_law_147 rfl (lv_at hl 3 rfl) ?_
  refine lv_iconst (v := 3) hx hb dL_law_148 kI_3 ?_
  refine lv_iadd hx hb dL_law_149 ?_
  refine va_sld hx hb hX hbl hbA K.2.2.2.1 h3 dL_law_150 ?_
  refine ok2_callR (rest := [.int r]) F K (pX12_feed G h8) mX12_feed oc100 lL_19 rfl hl.1 rfl ⟨⟨rfl, rfl⟩, Nat.le_of_ble_eq_true rfl, Nat.le_of_ble_eq_true rfl⟩ ⟨Nat.le_of_ble_eq_true rfl, Nat.le_of_ble_eq_true rfl⟩ (Nat.le_of_ble_eq_true rfl) dL_law_151 (fun H locs K => ?_)
  refine lv_icmp_eq (pc := 154) (tgt := 412) hx hb dL_law_154 (by decide) (fun c1 => ?_) (fun c1 => absurd rfl c1)
  exact kk u1 v1 H locs hR K
set_option maxRecDepth 100000 in
set_option maxHeartbeats 4000000 in
theorem law_read {p : Program} {l : Launch} {e : Env} {s : State} {m : MethodId} {below : List Frame} {meth : Method} {c : Code} {G : Gt} {b L : Nat} {xs : Nat → Int32} (C0 : lw_At p s m meth c b L xs) {x3 : Int32} {P Q : St → St → Prop} {u v : St} {H : Heap} {locs : List Loc} {ls : Array Slot} (hst : StepBoth (fX11_read ) (fX12_read ) P Q) (hP : P u v) (K : Ok2 G (fun q : Nat => s.heap.size ≤ q) s u v H locs) (hl : lv_has ls 4 [(0, .ref b), (1, .ref (G.1 0)), (2, .ref (G.1 100)), (3, .int x3)]) (kk : ∀ u1 v1 H locs, Q u1 v1 → Ok2 G (fun q : Nat => s.heap.size ≤ q) s u1 v1 H locs → W p l e room_1 s m #[Value.ref b] below meth c H locs 600000 7302250 (lw_Z below #[Value.ref b] s) (F0 m 412 ls [])) : W p l e room_1 s m #[Value.ref b] below meth c H locs 600000 7302250 (lw_Z below #[Value.ref b] s) (F0 m 159 ls []) := by
  obtain ⟨hx, hb, hr, hml, hown, hts, hX, hbl, hlocks, hgv⟩ := C0
  have hbA : ¬ (fun q : Nat => s.heap.size ≤ q) b := Nat.not_le.mpr hbl
  have F : CallFix p m c code 4 s #[Value.ref b] BIG R_law := ⟨hx, hb, hml, hown, fun w hw => hts w (List.mem_filter.mp hw).1⟩
  obtain ⟨r, u1, v1, h7, h8, hR⟩ := hst u v hP
  refine lv_aload_n hx hb dL_law_159 rfl (lv_at hl 1 rfl) ?_
  refine ok2_callC (rest := []) F K (pX11_read G h7) mX11_read oc0 lL_20 rfl hl.1 rfl ⟨⟨rfl, rfl⟩, Nat.le_of_ble_eq_true rfl, Nat.le_of_ble_eq_true rfl⟩ ⟨Nat.le_of_ble_eq_true rfl, Nat.le_of_ble_eq_true rfl⟩ (Nat.le_of_ble_eq_true rfl) dL_law_160 (fun H locs K => ?_)
  refine lv_aload_n hx hb dL_law_163 rfl (lv_at hl 2 rfl) ?_
  refine ok2_callR (rest := [.int r]) F K (pX12_read G h8) mX12_read oc100 lL_24 rfl hl.1 rfl ⟨⟨rfl, rfl⟩, Nat.le_of_ble_eq_true rfl, Nat.le_of_ble_eq_true rfl⟩ ⟨Nat.le_of_ble_eq_true rfl, Nat.le_of_ble_eq_true rfl⟩ (Nat.le_of_ble_eq_true rfl) dL_law_164 (fun H locs K => ?_)
  refine lv_icmp_eq (pc := 167) (tgt := 412) hx hb dL_law_167 (by decide) (fun c1 => ?_) (fun c1 => absurd rfl c1)
  exact kk u1 v1 H locs hR K
set_option maxRecDepth 100000 in
set_option maxHeartbeats 4000000 in
theorem law_place {p : Program} {l : Launch} {e : Env} {s : State} {m : MethodId} {below : List Frame} {meth : Method} {c : Code} {G : Gt} {b L : Nat} {xs : Nat → Int32} (C0 : lw_At p s m meth c b L xs) {x3 : Int32} {P Q : St → St → Prop} {u v : St} {H : Heap} {locs : List Loc} {ls : Array Slot} (hst : StepBoth (fX11_place ) (fX12_place ) P Q) (hP : P u v) (K : Ok2 G (fun q : Nat => s.heap.size ≤ q) s u v H locs) (hl : lv_has ls 4 [(0, .ref b), (1, .ref (G.1 0)), (2, .ref (G.1 100)), (3, .int x3)]) (kk : ∀ u1 v1 H locs, Q u1 v1 → Ok2 G (fun q : Nat => s.heap.size ≤ q) s u1 v1 H locs → W p l e room_1 s m #[Value.ref b] below meth c H locs 600000 7302250 (lw_Z below #[Value.ref b] s) (F0 m 412 ls [])) : W p l e room_1 s m #[Value.ref b] below meth c H locs 600000 7302250 (lw_Z below #[Value.ref b] s) (F0 m 172 ls []) := by
  obtain ⟨hx, hb, hr, hml, hown, hts, hX, hbl, hlocks, hgv⟩ := C0
  have hbA : ¬ (fun q : Nat => s.heap.size ≤ q) b := Nat.not_le.mpr hbl
  have F : CallFix p m c code 4 s #[Value.ref b] BIG R_law := ⟨hx, hb, hml, hown, fun w hw => hts w (List.mem_filter.mp hw).1⟩
  obtain ⟨r, u1, v1, h7, h8, hR⟩ := hst u v hP
  refine lv_aload_n hx hb dL_law_172 rfl (lv_at hl 1 rfl) ?_
  refine ok2_callC (rest := []) F K (pX11_place G h7) mX11_place oc0 lL_25 rfl hl.1 rfl ⟨⟨rfl, rfl⟩, Nat.le_of_ble_eq_true rfl, Nat.le_of_ble_eq_true rfl⟩ ⟨Nat.le_of_ble_eq_true rfl, Nat.le_of_ble_eq_true rfl⟩ (Nat.le_of_ble_eq_true rfl) dL_law_173 (fun H locs K => ?_)
  refine lv_aload_n hx hb dL_law_176 rfl (lv_at hl 2 rfl) ?_
  refine ok2_callR (rest := [.int r]) F K (pX12_place G h8) mX12_place oc100 lL_28 rfl hl.1 rfl ⟨⟨rfl, rfl⟩, Nat.le_of_ble_eq_true rfl, Nat.le_of_ble_eq_true rfl⟩ ⟨Nat.le_of_ble_eq_true rfl, Nat.le_of_ble_eq_true rfl⟩ (Nat.le_of_ble_eq_true rfl) dL_law_177 (fun H locs K => ?_)
  refine lv_icmp_eq (pc := 180) (tgt := 412) hx hb dL_law_180 (by decide) (fun c1 => ?_) (fun c1 => absurd rfl c1)
  exact kk u1 v1 H locs hR K
set_option maxRecDepth 100000 in
set_option maxHeartbeats 4000000 in
theorem law_clear {p : Program} {l : Launch} {e : Env} {s : State} {m : MethodId} {below : List Frame} {meth : Method} {c : Code} {G : Gt} {b L : Nat} {xs : Nat → Int32} (C0 : lw_At p s m meth c b L xs) {x3 : Int32} {P Q : St → St → Prop} {u v : St} {H : Heap} {locs : List Loc} {ls : Array Slot} (hst : StepBoth (fX11_clear ) (fX12_clear ) P Q) (hP : P u v) (K : Ok2 G (fun q : Nat => s.heap.size ≤ q) s u v H locs) (hl : lv_has ls 4 [(0, .ref b), (1, .ref (G.1 0)), (2, .ref (G.1 100)), (3, .int x3)]) (kk : ∀ u1 v1 H locs, Q u1 v1 → Ok2 G (fun q : Nat => s.heap.size ≤ q) s u1 v1 H locs → W p l e room_1 s m #[Value.ref b] below meth c H locs 600000 7302250 (lw_Z below #[Value.ref b] s) (F0 m 412 ls [])) : W p l e room_1 s m #[Value.ref b] below meth c H locs 600000 7302250 (lw_Z below #[Value.ref b] s) (F0 m 185 ls []) := by
  obtain ⟨hx, hb, hr, hml, hown, hts, hX, hbl, hlocks, hgv⟩ := C0
  have hbA : ¬ (fun q : Nat => s.heap.size ≤ q) b := Nat.not_le.mpr hbl
  have F : CallFix p m c code 4 s #[Value.ref b] BIG R_law := ⟨hx, hb, hml, hown, fun w hw => hts w (List.mem_filter.mp hw).1⟩
  obtain ⟨r, u1, v1, h7, h8, hR⟩ := hst u v hP
  refine lv_aload_n hx hb dL_law_185 rfl (lv_at hl 1 rfl) ?_
  refine ok2_callC (rest := []) F K (pX11_clear G h7) mX11_clear oc0 lL_29 rfl hl.1 rfl ⟨⟨rfl, rfl⟩, Nat.le_of_ble_eq_true rfl, Nat.le_of_ble_eq_true rfl⟩ ⟨Nat.le_of_ble_eq_true rfl, Nat.le_of_ble_eq_true rfl⟩ (Nat.le_of_ble_eq_true rfl) dL_law_186 (fun H locs K => ?_)
  refine lv_aload_n hx hb dL_law_189 rfl (lv_at hl 2 rfl) ?_
  refine ok2_callR (rest := [.int r]) F K (pX12_clear G h8) mX12_clear oc100 lL_32 rfl hl.1 rfl ⟨⟨rfl, rfl⟩, Nat.le_of_ble_eq_true rfl, Nat.le_of_ble_eq_true rfl⟩ ⟨Nat.le_of_ble_eq_true rfl, Nat.le_of_ble_eq_true rfl⟩ (Nat.le_of_ble_eq_true rfl) dL_law_190 (fun H locs K => ?_)
  refine lv_icmp_eq (pc := 193) (tgt := 412) hx hb dL_law_193 (by decide) (fun c1 => ?_) (fun c1 => absurd rfl c1)
  exact kk u1 v1 H locs hR K
set_option maxRecDepth 100000 in
set_option maxHeartbeats 4000000 in
theorem law_count {p : Program} {l : Launch} {e : Env} {s : State} {m : MethodId} {below : List Frame} {meth : Method} {c : Code} {G : Gt} {b L : Nat} {xs : Nat → Int32} (C0 : lw_At p s m meth c b L xs) {x3 : Int32} {P Q : St → St → Prop} (h1 : vp_in (x3 + 1) L) {u v : St} {H : Heap} {locs : List Loc} {ls : Array Slot} (hst : ∀ (a0 : Int32), StepBoth (fX11_count a0) (fX12_count a0) P Q) (hP : P u v) (K : Ok2 G (fun q : Nat => s.heap.size ≤ q) s u v H locs) (hl : lv_has ls 4 [(0, .ref b), (1, .ref (G.1 0)), (2, .ref (G.1 100)), (3, .int x3)]) (kk : ∀ u1 v1 H locs, Q u1 v1 → Ok2 G (fun q : Nat => s.heap.size ≤ q) s u1 v1 H locs → W p l e room_1 s m #[Value.ref b] below meth c H locs 600000 7302250 (lw_Z below #[Value.ref b] s) (F0 m 412 ls [])) : W p l e room_1 s m #[Value.ref b] below meth c H locs 600000 7302250 (lw_Z below #[Value.ref b] s) (F0 m 198 ls []) := by
  obtain ⟨hx, hb, hr, hml, hown, hts, hX, hbl, hlocks, hgv⟩ := C0
  have hbA : ¬ (fun q : Nat => s.heap.size ≤ q) b := Nat.not_le.mpr hbl
  have F : CallFix p m c code 4 s #[Value.ref b] BIG R_law := ⟨hx, hb, hml, hown, fun w hw => hts w (List.mem_filter.mp hw).1⟩
  obtain ⟨r, u1, v1, h7, h8, hR⟩ := hst (xs (x3 + 1).toNatClampNeg) u v hP
  refine lv_aload_n hx hb dL_law_198 rfl (lv_at hl 1 rfl) ?_
  refine lv_aload_n hx hb dL_law_199 rfl (lv_at hl 0 rfl) ?_
  refine lv_iload_n hx hb dL_law_200 rfl (lv_at hl 3 rfl) ?_
  refine lv_iconst (v := 1) hx hb dL_law_201 kI_1 ?_
  refine lv_iadd hx hb dL_law_202 ?_
  refine va_sld hx hb hX hbl hbA K.2.2.2.1 h1 dL_law_203 ?_
  refine ok2_callC (rest := []) F K (pX11_count G h7) mX11_count oc0 lL_33 rfl hl.1 rfl ⟨⟨rfl, rfl⟩, Nat.le_of_ble_eq_true rfl, Nat.le_of_ble_eq_true rfl⟩ ⟨Nat.le_of_ble_eq_true rfl, Nat.le_of_ble_eq_true rfl⟩ (Nat.le_of_ble_eq_true rfl) dL_law_204 (fun H locs K => ?_)
  refine lv_aload_n hx hb dL_law_207 rfl (lv_at hl 2 rfl) ?_
  refine lv_aload_n hx hb dL_law_208 rfl (lv_at hl 0 rfl) ?_
  refine lv_iload_n hx hb dL_law_209 rfl (lv_at hl 3 rfl) ?_
  refine lv_iconst (v := 1) hx hb dL_law_210 kI_1 ?_
  refine lv_iadd hx hb dL_law_211 ?_
  refine va_sld hx hb hX hbl hbA K.2.2.2.1 h1 dL_law_212 ?_
  refine ok2_callR (rest := [.int r]) F K (pX12_count G h8) mX12_count oc100 lL_37 rfl hl.1 rfl ⟨⟨rfl, rfl⟩, Nat.le_of_ble_eq_true rfl, Nat.le_of_ble_eq_true rfl⟩ ⟨Nat.le_of_ble_eq_true rfl, Nat.le_of_ble_eq_true rfl⟩ (Nat.le_of_ble_eq_true rfl) dL_law_213 (fun H locs K => ?_)
  refine lv_icmp_eq (pc := 216) (tgt := 412) hx hb dL_law_216 (by decide) (fun c1 => ?_) (fun c1 => absurd rfl c1)
  exact kk u1 v1 H locs hR K
set_option maxRecDepth 100000 in
set_option maxHeartbeats 4000000 in
theorem law_clause {p : Program} {l : Launch} {e : Env} {s : State} {m : MethodId} {below : List Frame} {meth : Method} {c : Code} {G : Gt} {b L : Nat} {xs : Nat → Int32} (C0 : lw_At p s m meth c b L xs) {x3 : Int32} {P Q : St → St → Prop} (h1 : vp_in (x3 + 1) L) (h2 : vp_in (x3 + 2) L) {u v : St} {H : Heap} {locs : List Loc} {ls : Array Slot} (hst : ∀ (a0 : Int32) (a1 : Int32), StepBoth (fX11_clause a0 a1) (fX12_clause a0 a1) P Q) (hP : P u v) (K : Ok2 G (fun q : Nat => s.heap.size ≤ q) s u v H locs) (hl : lv_has ls 4 [(0, .ref b), (1, .ref (G.1 0)), (2, .ref (G.1 100)), (3, .int x3)]) (kk : ∀ u1 v1 H locs, Q u1 v1 → Ok2 G (fun q : Nat => s.heap.size ≤ q) s u1 v1 H locs → W p l e room_1 s m #[Value.ref b] below meth c H locs 600000 7302250 (lw_Z below #[Value.ref b] s) (F0 m 412 ls [])) : W p l e room_1 s m #[Value.ref b] below meth c H locs 600000 7302250 (lw_Z below #[Value.ref b] s) (F0 m 221 ls []) := by
  obtain ⟨hx, hb, hr, hml, hown, hts, hX, hbl, hlocks, hgv⟩ := C0
  have hbA : ¬ (fun q : Nat => s.heap.size ≤ q) b := Nat.not_le.mpr hbl
  have F : CallFix p m c code 4 s #[Value.ref b] BIG R_law := ⟨hx, hb, hml, hown, fun w hw => hts w (List.mem_filter.mp hw).1⟩
  obtain ⟨r, u1, v1, h7, h8, hR⟩ := hst (xs (x3 + 1).toNatClampNeg) (xs (x3 + 2).toNatClampNeg) u v hP
  refine lv_aload_n hx hb dL_law_221 rfl (lv_at hl 1 rfl) ?_
  refine lv_aload_n hx hb dL_law_222 rfl (lv_at hl 0 rfl) ?_
  refine lv_iload_n hx hb dL_law_223 rfl (lv_at hl 3 rfl) ?_
  refine lv_iconst (v := 1) hx hb dL_law_224 kI_1 ?_
  refine lv_iadd hx hb dL_law_225 ?_
  refine va_sld hx hb hX hbl hbA K.2.2.2.1 h1 dL_law_226 ?_
  refine lv_aload_n hx hb dL_law_227 rfl (lv_at hl 0 rfl) ?_
  refine lv_iload_n hx hb dL_law_228 rfl (lv_at hl 3 rfl) ?_
  refine lv_iconst (v := 2) hx hb dL_law_229 kI_2 ?_
  refine lv_iadd hx hb dL_law_230 ?_
  refine va_sld hx hb hX hbl hbA K.2.2.2.1 h2 dL_law_231 ?_
  refine ok2_callC (rest := []) F K (pX11_clause G h7) mX11_clause oc0 lL_38 rfl hl.1 rfl ⟨⟨rfl, rfl⟩, Nat.le_of_ble_eq_true rfl, Nat.le_of_ble_eq_true rfl⟩ ⟨Nat.le_of_ble_eq_true rfl, Nat.le_of_ble_eq_true rfl⟩ (Nat.le_of_ble_eq_true rfl) dL_law_232 (fun H locs K => ?_)
  refine lv_aload_n hx hb dL_law_235 rfl (lv_at hl 2 rfl) ?_
  refine lv_aload_n hx hb dL_law_236 rfl (lv_at hl 0 rfl) ?_
  refine lv_iload_n hx hb dL_law_237 rfl (lv_at hl 3 rfl) ?_
  refine lv_iconst (v := 1) hx hb dL_law_238 kI_1 ?_
  refine lv_iadd hx hb dL_law_239 ?_
  refine va_sld hx hb hX hbl hbA K.2.2.2.1 h1 dL_law_240 ?_
  refine lv_aload_n hx hb dL_law_241 rfl (lv_at hl 0 rfl) ?_
  refine lv_iload_n hx hb dL_law_242 rfl (lv_at hl 3 rfl) ?_
  refine lv_iconst (v := 2) hx hb dL_law_243 kI_2 ?_
  refine lv_iadd hx hb dL_law_244 ?_
  refine va_sld hx hb hX hbl hbA K.2.2.2.1 h2 dL_law_245 ?_
  refine ok2_callR (rest := [.int r]) F K (pX12_clause G h8) mX12_clause oc100 lL_42 rfl hl.1 rfl ⟨⟨rfl, rfl⟩, Nat.le_of_ble_eq_true rfl, Nat.le_of_ble_eq_true rfl⟩ ⟨Nat.le_of_ble_eq_true rfl, Nat.le_of_ble_eq_true rfl⟩ (Nat.le_of_ble_eq_true rfl) dL_law_246 (fun H locs K => ?_)
  refine lv_icmp_eq (pc := 249) (tgt := 412) hx hb dL_law_249 (by decide) (fun c1 => ?_) (fun c1 => absurd rfl c1)
  exact kk u1 v1 H locs hR K
set_option maxRecDepth 100000 in
set_option maxHeartbeats 4000000 in
theorem law_write {p : Program} {l : Launch} {e : Env} {s : State} {m : MethodId} {below : List Frame} {meth : Method} {c : Code} {G : Gt} {b L : Nat} {xs : Nat → Int32} (C0 : lw_At p s m meth c b L xs) {x3 : Int32} {P Q : St → St → Prop} (h1 : vp_in (x3 + 1) L) {u v : St} {H : Heap} {locs : List Loc} {ls : Array Slot} (hst : ∀ (a0 : Int32), StepBoth (fX11_write a0) (fX12_write a0) P Q) (hP : P u v) (K : Ok2 G (fun q : Nat => s.heap.size ≤ q) s u v H locs) (hl : lv_has ls 4 [(0, .ref b), (1, .ref (G.1 0)), (2, .ref (G.1 100)), (3, .int x3)]) (kk : ∀ u1 v1 H locs, Q u1 v1 → Ok2 G (fun q : Nat => s.heap.size ≤ q) s u1 v1 H locs → W p l e room_1 s m #[Value.ref b] below meth c H locs 600000 7302250 (lw_Z below #[Value.ref b] s) (F0 m 412 ls [])) : W p l e room_1 s m #[Value.ref b] below meth c H locs 600000 7302250 (lw_Z below #[Value.ref b] s) (F0 m 254 ls []) := by
  obtain ⟨hx, hb, hr, hml, hown, hts, hX, hbl, hlocks, hgv⟩ := C0
  have hbA : ¬ (fun q : Nat => s.heap.size ≤ q) b := Nat.not_le.mpr hbl
  have F : CallFix p m c code 4 s #[Value.ref b] BIG R_law := ⟨hx, hb, hml, hown, fun w hw => hts w (List.mem_filter.mp hw).1⟩
  obtain ⟨r, u1, v1, h7, h8, hR⟩ := hst (xs (x3 + 1).toNatClampNeg) u v hP
  refine lv_aload_n hx hb dL_law_254 rfl (lv_at hl 1 rfl) ?_
  refine lv_aload_n hx hb dL_law_255 rfl (lv_at hl 0 rfl) ?_
  refine lv_iload_n hx hb dL_law_256 rfl (lv_at hl 3 rfl) ?_
  refine lv_iconst (v := 1) hx hb dL_law_257 kI_1 ?_
  refine lv_iadd hx hb dL_law_258 ?_
  refine va_sld hx hb hX hbl hbA K.2.2.2.1 h1 dL_law_259 ?_
  refine ok2_callC (rest := []) F K (pX11_write G h7) mX11_write oc0 lL_43 rfl hl.1 rfl ⟨⟨rfl, rfl⟩, Nat.le_of_ble_eq_true rfl, Nat.le_of_ble_eq_true rfl⟩ ⟨Nat.le_of_ble_eq_true rfl, Nat.le_of_ble_eq_true rfl⟩ (Nat.le_of_ble_eq_true rfl) dL_law_260 (fun H locs K => ?_)
  refine lv_aload_n hx hb dL_law_263 rfl (lv_at hl 2 rfl) ?_
  refine lv_aload_n hx hb dL_law_264 rfl (lv_at hl 0 rfl) ?_
  refine lv_iload_n hx hb dL_law_265 rfl (lv_at hl 3 rfl) ?_
  refine lv_iconst (v := 1) hx hb dL_law_266 kI_1 ?_
  refine lv_iadd hx hb dL_law_267 ?_
  refine va_sld hx hb hX hbl hbA K.2.2.2.1 h1 dL_law_268 ?_
  refine ok2_callR (rest := [.int r]) F K (pX12_write G h8) mX12_write oc100 lL_46 rfl hl.1 rfl ⟨⟨rfl, rfl⟩, Nat.le_of_ble_eq_true rfl, Nat.le_of_ble_eq_true rfl⟩ ⟨Nat.le_of_ble_eq_true rfl, Nat.le_of_ble_eq_true rfl⟩ (Nat.le_of_ble_eq_true rfl) dL_law_269 (fun H locs K => ?_)
  refine lv_icmp_eq (pc := 272) (tgt := 412) hx hb dL_law_272 (by decide) (fun c1 => ?_) (fun c1 => absurd rfl c1)
  exact kk u1 v1 H locs hR K
set_option maxRecDepth 100000 in
set_option maxHeartbeats 4000000 in
theorem law_octet {p : Program} {l : Launch} {e : Env} {s : State} {m : MethodId} {below : List Frame} {meth : Method} {c : Code} {G : Gt} {b L : Nat} {xs : Nat → Int32} (C0 : lw_At p s m meth c b L xs) {x3 : Int32} {P Q : St → St → Prop} (h1 : vp_in (x3 + 1) L) {u v : St} {H : Heap} {locs : List Loc} {ls : Array Slot} (hst : ∀ (a0 : Int32), StepBoth (fX11_octet a0) (fX12_octet a0) P Q) (hP : P u v) (K : Ok2 G (fun q : Nat => s.heap.size ≤ q) s u v H locs) (hl : lv_has ls 4 [(0, .ref b), (1, .ref (G.1 0)), (2, .ref (G.1 100)), (3, .int x3)]) (kk : ∀ u1 v1 H locs, Q u1 v1 → Ok2 G (fun q : Nat => s.heap.size ≤ q) s u1 v1 H locs → W p l e room_1 s m #[Value.ref b] below meth c H locs 600000 7302250 (lw_Z below #[Value.ref b] s) (F0 m 412 ls [])) : W p l e room_1 s m #[Value.ref b] below meth c H locs 600000 7302250 (lw_Z below #[Value.ref b] s) (F0 m 277 ls []) := by
  obtain ⟨hx, hb, hr, hml, hown, hts, hX, hbl, hlocks, hgv⟩ := C0
  have hbA : ¬ (fun q : Nat => s.heap.size ≤ q) b := Nat.not_le.mpr hbl
  have F : CallFix p m c code 4 s #[Value.ref b] BIG R_law := ⟨hx, hb, hml, hown, fun w hw => hts w (List.mem_filter.mp hw).1⟩
  obtain ⟨r, u1, v1, h7, h8, hR⟩ := hst (xs (x3 + 1).toNatClampNeg) u v hP
  refine lv_aload_n hx hb dL_law_277 rfl (lv_at hl 1 rfl) ?_
  refine lv_aload_n hx hb dL_law_278 rfl (lv_at hl 0 rfl) ?_
  refine lv_iload_n hx hb dL_law_279 rfl (lv_at hl 3 rfl) ?_
  refine lv_iconst (v := 1) hx hb dL_law_280 kI_1 ?_
  refine lv_iadd hx hb dL_law_281 ?_
  refine va_sld hx hb hX hbl hbA K.2.2.2.1 h1 dL_law_282 ?_
  refine ok2_callC (rest := []) F K (pX11_octet G h7) mX11_octet oc0 lL_47 rfl hl.1 rfl ⟨⟨rfl, rfl⟩, Nat.le_of_ble_eq_true rfl, Nat.le_of_ble_eq_true rfl⟩ ⟨Nat.le_of_ble_eq_true rfl, Nat.le_of_ble_eq_true rfl⟩ (Nat.le_of_ble_eq_true rfl) dL_law_283 (fun H locs K => ?_)
  refine lv_aload_n hx hb dL_law_286 rfl (lv_at hl 2 rfl) ?_
  refine lv_aload_n hx hb dL_law_287 rfl (lv_at hl 0 rfl) ?_
  refine lv_iload_n hx hb dL_law_288 rfl (lv_at hl 3 rfl) ?_
  refine lv_iconst (v := 1) hx hb dL_law_289 kI_1 ?_
  refine lv_iadd hx hb dL_law_290 ?_
  refine va_sld hx hb hX hbl hbA K.2.2.2.1 h1 dL_law_291 ?_
  refine ok2_callR (rest := [.int r]) F K (pX12_octet G h8) mX12_octet oc100 lL_50 rfl hl.1 rfl ⟨⟨rfl, rfl⟩, Nat.le_of_ble_eq_true rfl, Nat.le_of_ble_eq_true rfl⟩ ⟨Nat.le_of_ble_eq_true rfl, Nat.le_of_ble_eq_true rfl⟩ (Nat.le_of_ble_eq_true rfl) dL_law_292 (fun H locs K => ?_)
  refine lv_icmp_eq (pc := 295) (tgt := 412) hx hb dL_law_295 (by decide) (fun c1 => ?_) (fun c1 => absurd rfl c1)
  exact kk u1 v1 H locs hR K
set_option maxRecDepth 100000 in
set_option maxHeartbeats 4000000 in
theorem law_search {p : Program} {l : Launch} {e : Env} {s : State} {m : MethodId} {below : List Frame} {meth : Method} {c : Code} {G : Gt} {b L : Nat} {xs : Nat → Int32} (C0 : lw_At p s m meth c b L xs) {x3 : Int32} {P Q : St → St → Prop} (h1 : vp_in (x3 + 1) L) (h2 : vp_in (x3 + 2) L) {u v : St} {H : Heap} {locs : List Loc} {ls : Array Slot} (hst : ∀ (a0 : Int32) (a1 : Int32), StepBoth (fX11_search a0 a1) (fX12_search a0 a1) P Q) (hP : P u v) (K : Ok2 G (fun q : Nat => s.heap.size ≤ q) s u v H locs) (hl : lv_has ls 4 [(0, .ref b), (1, .ref (G.1 0)), (2, .ref (G.1 100)), (3, .int x3)]) (kk : ∀ u1 v1 H locs, Q u1 v1 → Ok2 G (fun q : Nat => s.heap.size ≤ q) s u1 v1 H locs → W p l e room_1 s m #[Value.ref b] below meth c H locs 600000 7302250 (lw_Z below #[Value.ref b] s) (F0 m 412 ls [])) : W p l e room_1 s m #[Value.ref b] below meth c H locs 600000 7302250 (lw_Z below #[Value.ref b] s) (F0 m 300 ls []) := by
  obtain ⟨hx, hb, hr, hml, hown, hts, hX, hbl, hlocks, hgv⟩ := C0
  have hbA : ¬ (fun q : Nat => s.heap.size ≤ q) b := Nat.not_le.mpr hbl
  have F : CallFix p m c code 4 s #[Value.ref b] BIG R_law := ⟨hx, hb, hml, hown, fun w hw => hts w (List.mem_filter.mp hw).1⟩
  obtain ⟨r, u1, v1, h7, h8, hR⟩ := hst (xs (x3 + 1).toNatClampNeg) (xs (x3 + 2).toNatClampNeg) u v hP
  refine lv_aload_n hx hb dL_law_300 rfl (lv_at hl 1 rfl) ?_
  refine lv_aload_n hx hb dL_law_301 rfl (lv_at hl 0 rfl) ?_
  refine lv_iload_n hx hb dL_law_302 rfl (lv_at hl 3 rfl) ?_
  refine lv_iconst (v := 1) hx hb dL_law_303 kI_1 ?_
  refine lv_iadd hx hb dL_law_304 ?_
  refine va_sld hx hb hX hbl hbA K.2.2.2.1 h1 dL_law_305 ?_
  refine lv_aload_n hx hb dL_law_306 rfl (lv_at hl 0 rfl) ?_
  refine lv_iload_n hx hb dL_law_307 rfl (lv_at hl 3 rfl) ?_
  refine lv_iconst (v := 2) hx hb dL_law_308 kI_2 ?_
  refine lv_iadd hx hb dL_law_309 ?_
  refine va_sld hx hb hX hbl hbA K.2.2.2.1 h2 dL_law_310 ?_
  refine ok2_callC (rest := []) F K (pX11_search G h7) mX11_search oc0 lL_51 rfl hl.1 rfl ⟨⟨rfl, rfl⟩, Nat.le_of_ble_eq_true rfl, Nat.le_of_ble_eq_true rfl⟩ ⟨Nat.le_of_ble_eq_true rfl, Nat.le_of_ble_eq_true rfl⟩ (Nat.le_of_ble_eq_true rfl) dL_law_311 (fun H locs K => ?_)
  refine lv_aload_n hx hb dL_law_314 rfl (lv_at hl 2 rfl) ?_
  refine lv_aload_n hx hb dL_law_315 rfl (lv_at hl 0 rfl) ?_
  refine lv_iload_n hx hb dL_law_316 rfl (lv_at hl 3 rfl) ?_
  refine lv_iconst (v := 1) hx hb dL_law_317 kI_1 ?_
  refine lv_iadd hx hb dL_law_318 ?_
  refine va_sld hx hb hX hbl hbA K.2.2.2.1 h1 dL_law_319 ?_
  refine lv_aload_n hx hb dL_law_320 rfl (lv_at hl 0 rfl) ?_
  refine lv_iload_n hx hb dL_law_321 rfl (lv_at hl 3 rfl) ?_
  refine lv_iconst (v := 2) hx hb dL_law_322 kI_2 ?_
  refine lv_iadd hx hb dL_law_323 ?_
  refine va_sld hx hb hX hbl hbA K.2.2.2.1 h2 dL_law_324 ?_
  refine ok2_callR (rest := [.int r]) F K (pX12_search G h8) mX12_search oc100 lL_54 rfl hl.1 rfl ⟨⟨rfl, rfl⟩, Nat.le_of_ble_eq_true rfl, Nat.le_of_ble_eq_true rfl⟩ ⟨Nat.le_of_ble_eq_true rfl, Nat.le_of_ble_eq_true rfl⟩ (Nat.le_of_ble_eq_true rfl) dL_law_325 (fun H locs K => ?_)
  refine lv_icmp_eq (pc := 328) (tgt := 412) hx hb dL_law_328 (by decide) (fun c1 => ?_) (fun c1 => absurd rfl c1)
  exact kk u1 v1 H locs hR K
set_option maxRecDepth 100000 in
set_option maxHeartbeats 4000000 in
theorem law_told {p : Program} {l : Launch} {e : Env} {s : State} {m : MethodId} {below : List Frame} {meth : Method} {c : Code} {G : Gt} {b L : Nat} {xs : Nat → Int32} (C0 : lw_At p s m meth c b L xs) {x3 : Int32} {P Q : St → St → Prop} (h1 : vp_in (x3 + 1) L) {u v : St} {H : Heap} {locs : List Loc} {ls : Array Slot} (hst : ∀ (a0 : Int32), StepBoth (fX11_told a0) (fX12_told a0) P Q) (hP : P u v) (K : Ok2 G (fun q : Nat => s.heap.size ≤ q) s u v H locs) (hl : lv_has ls 4 [(0, .ref b), (1, .ref (G.1 0)), (2, .ref (G.1 100)), (3, .int x3)]) (kk : ∀ u1 v1 H locs, Q u1 v1 → Ok2 G (fun q : Nat => s.heap.size ≤ q) s u1 v1 H locs → W p l e room_1 s m #[Value.ref b] below meth c H locs 600000 7302250 (lw_Z below #[Value.ref b] s) (F0 m 412 ls [])) : W p l e room_1 s m #[Value.ref b] below meth c H locs 600000 7302250 (lw_Z below #[Value.ref b] s) (F0 m 333 ls []) := by
  obtain ⟨hx, hb, hr, hml, hown, hts, hX, hbl, hlocks, hgv⟩ := C0
  have hbA : ¬ (fun q : Nat => s.heap.size ≤ q) b := Nat.not_le.mpr hbl
  have F : CallFix p m c code 4 s #[Value.ref b] BIG R_law := ⟨hx, hb, hml, hown, fun w hw => hts w (List.mem_filter.mp hw).1⟩
  obtain ⟨r, u1, v1, h7, h8, hR⟩ := hst (xs (x3 + 1).toNatClampNeg) u v hP
  refine lv_aload_n hx hb dL_law_333 rfl (lv_at hl 1 rfl) ?_
  refine lv_aload_n hx hb dL_law_334 rfl (lv_at hl 0 rfl) ?_
  refine lv_iload_n hx hb dL_law_335 rfl (lv_at hl 3 rfl) ?_
  refine lv_iconst (v := 1) hx hb dL_law_336 kI_1 ?_
  refine lv_iadd hx hb dL_law_337 ?_
  refine va_sld hx hb hX hbl hbA K.2.2.2.1 h1 dL_law_338 ?_
  refine ok2_callC (rest := []) F K (pX11_told G h7) mX11_told oc0 lL_55 rfl hl.1 rfl ⟨⟨rfl, rfl⟩, Nat.le_of_ble_eq_true rfl, Nat.le_of_ble_eq_true rfl⟩ ⟨Nat.le_of_ble_eq_true rfl, Nat.le_of_ble_eq_true rfl⟩ (Nat.le_of_ble_eq_true rfl) dL_law_339 (fun H locs K => ?_)
  refine lv_aload_n hx hb dL_law_342 rfl (lv_at hl 2 rfl) ?_
  refine lv_aload_n hx hb dL_law_343 rfl (lv_at hl 0 rfl) ?_
  refine lv_iload_n hx hb dL_law_344 rfl (lv_at hl 3 rfl) ?_
  refine lv_iconst (v := 1) hx hb dL_law_345 kI_1 ?_
  refine lv_iadd hx hb dL_law_346 ?_
  refine va_sld hx hb hX hbl hbA K.2.2.2.1 h1 dL_law_347 ?_
  refine ok2_callR (rest := [.int r]) F K (pX12_told G h8) mX12_told oc100 lL_58 rfl hl.1 rfl ⟨⟨rfl, rfl⟩, Nat.le_of_ble_eq_true rfl, Nat.le_of_ble_eq_true rfl⟩ ⟨Nat.le_of_ble_eq_true rfl, Nat.le_of_ble_eq_true rfl⟩ (Nat.le_of_ble_eq_true rfl) dL_law_348 (fun H locs K => ?_)
  refine lv_icmp_eq (pc := 351) (tgt := 412) hx hb dL_law_351 (by decide) (fun c1 => ?_) (fun c1 => absurd rfl c1)
  exact kk u1 v1 H locs hR K
set_option maxRecDepth 100000 in
set_option maxHeartbeats 4000000 in
theorem law_move {p : Program} {l : Launch} {e : Env} {s : State} {m : MethodId} {below : List Frame} {meth : Method} {c : Code} {G : Gt} {b L : Nat} {xs : Nat → Int32} (C0 : lw_At p s m meth c b L xs) {x3 : Int32} {P Q : St → St → Prop} (h1 : vp_in (x3 + 1) L) (h2 : vp_in (x3 + 2) L) {u v : St} {H : Heap} {locs : List Loc} {ls : Array Slot} (hst : ∀ (a0 : Int32) (a1 : Int32), StepBoth (fX11_move a0 a1) (fX12_move a0 a1) P Q) (hP : P u v) (K : Ok2 G (fun q : Nat => s.heap.size ≤ q) s u v H locs) (hl : lv_has ls 4 [(0, .ref b), (1, .ref (G.1 0)), (2, .ref (G.1 100)), (3, .int x3)]) (kk : ∀ u1 v1 H locs, Q u1 v1 → Ok2 G (fun q : Nat => s.heap.size ≤ q) s u1 v1 H locs → W p l e room_1 s m #[Value.ref b] below meth c H locs 600000 7302250 (lw_Z below #[Value.ref b] s) (F0 m 412 ls [])) : W p l e room_1 s m #[Value.ref b] below meth c H locs 600000 7302250 (lw_Z below #[Value.ref b] s) (F0 m 356 ls []) := by
  obtain ⟨hx, hb, hr, hml, hown, hts, hX, hbl, hlocks, hgv⟩ := C0
  have hbA : ¬ (fun q : Nat => s.heap.size ≤ q) b := Nat.not_le.mpr hbl
  have F : CallFix p m c code 4 s #[Value.ref b] BIG R_law := ⟨hx, hb, hml, hown, fun w hw => hts w (List.mem_filter.mp hw).1⟩
  obtain ⟨r, u1, v1, h7, h8, hR⟩ := hst (xs (x3 + 1).toNatClampNeg) (xs (x3 + 2).toNatClampNeg) u v hP
  refine lv_aload_n hx hb dL_law_356 rfl (lv_at hl 1 rfl) ?_
  refine lv_aload_n hx hb dL_law_357 rfl (lv_at hl 0 rfl) ?_
  refine lv_iload_n hx hb dL_law_358 rfl (lv_at hl 3 rfl) ?_
  refine lv_iconst (v := 1) hx hb dL_law_359 kI_1 ?_
  refine lv_iadd hx hb dL_law_360 ?_
  refine va_sld hx hb hX hbl hbA K.2.2.2.1 h1 dL_law_361 ?_
  refine lv_aload_n hx hb dL_law_362 rfl (lv_at hl 0 rfl) ?_
  refine lv_iload_n hx hb dL_law_363 rfl (lv_at hl 3 rfl) ?_
  refine lv_iconst (v := 2) hx hb dL_law_364 kI_2 ?_
  refine lv_iadd hx hb dL_law_365 ?_
  refine va_sld hx hb hX hbl hbA K.2.2.2.1 h2 dL_law_366 ?_
  refine ok2_callC (rest := []) F K (pX11_move G h7) mX11_move oc0 lL_59 rfl hl.1 rfl ⟨⟨rfl, rfl⟩, Nat.le_of_ble_eq_true rfl, Nat.le_of_ble_eq_true rfl⟩ ⟨Nat.le_of_ble_eq_true rfl, Nat.le_of_ble_eq_true rfl⟩ (Nat.le_of_ble_eq_true rfl) dL_law_367 (fun H locs K => ?_)
  refine lv_aload_n hx hb dL_law_370 rfl (lv_at hl 2 rfl) ?_
  refine lv_aload_n hx hb dL_law_371 rfl (lv_at hl 0 rfl) ?_
  refine lv_iload_n hx hb dL_law_372 rfl (lv_at hl 3 rfl) ?_
  refine lv_iconst (v := 1) hx hb dL_law_373 kI_1 ?_
  refine lv_iadd hx hb dL_law_374 ?_
  refine va_sld hx hb hX hbl hbA K.2.2.2.1 h1 dL_law_375 ?_
  refine lv_aload_n hx hb dL_law_376 rfl (lv_at hl 0 rfl) ?_
  refine lv_iload_n hx hb dL_law_377 rfl (lv_at hl 3 rfl) ?_
  refine lv_iconst (v := 2) hx hb dL_law_378 kI_2 ?_
  refine lv_iadd hx hb dL_law_379 ?_
  refine va_sld hx hb hX hbl hbA K.2.2.2.1 h2 dL_law_380 ?_
  refine ok2_callR (rest := [.int r]) F K (pX12_move G h8) mX12_move oc100 lL_62 rfl hl.1 rfl ⟨⟨rfl, rfl⟩, Nat.le_of_ble_eq_true rfl, Nat.le_of_ble_eq_true rfl⟩ ⟨Nat.le_of_ble_eq_true rfl, Nat.le_of_ble_eq_true rfl⟩ (Nat.le_of_ble_eq_true rfl) dL_law_381 (fun H locs K => ?_)
  refine lv_icmp_eq (pc := 384) (tgt := 412) hx hb dL_law_384 (by decide) (fun c1 => ?_) (fun c1 => absurd rfl c1)
  exact kk u1 v1 H locs hR K
set_option maxRecDepth 100000 in
set_option maxHeartbeats 4000000 in
theorem law_show {p : Program} {l : Launch} {e : Env} {s : State} {m : MethodId} {below : List Frame} {meth : Method} {c : Code} {G : Gt} {b L : Nat} {xs : Nat → Int32} (C0 : lw_At p s m meth c b L xs) {x3 : Int32} {P Q : St → St → Prop} (h1 : vp_in (x3 + 1) L) {u v : St} {H : Heap} {locs : List Loc} {ls : Array Slot} (hst : ∀ (a0 : Int32), StepBoth (fX11_show a0) (fX12_show a0) P Q) (hP : P u v) (K : Ok2 G (fun q : Nat => s.heap.size ≤ q) s u v H locs) (hl : lv_has ls 4 [(0, .ref b), (1, .ref (G.1 0)), (2, .ref (G.1 100)), (3, .int x3)]) (kk : ∀ u1 v1 H locs, Q u1 v1 → Ok2 G (fun q : Nat => s.heap.size ≤ q) s u1 v1 H locs → W p l e room_1 s m #[Value.ref b] below meth c H locs 600000 7302250 (lw_Z below #[Value.ref b] s) (F0 m 412 ls [])) : W p l e room_1 s m #[Value.ref b] below meth c H locs 600000 7302250 (lw_Z below #[Value.ref b] s) (F0 m 389 ls []) := by
  obtain ⟨hx, hb, hr, hml, hown, hts, hX, hbl, hlocks, hgv⟩ := C0
  have hbA : ¬ (fun q : Nat => s.heap.size ≤ q) b := Nat.not_le.mpr hbl
  have F : CallFix p m c code 4 s #[Value.ref b] BIG R_law := ⟨hx, hb, hml, hown, fun w hw => hts w (List.mem_filter.mp hw).1⟩
  obtain ⟨r, u1, v1, h7, h8, hR⟩ := hst (xs (x3 + 1).toNatClampNeg) u v hP
  refine lv_aload_n hx hb dL_law_389 rfl (lv_at hl 1 rfl) ?_
  refine lv_aload_n hx hb dL_law_390 rfl (lv_at hl 0 rfl) ?_
  refine lv_iload_n hx hb dL_law_391 rfl (lv_at hl 3 rfl) ?_
  refine lv_iconst (v := 1) hx hb dL_law_392 kI_1 ?_
  refine lv_iadd hx hb dL_law_393 ?_
  refine va_sld hx hb hX hbl hbA K.2.2.2.1 h1 dL_law_394 ?_
  refine ok2_callC (rest := []) F K (pX11_show G h7) mX11_show oc0 lL_63 rfl hl.1 rfl ⟨⟨rfl, rfl⟩, Nat.le_of_ble_eq_true rfl, Nat.le_of_ble_eq_true rfl⟩ ⟨Nat.le_of_ble_eq_true rfl, Nat.le_of_ble_eq_true rfl⟩ (Nat.le_of_ble_eq_true rfl) dL_law_395 (fun H locs K => ?_)
  refine lv_aload_n hx hb dL_law_398 rfl (lv_at hl 2 rfl) ?_
  refine lv_aload_n hx hb dL_law_399 rfl (lv_at hl 0 rfl) ?_
  refine lv_iload_n hx hb dL_law_400 rfl (lv_at hl 3 rfl) ?_
  refine lv_iconst (v := 1) hx hb dL_law_401 kI_1 ?_
  refine lv_iadd hx hb dL_law_402 ?_
  refine va_sld hx hb hX hbl hbA K.2.2.2.1 h1 dL_law_403 ?_
  refine ok2_callR (rest := [.int r]) F K (pX12_show G h8) mX12_show oc100 lL_66 rfl hl.1 rfl ⟨⟨rfl, rfl⟩, Nat.le_of_ble_eq_true rfl, Nat.le_of_ble_eq_true rfl⟩ ⟨Nat.le_of_ble_eq_true rfl, Nat.le_of_ble_eq_true rfl⟩ (Nat.le_of_ble_eq_true rfl) dL_law_404 (fun H locs K => ?_)
  refine lv_icmp_eq (pc := 407) (tgt := 412) hx hb dL_law_407 (by decide) (fun c1 => ?_) (fun c1 => absurd rfl c1)
  exact kk u1 v1 H locs hR K
theorem lv_tableInE0 {p : Program} {l : Launch} {e : Env} {R : Room} {s : State} {m : MethodId} {args : Array Value} {below : List Frame} {meth : Method} {c : Code} {H : Heap} {locs : List Loc} {Q : State → Prop} {cells slots : Nat} {cc : ByteArray} {pc : Nat} {ls : Array Slot} {rest : List Value} (hexec : p.tables.exec = Jvm.exec) (hb : c.code = cc) {dflt lo hi : Int} {offs : Array Int} {len : Nat} {x K : Int32} {off : Int} {tgt : Nat} (hdg : decode cc pc = .ok (.tableswitch dflt lo hi offs, len)) (hK : x = K) (h1 : ¬ K.toInt < lo) (h2 : ¬ hi < K.toInt) (ho : offs[(K.toInt - lo).toNat]? = some off) (ht : (pc : Int) + off = (tgt : Int))
    (k : W p l e R s m args below meth c H locs cells slots Q (F0 m tgt ls rest)) : W p l e R s m args below meth c H locs cells slots Q (F0 m pc ls (.int x :: rest)) := by
  subst hK
  exact lv_tableIn hexec hb hdg h1 h2 ho ht k
set_option maxRecDepth 100000 in
set_option maxHeartbeats 4000000 in
/-- THE LAW'S LOOP -/
theorem law_loop {p : Program} {l : Launch} {e : Env} {s : State} {m : MethodId} {below : List Frame} {meth : Method} {c : Code} {G : Gt} {b L : Nat} {xs : Nat → Int32} (hL : L ≤ 2048) (C0 : lw_At p s m meth c b L xs) {Rel : Nat → St → St → Prop} (hG : GoodR Rel) : ∀ (n k : Nat), k + n = 514 → ∀ (x3 : Int32) (u v : St) (H : Heap) (locs : List Loc) (ls : Array Slot), x3 = nI (4 * k) → Rel k u v → Ok2 G (fun q : Nat => s.heap.size ≤ q) s u v H locs → lv_has ls 4 [(0, .ref b), (1, .ref (G.1 0)), (2, .ref (G.1 100)), (3, .int x3)] → W p l e room_1 s m #[Value.ref b] below meth c H locs 600000 7302250 (lw_Z below #[Value.ref b] s) (F0 m 18 ls []) := by
  intro n
  induction n with
  | zero => 
    intro k hk x3 u v H locs ls ex hRel K hl
    obtain ⟨hx, hb, hr, hml, hown, hts, hX, hbl, hlocks, hgv⟩ := id C0
    have hbA : ¬ (fun q : Nat => s.heap.size ≤ q) b := Nat.not_le.mpr hbl
    have F : CallFix p m c code 4 s #[Value.ref b] BIG R_law := ⟨hx, hb, hml, hown, fun w hw => hts w (List.mem_filter.mp hw).1⟩
    refine lv_iload_n hx hb dL_law_18 rfl (lv_at hl 3 rfl) ?_
    refine lv_aload_n hx hb dL_law_19 rfl (lv_at hl 0 rfl) ?_
    refine va_slen hx hb hX hbl hbA K.2.2.2.1 dL_law_20 ?_
    refine lv_iconst (v := 4) hx hb dL_law_21 kI_4 ?_
    refine lv_isub hx hb dL_law_22 ?_
    refine lv_icmp_gt (pc := 23) (tgt := 418) hx hb dL_law_23 (by decide) (fun c1 => ?_) (fun c1 => ?_)
    · refine lv_iconst (v := 1) hx hb dL_law_418 kI_1 ?_
      refine va_forget (fun q hq => K.2.2.2.1.2.2 q hq) ?_
      exact lw_ret hx hb hr hlocks dL_law_419
    · exact absurd (law_le (j := 4 * k) hL (by omega) (by rw [← ex]; exact c1)) (by omega)
  | succ n ih =>
    intro k hkn x3 u v H locs ls ex hRel K hl
    obtain ⟨hx, hb, hr, hml, hown, hts, hX, hbl, hlocks, hgv⟩ := id C0
    have hbA : ¬ (fun q : Nat => s.heap.size ≤ q) b := Nat.not_le.mpr hbl
    have F : CallFix p m c code 4 s #[Value.ref b] BIG R_law := ⟨hx, hb, hml, hown, fun w hw => hts w (List.mem_filter.mp hw).1⟩
    refine lv_iload_n hx hb dL_law_18 rfl (lv_at hl 3 rfl) ?_
    refine lv_aload_n hx hb dL_law_19 rfl (lv_at hl 0 rfl) ?_
    refine va_slen hx hb hX hbl hbA K.2.2.2.1 dL_law_20 ?_
    refine lv_iconst (v := 4) hx hb dL_law_21 kI_4 ?_
    refine lv_isub hx hb dL_law_22 ?_
    refine lv_icmp_gt (pc := 23) (tgt := 418) hx hb dL_law_23 (by decide) (fun c1 => ?_) (fun c1 => ?_)
    · refine lv_iconst (v := 1) hx hb dL_law_418 kI_1 ?_
      refine va_forget (fun q hq => K.2.2.2.1.2.2 q hq) ?_
      exact lw_ret hx hb hr hlocks dL_law_419
    · have hj : 4 * k + 4 ≤ L := law_le hL (by omega) (by rw [← ex]; exact c1)
      have hk : k < 512 := by omega
      have h1 : vp_in (x3 + 1) L := by rw [ex]; exact law_ix (k := 1) hL (by omega)
      have h2 : vp_in (x3 + 2) L := by rw [ex]; exact law_ix (k := 2) hL (by omega)
      have h3 : vp_in (x3 + 3) L := by rw [ex]; exact law_ix (k := 3) hL (by omega)
      obtain ⟨g0, g1, g2, g3, g4, g5, g6, g7, g8, g9, g10, g11, g12⟩ := hG.2 k hk
      refine lv_aload_n hx hb dL_law_26 rfl (lv_at hl 0 rfl) ?_
      refine lv_iload_n hx hb dL_law_27 rfl (lv_at hl 3 rfl) ?_
      refine va_sld hx hb hX hbl hbA K.2.2.2.1 (by rw [ex]; exact vp_in_nI (by omega) (by omega)) dL_law_28 ?_
      refine lv_bipush (v := 15) hx hb dL_law_29 kB_15 ?_
      refine lv_iand hx hb dL_law_31 ?_
      refine lv_topi (fun x ex9 => ?_)
      have nxt : ∀ u1 v1 H locs, Rel (k + 1) u1 v1 → Ok2 G (fun q : Nat => s.heap.size ≤ q) s u1 v1 H locs → W p l e room_1 s m #[Value.ref b] below meth c H locs 600000 7302250 (lw_Z below #[Value.ref b] s) (F0 m 412 ls []) := by
        intro u1 v1 H locs hR K
        obtain ⟨x4, ex4⟩ : ∃ y : Int32, y = x3 + 4 := ⟨_, rfl⟩
        refine lv_iinc (v := x4) (lv' := [(3, .int x4), (0, .ref b), (1, .ref (G.1 0)), (2, .ref (G.1 100))]) hx hb dL_law_412 hl (k := 3) rfl (by rw [kI_4, ex4]) (by decide) rfl (fun ls hl => ?_)
        refine lv_goto (pc := 415) (tgt := 18) hx hb dL_law_415 (by decide) ?_
        exact ih (k + 1) (by omega) x4 u1 v1 _ _ _ (by rw [ex4, ex]; exact nI_add (4 * k) 4) hR K (lv_sub hl [1, 2, 3, 0] rfl)
      by_cases z0 : x = 0
      · refine lv_tableInE0 (pc := 32) (K := 0) (off := 64) (tgt := 96) hx hb dL_law_32 z0 (by decide) (by decide) rfl (by decide) ?_
        exact law_feed C0 h1 h2 h3 g1 hRel K hl nxt
      · skip
        by_cases z1 : x = 1
        · refine lv_tableInE0 (pc := 32) (K := 1) (off := 127) (tgt := 159) hx hb dL_law_32 z1 (by decide) (by decide) rfl (by decide) ?_
          exact law_read C0  g2 hRel K hl nxt
        · skip
          by_cases z2 : x = 2
          · refine lv_tableInE0 (pc := 32) (K := 2) (off := 140) (tgt := 172) hx hb dL_law_32 z2 (by decide) (by decide) rfl (by decide) ?_
            exact law_place C0  g3 hRel K hl nxt
          · skip
            by_cases z3 : x = 3
            · refine lv_tableInE0 (pc := 32) (K := 3) (off := 153) (tgt := 185) hx hb dL_law_32 z3 (by decide) (by decide) rfl (by decide) ?_
              exact law_clear C0  g4 hRel K hl nxt
            · skip
              by_cases z4 : x = 4
              · refine lv_tableInE0 (pc := 32) (K := 4) (off := 166) (tgt := 198) hx hb dL_law_32 z4 (by decide) (by decide) rfl (by decide) ?_
                exact law_count C0 h1 g5 hRel K hl nxt
              · skip
                by_cases z5 : x = 5
                · refine lv_tableInE0 (pc := 32) (K := 5) (off := 189) (tgt := 221) hx hb dL_law_32 z5 (by decide) (by decide) rfl (by decide) ?_
                  exact law_clause C0 h1 h2 g6 hRel K hl nxt
                · skip
                  by_cases z6 : x = 6
                  · refine lv_tableInE0 (pc := 32) (K := 6) (off := 222) (tgt := 254) hx hb dL_law_32 z6 (by decide) (by decide) rfl (by decide) ?_
                    exact law_write C0 h1 g7 hRel K hl nxt
                  · skip
                    by_cases z7 : x = 7
                    · refine lv_tableInE0 (pc := 32) (K := 7) (off := 245) (tgt := 277) hx hb dL_law_32 z7 (by decide) (by decide) rfl (by decide) ?_
                      exact law_octet C0 h1 g8 hRel K hl nxt
                    · skip
                      by_cases z8 : x = 8
                      · refine lv_tableInE0 (pc := 32) (K := 8) (off := 268) (tgt := 300) hx hb dL_law_32 z8 (by decide) (by decide) rfl (by decide) ?_
                        exact law_search C0 h1 h2 g9 hRel K hl nxt
                      · skip
                        by_cases z9 : x = 9
                        · refine lv_tableInE0 (pc := 32) (K := 9) (off := 301) (tgt := 333) hx hb dL_law_32 z9 (by decide) (by decide) rfl (by decide) ?_
                          exact law_told C0 h1 g10 hRel K hl nxt
                        · skip
                          by_cases z10 : x = 10
                          · refine lv_tableInE0 (pc := 32) (K := 10) (off := 324) (tgt := 356) hx hb dL_law_32 z10 (by decide) (by decide) rfl (by decide) ?_
                            exact law_move C0 h1 h2 g11 hRel K hl nxt
                          · skip
                            by_cases z11 : x = 11
                            · refine lv_tableInE0 (pc := 32) (K := 11) (off := 357) (tgt := 389) hx hb dL_law_32 z11 (by decide) (by decide) rfl (by decide) ?_
                              exact law_show C0 h1 g12 hRel K hl nxt
                            · skip
                              refine lv_tableOut (pc := 32) (tgt := 412) hx hb dL_law_32 (sw_out x 0 11 (fun k h1 h2 => by have h3 : k = 0 ∨ k = 1 ∨ k = 2 ∨ k = 3 ∨ k = 4 ∨ k = 5 ∨ k = 6 ∨ k = 7 ∨ k = 8 ∨ k = 9 ∨ k = 10 ∨ k = 11 := (by omega); rcases h3 with rfl | rfl | rfl | rfl | rfl | rfl | rfl | rfl | rfl | rfl | rfl | rfl <;> simp only [kI_0, kI_1, kI_2, kI_3, kI_4, kI_5, kI_6, kI_7, kI_8, kI_9, kI_10, kI_11] <;> assumption)) (by decide) ?_
                              exact nxt u v _ _ (g0 u v hRel) K
