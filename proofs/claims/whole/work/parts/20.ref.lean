abbrev rmX12_argumentsNext : Room := { frames := 0, cells := 0, slots := 0, locals := 0 }
set_option maxRecDepth 100000 in
set_option maxHeartbeats 4000000 in
theorem pX12_argumentsNext_L0 {p : Program} {l : Launch} {e : Env} {s : State} {m : MethodId} {below : List Frame} {meth : Method} {c : Code} {A : Nat → Prop} {G : Gt} {a0 : Int32} {a1 : Int32} {a2 : Int32} {a3 : Int32} {u' : St} (B : Bd p s m [.ref (G.1 100), .int a0, .int a1, .int a2, .int a3] meth c yX12_argumentsNext cX12_argumentsNext 10 none) (n : Nat) : (∀ (x2_ : Int32) (x4_ : Int32) (x5_ : Int32) (x6_ : Int32) (x7_ : Int32) (x8_ : Int32) (u : St) (H : Heap) (locs : List Loc) (ls : Array Slot), fX12_argumentsNext_L0  n 0 x2_ x4_ x5_ x6_ x7_ x8_ u = some u' → Ok 100 77 G A s u H locs → lv_has ls 10 [(0, .ref (G.1 100)), (2, .int x2_), (4, .int x4_), (5, .int x5_), (6, .int x6_), (7, .int x7_), (8, .int x8_)] → W p l e rmX12_argumentsNext s m ([.ref (G.1 100), .int a0, .int a1, .int a2, .int a3] : List Value).toArray below meth c H locs 0 0 (MQ below (Qg 100 77 G A none u') ([.ref (G.1 100), .int a0, .int a1, .int a2, .int a3] : List Value).toArray s 0 0 A) (F0 m 21 ls [])) := by
  have F := B.1
  have hx := F.1
  have hb := F.2.1
  induction n with
  | zero => exact fun _ _ _ _ _ _ _ _ _ _ hf => g_no hf
  | succ n ih =>
    refine ?_
    · intro x2_ x4_ x5_ x6_ x7_ x8_ u H locs ls hf K hl
      have hf : fX12_argumentsNext_L0_0  (fX12_argumentsNext_L0  n) x2_ x4_ x5_ x6_ x7_ x8_ u = some u' := hf
      unfold fX12_argumentsNext_L0_0 at hf
      refine lv_iload hx hb dX12_argumentsNext_21 (lv_at hl 6 rfl) ?_
      refine lv_iload hx hb dX12_argumentsNext_23 (lv_at hl 3 rfl) ?_
      refine lv_icmp_ge (pc := 25) (tgt := 101) hx hb dX12_argumentsNext_25 (by decide) (fun c1 => ?_) (fun c1 => ?_)
      · have hf := g_pos hf c1
        refine lv_aload_n hx hb dX12_argumentsNext_101 rfl (lv_at hl 0 rfl) ?_
        refine lv_dup hx hb dX12_argumentsNext_102 rfl ?_
        refine ok_int F K fX12_561 dX12_argumentsNext_103 ?_
        refine lv_iload hx hb dX12_argumentsNext_106 (lv_at hl 3 rfl) ?_
        refine lv_iadd hx hb dX12_argumentsNext_108 ?_
        refine ok_putI F K qX12_561 dX12_argumentsNext_109 (fun u2 H locs eu2 K => ?_)
        have hf := g_lt hf u2 eu2
        exact ok_retv B K hf dX12_argumentsNext_112
      · have hf := g_neg hf c1
        refine lv_aload_n hx hb dX12_argumentsNext_28 rfl (lv_at hl 0 rfl) ?_
        refine ok_int F K fX12_561 dX12_argumentsNext_29 ?_
        refine lv_iload hx hb dX12_argumentsNext_32 (lv_at hl 3 rfl) ?_
        refine lv_iadd hx hb dX12_argumentsNext_34 ?_
        refine lv_iconst (v := 1) hx hb dX12_argumentsNext_35 kI_1 ?_
        refine lv_isub hx hb dX12_argumentsNext_36 ?_
        refine lv_iload hx hb dX12_argumentsNext_37 (lv_at hl 6 rfl) ?_
        refine lv_isub hx hb dX12_argumentsNext_39 ?_
        refine lv_topi (fun x3 ex3 => ?_)
        have hf := g_lt hf x3 ex3
        refine lv_istore (lv' := [(9, .int x3), (0, .ref (G.1 100)), (2, .int x2_), (4, .int x4_), (5, .int x5_), (6, .int x6_), (7, .int x7_), (8, .int x8_)]) hx hb dX12_argumentsNext_40 hl (by decide) rfl (fun ls hl => ?_)
        refine lv_aload_n hx hb dX12_argumentsNext_42 rfl (lv_at hl 1 rfl) ?_
        refine ok_ref F K fX12_193 dX12_argumentsNext_43 ?_
        refine lv_iload hx hb dX12_argumentsNext_46 (lv_at hl 0 rfl) ?_
        refine lv_iload hx hb dX12_argumentsNext_48 (lv_at hl 5 rfl) ?_
        obtain ⟨u4, hu4, hf⟩ := g_bd hf
        refine ok_iast F K t161 hu4 dX12_argumentsNext_50 (fun H locs K => ?_)
        refine lv_aload_n hx hb dX12_argumentsNext_51 rfl (lv_at hl 1 rfl) ?_
        refine ok_ref F K fX12_196 dX12_argumentsNext_52 ?_
        refine lv_iload hx hb dX12_argumentsNext_55 (lv_at hl 0 rfl) ?_
        refine lv_iload_n hx hb dX12_argumentsNext_57 rfl (lv_at hl 2 rfl) ?_
        obtain ⟨u5, hu5, hf⟩ := g_bd hf
        refine ok_iast F K t162 hu5 dX12_argumentsNext_58 (fun H locs K => ?_)
        refine lv_aload_n hx hb dX12_argumentsNext_59 rfl (lv_at hl 1 rfl) ?_
        refine ok_ref F K fX12_199 dX12_argumentsNext_60 ?_
        refine lv_iload hx hb dX12_argumentsNext_63 (lv_at hl 0 rfl) ?_
        refine lv_iload hx hb dX12_argumentsNext_65 (lv_at hl 6 rfl) ?_
        obtain ⟨u6, hu6, hf⟩ := g_bd hf
        refine ok_iast F K t163 hu6 dX12_argumentsNext_67 (fun H locs K => ?_)
        refine lv_aload_n hx hb dX12_argumentsNext_68 rfl (lv_at hl 1 rfl) ?_
        refine ok_ref F K fX12_202 dX12_argumentsNext_69 ?_
        refine lv_iload hx hb dX12_argumentsNext_72 (lv_at hl 0 rfl) ?_
        refine lv_iload hx hb dX12_argumentsNext_74 (lv_at hl 3 rfl) ?_
        obtain ⟨u7, hu7, hf⟩ := g_bd hf
        refine ok_iast F K t164 hu7 dX12_argumentsNext_76 (fun H locs K => ?_)
        refine lv_aload_n hx hb dX12_argumentsNext_77 rfl (lv_at hl 1 rfl) ?_
        refine ok_ref F K fX12_46 dX12_argumentsNext_78 ?_
        refine lv_iload hx hb dX12_argumentsNext_81 (lv_at hl 5 rfl) ?_
        obtain ⟨v8, hv8, hf⟩ := g_bd hf
        refine ok_iald F K t112 hv8 dX12_argumentsNext_83 ?_
        refine lv_istore (lv' := [(6, .int v8), (9, .int x3), (0, .ref (G.1 100)), (2, .int x2_), (4, .int x4_), (5, .int x5_), (7, .int x7_), (8, .int x8_)]) hx hb dX12_argumentsNext_84 hl (by decide) rfl (fun ls hl => ?_)
        refine lv_aload_n hx hb dX12_argumentsNext_86 rfl (lv_at hl 2 rfl) ?_
        refine ok_ref F K fX12_46 dX12_argumentsNext_87 ?_
        refine lv_iload hx hb dX12_argumentsNext_90 (lv_at hl 6 rfl) ?_
        obtain ⟨v9, hv9, hf⟩ := g_bd hf
        refine ok_iald F K t112 hv9 dX12_argumentsNext_92 ?_
        refine lv_istore (lv' := [(7, .int v9), (6, .int v8), (9, .int x3), (0, .ref (G.1 100)), (2, .int x2_), (4, .int x4_), (5, .int x5_), (8, .int x8_)]) hx hb dX12_argumentsNext_93 hl (by decide) rfl (fun ls hl => ?_)
        obtain ⟨x10, ex10⟩ : ∃ y : Int32, y = x8_ + 1 := ⟨_, rfl⟩
        have hf := g_lt hf x10 ex10
        refine lv_iinc (v := x10) (lv' := [(8, .int x10), (7, .int v9), (6, .int v8), (9, .int x3), (0, .ref (G.1 100)), (2, .int x2_), (4, .int x4_), (5, .int x5_)]) hx hb dX12_argumentsNext_95 hl (k := 7) rfl (by rw [kI_1, ex10]) (by decide) rfl (fun ls hl => ?_)
        refine lv_goto (pc := 98) (tgt := 21) hx hb dX12_argumentsNext_98 (by decide) ?_
        exact ih x2_ x4_ x5_ v8 v9 x10 u7 _ _ _ hf K (lv_sub hl [4, 5, 6, 7, 2, 1, 0] rfl)
set_option maxRecDepth 100000 in
set_option maxHeartbeats 4000000 in
theorem pX12_argumentsNext {l : Launch} (G : Gt) {a0 : Int32} {a1 : Int32} {a2 : Int32} {a3 : Int32} {u u' : St} (hf : fX12_argumentsNext a0 a1 a2 a3 u = some u') : Ctr 100 77 l yX12_argumentsNext cX12_argumentsNext 10 none rmX12_argumentsNext [.ref (G.1 100), .int a0, .int a1, .int a2, .int a3] G u none u' := by
  refine Ctr.mk (by decide) (Nat.le_of_ble_eq_true rfl) (fun p e s m below meth c A ls B K hl => ?_)
  have F := B.1
  have hx := F.1
  have hb := F.2.1
  have hl : lv_has ls 10 [(0, .ref (G.1 100)), (1, .int a0), (2, .int a1), (3, .int a2), (4, .int a3)] := hl
  unfold fX12_argumentsNext at hf
  refine lv_aload_n hx hb dX12_argumentsNext_0 rfl (lv_at hl 0 rfl) ?_
  refine ok_ref F K fX12_49 dX12_argumentsNext_1 ?_
  refine lv_iload_n hx hb dX12_argumentsNext_4 rfl (lv_at hl 1 rfl) ?_
  obtain ⟨v11, hv11, hf⟩ := g_bd hf
  refine ok_iald F K t113 hv11 dX12_argumentsNext_5 ?_
  refine lv_istore (lv' := [(5, .int v11), (0, .ref (G.1 100)), (1, .int a0), (2, .int a1), (3, .int a2), (4, .int a3)]) hx hb dX12_argumentsNext_6 hl (by decide) rfl (fun ls hl => ?_)
  refine lv_iload_n hx hb dX12_argumentsNext_8 rfl (lv_at hl 2 rfl) ?_
  refine lv_iconst (v := 1) hx hb dX12_argumentsNext_9 kI_1 ?_
  refine lv_iadd hx hb dX12_argumentsNext_10 ?_
  refine lv_topi (fun x12 ex12 => ?_)
  have hf := g_lt hf x12 ex12
  refine lv_istore (lv' := [(6, .int x12), (5, .int v11), (0, .ref (G.1 100)), (1, .int a0), (2, .int a1), (3, .int a2), (4, .int a3)]) hx hb dX12_argumentsNext_11 hl (by decide) rfl (fun ls hl => ?_)
  refine lv_iload_n hx hb dX12_argumentsNext_13 rfl (lv_at hl 5 rfl) ?_
  refine lv_iconst (v := 1) hx hb dX12_argumentsNext_14 kI_1 ?_
  refine lv_iadd hx hb dX12_argumentsNext_15 ?_
  refine lv_topi (fun x13 ex13 => ?_)
  have hf := g_lt hf x13 ex13
  refine lv_istore (lv' := [(7, .int x13), (6, .int x12), (5, .int v11), (0, .ref (G.1 100)), (1, .int a0), (2, .int a1), (3, .int a2), (4, .int a3)]) hx hb dX12_argumentsNext_16 hl (by decide) rfl (fun ls hl => ?_)
  refine lv_iconst (v := 0) hx hb dX12_argumentsNext_18 kI_0 ?_
  refine lv_topi (fun x14 ex14 => ?_)
  have hf := g_lt hf x14 ex14
  refine lv_istore (lv' := [(8, .int x14), (7, .int x13), (6, .int x12), (5, .int v11), (0, .ref (G.1 100)), (1, .int a0), (2, .int a1), (3, .int a2), (4, .int a3)]) hx hb dX12_argumentsNext_19 hl (by decide) rfl (fun ls hl => ?_)
  exact (pX12_argumentsNext_L0  B FU) a1 a3 v11 x12 x13 x14 u _ _ _ hf K (lv_sub hl [4, 6, 8, 3, 2, 1, 0] rfl)
abbrev rmX12_counted : Room := { frames := 0, cells := 0, slots := 0, locals := 0 }
set_option maxRecDepth 100000 in
set_option maxHeartbeats 4000000 in
theorem pX12_counted_j33 {p : Program} {l : Launch} {e : Env} {s : State} {m : MethodId} {below : List Frame} {meth : Method} {c : Code} {A : Nat → Prop} {G : Gt} {r : Int32} {u' : St} (B : Bd p s m [.ref (G.1 100)] meth c yX12_counted cX12_counted 1 (some .boolean)) (s0_ : Int32) (u : St) (H : Heap) (locs : List Loc) (ls : Array Slot) (hf : fX12_counted_j33 s0_ u = some (r, u')) (K : Ok 100 77 G A s u H locs) (hl : lv_has ls 1 [(0, .ref (G.1 100))]) : W p l e rmX12_counted s m ([.ref (G.1 100)] : List Value).toArray below meth c H locs 0 0 (MQ below (Qg 100 77 G A (some (.int r)) u') ([.ref (G.1 100)] : List Value).toArray s 0 0 A) (F0 m 33 ls [.int s0_, .ref (G.1 100)]) := by
  have F := B.1
  have hx := F.1
  have hb := F.2.1
  unfold fX12_counted_j33 at hf
  obtain ⟨z2, hz2, hf⟩ := g_bd hf
  refine ok_putZ F K qX12_552 (g_zb hz2).2 dX12_counted_33 (fun u1 H locs eu1 K => ?_)
  have hf := g_lt hf u1 eu1
  refine lv_aload_n hx hb dX12_counted_36 rfl (lv_at hl 0 rfl) ?_
  refine ok_int F K fX12_552 dX12_counted_37 ?_
  refine lv_if_ne (pc := 40) (tgt := 47) hx hb dX12_counted_40 (by decide) (fun c3 => ?_) (fun c3 => ?_)
  · have hf := g_neg hf c3
    refine lv_iconst (v := 0) hx hb dX12_counted_47 kI_0 ?_
    exact ok_retz B K hf (Or.inl rfl) dX12_counted_48
  · have hf := g_pos hf c3
    refine lv_iconst (v := 1) hx hb dX12_counted_43 kI_1 ?_
    refine lv_goto (pc := 44) (tgt := 48) hx hb dX12_counted_44 (by decide) ?_
    exact ok_retz B K hf (Or.inr rfl) dX12_counted_48
set_option maxRecDepth 100000 in
set_option maxHeartbeats 4000000 in
theorem pX12_counted {l : Launch} (G : Gt) {r : Int32} {u u' : St} (hf : fX12_counted u = some (r, u')) : Ctr 100 77 l yX12_counted cX12_counted 1 (some .boolean) rmX12_counted [.ref (G.1 100)] G u (some (.int r)) u' := by
  refine Ctr.mk (by decide) (Nat.le_of_ble_eq_true rfl) (fun p e s m below meth c A ls B K hl => ?_)
  have F := B.1
  have hx := F.1
  have hb := F.2.1
  have hl : lv_has ls 1 [(0, .ref (G.1 100))] := hl
  unfold fX12_counted at hf
  refine lv_aload_n hx hb dX12_counted_0 rfl (lv_at hl 0 rfl) ?_
  refine lv_dup hx hb dX12_counted_1 rfl ?_
  refine ok_int F K fX12_549 dX12_counted_2 ?_
  refine lv_iconst (v := 1) hx hb dX12_counted_5 kI_1 ?_
  refine lv_iadd hx hb dX12_counted_6 ?_
  refine ok_putI F K qX12_549 dX12_counted_7 (fun u4 H locs eu4 K => ?_)
  have hf := g_lt hf u4 eu4
  refine lv_aload_n hx hb dX12_counted_10 rfl (lv_at hl 0 rfl) ?_
  refine lv_aload_n hx hb dX12_counted_11 rfl (lv_at hl 0 rfl) ?_
  refine ok_int F K fX12_552 dX12_counted_12 ?_
  refine lv_if_ne (pc := 15) (tgt := 28) hx hb dX12_counted_15 (by decide) (fun c5 => ?_) (fun c5 => ?_)
  · have hf := g_neg hf c5
    refine lv_iconst (v := 1) hx hb dX12_counted_28 kI_1 ?_
    refine lv_goto (pc := 29) (tgt := 33) hx hb dX12_counted_29 (by decide) ?_
    exact pX12_counted_j33  B 1 u4 _ _ _ hf K (lv_sub hl [0] rfl)
  · have hf := g_pos hf c5
    refine lv_aload_n hx hb dX12_counted_18 rfl (lv_at hl 0 rfl) ?_
    refine ok_int F K fX12_549 dX12_counted_19 ?_
    refine lv_sipush (v := 4000) hx hb dX12_counted_22 kS_4000 ?_
    refine lv_icmp_le (pc := 25) (tgt := 32) hx hb dX12_counted_25 (by decide) (fun c6 => ?_) (fun c6 => ?_)
    · have hf := g_pos hf c6
      refine lv_iconst (v := 0) hx hb dX12_counted_32 kI_0 ?_
      exact pX12_counted_j33  B 0 u4 _ _ _ hf K (lv_sub hl [0] rfl)
    · have hf := g_neg hf c6
      refine lv_iconst (v := 1) hx hb dX12_counted_28 kI_1 ?_
      refine lv_goto (pc := 29) (tgt := 33) hx hb dX12_counted_29 (by decide) ?_
      exact pX12_counted_j33  B 1 u4 _ _ _ hf K (lv_sub hl [0] rfl)
abbrev rmX12_follow : Room := { frames := 0, cells := 0, slots := 0, locals := 0 }
set_option maxRecDepth 100000 in
set_option maxHeartbeats 4000000 in
theorem pX12_follow_L0 {p : Program} {l : Launch} {e : Env} {s : State} {m : MethodId} {below : List Frame} {meth : Method} {c : Code} {A : Nat → Prop} {G : Gt} {a0 : Int32} {a1 : Int32} {u' : St} (B : Bd p s m [.ref (G.1 100), .int a0, .int a1] meth c yX12_follow cX12_follow 4 none) (n : Nat) : (∀ (u : St) (H : Heap) (locs : List Loc) (ls : Array Slot), fX12_follow_L0  n 0  u = some u' → Ok 100 77 G A s u H locs → lv_has ls 4 [(0, .ref (G.1 100))] → W p l e rmX12_follow s m ([.ref (G.1 100), .int a0, .int a1] : List Value).toArray below meth c H locs 0 0 (MQ below (Qg 100 77 G A none u') ([.ref (G.1 100), .int a0, .int a1] : List Value).toArray s 0 0 A) (F0 m 10 ls [])) := by
  have F := B.1
  have hx := F.1
  have hb := F.2.1
  induction n with
  | zero => exact fun _ _ _ _ hf => g_no hf
  | succ n ih =>
    refine ?_
    · intro  u H locs ls hf K hl
      have hf : fX12_follow_L0_0  (fX12_follow_L0  n)  u = some u' := hf
      unfold fX12_follow_L0_0 at hf
      refine lv_aload_n hx hb dX12_follow_10 rfl (lv_at hl 0 rfl) ?_
      refine ok_ref F K fX12_43 dX12_follow_11 ?_
      refine lv_aload_n hx hb dX12_follow_14 rfl (lv_at hl 0 rfl) ?_
      refine ok_int F K fX12_522 dX12_follow_15 ?_
      obtain ⟨v1, hv1, hf⟩ := g_bd hf
      refine ok_iald F K t111 hv1 dX12_follow_18 ?_
      refine lv_if_ge (pc := 19) (tgt := 86) hx hb dX12_follow_19 (by decide) (fun c2 => ?_) (fun c2 => ?_)
      · have hf := g_pos hf c2
        exact ok_retv B K hf dX12_follow_86
      · have hf := g_neg hf c2
        refine lv_aload_n hx hb dX12_follow_22 rfl (lv_at hl 0 rfl) ?_
        refine ok_ref F K fX12_172 dX12_follow_23 ?_
        refine lv_aload_n hx hb dX12_follow_26 rfl (lv_at hl 0 rfl) ?_
        refine ok_int F K fX12_525 dX12_follow_27 ?_
        refine lv_iconst (v := 1) hx hb dX12_follow_30 kI_1 ?_
        refine lv_isub hx hb dX12_follow_31 ?_
        refine lv_aload_n hx hb dX12_follow_32 rfl (lv_at hl 0 rfl) ?_
        refine ok_ref F K fX12_43 dX12_follow_33 ?_
        refine lv_aload_n hx hb dX12_follow_36 rfl (lv_at hl 0 rfl) ?_
        refine ok_int F K fX12_522 dX12_follow_37 ?_
        obtain ⟨v3, hv3, hf⟩ := g_bd hf
        refine ok_iald F K t111 hv3 dX12_follow_40 ?_
        refine lv_isub hx hb dX12_follow_41 ?_
        obtain ⟨v4, hv4, hf⟩ := g_bd hf
        refine ok_iald F K t154 hv4 dX12_follow_42 ?_
        refine lv_if_lt (pc := 43) (tgt := 86) hx hb dX12_follow_43 (by decide) (fun c5 => ?_) (fun c5 => ?_)
        · have hf := g_pos hf c5
          exact ok_retv B K hf dX12_follow_86
        · have hf := g_neg hf c5
          refine lv_aload_n hx hb dX12_follow_46 rfl (lv_at hl 0 rfl) ?_
          refine ok_int F K fX12_525 dX12_follow_47 ?_
          refine lv_iconst (v := 1) hx hb dX12_follow_50 kI_1 ?_
          refine lv_isub hx hb dX12_follow_51 ?_
          refine lv_aload_n hx hb dX12_follow_52 rfl (lv_at hl 0 rfl) ?_
          refine ok_ref F K fX12_43 dX12_follow_53 ?_
          refine lv_aload_n hx hb dX12_follow_56 rfl (lv_at hl 0 rfl) ?_
          refine ok_int F K fX12_522 dX12_follow_57 ?_
          obtain ⟨v6, hv6, hf⟩ := g_bd hf
          refine ok_iald F K t111 hv6 dX12_follow_60 ?_
          refine lv_isub hx hb dX12_follow_61 ?_
          refine lv_topi (fun x7 ex7 => ?_)
          have hf := g_lt hf x7 ex7
          refine lv_istore_n (lv' := [(3, .int x7), (0, .ref (G.1 100))]) hx hb dX12_follow_62 rfl hl (by decide) rfl (fun ls hl => ?_)
          refine lv_aload_n hx hb dX12_follow_63 rfl (lv_at hl 1 rfl) ?_
          refine lv_aload_n hx hb dX12_follow_64 rfl (lv_at hl 1 rfl) ?_
          refine ok_ref F K fX12_172 dX12_follow_65 ?_
          refine lv_iload_n hx hb dX12_follow_68 rfl (lv_at hl 0 rfl) ?_
          obtain ⟨v8, hv8, hf⟩ := g_bd hf
          refine ok_iald F K t154 hv8 dX12_follow_69 ?_
          refine ok_putI F K qX12_522 dX12_follow_70 (fun u9 H locs eu9 K => ?_)
          have hf := g_lt hf u9 eu9
          refine lv_aload_n hx hb dX12_follow_73 rfl (lv_at hl 1 rfl) ?_
          refine lv_aload_n hx hb dX12_follow_74 rfl (lv_at hl 1 rfl) ?_
          refine ok_ref F K fX12_175 dX12_follow_75 ?_
          refine lv_iload_n hx hb dX12_follow_78 rfl (lv_at hl 0 rfl) ?_
          obtain ⟨v10, hv10, hf⟩ := g_bd hf
          refine ok_iald F K t155 hv10 dX12_follow_79 ?_
          refine ok_putI F K qX12_525 dX12_follow_80 (fun u11 H locs eu11 K => ?_)
          have hf := g_lt hf u11 eu11
          refine lv_goto (pc := 83) (tgt := 10) hx hb dX12_follow_83 (by decide) ?_
          exact ih  u11 _ _ _ hf K (lv_sub hl [1] rfl)
set_option maxRecDepth 100000 in
set_option maxHeartbeats 4000000 in
theorem pX12_follow {l : Launch} (G : Gt) {a0 : Int32} {a1 : Int32} {u u' : St} (hf : fX12_follow a0 a1 u = some u') : Ctr 100 77 l yX12_follow cX12_follow 4 none rmX12_follow [.ref (G.1 100), .int a0, .int a1] G u none u' := by
  refine Ctr.mk (by decide) (Nat.le_of_ble_eq_true rfl) (fun p e s m below meth c A ls B K hl => ?_)
  have F := B.1
  have hx := F.1
  have hb := F.2.1
  have hl : lv_has ls 4 [(0, .ref (G.1 100)), (1, .int a0), (2, .int a1)] := hl
  unfold fX12_follow at hf
  refine lv_aload_n hx hb dX12_follow_0 rfl (lv_at hl 0 rfl) ?_
  refine lv_iload_n hx hb dX12_follow_1 rfl (lv_at hl 1 rfl) ?_
  refine ok_putI F K qX12_522 dX12_follow_2 (fun u12 H locs eu12 K => ?_)
  have hf := g_lt hf u12 eu12
  refine lv_aload_n hx hb dX12_follow_5 rfl (lv_at hl 0 rfl) ?_
  refine lv_iload_n hx hb dX12_follow_6 rfl (lv_at hl 2 rfl) ?_
  refine ok_putI F K qX12_525 dX12_follow_7 (fun u13 H locs eu13 K => ?_)
  have hf := g_lt hf u13 eu13
  exact (pX12_follow_L0  B FU)  u13 _ _ _ hf K (lv_sub hl [0] rfl)
abbrev rmX12_alike : Room := { frames := 1, cells := 0, slots := 0, locals := 29 }
set_option maxRecDepth 100000 in
set_option maxHeartbeats 4000000 in
theorem pX12_alike_L0 {p : Program} {l : Launch} {e : Env} {s : State} {m : MethodId} {below : List Frame} {meth : Method} {c : Code} {A : Nat → Prop} {G : Gt} {a0 : Int32} {a1 : Int32} {a2 : Int32} {a3 : Int32} {r : Int32} {u' : St} (B : Bd p s m [.ref (G.1 100), .int a0, .int a1, .int a2, .int a3] meth c yX12_alike cX12_alike 11 (some .boolean)) (n : Nat) : (∀ (u : St) (H : Heap) (locs : List Loc) (ls : Array Slot), fX12_alike_L0  n 0 0 0 0 0 0 0 u = some (r, u') → Ok 100 77 G A s u H locs → lv_has ls 11 [(0, .ref (G.1 100))] → W p l e rmX12_alike s m ([.ref (G.1 100), .int a0, .int a1, .int a2, .int a3] : List Value).toArray below meth c H locs 0 0 (MQ below (Qg 100 77 G A (some (.int r)) u') ([.ref (G.1 100), .int a0, .int a1, .int a2, .int a3] : List Value).toArray s 0 0 A) (F0 m 14 ls [])) ∧ (∀ (x5_ : Int32) (x6_ : Int32) (x7_ : Int32) (x8_ : Int32) (s0_ : Int32) (u : St) (H : Heap) (locs : List Loc) (ls : Array Slot), fX12_alike_L0  n 1 x5_ x6_ x7_ x8_ 0 s0_ u = some (r, u') → Ok 100 77 G A s u H locs → lv_has ls 11 [(0, .ref (G.1 100)), (5, .int x5_), (6, .int x6_), (7, .int x7_), (8, .int x8_)] → W p l e rmX12_alike s m ([.ref (G.1 100), .int a0, .int a1, .int a2, .int a3] : List Value).toArray below meth c H locs 0 0 (MQ below (Qg 100 77 G A (some (.int r)) u') ([.ref (G.1 100), .int a0, .int a1, .int a2, .int a3] : List Value).toArray s 0 0 A) (F0 m 133 ls [.int s0_])) ∧ (∀ (x5_ : Int32) (x6_ : Int32) (x7_ : Int32) (x8_ : Int32) (x9_ : Int32) (s0_ : Int32) (u : St) (H : Heap) (locs : List Loc) (ls : Array Slot), fX12_alike_L0  n 2 x5_ x6_ x7_ x8_ x9_ s0_ u = some (r, u') → Ok 100 77 G A s u H locs → lv_has ls 11 [(0, .ref (G.1 100)), (5, .int x5_), (6, .int x6_), (7, .int x7_), (8, .int x8_), (9, .int x9_)] → W p l e rmX12_alike s m ([.ref (G.1 100), .int a0, .int a1, .int a2, .int a3] : List Value).toArray below meth c H locs 0 0 (MQ below (Qg 100 77 G A (some (.int r)) u') ([.ref (G.1 100), .int a0, .int a1, .int a2, .int a3] : List Value).toArray s 0 0 A) (F0 m 217 ls [.int s0_])) := by
  have F := B.1
  have hx := F.1
  have hb := F.2.1
  induction n with
  | zero => exact ⟨fun _ _ _ _ hf => g_no hf, fun _ _ _ _ _ _ _ _ _ hf => g_no hf, fun _ _ _ _ _ _ _ _ _ _ hf => g_no hf⟩
  | succ n ih =>
    refine ⟨?_, ?_, ?_⟩
    · intro  u H locs ls hf K hl
      have hf : fX12_alike_L0_0  (fX12_alike_L0  n)  u = some (r, u') := hf
      unfold fX12_alike_L0_0 at hf
      refine lv_aload_n hx hb dX12_alike_14 rfl (lv_at hl 0 rfl) ?_
      refine ok_int F K fX12_561 dX12_alike_15 ?_
      refine lv_if_le (pc := 18) (tgt := 246) hx hb dX12_alike_18 (by decide) (fun c1 => ?_) (fun c1 => ?_)
      · have hf := g_pos hf c1
        refine lv_iconst (v := 1) hx hb dX12_alike_246 kI_1 ?_
        exact ok_retz B K hf (Or.inr rfl) dX12_alike_247
      · have hf := g_neg hf c1
        refine lv_aload_n hx hb dX12_alike_21 rfl (lv_at hl 0 rfl) ?_
        refine lv_dup hx hb dX12_alike_22 rfl ?_
        refine ok_int F K fX12_561 dX12_alike_23 ?_
        refine lv_iconst (v := 1) hx hb dX12_alike_26 kI_1 ?_
        refine lv_isub hx hb dX12_alike_27 ?_
        refine ok_putI F K qX12_561 dX12_alike_28 (fun u2 H locs eu2 K => ?_)
        have hf := g_lt hf u2 eu2
        refine lv_aload_n hx hb dX12_alike_31 rfl (lv_at hl 0 rfl) ?_
        obtain ⟨r4, u3, hu3, hf⟩ := g_b2 hf
        refine ok_calli (rest := []) F K (pX12_counted G hu3) mX12_counted oc100 lX12_558 rfl hl.1 rfl ⟨⟨rfl, rfl⟩, Nat.le_of_ble_eq_true rfl, Nat.le_of_ble_eq_true rfl⟩ (Nat.le_of_ble_eq_true rfl) dX12_alike_32 (fun H locs K => ?_)
        refine lv_if_ne (pc := 35) (tgt := 40) hx hb dX12_alike_35 (by decide) (fun c5 => ?_) (fun c5 => ?_)
        · have hf := g_neg hf c5
          refine lv_aload_n hx hb dX12_alike_40 rfl (lv_at hl 0 rfl) ?_
          refine lv_aload_n hx hb dX12_alike_41 rfl (lv_at hl 0 rfl) ?_
          refine ok_ref F K fX12_193 dX12_alike_42 ?_
          refine lv_aload_n hx hb dX12_alike_45 rfl (lv_at hl 0 rfl) ?_
          refine ok_int F K fX12_561 dX12_alike_46 ?_
          obtain ⟨v6, hv6, hf⟩ := g_bd hf
          refine ok_iald F K t161 hv6 dX12_alike_49 ?_
          refine lv_aload_n hx hb dX12_alike_50 rfl (lv_at hl 0 rfl) ?_
          refine ok_ref F K fX12_196 dX12_alike_51 ?_
          refine lv_aload_n hx hb dX12_alike_54 rfl (lv_at hl 0 rfl) ?_
          refine ok_int F K fX12_561 dX12_alike_55 ?_
          obtain ⟨v7, hv7, hf⟩ := g_bd hf
          refine ok_iald F K t162 hv7 dX12_alike_58 ?_
          obtain ⟨u8, hu8, hf⟩ := g_bd hf
          refine ok_callv (rest := []) F K (pX12_follow G hu8) mX12_follow oc100 lX12_519 rfl hl.1 rfl ⟨⟨rfl, rfl⟩, Nat.le_of_ble_eq_true rfl, Nat.le_of_ble_eq_true rfl⟩ (Nat.le_of_ble_eq_true rfl) dX12_alike_59 (fun H locs K => ?_)
          refine lv_aload_n hx hb dX12_alike_62 rfl (lv_at hl 0 rfl) ?_
          refine ok_int F K fX12_522 dX12_alike_63 ?_
          refine lv_topi (fun x9 ex9 => ?_)
          have hf := g_lt hf x9 ex9
          refine lv_istore (lv' := [(5, .int x9), (0, .ref (G.1 100))]) hx hb dX12_alike_66 hl (by decide) rfl (fun ls hl => ?_)
          refine lv_aload_n hx hb dX12_alike_68 rfl (lv_at hl 1 rfl) ?_
          refine ok_int F K fX12_525 dX12_alike_69 ?_
          refine lv_topi (fun x10 ex10 => ?_)
          have hf := g_lt hf x10 ex10
          refine lv_istore (lv' := [(6, .int x10), (5, .int x9), (0, .ref (G.1 100))]) hx hb dX12_alike_72 hl (by decide) rfl (fun ls hl => ?_)
          refine lv_aload_n hx hb dX12_alike_74 rfl (lv_at hl 2 rfl) ?_
          refine lv_aload_n hx hb dX12_alike_75 rfl (lv_at hl 2 rfl) ?_
          refine ok_ref F K fX12_199 dX12_alike_76 ?_
          refine lv_aload_n hx hb dX12_alike_79 rfl (lv_at hl 2 rfl) ?_
          refine ok_int F K fX12_561 dX12_alike_80 ?_
          obtain ⟨v11, hv11, hf⟩ := g_bd hf
          refine ok_iald F K t163 hv11 dX12_alike_83 ?_
          refine lv_aload_n hx hb dX12_alike_84 rfl (lv_at hl 2 rfl) ?_
          refine ok_ref F K fX12_202 dX12_alike_85 ?_
          refine lv_aload_n hx hb dX12_alike_88 rfl (lv_at hl 2 rfl) ?_
          refine ok_int F K fX12_561 dX12_alike_89 ?_
          obtain ⟨v12, hv12, hf⟩ := g_bd hf
          refine ok_iald F K t164 hv12 dX12_alike_92 ?_
          obtain ⟨u13, hu13, hf⟩ := g_bd hf
          refine ok_callv (rest := []) F K (pX12_follow G hu13) mX12_follow oc100 lX12_519 rfl hl.1 rfl ⟨⟨rfl, rfl⟩, Nat.le_of_ble_eq_true rfl, Nat.le_of_ble_eq_true rfl⟩ (Nat.le_of_ble_eq_true rfl) dX12_alike_93 (fun H locs K => ?_)
          refine lv_aload_n hx hb dX12_alike_96 rfl (lv_at hl 2 rfl) ?_
          refine ok_int F K fX12_522 dX12_alike_97 ?_
          refine lv_topi (fun x14 ex14 => ?_)
          have hf := g_lt hf x14 ex14
          refine lv_istore (lv' := [(7, .int x14), (6, .int x10), (5, .int x9), (0, .ref (G.1 100))]) hx hb dX12_alike_100 hl (by decide) rfl (fun ls hl => ?_)
          refine lv_aload_n hx hb dX12_alike_102 rfl (lv_at hl 3 rfl) ?_
          refine ok_int F K fX12_525 dX12_alike_103 ?_
          refine lv_topi (fun x15 ex15 => ?_)
          have hf := g_lt hf x15 ex15
          refine lv_istore (lv' := [(8, .int x15), (7, .int x14), (6, .int x10), (5, .int x9), (0, .ref (G.1 100))]) hx hb dX12_alike_106 hl (by decide) rfl (fun ls hl => ?_)
          refine lv_aload_n hx hb dX12_alike_108 rfl (lv_at hl 4 rfl) ?_
          refine ok_ref F K fX12_43 dX12_alike_109 ?_
          refine lv_iload hx hb dX12_alike_112 (lv_at hl 3 rfl) ?_
          obtain ⟨v16, hv16, hf⟩ := g_bd hf
          refine ok_iald F K t111 hv16 dX12_alike_114 ?_
          refine lv_if_lt (pc := 115) (tgt := 128) hx hb dX12_alike_115 (by decide) (fun c17 => ?_) (fun c17 => ?_)
          · have hf := g_pos hf c17
            refine lv_iconst (v := 1) hx hb dX12_alike_128 kI_1 ?_
            refine lv_goto (pc := 129) (tgt := 133) hx hb dX12_alike_129 (by decide) ?_
            exact ih.2.1 x9 x10 x14 x15 1 u13 _ _ _ hf K (lv_sub hl [4, 3, 2, 1, 0] rfl)
          · have hf := g_neg hf c17
            refine lv_aload_n hx hb dX12_alike_118 rfl (lv_at hl 4 rfl) ?_
            refine ok_ref F K fX12_43 dX12_alike_119 ?_
            refine lv_iload hx hb dX12_alike_122 (lv_at hl 1 rfl) ?_
            obtain ⟨v18, hv18, hf⟩ := g_bd hf
            refine ok_iald F K t111 hv18 dX12_alike_124 ?_
            refine lv_if_ge (pc := 125) (tgt := 132) hx hb dX12_alike_125 (by decide) (fun c19 => ?_) (fun c19 => ?_)
            · have hf := g_pos hf c19
              refine lv_iconst (v := 0) hx hb dX12_alike_132 kI_0 ?_
              exact ih.2.1 x9 x10 x14 x15 0 u13 _ _ _ hf K (lv_sub hl [4, 3, 2, 1, 0] rfl)
            · have hf := g_neg hf c19
              refine lv_iconst (v := 1) hx hb dX12_alike_128 kI_1 ?_
              refine lv_goto (pc := 129) (tgt := 133) hx hb dX12_alike_129 (by decide) ?_
              exact ih.2.1 x9 x10 x14 x15 1 u13 _ _ _ hf K (lv_sub hl [4, 3, 2, 1, 0] rfl)
        · have hf := g_pos hf c5
          refine lv_iconst (v := 0) hx hb dX12_alike_38 kI_0 ?_
          exact ok_retz B K hf (Or.inl rfl) dX12_alike_39
    · intro x5_ x6_ x7_ x8_ s0_ u H locs ls hf K hl
      have hf : fX12_alike_L0_1  (fX12_alike_L0  n) x5_ x6_ x7_ x8_ s0_ u = some (r, u') := hf
      unfold fX12_alike_L0_1 at hf
      refine lv_istore (lv' := [(9, .int s0_), (0, .ref (G.1 100)), (5, .int x5_), (6, .int x6_), (7, .int x7_), (8, .int x8_)]) hx hb dX12_alike_133 hl (by decide) rfl (fun ls hl => ?_)
      refine lv_iload hx hb dX12_alike_135 (lv_at hl 0 rfl) ?_
      refine lv_if_eq (pc := 137) (tgt := 195) hx hb dX12_alike_137 (by decide) (fun c20 => ?_) (fun c20 => ?_)
      · have hf := g_pos hf c20
        refine lv_aload_n hx hb dX12_alike_195 rfl (lv_at hl 1 rfl) ?_
        refine ok_ref F K fX12_43 dX12_alike_196 ?_
        refine lv_iload hx hb dX12_alike_199 (lv_at hl 2 rfl) ?_
        obtain ⟨v21, hv21, hf⟩ := g_bd hf
        refine ok_iald F K t111 hv21 dX12_alike_201 ?_
        refine lv_aload_n hx hb dX12_alike_202 rfl (lv_at hl 1 rfl) ?_
        refine ok_ref F K fX12_43 dX12_alike_203 ?_
        refine lv_iload hx hb dX12_alike_206 (lv_at hl 4 rfl) ?_
        obtain ⟨v22, hv22, hf⟩ := g_bd hf
        refine ok_iald F K t111 hv22 dX12_alike_208 ?_
        refine lv_icmp_ne (pc := 209) (tgt := 216) hx hb dX12_alike_209 (by decide) (fun c23 => ?_) (fun c23 => ?_)
        · have hf := g_neg hf c23
          refine lv_iconst (v := 0) hx hb dX12_alike_216 kI_0 ?_
          exact ih.2.2 x5_ x6_ x7_ x8_ s0_ 0 u _ _ _ hf K (lv_sub hl [1, 2, 3, 4, 5, 0] rfl)
        · have hf := g_pos hf c23
          refine lv_iconst (v := 1) hx hb dX12_alike_212 kI_1 ?_
          refine lv_goto (pc := 213) (tgt := 217) hx hb dX12_alike_213 (by decide) ?_
          exact ih.2.2 x5_ x6_ x7_ x8_ s0_ 1 u _ _ _ hf K (lv_sub hl [1, 2, 3, 4, 5, 0] rfl)
      · have hf := g_neg hf c20
        refine lv_aload_n hx hb dX12_alike_140 rfl (lv_at hl 1 rfl) ?_
        refine ok_ref F K fX12_43 dX12_alike_141 ?_
        refine lv_iload hx hb dX12_alike_144 (lv_at hl 2 rfl) ?_
        obtain ⟨v24, hv24, hf⟩ := g_bd hf
        refine ok_iald F K t111 hv24 dX12_alike_146 ?_
        refine lv_if_ge (pc := 147) (tgt := 191) hx hb dX12_alike_147 (by decide) (fun c25 => ?_) (fun c25 => ?_)
        · have hf := g_pos hf c25
          refine lv_iconst (v := 0) hx hb dX12_alike_191 kI_0 ?_
          refine lv_goto (pc := 192) (tgt := 217) hx hb dX12_alike_192 (by decide) ?_
          exact ih.2.2 x5_ x6_ x7_ x8_ s0_ 0 u _ _ _ hf K (lv_sub hl [1, 2, 3, 4, 5, 0] rfl)
        · have hf := g_neg hf c25
          refine lv_aload_n hx hb dX12_alike_150 rfl (lv_at hl 1 rfl) ?_
          refine ok_ref F K fX12_43 dX12_alike_151 ?_
          refine lv_iload hx hb dX12_alike_154 (lv_at hl 4 rfl) ?_
          obtain ⟨v26, hv26, hf⟩ := g_bd hf
          refine ok_iald F K t111 hv26 dX12_alike_156 ?_
          refine lv_if_ge (pc := 157) (tgt := 191) hx hb dX12_alike_157 (by decide) (fun c27 => ?_) (fun c27 => ?_)
          · have hf := g_pos hf c27
            refine lv_iconst (v := 0) hx hb dX12_alike_191 kI_0 ?_
            refine lv_goto (pc := 192) (tgt := 217) hx hb dX12_alike_192 (by decide) ?_
            exact ih.2.2 x5_ x6_ x7_ x8_ s0_ 0 u _ _ _ hf K (lv_sub hl [1, 2, 3, 4, 5, 0] rfl)
          · have hf := g_neg hf c27
            refine lv_iload hx hb dX12_alike_160 (lv_at hl 3 rfl) ?_
            refine lv_iconst (v := 1) hx hb dX12_alike_162 kI_1 ?_
            refine lv_isub hx hb dX12_alike_163 ?_
            refine lv_aload_n hx hb dX12_alike_164 rfl (lv_at hl 1 rfl) ?_
            refine ok_ref F K fX12_43 dX12_alike_165 ?_
            refine lv_iload hx hb dX12_alike_168 (lv_at hl 2 rfl) ?_
            obtain ⟨v28, hv28, hf⟩ := g_bd hf
            refine ok_iald F K t111 hv28 dX12_alike_170 ?_
            refine lv_isub hx hb dX12_alike_171 ?_
            refine lv_iload hx hb dX12_alike_172 (lv_at hl 5 rfl) ?_
            refine lv_iconst (v := 1) hx hb dX12_alike_174 kI_1 ?_
            refine lv_isub hx hb dX12_alike_175 ?_
            refine lv_aload_n hx hb dX12_alike_176 rfl (lv_at hl 1 rfl) ?_
            refine ok_ref F K fX12_43 dX12_alike_177 ?_
            refine lv_iload hx hb dX12_alike_180 (lv_at hl 4 rfl) ?_
            obtain ⟨v29, hv29, hf⟩ := g_bd hf
            refine ok_iald F K t111 hv29 dX12_alike_182 ?_
            refine lv_isub hx hb dX12_alike_183 ?_
            refine lv_icmp_ne (pc := 184) (tgt := 191) hx hb dX12_alike_184 (by decide) (fun c30 => ?_) (fun c30 => ?_)
            · have hf := g_neg hf c30
              refine lv_iconst (v := 0) hx hb dX12_alike_191 kI_0 ?_
              refine lv_goto (pc := 192) (tgt := 217) hx hb dX12_alike_192 (by decide) ?_
              exact ih.2.2 x5_ x6_ x7_ x8_ s0_ 0 u _ _ _ hf K (lv_sub hl [1, 2, 3, 4, 5, 0] rfl)
            · have hf := g_pos hf c30
              refine lv_iconst (v := 1) hx hb dX12_alike_187 kI_1 ?_
              refine lv_goto (pc := 188) (tgt := 217) hx hb dX12_alike_188 (by decide) ?_
              exact ih.2.2 x5_ x6_ x7_ x8_ s0_ 1 u _ _ _ hf K (lv_sub hl [1, 2, 3, 4, 5, 0] rfl)
    · intro x5_ x6_ x7_ x8_ x9_ s0_ u H locs ls hf K hl
      have hf : fX12_alike_L0_2  (fX12_alike_L0  n) x5_ x6_ x7_ x8_ x9_ s0_ u = some (r, u') := hf
      unfold fX12_alike_L0_2 at hf
      refine lv_istore (lv' := [(10, .int s0_), (0, .ref (G.1 100)), (5, .int x5_), (6, .int x6_), (7, .int x7_), (8, .int x8_), (9, .int x9_)]) hx hb dX12_alike_217 hl (by decide) rfl (fun ls hl => ?_)
      refine lv_iload hx hb dX12_alike_219 (lv_at hl 0 rfl) ?_
      refine lv_if_ne (pc := 221) (tgt := 226) hx hb dX12_alike_221 (by decide) (fun c31 => ?_) (fun c31 => ?_)
      · have hf := g_neg hf c31
        refine lv_iload hx hb dX12_alike_226 (lv_at hl 6 rfl) ?_
        refine lv_if_ne (pc := 228) (tgt := 243) hx hb dX12_alike_228 (by decide) (fun c32 => ?_) (fun c32 => ?_)
        · have hf := g_neg hf c32
          refine lv_goto (pc := 243) (tgt := 14) hx hb dX12_alike_243 (by decide) ?_
          exact ih.1  u _ _ _ hf K (lv_sub hl [1] rfl)
        · have hf := g_pos hf c32
          refine lv_aload_n hx hb dX12_alike_231 rfl (lv_at hl 1 rfl) ?_
          refine lv_iload hx hb dX12_alike_232 (lv_at hl 2 rfl) ?_
          refine lv_iload hx hb dX12_alike_234 (lv_at hl 3 rfl) ?_
          refine lv_iload hx hb dX12_alike_236 (lv_at hl 4 rfl) ?_
          refine lv_iload hx hb dX12_alike_238 (lv_at hl 5 rfl) ?_
          obtain ⟨u33, hu33, hf⟩ := g_bd hf
          refine ok_callv (rest := []) F K (pX12_argumentsNext G hu33) mX12_argumentsNext oc100 lX12_570 rfl hl.1 rfl ⟨⟨rfl, rfl⟩, Nat.le_of_ble_eq_true rfl, Nat.le_of_ble_eq_true rfl⟩ (Nat.le_of_ble_eq_true rfl) dX12_alike_240 (fun H locs K => ?_)
          refine lv_goto (pc := 243) (tgt := 14) hx hb dX12_alike_243 (by decide) ?_
          exact ih.1  u33 _ _ _ hf K (lv_sub hl [1] rfl)
      · have hf := g_pos hf c31
        refine lv_iconst (v := 0) hx hb dX12_alike_224 kI_0 ?_
        exact ok_retz B K hf (Or.inl rfl) dX12_alike_225
set_option maxRecDepth 100000 in
set_option maxHeartbeats 4000000 in
theorem pX12_alike {l : Launch} (G : Gt) {a0 : Int32} {a1 : Int32} {a2 : Int32} {a3 : Int32} {r : Int32} {u u' : St} (hf : fX12_alike a0 a1 a2 a3 u = some (r, u')) : Ctr 100 77 l yX12_alike cX12_alike 11 (some .boolean) rmX12_alike [.ref (G.1 100), .int a0, .int a1, .int a2, .int a3] G u (some (.int r)) u' := by
  refine Ctr.mk (by decide) (Nat.le_of_ble_eq_true rfl) (fun p e s m below meth c A ls B K hl => ?_)
  have F := B.1
  have hx := F.1
  have hb := F.2.1
  have hl : lv_has ls 11 [(0, .ref (G.1 100)), (1, .int a0), (2, .int a1), (3, .int a2), (4, .int a3)] := hl
  unfold fX12_alike at hf
  refine lv_aload_n hx hb dX12_alike_0 rfl (lv_at hl 0 rfl) ?_
  refine lv_iconst (v := 0) hx hb dX12_alike_1 kI_0 ?_
  refine ok_putI F K qX12_561 dX12_alike_2 (fun u34 H locs eu34 K => ?_)
  have hf := g_lt hf u34 eu34
  refine lv_aload_n hx hb dX12_alike_5 rfl (lv_at hl 0 rfl) ?_
  refine lv_iload_n hx hb dX12_alike_6 rfl (lv_at hl 1 rfl) ?_
  refine lv_iload_n hx hb dX12_alike_7 rfl (lv_at hl 2 rfl) ?_
  refine lv_iload_n hx hb dX12_alike_8 rfl (lv_at hl 3 rfl) ?_
  refine lv_iload hx hb dX12_alike_9 (lv_at hl 4 rfl) ?_
  obtain ⟨u35, hu35, hf⟩ := g_bd hf
  refine ok_callv (rest := []) F K (pX12_argumentsNext G hu35) mX12_argumentsNext oc100 lX12_570 rfl hl.1 rfl ⟨⟨rfl, rfl⟩, Nat.le_of_ble_eq_true rfl, Nat.le_of_ble_eq_true rfl⟩ (Nat.le_of_ble_eq_true rfl) dX12_alike_11 (fun H locs K => ?_)
  exact (pX12_alike_L0  B FU).1  u35 _ _ _ hf K (lv_sub hl [0] rfl)
abbrev rmX12_append : Room := { frames := 0, cells := 0, slots := 0, locals := 0 }
set_option maxRecDepth 100000 in
set_option maxHeartbeats 4000000 in
theorem pX12_append_j33 {p : Program} {l : Launch} {e : Env} {s : State} {m : MethodId} {below : List Frame} {meth : Method} {c : Code} {A : Nat → Prop} {G : Gt} {a0 : Int32} {u' : St} (B : Bd p s m [.ref (G.1 100), .int a0] meth c yX12_append cX12_append 2 none) (u : St) (H : Heap) (locs : List Loc) (ls : Array Slot) (hf : fX12_append_j33  u = some u') (K : Ok 100 77 G A s u H locs) (hl : lv_has ls 2 [(0, .ref (G.1 100))]) : W p l e rmX12_append s m ([.ref (G.1 100), .int a0] : List Value).toArray below meth c H locs 0 0 (MQ below (Qg 100 77 G A none u') ([.ref (G.1 100), .int a0] : List Value).toArray s 0 0 A) (F0 m 33 ls []) := by
  have F := B.1
  have hx := F.1
  have hb := F.2.1
  unfold fX12_append_j33 at hf
  refine lv_aload_n hx hb dX12_append_33 rfl (lv_at hl 0 rfl) ?_
  refine lv_iconst (v := 1) hx hb dX12_append_34 kI_1 ?_
  refine ok_putZ F K qX12_370 (Or.inr rfl) dX12_append_35 (fun u1 H locs eu1 K => ?_)
  have hf := g_lt hf u1 eu1
  exact ok_retv B K hf dX12_append_38
set_option maxRecDepth 100000 in
set_option maxHeartbeats 4000000 in
theorem pX12_append {l : Launch} (G : Gt) {a0 : Int32} {u u' : St} (hf : fX12_append a0 u = some u') : Ctr 100 77 l yX12_append cX12_append 2 none rmX12_append [.ref (G.1 100), .int a0] G u none u' := by
  refine Ctr.mk (by decide) (Nat.le_of_ble_eq_true rfl) (fun p e s m below meth c A ls B K hl => ?_)
  have F := B.1
  have hx := F.1
  have hb := F.2.1
  have hl : lv_has ls 2 [(0, .ref (G.1 100)), (1, .int a0)] := hl
  unfold fX12_append at hf
  refine lv_aload_n hx hb dX12_append_0 rfl (lv_at hl 0 rfl) ?_
  refine ok_int F K fX12_370 dX12_append_1 ?_
  refine lv_if_ne (pc := 4) (tgt := 33) hx hb dX12_append_4 (by decide) (fun c2 => ?_) (fun c2 => ?_)
  · have hf := g_neg hf c2
    exact pX12_append_j33  B  u _ _ _ hf K (lv_sub hl [0] rfl)
  · have hf := g_pos hf c2
    refine lv_aload_n hx hb dX12_append_7 rfl (lv_at hl 0 rfl) ?_
    refine ok_int F K fX12_426 dX12_append_8 ?_
    refine lv_sipush (v := 6000) hx hb dX12_append_11 kS_6000 ?_
    refine lv_icmp_eq (pc := 14) (tgt := 33) hx hb dX12_append_14 (by decide) (fun c3 => ?_) (fun c3 => ?_)
    · have hf := g_pos hf c3
      exact pX12_append_j33  B  u _ _ _ hf K (lv_sub hl [0] rfl)
    · have hf := g_neg hf c3
      refine lv_aload_n hx hb dX12_append_17 rfl (lv_at hl 0 rfl) ?_
      refine ok_ref F K fX12_127 dX12_append_18 ?_
      refine lv_aload_n hx hb dX12_append_21 rfl (lv_at hl 0 rfl) ?_
      refine ok_int F K fX12_423 dX12_append_22 ?_
      refine lv_iconst (v := 1) hx hb dX12_append_25 kI_1 ?_
      refine lv_isub hx hb dX12_append_26 ?_
      obtain ⟨v4, hv4, hf⟩ := g_bd hf
      refine ok_iald F K t139 hv4 dX12_append_27 ?_
      refine lv_bipush (v := 12) hx hb dX12_append_28 kB_12 ?_
      refine lv_icmp_ne (pc := 30) (tgt := 39) hx hb dX12_append_30 (by decide) (fun c5 => ?_) (fun c5 => ?_)
      · have hf := g_neg hf c5
        refine lv_aload_n hx hb dX12_append_39 rfl (lv_at hl 0 rfl) ?_
        refine ok_ref F K fX12_130 dX12_append_40 ?_
        refine lv_aload_n hx hb dX12_append_43 rfl (lv_at hl 0 rfl) ?_
        refine ok_int F K fX12_426 dX12_append_44 ?_
        refine lv_iload_n hx hb dX12_append_47 rfl (lv_at hl 1 rfl) ?_
        obtain ⟨u6, hu6, hf⟩ := g_bd hf
        refine ok_iast F K t140 hu6 dX12_append_48 (fun H locs K => ?_)
        refine lv_aload_n hx hb dX12_append_49 rfl (lv_at hl 0 rfl) ?_
        refine lv_dup hx hb dX12_append_50 rfl ?_
        refine ok_int F K fX12_426 dX12_append_51 ?_
        refine lv_iconst (v := 1) hx hb dX12_append_54 kI_1 ?_
        refine lv_iadd hx hb dX12_append_55 ?_
        refine ok_putI F K qX12_426 dX12_append_56 (fun u7 H locs eu7 K => ?_)
        have hf := g_lt hf u7 eu7
        refine lv_aload_n hx hb dX12_append_59 rfl (lv_at hl 0 rfl) ?_
        refine ok_ref F K fX12_127 dX12_append_60 ?_
        refine lv_aload_n hx hb dX12_append_63 rfl (lv_at hl 0 rfl) ?_
        refine ok_int F K fX12_423 dX12_append_64 ?_
        refine lv_iconst (v := 1) hx hb dX12_append_67 kI_1 ?_
        refine lv_isub hx hb dX12_append_68 ?_
        refine lv_dup2_11 hx hb dX12_append_69 rfl rfl ?_
        obtain ⟨v8, hv8, hf⟩ := g_bd hf
        refine ok_iald F K t139 hv8 dX12_append_70 ?_
        refine lv_iconst (v := 1) hx hb dX12_append_71 kI_1 ?_
        refine lv_iadd hx hb dX12_append_72 ?_
        obtain ⟨u9, hu9, hf⟩ := g_bd hf
        refine ok_iast F K t139 hu9 dX12_append_73 (fun H locs K => ?_)
        exact ok_retv B K hf dX12_append_74
      · have hf := g_pos hf c5
        exact pX12_append_j33  B  u _ _ _ hf K (lv_sub hl [0] rfl)
abbrev rmX12_appendAll : Room := { frames := 1, cells := 0, slots := 0, locals := 21 }
set_option maxRecDepth 100000 in
set_option maxHeartbeats 4000000 in
theorem pX12_appendAll_L0 {p : Program} {l : Launch} {e : Env} {s : State} {m : MethodId} {below : List Frame} {meth : Method} {c : Code} {A : Nat → Prop} {G : Gt} {a0 : Int32} {u' : St} (B : Bd p s m [.ref (G.1 100), .int a0] meth c yX12_appendAll cX12_appendAll 3 none) (n : Nat) : (∀ (x1_ : Int32) (x2_ : Int32) (u : St) (H : Heap) (locs : List Loc) (ls : Array Slot), fX12_appendAll_L0  n 0 x1_ x2_ u = some u' → Ok 100 77 G A s u H locs → lv_has ls 3 [(0, .ref (G.1 100)), (1, .int x1_), (2, .int x2_)] → W p l e rmX12_appendAll s m ([.ref (G.1 100), .int a0] : List Value).toArray below meth c H locs 0 0 (MQ below (Qg 100 77 G A none u') ([.ref (G.1 100), .int a0] : List Value).toArray s 0 0 A) (F0 m 2 ls [])) := by
  have F := B.1
  have hx := F.1
  have hb := F.2.1
  induction n with
  | zero => exact fun _ _ _ _ _ _ hf => g_no hf
  | succ n ih =>
    refine ?_
    · intro x1_ x2_ u H locs ls hf K hl
      have hf : fX12_appendAll_L0_0  (fX12_appendAll_L0  n) x1_ x2_ u = some u' := hf
      unfold fX12_appendAll_L0_0 at hf
      refine lv_aload_n hx hb dX12_appendAll_2 rfl (lv_at hl 0 rfl) ?_
      refine ok_int F K fX12_370 dX12_appendAll_3 ?_
      refine lv_if_ne (pc := 6) (tgt := 42) hx hb dX12_appendAll_6 (by decide) (fun c1 => ?_) (fun c1 => ?_)
      · have hf := g_neg hf c1
        exact ok_retv B K hf dX12_appendAll_42
      · have hf := g_pos hf c1
        refine lv_iload_n hx hb dX12_appendAll_9 rfl (lv_at hl 2 rfl) ?_
        refine lv_aload_n hx hb dX12_appendAll_10 rfl (lv_at hl 0 rfl) ?_
        refine ok_ref F K fX12_127 dX12_appendAll_11 ?_
        refine lv_iload_n hx hb dX12_appendAll_14 rfl (lv_at hl 1 rfl) ?_
        obtain ⟨v2, hv2, hf⟩ := g_bd hf
        refine ok_iald F K t139 hv2 dX12_appendAll_15 ?_
        refine lv_icmp_ge (pc := 16) (tgt := 42) hx hb dX12_appendAll_16 (by decide) (fun c3 => ?_) (fun c3 => ?_)
        · have hf := g_pos hf c3
          exact ok_retv B K hf dX12_appendAll_42
        · have hf := g_neg hf c3
          refine lv_aload_n hx hb dX12_appendAll_19 rfl (lv_at hl 0 rfl) ?_
          refine lv_aload_n hx hb dX12_appendAll_20 rfl (lv_at hl 0 rfl) ?_
          refine ok_ref F K fX12_130 dX12_appendAll_21 ?_
          refine lv_aload_n hx hb dX12_appendAll_24 rfl (lv_at hl 0 rfl) ?_
          refine ok_ref F K fX12_124 dX12_appendAll_25 ?_
          refine lv_iload_n hx hb dX12_appendAll_28 rfl (lv_at hl 1 rfl) ?_
          obtain ⟨v4, hv4, hf⟩ := g_bd hf
          refine ok_iald F K t138 hv4 dX12_appendAll_29 ?_
          refine lv_iload_n hx hb dX12_appendAll_30 rfl (lv_at hl 2 rfl) ?_
          refine lv_iadd hx hb dX12_appendAll_31 ?_
          obtain ⟨v5, hv5, hf⟩ := g_bd hf
          refine ok_iald F K t140 hv5 dX12_appendAll_32 ?_
          obtain ⟨u6, hu6, hf⟩ := g_bd hf
          refine ok_callv (rest := []) F K (pX12_append G hu6) mX12_append oc100 lX12_429 rfl hl.1 rfl ⟨⟨rfl, rfl⟩, Nat.le_of_ble_eq_true rfl, Nat.le_of_ble_eq_true rfl⟩ (Nat.le_of_ble_eq_true rfl) dX12_appendAll_33 (fun H locs K => ?_)
          obtain ⟨x7, ex7⟩ : ∃ y : Int32, y = x2_ + 1 := ⟨_, rfl⟩
          have hf := g_lt hf x7 ex7
          refine lv_iinc (v := x7) (lv' := [(2, .int x7), (0, .ref (G.1 100)), (1, .int x1_)]) hx hb dX12_appendAll_36 hl (k := 2) rfl (by rw [kI_1, ex7]) (by decide) rfl (fun ls hl => ?_)
          refine lv_goto (pc := 39) (tgt := 2) hx hb dX12_appendAll_39 (by decide) ?_
          exact ih x1_ x7 u6 _ _ _ hf K (lv_sub hl [1, 2, 0] rfl)
set_option maxRecDepth 100000 in
set_option maxHeartbeats 4000000 in
theorem pX12_appendAll {l : Launch} (G : Gt) {a0 : Int32} {u u' : St} (hf : fX12_appendAll a0 u = some u') : Ctr 100 77 l yX12_appendAll cX12_appendAll 3 none rmX12_appendAll [.ref (G.1 100), .int a0] G u none u' := by
  refine Ctr.mk (by decide) (Nat.le_of_ble_eq_true rfl) (fun p e s m below meth c A ls B K hl => ?_)
  have F := B.1
  have hx := F.1
  have hb := F.2.1
  have hl : lv_has ls 3 [(0, .ref (G.1 100)), (1, .int a0)] := hl
  unfold fX12_appendAll at hf
  refine lv_iconst (v := 0) hx hb dX12_appendAll_0 kI_0 ?_
  refine lv_topi (fun x8 ex8 => ?_)
  have hf := g_lt hf x8 ex8
  refine lv_istore_n (lv' := [(2, .int x8), (0, .ref (G.1 100)), (1, .int a0)]) hx hb dX12_appendAll_1 rfl hl (by decide) rfl (fun ls hl => ?_)
  exact (pX12_appendAll_L0  B FU) a0 x8 u _ _ _ hf K (lv_sub hl [1, 2, 0] rfl)
abbrev rmX12_arityOf : Room := { frames := 0, cells := 0, slots := 0, locals := 0 }
set_option maxRecDepth 100000 in
set_option maxHeartbeats 4000000 in
theorem pX12_arityOf {l : Launch} (G : Gt) {a0 : Int32} {r : Int32} {u u' : St} (hf : fX12_arityOf a0 u = some (r, u')) : Ctr 100 77 l yX12_arityOf cX12_arityOf 2 (some .int) rmX12_arityOf [.ref (G.1 100), .int a0] G u (some (.int r)) u' := by
  refine Ctr.mk (by decide) (Nat.le_of_ble_eq_true rfl) (fun p e s m below meth c A ls B K hl => ?_)
  have F := B.1
  have hx := F.1
  have hb := F.2.1
  have hl : lv_has ls 2 [(0, .ref (G.1 100)), (1, .int a0)] := hl
  unfold fX12_arityOf at hf
  refine lv_iload_n hx hb dX12_arityOf_0 rfl (lv_at hl 1 rfl) ?_
  refine lv_if_ge (pc := 1) (tgt := 8) hx hb dX12_arityOf_1 (by decide) (fun c1 => ?_) (fun c1 => ?_)
  · have hf := g_pos hf c1
    refine lv_iload_n hx hb dX12_arityOf_8 rfl (lv_at hl 1 rfl) ?_
    refine lv_sipush (v := 1000) hx hb dX12_arityOf_9 kS_1000 ?_
    refine lv_icmp_lt (pc := 12) (tgt := 33) hx hb dX12_arityOf_12 (by decide) (fun c2 => ?_) (fun c2 => ?_)
    · have hf := g_pos hf c2
      refine lv_aload_n hx hb dX12_arityOf_33 rfl (lv_at hl 0 rfl) ?_
      refine ok_ref F K fX12_17 dX12_arityOf_34 ?_
      refine lv_iload_n hx hb dX12_arityOf_37 rfl (lv_at hl 1 rfl) ?_
      obtain ⟨v3, hv3, hf⟩ := g_bd hf
      refine ok_iald F K t103 hv3 dX12_arityOf_38 ?_
      exact ok_reti B K hf dX12_arityOf_39
    · have hf := g_neg hf c2
      refine lv_aload_n hx hb dX12_arityOf_15 rfl (lv_at hl 0 rfl) ?_
      refine ok_ref F K fX12_25 dX12_arityOf_16 ?_
      refine lv_iload_n hx hb dX12_arityOf_19 rfl (lv_at hl 1 rfl) ?_
      refine lv_sipush (v := 1000) hx hb dX12_arityOf_20 kS_1000 ?_
      refine lv_isub hx hb dX12_arityOf_23 ?_
      refine lv_aload_n hx hb dX12_arityOf_24 rfl (lv_at hl 0 rfl) ?_
      refine ok_int F K fX12_391 dX12_arityOf_25 ?_
      refine lv_isub hx hb dX12_arityOf_28 ?_
      obtain ⟨v4, hv4, hf⟩ := g_bd hf
      refine ok_iald F K t105 hv4 dX12_arityOf_29 ?_
      refine lv_goto (pc := 30) (tgt := 39) hx hb dX12_arityOf_30 (by decide) ?_
      exact ok_reti B K hf dX12_arityOf_39
  · have hf := g_neg hf c1
    refine lv_iconst (v := 0) hx hb dX12_arityOf_4 kI_0 ?_
    refine lv_goto (pc := 5) (tgt := 39) hx hb dX12_arityOf_5 (by decide) ?_
    exact ok_reti B K hf dX12_arityOf_39
abbrev rmX12_push : Room := { frames := 0, cells := 0, slots := 0, locals := 0 }
set_option maxRecDepth 100000 in
set_option maxHeartbeats 4000000 in
theorem pX12_push {l : Launch} (G : Gt) {a0 : Int32} {a1 : Int32} {u u' : St} (hf : fX12_push a0 a1 u = some u') : Ctr 100 77 l yX12_push cX12_push 3 none rmX12_push [.ref (G.1 100), .int a0, .int a1] G u none u' := by
  refine Ctr.mk (by decide) (Nat.le_of_ble_eq_true rfl) (fun p e s m below meth c A ls B K hl => ?_)
  have F := B.1
  have hx := F.1
  have hb := F.2.1
  have hl : lv_has ls 3 [(0, .ref (G.1 100)), (1, .int a0), (2, .int a1)] := hl
  unfold fX12_push at hf
  refine lv_aload_n hx hb dX12_push_0 rfl (lv_at hl 0 rfl) ?_
  refine ok_ref F K fX12_70 dX12_push_1 ?_
  refine lv_aload_n hx hb dX12_push_4 rfl (lv_at hl 0 rfl) ?_
  refine ok_int F K fX12_301 dX12_push_5 ?_
  refine lv_iload_n hx hb dX12_push_8 rfl (lv_at hl 1 rfl) ?_
  obtain ⟨u1, hu1, hf⟩ := g_bd hf
  refine ok_iast F K t120 hu1 dX12_push_9 (fun H locs K => ?_)
  refine lv_aload_n hx hb dX12_push_10 rfl (lv_at hl 0 rfl) ?_
  refine ok_ref F K fX12_73 dX12_push_11 ?_
  refine lv_aload_n hx hb dX12_push_14 rfl (lv_at hl 0 rfl) ?_
  refine ok_int F K fX12_301 dX12_push_15 ?_
  refine lv_iload_n hx hb dX12_push_18 rfl (lv_at hl 2 rfl) ?_
  obtain ⟨u2, hu2, hf⟩ := g_bd hf
  refine ok_iast F K t121 hu2 dX12_push_19 (fun H locs K => ?_)
  refine lv_aload_n hx hb dX12_push_20 rfl (lv_at hl 0 rfl) ?_
  refine lv_dup hx hb dX12_push_21 rfl ?_
  refine ok_int F K fX12_301 dX12_push_22 ?_
  refine lv_iconst (v := 1) hx hb dX12_push_25 kI_1 ?_
  refine lv_iadd hx hb dX12_push_26 ?_
  refine ok_putI F K qX12_301 dX12_push_27 (fun u3 H locs eu3 K => ?_)
  have hf := g_lt hf u3 eu3
  exact ok_retv B K hf dX12_push_30
abbrev rmX12_bare : Room := { frames := 1, cells := 0, slots := 0, locals := 22 }
set_option maxRecDepth 100000 in
set_option maxHeartbeats 4000000 in
theorem pX12_bare {l : Launch} (G : Gt) {a0 : Int32} {a1 : Int32} {u u' : St} (hf : fX12_bare a0 a1 u = some u') : Ctr 100 77 l yX12_bare cX12_bare 3 none rmX12_bare [.ref (G.1 100), .int a0, .int a1] G u none u' := by
  refine Ctr.mk (by decide) (Nat.le_of_ble_eq_true rfl) (fun p e s m below meth c A ls B K hl => ?_)
  have F := B.1
  have hx := F.1
  have hb := F.2.1
  have hl : lv_has ls 3 [(0, .ref (G.1 100)), (1, .int a0), (2, .int a1)] := hl
  unfold fX12_bare at hf
  refine lv_aload_n hx hb dX12_bare_0 rfl (lv_at hl 0 rfl) ?_
  refine lv_iload_n hx hb dX12_bare_1 rfl (lv_at hl 2 rfl) ?_
  refine lv_if_eq (pc := 2) (tgt := 10) hx hb dX12_bare_2 (by decide) (fun c1 => ?_) (fun c1 => ?_)
  · have hf := g_pos hf c1
    refine lv_bipush (v := 20) hx hb dX12_bare_10 kB_20 ?_
    refine lv_iload_n hx hb dX12_bare_12 rfl (lv_at hl 1 rfl) ?_
    obtain ⟨u2, hu2, hf⟩ := g_bd hf
    refine ok_callv (rest := []) F K (pX12_push G hu2) mX12_push oc100 lX12_318 rfl hl.1 rfl ⟨⟨rfl, rfl⟩, Nat.le_of_ble_eq_true rfl, Nat.le_of_ble_eq_true rfl⟩ (Nat.le_of_ble_eq_true rfl) dX12_bare_13 (fun H locs K => ?_)
    exact ok_retv B K hf dX12_bare_16
  · have hf := g_neg hf c1
    refine lv_bipush (v := 21) hx hb dX12_bare_5 kB_21 ?_
    refine lv_goto (pc := 7) (tgt := 12) hx hb dX12_bare_7 (by decide) ?_
    refine lv_iload_n hx hb dX12_bare_12 rfl (lv_at hl 1 rfl) ?_
    obtain ⟨u3, hu3, hf⟩ := g_bd hf
    refine ok_callv (rest := []) F K (pX12_push G hu3) mX12_push oc100 lX12_318 rfl hl.1 rfl ⟨⟨rfl, rfl⟩, Nat.le_of_ble_eq_true rfl, Nat.le_of_ble_eq_true rfl⟩ (Nat.le_of_ble_eq_true rfl) dX12_bare_13 (fun H locs K => ?_)
    exact ok_retv B K hf dX12_bare_16
abbrev rmX12_freeOf : Room := { frames := 0, cells := 0, slots := 0, locals := 0 }
set_option maxRecDepth 100000 in
set_option maxHeartbeats 4000000 in
theorem pX12_freeOf_L0 {p : Program} {l : Launch} {e : Env} {s : State} {m : MethodId} {below : List Frame} {meth : Method} {c : Code} {A : Nat → Prop} {G : Gt} {a0 : Int32} {u' : St} (B : Bd p s m [.ref (G.1 100), .int a0] meth c yX12_freeOf cX12_freeOf 5 none) (n : Nat) : (∀ (x1_ : Int32) (x2_ : Int32) (u : St) (H : Heap) (locs : List Loc) (ls : Array Slot), fX12_freeOf_L0  n 0 x1_ x2_ 0 0 u = some u' → Ok 100 77 G A s u H locs → lv_has ls 5 [(0, .ref (G.1 100)), (1, .int x1_), (2, .int x2_)] → W p l e rmX12_freeOf s m ([.ref (G.1 100), .int a0] : List Value).toArray below meth c H locs 0 0 (MQ below (Qg 100 77 G A none u') ([.ref (G.1 100), .int a0] : List Value).toArray s 0 0 A) (F0 m 7 ls [])) ∧ (∀ (x1_ : Int32) (x2_ : Int32) (x3_ : Int32) (x4_ : Int32) (u : St) (H : Heap) (locs : List Loc) (ls : Array Slot), fX12_freeOf_L0  n 1 x1_ x2_ x3_ x4_ u = some u' → Ok 100 77 G A s u H locs → lv_has ls 5 [(0, .ref (G.1 100)), (1, .int x1_), (2, .int x2_), (3, .int x3_), (4, .int x4_)] → W p l e rmX12_freeOf s m ([.ref (G.1 100), .int a0] : List Value).toArray below meth c H locs 0 0 (MQ below (Qg 100 77 G A none u') ([.ref (G.1 100), .int a0] : List Value).toArray s 0 0 A) (F0 m 34 ls [])) ∧ (∀ (x1_ : Int32) (x2_ : Int32) (x3_ : Int32) (x4_ : Int32) (u : St) (H : Heap) (locs : List Loc) (ls : Array Slot), fX12_freeOf_L0  n 2 x1_ x2_ x3_ x4_ u = some u' → Ok 100 77 G A s u H locs → lv_has ls 5 [(0, .ref (G.1 100)), (1, .int x1_), (2, .int x2_), (3, .int x3_), (4, .int x4_)] → W p l e rmX12_freeOf s m ([.ref (G.1 100), .int a0] : List Value).toArray below meth c H locs 0 0 (MQ below (Qg 100 77 G A none u') ([.ref (G.1 100), .int a0] : List Value).toArray s 0 0 A) (F0 m 80 ls [])) := by
  have F := B.1
  have hx := F.1
  have hb := F.2.1
  induction n with
  | zero => exact ⟨fun _ _ _ _ _ _ hf => g_no hf, fun _ _ _ _ _ _ _ _ hf => g_no hf, fun _ _ _ _ _ _ _ _ hf => g_no hf⟩
  | succ n ih =>
    refine ⟨?_, ?_, ?_⟩
    · intro x1_ x2_ u H locs ls hf K hl
      have hf : fX12_freeOf_L0_0  (fX12_freeOf_L0  n) x1_ x2_ u = some u' := hf
      unfold fX12_freeOf_L0_0 at hf
      refine lv_iload_n hx hb dX12_freeOf_7 rfl (lv_at hl 2 rfl) ?_
      refine lv_aload_n hx hb dX12_freeOf_8 rfl (lv_at hl 0 rfl) ?_
      refine ok_ref F K fX12_58 dX12_freeOf_9 ?_
      refine lv_iload_n hx hb dX12_freeOf_12 rfl (lv_at hl 1 rfl) ?_
      obtain ⟨v1, hv1, hf⟩ := g_bd hf
      refine ok_iald F K t116 hv1 dX12_freeOf_13 ?_
      refine lv_icmp_ge (pc := 14) (tgt := 160) hx hb dX12_freeOf_14 (by decide) (fun c2 => ?_) (fun c2 => ?_)
      · have hf := g_pos hf c2
        exact ok_retv B K hf dX12_freeOf_160
      · have hf := g_neg hf c2
        refine lv_aload_n hx hb dX12_freeOf_17 rfl (lv_at hl 0 rfl) ?_
        refine ok_ref F K fX12_64 dX12_freeOf_18 ?_
        refine lv_iload_n hx hb dX12_freeOf_21 rfl (lv_at hl 2 rfl) ?_
        obtain ⟨v3, hv3, hf⟩ := g_bd hf
        refine ok_iald F K t118 hv3 dX12_freeOf_22 ?_
        refine lv_if_lt (pc := 23) (tgt := 29) hx hb dX12_freeOf_23 (by decide) (fun c4 => ?_) (fun c4 => ?_)
        · have hf := g_pos hf c4
          refine lv_iconst (v := 0) hx hb dX12_freeOf_29 kI_0 ?_
          refine lv_topi (fun x5 ex5 => ?_)
          have hf := g_lt hf x5 ex5
          refine lv_istore_n (lv' := [(3, .int x5), (0, .ref (G.1 100)), (1, .int x1_), (2, .int x2_)]) hx hb dX12_freeOf_30 rfl hl (by decide) rfl (fun ls hl => ?_)
          refine lv_iconst (v := 0) hx hb dX12_freeOf_31 kI_0 ?_
          refine lv_topi (fun x6 ex6 => ?_)
          have hf := g_lt hf x6 ex6
          refine lv_istore (lv' := [(4, .int x6), (3, .int x5), (0, .ref (G.1 100)), (1, .int x1_), (2, .int x2_)]) hx hb dX12_freeOf_32 hl (by decide) rfl (fun ls hl => ?_)
          exact ih.2.1 x1_ x2_ x5 x6 u _ _ _ hf K (lv_sub hl [2, 3, 4, 1, 0] rfl)
        · have hf := g_neg hf c4
          refine lv_goto (pc := 26) (tgt := 154) hx hb dX12_freeOf_26 (by decide) ?_
          obtain ⟨x7, ex7⟩ : ∃ y : Int32, y = x2_ + 1 := ⟨_, rfl⟩
          have hf := g_lt hf x7 ex7
          refine lv_iinc (v := x7) (lv' := [(2, .int x7), (0, .ref (G.1 100)), (1, .int x1_)]) hx hb dX12_freeOf_154 hl (k := 2) rfl (by rw [kI_1, ex7]) (by decide) rfl (fun ls hl => ?_)
          refine lv_goto (pc := 157) (tgt := 7) hx hb dX12_freeOf_157 (by decide) ?_
          exact ih.1 x1_ x7 u _ _ _ hf K (lv_sub hl [1, 2, 0] rfl)
    · intro x1_ x2_ x3_ x4_ u H locs ls hf K hl
      have hf : fX12_freeOf_L0_1  (fX12_freeOf_L0  n) x1_ x2_ x3_ x4_ u = some u' := hf
      unfold fX12_freeOf_L0_1 at hf
      refine lv_iload hx hb dX12_freeOf_34 (lv_at hl 4 rfl) ?_
      refine lv_aload_n hx hb dX12_freeOf_36 rfl (lv_at hl 0 rfl) ?_
      refine ok_int F K fX12_373 dX12_freeOf_37 ?_
      refine lv_icmp_ge (pc := 40) (tgt := 77) hx hb dX12_freeOf_40 (by decide) (fun c8 => ?_) (fun c8 => ?_)
      · have hf := g_pos hf c8
        refine lv_iconst (v := 0) hx hb dX12_freeOf_77 kI_0 ?_
        refine lv_topi (fun x9 ex9 => ?_)
        have hf := g_lt hf x9 ex9
        refine lv_istore (lv' := [(4, .int x9), (0, .ref (G.1 100)), (1, .int x1_), (2, .int x2_), (3, .int x3_)]) hx hb dX12_freeOf_78 hl (by decide) rfl (fun ls hl => ?_)
        exact ih.2.2 x1_ x2_ x3_ x9 u _ _ _ hf K (lv_sub hl [1, 2, 3, 4, 0] rfl)
      · have hf := g_neg hf c8
        refine lv_iload_n hx hb dX12_freeOf_43 rfl (lv_at hl 3 rfl) ?_
        refine lv_if_ne (pc := 44) (tgt := 65) hx hb dX12_freeOf_44 (by decide) (fun c10 => ?_) (fun c10 => ?_)
        · have hf := g_neg hf c10
          refine lv_iconst (v := 1) hx hb dX12_freeOf_65 kI_1 ?_
          refine lv_goto (pc := 66) (tgt := 70) hx hb dX12_freeOf_66 (by decide) ?_
          refine lv_topi (fun x11 ex11 => ?_)
          have hf := g_lt hf x11 ex11
          refine lv_istore_n (lv' := [(3, .int x11), (0, .ref (G.1 100)), (1, .int x1_), (2, .int x2_), (4, .int x4_)]) hx hb dX12_freeOf_70 rfl hl (by decide) rfl (fun ls hl => ?_)
          obtain ⟨x12, ex12⟩ : ∃ y : Int32, y = x4_ + 1 := ⟨_, rfl⟩
          have hf := g_lt hf x12 ex12
          refine lv_iinc (v := x12) (lv' := [(4, .int x12), (3, .int x11), (0, .ref (G.1 100)), (1, .int x1_), (2, .int x2_)]) hx hb dX12_freeOf_71 hl (k := 4) rfl (by rw [kI_1, ex12]) (by decide) rfl (fun ls hl => ?_)
          refine lv_goto (pc := 74) (tgt := 34) hx hb dX12_freeOf_74 (by decide) ?_
          exact ih.2.1 x1_ x2_ x11 x12 u _ _ _ hf K (lv_sub hl [2, 3, 4, 1, 0] rfl)
        · have hf := g_pos hf c10
          refine lv_aload_n hx hb dX12_freeOf_47 rfl (lv_at hl 0 rfl) ?_
          refine ok_ref F K fX12_88 dX12_freeOf_48 ?_
          refine lv_iload hx hb dX12_freeOf_51 (lv_at hl 4 rfl) ?_
          obtain ⟨v13, hv13, hf⟩ := g_bd hf
          refine ok_iald F K t126 hv13 dX12_freeOf_53 ?_
          refine lv_iconst (v := (-1)) hx hb dX12_freeOf_54 kI_m1 ?_
          refine lv_aload_n hx hb dX12_freeOf_55 rfl (lv_at hl 0 rfl) ?_
          refine ok_ref F K fX12_64 dX12_freeOf_56 ?_
          refine lv_iload_n hx hb dX12_freeOf_59 rfl (lv_at hl 2 rfl) ?_
          obtain ⟨v14, hv14, hf⟩ := g_bd hf
          refine ok_iald F K t118 hv14 dX12_freeOf_60 ?_
          refine lv_isub hx hb dX12_freeOf_61 ?_
          refine lv_icmp_ne (pc := 62) (tgt := 69) hx hb dX12_freeOf_62 (by decide) (fun c15 => ?_) (fun c15 => ?_)
          · have hf := g_neg hf c15
            refine lv_iconst (v := 0) hx hb dX12_freeOf_69 kI_0 ?_
            refine lv_topi (fun x16 ex16 => ?_)
            have hf := g_lt hf x16 ex16
            refine lv_istore_n (lv' := [(3, .int x16), (0, .ref (G.1 100)), (1, .int x1_), (2, .int x2_), (4, .int x4_)]) hx hb dX12_freeOf_70 rfl hl (by decide) rfl (fun ls hl => ?_)
            obtain ⟨x17, ex17⟩ : ∃ y : Int32, y = x4_ + 1 := ⟨_, rfl⟩
            have hf := g_lt hf x17 ex17
            refine lv_iinc (v := x17) (lv' := [(4, .int x17), (3, .int x16), (0, .ref (G.1 100)), (1, .int x1_), (2, .int x2_)]) hx hb dX12_freeOf_71 hl (k := 4) rfl (by rw [kI_1, ex17]) (by decide) rfl (fun ls hl => ?_)
            refine lv_goto (pc := 74) (tgt := 34) hx hb dX12_freeOf_74 (by decide) ?_
            exact ih.2.1 x1_ x2_ x16 x17 u _ _ _ hf K (lv_sub hl [2, 3, 4, 1, 0] rfl)
          · have hf := g_pos hf c15
            refine lv_iconst (v := 1) hx hb dX12_freeOf_65 kI_1 ?_
            refine lv_goto (pc := 66) (tgt := 70) hx hb dX12_freeOf_66 (by decide) ?_
            refine lv_topi (fun x18 ex18 => ?_)
            have hf := g_lt hf x18 ex18
            refine lv_istore_n (lv' := [(3, .int x18), (0, .ref (G.1 100)), (1, .int x1_), (2, .int x2_), (4, .int x4_)]) hx hb dX12_freeOf_70 rfl hl (by decide) rfl (fun ls hl => ?_)
            obtain ⟨x19, ex19⟩ : ∃ y : Int32, y = x4_ + 1 := ⟨_, rfl⟩
            have hf := g_lt hf x19 ex19
            refine lv_iinc (v := x19) (lv' := [(4, .int x19), (3, .int x18), (0, .ref (G.1 100)), (1, .int x1_), (2, .int x2_)]) hx hb dX12_freeOf_71 hl (k := 4) rfl (by rw [kI_1, ex19]) (by decide) rfl (fun ls hl => ?_)
            refine lv_goto (pc := 74) (tgt := 34) hx hb dX12_freeOf_74 (by decide) ?_
            exact ih.2.1 x1_ x2_ x18 x19 u _ _ _ hf K (lv_sub hl [2, 3, 4, 1, 0] rfl)
    · intro x1_ x2_ x3_ x4_ u H locs ls hf K hl
      have hf : fX12_freeOf_L0_2  (fX12_freeOf_L0  n) x1_ x2_ x3_ x4_ u = some u' := hf
      unfold fX12_freeOf_L0_2 at hf
      refine lv_iload hx hb dX12_freeOf_80 (lv_at hl 4 rfl) ?_
      refine lv_aload_n hx hb dX12_freeOf_82 rfl (lv_at hl 0 rfl) ?_
      refine ok_int F K fX12_457 dX12_freeOf_83 ?_
      refine lv_icmp_ge (pc := 86) (tgt := 123) hx hb dX12_freeOf_86 (by decide) (fun c20 => ?_) (fun c20 => ?_)
      · have hf := g_pos hf c20
        refine lv_iload_n hx hb dX12_freeOf_123 rfl (lv_at hl 3 rfl) ?_
        refine lv_if_ne (pc := 124) (tgt := 154) hx hb dX12_freeOf_124 (by decide) (fun c21 => ?_) (fun c21 => ?_)
        · have hf := g_neg hf c21
          obtain ⟨x22, ex22⟩ : ∃ y : Int32, y = x2_ + 1 := ⟨_, rfl⟩
          have hf := g_lt hf x22 ex22
          refine lv_iinc (v := x22) (lv' := [(2, .int x22), (0, .ref (G.1 100)), (1, .int x1_), (3, .int x3_), (4, .int x4_)]) hx hb dX12_freeOf_154 hl (k := 2) rfl (by rw [kI_1, ex22]) (by decide) rfl (fun ls hl => ?_)
          refine lv_goto (pc := 157) (tgt := 7) hx hb dX12_freeOf_157 (by decide) ?_
          exact ih.1 x1_ x22 u _ _ _ hf K (lv_sub hl [1, 2, 0] rfl)
        · have hf := g_pos hf c21
          refine lv_aload_n hx hb dX12_freeOf_127 rfl (lv_at hl 0 rfl) ?_
          refine ok_ref F K fX12_139 dX12_freeOf_128 ?_
          refine lv_aload_n hx hb dX12_freeOf_131 rfl (lv_at hl 0 rfl) ?_
          refine ok_int F K fX12_457 dX12_freeOf_132 ?_
          refine lv_iconst (v := (-1)) hx hb dX12_freeOf_135 kI_m1 ?_
          refine lv_aload_n hx hb dX12_freeOf_136 rfl (lv_at hl 0 rfl) ?_
          refine ok_ref F K fX12_64 dX12_freeOf_137 ?_
          refine lv_iload_n hx hb dX12_freeOf_140 rfl (lv_at hl 2 rfl) ?_
          obtain ⟨v23, hv23, hf⟩ := g_bd hf
          refine ok_iald F K t118 hv23 dX12_freeOf_141 ?_
          refine lv_isub hx hb dX12_freeOf_142 ?_
          obtain ⟨u24, hu24, hf⟩ := g_bd hf
          refine ok_iast F K t143 hu24 dX12_freeOf_143 (fun H locs K => ?_)
          refine lv_aload_n hx hb dX12_freeOf_144 rfl (lv_at hl 0 rfl) ?_
          refine lv_dup hx hb dX12_freeOf_145 rfl ?_
          refine ok_int F K fX12_457 dX12_freeOf_146 ?_
          refine lv_iconst (v := 1) hx hb dX12_freeOf_149 kI_1 ?_
          refine lv_iadd hx hb dX12_freeOf_150 ?_
          refine ok_putI F K qX12_457 dX12_freeOf_151 (fun u25 H locs eu25 K => ?_)
          have hf := g_lt hf u25 eu25
          obtain ⟨x26, ex26⟩ : ∃ y : Int32, y = x2_ + 1 := ⟨_, rfl⟩
          have hf := g_lt hf x26 ex26
          refine lv_iinc (v := x26) (lv' := [(2, .int x26), (0, .ref (G.1 100)), (1, .int x1_), (3, .int x3_), (4, .int x4_)]) hx hb dX12_freeOf_154 hl (k := 2) rfl (by rw [kI_1, ex26]) (by decide) rfl (fun ls hl => ?_)
          refine lv_goto (pc := 157) (tgt := 7) hx hb dX12_freeOf_157 (by decide) ?_
          exact ih.1 x1_ x26 u25 _ _ _ hf K (lv_sub hl [1, 2, 0] rfl)
      · have hf := g_neg hf c20
        refine lv_iload_n hx hb dX12_freeOf_89 rfl (lv_at hl 3 rfl) ?_
        refine lv_if_ne (pc := 90) (tgt := 111) hx hb dX12_freeOf_90 (by decide) (fun c27 => ?_) (fun c27 => ?_)
        · have hf := g_neg hf c27
          refine lv_iconst (v := 1) hx hb dX12_freeOf_111 kI_1 ?_
          refine lv_goto (pc := 112) (tgt := 116) hx hb dX12_freeOf_112 (by decide) ?_
          refine lv_topi (fun x28 ex28 => ?_)
          have hf := g_lt hf x28 ex28
          refine lv_istore_n (lv' := [(3, .int x28), (0, .ref (G.1 100)), (1, .int x1_), (2, .int x2_), (4, .int x4_)]) hx hb dX12_freeOf_116 rfl hl (by decide) rfl (fun ls hl => ?_)
          obtain ⟨x29, ex29⟩ : ∃ y : Int32, y = x4_ + 1 := ⟨_, rfl⟩
          have hf := g_lt hf x29 ex29
          refine lv_iinc (v := x29) (lv' := [(4, .int x29), (3, .int x28), (0, .ref (G.1 100)), (1, .int x1_), (2, .int x2_)]) hx hb dX12_freeOf_117 hl (k := 4) rfl (by rw [kI_1, ex29]) (by decide) rfl (fun ls hl => ?_)
          refine lv_goto (pc := 120) (tgt := 80) hx hb dX12_freeOf_120 (by decide) ?_
          exact ih.2.2 x1_ x2_ x28 x29 u _ _ _ hf K (lv_sub hl [2, 3, 4, 1, 0] rfl)
        · have hf := g_pos hf c27
          refine lv_aload_n hx hb dX12_freeOf_93 rfl (lv_at hl 0 rfl) ?_
          refine ok_ref F K fX12_139 dX12_freeOf_94 ?_
          refine lv_iload hx hb dX12_freeOf_97 (lv_at hl 4 rfl) ?_
          obtain ⟨v30, hv30, hf⟩ := g_bd hf
          refine ok_iald F K t143 hv30 dX12_freeOf_99 ?_
          refine lv_iconst (v := (-1)) hx hb dX12_freeOf_100 kI_m1 ?_
          refine lv_aload_n hx hb dX12_freeOf_101 rfl (lv_at hl 0 rfl) ?_
          refine ok_ref F K fX12_64 dX12_freeOf_102 ?_
          refine lv_iload_n hx hb dX12_freeOf_105 rfl (lv_at hl 2 rfl) ?_
          obtain ⟨v31, hv31, hf⟩ := g_bd hf
          refine ok_iald F K t118 hv31 dX12_freeOf_106 ?_
          refine lv_isub hx hb dX12_freeOf_107 ?_
          refine lv_icmp_ne (pc := 108) (tgt := 115) hx hb dX12_freeOf_108 (by decide) (fun c32 => ?_) (fun c32 => ?_)
          · have hf := g_neg hf c32
            refine lv_iconst (v := 0) hx hb dX12_freeOf_115 kI_0 ?_
            refine lv_topi (fun x33 ex33 => ?_)
            have hf := g_lt hf x33 ex33
            refine lv_istore_n (lv' := [(3, .int x33), (0, .ref (G.1 100)), (1, .int x1_), (2, .int x2_), (4, .int x4_)]) hx hb dX12_freeOf_116 rfl hl (by decide) rfl (fun ls hl => ?_)
            obtain ⟨x34, ex34⟩ : ∃ y : Int32, y = x4_ + 1 := ⟨_, rfl⟩
            have hf := g_lt hf x34 ex34
            refine lv_iinc (v := x34) (lv' := [(4, .int x34), (3, .int x33), (0, .ref (G.1 100)), (1, .int x1_), (2, .int x2_)]) hx hb dX12_freeOf_117 hl (k := 4) rfl (by rw [kI_1, ex34]) (by decide) rfl (fun ls hl => ?_)
            refine lv_goto (pc := 120) (tgt := 80) hx hb dX12_freeOf_120 (by decide) ?_
            exact ih.2.2 x1_ x2_ x33 x34 u _ _ _ hf K (lv_sub hl [2, 3, 4, 1, 0] rfl)
          · have hf := g_pos hf c32
            refine lv_iconst (v := 1) hx hb dX12_freeOf_111 kI_1 ?_
            refine lv_goto (pc := 112) (tgt := 116) hx hb dX12_freeOf_112 (by decide) ?_
            refine lv_topi (fun x35 ex35 => ?_)
            have hf := g_lt hf x35 ex35
            refine lv_istore_n (lv' := [(3, .int x35), (0, .ref (G.1 100)), (1, .int x1_), (2, .int x2_), (4, .int x4_)]) hx hb dX12_freeOf_116 rfl hl (by decide) rfl (fun ls hl => ?_)
            obtain ⟨x36, ex36⟩ : ∃ y : Int32, y = x4_ + 1 := ⟨_, rfl⟩
            have hf := g_lt hf x36 ex36
            refine lv_iinc (v := x36) (lv' := [(4, .int x36), (3, .int x35), (0, .ref (G.1 100)), (1, .int x1_), (2, .int x2_)]) hx hb dX12_freeOf_117 hl (k := 4) rfl (by rw [kI_1, ex36]) (by decide) rfl (fun ls hl => ?_)
            refine lv_goto (pc := 120) (tgt := 80) hx hb dX12_freeOf_120 (by decide) ?_
            exact ih.2.2 x1_ x2_ x35 x36 u _ _ _ hf K (lv_sub hl [2, 3, 4, 1, 0] rfl)
set_option maxRecDepth 100000 in
set_option maxHeartbeats 4000000 in
theorem pX12_freeOf {l : Launch} (G : Gt) {a0 : Int32} {u u' : St} (hf : fX12_freeOf a0 u = some u') : Ctr 100 77 l yX12_freeOf cX12_freeOf 5 none rmX12_freeOf [.ref (G.1 100), .int a0] G u none u' := by
  refine Ctr.mk (by decide) (Nat.le_of_ble_eq_true rfl) (fun p e s m below meth c A ls B K hl => ?_)
  have F := B.1
  have hx := F.1
  have hb := F.2.1
  have hl : lv_has ls 5 [(0, .ref (G.1 100)), (1, .int a0)] := hl
  unfold fX12_freeOf at hf
  refine lv_aload_n hx hb dX12_freeOf_0 rfl (lv_at hl 0 rfl) ?_
  refine ok_ref F K fX12_55 dX12_freeOf_1 ?_
  refine lv_iload_n hx hb dX12_freeOf_4 rfl (lv_at hl 1 rfl) ?_
  obtain ⟨v37, hv37, hf⟩ := g_bd hf
  refine ok_iald F K t115 hv37 dX12_freeOf_5 ?_
  refine lv_istore_n (lv' := [(2, .int v37), (0, .ref (G.1 100)), (1, .int a0)]) hx hb dX12_freeOf_6 rfl hl (by decide) rfl (fun ls hl => ?_)
  exact (pX12_freeOf_L0  B FU).1 a0 v37 u _ _ _ hf K (lv_sub hl [1, 2, 0] rfl)
abbrev rmX12_variableOf : Room := { frames := 0, cells := 0, slots := 0, locals := 0 }
set_option maxRecDepth 100000 in
set_option maxHeartbeats 4000000 in
theorem pX12_variableOf_L0 {p : Program} {l : Launch} {e : Env} {s : State} {m : MethodId} {below : List Frame} {meth : Method} {c : Code} {A : Nat → Prop} {G : Gt} {a0 : Int64} {r : Int32} {u' : St} (B : Bd p s m [.ref (G.1 100), .long a0] meth c yX12_variableOf cX12_variableOf 4 (some .int)) (n : Nat) : (∀ (x1_ : Int64) (x3_ : Int32) (u : St) (H : Heap) (locs : List Loc) (ls : Array Slot), fX12_variableOf_L0  n 0 x1_ x3_ u = some (r, u') → Ok 100 77 G A s u H locs → lv_has ls 4 [(0, .ref (G.1 100)), (1, .long x1_), (3, .int x3_)] → W p l e rmX12_variableOf s m ([.ref (G.1 100), .long a0] : List Value).toArray below meth c H locs 0 0 (MQ below (Qg 100 77 G A (some (.int r)) u') ([.ref (G.1 100), .long a0] : List Value).toArray s 0 0 A) (F0 m 2 ls [])) := by
  have F := B.1
  have hx := F.1
  have hb := F.2.1
  induction n with
  | zero => exact fun _ _ _ _ _ _ hf => g_no hf
  | succ n ih =>
    refine ?_
    · intro x1_ x3_ u H locs ls hf K hl
      have hf : fX12_variableOf_L0_0  (fX12_variableOf_L0  n) x1_ x3_ u = some (r, u') := hf
      unfold fX12_variableOf_L0_0 at hf
      refine lv_iload_n hx hb dX12_variableOf_2 rfl (lv_at hl 2 rfl) ?_
      refine lv_aload_n hx hb dX12_variableOf_3 rfl (lv_at hl 0 rfl) ?_
      refine ok_int F K fX12_347 dX12_variableOf_4 ?_
      refine lv_icmp_ge (pc := 7) (tgt := 29) hx hb dX12_variableOf_7 (by decide) (fun c1 => ?_) (fun c1 => ?_)
      · have hf := g_pos hf c1
        refine lv_aload_n hx hb dX12_variableOf_29 rfl (lv_at hl 0 rfl) ?_
        refine ok_ref F K fX12_67 dX12_variableOf_30 ?_
        refine lv_aload_n hx hb dX12_variableOf_33 rfl (lv_at hl 0 rfl) ?_
        refine ok_int F K fX12_347 dX12_variableOf_34 ?_
        refine lv_lload_n hx hb dX12_variableOf_37 rfl (lv_at hl 1 rfl) ?_
        obtain ⟨u2, hu2, hf⟩ := g_bd hf
        refine ok_last F K t119 hu2 dX12_variableOf_38 (fun H locs K => ?_)
        refine lv_aload_n hx hb dX12_variableOf_39 rfl (lv_at hl 0 rfl) ?_
        refine lv_dup hx hb dX12_variableOf_40 rfl ?_
        refine ok_int F K fX12_347 dX12_variableOf_41 ?_
        refine lv_iconst (v := 1) hx hb dX12_variableOf_44 kI_1 ?_
        refine lv_iadd hx hb dX12_variableOf_45 ?_
        refine ok_putI F K qX12_347 dX12_variableOf_46 (fun u3 H locs eu3 K => ?_)
        have hf := g_lt hf u3 eu3
        refine lv_aload_n hx hb dX12_variableOf_49 rfl (lv_at hl 0 rfl) ?_
        refine ok_int F K fX12_347 dX12_variableOf_50 ?_
        refine lv_iconst (v := 1) hx hb dX12_variableOf_53 kI_1 ?_
        refine lv_isub hx hb dX12_variableOf_54 ?_
        exact ok_reti B K hf dX12_variableOf_55
      · have hf := g_neg hf c1
        refine lv_aload_n hx hb dX12_variableOf_10 rfl (lv_at hl 0 rfl) ?_
        refine ok_ref F K fX12_67 dX12_variableOf_11 ?_
        refine lv_iload_n hx hb dX12_variableOf_14 rfl (lv_at hl 2 rfl) ?_
        obtain ⟨v4, hv4, hf⟩ := g_bd hf
        refine ok_lald F K t119 hv4 dX12_variableOf_15 ?_
        refine lv_lload_n hx hb dX12_variableOf_16 rfl (lv_at hl 1 rfl) ?_
        refine W.lcmp hx hb dX12_variableOf_17 ?_
        refine lv_if_ne (pc := 18) (tgt := 23) hx hb dX12_variableOf_18 (by decide) (fun c5 => ?_) (fun c5 => ?_)
        · have hf := g_neg hf c5
          obtain ⟨x6, ex6⟩ : ∃ y : Int32, y = x3_ + 1 := ⟨_, rfl⟩
          have hf := g_lt hf x6 ex6
          refine lv_iinc (v := x6) (lv' := [(3, .int x6), (0, .ref (G.1 100)), (1, .long x1_)]) hx hb dX12_variableOf_23 hl (k := 2) rfl (by rw [kI_1, ex6]) (by decide) rfl (fun ls hl => ?_)
          refine lv_goto (pc := 26) (tgt := 2) hx hb dX12_variableOf_26 (by decide) ?_
          exact ih x1_ x6 u _ _ _ hf K (lv_sub hl [1, 2, 0] rfl)
        · have hf := g_pos hf c5
          refine lv_iload_n hx hb dX12_variableOf_21 rfl (lv_at hl 2 rfl) ?_
          exact ok_reti B K hf dX12_variableOf_22
set_option maxRecDepth 100000 in
set_option maxHeartbeats 4000000 in
theorem pX12_variableOf {l : Launch} (G : Gt) {a0 : Int64} {r : Int32} {u u' : St} (hf : fX12_variableOf a0 u = some (r, u')) : Ctr 100 77 l yX12_variableOf cX12_variableOf 4 (some .int) rmX12_variableOf [.ref (G.1 100), .long a0] G u (some (.int r)) u' := by
  refine Ctr.mk (by decide) (Nat.le_of_ble_eq_true rfl) (fun p e s m below meth c A ls B K hl => ?_)
  have F := B.1
  have hx := F.1
  have hb := F.2.1
  have hl : lv_has ls 4 [(0, .ref (G.1 100)), (1, .long a0)] := hl
  unfold fX12_variableOf at hf
  refine lv_iconst (v := 0) hx hb dX12_variableOf_0 kI_0 ?_
  refine lv_topi (fun x7 ex7 => ?_)
  have hf := g_lt hf x7 ex7
  refine lv_istore_n (lv' := [(3, .int x7), (0, .ref (G.1 100)), (1, .long a0)]) hx hb dX12_variableOf_1 rfl hl (by decide) rfl (fun ls hl => ?_)
  exact (pX12_variableOf_L0  B FU) a0 x7 u _ _ _ hf K (lv_sub hl [1, 2, 0] rfl)
abbrev rmX12_bind : Room := { frames := 0, cells := 0, slots := 0, locals := 0 }
set_option maxRecDepth 100000 in
set_option maxHeartbeats 4000000 in
theorem pX12_bind {l : Launch} (G : Gt) {a0 : Int32} {a1 : Int32} {u u' : St} (hf : fX12_bind a0 a1 u = some u') : Ctr 100 77 l yX12_bind cX12_bind 3 none rmX12_bind [.ref (G.1 100), .int a0, .int a1] G u none u' := by
  refine Ctr.mk (by decide) (Nat.le_of_ble_eq_true rfl) (fun p e s m below meth c A ls B K hl => ?_)
  have F := B.1
  have hx := F.1
  have hb := F.2.1
  have hl : lv_has ls 3 [(0, .ref (G.1 100)), (1, .int a0), (2, .int a1)] := hl
  unfold fX12_bind at hf
  refine lv_aload_n hx hb dX12_bind_0 rfl (lv_at hl 0 rfl) ?_
  refine ok_ref F K fX12_88 dX12_bind_1 ?_
  refine lv_aload_n hx hb dX12_bind_4 rfl (lv_at hl 0 rfl) ?_
  refine ok_int F K fX12_373 dX12_bind_5 ?_
  refine lv_iload_n hx hb dX12_bind_8 rfl (lv_at hl 1 rfl) ?_
  obtain ⟨u1, hu1, hf⟩ := g_bd hf
  refine ok_iast F K t126 hu1 dX12_bind_9 (fun H locs K => ?_)
  refine lv_aload_n hx hb dX12_bind_10 rfl (lv_at hl 0 rfl) ?_
  refine ok_ref F K fX12_91 dX12_bind_11 ?_
  refine lv_aload_n hx hb dX12_bind_14 rfl (lv_at hl 0 rfl) ?_
  refine ok_int F K fX12_373 dX12_bind_15 ?_
  refine lv_iload_n hx hb dX12_bind_18 rfl (lv_at hl 2 rfl) ?_
  obtain ⟨u2, hu2, hf⟩ := g_bd hf
  refine ok_iast F K t127 hu2 dX12_bind_19 (fun H locs K => ?_)
  refine lv_aload_n hx hb dX12_bind_20 rfl (lv_at hl 0 rfl) ?_
  refine lv_dup hx hb dX12_bind_21 rfl ?_
  refine ok_int F K fX12_373 dX12_bind_22 ?_
  refine lv_iconst (v := 1) hx hb dX12_bind_25 kI_1 ?_
  refine lv_iadd hx hb dX12_bind_26 ?_
  refine ok_putI F K qX12_373 dX12_bind_27 (fun u3 H locs eu3 K => ?_)
  have hf := g_lt hf u3 eu3
  exact ok_retv B K hf dX12_bind_30
abbrev rmX12_free : Room := { frames := 1, cells := 0, slots := 0, locals := 24 }
set_option maxRecDepth 100000 in
set_option maxHeartbeats 4000000 in
theorem pX12_free_L0 {p : Program} {l : Launch} {e : Env} {s : State} {m : MethodId} {below : List Frame} {meth : Method} {c : Code} {A : Nat → Prop} {G : Gt} {a0 : Int32} {u' : St} (B : Bd p s m [.ref (G.1 100), .int a0] meth c yX12_free cX12_free 3 none) (n : Nat) : (∀ (u : St) (H : Heap) (locs : List Loc) (ls : Array Slot), fX12_free_L0  n 0 0 u = some u' → Ok 100 77 G A s u H locs → lv_has ls 3 [(0, .ref (G.1 100))] → W p l e rmX12_free s m ([.ref (G.1 100), .int a0] : List Value).toArray below meth c H locs 0 0 (MQ below (Qg 100 77 G A none u') ([.ref (G.1 100), .int a0] : List Value).toArray s 0 0 A) (F0 m 12 ls [])) ∧ (∀ (x2_ : Int32) (u : St) (H : Heap) (locs : List Loc) (ls : Array Slot), fX12_free_L0  n 1 x2_ u = some u' → Ok 100 77 G A s u H locs → lv_has ls 3 [(0, .ref (G.1 100)), (2, .int x2_)] → W p l e rmX12_free s m ([.ref (G.1 100), .int a0] : List Value).toArray below meth c H locs 0 0 (MQ below (Qg 100 77 G A none u') ([.ref (G.1 100), .int a0] : List Value).toArray s 0 0 A) (F0 m 107 ls [])) ∧ (∀ (x2_ : Int32) (u : St) (H : Heap) (locs : List Loc) (ls : Array Slot), fX12_free_L0  n 2 x2_ u = some u' → Ok 100 77 G A s u H locs → lv_has ls 3 [(0, .ref (G.1 100)), (2, .int x2_)] → W p l e rmX12_free s m ([.ref (G.1 100), .int a0] : List Value).toArray below meth c H locs 0 0 (MQ below (Qg 100 77 G A none u') ([.ref (G.1 100), .int a0] : List Value).toArray s 0 0 A) (F0 m 167 ls [])) := by
  have F := B.1
  have hx := F.1
  have hb := F.2.1
  induction n with
  | zero => exact ⟨fun _ _ _ _ hf => g_no hf, fun _ _ _ _ _ hf => g_no hf, fun _ _ _ _ _ hf => g_no hf⟩
  | succ n ih =>
    refine ⟨?_, ?_, ?_⟩
    · intro  u H locs ls hf K hl
      have hf : fX12_free_L0_0  (fX12_free_L0  n)  u = some u' := hf
      unfold fX12_free_L0_0 at hf
      refine lv_aload_n hx hb dX12_free_12 rfl (lv_at hl 0 rfl) ?_
      refine ok_int F K fX12_301 dX12_free_13 ?_
      refine lv_if_le (pc := 16) (tgt := 182) hx hb dX12_free_16 (by decide) (fun c1 => ?_) (fun c1 => ?_)
      · have hf := g_pos hf c1
        exact ok_retv B K hf dX12_free_182
      · have hf := g_neg hf c1
        refine lv_aload_n hx hb dX12_free_19 rfl (lv_at hl 0 rfl) ?_
        refine lv_dup hx hb dX12_free_20 rfl ?_
        refine ok_int F K fX12_301 dX12_free_21 ?_
        refine lv_iconst (v := 1) hx hb dX12_free_24 kI_1 ?_
        refine lv_isub hx hb dX12_free_25 ?_
        refine ok_putI F K qX12_301 dX12_free_26 (fun u2 H locs eu2 K => ?_)
        have hf := g_lt hf u2 eu2
        refine lv_aload_n hx hb dX12_free_29 rfl (lv_at hl 0 rfl) ?_
        refine ok_ref F K fX12_73 dX12_free_30 ?_
        refine lv_aload_n hx hb dX12_free_33 rfl (lv_at hl 0 rfl) ?_
        refine ok_int F K fX12_301 dX12_free_34 ?_
        obtain ⟨v3, hv3, hf⟩ := g_bd hf
        refine ok_iald F K t121 hv3 dX12_free_37 ?_
        refine lv_istore_n (lv' := [(2, .int v3), (0, .ref (G.1 100))]) hx hb dX12_free_38 rfl hl (by decide) rfl (fun ls hl => ?_)
        refine lv_aload_n hx hb dX12_free_39 rfl (lv_at hl 1 rfl) ?_
        refine ok_ref F K fX12_70 dX12_free_40 ?_
        refine lv_aload_n hx hb dX12_free_43 rfl (lv_at hl 1 rfl) ?_
        refine ok_int F K fX12_301 dX12_free_44 ?_
        obtain ⟨v4, hv4, hf⟩ := g_bd hf
        refine ok_iald F K t120 hv4 dX12_free_47 ?_
        refine lv_bipush (v := 24) hx hb dX12_free_48 kB_24 ?_
        refine lv_icmp_ne (pc := 50) (tgt := 66) hx hb dX12_free_50 (by decide) (fun c5 => ?_) (fun c5 => ?_)
        · have hf := g_neg hf c5
          refine lv_aload_n hx hb dX12_free_66 rfl (lv_at hl 1 rfl) ?_
          refine ok_ref F K fX12_52 dX12_free_67 ?_
          refine lv_iload_n hx hb dX12_free_70 rfl (lv_at hl 0 rfl) ?_
          obtain ⟨v6, hv6, hf⟩ := g_bd hf
          refine ok_iald F K t114 hv6 dX12_free_71 ?_
          refine lv_bipush (v := 15) hx hb dX12_free_72 kB_15 ?_
          refine lv_icmp_ne (pc := 74) (tgt := 85) hx hb dX12_free_74 (by decide) (fun c7 => ?_) (fun c7 => ?_)
          · have hf := g_neg hf c7
            refine lv_aload_n hx hb dX12_free_85 rfl (lv_at hl 1 rfl) ?_
            refine ok_ref F K fX12_52 dX12_free_86 ?_
            refine lv_iload_n hx hb dX12_free_89 rfl (lv_at hl 0 rfl) ?_
            obtain ⟨v8, hv8, hf⟩ := g_bd hf
            refine ok_iald F K t114 hv8 dX12_free_90 ?_
            refine lv_bipush (v := 11) hx hb dX12_free_91 kB_11 ?_
            refine lv_icmp_eq (pc := 93) (tgt := 107) hx hb dX12_free_93 (by decide) (fun c9 => ?_) (fun c9 => ?_)
            · have hf := g_pos hf c9
              exact ih.2.1 v3 u2 _ _ _ hf K (lv_sub hl [1, 0] rfl)
            · have hf := g_neg hf c9
              refine lv_aload_n hx hb dX12_free_96 rfl (lv_at hl 1 rfl) ?_
              refine ok_ref F K fX12_52 dX12_free_97 ?_
              refine lv_iload_n hx hb dX12_free_100 rfl (lv_at hl 0 rfl) ?_
              obtain ⟨v10, hv10, hf⟩ := g_bd hf
              refine ok_iald F K t114 hv10 dX12_free_101 ?_
              refine lv_bipush (v := 12) hx hb dX12_free_102 kB_12 ?_
              refine lv_icmp_ne (pc := 104) (tgt := 144) hx hb dX12_free_104 (by decide) (fun c11 => ?_) (fun c11 => ?_)
              · have hf := g_neg hf c11
                refine lv_aload_n hx hb dX12_free_144 rfl (lv_at hl 1 rfl) ?_
                refine ok_ref F K fX12_52 dX12_free_145 ?_
                refine lv_iload_n hx hb dX12_free_148 rfl (lv_at hl 0 rfl) ?_
                obtain ⟨v12, hv12, hf⟩ := g_bd hf
                refine ok_iald F K t114 hv12 dX12_free_149 ?_
                refine lv_bipush (v := 8) hx hb dX12_free_150 kB_8 ?_
                refine lv_icmp_eq (pc := 152) (tgt := 167) hx hb dX12_free_152 (by decide) (fun c13 => ?_) (fun c13 => ?_)
                · have hf := g_pos hf c13
                  exact ih.2.2 v3 u2 _ _ _ hf K (lv_sub hl [1, 0] rfl)
                · have hf := g_neg hf c13
                  refine lv_aload_n hx hb dX12_free_155 rfl (lv_at hl 1 rfl) ?_
                  refine lv_bipush (v := 20) hx hb dX12_free_156 kB_20 ?_
                  refine lv_aload_n hx hb dX12_free_158 rfl (lv_at hl 1 rfl) ?_
                  refine ok_ref F K fX12_58 dX12_free_159 ?_
                  refine lv_iload_n hx hb dX12_free_162 rfl (lv_at hl 0 rfl) ?_
                  obtain ⟨v14, hv14, hf⟩ := g_bd hf
                  refine ok_iald F K t116 hv14 dX12_free_163 ?_
                  obtain ⟨u15, hu15, hf⟩ := g_bd hf
                  refine ok_callv (rest := []) F K (pX12_push G hu15) mX12_push oc100 lX12_318 rfl hl.1 rfl ⟨⟨rfl, rfl⟩, Nat.le_of_ble_eq_true rfl, Nat.le_of_ble_eq_true rfl⟩ (Nat.le_of_ble_eq_true rfl) dX12_free_164 (fun H locs K => ?_)
                  exact ih.2.2 v3 u15 _ _ _ hf K (lv_sub hl [1, 0] rfl)
              · have hf := g_pos hf c11
                exact ih.2.1 v3 u2 _ _ _ hf K (lv_sub hl [1, 0] rfl)
          · have hf := g_pos hf c7
            refine lv_aload_n hx hb dX12_free_77 rfl (lv_at hl 1 rfl) ?_
            refine lv_iload_n hx hb dX12_free_78 rfl (lv_at hl 0 rfl) ?_
            obtain ⟨u16, hu16, hf⟩ := g_bd hf
            refine ok_callv (rest := []) F K (pX12_freeOf G hu16) mX12_freeOf oc100 lX12_460 rfl hl.1 rfl ⟨⟨rfl, rfl⟩, Nat.le_of_ble_eq_true rfl, Nat.le_of_ble_eq_true rfl⟩ (Nat.le_of_ble_eq_true rfl) dX12_free_79 (fun H locs K => ?_)
            refine lv_goto (pc := 82) (tgt := 179) hx hb dX12_free_82 (by decide) ?_
            refine lv_goto (pc := 179) (tgt := 12) hx hb dX12_free_179 (by decide) ?_
            exact ih.1  u16 _ _ _ hf K (lv_sub hl [1] rfl)
        · have hf := g_pos hf c5
          refine lv_aload_n hx hb dX12_free_53 rfl (lv_at hl 1 rfl) ?_
          refine lv_dup hx hb dX12_free_54 rfl ?_
          refine ok_int F K fX12_373 dX12_free_55 ?_
          refine lv_iconst (v := 1) hx hb dX12_free_58 kI_1 ?_
          refine lv_isub hx hb dX12_free_59 ?_
          refine ok_putI F K qX12_373 dX12_free_60 (fun u17 H locs eu17 K => ?_)
          have hf := g_lt hf u17 eu17
          refine lv_goto (pc := 63) (tgt := 179) hx hb dX12_free_63 (by decide) ?_
          refine lv_goto (pc := 179) (tgt := 12) hx hb dX12_free_179 (by decide) ?_
          exact ih.1  u17 _ _ _ hf K (lv_sub hl [1] rfl)
    · intro x2_ u H locs ls hf K hl
      have hf : fX12_free_L0_1  (fX12_free_L0  n) x2_ u = some u' := hf
      unfold fX12_free_L0_1 at hf
      refine lv_aload_n hx hb dX12_free_107 rfl (lv_at hl 0 rfl) ?_
      refine lv_aload_n hx hb dX12_free_108 rfl (lv_at hl 0 rfl) ?_
      refine lv_aload_n hx hb dX12_free_109 rfl (lv_at hl 0 rfl) ?_
      refine ok_ref F K fX12_61 dX12_free_110 ?_
      refine lv_iload_n hx hb dX12_free_113 rfl (lv_at hl 1 rfl) ?_
      obtain ⟨v18, hv18, hf⟩ := g_bd hf
      refine ok_lald F K t117 hv18 dX12_free_114 ?_
      obtain ⟨r20, u19, hu19, hf⟩ := g_b2 hf
      refine ok_calli (rest := [.ref (G.1 100)]) F K (pX12_variableOf G hu19) mX12_variableOf oc100 lX12_353 rfl hl.1 rfl ⟨⟨rfl, rfl⟩, Nat.le_of_ble_eq_true rfl, Nat.le_of_ble_eq_true rfl⟩ (Nat.le_of_ble_eq_true rfl) dX12_free_115 (fun H locs K => ?_)
      refine lv_iconst (v := 0) hx hb dX12_free_118 kI_0 ?_
      obtain ⟨u21, hu21, hf⟩ := g_bd hf
      refine ok_callv (rest := []) F K (pX12_bind G hu21) mX12_bind oc100 lX12_382 rfl hl.1 rfl ⟨⟨rfl, rfl⟩, Nat.le_of_ble_eq_true rfl, Nat.le_of_ble_eq_true rfl⟩ (Nat.le_of_ble_eq_true rfl) dX12_free_119 (fun H locs K => ?_)
      refine lv_aload_n hx hb dX12_free_122 rfl (lv_at hl 0 rfl) ?_
      refine lv_bipush (v := 24) hx hb dX12_free_123 kB_24 ?_
      refine lv_iconst (v := 0) hx hb dX12_free_125 kI_0 ?_
      obtain ⟨u22, hu22, hf⟩ := g_bd hf
      refine ok_callv (rest := []) F K (pX12_push G hu22) mX12_push oc100 lX12_318 rfl hl.1 rfl ⟨⟨rfl, rfl⟩, Nat.le_of_ble_eq_true rfl, Nat.le_of_ble_eq_true rfl⟩ (Nat.le_of_ble_eq_true rfl) dX12_free_126 (fun H locs K => ?_)
      refine lv_aload_n hx hb dX12_free_129 rfl (lv_at hl 0 rfl) ?_
      refine lv_bipush (v := 20) hx hb dX12_free_130 kB_20 ?_
      refine lv_aload_n hx hb dX12_free_132 rfl (lv_at hl 0 rfl) ?_
      refine ok_ref F K fX12_55 dX12_free_133 ?_
      refine lv_iload_n hx hb dX12_free_136 rfl (lv_at hl 1 rfl) ?_
      obtain ⟨v23, hv23, hf⟩ := g_bd hf
      refine ok_iald F K t115 hv23 dX12_free_137 ?_
      obtain ⟨u24, hu24, hf⟩ := g_bd hf
      refine ok_callv (rest := []) F K (pX12_push G hu24) mX12_push oc100 lX12_318 rfl hl.1 rfl ⟨⟨rfl, rfl⟩, Nat.le_of_ble_eq_true rfl, Nat.le_of_ble_eq_true rfl⟩ (Nat.le_of_ble_eq_true rfl) dX12_free_138 (fun H locs K => ?_)
      refine lv_goto (pc := 141) (tgt := 179) hx hb dX12_free_141 (by decide) ?_
      refine lv_goto (pc := 179) (tgt := 12) hx hb dX12_free_179 (by decide) ?_
      exact ih.1  u24 _ _ _ hf K (lv_sub hl [0] rfl)
    · intro x2_ u H locs ls hf K hl
      have hf : fX12_free_L0_2  (fX12_free_L0  n) x2_ u = some u' := hf
      unfold fX12_free_L0_2 at hf
      refine lv_aload_n hx hb dX12_free_167 rfl (lv_at hl 0 rfl) ?_
      refine lv_bipush (v := 20) hx hb dX12_free_168 kB_20 ?_
      refine lv_aload_n hx hb dX12_free_170 rfl (lv_at hl 0 rfl) ?_
      refine ok_ref F K fX12_55 dX12_free_171 ?_
      refine lv_iload_n hx hb dX12_free_174 rfl (lv_at hl 1 rfl) ?_
      obtain ⟨v25, hv25, hf⟩ := g_bd hf
      refine ok_iald F K t115 hv25 dX12_free_175 ?_
      obtain ⟨u26, hu26, hf⟩ := g_bd hf
      refine ok_callv (rest := []) F K (pX12_push G hu26) mX12_push oc100 lX12_318 rfl hl.1 rfl ⟨⟨rfl, rfl⟩, Nat.le_of_ble_eq_true rfl, Nat.le_of_ble_eq_true rfl⟩ (Nat.le_of_ble_eq_true rfl) dX12_free_176 (fun H locs K => ?_)
      refine lv_goto (pc := 179) (tgt := 12) hx hb dX12_free_179 (by decide) ?_
      exact ih.1  u26 _ _ _ hf K (lv_sub hl [0] rfl)
set_option maxRecDepth 100000 in
set_option maxHeartbeats 4000000 in
theorem pX12_free {l : Launch} (G : Gt) {a0 : Int32} {u u' : St} (hf : fX12_free a0 u = some u') : Ctr 100 77 l yX12_free cX12_free 3 none rmX12_free [.ref (G.1 100), .int a0] G u none u' := by
  refine Ctr.mk (by decide) (Nat.le_of_ble_eq_true rfl) (fun p e s m below meth c A ls B K hl => ?_)
  have F := B.1
  have hx := F.1
  have hb := F.2.1
  have hl : lv_has ls 3 [(0, .ref (G.1 100)), (1, .int a0)] := hl
  unfold fX12_free at hf
  refine lv_aload_n hx hb dX12_free_0 rfl (lv_at hl 0 rfl) ?_
  refine lv_iconst (v := 0) hx hb dX12_free_1 kI_0 ?_
  refine ok_putI F K qX12_301 dX12_free_2 (fun u27 H locs eu27 K => ?_)
  have hf := g_lt hf u27 eu27
  refine lv_aload_n hx hb dX12_free_5 rfl (lv_at hl 0 rfl) ?_
  refine lv_bipush (v := 20) hx hb dX12_free_6 kB_20 ?_
  refine lv_iload_n hx hb dX12_free_8 rfl (lv_at hl 1 rfl) ?_
  obtain ⟨u28, hu28, hf⟩ := g_bd hf
  refine ok_callv (rest := []) F K (pX12_push G hu28) mX12_push oc100 lX12_318 rfl hl.1 rfl ⟨⟨rfl, rfl⟩, Nat.le_of_ble_eq_true rfl, Nat.le_of_ble_eq_true rfl⟩ (Nat.le_of_ble_eq_true rfl) dX12_free_9 (fun H locs K => ?_)
  exact (pX12_free_L0  B FU).1  u28 _ _ _ hf K (lv_sub hl [0] rfl)
abbrev rmX12_join : Room := { frames := 1, cells := 0, slots := 0, locals := 22 }
set_option maxRecDepth 100000 in
set_option maxHeartbeats 4000000 in
theorem pX12_join {l : Launch} (G : Gt) {a0 : Int32} {u u' : St} (hf : fX12_join a0 u = some u') : Ctr 100 77 l yX12_join cX12_join 2 none rmX12_join [.ref (G.1 100), .int a0] G u none u' := by
  refine Ctr.mk (by decide) (Nat.le_of_ble_eq_true rfl) (fun p e s m below meth c A ls B K hl => ?_)
  have F := B.1
  have hx := F.1
  have hb := F.2.1
  have hl : lv_has ls 2 [(0, .ref (G.1 100)), (1, .int a0)] := hl
  unfold fX12_join at hf
  refine lv_aload_n hx hb dX12_join_0 rfl (lv_at hl 0 rfl) ?_
  refine lv_iload_n hx hb dX12_join_1 rfl (lv_at hl 1 rfl) ?_
  refine lv_if_eq (pc := 2) (tgt := 10) hx hb dX12_join_2 (by decide) (fun c1 => ?_) (fun c1 => ?_)
  · have hf := g_pos hf c1
    refine lv_bipush (v := 23) hx hb dX12_join_10 kB_23 ?_
    refine lv_iconst (v := 0) hx hb dX12_join_12 kI_0 ?_
    obtain ⟨u2, hu2, hf⟩ := g_bd hf
    refine ok_callv (rest := []) F K (pX12_push G hu2) mX12_push oc100 lX12_318 rfl hl.1 rfl ⟨⟨rfl, rfl⟩, Nat.le_of_ble_eq_true rfl, Nat.le_of_ble_eq_true rfl⟩ (Nat.le_of_ble_eq_true rfl) dX12_join_13 (fun H locs K => ?_)
    exact ok_retv B K hf dX12_join_16
  · have hf := g_neg hf c1
    refine lv_bipush (v := 22) hx hb dX12_join_5 kB_22 ?_
    refine lv_goto (pc := 7) (tgt := 12) hx hb dX12_join_7 (by decide) ?_
    refine lv_iconst (v := 0) hx hb dX12_join_12 kI_0 ?_
    obtain ⟨u3, hu3, hf⟩ := g_bd hf
    refine ok_callv (rest := []) F K (pX12_push G hu3) mX12_push oc100 lX12_318 rfl hl.1 rfl ⟨⟨rfl, rfl⟩, Nat.le_of_ble_eq_true rfl, Nat.le_of_ble_eq_true rfl⟩ (Nat.le_of_ble_eq_true rfl) dX12_join_13 (fun H locs K => ?_)
    exact ok_retv B K hf dX12_join_16
abbrev rmX12_quantified : Room := { frames := 1, cells := 0, slots := 0, locals := 23 }
set_option maxRecDepth 100000 in
set_option maxHeartbeats 4000000 in
theorem pX12_quantified_j215 {p : Program} {l : Launch} {e : Env} {s : State} {m : MethodId} {below : List Frame} {meth : Method} {c : Code} {A : Nat → Prop} {G : Gt} {a0 : Int32} {a1 : Int32} {a2 : Int32} {u' : St} (B : Bd p s m [.ref (G.1 100), .int a0, .int a1, .int a2] meth c yX12_quantified cX12_quantified 6 none) (x1_ : Int32) (x3_ : Int32) (s0_ : Int32) (u : St) (H : Heap) (locs : List Loc) (ls : Array Slot) (hf : fX12_quantified_j215 x1_ x3_ s0_ u = some u') (K : Ok 100 77 G A s u H locs) (hl : lv_has ls 6 [(0, .ref (G.1 100)), (1, .int x1_), (3, .int x3_)]) : W p l e rmX12_quantified s m ([.ref (G.1 100), .int a0, .int a1, .int a2] : List Value).toArray below meth c H locs 0 0 (MQ below (Qg 100 77 G A none u') ([.ref (G.1 100), .int a0, .int a1, .int a2] : List Value).toArray s 0 0 A) (F0 m 215 ls [.int s0_, .ref (G.1 100)]) := by
  have F := B.1
  have hx := F.1
  have hb := F.2.1
  unfold fX12_quantified_j215 at hf
  refine lv_iconst (v := 0) hx hb dX12_quantified_215 kI_0 ?_
  obtain ⟨u1, hu1, hf⟩ := g_bd hf
  refine ok_callv (rest := []) F K (pX12_push G hu1) mX12_push oc100 lX12_318 rfl hl.1 rfl ⟨⟨rfl, rfl⟩, Nat.le_of_ble_eq_true rfl, Nat.le_of_ble_eq_true rfl⟩ (Nat.le_of_ble_eq_true rfl) dX12_quantified_216 (fun H locs K => ?_)
  refine lv_aload_n hx hb dX12_quantified_219 rfl (lv_at hl 0 rfl) ?_
  refine lv_iload_n hx hb dX12_quantified_220 rfl (lv_at hl 2 rfl) ?_
  refine lv_if_eq (pc := 221) (tgt := 229) hx hb dX12_quantified_221 (by decide) (fun c2 => ?_) (fun c2 => ?_)
  · have hf := g_pos hf c2
    refine lv_bipush (v := 20) hx hb dX12_quantified_229 kB_20 ?_
    refine lv_aload_n hx hb dX12_quantified_231 rfl (lv_at hl 0 rfl) ?_
    refine ok_ref F K fX12_55 dX12_quantified_232 ?_
    refine lv_iload_n hx hb dX12_quantified_235 rfl (lv_at hl 1 rfl) ?_
    obtain ⟨v3, hv3, hf⟩ := g_bd hf
    refine ok_iald F K t115 hv3 dX12_quantified_236 ?_
    obtain ⟨u4, hu4, hf⟩ := g_bd hf
    refine ok_callv (rest := []) F K (pX12_push G hu4) mX12_push oc100 lX12_318 rfl hl.1 rfl ⟨⟨rfl, rfl⟩, Nat.le_of_ble_eq_true rfl, Nat.le_of_ble_eq_true rfl⟩ (Nat.le_of_ble_eq_true rfl) dX12_quantified_237 (fun H locs K => ?_)
    exact ok_retv B K hf dX12_quantified_240
  · have hf := g_neg hf c2
    refine lv_bipush (v := 21) hx hb dX12_quantified_224 kB_21 ?_
    refine lv_goto (pc := 226) (tgt := 231) hx hb dX12_quantified_226 (by decide) ?_
    refine lv_aload_n hx hb dX12_quantified_231 rfl (lv_at hl 0 rfl) ?_
    refine ok_ref F K fX12_55 dX12_quantified_232 ?_
    refine lv_iload_n hx hb dX12_quantified_235 rfl (lv_at hl 1 rfl) ?_
    obtain ⟨v5, hv5, hf⟩ := g_bd hf
    refine ok_iald F K t115 hv5 dX12_quantified_236 ?_
    obtain ⟨u6, hu6, hf⟩ := g_bd hf
    refine ok_callv (rest := []) F K (pX12_push G hu6) mX12_push oc100 lX12_318 rfl hl.1 rfl ⟨⟨rfl, rfl⟩, Nat.le_of_ble_eq_true rfl, Nat.le_of_ble_eq_true rfl⟩ (Nat.le_of_ble_eq_true rfl) dX12_quantified_237 (fun H locs K => ?_)
    exact ok_retv B K hf dX12_quantified_240
set_option maxRecDepth 100000 in
set_option maxHeartbeats 4000000 in
theorem pX12_quantified_j203 {p : Program} {l : Launch} {e : Env} {s : State} {m : MethodId} {below : List Frame} {meth : Method} {c : Code} {A : Nat → Prop} {G : Gt} {a0 : Int32} {a1 : Int32} {a2 : Int32} {u' : St} (B : Bd p s m [.ref (G.1 100), .int a0, .int a1, .int a2] meth c yX12_quantified cX12_quantified 6 none) (x1_ : Int32) (x2_ : Int32) (x3_ : Int32) (u : St) (H : Heap) (locs : List Loc) (ls : Array Slot) (hf : fX12_quantified_j203 x1_ x2_ x3_ u = some u') (K : Ok 100 77 G A s u H locs) (hl : lv_has ls 6 [(0, .ref (G.1 100)), (1, .int x1_), (2, .int x2_), (3, .int x3_)]) : W p l e rmX12_quantified s m ([.ref (G.1 100), .int a0, .int a1, .int a2] : List Value).toArray below meth c H locs 0 0 (MQ below (Qg 100 77 G A none u') ([.ref (G.1 100), .int a0, .int a1, .int a2] : List Value).toArray s 0 0 A) (F0 m 203 ls []) := by
  have F := B.1
  have hx := F.1
  have hb := F.2.1
  unfold fX12_quantified_j203 at hf
  refine lv_aload_n hx hb dX12_quantified_203 rfl (lv_at hl 0 rfl) ?_
  refine lv_iload_n hx hb dX12_quantified_204 rfl (lv_at hl 2 rfl) ?_
  refine lv_if_eq (pc := 205) (tgt := 213) hx hb dX12_quantified_205 (by decide) (fun c7 => ?_) (fun c7 => ?_)
  · have hf := g_pos hf c7
    refine lv_bipush (v := 25) hx hb dX12_quantified_213 kB_25 ?_
    exact pX12_quantified_j215  B x1_ x3_ 25 u _ _ _ hf K (lv_sub hl [0, 1, 3] rfl)
  · have hf := g_neg hf c7
    refine lv_bipush (v := 24) hx hb dX12_quantified_208 kB_24 ?_
    refine lv_goto (pc := 210) (tgt := 215) hx hb dX12_quantified_210 (by decide) ?_
    exact pX12_quantified_j215  B x1_ x3_ 24 u _ _ _ hf K (lv_sub hl [0, 1, 3] rfl)
set_option maxRecDepth 100000 in
set_option maxHeartbeats 4000000 in
theorem pX12_quantified_L0 {p : Program} {l : Launch} {e : Env} {s : State} {m : MethodId} {below : List Frame} {meth : Method} {c : Code} {A : Nat → Prop} {G : Gt} {a0 : Int32} {a1 : Int32} {a2 : Int32} {u' : St} (B : Bd p s m [.ref (G.1 100), .int a0, .int a1, .int a2] meth c yX12_quantified cX12_quantified 6 none) (n : Nat) : (∀ (x1_ : Int32) (x2_ : Int32) (x3_ : Int32) (x4_ : Int32) (x5_ : Int32) (u : St) (H : Heap) (locs : List Loc) (ls : Array Slot), fX12_quantified_L0  n 0 x1_ x2_ x3_ x4_ x5_ u = some u' → Ok 100 77 G A s u H locs → lv_has ls 6 [(0, .ref (G.1 100)), (1, .int x1_), (2, .int x2_), (3, .int x3_), (4, .int x4_), (5, .int x5_)] → W p l e rmX12_quantified s m ([.ref (G.1 100), .int a0, .int a1, .int a2] : List Value).toArray below meth c H locs 0 0 (MQ below (Qg 100 77 G A none u') ([.ref (G.1 100), .int a0, .int a1, .int a2] : List Value).toArray s 0 0 A) (F0 m 123 ls [])) := by
  have F := B.1
  have hx := F.1
  have hb := F.2.1
  induction n with
  | zero => exact fun _ _ _ _ _ _ _ _ _ hf => g_no hf
  | succ n ih =>
    refine ?_
    · intro x1_ x2_ x3_ x4_ x5_ u H locs ls hf K hl
      have hf : fX12_quantified_L0_0  (fX12_quantified_L0  n) x1_ x2_ x3_ x4_ x5_ u = some u' := hf
      unfold fX12_quantified_L0_0 at hf
      refine lv_iload hx hb dX12_quantified_123 (lv_at hl 5 rfl) ?_
      refine lv_aload_n hx hb dX12_quantified_125 rfl (lv_at hl 0 rfl) ?_
      refine ok_int F K fX12_385 dX12_quantified_126 ?_
      refine lv_icmp_ge (pc := 129) (tgt := 164) hx hb dX12_quantified_129 (by decide) (fun c8 => ?_) (fun c8 => ?_)
      · have hf := g_pos hf c8
        refine lv_aload_n hx hb dX12_quantified_164 rfl (lv_at hl 0 rfl) ?_
        refine ok_ref F K fX12_25 dX12_quantified_165 ?_
        refine lv_aload_n hx hb dX12_quantified_168 rfl (lv_at hl 0 rfl) ?_
        refine ok_int F K fX12_388 dX12_quantified_169 ?_
        refine lv_aload_n hx hb dX12_quantified_172 rfl (lv_at hl 0 rfl) ?_
        refine ok_int F K fX12_391 dX12_quantified_173 ?_
        refine lv_isub hx hb dX12_quantified_176 ?_
        refine lv_aload_n hx hb dX12_quantified_177 rfl (lv_at hl 0 rfl) ?_
        refine ok_int F K fX12_385 dX12_quantified_178 ?_
        obtain ⟨u9, hu9, hf⟩ := g_bd hf
        refine ok_iast F K t105 hu9 dX12_quantified_181 (fun H locs K => ?_)
        refine lv_aload_n hx hb dX12_quantified_182 rfl (lv_at hl 0 rfl) ?_
        refine lv_dup hx hb dX12_quantified_183 rfl ?_
        refine ok_int F K fX12_388 dX12_quantified_184 ?_
        refine lv_iconst (v := 1) hx hb dX12_quantified_187 kI_1 ?_
        refine lv_iadd hx hb dX12_quantified_188 ?_
        refine ok_putI F K qX12_388 dX12_quantified_189 (fun u10 H locs eu10 K => ?_)
        have hf := g_lt hf u10 eu10
        refine lv_aload_n hx hb dX12_quantified_192 rfl (lv_at hl 0 rfl) ?_
        refine lv_iload hx hb dX12_quantified_193 (lv_at hl 4 rfl) ?_
        refine lv_aload_n hx hb dX12_quantified_195 rfl (lv_at hl 0 rfl) ?_
        refine ok_int F K fX12_388 dX12_quantified_196 ?_
        refine lv_ineg hx hb dX12_quantified_199 ?_
        obtain ⟨u11, hu11, hf⟩ := g_bd hf
        refine ok_callv (rest := []) F K (pX12_bind G hu11) mX12_bind oc100 lX12_382 rfl hl.1 rfl ⟨⟨rfl, rfl⟩, Nat.le_of_ble_eq_true rfl, Nat.le_of_ble_eq_true rfl⟩ (Nat.le_of_ble_eq_true rfl) dX12_quantified_200 (fun H locs K => ?_)
        exact pX12_quantified_j203  B x1_ x2_ x3_ u11 _ _ _ hf K (lv_sub hl [0, 1, 2, 3] rfl)
      · have hf := g_neg hf c8
        refine lv_aload_n hx hb dX12_quantified_132 rfl (lv_at hl 0 rfl) ?_
        refine ok_ref F K fX12_115 dX12_quantified_133 ?_
        refine lv_iconst (v := 5) hx hb dX12_quantified_136 kI_5 ?_
        refine lv_aload_n hx hb dX12_quantified_137 rfl (lv_at hl 0 rfl) ?_
        refine ok_int F K fX12_388 dX12_quantified_138 ?_
        refine lv_aload_n hx hb dX12_quantified_141 rfl (lv_at hl 0 rfl) ?_
        refine ok_int F K fX12_391 dX12_quantified_142 ?_
        refine lv_isub hx hb dX12_quantified_145 ?_
        refine lv_imul hx hb dX12_quantified_146 ?_
        refine lv_iload hx hb dX12_quantified_147 (lv_at hl 5 rfl) ?_
        refine lv_iadd hx hb dX12_quantified_149 ?_
        refine lv_aload_n hx hb dX12_quantified_150 rfl (lv_at hl 0 rfl) ?_
        refine ok_ref F K fX12_97 dX12_quantified_151 ?_
        refine lv_iload hx hb dX12_quantified_154 (lv_at hl 5 rfl) ?_
        obtain ⟨v12, hv12, hf⟩ := g_bd hf
        refine ok_iald F K t129 hv12 dX12_quantified_156 ?_
        obtain ⟨u13, hu13, hf⟩ := g_bd hf
        refine ok_iast F K t135 hu13 dX12_quantified_157 (fun H locs K => ?_)
        obtain ⟨x14, ex14⟩ : ∃ y : Int32, y = x5_ + 1 := ⟨_, rfl⟩
        have hf := g_lt hf x14 ex14
        refine lv_iinc (v := x14) (lv' := [(5, .int x14), (0, .ref (G.1 100)), (1, .int x1_), (2, .int x2_), (3, .int x3_), (4, .int x4_)]) hx hb dX12_quantified_158 hl (k := 5) rfl (by rw [kI_1, ex14]) (by decide) rfl (fun ls hl => ?_)
        refine lv_goto (pc := 161) (tgt := 123) hx hb dX12_quantified_161 (by decide) ?_
        exact ih x1_ x2_ x3_ x4_ x14 u13 _ _ _ hf K (lv_sub hl [1, 2, 3, 4, 5, 0] rfl)
set_option maxRecDepth 100000 in
set_option maxHeartbeats 4000000 in
theorem pX12_quantified_j33 {p : Program} {l : Launch} {e : Env} {s : State} {m : MethodId} {below : List Frame} {meth : Method} {c : Code} {A : Nat → Prop} {G : Gt} {a0 : Int32} {a1 : Int32} {a2 : Int32} {u' : St} (B : Bd p s m [.ref (G.1 100), .int a0, .int a1, .int a2] meth c yX12_quantified cX12_quantified 6 none) (x1_ : Int32) (x2_ : Int32) (x3_ : Int32) (s0_ : Int32) (u : St) (H : Heap) (locs : List Loc) (ls : Array Slot) (hf : fX12_quantified_j33 x1_ x2_ x3_ s0_ u = some u') (K : Ok 100 77 G A s u H locs) (hl : lv_has ls 6 [(0, .ref (G.1 100)), (1, .int x1_), (2, .int x2_), (3, .int x3_)]) : W p l e rmX12_quantified s m ([.ref (G.1 100), .int a0, .int a1, .int a2] : List Value).toArray below meth c H locs 0 0 (MQ below (Qg 100 77 G A none u') ([.ref (G.1 100), .int a0, .int a1, .int a2] : List Value).toArray s 0 0 A) (F0 m 33 ls [.int s0_, .ref (G.1 100)]) := by
  have F := B.1
  have hx := F.1
  have hb := F.2.1
  unfold fX12_quantified_j33 at hf
  obtain ⟨z16, hz16, hf⟩ := g_bd hf
  refine ok_putZ F K qX12_370 (g_zb hz16).2 dX12_quantified_33 (fun u15 H locs eu15 K => ?_)
  have hf := g_lt hf u15 eu15
  refine lv_aload_n hx hb dX12_quantified_36 rfl (lv_at hl 0 rfl) ?_
  refine lv_aload_n hx hb dX12_quantified_37 rfl (lv_at hl 0 rfl) ?_
  refine ok_ref F K fX12_61 dX12_quantified_38 ?_
  refine lv_iload_n hx hb dX12_quantified_41 rfl (lv_at hl 1 rfl) ?_
  obtain ⟨v17, hv17, hf⟩ := g_bd hf
  refine ok_lald F K t117 hv17 dX12_quantified_42 ?_
  obtain ⟨r19, u18, hu18, hf⟩ := g_b2 hf
  refine ok_calli (rest := []) F K (pX12_variableOf G hu18) mX12_variableOf oc100 lX12_353 rfl hl.1 rfl ⟨⟨rfl, rfl⟩, Nat.le_of_ble_eq_true rfl, Nat.le_of_ble_eq_true rfl⟩ (Nat.le_of_ble_eq_true rfl) dX12_quantified_43 (fun H locs K => ?_)
  refine lv_istore (lv' := [(4, .int r19), (0, .ref (G.1 100)), (1, .int x1_), (2, .int x2_), (3, .int x3_)]) hx hb dX12_quantified_46 hl (by decide) rfl (fun ls hl => ?_)
  refine lv_aload_n hx hb dX12_quantified_48 rfl (lv_at hl 1 rfl) ?_
  refine ok_int F K fX12_370 dX12_quantified_49 ?_
  refine lv_if_eq (pc := 52) (tgt := 56) hx hb dX12_quantified_52 (by decide) (fun c20 => ?_) (fun c20 => ?_)
  · have hf := g_pos hf c20
    refine lv_iload_n hx hb dX12_quantified_56 rfl (lv_at hl 3 rfl) ?_
    refine lv_if_eq (pc := 57) (tgt := 106) hx hb dX12_quantified_57 (by decide) (fun c21 => ?_) (fun c21 => ?_)
    · have hf := g_pos hf c21
      refine lv_aload_n hx hb dX12_quantified_106 rfl (lv_at hl 1 rfl) ?_
      refine ok_int F K fX12_385 dX12_quantified_107 ?_
      refine lv_iconst (v := 5) hx hb dX12_quantified_110 kI_5 ?_
      refine lv_icmp_le (pc := 111) (tgt := 120) hx hb dX12_quantified_111 (by decide) (fun c22 => ?_) (fun c22 => ?_)
      · have hf := g_pos hf c22
        refine lv_iconst (v := 0) hx hb dX12_quantified_120 kI_0 ?_
        refine lv_topi (fun x23 ex23 => ?_)
        have hf := g_lt hf x23 ex23
        refine lv_istore (lv' := [(5, .int x23), (4, .int r19), (0, .ref (G.1 100)), (1, .int x1_), (2, .int x2_), (3, .int x3_)]) hx hb dX12_quantified_121 hl (by decide) rfl (fun ls hl => ?_)
        exact (pX12_quantified_L0  B FU) x1_ x2_ x3_ r19 x23 u18 _ _ _ hf K (lv_sub hl [2, 3, 4, 5, 1, 0] rfl)
      · have hf := g_neg hf c22
        refine lv_aload_n hx hb dX12_quantified_114 rfl (lv_at hl 1 rfl) ?_
        refine lv_iconst (v := 1) hx hb dX12_quantified_115 kI_1 ?_
        refine ok_putZ F K qX12_370 (Or.inr rfl) dX12_quantified_116 (fun u24 H locs eu24 K => ?_)
        have hf := g_lt hf u24 eu24
        exact ok_retv B K hf dX12_quantified_119
    · have hf := g_neg hf c21
      refine lv_aload_n hx hb dX12_quantified_60 rfl (lv_at hl 1 rfl) ?_
      refine lv_iload hx hb dX12_quantified_61 (lv_at hl 0 rfl) ?_
      refine lv_aload_n hx hb dX12_quantified_63 rfl (lv_at hl 1 rfl) ?_
      refine ok_int F K fX12_379 dX12_quantified_64 ?_
      obtain ⟨u25, hu25, hf⟩ := g_bd hf
      refine ok_callv (rest := []) F K (pX12_bind G hu25) mX12_bind oc100 lX12_382 rfl hl.1 rfl ⟨⟨rfl, rfl⟩, Nat.le_of_ble_eq_true rfl, Nat.le_of_ble_eq_true rfl⟩ (Nat.le_of_ble_eq_true rfl) dX12_quantified_67 (fun H locs K => ?_)
      refine lv_aload_n hx hb dX12_quantified_70 rfl (lv_at hl 1 rfl) ?_
      refine ok_ref F K fX12_97 dX12_quantified_71 ?_
      refine lv_aload_n hx hb dX12_quantified_74 rfl (lv_at hl 1 rfl) ?_
      refine ok_int F K fX12_385 dX12_quantified_75 ?_
      refine lv_aload_n hx hb dX12_quantified_78 rfl (lv_at hl 1 rfl) ?_
      refine ok_int F K fX12_379 dX12_quantified_79 ?_
      obtain ⟨u26, hu26, hf⟩ := g_bd hf
      refine ok_iast F K t129 hu26 dX12_quantified_82 (fun H locs K => ?_)
      refine lv_aload_n hx hb dX12_quantified_83 rfl (lv_at hl 1 rfl) ?_
      refine lv_dup hx hb dX12_quantified_84 rfl ?_
      refine ok_int F K fX12_379 dX12_quantified_85 ?_
      refine lv_iconst (v := 1) hx hb dX12_quantified_88 kI_1 ?_
      refine lv_iadd hx hb dX12_quantified_89 ?_
      refine ok_putI F K qX12_379 dX12_quantified_90 (fun u27 H locs eu27 K => ?_)
      have hf := g_lt hf u27 eu27
      refine lv_aload_n hx hb dX12_quantified_93 rfl (lv_at hl 1 rfl) ?_
      refine lv_dup hx hb dX12_quantified_94 rfl ?_
      refine ok_int F K fX12_385 dX12_quantified_95 ?_
      refine lv_iconst (v := 1) hx hb dX12_quantified_98 kI_1 ?_
      refine lv_iadd hx hb dX12_quantified_99 ?_
      refine ok_putI F K qX12_385 dX12_quantified_100 (fun u28 H locs eu28 K => ?_)
      have hf := g_lt hf u28 eu28
      refine lv_goto (pc := 103) (tgt := 203) hx hb dX12_quantified_103 (by decide) ?_
      exact pX12_quantified_j203  B x1_ x2_ x3_ u28 _ _ _ hf K (lv_sub hl [1, 2, 3, 4] rfl)
  · have hf := g_neg hf c20
    exact ok_retv B K hf dX12_quantified_55
set_option maxRecDepth 100000 in
set_option maxHeartbeats 4000000 in
theorem pX12_quantified {l : Launch} (G : Gt) {a0 : Int32} {a1 : Int32} {a2 : Int32} {u u' : St} (hf : fX12_quantified a0 a1 a2 u = some u') : Ctr 100 77 l yX12_quantified cX12_quantified 6 none rmX12_quantified [.ref (G.1 100), .int a0, .int a1, .int a2] G u none u' := by
  refine Ctr.mk (by decide) (Nat.le_of_ble_eq_true rfl) (fun p e s m below meth c A ls B K hl => ?_)
  have F := B.1
  have hx := F.1
  have hb := F.2.1
  have hl : lv_has ls 6 [(0, .ref (G.1 100)), (1, .int a0), (2, .int a1), (3, .int a2)] := hl
  unfold fX12_quantified at hf
  refine lv_aload_n hx hb dX12_quantified_0 rfl (lv_at hl 0 rfl) ?_
  refine lv_dup hx hb dX12_quantified_1 rfl ?_
  refine ok_int F K fX12_376 dX12_quantified_2 ?_
  refine lv_iconst (v := 1) hx hb dX12_quantified_5 kI_1 ?_
  refine lv_iadd hx hb dX12_quantified_6 ?_
  refine ok_putI F K qX12_376 dX12_quantified_7 (fun u29 H locs eu29 K => ?_)
  have hf := g_lt hf u29 eu29
  refine lv_aload_n hx hb dX12_quantified_10 rfl (lv_at hl 0 rfl) ?_
  refine lv_aload_n hx hb dX12_quantified_11 rfl (lv_at hl 0 rfl) ?_
  refine ok_int F K fX12_370 dX12_quantified_12 ?_
  refine lv_if_ne (pc := 15) (tgt := 28) hx hb dX12_quantified_15 (by decide) (fun c30 => ?_) (fun c30 => ?_)
  · have hf := g_neg hf c30
    refine lv_iconst (v := 1) hx hb dX12_quantified_28 kI_1 ?_
    refine lv_goto (pc := 29) (tgt := 33) hx hb dX12_quantified_29 (by decide) ?_
    exact pX12_quantified_j33  B a0 a1 a2 1 u29 _ _ _ hf K (lv_sub hl [0, 1, 2, 3] rfl)
  · have hf := g_pos hf c30
    refine lv_aload_n hx hb dX12_quantified_18 rfl (lv_at hl 0 rfl) ?_
    refine ok_int F K fX12_376 dX12_quantified_19 ?_
    refine lv_sipush (v := 3000) hx hb dX12_quantified_22 kS_3000 ?_
    refine lv_icmp_le (pc := 25) (tgt := 32) hx hb dX12_quantified_25 (by decide) (fun c31 => ?_) (fun c31 => ?_)
    · have hf := g_pos hf c31
      refine lv_iconst (v := 0) hx hb dX12_quantified_32 kI_0 ?_
      exact pX12_quantified_j33  B a0 a1 a2 0 u29 _ _ _ hf K (lv_sub hl [0, 1, 2, 3] rfl)
    · have hf := g_neg hf c31
      refine lv_iconst (v := 1) hx hb dX12_quantified_28 kI_1 ?_
      refine lv_goto (pc := 29) (tgt := 33) hx hb dX12_quantified_29 (by decide) ?_
      exact pX12_quantified_j33  B a0 a1 a2 1 u29 _ _ _ hf K (lv_sub hl [0, 1, 2, 3] rfl)
abbrev rmX12_symbol : Room := { frames := 0, cells := 0, slots := 0, locals := 0 }
set_option maxRecDepth 100000 in
set_option maxHeartbeats 4000000 in
theorem pX12_symbol {l : Launch} (G : Gt) {a0 : Int32} {u u' : St} (hf : fX12_symbol a0 u = some u') : Ctr 100 77 l yX12_symbol cX12_symbol 2 none rmX12_symbol [.ref (G.1 100), .int a0] G u none u' := by
  refine Ctr.mk (by decide) (Nat.le_of_ble_eq_true rfl) (fun p e s m below meth c A ls B K hl => ?_)
  have F := B.1
  have hx := F.1
  have hb := F.2.1
  have hl : lv_has ls 2 [(0, .ref (G.1 100)), (1, .int a0)] := hl
  unfold fX12_symbol at hf
  refine lv_aload_n hx hb dX12_symbol_0 rfl (lv_at hl 0 rfl) ?_
  refine ok_int F K fX12_417 dX12_symbol_1 ?_
  refine lv_sipush (v := 24000) hx hb dX12_symbol_4 kS_24000 ?_
  refine lv_icmp_ge (pc := 7) (tgt := 33) hx hb dX12_symbol_7 (by decide) (fun c1 => ?_) (fun c1 => ?_)
  · have hf := g_pos hf c1
    refine lv_aload_n hx hb dX12_symbol_33 rfl (lv_at hl 0 rfl) ?_
    refine lv_iconst (v := 1) hx hb dX12_symbol_34 kI_1 ?_
    refine ok_putZ F K qX12_370 (Or.inr rfl) dX12_symbol_35 (fun u2 H locs eu2 K => ?_)
    have hf := g_lt hf u2 eu2
    exact ok_retv B K hf dX12_symbol_38
  · have hf := g_neg hf c1
    refine lv_aload_n hx hb dX12_symbol_10 rfl (lv_at hl 0 rfl) ?_
    refine ok_ref F K fX12_112 dX12_symbol_11 ?_
    refine lv_aload_n hx hb dX12_symbol_14 rfl (lv_at hl 0 rfl) ?_
    refine ok_int F K fX12_417 dX12_symbol_15 ?_
    refine lv_iload_n hx hb dX12_symbol_18 rfl (lv_at hl 1 rfl) ?_
    obtain ⟨u3, hu3, hf⟩ := g_bd hf
    refine ok_iast F K t134 hu3 dX12_symbol_19 (fun H locs K => ?_)
    refine lv_aload_n hx hb dX12_symbol_20 rfl (lv_at hl 0 rfl) ?_
    refine lv_dup hx hb dX12_symbol_21 rfl ?_
    refine ok_int F K fX12_417 dX12_symbol_22 ?_
    refine lv_iconst (v := 1) hx hb dX12_symbol_25 kI_1 ?_
    refine lv_iadd hx hb dX12_symbol_26 ?_
    refine ok_putI F K qX12_417 dX12_symbol_27 (fun u4 H locs eu4 K => ?_)
    have hf := g_lt hf u4 eu4
    refine lv_goto (pc := 30) (tgt := 38) hx hb dX12_symbol_30 (by decide) ?_
    exact ok_retv B K hf dX12_symbol_38
abbrev rmX12_tree : Room := { frames := 0, cells := 0, slots := 0, locals := 0 }
set_option maxRecDepth 100000 in
set_option maxHeartbeats 4000000 in
theorem pX12_tree {l : Launch} (G : Gt) {a0 : Int32} {a1 : Int32} {a2 : Int32} {a3 : Int32} {r : Int32} {u u' : St} (hf : fX12_tree a0 a1 a2 a3 u = some (r, u')) : Ctr 100 77 l yX12_tree cX12_tree 6 (some .int) rmX12_tree [.ref (G.1 100), .int a0, .int a1, .int a2, .int a3] G u (some (.int r)) u' := by
  refine Ctr.mk (by decide) (Nat.le_of_ble_eq_true rfl) (fun p e s m below meth c A ls B K hl => ?_)
  have F := B.1
  have hx := F.1
  have hb := F.2.1
  have hl : lv_has ls 6 [(0, .ref (G.1 100)), (1, .int a0), (2, .int a1), (3, .int a2), (4, .int a3)] := hl
  unfold fX12_tree at hf
  refine lv_aload_n hx hb dX12_tree_0 rfl (lv_at hl 0 rfl) ?_
  refine ok_int F K fX12_367 dX12_tree_1 ?_
  refine lv_sipush (v := 6100) hx hb dX12_tree_4 kS_6100 ?_
  refine lv_icmp_ne (pc := 7) (tgt := 17) hx hb dX12_tree_7 (by decide) (fun c1 => ?_) (fun c1 => ?_)
  · have hf := g_neg hf c1
    refine lv_aload_n hx hb dX12_tree_17 rfl (lv_at hl 0 rfl) ?_
    refine ok_int F K fX12_367 dX12_tree_18 ?_
    refine lv_topi (fun x2 ex2 => ?_)
    have hf := g_lt hf x2 ex2
    refine lv_istore (lv' := [(5, .int x2), (0, .ref (G.1 100)), (1, .int a0), (2, .int a1), (3, .int a2), (4, .int a3)]) hx hb dX12_tree_21 hl (by decide) rfl (fun ls hl => ?_)
    refine lv_aload_n hx hb dX12_tree_23 rfl (lv_at hl 1 rfl) ?_
    refine lv_dup hx hb dX12_tree_24 rfl ?_
    refine ok_int F K fX12_367 dX12_tree_25 ?_
    refine lv_iconst (v := 1) hx hb dX12_tree_28 kI_1 ?_
    refine lv_iadd hx hb dX12_tree_29 ?_
    refine ok_putI F K qX12_367 dX12_tree_30 (fun u3 H locs eu3 K => ?_)
    have hf := g_lt hf u3 eu3
    refine lv_aload_n hx hb dX12_tree_33 rfl (lv_at hl 1 rfl) ?_
    refine ok_ref F K fX12_100 dX12_tree_34 ?_
    refine lv_iload hx hb dX12_tree_37 (lv_at hl 0 rfl) ?_
    refine lv_iload_n hx hb dX12_tree_39 rfl (lv_at hl 2 rfl) ?_
    obtain ⟨u4, hu4, hf⟩ := g_bd hf
    refine ok_iast F K t130 hu4 dX12_tree_40 (fun H locs K => ?_)
    refine lv_aload_n hx hb dX12_tree_41 rfl (lv_at hl 1 rfl) ?_
    refine ok_ref F K fX12_103 dX12_tree_42 ?_
    refine lv_iload hx hb dX12_tree_45 (lv_at hl 0 rfl) ?_
    refine lv_iload_n hx hb dX12_tree_47 rfl (lv_at hl 3 rfl) ?_
    obtain ⟨u5, hu5, hf⟩ := g_bd hf
    refine ok_iast F K t131 hu5 dX12_tree_48 (fun H locs K => ?_)
    refine lv_aload_n hx hb dX12_tree_49 rfl (lv_at hl 1 rfl) ?_
    refine ok_ref F K fX12_106 dX12_tree_50 ?_
    refine lv_iload hx hb dX12_tree_53 (lv_at hl 0 rfl) ?_
    refine lv_iload_n hx hb dX12_tree_55 rfl (lv_at hl 4 rfl) ?_
    obtain ⟨u6, hu6, hf⟩ := g_bd hf
    refine ok_iast F K t132 hu6 dX12_tree_56 (fun H locs K => ?_)
    refine lv_aload_n hx hb dX12_tree_57 rfl (lv_at hl 1 rfl) ?_
    refine ok_ref F K fX12_109 dX12_tree_58 ?_
    refine lv_iload hx hb dX12_tree_61 (lv_at hl 0 rfl) ?_
    refine lv_iload hx hb dX12_tree_63 (lv_at hl 5 rfl) ?_
    obtain ⟨z8, hz8, hf⟩ := g_bd hf
    obtain ⟨u7, hu7, hf⟩ := g_bd hf
    refine ok_zast F K t133 (g_zb hz8).2 hu7 dX12_tree_65 (fun H locs K => ?_)
    refine lv_iload hx hb dX12_tree_66 (lv_at hl 0 rfl) ?_
    exact ok_reti B K hf dX12_tree_68
  · have hf := g_pos hf c1
    refine lv_aload_n hx hb dX12_tree_10 rfl (lv_at hl 0 rfl) ?_
    refine lv_iconst (v := 1) hx hb dX12_tree_11 kI_1 ?_
    refine ok_putZ F K qX12_370 (Or.inr rfl) dX12_tree_12 (fun u9 H locs eu9 K => ?_)
    have hf := g_lt hf u9 eu9
    refine lv_iconst (v := 0) hx hb dX12_tree_15 kI_0 ?_
    exact ok_reti B K hf dX12_tree_16
abbrev rmX12_literal : Room := { frames := 1, cells := 0, slots := 0, locals := 25 }
set_option maxRecDepth 100000 in
set_option maxHeartbeats 4000000 in
theorem pX12_literal_j232 {p : Program} {l : Launch} {e : Env} {s : State} {m : MethodId} {below : List Frame} {meth : Method} {c : Code} {A : Nat → Prop} {G : Gt} {a0 : Int32} {a1 : Int32} {r : Int32} {u' : St} (B : Bd p s m [.ref (G.1 100), .int a0, .int a1] meth c yX12_literal cX12_literal 9 (some .int)) (x2_ : Int32) (x3_ : Int32) (u : St) (H : Heap) (locs : List Loc) (ls : Array Slot) (hf : fX12_literal_j232 x2_ x3_ u = some (r, u')) (K : Ok 100 77 G A s u H locs) (hl : lv_has ls 9 [(0, .ref (G.1 100)), (2, .int x2_), (3, .int x3_)]) : W p l e rmX12_literal s m ([.ref (G.1 100), .int a0, .int a1] : List Value).toArray below meth c H locs 0 0 (MQ below (Qg 100 77 G A (some (.int r)) u') ([.ref (G.1 100), .int a0, .int a1] : List Value).toArray s 0 0 A) (F0 m 232 ls []) := by
  have F := B.1
  have hx := F.1
  have hb := F.2.1
  unfold fX12_literal_j232 at hf
  refine lv_aload_n hx hb dX12_literal_232 rfl (lv_at hl 0 rfl) ?_
  refine lv_bipush (v := 15) hx hb dX12_literal_233 kB_15 ?_
  refine lv_iload_n hx hb dX12_literal_235 rfl (lv_at hl 2 rfl) ?_
  refine lv_aload_n hx hb dX12_literal_236 rfl (lv_at hl 0 rfl) ?_
  refine ok_int F K fX12_417 dX12_literal_237 ?_
  refine lv_iload_n hx hb dX12_literal_240 rfl (lv_at hl 1 rfl) ?_
  obtain ⟨r2, u1, hu1, hf⟩ := g_b2 hf
  refine ok_calli (rest := []) F K (pX12_tree G hu1) mX12_tree oc100 lX12_398 rfl hl.1 rfl ⟨⟨rfl, rfl⟩, Nat.le_of_ble_eq_true rfl, Nat.le_of_ble_eq_true rfl⟩ (Nat.le_of_ble_eq_true rfl) dX12_literal_241 (fun H locs K => ?_)
  exact ok_reti B K hf dX12_literal_244
set_option maxRecDepth 100000 in
set_option maxHeartbeats 4000000 in
theorem pX12_literal_L0 {p : Program} {l : Launch} {e : Env} {s : State} {m : MethodId} {below : List Frame} {meth : Method} {c : Code} {A : Nat → Prop} {G : Gt} {a0 : Int32} {a1 : Int32} {r : Int32} {u' : St} (B : Bd p s m [.ref (G.1 100), .int a0, .int a1] meth c yX12_literal cX12_literal 9 (some .int)) (n : Nat) : (∀ (x1_ : Int32) (x2_ : Int32) (x3_ : Int32) (x4_ : Int32) (u : St) (H : Heap) (locs : List Loc) (ls : Array Slot), fX12_literal_L0  n 0 x1_ x2_ x3_ x4_ 0 0 0 u = some (r, u') → Ok 100 77 G A s u H locs → lv_has ls 9 [(0, .ref (G.1 100)), (1, .int x1_), (2, .int x2_), (3, .int x3_), (4, .int x4_)] → W p l e rmX12_literal s m ([.ref (G.1 100), .int a0, .int a1] : List Value).toArray below meth c H locs 0 0 (MQ below (Qg 100 77 G A (some (.int r)) u') ([.ref (G.1 100), .int a0, .int a1] : List Value).toArray s 0 0 A) (F0 m 61 ls [])) ∧ (∀ (x1_ : Int32) (x2_ : Int32) (x3_ : Int32) (x4_ : Int32) (x5_ : Int32) (u : St) (H : Heap) (locs : List Loc) (ls : Array Slot), fX12_literal_L0  n 1 x1_ x2_ x3_ x4_ x5_ 0 0 u = some (r, u') → Ok 100 77 G A s u H locs → lv_has ls 9 [(0, .ref (G.1 100)), (1, .int x1_), (2, .int x2_), (3, .int x3_), (4, .int x4_), (5, .int x5_)] → W p l e rmX12_literal s m ([.ref (G.1 100), .int a0, .int a1] : List Value).toArray below meth c H locs 0 0 (MQ below (Qg 100 77 G A (some (.int r)) u') ([.ref (G.1 100), .int a0, .int a1] : List Value).toArray s 0 0 A) (F0 m 111 ls [])) ∧ (∀ (x1_ : Int32) (x2_ : Int32) (x3_ : Int32) (x4_ : Int32) (x7_ : Int32) (x8_ : Int32) (u : St) (H : Heap) (locs : List Loc) (ls : Array Slot), fX12_literal_L0  n 2 x1_ x2_ x3_ x4_ 0 x7_ x8_ u = some (r, u') → Ok 100 77 G A s u H locs → lv_has ls 9 [(0, .ref (G.1 100)), (1, .int x1_), (2, .int x2_), (3, .int x3_), (4, .int x4_), (7, .int x7_), (8, .int x8_)] → W p l e rmX12_literal s m ([.ref (G.1 100), .int a0, .int a1] : List Value).toArray below meth c H locs 0 0 (MQ below (Qg 100 77 G A (some (.int r)) u') ([.ref (G.1 100), .int a0, .int a1] : List Value).toArray s 0 0 A) (F0 m 180 ls [])) := by
  have F := B.1
  have hx := F.1
  have hb := F.2.1
  induction n with
  | zero => exact ⟨fun _ _ _ _ _ _ _ _ hf => g_no hf, fun _ _ _ _ _ _ _ _ _ hf => g_no hf, fun _ _ _ _ _ _ _ _ _ _ hf => g_no hf⟩
  | succ n ih =>
    refine ⟨?_, ?_, ?_⟩
    · intro x1_ x2_ x3_ x4_ u H locs ls hf K hl
      have hf : fX12_literal_L0_0  (fX12_literal_L0  n) x1_ x2_ x3_ x4_ u = some (r, u') := hf
      unfold fX12_literal_L0_0 at hf
      refine lv_iload hx hb dX12_literal_61 (lv_at hl 4 rfl) ?_
      refine lv_aload_n hx hb dX12_literal_63 rfl (lv_at hl 0 rfl) ?_
      refine ok_ref F K fX12_58 dX12_literal_64 ?_
      refine lv_iload_n hx hb dX12_literal_67 rfl (lv_at hl 1 rfl) ?_
      obtain ⟨v3, hv3, hf⟩ := g_bd hf
      refine ok_iald F K t116 hv3 dX12_literal_68 ?_
      refine lv_icmp_ge (pc := 69) (tgt := 232) hx hb dX12_literal_69 (by decide) (fun c4 => ?_) (fun c4 => ?_)
      · have hf := g_pos hf c4
        exact pX12_literal_j232  B x2_ x3_ u _ _ _ hf K (lv_sub hl [0, 2, 3] rfl)
      · have hf := g_neg hf c4
        refine lv_aload_n hx hb dX12_literal_72 rfl (lv_at hl 0 rfl) ?_
        refine ok_int F K fX12_370 dX12_literal_73 ?_
        refine lv_if_ne (pc := 76) (tgt := 232) hx hb dX12_literal_76 (by decide) (fun c5 => ?_) (fun c5 => ?_)
        · have hf := g_neg hf c5
          exact pX12_literal_j232  B x2_ x3_ u _ _ _ hf K (lv_sub hl [0, 2, 3] rfl)
        · have hf := g_pos hf c5
          refine lv_aload_n hx hb dX12_literal_79 rfl (lv_at hl 0 rfl) ?_
          refine ok_ref F K fX12_64 dX12_literal_80 ?_
          refine lv_iload hx hb dX12_literal_83 (lv_at hl 4 rfl) ?_
          obtain ⟨v6, hv6, hf⟩ := g_bd hf
          refine ok_iald F K t118 hv6 dX12_literal_85 ?_
          refine lv_if_lt (pc := 86) (tgt := 103) hx hb dX12_literal_86 (by decide) (fun c7 => ?_) (fun c7 => ?_)
          · have hf := g_pos hf c7
            refine lv_aload_n hx hb dX12_literal_103 rfl (lv_at hl 0 rfl) ?_
            refine ok_int F K fX12_373 dX12_literal_104 ?_
            refine lv_iconst (v := 1) hx hb dX12_literal_107 kI_1 ?_
            refine lv_isub hx hb dX12_literal_108 ?_
            refine lv_topi (fun x8 ex8 => ?_)
            have hf := g_lt hf x8 ex8
            refine lv_istore (lv' := [(5, .int x8), (0, .ref (G.1 100)), (1, .int x1_), (2, .int x2_), (3, .int x3_), (4, .int x4_)]) hx hb dX12_literal_109 hl (by decide) rfl (fun ls hl => ?_)
            exact ih.2.1 x1_ x2_ x3_ x4_ x8 u _ _ _ hf K (lv_sub hl [1, 2, 3, 4, 5, 0] rfl)
          · have hf := g_neg hf c7
            refine lv_aload_n hx hb dX12_literal_89 rfl (lv_at hl 0 rfl) ?_
            refine lv_aload_n hx hb dX12_literal_90 rfl (lv_at hl 0 rfl) ?_
            refine ok_ref F K fX12_64 dX12_literal_91 ?_
            refine lv_iload hx hb dX12_literal_94 (lv_at hl 4 rfl) ?_
            obtain ⟨v9, hv9, hf⟩ := g_bd hf
            refine ok_iald F K t118 hv9 dX12_literal_96 ?_
            obtain ⟨u10, hu10, hf⟩ := g_bd hf
            refine ok_callv (rest := []) F K (pX12_symbol G hu10) mX12_symbol oc100 lX12_420 rfl hl.1 rfl ⟨⟨rfl, rfl⟩, Nat.le_of_ble_eq_true rfl, Nat.le_of_ble_eq_true rfl⟩ (Nat.le_of_ble_eq_true rfl) dX12_literal_97 (fun H locs K => ?_)
            refine lv_goto (pc := 100) (tgt := 226) hx hb dX12_literal_100 (by decide) ?_
            obtain ⟨x11, ex11⟩ : ∃ y : Int32, y = x4_ + 1 := ⟨_, rfl⟩
            have hf := g_lt hf x11 ex11
            refine lv_iinc (v := x11) (lv' := [(4, .int x11), (0, .ref (G.1 100)), (1, .int x1_), (2, .int x2_), (3, .int x3_)]) hx hb dX12_literal_226 hl (k := 4) rfl (by rw [kI_1, ex11]) (by decide) rfl (fun ls hl => ?_)
            refine lv_goto (pc := 229) (tgt := 61) hx hb dX12_literal_229 (by decide) ?_
            exact ih.1 x1_ x2_ x3_ x11 u10 _ _ _ hf K (lv_sub hl [1, 2, 3, 4, 0] rfl)
    · intro x1_ x2_ x3_ x4_ x5_ u H locs ls hf K hl
      have hf : fX12_literal_L0_1  (fX12_literal_L0  n) x1_ x2_ x3_ x4_ x5_ u = some (r, u') := hf
      unfold fX12_literal_L0_1 at hf
      refine lv_aload_n hx hb dX12_literal_111 rfl (lv_at hl 0 rfl) ?_
      refine ok_ref F K fX12_88 dX12_literal_112 ?_
      refine lv_iload hx hb dX12_literal_115 (lv_at hl 5 rfl) ?_
      obtain ⟨v12, hv12, hf⟩ := g_bd hf
      refine ok_iald F K t126 hv12 dX12_literal_117 ?_
      refine lv_iconst (v := (-1)) hx hb dX12_literal_118 kI_m1 ?_
      refine lv_aload_n hx hb dX12_literal_119 rfl (lv_at hl 0 rfl) ?_
      refine ok_ref F K fX12_64 dX12_literal_120 ?_
      refine lv_iload hx hb dX12_literal_123 (lv_at hl 4 rfl) ?_
      obtain ⟨v13, hv13, hf⟩ := g_bd hf
      refine ok_iald F K t118 hv13 dX12_literal_125 ?_
      refine lv_isub hx hb dX12_literal_126 ?_
      refine lv_icmp_eq (pc := 127) (tgt := 136) hx hb dX12_literal_127 (by decide) (fun c14 => ?_) (fun c14 => ?_)
      · have hf := g_pos hf c14
        refine lv_aload_n hx hb dX12_literal_136 rfl (lv_at hl 0 rfl) ?_
        refine ok_ref F K fX12_91 dX12_literal_137 ?_
        refine lv_iload hx hb dX12_literal_140 (lv_at hl 5 rfl) ?_
        obtain ⟨v15, hv15, hf⟩ := g_bd hf
        refine ok_iald F K t127 hv15 dX12_literal_142 ?_
        refine lv_istore (lv' := [(6, .int v15), (0, .ref (G.1 100)), (1, .int x1_), (2, .int x2_), (3, .int x3_), (4, .int x4_), (5, .int x5_)]) hx hb dX12_literal_143 hl (by decide) rfl (fun ls hl => ?_)
        refine lv_iload hx hb dX12_literal_145 (lv_at hl 0 rfl) ?_
        refine lv_if_lt (pc := 147) (tgt := 161) hx hb dX12_literal_147 (by decide) (fun c16 => ?_) (fun c16 => ?_)
        · have hf := g_pos hf c16
          refine lv_iconst (v := (-1)) hx hb dX12_literal_161 kI_m1 ?_
          refine lv_iload hx hb dX12_literal_162 (lv_at hl 0 rfl) ?_
          refine lv_isub hx hb dX12_literal_164 ?_
          refine lv_topi (fun x17 ex17 => ?_)
          have hf := g_lt hf x17 ex17
          refine lv_istore (lv' := [(7, .int x17), (6, .int v15), (0, .ref (G.1 100)), (1, .int x1_), (2, .int x2_), (3, .int x3_), (4, .int x4_), (5, .int x5_)]) hx hb dX12_literal_165 hl (by decide) rfl (fun ls hl => ?_)
          refine lv_aload_n hx hb dX12_literal_167 rfl (lv_at hl 2 rfl) ?_
          refine lv_sipush (v := 1000) hx hb dX12_literal_168 kS_1000 ?_
          refine lv_iload hx hb dX12_literal_171 (lv_at hl 0 rfl) ?_
          refine lv_iadd hx hb dX12_literal_173 ?_
          obtain ⟨u18, hu18, hf⟩ := g_bd hf
          refine ok_callv (rest := []) F K (pX12_symbol G hu18) mX12_symbol oc100 lX12_420 rfl hl.1 rfl ⟨⟨rfl, rfl⟩, Nat.le_of_ble_eq_true rfl, Nat.le_of_ble_eq_true rfl⟩ (Nat.le_of_ble_eq_true rfl) dX12_literal_174 (fun H locs K => ?_)
          refine lv_iconst (v := 0) hx hb dX12_literal_177 kI_0 ?_
          refine lv_topi (fun x19 ex19 => ?_)
          have hf := g_lt hf x19 ex19
          refine lv_istore (lv' := [(8, .int x19), (7, .int x17), (6, .int v15), (0, .ref (G.1 100)), (1, .int x1_), (2, .int x2_), (3, .int x3_), (4, .int x4_), (5, .int x5_)]) hx hb dX12_literal_178 hl (by decide) rfl (fun ls hl => ?_)
          exact ih.2.2 x1_ x2_ x3_ x4_ x17 x19 u18 _ _ _ hf K (lv_sub hl [3, 4, 5, 6, 7, 1, 0] rfl)
        · have hf := g_neg hf c16
          refine lv_aload_n hx hb dX12_literal_150 rfl (lv_at hl 1 rfl) ?_
          refine lv_iconst (v := (-1)) hx hb dX12_literal_151 kI_m1 ?_
          refine lv_iload hx hb dX12_literal_152 (lv_at hl 0 rfl) ?_
          refine lv_isub hx hb dX12_literal_154 ?_
          obtain ⟨u20, hu20, hf⟩ := g_bd hf
          refine ok_callv (rest := []) F K (pX12_symbol G hu20) mX12_symbol oc100 lX12_420 rfl hl.1 rfl ⟨⟨rfl, rfl⟩, Nat.le_of_ble_eq_true rfl, Nat.le_of_ble_eq_true rfl⟩ (Nat.le_of_ble_eq_true rfl) dX12_literal_155 (fun H locs K => ?_)
          refine lv_goto (pc := 158) (tgt := 226) hx hb dX12_literal_158 (by decide) ?_
          obtain ⟨x21, ex21⟩ : ∃ y : Int32, y = x4_ + 1 := ⟨_, rfl⟩
          have hf := g_lt hf x21 ex21
          refine lv_iinc (v := x21) (lv' := [(4, .int x21), (6, .int v15), (0, .ref (G.1 100)), (1, .int x1_), (2, .int x2_), (3, .int x3_), (5, .int x5_)]) hx hb dX12_literal_226 hl (k := 5) rfl (by rw [kI_1, ex21]) (by decide) rfl (fun ls hl => ?_)
          refine lv_goto (pc := 229) (tgt := 61) hx hb dX12_literal_229 (by decide) ?_
          exact ih.1 x1_ x2_ x3_ x21 u20 _ _ _ hf K (lv_sub hl [2, 3, 4, 5, 0] rfl)
      · have hf := g_neg hf c14
        obtain ⟨x22, ex22⟩ : ∃ y : Int32, y = x5_ + (-1) := ⟨_, rfl⟩
        have hf := g_lt hf x22 ex22
        refine lv_iinc (v := x22) (lv' := [(5, .int x22), (0, .ref (G.1 100)), (1, .int x1_), (2, .int x2_), (3, .int x3_), (4, .int x4_)]) hx hb dX12_literal_130 hl (k := 5) rfl (by rw [kI_m1, ex22]) (by decide) rfl (fun ls hl => ?_)
        refine lv_goto (pc := 133) (tgt := 111) hx hb dX12_literal_133 (by decide) ?_
        exact ih.2.1 x1_ x2_ x3_ x4_ x22 u _ _ _ hf K (lv_sub hl [1, 2, 3, 4, 5, 0] rfl)
    · intro x1_ x2_ x3_ x4_ x7_ x8_ u H locs ls hf K hl
      have hf : fX12_literal_L0_2  (fX12_literal_L0  n) x1_ x2_ x3_ x4_ x7_ x8_ u = some (r, u') := hf
      unfold fX12_literal_L0_2 at hf
      refine lv_iload hx hb dX12_literal_180 (lv_at hl 6 rfl) ?_
      refine lv_aload_n hx hb dX12_literal_182 rfl (lv_at hl 0 rfl) ?_
      refine ok_ref F K fX12_25 dX12_literal_183 ?_
      refine lv_iload hx hb dX12_literal_186 (lv_at hl 5 rfl) ?_
      refine lv_aload_n hx hb dX12_literal_188 rfl (lv_at hl 0 rfl) ?_
      refine ok_int F K fX12_391 dX12_literal_189 ?_
      refine lv_isub hx hb dX12_literal_192 ?_
      obtain ⟨v23, hv23, hf⟩ := g_bd hf
      refine ok_iald F K t105 hv23 dX12_literal_193 ?_
      refine lv_icmp_ge (pc := 194) (tgt := 226) hx hb dX12_literal_194 (by decide) (fun c24 => ?_) (fun c24 => ?_)
      · have hf := g_pos hf c24
        obtain ⟨x25, ex25⟩ : ∃ y : Int32, y = x4_ + 1 := ⟨_, rfl⟩
        have hf := g_lt hf x25 ex25
        refine lv_iinc (v := x25) (lv' := [(4, .int x25), (0, .ref (G.1 100)), (1, .int x1_), (2, .int x2_), (3, .int x3_), (7, .int x7_), (8, .int x8_)]) hx hb dX12_literal_226 hl (k := 4) rfl (by rw [kI_1, ex25]) (by decide) rfl (fun ls hl => ?_)
        refine lv_goto (pc := 229) (tgt := 61) hx hb dX12_literal_229 (by decide) ?_
        exact ih.1 x1_ x2_ x3_ x25 u _ _ _ hf K (lv_sub hl [1, 2, 3, 4, 0] rfl)
      · have hf := g_neg hf c24
        refine lv_aload_n hx hb dX12_literal_197 rfl (lv_at hl 0 rfl) ?_
        refine lv_iconst (v := (-1)) hx hb dX12_literal_198 kI_m1 ?_
        refine lv_aload_n hx hb dX12_literal_199 rfl (lv_at hl 0 rfl) ?_
        refine ok_ref F K fX12_115 dX12_literal_200 ?_
        refine lv_iconst (v := 5) hx hb dX12_literal_203 kI_5 ?_
        refine lv_iload hx hb dX12_literal_204 (lv_at hl 5 rfl) ?_
        refine lv_aload_n hx hb dX12_literal_206 rfl (lv_at hl 0 rfl) ?_
        refine ok_int F K fX12_391 dX12_literal_207 ?_
        refine lv_isub hx hb dX12_literal_210 ?_
        refine lv_imul hx hb dX12_literal_211 ?_
        refine lv_iload hx hb dX12_literal_212 (lv_at hl 6 rfl) ?_
        refine lv_iadd hx hb dX12_literal_214 ?_
        obtain ⟨v26, hv26, hf⟩ := g_bd hf
        refine ok_iald F K t135 hv26 dX12_literal_215 ?_
        refine lv_isub hx hb dX12_literal_216 ?_
        obtain ⟨u27, hu27, hf⟩ := g_bd hf
        refine ok_callv (rest := []) F K (pX12_symbol G hu27) mX12_symbol oc100 lX12_420 rfl hl.1 rfl ⟨⟨rfl, rfl⟩, Nat.le_of_ble_eq_true rfl, Nat.le_of_ble_eq_true rfl⟩ (Nat.le_of_ble_eq_true rfl) dX12_literal_217 (fun H locs K => ?_)
        obtain ⟨x28, ex28⟩ : ∃ y : Int32, y = x8_ + 1 := ⟨_, rfl⟩
        have hf := g_lt hf x28 ex28
        refine lv_iinc (v := x28) (lv' := [(8, .int x28), (0, .ref (G.1 100)), (1, .int x1_), (2, .int x2_), (3, .int x3_), (4, .int x4_), (7, .int x7_)]) hx hb dX12_literal_220 hl (k := 6) rfl (by rw [kI_1, ex28]) (by decide) rfl (fun ls hl => ?_)
        refine lv_goto (pc := 223) (tgt := 180) hx hb dX12_literal_223 (by decide) ?_
        exact ih.2.2 x1_ x2_ x3_ x4_ x7_ x28 u27 _ _ _ hf K (lv_sub hl [1, 2, 3, 4, 5, 6, 0] rfl)
set_option maxRecDepth 100000 in
set_option maxHeartbeats 4000000 in
theorem pX12_literal_j50 {p : Program} {l : Launch} {e : Env} {s : State} {m : MethodId} {below : List Frame} {meth : Method} {c : Code} {A : Nat → Prop} {G : Gt} {a0 : Int32} {a1 : Int32} {r : Int32} {u' : St} (B : Bd p s m [.ref (G.1 100), .int a0, .int a1] meth c yX12_literal cX12_literal 9 (some .int)) (x1_ : Int32) (x2_ : Int32) (x3_ : Int32) (s0_ : Int32) (u : St) (H : Heap) (locs : List Loc) (ls : Array Slot) (hf : fX12_literal_j50 x1_ x2_ x3_ s0_ u = some (r, u')) (K : Ok 100 77 G A s u H locs) (hl : lv_has ls 9 [(0, .ref (G.1 100)), (1, .int x1_), (2, .int x2_), (3, .int x3_)]) : W p l e rmX12_literal s m ([.ref (G.1 100), .int a0, .int a1] : List Value).toArray below meth c H locs 0 0 (MQ below (Qg 100 77 G A (some (.int r)) u') ([.ref (G.1 100), .int a0, .int a1] : List Value).toArray s 0 0 A) (F0 m 50 ls [.int s0_, .ref (G.1 100)]) := by
  have F := B.1
  have hx := F.1
  have hb := F.2.1
  unfold fX12_literal_j50 at hf
  obtain ⟨z30, hz30, hf⟩ := g_bd hf
  refine ok_putZ F K qX12_370 (g_zb hz30).2 dX12_literal_50 (fun u29 H locs eu29 K => ?_)
  have hf := g_lt hf u29 eu29
  refine lv_aload_n hx hb dX12_literal_53 rfl (lv_at hl 0 rfl) ?_
  refine ok_ref F K fX12_55 dX12_literal_54 ?_
  refine lv_iload_n hx hb dX12_literal_57 rfl (lv_at hl 1 rfl) ?_
  obtain ⟨v31, hv31, hf⟩ := g_bd hf
  refine ok_iald F K t115 hv31 dX12_literal_58 ?_
  refine lv_istore (lv' := [(4, .int v31), (0, .ref (G.1 100)), (1, .int x1_), (2, .int x2_), (3, .int x3_)]) hx hb dX12_literal_59 hl (by decide) rfl (fun ls hl => ?_)
  exact (pX12_literal_L0  B FU).1 x1_ x2_ x3_ v31 u29 _ _ _ hf K (lv_sub hl [1, 2, 3, 4, 0] rfl)
set_option maxRecDepth 100000 in
set_option maxHeartbeats 4000000 in
theorem pX12_literal {l : Launch} (G : Gt) {a0 : Int32} {a1 : Int32} {r : Int32} {u u' : St} (hf : fX12_literal a0 a1 u = some (r, u')) : Ctr 100 77 l yX12_literal cX12_literal 9 (some .int) rmX12_literal [.ref (G.1 100), .int a0, .int a1] G u (some (.int r)) u' := by
  refine Ctr.mk (by decide) (Nat.le_of_ble_eq_true rfl) (fun p e s m below meth c A ls B K hl => ?_)
  have F := B.1
  have hx := F.1
  have hb := F.2.1
  have hl : lv_has ls 9 [(0, .ref (G.1 100)), (1, .int a0), (2, .int a1)] := hl
  unfold fX12_literal at hf
  refine lv_aload_n hx hb dX12_literal_0 rfl (lv_at hl 0 rfl) ?_
  refine ok_int F K fX12_417 dX12_literal_1 ?_
  refine lv_topi (fun x32 ex32 => ?_)
  have hf := g_lt hf x32 ex32
  refine lv_istore_n (lv' := [(3, .int x32), (0, .ref (G.1 100)), (1, .int a0), (2, .int a1)]) hx hb dX12_literal_4 rfl hl (by decide) rfl (fun ls hl => ?_)
  refine lv_aload_n hx hb dX12_literal_5 rfl (lv_at hl 1 rfl) ?_
  refine lv_dup hx hb dX12_literal_6 rfl ?_
  refine ok_int F K fX12_376 dX12_literal_7 ?_
  refine lv_aload_n hx hb dX12_literal_10 rfl (lv_at hl 1 rfl) ?_
  refine ok_ref F K fX12_58 dX12_literal_11 ?_
  refine lv_iload_n hx hb dX12_literal_14 rfl (lv_at hl 2 rfl) ?_
  obtain ⟨v33, hv33, hf⟩ := g_bd hf
  refine ok_iald F K t116 hv33 dX12_literal_15 ?_
  refine lv_aload_n hx hb dX12_literal_16 rfl (lv_at hl 1 rfl) ?_
  refine ok_ref F K fX12_55 dX12_literal_17 ?_
  refine lv_iload_n hx hb dX12_literal_20 rfl (lv_at hl 2 rfl) ?_
  obtain ⟨v34, hv34, hf⟩ := g_bd hf
  refine ok_iald F K t115 hv34 dX12_literal_21 ?_
  refine lv_isub hx hb dX12_literal_22 ?_
  refine lv_iadd hx hb dX12_literal_23 ?_
  refine ok_putI F K qX12_376 dX12_literal_24 (fun u35 H locs eu35 K => ?_)
  have hf := g_lt hf u35 eu35
  refine lv_aload_n hx hb dX12_literal_27 rfl (lv_at hl 1 rfl) ?_
  refine lv_aload_n hx hb dX12_literal_28 rfl (lv_at hl 1 rfl) ?_
  refine ok_int F K fX12_370 dX12_literal_29 ?_
  refine lv_if_ne (pc := 32) (tgt := 45) hx hb dX12_literal_32 (by decide) (fun c36 => ?_) (fun c36 => ?_)
  · have hf := g_neg hf c36
    refine lv_iconst (v := 1) hx hb dX12_literal_45 kI_1 ?_
    refine lv_goto (pc := 46) (tgt := 50) hx hb dX12_literal_46 (by decide) ?_
    exact pX12_literal_j50  B a0 a1 x32 1 u35 _ _ _ hf K (lv_sub hl [1, 2, 3, 0] rfl)
  · have hf := g_pos hf c36
    refine lv_aload_n hx hb dX12_literal_35 rfl (lv_at hl 1 rfl) ?_
    refine ok_int F K fX12_376 dX12_literal_36 ?_
    refine lv_sipush (v := 3000) hx hb dX12_literal_39 kS_3000 ?_
    refine lv_icmp_le (pc := 42) (tgt := 49) hx hb dX12_literal_42 (by decide) (fun c37 => ?_) (fun c37 => ?_)
    · have hf := g_pos hf c37
      refine lv_iconst (v := 0) hx hb dX12_literal_49 kI_0 ?_
      exact pX12_literal_j50  B a0 a1 x32 0 u35 _ _ _ hf K (lv_sub hl [1, 2, 3, 0] rfl)
    · have hf := g_neg hf c37
      refine lv_iconst (v := 1) hx hb dX12_literal_45 kI_1 ?_
      refine lv_goto (pc := 46) (tgt := 50) hx hb dX12_literal_46 (by decide) ?_
      exact pX12_literal_j50  B a0 a1 x32 1 u35 _ _ _ hf K (lv_sub hl [1, 2, 3, 0] rfl)
abbrev rmX12_give : Room := { frames := 0, cells := 0, slots := 0, locals := 0 }
set_option maxRecDepth 100000 in
set_option maxHeartbeats 4000000 in
theorem pX12_give {l : Launch} (G : Gt) {a0 : Int32} {u u' : St} (hf : fX12_give a0 u = some u') : Ctr 100 77 l yX12_give cX12_give 2 none rmX12_give [.ref (G.1 100), .int a0] G u none u' := by
  refine Ctr.mk (by decide) (Nat.le_of_ble_eq_true rfl) (fun p e s m below meth c A ls B K hl => ?_)
  have F := B.1
  have hx := F.1
  have hb := F.2.1
  have hl : lv_has ls 2 [(0, .ref (G.1 100)), (1, .int a0)] := hl
  unfold fX12_give at hf
  refine lv_aload_n hx hb dX12_give_0 rfl (lv_at hl 0 rfl) ?_
  refine ok_ref F K fX12_76 dX12_give_1 ?_
  refine lv_aload_n hx hb dX12_give_4 rfl (lv_at hl 0 rfl) ?_
  refine ok_int F K fX12_304 dX12_give_5 ?_
  refine lv_iload_n hx hb dX12_give_8 rfl (lv_at hl 1 rfl) ?_
  obtain ⟨u1, hu1, hf⟩ := g_bd hf
  refine ok_iast F K t122 hu1 dX12_give_9 (fun H locs K => ?_)
  refine lv_aload_n hx hb dX12_give_10 rfl (lv_at hl 0 rfl) ?_
  refine lv_dup hx hb dX12_give_11 rfl ?_
  refine ok_int F K fX12_304 dX12_give_12 ?_
  refine lv_iconst (v := 1) hx hb dX12_give_15 kI_1 ?_
  refine lv_iadd hx hb dX12_give_16 ?_
  refine ok_putI F K qX12_304 dX12_give_17 (fun u2 H locs eu2 K => ?_)
  have hf := g_lt hf u2 eu2
  exact ok_retv B K hf dX12_give_20
abbrev rmX12_goInside : Room := { frames := 2, cells := 0, slots := 0, locals := 53 }
set_option maxRecDepth 100000 in
set_option maxHeartbeats 4000000 in
theorem pX12_goInside_j107 {p : Program} {l : Launch} {e : Env} {s : State} {m : MethodId} {below : List Frame} {meth : Method} {c : Code} {A : Nat → Prop} {G : Gt} {a0 : Int32} {a1 : Int32} {u' : St} (B : Bd p s m [.ref (G.1 100), .int a0, .int a1] meth c yX12_goInside cX12_goInside 5 none) (x2_ : Int32) (x3_ : Int32) (x4_ : Int32) (s0_ : Int32) (u : St) (H : Heap) (locs : List Loc) (ls : Array Slot) (hf : fX12_goInside_j107 x2_ x3_ x4_ s0_ u = some u') (K : Ok 100 77 G A s u H locs) (hl : lv_has ls 5 [(0, .ref (G.1 100)), (2, .int x2_), (3, .int x3_), (4, .int x4_)]) : W p l e rmX12_goInside s m ([.ref (G.1 100), .int a0, .int a1] : List Value).toArray below meth c H locs 0 0 (MQ below (Qg 100 77 G A none u') ([.ref (G.1 100), .int a0, .int a1] : List Value).toArray s 0 0 A) (F0 m 107 ls [.int s0_, .ref (G.1 100)]) := by
  have F := B.1
  have hx := F.1
  have hb := F.2.1
  unfold fX12_goInside_j107 at hf
  obtain ⟨u1, hu1, hf⟩ := g_bd hf
  refine ok_callv (rest := []) F K (pX12_join G hu1) mX12_join oc100 lX12_405 rfl hl.1 rfl ⟨⟨rfl, rfl⟩, Nat.le_of_ble_eq_true rfl, Nat.le_of_ble_eq_true rfl⟩ (Nat.le_of_ble_eq_true rfl) dX12_goInside_107 (fun H locs K => ?_)
  refine lv_aload_n hx hb dX12_goInside_110 rfl (lv_at hl 0 rfl) ?_
  refine lv_iload hx hb dX12_goInside_111 (lv_at hl 3 rfl) ?_
  refine lv_iload_n hx hb dX12_goInside_113 rfl (lv_at hl 1 rfl) ?_
  obtain ⟨u2, hu2, hf⟩ := g_bd hf
  refine ok_callv (rest := []) F K (pX12_bare G hu2) mX12_bare oc100 lX12_402 rfl hl.1 rfl ⟨⟨rfl, rfl⟩, Nat.le_of_ble_eq_true rfl, Nat.le_of_ble_eq_true rfl⟩ (Nat.le_of_ble_eq_true rfl) dX12_goInside_114 (fun H locs K => ?_)
  refine lv_aload_n hx hb dX12_goInside_117 rfl (lv_at hl 0 rfl) ?_
  refine lv_iload_n hx hb dX12_goInside_118 rfl (lv_at hl 2 rfl) ?_
  refine lv_iload_n hx hb dX12_goInside_119 rfl (lv_at hl 1 rfl) ?_
  obtain ⟨u3, hu3, hf⟩ := g_bd hf
  refine ok_callv (rest := []) F K (pX12_bare G hu3) mX12_bare oc100 lX12_402 rfl hl.1 rfl ⟨⟨rfl, rfl⟩, Nat.le_of_ble_eq_true rfl, Nat.le_of_ble_eq_true rfl⟩ (Nat.le_of_ble_eq_true rfl) dX12_goInside_120 (fun H locs K => ?_)
  refine lv_goto (pc := 123) (tgt := 261) hx hb dX12_goInside_123 (by decide) ?_
  exact ok_retv B K hf dX12_goInside_261
set_option maxRecDepth 100000 in
set_option maxHeartbeats 4000000 in
theorem pX12_goInside_j98 {p : Program} {l : Launch} {e : Env} {s : State} {m : MethodId} {below : List Frame} {meth : Method} {c : Code} {A : Nat → Prop} {G : Gt} {a0 : Int32} {a1 : Int32} {u' : St} (B : Bd p s m [.ref (G.1 100), .int a0, .int a1] meth c yX12_goInside cX12_goInside 5 none) (x2_ : Int32) (x3_ : Int32) (x4_ : Int32) (s0_ : Int32) (u : St) (H : Heap) (locs : List Loc) (ls : Array Slot) (hf : fX12_goInside_j98 x2_ x3_ x4_ s0_ u = some u') (K : Ok 100 77 G A s u H locs) (hl : lv_has ls 5 [(0, .ref (G.1 100)), (2, .int x2_), (3, .int x3_), (4, .int x4_)]) : W p l e rmX12_goInside s m ([.ref (G.1 100), .int a0, .int a1] : List Value).toArray below meth c H locs 0 0 (MQ below (Qg 100 77 G A none u') ([.ref (G.1 100), .int a0, .int a1] : List Value).toArray s 0 0 A) (F0 m 98 ls [.int s0_, .ref (G.1 100)]) := by
  have F := B.1
  have hx := F.1
  have hb := F.2.1
  unfold fX12_goInside_j98 at hf
  refine lv_iload_n hx hb dX12_goInside_98 rfl (lv_at hl 1 rfl) ?_
  refine lv_icmp_eq (pc := 99) (tgt := 106) hx hb dX12_goInside_99 (by decide) (fun c4 => ?_) (fun c4 => ?_)
  · have hf := g_pos hf c4
    refine lv_iconst (v := 0) hx hb dX12_goInside_106 kI_0 ?_
    exact pX12_goInside_j107  B x2_ x3_ x4_ 0 u _ _ _ hf K (lv_sub hl [0, 1, 2, 3] rfl)
  · have hf := g_neg hf c4
    refine lv_iconst (v := 1) hx hb dX12_goInside_102 kI_1 ?_
    refine lv_goto (pc := 103) (tgt := 107) hx hb dX12_goInside_103 (by decide) ?_
    exact pX12_goInside_j107  B x2_ x3_ x4_ 1 u _ _ _ hf K (lv_sub hl [0, 1, 2, 3] rfl)
set_option maxRecDepth 100000 in
set_option maxHeartbeats 4000000 in
theorem pX12_goInside_j191 {p : Program} {l : Launch} {e : Env} {s : State} {m : MethodId} {below : List Frame} {meth : Method} {c : Code} {A : Nat → Prop} {G : Gt} {a0 : Int32} {a1 : Int32} {u' : St} (B : Bd p s m [.ref (G.1 100), .int a0, .int a1] meth c yX12_goInside cX12_goInside 5 none) (x2_ : Int32) (x3_ : Int32) (x4_ : Int32) (s0_ : Int32) (s1_ : Int32) (u : St) (H : Heap) (locs : List Loc) (ls : Array Slot) (hf : fX12_goInside_j191 x2_ x3_ x4_ s0_ s1_ u = some u') (K : Ok 100 77 G A s u H locs) (hl : lv_has ls 5 [(0, .ref (G.1 100)), (2, .int x2_), (3, .int x3_), (4, .int x4_)]) : W p l e rmX12_goInside s m ([.ref (G.1 100), .int a0, .int a1] : List Value).toArray below meth c H locs 0 0 (MQ below (Qg 100 77 G A none u') ([.ref (G.1 100), .int a0, .int a1] : List Value).toArray s 0 0 A) (F0 m 191 ls [.int s1_, .int s0_, .ref (G.1 100)]) := by
  have F := B.1
  have hx := F.1
  have hb := F.2.1
  unfold fX12_goInside_j191 at hf
  obtain ⟨u5, hu5, hf⟩ := g_bd hf
  refine ok_callv (rest := []) F K (pX12_bare G hu5) mX12_bare oc100 lX12_402 rfl hl.1 rfl ⟨⟨rfl, rfl⟩, Nat.le_of_ble_eq_true rfl, Nat.le_of_ble_eq_true rfl⟩ (Nat.le_of_ble_eq_true rfl) dX12_goInside_191 (fun H locs K => ?_)
  refine lv_aload_n hx hb dX12_goInside_194 rfl (lv_at hl 0 rfl) ?_
  refine lv_iload_n hx hb dX12_goInside_195 rfl (lv_at hl 1 rfl) ?_
  obtain ⟨u6, hu6, hf⟩ := g_bd hf
  refine ok_callv (rest := []) F K (pX12_join G hu6) mX12_join oc100 lX12_405 rfl hl.1 rfl ⟨⟨rfl, rfl⟩, Nat.le_of_ble_eq_true rfl, Nat.le_of_ble_eq_true rfl⟩ (Nat.le_of_ble_eq_true rfl) dX12_goInside_196 (fun H locs K => ?_)
  refine lv_aload_n hx hb dX12_goInside_199 rfl (lv_at hl 0 rfl) ?_
  refine lv_iload hx hb dX12_goInside_200 (lv_at hl 3 rfl) ?_
  refine lv_iload_n hx hb dX12_goInside_202 rfl (lv_at hl 1 rfl) ?_
  obtain ⟨u7, hu7, hf⟩ := g_bd hf
  refine ok_callv (rest := []) F K (pX12_bare G hu7) mX12_bare oc100 lX12_402 rfl hl.1 rfl ⟨⟨rfl, rfl⟩, Nat.le_of_ble_eq_true rfl, Nat.le_of_ble_eq_true rfl⟩ (Nat.le_of_ble_eq_true rfl) dX12_goInside_203 (fun H locs K => ?_)
  refine lv_aload_n hx hb dX12_goInside_206 rfl (lv_at hl 0 rfl) ?_
  refine lv_iload_n hx hb dX12_goInside_207 rfl (lv_at hl 2 rfl) ?_
  refine lv_iload_n hx hb dX12_goInside_208 rfl (lv_at hl 1 rfl) ?_
  refine lv_if_ne (pc := 209) (tgt := 216) hx hb dX12_goInside_209 (by decide) (fun c8 => ?_) (fun c8 => ?_)
  · have hf := g_neg hf c8
    refine lv_iconst (v := 0) hx hb dX12_goInside_216 kI_0 ?_
    obtain ⟨u9, hu9, hf⟩ := g_bd hf
    refine ok_callv (rest := []) F K (pX12_bare G hu9) mX12_bare oc100 lX12_402 rfl hl.1 rfl ⟨⟨rfl, rfl⟩, Nat.le_of_ble_eq_true rfl, Nat.le_of_ble_eq_true rfl⟩ (Nat.le_of_ble_eq_true rfl) dX12_goInside_217 (fun H locs K => ?_)
    refine lv_goto (pc := 220) (tgt := 261) hx hb dX12_goInside_220 (by decide) ?_
    exact ok_retv B K hf dX12_goInside_261
  · have hf := g_pos hf c8
    refine lv_iconst (v := 1) hx hb dX12_goInside_212 kI_1 ?_
    refine lv_goto (pc := 213) (tgt := 217) hx hb dX12_goInside_213 (by decide) ?_
    obtain ⟨u10, hu10, hf⟩ := g_bd hf
    refine ok_callv (rest := []) F K (pX12_bare G hu10) mX12_bare oc100 lX12_402 rfl hl.1 rfl ⟨⟨rfl, rfl⟩, Nat.le_of_ble_eq_true rfl, Nat.le_of_ble_eq_true rfl⟩ (Nat.le_of_ble_eq_true rfl) dX12_goInside_217 (fun H locs K => ?_)
    refine lv_goto (pc := 220) (tgt := 261) hx hb dX12_goInside_220 (by decide) ?_
    exact ok_retv B K hf dX12_goInside_261
set_option maxRecDepth 100000 in
set_option maxHeartbeats 4000000 in
theorem pX12_goInside_j165 {p : Program} {l : Launch} {e : Env} {s : State} {m : MethodId} {below : List Frame} {meth : Method} {c : Code} {A : Nat → Prop} {G : Gt} {a0 : Int32} {a1 : Int32} {u' : St} (B : Bd p s m [.ref (G.1 100), .int a0, .int a1] meth c yX12_goInside cX12_goInside 5 none) (x2_ : Int32) (x3_ : Int32) (x4_ : Int32) (s0_ : Int32) (u : St) (H : Heap) (locs : List Loc) (ls : Array Slot) (hf : fX12_goInside_j165 x2_ x3_ x4_ s0_ u = some u') (K : Ok 100 77 G A s u H locs) (hl : lv_has ls 5 [(0, .ref (G.1 100)), (2, .int x2_), (3, .int x3_), (4, .int x4_)]) : W p l e rmX12_goInside s m ([.ref (G.1 100), .int a0, .int a1] : List Value).toArray below meth c H locs 0 0 (MQ below (Qg 100 77 G A none u') ([.ref (G.1 100), .int a0, .int a1] : List Value).toArray s 0 0 A) (F0 m 165 ls [.int s0_, .ref (G.1 100)]) := by
  have F := B.1
  have hx := F.1
  have hb := F.2.1
  unfold fX12_goInside_j165 at hf
  obtain ⟨u11, hu11, hf⟩ := g_bd hf
  refine ok_callv (rest := []) F K (pX12_join G hu11) mX12_join oc100 lX12_405 rfl hl.1 rfl ⟨⟨rfl, rfl⟩, Nat.le_of_ble_eq_true rfl, Nat.le_of_ble_eq_true rfl⟩ (Nat.le_of_ble_eq_true rfl) dX12_goInside_165 (fun H locs K => ?_)
  refine lv_aload_n hx hb dX12_goInside_168 rfl (lv_at hl 0 rfl) ?_
  refine lv_iload_n hx hb dX12_goInside_169 rfl (lv_at hl 1 rfl) ?_
  obtain ⟨u12, hu12, hf⟩ := g_bd hf
  refine ok_callv (rest := []) F K (pX12_join G hu12) mX12_join oc100 lX12_405 rfl hl.1 rfl ⟨⟨rfl, rfl⟩, Nat.le_of_ble_eq_true rfl, Nat.le_of_ble_eq_true rfl⟩ (Nat.le_of_ble_eq_true rfl) dX12_goInside_170 (fun H locs K => ?_)
  refine lv_aload_n hx hb dX12_goInside_173 rfl (lv_at hl 0 rfl) ?_
  refine lv_iload_n hx hb dX12_goInside_174 rfl (lv_at hl 2 rfl) ?_
  refine lv_iload_n hx hb dX12_goInside_175 rfl (lv_at hl 1 rfl) ?_
  obtain ⟨u13, hu13, hf⟩ := g_bd hf
  refine ok_callv (rest := []) F K (pX12_bare G hu13) mX12_bare oc100 lX12_402 rfl hl.1 rfl ⟨⟨rfl, rfl⟩, Nat.le_of_ble_eq_true rfl, Nat.le_of_ble_eq_true rfl⟩ (Nat.le_of_ble_eq_true rfl) dX12_goInside_176 (fun H locs K => ?_)
  refine lv_aload_n hx hb dX12_goInside_179 rfl (lv_at hl 0 rfl) ?_
  refine lv_iload hx hb dX12_goInside_180 (lv_at hl 3 rfl) ?_
  refine lv_iload_n hx hb dX12_goInside_182 rfl (lv_at hl 1 rfl) ?_
  refine lv_if_ne (pc := 183) (tgt := 190) hx hb dX12_goInside_183 (by decide) (fun c14 => ?_) (fun c14 => ?_)
  · have hf := g_neg hf c14
    refine lv_iconst (v := 0) hx hb dX12_goInside_190 kI_0 ?_
    exact pX12_goInside_j191  B x2_ x3_ x4_ x4_ 0 u13 _ _ _ hf K (lv_sub hl [0, 1, 2, 3] rfl)
  · have hf := g_pos hf c14
    refine lv_iconst (v := 1) hx hb dX12_goInside_186 kI_1 ?_
    refine lv_goto (pc := 187) (tgt := 191) hx hb dX12_goInside_187 (by decide) ?_
    exact pX12_goInside_j191  B x2_ x3_ x4_ x4_ 1 u13 _ _ _ hf K (lv_sub hl [0, 1, 2, 3] rfl)
set_option maxRecDepth 100000 in
set_option maxHeartbeats 4000000 in
theorem pX12_goInside {l : Launch} (G : Gt) {a0 : Int32} {a1 : Int32} {u u' : St} (hf : fX12_goInside a0 a1 u = some u') : Ctr 100 77 l yX12_goInside cX12_goInside 5 none rmX12_goInside [.ref (G.1 100), .int a0, .int a1] G u none u' := by
  refine Ctr.mk (by decide) (Nat.le_of_ble_eq_true rfl) (fun p e s m below meth c A ls B K hl => ?_)
  have F := B.1
  have hx := F.1
  have hb := F.2.1
  have hl : lv_has ls 5 [(0, .ref (G.1 100)), (1, .int a0), (2, .int a1)] := hl
  unfold fX12_goInside at hf
  refine lv_aload_n hx hb dX12_goInside_0 rfl (lv_at hl 0 rfl) ?_
  refine ok_ref F K fX12_55 dX12_goInside_1 ?_
  refine lv_iload_n hx hb dX12_goInside_4 rfl (lv_at hl 1 rfl) ?_
  obtain ⟨v15, hv15, hf⟩ := g_bd hf
  refine ok_iald F K t115 hv15 dX12_goInside_5 ?_
  refine lv_istore_n (lv' := [(3, .int v15), (0, .ref (G.1 100)), (1, .int a0), (2, .int a1)]) hx hb dX12_goInside_6 rfl hl (by decide) rfl (fun ls hl => ?_)
  refine lv_aload_n hx hb dX12_goInside_7 rfl (lv_at hl 1 rfl) ?_
  refine ok_ref F K fX12_58 dX12_goInside_8 ?_
  refine lv_iload_n hx hb dX12_goInside_11 rfl (lv_at hl 2 rfl) ?_
  obtain ⟨v16, hv16, hf⟩ := g_bd hf
  refine ok_iald F K t116 hv16 dX12_goInside_12 ?_
  refine lv_istore (lv' := [(4, .int v16), (3, .int v15), (0, .ref (G.1 100)), (1, .int a0), (2, .int a1)]) hx hb dX12_goInside_13 hl (by decide) rfl (fun ls hl => ?_)
  refine lv_aload_n hx hb dX12_goInside_15 rfl (lv_at hl 2 rfl) ?_
  refine ok_ref F K fX12_52 dX12_goInside_16 ?_
  refine lv_iload_n hx hb dX12_goInside_19 rfl (lv_at hl 3 rfl) ?_
  obtain ⟨v17, hv17, hf⟩ := g_bd hf
  refine ok_iald F K t114 hv17 dX12_goInside_20 ?_
  by_cases c18 : v17 = 8
  · have hf := g_pos hf c18
    refine lv_tableInE (pc := 21) (K := 8) (off := 43) (tgt := 64) hx hb dX12_goInside_21 c18 (by decide) (by decide) rfl (by decide) ?_
    refine lv_aload_n hx hb dX12_goInside_64 rfl (lv_at hl 2 rfl) ?_
    refine lv_iload_n hx hb dX12_goInside_65 rfl (lv_at hl 1 rfl) ?_
    refine lv_iload_n hx hb dX12_goInside_66 rfl (lv_at hl 4 rfl) ?_
    refine lv_if_ne (pc := 67) (tgt := 74) hx hb dX12_goInside_67 (by decide) (fun c19 => ?_) (fun c19 => ?_)
    · have hf := g_neg hf c19
      refine lv_iconst (v := 0) hx hb dX12_goInside_74 kI_0 ?_
      obtain ⟨u20, hu20, hf⟩ := g_bd hf
      refine ok_callv (rest := []) F K (pX12_bare G hu20) mX12_bare oc100 lX12_402 rfl hl.1 rfl ⟨⟨rfl, rfl⟩, Nat.le_of_ble_eq_true rfl, Nat.le_of_ble_eq_true rfl⟩ (Nat.le_of_ble_eq_true rfl) dX12_goInside_75 (fun H locs K => ?_)
      refine lv_goto (pc := 78) (tgt := 261) hx hb dX12_goInside_78 (by decide) ?_
      exact ok_retv B K hf dX12_goInside_261
    · have hf := g_pos hf c19
      refine lv_iconst (v := 1) hx hb dX12_goInside_70 kI_1 ?_
      refine lv_goto (pc := 71) (tgt := 75) hx hb dX12_goInside_71 (by decide) ?_
      obtain ⟨u21, hu21, hf⟩ := g_bd hf
      refine ok_callv (rest := []) F K (pX12_bare G hu21) mX12_bare oc100 lX12_402 rfl hl.1 rfl ⟨⟨rfl, rfl⟩, Nat.le_of_ble_eq_true rfl, Nat.le_of_ble_eq_true rfl⟩ (Nat.le_of_ble_eq_true rfl) dX12_goInside_75 (fun H locs K => ?_)
      refine lv_goto (pc := 78) (tgt := 261) hx hb dX12_goInside_78 (by decide) ?_
      exact ok_retv B K hf dX12_goInside_261
  · have hf := g_neg hf c18
    by_cases c22 : v17 = 9
    · have hf := g_pos hf c22
      refine lv_tableInE (pc := 21) (K := 9) (off := 60) (tgt := 81) hx hb dX12_goInside_21 c22 (by decide) (by decide) rfl (by decide) ?_
      refine lv_aload_n hx hb dX12_goInside_81 rfl (lv_at hl 2 rfl) ?_
      refine lv_aload_n hx hb dX12_goInside_82 rfl (lv_at hl 2 rfl) ?_
      refine ok_ref F K fX12_52 dX12_goInside_83 ?_
      refine lv_iload_n hx hb dX12_goInside_86 rfl (lv_at hl 3 rfl) ?_
      obtain ⟨v23, hv23, hf⟩ := g_bd hf
      refine ok_iald F K t114 hv23 dX12_goInside_87 ?_
      refine lv_bipush (v := 9) hx hb dX12_goInside_88 kB_9 ?_
      refine lv_icmp_ne (pc := 90) (tgt := 97) hx hb dX12_goInside_90 (by decide) (fun c24 => ?_) (fun c24 => ?_)
      · have hf := g_neg hf c24
        refine lv_iconst (v := 0) hx hb dX12_goInside_97 kI_0 ?_
        exact pX12_goInside_j98  B a1 v15 v16 0 u _ _ _ hf K (lv_sub hl [2, 4, 1, 0] rfl)
      · have hf := g_pos hf c24
        refine lv_iconst (v := 1) hx hb dX12_goInside_93 kI_1 ?_
        refine lv_goto (pc := 94) (tgt := 98) hx hb dX12_goInside_94 (by decide) ?_
        exact pX12_goInside_j98  B a1 v15 v16 1 u _ _ _ hf K (lv_sub hl [2, 4, 1, 0] rfl)
    · have hf := g_neg hf c22
      by_cases c25 : v17 = 10
      · have hf := g_pos hf c25
        refine lv_tableInE (pc := 21) (K := 10) (off := 60) (tgt := 81) hx hb dX12_goInside_21 c25 (by decide) (by decide) rfl (by decide) ?_
        refine lv_aload_n hx hb dX12_goInside_81 rfl (lv_at hl 2 rfl) ?_
        refine lv_aload_n hx hb dX12_goInside_82 rfl (lv_at hl 2 rfl) ?_
        refine ok_ref F K fX12_52 dX12_goInside_83 ?_
        refine lv_iload_n hx hb dX12_goInside_86 rfl (lv_at hl 3 rfl) ?_
        obtain ⟨v26, hv26, hf⟩ := g_bd hf
        refine ok_iald F K t114 hv26 dX12_goInside_87 ?_
        refine lv_bipush (v := 9) hx hb dX12_goInside_88 kB_9 ?_
        refine lv_icmp_ne (pc := 90) (tgt := 97) hx hb dX12_goInside_90 (by decide) (fun c27 => ?_) (fun c27 => ?_)
        · have hf := g_neg hf c27
          refine lv_iconst (v := 0) hx hb dX12_goInside_97 kI_0 ?_
          exact pX12_goInside_j98  B a1 v15 v16 0 u _ _ _ hf K (lv_sub hl [2, 4, 1, 0] rfl)
        · have hf := g_pos hf c27
          refine lv_iconst (v := 1) hx hb dX12_goInside_93 kI_1 ?_
          refine lv_goto (pc := 94) (tgt := 98) hx hb dX12_goInside_94 (by decide) ?_
          exact pX12_goInside_j98  B a1 v15 v16 1 u _ _ _ hf K (lv_sub hl [2, 4, 1, 0] rfl)
      · have hf := g_neg hf c25
        by_cases c28 : v17 = 11
        · have hf := g_pos hf c28
          refine lv_tableInE (pc := 21) (K := 11) (off := 202) (tgt := 223) hx hb dX12_goInside_21 c28 (by decide) (by decide) rfl (by decide) ?_
          refine lv_aload_n hx hb dX12_goInside_223 rfl (lv_at hl 2 rfl) ?_
          refine lv_iload_n hx hb dX12_goInside_224 rfl (lv_at hl 3 rfl) ?_
          refine lv_iload_n hx hb dX12_goInside_225 rfl (lv_at hl 4 rfl) ?_
          refine lv_if_ne (pc := 226) (tgt := 233) hx hb dX12_goInside_226 (by decide) (fun c29 => ?_) (fun c29 => ?_)
          · have hf := g_neg hf c29
            refine lv_iconst (v := 0) hx hb dX12_goInside_233 kI_0 ?_
            refine lv_iload_n hx hb dX12_goInside_234 rfl (lv_at hl 4 rfl) ?_
            obtain ⟨u30, hu30, hf⟩ := g_bd hf
            refine ok_callv (rest := []) F K (pX12_quantified G hu30) mX12_quantified oc100 lX12_409 rfl hl.1 rfl ⟨⟨rfl, rfl⟩, Nat.le_of_ble_eq_true rfl, Nat.le_of_ble_eq_true rfl⟩ (Nat.le_of_ble_eq_true rfl) dX12_goInside_235 (fun H locs K => ?_)
            refine lv_goto (pc := 238) (tgt := 261) hx hb dX12_goInside_238 (by decide) ?_
            exact ok_retv B K hf dX12_goInside_261
          · have hf := g_pos hf c29
            refine lv_iconst (v := 1) hx hb dX12_goInside_229 kI_1 ?_
            refine lv_goto (pc := 230) (tgt := 234) hx hb dX12_goInside_230 (by decide) ?_
            refine lv_iload_n hx hb dX12_goInside_234 rfl (lv_at hl 4 rfl) ?_
            obtain ⟨u31, hu31, hf⟩ := g_bd hf
            refine ok_callv (rest := []) F K (pX12_quantified G hu31) mX12_quantified oc100 lX12_409 rfl hl.1 rfl ⟨⟨rfl, rfl⟩, Nat.le_of_ble_eq_true rfl, Nat.le_of_ble_eq_true rfl⟩ (Nat.le_of_ble_eq_true rfl) dX12_goInside_235 (fun H locs K => ?_)
            refine lv_goto (pc := 238) (tgt := 261) hx hb dX12_goInside_238 (by decide) ?_
            exact ok_retv B K hf dX12_goInside_261
        · have hf := g_neg hf c28
          by_cases c32 : v17 = 12
          · have hf := g_pos hf c32
            refine lv_tableInE (pc := 21) (K := 12) (off := 220) (tgt := 241) hx hb dX12_goInside_21 c32 (by decide) (by decide) rfl (by decide) ?_
            refine lv_aload_n hx hb dX12_goInside_241 rfl (lv_at hl 2 rfl) ?_
            refine lv_iload_n hx hb dX12_goInside_242 rfl (lv_at hl 3 rfl) ?_
            refine lv_iload_n hx hb dX12_goInside_243 rfl (lv_at hl 4 rfl) ?_
            refine lv_iload_n hx hb dX12_goInside_244 rfl (lv_at hl 4 rfl) ?_
            obtain ⟨u33, hu33, hf⟩ := g_bd hf
            refine ok_callv (rest := []) F K (pX12_quantified G hu33) mX12_quantified oc100 lX12_409 rfl hl.1 rfl ⟨⟨rfl, rfl⟩, Nat.le_of_ble_eq_true rfl, Nat.le_of_ble_eq_true rfl⟩ (Nat.le_of_ble_eq_true rfl) dX12_goInside_245 (fun H locs K => ?_)
            refine lv_goto (pc := 248) (tgt := 261) hx hb dX12_goInside_248 (by decide) ?_
            exact ok_retv B K hf dX12_goInside_261
          · have hf := g_neg hf c32
            by_cases c34 : v17 = 13
            · have hf := g_pos hf c34
              refine lv_tableInE (pc := 21) (K := 13) (off := 105) (tgt := 126) hx hb dX12_goInside_21 c34 (by decide) (by decide) rfl (by decide) ?_
              refine lv_aload_n hx hb dX12_goInside_126 rfl (lv_at hl 2 rfl) ?_
              refine lv_iload_n hx hb dX12_goInside_127 rfl (lv_at hl 4 rfl) ?_
              obtain ⟨u35, hu35, hf⟩ := g_bd hf
              refine ok_callv (rest := []) F K (pX12_join G hu35) mX12_join oc100 lX12_405 rfl hl.1 rfl ⟨⟨rfl, rfl⟩, Nat.le_of_ble_eq_true rfl, Nat.le_of_ble_eq_true rfl⟩ (Nat.le_of_ble_eq_true rfl) dX12_goInside_128 (fun H locs K => ?_)
              refine lv_aload_n hx hb dX12_goInside_131 rfl (lv_at hl 2 rfl) ?_
              refine lv_iload hx hb dX12_goInside_132 (lv_at hl 0 rfl) ?_
              refine lv_iload_n hx hb dX12_goInside_134 rfl (lv_at hl 4 rfl) ?_
              obtain ⟨u36, hu36, hf⟩ := g_bd hf
              refine ok_callv (rest := []) F K (pX12_bare G hu36) mX12_bare oc100 lX12_402 rfl hl.1 rfl ⟨⟨rfl, rfl⟩, Nat.le_of_ble_eq_true rfl, Nat.le_of_ble_eq_true rfl⟩ (Nat.le_of_ble_eq_true rfl) dX12_goInside_135 (fun H locs K => ?_)
              refine lv_aload_n hx hb dX12_goInside_138 rfl (lv_at hl 2 rfl) ?_
              refine lv_iload_n hx hb dX12_goInside_139 rfl (lv_at hl 1 rfl) ?_
              refine lv_iload_n hx hb dX12_goInside_140 rfl (lv_at hl 4 rfl) ?_
              refine lv_if_ne (pc := 141) (tgt := 148) hx hb dX12_goInside_141 (by decide) (fun c37 => ?_) (fun c37 => ?_)
              · have hf := g_neg hf c37
                refine lv_iconst (v := 0) hx hb dX12_goInside_148 kI_0 ?_
                obtain ⟨u38, hu38, hf⟩ := g_bd hf
                refine ok_callv (rest := []) F K (pX12_bare G hu38) mX12_bare oc100 lX12_402 rfl hl.1 rfl ⟨⟨rfl, rfl⟩, Nat.le_of_ble_eq_true rfl, Nat.le_of_ble_eq_true rfl⟩ (Nat.le_of_ble_eq_true rfl) dX12_goInside_149 (fun H locs K => ?_)
                refine lv_goto (pc := 152) (tgt := 261) hx hb dX12_goInside_152 (by decide) ?_
                exact ok_retv B K hf dX12_goInside_261
              · have hf := g_pos hf c37
                refine lv_iconst (v := 1) hx hb dX12_goInside_144 kI_1 ?_
                refine lv_goto (pc := 145) (tgt := 149) hx hb dX12_goInside_145 (by decide) ?_
                obtain ⟨u39, hu39, hf⟩ := g_bd hf
                refine ok_callv (rest := []) F K (pX12_bare G hu39) mX12_bare oc100 lX12_402 rfl hl.1 rfl ⟨⟨rfl, rfl⟩, Nat.le_of_ble_eq_true rfl, Nat.le_of_ble_eq_true rfl⟩ (Nat.le_of_ble_eq_true rfl) dX12_goInside_149 (fun H locs K => ?_)
                refine lv_goto (pc := 152) (tgt := 261) hx hb dX12_goInside_152 (by decide) ?_
                exact ok_retv B K hf dX12_goInside_261
            · have hf := g_neg hf c34
              by_cases c40 : v17 = 14
              · have hf := g_pos hf c40
                refine lv_tableInE (pc := 21) (K := 14) (off := 134) (tgt := 155) hx hb dX12_goInside_21 c40 (by decide) (by decide) rfl (by decide) ?_
                refine lv_aload_n hx hb dX12_goInside_155 rfl (lv_at hl 2 rfl) ?_
                refine lv_iload_n hx hb dX12_goInside_156 rfl (lv_at hl 4 rfl) ?_
                refine lv_if_ne (pc := 157) (tgt := 164) hx hb dX12_goInside_157 (by decide) (fun c41 => ?_) (fun c41 => ?_)
                · have hf := g_neg hf c41
                  refine lv_iconst (v := 0) hx hb dX12_goInside_164 kI_0 ?_
                  exact pX12_goInside_j165  B a1 v15 v16 0 u _ _ _ hf K (lv_sub hl [2, 4, 1, 0] rfl)
                · have hf := g_pos hf c41
                  refine lv_iconst (v := 1) hx hb dX12_goInside_160 kI_1 ?_
                  refine lv_goto (pc := 161) (tgt := 165) hx hb dX12_goInside_161 (by decide) ?_
                  exact pX12_goInside_j165  B a1 v15 v16 1 u _ _ _ hf K (lv_sub hl [2, 4, 1, 0] rfl)
              · have hf := g_neg hf c40
                refine lv_tableOut (pc := 21) (tgt := 251) hx hb dX12_goInside_21 (sw_out v17 8 14 (fun k h1 h2 => by have h3 : k = 8 ∨ k = 9 ∨ k = 10 ∨ k = 11 ∨ k = 12 ∨ k = 13 ∨ k = 14 := (by omega); rcases h3 with rfl | rfl | rfl | rfl | rfl | rfl | rfl <;> simp only [kI_8, kI_9, kI_10, kI_11, kI_12, kI_13, kI_14] <;> assumption)) (by decide) ?_
                refine lv_aload_n hx hb dX12_goInside_251 rfl (lv_at hl 2 rfl) ?_
                refine lv_aload_n hx hb dX12_goInside_252 rfl (lv_at hl 2 rfl) ?_
                refine lv_iload_n hx hb dX12_goInside_253 rfl (lv_at hl 3 rfl) ?_
                refine lv_iload_n hx hb dX12_goInside_254 rfl (lv_at hl 4 rfl) ?_
                obtain ⟨r43, u42, hu42, hf⟩ := g_b2 hf
                refine ok_calli (rest := [.ref (G.1 100)]) F K (pX12_literal G hu42) mX12_literal oc100 lX12_413 rfl hl.1 rfl ⟨⟨rfl, rfl⟩, Nat.le_of_ble_eq_true rfl, Nat.le_of_ble_eq_true rfl⟩ (Nat.le_of_ble_eq_true rfl) dX12_goInside_255 (fun H locs K => ?_)
                obtain ⟨u44, hu44, hf⟩ := g_bd hf
                refine ok_callv (rest := []) F K (pX12_give G hu44) mX12_give oc100 lX12_314 rfl hl.1 rfl ⟨⟨rfl, rfl⟩, Nat.le_of_ble_eq_true rfl, Nat.le_of_ble_eq_true rfl⟩ (Nat.le_of_ble_eq_true rfl) dX12_goInside_258 (fun H locs K => ?_)
                exact ok_retv B K hf dX12_goInside_261
abbrev rmX12_got : Room := { frames := 0, cells := 0, slots := 0, locals := 0 }
set_option maxRecDepth 100000 in
set_option maxHeartbeats 4000000 in
theorem pX12_got {l : Launch} (G : Gt) {r : Int32} {u u' : St} (hf : fX12_got u = some (r, u')) : Ctr 100 77 l yX12_got cX12_got 1 (some .int) rmX12_got [.ref (G.1 100)] G u (some (.int r)) u' := by
  refine Ctr.mk (by decide) (Nat.le_of_ble_eq_true rfl) (fun p e s m below meth c A ls B K hl => ?_)
  have F := B.1
  have hx := F.1
  have hb := F.2.1
  have hl : lv_has ls 1 [(0, .ref (G.1 100))] := hl
  unfold fX12_got at hf
  refine lv_aload_n hx hb dX12_got_0 rfl (lv_at hl 0 rfl) ?_
  refine lv_dup hx hb dX12_got_1 rfl ?_
  refine ok_int F K fX12_304 dX12_got_2 ?_
  refine lv_iconst (v := 1) hx hb dX12_got_5 kI_1 ?_
  refine lv_isub hx hb dX12_got_6 ?_
  refine ok_putI F K qX12_304 dX12_got_7 (fun u1 H locs eu1 K => ?_)
  have hf := g_lt hf u1 eu1
  refine lv_aload_n hx hb dX12_got_10 rfl (lv_at hl 0 rfl) ?_
  refine ok_ref F K fX12_76 dX12_got_11 ?_
  refine lv_aload_n hx hb dX12_got_14 rfl (lv_at hl 0 rfl) ?_
  refine ok_int F K fX12_304 dX12_got_15 ?_
  obtain ⟨v2, hv2, hf⟩ := g_bd hf
  refine ok_iald F K t122 hv2 dX12_got_18 ?_
  exact ok_reti B K hf dX12_got_19
abbrev rmX12_inside : Room := { frames := 3, cells := 0, slots := 0, locals := 77 }
set_option maxRecDepth 100000 in
set_option maxHeartbeats 4000000 in
theorem pX12_inside_j174 {p : Program} {l : Launch} {e : Env} {s : State} {m : MethodId} {below : List Frame} {meth : Method} {c : Code} {A : Nat → Prop} {G : Gt} {a0 : Int32} {r : Int32} {u' : St} (B : Bd p s m [.ref (G.1 100), .int a0] meth c yX12_inside cX12_inside 5 (some .int)) (u : St) (H : Heap) (locs : List Loc) (ls : Array Slot) (hf : fX12_inside_j174  u = some (r, u')) (K : Ok 100 77 G A s u H locs) (hl : lv_has ls 5 [(0, .ref (G.1 100))]) : W p l e rmX12_inside s m ([.ref (G.1 100), .int a0] : List Value).toArray below meth c H locs 0 0 (MQ below (Qg 100 77 G A (some (.int r)) u') ([.ref (G.1 100), .int a0] : List Value).toArray s 0 0 A) (F0 m 174 ls []) := by
  have F := B.1
  have hx := F.1
  have hb := F.2.1
  unfold fX12_inside_j174 at hf
  refine lv_aload_n hx hb dX12_inside_174 rfl (lv_at hl 0 rfl) ?_
  refine ok_int F K fX12_370 dX12_inside_175 ?_
  refine lv_if_eq (pc := 178) (tgt := 185) hx hb dX12_inside_178 (by decide) (fun c1 => ?_) (fun c1 => ?_)
  · have hf := g_pos hf c1
    refine lv_aload_n hx hb dX12_inside_185 rfl (lv_at hl 0 rfl) ?_
    obtain ⟨r3, u2, hu2, hf⟩ := g_b2 hf
    refine ok_calli (rest := []) F K (pX12_got G hu2) mX12_got oc100 lX12_307 rfl hl.1 rfl ⟨⟨rfl, rfl⟩, Nat.le_of_ble_eq_true rfl, Nat.le_of_ble_eq_true rfl⟩ (Nat.le_of_ble_eq_true rfl) dX12_inside_186 (fun H locs K => ?_)
    exact ok_reti B K hf dX12_inside_189
  · have hf := g_neg hf c1
    refine lv_iconst (v := 0) hx hb dX12_inside_181 kI_0 ?_
    refine lv_goto (pc := 182) (tgt := 189) hx hb dX12_inside_182 (by decide) ?_
    exact ok_reti B K hf dX12_inside_189
set_option maxRecDepth 100000 in
set_option maxHeartbeats 4000000 in
theorem pX12_inside_L0 {p : Program} {l : Launch} {e : Env} {s : State} {m : MethodId} {below : List Frame} {meth : Method} {c : Code} {A : Nat → Prop} {G : Gt} {a0 : Int32} {r : Int32} {u' : St} (B : Bd p s m [.ref (G.1 100), .int a0] meth c yX12_inside cX12_inside 5 (some .int)) (n : Nat) : (∀ (u : St) (H : Heap) (locs : List Loc) (ls : Array Slot), fX12_inside_L0  n 0 0 0 0 0 u = some (r, u') → Ok 100 77 G A s u H locs → lv_has ls 5 [(0, .ref (G.1 100))] → W p l e rmX12_inside s m ([.ref (G.1 100), .int a0] : List Value).toArray below meth c H locs 0 0 (MQ below (Qg 100 77 G A (some (.int r)) u') ([.ref (G.1 100), .int a0] : List Value).toArray s 0 0 A) (F0 m 17 ls [])) ∧ (∀ (x2_ : Int32) (u : St) (H : Heap) (locs : List Loc) (ls : Array Slot), fX12_inside_L0  n 1 x2_ 0 0 0 u = some (r, u') → Ok 100 77 G A s u H locs → lv_has ls 5 [(0, .ref (G.1 100)), (2, .int x2_)] → W p l e rmX12_inside s m ([.ref (G.1 100), .int a0] : List Value).toArray below meth c H locs 0 0 (MQ below (Qg 100 77 G A (some (.int r)) u') ([.ref (G.1 100), .int a0] : List Value).toArray s 0 0 A) (F0 m 63 ls [])) ∧ (∀ (x2_ : Int32) (u : St) (H : Heap) (locs : List Loc) (ls : Array Slot), fX12_inside_L0  n 2 x2_ 0 0 0 u = some (r, u') → Ok 100 77 G A s u H locs → lv_has ls 5 [(0, .ref (G.1 100)), (2, .int x2_)] → W p l e rmX12_inside s m ([.ref (G.1 100), .int a0] : List Value).toArray below meth c H locs 0 0 (MQ below (Qg 100 77 G A (some (.int r)) u') ([.ref (G.1 100), .int a0] : List Value).toArray s 0 0 A) (F0 m 102 ls [])) ∧ (∀ (x3_ : Int32) (x4_ : Int32) (s0_ : Int32) (u : St) (H : Heap) (locs : List Loc) (ls : Array Slot), fX12_inside_L0  n 3 0 x3_ x4_ s0_ u = some (r, u') → Ok 100 77 G A s u H locs → lv_has ls 5 [(0, .ref (G.1 100)), (3, .int x3_), (4, .int x4_)] → W p l e rmX12_inside s m ([.ref (G.1 100), .int a0] : List Value).toArray below meth c H locs 0 0 (MQ below (Qg 100 77 G A (some (.int r)) u') ([.ref (G.1 100), .int a0] : List Value).toArray s 0 0 A) (F0 m 128 ls [.int s0_, .ref (G.1 100), .ref (G.1 100)])) := by
  have F := B.1
  have hx := F.1
  have hb := F.2.1
  induction n with
  | zero => exact ⟨fun _ _ _ _ hf => g_no hf, fun _ _ _ _ _ hf => g_no hf, fun _ _ _ _ _ hf => g_no hf, fun _ _ _ _ _ _ _ hf => g_no hf⟩
  | succ n ih =>
    refine ⟨?_, ?_, ?_, ?_⟩
    · intro  u H locs ls hf K hl
      have hf : fX12_inside_L0_0  (fX12_inside_L0  n)  u = some (r, u') := hf
      unfold fX12_inside_L0_0 at hf
      refine lv_aload_n hx hb dX12_inside_17 rfl (lv_at hl 0 rfl) ?_
      refine ok_int F K fX12_301 dX12_inside_18 ?_
      refine lv_if_le (pc := 21) (tgt := 174) hx hb dX12_inside_21 (by decide) (fun c4 => ?_) (fun c4 => ?_)
      · have hf := g_pos hf c4
        exact pX12_inside_j174  B  u _ _ _ hf K (lv_sub hl [0] rfl)
      · have hf := g_neg hf c4
        refine lv_aload_n hx hb dX12_inside_24 rfl (lv_at hl 0 rfl) ?_
        refine ok_int F K fX12_370 dX12_inside_25 ?_
        refine lv_if_ne (pc := 28) (tgt := 174) hx hb dX12_inside_28 (by decide) (fun c5 => ?_) (fun c5 => ?_)
        · have hf := g_neg hf c5
          exact pX12_inside_j174  B  u _ _ _ hf K (lv_sub hl [0] rfl)
        · have hf := g_pos hf c5
          refine lv_aload_n hx hb dX12_inside_31 rfl (lv_at hl 0 rfl) ?_
          refine lv_dup hx hb dX12_inside_32 rfl ?_
          refine ok_int F K fX12_301 dX12_inside_33 ?_
          refine lv_iconst (v := 1) hx hb dX12_inside_36 kI_1 ?_
          refine lv_isub hx hb dX12_inside_37 ?_
          refine ok_putI F K qX12_301 dX12_inside_38 (fun u6 H locs eu6 K => ?_)
          have hf := g_lt hf u6 eu6
          refine lv_aload_n hx hb dX12_inside_41 rfl (lv_at hl 0 rfl) ?_
          refine ok_ref F K fX12_70 dX12_inside_42 ?_
          refine lv_aload_n hx hb dX12_inside_45 rfl (lv_at hl 0 rfl) ?_
          refine ok_int F K fX12_301 dX12_inside_46 ?_
          obtain ⟨v7, hv7, hf⟩ := g_bd hf
          refine ok_iald F K t120 hv7 dX12_inside_49 ?_
          refine lv_istore_n (lv' := [(2, .int v7), (0, .ref (G.1 100))]) hx hb dX12_inside_50 rfl hl (by decide) rfl (fun ls hl => ?_)
          refine lv_iload_n hx hb dX12_inside_51 rfl (lv_at hl 0 rfl) ?_
          refine lv_bipush (v := 20) hx hb dX12_inside_52 kB_20 ?_
          refine lv_icmp_eq (pc := 54) (tgt := 63) hx hb dX12_inside_54 (by decide) (fun c8 => ?_) (fun c8 => ?_)
          · have hf := g_pos hf c8
            exact ih.2.1 v7 u6 _ _ _ hf K (lv_sub hl [1, 0] rfl)
          · have hf := g_neg hf c8
            refine lv_iload_n hx hb dX12_inside_57 rfl (lv_at hl 0 rfl) ?_
            refine lv_bipush (v := 21) hx hb dX12_inside_58 kB_21 ?_
            refine lv_icmp_ne (pc := 60) (tgt := 90) hx hb dX12_inside_60 (by decide) (fun c9 => ?_) (fun c9 => ?_)
            · have hf := g_neg hf c9
              refine lv_iload_n hx hb dX12_inside_90 rfl (lv_at hl 0 rfl) ?_
              refine lv_bipush (v := 22) hx hb dX12_inside_91 kB_22 ?_
              refine lv_icmp_eq (pc := 93) (tgt := 102) hx hb dX12_inside_93 (by decide) (fun c10 => ?_) (fun c10 => ?_)
              · have hf := g_pos hf c10
                exact ih.2.2.1 v7 u6 _ _ _ hf K (lv_sub hl [1, 0] rfl)
              · have hf := g_neg hf c10
                refine lv_iload_n hx hb dX12_inside_96 rfl (lv_at hl 0 rfl) ?_
                refine lv_bipush (v := 23) hx hb dX12_inside_97 kB_23 ?_
                refine lv_icmp_ne (pc := 99) (tgt := 141) hx hb dX12_inside_99 (by decide) (fun c11 => ?_) (fun c11 => ?_)
                · have hf := g_neg hf c11
                  refine lv_aload_n hx hb dX12_inside_141 rfl (lv_at hl 1 rfl) ?_
                  refine lv_dup hx hb dX12_inside_142 rfl ?_
                  refine ok_int F K fX12_373 dX12_inside_143 ?_
                  refine lv_iconst (v := 1) hx hb dX12_inside_146 kI_1 ?_
                  refine lv_isub hx hb dX12_inside_147 ?_
                  refine ok_putI F K qX12_373 dX12_inside_148 (fun u12 H locs eu12 K => ?_)
                  have hf := g_lt hf u12 eu12
                  refine lv_aload_n hx hb dX12_inside_151 rfl (lv_at hl 1 rfl) ?_
                  refine lv_dup hx hb dX12_inside_152 rfl ?_
                  refine ok_int F K fX12_385 dX12_inside_153 ?_
                  refine lv_iload_n hx hb dX12_inside_156 rfl (lv_at hl 0 rfl) ?_
                  refine lv_bipush (v := 24) hx hb dX12_inside_157 kB_24 ?_
                  refine lv_icmp_ne (pc := 159) (tgt := 166) hx hb dX12_inside_159 (by decide) (fun c13 => ?_) (fun c13 => ?_)
                  · have hf := g_neg hf c13
                    refine lv_iconst (v := 0) hx hb dX12_inside_166 kI_0 ?_
                    refine lv_isub hx hb dX12_inside_167 ?_
                    refine ok_putI F K qX12_385 dX12_inside_168 (fun u14 H locs eu14 K => ?_)
                    have hf := g_lt hf u14 eu14
                    refine lv_goto (pc := 171) (tgt := 17) hx hb dX12_inside_171 (by decide) ?_
                    exact ih.1  u14 _ _ _ hf K (lv_sub hl [1] rfl)
                  · have hf := g_pos hf c13
                    refine lv_iconst (v := 1) hx hb dX12_inside_162 kI_1 ?_
                    refine lv_goto (pc := 163) (tgt := 167) hx hb dX12_inside_163 (by decide) ?_
                    refine lv_isub hx hb dX12_inside_167 ?_
                    refine ok_putI F K qX12_385 dX12_inside_168 (fun u15 H locs eu15 K => ?_)
                    have hf := g_lt hf u15 eu15
                    refine lv_goto (pc := 171) (tgt := 17) hx hb dX12_inside_171 (by decide) ?_
                    exact ih.1  u15 _ _ _ hf K (lv_sub hl [1] rfl)
                · have hf := g_pos hf c11
                  exact ih.2.2.1 v7 u6 _ _ _ hf K (lv_sub hl [1, 0] rfl)
            · have hf := g_pos hf c9
              exact ih.2.1 v7 u6 _ _ _ hf K (lv_sub hl [1, 0] rfl)
    · intro x2_ u H locs ls hf K hl
      have hf : fX12_inside_L0_1  (fX12_inside_L0  n) x2_ u = some (r, u') := hf
      unfold fX12_inside_L0_1 at hf
      refine lv_aload_n hx hb dX12_inside_63 rfl (lv_at hl 0 rfl) ?_
      refine lv_aload_n hx hb dX12_inside_64 rfl (lv_at hl 0 rfl) ?_
      refine ok_ref F K fX12_73 dX12_inside_65 ?_
      refine lv_aload_n hx hb dX12_inside_68 rfl (lv_at hl 0 rfl) ?_
      refine ok_int F K fX12_301 dX12_inside_69 ?_
      obtain ⟨v16, hv16, hf⟩ := g_bd hf
      refine ok_iald F K t121 hv16 dX12_inside_72 ?_
      refine lv_iload_n hx hb dX12_inside_73 rfl (lv_at hl 1 rfl) ?_
      refine lv_bipush (v := 21) hx hb dX12_inside_74 kB_21 ?_
      refine lv_icmp_ne (pc := 76) (tgt := 83) hx hb dX12_inside_76 (by decide) (fun c17 => ?_) (fun c17 => ?_)
      · have hf := g_neg hf c17
        refine lv_iconst (v := 0) hx hb dX12_inside_83 kI_0 ?_
        obtain ⟨u18, hu18, hf⟩ := g_bd hf
        refine ok_callv (rest := []) F K (pX12_goInside G hu18) mX12_goInside oc100 lX12_394 rfl hl.1 rfl ⟨⟨rfl, rfl⟩, Nat.le_of_ble_eq_true rfl, Nat.le_of_ble_eq_true rfl⟩ (Nat.le_of_ble_eq_true rfl) dX12_inside_84 (fun H locs K => ?_)
        refine lv_goto (pc := 87) (tgt := 171) hx hb dX12_inside_87 (by decide) ?_
        refine lv_goto (pc := 171) (tgt := 17) hx hb dX12_inside_171 (by decide) ?_
        exact ih.1  u18 _ _ _ hf K (lv_sub hl [0] rfl)
      · have hf := g_pos hf c17
        refine lv_iconst (v := 1) hx hb dX12_inside_79 kI_1 ?_
        refine lv_goto (pc := 80) (tgt := 84) hx hb dX12_inside_80 (by decide) ?_
        obtain ⟨u19, hu19, hf⟩ := g_bd hf
        refine ok_callv (rest := []) F K (pX12_goInside G hu19) mX12_goInside oc100 lX12_394 rfl hl.1 rfl ⟨⟨rfl, rfl⟩, Nat.le_of_ble_eq_true rfl, Nat.le_of_ble_eq_true rfl⟩ (Nat.le_of_ble_eq_true rfl) dX12_inside_84 (fun H locs K => ?_)
        refine lv_goto (pc := 87) (tgt := 171) hx hb dX12_inside_87 (by decide) ?_
        refine lv_goto (pc := 171) (tgt := 17) hx hb dX12_inside_171 (by decide) ?_
        exact ih.1  u19 _ _ _ hf K (lv_sub hl [0] rfl)
    · intro x2_ u H locs ls hf K hl
      have hf : fX12_inside_L0_2  (fX12_inside_L0  n) x2_ u = some (r, u') := hf
      unfold fX12_inside_L0_2 at hf
      refine lv_aload_n hx hb dX12_inside_102 rfl (lv_at hl 0 rfl) ?_
      obtain ⟨r21, u20, hu20, hf⟩ := g_b2 hf
      refine ok_calli (rest := []) F K (pX12_got G hu20) mX12_got oc100 lX12_307 rfl hl.1 rfl ⟨⟨rfl, rfl⟩, Nat.le_of_ble_eq_true rfl, Nat.le_of_ble_eq_true rfl⟩ (Nat.le_of_ble_eq_true rfl) dX12_inside_103 (fun H locs K => ?_)
      refine lv_istore_n (lv' := [(3, .int r21), (0, .ref (G.1 100)), (2, .int x2_)]) hx hb dX12_inside_106 rfl hl (by decide) rfl (fun ls hl => ?_)
      refine lv_aload_n hx hb dX12_inside_107 rfl (lv_at hl 1 rfl) ?_
      obtain ⟨r23, u22, hu22, hf⟩ := g_b2 hf
      refine ok_calli (rest := []) F K (pX12_got G hu22) mX12_got oc100 lX12_307 rfl hl.1 rfl ⟨⟨rfl, rfl⟩, Nat.le_of_ble_eq_true rfl, Nat.le_of_ble_eq_true rfl⟩ (Nat.le_of_ble_eq_true rfl) dX12_inside_108 (fun H locs K => ?_)
      refine lv_istore (lv' := [(4, .int r23), (3, .int r21), (0, .ref (G.1 100)), (2, .int x2_)]) hx hb dX12_inside_111 hl (by decide) rfl (fun ls hl => ?_)
      refine lv_aload_n hx hb dX12_inside_113 rfl (lv_at hl 2 rfl) ?_
      refine lv_aload_n hx hb dX12_inside_114 rfl (lv_at hl 2 rfl) ?_
      refine lv_iload_n hx hb dX12_inside_115 rfl (lv_at hl 3 rfl) ?_
      refine lv_bipush (v := 22) hx hb dX12_inside_116 kB_22 ?_
      refine lv_icmp_ne (pc := 118) (tgt := 126) hx hb dX12_inside_118 (by decide) (fun c24 => ?_) (fun c24 => ?_)
      · have hf := g_neg hf c24
        refine lv_bipush (v := 10) hx hb dX12_inside_126 kB_10 ?_
        exact ih.2.2.2 r21 r23 10 u22 _ _ _ hf K (lv_sub hl [2, 1, 0] rfl)
      · have hf := g_pos hf c24
        refine lv_bipush (v := 9) hx hb dX12_inside_121 kB_9 ?_
        refine lv_goto (pc := 123) (tgt := 128) hx hb dX12_inside_123 (by decide) ?_
        exact ih.2.2.2 r21 r23 9 u22 _ _ _ hf K (lv_sub hl [2, 1, 0] rfl)
    · intro x3_ x4_ s0_ u H locs ls hf K hl
      have hf : fX12_inside_L0_3  (fX12_inside_L0  n) x3_ x4_ s0_ u = some (r, u') := hf
      unfold fX12_inside_L0_3 at hf
      refine lv_iload hx hb dX12_inside_128 (lv_at hl 2 rfl) ?_
      refine lv_iload_n hx hb dX12_inside_130 rfl (lv_at hl 1 rfl) ?_
      refine lv_iconst (v := 0) hx hb dX12_inside_131 kI_0 ?_
      obtain ⟨r26, u25, hu25, hf⟩ := g_b2 hf
      refine ok_calli (rest := [.ref (G.1 100)]) F K (pX12_tree G hu25) mX12_tree oc100 lX12_398 rfl hl.1 rfl ⟨⟨rfl, rfl⟩, Nat.le_of_ble_eq_true rfl, Nat.le_of_ble_eq_true rfl⟩ (Nat.le_of_ble_eq_true rfl) dX12_inside_132 (fun H locs K => ?_)
      obtain ⟨u27, hu27, hf⟩ := g_bd hf
      refine ok_callv (rest := []) F K (pX12_give G hu27) mX12_give oc100 lX12_314 rfl hl.1 rfl ⟨⟨rfl, rfl⟩, Nat.le_of_ble_eq_true rfl, Nat.le_of_ble_eq_true rfl⟩ (Nat.le_of_ble_eq_true rfl) dX12_inside_135 (fun H locs K => ?_)
      refine lv_goto (pc := 138) (tgt := 171) hx hb dX12_inside_138 (by decide) ?_
      refine lv_goto (pc := 171) (tgt := 17) hx hb dX12_inside_171 (by decide) ?_
      exact ih.1  u27 _ _ _ hf K (lv_sub hl [0] rfl)
set_option maxRecDepth 100000 in
set_option maxHeartbeats 4000000 in
theorem pX12_inside {l : Launch} (G : Gt) {a0 : Int32} {r : Int32} {u u' : St} (hf : fX12_inside a0 u = some (r, u')) : Ctr 100 77 l yX12_inside cX12_inside 5 (some .int) rmX12_inside [.ref (G.1 100), .int a0] G u (some (.int r)) u' := by
  refine Ctr.mk (by decide) (Nat.le_of_ble_eq_true rfl) (fun p e s m below meth c A ls B K hl => ?_)
  have F := B.1
  have hx := F.1
  have hb := F.2.1
  have hl : lv_has ls 5 [(0, .ref (G.1 100)), (1, .int a0)] := hl
  unfold fX12_inside at hf
  refine lv_aload_n hx hb dX12_inside_0 rfl (lv_at hl 0 rfl) ?_
  refine lv_iconst (v := 0) hx hb dX12_inside_1 kI_0 ?_
  refine ok_putI F K qX12_301 dX12_inside_2 (fun u28 H locs eu28 K => ?_)
  have hf := g_lt hf u28 eu28
  refine lv_aload_n hx hb dX12_inside_5 rfl (lv_at hl 0 rfl) ?_
  refine lv_iconst (v := 0) hx hb dX12_inside_6 kI_0 ?_
  refine ok_putI F K qX12_304 dX12_inside_7 (fun u29 H locs eu29 K => ?_)
  have hf := g_lt hf u29 eu29
  refine lv_aload_n hx hb dX12_inside_10 rfl (lv_at hl 0 rfl) ?_
  refine lv_bipush (v := 20) hx hb dX12_inside_11 kB_20 ?_
  refine lv_iload_n hx hb dX12_inside_13 rfl (lv_at hl 1 rfl) ?_
  obtain ⟨u30, hu30, hf⟩ := g_bd hf
  refine ok_callv (rest := []) F K (pX12_push G hu30) mX12_push oc100 lX12_318 rfl hl.1 rfl ⟨⟨rfl, rfl⟩, Nat.le_of_ble_eq_true rfl, Nat.le_of_ble_eq_true rfl⟩ (Nat.le_of_ble_eq_true rfl) dX12_inside_14 (fun H locs K => ?_)
  exact (pX12_inside_L0  B FU).1  u30 _ _ _ hf K (lv_sub hl [0] rfl)
abbrev rmX12_newWay : Room := { frames := 0, cells := 0, slots := 0, locals := 0 }
set_option maxRecDepth 100000 in
set_option maxHeartbeats 4000000 in
theorem pX12_newWay {l : Launch} (G : Gt) {u u' : St} (hf : fX12_newWay u = some u') : Ctr 100 77 l yX12_newWay cX12_newWay 1 none rmX12_newWay [.ref (G.1 100)] G u none u' := by
  refine Ctr.mk (by decide) (Nat.le_of_ble_eq_true rfl) (fun p e s m below meth c A ls B K hl => ?_)
  have F := B.1
  have hx := F.1
  have hb := F.2.1
  have hl : lv_has ls 1 [(0, .ref (G.1 100))] := hl
  unfold fX12_newWay at hf
  refine lv_aload_n hx hb dX12_newWay_0 rfl (lv_at hl 0 rfl) ?_
  refine ok_int F K fX12_423 dX12_newWay_1 ?_
  refine lv_sipush (v := 600) hx hb dX12_newWay_4 kS_600 ?_
  refine lv_icmp_ne (pc := 7) (tgt := 16) hx hb dX12_newWay_7 (by decide) (fun c1 => ?_) (fun c1 => ?_)
  · have hf := g_neg hf c1
    refine lv_aload_n hx hb dX12_newWay_16 rfl (lv_at hl 0 rfl) ?_
    refine ok_ref F K fX12_124 dX12_newWay_17 ?_
    refine lv_aload_n hx hb dX12_newWay_20 rfl (lv_at hl 0 rfl) ?_
    refine ok_int F K fX12_423 dX12_newWay_21 ?_
    refine lv_aload_n hx hb dX12_newWay_24 rfl (lv_at hl 0 rfl) ?_
    refine ok_int F K fX12_426 dX12_newWay_25 ?_
    obtain ⟨u2, hu2, hf⟩ := g_bd hf
    refine ok_iast F K t138 hu2 dX12_newWay_28 (fun H locs K => ?_)
    refine lv_aload_n hx hb dX12_newWay_29 rfl (lv_at hl 0 rfl) ?_
    refine ok_ref F K fX12_127 dX12_newWay_30 ?_
    refine lv_aload_n hx hb dX12_newWay_33 rfl (lv_at hl 0 rfl) ?_
    refine ok_int F K fX12_423 dX12_newWay_34 ?_
    refine lv_iconst (v := 0) hx hb dX12_newWay_37 kI_0 ?_
    obtain ⟨u3, hu3, hf⟩ := g_bd hf
    refine ok_iast F K t139 hu3 dX12_newWay_38 (fun H locs K => ?_)
    refine lv_aload_n hx hb dX12_newWay_39 rfl (lv_at hl 0 rfl) ?_
    refine lv_dup hx hb dX12_newWay_40 rfl ?_
    refine ok_int F K fX12_423 dX12_newWay_41 ?_
    refine lv_iconst (v := 1) hx hb dX12_newWay_44 kI_1 ?_
    refine lv_iadd hx hb dX12_newWay_45 ?_
    refine ok_putI F K qX12_423 dX12_newWay_46 (fun u4 H locs eu4 K => ?_)
    have hf := g_lt hf u4 eu4
    exact ok_retv B K hf dX12_newWay_49
  · have hf := g_pos hf c1
    refine lv_aload_n hx hb dX12_newWay_10 rfl (lv_at hl 0 rfl) ?_
    refine lv_iconst (v := 1) hx hb dX12_newWay_11 kI_1 ?_
    refine ok_putZ F K qX12_370 (Or.inr rfl) dX12_newWay_12 (fun u5 H locs eu5 K => ?_)
    have hf := g_lt hf u5 eu5
    exact ok_retv B K hf dX12_newWay_15
abbrev rmX12_distributeOne : Room := { frames := 2, cells := 0, slots := 0, locals := 43 }
set_option maxRecDepth 100000 in
set_option maxHeartbeats 4000000 in
theorem pX12_distributeOne_L0 {p : Program} {l : Launch} {e : Env} {s : State} {m : MethodId} {below : List Frame} {meth : Method} {c : Code} {A : Nat → Prop} {G : Gt} {a0 : Int32} {a1 : Int32} {a2 : Int32} {u' : St} (B : Bd p s m [.ref (G.1 100), .int a0, .int a1, .int a2] meth c yX12_distributeOne cX12_distributeOne 6 none) (n : Nat) : (∀ (x2_ : Int32) (x3_ : Int32) (x4_ : Int32) (u : St) (H : Heap) (locs : List Loc) (ls : Array Slot), fX12_distributeOne_L0  n 0 x2_ x3_ x4_ 0 u = some u' → Ok 100 77 G A s u H locs → lv_has ls 6 [(0, .ref (G.1 100)), (2, .int x2_), (3, .int x3_), (4, .int x4_)] → W p l e rmX12_distributeOne s m ([.ref (G.1 100), .int a0, .int a1, .int a2] : List Value).toArray below meth c H locs 0 0 (MQ below (Qg 100 77 G A none u') ([.ref (G.1 100), .int a0, .int a1, .int a2] : List Value).toArray s 0 0 A) (F0 m 96 ls [])) ∧ (∀ (x2_ : Int32) (x3_ : Int32) (x4_ : Int32) (x5_ : Int32) (u : St) (H : Heap) (locs : List Loc) (ls : Array Slot), fX12_distributeOne_L0  n 1 x2_ x3_ x4_ x5_ u = some u' → Ok 100 77 G A s u H locs → lv_has ls 6 [(0, .ref (G.1 100)), (2, .int x2_), (3, .int x3_), (4, .int x4_), (5, .int x5_)] → W p l e rmX12_distributeOne s m ([.ref (G.1 100), .int a0, .int a1, .int a2] : List Value).toArray below meth c H locs 0 0 (MQ below (Qg 100 77 G A none u') ([.ref (G.1 100), .int a0, .int a1, .int a2] : List Value).toArray s 0 0 A) (F0 m 117 ls [])) := by
  have F := B.1
  have hx := F.1
  have hb := F.2.1
  induction n with
  | zero => exact ⟨fun _ _ _ _ _ _ _ hf => g_no hf, fun _ _ _ _ _ _ _ _ hf => g_no hf⟩
  | succ n ih =>
    refine ⟨?_, ?_⟩
    · intro x2_ x3_ x4_ u H locs ls hf K hl
      have hf : fX12_distributeOne_L0_0  (fX12_distributeOne_L0  n) x2_ x3_ x4_ u = some u' := hf
      unfold fX12_distributeOne_L0_0 at hf
      refine lv_iload hx hb dX12_distributeOne_96 (lv_at hl 3 rfl) ?_
      refine lv_aload_n hx hb dX12_distributeOne_98 rfl (lv_at hl 0 rfl) ?_
      refine ok_ref F K fX12_121 dX12_distributeOne_99 ?_
      refine lv_iload_n hx hb dX12_distributeOne_102 rfl (lv_at hl 1 rfl) ?_
      obtain ⟨v1, hv1, hf⟩ := g_bd hf
      refine ok_iald F K t137 hv1 dX12_distributeOne_103 ?_
      refine lv_icmp_ge (pc := 104) (tgt := 177) hx hb dX12_distributeOne_104 (by decide) (fun c2 => ?_) (fun c2 => ?_)
      · have hf := g_pos hf c2
        exact ok_retv B K hf dX12_distributeOne_177
      · have hf := g_neg hf c2
        refine lv_aload_n hx hb dX12_distributeOne_107 rfl (lv_at hl 0 rfl) ?_
        refine ok_int F K fX12_370 dX12_distributeOne_108 ?_
        refine lv_if_ne (pc := 111) (tgt := 177) hx hb dX12_distributeOne_111 (by decide) (fun c3 => ?_) (fun c3 => ?_)
        · have hf := g_neg hf c3
          exact ok_retv B K hf dX12_distributeOne_177
        · have hf := g_pos hf c3
          refine lv_iconst (v := 0) hx hb dX12_distributeOne_114 kI_0 ?_
          refine lv_topi (fun x4 ex4 => ?_)
          have hf := g_lt hf x4 ex4
          refine lv_istore (lv' := [(5, .int x4), (0, .ref (G.1 100)), (2, .int x2_), (3, .int x3_), (4, .int x4_)]) hx hb dX12_distributeOne_115 hl (by decide) rfl (fun ls hl => ?_)
          exact ih.2 x2_ x3_ x4_ x4 u _ _ _ hf K (lv_sub hl [1, 2, 3, 4, 0] rfl)
    · intro x2_ x3_ x4_ x5_ u H locs ls hf K hl
      have hf : fX12_distributeOne_L0_1  (fX12_distributeOne_L0  n) x2_ x3_ x4_ x5_ u = some u' := hf
      unfold fX12_distributeOne_L0_1 at hf
      refine lv_iload hx hb dX12_distributeOne_117 (lv_at hl 4 rfl) ?_
      refine lv_aload_n hx hb dX12_distributeOne_119 rfl (lv_at hl 0 rfl) ?_
      refine ok_ref F K fX12_121 dX12_distributeOne_120 ?_
      refine lv_iload_n hx hb dX12_distributeOne_123 rfl (lv_at hl 2 rfl) ?_
      obtain ⟨v5, hv5, hf⟩ := g_bd hf
      refine ok_iald F K t137 hv5 dX12_distributeOne_124 ?_
      refine lv_icmp_ge (pc := 125) (tgt := 171) hx hb dX12_distributeOne_125 (by decide) (fun c6 => ?_) (fun c6 => ?_)
      · have hf := g_pos hf c6
        obtain ⟨x7, ex7⟩ : ∃ y : Int32, y = x4_ + 1 := ⟨_, rfl⟩
        have hf := g_lt hf x7 ex7
        refine lv_iinc (v := x7) (lv' := [(4, .int x7), (0, .ref (G.1 100)), (2, .int x2_), (3, .int x3_), (5, .int x5_)]) hx hb dX12_distributeOne_171 hl (k := 3) rfl (by rw [kI_1, ex7]) (by decide) rfl (fun ls hl => ?_)
        refine lv_goto (pc := 174) (tgt := 96) hx hb dX12_distributeOne_174 (by decide) ?_
        exact ih.1 x2_ x3_ x7 u _ _ _ hf K (lv_sub hl [1, 2, 3, 0] rfl)
      · have hf := g_neg hf c6
        refine lv_aload_n hx hb dX12_distributeOne_128 rfl (lv_at hl 0 rfl) ?_
        refine ok_int F K fX12_370 dX12_distributeOne_129 ?_
        refine lv_if_ne (pc := 132) (tgt := 171) hx hb dX12_distributeOne_132 (by decide) (fun c8 => ?_) (fun c8 => ?_)
        · have hf := g_neg hf c8
          obtain ⟨x9, ex9⟩ : ∃ y : Int32, y = x4_ + 1 := ⟨_, rfl⟩
          have hf := g_lt hf x9 ex9
          refine lv_iinc (v := x9) (lv' := [(4, .int x9), (0, .ref (G.1 100)), (2, .int x2_), (3, .int x3_), (5, .int x5_)]) hx hb dX12_distributeOne_171 hl (k := 3) rfl (by rw [kI_1, ex9]) (by decide) rfl (fun ls hl => ?_)
          refine lv_goto (pc := 174) (tgt := 96) hx hb dX12_distributeOne_174 (by decide) ?_
          exact ih.1 x2_ x3_ x9 u _ _ _ hf K (lv_sub hl [1, 2, 3, 0] rfl)
        · have hf := g_pos hf c8
          refine lv_aload_n hx hb dX12_distributeOne_135 rfl (lv_at hl 0 rfl) ?_
          obtain ⟨u10, hu10, hf⟩ := g_bd hf
          refine ok_callv (rest := []) F K (pX12_newWay G hu10) mX12_newWay oc100 lX12_432 rfl hl.1 rfl ⟨⟨rfl, rfl⟩, Nat.le_of_ble_eq_true rfl, Nat.le_of_ble_eq_true rfl⟩ (Nat.le_of_ble_eq_true rfl) dX12_distributeOne_136 (fun H locs K => ?_)
          refine lv_aload_n hx hb dX12_distributeOne_139 rfl (lv_at hl 0 rfl) ?_
          refine lv_aload_n hx hb dX12_distributeOne_140 rfl (lv_at hl 0 rfl) ?_
          refine ok_ref F K fX12_118 dX12_distributeOne_141 ?_
          refine lv_iload_n hx hb dX12_distributeOne_144 rfl (lv_at hl 1 rfl) ?_
          obtain ⟨v11, hv11, hf⟩ := g_bd hf
          refine ok_iald F K t136 hv11 dX12_distributeOne_145 ?_
          refine lv_iload hx hb dX12_distributeOne_146 (lv_at hl 3 rfl) ?_
          refine lv_iadd hx hb dX12_distributeOne_148 ?_
          obtain ⟨u12, hu12, hf⟩ := g_bd hf
          refine ok_callv (rest := []) F K (pX12_appendAll G hu12) mX12_appendAll oc100 lX12_438 rfl hl.1 rfl ⟨⟨rfl, rfl⟩, Nat.le_of_ble_eq_true rfl, Nat.le_of_ble_eq_true rfl⟩ (Nat.le_of_ble_eq_true rfl) dX12_distributeOne_149 (fun H locs K => ?_)
          refine lv_aload_n hx hb dX12_distributeOne_152 rfl (lv_at hl 0 rfl) ?_
          refine lv_aload_n hx hb dX12_distributeOne_153 rfl (lv_at hl 0 rfl) ?_
          refine ok_ref F K fX12_118 dX12_distributeOne_154 ?_
          refine lv_iload_n hx hb dX12_distributeOne_157 rfl (lv_at hl 2 rfl) ?_
          obtain ⟨v13, hv13, hf⟩ := g_bd hf
          refine ok_iald F K t136 hv13 dX12_distributeOne_158 ?_
          refine lv_iload hx hb dX12_distributeOne_159 (lv_at hl 4 rfl) ?_
          refine lv_iadd hx hb dX12_distributeOne_161 ?_
          obtain ⟨u14, hu14, hf⟩ := g_bd hf
          refine ok_callv (rest := []) F K (pX12_appendAll G hu14) mX12_appendAll oc100 lX12_438 rfl hl.1 rfl ⟨⟨rfl, rfl⟩, Nat.le_of_ble_eq_true rfl, Nat.le_of_ble_eq_true rfl⟩ (Nat.le_of_ble_eq_true rfl) dX12_distributeOne_162 (fun H locs K => ?_)
          obtain ⟨x15, ex15⟩ : ∃ y : Int32, y = x5_ + 1 := ⟨_, rfl⟩
          have hf := g_lt hf x15 ex15
          refine lv_iinc (v := x15) (lv' := [(5, .int x15), (0, .ref (G.1 100)), (2, .int x2_), (3, .int x3_), (4, .int x4_)]) hx hb dX12_distributeOne_165 hl (k := 4) rfl (by rw [kI_1, ex15]) (by decide) rfl (fun ls hl => ?_)
          refine lv_goto (pc := 168) (tgt := 117) hx hb dX12_distributeOne_168 (by decide) ?_
          exact ih.2 x2_ x3_ x4_ x15 u14 _ _ _ hf K (lv_sub hl [1, 2, 3, 4, 0] rfl)
set_option maxRecDepth 100000 in
set_option maxHeartbeats 4000000 in
theorem pX12_distributeOne_L1 {p : Program} {l : Launch} {e : Env} {s : State} {m : MethodId} {below : List Frame} {meth : Method} {c : Code} {A : Nat → Prop} {G : Gt} {a0 : Int32} {a1 : Int32} {a2 : Int32} {u' : St} (B : Bd p s m [.ref (G.1 100), .int a0, .int a1, .int a2] meth c yX12_distributeOne cX12_distributeOne 6 none) (n : Nat) : (∀ (x2_ : Int32) (x3_ : Int32) (x4_ : Int32) (u : St) (H : Heap) (locs : List Loc) (ls : Array Slot), fX12_distributeOne_L1  n 0 x2_ x3_ x4_ u = some u' → Ok 100 77 G A s u H locs → lv_has ls 6 [(0, .ref (G.1 100)), (2, .int x2_), (3, .int x3_), (4, .int x4_)] → W p l e rmX12_distributeOne s m ([.ref (G.1 100), .int a0, .int a1, .int a2] : List Value).toArray below meth c H locs 0 0 (MQ below (Qg 100 77 G A none u') ([.ref (G.1 100), .int a0, .int a1, .int a2] : List Value).toArray s 0 0 A) (F0 m 14 ls [])) := by
  have F := B.1
  have hx := F.1
  have hb := F.2.1
  induction n with
  | zero => exact fun _ _ _ _ _ _ _ hf => g_no hf
  | succ n ih =>
    refine ?_
    · intro x2_ x3_ x4_ u H locs ls hf K hl
      have hf : fX12_distributeOne_L1_0  (fX12_distributeOne_L1  n) x2_ x3_ x4_ u = some u' := hf
      unfold fX12_distributeOne_L1_0 at hf
      refine lv_iload hx hb dX12_distributeOne_14 (lv_at hl 3 rfl) ?_
      refine lv_aload_n hx hb dX12_distributeOne_16 rfl (lv_at hl 0 rfl) ?_
      refine ok_ref F K fX12_121 dX12_distributeOne_17 ?_
      refine lv_iload_n hx hb dX12_distributeOne_20 rfl (lv_at hl 1 rfl) ?_
      obtain ⟨v16, hv16, hf⟩ := g_bd hf
      refine ok_iald F K t137 hv16 dX12_distributeOne_21 ?_
      refine lv_aload_n hx hb dX12_distributeOne_22 rfl (lv_at hl 0 rfl) ?_
      refine ok_ref F K fX12_121 dX12_distributeOne_23 ?_
      refine lv_iload_n hx hb dX12_distributeOne_26 rfl (lv_at hl 2 rfl) ?_
      obtain ⟨v17, hv17, hf⟩ := g_bd hf
      refine ok_iald F K t137 hv17 dX12_distributeOne_27 ?_
      refine lv_iadd hx hb dX12_distributeOne_28 ?_
      refine lv_icmp_ge (pc := 29) (tgt := 92) hx hb dX12_distributeOne_29 (by decide) (fun c18 => ?_) (fun c18 => ?_)
      · have hf := g_pos hf c18
        exact ok_retv B K hf dX12_distributeOne_92
      · have hf := g_neg hf c18
        refine lv_aload_n hx hb dX12_distributeOne_32 rfl (lv_at hl 0 rfl) ?_
        refine ok_int F K fX12_370 dX12_distributeOne_33 ?_
        refine lv_if_ne (pc := 36) (tgt := 92) hx hb dX12_distributeOne_36 (by decide) (fun c19 => ?_) (fun c19 => ?_)
        · have hf := g_neg hf c19
          exact ok_retv B K hf dX12_distributeOne_92
        · have hf := g_pos hf c19
          refine lv_aload_n hx hb dX12_distributeOne_39 rfl (lv_at hl 0 rfl) ?_
          obtain ⟨u20, hu20, hf⟩ := g_bd hf
          refine ok_callv (rest := []) F K (pX12_newWay G hu20) mX12_newWay oc100 lX12_432 rfl hl.1 rfl ⟨⟨rfl, rfl⟩, Nat.le_of_ble_eq_true rfl, Nat.le_of_ble_eq_true rfl⟩ (Nat.le_of_ble_eq_true rfl) dX12_distributeOne_40 (fun H locs K => ?_)
          refine lv_aload_n hx hb dX12_distributeOne_43 rfl (lv_at hl 0 rfl) ?_
          refine lv_iload hx hb dX12_distributeOne_44 (lv_at hl 3 rfl) ?_
          refine lv_aload_n hx hb dX12_distributeOne_46 rfl (lv_at hl 0 rfl) ?_
          refine ok_ref F K fX12_121 dX12_distributeOne_47 ?_
          refine lv_iload_n hx hb dX12_distributeOne_50 rfl (lv_at hl 1 rfl) ?_
          obtain ⟨v21, hv21, hf⟩ := g_bd hf
          refine ok_iald F K t137 hv21 dX12_distributeOne_51 ?_
          refine lv_icmp_ge (pc := 52) (tgt := 67) hx hb dX12_distributeOne_52 (by decide) (fun c22 => ?_) (fun c22 => ?_)
          · have hf := g_pos hf c22
            refine lv_aload_n hx hb dX12_distributeOne_67 rfl (lv_at hl 0 rfl) ?_
            refine ok_ref F K fX12_118 dX12_distributeOne_68 ?_
            refine lv_iload_n hx hb dX12_distributeOne_71 rfl (lv_at hl 2 rfl) ?_
            obtain ⟨v23, hv23, hf⟩ := g_bd hf
            refine ok_iald F K t136 hv23 dX12_distributeOne_72 ?_
            refine lv_iload hx hb dX12_distributeOne_73 (lv_at hl 3 rfl) ?_
            refine lv_iadd hx hb dX12_distributeOne_75 ?_
            refine lv_aload_n hx hb dX12_distributeOne_76 rfl (lv_at hl 0 rfl) ?_
            refine ok_ref F K fX12_121 dX12_distributeOne_77 ?_
            refine lv_iload_n hx hb dX12_distributeOne_80 rfl (lv_at hl 1 rfl) ?_
            obtain ⟨v24, hv24, hf⟩ := g_bd hf
            refine ok_iald F K t137 hv24 dX12_distributeOne_81 ?_
            refine lv_isub hx hb dX12_distributeOne_82 ?_
            obtain ⟨u25, hu25, hf⟩ := g_bd hf
            refine ok_callv (rest := []) F K (pX12_appendAll G hu25) mX12_appendAll oc100 lX12_438 rfl hl.1 rfl ⟨⟨rfl, rfl⟩, Nat.le_of_ble_eq_true rfl, Nat.le_of_ble_eq_true rfl⟩ (Nat.le_of_ble_eq_true rfl) dX12_distributeOne_83 (fun H locs K => ?_)
            obtain ⟨x26, ex26⟩ : ∃ y : Int32, y = x4_ + 1 := ⟨_, rfl⟩
            have hf := g_lt hf x26 ex26
            refine lv_iinc (v := x26) (lv' := [(4, .int x26), (0, .ref (G.1 100)), (2, .int x2_), (3, .int x3_)]) hx hb dX12_distributeOne_86 hl (k := 3) rfl (by rw [kI_1, ex26]) (by decide) rfl (fun ls hl => ?_)
            refine lv_goto (pc := 89) (tgt := 14) hx hb dX12_distributeOne_89 (by decide) ?_
            exact ih x2_ x3_ x26 u25 _ _ _ hf K (lv_sub hl [1, 2, 3, 0] rfl)
          · have hf := g_neg hf c22
            refine lv_aload_n hx hb dX12_distributeOne_55 rfl (lv_at hl 0 rfl) ?_
            refine ok_ref F K fX12_118 dX12_distributeOne_56 ?_
            refine lv_iload_n hx hb dX12_distributeOne_59 rfl (lv_at hl 1 rfl) ?_
            obtain ⟨v27, hv27, hf⟩ := g_bd hf
            refine ok_iald F K t136 hv27 dX12_distributeOne_60 ?_
            refine lv_iload hx hb dX12_distributeOne_61 (lv_at hl 3 rfl) ?_
            refine lv_iadd hx hb dX12_distributeOne_63 ?_
            refine lv_goto (pc := 64) (tgt := 83) hx hb dX12_distributeOne_64 (by decide) ?_
            obtain ⟨u28, hu28, hf⟩ := g_bd hf
            refine ok_callv (rest := []) F K (pX12_appendAll G hu28) mX12_appendAll oc100 lX12_438 rfl hl.1 rfl ⟨⟨rfl, rfl⟩, Nat.le_of_ble_eq_true rfl, Nat.le_of_ble_eq_true rfl⟩ (Nat.le_of_ble_eq_true rfl) dX12_distributeOne_83 (fun H locs K => ?_)
            obtain ⟨x29, ex29⟩ : ∃ y : Int32, y = x4_ + 1 := ⟨_, rfl⟩
            have hf := g_lt hf x29 ex29
            refine lv_iinc (v := x29) (lv' := [(4, .int x29), (0, .ref (G.1 100)), (2, .int x2_), (3, .int x3_)]) hx hb dX12_distributeOne_86 hl (k := 3) rfl (by rw [kI_1, ex29]) (by decide) rfl (fun ls hl => ?_)
            refine lv_goto (pc := 89) (tgt := 14) hx hb dX12_distributeOne_89 (by decide) ?_
            exact ih x2_ x3_ x29 u28 _ _ _ hf K (lv_sub hl [1, 2, 3, 0] rfl)
set_option maxRecDepth 100000 in
set_option maxHeartbeats 4000000 in
theorem pX12_distributeOne {l : Launch} (G : Gt) {a0 : Int32} {a1 : Int32} {a2 : Int32} {u u' : St} (hf : fX12_distributeOne a0 a1 a2 u = some u') : Ctr 100 77 l yX12_distributeOne cX12_distributeOne 6 none rmX12_distributeOne [.ref (G.1 100), .int a0, .int a1, .int a2] G u none u' := by
  refine Ctr.mk (by decide) (Nat.le_of_ble_eq_true rfl) (fun p e s m below meth c A ls B K hl => ?_)
  have F := B.1
  have hx := F.1
  have hb := F.2.1
  have hl : lv_has ls 6 [(0, .ref (G.1 100)), (1, .int a0), (2, .int a1), (3, .int a2)] := hl
  unfold fX12_distributeOne at hf
  refine lv_aload_n hx hb dX12_distributeOne_0 rfl (lv_at hl 0 rfl) ?_
  refine ok_ref F K fX12_100 dX12_distributeOne_1 ?_
  refine lv_iload_n hx hb dX12_distributeOne_4 rfl (lv_at hl 1 rfl) ?_
  obtain ⟨v30, hv30, hf⟩ := g_bd hf
  refine ok_iald F K t130 hv30 dX12_distributeOne_5 ?_
  refine lv_bipush (v := 9) hx hb dX12_distributeOne_6 kB_9 ?_
  refine lv_icmp_ne (pc := 8) (tgt := 93) hx hb dX12_distributeOne_8 (by decide) (fun c31 => ?_) (fun c31 => ?_)
  · have hf := g_neg hf c31
    refine lv_iconst (v := 0) hx hb dX12_distributeOne_93 kI_0 ?_
    refine lv_topi (fun x32 ex32 => ?_)
    have hf := g_lt hf x32 ex32
    refine lv_istore (lv' := [(4, .int x32), (0, .ref (G.1 100)), (1, .int a0), (2, .int a1), (3, .int a2)]) hx hb dX12_distributeOne_94 hl (by decide) rfl (fun ls hl => ?_)
    exact (pX12_distributeOne_L0  B FU).1 a1 a2 x32 u _ _ _ hf K (lv_sub hl [1, 3, 4, 0] rfl)
  · have hf := g_pos hf c31
    refine lv_iconst (v := 0) hx hb dX12_distributeOne_11 kI_0 ?_
    refine lv_topi (fun x33 ex33 => ?_)
    have hf := g_lt hf x33 ex33
    refine lv_istore (lv' := [(4, .int x33), (0, .ref (G.1 100)), (1, .int a0), (2, .int a1), (3, .int a2)]) hx hb dX12_distributeOne_12 hl (by decide) rfl (fun ls hl => ?_)
    exact (pX12_distributeOne_L1  B FU) a1 a2 x33 u _ _ _ hf K (lv_sub hl [1, 3, 4, 0] rfl)
abbrev rmX12_distribute : Room := { frames := 3, cells := 0, slots := 0, locals := 68 }
set_option maxRecDepth 100000 in
set_option maxHeartbeats 4000000 in
theorem pX12_distribute_L0 {p : Program} {l : Launch} {e : Env} {s : State} {m : MethodId} {below : List Frame} {meth : Method} {c : Code} {A : Nat → Prop} {G : Gt} {u' : St} (B : Bd p s m [.ref (G.1 100)] meth c yX12_distribute cX12_distribute 2 none) (n : Nat) : (∀ (x1_ : Int32) (u : St) (H : Heap) (locs : List Loc) (ls : Array Slot), fX12_distribute_L0  n 0 x1_ u = some u' → Ok 100 77 G A s u H locs → lv_has ls 2 [(0, .ref (G.1 100)), (1, .int x1_)] → W p l e rmX12_distribute s m ([.ref (G.1 100)] : List Value).toArray below meth c H locs 0 0 (MQ below (Qg 100 77 G A none u') ([.ref (G.1 100)] : List Value).toArray s 0 0 A) (F0 m 2 ls [])) ∧ (∀ (x1_ : Int32) (u : St) (H : Heap) (locs : List Loc) (ls : Array Slot), fX12_distribute_L0  n 1 x1_ u = some u' → Ok 100 77 G A s u H locs → lv_has ls 2 [(0, .ref (G.1 100)), (1, .int x1_)] → W p l e rmX12_distribute s m ([.ref (G.1 100)] : List Value).toArray below meth c H locs 0 0 (MQ below (Qg 100 77 G A none u') ([.ref (G.1 100)] : List Value).toArray s 0 0 A) (F0 m 67 ls [])) := by
  have F := B.1
  have hx := F.1
  have hb := F.2.1
  induction n with
  | zero => exact ⟨fun _ _ _ _ _ hf => g_no hf, fun _ _ _ _ _ hf => g_no hf⟩
  | succ n ih =>
    refine ⟨?_, ?_⟩
    · intro x1_ u H locs ls hf K hl
      have hf : fX12_distribute_L0_0  (fX12_distribute_L0  n) x1_ u = some u' := hf
      unfold fX12_distribute_L0_0 at hf
      refine lv_iload_n hx hb dX12_distribute_2 rfl (lv_at hl 1 rfl) ?_
      refine lv_aload_n hx hb dX12_distribute_3 rfl (lv_at hl 0 rfl) ?_
      refine ok_int F K fX12_367 dX12_distribute_4 ?_
      refine lv_icmp_ge (pc := 7) (tgt := 90) hx hb dX12_distribute_7 (by decide) (fun c1 => ?_) (fun c1 => ?_)
      · have hf := g_pos hf c1
        exact ok_retv B K hf dX12_distribute_90
      · have hf := g_neg hf c1
        refine lv_aload_n hx hb dX12_distribute_10 rfl (lv_at hl 0 rfl) ?_
        refine ok_int F K fX12_370 dX12_distribute_11 ?_
        refine lv_if_ne (pc := 14) (tgt := 90) hx hb dX12_distribute_14 (by decide) (fun c2 => ?_) (fun c2 => ?_)
        · have hf := g_neg hf c2
          exact ok_retv B K hf dX12_distribute_90
        · have hf := g_pos hf c2
          refine lv_aload_n hx hb dX12_distribute_17 rfl (lv_at hl 0 rfl) ?_
          refine ok_ref F K fX12_118 dX12_distribute_18 ?_
          refine lv_iload_n hx hb dX12_distribute_21 rfl (lv_at hl 1 rfl) ?_
          refine lv_aload_n hx hb dX12_distribute_22 rfl (lv_at hl 0 rfl) ?_
          refine ok_int F K fX12_423 dX12_distribute_23 ?_
          obtain ⟨u3, hu3, hf⟩ := g_bd hf
          refine ok_iast F K t136 hu3 dX12_distribute_26 (fun H locs K => ?_)
          refine lv_aload_n hx hb dX12_distribute_27 rfl (lv_at hl 0 rfl) ?_
          refine ok_ref F K fX12_100 dX12_distribute_28 ?_
          refine lv_iload_n hx hb dX12_distribute_31 rfl (lv_at hl 1 rfl) ?_
          obtain ⟨v4, hv4, hf⟩ := g_bd hf
          refine ok_iald F K t130 hv4 dX12_distribute_32 ?_
          refine lv_bipush (v := 15) hx hb dX12_distribute_33 kB_15 ?_
          refine lv_icmp_ne (pc := 35) (tgt := 50) hx hb dX12_distribute_35 (by decide) (fun c5 => ?_) (fun c5 => ?_)
          · have hf := g_neg hf c5
            refine lv_aload_n hx hb dX12_distribute_50 rfl (lv_at hl 0 rfl) ?_
            refine lv_iload_n hx hb dX12_distribute_51 rfl (lv_at hl 1 rfl) ?_
            refine lv_aload_n hx hb dX12_distribute_52 rfl (lv_at hl 0 rfl) ?_
            refine ok_ref F K fX12_103 dX12_distribute_53 ?_
            refine lv_iload_n hx hb dX12_distribute_56 rfl (lv_at hl 1 rfl) ?_
            obtain ⟨v6, hv6, hf⟩ := g_bd hf
            refine ok_iald F K t131 hv6 dX12_distribute_57 ?_
            refine lv_aload_n hx hb dX12_distribute_58 rfl (lv_at hl 0 rfl) ?_
            refine ok_ref F K fX12_106 dX12_distribute_59 ?_
            refine lv_iload_n hx hb dX12_distribute_62 rfl (lv_at hl 1 rfl) ?_
            obtain ⟨v7, hv7, hf⟩ := g_bd hf
            refine ok_iald F K t132 hv7 dX12_distribute_63 ?_
            obtain ⟨u8, hu8, hf⟩ := g_bd hf
            refine ok_callv (rest := []) F K (pX12_distributeOne G hu8) mX12_distributeOne oc100 lX12_435 rfl hl.1 rfl ⟨⟨rfl, rfl⟩, Nat.le_of_ble_eq_true rfl, Nat.le_of_ble_eq_true rfl⟩ (Nat.le_of_ble_eq_true rfl) dX12_distribute_64 (fun H locs K => ?_)
            exact ih.2 x1_ u8 _ _ _ hf K (lv_sub hl [0, 1] rfl)
          · have hf := g_pos hf c5
            refine lv_aload_n hx hb dX12_distribute_38 rfl (lv_at hl 0 rfl) ?_
            obtain ⟨u9, hu9, hf⟩ := g_bd hf
            refine ok_callv (rest := []) F K (pX12_newWay G hu9) mX12_newWay oc100 lX12_432 rfl hl.1 rfl ⟨⟨rfl, rfl⟩, Nat.le_of_ble_eq_true rfl, Nat.le_of_ble_eq_true rfl⟩ (Nat.le_of_ble_eq_true rfl) dX12_distribute_39 (fun H locs K => ?_)
            refine lv_aload_n hx hb dX12_distribute_42 rfl (lv_at hl 0 rfl) ?_
            refine lv_iload_n hx hb dX12_distribute_43 rfl (lv_at hl 1 rfl) ?_
            obtain ⟨u10, hu10, hf⟩ := g_bd hf
            refine ok_callv (rest := []) F K (pX12_append G hu10) mX12_append oc100 lX12_429 rfl hl.1 rfl ⟨⟨rfl, rfl⟩, Nat.le_of_ble_eq_true rfl, Nat.le_of_ble_eq_true rfl⟩ (Nat.le_of_ble_eq_true rfl) dX12_distribute_44 (fun H locs K => ?_)
            refine lv_goto (pc := 47) (tgt := 67) hx hb dX12_distribute_47 (by decide) ?_
            exact ih.2 x1_ u10 _ _ _ hf K (lv_sub hl [0, 1] rfl)
    · intro x1_ u H locs ls hf K hl
      have hf : fX12_distribute_L0_1  (fX12_distribute_L0  n) x1_ u = some u' := hf
      unfold fX12_distribute_L0_1 at hf
      refine lv_aload_n hx hb dX12_distribute_67 rfl (lv_at hl 0 rfl) ?_
      refine ok_ref F K fX12_121 dX12_distribute_68 ?_
      refine lv_iload_n hx hb dX12_distribute_71 rfl (lv_at hl 1 rfl) ?_
      refine lv_aload_n hx hb dX12_distribute_72 rfl (lv_at hl 0 rfl) ?_
      refine ok_int F K fX12_423 dX12_distribute_73 ?_
      refine lv_aload_n hx hb dX12_distribute_76 rfl (lv_at hl 0 rfl) ?_
      refine ok_ref F K fX12_118 dX12_distribute_77 ?_
      refine lv_iload_n hx hb dX12_distribute_80 rfl (lv_at hl 1 rfl) ?_
      obtain ⟨v11, hv11, hf⟩ := g_bd hf
      refine ok_iald F K t136 hv11 dX12_distribute_81 ?_
      refine lv_isub hx hb dX12_distribute_82 ?_
      obtain ⟨u12, hu12, hf⟩ := g_bd hf
      refine ok_iast F K t137 hu12 dX12_distribute_83 (fun H locs K => ?_)
      obtain ⟨x13, ex13⟩ : ∃ y : Int32, y = x1_ + 1 := ⟨_, rfl⟩
      have hf := g_lt hf x13 ex13
      refine lv_iinc (v := x13) (lv' := [(1, .int x13), (0, .ref (G.1 100))]) hx hb dX12_distribute_84 hl (k := 1) rfl (by rw [kI_1, ex13]) (by decide) rfl (fun ls hl => ?_)
      refine lv_goto (pc := 87) (tgt := 2) hx hb dX12_distribute_87 (by decide) ?_
      exact ih.1 x13 u12 _ _ _ hf K (lv_sub hl [1, 0] rfl)
set_option maxRecDepth 100000 in
set_option maxHeartbeats 4000000 in
theorem pX12_distribute {l : Launch} (G : Gt) {u u' : St} (hf : fX12_distribute u = some u') : Ctr 100 77 l yX12_distribute cX12_distribute 2 none rmX12_distribute [.ref (G.1 100)] G u none u' := by
  refine Ctr.mk (by decide) (Nat.le_of_ble_eq_true rfl) (fun p e s m below meth c A ls B K hl => ?_)
  have F := B.1
  have hx := F.1
  have hb := F.2.1
  have hl : lv_has ls 2 [(0, .ref (G.1 100))] := hl
  unfold fX12_distribute at hf
  refine lv_iconst (v := 0) hx hb dX12_distribute_0 kI_0 ?_
  refine lv_topi (fun x14 ex14 => ?_)
  have hf := g_lt hf x14 ex14
  refine lv_istore_n (lv' := [(1, .int x14), (0, .ref (G.1 100))]) hx hb dX12_distribute_1 rfl hl (by decide) rfl (fun ls hl => ?_)
  exact (pX12_distribute_L0  B FU).1 x14 u _ _ _ hf K (lv_sub hl [1, 0] rfl)
abbrev rmX12_isAtom : Room := { frames := 0, cells := 0, slots := 0, locals := 0 }
set_option maxRecDepth 100000 in
set_option maxHeartbeats 4000000 in
theorem pX12_isAtom_L0 {p : Program} {l : Launch} {e : Env} {s : State} {m : MethodId} {below : List Frame} {meth : Method} {c : Code} {A : Nat → Prop} {G : Gt} {a0 : Int32} {a1 : Int32} {r : Int32} {u' : St} (B : Bd p s m [.ref (G.1 100), .int a0, .int a1] meth c yX12_isAtom cX12_isAtom 5 (some .boolean)) (n : Nat) : (∀ (x1_ : Int32) (x2_ : Int32) (x3_ : Int32) (x4_ : Int32) (u : St) (H : Heap) (locs : List Loc) (ls : Array Slot), fX12_isAtom_L0  n 0 x1_ x2_ x3_ x4_ u = some (r, u') → Ok 100 77 G A s u H locs → lv_has ls 5 [(0, .ref (G.1 100)), (1, .int x1_), (2, .int x2_), (3, .int x3_), (4, .int x4_)] → W p l e rmX12_isAtom s m ([.ref (G.1 100), .int a0, .int a1] : List Value).toArray below meth c H locs 0 0 (MQ below (Qg 100 77 G A (some (.int r)) u') ([.ref (G.1 100), .int a0, .int a1] : List Value).toArray s 0 0 A) (F0 m 38 ls [])) := by
  have F := B.1
  have hx := F.1
  have hb := F.2.1
  induction n with
  | zero => exact fun _ _ _ _ _ _ _ _ hf => g_no hf
  | succ n ih =>
    refine ?_
    · intro x1_ x2_ x3_ x4_ u H locs ls hf K hl
      have hf : fX12_isAtom_L0_0  (fX12_isAtom_L0  n) x1_ x2_ x3_ x4_ u = some (r, u') := hf
      unfold fX12_isAtom_L0_0 at hf
      refine lv_iload hx hb dX12_isAtom_38 (lv_at hl 4 rfl) ?_
      refine lv_aload_n hx hb dX12_isAtom_40 rfl (lv_at hl 0 rfl) ?_
      refine ok_ref F K fX12_106 dX12_isAtom_41 ?_
      refine lv_iload_n hx hb dX12_isAtom_44 rfl (lv_at hl 1 rfl) ?_
      obtain ⟨v1, hv1, hf⟩ := g_bd hf
      refine ok_iald F K t132 hv1 dX12_isAtom_45 ?_
      refine lv_aload_n hx hb dX12_isAtom_46 rfl (lv_at hl 0 rfl) ?_
      refine ok_ref F K fX12_103 dX12_isAtom_47 ?_
      refine lv_iload_n hx hb dX12_isAtom_50 rfl (lv_at hl 1 rfl) ?_
      obtain ⟨v2, hv2, hf⟩ := g_bd hf
      refine ok_iald F K t131 hv2 dX12_isAtom_51 ?_
      refine lv_isub hx hb dX12_isAtom_52 ?_
      refine lv_icmp_ge (pc := 53) (tgt := 103) hx hb dX12_isAtom_53 (by decide) (fun c3 => ?_) (fun c3 => ?_)
      · have hf := g_pos hf c3
        refine lv_iload_n hx hb dX12_isAtom_103 rfl (lv_at hl 3 rfl) ?_
        obtain ⟨z4, hz4, hf⟩ := g_bd hf
        exact ok_retz B K hf (g_zb hz4).2 dX12_isAtom_104
      · have hf := g_neg hf c3
        refine lv_iload_n hx hb dX12_isAtom_56 rfl (lv_at hl 3 rfl) ?_
        refine lv_if_eq (pc := 57) (tgt := 103) hx hb dX12_isAtom_57 (by decide) (fun c5 => ?_) (fun c5 => ?_)
        · have hf := g_pos hf c5
          refine lv_iload_n hx hb dX12_isAtom_103 rfl (lv_at hl 3 rfl) ?_
          obtain ⟨z6, hz6, hf⟩ := g_bd hf
          exact ok_retz B K hf (g_zb hz6).2 dX12_isAtom_104
        · have hf := g_neg hf c5
          refine lv_aload_n hx hb dX12_isAtom_60 rfl (lv_at hl 0 rfl) ?_
          refine ok_ref F K fX12_112 dX12_isAtom_61 ?_
          refine lv_aload_n hx hb dX12_isAtom_64 rfl (lv_at hl 0 rfl) ?_
          refine ok_ref F K fX12_103 dX12_isAtom_65 ?_
          refine lv_iload_n hx hb dX12_isAtom_68 rfl (lv_at hl 1 rfl) ?_
          obtain ⟨v7, hv7, hf⟩ := g_bd hf
          refine ok_iald F K t131 hv7 dX12_isAtom_69 ?_
          refine lv_iload hx hb dX12_isAtom_70 (lv_at hl 4 rfl) ?_
          refine lv_iadd hx hb dX12_isAtom_72 ?_
          obtain ⟨v8, hv8, hf⟩ := g_bd hf
          refine ok_iald F K t134 hv8 dX12_isAtom_73 ?_
          refine lv_aload_n hx hb dX12_isAtom_74 rfl (lv_at hl 0 rfl) ?_
          refine ok_ref F K fX12_112 dX12_isAtom_75 ?_
          refine lv_aload_n hx hb dX12_isAtom_78 rfl (lv_at hl 0 rfl) ?_
          refine ok_ref F K fX12_103 dX12_isAtom_79 ?_
          refine lv_iload_n hx hb dX12_isAtom_82 rfl (lv_at hl 2 rfl) ?_
          obtain ⟨v9, hv9, hf⟩ := g_bd hf
          refine ok_iald F K t131 hv9 dX12_isAtom_83 ?_
          refine lv_iload hx hb dX12_isAtom_84 (lv_at hl 4 rfl) ?_
          refine lv_iadd hx hb dX12_isAtom_86 ?_
          obtain ⟨v10, hv10, hf⟩ := g_bd hf
          refine ok_iald F K t134 hv10 dX12_isAtom_87 ?_
          refine lv_icmp_ne (pc := 88) (tgt := 95) hx hb dX12_isAtom_88 (by decide) (fun c11 => ?_) (fun c11 => ?_)
          · have hf := g_neg hf c11
            refine lv_iconst (v := 0) hx hb dX12_isAtom_95 kI_0 ?_
            refine lv_topi (fun x12 ex12 => ?_)
            have hf := g_lt hf x12 ex12
            refine lv_istore_n (lv' := [(3, .int x12), (0, .ref (G.1 100)), (1, .int x1_), (2, .int x2_), (4, .int x4_)]) hx hb dX12_isAtom_96 rfl hl (by decide) rfl (fun ls hl => ?_)
            obtain ⟨x13, ex13⟩ : ∃ y : Int32, y = x4_ + 1 := ⟨_, rfl⟩
            have hf := g_lt hf x13 ex13
            refine lv_iinc (v := x13) (lv' := [(4, .int x13), (3, .int x12), (0, .ref (G.1 100)), (1, .int x1_), (2, .int x2_)]) hx hb dX12_isAtom_97 hl (k := 4) rfl (by rw [kI_1, ex13]) (by decide) rfl (fun ls hl => ?_)
            refine lv_goto (pc := 100) (tgt := 38) hx hb dX12_isAtom_100 (by decide) ?_
            exact ih x1_ x2_ x12 x13 u _ _ _ hf K (lv_sub hl [2, 3, 4, 1, 0] rfl)
          · have hf := g_pos hf c11
            refine lv_iconst (v := 1) hx hb dX12_isAtom_91 kI_1 ?_
            refine lv_goto (pc := 92) (tgt := 96) hx hb dX12_isAtom_92 (by decide) ?_
            refine lv_topi (fun x14 ex14 => ?_)
            have hf := g_lt hf x14 ex14
            refine lv_istore_n (lv' := [(3, .int x14), (0, .ref (G.1 100)), (1, .int x1_), (2, .int x2_), (4, .int x4_)]) hx hb dX12_isAtom_96 rfl hl (by decide) rfl (fun ls hl => ?_)
            obtain ⟨x15, ex15⟩ : ∃ y : Int32, y = x4_ + 1 := ⟨_, rfl⟩
            have hf := g_lt hf x15 ex15
            refine lv_iinc (v := x15) (lv' := [(4, .int x15), (3, .int x14), (0, .ref (G.1 100)), (1, .int x1_), (2, .int x2_)]) hx hb dX12_isAtom_97 hl (k := 4) rfl (by rw [kI_1, ex15]) (by decide) rfl (fun ls hl => ?_)
            refine lv_goto (pc := 100) (tgt := 38) hx hb dX12_isAtom_100 (by decide) ?_
            exact ih x1_ x2_ x14 x15 u _ _ _ hf K (lv_sub hl [2, 3, 4, 1, 0] rfl)
set_option maxRecDepth 100000 in
set_option maxHeartbeats 4000000 in
theorem pX12_isAtom {l : Launch} (G : Gt) {a0 : Int32} {a1 : Int32} {r : Int32} {u u' : St} (hf : fX12_isAtom a0 a1 u = some (r, u')) : Ctr 100 77 l yX12_isAtom cX12_isAtom 5 (some .boolean) rmX12_isAtom [.ref (G.1 100), .int a0, .int a1] G u (some (.int r)) u' := by
  refine Ctr.mk (by decide) (Nat.le_of_ble_eq_true rfl) (fun p e s m below meth c A ls B K hl => ?_)
  have F := B.1
  have hx := F.1
  have hb := F.2.1
  have hl : lv_has ls 5 [(0, .ref (G.1 100)), (1, .int a0), (2, .int a1)] := hl
  unfold fX12_isAtom at hf
  refine lv_aload_n hx hb dX12_isAtom_0 rfl (lv_at hl 0 rfl) ?_
  refine ok_ref F K fX12_106 dX12_isAtom_1 ?_
  refine lv_iload_n hx hb dX12_isAtom_4 rfl (lv_at hl 1 rfl) ?_
  obtain ⟨v16, hv16, hf⟩ := g_bd hf
  refine ok_iald F K t132 hv16 dX12_isAtom_5 ?_
  refine lv_aload_n hx hb dX12_isAtom_6 rfl (lv_at hl 0 rfl) ?_
  refine ok_ref F K fX12_103 dX12_isAtom_7 ?_
  refine lv_iload_n hx hb dX12_isAtom_10 rfl (lv_at hl 1 rfl) ?_
  obtain ⟨v17, hv17, hf⟩ := g_bd hf
  refine ok_iald F K t131 hv17 dX12_isAtom_11 ?_
  refine lv_isub hx hb dX12_isAtom_12 ?_
  refine lv_aload_n hx hb dX12_isAtom_13 rfl (lv_at hl 0 rfl) ?_
  refine ok_ref F K fX12_106 dX12_isAtom_14 ?_
  refine lv_iload_n hx hb dX12_isAtom_17 rfl (lv_at hl 2 rfl) ?_
  obtain ⟨v18, hv18, hf⟩ := g_bd hf
  refine ok_iald F K t132 hv18 dX12_isAtom_18 ?_
  refine lv_aload_n hx hb dX12_isAtom_19 rfl (lv_at hl 0 rfl) ?_
  refine ok_ref F K fX12_103 dX12_isAtom_20 ?_
  refine lv_iload_n hx hb dX12_isAtom_23 rfl (lv_at hl 2 rfl) ?_
  obtain ⟨v19, hv19, hf⟩ := g_bd hf
  refine ok_iald F K t131 hv19 dX12_isAtom_24 ?_
  refine lv_isub hx hb dX12_isAtom_25 ?_
  refine lv_icmp_ne (pc := 26) (tgt := 33) hx hb dX12_isAtom_26 (by decide) (fun c20 => ?_) (fun c20 => ?_)
  · have hf := g_neg hf c20
    refine lv_iconst (v := 0) hx hb dX12_isAtom_33 kI_0 ?_
    refine lv_topi (fun x21 ex21 => ?_)
    have hf := g_lt hf x21 ex21
    refine lv_istore_n (lv' := [(3, .int x21), (0, .ref (G.1 100)), (1, .int a0), (2, .int a1)]) hx hb dX12_isAtom_34 rfl hl (by decide) rfl (fun ls hl => ?_)
    refine lv_iconst (v := 0) hx hb dX12_isAtom_35 kI_0 ?_
    refine lv_topi (fun x22 ex22 => ?_)
    have hf := g_lt hf x22 ex22
    refine lv_istore (lv' := [(4, .int x22), (3, .int x21), (0, .ref (G.1 100)), (1, .int a0), (2, .int a1)]) hx hb dX12_isAtom_36 hl (by decide) rfl (fun ls hl => ?_)
    exact (pX12_isAtom_L0  B FU) a0 a1 x21 x22 u _ _ _ hf K (lv_sub hl [2, 3, 4, 1, 0] rfl)
  · have hf := g_pos hf c20
    refine lv_iconst (v := 1) hx hb dX12_isAtom_29 kI_1 ?_
    refine lv_goto (pc := 30) (tgt := 34) hx hb dX12_isAtom_30 (by decide) ?_
    refine lv_topi (fun x23 ex23 => ?_)
    have hf := g_lt hf x23 ex23
    refine lv_istore_n (lv' := [(3, .int x23), (0, .ref (G.1 100)), (1, .int a0), (2, .int a1)]) hx hb dX12_isAtom_34 rfl hl (by decide) rfl (fun ls hl => ?_)
    refine lv_iconst (v := 0) hx hb dX12_isAtom_35 kI_0 ?_
    refine lv_topi (fun x24 ex24 => ?_)
    have hf := g_lt hf x24 ex24
    refine lv_istore (lv' := [(4, .int x24), (3, .int x23), (0, .ref (G.1 100)), (1, .int a0), (2, .int a1)]) hx hb dX12_isAtom_36 hl (by decide) rfl (fun ls hl => ?_)
    exact (pX12_isAtom_L0  B FU) a0 a1 x23 x24 u _ _ _ hf K (lv_sub hl [2, 3, 4, 1, 0] rfl)
abbrev rmX12_newClause : Room := { frames := 1, cells := 0, slots := 0, locals := 24 }
set_option maxRecDepth 100000 in
set_option maxHeartbeats 4000000 in
theorem pX12_newClause_j549 {p : Program} {l : Launch} {e : Env} {s : State} {m : MethodId} {below : List Frame} {meth : Method} {c : Code} {A : Nat → Prop} {G : Gt} {a0 : Int32} {u' : St} (B : Bd p s m [.ref (G.1 100), .int a0] meth c yX12_newClause cX12_newClause 11 none) (x5_ : Int32) (s0_ : Int32) (u : St) (H : Heap) (locs : List Loc) (ls : Array Slot) (hf : fX12_newClause_j549 x5_ s0_ u = some u') (K : Ok 100 77 G A s u H locs) (hl : lv_has ls 11 [(0, .ref (G.1 100)), (5, .int x5_)]) : W p l e rmX12_newClause s m ([.ref (G.1 100), .int a0] : List Value).toArray below meth c H locs 0 0 (MQ below (Qg 100 77 G A none u') ([.ref (G.1 100), .int a0] : List Value).toArray s 0 0 A) (F0 m 549 ls [.int s0_, .ref (G.1 100)]) := by
  have F := B.1
  have hx := F.1
  have hb := F.2.1
  unfold fX12_newClause_j549 at hf
  obtain ⟨z2, hz2, hf⟩ := g_bd hf
  refine ok_putZ F K qX12_370 (g_zb hz2).2 dX12_newClause_549 (fun u1 H locs eu1 K => ?_)
  have hf := g_lt hf u1 eu1
  refine lv_aload_n hx hb dX12_newClause_552 rfl (lv_at hl 0 rfl) ?_
  refine ok_ref F K fX12_34 dX12_newClause_553 ?_
  refine lv_aload_n hx hb dX12_newClause_556 rfl (lv_at hl 0 rfl) ?_
  refine ok_int F K fX12_445 dX12_newClause_557 ?_
  refine lv_iload hx hb dX12_newClause_560 (lv_at hl 1 rfl) ?_
  obtain ⟨u3, hu3, hf⟩ := g_bd hf
  refine ok_iast F K t108 hu3 dX12_newClause_562 (fun H locs K => ?_)
  refine lv_aload_n hx hb dX12_newClause_563 rfl (lv_at hl 0 rfl) ?_
  refine lv_dup hx hb dX12_newClause_564 rfl ?_
  refine ok_int F K fX12_445 dX12_newClause_565 ?_
  refine lv_iconst (v := 1) hx hb dX12_newClause_568 kI_1 ?_
  refine lv_iadd hx hb dX12_newClause_569 ?_
  refine ok_putI F K qX12_445 dX12_newClause_570 (fun u4 H locs eu4 K => ?_)
  have hf := g_lt hf u4 eu4
  exact ok_retv B K hf dX12_newClause_573
set_option maxRecDepth 100000 in
set_option maxHeartbeats 4000000 in
theorem pX12_newClause_L0 {p : Program} {l : Launch} {e : Env} {s : State} {m : MethodId} {below : List Frame} {meth : Method} {c : Code} {A : Nat → Prop} {G : Gt} {a0 : Int32} {u' : St} (B : Bd p s m [.ref (G.1 100), .int a0] meth c yX12_newClause cX12_newClause 11 none) (n : Nat) : (∀ (x4_ : Int32) (x5_ : Int32) (x6_ : Int32) (u : St) (H : Heap) (locs : List Loc) (ls : Array Slot), fX12_newClause_L0  n 0 x4_ x5_ x6_ 0 0 u = some u' → Ok 100 77 G A s u H locs → lv_has ls 11 [(0, .ref (G.1 100)), (4, .int x4_), (5, .int x5_), (6, .int x6_)] → W p l e rmX12_newClause s m ([.ref (G.1 100), .int a0] : List Value).toArray below meth c H locs 0 0 (MQ below (Qg 100 77 G A none u') ([.ref (G.1 100), .int a0] : List Value).toArray s 0 0 A) (F0 m 466 ls [])) ∧ (∀ (x4_ : Int32) (x5_ : Int32) (x6_ : Int32) (x7_ : Int32) (x8_ : Int32) (u : St) (H : Heap) (locs : List Loc) (ls : Array Slot), fX12_newClause_L0  n 1 x4_ x5_ x6_ x7_ x8_ u = some u' → Ok 100 77 G A s u H locs → lv_has ls 11 [(0, .ref (G.1 100)), (4, .int x4_), (5, .int x5_), (6, .int x6_), (7, .int x7_), (8, .int x8_)] → W p l e rmX12_newClause s m ([.ref (G.1 100), .int a0] : List Value).toArray below meth c H locs 0 0 (MQ below (Qg 100 77 G A none u') ([.ref (G.1 100), .int a0] : List Value).toArray s 0 0 A) (F0 m 487 ls [])) := by
  have F := B.1
  have hx := F.1
  have hb := F.2.1
  induction n with
  | zero => exact ⟨fun _ _ _ _ _ _ _ hf => g_no hf, fun _ _ _ _ _ _ _ _ _ hf => g_no hf⟩
  | succ n ih =>
    refine ⟨?_, ?_⟩
    · intro x4_ x5_ x6_ u H locs ls hf K hl
      have hf : fX12_newClause_L0_0  (fX12_newClause_L0  n) x4_ x5_ x6_ u = some u' := hf
      unfold fX12_newClause_L0_0 at hf
      refine lv_iload hx hb dX12_newClause_466 (lv_at hl 3 rfl) ?_
      refine lv_aload_n hx hb dX12_newClause_468 rfl (lv_at hl 0 rfl) ?_
      refine ok_int F K fX12_451 dX12_newClause_469 ?_
      refine lv_iload hx hb dX12_newClause_472 (lv_at hl 1 rfl) ?_
      refine lv_isub hx hb dX12_newClause_474 ?_
      refine lv_icmp_lt (pc := 475) (tgt := 529) hx hb dX12_newClause_475 (by decide) (fun c5 => ?_) (fun c5 => ?_)
      · have hf := g_pos hf c5
        refine lv_aload_n hx hb dX12_newClause_529 rfl (lv_at hl 0 rfl) ?_
        refine lv_aload_n hx hb dX12_newClause_530 rfl (lv_at hl 0 rfl) ?_
        refine ok_int F K fX12_370 dX12_newClause_531 ?_
        refine lv_if_ne (pc := 534) (tgt := 544) hx hb dX12_newClause_534 (by decide) (fun c6 => ?_) (fun c6 => ?_)
        · have hf := g_neg hf c6
          refine lv_iconst (v := 1) hx hb dX12_newClause_544 kI_1 ?_
          refine lv_goto (pc := 545) (tgt := 549) hx hb dX12_newClause_545 (by decide) ?_
          exact pX12_newClause_j549  B x5_ 1 u _ _ _ hf K (lv_sub hl [0, 2] rfl)
        · have hf := g_pos hf c6
          refine lv_iload hx hb dX12_newClause_537 (lv_at hl 2 rfl) ?_
          refine lv_bipush (v := 10) hx hb dX12_newClause_539 kB_10 ?_
          refine lv_icmp_le (pc := 541) (tgt := 548) hx hb dX12_newClause_541 (by decide) (fun c7 => ?_) (fun c7 => ?_)
          · have hf := g_pos hf c7
            refine lv_iconst (v := 0) hx hb dX12_newClause_548 kI_0 ?_
            exact pX12_newClause_j549  B x5_ 0 u _ _ _ hf K (lv_sub hl [0, 2] rfl)
          · have hf := g_neg hf c7
            refine lv_iconst (v := 1) hx hb dX12_newClause_544 kI_1 ?_
            refine lv_goto (pc := 545) (tgt := 549) hx hb dX12_newClause_545 (by decide) ?_
            exact pX12_newClause_j549  B x5_ 1 u _ _ _ hf K (lv_sub hl [0, 2] rfl)
      · have hf := g_neg hf c5
        refine lv_iload hx hb dX12_newClause_478 (lv_at hl 3 rfl) ?_
        refine lv_iconst (v := 1) hx hb dX12_newClause_480 kI_1 ?_
        refine lv_iadd hx hb dX12_newClause_481 ?_
        refine lv_topi (fun x8 ex8 => ?_)
        have hf := g_lt hf x8 ex8
        refine lv_istore (lv' := [(7, .int x8), (0, .ref (G.1 100)), (4, .int x4_), (5, .int x5_), (6, .int x6_)]) hx hb dX12_newClause_482 hl (by decide) rfl (fun ls hl => ?_)
        refine lv_iconst (v := 0) hx hb dX12_newClause_484 kI_0 ?_
        refine lv_topi (fun x9 ex9 => ?_)
        have hf := g_lt hf x9 ex9
        refine lv_istore (lv' := [(8, .int x9), (7, .int x8), (0, .ref (G.1 100)), (4, .int x4_), (5, .int x5_), (6, .int x6_)]) hx hb dX12_newClause_485 hl (by decide) rfl (fun ls hl => ?_)
        exact ih.2 x4_ x5_ x6_ x8 x9 u _ _ _ hf K (lv_sub hl [2, 3, 4, 5, 1, 0] rfl)
    · intro x4_ x5_ x6_ x7_ x8_ u H locs ls hf K hl
      have hf : fX12_newClause_L0_1  (fX12_newClause_L0  n) x4_ x5_ x6_ x7_ x8_ u = some u' := hf
      unfold fX12_newClause_L0_1 at hf
      refine lv_iload hx hb dX12_newClause_487 (lv_at hl 5 rfl) ?_
      refine lv_aload_n hx hb dX12_newClause_489 rfl (lv_at hl 0 rfl) ?_
      refine ok_ref F K fX12_49 dX12_newClause_490 ?_
      refine lv_iload hx hb dX12_newClause_493 (lv_at hl 3 rfl) ?_
      obtain ⟨v10, hv10, hf⟩ := g_bd hf
      refine ok_iald F K t113 hv10 dX12_newClause_495 ?_
      refine lv_icmp_ge (pc := 496) (tgt := 514) hx hb dX12_newClause_496 (by decide) (fun c11 => ?_) (fun c11 => ?_)
      · have hf := g_pos hf c11
        refine lv_aload_n hx hb dX12_newClause_514 rfl (lv_at hl 0 rfl) ?_
        refine ok_ref F K fX12_46 dX12_newClause_515 ?_
        refine lv_iload hx hb dX12_newClause_518 (lv_at hl 3 rfl) ?_
        refine lv_iload hx hb dX12_newClause_520 (lv_at hl 4 rfl) ?_
        obtain ⟨u12, hu12, hf⟩ := g_bd hf
        refine ok_iast F K t112 hu12 dX12_newClause_522 (fun H locs K => ?_)
        obtain ⟨x13, ex13⟩ : ∃ y : Int32, y = x6_ + (-1) := ⟨_, rfl⟩
        have hf := g_lt hf x13 ex13
        refine lv_iinc (v := x13) (lv' := [(6, .int x13), (0, .ref (G.1 100)), (4, .int x4_), (5, .int x5_), (7, .int x7_), (8, .int x8_)]) hx hb dX12_newClause_523 hl (k := 3) rfl (by rw [kI_m1, ex13]) (by decide) rfl (fun ls hl => ?_)
        refine lv_goto (pc := 526) (tgt := 466) hx hb dX12_newClause_526 (by decide) ?_
        exact ih.1 x4_ x5_ x13 u12 _ _ _ hf K (lv_sub hl [1, 2, 3, 0] rfl)
      · have hf := g_neg hf c11
        refine lv_aload_n hx hb dX12_newClause_499 rfl (lv_at hl 0 rfl) ?_
        refine ok_ref F K fX12_46 dX12_newClause_500 ?_
        refine lv_iload hx hb dX12_newClause_503 (lv_at hl 4 rfl) ?_
        obtain ⟨v14, hv14, hf⟩ := g_bd hf
        refine ok_iald F K t112 hv14 dX12_newClause_505 ?_
        refine lv_istore (lv' := [(7, .int v14), (0, .ref (G.1 100)), (4, .int x4_), (5, .int x5_), (6, .int x6_), (8, .int x8_)]) hx hb dX12_newClause_506 hl (by decide) rfl (fun ls hl => ?_)
        obtain ⟨x15, ex15⟩ : ∃ y : Int32, y = x8_ + 1 := ⟨_, rfl⟩
        have hf := g_lt hf x15 ex15
        refine lv_iinc (v := x15) (lv' := [(8, .int x15), (7, .int v14), (0, .ref (G.1 100)), (4, .int x4_), (5, .int x5_), (6, .int x6_)]) hx hb dX12_newClause_508 hl (k := 5) rfl (by rw [kI_1, ex15]) (by decide) rfl (fun ls hl => ?_)
        refine lv_goto (pc := 511) (tgt := 487) hx hb dX12_newClause_511 (by decide) ?_
        exact ih.2 x4_ x5_ x6_ v14 x15 u _ _ _ hf K (lv_sub hl [2, 3, 4, 5, 1, 0] rfl)
set_option maxRecDepth 100000 in
set_option maxHeartbeats 4000000 in
theorem pX12_newClause_L1 {p : Program} {l : Launch} {e : Env} {s : State} {m : MethodId} {below : List Frame} {meth : Method} {c : Code} {A : Nat → Prop} {G : Gt} {a0 : Int32} {u' : St} (B : Bd p s m [.ref (G.1 100), .int a0] meth c yX12_newClause cX12_newClause 11 none) (n : Nat) : (∀ (x2_ : Int32) (x4_ : Int32) (x5_ : Int32) (x6_ : Int32) (u : St) (H : Heap) (locs : List Loc) (ls : Array Slot), fX12_newClause_L1  n 0 x2_ x4_ x5_ x6_ 0 0 0 0 0 0 u = some u' → Ok 100 77 G A s u H locs → lv_has ls 11 [(0, .ref (G.1 100)), (2, .int x2_), (4, .int x4_), (5, .int x5_), (6, .int x6_)] → W p l e rmX12_newClause s m ([.ref (G.1 100), .int a0] : List Value).toArray below meth c H locs 0 0 (MQ below (Qg 100 77 G A none u') ([.ref (G.1 100), .int a0] : List Value).toArray s 0 0 A) (F0 m 261 ls [])) ∧ (∀ (x2_ : Int32) (x4_ : Int32) (x5_ : Int32) (x6_ : Int32) (x7_ : Int32) (x8_ : Int32) (u : St) (H : Heap) (locs : List Loc) (ls : Array Slot), fX12_newClause_L1  n 1 x2_ x4_ x5_ x6_ x7_ x8_ 0 0 0 0 u = some u' → Ok 100 77 G A s u H locs → lv_has ls 11 [(0, .ref (G.1 100)), (2, .int x2_), (4, .int x4_), (5, .int x5_), (6, .int x6_), (7, .int x7_), (8, .int x8_)] → W p l e rmX12_newClause s m ([.ref (G.1 100), .int a0] : List Value).toArray below meth c H locs 0 0 (MQ below (Qg 100 77 G A none u') ([.ref (G.1 100), .int a0] : List Value).toArray s 0 0 A) (F0 m 324 ls [])) ∧ (∀ (x2_ : Int32) (x4_ : Int32) (x5_ : Int32) (x6_ : Int32) (x7_ : Int32) (x8_ : Int32) (x9_ : Int32) (x10_ : Int32) (u : St) (H : Heap) (locs : List Loc) (ls : Array Slot), fX12_newClause_L1  n 2 x2_ x4_ x5_ x6_ x7_ x8_ x9_ x10_ 0 0 u = some u' → Ok 100 77 G A s u H locs → lv_has ls 11 [(0, .ref (G.1 100)), (2, .int x2_), (4, .int x4_), (5, .int x5_), (6, .int x6_), (7, .int x7_), (8, .int x8_), (9, .int x9_), (10, .int x10_)] → W p l e rmX12_newClause s m ([.ref (G.1 100), .int a0] : List Value).toArray below meth c H locs 0 0 (MQ below (Qg 100 77 G A none u') ([.ref (G.1 100), .int a0] : List Value).toArray s 0 0 A) (F0 m 353 ls [])) ∧ (∀ (x2_ : Int32) (x4_ : Int32) (x5_ : Int32) (x6_ : Int32) (x7_ : Int32) (x8_ : Int32) (x9_ : Int32) (x10_ : Int32) (u : St) (H : Heap) (locs : List Loc) (ls : Array Slot), fX12_newClause_L1  n 3 x2_ x4_ x5_ x6_ x7_ x8_ x9_ x10_ 0 0 u = some u' → Ok 100 77 G A s u H locs → lv_has ls 11 [(0, .ref (G.1 100)), (2, .int x2_), (4, .int x4_), (5, .int x5_), (6, .int x6_), (7, .int x7_), (8, .int x8_), (9, .int x9_), (10, .int x10_)] → W p l e rmX12_newClause s m ([.ref (G.1 100), .int a0] : List Value).toArray below meth c H locs 0 0 (MQ below (Qg 100 77 G A none u') ([.ref (G.1 100), .int a0] : List Value).toArray s 0 0 A) (F0 m 378 ls [])) ∧ (∀ (x2_ : Int32) (x4_ : Int32) (x6_ : Int32) (x7_ : Int32) (x8_ : Int32) (x10_ : Int32) (s0_ : Int32) (s1_ : Int32) (u : St) (H : Heap) (locs : List Loc) (ls : Array Slot), fX12_newClause_L1  n 4 x2_ x4_ 0 x6_ x7_ x8_ 0 x10_ s0_ s1_ u = some u' → Ok 100 77 G A s u H locs → lv_has ls 11 [(0, .ref (G.1 100)), (2, .int x2_), (4, .int x4_), (6, .int x6_), (7, .int x7_), (8, .int x8_), (10, .int x10_)] → W p l e rmX12_newClause s m ([.ref (G.1 100), .int a0] : List Value).toArray below meth c H locs 0 0 (MQ below (Qg 100 77 G A none u') ([.ref (G.1 100), .int a0] : List Value).toArray s 0 0 A) (F0 m 401 ls [.int s1_, .int s0_])) ∧ (∀ (x2_ : Int32) (x4_ : Int32) (x5_ : Int32) (x6_ : Int32) (x7_ : Int32) (x8_ : Int32) (x9_ : Int32) (u : St) (H : Heap) (locs : List Loc) (ls : Array Slot), fX12_newClause_L1  n 5 x2_ x4_ x5_ x6_ x7_ x8_ x9_ 0 0 0 u = some u' → Ok 100 77 G A s u H locs → lv_has ls 11 [(0, .ref (G.1 100)), (2, .int x2_), (4, .int x4_), (5, .int x5_), (6, .int x6_), (7, .int x7_), (8, .int x8_), (9, .int x9_)] → W p l e rmX12_newClause s m ([.ref (G.1 100), .int a0] : List Value).toArray below meth c H locs 0 0 (MQ below (Qg 100 77 G A none u') ([.ref (G.1 100), .int a0] : List Value).toArray s 0 0 A) (F0 m 410 ls [])) := by
  have F := B.1
  have hx := F.1
  have hb := F.2.1
  induction n with
  | zero => exact ⟨fun _ _ _ _ _ _ _ _ hf => g_no hf, fun _ _ _ _ _ _ _ _ _ _ hf => g_no hf, fun _ _ _ _ _ _ _ _ _ _ _ _ hf => g_no hf, fun _ _ _ _ _ _ _ _ _ _ _ _ hf => g_no hf, fun _ _ _ _ _ _ _ _ _ _ _ _ hf => g_no hf, fun _ _ _ _ _ _ _ _ _ _ _ hf => g_no hf⟩
  | succ n ih =>
    refine ⟨?_, ?_, ?_, ?_, ?_, ?_⟩
    · intro x2_ x4_ x5_ x6_ u H locs ls hf K hl
      have hf : fX12_newClause_L1_0  (fX12_newClause_L1  n) x2_ x4_ x5_ x6_ u = some u' := hf
      unfold fX12_newClause_L1_0 at hf
      refine lv_iload hx hb dX12_newClause_261 (lv_at hl 4 rfl) ?_
      refine lv_iload_n hx hb dX12_newClause_263 rfl (lv_at hl 1 rfl) ?_
      refine lv_icmp_ge (pc := 264) (tgt := 458) hx hb dX12_newClause_264 (by decide) (fun c16 => ?_) (fun c16 => ?_)
      · have hf := g_pos hf c16
        refine lv_aload_n hx hb dX12_newClause_458 rfl (lv_at hl 0 rfl) ?_
        refine ok_int F K fX12_451 dX12_newClause_459 ?_
        refine lv_iconst (v := 1) hx hb dX12_newClause_462 kI_1 ?_
        refine lv_isub hx hb dX12_newClause_463 ?_
        refine lv_topi (fun x17 ex17 => ?_)
        have hf := g_lt hf x17 ex17
        refine lv_istore (lv' := [(6, .int x17), (0, .ref (G.1 100)), (2, .int x2_), (4, .int x4_), (5, .int x5_)]) hx hb dX12_newClause_464 hl (by decide) rfl (fun ls hl => ?_)
        exact (pX12_newClause_L0  B FU).1 x4_ x5_ x17 u _ _ _ hf K (lv_sub hl [1, 3, 4, 0] rfl)
      · have hf := g_neg hf c16
        refine lv_aload_n hx hb dX12_newClause_267 rfl (lv_at hl 0 rfl) ?_
        refine ok_ref F K fX12_133 dX12_newClause_268 ?_
        refine lv_iload hx hb dX12_newClause_271 (lv_at hl 4 rfl) ?_
        obtain ⟨v18, hv18, hf⟩ := g_bd hf
        refine ok_iald F K t141 hv18 dX12_newClause_273 ?_
        refine lv_istore (lv' := [(7, .int v18), (0, .ref (G.1 100)), (2, .int x2_), (4, .int x4_), (5, .int x5_), (6, .int x6_)]) hx hb dX12_newClause_274 hl (by decide) rfl (fun ls hl => ?_)
        refine lv_aload_n hx hb dX12_newClause_276 rfl (lv_at hl 1 rfl) ?_
        refine ok_ref F K fX12_37 dX12_newClause_277 ?_
        refine lv_aload_n hx hb dX12_newClause_280 rfl (lv_at hl 1 rfl) ?_
        refine ok_int F K fX12_448 dX12_newClause_281 ?_
        refine lv_aload_n hx hb dX12_newClause_284 rfl (lv_at hl 1 rfl) ?_
        refine ok_ref F K fX12_109 dX12_newClause_285 ?_
        refine lv_iload hx hb dX12_newClause_288 (lv_at hl 0 rfl) ?_
        obtain ⟨v19, hv19, hf⟩ := g_bd hf
        refine ok_zald F K t133 hv19 dX12_newClause_290 ?_
        obtain ⟨z21, hz21, hf⟩ := g_bd hf
        obtain ⟨u20, hu20, hf⟩ := g_bd hf
        refine ok_zast F K t109 (g_zb hz21).2 hu20 dX12_newClause_291 (fun H locs K => ?_)
        refine lv_aload_n hx hb dX12_newClause_292 rfl (lv_at hl 1 rfl) ?_
        refine ok_ref F K fX12_40 dX12_newClause_293 ?_
        refine lv_aload_n hx hb dX12_newClause_296 rfl (lv_at hl 1 rfl) ?_
        refine ok_int F K fX12_448 dX12_newClause_297 ?_
        refine lv_aload_n hx hb dX12_newClause_300 rfl (lv_at hl 1 rfl) ?_
        refine ok_int F K fX12_451 dX12_newClause_301 ?_
        obtain ⟨u22, hu22, hf⟩ := g_bd hf
        refine ok_iast F K t110 hu22 dX12_newClause_304 (fun H locs K => ?_)
        refine lv_aload_n hx hb dX12_newClause_305 rfl (lv_at hl 1 rfl) ?_
        refine lv_dup hx hb dX12_newClause_306 rfl ?_
        refine ok_int F K fX12_448 dX12_newClause_307 ?_
        refine lv_iconst (v := 1) hx hb dX12_newClause_310 kI_1 ?_
        refine lv_iadd hx hb dX12_newClause_311 ?_
        refine ok_putI F K qX12_448 dX12_newClause_312 (fun u23 H locs eu23 K => ?_)
        have hf := g_lt hf u23 eu23
        refine lv_aload_n hx hb dX12_newClause_315 rfl (lv_at hl 1 rfl) ?_
        refine ok_ref F K fX12_103 dX12_newClause_316 ?_
        refine lv_iload hx hb dX12_newClause_319 (lv_at hl 0 rfl) ?_
        obtain ⟨v24, hv24, hf⟩ := g_bd hf
        refine ok_iald F K t131 hv24 dX12_newClause_321 ?_
        refine lv_istore (lv' := [(8, .int v24), (7, .int v18), (0, .ref (G.1 100)), (2, .int x2_), (4, .int x4_), (5, .int x5_), (6, .int x6_)]) hx hb dX12_newClause_322 hl (by decide) rfl (fun ls hl => ?_)
        exact ih.2.1 x2_ x4_ x5_ x6_ v18 v24 u23 _ _ _ hf K (lv_sub hl [2, 3, 4, 5, 6, 1, 0] rfl)
    · intro x2_ x4_ x5_ x6_ x7_ x8_ u H locs ls hf K hl
      have hf : fX12_newClause_L1_1  (fX12_newClause_L1  n) x2_ x4_ x5_ x6_ x7_ x8_ u = some u' := hf
      unfold fX12_newClause_L1_1 at hf
      refine lv_iload hx hb dX12_newClause_324 (lv_at hl 6 rfl) ?_
      refine lv_aload_n hx hb dX12_newClause_326 rfl (lv_at hl 0 rfl) ?_
      refine ok_ref F K fX12_106 dX12_newClause_327 ?_
      refine lv_iload hx hb dX12_newClause_330 (lv_at hl 5 rfl) ?_
      obtain ⟨v25, hv25, hf⟩ := g_bd hf
      refine ok_iald F K t132 hv25 dX12_newClause_332 ?_
      refine lv_icmp_ge (pc := 333) (tgt := 452) hx hb dX12_newClause_333 (by decide) (fun c26 => ?_) (fun c26 => ?_)
      · have hf := g_pos hf c26
        obtain ⟨x27, ex27⟩ : ∃ y : Int32, y = x6_ + 1 := ⟨_, rfl⟩
        have hf := g_lt hf x27 ex27
        refine lv_iinc (v := x27) (lv' := [(6, .int x27), (0, .ref (G.1 100)), (2, .int x2_), (4, .int x4_), (5, .int x5_), (7, .int x7_), (8, .int x8_)]) hx hb dX12_newClause_452 hl (k := 4) rfl (by rw [kI_1, ex27]) (by decide) rfl (fun ls hl => ?_)
        refine lv_goto (pc := 455) (tgt := 261) hx hb dX12_newClause_455 (by decide) ?_
        exact ih.1 x2_ x4_ x5_ x27 u _ _ _ hf K (lv_sub hl [1, 2, 3, 4, 0] rfl)
      · have hf := g_neg hf c26
        refine lv_aload_n hx hb dX12_newClause_336 rfl (lv_at hl 0 rfl) ?_
        refine ok_ref F K fX12_112 dX12_newClause_337 ?_
        refine lv_iload hx hb dX12_newClause_340 (lv_at hl 6 rfl) ?_
        obtain ⟨v28, hv28, hf⟩ := g_bd hf
        refine ok_iald F K t134 hv28 dX12_newClause_342 ?_
        refine lv_istore (lv' := [(9, .int v28), (0, .ref (G.1 100)), (2, .int x2_), (4, .int x4_), (5, .int x5_), (6, .int x6_), (7, .int x7_), (8, .int x8_)]) hx hb dX12_newClause_343 hl (by decide) rfl (fun ls hl => ?_)
        refine lv_iload hx hb dX12_newClause_345 (lv_at hl 0 rfl) ?_
        refine lv_if_ge (pc := 347) (tgt := 410) hx hb dX12_newClause_347 (by decide) (fun c29 => ?_) (fun c29 => ?_)
        · have hf := g_pos hf c29
          exact ih.2.2.2.2.2 x2_ x4_ x5_ x6_ x7_ x8_ v28 u _ _ _ hf K (lv_sub hl [1, 2, 3, 4, 5, 6, 7, 0] rfl)
        · have hf := g_neg hf c29
          refine lv_iconst (v := 0) hx hb dX12_newClause_350 kI_0 ?_
          refine lv_topi (fun x30 ex30 => ?_)
          have hf := g_lt hf x30 ex30
          refine lv_istore (lv' := [(10, .int x30), (9, .int v28), (0, .ref (G.1 100)), (2, .int x2_), (4, .int x4_), (5, .int x5_), (6, .int x6_), (7, .int x7_), (8, .int x8_)]) hx hb dX12_newClause_351 hl (by decide) rfl (fun ls hl => ?_)
          exact ih.2.2.1 x2_ x4_ x5_ x6_ x7_ x8_ v28 x30 u _ _ _ hf K (lv_sub hl [2, 3, 4, 5, 6, 7, 8, 1, 0] rfl)
    · intro x2_ x4_ x5_ x6_ x7_ x8_ x9_ x10_ u H locs ls hf K hl
      have hf : fX12_newClause_L1_2  (fX12_newClause_L1  n) x2_ x4_ x5_ x6_ x7_ x8_ x9_ x10_ u = some u' := hf
      unfold fX12_newClause_L1_2 at hf
      refine lv_iload hx hb dX12_newClause_353 (lv_at hl 8 rfl) ?_
      refine lv_iload hx hb dX12_newClause_355 (lv_at hl 3 rfl) ?_
      refine lv_icmp_ge (pc := 357) (tgt := 378) hx hb dX12_newClause_357 (by decide) (fun c31 => ?_) (fun c31 => ?_)
      · have hf := g_pos hf c31
        exact ih.2.2.2.1 x2_ x4_ x5_ x6_ x7_ x8_ x9_ x10_ u _ _ _ hf K (lv_sub hl [0, 1, 2, 3, 4, 5, 6, 7, 8] rfl)
      · have hf := g_neg hf c31
        refine lv_aload_n hx hb dX12_newClause_360 rfl (lv_at hl 0 rfl) ?_
        refine ok_ref F K fX12_136 dX12_newClause_361 ?_
        refine lv_iload hx hb dX12_newClause_364 (lv_at hl 8 rfl) ?_
        obtain ⟨v32, hv32, hf⟩ := g_bd hf
        refine ok_iald F K t142 hv32 dX12_newClause_366 ?_
        refine lv_iload hx hb dX12_newClause_367 (lv_at hl 7 rfl) ?_
        refine lv_icmp_eq (pc := 369) (tgt := 378) hx hb dX12_newClause_369 (by decide) (fun c33 => ?_) (fun c33 => ?_)
        · have hf := g_pos hf c33
          exact ih.2.2.2.1 x2_ x4_ x5_ x6_ x7_ x8_ x9_ x10_ u _ _ _ hf K (lv_sub hl [0, 1, 2, 3, 4, 5, 6, 7, 8] rfl)
        · have hf := g_neg hf c33
          obtain ⟨x34, ex34⟩ : ∃ y : Int32, y = x10_ + 1 := ⟨_, rfl⟩
          have hf := g_lt hf x34 ex34
          refine lv_iinc (v := x34) (lv' := [(10, .int x34), (0, .ref (G.1 100)), (2, .int x2_), (4, .int x4_), (5, .int x5_), (6, .int x6_), (7, .int x7_), (8, .int x8_), (9, .int x9_)]) hx hb dX12_newClause_372 hl (k := 8) rfl (by rw [kI_1, ex34]) (by decide) rfl (fun ls hl => ?_)
          refine lv_goto (pc := 375) (tgt := 353) hx hb dX12_newClause_375 (by decide) ?_
          exact ih.2.2.1 x2_ x4_ x5_ x6_ x7_ x8_ x9_ x34 u _ _ _ hf K (lv_sub hl [1, 2, 3, 4, 5, 6, 7, 8, 0] rfl)
    · intro x2_ x4_ x5_ x6_ x7_ x8_ x9_ x10_ u H locs ls hf K hl
      have hf : fX12_newClause_L1_3  (fX12_newClause_L1  n) x2_ x4_ x5_ x6_ x7_ x8_ x9_ x10_ u = some u' := hf
      unfold fX12_newClause_L1_3 at hf
      refine lv_aload_n hx hb dX12_newClause_378 rfl (lv_at hl 0 rfl) ?_
      refine ok_ref F K fX12_136 dX12_newClause_379 ?_
      refine lv_iload hx hb dX12_newClause_382 (lv_at hl 8 rfl) ?_
      refine lv_iload hx hb dX12_newClause_384 (lv_at hl 7 rfl) ?_
      obtain ⟨u35, hu35, hf⟩ := g_bd hf
      refine ok_iast F K t142 hu35 dX12_newClause_386 (fun H locs K => ?_)
      refine lv_iload hx hb dX12_newClause_387 (lv_at hl 3 rfl) ?_
      refine lv_iload hx hb dX12_newClause_389 (lv_at hl 8 rfl) ?_
      refine lv_iload hx hb dX12_newClause_391 (lv_at hl 3 rfl) ?_
      refine lv_icmp_ne (pc := 393) (tgt := 400) hx hb dX12_newClause_393 (by decide) (fun c36 => ?_) (fun c36 => ?_)
      · have hf := g_neg hf c36
        refine lv_iconst (v := 0) hx hb dX12_newClause_400 kI_0 ?_
        exact ih.2.2.2.2.1 x2_ x4_ x6_ x7_ x8_ x10_ x5_ 0 u35 _ _ _ hf K (lv_sub hl [0, 1, 2, 4, 5, 6, 8] rfl)
      · have hf := g_pos hf c36
        refine lv_iconst (v := 1) hx hb dX12_newClause_396 kI_1 ?_
        refine lv_goto (pc := 397) (tgt := 401) hx hb dX12_newClause_397 (by decide) ?_
        exact ih.2.2.2.2.1 x2_ x4_ x6_ x7_ x8_ x10_ x5_ 1 u35 _ _ _ hf K (lv_sub hl [0, 1, 2, 4, 5, 6, 8] rfl)
    · intro x2_ x4_ x6_ x7_ x8_ x10_ s0_ s1_ u H locs ls hf K hl
      have hf : fX12_newClause_L1_4  (fX12_newClause_L1  n) x2_ x4_ x6_ x7_ x8_ x10_ s0_ s1_ u = some u' := hf
      unfold fX12_newClause_L1_4 at hf
      refine lv_iadd hx hb dX12_newClause_401 ?_
      refine lv_topi (fun x37 ex37 => ?_)
      have hf := g_lt hf x37 ex37
      refine lv_istore (lv' := [(5, .int x37), (0, .ref (G.1 100)), (2, .int x2_), (4, .int x4_), (6, .int x6_), (7, .int x7_), (8, .int x8_), (10, .int x10_)]) hx hb dX12_newClause_402 hl (by decide) rfl (fun ls hl => ?_)
      refine lv_iconst (v := (-1)) hx hb dX12_newClause_404 kI_m1 ?_
      refine lv_iload hx hb dX12_newClause_405 (lv_at hl 7 rfl) ?_
      refine lv_isub hx hb dX12_newClause_407 ?_
      refine lv_topi (fun x38 ex38 => ?_)
      have hf := g_lt hf x38 ex38
      refine lv_istore (lv' := [(9, .int x38), (5, .int x37), (0, .ref (G.1 100)), (2, .int x2_), (4, .int x4_), (6, .int x6_), (7, .int x7_), (8, .int x8_), (10, .int x10_)]) hx hb dX12_newClause_408 hl (by decide) rfl (fun ls hl => ?_)
      exact ih.2.2.2.2.2 x2_ x4_ x37 x6_ x7_ x8_ x38 u _ _ _ hf K (lv_sub hl [2, 3, 4, 1, 5, 6, 7, 0] rfl)
    · intro x2_ x4_ x5_ x6_ x7_ x8_ x9_ u H locs ls hf K hl
      have hf : fX12_newClause_L1_5  (fX12_newClause_L1  n) x2_ x4_ x5_ x6_ x7_ x8_ x9_ u = some u' := hf
      unfold fX12_newClause_L1_5 at hf
      refine lv_aload_n hx hb dX12_newClause_410 rfl (lv_at hl 0 rfl) ?_
      refine ok_ref F K fX12_43 dX12_newClause_411 ?_
      refine lv_aload_n hx hb dX12_newClause_414 rfl (lv_at hl 0 rfl) ?_
      refine ok_int F K fX12_451 dX12_newClause_415 ?_
      refine lv_iload hx hb dX12_newClause_418 (lv_at hl 7 rfl) ?_
      obtain ⟨u39, hu39, hf⟩ := g_bd hf
      refine ok_iast F K t111 hu39 dX12_newClause_420 (fun H locs K => ?_)
      refine lv_aload_n hx hb dX12_newClause_421 rfl (lv_at hl 0 rfl) ?_
      refine ok_ref F K fX12_49 dX12_newClause_422 ?_
      refine lv_aload_n hx hb dX12_newClause_425 rfl (lv_at hl 0 rfl) ?_
      refine ok_int F K fX12_451 dX12_newClause_426 ?_
      refine lv_aload_n hx hb dX12_newClause_429 rfl (lv_at hl 0 rfl) ?_
      refine lv_iload hx hb dX12_newClause_430 (lv_at hl 7 rfl) ?_
      obtain ⟨r41, u40, hu40, hf⟩ := g_b2 hf
      refine ok_calli (rest := [.int (gI u39 100 17), .ref (G.1 113)]) F K (pX12_arityOf G hu40) mX12_arityOf oc100 lX12_454 rfl hl.1 rfl ⟨⟨rfl, rfl⟩, Nat.le_of_ble_eq_true rfl, Nat.le_of_ble_eq_true rfl⟩ (Nat.le_of_ble_eq_true rfl) dX12_newClause_432 (fun H locs K => ?_)
      obtain ⟨u42, hu42, hf⟩ := g_bd hf
      refine ok_iast F K t113 hu42 dX12_newClause_435 (fun H locs K => ?_)
      refine lv_aload_n hx hb dX12_newClause_436 rfl (lv_at hl 0 rfl) ?_
      refine lv_dup hx hb dX12_newClause_437 rfl ?_
      refine ok_int F K fX12_451 dX12_newClause_438 ?_
      refine lv_iconst (v := 1) hx hb dX12_newClause_441 kI_1 ?_
      refine lv_iadd hx hb dX12_newClause_442 ?_
      refine ok_putI F K qX12_451 dX12_newClause_443 (fun u43 H locs eu43 K => ?_)
      have hf := g_lt hf u43 eu43
      obtain ⟨x44, ex44⟩ : ∃ y : Int32, y = x8_ + 1 := ⟨_, rfl⟩
      have hf := g_lt hf x44 ex44
      refine lv_iinc (v := x44) (lv' := [(8, .int x44), (0, .ref (G.1 100)), (2, .int x2_), (4, .int x4_), (5, .int x5_), (6, .int x6_), (7, .int x7_), (9, .int x9_)]) hx hb dX12_newClause_446 hl (k := 6) rfl (by rw [kI_1, ex44]) (by decide) rfl (fun ls hl => ?_)
      refine lv_goto (pc := 449) (tgt := 324) hx hb dX12_newClause_449 (by decide) ?_
      exact ih.2.1 x2_ x4_ x5_ x6_ x7_ x44 u43 _ _ _ hf K (lv_sub hl [1, 2, 3, 4, 5, 6, 0] rfl)
set_option maxRecDepth 100000 in
set_option maxHeartbeats 4000000 in
theorem pX12_newClause_L2 {p : Program} {l : Launch} {e : Env} {s : State} {m : MethodId} {below : List Frame} {meth : Method} {c : Code} {A : Nat → Prop} {G : Gt} {a0 : Int32} {u' : St} (B : Bd p s m [.ref (G.1 100), .int a0] meth c yX12_newClause cX12_newClause 11 none) (n : Nat) : (∀ (x2_ : Int32) (x4_ : Int32) (x5_ : Int32) (u : St) (H : Heap) (locs : List Loc) (ls : Array Slot), fX12_newClause_L2  n 0 x2_ x4_ x5_ u = some u' → Ok 100 77 G A s u H locs → lv_has ls 11 [(0, .ref (G.1 100)), (2, .int x2_), (4, .int x4_), (5, .int x5_)] → W p l e rmX12_newClause s m ([.ref (G.1 100), .int a0] : List Value).toArray below meth c H locs 0 0 (MQ below (Qg 100 77 G A none u') ([.ref (G.1 100), .int a0] : List Value).toArray s 0 0 A) (F0 m 176 ls [])) := by
  have F := B.1
  have hx := F.1
  have hb := F.2.1
  induction n with
  | zero => exact fun _ _ _ _ _ _ _ hf => g_no hf
  | succ n ih =>
    refine ?_
    · intro x2_ x4_ x5_ u H locs ls hf K hl
      have hf : fX12_newClause_L2_0  (fX12_newClause_L2  n) x2_ x4_ x5_ u = some u' := hf
      unfold fX12_newClause_L2_0 at hf
      refine lv_iload hx hb dX12_newClause_176 (lv_at hl 3 rfl) ?_
      refine lv_iload_n hx hb dX12_newClause_178 rfl (lv_at hl 1 rfl) ?_
      refine lv_icmp_ge (pc := 179) (tgt := 218) hx hb dX12_newClause_179 (by decide) (fun c45 => ?_) (fun c45 => ?_)
      · have hf := g_pos hf c45
        refine lv_iload hx hb dX12_newClause_218 (lv_at hl 2 rfl) ?_
        refine lv_sipush (v := 200) hx hb dX12_newClause_220 kS_200 ?_
        refine lv_icmp_le (pc := 223) (tgt := 232) hx hb dX12_newClause_223 (by decide) (fun c46 => ?_) (fun c46 => ?_)
        · have hf := g_pos hf c46
          refine lv_iconst (v := 0) hx hb dX12_newClause_232 kI_0 ?_
          refine lv_topi (fun x47 ex47 => ?_)
          have hf := g_lt hf x47 ex47
          refine lv_istore (lv' := [(5, .int x47), (0, .ref (G.1 100)), (2, .int x2_), (4, .int x4_)]) hx hb dX12_newClause_233 hl (by decide) rfl (fun ls hl => ?_)
          refine lv_aload_n hx hb dX12_newClause_235 rfl (lv_at hl 1 rfl) ?_
          refine ok_ref F K fX12_28 dX12_newClause_236 ?_
          refine lv_aload_n hx hb dX12_newClause_239 rfl (lv_at hl 1 rfl) ?_
          refine ok_int F K fX12_445 dX12_newClause_240 ?_
          refine lv_aload_n hx hb dX12_newClause_243 rfl (lv_at hl 1 rfl) ?_
          refine ok_int F K fX12_448 dX12_newClause_244 ?_
          obtain ⟨u48, hu48, hf⟩ := g_bd hf
          refine ok_iast F K t106 hu48 dX12_newClause_247 (fun H locs K => ?_)
          refine lv_aload_n hx hb dX12_newClause_248 rfl (lv_at hl 1 rfl) ?_
          refine ok_ref F K fX12_31 dX12_newClause_249 ?_
          refine lv_aload_n hx hb dX12_newClause_252 rfl (lv_at hl 1 rfl) ?_
          refine ok_int F K fX12_445 dX12_newClause_253 ?_
          refine lv_iload_n hx hb dX12_newClause_256 rfl (lv_at hl 2 rfl) ?_
          obtain ⟨u49, hu49, hf⟩ := g_bd hf
          refine ok_iast F K t107 hu49 dX12_newClause_257 (fun H locs K => ?_)
          refine lv_iconst (v := 0) hx hb dX12_newClause_258 kI_0 ?_
          refine lv_topi (fun x50 ex50 => ?_)
          have hf := g_lt hf x50 ex50
          refine lv_istore (lv' := [(6, .int x50), (5, .int x47), (0, .ref (G.1 100)), (2, .int x2_), (4, .int x4_)]) hx hb dX12_newClause_259 hl (by decide) rfl (fun ls hl => ?_)
          exact (pX12_newClause_L1  B FU).1 x2_ x4_ x47 x50 u49 _ _ _ hf K (lv_sub hl [2, 3, 4, 1, 0] rfl)
        · have hf := g_neg hf c46
          refine lv_aload_n hx hb dX12_newClause_226 rfl (lv_at hl 0 rfl) ?_
          refine lv_iconst (v := 1) hx hb dX12_newClause_227 kI_1 ?_
          refine ok_putZ F K qX12_370 (Or.inr rfl) dX12_newClause_228 (fun u51 H locs eu51 K => ?_)
          have hf := g_lt hf u51 eu51
          exact ok_retv B K hf dX12_newClause_231
      · have hf := g_neg hf c45
        refine lv_iload hx hb dX12_newClause_182 (lv_at hl 2 rfl) ?_
        refine lv_aload_n hx hb dX12_newClause_184 rfl (lv_at hl 0 rfl) ?_
        refine ok_ref F K fX12_106 dX12_newClause_185 ?_
        refine lv_aload_n hx hb dX12_newClause_188 rfl (lv_at hl 0 rfl) ?_
        refine ok_ref F K fX12_133 dX12_newClause_189 ?_
        refine lv_iload hx hb dX12_newClause_192 (lv_at hl 3 rfl) ?_
        obtain ⟨v52, hv52, hf⟩ := g_bd hf
        refine ok_iald F K t141 hv52 dX12_newClause_194 ?_
        obtain ⟨v53, hv53, hf⟩ := g_bd hf
        refine ok_iald F K t132 hv53 dX12_newClause_195 ?_
        refine lv_aload_n hx hb dX12_newClause_196 rfl (lv_at hl 0 rfl) ?_
        refine ok_ref F K fX12_103 dX12_newClause_197 ?_
        refine lv_aload_n hx hb dX12_newClause_200 rfl (lv_at hl 0 rfl) ?_
        refine ok_ref F K fX12_133 dX12_newClause_201 ?_
        refine lv_iload hx hb dX12_newClause_204 (lv_at hl 3 rfl) ?_
        obtain ⟨v54, hv54, hf⟩ := g_bd hf
        refine ok_iald F K t141 hv54 dX12_newClause_206 ?_
        obtain ⟨v55, hv55, hf⟩ := g_bd hf
        refine ok_iald F K t131 hv55 dX12_newClause_207 ?_
        refine lv_isub hx hb dX12_newClause_208 ?_
        refine lv_iadd hx hb dX12_newClause_209 ?_
        refine lv_topi (fun x56 ex56 => ?_)
        have hf := g_lt hf x56 ex56
        refine lv_istore (lv' := [(4, .int x56), (0, .ref (G.1 100)), (2, .int x2_), (5, .int x5_)]) hx hb dX12_newClause_210 hl (by decide) rfl (fun ls hl => ?_)
        obtain ⟨x57, ex57⟩ : ∃ y : Int32, y = x5_ + 1 := ⟨_, rfl⟩
        have hf := g_lt hf x57 ex57
        refine lv_iinc (v := x57) (lv' := [(5, .int x57), (4, .int x56), (0, .ref (G.1 100)), (2, .int x2_)]) hx hb dX12_newClause_212 hl (k := 3) rfl (by rw [kI_1, ex57]) (by decide) rfl (fun ls hl => ?_)
        refine lv_goto (pc := 215) (tgt := 176) hx hb dX12_newClause_215 (by decide) ?_
        exact ih x2_ x56 x57 u _ _ _ hf K (lv_sub hl [2, 3, 1, 0] rfl)
set_option maxRecDepth 100000 in
set_option maxHeartbeats 4000000 in
theorem pX12_newClause_L3 {p : Program} {l : Launch} {e : Env} {s : State} {m : MethodId} {below : List Frame} {meth : Method} {c : Code} {A : Nat → Prop} {G : Gt} {a0 : Int32} {u' : St} (B : Bd p s m [.ref (G.1 100), .int a0] meth c yX12_newClause cX12_newClause 11 none) (n : Nat) : (∀ (x1_ : Int32) (x2_ : Int32) (x3_ : Int32) (x4_ : Int32) (u : St) (H : Heap) (locs : List Loc) (ls : Array Slot), fX12_newClause_L3  n 0 x1_ x2_ x3_ x4_ 0 0 0 0 0 u = some u' → Ok 100 77 G A s u H locs → lv_has ls 11 [(0, .ref (G.1 100)), (1, .int x1_), (2, .int x2_), (3, .int x3_), (4, .int x4_)] → W p l e rmX12_newClause s m ([.ref (G.1 100), .int a0] : List Value).toArray below meth c H locs 0 0 (MQ below (Qg 100 77 G A none u') ([.ref (G.1 100), .int a0] : List Value).toArray s 0 0 A) (F0 m 7 ls [])) ∧ (∀ (x1_ : Int32) (x2_ : Int32) (x3_ : Int32) (x4_ : Int32) (x5_ : Int32) (x6_ : Int32) (x7_ : Int32) (u : St) (H : Heap) (locs : List Loc) (ls : Array Slot), fX12_newClause_L3  n 1 x1_ x2_ x3_ x4_ x5_ x6_ x7_ 0 0 u = some u' → Ok 100 77 G A s u H locs → lv_has ls 11 [(0, .ref (G.1 100)), (1, .int x1_), (2, .int x2_), (3, .int x3_), (4, .int x4_), (5, .int x5_), (6, .int x6_), (7, .int x7_)] → W p l e rmX12_newClause s m ([.ref (G.1 100), .int a0] : List Value).toArray below meth c H locs 0 0 (MQ below (Qg 100 77 G A none u') ([.ref (G.1 100), .int a0] : List Value).toArray s 0 0 A) (F0 m 40 ls [])) ∧ (∀ (x1_ : Int32) (x2_ : Int32) (x3_ : Int32) (x4_ : Int32) (x5_ : Int32) (x7_ : Int32) (x8_ : Int32) (s0_ : Int32) (u : St) (H : Heap) (locs : List Loc) (ls : Array Slot), fX12_newClause_L3  n 2 x1_ x2_ x3_ x4_ x5_ 0 x7_ x8_ s0_ u = some u' → Ok 100 77 G A s u H locs → lv_has ls 11 [(0, .ref (G.1 100)), (1, .int x1_), (2, .int x2_), (3, .int x3_), (4, .int x4_), (5, .int x5_), (7, .int x7_), (8, .int x8_)] → W p l e rmX12_newClause s m ([.ref (G.1 100), .int a0] : List Value).toArray below meth c H locs 0 0 (MQ below (Qg 100 77 G A none u') ([.ref (G.1 100), .int a0] : List Value).toArray s 0 0 A) (F0 m 98 ls [.int s0_])) := by
  have F := B.1
  have hx := F.1
  have hb := F.2.1
  induction n with
  | zero => exact ⟨fun _ _ _ _ _ _ _ _ hf => g_no hf, fun _ _ _ _ _ _ _ _ _ _ _ hf => g_no hf, fun _ _ _ _ _ _ _ _ _ _ _ _ hf => g_no hf⟩
  | succ n ih =>
    refine ⟨?_, ?_, ?_⟩
    · intro x1_ x2_ x3_ x4_ u H locs ls hf K hl
      have hf : fX12_newClause_L3_0  (fX12_newClause_L3  n) x1_ x2_ x3_ x4_ u = some u' := hf
      unfold fX12_newClause_L3_0 at hf
      refine lv_iload hx hb dX12_newClause_7 (lv_at hl 4 rfl) ?_
      refine lv_aload_n hx hb dX12_newClause_9 rfl (lv_at hl 0 rfl) ?_
      refine ok_ref F K fX12_127 dX12_newClause_10 ?_
      refine lv_iload_n hx hb dX12_newClause_13 rfl (lv_at hl 1 rfl) ?_
      obtain ⟨v58, hv58, hf⟩ := g_bd hf
      refine ok_iald F K t139 hv58 dX12_newClause_14 ?_
      refine lv_icmp_ge (pc := 15) (tgt := 165) hx hb dX12_newClause_15 (by decide) (fun c59 => ?_) (fun c59 => ?_)
      · have hf := g_pos hf c59
        refine lv_iload_n hx hb dX12_newClause_165 rfl (lv_at hl 3 rfl) ?_
        refine lv_if_eq (pc := 166) (tgt := 170) hx hb dX12_newClause_166 (by decide) (fun c60 => ?_) (fun c60 => ?_)
        · have hf := g_pos hf c60
          refine lv_iconst (v := 0) hx hb dX12_newClause_170 kI_0 ?_
          refine lv_topi (fun x61 ex61 => ?_)
          have hf := g_lt hf x61 ex61
          refine lv_istore (lv' := [(4, .int x61), (0, .ref (G.1 100)), (1, .int x1_), (2, .int x2_), (3, .int x3_)]) hx hb dX12_newClause_171 hl (by decide) rfl (fun ls hl => ?_)
          refine lv_iconst (v := 0) hx hb dX12_newClause_173 kI_0 ?_
          refine lv_topi (fun x62 ex62 => ?_)
          have hf := g_lt hf x62 ex62
          refine lv_istore (lv' := [(5, .int x62), (4, .int x61), (0, .ref (G.1 100)), (1, .int x1_), (2, .int x2_), (3, .int x3_)]) hx hb dX12_newClause_174 hl (by decide) rfl (fun ls hl => ?_)
          exact (pX12_newClause_L2  B FU) x2_ x61 x62 u _ _ _ hf K (lv_sub hl [2, 4, 1, 0] rfl)
        · have hf := g_neg hf c60
          exact ok_retv B K hf dX12_newClause_169
      · have hf := g_neg hf c59
        refine lv_aload_n hx hb dX12_newClause_18 rfl (lv_at hl 0 rfl) ?_
        refine ok_ref F K fX12_130 dX12_newClause_19 ?_
        refine lv_aload_n hx hb dX12_newClause_22 rfl (lv_at hl 0 rfl) ?_
        refine ok_ref F K fX12_124 dX12_newClause_23 ?_
        refine lv_iload_n hx hb dX12_newClause_26 rfl (lv_at hl 1 rfl) ?_
        obtain ⟨v63, hv63, hf⟩ := g_bd hf
        refine ok_iald F K t138 hv63 dX12_newClause_27 ?_
        refine lv_iload hx hb dX12_newClause_28 (lv_at hl 4 rfl) ?_
        refine lv_iadd hx hb dX12_newClause_30 ?_
        obtain ⟨v64, hv64, hf⟩ := g_bd hf
        refine ok_iald F K t140 hv64 dX12_newClause_31 ?_
        refine lv_istore (lv' := [(5, .int v64), (0, .ref (G.1 100)), (1, .int x1_), (2, .int x2_), (3, .int x3_), (4, .int x4_)]) hx hb dX12_newClause_32 hl (by decide) rfl (fun ls hl => ?_)
        refine lv_iconst (v := 0) hx hb dX12_newClause_34 kI_0 ?_
        refine lv_topi (fun x65 ex65 => ?_)
        have hf := g_lt hf x65 ex65
        refine lv_istore (lv' := [(6, .int x65), (5, .int v64), (0, .ref (G.1 100)), (1, .int x1_), (2, .int x2_), (3, .int x3_), (4, .int x4_)]) hx hb dX12_newClause_35 hl (by decide) rfl (fun ls hl => ?_)
        refine lv_iconst (v := 0) hx hb dX12_newClause_37 kI_0 ?_
        refine lv_topi (fun x66 ex66 => ?_)
        have hf := g_lt hf x66 ex66
        refine lv_istore (lv' := [(7, .int x66), (6, .int x65), (5, .int v64), (0, .ref (G.1 100)), (1, .int x1_), (2, .int x2_), (3, .int x3_), (4, .int x4_)]) hx hb dX12_newClause_38 hl (by decide) rfl (fun ls hl => ?_)
        exact ih.2.1 x1_ x2_ x3_ x4_ v64 x65 x66 u _ _ _ hf K (lv_sub hl [3, 4, 5, 6, 7, 2, 1, 0] rfl)
    · intro x1_ x2_ x3_ x4_ x5_ x6_ x7_ u H locs ls hf K hl
      have hf : fX12_newClause_L3_1  (fX12_newClause_L3  n) x1_ x2_ x3_ x4_ x5_ x6_ x7_ u = some u' := hf
      unfold fX12_newClause_L3_1 at hf
      refine lv_iload hx hb dX12_newClause_40 (lv_at hl 7 rfl) ?_
      refine lv_iload_n hx hb dX12_newClause_42 rfl (lv_at hl 2 rfl) ?_
      refine lv_icmp_ge (pc := 43) (tgt := 143) hx hb dX12_newClause_43 (by decide) (fun c67 => ?_) (fun c67 => ?_)
      · have hf := g_pos hf c67
        refine lv_iload hx hb dX12_newClause_143 (lv_at hl 6 rfl) ?_
        refine lv_if_ne (pc := 145) (tgt := 159) hx hb dX12_newClause_145 (by decide) (fun c68 => ?_) (fun c68 => ?_)
        · have hf := g_neg hf c68
          obtain ⟨x69, ex69⟩ : ∃ y : Int32, y = x4_ + 1 := ⟨_, rfl⟩
          have hf := g_lt hf x69 ex69
          refine lv_iinc (v := x69) (lv' := [(4, .int x69), (0, .ref (G.1 100)), (1, .int x1_), (2, .int x2_), (3, .int x3_), (5, .int x5_), (6, .int x6_), (7, .int x7_)]) hx hb dX12_newClause_159 hl (k := 4) rfl (by rw [kI_1, ex69]) (by decide) rfl (fun ls hl => ?_)
          refine lv_goto (pc := 162) (tgt := 7) hx hb dX12_newClause_162 (by decide) ?_
          exact ih.1 x1_ x2_ x3_ x69 u _ _ _ hf K (lv_sub hl [1, 2, 3, 4, 0] rfl)
        · have hf := g_pos hf c68
          refine lv_aload_n hx hb dX12_newClause_148 rfl (lv_at hl 0 rfl) ?_
          refine ok_ref F K fX12_133 dX12_newClause_149 ?_
          refine lv_iload_n hx hb dX12_newClause_152 rfl (lv_at hl 2 rfl) ?_
          refine lv_iload hx hb dX12_newClause_153 (lv_at hl 5 rfl) ?_
          obtain ⟨u70, hu70, hf⟩ := g_bd hf
          refine ok_iast F K t141 hu70 dX12_newClause_155 (fun H locs K => ?_)
          obtain ⟨x71, ex71⟩ : ∃ y : Int32, y = x2_ + 1 := ⟨_, rfl⟩
          have hf := g_lt hf x71 ex71
          refine lv_iinc (v := x71) (lv' := [(2, .int x71), (0, .ref (G.1 100)), (1, .int x1_), (3, .int x3_), (4, .int x4_), (5, .int x5_), (6, .int x6_), (7, .int x7_)]) hx hb dX12_newClause_156 hl (k := 2) rfl (by rw [kI_1, ex71]) (by decide) rfl (fun ls hl => ?_)
          obtain ⟨x72, ex72⟩ : ∃ y : Int32, y = x4_ + 1 := ⟨_, rfl⟩
          have hf := g_lt hf x72 ex72
          refine lv_iinc (v := x72) (lv' := [(4, .int x72), (2, .int x71), (0, .ref (G.1 100)), (1, .int x1_), (3, .int x3_), (5, .int x5_), (6, .int x6_), (7, .int x7_)]) hx hb dX12_newClause_159 hl (k := 4) rfl (by rw [kI_1, ex72]) (by decide) rfl (fun ls hl => ?_)
          refine lv_goto (pc := 162) (tgt := 7) hx hb dX12_newClause_162 (by decide) ?_
          exact ih.1 x1_ x71 x3_ x72 u70 _ _ _ hf K (lv_sub hl [2, 3, 1, 4, 0] rfl)
      · have hf := g_neg hf c67
        refine lv_aload_n hx hb dX12_newClause_46 rfl (lv_at hl 0 rfl) ?_
        refine lv_aload_n hx hb dX12_newClause_47 rfl (lv_at hl 0 rfl) ?_
        refine ok_ref F K fX12_133 dX12_newClause_48 ?_
        refine lv_iload hx hb dX12_newClause_51 (lv_at hl 7 rfl) ?_
        obtain ⟨v73, hv73, hf⟩ := g_bd hf
        refine ok_iald F K t141 hv73 dX12_newClause_53 ?_
        refine lv_iload hx hb dX12_newClause_54 (lv_at hl 5 rfl) ?_
        obtain ⟨r75, u74, hu74, hf⟩ := g_b2 hf
        refine ok_calli (rest := []) F K (pX12_isAtom G hu74) mX12_isAtom oc100 lX12_441 rfl hl.1 rfl ⟨⟨rfl, rfl⟩, Nat.le_of_ble_eq_true rfl, Nat.le_of_ble_eq_true rfl⟩ (Nat.le_of_ble_eq_true rfl) dX12_newClause_56 (fun H locs K => ?_)
        refine lv_istore (lv' := [(8, .int r75), (0, .ref (G.1 100)), (1, .int x1_), (2, .int x2_), (3, .int x3_), (4, .int x4_), (5, .int x5_), (6, .int x6_), (7, .int x7_)]) hx hb dX12_newClause_59 hl (by decide) rfl (fun ls hl => ?_)
        refine lv_iload hx hb dX12_newClause_61 (lv_at hl 7 rfl) ?_
        refine lv_if_ne (pc := 63) (tgt := 93) hx hb dX12_newClause_63 (by decide) (fun c76 => ?_) (fun c76 => ?_)
        · have hf := g_neg hf c76
          refine lv_iconst (v := 1) hx hb dX12_newClause_93 kI_1 ?_
          refine lv_goto (pc := 94) (tgt := 98) hx hb dX12_newClause_94 (by decide) ?_
          exact ih.2.2 x1_ x2_ x3_ x4_ x5_ x7_ r75 1 u74 _ _ _ hf K (lv_sub hl [1, 2, 3, 4, 5, 6, 8, 0] rfl)
        · have hf := g_pos hf c76
          refine lv_iload hx hb dX12_newClause_66 (lv_at hl 0 rfl) ?_
          refine lv_if_eq (pc := 68) (tgt := 97) hx hb dX12_newClause_68 (by decide) (fun c77 => ?_) (fun c77 => ?_)
          · have hf := g_pos hf c77
            refine lv_iconst (v := 0) hx hb dX12_newClause_97 kI_0 ?_
            exact ih.2.2 x1_ x2_ x3_ x4_ x5_ x7_ r75 0 u74 _ _ _ hf K (lv_sub hl [1, 2, 3, 4, 5, 6, 8, 0] rfl)
          · have hf := g_neg hf c77
            refine lv_aload_n hx hb dX12_newClause_71 rfl (lv_at hl 1 rfl) ?_
            refine ok_ref F K fX12_109 dX12_newClause_72 ?_
            refine lv_aload_n hx hb dX12_newClause_75 rfl (lv_at hl 1 rfl) ?_
            refine ok_ref F K fX12_133 dX12_newClause_76 ?_
            refine lv_iload hx hb dX12_newClause_79 (lv_at hl 8 rfl) ?_
            obtain ⟨v78, hv78, hf⟩ := g_bd hf
            refine ok_iald F K t141 hv78 dX12_newClause_81 ?_
            obtain ⟨v79, hv79, hf⟩ := g_bd hf
            refine ok_zald F K t133 hv79 dX12_newClause_82 ?_
            refine lv_aload_n hx hb dX12_newClause_83 rfl (lv_at hl 1 rfl) ?_
            refine ok_ref F K fX12_109 dX12_newClause_84 ?_
            refine lv_iload hx hb dX12_newClause_87 (lv_at hl 6 rfl) ?_
            obtain ⟨v80, hv80, hf⟩ := g_bd hf
            refine ok_zald F K t133 hv80 dX12_newClause_89 ?_
            refine lv_icmp_ne (pc := 90) (tgt := 97) hx hb dX12_newClause_90 (by decide) (fun c81 => ?_) (fun c81 => ?_)
            · have hf := g_neg hf c81
              refine lv_iconst (v := 0) hx hb dX12_newClause_97 kI_0 ?_
              exact ih.2.2 x1_ x2_ x3_ x4_ x5_ x7_ r75 0 u74 _ _ _ hf K (lv_sub hl [1, 2, 3, 4, 5, 6, 8, 0] rfl)
            · have hf := g_pos hf c81
              refine lv_iconst (v := 1) hx hb dX12_newClause_93 kI_1 ?_
              refine lv_goto (pc := 94) (tgt := 98) hx hb dX12_newClause_94 (by decide) ?_
              exact ih.2.2 x1_ x2_ x3_ x4_ x5_ x7_ r75 1 u74 _ _ _ hf K (lv_sub hl [1, 2, 3, 4, 5, 6, 8, 0] rfl)
    · intro x1_ x2_ x3_ x4_ x5_ x7_ x8_ s0_ u H locs ls hf K hl
      have hf : fX12_newClause_L3_2  (fX12_newClause_L3  n) x1_ x2_ x3_ x4_ x5_ x7_ x8_ s0_ u = some u' := hf
      unfold fX12_newClause_L3_2 at hf
      refine lv_istore (lv' := [(6, .int s0_), (0, .ref (G.1 100)), (1, .int x1_), (2, .int x2_), (3, .int x3_), (4, .int x4_), (5, .int x5_), (7, .int x7_), (8, .int x8_)]) hx hb dX12_newClause_98 hl (by decide) rfl (fun ls hl => ?_)
      refine lv_iload_n hx hb dX12_newClause_100 rfl (lv_at hl 4 rfl) ?_
      refine lv_if_ne (pc := 101) (tgt := 131) hx hb dX12_newClause_101 (by decide) (fun c82 => ?_) (fun c82 => ?_)
      · have hf := g_neg hf c82
        refine lv_iconst (v := 1) hx hb dX12_newClause_131 kI_1 ?_
        refine lv_goto (pc := 132) (tgt := 136) hx hb dX12_newClause_132 (by decide) ?_
        refine lv_topi (fun x83 ex83 => ?_)
        have hf := g_lt hf x83 ex83
        refine lv_istore_n (lv' := [(3, .int x83), (6, .int s0_), (0, .ref (G.1 100)), (1, .int x1_), (2, .int x2_), (4, .int x4_), (5, .int x5_), (7, .int x7_), (8, .int x8_)]) hx hb dX12_newClause_136 rfl hl (by decide) rfl (fun ls hl => ?_)
        obtain ⟨x84, ex84⟩ : ∃ y : Int32, y = x7_ + 1 := ⟨_, rfl⟩
        have hf := g_lt hf x84 ex84
        refine lv_iinc (v := x84) (lv' := [(7, .int x84), (3, .int x83), (6, .int s0_), (0, .ref (G.1 100)), (1, .int x1_), (2, .int x2_), (4, .int x4_), (5, .int x5_), (8, .int x8_)]) hx hb dX12_newClause_137 hl (k := 7) rfl (by rw [kI_1, ex84]) (by decide) rfl (fun ls hl => ?_)
        refine lv_goto (pc := 140) (tgt := 40) hx hb dX12_newClause_140 (by decide) ?_
        exact ih.2.1 x1_ x2_ x83 x4_ x5_ s0_ x84 u _ _ _ hf K (lv_sub hl [3, 4, 5, 1, 6, 7, 2, 0] rfl)
      · have hf := g_pos hf c82
        refine lv_iload hx hb dX12_newClause_104 (lv_at hl 8 rfl) ?_
        refine lv_if_eq (pc := 106) (tgt := 135) hx hb dX12_newClause_106 (by decide) (fun c85 => ?_) (fun c85 => ?_)
        · have hf := g_pos hf c85
          refine lv_iconst (v := 0) hx hb dX12_newClause_135 kI_0 ?_
          refine lv_topi (fun x86 ex86 => ?_)
          have hf := g_lt hf x86 ex86
          refine lv_istore_n (lv' := [(3, .int x86), (6, .int s0_), (0, .ref (G.1 100)), (1, .int x1_), (2, .int x2_), (4, .int x4_), (5, .int x5_), (7, .int x7_), (8, .int x8_)]) hx hb dX12_newClause_136 rfl hl (by decide) rfl (fun ls hl => ?_)
          obtain ⟨x87, ex87⟩ : ∃ y : Int32, y = x7_ + 1 := ⟨_, rfl⟩
          have hf := g_lt hf x87 ex87
          refine lv_iinc (v := x87) (lv' := [(7, .int x87), (3, .int x86), (6, .int s0_), (0, .ref (G.1 100)), (1, .int x1_), (2, .int x2_), (4, .int x4_), (5, .int x5_), (8, .int x8_)]) hx hb dX12_newClause_137 hl (k := 7) rfl (by rw [kI_1, ex87]) (by decide) rfl (fun ls hl => ?_)
          refine lv_goto (pc := 140) (tgt := 40) hx hb dX12_newClause_140 (by decide) ?_
          exact ih.2.1 x1_ x2_ x86 x4_ x5_ s0_ x87 u _ _ _ hf K (lv_sub hl [3, 4, 5, 1, 6, 7, 2, 0] rfl)
        · have hf := g_neg hf c85
          refine lv_aload_n hx hb dX12_newClause_109 rfl (lv_at hl 1 rfl) ?_
          refine ok_ref F K fX12_109 dX12_newClause_110 ?_
          refine lv_aload_n hx hb dX12_newClause_113 rfl (lv_at hl 1 rfl) ?_
          refine ok_ref F K fX12_133 dX12_newClause_114 ?_
          refine lv_iload hx hb dX12_newClause_117 (lv_at hl 7 rfl) ?_
          obtain ⟨v88, hv88, hf⟩ := g_bd hf
          refine ok_iald F K t141 hv88 dX12_newClause_119 ?_
          obtain ⟨v89, hv89, hf⟩ := g_bd hf
          refine ok_zald F K t133 hv89 dX12_newClause_120 ?_
          refine lv_aload_n hx hb dX12_newClause_121 rfl (lv_at hl 1 rfl) ?_
          refine ok_ref F K fX12_109 dX12_newClause_122 ?_
          refine lv_iload hx hb dX12_newClause_125 (lv_at hl 6 rfl) ?_
          obtain ⟨v90, hv90, hf⟩ := g_bd hf
          refine ok_zald F K t133 hv90 dX12_newClause_127 ?_
          refine lv_icmp_eq (pc := 128) (tgt := 135) hx hb dX12_newClause_128 (by decide) (fun c91 => ?_) (fun c91 => ?_)
          · have hf := g_pos hf c91
            refine lv_iconst (v := 0) hx hb dX12_newClause_135 kI_0 ?_
            refine lv_topi (fun x92 ex92 => ?_)
            have hf := g_lt hf x92 ex92
            refine lv_istore_n (lv' := [(3, .int x92), (6, .int s0_), (0, .ref (G.1 100)), (1, .int x1_), (2, .int x2_), (4, .int x4_), (5, .int x5_), (7, .int x7_), (8, .int x8_)]) hx hb dX12_newClause_136 rfl hl (by decide) rfl (fun ls hl => ?_)
            obtain ⟨x93, ex93⟩ : ∃ y : Int32, y = x7_ + 1 := ⟨_, rfl⟩
            have hf := g_lt hf x93 ex93
            refine lv_iinc (v := x93) (lv' := [(7, .int x93), (3, .int x92), (6, .int s0_), (0, .ref (G.1 100)), (1, .int x1_), (2, .int x2_), (4, .int x4_), (5, .int x5_), (8, .int x8_)]) hx hb dX12_newClause_137 hl (k := 7) rfl (by rw [kI_1, ex93]) (by decide) rfl (fun ls hl => ?_)
            refine lv_goto (pc := 140) (tgt := 40) hx hb dX12_newClause_140 (by decide) ?_
            exact ih.2.1 x1_ x2_ x92 x4_ x5_ s0_ x93 u _ _ _ hf K (lv_sub hl [3, 4, 5, 1, 6, 7, 2, 0] rfl)
          · have hf := g_neg hf c91
            refine lv_iconst (v := 1) hx hb dX12_newClause_131 kI_1 ?_
            refine lv_goto (pc := 132) (tgt := 136) hx hb dX12_newClause_132 (by decide) ?_
            refine lv_topi (fun x94 ex94 => ?_)
            have hf := g_lt hf x94 ex94
            refine lv_istore_n (lv' := [(3, .int x94), (6, .int s0_), (0, .ref (G.1 100)), (1, .int x1_), (2, .int x2_), (4, .int x4_), (5, .int x5_), (7, .int x7_), (8, .int x8_)]) hx hb dX12_newClause_136 rfl hl (by decide) rfl (fun ls hl => ?_)
            obtain ⟨x95, ex95⟩ : ∃ y : Int32, y = x7_ + 1 := ⟨_, rfl⟩
            have hf := g_lt hf x95 ex95
            refine lv_iinc (v := x95) (lv' := [(7, .int x95), (3, .int x94), (6, .int s0_), (0, .ref (G.1 100)), (1, .int x1_), (2, .int x2_), (4, .int x4_), (5, .int x5_), (8, .int x8_)]) hx hb dX12_newClause_137 hl (k := 7) rfl (by rw [kI_1, ex95]) (by decide) rfl (fun ls hl => ?_)
            refine lv_goto (pc := 140) (tgt := 40) hx hb dX12_newClause_140 (by decide) ?_
            exact ih.2.1 x1_ x2_ x94 x4_ x5_ s0_ x95 u _ _ _ hf K (lv_sub hl [3, 4, 5, 1, 6, 7, 2, 0] rfl)
set_option maxRecDepth 100000 in
set_option maxHeartbeats 4000000 in
theorem pX12_newClause {l : Launch} (G : Gt) {a0 : Int32} {u u' : St} (hf : fX12_newClause a0 u = some u') : Ctr 100 77 l yX12_newClause cX12_newClause 11 none rmX12_newClause [.ref (G.1 100), .int a0] G u none u' := by
  refine Ctr.mk (by decide) (Nat.le_of_ble_eq_true rfl) (fun p e s m below meth c A ls B K hl => ?_)
  have F := B.1
  have hx := F.1
  have hb := F.2.1
  have hl : lv_has ls 11 [(0, .ref (G.1 100)), (1, .int a0)] := hl
  unfold fX12_newClause at hf
  refine lv_iconst (v := 0) hx hb dX12_newClause_0 kI_0 ?_
  refine lv_topi (fun x96 ex96 => ?_)
  have hf := g_lt hf x96 ex96
  refine lv_istore_n (lv' := [(2, .int x96), (0, .ref (G.1 100)), (1, .int a0)]) hx hb dX12_newClause_1 rfl hl (by decide) rfl (fun ls hl => ?_)
  refine lv_iconst (v := 0) hx hb dX12_newClause_2 kI_0 ?_
  refine lv_topi (fun x97 ex97 => ?_)
  have hf := g_lt hf x97 ex97
  refine lv_istore_n (lv' := [(3, .int x97), (2, .int x96), (0, .ref (G.1 100)), (1, .int a0)]) hx hb dX12_newClause_3 rfl hl (by decide) rfl (fun ls hl => ?_)
  refine lv_iconst (v := 0) hx hb dX12_newClause_4 kI_0 ?_
  refine lv_topi (fun x98 ex98 => ?_)
  have hf := g_lt hf x98 ex98
  refine lv_istore (lv' := [(4, .int x98), (3, .int x97), (2, .int x96), (0, .ref (G.1 100)), (1, .int a0)]) hx hb dX12_newClause_5 hl (by decide) rfl (fun ls hl => ?_)
  exact (pX12_newClause_L3  B FU).1 a0 x96 x97 x98 u _ _ _ hf K (lv_sub hl [3, 4, 2, 1, 0] rfl)
abbrev rmX12_become : Room := { frames := 4, cells := 0, slots := 0, locals := 101 }
set_option maxRecDepth 100000 in
set_option maxHeartbeats 4000000 in
theorem pX12_become_L0 {p : Program} {l : Launch} {e : Env} {s : State} {m : MethodId} {below : List Frame} {meth : Method} {c : Code} {A : Nat → Prop} {G : Gt} {a0 : Int32} {u' : St} (B : Bd p s m [.ref (G.1 100), .int a0] meth c yX12_become cX12_become 4 none) (n : Nat) : (∀ (x2_ : Int32) (x3_ : Int32) (u : St) (H : Heap) (locs : List Loc) (ls : Array Slot), fX12_become_L0  n 0 x2_ x3_ u = some u' → Ok 100 77 G A s u H locs → lv_has ls 4 [(0, .ref (G.1 100)), (2, .int x2_), (3, .int x3_)] → W p l e rmX12_become s m ([.ref (G.1 100), .int a0] : List Value).toArray below meth c H locs 0 0 (MQ below (Qg 100 77 G A none u') ([.ref (G.1 100), .int a0] : List Value).toArray s 0 0 A) (F0 m 201 ls [])) := by
  have F := B.1
  have hx := F.1
  have hb := F.2.1
  induction n with
  | zero => exact fun _ _ _ _ _ _ hf => g_no hf
  | succ n ih =>
    refine ?_
    · intro x2_ x3_ u H locs ls hf K hl
      have hf : fX12_become_L0_0  (fX12_become_L0  n) x2_ x3_ u = some u' := hf
      unfold fX12_become_L0_0 at hf
      refine lv_iload_n hx hb dX12_become_201 rfl (lv_at hl 2 rfl) ?_
      refine lv_aload_n hx hb dX12_become_202 rfl (lv_at hl 0 rfl) ?_
      refine ok_ref F K fX12_121 dX12_become_203 ?_
      refine lv_iload_n hx hb dX12_become_206 rfl (lv_at hl 1 rfl) ?_
      obtain ⟨v1, hv1, hf⟩ := g_bd hf
      refine ok_iald F K t137 hv1 dX12_become_207 ?_
      refine lv_icmp_ge (pc := 208) (tgt := 236) hx hb dX12_become_208 (by decide) (fun c2 => ?_) (fun c2 => ?_)
      · have hf := g_pos hf c2
        exact ok_retv B K hf dX12_become_236
      · have hf := g_neg hf c2
        refine lv_aload_n hx hb dX12_become_211 rfl (lv_at hl 0 rfl) ?_
        refine ok_int F K fX12_370 dX12_become_212 ?_
        refine lv_if_ne (pc := 215) (tgt := 236) hx hb dX12_become_215 (by decide) (fun c3 => ?_) (fun c3 => ?_)
        · have hf := g_neg hf c3
          exact ok_retv B K hf dX12_become_236
        · have hf := g_pos hf c3
          refine lv_aload_n hx hb dX12_become_218 rfl (lv_at hl 0 rfl) ?_
          refine lv_aload_n hx hb dX12_become_219 rfl (lv_at hl 0 rfl) ?_
          refine ok_ref F K fX12_118 dX12_become_220 ?_
          refine lv_iload_n hx hb dX12_become_223 rfl (lv_at hl 1 rfl) ?_
          obtain ⟨v4, hv4, hf⟩ := g_bd hf
          refine ok_iald F K t136 hv4 dX12_become_224 ?_
          refine lv_iload_n hx hb dX12_become_225 rfl (lv_at hl 2 rfl) ?_
          refine lv_iadd hx hb dX12_become_226 ?_
          obtain ⟨u5, hu5, hf⟩ := g_bd hf
          refine ok_callv (rest := []) F K (pX12_newClause G hu5) mX12_newClause oc100 lX12_472 rfl hl.1 rfl ⟨⟨rfl, rfl⟩, Nat.le_of_ble_eq_true rfl, Nat.le_of_ble_eq_true rfl⟩ (Nat.le_of_ble_eq_true rfl) dX12_become_227 (fun H locs K => ?_)
          obtain ⟨x6, ex6⟩ : ∃ y : Int32, y = x3_ + 1 := ⟨_, rfl⟩
          have hf := g_lt hf x6 ex6
          refine lv_iinc (v := x6) (lv' := [(3, .int x6), (0, .ref (G.1 100)), (2, .int x2_)]) hx hb dX12_become_230 hl (k := 2) rfl (by rw [kI_1, ex6]) (by decide) rfl (fun ls hl => ?_)
          refine lv_goto (pc := 233) (tgt := 201) hx hb dX12_become_233 (by decide) ?_
          exact ih x2_ x6 u5 _ _ _ hf K (lv_sub hl [1, 2, 0] rfl)
set_option maxRecDepth 100000 in
set_option maxHeartbeats 4000000 in
theorem pX12_become_L1 {p : Program} {l : Launch} {e : Env} {s : State} {m : MethodId} {below : List Frame} {meth : Method} {c : Code} {A : Nat → Prop} {G : Gt} {a0 : Int32} {u' : St} (B : Bd p s m [.ref (G.1 100), .int a0] meth c yX12_become cX12_become 4 none) (n : Nat) : (∀ (x1_ : Int32) (x2_ : Int32) (u : St) (H : Heap) (locs : List Loc) (ls : Array Slot), fX12_become_L1  n 0 x1_ x2_ u = some u' → Ok 100 77 G A s u H locs → lv_has ls 4 [(0, .ref (G.1 100)), (1, .int x1_), (2, .int x2_)] → W p l e rmX12_become s m ([.ref (G.1 100), .int a0] : List Value).toArray below meth c H locs 0 0 (MQ below (Qg 100 77 G A none u') ([.ref (G.1 100), .int a0] : List Value).toArray s 0 0 A) (F0 m 89 ls [])) := by
  have F := B.1
  have hx := F.1
  have hb := F.2.1
  induction n with
  | zero => exact fun _ _ _ _ _ _ hf => g_no hf
  | succ n ih =>
    refine ?_
    · intro x1_ x2_ u H locs ls hf K hl
      have hf : fX12_become_L1_0  (fX12_become_L1  n) x1_ x2_ u = some u' := hf
      unfold fX12_become_L1_0 at hf
      refine lv_iload_n hx hb dX12_become_89 rfl (lv_at hl 2 rfl) ?_
      refine lv_aload_n hx hb dX12_become_90 rfl (lv_at hl 0 rfl) ?_
      refine ok_int F K fX12_457 dX12_become_91 ?_
      refine lv_icmp_ge (pc := 94) (tgt := 150) hx hb dX12_become_94 (by decide) (fun c7 => ?_) (fun c7 => ?_)
      · have hf := g_pos hf c7
        refine lv_aload_n hx hb dX12_become_150 rfl (lv_at hl 0 rfl) ?_
        refine lv_iload_n hx hb dX12_become_151 rfl (lv_at hl 1 rfl) ?_
        obtain ⟨r9, u8, hu8, hf⟩ := g_b2 hf
        refine ok_calli (rest := []) F K (pX12_inside G hu8) mX12_inside oc100 lX12_466 rfl hl.1 rfl ⟨⟨rfl, rfl⟩, Nat.le_of_ble_eq_true rfl, Nat.le_of_ble_eq_true rfl⟩ (Nat.le_of_ble_eq_true rfl) dX12_become_152 (fun H locs K => ?_)
        refine lv_istore_n (lv' := [(2, .int r9), (0, .ref (G.1 100)), (1, .int x1_)]) hx hb dX12_become_155 rfl hl (by decide) rfl (fun ls hl => ?_)
        refine lv_aload_n hx hb dX12_become_156 rfl (lv_at hl 1 rfl) ?_
        refine lv_iconst (v := 0) hx hb dX12_become_157 kI_0 ?_
        refine ok_putI F K qX12_423 dX12_become_158 (fun u10 H locs eu10 K => ?_)
        have hf := g_lt hf u10 eu10
        refine lv_aload_n hx hb dX12_become_161 rfl (lv_at hl 1 rfl) ?_
        refine lv_iconst (v := 0) hx hb dX12_become_162 kI_0 ?_
        refine ok_putI F K qX12_426 dX12_become_163 (fun u11 H locs eu11 K => ?_)
        have hf := g_lt hf u11 eu11
        refine lv_aload_n hx hb dX12_become_166 rfl (lv_at hl 1 rfl) ?_
        obtain ⟨u12, hu12, hf⟩ := g_bd hf
        refine ok_callv (rest := []) F K (pX12_distribute G hu12) mX12_distribute oc100 lX12_469 rfl hl.1 rfl ⟨⟨rfl, rfl⟩, Nat.le_of_ble_eq_true rfl, Nat.le_of_ble_eq_true rfl⟩ (Nat.le_of_ble_eq_true rfl) dX12_become_167 (fun H locs K => ?_)
        refine lv_aload_n hx hb dX12_become_170 rfl (lv_at hl 1 rfl) ?_
        refine ok_int F K fX12_370 dX12_become_171 ?_
        refine lv_if_ne (pc := 174) (tgt := 193) hx hb dX12_become_174 (by decide) (fun c13 => ?_) (fun c13 => ?_)
        · have hf := g_neg hf c13
          refine lv_aload_n hx hb dX12_become_193 rfl (lv_at hl 1 rfl) ?_
          refine lv_iconst (v := 1) hx hb dX12_become_194 kI_1 ?_
          refine ok_putZ F K qX12_370 (Or.inr rfl) dX12_become_195 (fun u14 H locs eu14 K => ?_)
          have hf := g_lt hf u14 eu14
          exact ok_retv B K hf dX12_become_198
        · have hf := g_pos hf c13
          refine lv_aload_n hx hb dX12_become_177 rfl (lv_at hl 1 rfl) ?_
          refine ok_int F K fX12_445 dX12_become_178 ?_
          refine lv_aload_n hx hb dX12_become_181 rfl (lv_at hl 1 rfl) ?_
          refine ok_ref F K fX12_121 dX12_become_182 ?_
          refine lv_iload_n hx hb dX12_become_185 rfl (lv_at hl 0 rfl) ?_
          obtain ⟨v15, hv15, hf⟩ := g_bd hf
          refine ok_iald F K t137 hv15 dX12_become_186 ?_
          refine lv_iadd hx hb dX12_become_187 ?_
          refine lv_bipush (v := 100) hx hb dX12_become_188 kB_100 ?_
          refine lv_icmp_le (pc := 190) (tgt := 199) hx hb dX12_become_190 (by decide) (fun c16 => ?_) (fun c16 => ?_)
          · have hf := g_pos hf c16
            refine lv_iconst (v := 0) hx hb dX12_become_199 kI_0 ?_
            refine lv_topi (fun x17 ex17 => ?_)
            have hf := g_lt hf x17 ex17
            refine lv_istore_n (lv' := [(3, .int x17), (2, .int r9), (0, .ref (G.1 100)), (1, .int x1_)]) hx hb dX12_become_200 rfl hl (by decide) rfl (fun ls hl => ?_)
            exact (pX12_become_L0  B FU) r9 x17 u12 _ _ _ hf K (lv_sub hl [2, 1, 0] rfl)
          · have hf := g_neg hf c16
            refine lv_aload_n hx hb dX12_become_193 rfl (lv_at hl 1 rfl) ?_
            refine lv_iconst (v := 1) hx hb dX12_become_194 kI_1 ?_
            refine ok_putZ F K qX12_370 (Or.inr rfl) dX12_become_195 (fun u18 H locs eu18 K => ?_)
            have hf := g_lt hf u18 eu18
            exact ok_retv B K hf dX12_become_198
      · have hf := g_neg hf c7
        refine lv_aload_n hx hb dX12_become_97 rfl (lv_at hl 0 rfl) ?_
        refine lv_aload_n hx hb dX12_become_98 rfl (lv_at hl 0 rfl) ?_
        refine ok_ref F K fX12_139 dX12_become_99 ?_
        refine lv_iload_n hx hb dX12_become_102 rfl (lv_at hl 2 rfl) ?_
        obtain ⟨v19, hv19, hf⟩ := g_bd hf
        refine ok_iald F K t143 hv19 dX12_become_103 ?_
        refine lv_aload_n hx hb dX12_become_104 rfl (lv_at hl 0 rfl) ?_
        refine ok_int F K fX12_379 dX12_become_105 ?_
        obtain ⟨u20, hu20, hf⟩ := g_bd hf
        refine ok_callv (rest := []) F K (pX12_bind G hu20) mX12_bind oc100 lX12_382 rfl hl.1 rfl ⟨⟨rfl, rfl⟩, Nat.le_of_ble_eq_true rfl, Nat.le_of_ble_eq_true rfl⟩ (Nat.le_of_ble_eq_true rfl) dX12_become_108 (fun H locs K => ?_)
        refine lv_aload_n hx hb dX12_become_111 rfl (lv_at hl 0 rfl) ?_
        refine ok_ref F K fX12_97 dX12_become_112 ?_
        refine lv_aload_n hx hb dX12_become_115 rfl (lv_at hl 0 rfl) ?_
        refine ok_int F K fX12_385 dX12_become_116 ?_
        refine lv_aload_n hx hb dX12_become_119 rfl (lv_at hl 0 rfl) ?_
        refine ok_int F K fX12_379 dX12_become_120 ?_
        obtain ⟨u21, hu21, hf⟩ := g_bd hf
        refine ok_iast F K t129 hu21 dX12_become_123 (fun H locs K => ?_)
        refine lv_aload_n hx hb dX12_become_124 rfl (lv_at hl 0 rfl) ?_
        refine lv_dup hx hb dX12_become_125 rfl ?_
        refine ok_int F K fX12_379 dX12_become_126 ?_
        refine lv_iconst (v := 1) hx hb dX12_become_129 kI_1 ?_
        refine lv_iadd hx hb dX12_become_130 ?_
        refine ok_putI F K qX12_379 dX12_become_131 (fun u22 H locs eu22 K => ?_)
        have hf := g_lt hf u22 eu22
        refine lv_aload_n hx hb dX12_become_134 rfl (lv_at hl 0 rfl) ?_
        refine lv_dup hx hb dX12_become_135 rfl ?_
        refine ok_int F K fX12_385 dX12_become_136 ?_
        refine lv_iconst (v := 1) hx hb dX12_become_139 kI_1 ?_
        refine lv_iadd hx hb dX12_become_140 ?_
        refine ok_putI F K qX12_385 dX12_become_141 (fun u23 H locs eu23 K => ?_)
        have hf := g_lt hf u23 eu23
        obtain ⟨x24, ex24⟩ : ∃ y : Int32, y = x2_ + 1 := ⟨_, rfl⟩
        have hf := g_lt hf x24 ex24
        refine lv_iinc (v := x24) (lv' := [(2, .int x24), (0, .ref (G.1 100)), (1, .int x1_)]) hx hb dX12_become_144 hl (k := 2) rfl (by rw [kI_1, ex24]) (by decide) rfl (fun ls hl => ?_)
        refine lv_goto (pc := 147) (tgt := 89) hx hb dX12_become_147 (by decide) ?_
        exact ih x1_ x24 u23 _ _ _ hf K (lv_sub hl [1, 2, 0] rfl)
set_option maxRecDepth 100000 in
set_option maxHeartbeats 4000000 in
theorem pX12_become_j25 {p : Program} {l : Launch} {e : Env} {s : State} {m : MethodId} {below : List Frame} {meth : Method} {c : Code} {A : Nat → Prop} {G : Gt} {a0 : Int32} {u' : St} (B : Bd p s m [.ref (G.1 100), .int a0] meth c yX12_become cX12_become 4 none) (x1_ : Int32) (s0_ : Int32) (u : St) (H : Heap) (locs : List Loc) (ls : Array Slot) (hf : fX12_become_j25 x1_ s0_ u = some u') (K : Ok 100 77 G A s u H locs) (hl : lv_has ls 4 [(0, .ref (G.1 100)), (1, .int x1_)]) : W p l e rmX12_become s m ([.ref (G.1 100), .int a0] : List Value).toArray below meth c H locs 0 0 (MQ below (Qg 100 77 G A none u') ([.ref (G.1 100), .int a0] : List Value).toArray s 0 0 A) (F0 m 25 ls [.int s0_, .ref (G.1 100)]) := by
  have F := B.1
  have hx := F.1
  have hb := F.2.1
  unfold fX12_become_j25 at hf
  obtain ⟨z26, hz26, hf⟩ := g_bd hf
  refine ok_putZ F K qX12_370 (g_zb hz26).2 dX12_become_25 (fun u25 H locs eu25 K => ?_)
  have hf := g_lt hf u25 eu25
  refine lv_aload_n hx hb dX12_become_28 rfl (lv_at hl 0 rfl) ?_
  refine ok_int F K fX12_370 dX12_become_29 ?_
  refine lv_if_eq (pc := 32) (tgt := 36) hx hb dX12_become_32 (by decide) (fun c27 => ?_) (fun c27 => ?_)
  · have hf := g_pos hf c27
    refine lv_aload_n hx hb dX12_become_36 rfl (lv_at hl 0 rfl) ?_
    refine lv_aload_n hx hb dX12_become_37 rfl (lv_at hl 0 rfl) ?_
    refine ok_int F K fX12_388 dX12_become_38 ?_
    refine ok_putI F K qX12_391 dX12_become_41 (fun u28 H locs eu28 K => ?_)
    have hf := g_lt hf u28 eu28
    refine lv_aload_n hx hb dX12_become_44 rfl (lv_at hl 0 rfl) ?_
    refine lv_iconst (v := 0) hx hb dX12_become_45 kI_0 ?_
    refine ok_putI F K qX12_373 dX12_become_46 (fun u29 H locs eu29 K => ?_)
    have hf := g_lt hf u29 eu29
    refine lv_aload_n hx hb dX12_become_49 rfl (lv_at hl 0 rfl) ?_
    refine lv_iconst (v := 0) hx hb dX12_become_50 kI_0 ?_
    refine ok_putI F K qX12_457 dX12_become_51 (fun u30 H locs eu30 K => ?_)
    have hf := g_lt hf u30 eu30
    refine lv_aload_n hx hb dX12_become_54 rfl (lv_at hl 0 rfl) ?_
    refine lv_iload_n hx hb dX12_become_55 rfl (lv_at hl 1 rfl) ?_
    obtain ⟨u31, hu31, hf⟩ := g_bd hf
    refine ok_callv (rest := []) F K (pX12_free G hu31) mX12_free oc100 lX12_463 rfl hl.1 rfl ⟨⟨rfl, rfl⟩, Nat.le_of_ble_eq_true rfl, Nat.le_of_ble_eq_true rfl⟩ (Nat.le_of_ble_eq_true rfl) dX12_become_56 (fun H locs K => ?_)
    refine lv_aload_n hx hb dX12_become_59 rfl (lv_at hl 0 rfl) ?_
    refine lv_aload_n hx hb dX12_become_60 rfl (lv_at hl 0 rfl) ?_
    refine ok_int F K fX12_457 dX12_become_61 ?_
    refine ok_putI F K qX12_376 dX12_become_64 (fun u32 H locs eu32 K => ?_)
    have hf := g_lt hf u32 eu32
    refine lv_aload_n hx hb dX12_become_67 rfl (lv_at hl 0 rfl) ?_
    refine lv_iconst (v := 0) hx hb dX12_become_68 kI_0 ?_
    refine ok_putI F K qX12_379 dX12_become_69 (fun u33 H locs eu33 K => ?_)
    have hf := g_lt hf u33 eu33
    refine lv_aload_n hx hb dX12_become_72 rfl (lv_at hl 0 rfl) ?_
    refine lv_iconst (v := 0) hx hb dX12_become_73 kI_0 ?_
    refine ok_putI F K qX12_385 dX12_become_74 (fun u34 H locs eu34 K => ?_)
    have hf := g_lt hf u34 eu34
    refine lv_aload_n hx hb dX12_become_77 rfl (lv_at hl 0 rfl) ?_
    refine lv_iconst (v := 0) hx hb dX12_become_78 kI_0 ?_
    refine ok_putI F K qX12_367 dX12_become_79 (fun u35 H locs eu35 K => ?_)
    have hf := g_lt hf u35 eu35
    refine lv_aload_n hx hb dX12_become_82 rfl (lv_at hl 0 rfl) ?_
    refine lv_iconst (v := 0) hx hb dX12_become_83 kI_0 ?_
    refine ok_putI F K qX12_417 dX12_become_84 (fun u36 H locs eu36 K => ?_)
    have hf := g_lt hf u36 eu36
    refine lv_iconst (v := 0) hx hb dX12_become_87 kI_0 ?_
    refine lv_topi (fun x37 ex37 => ?_)
    have hf := g_lt hf x37 ex37
    refine lv_istore_n (lv' := [(2, .int x37), (0, .ref (G.1 100)), (1, .int x1_)]) hx hb dX12_become_88 rfl hl (by decide) rfl (fun ls hl => ?_)
    exact (pX12_become_L1  B FU) x1_ x37 u36 _ _ _ hf K (lv_sub hl [1, 2, 0] rfl)
  · have hf := g_neg hf c27
    exact ok_retv B K hf dX12_become_35
set_option maxRecDepth 100000 in
set_option maxHeartbeats 4000000 in
theorem pX12_become {l : Launch} (G : Gt) {a0 : Int32} {u u' : St} (hf : fX12_become a0 u = some u') : Ctr 100 77 l yX12_become cX12_become 4 none rmX12_become [.ref (G.1 100), .int a0] G u none u' := by
  refine Ctr.mk (by decide) (Nat.le_of_ble_eq_true rfl) (fun p e s m below meth c A ls B K hl => ?_)
  have F := B.1
  have hx := F.1
  have hb := F.2.1
  have hl : lv_has ls 4 [(0, .ref (G.1 100)), (1, .int a0)] := hl
  unfold fX12_become at hf
  refine lv_aload_n hx hb dX12_become_0 rfl (lv_at hl 0 rfl) ?_
  refine lv_aload_n hx hb dX12_become_1 rfl (lv_at hl 0 rfl) ?_
  refine ok_int F K fX12_344 dX12_become_2 ?_
  refine lv_bipush (v := 60) hx hb dX12_become_5 kB_60 ?_
  refine lv_icmp_gt (pc := 7) (tgt := 20) hx hb dX12_become_7 (by decide) (fun c38 => ?_) (fun c38 => ?_)
  · have hf := g_pos hf c38
    refine lv_iconst (v := 1) hx hb dX12_become_20 kI_1 ?_
    refine lv_goto (pc := 21) (tgt := 25) hx hb dX12_become_21 (by decide) ?_
    exact pX12_become_j25  B a0 1 u _ _ _ hf K (lv_sub hl [0, 1] rfl)
  · have hf := g_neg hf c38
    refine lv_aload_n hx hb dX12_become_10 rfl (lv_at hl 0 rfl) ?_
    refine ok_int F K fX12_338 dX12_become_11 ?_
    refine lv_sipush (v := 250) hx hb dX12_become_14 kS_250 ?_
    refine lv_icmp_le (pc := 17) (tgt := 24) hx hb dX12_become_17 (by decide) (fun c39 => ?_) (fun c39 => ?_)
    · have hf := g_pos hf c39
      refine lv_iconst (v := 0) hx hb dX12_become_24 kI_0 ?_
      exact pX12_become_j25  B a0 0 u _ _ _ hf K (lv_sub hl [0, 1] rfl)
    · have hf := g_neg hf c39
      refine lv_iconst (v := 1) hx hb dX12_become_20 kI_1 ?_
      refine lv_goto (pc := 21) (tgt := 25) hx hb dX12_become_21 (by decide) ?_
      exact pX12_become_j25  B a0 1 u _ _ _ hf K (lv_sub hl [0, 1] rfl)
abbrev rmX12_sign : Room := { frames := 0, cells := 0, slots := 0, locals := 0 }
set_option maxRecDepth 100000 in
set_option maxHeartbeats 4000000 in
theorem pX12_sign {l : Launch} (G : Gt) {a0 : Int32} {r : Int32} {u u' : St} (hf : fX12_sign a0 u = some (r, u')) : Ctr 100 77 l yX12_sign cX12_sign 2 (some .int) rmX12_sign [.ref (G.1 100), .int a0] G u (some (.int r)) u' := by
  refine Ctr.mk (by decide) (Nat.le_of_ble_eq_true rfl) (fun p e s m below meth c A ls B K hl => ?_)
  have F := B.1
  have hx := F.1
  have hb := F.2.1
  have hl : lv_has ls 2 [(0, .ref (G.1 100)), (1, .int a0)] := hl
  unfold fX12_sign at hf
  refine lv_iload_n hx hb dX12_sign_0 rfl (lv_at hl 1 rfl) ?_
  refine lv_aload_n hx hb dX12_sign_1 rfl (lv_at hl 0 rfl) ?_
  refine ok_int F K fX12_249 dX12_sign_2 ?_
  refine lv_icmp_ge (pc := 5) (tgt := 21) hx hb dX12_sign_5 (by decide) (fun c1 => ?_) (fun c1 => ?_)
  · have hf := g_pos hf c1
    refine lv_iconst (v := (-1)) hx hb dX12_sign_21 kI_m1 ?_
    exact ok_reti B K hf dX12_sign_22
  · have hf := g_neg hf c1
    refine lv_aload_n hx hb dX12_sign_8 rfl (lv_at hl 0 rfl) ?_
    refine ok_ref F K fX12_7 dX12_sign_9 ?_
    refine lv_iload_n hx hb dX12_sign_12 rfl (lv_at hl 1 rfl) ?_
    obtain ⟨v2, hv2, hf⟩ := g_bd hf
    refine ok_bald F K t101 hv2 dX12_sign_13 ?_
    refine lv_sipush (v := 255) hx hb dX12_sign_14 kS_255 ?_
    refine lv_iand hx hb dX12_sign_17 ?_
    refine lv_goto (pc := 18) (tgt := 22) hx hb dX12_sign_18 (by decide) ?_
    exact ok_reti B K hf dX12_sign_22
abbrev rmX12_in : Room := { frames := 0, cells := 0, slots := 0, locals := 0 }
set_option maxRecDepth 100000 in
set_option maxHeartbeats 4000000 in
theorem pX12_in {l : Launch} (G : Gt) {a0 : Int32} {a1 : Int32} {a2 : Int32} {r : Int32} {u u' : St} (hf : fX12_in a0 a1 a2 u = some (r, u')) : Ctr 100 77 l yX12_in cX12_in 3 (some .boolean) rmX12_in [.int a0, .int a1, .int a2] G u (some (.int r)) u' := by
  refine Ctr.mk (by decide) (Nat.le_of_ble_eq_true rfl) (fun p e s m below meth c A ls B K hl => ?_)
  have F := B.1
  have hx := F.1
  have hb := F.2.1
  have hl : lv_has ls 3 [(0, .int a0), (1, .int a1), (2, .int a2)] := hl
  unfold fX12_in at hf
  refine lv_iload_n hx hb dX12_in_0 rfl (lv_at hl 0 rfl) ?_
  refine lv_iload_n hx hb dX12_in_1 rfl (lv_at hl 1 rfl) ?_
  refine lv_icmp_lt (pc := 2) (tgt := 14) hx hb dX12_in_2 (by decide) (fun c1 => ?_) (fun c1 => ?_)
  · have hf := g_pos hf c1
    refine lv_iconst (v := 0) hx hb dX12_in_14 kI_0 ?_
    exact ok_retz B K hf (Or.inl rfl) dX12_in_15
  · have hf := g_neg hf c1
    refine lv_iload_n hx hb dX12_in_5 rfl (lv_at hl 0 rfl) ?_
    refine lv_iload_n hx hb dX12_in_6 rfl (lv_at hl 2 rfl) ?_
    refine lv_icmp_gt (pc := 7) (tgt := 14) hx hb dX12_in_7 (by decide) (fun c2 => ?_) (fun c2 => ?_)
    · have hf := g_pos hf c2
      refine lv_iconst (v := 0) hx hb dX12_in_14 kI_0 ?_
      exact ok_retz B K hf (Or.inl rfl) dX12_in_15
    · have hf := g_neg hf c2
      refine lv_iconst (v := 1) hx hb dX12_in_10 kI_1 ?_
      refine lv_goto (pc := 11) (tgt := 15) hx hb dX12_in_11 (by decide) ?_
      exact ok_retz B K hf (Or.inr rfl) dX12_in_15
abbrev rmX12_letter : Room := { frames := 1, cells := 0, slots := 0, locals := 22 }
set_option maxRecDepth 100000 in
set_option maxHeartbeats 4000000 in
theorem pX12_letter {l : Launch} (G : Gt) {a0 : Int32} {r : Int32} {u u' : St} (hf : fX12_letter a0 u = some (r, u')) : Ctr 100 77 l yX12_letter cX12_letter 1 (some .int) rmX12_letter [.int a0] G u (some (.int r)) u' := by
  refine Ctr.mk (by decide) (Nat.le_of_ble_eq_true rfl) (fun p e s m below meth c A ls B K hl => ?_)
  have F := B.1
  have hx := F.1
  have hb := F.2.1
  have hl : lv_has ls 1 [(0, .int a0)] := hl
  unfold fX12_letter at hf
  refine lv_iload_n hx hb dX12_letter_0 rfl (lv_at hl 0 rfl) ?_
  refine lv_bipush (v := 97) hx hb dX12_letter_1 kB_97 ?_
  refine lv_bipush (v := 122) hx hb dX12_letter_3 kB_122 ?_
  obtain ⟨r2, u1, hu1, hf⟩ := g_b2 hf
  refine ok_callsi (rest := []) F K (pX12_in G hu1) mX12_in lX12_245 rfl hl.1 rfl ⟨⟨rfl, rfl⟩, Nat.le_of_ble_eq_true rfl, Nat.le_of_ble_eq_true rfl⟩ (Nat.le_of_ble_eq_true rfl) dX12_letter_5 (fun H locs K => ?_)
  refine lv_if_eq (pc := 8) (tgt := 20) hx hb dX12_letter_8 (by decide) (fun c3 => ?_) (fun c3 => ?_)
  · have hf := g_pos hf c3
    refine lv_iload_n hx hb dX12_letter_20 rfl (lv_at hl 0 rfl) ?_
    refine lv_bipush (v := 65) hx hb dX12_letter_21 kB_65 ?_
    refine lv_bipush (v := 90) hx hb dX12_letter_23 kB_90 ?_
    obtain ⟨r5, u4, hu4, hf⟩ := g_b2 hf
    refine ok_callsi (rest := []) F K (pX12_in G hu4) mX12_in lX12_245 rfl hl.1 rfl ⟨⟨rfl, rfl⟩, Nat.le_of_ble_eq_true rfl, Nat.le_of_ble_eq_true rfl⟩ (Nat.le_of_ble_eq_true rfl) dX12_letter_25 (fun H locs K => ?_)
    refine lv_if_eq (pc := 28) (tgt := 41) hx hb dX12_letter_28 (by decide) (fun c6 => ?_) (fun c6 => ?_)
    · have hf := g_pos hf c6
      refine lv_iload_n hx hb dX12_letter_41 rfl (lv_at hl 0 rfl) ?_
      refine lv_bipush (v := 48) hx hb dX12_letter_42 kB_48 ?_
      refine lv_bipush (v := 57) hx hb dX12_letter_44 kB_57 ?_
      obtain ⟨r8, u7, hu7, hf⟩ := g_b2 hf
      refine ok_callsi (rest := []) F K (pX12_in G hu7) mX12_in lX12_245 rfl hl.1 rfl ⟨⟨rfl, rfl⟩, Nat.le_of_ble_eq_true rfl, Nat.le_of_ble_eq_true rfl⟩ (Nat.le_of_ble_eq_true rfl) dX12_letter_46 (fun H locs K => ?_)
      refine lv_if_eq (pc := 49) (tgt := 62) hx hb dX12_letter_49 (by decide) (fun c9 => ?_) (fun c9 => ?_)
      · have hf := g_pos hf c9
        refine lv_iload_n hx hb dX12_letter_62 rfl (lv_at hl 0 rfl) ?_
        refine lv_bipush (v := 95) hx hb dX12_letter_63 kB_95 ?_
        refine lv_icmp_ne (pc := 65) (tgt := 73) hx hb dX12_letter_65 (by decide) (fun c10 => ?_) (fun c10 => ?_)
        · have hf := g_neg hf c10
          refine lv_iconst (v := 0) hx hb dX12_letter_73 kI_0 ?_
          exact ok_reti B K hf dX12_letter_74
        · have hf := g_pos hf c10
          refine lv_bipush (v := 63) hx hb dX12_letter_68 kB_63 ?_
          refine lv_goto (pc := 70) (tgt := 74) hx hb dX12_letter_70 (by decide) ?_
          exact ok_reti B K hf dX12_letter_74
      · have hf := g_neg hf c9
        refine lv_iload_n hx hb dX12_letter_52 rfl (lv_at hl 0 rfl) ?_
        refine lv_bipush (v := 48) hx hb dX12_letter_53 kB_48 ?_
        refine lv_isub hx hb dX12_letter_55 ?_
        refine lv_bipush (v := 53) hx hb dX12_letter_56 kB_53 ?_
        refine lv_iadd hx hb dX12_letter_58 ?_
        refine lv_goto (pc := 59) (tgt := 74) hx hb dX12_letter_59 (by decide) ?_
        exact ok_reti B K hf dX12_letter_74
    · have hf := g_neg hf c6
      refine lv_iload_n hx hb dX12_letter_31 rfl (lv_at hl 0 rfl) ?_
      refine lv_bipush (v := 65) hx hb dX12_letter_32 kB_65 ?_
      refine lv_isub hx hb dX12_letter_34 ?_
      refine lv_bipush (v := 27) hx hb dX12_letter_35 kB_27 ?_
      refine lv_iadd hx hb dX12_letter_37 ?_
      refine lv_goto (pc := 38) (tgt := 74) hx hb dX12_letter_38 (by decide) ?_
      exact ok_reti B K hf dX12_letter_74
  · have hf := g_neg hf c3
    refine lv_iload_n hx hb dX12_letter_11 rfl (lv_at hl 0 rfl) ?_
    refine lv_bipush (v := 97) hx hb dX12_letter_12 kB_97 ?_
    refine lv_isub hx hb dX12_letter_14 ?_
    refine lv_iconst (v := 1) hx hb dX12_letter_15 kI_1 ?_
    refine lv_iadd hx hb dX12_letter_16 ?_
    refine lv_goto (pc := 17) (tgt := 74) hx hb dX12_letter_17 (by decide) ?_
    exact ok_reti B K hf dX12_letter_74
abbrev rmX12_fail : Room := { frames := 0, cells := 0, slots := 0, locals := 0 }
set_option maxRecDepth 100000 in
set_option maxHeartbeats 4000000 in
theorem pX12_fail {l : Launch} (G : Gt) {a0 : Int32} {a1 : Int32} {u u' : St} (hf : fX12_fail a0 a1 u = some u') : Ctr 100 77 l yX12_fail cX12_fail 3 none rmX12_fail [.ref (G.1 100), .int a0, .int a1] G u none u' := by
  refine Ctr.mk (by decide) (Nat.le_of_ble_eq_true rfl) (fun p e s m below meth c A ls B K hl => ?_)
  have F := B.1
  have hx := F.1
  have hb := F.2.1
  have hl : lv_has ls 3 [(0, .ref (G.1 100)), (1, .int a0), (2, .int a1)] := hl
  unfold fX12_fail at hf
  refine lv_aload_n hx hb dX12_fail_0 rfl (lv_at hl 0 rfl) ?_
  refine ok_int F K fX12_252 dX12_fail_1 ?_
  refine lv_if_ne (pc := 4) (tgt := 17) hx hb dX12_fail_4 (by decide) (fun c1 => ?_) (fun c1 => ?_)
  · have hf := g_neg hf c1
    exact ok_retv B K hf dX12_fail_17
  · have hf := g_pos hf c1
    refine lv_aload_n hx hb dX12_fail_7 rfl (lv_at hl 0 rfl) ?_
    refine lv_iload_n hx hb dX12_fail_8 rfl (lv_at hl 1 rfl) ?_
    refine ok_putI F K qX12_252 dX12_fail_9 (fun u2 H locs eu2 K => ?_)
    have hf := g_lt hf u2 eu2
    refine lv_aload_n hx hb dX12_fail_12 rfl (lv_at hl 0 rfl) ?_
    refine lv_iload_n hx hb dX12_fail_13 rfl (lv_at hl 2 rfl) ?_
    refine ok_putI F K qX12_255 dX12_fail_14 (fun u3 H locs eu3 K => ?_)
    have hf := g_lt hf u3 eu3
    exact ok_retv B K hf dX12_fail_17
abbrev rmX12_look : Room := { frames := 2, cells := 0, slots := 0, locals := 42 }
set_option maxRecDepth 100000 in
set_option maxHeartbeats 4000000 in
theorem pX12_look_j233 {p : Program} {l : Launch} {e : Env} {s : State} {m : MethodId} {below : List Frame} {meth : Method} {c : Code} {A : Nat → Prop} {G : Gt} {r : Int32} {u' : St} (B : Bd p s m [.ref (G.1 100)] meth c yX12_look cX12_look 4 (some .int)) (x2_ : Int32) (s0_ : Int32) (u : St) (H : Heap) (locs : List Loc) (ls : Array Slot) (hf : fX12_look_j233 x2_ s0_ u = some (r, u')) (K : Ok 100 77 G A s u H locs) (hl : lv_has ls 4 [(0, .ref (G.1 100)), (2, .int x2_)]) : W p l e rmX12_look s m ([.ref (G.1 100)] : List Value).toArray below meth c H locs 0 0 (MQ below (Qg 100 77 G A (some (.int r)) u') ([.ref (G.1 100)] : List Value).toArray s 0 0 A) (F0 m 233 ls [.int s0_, .ref (G.1 100)]) := by
  have F := B.1
  have hx := F.1
  have hb := F.2.1
  unfold fX12_look_j233 at hf
  refine ok_putI F K qX12_262 dX12_look_233 (fun u1 H locs eu1 K => ?_)
  have hf := g_lt hf u1 eu1
  refine lv_iload_n hx hb dX12_look_236 rfl (lv_at hl 1 rfl) ?_
  refine lv_bipush (v := 8) hx hb dX12_look_237 kB_8 ?_
  refine lv_icmp_le (pc := 239) (tgt := 253) hx hb dX12_look_239 (by decide) (fun c2 => ?_) (fun c2 => ?_)
  · have hf := g_pos hf c2
    refine lv_aload_n hx hb dX12_look_253 rfl (lv_at hl 0 rfl) ?_
    refine ok_int F K fX12_262 dX12_look_254 ?_
    exact ok_reti B K hf dX12_look_257
  · have hf := g_neg hf c2
    refine lv_aload_n hx hb dX12_look_242 rfl (lv_at hl 0 rfl) ?_
    refine lv_iconst (v := 1) hx hb dX12_look_243 kI_1 ?_
    refine lv_aload_n hx hb dX12_look_244 rfl (lv_at hl 0 rfl) ?_
    refine ok_int F K fX12_272 dX12_look_245 ?_
    obtain ⟨u3, hu3, hf⟩ := g_bd hf
    refine ok_callv (rest := []) F K (pX12_fail G hu3) mX12_fail oc100 lX12_284 rfl hl.1 rfl ⟨⟨rfl, rfl⟩, Nat.le_of_ble_eq_true rfl, Nat.le_of_ble_eq_true rfl⟩ (Nat.le_of_ble_eq_true rfl) dX12_look_248 (fun H locs K => ?_)
    refine lv_iconst (v := (-1)) hx hb dX12_look_251 kI_m1 ?_
    exact ok_reti B K hf dX12_look_252
set_option maxRecDepth 100000 in
set_option maxHeartbeats 4000000 in
theorem pX12_look_L0 {p : Program} {l : Launch} {e : Env} {s : State} {m : MethodId} {below : List Frame} {meth : Method} {c : Code} {A : Nat → Prop} {G : Gt} {r : Int32} {u' : St} (B : Bd p s m [.ref (G.1 100)] meth c yX12_look cX12_look 4 (some .int)) (n : Nat) : (∀ (x1_ : Int32) (x2_ : Int32) (u : St) (H : Heap) (locs : List Loc) (ls : Array Slot), fX12_look_L0  n 0 x1_ x2_ 0 u = some (r, u') → Ok 100 77 G A s u H locs → lv_has ls 4 [(0, .ref (G.1 100)), (1, .int x1_), (2, .int x2_)] → W p l e rmX12_look s m ([.ref (G.1 100)] : List Value).toArray below meth c H locs 0 0 (MQ below (Qg 100 77 G A (some (.int r)) u') ([.ref (G.1 100)] : List Value).toArray s 0 0 A) (F0 m 148 ls [])) ∧ (∀ (x1_ : Int32) (x2_ : Int32) (s0_ : Int64) (u : St) (H : Heap) (locs : List Loc) (ls : Array Slot), fX12_look_L0  n 1 x1_ x2_ s0_ u = some (r, u') → Ok 100 77 G A s u H locs → lv_has ls 4 [(0, .ref (G.1 100)), (1, .int x1_), (2, .int x2_)] → W p l e rmX12_look s m ([.ref (G.1 100)] : List Value).toArray below meth c H locs 0 0 (MQ below (Qg 100 77 G A (some (.int r)) u') ([.ref (G.1 100)] : List Value).toArray s 0 0 A) (F0 m 197 ls [.long s0_, .ref (G.1 100)])) := by
  have F := B.1
  have hx := F.1
  have hb := F.2.1
  induction n with
  | zero => exact ⟨fun _ _ _ _ _ _ hf => g_no hf, fun _ _ _ _ _ _ _ hf => g_no hf⟩
  | succ n ih =>
    refine ⟨?_, ?_⟩
    · intro x1_ x2_ u H locs ls hf K hl
      have hf : fX12_look_L0_0  (fX12_look_L0  n) x1_ x2_ u = some (r, u') := hf
      unfold fX12_look_L0_0 at hf
      refine lv_aload_n hx hb dX12_look_148 rfl (lv_at hl 0 rfl) ?_
      refine lv_aload_n hx hb dX12_look_149 rfl (lv_at hl 0 rfl) ?_
      refine ok_int F K fX12_265 dX12_look_150 ?_
      obtain ⟨r5, u4, hu4, hf⟩ := g_b2 hf
      refine ok_calli (rest := []) F K (pX12_sign G hu4) mX12_sign oc100 lX12_268 rfl hl.1 rfl ⟨⟨rfl, rfl⟩, Nat.le_of_ble_eq_true rfl, Nat.le_of_ble_eq_true rfl⟩ (Nat.le_of_ble_eq_true rfl) dX12_look_153 (fun H locs K => ?_)
      obtain ⟨r7, u6, hu6, hf⟩ := g_b2 hf
      refine ok_callsi (rest := []) F K (pX12_letter G hu6) mX12_letter lX12_279 rfl hl.1 rfl ⟨⟨rfl, rfl⟩, Nat.le_of_ble_eq_true rfl, Nat.le_of_ble_eq_true rfl⟩ (Nat.le_of_ble_eq_true rfl) dX12_look_156 (fun H locs K => ?_)
      refine lv_if_le (pc := 159) (tgt := 216) hx hb dX12_look_159 (by decide) (fun c8 => ?_) (fun c8 => ?_)
      · have hf := g_pos hf c8
        refine lv_aload_n hx hb dX12_look_216 rfl (lv_at hl 0 rfl) ?_
        refine lv_iload_n hx hb dX12_look_217 rfl (lv_at hl 1 rfl) ?_
        refine lv_bipush (v := 97) hx hb dX12_look_218 kB_97 ?_
        refine lv_bipush (v := 122) hx hb dX12_look_220 kB_122 ?_
        obtain ⟨r10, u9, hu9, hf⟩ := g_b2 hf
        refine ok_callsi (rest := [.ref (G.1 100)]) F K (pX12_in G hu9) mX12_in lX12_245 rfl hl.1 rfl ⟨⟨rfl, rfl⟩, Nat.le_of_ble_eq_true rfl, Nat.le_of_ble_eq_true rfl⟩ (Nat.le_of_ble_eq_true rfl) dX12_look_222 (fun H locs K => ?_)
        refine lv_if_eq (pc := 225) (tgt := 232) hx hb dX12_look_225 (by decide) (fun c11 => ?_) (fun c11 => ?_)
        · have hf := g_pos hf c11
          refine lv_iconst (v := 2) hx hb dX12_look_232 kI_2 ?_
          exact pX12_look_j233  B x2_ 2 u9 _ _ _ hf K (lv_sub hl [0, 2] rfl)
        · have hf := g_neg hf c11
          refine lv_iconst (v := 1) hx hb dX12_look_228 kI_1 ?_
          refine lv_goto (pc := 229) (tgt := 233) hx hb dX12_look_229 (by decide) ?_
          exact pX12_look_j233  B x2_ 1 u9 _ _ _ hf K (lv_sub hl [0, 2] rfl)
      · have hf := g_neg hf c8
        refine lv_aload_n hx hb dX12_look_162 rfl (lv_at hl 0 rfl) ?_
        refine lv_iload_n hx hb dX12_look_163 rfl (lv_at hl 2 rfl) ?_
        refine lv_bipush (v := 9) hx hb dX12_look_164 kB_9 ?_
        refine lv_icmp_ge (pc := 166) (tgt := 193) hx hb dX12_look_166 (by decide) (fun c12 => ?_) (fun c12 => ?_)
        · have hf := g_pos hf c12
          refine lv_aload_n hx hb dX12_look_193 rfl (lv_at hl 0 rfl) ?_
          refine ok_long F K fX12_275 dX12_look_194 ?_
          exact ih.2 x1_ x2_ (gJ u6 100 27) u6 _ _ _ hf K (lv_sub hl [0, 1, 2] rfl)
        · have hf := g_neg hf c12
          refine lv_ldc2 (v := 64) hx hb F.2.2.2.1 (F.2.2.2.2 _ kcX12_282) dX12_look_169 ?_
          refine lv_aload_n hx hb dX12_look_172 rfl (lv_at hl 0 rfl) ?_
          refine ok_long F K fX12_275 dX12_look_173 ?_
          refine lv_lmul hx hb dX12_look_176 ?_
          refine lv_aload_n hx hb dX12_look_177 rfl (lv_at hl 0 rfl) ?_
          refine lv_aload_n hx hb dX12_look_178 rfl (lv_at hl 0 rfl) ?_
          refine ok_int F K fX12_265 dX12_look_179 ?_
          obtain ⟨r14, u13, hu13, hf⟩ := g_b2 hf
          refine ok_calli (rest := [.long (64 * (gJ u6 100 27)), .ref (G.1 100)]) F K (pX12_sign G hu13) mX12_sign oc100 lX12_268 rfl hl.1 rfl ⟨⟨rfl, rfl⟩, Nat.le_of_ble_eq_true rfl, Nat.le_of_ble_eq_true rfl⟩ (Nat.le_of_ble_eq_true rfl) dX12_look_182 (fun H locs K => ?_)
          obtain ⟨r16, u15, hu15, hf⟩ := g_b2 hf
          refine ok_callsi (rest := [.long (64 * (gJ u6 100 27)), .ref (G.1 100)]) F K (pX12_letter G hu15) mX12_letter lX12_279 rfl hl.1 rfl ⟨⟨rfl, rfl⟩, Nat.le_of_ble_eq_true rfl, Nat.le_of_ble_eq_true rfl⟩ (Nat.le_of_ble_eq_true rfl) dX12_look_185 (fun H locs K => ?_)
          refine lv_i2l hx hb dX12_look_188 rfl ?_
          refine lv_ladd hx hb dX12_look_189 ?_
          refine lv_goto (pc := 190) (tgt := 197) hx hb dX12_look_190 (by decide) ?_
          exact ih.2 x1_ x2_ ((64 * (gJ u6 100 27)) + (r16.toInt64)) u15 _ _ _ hf K (lv_sub hl [0, 1, 2] rfl)
    · intro x1_ x2_ s0_ u H locs ls hf K hl
      have hf : fX12_look_L0_1  (fX12_look_L0  n) x1_ x2_ s0_ u = some (r, u') := hf
      unfold fX12_look_L0_1 at hf
      refine ok_putJ F K qX12_275 dX12_look_197 (fun u17 H locs eu17 K => ?_)
      have hf := g_lt hf u17 eu17
      refine lv_aload_n hx hb dX12_look_200 rfl (lv_at hl 0 rfl) ?_
      refine lv_dup hx hb dX12_look_201 rfl ?_
      refine ok_int F K fX12_265 dX12_look_202 ?_
      refine lv_iconst (v := 1) hx hb dX12_look_205 kI_1 ?_
      refine lv_iadd hx hb dX12_look_206 ?_
      refine ok_putI F K qX12_265 dX12_look_207 (fun u18 H locs eu18 K => ?_)
      have hf := g_lt hf u18 eu18
      obtain ⟨x19, ex19⟩ : ∃ y : Int32, y = x2_ + 1 := ⟨_, rfl⟩
      have hf := g_lt hf x19 ex19
      refine lv_iinc (v := x19) (lv' := [(2, .int x19), (0, .ref (G.1 100)), (1, .int x1_)]) hx hb dX12_look_210 hl (k := 2) rfl (by rw [kI_1, ex19]) (by decide) rfl (fun ls hl => ?_)
      refine lv_goto (pc := 213) (tgt := 148) hx hb dX12_look_213 (by decide) ?_
      exact ih.1 x1_ x19 u18 _ _ _ hf K (lv_sub hl [1, 2, 0] rfl)
set_option maxRecDepth 100000 in
set_option maxHeartbeats 4000000 in
theorem pX12_look_j436 {p : Program} {l : Launch} {e : Env} {s : State} {m : MethodId} {below : List Frame} {meth : Method} {c : Code} {A : Nat → Prop} {G : Gt} {r : Int32} {u' : St} (B : Bd p s m [.ref (G.1 100)] meth c yX12_look cX12_look 4 (some .int)) (x2_ : Int32) (x3_ : Int32) (u : St) (H : Heap) (locs : List Loc) (ls : Array Slot) (hf : fX12_look_j436 x2_ x3_ u = some (r, u')) (K : Ok 100 77 G A s u H locs) (hl : lv_has ls 4 [(0, .ref (G.1 100)), (2, .int x2_), (3, .int x3_)]) : W p l e rmX12_look s m ([.ref (G.1 100)] : List Value).toArray below meth c H locs 0 0 (MQ below (Qg 100 77 G A (some (.int r)) u') ([.ref (G.1 100)] : List Value).toArray s 0 0 A) (F0 m 436 ls []) := by
  have F := B.1
  have hx := F.1
  have hb := F.2.1
  unfold fX12_look_j436 at hf
  refine lv_iload_n hx hb dX12_look_436 rfl (lv_at hl 2 rfl) ?_
  refine lv_if_ne (pc := 437) (tgt := 451) hx hb dX12_look_437 (by decide) (fun c20 => ?_) (fun c20 => ?_)
  · have hf := g_neg hf c20
    refine lv_aload_n hx hb dX12_look_451 rfl (lv_at hl 0 rfl) ?_
    refine lv_dup hx hb dX12_look_452 rfl ?_
    refine ok_int F K fX12_265 dX12_look_453 ?_
    refine lv_iload_n hx hb dX12_look_456 rfl (lv_at hl 1 rfl) ?_
    refine lv_iadd hx hb dX12_look_457 ?_
    refine ok_putI F K qX12_265 dX12_look_458 (fun u21 H locs eu21 K => ?_)
    have hf := g_lt hf u21 eu21
    refine lv_aload_n hx hb dX12_look_461 rfl (lv_at hl 0 rfl) ?_
    refine lv_iload_n hx hb dX12_look_462 rfl (lv_at hl 2 rfl) ?_
    refine ok_putI F K qX12_262 dX12_look_463 (fun u22 H locs eu22 K => ?_)
    have hf := g_lt hf u22 eu22
    refine lv_iload_n hx hb dX12_look_466 rfl (lv_at hl 2 rfl) ?_
    exact ok_reti B K hf dX12_look_467
  · have hf := g_pos hf c20
    refine lv_aload_n hx hb dX12_look_440 rfl (lv_at hl 0 rfl) ?_
    refine lv_iconst (v := 1) hx hb dX12_look_441 kI_1 ?_
    refine lv_aload_n hx hb dX12_look_442 rfl (lv_at hl 0 rfl) ?_
    refine ok_int F K fX12_272 dX12_look_443 ?_
    obtain ⟨u23, hu23, hf⟩ := g_bd hf
    refine ok_callv (rest := []) F K (pX12_fail G hu23) mX12_fail oc100 lX12_284 rfl hl.1 rfl ⟨⟨rfl, rfl⟩, Nat.le_of_ble_eq_true rfl, Nat.le_of_ble_eq_true rfl⟩ (Nat.le_of_ble_eq_true rfl) dX12_look_446 (fun H locs K => ?_)
    refine lv_iconst (v := (-1)) hx hb dX12_look_449 kI_m1 ?_
    exact ok_reti B K hf dX12_look_450
set_option maxRecDepth 100000 in
set_option maxHeartbeats 4000000 in
theorem pX12_look_j395 {p : Program} {l : Launch} {e : Env} {s : State} {m : MethodId} {below : List Frame} {meth : Method} {c : Code} {A : Nat → Prop} {G : Gt} {r : Int32} {u' : St} (B : Bd p s m [.ref (G.1 100)] meth c yX12_look cX12_look 4 (some .int)) (x1_ : Int32) (x2_ : Int32) (x3_ : Int32) (u : St) (H : Heap) (locs : List Loc) (ls : Array Slot) (hf : fX12_look_j395 x1_ x2_ x3_ u = some (r, u')) (K : Ok 100 77 G A s u H locs) (hl : lv_has ls 4 [(0, .ref (G.1 100)), (1, .int x1_), (2, .int x2_), (3, .int x3_)]) : W p l e rmX12_look s m ([.ref (G.1 100)] : List Value).toArray below meth c H locs 0 0 (MQ below (Qg 100 77 G A (some (.int r)) u') ([.ref (G.1 100)] : List Value).toArray s 0 0 A) (F0 m 395 ls []) := by
  have F := B.1
  have hx := F.1
  have hb := F.2.1
  unfold fX12_look_j395 at hf
  refine lv_iload_n hx hb dX12_look_395 rfl (lv_at hl 1 rfl) ?_
  refine lv_bipush (v := 60) hx hb dX12_look_396 kB_60 ?_
  refine lv_icmp_ne (pc := 398) (tgt := 436) hx hb dX12_look_398 (by decide) (fun c24 => ?_) (fun c24 => ?_)
  · have hf := g_neg hf c24
    exact pX12_look_j436  B x2_ x3_ u _ _ _ hf K (lv_sub hl [0, 2, 3] rfl)
  · have hf := g_pos hf c24
    refine lv_aload_n hx hb dX12_look_401 rfl (lv_at hl 0 rfl) ?_
    refine lv_aload_n hx hb dX12_look_402 rfl (lv_at hl 0 rfl) ?_
    refine ok_int F K fX12_265 dX12_look_403 ?_
    refine lv_iconst (v := 1) hx hb dX12_look_406 kI_1 ?_
    refine lv_iadd hx hb dX12_look_407 ?_
    obtain ⟨r26, u25, hu25, hf⟩ := g_b2 hf
    refine ok_calli (rest := []) F K (pX12_sign G hu25) mX12_sign oc100 lX12_268 rfl hl.1 rfl ⟨⟨rfl, rfl⟩, Nat.le_of_ble_eq_true rfl, Nat.le_of_ble_eq_true rfl⟩ (Nat.le_of_ble_eq_true rfl) dX12_look_408 (fun H locs K => ?_)
    refine lv_bipush (v := 61) hx hb dX12_look_411 kB_61 ?_
    refine lv_icmp_ne (pc := 413) (tgt := 436) hx hb dX12_look_413 (by decide) (fun c27 => ?_) (fun c27 => ?_)
    · have hf := g_neg hf c27
      exact pX12_look_j436  B x2_ x3_ u25 _ _ _ hf K (lv_sub hl [0, 2, 3] rfl)
    · have hf := g_pos hf c27
      refine lv_aload_n hx hb dX12_look_416 rfl (lv_at hl 0 rfl) ?_
      refine lv_aload_n hx hb dX12_look_417 rfl (lv_at hl 0 rfl) ?_
      refine ok_int F K fX12_265 dX12_look_418 ?_
      refine lv_iconst (v := 2) hx hb dX12_look_421 kI_2 ?_
      refine lv_iadd hx hb dX12_look_422 ?_
      obtain ⟨r29, u28, hu28, hf⟩ := g_b2 hf
      refine ok_calli (rest := []) F K (pX12_sign G hu28) mX12_sign oc100 lX12_268 rfl hl.1 rfl ⟨⟨rfl, rfl⟩, Nat.le_of_ble_eq_true rfl, Nat.le_of_ble_eq_true rfl⟩ (Nat.le_of_ble_eq_true rfl) dX12_look_423 (fun H locs K => ?_)
      refine lv_bipush (v := 62) hx hb dX12_look_426 kB_62 ?_
      refine lv_icmp_ne (pc := 428) (tgt := 436) hx hb dX12_look_428 (by decide) (fun c30 => ?_) (fun c30 => ?_)
      · have hf := g_neg hf c30
        exact pX12_look_j436  B x2_ x3_ u28 _ _ _ hf K (lv_sub hl [0, 2, 3] rfl)
      · have hf := g_pos hf c30
        refine lv_bipush (v := 14) hx hb dX12_look_431 kB_14 ?_
        refine lv_topi (fun x31 ex31 => ?_)
        have hf := g_lt hf x31 ex31
        refine lv_istore_n (lv' := [(3, .int x31), (0, .ref (G.1 100)), (1, .int x1_), (2, .int x2_)]) hx hb dX12_look_433 rfl hl (by decide) rfl (fun ls hl => ?_)
        refine lv_iconst (v := 3) hx hb dX12_look_434 kI_3 ?_
        refine lv_topi (fun x32 ex32 => ?_)
        have hf := g_lt hf x32 ex32
        refine lv_istore_n (lv' := [(2, .int x32), (3, .int x31), (0, .ref (G.1 100)), (1, .int x1_)]) hx hb dX12_look_435 rfl hl (by decide) rfl (fun ls hl => ?_)
        exact pX12_look_j436  B x32 x31 u28 _ _ _ hf K (lv_sub hl [2, 0, 1] rfl)
set_option maxRecDepth 100000 in
set_option maxHeartbeats 4000000 in
theorem pX12_look_j368 {p : Program} {l : Launch} {e : Env} {s : State} {m : MethodId} {below : List Frame} {meth : Method} {c : Code} {A : Nat → Prop} {G : Gt} {r : Int32} {u' : St} (B : Bd p s m [.ref (G.1 100)] meth c yX12_look cX12_look 4 (some .int)) (x1_ : Int32) (x2_ : Int32) (s0_ : Int32) (u : St) (H : Heap) (locs : List Loc) (ls : Array Slot) (hf : fX12_look_j368 x1_ x2_ s0_ u = some (r, u')) (K : Ok 100 77 G A s u H locs) (hl : lv_has ls 4 [(0, .ref (G.1 100)), (1, .int x1_), (2, .int x2_)]) : W p l e rmX12_look s m ([.ref (G.1 100)] : List Value).toArray below meth c H locs 0 0 (MQ below (Qg 100 77 G A (some (.int r)) u') ([.ref (G.1 100)] : List Value).toArray s 0 0 A) (F0 m 368 ls [.int s0_]) := by
  have F := B.1
  have hx := F.1
  have hb := F.2.1
  unfold fX12_look_j368 at hf
  refine lv_istore_n (lv' := [(3, .int s0_), (0, .ref (G.1 100)), (1, .int x1_), (2, .int x2_)]) hx hb dX12_look_368 rfl hl (by decide) rfl (fun ls hl => ?_)
  refine lv_iload_n hx hb dX12_look_369 rfl (lv_at hl 2 rfl) ?_
  refine lv_bipush (v := 61) hx hb dX12_look_370 kB_61 ?_
  refine lv_icmp_ne (pc := 372) (tgt := 395) hx hb dX12_look_372 (by decide) (fun c33 => ?_) (fun c33 => ?_)
  · have hf := g_neg hf c33
    exact pX12_look_j395  B x1_ x2_ s0_ u _ _ _ hf K (lv_sub hl [1, 2, 3, 0] rfl)
  · have hf := g_pos hf c33
    refine lv_aload_n hx hb dX12_look_375 rfl (lv_at hl 1 rfl) ?_
    refine lv_aload_n hx hb dX12_look_376 rfl (lv_at hl 1 rfl) ?_
    refine ok_int F K fX12_265 dX12_look_377 ?_
    refine lv_iconst (v := 1) hx hb dX12_look_380 kI_1 ?_
    refine lv_iadd hx hb dX12_look_381 ?_
    obtain ⟨r35, u34, hu34, hf⟩ := g_b2 hf
    refine ok_calli (rest := []) F K (pX12_sign G hu34) mX12_sign oc100 lX12_268 rfl hl.1 rfl ⟨⟨rfl, rfl⟩, Nat.le_of_ble_eq_true rfl, Nat.le_of_ble_eq_true rfl⟩ (Nat.le_of_ble_eq_true rfl) dX12_look_382 (fun H locs K => ?_)
    refine lv_bipush (v := 62) hx hb dX12_look_385 kB_62 ?_
    refine lv_icmp_ne (pc := 387) (tgt := 395) hx hb dX12_look_387 (by decide) (fun c36 => ?_) (fun c36 => ?_)
    · have hf := g_neg hf c36
      exact pX12_look_j395  B x1_ x2_ s0_ u34 _ _ _ hf K (lv_sub hl [1, 2, 3, 0] rfl)
    · have hf := g_pos hf c36
      refine lv_bipush (v := 13) hx hb dX12_look_390 kB_13 ?_
      refine lv_topi (fun x37 ex37 => ?_)
      have hf := g_lt hf x37 ex37
      refine lv_istore_n (lv' := [(3, .int x37), (0, .ref (G.1 100)), (1, .int x1_), (2, .int x2_)]) hx hb dX12_look_392 rfl hl (by decide) rfl (fun ls hl => ?_)
      refine lv_iconst (v := 2) hx hb dX12_look_393 kI_2 ?_
      refine lv_topi (fun x38 ex38 => ?_)
      have hf := g_lt hf x38 ex38
      refine lv_istore_n (lv' := [(2, .int x38), (3, .int x37), (0, .ref (G.1 100)), (1, .int x1_)]) hx hb dX12_look_394 rfl hl (by decide) rfl (fun ls hl => ?_)
      exact pX12_look_j395  B x1_ x38 x37 u34 _ _ _ hf K (lv_sub hl [2, 3, 0, 1] rfl)
set_option maxRecDepth 100000 in
set_option maxHeartbeats 4000000 in
theorem pX12_look_L1 {p : Program} {l : Launch} {e : Env} {s : State} {m : MethodId} {below : List Frame} {meth : Method} {c : Code} {A : Nat → Prop} {G : Gt} {r : Int32} {u' : St} (B : Bd p s m [.ref (G.1 100)] meth c yX12_look cX12_look 4 (some .int)) (n : Nat) : (∀ (u : St) (H : Heap) (locs : List Loc) (ls : Array Slot), fX12_look_L1  n 0  u = some (r, u') → Ok 100 77 G A s u H locs → lv_has ls 4 [(0, .ref (G.1 100))] → W p l e rmX12_look s m ([.ref (G.1 100)] : List Value).toArray below meth c H locs 0 0 (MQ below (Qg 100 77 G A (some (.int r)) u') ([.ref (G.1 100)] : List Value).toArray s 0 0 A) (F0 m 21 ls [])) ∧ (∀ (u : St) (H : Heap) (locs : List Loc) (ls : Array Slot), fX12_look_L1  n 1  u = some (r, u') → Ok 100 77 G A s u H locs → lv_has ls 4 [(0, .ref (G.1 100))] → W p l e rmX12_look s m ([.ref (G.1 100)] : List Value).toArray below meth c H locs 0 0 (MQ below (Qg 100 77 G A (some (.int r)) u') ([.ref (G.1 100)] : List Value).toArray s 0 0 A) (F0 m 73 ls [])) := by
  have F := B.1
  have hx := F.1
  have hb := F.2.1
  induction n with
  | zero => exact ⟨fun _ _ _ _ hf => g_no hf, fun _ _ _ _ hf => g_no hf⟩
  | succ n ih =>
    refine ⟨?_, ?_⟩
    · intro  u H locs ls hf K hl
      have hf : fX12_look_L1_0  (fX12_look_L1  n)  u = some (r, u') := hf
      unfold fX12_look_L1_0 at hf
      refine lv_aload_n hx hb dX12_look_21 rfl (lv_at hl 0 rfl) ?_
      refine lv_aload_n hx hb dX12_look_22 rfl (lv_at hl 0 rfl) ?_
      refine ok_int F K fX12_265 dX12_look_23 ?_
      obtain ⟨r40, u39, hu39, hf⟩ := g_b2 hf
      refine ok_calli (rest := []) F K (pX12_sign G hu39) mX12_sign oc100 lX12_268 rfl hl.1 rfl ⟨⟨rfl, rfl⟩, Nat.le_of_ble_eq_true rfl, Nat.le_of_ble_eq_true rfl⟩ (Nat.le_of_ble_eq_true rfl) dX12_look_26 (fun H locs K => ?_)
      refine lv_bipush (v := 9) hx hb dX12_look_29 kB_9 ?_
      refine lv_icmp_eq (pc := 31) (tgt := 73) hx hb dX12_look_31 (by decide) (fun c41 => ?_) (fun c41 => ?_)
      · have hf := g_pos hf c41
        exact ih.2  u39 _ _ _ hf K (lv_sub hl [0] rfl)
      · have hf := g_neg hf c41
        refine lv_aload_n hx hb dX12_look_34 rfl (lv_at hl 0 rfl) ?_
        refine lv_aload_n hx hb dX12_look_35 rfl (lv_at hl 0 rfl) ?_
        refine ok_int F K fX12_265 dX12_look_36 ?_
        obtain ⟨r43, u42, hu42, hf⟩ := g_b2 hf
        refine ok_calli (rest := []) F K (pX12_sign G hu42) mX12_sign oc100 lX12_268 rfl hl.1 rfl ⟨⟨rfl, rfl⟩, Nat.le_of_ble_eq_true rfl, Nat.le_of_ble_eq_true rfl⟩ (Nat.le_of_ble_eq_true rfl) dX12_look_39 (fun H locs K => ?_)
        refine lv_bipush (v := 10) hx hb dX12_look_42 kB_10 ?_
        refine lv_icmp_eq (pc := 44) (tgt := 73) hx hb dX12_look_44 (by decide) (fun c44 => ?_) (fun c44 => ?_)
        · have hf := g_pos hf c44
          exact ih.2  u42 _ _ _ hf K (lv_sub hl [0] rfl)
        · have hf := g_neg hf c44
          refine lv_aload_n hx hb dX12_look_47 rfl (lv_at hl 0 rfl) ?_
          refine lv_aload_n hx hb dX12_look_48 rfl (lv_at hl 0 rfl) ?_
          refine ok_int F K fX12_265 dX12_look_49 ?_
          obtain ⟨r46, u45, hu45, hf⟩ := g_b2 hf
          refine ok_calli (rest := []) F K (pX12_sign G hu45) mX12_sign oc100 lX12_268 rfl hl.1 rfl ⟨⟨rfl, rfl⟩, Nat.le_of_ble_eq_true rfl, Nat.le_of_ble_eq_true rfl⟩ (Nat.le_of_ble_eq_true rfl) dX12_look_52 (fun H locs K => ?_)
          refine lv_bipush (v := 13) hx hb dX12_look_55 kB_13 ?_
          refine lv_icmp_eq (pc := 57) (tgt := 73) hx hb dX12_look_57 (by decide) (fun c47 => ?_) (fun c47 => ?_)
          · have hf := g_pos hf c47
            exact ih.2  u45 _ _ _ hf K (lv_sub hl [0] rfl)
          · have hf := g_neg hf c47
            refine lv_aload_n hx hb dX12_look_60 rfl (lv_at hl 0 rfl) ?_
            refine lv_aload_n hx hb dX12_look_61 rfl (lv_at hl 0 rfl) ?_
            refine ok_int F K fX12_265 dX12_look_62 ?_
            obtain ⟨r49, u48, hu48, hf⟩ := g_b2 hf
            refine ok_calli (rest := []) F K (pX12_sign G hu48) mX12_sign oc100 lX12_268 rfl hl.1 rfl ⟨⟨rfl, rfl⟩, Nat.le_of_ble_eq_true rfl, Nat.le_of_ble_eq_true rfl⟩ (Nat.le_of_ble_eq_true rfl) dX12_look_65 (fun H locs K => ?_)
            refine lv_bipush (v := 32) hx hb dX12_look_68 kB_32 ?_
            refine lv_icmp_ne (pc := 70) (tgt := 86) hx hb dX12_look_70 (by decide) (fun c50 => ?_) (fun c50 => ?_)
            · have hf := g_neg hf c50
              refine lv_aload_n hx hb dX12_look_86 rfl (lv_at hl 0 rfl) ?_
              refine lv_aload_n hx hb dX12_look_87 rfl (lv_at hl 0 rfl) ?_
              refine ok_int F K fX12_265 dX12_look_88 ?_
              obtain ⟨r52, u51, hu51, hf⟩ := g_b2 hf
              refine ok_calli (rest := []) F K (pX12_sign G hu51) mX12_sign oc100 lX12_268 rfl hl.1 rfl ⟨⟨rfl, rfl⟩, Nat.le_of_ble_eq_true rfl, Nat.le_of_ble_eq_true rfl⟩ (Nat.le_of_ble_eq_true rfl) dX12_look_91 (fun H locs K => ?_)
              refine lv_istore_n (lv' := [(1, .int r52), (0, .ref (G.1 100))]) hx hb dX12_look_94 rfl hl (by decide) rfl (fun ls hl => ?_)
              refine lv_aload_n hx hb dX12_look_95 rfl (lv_at hl 1 rfl) ?_
              refine lv_aload_n hx hb dX12_look_96 rfl (lv_at hl 1 rfl) ?_
              refine ok_int F K fX12_265 dX12_look_97 ?_
              refine ok_putI F K qX12_272 dX12_look_100 (fun u53 H locs eu53 K => ?_)
              have hf := g_lt hf u53 eu53
              refine lv_aload_n hx hb dX12_look_103 rfl (lv_at hl 1 rfl) ?_
              refine lv_iconst (v := 1) hx hb dX12_look_104 kI_1 ?_
              refine ok_putZ F K qX12_258 (Or.inr rfl) dX12_look_105 (fun u54 H locs eu54 K => ?_)
              have hf := g_lt hf u54 eu54
              refine lv_iload_n hx hb dX12_look_108 rfl (lv_at hl 0 rfl) ?_
              refine lv_if_ge (pc := 109) (tgt := 119) hx hb dX12_look_109 (by decide) (fun c55 => ?_) (fun c55 => ?_)
              · have hf := g_pos hf c55
                refine lv_iload_n hx hb dX12_look_119 rfl (lv_at hl 0 rfl) ?_
                refine lv_bipush (v := 97) hx hb dX12_look_120 kB_97 ?_
                refine lv_bipush (v := 122) hx hb dX12_look_122 kB_122 ?_
                obtain ⟨r57, u56, hu56, hf⟩ := g_b2 hf
                refine ok_callsi (rest := []) F K (pX12_in G hu56) mX12_in lX12_245 rfl hl.1 rfl ⟨⟨rfl, rfl⟩, Nat.le_of_ble_eq_true rfl, Nat.le_of_ble_eq_true rfl⟩ (Nat.le_of_ble_eq_true rfl) dX12_look_124 (fun H locs K => ?_)
                refine lv_if_ne (pc := 127) (tgt := 141) hx hb dX12_look_127 (by decide) (fun c58 => ?_) (fun c58 => ?_)
                · have hf := g_neg hf c58
                  refine lv_iconst (v := 0) hx hb dX12_look_141 kI_0 ?_
                  refine lv_topi (fun x59 ex59 => ?_)
                  have hf := g_lt hf x59 ex59
                  refine lv_istore_n (lv' := [(2, .int x59), (1, .int r52), (0, .ref (G.1 100))]) hx hb dX12_look_142 rfl hl (by decide) rfl (fun ls hl => ?_)
                  refine lv_aload_n hx hb dX12_look_143 rfl (lv_at hl 2 rfl) ?_
                  refine lv_lconst (v := 0) hx hb dX12_look_144 (by decide) ?_
                  refine ok_putJ F K qX12_275 dX12_look_145 (fun u60 H locs eu60 K => ?_)
                  have hf := g_lt hf u60 eu60
                  exact (pX12_look_L0  B FU).1 r52 x59 u60 _ _ _ hf K (lv_sub hl [2, 1, 0] rfl)
                · have hf := g_pos hf c58
                  refine lv_iload_n hx hb dX12_look_130 rfl (lv_at hl 0 rfl) ?_
                  refine lv_bipush (v := 65) hx hb dX12_look_131 kB_65 ?_
                  refine lv_bipush (v := 90) hx hb dX12_look_133 kB_90 ?_
                  obtain ⟨r62, u61, hu61, hf⟩ := g_b2 hf
                  refine ok_callsi (rest := []) F K (pX12_in G hu61) mX12_in lX12_245 rfl hl.1 rfl ⟨⟨rfl, rfl⟩, Nat.le_of_ble_eq_true rfl, Nat.le_of_ble_eq_true rfl⟩ (Nat.le_of_ble_eq_true rfl) dX12_look_135 (fun H locs K => ?_)
                  refine lv_if_eq (pc := 138) (tgt := 258) hx hb dX12_look_138 (by decide) (fun c63 => ?_) (fun c63 => ?_)
                  · have hf := g_pos hf c63
                    refine lv_iconst (v := 1) hx hb dX12_look_258 kI_1 ?_
                    refine lv_topi (fun x64 ex64 => ?_)
                    have hf := g_lt hf x64 ex64
                    refine lv_istore_n (lv' := [(2, .int x64), (1, .int r52), (0, .ref (G.1 100))]) hx hb dX12_look_259 rfl hl (by decide) rfl (fun ls hl => ?_)
                    refine lv_iload_n hx hb dX12_look_260 rfl (lv_at hl 1 rfl) ?_
                    refine lv_bipush (v := 40) hx hb dX12_look_261 kB_40 ?_
                    refine lv_icmp_ne (pc := 263) (tgt := 270) hx hb dX12_look_263 (by decide) (fun c65 => ?_) (fun c65 => ?_)
                    · have hf := g_neg hf c65
                      refine lv_iload_n hx hb dX12_look_270 rfl (lv_at hl 1 rfl) ?_
                      refine lv_bipush (v := 41) hx hb dX12_look_271 kB_41 ?_
                      refine lv_icmp_ne (pc := 273) (tgt := 280) hx hb dX12_look_273 (by decide) (fun c66 => ?_) (fun c66 => ?_)
                      · have hf := g_neg hf c66
                        refine lv_iload_n hx hb dX12_look_280 rfl (lv_at hl 1 rfl) ?_
                        refine lv_bipush (v := 44) hx hb dX12_look_281 kB_44 ?_
                        refine lv_icmp_ne (pc := 283) (tgt := 290) hx hb dX12_look_283 (by decide) (fun c67 => ?_) (fun c67 => ?_)
                        · have hf := g_neg hf c67
                          refine lv_iload_n hx hb dX12_look_290 rfl (lv_at hl 1 rfl) ?_
                          refine lv_bipush (v := 46) hx hb dX12_look_291 kB_46 ?_
                          refine lv_icmp_ne (pc := 293) (tgt := 301) hx hb dX12_look_293 (by decide) (fun c68 => ?_) (fun c68 => ?_)
                          · have hf := g_neg hf c68
                            refine lv_iload_n hx hb dX12_look_301 rfl (lv_at hl 1 rfl) ?_
                            refine lv_bipush (v := 58) hx hb dX12_look_302 kB_58 ?_
                            refine lv_icmp_ne (pc := 304) (tgt := 312) hx hb dX12_look_304 (by decide) (fun c69 => ?_) (fun c69 => ?_)
                            · have hf := g_neg hf c69
                              refine lv_iload_n hx hb dX12_look_312 rfl (lv_at hl 1 rfl) ?_
                              refine lv_bipush (v := 126) hx hb dX12_look_313 kB_126 ?_
                              refine lv_icmp_ne (pc := 315) (tgt := 323) hx hb dX12_look_315 (by decide) (fun c70 => ?_) (fun c70 => ?_)
                              · have hf := g_neg hf c70
                                refine lv_iload_n hx hb dX12_look_323 rfl (lv_at hl 1 rfl) ?_
                                refine lv_bipush (v := 38) hx hb dX12_look_324 kB_38 ?_
                                refine lv_icmp_ne (pc := 326) (tgt := 334) hx hb dX12_look_326 (by decide) (fun c71 => ?_) (fun c71 => ?_)
                                · have hf := g_neg hf c71
                                  refine lv_iload_n hx hb dX12_look_334 rfl (lv_at hl 1 rfl) ?_
                                  refine lv_bipush (v := 124) hx hb dX12_look_335 kB_124 ?_
                                  refine lv_icmp_ne (pc := 337) (tgt := 345) hx hb dX12_look_337 (by decide) (fun c72 => ?_) (fun c72 => ?_)
                                  · have hf := g_neg hf c72
                                    refine lv_iload_n hx hb dX12_look_345 rfl (lv_at hl 1 rfl) ?_
                                    refine lv_bipush (v := 33) hx hb dX12_look_346 kB_33 ?_
                                    refine lv_icmp_ne (pc := 348) (tgt := 356) hx hb dX12_look_348 (by decide) (fun c73 => ?_) (fun c73 => ?_)
                                    · have hf := g_neg hf c73
                                      refine lv_iload_n hx hb dX12_look_356 rfl (lv_at hl 1 rfl) ?_
                                      refine lv_bipush (v := 63) hx hb dX12_look_357 kB_63 ?_
                                      refine lv_icmp_ne (pc := 359) (tgt := 367) hx hb dX12_look_359 (by decide) (fun c74 => ?_) (fun c74 => ?_)
                                      · have hf := g_neg hf c74
                                        refine lv_iconst (v := 0) hx hb dX12_look_367 kI_0 ?_
                                        exact pX12_look_j368  B r52 x64 0 u61 _ _ _ hf K (lv_sub hl [2, 1, 0] rfl)
                                      · have hf := g_pos hf c74
                                        refine lv_bipush (v := 12) hx hb dX12_look_362 kB_12 ?_
                                        refine lv_goto (pc := 364) (tgt := 368) hx hb dX12_look_364 (by decide) ?_
                                        exact pX12_look_j368  B r52 x64 12 u61 _ _ _ hf K (lv_sub hl [2, 1, 0] rfl)
                                    · have hf := g_pos hf c73
                                      refine lv_bipush (v := 11) hx hb dX12_look_351 kB_11 ?_
                                      refine lv_goto (pc := 353) (tgt := 368) hx hb dX12_look_353 (by decide) ?_
                                      exact pX12_look_j368  B r52 x64 11 u61 _ _ _ hf K (lv_sub hl [2, 1, 0] rfl)
                                  · have hf := g_pos hf c72
                                    refine lv_bipush (v := 10) hx hb dX12_look_340 kB_10 ?_
                                    refine lv_goto (pc := 342) (tgt := 368) hx hb dX12_look_342 (by decide) ?_
                                    exact pX12_look_j368  B r52 x64 10 u61 _ _ _ hf K (lv_sub hl [2, 1, 0] rfl)
                                · have hf := g_pos hf c71
                                  refine lv_bipush (v := 9) hx hb dX12_look_329 kB_9 ?_
                                  refine lv_goto (pc := 331) (tgt := 368) hx hb dX12_look_331 (by decide) ?_
                                  exact pX12_look_j368  B r52 x64 9 u61 _ _ _ hf K (lv_sub hl [2, 1, 0] rfl)
                              · have hf := g_pos hf c70
                                refine lv_bipush (v := 8) hx hb dX12_look_318 kB_8 ?_
                                refine lv_goto (pc := 320) (tgt := 368) hx hb dX12_look_320 (by decide) ?_
                                exact pX12_look_j368  B r52 x64 8 u61 _ _ _ hf K (lv_sub hl [2, 1, 0] rfl)
                            · have hf := g_pos hf c69
                              refine lv_bipush (v := 7) hx hb dX12_look_307 kB_7 ?_
                              refine lv_goto (pc := 309) (tgt := 368) hx hb dX12_look_309 (by decide) ?_
                              exact pX12_look_j368  B r52 x64 7 u61 _ _ _ hf K (lv_sub hl [2, 1, 0] rfl)
                          · have hf := g_pos hf c68
                            refine lv_bipush (v := 6) hx hb dX12_look_296 kB_6 ?_
                            refine lv_goto (pc := 298) (tgt := 368) hx hb dX12_look_298 (by decide) ?_
                            exact pX12_look_j368  B r52 x64 6 u61 _ _ _ hf K (lv_sub hl [2, 1, 0] rfl)
                        · have hf := g_pos hf c67
                          refine lv_iconst (v := 5) hx hb dX12_look_286 kI_5 ?_
                          refine lv_goto (pc := 287) (tgt := 368) hx hb dX12_look_287 (by decide) ?_
                          exact pX12_look_j368  B r52 x64 5 u61 _ _ _ hf K (lv_sub hl [2, 1, 0] rfl)
                      · have hf := g_pos hf c66
                        refine lv_iconst (v := 4) hx hb dX12_look_276 kI_4 ?_
                        refine lv_goto (pc := 277) (tgt := 368) hx hb dX12_look_277 (by decide) ?_
                        exact pX12_look_j368  B r52 x64 4 u61 _ _ _ hf K (lv_sub hl [2, 1, 0] rfl)
                    · have hf := g_pos hf c65
                      refine lv_iconst (v := 3) hx hb dX12_look_266 kI_3 ?_
                      refine lv_goto (pc := 267) (tgt := 368) hx hb dX12_look_267 (by decide) ?_
                      exact pX12_look_j368  B r52 x64 3 u61 _ _ _ hf K (lv_sub hl [2, 1, 0] rfl)
                  · have hf := g_neg hf c63
                    refine lv_iconst (v := 0) hx hb dX12_look_141 kI_0 ?_
                    refine lv_topi (fun x75 ex75 => ?_)
                    have hf := g_lt hf x75 ex75
                    refine lv_istore_n (lv' := [(2, .int x75), (1, .int r52), (0, .ref (G.1 100))]) hx hb dX12_look_142 rfl hl (by decide) rfl (fun ls hl => ?_)
                    refine lv_aload_n hx hb dX12_look_143 rfl (lv_at hl 2 rfl) ?_
                    refine lv_lconst (v := 0) hx hb dX12_look_144 (by decide) ?_
                    refine ok_putJ F K qX12_275 dX12_look_145 (fun u76 H locs eu76 K => ?_)
                    have hf := g_lt hf u76 eu76
                    exact (pX12_look_L0  B FU).1 r52 x75 u76 _ _ _ hf K (lv_sub hl [2, 1, 0] rfl)
              · have hf := g_neg hf c55
                refine lv_aload_n hx hb dX12_look_112 rfl (lv_at hl 1 rfl) ?_
                refine lv_iconst (v := 0) hx hb dX12_look_113 kI_0 ?_
                refine ok_putI F K qX12_262 dX12_look_114 (fun u77 H locs eu77 K => ?_)
                have hf := g_lt hf u77 eu77
                refine lv_iconst (v := 0) hx hb dX12_look_117 kI_0 ?_
                exact ok_reti B K hf dX12_look_118
            · have hf := g_pos hf c50
              exact ih.2  u48 _ _ _ hf K (lv_sub hl [0] rfl)
    · intro  u H locs ls hf K hl
      have hf : fX12_look_L1_1  (fX12_look_L1  n)  u = some (r, u') := hf
      unfold fX12_look_L1_1 at hf
      refine lv_aload_n hx hb dX12_look_73 rfl (lv_at hl 0 rfl) ?_
      refine lv_dup hx hb dX12_look_74 rfl ?_
      refine ok_int F K fX12_265 dX12_look_75 ?_
      refine lv_iconst (v := 1) hx hb dX12_look_78 kI_1 ?_
      refine lv_iadd hx hb dX12_look_79 ?_
      refine ok_putI F K qX12_265 dX12_look_80 (fun u78 H locs eu78 K => ?_)
      have hf := g_lt hf u78 eu78
      refine lv_goto (pc := 83) (tgt := 21) hx hb dX12_look_83 (by decide) ?_
      exact ih.1  u78 _ _ _ hf K (lv_sub hl [0] rfl)
set_option maxRecDepth 100000 in
set_option maxHeartbeats 4000000 in
theorem pX12_look {l : Launch} (G : Gt) {r : Int32} {u u' : St} (hf : fX12_look u = some (r, u')) : Ctr 100 77 l yX12_look cX12_look 4 (some .int) rmX12_look [.ref (G.1 100)] G u (some (.int r)) u' := by
  refine Ctr.mk (by decide) (Nat.le_of_ble_eq_true rfl) (fun p e s m below meth c A ls B K hl => ?_)
  have F := B.1
  have hx := F.1
  have hb := F.2.1
  have hl : lv_has ls 4 [(0, .ref (G.1 100))] := hl
  unfold fX12_look at hf
  refine lv_aload_n hx hb dX12_look_0 rfl (lv_at hl 0 rfl) ?_
  refine ok_int F K fX12_252 dX12_look_1 ?_
  refine lv_if_le (pc := 4) (tgt := 9) hx hb dX12_look_4 (by decide) (fun c79 => ?_) (fun c79 => ?_)
  · have hf := g_pos hf c79
    refine lv_aload_n hx hb dX12_look_9 rfl (lv_at hl 0 rfl) ?_
    refine ok_int F K fX12_258 dX12_look_10 ?_
    refine lv_if_eq (pc := 13) (tgt := 21) hx hb dX12_look_13 (by decide) (fun c80 => ?_) (fun c80 => ?_)
    · have hf := g_pos hf c80
      exact (pX12_look_L1  B FU).1  u _ _ _ hf K (lv_sub hl [0] rfl)
    · have hf := g_neg hf c80
      refine lv_aload_n hx hb dX12_look_16 rfl (lv_at hl 0 rfl) ?_
      refine ok_int F K fX12_262 dX12_look_17 ?_
      exact ok_reti B K hf dX12_look_20
  · have hf := g_neg hf c79
    refine lv_iconst (v := (-1)) hx hb dX12_look_7 kI_m1 ?_
    exact ok_reti B K hf dX12_look_8
abbrev rmX12_take : Room := { frames := 0, cells := 0, slots := 0, locals := 0 }
set_option maxRecDepth 100000 in
set_option maxHeartbeats 4000000 in
theorem pX12_take {l : Launch} (G : Gt) {u u' : St} (hf : fX12_take u = some u') : Ctr 100 77 l yX12_take cX12_take 1 none rmX12_take [.ref (G.1 100)] G u none u' := by
  refine Ctr.mk (by decide) (Nat.le_of_ble_eq_true rfl) (fun p e s m below meth c A ls B K hl => ?_)
  have F := B.1
  have hx := F.1
  have hb := F.2.1
  have hl : lv_has ls 1 [(0, .ref (G.1 100))] := hl
  unfold fX12_take at hf
  refine lv_aload_n hx hb dX12_take_0 rfl (lv_at hl 0 rfl) ?_
  refine lv_iconst (v := 0) hx hb dX12_take_1 kI_0 ?_
  refine ok_putZ F K qX12_258 (Or.inl rfl) dX12_take_2 (fun u1 H locs eu1 K => ?_)
  have hf := g_lt hf u1 eu1
  exact ok_retv B K hf dX12_take_5
abbrev rmX12_symbolOf : Room := { frames := 0, cells := 0, slots := 0, locals := 0 }
set_option maxRecDepth 100000 in
set_option maxHeartbeats 4000000 in
theorem pX12_symbolOf_L0 {p : Program} {l : Launch} {e : Env} {s : State} {m : MethodId} {below : List Frame} {meth : Method} {c : Code} {A : Nat → Prop} {G : Gt} {a0 : Int64} {r : Int32} {u' : St} (B : Bd p s m [.ref (G.1 100), .long a0] meth c yX12_symbolOf cX12_symbolOf 4 (some .int)) (n : Nat) : (∀ (x1_ : Int64) (x3_ : Int32) (u : St) (H : Heap) (locs : List Loc) (ls : Array Slot), fX12_symbolOf_L0  n 0 x1_ x3_ u = some (r, u') → Ok 100 77 G A s u H locs → lv_has ls 4 [(0, .ref (G.1 100)), (1, .long x1_), (3, .int x3_)] → W p l e rmX12_symbolOf s m ([.ref (G.1 100), .long a0] : List Value).toArray below meth c H locs 0 0 (MQ below (Qg 100 77 G A (some (.int r)) u') ([.ref (G.1 100), .long a0] : List Value).toArray s 0 0 A) (F0 m 2 ls [])) := by
  have F := B.1
  have hx := F.1
  have hb := F.2.1
  induction n with
  | zero => exact fun _ _ _ _ _ _ hf => g_no hf
  | succ n ih =>
    refine ?_
    · intro x1_ x3_ u H locs ls hf K hl
      have hf : fX12_symbolOf_L0_0  (fX12_symbolOf_L0  n) x1_ x3_ u = some (r, u') := hf
      unfold fX12_symbolOf_L0_0 at hf
      refine lv_iload_n hx hb dX12_symbolOf_2 rfl (lv_at hl 2 rfl) ?_
      refine lv_aload_n hx hb dX12_symbolOf_3 rfl (lv_at hl 0 rfl) ?_
      refine ok_int F K fX12_344 dX12_symbolOf_4 ?_
      refine lv_icmp_ge (pc := 7) (tgt := 29) hx hb dX12_symbolOf_7 (by decide) (fun c1 => ?_) (fun c1 => ?_)
      · have hf := g_pos hf c1
        refine lv_aload_n hx hb dX12_symbolOf_29 rfl (lv_at hl 0 rfl) ?_
        refine ok_ref F K fX12_13 dX12_symbolOf_30 ?_
        refine lv_aload_n hx hb dX12_symbolOf_33 rfl (lv_at hl 0 rfl) ?_
        refine ok_int F K fX12_344 dX12_symbolOf_34 ?_
        refine lv_lload_n hx hb dX12_symbolOf_37 rfl (lv_at hl 1 rfl) ?_
        obtain ⟨u2, hu2, hf⟩ := g_bd hf
        refine ok_last F K t102 hu2 dX12_symbolOf_38 (fun H locs K => ?_)
        refine lv_aload_n hx hb dX12_symbolOf_39 rfl (lv_at hl 0 rfl) ?_
        refine ok_ref F K fX12_17 dX12_symbolOf_40 ?_
        refine lv_aload_n hx hb dX12_symbolOf_43 rfl (lv_at hl 0 rfl) ?_
        refine ok_int F K fX12_344 dX12_symbolOf_44 ?_
        refine lv_iconst (v := (-1)) hx hb dX12_symbolOf_47 kI_m1 ?_
        obtain ⟨u3, hu3, hf⟩ := g_bd hf
        refine ok_iast F K t103 hu3 dX12_symbolOf_48 (fun H locs K => ?_)
        refine lv_aload_n hx hb dX12_symbolOf_49 rfl (lv_at hl 0 rfl) ?_
        refine lv_dup hx hb dX12_symbolOf_50 rfl ?_
        refine ok_int F K fX12_344 dX12_symbolOf_51 ?_
        refine lv_iconst (v := 1) hx hb dX12_symbolOf_54 kI_1 ?_
        refine lv_iadd hx hb dX12_symbolOf_55 ?_
        refine ok_putI F K qX12_344 dX12_symbolOf_56 (fun u4 H locs eu4 K => ?_)
        have hf := g_lt hf u4 eu4
        refine lv_aload_n hx hb dX12_symbolOf_59 rfl (lv_at hl 0 rfl) ?_
        refine ok_int F K fX12_344 dX12_symbolOf_60 ?_
        refine lv_iconst (v := 1) hx hb dX12_symbolOf_63 kI_1 ?_
        refine lv_isub hx hb dX12_symbolOf_64 ?_
        exact ok_reti B K hf dX12_symbolOf_65
      · have hf := g_neg hf c1
        refine lv_aload_n hx hb dX12_symbolOf_10 rfl (lv_at hl 0 rfl) ?_
        refine ok_ref F K fX12_13 dX12_symbolOf_11 ?_
        refine lv_iload_n hx hb dX12_symbolOf_14 rfl (lv_at hl 2 rfl) ?_
        obtain ⟨v5, hv5, hf⟩ := g_bd hf
        refine ok_lald F K t102 hv5 dX12_symbolOf_15 ?_
        refine lv_lload_n hx hb dX12_symbolOf_16 rfl (lv_at hl 1 rfl) ?_
        refine W.lcmp hx hb dX12_symbolOf_17 ?_
        refine lv_if_ne (pc := 18) (tgt := 23) hx hb dX12_symbolOf_18 (by decide) (fun c6 => ?_) (fun c6 => ?_)
        · have hf := g_neg hf c6
          obtain ⟨x7, ex7⟩ : ∃ y : Int32, y = x3_ + 1 := ⟨_, rfl⟩
          have hf := g_lt hf x7 ex7
          refine lv_iinc (v := x7) (lv' := [(3, .int x7), (0, .ref (G.1 100)), (1, .long x1_)]) hx hb dX12_symbolOf_23 hl (k := 2) rfl (by rw [kI_1, ex7]) (by decide) rfl (fun ls hl => ?_)
          refine lv_goto (pc := 26) (tgt := 2) hx hb dX12_symbolOf_26 (by decide) ?_
          exact ih x1_ x7 u _ _ _ hf K (lv_sub hl [1, 2, 0] rfl)
        · have hf := g_pos hf c6
          refine lv_iload_n hx hb dX12_symbolOf_21 rfl (lv_at hl 2 rfl) ?_
          exact ok_reti B K hf dX12_symbolOf_22
set_option maxRecDepth 100000 in
set_option maxHeartbeats 4000000 in
theorem pX12_symbolOf {l : Launch} (G : Gt) {a0 : Int64} {r : Int32} {u u' : St} (hf : fX12_symbolOf a0 u = some (r, u')) : Ctr 100 77 l yX12_symbolOf cX12_symbolOf 4 (some .int) rmX12_symbolOf [.ref (G.1 100), .long a0] G u (some (.int r)) u' := by
  refine Ctr.mk (by decide) (Nat.le_of_ble_eq_true rfl) (fun p e s m below meth c A ls B K hl => ?_)
  have F := B.1
  have hx := F.1
  have hb := F.2.1
  have hl : lv_has ls 4 [(0, .ref (G.1 100)), (1, .long a0)] := hl
  unfold fX12_symbolOf at hf
  refine lv_iconst (v := 0) hx hb dX12_symbolOf_0 kI_0 ?_
  refine lv_topi (fun x8 ex8 => ?_)
  have hf := g_lt hf x8 ex8
  refine lv_istore_n (lv' := [(3, .int x8), (0, .ref (G.1 100)), (1, .long a0)]) hx hb dX12_symbolOf_1 rfl hl (by decide) rfl (fun ls hl => ?_)
  exact (pX12_symbolOf_L0  B FU) a0 x8 u _ _ _ hf K (lv_sub hl [1, 2, 0] rfl)
abbrev rmX12_opens : Room := { frames := 1, cells := 0, slots := 0, locals := 22 }
set_option maxRecDepth 100000 in
set_option maxHeartbeats 4000000 in
theorem pX12_opens {l : Launch} (G : Gt) {r : Int32} {u u' : St} (hf : fX12_opens u = some (r, u')) : Ctr 100 77 l yX12_opens cX12_opens 1 (some .boolean) rmX12_opens [.ref (G.1 100)] G u (some (.int r)) u' := by
  refine Ctr.mk (by decide) (Nat.le_of_ble_eq_true rfl) (fun p e s m below meth c A ls B K hl => ?_)
  have F := B.1
  have hx := F.1
  have hb := F.2.1
  have hl : lv_has ls 1 [(0, .ref (G.1 100))] := hl
  unfold fX12_opens at hf
  refine lv_aload_n hx hb dX12_opens_0 rfl (lv_at hl 0 rfl) ?_
  refine ok_int F K fX12_298 dX12_opens_1 ?_
  refine lv_bipush (v := 30) hx hb dX12_opens_4 kB_30 ?_
  refine lv_icmp_ne (pc := 6) (tgt := 21) hx hb dX12_opens_6 (by decide) (fun c1 => ?_) (fun c1 => ?_)
  · have hf := g_neg hf c1
    refine lv_aload_n hx hb dX12_opens_21 rfl (lv_at hl 0 rfl) ?_
    refine lv_dup hx hb dX12_opens_22 rfl ?_
    refine ok_int F K fX12_298 dX12_opens_23 ?_
    refine lv_iconst (v := 1) hx hb dX12_opens_26 kI_1 ?_
    refine lv_iadd hx hb dX12_opens_27 ?_
    refine ok_putI F K qX12_298 dX12_opens_28 (fun u2 H locs eu2 K => ?_)
    have hf := g_lt hf u2 eu2
    refine lv_aload_n hx hb dX12_opens_31 rfl (lv_at hl 0 rfl) ?_
    obtain ⟨u3, hu3, hf⟩ := g_bd hf
    refine ok_callv (rest := []) F K (pX12_take G hu3) mX12_take oc100 lX12_292 rfl hl.1 rfl ⟨⟨rfl, rfl⟩, Nat.le_of_ble_eq_true rfl, Nat.le_of_ble_eq_true rfl⟩ (Nat.le_of_ble_eq_true rfl) dX12_opens_32 (fun H locs K => ?_)
    refine lv_iconst (v := 1) hx hb dX12_opens_35 kI_1 ?_
    exact ok_retz B K hf (Or.inr rfl) dX12_opens_36
  · have hf := g_pos hf c1
    refine lv_aload_n hx hb dX12_opens_9 rfl (lv_at hl 0 rfl) ?_
    refine lv_bipush (v := 6) hx hb dX12_opens_10 kB_6 ?_
    refine lv_aload_n hx hb dX12_opens_12 rfl (lv_at hl 0 rfl) ?_
    refine ok_int F K fX12_272 dX12_opens_13 ?_
    obtain ⟨u4, hu4, hf⟩ := g_bd hf
    refine ok_callv (rest := []) F K (pX12_fail G hu4) mX12_fail oc100 lX12_284 rfl hl.1 rfl ⟨⟨rfl, rfl⟩, Nat.le_of_ble_eq_true rfl, Nat.le_of_ble_eq_true rfl⟩ (Nat.le_of_ble_eq_true rfl) dX12_opens_16 (fun H locs K => ?_)
    refine lv_iconst (v := 0) hx hb dX12_opens_19 kI_0 ?_
    exact ok_retz B K hf (Or.inl rfl) dX12_opens_20
abbrev rmX12_endName : Room := { frames := 1, cells := 0, slots := 0, locals := 22 }
set_option maxRecDepth 100000 in
set_option maxHeartbeats 4000000 in
theorem pX12_endName_j59 {p : Program} {l : Launch} {e : Env} {s : State} {m : MethodId} {below : List Frame} {meth : Method} {c : Code} {A : Nat → Prop} {G : Gt} {a0 : Int32} {a1 : Int32} {a2 : Int32} {u' : St} (B : Bd p s m [.ref (G.1 100), .int a0, .int a1, .int a2] meth c yX12_endName cX12_endName 5 none) (x1_ : Int32) (x3_ : Int32) (x4_ : Int32) (u : St) (H : Heap) (locs : List Loc) (ls : Array Slot) (hf : fX12_endName_j59 x1_ x3_ x4_ u = some u') (K : Ok 100 77 G A s u H locs) (hl : lv_has ls 5 [(0, .ref (G.1 100)), (1, .int x1_), (3, .int x3_), (4, .int x4_)]) : W p l e rmX12_endName s m ([.ref (G.1 100), .int a0, .int a1, .int a2] : List Value).toArray below meth c H locs 0 0 (MQ below (Qg 100 77 G A none u') ([.ref (G.1 100), .int a0, .int a1, .int a2] : List Value).toArray s 0 0 A) (F0 m 59 ls []) := by
  have F := B.1
  have hx := F.1
  have hb := F.2.1
  unfold fX12_endName_j59 at hf
  refine lv_aload_n hx hb dX12_endName_59 rfl (lv_at hl 0 rfl) ?_
  refine ok_ref F K fX12_17 dX12_endName_60 ?_
  refine lv_iload_n hx hb dX12_endName_63 rfl (lv_at hl 1 rfl) ?_
  refine lv_iload_n hx hb dX12_endName_64 rfl (lv_at hl 2 rfl) ?_
  obtain ⟨u1, hu1, hf⟩ := g_bd hf
  refine ok_iast F K t103 hu1 dX12_endName_65 (fun H locs K => ?_)
  refine lv_aload_n hx hb dX12_endName_66 rfl (lv_at hl 0 rfl) ?_
  refine ok_ref F K fX12_21 dX12_endName_67 ?_
  refine lv_iload_n hx hb dX12_endName_70 rfl (lv_at hl 1 rfl) ?_
  refine lv_iload hx hb dX12_endName_71 (lv_at hl 3 rfl) ?_
  obtain ⟨z3, hz3, hf⟩ := g_bd hf
  obtain ⟨u2, hu2, hf⟩ := g_bd hf
  refine ok_zast F K t104 (g_zb hz3).2 hu2 dX12_endName_73 (fun H locs K => ?_)
  exact ok_retv B K hf dX12_endName_74
set_option maxRecDepth 100000 in
set_option maxHeartbeats 4000000 in
theorem pX12_endName_j12 {p : Program} {l : Launch} {e : Env} {s : State} {m : MethodId} {below : List Frame} {meth : Method} {c : Code} {A : Nat → Prop} {G : Gt} {a0 : Int32} {a1 : Int32} {a2 : Int32} {u' : St} (B : Bd p s m [.ref (G.1 100), .int a0, .int a1, .int a2] meth c yX12_endName cX12_endName 5 none) (x1_ : Int32) (x2_ : Int32) (x3_ : Int32) (s0_ : Int32) (u : St) (H : Heap) (locs : List Loc) (ls : Array Slot) (hf : fX12_endName_j12 x1_ x2_ x3_ s0_ u = some u') (K : Ok 100 77 G A s u H locs) (hl : lv_has ls 5 [(0, .ref (G.1 100)), (1, .int x1_), (2, .int x2_), (3, .int x3_)]) : W p l e rmX12_endName s m ([.ref (G.1 100), .int a0, .int a1, .int a2] : List Value).toArray below meth c H locs 0 0 (MQ below (Qg 100 77 G A none u') ([.ref (G.1 100), .int a0, .int a1, .int a2] : List Value).toArray s 0 0 A) (F0 m 12 ls [.int s0_]) := by
  have F := B.1
  have hx := F.1
  have hb := F.2.1
  unfold fX12_endName_j12 at hf
  refine lv_istore (lv' := [(4, .int s0_), (0, .ref (G.1 100)), (1, .int x1_), (2, .int x2_), (3, .int x3_)]) hx hb dX12_endName_12 hl (by decide) rfl (fun ls hl => ?_)
  refine lv_aload_n hx hb dX12_endName_14 rfl (lv_at hl 1 rfl) ?_
  refine ok_int F K fX12_252 dX12_endName_15 ?_
  refine lv_if_le (pc := 18) (tgt := 22) hx hb dX12_endName_18 (by decide) (fun c4 => ?_) (fun c4 => ?_)
  · have hf := g_pos hf c4
    refine lv_aload_n hx hb dX12_endName_22 rfl (lv_at hl 1 rfl) ?_
    refine ok_ref F K fX12_17 dX12_endName_23 ?_
    refine lv_iload_n hx hb dX12_endName_26 rfl (lv_at hl 2 rfl) ?_
    obtain ⟨v5, hv5, hf⟩ := g_bd hf
    refine ok_iald F K t103 hv5 dX12_endName_27 ?_
    refine lv_if_lt (pc := 28) (tgt := 59) hx hb dX12_endName_28 (by decide) (fun c6 => ?_) (fun c6 => ?_)
    · have hf := g_pos hf c6
      exact pX12_endName_j59  B x1_ x3_ s0_ u _ _ _ hf K (lv_sub hl [1, 2, 4, 0] rfl)
    · have hf := g_neg hf c6
      refine lv_aload_n hx hb dX12_endName_31 rfl (lv_at hl 1 rfl) ?_
      refine ok_ref F K fX12_17 dX12_endName_32 ?_
      refine lv_iload_n hx hb dX12_endName_35 rfl (lv_at hl 2 rfl) ?_
      obtain ⟨v7, hv7, hf⟩ := g_bd hf
      refine ok_iald F K t103 hv7 dX12_endName_36 ?_
      refine lv_iload_n hx hb dX12_endName_37 rfl (lv_at hl 4 rfl) ?_
      refine lv_icmp_ne (pc := 38) (tgt := 52) hx hb dX12_endName_38 (by decide) (fun c8 => ?_) (fun c8 => ?_)
      · have hf := g_neg hf c8
        refine lv_aload_n hx hb dX12_endName_52 rfl (lv_at hl 1 rfl) ?_
        refine lv_iconst (v := 3) hx hb dX12_endName_53 kI_3 ?_
        refine lv_iload_n hx hb dX12_endName_54 rfl (lv_at hl 3 rfl) ?_
        obtain ⟨u9, hu9, hf⟩ := g_bd hf
        refine ok_callv (rest := []) F K (pX12_fail G hu9) mX12_fail oc100 lX12_284 rfl hl.1 rfl ⟨⟨rfl, rfl⟩, Nat.le_of_ble_eq_true rfl, Nat.le_of_ble_eq_true rfl⟩ (Nat.le_of_ble_eq_true rfl) dX12_endName_55 (fun H locs K => ?_)
        exact ok_retv B K hf dX12_endName_58
      · have hf := g_pos hf c8
        refine lv_aload_n hx hb dX12_endName_41 rfl (lv_at hl 1 rfl) ?_
        refine ok_ref F K fX12_21 dX12_endName_42 ?_
        refine lv_iload_n hx hb dX12_endName_45 rfl (lv_at hl 2 rfl) ?_
        obtain ⟨v10, hv10, hf⟩ := g_bd hf
        refine ok_zald F K t104 hv10 dX12_endName_46 ?_
        refine lv_iload hx hb dX12_endName_47 (lv_at hl 0 rfl) ?_
        refine lv_icmp_eq (pc := 49) (tgt := 59) hx hb dX12_endName_49 (by decide) (fun c11 => ?_) (fun c11 => ?_)
        · have hf := g_pos hf c11
          exact pX12_endName_j59  B x1_ x3_ s0_ u _ _ _ hf K (lv_sub hl [1, 2, 4, 0] rfl)
        · have hf := g_neg hf c11
          refine lv_aload_n hx hb dX12_endName_52 rfl (lv_at hl 1 rfl) ?_
          refine lv_iconst (v := 3) hx hb dX12_endName_53 kI_3 ?_
          refine lv_iload_n hx hb dX12_endName_54 rfl (lv_at hl 3 rfl) ?_
          obtain ⟨u12, hu12, hf⟩ := g_bd hf
          refine ok_callv (rest := []) F K (pX12_fail G hu12) mX12_fail oc100 lX12_284 rfl hl.1 rfl ⟨⟨rfl, rfl⟩, Nat.le_of_ble_eq_true rfl, Nat.le_of_ble_eq_true rfl⟩ (Nat.le_of_ble_eq_true rfl) dX12_endName_55 (fun H locs K => ?_)
          exact ok_retv B K hf dX12_endName_58
  · have hf := g_neg hf c4
    exact ok_retv B K hf dX12_endName_21
set_option maxRecDepth 100000 in
set_option maxHeartbeats 4000000 in
theorem pX12_endName {l : Launch} (G : Gt) {a0 : Int32} {a1 : Int32} {a2 : Int32} {u u' : St} (hf : fX12_endName a0 a1 a2 u = some u') : Ctr 100 77 l yX12_endName cX12_endName 5 none rmX12_endName [.ref (G.1 100), .int a0, .int a1, .int a2] G u none u' := by
  refine Ctr.mk (by decide) (Nat.le_of_ble_eq_true rfl) (fun p e s m below meth c A ls B K hl => ?_)
  have F := B.1
  have hx := F.1
  have hb := F.2.1
  have hl : lv_has ls 5 [(0, .ref (G.1 100)), (1, .int a0), (2, .int a1), (3, .int a2)] := hl
  unfold fX12_endName at hf
  refine lv_aload_n hx hb dX12_endName_0 rfl (lv_at hl 0 rfl) ?_
  refine ok_int F K fX12_350 dX12_endName_1 ?_
  refine lv_if_le (pc := 4) (tgt := 11) hx hb dX12_endName_4 (by decide) (fun c13 => ?_) (fun c13 => ?_)
  · have hf := g_pos hf c13
    refine lv_iconst (v := 0) hx hb dX12_endName_11 kI_0 ?_
    exact pX12_endName_j12  B a0 a1 a2 0 u _ _ _ hf K (lv_sub hl [0, 1, 2, 3] rfl)
  · have hf := g_neg hf c13
    refine lv_iconst (v := 1) hx hb dX12_endName_7 kI_1 ?_
    refine lv_goto (pc := 8) (tgt := 12) hx hb dX12_endName_8 (by decide) ?_
    exact pX12_endName_j12  B a0 a1 a2 1 u _ _ _ hf K (lv_sub hl [0, 1, 2, 3] rfl)
abbrev rmX12_beginTerm : Room := { frames := 3, cells := 0, slots := 0, locals := 65 }
set_option maxRecDepth 100000 in
set_option maxHeartbeats 4000000 in
theorem pX12_beginTerm_j52 {p : Program} {l : Launch} {e : Env} {s : State} {m : MethodId} {below : List Frame} {meth : Method} {c : Code} {A : Nat → Prop} {G : Gt} {r : Int32} {u' : St} (B : Bd p s m [.ref (G.1 100)] meth c yX12_beginTerm cX12_beginTerm 4 (some .boolean)) (x1_ : Int32) (u : St) (H : Heap) (locs : List Loc) (ls : Array Slot) (hf : fX12_beginTerm_j52 x1_ u = some (r, u')) (K : Ok 100 77 G A s u H locs) (hl : lv_has ls 4 [(0, .ref (G.1 100)), (1, .int x1_)]) : W p l e rmX12_beginTerm s m ([.ref (G.1 100)] : List Value).toArray below meth c H locs 0 0 (MQ below (Qg 100 77 G A (some (.int r)) u') ([.ref (G.1 100)] : List Value).toArray s 0 0 A) (F0 m 52 ls []) := by
  have F := B.1
  have hx := F.1
  have hb := F.2.1
  unfold fX12_beginTerm_j52 at hf
  refine lv_iload_n hx hb dX12_beginTerm_52 rfl (lv_at hl 1 rfl) ?_
  refine lv_iconst (v := 1) hx hb dX12_beginTerm_53 kI_1 ?_
  refine lv_icmp_eq (pc := 54) (tgt := 68) hx hb dX12_beginTerm_54 (by decide) (fun c1 => ?_) (fun c1 => ?_)
  · have hf := g_pos hf c1
    refine lv_aload_n hx hb dX12_beginTerm_68 rfl (lv_at hl 0 rfl) ?_
    refine ok_int F K fX12_272 dX12_beginTerm_69 ?_
    refine lv_topi (fun x2 ex2 => ?_)
    have hf := g_lt hf x2 ex2
    refine lv_istore_n (lv' := [(2, .int x2), (0, .ref (G.1 100)), (1, .int x1_)]) hx hb dX12_beginTerm_72 rfl hl (by decide) rfl (fun ls hl => ?_)
    refine lv_aload_n hx hb dX12_beginTerm_73 rfl (lv_at hl 1 rfl) ?_
    refine lv_aload_n hx hb dX12_beginTerm_74 rfl (lv_at hl 1 rfl) ?_
    refine ok_long F K fX12_275 dX12_beginTerm_75 ?_
    obtain ⟨r4, u3, hu3, hf⟩ := g_b2 hf
    refine ok_calli (rest := []) F K (pX12_symbolOf G hu3) mX12_symbolOf oc100 lX12_357 rfl hl.1 rfl ⟨⟨rfl, rfl⟩, Nat.le_of_ble_eq_true rfl, Nat.le_of_ble_eq_true rfl⟩ (Nat.le_of_ble_eq_true rfl) dX12_beginTerm_78 (fun H locs K => ?_)
    refine lv_istore_n (lv' := [(3, .int r4), (2, .int x2), (0, .ref (G.1 100)), (1, .int x1_)]) hx hb dX12_beginTerm_81 rfl hl (by decide) rfl (fun ls hl => ?_)
    refine lv_aload_n hx hb dX12_beginTerm_82 rfl (lv_at hl 2 rfl) ?_
    obtain ⟨u5, hu5, hf⟩ := g_bd hf
    refine ok_callv (rest := []) F K (pX12_take G hu5) mX12_take oc100 lX12_292 rfl hl.1 rfl ⟨⟨rfl, rfl⟩, Nat.le_of_ble_eq_true rfl, Nat.le_of_ble_eq_true rfl⟩ (Nat.le_of_ble_eq_true rfl) dX12_beginTerm_83 (fun H locs K => ?_)
    refine lv_aload_n hx hb dX12_beginTerm_86 rfl (lv_at hl 2 rfl) ?_
    refine ok_ref F K fX12_64 dX12_beginTerm_87 ?_
    refine lv_aload_n hx hb dX12_beginTerm_90 rfl (lv_at hl 2 rfl) ?_
    refine ok_int F K fX12_338 dX12_beginTerm_91 ?_
    refine lv_iload_n hx hb dX12_beginTerm_94 rfl (lv_at hl 0 rfl) ?_
    obtain ⟨u6, hu6, hf⟩ := g_bd hf
    refine ok_iast F K t118 hu6 dX12_beginTerm_95 (fun H locs K => ?_)
    refine lv_aload_n hx hb dX12_beginTerm_96 rfl (lv_at hl 2 rfl) ?_
    refine lv_dup hx hb dX12_beginTerm_97 rfl ?_
    refine ok_int F K fX12_338 dX12_beginTerm_98 ?_
    refine lv_iconst (v := 1) hx hb dX12_beginTerm_101 kI_1 ?_
    refine lv_iadd hx hb dX12_beginTerm_102 ?_
    refine ok_putI F K qX12_338 dX12_beginTerm_103 (fun u7 H locs eu7 K => ?_)
    have hf := g_lt hf u7 eu7
    refine lv_aload_n hx hb dX12_beginTerm_106 rfl (lv_at hl 2 rfl) ?_
    obtain ⟨r9, u8, hu8, hf⟩ := g_b2 hf
    refine ok_calli (rest := []) F K (pX12_look G hu8) mX12_look oc100 lX12_288 rfl hl.1 rfl ⟨⟨rfl, rfl⟩, Nat.le_of_ble_eq_true rfl, Nat.le_of_ble_eq_true rfl⟩ (Nat.le_of_ble_eq_true rfl) dX12_beginTerm_107 (fun H locs K => ?_)
    refine lv_iconst (v := 3) hx hb dX12_beginTerm_110 kI_3 ?_
    refine lv_icmp_ne (pc := 111) (tgt := 163) hx hb dX12_beginTerm_111 (by decide) (fun c10 => ?_) (fun c10 => ?_)
    · have hf := g_neg hf c10
      refine lv_aload_n hx hb dX12_beginTerm_163 rfl (lv_at hl 2 rfl) ?_
      refine lv_iload_n hx hb dX12_beginTerm_164 rfl (lv_at hl 0 rfl) ?_
      refine lv_iload_n hx hb dX12_beginTerm_165 rfl (lv_at hl 1 rfl) ?_
      refine lv_iconst (v := 0) hx hb dX12_beginTerm_166 kI_0 ?_
      obtain ⟨u11, hu11, hf⟩ := g_bd hf
      refine ok_callv (rest := []) F K (pX12_endName G hu11) mX12_endName oc100 lX12_360 rfl hl.1 rfl ⟨⟨rfl, rfl⟩, Nat.le_of_ble_eq_true rfl, Nat.le_of_ble_eq_true rfl⟩ (Nat.le_of_ble_eq_true rfl) dX12_beginTerm_167 (fun H locs K => ?_)
      refine lv_iconst (v := 1) hx hb dX12_beginTerm_170 kI_1 ?_
      exact ok_retz B K hf (Or.inr rfl) dX12_beginTerm_171
    · have hf := g_pos hf c10
      refine lv_aload_n hx hb dX12_beginTerm_114 rfl (lv_at hl 2 rfl) ?_
      obtain ⟨r13, u12, hu12, hf⟩ := g_b2 hf
      refine ok_calli (rest := []) F K (pX12_opens G hu12) mX12_opens oc100 lX12_324 rfl hl.1 rfl ⟨⟨rfl, rfl⟩, Nat.le_of_ble_eq_true rfl, Nat.le_of_ble_eq_true rfl⟩ (Nat.le_of_ble_eq_true rfl) dX12_beginTerm_115 (fun H locs K => ?_)
      refine lv_if_eq (pc := 118) (tgt := 161) hx hb dX12_beginTerm_118 (by decide) (fun c14 => ?_) (fun c14 => ?_)
      · have hf := g_pos hf c14
        refine lv_iconst (v := 0) hx hb dX12_beginTerm_161 kI_0 ?_
        exact ok_retz B K hf (Or.inl rfl) dX12_beginTerm_162
      · have hf := g_neg hf c14
        refine lv_aload_n hx hb dX12_beginTerm_121 rfl (lv_at hl 2 rfl) ?_
        refine ok_ref F K fX12_79 dX12_beginTerm_122 ?_
        refine lv_aload_n hx hb dX12_beginTerm_125 rfl (lv_at hl 2 rfl) ?_
        refine ok_int F K fX12_350 dX12_beginTerm_126 ?_
        refine lv_iload_n hx hb dX12_beginTerm_129 rfl (lv_at hl 0 rfl) ?_
        obtain ⟨u15, hu15, hf⟩ := g_bd hf
        refine ok_iast F K t123 hu15 dX12_beginTerm_130 (fun H locs K => ?_)
        refine lv_aload_n hx hb dX12_beginTerm_131 rfl (lv_at hl 2 rfl) ?_
        refine ok_ref F K fX12_82 dX12_beginTerm_132 ?_
        refine lv_aload_n hx hb dX12_beginTerm_135 rfl (lv_at hl 2 rfl) ?_
        refine ok_int F K fX12_350 dX12_beginTerm_136 ?_
        refine lv_iload_n hx hb dX12_beginTerm_139 rfl (lv_at hl 1 rfl) ?_
        obtain ⟨u16, hu16, hf⟩ := g_bd hf
        refine ok_iast F K t124 hu16 dX12_beginTerm_140 (fun H locs K => ?_)
        refine lv_aload_n hx hb dX12_beginTerm_141 rfl (lv_at hl 2 rfl) ?_
        refine ok_ref F K fX12_85 dX12_beginTerm_142 ?_
        refine lv_aload_n hx hb dX12_beginTerm_145 rfl (lv_at hl 2 rfl) ?_
        refine ok_int F K fX12_350 dX12_beginTerm_146 ?_
        refine lv_iconst (v := 0) hx hb dX12_beginTerm_149 kI_0 ?_
        obtain ⟨u17, hu17, hf⟩ := g_bd hf
        refine ok_iast F K t125 hu17 dX12_beginTerm_150 (fun H locs K => ?_)
        refine lv_aload_n hx hb dX12_beginTerm_151 rfl (lv_at hl 2 rfl) ?_
        refine lv_dup hx hb dX12_beginTerm_152 rfl ?_
        refine ok_int F K fX12_350 dX12_beginTerm_153 ?_
        refine lv_iconst (v := 1) hx hb dX12_beginTerm_156 kI_1 ?_
        refine lv_iadd hx hb dX12_beginTerm_157 ?_
        refine ok_putI F K qX12_350 dX12_beginTerm_158 (fun u18 H locs eu18 K => ?_)
        have hf := g_lt hf u18 eu18
        refine lv_iconst (v := 0) hx hb dX12_beginTerm_161 kI_0 ?_
        exact ok_retz B K hf (Or.inl rfl) dX12_beginTerm_162
  · have hf := g_neg hf c1
    refine lv_aload_n hx hb dX12_beginTerm_57 rfl (lv_at hl 0 rfl) ?_
    refine lv_iconst (v := 2) hx hb dX12_beginTerm_58 kI_2 ?_
    refine lv_aload_n hx hb dX12_beginTerm_59 rfl (lv_at hl 0 rfl) ?_
    refine ok_int F K fX12_272 dX12_beginTerm_60 ?_
    obtain ⟨u19, hu19, hf⟩ := g_bd hf
    refine ok_callv (rest := []) F K (pX12_fail G hu19) mX12_fail oc100 lX12_284 rfl hl.1 rfl ⟨⟨rfl, rfl⟩, Nat.le_of_ble_eq_true rfl, Nat.le_of_ble_eq_true rfl⟩ (Nat.le_of_ble_eq_true rfl) dX12_beginTerm_63 (fun H locs K => ?_)
    refine lv_iconst (v := 0) hx hb dX12_beginTerm_66 kI_0 ?_
    exact ok_retz B K hf (Or.inl rfl) dX12_beginTerm_67
set_option maxRecDepth 100000 in
set_option maxHeartbeats 4000000 in
theorem pX12_beginTerm {l : Launch} (G : Gt) {r : Int32} {u u' : St} (hf : fX12_beginTerm u = some (r, u')) : Ctr 100 77 l yX12_beginTerm cX12_beginTerm 4 (some .boolean) rmX12_beginTerm [.ref (G.1 100)] G u (some (.int r)) u' := by
  refine Ctr.mk (by decide) (Nat.le_of_ble_eq_true rfl) (fun p e s m below meth c A ls B K hl => ?_)
  have F := B.1
  have hx := F.1
  have hb := F.2.1
  have hl : lv_has ls 4 [(0, .ref (G.1 100))] := hl
  unfold fX12_beginTerm at hf
  refine lv_aload_n hx hb dX12_beginTerm_0 rfl (lv_at hl 0 rfl) ?_
  obtain ⟨r21, u20, hu20, hf⟩ := g_b2 hf
  refine ok_calli (rest := []) F K (pX12_look G hu20) mX12_look oc100 lX12_288 rfl hl.1 rfl ⟨⟨rfl, rfl⟩, Nat.le_of_ble_eq_true rfl, Nat.le_of_ble_eq_true rfl⟩ (Nat.le_of_ble_eq_true rfl) dX12_beginTerm_1 (fun H locs K => ?_)
  refine lv_istore_n (lv' := [(1, .int r21), (0, .ref (G.1 100))]) hx hb dX12_beginTerm_4 rfl hl (by decide) rfl (fun ls hl => ?_)
  refine lv_aload_n hx hb dX12_beginTerm_5 rfl (lv_at hl 1 rfl) ?_
  refine ok_int F K fX12_350 dX12_beginTerm_6 ?_
  refine lv_if_le (pc := 9) (tgt := 52) hx hb dX12_beginTerm_9 (by decide) (fun c22 => ?_) (fun c22 => ?_)
  · have hf := g_pos hf c22
    exact pX12_beginTerm_j52  B r21 u20 _ _ _ hf K (lv_sub hl [1, 0] rfl)
  · have hf := g_neg hf c22
    refine lv_iload_n hx hb dX12_beginTerm_12 rfl (lv_at hl 0 rfl) ?_
    refine lv_iconst (v := 2) hx hb dX12_beginTerm_13 kI_2 ?_
    refine lv_icmp_ne (pc := 14) (tgt := 52) hx hb dX12_beginTerm_14 (by decide) (fun c23 => ?_) (fun c23 => ?_)
    · have hf := g_neg hf c23
      exact pX12_beginTerm_j52  B r21 u20 _ _ _ hf K (lv_sub hl [1, 0] rfl)
    · have hf := g_pos hf c23
      refine lv_aload_n hx hb dX12_beginTerm_17 rfl (lv_at hl 1 rfl) ?_
      refine ok_ref F K fX12_64 dX12_beginTerm_18 ?_
      refine lv_aload_n hx hb dX12_beginTerm_21 rfl (lv_at hl 1 rfl) ?_
      refine ok_int F K fX12_338 dX12_beginTerm_22 ?_
      refine lv_iconst (v := (-1)) hx hb dX12_beginTerm_25 kI_m1 ?_
      refine lv_aload_n hx hb dX12_beginTerm_26 rfl (lv_at hl 1 rfl) ?_
      refine lv_aload_n hx hb dX12_beginTerm_27 rfl (lv_at hl 1 rfl) ?_
      refine ok_long F K fX12_275 dX12_beginTerm_28 ?_
      obtain ⟨r25, u24, hu24, hf⟩ := g_b2 hf
      refine ok_calli (rest := [.int (-1), .int (gI u20 100 33), .ref (G.1 118)]) F K (pX12_variableOf G hu24) mX12_variableOf oc100 lX12_353 rfl hl.1 rfl ⟨⟨rfl, rfl⟩, Nat.le_of_ble_eq_true rfl, Nat.le_of_ble_eq_true rfl⟩ (Nat.le_of_ble_eq_true rfl) dX12_beginTerm_31 (fun H locs K => ?_)
      refine lv_isub hx hb dX12_beginTerm_34 ?_
      obtain ⟨u26, hu26, hf⟩ := g_bd hf
      refine ok_iast F K t118 hu26 dX12_beginTerm_35 (fun H locs K => ?_)
      refine lv_aload_n hx hb dX12_beginTerm_36 rfl (lv_at hl 1 rfl) ?_
      refine lv_dup hx hb dX12_beginTerm_37 rfl ?_
      refine ok_int F K fX12_338 dX12_beginTerm_38 ?_
      refine lv_iconst (v := 1) hx hb dX12_beginTerm_41 kI_1 ?_
      refine lv_iadd hx hb dX12_beginTerm_42 ?_
      refine ok_putI F K qX12_338 dX12_beginTerm_43 (fun u27 H locs eu27 K => ?_)
      have hf := g_lt hf u27 eu27
      refine lv_aload_n hx hb dX12_beginTerm_46 rfl (lv_at hl 1 rfl) ?_
      obtain ⟨u28, hu28, hf⟩ := g_bd hf
      refine ok_callv (rest := []) F K (pX12_take G hu28) mX12_take oc100 lX12_292 rfl hl.1 rfl ⟨⟨rfl, rfl⟩, Nat.le_of_ble_eq_true rfl, Nat.le_of_ble_eq_true rfl⟩ (Nat.le_of_ble_eq_true rfl) dX12_beginTerm_47 (fun H locs K => ?_)
      refine lv_iconst (v := 1) hx hb dX12_beginTerm_50 kI_1 ?_
      exact ok_retz B K hf (Or.inr rfl) dX12_beginTerm_51
abbrev rmX12_stands : Room := { frames := 1, cells := 0, slots := 0, locals := 23 }
set_option maxRecDepth 100000 in
set_option maxHeartbeats 4000000 in
theorem pX12_stands_L0 {p : Program} {l : Launch} {e : Env} {s : State} {m : MethodId} {below : List Frame} {meth : Method} {c : Code} {A : Nat → Prop} {G : Gt} {a0 : Int32} {a1 : Int32} {a2 : Int32} {r : Int32} {u' : St} (B : Bd p s m [.ref (G.1 100), .int a0, .int a1, .int a2] meth c yX12_stands cX12_stands 9 (some .boolean)) (n : Nat) : (∀ (x1_ : Int32) (u : St) (H : Heap) (locs : List Loc) (ls : Array Slot), fX12_stands_L0  n 0 x1_ 0 0 0 0 u = some (r, u') → Ok 100 77 G A s u H locs → lv_has ls 9 [(0, .ref (G.1 100)), (1, .int x1_)] → W p l e rmX12_stands s m ([.ref (G.1 100), .int a0, .int a1, .int a2] : List Value).toArray below meth c H locs 0 0 (MQ below (Qg 100 77 G A (some (.int r)) u') ([.ref (G.1 100), .int a0, .int a1, .int a2] : List Value).toArray s 0 0 A) (F0 m 19 ls [])) ∧ (∀ (x1_ : Int32) (x5_ : Int32) (x6_ : Int32) (x7_ : Int32) (x8_ : Int32) (u : St) (H : Heap) (locs : List Loc) (ls : Array Slot), fX12_stands_L0  n 1 x1_ x5_ x6_ x7_ x8_ u = some (r, u') → Ok 100 77 G A s u H locs → lv_has ls 9 [(0, .ref (G.1 100)), (1, .int x1_), (5, .int x5_), (6, .int x6_), (7, .int x7_), (8, .int x8_)] → W p l e rmX12_stands s m ([.ref (G.1 100), .int a0, .int a1, .int a2] : List Value).toArray below meth c H locs 0 0 (MQ below (Qg 100 77 G A (some (.int r)) u') ([.ref (G.1 100), .int a0, .int a1, .int a2] : List Value).toArray s 0 0 A) (F0 m 125 ls [])) := by
  have F := B.1
  have hx := F.1
  have hb := F.2.1
  induction n with
  | zero => exact ⟨fun _ _ _ _ _ hf => g_no hf, fun _ _ _ _ _ _ _ _ _ hf => g_no hf⟩
  | succ n ih =>
    refine ⟨?_, ?_⟩
    · intro x1_ u H locs ls hf K hl
      have hf : fX12_stands_L0_0  (fX12_stands_L0  n) x1_ u = some (r, u') := hf
      unfold fX12_stands_L0_0 at hf
      refine lv_aload_n hx hb dX12_stands_19 rfl (lv_at hl 0 rfl) ?_
      refine ok_int F K fX12_555 dX12_stands_20 ?_
      refine lv_if_le (pc := 23) (tgt := 199) hx hb dX12_stands_23 (by decide) (fun c1 => ?_) (fun c1 => ?_)
      · have hf := g_pos hf c1
        refine lv_iconst (v := 0) hx hb dX12_stands_199 kI_0 ?_
        exact ok_retz B K hf (Or.inl rfl) dX12_stands_200
      · have hf := g_neg hf c1
        refine lv_aload_n hx hb dX12_stands_26 rfl (lv_at hl 0 rfl) ?_
        refine lv_dup hx hb dX12_stands_27 rfl ?_
        refine ok_int F K fX12_555 dX12_stands_28 ?_
        refine lv_iconst (v := 1) hx hb dX12_stands_31 kI_1 ?_
        refine lv_isub hx hb dX12_stands_32 ?_
        refine ok_putI F K qX12_555 dX12_stands_33 (fun u2 H locs eu2 K => ?_)
        have hf := g_lt hf u2 eu2
        refine lv_aload_n hx hb dX12_stands_36 rfl (lv_at hl 0 rfl) ?_
        refine lv_aload_n hx hb dX12_stands_37 rfl (lv_at hl 0 rfl) ?_
        refine ok_ref F K fX12_205 dX12_stands_38 ?_
        refine lv_aload_n hx hb dX12_stands_41 rfl (lv_at hl 0 rfl) ?_
        refine ok_int F K fX12_555 dX12_stands_42 ?_
        obtain ⟨v3, hv3, hf⟩ := g_bd hf
        refine ok_iald F K t165 hv3 dX12_stands_45 ?_
        refine lv_aload_n hx hb dX12_stands_46 rfl (lv_at hl 0 rfl) ?_
        refine ok_ref F K fX12_208 dX12_stands_47 ?_
        refine lv_aload_n hx hb dX12_stands_50 rfl (lv_at hl 0 rfl) ?_
        refine ok_int F K fX12_555 dX12_stands_51 ?_
        obtain ⟨v4, hv4, hf⟩ := g_bd hf
        refine ok_iald F K t166 hv4 dX12_stands_54 ?_
        obtain ⟨u5, hu5, hf⟩ := g_bd hf
        refine ok_callv (rest := []) F K (pX12_follow G hu5) mX12_follow oc100 lX12_519 rfl hl.1 rfl ⟨⟨rfl, rfl⟩, Nat.le_of_ble_eq_true rfl, Nat.le_of_ble_eq_true rfl⟩ (Nat.le_of_ble_eq_true rfl) dX12_stands_55 (fun H locs K => ?_)
        refine lv_aload_n hx hb dX12_stands_58 rfl (lv_at hl 0 rfl) ?_
        refine ok_int F K fX12_522 dX12_stands_59 ?_
        refine lv_topi (fun x6 ex6 => ?_)
        have hf := g_lt hf x6 ex6
        refine lv_istore (lv' := [(4, .int x6), (0, .ref (G.1 100)), (1, .int x1_)]) hx hb dX12_stands_62 hl (by decide) rfl (fun ls hl => ?_)
        refine lv_aload_n hx hb dX12_stands_64 rfl (lv_at hl 1 rfl) ?_
        refine ok_int F K fX12_525 dX12_stands_65 ?_
        refine lv_topi (fun x7 ex7 => ?_)
        have hf := g_lt hf x7 ex7
        refine lv_istore (lv' := [(5, .int x7), (4, .int x6), (0, .ref (G.1 100)), (1, .int x1_)]) hx hb dX12_stands_68 hl (by decide) rfl (fun ls hl => ?_)
        refine lv_aload_n hx hb dX12_stands_70 rfl (lv_at hl 2 rfl) ?_
        obtain ⟨r9, u8, hu8, hf⟩ := g_b2 hf
        refine ok_calli (rest := []) F K (pX12_counted G hu8) mX12_counted oc100 lX12_558 rfl hl.1 rfl ⟨⟨rfl, rfl⟩, Nat.le_of_ble_eq_true rfl, Nat.le_of_ble_eq_true rfl⟩ (Nat.le_of_ble_eq_true rfl) dX12_stands_71 (fun H locs K => ?_)
        refine lv_if_ne (pc := 74) (tgt := 79) hx hb dX12_stands_74 (by decide) (fun c10 => ?_) (fun c10 => ?_)
        · have hf := g_neg hf c10
          refine lv_aload_n hx hb dX12_stands_79 rfl (lv_at hl 2 rfl) ?_
          refine ok_ref F K fX12_43 dX12_stands_80 ?_
          refine lv_iload hx hb dX12_stands_83 (lv_at hl 1 rfl) ?_
          obtain ⟨v11, hv11, hf⟩ := g_bd hf
          refine ok_iald F K t111 hv11 dX12_stands_85 ?_
          refine lv_if_ge (pc := 86) (tgt := 107) hx hb dX12_stands_86 (by decide) (fun c12 => ?_) (fun c12 => ?_)
          · have hf := g_pos hf c12
            refine lv_aload_n hx hb dX12_stands_107 rfl (lv_at hl 2 rfl) ?_
            refine ok_ref F K fX12_49 dX12_stands_108 ?_
            refine lv_iload hx hb dX12_stands_111 (lv_at hl 1 rfl) ?_
            obtain ⟨v13, hv13, hf⟩ := g_bd hf
            refine ok_iald F K t113 hv13 dX12_stands_113 ?_
            refine lv_istore (lv' := [(6, .int v13), (5, .int x7), (4, .int x6), (0, .ref (G.1 100)), (1, .int x1_)]) hx hb dX12_stands_114 hl (by decide) rfl (fun ls hl => ?_)
            refine lv_iload hx hb dX12_stands_116 (lv_at hl 2 rfl) ?_
            refine lv_iconst (v := 1) hx hb dX12_stands_118 kI_1 ?_
            refine lv_iadd hx hb dX12_stands_119 ?_
            refine lv_topi (fun x14 ex14 => ?_)
            have hf := g_lt hf x14 ex14
            refine lv_istore (lv' := [(7, .int x14), (6, .int v13), (5, .int x7), (4, .int x6), (0, .ref (G.1 100)), (1, .int x1_)]) hx hb dX12_stands_120 hl (by decide) rfl (fun ls hl => ?_)
            refine lv_iconst (v := 0) hx hb dX12_stands_122 kI_0 ?_
            refine lv_topi (fun x15 ex15 => ?_)
            have hf := g_lt hf x15 ex15
            refine lv_istore (lv' := [(8, .int x15), (7, .int x14), (6, .int v13), (5, .int x7), (4, .int x6), (0, .ref (G.1 100)), (1, .int x1_)]) hx hb dX12_stands_123 hl (by decide) rfl (fun ls hl => ?_)
            exact ih.2 x1_ x7 v13 x14 x15 u8 _ _ _ hf K (lv_sub hl [5, 6, 3, 2, 1, 0] rfl)
          · have hf := g_neg hf c12
            refine lv_iload hx hb dX12_stands_89 (lv_at hl 0 rfl) ?_
            refine lv_iconst (v := 1) hx hb dX12_stands_91 kI_1 ?_
            refine lv_isub hx hb dX12_stands_92 ?_
            refine lv_aload_n hx hb dX12_stands_93 rfl (lv_at hl 2 rfl) ?_
            refine ok_ref F K fX12_43 dX12_stands_94 ?_
            refine lv_iload hx hb dX12_stands_97 (lv_at hl 1 rfl) ?_
            obtain ⟨v16, hv16, hf⟩ := g_bd hf
            refine ok_iald F K t111 hv16 dX12_stands_99 ?_
            refine lv_isub hx hb dX12_stands_100 ?_
            refine lv_iload_n hx hb dX12_stands_101 rfl (lv_at hl 3 rfl) ?_
            refine lv_icmp_ne (pc := 102) (tgt := 19) hx hb dX12_stands_102 (by decide) (fun c17 => ?_) (fun c17 => ?_)
            · have hf := g_neg hf c17
              exact ih.1 x1_ u8 _ _ _ hf K (lv_sub hl [2, 3] rfl)
            · have hf := g_pos hf c17
              refine lv_iconst (v := 1) hx hb dX12_stands_105 kI_1 ?_
              exact ok_retz B K hf (Or.inr rfl) dX12_stands_106
        · have hf := g_pos hf c10
          refine lv_iconst (v := 1) hx hb dX12_stands_77 kI_1 ?_
          exact ok_retz B K hf (Or.inr rfl) dX12_stands_78
    · intro x1_ x5_ x6_ x7_ x8_ u H locs ls hf K hl
      have hf : fX12_stands_L0_1  (fX12_stands_L0  n) x1_ x5_ x6_ x7_ x8_ u = some (r, u') := hf
      unfold fX12_stands_L0_1 at hf
      refine lv_iload hx hb dX12_stands_125 (lv_at hl 5 rfl) ?_
      refine lv_iload hx hb dX12_stands_127 (lv_at hl 3 rfl) ?_
      refine lv_icmp_ge (pc := 129) (tgt := 185) hx hb dX12_stands_129 (by decide) (fun c18 => ?_) (fun c18 => ?_)
      · have hf := g_pos hf c18
        refine lv_aload_n hx hb dX12_stands_185 rfl (lv_at hl 0 rfl) ?_
        refine lv_dup hx hb dX12_stands_186 rfl ?_
        refine ok_int F K fX12_555 dX12_stands_187 ?_
        refine lv_iload hx hb dX12_stands_190 (lv_at hl 3 rfl) ?_
        refine lv_iadd hx hb dX12_stands_192 ?_
        refine ok_putI F K qX12_555 dX12_stands_193 (fun u19 H locs eu19 K => ?_)
        have hf := g_lt hf u19 eu19
        refine lv_goto (pc := 196) (tgt := 19) hx hb dX12_stands_196 (by decide) ?_
        exact ih.1 x1_ u19 _ _ _ hf K (lv_sub hl [0, 1] rfl)
      · have hf := g_neg hf c18
        refine lv_aload_n hx hb dX12_stands_132 rfl (lv_at hl 0 rfl) ?_
        refine ok_ref F K fX12_205 dX12_stands_133 ?_
        refine lv_aload_n hx hb dX12_stands_136 rfl (lv_at hl 0 rfl) ?_
        refine ok_int F K fX12_555 dX12_stands_137 ?_
        refine lv_iload hx hb dX12_stands_140 (lv_at hl 3 rfl) ?_
        refine lv_iadd hx hb dX12_stands_142 ?_
        refine lv_iconst (v := 1) hx hb dX12_stands_143 kI_1 ?_
        refine lv_isub hx hb dX12_stands_144 ?_
        refine lv_iload hx hb dX12_stands_145 (lv_at hl 5 rfl) ?_
        refine lv_isub hx hb dX12_stands_147 ?_
        refine lv_iload hx hb dX12_stands_148 (lv_at hl 4 rfl) ?_
        obtain ⟨u20, hu20, hf⟩ := g_bd hf
        refine ok_iast F K t165 hu20 dX12_stands_150 (fun H locs K => ?_)
        refine lv_aload_n hx hb dX12_stands_151 rfl (lv_at hl 0 rfl) ?_
        refine ok_ref F K fX12_208 dX12_stands_152 ?_
        refine lv_aload_n hx hb dX12_stands_155 rfl (lv_at hl 0 rfl) ?_
        refine ok_int F K fX12_555 dX12_stands_156 ?_
        refine lv_iload hx hb dX12_stands_159 (lv_at hl 3 rfl) ?_
        refine lv_iadd hx hb dX12_stands_161 ?_
        refine lv_iconst (v := 1) hx hb dX12_stands_162 kI_1 ?_
        refine lv_isub hx hb dX12_stands_163 ?_
        refine lv_iload hx hb dX12_stands_164 (lv_at hl 5 rfl) ?_
        refine lv_isub hx hb dX12_stands_166 ?_
        refine lv_iload hx hb dX12_stands_167 (lv_at hl 2 rfl) ?_
        obtain ⟨u21, hu21, hf⟩ := g_bd hf
        refine ok_iast F K t166 hu21 dX12_stands_169 (fun H locs K => ?_)
        refine lv_aload_n hx hb dX12_stands_170 rfl (lv_at hl 0 rfl) ?_
        refine ok_ref F K fX12_46 dX12_stands_171 ?_
        refine lv_iload hx hb dX12_stands_174 (lv_at hl 4 rfl) ?_
        obtain ⟨v22, hv22, hf⟩ := g_bd hf
        refine ok_iald F K t112 hv22 dX12_stands_176 ?_
        refine lv_istore (lv' := [(7, .int v22), (0, .ref (G.1 100)), (1, .int x1_), (5, .int x5_), (6, .int x6_), (8, .int x8_)]) hx hb dX12_stands_177 hl (by decide) rfl (fun ls hl => ?_)
        obtain ⟨x23, ex23⟩ : ∃ y : Int32, y = x8_ + 1 := ⟨_, rfl⟩
        have hf := g_lt hf x23 ex23
        refine lv_iinc (v := x23) (lv' := [(8, .int x23), (7, .int v22), (0, .ref (G.1 100)), (1, .int x1_), (5, .int x5_), (6, .int x6_)]) hx hb dX12_stands_179 hl (k := 5) rfl (by rw [kI_1, ex23]) (by decide) rfl (fun ls hl => ?_)
        refine lv_goto (pc := 182) (tgt := 125) hx hb dX12_stands_182 (by decide) ?_
        exact ih.2 x1_ x5_ x6_ v22 x23 u21 _ _ _ hf K (lv_sub hl [2, 3, 4, 5, 1, 0] rfl)
set_option maxRecDepth 100000 in
set_option maxHeartbeats 4000000 in
theorem pX12_stands {l : Launch} (G : Gt) {a0 : Int32} {a1 : Int32} {a2 : Int32} {r : Int32} {u u' : St} (hf : fX12_stands a0 a1 a2 u = some (r, u')) : Ctr 100 77 l yX12_stands cX12_stands 9 (some .boolean) rmX12_stands [.ref (G.1 100), .int a0, .int a1, .int a2] G u (some (.int r)) u' := by
  refine Ctr.mk (by decide) (Nat.le_of_ble_eq_true rfl) (fun p e s m below meth c A ls B K hl => ?_)
  have F := B.1
  have hx := F.1
  have hb := F.2.1
  have hl : lv_has ls 9 [(0, .ref (G.1 100)), (1, .int a0), (2, .int a1), (3, .int a2)] := hl
  unfold fX12_stands at hf
  refine lv_aload_n hx hb dX12_stands_0 rfl (lv_at hl 0 rfl) ?_
  refine lv_iconst (v := 1) hx hb dX12_stands_1 kI_1 ?_
  refine ok_putI F K qX12_555 dX12_stands_2 (fun u24 H locs eu24 K => ?_)
  have hf := g_lt hf u24 eu24
  refine lv_aload_n hx hb dX12_stands_5 rfl (lv_at hl 0 rfl) ?_
  refine ok_ref F K fX12_205 dX12_stands_6 ?_
  refine lv_iconst (v := 0) hx hb dX12_stands_9 kI_0 ?_
  refine lv_iload_n hx hb dX12_stands_10 rfl (lv_at hl 2 rfl) ?_
  obtain ⟨u25, hu25, hf⟩ := g_bd hf
  refine ok_iast F K t165 hu25 dX12_stands_11 (fun H locs K => ?_)
  refine lv_aload_n hx hb dX12_stands_12 rfl (lv_at hl 0 rfl) ?_
  refine ok_ref F K fX12_208 dX12_stands_13 ?_
  refine lv_iconst (v := 0) hx hb dX12_stands_16 kI_0 ?_
  refine lv_iload_n hx hb dX12_stands_17 rfl (lv_at hl 3 rfl) ?_
  obtain ⟨u26, hu26, hf⟩ := g_bd hf
  refine ok_iast F K t166 hu26 dX12_stands_18 (fun H locs K => ?_)
  exact (pX12_stands_L0  B FU).1 a0 u26 _ _ _ hf K (lv_sub hl [0, 1] rfl)
abbrev rmX12_bound : Room := { frames := 2, cells := 0, slots := 0, locals := 51 }
set_option maxRecDepth 100000 in
set_option maxHeartbeats 4000000 in
theorem pX12_bound {l : Launch} (G : Gt) {a0 : Int32} {a1 : Int32} {a2 : Int32} {r : Int32} {u u' : St} (hf : fX12_bound a0 a1 a2 u = some (r, u')) : Ctr 100 77 l yX12_bound cX12_bound 4 (some .boolean) rmX12_bound [.ref (G.1 100), .int a0, .int a1, .int a2] G u (some (.int r)) u' := by
  refine Ctr.mk (by decide) (Nat.le_of_ble_eq_true rfl) (fun p e s m below meth c A ls B K hl => ?_)
  have F := B.1
  have hx := F.1
  have hb := F.2.1
  have hl : lv_has ls 4 [(0, .ref (G.1 100)), (1, .int a0), (2, .int a1), (3, .int a2)] := hl
  unfold fX12_bound at hf
  refine lv_aload_n hx hb dX12_bound_0 rfl (lv_at hl 0 rfl) ?_
  refine lv_iload_n hx hb dX12_bound_1 rfl (lv_at hl 1 rfl) ?_
  refine lv_iload_n hx hb dX12_bound_2 rfl (lv_at hl 2 rfl) ?_
  refine lv_iload_n hx hb dX12_bound_3 rfl (lv_at hl 3 rfl) ?_
  obtain ⟨r2, u1, hu1, hf⟩ := g_b2 hf
  refine ok_calli (rest := []) F K (pX12_stands G hu1) mX12_stands oc100 lX12_564 rfl hl.1 rfl ⟨⟨rfl, rfl⟩, Nat.le_of_ble_eq_true rfl, Nat.le_of_ble_eq_true rfl⟩ (Nat.le_of_ble_eq_true rfl) dX12_bound_4 (fun H locs K => ?_)
  refine lv_if_eq (pc := 7) (tgt := 12) hx hb dX12_bound_7 (by decide) (fun c3 => ?_) (fun c3 => ?_)
  · have hf := g_pos hf c3
    refine lv_aload_n hx hb dX12_bound_12 rfl (lv_at hl 0 rfl) ?_
    refine ok_ref F K fX12_172 dX12_bound_13 ?_
    refine lv_iload_n hx hb dX12_bound_16 rfl (lv_at hl 1 rfl) ?_
    refine lv_iload_n hx hb dX12_bound_17 rfl (lv_at hl 2 rfl) ?_
    obtain ⟨u4, hu4, hf⟩ := g_bd hf
    refine ok_iast F K t154 hu4 dX12_bound_18 (fun H locs K => ?_)
    refine lv_aload_n hx hb dX12_bound_19 rfl (lv_at hl 0 rfl) ?_
    refine ok_ref F K fX12_175 dX12_bound_20 ?_
    refine lv_iload_n hx hb dX12_bound_23 rfl (lv_at hl 1 rfl) ?_
    refine lv_iload_n hx hb dX12_bound_24 rfl (lv_at hl 3 rfl) ?_
    obtain ⟨u5, hu5, hf⟩ := g_bd hf
    refine ok_iast F K t155 hu5 dX12_bound_25 (fun H locs K => ?_)
    refine lv_aload_n hx hb dX12_bound_26 rfl (lv_at hl 0 rfl) ?_
    refine ok_ref F K fX12_178 dX12_bound_27 ?_
    refine lv_aload_n hx hb dX12_bound_30 rfl (lv_at hl 0 rfl) ?_
    refine ok_int F K fX12_567 dX12_bound_31 ?_
    refine lv_iload_n hx hb dX12_bound_34 rfl (lv_at hl 1 rfl) ?_
    obtain ⟨u6, hu6, hf⟩ := g_bd hf
    refine ok_iast F K t156 hu6 dX12_bound_35 (fun H locs K => ?_)
    refine lv_aload_n hx hb dX12_bound_36 rfl (lv_at hl 0 rfl) ?_
    refine lv_dup hx hb dX12_bound_37 rfl ?_
    refine ok_int F K fX12_567 dX12_bound_38 ?_
    refine lv_iconst (v := 1) hx hb dX12_bound_41 kI_1 ?_
    refine lv_iadd hx hb dX12_bound_42 ?_
    refine ok_putI F K qX12_567 dX12_bound_43 (fun u7 H locs eu7 K => ?_)
    have hf := g_lt hf u7 eu7
    refine lv_iconst (v := 1) hx hb dX12_bound_46 kI_1 ?_
    exact ok_retz B K hf (Or.inr rfl) dX12_bound_47
  · have hf := g_neg hf c3
    refine lv_iconst (v := 0) hx hb dX12_bound_10 kI_0 ?_
    exact ok_retz B K hf (Or.inl rfl) dX12_bound_11
abbrev rmX12_endOf : Room := { frames := 0, cells := 0, slots := 0, locals := 0 }
set_option maxRecDepth 100000 in
set_option maxHeartbeats 4000000 in
theorem pX12_endOf {l : Launch} (G : Gt) {a0 : Int32} {r : Int32} {u u' : St} (hf : fX12_endOf a0 u = some (r, u')) : Ctr 100 77 l yX12_endOf cX12_endOf 2 (some .int) rmX12_endOf [.ref (G.1 100), .int a0] G u (some (.int r)) u' := by
  refine Ctr.mk (by decide) (Nat.le_of_ble_eq_true rfl) (fun p e s m below meth c A ls B K hl => ?_)
  have F := B.1
  have hx := F.1
  have hb := F.2.1
  have hl : lv_has ls 2 [(0, .ref (G.1 100)), (1, .int a0)] := hl
  unfold fX12_endOf at hf
  refine lv_aload_n hx hb dX12_endOf_0 rfl (lv_at hl 0 rfl) ?_
  refine ok_ref F K fX12_46 dX12_endOf_1 ?_
  refine lv_aload_n hx hb dX12_endOf_4 rfl (lv_at hl 0 rfl) ?_
  refine ok_ref F K fX12_40 dX12_endOf_5 ?_
  refine lv_iload_n hx hb dX12_endOf_8 rfl (lv_at hl 1 rfl) ?_
  obtain ⟨v1, hv1, hf⟩ := g_bd hf
  refine ok_iald F K t110 hv1 dX12_endOf_9 ?_
  obtain ⟨v2, hv2, hf⟩ := g_bd hf
  refine ok_iald F K t112 hv2 dX12_endOf_10 ?_
  exact ok_reti B K hf dX12_endOf_11
abbrev rmX12_clause : Room := { frames := 1, cells := 0, slots := 0, locals := 22 }
set_option maxRecDepth 100000 in
set_option maxHeartbeats 4000000 in
theorem pX12_clause_L0 {p : Program} {l : Launch} {e : Env} {s : State} {m : MethodId} {below : List Frame} {meth : Method} {c : Code} {A : Nat → Prop} {G : Gt} {a0 : Int32} {a1 : Int32} {r : Int32} {u' : St} (B : Bd p s m [.ref (G.1 100), .int a0, .int a1] meth c yX12_clause cX12_clause 5 (some .int)) (n : Nat) : (∀ (x1_ : Int32) (x2_ : Int32) (x3_ : Int32) (x4_ : Int32) (u : St) (H : Heap) (locs : List Loc) (ls : Array Slot), fX12_clause_L0  n 0 x1_ x2_ x3_ x4_ u = some (r, u') → Ok 100 77 G A s u H locs → lv_has ls 5 [(0, .ref (G.1 100)), (1, .int x1_), (2, .int x2_), (3, .int x3_), (4, .int x4_)] → W p l e rmX12_clause s m ([.ref (G.1 100), .int a0, .int a1] : List Value).toArray below meth c H locs 0 0 (MQ below (Qg 100 77 G A (some (.int r)) u') ([.ref (G.1 100), .int a0, .int a1] : List Value).toArray s 0 0 A) (F0 m 43 ls [])) := by
  have F := B.1
  have hx := F.1
  have hb := F.2.1
  induction n with
  | zero => exact fun _ _ _ _ _ _ _ _ hf => g_no hf
  | succ n ih =>
    refine ?_
    · intro x1_ x2_ x3_ x4_ u H locs ls hf K hl
      have hf : fX12_clause_L0_0  (fX12_clause_L0  n) x1_ x2_ x3_ x4_ u = some (r, u') := hf
      unfold fX12_clause_L0_0 at hf
      refine lv_iload hx hb dX12_clause_43 (lv_at hl 4 rfl) ?_
      refine lv_aload_n hx hb dX12_clause_45 rfl (lv_at hl 0 rfl) ?_
      refine ok_ref F K fX12_28 dX12_clause_46 ?_
      refine lv_iload_n hx hb dX12_clause_49 rfl (lv_at hl 1 rfl) ?_
      obtain ⟨v1, hv1, hf⟩ := g_bd hf
      refine ok_iald F K t106 hv1 dX12_clause_50 ?_
      refine lv_aload_n hx hb dX12_clause_51 rfl (lv_at hl 0 rfl) ?_
      refine ok_ref F K fX12_31 dX12_clause_52 ?_
      refine lv_iload_n hx hb dX12_clause_55 rfl (lv_at hl 1 rfl) ?_
      obtain ⟨v2, hv2, hf⟩ := g_bd hf
      refine ok_iald F K t107 hv2 dX12_clause_56 ?_
      refine lv_iadd hx hb dX12_clause_57 ?_
      refine lv_icmp_ge (pc := 58) (tgt := 84) hx hb dX12_clause_58 (by decide) (fun c3 => ?_) (fun c3 => ?_)
      · have hf := g_pos hf c3
        refine lv_iload_n hx hb dX12_clause_84 rfl (lv_at hl 2 rfl) ?_
        refine lv_if_ne (pc := 85) (tgt := 97) hx hb dX12_clause_85 (by decide) (fun c4 => ?_) (fun c4 => ?_)
        · have hf := g_neg hf c4
          refine lv_iload_n hx hb dX12_clause_97 rfl (lv_at hl 2 rfl) ?_
          refine lv_iconst (v := 1) hx hb dX12_clause_98 kI_1 ?_
          refine lv_icmp_ne (pc := 99) (tgt := 111) hx hb dX12_clause_99 (by decide) (fun c5 => ?_) (fun c5 => ?_)
          · have hf := g_neg hf c5
            refine lv_iload_n hx hb dX12_clause_111 rfl (lv_at hl 3 rfl) ?_
            exact ok_reti B K hf dX12_clause_112
          · have hf := g_pos hf c5
            refine lv_aload_n hx hb dX12_clause_102 rfl (lv_at hl 0 rfl) ?_
            refine ok_ref F K fX12_34 dX12_clause_103 ?_
            refine lv_iload_n hx hb dX12_clause_106 rfl (lv_at hl 1 rfl) ?_
            obtain ⟨v6, hv6, hf⟩ := g_bd hf
            refine ok_iald F K t108 hv6 dX12_clause_107 ?_
            refine lv_goto (pc := 108) (tgt := 112) hx hb dX12_clause_108 (by decide) ?_
            exact ok_reti B K hf dX12_clause_112
        · have hf := g_pos hf c4
          refine lv_aload_n hx hb dX12_clause_88 rfl (lv_at hl 0 rfl) ?_
          refine ok_ref F K fX12_31 dX12_clause_89 ?_
          refine lv_iload_n hx hb dX12_clause_92 rfl (lv_at hl 1 rfl) ?_
          obtain ⟨v7, hv7, hf⟩ := g_bd hf
          refine ok_iald F K t107 hv7 dX12_clause_93 ?_
          refine lv_goto (pc := 94) (tgt := 112) hx hb dX12_clause_94 (by decide) ?_
          exact ok_reti B K hf dX12_clause_112
      · have hf := g_neg hf c3
        refine lv_iload_n hx hb dX12_clause_61 rfl (lv_at hl 3 rfl) ?_
        refine lv_aload_n hx hb dX12_clause_62 rfl (lv_at hl 0 rfl) ?_
        refine lv_iload hx hb dX12_clause_63 (lv_at hl 4 rfl) ?_
        obtain ⟨r9, u8, hu8, hf⟩ := g_b2 hf
        refine ok_calli (rest := [.int x3_]) F K (pX12_endOf G hu8) mX12_endOf oc100 lX12_493 rfl hl.1 rfl ⟨⟨rfl, rfl⟩, Nat.le_of_ble_eq_true rfl, Nat.le_of_ble_eq_true rfl⟩ (Nat.le_of_ble_eq_true rfl) dX12_clause_65 (fun H locs K => ?_)
        refine lv_aload_n hx hb dX12_clause_68 rfl (lv_at hl 0 rfl) ?_
        refine ok_ref F K fX12_40 dX12_clause_69 ?_
        refine lv_iload hx hb dX12_clause_72 (lv_at hl 4 rfl) ?_
        obtain ⟨v10, hv10, hf⟩ := g_bd hf
        refine ok_iald F K t110 hv10 dX12_clause_74 ?_
        refine lv_isub hx hb dX12_clause_75 ?_
        refine lv_iadd hx hb dX12_clause_76 ?_
        refine lv_topi (fun x11 ex11 => ?_)
        have hf := g_lt hf x11 ex11
        refine lv_istore_n (lv' := [(3, .int x11), (0, .ref (G.1 100)), (1, .int x1_), (2, .int x2_), (4, .int x4_)]) hx hb dX12_clause_77 rfl hl (by decide) rfl (fun ls hl => ?_)
        obtain ⟨x12, ex12⟩ : ∃ y : Int32, y = x4_ + 1 := ⟨_, rfl⟩
        have hf := g_lt hf x12 ex12
        refine lv_iinc (v := x12) (lv' := [(4, .int x12), (3, .int x11), (0, .ref (G.1 100)), (1, .int x1_), (2, .int x2_)]) hx hb dX12_clause_78 hl (k := 4) rfl (by rw [kI_1, ex12]) (by decide) rfl (fun ls hl => ?_)
        refine lv_goto (pc := 81) (tgt := 43) hx hb dX12_clause_81 (by decide) ?_
        exact ih x1_ x2_ x11 x12 u8 _ _ _ hf K (lv_sub hl [2, 3, 4, 1, 0] rfl)
set_option maxRecDepth 100000 in
set_option maxHeartbeats 4000000 in
theorem pX12_clause {l : Launch} (G : Gt) {a0 : Int32} {a1 : Int32} {r : Int32} {u u' : St} (hf : fX12_clause a0 a1 u = some (r, u')) : Ctr 100 77 l yX12_clause cX12_clause 5 (some .int) rmX12_clause [.ref (G.1 100), .int a0, .int a1] G u (some (.int r)) u' := by
  refine Ctr.mk (by decide) (Nat.le_of_ble_eq_true rfl) (fun p e s m below meth c A ls B K hl => ?_)
  have F := B.1
  have hx := F.1
  have hb := F.2.1
  have hl : lv_has ls 5 [(0, .ref (G.1 100)), (1, .int a0), (2, .int a1)] := hl
  unfold fX12_clause at hf
  refine lv_aload_n hx hb dX12_clause_0 rfl (lv_at hl 0 rfl) ?_
  refine lv_iconst (v := 0) hx hb dX12_clause_1 kI_0 ?_
  refine ok_putI F K qX12_241 dX12_clause_2 (fun u13 H locs eu13 K => ?_)
  have hf := g_lt hf u13 eu13
  refine lv_iload_n hx hb dX12_clause_5 rfl (lv_at hl 1 rfl) ?_
  refine lv_iconst (v := 0) hx hb dX12_clause_6 kI_0 ?_
  refine lv_aload_n hx hb dX12_clause_7 rfl (lv_at hl 0 rfl) ?_
  refine ok_int F K fX12_445 dX12_clause_8 ?_
  refine lv_iconst (v := 1) hx hb dX12_clause_11 kI_1 ?_
  refine lv_isub hx hb dX12_clause_12 ?_
  obtain ⟨r15, u14, hu14, hf⟩ := g_b2 hf
  refine ok_callsi (rest := []) F K (pX12_in G hu14) mX12_in lX12_245 rfl hl.1 rfl ⟨⟨rfl, rfl⟩, Nat.le_of_ble_eq_true rfl, Nat.le_of_ble_eq_true rfl⟩ (Nat.le_of_ble_eq_true rfl) dX12_clause_13 (fun H locs K => ?_)
  refine lv_if_ne (pc := 16) (tgt := 21) hx hb dX12_clause_16 (by decide) (fun c16 => ?_) (fun c16 => ?_)
  · have hf := g_neg hf c16
    refine lv_iload_n hx hb dX12_clause_21 rfl (lv_at hl 2 rfl) ?_
    refine lv_iconst (v := 0) hx hb dX12_clause_22 kI_0 ?_
    refine lv_iconst (v := 2) hx hb dX12_clause_23 kI_2 ?_
    obtain ⟨r18, u17, hu17, hf⟩ := g_b2 hf
    refine ok_callsi (rest := []) F K (pX12_in G hu17) mX12_in lX12_245 rfl hl.1 rfl ⟨⟨rfl, rfl⟩, Nat.le_of_ble_eq_true rfl, Nat.le_of_ble_eq_true rfl⟩ (Nat.le_of_ble_eq_true rfl) dX12_clause_24 (fun H locs K => ?_)
    refine lv_if_ne (pc := 27) (tgt := 33) hx hb dX12_clause_27 (by decide) (fun c19 => ?_) (fun c19 => ?_)
    · have hf := g_neg hf c19
      refine lv_iconst (v := 0) hx hb dX12_clause_33 kI_0 ?_
      refine lv_topi (fun x20 ex20 => ?_)
      have hf := g_lt hf x20 ex20
      refine lv_istore_n (lv' := [(3, .int x20), (0, .ref (G.1 100)), (1, .int a0), (2, .int a1)]) hx hb dX12_clause_34 rfl hl (by decide) rfl (fun ls hl => ?_)
      refine lv_aload_n hx hb dX12_clause_35 rfl (lv_at hl 1 rfl) ?_
      refine ok_ref F K fX12_28 dX12_clause_36 ?_
      refine lv_iload_n hx hb dX12_clause_39 rfl (lv_at hl 2 rfl) ?_
      obtain ⟨v21, hv21, hf⟩ := g_bd hf
      refine ok_iald F K t106 hv21 dX12_clause_40 ?_
      refine lv_istore (lv' := [(4, .int v21), (3, .int x20), (0, .ref (G.1 100)), (1, .int a0), (2, .int a1)]) hx hb dX12_clause_41 hl (by decide) rfl (fun ls hl => ?_)
      exact (pX12_clause_L0  B FU) a0 a1 x20 v21 u17 _ _ _ hf K (lv_sub hl [2, 3, 4, 1, 0] rfl)
    · have hf := g_pos hf c19
      refine lv_bipush (v := (-2)) hx hb dX12_clause_30 kB_m2 ?_
      exact ok_reti B K hf dX12_clause_32
  · have hf := g_pos hf c16
    refine lv_iconst (v := (-1)) hx hb dX12_clause_19 kI_m1 ?_
    exact ok_reti B K hf dX12_clause_20
abbrev rmX12_put : Room := { frames := 0, cells := 0, slots := 0, locals := 0 }
set_option maxRecDepth 100000 in
set_option maxHeartbeats 4000000 in
theorem pX12_put_j21 {p : Program} {l : Launch} {e : Env} {s : State} {m : MethodId} {below : List Frame} {meth : Method} {c : Code} {A : Nat → Prop} {G : Gt} {a0 : Int32} {u' : St} (B : Bd p s m [.ref (G.1 100), .int a0] meth c yX12_put cX12_put 2 none) (u : St) (H : Heap) (locs : List Loc) (ls : Array Slot) (hf : fX12_put_j21  u = some u') (K : Ok 100 77 G A s u H locs) (hl : lv_has ls 2 [(0, .ref (G.1 100))]) : W p l e rmX12_put s m ([.ref (G.1 100), .int a0] : List Value).toArray below meth c H locs 0 0 (MQ below (Qg 100 77 G A none u') ([.ref (G.1 100), .int a0] : List Value).toArray s 0 0 A) (F0 m 21 ls []) := by
  have F := B.1
  have hx := F.1
  have hb := F.2.1
  unfold fX12_put_j21 at hf
  refine lv_aload_n hx hb dX12_put_21 rfl (lv_at hl 0 rfl) ?_
  refine lv_dup hx hb dX12_put_22 rfl ?_
  refine ok_int F K fX12_496 dX12_put_23 ?_
  refine lv_iconst (v := 1) hx hb dX12_put_26 kI_1 ?_
  refine lv_iadd hx hb dX12_put_27 ?_
  refine ok_putI F K qX12_496 dX12_put_28 (fun u1 H locs eu1 K => ?_)
  have hf := g_lt hf u1 eu1
  exact ok_retv B K hf dX12_put_31
set_option maxRecDepth 100000 in
set_option maxHeartbeats 4000000 in
theorem pX12_put {l : Launch} (G : Gt) {a0 : Int32} {u u' : St} (hf : fX12_put a0 u = some u') : Ctr 100 77 l yX12_put cX12_put 2 none rmX12_put [.ref (G.1 100), .int a0] G u none u' := by
  refine Ctr.mk (by decide) (Nat.le_of_ble_eq_true rfl) (fun p e s m below meth c A ls B K hl => ?_)
  have F := B.1
  have hx := F.1
  have hb := F.2.1
  have hl : lv_has ls 2 [(0, .ref (G.1 100)), (1, .int a0)] := hl
  unfold fX12_put at hf
  refine lv_aload_n hx hb dX12_put_0 rfl (lv_at hl 0 rfl) ?_
  refine ok_int F K fX12_496 dX12_put_1 ?_
  refine lv_sipush (v := 4100) hx hb dX12_put_4 kS_4100 ?_
  refine lv_icmp_ge (pc := 7) (tgt := 21) hx hb dX12_put_7 (by decide) (fun c2 => ?_) (fun c2 => ?_)
  · have hf := g_pos hf c2
    exact pX12_put_j21  B  u _ _ _ hf K (lv_sub hl [0] rfl)
  · have hf := g_neg hf c2
    refine lv_aload_n hx hb dX12_put_10 rfl (lv_at hl 0 rfl) ?_
    refine ok_ref F K fX12_145 dX12_put_11 ?_
    refine lv_aload_n hx hb dX12_put_14 rfl (lv_at hl 0 rfl) ?_
    refine ok_int F K fX12_496 dX12_put_15 ?_
    refine lv_iload_n hx hb dX12_put_18 rfl (lv_at hl 1 rfl) ?_
    refine lv_i2b hx hb dX12_put_19 rfl ?_
    obtain ⟨u3, hu3, hf⟩ := g_bd hf
    refine ok_bast F K t145 hu3 dX12_put_20 (fun H locs K => ?_)
    exact pX12_put_j21  B  u3 _ _ _ hf K (lv_sub hl [0] rfl)
abbrev rmX12_later : Room := { frames := 0, cells := 0, slots := 0, locals := 0 }
set_option maxRecDepth 100000 in
set_option maxHeartbeats 4000000 in
theorem pX12_later {l : Launch} (G : Gt) {a0 : Int32} {a1 : Int32} {u u' : St} (hf : fX12_later a0 a1 u = some u') : Ctr 100 77 l yX12_later cX12_later 3 none rmX12_later [.ref (G.1 100), .int a0, .int a1] G u none u' := by
  refine Ctr.mk (by decide) (Nat.le_of_ble_eq_true rfl) (fun p e s m below meth c A ls B K hl => ?_)
  have F := B.1
  have hx := F.1
  have hb := F.2.1
  have hl : lv_has ls 3 [(0, .ref (G.1 100)), (1, .int a0), (2, .int a1)] := hl
  unfold fX12_later at hf
  refine lv_aload_n hx hb dX12_later_0 rfl (lv_at hl 0 rfl) ?_
  refine ok_ref F K fX12_151 dX12_later_1 ?_
  refine lv_aload_n hx hb dX12_later_4 rfl (lv_at hl 0 rfl) ?_
  refine ok_int F K fX12_510 dX12_later_5 ?_
  refine lv_iload_n hx hb dX12_later_8 rfl (lv_at hl 1 rfl) ?_
  obtain ⟨u1, hu1, hf⟩ := g_bd hf
  refine ok_iast F K t147 hu1 dX12_later_9 (fun H locs K => ?_)
  refine lv_aload_n hx hb dX12_later_10 rfl (lv_at hl 0 rfl) ?_
  refine ok_ref F K fX12_154 dX12_later_11 ?_
  refine lv_aload_n hx hb dX12_later_14 rfl (lv_at hl 0 rfl) ?_
  refine ok_int F K fX12_510 dX12_later_15 ?_
  refine lv_iload_n hx hb dX12_later_18 rfl (lv_at hl 2 rfl) ?_
  obtain ⟨u2, hu2, hf⟩ := g_bd hf
  refine ok_iast F K t148 hu2 dX12_later_19 (fun H locs K => ?_)
  refine lv_aload_n hx hb dX12_later_20 rfl (lv_at hl 0 rfl) ?_
  refine lv_dup hx hb dX12_later_21 rfl ?_
  refine ok_int F K fX12_510 dX12_later_22 ?_
  refine lv_iconst (v := 1) hx hb dX12_later_25 kI_1 ?_
  refine lv_iadd hx hb dX12_later_26 ?_
  refine ok_putI F K qX12_510 dX12_later_27 (fun u3 H locs eu3 K => ?_)
  have hf := g_lt hf u3 eu3
  exact ok_retv B K hf dX12_later_30
abbrev rmX12_decimal : Room := { frames := 1, cells := 0, slots := 0, locals := 21 }
set_option maxRecDepth 100000 in
set_option maxHeartbeats 4000000 in
theorem pX12_decimal_L0 {p : Program} {l : Launch} {e : Env} {s : State} {m : MethodId} {below : List Frame} {meth : Method} {c : Code} {A : Nat → Prop} {G : Gt} {a0 : Int32} {u' : St} (B : Bd p s m [.ref (G.1 100), .int a0] meth c yX12_decimal cX12_decimal 3 none) (n : Nat) : (∀ (x1_ : Int32) (x2_ : Int32) (u : St) (H : Heap) (locs : List Loc) (ls : Array Slot), fX12_decimal_L0  n 0 x1_ x2_ u = some u' → Ok 100 77 G A s u H locs → lv_has ls 3 [(0, .ref (G.1 100)), (1, .int x1_), (2, .int x2_)] → W p l e rmX12_decimal s m ([.ref (G.1 100), .int a0] : List Value).toArray below meth c H locs 0 0 (MQ below (Qg 100 77 G A none u') ([.ref (G.1 100), .int a0] : List Value).toArray s 0 0 A) (F0 m 18 ls [])) := by
  have F := B.1
  have hx := F.1
  have hb := F.2.1
  induction n with
  | zero => exact fun _ _ _ _ _ _ hf => g_no hf
  | succ n ih =>
    refine ?_
    · intro x1_ x2_ u H locs ls hf K hl
      have hf : fX12_decimal_L0_0  (fX12_decimal_L0  n) x1_ x2_ u = some u' := hf
      unfold fX12_decimal_L0_0 at hf
      refine lv_iload_n hx hb dX12_decimal_18 rfl (lv_at hl 2 rfl) ?_
      refine lv_if_le (pc := 19) (tgt := 43) hx hb dX12_decimal_19 (by decide) (fun c1 => ?_) (fun c1 => ?_)
      · have hf := g_pos hf c1
        exact ok_retv B K hf dX12_decimal_43
      · have hf := g_neg hf c1
        refine lv_aload_n hx hb dX12_decimal_22 rfl (lv_at hl 0 rfl) ?_
        refine lv_bipush (v := 48) hx hb dX12_decimal_23 kB_48 ?_
        refine lv_iload_n hx hb dX12_decimal_25 rfl (lv_at hl 1 rfl) ?_
        refine lv_iload_n hx hb dX12_decimal_26 rfl (lv_at hl 2 rfl) ?_
        obtain ⟨z2, hz2, hf⟩ := g_bd hf
        refine lv_idiv hx hb dX12_decimal_27 (g_nz hz2).2 ?_
        refine lv_bipush (v := 10) hx hb dX12_decimal_28 kB_10 ?_
        refine lv_irem hx hb dX12_decimal_30 (by decide) ?_
        refine lv_iadd hx hb dX12_decimal_31 ?_
        obtain ⟨u3, hu3, hf⟩ := g_bd hf
        refine ok_callv (rest := []) F K (pX12_put G hu3) mX12_put oc100 lX12_499 rfl hl.1 rfl ⟨⟨rfl, rfl⟩, Nat.le_of_ble_eq_true rfl, Nat.le_of_ble_eq_true rfl⟩ (Nat.le_of_ble_eq_true rfl) dX12_decimal_32 (fun H locs K => ?_)
        refine lv_iload_n hx hb dX12_decimal_35 rfl (lv_at hl 2 rfl) ?_
        refine lv_bipush (v := 10) hx hb dX12_decimal_36 kB_10 ?_
        refine lv_idiv hx hb dX12_decimal_38 (by decide) ?_
        refine lv_topi (fun x4 ex4 => ?_)
        have hf := g_lt hf x4 ex4
        refine lv_istore_n (lv' := [(2, .int x4), (0, .ref (G.1 100)), (1, .int x1_)]) hx hb dX12_decimal_39 rfl hl (by decide) rfl (fun ls hl => ?_)
        refine lv_goto (pc := 40) (tgt := 18) hx hb dX12_decimal_40 (by decide) ?_
        exact ih x1_ x4 u3 _ _ _ hf K (lv_sub hl [1, 2, 0] rfl)
set_option maxRecDepth 100000 in
set_option maxHeartbeats 4000000 in
theorem pX12_decimal_L1 {p : Program} {l : Launch} {e : Env} {s : State} {m : MethodId} {below : List Frame} {meth : Method} {c : Code} {A : Nat → Prop} {G : Gt} {a0 : Int32} {u' : St} (B : Bd p s m [.ref (G.1 100), .int a0] meth c yX12_decimal cX12_decimal 3 none) (n : Nat) : (∀ (x1_ : Int32) (x2_ : Int32) (u : St) (H : Heap) (locs : List Loc) (ls : Array Slot), fX12_decimal_L1  n 0 x1_ x2_ u = some u' → Ok 100 77 G A s u H locs → lv_has ls 3 [(0, .ref (G.1 100)), (1, .int x1_), (2, .int x2_)] → W p l e rmX12_decimal s m ([.ref (G.1 100), .int a0] : List Value).toArray below meth c H locs 0 0 (MQ below (Qg 100 77 G A none u') ([.ref (G.1 100), .int a0] : List Value).toArray s 0 0 A) (F0 m 2 ls [])) := by
  have F := B.1
  have hx := F.1
  have hb := F.2.1
  induction n with
  | zero => exact fun _ _ _ _ _ _ hf => g_no hf
  | succ n ih =>
    refine ?_
    · intro x1_ x2_ u H locs ls hf K hl
      have hf : fX12_decimal_L1_0  (fX12_decimal_L1  n) x1_ x2_ u = some u' := hf
      unfold fX12_decimal_L1_0 at hf
      refine lv_iload_n hx hb dX12_decimal_2 rfl (lv_at hl 1 rfl) ?_
      refine lv_iload_n hx hb dX12_decimal_3 rfl (lv_at hl 2 rfl) ?_
      obtain ⟨z5, hz5, hf⟩ := g_bd hf
      refine lv_idiv hx hb dX12_decimal_4 (g_nz hz5).2 ?_
      refine lv_bipush (v := 9) hx hb dX12_decimal_5 kB_9 ?_
      refine lv_icmp_le (pc := 7) (tgt := 18) hx hb dX12_decimal_7 (by decide) (fun c6 => ?_) (fun c6 => ?_)
      · have hf := g_pos hf c6
        exact (pX12_decimal_L0  B FU) x1_ x2_ u _ _ _ hf K (lv_sub hl [0, 1, 2] rfl)
      · have hf := g_neg hf c6
        refine lv_iload_n hx hb dX12_decimal_10 rfl (lv_at hl 2 rfl) ?_
        refine lv_bipush (v := 10) hx hb dX12_decimal_11 kB_10 ?_
        refine lv_imul hx hb dX12_decimal_13 ?_
        refine lv_topi (fun x7 ex7 => ?_)
        have hf := g_lt hf x7 ex7
        refine lv_istore_n (lv' := [(2, .int x7), (0, .ref (G.1 100)), (1, .int x1_)]) hx hb dX12_decimal_14 rfl hl (by decide) rfl (fun ls hl => ?_)
        refine lv_goto (pc := 15) (tgt := 2) hx hb dX12_decimal_15 (by decide) ?_
        exact ih x1_ x7 u _ _ _ hf K (lv_sub hl [1, 2, 0] rfl)
set_option maxRecDepth 100000 in
set_option maxHeartbeats 4000000 in
theorem pX12_decimal {l : Launch} (G : Gt) {a0 : Int32} {u u' : St} (hf : fX12_decimal a0 u = some u') : Ctr 100 77 l yX12_decimal cX12_decimal 3 none rmX12_decimal [.ref (G.1 100), .int a0] G u none u' := by
  refine Ctr.mk (by decide) (Nat.le_of_ble_eq_true rfl) (fun p e s m below meth c A ls B K hl => ?_)
  have F := B.1
  have hx := F.1
  have hb := F.2.1
  have hl : lv_has ls 3 [(0, .ref (G.1 100)), (1, .int a0)] := hl
  unfold fX12_decimal at hf
  refine lv_iconst (v := 1) hx hb dX12_decimal_0 kI_1 ?_
  refine lv_topi (fun x8 ex8 => ?_)
  have hf := g_lt hf x8 ex8
  refine lv_istore_n (lv' := [(2, .int x8), (0, .ref (G.1 100)), (1, .int a0)]) hx hb dX12_decimal_1 rfl hl (by decide) rfl (fun ls hl => ?_)
  exact (pX12_decimal_L1  B FU) a0 x8 u _ _ _ hf K (lv_sub hl [1, 2, 0] rfl)
abbrev rmX12_variableOut : Room := { frames := 2, cells := 0, slots := 0, locals := 43 }
set_option maxRecDepth 100000 in
set_option maxHeartbeats 4000000 in
theorem pX12_variableOut_j42 {p : Program} {l : Launch} {e : Env} {s : State} {m : MethodId} {below : List Frame} {meth : Method} {c : Code} {A : Nat → Prop} {G : Gt} {a0 : Int32} {a1 : Int32} {u' : St} (B : Bd p s m [.ref (G.1 100), .int a0, .int a1] meth c yX12_variableOut cX12_variableOut 4 none) (x1_ : Int32) (x3_ : Int32) (u : St) (H : Heap) (locs : List Loc) (ls : Array Slot) (hf : fX12_variableOut_j42 x1_ x3_ u = some u') (K : Ok 100 77 G A s u H locs) (hl : lv_has ls 4 [(0, .ref (G.1 100)), (1, .int x1_), (3, .int x3_)]) : W p l e rmX12_variableOut s m ([.ref (G.1 100), .int a0, .int a1] : List Value).toArray below meth c H locs 0 0 (MQ below (Qg 100 77 G A none u') ([.ref (G.1 100), .int a0, .int a1] : List Value).toArray s 0 0 A) (F0 m 42 ls []) := by
  have F := B.1
  have hx := F.1
  have hb := F.2.1
  unfold fX12_variableOut_j42 at hf
  refine lv_aload_n hx hb dX12_variableOut_42 rfl (lv_at hl 0 rfl) ?_
  refine ok_ref F K fX12_148 dX12_variableOut_43 ?_
  refine lv_iload_n hx hb dX12_variableOut_46 rfl (lv_at hl 2 rfl) ?_
  refine lv_iload_n hx hb dX12_variableOut_47 rfl (lv_at hl 1 rfl) ?_
  obtain ⟨u1, hu1, hf⟩ := g_bd hf
  refine ok_iast F K t146 hu1 dX12_variableOut_48 (fun H locs K => ?_)
  refine lv_aload_n hx hb dX12_variableOut_49 rfl (lv_at hl 0 rfl) ?_
  refine lv_dup hx hb dX12_variableOut_50 rfl ?_
  refine ok_int F K fX12_513 dX12_variableOut_51 ?_
  refine lv_iload_n hx hb dX12_variableOut_54 rfl (lv_at hl 2 rfl) ?_
  refine lv_aload_n hx hb dX12_variableOut_55 rfl (lv_at hl 0 rfl) ?_
  refine ok_int F K fX12_513 dX12_variableOut_56 ?_
  refine lv_icmp_ne (pc := 59) (tgt := 66) hx hb dX12_variableOut_59 (by decide) (fun c2 => ?_) (fun c2 => ?_)
  · have hf := g_neg hf c2
    refine lv_iconst (v := 0) hx hb dX12_variableOut_66 kI_0 ?_
    refine lv_iadd hx hb dX12_variableOut_67 ?_
    refine ok_putI F K qX12_513 dX12_variableOut_68 (fun u3 H locs eu3 K => ?_)
    have hf := g_lt hf u3 eu3
    refine lv_aload_n hx hb dX12_variableOut_71 rfl (lv_at hl 0 rfl) ?_
    refine lv_iload_n hx hb dX12_variableOut_72 rfl (lv_at hl 2 rfl) ?_
    obtain ⟨u4, hu4, hf⟩ := g_bd hf
    refine ok_callv (rest := []) F K (pX12_decimal G hu4) mX12_decimal oc100 lX12_502 rfl hl.1 rfl ⟨⟨rfl, rfl⟩, Nat.le_of_ble_eq_true rfl, Nat.le_of_ble_eq_true rfl⟩ (Nat.le_of_ble_eq_true rfl) dX12_variableOut_73 (fun H locs K => ?_)
    exact ok_retv B K hf dX12_variableOut_76
  · have hf := g_pos hf c2
    refine lv_iconst (v := 1) hx hb dX12_variableOut_62 kI_1 ?_
    refine lv_goto (pc := 63) (tgt := 67) hx hb dX12_variableOut_63 (by decide) ?_
    refine lv_iadd hx hb dX12_variableOut_67 ?_
    refine ok_putI F K qX12_513 dX12_variableOut_68 (fun u5 H locs eu5 K => ?_)
    have hf := g_lt hf u5 eu5
    refine lv_aload_n hx hb dX12_variableOut_71 rfl (lv_at hl 0 rfl) ?_
    refine lv_iload_n hx hb dX12_variableOut_72 rfl (lv_at hl 2 rfl) ?_
    obtain ⟨u6, hu6, hf⟩ := g_bd hf
    refine ok_callv (rest := []) F K (pX12_decimal G hu6) mX12_decimal oc100 lX12_502 rfl hl.1 rfl ⟨⟨rfl, rfl⟩, Nat.le_of_ble_eq_true rfl, Nat.le_of_ble_eq_true rfl⟩ (Nat.le_of_ble_eq_true rfl) dX12_variableOut_73 (fun H locs K => ?_)
    exact ok_retv B K hf dX12_variableOut_76
set_option maxRecDepth 100000 in
set_option maxHeartbeats 4000000 in
theorem pX12_variableOut_L0 {p : Program} {l : Launch} {e : Env} {s : State} {m : MethodId} {below : List Frame} {meth : Method} {c : Code} {A : Nat → Prop} {G : Gt} {a0 : Int32} {a1 : Int32} {u' : St} (B : Bd p s m [.ref (G.1 100), .int a0, .int a1] meth c yX12_variableOut cX12_variableOut 4 none) (n : Nat) : (∀ (x1_ : Int32) (x3_ : Int32) (u : St) (H : Heap) (locs : List Loc) (ls : Array Slot), fX12_variableOut_L0  n 0 x1_ x3_ u = some u' → Ok 100 77 G A s u H locs → lv_has ls 4 [(0, .ref (G.1 100)), (1, .int x1_), (3, .int x3_)] → W p l e rmX12_variableOut s m ([.ref (G.1 100), .int a0, .int a1] : List Value).toArray below meth c H locs 0 0 (MQ below (Qg 100 77 G A none u') ([.ref (G.1 100), .int a0, .int a1] : List Value).toArray s 0 0 A) (F0 m 18 ls [])) := by
  have F := B.1
  have hx := F.1
  have hb := F.2.1
  induction n with
  | zero => exact fun _ _ _ _ _ _ hf => g_no hf
  | succ n ih =>
    refine ?_
    · intro x1_ x3_ u H locs ls hf K hl
      have hf : fX12_variableOut_L0_0  (fX12_variableOut_L0  n) x1_ x3_ u = some u' := hf
      unfold fX12_variableOut_L0_0 at hf
      refine lv_iload_n hx hb dX12_variableOut_18 rfl (lv_at hl 2 rfl) ?_
      refine lv_aload_n hx hb dX12_variableOut_19 rfl (lv_at hl 0 rfl) ?_
      refine ok_int F K fX12_513 dX12_variableOut_20 ?_
      refine lv_icmp_ge (pc := 23) (tgt := 42) hx hb dX12_variableOut_23 (by decide) (fun c7 => ?_) (fun c7 => ?_)
      · have hf := g_pos hf c7
        exact pX12_variableOut_j42  B x1_ x3_ u _ _ _ hf K (lv_sub hl [0, 1, 2] rfl)
      · have hf := g_neg hf c7
        refine lv_aload_n hx hb dX12_variableOut_26 rfl (lv_at hl 0 rfl) ?_
        refine ok_ref F K fX12_148 dX12_variableOut_27 ?_
        refine lv_iload_n hx hb dX12_variableOut_30 rfl (lv_at hl 2 rfl) ?_
        obtain ⟨v8, hv8, hf⟩ := g_bd hf
        refine ok_iald F K t146 hv8 dX12_variableOut_31 ?_
        refine lv_iload_n hx hb dX12_variableOut_32 rfl (lv_at hl 1 rfl) ?_
        refine lv_icmp_eq (pc := 33) (tgt := 42) hx hb dX12_variableOut_33 (by decide) (fun c9 => ?_) (fun c9 => ?_)
        · have hf := g_pos hf c9
          exact pX12_variableOut_j42  B x1_ x3_ u _ _ _ hf K (lv_sub hl [0, 1, 2] rfl)
        · have hf := g_neg hf c9
          obtain ⟨x10, ex10⟩ : ∃ y : Int32, y = x3_ + 1 := ⟨_, rfl⟩
          have hf := g_lt hf x10 ex10
          refine lv_iinc (v := x10) (lv' := [(3, .int x10), (0, .ref (G.1 100)), (1, .int x1_)]) hx hb dX12_variableOut_36 hl (k := 2) rfl (by rw [kI_1, ex10]) (by decide) rfl (fun ls hl => ?_)
          refine lv_goto (pc := 39) (tgt := 18) hx hb dX12_variableOut_39 (by decide) ?_
          exact ih x1_ x10 u _ _ _ hf K (lv_sub hl [1, 2, 0] rfl)
set_option maxRecDepth 100000 in
set_option maxHeartbeats 4000000 in
theorem pX12_variableOut {l : Launch} (G : Gt) {a0 : Int32} {a1 : Int32} {u u' : St} (hf : fX12_variableOut a0 a1 u = some u') : Ctr 100 77 l yX12_variableOut cX12_variableOut 4 none rmX12_variableOut [.ref (G.1 100), .int a0, .int a1] G u none u' := by
  refine Ctr.mk (by decide) (Nat.le_of_ble_eq_true rfl) (fun p e s m below meth c A ls B K hl => ?_)
  have F := B.1
  have hx := F.1
  have hb := F.2.1
  have hl : lv_has ls 4 [(0, .ref (G.1 100)), (1, .int a0), (2, .int a1)] := hl
  unfold fX12_variableOut at hf
  refine lv_aload_n hx hb dX12_variableOut_0 rfl (lv_at hl 0 rfl) ?_
  refine lv_bipush (v := 88) hx hb dX12_variableOut_1 kB_88 ?_
  obtain ⟨u11, hu11, hf⟩ := g_bd hf
  refine ok_callv (rest := []) F K (pX12_put G hu11) mX12_put oc100 lX12_499 rfl hl.1 rfl ⟨⟨rfl, rfl⟩, Nat.le_of_ble_eq_true rfl, Nat.le_of_ble_eq_true rfl⟩ (Nat.le_of_ble_eq_true rfl) dX12_variableOut_3 (fun H locs K => ?_)
  refine lv_iload_n hx hb dX12_variableOut_6 rfl (lv_at hl 2 rfl) ?_
  refine lv_if_eq (pc := 7) (tgt := 16) hx hb dX12_variableOut_7 (by decide) (fun c12 => ?_) (fun c12 => ?_)
  · have hf := g_pos hf c12
    refine lv_iconst (v := 0) hx hb dX12_variableOut_16 kI_0 ?_
    refine lv_topi (fun x13 ex13 => ?_)
    have hf := g_lt hf x13 ex13
    refine lv_istore_n (lv' := [(3, .int x13), (0, .ref (G.1 100)), (1, .int a0), (2, .int a1)]) hx hb dX12_variableOut_17 rfl hl (by decide) rfl (fun ls hl => ?_)
    exact (pX12_variableOut_L0  B FU) a0 x13 u11 _ _ _ hf K (lv_sub hl [1, 2, 0] rfl)
  · have hf := g_neg hf c12
    refine lv_aload_n hx hb dX12_variableOut_10 rfl (lv_at hl 0 rfl) ?_
    refine lv_iload_n hx hb dX12_variableOut_11 rfl (lv_at hl 1 rfl) ?_
    obtain ⟨u14, hu14, hf⟩ := g_bd hf
    refine ok_callv (rest := []) F K (pX12_decimal G hu14) mX12_decimal oc100 lX12_502 rfl hl.1 rfl ⟨⟨rfl, rfl⟩, Nat.le_of_ble_eq_true rfl, Nat.le_of_ble_eq_true rfl⟩ (Nat.le_of_ble_eq_true rfl) dX12_variableOut_12 (fun H locs K => ?_)
    exact ok_retv B K hf dX12_variableOut_15
abbrev rmX12_signOf : Room := { frames := 0, cells := 0, slots := 0, locals := 0 }
set_option maxRecDepth 100000 in
set_option maxHeartbeats 4000000 in
theorem pX12_signOf {l : Launch} (G : Gt) {a0 : Int32} {r : Int32} {u u' : St} (hf : fX12_signOf a0 u = some (r, u')) : Ctr 100 77 l yX12_signOf cX12_signOf 1 (some .int) rmX12_signOf [.int a0] G u (some (.int r)) u' := by
  refine Ctr.mk (by decide) (Nat.le_of_ble_eq_true rfl) (fun p e s m below meth c A ls B K hl => ?_)
  have F := B.1
  have hx := F.1
  have hb := F.2.1
  have hl : lv_has ls 1 [(0, .int a0)] := hl
  unfold fX12_signOf at hf
  refine lv_iload_n hx hb dX12_signOf_0 rfl (lv_at hl 0 rfl) ?_
  refine lv_bipush (v := 27) hx hb dX12_signOf_1 kB_27 ?_
  refine lv_icmp_ge (pc := 3) (tgt := 15) hx hb dX12_signOf_3 (by decide) (fun c1 => ?_) (fun c1 => ?_)
  · have hf := g_pos hf c1
    refine lv_iload_n hx hb dX12_signOf_15 rfl (lv_at hl 0 rfl) ?_
    refine lv_bipush (v := 53) hx hb dX12_signOf_16 kB_53 ?_
    refine lv_icmp_ge (pc := 18) (tgt := 31) hx hb dX12_signOf_18 (by decide) (fun c2 => ?_) (fun c2 => ?_)
    · have hf := g_pos hf c2
      refine lv_iload_n hx hb dX12_signOf_31 rfl (lv_at hl 0 rfl) ?_
      refine lv_bipush (v := 63) hx hb dX12_signOf_32 kB_63 ?_
      refine lv_icmp_ge (pc := 34) (tgt := 47) hx hb dX12_signOf_34 (by decide) (fun c3 => ?_) (fun c3 => ?_)
      · have hf := g_pos hf c3
        refine lv_bipush (v := 95) hx hb dX12_signOf_47 kB_95 ?_
        exact ok_reti B K hf dX12_signOf_49
      · have hf := g_neg hf c3
        refine lv_bipush (v := 48) hx hb dX12_signOf_37 kB_48 ?_
        refine lv_iload_n hx hb dX12_signOf_39 rfl (lv_at hl 0 rfl) ?_
        refine lv_iadd hx hb dX12_signOf_40 ?_
        refine lv_bipush (v := 53) hx hb dX12_signOf_41 kB_53 ?_
        refine lv_isub hx hb dX12_signOf_43 ?_
        refine lv_goto (pc := 44) (tgt := 49) hx hb dX12_signOf_44 (by decide) ?_
        exact ok_reti B K hf dX12_signOf_49
    · have hf := g_neg hf c2
      refine lv_bipush (v := 65) hx hb dX12_signOf_21 kB_65 ?_
      refine lv_iload_n hx hb dX12_signOf_23 rfl (lv_at hl 0 rfl) ?_
      refine lv_iadd hx hb dX12_signOf_24 ?_
      refine lv_bipush (v := 27) hx hb dX12_signOf_25 kB_27 ?_
      refine lv_isub hx hb dX12_signOf_27 ?_
      refine lv_goto (pc := 28) (tgt := 49) hx hb dX12_signOf_28 (by decide) ?_
      exact ok_reti B K hf dX12_signOf_49
  · have hf := g_neg hf c1
    refine lv_bipush (v := 97) hx hb dX12_signOf_6 kB_97 ?_
    refine lv_iload_n hx hb dX12_signOf_8 rfl (lv_at hl 0 rfl) ?_
    refine lv_iadd hx hb dX12_signOf_9 ?_
    refine lv_iconst (v := 1) hx hb dX12_signOf_10 kI_1 ?_
    refine lv_isub hx hb dX12_signOf_11 ?_
    refine lv_goto (pc := 12) (tgt := 49) hx hb dX12_signOf_12 (by decide) ?_
    exact ok_reti B K hf dX12_signOf_49
abbrev rmX12_nameOut : Room := { frames := 2, cells := 0, slots := 0, locals := 43 }
set_option maxRecDepth 100000 in
set_option maxHeartbeats 4000000 in
theorem pX12_nameOut_L0 {p : Program} {l : Launch} {e : Env} {s : State} {m : MethodId} {below : List Frame} {meth : Method} {c : Code} {A : Nat → Prop} {G : Gt} {a0 : Int32} {u' : St} (B : Bd p s m [.ref (G.1 100), .int a0] meth c yX12_nameOut cX12_nameOut 4 none) (n : Nat) : (∀ (x1_ : Int32) (x3_ : Int32) (u : St) (H : Heap) (locs : List Loc) (ls : Array Slot), fX12_nameOut_L0  n 0 x1_ x3_ u = some u' → Ok 100 77 G A s u H locs → lv_has ls 4 [(0, .ref (G.1 100)), (1, .int x1_), (3, .int x3_)] → W p l e rmX12_nameOut s m ([.ref (G.1 100), .int a0] : List Value).toArray below meth c H locs 0 0 (MQ below (Qg 100 77 G A none u') ([.ref (G.1 100), .int a0] : List Value).toArray s 0 0 A) (F0 m 53 ls [])) := by
  have F := B.1
  have hx := F.1
  have hb := F.2.1
  induction n with
  | zero => exact fun _ _ _ _ _ _ hf => g_no hf
  | succ n ih =>
    refine ?_
    · intro x1_ x3_ u H locs ls hf K hl
      have hf : fX12_nameOut_L0_0  (fX12_nameOut_L0  n) x1_ x3_ u = some u' := hf
      unfold fX12_nameOut_L0_0 at hf
      refine lv_iload_n hx hb dX12_nameOut_53 rfl (lv_at hl 2 rfl) ?_
      refine lv_if_lt (pc := 54) (tgt := 86) hx hb dX12_nameOut_54 (by decide) (fun c1 => ?_) (fun c1 => ?_)
      · have hf := g_pos hf c1
        exact ok_retv B K hf dX12_nameOut_86
      · have hf := g_neg hf c1
        refine lv_aload_n hx hb dX12_nameOut_57 rfl (lv_at hl 0 rfl) ?_
        refine lv_aload_n hx hb dX12_nameOut_58 rfl (lv_at hl 0 rfl) ?_
        refine ok_ref F K fX12_13 dX12_nameOut_59 ?_
        refine lv_iload_n hx hb dX12_nameOut_62 rfl (lv_at hl 1 rfl) ?_
        obtain ⟨v2, hv2, hf⟩ := g_bd hf
        refine ok_lald F K t102 hv2 dX12_nameOut_63 ?_
        refine lv_bipush (v := 6) hx hb dX12_nameOut_64 kB_6 ?_
        refine lv_iload_n hx hb dX12_nameOut_66 rfl (lv_at hl 2 rfl) ?_
        refine lv_imul hx hb dX12_nameOut_67 ?_
        refine lv_lshr hx hb dX12_nameOut_68 rfl ?_
        refine lv_ldc2 (v := 63) hx hb F.2.2.2.1 (F.2.2.2.2 _ kcX12_505) dX12_nameOut_69 ?_
        refine lv_land hx hb dX12_nameOut_72 ?_
        refine lv_l2i hx hb dX12_nameOut_73 rfl ?_
        obtain ⟨r4, u3, hu3, hf⟩ := g_b2 hf
        refine ok_callsi (rest := [.ref (G.1 100)]) F K (pX12_signOf G hu3) mX12_signOf lX12_507 rfl hl.1 rfl ⟨⟨rfl, rfl⟩, Nat.le_of_ble_eq_true rfl, Nat.le_of_ble_eq_true rfl⟩ (Nat.le_of_ble_eq_true rfl) dX12_nameOut_74 (fun H locs K => ?_)
        obtain ⟨u5, hu5, hf⟩ := g_bd hf
        refine ok_callv (rest := []) F K (pX12_put G hu5) mX12_put oc100 lX12_499 rfl hl.1 rfl ⟨⟨rfl, rfl⟩, Nat.le_of_ble_eq_true rfl, Nat.le_of_ble_eq_true rfl⟩ (Nat.le_of_ble_eq_true rfl) dX12_nameOut_77 (fun H locs K => ?_)
        obtain ⟨x6, ex6⟩ : ∃ y : Int32, y = x3_ + (-1) := ⟨_, rfl⟩
        have hf := g_lt hf x6 ex6
        refine lv_iinc (v := x6) (lv' := [(3, .int x6), (0, .ref (G.1 100)), (1, .int x1_)]) hx hb dX12_nameOut_80 hl (k := 2) rfl (by rw [kI_m1, ex6]) (by decide) rfl (fun ls hl => ?_)
        refine lv_goto (pc := 83) (tgt := 53) hx hb dX12_nameOut_83 (by decide) ?_
        exact ih x1_ x6 u5 _ _ _ hf K (lv_sub hl [1, 2, 0] rfl)
set_option maxRecDepth 100000 in
set_option maxHeartbeats 4000000 in
theorem pX12_nameOut_L1 {p : Program} {l : Launch} {e : Env} {s : State} {m : MethodId} {below : List Frame} {meth : Method} {c : Code} {A : Nat → Prop} {G : Gt} {a0 : Int32} {u' : St} (B : Bd p s m [.ref (G.1 100), .int a0] meth c yX12_nameOut cX12_nameOut 4 none) (n : Nat) : (∀ (x1_ : Int32) (x2_ : Int32) (u : St) (H : Heap) (locs : List Loc) (ls : Array Slot), fX12_nameOut_L1  n 0 x1_ x2_ u = some u' → Ok 100 77 G A s u H locs → lv_has ls 4 [(0, .ref (G.1 100)), (1, .int x1_), (2, .int x2_)] → W p l e rmX12_nameOut s m ([.ref (G.1 100), .int a0] : List Value).toArray below meth c H locs 0 0 (MQ below (Qg 100 77 G A none u') ([.ref (G.1 100), .int a0] : List Value).toArray s 0 0 A) (F0 m 27 ls [])) := by
  have F := B.1
  have hx := F.1
  have hb := F.2.1
  induction n with
  | zero => exact fun _ _ _ _ _ _ hf => g_no hf
  | succ n ih =>
    refine ?_
    · intro x1_ x2_ u H locs ls hf K hl
      have hf : fX12_nameOut_L1_0  (fX12_nameOut_L1  n) x1_ x2_ u = some u' := hf
      unfold fX12_nameOut_L1_0 at hf
      refine lv_aload_n hx hb dX12_nameOut_27 rfl (lv_at hl 0 rfl) ?_
      refine ok_ref F K fX12_13 dX12_nameOut_28 ?_
      refine lv_iload_n hx hb dX12_nameOut_31 rfl (lv_at hl 1 rfl) ?_
      obtain ⟨v7, hv7, hf⟩ := g_bd hf
      refine ok_lald F K t102 hv7 dX12_nameOut_32 ?_
      refine lv_bipush (v := 6) hx hb dX12_nameOut_33 kB_6 ?_
      refine lv_iload_n hx hb dX12_nameOut_35 rfl (lv_at hl 2 rfl) ?_
      refine lv_imul hx hb dX12_nameOut_36 ?_
      refine lv_lshr hx hb dX12_nameOut_37 rfl ?_
      refine lv_lconst (v := 0) hx hb dX12_nameOut_38 (by decide) ?_
      refine W.lcmp hx hb dX12_nameOut_39 ?_
      refine lv_if_le (pc := 40) (tgt := 49) hx hb dX12_nameOut_40 (by decide) (fun c8 => ?_) (fun c8 => ?_)
      · have hf := g_pos hf c8
        refine lv_iload_n hx hb dX12_nameOut_49 rfl (lv_at hl 2 rfl) ?_
        refine lv_iconst (v := 1) hx hb dX12_nameOut_50 kI_1 ?_
        refine lv_isub hx hb dX12_nameOut_51 ?_
        refine lv_topi (fun x9 ex9 => ?_)
        have hf := g_lt hf x9 ex9
        refine lv_istore_n (lv' := [(3, .int x9), (0, .ref (G.1 100)), (1, .int x1_), (2, .int x2_)]) hx hb dX12_nameOut_52 rfl hl (by decide) rfl (fun ls hl => ?_)
        exact (pX12_nameOut_L0  B FU) x1_ x9 u _ _ _ hf K (lv_sub hl [1, 2, 0] rfl)
      · have hf := g_neg hf c8
        obtain ⟨x10, ex10⟩ : ∃ y : Int32, y = x2_ + 1 := ⟨_, rfl⟩
        have hf := g_lt hf x10 ex10
        refine lv_iinc (v := x10) (lv' := [(2, .int x10), (0, .ref (G.1 100)), (1, .int x1_)]) hx hb dX12_nameOut_43 hl (k := 2) rfl (by rw [kI_1, ex10]) (by decide) rfl (fun ls hl => ?_)
        refine lv_goto (pc := 46) (tgt := 27) hx hb dX12_nameOut_46 (by decide) ?_
        exact ih x1_ x10 u _ _ _ hf K (lv_sub hl [1, 2, 0] rfl)
set_option maxRecDepth 100000 in
set_option maxHeartbeats 4000000 in
theorem pX12_nameOut {l : Launch} (G : Gt) {a0 : Int32} {u u' : St} (hf : fX12_nameOut a0 u = some u') : Ctr 100 77 l yX12_nameOut cX12_nameOut 4 none rmX12_nameOut [.ref (G.1 100), .int a0] G u none u' := by
  refine Ctr.mk (by decide) (Nat.le_of_ble_eq_true rfl) (fun p e s m below meth c A ls B K hl => ?_)
  have F := B.1
  have hx := F.1
  have hb := F.2.1
  have hl : lv_has ls 4 [(0, .ref (G.1 100)), (1, .int a0)] := hl
  unfold fX12_nameOut at hf
  refine lv_iload_n hx hb dX12_nameOut_0 rfl (lv_at hl 1 rfl) ?_
  refine lv_sipush (v := 1000) hx hb dX12_nameOut_1 kS_1000 ?_
  refine lv_icmp_lt (pc := 4) (tgt := 25) hx hb dX12_nameOut_4 (by decide) (fun c11 => ?_) (fun c11 => ?_)
  · have hf := g_pos hf c11
    refine lv_iconst (v := 0) hx hb dX12_nameOut_25 kI_0 ?_
    refine lv_topi (fun x12 ex12 => ?_)
    have hf := g_lt hf x12 ex12
    refine lv_istore_n (lv' := [(2, .int x12), (0, .ref (G.1 100)), (1, .int a0)]) hx hb dX12_nameOut_26 rfl hl (by decide) rfl (fun ls hl => ?_)
    exact (pX12_nameOut_L1  B FU) a0 x12 u _ _ _ hf K (lv_sub hl [1, 2, 0] rfl)
  · have hf := g_neg hf c11
    refine lv_aload_n hx hb dX12_nameOut_7 rfl (lv_at hl 0 rfl) ?_
    refine lv_bipush (v := 115) hx hb dX12_nameOut_8 kB_115 ?_
    obtain ⟨u13, hu13, hf⟩ := g_bd hf
    refine ok_callv (rest := []) F K (pX12_put G hu13) mX12_put oc100 lX12_499 rfl hl.1 rfl ⟨⟨rfl, rfl⟩, Nat.le_of_ble_eq_true rfl, Nat.le_of_ble_eq_true rfl⟩ (Nat.le_of_ble_eq_true rfl) dX12_nameOut_10 (fun H locs K => ?_)
    refine lv_aload_n hx hb dX12_nameOut_13 rfl (lv_at hl 0 rfl) ?_
    refine lv_iload_n hx hb dX12_nameOut_14 rfl (lv_at hl 1 rfl) ?_
    refine lv_sipush (v := 1000) hx hb dX12_nameOut_15 kS_1000 ?_
    refine lv_isub hx hb dX12_nameOut_18 ?_
    refine lv_iconst (v := 1) hx hb dX12_nameOut_19 kI_1 ?_
    refine lv_iadd hx hb dX12_nameOut_20 ?_
    obtain ⟨u14, hu14, hf⟩ := g_bd hf
    refine ok_callv (rest := []) F K (pX12_decimal G hu14) mX12_decimal oc100 lX12_502 rfl hl.1 rfl ⟨⟨rfl, rfl⟩, Nat.le_of_ble_eq_true rfl, Nat.le_of_ble_eq_true rfl⟩ (Nat.le_of_ble_eq_true rfl) dX12_nameOut_21 (fun H locs K => ?_)
    exact ok_retv B K hf dX12_nameOut_24
abbrev rmX12_termOut : Room := { frames := 3, cells := 0, slots := 0, locals := 66 }
set_option maxRecDepth 100000 in
set_option maxHeartbeats 4000000 in
theorem pX12_termOut_L0 {p : Program} {l : Launch} {e : Env} {s : State} {m : MethodId} {below : List Frame} {meth : Method} {c : Code} {A : Nat → Prop} {G : Gt} {a0 : Int32} {a1 : Int32} {u' : St} (B : Bd p s m [.ref (G.1 100), .int a0, .int a1] meth c yX12_termOut cX12_termOut 8 none) (n : Nat) : (∀ (u : St) (H : Heap) (locs : List Loc) (ls : Array Slot), fX12_termOut_L0  n 0 0 0 0 0 0 0 u = some u' → Ok 100 77 G A s u H locs → lv_has ls 8 [(0, .ref (G.1 100))] → W p l e rmX12_termOut s m ([.ref (G.1 100), .int a0, .int a1] : List Value).toArray below meth c H locs 0 0 (MQ below (Qg 100 77 G A none u') ([.ref (G.1 100), .int a0, .int a1] : List Value).toArray s 0 0 A) (F0 m 11 ls [])) ∧ (∀ (x3_ : Int32) (x4_ : Int32) (u : St) (H : Heap) (locs : List Loc) (ls : Array Slot), fX12_termOut_L0  n 1 x3_ x4_ 0 0 0 0 u = some u' → Ok 100 77 G A s u H locs → lv_has ls 8 [(0, .ref (G.1 100)), (3, .int x3_), (4, .int x4_)] → W p l e rmX12_termOut s m ([.ref (G.1 100), .int a0, .int a1] : List Value).toArray below meth c H locs 0 0 (MQ below (Qg 100 77 G A none u') ([.ref (G.1 100), .int a0, .int a1] : List Value).toArray s 0 0 A) (F0 m 95 ls [])) ∧ (∀ (x4_ : Int32) (s0_ : Int32) (u : St) (H : Heap) (locs : List Loc) (ls : Array Slot), fX12_termOut_L0  n 2 0 x4_ 0 0 0 s0_ u = some u' → Ok 100 77 G A s u H locs → lv_has ls 8 [(0, .ref (G.1 100)), (4, .int x4_)] → W p l e rmX12_termOut s m ([.ref (G.1 100), .int a0, .int a1] : List Value).toArray below meth c H locs 0 0 (MQ below (Qg 100 77 G A none u') ([.ref (G.1 100), .int a0, .int a1] : List Value).toArray s 0 0 A) (F0 m 132 ls [.int s0_, .ref (G.1 100)])) ∧ (∀ (x4_ : Int32) (x5_ : Int32) (x6_ : Int32) (x7_ : Int32) (u : St) (H : Heap) (locs : List Loc) (ls : Array Slot), fX12_termOut_L0  n 3 0 x4_ x5_ x6_ x7_ 0 u = some u' → Ok 100 77 G A s u H locs → lv_has ls 8 [(0, .ref (G.1 100)), (4, .int x4_), (5, .int x5_), (6, .int x6_), (7, .int x7_)] → W p l e rmX12_termOut s m ([.ref (G.1 100), .int a0, .int a1] : List Value).toArray below meth c H locs 0 0 (MQ below (Qg 100 77 G A none u') ([.ref (G.1 100), .int a0, .int a1] : List Value).toArray s 0 0 A) (F0 m 174 ls [])) ∧ (∀ (x4_ : Int32) (x7_ : Int32) (u : St) (H : Heap) (locs : List Loc) (ls : Array Slot), fX12_termOut_L0  n 4 0 x4_ 0 0 x7_ 0 u = some u' → Ok 100 77 G A s u H locs → lv_has ls 8 [(0, .ref (G.1 100)), (4, .int x4_), (7, .int x7_)] → W p l e rmX12_termOut s m ([.ref (G.1 100), .int a0, .int a1] : List Value).toArray below meth c H locs 0 0 (MQ below (Qg 100 77 G A none u') ([.ref (G.1 100), .int a0, .int a1] : List Value).toArray s 0 0 A) (F0 m 229 ls [])) := by
  have F := B.1
  have hx := F.1
  have hb := F.2.1
  induction n with
  | zero => exact ⟨fun _ _ _ _ hf => g_no hf, fun _ _ _ _ _ _ hf => g_no hf, fun _ _ _ _ _ _ hf => g_no hf, fun _ _ _ _ _ _ _ _ hf => g_no hf, fun _ _ _ _ _ _ hf => g_no hf⟩
  | succ n ih =>
    refine ⟨?_, ?_, ?_, ?_, ?_⟩
    · intro  u H locs ls hf K hl
      have hf : fX12_termOut_L0_0  (fX12_termOut_L0  n)  u = some u' := hf
      unfold fX12_termOut_L0_0 at hf
      refine lv_aload_n hx hb dX12_termOut_11 rfl (lv_at hl 0 rfl) ?_
      refine ok_int F K fX12_510 dX12_termOut_12 ?_
      refine lv_if_le (pc := 15) (tgt := 268) hx hb dX12_termOut_15 (by decide) (fun c1 => ?_) (fun c1 => ?_)
      · have hf := g_pos hf c1
        exact ok_retv B K hf dX12_termOut_268
      · have hf := g_neg hf c1
        refine lv_aload_n hx hb dX12_termOut_18 rfl (lv_at hl 0 rfl) ?_
        refine ok_int F K fX12_496 dX12_termOut_19 ?_
        refine lv_sipush (v := 4000) hx hb dX12_termOut_22 kS_4000 ?_
        refine lv_icmp_gt (pc := 25) (tgt := 268) hx hb dX12_termOut_25 (by decide) (fun c2 => ?_) (fun c2 => ?_)
        · have hf := g_pos hf c2
          exact ok_retv B K hf dX12_termOut_268
        · have hf := g_neg hf c2
          refine lv_aload_n hx hb dX12_termOut_28 rfl (lv_at hl 0 rfl) ?_
          refine lv_dup hx hb dX12_termOut_29 rfl ?_
          refine ok_int F K fX12_510 dX12_termOut_30 ?_
          refine lv_iconst (v := 1) hx hb dX12_termOut_33 kI_1 ?_
          refine lv_isub hx hb dX12_termOut_34 ?_
          refine ok_putI F K qX12_510 dX12_termOut_35 (fun u3 H locs eu3 K => ?_)
          have hf := g_lt hf u3 eu3
          refine lv_aload_n hx hb dX12_termOut_38 rfl (lv_at hl 0 rfl) ?_
          refine ok_ref F K fX12_151 dX12_termOut_39 ?_
          refine lv_aload_n hx hb dX12_termOut_42 rfl (lv_at hl 0 rfl) ?_
          refine ok_int F K fX12_510 dX12_termOut_43 ?_
          obtain ⟨v4, hv4, hf⟩ := g_bd hf
          refine ok_iald F K t147 hv4 dX12_termOut_46 ?_
          refine lv_istore_n (lv' := [(3, .int v4), (0, .ref (G.1 100))]) hx hb dX12_termOut_47 rfl hl (by decide) rfl (fun ls hl => ?_)
          refine lv_aload_n hx hb dX12_termOut_48 rfl (lv_at hl 1 rfl) ?_
          refine ok_ref F K fX12_154 dX12_termOut_49 ?_
          refine lv_aload_n hx hb dX12_termOut_52 rfl (lv_at hl 1 rfl) ?_
          refine ok_int F K fX12_510 dX12_termOut_53 ?_
          obtain ⟨v5, hv5, hf⟩ := g_bd hf
          refine ok_iald F K t148 hv5 dX12_termOut_56 ?_
          refine lv_istore (lv' := [(4, .int v5), (3, .int v4), (0, .ref (G.1 100))]) hx hb dX12_termOut_57 hl (by decide) rfl (fun ls hl => ?_)
          refine lv_iload_n hx hb dX12_termOut_59 rfl (lv_at hl 1 rfl) ?_
          refine lv_if_ge (pc := 60) (tgt := 72) hx hb dX12_termOut_60 (by decide) (fun c6 => ?_) (fun c6 => ?_)
          · have hf := g_pos hf c6
            refine lv_iload hx hb dX12_termOut_72 (lv_at hl 0 rfl) ?_
            refine lv_if_lt (pc := 74) (tgt := 95) hx hb dX12_termOut_74 (by decide) (fun c7 => ?_) (fun c7 => ?_)
            · have hf := g_pos hf c7
              exact ih.2.1 v4 v5 u3 _ _ _ hf K (lv_sub hl [2, 1, 0] rfl)
            · have hf := g_neg hf c7
              refine lv_aload_n hx hb dX12_termOut_77 rfl (lv_at hl 2 rfl) ?_
              refine lv_iload_n hx hb dX12_termOut_78 rfl (lv_at hl 1 rfl) ?_
              refine lv_iload hx hb dX12_termOut_79 (lv_at hl 0 rfl) ?_
              obtain ⟨u8, hu8, hf⟩ := g_bd hf
              refine ok_callv (rest := []) F K (pX12_follow G hu8) mX12_follow oc100 lX12_519 rfl hl.1 rfl ⟨⟨rfl, rfl⟩, Nat.le_of_ble_eq_true rfl, Nat.le_of_ble_eq_true rfl⟩ (Nat.le_of_ble_eq_true rfl) dX12_termOut_81 (fun H locs K => ?_)
              refine lv_aload_n hx hb dX12_termOut_84 rfl (lv_at hl 2 rfl) ?_
              refine ok_int F K fX12_522 dX12_termOut_85 ?_
              refine lv_topi (fun x9 ex9 => ?_)
              have hf := g_lt hf x9 ex9
              refine lv_istore_n (lv' := [(3, .int x9), (4, .int v5), (0, .ref (G.1 100))]) hx hb dX12_termOut_88 rfl hl (by decide) rfl (fun ls hl => ?_)
              refine lv_aload_n hx hb dX12_termOut_89 rfl (lv_at hl 2 rfl) ?_
              refine ok_int F K fX12_525 dX12_termOut_90 ?_
              refine lv_topi (fun x10 ex10 => ?_)
              have hf := g_lt hf x10 ex10
              refine lv_istore (lv' := [(4, .int x10), (3, .int x9), (0, .ref (G.1 100))]) hx hb dX12_termOut_93 hl (by decide) rfl (fun ls hl => ?_)
              exact ih.2.1 x9 x10 u8 _ _ _ hf K (lv_sub hl [2, 1, 0] rfl)
          · have hf := g_neg hf c6
            refine lv_aload_n hx hb dX12_termOut_63 rfl (lv_at hl 2 rfl) ?_
            refine lv_iload_n hx hb dX12_termOut_64 rfl (lv_at hl 1 rfl) ?_
            refine lv_ineg hx hb dX12_termOut_65 ?_
            obtain ⟨u11, hu11, hf⟩ := g_bd hf
            refine ok_callv (rest := []) F K (pX12_put G hu11) mX12_put oc100 lX12_499 rfl hl.1 rfl ⟨⟨rfl, rfl⟩, Nat.le_of_ble_eq_true rfl, Nat.le_of_ble_eq_true rfl⟩ (Nat.le_of_ble_eq_true rfl) dX12_termOut_66 (fun H locs K => ?_)
            refine lv_goto (pc := 69) (tgt := 11) hx hb dX12_termOut_69 (by decide) ?_
            exact ih.1  u11 _ _ _ hf K (lv_sub hl [2] rfl)
    · intro x3_ x4_ u H locs ls hf K hl
      have hf : fX12_termOut_L0_1  (fX12_termOut_L0  n) x3_ x4_ u = some u' := hf
      unfold fX12_termOut_L0_1 at hf
      refine lv_aload_n hx hb dX12_termOut_95 rfl (lv_at hl 0 rfl) ?_
      refine ok_ref F K fX12_43 dX12_termOut_96 ?_
      refine lv_iload_n hx hb dX12_termOut_99 rfl (lv_at hl 1 rfl) ?_
      obtain ⟨v12, hv12, hf⟩ := g_bd hf
      refine ok_iald F K t111 hv12 dX12_termOut_100 ?_
      refine lv_if_ge (pc := 101) (tgt := 148) hx hb dX12_termOut_101 (by decide) (fun c13 => ?_) (fun c13 => ?_)
      · have hf := g_pos hf c13
        refine lv_aload_n hx hb dX12_termOut_148 rfl (lv_at hl 0 rfl) ?_
        refine lv_aload_n hx hb dX12_termOut_149 rfl (lv_at hl 0 rfl) ?_
        refine ok_ref F K fX12_43 dX12_termOut_150 ?_
        refine lv_iload_n hx hb dX12_termOut_153 rfl (lv_at hl 1 rfl) ?_
        obtain ⟨v14, hv14, hf⟩ := g_bd hf
        refine ok_iald F K t111 hv14 dX12_termOut_154 ?_
        obtain ⟨u15, hu15, hf⟩ := g_bd hf
        refine ok_callv (rest := []) F K (pX12_nameOut G hu15) mX12_nameOut oc100 lX12_531 rfl hl.1 rfl ⟨⟨rfl, rfl⟩, Nat.le_of_ble_eq_true rfl, Nat.le_of_ble_eq_true rfl⟩ (Nat.le_of_ble_eq_true rfl) dX12_termOut_155 (fun H locs K => ?_)
        refine lv_aload_n hx hb dX12_termOut_158 rfl (lv_at hl 0 rfl) ?_
        refine ok_ref F K fX12_49 dX12_termOut_159 ?_
        refine lv_iload_n hx hb dX12_termOut_162 rfl (lv_at hl 1 rfl) ?_
        obtain ⟨v16, hv16, hf⟩ := g_bd hf
        refine ok_iald F K t113 hv16 dX12_termOut_163 ?_
        refine lv_istore (lv' := [(5, .int v16), (0, .ref (G.1 100)), (3, .int x3_), (4, .int x4_)]) hx hb dX12_termOut_164 hl (by decide) rfl (fun ls hl => ?_)
        refine lv_iload_n hx hb dX12_termOut_166 rfl (lv_at hl 2 rfl) ?_
        refine lv_iconst (v := 1) hx hb dX12_termOut_167 kI_1 ?_
        refine lv_iadd hx hb dX12_termOut_168 ?_
        refine lv_topi (fun x17 ex17 => ?_)
        have hf := g_lt hf x17 ex17
        refine lv_istore (lv' := [(6, .int x17), (5, .int v16), (0, .ref (G.1 100)), (3, .int x3_), (4, .int x4_)]) hx hb dX12_termOut_169 hl (by decide) rfl (fun ls hl => ?_)
        refine lv_iconst (v := 0) hx hb dX12_termOut_171 kI_0 ?_
        refine lv_topi (fun x18 ex18 => ?_)
        have hf := g_lt hf x18 ex18
        refine lv_istore (lv' := [(7, .int x18), (6, .int x17), (5, .int v16), (0, .ref (G.1 100)), (3, .int x3_), (4, .int x4_)]) hx hb dX12_termOut_172 hl (by decide) rfl (fun ls hl => ?_)
        exact ih.2.2.2.1 x4_ v16 x17 x18 u15 _ _ _ hf K (lv_sub hl [3, 5, 2, 1, 0] rfl)
      · have hf := g_neg hf c13
        refine lv_aload_n hx hb dX12_termOut_104 rfl (lv_at hl 0 rfl) ?_
        refine lv_iload hx hb dX12_termOut_105 (lv_at hl 2 rfl) ?_
        refine lv_if_ge (pc := 107) (tgt := 121) hx hb dX12_termOut_107 (by decide) (fun c19 => ?_) (fun c19 => ?_)
        · have hf := g_pos hf c19
          refine lv_iload hx hb dX12_termOut_121 (lv_at hl 2 rfl) ?_
          refine lv_iconst (v := 1) hx hb dX12_termOut_123 kI_1 ?_
          refine lv_isub hx hb dX12_termOut_124 ?_
          refine lv_aload_n hx hb dX12_termOut_125 rfl (lv_at hl 0 rfl) ?_
          refine ok_ref F K fX12_43 dX12_termOut_126 ?_
          refine lv_iload_n hx hb dX12_termOut_129 rfl (lv_at hl 1 rfl) ?_
          obtain ⟨v20, hv20, hf⟩ := g_bd hf
          refine ok_iald F K t111 hv20 dX12_termOut_130 ?_
          refine lv_isub hx hb dX12_termOut_131 ?_
          exact ih.2.2.1 x4_ ((x4_ - 1) - v20) u _ _ _ hf K (lv_sub hl [0, 2] rfl)
        · have hf := g_neg hf c19
          refine lv_iconst (v := (-1)) hx hb dX12_termOut_110 kI_m1 ?_
          refine lv_aload_n hx hb dX12_termOut_111 rfl (lv_at hl 0 rfl) ?_
          refine ok_ref F K fX12_43 dX12_termOut_112 ?_
          refine lv_iload_n hx hb dX12_termOut_115 rfl (lv_at hl 1 rfl) ?_
          obtain ⟨v21, hv21, hf⟩ := g_bd hf
          refine ok_iald F K t111 hv21 dX12_termOut_116 ?_
          refine lv_isub hx hb dX12_termOut_117 ?_
          refine lv_goto (pc := 118) (tgt := 132) hx hb dX12_termOut_118 (by decide) ?_
          exact ih.2.2.1 x4_ ((-1) - v21) u _ _ _ hf K (lv_sub hl [0, 2] rfl)
    · intro x4_ s0_ u H locs ls hf K hl
      have hf : fX12_termOut_L0_2  (fX12_termOut_L0  n) x4_ s0_ u = some u' := hf
      unfold fX12_termOut_L0_2 at hf
      refine lv_iload hx hb dX12_termOut_132 (lv_at hl 1 rfl) ?_
      refine lv_if_ge (pc := 134) (tgt := 141) hx hb dX12_termOut_134 (by decide) (fun c22 => ?_) (fun c22 => ?_)
      · have hf := g_pos hf c22
        refine lv_iconst (v := 0) hx hb dX12_termOut_141 kI_0 ?_
        obtain ⟨u23, hu23, hf⟩ := g_bd hf
        refine ok_callv (rest := []) F K (pX12_variableOut G hu23) mX12_variableOut oc100 lX12_528 rfl hl.1 rfl ⟨⟨rfl, rfl⟩, Nat.le_of_ble_eq_true rfl, Nat.le_of_ble_eq_true rfl⟩ (Nat.le_of_ble_eq_true rfl) dX12_termOut_142 (fun H locs K => ?_)
        refine lv_goto (pc := 145) (tgt := 11) hx hb dX12_termOut_145 (by decide) ?_
        exact ih.1  u23 _ _ _ hf K (lv_sub hl [0] rfl)
      · have hf := g_neg hf c22
        refine lv_iconst (v := 1) hx hb dX12_termOut_137 kI_1 ?_
        refine lv_goto (pc := 138) (tgt := 142) hx hb dX12_termOut_138 (by decide) ?_
        obtain ⟨u24, hu24, hf⟩ := g_bd hf
        refine ok_callv (rest := []) F K (pX12_variableOut G hu24) mX12_variableOut oc100 lX12_528 rfl hl.1 rfl ⟨⟨rfl, rfl⟩, Nat.le_of_ble_eq_true rfl, Nat.le_of_ble_eq_true rfl⟩ (Nat.le_of_ble_eq_true rfl) dX12_termOut_142 (fun H locs K => ?_)
        refine lv_goto (pc := 145) (tgt := 11) hx hb dX12_termOut_145 (by decide) ?_
        exact ih.1  u24 _ _ _ hf K (lv_sub hl [0] rfl)
    · intro x4_ x5_ x6_ x7_ u H locs ls hf K hl
      have hf : fX12_termOut_L0_3  (fX12_termOut_L0  n) x4_ x5_ x6_ x7_ u = some u' := hf
      unfold fX12_termOut_L0_3 at hf
      refine lv_iload hx hb dX12_termOut_174 (lv_at hl 4 rfl) ?_
      refine lv_iload hx hb dX12_termOut_176 (lv_at hl 2 rfl) ?_
      refine lv_icmp_ge (pc := 178) (tgt := 205) hx hb dX12_termOut_178 (by decide) (fun c25 => ?_) (fun c25 => ?_)
      · have hf := g_pos hf c25
        refine lv_iload hx hb dX12_termOut_205 (lv_at hl 2 rfl) ?_
        refine lv_if_le (pc := 207) (tgt := 223) hx hb dX12_termOut_207 (by decide) (fun c26 => ?_) (fun c26 => ?_)
        · have hf := g_pos hf c26
          refine lv_iload hx hb dX12_termOut_223 (lv_at hl 2 rfl) ?_
          refine lv_iconst (v := 1) hx hb dX12_termOut_225 kI_1 ?_
          refine lv_isub hx hb dX12_termOut_226 ?_
          refine lv_topi (fun x27 ex27 => ?_)
          have hf := g_lt hf x27 ex27
          refine lv_istore (lv' := [(7, .int x27), (0, .ref (G.1 100)), (4, .int x4_), (5, .int x5_), (6, .int x6_)]) hx hb dX12_termOut_227 hl (by decide) rfl (fun ls hl => ?_)
          exact ih.2.2.2.2 x4_ x27 u _ _ _ hf K (lv_sub hl [1, 2, 0] rfl)
        · have hf := g_neg hf c26
          refine lv_aload_n hx hb dX12_termOut_210 rfl (lv_at hl 0 rfl) ?_
          refine lv_bipush (v := 40) hx hb dX12_termOut_211 kB_40 ?_
          obtain ⟨u28, hu28, hf⟩ := g_bd hf
          refine ok_callv (rest := []) F K (pX12_put G hu28) mX12_put oc100 lX12_499 rfl hl.1 rfl ⟨⟨rfl, rfl⟩, Nat.le_of_ble_eq_true rfl, Nat.le_of_ble_eq_true rfl⟩ (Nat.le_of_ble_eq_true rfl) dX12_termOut_213 (fun H locs K => ?_)
          refine lv_aload_n hx hb dX12_termOut_216 rfl (lv_at hl 0 rfl) ?_
          refine lv_bipush (v := (-41)) hx hb dX12_termOut_217 kB_m41 ?_
          refine lv_iconst (v := 0) hx hb dX12_termOut_219 kI_0 ?_
          obtain ⟨u29, hu29, hf⟩ := g_bd hf
          refine ok_callv (rest := []) F K (pX12_later G hu29) mX12_later oc100 lX12_516 rfl hl.1 rfl ⟨⟨rfl, rfl⟩, Nat.le_of_ble_eq_true rfl, Nat.le_of_ble_eq_true rfl⟩ (Nat.le_of_ble_eq_true rfl) dX12_termOut_220 (fun H locs K => ?_)
          refine lv_iload hx hb dX12_termOut_223 (lv_at hl 2 rfl) ?_
          refine lv_iconst (v := 1) hx hb dX12_termOut_225 kI_1 ?_
          refine lv_isub hx hb dX12_termOut_226 ?_
          refine lv_topi (fun x30 ex30 => ?_)
          have hf := g_lt hf x30 ex30
          refine lv_istore (lv' := [(7, .int x30), (0, .ref (G.1 100)), (4, .int x4_), (5, .int x5_), (6, .int x6_)]) hx hb dX12_termOut_227 hl (by decide) rfl (fun ls hl => ?_)
          exact ih.2.2.2.2 x4_ x30 u29 _ _ _ hf K (lv_sub hl [1, 2, 0] rfl)
      · have hf := g_neg hf c25
        refine lv_aload_n hx hb dX12_termOut_181 rfl (lv_at hl 0 rfl) ?_
        refine ok_ref F K fX12_157 dX12_termOut_182 ?_
        refine lv_iload hx hb dX12_termOut_185 (lv_at hl 4 rfl) ?_
        refine lv_iload hx hb dX12_termOut_187 (lv_at hl 3 rfl) ?_
        obtain ⟨u31, hu31, hf⟩ := g_bd hf
        refine ok_iast F K t149 hu31 dX12_termOut_189 (fun H locs K => ?_)
        refine lv_aload_n hx hb dX12_termOut_190 rfl (lv_at hl 0 rfl) ?_
        refine ok_ref F K fX12_46 dX12_termOut_191 ?_
        refine lv_iload hx hb dX12_termOut_194 (lv_at hl 3 rfl) ?_
        obtain ⟨v32, hv32, hf⟩ := g_bd hf
        refine ok_iald F K t112 hv32 dX12_termOut_196 ?_
        refine lv_istore (lv' := [(6, .int v32), (0, .ref (G.1 100)), (4, .int x4_), (5, .int x5_), (7, .int x7_)]) hx hb dX12_termOut_197 hl (by decide) rfl (fun ls hl => ?_)
        obtain ⟨x33, ex33⟩ : ∃ y : Int32, y = x7_ + 1 := ⟨_, rfl⟩
        have hf := g_lt hf x33 ex33
        refine lv_iinc (v := x33) (lv' := [(7, .int x33), (6, .int v32), (0, .ref (G.1 100)), (4, .int x4_), (5, .int x5_)]) hx hb dX12_termOut_199 hl (k := 4) rfl (by rw [kI_1, ex33]) (by decide) rfl (fun ls hl => ?_)
        refine lv_goto (pc := 202) (tgt := 174) hx hb dX12_termOut_202 (by decide) ?_
        exact ih.2.2.2.1 x4_ x5_ v32 x33 u31 _ _ _ hf K (lv_sub hl [2, 3, 4, 1, 0] rfl)
    · intro x4_ x7_ u H locs ls hf K hl
      have hf : fX12_termOut_L0_4  (fX12_termOut_L0  n) x4_ x7_ u = some u' := hf
      unfold fX12_termOut_L0_4 at hf
      refine lv_iload hx hb dX12_termOut_229 (lv_at hl 2 rfl) ?_
      refine lv_if_lt (pc := 231) (tgt := 265) hx hb dX12_termOut_231 (by decide) (fun c34 => ?_) (fun c34 => ?_)
      · have hf := g_pos hf c34
        refine lv_goto (pc := 265) (tgt := 11) hx hb dX12_termOut_265 (by decide) ?_
        exact ih.1  u _ _ _ hf K (lv_sub hl [0] rfl)
      · have hf := g_neg hf c34
        refine lv_aload_n hx hb dX12_termOut_234 rfl (lv_at hl 0 rfl) ?_
        refine lv_aload_n hx hb dX12_termOut_235 rfl (lv_at hl 0 rfl) ?_
        refine ok_ref F K fX12_157 dX12_termOut_236 ?_
        refine lv_iload hx hb dX12_termOut_239 (lv_at hl 2 rfl) ?_
        obtain ⟨v35, hv35, hf⟩ := g_bd hf
        refine ok_iald F K t149 hv35 dX12_termOut_241 ?_
        refine lv_iload hx hb dX12_termOut_242 (lv_at hl 1 rfl) ?_
        obtain ⟨u36, hu36, hf⟩ := g_bd hf
        refine ok_callv (rest := []) F K (pX12_later G hu36) mX12_later oc100 lX12_516 rfl hl.1 rfl ⟨⟨rfl, rfl⟩, Nat.le_of_ble_eq_true rfl, Nat.le_of_ble_eq_true rfl⟩ (Nat.le_of_ble_eq_true rfl) dX12_termOut_244 (fun H locs K => ?_)
        refine lv_iload hx hb dX12_termOut_247 (lv_at hl 2 rfl) ?_
        refine lv_if_le (pc := 249) (tgt := 259) hx hb dX12_termOut_249 (by decide) (fun c37 => ?_) (fun c37 => ?_)
        · have hf := g_pos hf c37
          obtain ⟨x38, ex38⟩ : ∃ y : Int32, y = x7_ + (-1) := ⟨_, rfl⟩
          have hf := g_lt hf x38 ex38
          refine lv_iinc (v := x38) (lv' := [(7, .int x38), (0, .ref (G.1 100)), (4, .int x4_)]) hx hb dX12_termOut_259 hl (k := 2) rfl (by rw [kI_m1, ex38]) (by decide) rfl (fun ls hl => ?_)
          refine lv_goto (pc := 262) (tgt := 229) hx hb dX12_termOut_262 (by decide) ?_
          exact ih.2.2.2.2 x4_ x38 u36 _ _ _ hf K (lv_sub hl [1, 2, 0] rfl)
        · have hf := g_neg hf c37
          refine lv_aload_n hx hb dX12_termOut_252 rfl (lv_at hl 0 rfl) ?_
          refine lv_bipush (v := (-44)) hx hb dX12_termOut_253 kB_m44 ?_
          refine lv_iconst (v := 0) hx hb dX12_termOut_255 kI_0 ?_
          obtain ⟨u39, hu39, hf⟩ := g_bd hf
          refine ok_callv (rest := []) F K (pX12_later G hu39) mX12_later oc100 lX12_516 rfl hl.1 rfl ⟨⟨rfl, rfl⟩, Nat.le_of_ble_eq_true rfl, Nat.le_of_ble_eq_true rfl⟩ (Nat.le_of_ble_eq_true rfl) dX12_termOut_256 (fun H locs K => ?_)
          obtain ⟨x40, ex40⟩ : ∃ y : Int32, y = x7_ + (-1) := ⟨_, rfl⟩
          have hf := g_lt hf x40 ex40
          refine lv_iinc (v := x40) (lv' := [(7, .int x40), (0, .ref (G.1 100)), (4, .int x4_)]) hx hb dX12_termOut_259 hl (k := 2) rfl (by rw [kI_m1, ex40]) (by decide) rfl (fun ls hl => ?_)
          refine lv_goto (pc := 262) (tgt := 229) hx hb dX12_termOut_262 (by decide) ?_
          exact ih.2.2.2.2 x4_ x40 u39 _ _ _ hf K (lv_sub hl [1, 2, 0] rfl)
set_option maxRecDepth 100000 in
set_option maxHeartbeats 4000000 in
theorem pX12_termOut {l : Launch} (G : Gt) {a0 : Int32} {a1 : Int32} {u u' : St} (hf : fX12_termOut a0 a1 u = some u') : Ctr 100 77 l yX12_termOut cX12_termOut 8 none rmX12_termOut [.ref (G.1 100), .int a0, .int a1] G u none u' := by
  refine Ctr.mk (by decide) (Nat.le_of_ble_eq_true rfl) (fun p e s m below meth c A ls B K hl => ?_)
  have F := B.1
  have hx := F.1
  have hb := F.2.1
  have hl : lv_has ls 8 [(0, .ref (G.1 100)), (1, .int a0), (2, .int a1)] := hl
  unfold fX12_termOut at hf
  refine lv_aload_n hx hb dX12_termOut_0 rfl (lv_at hl 0 rfl) ?_
  refine lv_iconst (v := 0) hx hb dX12_termOut_1 kI_0 ?_
  refine ok_putI F K qX12_510 dX12_termOut_2 (fun u41 H locs eu41 K => ?_)
  have hf := g_lt hf u41 eu41
  refine lv_aload_n hx hb dX12_termOut_5 rfl (lv_at hl 0 rfl) ?_
  refine lv_iload_n hx hb dX12_termOut_6 rfl (lv_at hl 1 rfl) ?_
  refine lv_iload_n hx hb dX12_termOut_7 rfl (lv_at hl 2 rfl) ?_
  obtain ⟨u42, hu42, hf⟩ := g_bd hf
  refine ok_callv (rest := []) F K (pX12_later G hu42) mX12_later oc100 lX12_516 rfl hl.1 rfl ⟨⟨rfl, rfl⟩, Nat.le_of_ble_eq_true rfl, Nat.le_of_ble_eq_true rfl⟩ (Nat.le_of_ble_eq_true rfl) dX12_termOut_8 (fun H locs K => ?_)
  exact (pX12_termOut_L0  B FU).1  u42 _ _ _ hf K (lv_sub hl [0] rfl)
abbrev rmX12_literalOut : Room := { frames := 4, cells := 0, slots := 0, locals := 93 }
set_option maxRecDepth 100000 in
set_option maxHeartbeats 4000000 in
theorem pX12_literalOut_j15 {p : Program} {l : Launch} {e : Env} {s : State} {m : MethodId} {below : List Frame} {meth : Method} {c : Code} {A : Nat → Prop} {G : Gt} {a0 : Int32} {a1 : Int32} {u' : St} (B : Bd p s m [.ref (G.1 100), .int a0, .int a1] meth c yX12_literalOut cX12_literalOut 3 none) (x1_ : Int32) (x2_ : Int32) (u : St) (H : Heap) (locs : List Loc) (ls : Array Slot) (hf : fX12_literalOut_j15 x1_ x2_ u = some u') (K : Ok 100 77 G A s u H locs) (hl : lv_has ls 3 [(0, .ref (G.1 100)), (1, .int x1_), (2, .int x2_)]) : W p l e rmX12_literalOut s m ([.ref (G.1 100), .int a0, .int a1] : List Value).toArray below meth c H locs 0 0 (MQ below (Qg 100 77 G A none u') ([.ref (G.1 100), .int a0, .int a1] : List Value).toArray s 0 0 A) (F0 m 15 ls []) := by
  have F := B.1
  have hx := F.1
  have hb := F.2.1
  unfold fX12_literalOut_j15 at hf
  refine lv_aload_n hx hb dX12_literalOut_15 rfl (lv_at hl 0 rfl) ?_
  refine lv_aload_n hx hb dX12_literalOut_16 rfl (lv_at hl 0 rfl) ?_
  refine ok_ref F K fX12_40 dX12_literalOut_17 ?_
  refine lv_iload_n hx hb dX12_literalOut_20 rfl (lv_at hl 1 rfl) ?_
  obtain ⟨v1, hv1, hf⟩ := g_bd hf
  refine ok_iald F K t110 hv1 dX12_literalOut_21 ?_
  refine lv_iload_n hx hb dX12_literalOut_22 rfl (lv_at hl 2 rfl) ?_
  obtain ⟨u2, hu2, hf⟩ := g_bd hf
  refine ok_callv (rest := []) F K (pX12_termOut G hu2) mX12_termOut oc100 lX12_534 rfl hl.1 rfl ⟨⟨rfl, rfl⟩, Nat.le_of_ble_eq_true rfl, Nat.le_of_ble_eq_true rfl⟩ (Nat.le_of_ble_eq_true rfl) dX12_literalOut_23 (fun H locs K => ?_)
  exact ok_retv B K hf dX12_literalOut_26
set_option maxRecDepth 100000 in
set_option maxHeartbeats 4000000 in
theorem pX12_literalOut {l : Launch} (G : Gt) {a0 : Int32} {a1 : Int32} {u u' : St} (hf : fX12_literalOut a0 a1 u = some u') : Ctr 100 77 l yX12_literalOut cX12_literalOut 3 none rmX12_literalOut [.ref (G.1 100), .int a0, .int a1] G u none u' := by
  refine Ctr.mk (by decide) (Nat.le_of_ble_eq_true rfl) (fun p e s m below meth c A ls B K hl => ?_)
  have F := B.1
  have hx := F.1
  have hb := F.2.1
  have hl : lv_has ls 3 [(0, .ref (G.1 100)), (1, .int a0), (2, .int a1)] := hl
  unfold fX12_literalOut at hf
  refine lv_aload_n hx hb dX12_literalOut_0 rfl (lv_at hl 0 rfl) ?_
  refine ok_ref F K fX12_37 dX12_literalOut_1 ?_
  refine lv_iload_n hx hb dX12_literalOut_4 rfl (lv_at hl 1 rfl) ?_
  obtain ⟨v3, hv3, hf⟩ := g_bd hf
  refine ok_zald F K t109 hv3 dX12_literalOut_5 ?_
  refine lv_if_eq (pc := 6) (tgt := 15) hx hb dX12_literalOut_6 (by decide) (fun c4 => ?_) (fun c4 => ?_)
  · have hf := g_pos hf c4
    exact pX12_literalOut_j15  B a0 a1 u _ _ _ hf K (lv_sub hl [0, 1, 2] rfl)
  · have hf := g_neg hf c4
    refine lv_aload_n hx hb dX12_literalOut_9 rfl (lv_at hl 0 rfl) ?_
    refine lv_bipush (v := 126) hx hb dX12_literalOut_10 kB_126 ?_
    obtain ⟨u5, hu5, hf⟩ := g_bd hf
    refine ok_callv (rest := []) F K (pX12_put G hu5) mX12_put oc100 lX12_499 rfl hl.1 rfl ⟨⟨rfl, rfl⟩, Nat.le_of_ble_eq_true rfl, Nat.le_of_ble_eq_true rfl⟩ (Nat.le_of_ble_eq_true rfl) dX12_literalOut_12 (fun H locs K => ?_)
    exact pX12_literalOut_j15  B a0 a1 u5 _ _ _ hf K (lv_sub hl [0, 1, 2] rfl)
abbrev rmX12_clauseOut : Room := { frames := 5, cells := 0, slots := 0, locals := 115 }
set_option maxRecDepth 100000 in
set_option maxHeartbeats 4000000 in
theorem pX12_clauseOut_L0 {p : Program} {l : Launch} {e : Env} {s : State} {m : MethodId} {below : List Frame} {meth : Method} {c : Code} {A : Nat → Prop} {G : Gt} {a0 : Int32} {a1 : Int32} {u' : St} (B : Bd p s m [.ref (G.1 100), .int a0, .int a1] meth c yX12_clauseOut cX12_clauseOut 4 none) (n : Nat) : (∀ (x1_ : Int32) (x2_ : Int32) (x3_ : Int32) (u : St) (H : Heap) (locs : List Loc) (ls : Array Slot), fX12_clauseOut_L0  n 0 x1_ x2_ x3_ u = some u' → Ok 100 77 G A s u H locs → lv_has ls 4 [(0, .ref (G.1 100)), (1, .int x1_), (2, .int x2_), (3, .int x3_)] → W p l e rmX12_clauseOut s m ([.ref (G.1 100), .int a0, .int a1] : List Value).toArray below meth c H locs 0 0 (MQ below (Qg 100 77 G A none u') ([.ref (G.1 100), .int a0, .int a1] : List Value).toArray s 0 0 A) (F0 m 2 ls [])) ∧ (∀ (x1_ : Int32) (x2_ : Int32) (x3_ : Int32) (u : St) (H : Heap) (locs : List Loc) (ls : Array Slot), fX12_clauseOut_L0  n 1 x1_ x2_ x3_ u = some u' → Ok 100 77 G A s u H locs → lv_has ls 4 [(0, .ref (G.1 100)), (1, .int x1_), (2, .int x2_), (3, .int x3_)] → W p l e rmX12_clauseOut s m ([.ref (G.1 100), .int a0, .int a1] : List Value).toArray below meth c H locs 0 0 (MQ below (Qg 100 77 G A none u') ([.ref (G.1 100), .int a0, .int a1] : List Value).toArray s 0 0 A) (F0 m 22 ls [])) := by
  have F := B.1
  have hx := F.1
  have hb := F.2.1
  induction n with
  | zero => exact ⟨fun _ _ _ _ _ _ _ hf => g_no hf, fun _ _ _ _ _ _ _ hf => g_no hf⟩
  | succ n ih =>
    refine ⟨?_, ?_⟩
    · intro x1_ x2_ x3_ u H locs ls hf K hl
      have hf : fX12_clauseOut_L0_0  (fX12_clauseOut_L0  n) x1_ x2_ x3_ u = some u' := hf
      unfold fX12_clauseOut_L0_0 at hf
      refine lv_iload_n hx hb dX12_clauseOut_2 rfl (lv_at hl 3 rfl) ?_
      refine lv_aload_n hx hb dX12_clauseOut_3 rfl (lv_at hl 0 rfl) ?_
      refine ok_ref F K fX12_31 dX12_clauseOut_4 ?_
      refine lv_iload_n hx hb dX12_clauseOut_7 rfl (lv_at hl 1 rfl) ?_
      obtain ⟨v1, hv1, hf⟩ := g_bd hf
      refine ok_iald F K t107 hv1 dX12_clauseOut_8 ?_
      refine lv_icmp_ge (pc := 9) (tgt := 41) hx hb dX12_clauseOut_9 (by decide) (fun c2 => ?_) (fun c2 => ?_)
      · have hf := g_pos hf c2
        refine lv_aload_n hx hb dX12_clauseOut_41 rfl (lv_at hl 0 rfl) ?_
        refine ok_ref F K fX12_31 dX12_clauseOut_42 ?_
        refine lv_iload_n hx hb dX12_clauseOut_45 rfl (lv_at hl 1 rfl) ?_
        obtain ⟨v3, hv3, hf⟩ := g_bd hf
        refine ok_iald F K t107 hv3 dX12_clauseOut_46 ?_
        refine lv_if_ne (pc := 47) (tgt := 56) hx hb dX12_clauseOut_47 (by decide) (fun c4 => ?_) (fun c4 => ?_)
        · have hf := g_neg hf c4
          exact ok_retv B K hf dX12_clauseOut_56
        · have hf := g_pos hf c4
          refine lv_aload_n hx hb dX12_clauseOut_50 rfl (lv_at hl 0 rfl) ?_
          refine lv_bipush (v := 36) hx hb dX12_clauseOut_51 kB_36 ?_
          obtain ⟨u5, hu5, hf⟩ := g_bd hf
          refine ok_callv (rest := []) F K (pX12_put G hu5) mX12_put oc100 lX12_499 rfl hl.1 rfl ⟨⟨rfl, rfl⟩, Nat.le_of_ble_eq_true rfl, Nat.le_of_ble_eq_true rfl⟩ (Nat.le_of_ble_eq_true rfl) dX12_clauseOut_53 (fun H locs K => ?_)
          exact ok_retv B K hf dX12_clauseOut_56
      · have hf := g_neg hf c2
        refine lv_iload_n hx hb dX12_clauseOut_12 rfl (lv_at hl 3 rfl) ?_
        refine lv_if_le (pc := 13) (tgt := 22) hx hb dX12_clauseOut_13 (by decide) (fun c6 => ?_) (fun c6 => ?_)
        · have hf := g_pos hf c6
          exact ih.2 x1_ x2_ x3_ u _ _ _ hf K (lv_sub hl [0, 1, 2, 3] rfl)
        · have hf := g_neg hf c6
          refine lv_aload_n hx hb dX12_clauseOut_16 rfl (lv_at hl 0 rfl) ?_
          refine lv_bipush (v := 124) hx hb dX12_clauseOut_17 kB_124 ?_
          obtain ⟨u7, hu7, hf⟩ := g_bd hf
          refine ok_callv (rest := []) F K (pX12_put G hu7) mX12_put oc100 lX12_499 rfl hl.1 rfl ⟨⟨rfl, rfl⟩, Nat.le_of_ble_eq_true rfl, Nat.le_of_ble_eq_true rfl⟩ (Nat.le_of_ble_eq_true rfl) dX12_clauseOut_19 (fun H locs K => ?_)
          exact ih.2 x1_ x2_ x3_ u7 _ _ _ hf K (lv_sub hl [0, 1, 2, 3] rfl)
    · intro x1_ x2_ x3_ u H locs ls hf K hl
      have hf : fX12_clauseOut_L0_1  (fX12_clauseOut_L0  n) x1_ x2_ x3_ u = some u' := hf
      unfold fX12_clauseOut_L0_1 at hf
      refine lv_aload_n hx hb dX12_clauseOut_22 rfl (lv_at hl 0 rfl) ?_
      refine lv_aload_n hx hb dX12_clauseOut_23 rfl (lv_at hl 0 rfl) ?_
      refine ok_ref F K fX12_28 dX12_clauseOut_24 ?_
      refine lv_iload_n hx hb dX12_clauseOut_27 rfl (lv_at hl 1 rfl) ?_
      obtain ⟨v8, hv8, hf⟩ := g_bd hf
      refine ok_iald F K t106 hv8 dX12_clauseOut_28 ?_
      refine lv_iload_n hx hb dX12_clauseOut_29 rfl (lv_at hl 3 rfl) ?_
      refine lv_iadd hx hb dX12_clauseOut_30 ?_
      refine lv_iload_n hx hb dX12_clauseOut_31 rfl (lv_at hl 2 rfl) ?_
      obtain ⟨u9, hu9, hf⟩ := g_bd hf
      refine ok_callv (rest := []) F K (pX12_literalOut G hu9) mX12_literalOut oc100 lX12_537 rfl hl.1 rfl ⟨⟨rfl, rfl⟩, Nat.le_of_ble_eq_true rfl, Nat.le_of_ble_eq_true rfl⟩ (Nat.le_of_ble_eq_true rfl) dX12_clauseOut_32 (fun H locs K => ?_)
      obtain ⟨x10, ex10⟩ : ∃ y : Int32, y = x3_ + 1 := ⟨_, rfl⟩
      have hf := g_lt hf x10 ex10
      refine lv_iinc (v := x10) (lv' := [(3, .int x10), (0, .ref (G.1 100)), (1, .int x1_), (2, .int x2_)]) hx hb dX12_clauseOut_35 hl (k := 3) rfl (by rw [kI_1, ex10]) (by decide) rfl (fun ls hl => ?_)
      refine lv_goto (pc := 38) (tgt := 2) hx hb dX12_clauseOut_38 (by decide) ?_
      exact ih.1 x1_ x2_ x10 u9 _ _ _ hf K (lv_sub hl [1, 2, 3, 0] rfl)
set_option maxRecDepth 100000 in
set_option maxHeartbeats 4000000 in
theorem pX12_clauseOut {l : Launch} (G : Gt) {a0 : Int32} {a1 : Int32} {u u' : St} (hf : fX12_clauseOut a0 a1 u = some u') : Ctr 100 77 l yX12_clauseOut cX12_clauseOut 4 none rmX12_clauseOut [.ref (G.1 100), .int a0, .int a1] G u none u' := by
  refine Ctr.mk (by decide) (Nat.le_of_ble_eq_true rfl) (fun p e s m below meth c A ls B K hl => ?_)
  have F := B.1
  have hx := F.1
  have hb := F.2.1
  have hl : lv_has ls 4 [(0, .ref (G.1 100)), (1, .int a0), (2, .int a1)] := hl
  unfold fX12_clauseOut at hf
  refine lv_iconst (v := 0) hx hb dX12_clauseOut_0 kI_0 ?_
  refine lv_topi (fun x11 ex11 => ?_)
  have hf := g_lt hf x11 ex11
  refine lv_istore_n (lv' := [(3, .int x11), (0, .ref (G.1 100)), (1, .int a0), (2, .int a1)]) hx hb dX12_clauseOut_1 rfl hl (by decide) rfl (fun ls hl => ?_)
  exact (pX12_clauseOut_L0  B FU).1 a0 a1 x11 u _ _ _ hf K (lv_sub hl [1, 2, 3, 0] rfl)
abbrev rmX12_forget : Room := { frames := 0, cells := 0, slots := 0, locals := 0 }
set_option maxRecDepth 100000 in
set_option maxHeartbeats 4000000 in
theorem pX12_forget {l : Launch} (G : Gt) {u u' : St} (hf : fX12_forget u = some u') : Ctr 100 77 l yX12_forget cX12_forget 1 none rmX12_forget [.ref (G.1 100)] G u none u' := by
  refine Ctr.mk (by decide) (Nat.le_of_ble_eq_true rfl) (fun p e s m below meth c A ls B K hl => ?_)
  have F := B.1
  have hx := F.1
  have hb := F.2.1
  have hl : lv_has ls 1 [(0, .ref (G.1 100))] := hl
  unfold fX12_forget at hf
  refine lv_aload_n hx hb dX12_forget_0 rfl (lv_at hl 0 rfl) ?_
  refine lv_iconst (v := 0) hx hb dX12_forget_1 kI_0 ?_
  refine ok_putI F K qX12_484 dX12_forget_2 (fun u1 H locs eu1 K => ?_)
  have hf := g_lt hf u1 eu1
  refine lv_aload_n hx hb dX12_forget_5 rfl (lv_at hl 0 rfl) ?_
  refine lv_iconst (v := 0) hx hb dX12_forget_6 kI_0 ?_
  refine ok_putI F K qX12_487 dX12_forget_7 (fun u2 H locs eu2 K => ?_)
  have hf := g_lt hf u2 eu2
  refine lv_aload_n hx hb dX12_forget_10 rfl (lv_at hl 0 rfl) ?_
  refine lv_iconst (v := 0) hx hb dX12_forget_11 kI_0 ?_
  refine ok_putI F K qX12_490 dX12_forget_12 (fun u3 H locs eu3 K => ?_)
  have hf := g_lt hf u3 eu3
  exact ok_retv B K hf dX12_forget_15
abbrev rmX12_clear : Room := { frames := 1, cells := 0, slots := 0, locals := 20 }
set_option maxRecDepth 100000 in
set_option maxHeartbeats 4000000 in
theorem pX12_clear {l : Launch} (G : Gt) {r : Int32} {u u' : St} (hf : fX12_clear u = some (r, u')) : Ctr 100 77 l yX12_clear cX12_clear 2 (some .int) rmX12_clear [.ref (G.1 100)] G u (some (.int r)) u' := by
  refine Ctr.mk (by decide) (Nat.le_of_ble_eq_true rfl) (fun p e s m below meth c A ls B K hl => ?_)
  have F := B.1
  have hx := F.1
  have hb := F.2.1
  have hl : lv_has ls 2 [(0, .ref (G.1 100))] := hl
  unfold fX12_clear at hf
  refine lv_aload_n hx hb dX12_clear_0 rfl (lv_at hl 0 rfl) ?_
  refine lv_iconst (v := 0) hx hb dX12_clear_1 kI_0 ?_
  refine ok_putI F K qX12_241 dX12_clear_2 (fun u1 H locs eu1 K => ?_)
  have hf := g_lt hf u1 eu1
  refine lv_aload_n hx hb dX12_clear_5 rfl (lv_at hl 0 rfl) ?_
  refine ok_int F K fX12_445 dX12_clear_6 ?_
  refine lv_topi (fun x2 ex2 => ?_)
  have hf := g_lt hf x2 ex2
  refine lv_istore_n (lv' := [(1, .int x2), (0, .ref (G.1 100))]) hx hb dX12_clear_9 rfl hl (by decide) rfl (fun ls hl => ?_)
  refine lv_aload_n hx hb dX12_clear_10 rfl (lv_at hl 1 rfl) ?_
  refine lv_iconst (v := 0) hx hb dX12_clear_11 kI_0 ?_
  refine ok_putI F K qX12_445 dX12_clear_12 (fun u3 H locs eu3 K => ?_)
  have hf := g_lt hf u3 eu3
  refine lv_aload_n hx hb dX12_clear_15 rfl (lv_at hl 1 rfl) ?_
  refine lv_iconst (v := 0) hx hb dX12_clear_16 kI_0 ?_
  refine ok_putI F K qX12_448 dX12_clear_17 (fun u4 H locs eu4 K => ?_)
  have hf := g_lt hf u4 eu4
  refine lv_aload_n hx hb dX12_clear_20 rfl (lv_at hl 1 rfl) ?_
  refine lv_iconst (v := 0) hx hb dX12_clear_21 kI_0 ?_
  refine ok_putI F K qX12_451 dX12_clear_22 (fun u5 H locs eu5 K => ?_)
  have hf := g_lt hf u5 eu5
  refine lv_aload_n hx hb dX12_clear_25 rfl (lv_at hl 1 rfl) ?_
  refine lv_iconst (v := 0) hx hb dX12_clear_26 kI_0 ?_
  refine ok_putI F K qX12_344 dX12_clear_27 (fun u6 H locs eu6 K => ?_)
  have hf := g_lt hf u6 eu6
  refine lv_aload_n hx hb dX12_clear_30 rfl (lv_at hl 1 rfl) ?_
  refine lv_iconst (v := 0) hx hb dX12_clear_31 kI_0 ?_
  refine ok_putI F K qX12_388 dX12_clear_32 (fun u7 H locs eu7 K => ?_)
  have hf := g_lt hf u7 eu7
  refine lv_aload_n hx hb dX12_clear_35 rfl (lv_at hl 1 rfl) ?_
  obtain ⟨u8, hu8, hf⟩ := g_bd hf
  refine ok_callv (rest := []) F K (pX12_forget G hu8) mX12_forget oc100 lX12_481 rfl hl.1 rfl ⟨⟨rfl, rfl⟩, Nat.le_of_ble_eq_true rfl, Nat.le_of_ble_eq_true rfl⟩ (Nat.le_of_ble_eq_true rfl) dX12_clear_36 (fun H locs K => ?_)
  refine lv_iload_n hx hb dX12_clear_39 rfl (lv_at hl 0 rfl) ?_
  exact ok_reti B K hf dX12_clear_40
abbrev rmX12_comes : Room := { frames := 0, cells := 0, slots := 0, locals := 0 }
set_option maxRecDepth 100000 in
set_option maxHeartbeats 4000000 in
theorem pX12_comes_L0 {p : Program} {l : Launch} {e : Env} {s : State} {m : MethodId} {below : List Frame} {meth : Method} {c : Code} {A : Nat → Prop} {G : Gt} {a0 : Int32} {a1 : Int32} {a2 : Int32} {a3 : Int32} {a4 : Int32} {r : Int32} {u' : St} (B : Bd p s m [.ref (G.1 100), .int a0, .int a1, .int a2, .int a3, .int a4] meth c yX12_comes cX12_comes 9 (some .int)) (n : Nat) : (∀ (x1_ : Int32) (x2_ : Int32) (x3_ : Int32) (x4_ : Int32) (x6_ : Int32) (x7_ : Int32) (u : St) (H : Heap) (locs : List Loc) (ls : Array Slot), fX12_comes_L0  n 0 x1_ x2_ x3_ x4_ x6_ x7_ 0 0 0 u = some (r, u') → Ok 100 77 G A s u H locs → lv_has ls 9 [(0, .ref (G.1 100)), (1, .int x1_), (2, .int x2_), (3, .int x3_), (4, .int x4_), (6, .int x6_), (7, .int x7_)] → W p l e rmX12_comes s m ([.ref (G.1 100), .int a0, .int a1, .int a2, .int a3, .int a4] : List Value).toArray below meth c H locs 0 0 (MQ below (Qg 100 77 G A (some (.int r)) u') ([.ref (G.1 100), .int a0, .int a1, .int a2, .int a3, .int a4] : List Value).toArray s 0 0 A) (F0 m 14 ls [])) ∧ (∀ (x1_ : Int32) (x2_ : Int32) (x3_ : Int32) (x4_ : Int32) (x6_ : Int32) (x7_ : Int32) (x8_ : Int32) (s0_ : Int32) (s1_ : Int32) (u : St) (H : Heap) (locs : List Loc) (ls : Array Slot), fX12_comes_L0  n 1 x1_ x2_ x3_ x4_ x6_ x7_ x8_ s0_ s1_ u = some (r, u') → Ok 100 77 G A s u H locs → lv_has ls 9 [(0, .ref (G.1 100)), (1, .int x1_), (2, .int x2_), (3, .int x3_), (4, .int x4_), (6, .int x6_), (7, .int x7_), (8, .int x8_)] → W p l e rmX12_comes s m ([.ref (G.1 100), .int a0, .int a1, .int a2, .int a3, .int a4] : List Value).toArray below meth c H locs 0 0 (MQ below (Qg 100 77 G A (some (.int r)) u') ([.ref (G.1 100), .int a0, .int a1, .int a2, .int a3, .int a4] : List Value).toArray s 0 0 A) (F0 m 99 ls [.int s1_, .int s0_, .ref (G.1 153)])) := by
  have F := B.1
  have hx := F.1
  have hb := F.2.1
  induction n with
  | zero => exact ⟨fun _ _ _ _ _ _ _ _ _ _ hf => g_no hf, fun _ _ _ _ _ _ _ _ _ _ _ _ _ hf => g_no hf⟩
  | succ n ih =>
    refine ⟨?_, ?_⟩
    · intro x1_ x2_ x3_ x4_ x6_ x7_ u H locs ls hf K hl
      have hf : fX12_comes_L0_0  (fX12_comes_L0  n) x1_ x2_ x3_ x4_ x6_ x7_ u = some (r, u') := hf
      unfold fX12_comes_L0_0 at hf
      refine lv_iload hx hb dX12_comes_14 (lv_at hl 6 rfl) ?_
      refine lv_if_lt (pc := 16) (tgt := 119) hx hb dX12_comes_16 (by decide) (fun c1 => ?_) (fun c1 => ?_)
      · have hf := g_pos hf c1
        refine lv_iload hx hb dX12_comes_119 (lv_at hl 5 rfl) ?_
        exact ok_reti B K hf dX12_comes_121
      · have hf := g_neg hf c1
        refine lv_iload hx hb dX12_comes_19 (lv_at hl 6 rfl) ?_
        refine lv_iload_n hx hb dX12_comes_21 rfl (lv_at hl 2 rfl) ?_
        refine lv_icmp_ne (pc := 22) (tgt := 28) hx hb dX12_comes_22 (by decide) (fun c2 => ?_) (fun c2 => ?_)
        · have hf := g_neg hf c2
          refine lv_aload_n hx hb dX12_comes_28 rfl (lv_at hl 0 rfl) ?_
          refine ok_int F K fX12_593 dX12_comes_29 ?_
          refine lv_topi (fun x3 ex3 => ?_)
          have hf := g_lt hf x3 ex3
          refine lv_istore (lv' := [(8, .int x3), (0, .ref (G.1 100)), (1, .int x1_), (2, .int x2_), (3, .int x3_), (4, .int x4_), (6, .int x6_), (7, .int x7_)]) hx hb dX12_comes_32 hl (by decide) rfl (fun ls hl => ?_)
          refine lv_aload_n hx hb dX12_comes_34 rfl (lv_at hl 1 rfl) ?_
          refine lv_dup hx hb dX12_comes_35 rfl ?_
          refine ok_int F K fX12_593 dX12_comes_36 ?_
          refine lv_iconst (v := 1) hx hb dX12_comes_39 kI_1 ?_
          refine lv_iadd hx hb dX12_comes_40 ?_
          refine ok_putI F K qX12_593 dX12_comes_41 (fun u4 H locs eu4 K => ?_)
          have hf := g_lt hf u4 eu4
          refine lv_aload_n hx hb dX12_comes_44 rfl (lv_at hl 1 rfl) ?_
          refine ok_ref F K fX12_160 dX12_comes_45 ?_
          refine lv_iload hx hb dX12_comes_48 (lv_at hl 0 rfl) ?_
          refine lv_aload_n hx hb dX12_comes_50 rfl (lv_at hl 1 rfl) ?_
          refine ok_ref F K fX12_28 dX12_comes_51 ?_
          refine lv_iload_n hx hb dX12_comes_54 rfl (lv_at hl 2 rfl) ?_
          obtain ⟨v5, hv5, hf⟩ := g_bd hf
          refine ok_iald F K t106 hv5 dX12_comes_55 ?_
          refine lv_iload hx hb dX12_comes_56 (lv_at hl 7 rfl) ?_
          refine lv_iadd hx hb dX12_comes_58 ?_
          obtain ⟨u6, hu6, hf⟩ := g_bd hf
          refine ok_iast F K t150 hu6 dX12_comes_59 (fun H locs K => ?_)
          refine lv_aload_n hx hb dX12_comes_60 rfl (lv_at hl 1 rfl) ?_
          refine ok_ref F K fX12_163 dX12_comes_61 ?_
          refine lv_iload hx hb dX12_comes_64 (lv_at hl 0 rfl) ?_
          refine lv_iload hx hb dX12_comes_66 (lv_at hl 5 rfl) ?_
          obtain ⟨u7, hu7, hf⟩ := g_bd hf
          refine ok_iast F K t151 hu7 dX12_comes_68 (fun H locs K => ?_)
          refine lv_aload_n hx hb dX12_comes_69 rfl (lv_at hl 1 rfl) ?_
          refine ok_ref F K fX12_166 dX12_comes_70 ?_
          refine lv_iload hx hb dX12_comes_73 (lv_at hl 0 rfl) ?_
          refine lv_iload_n hx hb dX12_comes_75 rfl (lv_at hl 4 rfl) ?_
          obtain ⟨u8, hu8, hf⟩ := g_bd hf
          refine ok_iast F K t152 hu8 dX12_comes_76 (fun H locs K => ?_)
          refine lv_aload_n hx hb dX12_comes_77 rfl (lv_at hl 1 rfl) ?_
          refine ok_ref F K fX12_169 dX12_comes_78 ?_
          refine lv_iload hx hb dX12_comes_81 (lv_at hl 0 rfl) ?_
          refine lv_iload_n hx hb dX12_comes_83 rfl (lv_at hl 4 rfl) ?_
          refine lv_if_ge (pc := 84) (tgt := 91) hx hb dX12_comes_84 (by decide) (fun c9 => ?_) (fun c9 => ?_)
          · have hf := g_pos hf c9
            refine lv_aload_n hx hb dX12_comes_91 rfl (lv_at hl 1 rfl) ?_
            refine ok_ref F K fX12_169 dX12_comes_92 ?_
            refine lv_iload_n hx hb dX12_comes_95 rfl (lv_at hl 4 rfl) ?_
            obtain ⟨v10, hv10, hf⟩ := g_bd hf
            refine ok_iald F K t153 hv10 dX12_comes_96 ?_
            refine lv_iconst (v := 1) hx hb dX12_comes_97 kI_1 ?_
            refine lv_iadd hx hb dX12_comes_98 ?_
            exact ih.2 x1_ x2_ x3_ x4_ x6_ x7_ x3 x3 (v10 + 1) u8 _ _ _ hf K (lv_sub hl [1, 2, 3, 4, 5, 6, 7, 0] rfl)
          · have hf := g_neg hf c9
            refine lv_iconst (v := 0) hx hb dX12_comes_87 kI_0 ?_
            refine lv_goto (pc := 88) (tgt := 99) hx hb dX12_comes_88 (by decide) ?_
            exact ih.2 x1_ x2_ x3_ x4_ x6_ x7_ x3 x3 0 u8 _ _ _ hf K (lv_sub hl [1, 2, 3, 4, 5, 6, 7, 0] rfl)
        · have hf := g_pos hf c2
          refine lv_goto (pc := 25) (tgt := 113) hx hb dX12_comes_25 (by decide) ?_
          obtain ⟨x11, ex11⟩ : ∃ y : Int32, y = x7_ + (-1) := ⟨_, rfl⟩
          have hf := g_lt hf x11 ex11
          refine lv_iinc (v := x11) (lv' := [(7, .int x11), (0, .ref (G.1 100)), (1, .int x1_), (2, .int x2_), (3, .int x3_), (4, .int x4_), (6, .int x6_)]) hx hb dX12_comes_113 hl (k := 6) rfl (by rw [kI_m1, ex11]) (by decide) rfl (fun ls hl => ?_)
          refine lv_goto (pc := 116) (tgt := 14) hx hb dX12_comes_116 (by decide) ?_
          exact ih.1 x1_ x2_ x3_ x4_ x6_ x11 u _ _ _ hf K (lv_sub hl [1, 2, 3, 4, 5, 6, 0] rfl)
    · intro x1_ x2_ x3_ x4_ x6_ x7_ x8_ s0_ s1_ u H locs ls hf K hl
      have hf : fX12_comes_L0_1  (fX12_comes_L0  n) x1_ x2_ x3_ x4_ x6_ x7_ x8_ s0_ s1_ u = some (r, u') := hf
      unfold fX12_comes_L0_1 at hf
      obtain ⟨u12, hu12, hf⟩ := g_bd hf
      refine ok_iast F K t153 hu12 dX12_comes_99 (fun H locs K => ?_)
      refine lv_aload_n hx hb dX12_comes_100 rfl (lv_at hl 0 rfl) ?_
      refine ok_ref F K fX12_211 dX12_comes_101 ?_
      refine lv_iload hx hb dX12_comes_104 (lv_at hl 7 rfl) ?_
      refine lv_iload hx hb dX12_comes_106 (lv_at hl 5 rfl) ?_
      obtain ⟨u13, hu13, hf⟩ := g_bd hf
      refine ok_iast F K t167 hu13 dX12_comes_108 (fun H locs K => ?_)
      refine lv_iload hx hb dX12_comes_109 (lv_at hl 7 rfl) ?_
      refine lv_istore (lv' := [(6, .int x8_), (0, .ref (G.1 100)), (1, .int x1_), (2, .int x2_), (3, .int x3_), (4, .int x4_), (7, .int x7_), (8, .int x8_)]) hx hb dX12_comes_111 hl (by decide) rfl (fun ls hl => ?_)
      obtain ⟨x14, ex14⟩ : ∃ y : Int32, y = x7_ + (-1) := ⟨_, rfl⟩
      have hf := g_lt hf x14 ex14
      refine lv_iinc (v := x14) (lv' := [(7, .int x14), (6, .int x8_), (0, .ref (G.1 100)), (1, .int x1_), (2, .int x2_), (3, .int x3_), (4, .int x4_), (8, .int x8_)]) hx hb dX12_comes_113 hl (k := 6) rfl (by rw [kI_m1, ex14]) (by decide) rfl (fun ls hl => ?_)
      refine lv_goto (pc := 116) (tgt := 14) hx hb dX12_comes_116 (by decide) ?_
      exact ih.1 x1_ x2_ x3_ x4_ x8_ x14 u13 _ _ _ hf K (lv_sub hl [2, 3, 4, 5, 6, 1, 0] rfl)
set_option maxRecDepth 100000 in
set_option maxHeartbeats 4000000 in
theorem pX12_comes {l : Launch} (G : Gt) {a0 : Int32} {a1 : Int32} {a2 : Int32} {a3 : Int32} {a4 : Int32} {r : Int32} {u u' : St} (hf : fX12_comes a0 a1 a2 a3 a4 u = some (r, u')) : Ctr 100 77 l yX12_comes cX12_comes 9 (some .int) rmX12_comes [.ref (G.1 100), .int a0, .int a1, .int a2, .int a3, .int a4] G u (some (.int r)) u' := by
  refine Ctr.mk (by decide) (Nat.le_of_ble_eq_true rfl) (fun p e s m below meth c A ls B K hl => ?_)
  have F := B.1
  have hx := F.1
  have hb := F.2.1
  have hl : lv_has ls 9 [(0, .ref (G.1 100)), (1, .int a0), (2, .int a1), (3, .int a2), (4, .int a3), (5, .int a4)] := hl
  unfold fX12_comes at hf
  refine lv_iload hx hb dX12_comes_0 (lv_at hl 5 rfl) ?_
  refine lv_istore (lv' := [(6, .int a4), (0, .ref (G.1 100)), (1, .int a0), (2, .int a1), (3, .int a2), (4, .int a3), (5, .int a4)]) hx hb dX12_comes_2 hl (by decide) rfl (fun ls hl => ?_)
  refine lv_aload_n hx hb dX12_comes_4 rfl (lv_at hl 1 rfl) ?_
  refine ok_ref F K fX12_31 dX12_comes_5 ?_
  refine lv_iload_n hx hb dX12_comes_8 rfl (lv_at hl 2 rfl) ?_
  obtain ⟨v15, hv15, hf⟩ := g_bd hf
  refine ok_iald F K t107 hv15 dX12_comes_9 ?_
  refine lv_iconst (v := 1) hx hb dX12_comes_10 kI_1 ?_
  refine lv_isub hx hb dX12_comes_11 ?_
  refine lv_topi (fun x16 ex16 => ?_)
  have hf := g_lt hf x16 ex16
  refine lv_istore (lv' := [(7, .int x16), (6, .int a4), (0, .ref (G.1 100)), (1, .int a0), (2, .int a1), (3, .int a2), (4, .int a3), (5, .int a4)]) hx hb dX12_comes_12 hl (by decide) rfl (fun ls hl => ?_)
  exact (pX12_comes_L0  B FU).1 a0 a1 a2 a3 a4 x16 u _ _ _ hf K (lv_sub hl [2, 3, 4, 5, 6, 1, 0] rfl)
abbrev rmX12_count : Room := { frames := 0, cells := 0, slots := 0, locals := 0 }
set_option maxRecDepth 100000 in
set_option maxHeartbeats 4000000 in
theorem pX12_count {l : Launch} (G : Gt) {a0 : Int32} {r : Int32} {u u' : St} (hf : fX12_count a0 u = some (r, u')) : Ctr 100 77 l yX12_count cX12_count 2 (some .int) rmX12_count [.ref (G.1 100), .int a0] G u (some (.int r)) u' := by
  refine Ctr.mk (by decide) (Nat.le_of_ble_eq_true rfl) (fun p e s m below meth c A ls B K hl => ?_)
  have F := B.1
  have hx := F.1
  have hb := F.2.1
  have hl : lv_has ls 2 [(0, .ref (G.1 100)), (1, .int a0)] := hl
  unfold fX12_count at hf
  refine lv_aload_n hx hb dX12_count_0 rfl (lv_at hl 0 rfl) ?_
  refine lv_iconst (v := 0) hx hb dX12_count_1 kI_0 ?_
  refine ok_putI F K qX12_241 dX12_count_2 (fun u1 H locs eu1 K => ?_)
  have hf := g_lt hf u1 eu1
  refine lv_iload_n hx hb dX12_count_5 rfl (lv_at hl 1 rfl) ?_
  refine lv_if_ne (pc := 6) (tgt := 16) hx hb dX12_count_6 (by decide) (fun c2 => ?_) (fun c2 => ?_)
  · have hf := g_neg hf c2
    refine lv_iload_n hx hb dX12_count_16 rfl (lv_at hl 1 rfl) ?_
    refine lv_iconst (v := 1) hx hb dX12_count_17 kI_1 ?_
    refine lv_icmp_ne (pc := 18) (tgt := 28) hx hb dX12_count_18 (by decide) (fun c3 => ?_) (fun c3 => ?_)
    · have hf := g_neg hf c3
      refine lv_iload_n hx hb dX12_count_28 rfl (lv_at hl 1 rfl) ?_
      refine lv_iconst (v := 2) hx hb dX12_count_29 kI_2 ?_
      refine lv_icmp_ne (pc := 30) (tgt := 40) hx hb dX12_count_30 (by decide) (fun c4 => ?_) (fun c4 => ?_)
      · have hf := g_neg hf c4
        refine lv_bipush (v := (-2)) hx hb dX12_count_40 kB_m2 ?_
        exact ok_reti B K hf dX12_count_42
      · have hf := g_pos hf c4
        refine lv_aload_n hx hb dX12_count_33 rfl (lv_at hl 0 rfl) ?_
        refine ok_int F K fX12_388 dX12_count_34 ?_
        refine lv_goto (pc := 37) (tgt := 42) hx hb dX12_count_37 (by decide) ?_
        exact ok_reti B K hf dX12_count_42
    · have hf := g_pos hf c3
      refine lv_aload_n hx hb dX12_count_21 rfl (lv_at hl 0 rfl) ?_
      refine ok_int F K fX12_344 dX12_count_22 ?_
      refine lv_goto (pc := 25) (tgt := 42) hx hb dX12_count_25 (by decide) ?_
      exact ok_reti B K hf dX12_count_42
  · have hf := g_pos hf c2
    refine lv_aload_n hx hb dX12_count_9 rfl (lv_at hl 0 rfl) ?_
    refine ok_int F K fX12_445 dX12_count_10 ?_
    refine lv_goto (pc := 13) (tgt := 42) hx hb dX12_count_13 (by decide) ?_
    exact ok_reti B K hf dX12_count_42
abbrev rmX12_enter : Room := { frames := 0, cells := 0, slots := 0, locals := 0 }
set_option maxRecDepth 100000 in
set_option maxHeartbeats 4000000 in
theorem pX12_enter {l : Launch} (G : Gt) {a0 : Int32} {u u' : St} (hf : fX12_enter a0 u = some u') : Ctr 100 77 l yX12_enter cX12_enter 3 none rmX12_enter [.ref (G.1 100), .int a0] G u none u' := by
  refine Ctr.mk (by decide) (Nat.le_of_ble_eq_true rfl) (fun p e s m below meth c A ls B K hl => ?_)
  have F := B.1
  have hx := F.1
  have hb := F.2.1
  have hl : lv_has ls 3 [(0, .ref (G.1 100)), (1, .int a0)] := hl
  unfold fX12_enter at hf
  refine lv_aload_n hx hb dX12_enter_0 rfl (lv_at hl 0 rfl) ?_
  refine ok_int F K fX12_599 dX12_enter_1 ?_
  refine lv_topi (fun x1 ex1 => ?_)
  have hf := g_lt hf x1 ex1
  refine lv_istore_n (lv' := [(2, .int x1), (0, .ref (G.1 100)), (1, .int a0)]) hx hb dX12_enter_4 rfl hl (by decide) rfl (fun ls hl => ?_)
  refine lv_aload_n hx hb dX12_enter_5 rfl (lv_at hl 1 rfl) ?_
  refine lv_dup hx hb dX12_enter_6 rfl ?_
  refine ok_int F K fX12_599 dX12_enter_7 ?_
  refine lv_iconst (v := 1) hx hb dX12_enter_10 kI_1 ?_
  refine lv_iadd hx hb dX12_enter_11 ?_
  refine ok_putI F K qX12_599 dX12_enter_12 (fun u2 H locs eu2 K => ?_)
  have hf := g_lt hf u2 eu2
  refine lv_aload_n hx hb dX12_enter_15 rfl (lv_at hl 1 rfl) ?_
  refine ok_ref F K fX12_214 dX12_enter_16 ?_
  refine lv_iload_n hx hb dX12_enter_19 rfl (lv_at hl 0 rfl) ?_
  refine lv_iload_n hx hb dX12_enter_20 rfl (lv_at hl 2 rfl) ?_
  obtain ⟨u3, hu3, hf⟩ := g_bd hf
  refine ok_iast F K t168 hu3 dX12_enter_21 (fun H locs K => ?_)
  refine lv_aload_n hx hb dX12_enter_22 rfl (lv_at hl 1 rfl) ?_
  refine ok_ref F K fX12_217 dX12_enter_23 ?_
  refine lv_iload_n hx hb dX12_enter_26 rfl (lv_at hl 0 rfl) ?_
  refine lv_aload_n hx hb dX12_enter_27 rfl (lv_at hl 1 rfl) ?_
  refine ok_ref F K fX12_166 dX12_enter_28 ?_
  refine lv_iload_n hx hb dX12_enter_31 rfl (lv_at hl 2 rfl) ?_
  obtain ⟨v4, hv4, hf⟩ := g_bd hf
  refine ok_iald F K t152 hv4 dX12_enter_32 ?_
  obtain ⟨u5, hu5, hf⟩ := g_bd hf
  refine ok_iast F K t169 hu5 dX12_enter_33 (fun H locs K => ?_)
  refine lv_aload_n hx hb dX12_enter_34 rfl (lv_at hl 1 rfl) ?_
  refine ok_ref F K fX12_220 dX12_enter_35 ?_
  refine lv_iload_n hx hb dX12_enter_38 rfl (lv_at hl 0 rfl) ?_
  refine lv_iconst (v := 0) hx hb dX12_enter_39 kI_0 ?_
  obtain ⟨u6, hu6, hf⟩ := g_bd hf
  refine ok_iast F K t170 hu6 dX12_enter_40 (fun H locs K => ?_)
  refine lv_aload_n hx hb dX12_enter_41 rfl (lv_at hl 1 rfl) ?_
  refine ok_ref F K fX12_223 dX12_enter_42 ?_
  refine lv_iload_n hx hb dX12_enter_45 rfl (lv_at hl 0 rfl) ?_
  refine lv_iconst (v := 0) hx hb dX12_enter_46 kI_0 ?_
  obtain ⟨u7, hu7, hf⟩ := g_bd hf
  refine ok_iast F K t171 hu7 dX12_enter_47 (fun H locs K => ?_)
  refine lv_aload_n hx hb dX12_enter_48 rfl (lv_at hl 1 rfl) ?_
  refine ok_ref F K fX12_226 dX12_enter_49 ?_
  refine lv_iload_n hx hb dX12_enter_52 rfl (lv_at hl 0 rfl) ?_
  refine lv_aload_n hx hb dX12_enter_53 rfl (lv_at hl 1 rfl) ?_
  refine ok_int F K fX12_567 dX12_enter_54 ?_
  obtain ⟨u8, hu8, hf⟩ := g_bd hf
  refine ok_iast F K t172 hu8 dX12_enter_57 (fun H locs K => ?_)
  refine lv_aload_n hx hb dX12_enter_58 rfl (lv_at hl 1 rfl) ?_
  refine ok_ref F K fX12_229 dX12_enter_59 ?_
  refine lv_iload_n hx hb dX12_enter_62 rfl (lv_at hl 0 rfl) ?_
  refine lv_aload_n hx hb dX12_enter_63 rfl (lv_at hl 1 rfl) ?_
  refine ok_int F K fX12_590 dX12_enter_64 ?_
  obtain ⟨u9, hu9, hf⟩ := g_bd hf
  refine ok_iast F K t173 hu9 dX12_enter_67 (fun H locs K => ?_)
  refine lv_aload_n hx hb dX12_enter_68 rfl (lv_at hl 1 rfl) ?_
  refine ok_ref F K fX12_232 dX12_enter_69 ?_
  refine lv_iload_n hx hb dX12_enter_72 rfl (lv_at hl 0 rfl) ?_
  refine lv_aload_n hx hb dX12_enter_73 rfl (lv_at hl 1 rfl) ?_
  refine ok_int F K fX12_593 dX12_enter_74 ?_
  obtain ⟨u10, hu10, hf⟩ := g_bd hf
  refine ok_iast F K t174 hu10 dX12_enter_77 (fun H locs K => ?_)
  refine lv_aload_n hx hb dX12_enter_78 rfl (lv_at hl 1 rfl) ?_
  refine ok_ref F K fX12_235 dX12_enter_79 ?_
  refine lv_iload_n hx hb dX12_enter_82 rfl (lv_at hl 0 rfl) ?_
  refine lv_aload_n hx hb dX12_enter_83 rfl (lv_at hl 1 rfl) ?_
  refine ok_int F K fX12_596 dX12_enter_84 ?_
  obtain ⟨u11, hu11, hf⟩ := g_bd hf
  refine ok_iast F K t175 hu11 dX12_enter_87 (fun H locs K => ?_)
  refine lv_aload_n hx hb dX12_enter_88 rfl (lv_at hl 1 rfl) ?_
  refine ok_ref F K fX12_238 dX12_enter_89 ?_
  refine lv_iload_n hx hb dX12_enter_92 rfl (lv_at hl 0 rfl) ?_
  refine lv_aload_n hx hb dX12_enter_93 rfl (lv_at hl 1 rfl) ?_
  refine ok_int F K fX12_490 dX12_enter_94 ?_
  obtain ⟨u12, hu12, hf⟩ := g_bd hf
  refine ok_iast F K t176 hu12 dX12_enter_97 (fun H locs K => ?_)
  exact ok_retv B K hf dX12_enter_98
abbrev rmX12_mayStep : Room := { frames := 0, cells := 0, slots := 0, locals := 0 }
set_option maxRecDepth 100000 in
set_option maxHeartbeats 4000000 in
theorem pX12_mayStep {l : Launch} (G : Gt) {r : Int32} {u u' : St} (hf : fX12_mayStep u = some (r, u')) : Ctr 100 77 l yX12_mayStep cX12_mayStep 1 (some .boolean) rmX12_mayStep [.ref (G.1 100)] G u (some (.int r)) u' := by
  refine Ctr.mk (by decide) (Nat.le_of_ble_eq_true rfl) (fun p e s m below meth c A ls B K hl => ?_)
  have F := B.1
  have hx := F.1
  have hb := F.2.1
  have hl : lv_has ls 1 [(0, .ref (G.1 100))] := hl
  unfold fX12_mayStep at hf
  refine lv_aload_n hx hb dX12_mayStep_0 rfl (lv_at hl 0 rfl) ?_
  refine ok_int F K fX12_484 dX12_mayStep_1 ?_
  refine lv_aload_n hx hb dX12_mayStep_4 rfl (lv_at hl 0 rfl) ?_
  refine ok_int F K fX12_584 dX12_mayStep_5 ?_
  refine lv_icmp_ne (pc := 8) (tgt := 18) hx hb dX12_mayStep_8 (by decide) (fun c1 => ?_) (fun c1 => ?_)
  · have hf := g_neg hf c1
    refine lv_aload_n hx hb dX12_mayStep_18 rfl (lv_at hl 0 rfl) ?_
    refine lv_dup hx hb dX12_mayStep_19 rfl ?_
    refine ok_int F K fX12_484 dX12_mayStep_20 ?_
    refine lv_iconst (v := 1) hx hb dX12_mayStep_23 kI_1 ?_
    refine lv_iadd hx hb dX12_mayStep_24 ?_
    refine ok_putI F K qX12_484 dX12_mayStep_25 (fun u2 H locs eu2 K => ?_)
    have hf := g_lt hf u2 eu2
    refine lv_iconst (v := 1) hx hb dX12_mayStep_28 kI_1 ?_
    exact ok_retz B K hf (Or.inr rfl) dX12_mayStep_29
  · have hf := g_pos hf c1
    refine lv_aload_n hx hb dX12_mayStep_11 rfl (lv_at hl 0 rfl) ?_
    refine lv_iconst (v := 1) hx hb dX12_mayStep_12 kI_1 ?_
    refine ok_putZ F K qX12_587 (Or.inr rfl) dX12_mayStep_13 (fun u3 H locs eu3 K => ?_)
    have hf := g_lt hf u3 eu3
    refine lv_iconst (v := 0) hx hb dX12_mayStep_16 kI_0 ?_
    exact ok_retz B K hf (Or.inl rfl) dX12_mayStep_17
abbrev rmX12_newVariables : Room := { frames := 0, cells := 0, slots := 0, locals := 0 }
set_option maxRecDepth 100000 in
set_option maxHeartbeats 4000000 in
theorem pX12_newVariables_L0 {p : Program} {l : Launch} {e : Env} {s : State} {m : MethodId} {below : List Frame} {meth : Method} {c : Code} {A : Nat → Prop} {G : Gt} {a0 : Int32} {u' : St} (B : Bd p s m [.ref (G.1 100), .int a0] meth c yX12_newVariables cX12_newVariables 3 none) (n : Nat) : (∀ (x1_ : Int32) (x2_ : Int32) (u : St) (H : Heap) (locs : List Loc) (ls : Array Slot), fX12_newVariables_L0  n 0 x1_ x2_ u = some u' → Ok 100 77 G A s u H locs → lv_has ls 3 [(0, .ref (G.1 100)), (1, .int x1_), (2, .int x2_)] → W p l e rmX12_newVariables s m ([.ref (G.1 100), .int a0] : List Value).toArray below meth c H locs 0 0 (MQ below (Qg 100 77 G A none u') ([.ref (G.1 100), .int a0] : List Value).toArray s 0 0 A) (F0 m 2 ls [])) := by
  have F := B.1
  have hx := F.1
  have hb := F.2.1
  induction n with
  | zero => exact fun _ _ _ _ _ _ hf => g_no hf
  | succ n ih =>
    refine ?_
    · intro x1_ x2_ u H locs ls hf K hl
      have hf : fX12_newVariables_L0_0  (fX12_newVariables_L0  n) x1_ x2_ u = some u' := hf
      unfold fX12_newVariables_L0_0 at hf
      refine lv_iload_n hx hb dX12_newVariables_2 rfl (lv_at hl 2 rfl) ?_
      refine lv_iload_n hx hb dX12_newVariables_3 rfl (lv_at hl 1 rfl) ?_
      refine lv_icmp_ge (pc := 4) (tgt := 25) hx hb dX12_newVariables_4 (by decide) (fun c1 => ?_) (fun c1 => ?_)
      · have hf := g_pos hf c1
        refine lv_aload_n hx hb dX12_newVariables_25 rfl (lv_at hl 0 rfl) ?_
        refine lv_dup hx hb dX12_newVariables_26 rfl ?_
        refine ok_int F K fX12_590 dX12_newVariables_27 ?_
        refine lv_iload_n hx hb dX12_newVariables_30 rfl (lv_at hl 1 rfl) ?_
        refine lv_iadd hx hb dX12_newVariables_31 ?_
        refine ok_putI F K qX12_590 dX12_newVariables_32 (fun u2 H locs eu2 K => ?_)
        have hf := g_lt hf u2 eu2
        exact ok_retv B K hf dX12_newVariables_35
      · have hf := g_neg hf c1
        refine lv_aload_n hx hb dX12_newVariables_7 rfl (lv_at hl 0 rfl) ?_
        refine ok_ref F K fX12_172 dX12_newVariables_8 ?_
        refine lv_aload_n hx hb dX12_newVariables_11 rfl (lv_at hl 0 rfl) ?_
        refine ok_int F K fX12_590 dX12_newVariables_12 ?_
        refine lv_iload_n hx hb dX12_newVariables_15 rfl (lv_at hl 2 rfl) ?_
        refine lv_iadd hx hb dX12_newVariables_16 ?_
        refine lv_iconst (v := (-1)) hx hb dX12_newVariables_17 kI_m1 ?_
        obtain ⟨u3, hu3, hf⟩ := g_bd hf
        refine ok_iast F K t154 hu3 dX12_newVariables_18 (fun H locs K => ?_)
        obtain ⟨x4, ex4⟩ : ∃ y : Int32, y = x2_ + 1 := ⟨_, rfl⟩
        have hf := g_lt hf x4 ex4
        refine lv_iinc (v := x4) (lv' := [(2, .int x4), (0, .ref (G.1 100)), (1, .int x1_)]) hx hb dX12_newVariables_19 hl (k := 2) rfl (by rw [kI_1, ex4]) (by decide) rfl (fun ls hl => ?_)
        refine lv_goto (pc := 22) (tgt := 2) hx hb dX12_newVariables_22 (by decide) ?_
        exact ih x1_ x4 u3 _ _ _ hf K (lv_sub hl [1, 2, 0] rfl)
set_option maxRecDepth 100000 in
set_option maxHeartbeats 4000000 in
theorem pX12_newVariables {l : Launch} (G : Gt) {a0 : Int32} {u u' : St} (hf : fX12_newVariables a0 u = some u') : Ctr 100 77 l yX12_newVariables cX12_newVariables 3 none rmX12_newVariables [.ref (G.1 100), .int a0] G u none u' := by
  refine Ctr.mk (by decide) (Nat.le_of_ble_eq_true rfl) (fun p e s m below meth c A ls B K hl => ?_)
  have F := B.1
  have hx := F.1
  have hb := F.2.1
  have hl : lv_has ls 3 [(0, .ref (G.1 100)), (1, .int a0)] := hl
  unfold fX12_newVariables at hf
  refine lv_iconst (v := 0) hx hb dX12_newVariables_0 kI_0 ?_
  refine lv_topi (fun x5 ex5 => ?_)
  have hf := g_lt hf x5 ex5
  refine lv_istore_n (lv' := [(2, .int x5), (0, .ref (G.1 100)), (1, .int a0)]) hx hb dX12_newVariables_1 rfl hl (by decide) rfl (fun ls hl => ?_)
  exact (pX12_newVariables_L0  B FU) a0 x5 u _ _ _ hf K (lv_sub hl [1, 2, 0] rfl)
abbrev rmX12_tooMuch : Room := { frames := 0, cells := 0, slots := 0, locals := 0 }
set_option maxRecDepth 100000 in
set_option maxHeartbeats 4000000 in
theorem pX12_tooMuch_j43 {p : Program} {l : Launch} {e : Env} {s : State} {m : MethodId} {below : List Frame} {meth : Method} {c : Code} {A : Nat → Prop} {G : Gt} {a0 : Int32} {r : Int32} {u' : St} (B : Bd p s m [.ref (G.1 100), .int a0] meth c yX12_tooMuch cX12_tooMuch 2 (some .boolean)) (u : St) (H : Heap) (locs : List Loc) (ls : Array Slot) (hf : fX12_tooMuch_j43  u = some (r, u')) (K : Ok 100 77 G A s u H locs) (hl : lv_has ls 2 [(0, .ref (G.1 100))]) : W p l e rmX12_tooMuch s m ([.ref (G.1 100), .int a0] : List Value).toArray below meth c H locs 0 0 (MQ below (Qg 100 77 G A (some (.int r)) u') ([.ref (G.1 100), .int a0] : List Value).toArray s 0 0 A) (F0 m 43 ls [.ref (G.1 100)]) := by
  have F := B.1
  have hx := F.1
  have hb := F.2.1
  unfold fX12_tooMuch_j43 at hf
  refine lv_iconst (v := 1) hx hb dX12_tooMuch_43 kI_1 ?_
  refine lv_goto (pc := 44) (tgt := 48) hx hb dX12_tooMuch_44 (by decide) ?_
  refine ok_putZ F K qX12_552 (Or.inr rfl) dX12_tooMuch_48 (fun u1 H locs eu1 K => ?_)
  have hf := g_lt hf u1 eu1
  refine lv_aload_n hx hb dX12_tooMuch_51 rfl (lv_at hl 0 rfl) ?_
  refine ok_int F K fX12_552 dX12_tooMuch_52 ?_
  obtain ⟨z2, hz2, hf⟩ := g_bd hf
  exact ok_retz B K hf (g_zb hz2).2 dX12_tooMuch_55
set_option maxRecDepth 100000 in
set_option maxHeartbeats 4000000 in
theorem pX12_tooMuch {l : Launch} (G : Gt) {a0 : Int32} {r : Int32} {u u' : St} (hf : fX12_tooMuch a0 u = some (r, u')) : Ctr 100 77 l yX12_tooMuch cX12_tooMuch 2 (some .boolean) rmX12_tooMuch [.ref (G.1 100), .int a0] G u (some (.int r)) u' := by
  refine Ctr.mk (by decide) (Nat.le_of_ble_eq_true rfl) (fun p e s m below meth c A ls B K hl => ?_)
  have F := B.1
  have hx := F.1
  have hb := F.2.1
  have hl : lv_has ls 2 [(0, .ref (G.1 100)), (1, .int a0)] := hl
  unfold fX12_tooMuch at hf
  refine lv_aload_n hx hb dX12_tooMuch_0 rfl (lv_at hl 0 rfl) ?_
  refine lv_dup hx hb dX12_tooMuch_1 rfl ?_
  refine ok_int F K fX12_596 dX12_tooMuch_2 ?_
  refine lv_aload_n hx hb dX12_tooMuch_5 rfl (lv_at hl 0 rfl) ?_
  refine ok_ref F K fX12_31 dX12_tooMuch_6 ?_
  refine lv_iload_n hx hb dX12_tooMuch_9 rfl (lv_at hl 1 rfl) ?_
  obtain ⟨v3, hv3, hf⟩ := g_bd hf
  refine ok_iald F K t107 hv3 dX12_tooMuch_10 ?_
  refine lv_iadd hx hb dX12_tooMuch_11 ?_
  refine ok_putI F K qX12_596 dX12_tooMuch_12 (fun u4 H locs eu4 K => ?_)
  have hf := g_lt hf u4 eu4
  refine lv_aload_n hx hb dX12_tooMuch_15 rfl (lv_at hl 0 rfl) ?_
  refine lv_aload_n hx hb dX12_tooMuch_16 rfl (lv_at hl 0 rfl) ?_
  refine ok_int F K fX12_552 dX12_tooMuch_17 ?_
  refine lv_if_ne (pc := 20) (tgt := 43) hx hb dX12_tooMuch_20 (by decide) (fun c5 => ?_) (fun c5 => ?_)
  · have hf := g_neg hf c5
    exact pX12_tooMuch_j43  B  u4 _ _ _ hf K (lv_sub hl [0] rfl)
  · have hf := g_pos hf c5
    refine lv_aload_n hx hb dX12_tooMuch_23 rfl (lv_at hl 0 rfl) ?_
    refine ok_int F K fX12_596 dX12_tooMuch_24 ?_
    refine lv_sipush (v := 150) hx hb dX12_tooMuch_27 kS_150 ?_
    refine lv_icmp_gt (pc := 30) (tgt := 43) hx hb dX12_tooMuch_30 (by decide) (fun c6 => ?_) (fun c6 => ?_)
    · have hf := g_pos hf c6
      exact pX12_tooMuch_j43  B  u4 _ _ _ hf K (lv_sub hl [0] rfl)
    · have hf := g_neg hf c6
      refine lv_aload_n hx hb dX12_tooMuch_33 rfl (lv_at hl 0 rfl) ?_
      refine ok_int F K fX12_590 dX12_tooMuch_34 ?_
      refine lv_sipush (v := 200) hx hb dX12_tooMuch_37 kS_200 ?_
      refine lv_icmp_le (pc := 40) (tgt := 47) hx hb dX12_tooMuch_40 (by decide) (fun c7 => ?_) (fun c7 => ?_)
      · have hf := g_pos hf c7
        refine lv_iconst (v := 0) hx hb dX12_tooMuch_47 kI_0 ?_
        refine ok_putZ F K qX12_552 (Or.inl rfl) dX12_tooMuch_48 (fun u8 H locs eu8 K => ?_)
        have hf := g_lt hf u8 eu8
        refine lv_aload_n hx hb dX12_tooMuch_51 rfl (lv_at hl 0 rfl) ?_
        refine ok_int F K fX12_552 dX12_tooMuch_52 ?_
        obtain ⟨z9, hz9, hf⟩ := g_bd hf
        exact ok_retz B K hf (g_zb hz9).2 dX12_tooMuch_55
      · have hf := g_neg hf c7
        exact pX12_tooMuch_j43  B  u4 _ _ _ hf K (lv_sub hl [0] rfl)
abbrev rmX12_moved : Room := { frames := 0, cells := 0, slots := 0, locals := 0 }
set_option maxRecDepth 100000 in
set_option maxHeartbeats 4000000 in
theorem pX12_moved {l : Launch} (G : Gt) {a0 : Int32} {a1 : Int32} {a2 : Int32} {a3 : Int32} {u u' : St} (hf : fX12_moved a0 a1 a2 a3 u = some u') : Ctr 100 77 l yX12_moved cX12_moved 5 none rmX12_moved [.ref (G.1 100), .int a0, .int a1, .int a2, .int a3] G u none u' := by
  refine Ctr.mk (by decide) (Nat.le_of_ble_eq_true rfl) (fun p e s m below meth c A ls B K hl => ?_)
  have F := B.1
  have hx := F.1
  have hb := F.2.1
  have hl : lv_has ls 5 [(0, .ref (G.1 100)), (1, .int a0), (2, .int a1), (3, .int a2), (4, .int a3)] := hl
  unfold fX12_moved at hf
  refine lv_aload_n hx hb dX12_moved_0 rfl (lv_at hl 0 rfl) ?_
  refine ok_ref F K fX12_181 dX12_moved_1 ?_
  refine lv_aload_n hx hb dX12_moved_4 rfl (lv_at hl 0 rfl) ?_
  refine ok_int F K fX12_490 dX12_moved_5 ?_
  refine lv_iload_n hx hb dX12_moved_8 rfl (lv_at hl 1 rfl) ?_
  obtain ⟨u1, hu1, hf⟩ := g_bd hf
  refine ok_iast F K t157 hu1 dX12_moved_9 (fun H locs K => ?_)
  refine lv_aload_n hx hb dX12_moved_10 rfl (lv_at hl 0 rfl) ?_
  refine ok_ref F K fX12_184 dX12_moved_11 ?_
  refine lv_aload_n hx hb dX12_moved_14 rfl (lv_at hl 0 rfl) ?_
  refine ok_int F K fX12_490 dX12_moved_15 ?_
  refine lv_iload_n hx hb dX12_moved_18 rfl (lv_at hl 2 rfl) ?_
  obtain ⟨u2, hu2, hf⟩ := g_bd hf
  refine ok_iast F K t158 hu2 dX12_moved_19 (fun H locs K => ?_)
  refine lv_aload_n hx hb dX12_moved_20 rfl (lv_at hl 0 rfl) ?_
  refine ok_ref F K fX12_187 dX12_moved_21 ?_
  refine lv_aload_n hx hb dX12_moved_24 rfl (lv_at hl 0 rfl) ?_
  refine ok_int F K fX12_490 dX12_moved_25 ?_
  refine lv_iload_n hx hb dX12_moved_28 rfl (lv_at hl 3 rfl) ?_
  obtain ⟨u3, hu3, hf⟩ := g_bd hf
  refine ok_iast F K t159 hu3 dX12_moved_29 (fun H locs K => ?_)
  refine lv_aload_n hx hb dX12_moved_30 rfl (lv_at hl 0 rfl) ?_
  refine ok_ref F K fX12_190 dX12_moved_31 ?_
  refine lv_aload_n hx hb dX12_moved_34 rfl (lv_at hl 0 rfl) ?_
  refine ok_int F K fX12_490 dX12_moved_35 ?_
  refine lv_iload hx hb dX12_moved_38 (lv_at hl 4 rfl) ?_
  obtain ⟨u4, hu4, hf⟩ := g_bd hf
  refine ok_iast F K t160 hu4 dX12_moved_40 (fun H locs K => ?_)
  refine lv_aload_n hx hb dX12_moved_41 rfl (lv_at hl 0 rfl) ?_
  refine lv_dup hx hb dX12_moved_42 rfl ?_
  refine ok_int F K fX12_490 dX12_moved_43 ?_
  refine lv_iconst (v := 1) hx hb dX12_moved_46 kI_1 ?_
  refine lv_iadd hx hb dX12_moved_47 ?_
  refine ok_putI F K qX12_490 dX12_moved_48 (fun u5 H locs eu5 K => ?_)
  have hf := g_lt hf u5 eu5
  exact ok_retv B K hf dX12_moved_51
abbrev rmX12_feed : Room := { frames := 1, cells := 0, slots := 0, locals := 22 }
set_option maxRecDepth 100000 in
set_option maxHeartbeats 4000000 in
theorem pX12_feed_L0 {p : Program} {l : Launch} {e : Env} {s : State} {m : MethodId} {below : List Frame} {meth : Method} {c : Code} {A : Nat → Prop} {G : Gt} {a0 : Int64} {a1 : Int32} {r : Int32} {u' : St} (B : Bd p s m [.ref (G.1 100), .long a0, .int a1] meth c yX12_feed cX12_feed 5 (some .int)) (n : Nat) : (∀ (x1_ : Int64) (x4_ : Int32) (u : St) (H : Heap) (locs : List Loc) (ls : Array Slot), fX12_feed_L0  n 0 x1_ x4_ u = some (r, u') → Ok 100 77 G A s u H locs → lv_has ls 5 [(0, .ref (G.1 100)), (1, .long x1_), (4, .int x4_)] → W p l e rmX12_feed s m ([.ref (G.1 100), .long a0, .int a1] : List Value).toArray below meth c H locs 0 0 (MQ below (Qg 100 77 G A (some (.int r)) u') ([.ref (G.1 100), .long a0, .int a1] : List Value).toArray s 0 0 A) (F0 m 49 ls [])) := by
  have F := B.1
  have hx := F.1
  have hb := F.2.1
  induction n with
  | zero => exact fun _ _ _ _ _ _ hf => g_no hf
  | succ n ih =>
    refine ?_
    · intro x1_ x4_ u H locs ls hf K hl
      have hf : fX12_feed_L0_0  (fX12_feed_L0  n) x1_ x4_ u = some (r, u') := hf
      unfold fX12_feed_L0_0 at hf
      refine lv_iload hx hb dX12_feed_49 (lv_at hl 2 rfl) ?_
      refine lv_if_lt (pc := 51) (tgt := 88) hx hb dX12_feed_51 (by decide) (fun c1 => ?_) (fun c1 => ?_)
      · have hf := g_pos hf c1
        refine lv_aload_n hx hb dX12_feed_88 rfl (lv_at hl 0 rfl) ?_
        refine ok_int F K fX12_249 dX12_feed_89 ?_
        exact ok_reti B K hf dX12_feed_92
      · have hf := g_neg hf c1
        refine lv_aload_n hx hb dX12_feed_54 rfl (lv_at hl 0 rfl) ?_
        refine ok_ref F K fX12_7 dX12_feed_55 ?_
        refine lv_aload_n hx hb dX12_feed_58 rfl (lv_at hl 0 rfl) ?_
        refine ok_int F K fX12_249 dX12_feed_59 ?_
        refine lv_lload_n hx hb dX12_feed_62 rfl (lv_at hl 1 rfl) ?_
        refine lv_bipush (v := 8) hx hb dX12_feed_63 kB_8 ?_
        refine lv_iload hx hb dX12_feed_65 (lv_at hl 2 rfl) ?_
        refine lv_imul hx hb dX12_feed_67 ?_
        refine lv_lshr hx hb dX12_feed_68 rfl ?_
        refine lv_l2i hx hb dX12_feed_69 rfl ?_
        refine lv_i2b hx hb dX12_feed_70 rfl ?_
        obtain ⟨u2, hu2, hf⟩ := g_bd hf
        refine ok_bast F K t101 hu2 dX12_feed_71 (fun H locs K => ?_)
        refine lv_aload_n hx hb dX12_feed_72 rfl (lv_at hl 0 rfl) ?_
        refine lv_dup hx hb dX12_feed_73 rfl ?_
        refine ok_int F K fX12_249 dX12_feed_74 ?_
        refine lv_iconst (v := 1) hx hb dX12_feed_77 kI_1 ?_
        refine lv_iadd hx hb dX12_feed_78 ?_
        refine ok_putI F K qX12_249 dX12_feed_79 (fun u3 H locs eu3 K => ?_)
        have hf := g_lt hf u3 eu3
        obtain ⟨x4, ex4⟩ : ∃ y : Int32, y = x4_ + (-1) := ⟨_, rfl⟩
        have hf := g_lt hf x4 ex4
        refine lv_iinc (v := x4) (lv' := [(4, .int x4), (0, .ref (G.1 100)), (1, .long x1_)]) hx hb dX12_feed_82 hl (k := 2) rfl (by rw [kI_m1, ex4]) (by decide) rfl (fun ls hl => ?_)
        refine lv_goto (pc := 85) (tgt := 49) hx hb dX12_feed_85 (by decide) ?_
        exact ih x1_ x4 u3 _ _ _ hf K (lv_sub hl [1, 2, 0] rfl)
set_option maxRecDepth 100000 in
set_option maxHeartbeats 4000000 in
theorem pX12_feed {l : Launch} (G : Gt) {a0 : Int64} {a1 : Int32} {r : Int32} {u u' : St} (hf : fX12_feed a0 a1 u = some (r, u')) : Ctr 100 77 l yX12_feed cX12_feed 5 (some .int) rmX12_feed [.ref (G.1 100), .long a0, .int a1] G u (some (.int r)) u' := by
  refine Ctr.mk (by decide) (Nat.le_of_ble_eq_true rfl) (fun p e s m below meth c A ls B K hl => ?_)
  have F := B.1
  have hx := F.1
  have hb := F.2.1
  have hl : lv_has ls 5 [(0, .ref (G.1 100)), (1, .long a0), (3, .int a1)] := hl
  unfold fX12_feed at hf
  refine lv_aload_n hx hb dX12_feed_0 rfl (lv_at hl 0 rfl) ?_
  refine lv_iconst (v := 0) hx hb dX12_feed_1 kI_0 ?_
  refine ok_putI F K qX12_241 dX12_feed_2 (fun u5 H locs eu5 K => ?_)
  have hf := g_lt hf u5 eu5
  refine lv_iload_n hx hb dX12_feed_5 rfl (lv_at hl 2 rfl) ?_
  refine lv_iconst (v := 0) hx hb dX12_feed_6 kI_0 ?_
  refine lv_bipush (v := 8) hx hb dX12_feed_7 kB_8 ?_
  obtain ⟨r7, u6, hu6, hf⟩ := g_b2 hf
  refine ok_callsi (rest := []) F K (pX12_in G hu6) mX12_in lX12_245 rfl hl.1 rfl ⟨⟨rfl, rfl⟩, Nat.le_of_ble_eq_true rfl, Nat.le_of_ble_eq_true rfl⟩ (Nat.le_of_ble_eq_true rfl) dX12_feed_9 (fun H locs K => ?_)
  refine lv_if_ne (pc := 12) (tgt := 18) hx hb dX12_feed_12 (by decide) (fun c8 => ?_) (fun c8 => ?_)
  · have hf := g_neg hf c8
    refine lv_iload_n hx hb dX12_feed_18 rfl (lv_at hl 2 rfl) ?_
    refine lv_if_ne (pc := 19) (tgt := 29) hx hb dX12_feed_19 (by decide) (fun c9 => ?_) (fun c9 => ?_)
    · have hf := g_neg hf c9
      refine lv_aload_n hx hb dX12_feed_29 rfl (lv_at hl 0 rfl) ?_
      refine ok_int F K fX12_249 dX12_feed_30 ?_
      refine lv_iload_n hx hb dX12_feed_33 rfl (lv_at hl 2 rfl) ?_
      refine lv_iadd hx hb dX12_feed_34 ?_
      refine lv_sipush (v := 1500) hx hb dX12_feed_35 kS_1500 ?_
      refine lv_icmp_le (pc := 38) (tgt := 44) hx hb dX12_feed_38 (by decide) (fun c10 => ?_) (fun c10 => ?_)
      · have hf := g_pos hf c10
        refine lv_iload_n hx hb dX12_feed_44 rfl (lv_at hl 2 rfl) ?_
        refine lv_iconst (v := 1) hx hb dX12_feed_45 kI_1 ?_
        refine lv_isub hx hb dX12_feed_46 ?_
        refine lv_topi (fun x11 ex11 => ?_)
        have hf := g_lt hf x11 ex11
        refine lv_istore (lv' := [(4, .int x11), (0, .ref (G.1 100)), (1, .long a0), (3, .int a1)]) hx hb dX12_feed_47 hl (by decide) rfl (fun ls hl => ?_)
        exact (pX12_feed_L0  B FU) a0 x11 u6 _ _ _ hf K (lv_sub hl [1, 2, 0] rfl)
      · have hf := g_neg hf c10
        refine lv_bipush (v := (-4)) hx hb dX12_feed_41 kB_m4 ?_
        exact ok_reti B K hf dX12_feed_43
    · have hf := g_pos hf c9
      refine lv_aload_n hx hb dX12_feed_22 rfl (lv_at hl 0 rfl) ?_
      refine lv_iconst (v := 0) hx hb dX12_feed_23 kI_0 ?_
      refine ok_putI F K qX12_249 dX12_feed_24 (fun u12 H locs eu12 K => ?_)
      have hf := g_lt hf u12 eu12
      refine lv_iconst (v := 0) hx hb dX12_feed_27 kI_0 ?_
      exact ok_reti B K hf dX12_feed_28
  · have hf := g_pos hf c8
    refine lv_bipush (v := (-2)) hx hb dX12_feed_15 kB_m2 ?_
    exact ok_reti B K hf dX12_feed_17
abbrev rmX12_node : Room := { frames := 0, cells := 0, slots := 0, locals := 0 }
set_option maxRecDepth 100000 in
set_option maxHeartbeats 4000000 in
theorem pX12_node {l : Launch} (G : Gt) {a0 : Int32} {a1 : Int32} {a2 : Int32} {r : Int32} {u u' : St} (hf : fX12_node a0 a1 a2 u = some (r, u')) : Ctr 100 77 l yX12_node cX12_node 5 (some .int) rmX12_node [.ref (G.1 100), .int a0, .int a1, .int a2] G u (some (.int r)) u' := by
  refine Ctr.mk (by decide) (Nat.le_of_ble_eq_true rfl) (fun p e s m below meth c A ls B K hl => ?_)
  have F := B.1
  have hx := F.1
  have hb := F.2.1
  have hl : lv_has ls 5 [(0, .ref (G.1 100)), (1, .int a0), (2, .int a1), (3, .int a2)] := hl
  unfold fX12_node at hf
  refine lv_aload_n hx hb dX12_node_0 rfl (lv_at hl 0 rfl) ?_
  refine ok_int F K fX12_295 dX12_node_1 ?_
  refine lv_topi (fun x1 ex1 => ?_)
  have hf := g_lt hf x1 ex1
  refine lv_istore (lv' := [(4, .int x1), (0, .ref (G.1 100)), (1, .int a0), (2, .int a1), (3, .int a2)]) hx hb dX12_node_4 hl (by decide) rfl (fun ls hl => ?_)
  refine lv_aload_n hx hb dX12_node_6 rfl (lv_at hl 1 rfl) ?_
  refine lv_dup hx hb dX12_node_7 rfl ?_
  refine ok_int F K fX12_295 dX12_node_8 ?_
  refine lv_iconst (v := 1) hx hb dX12_node_11 kI_1 ?_
  refine lv_iadd hx hb dX12_node_12 ?_
  refine ok_putI F K qX12_295 dX12_node_13 (fun u2 H locs eu2 K => ?_)
  have hf := g_lt hf u2 eu2
  refine lv_aload_n hx hb dX12_node_16 rfl (lv_at hl 1 rfl) ?_
  refine ok_ref F K fX12_52 dX12_node_17 ?_
  refine lv_iload hx hb dX12_node_20 (lv_at hl 0 rfl) ?_
  refine lv_iload_n hx hb dX12_node_22 rfl (lv_at hl 2 rfl) ?_
  obtain ⟨u3, hu3, hf⟩ := g_bd hf
  refine ok_iast F K t114 hu3 dX12_node_23 (fun H locs K => ?_)
  refine lv_aload_n hx hb dX12_node_24 rfl (lv_at hl 1 rfl) ?_
  refine ok_ref F K fX12_55 dX12_node_25 ?_
  refine lv_iload hx hb dX12_node_28 (lv_at hl 0 rfl) ?_
  refine lv_iload_n hx hb dX12_node_30 rfl (lv_at hl 3 rfl) ?_
  obtain ⟨u4, hu4, hf⟩ := g_bd hf
  refine ok_iast F K t115 hu4 dX12_node_31 (fun H locs K => ?_)
  refine lv_aload_n hx hb dX12_node_32 rfl (lv_at hl 1 rfl) ?_
  refine ok_ref F K fX12_58 dX12_node_33 ?_
  refine lv_iload hx hb dX12_node_36 (lv_at hl 0 rfl) ?_
  refine lv_iload_n hx hb dX12_node_38 rfl (lv_at hl 4 rfl) ?_
  obtain ⟨u5, hu5, hf⟩ := g_bd hf
  refine ok_iast F K t116 hu5 dX12_node_39 (fun H locs K => ?_)
  refine lv_iload hx hb dX12_node_40 (lv_at hl 0 rfl) ?_
  exact ok_reti B K hf dX12_node_42
abbrev rmX12_joins : Room := { frames := 1, cells := 0, slots := 0, locals := 24 }
set_option maxRecDepth 100000 in
set_option maxHeartbeats 4000000 in
theorem pX12_joins {l : Launch} (G : Gt) {a0 : Int32} {u u' : St} (hf : fX12_joins a0 u = some u') : Ctr 100 77 l yX12_joins cX12_joins 4 none rmX12_joins [.ref (G.1 100), .int a0] G u none u' := by
  refine Ctr.mk (by decide) (Nat.le_of_ble_eq_true rfl) (fun p e s m below meth c A ls B K hl => ?_)
  have F := B.1
  have hx := F.1
  have hb := F.2.1
  have hl : lv_has ls 4 [(0, .ref (G.1 100)), (1, .int a0)] := hl
  unfold fX12_joins at hf
  refine lv_aload_n hx hb dX12_joins_0 rfl (lv_at hl 0 rfl) ?_
  obtain ⟨r2, u1, hu1, hf⟩ := g_b2 hf
  refine ok_calli (rest := []) F K (pX12_got G hu1) mX12_got oc100 lX12_307 rfl hl.1 rfl ⟨⟨rfl, rfl⟩, Nat.le_of_ble_eq_true rfl, Nat.le_of_ble_eq_true rfl⟩ (Nat.le_of_ble_eq_true rfl) dX12_joins_1 (fun H locs K => ?_)
  refine lv_istore_n (lv' := [(2, .int r2), (0, .ref (G.1 100)), (1, .int a0)]) hx hb dX12_joins_4 rfl hl (by decide) rfl (fun ls hl => ?_)
  refine lv_aload_n hx hb dX12_joins_5 rfl (lv_at hl 1 rfl) ?_
  obtain ⟨r4, u3, hu3, hf⟩ := g_b2 hf
  refine ok_calli (rest := []) F K (pX12_got G hu3) mX12_got oc100 lX12_307 rfl hl.1 rfl ⟨⟨rfl, rfl⟩, Nat.le_of_ble_eq_true rfl, Nat.le_of_ble_eq_true rfl⟩ (Nat.le_of_ble_eq_true rfl) dX12_joins_6 (fun H locs K => ?_)
  refine lv_istore_n (lv' := [(3, .int r4), (2, .int r2), (0, .ref (G.1 100)), (1, .int a0)]) hx hb dX12_joins_9 rfl hl (by decide) rfl (fun ls hl => ?_)
  refine lv_aload_n hx hb dX12_joins_10 rfl (lv_at hl 2 rfl) ?_
  refine lv_aload_n hx hb dX12_joins_11 rfl (lv_at hl 2 rfl) ?_
  refine lv_iload_n hx hb dX12_joins_12 rfl (lv_at hl 3 rfl) ?_
  refine lv_iload_n hx hb dX12_joins_13 rfl (lv_at hl 0 rfl) ?_
  refine lv_iload_n hx hb dX12_joins_14 rfl (lv_at hl 1 rfl) ?_
  obtain ⟨r6, u5, hu5, hf⟩ := g_b2 hf
  refine ok_calli (rest := [.ref (G.1 100)]) F K (pX12_node G hu5) mX12_node oc100 lX12_310 rfl hl.1 rfl ⟨⟨rfl, rfl⟩, Nat.le_of_ble_eq_true rfl, Nat.le_of_ble_eq_true rfl⟩ (Nat.le_of_ble_eq_true rfl) dX12_joins_15 (fun H locs K => ?_)
  obtain ⟨u7, hu7, hf⟩ := g_bd hf
  refine ok_callv (rest := []) F K (pX12_give G hu7) mX12_give oc100 lX12_314 rfl hl.1 rfl ⟨⟨rfl, rfl⟩, Nat.le_of_ble_eq_true rfl, Nat.le_of_ble_eq_true rfl⟩ (Nat.le_of_ble_eq_true rfl) dX12_joins_18 (fun H locs K => ?_)
  exact ok_retv B K hf dX12_joins_21
abbrev rmX12_must : Room := { frames := 3, cells := 0, slots := 0, locals := 65 }
set_option maxRecDepth 100000 in
set_option maxHeartbeats 4000000 in
theorem pX12_must {l : Launch} (G : Gt) {a0 : Int32} {r : Int32} {u u' : St} (hf : fX12_must a0 u = some (r, u')) : Ctr 100 77 l yX12_must cX12_must 2 (some .boolean) rmX12_must [.ref (G.1 100), .int a0] G u (some (.int r)) u' := by
  refine Ctr.mk (by decide) (Nat.le_of_ble_eq_true rfl) (fun p e s m below meth c A ls B K hl => ?_)
  have F := B.1
  have hx := F.1
  have hb := F.2.1
  have hl : lv_has ls 2 [(0, .ref (G.1 100)), (1, .int a0)] := hl
  unfold fX12_must at hf
  refine lv_aload_n hx hb dX12_must_0 rfl (lv_at hl 0 rfl) ?_
  obtain ⟨r2, u1, hu1, hf⟩ := g_b2 hf
  refine ok_calli (rest := []) F K (pX12_look G hu1) mX12_look oc100 lX12_288 rfl hl.1 rfl ⟨⟨rfl, rfl⟩, Nat.le_of_ble_eq_true rfl, Nat.le_of_ble_eq_true rfl⟩ (Nat.le_of_ble_eq_true rfl) dX12_must_1 (fun H locs K => ?_)
  refine lv_iload_n hx hb dX12_must_4 rfl (lv_at hl 1 rfl) ?_
  refine lv_icmp_eq (pc := 5) (tgt := 19) hx hb dX12_must_5 (by decide) (fun c3 => ?_) (fun c3 => ?_)
  · have hf := g_pos hf c3
    refine lv_aload_n hx hb dX12_must_19 rfl (lv_at hl 0 rfl) ?_
    obtain ⟨u4, hu4, hf⟩ := g_bd hf
    refine ok_callv (rest := []) F K (pX12_take G hu4) mX12_take oc100 lX12_292 rfl hl.1 rfl ⟨⟨rfl, rfl⟩, Nat.le_of_ble_eq_true rfl, Nat.le_of_ble_eq_true rfl⟩ (Nat.le_of_ble_eq_true rfl) dX12_must_20 (fun H locs K => ?_)
    refine lv_iconst (v := 1) hx hb dX12_must_23 kI_1 ?_
    exact ok_retz B K hf (Or.inr rfl) dX12_must_24
  · have hf := g_neg hf c3
    refine lv_aload_n hx hb dX12_must_8 rfl (lv_at hl 0 rfl) ?_
    refine lv_iconst (v := 2) hx hb dX12_must_9 kI_2 ?_
    refine lv_aload_n hx hb dX12_must_10 rfl (lv_at hl 0 rfl) ?_
    refine ok_int F K fX12_272 dX12_must_11 ?_
    obtain ⟨u5, hu5, hf⟩ := g_bd hf
    refine ok_callv (rest := []) F K (pX12_fail G hu5) mX12_fail oc100 lX12_284 rfl hl.1 rfl ⟨⟨rfl, rfl⟩, Nat.le_of_ble_eq_true rfl, Nat.le_of_ble_eq_true rfl⟩ (Nat.le_of_ble_eq_true rfl) dX12_must_14 (fun H locs K => ?_)
    refine lv_iconst (v := 0) hx hb dX12_must_17 kI_0 ?_
    exact ok_retz B K hf (Or.inl rfl) dX12_must_18
abbrev rmX12_readAtom : Room := { frames := 4, cells := 0, slots := 0, locals := 88 }
set_option maxRecDepth 100000 in
set_option maxHeartbeats 4000000 in
theorem pX12_readAtom_L0 {p : Program} {l : Launch} {e : Env} {s : State} {m : MethodId} {below : List Frame} {meth : Method} {c : Code} {A : Nat → Prop} {G : Gt} {u' : St} (B : Bd p s m [.ref (G.1 100)] meth c yX12_readAtom cX12_readAtom 4 none) (n : Nat) : (∀ (x1_ : Int32) (u : St) (H : Heap) (locs : List Loc) (ls : Array Slot), fX12_readAtom_L0  n 0 x1_ u = some u' → Ok 100 77 G A s u H locs → lv_has ls 4 [(0, .ref (G.1 100)), (1, .int x1_)] → W p l e rmX12_readAtom s m ([.ref (G.1 100)] : List Value).toArray below meth c H locs 0 0 (MQ below (Qg 100 77 G A none u') ([.ref (G.1 100)] : List Value).toArray s 0 0 A) (F0 m 10 ls [])) := by
  have F := B.1
  have hx := F.1
  have hb := F.2.1
  induction n with
  | zero => exact fun _ _ _ _ _ hf => g_no hf
  | succ n ih =>
    refine ?_
    · intro x1_ u H locs ls hf K hl
      have hf : fX12_readAtom_L0_0  (fX12_readAtom_L0  n) x1_ u = some u' := hf
      unfold fX12_readAtom_L0_0 at hf
      refine lv_aload_n hx hb dX12_readAtom_10 rfl (lv_at hl 0 rfl) ?_
      refine ok_int F K fX12_252 dX12_readAtom_11 ?_
      refine lv_if_ne (pc := 14) (tgt := 146) hx hb dX12_readAtom_14 (by decide) (fun c1 => ?_) (fun c1 => ?_)
      · have hf := g_neg hf c1
        exact ok_retv B K hf dX12_readAtom_146
      · have hf := g_pos hf c1
        refine lv_aload_n hx hb dX12_readAtom_17 rfl (lv_at hl 0 rfl) ?_
        refine ok_int F K fX12_350 dX12_readAtom_18 ?_
        refine lv_if_le (pc := 21) (tgt := 146) hx hb dX12_readAtom_21 (by decide) (fun c2 => ?_) (fun c2 => ?_)
        · have hf := g_pos hf c2
          exact ok_retv B K hf dX12_readAtom_146
        · have hf := g_neg hf c2
          refine lv_aload_n hx hb dX12_readAtom_24 rfl (lv_at hl 0 rfl) ?_
          refine ok_int F K fX12_350 dX12_readAtom_25 ?_
          refine lv_iconst (v := 1) hx hb dX12_readAtom_28 kI_1 ?_
          refine lv_isub hx hb dX12_readAtom_29 ?_
          refine lv_topi (fun x3 ex3 => ?_)
          have hf := g_lt hf x3 ex3
          refine lv_istore_n (lv' := [(2, .int x3), (0, .ref (G.1 100)), (1, .int x1_)]) hx hb dX12_readAtom_30 rfl hl (by decide) rfl (fun ls hl => ?_)
          refine lv_iload_n hx hb dX12_readAtom_31 rfl (lv_at hl 2 rfl) ?_
          refine lv_if_ne (pc := 32) (tgt := 43) hx hb dX12_readAtom_32 (by decide) (fun c4 => ?_) (fun c4 => ?_)
          · have hf := g_neg hf c4
            refine lv_aload_n hx hb dX12_readAtom_43 rfl (lv_at hl 1 rfl) ?_
            refine ok_ref F K fX12_85 dX12_readAtom_44 ?_
            refine lv_iload_n hx hb dX12_readAtom_47 rfl (lv_at hl 0 rfl) ?_
            refine lv_dup2_11 hx hb dX12_readAtom_48 rfl rfl ?_
            obtain ⟨v5, hv5, hf⟩ := g_bd hf
            refine ok_iald F K t125 hv5 dX12_readAtom_49 ?_
            refine lv_iconst (v := 1) hx hb dX12_readAtom_50 kI_1 ?_
            refine lv_iadd hx hb dX12_readAtom_51 ?_
            obtain ⟨u6, hu6, hf⟩ := g_bd hf
            refine ok_iast F K t125 hu6 dX12_readAtom_52 (fun H locs K => ?_)
            refine lv_aload_n hx hb dX12_readAtom_53 rfl (lv_at hl 1 rfl) ?_
            obtain ⟨r8, u7, hu7, hf⟩ := g_b2 hf
            refine ok_calli (rest := []) F K (pX12_look G hu7) mX12_look oc100 lX12_288 rfl hl.1 rfl ⟨⟨rfl, rfl⟩, Nat.le_of_ble_eq_true rfl, Nat.le_of_ble_eq_true rfl⟩ (Nat.le_of_ble_eq_true rfl) dX12_readAtom_54 (fun H locs K => ?_)
            refine lv_iconst (v := 5) hx hb dX12_readAtom_57 kI_5 ?_
            refine lv_icmp_ne (pc := 58) (tgt := 95) hx hb dX12_readAtom_58 (by decide) (fun c9 => ?_) (fun c9 => ?_)
            · have hf := g_neg hf c9
              refine lv_aload_n hx hb dX12_readAtom_95 rfl (lv_at hl 1 rfl) ?_
              refine lv_dup hx hb dX12_readAtom_96 rfl ?_
              refine ok_int F K fX12_298 dX12_readAtom_97 ?_
              refine lv_iconst (v := 1) hx hb dX12_readAtom_100 kI_1 ?_
              refine lv_isub hx hb dX12_readAtom_101 ?_
              refine ok_putI F K qX12_298 dX12_readAtom_102 (fun u10 H locs eu10 K => ?_)
              have hf := g_lt hf u10 eu10
              refine lv_aload_n hx hb dX12_readAtom_105 rfl (lv_at hl 1 rfl) ?_
              refine lv_iconst (v := 4) hx hb dX12_readAtom_106 kI_4 ?_
              obtain ⟨r12, u11, hu11, hf⟩ := g_b2 hf
              refine ok_calli (rest := []) F K (pX12_must G hu11) mX12_must oc100 lX12_334 rfl hl.1 rfl ⟨⟨rfl, rfl⟩, Nat.le_of_ble_eq_true rfl, Nat.le_of_ble_eq_true rfl⟩ (Nat.le_of_ble_eq_true rfl) dX12_readAtom_107 (fun H locs K => ?_)
              refine lv_istore_n (lv' := [(3, .int r12), (2, .int x3), (0, .ref (G.1 100)), (1, .int x1_)]) hx hb dX12_readAtom_110 rfl hl (by decide) rfl (fun ls hl => ?_)
              refine lv_aload_n hx hb dX12_readAtom_111 rfl (lv_at hl 2 rfl) ?_
              refine lv_dup hx hb dX12_readAtom_112 rfl ?_
              refine ok_int F K fX12_350 dX12_readAtom_113 ?_
              refine lv_iconst (v := 1) hx hb dX12_readAtom_116 kI_1 ?_
              refine lv_isub hx hb dX12_readAtom_117 ?_
              refine ok_putI F K qX12_350 dX12_readAtom_118 (fun u13 H locs eu13 K => ?_)
              have hf := g_lt hf u13 eu13
              refine lv_aload_n hx hb dX12_readAtom_121 rfl (lv_at hl 2 rfl) ?_
              refine lv_aload_n hx hb dX12_readAtom_122 rfl (lv_at hl 2 rfl) ?_
              refine ok_ref F K fX12_79 dX12_readAtom_123 ?_
              refine lv_iload_n hx hb dX12_readAtom_126 rfl (lv_at hl 1 rfl) ?_
              obtain ⟨v14, hv14, hf⟩ := g_bd hf
              refine ok_iald F K t123 hv14 dX12_readAtom_127 ?_
              refine lv_aload_n hx hb dX12_readAtom_128 rfl (lv_at hl 2 rfl) ?_
              refine ok_ref F K fX12_82 dX12_readAtom_129 ?_
              refine lv_iload_n hx hb dX12_readAtom_132 rfl (lv_at hl 1 rfl) ?_
              obtain ⟨v15, hv15, hf⟩ := g_bd hf
              refine ok_iald F K t124 hv15 dX12_readAtom_133 ?_
              refine lv_aload_n hx hb dX12_readAtom_134 rfl (lv_at hl 2 rfl) ?_
              refine ok_ref F K fX12_85 dX12_readAtom_135 ?_
              refine lv_iload_n hx hb dX12_readAtom_138 rfl (lv_at hl 1 rfl) ?_
              obtain ⟨v16, hv16, hf⟩ := g_bd hf
              refine ok_iald F K t125 hv16 dX12_readAtom_139 ?_
              obtain ⟨u17, hu17, hf⟩ := g_bd hf
              refine ok_callv (rest := []) F K (pX12_endName G hu17) mX12_endName oc100 lX12_360 rfl hl.1 rfl ⟨⟨rfl, rfl⟩, Nat.le_of_ble_eq_true rfl, Nat.le_of_ble_eq_true rfl⟩ (Nat.le_of_ble_eq_true rfl) dX12_readAtom_140 (fun H locs K => ?_)
              refine lv_goto (pc := 143) (tgt := 10) hx hb dX12_readAtom_143 (by decide) ?_
              exact ih x1_ u17 _ _ _ hf K (lv_sub hl [2, 3] rfl)
            · have hf := g_pos hf c9
              refine lv_aload_n hx hb dX12_readAtom_61 rfl (lv_at hl 1 rfl) ?_
              obtain ⟨u18, hu18, hf⟩ := g_bd hf
              refine ok_callv (rest := []) F K (pX12_take G hu18) mX12_take oc100 lX12_292 rfl hl.1 rfl ⟨⟨rfl, rfl⟩, Nat.le_of_ble_eq_true rfl, Nat.le_of_ble_eq_true rfl⟩ (Nat.le_of_ble_eq_true rfl) dX12_readAtom_62 (fun H locs K => ?_)
              refine lv_aload_n hx hb dX12_readAtom_65 rfl (lv_at hl 1 rfl) ?_
              refine ok_ref F K fX12_85 dX12_readAtom_66 ?_
              refine lv_iload_n hx hb dX12_readAtom_69 rfl (lv_at hl 0 rfl) ?_
              obtain ⟨v19, hv19, hf⟩ := g_bd hf
              refine ok_iald F K t125 hv19 dX12_readAtom_70 ?_
              refine lv_iconst (v := 5) hx hb dX12_readAtom_71 kI_5 ?_
              refine lv_icmp_ne (pc := 72) (tgt := 87) hx hb dX12_readAtom_72 (by decide) (fun c20 => ?_) (fun c20 => ?_)
              · have hf := g_neg hf c20
                refine lv_aload_n hx hb dX12_readAtom_87 rfl (lv_at hl 1 rfl) ?_
                obtain ⟨r22, u21, hu21, hf⟩ := g_b2 hf
                refine ok_calli (rest := []) F K (pX12_beginTerm G hu21) mX12_beginTerm oc100 lX12_364 rfl hl.1 rfl ⟨⟨rfl, rfl⟩, Nat.le_of_ble_eq_true rfl, Nat.le_of_ble_eq_true rfl⟩ (Nat.le_of_ble_eq_true rfl) dX12_readAtom_88 (fun H locs K => ?_)
                refine lv_istore_n (lv' := [(1, .int r22), (2, .int x3), (0, .ref (G.1 100))]) hx hb dX12_readAtom_91 rfl hl (by decide) rfl (fun ls hl => ?_)
                refine lv_goto (pc := 92) (tgt := 10) hx hb dX12_readAtom_92 (by decide) ?_
                exact ih r22 u21 _ _ _ hf K (lv_sub hl [2, 0] rfl)
              · have hf := g_pos hf c20
                refine lv_aload_n hx hb dX12_readAtom_75 rfl (lv_at hl 1 rfl) ?_
                refine lv_iconst (v := 4) hx hb dX12_readAtom_76 kI_4 ?_
                refine lv_aload_n hx hb dX12_readAtom_77 rfl (lv_at hl 1 rfl) ?_
                refine ok_ref F K fX12_82 dX12_readAtom_78 ?_
                refine lv_iload_n hx hb dX12_readAtom_81 rfl (lv_at hl 0 rfl) ?_
                obtain ⟨v23, hv23, hf⟩ := g_bd hf
                refine ok_iald F K t124 hv23 dX12_readAtom_82 ?_
                obtain ⟨u24, hu24, hf⟩ := g_bd hf
                refine ok_callv (rest := []) F K (pX12_fail G hu24) mX12_fail oc100 lX12_284 rfl hl.1 rfl ⟨⟨rfl, rfl⟩, Nat.le_of_ble_eq_true rfl, Nat.le_of_ble_eq_true rfl⟩ (Nat.le_of_ble_eq_true rfl) dX12_readAtom_83 (fun H locs K => ?_)
                exact ok_retv B K hf dX12_readAtom_86
          · have hf := g_pos hf c4
            refine lv_aload_n hx hb dX12_readAtom_35 rfl (lv_at hl 1 rfl) ?_
            obtain ⟨r26, u25, hu25, hf⟩ := g_b2 hf
            refine ok_calli (rest := []) F K (pX12_beginTerm G hu25) mX12_beginTerm oc100 lX12_364 rfl hl.1 rfl ⟨⟨rfl, rfl⟩, Nat.le_of_ble_eq_true rfl, Nat.le_of_ble_eq_true rfl⟩ (Nat.le_of_ble_eq_true rfl) dX12_readAtom_36 (fun H locs K => ?_)
            refine lv_istore_n (lv' := [(1, .int r26), (2, .int x3), (0, .ref (G.1 100))]) hx hb dX12_readAtom_39 rfl hl (by decide) rfl (fun ls hl => ?_)
            refine lv_goto (pc := 40) (tgt := 10) hx hb dX12_readAtom_40 (by decide) ?_
            exact ih r26 u25 _ _ _ hf K (lv_sub hl [2, 0] rfl)
set_option maxRecDepth 100000 in
set_option maxHeartbeats 4000000 in
theorem pX12_readAtom {l : Launch} (G : Gt) {u u' : St} (hf : fX12_readAtom u = some u') : Ctr 100 77 l yX12_readAtom cX12_readAtom 4 none rmX12_readAtom [.ref (G.1 100)] G u none u' := by
  refine Ctr.mk (by decide) (Nat.le_of_ble_eq_true rfl) (fun p e s m below meth c A ls B K hl => ?_)
  have F := B.1
  have hx := F.1
  have hb := F.2.1
  have hl : lv_has ls 4 [(0, .ref (G.1 100))] := hl
  unfold fX12_readAtom at hf
  refine lv_aload_n hx hb dX12_readAtom_0 rfl (lv_at hl 0 rfl) ?_
  refine lv_iconst (v := 0) hx hb dX12_readAtom_1 kI_0 ?_
  refine ok_putI F K qX12_350 dX12_readAtom_2 (fun u27 H locs eu27 K => ?_)
  have hf := g_lt hf u27 eu27
  refine lv_aload_n hx hb dX12_readAtom_5 rfl (lv_at hl 0 rfl) ?_
  obtain ⟨r29, u28, hu28, hf⟩ := g_b2 hf
  refine ok_calli (rest := []) F K (pX12_beginTerm G hu28) mX12_beginTerm oc100 lX12_364 rfl hl.1 rfl ⟨⟨rfl, rfl⟩, Nat.le_of_ble_eq_true rfl, Nat.le_of_ble_eq_true rfl⟩ (Nat.le_of_ble_eq_true rfl) dX12_readAtom_6 (fun H locs K => ?_)
  refine lv_istore_n (lv' := [(1, .int r29), (0, .ref (G.1 100))]) hx hb dX12_readAtom_9 rfl hl (by decide) rfl (fun ls hl => ?_)
  exact (pX12_readAtom_L0  B FU) r29 u28 _ _ _ hf K (lv_sub hl [1, 0] rfl)
abbrev rmX12_unary : Room := { frames := 5, cells := 0, slots := 0, locals := 111 }
set_option maxRecDepth 100000 in
set_option maxHeartbeats 4000000 in
theorem pX12_unary_j47 {p : Program} {l : Launch} {e : Env} {s : State} {m : MethodId} {below : List Frame} {meth : Method} {c : Code} {A : Nat → Prop} {G : Gt} {u' : St} (B : Bd p s m [.ref (G.1 100)] meth c yX12_unary cX12_unary 6 none) (x1_ : Int32) (u : St) (H : Heap) (locs : List Loc) (ls : Array Slot) (hf : fX12_unary_j47 x1_ u = some u') (K : Ok 100 77 G A s u H locs) (hl : lv_has ls 6 [(0, .ref (G.1 100)), (1, .int x1_)]) : W p l e rmX12_unary s m ([.ref (G.1 100)] : List Value).toArray below meth c H locs 0 0 (MQ below (Qg 100 77 G A none u') ([.ref (G.1 100)] : List Value).toArray s 0 0 A) (F0 m 47 ls []) := by
  have F := B.1
  have hx := F.1
  have hb := F.2.1
  unfold fX12_unary_j47 at hf
  refine lv_aload_n hx hb dX12_unary_47 rfl (lv_at hl 0 rfl) ?_
  obtain ⟨r2, u1, hu1, hf⟩ := g_b2 hf
  refine ok_calli (rest := []) F K (pX12_opens G hu1) mX12_opens oc100 lX12_324 rfl hl.1 rfl ⟨⟨rfl, rfl⟩, Nat.le_of_ble_eq_true rfl, Nat.le_of_ble_eq_true rfl⟩ (Nat.le_of_ble_eq_true rfl) dX12_unary_48 (fun H locs K => ?_)
  refine lv_if_ne (pc := 51) (tgt := 55) hx hb dX12_unary_51 (by decide) (fun c3 => ?_) (fun c3 => ?_)
  · have hf := g_neg hf c3
    refine lv_aload_n hx hb dX12_unary_55 rfl (lv_at hl 0 rfl) ?_
    obtain ⟨r5, u4, hu4, hf⟩ := g_b2 hf
    refine ok_calli (rest := []) F K (pX12_look G hu4) mX12_look oc100 lX12_288 rfl hl.1 rfl ⟨⟨rfl, rfl⟩, Nat.le_of_ble_eq_true rfl, Nat.le_of_ble_eq_true rfl⟩ (Nat.le_of_ble_eq_true rfl) dX12_unary_56 (fun H locs K => ?_)
    refine lv_istore_n (lv' := [(2, .int r5), (0, .ref (G.1 100)), (1, .int x1_)]) hx hb dX12_unary_59 rfl hl (by decide) rfl (fun ls hl => ?_)
    refine lv_aload_n hx hb dX12_unary_60 rfl (lv_at hl 1 rfl) ?_
    refine ok_long F K fX12_275 dX12_unary_61 ?_
    refine lv_topl (fun x6 ex6 => ?_)
    have hf := g_lt hf x6 ex6
    refine lv_lstore_n (lv' := [(3, .long x6), (2, .int r5), (0, .ref (G.1 100)), (1, .int x1_)]) hx hb dX12_unary_64 rfl hl (by decide) rfl (fun ls hl => ?_)
    refine lv_aload_n hx hb dX12_unary_65 rfl (lv_at hl 2 rfl) ?_
    refine lv_iconst (v := 2) hx hb dX12_unary_66 kI_2 ?_
    obtain ⟨r8, u7, hu7, hf⟩ := g_b2 hf
    refine ok_calli (rest := []) F K (pX12_must G hu7) mX12_must oc100 lX12_334 rfl hl.1 rfl ⟨⟨rfl, rfl⟩, Nat.le_of_ble_eq_true rfl, Nat.le_of_ble_eq_true rfl⟩ (Nat.le_of_ble_eq_true rfl) dX12_unary_67 (fun H locs K => ?_)
    refine lv_if_eq (pc := 70) (tgt := 114) hx hb dX12_unary_70 (by decide) (fun c9 => ?_) (fun c9 => ?_)
    · have hf := g_pos hf c9
      refine lv_goto (pc := 114) (tgt := 186) hx hb dX12_unary_114 (by decide) ?_
      exact ok_retv B K hf dX12_unary_186
    · have hf := g_neg hf c9
      refine lv_aload_n hx hb dX12_unary_73 rfl (lv_at hl 2 rfl) ?_
      refine lv_bipush (v := 7) hx hb dX12_unary_74 kB_7 ?_
      obtain ⟨r11, u10, hu10, hf⟩ := g_b2 hf
      refine ok_calli (rest := []) F K (pX12_must G hu10) mX12_must oc100 lX12_334 rfl hl.1 rfl ⟨⟨rfl, rfl⟩, Nat.le_of_ble_eq_true rfl, Nat.le_of_ble_eq_true rfl⟩ (Nat.le_of_ble_eq_true rfl) dX12_unary_76 (fun H locs K => ?_)
      refine lv_if_eq (pc := 79) (tgt := 114) hx hb dX12_unary_79 (by decide) (fun c12 => ?_) (fun c12 => ?_)
      · have hf := g_pos hf c12
        refine lv_goto (pc := 114) (tgt := 186) hx hb dX12_unary_114 (by decide) ?_
        exact ok_retv B K hf dX12_unary_186
      · have hf := g_neg hf c12
        refine lv_aload_n hx hb dX12_unary_82 rfl (lv_at hl 2 rfl) ?_
        refine lv_iload_n hx hb dX12_unary_83 rfl (lv_at hl 3 rfl) ?_
        refine lv_iconst (v := 0) hx hb dX12_unary_84 kI_0 ?_
        refine lv_iconst (v := 0) hx hb dX12_unary_85 kI_0 ?_
        obtain ⟨r14, u13, hu13, hf⟩ := g_b2 hf
        refine ok_calli (rest := []) F K (pX12_node G hu13) mX12_node oc100 lX12_310 rfl hl.1 rfl ⟨⟨rfl, rfl⟩, Nat.le_of_ble_eq_true rfl, Nat.le_of_ble_eq_true rfl⟩ (Nat.le_of_ble_eq_true rfl) dX12_unary_86 (fun H locs K => ?_)
        refine lv_istore (lv' := [(5, .int r14), (3, .long x6), (2, .int r5), (0, .ref (G.1 100)), (1, .int x1_)]) hx hb dX12_unary_89 hl (by decide) rfl (fun ls hl => ?_)
        refine lv_aload_n hx hb dX12_unary_91 rfl (lv_at hl 3 rfl) ?_
        refine ok_ref F K fX12_61 dX12_unary_92 ?_
        refine lv_iload hx hb dX12_unary_95 (lv_at hl 0 rfl) ?_
        refine lv_lload_n hx hb dX12_unary_97 rfl (lv_at hl 1 rfl) ?_
        obtain ⟨u15, hu15, hf⟩ := g_bd hf
        refine ok_last F K t117 hu15 dX12_unary_98 (fun H locs K => ?_)
        refine lv_aload_n hx hb dX12_unary_99 rfl (lv_at hl 3 rfl) ?_
        refine lv_bipush (v := 15) hx hb dX12_unary_100 kB_15 ?_
        refine lv_iload hx hb dX12_unary_102 (lv_at hl 0 rfl) ?_
        obtain ⟨u16, hu16, hf⟩ := g_bd hf
        refine ok_callv (rest := []) F K (pX12_push G hu16) mX12_push oc100 lX12_318 rfl hl.1 rfl ⟨⟨rfl, rfl⟩, Nat.le_of_ble_eq_true rfl, Nat.le_of_ble_eq_true rfl⟩ (Nat.le_of_ble_eq_true rfl) dX12_unary_104 (fun H locs K => ?_)
        refine lv_aload_n hx hb dX12_unary_107 rfl (lv_at hl 3 rfl) ?_
        refine lv_bipush (v := 13) hx hb dX12_unary_108 kB_13 ?_
        refine lv_iconst (v := 0) hx hb dX12_unary_110 kI_0 ?_
        obtain ⟨u17, hu17, hf⟩ := g_bd hf
        refine ok_callv (rest := []) F K (pX12_push G hu17) mX12_push oc100 lX12_318 rfl hl.1 rfl ⟨⟨rfl, rfl⟩, Nat.le_of_ble_eq_true rfl, Nat.le_of_ble_eq_true rfl⟩ (Nat.le_of_ble_eq_true rfl) dX12_unary_111 (fun H locs K => ?_)
        refine lv_goto (pc := 114) (tgt := 186) hx hb dX12_unary_114 (by decide) ?_
        exact ok_retv B K hf dX12_unary_186
  · have hf := g_pos hf c3
    exact ok_retv B K hf dX12_unary_54
set_option maxRecDepth 100000 in
set_option maxHeartbeats 4000000 in
theorem pX12_unary {l : Launch} (G : Gt) {u u' : St} (hf : fX12_unary u = some u') : Ctr 100 77 l yX12_unary cX12_unary 6 none rmX12_unary [.ref (G.1 100)] G u none u' := by
  refine Ctr.mk (by decide) (Nat.le_of_ble_eq_true rfl) (fun p e s m below meth c A ls B K hl => ?_)
  have F := B.1
  have hx := F.1
  have hb := F.2.1
  have hl : lv_has ls 6 [(0, .ref (G.1 100))] := hl
  unfold fX12_unary at hf
  refine lv_aload_n hx hb dX12_unary_0 rfl (lv_at hl 0 rfl) ?_
  obtain ⟨r19, u18, hu18, hf⟩ := g_b2 hf
  refine ok_calli (rest := []) F K (pX12_look G hu18) mX12_look oc100 lX12_288 rfl hl.1 rfl ⟨⟨rfl, rfl⟩, Nat.le_of_ble_eq_true rfl, Nat.le_of_ble_eq_true rfl⟩ (Nat.le_of_ble_eq_true rfl) dX12_unary_1 (fun H locs K => ?_)
  refine lv_istore_n (lv' := [(1, .int r19), (0, .ref (G.1 100))]) hx hb dX12_unary_4 rfl hl (by decide) rfl (fun ls hl => ?_)
  refine lv_iload_n hx hb dX12_unary_5 rfl (lv_at hl 0 rfl) ?_
  refine lv_bipush (v := 8) hx hb dX12_unary_6 kB_8 ?_
  refine lv_icmp_ne (pc := 8) (tgt := 35) hx hb dX12_unary_8 (by decide) (fun c20 => ?_) (fun c20 => ?_)
  · have hf := g_neg hf c20
    refine lv_iload_n hx hb dX12_unary_35 rfl (lv_at hl 0 rfl) ?_
    refine lv_bipush (v := 11) hx hb dX12_unary_36 kB_11 ?_
    refine lv_icmp_eq (pc := 38) (tgt := 47) hx hb dX12_unary_38 (by decide) (fun c21 => ?_) (fun c21 => ?_)
    · have hf := g_pos hf c21
      exact pX12_unary_j47  B r19 u18 _ _ _ hf K (lv_sub hl [1, 0] rfl)
    · have hf := g_neg hf c21
      refine lv_iload_n hx hb dX12_unary_41 rfl (lv_at hl 0 rfl) ?_
      refine lv_bipush (v := 12) hx hb dX12_unary_42 kB_12 ?_
      refine lv_icmp_ne (pc := 44) (tgt := 117) hx hb dX12_unary_44 (by decide) (fun c22 => ?_) (fun c22 => ?_)
      · have hf := g_neg hf c22
        refine lv_iload_n hx hb dX12_unary_117 rfl (lv_at hl 0 rfl) ?_
        refine lv_iconst (v := 3) hx hb dX12_unary_118 kI_3 ?_
        refine lv_icmp_ne (pc := 119) (tgt := 145) hx hb dX12_unary_119 (by decide) (fun c23 => ?_) (fun c23 => ?_)
        · have hf := g_neg hf c23
          refine lv_iload_n hx hb dX12_unary_145 rfl (lv_at hl 0 rfl) ?_
          refine lv_iconst (v := 1) hx hb dX12_unary_146 kI_1 ?_
          refine lv_icmp_ne (pc := 147) (tgt := 177) hx hb dX12_unary_147 (by decide) (fun c24 => ?_) (fun c24 => ?_)
          · have hf := g_neg hf c24
            refine lv_aload_n hx hb dX12_unary_177 rfl (lv_at hl 1 rfl) ?_
            refine lv_iconst (v := 2) hx hb dX12_unary_178 kI_2 ?_
            refine lv_aload_n hx hb dX12_unary_179 rfl (lv_at hl 1 rfl) ?_
            refine ok_int F K fX12_272 dX12_unary_180 ?_
            obtain ⟨u25, hu25, hf⟩ := g_bd hf
            refine ok_callv (rest := []) F K (pX12_fail G hu25) mX12_fail oc100 lX12_284 rfl hl.1 rfl ⟨⟨rfl, rfl⟩, Nat.le_of_ble_eq_true rfl, Nat.le_of_ble_eq_true rfl⟩ (Nat.le_of_ble_eq_true rfl) dX12_unary_183 (fun H locs K => ?_)
            exact ok_retv B K hf dX12_unary_186
          · have hf := g_pos hf c24
            refine lv_aload_n hx hb dX12_unary_150 rfl (lv_at hl 1 rfl) ?_
            refine ok_int F K fX12_338 dX12_unary_151 ?_
            refine lv_topi (fun x26 ex26 => ?_)
            have hf := g_lt hf x26 ex26
            refine lv_istore_n (lv' := [(2, .int x26), (1, .int r19), (0, .ref (G.1 100))]) hx hb dX12_unary_154 rfl hl (by decide) rfl (fun ls hl => ?_)
            refine lv_aload_n hx hb dX12_unary_155 rfl (lv_at hl 2 rfl) ?_
            obtain ⟨u27, hu27, hf⟩ := g_bd hf
            refine ok_callv (rest := []) F K (pX12_readAtom G hu27) mX12_readAtom oc100 lX12_341 rfl hl.1 rfl ⟨⟨rfl, rfl⟩, Nat.le_of_ble_eq_true rfl, Nat.le_of_ble_eq_true rfl⟩ (Nat.le_of_ble_eq_true rfl) dX12_unary_156 (fun H locs K => ?_)
            refine lv_aload_n hx hb dX12_unary_159 rfl (lv_at hl 2 rfl) ?_
            refine lv_aload_n hx hb dX12_unary_160 rfl (lv_at hl 2 rfl) ?_
            refine lv_bipush (v := 15) hx hb dX12_unary_161 kB_15 ?_
            refine lv_iload_n hx hb dX12_unary_163 rfl (lv_at hl 0 rfl) ?_
            refine lv_aload_n hx hb dX12_unary_164 rfl (lv_at hl 2 rfl) ?_
            refine ok_int F K fX12_338 dX12_unary_165 ?_
            obtain ⟨r29, u28, hu28, hf⟩ := g_b2 hf
            refine ok_calli (rest := [.ref (G.1 100)]) F K (pX12_node G hu28) mX12_node oc100 lX12_310 rfl hl.1 rfl ⟨⟨rfl, rfl⟩, Nat.le_of_ble_eq_true rfl, Nat.le_of_ble_eq_true rfl⟩ (Nat.le_of_ble_eq_true rfl) dX12_unary_168 (fun H locs K => ?_)
            obtain ⟨u30, hu30, hf⟩ := g_bd hf
            refine ok_callv (rest := []) F K (pX12_give G hu30) mX12_give oc100 lX12_314 rfl hl.1 rfl ⟨⟨rfl, rfl⟩, Nat.le_of_ble_eq_true rfl, Nat.le_of_ble_eq_true rfl⟩ (Nat.le_of_ble_eq_true rfl) dX12_unary_171 (fun H locs K => ?_)
            refine lv_goto (pc := 174) (tgt := 186) hx hb dX12_unary_174 (by decide) ?_
            exact ok_retv B K hf dX12_unary_186
        · have hf := g_pos hf c23
          refine lv_aload_n hx hb dX12_unary_122 rfl (lv_at hl 1 rfl) ?_
          obtain ⟨r32, u31, hu31, hf⟩ := g_b2 hf
          refine ok_calli (rest := []) F K (pX12_opens G hu31) mX12_opens oc100 lX12_324 rfl hl.1 rfl ⟨⟨rfl, rfl⟩, Nat.le_of_ble_eq_true rfl, Nat.le_of_ble_eq_true rfl⟩ (Nat.le_of_ble_eq_true rfl) dX12_unary_123 (fun H locs K => ?_)
          refine lv_if_eq (pc := 126) (tgt := 186) hx hb dX12_unary_126 (by decide) (fun c33 => ?_) (fun c33 => ?_)
          · have hf := g_pos hf c33
            exact ok_retv B K hf dX12_unary_186
          · have hf := g_neg hf c33
            refine lv_aload_n hx hb dX12_unary_129 rfl (lv_at hl 1 rfl) ?_
            refine lv_bipush (v := 16) hx hb dX12_unary_130 kB_16 ?_
            refine lv_iconst (v := 0) hx hb dX12_unary_132 kI_0 ?_
            obtain ⟨u34, hu34, hf⟩ := g_bd hf
            refine ok_callv (rest := []) F K (pX12_push G hu34) mX12_push oc100 lX12_318 rfl hl.1 rfl ⟨⟨rfl, rfl⟩, Nat.le_of_ble_eq_true rfl, Nat.le_of_ble_eq_true rfl⟩ (Nat.le_of_ble_eq_true rfl) dX12_unary_133 (fun H locs K => ?_)
            refine lv_aload_n hx hb dX12_unary_136 rfl (lv_at hl 1 rfl) ?_
            refine lv_iconst (v := 1) hx hb dX12_unary_137 kI_1 ?_
            refine lv_iconst (v := 0) hx hb dX12_unary_138 kI_0 ?_
            obtain ⟨u35, hu35, hf⟩ := g_bd hf
            refine ok_callv (rest := []) F K (pX12_push G hu35) mX12_push oc100 lX12_318 rfl hl.1 rfl ⟨⟨rfl, rfl⟩, Nat.le_of_ble_eq_true rfl, Nat.le_of_ble_eq_true rfl⟩ (Nat.le_of_ble_eq_true rfl) dX12_unary_139 (fun H locs K => ?_)
            refine lv_goto (pc := 142) (tgt := 186) hx hb dX12_unary_142 (by decide) ?_
            exact ok_retv B K hf dX12_unary_186
      · have hf := g_pos hf c22
        exact pX12_unary_j47  B r19 u18 _ _ _ hf K (lv_sub hl [1, 0] rfl)
  · have hf := g_pos hf c20
    refine lv_aload_n hx hb dX12_unary_11 rfl (lv_at hl 1 rfl) ?_
    obtain ⟨r37, u36, hu36, hf⟩ := g_b2 hf
    refine ok_calli (rest := []) F K (pX12_opens G hu36) mX12_opens oc100 lX12_324 rfl hl.1 rfl ⟨⟨rfl, rfl⟩, Nat.le_of_ble_eq_true rfl, Nat.le_of_ble_eq_true rfl⟩ (Nat.le_of_ble_eq_true rfl) dX12_unary_12 (fun H locs K => ?_)
    refine lv_if_eq (pc := 15) (tgt := 186) hx hb dX12_unary_15 (by decide) (fun c38 => ?_) (fun c38 => ?_)
    · have hf := g_pos hf c38
      exact ok_retv B K hf dX12_unary_186
    · have hf := g_neg hf c38
      refine lv_aload_n hx hb dX12_unary_18 rfl (lv_at hl 1 rfl) ?_
      refine lv_bipush (v := 14) hx hb dX12_unary_19 kB_14 ?_
      refine lv_iconst (v := 0) hx hb dX12_unary_21 kI_0 ?_
      obtain ⟨u39, hu39, hf⟩ := g_bd hf
      refine ok_callv (rest := []) F K (pX12_push G hu39) mX12_push oc100 lX12_318 rfl hl.1 rfl ⟨⟨rfl, rfl⟩, Nat.le_of_ble_eq_true rfl, Nat.le_of_ble_eq_true rfl⟩ (Nat.le_of_ble_eq_true rfl) dX12_unary_22 (fun H locs K => ?_)
      refine lv_aload_n hx hb dX12_unary_25 rfl (lv_at hl 1 rfl) ?_
      refine lv_bipush (v := 13) hx hb dX12_unary_26 kB_13 ?_
      refine lv_iconst (v := 0) hx hb dX12_unary_28 kI_0 ?_
      obtain ⟨u40, hu40, hf⟩ := g_bd hf
      refine ok_callv (rest := []) F K (pX12_push G hu40) mX12_push oc100 lX12_318 rfl hl.1 rfl ⟨⟨rfl, rfl⟩, Nat.le_of_ble_eq_true rfl, Nat.le_of_ble_eq_true rfl⟩ (Nat.le_of_ble_eq_true rfl) dX12_unary_29 (fun H locs K => ?_)
      refine lv_goto (pc := 32) (tgt := 186) hx hb dX12_unary_32 (by decide) ?_
      exact ok_retv B K hf dX12_unary_186
abbrev rmX12_readTask : Room := { frames := 6, cells := 0, slots := 0, locals := 136 }
set_option maxRecDepth 100000 in
set_option maxHeartbeats 4000000 in
theorem pX12_readTask_j422 {p : Program} {l : Launch} {e : Env} {s : State} {m : MethodId} {below : List Frame} {meth : Method} {c : Code} {A : Nat → Prop} {G : Gt} {a0 : Int32} {a1 : Int32} {u' : St} (B : Bd p s m [.ref (G.1 100), .int a0, .int a1] meth c yX12_readTask cX12_readTask 4 none) (u : St) (H : Heap) (locs : List Loc) (ls : Array Slot) (hf : fX12_readTask_j422  u = some u') (K : Ok 100 77 G A s u H locs) (hl : lv_has ls 4 []) : W p l e rmX12_readTask s m ([.ref (G.1 100), .int a0, .int a1] : List Value).toArray below meth c H locs 0 0 (MQ below (Qg 100 77 G A none u') ([.ref (G.1 100), .int a0, .int a1] : List Value).toArray s 0 0 A) (F0 m 422 ls []) := by
  have F := B.1
  have hx := F.1
  have hb := F.2.1
  unfold fX12_readTask_j422 at hf
  exact ok_retv B K hf dX12_readTask_422
set_option maxRecDepth 100000 in
set_option maxHeartbeats 4000000 in
theorem pX12_readTask {l : Launch} (G : Gt) {a0 : Int32} {a1 : Int32} {u u' : St} (hf : fX12_readTask a0 a1 u = some u') : Ctr 100 77 l yX12_readTask cX12_readTask 4 none rmX12_readTask [.ref (G.1 100), .int a0, .int a1] G u none u' := by
  refine Ctr.mk (by decide) (Nat.le_of_ble_eq_true rfl) (fun p e s m below meth c A ls B K hl => ?_)
  have F := B.1
  have hx := F.1
  have hb := F.2.1
  have hl : lv_has ls 4 [(0, .ref (G.1 100)), (1, .int a0), (2, .int a1)] := hl
  unfold fX12_readTask at hf
  refine lv_iload_n hx hb dX12_readTask_0 rfl (lv_at hl 1 rfl) ?_
  by_cases c1 : a0 = 1
  · have hf := g_pos hf c1
    refine lv_tableInE (pc := 1) (K := 1) (off := 75) (tgt := 76) hx hb dX12_readTask_1 c1 (by decide) (by decide) rfl (by decide) ?_
    refine lv_aload_n hx hb dX12_readTask_76 rfl (lv_at hl 0 rfl) ?_
    refine lv_iconst (v := 2) hx hb dX12_readTask_77 kI_2 ?_
    refine lv_iconst (v := 0) hx hb dX12_readTask_78 kI_0 ?_
    obtain ⟨u2, hu2, hf⟩ := g_bd hf
    refine ok_callv (rest := []) F K (pX12_push G hu2) mX12_push oc100 lX12_318 rfl hl.1 rfl ⟨⟨rfl, rfl⟩, Nat.le_of_ble_eq_true rfl, Nat.le_of_ble_eq_true rfl⟩ (Nat.le_of_ble_eq_true rfl) dX12_readTask_79 (fun H locs K => ?_)
    refine lv_aload_n hx hb dX12_readTask_82 rfl (lv_at hl 0 rfl) ?_
    refine lv_iconst (v := 4) hx hb dX12_readTask_83 kI_4 ?_
    refine lv_iconst (v := 0) hx hb dX12_readTask_84 kI_0 ?_
    obtain ⟨u3, hu3, hf⟩ := g_bd hf
    refine ok_callv (rest := []) F K (pX12_push G hu3) mX12_push oc100 lX12_318 rfl hl.1 rfl ⟨⟨rfl, rfl⟩, Nat.le_of_ble_eq_true rfl, Nat.le_of_ble_eq_true rfl⟩ (Nat.le_of_ble_eq_true rfl) dX12_readTask_85 (fun H locs K => ?_)
    refine lv_goto (pc := 88) (tgt := 422) hx hb dX12_readTask_88 (by decide) ?_
    exact pX12_readTask_j422  B  u3 _ _ _ hf K (lv_sub hl [] rfl)
  · have hf := g_neg hf c1
    by_cases c4 : a0 = 2
    · have hf := g_pos hf c4
      refine lv_tableInE (pc := 1) (K := 2) (off := 90) (tgt := 91) hx hb dX12_readTask_1 c4 (by decide) (by decide) rfl (by decide) ?_
      refine lv_aload_n hx hb dX12_readTask_91 rfl (lv_at hl 0 rfl) ?_
      obtain ⟨r6, u5, hu5, hf⟩ := g_b2 hf
      refine ok_calli (rest := []) F K (pX12_look G hu5) mX12_look oc100 lX12_288 rfl hl.1 rfl ⟨⟨rfl, rfl⟩, Nat.le_of_ble_eq_true rfl, Nat.le_of_ble_eq_true rfl⟩ (Nat.le_of_ble_eq_true rfl) dX12_readTask_92 (fun H locs K => ?_)
      refine lv_bipush (v := 14) hx hb dX12_readTask_95 kB_14 ?_
      refine lv_icmp_ne (pc := 97) (tgt := 422) hx hb dX12_readTask_97 (by decide) (fun c7 => ?_) (fun c7 => ?_)
      · have hf := g_neg hf c7
        exact pX12_readTask_j422  B  u5 _ _ _ hf K (lv_sub hl [] rfl)
      · have hf := g_pos hf c7
        refine lv_aload_n hx hb dX12_readTask_100 rfl (lv_at hl 0 rfl) ?_
        obtain ⟨r9, u8, hu8, hf⟩ := g_b2 hf
        refine ok_calli (rest := []) F K (pX12_opens G hu8) mX12_opens oc100 lX12_324 rfl hl.1 rfl ⟨⟨rfl, rfl⟩, Nat.le_of_ble_eq_true rfl, Nat.le_of_ble_eq_true rfl⟩ (Nat.le_of_ble_eq_true rfl) dX12_readTask_101 (fun H locs K => ?_)
        refine lv_if_eq (pc := 104) (tgt := 422) hx hb dX12_readTask_104 (by decide) (fun c10 => ?_) (fun c10 => ?_)
        · have hf := g_pos hf c10
          exact pX12_readTask_j422  B  u8 _ _ _ hf K (lv_sub hl [] rfl)
        · have hf := g_neg hf c10
          refine lv_aload_n hx hb dX12_readTask_107 rfl (lv_at hl 0 rfl) ?_
          refine lv_iconst (v := 3) hx hb dX12_readTask_108 kI_3 ?_
          refine lv_iconst (v := 0) hx hb dX12_readTask_109 kI_0 ?_
          obtain ⟨u11, hu11, hf⟩ := g_bd hf
          refine ok_callv (rest := []) F K (pX12_push G hu11) mX12_push oc100 lX12_318 rfl hl.1 rfl ⟨⟨rfl, rfl⟩, Nat.le_of_ble_eq_true rfl, Nat.le_of_ble_eq_true rfl⟩ (Nat.le_of_ble_eq_true rfl) dX12_readTask_110 (fun H locs K => ?_)
          refine lv_aload_n hx hb dX12_readTask_113 rfl (lv_at hl 0 rfl) ?_
          refine lv_iconst (v := 4) hx hb dX12_readTask_114 kI_4 ?_
          refine lv_iconst (v := 0) hx hb dX12_readTask_115 kI_0 ?_
          obtain ⟨u12, hu12, hf⟩ := g_bd hf
          refine ok_callv (rest := []) F K (pX12_push G hu12) mX12_push oc100 lX12_318 rfl hl.1 rfl ⟨⟨rfl, rfl⟩, Nat.le_of_ble_eq_true rfl, Nat.le_of_ble_eq_true rfl⟩ (Nat.le_of_ble_eq_true rfl) dX12_readTask_116 (fun H locs K => ?_)
          refine lv_goto (pc := 119) (tgt := 422) hx hb dX12_readTask_119 (by decide) ?_
          exact pX12_readTask_j422  B  u12 _ _ _ hf K (lv_sub hl [] rfl)
    · have hf := g_neg hf c4
      by_cases c13 : a0 = 3
      · have hf := g_pos hf c13
        refine lv_tableInE (pc := 1) (K := 3) (off := 121) (tgt := 122) hx hb dX12_readTask_1 c13 (by decide) (by decide) rfl (by decide) ?_
        refine lv_aload_n hx hb dX12_readTask_122 rfl (lv_at hl 0 rfl) ?_
        refine lv_dup hx hb dX12_readTask_123 rfl ?_
        refine ok_int F K fX12_298 dX12_readTask_124 ?_
        refine lv_iconst (v := 1) hx hb dX12_readTask_127 kI_1 ?_
        refine lv_isub hx hb dX12_readTask_128 ?_
        refine ok_putI F K qX12_298 dX12_readTask_129 (fun u14 H locs eu14 K => ?_)
        have hf := g_lt hf u14 eu14
        refine lv_aload_n hx hb dX12_readTask_132 rfl (lv_at hl 0 rfl) ?_
        refine lv_bipush (v := 14) hx hb dX12_readTask_133 kB_14 ?_
        obtain ⟨u15, hu15, hf⟩ := g_bd hf
        refine ok_callv (rest := []) F K (pX12_joins G hu15) mX12_joins oc100 lX12_328 rfl hl.1 rfl ⟨⟨rfl, rfl⟩, Nat.le_of_ble_eq_true rfl, Nat.le_of_ble_eq_true rfl⟩ (Nat.le_of_ble_eq_true rfl) dX12_readTask_135 (fun H locs K => ?_)
        refine lv_aload_n hx hb dX12_readTask_138 rfl (lv_at hl 0 rfl) ?_
        refine lv_iconst (v := 2) hx hb dX12_readTask_139 kI_2 ?_
        refine lv_iconst (v := 0) hx hb dX12_readTask_140 kI_0 ?_
        obtain ⟨u16, hu16, hf⟩ := g_bd hf
        refine ok_callv (rest := []) F K (pX12_push G hu16) mX12_push oc100 lX12_318 rfl hl.1 rfl ⟨⟨rfl, rfl⟩, Nat.le_of_ble_eq_true rfl, Nat.le_of_ble_eq_true rfl⟩ (Nat.le_of_ble_eq_true rfl) dX12_readTask_141 (fun H locs K => ?_)
        refine lv_goto (pc := 144) (tgt := 422) hx hb dX12_readTask_144 (by decide) ?_
        exact pX12_readTask_j422  B  u16 _ _ _ hf K (lv_sub hl [] rfl)
      · have hf := g_neg hf c13
        by_cases c17 : a0 = 4
        · have hf := g_pos hf c17
          refine lv_tableInE (pc := 1) (K := 4) (off := 146) (tgt := 147) hx hb dX12_readTask_1 c17 (by decide) (by decide) rfl (by decide) ?_
          refine lv_aload_n hx hb dX12_readTask_147 rfl (lv_at hl 0 rfl) ?_
          refine lv_iconst (v := 5) hx hb dX12_readTask_148 kI_5 ?_
          refine lv_iconst (v := 0) hx hb dX12_readTask_149 kI_0 ?_
          obtain ⟨u18, hu18, hf⟩ := g_bd hf
          refine ok_callv (rest := []) F K (pX12_push G hu18) mX12_push oc100 lX12_318 rfl hl.1 rfl ⟨⟨rfl, rfl⟩, Nat.le_of_ble_eq_true rfl, Nat.le_of_ble_eq_true rfl⟩ (Nat.le_of_ble_eq_true rfl) dX12_readTask_150 (fun H locs K => ?_)
          refine lv_aload_n hx hb dX12_readTask_153 rfl (lv_at hl 0 rfl) ?_
          refine lv_bipush (v := 7) hx hb dX12_readTask_154 kB_7 ?_
          refine lv_iconst (v := 0) hx hb dX12_readTask_156 kI_0 ?_
          obtain ⟨u19, hu19, hf⟩ := g_bd hf
          refine ok_callv (rest := []) F K (pX12_push G hu19) mX12_push oc100 lX12_318 rfl hl.1 rfl ⟨⟨rfl, rfl⟩, Nat.le_of_ble_eq_true rfl, Nat.le_of_ble_eq_true rfl⟩ (Nat.le_of_ble_eq_true rfl) dX12_readTask_157 (fun H locs K => ?_)
          refine lv_goto (pc := 160) (tgt := 422) hx hb dX12_readTask_160 (by decide) ?_
          exact pX12_readTask_j422  B  u19 _ _ _ hf K (lv_sub hl [] rfl)
        · have hf := g_neg hf c17
          by_cases c20 : a0 = 5
          · have hf := g_pos hf c20
            refine lv_tableInE (pc := 1) (K := 5) (off := 162) (tgt := 163) hx hb dX12_readTask_1 c20 (by decide) (by decide) rfl (by decide) ?_
            refine lv_aload_n hx hb dX12_readTask_163 rfl (lv_at hl 0 rfl) ?_
            obtain ⟨r22, u21, hu21, hf⟩ := g_b2 hf
            refine ok_calli (rest := []) F K (pX12_look G hu21) mX12_look oc100 lX12_288 rfl hl.1 rfl ⟨⟨rfl, rfl⟩, Nat.le_of_ble_eq_true rfl, Nat.le_of_ble_eq_true rfl⟩ (Nat.le_of_ble_eq_true rfl) dX12_readTask_164 (fun H locs K => ?_)
            refine lv_bipush (v := 13) hx hb dX12_readTask_167 kB_13 ?_
            refine lv_icmp_ne (pc := 169) (tgt := 422) hx hb dX12_readTask_169 (by decide) (fun c23 => ?_) (fun c23 => ?_)
            · have hf := g_neg hf c23
              exact pX12_readTask_j422  B  u21 _ _ _ hf K (lv_sub hl [] rfl)
            · have hf := g_pos hf c23
              refine lv_aload_n hx hb dX12_readTask_172 rfl (lv_at hl 0 rfl) ?_
              obtain ⟨r25, u24, hu24, hf⟩ := g_b2 hf
              refine ok_calli (rest := []) F K (pX12_opens G hu24) mX12_opens oc100 lX12_324 rfl hl.1 rfl ⟨⟨rfl, rfl⟩, Nat.le_of_ble_eq_true rfl, Nat.le_of_ble_eq_true rfl⟩ (Nat.le_of_ble_eq_true rfl) dX12_readTask_173 (fun H locs K => ?_)
              refine lv_if_eq (pc := 176) (tgt := 422) hx hb dX12_readTask_176 (by decide) (fun c26 => ?_) (fun c26 => ?_)
              · have hf := g_pos hf c26
                exact pX12_readTask_j422  B  u24 _ _ _ hf K (lv_sub hl [] rfl)
              · have hf := g_neg hf c26
                refine lv_aload_n hx hb dX12_readTask_179 rfl (lv_at hl 0 rfl) ?_
                refine lv_bipush (v := 6) hx hb dX12_readTask_180 kB_6 ?_
                refine lv_iconst (v := 0) hx hb dX12_readTask_182 kI_0 ?_
                obtain ⟨u27, hu27, hf⟩ := g_bd hf
                refine ok_callv (rest := []) F K (pX12_push G hu27) mX12_push oc100 lX12_318 rfl hl.1 rfl ⟨⟨rfl, rfl⟩, Nat.le_of_ble_eq_true rfl, Nat.le_of_ble_eq_true rfl⟩ (Nat.le_of_ble_eq_true rfl) dX12_readTask_183 (fun H locs K => ?_)
                refine lv_aload_n hx hb dX12_readTask_186 rfl (lv_at hl 0 rfl) ?_
                refine lv_iconst (v := 4) hx hb dX12_readTask_187 kI_4 ?_
                refine lv_iconst (v := 0) hx hb dX12_readTask_188 kI_0 ?_
                obtain ⟨u28, hu28, hf⟩ := g_bd hf
                refine ok_callv (rest := []) F K (pX12_push G hu28) mX12_push oc100 lX12_318 rfl hl.1 rfl ⟨⟨rfl, rfl⟩, Nat.le_of_ble_eq_true rfl, Nat.le_of_ble_eq_true rfl⟩ (Nat.le_of_ble_eq_true rfl) dX12_readTask_189 (fun H locs K => ?_)
                refine lv_goto (pc := 192) (tgt := 422) hx hb dX12_readTask_192 (by decide) ?_
                exact pX12_readTask_j422  B  u28 _ _ _ hf K (lv_sub hl [] rfl)
          · have hf := g_neg hf c20
            by_cases c29 : a0 = 6
            · have hf := g_pos hf c29
              refine lv_tableInE (pc := 1) (K := 6) (off := 194) (tgt := 195) hx hb dX12_readTask_1 c29 (by decide) (by decide) rfl (by decide) ?_
              refine lv_aload_n hx hb dX12_readTask_195 rfl (lv_at hl 0 rfl) ?_
              refine lv_dup hx hb dX12_readTask_196 rfl ?_
              refine ok_int F K fX12_298 dX12_readTask_197 ?_
              refine lv_iconst (v := 1) hx hb dX12_readTask_200 kI_1 ?_
              refine lv_isub hx hb dX12_readTask_201 ?_
              refine ok_putI F K qX12_298 dX12_readTask_202 (fun u30 H locs eu30 K => ?_)
              have hf := g_lt hf u30 eu30
              refine lv_aload_n hx hb dX12_readTask_205 rfl (lv_at hl 0 rfl) ?_
              refine lv_bipush (v := 13) hx hb dX12_readTask_206 kB_13 ?_
              obtain ⟨u31, hu31, hf⟩ := g_bd hf
              refine ok_callv (rest := []) F K (pX12_joins G hu31) mX12_joins oc100 lX12_328 rfl hl.1 rfl ⟨⟨rfl, rfl⟩, Nat.le_of_ble_eq_true rfl, Nat.le_of_ble_eq_true rfl⟩ (Nat.le_of_ble_eq_true rfl) dX12_readTask_208 (fun H locs K => ?_)
              refine lv_goto (pc := 211) (tgt := 422) hx hb dX12_readTask_211 (by decide) ?_
              exact pX12_readTask_j422  B  u31 _ _ _ hf K (lv_sub hl [] rfl)
            · have hf := g_neg hf c29
              by_cases c32 : a0 = 7
              · have hf := g_pos hf c32
                refine lv_tableInE (pc := 1) (K := 7) (off := 213) (tgt := 214) hx hb dX12_readTask_1 c32 (by decide) (by decide) rfl (by decide) ?_
                refine lv_aload_n hx hb dX12_readTask_214 rfl (lv_at hl 0 rfl) ?_
                refine lv_bipush (v := 8) hx hb dX12_readTask_215 kB_8 ?_
                refine lv_iconst (v := 0) hx hb dX12_readTask_217 kI_0 ?_
                obtain ⟨u33, hu33, hf⟩ := g_bd hf
                refine ok_callv (rest := []) F K (pX12_push G hu33) mX12_push oc100 lX12_318 rfl hl.1 rfl ⟨⟨rfl, rfl⟩, Nat.le_of_ble_eq_true rfl, Nat.le_of_ble_eq_true rfl⟩ (Nat.le_of_ble_eq_true rfl) dX12_readTask_218 (fun H locs K => ?_)
                refine lv_aload_n hx hb dX12_readTask_221 rfl (lv_at hl 0 rfl) ?_
                refine lv_bipush (v := 10) hx hb dX12_readTask_222 kB_10 ?_
                refine lv_iconst (v := 0) hx hb dX12_readTask_224 kI_0 ?_
                obtain ⟨u34, hu34, hf⟩ := g_bd hf
                refine ok_callv (rest := []) F K (pX12_push G hu34) mX12_push oc100 lX12_318 rfl hl.1 rfl ⟨⟨rfl, rfl⟩, Nat.le_of_ble_eq_true rfl, Nat.le_of_ble_eq_true rfl⟩ (Nat.le_of_ble_eq_true rfl) dX12_readTask_225 (fun H locs K => ?_)
                refine lv_goto (pc := 228) (tgt := 422) hx hb dX12_readTask_228 (by decide) ?_
                exact pX12_readTask_j422  B  u34 _ _ _ hf K (lv_sub hl [] rfl)
              · have hf := g_neg hf c32
                by_cases c35 : a0 = 8
                · have hf := g_pos hf c35
                  refine lv_tableInE (pc := 1) (K := 8) (off := 230) (tgt := 231) hx hb dX12_readTask_1 c35 (by decide) (by decide) rfl (by decide) ?_
                  refine lv_aload_n hx hb dX12_readTask_231 rfl (lv_at hl 0 rfl) ?_
                  obtain ⟨r37, u36, hu36, hf⟩ := g_b2 hf
                  refine ok_calli (rest := []) F K (pX12_look G hu36) mX12_look oc100 lX12_288 rfl hl.1 rfl ⟨⟨rfl, rfl⟩, Nat.le_of_ble_eq_true rfl, Nat.le_of_ble_eq_true rfl⟩ (Nat.le_of_ble_eq_true rfl) dX12_readTask_232 (fun H locs K => ?_)
                  refine lv_bipush (v := 10) hx hb dX12_readTask_235 kB_10 ?_
                  refine lv_icmp_ne (pc := 237) (tgt := 422) hx hb dX12_readTask_237 (by decide) (fun c38 => ?_) (fun c38 => ?_)
                  · have hf := g_neg hf c38
                    exact pX12_readTask_j422  B  u36 _ _ _ hf K (lv_sub hl [] rfl)
                  · have hf := g_pos hf c38
                    refine lv_aload_n hx hb dX12_readTask_240 rfl (lv_at hl 0 rfl) ?_
                    obtain ⟨u39, hu39, hf⟩ := g_bd hf
                    refine ok_callv (rest := []) F K (pX12_take G hu39) mX12_take oc100 lX12_292 rfl hl.1 rfl ⟨⟨rfl, rfl⟩, Nat.le_of_ble_eq_true rfl, Nat.le_of_ble_eq_true rfl⟩ (Nat.le_of_ble_eq_true rfl) dX12_readTask_241 (fun H locs K => ?_)
                    refine lv_aload_n hx hb dX12_readTask_244 rfl (lv_at hl 0 rfl) ?_
                    refine lv_bipush (v := 9) hx hb dX12_readTask_245 kB_9 ?_
                    refine lv_iconst (v := 0) hx hb dX12_readTask_247 kI_0 ?_
                    obtain ⟨u40, hu40, hf⟩ := g_bd hf
                    refine ok_callv (rest := []) F K (pX12_push G hu40) mX12_push oc100 lX12_318 rfl hl.1 rfl ⟨⟨rfl, rfl⟩, Nat.le_of_ble_eq_true rfl, Nat.le_of_ble_eq_true rfl⟩ (Nat.le_of_ble_eq_true rfl) dX12_readTask_248 (fun H locs K => ?_)
                    refine lv_aload_n hx hb dX12_readTask_251 rfl (lv_at hl 0 rfl) ?_
                    refine lv_bipush (v := 10) hx hb dX12_readTask_252 kB_10 ?_
                    refine lv_iconst (v := 0) hx hb dX12_readTask_254 kI_0 ?_
                    obtain ⟨u41, hu41, hf⟩ := g_bd hf
                    refine ok_callv (rest := []) F K (pX12_push G hu41) mX12_push oc100 lX12_318 rfl hl.1 rfl ⟨⟨rfl, rfl⟩, Nat.le_of_ble_eq_true rfl, Nat.le_of_ble_eq_true rfl⟩ (Nat.le_of_ble_eq_true rfl) dX12_readTask_255 (fun H locs K => ?_)
                    refine lv_goto (pc := 258) (tgt := 422) hx hb dX12_readTask_258 (by decide) ?_
                    exact pX12_readTask_j422  B  u41 _ _ _ hf K (lv_sub hl [] rfl)
                · have hf := g_neg hf c35
                  by_cases c42 : a0 = 9
                  · have hf := g_pos hf c42
                    refine lv_tableInE (pc := 1) (K := 9) (off := 260) (tgt := 261) hx hb dX12_readTask_1 c42 (by decide) (by decide) rfl (by decide) ?_
                    refine lv_aload_n hx hb dX12_readTask_261 rfl (lv_at hl 0 rfl) ?_
                    refine lv_bipush (v := 10) hx hb dX12_readTask_262 kB_10 ?_
                    obtain ⟨u43, hu43, hf⟩ := g_bd hf
                    refine ok_callv (rest := []) F K (pX12_joins G hu43) mX12_joins oc100 lX12_328 rfl hl.1 rfl ⟨⟨rfl, rfl⟩, Nat.le_of_ble_eq_true rfl, Nat.le_of_ble_eq_true rfl⟩ (Nat.le_of_ble_eq_true rfl) dX12_readTask_264 (fun H locs K => ?_)
                    refine lv_aload_n hx hb dX12_readTask_267 rfl (lv_at hl 0 rfl) ?_
                    refine lv_bipush (v := 8) hx hb dX12_readTask_268 kB_8 ?_
                    refine lv_iconst (v := 0) hx hb dX12_readTask_270 kI_0 ?_
                    obtain ⟨u44, hu44, hf⟩ := g_bd hf
                    refine ok_callv (rest := []) F K (pX12_push G hu44) mX12_push oc100 lX12_318 rfl hl.1 rfl ⟨⟨rfl, rfl⟩, Nat.le_of_ble_eq_true rfl, Nat.le_of_ble_eq_true rfl⟩ (Nat.le_of_ble_eq_true rfl) dX12_readTask_271 (fun H locs K => ?_)
                    refine lv_goto (pc := 274) (tgt := 422) hx hb dX12_readTask_274 (by decide) ?_
                    exact pX12_readTask_j422  B  u44 _ _ _ hf K (lv_sub hl [] rfl)
                  · have hf := g_neg hf c42
                    by_cases c45 : a0 = 10
                    · have hf := g_pos hf c45
                      refine lv_tableInE (pc := 1) (K := 10) (off := 276) (tgt := 277) hx hb dX12_readTask_1 c45 (by decide) (by decide) rfl (by decide) ?_
                      refine lv_aload_n hx hb dX12_readTask_277 rfl (lv_at hl 0 rfl) ?_
                      refine lv_bipush (v := 11) hx hb dX12_readTask_278 kB_11 ?_
                      refine lv_iconst (v := 0) hx hb dX12_readTask_280 kI_0 ?_
                      obtain ⟨u46, hu46, hf⟩ := g_bd hf
                      refine ok_callv (rest := []) F K (pX12_push G hu46) mX12_push oc100 lX12_318 rfl hl.1 rfl ⟨⟨rfl, rfl⟩, Nat.le_of_ble_eq_true rfl, Nat.le_of_ble_eq_true rfl⟩ (Nat.le_of_ble_eq_true rfl) dX12_readTask_281 (fun H locs K => ?_)
                      refine lv_aload_n hx hb dX12_readTask_284 rfl (lv_at hl 0 rfl) ?_
                      refine lv_bipush (v := 13) hx hb dX12_readTask_285 kB_13 ?_
                      refine lv_iconst (v := 0) hx hb dX12_readTask_287 kI_0 ?_
                      obtain ⟨u47, hu47, hf⟩ := g_bd hf
                      refine ok_callv (rest := []) F K (pX12_push G hu47) mX12_push oc100 lX12_318 rfl hl.1 rfl ⟨⟨rfl, rfl⟩, Nat.le_of_ble_eq_true rfl, Nat.le_of_ble_eq_true rfl⟩ (Nat.le_of_ble_eq_true rfl) dX12_readTask_288 (fun H locs K => ?_)
                      refine lv_goto (pc := 291) (tgt := 422) hx hb dX12_readTask_291 (by decide) ?_
                      exact pX12_readTask_j422  B  u47 _ _ _ hf K (lv_sub hl [] rfl)
                    · have hf := g_neg hf c45
                      by_cases c48 : a0 = 11
                      · have hf := g_pos hf c48
                        refine lv_tableInE (pc := 1) (K := 11) (off := 293) (tgt := 294) hx hb dX12_readTask_1 c48 (by decide) (by decide) rfl (by decide) ?_
                        refine lv_aload_n hx hb dX12_readTask_294 rfl (lv_at hl 0 rfl) ?_
                        obtain ⟨r50, u49, hu49, hf⟩ := g_b2 hf
                        refine ok_calli (rest := []) F K (pX12_look G hu49) mX12_look oc100 lX12_288 rfl hl.1 rfl ⟨⟨rfl, rfl⟩, Nat.le_of_ble_eq_true rfl, Nat.le_of_ble_eq_true rfl⟩ (Nat.le_of_ble_eq_true rfl) dX12_readTask_295 (fun H locs K => ?_)
                        refine lv_bipush (v := 9) hx hb dX12_readTask_298 kB_9 ?_
                        refine lv_icmp_ne (pc := 300) (tgt := 422) hx hb dX12_readTask_300 (by decide) (fun c51 => ?_) (fun c51 => ?_)
                        · have hf := g_neg hf c51
                          exact pX12_readTask_j422  B  u49 _ _ _ hf K (lv_sub hl [] rfl)
                        · have hf := g_pos hf c51
                          refine lv_aload_n hx hb dX12_readTask_303 rfl (lv_at hl 0 rfl) ?_
                          obtain ⟨u52, hu52, hf⟩ := g_bd hf
                          refine ok_callv (rest := []) F K (pX12_take G hu52) mX12_take oc100 lX12_292 rfl hl.1 rfl ⟨⟨rfl, rfl⟩, Nat.le_of_ble_eq_true rfl, Nat.le_of_ble_eq_true rfl⟩ (Nat.le_of_ble_eq_true rfl) dX12_readTask_304 (fun H locs K => ?_)
                          refine lv_aload_n hx hb dX12_readTask_307 rfl (lv_at hl 0 rfl) ?_
                          refine lv_bipush (v := 12) hx hb dX12_readTask_308 kB_12 ?_
                          refine lv_iconst (v := 0) hx hb dX12_readTask_310 kI_0 ?_
                          obtain ⟨u53, hu53, hf⟩ := g_bd hf
                          refine ok_callv (rest := []) F K (pX12_push G hu53) mX12_push oc100 lX12_318 rfl hl.1 rfl ⟨⟨rfl, rfl⟩, Nat.le_of_ble_eq_true rfl, Nat.le_of_ble_eq_true rfl⟩ (Nat.le_of_ble_eq_true rfl) dX12_readTask_311 (fun H locs K => ?_)
                          refine lv_aload_n hx hb dX12_readTask_314 rfl (lv_at hl 0 rfl) ?_
                          refine lv_bipush (v := 13) hx hb dX12_readTask_315 kB_13 ?_
                          refine lv_iconst (v := 0) hx hb dX12_readTask_317 kI_0 ?_
                          obtain ⟨u54, hu54, hf⟩ := g_bd hf
                          refine ok_callv (rest := []) F K (pX12_push G hu54) mX12_push oc100 lX12_318 rfl hl.1 rfl ⟨⟨rfl, rfl⟩, Nat.le_of_ble_eq_true rfl, Nat.le_of_ble_eq_true rfl⟩ (Nat.le_of_ble_eq_true rfl) dX12_readTask_318 (fun H locs K => ?_)
                          refine lv_goto (pc := 321) (tgt := 422) hx hb dX12_readTask_321 (by decide) ?_
                          exact pX12_readTask_j422  B  u54 _ _ _ hf K (lv_sub hl [] rfl)
                      · have hf := g_neg hf c48
                        by_cases c55 : a0 = 12
                        · have hf := g_pos hf c55
                          refine lv_tableInE (pc := 1) (K := 12) (off := 323) (tgt := 324) hx hb dX12_readTask_1 c55 (by decide) (by decide) rfl (by decide) ?_
                          refine lv_aload_n hx hb dX12_readTask_324 rfl (lv_at hl 0 rfl) ?_
                          refine lv_bipush (v := 9) hx hb dX12_readTask_325 kB_9 ?_
                          obtain ⟨u56, hu56, hf⟩ := g_bd hf
                          refine ok_callv (rest := []) F K (pX12_joins G hu56) mX12_joins oc100 lX12_328 rfl hl.1 rfl ⟨⟨rfl, rfl⟩, Nat.le_of_ble_eq_true rfl, Nat.le_of_ble_eq_true rfl⟩ (Nat.le_of_ble_eq_true rfl) dX12_readTask_327 (fun H locs K => ?_)
                          refine lv_aload_n hx hb dX12_readTask_330 rfl (lv_at hl 0 rfl) ?_
                          refine lv_bipush (v := 11) hx hb dX12_readTask_331 kB_11 ?_
                          refine lv_iconst (v := 0) hx hb dX12_readTask_333 kI_0 ?_
                          obtain ⟨u57, hu57, hf⟩ := g_bd hf
                          refine ok_callv (rest := []) F K (pX12_push G hu57) mX12_push oc100 lX12_318 rfl hl.1 rfl ⟨⟨rfl, rfl⟩, Nat.le_of_ble_eq_true rfl, Nat.le_of_ble_eq_true rfl⟩ (Nat.le_of_ble_eq_true rfl) dX12_readTask_334 (fun H locs K => ?_)
                          refine lv_goto (pc := 337) (tgt := 422) hx hb dX12_readTask_337 (by decide) ?_
                          exact pX12_readTask_j422  B  u57 _ _ _ hf K (lv_sub hl [] rfl)
                        · have hf := g_neg hf c55
                          by_cases c58 : a0 = 13
                          · have hf := g_pos hf c58
                            refine lv_tableInE (pc := 1) (K := 13) (off := 339) (tgt := 340) hx hb dX12_readTask_1 c58 (by decide) (by decide) rfl (by decide) ?_
                            refine lv_aload_n hx hb dX12_readTask_340 rfl (lv_at hl 0 rfl) ?_
                            obtain ⟨u59, hu59, hf⟩ := g_bd hf
                            refine ok_callv (rest := []) F K (pX12_unary G hu59) mX12_unary oc100 lX12_331 rfl hl.1 rfl ⟨⟨rfl, rfl⟩, Nat.le_of_ble_eq_true rfl, Nat.le_of_ble_eq_true rfl⟩ (Nat.le_of_ble_eq_true rfl) dX12_readTask_341 (fun H locs K => ?_)
                            refine lv_goto (pc := 344) (tgt := 422) hx hb dX12_readTask_344 (by decide) ?_
                            exact pX12_readTask_j422  B  u59 _ _ _ hf K (lv_sub hl [] rfl)
                          · have hf := g_neg hf c58
                            by_cases c60 : a0 = 14
                            · have hf := g_pos hf c60
                              refine lv_tableInE (pc := 1) (K := 14) (off := 346) (tgt := 347) hx hb dX12_readTask_1 c60 (by decide) (by decide) rfl (by decide) ?_
                              refine lv_aload_n hx hb dX12_readTask_347 rfl (lv_at hl 0 rfl) ?_
                              refine lv_dup hx hb dX12_readTask_348 rfl ?_
                              refine ok_int F K fX12_298 dX12_readTask_349 ?_
                              refine lv_iconst (v := 1) hx hb dX12_readTask_352 kI_1 ?_
                              refine lv_isub hx hb dX12_readTask_353 ?_
                              refine ok_putI F K qX12_298 dX12_readTask_354 (fun u61 H locs eu61 K => ?_)
                              have hf := g_lt hf u61 eu61
                              refine lv_aload_n hx hb dX12_readTask_357 rfl (lv_at hl 0 rfl) ?_
                              refine lv_aload_n hx hb dX12_readTask_358 rfl (lv_at hl 0 rfl) ?_
                              refine lv_bipush (v := 8) hx hb dX12_readTask_359 kB_8 ?_
                              refine lv_aload_n hx hb dX12_readTask_361 rfl (lv_at hl 0 rfl) ?_
                              obtain ⟨r63, u62, hu62, hf⟩ := g_b2 hf
                              refine ok_calli (rest := [.int 8, .ref (G.1 100), .ref (G.1 100)]) F K (pX12_got G hu62) mX12_got oc100 lX12_307 rfl hl.1 rfl ⟨⟨rfl, rfl⟩, Nat.le_of_ble_eq_true rfl, Nat.le_of_ble_eq_true rfl⟩ (Nat.le_of_ble_eq_true rfl) dX12_readTask_362 (fun H locs K => ?_)
                              refine lv_iconst (v := 0) hx hb dX12_readTask_365 kI_0 ?_
                              obtain ⟨r65, u64, hu64, hf⟩ := g_b2 hf
                              refine ok_calli (rest := [.ref (G.1 100)]) F K (pX12_node G hu64) mX12_node oc100 lX12_310 rfl hl.1 rfl ⟨⟨rfl, rfl⟩, Nat.le_of_ble_eq_true rfl, Nat.le_of_ble_eq_true rfl⟩ (Nat.le_of_ble_eq_true rfl) dX12_readTask_366 (fun H locs K => ?_)
                              obtain ⟨u66, hu66, hf⟩ := g_bd hf
                              refine ok_callv (rest := []) F K (pX12_give G hu66) mX12_give oc100 lX12_314 rfl hl.1 rfl ⟨⟨rfl, rfl⟩, Nat.le_of_ble_eq_true rfl, Nat.le_of_ble_eq_true rfl⟩ (Nat.le_of_ble_eq_true rfl) dX12_readTask_369 (fun H locs K => ?_)
                              refine lv_goto (pc := 372) (tgt := 422) hx hb dX12_readTask_372 (by decide) ?_
                              exact pX12_readTask_j422  B  u66 _ _ _ hf K (lv_sub hl [] rfl)
                            · have hf := g_neg hf c60
                              by_cases c67 : a0 = 15
                              · have hf := g_pos hf c67
                                refine lv_tableInE (pc := 1) (K := 15) (off := 374) (tgt := 375) hx hb dX12_readTask_1 c67 (by decide) (by decide) rfl (by decide) ?_
                                refine lv_aload_n hx hb dX12_readTask_375 rfl (lv_at hl 0 rfl) ?_
                                refine lv_dup hx hb dX12_readTask_376 rfl ?_
                                refine ok_int F K fX12_298 dX12_readTask_377 ?_
                                refine lv_iconst (v := 1) hx hb dX12_readTask_380 kI_1 ?_
                                refine lv_isub hx hb dX12_readTask_381 ?_
                                refine ok_putI F K qX12_298 dX12_readTask_382 (fun u68 H locs eu68 K => ?_)
                                have hf := g_lt hf u68 eu68
                                refine lv_aload_n hx hb dX12_readTask_385 rfl (lv_at hl 0 rfl) ?_
                                refine ok_ref F K fX12_55 dX12_readTask_386 ?_
                                refine lv_iload_n hx hb dX12_readTask_389 rfl (lv_at hl 2 rfl) ?_
                                refine lv_aload_n hx hb dX12_readTask_390 rfl (lv_at hl 0 rfl) ?_
                                obtain ⟨r70, u69, hu69, hf⟩ := g_b2 hf
                                refine ok_calli (rest := [.int a1, .ref (G.1 115)]) F K (pX12_got G hu69) mX12_got oc100 lX12_307 rfl hl.1 rfl ⟨⟨rfl, rfl⟩, Nat.le_of_ble_eq_true rfl, Nat.le_of_ble_eq_true rfl⟩ (Nat.le_of_ble_eq_true rfl) dX12_readTask_391 (fun H locs K => ?_)
                                obtain ⟨u71, hu71, hf⟩ := g_bd hf
                                refine ok_iast F K t115 hu71 dX12_readTask_394 (fun H locs K => ?_)
                                refine lv_aload_n hx hb dX12_readTask_395 rfl (lv_at hl 0 rfl) ?_
                                refine lv_iload_n hx hb dX12_readTask_396 rfl (lv_at hl 2 rfl) ?_
                                obtain ⟨u72, hu72, hf⟩ := g_bd hf
                                refine ok_callv (rest := []) F K (pX12_give G hu72) mX12_give oc100 lX12_314 rfl hl.1 rfl ⟨⟨rfl, rfl⟩, Nat.le_of_ble_eq_true rfl, Nat.le_of_ble_eq_true rfl⟩ (Nat.le_of_ble_eq_true rfl) dX12_readTask_397 (fun H locs K => ?_)
                                refine lv_goto (pc := 400) (tgt := 422) hx hb dX12_readTask_400 (by decide) ?_
                                exact pX12_readTask_j422  B  u72 _ _ _ hf K (lv_sub hl [] rfl)
                              · have hf := g_neg hf c67
                                refine lv_tableOut (pc := 1) (tgt := 403) hx hb dX12_readTask_1 (sw_out a0 1 15 (fun k h1 h2 => by have h3 : k = 1 ∨ k = 2 ∨ k = 3 ∨ k = 4 ∨ k = 5 ∨ k = 6 ∨ k = 7 ∨ k = 8 ∨ k = 9 ∨ k = 10 ∨ k = 11 ∨ k = 12 ∨ k = 13 ∨ k = 14 ∨ k = 15 := (by omega); rcases h3 with rfl | rfl | rfl | rfl | rfl | rfl | rfl | rfl | rfl | rfl | rfl | rfl | rfl | rfl | rfl <;> simp only [kI_1, kI_2, kI_3, kI_4, kI_5, kI_6, kI_7, kI_8, kI_9, kI_10, kI_11, kI_12, kI_13, kI_14, kI_15] <;> assumption)) (by decide) ?_
                                refine lv_aload_n hx hb dX12_readTask_403 rfl (lv_at hl 0 rfl) ?_
                                refine lv_dup hx hb dX12_readTask_404 rfl ?_
                                refine ok_int F K fX12_298 dX12_readTask_405 ?_
                                refine lv_iconst (v := 1) hx hb dX12_readTask_408 kI_1 ?_
                                refine lv_isub hx hb dX12_readTask_409 ?_
                                refine ok_putI F K qX12_298 dX12_readTask_410 (fun u73 H locs eu73 K => ?_)
                                have hf := g_lt hf u73 eu73
                                refine lv_aload_n hx hb dX12_readTask_413 rfl (lv_at hl 0 rfl) ?_
                                refine lv_iconst (v := 4) hx hb dX12_readTask_414 kI_4 ?_
                                obtain ⟨r75, u74, hu74, hf⟩ := g_b2 hf
                                refine ok_calli (rest := []) F K (pX12_must G hu74) mX12_must oc100 lX12_334 rfl hl.1 rfl ⟨⟨rfl, rfl⟩, Nat.le_of_ble_eq_true rfl, Nat.le_of_ble_eq_true rfl⟩ (Nat.le_of_ble_eq_true rfl) dX12_readTask_415 (fun H locs K => ?_)
                                refine lv_istore_n (lv' := [(3, .int r75), (0, .ref (G.1 100)), (1, .int a0), (2, .int a1)]) hx hb dX12_readTask_418 rfl hl (by decide) rfl (fun ls hl => ?_)
                                refine lv_goto (pc := 419) (tgt := 422) hx hb dX12_readTask_419 (by decide) ?_
                                exact pX12_readTask_j422  B  u74 _ _ _ hf K (lv_sub hl [] rfl)
abbrev rmX12_formula : Room := { frames := 7, cells := 0, slots := 0, locals := 159 }
set_option maxRecDepth 100000 in
set_option maxHeartbeats 4000000 in
theorem pX12_formula_j65 {p : Program} {l : Launch} {e : Env} {s : State} {m : MethodId} {below : List Frame} {meth : Method} {c : Code} {A : Nat → Prop} {G : Gt} {r : Int32} {u' : St} (B : Bd p s m [.ref (G.1 100)] meth c yX12_formula cX12_formula 1 (some .int)) (u : St) (H : Heap) (locs : List Loc) (ls : Array Slot) (hf : fX12_formula_j65  u = some (r, u')) (K : Ok 100 77 G A s u H locs) (hl : lv_has ls 1 [(0, .ref (G.1 100))]) : W p l e rmX12_formula s m ([.ref (G.1 100)] : List Value).toArray below meth c H locs 0 0 (MQ below (Qg 100 77 G A (some (.int r)) u') ([.ref (G.1 100)] : List Value).toArray s 0 0 A) (F0 m 65 ls []) := by
  have F := B.1
  have hx := F.1
  have hb := F.2.1
  unfold fX12_formula_j65 at hf
  refine lv_aload_n hx hb dX12_formula_65 rfl (lv_at hl 0 rfl) ?_
  refine ok_int F K fX12_252 dX12_formula_66 ?_
  refine lv_if_le (pc := 69) (tgt := 76) hx hb dX12_formula_69 (by decide) (fun c1 => ?_) (fun c1 => ?_)
  · have hf := g_pos hf c1
    refine lv_aload_n hx hb dX12_formula_76 rfl (lv_at hl 0 rfl) ?_
    obtain ⟨r3, u2, hu2, hf⟩ := g_b2 hf
    refine ok_calli (rest := []) F K (pX12_got G hu2) mX12_got oc100 lX12_307 rfl hl.1 rfl ⟨⟨rfl, rfl⟩, Nat.le_of_ble_eq_true rfl, Nat.le_of_ble_eq_true rfl⟩ (Nat.le_of_ble_eq_true rfl) dX12_formula_77 (fun H locs K => ?_)
    exact ok_reti B K hf dX12_formula_80
  · have hf := g_neg hf c1
    refine lv_iconst (v := 0) hx hb dX12_formula_72 kI_0 ?_
    refine lv_goto (pc := 73) (tgt := 80) hx hb dX12_formula_73 (by decide) ?_
    exact ok_reti B K hf dX12_formula_80
set_option maxRecDepth 100000 in
set_option maxHeartbeats 4000000 in
theorem pX12_formula_L0 {p : Program} {l : Launch} {e : Env} {s : State} {m : MethodId} {below : List Frame} {meth : Method} {c : Code} {A : Nat → Prop} {G : Gt} {r : Int32} {u' : St} (B : Bd p s m [.ref (G.1 100)] meth c yX12_formula cX12_formula 1 (some .int)) (n : Nat) : (∀ (u : St) (H : Heap) (locs : List Loc) (ls : Array Slot), fX12_formula_L0  n 0  u = some (r, u') → Ok 100 77 G A s u H locs → lv_has ls 1 [(0, .ref (G.1 100))] → W p l e rmX12_formula s m ([.ref (G.1 100)] : List Value).toArray below meth c H locs 0 0 (MQ below (Qg 100 77 G A (some (.int r)) u') ([.ref (G.1 100)] : List Value).toArray s 0 0 A) (F0 m 16 ls [])) := by
  have F := B.1
  have hx := F.1
  have hb := F.2.1
  induction n with
  | zero => exact fun _ _ _ _ hf => g_no hf
  | succ n ih =>
    refine ?_
    · intro  u H locs ls hf K hl
      have hf : fX12_formula_L0_0  (fX12_formula_L0  n)  u = some (r, u') := hf
      unfold fX12_formula_L0_0 at hf
      refine lv_aload_n hx hb dX12_formula_16 rfl (lv_at hl 0 rfl) ?_
      refine ok_int F K fX12_301 dX12_formula_17 ?_
      refine lv_if_le (pc := 20) (tgt := 65) hx hb dX12_formula_20 (by decide) (fun c4 => ?_) (fun c4 => ?_)
      · have hf := g_pos hf c4
        exact pX12_formula_j65  B  u _ _ _ hf K (lv_sub hl [0] rfl)
      · have hf := g_neg hf c4
        refine lv_aload_n hx hb dX12_formula_23 rfl (lv_at hl 0 rfl) ?_
        refine ok_int F K fX12_252 dX12_formula_24 ?_
        refine lv_if_ne (pc := 27) (tgt := 65) hx hb dX12_formula_27 (by decide) (fun c5 => ?_) (fun c5 => ?_)
        · have hf := g_neg hf c5
          exact pX12_formula_j65  B  u _ _ _ hf K (lv_sub hl [0] rfl)
        · have hf := g_pos hf c5
          refine lv_aload_n hx hb dX12_formula_30 rfl (lv_at hl 0 rfl) ?_
          refine lv_dup hx hb dX12_formula_31 rfl ?_
          refine ok_int F K fX12_301 dX12_formula_32 ?_
          refine lv_iconst (v := 1) hx hb dX12_formula_35 kI_1 ?_
          refine lv_isub hx hb dX12_formula_36 ?_
          refine ok_putI F K qX12_301 dX12_formula_37 (fun u6 H locs eu6 K => ?_)
          have hf := g_lt hf u6 eu6
          refine lv_aload_n hx hb dX12_formula_40 rfl (lv_at hl 0 rfl) ?_
          refine lv_aload_n hx hb dX12_formula_41 rfl (lv_at hl 0 rfl) ?_
          refine ok_ref F K fX12_70 dX12_formula_42 ?_
          refine lv_aload_n hx hb dX12_formula_45 rfl (lv_at hl 0 rfl) ?_
          refine ok_int F K fX12_301 dX12_formula_46 ?_
          obtain ⟨v7, hv7, hf⟩ := g_bd hf
          refine ok_iald F K t120 hv7 dX12_formula_49 ?_
          refine lv_aload_n hx hb dX12_formula_50 rfl (lv_at hl 0 rfl) ?_
          refine ok_ref F K fX12_73 dX12_formula_51 ?_
          refine lv_aload_n hx hb dX12_formula_54 rfl (lv_at hl 0 rfl) ?_
          refine ok_int F K fX12_301 dX12_formula_55 ?_
          obtain ⟨v8, hv8, hf⟩ := g_bd hf
          refine ok_iald F K t121 hv8 dX12_formula_58 ?_
          obtain ⟨u9, hu9, hf⟩ := g_bd hf
          refine ok_callv (rest := []) F K (pX12_readTask G hu9) mX12_readTask oc100 lX12_321 rfl hl.1 rfl ⟨⟨rfl, rfl⟩, Nat.le_of_ble_eq_true rfl, Nat.le_of_ble_eq_true rfl⟩ (Nat.le_of_ble_eq_true rfl) dX12_formula_59 (fun H locs K => ?_)
          refine lv_goto (pc := 62) (tgt := 16) hx hb dX12_formula_62 (by decide) ?_
          exact ih  u9 _ _ _ hf K (lv_sub hl [0] rfl)
set_option maxRecDepth 100000 in
set_option maxHeartbeats 4000000 in
theorem pX12_formula {l : Launch} (G : Gt) {r : Int32} {u u' : St} (hf : fX12_formula u = some (r, u')) : Ctr 100 77 l yX12_formula cX12_formula 1 (some .int) rmX12_formula [.ref (G.1 100)] G u (some (.int r)) u' := by
  refine Ctr.mk (by decide) (Nat.le_of_ble_eq_true rfl) (fun p e s m below meth c A ls B K hl => ?_)
  have F := B.1
  have hx := F.1
  have hb := F.2.1
  have hl : lv_has ls 1 [(0, .ref (G.1 100))] := hl
  unfold fX12_formula at hf
  refine lv_aload_n hx hb dX12_formula_0 rfl (lv_at hl 0 rfl) ?_
  refine lv_iconst (v := 0) hx hb dX12_formula_1 kI_0 ?_
  refine ok_putI F K qX12_301 dX12_formula_2 (fun u10 H locs eu10 K => ?_)
  have hf := g_lt hf u10 eu10
  refine lv_aload_n hx hb dX12_formula_5 rfl (lv_at hl 0 rfl) ?_
  refine lv_iconst (v := 0) hx hb dX12_formula_6 kI_0 ?_
  refine ok_putI F K qX12_304 dX12_formula_7 (fun u11 H locs eu11 K => ?_)
  have hf := g_lt hf u11 eu11
  refine lv_aload_n hx hb dX12_formula_10 rfl (lv_at hl 0 rfl) ?_
  refine lv_iconst (v := 1) hx hb dX12_formula_11 kI_1 ?_
  refine lv_iconst (v := 0) hx hb dX12_formula_12 kI_0 ?_
  obtain ⟨u12, hu12, hf⟩ := g_bd hf
  refine ok_callv (rest := []) F K (pX12_push G hu12) mX12_push oc100 lX12_318 rfl hl.1 rfl ⟨⟨rfl, rfl⟩, Nat.le_of_ble_eq_true rfl, Nat.le_of_ble_eq_true rfl⟩ (Nat.le_of_ble_eq_true rfl) dX12_formula_13 (fun H locs K => ?_)
  exact (pX12_formula_L0  B FU)  u12 _ _ _ hf K (lv_sub hl [0] rfl)
abbrev rmX12_move : Room := { frames := 1, cells := 0, slots := 0, locals := 22 }
set_option maxRecDepth 100000 in
set_option maxHeartbeats 4000000 in
theorem pX12_move {l : Launch} (G : Gt) {a0 : Int32} {a1 : Int32} {r : Int32} {u u' : St} (hf : fX12_move a0 a1 u = some (r, u')) : Ctr 100 77 l yX12_move cX12_move 3 (some .int) rmX12_move [.ref (G.1 100), .int a0, .int a1] G u (some (.int r)) u' := by
  refine Ctr.mk (by decide) (Nat.le_of_ble_eq_true rfl) (fun p e s m below meth c A ls B K hl => ?_)
  have F := B.1
  have hx := F.1
  have hb := F.2.1
  have hl : lv_has ls 3 [(0, .ref (G.1 100)), (1, .int a0), (2, .int a1)] := hl
  unfold fX12_move at hf
  refine lv_aload_n hx hb dX12_move_0 rfl (lv_at hl 0 rfl) ?_
  refine lv_iconst (v := 0) hx hb dX12_move_1 kI_0 ?_
  refine ok_putI F K qX12_241 dX12_move_2 (fun u1 H locs eu1 K => ?_)
  have hf := g_lt hf u1 eu1
  refine lv_iload_n hx hb dX12_move_5 rfl (lv_at hl 1 rfl) ?_
  refine lv_iconst (v := 0) hx hb dX12_move_6 kI_0 ?_
  refine lv_aload_n hx hb dX12_move_7 rfl (lv_at hl 0 rfl) ?_
  refine ok_int F K fX12_490 dX12_move_8 ?_
  refine lv_iconst (v := 1) hx hb dX12_move_11 kI_1 ?_
  refine lv_isub hx hb dX12_move_12 ?_
  obtain ⟨r3, u2, hu2, hf⟩ := g_b2 hf
  refine ok_callsi (rest := []) F K (pX12_in G hu2) mX12_in lX12_245 rfl hl.1 rfl ⟨⟨rfl, rfl⟩, Nat.le_of_ble_eq_true rfl, Nat.le_of_ble_eq_true rfl⟩ (Nat.le_of_ble_eq_true rfl) dX12_move_13 (fun H locs K => ?_)
  refine lv_if_ne (pc := 16) (tgt := 21) hx hb dX12_move_16 (by decide) (fun c4 => ?_) (fun c4 => ?_)
  · have hf := g_neg hf c4
    refine lv_iload_n hx hb dX12_move_21 rfl (lv_at hl 2 rfl) ?_
    by_cases c5 : a1 = 0
    · have hf := g_pos hf c5
      refine lv_tableInE (pc := 22) (K := 0) (off := 30) (tgt := 52) hx hb dX12_move_22 c5 (by decide) (by decide) rfl (by decide) ?_
      refine lv_aload_n hx hb dX12_move_52 rfl (lv_at hl 0 rfl) ?_
      refine ok_ref F K fX12_181 dX12_move_53 ?_
      refine lv_iload_n hx hb dX12_move_56 rfl (lv_at hl 1 rfl) ?_
      obtain ⟨v6, hv6, hf⟩ := g_bd hf
      refine ok_iald F K t157 hv6 dX12_move_57 ?_
      exact ok_reti B K hf dX12_move_58
    · have hf := g_neg hf c5
      by_cases c7 : a1 = 1
      · have hf := g_pos hf c7
        refine lv_tableInE (pc := 22) (K := 1) (off := 37) (tgt := 59) hx hb dX12_move_22 c7 (by decide) (by decide) rfl (by decide) ?_
        refine lv_aload_n hx hb dX12_move_59 rfl (lv_at hl 0 rfl) ?_
        refine ok_ref F K fX12_184 dX12_move_60 ?_
        refine lv_iload_n hx hb dX12_move_63 rfl (lv_at hl 1 rfl) ?_
        obtain ⟨v8, hv8, hf⟩ := g_bd hf
        refine ok_iald F K t158 hv8 dX12_move_64 ?_
        exact ok_reti B K hf dX12_move_65
      · have hf := g_neg hf c7
        by_cases c9 : a1 = 2
        · have hf := g_pos hf c9
          refine lv_tableInE (pc := 22) (K := 2) (off := 44) (tgt := 66) hx hb dX12_move_22 c9 (by decide) (by decide) rfl (by decide) ?_
          refine lv_aload_n hx hb dX12_move_66 rfl (lv_at hl 0 rfl) ?_
          refine ok_ref F K fX12_187 dX12_move_67 ?_
          refine lv_iload_n hx hb dX12_move_70 rfl (lv_at hl 1 rfl) ?_
          obtain ⟨v10, hv10, hf⟩ := g_bd hf
          refine ok_iald F K t159 hv10 dX12_move_71 ?_
          exact ok_reti B K hf dX12_move_72
        · have hf := g_neg hf c9
          by_cases c11 : a1 = 3
          · have hf := g_pos hf c11
            refine lv_tableInE (pc := 22) (K := 3) (off := 51) (tgt := 73) hx hb dX12_move_22 c11 (by decide) (by decide) rfl (by decide) ?_
            refine lv_aload_n hx hb dX12_move_73 rfl (lv_at hl 0 rfl) ?_
            refine ok_ref F K fX12_190 dX12_move_74 ?_
            refine lv_iload_n hx hb dX12_move_77 rfl (lv_at hl 1 rfl) ?_
            obtain ⟨v12, hv12, hf⟩ := g_bd hf
            refine ok_iald F K t160 hv12 dX12_move_78 ?_
            refine lv_if_ge (pc := 79) (tgt := 86) hx hb dX12_move_79 (by decide) (fun c13 => ?_) (fun c13 => ?_)
            · have hf := g_pos hf c13
              refine lv_aload_n hx hb dX12_move_86 rfl (lv_at hl 0 rfl) ?_
              refine ok_ref F K fX12_169 dX12_move_87 ?_
              refine lv_aload_n hx hb dX12_move_90 rfl (lv_at hl 0 rfl) ?_
              refine ok_ref F K fX12_190 dX12_move_91 ?_
              refine lv_iload_n hx hb dX12_move_94 rfl (lv_at hl 1 rfl) ?_
              obtain ⟨v14, hv14, hf⟩ := g_bd hf
              refine ok_iald F K t160 hv14 dX12_move_95 ?_
              obtain ⟨v15, hv15, hf⟩ := g_bd hf
              refine ok_iald F K t153 hv15 dX12_move_96 ?_
              exact ok_reti B K hf dX12_move_97
            · have hf := g_neg hf c13
              refine lv_iconst (v := 0) hx hb dX12_move_82 kI_0 ?_
              refine lv_goto (pc := 83) (tgt := 97) hx hb dX12_move_83 (by decide) ?_
              exact ok_reti B K hf dX12_move_97
          · have hf := g_neg hf c11
            refine lv_tableOut (pc := 22) (tgt := 98) hx hb dX12_move_22 (sw_out a1 0 3 (fun k h1 h2 => by have h3 : k = 0 ∨ k = 1 ∨ k = 2 ∨ k = 3 := (by omega); rcases h3 with rfl | rfl | rfl | rfl <;> simp only [kI_0, kI_1, kI_2, kI_3] <;> assumption)) (by decide) ?_
            refine lv_bipush (v := (-2)) hx hb dX12_move_98 kB_m2 ?_
            exact ok_reti B K hf dX12_move_100
  · have hf := g_pos hf c4
    refine lv_iconst (v := (-1)) hx hb dX12_move_19 kI_m1 ?_
    exact ok_reti B K hf dX12_move_20
abbrev rmX12_octet : Room := { frames := 1, cells := 0, slots := 0, locals := 22 }
set_option maxRecDepth 100000 in
set_option maxHeartbeats 4000000 in
theorem pX12_octet {l : Launch} (G : Gt) {a0 : Int32} {r : Int32} {u u' : St} (hf : fX12_octet a0 u = some (r, u')) : Ctr 100 77 l yX12_octet cX12_octet 2 (some .int) rmX12_octet [.ref (G.1 100), .int a0] G u (some (.int r)) u' := by
  refine Ctr.mk (by decide) (Nat.le_of_ble_eq_true rfl) (fun p e s m below meth c A ls B K hl => ?_)
  have F := B.1
  have hx := F.1
  have hb := F.2.1
  have hl : lv_has ls 2 [(0, .ref (G.1 100)), (1, .int a0)] := hl
  unfold fX12_octet at hf
  refine lv_aload_n hx hb dX12_octet_0 rfl (lv_at hl 0 rfl) ?_
  refine lv_iconst (v := 0) hx hb dX12_octet_1 kI_0 ?_
  refine ok_putI F K qX12_241 dX12_octet_2 (fun u1 H locs eu1 K => ?_)
  have hf := g_lt hf u1 eu1
  refine lv_iload_n hx hb dX12_octet_5 rfl (lv_at hl 1 rfl) ?_
  refine lv_iconst (v := 0) hx hb dX12_octet_6 kI_0 ?_
  refine lv_aload_n hx hb dX12_octet_7 rfl (lv_at hl 0 rfl) ?_
  refine ok_int F K fX12_540 dX12_octet_8 ?_
  refine lv_iconst (v := 1) hx hb dX12_octet_11 kI_1 ?_
  refine lv_isub hx hb dX12_octet_12 ?_
  obtain ⟨r3, u2, hu2, hf⟩ := g_b2 hf
  refine ok_callsi (rest := []) F K (pX12_in G hu2) mX12_in lX12_245 rfl hl.1 rfl ⟨⟨rfl, rfl⟩, Nat.le_of_ble_eq_true rfl, Nat.le_of_ble_eq_true rfl⟩ (Nat.le_of_ble_eq_true rfl) dX12_octet_13 (fun H locs K => ?_)
  refine lv_if_eq (pc := 16) (tgt := 32) hx hb dX12_octet_16 (by decide) (fun c4 => ?_) (fun c4 => ?_)
  · have hf := g_pos hf c4
    refine lv_iconst (v := (-1)) hx hb dX12_octet_32 kI_m1 ?_
    exact ok_reti B K hf dX12_octet_33
  · have hf := g_neg hf c4
    refine lv_aload_n hx hb dX12_octet_19 rfl (lv_at hl 0 rfl) ?_
    refine ok_ref F K fX12_142 dX12_octet_20 ?_
    refine lv_iload_n hx hb dX12_octet_23 rfl (lv_at hl 1 rfl) ?_
    obtain ⟨v5, hv5, hf⟩ := g_bd hf
    refine ok_bald F K t144 hv5 dX12_octet_24 ?_
    refine lv_sipush (v := 255) hx hb dX12_octet_25 kS_255 ?_
    refine lv_iand hx hb dX12_octet_28 ?_
    refine lv_goto (pc := 29) (tgt := 33) hx hb dX12_octet_29 (by decide) ?_
    exact ok_reti B K hf dX12_octet_33
abbrev rmX12_place : Room := { frames := 0, cells := 0, slots := 0, locals := 0 }
set_option maxRecDepth 100000 in
set_option maxHeartbeats 4000000 in
theorem pX12_place {l : Launch} (G : Gt) {r : Int32} {u u' : St} (hf : fX12_place u = some (r, u')) : Ctr 100 77 l yX12_place cX12_place 1 (some .int) rmX12_place [.ref (G.1 100)] G u (some (.int r)) u' := by
  refine Ctr.mk (by decide) (Nat.le_of_ble_eq_true rfl) (fun p e s m below meth c A ls B K hl => ?_)
  have F := B.1
  have hx := F.1
  have hb := F.2.1
  have hl : lv_has ls 1 [(0, .ref (G.1 100))] := hl
  unfold fX12_place at hf
  refine lv_aload_n hx hb dX12_place_0 rfl (lv_at hl 0 rfl) ?_
  refine lv_iconst (v := 0) hx hb dX12_place_1 kI_0 ?_
  refine ok_putI F K qX12_241 dX12_place_2 (fun u1 H locs eu1 K => ?_)
  have hf := g_lt hf u1 eu1
  refine lv_aload_n hx hb dX12_place_5 rfl (lv_at hl 0 rfl) ?_
  refine ok_int F K fX12_252 dX12_place_6 ?_
  refine lv_if_le (pc := 9) (tgt := 19) hx hb dX12_place_9 (by decide) (fun c2 => ?_) (fun c2 => ?_)
  · have hf := g_pos hf c2
    refine lv_iconst (v := (-1)) hx hb dX12_place_19 kI_m1 ?_
    exact ok_reti B K hf dX12_place_20
  · have hf := g_neg hf c2
    refine lv_aload_n hx hb dX12_place_12 rfl (lv_at hl 0 rfl) ?_
    refine ok_int F K fX12_255 dX12_place_13 ?_
    refine lv_goto (pc := 16) (tgt := 20) hx hb dX12_place_16 (by decide) ?_
    exact ok_reti B K hf dX12_place_20
abbrev rmX12_predicate : Room := { frames := 0, cells := 0, slots := 0, locals := 0 }
set_option maxRecDepth 100000 in
set_option maxHeartbeats 4000000 in
theorem pX12_predicate {l : Launch} (G : Gt) {a0 : Int32} {r : Int32} {u u' : St} (hf : fX12_predicate a0 u = some (r, u')) : Ctr 100 77 l yX12_predicate cX12_predicate 2 (some .int) rmX12_predicate [.ref (G.1 100), .int a0] G u (some (.int r)) u' := by
  refine Ctr.mk (by decide) (Nat.le_of_ble_eq_true rfl) (fun p e s m below meth c A ls B K hl => ?_)
  have F := B.1
  have hx := F.1
  have hb := F.2.1
  have hl : lv_has ls 2 [(0, .ref (G.1 100)), (1, .int a0)] := hl
  unfold fX12_predicate at hf
  refine lv_aload_n hx hb dX12_predicate_0 rfl (lv_at hl 0 rfl) ?_
  refine ok_ref F K fX12_43 dX12_predicate_1 ?_
  refine lv_aload_n hx hb dX12_predicate_4 rfl (lv_at hl 0 rfl) ?_
  refine ok_ref F K fX12_40 dX12_predicate_5 ?_
  refine lv_iload_n hx hb dX12_predicate_8 rfl (lv_at hl 1 rfl) ?_
  obtain ⟨v1, hv1, hf⟩ := g_bd hf
  refine ok_iald F K t110 hv1 dX12_predicate_9 ?_
  obtain ⟨v2, hv2, hf⟩ := g_bd hf
  refine ok_iald F K t111 hv2 dX12_predicate_10 ?_
  exact ok_reti B K hf dX12_predicate_11
abbrev rmX12_read : Room := { frames := 8, cells := 0, slots := 0, locals := 179 }
set_option maxRecDepth 100000 in
set_option maxHeartbeats 4000000 in
theorem pX12_read_L0 {p : Program} {l : Launch} {e : Env} {s : State} {m : MethodId} {below : List Frame} {meth : Method} {c : Code} {A : Nat → Prop} {G : Gt} {r : Int32} {u' : St} (B : Bd p s m [.ref (G.1 100)] meth c yX12_read cX12_read 9 (some .int)) (n : Nat) : (∀ (x1_ : Int32) (x2_ : Int32) (x3_ : Int32) (x4_ : Int32) (x5_ : Int32) (u : St) (H : Heap) (locs : List Loc) (ls : Array Slot), fX12_read_L0  n 0 x1_ x2_ x3_ x4_ x5_ 0 0 0 u = some (r, u') → Ok 100 77 G A s u H locs → lv_has ls 9 [(0, .ref (G.1 100)), (1, .int x1_), (2, .int x2_), (3, .int x3_), (4, .int x4_), (5, .int x5_)] → W p l e rmX12_read s m ([.ref (G.1 100)] : List Value).toArray below meth c H locs 0 0 (MQ below (Qg 100 77 G A (some (.int r)) u') ([.ref (G.1 100)] : List Value).toArray s 0 0 A) (F0 m 52 ls [])) ∧ (∀ (x1_ : Int32) (x2_ : Int32) (x3_ : Int32) (x4_ : Int32) (x5_ : Int32) (x6_ : Int32) (x7_ : Int32) (s0_ : Int32) (u : St) (H : Heap) (locs : List Loc) (ls : Array Slot), fX12_read_L0  n 1 x1_ x2_ x3_ x4_ x5_ x6_ x7_ s0_ u = some (r, u') → Ok 100 77 G A s u H locs → lv_has ls 9 [(0, .ref (G.1 100)), (1, .int x1_), (2, .int x2_), (3, .int x3_), (4, .int x4_), (5, .int x5_), (6, .int x6_), (7, .int x7_)] → W p l e rmX12_read s m ([.ref (G.1 100)] : List Value).toArray below meth c H locs 0 0 (MQ below (Qg 100 77 G A (some (.int r)) u') ([.ref (G.1 100)] : List Value).toArray s 0 0 A) (F0 m 112 ls [.int s0_])) := by
  have F := B.1
  have hx := F.1
  have hb := F.2.1
  induction n with
  | zero => exact ⟨fun _ _ _ _ _ _ _ _ _ hf => g_no hf, fun _ _ _ _ _ _ _ _ _ _ _ _ hf => g_no hf⟩
  | succ n ih =>
    refine ⟨?_, ?_⟩
    · intro x1_ x2_ x3_ x4_ x5_ u H locs ls hf K hl
      have hf : fX12_read_L0_0  (fX12_read_L0  n) x1_ x2_ x3_ x4_ x5_ u = some (r, u') := hf
      unfold fX12_read_L0_0 at hf
      refine lv_aload_n hx hb dX12_read_52 rfl (lv_at hl 0 rfl) ?_
      obtain ⟨r2, u1, hu1, hf⟩ := g_b2 hf
      refine ok_calli (rest := []) F K (pX12_look G hu1) mX12_look oc100 lX12_288 rfl hl.1 rfl ⟨⟨rfl, rfl⟩, Nat.le_of_ble_eq_true rfl, Nat.le_of_ble_eq_true rfl⟩ (Nat.le_of_ble_eq_true rfl) dX12_read_53 (fun H locs K => ?_)
      refine lv_if_le (pc := 56) (tgt := 142) hx hb dX12_read_56 (by decide) (fun c3 => ?_) (fun c3 => ?_)
      · have hf := g_pos hf c3
        refine lv_aload_n hx hb dX12_read_142 rfl (lv_at hl 0 rfl) ?_
        refine ok_int F K fX12_252 dX12_read_143 ?_
        refine lv_if_le (pc := 146) (tgt := 184) hx hb dX12_read_146 (by decide) (fun c4 => ?_) (fun c4 => ?_)
        · have hf := g_pos hf c4
          refine lv_aload_n hx hb dX12_read_184 rfl (lv_at hl 0 rfl) ?_
          obtain ⟨u5, hu5, hf⟩ := g_bd hf
          refine ok_callv (rest := []) F K (pX12_forget G hu5) mX12_forget oc100 lX12_481 rfl hl.1 rfl ⟨⟨rfl, rfl⟩, Nat.le_of_ble_eq_true rfl, Nat.le_of_ble_eq_true rfl⟩ (Nat.le_of_ble_eq_true rfl) dX12_read_185 (fun H locs K => ?_)
          refine lv_aload_n hx hb dX12_read_188 rfl (lv_at hl 0 rfl) ?_
          refine ok_int F K fX12_445 dX12_read_189 ?_
          exact ok_reti B K hf dX12_read_192
        · have hf := g_neg hf c4
          refine lv_aload_n hx hb dX12_read_149 rfl (lv_at hl 0 rfl) ?_
          refine lv_iload_n hx hb dX12_read_150 rfl (lv_at hl 1 rfl) ?_
          refine ok_putI F K qX12_344 dX12_read_151 (fun u6 H locs eu6 K => ?_)
          have hf := g_lt hf u6 eu6
          refine lv_aload_n hx hb dX12_read_154 rfl (lv_at hl 0 rfl) ?_
          refine lv_iload_n hx hb dX12_read_155 rfl (lv_at hl 2 rfl) ?_
          refine ok_putI F K qX12_388 dX12_read_156 (fun u7 H locs eu7 K => ?_)
          have hf := g_lt hf u7 eu7
          refine lv_aload_n hx hb dX12_read_159 rfl (lv_at hl 0 rfl) ?_
          refine lv_iload_n hx hb dX12_read_160 rfl (lv_at hl 3 rfl) ?_
          refine ok_putI F K qX12_445 dX12_read_161 (fun u8 H locs eu8 K => ?_)
          have hf := g_lt hf u8 eu8
          refine lv_aload_n hx hb dX12_read_164 rfl (lv_at hl 0 rfl) ?_
          refine lv_iload hx hb dX12_read_165 (lv_at hl 4 rfl) ?_
          refine ok_putI F K qX12_448 dX12_read_167 (fun u9 H locs eu9 K => ?_)
          have hf := g_lt hf u9 eu9
          refine lv_aload_n hx hb dX12_read_170 rfl (lv_at hl 0 rfl) ?_
          refine lv_iload hx hb dX12_read_171 (lv_at hl 5 rfl) ?_
          refine ok_putI F K qX12_451 dX12_read_173 (fun u10 H locs eu10 K => ?_)
          have hf := g_lt hf u10 eu10
          refine lv_bipush (v := (-10)) hx hb dX12_read_176 kB_m10 ?_
          refine lv_aload_n hx hb dX12_read_178 rfl (lv_at hl 0 rfl) ?_
          refine ok_int F K fX12_252 dX12_read_179 ?_
          refine lv_isub hx hb dX12_read_182 ?_
          exact ok_reti B K hf dX12_read_183
      · have hf := g_neg hf c3
        refine lv_aload_n hx hb dX12_read_59 rfl (lv_at hl 0 rfl) ?_
        refine ok_int F K fX12_272 dX12_read_60 ?_
        refine lv_topi (fun x11 ex11 => ?_)
        have hf := g_lt hf x11 ex11
        refine lv_istore (lv' := [(6, .int x11), (0, .ref (G.1 100)), (1, .int x1_), (2, .int x2_), (3, .int x3_), (4, .int x4_), (5, .int x5_)]) hx hb dX12_read_63 hl (by decide) rfl (fun ls hl => ?_)
        refine lv_aload_n hx hb dX12_read_65 rfl (lv_at hl 1 rfl) ?_
        refine lv_iconst (v := 0) hx hb dX12_read_66 kI_0 ?_
        refine ok_putI F K qX12_295 dX12_read_67 (fun u12 H locs eu12 K => ?_)
        have hf := g_lt hf u12 eu12
        refine lv_aload_n hx hb dX12_read_70 rfl (lv_at hl 1 rfl) ?_
        refine lv_iconst (v := 0) hx hb dX12_read_71 kI_0 ?_
        refine ok_putI F K qX12_338 dX12_read_72 (fun u13 H locs eu13 K => ?_)
        have hf := g_lt hf u13 eu13
        refine lv_aload_n hx hb dX12_read_75 rfl (lv_at hl 1 rfl) ?_
        refine lv_iconst (v := 0) hx hb dX12_read_76 kI_0 ?_
        refine ok_putI F K qX12_347 dX12_read_77 (fun u14 H locs eu14 K => ?_)
        have hf := g_lt hf u14 eu14
        refine lv_aload_n hx hb dX12_read_80 rfl (lv_at hl 1 rfl) ?_
        refine lv_iconst (v := 0) hx hb dX12_read_81 kI_0 ?_
        refine ok_putI F K qX12_298 dX12_read_82 (fun u15 H locs eu15 K => ?_)
        have hf := g_lt hf u15 eu15
        refine lv_aload_n hx hb dX12_read_85 rfl (lv_at hl 1 rfl) ?_
        obtain ⟨r17, u16, hu16, hf⟩ := g_b2 hf
        refine ok_calli (rest := []) F K (pX12_formula G hu16) mX12_formula oc100 lX12_475 rfl hl.1 rfl ⟨⟨rfl, rfl⟩, Nat.le_of_ble_eq_true rfl, Nat.le_of_ble_eq_true rfl⟩ (Nat.le_of_ble_eq_true rfl) dX12_read_86 (fun H locs K => ?_)
        refine lv_istore (lv' := [(7, .int r17), (6, .int x11), (0, .ref (G.1 100)), (1, .int x1_), (2, .int x2_), (3, .int x3_), (4, .int x4_), (5, .int x5_)]) hx hb dX12_read_89 hl (by decide) rfl (fun ls hl => ?_)
        refine lv_aload_n hx hb dX12_read_91 rfl (lv_at hl 2 rfl) ?_
        refine ok_int F K fX12_252 dX12_read_92 ?_
        refine lv_if_ne (pc := 95) (tgt := 111) hx hb dX12_read_95 (by decide) (fun c18 => ?_) (fun c18 => ?_)
        · have hf := g_neg hf c18
          refine lv_iconst (v := 0) hx hb dX12_read_111 kI_0 ?_
          exact ih.2 x1_ x2_ x3_ x4_ x5_ x11 r17 0 u16 _ _ _ hf K (lv_sub hl [2, 3, 4, 5, 6, 7, 1, 0] rfl)
        · have hf := g_pos hf c18
          refine lv_aload_n hx hb dX12_read_98 rfl (lv_at hl 2 rfl) ?_
          refine lv_bipush (v := 6) hx hb dX12_read_99 kB_6 ?_
          obtain ⟨r20, u19, hu19, hf⟩ := g_b2 hf
          refine ok_calli (rest := []) F K (pX12_must G hu19) mX12_must oc100 lX12_334 rfl hl.1 rfl ⟨⟨rfl, rfl⟩, Nat.le_of_ble_eq_true rfl, Nat.le_of_ble_eq_true rfl⟩ (Nat.le_of_ble_eq_true rfl) dX12_read_101 (fun H locs K => ?_)
          refine lv_if_eq (pc := 104) (tgt := 111) hx hb dX12_read_104 (by decide) (fun c21 => ?_) (fun c21 => ?_)
          · have hf := g_pos hf c21
            refine lv_iconst (v := 0) hx hb dX12_read_111 kI_0 ?_
            exact ih.2 x1_ x2_ x3_ x4_ x5_ x11 r17 0 u19 _ _ _ hf K (lv_sub hl [2, 3, 4, 5, 6, 7, 1, 0] rfl)
          · have hf := g_neg hf c21
            refine lv_iconst (v := 1) hx hb dX12_read_107 kI_1 ?_
            refine lv_goto (pc := 108) (tgt := 112) hx hb dX12_read_108 (by decide) ?_
            exact ih.2 x1_ x2_ x3_ x4_ x5_ x11 r17 1 u19 _ _ _ hf K (lv_sub hl [2, 3, 4, 5, 6, 7, 1, 0] rfl)
    · intro x1_ x2_ x3_ x4_ x5_ x6_ x7_ s0_ u H locs ls hf K hl
      have hf : fX12_read_L0_1  (fX12_read_L0  n) x1_ x2_ x3_ x4_ x5_ x6_ x7_ s0_ u = some (r, u') := hf
      unfold fX12_read_L0_1 at hf
      refine lv_istore (lv' := [(8, .int s0_), (0, .ref (G.1 100)), (1, .int x1_), (2, .int x2_), (3, .int x3_), (4, .int x4_), (5, .int x5_), (6, .int x6_), (7, .int x7_)]) hx hb dX12_read_112 hl (by decide) rfl (fun ls hl => ?_)
      refine lv_iload hx hb dX12_read_114 (lv_at hl 0 rfl) ?_
      refine lv_if_eq (pc := 116) (tgt := 139) hx hb dX12_read_116 (by decide) (fun c22 => ?_) (fun c22 => ?_)
      · have hf := g_pos hf c22
        refine lv_goto (pc := 139) (tgt := 52) hx hb dX12_read_139 (by decide) ?_
        exact ih.1 x1_ x2_ x3_ x4_ x5_ u _ _ _ hf K (lv_sub hl [1, 2, 3, 4, 5, 6] rfl)
      · have hf := g_neg hf c22
        refine lv_aload_n hx hb dX12_read_119 rfl (lv_at hl 1 rfl) ?_
        refine lv_iload hx hb dX12_read_120 (lv_at hl 8 rfl) ?_
        obtain ⟨u23, hu23, hf⟩ := g_bd hf
        refine ok_callv (rest := []) F K (pX12_become G hu23) mX12_become oc100 lX12_478 rfl hl.1 rfl ⟨⟨rfl, rfl⟩, Nat.le_of_ble_eq_true rfl, Nat.le_of_ble_eq_true rfl⟩ (Nat.le_of_ble_eq_true rfl) dX12_read_122 (fun H locs K => ?_)
        refine lv_aload_n hx hb dX12_read_125 rfl (lv_at hl 1 rfl) ?_
        refine ok_int F K fX12_370 dX12_read_126 ?_
        refine lv_if_eq (pc := 129) (tgt := 139) hx hb dX12_read_129 (by decide) (fun c24 => ?_) (fun c24 => ?_)
        · have hf := g_pos hf c24
          refine lv_goto (pc := 139) (tgt := 52) hx hb dX12_read_139 (by decide) ?_
          exact ih.1 x1_ x2_ x3_ x4_ x5_ u23 _ _ _ hf K (lv_sub hl [1, 2, 3, 4, 5, 6] rfl)
        · have hf := g_neg hf c24
          refine lv_aload_n hx hb dX12_read_132 rfl (lv_at hl 1 rfl) ?_
          refine lv_iconst (v := 5) hx hb dX12_read_133 kI_5 ?_
          refine lv_iload hx hb dX12_read_134 (lv_at hl 7 rfl) ?_
          obtain ⟨u25, hu25, hf⟩ := g_bd hf
          refine ok_callv (rest := []) F K (pX12_fail G hu25) mX12_fail oc100 lX12_284 rfl hl.1 rfl ⟨⟨rfl, rfl⟩, Nat.le_of_ble_eq_true rfl, Nat.le_of_ble_eq_true rfl⟩ (Nat.le_of_ble_eq_true rfl) dX12_read_136 (fun H locs K => ?_)
          refine lv_goto (pc := 139) (tgt := 52) hx hb dX12_read_139 (by decide) ?_
          exact ih.1 x1_ x2_ x3_ x4_ x5_ u25 _ _ _ hf K (lv_sub hl [1, 2, 3, 4, 5, 6] rfl)
set_option maxRecDepth 100000 in
set_option maxHeartbeats 4000000 in
theorem pX12_read {l : Launch} (G : Gt) {r : Int32} {u u' : St} (hf : fX12_read u = some (r, u')) : Ctr 100 77 l yX12_read cX12_read 9 (some .int) rmX12_read [.ref (G.1 100)] G u (some (.int r)) u' := by
  refine Ctr.mk (by decide) (Nat.le_of_ble_eq_true rfl) (fun p e s m below meth c A ls B K hl => ?_)
  have F := B.1
  have hx := F.1
  have hb := F.2.1
  have hl : lv_has ls 9 [(0, .ref (G.1 100))] := hl
  unfold fX12_read at hf
  refine lv_aload_n hx hb dX12_read_0 rfl (lv_at hl 0 rfl) ?_
  refine lv_iconst (v := 0) hx hb dX12_read_1 kI_0 ?_
  refine ok_putI F K qX12_241 dX12_read_2 (fun u26 H locs eu26 K => ?_)
  have hf := g_lt hf u26 eu26
  refine lv_aload_n hx hb dX12_read_5 rfl (lv_at hl 0 rfl) ?_
  refine ok_int F K fX12_344 dX12_read_6 ?_
  refine lv_topi (fun x27 ex27 => ?_)
  have hf := g_lt hf x27 ex27
  refine lv_istore_n (lv' := [(1, .int x27), (0, .ref (G.1 100))]) hx hb dX12_read_9 rfl hl (by decide) rfl (fun ls hl => ?_)
  refine lv_aload_n hx hb dX12_read_10 rfl (lv_at hl 1 rfl) ?_
  refine ok_int F K fX12_388 dX12_read_11 ?_
  refine lv_topi (fun x28 ex28 => ?_)
  have hf := g_lt hf x28 ex28
  refine lv_istore_n (lv' := [(2, .int x28), (1, .int x27), (0, .ref (G.1 100))]) hx hb dX12_read_14 rfl hl (by decide) rfl (fun ls hl => ?_)
  refine lv_aload_n hx hb dX12_read_15 rfl (lv_at hl 2 rfl) ?_
  refine ok_int F K fX12_445 dX12_read_16 ?_
  refine lv_topi (fun x29 ex29 => ?_)
  have hf := g_lt hf x29 ex29
  refine lv_istore_n (lv' := [(3, .int x29), (2, .int x28), (1, .int x27), (0, .ref (G.1 100))]) hx hb dX12_read_19 rfl hl (by decide) rfl (fun ls hl => ?_)
  refine lv_aload_n hx hb dX12_read_20 rfl (lv_at hl 3 rfl) ?_
  refine ok_int F K fX12_448 dX12_read_21 ?_
  refine lv_topi (fun x30 ex30 => ?_)
  have hf := g_lt hf x30 ex30
  refine lv_istore (lv' := [(4, .int x30), (3, .int x29), (2, .int x28), (1, .int x27), (0, .ref (G.1 100))]) hx hb dX12_read_24 hl (by decide) rfl (fun ls hl => ?_)
  refine lv_aload_n hx hb dX12_read_26 rfl (lv_at hl 4 rfl) ?_
  refine ok_int F K fX12_451 dX12_read_27 ?_
  refine lv_topi (fun x31 ex31 => ?_)
  have hf := g_lt hf x31 ex31
  refine lv_istore (lv' := [(5, .int x31), (4, .int x30), (3, .int x29), (2, .int x28), (1, .int x27), (0, .ref (G.1 100))]) hx hb dX12_read_30 hl (by decide) rfl (fun ls hl => ?_)
  refine lv_aload_n hx hb dX12_read_32 rfl (lv_at hl 5 rfl) ?_
  refine lv_iconst (v := 0) hx hb dX12_read_33 kI_0 ?_
  refine ok_putI F K qX12_252 dX12_read_34 (fun u32 H locs eu32 K => ?_)
  have hf := g_lt hf u32 eu32
  refine lv_aload_n hx hb dX12_read_37 rfl (lv_at hl 5 rfl) ?_
  refine lv_iconst (v := (-1)) hx hb dX12_read_38 kI_m1 ?_
  refine ok_putI F K qX12_255 dX12_read_39 (fun u33 H locs eu33 K => ?_)
  have hf := g_lt hf u33 eu33
  refine lv_aload_n hx hb dX12_read_42 rfl (lv_at hl 5 rfl) ?_
  refine lv_iconst (v := 0) hx hb dX12_read_43 kI_0 ?_
  refine ok_putI F K qX12_265 dX12_read_44 (fun u34 H locs eu34 K => ?_)
  have hf := g_lt hf u34 eu34
  refine lv_aload_n hx hb dX12_read_47 rfl (lv_at hl 5 rfl) ?_
  refine lv_iconst (v := 0) hx hb dX12_read_48 kI_0 ?_
  refine ok_putZ F K qX12_258 (Or.inl rfl) dX12_read_49 (fun u35 H locs eu35 K => ?_)
  have hf := g_lt hf u35 eu35
  exact (pX12_read_L0  B FU).1 x27 x28 x29 x30 x31 u35 _ _ _ hf K (lv_sub hl [5, 4, 3, 2, 1, 0] rfl)
abbrev rmX12_repeats : Room := { frames := 2, cells := 0, slots := 0, locals := 59 }
set_option maxRecDepth 100000 in
set_option maxHeartbeats 4000000 in
theorem pX12_repeats_L0 {p : Program} {l : Launch} {e : Env} {s : State} {m : MethodId} {below : List Frame} {meth : Method} {c : Code} {A : Nat → Prop} {G : Gt} {a0 : Int32} {r : Int32} {u' : St} (B : Bd p s m [.ref (G.1 100), .int a0] meth c yX12_repeats cX12_repeats 5 (some .boolean)) (n : Nat) : (∀ (x1_ : Int32) (x2_ : Int32) (x3_ : Int32) (u : St) (H : Heap) (locs : List Loc) (ls : Array Slot), fX12_repeats_L0  n 0 x1_ x2_ x3_ u = some (r, u') → Ok 100 77 G A s u H locs → lv_has ls 5 [(0, .ref (G.1 100)), (1, .int x1_), (2, .int x2_), (3, .int x3_)] → W p l e rmX12_repeats s m ([.ref (G.1 100), .int a0] : List Value).toArray below meth c H locs 0 0 (MQ below (Qg 100 77 G A (some (.int r)) u') ([.ref (G.1 100), .int a0] : List Value).toArray s 0 0 A) (F0 m 19 ls [])) ∧ (∀ (x1_ : Int32) (x2_ : Int32) (x3_ : Int32) (u : St) (H : Heap) (locs : List Loc) (ls : Array Slot), fX12_repeats_L0  n 1 x1_ x2_ x3_ u = some (r, u') → Ok 100 77 G A s u H locs → lv_has ls 5 [(0, .ref (G.1 100)), (1, .int x1_), (2, .int x2_), (3, .int x3_)] → W p l e rmX12_repeats s m ([.ref (G.1 100), .int a0] : List Value).toArray below meth c H locs 0 0 (MQ below (Qg 100 77 G A (some (.int r)) u') ([.ref (G.1 100), .int a0] : List Value).toArray s 0 0 A) (F0 m 102 ls [])) := by
  have F := B.1
  have hx := F.1
  have hb := F.2.1
  induction n with
  | zero => exact ⟨fun _ _ _ _ _ _ _ hf => g_no hf, fun _ _ _ _ _ _ _ hf => g_no hf⟩
  | succ n ih =>
    refine ⟨?_, ?_⟩
    · intro x1_ x2_ x3_ u H locs ls hf K hl
      have hf : fX12_repeats_L0_0  (fX12_repeats_L0  n) x1_ x2_ x3_ u = some (r, u') := hf
      unfold fX12_repeats_L0_0 at hf
      refine lv_iload_n hx hb dX12_repeats_19 rfl (lv_at hl 3 rfl) ?_
      refine lv_if_lt (pc := 20) (tgt := 112) hx hb dX12_repeats_20 (by decide) (fun c1 => ?_) (fun c1 => ?_)
      · have hf := g_pos hf c1
        refine lv_aload_n hx hb dX12_repeats_112 rfl (lv_at hl 0 rfl) ?_
        refine ok_int F K fX12_552 dX12_repeats_113 ?_
        obtain ⟨z2, hz2, hf⟩ := g_bd hf
        exact ok_retz B K hf (g_zb hz2).2 dX12_repeats_116
      · have hf := g_neg hf c1
        refine lv_aload_n hx hb dX12_repeats_23 rfl (lv_at hl 0 rfl) ?_
        refine ok_int F K fX12_552 dX12_repeats_24 ?_
        refine lv_if_ne (pc := 27) (tgt := 112) hx hb dX12_repeats_27 (by decide) (fun c3 => ?_) (fun c3 => ?_)
        · have hf := g_neg hf c3
          refine lv_aload_n hx hb dX12_repeats_112 rfl (lv_at hl 0 rfl) ?_
          refine ok_int F K fX12_552 dX12_repeats_113 ?_
          obtain ⟨z4, hz4, hf⟩ := g_bd hf
          exact ok_retz B K hf (g_zb hz4).2 dX12_repeats_116
        · have hf := g_pos hf c3
          refine lv_aload_n hx hb dX12_repeats_30 rfl (lv_at hl 0 rfl) ?_
          refine ok_ref F K fX12_160 dX12_repeats_31 ?_
          refine lv_iload_n hx hb dX12_repeats_34 rfl (lv_at hl 3 rfl) ?_
          obtain ⟨v5, hv5, hf⟩ := g_bd hf
          refine ok_iald F K t150 hv5 dX12_repeats_35 ?_
          refine lv_istore (lv' := [(4, .int v5), (0, .ref (G.1 100)), (1, .int x1_), (2, .int x2_), (3, .int x3_)]) hx hb dX12_repeats_36 hl (by decide) rfl (fun ls hl => ?_)
          refine lv_aload_n hx hb dX12_repeats_38 rfl (lv_at hl 1 rfl) ?_
          refine ok_ref F K fX12_37 dX12_repeats_39 ?_
          refine lv_iload hx hb dX12_repeats_42 (lv_at hl 0 rfl) ?_
          obtain ⟨v6, hv6, hf⟩ := g_bd hf
          refine ok_zald F K t109 hv6 dX12_repeats_44 ?_
          refine lv_aload_n hx hb dX12_repeats_45 rfl (lv_at hl 1 rfl) ?_
          refine ok_ref F K fX12_37 dX12_repeats_46 ?_
          refine lv_iload_n hx hb dX12_repeats_49 rfl (lv_at hl 3 rfl) ?_
          obtain ⟨v7, hv7, hf⟩ := g_bd hf
          refine ok_zald F K t109 hv7 dX12_repeats_50 ?_
          refine lv_icmp_ne (pc := 51) (tgt := 102) hx hb dX12_repeats_51 (by decide) (fun c8 => ?_) (fun c8 => ?_)
          · have hf := g_neg hf c8
            exact ih.2 x1_ x2_ x3_ u _ _ _ hf K (lv_sub hl [1, 2, 3, 4] rfl)
          · have hf := g_pos hf c8
            refine lv_aload_n hx hb dX12_repeats_54 rfl (lv_at hl 1 rfl) ?_
            refine lv_iload hx hb dX12_repeats_55 (lv_at hl 0 rfl) ?_
            obtain ⟨r10, u9, hu9, hf⟩ := g_b2 hf
            refine ok_calli (rest := []) F K (pX12_predicate G hu9) mX12_predicate oc100 lX12_577 rfl hl.1 rfl ⟨⟨rfl, rfl⟩, Nat.le_of_ble_eq_true rfl, Nat.le_of_ble_eq_true rfl⟩ (Nat.le_of_ble_eq_true rfl) dX12_repeats_57 (fun H locs K => ?_)
            refine lv_aload_n hx hb dX12_repeats_60 rfl (lv_at hl 1 rfl) ?_
            refine lv_iload_n hx hb dX12_repeats_61 rfl (lv_at hl 3 rfl) ?_
            obtain ⟨r12, u11, hu11, hf⟩ := g_b2 hf
            refine ok_calli (rest := [.int r10]) F K (pX12_predicate G hu11) mX12_predicate oc100 lX12_577 rfl hl.1 rfl ⟨⟨rfl, rfl⟩, Nat.le_of_ble_eq_true rfl, Nat.le_of_ble_eq_true rfl⟩ (Nat.le_of_ble_eq_true rfl) dX12_repeats_62 (fun H locs K => ?_)
            refine lv_icmp_ne (pc := 65) (tgt := 102) hx hb dX12_repeats_65 (by decide) (fun c13 => ?_) (fun c13 => ?_)
            · have hf := g_neg hf c13
              exact ih.2 x1_ x2_ x3_ u11 _ _ _ hf K (lv_sub hl [1, 2, 3, 4] rfl)
            · have hf := g_pos hf c13
              refine lv_aload_n hx hb dX12_repeats_68 rfl (lv_at hl 1 rfl) ?_
              refine lv_aload_n hx hb dX12_repeats_69 rfl (lv_at hl 1 rfl) ?_
              refine ok_ref F K fX12_40 dX12_repeats_70 ?_
              refine lv_iload_n hx hb dX12_repeats_73 rfl (lv_at hl 3 rfl) ?_
              obtain ⟨v14, hv14, hf⟩ := g_bd hf
              refine ok_iald F K t110 hv14 dX12_repeats_74 ?_
              refine lv_aload_n hx hb dX12_repeats_75 rfl (lv_at hl 1 rfl) ?_
              refine ok_ref F K fX12_163 dX12_repeats_76 ?_
              refine lv_iload_n hx hb dX12_repeats_79 rfl (lv_at hl 2 rfl) ?_
              obtain ⟨v15, hv15, hf⟩ := g_bd hf
              refine ok_iald F K t151 hv15 dX12_repeats_80 ?_
              refine lv_aload_n hx hb dX12_repeats_81 rfl (lv_at hl 1 rfl) ?_
              refine ok_ref F K fX12_40 dX12_repeats_82 ?_
              refine lv_iload hx hb dX12_repeats_85 (lv_at hl 0 rfl) ?_
              obtain ⟨v16, hv16, hf⟩ := g_bd hf
              refine ok_iald F K t110 hv16 dX12_repeats_87 ?_
              refine lv_aload_n hx hb dX12_repeats_88 rfl (lv_at hl 1 rfl) ?_
              refine ok_ref F K fX12_163 dX12_repeats_89 ?_
              refine lv_iload_n hx hb dX12_repeats_92 rfl (lv_at hl 4 rfl) ?_
              obtain ⟨v17, hv17, hf⟩ := g_bd hf
              refine ok_iald F K t151 hv17 dX12_repeats_93 ?_
              obtain ⟨r19, u18, hu18, hf⟩ := g_b2 hf
              refine ok_calli (rest := []) F K (pX12_alike G hu18) mX12_alike oc100 lX12_580 rfl hl.1 rfl ⟨⟨rfl, rfl⟩, Nat.le_of_ble_eq_true rfl, Nat.le_of_ble_eq_true rfl⟩ (Nat.le_of_ble_eq_true rfl) dX12_repeats_94 (fun H locs K => ?_)
              refine lv_if_eq (pc := 97) (tgt := 102) hx hb dX12_repeats_97 (by decide) (fun c20 => ?_) (fun c20 => ?_)
              · have hf := g_pos hf c20
                exact ih.2 x1_ x2_ x3_ u18 _ _ _ hf K (lv_sub hl [1, 2, 3, 4] rfl)
              · have hf := g_neg hf c20
                refine lv_iconst (v := 1) hx hb dX12_repeats_100 kI_1 ?_
                exact ok_retz B K hf (Or.inr rfl) dX12_repeats_101
    · intro x1_ x2_ x3_ u H locs ls hf K hl
      have hf : fX12_repeats_L0_1  (fX12_repeats_L0  n) x1_ x2_ x3_ u = some (r, u') := hf
      unfold fX12_repeats_L0_1 at hf
      refine lv_aload_n hx hb dX12_repeats_102 rfl (lv_at hl 0 rfl) ?_
      refine ok_ref F K fX12_166 dX12_repeats_103 ?_
      refine lv_iload_n hx hb dX12_repeats_106 rfl (lv_at hl 3 rfl) ?_
      obtain ⟨v21, hv21, hf⟩ := g_bd hf
      refine ok_iald F K t152 hv21 dX12_repeats_107 ?_
      refine lv_istore_n (lv' := [(3, .int v21), (0, .ref (G.1 100)), (1, .int x1_), (2, .int x2_)]) hx hb dX12_repeats_108 rfl hl (by decide) rfl (fun ls hl => ?_)
      refine lv_goto (pc := 109) (tgt := 19) hx hb dX12_repeats_109 (by decide) ?_
      exact ih.1 x1_ x2_ v21 u _ _ _ hf K (lv_sub hl [1, 2, 3, 0] rfl)
set_option maxRecDepth 100000 in
set_option maxHeartbeats 4000000 in
theorem pX12_repeats {l : Launch} (G : Gt) {a0 : Int32} {r : Int32} {u u' : St} (hf : fX12_repeats a0 u = some (r, u')) : Ctr 100 77 l yX12_repeats cX12_repeats 5 (some .boolean) rmX12_repeats [.ref (G.1 100), .int a0] G u (some (.int r)) u' := by
  refine Ctr.mk (by decide) (Nat.le_of_ble_eq_true rfl) (fun p e s m below meth c A ls B K hl => ?_)
  have F := B.1
  have hx := F.1
  have hb := F.2.1
  have hl : lv_has ls 5 [(0, .ref (G.1 100)), (1, .int a0)] := hl
  unfold fX12_repeats at hf
  refine lv_aload_n hx hb dX12_repeats_0 rfl (lv_at hl 0 rfl) ?_
  refine lv_iconst (v := 0) hx hb dX12_repeats_1 kI_0 ?_
  refine ok_putI F K qX12_549 dX12_repeats_2 (fun u22 H locs eu22 K => ?_)
  have hf := g_lt hf u22 eu22
  refine lv_aload_n hx hb dX12_repeats_5 rfl (lv_at hl 0 rfl) ?_
  refine ok_ref F K fX12_160 dX12_repeats_6 ?_
  refine lv_iload_n hx hb dX12_repeats_9 rfl (lv_at hl 1 rfl) ?_
  obtain ⟨v23, hv23, hf⟩ := g_bd hf
  refine ok_iald F K t150 hv23 dX12_repeats_10 ?_
  refine lv_istore_n (lv' := [(2, .int v23), (0, .ref (G.1 100)), (1, .int a0)]) hx hb dX12_repeats_11 rfl hl (by decide) rfl (fun ls hl => ?_)
  refine lv_aload_n hx hb dX12_repeats_12 rfl (lv_at hl 1 rfl) ?_
  refine ok_ref F K fX12_166 dX12_repeats_13 ?_
  refine lv_iload_n hx hb dX12_repeats_16 rfl (lv_at hl 2 rfl) ?_
  obtain ⟨v24, hv24, hf⟩ := g_bd hf
  refine ok_iald F K t152 hv24 dX12_repeats_17 ?_
  refine lv_istore_n (lv' := [(3, .int v24), (2, .int v23), (0, .ref (G.1 100)), (1, .int a0)]) hx hb dX12_repeats_18 rfl hl (by decide) rfl (fun ls hl => ?_)
  exact (pX12_repeats_L0  B FU).1 a0 v23 v24 u22 _ _ _ hf K (lv_sub hl [2, 3, 1, 0] rfl)
abbrev rmX12_takeBack : Room := { frames := 0, cells := 0, slots := 0, locals := 0 }
set_option maxRecDepth 100000 in
set_option maxHeartbeats 4000000 in
theorem pX12_takeBack_L0 {p : Program} {l : Launch} {e : Env} {s : State} {m : MethodId} {below : List Frame} {meth : Method} {c : Code} {A : Nat → Prop} {G : Gt} {a0 : Int32} {u' : St} (B : Bd p s m [.ref (G.1 100), .int a0] meth c yX12_takeBack cX12_takeBack 2 none) (n : Nat) : (∀ (x1_ : Int32) (u : St) (H : Heap) (locs : List Loc) (ls : Array Slot), fX12_takeBack_L0  n 0 x1_ u = some u' → Ok 100 77 G A s u H locs → lv_has ls 2 [(0, .ref (G.1 100)), (1, .int x1_)] → W p l e rmX12_takeBack s m ([.ref (G.1 100), .int a0] : List Value).toArray below meth c H locs 0 0 (MQ below (Qg 100 77 G A none u') ([.ref (G.1 100), .int a0] : List Value).toArray s 0 0 A) (F0 m 0 ls [])) := by
  have F := B.1
  have hx := F.1
  have hb := F.2.1
  induction n with
  | zero => exact fun _ _ _ _ _ hf => g_no hf
  | succ n ih =>
    refine ?_
    · intro x1_ u H locs ls hf K hl
      have hf : fX12_takeBack_L0_0  (fX12_takeBack_L0  n) x1_ u = some u' := hf
      unfold fX12_takeBack_L0_0 at hf
      refine lv_aload_n hx hb dX12_takeBack_0 rfl (lv_at hl 0 rfl) ?_
      refine ok_int F K fX12_567 dX12_takeBack_1 ?_
      refine lv_iload_n hx hb dX12_takeBack_4 rfl (lv_at hl 1 rfl) ?_
      refine lv_icmp_le (pc := 5) (tgt := 36) hx hb dX12_takeBack_5 (by decide) (fun c1 => ?_) (fun c1 => ?_)
      · have hf := g_pos hf c1
        exact ok_retv B K hf dX12_takeBack_36
      · have hf := g_neg hf c1
        refine lv_aload_n hx hb dX12_takeBack_8 rfl (lv_at hl 0 rfl) ?_
        refine lv_dup hx hb dX12_takeBack_9 rfl ?_
        refine ok_int F K fX12_567 dX12_takeBack_10 ?_
        refine lv_iconst (v := 1) hx hb dX12_takeBack_13 kI_1 ?_
        refine lv_isub hx hb dX12_takeBack_14 ?_
        refine ok_putI F K qX12_567 dX12_takeBack_15 (fun u2 H locs eu2 K => ?_)
        have hf := g_lt hf u2 eu2
        refine lv_aload_n hx hb dX12_takeBack_18 rfl (lv_at hl 0 rfl) ?_
        refine ok_ref F K fX12_172 dX12_takeBack_19 ?_
        refine lv_aload_n hx hb dX12_takeBack_22 rfl (lv_at hl 0 rfl) ?_
        refine ok_ref F K fX12_178 dX12_takeBack_23 ?_
        refine lv_aload_n hx hb dX12_takeBack_26 rfl (lv_at hl 0 rfl) ?_
        refine ok_int F K fX12_567 dX12_takeBack_27 ?_
        obtain ⟨v3, hv3, hf⟩ := g_bd hf
        refine ok_iald F K t156 hv3 dX12_takeBack_30 ?_
        refine lv_iconst (v := (-1)) hx hb dX12_takeBack_31 kI_m1 ?_
        obtain ⟨u4, hu4, hf⟩ := g_bd hf
        refine ok_iast F K t154 hu4 dX12_takeBack_32 (fun H locs K => ?_)
        refine lv_goto (pc := 33) (tgt := 0) hx hb dX12_takeBack_33 (by decide) ?_
        exact ih x1_ u4 _ _ _ hf K (lv_sub hl [0, 1] rfl)
set_option maxRecDepth 100000 in
set_option maxHeartbeats 4000000 in
theorem pX12_takeBack {l : Launch} (G : Gt) {a0 : Int32} {u u' : St} (hf : fX12_takeBack a0 u = some u') : Ctr 100 77 l yX12_takeBack cX12_takeBack 2 none rmX12_takeBack [.ref (G.1 100), .int a0] G u none u' := by
  refine Ctr.mk (by decide) (Nat.le_of_ble_eq_true rfl) (fun p e s m below meth c A ls B K hl => ?_)
  have F := B.1
  have hx := F.1
  have hb := F.2.1
  have hl : lv_has ls 2 [(0, .ref (G.1 100)), (1, .int a0)] := hl
  unfold fX12_takeBack at hf
  exact (pX12_takeBack_L0  B FU) a0 u _ _ _ hf K (lv_sub hl [0, 1] rfl)
abbrev rmX12_restore : Room := { frames := 1, cells := 0, slots := 0, locals := 21 }
set_option maxRecDepth 100000 in
set_option maxHeartbeats 4000000 in
theorem pX12_restore {l : Launch} (G : Gt) {a0 : Int32} {u u' : St} (hf : fX12_restore a0 u = some u') : Ctr 100 77 l yX12_restore cX12_restore 2 none rmX12_restore [.ref (G.1 100), .int a0] G u none u' := by
  refine Ctr.mk (by decide) (Nat.le_of_ble_eq_true rfl) (fun p e s m below meth c A ls B K hl => ?_)
  have F := B.1
  have hx := F.1
  have hb := F.2.1
  have hl : lv_has ls 2 [(0, .ref (G.1 100)), (1, .int a0)] := hl
  unfold fX12_restore at hf
  refine lv_aload_n hx hb dX12_restore_0 rfl (lv_at hl 0 rfl) ?_
  refine lv_aload_n hx hb dX12_restore_1 rfl (lv_at hl 0 rfl) ?_
  refine ok_ref F K fX12_226 dX12_restore_2 ?_
  refine lv_iload_n hx hb dX12_restore_5 rfl (lv_at hl 1 rfl) ?_
  obtain ⟨v1, hv1, hf⟩ := g_bd hf
  refine ok_iald F K t172 hv1 dX12_restore_6 ?_
  obtain ⟨u2, hu2, hf⟩ := g_bd hf
  refine ok_callv (rest := []) F K (pX12_takeBack G hu2) mX12_takeBack oc100 lX12_602 rfl hl.1 rfl ⟨⟨rfl, rfl⟩, Nat.le_of_ble_eq_true rfl, Nat.le_of_ble_eq_true rfl⟩ (Nat.le_of_ble_eq_true rfl) dX12_restore_7 (fun H locs K => ?_)
  refine lv_aload_n hx hb dX12_restore_10 rfl (lv_at hl 0 rfl) ?_
  refine lv_aload_n hx hb dX12_restore_11 rfl (lv_at hl 0 rfl) ?_
  refine ok_ref F K fX12_229 dX12_restore_12 ?_
  refine lv_iload_n hx hb dX12_restore_15 rfl (lv_at hl 1 rfl) ?_
  obtain ⟨v3, hv3, hf⟩ := g_bd hf
  refine ok_iald F K t173 hv3 dX12_restore_16 ?_
  refine ok_putI F K qX12_590 dX12_restore_17 (fun u4 H locs eu4 K => ?_)
  have hf := g_lt hf u4 eu4
  refine lv_aload_n hx hb dX12_restore_20 rfl (lv_at hl 0 rfl) ?_
  refine lv_aload_n hx hb dX12_restore_21 rfl (lv_at hl 0 rfl) ?_
  refine ok_ref F K fX12_232 dX12_restore_22 ?_
  refine lv_iload_n hx hb dX12_restore_25 rfl (lv_at hl 1 rfl) ?_
  obtain ⟨v5, hv5, hf⟩ := g_bd hf
  refine ok_iald F K t174 hv5 dX12_restore_26 ?_
  refine ok_putI F K qX12_593 dX12_restore_27 (fun u6 H locs eu6 K => ?_)
  have hf := g_lt hf u6 eu6
  refine lv_aload_n hx hb dX12_restore_30 rfl (lv_at hl 0 rfl) ?_
  refine lv_aload_n hx hb dX12_restore_31 rfl (lv_at hl 0 rfl) ?_
  refine ok_ref F K fX12_235 dX12_restore_32 ?_
  refine lv_iload_n hx hb dX12_restore_35 rfl (lv_at hl 1 rfl) ?_
  obtain ⟨v7, hv7, hf⟩ := g_bd hf
  refine ok_iald F K t175 hv7 dX12_restore_36 ?_
  refine ok_putI F K qX12_596 dX12_restore_37 (fun u8 H locs eu8 K => ?_)
  have hf := g_lt hf u8 eu8
  refine lv_aload_n hx hb dX12_restore_40 rfl (lv_at hl 0 rfl) ?_
  refine lv_aload_n hx hb dX12_restore_41 rfl (lv_at hl 0 rfl) ?_
  refine ok_ref F K fX12_238 dX12_restore_42 ?_
  refine lv_iload_n hx hb dX12_restore_45 rfl (lv_at hl 1 rfl) ?_
  obtain ⟨v9, hv9, hf⟩ := g_bd hf
  refine ok_iald F K t176 hv9 dX12_restore_46 ?_
  refine ok_putI F K qX12_490 dX12_restore_47 (fun u10 H locs eu10 K => ?_)
  have hf := g_lt hf u10 eu10
  exact ok_retv B K hf dX12_restore_50
abbrev rmX12_written : Room := { frames := 0, cells := 0, slots := 0, locals := 0 }
set_option maxRecDepth 100000 in
set_option maxHeartbeats 4000000 in
theorem pX12_written_L0 {p : Program} {l : Launch} {e : Env} {s : State} {m : MethodId} {below : List Frame} {meth : Method} {c : Code} {A : Nat → Prop} {G : Gt} {r : Int32} {u' : St} (B : Bd p s m [.ref (G.1 100)] meth c yX12_written cX12_written 2 (some .int)) (n : Nat) : (∀ (x1_ : Int32) (u : St) (H : Heap) (locs : List Loc) (ls : Array Slot), fX12_written_L0  n 0 x1_ u = some (r, u') → Ok 100 77 G A s u H locs → lv_has ls 2 [(0, .ref (G.1 100)), (1, .int x1_)] → W p l e rmX12_written s m ([.ref (G.1 100)] : List Value).toArray below meth c H locs 0 0 (MQ below (Qg 100 77 G A (some (.int r)) u') ([.ref (G.1 100)] : List Value).toArray s 0 0 A) (F0 m 2 ls [])) := by
  have F := B.1
  have hx := F.1
  have hb := F.2.1
  induction n with
  | zero => exact fun _ _ _ _ _ hf => g_no hf
  | succ n ih =>
    refine ?_
    · intro x1_ u H locs ls hf K hl
      have hf : fX12_written_L0_0  (fX12_written_L0  n) x1_ u = some (r, u') := hf
      unfold fX12_written_L0_0 at hf
      refine lv_iload_n hx hb dX12_written_2 rfl (lv_at hl 1 rfl) ?_
      refine lv_aload_n hx hb dX12_written_3 rfl (lv_at hl 0 rfl) ?_
      refine ok_int F K fX12_496 dX12_written_4 ?_
      refine lv_icmp_ge (pc := 7) (tgt := 28) hx hb dX12_written_7 (by decide) (fun c1 => ?_) (fun c1 => ?_)
      · have hf := g_pos hf c1
        refine lv_aload_n hx hb dX12_written_28 rfl (lv_at hl 0 rfl) ?_
        refine lv_aload_n hx hb dX12_written_29 rfl (lv_at hl 0 rfl) ?_
        refine ok_int F K fX12_496 dX12_written_30 ?_
        refine ok_putI F K qX12_540 dX12_written_33 (fun u2 H locs eu2 K => ?_)
        have hf := g_lt hf u2 eu2
        refine lv_aload_n hx hb dX12_written_36 rfl (lv_at hl 0 rfl) ?_
        refine ok_int F K fX12_540 dX12_written_37 ?_
        exact ok_reti B K hf dX12_written_40
      · have hf := g_neg hf c1
        refine lv_aload_n hx hb dX12_written_10 rfl (lv_at hl 0 rfl) ?_
        refine ok_ref F K fX12_142 dX12_written_11 ?_
        refine lv_iload_n hx hb dX12_written_14 rfl (lv_at hl 1 rfl) ?_
        refine lv_aload_n hx hb dX12_written_15 rfl (lv_at hl 0 rfl) ?_
        refine ok_ref F K fX12_145 dX12_written_16 ?_
        refine lv_iload_n hx hb dX12_written_19 rfl (lv_at hl 1 rfl) ?_
        obtain ⟨v3, hv3, hf⟩ := g_bd hf
        refine ok_bald F K t145 hv3 dX12_written_20 ?_
        obtain ⟨u4, hu4, hf⟩ := g_bd hf
        refine ok_bast F K t144 hu4 dX12_written_21 (fun H locs K => ?_)
        obtain ⟨x5, ex5⟩ : ∃ y : Int32, y = x1_ + 1 := ⟨_, rfl⟩
        have hf := g_lt hf x5 ex5
        refine lv_iinc (v := x5) (lv' := [(1, .int x5), (0, .ref (G.1 100))]) hx hb dX12_written_22 hl (k := 1) rfl (by rw [kI_1, ex5]) (by decide) rfl (fun ls hl => ?_)
        refine lv_goto (pc := 25) (tgt := 2) hx hb dX12_written_25 (by decide) ?_
        exact ih x5 u4 _ _ _ hf K (lv_sub hl [1, 0] rfl)
set_option maxRecDepth 100000 in
set_option maxHeartbeats 4000000 in
theorem pX12_written {l : Launch} (G : Gt) {r : Int32} {u u' : St} (hf : fX12_written u = some (r, u')) : Ctr 100 77 l yX12_written cX12_written 2 (some .int) rmX12_written [.ref (G.1 100)] G u (some (.int r)) u' := by
  refine Ctr.mk (by decide) (Nat.le_of_ble_eq_true rfl) (fun p e s m below meth c A ls B K hl => ?_)
  have F := B.1
  have hx := F.1
  have hb := F.2.1
  have hl : lv_has ls 2 [(0, .ref (G.1 100))] := hl
  unfold fX12_written at hf
  refine lv_iconst (v := 0) hx hb dX12_written_0 kI_0 ?_
  refine lv_topi (fun x6 ex6 => ?_)
  have hf := g_lt hf x6 ex6
  refine lv_istore_n (lv' := [(1, .int x6), (0, .ref (G.1 100))]) hx hb dX12_written_1 rfl hl (by decide) rfl (fun ls hl => ?_)
  exact (pX12_written_L0  B FU) x6 u _ _ _ hf K (lv_sub hl [1, 0] rfl)
abbrev rmX12_show : Room := { frames := 6, cells := 0, slots := 0, locals := 138 }
set_option maxRecDepth 100000 in
set_option maxHeartbeats 4000000 in
theorem pX12_show_j80 {p : Program} {l : Launch} {e : Env} {s : State} {m : MethodId} {below : List Frame} {meth : Method} {c : Code} {A : Nat → Prop} {G : Gt} {a0 : Int32} {r : Int32} {u' : St} (B : Bd p s m [.ref (G.1 100), .int a0] meth c yX12_show cX12_show 2 (some .int)) (u : St) (H : Heap) (locs : List Loc) (ls : Array Slot) (hf : fX12_show_j80  u = some (r, u')) (K : Ok 100 77 G A s u H locs) (hl : lv_has ls 2 [(0, .ref (G.1 100))]) : W p l e rmX12_show s m ([.ref (G.1 100), .int a0] : List Value).toArray below meth c H locs 0 0 (MQ below (Qg 100 77 G A (some (.int r)) u') ([.ref (G.1 100), .int a0] : List Value).toArray s 0 0 A) (F0 m 80 ls []) := by
  have F := B.1
  have hx := F.1
  have hb := F.2.1
  unfold fX12_show_j80 at hf
  refine lv_aload_n hx hb dX12_show_80 rfl (lv_at hl 0 rfl) ?_
  refine ok_int F K fX12_496 dX12_show_81 ?_
  refine lv_sipush (v := 4000) hx hb dX12_show_84 kS_4000 ?_
  refine lv_icmp_le (pc := 87) (tgt := 95) hx hb dX12_show_87 (by decide) (fun c1 => ?_) (fun c1 => ?_)
  · have hf := g_pos hf c1
    refine lv_aload_n hx hb dX12_show_95 rfl (lv_at hl 0 rfl) ?_
    obtain ⟨r3, u2, hu2, hf⟩ := g_b2 hf
    refine ok_calli (rest := []) F K (pX12_written G hu2) mX12_written oc100 lX12_546 rfl hl.1 rfl ⟨⟨rfl, rfl⟩, Nat.le_of_ble_eq_true rfl, Nat.le_of_ble_eq_true rfl⟩ (Nat.le_of_ble_eq_true rfl) dX12_show_96 (fun H locs K => ?_)
    exact ok_reti B K hf dX12_show_99
  · have hf := g_neg hf c1
    refine lv_bipush (v := (-4)) hx hb dX12_show_90 kB_m4 ?_
    refine lv_goto (pc := 92) (tgt := 99) hx hb dX12_show_92 (by decide) ?_
    exact ok_reti B K hf dX12_show_99
set_option maxRecDepth 100000 in
set_option maxHeartbeats 4000000 in
theorem pX12_show {l : Launch} (G : Gt) {a0 : Int32} {r : Int32} {u u' : St} (hf : fX12_show a0 u = some (r, u')) : Ctr 100 77 l yX12_show cX12_show 2 (some .int) rmX12_show [.ref (G.1 100), .int a0] G u (some (.int r)) u' := by
  refine Ctr.mk (by decide) (Nat.le_of_ble_eq_true rfl) (fun p e s m below meth c A ls B K hl => ?_)
  have F := B.1
  have hx := F.1
  have hb := F.2.1
  have hl : lv_has ls 2 [(0, .ref (G.1 100)), (1, .int a0)] := hl
  unfold fX12_show at hf
  refine lv_aload_n hx hb dX12_show_0 rfl (lv_at hl 0 rfl) ?_
  refine lv_iconst (v := 0) hx hb dX12_show_1 kI_0 ?_
  refine ok_putI F K qX12_241 dX12_show_2 (fun u4 H locs eu4 K => ?_)
  have hf := g_lt hf u4 eu4
  refine lv_iload_n hx hb dX12_show_5 rfl (lv_at hl 1 rfl) ?_
  refine lv_iconst (v := 0) hx hb dX12_show_6 kI_0 ?_
  refine lv_aload_n hx hb dX12_show_7 rfl (lv_at hl 0 rfl) ?_
  refine ok_int F K fX12_490 dX12_show_8 ?_
  refine lv_iconst (v := 1) hx hb dX12_show_11 kI_1 ?_
  refine lv_isub hx hb dX12_show_12 ?_
  obtain ⟨r6, u5, hu5, hf⟩ := g_b2 hf
  refine ok_callsi (rest := []) F K (pX12_in G hu5) mX12_in lX12_245 rfl hl.1 rfl ⟨⟨rfl, rfl⟩, Nat.le_of_ble_eq_true rfl, Nat.le_of_ble_eq_true rfl⟩ (Nat.le_of_ble_eq_true rfl) dX12_show_13 (fun H locs K => ?_)
  refine lv_if_ne (pc := 16) (tgt := 21) hx hb dX12_show_16 (by decide) (fun c7 => ?_) (fun c7 => ?_)
  · have hf := g_neg hf c7
    refine lv_aload_n hx hb dX12_show_21 rfl (lv_at hl 0 rfl) ?_
    refine lv_iconst (v := 0) hx hb dX12_show_22 kI_0 ?_
    refine ok_putI F K qX12_496 dX12_show_23 (fun u8 H locs eu8 K => ?_)
    have hf := g_lt hf u8 eu8
    refine lv_aload_n hx hb dX12_show_26 rfl (lv_at hl 0 rfl) ?_
    refine lv_iconst (v := 0) hx hb dX12_show_27 kI_0 ?_
    refine ok_putI F K qX12_513 dX12_show_28 (fun u9 H locs eu9 K => ?_)
    have hf := g_lt hf u9 eu9
    refine lv_aload_n hx hb dX12_show_31 rfl (lv_at hl 0 rfl) ?_
    refine ok_ref F K fX12_181 dX12_show_32 ?_
    refine lv_iload_n hx hb dX12_show_35 rfl (lv_at hl 1 rfl) ?_
    obtain ⟨v10, hv10, hf⟩ := g_bd hf
    refine ok_iald F K t157 hv10 dX12_show_36 ?_
    refine lv_if_ne (pc := 37) (tgt := 54) hx hb dX12_show_37 (by decide) (fun c11 => ?_) (fun c11 => ?_)
    · have hf := g_neg hf c11
      refine lv_aload_n hx hb dX12_show_54 rfl (lv_at hl 0 rfl) ?_
      refine lv_aload_n hx hb dX12_show_55 rfl (lv_at hl 0 rfl) ?_
      refine ok_ref F K fX12_160 dX12_show_56 ?_
      refine lv_aload_n hx hb dX12_show_59 rfl (lv_at hl 0 rfl) ?_
      refine ok_ref F K fX12_190 dX12_show_60 ?_
      refine lv_iload_n hx hb dX12_show_63 rfl (lv_at hl 1 rfl) ?_
      obtain ⟨v12, hv12, hf⟩ := g_bd hf
      refine ok_iald F K t160 hv12 dX12_show_64 ?_
      obtain ⟨v13, hv13, hf⟩ := g_bd hf
      refine ok_iald F K t150 hv13 dX12_show_65 ?_
      refine lv_aload_n hx hb dX12_show_66 rfl (lv_at hl 0 rfl) ?_
      refine ok_ref F K fX12_163 dX12_show_67 ?_
      refine lv_aload_n hx hb dX12_show_70 rfl (lv_at hl 0 rfl) ?_
      refine ok_ref F K fX12_190 dX12_show_71 ?_
      refine lv_iload_n hx hb dX12_show_74 rfl (lv_at hl 1 rfl) ?_
      obtain ⟨v14, hv14, hf⟩ := g_bd hf
      refine ok_iald F K t160 hv14 dX12_show_75 ?_
      obtain ⟨v15, hv15, hf⟩ := g_bd hf
      refine ok_iald F K t151 hv15 dX12_show_76 ?_
      obtain ⟨u16, hu16, hf⟩ := g_bd hf
      refine ok_callv (rest := []) F K (pX12_literalOut G hu16) mX12_literalOut oc100 lX12_537 rfl hl.1 rfl ⟨⟨rfl, rfl⟩, Nat.le_of_ble_eq_true rfl, Nat.le_of_ble_eq_true rfl⟩ (Nat.le_of_ble_eq_true rfl) dX12_show_77 (fun H locs K => ?_)
      exact pX12_show_j80  B  u16 _ _ _ hf K (lv_sub hl [0] rfl)
    · have hf := g_pos hf c11
      refine lv_aload_n hx hb dX12_show_40 rfl (lv_at hl 0 rfl) ?_
      refine lv_aload_n hx hb dX12_show_41 rfl (lv_at hl 0 rfl) ?_
      refine ok_ref F K fX12_184 dX12_show_42 ?_
      refine lv_iload_n hx hb dX12_show_45 rfl (lv_at hl 1 rfl) ?_
      obtain ⟨v17, hv17, hf⟩ := g_bd hf
      refine ok_iald F K t158 hv17 dX12_show_46 ?_
      refine lv_iconst (v := 0) hx hb dX12_show_47 kI_0 ?_
      obtain ⟨u18, hu18, hf⟩ := g_bd hf
      refine ok_callv (rest := []) F K (pX12_clauseOut G hu18) mX12_clauseOut oc100 lX12_543 rfl hl.1 rfl ⟨⟨rfl, rfl⟩, Nat.le_of_ble_eq_true rfl, Nat.le_of_ble_eq_true rfl⟩ (Nat.le_of_ble_eq_true rfl) dX12_show_48 (fun H locs K => ?_)
      refine lv_goto (pc := 51) (tgt := 80) hx hb dX12_show_51 (by decide) ?_
      exact pX12_show_j80  B  u18 _ _ _ hf K (lv_sub hl [0] rfl)
  · have hf := g_pos hf c7
    refine lv_iconst (v := (-1)) hx hb dX12_show_19 kI_m1 ?_
    exact ok_reti B K hf dX12_show_20
abbrev rmX12_told : Room := { frames := 0, cells := 0, slots := 0, locals := 0 }
set_option maxRecDepth 100000 in
set_option maxHeartbeats 4000000 in
theorem pX12_told {l : Launch} (G : Gt) {a0 : Int32} {r : Int32} {u u' : St} (hf : fX12_told a0 u = some (r, u')) : Ctr 100 77 l yX12_told cX12_told 2 (some .int) rmX12_told [.ref (G.1 100), .int a0] G u (some (.int r)) u' := by
  refine Ctr.mk (by decide) (Nat.le_of_ble_eq_true rfl) (fun p e s m below meth c A ls B K hl => ?_)
  have F := B.1
  have hx := F.1
  have hb := F.2.1
  have hl : lv_has ls 2 [(0, .ref (G.1 100)), (1, .int a0)] := hl
  unfold fX12_told at hf
  refine lv_aload_n hx hb dX12_told_0 rfl (lv_at hl 0 rfl) ?_
  refine lv_iconst (v := 0) hx hb dX12_told_1 kI_0 ?_
  refine ok_putI F K qX12_241 dX12_told_2 (fun u1 H locs eu1 K => ?_)
  have hf := g_lt hf u1 eu1
  refine lv_iload_n hx hb dX12_told_5 rfl (lv_at hl 1 rfl) ?_
  refine lv_if_ne (pc := 6) (tgt := 16) hx hb dX12_told_6 (by decide) (fun c2 => ?_) (fun c2 => ?_)
  · have hf := g_neg hf c2
    refine lv_iload_n hx hb dX12_told_16 rfl (lv_at hl 1 rfl) ?_
    refine lv_iconst (v := 1) hx hb dX12_told_17 kI_1 ?_
    refine lv_icmp_ne (pc := 18) (tgt := 28) hx hb dX12_told_18 (by decide) (fun c3 => ?_) (fun c3 => ?_)
    · have hf := g_neg hf c3
      refine lv_iload_n hx hb dX12_told_28 rfl (lv_at hl 1 rfl) ?_
      refine lv_iconst (v := 2) hx hb dX12_told_29 kI_2 ?_
      refine lv_icmp_ne (pc := 30) (tgt := 40) hx hb dX12_told_30 (by decide) (fun c4 => ?_) (fun c4 => ?_)
      · have hf := g_neg hf c4
        refine lv_bipush (v := (-2)) hx hb dX12_told_40 kB_m2 ?_
        exact ok_reti B K hf dX12_told_42
      · have hf := g_pos hf c4
        refine lv_aload_n hx hb dX12_told_33 rfl (lv_at hl 0 rfl) ?_
        refine ok_int F K fX12_490 dX12_told_34 ?_
        refine lv_goto (pc := 37) (tgt := 42) hx hb dX12_told_37 (by decide) ?_
        exact ok_reti B K hf dX12_told_42
    · have hf := g_pos hf c3
      refine lv_aload_n hx hb dX12_told_21 rfl (lv_at hl 0 rfl) ?_
      refine ok_int F K fX12_487 dX12_told_22 ?_
      refine lv_goto (pc := 25) (tgt := 42) hx hb dX12_told_25 (by decide) ?_
      exact ok_reti B K hf dX12_told_42
  · have hf := g_pos hf c2
    refine lv_aload_n hx hb dX12_told_9 rfl (lv_at hl 0 rfl) ?_
    refine ok_int F K fX12_484 dX12_told_10 ?_
    refine lv_goto (pc := 13) (tgt := 42) hx hb dX12_told_13 (by decide) ?_
    exact ok_reti B K hf dX12_told_42
abbrev rmX12_write : Room := { frames := 6, cells := 0, slots := 0, locals := 138 }
set_option maxRecDepth 100000 in
set_option maxHeartbeats 4000000 in
theorem pX12_write {l : Launch} (G : Gt) {a0 : Int32} {r : Int32} {u u' : St} (hf : fX12_write a0 u = some (r, u')) : Ctr 100 77 l yX12_write cX12_write 2 (some .int) rmX12_write [.ref (G.1 100), .int a0] G u (some (.int r)) u' := by
  refine Ctr.mk (by decide) (Nat.le_of_ble_eq_true rfl) (fun p e s m below meth c A ls B K hl => ?_)
  have F := B.1
  have hx := F.1
  have hb := F.2.1
  have hl : lv_has ls 2 [(0, .ref (G.1 100)), (1, .int a0)] := hl
  unfold fX12_write at hf
  refine lv_aload_n hx hb dX12_write_0 rfl (lv_at hl 0 rfl) ?_
  refine lv_iconst (v := 0) hx hb dX12_write_1 kI_0 ?_
  refine ok_putI F K qX12_241 dX12_write_2 (fun u1 H locs eu1 K => ?_)
  have hf := g_lt hf u1 eu1
  refine lv_iload_n hx hb dX12_write_5 rfl (lv_at hl 1 rfl) ?_
  refine lv_iconst (v := 0) hx hb dX12_write_6 kI_0 ?_
  refine lv_aload_n hx hb dX12_write_7 rfl (lv_at hl 0 rfl) ?_
  refine ok_int F K fX12_445 dX12_write_8 ?_
  refine lv_iconst (v := 1) hx hb dX12_write_11 kI_1 ?_
  refine lv_isub hx hb dX12_write_12 ?_
  obtain ⟨r3, u2, hu2, hf⟩ := g_b2 hf
  refine ok_callsi (rest := []) F K (pX12_in G hu2) mX12_in lX12_245 rfl hl.1 rfl ⟨⟨rfl, rfl⟩, Nat.le_of_ble_eq_true rfl, Nat.le_of_ble_eq_true rfl⟩ (Nat.le_of_ble_eq_true rfl) dX12_write_13 (fun H locs K => ?_)
  refine lv_if_ne (pc := 16) (tgt := 21) hx hb dX12_write_16 (by decide) (fun c4 => ?_) (fun c4 => ?_)
  · have hf := g_neg hf c4
    refine lv_aload_n hx hb dX12_write_21 rfl (lv_at hl 0 rfl) ?_
    refine lv_iconst (v := 0) hx hb dX12_write_22 kI_0 ?_
    refine ok_putI F K qX12_496 dX12_write_23 (fun u5 H locs eu5 K => ?_)
    have hf := g_lt hf u5 eu5
    refine lv_aload_n hx hb dX12_write_26 rfl (lv_at hl 0 rfl) ?_
    refine lv_iload_n hx hb dX12_write_27 rfl (lv_at hl 1 rfl) ?_
    refine lv_iconst (v := (-1)) hx hb dX12_write_28 kI_m1 ?_
    obtain ⟨u6, hu6, hf⟩ := g_bd hf
    refine ok_callv (rest := []) F K (pX12_clauseOut G hu6) mX12_clauseOut oc100 lX12_543 rfl hl.1 rfl ⟨⟨rfl, rfl⟩, Nat.le_of_ble_eq_true rfl, Nat.le_of_ble_eq_true rfl⟩ (Nat.le_of_ble_eq_true rfl) dX12_write_29 (fun H locs K => ?_)
    refine lv_aload_n hx hb dX12_write_32 rfl (lv_at hl 0 rfl) ?_
    obtain ⟨r8, u7, hu7, hf⟩ := g_b2 hf
    refine ok_calli (rest := []) F K (pX12_written G hu7) mX12_written oc100 lX12_546 rfl hl.1 rfl ⟨⟨rfl, rfl⟩, Nat.le_of_ble_eq_true rfl, Nat.le_of_ble_eq_true rfl⟩ (Nat.le_of_ble_eq_true rfl) dX12_write_33 (fun H locs K => ?_)
    exact ok_reti B K hf dX12_write_36
  · have hf := g_pos hf c4
    refine lv_iconst (v := (-1)) hx hb dX12_write_19 kI_m1 ?_
    exact ok_reti B K hf dX12_write_20
