abbrev rmJ0_coder_7d493 : Room := { frames := 0, cells := 0, slots := 0, locals := 0 }
set_option maxRecDepth 100000 in
set_option maxHeartbeats 4000000 in
theorem pJ0_coder_7d493 {l : Launch} (G : Gt) {k : Nat} (hk : k < 5) {r : Int32} {u u' : St} (hf : fJ0_coder_7d493 k u = some (r, u')) : Ctr 0 76 l yJ0_coder_7d493 cJ0_coder_7d493 1 (some .byte) rmJ0_coder_7d493 [.ref (G.2.2.2.1 k)] G u (some (.int r)) u' := by
  refine Ctr.mk (by decide) (Nat.le_of_ble_eq_true rfl) (fun p e s m below meth c A ls B K hl => ?_)
  have F := B.1
  have hx := F.1
  have hb := F.2.1
  have hl : lv_has ls 1 [(0, .ref (G.2.2.2.1 k))] := hl
  unfold fJ0_coder_7d493 at hf
  refine ok_compact F K kkJ0_38 dJ0_coder_7d493_0 ?_
  refine lv_if_eq (pc := 3) (tgt := 13) hx hb dJ0_coder_7d493_3 (by decide) (fun c1 => ?_) (fun c1 => ?_)
  · have hf := g_pos hf c1
    refine lv_iconst (v := 1) hx hb dJ0_coder_7d493_13 kI_1 ?_
    exact ok_retb B K hf (by decide) dJ0_coder_7d493_14
  · have hf := g_neg hf c1
    refine lv_aload_n hx hb dJ0_coder_7d493_6 rfl (lv_at hl 0 rfl) ?_
    refine ok_scod F K hk kkJ0_15 dJ0_coder_7d493_7 ?_
    refine lv_goto (pc := 10) (tgt := 14) hx hb dJ0_coder_7d493_10 (by decide) ?_
    exact ok_retb B K hf (by decide) dJ0_coder_7d493_14
abbrev rmJ0_isLatin1_aae02 : Room := { frames := 0, cells := 0, slots := 0, locals := 0 }
set_option maxRecDepth 100000 in
set_option maxHeartbeats 4000000 in
theorem pJ0_isLatin1_aae02 {l : Launch} (G : Gt) {k : Nat} (hk : k < 5) {r : Int32} {u u' : St} (hf : fJ0_isLatin1_aae02 k u = some (r, u')) : Ctr 0 76 l yJ0_isLatin1_aae02 cJ0_isLatin1_aae02 1 (some .boolean) rmJ0_isLatin1_aae02 [.ref (G.2.2.2.1 k)] G u (some (.int r)) u' := by
  refine Ctr.mk (by decide) (Nat.le_of_ble_eq_true rfl) (fun p e s m below meth c A ls B K hl => ?_)
  have F := B.1
  have hx := F.1
  have hb := F.2.1
  have hl : lv_has ls 1 [(0, .ref (G.2.2.2.1 k))] := hl
  unfold fJ0_isLatin1_aae02 at hf
  refine ok_compact F K kkJ0_38 dJ0_isLatin1_aae02_0 ?_
  refine lv_if_eq (pc := 3) (tgt := 17) hx hb dJ0_isLatin1_aae02_3 (by decide) (fun c1 => ?_) (fun c1 => ?_)
  · have hf := g_pos hf c1
    refine lv_iconst (v := 0) hx hb dJ0_isLatin1_aae02_17 kI_0 ?_
    exact ok_retz B K hf (Or.inl rfl) dJ0_isLatin1_aae02_18
  · have hf := g_neg hf c1
    refine lv_aload_n hx hb dJ0_isLatin1_aae02_6 rfl (lv_at hl 0 rfl) ?_
    refine ok_scod F K hk kkJ0_15 dJ0_isLatin1_aae02_7 ?_
    refine lv_if_ne (pc := 10) (tgt := 17) hx hb dJ0_isLatin1_aae02_10 (by decide) (fun c2 => ?_) (fun c2 => ?_)
    · have hf := g_neg hf c2
      refine lv_iconst (v := 0) hx hb dJ0_isLatin1_aae02_17 kI_0 ?_
      exact ok_retz B K hf (Or.inl rfl) dJ0_isLatin1_aae02_18
    · have hf := g_pos hf c2
      refine lv_iconst (v := 1) hx hb dJ0_isLatin1_aae02_13 kI_1 ?_
      refine lv_goto (pc := 14) (tgt := 18) hx hb dJ0_isLatin1_aae02_14 (by decide) ?_
      exact ok_retz B K hf (Or.inr rfl) dJ0_isLatin1_aae02_18
abbrev rmJ0_length_8abf5 : Room := { frames := 1, cells := 0, slots := 0, locals := 20 }
set_option maxRecDepth 100000 in
set_option maxHeartbeats 4000000 in
theorem pJ0_length_8abf5 {l : Launch} (G : Gt) {k : Nat} (hk : k < 5) {r : Int32} {u u' : St} (hf : fJ0_length_8abf5 k u = some (r, u')) : Ctr 0 76 l yJ0_length_8abf5 cJ0_length_8abf5 1 (some .int) rmJ0_length_8abf5 [.ref (G.2.2.2.1 k)] G u (some (.int r)) u' := by
  refine Ctr.mk (by decide) (Nat.le_of_ble_eq_true rfl) (fun p e s m below meth c A ls B K hl => ?_)
  have F := B.1
  have hx := F.1
  have hb := F.2.1
  have hl : lv_has ls 1 [(0, .ref (G.2.2.2.1 k))] := hl
  unfold fJ0_length_8abf5 at hf
  refine lv_aload_n hx hb dJ0_length_8abf5_0 rfl (lv_at hl 0 rfl) ?_
  refine ok_sval F K hk kkJ0_9 dJ0_length_8abf5_1 ?_
  refine ok_slen F K hk dJ0_length_8abf5_4 ?_
  refine lv_aload_n hx hb dJ0_length_8abf5_5 rfl (lv_at hl 0 rfl) ?_
  obtain ⟨r2, u1, hu1, hf⟩ := g_b2 hf
  refine ok_callki (rest := [.int (Int32.ofNat (strN.getD k 0))]) F K (pJ0_coder_7d493 G (k := k) hk hu1) mJ0_coder_7d493 hk lJ0_335 rfl hl.1 rfl ⟨⟨rfl, rfl⟩, Nat.le_of_ble_eq_true rfl, Nat.le_of_ble_eq_true rfl⟩ (Nat.le_of_ble_eq_true rfl) dJ0_length_8abf5_6 (fun H locs K => ?_)
  refine lv_ishr hx hb dJ0_length_8abf5_9 ?_
  exact ok_reti B K hf dJ0_length_8abf5_10
abbrev rmJ1_canEncode_9a6ad : Room := { frames := 0, cells := 0, slots := 0, locals := 0 }
set_option maxRecDepth 100000 in
set_option maxHeartbeats 4000000 in
theorem pJ1_canEncode_9a6ad {l : Launch} (G : Gt) {a0 : Int32} {r : Int32} {u u' : St} (hf : fJ1_canEncode_9a6ad a0 u = some (r, u')) : Ctr 0 76 l yJ1_canEncode_9a6ad cJ1_canEncode_9a6ad 1 (some .boolean) rmJ1_canEncode_9a6ad [.int a0] G u (some (.int r)) u' := by
  refine Ctr.mk (by decide) (Nat.le_of_ble_eq_true rfl) (fun p e s m below meth c A ls B K hl => ?_)
  have F := B.1
  have hx := F.1
  have hb := F.2.1
  have hl : lv_has ls 1 [(0, .int a0)] := hl
  unfold fJ1_canEncode_9a6ad at hf
  refine lv_iload_n hx hb dJ1_canEncode_9a6ad_0 rfl (lv_at hl 0 rfl) ?_
  refine lv_if_lt (pc := 1) (tgt := 15) hx hb dJ1_canEncode_9a6ad_1 (by decide) (fun c1 => ?_) (fun c1 => ?_)
  · have hf := g_pos hf c1
    refine lv_iconst (v := 0) hx hb dJ1_canEncode_9a6ad_15 kI_0 ?_
    exact ok_retz B K hf (Or.inl rfl) dJ1_canEncode_9a6ad_16
  · have hf := g_neg hf c1
    refine lv_iload_n hx hb dJ1_canEncode_9a6ad_4 rfl (lv_at hl 0 rfl) ?_
    refine lv_sipush (v := 255) hx hb dJ1_canEncode_9a6ad_5 kS_255 ?_
    refine lv_icmp_gt (pc := 8) (tgt := 15) hx hb dJ1_canEncode_9a6ad_8 (by decide) (fun c2 => ?_) (fun c2 => ?_)
    · have hf := g_pos hf c2
      refine lv_iconst (v := 0) hx hb dJ1_canEncode_9a6ad_15 kI_0 ?_
      exact ok_retz B K hf (Or.inl rfl) dJ1_canEncode_9a6ad_16
    · have hf := g_neg hf c2
      refine lv_iconst (v := 1) hx hb dJ1_canEncode_9a6ad_11 kI_1 ?_
      refine lv_goto (pc := 12) (tgt := 16) hx hb dJ1_canEncode_9a6ad_12 (by decide) ?_
      exact ok_retz B K hf (Or.inr rfl) dJ1_canEncode_9a6ad_16
abbrev rmJ1_indexOfChar_4cfef : Room := { frames := 0, cells := 0, slots := 0, locals := 0 }
set_option maxRecDepth 100000 in
set_option maxHeartbeats 4000000 in
theorem pJ1_indexOfChar_4cfef_L0 {p : Program} {l : Launch} {e : Env} {s : State} {m : MethodId} {below : List Frame} {meth : Method} {c : Code} {A : Nat → Prop} {G : Gt} {a0 : Nat} {a1 : Int32} {a2 : Int32} {a3 : Int32} {r : Int32} {u' : St} (ha0 : a0 < 5) (B : Bd p s m [.ref (G.2.2.2.2.1 a0), .int a1, .int a2, .int a3] meth c yJ1_indexOfChar_4cfef cJ1_indexOfChar_4cfef 6 (some .int)) (n : Nat) : (∀ (x3_ : Int32) (x4_ : Int32) (x5_ : Int32) (u : St) (H : Heap) (locs : List Loc) (ls : Array Slot), fJ1_indexOfChar_4cfef_L0 a0 n 0 x3_ x4_ x5_ u = some (r, u') → Ok 0 76 G A s u H locs → lv_has ls 6 [(0, .ref (G.2.2.2.2.1 a0)), (3, .int x3_), (4, .int x4_), (5, .int x5_)] → W p l e rmJ1_indexOfChar_4cfef s m ([.ref (G.2.2.2.2.1 a0), .int a1, .int a2, .int a3] : List Value).toArray below meth c H locs 0 0 (MQ below (Qg 0 76 G A (some (.int r)) u') ([.ref (G.2.2.2.2.1 a0), .int a1, .int a2, .int a3] : List Value).toArray s 0 0 A) (F0 m 7 ls [])) := by
  have F := B.1
  have hx := F.1
  have hb := F.2.1
  induction n with
  | zero => exact fun _ _ _ _ _ _ _ hf => g_no hf
  | succ n ih =>
    refine ?_
    · intro x3_ x4_ x5_ u H locs ls hf K hl
      have hf : fJ1_indexOfChar_4cfef_L0_0 a0 (fJ1_indexOfChar_4cfef_L0 a0 n) x3_ x4_ x5_ u = some (r, u') := hf
      unfold fJ1_indexOfChar_4cfef_L0_0 at hf
      refine lv_iload hx hb dJ1_indexOfChar_4cfef_7 (lv_at hl 3 rfl) ?_
      refine lv_iload_n hx hb dJ1_indexOfChar_4cfef_9 rfl (lv_at hl 1 rfl) ?_
      refine lv_icmp_ge (pc := 10) (tgt := 31) hx hb dJ1_indexOfChar_4cfef_10 (by decide) (fun c1 => ?_) (fun c1 => ?_)
      · have hf := g_pos hf c1
        refine lv_iconst (v := (-1)) hx hb dJ1_indexOfChar_4cfef_31 kI_m1 ?_
        exact ok_reti B K hf dJ1_indexOfChar_4cfef_32
      · have hf := g_neg hf c1
        refine lv_aload_n hx hb dJ1_indexOfChar_4cfef_13 rfl (lv_at hl 0 rfl) ?_
        refine lv_iload hx hb dJ1_indexOfChar_4cfef_14 (lv_at hl 3 rfl) ?_
        obtain ⟨v2, hv2, hf⟩ := g_bd hf
        refine ok_sbyte F K ha0 hv2 dJ1_indexOfChar_4cfef_16 ?_
        refine lv_iload hx hb dJ1_indexOfChar_4cfef_17 (lv_at hl 2 rfl) ?_
        refine lv_icmp_ne (pc := 19) (tgt := 25) hx hb dJ1_indexOfChar_4cfef_19 (by decide) (fun c3 => ?_) (fun c3 => ?_)
        · have hf := g_neg hf c3
          obtain ⟨x4, ex4⟩ : ∃ y : Int32, y = x5_ + 1 := ⟨_, rfl⟩
          have hf := g_lt hf x4 ex4
          refine lv_iinc (v := x4) (lv' := [(5, .int x4), (0, .ref (G.2.2.2.2.1 a0)), (3, .int x3_), (4, .int x4_)]) hx hb dJ1_indexOfChar_4cfef_25 hl (k := 3) rfl (by rw [kI_1, ex4]) (by decide) rfl (fun ls hl => ?_)
          refine lv_goto (pc := 28) (tgt := 7) hx hb dJ1_indexOfChar_4cfef_28 (by decide) ?_
          exact ih x3_ x4_ x4 u _ _ _ hf K (lv_sub hl [1, 2, 3, 0] rfl)
        · have hf := g_pos hf c3
          refine lv_iload hx hb dJ1_indexOfChar_4cfef_22 (lv_at hl 3 rfl) ?_
          exact ok_reti B K hf dJ1_indexOfChar_4cfef_24
set_option maxRecDepth 100000 in
set_option maxHeartbeats 4000000 in
theorem pJ1_indexOfChar_4cfef {l : Launch} (G : Gt) {a0 : Nat} (ha0 : a0 < 5) {a1 : Int32} {a2 : Int32} {a3 : Int32} {r : Int32} {u u' : St} (hf : fJ1_indexOfChar_4cfef a0 a1 a2 a3 u = some (r, u')) : Ctr 0 76 l yJ1_indexOfChar_4cfef cJ1_indexOfChar_4cfef 6 (some .int) rmJ1_indexOfChar_4cfef [.ref (G.2.2.2.2.1 a0), .int a1, .int a2, .int a3] G u (some (.int r)) u' := by
  refine Ctr.mk (by decide) (Nat.le_of_ble_eq_true rfl) (fun p e s m below meth c A ls B K hl => ?_)
  have F := B.1
  have hx := F.1
  have hb := F.2.1
  have hl : lv_has ls 6 [(0, .ref (G.2.2.2.2.1 a0)), (1, .int a1), (2, .int a2), (3, .int a3)] := hl
  unfold fJ1_indexOfChar_4cfef at hf
  refine lv_iload_n hx hb dJ1_indexOfChar_4cfef_0 rfl (lv_at hl 1 rfl) ?_
  refine lv_i2b hx hb dJ1_indexOfChar_4cfef_1 rfl ?_
  refine lv_topi (fun x5 ex5 => ?_)
  have hf := g_lt hf x5 ex5
  refine lv_istore (lv' := [(4, .int x5), (0, .ref (G.2.2.2.2.1 a0)), (1, .int a1), (2, .int a2), (3, .int a3)]) hx hb dJ1_indexOfChar_4cfef_2 hl (by decide) rfl (fun ls hl => ?_)
  refine lv_iload_n hx hb dJ1_indexOfChar_4cfef_4 rfl (lv_at hl 3 rfl) ?_
  refine lv_istore (lv' := [(5, .int a2), (4, .int x5), (0, .ref (G.2.2.2.2.1 a0)), (1, .int a1), (2, .int a2), (3, .int a3)]) hx hb dJ1_indexOfChar_4cfef_5 hl (by decide) rfl (fun ls hl => ?_)
  exact (pJ1_indexOfChar_4cfef_L0 ha0 B FU) a3 x5 a2 u _ _ _ hf K (lv_sub hl [2, 5, 1, 0] rfl)
abbrev rmJ1_indexOf_4cfef : Room := { frames := 1, cells := 0, slots := 0, locals := 80 }
set_option maxRecDepth 100000 in
set_option maxHeartbeats 4000000 in
theorem pJ1_indexOf_4cfef {l : Launch} (G : Gt) {a0 : Nat} (ha0 : a0 < 5) {a1 : Int32} {a2 : Int32} {a3 : Int32} {r : Int32} {u u' : St} (hf : fJ1_indexOf_4cfef a0 a1 a2 a3 u = some (r, u')) : Ctr 0 76 l yJ1_indexOf_4cfef cJ1_indexOf_4cfef 4 (some .int) rmJ1_indexOf_4cfef [.ref (G.2.2.2.2.1 a0), .int a1, .int a2, .int a3] G u (some (.int r)) u' := by
  refine Ctr.mk (by decide) (Nat.le_of_ble_eq_true rfl) (fun p e s m below meth c A ls B K hl => ?_)
  have F := B.1
  have hx := F.1
  have hb := F.2.1
  have hl : lv_has ls 4 [(0, .ref (G.2.2.2.2.1 a0)), (1, .int a1), (2, .int a2), (3, .int a3)] := hl
  unfold fJ1_indexOf_4cfef at hf
  refine lv_iload_n hx hb dJ1_indexOf_4cfef_0 rfl (lv_at hl 1 rfl) ?_
  obtain ⟨r2, u1, hu1, hf⟩ := g_b2 hf
  refine ok_calloi (rest := []) F K (pJ1_canEncode_9a6ad G hu1) mJ1_canEncode_9a6ad lJ1_88 rfl hl.1 rfl ⟨⟨rfl, rfl⟩, Nat.le_of_ble_eq_true rfl, Nat.le_of_ble_eq_true rfl⟩ (Nat.le_of_ble_eq_true rfl) dJ1_indexOf_4cfef_1 (fun H locs K => ?_)
  refine lv_if_ne (pc := 4) (tgt := 9) hx hb dJ1_indexOf_4cfef_4 (by decide) (fun c3 => ?_) (fun c3 => ?_)
  · have hf := g_neg hf c3
    refine lv_iload_n hx hb dJ1_indexOf_4cfef_9 rfl (lv_at hl 2 rfl) ?_
    refine lv_iconst (v := 0) hx hb dJ1_indexOf_4cfef_10 kI_0 ?_
    refine ok_mmax F hl.1 lJ1_92 wMax ⟨Nat.le_of_ble_eq_true rfl, Nat.le_of_ble_eq_true rfl⟩ dJ1_indexOf_4cfef_11 ?_
    refine lv_topi (fun x4 ex4 => ?_)
    have hf := g_lt hf x4 ex4
    refine lv_istore_n (lv' := [(2, .int x4), (0, .ref (G.2.2.2.2.1 a0)), (1, .int a1), (3, .int a3)]) hx hb dJ1_indexOf_4cfef_14 rfl hl (by decide) rfl (fun ls hl => ?_)
    refine lv_iload_n hx hb dJ1_indexOf_4cfef_15 rfl (lv_at hl 3 rfl) ?_
    refine lv_aload_n hx hb dJ1_indexOf_4cfef_16 rfl (lv_at hl 1 rfl) ?_
    refine ok_slen F K ha0 dJ1_indexOf_4cfef_17 ?_
    refine ok_mmin F hl.1 lJ1_38 wMin ⟨Nat.le_of_ble_eq_true rfl, Nat.le_of_ble_eq_true rfl⟩ dJ1_indexOf_4cfef_18 ?_
    refine lv_topi (fun x5 ex5 => ?_)
    have hf := g_lt hf x5 ex5
    refine lv_istore_n (lv' := [(3, .int x5), (2, .int x4), (0, .ref (G.2.2.2.2.1 a0)), (1, .int a1)]) hx hb dJ1_indexOf_4cfef_21 rfl hl (by decide) rfl (fun ls hl => ?_)
    refine lv_iload_n hx hb dJ1_indexOf_4cfef_22 rfl (lv_at hl 1 rfl) ?_
    refine lv_iload_n hx hb dJ1_indexOf_4cfef_23 rfl (lv_at hl 0 rfl) ?_
    refine lv_icmp_lt (pc := 24) (tgt := 29) hx hb dJ1_indexOf_4cfef_24 (by decide) (fun c6 => ?_) (fun c6 => ?_)
    · have hf := g_pos hf c6
      refine lv_aload_n hx hb dJ1_indexOf_4cfef_29 rfl (lv_at hl 2 rfl) ?_
      refine lv_iload_n hx hb dJ1_indexOf_4cfef_30 rfl (lv_at hl 3 rfl) ?_
      refine lv_iload_n hx hb dJ1_indexOf_4cfef_31 rfl (lv_at hl 1 rfl) ?_
      refine lv_iload_n hx hb dJ1_indexOf_4cfef_32 rfl (lv_at hl 0 rfl) ?_
      obtain ⟨r8, u7, hu7, hf⟩ := g_b2 hf
      refine ok_calloi (rest := []) F K (pJ1_indexOfChar_4cfef G (a0 := a0) ha0 hu7) mJ1_indexOfChar_4cfef lJ1_95 rfl hl.1 rfl ⟨⟨rfl, rfl⟩, Nat.le_of_ble_eq_true rfl, Nat.le_of_ble_eq_true rfl⟩ (Nat.le_of_ble_eq_true rfl) dJ1_indexOf_4cfef_33 (fun H locs K => ?_)
      exact ok_reti B K hf dJ1_indexOf_4cfef_36
    · have hf := g_neg hf c6
      refine lv_iconst (v := (-1)) hx hb dJ1_indexOf_4cfef_27 kI_m1 ?_
      exact ok_reti B K hf dJ1_indexOf_4cfef_28
  · have hf := g_pos hf c3
    refine lv_iconst (v := (-1)) hx hb dJ1_indexOf_4cfef_7 kI_m1 ?_
    exact ok_reti B K hf dJ1_indexOf_4cfef_8
abbrev rmJ0_indexOf_7cf53 : Room := { frames := 2, cells := 0, slots := 0, locals := 103 }
set_option maxRecDepth 100000 in
set_option maxHeartbeats 4000000 in
theorem pJ0_indexOf_7cf53 {l : Launch} (G : Gt) {k : Nat} (hk : k < 5) {a0 : Int32} {a1 : Int32} {r : Int32} {u u' : St} (hf : fJ0_indexOf_7cf53 k a0 a1 u = some (r, u')) : Ctr 0 76 l yJ0_indexOf_7cf53 cJ0_indexOf_7cf53 3 (some .int) rmJ0_indexOf_7cf53 [.ref (G.2.2.2.1 k), .int a0, .int a1] G u (some (.int r)) u' := by
  refine Ctr.mk (by decide) (Nat.le_of_ble_eq_true rfl) (fun p e s m below meth c A ls B K hl => ?_)
  have F := B.1
  have hx := F.1
  have hb := F.2.1
  have hl : lv_has ls 3 [(0, .ref (G.2.2.2.1 k)), (1, .int a0), (2, .int a1)] := hl
  unfold fJ0_indexOf_7cf53 at hf
  refine lv_aload_n hx hb dJ0_indexOf_7cf53_0 rfl (lv_at hl 0 rfl) ?_
  obtain ⟨r2, u1, hu1, hf⟩ := g_b2 hf
  refine ok_callki (rest := []) F K (pJ0_isLatin1_aae02 G (k := k) hk hu1) mJ0_isLatin1_aae02 hk lJ0_492 rfl hl.1 rfl ⟨⟨rfl, rfl⟩, Nat.le_of_ble_eq_true rfl, Nat.le_of_ble_eq_true rfl⟩ (Nat.le_of_ble_eq_true rfl) dJ0_indexOf_7cf53_1 (fun H locs K => ?_)
  refine lv_if_eq (pc := 4) (tgt := 23) hx hb dJ0_indexOf_7cf53_4 (by decide) (fun c3 => ?_) (fun c3 => ?_)
  · have hf := g_pos hf c3
    refine lv_aload_n hx hb dJ0_indexOf_7cf53_23 rfl (lv_at hl 0 rfl) ?_
    refine ok_sval F K hk kkJ0_9 dJ0_indexOf_7cf53_24 ?_
    refine lv_iload_n hx hb dJ0_indexOf_7cf53_27 rfl (lv_at hl 1 rfl) ?_
    refine lv_iload_n hx hb dJ0_indexOf_7cf53_28 rfl (lv_at hl 2 rfl) ?_
    refine lv_aload_n hx hb dJ0_indexOf_7cf53_29 rfl (lv_at hl 0 rfl) ?_
    obtain ⟨r5, u4, hu4, hf⟩ := g_b2 hf
    refine ok_callki (rest := [.int a1, .int a0, .ref (G.2.2.2.2.1 k)]) F K (pJ0_length_8abf5 G (k := k) hk hu4) mJ0_length_8abf5 hk lJ0_505 rfl hl.1 rfl ⟨⟨rfl, rfl⟩, Nat.le_of_ble_eq_true rfl, Nat.le_of_ble_eq_true rfl⟩ (Nat.le_of_ble_eq_true rfl) dJ0_indexOf_7cf53_30 (fun H locs K => ?_)
    exact g_no hf
  · have hf := g_neg hf c3
    refine lv_aload_n hx hb dJ0_indexOf_7cf53_7 rfl (lv_at hl 0 rfl) ?_
    refine ok_sval F K hk kkJ0_9 dJ0_indexOf_7cf53_8 ?_
    refine lv_iload_n hx hb dJ0_indexOf_7cf53_11 rfl (lv_at hl 1 rfl) ?_
    refine lv_iload_n hx hb dJ0_indexOf_7cf53_12 rfl (lv_at hl 2 rfl) ?_
    refine lv_aload_n hx hb dJ0_indexOf_7cf53_13 rfl (lv_at hl 0 rfl) ?_
    obtain ⟨r7, u6, hu6, hf⟩ := g_b2 hf
    refine ok_callki (rest := [.int a1, .int a0, .ref (G.2.2.2.2.1 k)]) F K (pJ0_length_8abf5 G (k := k) hk hu6) mJ0_length_8abf5 hk lJ0_505 rfl hl.1 rfl ⟨⟨rfl, rfl⟩, Nat.le_of_ble_eq_true rfl, Nat.le_of_ble_eq_true rfl⟩ (Nat.le_of_ble_eq_true rfl) dJ0_indexOf_7cf53_14 (fun H locs K => ?_)
    obtain ⟨r9, u8, hu8, hf⟩ := g_b2 hf
    refine ok_calloi (rest := []) F K (pJ1_indexOf_4cfef G (a0 := k) hk hu8) mJ1_indexOf_4cfef lJ0_637 rfl hl.1 rfl ⟨⟨rfl, rfl⟩, Nat.le_of_ble_eq_true rfl, Nat.le_of_ble_eq_true rfl⟩ (Nat.le_of_ble_eq_true rfl) dJ0_indexOf_7cf53_17 (fun H locs K => ?_)
    refine lv_goto (pc := 20) (tgt := 36) hx hb dJ0_indexOf_7cf53_20 (by decide) ?_
    exact ok_reti B K hf dJ0_indexOf_7cf53_36
abbrev rmJ0_indexOf_0f7a4 : Room := { frames := 3, cells := 0, slots := 0, locals := 125 }
set_option maxRecDepth 100000 in
set_option maxHeartbeats 4000000 in
theorem pJ0_indexOf_0f7a4 {l : Launch} (G : Gt) {k : Nat} (hk : k < 5) {a0 : Int32} {r : Int32} {u u' : St} (hf : fJ0_indexOf_0f7a4 k a0 u = some (r, u')) : Ctr 0 76 l yJ0_indexOf_0f7a4 cJ0_indexOf_0f7a4 2 (some .int) rmJ0_indexOf_0f7a4 [.ref (G.2.2.2.1 k), .int a0] G u (some (.int r)) u' := by
  refine Ctr.mk (by decide) (Nat.le_of_ble_eq_true rfl) (fun p e s m below meth c A ls B K hl => ?_)
  have F := B.1
  have hx := F.1
  have hb := F.2.1
  have hl : lv_has ls 2 [(0, .ref (G.2.2.2.1 k)), (1, .int a0)] := hl
  unfold fJ0_indexOf_0f7a4 at hf
  refine lv_aload_n hx hb dJ0_indexOf_0f7a4_0 rfl (lv_at hl 0 rfl) ?_
  refine lv_iload_n hx hb dJ0_indexOf_0f7a4_1 rfl (lv_at hl 1 rfl) ?_
  refine lv_iconst (v := 0) hx hb dJ0_indexOf_0f7a4_2 kI_0 ?_
  obtain ⟨r2, u1, hu1, hf⟩ := g_b2 hf
  refine ok_callki (rest := []) F K (pJ0_indexOf_7cf53 G (k := k) hk hu1) mJ0_indexOf_7cf53 hk lJ0_633 rfl hl.1 rfl ⟨⟨rfl, rfl⟩, Nat.le_of_ble_eq_true rfl, Nat.le_of_ble_eq_true rfl⟩ (Nat.le_of_ble_eq_true rfl) dJ0_indexOf_0f7a4_3 (fun H locs K => ?_)
  exact ok_reti B K hf dJ0_indexOf_0f7a4_6
abbrev rmX0_functionFits : Room := { frames := 0, cells := 0, slots := 0, locals := 0 }
set_option maxRecDepth 100000 in
set_option maxHeartbeats 4000000 in
theorem pX0_functionFits {l : Launch} (G : Gt) {r : Int32} {u u' : St} (hf : fX0_functionFits u = some (r, u')) : Ctr 0 76 l yX0_functionFits cX0_functionFits 1 (some .boolean) rmX0_functionFits [.ref (G.1 5)] G u (some (.int r)) u' := by
  refine Ctr.mk (by decide) (Nat.le_of_ble_eq_true rfl) (fun p e s m below meth c A ls B K hl => ?_)
  have F := B.1
  have hx := F.1
  have hb := F.2.1
  have hl : lv_has ls 1 [(0, .ref (G.1 5))] := hl
  unfold fX0_functionFits at hf
  refine lv_aload_n hx hb dX0_functionFits_0 rfl (lv_at hl 0 rfl) ?_
  refine ok_int F K fX0_71 dX0_functionFits_1 ?_
  refine lv_iconst (v := 5) hx hb dX0_functionFits_4 kI_5 ?_
  refine lv_icmp_gt (pc := 5) (tgt := 24) hx hb dX0_functionFits_5 (by decide) (fun c1 => ?_) (fun c1 => ?_)
  · have hf := g_pos hf c1
    refine lv_iconst (v := 0) hx hb dX0_functionFits_24 kI_0 ?_
    exact ok_retz B K hf (Or.inl rfl) dX0_functionFits_25
  · have hf := g_neg hf c1
    refine lv_aload_n hx hb dX0_functionFits_8 rfl (lv_at hl 0 rfl) ?_
    refine ok_ref F K fX0_34 dX0_functionFits_9 ?_
    refine ok_int F K fX0_133 dX0_functionFits_12 ?_
    refine lv_ldc (v := 200000000) hx hb F.2.2.2.1 (F.2.2.2.2 _ kcX0_138) dX0_functionFits_15 ?_
    refine lv_icmp_ge (pc := 17) (tgt := 24) hx hb dX0_functionFits_17 (by decide) (fun c2 => ?_) (fun c2 => ?_)
    · have hf := g_pos hf c2
      refine lv_iconst (v := 0) hx hb dX0_functionFits_24 kI_0 ?_
      exact ok_retz B K hf (Or.inl rfl) dX0_functionFits_25
    · have hf := g_neg hf c2
      refine lv_iconst (v := 1) hx hb dX0_functionFits_20 kI_1 ?_
      refine lv_goto (pc := 21) (tgt := 25) hx hb dX0_functionFits_21 (by decide) ?_
      exact ok_retz B K hf (Or.inr rfl) dX0_functionFits_25
abbrev rmX0_newVariable : Room := { frames := 0, cells := 0, slots := 0, locals := 0 }
set_option maxRecDepth 100000 in
set_option maxHeartbeats 4000000 in
theorem pX0_newVariable {l : Launch} (G : Gt) {r : Int32} {u u' : St} (hf : fX0_newVariable u = some (r, u')) : Ctr 0 76 l yX0_newVariable cX0_newVariable 1 (some .int) rmX0_newVariable [.ref (G.1 5)] G u (some (.int r)) u' := by
  refine Ctr.mk (by decide) (Nat.le_of_ble_eq_true rfl) (fun p e s m below meth c A ls B K hl => ?_)
  have F := B.1
  have hx := F.1
  have hb := F.2.1
  have hl : lv_has ls 1 [(0, .ref (G.1 5))] := hl
  unfold fX0_newVariable at hf
  refine lv_aload_n hx hb dX0_newVariable_0 rfl (lv_at hl 0 rfl) ?_
  refine lv_dup hx hb dX0_newVariable_1 rfl ?_
  refine ok_int F K fX0_74 dX0_newVariable_2 ?_
  refine lv_iconst (v := 1) hx hb dX0_newVariable_5 kI_1 ?_
  refine lv_iadd hx hb dX0_newVariable_6 ?_
  refine ok_putI F K qX0_74 dX0_newVariable_7 (fun u1 H locs eu1 K => ?_)
  have hf := g_lt hf u1 eu1
  refine lv_aload_n hx hb dX0_newVariable_10 rfl (lv_at hl 0 rfl) ?_
  refine ok_int F K fX0_71 dX0_newVariable_11 ?_
  refine lv_aload_n hx hb dX0_newVariable_14 rfl (lv_at hl 0 rfl) ?_
  refine ok_ref F K fX0_31 dX0_newVariable_15 ?_
  refine ok_alen (v := 290) F K t47 (by decide) (by decide) dX0_newVariable_18 ?_
  refine lv_icmp_ge (pc := 19) (tgt := 46) hx hb dX0_newVariable_19 (by decide) (fun c2 => ?_) (fun c2 => ?_)
  · have hf := g_pos hf c2
    refine lv_aload_n hx hb dX0_newVariable_46 rfl (lv_at hl 0 rfl) ?_
    refine ok_int F K fX0_74 dX0_newVariable_47 ?_
    refine lv_ineg hx hb dX0_newVariable_50 ?_
    exact ok_reti B K hf dX0_newVariable_51
  · have hf := g_neg hf c2
    refine lv_aload_n hx hb dX0_newVariable_22 rfl (lv_at hl 0 rfl) ?_
    refine ok_ref F K fX0_31 dX0_newVariable_23 ?_
    refine lv_aload_n hx hb dX0_newVariable_26 rfl (lv_at hl 0 rfl) ?_
    refine ok_int F K fX0_71 dX0_newVariable_27 ?_
    refine lv_aload_n hx hb dX0_newVariable_30 rfl (lv_at hl 0 rfl) ?_
    refine ok_int F K fX0_74 dX0_newVariable_31 ?_
    refine lv_ineg hx hb dX0_newVariable_34 ?_
    obtain ⟨u3, hu3, hf⟩ := g_bd hf
    refine ok_iast F K t47 hu3 dX0_newVariable_35 (fun H locs K => ?_)
    refine lv_aload_n hx hb dX0_newVariable_36 rfl (lv_at hl 0 rfl) ?_
    refine lv_dup hx hb dX0_newVariable_37 rfl ?_
    refine ok_int F K fX0_71 dX0_newVariable_38 ?_
    refine lv_iconst (v := 1) hx hb dX0_newVariable_41 kI_1 ?_
    refine lv_iadd hx hb dX0_newVariable_42 ?_
    refine ok_putI F K qX0_71 dX0_newVariable_43 (fun u4 H locs eu4 K => ?_)
    have hf := g_lt hf u4 eu4
    refine lv_aload_n hx hb dX0_newVariable_46 rfl (lv_at hl 0 rfl) ?_
    refine ok_int F K fX0_74 dX0_newVariable_47 ?_
    refine lv_ineg hx hb dX0_newVariable_50 ?_
    exact ok_reti B K hf dX0_newVariable_51
abbrev rmX0_enter : Room := { frames := 1, cells := 0, slots := 0, locals := 20 }
set_option maxRecDepth 100000 in
set_option maxHeartbeats 4000000 in
theorem pX0_enter_j26 {p : Program} {l : Launch} {e : Env} {s : State} {m : MethodId} {below : List Frame} {meth : Method} {c : Code} {A : Nat → Prop} {G : Gt} {a0 : Int32} {a1 : Int32} {u' : St} (B : Bd p s m [.ref (G.1 5), .int a0, .int a1] meth c yX0_enter cX0_enter 4 none) (x1_ : Int32) (x2_ : Int32) (u : St) (H : Heap) (locs : List Loc) (ls : Array Slot) (hf : fX0_enter_j26 x1_ x2_ u = some u') (K : Ok 0 76 G A s u H locs) (hl : lv_has ls 4 [(0, .ref (G.1 5)), (1, .int x1_), (2, .int x2_)]) : W p l e rmX0_enter s m ([.ref (G.1 5), .int a0, .int a1] : List Value).toArray below meth c H locs 0 0 (MQ below (Qg 0 76 G A none u') ([.ref (G.1 5), .int a0, .int a1] : List Value).toArray s 0 0 A) (F0 m 26 ls []) := by
  have F := B.1
  have hx := F.1
  have hb := F.2.1
  unfold fX0_enter_j26 at hf
  refine lv_aload_n hx hb dX0_enter_26 rfl (lv_at hl 0 rfl) ?_
  refine ok_ref F K fX0_22 dX0_enter_27 ?_
  refine lv_aload_n hx hb dX0_enter_30 rfl (lv_at hl 0 rfl) ?_
  refine ok_int F K fX0_68 dX0_enter_31 ?_
  refine lv_iload_n hx hb dX0_enter_34 rfl (lv_at hl 1 rfl) ?_
  obtain ⟨u1, hu1, hf⟩ := g_bd hf
  refine ok_iast F K t44 hu1 dX0_enter_35 (fun H locs K => ?_)
  refine lv_aload_n hx hb dX0_enter_36 rfl (lv_at hl 0 rfl) ?_
  refine ok_ref F K fX0_25 dX0_enter_37 ?_
  refine lv_aload_n hx hb dX0_enter_40 rfl (lv_at hl 0 rfl) ?_
  refine ok_int F K fX0_68 dX0_enter_41 ?_
  refine lv_aload_n hx hb dX0_enter_44 rfl (lv_at hl 0 rfl) ?_
  refine ok_ref F K fX0_19 dX0_enter_45 ?_
  refine lv_iload_n hx hb dX0_enter_48 rfl (lv_at hl 1 rfl) ?_
  obtain ⟨v2, hv2, hf⟩ := g_bd hf
  refine ok_iald F K t43 hv2 dX0_enter_49 ?_
  obtain ⟨u3, hu3, hf⟩ := g_bd hf
  refine ok_iast F K t45 hu3 dX0_enter_50 (fun H locs K => ?_)
  refine lv_aload_n hx hb dX0_enter_51 rfl (lv_at hl 0 rfl) ?_
  refine ok_ref F K fX0_28 dX0_enter_52 ?_
  refine lv_aload_n hx hb dX0_enter_55 rfl (lv_at hl 0 rfl) ?_
  refine ok_int F K fX0_68 dX0_enter_56 ?_
  refine lv_aload_n hx hb dX0_enter_59 rfl (lv_at hl 0 rfl) ?_
  refine ok_int F K fX0_71 dX0_enter_60 ?_
  obtain ⟨u4, hu4, hf⟩ := g_bd hf
  refine ok_iast F K t46 hu4 dX0_enter_63 (fun H locs K => ?_)
  refine lv_aload_n hx hb dX0_enter_64 rfl (lv_at hl 0 rfl) ?_
  refine lv_dup hx hb dX0_enter_65 rfl ?_
  refine ok_int F K fX0_68 dX0_enter_66 ?_
  refine lv_iconst (v := 1) hx hb dX0_enter_69 kI_1 ?_
  refine lv_iadd hx hb dX0_enter_70 ?_
  refine ok_putI F K qX0_68 dX0_enter_71 (fun u5 H locs eu5 K => ?_)
  have hf := g_lt hf u5 eu5
  refine lv_iload_n hx hb dX0_enter_74 rfl (lv_at hl 2 rfl) ?_
  refine lv_if_eq (pc := 75) (tgt := 91) hx hb dX0_enter_75 (by decide) (fun c6 => ?_) (fun c6 => ?_)
  · have hf := g_pos hf c6
    refine lv_aload_n hx hb dX0_enter_91 rfl (lv_at hl 0 rfl) ?_
    refine ok_ref F K fX0_34 dX0_enter_92 ?_
    refine lv_dup hx hb dX0_enter_95 rfl ?_
    refine ok_int F K fX0_133 dX0_enter_96 ?_
    refine lv_iconst (v := 1) hx hb dX0_enter_99 kI_1 ?_
    refine lv_iadd hx hb dX0_enter_100 ?_
    refine ok_putI F K qX0_133 dX0_enter_101 (fun u7 H locs eu7 K => ?_)
    have hf := g_lt hf u7 eu7
    refine lv_sipush (v := 4096) hx hb dX0_enter_104 kS_4096 ?_
    refine lv_aload_n hx hb dX0_enter_107 rfl (lv_at hl 0 rfl) ?_
    refine ok_ref F K fX0_34 dX0_enter_108 ?_
    refine ok_int F K fX0_133 dX0_enter_111 ?_
    refine lv_iadd hx hb dX0_enter_114 ?_
    refine lv_topi (fun x8 ex8 => ?_)
    have hf := g_lt hf x8 ex8
    refine lv_istore_n (lv' := [(3, .int x8), (0, .ref (G.1 5)), (1, .int x1_), (2, .int x2_)]) hx hb dX0_enter_115 rfl hl (by decide) rfl (fun ls hl => ?_)
    refine lv_aload_n hx hb dX0_enter_116 rfl (lv_at hl 1 rfl) ?_
    refine ok_ref F K fX0_19 dX0_enter_117 ?_
    refine lv_iload_n hx hb dX0_enter_120 rfl (lv_at hl 2 rfl) ?_
    refine lv_iload_n hx hb dX0_enter_121 rfl (lv_at hl 0 rfl) ?_
    refine lv_iconst (v := 3) hx hb dX0_enter_122 kI_3 ?_
    refine lv_ishl hx hb dX0_enter_123 ?_
    refine lv_aload_n hx hb dX0_enter_124 rfl (lv_at hl 1 rfl) ?_
    refine ok_int F K fX0_71 dX0_enter_125 ?_
    refine lv_ior hx hb dX0_enter_128 ?_
    obtain ⟨u9, hu9, hf⟩ := g_bd hf
    refine ok_iast F K t43 hu9 dX0_enter_129 (fun H locs K => ?_)
    exact ok_retv B K hf dX0_enter_130
  · have hf := g_neg hf c6
    refine lv_aload_n hx hb dX0_enter_78 rfl (lv_at hl 0 rfl) ?_
    refine ok_ref F K fX0_19 dX0_enter_79 ?_
    refine lv_iload_n hx hb dX0_enter_82 rfl (lv_at hl 1 rfl) ?_
    refine lv_aload_n hx hb dX0_enter_83 rfl (lv_at hl 0 rfl) ?_
    obtain ⟨r11, u10, hu10, hf⟩ := g_b2 hf
    refine ok_calli (rest := [.int x1_, .ref (G.1 43)]) F K (pX0_newVariable G hu10) mX0_newVariable oc5 lX0_80 rfl hl.1 rfl ⟨⟨rfl, rfl⟩, Nat.le_of_ble_eq_true rfl, Nat.le_of_ble_eq_true rfl⟩ (Nat.le_of_ble_eq_true rfl) dX0_enter_84 (fun H locs K => ?_)
    obtain ⟨u12, hu12, hf⟩ := g_bd hf
    refine ok_iast F K t43 hu12 dX0_enter_87 (fun H locs K => ?_)
    refine lv_goto (pc := 88) (tgt := 130) hx hb dX0_enter_88 (by decide) ?_
    exact ok_retv B K hf dX0_enter_130
set_option maxRecDepth 100000 in
set_option maxHeartbeats 4000000 in
theorem pX0_enter {l : Launch} (G : Gt) {a0 : Int32} {a1 : Int32} {u u' : St} (hf : fX0_enter a0 a1 u = some u') : Ctr 0 76 l yX0_enter cX0_enter 4 none rmX0_enter [.ref (G.1 5), .int a0, .int a1] G u none u' := by
  refine Ctr.mk (by decide) (Nat.le_of_ble_eq_true rfl) (fun p e s m below meth c A ls B K hl => ?_)
  have F := B.1
  have hx := F.1
  have hb := F.2.1
  have hl : lv_has ls 4 [(0, .ref (G.1 5)), (1, .int a0), (2, .int a1)] := hl
  unfold fX0_enter at hf
  refine lv_aload_n hx hb dX0_enter_0 rfl (lv_at hl 0 rfl) ?_
  refine ok_int F K fX0_68 dX0_enter_1 ?_
  refine lv_bipush (v := 40) hx hb dX0_enter_4 kB_40 ?_
  refine lv_icmp_ge (pc := 6) (tgt := 20) hx hb dX0_enter_6 (by decide) (fun c13 => ?_) (fun c13 => ?_)
  · have hf := g_pos hf c13
    refine lv_aload_n hx hb dX0_enter_20 rfl (lv_at hl 0 rfl) ?_
    refine lv_iconst (v := 1) hx hb dX0_enter_21 kI_1 ?_
    refine ok_putZ F K qX0_64 (Or.inr rfl) dX0_enter_22 (fun u14 H locs eu14 K => ?_)
    have hf := g_lt hf u14 eu14
    exact ok_retv B K hf dX0_enter_25
  · have hf := g_neg hf c13
    refine lv_iload_n hx hb dX0_enter_9 rfl (lv_at hl 2 rfl) ?_
    refine lv_if_ne (pc := 10) (tgt := 26) hx hb dX0_enter_10 (by decide) (fun c15 => ?_) (fun c15 => ?_)
    · have hf := g_neg hf c15
      exact pX0_enter_j26  B a0 a1 u _ _ _ hf K (lv_sub hl [0, 1, 2] rfl)
    · have hf := g_pos hf c15
      refine lv_aload_n hx hb dX0_enter_13 rfl (lv_at hl 0 rfl) ?_
      obtain ⟨r17, u16, hu16, hf⟩ := g_b2 hf
      refine ok_calli (rest := []) F K (pX0_functionFits G hu16) mX0_functionFits oc5 lX0_130 rfl hl.1 rfl ⟨⟨rfl, rfl⟩, Nat.le_of_ble_eq_true rfl, Nat.le_of_ble_eq_true rfl⟩ (Nat.le_of_ble_eq_true rfl) dX0_enter_14 (fun H locs K => ?_)
      refine lv_if_ne (pc := 17) (tgt := 26) hx hb dX0_enter_17 (by decide) (fun c18 => ?_) (fun c18 => ?_)
      · have hf := g_neg hf c18
        exact pX0_enter_j26  B a0 a1 u16 _ _ _ hf K (lv_sub hl [0, 1, 2] rfl)
      · have hf := g_pos hf c18
        refine lv_aload_n hx hb dX0_enter_20 rfl (lv_at hl 0 rfl) ?_
        refine lv_iconst (v := 1) hx hb dX0_enter_21 kI_1 ?_
        refine ok_putZ F K qX0_64 (Or.inr rfl) dX0_enter_22 (fun u19 H locs eu19 K => ?_)
        have hf := g_lt hf u19 eu19
        exact ok_retv B K hf dX0_enter_25
abbrev rmX0_leave : Room := { frames := 0, cells := 0, slots := 0, locals := 0 }
set_option maxRecDepth 100000 in
set_option maxHeartbeats 4000000 in
theorem pX0_leave {l : Launch} (G : Gt) {u u' : St} (hf : fX0_leave u = some u') : Ctr 0 76 l yX0_leave cX0_leave 1 none rmX0_leave [.ref (G.1 5)] G u none u' := by
  refine Ctr.mk (by decide) (Nat.le_of_ble_eq_true rfl) (fun p e s m below meth c A ls B K hl => ?_)
  have F := B.1
  have hx := F.1
  have hb := F.2.1
  have hl : lv_has ls 1 [(0, .ref (G.1 5))] := hl
  unfold fX0_leave at hf
  refine lv_aload_n hx hb dX0_leave_0 rfl (lv_at hl 0 rfl) ?_
  refine ok_int F K fX0_68 dX0_leave_1 ?_
  refine lv_if_le (pc := 4) (tgt := 53) hx hb dX0_leave_4 (by decide) (fun c1 => ?_) (fun c1 => ?_)
  · have hf := g_pos hf c1
    exact ok_retv B K hf dX0_leave_53
  · have hf := g_neg hf c1
    refine lv_aload_n hx hb dX0_leave_7 rfl (lv_at hl 0 rfl) ?_
    refine lv_dup hx hb dX0_leave_8 rfl ?_
    refine ok_int F K fX0_68 dX0_leave_9 ?_
    refine lv_iconst (v := 1) hx hb dX0_leave_12 kI_1 ?_
    refine lv_isub hx hb dX0_leave_13 ?_
    refine ok_putI F K qX0_68 dX0_leave_14 (fun u2 H locs eu2 K => ?_)
    have hf := g_lt hf u2 eu2
    refine lv_aload_n hx hb dX0_leave_17 rfl (lv_at hl 0 rfl) ?_
    refine ok_ref F K fX0_19 dX0_leave_18 ?_
    refine lv_aload_n hx hb dX0_leave_21 rfl (lv_at hl 0 rfl) ?_
    refine ok_ref F K fX0_22 dX0_leave_22 ?_
    refine lv_aload_n hx hb dX0_leave_25 rfl (lv_at hl 0 rfl) ?_
    refine ok_int F K fX0_68 dX0_leave_26 ?_
    obtain ⟨v3, hv3, hf⟩ := g_bd hf
    refine ok_iald F K t44 hv3 dX0_leave_29 ?_
    refine lv_aload_n hx hb dX0_leave_30 rfl (lv_at hl 0 rfl) ?_
    refine ok_ref F K fX0_25 dX0_leave_31 ?_
    refine lv_aload_n hx hb dX0_leave_34 rfl (lv_at hl 0 rfl) ?_
    refine ok_int F K fX0_68 dX0_leave_35 ?_
    obtain ⟨v4, hv4, hf⟩ := g_bd hf
    refine ok_iald F K t45 hv4 dX0_leave_38 ?_
    obtain ⟨u5, hu5, hf⟩ := g_bd hf
    refine ok_iast F K t43 hu5 dX0_leave_39 (fun H locs K => ?_)
    refine lv_aload_n hx hb dX0_leave_40 rfl (lv_at hl 0 rfl) ?_
    refine lv_aload_n hx hb dX0_leave_41 rfl (lv_at hl 0 rfl) ?_
    refine ok_ref F K fX0_28 dX0_leave_42 ?_
    refine lv_aload_n hx hb dX0_leave_45 rfl (lv_at hl 0 rfl) ?_
    refine ok_int F K fX0_68 dX0_leave_46 ?_
    obtain ⟨v6, hv6, hf⟩ := g_bd hf
    refine ok_iald F K t46 hv6 dX0_leave_49 ?_
    refine ok_putI F K qX0_71 dX0_leave_50 (fun u7 H locs eu7 K => ?_)
    have hf := g_lt hf u7 eu7
    exact ok_retv B K hf dX0_leave_53
abbrev rmX10_beginLiteral : Room := { frames := 0, cells := 0, slots := 0, locals := 0 }
set_option maxRecDepth 100000 in
set_option maxHeartbeats 4000000 in
theorem pX10_beginLiteral {l : Launch} (G : Gt) {a0 : Int32} {r : Int32} {u u' : St} (hf : fX10_beginLiteral a0 u = some (r, u')) : Ctr 0 76 l yX10_beginLiteral cX10_beginLiteral 2 (some .boolean) rmX10_beginLiteral [.ref (G.1 6), .int a0] G u (some (.int r)) u' := by
  refine Ctr.mk (by decide) (Nat.le_of_ble_eq_true rfl) (fun p e s m below meth c A ls B K hl => ?_)
  have F := B.1
  have hx := F.1
  have hb := F.2.1
  have hl : lv_has ls 2 [(0, .ref (G.1 6)), (1, .int a0)] := hl
  unfold fX10_beginLiteral at hf
  refine lv_aload_n hx hb dX10_beginLiteral_0 rfl (lv_at hl 0 rfl) ?_
  refine ok_int F K fX10_44 dX10_beginLiteral_1 ?_
  refine lv_sipush (v := 600) hx hb dX10_beginLiteral_4 kS_600 ?_
  refine lv_icmp_lt (pc := 7) (tgt := 12) hx hb dX10_beginLiteral_7 (by decide) (fun c1 => ?_) (fun c1 => ?_)
  · have hf := g_pos hf c1
    refine lv_aload_n hx hb dX10_beginLiteral_12 rfl (lv_at hl 0 rfl) ?_
    refine ok_ref F K fX10_16 dX10_beginLiteral_13 ?_
    refine lv_aload_n hx hb dX10_beginLiteral_16 rfl (lv_at hl 0 rfl) ?_
    refine ok_int F K fX10_44 dX10_beginLiteral_17 ?_
    refine lv_iload_n hx hb dX10_beginLiteral_20 rfl (lv_at hl 1 rfl) ?_
    obtain ⟨z3, hz3, hf⟩ := g_bd hf
    obtain ⟨u2, hu2, hf⟩ := g_bd hf
    refine ok_zast F K t50 (g_zb hz3).2 hu2 dX10_beginLiteral_21 (fun H locs K => ?_)
    refine lv_iconst (v := 1) hx hb dX10_beginLiteral_22 kI_1 ?_
    exact ok_retz B K hf (Or.inr rfl) dX10_beginLiteral_23
  · have hf := g_neg hf c1
    refine lv_iconst (v := 0) hx hb dX10_beginLiteral_10 kI_0 ?_
    exact ok_retz B K hf (Or.inl rfl) dX10_beginLiteral_11
abbrev rmX10_addCell : Room := { frames := 0, cells := 0, slots := 0, locals := 0 }
set_option maxRecDepth 100000 in
set_option maxHeartbeats 4000000 in
theorem pX10_addCell {l : Launch} (G : Gt) {a0 : Int32} {u u' : St} (hf : fX10_addCell a0 u = some u') : Ctr 0 76 l yX10_addCell cX10_addCell 2 none rmX10_addCell [.ref (G.1 6), .int a0] G u none u' := by
  refine Ctr.mk (by decide) (Nat.le_of_ble_eq_true rfl) (fun p e s m below meth c A ls B K hl => ?_)
  have F := B.1
  have hx := F.1
  have hb := F.2.1
  have hl : lv_has ls 2 [(0, .ref (G.1 6)), (1, .int a0)] := hl
  unfold fX10_addCell at hf
  refine lv_aload_n hx hb dX10_addCell_0 rfl (lv_at hl 0 rfl) ?_
  refine ok_int F K fX10_40 dX10_addCell_1 ?_
  refine lv_sipush (v := 18000) hx hb dX10_addCell_4 kS_18000 ?_
  refine lv_icmp_ge (pc := 7) (tgt := 30) hx hb dX10_addCell_7 (by decide) (fun c1 => ?_) (fun c1 => ?_)
  · have hf := g_pos hf c1
    exact ok_retv B K hf dX10_addCell_30
  · have hf := g_neg hf c1
    refine lv_aload_n hx hb dX10_addCell_10 rfl (lv_at hl 0 rfl) ?_
    refine ok_ref F K fX10_9 dX10_addCell_11 ?_
    refine lv_aload_n hx hb dX10_addCell_14 rfl (lv_at hl 0 rfl) ?_
    refine ok_int F K fX10_40 dX10_addCell_15 ?_
    refine lv_iload_n hx hb dX10_addCell_18 rfl (lv_at hl 1 rfl) ?_
    obtain ⟨u2, hu2, hf⟩ := g_bd hf
    refine ok_iast F K t48 hu2 dX10_addCell_19 (fun H locs K => ?_)
    refine lv_aload_n hx hb dX10_addCell_20 rfl (lv_at hl 0 rfl) ?_
    refine lv_dup hx hb dX10_addCell_21 rfl ?_
    refine ok_int F K fX10_40 dX10_addCell_22 ?_
    refine lv_iconst (v := 1) hx hb dX10_addCell_25 kI_1 ?_
    refine lv_iadd hx hb dX10_addCell_26 ?_
    refine ok_putI F K qX10_40 dX10_addCell_27 (fun u3 H locs eu3 K => ?_)
    have hf := g_lt hf u3 eu3
    exact ok_retv B K hf dX10_addCell_30
abbrev rmX10_endClause : Room := { frames := 0, cells := 0, slots := 0, locals := 0 }
set_option maxRecDepth 100000 in
set_option maxHeartbeats 4000000 in
theorem pX10_endClause {l : Launch} (G : Gt) {r : Int32} {u u' : St} (hf : fX10_endClause u = some (r, u')) : Ctr 0 76 l yX10_endClause cX10_endClause 1 (some .boolean) rmX10_endClause [.ref (G.1 6)] G u (some (.int r)) u' := by
  refine Ctr.mk (by decide) (Nat.le_of_ble_eq_true rfl) (fun p e s m below meth c A ls B K hl => ?_)
  have F := B.1
  have hx := F.1
  have hb := F.2.1
  have hl : lv_has ls 1 [(0, .ref (G.1 6))] := hl
  unfold fX10_endClause at hf
  refine lv_aload_n hx hb dX10_endClause_0 rfl (lv_at hl 0 rfl) ?_
  refine ok_int F K fX10_47 dX10_endClause_1 ?_
  refine lv_sipush (v := 600) hx hb dX10_endClause_4 kS_600 ?_
  refine lv_icmp_lt (pc := 7) (tgt := 12) hx hb dX10_endClause_7 (by decide) (fun c1 => ?_) (fun c1 => ?_)
  · have hf := g_pos hf c1
    refine lv_aload_n hx hb dX10_endClause_12 rfl (lv_at hl 0 rfl) ?_
    refine lv_dup hx hb dX10_endClause_13 rfl ?_
    refine ok_int F K fX10_47 dX10_endClause_14 ?_
    refine lv_iconst (v := 1) hx hb dX10_endClause_17 kI_1 ?_
    refine lv_iadd hx hb dX10_endClause_18 ?_
    refine ok_putI F K qX10_47 dX10_endClause_19 (fun u2 H locs eu2 K => ?_)
    have hf := g_lt hf u2 eu2
    refine lv_aload_n hx hb dX10_endClause_22 rfl (lv_at hl 0 rfl) ?_
    refine ok_ref F K fX10_23 dX10_endClause_23 ?_
    refine lv_aload_n hx hb dX10_endClause_26 rfl (lv_at hl 0 rfl) ?_
    refine ok_int F K fX10_47 dX10_endClause_27 ?_
    refine lv_aload_n hx hb dX10_endClause_30 rfl (lv_at hl 0 rfl) ?_
    refine ok_int F K fX10_53 dX10_endClause_31 ?_
    obtain ⟨u3, hu3, hf⟩ := g_bd hf
    refine ok_iast F K t52 hu3 dX10_endClause_34 (fun H locs K => ?_)
    refine lv_iconst (v := 1) hx hb dX10_endClause_35 kI_1 ?_
    exact ok_retz B K hf (Or.inr rfl) dX10_endClause_36
  · have hf := g_neg hf c1
    refine lv_iconst (v := 0) hx hb dX10_endClause_10 kI_0 ?_
    exact ok_retz B K hf (Or.inl rfl) dX10_endClause_11
abbrev rmX10_pushSet : Room := { frames := 0, cells := 0, slots := 0, locals := 0 }
set_option maxRecDepth 100000 in
set_option maxHeartbeats 4000000 in
theorem pX10_pushSet {l : Launch} (G : Gt) {a0 : Int32} {r : Int32} {u u' : St} (hf : fX10_pushSet a0 u = some (r, u')) : Ctr 0 76 l yX10_pushSet cX10_pushSet 2 (some .boolean) rmX10_pushSet [.ref (G.1 6), .int a0] G u (some (.int r)) u' := by
  refine Ctr.mk (by decide) (Nat.le_of_ble_eq_true rfl) (fun p e s m below meth c A ls B K hl => ?_)
  have F := B.1
  have hx := F.1
  have hb := F.2.1
  have hl : lv_has ls 2 [(0, .ref (G.1 6)), (1, .int a0)] := hl
  unfold fX10_pushSet at hf
  refine lv_aload_n hx hb dX10_pushSet_0 rfl (lv_at hl 0 rfl) ?_
  refine ok_int F K fX10_50 dX10_pushSet_1 ?_
  refine lv_sipush (v := 400) hx hb dX10_pushSet_4 kS_400 ?_
  refine lv_icmp_lt (pc := 7) (tgt := 12) hx hb dX10_pushSet_7 (by decide) (fun c1 => ?_) (fun c1 => ?_)
  · have hf := g_pos hf c1
    refine lv_aload_n hx hb dX10_pushSet_12 rfl (lv_at hl 0 rfl) ?_
    refine ok_ref F K fX10_26 dX10_pushSet_13 ?_
    refine lv_aload_n hx hb dX10_pushSet_16 rfl (lv_at hl 0 rfl) ?_
    refine ok_int F K fX10_50 dX10_pushSet_17 ?_
    refine lv_iload_n hx hb dX10_pushSet_20 rfl (lv_at hl 1 rfl) ?_
    obtain ⟨u2, hu2, hf⟩ := g_bd hf
    refine ok_iast F K t53 hu2 dX10_pushSet_21 (fun H locs K => ?_)
    refine lv_aload_n hx hb dX10_pushSet_22 rfl (lv_at hl 0 rfl) ?_
    refine ok_ref F K fX10_29 dX10_pushSet_23 ?_
    refine lv_aload_n hx hb dX10_pushSet_26 rfl (lv_at hl 0 rfl) ?_
    refine ok_int F K fX10_50 dX10_pushSet_27 ?_
    refine lv_aload_n hx hb dX10_pushSet_30 rfl (lv_at hl 0 rfl) ?_
    refine ok_int F K fX10_47 dX10_pushSet_31 ?_
    obtain ⟨u3, hu3, hf⟩ := g_bd hf
    refine ok_iast F K t54 hu3 dX10_pushSet_34 (fun H locs K => ?_)
    refine lv_aload_n hx hb dX10_pushSet_35 rfl (lv_at hl 0 rfl) ?_
    refine lv_dup hx hb dX10_pushSet_36 rfl ?_
    refine ok_int F K fX10_50 dX10_pushSet_37 ?_
    refine lv_iconst (v := 1) hx hb dX10_pushSet_40 kI_1 ?_
    refine lv_iadd hx hb dX10_pushSet_41 ?_
    refine ok_putI F K qX10_50 dX10_pushSet_42 (fun u4 H locs eu4 K => ?_)
    have hf := g_lt hf u4 eu4
    refine lv_iconst (v := 1) hx hb dX10_pushSet_45 kI_1 ?_
    exact ok_retz B K hf (Or.inr rfl) dX10_pushSet_46
  · have hf := g_neg hf c1
    refine lv_iconst (v := 0) hx hb dX10_pushSet_10 kI_0 ?_
    exact ok_retz B K hf (Or.inl rfl) dX10_pushSet_11
abbrev rmX10_endLiteral : Room := { frames := 1, cells := 0, slots := 0, locals := 21 }
set_option maxRecDepth 100000 in
set_option maxHeartbeats 4000000 in
theorem pX10_endLiteral {l : Launch} (G : Gt) {r : Int32} {u u' : St} (hf : fX10_endLiteral u = some (r, u')) : Ctr 0 76 l yX10_endLiteral cX10_endLiteral 2 (some .boolean) rmX10_endLiteral [.ref (G.1 6)] G u (some (.int r)) u' := by
  refine Ctr.mk (by decide) (Nat.le_of_ble_eq_true rfl) (fun p e s m below meth c A ls B K hl => ?_)
  have F := B.1
  have hx := F.1
  have hb := F.2.1
  have hl : lv_has ls 2 [(0, .ref (G.1 6))] := hl
  unfold fX10_endLiteral at hf
  refine lv_aload_n hx hb dX10_endLiteral_0 rfl (lv_at hl 0 rfl) ?_
  refine lv_dup hx hb dX10_endLiteral_1 rfl ?_
  refine ok_int F K fX10_44 dX10_endLiteral_2 ?_
  refine lv_iconst (v := 1) hx hb dX10_endLiteral_5 kI_1 ?_
  refine lv_iadd hx hb dX10_endLiteral_6 ?_
  refine ok_putI F K qX10_44 dX10_endLiteral_7 (fun u1 H locs eu1 K => ?_)
  have hf := g_lt hf u1 eu1
  refine lv_aload_n hx hb dX10_endLiteral_10 rfl (lv_at hl 0 rfl) ?_
  refine ok_ref F K fX10_13 dX10_endLiteral_11 ?_
  refine lv_aload_n hx hb dX10_endLiteral_14 rfl (lv_at hl 0 rfl) ?_
  refine ok_int F K fX10_44 dX10_endLiteral_15 ?_
  refine lv_aload_n hx hb dX10_endLiteral_18 rfl (lv_at hl 0 rfl) ?_
  refine ok_int F K fX10_40 dX10_endLiteral_19 ?_
  obtain ⟨u2, hu2, hf⟩ := g_bd hf
  refine ok_iast F K t49 hu2 dX10_endLiteral_22 (fun H locs K => ?_)
  refine lv_aload_n hx hb dX10_endLiteral_23 rfl (lv_at hl 0 rfl) ?_
  refine ok_int F K fX10_53 dX10_endLiteral_24 ?_
  refine lv_sipush (v := 6000) hx hb dX10_endLiteral_27 kS_6000 ?_
  refine lv_icmp_lt (pc := 30) (tgt := 35) hx hb dX10_endLiteral_30 (by decide) (fun c3 => ?_) (fun c3 => ?_)
  · have hf := g_pos hf c3
    refine lv_aload_n hx hb dX10_endLiteral_35 rfl (lv_at hl 0 rfl) ?_
    refine ok_int F K fX10_47 dX10_endLiteral_36 ?_
    refine lv_topi (fun x4 ex4 => ?_)
    have hf := g_lt hf x4 ex4
    refine lv_istore_n (lv' := [(1, .int x4), (0, .ref (G.1 6))]) hx hb dX10_endLiteral_39 rfl hl (by decide) rfl (fun ls hl => ?_)
    refine lv_aload_n hx hb dX10_endLiteral_40 rfl (lv_at hl 1 rfl) ?_
    refine ok_ref F K fX10_20 dX10_endLiteral_41 ?_
    refine lv_aload_n hx hb dX10_endLiteral_44 rfl (lv_at hl 1 rfl) ?_
    refine ok_int F K fX10_53 dX10_endLiteral_45 ?_
    refine lv_aload_n hx hb dX10_endLiteral_48 rfl (lv_at hl 1 rfl) ?_
    refine ok_int F K fX10_44 dX10_endLiteral_49 ?_
    refine lv_iconst (v := 1) hx hb dX10_endLiteral_52 kI_1 ?_
    refine lv_isub hx hb dX10_endLiteral_53 ?_
    obtain ⟨u5, hu5, hf⟩ := g_bd hf
    refine ok_iast F K t51 hu5 dX10_endLiteral_54 (fun H locs K => ?_)
    refine lv_aload_n hx hb dX10_endLiteral_55 rfl (lv_at hl 1 rfl) ?_
    refine lv_dup hx hb dX10_endLiteral_56 rfl ?_
    refine ok_int F K fX10_53 dX10_endLiteral_57 ?_
    refine lv_iconst (v := 1) hx hb dX10_endLiteral_60 kI_1 ?_
    refine lv_iadd hx hb dX10_endLiteral_61 ?_
    refine ok_putI F K qX10_53 dX10_endLiteral_62 (fun u6 H locs eu6 K => ?_)
    have hf := g_lt hf u6 eu6
    refine lv_aload_n hx hb dX10_endLiteral_65 rfl (lv_at hl 1 rfl) ?_
    obtain ⟨r8, u7, hu7, hf⟩ := g_b2 hf
    refine ok_calli (rest := []) F K (pX10_endClause G hu7) mX10_endClause oc6 lX10_56 rfl hl.1 rfl ⟨⟨rfl, rfl⟩, Nat.le_of_ble_eq_true rfl, Nat.le_of_ble_eq_true rfl⟩ (Nat.le_of_ble_eq_true rfl) dX10_endLiteral_66 (fun H locs K => ?_)
    refine lv_if_eq (pc := 69) (tgt := 84) hx hb dX10_endLiteral_69 (by decide) (fun c9 => ?_) (fun c9 => ?_)
    · have hf := g_pos hf c9
      refine lv_iconst (v := 0) hx hb dX10_endLiteral_84 kI_0 ?_
      exact ok_retz B K hf (Or.inl rfl) dX10_endLiteral_85
    · have hf := g_neg hf c9
      refine lv_aload_n hx hb dX10_endLiteral_72 rfl (lv_at hl 1 rfl) ?_
      refine lv_iload_n hx hb dX10_endLiteral_73 rfl (lv_at hl 0 rfl) ?_
      obtain ⟨r11, u10, hu10, hf⟩ := g_b2 hf
      refine ok_calli (rest := []) F K (pX10_pushSet G hu10) mX10_pushSet oc6 lX10_60 rfl hl.1 rfl ⟨⟨rfl, rfl⟩, Nat.le_of_ble_eq_true rfl, Nat.le_of_ble_eq_true rfl⟩ (Nat.le_of_ble_eq_true rfl) dX10_endLiteral_74 (fun H locs K => ?_)
      refine lv_if_eq (pc := 77) (tgt := 84) hx hb dX10_endLiteral_77 (by decide) (fun c12 => ?_) (fun c12 => ?_)
      · have hf := g_pos hf c12
        refine lv_iconst (v := 0) hx hb dX10_endLiteral_84 kI_0 ?_
        exact ok_retz B K hf (Or.inl rfl) dX10_endLiteral_85
      · have hf := g_neg hf c12
        refine lv_iconst (v := 1) hx hb dX10_endLiteral_80 kI_1 ?_
        refine lv_goto (pc := 81) (tgt := 85) hx hb dX10_endLiteral_81 (by decide) ?_
        exact ok_retz B K hf (Or.inr rfl) dX10_endLiteral_85
  · have hf := g_neg hf c3
    refine lv_iconst (v := 0) hx hb dX10_endLiteral_33 kI_0 ?_
    exact ok_retz B K hf (Or.inl rfl) dX10_endLiteral_34
abbrev rmX0_literal : Room := { frames := 2, cells := 0, slots := 0, locals := 42 }
set_option maxRecDepth 100000 in
set_option maxHeartbeats 4000000 in
theorem pX0_literal_L0 {p : Program} {l : Launch} {e : Env} {s : State} {m : MethodId} {below : List Frame} {meth : Method} {c : Code} {A : Nat → Prop} {G : Gt} {a0 : Int32} {a1 : Int32} {a2 : Int32} {u' : St} (B : Bd p s m [.ref (G.1 5), .int a0, .int a1, .int a2] meth c yX0_literal cX0_literal 9 none) (n : Nat) : (∀ (x2_ : Int32) (x4_ : Int32) (u : St) (H : Heap) (locs : List Loc) (ls : Array Slot), fX0_literal_L0  n 0 x2_ x4_ 0 0 u = some u' → Ok 0 76 G A s u H locs → lv_has ls 9 [(0, .ref (G.1 5)), (2, .int x2_), (4, .int x4_)] → W p l e rmX0_literal s m ([.ref (G.1 5), .int a0, .int a1, .int a2] : List Value).toArray below meth c H locs 0 0 (MQ below (Qg 0 76 G A none u') ([.ref (G.1 5), .int a0, .int a1, .int a2] : List Value).toArray s 0 0 A) (F0 m 20 ls [])) ∧ (∀ (x2_ : Int32) (x4_ : Int32) (x7_ : Int32) (x8_ : Int32) (u : St) (H : Heap) (locs : List Loc) (ls : Array Slot), fX0_literal_L0  n 1 x2_ x4_ x7_ x8_ u = some u' → Ok 0 76 G A s u H locs → lv_has ls 9 [(0, .ref (G.1 5)), (2, .int x2_), (4, .int x4_), (7, .int x7_), (8, .int x8_)] → W p l e rmX0_literal s m ([.ref (G.1 5), .int a0, .int a1, .int a2] : List Value).toArray below meth c H locs 0 0 (MQ below (Qg 0 76 G A none u') ([.ref (G.1 5), .int a0, .int a1, .int a2] : List Value).toArray s 0 0 A) (F0 m 94 ls [])) := by
  have F := B.1
  have hx := F.1
  have hb := F.2.1
  induction n with
  | zero => exact ⟨fun _ _ _ _ _ _ hf => g_no hf, fun _ _ _ _ _ _ _ _ hf => g_no hf⟩
  | succ n ih =>
    refine ⟨?_, ?_⟩
    · intro x2_ x4_ u H locs ls hf K hl
      have hf : fX0_literal_L0_0  (fX0_literal_L0  n) x2_ x4_ u = some u' := hf
      unfold fX0_literal_L0_0 at hf
      refine lv_iload hx hb dX0_literal_20 (lv_at hl 2 rfl) ?_
      refine lv_iload_n hx hb dX0_literal_22 rfl (lv_at hl 1 rfl) ?_
      refine lv_icmp_ge (pc := 23) (tgt := 127) hx hb dX0_literal_23 (by decide) (fun c1 => ?_) (fun c1 => ?_)
      · have hf := g_pos hf c1
        refine lv_aload_n hx hb dX0_literal_127 rfl (lv_at hl 0 rfl) ?_
        refine lv_dup hx hb dX0_literal_128 rfl ?_
        refine ok_int F K fX0_64 dX0_literal_129 ?_
        refine lv_aload_n hx hb dX0_literal_132 rfl (lv_at hl 0 rfl) ?_
        refine ok_ref F K fX0_42 dX0_literal_133 ?_
        obtain ⟨r3, u2, hu2, hf⟩ := g_b2 hf
        refine ok_calli (rest := [.int (gI u 5 5), .ref (G.1 5)]) F K (pX10_endLiteral G hu2) mX10_endLiteral oc6 lX0_150 rfl hl.1 rfl ⟨⟨rfl, rfl⟩, Nat.le_of_ble_eq_true rfl, Nat.le_of_ble_eq_true rfl⟩ (Nat.le_of_ble_eq_true rfl) dX0_literal_136 (fun H locs K => ?_)
        refine lv_if_ne (pc := 139) (tgt := 146) hx hb dX0_literal_139 (by decide) (fun c4 => ?_) (fun c4 => ?_)
        · have hf := g_neg hf c4
          refine lv_iconst (v := 0) hx hb dX0_literal_146 kI_0 ?_
          refine lv_ior hx hb dX0_literal_147 ?_
          obtain ⟨z6, hz6, hf⟩ := g_bd hf
          refine ok_putZ F K qX0_64 (g_zb hz6).2 dX0_literal_148 (fun u5 H locs eu5 K => ?_)
          have hf := g_lt hf u5 eu5
          exact ok_retv B K hf dX0_literal_151
        · have hf := g_pos hf c4
          refine lv_iconst (v := 1) hx hb dX0_literal_142 kI_1 ?_
          refine lv_goto (pc := 143) (tgt := 147) hx hb dX0_literal_143 (by decide) ?_
          refine lv_ior hx hb dX0_literal_147 ?_
          obtain ⟨z8, hz8, hf⟩ := g_bd hf
          refine ok_putZ F K qX0_64 (g_zb hz8).2 dX0_literal_148 (fun u7 H locs eu7 K => ?_)
          have hf := g_lt hf u7 eu7
          exact ok_retv B K hf dX0_literal_151
      · have hf := g_neg hf c1
        refine lv_aload_n hx hb dX0_literal_26 rfl (lv_at hl 0 rfl) ?_
        refine ok_ref F K fX0_38 dX0_literal_27 ?_
        refine ok_ref F K fX0_143 dX0_literal_30 ?_
        refine lv_iload hx hb dX0_literal_33 (lv_at hl 2 rfl) ?_
        obtain ⟨v9, hv9, hf⟩ := g_bd hf
        refine ok_iald F K t37 hv9 dX0_literal_35 ?_
        refine lv_istore (lv' := [(5, .int v9), (0, .ref (G.1 5)), (2, .int x2_), (4, .int x4_)]) hx hb dX0_literal_36 hl (by decide) rfl (fun ls hl => ?_)
        refine lv_iload hx hb dX0_literal_38 (lv_at hl 0 rfl) ?_
        refine lv_if_lt (pc := 40) (tgt := 55) hx hb dX0_literal_40 (by decide) (fun c10 => ?_) (fun c10 => ?_)
        · have hf := g_pos hf c10
          refine lv_aload_n hx hb dX0_literal_55 rfl (lv_at hl 1 rfl) ?_
          refine ok_ref F K fX0_19 dX0_literal_56 ?_
          refine lv_iconst (v := (-1)) hx hb dX0_literal_59 kI_m1 ?_
          refine lv_iload hx hb dX0_literal_60 (lv_at hl 0 rfl) ?_
          refine lv_isub hx hb dX0_literal_62 ?_
          obtain ⟨v11, hv11, hf⟩ := g_bd hf
          refine ok_iald F K t43 hv11 dX0_literal_63 ?_
          refine lv_istore (lv' := [(6, .int v11), (5, .int v9), (0, .ref (G.1 5)), (2, .int x2_), (4, .int x4_)]) hx hb dX0_literal_64 hl (by decide) rfl (fun ls hl => ?_)
          refine lv_aload_n hx hb dX0_literal_66 rfl (lv_at hl 2 rfl) ?_
          refine ok_ref F K fX0_42 dX0_literal_67 ?_
          refine lv_iload hx hb dX0_literal_70 (lv_at hl 0 rfl) ?_
          obtain ⟨u12, hu12, hf⟩ := g_bd hf
          refine ok_callv (rest := []) F K (pX10_addCell G hu12) mX10_addCell oc6 lX0_146 rfl hl.1 rfl ⟨⟨rfl, rfl⟩, Nat.le_of_ble_eq_true rfl, Nat.le_of_ble_eq_true rfl⟩ (Nat.le_of_ble_eq_true rfl) dX0_literal_72 (fun H locs K => ?_)
          refine lv_iload hx hb dX0_literal_75 (lv_at hl 0 rfl) ?_
          refine lv_if_ge (pc := 77) (tgt := 84) hx hb dX0_literal_77 (by decide) (fun c13 => ?_) (fun c13 => ?_)
          · have hf := g_pos hf c13
            refine lv_iload hx hb dX0_literal_84 (lv_at hl 0 rfl) ?_
            refine lv_bipush (v := 7) hx hb dX0_literal_86 kB_7 ?_
            refine lv_iand hx hb dX0_literal_88 ?_
            refine lv_topi (fun x14 ex14 => ?_)
            have hf := g_lt hf x14 ex14
            refine lv_istore (lv' := [(7, .int x14), (6, .int v11), (5, .int v9), (0, .ref (G.1 5)), (2, .int x2_), (4, .int x4_)]) hx hb dX0_literal_89 hl (by decide) rfl (fun ls hl => ?_)
            refine lv_iconst (v := 0) hx hb dX0_literal_91 kI_0 ?_
            refine lv_topi (fun x15 ex15 => ?_)
            have hf := g_lt hf x15 ex15
            refine lv_istore (lv' := [(8, .int x15), (7, .int x14), (6, .int v11), (5, .int v9), (0, .ref (G.1 5)), (2, .int x2_), (4, .int x4_)]) hx hb dX0_literal_92 hl (by decide) rfl (fun ls hl => ?_)
            exact ih.2 x2_ x4_ x14 x15 u12 _ _ _ hf K (lv_sub hl [4, 5, 6, 1, 0] rfl)
          · have hf := g_neg hf c13
            refine lv_iconst (v := 0) hx hb dX0_literal_80 kI_0 ?_
            refine lv_goto (pc := 81) (tgt := 89) hx hb dX0_literal_81 (by decide) ?_
            refine lv_topi (fun x16 ex16 => ?_)
            have hf := g_lt hf x16 ex16
            refine lv_istore (lv' := [(7, .int x16), (6, .int v11), (5, .int v9), (0, .ref (G.1 5)), (2, .int x2_), (4, .int x4_)]) hx hb dX0_literal_89 hl (by decide) rfl (fun ls hl => ?_)
            refine lv_iconst (v := 0) hx hb dX0_literal_91 kI_0 ?_
            refine lv_topi (fun x17 ex17 => ?_)
            have hf := g_lt hf x17 ex17
            refine lv_istore (lv' := [(8, .int x17), (7, .int x16), (6, .int v11), (5, .int v9), (0, .ref (G.1 5)), (2, .int x2_), (4, .int x4_)]) hx hb dX0_literal_92 hl (by decide) rfl (fun ls hl => ?_)
            exact ih.2 x2_ x4_ x16 x17 u12 _ _ _ hf K (lv_sub hl [4, 5, 6, 1, 0] rfl)
        · have hf := g_neg hf c10
          refine lv_aload_n hx hb dX0_literal_43 rfl (lv_at hl 1 rfl) ?_
          refine ok_ref F K fX0_42 dX0_literal_44 ?_
          refine lv_iload hx hb dX0_literal_47 (lv_at hl 0 rfl) ?_
          obtain ⟨u18, hu18, hf⟩ := g_bd hf
          refine ok_callv (rest := []) F K (pX10_addCell G hu18) mX10_addCell oc6 lX0_146 rfl hl.1 rfl ⟨⟨rfl, rfl⟩, Nat.le_of_ble_eq_true rfl, Nat.le_of_ble_eq_true rfl⟩ (Nat.le_of_ble_eq_true rfl) dX0_literal_49 (fun H locs K => ?_)
          refine lv_goto (pc := 52) (tgt := 121) hx hb dX0_literal_52 (by decide) ?_
          obtain ⟨x19, ex19⟩ : ∃ y : Int32, y = x4_ + 1 := ⟨_, rfl⟩
          have hf := g_lt hf x19 ex19
          refine lv_iinc (v := x19) (lv' := [(4, .int x19), (5, .int v9), (0, .ref (G.1 5)), (2, .int x2_)]) hx hb dX0_literal_121 hl (k := 3) rfl (by rw [kI_1, ex19]) (by decide) rfl (fun ls hl => ?_)
          refine lv_goto (pc := 124) (tgt := 20) hx hb dX0_literal_124 (by decide) ?_
          exact ih.1 x2_ x19 u18 _ _ _ hf K (lv_sub hl [2, 3, 0] rfl)
    · intro x2_ x4_ x7_ x8_ u H locs ls hf K hl
      have hf : fX0_literal_L0_1  (fX0_literal_L0  n) x2_ x4_ x7_ x8_ u = some u' := hf
      unfold fX0_literal_L0_1 at hf
      refine lv_iload hx hb dX0_literal_94 (lv_at hl 4 rfl) ?_
      refine lv_iload hx hb dX0_literal_96 (lv_at hl 3 rfl) ?_
      refine lv_icmp_ge (pc := 98) (tgt := 121) hx hb dX0_literal_98 (by decide) (fun c20 => ?_) (fun c20 => ?_)
      · have hf := g_pos hf c20
        obtain ⟨x21, ex21⟩ : ∃ y : Int32, y = x4_ + 1 := ⟨_, rfl⟩
        have hf := g_lt hf x21 ex21
        refine lv_iinc (v := x21) (lv' := [(4, .int x21), (0, .ref (G.1 5)), (2, .int x2_), (7, .int x7_), (8, .int x8_)]) hx hb dX0_literal_121 hl (k := 2) rfl (by rw [kI_1, ex21]) (by decide) rfl (fun ls hl => ?_)
        refine lv_goto (pc := 124) (tgt := 20) hx hb dX0_literal_124 (by decide) ?_
        exact ih.1 x2_ x21 u _ _ _ hf K (lv_sub hl [1, 2, 0] rfl)
      · have hf := g_neg hf c20
        refine lv_aload_n hx hb dX0_literal_101 rfl (lv_at hl 0 rfl) ?_
        refine ok_ref F K fX0_42 dX0_literal_102 ?_
        refine lv_aload_n hx hb dX0_literal_105 rfl (lv_at hl 0 rfl) ?_
        refine ok_ref F K fX0_31 dX0_literal_106 ?_
        refine lv_iload hx hb dX0_literal_109 (lv_at hl 4 rfl) ?_
        obtain ⟨v22, hv22, hf⟩ := g_bd hf
        refine ok_iald F K t47 hv22 dX0_literal_111 ?_
        obtain ⟨u23, hu23, hf⟩ := g_bd hf
        refine ok_callv (rest := []) F K (pX10_addCell G hu23) mX10_addCell oc6 lX0_146 rfl hl.1 rfl ⟨⟨rfl, rfl⟩, Nat.le_of_ble_eq_true rfl, Nat.le_of_ble_eq_true rfl⟩ (Nat.le_of_ble_eq_true rfl) dX0_literal_112 (fun H locs K => ?_)
        obtain ⟨x24, ex24⟩ : ∃ y : Int32, y = x8_ + 1 := ⟨_, rfl⟩
        have hf := g_lt hf x24 ex24
        refine lv_iinc (v := x24) (lv' := [(8, .int x24), (0, .ref (G.1 5)), (2, .int x2_), (4, .int x4_), (7, .int x7_)]) hx hb dX0_literal_115 hl (k := 4) rfl (by rw [kI_1, ex24]) (by decide) rfl (fun ls hl => ?_)
        refine lv_goto (pc := 118) (tgt := 94) hx hb dX0_literal_118 (by decide) ?_
        exact ih.2 x2_ x4_ x7_ x24 u23 _ _ _ hf K (lv_sub hl [1, 2, 3, 4, 0] rfl)
set_option maxRecDepth 100000 in
set_option maxHeartbeats 4000000 in
theorem pX0_literal {l : Launch} (G : Gt) {a0 : Int32} {a1 : Int32} {a2 : Int32} {u u' : St} (hf : fX0_literal a0 a1 a2 u = some u') : Ctr 0 76 l yX0_literal cX0_literal 9 none rmX0_literal [.ref (G.1 5), .int a0, .int a1, .int a2] G u none u' := by
  refine Ctr.mk (by decide) (Nat.le_of_ble_eq_true rfl) (fun p e s m below meth c A ls B K hl => ?_)
  have F := B.1
  have hx := F.1
  have hb := F.2.1
  have hl : lv_has ls 9 [(0, .ref (G.1 5)), (1, .int a0), (2, .int a1), (3, .int a2)] := hl
  unfold fX0_literal at hf
  refine lv_aload_n hx hb dX0_literal_0 rfl (lv_at hl 0 rfl) ?_
  refine ok_ref F K fX0_42 dX0_literal_1 ?_
  refine lv_iload_n hx hb dX0_literal_4 rfl (lv_at hl 3 rfl) ?_
  obtain ⟨r26, u25, hu25, hf⟩ := g_b2 hf
  refine ok_calli (rest := []) F K (pX10_beginLiteral G hu25) mX10_beginLiteral oc6 lX0_139 rfl hl.1 rfl ⟨⟨rfl, rfl⟩, Nat.le_of_ble_eq_true rfl, Nat.le_of_ble_eq_true rfl⟩ (Nat.le_of_ble_eq_true rfl) dX0_literal_5 (fun H locs K => ?_)
  refine lv_if_ne (pc := 8) (tgt := 17) hx hb dX0_literal_8 (by decide) (fun c27 => ?_) (fun c27 => ?_)
  · have hf := g_neg hf c27
    refine lv_iload_n hx hb dX0_literal_17 rfl (lv_at hl 1 rfl) ?_
    refine lv_istore (lv' := [(4, .int a0), (0, .ref (G.1 5)), (1, .int a0), (2, .int a1), (3, .int a2)]) hx hb dX0_literal_18 hl (by decide) rfl (fun ls hl => ?_)
    exact (pX0_literal_L0  B FU).1 a1 a0 u25 _ _ _ hf K (lv_sub hl [1, 3, 0] rfl)
  · have hf := g_pos hf c27
    refine lv_aload_n hx hb dX0_literal_11 rfl (lv_at hl 0 rfl) ?_
    refine lv_iconst (v := 1) hx hb dX0_literal_12 kI_1 ?_
    refine ok_putZ F K qX0_64 (Or.inr rfl) dX0_literal_13 (fun u28 H locs eu28 K => ?_)
    have hf := g_lt hf u28 eu28
    exact ok_retv B K hf dX0_literal_16
abbrev rmX10_begin : Room := { frames := 0, cells := 0, slots := 0, locals := 0 }
set_option maxRecDepth 100000 in
set_option maxHeartbeats 4000000 in
theorem pX10_begin {l : Launch} (G : Gt) {u u' : St} (hf : fX10_begin u = some u') : Ctr 0 76 l yX10_begin cX10_begin 1 none rmX10_begin [.ref (G.1 6)] G u none u' := by
  refine Ctr.mk (by decide) (Nat.le_of_ble_eq_true rfl) (fun p e s m below meth c A ls B K hl => ?_)
  have F := B.1
  have hx := F.1
  have hb := F.2.1
  have hl : lv_has ls 1 [(0, .ref (G.1 6))] := hl
  unfold fX10_begin at hf
  refine lv_aload_n hx hb dX10_begin_0 rfl (lv_at hl 0 rfl) ?_
  refine lv_iconst (v := 0) hx hb dX10_begin_1 kI_0 ?_
  refine ok_putI F K qX10_40 dX10_begin_2 (fun u1 H locs eu1 K => ?_)
  have hf := g_lt hf u1 eu1
  refine lv_aload_n hx hb dX10_begin_5 rfl (lv_at hl 0 rfl) ?_
  refine lv_iconst (v := 0) hx hb dX10_begin_6 kI_0 ?_
  refine ok_putI F K qX10_44 dX10_begin_7 (fun u2 H locs eu2 K => ?_)
  have hf := g_lt hf u2 eu2
  refine lv_aload_n hx hb dX10_begin_10 rfl (lv_at hl 0 rfl) ?_
  refine lv_iconst (v := 0) hx hb dX10_begin_11 kI_0 ?_
  refine ok_putI F K qX10_47 dX10_begin_12 (fun u3 H locs eu3 K => ?_)
  have hf := g_lt hf u3 eu3
  refine lv_aload_n hx hb dX10_begin_15 rfl (lv_at hl 0 rfl) ?_
  refine lv_iconst (v := 0) hx hb dX10_begin_16 kI_0 ?_
  refine ok_putI F K qX10_50 dX10_begin_17 (fun u4 H locs eu4 K => ?_)
  have hf := g_lt hf u4 eu4
  refine lv_aload_n hx hb dX10_begin_20 rfl (lv_at hl 0 rfl) ?_
  refine lv_iconst (v := 0) hx hb dX10_begin_21 kI_0 ?_
  refine ok_putI F K qX10_53 dX10_begin_22 (fun u5 H locs eu5 K => ?_)
  have hf := g_lt hf u5 eu5
  exact ok_retv B K hf dX10_begin_25
abbrev rmX0_push : Room := { frames := 0, cells := 0, slots := 0, locals := 0 }
set_option maxRecDepth 100000 in
set_option maxHeartbeats 4000000 in
theorem pX0_push {l : Launch} (G : Gt) {a0 : Int32} {a1 : Int32} {u u' : St} (hf : fX0_push a0 a1 u = some u') : Ctr 0 76 l yX0_push cX0_push 3 none rmX0_push [.ref (G.1 5), .int a0, .int a1] G u none u' := by
  refine Ctr.mk (by decide) (Nat.le_of_ble_eq_true rfl) (fun p e s m below meth c A ls B K hl => ?_)
  have F := B.1
  have hx := F.1
  have hb := F.2.1
  have hl : lv_has ls 3 [(0, .ref (G.1 5)), (1, .int a0), (2, .int a1)] := hl
  unfold fX0_push at hf
  refine lv_aload_n hx hb dX0_push_0 rfl (lv_at hl 0 rfl) ?_
  refine ok_int F K fX0_61 dX0_push_1 ?_
  refine lv_sipush (v := 4500) hx hb dX0_push_4 kS_4500 ?_
  refine lv_icmp_lt (pc := 7) (tgt := 16) hx hb dX0_push_7 (by decide) (fun c1 => ?_) (fun c1 => ?_)
  · have hf := g_pos hf c1
    refine lv_aload_n hx hb dX0_push_16 rfl (lv_at hl 0 rfl) ?_
    refine ok_ref F K fX0_13 dX0_push_17 ?_
    refine lv_aload_n hx hb dX0_push_20 rfl (lv_at hl 0 rfl) ?_
    refine ok_int F K fX0_61 dX0_push_21 ?_
    refine lv_iload_n hx hb dX0_push_24 rfl (lv_at hl 2 rfl) ?_
    refine lv_iconst (v := 3) hx hb dX0_push_25 kI_3 ?_
    refine lv_ishl hx hb dX0_push_26 ?_
    refine lv_iload_n hx hb dX0_push_27 rfl (lv_at hl 1 rfl) ?_
    refine lv_ior hx hb dX0_push_28 ?_
    obtain ⟨u2, hu2, hf⟩ := g_bd hf
    refine ok_iast F K t42 hu2 dX0_push_29 (fun H locs K => ?_)
    refine lv_aload_n hx hb dX0_push_30 rfl (lv_at hl 0 rfl) ?_
    refine lv_dup hx hb dX0_push_31 rfl ?_
    refine ok_int F K fX0_61 dX0_push_32 ?_
    refine lv_iconst (v := 1) hx hb dX0_push_35 kI_1 ?_
    refine lv_iadd hx hb dX0_push_36 ?_
    refine ok_putI F K qX0_61 dX0_push_37 (fun u3 H locs eu3 K => ?_)
    have hf := g_lt hf u3 eu3
    exact ok_retv B K hf dX0_push_40
  · have hf := g_neg hf c1
    refine lv_aload_n hx hb dX0_push_10 rfl (lv_at hl 0 rfl) ?_
    refine lv_iconst (v := 1) hx hb dX0_push_11 kI_1 ?_
    refine ok_putZ F K qX0_64 (Or.inr rfl) dX0_push_12 (fun u4 H locs eu4 K => ?_)
    have hf := g_lt hf u4 eu4
    exact ok_retv B K hf dX0_push_15
abbrev rmX10_copyMembers : Room := { frames := 1, cells := 0, slots := 0, locals := 80 }
set_option maxRecDepth 100000 in
set_option maxHeartbeats 4000000 in
theorem pX10_copyMembers {l : Launch} (G : Gt) {a0 : Int32} {r : Int32} {u u' : St} (hf : fX10_copyMembers a0 u = some (r, u')) : Ctr 0 76 l yX10_copyMembers cX10_copyMembers 4 (some .boolean) rmX10_copyMembers [.ref (G.1 6), .int a0] G u (some (.int r)) u' := by
  refine Ctr.mk (by decide) (Nat.le_of_ble_eq_true rfl) (fun p e s m below meth c A ls B K hl => ?_)
  have F := B.1
  have hx := F.1
  have hb := F.2.1
  have hl : lv_has ls 4 [(0, .ref (G.1 6)), (1, .int a0)] := hl
  unfold fX10_copyMembers at hf
  refine lv_aload_n hx hb dX10_copyMembers_0 rfl (lv_at hl 0 rfl) ?_
  refine ok_ref F K fX10_23 dX10_copyMembers_1 ?_
  refine lv_iload_n hx hb dX10_copyMembers_4 rfl (lv_at hl 1 rfl) ?_
  obtain ⟨v1, hv1, hf⟩ := g_bd hf
  refine ok_iald F K t52 hv1 dX10_copyMembers_5 ?_
  refine lv_istore_n (lv' := [(2, .int v1), (0, .ref (G.1 6)), (1, .int a0)]) hx hb dX10_copyMembers_6 rfl hl (by decide) rfl (fun ls hl => ?_)
  refine lv_aload_n hx hb dX10_copyMembers_7 rfl (lv_at hl 1 rfl) ?_
  refine ok_ref F K fX10_23 dX10_copyMembers_8 ?_
  refine lv_iload_n hx hb dX10_copyMembers_11 rfl (lv_at hl 2 rfl) ?_
  refine lv_iconst (v := 1) hx hb dX10_copyMembers_12 kI_1 ?_
  refine lv_iadd hx hb dX10_copyMembers_13 ?_
  obtain ⟨v2, hv2, hf⟩ := g_bd hf
  refine ok_iald F K t52 hv2 dX10_copyMembers_14 ?_
  refine lv_iload_n hx hb dX10_copyMembers_15 rfl (lv_at hl 0 rfl) ?_
  refine lv_isub hx hb dX10_copyMembers_16 ?_
  refine lv_topi (fun x3 ex3 => ?_)
  have hf := g_lt hf x3 ex3
  refine lv_istore_n (lv' := [(3, .int x3), (2, .int v1), (0, .ref (G.1 6)), (1, .int a0)]) hx hb dX10_copyMembers_17 rfl hl (by decide) rfl (fun ls hl => ?_)
  refine lv_aload_n hx hb dX10_copyMembers_18 rfl (lv_at hl 2 rfl) ?_
  refine ok_int F K fX10_53 dX10_copyMembers_19 ?_
  refine lv_iload_n hx hb dX10_copyMembers_22 rfl (lv_at hl 0 rfl) ?_
  refine lv_iadd hx hb dX10_copyMembers_23 ?_
  refine lv_sipush (v := 6000) hx hb dX10_copyMembers_24 kS_6000 ?_
  refine lv_icmp_le (pc := 27) (tgt := 32) hx hb dX10_copyMembers_27 (by decide) (fun c4 => ?_) (fun c4 => ?_)
  · have hf := g_pos hf c4
    refine lv_aload_n hx hb dX10_copyMembers_32 rfl (lv_at hl 2 rfl) ?_
    refine ok_ref F K fX10_20 dX10_copyMembers_33 ?_
    refine lv_iload_n hx hb dX10_copyMembers_36 rfl (lv_at hl 1 rfl) ?_
    refine lv_aload_n hx hb dX10_copyMembers_37 rfl (lv_at hl 2 rfl) ?_
    refine ok_ref F K fX10_20 dX10_copyMembers_38 ?_
    refine lv_aload_n hx hb dX10_copyMembers_41 rfl (lv_at hl 2 rfl) ?_
    refine ok_int F K fX10_53 dX10_copyMembers_42 ?_
    refine lv_iload_n hx hb dX10_copyMembers_45 rfl (lv_at hl 0 rfl) ?_
    obtain ⟨u5, hu5, hf⟩ := g_bd hf
    refine ok_copy F hl.1 K t51 lX10_64 wCopy hu5 ⟨Nat.le_of_ble_eq_true rfl, Nat.le_of_ble_eq_true rfl⟩ dX10_copyMembers_46 (fun H locs K => ?_)
    refine lv_aload_n hx hb dX10_copyMembers_49 rfl (lv_at hl 2 rfl) ?_
    refine lv_dup hx hb dX10_copyMembers_50 rfl ?_
    refine ok_int F K fX10_53 dX10_copyMembers_51 ?_
    refine lv_iload_n hx hb dX10_copyMembers_54 rfl (lv_at hl 0 rfl) ?_
    refine lv_iadd hx hb dX10_copyMembers_55 ?_
    refine ok_putI F K qX10_53 dX10_copyMembers_56 (fun u6 H locs eu6 K => ?_)
    have hf := g_lt hf u6 eu6
    refine lv_iconst (v := 1) hx hb dX10_copyMembers_59 kI_1 ?_
    exact ok_retz B K hf (Or.inr rfl) dX10_copyMembers_60
  · have hf := g_neg hf c4
    refine lv_iconst (v := 0) hx hb dX10_copyMembers_30 kI_0 ?_
    exact ok_retz B K hf (Or.inl rfl) dX10_copyMembers_31
abbrev rmX10_both : Room := { frames := 2, cells := 0, slots := 0, locals := 103 }
set_option maxRecDepth 100000 in
set_option maxHeartbeats 4000000 in
theorem pX10_both_L0 {p : Program} {l : Launch} {e : Env} {s : State} {m : MethodId} {below : List Frame} {meth : Method} {c : Code} {A : Nat → Prop} {G : Gt} {r : Int32} {u' : St} (B : Bd p s m [.ref (G.1 6)] meth c yX10_both cX10_both 4 (some .boolean)) (n : Nat) : (∀ (x1_ : Int32) (x2_ : Int32) (u : St) (H : Heap) (locs : List Loc) (ls : Array Slot), fX10_both_L0  n 0 x1_ x2_ 0 u = some (r, u') → Ok 0 76 G A s u H locs → lv_has ls 4 [(0, .ref (G.1 6)), (1, .int x1_), (2, .int x2_)] → W p l e rmX10_both s m ([.ref (G.1 6)] : List Value).toArray below meth c H locs 0 0 (MQ below (Qg 0 76 G A (some (.int r)) u') ([.ref (G.1 6)] : List Value).toArray s 0 0 A) (F0 m 30 ls [])) ∧ (∀ (x1_ : Int32) (x2_ : Int32) (x3_ : Int32) (u : St) (H : Heap) (locs : List Loc) (ls : Array Slot), fX10_both_L0  n 1 x1_ x2_ x3_ u = some (r, u') → Ok 0 76 G A s u H locs → lv_has ls 4 [(0, .ref (G.1 6)), (1, .int x1_), (2, .int x2_), (3, .int x3_)] → W p l e rmX10_both s m ([.ref (G.1 6)] : List Value).toArray below meth c H locs 0 0 (MQ below (Qg 0 76 G A (some (.int r)) u') ([.ref (G.1 6)] : List Value).toArray s 0 0 A) (F0 m 47 ls [])) := by
  have F := B.1
  have hx := F.1
  have hb := F.2.1
  induction n with
  | zero => exact ⟨fun _ _ _ _ _ _ hf => g_no hf, fun _ _ _ _ _ _ _ hf => g_no hf⟩
  | succ n ih =>
    refine ⟨?_, ?_⟩
    · intro x1_ x2_ u H locs ls hf K hl
      have hf : fX10_both_L0_0  (fX10_both_L0  n) x1_ x2_ u = some (r, u') := hf
      unfold fX10_both_L0_0 at hf
      refine lv_iload_n hx hb dX10_both_30 rfl (lv_at hl 2 rfl) ?_
      refine lv_aload_n hx hb dX10_both_31 rfl (lv_at hl 0 rfl) ?_
      refine ok_int F K fX10_50 dX10_both_32 ?_
      refine lv_iconst (v := 1) hx hb dX10_both_35 kI_1 ?_
      refine lv_iadd hx hb dX10_both_36 ?_
      refine lv_icmp_gt (pc := 37) (tgt := 86) hx hb dX10_both_37 (by decide) (fun c1 => ?_) (fun c1 => ?_)
      · have hf := g_pos hf c1
        refine lv_aload_n hx hb dX10_both_86 rfl (lv_at hl 0 rfl) ?_
        refine lv_iload_n hx hb dX10_both_87 rfl (lv_at hl 1 rfl) ?_
        obtain ⟨r3, u2, hu2, hf⟩ := g_b2 hf
        refine ok_calli (rest := []) F K (pX10_pushSet G hu2) mX10_pushSet oc6 lX10_60 rfl hl.1 rfl ⟨⟨rfl, rfl⟩, Nat.le_of_ble_eq_true rfl, Nat.le_of_ble_eq_true rfl⟩ (Nat.le_of_ble_eq_true rfl) dX10_both_88 (fun H locs K => ?_)
        obtain ⟨z4, hz4, hf⟩ := g_bd hf
        exact ok_retz B K hf (g_zb hz4).2 dX10_both_91
      · have hf := g_neg hf c1
        refine lv_aload_n hx hb dX10_both_40 rfl (lv_at hl 0 rfl) ?_
        refine ok_ref F K fX10_26 dX10_both_41 ?_
        refine lv_iload_n hx hb dX10_both_44 rfl (lv_at hl 2 rfl) ?_
        obtain ⟨v5, hv5, hf⟩ := g_bd hf
        refine ok_iald F K t53 hv5 dX10_both_45 ?_
        refine lv_istore_n (lv' := [(3, .int v5), (0, .ref (G.1 6)), (1, .int x1_), (2, .int x2_)]) hx hb dX10_both_46 rfl hl (by decide) rfl (fun ls hl => ?_)
        exact ih.2 x1_ x2_ v5 u _ _ _ hf K (lv_sub hl [1, 2, 3, 0] rfl)
    · intro x1_ x2_ x3_ u H locs ls hf K hl
      have hf : fX10_both_L0_1  (fX10_both_L0  n) x1_ x2_ x3_ u = some (r, u') := hf
      unfold fX10_both_L0_1 at hf
      refine lv_iload_n hx hb dX10_both_47 rfl (lv_at hl 3 rfl) ?_
      refine lv_aload_n hx hb dX10_both_48 rfl (lv_at hl 0 rfl) ?_
      refine ok_ref F K fX10_29 dX10_both_49 ?_
      refine lv_iload_n hx hb dX10_both_52 rfl (lv_at hl 2 rfl) ?_
      obtain ⟨v6, hv6, hf⟩ := g_bd hf
      refine ok_iald F K t54 hv6 dX10_both_53 ?_
      refine lv_icmp_ge (pc := 54) (tgt := 80) hx hb dX10_both_54 (by decide) (fun c7 => ?_) (fun c7 => ?_)
      · have hf := g_pos hf c7
        obtain ⟨x8, ex8⟩ : ∃ y : Int32, y = x2_ + 1 := ⟨_, rfl⟩
        have hf := g_lt hf x8 ex8
        refine lv_iinc (v := x8) (lv' := [(2, .int x8), (0, .ref (G.1 6)), (1, .int x1_), (3, .int x3_)]) hx hb dX10_both_80 hl (k := 2) rfl (by rw [kI_1, ex8]) (by decide) rfl (fun ls hl => ?_)
        refine lv_goto (pc := 83) (tgt := 30) hx hb dX10_both_83 (by decide) ?_
        exact ih.1 x1_ x8 u _ _ _ hf K (lv_sub hl [1, 2, 0] rfl)
      · have hf := g_neg hf c7
        refine lv_aload_n hx hb dX10_both_57 rfl (lv_at hl 0 rfl) ?_
        refine lv_iload_n hx hb dX10_both_58 rfl (lv_at hl 3 rfl) ?_
        obtain ⟨r10, u9, hu9, hf⟩ := g_b2 hf
        refine ok_calli (rest := []) F K (pX10_copyMembers G hu9) mX10_copyMembers oc6 lX10_70 rfl hl.1 rfl ⟨⟨rfl, rfl⟩, Nat.le_of_ble_eq_true rfl, Nat.le_of_ble_eq_true rfl⟩ (Nat.le_of_ble_eq_true rfl) dX10_both_59 (fun H locs K => ?_)
        refine lv_if_eq (pc := 62) (tgt := 72) hx hb dX10_both_62 (by decide) (fun c11 => ?_) (fun c11 => ?_)
        · have hf := g_pos hf c11
          refine lv_iconst (v := 0) hx hb dX10_both_72 kI_0 ?_
          exact ok_retz B K hf (Or.inl rfl) dX10_both_73
        · have hf := g_neg hf c11
          refine lv_aload_n hx hb dX10_both_65 rfl (lv_at hl 0 rfl) ?_
          obtain ⟨r13, u12, hu12, hf⟩ := g_b2 hf
          refine ok_calli (rest := []) F K (pX10_endClause G hu12) mX10_endClause oc6 lX10_56 rfl hl.1 rfl ⟨⟨rfl, rfl⟩, Nat.le_of_ble_eq_true rfl, Nat.le_of_ble_eq_true rfl⟩ (Nat.le_of_ble_eq_true rfl) dX10_both_66 (fun H locs K => ?_)
          refine lv_if_ne (pc := 69) (tgt := 74) hx hb dX10_both_69 (by decide) (fun c14 => ?_) (fun c14 => ?_)
          · have hf := g_neg hf c14
            obtain ⟨x15, ex15⟩ : ∃ y : Int32, y = x3_ + 1 := ⟨_, rfl⟩
            have hf := g_lt hf x15 ex15
            refine lv_iinc (v := x15) (lv' := [(3, .int x15), (0, .ref (G.1 6)), (1, .int x1_), (2, .int x2_)]) hx hb dX10_both_74 hl (k := 3) rfl (by rw [kI_1, ex15]) (by decide) rfl (fun ls hl => ?_)
            refine lv_goto (pc := 77) (tgt := 47) hx hb dX10_both_77 (by decide) ?_
            exact ih.2 x1_ x2_ x15 u12 _ _ _ hf K (lv_sub hl [1, 2, 3, 0] rfl)
          · have hf := g_pos hf c14
            refine lv_iconst (v := 0) hx hb dX10_both_72 kI_0 ?_
            exact ok_retz B K hf (Or.inl rfl) dX10_both_73
set_option maxRecDepth 100000 in
set_option maxHeartbeats 4000000 in
theorem pX10_both {l : Launch} (G : Gt) {r : Int32} {u u' : St} (hf : fX10_both u = some (r, u')) : Ctr 0 76 l yX10_both cX10_both 4 (some .boolean) rmX10_both [.ref (G.1 6)] G u (some (.int r)) u' := by
  refine Ctr.mk (by decide) (Nat.le_of_ble_eq_true rfl) (fun p e s m below meth c A ls B K hl => ?_)
  have F := B.1
  have hx := F.1
  have hb := F.2.1
  have hl : lv_has ls 4 [(0, .ref (G.1 6))] := hl
  unfold fX10_both at hf
  refine lv_aload_n hx hb dX10_both_0 rfl (lv_at hl 0 rfl) ?_
  refine ok_int F K fX10_50 dX10_both_1 ?_
  refine lv_iconst (v := 2) hx hb dX10_both_4 kI_2 ?_
  refine lv_icmp_ge (pc := 5) (tgt := 10) hx hb dX10_both_5 (by decide) (fun c16 => ?_) (fun c16 => ?_)
  · have hf := g_pos hf c16
    refine lv_aload_n hx hb dX10_both_10 rfl (lv_at hl 0 rfl) ?_
    refine lv_dup hx hb dX10_both_11 rfl ?_
    refine ok_int F K fX10_50 dX10_both_12 ?_
    refine lv_iconst (v := 2) hx hb dX10_both_15 kI_2 ?_
    refine lv_isub hx hb dX10_both_16 ?_
    refine ok_putI F K qX10_50 dX10_both_17 (fun u17 H locs eu17 K => ?_)
    have hf := g_lt hf u17 eu17
    refine lv_aload_n hx hb dX10_both_20 rfl (lv_at hl 0 rfl) ?_
    refine ok_int F K fX10_47 dX10_both_21 ?_
    refine lv_topi (fun x18 ex18 => ?_)
    have hf := g_lt hf x18 ex18
    refine lv_istore_n (lv' := [(1, .int x18), (0, .ref (G.1 6))]) hx hb dX10_both_24 rfl hl (by decide) rfl (fun ls hl => ?_)
    refine lv_aload_n hx hb dX10_both_25 rfl (lv_at hl 1 rfl) ?_
    refine ok_int F K fX10_50 dX10_both_26 ?_
    refine lv_topi (fun x19 ex19 => ?_)
    have hf := g_lt hf x19 ex19
    refine lv_istore_n (lv' := [(2, .int x19), (1, .int x18), (0, .ref (G.1 6))]) hx hb dX10_both_29 rfl hl (by decide) rfl (fun ls hl => ?_)
    exact (pX10_both_L0  B FU).1 x18 x19 u17 _ _ _ hf K (lv_sub hl [2, 1, 0] rfl)
  · have hf := g_neg hf c16
    refine lv_iconst (v := 0) hx hb dX10_both_8 kI_0 ?_
    exact ok_retz B K hf (Or.inl rfl) dX10_both_9
abbrev rmX10_either : Room := { frames := 2, cells := 0, slots := 0, locals := 103 }
set_option maxRecDepth 100000 in
set_option maxHeartbeats 4000000 in
theorem pX10_either_L0 {p : Program} {l : Launch} {e : Env} {s : State} {m : MethodId} {below : List Frame} {meth : Method} {c : Code} {A : Nat → Prop} {G : Gt} {r : Int32} {u' : St} (B : Bd p s m [.ref (G.1 6)] meth c yX10_either cX10_either 4 (some .boolean)) (n : Nat) : (∀ (x1_ : Int32) (x2_ : Int32) (u : St) (H : Heap) (locs : List Loc) (ls : Array Slot), fX10_either_L0  n 0 x1_ x2_ 0 u = some (r, u') → Ok 0 76 G A s u H locs → lv_has ls 4 [(0, .ref (G.1 6)), (1, .int x1_), (2, .int x2_)] → W p l e rmX10_either s m ([.ref (G.1 6)] : List Value).toArray below meth c H locs 0 0 (MQ below (Qg 0 76 G A (some (.int r)) u') ([.ref (G.1 6)] : List Value).toArray s 0 0 A) (F0 m 35 ls [])) ∧ (∀ (x1_ : Int32) (x2_ : Int32) (x3_ : Int32) (u : St) (H : Heap) (locs : List Loc) (ls : Array Slot), fX10_either_L0  n 1 x1_ x2_ x3_ u = some (r, u') → Ok 0 76 G A s u H locs → lv_has ls 4 [(0, .ref (G.1 6)), (1, .int x1_), (2, .int x2_), (3, .int x3_)] → W p l e rmX10_either s m ([.ref (G.1 6)] : List Value).toArray below meth c H locs 0 0 (MQ below (Qg 0 76 G A (some (.int r)) u') ([.ref (G.1 6)] : List Value).toArray s 0 0 A) (F0 m 60 ls [])) := by
  have F := B.1
  have hx := F.1
  have hb := F.2.1
  induction n with
  | zero => exact ⟨fun _ _ _ _ _ _ hf => g_no hf, fun _ _ _ _ _ _ _ hf => g_no hf⟩
  | succ n ih =>
    refine ⟨?_, ?_⟩
    · intro x1_ x2_ u H locs ls hf K hl
      have hf : fX10_either_L0_0  (fX10_either_L0  n) x1_ x2_ u = some (r, u') := hf
      unfold fX10_either_L0_0 at hf
      refine lv_iload_n hx hb dX10_either_35 rfl (lv_at hl 2 rfl) ?_
      refine lv_aload_n hx hb dX10_either_36 rfl (lv_at hl 0 rfl) ?_
      refine ok_ref F K fX10_29 dX10_either_37 ?_
      refine lv_aload_n hx hb dX10_either_40 rfl (lv_at hl 0 rfl) ?_
      refine ok_int F K fX10_50 dX10_either_41 ?_
      obtain ⟨v1, hv1, hf⟩ := g_bd hf
      refine ok_iald F K t54 hv1 dX10_either_44 ?_
      refine lv_icmp_ge (pc := 45) (tgt := 112) hx hb dX10_either_45 (by decide) (fun c2 => ?_) (fun c2 => ?_)
      · have hf := g_pos hf c2
        refine lv_aload_n hx hb dX10_either_112 rfl (lv_at hl 0 rfl) ?_
        refine lv_iload_n hx hb dX10_either_113 rfl (lv_at hl 1 rfl) ?_
        obtain ⟨r4, u3, hu3, hf⟩ := g_b2 hf
        refine ok_calli (rest := []) F K (pX10_pushSet G hu3) mX10_pushSet oc6 lX10_60 rfl hl.1 rfl ⟨⟨rfl, rfl⟩, Nat.le_of_ble_eq_true rfl, Nat.le_of_ble_eq_true rfl⟩ (Nat.le_of_ble_eq_true rfl) dX10_either_114 (fun H locs K => ?_)
        obtain ⟨z5, hz5, hf⟩ := g_bd hf
        exact ok_retz B K hf (g_zb hz5).2 dX10_either_117
      · have hf := g_neg hf c2
        refine lv_aload_n hx hb dX10_either_48 rfl (lv_at hl 0 rfl) ?_
        refine ok_ref F K fX10_26 dX10_either_49 ?_
        refine lv_aload_n hx hb dX10_either_52 rfl (lv_at hl 0 rfl) ?_
        refine ok_int F K fX10_50 dX10_either_53 ?_
        refine lv_iconst (v := 1) hx hb dX10_either_56 kI_1 ?_
        refine lv_iadd hx hb dX10_either_57 ?_
        obtain ⟨v6, hv6, hf⟩ := g_bd hf
        refine ok_iald F K t53 hv6 dX10_either_58 ?_
        refine lv_istore_n (lv' := [(3, .int v6), (0, .ref (G.1 6)), (1, .int x1_), (2, .int x2_)]) hx hb dX10_either_59 rfl hl (by decide) rfl (fun ls hl => ?_)
        exact ih.2 x1_ x2_ v6 u _ _ _ hf K (lv_sub hl [1, 2, 3, 0] rfl)
    · intro x1_ x2_ x3_ u H locs ls hf K hl
      have hf : fX10_either_L0_1  (fX10_either_L0  n) x1_ x2_ x3_ u = some (r, u') := hf
      unfold fX10_either_L0_1 at hf
      refine lv_iload_n hx hb dX10_either_60 rfl (lv_at hl 3 rfl) ?_
      refine lv_aload_n hx hb dX10_either_61 rfl (lv_at hl 0 rfl) ?_
      refine ok_ref F K fX10_29 dX10_either_62 ?_
      refine lv_aload_n hx hb dX10_either_65 rfl (lv_at hl 0 rfl) ?_
      refine ok_int F K fX10_50 dX10_either_66 ?_
      refine lv_iconst (v := 1) hx hb dX10_either_69 kI_1 ?_
      refine lv_iadd hx hb dX10_either_70 ?_
      obtain ⟨v7, hv7, hf⟩ := g_bd hf
      refine ok_iald F K t54 hv7 dX10_either_71 ?_
      refine lv_icmp_ge (pc := 72) (tgt := 106) hx hb dX10_either_72 (by decide) (fun c8 => ?_) (fun c8 => ?_)
      · have hf := g_pos hf c8
        obtain ⟨x9, ex9⟩ : ∃ y : Int32, y = x2_ + 1 := ⟨_, rfl⟩
        have hf := g_lt hf x9 ex9
        refine lv_iinc (v := x9) (lv' := [(2, .int x9), (0, .ref (G.1 6)), (1, .int x1_), (3, .int x3_)]) hx hb dX10_either_106 hl (k := 2) rfl (by rw [kI_1, ex9]) (by decide) rfl (fun ls hl => ?_)
        refine lv_goto (pc := 109) (tgt := 35) hx hb dX10_either_109 (by decide) ?_
        exact ih.1 x1_ x9 u _ _ _ hf K (lv_sub hl [1, 2, 0] rfl)
      · have hf := g_neg hf c8
        refine lv_aload_n hx hb dX10_either_75 rfl (lv_at hl 0 rfl) ?_
        refine lv_iload_n hx hb dX10_either_76 rfl (lv_at hl 2 rfl) ?_
        obtain ⟨r11, u10, hu10, hf⟩ := g_b2 hf
        refine ok_calli (rest := []) F K (pX10_copyMembers G hu10) mX10_copyMembers oc6 lX10_70 rfl hl.1 rfl ⟨⟨rfl, rfl⟩, Nat.le_of_ble_eq_true rfl, Nat.le_of_ble_eq_true rfl⟩ (Nat.le_of_ble_eq_true rfl) dX10_either_77 (fun H locs K => ?_)
        refine lv_if_eq (pc := 80) (tgt := 98) hx hb dX10_either_80 (by decide) (fun c12 => ?_) (fun c12 => ?_)
        · have hf := g_pos hf c12
          refine lv_iconst (v := 0) hx hb dX10_either_98 kI_0 ?_
          exact ok_retz B K hf (Or.inl rfl) dX10_either_99
        · have hf := g_neg hf c12
          refine lv_aload_n hx hb dX10_either_83 rfl (lv_at hl 0 rfl) ?_
          refine lv_iload_n hx hb dX10_either_84 rfl (lv_at hl 3 rfl) ?_
          obtain ⟨r14, u13, hu13, hf⟩ := g_b2 hf
          refine ok_calli (rest := []) F K (pX10_copyMembers G hu13) mX10_copyMembers oc6 lX10_70 rfl hl.1 rfl ⟨⟨rfl, rfl⟩, Nat.le_of_ble_eq_true rfl, Nat.le_of_ble_eq_true rfl⟩ (Nat.le_of_ble_eq_true rfl) dX10_either_85 (fun H locs K => ?_)
          refine lv_if_eq (pc := 88) (tgt := 98) hx hb dX10_either_88 (by decide) (fun c15 => ?_) (fun c15 => ?_)
          · have hf := g_pos hf c15
            refine lv_iconst (v := 0) hx hb dX10_either_98 kI_0 ?_
            exact ok_retz B K hf (Or.inl rfl) dX10_either_99
          · have hf := g_neg hf c15
            refine lv_aload_n hx hb dX10_either_91 rfl (lv_at hl 0 rfl) ?_
            obtain ⟨r17, u16, hu16, hf⟩ := g_b2 hf
            refine ok_calli (rest := []) F K (pX10_endClause G hu16) mX10_endClause oc6 lX10_56 rfl hl.1 rfl ⟨⟨rfl, rfl⟩, Nat.le_of_ble_eq_true rfl, Nat.le_of_ble_eq_true rfl⟩ (Nat.le_of_ble_eq_true rfl) dX10_either_92 (fun H locs K => ?_)
            refine lv_if_ne (pc := 95) (tgt := 100) hx hb dX10_either_95 (by decide) (fun c18 => ?_) (fun c18 => ?_)
            · have hf := g_neg hf c18
              obtain ⟨x19, ex19⟩ : ∃ y : Int32, y = x3_ + 1 := ⟨_, rfl⟩
              have hf := g_lt hf x19 ex19
              refine lv_iinc (v := x19) (lv' := [(3, .int x19), (0, .ref (G.1 6)), (1, .int x1_), (2, .int x2_)]) hx hb dX10_either_100 hl (k := 3) rfl (by rw [kI_1, ex19]) (by decide) rfl (fun ls hl => ?_)
              refine lv_goto (pc := 103) (tgt := 60) hx hb dX10_either_103 (by decide) ?_
              exact ih.2 x1_ x2_ x19 u16 _ _ _ hf K (lv_sub hl [1, 2, 3, 0] rfl)
            · have hf := g_pos hf c18
              refine lv_iconst (v := 0) hx hb dX10_either_98 kI_0 ?_
              exact ok_retz B K hf (Or.inl rfl) dX10_either_99
set_option maxRecDepth 100000 in
set_option maxHeartbeats 4000000 in
theorem pX10_either {l : Launch} (G : Gt) {r : Int32} {u u' : St} (hf : fX10_either u = some (r, u')) : Ctr 0 76 l yX10_either cX10_either 4 (some .boolean) rmX10_either [.ref (G.1 6)] G u (some (.int r)) u' := by
  refine Ctr.mk (by decide) (Nat.le_of_ble_eq_true rfl) (fun p e s m below meth c A ls B K hl => ?_)
  have F := B.1
  have hx := F.1
  have hb := F.2.1
  have hl : lv_has ls 4 [(0, .ref (G.1 6))] := hl
  unfold fX10_either at hf
  refine lv_aload_n hx hb dX10_either_0 rfl (lv_at hl 0 rfl) ?_
  refine ok_int F K fX10_50 dX10_either_1 ?_
  refine lv_iconst (v := 2) hx hb dX10_either_4 kI_2 ?_
  refine lv_icmp_ge (pc := 5) (tgt := 10) hx hb dX10_either_5 (by decide) (fun c20 => ?_) (fun c20 => ?_)
  · have hf := g_pos hf c20
    refine lv_aload_n hx hb dX10_either_10 rfl (lv_at hl 0 rfl) ?_
    refine lv_dup hx hb dX10_either_11 rfl ?_
    refine ok_int F K fX10_50 dX10_either_12 ?_
    refine lv_iconst (v := 2) hx hb dX10_either_15 kI_2 ?_
    refine lv_isub hx hb dX10_either_16 ?_
    refine ok_putI F K qX10_50 dX10_either_17 (fun u21 H locs eu21 K => ?_)
    have hf := g_lt hf u21 eu21
    refine lv_aload_n hx hb dX10_either_20 rfl (lv_at hl 0 rfl) ?_
    refine ok_int F K fX10_47 dX10_either_21 ?_
    refine lv_topi (fun x22 ex22 => ?_)
    have hf := g_lt hf x22 ex22
    refine lv_istore_n (lv' := [(1, .int x22), (0, .ref (G.1 6))]) hx hb dX10_either_24 rfl hl (by decide) rfl (fun ls hl => ?_)
    refine lv_aload_n hx hb dX10_either_25 rfl (lv_at hl 1 rfl) ?_
    refine ok_ref F K fX10_26 dX10_either_26 ?_
    refine lv_aload_n hx hb dX10_either_29 rfl (lv_at hl 1 rfl) ?_
    refine ok_int F K fX10_50 dX10_either_30 ?_
    obtain ⟨v23, hv23, hf⟩ := g_bd hf
    refine ok_iald F K t53 hv23 dX10_either_33 ?_
    refine lv_istore_n (lv' := [(2, .int v23), (1, .int x22), (0, .ref (G.1 6))]) hx hb dX10_either_34 rfl hl (by decide) rfl (fun ls hl => ?_)
    exact (pX10_either_L0  B FU).1 x22 v23 u21 _ _ _ hf K (lv_sub hl [2, 1, 0] rfl)
  · have hf := g_neg hf c20
    refine lv_iconst (v := 0) hx hb dX10_either_8 kI_0 ?_
    exact ok_retz B K hf (Or.inl rfl) dX10_either_9
abbrev rmX0_pushPair : Room := { frames := 1, cells := 0, slots := 0, locals := 22 }
set_option maxRecDepth 100000 in
set_option maxHeartbeats 4000000 in
theorem pX0_pushPair {l : Launch} (G : Gt) {a0 : Int32} {a1 : Int32} {a2 : Int32} {a3 : Int32} {a4 : Int32} {u u' : St} (hf : fX0_pushPair a0 a1 a2 a3 a4 u = some u') : Ctr 0 76 l yX0_pushPair cX0_pushPair 6 none rmX0_pushPair [.ref (G.1 5), .int a0, .int a1, .int a2, .int a3, .int a4] G u none u' := by
  refine Ctr.mk (by decide) (Nat.le_of_ble_eq_true rfl) (fun p e s m below meth c A ls B K hl => ?_)
  have F := B.1
  have hx := F.1
  have hb := F.2.1
  have hl : lv_has ls 6 [(0, .ref (G.1 5)), (1, .int a0), (2, .int a1), (3, .int a2), (4, .int a3), (5, .int a4)] := hl
  unfold fX0_pushPair at hf
  refine lv_aload_n hx hb dX0_pushPair_0 rfl (lv_at hl 0 rfl) ?_
  refine lv_iload_n hx hb dX0_pushPair_1 rfl (lv_at hl 1 rfl) ?_
  refine lv_iconst (v := 0) hx hb dX0_pushPair_2 kI_0 ?_
  obtain ⟨u1, hu1, hf⟩ := g_bd hf
  refine ok_callv (rest := []) F K (pX0_push G hu1) mX0_push oc5 lX0_84 rfl hl.1 rfl ⟨⟨rfl, rfl⟩, Nat.le_of_ble_eq_true rfl, Nat.le_of_ble_eq_true rfl⟩ (Nat.le_of_ble_eq_true rfl) dX0_pushPair_3 (fun H locs K => ?_)
  refine lv_aload_n hx hb dX0_pushPair_6 rfl (lv_at hl 0 rfl) ?_
  refine lv_iload hx hb dX0_pushPair_7 (lv_at hl 4 rfl) ?_
  refine lv_iload hx hb dX0_pushPair_9 (lv_at hl 5 rfl) ?_
  obtain ⟨u2, hu2, hf⟩ := g_bd hf
  refine ok_callv (rest := []) F K (pX0_push G hu2) mX0_push oc5 lX0_84 rfl hl.1 rfl ⟨⟨rfl, rfl⟩, Nat.le_of_ble_eq_true rfl, Nat.le_of_ble_eq_true rfl⟩ (Nat.le_of_ble_eq_true rfl) dX0_pushPair_11 (fun H locs K => ?_)
  refine lv_aload_n hx hb dX0_pushPair_14 rfl (lv_at hl 0 rfl) ?_
  refine lv_iload_n hx hb dX0_pushPair_15 rfl (lv_at hl 2 rfl) ?_
  refine lv_iload_n hx hb dX0_pushPair_16 rfl (lv_at hl 3 rfl) ?_
  obtain ⟨u3, hu3, hf⟩ := g_bd hf
  refine ok_callv (rest := []) F K (pX0_push G hu3) mX0_push oc5 lX0_84 rfl hl.1 rfl ⟨⟨rfl, rfl⟩, Nat.le_of_ble_eq_true rfl, Nat.le_of_ble_eq_true rfl⟩ (Nat.le_of_ble_eq_true rfl) dX0_pushPair_17 (fun H locs K => ?_)
  exact ok_retv B K hf dX0_pushPair_20
abbrev rmX0_visit : Room := { frames := 3, cells := 0, slots := 0, locals := 70 }
set_option maxRecDepth 100000 in
set_option maxHeartbeats 4000000 in
theorem pX0_visit_j245 {p : Program} {l : Launch} {e : Env} {s : State} {m : MethodId} {below : List Frame} {meth : Method} {c : Code} {A : Nat → Prop} {G : Gt} {a0 : Int32} {a1 : Int32} {u' : St} (B : Bd p s m [.ref (G.1 5), .int a0, .int a1] meth c yX0_visit cX0_visit 8 none) (x2_ : Int32) (x4_ : Int32) (s0_ : Int32) (s1_ : Int32) (u : St) (H : Heap) (locs : List Loc) (ls : Array Slot) (hf : fX0_visit_j245 x2_ x4_ s0_ s1_ u = some u') (K : Ok 0 76 G A s u H locs) (hl : lv_has ls 8 [(0, .ref (G.1 5)), (2, .int x2_), (4, .int x4_)]) : W p l e rmX0_visit s m ([.ref (G.1 5), .int a0, .int a1] : List Value).toArray below meth c H locs 0 0 (MQ below (Qg 0 76 G A none u') ([.ref (G.1 5), .int a0, .int a1] : List Value).toArray s 0 0 A) (F0 m 245 ls [.int s1_, .int s0_, .ref (G.1 5)]) := by
  have F := B.1
  have hx := F.1
  have hb := F.2.1
  unfold fX0_visit_j245 at hf
  obtain ⟨u1, hu1, hf⟩ := g_bd hf
  refine ok_callv (rest := []) F K (pX0_enter G hu1) mX0_enter oc5 lX0_126 rfl hl.1 rfl ⟨⟨rfl, rfl⟩, Nat.le_of_ble_eq_true rfl, Nat.le_of_ble_eq_true rfl⟩ (Nat.le_of_ble_eq_true rfl) dX0_visit_245 (fun H locs K => ?_)
  refine lv_aload_n hx hb dX0_visit_248 rfl (lv_at hl 0 rfl) ?_
  refine lv_iconst (v := 4) hx hb dX0_visit_249 kI_4 ?_
  refine lv_iconst (v := 0) hx hb dX0_visit_250 kI_0 ?_
  obtain ⟨u2, hu2, hf⟩ := g_bd hf
  refine ok_callv (rest := []) F K (pX0_push G hu2) mX0_push oc5 lX0_84 rfl hl.1 rfl ⟨⟨rfl, rfl⟩, Nat.le_of_ble_eq_true rfl, Nat.le_of_ble_eq_true rfl⟩ (Nat.le_of_ble_eq_true rfl) dX0_visit_251 (fun H locs K => ?_)
  refine lv_aload_n hx hb dX0_visit_254 rfl (lv_at hl 0 rfl) ?_
  refine lv_iload_n hx hb dX0_visit_255 rfl (lv_at hl 1 rfl) ?_
  refine lv_iload hx hb dX0_visit_256 (lv_at hl 2 rfl) ?_
  obtain ⟨u3, hu3, hf⟩ := g_bd hf
  refine ok_callv (rest := []) F K (pX0_push G hu3) mX0_push oc5 lX0_84 rfl hl.1 rfl ⟨⟨rfl, rfl⟩, Nat.le_of_ble_eq_true rfl, Nat.le_of_ble_eq_true rfl⟩ (Nat.le_of_ble_eq_true rfl) dX0_visit_258 (fun H locs K => ?_)
  exact ok_retv B K hf dX0_visit_261
set_option maxRecDepth 100000 in
set_option maxHeartbeats 4000000 in
theorem pX0_visit_j228 {p : Program} {l : Launch} {e : Env} {s : State} {m : MethodId} {below : List Frame} {meth : Method} {c : Code} {A : Nat → Prop} {G : Gt} {a0 : Int32} {a1 : Int32} {u' : St} (B : Bd p s m [.ref (G.1 5), .int a0, .int a1] meth c yX0_visit cX0_visit 8 none) (x2_ : Int32) (x4_ : Int32) (s0_ : Int32) (s1_ : Int32) (u : St) (H : Heap) (locs : List Loc) (ls : Array Slot) (hf : fX0_visit_j228 x2_ x4_ s0_ s1_ u = some u') (K : Ok 0 76 G A s u H locs) (hl : lv_has ls 8 [(0, .ref (G.1 5)), (2, .int x2_), (4, .int x4_)]) : W p l e rmX0_visit s m ([.ref (G.1 5), .int a0, .int a1] : List Value).toArray below meth c H locs 0 0 (MQ below (Qg 0 76 G A none u') ([.ref (G.1 5), .int a0, .int a1] : List Value).toArray s 0 0 A) (F0 m 228 ls [.int s1_, .int s0_, .ref (G.1 5)]) := by
  have F := B.1
  have hx := F.1
  have hb := F.2.1
  unfold fX0_visit_j228 at hf
  refine lv_iload_n hx hb dX0_visit_228 rfl (lv_at hl 1 rfl) ?_
  refine lv_if_ne (pc := 229) (tgt := 236) hx hb dX0_visit_229 (by decide) (fun c4 => ?_) (fun c4 => ?_)
  · have hf := g_neg hf c4
    refine lv_iconst (v := 0) hx hb dX0_visit_236 kI_0 ?_
    refine lv_icmp_ne (pc := 237) (tgt := 244) hx hb dX0_visit_237 (by decide) (fun c5 => ?_) (fun c5 => ?_)
    · have hf := g_neg hf c5
      refine lv_iconst (v := 0) hx hb dX0_visit_244 kI_0 ?_
      exact pX0_visit_j245  B x2_ x4_ s0_ 0 u _ _ _ hf K (lv_sub hl [0, 1, 2] rfl)
    · have hf := g_pos hf c5
      refine lv_iconst (v := 1) hx hb dX0_visit_240 kI_1 ?_
      refine lv_goto (pc := 241) (tgt := 245) hx hb dX0_visit_241 (by decide) ?_
      exact pX0_visit_j245  B x2_ x4_ s0_ 1 u _ _ _ hf K (lv_sub hl [0, 1, 2] rfl)
  · have hf := g_pos hf c4
    refine lv_iconst (v := 1) hx hb dX0_visit_232 kI_1 ?_
    refine lv_goto (pc := 233) (tgt := 237) hx hb dX0_visit_233 (by decide) ?_
    refine lv_icmp_ne (pc := 237) (tgt := 244) hx hb dX0_visit_237 (by decide) (fun c6 => ?_) (fun c6 => ?_)
    · have hf := g_neg hf c6
      refine lv_iconst (v := 0) hx hb dX0_visit_244 kI_0 ?_
      exact pX0_visit_j245  B x2_ x4_ s0_ 0 u _ _ _ hf K (lv_sub hl [0, 1, 2] rfl)
    · have hf := g_pos hf c6
      refine lv_iconst (v := 1) hx hb dX0_visit_240 kI_1 ?_
      refine lv_goto (pc := 241) (tgt := 245) hx hb dX0_visit_241 (by decide) ?_
      exact pX0_visit_j245  B x2_ x4_ s0_ 1 u _ _ _ hf K (lv_sub hl [0, 1, 2] rfl)
set_option maxRecDepth 100000 in
set_option maxHeartbeats 4000000 in
theorem pX0_visit_j52 {p : Program} {l : Launch} {e : Env} {s : State} {m : MethodId} {below : List Frame} {meth : Method} {c : Code} {A : Nat → Prop} {G : Gt} {a0 : Int32} {a1 : Int32} {u' : St} (B : Bd p s m [.ref (G.1 5), .int a0, .int a1] meth c yX0_visit cX0_visit 8 none) (x1_ : Int32) (x2_ : Int32) (x3_ : Int32) (x4_ : Int32) (x5_ : Int32) (x6_ : Int32) (s0_ : Int32) (u : St) (H : Heap) (locs : List Loc) (ls : Array Slot) (hf : fX0_visit_j52 x1_ x2_ x3_ x4_ x5_ x6_ s0_ u = some u') (K : Ok 0 76 G A s u H locs) (hl : lv_has ls 8 [(0, .ref (G.1 5)), (1, .int x1_), (2, .int x2_), (3, .int x3_), (4, .int x4_), (5, .int x5_), (6, .int x6_)]) : W p l e rmX0_visit s m ([.ref (G.1 5), .int a0, .int a1] : List Value).toArray below meth c H locs 0 0 (MQ below (Qg 0 76 G A none u') ([.ref (G.1 5), .int a0, .int a1] : List Value).toArray s 0 0 A) (F0 m 52 ls [.int s0_]) := by
  have F := B.1
  have hx := F.1
  have hb := F.2.1
  unfold fX0_visit_j52 at hf
  refine lv_istore (lv' := [(7, .int s0_), (0, .ref (G.1 5)), (1, .int x1_), (2, .int x2_), (3, .int x3_), (4, .int x4_), (5, .int x5_), (6, .int x6_)]) hx hb dX0_visit_52 hl (by decide) rfl (fun ls hl => ?_)
  refine lv_aload_n hx hb dX0_visit_54 rfl (lv_at hl 1 rfl) ?_
  refine ok_ref F K fX0_38 dX0_visit_55 ?_
  refine ok_ref F K fX0_115 dX0_visit_58 ?_
  refine lv_iload_n hx hb dX0_visit_61 rfl (lv_at hl 2 rfl) ?_
  obtain ⟨v7, hv7, hf⟩ := g_bd hf
  refine ok_iald F K t33 hv7 dX0_visit_62 ?_
  by_cases c8 : v7 = 0
  · have hf := g_pos hf c8
    refine lv_tableInE (pc := 63) (K := 0) (off := 37) (tgt := 100) hx hb dX0_visit_63 c8 (by decide) (by decide) rfl (by decide) ?_
    refine lv_aload_n hx hb dX0_visit_100 rfl (lv_at hl 1 rfl) ?_
    refine lv_iload_n hx hb dX0_visit_101 rfl (lv_at hl 4 rfl) ?_
    refine lv_iload hx hb dX0_visit_102 (lv_at hl 5 rfl) ?_
    refine lv_iload_n hx hb dX0_visit_104 rfl (lv_at hl 3 rfl) ?_
    refine lv_iconst (v := 1) hx hb dX0_visit_105 kI_1 ?_
    refine lv_icmp_ne (pc := 106) (tgt := 113) hx hb dX0_visit_106 (by decide) (fun c9 => ?_) (fun c9 => ?_)
    · have hf := g_neg hf c9
      refine lv_iconst (v := 0) hx hb dX0_visit_113 kI_0 ?_
      obtain ⟨u10, hu10, hf⟩ := g_bd hf
      refine ok_callv (rest := []) F K (pX0_literal G hu10) mX0_literal oc5 lX0_118 rfl hl.1 rfl ⟨⟨rfl, rfl⟩, Nat.le_of_ble_eq_true rfl, Nat.le_of_ble_eq_true rfl⟩ (Nat.le_of_ble_eq_true rfl) dX0_visit_114 (fun H locs K => ?_)
      refine lv_goto (pc := 117) (tgt := 261) hx hb dX0_visit_117 (by decide) ?_
      exact ok_retv B K hf dX0_visit_261
    · have hf := g_pos hf c9
      refine lv_iconst (v := 1) hx hb dX0_visit_109 kI_1 ?_
      refine lv_goto (pc := 110) (tgt := 114) hx hb dX0_visit_110 (by decide) ?_
      obtain ⟨u11, hu11, hf⟩ := g_bd hf
      refine ok_callv (rest := []) F K (pX0_literal G hu11) mX0_literal oc5 lX0_118 rfl hl.1 rfl ⟨⟨rfl, rfl⟩, Nat.le_of_ble_eq_true rfl, Nat.le_of_ble_eq_true rfl⟩ (Nat.le_of_ble_eq_true rfl) dX0_visit_114 (fun H locs K => ?_)
      refine lv_goto (pc := 117) (tgt := 261) hx hb dX0_visit_117 (by decide) ?_
      exact ok_retv B K hf dX0_visit_261
  · have hf := g_neg hf c8
    by_cases c12 : v7 = 1
    · have hf := g_pos hf c12
      refine lv_tableInE (pc := 63) (K := 1) (off := 57) (tgt := 120) hx hb dX0_visit_63 c12 (by decide) (by decide) rfl (by decide) ?_
      refine lv_aload_n hx hb dX0_visit_120 rfl (lv_at hl 1 rfl) ?_
      refine lv_iload hx hb dX0_visit_121 (lv_at hl 6 rfl) ?_
      refine lv_iload_n hx hb dX0_visit_123 rfl (lv_at hl 4 rfl) ?_
      obtain ⟨u13, hu13, hf⟩ := g_bd hf
      refine ok_callv (rest := []) F K (pX0_push G hu13) mX0_push oc5 lX0_84 rfl hl.1 rfl ⟨⟨rfl, rfl⟩, Nat.le_of_ble_eq_true rfl, Nat.le_of_ble_eq_true rfl⟩ (Nat.le_of_ble_eq_true rfl) dX0_visit_124 (fun H locs K => ?_)
      refine lv_goto (pc := 127) (tgt := 261) hx hb dX0_visit_127 (by decide) ?_
      exact ok_retv B K hf dX0_visit_261
    · have hf := g_neg hf c12
      by_cases c14 : v7 = 2
      · have hf := g_pos hf c14
        refine lv_tableInE (pc := 63) (K := 2) (off := 67) (tgt := 130) hx hb dX0_visit_63 c14 (by decide) (by decide) rfl (by decide) ?_
        refine lv_aload_n hx hb dX0_visit_130 rfl (lv_at hl 1 rfl) ?_
        refine lv_iload hx hb dX0_visit_131 (lv_at hl 0 rfl) ?_
        refine lv_iload_n hx hb dX0_visit_133 rfl (lv_at hl 3 rfl) ?_
        refine lv_iload_n hx hb dX0_visit_134 rfl (lv_at hl 4 rfl) ?_
        refine lv_iload_n hx hb dX0_visit_135 rfl (lv_at hl 3 rfl) ?_
        refine lv_iload hx hb dX0_visit_136 (lv_at hl 5 rfl) ?_
        obtain ⟨u15, hu15, hf⟩ := g_bd hf
        refine ok_callv (rest := []) F K (pX0_pushPair G hu15) mX0_pushPair oc5 lX0_122 rfl hl.1 rfl ⟨⟨rfl, rfl⟩, Nat.le_of_ble_eq_true rfl, Nat.le_of_ble_eq_true rfl⟩ (Nat.le_of_ble_eq_true rfl) dX0_visit_138 (fun H locs K => ?_)
        refine lv_goto (pc := 141) (tgt := 261) hx hb dX0_visit_141 (by decide) ?_
        exact ok_retv B K hf dX0_visit_261
      · have hf := g_neg hf c14
        by_cases c16 : v7 = 3
        · have hf := g_pos hf c16
          refine lv_tableInE (pc := 63) (K := 3) (off := 81) (tgt := 144) hx hb dX0_visit_63 c16 (by decide) (by decide) rfl (by decide) ?_
          refine lv_aload_n hx hb dX0_visit_144 rfl (lv_at hl 1 rfl) ?_
          refine lv_iload hx hb dX0_visit_145 (lv_at hl 7 rfl) ?_
          refine lv_iload_n hx hb dX0_visit_147 rfl (lv_at hl 3 rfl) ?_
          refine lv_iload_n hx hb dX0_visit_148 rfl (lv_at hl 4 rfl) ?_
          refine lv_iload_n hx hb dX0_visit_149 rfl (lv_at hl 3 rfl) ?_
          refine lv_iload hx hb dX0_visit_150 (lv_at hl 5 rfl) ?_
          obtain ⟨u17, hu17, hf⟩ := g_bd hf
          refine ok_callv (rest := []) F K (pX0_pushPair G hu17) mX0_pushPair oc5 lX0_122 rfl hl.1 rfl ⟨⟨rfl, rfl⟩, Nat.le_of_ble_eq_true rfl, Nat.le_of_ble_eq_true rfl⟩ (Nat.le_of_ble_eq_true rfl) dX0_visit_152 (fun H locs K => ?_)
          refine lv_goto (pc := 155) (tgt := 261) hx hb dX0_visit_155 (by decide) ?_
          exact ok_retv B K hf dX0_visit_261
        · have hf := g_neg hf c16
          by_cases c18 : v7 = 4
          · have hf := g_pos hf c18
            refine lv_tableInE (pc := 63) (K := 4) (off := 95) (tgt := 158) hx hb dX0_visit_63 c18 (by decide) (by decide) rfl (by decide) ?_
            refine lv_aload_n hx hb dX0_visit_158 rfl (lv_at hl 1 rfl) ?_
            refine lv_iload hx hb dX0_visit_159 (lv_at hl 7 rfl) ?_
            refine lv_iload hx hb dX0_visit_161 (lv_at hl 6 rfl) ?_
            refine lv_iload_n hx hb dX0_visit_163 rfl (lv_at hl 4 rfl) ?_
            refine lv_iload_n hx hb dX0_visit_164 rfl (lv_at hl 3 rfl) ?_
            refine lv_iload hx hb dX0_visit_165 (lv_at hl 5 rfl) ?_
            obtain ⟨u19, hu19, hf⟩ := g_bd hf
            refine ok_callv (rest := []) F K (pX0_pushPair G hu19) mX0_pushPair oc5 lX0_122 rfl hl.1 rfl ⟨⟨rfl, rfl⟩, Nat.le_of_ble_eq_true rfl, Nat.le_of_ble_eq_true rfl⟩ (Nat.le_of_ble_eq_true rfl) dX0_visit_167 (fun H locs K => ?_)
            refine lv_goto (pc := 170) (tgt := 261) hx hb dX0_visit_170 (by decide) ?_
            exact ok_retv B K hf dX0_visit_261
          · have hf := g_neg hf c18
            by_cases c20 : v7 = 5
            · have hf := g_pos hf c20
              refine lv_tableInE (pc := 63) (K := 5) (off := 110) (tgt := 173) hx hb dX0_visit_63 c20 (by decide) (by decide) rfl (by decide) ?_
              refine lv_aload_n hx hb dX0_visit_173 rfl (lv_at hl 1 rfl) ?_
              refine lv_iload hx hb dX0_visit_174 (lv_at hl 0 rfl) ?_
              refine lv_iconst (v := 0) hx hb dX0_visit_176 kI_0 ?_
              obtain ⟨u21, hu21, hf⟩ := g_bd hf
              refine ok_callv (rest := []) F K (pX0_push G hu21) mX0_push oc5 lX0_84 rfl hl.1 rfl ⟨⟨rfl, rfl⟩, Nat.le_of_ble_eq_true rfl, Nat.le_of_ble_eq_true rfl⟩ (Nat.le_of_ble_eq_true rfl) dX0_visit_177 (fun H locs K => ?_)
              refine lv_aload_n hx hb dX0_visit_180 rfl (lv_at hl 1 rfl) ?_
              refine lv_iload hx hb dX0_visit_181 (lv_at hl 7 rfl) ?_
              refine lv_iload hx hb dX0_visit_183 (lv_at hl 6 rfl) ?_
              refine lv_iload hx hb dX0_visit_185 (lv_at hl 5 rfl) ?_
              refine lv_iload_n hx hb dX0_visit_187 rfl (lv_at hl 3 rfl) ?_
              refine lv_iload_n hx hb dX0_visit_188 rfl (lv_at hl 4 rfl) ?_
              obtain ⟨u22, hu22, hf⟩ := g_bd hf
              refine ok_callv (rest := []) F K (pX0_pushPair G hu22) mX0_pushPair oc5 lX0_122 rfl hl.1 rfl ⟨⟨rfl, rfl⟩, Nat.le_of_ble_eq_true rfl, Nat.le_of_ble_eq_true rfl⟩ (Nat.le_of_ble_eq_true rfl) dX0_visit_189 (fun H locs K => ?_)
              refine lv_aload_n hx hb dX0_visit_192 rfl (lv_at hl 1 rfl) ?_
              refine lv_iload hx hb dX0_visit_193 (lv_at hl 7 rfl) ?_
              refine lv_iload hx hb dX0_visit_195 (lv_at hl 6 rfl) ?_
              refine lv_iload_n hx hb dX0_visit_197 rfl (lv_at hl 4 rfl) ?_
              refine lv_iload_n hx hb dX0_visit_198 rfl (lv_at hl 3 rfl) ?_
              refine lv_iload hx hb dX0_visit_199 (lv_at hl 5 rfl) ?_
              obtain ⟨u23, hu23, hf⟩ := g_bd hf
              refine ok_callv (rest := []) F K (pX0_pushPair G hu23) mX0_pushPair oc5 lX0_122 rfl hl.1 rfl ⟨⟨rfl, rfl⟩, Nat.le_of_ble_eq_true rfl, Nat.le_of_ble_eq_true rfl⟩ (Nat.le_of_ble_eq_true rfl) dX0_visit_201 (fun H locs K => ?_)
              refine lv_goto (pc := 204) (tgt := 261) hx hb dX0_visit_204 (by decide) ?_
              exact ok_retv B K hf dX0_visit_261
            · have hf := g_neg hf c20
              refine lv_tableOut (pc := 63) (tgt := 207) hx hb dX0_visit_63 (sw_out v7 0 5 (fun k h1 h2 => by have h3 : k = 0 ∨ k = 1 ∨ k = 2 ∨ k = 3 ∨ k = 4 ∨ k = 5 := (by omega); rcases h3 with rfl | rfl | rfl | rfl | rfl | rfl <;> simp only [kI_0, kI_1, kI_2, kI_3, kI_4, kI_5] <;> assumption)) (by decide) ?_
              refine lv_aload_n hx hb dX0_visit_207 rfl (lv_at hl 1 rfl) ?_
              refine lv_iload_n hx hb dX0_visit_208 rfl (lv_at hl 4 rfl) ?_
              refine lv_aload_n hx hb dX0_visit_209 rfl (lv_at hl 1 rfl) ?_
              refine ok_ref F K fX0_38 dX0_visit_210 ?_
              refine ok_ref F K fX0_115 dX0_visit_213 ?_
              refine lv_iload_n hx hb dX0_visit_216 rfl (lv_at hl 2 rfl) ?_
              obtain ⟨v24, hv24, hf⟩ := g_bd hf
              refine ok_iald F K t33 hv24 dX0_visit_217 ?_
              refine lv_bipush (v := 6) hx hb dX0_visit_218 kB_6 ?_
              refine lv_icmp_ne (pc := 220) (tgt := 227) hx hb dX0_visit_220 (by decide) (fun c25 => ?_) (fun c25 => ?_)
              · have hf := g_neg hf c25
                refine lv_iconst (v := 0) hx hb dX0_visit_227 kI_0 ?_
                exact pX0_visit_j228  B x2_ x4_ x3_ 0 u _ _ _ hf K (lv_sub hl [1, 3, 5] rfl)
              · have hf := g_pos hf c25
                refine lv_iconst (v := 1) hx hb dX0_visit_223 kI_1 ?_
                refine lv_goto (pc := 224) (tgt := 228) hx hb dX0_visit_224 (by decide) ?_
                exact pX0_visit_j228  B x2_ x4_ x3_ 1 u _ _ _ hf K (lv_sub hl [1, 3, 5] rfl)
set_option maxRecDepth 100000 in
set_option maxHeartbeats 4000000 in
theorem pX0_visit_j41 {p : Program} {l : Launch} {e : Env} {s : State} {m : MethodId} {below : List Frame} {meth : Method} {c : Code} {A : Nat → Prop} {G : Gt} {a0 : Int32} {a1 : Int32} {u' : St} (B : Bd p s m [.ref (G.1 5), .int a0, .int a1] meth c yX0_visit cX0_visit 8 none) (x1_ : Int32) (x2_ : Int32) (x3_ : Int32) (x4_ : Int32) (x5_ : Int32) (s0_ : Int32) (u : St) (H : Heap) (locs : List Loc) (ls : Array Slot) (hf : fX0_visit_j41 x1_ x2_ x3_ x4_ x5_ s0_ u = some u') (K : Ok 0 76 G A s u H locs) (hl : lv_has ls 8 [(0, .ref (G.1 5)), (1, .int x1_), (2, .int x2_), (3, .int x3_), (4, .int x4_), (5, .int x5_)]) : W p l e rmX0_visit s m ([.ref (G.1 5), .int a0, .int a1] : List Value).toArray below meth c H locs 0 0 (MQ below (Qg 0 76 G A none u') ([.ref (G.1 5), .int a0, .int a1] : List Value).toArray s 0 0 A) (F0 m 41 ls [.int s0_]) := by
  have F := B.1
  have hx := F.1
  have hb := F.2.1
  unfold fX0_visit_j41 at hf
  refine lv_istore (lv' := [(6, .int s0_), (0, .ref (G.1 5)), (1, .int x1_), (2, .int x2_), (3, .int x3_), (4, .int x4_), (5, .int x5_)]) hx hb dX0_visit_41 hl (by decide) rfl (fun ls hl => ?_)
  refine lv_iload_n hx hb dX0_visit_43 rfl (lv_at hl 3 rfl) ?_
  refine lv_if_ne (pc := 44) (tgt := 51) hx hb dX0_visit_44 (by decide) (fun c26 => ?_) (fun c26 => ?_)
  · have hf := g_neg hf c26
    refine lv_iconst (v := 3) hx hb dX0_visit_51 kI_3 ?_
    exact pX0_visit_j52  B x1_ x2_ x3_ x4_ x5_ s0_ 3 u _ _ _ hf K (lv_sub hl [1, 2, 3, 4, 5, 6, 0] rfl)
  · have hf := g_pos hf c26
    refine lv_iconst (v := 2) hx hb dX0_visit_47 kI_2 ?_
    refine lv_goto (pc := 48) (tgt := 52) hx hb dX0_visit_48 (by decide) ?_
    exact pX0_visit_j52  B x1_ x2_ x3_ x4_ x5_ s0_ 2 u _ _ _ hf K (lv_sub hl [1, 2, 3, 4, 5, 6, 0] rfl)
set_option maxRecDepth 100000 in
set_option maxHeartbeats 4000000 in
theorem pX0_visit_j30 {p : Program} {l : Launch} {e : Env} {s : State} {m : MethodId} {below : List Frame} {meth : Method} {c : Code} {A : Nat → Prop} {G : Gt} {a0 : Int32} {a1 : Int32} {u' : St} (B : Bd p s m [.ref (G.1 5), .int a0, .int a1] meth c yX0_visit cX0_visit 8 none) (x1_ : Int32) (x2_ : Int32) (x3_ : Int32) (x4_ : Int32) (s0_ : Int32) (u : St) (H : Heap) (locs : List Loc) (ls : Array Slot) (hf : fX0_visit_j30 x1_ x2_ x3_ x4_ s0_ u = some u') (K : Ok 0 76 G A s u H locs) (hl : lv_has ls 8 [(0, .ref (G.1 5)), (1, .int x1_), (2, .int x2_), (3, .int x3_), (4, .int x4_)]) : W p l e rmX0_visit s m ([.ref (G.1 5), .int a0, .int a1] : List Value).toArray below meth c H locs 0 0 (MQ below (Qg 0 76 G A none u') ([.ref (G.1 5), .int a0, .int a1] : List Value).toArray s 0 0 A) (F0 m 30 ls [.int s0_]) := by
  have F := B.1
  have hx := F.1
  have hb := F.2.1
  unfold fX0_visit_j30 at hf
  refine lv_istore (lv' := [(5, .int s0_), (0, .ref (G.1 5)), (1, .int x1_), (2, .int x2_), (3, .int x3_), (4, .int x4_)]) hx hb dX0_visit_30 hl (by decide) rfl (fun ls hl => ?_)
  refine lv_iload_n hx hb dX0_visit_32 rfl (lv_at hl 3 rfl) ?_
  refine lv_if_ne (pc := 33) (tgt := 40) hx hb dX0_visit_33 (by decide) (fun c27 => ?_) (fun c27 => ?_)
  · have hf := g_neg hf c27
    refine lv_iconst (v := 2) hx hb dX0_visit_40 kI_2 ?_
    exact pX0_visit_j41  B x1_ x2_ x3_ x4_ s0_ 2 u _ _ _ hf K (lv_sub hl [1, 2, 3, 4, 5, 0] rfl)
  · have hf := g_pos hf c27
    refine lv_iconst (v := 3) hx hb dX0_visit_36 kI_3 ?_
    refine lv_goto (pc := 37) (tgt := 41) hx hb dX0_visit_37 (by decide) ?_
    exact pX0_visit_j41  B x1_ x2_ x3_ x4_ s0_ 3 u _ _ _ hf K (lv_sub hl [1, 2, 3, 4, 5, 0] rfl)
set_option maxRecDepth 100000 in
set_option maxHeartbeats 4000000 in
theorem pX0_visit {l : Launch} (G : Gt) {a0 : Int32} {a1 : Int32} {u u' : St} (hf : fX0_visit a0 a1 u = some u') : Ctr 0 76 l yX0_visit cX0_visit 8 none rmX0_visit [.ref (G.1 5), .int a0, .int a1] G u none u' := by
  refine Ctr.mk (by decide) (Nat.le_of_ble_eq_true rfl) (fun p e s m below meth c A ls B K hl => ?_)
  have F := B.1
  have hx := F.1
  have hb := F.2.1
  have hl : lv_has ls 8 [(0, .ref (G.1 5)), (1, .int a0), (2, .int a1)] := hl
  unfold fX0_visit at hf
  refine lv_aload_n hx hb dX0_visit_0 rfl (lv_at hl 0 rfl) ?_
  refine ok_ref F K fX0_38 dX0_visit_1 ?_
  refine ok_ref F K fX0_109 dX0_visit_4 ?_
  refine lv_iload_n hx hb dX0_visit_7 rfl (lv_at hl 1 rfl) ?_
  obtain ⟨v28, hv28, hf⟩ := g_bd hf
  refine ok_iald F K t34 hv28 dX0_visit_8 ?_
  refine lv_istore_n (lv' := [(3, .int v28), (0, .ref (G.1 5)), (1, .int a0), (2, .int a1)]) hx hb dX0_visit_9 rfl hl (by decide) rfl (fun ls hl => ?_)
  refine lv_aload_n hx hb dX0_visit_10 rfl (lv_at hl 1 rfl) ?_
  refine ok_ref F K fX0_38 dX0_visit_11 ?_
  refine ok_ref F K fX0_112 dX0_visit_14 ?_
  refine lv_iload_n hx hb dX0_visit_17 rfl (lv_at hl 2 rfl) ?_
  obtain ⟨v29, hv29, hf⟩ := g_bd hf
  refine ok_iald F K t35 hv29 dX0_visit_18 ?_
  refine lv_istore (lv' := [(4, .int v29), (3, .int v28), (0, .ref (G.1 5)), (1, .int a0), (2, .int a1)]) hx hb dX0_visit_19 hl (by decide) rfl (fun ls hl => ?_)
  refine lv_iload_n hx hb dX0_visit_21 rfl (lv_at hl 4 rfl) ?_
  refine lv_if_ne (pc := 22) (tgt := 29) hx hb dX0_visit_22 (by decide) (fun c30 => ?_) (fun c30 => ?_)
  · have hf := g_neg hf c30
    refine lv_iconst (v := 0) hx hb dX0_visit_29 kI_0 ?_
    exact pX0_visit_j30  B a0 a1 v28 v29 0 u _ _ _ hf K (lv_sub hl [2, 3, 4, 1, 0] rfl)
  · have hf := g_pos hf c30
    refine lv_iconst (v := 1) hx hb dX0_visit_25 kI_1 ?_
    refine lv_goto (pc := 26) (tgt := 30) hx hb dX0_visit_26 (by decide) ?_
    exact pX0_visit_j30  B a0 a1 v28 v29 1 u _ _ _ hf K (lv_sub hl [2, 3, 4, 1, 0] rfl)
abbrev rmX0_perform : Room := { frames := 4, cells := 0, slots := 0, locals := 126 }
set_option maxRecDepth 100000 in
set_option maxHeartbeats 4000000 in
theorem pX0_perform {l : Launch} (G : Gt) {a0 : Int32} {a1 : Int32} {u u' : St} (hf : fX0_perform a0 a1 u = some u') : Ctr 0 76 l yX0_perform cX0_perform 3 none rmX0_perform [.ref (G.1 5), .int a0, .int a1] G u none u' := by
  refine Ctr.mk (by decide) (Nat.le_of_ble_eq_true rfl) (fun p e s m below meth c A ls B K hl => ?_)
  have F := B.1
  have hx := F.1
  have hb := F.2.1
  have hl : lv_has ls 3 [(0, .ref (G.1 5)), (1, .int a0), (2, .int a1)] := hl
  unfold fX0_perform at hf
  refine lv_iload_n hx hb dX0_perform_0 rfl (lv_at hl 1 rfl) ?_
  by_cases c1 : a0 = 2
  · have hf := g_pos hf c1
    refine lv_tableInE (pc := 1) (K := 2) (off := 27) (tgt := 28) hx hb dX0_perform_1 c1 (by decide) (by decide) rfl (by decide) ?_
    refine lv_aload_n hx hb dX0_perform_28 rfl (lv_at hl 0 rfl) ?_
    refine lv_dup hx hb dX0_perform_29 rfl ?_
    refine ok_int F K fX0_64 dX0_perform_30 ?_
    refine lv_aload_n hx hb dX0_perform_33 rfl (lv_at hl 0 rfl) ?_
    refine ok_ref F K fX0_42 dX0_perform_34 ?_
    obtain ⟨r3, u2, hu2, hf⟩ := g_b2 hf
    refine ok_calli (rest := [.int (gI u 5 5), .ref (G.1 5)]) F K (pX10_both G hu2) mX10_both oc6 lX0_96 rfl hl.1 rfl ⟨⟨rfl, rfl⟩, Nat.le_of_ble_eq_true rfl, Nat.le_of_ble_eq_true rfl⟩ (Nat.le_of_ble_eq_true rfl) dX0_perform_37 (fun H locs K => ?_)
    refine lv_if_ne (pc := 40) (tgt := 47) hx hb dX0_perform_40 (by decide) (fun c4 => ?_) (fun c4 => ?_)
    · have hf := g_neg hf c4
      refine lv_iconst (v := 0) hx hb dX0_perform_47 kI_0 ?_
      refine lv_ior hx hb dX0_perform_48 ?_
      obtain ⟨z6, hz6, hf⟩ := g_bd hf
      refine ok_putZ F K qX0_64 (g_zb hz6).2 dX0_perform_49 (fun u5 H locs eu5 K => ?_)
      have hf := g_lt hf u5 eu5
      refine lv_goto (pc := 52) (tgt := 95) hx hb dX0_perform_52 (by decide) ?_
      exact ok_retv B K hf dX0_perform_95
    · have hf := g_pos hf c4
      refine lv_iconst (v := 1) hx hb dX0_perform_43 kI_1 ?_
      refine lv_goto (pc := 44) (tgt := 48) hx hb dX0_perform_44 (by decide) ?_
      refine lv_ior hx hb dX0_perform_48 ?_
      obtain ⟨z8, hz8, hf⟩ := g_bd hf
      refine ok_putZ F K qX0_64 (g_zb hz8).2 dX0_perform_49 (fun u7 H locs eu7 K => ?_)
      have hf := g_lt hf u7 eu7
      refine lv_goto (pc := 52) (tgt := 95) hx hb dX0_perform_52 (by decide) ?_
      exact ok_retv B K hf dX0_perform_95
  · have hf := g_neg hf c1
    by_cases c9 : a0 = 3
    · have hf := g_pos hf c9
      refine lv_tableInE (pc := 1) (K := 3) (off := 54) (tgt := 55) hx hb dX0_perform_1 c9 (by decide) (by decide) rfl (by decide) ?_
      refine lv_aload_n hx hb dX0_perform_55 rfl (lv_at hl 0 rfl) ?_
      refine lv_dup hx hb dX0_perform_56 rfl ?_
      refine ok_int F K fX0_64 dX0_perform_57 ?_
      refine lv_aload_n hx hb dX0_perform_60 rfl (lv_at hl 0 rfl) ?_
      refine ok_ref F K fX0_42 dX0_perform_61 ?_
      obtain ⟨r11, u10, hu10, hf⟩ := g_b2 hf
      refine ok_calli (rest := [.int (gI u 5 5), .ref (G.1 5)]) F K (pX10_either G hu10) mX10_either oc6 lX0_100 rfl hl.1 rfl ⟨⟨rfl, rfl⟩, Nat.le_of_ble_eq_true rfl, Nat.le_of_ble_eq_true rfl⟩ (Nat.le_of_ble_eq_true rfl) dX0_perform_64 (fun H locs K => ?_)
      refine lv_if_ne (pc := 67) (tgt := 74) hx hb dX0_perform_67 (by decide) (fun c12 => ?_) (fun c12 => ?_)
      · have hf := g_neg hf c12
        refine lv_iconst (v := 0) hx hb dX0_perform_74 kI_0 ?_
        refine lv_ior hx hb dX0_perform_75 ?_
        obtain ⟨z14, hz14, hf⟩ := g_bd hf
        refine ok_putZ F K qX0_64 (g_zb hz14).2 dX0_perform_76 (fun u13 H locs eu13 K => ?_)
        have hf := g_lt hf u13 eu13
        refine lv_goto (pc := 79) (tgt := 95) hx hb dX0_perform_79 (by decide) ?_
        exact ok_retv B K hf dX0_perform_95
      · have hf := g_pos hf c12
        refine lv_iconst (v := 1) hx hb dX0_perform_70 kI_1 ?_
        refine lv_goto (pc := 71) (tgt := 75) hx hb dX0_perform_71 (by decide) ?_
        refine lv_ior hx hb dX0_perform_75 ?_
        obtain ⟨z16, hz16, hf⟩ := g_bd hf
        refine ok_putZ F K qX0_64 (g_zb hz16).2 dX0_perform_76 (fun u15 H locs eu15 K => ?_)
        have hf := g_lt hf u15 eu15
        refine lv_goto (pc := 79) (tgt := 95) hx hb dX0_perform_79 (by decide) ?_
        exact ok_retv B K hf dX0_perform_95
    · have hf := g_neg hf c9
      by_cases c17 : a0 = 4
      · have hf := g_pos hf c17
        refine lv_tableInE (pc := 1) (K := 4) (off := 81) (tgt := 82) hx hb dX0_perform_1 c17 (by decide) (by decide) rfl (by decide) ?_
        refine lv_aload_n hx hb dX0_perform_82 rfl (lv_at hl 0 rfl) ?_
        obtain ⟨u18, hu18, hf⟩ := g_bd hf
        refine ok_callv (rest := []) F K (pX0_leave G hu18) mX0_leave oc5 lX0_103 rfl hl.1 rfl ⟨⟨rfl, rfl⟩, Nat.le_of_ble_eq_true rfl, Nat.le_of_ble_eq_true rfl⟩ (Nat.le_of_ble_eq_true rfl) dX0_perform_83 (fun H locs K => ?_)
        refine lv_goto (pc := 86) (tgt := 95) hx hb dX0_perform_86 (by decide) ?_
        exact ok_retv B K hf dX0_perform_95
      · have hf := g_neg hf c17
        refine lv_tableOut (pc := 1) (tgt := 89) hx hb dX0_perform_1 (sw_out a0 2 4 (fun k h1 h2 => by have h3 : k = 2 ∨ k = 3 ∨ k = 4 := (by omega); rcases h3 with rfl | rfl | rfl <;> simp only [kI_2, kI_3, kI_4] <;> assumption)) (by decide) ?_
        refine lv_aload_n hx hb dX0_perform_89 rfl (lv_at hl 0 rfl) ?_
        refine lv_iload_n hx hb dX0_perform_90 rfl (lv_at hl 2 rfl) ?_
        refine lv_iload_n hx hb dX0_perform_91 rfl (lv_at hl 1 rfl) ?_
        obtain ⟨u19, hu19, hf⟩ := g_bd hf
        refine ok_callv (rest := []) F K (pX0_visit G hu19) mX0_visit oc5 lX0_106 rfl hl.1 rfl ⟨⟨rfl, rfl⟩, Nat.le_of_ble_eq_true rfl, Nat.le_of_ble_eq_true rfl⟩ (Nat.le_of_ble_eq_true rfl) dX0_perform_92 (fun H locs K => ?_)
        exact ok_retv B K hf dX0_perform_95
abbrev rmX10_sameAtom : Room := { frames := 0, cells := 0, slots := 0, locals := 0 }
set_option maxRecDepth 100000 in
set_option maxHeartbeats 4000000 in
theorem pX10_sameAtom_L0 {p : Program} {l : Launch} {e : Env} {s : State} {m : MethodId} {below : List Frame} {meth : Method} {c : Code} {A : Nat → Prop} {G : Gt} {a0 : Int32} {a1 : Int32} {r : Int32} {u' : St} (B : Bd p s m [.ref (G.1 6), .int a0, .int a1] meth c yX10_sameAtom cX10_sameAtom 7 (some .boolean)) (n : Nat) : (∀ (x3_ : Int32) (x4_ : Int32) (x5_ : Int32) (x6_ : Int32) (u : St) (H : Heap) (locs : List Loc) (ls : Array Slot), fX10_sameAtom_L0  n 0 x3_ x4_ x5_ x6_ u = some (r, u') → Ok 0 76 G A s u H locs → lv_has ls 7 [(0, .ref (G.1 6)), (3, .int x3_), (4, .int x4_), (5, .int x5_), (6, .int x6_)] → W p l e rmX10_sameAtom s m ([.ref (G.1 6), .int a0, .int a1] : List Value).toArray below meth c H locs 0 0 (MQ below (Qg 0 76 G A (some (.int r)) u') ([.ref (G.1 6), .int a0, .int a1] : List Value).toArray s 0 0 A) (F0 m 48 ls [])) := by
  have F := B.1
  have hx := F.1
  have hb := F.2.1
  induction n with
  | zero => exact fun _ _ _ _ _ _ _ _ hf => g_no hf
  | succ n ih =>
    refine ?_
    · intro x3_ x4_ x5_ x6_ u H locs ls hf K hl
      have hf : fX10_sameAtom_L0_0  (fX10_sameAtom_L0  n) x3_ x4_ x5_ x6_ u = some (r, u') := hf
      unfold fX10_sameAtom_L0_0 at hf
      refine lv_iload hx hb dX10_sameAtom_48 (lv_at hl 4 rfl) ?_
      refine lv_iload hx hb dX10_sameAtom_50 (lv_at hl 3 rfl) ?_
      refine lv_icmp_ge (pc := 52) (tgt := 85) hx hb dX10_sameAtom_52 (by decide) (fun c1 => ?_) (fun c1 => ?_)
      · have hf := g_pos hf c1
        refine lv_iconst (v := 1) hx hb dX10_sameAtom_85 kI_1 ?_
        exact ok_retz B K hf (Or.inr rfl) dX10_sameAtom_86
      · have hf := g_neg hf c1
        refine lv_aload_n hx hb dX10_sameAtom_55 rfl (lv_at hl 0 rfl) ?_
        refine ok_ref F K fX10_9 dX10_sameAtom_56 ?_
        refine lv_iload_n hx hb dX10_sameAtom_59 rfl (lv_at hl 1 rfl) ?_
        refine lv_iload hx hb dX10_sameAtom_60 (lv_at hl 4 rfl) ?_
        refine lv_iadd hx hb dX10_sameAtom_62 ?_
        obtain ⟨v2, hv2, hf⟩ := g_bd hf
        refine ok_iald F K t48 hv2 dX10_sameAtom_63 ?_
        refine lv_aload_n hx hb dX10_sameAtom_64 rfl (lv_at hl 0 rfl) ?_
        refine ok_ref F K fX10_9 dX10_sameAtom_65 ?_
        refine lv_iload hx hb dX10_sameAtom_68 (lv_at hl 2 rfl) ?_
        refine lv_iload hx hb dX10_sameAtom_70 (lv_at hl 4 rfl) ?_
        refine lv_iadd hx hb dX10_sameAtom_72 ?_
        obtain ⟨v3, hv3, hf⟩ := g_bd hf
        refine ok_iald F K t48 hv3 dX10_sameAtom_73 ?_
        refine lv_icmp_eq (pc := 74) (tgt := 79) hx hb dX10_sameAtom_74 (by decide) (fun c4 => ?_) (fun c4 => ?_)
        · have hf := g_pos hf c4
          obtain ⟨x5, ex5⟩ : ∃ y : Int32, y = x6_ + 1 := ⟨_, rfl⟩
          have hf := g_lt hf x5 ex5
          refine lv_iinc (v := x5) (lv' := [(6, .int x5), (0, .ref (G.1 6)), (3, .int x3_), (4, .int x4_), (5, .int x5_)]) hx hb dX10_sameAtom_79 hl (k := 4) rfl (by rw [kI_1, ex5]) (by decide) rfl (fun ls hl => ?_)
          refine lv_goto (pc := 82) (tgt := 48) hx hb dX10_sameAtom_82 (by decide) ?_
          exact ih x3_ x4_ x5_ x5 u _ _ _ hf K (lv_sub hl [1, 2, 3, 4, 0] rfl)
        · have hf := g_neg hf c4
          refine lv_iconst (v := 0) hx hb dX10_sameAtom_77 kI_0 ?_
          exact ok_retz B K hf (Or.inl rfl) dX10_sameAtom_78
set_option maxRecDepth 100000 in
set_option maxHeartbeats 4000000 in
theorem pX10_sameAtom {l : Launch} (G : Gt) {a0 : Int32} {a1 : Int32} {r : Int32} {u u' : St} (hf : fX10_sameAtom a0 a1 u = some (r, u')) : Ctr 0 76 l yX10_sameAtom cX10_sameAtom 7 (some .boolean) rmX10_sameAtom [.ref (G.1 6), .int a0, .int a1] G u (some (.int r)) u' := by
  refine Ctr.mk (by decide) (Nat.le_of_ble_eq_true rfl) (fun p e s m below meth c A ls B K hl => ?_)
  have F := B.1
  have hx := F.1
  have hb := F.2.1
  have hl : lv_has ls 7 [(0, .ref (G.1 6)), (1, .int a0), (2, .int a1)] := hl
  unfold fX10_sameAtom at hf
  refine lv_aload_n hx hb dX10_sameAtom_0 rfl (lv_at hl 0 rfl) ?_
  refine ok_ref F K fX10_13 dX10_sameAtom_1 ?_
  refine lv_iload_n hx hb dX10_sameAtom_4 rfl (lv_at hl 1 rfl) ?_
  obtain ⟨v6, hv6, hf⟩ := g_bd hf
  refine ok_iald F K t49 hv6 dX10_sameAtom_5 ?_
  refine lv_istore_n (lv' := [(3, .int v6), (0, .ref (G.1 6)), (1, .int a0), (2, .int a1)]) hx hb dX10_sameAtom_6 rfl hl (by decide) rfl (fun ls hl => ?_)
  refine lv_aload_n hx hb dX10_sameAtom_7 rfl (lv_at hl 1 rfl) ?_
  refine ok_ref F K fX10_13 dX10_sameAtom_8 ?_
  refine lv_iload_n hx hb dX10_sameAtom_11 rfl (lv_at hl 3 rfl) ?_
  obtain ⟨v7, hv7, hf⟩ := g_bd hf
  refine ok_iald F K t49 hv7 dX10_sameAtom_12 ?_
  refine lv_istore (lv' := [(4, .int v7), (3, .int v6), (0, .ref (G.1 6)), (1, .int a0), (2, .int a1)]) hx hb dX10_sameAtom_13 hl (by decide) rfl (fun ls hl => ?_)
  refine lv_aload_n hx hb dX10_sameAtom_15 rfl (lv_at hl 2 rfl) ?_
  refine ok_ref F K fX10_13 dX10_sameAtom_16 ?_
  refine lv_iload_n hx hb dX10_sameAtom_19 rfl (lv_at hl 3 rfl) ?_
  refine lv_iconst (v := 1) hx hb dX10_sameAtom_20 kI_1 ?_
  refine lv_iadd hx hb dX10_sameAtom_21 ?_
  obtain ⟨v8, hv8, hf⟩ := g_bd hf
  refine ok_iald F K t49 hv8 dX10_sameAtom_22 ?_
  refine lv_iload_n hx hb dX10_sameAtom_23 rfl (lv_at hl 1 rfl) ?_
  refine lv_isub hx hb dX10_sameAtom_24 ?_
  refine lv_topi (fun x9 ex9 => ?_)
  have hf := g_lt hf x9 ex9
  refine lv_istore (lv' := [(5, .int x9), (4, .int v7), (3, .int v6), (0, .ref (G.1 6)), (1, .int a0), (2, .int a1)]) hx hb dX10_sameAtom_25 hl (by decide) rfl (fun ls hl => ?_)
  refine lv_iload hx hb dX10_sameAtom_27 (lv_at hl 0 rfl) ?_
  refine lv_aload_n hx hb dX10_sameAtom_29 rfl (lv_at hl 3 rfl) ?_
  refine ok_ref F K fX10_13 dX10_sameAtom_30 ?_
  refine lv_iload_n hx hb dX10_sameAtom_33 rfl (lv_at hl 5 rfl) ?_
  refine lv_iconst (v := 1) hx hb dX10_sameAtom_34 kI_1 ?_
  refine lv_iadd hx hb dX10_sameAtom_35 ?_
  obtain ⟨v10, hv10, hf⟩ := g_bd hf
  refine ok_iald F K t49 hv10 dX10_sameAtom_36 ?_
  refine lv_iload hx hb dX10_sameAtom_37 (lv_at hl 1 rfl) ?_
  refine lv_isub hx hb dX10_sameAtom_39 ?_
  refine lv_icmp_eq (pc := 40) (tgt := 45) hx hb dX10_sameAtom_40 (by decide) (fun c11 => ?_) (fun c11 => ?_)
  · have hf := g_pos hf c11
    refine lv_iconst (v := 0) hx hb dX10_sameAtom_45 kI_0 ?_
    refine lv_topi (fun x12 ex12 => ?_)
    have hf := g_lt hf x12 ex12
    refine lv_istore (lv' := [(6, .int x12), (5, .int x9), (4, .int v7), (3, .int v6), (0, .ref (G.1 6)), (1, .int a0), (2, .int a1)]) hx hb dX10_sameAtom_46 hl (by decide) rfl (fun ls hl => ?_)
    exact (pX10_sameAtom_L0  B FU) v6 v7 x9 x12 u _ _ _ hf K (lv_sub hl [4, 3, 2, 1, 0] rfl)
  · have hf := g_neg hf c11
    refine lv_iconst (v := 0) hx hb dX10_sameAtom_43 kI_0 ?_
    exact ok_retz B K hf (Or.inl rfl) dX10_sameAtom_44
abbrev rmX10_keep : Room := { frames := 1, cells := 0, slots := 0, locals := 26 }
set_option maxRecDepth 100000 in
set_option maxHeartbeats 4000000 in
theorem pX10_keep_L0 {p : Program} {l : Launch} {e : Env} {s : State} {m : MethodId} {below : List Frame} {meth : Method} {c : Code} {A : Nat → Prop} {G : Gt} {a0 : Int32} {r : Int32} {u' : St} (B : Bd p s m [.ref (G.1 6), .int a0] meth c yX10_keep cX10_keep 6 (some .int)) (n : Nat) : (∀ (x1_ : Int32) (x2_ : Int32) (x3_ : Int32) (u : St) (H : Heap) (locs : List Loc) (ls : Array Slot), fX10_keep_L0  n 0 x1_ x2_ x3_ 0 0 u = some (r, u') → Ok 0 76 G A s u H locs → lv_has ls 6 [(0, .ref (G.1 6)), (1, .int x1_), (2, .int x2_), (3, .int x3_)] → W p l e rmX10_keep s m ([.ref (G.1 6), .int a0] : List Value).toArray below meth c H locs 0 0 (MQ below (Qg 0 76 G A (some (.int r)) u') ([.ref (G.1 6), .int a0] : List Value).toArray s 0 0 A) (F0 m 9 ls [])) ∧ (∀ (x1_ : Int32) (x2_ : Int32) (x3_ : Int32) (x4_ : Int32) (x5_ : Int32) (u : St) (H : Heap) (locs : List Loc) (ls : Array Slot), fX10_keep_L0  n 1 x1_ x2_ x3_ x4_ x5_ u = some (r, u') → Ok 0 76 G A s u H locs → lv_has ls 6 [(0, .ref (G.1 6)), (1, .int x1_), (2, .int x2_), (3, .int x3_), (4, .int x4_), (5, .int x5_)] → W p l e rmX10_keep s m ([.ref (G.1 6), .int a0] : List Value).toArray below meth c H locs 0 0 (MQ below (Qg 0 76 G A (some (.int r)) u') ([.ref (G.1 6), .int a0] : List Value).toArray s 0 0 A) (F0 m 27 ls [])) ∧ (∀ (x1_ : Int32) (x2_ : Int32) (x3_ : Int32) (x4_ : Int32) (u : St) (H : Heap) (locs : List Loc) (ls : Array Slot), fX10_keep_L0  n 2 x1_ x2_ x3_ x4_ 0 u = some (r, u') → Ok 0 76 G A s u H locs → lv_has ls 6 [(0, .ref (G.1 6)), (1, .int x1_), (2, .int x2_), (3, .int x3_), (4, .int x4_)] → W p l e rmX10_keep s m ([.ref (G.1 6), .int a0] : List Value).toArray below meth c H locs 0 0 (MQ below (Qg 0 76 G A (some (.int r)) u') ([.ref (G.1 6), .int a0] : List Value).toArray s 0 0 A) (F0 m 95 ls [])) := by
  have F := B.1
  have hx := F.1
  have hb := F.2.1
  induction n with
  | zero => exact ⟨fun _ _ _ _ _ _ _ hf => g_no hf, fun _ _ _ _ _ _ _ _ _ hf => g_no hf, fun _ _ _ _ _ _ _ _ hf => g_no hf⟩
  | succ n ih =>
    refine ⟨?_, ?_, ?_⟩
    · intro x1_ x2_ x3_ u H locs ls hf K hl
      have hf : fX10_keep_L0_0  (fX10_keep_L0  n) x1_ x2_ x3_ u = some (r, u') := hf
      unfold fX10_keep_L0_0 at hf
      refine lv_iload_n hx hb dX10_keep_9 rfl (lv_at hl 3 rfl) ?_
      refine lv_aload_n hx hb dX10_keep_10 rfl (lv_at hl 0 rfl) ?_
      refine ok_ref F K fX10_23 dX10_keep_11 ?_
      refine lv_iload_n hx hb dX10_keep_14 rfl (lv_at hl 1 rfl) ?_
      refine lv_iconst (v := 1) hx hb dX10_keep_15 kI_1 ?_
      refine lv_iadd hx hb dX10_keep_16 ?_
      obtain ⟨v1, hv1, hf⟩ := g_bd hf
      refine ok_iald F K t52 hv1 dX10_keep_17 ?_
      refine lv_icmp_ge (pc := 18) (tgt := 121) hx hb dX10_keep_18 (by decide) (fun c2 => ?_) (fun c2 => ?_)
      · have hf := g_pos hf c2
        refine lv_iload_n hx hb dX10_keep_121 rfl (lv_at hl 2 rfl) ?_
        exact ok_reti B K hf dX10_keep_122
      · have hf := g_neg hf c2
        refine lv_iconst (v := 1) hx hb dX10_keep_21 kI_1 ?_
        refine lv_topi (fun x3 ex3 => ?_)
        have hf := g_lt hf x3 ex3
        refine lv_istore (lv' := [(4, .int x3), (0, .ref (G.1 6)), (1, .int x1_), (2, .int x2_), (3, .int x3_)]) hx hb dX10_keep_22 hl (by decide) rfl (fun ls hl => ?_)
        refine lv_iconst (v := 0) hx hb dX10_keep_24 kI_0 ?_
        refine lv_topi (fun x4 ex4 => ?_)
        have hf := g_lt hf x4 ex4
        refine lv_istore (lv' := [(5, .int x4), (4, .int x3), (0, .ref (G.1 6)), (1, .int x1_), (2, .int x2_), (3, .int x3_)]) hx hb dX10_keep_25 hl (by decide) rfl (fun ls hl => ?_)
        exact ih.2.1 x1_ x2_ x3_ x3 x4 u _ _ _ hf K (lv_sub hl [2, 3, 4, 5, 1, 0] rfl)
    · intro x1_ x2_ x3_ x4_ x5_ u H locs ls hf K hl
      have hf : fX10_keep_L0_1  (fX10_keep_L0  n) x1_ x2_ x3_ x4_ x5_ u = some (r, u') := hf
      unfold fX10_keep_L0_1 at hf
      refine lv_iload hx hb dX10_keep_27 (lv_at hl 5 rfl) ?_
      refine lv_iload_n hx hb dX10_keep_29 rfl (lv_at hl 2 rfl) ?_
      refine lv_icmp_ge (pc := 30) (tgt := 95) hx hb dX10_keep_30 (by decide) (fun c5 => ?_) (fun c5 => ?_)
      · have hf := g_pos hf c5
        exact ih.2.2 x1_ x2_ x3_ x4_ u _ _ _ hf K (lv_sub hl [0, 1, 2, 3, 4] rfl)
      · have hf := g_neg hf c5
        refine lv_iload hx hb dX10_keep_33 (lv_at hl 4 rfl) ?_
        refine lv_if_eq (pc := 35) (tgt := 95) hx hb dX10_keep_35 (by decide) (fun c6 => ?_) (fun c6 => ?_)
        · have hf := g_pos hf c6
          exact ih.2.2 x1_ x2_ x3_ x4_ u _ _ _ hf K (lv_sub hl [0, 1, 2, 3, 4] rfl)
        · have hf := g_neg hf c6
          refine lv_aload_n hx hb dX10_keep_38 rfl (lv_at hl 0 rfl) ?_
          refine lv_aload_n hx hb dX10_keep_39 rfl (lv_at hl 0 rfl) ?_
          refine ok_ref F K fX10_20 dX10_keep_40 ?_
          refine lv_iload_n hx hb dX10_keep_43 rfl (lv_at hl 3 rfl) ?_
          obtain ⟨v7, hv7, hf⟩ := g_bd hf
          refine ok_iald F K t51 hv7 dX10_keep_44 ?_
          refine lv_aload_n hx hb dX10_keep_45 rfl (lv_at hl 0 rfl) ?_
          refine ok_ref F K fX10_34 dX10_keep_46 ?_
          refine lv_iload hx hb dX10_keep_49 (lv_at hl 5 rfl) ?_
          obtain ⟨v8, hv8, hf⟩ := g_bd hf
          refine ok_iald F K t55 hv8 dX10_keep_51 ?_
          obtain ⟨r10, u9, hu9, hf⟩ := g_b2 hf
          refine ok_calli (rest := []) F K (pX10_sameAtom G hu9) mX10_sameAtom oc6 lX10_82 rfl hl.1 rfl ⟨⟨rfl, rfl⟩, Nat.le_of_ble_eq_true rfl, Nat.le_of_ble_eq_true rfl⟩ (Nat.le_of_ble_eq_true rfl) dX10_keep_52 (fun H locs K => ?_)
          refine lv_if_eq (pc := 55) (tgt := 89) hx hb dX10_keep_55 (by decide) (fun c11 => ?_) (fun c11 => ?_)
          · have hf := g_pos hf c11
            obtain ⟨x12, ex12⟩ : ∃ y : Int32, y = x5_ + 1 := ⟨_, rfl⟩
            have hf := g_lt hf x12 ex12
            refine lv_iinc (v := x12) (lv' := [(5, .int x12), (0, .ref (G.1 6)), (1, .int x1_), (2, .int x2_), (3, .int x3_), (4, .int x4_)]) hx hb dX10_keep_89 hl (k := 5) rfl (by rw [kI_1, ex12]) (by decide) rfl (fun ls hl => ?_)
            refine lv_goto (pc := 92) (tgt := 27) hx hb dX10_keep_92 (by decide) ?_
            exact ih.2.1 x1_ x2_ x3_ x4_ x12 u9 _ _ _ hf K (lv_sub hl [1, 2, 3, 4, 5, 0] rfl)
          · have hf := g_neg hf c11
            refine lv_aload_n hx hb dX10_keep_58 rfl (lv_at hl 0 rfl) ?_
            refine ok_ref F K fX10_16 dX10_keep_59 ?_
            refine lv_aload_n hx hb dX10_keep_62 rfl (lv_at hl 0 rfl) ?_
            refine ok_ref F K fX10_20 dX10_keep_63 ?_
            refine lv_iload_n hx hb dX10_keep_66 rfl (lv_at hl 3 rfl) ?_
            obtain ⟨v13, hv13, hf⟩ := g_bd hf
            refine ok_iald F K t51 hv13 dX10_keep_67 ?_
            obtain ⟨v14, hv14, hf⟩ := g_bd hf
            refine ok_zald F K t50 hv14 dX10_keep_68 ?_
            refine lv_aload_n hx hb dX10_keep_69 rfl (lv_at hl 0 rfl) ?_
            refine ok_ref F K fX10_16 dX10_keep_70 ?_
            refine lv_aload_n hx hb dX10_keep_73 rfl (lv_at hl 0 rfl) ?_
            refine ok_ref F K fX10_34 dX10_keep_74 ?_
            refine lv_iload hx hb dX10_keep_77 (lv_at hl 5 rfl) ?_
            obtain ⟨v15, hv15, hf⟩ := g_bd hf
            refine ok_iald F K t55 hv15 dX10_keep_79 ?_
            obtain ⟨v16, hv16, hf⟩ := g_bd hf
            refine ok_zald F K t50 hv16 dX10_keep_80 ?_
            refine lv_icmp_eq (pc := 81) (tgt := 86) hx hb dX10_keep_81 (by decide) (fun c17 => ?_) (fun c17 => ?_)
            · have hf := g_pos hf c17
              refine lv_iconst (v := 0) hx hb dX10_keep_86 kI_0 ?_
              refine lv_topi (fun x18 ex18 => ?_)
              have hf := g_lt hf x18 ex18
              refine lv_istore (lv' := [(4, .int x18), (0, .ref (G.1 6)), (1, .int x1_), (2, .int x2_), (3, .int x3_), (5, .int x5_)]) hx hb dX10_keep_87 hl (by decide) rfl (fun ls hl => ?_)
              obtain ⟨x19, ex19⟩ : ∃ y : Int32, y = x5_ + 1 := ⟨_, rfl⟩
              have hf := g_lt hf x19 ex19
              refine lv_iinc (v := x19) (lv' := [(5, .int x19), (4, .int x18), (0, .ref (G.1 6)), (1, .int x1_), (2, .int x2_), (3, .int x3_)]) hx hb dX10_keep_89 hl (k := 5) rfl (by rw [kI_1, ex19]) (by decide) rfl (fun ls hl => ?_)
              refine lv_goto (pc := 92) (tgt := 27) hx hb dX10_keep_92 (by decide) ?_
              exact ih.2.1 x1_ x2_ x3_ x18 x19 u9 _ _ _ hf K (lv_sub hl [2, 3, 4, 5, 1, 0] rfl)
            · have hf := g_neg hf c17
              refine lv_iconst (v := (-1)) hx hb dX10_keep_84 kI_m1 ?_
              exact ok_reti B K hf dX10_keep_85
    · intro x1_ x2_ x3_ x4_ u H locs ls hf K hl
      have hf : fX10_keep_L0_2  (fX10_keep_L0  n) x1_ x2_ x3_ x4_ u = some (r, u') := hf
      unfold fX10_keep_L0_2 at hf
      refine lv_iload hx hb dX10_keep_95 (lv_at hl 4 rfl) ?_
      refine lv_if_eq (pc := 97) (tgt := 115) hx hb dX10_keep_97 (by decide) (fun c20 => ?_) (fun c20 => ?_)
      · have hf := g_pos hf c20
        obtain ⟨x21, ex21⟩ : ∃ y : Int32, y = x3_ + 1 := ⟨_, rfl⟩
        have hf := g_lt hf x21 ex21
        refine lv_iinc (v := x21) (lv' := [(3, .int x21), (0, .ref (G.1 6)), (1, .int x1_), (2, .int x2_), (4, .int x4_)]) hx hb dX10_keep_115 hl (k := 3) rfl (by rw [kI_1, ex21]) (by decide) rfl (fun ls hl => ?_)
        refine lv_goto (pc := 118) (tgt := 9) hx hb dX10_keep_118 (by decide) ?_
        exact ih.1 x1_ x2_ x21 u _ _ _ hf K (lv_sub hl [1, 2, 3, 0] rfl)
      · have hf := g_neg hf c20
        refine lv_aload_n hx hb dX10_keep_100 rfl (lv_at hl 0 rfl) ?_
        refine ok_ref F K fX10_34 dX10_keep_101 ?_
        refine lv_iload_n hx hb dX10_keep_104 rfl (lv_at hl 2 rfl) ?_
        refine lv_aload_n hx hb dX10_keep_105 rfl (lv_at hl 0 rfl) ?_
        refine ok_ref F K fX10_20 dX10_keep_106 ?_
        refine lv_iload_n hx hb dX10_keep_109 rfl (lv_at hl 3 rfl) ?_
        obtain ⟨v22, hv22, hf⟩ := g_bd hf
        refine ok_iald F K t51 hv22 dX10_keep_110 ?_
        obtain ⟨u23, hu23, hf⟩ := g_bd hf
        refine ok_iast F K t55 hu23 dX10_keep_111 (fun H locs K => ?_)
        obtain ⟨x24, ex24⟩ : ∃ y : Int32, y = x2_ + 1 := ⟨_, rfl⟩
        have hf := g_lt hf x24 ex24
        refine lv_iinc (v := x24) (lv' := [(2, .int x24), (0, .ref (G.1 6)), (1, .int x1_), (3, .int x3_), (4, .int x4_)]) hx hb dX10_keep_112 hl (k := 2) rfl (by rw [kI_1, ex24]) (by decide) rfl (fun ls hl => ?_)
        obtain ⟨x25, ex25⟩ : ∃ y : Int32, y = x3_ + 1 := ⟨_, rfl⟩
        have hf := g_lt hf x25 ex25
        refine lv_iinc (v := x25) (lv' := [(3, .int x25), (2, .int x24), (0, .ref (G.1 6)), (1, .int x1_), (4, .int x4_)]) hx hb dX10_keep_115 hl (k := 3) rfl (by rw [kI_1, ex25]) (by decide) rfl (fun ls hl => ?_)
        refine lv_goto (pc := 118) (tgt := 9) hx hb dX10_keep_118 (by decide) ?_
        exact ih.1 x1_ x24 x25 u23 _ _ _ hf K (lv_sub hl [2, 3, 1, 0] rfl)
set_option maxRecDepth 100000 in
set_option maxHeartbeats 4000000 in
theorem pX10_keep {l : Launch} (G : Gt) {a0 : Int32} {r : Int32} {u u' : St} (hf : fX10_keep a0 u = some (r, u')) : Ctr 0 76 l yX10_keep cX10_keep 6 (some .int) rmX10_keep [.ref (G.1 6), .int a0] G u (some (.int r)) u' := by
  refine Ctr.mk (by decide) (Nat.le_of_ble_eq_true rfl) (fun p e s m below meth c A ls B K hl => ?_)
  have F := B.1
  have hx := F.1
  have hb := F.2.1
  have hl : lv_has ls 6 [(0, .ref (G.1 6)), (1, .int a0)] := hl
  unfold fX10_keep at hf
  refine lv_iconst (v := 0) hx hb dX10_keep_0 kI_0 ?_
  refine lv_topi (fun x26 ex26 => ?_)
  have hf := g_lt hf x26 ex26
  refine lv_istore_n (lv' := [(2, .int x26), (0, .ref (G.1 6)), (1, .int a0)]) hx hb dX10_keep_1 rfl hl (by decide) rfl (fun ls hl => ?_)
  refine lv_aload_n hx hb dX10_keep_2 rfl (lv_at hl 1 rfl) ?_
  refine ok_ref F K fX10_23 dX10_keep_3 ?_
  refine lv_iload_n hx hb dX10_keep_6 rfl (lv_at hl 2 rfl) ?_
  obtain ⟨v27, hv27, hf⟩ := g_bd hf
  refine ok_iald F K t52 hv27 dX10_keep_7 ?_
  refine lv_istore_n (lv' := [(3, .int v27), (2, .int x26), (0, .ref (G.1 6)), (1, .int a0)]) hx hb dX10_keep_8 rfl hl (by decide) rfl (fun ls hl => ?_)
  exact (pX10_keep_L0  B FU).1 a0 x26 v27 u _ _ _ hf K (lv_sub hl [2, 3, 1, 0] rfl)
abbrev rmX10_renumbered : Room := { frames := 0, cells := 0, slots := 0, locals := 0 }
set_option maxRecDepth 100000 in
set_option maxHeartbeats 4000000 in
theorem pX10_renumbered_L0 {p : Program} {l : Launch} {e : Env} {s : State} {m : MethodId} {below : List Frame} {meth : Method} {c : Code} {A : Nat → Prop} {G : Gt} {a0 : Int32} {r : Int32} {u' : St} (B : Bd p s m [.ref (G.1 6), .int a0] meth c yX10_renumbered cX10_renumbered 3 (some .int)) (n : Nat) : (∀ (x1_ : Int32) (x2_ : Int32) (u : St) (H : Heap) (locs : List Loc) (ls : Array Slot), fX10_renumbered_L0  n 0 x1_ x2_ u = some (r, u') → Ok 0 76 G A s u H locs → lv_has ls 3 [(0, .ref (G.1 6)), (1, .int x1_), (2, .int x2_)] → W p l e rmX10_renumbered s m ([.ref (G.1 6), .int a0] : List Value).toArray below meth c H locs 0 0 (MQ below (Qg 0 76 G A (some (.int r)) u') ([.ref (G.1 6), .int a0] : List Value).toArray s 0 0 A) (F0 m 2 ls [])) := by
  have F := B.1
  have hx := F.1
  have hb := F.2.1
  induction n with
  | zero => exact fun _ _ _ _ _ _ hf => g_no hf
  | succ n ih =>
    refine ?_
    · intro x1_ x2_ u H locs ls hf K hl
      have hf : fX10_renumbered_L0_0  (fX10_renumbered_L0  n) x1_ x2_ u = some (r, u') := hf
      unfold fX10_renumbered_L0_0 at hf
      refine lv_iload_n hx hb dX10_renumbered_2 rfl (lv_at hl 2 rfl) ?_
      refine lv_aload_n hx hb dX10_renumbered_3 rfl (lv_at hl 0 rfl) ?_
      refine ok_int F K fX10_92 dX10_renumbered_4 ?_
      refine lv_icmp_ge (pc := 7) (tgt := 30) hx hb dX10_renumbered_7 (by decide) (fun c1 => ?_) (fun c1 => ?_)
      · have hf := g_pos hf c1
        refine lv_aload_n hx hb dX10_renumbered_30 rfl (lv_at hl 0 rfl) ?_
        refine ok_int F K fX10_92 dX10_renumbered_31 ?_
        refine lv_bipush (v := 10) hx hb dX10_renumbered_34 kB_10 ?_
        refine lv_icmp_lt (pc := 36) (tgt := 41) hx hb dX10_renumbered_36 (by decide) (fun c2 => ?_) (fun c2 => ?_)
        · have hf := g_pos hf c2
          refine lv_aload_n hx hb dX10_renumbered_41 rfl (lv_at hl 0 rfl) ?_
          refine ok_ref F K fX10_37 dX10_renumbered_42 ?_
          refine lv_aload_n hx hb dX10_renumbered_45 rfl (lv_at hl 0 rfl) ?_
          refine ok_int F K fX10_92 dX10_renumbered_46 ?_
          refine lv_iload_n hx hb dX10_renumbered_49 rfl (lv_at hl 1 rfl) ?_
          obtain ⟨u3, hu3, hf⟩ := g_bd hf
          refine ok_iast F K t56 hu3 dX10_renumbered_50 (fun H locs K => ?_)
          refine lv_aload_n hx hb dX10_renumbered_51 rfl (lv_at hl 0 rfl) ?_
          refine lv_dup hx hb dX10_renumbered_52 rfl ?_
          refine ok_int F K fX10_92 dX10_renumbered_53 ?_
          refine lv_iconst (v := 1) hx hb dX10_renumbered_56 kI_1 ?_
          refine lv_iadd hx hb dX10_renumbered_57 ?_
          refine ok_putI F K qX10_92 dX10_renumbered_58 (fun u4 H locs eu4 K => ?_)
          have hf := g_lt hf u4 eu4
          refine lv_aload_n hx hb dX10_renumbered_61 rfl (lv_at hl 0 rfl) ?_
          refine ok_int F K fX10_92 dX10_renumbered_62 ?_
          refine lv_ineg hx hb dX10_renumbered_65 ?_
          exact ok_reti B K hf dX10_renumbered_66
        · have hf := g_neg hf c2
          refine lv_iconst (v := 0) hx hb dX10_renumbered_39 kI_0 ?_
          exact ok_reti B K hf dX10_renumbered_40
      · have hf := g_neg hf c1
        refine lv_aload_n hx hb dX10_renumbered_10 rfl (lv_at hl 0 rfl) ?_
        refine ok_ref F K fX10_37 dX10_renumbered_11 ?_
        refine lv_iload_n hx hb dX10_renumbered_14 rfl (lv_at hl 2 rfl) ?_
        obtain ⟨v5, hv5, hf⟩ := g_bd hf
        refine ok_iald F K t56 hv5 dX10_renumbered_15 ?_
        refine lv_iload_n hx hb dX10_renumbered_16 rfl (lv_at hl 1 rfl) ?_
        refine lv_icmp_ne (pc := 17) (tgt := 24) hx hb dX10_renumbered_17 (by decide) (fun c6 => ?_) (fun c6 => ?_)
        · have hf := g_neg hf c6
          obtain ⟨x7, ex7⟩ : ∃ y : Int32, y = x2_ + 1 := ⟨_, rfl⟩
          have hf := g_lt hf x7 ex7
          refine lv_iinc (v := x7) (lv' := [(2, .int x7), (0, .ref (G.1 6)), (1, .int x1_)]) hx hb dX10_renumbered_24 hl (k := 2) rfl (by rw [kI_1, ex7]) (by decide) rfl (fun ls hl => ?_)
          refine lv_goto (pc := 27) (tgt := 2) hx hb dX10_renumbered_27 (by decide) ?_
          exact ih x1_ x7 u _ _ _ hf K (lv_sub hl [1, 2, 0] rfl)
        · have hf := g_pos hf c6
          refine lv_iconst (v := (-1)) hx hb dX10_renumbered_20 kI_m1 ?_
          refine lv_iload_n hx hb dX10_renumbered_21 rfl (lv_at hl 2 rfl) ?_
          refine lv_isub hx hb dX10_renumbered_22 ?_
          exact ok_reti B K hf dX10_renumbered_23
set_option maxRecDepth 100000 in
set_option maxHeartbeats 4000000 in
theorem pX10_renumbered {l : Launch} (G : Gt) {a0 : Int32} {r : Int32} {u u' : St} (hf : fX10_renumbered a0 u = some (r, u')) : Ctr 0 76 l yX10_renumbered cX10_renumbered 3 (some .int) rmX10_renumbered [.ref (G.1 6), .int a0] G u (some (.int r)) u' := by
  refine Ctr.mk (by decide) (Nat.le_of_ble_eq_true rfl) (fun p e s m below meth c A ls B K hl => ?_)
  have F := B.1
  have hx := F.1
  have hb := F.2.1
  have hl : lv_has ls 3 [(0, .ref (G.1 6)), (1, .int a0)] := hl
  unfold fX10_renumbered at hf
  refine lv_iconst (v := 0) hx hb dX10_renumbered_0 kI_0 ?_
  refine lv_topi (fun x8 ex8 => ?_)
  have hf := g_lt hf x8 ex8
  refine lv_istore_n (lv' := [(2, .int x8), (0, .ref (G.1 6)), (1, .int a0)]) hx hb dX10_renumbered_1 rfl hl (by decide) rfl (fun ls hl => ?_)
  exact (pX10_renumbered_L0  B FU) a0 x8 u _ _ _ hf K (lv_sub hl [1, 2, 0] rfl)
abbrev rmX10_deliverKept : Room := { frames := 1, cells := 0, slots := 0, locals := 22 }
set_option maxRecDepth 100000 in
set_option maxHeartbeats 4000000 in
theorem pX10_deliverKept_L0 {p : Program} {l : Launch} {e : Env} {s : State} {m : MethodId} {below : List Frame} {meth : Method} {c : Code} {A : Nat → Prop} {G : Gt} {a1 : Int32} {r : Int32} {u' : St} (B : Bd p s m [.ref (G.1 6), .ref (G.1 2), .int a1] meth c yX10_deliverKept cX10_deliverKept 10 (some .boolean)) (n : Nat) : (∀ (x2_ : Int32) (x3_ : Int32) (x4_ : Int32) (x5_ : Int32) (x6_ : Int32) (x7_ : Int32) (u : St) (H : Heap) (locs : List Loc) (ls : Array Slot), fX10_deliverKept_L0  n 0 x2_ x3_ x4_ x5_ x6_ x7_ 0 0 0 u = some (r, u') → Ok 0 76 G A s u H locs → lv_has ls 10 [(0, .ref (G.1 6)), (1, .ref (G.1 2)), (2, .int x2_), (3, .int x3_), (4, .int x4_), (5, .int x5_), (6, .int x6_), (7, .int x7_)] → W p l e rmX10_deliverKept s m ([.ref (G.1 6), .ref (G.1 2), .int a1] : List Value).toArray below meth c H locs 0 0 (MQ below (Qg 0 76 G A (some (.int r)) u') ([.ref (G.1 6), .ref (G.1 2), .int a1] : List Value).toArray s 0 0 A) (F0 m 34 ls [])) ∧ (∀ (x2_ : Int32) (x3_ : Int32) (x4_ : Int32) (x5_ : Int32) (x6_ : Int32) (x7_ : Int32) (x8_ : Int32) (u : St) (H : Heap) (locs : List Loc) (ls : Array Slot), fX10_deliverKept_L0  n 1 x2_ x3_ x4_ x5_ x6_ x7_ x8_ 0 0 u = some (r, u') → Ok 0 76 G A s u H locs → lv_has ls 10 [(0, .ref (G.1 6)), (1, .ref (G.1 2)), (2, .int x2_), (3, .int x3_), (4, .int x4_), (5, .int x5_), (6, .int x6_), (7, .int x7_), (8, .int x8_)] → W p l e rmX10_deliverKept s m ([.ref (G.1 6), .ref (G.1 2), .int a1] : List Value).toArray below meth c H locs 0 0 (MQ below (Qg 0 76 G A (some (.int r)) u') ([.ref (G.1 6), .ref (G.1 2), .int a1] : List Value).toArray s 0 0 A) (F0 m 54 ls [])) ∧ (∀ (x2_ : Int32) (x3_ : Int32) (x4_ : Int32) (x5_ : Int32) (x6_ : Int32) (x7_ : Int32) (x8_ : Int32) (s0_ : Int32) (u : St) (H : Heap) (locs : List Loc) (ls : Array Slot), fX10_deliverKept_L0  n 2 x2_ x3_ x4_ x5_ x6_ x7_ x8_ 0 s0_ u = some (r, u') → Ok 0 76 G A s u H locs → lv_has ls 10 [(0, .ref (G.1 6)), (1, .ref (G.1 2)), (2, .int x2_), (3, .int x3_), (4, .int x4_), (5, .int x5_), (6, .int x6_), (7, .int x7_), (8, .int x8_)] → W p l e rmX10_deliverKept s m ([.ref (G.1 6), .ref (G.1 2), .int a1] : List Value).toArray below meth c H locs 0 0 (MQ below (Qg 0 76 G A (some (.int r)) u') ([.ref (G.1 6), .ref (G.1 2), .int a1] : List Value).toArray s 0 0 A) (F0 m 104 ls [.int s0_])) ∧ (∀ (x2_ : Int32) (x3_ : Int32) (x4_ : Int32) (x5_ : Int32) (x6_ : Int32) (x7_ : Int32) (x8_ : Int32) (x9_ : Int32) (u : St) (H : Heap) (locs : List Loc) (ls : Array Slot), fX10_deliverKept_L0  n 3 x2_ x3_ x4_ x5_ x6_ x7_ x8_ x9_ 0 u = some (r, u') → Ok 0 76 G A s u H locs → lv_has ls 10 [(0, .ref (G.1 6)), (1, .ref (G.1 2)), (2, .int x2_), (3, .int x3_), (4, .int x4_), (5, .int x5_), (6, .int x6_), (7, .int x7_), (8, .int x8_), (9, .int x9_)] → W p l e rmX10_deliverKept s m ([.ref (G.1 6), .ref (G.1 2), .int a1] : List Value).toArray below meth c H locs 0 0 (MQ below (Qg 0 76 G A (some (.int r)) u') ([.ref (G.1 6), .ref (G.1 2), .int a1] : List Value).toArray s 0 0 A) (F0 m 134 ls [])) := by
  have F := B.1
  have hx := F.1
  have hb := F.2.1
  induction n with
  | zero => exact ⟨fun _ _ _ _ _ _ _ _ _ _ hf => g_no hf, fun _ _ _ _ _ _ _ _ _ _ _ hf => g_no hf, fun _ _ _ _ _ _ _ _ _ _ _ _ hf => g_no hf, fun _ _ _ _ _ _ _ _ _ _ _ _ hf => g_no hf⟩
  | succ n ih =>
    refine ⟨?_, ?_, ?_, ?_⟩
    · intro x2_ x3_ x4_ x5_ x6_ x7_ u H locs ls hf K hl
      have hf : fX10_deliverKept_L0_0  (fX10_deliverKept_L0  n) x2_ x3_ x4_ x5_ x6_ x7_ u = some (r, u') := hf
      unfold fX10_deliverKept_L0_0 at hf
      refine lv_iload hx hb dX10_deliverKept_34 (lv_at hl 7 rfl) ?_
      refine lv_iload_n hx hb dX10_deliverKept_36 rfl (lv_at hl 2 rfl) ?_
      refine lv_icmp_ge (pc := 37) (tgt := 197) hx hb dX10_deliverKept_37 (by decide) (fun c1 => ?_) (fun c1 => ?_)
      · have hf := g_pos hf c1
        refine lv_aload_n hx hb dX10_deliverKept_197 rfl (lv_at hl 1 rfl) ?_
        refine ok_ref F K fX10_103 dX10_deliverKept_198 ?_
        refine lv_iload_n hx hb dX10_deliverKept_201 rfl (lv_at hl 3 rfl) ?_
        refine lv_aload_n hx hb dX10_deliverKept_202 rfl (lv_at hl 0 rfl) ?_
        refine ok_int F K fX10_92 dX10_deliverKept_203 ?_
        obtain ⟨u2, hu2, hf⟩ := g_bd hf
        refine ok_iast F K t19 hu2 dX10_deliverKept_206 (fun H locs K => ?_)
        refine lv_aload_n hx hb dX10_deliverKept_207 rfl (lv_at hl 1 rfl) ?_
        refine ok_ref F K fX10_86 dX10_deliverKept_208 ?_
        refine lv_iload_n hx hb dX10_deliverKept_211 rfl (lv_at hl 3 rfl) ?_
        refine lv_iconst (v := 1) hx hb dX10_deliverKept_212 kI_1 ?_
        refine lv_iadd hx hb dX10_deliverKept_213 ?_
        refine lv_iload hx hb dX10_deliverKept_214 (lv_at hl 4 rfl) ?_
        obtain ⟨u3, hu3, hf⟩ := g_bd hf
        refine ok_iast F K t18 hu3 dX10_deliverKept_216 (fun H locs K => ?_)
        refine lv_aload_n hx hb dX10_deliverKept_217 rfl (lv_at hl 1 rfl) ?_
        refine lv_dup hx hb dX10_deliverKept_218 rfl ?_
        refine ok_int F K fX10_73 dX10_deliverKept_219 ?_
        refine lv_iconst (v := 1) hx hb dX10_deliverKept_222 kI_1 ?_
        refine lv_iadd hx hb dX10_deliverKept_223 ?_
        refine ok_putI F K qX10_73 dX10_deliverKept_224 (fun u4 H locs eu4 K => ?_)
        have hf := g_lt hf u4 eu4
        refine lv_iconst (v := 1) hx hb dX10_deliverKept_227 kI_1 ?_
        exact ok_retz B K hf (Or.inr rfl) dX10_deliverKept_228
      · have hf := g_neg hf c1
        refine lv_aload_n hx hb dX10_deliverKept_40 rfl (lv_at hl 0 rfl) ?_
        refine ok_ref F K fX10_13 dX10_deliverKept_41 ?_
        refine lv_aload_n hx hb dX10_deliverKept_44 rfl (lv_at hl 0 rfl) ?_
        refine ok_ref F K fX10_34 dX10_deliverKept_45 ?_
        refine lv_iload hx hb dX10_deliverKept_48 (lv_at hl 7 rfl) ?_
        obtain ⟨v5, hv5, hf⟩ := g_bd hf
        refine ok_iald F K t55 hv5 dX10_deliverKept_50 ?_
        obtain ⟨v6, hv6, hf⟩ := g_bd hf
        refine ok_iald F K t49 hv6 dX10_deliverKept_51 ?_
        refine lv_istore (lv' := [(8, .int v6), (0, .ref (G.1 6)), (1, .ref (G.1 2)), (2, .int x2_), (3, .int x3_), (4, .int x4_), (5, .int x5_), (6, .int x6_), (7, .int x7_)]) hx hb dX10_deliverKept_52 hl (by decide) rfl (fun ls hl => ?_)
        exact ih.2.1 x2_ x3_ x4_ x5_ x6_ x7_ v6 u _ _ _ hf K (lv_sub hl [1, 2, 3, 4, 5, 6, 7, 8, 0] rfl)
    · intro x2_ x3_ x4_ x5_ x6_ x7_ x8_ u H locs ls hf K hl
      have hf : fX10_deliverKept_L0_1  (fX10_deliverKept_L0  n) x2_ x3_ x4_ x5_ x6_ x7_ x8_ u = some (r, u') := hf
      unfold fX10_deliverKept_L0_1 at hf
      refine lv_iload hx hb dX10_deliverKept_54 (lv_at hl 8 rfl) ?_
      refine lv_aload_n hx hb dX10_deliverKept_56 rfl (lv_at hl 0 rfl) ?_
      refine ok_ref F K fX10_13 dX10_deliverKept_57 ?_
      refine lv_aload_n hx hb dX10_deliverKept_60 rfl (lv_at hl 0 rfl) ?_
      refine ok_ref F K fX10_34 dX10_deliverKept_61 ?_
      refine lv_iload hx hb dX10_deliverKept_64 (lv_at hl 7 rfl) ?_
      obtain ⟨v7, hv7, hf⟩ := g_bd hf
      refine ok_iald F K t55 hv7 dX10_deliverKept_66 ?_
      refine lv_iconst (v := 1) hx hb dX10_deliverKept_67 kI_1 ?_
      refine lv_iadd hx hb dX10_deliverKept_68 ?_
      obtain ⟨v8, hv8, hf⟩ := g_bd hf
      refine ok_iald F K t49 hv8 dX10_deliverKept_69 ?_
      refine lv_icmp_ge (pc := 70) (tgt := 152) hx hb dX10_deliverKept_70 (by decide) (fun c9 => ?_) (fun c9 => ?_)
      · have hf := g_pos hf c9
        refine lv_aload_n hx hb dX10_deliverKept_152 rfl (lv_at hl 1 rfl) ?_
        refine ok_ref F K fX10_99 dX10_deliverKept_153 ?_
        refine lv_iload hx hb dX10_deliverKept_156 (lv_at hl 4 rfl) ?_
        refine lv_aload_n hx hb dX10_deliverKept_158 rfl (lv_at hl 0 rfl) ?_
        refine ok_ref F K fX10_16 dX10_deliverKept_159 ?_
        refine lv_aload_n hx hb dX10_deliverKept_162 rfl (lv_at hl 0 rfl) ?_
        refine ok_ref F K fX10_34 dX10_deliverKept_163 ?_
        refine lv_iload hx hb dX10_deliverKept_166 (lv_at hl 7 rfl) ?_
        obtain ⟨v10, hv10, hf⟩ := g_bd hf
        refine ok_iald F K t55 hv10 dX10_deliverKept_168 ?_
        obtain ⟨v11, hv11, hf⟩ := g_bd hf
        refine ok_zald F K t50 hv11 dX10_deliverKept_169 ?_
        obtain ⟨z13, hz13, hf⟩ := g_bd hf
        obtain ⟨u12, hu12, hf⟩ := g_bd hf
        refine ok_zast F K t30 (g_zb hz13).2 hu12 dX10_deliverKept_170 (fun H locs K => ?_)
        refine lv_aload_n hx hb dX10_deliverKept_171 rfl (lv_at hl 1 rfl) ?_
        refine ok_ref F K fX10_100 dX10_deliverKept_172 ?_
        refine lv_iload hx hb dX10_deliverKept_175 (lv_at hl 4 rfl) ?_
        refine lv_iload_n hx hb dX10_deliverKept_177 rfl (lv_at hl 3 rfl) ?_
        obtain ⟨u14, hu14, hf⟩ := g_bd hf
        refine ok_iast F K t31 hu14 dX10_deliverKept_178 (fun H locs K => ?_)
        obtain ⟨x15, ex15⟩ : ∃ y : Int32, y = x4_ + 1 := ⟨_, rfl⟩
        have hf := g_lt hf x15 ex15
        refine lv_iinc (v := x15) (lv' := [(4, .int x15), (0, .ref (G.1 6)), (1, .ref (G.1 2)), (2, .int x2_), (3, .int x3_), (5, .int x5_), (6, .int x6_), (7, .int x7_), (8, .int x8_)]) hx hb dX10_deliverKept_179 hl (k := 4) rfl (by rw [kI_1, ex15]) (by decide) rfl (fun ls hl => ?_)
        refine lv_aload_n hx hb dX10_deliverKept_182 rfl (lv_at hl 2 rfl) ?_
        refine ok_ref F K fX10_89 dX10_deliverKept_183 ?_
        refine lv_iload hx hb dX10_deliverKept_186 (lv_at hl 0 rfl) ?_
        refine lv_iload hx hb dX10_deliverKept_188 (lv_at hl 6 rfl) ?_
        obtain ⟨u16, hu16, hf⟩ := g_bd hf
        refine ok_iast F K t29 hu16 dX10_deliverKept_190 (fun H locs K => ?_)
        obtain ⟨x17, ex17⟩ : ∃ y : Int32, y = x7_ + 1 := ⟨_, rfl⟩
        have hf := g_lt hf x17 ex17
        refine lv_iinc (v := x17) (lv' := [(7, .int x17), (4, .int x15), (0, .ref (G.1 6)), (1, .ref (G.1 2)), (2, .int x2_), (3, .int x3_), (5, .int x5_), (6, .int x6_), (8, .int x8_)]) hx hb dX10_deliverKept_191 hl (k := 7) rfl (by rw [kI_1, ex17]) (by decide) rfl (fun ls hl => ?_)
        refine lv_goto (pc := 194) (tgt := 34) hx hb dX10_deliverKept_194 (by decide) ?_
        exact ih.1 x2_ x3_ x15 x5_ x6_ x17 u16 _ _ _ hf K (lv_sub hl [2, 3, 4, 5, 1, 6, 7, 0] rfl)
      · have hf := g_neg hf c9
        refine lv_aload_n hx hb dX10_deliverKept_73 rfl (lv_at hl 0 rfl) ?_
        refine ok_ref F K fX10_9 dX10_deliverKept_74 ?_
        refine lv_iload hx hb dX10_deliverKept_77 (lv_at hl 8 rfl) ?_
        obtain ⟨v18, hv18, hf⟩ := g_bd hf
        refine ok_iald F K t48 hv18 dX10_deliverKept_79 ?_
        refine lv_if_lt (pc := 80) (tgt := 93) hx hb dX10_deliverKept_80 (by decide) (fun c19 => ?_) (fun c19 => ?_)
        · have hf := g_pos hf c19
          refine lv_aload_n hx hb dX10_deliverKept_93 rfl (lv_at hl 0 rfl) ?_
          refine lv_aload_n hx hb dX10_deliverKept_94 rfl (lv_at hl 0 rfl) ?_
          refine ok_ref F K fX10_9 dX10_deliverKept_95 ?_
          refine lv_iload hx hb dX10_deliverKept_98 (lv_at hl 8 rfl) ?_
          obtain ⟨v20, hv20, hf⟩ := g_bd hf
          refine ok_iald F K t48 hv20 dX10_deliverKept_100 ?_
          obtain ⟨r22, u21, hu21, hf⟩ := g_b2 hf
          refine ok_calli (rest := []) F K (pX10_renumbered G hu21) mX10_renumbered oc6 lX10_95 rfl hl.1 rfl ⟨⟨rfl, rfl⟩, Nat.le_of_ble_eq_true rfl, Nat.le_of_ble_eq_true rfl⟩ (Nat.le_of_ble_eq_true rfl) dX10_deliverKept_101 (fun H locs K => ?_)
          exact ih.2.2.1 x2_ x3_ x4_ x5_ x6_ x7_ x8_ r22 u21 _ _ _ hf K (lv_sub hl [0, 1, 2, 3, 4, 5, 6, 7, 8] rfl)
        · have hf := g_neg hf c19
          refine lv_aload_n hx hb dX10_deliverKept_83 rfl (lv_at hl 0 rfl) ?_
          refine ok_ref F K fX10_9 dX10_deliverKept_84 ?_
          refine lv_iload hx hb dX10_deliverKept_87 (lv_at hl 8 rfl) ?_
          obtain ⟨v23, hv23, hf⟩ := g_bd hf
          refine ok_iald F K t48 hv23 dX10_deliverKept_89 ?_
          refine lv_goto (pc := 90) (tgt := 104) hx hb dX10_deliverKept_90 (by decide) ?_
          exact ih.2.2.1 x2_ x3_ x4_ x5_ x6_ x7_ x8_ v23 u _ _ _ hf K (lv_sub hl [0, 1, 2, 3, 4, 5, 6, 7, 8] rfl)
    · intro x2_ x3_ x4_ x5_ x6_ x7_ x8_ s0_ u H locs ls hf K hl
      have hf : fX10_deliverKept_L0_2  (fX10_deliverKept_L0  n) x2_ x3_ x4_ x5_ x6_ x7_ x8_ s0_ u = some (r, u') := hf
      unfold fX10_deliverKept_L0_2 at hf
      refine lv_istore (lv' := [(9, .int s0_), (0, .ref (G.1 6)), (1, .ref (G.1 2)), (2, .int x2_), (3, .int x3_), (4, .int x4_), (5, .int x5_), (6, .int x6_), (7, .int x7_), (8, .int x8_)]) hx hb dX10_deliverKept_104 hl (by decide) rfl (fun ls hl => ?_)
      refine lv_iload hx hb dX10_deliverKept_106 (lv_at hl 7 rfl) ?_
      refine lv_iload hx hb dX10_deliverKept_108 (lv_at hl 6 rfl) ?_
      refine lv_isub hx hb dX10_deliverKept_110 ?_
      refine lv_sipush (v := 200) hx hb dX10_deliverKept_111 kS_200 ?_
      refine lv_icmp_ge (pc := 114) (tgt := 132) hx hb dX10_deliverKept_114 (by decide) (fun c24 => ?_) (fun c24 => ?_)
      · have hf := g_pos hf c24
        refine lv_iconst (v := 0) hx hb dX10_deliverKept_132 kI_0 ?_
        exact ok_retz B K hf (Or.inl rfl) dX10_deliverKept_133
      · have hf := g_neg hf c24
        refine lv_aload_n hx hb dX10_deliverKept_117 rfl (lv_at hl 1 rfl) ?_
        refine ok_ref F K fX10_9 dX10_deliverKept_118 ?_
        refine lv_iload hx hb dX10_deliverKept_121 (lv_at hl 9 rfl) ?_
        obtain ⟨v25, hv25, hf⟩ := g_bd hf
        refine ok_iald F K t48 hv25 dX10_deliverKept_123 ?_
        refine lv_if_ge (pc := 124) (tgt := 134) hx hb dX10_deliverKept_124 (by decide) (fun c26 => ?_) (fun c26 => ?_)
        · have hf := g_pos hf c26
          exact ih.2.2.2 x2_ x3_ x4_ x5_ x6_ x7_ x8_ s0_ u _ _ _ hf K (lv_sub hl [1, 2, 3, 4, 5, 6, 7, 8, 9, 0] rfl)
        · have hf := g_neg hf c26
          refine lv_iload hx hb dX10_deliverKept_127 (lv_at hl 0 rfl) ?_
          refine lv_if_lt (pc := 129) (tgt := 134) hx hb dX10_deliverKept_129 (by decide) (fun c27 => ?_) (fun c27 => ?_)
          · have hf := g_pos hf c27
            exact ih.2.2.2 x2_ x3_ x4_ x5_ x6_ x7_ x8_ s0_ u _ _ _ hf K (lv_sub hl [1, 2, 3, 4, 5, 6, 7, 8, 9, 0] rfl)
          · have hf := g_neg hf c27
            refine lv_iconst (v := 0) hx hb dX10_deliverKept_132 kI_0 ?_
            exact ok_retz B K hf (Or.inl rfl) dX10_deliverKept_133
    · intro x2_ x3_ x4_ x5_ x6_ x7_ x8_ x9_ u H locs ls hf K hl
      have hf : fX10_deliverKept_L0_3  (fX10_deliverKept_L0  n) x2_ x3_ x4_ x5_ x6_ x7_ x8_ x9_ u = some (r, u') := hf
      unfold fX10_deliverKept_L0_3 at hf
      refine lv_aload_n hx hb dX10_deliverKept_134 rfl (lv_at hl 1 rfl) ?_
      refine ok_ref F K fX10_98 dX10_deliverKept_135 ?_
      refine lv_iload hx hb dX10_deliverKept_138 (lv_at hl 6 rfl) ?_
      refine lv_iload hx hb dX10_deliverKept_140 (lv_at hl 9 rfl) ?_
      obtain ⟨u28, hu28, hf⟩ := g_bd hf
      refine ok_iast F K t32 hu28 dX10_deliverKept_142 (fun H locs K => ?_)
      obtain ⟨x29, ex29⟩ : ∃ y : Int32, y = x6_ + 1 := ⟨_, rfl⟩
      have hf := g_lt hf x29 ex29
      refine lv_iinc (v := x29) (lv' := [(6, .int x29), (0, .ref (G.1 6)), (1, .ref (G.1 2)), (2, .int x2_), (3, .int x3_), (4, .int x4_), (5, .int x5_), (7, .int x7_), (8, .int x8_), (9, .int x9_)]) hx hb dX10_deliverKept_143 hl (k := 6) rfl (by rw [kI_1, ex29]) (by decide) rfl (fun ls hl => ?_)
      obtain ⟨x30, ex30⟩ : ∃ y : Int32, y = x8_ + 1 := ⟨_, rfl⟩
      have hf := g_lt hf x30 ex30
      refine lv_iinc (v := x30) (lv' := [(8, .int x30), (6, .int x29), (0, .ref (G.1 6)), (1, .ref (G.1 2)), (2, .int x2_), (3, .int x3_), (4, .int x4_), (5, .int x5_), (7, .int x7_), (9, .int x9_)]) hx hb dX10_deliverKept_146 hl (k := 8) rfl (by rw [kI_1, ex30]) (by decide) rfl (fun ls hl => ?_)
      refine lv_goto (pc := 149) (tgt := 54) hx hb dX10_deliverKept_149 (by decide) ?_
      exact ih.2.1 x2_ x3_ x4_ x5_ x29 x7_ x30 u28 _ _ _ hf K (lv_sub hl [2, 3, 4, 5, 6, 7, 1, 8, 0] rfl)
set_option maxRecDepth 100000 in
set_option maxHeartbeats 4000000 in
theorem pX10_deliverKept {l : Launch} (G : Gt) {a1 : Int32} {r : Int32} {u u' : St} (hf : fX10_deliverKept a1 u = some (r, u')) : Ctr 0 76 l yX10_deliverKept cX10_deliverKept 10 (some .boolean) rmX10_deliverKept [.ref (G.1 6), .ref (G.1 2), .int a1] G u (some (.int r)) u' := by
  refine Ctr.mk (by decide) (Nat.le_of_ble_eq_true rfl) (fun p e s m below meth c A ls B K hl => ?_)
  have F := B.1
  have hx := F.1
  have hb := F.2.1
  have hl : lv_has ls 10 [(0, .ref (G.1 6)), (1, .ref (G.1 2)), (2, .int a1)] := hl
  unfold fX10_deliverKept at hf
  refine lv_aload_n hx hb dX10_deliverKept_0 rfl (lv_at hl 1 rfl) ?_
  refine ok_int F K fX10_73 dX10_deliverKept_1 ?_
  refine lv_topi (fun x31 ex31 => ?_)
  have hf := g_lt hf x31 ex31
  refine lv_istore_n (lv' := [(3, .int x31), (0, .ref (G.1 6)), (1, .ref (G.1 2)), (2, .int a1)]) hx hb dX10_deliverKept_4 rfl hl (by decide) rfl (fun ls hl => ?_)
  refine lv_aload_n hx hb dX10_deliverKept_5 rfl (lv_at hl 2 rfl) ?_
  refine ok_ref F K fX10_86 dX10_deliverKept_6 ?_
  refine lv_iload_n hx hb dX10_deliverKept_9 rfl (lv_at hl 0 rfl) ?_
  obtain ⟨v32, hv32, hf⟩ := g_bd hf
  refine ok_iald F K t18 hv32 dX10_deliverKept_10 ?_
  refine lv_istore (lv' := [(4, .int v32), (3, .int x31), (0, .ref (G.1 6)), (1, .ref (G.1 2)), (2, .int a1)]) hx hb dX10_deliverKept_11 hl (by decide) rfl (fun ls hl => ?_)
  refine lv_aload_n hx hb dX10_deliverKept_13 rfl (lv_at hl 3 rfl) ?_
  refine ok_ref F K fX10_89 dX10_deliverKept_14 ?_
  refine lv_iload hx hb dX10_deliverKept_17 (lv_at hl 0 rfl) ?_
  obtain ⟨v33, hv33, hf⟩ := g_bd hf
  refine ok_iald F K t29 hv33 dX10_deliverKept_19 ?_
  refine lv_istore (lv' := [(5, .int v33), (4, .int v32), (3, .int x31), (0, .ref (G.1 6)), (1, .ref (G.1 2)), (2, .int a1)]) hx hb dX10_deliverKept_20 hl (by decide) rfl (fun ls hl => ?_)
  refine lv_iload hx hb dX10_deliverKept_22 (lv_at hl 0 rfl) ?_
  refine lv_istore (lv' := [(6, .int v33), (5, .int v33), (4, .int v32), (3, .int x31), (0, .ref (G.1 6)), (1, .ref (G.1 2)), (2, .int a1)]) hx hb dX10_deliverKept_24 hl (by decide) rfl (fun ls hl => ?_)
  refine lv_aload_n hx hb dX10_deliverKept_26 rfl (lv_at hl 4 rfl) ?_
  refine lv_iconst (v := 0) hx hb dX10_deliverKept_27 kI_0 ?_
  refine ok_putI F K qX10_92 dX10_deliverKept_28 (fun u34 H locs eu34 K => ?_)
  have hf := g_lt hf u34 eu34
  refine lv_iconst (v := 0) hx hb dX10_deliverKept_31 kI_0 ?_
  refine lv_topi (fun x35 ex35 => ?_)
  have hf := g_lt hf x35 ex35
  refine lv_istore (lv' := [(7, .int x35), (6, .int v33), (5, .int v33), (4, .int v32), (3, .int x31), (0, .ref (G.1 6)), (1, .ref (G.1 2)), (2, .int a1)]) hx hb dX10_deliverKept_32 hl (by decide) rfl (fun ls hl => ?_)
  exact (pX10_deliverKept_L0  B FU).1 a1 x31 v32 v33 v33 x35 u34 _ _ _ hf K (lv_sub hl [5, 6, 7, 4, 3, 2, 1, 0] rfl)
abbrev rmX10_deliver : Room := { frames := 2, cells := 0, slots := 0, locals := 51 }
set_option maxRecDepth 100000 in
set_option maxHeartbeats 4000000 in
theorem pX10_deliver_L0 {p : Program} {l : Launch} {e : Env} {s : State} {m : MethodId} {below : List Frame} {meth : Method} {c : Code} {A : Nat → Prop} {G : Gt} {r : Int32} {u' : St} (B : Bd p s m [.ref (G.1 6), .ref (G.1 2)] meth c yX10_deliver cX10_deliver 4 (some .boolean)) (n : Nat) : (∀ (x2_ : Int32) (u : St) (H : Heap) (locs : List Loc) (ls : Array Slot), fX10_deliver_L0  n 0 x2_ u = some (r, u') → Ok 0 76 G A s u H locs → lv_has ls 4 [(0, .ref (G.1 6)), (1, .ref (G.1 2)), (2, .int x2_)] → W p l e rmX10_deliver s m ([.ref (G.1 6), .ref (G.1 2)] : List Value).toArray below meth c H locs 0 0 (MQ below (Qg 0 76 G A (some (.int r)) u') ([.ref (G.1 6), .ref (G.1 2)] : List Value).toArray s 0 0 A) (F0 m 85 ls [])) := by
  have F := B.1
  have hx := F.1
  have hb := F.2.1
  induction n with
  | zero => exact fun _ _ _ _ _ hf => g_no hf
  | succ n ih =>
    refine ?_
    · intro x2_ u H locs ls hf K hl
      have hf : fX10_deliver_L0_0  (fX10_deliver_L0  n) x2_ u = some (r, u') := hf
      unfold fX10_deliver_L0_0 at hf
      refine lv_iload_n hx hb dX10_deliver_85 rfl (lv_at hl 2 rfl) ?_
      refine lv_aload_n hx hb dX10_deliver_86 rfl (lv_at hl 0 rfl) ?_
      refine ok_ref F K fX10_29 dX10_deliver_87 ?_
      refine lv_iconst (v := 0) hx hb dX10_deliver_90 kI_0 ?_
      obtain ⟨v1, hv1, hf⟩ := g_bd hf
      refine ok_iald F K t54 hv1 dX10_deliver_91 ?_
      refine lv_icmp_ge (pc := 92) (tgt := 122) hx hb dX10_deliver_92 (by decide) (fun c2 => ?_) (fun c2 => ?_)
      · have hf := g_pos hf c2
        refine lv_iconst (v := 1) hx hb dX10_deliver_122 kI_1 ?_
        exact ok_retz B K hf (Or.inr rfl) dX10_deliver_123
      · have hf := g_neg hf c2
        refine lv_aload_n hx hb dX10_deliver_95 rfl (lv_at hl 0 rfl) ?_
        refine lv_iload_n hx hb dX10_deliver_96 rfl (lv_at hl 2 rfl) ?_
        obtain ⟨r4, u3, hu3, hf⟩ := g_b2 hf
        refine ok_calli (rest := []) F K (pX10_keep G hu3) mX10_keep oc6 lX10_74 rfl hl.1 rfl ⟨⟨rfl, rfl⟩, Nat.le_of_ble_eq_true rfl, Nat.le_of_ble_eq_true rfl⟩ (Nat.le_of_ble_eq_true rfl) dX10_deliver_97 (fun H locs K => ?_)
        refine lv_istore_n (lv' := [(3, .int r4), (0, .ref (G.1 6)), (1, .ref (G.1 2)), (2, .int x2_)]) hx hb dX10_deliver_100 rfl hl (by decide) rfl (fun ls hl => ?_)
        refine lv_iload_n hx hb dX10_deliver_101 rfl (lv_at hl 0 rfl) ?_
        refine lv_if_lt (pc := 102) (tgt := 116) hx hb dX10_deliver_102 (by decide) (fun c5 => ?_) (fun c5 => ?_)
        · have hf := g_pos hf c5
          obtain ⟨x6, ex6⟩ : ∃ y : Int32, y = x2_ + 1 := ⟨_, rfl⟩
          have hf := g_lt hf x6 ex6
          refine lv_iinc (v := x6) (lv' := [(2, .int x6), (3, .int r4), (0, .ref (G.1 6)), (1, .ref (G.1 2))]) hx hb dX10_deliver_116 hl (k := 3) rfl (by rw [kI_1, ex6]) (by decide) rfl (fun ls hl => ?_)
          refine lv_goto (pc := 119) (tgt := 85) hx hb dX10_deliver_119 (by decide) ?_
          exact ih x6 u3 _ _ _ hf K (lv_sub hl [2, 3, 0] rfl)
        · have hf := g_neg hf c5
          refine lv_aload_n hx hb dX10_deliver_105 rfl (lv_at hl 1 rfl) ?_
          refine lv_aload_n hx hb dX10_deliver_106 rfl (lv_at hl 2 rfl) ?_
          refine lv_iload_n hx hb dX10_deliver_107 rfl (lv_at hl 0 rfl) ?_
          obtain ⟨r8, u7, hu7, hf⟩ := g_b2 hf
          refine ok_calli (rest := []) F K (pX10_deliverKept G hu7) mX10_deliverKept oc6 lX10_78 rfl hl.1 rfl ⟨⟨rfl, rfl⟩, Nat.le_of_ble_eq_true rfl, Nat.le_of_ble_eq_true rfl⟩ (Nat.le_of_ble_eq_true rfl) dX10_deliver_108 (fun H locs K => ?_)
          refine lv_if_ne (pc := 111) (tgt := 116) hx hb dX10_deliver_111 (by decide) (fun c9 => ?_) (fun c9 => ?_)
          · have hf := g_neg hf c9
            obtain ⟨x10, ex10⟩ : ∃ y : Int32, y = x2_ + 1 := ⟨_, rfl⟩
            have hf := g_lt hf x10 ex10
            refine lv_iinc (v := x10) (lv' := [(2, .int x10), (3, .int r4), (0, .ref (G.1 6)), (1, .ref (G.1 2))]) hx hb dX10_deliver_116 hl (k := 3) rfl (by rw [kI_1, ex10]) (by decide) rfl (fun ls hl => ?_)
            refine lv_goto (pc := 119) (tgt := 85) hx hb dX10_deliver_119 (by decide) ?_
            exact ih x10 u7 _ _ _ hf K (lv_sub hl [2, 3, 0] rfl)
          · have hf := g_pos hf c9
            refine lv_iconst (v := 0) hx hb dX10_deliver_114 kI_0 ?_
            exact ok_retz B K hf (Or.inl rfl) dX10_deliver_115
set_option maxRecDepth 100000 in
set_option maxHeartbeats 4000000 in
theorem pX10_deliver_L1 {p : Program} {l : Launch} {e : Env} {s : State} {m : MethodId} {below : List Frame} {meth : Method} {c : Code} {A : Nat → Prop} {G : Gt} {r : Int32} {u' : St} (B : Bd p s m [.ref (G.1 6), .ref (G.1 2)] meth c yX10_deliver cX10_deliver 4 (some .boolean)) (n : Nat) : (∀ (x2_ : Int32) (u : St) (H : Heap) (locs : List Loc) (ls : Array Slot), fX10_deliver_L1  n 0 x2_ u = some (r, u') → Ok 0 76 G A s u H locs → lv_has ls 4 [(0, .ref (G.1 6)), (1, .ref (G.1 2)), (2, .int x2_)] → W p l e rmX10_deliver s m ([.ref (G.1 6), .ref (G.1 2)] : List Value).toArray below meth c H locs 0 0 (MQ below (Qg 0 76 G A (some (.int r)) u') ([.ref (G.1 6), .ref (G.1 2)] : List Value).toArray s 0 0 A) (F0 m 40 ls [])) := by
  have F := B.1
  have hx := F.1
  have hb := F.2.1
  induction n with
  | zero => exact fun _ _ _ _ _ hf => g_no hf
  | succ n ih =>
    refine ?_
    · intro x2_ u H locs ls hf K hl
      have hf : fX10_deliver_L1_0  (fX10_deliver_L1  n) x2_ u = some (r, u') := hf
      unfold fX10_deliver_L1_0 at hf
      refine lv_iload_n hx hb dX10_deliver_40 rfl (lv_at hl 2 rfl) ?_
      refine lv_aload_n hx hb dX10_deliver_41 rfl (lv_at hl 0 rfl) ?_
      refine ok_ref F K fX10_29 dX10_deliver_42 ?_
      refine lv_iconst (v := 0) hx hb dX10_deliver_45 kI_0 ?_
      obtain ⟨v11, hv11, hf⟩ := g_bd hf
      refine ok_iald F K t54 hv11 dX10_deliver_46 ?_
      refine lv_icmp_ge (pc := 47) (tgt := 78) hx hb dX10_deliver_47 (by decide) (fun c12 => ?_) (fun c12 => ?_)
      · have hf := g_pos hf c12
        refine lv_aload_n hx hb dX10_deliver_78 rfl (lv_at hl 0 rfl) ?_
        refine ok_ref F K fX10_26 dX10_deliver_79 ?_
        refine lv_iconst (v := 0) hx hb dX10_deliver_82 kI_0 ?_
        obtain ⟨v13, hv13, hf⟩ := g_bd hf
        refine ok_iald F K t53 hv13 dX10_deliver_83 ?_
        refine lv_istore_n (lv' := [(2, .int v13), (0, .ref (G.1 6)), (1, .ref (G.1 2))]) hx hb dX10_deliver_84 rfl hl (by decide) rfl (fun ls hl => ?_)
        exact (pX10_deliver_L0  B FU) v13 u _ _ _ hf K (lv_sub hl [1, 2, 0] rfl)
      · have hf := g_neg hf c12
        refine lv_aload_n hx hb dX10_deliver_50 rfl (lv_at hl 0 rfl) ?_
        refine ok_ref F K fX10_23 dX10_deliver_51 ?_
        refine lv_iload_n hx hb dX10_deliver_54 rfl (lv_at hl 2 rfl) ?_
        refine lv_iconst (v := 1) hx hb dX10_deliver_55 kI_1 ?_
        refine lv_iadd hx hb dX10_deliver_56 ?_
        obtain ⟨v14, hv14, hf⟩ := g_bd hf
        refine ok_iald F K t52 hv14 dX10_deliver_57 ?_
        refine lv_aload_n hx hb dX10_deliver_58 rfl (lv_at hl 0 rfl) ?_
        refine ok_ref F K fX10_23 dX10_deliver_59 ?_
        refine lv_iload_n hx hb dX10_deliver_62 rfl (lv_at hl 2 rfl) ?_
        obtain ⟨v15, hv15, hf⟩ := g_bd hf
        refine ok_iald F K t52 hv15 dX10_deliver_63 ?_
        refine lv_isub hx hb dX10_deliver_64 ?_
        refine lv_bipush (v := 12) hx hb dX10_deliver_65 kB_12 ?_
        refine lv_icmp_le (pc := 67) (tgt := 72) hx hb dX10_deliver_67 (by decide) (fun c16 => ?_) (fun c16 => ?_)
        · have hf := g_pos hf c16
          obtain ⟨x17, ex17⟩ : ∃ y : Int32, y = x2_ + 1 := ⟨_, rfl⟩
          have hf := g_lt hf x17 ex17
          refine lv_iinc (v := x17) (lv' := [(2, .int x17), (0, .ref (G.1 6)), (1, .ref (G.1 2))]) hx hb dX10_deliver_72 hl (k := 2) rfl (by rw [kI_1, ex17]) (by decide) rfl (fun ls hl => ?_)
          refine lv_goto (pc := 75) (tgt := 40) hx hb dX10_deliver_75 (by decide) ?_
          exact ih x17 u _ _ _ hf K (lv_sub hl [1, 2, 0] rfl)
        · have hf := g_neg hf c16
          refine lv_iconst (v := 0) hx hb dX10_deliver_70 kI_0 ?_
          exact ok_retz B K hf (Or.inl rfl) dX10_deliver_71
set_option maxRecDepth 100000 in
set_option maxHeartbeats 4000000 in
theorem pX10_deliver {l : Launch} (G : Gt) {r : Int32} {u u' : St} (hf : fX10_deliver u = some (r, u')) : Ctr 0 76 l yX10_deliver cX10_deliver 4 (some .boolean) rmX10_deliver [.ref (G.1 6), .ref (G.1 2)] G u (some (.int r)) u' := by
  refine Ctr.mk (by decide) (Nat.le_of_ble_eq_true rfl) (fun p e s m below meth c A ls B K hl => ?_)
  have F := B.1
  have hx := F.1
  have hb := F.2.1
  have hl : lv_has ls 4 [(0, .ref (G.1 6)), (1, .ref (G.1 2))] := hl
  unfold fX10_deliver at hf
  refine lv_aload_n hx hb dX10_deliver_0 rfl (lv_at hl 0 rfl) ?_
  refine ok_int F K fX10_50 dX10_deliver_1 ?_
  refine lv_iconst (v := 1) hx hb dX10_deliver_4 kI_1 ?_
  refine lv_icmp_ne (pc := 5) (tgt := 31) hx hb dX10_deliver_5 (by decide) (fun c18 => ?_) (fun c18 => ?_)
  · have hf := g_neg hf c18
    refine lv_iconst (v := 0) hx hb dX10_deliver_31 kI_0 ?_
    exact ok_retz B K hf (Or.inl rfl) dX10_deliver_32
  · have hf := g_pos hf c18
    refine lv_aload_n hx hb dX10_deliver_8 rfl (lv_at hl 1 rfl) ?_
    refine ok_int F K fX10_73 dX10_deliver_9 ?_
    refine lv_aload_n hx hb dX10_deliver_12 rfl (lv_at hl 0 rfl) ?_
    refine ok_ref F K fX10_29 dX10_deliver_13 ?_
    refine lv_iconst (v := 0) hx hb dX10_deliver_16 kI_0 ?_
    obtain ⟨v19, hv19, hf⟩ := g_bd hf
    refine ok_iald F K t54 hv19 dX10_deliver_17 ?_
    refine lv_iadd hx hb dX10_deliver_18 ?_
    refine lv_aload_n hx hb dX10_deliver_19 rfl (lv_at hl 0 rfl) ?_
    refine ok_ref F K fX10_26 dX10_deliver_20 ?_
    refine lv_iconst (v := 0) hx hb dX10_deliver_23 kI_0 ?_
    obtain ⟨v20, hv20, hf⟩ := g_bd hf
    refine ok_iald F K t53 hv20 dX10_deliver_24 ?_
    refine lv_isub hx hb dX10_deliver_25 ?_
    refine lv_bipush (v := 100) hx hb dX10_deliver_26 kB_100 ?_
    refine lv_icmp_le (pc := 28) (tgt := 33) hx hb dX10_deliver_28 (by decide) (fun c21 => ?_) (fun c21 => ?_)
    · have hf := g_pos hf c21
      refine lv_aload_n hx hb dX10_deliver_33 rfl (lv_at hl 0 rfl) ?_
      refine ok_ref F K fX10_26 dX10_deliver_34 ?_
      refine lv_iconst (v := 0) hx hb dX10_deliver_37 kI_0 ?_
      obtain ⟨v22, hv22, hf⟩ := g_bd hf
      refine ok_iald F K t53 hv22 dX10_deliver_38 ?_
      refine lv_istore_n (lv' := [(2, .int v22), (0, .ref (G.1 6)), (1, .ref (G.1 2))]) hx hb dX10_deliver_39 rfl hl (by decide) rfl (fun ls hl => ?_)
      exact (pX10_deliver_L1  B FU) v22 u _ _ _ hf K (lv_sub hl [1, 2, 0] rfl)
    · have hf := g_neg hf c21
      refine lv_iconst (v := 0) hx hb dX10_deliver_31 kI_0 ?_
      exact ok_retz B K hf (Or.inl rfl) dX10_deliver_32
abbrev rmX0_make : Room := { frames := 5, cells := 0, slots := 0, locals := 148 }
set_option maxRecDepth 100000 in
set_option maxHeartbeats 4000000 in
theorem pX0_make_j178 {p : Program} {l : Launch} {e : Env} {s : State} {m : MethodId} {below : List Frame} {meth : Method} {c : Code} {A : Nat → Prop} {G : Gt} {a0 : Int32} {r : Int32} {u' : St} (B : Bd p s m [.ref (G.1 5), .int a0] meth c yX0_make cX0_make 3 (some .boolean)) (u : St) (H : Heap) (locs : List Loc) (ls : Array Slot) (hf : fX0_make_j178  u = some (r, u')) (K : Ok 0 76 G A s u H locs) (hl : lv_has ls 3 [(0, .ref (G.1 5))]) : W p l e rmX0_make s m ([.ref (G.1 5), .int a0] : List Value).toArray below meth c H locs 0 0 (MQ below (Qg 0 76 G A (some (.int r)) u') ([.ref (G.1 5), .int a0] : List Value).toArray s 0 0 A) (F0 m 178 ls []) := by
  have F := B.1
  have hx := F.1
  have hb := F.2.1
  unfold fX0_make_j178 at hf
  refine lv_aload_n hx hb dX0_make_178 rfl (lv_at hl 0 rfl) ?_
  refine ok_int F K fX0_64 dX0_make_179 ?_
  refine lv_if_ne (pc := 182) (tgt := 203) hx hb dX0_make_182 (by decide) (fun c1 => ?_) (fun c1 => ?_)
  · have hf := g_neg hf c1
    refine lv_iconst (v := 0) hx hb dX0_make_203 kI_0 ?_
    exact ok_retz B K hf (Or.inl rfl) dX0_make_204
  · have hf := g_pos hf c1
    refine lv_aload_n hx hb dX0_make_185 rfl (lv_at hl 0 rfl) ?_
    refine ok_ref F K fX0_42 dX0_make_186 ?_
    refine lv_aload_n hx hb dX0_make_189 rfl (lv_at hl 0 rfl) ?_
    refine ok_ref F K fX0_34 dX0_make_190 ?_
    obtain ⟨r3, u2, hu2, hf⟩ := g_b2 hf
    refine ok_calli (rest := []) F K (pX10_deliver G hu2) mX10_deliver oc6 lX0_92 rfl hl.1 rfl ⟨⟨rfl, rfl⟩, Nat.le_of_ble_eq_true rfl, Nat.le_of_ble_eq_true rfl⟩ (Nat.le_of_ble_eq_true rfl) dX0_make_193 (fun H locs K => ?_)
    refine lv_if_eq (pc := 196) (tgt := 203) hx hb dX0_make_196 (by decide) (fun c4 => ?_) (fun c4 => ?_)
    · have hf := g_pos hf c4
      refine lv_iconst (v := 0) hx hb dX0_make_203 kI_0 ?_
      exact ok_retz B K hf (Or.inl rfl) dX0_make_204
    · have hf := g_neg hf c4
      refine lv_iconst (v := 1) hx hb dX0_make_199 kI_1 ?_
      refine lv_goto (pc := 200) (tgt := 204) hx hb dX0_make_200 (by decide) ?_
      exact ok_retz B K hf (Or.inr rfl) dX0_make_204
set_option maxRecDepth 100000 in
set_option maxHeartbeats 4000000 in
theorem pX0_make_L0 {p : Program} {l : Launch} {e : Env} {s : State} {m : MethodId} {below : List Frame} {meth : Method} {c : Code} {A : Nat → Prop} {G : Gt} {a0 : Int32} {r : Int32} {u' : St} (B : Bd p s m [.ref (G.1 5), .int a0] meth c yX0_make cX0_make 3 (some .boolean)) (n : Nat) : (∀ (x2_ : Int32) (u : St) (H : Heap) (locs : List Loc) (ls : Array Slot), fX0_make_L0  n 0 x2_ u = some (r, u') → Ok 0 76 G A s u H locs → lv_has ls 3 [(0, .ref (G.1 5)), (2, .int x2_)] → W p l e rmX0_make s m ([.ref (G.1 5), .int a0] : List Value).toArray below meth c H locs 0 0 (MQ below (Qg 0 76 G A (some (.int r)) u') ([.ref (G.1 5), .int a0] : List Value).toArray s 0 0 A) (F0 m 115 ls [])) := by
  have F := B.1
  have hx := F.1
  have hb := F.2.1
  induction n with
  | zero => exact fun _ _ _ _ _ hf => g_no hf
  | succ n ih =>
    refine ?_
    · intro x2_ u H locs ls hf K hl
      have hf : fX0_make_L0_0  (fX0_make_L0  n) x2_ u = some (r, u') := hf
      unfold fX0_make_L0_0 at hf
      refine lv_iload_n hx hb dX0_make_115 rfl (lv_at hl 1 rfl) ?_
      refine lv_ldc (v := 1000000) hx hb F.2.2.2.1 (F.2.2.2.2 _ kcX0_88) dX0_make_116 ?_
      refine lv_icmp_ge (pc := 118) (tgt := 178) hx hb dX0_make_118 (by decide) (fun c5 => ?_) (fun c5 => ?_)
      · have hf := g_pos hf c5
        exact pX0_make_j178  B  u _ _ _ hf K (lv_sub hl [0] rfl)
      · have hf := g_neg hf c5
        refine lv_aload_n hx hb dX0_make_121 rfl (lv_at hl 0 rfl) ?_
        refine ok_int F K fX0_61 dX0_make_122 ?_
        refine lv_if_le (pc := 125) (tgt := 178) hx hb dX0_make_125 (by decide) (fun c6 => ?_) (fun c6 => ?_)
        · have hf := g_pos hf c6
          exact pX0_make_j178  B  u _ _ _ hf K (lv_sub hl [0] rfl)
        · have hf := g_neg hf c6
          refine lv_aload_n hx hb dX0_make_128 rfl (lv_at hl 0 rfl) ?_
          refine ok_int F K fX0_64 dX0_make_129 ?_
          refine lv_if_ne (pc := 132) (tgt := 178) hx hb dX0_make_132 (by decide) (fun c7 => ?_) (fun c7 => ?_)
          · have hf := g_neg hf c7
            exact pX0_make_j178  B  u _ _ _ hf K (lv_sub hl [0] rfl)
          · have hf := g_pos hf c7
            refine lv_aload_n hx hb dX0_make_135 rfl (lv_at hl 0 rfl) ?_
            refine lv_dup hx hb dX0_make_136 rfl ?_
            refine ok_int F K fX0_61 dX0_make_137 ?_
            refine lv_iconst (v := 1) hx hb dX0_make_140 kI_1 ?_
            refine lv_isub hx hb dX0_make_141 ?_
            refine ok_putI F K qX0_61 dX0_make_142 (fun u8 H locs eu8 K => ?_)
            have hf := g_lt hf u8 eu8
            refine lv_aload_n hx hb dX0_make_145 rfl (lv_at hl 0 rfl) ?_
            refine lv_aload_n hx hb dX0_make_146 rfl (lv_at hl 0 rfl) ?_
            refine ok_ref F K fX0_13 dX0_make_147 ?_
            refine lv_aload_n hx hb dX0_make_150 rfl (lv_at hl 0 rfl) ?_
            refine ok_int F K fX0_61 dX0_make_151 ?_
            obtain ⟨v9, hv9, hf⟩ := g_bd hf
            refine ok_iald F K t42 hv9 dX0_make_154 ?_
            refine lv_bipush (v := 7) hx hb dX0_make_155 kB_7 ?_
            refine lv_iand hx hb dX0_make_157 ?_
            refine lv_aload_n hx hb dX0_make_158 rfl (lv_at hl 0 rfl) ?_
            refine ok_ref F K fX0_13 dX0_make_159 ?_
            refine lv_aload_n hx hb dX0_make_162 rfl (lv_at hl 0 rfl) ?_
            refine ok_int F K fX0_61 dX0_make_163 ?_
            obtain ⟨v10, hv10, hf⟩ := g_bd hf
            refine ok_iald F K t42 hv10 dX0_make_166 ?_
            refine lv_iconst (v := 3) hx hb dX0_make_167 kI_3 ?_
            refine lv_ishr hx hb dX0_make_168 ?_
            obtain ⟨u11, hu11, hf⟩ := g_bd hf
            refine ok_callv (rest := []) F K (pX0_perform G hu11) mX0_perform oc5 lX0_89 rfl hl.1 rfl ⟨⟨rfl, rfl⟩, Nat.le_of_ble_eq_true rfl, Nat.le_of_ble_eq_true rfl⟩ (Nat.le_of_ble_eq_true rfl) dX0_make_169 (fun H locs K => ?_)
            obtain ⟨x12, ex12⟩ : ∃ y : Int32, y = x2_ + 1 := ⟨_, rfl⟩
            have hf := g_lt hf x12 ex12
            refine lv_iinc (v := x12) (lv' := [(2, .int x12), (0, .ref (G.1 5))]) hx hb dX0_make_172 hl (k := 1) rfl (by rw [kI_1, ex12]) (by decide) rfl (fun ls hl => ?_)
            refine lv_goto (pc := 175) (tgt := 115) hx hb dX0_make_175 (by decide) ?_
            exact ih x12 u11 _ _ _ hf K (lv_sub hl [1, 0] rfl)
set_option maxRecDepth 100000 in
set_option maxHeartbeats 4000000 in
theorem pX0_make_L1 {p : Program} {l : Launch} {e : Env} {s : State} {m : MethodId} {below : List Frame} {meth : Method} {c : Code} {A : Nat → Prop} {G : Gt} {a0 : Int32} {r : Int32} {u' : St} (B : Bd p s m [.ref (G.1 5), .int a0] meth c yX0_make cX0_make 3 (some .boolean)) (n : Nat) : (∀ (x1_ : Int32) (x2_ : Int32) (u : St) (H : Heap) (locs : List Loc) (ls : Array Slot), fX0_make_L1  n 0 x1_ x2_ u = some (r, u') → Ok 0 76 G A s u H locs → lv_has ls 3 [(0, .ref (G.1 5)), (1, .int x1_), (2, .int x2_)] → W p l e rmX0_make s m ([.ref (G.1 5), .int a0] : List Value).toArray below meth c H locs 0 0 (MQ below (Qg 0 76 G A (some (.int r)) u') ([.ref (G.1 5), .int a0] : List Value).toArray s 0 0 A) (F0 m 72 ls [])) := by
  have F := B.1
  have hx := F.1
  have hb := F.2.1
  induction n with
  | zero => exact fun _ _ _ _ _ _ hf => g_no hf
  | succ n ih =>
    refine ?_
    · intro x1_ x2_ u H locs ls hf K hl
      have hf : fX0_make_L1_0  (fX0_make_L1  n) x1_ x2_ u = some (r, u') := hf
      unfold fX0_make_L1_0 at hf
      refine lv_iload_n hx hb dX0_make_72 rfl (lv_at hl 2 rfl) ?_
      refine lv_aload_n hx hb dX0_make_73 rfl (lv_at hl 0 rfl) ?_
      refine ok_ref F K fX0_38 dX0_make_74 ?_
      refine ok_int F K fX0_53 dX0_make_77 ?_
      refine lv_icmp_ge (pc := 80) (tgt := 107) hx hb dX0_make_80 (by decide) (fun c13 => ?_) (fun c13 => ?_)
      · have hf := g_pos hf c13
        refine lv_aload_n hx hb dX0_make_107 rfl (lv_at hl 0 rfl) ?_
        refine lv_iconst (v := 0) hx hb dX0_make_108 kI_0 ?_
        refine lv_iload_n hx hb dX0_make_109 rfl (lv_at hl 1 rfl) ?_
        obtain ⟨u14, hu14, hf⟩ := g_bd hf
        refine ok_callv (rest := []) F K (pX0_push G hu14) mX0_push oc5 lX0_84 rfl hl.1 rfl ⟨⟨rfl, rfl⟩, Nat.le_of_ble_eq_true rfl, Nat.le_of_ble_eq_true rfl⟩ (Nat.le_of_ble_eq_true rfl) dX0_make_110 (fun H locs K => ?_)
        refine lv_iconst (v := 0) hx hb dX0_make_113 kI_0 ?_
        refine lv_topi (fun x15 ex15 => ?_)
        have hf := g_lt hf x15 ex15
        refine lv_istore_n (lv' := [(2, .int x15), (0, .ref (G.1 5)), (1, .int x1_)]) hx hb dX0_make_114 rfl hl (by decide) rfl (fun ls hl => ?_)
        exact (pX0_make_L0  B FU) x15 u14 _ _ _ hf K (lv_sub hl [1, 0] rfl)
      · have hf := g_neg hf c13
        refine lv_aload_n hx hb dX0_make_83 rfl (lv_at hl 0 rfl) ?_
        refine ok_ref F K fX0_19 dX0_make_84 ?_
        refine lv_aload_n hx hb dX0_make_87 rfl (lv_at hl 0 rfl) ?_
        refine ok_ref F K fX0_38 dX0_make_88 ?_
        refine ok_ref F K fX0_77 dX0_make_91 ?_
        refine lv_iload_n hx hb dX0_make_94 rfl (lv_at hl 2 rfl) ?_
        obtain ⟨v16, hv16, hf⟩ := g_bd hf
        refine ok_iald F K t41 hv16 dX0_make_95 ?_
        refine lv_aload_n hx hb dX0_make_96 rfl (lv_at hl 0 rfl) ?_
        obtain ⟨r18, u17, hu17, hf⟩ := g_b2 hf
        refine ok_calli (rest := [.int v16, .ref (G.1 43)]) F K (pX0_newVariable G hu17) mX0_newVariable oc5 lX0_80 rfl hl.1 rfl ⟨⟨rfl, rfl⟩, Nat.le_of_ble_eq_true rfl, Nat.le_of_ble_eq_true rfl⟩ (Nat.le_of_ble_eq_true rfl) dX0_make_97 (fun H locs K => ?_)
        obtain ⟨u19, hu19, hf⟩ := g_bd hf
        refine ok_iast F K t43 hu19 dX0_make_100 (fun H locs K => ?_)
        obtain ⟨x20, ex20⟩ : ∃ y : Int32, y = x2_ + 1 := ⟨_, rfl⟩
        have hf := g_lt hf x20 ex20
        refine lv_iinc (v := x20) (lv' := [(2, .int x20), (0, .ref (G.1 5)), (1, .int x1_)]) hx hb dX0_make_101 hl (k := 2) rfl (by rw [kI_1, ex20]) (by decide) rfl (fun ls hl => ?_)
        refine lv_goto (pc := 104) (tgt := 72) hx hb dX0_make_104 (by decide) ?_
        exact ih x1_ x20 u19 _ _ _ hf K (lv_sub hl [1, 2, 0] rfl)
set_option maxRecDepth 100000 in
set_option maxHeartbeats 4000000 in
theorem pX0_make {l : Launch} (G : Gt) {a0 : Int32} {r : Int32} {u u' : St} (hf : fX0_make a0 u = some (r, u')) : Ctr 0 76 l yX0_make cX0_make 3 (some .boolean) rmX0_make [.ref (G.1 5), .int a0] G u (some (.int r)) u' := by
  refine Ctr.mk (by decide) (Nat.le_of_ble_eq_true rfl) (fun p e s m below meth c A ls B K hl => ?_)
  have F := B.1
  have hx := F.1
  have hb := F.2.1
  have hl : lv_has ls 3 [(0, .ref (G.1 5)), (1, .int a0)] := hl
  unfold fX0_make at hf
  refine lv_aload_n hx hb dX0_make_0 rfl (lv_at hl 0 rfl) ?_
  refine ok_ref F K fX0_38 dX0_make_1 ?_
  refine ok_int F K fX0_46 dX0_make_4 ?_
  refine lv_sipush (v := 250) hx hb dX0_make_7 kS_250 ?_
  refine lv_icmp_gt (pc := 10) (tgt := 36) hx hb dX0_make_10 (by decide) (fun c21 => ?_) (fun c21 => ?_)
  · have hf := g_pos hf c21
    refine lv_iconst (v := 0) hx hb dX0_make_36 kI_0 ?_
    exact ok_retz B K hf (Or.inl rfl) dX0_make_37
  · have hf := g_neg hf c21
    refine lv_aload_n hx hb dX0_make_13 rfl (lv_at hl 0 rfl) ?_
    refine ok_ref F K fX0_38 dX0_make_14 ?_
    refine ok_ref F K fX0_50 dX0_make_17 ?_
    refine lv_iload_n hx hb dX0_make_20 rfl (lv_at hl 1 rfl) ?_
    obtain ⟨v22, hv22, hf⟩ := g_bd hf
    refine ok_iald F K t36 hv22 dX0_make_21 ?_
    refine lv_aload_n hx hb dX0_make_22 rfl (lv_at hl 0 rfl) ?_
    refine ok_ref F K fX0_38 dX0_make_23 ?_
    refine ok_int F K fX0_53 dX0_make_26 ?_
    refine lv_iadd hx hb dX0_make_29 ?_
    refine lv_sipush (v := 3000) hx hb dX0_make_30 kS_3000 ?_
    refine lv_icmp_le (pc := 33) (tgt := 38) hx hb dX0_make_33 (by decide) (fun c23 => ?_) (fun c23 => ?_)
    · have hf := g_pos hf c23
      refine lv_aload_n hx hb dX0_make_38 rfl (lv_at hl 0 rfl) ?_
      refine ok_ref F K fX0_42 dX0_make_39 ?_
      obtain ⟨u24, hu24, hf⟩ := g_bd hf
      refine ok_callv (rest := []) F K (pX10_begin G hu24) mX10_begin oc6 lX0_56 rfl hl.1 rfl ⟨⟨rfl, rfl⟩, Nat.le_of_ble_eq_true rfl, Nat.le_of_ble_eq_true rfl⟩ (Nat.le_of_ble_eq_true rfl) dX0_make_42 (fun H locs K => ?_)
      refine lv_aload_n hx hb dX0_make_45 rfl (lv_at hl 0 rfl) ?_
      refine lv_iconst (v := 0) hx hb dX0_make_46 kI_0 ?_
      refine ok_putI F K qX0_61 dX0_make_47 (fun u25 H locs eu25 K => ?_)
      have hf := g_lt hf u25 eu25
      refine lv_aload_n hx hb dX0_make_50 rfl (lv_at hl 0 rfl) ?_
      refine lv_iconst (v := 0) hx hb dX0_make_51 kI_0 ?_
      refine ok_putZ F K qX0_64 (Or.inl rfl) dX0_make_52 (fun u26 H locs eu26 K => ?_)
      have hf := g_lt hf u26 eu26
      refine lv_aload_n hx hb dX0_make_55 rfl (lv_at hl 0 rfl) ?_
      refine lv_iconst (v := 0) hx hb dX0_make_56 kI_0 ?_
      refine ok_putI F K qX0_68 dX0_make_57 (fun u27 H locs eu27 K => ?_)
      have hf := g_lt hf u27 eu27
      refine lv_aload_n hx hb dX0_make_60 rfl (lv_at hl 0 rfl) ?_
      refine lv_iconst (v := 0) hx hb dX0_make_61 kI_0 ?_
      refine ok_putI F K qX0_71 dX0_make_62 (fun u28 H locs eu28 K => ?_)
      have hf := g_lt hf u28 eu28
      refine lv_aload_n hx hb dX0_make_65 rfl (lv_at hl 0 rfl) ?_
      refine lv_iconst (v := 0) hx hb dX0_make_66 kI_0 ?_
      refine ok_putI F K qX0_74 dX0_make_67 (fun u29 H locs eu29 K => ?_)
      have hf := g_lt hf u29 eu29
      refine lv_iconst (v := 0) hx hb dX0_make_70 kI_0 ?_
      refine lv_topi (fun x30 ex30 => ?_)
      have hf := g_lt hf x30 ex30
      refine lv_istore_n (lv' := [(2, .int x30), (0, .ref (G.1 5)), (1, .int a0)]) hx hb dX0_make_71 rfl hl (by decide) rfl (fun ls hl => ?_)
      exact (pX0_make_L1  B FU) a0 x30 u29 _ _ _ hf K (lv_sub hl [1, 2, 0] rfl)
    · have hf := g_neg hf c23
      refine lv_iconst (v := 0) hx hb dX0_make_36 kI_0 ?_
      exact ok_retz B K hf (Or.inl rfl) dX0_make_37
abbrev rmX1_begin : Room := { frames := 0, cells := 0, slots := 0, locals := 0 }
set_option maxRecDepth 100000 in
set_option maxHeartbeats 4000000 in
theorem pX1_begin_L0 {p : Program} {l : Launch} {e : Env} {s : State} {m : MethodId} {below : List Frame} {meth : Method} {c : Code} {A : Nat → Prop} {G : Gt} {u' : St} (B : Bd p s m [.ref (G.1 10)] meth c yX1_begin cX1_begin 2 none) (n : Nat) : (∀ (x1_ : Int32) (u : St) (H : Heap) (locs : List Loc) (ls : Array Slot), fX1_begin_L0  n 0 x1_ u = some u' → Ok 0 76 G A s u H locs → lv_has ls 2 [(0, .ref (G.1 10)), (1, .int x1_)] → W p l e rmX1_begin s m ([.ref (G.1 10)] : List Value).toArray below meth c H locs 0 0 (MQ below (Qg 0 76 G A none u') ([.ref (G.1 10)] : List Value).toArray s 0 0 A) (F0 m 17 ls [])) := by
  have F := B.1
  have hx := F.1
  have hb := F.2.1
  induction n with
  | zero => exact fun _ _ _ _ _ hf => g_no hf
  | succ n ih =>
    refine ?_
    · intro x1_ u H locs ls hf K hl
      have hf : fX1_begin_L0_0  (fX1_begin_L0  n) x1_ u = some u' := hf
      unfold fX1_begin_L0_0 at hf
      refine lv_iload_n hx hb dX1_begin_17 rfl (lv_at hl 1 rfl) ?_
      refine lv_aload_n hx hb dX1_begin_18 rfl (lv_at hl 0 rfl) ?_
      refine ok_ref F K fX1_24 dX1_begin_19 ?_
      refine ok_alen (v := 220) F K t74 (by decide) (by decide) dX1_begin_22 ?_
      refine lv_icmp_ge (pc := 23) (tgt := 39) hx hb dX1_begin_23 (by decide) (fun c1 => ?_) (fun c1 => ?_)
      · have hf := g_pos hf c1
        exact ok_retv B K hf dX1_begin_39
      · have hf := g_neg hf c1
        refine lv_aload_n hx hb dX1_begin_26 rfl (lv_at hl 0 rfl) ?_
        refine ok_ref F K fX1_24 dX1_begin_27 ?_
        refine lv_iload_n hx hb dX1_begin_30 rfl (lv_at hl 1 rfl) ?_
        refine lv_iconst (v := (-1)) hx hb dX1_begin_31 kI_m1 ?_
        obtain ⟨u2, hu2, hf⟩ := g_bd hf
        refine ok_iast F K t74 hu2 dX1_begin_32 (fun H locs K => ?_)
        obtain ⟨x3, ex3⟩ : ∃ y : Int32, y = x1_ + 1 := ⟨_, rfl⟩
        have hf := g_lt hf x3 ex3
        refine lv_iinc (v := x3) (lv' := [(1, .int x3), (0, .ref (G.1 10))]) hx hb dX1_begin_33 hl (k := 1) rfl (by rw [kI_1, ex3]) (by decide) rfl (fun ls hl => ?_)
        refine lv_goto (pc := 36) (tgt := 17) hx hb dX1_begin_36 (by decide) ?_
        exact ih x3 u2 _ _ _ hf K (lv_sub hl [1, 0] rfl)
set_option maxRecDepth 100000 in
set_option maxHeartbeats 4000000 in
theorem pX1_begin {l : Launch} (G : Gt) {u u' : St} (hf : fX1_begin u = some u') : Ctr 0 76 l yX1_begin cX1_begin 2 none rmX1_begin [.ref (G.1 10)] G u none u' := by
  refine Ctr.mk (by decide) (Nat.le_of_ble_eq_true rfl) (fun p e s m below meth c A ls B K hl => ?_)
  have F := B.1
  have hx := F.1
  have hb := F.2.1
  have hl : lv_has ls 2 [(0, .ref (G.1 10))] := hl
  unfold fX1_begin at hf
  refine lv_aload_n hx hb dX1_begin_0 rfl (lv_at hl 0 rfl) ?_
  refine lv_iconst (v := 0) hx hb dX1_begin_1 kI_0 ?_
  refine ok_putI F K qX1_38 dX1_begin_2 (fun u4 H locs eu4 K => ?_)
  have hf := g_lt hf u4 eu4
  refine lv_aload_n hx hb dX1_begin_5 rfl (lv_at hl 0 rfl) ?_
  refine lv_iconst (v := 0) hx hb dX1_begin_6 kI_0 ?_
  refine ok_putZ F K qX1_42 (Or.inl rfl) dX1_begin_7 (fun u5 H locs eu5 K => ?_)
  have hf := g_lt hf u5 eu5
  refine lv_aload_n hx hb dX1_begin_10 rfl (lv_at hl 0 rfl) ?_
  refine lv_iconst (v := 0) hx hb dX1_begin_11 kI_0 ?_
  refine ok_putI F K qX1_46 dX1_begin_12 (fun u6 H locs eu6 K => ?_)
  have hf := g_lt hf u6 eu6
  refine lv_iconst (v := 0) hx hb dX1_begin_15 kI_0 ?_
  refine lv_topi (fun x7 ex7 => ?_)
  have hf := g_lt hf x7 ex7
  refine lv_istore_n (lv' := [(1, .int x7), (0, .ref (G.1 10))]) hx hb dX1_begin_16 rfl hl (by decide) rfl (fun ls hl => ?_)
  exact (pX1_begin_L0  B FU) x7 u6 _ _ _ hf K (lv_sub hl [1, 0] rfl)
abbrev rmX1_put : Room := { frames := 0, cells := 0, slots := 0, locals := 0 }
set_option maxRecDepth 100000 in
set_option maxHeartbeats 4000000 in
theorem pX1_put {l : Launch} (G : Gt) {a0 : Int32} {u u' : St} (hf : fX1_put a0 u = some u') : Ctr 0 76 l yX1_put cX1_put 2 none rmX1_put [.ref (G.1 10), .int a0] G u none u' := by
  refine Ctr.mk (by decide) (Nat.le_of_ble_eq_true rfl) (fun p e s m below meth c A ls B K hl => ?_)
  have F := B.1
  have hx := F.1
  have hb := F.2.1
  have hl : lv_has ls 2 [(0, .ref (G.1 10)), (1, .int a0)] := hl
  unfold fX1_put at hf
  refine lv_aload_n hx hb dX1_put_0 rfl (lv_at hl 0 rfl) ?_
  refine ok_int F K fX1_38 dX1_put_1 ?_
  refine lv_sipush (v := 4000) hx hb dX1_put_4 kS_4000 ?_
  refine lv_icmp_lt (pc := 7) (tgt := 16) hx hb dX1_put_7 (by decide) (fun c1 => ?_) (fun c1 => ?_)
  · have hf := g_pos hf c1
    refine lv_aload_n hx hb dX1_put_16 rfl (lv_at hl 0 rfl) ?_
    refine ok_mref F K fX1_15 dX1_put_17 ?_
    refine lv_aload_n hx hb dX1_put_20 rfl (lv_at hl 0 rfl) ?_
    refine ok_int F K fX1_38 dX1_put_21 ?_
    refine lv_iload_n hx hb dX1_put_24 rfl (lv_at hl 1 rfl) ?_
    refine lv_i2b hx hb dX1_put_25 rfl ?_
    obtain ⟨z3, hz3, hf⟩ := g_bd hf
    obtain ⟨u2, hu2, hf⟩ := g_bd hf
    refine ok_bast F K (g_pg hz3) hu2 dX1_put_26 (fun H locs K => ?_)
    refine lv_aload_n hx hb dX1_put_27 rfl (lv_at hl 0 rfl) ?_
    refine lv_dup hx hb dX1_put_28 rfl ?_
    refine ok_int F K fX1_38 dX1_put_29 ?_
    refine lv_iconst (v := 1) hx hb dX1_put_32 kI_1 ?_
    refine lv_iadd hx hb dX1_put_33 ?_
    refine ok_putI F K qX1_38 dX1_put_34 (fun u4 H locs eu4 K => ?_)
    have hf := g_lt hf u4 eu4
    exact ok_retv B K hf dX1_put_37
  · have hf := g_neg hf c1
    refine lv_aload_n hx hb dX1_put_10 rfl (lv_at hl 0 rfl) ?_
    refine lv_iconst (v := 1) hx hb dX1_put_11 kI_1 ?_
    refine ok_putZ F K qX1_42 (Or.inr rfl) dX1_put_12 (fun u5 H locs eu5 K => ?_)
    have hf := g_lt hf u5 eu5
    exact ok_retv B K hf dX1_put_15
abbrev rmX1_endTerm : Room := { frames := 1, cells := 0, slots := 0, locals := 21 }
set_option maxRecDepth 100000 in
set_option maxHeartbeats 4000000 in
theorem pX1_endTerm_L0 {p : Program} {l : Launch} {e : Env} {s : State} {m : MethodId} {below : List Frame} {meth : Method} {c : Code} {A : Nat → Prop} {G : Gt} {u' : St} (B : Bd p s m [.ref (G.1 10)] meth c yX1_endTerm cX1_endTerm 1 none) (n : Nat) : (∀ (u : St) (H : Heap) (locs : List Loc) (ls : Array Slot), fX1_endTerm_L0  n 0  u = some u' → Ok 0 76 G A s u H locs → lv_has ls 1 [(0, .ref (G.1 10))] → W p l e rmX1_endTerm s m ([.ref (G.1 10)] : List Value).toArray below meth c H locs 0 0 (MQ below (Qg 0 76 G A none u') ([.ref (G.1 10)] : List Value).toArray s 0 0 A) (F0 m 0 ls [])) := by
  have F := B.1
  have hx := F.1
  have hb := F.2.1
  induction n with
  | zero => exact fun _ _ _ _ hf => g_no hf
  | succ n ih =>
    refine ?_
    · intro  u H locs ls hf K hl
      have hf : fX1_endTerm_L0_0  (fX1_endTerm_L0  n)  u = some u' := hf
      unfold fX1_endTerm_L0_0 at hf
      refine lv_aload_n hx hb dX1_endTerm_0 rfl (lv_at hl 0 rfl) ?_
      refine ok_int F K fX1_69 dX1_endTerm_1 ?_
      refine lv_if_le (pc := 4) (tgt := 62) hx hb dX1_endTerm_4 (by decide) (fun c1 => ?_) (fun c1 => ?_)
      · have hf := g_pos hf c1
        exact ok_retv B K hf dX1_endTerm_62
      · have hf := g_neg hf c1
        refine lv_aload_n hx hb dX1_endTerm_7 rfl (lv_at hl 0 rfl) ?_
        refine ok_ref F K fX1_18 dX1_endTerm_8 ?_
        refine lv_aload_n hx hb dX1_endTerm_11 rfl (lv_at hl 0 rfl) ?_
        refine ok_int F K fX1_69 dX1_endTerm_12 ?_
        refine lv_iconst (v := 1) hx hb dX1_endTerm_15 kI_1 ?_
        refine lv_isub hx hb dX1_endTerm_16 ?_
        refine lv_dup2_11 hx hb dX1_endTerm_17 rfl rfl ?_
        obtain ⟨v2, hv2, hf⟩ := g_bd hf
        refine ok_iald F K t73 hv2 dX1_endTerm_18 ?_
        refine lv_iconst (v := 1) hx hb dX1_endTerm_19 kI_1 ?_
        refine lv_isub hx hb dX1_endTerm_20 ?_
        obtain ⟨u3, hu3, hf⟩ := g_bd hf
        refine ok_iast F K t73 hu3 dX1_endTerm_21 (fun H locs K => ?_)
        refine lv_aload_n hx hb dX1_endTerm_22 rfl (lv_at hl 0 rfl) ?_
        refine ok_ref F K fX1_18 dX1_endTerm_23 ?_
        refine lv_aload_n hx hb dX1_endTerm_26 rfl (lv_at hl 0 rfl) ?_
        refine ok_int F K fX1_69 dX1_endTerm_27 ?_
        refine lv_iconst (v := 1) hx hb dX1_endTerm_30 kI_1 ?_
        refine lv_isub hx hb dX1_endTerm_31 ?_
        obtain ⟨v4, hv4, hf⟩ := g_bd hf
        refine ok_iald F K t73 hv4 dX1_endTerm_32 ?_
        refine lv_if_le (pc := 33) (tgt := 43) hx hb dX1_endTerm_33 (by decide) (fun c5 => ?_) (fun c5 => ?_)
        · have hf := g_pos hf c5
          refine lv_aload_n hx hb dX1_endTerm_43 rfl (lv_at hl 0 rfl) ?_
          refine lv_bipush (v := 41) hx hb dX1_endTerm_44 kB_41 ?_
          obtain ⟨u6, hu6, hf⟩ := g_bd hf
          refine ok_callv (rest := []) F K (pX1_put G hu6) mX1_put oc10 lX1_57 rfl hl.1 rfl ⟨⟨rfl, rfl⟩, Nat.le_of_ble_eq_true rfl, Nat.le_of_ble_eq_true rfl⟩ (Nat.le_of_ble_eq_true rfl) dX1_endTerm_46 (fun H locs K => ?_)
          refine lv_aload_n hx hb dX1_endTerm_49 rfl (lv_at hl 0 rfl) ?_
          refine lv_dup hx hb dX1_endTerm_50 rfl ?_
          refine ok_int F K fX1_69 dX1_endTerm_51 ?_
          refine lv_iconst (v := 1) hx hb dX1_endTerm_54 kI_1 ?_
          refine lv_isub hx hb dX1_endTerm_55 ?_
          refine ok_putI F K qX1_69 dX1_endTerm_56 (fun u7 H locs eu7 K => ?_)
          have hf := g_lt hf u7 eu7
          refine lv_goto (pc := 59) (tgt := 0) hx hb dX1_endTerm_59 (by decide) ?_
          exact ih  u7 _ _ _ hf K (lv_sub hl [0] rfl)
        · have hf := g_neg hf c5
          refine lv_aload_n hx hb dX1_endTerm_36 rfl (lv_at hl 0 rfl) ?_
          refine lv_bipush (v := 44) hx hb dX1_endTerm_37 kB_44 ?_
          obtain ⟨u8, hu8, hf⟩ := g_bd hf
          refine ok_callv (rest := []) F K (pX1_put G hu8) mX1_put oc10 lX1_57 rfl hl.1 rfl ⟨⟨rfl, rfl⟩, Nat.le_of_ble_eq_true rfl, Nat.le_of_ble_eq_true rfl⟩ (Nat.le_of_ble_eq_true rfl) dX1_endTerm_39 (fun H locs K => ?_)
          exact ok_retv B K hf dX1_endTerm_42
set_option maxRecDepth 100000 in
set_option maxHeartbeats 4000000 in
theorem pX1_endTerm {l : Launch} (G : Gt) {u u' : St} (hf : fX1_endTerm u = some u') : Ctr 0 76 l yX1_endTerm cX1_endTerm 1 none rmX1_endTerm [.ref (G.1 10)] G u none u' := by
  refine Ctr.mk (by decide) (Nat.le_of_ble_eq_true rfl) (fun p e s m below meth c A ls B K hl => ?_)
  have F := B.1
  have hx := F.1
  have hb := F.2.1
  have hl : lv_has ls 1 [(0, .ref (G.1 10))] := hl
  unfold fX1_endTerm at hf
  exact (pX1_endTerm_L0  B FU)  u _ _ _ hf K (lv_sub hl [0] rfl)
abbrev rmX1_finish : Room := { frames := 0, cells := 0, slots := 0, locals := 0 }
set_option maxRecDepth 100000 in
set_option maxHeartbeats 4000000 in
theorem pX1_finish {l : Launch} (G : Gt) {r : Int32} {u u' : St} (hf : fX1_finish u = some (r, u')) : Ctr 0 76 l yX1_finish cX1_finish 2 (some .int) rmX1_finish [.ref (G.1 10)] G u (some (.int r)) u' := by
  refine Ctr.mk (by decide) (Nat.le_of_ble_eq_true rfl) (fun p e s m below meth c A ls B K hl => ?_)
  have F := B.1
  have hx := F.1
  have hb := F.2.1
  have hl : lv_has ls 2 [(0, .ref (G.1 10))] := hl
  unfold fX1_finish at hf
  refine lv_aload_n hx hb dX1_finish_0 rfl (lv_at hl 0 rfl) ?_
  refine ok_int F K fX1_42 dX1_finish_1 ?_
  refine lv_if_eq (pc := 4) (tgt := 10) hx hb dX1_finish_4 (by decide) (fun c1 => ?_) (fun c1 => ?_)
  · have hf := g_pos hf c1
    refine lv_aload_n hx hb dX1_finish_10 rfl (lv_at hl 0 rfl) ?_
    refine ok_mref F K fX1_11 dX1_finish_11 ?_
    refine lv_astore_n (lv' := [(1, .ref (G.1 (gR u 10 2))), (0, .ref (G.1 10))]) hx hb dX1_finish_14 rfl hl (by decide) rfl (fun ls hl => ?_)
    refine lv_aload_n hx hb dX1_finish_15 rfl (lv_at hl 1 rfl) ?_
    refine lv_aload_n hx hb dX1_finish_16 rfl (lv_at hl 1 rfl) ?_
    refine ok_mref F K fX1_15 dX1_finish_17 ?_
    refine ok_putR F K qX1_11 dX1_finish_20 (fun u2 H locs eu2 K => ?_)
    have hf := g_lt hf u2 eu2
    refine lv_aload_n hx hb dX1_finish_23 rfl (lv_at hl 1 rfl) ?_
    refine lv_aload_n hx hb dX1_finish_24 rfl (lv_at hl 0 rfl) ?_
    refine ok_putR F K qX1_15 dX1_finish_25 (fun u3 H locs eu3 K => ?_)
    have hf := g_lt hf u3 eu3
    refine lv_aload_n hx hb dX1_finish_28 rfl (lv_at hl 1 rfl) ?_
    refine lv_aload_n hx hb dX1_finish_29 rfl (lv_at hl 1 rfl) ?_
    refine ok_int F K fX1_38 dX1_finish_30 ?_
    refine ok_putI F K qX1_49 dX1_finish_33 (fun u4 H locs eu4 K => ?_)
    have hf := g_lt hf u4 eu4
    refine lv_aload_n hx hb dX1_finish_36 rfl (lv_at hl 1 rfl) ?_
    refine ok_int F K fX1_49 dX1_finish_37 ?_
    exact ok_reti B K hf dX1_finish_40
  · have hf := g_neg hf c1
    refine lv_bipush (v := (-4)) hx hb dX1_finish_7 kB_m4 ?_
    exact ok_reti B K hf dX1_finish_9
abbrev rmX9_begin : Room := { frames := 0, cells := 0, slots := 0, locals := 0 }
set_option maxRecDepth 100000 in
set_option maxHeartbeats 4000000 in
theorem pX9_begin {l : Launch} (G : Gt) {w : Nat} (hw : w < 3) {a0 : Int32} {a1 : Int32} {a2 : Int32} {u u' : St} (hf : fX9_begin w a0 a1 a2 u = some u') : Ctr 0 76 l yX9_begin cX9_begin 4 none rmX9_begin [.ref (G.1 (11 + w)), .int a0, .int a1, .int a2] G u none u' := by
  refine Ctr.mk (by decide) (Nat.le_of_ble_eq_true rfl) (fun p e s m below meth c A ls B K hl => ?_)
  have F := B.1
  have hx := F.1
  have hb := F.2.1
  have hl : lv_has ls 4 [(0, .ref (G.1 (11 + w))), (1, .int a0), (2, .int a1), (3, .int a2)] := hl
  unfold fX9_begin at hf
  refine lv_aload_n hx hb dX9_begin_0 rfl (lv_at hl 0 rfl) ?_
  refine ok_ref F K (fX9_13 hw) dX9_begin_1 ?_
  refine lv_iconst (v := 0) hx hb dX9_begin_4 kI_0 ?_
  refine lv_iload_n hx hb dX9_begin_5 rfl (lv_at hl 1 rfl) ?_
  obtain ⟨u1, hu1, hf⟩ := g_bd hf
  refine ok_iast F K (tW0 (w := w) hw) hu1 dX9_begin_6 (fun H locs K => ?_)
  refine lv_aload_n hx hb dX9_begin_7 rfl (lv_at hl 0 rfl) ?_
  refine ok_ref F K (fX9_17 hw) dX9_begin_8 ?_
  refine lv_iconst (v := 0) hx hb dX9_begin_11 kI_0 ?_
  refine lv_iload_n hx hb dX9_begin_12 rfl (lv_at hl 2 rfl) ?_
  obtain ⟨u2, hu2, hf⟩ := g_bd hf
  refine ok_iast F K (tW1 (w := w) hw) hu2 dX9_begin_13 (fun H locs K => ?_)
  refine lv_aload_n hx hb dX9_begin_14 rfl (lv_at hl 0 rfl) ?_
  refine ok_ref F K (fX9_20 hw) dX9_begin_15 ?_
  refine lv_iconst (v := 0) hx hb dX9_begin_18 kI_0 ?_
  refine lv_iload_n hx hb dX9_begin_19 rfl (lv_at hl 3 rfl) ?_
  obtain ⟨u3, hu3, hf⟩ := g_bd hf
  refine ok_iast F K (tW2 (w := w) hw) hu3 dX9_begin_20 (fun H locs K => ?_)
  refine lv_aload_n hx hb dX9_begin_21 rfl (lv_at hl 0 rfl) ?_
  refine lv_iconst (v := 0) hx hb dX9_begin_22 kI_0 ?_
  refine ok_putI F K (qX9_31 hw) dX9_begin_23 (fun u4 H locs eu4 K => ?_)
  have hf := g_lt hf u4 eu4
  exact ok_retv B K hf dX9_begin_26
abbrev rmX9_more : Room := { frames := 0, cells := 0, slots := 0, locals := 0 }
set_option maxRecDepth 100000 in
set_option maxHeartbeats 4000000 in
theorem pX9_more_L0 {p : Program} {l : Launch} {e : Env} {s : State} {m : MethodId} {below : List Frame} {meth : Method} {c : Code} {A : Nat → Prop} {G : Gt} {w : Nat} {r : Int32} {u' : St} (hw : w < 3) (B : Bd p s m [.ref (G.1 (11 + w))] meth c yX9_more cX9_more 3 (some .boolean)) (n : Nat) : (∀ (x1_ : Int32) (u : St) (H : Heap) (locs : List Loc) (ls : Array Slot), fX9_more_L0 w n 0 x1_ u = some (r, u') → Ok 0 76 G A s u H locs → lv_has ls 3 [(0, .ref (G.1 (11 + w))), (1, .int x1_)] → W p l e rmX9_more s m ([.ref (G.1 (11 + w))] : List Value).toArray below meth c H locs 0 0 (MQ below (Qg 0 76 G A (some (.int r)) u') ([.ref (G.1 (11 + w))] : List Value).toArray s 0 0 A) (F0 m 2 ls [])) := by
  have F := B.1
  have hx := F.1
  have hb := F.2.1
  induction n with
  | zero => exact fun _ _ _ _ _ hf => g_no hf
  | succ n ih =>
    refine ?_
    · intro x1_ u H locs ls hf K hl
      have hf : fX9_more_L0_0 w (fX9_more_L0 w n) x1_ u = some (r, u') := hf
      unfold fX9_more_L0_0 at hf
      refine lv_iload_n hx hb dX9_more_2 rfl (lv_at hl 1 rfl) ?_
      refine lv_ldc (v := 1000000) hx hb F.2.2.2.1 (F.2.2.2.2 _ kcX9_35) dX9_more_3 ?_
      refine lv_icmp_ge (pc := 5) (tgt := 208) hx hb dX9_more_5 (by decide) (fun c1 => ?_) (fun c1 => ?_)
      · have hf := g_pos hf c1
        refine lv_iconst (v := 0) hx hb dX9_more_208 kI_0 ?_
        exact ok_retz B K hf (Or.inl rfl) dX9_more_209
      · have hf := g_neg hf c1
        refine lv_aload_n hx hb dX9_more_8 rfl (lv_at hl 0 rfl) ?_
        refine ok_ref F K (fX9_20 hw) dX9_more_9 ?_
        refine lv_aload_n hx hb dX9_more_12 rfl (lv_at hl 0 rfl) ?_
        refine ok_int F K (fX9_31 hw) dX9_more_13 ?_
        obtain ⟨v2, hv2, hf⟩ := g_bd hf
        refine ok_iald F K (tW2 (w := w) hw) hv2 dX9_more_16 ?_
        refine lv_if_gt (pc := 17) (tgt := 42) hx hb dX9_more_17 (by decide) (fun c3 => ?_) (fun c3 => ?_)
        · have hf := g_pos hf c3
          refine lv_aload_n hx hb dX9_more_42 rfl (lv_at hl 0 rfl) ?_
          refine ok_ref F K (fX9_17 hw) dX9_more_43 ?_
          refine lv_aload_n hx hb dX9_more_46 rfl (lv_at hl 0 rfl) ?_
          refine ok_int F K (fX9_31 hw) dX9_more_47 ?_
          obtain ⟨v4, hv4, hf⟩ := g_bd hf
          refine ok_iald F K (tW1 (w := w) hw) hv4 dX9_more_50 ?_
          refine lv_iconst (v := 1) hx hb dX9_more_51 kI_1 ?_
          refine lv_isub hx hb dX9_more_52 ?_
          refine lv_aload_n hx hb dX9_more_53 rfl (lv_at hl 0 rfl) ?_
          refine ok_ref F K (fX9_23 hw) dX9_more_54 ?_
          refine ok_ref F K fX9_36 dX9_more_57 ?_
          refine lv_aload_n hx hb dX9_more_60 rfl (lv_at hl 0 rfl) ?_
          refine ok_ref F K (fX9_13 hw) dX9_more_61 ?_
          refine lv_aload_n hx hb dX9_more_64 rfl (lv_at hl 0 rfl) ?_
          refine ok_int F K (fX9_31 hw) dX9_more_65 ?_
          obtain ⟨v5, hv5, hf⟩ := g_bd hf
          refine ok_iald F K (tW0 (w := w) hw) hv5 dX9_more_68 ?_
          obtain ⟨v6, hv6, hf⟩ := g_bd hf
          refine ok_iald F K t32 hv6 dX9_more_69 ?_
          refine lv_isub hx hb dX9_more_70 ?_
          refine lv_topi (fun x7 ex7 => ?_)
          have hf := g_lt hf x7 ex7
          refine lv_istore_n (lv' := [(2, .int x7), (0, .ref (G.1 (11 + w))), (1, .int x1_)]) hx hb dX9_more_71 rfl hl (by decide) rfl (fun ls hl => ?_)
          refine lv_aload_n hx hb dX9_more_72 rfl (lv_at hl 1 rfl) ?_
          refine ok_ref F K (fX9_23 hw) dX9_more_73 ?_
          refine ok_ref F K fX9_36 dX9_more_76 ?_
          refine lv_aload_n hx hb dX9_more_79 rfl (lv_at hl 1 rfl) ?_
          refine ok_ref F K (fX9_13 hw) dX9_more_80 ?_
          refine lv_aload_n hx hb dX9_more_83 rfl (lv_at hl 1 rfl) ?_
          refine ok_int F K (fX9_31 hw) dX9_more_84 ?_
          obtain ⟨v8, hv8, hf⟩ := g_bd hf
          refine ok_iald F K (tW0 (w := w) hw) hv8 dX9_more_87 ?_
          obtain ⟨v9, hv9, hf⟩ := g_bd hf
          refine ok_iald F K t32 hv9 dX9_more_88 ?_
          refine lv_if_ge (pc := 89) (tgt := 104) hx hb dX9_more_89 (by decide) (fun c10 => ?_) (fun c10 => ?_)
          · have hf := g_pos hf c10
            refine lv_iconst (v := 1) hx hb dX9_more_104 kI_1 ?_
            exact ok_retz B K hf (Or.inr rfl) dX9_more_105
          · have hf := g_neg hf c10
            refine lv_aload_n hx hb dX9_more_92 rfl (lv_at hl 1 rfl) ?_
            refine ok_ref F K (fX9_27 hw) dX9_more_93 ?_
            refine ok_ref F K fX9_41 dX9_more_96 ?_
            refine lv_iload_n hx hb dX9_more_99 rfl (lv_at hl 0 rfl) ?_
            obtain ⟨v11, hv11, hf⟩ := g_bd hf
            refine ok_iald F K t62 hv11 dX9_more_100 ?_
            refine lv_if_ge (pc := 101) (tgt := 106) hx hb dX9_more_101 (by decide) (fun c12 => ?_) (fun c12 => ?_)
            · have hf := g_pos hf c12
              refine lv_aload_n hx hb dX9_more_106 rfl (lv_at hl 1 rfl) ?_
              refine ok_ref F K (fX9_13 hw) dX9_more_107 ?_
              refine lv_aload_n hx hb dX9_more_110 rfl (lv_at hl 1 rfl) ?_
              refine ok_int F K (fX9_31 hw) dX9_more_111 ?_
              refine lv_dup2_11 hx hb dX9_more_114 rfl rfl ?_
              obtain ⟨v13, hv13, hf⟩ := g_bd hf
              refine ok_iald F K (tW0 (w := w) hw) hv13 dX9_more_115 ?_
              refine lv_iconst (v := 1) hx hb dX9_more_116 kI_1 ?_
              refine lv_iadd hx hb dX9_more_117 ?_
              obtain ⟨u14, hu14, hf⟩ := g_bd hf
              refine ok_iast F K (tW0 (w := w) hw) hu14 dX9_more_118 (fun H locs K => ?_)
              refine lv_aload_n hx hb dX9_more_119 rfl (lv_at hl 1 rfl) ?_
              refine ok_ref F K (fX9_20 hw) dX9_more_120 ?_
              refine lv_aload_n hx hb dX9_more_123 rfl (lv_at hl 1 rfl) ?_
              refine ok_int F K (fX9_31 hw) dX9_more_124 ?_
              refine lv_dup2_11 hx hb dX9_more_127 rfl rfl ?_
              obtain ⟨v15, hv15, hf⟩ := g_bd hf
              refine ok_iald F K (tW2 (w := w) hw) hv15 dX9_more_128 ?_
              refine lv_iconst (v := 1) hx hb dX9_more_129 kI_1 ?_
              refine lv_isub hx hb dX9_more_130 ?_
              obtain ⟨u16, hu16, hf⟩ := g_bd hf
              refine ok_iast F K (tW2 (w := w) hw) hu16 dX9_more_131 (fun H locs K => ?_)
              refine lv_aload_n hx hb dX9_more_132 rfl (lv_at hl 1 rfl) ?_
              refine ok_int F K (fX9_31 hw) dX9_more_133 ?_
              refine lv_iconst (v := 1) hx hb dX9_more_136 kI_1 ?_
              refine lv_iadd hx hb dX9_more_137 ?_
              refine lv_sipush (v := 222) hx hb dX9_more_138 kS_222 ?_
              refine lv_icmp_lt (pc := 141) (tgt := 146) hx hb dX9_more_141 (by decide) (fun c17 => ?_) (fun c17 => ?_)
              · have hf := g_pos hf c17
                refine lv_aload_n hx hb dX9_more_146 rfl (lv_at hl 1 rfl) ?_
                refine lv_dup hx hb dX9_more_147 rfl ?_
                refine ok_int F K (fX9_31 hw) dX9_more_148 ?_
                refine lv_iconst (v := 1) hx hb dX9_more_151 kI_1 ?_
                refine lv_iadd hx hb dX9_more_152 ?_
                refine ok_putI F K (qX9_31 hw) dX9_more_153 (fun u18 H locs eu18 K => ?_)
                have hf := g_lt hf u18 eu18
                refine lv_aload_n hx hb dX9_more_156 rfl (lv_at hl 1 rfl) ?_
                refine ok_ref F K (fX9_13 hw) dX9_more_157 ?_
                refine lv_aload_n hx hb dX9_more_160 rfl (lv_at hl 1 rfl) ?_
                refine ok_int F K (fX9_31 hw) dX9_more_161 ?_
                refine lv_aload_n hx hb dX9_more_164 rfl (lv_at hl 1 rfl) ?_
                refine ok_ref F K (fX9_27 hw) dX9_more_165 ?_
                refine ok_ref F K fX9_41 dX9_more_168 ?_
                refine lv_iload_n hx hb dX9_more_171 rfl (lv_at hl 0 rfl) ?_
                obtain ⟨v19, hv19, hf⟩ := g_bd hf
                refine ok_iald F K t62 hv19 dX9_more_172 ?_
                obtain ⟨u20, hu20, hf⟩ := g_bd hf
                refine ok_iast F K (tW0 (w := w) hw) hu20 dX9_more_173 (fun H locs K => ?_)
                refine lv_aload_n hx hb dX9_more_174 rfl (lv_at hl 1 rfl) ?_
                refine ok_ref F K (fX9_17 hw) dX9_more_175 ?_
                refine lv_aload_n hx hb dX9_more_178 rfl (lv_at hl 1 rfl) ?_
                refine ok_int F K (fX9_31 hw) dX9_more_179 ?_
                refine lv_aload_n hx hb dX9_more_182 rfl (lv_at hl 1 rfl) ?_
                refine ok_ref F K (fX9_27 hw) dX9_more_183 ?_
                refine ok_ref F K fX9_44 dX9_more_186 ?_
                refine lv_iload_n hx hb dX9_more_189 rfl (lv_at hl 0 rfl) ?_
                obtain ⟨v21, hv21, hf⟩ := g_bd hf
                refine ok_iald F K t63 hv21 dX9_more_190 ?_
                obtain ⟨u22, hu22, hf⟩ := g_bd hf
                refine ok_iast F K (tW1 (w := w) hw) hu22 dX9_more_191 (fun H locs K => ?_)
                refine lv_aload_n hx hb dX9_more_192 rfl (lv_at hl 1 rfl) ?_
                refine ok_ref F K (fX9_20 hw) dX9_more_193 ?_
                refine lv_aload_n hx hb dX9_more_196 rfl (lv_at hl 1 rfl) ?_
                refine ok_int F K (fX9_31 hw) dX9_more_197 ?_
                refine lv_iconst (v := 1) hx hb dX9_more_200 kI_1 ?_
                obtain ⟨u23, hu23, hf⟩ := g_bd hf
                refine ok_iast F K (tW2 (w := w) hw) hu23 dX9_more_201 (fun H locs K => ?_)
                obtain ⟨x24, ex24⟩ : ∃ y : Int32, y = x1_ + 1 := ⟨_, rfl⟩
                have hf := g_lt hf x24 ex24
                refine lv_iinc (v := x24) (lv' := [(1, .int x24), (2, .int x7), (0, .ref (G.1 (11 + w)))]) hx hb dX9_more_202 hl (k := 2) rfl (by rw [kI_1, ex24]) (by decide) rfl (fun ls hl => ?_)
                refine lv_goto (pc := 205) (tgt := 2) hx hb dX9_more_205 (by decide) ?_
                exact ih x24 u23 _ _ _ hf K (lv_sub hl [2, 0] rfl)
              · have hf := g_neg hf c17
                refine lv_iconst (v := 0) hx hb dX9_more_144 kI_0 ?_
                exact ok_retz B K hf (Or.inl rfl) dX9_more_145
            · have hf := g_neg hf c12
              refine lv_iconst (v := 1) hx hb dX9_more_104 kI_1 ?_
              exact ok_retz B K hf (Or.inr rfl) dX9_more_105
        · have hf := g_neg hf c3
          refine lv_aload_n hx hb dX9_more_20 rfl (lv_at hl 0 rfl) ?_
          refine ok_int F K (fX9_31 hw) dX9_more_21 ?_
          refine lv_if_ne (pc := 24) (tgt := 29) hx hb dX9_more_24 (by decide) (fun c25 => ?_) (fun c25 => ?_)
          · have hf := g_neg hf c25
            refine lv_aload_n hx hb dX9_more_29 rfl (lv_at hl 0 rfl) ?_
            refine lv_dup hx hb dX9_more_30 rfl ?_
            refine ok_int F K (fX9_31 hw) dX9_more_31 ?_
            refine lv_iconst (v := 1) hx hb dX9_more_34 kI_1 ?_
            refine lv_isub hx hb dX9_more_35 ?_
            refine ok_putI F K (qX9_31 hw) dX9_more_36 (fun u26 H locs eu26 K => ?_)
            have hf := g_lt hf u26 eu26
            refine lv_goto (pc := 39) (tgt := 202) hx hb dX9_more_39 (by decide) ?_
            obtain ⟨x27, ex27⟩ : ∃ y : Int32, y = x1_ + 1 := ⟨_, rfl⟩
            have hf := g_lt hf x27 ex27
            refine lv_iinc (v := x27) (lv' := [(1, .int x27), (0, .ref (G.1 (11 + w)))]) hx hb dX9_more_202 hl (k := 1) rfl (by rw [kI_1, ex27]) (by decide) rfl (fun ls hl => ?_)
            refine lv_goto (pc := 205) (tgt := 2) hx hb dX9_more_205 (by decide) ?_
            exact ih x27 u26 _ _ _ hf K (lv_sub hl [1, 0] rfl)
          · have hf := g_pos hf c25
            refine lv_iconst (v := 0) hx hb dX9_more_27 kI_0 ?_
            exact ok_retz B K hf (Or.inl rfl) dX9_more_28
set_option maxRecDepth 100000 in
set_option maxHeartbeats 4000000 in
theorem pX9_more {l : Launch} (G : Gt) {w : Nat} (hw : w < 3) {r : Int32} {u u' : St} (hf : fX9_more w u = some (r, u')) : Ctr 0 76 l yX9_more cX9_more 3 (some .boolean) rmX9_more [.ref (G.1 (11 + w))] G u (some (.int r)) u' := by
  refine Ctr.mk (by decide) (Nat.le_of_ble_eq_true rfl) (fun p e s m below meth c A ls B K hl => ?_)
  have F := B.1
  have hx := F.1
  have hb := F.2.1
  have hl : lv_has ls 3 [(0, .ref (G.1 (11 + w)))] := hl
  unfold fX9_more at hf
  refine lv_iconst (v := 0) hx hb dX9_more_0 kI_0 ?_
  refine lv_topi (fun x28 ex28 => ?_)
  have hf := g_lt hf x28 ex28
  refine lv_istore_n (lv' := [(1, .int x28), (0, .ref (G.1 (11 + w)))]) hx hb dX9_more_1 rfl hl (by decide) rfl (fun ls hl => ?_)
  exact (pX9_more_L0 hw B FU) x28 u _ _ _ hf K (lv_sub hl [1, 0] rfl)
abbrev rmX9_variable : Room := { frames := 0, cells := 0, slots := 0, locals := 0 }
set_option maxRecDepth 100000 in
set_option maxHeartbeats 4000000 in
theorem pX9_variable {l : Launch} (G : Gt) {w : Nat} (hw : w < 3) {r : Int32} {u u' : St} (hf : fX9_variable w u = some (r, u')) : Ctr 0 76 l yX9_variable cX9_variable 2 (some .int) rmX9_variable [.ref (G.1 (11 + w))] G u (some (.int r)) u' := by
  refine Ctr.mk (by decide) (Nat.le_of_ble_eq_true rfl) (fun p e s m below meth c A ls B K hl => ?_)
  have F := B.1
  have hx := F.1
  have hb := F.2.1
  have hl : lv_has ls 2 [(0, .ref (G.1 (11 + w)))] := hl
  unfold fX9_variable at hf
  refine lv_aload_n hx hb dX9_variable_0 rfl (lv_at hl 0 rfl) ?_
  refine ok_ref F K (fX9_23 hw) dX9_variable_1 ?_
  refine ok_ref F K fX9_36 dX9_variable_4 ?_
  refine lv_aload_n hx hb dX9_variable_7 rfl (lv_at hl 0 rfl) ?_
  refine ok_ref F K (fX9_13 hw) dX9_variable_8 ?_
  refine lv_aload_n hx hb dX9_variable_11 rfl (lv_at hl 0 rfl) ?_
  refine ok_int F K (fX9_31 hw) dX9_variable_12 ?_
  obtain ⟨v1, hv1, hf⟩ := g_bd hf
  refine ok_iald F K (tW0 (w := w) hw) hv1 dX9_variable_15 ?_
  obtain ⟨v2, hv2, hf⟩ := g_bd hf
  refine ok_iald F K t32 hv2 dX9_variable_16 ?_
  refine lv_istore_n (lv' := [(1, .int v2), (0, .ref (G.1 (11 + w)))]) hx hb dX9_variable_17 rfl hl (by decide) rfl (fun ls hl => ?_)
  refine lv_iload_n hx hb dX9_variable_18 rfl (lv_at hl 0 rfl) ?_
  refine lv_if_ge (pc := 19) (tgt := 38) hx hb dX9_variable_19 (by decide) (fun c3 => ?_) (fun c3 => ?_)
  · have hf := g_pos hf c3
    refine lv_iconst (v := (-1)) hx hb dX9_variable_38 kI_m1 ?_
    exact ok_reti B K hf dX9_variable_39
  · have hf := g_neg hf c3
    refine lv_aload_n hx hb dX9_variable_22 rfl (lv_at hl 1 rfl) ?_
    refine ok_ref F K (fX9_17 hw) dX9_variable_23 ?_
    refine lv_aload_n hx hb dX9_variable_26 rfl (lv_at hl 1 rfl) ?_
    refine ok_int F K (fX9_31 hw) dX9_variable_27 ?_
    obtain ⟨v4, hv4, hf⟩ := g_bd hf
    refine ok_iald F K (tW1 (w := w) hw) hv4 dX9_variable_30 ?_
    refine lv_iconst (v := 1) hx hb dX9_variable_31 kI_1 ?_
    refine lv_isub hx hb dX9_variable_32 ?_
    refine lv_iload_n hx hb dX9_variable_33 rfl (lv_at hl 0 rfl) ?_
    refine lv_isub hx hb dX9_variable_34 ?_
    refine lv_goto (pc := 35) (tgt := 39) hx hb dX9_variable_35 (by decide) ?_
    exact ok_reti B K hf dX9_variable_39
abbrev rmX1_putNumber : Room := { frames := 1, cells := 0, slots := 0, locals := 21 }
set_option maxRecDepth 100000 in
set_option maxHeartbeats 4000000 in
theorem pX1_putNumber_L0 {p : Program} {l : Launch} {e : Env} {s : State} {m : MethodId} {below : List Frame} {meth : Method} {c : Code} {A : Nat → Prop} {G : Gt} {a0 : Int32} {u' : St} (B : Bd p s m [.ref (G.1 10), .int a0] meth c yX1_putNumber cX1_putNumber 5 none) (n : Nat) : (∀ (x4_ : Int32) (u : St) (H : Heap) (locs : List Loc) (ls : Array Slot), fX1_putNumber_L0  n 0 x4_ u = some u' → Ok 0 76 G A s u H locs → lv_has ls 5 [(0, .ref (G.1 10)), (4, .int x4_)] → W p l e rmX1_putNumber s m ([.ref (G.1 10), .int a0] : List Value).toArray below meth c H locs 0 0 (MQ below (Qg 0 76 G A none u') ([.ref (G.1 10), .int a0] : List Value).toArray s 0 0 A) (F0 m 37 ls [])) := by
  have F := B.1
  have hx := F.1
  have hb := F.2.1
  induction n with
  | zero => exact fun _ _ _ _ _ hf => g_no hf
  | succ n ih =>
    refine ?_
    · intro x4_ u H locs ls hf K hl
      have hf : fX1_putNumber_L0_0  (fX1_putNumber_L0  n) x4_ u = some u' := hf
      unfold fX1_putNumber_L0_0 at hf
      refine lv_iload hx hb dX1_putNumber_37 (lv_at hl 1 rfl) ?_
      refine lv_if_lt (pc := 39) (tgt := 62) hx hb dX1_putNumber_39 (by decide) (fun c1 => ?_) (fun c1 => ?_)
      · have hf := g_pos hf c1
        exact ok_retv B K hf dX1_putNumber_62
      · have hf := g_neg hf c1
        refine lv_aload_n hx hb dX1_putNumber_42 rfl (lv_at hl 0 rfl) ?_
        refine lv_bipush (v := 48) hx hb dX1_putNumber_43 kB_48 ?_
        refine lv_aload_n hx hb dX1_putNumber_45 rfl (lv_at hl 0 rfl) ?_
        refine ok_ref F K fX1_27 dX1_putNumber_46 ?_
        refine lv_iload hx hb dX1_putNumber_49 (lv_at hl 1 rfl) ?_
        obtain ⟨v2, hv2, hf⟩ := g_bd hf
        refine ok_iald F K t75 hv2 dX1_putNumber_51 ?_
        refine lv_iadd hx hb dX1_putNumber_52 ?_
        obtain ⟨u3, hu3, hf⟩ := g_bd hf
        refine ok_callv (rest := []) F K (pX1_put G hu3) mX1_put oc10 lX1_57 rfl hl.1 rfl ⟨⟨rfl, rfl⟩, Nat.le_of_ble_eq_true rfl, Nat.le_of_ble_eq_true rfl⟩ (Nat.le_of_ble_eq_true rfl) dX1_putNumber_53 (fun H locs K => ?_)
        obtain ⟨x4, ex4⟩ : ∃ y : Int32, y = x4_ + (-1) := ⟨_, rfl⟩
        have hf := g_lt hf x4 ex4
        refine lv_iinc (v := x4) (lv' := [(4, .int x4), (0, .ref (G.1 10))]) hx hb dX1_putNumber_56 hl (k := 1) rfl (by rw [kI_m1, ex4]) (by decide) rfl (fun ls hl => ?_)
        refine lv_goto (pc := 59) (tgt := 37) hx hb dX1_putNumber_59 (by decide) ?_
        exact ih x4 u3 _ _ _ hf K (lv_sub hl [1, 0] rfl)
set_option maxRecDepth 100000 in
set_option maxHeartbeats 4000000 in
theorem pX1_putNumber_L1 {p : Program} {l : Launch} {e : Env} {s : State} {m : MethodId} {below : List Frame} {meth : Method} {c : Code} {A : Nat → Prop} {G : Gt} {a0 : Int32} {u' : St} (B : Bd p s m [.ref (G.1 10), .int a0] meth c yX1_putNumber cX1_putNumber 5 none) (n : Nat) : (∀ (x2_ : Int32) (x3_ : Int32) (u : St) (H : Heap) (locs : List Loc) (ls : Array Slot), fX1_putNumber_L1  n 0 x2_ x3_ u = some u' → Ok 0 76 G A s u H locs → lv_has ls 5 [(0, .ref (G.1 10)), (2, .int x2_), (3, .int x3_)] → W p l e rmX1_putNumber s m ([.ref (G.1 10), .int a0] : List Value).toArray below meth c H locs 0 0 (MQ below (Qg 0 76 G A none u') ([.ref (G.1 10), .int a0] : List Value).toArray s 0 0 A) (F0 m 4 ls [])) := by
  have F := B.1
  have hx := F.1
  have hb := F.2.1
  induction n with
  | zero => exact fun _ _ _ _ _ _ hf => g_no hf
  | succ n ih =>
    refine ?_
    · intro x2_ x3_ u H locs ls hf K hl
      have hf : fX1_putNumber_L1_0  (fX1_putNumber_L1  n) x2_ x3_ u = some u' := hf
      unfold fX1_putNumber_L1_0 at hf
      refine lv_aload_n hx hb dX1_putNumber_4 rfl (lv_at hl 0 rfl) ?_
      refine ok_ref F K fX1_27 dX1_putNumber_5 ?_
      refine lv_iload_n hx hb dX1_putNumber_8 rfl (lv_at hl 1 rfl) ?_
      refine lv_iload_n hx hb dX1_putNumber_9 rfl (lv_at hl 2 rfl) ?_
      refine lv_bipush (v := 10) hx hb dX1_putNumber_10 kB_10 ?_
      refine lv_irem hx hb dX1_putNumber_12 (by decide) ?_
      obtain ⟨u5, hu5, hf⟩ := g_bd hf
      refine ok_iast F K t75 hu5 dX1_putNumber_13 (fun H locs K => ?_)
      refine lv_iload_n hx hb dX1_putNumber_14 rfl (lv_at hl 2 rfl) ?_
      refine lv_bipush (v := 10) hx hb dX1_putNumber_15 kB_10 ?_
      refine lv_idiv hx hb dX1_putNumber_17 (by decide) ?_
      refine lv_topi (fun x6 ex6 => ?_)
      have hf := g_lt hf x6 ex6
      refine lv_istore_n (lv' := [(3, .int x6), (0, .ref (G.1 10)), (2, .int x2_)]) hx hb dX1_putNumber_18 rfl hl (by decide) rfl (fun ls hl => ?_)
      obtain ⟨x7, ex7⟩ : ∃ y : Int32, y = x2_ + 1 := ⟨_, rfl⟩
      have hf := g_lt hf x7 ex7
      refine lv_iinc (v := x7) (lv' := [(2, .int x7), (3, .int x6), (0, .ref (G.1 10))]) hx hb dX1_putNumber_19 hl (k := 2) rfl (by rw [kI_1, ex7]) (by decide) rfl (fun ls hl => ?_)
      refine lv_iload_n hx hb dX1_putNumber_22 rfl (lv_at hl 1 rfl) ?_
      refine lv_if_le (pc := 23) (tgt := 32) hx hb dX1_putNumber_23 (by decide) (fun c8 => ?_) (fun c8 => ?_)
      · have hf := g_pos hf c8
        refine lv_iload_n hx hb dX1_putNumber_32 rfl (lv_at hl 0 rfl) ?_
        refine lv_iconst (v := 1) hx hb dX1_putNumber_33 kI_1 ?_
        refine lv_isub hx hb dX1_putNumber_34 ?_
        refine lv_topi (fun x9 ex9 => ?_)
        have hf := g_lt hf x9 ex9
        refine lv_istore (lv' := [(4, .int x9), (2, .int x7), (3, .int x6), (0, .ref (G.1 10))]) hx hb dX1_putNumber_35 hl (by decide) rfl (fun ls hl => ?_)
        exact (pX1_putNumber_L0  B FU) x9 u5 _ _ _ hf K (lv_sub hl [3, 0] rfl)
      · have hf := g_neg hf c8
        refine lv_iload_n hx hb dX1_putNumber_26 rfl (lv_at hl 0 rfl) ?_
        refine lv_bipush (v := 10) hx hb dX1_putNumber_27 kB_10 ?_
        refine lv_icmp_lt (pc := 29) (tgt := 4) hx hb dX1_putNumber_29 (by decide) (fun c10 => ?_) (fun c10 => ?_)
        · have hf := g_pos hf c10
          exact ih x7 x6 u5 _ _ _ hf K (lv_sub hl [2, 0, 1] rfl)
        · have hf := g_neg hf c10
          refine lv_iload_n hx hb dX1_putNumber_32 rfl (lv_at hl 0 rfl) ?_
          refine lv_iconst (v := 1) hx hb dX1_putNumber_33 kI_1 ?_
          refine lv_isub hx hb dX1_putNumber_34 ?_
          refine lv_topi (fun x11 ex11 => ?_)
          have hf := g_lt hf x11 ex11
          refine lv_istore (lv' := [(4, .int x11), (2, .int x7), (3, .int x6), (0, .ref (G.1 10))]) hx hb dX1_putNumber_35 hl (by decide) rfl (fun ls hl => ?_)
          exact (pX1_putNumber_L0  B FU) x11 u5 _ _ _ hf K (lv_sub hl [3, 0] rfl)
set_option maxRecDepth 100000 in
set_option maxHeartbeats 4000000 in
theorem pX1_putNumber {l : Launch} (G : Gt) {a0 : Int32} {u u' : St} (hf : fX1_putNumber a0 u = some u') : Ctr 0 76 l yX1_putNumber cX1_putNumber 5 none rmX1_putNumber [.ref (G.1 10), .int a0] G u none u' := by
  refine Ctr.mk (by decide) (Nat.le_of_ble_eq_true rfl) (fun p e s m below meth c A ls B K hl => ?_)
  have F := B.1
  have hx := F.1
  have hb := F.2.1
  have hl : lv_has ls 5 [(0, .ref (G.1 10)), (1, .int a0)] := hl
  unfold fX1_putNumber at hf
  refine lv_iconst (v := 0) hx hb dX1_putNumber_0 kI_0 ?_
  refine lv_topi (fun x12 ex12 => ?_)
  have hf := g_lt hf x12 ex12
  refine lv_istore_n (lv' := [(2, .int x12), (0, .ref (G.1 10)), (1, .int a0)]) hx hb dX1_putNumber_1 rfl hl (by decide) rfl (fun ls hl => ?_)
  refine lv_iload_n hx hb dX1_putNumber_2 rfl (lv_at hl 2 rfl) ?_
  refine lv_istore_n (lv' := [(3, .int a0), (2, .int x12), (0, .ref (G.1 10)), (1, .int a0)]) hx hb dX1_putNumber_3 rfl hl (by decide) rfl (fun ls hl => ?_)
  exact (pX1_putNumber_L1  B FU) x12 a0 u _ _ _ hf K (lv_sub hl [2, 1, 0] rfl)
abbrev rmX1_putVariable : Room := { frames := 2, cells := 0, slots := 0, locals := 45 }
set_option maxRecDepth 100000 in
set_option maxHeartbeats 4000000 in
theorem pX1_putVariable_j30 {p : Program} {l : Launch} {e : Env} {s : State} {m : MethodId} {below : List Frame} {meth : Method} {c : Code} {A : Nat → Prop} {G : Gt} {a0 : Int32} {u' : St} (B : Bd p s m [.ref (G.1 10), .int a0] meth c yX1_putVariable cX1_putVariable 2 none) (x1_ : Int32) (u : St) (H : Heap) (locs : List Loc) (ls : Array Slot) (hf : fX1_putVariable_j30 x1_ u = some u') (K : Ok 0 76 G A s u H locs) (hl : lv_has ls 2 [(0, .ref (G.1 10)), (1, .int x1_)]) : W p l e rmX1_putVariable s m ([.ref (G.1 10), .int a0] : List Value).toArray below meth c H locs 0 0 (MQ below (Qg 0 76 G A none u') ([.ref (G.1 10), .int a0] : List Value).toArray s 0 0 A) (F0 m 30 ls []) := by
  have F := B.1
  have hx := F.1
  have hb := F.2.1
  unfold fX1_putVariable_j30 at hf
  refine lv_aload_n hx hb dX1_putVariable_30 rfl (lv_at hl 0 rfl) ?_
  refine lv_bipush (v := 88) hx hb dX1_putVariable_31 kB_88 ?_
  obtain ⟨u1, hu1, hf⟩ := g_bd hf
  refine ok_callv (rest := []) F K (pX1_put G hu1) mX1_put oc10 lX1_57 rfl hl.1 rfl ⟨⟨rfl, rfl⟩, Nat.le_of_ble_eq_true rfl, Nat.le_of_ble_eq_true rfl⟩ (Nat.le_of_ble_eq_true rfl) dX1_putVariable_33 (fun H locs K => ?_)
  refine lv_aload_n hx hb dX1_putVariable_36 rfl (lv_at hl 0 rfl) ?_
  refine lv_aload_n hx hb dX1_putVariable_37 rfl (lv_at hl 0 rfl) ?_
  refine ok_ref F K fX1_24 dX1_putVariable_38 ?_
  refine lv_iload_n hx hb dX1_putVariable_41 rfl (lv_at hl 1 rfl) ?_
  obtain ⟨v2, hv2, hf⟩ := g_bd hf
  refine ok_iald F K t74 hv2 dX1_putVariable_42 ?_
  obtain ⟨u3, hu3, hf⟩ := g_bd hf
  refine ok_callv (rest := []) F K (pX1_putNumber G hu3) mX1_putNumber oc10 lX1_107 rfl hl.1 rfl ⟨⟨rfl, rfl⟩, Nat.le_of_ble_eq_true rfl, Nat.le_of_ble_eq_true rfl⟩ (Nat.le_of_ble_eq_true rfl) dX1_putVariable_43 (fun H locs K => ?_)
  exact ok_retv B K hf dX1_putVariable_46
set_option maxRecDepth 100000 in
set_option maxHeartbeats 4000000 in
theorem pX1_putVariable {l : Launch} (G : Gt) {a0 : Int32} {u u' : St} (hf : fX1_putVariable a0 u = some u') : Ctr 0 76 l yX1_putVariable cX1_putVariable 2 none rmX1_putVariable [.ref (G.1 10), .int a0] G u none u' := by
  refine Ctr.mk (by decide) (Nat.le_of_ble_eq_true rfl) (fun p e s m below meth c A ls B K hl => ?_)
  have F := B.1
  have hx := F.1
  have hb := F.2.1
  have hl : lv_has ls 2 [(0, .ref (G.1 10)), (1, .int a0)] := hl
  unfold fX1_putVariable at hf
  refine lv_aload_n hx hb dX1_putVariable_0 rfl (lv_at hl 0 rfl) ?_
  refine ok_ref F K fX1_24 dX1_putVariable_1 ?_
  refine lv_iload_n hx hb dX1_putVariable_4 rfl (lv_at hl 1 rfl) ?_
  obtain ⟨v4, hv4, hf⟩ := g_bd hf
  refine ok_iald F K t74 hv4 dX1_putVariable_5 ?_
  refine lv_iconst (v := (-1)) hx hb dX1_putVariable_6 kI_m1 ?_
  refine lv_icmp_ne (pc := 7) (tgt := 30) hx hb dX1_putVariable_7 (by decide) (fun c5 => ?_) (fun c5 => ?_)
  · have hf := g_neg hf c5
    exact pX1_putVariable_j30  B a0 u _ _ _ hf K (lv_sub hl [0, 1] rfl)
  · have hf := g_pos hf c5
    refine lv_aload_n hx hb dX1_putVariable_10 rfl (lv_at hl 0 rfl) ?_
    refine ok_ref F K fX1_24 dX1_putVariable_11 ?_
    refine lv_iload_n hx hb dX1_putVariable_14 rfl (lv_at hl 1 rfl) ?_
    refine lv_aload_n hx hb dX1_putVariable_15 rfl (lv_at hl 0 rfl) ?_
    refine ok_int F K fX1_46 dX1_putVariable_16 ?_
    obtain ⟨u6, hu6, hf⟩ := g_bd hf
    refine ok_iast F K t74 hu6 dX1_putVariable_19 (fun H locs K => ?_)
    refine lv_aload_n hx hb dX1_putVariable_20 rfl (lv_at hl 0 rfl) ?_
    refine lv_dup hx hb dX1_putVariable_21 rfl ?_
    refine ok_int F K fX1_46 dX1_putVariable_22 ?_
    refine lv_iconst (v := 1) hx hb dX1_putVariable_25 kI_1 ?_
    refine lv_iadd hx hb dX1_putVariable_26 ?_
    refine ok_putI F K qX1_46 dX1_putVariable_27 (fun u7 H locs eu7 K => ?_)
    have hf := g_lt hf u7 eu7
    exact pX1_putVariable_j30  B a0 u7 _ _ _ hf K (lv_sub hl [0, 1] rfl)
abbrev rmX9_symbol : Room := { frames := 0, cells := 0, slots := 0, locals := 0 }
set_option maxRecDepth 100000 in
set_option maxHeartbeats 4000000 in
theorem pX9_symbol {l : Launch} (G : Gt) {w : Nat} (hw : w < 3) {r : Int32} {u u' : St} (hf : fX9_symbol w u = some (r, u')) : Ctr 0 76 l yX9_symbol cX9_symbol 1 (some .int) rmX9_symbol [.ref (G.1 (11 + w))] G u (some (.int r)) u' := by
  refine Ctr.mk (by decide) (Nat.le_of_ble_eq_true rfl) (fun p e s m below meth c A ls B K hl => ?_)
  have F := B.1
  have hx := F.1
  have hb := F.2.1
  have hl : lv_has ls 1 [(0, .ref (G.1 (11 + w)))] := hl
  unfold fX9_symbol at hf
  refine lv_aload_n hx hb dX9_symbol_0 rfl (lv_at hl 0 rfl) ?_
  refine ok_ref F K (fX9_23 hw) dX9_symbol_1 ?_
  refine ok_ref F K fX9_36 dX9_symbol_4 ?_
  refine lv_aload_n hx hb dX9_symbol_7 rfl (lv_at hl 0 rfl) ?_
  refine ok_ref F K (fX9_13 hw) dX9_symbol_8 ?_
  refine lv_aload_n hx hb dX9_symbol_11 rfl (lv_at hl 0 rfl) ?_
  refine ok_int F K (fX9_31 hw) dX9_symbol_12 ?_
  obtain ⟨v1, hv1, hf⟩ := g_bd hf
  refine ok_iald F K (tW0 (w := w) hw) hv1 dX9_symbol_15 ?_
  obtain ⟨v2, hv2, hf⟩ := g_bd hf
  refine ok_iald F K t32 hv2 dX9_symbol_16 ?_
  exact ok_reti B K hf dX9_symbol_17
abbrev rmX1_putSymbol : Room := { frames := 2, cells := 0, slots := 0, locals := 45 }
set_option maxRecDepth 100000 in
set_option maxHeartbeats 4000000 in
theorem pX1_putSymbol_L0 {p : Program} {l : Launch} {e : Env} {s : State} {m : MethodId} {below : List Frame} {meth : Method} {c : Code} {A : Nat → Prop} {G : Gt} {a0 : Int32} {u' : St} (B : Bd p s m [.ref (G.1 10), .int a0] meth c yX1_putSymbol cX1_putSymbol 4 none) (n : Nat) : (∀ (x1_ : Int32) (x2_ : Int32) (u : St) (H : Heap) (locs : List Loc) (ls : Array Slot), fX1_putSymbol_L0  n 0 x1_ x2_ u = some u' → Ok 0 76 G A s u H locs → lv_has ls 4 [(0, .ref (G.1 10)), (1, .int x1_), (2, .int x2_)] → W p l e rmX1_putSymbol s m ([.ref (G.1 10), .int a0] : List Value).toArray below meth c H locs 0 0 (MQ below (Qg 0 76 G A none u') ([.ref (G.1 10), .int a0] : List Value).toArray s 0 0 A) (F0 m 26 ls [])) := by
  have F := B.1
  have hx := F.1
  have hb := F.2.1
  induction n with
  | zero => exact fun _ _ _ _ _ _ hf => g_no hf
  | succ n ih =>
    refine ?_
    · intro x1_ x2_ u H locs ls hf K hl
      have hf : fX1_putSymbol_L0_0  (fX1_putSymbol_L0  n) x1_ x2_ u = some u' := hf
      unfold fX1_putSymbol_L0_0 at hf
      refine lv_iload_n hx hb dX1_putSymbol_26 rfl (lv_at hl 2 rfl) ?_
      refine lv_if_lt (pc := 27) (tgt := 62) hx hb dX1_putSymbol_27 (by decide) (fun c1 => ?_) (fun c1 => ?_)
      · have hf := g_pos hf c1
        exact ok_retv B K hf dX1_putSymbol_62
      · have hf := g_neg hf c1
        refine lv_aload_n hx hb dX1_putSymbol_30 rfl (lv_at hl 0 rfl) ?_
        refine ok_ref F K fX1_30 dX1_putSymbol_31 ?_
        refine ok_ref F K fX1_112 dX1_putSymbol_34 ?_
        refine lv_iload_n hx hb dX1_putSymbol_37 rfl (lv_at hl 1 rfl) ?_
        obtain ⟨v2, hv2, hf⟩ := g_bd hf
        refine ok_lald F K t15 hv2 dX1_putSymbol_38 ?_
        refine lv_iload_n hx hb dX1_putSymbol_39 rfl (lv_at hl 2 rfl) ?_
        refine lv_lshr hx hb dX1_putSymbol_40 rfl ?_
        refine lv_l2i hx hb dX1_putSymbol_41 rfl ?_
        refine lv_sipush (v := 255) hx hb dX1_putSymbol_42 kS_255 ?_
        refine lv_iand hx hb dX1_putSymbol_45 ?_
        refine lv_topi (fun x3 ex3 => ?_)
        have hf := g_lt hf x3 ex3
        refine lv_istore_n (lv' := [(3, .int x3), (0, .ref (G.1 10)), (1, .int x1_), (2, .int x2_)]) hx hb dX1_putSymbol_46 rfl hl (by decide) rfl (fun ls hl => ?_)
        refine lv_iload_n hx hb dX1_putSymbol_47 rfl (lv_at hl 0 rfl) ?_
        refine lv_if_eq (pc := 48) (tgt := 56) hx hb dX1_putSymbol_48 (by decide) (fun c4 => ?_) (fun c4 => ?_)
        · have hf := g_pos hf c4
          obtain ⟨x5, ex5⟩ : ∃ y : Int32, y = x2_ + (-8) := ⟨_, rfl⟩
          have hf := g_lt hf x5 ex5
          refine lv_iinc (v := x5) (lv' := [(2, .int x5), (3, .int x3), (0, .ref (G.1 10)), (1, .int x1_)]) hx hb dX1_putSymbol_56 hl (k := 3) rfl (by rw [kI_m8, ex5]) (by decide) rfl (fun ls hl => ?_)
          refine lv_goto (pc := 59) (tgt := 26) hx hb dX1_putSymbol_59 (by decide) ?_
          exact ih x1_ x5 u _ _ _ hf K (lv_sub hl [2, 3, 0] rfl)
        · have hf := g_neg hf c4
          refine lv_aload_n hx hb dX1_putSymbol_51 rfl (lv_at hl 1 rfl) ?_
          refine lv_iload_n hx hb dX1_putSymbol_52 rfl (lv_at hl 0 rfl) ?_
          obtain ⟨u6, hu6, hf⟩ := g_bd hf
          refine ok_callv (rest := []) F K (pX1_put G hu6) mX1_put oc10 lX1_57 rfl hl.1 rfl ⟨⟨rfl, rfl⟩, Nat.le_of_ble_eq_true rfl, Nat.le_of_ble_eq_true rfl⟩ (Nat.le_of_ble_eq_true rfl) dX1_putSymbol_53 (fun H locs K => ?_)
          obtain ⟨x7, ex7⟩ : ∃ y : Int32, y = x2_ + (-8) := ⟨_, rfl⟩
          have hf := g_lt hf x7 ex7
          refine lv_iinc (v := x7) (lv' := [(2, .int x7), (3, .int x3), (0, .ref (G.1 10)), (1, .int x1_)]) hx hb dX1_putSymbol_56 hl (k := 3) rfl (by rw [kI_m8, ex7]) (by decide) rfl (fun ls hl => ?_)
          refine lv_goto (pc := 59) (tgt := 26) hx hb dX1_putSymbol_59 (by decide) ?_
          exact ih x1_ x7 u6 _ _ _ hf K (lv_sub hl [2, 3, 0] rfl)
set_option maxRecDepth 100000 in
set_option maxHeartbeats 4000000 in
theorem pX1_putSymbol {l : Launch} (G : Gt) {a0 : Int32} {u u' : St} (hf : fX1_putSymbol a0 u = some u') : Ctr 0 76 l yX1_putSymbol cX1_putSymbol 4 none rmX1_putSymbol [.ref (G.1 10), .int a0] G u none u' := by
  refine Ctr.mk (by decide) (Nat.le_of_ble_eq_true rfl) (fun p e s m below meth c A ls B K hl => ?_)
  have F := B.1
  have hx := F.1
  have hb := F.2.1
  have hl : lv_has ls 4 [(0, .ref (G.1 10)), (1, .int a0)] := hl
  unfold fX1_putSymbol at hf
  refine lv_iload_n hx hb dX1_putSymbol_0 rfl (lv_at hl 1 rfl) ?_
  refine lv_sipush (v := 4096) hx hb dX1_putSymbol_1 kS_4096 ?_
  refine lv_icmp_le (pc := 4) (tgt := 23) hx hb dX1_putSymbol_4 (by decide) (fun c8 => ?_) (fun c8 => ?_)
  · have hf := g_pos hf c8
    refine lv_bipush (v := 56) hx hb dX1_putSymbol_23 kB_56 ?_
    refine lv_topi (fun x9 ex9 => ?_)
    have hf := g_lt hf x9 ex9
    refine lv_istore_n (lv' := [(2, .int x9), (0, .ref (G.1 10)), (1, .int a0)]) hx hb dX1_putSymbol_25 rfl hl (by decide) rfl (fun ls hl => ?_)
    exact (pX1_putSymbol_L0  B FU) a0 x9 u _ _ _ hf K (lv_sub hl [1, 2, 0] rfl)
  · have hf := g_neg hf c8
    refine lv_aload_n hx hb dX1_putSymbol_7 rfl (lv_at hl 0 rfl) ?_
    refine lv_bipush (v := 115) hx hb dX1_putSymbol_8 kB_115 ?_
    obtain ⟨u10, hu10, hf⟩ := g_bd hf
    refine ok_callv (rest := []) F K (pX1_put G hu10) mX1_put oc10 lX1_57 rfl hl.1 rfl ⟨⟨rfl, rfl⟩, Nat.le_of_ble_eq_true rfl, Nat.le_of_ble_eq_true rfl⟩ (Nat.le_of_ble_eq_true rfl) dX1_putSymbol_10 (fun H locs K => ?_)
    refine lv_aload_n hx hb dX1_putSymbol_13 rfl (lv_at hl 0 rfl) ?_
    refine lv_iload_n hx hb dX1_putSymbol_14 rfl (lv_at hl 1 rfl) ?_
    refine lv_sipush (v := 4096) hx hb dX1_putSymbol_15 kS_4096 ?_
    refine lv_isub hx hb dX1_putSymbol_18 ?_
    obtain ⟨u11, hu11, hf⟩ := g_bd hf
    refine ok_callv (rest := []) F K (pX1_putNumber G hu11) mX1_putNumber oc10 lX1_107 rfl hl.1 rfl ⟨⟨rfl, rfl⟩, Nat.le_of_ble_eq_true rfl, Nat.le_of_ble_eq_true rfl⟩ (Nat.le_of_ble_eq_true rfl) dX1_putSymbol_19 (fun H locs K => ?_)
    exact ok_retv B K hf dX1_putSymbol_22
abbrev rmX9_enter : Room := { frames := 0, cells := 0, slots := 0, locals := 0 }
set_option maxRecDepth 100000 in
set_option maxHeartbeats 4000000 in
theorem pX9_enter {l : Launch} (G : Gt) {w : Nat} (hw : w < 3) {u u' : St} (hf : fX9_enter w u = some u') : Ctr 0 76 l yX9_enter cX9_enter 2 none rmX9_enter [.ref (G.1 (11 + w))] G u none u' := by
  refine Ctr.mk (by decide) (Nat.le_of_ble_eq_true rfl) (fun p e s m below meth c A ls B K hl => ?_)
  have F := B.1
  have hx := F.1
  have hb := F.2.1
  have hl : lv_has ls 2 [(0, .ref (G.1 (11 + w)))] := hl
  unfold fX9_enter at hf
  refine lv_aload_n hx hb dX9_enter_0 rfl (lv_at hl 0 rfl) ?_
  refine ok_ref F K (fX9_23 hw) dX9_enter_1 ?_
  refine ok_ref F K fX9_36 dX9_enter_4 ?_
  refine lv_aload_n hx hb dX9_enter_7 rfl (lv_at hl 0 rfl) ?_
  refine ok_ref F K (fX9_13 hw) dX9_enter_8 ?_
  refine lv_aload_n hx hb dX9_enter_11 rfl (lv_at hl 0 rfl) ?_
  refine ok_int F K (fX9_31 hw) dX9_enter_12 ?_
  obtain ⟨v1, hv1, hf⟩ := g_bd hf
  refine ok_iald F K (tW0 (w := w) hw) hv1 dX9_enter_15 ?_
  obtain ⟨v2, hv2, hf⟩ := g_bd hf
  refine ok_iald F K t32 hv2 dX9_enter_16 ?_
  refine lv_istore_n (lv' := [(1, .int v2), (0, .ref (G.1 (11 + w)))]) hx hb dX9_enter_17 rfl hl (by decide) rfl (fun ls hl => ?_)
  refine lv_aload_n hx hb dX9_enter_18 rfl (lv_at hl 1 rfl) ?_
  refine ok_ref F K (fX9_13 hw) dX9_enter_19 ?_
  refine lv_aload_n hx hb dX9_enter_22 rfl (lv_at hl 1 rfl) ?_
  refine ok_int F K (fX9_31 hw) dX9_enter_23 ?_
  refine lv_dup2_11 hx hb dX9_enter_26 rfl rfl ?_
  obtain ⟨v3, hv3, hf⟩ := g_bd hf
  refine ok_iald F K (tW0 (w := w) hw) hv3 dX9_enter_27 ?_
  refine lv_iconst (v := 1) hx hb dX9_enter_28 kI_1 ?_
  refine lv_iadd hx hb dX9_enter_29 ?_
  obtain ⟨u4, hu4, hf⟩ := g_bd hf
  refine ok_iast F K (tW0 (w := w) hw) hu4 dX9_enter_30 (fun H locs K => ?_)
  refine lv_aload_n hx hb dX9_enter_31 rfl (lv_at hl 1 rfl) ?_
  refine ok_ref F K (fX9_20 hw) dX9_enter_32 ?_
  refine lv_aload_n hx hb dX9_enter_35 rfl (lv_at hl 1 rfl) ?_
  refine ok_int F K (fX9_31 hw) dX9_enter_36 ?_
  refine lv_dup2_11 hx hb dX9_enter_39 rfl rfl ?_
  obtain ⟨v5, hv5, hf⟩ := g_bd hf
  refine ok_iald F K (tW2 (w := w) hw) hv5 dX9_enter_40 ?_
  refine lv_iload_n hx hb dX9_enter_41 rfl (lv_at hl 0 rfl) ?_
  refine lv_if_ge (pc := 42) (tgt := 49) hx hb dX9_enter_42 (by decide) (fun c6 => ?_) (fun c6 => ?_)
  · have hf := g_pos hf c6
    refine lv_iload_n hx hb dX9_enter_49 rfl (lv_at hl 0 rfl) ?_
    refine lv_bipush (v := 7) hx hb dX9_enter_50 kB_7 ?_
    refine lv_iand hx hb dX9_enter_52 ?_
    refine lv_iconst (v := 1) hx hb dX9_enter_53 kI_1 ?_
    refine lv_isub hx hb dX9_enter_54 ?_
    refine lv_iadd hx hb dX9_enter_55 ?_
    obtain ⟨u7, hu7, hf⟩ := g_bd hf
    refine ok_iast F K (tW2 (w := w) hw) hu7 dX9_enter_56 (fun H locs K => ?_)
    exact ok_retv B K hf dX9_enter_57
  · have hf := g_neg hf c6
    refine lv_iconst (v := 0) hx hb dX9_enter_45 kI_0 ?_
    refine lv_goto (pc := 46) (tgt := 53) hx hb dX9_enter_46 (by decide) ?_
    refine lv_iconst (v := 1) hx hb dX9_enter_53 kI_1 ?_
    refine lv_isub hx hb dX9_enter_54 ?_
    refine lv_iadd hx hb dX9_enter_55 ?_
    obtain ⟨u8, hu8, hf⟩ := g_bd hf
    refine ok_iast F K (tW2 (w := w) hw) hu8 dX9_enter_56 (fun H locs K => ?_)
    exact ok_retv B K hf dX9_enter_57
abbrev rmX1_openBracket : Room := { frames := 1, cells := 0, slots := 0, locals := 21 }
set_option maxRecDepth 100000 in
set_option maxHeartbeats 4000000 in
theorem pX1_openBracket {l : Launch} (G : Gt) {a0 : Int32} {u u' : St} (hf : fX1_openBracket a0 u = some u') : Ctr 0 76 l yX1_openBracket cX1_openBracket 2 none rmX1_openBracket [.ref (G.1 10), .int a0] G u none u' := by
  refine Ctr.mk (by decide) (Nat.le_of_ble_eq_true rfl) (fun p e s m below meth c A ls B K hl => ?_)
  have F := B.1
  have hx := F.1
  have hb := F.2.1
  have hl : lv_has ls 2 [(0, .ref (G.1 10)), (1, .int a0)] := hl
  unfold fX1_openBracket at hf
  refine lv_aload_n hx hb dX1_openBracket_0 rfl (lv_at hl 0 rfl) ?_
  refine lv_bipush (v := 40) hx hb dX1_openBracket_1 kB_40 ?_
  obtain ⟨u1, hu1, hf⟩ := g_bd hf
  refine ok_callv (rest := []) F K (pX1_put G hu1) mX1_put oc10 lX1_57 rfl hl.1 rfl ⟨⟨rfl, rfl⟩, Nat.le_of_ble_eq_true rfl, Nat.le_of_ble_eq_true rfl⟩ (Nat.le_of_ble_eq_true rfl) dX1_openBracket_3 (fun H locs K => ?_)
  refine lv_aload_n hx hb dX1_openBracket_6 rfl (lv_at hl 0 rfl) ?_
  refine ok_int F K fX1_69 dX1_openBracket_7 ?_
  refine lv_sipush (v := 4000) hx hb dX1_openBracket_10 kS_4000 ?_
  refine lv_icmp_ge (pc := 13) (tgt := 36) hx hb dX1_openBracket_13 (by decide) (fun c2 => ?_) (fun c2 => ?_)
  · have hf := g_pos hf c2
    exact ok_retv B K hf dX1_openBracket_36
  · have hf := g_neg hf c2
    refine lv_aload_n hx hb dX1_openBracket_16 rfl (lv_at hl 0 rfl) ?_
    refine ok_ref F K fX1_18 dX1_openBracket_17 ?_
    refine lv_aload_n hx hb dX1_openBracket_20 rfl (lv_at hl 0 rfl) ?_
    refine ok_int F K fX1_69 dX1_openBracket_21 ?_
    refine lv_iload_n hx hb dX1_openBracket_24 rfl (lv_at hl 1 rfl) ?_
    obtain ⟨u3, hu3, hf⟩ := g_bd hf
    refine ok_iast F K t73 hu3 dX1_openBracket_25 (fun H locs K => ?_)
    refine lv_aload_n hx hb dX1_openBracket_26 rfl (lv_at hl 0 rfl) ?_
    refine lv_dup hx hb dX1_openBracket_27 rfl ?_
    refine ok_int F K fX1_69 dX1_openBracket_28 ?_
    refine lv_iconst (v := 1) hx hb dX1_openBracket_31 kI_1 ?_
    refine lv_iadd hx hb dX1_openBracket_32 ?_
    refine ok_putI F K qX1_69 dX1_openBracket_33 (fun u4 H locs eu4 K => ?_)
    have hf := g_lt hf u4 eu4
    exact ok_retv B K hf dX1_openBracket_36
abbrev rmX1_literal : Room := { frames := 3, cells := 0, slots := 0, locals := 68 }
set_option maxRecDepth 100000 in
set_option maxHeartbeats 4000000 in
theorem pX1_literal_L0 {p : Program} {l : Launch} {e : Env} {s : State} {m : MethodId} {below : List Frame} {meth : Method} {c : Code} {A : Nat → Prop} {G : Gt} {a0 : Int32} {a1 : Int32} {u' : St} (B : Bd p s m [.ref (G.1 10), .int a0, .int a1] meth c yX1_literal cX1_literal 5 none) (n : Nat) : (∀ (x3_ : Int32) (u : St) (H : Heap) (locs : List Loc) (ls : Array Slot), fX1_literal_L0  n 0 x3_ 0 u = some u' → Ok 0 76 G A s u H locs → lv_has ls 5 [(0, .ref (G.1 10)), (3, .int x3_)] → W p l e rmX1_literal s m ([.ref (G.1 10), .int a0, .int a1] : List Value).toArray below meth c H locs 0 0 (MQ below (Qg 0 76 G A none u') ([.ref (G.1 10), .int a0, .int a1] : List Value).toArray s 0 0 A) (F0 m 43 ls [])) ∧ (∀ (x3_ : Int32) (x4_ : Int32) (u : St) (H : Heap) (locs : List Loc) (ls : Array Slot), fX1_literal_L0  n 1 x3_ x4_ u = some u' → Ok 0 76 G A s u H locs → lv_has ls 5 [(0, .ref (G.1 10)), (3, .int x3_), (4, .int x4_)] → W p l e rmX1_literal s m ([.ref (G.1 10), .int a0, .int a1] : List Value).toArray below meth c H locs 0 0 (MQ below (Qg 0 76 G A none u') ([.ref (G.1 10), .int a0, .int a1] : List Value).toArray s 0 0 A) (F0 m 119 ls [])) := by
  have F := B.1
  have hx := F.1
  have hb := F.2.1
  induction n with
  | zero => exact ⟨fun _ _ _ _ _ hf => g_no hf, fun _ _ _ _ _ _ hf => g_no hf⟩
  | succ n ih =>
    refine ⟨?_, ?_⟩
    · intro x3_ u H locs ls hf K hl
      have hf : fX1_literal_L0_0  (fX1_literal_L0  n) x3_ u = some u' := hf
      unfold fX1_literal_L0_0 at hf
      refine lv_iload_n hx hb dX1_literal_43 rfl (lv_at hl 1 rfl) ?_
      refine lv_sipush (v := 4000) hx hb dX1_literal_44 kS_4000 ?_
      refine lv_icmp_gt (pc := 47) (tgt := 150) hx hb dX1_literal_47 (by decide) (fun c1 => ?_) (fun c1 => ?_)
      · have hf := g_pos hf c1
        exact ok_retv B K hf dX1_literal_150
      · have hf := g_neg hf c1
        refine lv_aload_n hx hb dX1_literal_50 rfl (lv_at hl 0 rfl) ?_
        refine ok_int F K fX1_42 dX1_literal_51 ?_
        refine lv_if_ne (pc := 54) (tgt := 150) hx hb dX1_literal_54 (by decide) (fun c2 => ?_) (fun c2 => ?_)
        · have hf := g_neg hf c2
          exact ok_retv B K hf dX1_literal_150
        · have hf := g_pos hf c2
          refine lv_aload_n hx hb dX1_literal_57 rfl (lv_at hl 0 rfl) ?_
          refine ok_ref F K fX1_34 dX1_literal_58 ?_
          obtain ⟨r4, u3, hu3, hf⟩ := g_b2 hf
          refine ok_calli (rest := []) F K (pX9_more G (w := 2) (by decide) hu3) mX9_more (ocW (w := 2) (by decide)) lX1_81 rfl hl.1 rfl ⟨⟨rfl, rfl⟩, Nat.le_of_ble_eq_true rfl, Nat.le_of_ble_eq_true rfl⟩ (Nat.le_of_ble_eq_true rfl) dX1_literal_61 (fun H locs K => ?_)
          refine lv_if_eq (pc := 64) (tgt := 150) hx hb dX1_literal_64 (by decide) (fun c5 => ?_) (fun c5 => ?_)
          · have hf := g_pos hf c5
            exact ok_retv B K hf dX1_literal_150
          · have hf := g_neg hf c5
            refine lv_iconst (v := 0) hx hb dX1_literal_67 kI_0 ?_
            refine lv_topi (fun x6 ex6 => ?_)
            have hf := g_lt hf x6 ex6
            refine lv_istore (lv' := [(4, .int x6), (0, .ref (G.1 10)), (3, .int x3_)]) hx hb dX1_literal_68 hl (by decide) rfl (fun ls hl => ?_)
            refine lv_aload_n hx hb dX1_literal_70 rfl (lv_at hl 1 rfl) ?_
            refine ok_ref F K fX1_34 dX1_literal_71 ?_
            obtain ⟨r8, u7, hu7, hf⟩ := g_b2 hf
            refine ok_calli (rest := []) F K (pX9_variable G (w := 2) (by decide) hu7) mX9_variable (ocW (w := 2) (by decide)) lX1_85 rfl hl.1 rfl ⟨⟨rfl, rfl⟩, Nat.le_of_ble_eq_true rfl, Nat.le_of_ble_eq_true rfl⟩ (Nat.le_of_ble_eq_true rfl) dX1_literal_74 (fun H locs K => ?_)
            refine lv_if_lt (pc := 77) (tgt := 94) hx hb dX1_literal_77 (by decide) (fun c9 => ?_) (fun c9 => ?_)
            · have hf := g_pos hf c9
              refine lv_aload_n hx hb dX1_literal_94 rfl (lv_at hl 1 rfl) ?_
              refine lv_aload_n hx hb dX1_literal_95 rfl (lv_at hl 1 rfl) ?_
              refine ok_ref F K fX1_34 dX1_literal_96 ?_
              obtain ⟨r11, u10, hu10, hf⟩ := g_b2 hf
              refine ok_calli (rest := [.ref (G.1 10)]) F K (pX9_symbol G (w := 2) (by decide) hu10) mX9_symbol (ocW (w := 2) (by decide)) lX1_92 rfl hl.1 rfl ⟨⟨rfl, rfl⟩, Nat.le_of_ble_eq_true rfl, Nat.le_of_ble_eq_true rfl⟩ (Nat.le_of_ble_eq_true rfl) dX1_literal_99 (fun H locs K => ?_)
              refine lv_iconst (v := 3) hx hb dX1_literal_102 kI_3 ?_
              refine lv_ishr hx hb dX1_literal_103 ?_
              obtain ⟨u12, hu12, hf⟩ := g_bd hf
              refine ok_callv (rest := []) F K (pX1_putSymbol G hu12) mX1_putSymbol oc10 lX1_95 rfl hl.1 rfl ⟨⟨rfl, rfl⟩, Nat.le_of_ble_eq_true rfl, Nat.le_of_ble_eq_true rfl⟩ (Nat.le_of_ble_eq_true rfl) dX1_literal_104 (fun H locs K => ?_)
              refine lv_aload_n hx hb dX1_literal_107 rfl (lv_at hl 1 rfl) ?_
              refine ok_ref F K fX1_34 dX1_literal_108 ?_
              obtain ⟨r14, u13, hu13, hf⟩ := g_b2 hf
              refine ok_calli (rest := []) F K (pX9_symbol G (w := 2) (by decide) hu13) mX9_symbol (ocW (w := 2) (by decide)) lX1_92 rfl hl.1 rfl ⟨⟨rfl, rfl⟩, Nat.le_of_ble_eq_true rfl, Nat.le_of_ble_eq_true rfl⟩ (Nat.le_of_ble_eq_true rfl) dX1_literal_111 (fun H locs K => ?_)
              refine lv_bipush (v := 7) hx hb dX1_literal_114 kB_7 ?_
              refine lv_iand hx hb dX1_literal_116 ?_
              refine lv_topi (fun x15 ex15 => ?_)
              have hf := g_lt hf x15 ex15
              refine lv_istore (lv' := [(4, .int x15), (0, .ref (G.1 10)), (3, .int x3_)]) hx hb dX1_literal_117 hl (by decide) rfl (fun ls hl => ?_)
              exact ih.2 x3_ x15 u13 _ _ _ hf K (lv_sub hl [1, 2, 0] rfl)
            · have hf := g_neg hf c9
              refine lv_aload_n hx hb dX1_literal_80 rfl (lv_at hl 1 rfl) ?_
              refine lv_aload_n hx hb dX1_literal_81 rfl (lv_at hl 1 rfl) ?_
              refine ok_ref F K fX1_34 dX1_literal_82 ?_
              obtain ⟨r17, u16, hu16, hf⟩ := g_b2 hf
              refine ok_calli (rest := [.ref (G.1 10)]) F K (pX9_variable G (w := 2) (by decide) hu16) mX9_variable (ocW (w := 2) (by decide)) lX1_85 rfl hl.1 rfl ⟨⟨rfl, rfl⟩, Nat.le_of_ble_eq_true rfl, Nat.le_of_ble_eq_true rfl⟩ (Nat.le_of_ble_eq_true rfl) dX1_literal_85 (fun H locs K => ?_)
              obtain ⟨u18, hu18, hf⟩ := g_bd hf
              refine ok_callv (rest := []) F K (pX1_putVariable G hu18) mX1_putVariable oc10 lX1_89 rfl hl.1 rfl ⟨⟨rfl, rfl⟩, Nat.le_of_ble_eq_true rfl, Nat.le_of_ble_eq_true rfl⟩ (Nat.le_of_ble_eq_true rfl) dX1_literal_88 (fun H locs K => ?_)
              refine lv_goto (pc := 91) (tgt := 119) hx hb dX1_literal_91 (by decide) ?_
              exact ih.2 x3_ x6 u18 _ _ _ hf K (lv_sub hl [1, 2, 0] rfl)
    · intro x3_ x4_ u H locs ls hf K hl
      have hf : fX1_literal_L0_1  (fX1_literal_L0  n) x3_ x4_ u = some u' := hf
      unfold fX1_literal_L0_1 at hf
      refine lv_aload_n hx hb dX1_literal_119 rfl (lv_at hl 0 rfl) ?_
      refine ok_ref F K fX1_34 dX1_literal_120 ?_
      obtain ⟨u19, hu19, hf⟩ := g_bd hf
      refine ok_callv (rest := []) F K (pX9_enter G (w := 2) (by decide) hu19) mX9_enter (ocW (w := 2) (by decide)) lX1_98 rfl hl.1 rfl ⟨⟨rfl, rfl⟩, Nat.le_of_ble_eq_true rfl, Nat.le_of_ble_eq_true rfl⟩ (Nat.le_of_ble_eq_true rfl) dX1_literal_123 (fun H locs K => ?_)
      refine lv_iload hx hb dX1_literal_126 (lv_at hl 2 rfl) ?_
      refine lv_if_le (pc := 128) (tgt := 140) hx hb dX1_literal_128 (by decide) (fun c20 => ?_) (fun c20 => ?_)
      · have hf := g_pos hf c20
        refine lv_aload_n hx hb dX1_literal_140 rfl (lv_at hl 0 rfl) ?_
        obtain ⟨u21, hu21, hf⟩ := g_bd hf
        refine ok_callv (rest := []) F K (pX1_endTerm G hu21) mX1_endTerm oc10 lX1_104 rfl hl.1 rfl ⟨⟨rfl, rfl⟩, Nat.le_of_ble_eq_true rfl, Nat.le_of_ble_eq_true rfl⟩ (Nat.le_of_ble_eq_true rfl) dX1_literal_141 (fun H locs K => ?_)
        obtain ⟨x22, ex22⟩ : ∃ y : Int32, y = x3_ + 1 := ⟨_, rfl⟩
        have hf := g_lt hf x22 ex22
        refine lv_iinc (v := x22) (lv' := [(3, .int x22), (0, .ref (G.1 10)), (4, .int x4_)]) hx hb dX1_literal_144 hl (k := 1) rfl (by rw [kI_1, ex22]) (by decide) rfl (fun ls hl => ?_)
        refine lv_goto (pc := 147) (tgt := 43) hx hb dX1_literal_147 (by decide) ?_
        exact ih.1 x22 u21 _ _ _ hf K (lv_sub hl [1, 0] rfl)
      · have hf := g_neg hf c20
        refine lv_aload_n hx hb dX1_literal_131 rfl (lv_at hl 0 rfl) ?_
        refine lv_iload hx hb dX1_literal_132 (lv_at hl 2 rfl) ?_
        obtain ⟨u23, hu23, hf⟩ := g_bd hf
        refine ok_callv (rest := []) F K (pX1_openBracket G hu23) mX1_openBracket oc10 lX1_101 rfl hl.1 rfl ⟨⟨rfl, rfl⟩, Nat.le_of_ble_eq_true rfl, Nat.le_of_ble_eq_true rfl⟩ (Nat.le_of_ble_eq_true rfl) dX1_literal_134 (fun H locs K => ?_)
        refine lv_goto (pc := 137) (tgt := 144) hx hb dX1_literal_137 (by decide) ?_
        obtain ⟨x24, ex24⟩ : ∃ y : Int32, y = x3_ + 1 := ⟨_, rfl⟩
        have hf := g_lt hf x24 ex24
        refine lv_iinc (v := x24) (lv' := [(3, .int x24), (0, .ref (G.1 10)), (4, .int x4_)]) hx hb dX1_literal_144 hl (k := 1) rfl (by rw [kI_1, ex24]) (by decide) rfl (fun ls hl => ?_)
        refine lv_goto (pc := 147) (tgt := 43) hx hb dX1_literal_147 (by decide) ?_
        exact ih.1 x24 u23 _ _ _ hf K (lv_sub hl [1, 0] rfl)
set_option maxRecDepth 100000 in
set_option maxHeartbeats 4000000 in
theorem pX1_literal_j18 {p : Program} {l : Launch} {e : Env} {s : State} {m : MethodId} {below : List Frame} {meth : Method} {c : Code} {A : Nat → Prop} {G : Gt} {a0 : Int32} {a1 : Int32} {u' : St} (B : Bd p s m [.ref (G.1 10), .int a0, .int a1] meth c yX1_literal cX1_literal 5 none) (x1_ : Int32) (x2_ : Int32) (u : St) (H : Heap) (locs : List Loc) (ls : Array Slot) (hf : fX1_literal_j18 x1_ x2_ u = some u') (K : Ok 0 76 G A s u H locs) (hl : lv_has ls 5 [(0, .ref (G.1 10)), (1, .int x1_), (2, .int x2_)]) : W p l e rmX1_literal s m ([.ref (G.1 10), .int a0, .int a1] : List Value).toArray below meth c H locs 0 0 (MQ below (Qg 0 76 G A none u') ([.ref (G.1 10), .int a0, .int a1] : List Value).toArray s 0 0 A) (F0 m 18 ls []) := by
  have F := B.1
  have hx := F.1
  have hb := F.2.1
  unfold fX1_literal_j18 at hf
  refine lv_aload_n hx hb dX1_literal_18 rfl (lv_at hl 0 rfl) ?_
  refine lv_iconst (v := 0) hx hb dX1_literal_19 kI_0 ?_
  refine ok_putI F K qX1_69 dX1_literal_20 (fun u25 H locs eu25 K => ?_)
  have hf := g_lt hf u25 eu25
  refine lv_aload_n hx hb dX1_literal_23 rfl (lv_at hl 0 rfl) ?_
  refine ok_ref F K fX1_34 dX1_literal_24 ?_
  refine lv_aload_n hx hb dX1_literal_27 rfl (lv_at hl 0 rfl) ?_
  refine ok_ref F K fX1_30 dX1_literal_28 ?_
  refine ok_ref F K fX1_72 dX1_literal_31 ?_
  refine lv_iload_n hx hb dX1_literal_34 rfl (lv_at hl 1 rfl) ?_
  obtain ⟨v26, hv26, hf⟩ := g_bd hf
  refine ok_iald F K t29 hv26 dX1_literal_35 ?_
  refine lv_iload_n hx hb dX1_literal_36 rfl (lv_at hl 2 rfl) ?_
  refine lv_iconst (v := 1) hx hb dX1_literal_37 kI_1 ?_
  obtain ⟨u27, hu27, hf⟩ := g_bd hf
  refine ok_callv (rest := []) F K (pX9_begin G (w := 2) (by decide) hu27) mX9_begin (ocW (w := 2) (by decide)) lX1_75 rfl hl.1 rfl ⟨⟨rfl, rfl⟩, Nat.le_of_ble_eq_true rfl, Nat.le_of_ble_eq_true rfl⟩ (Nat.le_of_ble_eq_true rfl) dX1_literal_38 (fun H locs K => ?_)
  refine lv_iconst (v := 0) hx hb dX1_literal_41 kI_0 ?_
  refine lv_topi (fun x28 ex28 => ?_)
  have hf := g_lt hf x28 ex28
  refine lv_istore_n (lv' := [(3, .int x28), (0, .ref (G.1 10)), (1, .int x1_), (2, .int x2_)]) hx hb dX1_literal_42 rfl hl (by decide) rfl (fun ls hl => ?_)
  exact (pX1_literal_L0  B FU).1 x28 u27 _ _ _ hf K (lv_sub hl [1, 0] rfl)
set_option maxRecDepth 100000 in
set_option maxHeartbeats 4000000 in
theorem pX1_literal {l : Launch} (G : Gt) {a0 : Int32} {a1 : Int32} {u u' : St} (hf : fX1_literal a0 a1 u = some u') : Ctr 0 76 l yX1_literal cX1_literal 5 none rmX1_literal [.ref (G.1 10), .int a0, .int a1] G u none u' := by
  refine Ctr.mk (by decide) (Nat.le_of_ble_eq_true rfl) (fun p e s m below meth c A ls B K hl => ?_)
  have F := B.1
  have hx := F.1
  have hb := F.2.1
  have hl : lv_has ls 5 [(0, .ref (G.1 10)), (1, .int a0), (2, .int a1)] := hl
  unfold fX1_literal at hf
  refine lv_aload_n hx hb dX1_literal_0 rfl (lv_at hl 0 rfl) ?_
  refine ok_ref F K fX1_30 dX1_literal_1 ?_
  refine ok_ref F K fX1_65 dX1_literal_4 ?_
  refine lv_iload_n hx hb dX1_literal_7 rfl (lv_at hl 1 rfl) ?_
  obtain ⟨v29, hv29, hf⟩ := g_bd hf
  refine ok_zald F K t30 hv29 dX1_literal_8 ?_
  refine lv_if_eq (pc := 9) (tgt := 18) hx hb dX1_literal_9 (by decide) (fun c30 => ?_) (fun c30 => ?_)
  · have hf := g_pos hf c30
    exact pX1_literal_j18  B a0 a1 u _ _ _ hf K (lv_sub hl [0, 1, 2] rfl)
  · have hf := g_neg hf c30
    refine lv_aload_n hx hb dX1_literal_12 rfl (lv_at hl 0 rfl) ?_
    refine lv_bipush (v := 126) hx hb dX1_literal_13 kB_126 ?_
    obtain ⟨u31, hu31, hf⟩ := g_bd hf
    refine ok_callv (rest := []) F K (pX1_put G hu31) mX1_put oc10 lX1_57 rfl hl.1 rfl ⟨⟨rfl, rfl⟩, Nat.le_of_ble_eq_true rfl, Nat.le_of_ble_eq_true rfl⟩ (Nat.le_of_ble_eq_true rfl) dX1_literal_15 (fun H locs K => ?_)
    exact pX1_literal_j18  B a0 a1 u31 _ _ _ hf K (lv_sub hl [0, 1, 2] rfl)
abbrev rmX1_row : Room := { frames := 4, cells := 0, slots := 0, locals := 92 }
set_option maxRecDepth 100000 in
set_option maxHeartbeats 4000000 in
theorem pX1_row_L0 {p : Program} {l : Launch} {e : Env} {s : State} {m : MethodId} {below : List Frame} {meth : Method} {c : Code} {A : Nat → Prop} {G : Gt} {a0 : Int32} {a1 : Int32} {u' : St} (B : Bd p s m [.ref (G.1 10), .int a0, .int a1] meth c yX1_row cX1_row 5 none) (n : Nat) : (∀ (x1_ : Int32) (x2_ : Int32) (x3_ : Int32) (x4_ : Int32) (u : St) (H : Heap) (locs : List Loc) (ls : Array Slot), fX1_row_L0  n 0 x1_ x2_ x3_ x4_ u = some u' → Ok 0 76 G A s u H locs → lv_has ls 5 [(0, .ref (G.1 10)), (1, .int x1_), (2, .int x2_), (3, .int x3_), (4, .int x4_)] → W p l e rmX1_row s m ([.ref (G.1 10), .int a0, .int a1] : List Value).toArray below meth c H locs 0 0 (MQ below (Qg 0 76 G A none u') ([.ref (G.1 10), .int a0, .int a1] : List Value).toArray s 0 0 A) (F0 m 13 ls [])) ∧ (∀ (x1_ : Int32) (x2_ : Int32) (x3_ : Int32) (x4_ : Int32) (u : St) (H : Heap) (locs : List Loc) (ls : Array Slot), fX1_row_L0  n 1 x1_ x2_ x3_ x4_ u = some u' → Ok 0 76 G A s u H locs → lv_has ls 5 [(0, .ref (G.1 10)), (1, .int x1_), (2, .int x2_), (3, .int x3_), (4, .int x4_)] → W p l e rmX1_row s m ([.ref (G.1 10), .int a0, .int a1] : List Value).toArray below meth c H locs 0 0 (MQ below (Qg 0 76 G A none u') ([.ref (G.1 10), .int a0, .int a1] : List Value).toArray s 0 0 A) (F0 m 41 ls [])) := by
  have F := B.1
  have hx := F.1
  have hb := F.2.1
  induction n with
  | zero => exact ⟨fun _ _ _ _ _ _ _ _ hf => g_no hf, fun _ _ _ _ _ _ _ _ hf => g_no hf⟩
  | succ n ih =>
    refine ⟨?_, ?_⟩
    · intro x1_ x2_ x3_ x4_ u H locs ls hf K hl
      have hf : fX1_row_L0_0  (fX1_row_L0  n) x1_ x2_ x3_ x4_ u = some u' := hf
      unfold fX1_row_L0_0 at hf
      refine lv_iload hx hb dX1_row_13 (lv_at hl 4 rfl) ?_
      refine lv_aload_n hx hb dX1_row_15 rfl (lv_at hl 0 rfl) ?_
      refine ok_ref F K fX1_30 dX1_row_16 ?_
      refine ok_ref F K fX1_52 dX1_row_19 ?_
      refine lv_iload_n hx hb dX1_row_22 rfl (lv_at hl 1 rfl) ?_
      refine lv_iconst (v := 1) hx hb dX1_row_23 kI_1 ?_
      refine lv_iadd hx hb dX1_row_24 ?_
      obtain ⟨v1, hv1, hf⟩ := g_bd hf
      refine ok_iald F K t18 hv1 dX1_row_25 ?_
      refine lv_icmp_ge (pc := 26) (tgt := 54) hx hb dX1_row_26 (by decide) (fun c2 => ?_) (fun c2 => ?_)
      · have hf := g_pos hf c2
        refine lv_iload_n hx hb dX1_row_54 rfl (lv_at hl 3 rfl) ?_
        refine lv_aload_n hx hb dX1_row_55 rfl (lv_at hl 0 rfl) ?_
        refine ok_ref F K fX1_30 dX1_row_56 ?_
        refine ok_ref F K fX1_52 dX1_row_59 ?_
        refine lv_iload_n hx hb dX1_row_62 rfl (lv_at hl 1 rfl) ?_
        refine lv_iconst (v := 1) hx hb dX1_row_63 kI_1 ?_
        refine lv_iadd hx hb dX1_row_64 ?_
        obtain ⟨v3, hv3, hf⟩ := g_bd hf
        refine ok_iald F K t18 hv3 dX1_row_65 ?_
        refine lv_icmp_ne (pc := 66) (tgt := 75) hx hb dX1_row_66 (by decide) (fun c4 => ?_) (fun c4 => ?_)
        · have hf := g_neg hf c4
          exact ok_retv B K hf dX1_row_75
        · have hf := g_pos hf c4
          refine lv_aload_n hx hb dX1_row_69 rfl (lv_at hl 0 rfl) ?_
          refine lv_bipush (v := 36) hx hb dX1_row_70 kB_36 ?_
          obtain ⟨u5, hu5, hf⟩ := g_bd hf
          refine ok_callv (rest := []) F K (pX1_put G hu5) mX1_put oc10 lX1_57 rfl hl.1 rfl ⟨⟨rfl, rfl⟩, Nat.le_of_ble_eq_true rfl, Nat.le_of_ble_eq_true rfl⟩ (Nat.le_of_ble_eq_true rfl) dX1_row_72 (fun H locs K => ?_)
          exact ok_retv B K hf dX1_row_75
      · have hf := g_neg hf c2
        refine lv_iload hx hb dX1_row_29 (lv_at hl 4 rfl) ?_
        refine lv_iload_n hx hb dX1_row_31 rfl (lv_at hl 3 rfl) ?_
        refine lv_icmp_le (pc := 32) (tgt := 41) hx hb dX1_row_32 (by decide) (fun c6 => ?_) (fun c6 => ?_)
        · have hf := g_pos hf c6
          exact ih.2 x1_ x2_ x3_ x4_ u _ _ _ hf K (lv_sub hl [0, 1, 2, 3, 4] rfl)
        · have hf := g_neg hf c6
          refine lv_aload_n hx hb dX1_row_35 rfl (lv_at hl 0 rfl) ?_
          refine lv_bipush (v := 124) hx hb dX1_row_36 kB_124 ?_
          obtain ⟨u7, hu7, hf⟩ := g_bd hf
          refine ok_callv (rest := []) F K (pX1_put G hu7) mX1_put oc10 lX1_57 rfl hl.1 rfl ⟨⟨rfl, rfl⟩, Nat.le_of_ble_eq_true rfl, Nat.le_of_ble_eq_true rfl⟩ (Nat.le_of_ble_eq_true rfl) dX1_row_38 (fun H locs K => ?_)
          exact ih.2 x1_ x2_ x3_ x4_ u7 _ _ _ hf K (lv_sub hl [0, 1, 2, 3, 4] rfl)
    · intro x1_ x2_ x3_ x4_ u H locs ls hf K hl
      have hf : fX1_row_L0_1  (fX1_row_L0  n) x1_ x2_ x3_ x4_ u = some u' := hf
      unfold fX1_row_L0_1 at hf
      refine lv_aload_n hx hb dX1_row_41 rfl (lv_at hl 0 rfl) ?_
      refine lv_iload hx hb dX1_row_42 (lv_at hl 4 rfl) ?_
      refine lv_iload_n hx hb dX1_row_44 rfl (lv_at hl 2 rfl) ?_
      obtain ⟨u8, hu8, hf⟩ := g_bd hf
      refine ok_callv (rest := []) F K (pX1_literal G hu8) mX1_literal oc10 lX1_61 rfl hl.1 rfl ⟨⟨rfl, rfl⟩, Nat.le_of_ble_eq_true rfl, Nat.le_of_ble_eq_true rfl⟩ (Nat.le_of_ble_eq_true rfl) dX1_row_45 (fun H locs K => ?_)
      obtain ⟨x9, ex9⟩ : ∃ y : Int32, y = x4_ + 1 := ⟨_, rfl⟩
      have hf := g_lt hf x9 ex9
      refine lv_iinc (v := x9) (lv' := [(4, .int x9), (0, .ref (G.1 10)), (1, .int x1_), (2, .int x2_), (3, .int x3_)]) hx hb dX1_row_48 hl (k := 4) rfl (by rw [kI_1, ex9]) (by decide) rfl (fun ls hl => ?_)
      refine lv_goto (pc := 51) (tgt := 13) hx hb dX1_row_51 (by decide) ?_
      exact ih.1 x1_ x2_ x3_ x9 u8 _ _ _ hf K (lv_sub hl [1, 2, 3, 4, 0] rfl)
set_option maxRecDepth 100000 in
set_option maxHeartbeats 4000000 in
theorem pX1_row {l : Launch} (G : Gt) {a0 : Int32} {a1 : Int32} {u u' : St} (hf : fX1_row a0 a1 u = some u') : Ctr 0 76 l yX1_row cX1_row 5 none rmX1_row [.ref (G.1 10), .int a0, .int a1] G u none u' := by
  refine Ctr.mk (by decide) (Nat.le_of_ble_eq_true rfl) (fun p e s m below meth c A ls B K hl => ?_)
  have F := B.1
  have hx := F.1
  have hb := F.2.1
  have hl : lv_has ls 5 [(0, .ref (G.1 10)), (1, .int a0), (2, .int a1)] := hl
  unfold fX1_row at hf
  refine lv_aload_n hx hb dX1_row_0 rfl (lv_at hl 0 rfl) ?_
  refine ok_ref F K fX1_30 dX1_row_1 ?_
  refine ok_ref F K fX1_52 dX1_row_4 ?_
  refine lv_iload_n hx hb dX1_row_7 rfl (lv_at hl 1 rfl) ?_
  obtain ⟨v10, hv10, hf⟩ := g_bd hf
  refine ok_iald F K t18 hv10 dX1_row_8 ?_
  refine lv_istore_n (lv' := [(3, .int v10), (0, .ref (G.1 10)), (1, .int a0), (2, .int a1)]) hx hb dX1_row_9 rfl hl (by decide) rfl (fun ls hl => ?_)
  refine lv_iload_n hx hb dX1_row_10 rfl (lv_at hl 0 rfl) ?_
  refine lv_istore (lv' := [(4, .int v10), (3, .int v10), (0, .ref (G.1 10)), (1, .int a0), (2, .int a1)]) hx hb dX1_row_11 hl (by decide) rfl (fun ls hl => ?_)
  exact (pX1_row_L0  B FU).1 a0 a1 v10 v10 u _ _ _ hf K (lv_sub hl [2, 3, 4, 1, 0] rfl)
abbrev rmX4_has : Room := { frames := 0, cells := 0, slots := 0, locals := 0 }
set_option maxRecDepth 100000 in
set_option maxHeartbeats 4000000 in
theorem pX4_has {l : Launch} (G : Gt) {a0 : Int32} {r : Int32} {u u' : St} (hf : fX4_has a0 u = some (r, u')) : Ctr 0 76 l yX4_has cX4_has 2 (some .boolean) rmX4_has [.ref (G.1 2), .int a0] G u (some (.int r)) u' := by
  refine Ctr.mk (by decide) (Nat.le_of_ble_eq_true rfl) (fun p e s m below meth c A ls B K hl => ?_)
  have F := B.1
  have hx := F.1
  have hb := F.2.1
  have hl : lv_has ls 2 [(0, .ref (G.1 2)), (1, .int a0)] := hl
  unfold fX4_has at hf
  refine lv_iload_n hx hb dX4_has_0 rfl (lv_at hl 1 rfl) ?_
  refine lv_if_lt (pc := 1) (tgt := 16) hx hb dX4_has_1 (by decide) (fun c1 => ?_) (fun c1 => ?_)
  · have hf := g_pos hf c1
    refine lv_iconst (v := 0) hx hb dX4_has_16 kI_0 ?_
    exact ok_retz B K hf (Or.inl rfl) dX4_has_17
  · have hf := g_neg hf c1
    refine lv_iload_n hx hb dX4_has_4 rfl (lv_at hl 1 rfl) ?_
    refine lv_aload_n hx hb dX4_has_5 rfl (lv_at hl 0 rfl) ?_
    refine ok_int F K fX4_41 dX4_has_6 ?_
    refine lv_icmp_ge (pc := 9) (tgt := 16) hx hb dX4_has_9 (by decide) (fun c2 => ?_) (fun c2 => ?_)
    · have hf := g_pos hf c2
      refine lv_iconst (v := 0) hx hb dX4_has_16 kI_0 ?_
      exact ok_retz B K hf (Or.inl rfl) dX4_has_17
    · have hf := g_neg hf c2
      refine lv_iconst (v := 1) hx hb dX4_has_12 kI_1 ?_
      refine lv_goto (pc := 13) (tgt := 17) hx hb dX4_has_13 (by decide) ?_
      exact ok_retz B K hf (Or.inr rfl) dX4_has_17
abbrev rmX11_clause : Room := { frames := 1, cells := 0, slots := 0, locals := 21 }
set_option maxRecDepth 100000 in
set_option maxHeartbeats 4000000 in
theorem pX11_clause {l : Launch} (G : Gt) {a0 : Int32} {a1 : Int32} {r : Int32} {u u' : St} (hf : fX11_clause a0 a1 u = some (r, u')) : Ctr 0 76 l yX11_clause cX11_clause 5 (some .int) rmX11_clause [.ref (G.1 0), .int a0, .int a1] G u (some (.int r)) u' := by
  refine Ctr.mk (by decide) (Nat.le_of_ble_eq_true rfl) (fun p e s m below meth c A ls B K hl => ?_)
  have F := B.1
  have hx := F.1
  have hb := F.2.1
  have hl : lv_has ls 5 [(0, .ref (G.1 0)), (1, .int a0), (2, .int a1)] := hl
  unfold fX11_clause at hf
  refine lv_aload_n hx hb dX11_clause_0 rfl (lv_at hl 0 rfl) ?_
  refine ok_ref F K fX11_19 dX11_clause_1 ?_
  refine lv_iload_n hx hb dX11_clause_4 rfl (lv_at hl 1 rfl) ?_
  obtain ⟨r2, u1, hu1, hf⟩ := g_b2 hf
  refine ok_calli (rest := []) F K (pX4_has G hu1) mX4_has oc2 lX11_140 rfl hl.1 rfl ⟨⟨rfl, rfl⟩, Nat.le_of_ble_eq_true rfl, Nat.le_of_ble_eq_true rfl⟩ (Nat.le_of_ble_eq_true rfl) dX11_clause_5 (fun H locs K => ?_)
  refine lv_if_ne (pc := 8) (tgt := 13) hx hb dX11_clause_8 (by decide) (fun c3 => ?_) (fun c3 => ?_)
  · have hf := g_neg hf c3
    refine lv_aload_n hx hb dX11_clause_13 rfl (lv_at hl 0 rfl) ?_
    refine ok_ref F K fX11_19 dX11_clause_14 ?_
    refine ok_ref F K fX11_143 dX11_clause_17 ?_
    refine lv_iload_n hx hb dX11_clause_20 rfl (lv_at hl 1 rfl) ?_
    obtain ⟨v4, hv4, hf⟩ := g_bd hf
    refine ok_iald F K t18 hv4 dX11_clause_21 ?_
    refine lv_istore_n (lv' := [(3, .int v4), (0, .ref (G.1 0)), (1, .int a0), (2, .int a1)]) hx hb dX11_clause_22 rfl hl (by decide) rfl (fun ls hl => ?_)
    refine lv_aload_n hx hb dX11_clause_23 rfl (lv_at hl 1 rfl) ?_
    refine ok_ref F K fX11_19 dX11_clause_24 ?_
    refine ok_ref F K fX11_143 dX11_clause_27 ?_
    refine lv_iload_n hx hb dX11_clause_30 rfl (lv_at hl 2 rfl) ?_
    refine lv_iconst (v := 1) hx hb dX11_clause_31 kI_1 ?_
    refine lv_iadd hx hb dX11_clause_32 ?_
    obtain ⟨v5, hv5, hf⟩ := g_bd hf
    refine ok_iald F K t18 hv5 dX11_clause_33 ?_
    refine lv_istore (lv' := [(4, .int v5), (3, .int v4), (0, .ref (G.1 0)), (1, .int a0), (2, .int a1)]) hx hb dX11_clause_34 hl (by decide) rfl (fun ls hl => ?_)
    refine lv_iload_n hx hb dX11_clause_36 rfl (lv_at hl 4 rfl) ?_
    by_cases c6 : a1 = 0
    · have hf := g_pos hf c6
      refine lv_tableInE (pc := 37) (K := 0) (off := 27) (tgt := 64) hx hb dX11_clause_37 c6 (by decide) (by decide) rfl (by decide) ?_
      refine lv_iload hx hb dX11_clause_64 (lv_at hl 0 rfl) ?_
      refine lv_iload_n hx hb dX11_clause_66 rfl (lv_at hl 1 rfl) ?_
      refine lv_isub hx hb dX11_clause_67 ?_
      exact ok_reti B K hf dX11_clause_68
    · have hf := g_neg hf c6
      by_cases c7 : a1 = 1
      · have hf := g_pos hf c7
        refine lv_tableInE (pc := 37) (K := 1) (off := 32) (tgt := 69) hx hb dX11_clause_37 c7 (by decide) (by decide) rfl (by decide) ?_
        refine lv_aload_n hx hb dX11_clause_69 rfl (lv_at hl 2 rfl) ?_
        refine ok_ref F K fX11_19 dX11_clause_70 ?_
        refine ok_ref F K fX11_147 dX11_clause_73 ?_
        refine lv_iload_n hx hb dX11_clause_76 rfl (lv_at hl 3 rfl) ?_
        obtain ⟨v8, hv8, hf⟩ := g_bd hf
        refine ok_iald F K t19 hv8 dX11_clause_77 ?_
        exact ok_reti B K hf dX11_clause_78
      · have hf := g_neg hf c7
        by_cases c9 : a1 = 2
        · have hf := g_pos hf c9
          refine lv_tableInE (pc := 37) (K := 2) (off := 42) (tgt := 79) hx hb dX11_clause_37 c9 (by decide) (by decide) rfl (by decide) ?_
          refine lv_aload_n hx hb dX11_clause_79 rfl (lv_at hl 2 rfl) ?_
          refine ok_ref F K fX11_19 dX11_clause_80 ?_
          refine ok_ref F K fX11_150 dX11_clause_83 ?_
          refine lv_iload hx hb dX11_clause_86 (lv_at hl 0 rfl) ?_
          obtain ⟨v10, hv10, hf⟩ := g_bd hf
          refine ok_iald F K t29 hv10 dX11_clause_88 ?_
          refine lv_aload_n hx hb dX11_clause_89 rfl (lv_at hl 2 rfl) ?_
          refine ok_ref F K fX11_19 dX11_clause_90 ?_
          refine ok_ref F K fX11_150 dX11_clause_93 ?_
          refine lv_iload_n hx hb dX11_clause_96 rfl (lv_at hl 1 rfl) ?_
          obtain ⟨v11, hv11, hf⟩ := g_bd hf
          refine ok_iald F K t29 hv11 dX11_clause_97 ?_
          refine lv_isub hx hb dX11_clause_98 ?_
          exact ok_reti B K hf dX11_clause_99
        · have hf := g_neg hf c9
          refine lv_tableOut (pc := 37) (tgt := 100) hx hb dX11_clause_37 (sw_out a1 0 2 (fun k h1 h2 => by have h3 : k = 0 ∨ k = 1 ∨ k = 2 := (by omega); rcases h3 with rfl | rfl | rfl <;> simp only [kI_0, kI_1, kI_2] <;> assumption)) (by decide) ?_
          refine lv_bipush (v := (-2)) hx hb dX11_clause_100 kB_m2 ?_
          exact ok_reti B K hf dX11_clause_102
  · have hf := g_pos hf c3
    refine lv_iconst (v := (-1)) hx hb dX11_clause_11 kI_m1 ?_
    exact ok_reti B K hf dX11_clause_12
abbrev rmX4_takeBack : Room := { frames := 0, cells := 0, slots := 0, locals := 0 }
set_option maxRecDepth 100000 in
set_option maxHeartbeats 4000000 in
theorem pX4_takeBack {l : Launch} (G : Gt) {a0 : Int32} {a1 : Int32} {a2 : Int32} {u u' : St} (hf : fX4_takeBack a0 a1 a2 u = some u') : Ctr 0 76 l yX4_takeBack cX4_takeBack 4 none rmX4_takeBack [.ref (G.1 2), .int a0, .int a1, .int a2] G u none u' := by
  refine Ctr.mk (by decide) (Nat.le_of_ble_eq_true rfl) (fun p e s m below meth c A ls B K hl => ?_)
  have F := B.1
  have hx := F.1
  have hb := F.2.1
  have hl : lv_has ls 4 [(0, .ref (G.1 2)), (1, .int a0), (2, .int a1), (3, .int a2)] := hl
  unfold fX4_takeBack at hf
  refine lv_aload_n hx hb dX4_takeBack_0 rfl (lv_at hl 0 rfl) ?_
  refine lv_iload_n hx hb dX4_takeBack_1 rfl (lv_at hl 1 rfl) ?_
  refine ok_putI F K qX4_41 dX4_takeBack_2 (fun u1 H locs eu1 K => ?_)
  have hf := g_lt hf u1 eu1
  refine lv_aload_n hx hb dX4_takeBack_5 rfl (lv_at hl 0 rfl) ?_
  refine lv_iload_n hx hb dX4_takeBack_6 rfl (lv_at hl 2 rfl) ?_
  refine ok_putI F K qX4_45 dX4_takeBack_7 (fun u2 H locs eu2 K => ?_)
  have hf := g_lt hf u2 eu2
  refine lv_aload_n hx hb dX4_takeBack_10 rfl (lv_at hl 0 rfl) ?_
  refine lv_iload_n hx hb dX4_takeBack_11 rfl (lv_at hl 3 rfl) ?_
  refine ok_putI F K qX4_48 dX4_takeBack_12 (fun u3 H locs eu3 K => ?_)
  have hf := g_lt hf u3 eu3
  exact ok_retv B K hf dX4_takeBack_15
abbrev rmX3_forget : Room := { frames := 0, cells := 0, slots := 0, locals := 0 }
set_option maxRecDepth 100000 in
set_option maxHeartbeats 4000000 in
theorem pX3_forget {l : Launch} (G : Gt) {u u' : St} (hf : fX3_forget u = some u') : Ctr 0 76 l yX3_forget cX3_forget 1 none rmX3_forget [.ref (G.1 9)] G u none u' := by
  refine Ctr.mk (by decide) (Nat.le_of_ble_eq_true rfl) (fun p e s m below meth c A ls B K hl => ?_)
  have F := B.1
  have hx := F.1
  have hb := F.2.1
  have hl : lv_has ls 1 [(0, .ref (G.1 9))] := hl
  unfold fX3_forget at hf
  refine lv_aload_n hx hb dX3_forget_0 rfl (lv_at hl 0 rfl) ?_
  refine lv_iconst (v := 0) hx hb dX3_forget_1 kI_0 ?_
  refine ok_putI F K qX3_44 dX3_forget_2 (fun u1 H locs eu1 K => ?_)
  have hf := g_lt hf u1 eu1
  refine lv_aload_n hx hb dX3_forget_5 rfl (lv_at hl 0 rfl) ?_
  refine lv_iconst (v := 0) hx hb dX3_forget_6 kI_0 ?_
  refine ok_putI F K qX3_48 dX3_forget_7 (fun u2 H locs eu2 K => ?_)
  have hf := g_lt hf u2 eu2
  refine lv_aload_n hx hb dX3_forget_10 rfl (lv_at hl 0 rfl) ?_
  refine lv_iconst (v := 0) hx hb dX3_forget_11 kI_0 ?_
  refine ok_putI F K qX3_51 dX3_forget_12 (fun u3 H locs eu3 K => ?_)
  have hf := g_lt hf u3 eu3
  exact ok_retv B K hf dX3_forget_15
abbrev rmX11_clear : Room := { frames := 1, cells := 0, slots := 0, locals := 23 }
set_option maxRecDepth 100000 in
set_option maxHeartbeats 4000000 in
theorem pX11_clear {l : Launch} (G : Gt) {r : Int32} {u u' : St} (hf : fX11_clear u = some (r, u')) : Ctr 0 76 l yX11_clear cX11_clear 2 (some .int) rmX11_clear [.ref (G.1 0)] G u (some (.int r)) u' := by
  refine Ctr.mk (by decide) (Nat.le_of_ble_eq_true rfl) (fun p e s m below meth c A ls B K hl => ?_)
  have F := B.1
  have hx := F.1
  have hb := F.2.1
  have hl : lv_has ls 2 [(0, .ref (G.1 0))] := hl
  unfold fX11_clear at hf
  refine lv_aload_n hx hb dX11_clear_0 rfl (lv_at hl 0 rfl) ?_
  refine ok_ref F K fX11_19 dX11_clear_1 ?_
  refine ok_int F K fX11_95 dX11_clear_4 ?_
  refine lv_topi (fun x1 ex1 => ?_)
  have hf := g_lt hf x1 ex1
  refine lv_istore_n (lv' := [(1, .int x1), (0, .ref (G.1 0))]) hx hb dX11_clear_7 rfl hl (by decide) rfl (fun ls hl => ?_)
  refine lv_aload_n hx hb dX11_clear_8 rfl (lv_at hl 1 rfl) ?_
  refine ok_ref F K fX11_19 dX11_clear_9 ?_
  refine lv_iconst (v := 0) hx hb dX11_clear_12 kI_0 ?_
  refine lv_iconst (v := 0) hx hb dX11_clear_13 kI_0 ?_
  refine lv_iconst (v := 0) hx hb dX11_clear_14 kI_0 ?_
  obtain ⟨u2, hu2, hf⟩ := g_bd hf
  refine ok_callv (rest := []) F K (pX4_takeBack G hu2) mX4_takeBack oc2 lX11_132 rfl hl.1 rfl ⟨⟨rfl, rfl⟩, Nat.le_of_ble_eq_true rfl, Nat.le_of_ble_eq_true rfl⟩ (Nat.le_of_ble_eq_true rfl) dX11_clear_15 (fun H locs K => ?_)
  refine lv_aload_n hx hb dX11_clear_18 rfl (lv_at hl 1 rfl) ?_
  refine ok_ref F K fX11_71 dX11_clear_19 ?_
  obtain ⟨u3, hu3, hf⟩ := g_bd hf
  refine ok_callv (rest := []) F K (pX3_forget G hu3) mX3_forget oc9 lX11_137 rfl hl.1 rfl ⟨⟨rfl, rfl⟩, Nat.le_of_ble_eq_true rfl, Nat.le_of_ble_eq_true rfl⟩ (Nat.le_of_ble_eq_true rfl) dX11_clear_22 (fun H locs K => ?_)
  refine lv_iload_n hx hb dX11_clear_25 rfl (lv_at hl 0 rfl) ?_
  exact ok_reti B K hf dX11_clear_26
abbrev rmX11_count : Room := { frames := 0, cells := 0, slots := 0, locals := 0 }
set_option maxRecDepth 100000 in
set_option maxHeartbeats 4000000 in
theorem pX11_count {l : Launch} (G : Gt) {a0 : Int32} {r : Int32} {u u' : St} (hf : fX11_count a0 u = some (r, u')) : Ctr 0 76 l yX11_count cX11_count 2 (some .int) rmX11_count [.ref (G.1 0), .int a0] G u (some (.int r)) u' := by
  refine Ctr.mk (by decide) (Nat.le_of_ble_eq_true rfl) (fun p e s m below meth c A ls B K hl => ?_)
  have F := B.1
  have hx := F.1
  have hb := F.2.1
  have hl : lv_has ls 2 [(0, .ref (G.1 0)), (1, .int a0)] := hl
  unfold fX11_count at hf
  refine lv_iload_n hx hb dX11_count_0 rfl (lv_at hl 1 rfl) ?_
  by_cases c1 : a0 = 0
  · have hf := g_pos hf c1
    refine lv_tableInE (pc := 1) (K := 0) (off := 27) (tgt := 28) hx hb dX11_count_1 c1 (by decide) (by decide) rfl (by decide) ?_
    refine lv_aload_n hx hb dX11_count_28 rfl (lv_at hl 0 rfl) ?_
    refine ok_ref F K fX11_19 dX11_count_29 ?_
    refine ok_int F K fX11_95 dX11_count_32 ?_
    exact ok_reti B K hf dX11_count_35
  · have hf := g_neg hf c1
    by_cases c2 : a0 = 1
    · have hf := g_pos hf c2
      refine lv_tableInE (pc := 1) (K := 1) (off := 35) (tgt := 36) hx hb dX11_count_1 c2 (by decide) (by decide) rfl (by decide) ?_
      refine lv_aload_n hx hb dX11_count_36 rfl (lv_at hl 0 rfl) ?_
      refine ok_ref F K fX11_19 dX11_count_37 ?_
      refine ok_int F K fX11_98 dX11_count_40 ?_
      exact ok_reti B K hf dX11_count_43
    · have hf := g_neg hf c2
      by_cases c3 : a0 = 2
      · have hf := g_pos hf c3
        refine lv_tableInE (pc := 1) (K := 2) (off := 43) (tgt := 44) hx hb dX11_count_1 c3 (by decide) (by decide) rfl (by decide) ?_
        refine lv_aload_n hx hb dX11_count_44 rfl (lv_at hl 0 rfl) ?_
        refine ok_ref F K fX11_19 dX11_count_45 ?_
        refine ok_int F K fX11_101 dX11_count_48 ?_
        exact ok_reti B K hf dX11_count_51
      · have hf := g_neg hf c3
        refine lv_tableOut (pc := 1) (tgt := 52) hx hb dX11_count_1 (sw_out a0 0 2 (fun k h1 h2 => by have h3 : k = 0 ∨ k = 1 ∨ k = 2 := (by omega); rcases h3 with rfl | rfl | rfl <;> simp only [kI_0, kI_1, kI_2] <;> assumption)) (by decide) ?_
        refine lv_bipush (v := (-2)) hx hb dX11_count_52 kB_m2 ?_
        exact ok_reti B K hf dX11_count_54
abbrev rmX6_append : Room := { frames := 0, cells := 0, slots := 0, locals := 0 }
set_option maxRecDepth 100000 in
set_option maxHeartbeats 4000000 in
theorem pX6_append_L0 {p : Program} {l : Launch} {e : Env} {s : State} {m : MethodId} {below : List Frame} {meth : Method} {c : Code} {A : Nat → Prop} {G : Gt} {a0 : Int64} {a1 : Int32} {r : Int32} {u' : St} (B : Bd p s m [.ref (G.1 1), .long a0, .int a1] meth c yX6_append cX6_append 5 (some .boolean)) (n : Nat) : (∀ (x1_ : Int64) (x4_ : Int32) (u : St) (H : Heap) (locs : List Loc) (ls : Array Slot), fX6_append_L0  n 0 x1_ x4_ u = some (r, u') → Ok 0 76 G A s u H locs → lv_has ls 5 [(0, .ref (G.1 1)), (1, .long x1_), (4, .int x4_)] → W p l e rmX6_append s m ([.ref (G.1 1), .long a0, .int a1] : List Value).toArray below meth c H locs 0 0 (MQ below (Qg 0 76 G A (some (.int r)) u') ([.ref (G.1 1), .long a0, .int a1] : List Value).toArray s 0 0 A) (F0 m 19 ls [])) := by
  have F := B.1
  have hx := F.1
  have hb := F.2.1
  induction n with
  | zero => exact fun _ _ _ _ _ _ hf => g_no hf
  | succ n ih =>
    refine ?_
    · intro x1_ x4_ u H locs ls hf K hl
      have hf : fX6_append_L0_0  (fX6_append_L0  n) x1_ x4_ u = some (r, u') := hf
      unfold fX6_append_L0_0 at hf
      refine lv_iload hx hb dX6_append_19 (lv_at hl 2 rfl) ?_
      refine lv_if_lt (pc := 21) (tgt := 58) hx hb dX6_append_21 (by decide) (fun c1 => ?_) (fun c1 => ?_)
      · have hf := g_pos hf c1
        refine lv_iconst (v := 1) hx hb dX6_append_58 kI_1 ?_
        exact ok_retz B K hf (Or.inr rfl) dX6_append_59
      · have hf := g_neg hf c1
        refine lv_aload_n hx hb dX6_append_24 rfl (lv_at hl 0 rfl) ?_
        refine ok_ref F K fX6_9 dX6_append_25 ?_
        refine lv_aload_n hx hb dX6_append_28 rfl (lv_at hl 0 rfl) ?_
        refine ok_int F K fX6_13 dX6_append_29 ?_
        refine lv_lload_n hx hb dX6_append_32 rfl (lv_at hl 1 rfl) ?_
        refine lv_bipush (v := 8) hx hb dX6_append_33 kB_8 ?_
        refine lv_iload hx hb dX6_append_35 (lv_at hl 2 rfl) ?_
        refine lv_imul hx hb dX6_append_37 ?_
        refine lv_lshr hx hb dX6_append_38 rfl ?_
        refine lv_l2i hx hb dX6_append_39 rfl ?_
        refine lv_i2b hx hb dX6_append_40 rfl ?_
        obtain ⟨u2, hu2, hf⟩ := g_bd hf
        refine ok_bast F K t14 hu2 dX6_append_41 (fun H locs K => ?_)
        refine lv_aload_n hx hb dX6_append_42 rfl (lv_at hl 0 rfl) ?_
        refine lv_dup hx hb dX6_append_43 rfl ?_
        refine ok_int F K fX6_13 dX6_append_44 ?_
        refine lv_iconst (v := 1) hx hb dX6_append_47 kI_1 ?_
        refine lv_iadd hx hb dX6_append_48 ?_
        refine ok_putI F K qX6_13 dX6_append_49 (fun u3 H locs eu3 K => ?_)
        have hf := g_lt hf u3 eu3
        obtain ⟨x4, ex4⟩ : ∃ y : Int32, y = x4_ + (-1) := ⟨_, rfl⟩
        have hf := g_lt hf x4 ex4
        refine lv_iinc (v := x4) (lv' := [(4, .int x4), (0, .ref (G.1 1)), (1, .long x1_)]) hx hb dX6_append_52 hl (k := 2) rfl (by rw [kI_m1, ex4]) (by decide) rfl (fun ls hl => ?_)
        refine lv_goto (pc := 55) (tgt := 19) hx hb dX6_append_55 (by decide) ?_
        exact ih x1_ x4 u3 _ _ _ hf K (lv_sub hl [1, 2, 0] rfl)
set_option maxRecDepth 100000 in
set_option maxHeartbeats 4000000 in
theorem pX6_append {l : Launch} (G : Gt) {a0 : Int64} {a1 : Int32} {r : Int32} {u u' : St} (hf : fX6_append a0 a1 u = some (r, u')) : Ctr 0 76 l yX6_append cX6_append 5 (some .boolean) rmX6_append [.ref (G.1 1), .long a0, .int a1] G u (some (.int r)) u' := by
  refine Ctr.mk (by decide) (Nat.le_of_ble_eq_true rfl) (fun p e s m below meth c A ls B K hl => ?_)
  have F := B.1
  have hx := F.1
  have hb := F.2.1
  have hl : lv_has ls 5 [(0, .ref (G.1 1)), (1, .long a0), (3, .int a1)] := hl
  unfold fX6_append at hf
  refine lv_aload_n hx hb dX6_append_0 rfl (lv_at hl 0 rfl) ?_
  refine ok_int F K fX6_13 dX6_append_1 ?_
  refine lv_iload_n hx hb dX6_append_4 rfl (lv_at hl 2 rfl) ?_
  refine lv_iadd hx hb dX6_append_5 ?_
  refine lv_sipush (v := 1500) hx hb dX6_append_6 kS_1500 ?_
  refine lv_icmp_le (pc := 9) (tgt := 14) hx hb dX6_append_9 (by decide) (fun c5 => ?_) (fun c5 => ?_)
  · have hf := g_pos hf c5
    refine lv_iload_n hx hb dX6_append_14 rfl (lv_at hl 2 rfl) ?_
    refine lv_iconst (v := 1) hx hb dX6_append_15 kI_1 ?_
    refine lv_isub hx hb dX6_append_16 ?_
    refine lv_topi (fun x6 ex6 => ?_)
    have hf := g_lt hf x6 ex6
    refine lv_istore (lv' := [(4, .int x6), (0, .ref (G.1 1)), (1, .long a0), (3, .int a1)]) hx hb dX6_append_17 hl (by decide) rfl (fun ls hl => ?_)
    exact (pX6_append_L0  B FU) a0 x6 u _ _ _ hf K (lv_sub hl [1, 2, 0] rfl)
  · have hf := g_neg hf c5
    refine lv_iconst (v := 0) hx hb dX6_append_12 kI_0 ?_
    exact ok_retz B K hf (Or.inl rfl) dX6_append_13
abbrev rmX11_feed : Room := { frames := 1, cells := 0, slots := 0, locals := 24 }
set_option maxRecDepth 100000 in
set_option maxHeartbeats 4000000 in
theorem pX11_feed {l : Launch} (G : Gt) {a0 : Int64} {a1 : Int32} {r : Int32} {u u' : St} (hf : fX11_feed a0 a1 u = some (r, u')) : Ctr 0 76 l yX11_feed cX11_feed 4 (some .int) rmX11_feed [.ref (G.1 0), .long a0, .int a1] G u (some (.int r)) u' := by
  refine Ctr.mk (by decide) (Nat.le_of_ble_eq_true rfl) (fun p e s m below meth c A ls B K hl => ?_)
  have F := B.1
  have hx := F.1
  have hb := F.2.1
  have hl : lv_has ls 4 [(0, .ref (G.1 0)), (1, .long a0), (3, .int a1)] := hl
  unfold fX11_feed at hf
  refine lv_iload_n hx hb dX11_feed_0 rfl (lv_at hl 2 rfl) ?_
  refine lv_if_lt (pc := 1) (tgt := 10) hx hb dX11_feed_1 (by decide) (fun c1 => ?_) (fun c1 => ?_)
  · have hf := g_pos hf c1
    refine lv_bipush (v := (-2)) hx hb dX11_feed_10 kB_m2 ?_
    exact ok_reti B K hf dX11_feed_12
  · have hf := g_neg hf c1
    refine lv_iload_n hx hb dX11_feed_4 rfl (lv_at hl 2 rfl) ?_
    refine lv_bipush (v := 8) hx hb dX11_feed_5 kB_8 ?_
    refine lv_icmp_le (pc := 7) (tgt := 13) hx hb dX11_feed_7 (by decide) (fun c2 => ?_) (fun c2 => ?_)
    · have hf := g_pos hf c2
      refine lv_iload_n hx hb dX11_feed_13 rfl (lv_at hl 2 rfl) ?_
      refine lv_if_ne (pc := 14) (tgt := 27) hx hb dX11_feed_14 (by decide) (fun c3 => ?_) (fun c3 => ?_)
      · have hf := g_neg hf c3
        refine lv_aload_n hx hb dX11_feed_27 rfl (lv_at hl 0 rfl) ?_
        refine ok_ref F K fX11_10 dX11_feed_28 ?_
        refine lv_lload_n hx hb dX11_feed_31 rfl (lv_at hl 1 rfl) ?_
        refine lv_iload_n hx hb dX11_feed_32 rfl (lv_at hl 2 rfl) ?_
        obtain ⟨r5, u4, hu4, hf⟩ := g_b2 hf
        refine ok_calli (rest := []) F K (pX6_append G hu4) mX6_append oc1 lX11_91 rfl hl.1 rfl ⟨⟨rfl, rfl⟩, Nat.le_of_ble_eq_true rfl, Nat.le_of_ble_eq_true rfl⟩ (Nat.le_of_ble_eq_true rfl) dX11_feed_33 (fun H locs K => ?_)
        refine lv_if_eq (pc := 36) (tgt := 49) hx hb dX11_feed_36 (by decide) (fun c6 => ?_) (fun c6 => ?_)
        · have hf := g_pos hf c6
          refine lv_bipush (v := (-4)) hx hb dX11_feed_49 kB_m4 ?_
          exact ok_reti B K hf dX11_feed_51
        · have hf := g_neg hf c6
          refine lv_aload_n hx hb dX11_feed_39 rfl (lv_at hl 0 rfl) ?_
          refine ok_ref F K fX11_10 dX11_feed_40 ?_
          refine ok_int F K fX11_88 dX11_feed_43 ?_
          refine lv_goto (pc := 46) (tgt := 51) hx hb dX11_feed_46 (by decide) ?_
          exact ok_reti B K hf dX11_feed_51
      · have hf := g_pos hf c3
        refine lv_aload_n hx hb dX11_feed_17 rfl (lv_at hl 0 rfl) ?_
        refine ok_ref F K fX11_10 dX11_feed_18 ?_
        refine lv_iconst (v := 0) hx hb dX11_feed_21 kI_0 ?_
        refine ok_putI F K qX11_88 dX11_feed_22 (fun u7 H locs eu7 K => ?_)
        have hf := g_lt hf u7 eu7
        refine lv_iconst (v := 0) hx hb dX11_feed_25 kI_0 ?_
        exact ok_reti B K hf dX11_feed_26
    · have hf := g_neg hf c2
      refine lv_bipush (v := (-2)) hx hb dX11_feed_10 kB_m2 ?_
      exact ok_reti B K hf dX11_feed_12
abbrev rmX3_rowOf : Room := { frames := 0, cells := 0, slots := 0, locals := 0 }
set_option maxRecDepth 100000 in
set_option maxHeartbeats 4000000 in
theorem pX3_rowOf {l : Launch} (G : Gt) {a0 : Int32} {r : Int32} {u u' : St} (hf : fX3_rowOf a0 u = some (r, u')) : Ctr 0 76 l yX3_rowOf cX3_rowOf 2 (some .int) rmX3_rowOf [.ref (G.1 9), .int a0] G u (some (.int r)) u' := by
  refine Ctr.mk (by decide) (Nat.le_of_ble_eq_true rfl) (fun p e s m below meth c A ls B K hl => ?_)
  have F := B.1
  have hx := F.1
  have hb := F.2.1
  have hl : lv_has ls 2 [(0, .ref (G.1 9)), (1, .int a0)] := hl
  unfold fX3_rowOf at hf
  refine lv_aload_n hx hb dX3_rowOf_0 rfl (lv_at hl 0 rfl) ?_
  refine ok_ref F K fX3_13 dX3_rowOf_1 ?_
  refine lv_iload_n hx hb dX3_rowOf_4 rfl (lv_at hl 1 rfl) ?_
  obtain ⟨v1, hv1, hf⟩ := g_bd hf
  refine ok_iald F K t65 hv1 dX3_rowOf_5 ?_
  by_cases c2 : v1 = 0
  · have hf := g_pos hf c2
    refine lv_lookupE (pc := 6) (K := 0) (off := 26) (tgt := 32) hx hb dX3_rowOf_6 c2 (by decide) rfl (by decide) ?_
    refine lv_aload_n hx hb dX3_rowOf_32 rfl (lv_at hl 0 rfl) ?_
    refine ok_ref F K fX3_20 dX3_rowOf_33 ?_
    refine lv_iload_n hx hb dX3_rowOf_36 rfl (lv_at hl 1 rfl) ?_
    obtain ⟨v3, hv3, hf⟩ := g_bd hf
    refine ok_iald F K t67 hv3 dX3_rowOf_37 ?_
    exact ok_reti B K hf dX3_rowOf_38
  · have hf := g_neg hf c2
    by_cases c4 : v1 = 1
    · have hf := g_pos hf c4
      refine lv_lookupE (pc := 6) (K := 1) (off := 33) (tgt := 39) hx hb dX3_rowOf_6 c4 (by decide) rfl (by decide) ?_
      refine lv_aload_n hx hb dX3_rowOf_39 rfl (lv_at hl 0 rfl) ?_
      refine ok_ref F K fX3_32 dX3_rowOf_40 ?_
      refine ok_ref F K fX3_160 dX3_rowOf_43 ?_
      refine lv_aload_n hx hb dX3_rowOf_46 rfl (lv_at hl 0 rfl) ?_
      refine ok_ref F K fX3_20 dX3_rowOf_47 ?_
      refine lv_iload_n hx hb dX3_rowOf_50 rfl (lv_at hl 1 rfl) ?_
      obtain ⟨v5, hv5, hf⟩ := g_bd hf
      refine ok_iald F K t67 hv5 dX3_rowOf_51 ?_
      obtain ⟨v6, hv6, hf⟩ := g_bd hf
      refine ok_iald F K t31 hv6 dX3_rowOf_52 ?_
      exact ok_reti B K hf dX3_rowOf_53
    · have hf := g_neg hf c4
      refine lv_lookup (pc := 6) (off := 48) (tgt := 54) hx hb dX3_rowOf_6 (by decide) (lk_out v1 48 [(0, 26), (1, 33)] (fun q hq => by simp only [List.mem_cons, List.not_mem_nil, or_false] at hq; rcases hq with rfl | rfl <;> simp only [kI_0, kI_1] <;> assumption)) (by decide) ?_
      refine lv_iconst (v := (-1)) hx hb dX3_rowOf_54 kI_m1 ?_
      exact ok_reti B K hf dX3_rowOf_55
abbrev rmX3_connected : Room := { frames := 0, cells := 0, slots := 0, locals := 0 }
set_option maxRecDepth 100000 in
set_option maxHeartbeats 4000000 in
theorem pX3_connected {l : Launch} (G : Gt) {a0 : Int32} {r : Int32} {u u' : St} (hf : fX3_connected a0 u = some (r, u')) : Ctr 0 76 l yX3_connected cX3_connected 2 (some .int) rmX3_connected [.ref (G.1 9), .int a0] G u (some (.int r)) u' := by
  refine Ctr.mk (by decide) (Nat.le_of_ble_eq_true rfl) (fun p e s m below meth c A ls B K hl => ?_)
  have F := B.1
  have hx := F.1
  have hb := F.2.1
  have hl : lv_has ls 2 [(0, .ref (G.1 9)), (1, .int a0)] := hl
  unfold fX3_connected at hf
  refine lv_aload_n hx hb dX3_connected_0 rfl (lv_at hl 0 rfl) ?_
  refine ok_ref F K fX3_13 dX3_connected_1 ?_
  refine lv_iload_n hx hb dX3_connected_4 rfl (lv_at hl 1 rfl) ?_
  obtain ⟨v1, hv1, hf⟩ := g_bd hf
  refine ok_iald F K t65 hv1 dX3_connected_5 ?_
  by_cases c2 : v1 = 0
  · have hf := g_pos hf c2
    refine lv_lookupE (pc := 6) (K := 0) (off := 26) (tgt := 32) hx hb dX3_connected_6 c2 (by decide) rfl (by decide) ?_
    refine lv_iconst (v := (-1)) hx hb dX3_connected_32 kI_m1 ?_
    exact ok_reti B K hf dX3_connected_33
  · have hf := g_neg hf c2
    by_cases c3 : v1 = 1
    · have hf := g_pos hf c3
      refine lv_lookupE (pc := 6) (K := 1) (off := 28) (tgt := 34) hx hb dX3_connected_6 c3 (by decide) rfl (by decide) ?_
      refine lv_aload_n hx hb dX3_connected_34 rfl (lv_at hl 0 rfl) ?_
      refine ok_ref F K fX3_20 dX3_connected_35 ?_
      refine lv_iload_n hx hb dX3_connected_38 rfl (lv_at hl 1 rfl) ?_
      obtain ⟨v4, hv4, hf⟩ := g_bd hf
      refine ok_iald F K t67 hv4 dX3_connected_39 ?_
      refine lv_aload_n hx hb dX3_connected_40 rfl (lv_at hl 0 rfl) ?_
      refine ok_ref F K fX3_32 dX3_connected_41 ?_
      refine ok_ref F K fX3_163 dX3_connected_44 ?_
      refine lv_aload_n hx hb dX3_connected_47 rfl (lv_at hl 0 rfl) ?_
      refine ok_ref F K fX3_32 dX3_connected_48 ?_
      refine ok_ref F K fX3_160 dX3_connected_51 ?_
      refine lv_aload_n hx hb dX3_connected_54 rfl (lv_at hl 0 rfl) ?_
      refine ok_ref F K fX3_20 dX3_connected_55 ?_
      refine lv_iload_n hx hb dX3_connected_58 rfl (lv_at hl 1 rfl) ?_
      obtain ⟨v5, hv5, hf⟩ := g_bd hf
      refine ok_iald F K t67 hv5 dX3_connected_59 ?_
      obtain ⟨v6, hv6, hf⟩ := g_bd hf
      refine ok_iald F K t31 hv6 dX3_connected_60 ?_
      obtain ⟨v7, hv7, hf⟩ := g_bd hf
      refine ok_iald F K t18 hv7 dX3_connected_61 ?_
      refine lv_isub hx hb dX3_connected_62 ?_
      exact ok_reti B K hf dX3_connected_63
    · have hf := g_neg hf c3
      refine lv_lookup (pc := 6) (off := 58) (tgt := 64) hx hb dX3_connected_6 (by decide) (lk_out v1 58 [(0, 26), (1, 28)] (fun q hq => by simp only [List.mem_cons, List.not_mem_nil, or_false] at hq; rcases hq with rfl | rfl <;> simp only [kI_0, kI_1] <;> assumption)) (by decide) ?_
      refine lv_aload_n hx hb dX3_connected_64 rfl (lv_at hl 0 rfl) ?_
      refine ok_ref F K fX3_36 dX3_connected_65 ?_
      refine ok_ref F K fX3_124 dX3_connected_68 ?_
      refine lv_aload_n hx hb dX3_connected_71 rfl (lv_at hl 0 rfl) ?_
      refine ok_ref F K fX3_20 dX3_connected_72 ?_
      refine lv_iload_n hx hb dX3_connected_75 rfl (lv_at hl 1 rfl) ?_
      obtain ⟨v8, hv8, hf⟩ := g_bd hf
      refine ok_iald F K t67 hv8 dX3_connected_76 ?_
      obtain ⟨v9, hv9, hf⟩ := g_bd hf
      refine ok_iald F K t60 hv9 dX3_connected_77 ?_
      exact ok_reti B K hf dX3_connected_78
abbrev rmX3_above : Room := { frames := 0, cells := 0, slots := 0, locals := 0 }
set_option maxRecDepth 100000 in
set_option maxHeartbeats 4000000 in
theorem pX3_above {l : Launch} (G : Gt) {a0 : Int32} {r : Int32} {u u' : St} (hf : fX3_above a0 u = some (r, u')) : Ctr 0 76 l yX3_above cX3_above 2 (some .int) rmX3_above [.ref (G.1 9), .int a0] G u (some (.int r)) u' := by
  refine Ctr.mk (by decide) (Nat.le_of_ble_eq_true rfl) (fun p e s m below meth c A ls B K hl => ?_)
  have F := B.1
  have hx := F.1
  have hb := F.2.1
  have hl : lv_has ls 2 [(0, .ref (G.1 9)), (1, .int a0)] := hl
  unfold fX3_above at hf
  refine lv_aload_n hx hb dX3_above_0 rfl (lv_at hl 0 rfl) ?_
  refine ok_ref F K fX3_13 dX3_above_1 ?_
  refine lv_iload_n hx hb dX3_above_4 rfl (lv_at hl 1 rfl) ?_
  obtain ⟨v1, hv1, hf⟩ := g_bd hf
  refine ok_iald F K t65 hv1 dX3_above_5 ?_
  refine lv_if_ne (pc := 6) (tgt := 13) hx hb dX3_above_6 (by decide) (fun c2 => ?_) (fun c2 => ?_)
  · have hf := g_neg hf c2
    refine lv_aload_n hx hb dX3_above_13 rfl (lv_at hl 0 rfl) ?_
    refine ok_ref F K fX3_36 dX3_above_14 ?_
    refine ok_ref F K fX3_124 dX3_above_17 ?_
    refine lv_aload_n hx hb dX3_above_20 rfl (lv_at hl 0 rfl) ?_
    refine ok_ref F K fX3_17 dX3_above_21 ?_
    refine lv_iload_n hx hb dX3_above_24 rfl (lv_at hl 1 rfl) ?_
    obtain ⟨v3, hv3, hf⟩ := g_bd hf
    refine ok_iald F K t66 hv3 dX3_above_25 ?_
    obtain ⟨v4, hv4, hf⟩ := g_bd hf
    refine ok_iald F K t60 hv4 dX3_above_26 ?_
    exact ok_reti B K hf dX3_above_27
  · have hf := g_pos hf c2
    refine lv_iconst (v := 0) hx hb dX3_above_9 kI_0 ?_
    refine lv_goto (pc := 10) (tgt := 27) hx hb dX3_above_10 (by decide) ?_
    exact ok_reti B K hf dX3_above_27
abbrev rmX11_move : Room := { frames := 1, cells := 0, slots := 0, locals := 21 }
set_option maxRecDepth 100000 in
set_option maxHeartbeats 4000000 in
theorem pX11_move {l : Launch} (G : Gt) {a0 : Int32} {a1 : Int32} {r : Int32} {u u' : St} (hf : fX11_move a0 a1 u = some (r, u')) : Ctr 0 76 l yX11_move cX11_move 3 (some .int) rmX11_move [.ref (G.1 0), .int a0, .int a1] G u (some (.int r)) u' := by
  refine Ctr.mk (by decide) (Nat.le_of_ble_eq_true rfl) (fun p e s m below meth c A ls B K hl => ?_)
  have F := B.1
  have hx := F.1
  have hb := F.2.1
  have hl : lv_has ls 3 [(0, .ref (G.1 0)), (1, .int a0), (2, .int a1)] := hl
  unfold fX11_move at hf
  refine lv_iload_n hx hb dX11_move_0 rfl (lv_at hl 1 rfl) ?_
  refine lv_if_lt (pc := 1) (tgt := 15) hx hb dX11_move_1 (by decide) (fun c1 => ?_) (fun c1 => ?_)
  · have hf := g_pos hf c1
    refine lv_iconst (v := (-1)) hx hb dX11_move_15 kI_m1 ?_
    exact ok_reti B K hf dX11_move_16
  · have hf := g_neg hf c1
    refine lv_iload_n hx hb dX11_move_4 rfl (lv_at hl 1 rfl) ?_
    refine lv_aload_n hx hb dX11_move_5 rfl (lv_at hl 0 rfl) ?_
    refine ok_ref F K fX11_71 dX11_move_6 ?_
    refine ok_int F K fX11_175 dX11_move_9 ?_
    refine lv_icmp_lt (pc := 12) (tgt := 17) hx hb dX11_move_12 (by decide) (fun c2 => ?_) (fun c2 => ?_)
    · have hf := g_pos hf c2
      refine lv_iload_n hx hb dX11_move_17 rfl (lv_at hl 2 rfl) ?_
      by_cases c3 : a1 = 0
      · have hf := g_pos hf c3
        refine lv_tableInE (pc := 18) (K := 0) (off := 30) (tgt := 48) hx hb dX11_move_18 c3 (by decide) (by decide) rfl (by decide) ?_
        refine lv_aload_n hx hb dX11_move_48 rfl (lv_at hl 0 rfl) ?_
        refine ok_ref F K fX11_71 dX11_move_49 ?_
        refine ok_ref F K fX11_178 dX11_move_52 ?_
        refine lv_iload_n hx hb dX11_move_55 rfl (lv_at hl 1 rfl) ?_
        obtain ⟨v4, hv4, hf⟩ := g_bd hf
        refine ok_iald F K t65 hv4 dX11_move_56 ?_
        exact ok_reti B K hf dX11_move_57
      · have hf := g_neg hf c3
        by_cases c5 : a1 = 1
        · have hf := g_pos hf c5
          refine lv_tableInE (pc := 18) (K := 1) (off := 40) (tgt := 58) hx hb dX11_move_18 c5 (by decide) (by decide) rfl (by decide) ?_
          refine lv_aload_n hx hb dX11_move_58 rfl (lv_at hl 0 rfl) ?_
          refine ok_ref F K fX11_71 dX11_move_59 ?_
          refine lv_iload_n hx hb dX11_move_62 rfl (lv_at hl 1 rfl) ?_
          obtain ⟨r7, u6, hu6, hf⟩ := g_b2 hf
          refine ok_calli (rest := []) F K (pX3_rowOf G hu6) mX3_rowOf oc9 lX11_181 rfl hl.1 rfl ⟨⟨rfl, rfl⟩, Nat.le_of_ble_eq_true rfl, Nat.le_of_ble_eq_true rfl⟩ (Nat.le_of_ble_eq_true rfl) dX11_move_63 (fun H locs K => ?_)
          exact ok_reti B K hf dX11_move_66
        · have hf := g_neg hf c5
          by_cases c8 : a1 = 2
          · have hf := g_pos hf c8
            refine lv_tableInE (pc := 18) (K := 2) (off := 49) (tgt := 67) hx hb dX11_move_18 c8 (by decide) (by decide) rfl (by decide) ?_
            refine lv_aload_n hx hb dX11_move_67 rfl (lv_at hl 0 rfl) ?_
            refine ok_ref F K fX11_71 dX11_move_68 ?_
            refine lv_iload_n hx hb dX11_move_71 rfl (lv_at hl 1 rfl) ?_
            obtain ⟨r10, u9, hu9, hf⟩ := g_b2 hf
            refine ok_calli (rest := []) F K (pX3_connected G hu9) mX3_connected oc9 lX11_185 rfl hl.1 rfl ⟨⟨rfl, rfl⟩, Nat.le_of_ble_eq_true rfl, Nat.le_of_ble_eq_true rfl⟩ (Nat.le_of_ble_eq_true rfl) dX11_move_72 (fun H locs K => ?_)
            exact ok_reti B K hf dX11_move_75
          · have hf := g_neg hf c8
            by_cases c11 : a1 = 3
            · have hf := g_pos hf c11
              refine lv_tableInE (pc := 18) (K := 3) (off := 58) (tgt := 76) hx hb dX11_move_18 c11 (by decide) (by decide) rfl (by decide) ?_
              refine lv_aload_n hx hb dX11_move_76 rfl (lv_at hl 0 rfl) ?_
              refine ok_ref F K fX11_71 dX11_move_77 ?_
              refine lv_iload_n hx hb dX11_move_80 rfl (lv_at hl 1 rfl) ?_
              obtain ⟨r13, u12, hu12, hf⟩ := g_b2 hf
              refine ok_calli (rest := []) F K (pX3_above G hu12) mX3_above oc9 lX11_188 rfl hl.1 rfl ⟨⟨rfl, rfl⟩, Nat.le_of_ble_eq_true rfl, Nat.le_of_ble_eq_true rfl⟩ (Nat.le_of_ble_eq_true rfl) dX11_move_81 (fun H locs K => ?_)
              exact ok_reti B K hf dX11_move_84
            · have hf := g_neg hf c11
              refine lv_tableOut (pc := 18) (tgt := 85) hx hb dX11_move_18 (sw_out a1 0 3 (fun k h1 h2 => by have h3 : k = 0 ∨ k = 1 ∨ k = 2 ∨ k = 3 := (by omega); rcases h3 with rfl | rfl | rfl | rfl <;> simp only [kI_0, kI_1, kI_2, kI_3] <;> assumption)) (by decide) ?_
              refine lv_bipush (v := (-2)) hx hb dX11_move_85 kB_m2 ?_
              exact ok_reti B K hf dX11_move_87
    · have hf := g_neg hf c2
      refine lv_iconst (v := (-1)) hx hb dX11_move_15 kI_m1 ?_
      exact ok_reti B K hf dX11_move_16
abbrev rmX11_octet : Room := { frames := 0, cells := 0, slots := 0, locals := 0 }
set_option maxRecDepth 100000 in
set_option maxHeartbeats 4000000 in
theorem pX11_octet {l : Launch} (G : Gt) {a0 : Int32} {r : Int32} {u u' : St} (hf : fX11_octet a0 u = some (r, u')) : Ctr 0 76 l yX11_octet cX11_octet 2 (some .int) rmX11_octet [.ref (G.1 0), .int a0] G u (some (.int r)) u' := by
  refine Ctr.mk (by decide) (Nat.le_of_ble_eq_true rfl) (fun p e s m below meth c A ls B K hl => ?_)
  have F := B.1
  have hx := F.1
  have hb := F.2.1
  have hl : lv_has ls 2 [(0, .ref (G.1 0)), (1, .int a0)] := hl
  unfold fX11_octet at hf
  refine lv_iload_n hx hb dX11_octet_0 rfl (lv_at hl 1 rfl) ?_
  refine lv_if_lt (pc := 1) (tgt := 15) hx hb dX11_octet_1 (by decide) (fun c1 => ?_) (fun c1 => ?_)
  · have hf := g_pos hf c1
    refine lv_iconst (v := (-1)) hx hb dX11_octet_15 kI_m1 ?_
    refine lv_goto (pc := 16) (tgt := 32) hx hb dX11_octet_16 (by decide) ?_
    exact ok_reti B K hf dX11_octet_32
  · have hf := g_neg hf c1
    refine lv_iload_n hx hb dX11_octet_4 rfl (lv_at hl 1 rfl) ?_
    refine lv_aload_n hx hb dX11_octet_5 rfl (lv_at hl 0 rfl) ?_
    refine ok_ref F K fX11_80 dX11_octet_6 ?_
    refine ok_int F K fX11_160 dX11_octet_9 ?_
    refine lv_icmp_lt (pc := 12) (tgt := 19) hx hb dX11_octet_12 (by decide) (fun c2 => ?_) (fun c2 => ?_)
    · have hf := g_pos hf c2
      refine lv_aload_n hx hb dX11_octet_19 rfl (lv_at hl 0 rfl) ?_
      refine ok_ref F K fX11_80 dX11_octet_20 ?_
      refine ok_mref F K fX11_161 dX11_octet_23 ?_
      refine lv_iload_n hx hb dX11_octet_26 rfl (lv_at hl 1 rfl) ?_
      obtain ⟨z4, hz4, hf⟩ := g_bd hf
      obtain ⟨v3, hv3, hf⟩ := g_bd hf
      refine ok_bald F K (g_pg hz4) hv3 dX11_octet_27 ?_
      refine lv_sipush (v := 255) hx hb dX11_octet_28 kS_255 ?_
      refine lv_iand hx hb dX11_octet_31 ?_
      exact ok_reti B K hf dX11_octet_32
    · have hf := g_neg hf c2
      refine lv_iconst (v := (-1)) hx hb dX11_octet_15 kI_m1 ?_
      refine lv_goto (pc := 16) (tgt := 32) hx hb dX11_octet_16 (by decide) ?_
      exact ok_reti B K hf dX11_octet_32
abbrev rmX11_place : Room := { frames := 0, cells := 0, slots := 0, locals := 0 }
set_option maxRecDepth 100000 in
set_option maxHeartbeats 4000000 in
theorem pX11_place {l : Launch} (G : Gt) {r : Int32} {u u' : St} (hf : fX11_place u = some (r, u')) : Ctr 0 76 l yX11_place cX11_place 1 (some .int) rmX11_place [.ref (G.1 0)] G u (some (.int r)) u' := by
  refine Ctr.mk (by decide) (Nat.le_of_ble_eq_true rfl) (fun p e s m below meth c A ls B K hl => ?_)
  have F := B.1
  have hx := F.1
  have hb := F.2.1
  have hl : lv_has ls 1 [(0, .ref (G.1 0))] := hl
  unfold fX11_place at hf
  refine lv_aload_n hx hb dX11_place_0 rfl (lv_at hl 0 rfl) ?_
  refine ok_int F K fX11_84 dX11_place_1 ?_
  exact ok_reti B K hf dX11_place_4
abbrev rmX6_begin : Room := { frames := 0, cells := 0, slots := 0, locals := 0 }
set_option maxRecDepth 100000 in
set_option maxHeartbeats 4000000 in
theorem pX6_begin {l : Launch} (G : Gt) {u u' : St} (hf : fX6_begin u = some u') : Ctr 0 76 l yX6_begin cX6_begin 1 none rmX6_begin [.ref (G.1 1)] G u none u' := by
  refine Ctr.mk (by decide) (Nat.le_of_ble_eq_true rfl) (fun p e s m below meth c A ls B K hl => ?_)
  have F := B.1
  have hx := F.1
  have hb := F.2.1
  have hl : lv_has ls 1 [(0, .ref (G.1 1))] := hl
  unfold fX6_begin at hf
  refine lv_aload_n hx hb dX6_begin_0 rfl (lv_at hl 0 rfl) ?_
  refine lv_iconst (v := 0) hx hb dX6_begin_1 kI_0 ?_
  refine ok_putI F K qX6_17 dX6_begin_2 (fun u1 H locs eu1 K => ?_)
  have hf := g_lt hf u1 eu1
  refine lv_aload_n hx hb dX6_begin_5 rfl (lv_at hl 0 rfl) ?_
  refine lv_iconst (v := 0) hx hb dX6_begin_6 kI_0 ?_
  refine ok_putZ F K qX6_20 (Or.inl rfl) dX6_begin_7 (fun u2 H locs eu2 K => ?_)
  have hf := g_lt hf u2 eu2
  exact ok_retv B K hf dX6_begin_10
abbrev rmX2_begin : Room := { frames := 1, cells := 0, slots := 0, locals := 20 }
set_option maxRecDepth 100000 in
set_option maxHeartbeats 4000000 in
theorem pX2_begin {l : Launch} (G : Gt) {u u' : St} (hf : fX2_begin u = some u') : Ctr 0 76 l yX2_begin cX2_begin 1 none rmX2_begin [.ref (G.1 4)] G u none u' := by
  refine Ctr.mk (by decide) (Nat.le_of_ble_eq_true rfl) (fun p e s m below meth c A ls B K hl => ?_)
  have F := B.1
  have hx := F.1
  have hb := F.2.1
  have hl : lv_has ls 1 [(0, .ref (G.1 4))] := hl
  unfold fX2_begin at hf
  refine lv_aload_n hx hb dX2_begin_0 rfl (lv_at hl 0 rfl) ?_
  refine ok_ref F K fX2_9 dX2_begin_1 ?_
  obtain ⟨u1, hu1, hf⟩ := g_bd hf
  refine ok_callv (rest := []) F K (pX6_begin G hu1) mX6_begin oc1 lX2_23 rfl hl.1 rfl ⟨⟨rfl, rfl⟩, Nat.le_of_ble_eq_true rfl, Nat.le_of_ble_eq_true rfl⟩ (Nat.le_of_ble_eq_true rfl) dX2_begin_4 (fun H locs K => ?_)
  refine lv_aload_n hx hb dX2_begin_7 rfl (lv_at hl 0 rfl) ?_
  refine lv_iconst (v := 0) hx hb dX2_begin_8 kI_0 ?_
  refine ok_putI F K qX2_28 dX2_begin_9 (fun u2 H locs eu2 K => ?_)
  have hf := g_lt hf u2 eu2
  refine lv_aload_n hx hb dX2_begin_12 rfl (lv_at hl 0 rfl) ?_
  refine lv_iconst (v := 0) hx hb dX2_begin_13 kI_0 ?_
  refine ok_putI F K qX2_32 dX2_begin_14 (fun u3 H locs eu3 K => ?_)
  have hf := g_lt hf u3 eu3
  exact ok_retv B K hf dX2_begin_17
abbrev rmX6_scanWord : Room := { frames := 4, cells := 0, slots := 0, locals := 146 }
set_option maxRecDepth 100000 in
set_option maxHeartbeats 4000000 in
theorem pX6_scanWord_j68 {p : Program} {l : Launch} {e : Env} {s : State} {m : MethodId} {below : List Frame} {meth : Method} {c : Code} {A : Nat → Prop} {G : Gt} {a0 : Int32} {r : Int32} {u' : St} (B : Bd p s m [.ref (G.1 1), .int a0] meth c yX6_scanWord cX6_scanWord 4 (some .int)) (x1_ : Int32) (x2_ : Int64) (u : St) (H : Heap) (locs : List Loc) (ls : Array Slot) (hf : fX6_scanWord_j68 x1_ x2_ u = some (r, u')) (K : Ok 0 76 G A s u H locs) (hl : lv_has ls 4 [(0, .ref (G.1 1)), (1, .int x1_), (2, .long x2_)]) : W p l e rmX6_scanWord s m ([.ref (G.1 1), .int a0] : List Value).toArray below meth c H locs 0 0 (MQ below (Qg 0 76 G A (some (.int r)) u') ([.ref (G.1 1), .int a0] : List Value).toArray s 0 0 A) (F0 m 68 ls []) := by
  have F := B.1
  have hx := F.1
  have hb := F.2.1
  unfold fX6_scanWord_j68 at hf
  refine lv_aload_n hx hb dX6_scanWord_68 rfl (lv_at hl 0 rfl) ?_
  refine lv_lload_n hx hb dX6_scanWord_69 rfl (lv_at hl 2 rfl) ?_
  refine ok_putJ F K qX6_51 dX6_scanWord_70 (fun u1 H locs eu1 K => ?_)
  have hf := g_lt hf u1 eu1
  refine lv_aload_n hx hb dX6_scanWord_73 rfl (lv_at hl 0 rfl) ?_
  refine ok_int F K fX6_17 dX6_scanWord_74 ?_
  refine lv_aload_n hx hb dX6_scanWord_77 rfl (lv_at hl 0 rfl) ?_
  refine ok_int F K fX6_27 dX6_scanWord_78 ?_
  refine lv_isub hx hb dX6_scanWord_81 ?_
  refine lv_bipush (v := 8) hx hb dX6_scanWord_82 kB_8 ?_
  refine lv_icmp_le (pc := 84) (tgt := 91) hx hb dX6_scanWord_84 (by decide) (fun c2 => ?_) (fun c2 => ?_)
  · have hf := g_pos hf c2
    refine lv_iload_n hx hb dX6_scanWord_91 rfl (lv_at hl 1 rfl) ?_
    exact ok_reti B K hf dX6_scanWord_92
  · have hf := g_neg hf c2
    refine lv_iconst (v := 0) hx hb dX6_scanWord_87 kI_0 ?_
    refine lv_goto (pc := 88) (tgt := 92) hx hb dX6_scanWord_88 (by decide) ?_
    exact ok_reti B K hf dX6_scanWord_92
set_option maxRecDepth 100000 in
set_option maxHeartbeats 4000000 in
theorem pX6_scanWord_L0 {p : Program} {l : Launch} {e : Env} {s : State} {m : MethodId} {below : List Frame} {meth : Method} {c : Code} {A : Nat → Prop} {G : Gt} {a0 : Int32} {r : Int32} {u' : St} (B : Bd p s m [.ref (G.1 1), .int a0] meth c yX6_scanWord cX6_scanWord 4 (some .int)) (n : Nat) : (∀ (x1_ : Int32) (x2_ : Int64) (u : St) (H : Heap) (locs : List Loc) (ls : Array Slot), fX6_scanWord_L0  n 0 x1_ x2_ u = some (r, u') → Ok 0 76 G A s u H locs → lv_has ls 4 [(0, .ref (G.1 1)), (1, .int x1_), (2, .long x2_)] → W p l e rmX6_scanWord s m ([.ref (G.1 1), .int a0] : List Value).toArray below meth c H locs 0 0 (MQ below (Qg 0 76 G A (some (.int r)) u') ([.ref (G.1 1), .int a0] : List Value).toArray s 0 0 A) (F0 m 2 ls [])) := by
  have F := B.1
  have hx := F.1
  have hb := F.2.1
  induction n with
  | zero => exact fun _ _ _ _ _ _ hf => g_no hf
  | succ n ih =>
    refine ?_
    · intro x1_ x2_ u H locs ls hf K hl
      have hf : fX6_scanWord_L0_0  (fX6_scanWord_L0  n) x1_ x2_ u = some (r, u') := hf
      unfold fX6_scanWord_L0_0 at hf
      refine lv_aload_n hx hb dX6_scanWord_2 rfl (lv_at hl 0 rfl) ?_
      refine ok_int F K fX6_17 dX6_scanWord_3 ?_
      refine lv_aload_n hx hb dX6_scanWord_6 rfl (lv_at hl 0 rfl) ?_
      refine ok_int F K fX6_13 dX6_scanWord_7 ?_
      refine lv_icmp_ge (pc := 10) (tgt := 68) hx hb dX6_scanWord_10 (by decide) (fun c3 => ?_) (fun c3 => ?_)
      · have hf := g_pos hf c3
        exact pX6_scanWord_j68  B x1_ x2_ u _ _ _ hf K (lv_sub hl [0, 1, 2] rfl)
      · have hf := g_neg hf c3
        refine ok_ldcS F K 3 rfl dX6_scanWord_13 ?_
        refine lv_aload_n hx hb dX6_scanWord_15 rfl (lv_at hl 0 rfl) ?_
        refine ok_ref F K fX6_9 dX6_scanWord_16 ?_
        refine lv_aload_n hx hb dX6_scanWord_19 rfl (lv_at hl 0 rfl) ?_
        refine ok_int F K fX6_17 dX6_scanWord_20 ?_
        obtain ⟨v4, hv4, hf⟩ := g_bd hf
        refine ok_bald F K t14 hv4 dX6_scanWord_23 ?_
        refine lv_sipush (v := 255) hx hb dX6_scanWord_24 kS_255 ?_
        refine lv_iand hx hb dX6_scanWord_27 ?_
        refine lv_i2c hx hb dX6_scanWord_28 rfl ?_
        obtain ⟨r6, u5, hu5, hf⟩ := g_b2 hf
        refine ok_callki (rest := []) F K (pJ0_indexOf_0f7a4 G (k := 3) (by decide) hu5) mJ0_indexOf_0f7a4 (by decide) lX6_32 rfl hl.1 rfl ⟨⟨rfl, rfl⟩, Nat.le_of_ble_eq_true rfl, Nat.le_of_ble_eq_true rfl⟩ (Nat.le_of_ble_eq_true rfl) dX6_scanWord_29 (fun H locs K => ?_)
        refine lv_if_lt (pc := 32) (tgt := 68) hx hb dX6_scanWord_32 (by decide) (fun c7 => ?_) (fun c7 => ?_)
        · have hf := g_pos hf c7
          exact pX6_scanWord_j68  B x1_ x2_ u5 _ _ _ hf K (lv_sub hl [0, 1, 2] rfl)
        · have hf := g_neg hf c7
          refine lv_lload_n hx hb dX6_scanWord_35 rfl (lv_at hl 2 rfl) ?_
          refine lv_bipush (v := 8) hx hb dX6_scanWord_36 kB_8 ?_
          refine lv_lshl hx hb dX6_scanWord_38 rfl ?_
          refine lv_aload_n hx hb dX6_scanWord_39 rfl (lv_at hl 0 rfl) ?_
          refine ok_ref F K fX6_9 dX6_scanWord_40 ?_
          refine lv_aload_n hx hb dX6_scanWord_43 rfl (lv_at hl 0 rfl) ?_
          refine ok_int F K fX6_17 dX6_scanWord_44 ?_
          obtain ⟨v8, hv8, hf⟩ := g_bd hf
          refine ok_bald F K t14 hv8 dX6_scanWord_47 ?_
          refine lv_sipush (v := 255) hx hb dX6_scanWord_48 kS_255 ?_
          refine lv_iand hx hb dX6_scanWord_51 ?_
          refine lv_i2l hx hb dX6_scanWord_52 rfl ?_
          refine lv_lor hx hb dX6_scanWord_53 ?_
          refine lv_topl (fun x9 ex9 => ?_)
          have hf := g_lt hf x9 ex9
          refine lv_lstore_n (lv' := [(2, .long x9), (0, .ref (G.1 1)), (1, .int x1_)]) hx hb dX6_scanWord_54 rfl hl (by decide) rfl (fun ls hl => ?_)
          refine lv_aload_n hx hb dX6_scanWord_55 rfl (lv_at hl 1 rfl) ?_
          refine lv_dup hx hb dX6_scanWord_56 rfl ?_
          refine ok_int F K fX6_17 dX6_scanWord_57 ?_
          refine lv_iconst (v := 1) hx hb dX6_scanWord_60 kI_1 ?_
          refine lv_iadd hx hb dX6_scanWord_61 ?_
          refine ok_putI F K qX6_17 dX6_scanWord_62 (fun u10 H locs eu10 K => ?_)
          have hf := g_lt hf u10 eu10
          refine lv_goto (pc := 65) (tgt := 2) hx hb dX6_scanWord_65 (by decide) ?_
          exact ih x1_ x9 u10 _ _ _ hf K (lv_sub hl [1, 2, 0] rfl)
set_option maxRecDepth 100000 in
set_option maxHeartbeats 4000000 in
theorem pX6_scanWord {l : Launch} (G : Gt) {a0 : Int32} {r : Int32} {u u' : St} (hf : fX6_scanWord a0 u = some (r, u')) : Ctr 0 76 l yX6_scanWord cX6_scanWord 4 (some .int) rmX6_scanWord [.ref (G.1 1), .int a0] G u (some (.int r)) u' := by
  refine Ctr.mk (by decide) (Nat.le_of_ble_eq_true rfl) (fun p e s m below meth c A ls B K hl => ?_)
  have F := B.1
  have hx := F.1
  have hb := F.2.1
  have hl : lv_has ls 4 [(0, .ref (G.1 1)), (1, .int a0)] := hl
  unfold fX6_scanWord at hf
  refine lv_lconst (v := 0) hx hb dX6_scanWord_0 (by decide) ?_
  refine lv_topl (fun x11 ex11 => ?_)
  have hf := g_lt hf x11 ex11
  refine lv_lstore_n (lv' := [(2, .long x11), (0, .ref (G.1 1)), (1, .int a0)]) hx hb dX6_scanWord_1 rfl hl (by decide) rfl (fun ls hl => ?_)
  exact (pX6_scanWord_L0  B FU) a0 x11 u _ _ _ hf K (lv_sub hl [1, 2, 0] rfl)
abbrev rmX6_scanMark : Room := { frames := 4, cells := 0, slots := 0, locals := 146 }
set_option maxRecDepth 100000 in
set_option maxHeartbeats 4000000 in
theorem pX6_scanMark_j106 {p : Program} {l : Launch} {e : Env} {s : State} {m : MethodId} {below : List Frame} {meth : Method} {c : Code} {A : Nat → Prop} {G : Gt} {a0 : Int32} {r : Int32} {u' : St} (B : Bd p s m [.ref (G.1 1), .int a0] meth c yX6_scanMark cX6_scanMark 4 (some .int)) (x1_ : Int32) (u : St) (H : Heap) (locs : List Loc) (ls : Array Slot) (hf : fX6_scanMark_j106 x1_ u = some (r, u')) (K : Ok 0 76 G A s u H locs) (hl : lv_has ls 4 [(0, .ref (G.1 1)), (1, .int x1_)]) : W p l e rmX6_scanMark s m ([.ref (G.1 1), .int a0] : List Value).toArray below meth c H locs 0 0 (MQ below (Qg 0 76 G A (some (.int r)) u') ([.ref (G.1 1), .int a0] : List Value).toArray s 0 0 A) (F0 m 106 ls []) := by
  have F := B.1
  have hx := F.1
  have hb := F.2.1
  unfold fX6_scanMark_j106 at hf
  refine ok_ldcS F K 4 rfl dX6_scanMark_106 ?_
  refine lv_iload_n hx hb dX6_scanMark_108 rfl (lv_at hl 1 rfl) ?_
  obtain ⟨r2, u1, hu1, hf⟩ := g_b2 hf
  refine ok_callki (rest := []) F K (pJ0_indexOf_0f7a4 G (k := 4) (by decide) hu1) mJ0_indexOf_0f7a4 (by decide) lX6_32 rfl hl.1 rfl ⟨⟨rfl, rfl⟩, Nat.le_of_ble_eq_true rfl, Nat.le_of_ble_eq_true rfl⟩ (Nat.le_of_ble_eq_true rfl) dX6_scanMark_109 (fun H locs K => ?_)
  refine lv_istore_n (lv' := [(3, .int r2), (0, .ref (G.1 1)), (1, .int x1_)]) hx hb dX6_scanMark_112 rfl hl (by decide) rfl (fun ls hl => ?_)
  refine lv_iload_n hx hb dX6_scanMark_113 rfl (lv_at hl 0 rfl) ?_
  refine lv_if_ge (pc := 114) (tgt := 119) hx hb dX6_scanMark_114 (by decide) (fun c3 => ?_) (fun c3 => ?_)
  · have hf := g_pos hf c3
    refine lv_aload_n hx hb dX6_scanMark_119 rfl (lv_at hl 1 rfl) ?_
    refine lv_aload_n hx hb dX6_scanMark_120 rfl (lv_at hl 1 rfl) ?_
    refine ok_int F K fX6_27 dX6_scanMark_121 ?_
    refine lv_iconst (v := 1) hx hb dX6_scanMark_124 kI_1 ?_
    refine lv_iadd hx hb dX6_scanMark_125 ?_
    refine ok_putI F K qX6_17 dX6_scanMark_126 (fun u4 H locs eu4 K => ?_)
    have hf := g_lt hf u4 eu4
    refine lv_iconst (v := 4) hx hb dX6_scanMark_129 kI_4 ?_
    refine lv_iload_n hx hb dX6_scanMark_130 rfl (lv_at hl 0 rfl) ?_
    refine lv_iadd hx hb dX6_scanMark_131 ?_
    exact ok_reti B K hf dX6_scanMark_132
  · have hf := g_neg hf c3
    refine lv_iconst (v := 0) hx hb dX6_scanMark_117 kI_0 ?_
    exact ok_reti B K hf dX6_scanMark_118
set_option maxRecDepth 100000 in
set_option maxHeartbeats 4000000 in
theorem pX6_scanMark_j50 {p : Program} {l : Launch} {e : Env} {s : State} {m : MethodId} {below : List Frame} {meth : Method} {c : Code} {A : Nat → Prop} {G : Gt} {a0 : Int32} {r : Int32} {u' : St} (B : Bd p s m [.ref (G.1 1), .int a0] meth c yX6_scanMark cX6_scanMark 4 (some .int)) (x1_ : Int32) (x2_ : Int32) (u : St) (H : Heap) (locs : List Loc) (ls : Array Slot) (hf : fX6_scanMark_j50 x1_ x2_ u = some (r, u')) (K : Ok 0 76 G A s u H locs) (hl : lv_has ls 4 [(0, .ref (G.1 1)), (1, .int x1_), (2, .int x2_)]) : W p l e rmX6_scanMark s m ([.ref (G.1 1), .int a0] : List Value).toArray below meth c H locs 0 0 (MQ below (Qg 0 76 G A (some (.int r)) u') ([.ref (G.1 1), .int a0] : List Value).toArray s 0 0 A) (F0 m 50 ls []) := by
  have F := B.1
  have hx := F.1
  have hb := F.2.1
  unfold fX6_scanMark_j50 at hf
  refine lv_iload_n hx hb dX6_scanMark_50 rfl (lv_at hl 1 rfl) ?_
  refine lv_bipush (v := 60) hx hb dX6_scanMark_51 kB_60 ?_
  refine lv_icmp_ne (pc := 53) (tgt := 106) hx hb dX6_scanMark_53 (by decide) (fun c5 => ?_) (fun c5 => ?_)
  · have hf := g_neg hf c5
    exact pX6_scanMark_j106  B x1_ u _ _ _ hf K (lv_sub hl [0, 1] rfl)
  · have hf := g_pos hf c5
    refine lv_iload_n hx hb dX6_scanMark_56 rfl (lv_at hl 2 rfl) ?_
    refine lv_iconst (v := 2) hx hb dX6_scanMark_57 kI_2 ?_
    refine lv_icmp_le (pc := 58) (tgt := 106) hx hb dX6_scanMark_58 (by decide) (fun c6 => ?_) (fun c6 => ?_)
    · have hf := g_pos hf c6
      exact pX6_scanMark_j106  B x1_ u _ _ _ hf K (lv_sub hl [0, 1] rfl)
    · have hf := g_neg hf c6
      refine lv_aload_n hx hb dX6_scanMark_61 rfl (lv_at hl 0 rfl) ?_
      refine ok_ref F K fX6_9 dX6_scanMark_62 ?_
      refine lv_aload_n hx hb dX6_scanMark_65 rfl (lv_at hl 0 rfl) ?_
      refine ok_int F K fX6_27 dX6_scanMark_66 ?_
      refine lv_iconst (v := 1) hx hb dX6_scanMark_69 kI_1 ?_
      refine lv_iadd hx hb dX6_scanMark_70 ?_
      obtain ⟨v7, hv7, hf⟩ := g_bd hf
      refine ok_bald F K t14 hv7 dX6_scanMark_71 ?_
      refine lv_bipush (v := 61) hx hb dX6_scanMark_72 kB_61 ?_
      refine lv_icmp_ne (pc := 74) (tgt := 106) hx hb dX6_scanMark_74 (by decide) (fun c8 => ?_) (fun c8 => ?_)
      · have hf := g_neg hf c8
        exact pX6_scanMark_j106  B x1_ u _ _ _ hf K (lv_sub hl [0, 1] rfl)
      · have hf := g_pos hf c8
        refine lv_aload_n hx hb dX6_scanMark_77 rfl (lv_at hl 0 rfl) ?_
        refine ok_ref F K fX6_9 dX6_scanMark_78 ?_
        refine lv_aload_n hx hb dX6_scanMark_81 rfl (lv_at hl 0 rfl) ?_
        refine ok_int F K fX6_27 dX6_scanMark_82 ?_
        refine lv_iconst (v := 2) hx hb dX6_scanMark_85 kI_2 ?_
        refine lv_iadd hx hb dX6_scanMark_86 ?_
        obtain ⟨v9, hv9, hf⟩ := g_bd hf
        refine ok_bald F K t14 hv9 dX6_scanMark_87 ?_
        refine lv_bipush (v := 62) hx hb dX6_scanMark_88 kB_62 ?_
        refine lv_icmp_ne (pc := 90) (tgt := 106) hx hb dX6_scanMark_90 (by decide) (fun c10 => ?_) (fun c10 => ?_)
        · have hf := g_neg hf c10
          exact pX6_scanMark_j106  B x1_ u _ _ _ hf K (lv_sub hl [0, 1] rfl)
        · have hf := g_pos hf c10
          refine lv_aload_n hx hb dX6_scanMark_93 rfl (lv_at hl 0 rfl) ?_
          refine lv_aload_n hx hb dX6_scanMark_94 rfl (lv_at hl 0 rfl) ?_
          refine ok_int F K fX6_27 dX6_scanMark_95 ?_
          refine lv_iconst (v := 3) hx hb dX6_scanMark_98 kI_3 ?_
          refine lv_iadd hx hb dX6_scanMark_99 ?_
          refine ok_putI F K qX6_17 dX6_scanMark_100 (fun u11 H locs eu11 K => ?_)
          have hf := g_lt hf u11 eu11
          refine lv_bipush (v := 15) hx hb dX6_scanMark_103 kB_15 ?_
          exact ok_reti B K hf dX6_scanMark_105
set_option maxRecDepth 100000 in
set_option maxHeartbeats 4000000 in
theorem pX6_scanMark {l : Launch} (G : Gt) {a0 : Int32} {r : Int32} {u u' : St} (hf : fX6_scanMark a0 u = some (r, u')) : Ctr 0 76 l yX6_scanMark cX6_scanMark 4 (some .int) rmX6_scanMark [.ref (G.1 1), .int a0] G u (some (.int r)) u' := by
  refine Ctr.mk (by decide) (Nat.le_of_ble_eq_true rfl) (fun p e s m below meth c A ls B K hl => ?_)
  have F := B.1
  have hx := F.1
  have hb := F.2.1
  have hl : lv_has ls 4 [(0, .ref (G.1 1)), (1, .int a0)] := hl
  unfold fX6_scanMark at hf
  refine lv_aload_n hx hb dX6_scanMark_0 rfl (lv_at hl 0 rfl) ?_
  refine ok_int F K fX6_13 dX6_scanMark_1 ?_
  refine lv_aload_n hx hb dX6_scanMark_4 rfl (lv_at hl 0 rfl) ?_
  refine ok_int F K fX6_27 dX6_scanMark_5 ?_
  refine lv_isub hx hb dX6_scanMark_8 ?_
  refine lv_topi (fun x12 ex12 => ?_)
  have hf := g_lt hf x12 ex12
  refine lv_istore_n (lv' := [(2, .int x12), (0, .ref (G.1 1)), (1, .int a0)]) hx hb dX6_scanMark_9 rfl hl (by decide) rfl (fun ls hl => ?_)
  refine lv_iload_n hx hb dX6_scanMark_10 rfl (lv_at hl 2 rfl) ?_
  refine lv_bipush (v := 61) hx hb dX6_scanMark_11 kB_61 ?_
  refine lv_icmp_ne (pc := 13) (tgt := 50) hx hb dX6_scanMark_13 (by decide) (fun c13 => ?_) (fun c13 => ?_)
  · have hf := g_neg hf c13
    exact pX6_scanMark_j50  B a0 x12 u _ _ _ hf K (lv_sub hl [1, 2, 0] rfl)
  · have hf := g_pos hf c13
    refine lv_iload_n hx hb dX6_scanMark_16 rfl (lv_at hl 0 rfl) ?_
    refine lv_iconst (v := 1) hx hb dX6_scanMark_17 kI_1 ?_
    refine lv_icmp_le (pc := 18) (tgt := 50) hx hb dX6_scanMark_18 (by decide) (fun c14 => ?_) (fun c14 => ?_)
    · have hf := g_pos hf c14
      exact pX6_scanMark_j50  B a0 x12 u _ _ _ hf K (lv_sub hl [1, 2, 0] rfl)
    · have hf := g_neg hf c14
      refine lv_aload_n hx hb dX6_scanMark_21 rfl (lv_at hl 1 rfl) ?_
      refine ok_ref F K fX6_9 dX6_scanMark_22 ?_
      refine lv_aload_n hx hb dX6_scanMark_25 rfl (lv_at hl 1 rfl) ?_
      refine ok_int F K fX6_27 dX6_scanMark_26 ?_
      refine lv_iconst (v := 1) hx hb dX6_scanMark_29 kI_1 ?_
      refine lv_iadd hx hb dX6_scanMark_30 ?_
      obtain ⟨v15, hv15, hf⟩ := g_bd hf
      refine ok_bald F K t14 hv15 dX6_scanMark_31 ?_
      refine lv_bipush (v := 62) hx hb dX6_scanMark_32 kB_62 ?_
      refine lv_icmp_ne (pc := 34) (tgt := 50) hx hb dX6_scanMark_34 (by decide) (fun c16 => ?_) (fun c16 => ?_)
      · have hf := g_neg hf c16
        exact pX6_scanMark_j50  B a0 x12 u _ _ _ hf K (lv_sub hl [1, 2, 0] rfl)
      · have hf := g_pos hf c16
        refine lv_aload_n hx hb dX6_scanMark_37 rfl (lv_at hl 1 rfl) ?_
        refine lv_aload_n hx hb dX6_scanMark_38 rfl (lv_at hl 1 rfl) ?_
        refine ok_int F K fX6_27 dX6_scanMark_39 ?_
        refine lv_iconst (v := 2) hx hb dX6_scanMark_42 kI_2 ?_
        refine lv_iadd hx hb dX6_scanMark_43 ?_
        refine ok_putI F K qX6_17 dX6_scanMark_44 (fun u17 H locs eu17 K => ?_)
        have hf := g_lt hf u17 eu17
        refine lv_bipush (v := 14) hx hb dX6_scanMark_47 kB_14 ?_
        exact ok_reti B K hf dX6_scanMark_49
abbrev rmX6_look : Room := { frames := 5, cells := 0, slots := 0, locals := 169 }
set_option maxRecDepth 100000 in
set_option maxHeartbeats 4000000 in
theorem pX6_look_j71 {p : Program} {l : Launch} {e : Env} {s : State} {m : MethodId} {below : List Frame} {meth : Method} {c : Code} {A : Nat → Prop} {G : Gt} {r : Int32} {u' : St} (B : Bd p s m [.ref (G.1 1)] meth c yX6_look cX6_look 2 (some .int)) (u : St) (H : Heap) (locs : List Loc) (ls : Array Slot) (hf : fX6_look_j71  u = some (r, u')) (K : Ok 0 76 G A s u H locs) (hl : lv_has ls 2 [(0, .ref (G.1 1))]) : W p l e rmX6_look s m ([.ref (G.1 1)] : List Value).toArray below meth c H locs 0 0 (MQ below (Qg 0 76 G A (some (.int r)) u') ([.ref (G.1 1)] : List Value).toArray s 0 0 A) (F0 m 71 ls []) := by
  have F := B.1
  have hx := F.1
  have hb := F.2.1
  unfold fX6_look_j71 at hf
  refine lv_aload_n hx hb dX6_look_71 rfl (lv_at hl 0 rfl) ?_
  refine lv_aload_n hx hb dX6_look_72 rfl (lv_at hl 0 rfl) ?_
  refine ok_int F K fX6_27 dX6_look_73 ?_
  refine ok_putI F K qX6_17 dX6_look_76 (fun u1 H locs eu1 K => ?_)
  have hf := g_lt hf u1 eu1
  refine lv_aload_n hx hb dX6_look_79 rfl (lv_at hl 0 rfl) ?_
  refine ok_int F K fX6_27 dX6_look_80 ?_
  refine lv_aload_n hx hb dX6_look_83 rfl (lv_at hl 0 rfl) ?_
  refine ok_int F K fX6_13 dX6_look_84 ?_
  refine lv_icmp_lt (pc := 87) (tgt := 100) hx hb dX6_look_87 (by decide) (fun c2 => ?_) (fun c2 => ?_)
  · have hf := g_pos hf c2
    refine lv_aload_n hx hb dX6_look_100 rfl (lv_at hl 0 rfl) ?_
    refine ok_ref F K fX6_9 dX6_look_101 ?_
    refine lv_aload_n hx hb dX6_look_104 rfl (lv_at hl 0 rfl) ?_
    refine ok_int F K fX6_27 dX6_look_105 ?_
    obtain ⟨v3, hv3, hf⟩ := g_bd hf
    refine ok_bald F K t14 hv3 dX6_look_108 ?_
    refine lv_sipush (v := 255) hx hb dX6_look_109 kS_255 ?_
    refine lv_iand hx hb dX6_look_112 ?_
    refine lv_i2c hx hb dX6_look_113 rfl ?_
    refine lv_topi (fun x4 ex4 => ?_)
    have hf := g_lt hf x4 ex4
    refine lv_istore_n (lv' := [(1, .int x4), (0, .ref (G.1 1))]) hx hb dX6_look_114 rfl hl (by decide) rfl (fun ls hl => ?_)
    refine ok_ldcS F K 1 rfl dX6_look_115 ?_
    refine lv_iload_n hx hb dX6_look_117 rfl (lv_at hl 0 rfl) ?_
    obtain ⟨r6, u5, hu5, hf⟩ := g_b2 hf
    refine ok_callki (rest := []) F K (pJ0_indexOf_0f7a4 G (k := 1) (by decide) hu5) mJ0_indexOf_0f7a4 (by decide) lX6_32 rfl hl.1 rfl ⟨⟨rfl, rfl⟩, Nat.le_of_ble_eq_true rfl, Nat.le_of_ble_eq_true rfl⟩ (Nat.le_of_ble_eq_true rfl) dX6_look_118 (fun H locs K => ?_)
    refine lv_if_lt (pc := 121) (tgt := 136) hx hb dX6_look_121 (by decide) (fun c7 => ?_) (fun c7 => ?_)
    · have hf := g_pos hf c7
      refine ok_ldcS F K 2 rfl dX6_look_136 ?_
      refine lv_iload_n hx hb dX6_look_138 rfl (lv_at hl 0 rfl) ?_
      obtain ⟨r9, u8, hu8, hf⟩ := g_b2 hf
      refine ok_callki (rest := []) F K (pJ0_indexOf_0f7a4 G (k := 2) (by decide) hu8) mJ0_indexOf_0f7a4 (by decide) lX6_32 rfl hl.1 rfl ⟨⟨rfl, rfl⟩, Nat.le_of_ble_eq_true rfl, Nat.le_of_ble_eq_true rfl⟩ (Nat.le_of_ble_eq_true rfl) dX6_look_139 (fun H locs K => ?_)
      refine lv_if_lt (pc := 142) (tgt := 157) hx hb dX6_look_142 (by decide) (fun c10 => ?_) (fun c10 => ?_)
      · have hf := g_pos hf c10
        refine lv_aload_n hx hb dX6_look_157 rfl (lv_at hl 1 rfl) ?_
        refine lv_aload_n hx hb dX6_look_158 rfl (lv_at hl 1 rfl) ?_
        refine lv_iload_n hx hb dX6_look_159 rfl (lv_at hl 0 rfl) ?_
        obtain ⟨r12, u11, hu11, hf⟩ := g_b2 hf
        refine ok_calli (rest := [.ref (G.1 1)]) F K (pX6_scanMark G hu11) mX6_scanMark oc1 lX6_45 rfl hl.1 rfl ⟨⟨rfl, rfl⟩, Nat.le_of_ble_eq_true rfl, Nat.le_of_ble_eq_true rfl⟩ (Nat.le_of_ble_eq_true rfl) dX6_look_160 (fun H locs K => ?_)
        refine ok_putI F K qX6_24 dX6_look_163 (fun u13 H locs eu13 K => ?_)
        have hf := g_lt hf u13 eu13
        refine lv_aload_n hx hb dX6_look_166 rfl (lv_at hl 1 rfl) ?_
        refine ok_int F K fX6_24 dX6_look_167 ?_
        exact ok_reti B K hf dX6_look_170
      · have hf := g_neg hf c10
        refine lv_aload_n hx hb dX6_look_145 rfl (lv_at hl 1 rfl) ?_
        refine lv_aload_n hx hb dX6_look_146 rfl (lv_at hl 1 rfl) ?_
        refine lv_iconst (v := 3) hx hb dX6_look_147 kI_3 ?_
        obtain ⟨r15, u14, hu14, hf⟩ := g_b2 hf
        refine ok_calli (rest := [.ref (G.1 1)]) F K (pX6_scanWord G hu14) mX6_scanWord oc1 lX6_40 rfl hl.1 rfl ⟨⟨rfl, rfl⟩, Nat.le_of_ble_eq_true rfl, Nat.le_of_ble_eq_true rfl⟩ (Nat.le_of_ble_eq_true rfl) dX6_look_148 (fun H locs K => ?_)
        refine ok_putI F K qX6_24 dX6_look_151 (fun u16 H locs eu16 K => ?_)
        have hf := g_lt hf u16 eu16
        refine lv_goto (pc := 154) (tgt := 166) hx hb dX6_look_154 (by decide) ?_
        refine lv_aload_n hx hb dX6_look_166 rfl (lv_at hl 1 rfl) ?_
        refine ok_int F K fX6_24 dX6_look_167 ?_
        exact ok_reti B K hf dX6_look_170
    · have hf := g_neg hf c7
      refine lv_aload_n hx hb dX6_look_124 rfl (lv_at hl 1 rfl) ?_
      refine lv_aload_n hx hb dX6_look_125 rfl (lv_at hl 1 rfl) ?_
      refine lv_iconst (v := 2) hx hb dX6_look_126 kI_2 ?_
      obtain ⟨r18, u17, hu17, hf⟩ := g_b2 hf
      refine ok_calli (rest := [.ref (G.1 1)]) F K (pX6_scanWord G hu17) mX6_scanWord oc1 lX6_40 rfl hl.1 rfl ⟨⟨rfl, rfl⟩, Nat.le_of_ble_eq_true rfl, Nat.le_of_ble_eq_true rfl⟩ (Nat.le_of_ble_eq_true rfl) dX6_look_127 (fun H locs K => ?_)
      refine ok_putI F K qX6_24 dX6_look_130 (fun u19 H locs eu19 K => ?_)
      have hf := g_lt hf u19 eu19
      refine lv_goto (pc := 133) (tgt := 166) hx hb dX6_look_133 (by decide) ?_
      refine lv_aload_n hx hb dX6_look_166 rfl (lv_at hl 1 rfl) ?_
      refine ok_int F K fX6_24 dX6_look_167 ?_
      exact ok_reti B K hf dX6_look_170
  · have hf := g_neg hf c2
    refine lv_aload_n hx hb dX6_look_90 rfl (lv_at hl 0 rfl) ?_
    refine lv_iconst (v := 1) hx hb dX6_look_91 kI_1 ?_
    refine ok_putI F K qX6_24 dX6_look_92 (fun u20 H locs eu20 K => ?_)
    have hf := g_lt hf u20 eu20
    refine lv_aload_n hx hb dX6_look_95 rfl (lv_at hl 0 rfl) ?_
    refine ok_int F K fX6_24 dX6_look_96 ?_
    exact ok_reti B K hf dX6_look_99
set_option maxRecDepth 100000 in
set_option maxHeartbeats 4000000 in
theorem pX6_look_L0 {p : Program} {l : Launch} {e : Env} {s : State} {m : MethodId} {below : List Frame} {meth : Method} {c : Code} {A : Nat → Prop} {G : Gt} {r : Int32} {u' : St} (B : Bd p s m [.ref (G.1 1)] meth c yX6_look cX6_look 2 (some .int)) (n : Nat) : (∀ (u : St) (H : Heap) (locs : List Loc) (ls : Array Slot), fX6_look_L0  n 0  u = some (r, u') → Ok 0 76 G A s u H locs → lv_has ls 2 [(0, .ref (G.1 1))] → W p l e rmX6_look s m ([.ref (G.1 1)] : List Value).toArray below meth c H locs 0 0 (MQ below (Qg 0 76 G A (some (.int r)) u') ([.ref (G.1 1)] : List Value).toArray s 0 0 A) (F0 m 25 ls [])) := by
  have F := B.1
  have hx := F.1
  have hb := F.2.1
  induction n with
  | zero => exact fun _ _ _ _ hf => g_no hf
  | succ n ih =>
    refine ?_
    · intro  u H locs ls hf K hl
      have hf : fX6_look_L0_0  (fX6_look_L0  n)  u = some (r, u') := hf
      unfold fX6_look_L0_0 at hf
      refine lv_aload_n hx hb dX6_look_25 rfl (lv_at hl 0 rfl) ?_
      refine ok_int F K fX6_27 dX6_look_26 ?_
      refine lv_aload_n hx hb dX6_look_29 rfl (lv_at hl 0 rfl) ?_
      refine ok_int F K fX6_13 dX6_look_30 ?_
      refine lv_icmp_ge (pc := 33) (tgt := 71) hx hb dX6_look_33 (by decide) (fun c21 => ?_) (fun c21 => ?_)
      · have hf := g_pos hf c21
        exact pX6_look_j71  B  u _ _ _ hf K (lv_sub hl [0] rfl)
      · have hf := g_neg hf c21
        refine ok_ldcS F K 0 rfl dX6_look_36 ?_
        refine lv_aload_n hx hb dX6_look_38 rfl (lv_at hl 0 rfl) ?_
        refine ok_ref F K fX6_9 dX6_look_39 ?_
        refine lv_aload_n hx hb dX6_look_42 rfl (lv_at hl 0 rfl) ?_
        refine ok_int F K fX6_27 dX6_look_43 ?_
        obtain ⟨v22, hv22, hf⟩ := g_bd hf
        refine ok_bald F K t14 hv22 dX6_look_46 ?_
        refine lv_sipush (v := 255) hx hb dX6_look_47 kS_255 ?_
        refine lv_iand hx hb dX6_look_50 ?_
        refine lv_i2c hx hb dX6_look_51 rfl ?_
        obtain ⟨r24, u23, hu23, hf⟩ := g_b2 hf
        refine ok_callki (rest := []) F K (pJ0_indexOf_0f7a4 G (k := 0) (by decide) hu23) mJ0_indexOf_0f7a4 (by decide) lX6_32 rfl hl.1 rfl ⟨⟨rfl, rfl⟩, Nat.le_of_ble_eq_true rfl, Nat.le_of_ble_eq_true rfl⟩ (Nat.le_of_ble_eq_true rfl) dX6_look_52 (fun H locs K => ?_)
        refine lv_if_lt (pc := 55) (tgt := 71) hx hb dX6_look_55 (by decide) (fun c25 => ?_) (fun c25 => ?_)
        · have hf := g_pos hf c25
          exact pX6_look_j71  B  u23 _ _ _ hf K (lv_sub hl [0] rfl)
        · have hf := g_neg hf c25
          refine lv_aload_n hx hb dX6_look_58 rfl (lv_at hl 0 rfl) ?_
          refine lv_dup hx hb dX6_look_59 rfl ?_
          refine ok_int F K fX6_27 dX6_look_60 ?_
          refine lv_iconst (v := 1) hx hb dX6_look_63 kI_1 ?_
          refine lv_iadd hx hb dX6_look_64 ?_
          refine ok_putI F K qX6_27 dX6_look_65 (fun u26 H locs eu26 K => ?_)
          have hf := g_lt hf u26 eu26
          refine lv_goto (pc := 68) (tgt := 25) hx hb dX6_look_68 (by decide) ?_
          exact ih  u26 _ _ _ hf K (lv_sub hl [0] rfl)
set_option maxRecDepth 100000 in
set_option maxHeartbeats 4000000 in
theorem pX6_look {l : Launch} (G : Gt) {r : Int32} {u u' : St} (hf : fX6_look u = some (r, u')) : Ctr 0 76 l yX6_look cX6_look 2 (some .int) rmX6_look [.ref (G.1 1)] G u (some (.int r)) u' := by
  refine Ctr.mk (by decide) (Nat.le_of_ble_eq_true rfl) (fun p e s m below meth c A ls B K hl => ?_)
  have F := B.1
  have hx := F.1
  have hb := F.2.1
  have hl : lv_has ls 2 [(0, .ref (G.1 1))] := hl
  unfold fX6_look at hf
  refine lv_aload_n hx hb dX6_look_0 rfl (lv_at hl 0 rfl) ?_
  refine ok_int F K fX6_20 dX6_look_1 ?_
  refine lv_if_eq (pc := 4) (tgt := 12) hx hb dX6_look_4 (by decide) (fun c27 => ?_) (fun c27 => ?_)
  · have hf := g_pos hf c27
    refine lv_aload_n hx hb dX6_look_12 rfl (lv_at hl 0 rfl) ?_
    refine lv_iconst (v := 1) hx hb dX6_look_13 kI_1 ?_
    refine ok_putZ F K qX6_20 (Or.inr rfl) dX6_look_14 (fun u28 H locs eu28 K => ?_)
    have hf := g_lt hf u28 eu28
    refine lv_aload_n hx hb dX6_look_17 rfl (lv_at hl 0 rfl) ?_
    refine lv_aload_n hx hb dX6_look_18 rfl (lv_at hl 0 rfl) ?_
    refine ok_int F K fX6_17 dX6_look_19 ?_
    refine ok_putI F K qX6_27 dX6_look_22 (fun u29 H locs eu29 K => ?_)
    have hf := g_lt hf u29 eu29
    exact (pX6_look_L0  B FU)  u29 _ _ _ hf K (lv_sub hl [0] rfl)
  · have hf := g_neg hf c27
    refine lv_aload_n hx hb dX6_look_7 rfl (lv_at hl 0 rfl) ?_
    refine ok_int F K fX6_24 dX6_look_8 ?_
    exact ok_reti B K hf dX6_look_11
abbrev rmX2_fail : Room := { frames := 0, cells := 0, slots := 0, locals := 0 }
set_option maxRecDepth 100000 in
set_option maxHeartbeats 4000000 in
theorem pX2_fail {l : Launch} (G : Gt) {a0 : Int32} {a1 : Int32} {u u' : St} (hf : fX2_fail a0 a1 u = some u') : Ctr 0 76 l yX2_fail cX2_fail 3 none rmX2_fail [.ref (G.1 4), .int a0, .int a1] G u none u' := by
  refine Ctr.mk (by decide) (Nat.le_of_ble_eq_true rfl) (fun p e s m below meth c A ls B K hl => ?_)
  have F := B.1
  have hx := F.1
  have hb := F.2.1
  have hl : lv_has ls 3 [(0, .ref (G.1 4)), (1, .int a0), (2, .int a1)] := hl
  unfold fX2_fail at hf
  refine lv_aload_n hx hb dX2_fail_0 rfl (lv_at hl 0 rfl) ?_
  refine ok_int F K fX2_32 dX2_fail_1 ?_
  refine lv_if_ne (pc := 4) (tgt := 17) hx hb dX2_fail_4 (by decide) (fun c1 => ?_) (fun c1 => ?_)
  · have hf := g_neg hf c1
    exact ok_retv B K hf dX2_fail_17
  · have hf := g_pos hf c1
    refine lv_aload_n hx hb dX2_fail_7 rfl (lv_at hl 0 rfl) ?_
    refine lv_iload_n hx hb dX2_fail_8 rfl (lv_at hl 1 rfl) ?_
    refine ok_putI F K qX2_32 dX2_fail_9 (fun u2 H locs eu2 K => ?_)
    have hf := g_lt hf u2 eu2
    refine lv_aload_n hx hb dX2_fail_12 rfl (lv_at hl 0 rfl) ?_
    refine lv_iload_n hx hb dX2_fail_13 rfl (lv_at hl 2 rfl) ?_
    refine ok_putI F K qX2_35 dX2_fail_14 (fun u3 H locs eu3 K => ?_)
    have hf := g_lt hf u3 eu3
    exact ok_retv B K hf dX2_fail_17
abbrev rmX2_next : Room := { frames := 6, cells := 0, slots := 0, locals := 190 }
set_option maxRecDepth 100000 in
set_option maxHeartbeats 4000000 in
theorem pX2_next {l : Launch} (G : Gt) {r : Int32} {u u' : St} (hf : fX2_next u = some (r, u')) : Ctr 0 76 l yX2_next cX2_next 2 (some .int) rmX2_next [.ref (G.1 4)] G u (some (.int r)) u' := by
  refine Ctr.mk (by decide) (Nat.le_of_ble_eq_true rfl) (fun p e s m below meth c A ls B K hl => ?_)
  have F := B.1
  have hx := F.1
  have hb := F.2.1
  have hl : lv_has ls 2 [(0, .ref (G.1 4))] := hl
  unfold fX2_next at hf
  refine lv_aload_n hx hb dX2_next_0 rfl (lv_at hl 0 rfl) ?_
  refine ok_int F K fX2_32 dX2_next_1 ?_
  refine lv_if_eq (pc := 4) (tgt := 9) hx hb dX2_next_4 (by decide) (fun c1 => ?_) (fun c1 => ?_)
  · have hf := g_pos hf c1
    refine lv_aload_n hx hb dX2_next_9 rfl (lv_at hl 0 rfl) ?_
    refine ok_ref F K fX2_9 dX2_next_10 ?_
    obtain ⟨r3, u2, hu2, hf⟩ := g_b2 hf
    refine ok_calli (rest := []) F K (pX6_look G hu2) mX6_look oc1 lX2_38 rfl hl.1 rfl ⟨⟨rfl, rfl⟩, Nat.le_of_ble_eq_true rfl, Nat.le_of_ble_eq_true rfl⟩ (Nat.le_of_ble_eq_true rfl) dX2_next_13 (fun H locs K => ?_)
    refine lv_istore_n (lv' := [(1, .int r3), (0, .ref (G.1 4))]) hx hb dX2_next_16 rfl hl (by decide) rfl (fun ls hl => ?_)
    refine lv_iload_n hx hb dX2_next_17 rfl (lv_at hl 0 rfl) ?_
    refine lv_if_ne (pc := 18) (tgt := 35) hx hb dX2_next_18 (by decide) (fun c4 => ?_) (fun c4 => ?_)
    · have hf := g_neg hf c4
      refine lv_iload_n hx hb dX2_next_35 rfl (lv_at hl 0 rfl) ?_
      exact ok_reti B K hf dX2_next_36
    · have hf := g_pos hf c4
      refine lv_aload_n hx hb dX2_next_21 rfl (lv_at hl 1 rfl) ?_
      refine lv_iconst (v := 1) hx hb dX2_next_22 kI_1 ?_
      refine lv_aload_n hx hb dX2_next_23 rfl (lv_at hl 1 rfl) ?_
      refine ok_ref F K fX2_9 dX2_next_24 ?_
      refine ok_int F K fX2_42 dX2_next_27 ?_
      obtain ⟨u5, hu5, hf⟩ := g_bd hf
      refine ok_callv (rest := []) F K (pX2_fail G hu5) mX2_fail oc4 lX2_45 rfl hl.1 rfl ⟨⟨rfl, rfl⟩, Nat.le_of_ble_eq_true rfl, Nat.le_of_ble_eq_true rfl⟩ (Nat.le_of_ble_eq_true rfl) dX2_next_30 (fun H locs K => ?_)
      refine lv_iconst (v := 1) hx hb dX2_next_33 kI_1 ?_
      exact ok_reti B K hf dX2_next_34
  · have hf := g_neg hf c1
    refine lv_iconst (v := 1) hx hb dX2_next_7 kI_1 ?_
    exact ok_reti B K hf dX2_next_8
abbrev rmX7_begin : Room := { frames := 0, cells := 0, slots := 0, locals := 0 }
set_option maxRecDepth 100000 in
set_option maxHeartbeats 4000000 in
theorem pX7_begin {l : Launch} (G : Gt) {u u' : St} (hf : fX7_begin u = some u') : Ctr 0 76 l yX7_begin cX7_begin 1 none rmX7_begin [.ref (G.1 3)] G u none u' := by
  refine Ctr.mk (by decide) (Nat.le_of_ble_eq_true rfl) (fun p e s m below meth c A ls B K hl => ?_)
  have F := B.1
  have hx := F.1
  have hb := F.2.1
  have hl : lv_has ls 1 [(0, .ref (G.1 3))] := hl
  unfold fX7_begin at hf
  refine lv_aload_n hx hb dX7_begin_0 rfl (lv_at hl 0 rfl) ?_
  refine lv_iconst (v := 0) hx hb dX7_begin_1 kI_0 ?_
  refine ok_putI F K qX7_41 dX7_begin_2 (fun u1 H locs eu1 K => ?_)
  have hf := g_lt hf u1 eu1
  refine lv_aload_n hx hb dX7_begin_5 rfl (lv_at hl 0 rfl) ?_
  refine lv_iconst (v := 0) hx hb dX7_begin_6 kI_0 ?_
  refine ok_putI F K qX7_45 dX7_begin_7 (fun u2 H locs eu2 K => ?_)
  have hf := g_lt hf u2 eu2
  refine lv_aload_n hx hb dX7_begin_10 rfl (lv_at hl 0 rfl) ?_
  refine lv_iconst (v := 0) hx hb dX7_begin_11 kI_0 ?_
  refine ok_putI F K qX7_48 dX7_begin_12 (fun u3 H locs eu3 K => ?_)
  have hf := g_lt hf u3 eu3
  refine lv_aload_n hx hb dX7_begin_15 rfl (lv_at hl 0 rfl) ?_
  refine lv_iconst (v := 0) hx hb dX7_begin_16 kI_0 ?_
  refine ok_putI F K qX7_51 dX7_begin_17 (fun u4 H locs eu4 K => ?_)
  have hf := g_lt hf u4 eu4
  exact ok_retv B K hf dX7_begin_20
abbrev rmX6_take : Room := { frames := 0, cells := 0, slots := 0, locals := 0 }
set_option maxRecDepth 100000 in
set_option maxHeartbeats 4000000 in
theorem pX6_take {l : Launch} (G : Gt) {u u' : St} (hf : fX6_take u = some u') : Ctr 0 76 l yX6_take cX6_take 1 none rmX6_take [.ref (G.1 1)] G u none u' := by
  refine Ctr.mk (by decide) (Nat.le_of_ble_eq_true rfl) (fun p e s m below meth c A ls B K hl => ?_)
  have F := B.1
  have hx := F.1
  have hb := F.2.1
  have hl : lv_has ls 1 [(0, .ref (G.1 1))] := hl
  unfold fX6_take at hf
  refine lv_aload_n hx hb dX6_take_0 rfl (lv_at hl 0 rfl) ?_
  refine lv_iconst (v := 0) hx hb dX6_take_1 kI_0 ?_
  refine ok_putZ F K qX6_20 (Or.inl rfl) dX6_take_2 (fun u1 H locs eu1 K => ?_)
  have hf := g_lt hf u1 eu1
  exact ok_retv B K hf dX6_take_5
abbrev rmX2_opens : Room := { frames := 1, cells := 0, slots := 0, locals := 22 }
set_option maxRecDepth 100000 in
set_option maxHeartbeats 4000000 in
theorem pX2_opens {l : Launch} (G : Gt) {r : Int32} {u u' : St} (hf : fX2_opens u = some (r, u')) : Ctr 0 76 l yX2_opens cX2_opens 1 (some .boolean) rmX2_opens [.ref (G.1 4)] G u (some (.int r)) u' := by
  refine Ctr.mk (by decide) (Nat.le_of_ble_eq_true rfl) (fun p e s m below meth c A ls B K hl => ?_)
  have F := B.1
  have hx := F.1
  have hb := F.2.1
  have hl : lv_has ls 1 [(0, .ref (G.1 4))] := hl
  unfold fX2_opens at hf
  refine lv_aload_n hx hb dX2_opens_0 rfl (lv_at hl 0 rfl) ?_
  refine ok_int F K fX2_28 dX2_opens_1 ?_
  refine lv_bipush (v := 30) hx hb dX2_opens_4 kB_30 ?_
  refine lv_icmp_lt (pc := 6) (tgt := 24) hx hb dX2_opens_6 (by decide) (fun c1 => ?_) (fun c1 => ?_)
  · have hf := g_pos hf c1
    refine lv_aload_n hx hb dX2_opens_24 rfl (lv_at hl 0 rfl) ?_
    refine lv_dup hx hb dX2_opens_25 rfl ?_
    refine ok_int F K fX2_28 dX2_opens_26 ?_
    refine lv_iconst (v := 1) hx hb dX2_opens_29 kI_1 ?_
    refine lv_iadd hx hb dX2_opens_30 ?_
    refine ok_putI F K qX2_28 dX2_opens_31 (fun u2 H locs eu2 K => ?_)
    have hf := g_lt hf u2 eu2
    refine lv_aload_n hx hb dX2_opens_34 rfl (lv_at hl 0 rfl) ?_
    refine ok_ref F K fX2_9 dX2_opens_35 ?_
    obtain ⟨u3, hu3, hf⟩ := g_bd hf
    refine ok_callv (rest := []) F K (pX6_take G hu3) mX6_take oc1 lX2_52 rfl hl.1 rfl ⟨⟨rfl, rfl⟩, Nat.le_of_ble_eq_true rfl, Nat.le_of_ble_eq_true rfl⟩ (Nat.le_of_ble_eq_true rfl) dX2_opens_38 (fun H locs K => ?_)
    refine lv_iconst (v := 1) hx hb dX2_opens_41 kI_1 ?_
    exact ok_retz B K hf (Or.inr rfl) dX2_opens_42
  · have hf := g_neg hf c1
    refine lv_aload_n hx hb dX2_opens_9 rfl (lv_at hl 0 rfl) ?_
    refine lv_bipush (v := 6) hx hb dX2_opens_10 kB_6 ?_
    refine lv_aload_n hx hb dX2_opens_12 rfl (lv_at hl 0 rfl) ?_
    refine ok_ref F K fX2_9 dX2_opens_13 ?_
    refine ok_int F K fX2_42 dX2_opens_16 ?_
    obtain ⟨u4, hu4, hf⟩ := g_bd hf
    refine ok_callv (rest := []) F K (pX2_fail G hu4) mX2_fail oc4 lX2_45 rfl hl.1 rfl ⟨⟨rfl, rfl⟩, Nat.le_of_ble_eq_true rfl, Nat.le_of_ble_eq_true rfl⟩ (Nat.le_of_ble_eq_true rfl) dX2_opens_19 (fun H locs K => ?_)
    refine lv_iconst (v := 0) hx hb dX2_opens_22 kI_0 ?_
    exact ok_retz B K hf (Or.inl rfl) dX2_opens_23
abbrev rmX7_weigh : Room := { frames := 0, cells := 0, slots := 0, locals := 0 }
set_option maxRecDepth 100000 in
set_option maxHeartbeats 4000000 in
theorem pX7_weigh {l : Launch} (G : Gt) {a0 : Int32} {a1 : Int32} {a2 : Int32} {r : Int32} {u u' : St} (hf : fX7_weigh a0 a1 a2 u = some (r, u')) : Ctr 0 76 l yX7_weigh cX7_weigh 4 (some .int) rmX7_weigh [.ref (G.1 3), .int a0, .int a1, .int a2] G u (some (.int r)) u' := by
  refine Ctr.mk (by decide) (Nat.le_of_ble_eq_true rfl) (fun p e s m below meth c A ls B K hl => ?_)
  have F := B.1
  have hx := F.1
  have hb := F.2.1
  have hl : lv_has ls 4 [(0, .ref (G.1 3)), (1, .int a0), (2, .int a1), (3, .int a2)] := hl
  unfold fX7_weigh at hf
  refine lv_iload_n hx hb dX7_weigh_0 rfl (lv_at hl 1 rfl) ?_
  by_cases c1 : a0 = 0
  · have hf := g_pos hf c1
    refine lv_tableInE (pc := 1) (K := 0) (off := 47) (tgt := 48) hx hb dX7_weigh_1 c1 (by decide) (by decide) rfl (by decide) ?_
    refine lv_iload_n hx hb dX7_weigh_48 rfl (lv_at hl 3 rfl) ?_
    refine lv_iload_n hx hb dX7_weigh_49 rfl (lv_at hl 2 rfl) ?_
    refine lv_isub hx hb dX7_weigh_50 ?_
    exact ok_reti B K hf dX7_weigh_51
  · have hf := g_neg hf c1
    by_cases c2 : a0 = 1
    · have hf := g_pos hf c2
      refine lv_tableInE (pc := 1) (K := 1) (off := 51) (tgt := 52) hx hb dX7_weigh_1 c2 (by decide) (by decide) rfl (by decide) ?_
      refine lv_aload_n hx hb dX7_weigh_52 rfl (lv_at hl 0 rfl) ?_
      refine ok_ref F K fX7_21 dX7_weigh_53 ?_
      refine lv_iload_n hx hb dX7_weigh_56 rfl (lv_at hl 2 rfl) ?_
      obtain ⟨v3, hv3, hf⟩ := g_bd hf
      refine ok_iald F K t36 hv3 dX7_weigh_57 ?_
      exact ok_reti B K hf dX7_weigh_58
    · have hf := g_neg hf c2
      by_cases c4 : a0 = 2
      · have hf := g_pos hf c4
        refine lv_tableInE (pc := 1) (K := 2) (off := 83) (tgt := 84) hx hb dX7_weigh_1 c4 (by decide) (by decide) rfl (by decide) ?_
        refine lv_aload_n hx hb dX7_weigh_84 rfl (lv_at hl 0 rfl) ?_
        refine ok_ref F K fX7_21 dX7_weigh_85 ?_
        refine lv_iload_n hx hb dX7_weigh_88 rfl (lv_at hl 2 rfl) ?_
        obtain ⟨v5, hv5, hf⟩ := g_bd hf
        refine ok_iald F K t36 hv5 dX7_weigh_89 ?_
        refine lv_aload_n hx hb dX7_weigh_90 rfl (lv_at hl 0 rfl) ?_
        refine ok_ref F K fX7_21 dX7_weigh_91 ?_
        refine lv_iload_n hx hb dX7_weigh_94 rfl (lv_at hl 3 rfl) ?_
        obtain ⟨v6, hv6, hf⟩ := g_bd hf
        refine ok_iald F K t36 hv6 dX7_weigh_95 ?_
        refine lv_iadd hx hb dX7_weigh_96 ?_
        exact ok_reti B K hf dX7_weigh_97
      · have hf := g_neg hf c4
        by_cases c7 : a0 = 3
        · have hf := g_pos hf c7
          refine lv_tableInE (pc := 1) (K := 3) (off := 83) (tgt := 84) hx hb dX7_weigh_1 c7 (by decide) (by decide) rfl (by decide) ?_
          refine lv_aload_n hx hb dX7_weigh_84 rfl (lv_at hl 0 rfl) ?_
          refine ok_ref F K fX7_21 dX7_weigh_85 ?_
          refine lv_iload_n hx hb dX7_weigh_88 rfl (lv_at hl 2 rfl) ?_
          obtain ⟨v8, hv8, hf⟩ := g_bd hf
          refine ok_iald F K t36 hv8 dX7_weigh_89 ?_
          refine lv_aload_n hx hb dX7_weigh_90 rfl (lv_at hl 0 rfl) ?_
          refine ok_ref F K fX7_21 dX7_weigh_91 ?_
          refine lv_iload_n hx hb dX7_weigh_94 rfl (lv_at hl 3 rfl) ?_
          obtain ⟨v9, hv9, hf⟩ := g_bd hf
          refine ok_iald F K t36 hv9 dX7_weigh_95 ?_
          refine lv_iadd hx hb dX7_weigh_96 ?_
          exact ok_reti B K hf dX7_weigh_97
        · have hf := g_neg hf c7
          by_cases c10 : a0 = 4
          · have hf := g_pos hf c10
            refine lv_tableInE (pc := 1) (K := 4) (off := 83) (tgt := 84) hx hb dX7_weigh_1 c10 (by decide) (by decide) rfl (by decide) ?_
            refine lv_aload_n hx hb dX7_weigh_84 rfl (lv_at hl 0 rfl) ?_
            refine ok_ref F K fX7_21 dX7_weigh_85 ?_
            refine lv_iload_n hx hb dX7_weigh_88 rfl (lv_at hl 2 rfl) ?_
            obtain ⟨v11, hv11, hf⟩ := g_bd hf
            refine ok_iald F K t36 hv11 dX7_weigh_89 ?_
            refine lv_aload_n hx hb dX7_weigh_90 rfl (lv_at hl 0 rfl) ?_
            refine ok_ref F K fX7_21 dX7_weigh_91 ?_
            refine lv_iload_n hx hb dX7_weigh_94 rfl (lv_at hl 3 rfl) ?_
            obtain ⟨v12, hv12, hf⟩ := g_bd hf
            refine ok_iald F K t36 hv12 dX7_weigh_95 ?_
            refine lv_iadd hx hb dX7_weigh_96 ?_
            exact ok_reti B K hf dX7_weigh_97
          · have hf := g_neg hf c10
            by_cases c13 : a0 = 5
            · have hf := g_pos hf c13
              refine lv_tableInE (pc := 1) (K := 5) (off := 67) (tgt := 68) hx hb dX7_weigh_1 c13 (by decide) (by decide) rfl (by decide) ?_
              refine lv_iconst (v := 2) hx hb dX7_weigh_68 kI_2 ?_
              refine lv_aload_n hx hb dX7_weigh_69 rfl (lv_at hl 0 rfl) ?_
              refine ok_ref F K fX7_21 dX7_weigh_70 ?_
              refine lv_iload_n hx hb dX7_weigh_73 rfl (lv_at hl 2 rfl) ?_
              obtain ⟨v14, hv14, hf⟩ := g_bd hf
              refine ok_iald F K t36 hv14 dX7_weigh_74 ?_
              refine lv_aload_n hx hb dX7_weigh_75 rfl (lv_at hl 0 rfl) ?_
              refine ok_ref F K fX7_21 dX7_weigh_76 ?_
              refine lv_iload_n hx hb dX7_weigh_79 rfl (lv_at hl 3 rfl) ?_
              obtain ⟨v15, hv15, hf⟩ := g_bd hf
              refine ok_iald F K t36 hv15 dX7_weigh_80 ?_
              refine lv_iadd hx hb dX7_weigh_81 ?_
              refine lv_imul hx hb dX7_weigh_82 ?_
              exact ok_reti B K hf dX7_weigh_83
            · have hf := g_neg hf c13
              by_cases c16 : a0 = 6
              · have hf := g_pos hf c16
                refine lv_tableInE (pc := 1) (K := 6) (off := 58) (tgt := 59) hx hb dX7_weigh_1 c16 (by decide) (by decide) rfl (by decide) ?_
                refine lv_iconst (v := 1) hx hb dX7_weigh_59 kI_1 ?_
                refine lv_aload_n hx hb dX7_weigh_60 rfl (lv_at hl 0 rfl) ?_
                refine ok_ref F K fX7_21 dX7_weigh_61 ?_
                refine lv_iload_n hx hb dX7_weigh_64 rfl (lv_at hl 3 rfl) ?_
                obtain ⟨v17, hv17, hf⟩ := g_bd hf
                refine ok_iald F K t36 hv17 dX7_weigh_65 ?_
                refine lv_iadd hx hb dX7_weigh_66 ?_
                exact ok_reti B K hf dX7_weigh_67
              · have hf := g_neg hf c16
                by_cases c18 : a0 = 7
                · have hf := g_pos hf c18
                  refine lv_tableInE (pc := 1) (K := 7) (off := 58) (tgt := 59) hx hb dX7_weigh_1 c18 (by decide) (by decide) rfl (by decide) ?_
                  refine lv_iconst (v := 1) hx hb dX7_weigh_59 kI_1 ?_
                  refine lv_aload_n hx hb dX7_weigh_60 rfl (lv_at hl 0 rfl) ?_
                  refine ok_ref F K fX7_21 dX7_weigh_61 ?_
                  refine lv_iload_n hx hb dX7_weigh_64 rfl (lv_at hl 3 rfl) ?_
                  obtain ⟨v19, hv19, hf⟩ := g_bd hf
                  refine ok_iald F K t36 hv19 dX7_weigh_65 ?_
                  refine lv_iadd hx hb dX7_weigh_66 ?_
                  exact ok_reti B K hf dX7_weigh_67
                · have hf := g_neg hf c18
                  refine lv_tableOut (pc := 1) (tgt := 84) hx hb dX7_weigh_1 (sw_out a0 0 7 (fun k h1 h2 => by have h3 : k = 0 ∨ k = 1 ∨ k = 2 ∨ k = 3 ∨ k = 4 ∨ k = 5 ∨ k = 6 ∨ k = 7 := (by omega); rcases h3 with rfl | rfl | rfl | rfl | rfl | rfl | rfl | rfl <;> simp only [kI_0, kI_1, kI_2, kI_3, kI_4, kI_5, kI_6, kI_7] <;> assumption)) (by decide) ?_
                  refine lv_aload_n hx hb dX7_weigh_84 rfl (lv_at hl 0 rfl) ?_
                  refine ok_ref F K fX7_21 dX7_weigh_85 ?_
                  refine lv_iload_n hx hb dX7_weigh_88 rfl (lv_at hl 2 rfl) ?_
                  obtain ⟨v20, hv20, hf⟩ := g_bd hf
                  refine ok_iald F K t36 hv20 dX7_weigh_89 ?_
                  refine lv_aload_n hx hb dX7_weigh_90 rfl (lv_at hl 0 rfl) ?_
                  refine ok_ref F K fX7_21 dX7_weigh_91 ?_
                  refine lv_iload_n hx hb dX7_weigh_94 rfl (lv_at hl 3 rfl) ?_
                  obtain ⟨v21, hv21, hf⟩ := g_bd hf
                  refine ok_iald F K t36 hv21 dX7_weigh_95 ?_
                  refine lv_iadd hx hb dX7_weigh_96 ?_
                  exact ok_reti B K hf dX7_weigh_97
abbrev rmX7_add : Room := { frames := 1, cells := 0, slots := 0, locals := 80 }
set_option maxRecDepth 100000 in
set_option maxHeartbeats 4000000 in
theorem pX7_add {l : Launch} (G : Gt) {a0 : Int32} {a1 : Int32} {a2 : Int32} {r : Int32} {u u' : St} (hf : fX7_add a0 a1 a2 u = some (r, u')) : Ctr 0 76 l yX7_add cX7_add 4 (some .int) rmX7_add [.ref (G.1 3), .int a0, .int a1, .int a2] G u (some (.int r)) u' := by
  refine Ctr.mk (by decide) (Nat.le_of_ble_eq_true rfl) (fun p e s m below meth c A ls B K hl => ?_)
  have F := B.1
  have hx := F.1
  have hb := F.2.1
  have hl : lv_has ls 4 [(0, .ref (G.1 3)), (1, .int a0), (2, .int a1), (3, .int a2)] := hl
  unfold fX7_add at hf
  refine lv_aload_n hx hb dX7_add_0 rfl (lv_at hl 0 rfl) ?_
  refine ok_int F K fX7_41 dX7_add_1 ?_
  refine lv_sipush (v := 1501) hx hb dX7_add_4 kS_1501 ?_
  refine lv_icmp_lt (pc := 7) (tgt := 12) hx hb dX7_add_7 (by decide) (fun c1 => ?_) (fun c1 => ?_)
  · have hf := g_pos hf c1
    refine lv_aload_n hx hb dX7_add_12 rfl (lv_at hl 0 rfl) ?_
    refine ok_ref F K fX7_11 dX7_add_13 ?_
    refine lv_aload_n hx hb dX7_add_16 rfl (lv_at hl 0 rfl) ?_
    refine ok_int F K fX7_41 dX7_add_17 ?_
    refine lv_iload_n hx hb dX7_add_20 rfl (lv_at hl 1 rfl) ?_
    obtain ⟨u2, hu2, hf⟩ := g_bd hf
    refine ok_iast F K t33 hu2 dX7_add_21 (fun H locs K => ?_)
    refine lv_aload_n hx hb dX7_add_22 rfl (lv_at hl 0 rfl) ?_
    refine ok_ref F K fX7_15 dX7_add_23 ?_
    refine lv_aload_n hx hb dX7_add_26 rfl (lv_at hl 0 rfl) ?_
    refine ok_int F K fX7_41 dX7_add_27 ?_
    refine lv_iload_n hx hb dX7_add_30 rfl (lv_at hl 2 rfl) ?_
    obtain ⟨u3, hu3, hf⟩ := g_bd hf
    refine ok_iast F K t34 hu3 dX7_add_31 (fun H locs K => ?_)
    refine lv_aload_n hx hb dX7_add_32 rfl (lv_at hl 0 rfl) ?_
    refine ok_ref F K fX7_18 dX7_add_33 ?_
    refine lv_aload_n hx hb dX7_add_36 rfl (lv_at hl 0 rfl) ?_
    refine ok_int F K fX7_41 dX7_add_37 ?_
    refine lv_iload_n hx hb dX7_add_40 rfl (lv_at hl 3 rfl) ?_
    obtain ⟨u4, hu4, hf⟩ := g_bd hf
    refine ok_iast F K t35 hu4 dX7_add_41 (fun H locs K => ?_)
    refine lv_aload_n hx hb dX7_add_42 rfl (lv_at hl 0 rfl) ?_
    refine ok_ref F K fX7_21 dX7_add_43 ?_
    refine lv_aload_n hx hb dX7_add_46 rfl (lv_at hl 0 rfl) ?_
    refine ok_int F K fX7_41 dX7_add_47 ?_
    refine lv_ldc (v := 1000000) hx hb F.2.2.2.1 (F.2.2.2.2 _ kcX7_58) dX7_add_50 ?_
    refine lv_aload_n hx hb dX7_add_52 rfl (lv_at hl 0 rfl) ?_
    refine lv_iload_n hx hb dX7_add_53 rfl (lv_at hl 1 rfl) ?_
    refine lv_iload_n hx hb dX7_add_54 rfl (lv_at hl 2 rfl) ?_
    refine lv_iload_n hx hb dX7_add_55 rfl (lv_at hl 3 rfl) ?_
    obtain ⟨r6, u5, hu5, hf⟩ := g_b2 hf
    refine ok_calli (rest := [.int 1000000, .int (gI u4 3 4), .ref (G.1 36)]) F K (pX7_weigh G hu5) mX7_weigh oc3 lX7_59 rfl hl.1 rfl ⟨⟨rfl, rfl⟩, Nat.le_of_ble_eq_true rfl, Nat.le_of_ble_eq_true rfl⟩ (Nat.le_of_ble_eq_true rfl) dX7_add_56 (fun H locs K => ?_)
    refine ok_mmin F hl.1 lX7_63 wMin ⟨Nat.le_of_ble_eq_true rfl, Nat.le_of_ble_eq_true rfl⟩ dX7_add_59 ?_
    obtain ⟨u7, hu7, hf⟩ := g_bd hf
    refine ok_iast F K t36 hu7 dX7_add_62 (fun H locs K => ?_)
    refine lv_aload_n hx hb dX7_add_63 rfl (lv_at hl 0 rfl) ?_
    refine lv_dup hx hb dX7_add_64 rfl ?_
    refine ok_int F K fX7_41 dX7_add_65 ?_
    refine lv_iconst (v := 1) hx hb dX7_add_68 kI_1 ?_
    refine lv_iadd hx hb dX7_add_69 ?_
    refine ok_putI F K qX7_41 dX7_add_70 (fun u8 H locs eu8 K => ?_)
    have hf := g_lt hf u8 eu8
    refine lv_aload_n hx hb dX7_add_73 rfl (lv_at hl 0 rfl) ?_
    refine ok_int F K fX7_41 dX7_add_74 ?_
    refine lv_iconst (v := 1) hx hb dX7_add_77 kI_1 ?_
    refine lv_isub hx hb dX7_add_78 ?_
    exact ok_reti B K hf dX7_add_79
  · have hf := g_neg hf c1
    refine lv_iconst (v := 0) hx hb dX7_add_10 kI_0 ?_
    exact ok_reti B K hf dX7_add_11
abbrev rmX2_want : Room := { frames := 7, cells := 0, slots := 0, locals := 211 }
set_option maxRecDepth 100000 in
set_option maxHeartbeats 4000000 in
theorem pX2_want {l : Launch} (G : Gt) {a0 : Int32} {r : Int32} {u u' : St} (hf : fX2_want a0 u = some (r, u')) : Ctr 0 76 l yX2_want cX2_want 2 (some .boolean) rmX2_want [.ref (G.1 4), .int a0] G u (some (.int r)) u' := by
  refine Ctr.mk (by decide) (Nat.le_of_ble_eq_true rfl) (fun p e s m below meth c A ls B K hl => ?_)
  have F := B.1
  have hx := F.1
  have hb := F.2.1
  have hl : lv_has ls 2 [(0, .ref (G.1 4)), (1, .int a0)] := hl
  unfold fX2_want at hf
  refine lv_aload_n hx hb dX2_want_0 rfl (lv_at hl 0 rfl) ?_
  obtain ⟨r2, u1, hu1, hf⟩ := g_b2 hf
  refine ok_calli (rest := []) F K (pX2_next G hu1) mX2_next oc4 lX2_49 rfl hl.1 rfl ⟨⟨rfl, rfl⟩, Nat.le_of_ble_eq_true rfl, Nat.le_of_ble_eq_true rfl⟩ (Nat.le_of_ble_eq_true rfl) dX2_want_1 (fun H locs K => ?_)
  refine lv_iload_n hx hb dX2_want_4 rfl (lv_at hl 1 rfl) ?_
  refine lv_icmp_eq (pc := 5) (tgt := 22) hx hb dX2_want_5 (by decide) (fun c3 => ?_) (fun c3 => ?_)
  · have hf := g_pos hf c3
    refine lv_aload_n hx hb dX2_want_22 rfl (lv_at hl 0 rfl) ?_
    refine ok_ref F K fX2_9 dX2_want_23 ?_
    obtain ⟨u4, hu4, hf⟩ := g_bd hf
    refine ok_callv (rest := []) F K (pX6_take G hu4) mX6_take oc1 lX2_52 rfl hl.1 rfl ⟨⟨rfl, rfl⟩, Nat.le_of_ble_eq_true rfl, Nat.le_of_ble_eq_true rfl⟩ (Nat.le_of_ble_eq_true rfl) dX2_want_26 (fun H locs K => ?_)
    refine lv_iconst (v := 1) hx hb dX2_want_29 kI_1 ?_
    exact ok_retz B K hf (Or.inr rfl) dX2_want_30
  · have hf := g_neg hf c3
    refine lv_aload_n hx hb dX2_want_8 rfl (lv_at hl 0 rfl) ?_
    refine lv_iconst (v := 2) hx hb dX2_want_9 kI_2 ?_
    refine lv_aload_n hx hb dX2_want_10 rfl (lv_at hl 0 rfl) ?_
    refine ok_ref F K fX2_9 dX2_want_11 ?_
    refine ok_int F K fX2_42 dX2_want_14 ?_
    obtain ⟨u5, hu5, hf⟩ := g_bd hf
    refine ok_callv (rest := []) F K (pX2_fail G hu5) mX2_fail oc4 lX2_45 rfl hl.1 rfl ⟨⟨rfl, rfl⟩, Nat.le_of_ble_eq_true rfl, Nat.le_of_ble_eq_true rfl⟩ (Nat.le_of_ble_eq_true rfl) dX2_want_17 (fun H locs K => ?_)
    refine lv_iconst (v := 0) hx hb dX2_want_20 kI_0 ?_
    exact ok_retz B K hf (Or.inl rfl) dX2_want_21
abbrev rmX7_variable : Room := { frames := 0, cells := 0, slots := 0, locals := 0 }
set_option maxRecDepth 100000 in
set_option maxHeartbeats 4000000 in
theorem pX7_variable_L0 {p : Program} {l : Launch} {e : Env} {s : State} {m : MethodId} {below : List Frame} {meth : Method} {c : Code} {A : Nat → Prop} {G : Gt} {a0 : Int64} {r : Int32} {u' : St} (B : Bd p s m [.ref (G.1 3), .long a0] meth c yX7_variable cX7_variable 4 (some .int)) (n : Nat) : (∀ (x1_ : Int64) (x3_ : Int32) (u : St) (H : Heap) (locs : List Loc) (ls : Array Slot), fX7_variable_L0  n 0 x1_ x3_ u = some (r, u') → Ok 0 76 G A s u H locs → lv_has ls 4 [(0, .ref (G.1 3)), (1, .long x1_), (3, .int x3_)] → W p l e rmX7_variable s m ([.ref (G.1 3), .long a0] : List Value).toArray below meth c H locs 0 0 (MQ below (Qg 0 76 G A (some (.int r)) u') ([.ref (G.1 3), .long a0] : List Value).toArray s 0 0 A) (F0 m 2 ls [])) := by
  have F := B.1
  have hx := F.1
  have hb := F.2.1
  induction n with
  | zero => exact fun _ _ _ _ _ _ hf => g_no hf
  | succ n ih =>
    refine ?_
    · intro x1_ x3_ u H locs ls hf K hl
      have hf : fX7_variable_L0_0  (fX7_variable_L0  n) x1_ x3_ u = some (r, u') := hf
      unfold fX7_variable_L0_0 at hf
      refine lv_iload_n hx hb dX7_variable_2 rfl (lv_at hl 2 rfl) ?_
      refine lv_aload_n hx hb dX7_variable_3 rfl (lv_at hl 0 rfl) ?_
      refine ok_int F K fX7_48 dX7_variable_4 ?_
      refine lv_icmp_ge (pc := 7) (tgt := 29) hx hb dX7_variable_7 (by decide) (fun c1 => ?_) (fun c1 => ?_)
      · have hf := g_pos hf c1
        refine lv_aload_n hx hb dX7_variable_29 rfl (lv_at hl 0 rfl) ?_
        refine ok_int F K fX7_48 dX7_variable_30 ?_
        refine lv_sipush (v := 1501) hx hb dX7_variable_33 kS_1501 ?_
        refine lv_icmp_lt (pc := 36) (tgt := 41) hx hb dX7_variable_36 (by decide) (fun c2 => ?_) (fun c2 => ?_)
        · have hf := g_pos hf c2
          refine lv_aload_n hx hb dX7_variable_41 rfl (lv_at hl 0 rfl) ?_
          refine ok_ref F K fX7_27 dX7_variable_42 ?_
          refine lv_aload_n hx hb dX7_variable_45 rfl (lv_at hl 0 rfl) ?_
          refine ok_int F K fX7_48 dX7_variable_46 ?_
          refine lv_lload_n hx hb dX7_variable_49 rfl (lv_at hl 1 rfl) ?_
          obtain ⟨u3, hu3, hf⟩ := g_bd hf
          refine ok_last F K t38 hu3 dX7_variable_50 (fun H locs K => ?_)
          refine lv_aload_n hx hb dX7_variable_51 rfl (lv_at hl 0 rfl) ?_
          refine ok_ref F K fX7_31 dX7_variable_52 ?_
          refine lv_aload_n hx hb dX7_variable_55 rfl (lv_at hl 0 rfl) ?_
          refine ok_int F K fX7_48 dX7_variable_56 ?_
          refine lv_iconst (v := 0) hx hb dX7_variable_59 kI_0 ?_
          obtain ⟨u4, hu4, hf⟩ := g_bd hf
          refine ok_iast F K t39 hu4 dX7_variable_60 (fun H locs K => ?_)
          refine lv_aload_n hx hb dX7_variable_61 rfl (lv_at hl 0 rfl) ?_
          refine ok_ref F K fX7_34 dX7_variable_62 ?_
          refine lv_aload_n hx hb dX7_variable_65 rfl (lv_at hl 0 rfl) ?_
          refine ok_int F K fX7_48 dX7_variable_66 ?_
          refine lv_iconst (v := 0) hx hb dX7_variable_69 kI_0 ?_
          obtain ⟨u5, hu5, hf⟩ := g_bd hf
          refine ok_zast F K t40 (Or.inl rfl) hu5 dX7_variable_70 (fun H locs K => ?_)
          refine lv_aload_n hx hb dX7_variable_71 rfl (lv_at hl 0 rfl) ?_
          refine lv_dup hx hb dX7_variable_72 rfl ?_
          refine ok_int F K fX7_48 dX7_variable_73 ?_
          refine lv_iconst (v := 1) hx hb dX7_variable_76 kI_1 ?_
          refine lv_iadd hx hb dX7_variable_77 ?_
          refine ok_putI F K qX7_48 dX7_variable_78 (fun u6 H locs eu6 K => ?_)
          have hf := g_lt hf u6 eu6
          refine lv_aload_n hx hb dX7_variable_81 rfl (lv_at hl 0 rfl) ?_
          refine ok_int F K fX7_48 dX7_variable_82 ?_
          refine lv_iconst (v := 1) hx hb dX7_variable_85 kI_1 ?_
          refine lv_isub hx hb dX7_variable_86 ?_
          exact ok_reti B K hf dX7_variable_87
        · have hf := g_neg hf c2
          refine lv_iconst (v := 0) hx hb dX7_variable_39 kI_0 ?_
          exact ok_reti B K hf dX7_variable_40
      · have hf := g_neg hf c1
        refine lv_aload_n hx hb dX7_variable_10 rfl (lv_at hl 0 rfl) ?_
        refine ok_ref F K fX7_27 dX7_variable_11 ?_
        refine lv_iload_n hx hb dX7_variable_14 rfl (lv_at hl 2 rfl) ?_
        obtain ⟨v7, hv7, hf⟩ := g_bd hf
        refine ok_lald F K t38 hv7 dX7_variable_15 ?_
        refine lv_lload_n hx hb dX7_variable_16 rfl (lv_at hl 1 rfl) ?_
        refine W.lcmp hx hb dX7_variable_17 ?_
        refine lv_if_ne (pc := 18) (tgt := 23) hx hb dX7_variable_18 (by decide) (fun c8 => ?_) (fun c8 => ?_)
        · have hf := g_neg hf c8
          obtain ⟨x9, ex9⟩ : ∃ y : Int32, y = x3_ + 1 := ⟨_, rfl⟩
          have hf := g_lt hf x9 ex9
          refine lv_iinc (v := x9) (lv' := [(3, .int x9), (0, .ref (G.1 3)), (1, .long x1_)]) hx hb dX7_variable_23 hl (k := 2) rfl (by rw [kI_1, ex9]) (by decide) rfl (fun ls hl => ?_)
          refine lv_goto (pc := 26) (tgt := 2) hx hb dX7_variable_26 (by decide) ?_
          exact ih x1_ x9 u _ _ _ hf K (lv_sub hl [1, 2, 0] rfl)
        · have hf := g_pos hf c8
          refine lv_iload_n hx hb dX7_variable_21 rfl (lv_at hl 2 rfl) ?_
          exact ok_reti B K hf dX7_variable_22
set_option maxRecDepth 100000 in
set_option maxHeartbeats 4000000 in
theorem pX7_variable {l : Launch} (G : Gt) {a0 : Int64} {r : Int32} {u u' : St} (hf : fX7_variable a0 u = some (r, u')) : Ctr 0 76 l yX7_variable cX7_variable 4 (some .int) rmX7_variable [.ref (G.1 3), .long a0] G u (some (.int r)) u' := by
  refine Ctr.mk (by decide) (Nat.le_of_ble_eq_true rfl) (fun p e s m below meth c A ls B K hl => ?_)
  have F := B.1
  have hx := F.1
  have hb := F.2.1
  have hl : lv_has ls 4 [(0, .ref (G.1 3)), (1, .long a0)] := hl
  unfold fX7_variable at hf
  refine lv_iconst (v := 0) hx hb dX7_variable_0 kI_0 ?_
  refine lv_topi (fun x10 ex10 => ?_)
  have hf := g_lt hf x10 ex10
  refine lv_istore_n (lv' := [(3, .int x10), (0, .ref (G.1 3)), (1, .long a0)]) hx hb dX7_variable_1 rfl hl (by decide) rfl (fun ls hl => ?_)
  exact (pX7_variable_L0  B FU) a0 x10 u _ _ _ hf K (lv_sub hl [1, 2, 0] rfl)
abbrev rmX7_bind : Room := { frames := 0, cells := 0, slots := 0, locals := 0 }
set_option maxRecDepth 100000 in
set_option maxHeartbeats 4000000 in
theorem pX7_bind {l : Launch} (G : Gt) {a0 : Int32} {a1 : Int32} {u u' : St} (hf : fX7_bind a0 a1 u = some u') : Ctr 0 76 l yX7_bind cX7_bind 3 none rmX7_bind [.ref (G.1 3), .int a0, .int a1] G u none u' := by
  refine Ctr.mk (by decide) (Nat.le_of_ble_eq_true rfl) (fun p e s m below meth c A ls B K hl => ?_)
  have F := B.1
  have hx := F.1
  have hb := F.2.1
  have hl : lv_has ls 3 [(0, .ref (G.1 3)), (1, .int a0), (2, .int a1)] := hl
  unfold fX7_bind at hf
  refine lv_aload_n hx hb dX7_bind_0 rfl (lv_at hl 0 rfl) ?_
  refine ok_ref F K fX7_31 dX7_bind_1 ?_
  refine lv_iload_n hx hb dX7_bind_4 rfl (lv_at hl 1 rfl) ?_
  refine lv_dup2_11 hx hb dX7_bind_5 rfl rfl ?_
  obtain ⟨v1, hv1, hf⟩ := g_bd hf
  refine ok_iald F K t39 hv1 dX7_bind_6 ?_
  refine lv_iload_n hx hb dX7_bind_7 rfl (lv_at hl 2 rfl) ?_
  refine lv_iadd hx hb dX7_bind_8 ?_
  obtain ⟨u2, hu2, hf⟩ := g_bd hf
  refine ok_iast F K t39 hu2 dX7_bind_9 (fun H locs K => ?_)
  exact ok_retv B K hf dX7_bind_10
abbrev rmX4_symbol : Room := { frames := 0, cells := 0, slots := 0, locals := 0 }
set_option maxRecDepth 100000 in
set_option maxHeartbeats 4000000 in
theorem pX4_symbol_L0 {p : Program} {l : Launch} {e : Env} {s : State} {m : MethodId} {below : List Frame} {meth : Method} {c : Code} {A : Nat → Prop} {G : Gt} {a0 : Int64} {r : Int32} {u' : St} (B : Bd p s m [.ref (G.1 2), .long a0] meth c yX4_symbol cX4_symbol 4 (some .int)) (n : Nat) : (∀ (x1_ : Int64) (x3_ : Int32) (u : St) (H : Heap) (locs : List Loc) (ls : Array Slot), fX4_symbol_L0  n 0 x1_ x3_ u = some (r, u') → Ok 0 76 G A s u H locs → lv_has ls 4 [(0, .ref (G.1 2)), (1, .long x1_), (3, .int x3_)] → W p l e rmX4_symbol s m ([.ref (G.1 2), .long a0] : List Value).toArray below meth c H locs 0 0 (MQ below (Qg 0 76 G A (some (.int r)) u') ([.ref (G.1 2), .long a0] : List Value).toArray s 0 0 A) (F0 m 2 ls [])) := by
  have F := B.1
  have hx := F.1
  have hb := F.2.1
  induction n with
  | zero => exact fun _ _ _ _ _ _ hf => g_no hf
  | succ n ih =>
    refine ?_
    · intro x1_ x3_ u H locs ls hf K hl
      have hf : fX4_symbol_L0_0  (fX4_symbol_L0  n) x1_ x3_ u = some (r, u') := hf
      unfold fX4_symbol_L0_0 at hf
      refine lv_iload_n hx hb dX4_symbol_2 rfl (lv_at hl 2 rfl) ?_
      refine lv_aload_n hx hb dX4_symbol_3 rfl (lv_at hl 0 rfl) ?_
      refine ok_int F K fX4_45 dX4_symbol_4 ?_
      refine lv_icmp_ge (pc := 7) (tgt := 29) hx hb dX4_symbol_7 (by decide) (fun c1 => ?_) (fun c1 => ?_)
      · have hf := g_pos hf c1
        refine lv_aload_n hx hb dX4_symbol_29 rfl (lv_at hl 0 rfl) ?_
        refine ok_int F K fX4_45 dX4_symbol_30 ?_
        refine lv_sipush (v := 811) hx hb dX4_symbol_33 kS_811 ?_
        refine lv_icmp_lt (pc := 36) (tgt := 41) hx hb dX4_symbol_36 (by decide) (fun c2 => ?_) (fun c2 => ?_)
        · have hf := g_pos hf c2
          refine lv_aload_n hx hb dX4_symbol_41 rfl (lv_at hl 0 rfl) ?_
          refine ok_ref F K fX4_11 dX4_symbol_42 ?_
          refine lv_aload_n hx hb dX4_symbol_45 rfl (lv_at hl 0 rfl) ?_
          refine ok_int F K fX4_45 dX4_symbol_46 ?_
          refine lv_lload_n hx hb dX4_symbol_49 rfl (lv_at hl 1 rfl) ?_
          obtain ⟨u3, hu3, hf⟩ := g_bd hf
          refine ok_last F K t15 hu3 dX4_symbol_50 (fun H locs K => ?_)
          refine lv_aload_n hx hb dX4_symbol_51 rfl (lv_at hl 0 rfl) ?_
          refine ok_ref F K fX4_15 dX4_symbol_52 ?_
          refine lv_aload_n hx hb dX4_symbol_55 rfl (lv_at hl 0 rfl) ?_
          refine ok_int F K fX4_45 dX4_symbol_56 ?_
          refine lv_iconst (v := (-1)) hx hb dX4_symbol_59 kI_m1 ?_
          obtain ⟨u4, hu4, hf⟩ := g_bd hf
          refine ok_iast F K t16 hu4 dX4_symbol_60 (fun H locs K => ?_)
          refine lv_aload_n hx hb dX4_symbol_61 rfl (lv_at hl 0 rfl) ?_
          refine lv_dup hx hb dX4_symbol_62 rfl ?_
          refine ok_int F K fX4_45 dX4_symbol_63 ?_
          refine lv_iconst (v := 1) hx hb dX4_symbol_66 kI_1 ?_
          refine lv_iadd hx hb dX4_symbol_67 ?_
          refine ok_putI F K qX4_45 dX4_symbol_68 (fun u5 H locs eu5 K => ?_)
          have hf := g_lt hf u5 eu5
          refine lv_aload_n hx hb dX4_symbol_71 rfl (lv_at hl 0 rfl) ?_
          refine ok_int F K fX4_45 dX4_symbol_72 ?_
          refine lv_iconst (v := 1) hx hb dX4_symbol_75 kI_1 ?_
          refine lv_isub hx hb dX4_symbol_76 ?_
          exact ok_reti B K hf dX4_symbol_77
        · have hf := g_neg hf c2
          refine lv_iconst (v := (-1)) hx hb dX4_symbol_39 kI_m1 ?_
          exact ok_reti B K hf dX4_symbol_40
      · have hf := g_neg hf c1
        refine lv_aload_n hx hb dX4_symbol_10 rfl (lv_at hl 0 rfl) ?_
        refine ok_ref F K fX4_11 dX4_symbol_11 ?_
        refine lv_iload_n hx hb dX4_symbol_14 rfl (lv_at hl 2 rfl) ?_
        obtain ⟨v6, hv6, hf⟩ := g_bd hf
        refine ok_lald F K t15 hv6 dX4_symbol_15 ?_
        refine lv_lload_n hx hb dX4_symbol_16 rfl (lv_at hl 1 rfl) ?_
        refine W.lcmp hx hb dX4_symbol_17 ?_
        refine lv_if_ne (pc := 18) (tgt := 23) hx hb dX4_symbol_18 (by decide) (fun c7 => ?_) (fun c7 => ?_)
        · have hf := g_neg hf c7
          obtain ⟨x8, ex8⟩ : ∃ y : Int32, y = x3_ + 1 := ⟨_, rfl⟩
          have hf := g_lt hf x8 ex8
          refine lv_iinc (v := x8) (lv' := [(3, .int x8), (0, .ref (G.1 2)), (1, .long x1_)]) hx hb dX4_symbol_23 hl (k := 2) rfl (by rw [kI_1, ex8]) (by decide) rfl (fun ls hl => ?_)
          refine lv_goto (pc := 26) (tgt := 2) hx hb dX4_symbol_26 (by decide) ?_
          exact ih x1_ x8 u _ _ _ hf K (lv_sub hl [1, 2, 0] rfl)
        · have hf := g_pos hf c7
          refine lv_iload_n hx hb dX4_symbol_21 rfl (lv_at hl 2 rfl) ?_
          exact ok_reti B K hf dX4_symbol_22
set_option maxRecDepth 100000 in
set_option maxHeartbeats 4000000 in
theorem pX4_symbol {l : Launch} (G : Gt) {a0 : Int64} {r : Int32} {u u' : St} (hf : fX4_symbol a0 u = some (r, u')) : Ctr 0 76 l yX4_symbol cX4_symbol 4 (some .int) rmX4_symbol [.ref (G.1 2), .long a0] G u (some (.int r)) u' := by
  refine Ctr.mk (by decide) (Nat.le_of_ble_eq_true rfl) (fun p e s m below meth c A ls B K hl => ?_)
  have F := B.1
  have hx := F.1
  have hb := F.2.1
  have hl : lv_has ls 4 [(0, .ref (G.1 2)), (1, .long a0)] := hl
  unfold fX4_symbol at hf
  refine lv_iconst (v := 0) hx hb dX4_symbol_0 kI_0 ?_
  refine lv_topi (fun x9 ex9 => ?_)
  have hf := g_lt hf x9 ex9
  refine lv_istore_n (lv' := [(3, .int x9), (0, .ref (G.1 2)), (1, .long a0)]) hx hb dX4_symbol_1 rfl hl (by decide) rfl (fun ls hl => ?_)
  exact (pX4_symbol_L0  B FU) a0 x9 u _ _ _ hf K (lv_sub hl [1, 2, 0] rfl)
abbrev rmX7_addCell : Room := { frames := 0, cells := 0, slots := 0, locals := 0 }
set_option maxRecDepth 100000 in
set_option maxHeartbeats 4000000 in
theorem pX7_addCell {l : Launch} (G : Gt) {a0 : Int32} {r : Int32} {u u' : St} (hf : fX7_addCell a0 u = some (r, u')) : Ctr 0 76 l yX7_addCell cX7_addCell 2 (some .int) rmX7_addCell [.ref (G.1 3), .int a0] G u (some (.int r)) u' := by
  refine Ctr.mk (by decide) (Nat.le_of_ble_eq_true rfl) (fun p e s m below meth c A ls B K hl => ?_)
  have F := B.1
  have hx := F.1
  have hb := F.2.1
  have hl : lv_has ls 2 [(0, .ref (G.1 3)), (1, .int a0)] := hl
  unfold fX7_addCell at hf
  refine lv_aload_n hx hb dX7_addCell_0 rfl (lv_at hl 0 rfl) ?_
  refine ok_int F K fX7_45 dX7_addCell_1 ?_
  refine lv_sipush (v := 1501) hx hb dX7_addCell_4 kS_1501 ?_
  refine lv_icmp_lt (pc := 7) (tgt := 12) hx hb dX7_addCell_7 (by decide) (fun c1 => ?_) (fun c1 => ?_)
  · have hf := g_pos hf c1
    refine lv_aload_n hx hb dX7_addCell_12 rfl (lv_at hl 0 rfl) ?_
    refine ok_ref F K fX7_24 dX7_addCell_13 ?_
    refine lv_aload_n hx hb dX7_addCell_16 rfl (lv_at hl 0 rfl) ?_
    refine ok_int F K fX7_45 dX7_addCell_17 ?_
    refine lv_iload_n hx hb dX7_addCell_20 rfl (lv_at hl 1 rfl) ?_
    obtain ⟨u2, hu2, hf⟩ := g_bd hf
    refine ok_iast F K t37 hu2 dX7_addCell_21 (fun H locs K => ?_)
    refine lv_aload_n hx hb dX7_addCell_22 rfl (lv_at hl 0 rfl) ?_
    refine lv_dup hx hb dX7_addCell_23 rfl ?_
    refine ok_int F K fX7_45 dX7_addCell_24 ?_
    refine lv_iconst (v := 1) hx hb dX7_addCell_27 kI_1 ?_
    refine lv_iadd hx hb dX7_addCell_28 ?_
    refine ok_putI F K qX7_45 dX7_addCell_29 (fun u3 H locs eu3 K => ?_)
    have hf := g_lt hf u3 eu3
    refine lv_aload_n hx hb dX7_addCell_32 rfl (lv_at hl 0 rfl) ?_
    refine ok_int F K fX7_45 dX7_addCell_33 ?_
    refine lv_iconst (v := 1) hx hb dX7_addCell_36 kI_1 ?_
    refine lv_isub hx hb dX7_addCell_37 ?_
    exact ok_reti B K hf dX7_addCell_38
  · have hf := g_neg hf c1
    refine lv_iconst (v := 0) hx hb dX7_addCell_10 kI_0 ?_
    exact ok_reti B K hf dX7_addCell_11
abbrev rmX7_addVariable : Room := { frames := 1, cells := 0, slots := 0, locals := 21 }
set_option maxRecDepth 100000 in
set_option maxHeartbeats 4000000 in
theorem pX7_addVariable {l : Launch} (G : Gt) {a0 : Int32} {u u' : St} (hf : fX7_addVariable a0 u = some u') : Ctr 0 76 l yX7_addVariable cX7_addVariable 2 none rmX7_addVariable [.ref (G.1 3), .int a0] G u none u' := by
  refine Ctr.mk (by decide) (Nat.le_of_ble_eq_true rfl) (fun p e s m below meth c A ls B K hl => ?_)
  have F := B.1
  have hx := F.1
  have hb := F.2.1
  have hl : lv_has ls 2 [(0, .ref (G.1 3)), (1, .int a0)] := hl
  unfold fX7_addVariable at hf
  refine lv_aload_n hx hb dX7_addVariable_0 rfl (lv_at hl 0 rfl) ?_
  refine lv_iconst (v := (-1)) hx hb dX7_addVariable_1 kI_m1 ?_
  refine lv_iload_n hx hb dX7_addVariable_2 rfl (lv_at hl 1 rfl) ?_
  refine lv_isub hx hb dX7_addVariable_3 ?_
  obtain ⟨r2, u1, hu1, hf⟩ := g_b2 hf
  refine ok_calli (rest := []) F K (pX7_addCell G hu1) mX7_addCell oc3 lX7_54 rfl hl.1 rfl ⟨⟨rfl, rfl⟩, Nat.le_of_ble_eq_true rfl, Nat.le_of_ble_eq_true rfl⟩ (Nat.le_of_ble_eq_true rfl) dX7_addVariable_4 (fun H locs K => ?_)
  refine lv_pop hx hb dX7_addVariable_7 rfl ?_
  refine lv_aload_n hx hb dX7_addVariable_8 rfl (lv_at hl 0 rfl) ?_
  refine ok_ref F K fX7_31 dX7_addVariable_9 ?_
  refine lv_iload_n hx hb dX7_addVariable_12 rfl (lv_at hl 1 rfl) ?_
  obtain ⟨v3, hv3, hf⟩ := g_bd hf
  refine ok_iald F K t39 hv3 dX7_addVariable_13 ?_
  refine lv_if_ne (pc := 14) (tgt := 53) hx hb dX7_addVariable_14 (by decide) (fun c4 => ?_) (fun c4 => ?_)
  · have hf := g_neg hf c4
    exact ok_retv B K hf dX7_addVariable_53
  · have hf := g_pos hf c4
    refine lv_aload_n hx hb dX7_addVariable_17 rfl (lv_at hl 0 rfl) ?_
    refine ok_ref F K fX7_34 dX7_addVariable_18 ?_
    refine lv_iload_n hx hb dX7_addVariable_21 rfl (lv_at hl 1 rfl) ?_
    obtain ⟨v5, hv5, hf⟩ := g_bd hf
    refine ok_zald F K t40 hv5 dX7_addVariable_22 ?_
    refine lv_if_ne (pc := 23) (tgt := 53) hx hb dX7_addVariable_23 (by decide) (fun c6 => ?_) (fun c6 => ?_)
    · have hf := g_neg hf c6
      exact ok_retv B K hf dX7_addVariable_53
    · have hf := g_pos hf c6
      refine lv_aload_n hx hb dX7_addVariable_26 rfl (lv_at hl 0 rfl) ?_
      refine ok_ref F K fX7_34 dX7_addVariable_27 ?_
      refine lv_iload_n hx hb dX7_addVariable_30 rfl (lv_at hl 1 rfl) ?_
      refine lv_iconst (v := 1) hx hb dX7_addVariable_31 kI_1 ?_
      obtain ⟨u7, hu7, hf⟩ := g_bd hf
      refine ok_zast F K t40 (Or.inr rfl) hu7 dX7_addVariable_32 (fun H locs K => ?_)
      refine lv_aload_n hx hb dX7_addVariable_33 rfl (lv_at hl 0 rfl) ?_
      refine ok_ref F K fX7_38 dX7_addVariable_34 ?_
      refine lv_aload_n hx hb dX7_addVariable_37 rfl (lv_at hl 0 rfl) ?_
      refine ok_int F K fX7_51 dX7_addVariable_38 ?_
      refine lv_iload_n hx hb dX7_addVariable_41 rfl (lv_at hl 1 rfl) ?_
      obtain ⟨u8, hu8, hf⟩ := g_bd hf
      refine ok_iast F K t41 hu8 dX7_addVariable_42 (fun H locs K => ?_)
      refine lv_aload_n hx hb dX7_addVariable_43 rfl (lv_at hl 0 rfl) ?_
      refine lv_dup hx hb dX7_addVariable_44 rfl ?_
      refine ok_int F K fX7_51 dX7_addVariable_45 ?_
      refine lv_iconst (v := 1) hx hb dX7_addVariable_48 kI_1 ?_
      refine lv_iadd hx hb dX7_addVariable_49 ?_
      refine ok_putI F K qX7_51 dX7_addVariable_50 (fun u9 H locs eu9 K => ?_)
      have hf := g_lt hf u9 eu9
      exact ok_retv B K hf dX7_addVariable_53
abbrev rmX4_settle : Room := { frames := 0, cells := 0, slots := 0, locals := 0 }
set_option maxRecDepth 100000 in
set_option maxHeartbeats 4000000 in
theorem pX4_settle_j24 {p : Program} {l : Launch} {e : Env} {s : State} {m : MethodId} {below : List Frame} {meth : Method} {c : Code} {A : Nat → Prop} {G : Gt} {a0 : Int32} {a1 : Int32} {a2 : Int32} {r : Int32} {u' : St} (B : Bd p s m [.ref (G.1 2), .int a0, .int a1, .int a2] meth c yX4_settle cX4_settle 4 (some .boolean)) (x1_ : Int32) (x2_ : Int32) (x3_ : Int32) (u : St) (H : Heap) (locs : List Loc) (ls : Array Slot) (hf : fX4_settle_j24 x1_ x2_ x3_ u = some (r, u')) (K : Ok 0 76 G A s u H locs) (hl : lv_has ls 4 [(0, .ref (G.1 2)), (1, .int x1_), (2, .int x2_), (3, .int x3_)]) : W p l e rmX4_settle s m ([.ref (G.1 2), .int a0, .int a1, .int a2] : List Value).toArray below meth c H locs 0 0 (MQ below (Qg 0 76 G A (some (.int r)) u') ([.ref (G.1 2), .int a0, .int a1, .int a2] : List Value).toArray s 0 0 A) (F0 m 24 ls []) := by
  have F := B.1
  have hx := F.1
  have hb := F.2.1
  unfold fX4_settle_j24 at hf
  refine lv_aload_n hx hb dX4_settle_24 rfl (lv_at hl 0 rfl) ?_
  refine ok_ref F K fX4_15 dX4_settle_25 ?_
  refine lv_iload_n hx hb dX4_settle_28 rfl (lv_at hl 1 rfl) ?_
  obtain ⟨v1, hv1, hf⟩ := g_bd hf
  refine ok_iald F K t16 hv1 dX4_settle_29 ?_
  refine lv_iload_n hx hb dX4_settle_30 rfl (lv_at hl 2 rfl) ?_
  refine lv_icmp_ne (pc := 31) (tgt := 48) hx hb dX4_settle_31 (by decide) (fun c2 => ?_) (fun c2 => ?_)
  · have hf := g_neg hf c2
    refine lv_iconst (v := 0) hx hb dX4_settle_48 kI_0 ?_
    exact ok_retz B K hf (Or.inl rfl) dX4_settle_49
  · have hf := g_pos hf c2
    refine lv_aload_n hx hb dX4_settle_34 rfl (lv_at hl 0 rfl) ?_
    refine ok_ref F K fX4_19 dX4_settle_35 ?_
    refine lv_iload_n hx hb dX4_settle_38 rfl (lv_at hl 1 rfl) ?_
    obtain ⟨v3, hv3, hf⟩ := g_bd hf
    refine ok_zald F K t17 hv3 dX4_settle_39 ?_
    refine lv_iload_n hx hb dX4_settle_40 rfl (lv_at hl 3 rfl) ?_
    refine lv_icmp_ne (pc := 41) (tgt := 48) hx hb dX4_settle_41 (by decide) (fun c4 => ?_) (fun c4 => ?_)
    · have hf := g_neg hf c4
      refine lv_iconst (v := 0) hx hb dX4_settle_48 kI_0 ?_
      exact ok_retz B K hf (Or.inl rfl) dX4_settle_49
    · have hf := g_pos hf c4
      refine lv_iconst (v := 1) hx hb dX4_settle_44 kI_1 ?_
      refine lv_goto (pc := 45) (tgt := 49) hx hb dX4_settle_45 (by decide) ?_
      exact ok_retz B K hf (Or.inr rfl) dX4_settle_49
set_option maxRecDepth 100000 in
set_option maxHeartbeats 4000000 in
theorem pX4_settle {l : Launch} (G : Gt) {a0 : Int32} {a1 : Int32} {a2 : Int32} {r : Int32} {u u' : St} (hf : fX4_settle a0 a1 a2 u = some (r, u')) : Ctr 0 76 l yX4_settle cX4_settle 4 (some .boolean) rmX4_settle [.ref (G.1 2), .int a0, .int a1, .int a2] G u (some (.int r)) u' := by
  refine Ctr.mk (by decide) (Nat.le_of_ble_eq_true rfl) (fun p e s m below meth c A ls B K hl => ?_)
  have F := B.1
  have hx := F.1
  have hb := F.2.1
  have hl : lv_has ls 4 [(0, .ref (G.1 2)), (1, .int a0), (2, .int a1), (3, .int a2)] := hl
  unfold fX4_settle at hf
  refine lv_aload_n hx hb dX4_settle_0 rfl (lv_at hl 0 rfl) ?_
  refine ok_ref F K fX4_15 dX4_settle_1 ?_
  refine lv_iload_n hx hb dX4_settle_4 rfl (lv_at hl 1 rfl) ?_
  obtain ⟨v5, hv5, hf⟩ := g_bd hf
  refine ok_iald F K t16 hv5 dX4_settle_5 ?_
  refine lv_iconst (v := (-1)) hx hb dX4_settle_6 kI_m1 ?_
  refine lv_icmp_ne (pc := 7) (tgt := 24) hx hb dX4_settle_7 (by decide) (fun c6 => ?_) (fun c6 => ?_)
  · have hf := g_neg hf c6
    exact pX4_settle_j24  B a0 a1 a2 u _ _ _ hf K (lv_sub hl [0, 1, 2, 3] rfl)
  · have hf := g_pos hf c6
    refine lv_aload_n hx hb dX4_settle_10 rfl (lv_at hl 0 rfl) ?_
    refine ok_ref F K fX4_15 dX4_settle_11 ?_
    refine lv_iload_n hx hb dX4_settle_14 rfl (lv_at hl 1 rfl) ?_
    refine lv_iload_n hx hb dX4_settle_15 rfl (lv_at hl 2 rfl) ?_
    obtain ⟨u7, hu7, hf⟩ := g_bd hf
    refine ok_iast F K t16 hu7 dX4_settle_16 (fun H locs K => ?_)
    refine lv_aload_n hx hb dX4_settle_17 rfl (lv_at hl 0 rfl) ?_
    refine ok_ref F K fX4_19 dX4_settle_18 ?_
    refine lv_iload_n hx hb dX4_settle_21 rfl (lv_at hl 1 rfl) ?_
    refine lv_iload_n hx hb dX4_settle_22 rfl (lv_at hl 3 rfl) ?_
    obtain ⟨z9, hz9, hf⟩ := g_bd hf
    obtain ⟨u8, hu8, hf⟩ := g_bd hf
    refine ok_zast F K t17 (g_zb hz9).2 hu8 dX4_settle_23 (fun H locs K => ?_)
    exact pX4_settle_j24  B a0 a1 a2 u8 _ _ _ hf K (lv_sub hl [0, 1, 2, 3] rfl)
set_option maxRecDepth 100000 in
set_option maxHeartbeats 4000000 in
theorem pX2_chain_L0 {p : Program} {l : Launch} {e : Env} {s : State} {m : MethodId} {below : List Frame} {meth : Method} {c : Code} {A : Nat → Prop} {G : Gt} {d : Nat} {grp : Nat → Int32 → St → Option (Int32 × St)} {a0 : Int32} {r : Int32} {u' : St} (hr0 : ∀ (x : Int32) (u : St) (r : Int32) (u1 : St), grp 0 x u = some (r, u1) → Ctr 0 76 l yX2_chain cX2_chain 6 (some .int) (rmP d) [.ref (G.1 4), .int x] G u (some (.int r)) u1) (hr1 : ∀ (u : St) (r : Int32) (u1 : St), grp 1 0 u = some (r, u1) → Ctr 0 76 l yX2_unary cX2_unary 5 (some .int) (rmP d) [.ref (G.1 4)] G u (some (.int r)) u1) (hr2 : ∀ (x : Int32) (u : St) (r : Int32) (u1 : St), grp 2 x u = some (r, u1) → Ctr 0 76 l yX2_application cX2_application 7 none (rmP d) [.ref (G.1 4), .int x] G u none u1) (B : Bd p s m [.ref (G.1 4), .int a0] meth c yX2_chain cX2_chain 6 (some .int)) (n : Nat) : (∀ (x1_ : Int32) (x2_ : Int32) (x3_ : Int32) (u : St) (H : Heap) (locs : List Loc) (ls : Array Slot), fX2_chain_L0 grp n 0 x1_ x2_ x3_ 0 0 0 u = some (r, u') → Ok 0 76 G A s u H locs → lv_has ls 6 [(0, .ref (G.1 4)), (1, .int x1_), (2, .int x2_), (3, .int x3_)] → W p l e (rmP (d + 1)) s m ([.ref (G.1 4), .int a0] : List Value).toArray below meth c H locs 0 0 (MQ below (Qg 0 76 G A (some (.int r)) u') ([.ref (G.1 4), .int a0] : List Value).toArray s 0 0 A) (F0 m 23 ls [])) ∧ (∀ (x1_ : Int32) (x2_ : Int32) (x3_ : Int32) (s0_ : Int32) (u : St) (H : Heap) (locs : List Loc) (ls : Array Slot), fX2_chain_L0 grp n 1 x1_ x2_ x3_ 0 0 s0_ u = some (r, u') → Ok 0 76 G A s u H locs → lv_has ls 6 [(0, .ref (G.1 4)), (1, .int x1_), (2, .int x2_), (3, .int x3_)] → W p l e (rmP (d + 1)) s m ([.ref (G.1 4), .int a0] : List Value).toArray below meth c H locs 0 0 (MQ below (Qg 0 76 G A (some (.int r)) u') ([.ref (G.1 4), .int a0] : List Value).toArray s 0 0 A) (F0 m 52 ls [.int s0_])) ∧ (∀ (x1_ : Int32) (x2_ : Int32) (x3_ : Int32) (x4_ : Int32) (u : St) (H : Heap) (locs : List Loc) (ls : Array Slot), fX2_chain_L0 grp n 2 x1_ x2_ x3_ x4_ 0 0 u = some (r, u') → Ok 0 76 G A s u H locs → lv_has ls 6 [(0, .ref (G.1 4)), (1, .int x1_), (2, .int x2_), (3, .int x3_), (4, .int x4_)] → W p l e (rmP (d + 1)) s m ([.ref (G.1 4), .int a0] : List Value).toArray below meth c H locs 0 0 (MQ below (Qg 0 76 G A (some (.int r)) u') ([.ref (G.1 4), .int a0] : List Value).toArray s 0 0 A) (F0 m 78 ls [])) ∧ (∀ (x1_ : Int32) (x2_ : Int32) (x3_ : Int32) (x4_ : Int32) (s0_ : Int32) (u : St) (H : Heap) (locs : List Loc) (ls : Array Slot), fX2_chain_L0 grp n 3 x1_ x2_ x3_ x4_ 0 s0_ u = some (r, u') → Ok 0 76 G A s u H locs → lv_has ls 6 [(0, .ref (G.1 4)), (1, .int x1_), (2, .int x2_), (3, .int x3_), (4, .int x4_)] → W p l e (rmP (d + 1)) s m ([.ref (G.1 4), .int a0] : List Value).toArray below meth c H locs 0 0 (MQ below (Qg 0 76 G A (some (.int r)) u') ([.ref (G.1 4), .int a0] : List Value).toArray s 0 0 A) (F0 m 91 ls [.int s0_, .ref (G.1 4)])) ∧ (∀ (x1_ : Int32) (x2_ : Int32) (x3_ : Int32) (x5_ : Int32) (u : St) (H : Heap) (locs : List Loc) (ls : Array Slot), fX2_chain_L0 grp n 4 x1_ x2_ x3_ 0 x5_ 0 u = some (r, u') → Ok 0 76 G A s u H locs → lv_has ls 6 [(0, .ref (G.1 4)), (1, .int x1_), (2, .int x2_), (3, .int x3_), (5, .int x5_)] → W p l e (rmP (d + 1)) s m ([.ref (G.1 4), .int a0] : List Value).toArray below meth c H locs 0 0 (MQ below (Qg 0 76 G A (some (.int r)) u') ([.ref (G.1 4), .int a0] : List Value).toArray s 0 0 A) (F0 m 111 ls [])) := by
  have F := B.1
  have hx := F.1
  have hb := F.2.1
  induction n with
  | zero => exact ⟨fun _ _ _ _ _ _ _ hf => g_no hf, fun _ _ _ _ _ _ _ _ hf => g_no hf, fun _ _ _ _ _ _ _ _ hf => g_no hf, fun _ _ _ _ _ _ _ _ _ hf => g_no hf, fun _ _ _ _ _ _ _ _ hf => g_no hf⟩
  | succ n ih =>
    refine ⟨?_, ?_, ?_, ?_, ?_⟩
    · intro x1_ x2_ x3_ u H locs ls hf K hl
      have hf : fX2_chain_L0_0 grp (fX2_chain_L0 grp n) x1_ x2_ x3_ u = some (r, u') := hf
      unfold fX2_chain_L0_0 at hf
      refine lv_iload_n hx hb dX2_chain_23 rfl (lv_at hl 3 rfl) ?_
      refine lv_sipush (v := 1500) hx hb dX2_chain_24 kS_1500 ?_
      refine lv_icmp_ge (pc := 27) (tgt := 133) hx hb dX2_chain_27 (by decide) (fun c1 => ?_) (fun c1 => ?_)
      · have hf := g_pos hf c1
        refine lv_iload_n hx hb dX2_chain_133 rfl (lv_at hl 2 rfl) ?_
        exact ok_reti B K hf dX2_chain_134
      · have hf := g_neg hf c1
        refine lv_aload_n hx hb dX2_chain_30 rfl (lv_at hl 0 rfl) ?_
        obtain ⟨r3, u2, hu2, hf⟩ := g_b2 hf
        refine ok_calli (rest := []) F K (pX2_next G hu2) mX2_next oc4 lX2_49 rfl hl.1 rfl (rmPc d 2 ⟨⟨rfl, rfl⟩, Nat.le_of_ble_eq_true rfl, Nat.le_of_ble_eq_true rfl⟩) (Nat.le_of_ble_eq_true rfl) dX2_chain_31 (fun H locs K => ?_)
        refine ok_gets_SIGNS F K kX2_59 dX2_chain_34 ?_
        refine lv_iload_n hx hb dX2_chain_37 rfl (lv_at hl 1 rfl) ?_
        obtain ⟨v4, hv4, hf⟩ := g_bd hf
        refine ok_signs hx hb K hv4 dX2_chain_38 ?_
        refine lv_icmp_ne (pc := 39) (tgt := 133) hx hb dX2_chain_39 (by decide) (fun c5 => ?_) (fun c5 => ?_)
        · have hf := g_neg hf c5
          refine lv_iload_n hx hb dX2_chain_133 rfl (lv_at hl 2 rfl) ?_
          exact ok_reti B K hf dX2_chain_134
        · have hf := g_pos hf c5
          refine lv_iload_n hx hb dX2_chain_42 rfl (lv_at hl 1 rfl) ?_
          refine lv_iconst (v := 1) hx hb dX2_chain_43 kI_1 ?_
          refine lv_icmp_gt (pc := 44) (tgt := 51) hx hb dX2_chain_44 (by decide) (fun c6 => ?_) (fun c6 => ?_)
          · have hf := g_pos hf c6
            refine lv_iconst (v := 0) hx hb dX2_chain_51 kI_0 ?_
            exact ih.2.1 x1_ x2_ x3_ 0 u2 _ _ _ hf K (lv_sub hl [0, 1, 2, 3] rfl)
          · have hf := g_neg hf c6
            refine lv_iconst (v := 1) hx hb dX2_chain_47 kI_1 ?_
            refine lv_goto (pc := 48) (tgt := 52) hx hb dX2_chain_48 (by decide) ?_
            exact ih.2.1 x1_ x2_ x3_ 1 u2 _ _ _ hf K (lv_sub hl [0, 1, 2, 3] rfl)
    · intro x1_ x2_ x3_ s0_ u H locs ls hf K hl
      have hf : fX2_chain_L0_1 grp (fX2_chain_L0 grp n) x1_ x2_ x3_ s0_ u = some (r, u') := hf
      unfold fX2_chain_L0_1 at hf
      refine lv_istore (lv' := [(4, .int s0_), (0, .ref (G.1 4)), (1, .int x1_), (2, .int x2_), (3, .int x3_)]) hx hb dX2_chain_52 hl (by decide) rfl (fun ls hl => ?_)
      refine lv_iload hx hb dX2_chain_54 (lv_at hl 0 rfl) ?_
      refine lv_if_ne (pc := 56) (tgt := 69) hx hb dX2_chain_56 (by decide) (fun c7 => ?_) (fun c7 => ?_)
      · have hf := g_neg hf c7
        refine lv_aload_n hx hb dX2_chain_69 rfl (lv_at hl 1 rfl) ?_
        obtain ⟨r9, u8, hu8, hf⟩ := g_b2 hf
        refine ok_calli (rest := []) F K (pX2_opens G hu8) mX2_opens oc4 lX2_66 rfl hl.1 rfl (rmPc d 1 ⟨⟨rfl, rfl⟩, Nat.le_of_ble_eq_true rfl, Nat.le_of_ble_eq_true rfl⟩) (Nat.le_of_ble_eq_true rfl) dX2_chain_70 (fun H locs K => ?_)
        refine lv_if_ne (pc := 73) (tgt := 78) hx hb dX2_chain_73 (by decide) (fun c10 => ?_) (fun c10 => ?_)
        · have hf := g_neg hf c10
          exact ih.2.2.1 x1_ x2_ x3_ s0_ u8 _ _ _ hf K (lv_sub hl [1, 2, 3, 4, 0] rfl)
        · have hf := g_pos hf c10
          refine lv_iload_n hx hb dX2_chain_76 rfl (lv_at hl 3 rfl) ?_
          exact ok_reti B K hf dX2_chain_77
      · have hf := g_pos hf c7
        refine lv_aload_n hx hb dX2_chain_59 rfl (lv_at hl 1 rfl) ?_
        refine ok_ref F K fX2_9 dX2_chain_60 ?_
        obtain ⟨u11, hu11, hf⟩ := g_bd hf
        refine ok_callv (rest := []) F K (pX6_take G hu11) mX6_take oc1 lX2_52 rfl hl.1 rfl (rmPc d 1 ⟨⟨rfl, rfl⟩, Nat.le_of_ble_eq_true rfl, Nat.le_of_ble_eq_true rfl⟩) (Nat.le_of_ble_eq_true rfl) dX2_chain_63 (fun H locs K => ?_)
        refine lv_goto (pc := 66) (tgt := 78) hx hb dX2_chain_66 (by decide) ?_
        exact ih.2.2.1 x1_ x2_ x3_ s0_ u11 _ _ _ hf K (lv_sub hl [1, 2, 3, 4, 0] rfl)
    · intro x1_ x2_ x3_ x4_ u H locs ls hf K hl
      have hf : fX2_chain_L0_2 grp (fX2_chain_L0 grp n) x1_ x2_ x3_ x4_ u = some (r, u') := hf
      unfold fX2_chain_L0_2 at hf
      refine lv_aload_n hx hb dX2_chain_78 rfl (lv_at hl 0 rfl) ?_
      refine lv_iload_n hx hb dX2_chain_79 rfl (lv_at hl 1 rfl) ?_
      refine lv_iconst (v := 1) hx hb dX2_chain_80 kI_1 ?_
      refine lv_icmp_ne (pc := 81) (tgt := 88) hx hb dX2_chain_81 (by decide) (fun c12 => ?_) (fun c12 => ?_)
      · have hf := g_neg hf c12
        refine lv_iload_n hx hb dX2_chain_88 rfl (lv_at hl 1 rfl) ?_
        refine lv_iconst (v := 1) hx hb dX2_chain_89 kI_1 ?_
        refine lv_iadd hx hb dX2_chain_90 ?_
        exact ih.2.2.2.1 x1_ x2_ x3_ x4_ (x1_ + 1) u _ _ _ hf K (lv_sub hl [0, 1, 2, 3, 4] rfl)
      · have hf := g_pos hf c12
        refine lv_iload_n hx hb dX2_chain_84 rfl (lv_at hl 1 rfl) ?_
        refine lv_goto (pc := 85) (tgt := 91) hx hb dX2_chain_85 (by decide) ?_
        exact ih.2.2.2.1 x1_ x2_ x3_ x4_ x1_ u _ _ _ hf K (lv_sub hl [0, 1, 2, 3, 4] rfl)
    · intro x1_ x2_ x3_ x4_ s0_ u H locs ls hf K hl
      have hf : fX2_chain_L0_3 grp (fX2_chain_L0 grp n) x1_ x2_ x3_ x4_ s0_ u = some (r, u') := hf
      unfold fX2_chain_L0_3 at hf
      obtain ⟨r14, u13, hu13, hf⟩ := g_b2 hf
      refine ok_calli (rest := []) F K (hr0 _ _ _ _ hu13) mX2_chain oc4 lX2_55 rfl hl.1 rfl (rmPr d 6 (by decide)) (Nat.le_of_ble_eq_true rfl) dX2_chain_91 (fun H locs K => ?_)
      refine lv_istore (lv' := [(5, .int r14), (0, .ref (G.1 4)), (1, .int x1_), (2, .int x2_), (3, .int x3_), (4, .int x4_)]) hx hb dX2_chain_94 hl (by decide) rfl (fun ls hl => ?_)
      refine lv_iload hx hb dX2_chain_96 (lv_at hl 5 rfl) ?_
      refine lv_if_eq (pc := 98) (tgt := 111) hx hb dX2_chain_98 (by decide) (fun c15 => ?_) (fun c15 => ?_)
      · have hf := g_pos hf c15
        exact ih.2.2.2.2 x1_ x2_ x3_ r14 u13 _ _ _ hf K (lv_sub hl [1, 2, 3, 4, 0] rfl)
      · have hf := g_neg hf c15
        refine lv_aload_n hx hb dX2_chain_101 rfl (lv_at hl 1 rfl) ?_
        refine lv_dup hx hb dX2_chain_102 rfl ?_
        refine ok_int F K fX2_28 dX2_chain_103 ?_
        refine lv_iconst (v := 1) hx hb dX2_chain_106 kI_1 ?_
        refine lv_isub hx hb dX2_chain_107 ?_
        refine ok_putI F K qX2_28 dX2_chain_108 (fun u16 H locs eu16 K => ?_)
        have hf := g_lt hf u16 eu16
        exact ih.2.2.2.2 x1_ x2_ x3_ r14 u16 _ _ _ hf K (lv_sub hl [1, 2, 3, 4, 0] rfl)
    · intro x1_ x2_ x3_ x5_ u H locs ls hf K hl
      have hf : fX2_chain_L0_4 grp (fX2_chain_L0 grp n) x1_ x2_ x3_ x5_ u = some (r, u') := hf
      unfold fX2_chain_L0_4 at hf
      refine lv_aload_n hx hb dX2_chain_111 rfl (lv_at hl 0 rfl) ?_
      refine ok_ref F K fX2_19 dX2_chain_112 ?_
      refine ok_gets_KINDS F K kX2_70 dX2_chain_115 ?_
      refine lv_iload_n hx hb dX2_chain_118 rfl (lv_at hl 1 rfl) ?_
      obtain ⟨v17, hv17, hf⟩ := g_bd hf
      refine ok_kinds hx hb K hv17 dX2_chain_119 ?_
      refine lv_iload_n hx hb dX2_chain_120 rfl (lv_at hl 2 rfl) ?_
      refine lv_iload hx hb dX2_chain_121 (lv_at hl 4 rfl) ?_
      obtain ⟨r19, u18, hu18, hf⟩ := g_b2 hf
      refine ok_calli (rest := []) F K (pX7_add G hu18) mX7_add oc3 lX2_73 rfl hl.1 rfl (rmPc d 4 ⟨⟨rfl, rfl⟩, Nat.le_of_ble_eq_true rfl, Nat.le_of_ble_eq_true rfl⟩) (Nat.le_of_ble_eq_true rfl) dX2_chain_123 (fun H locs K => ?_)
      refine lv_istore_n (lv' := [(2, .int r19), (0, .ref (G.1 4)), (1, .int x1_), (3, .int x3_), (5, .int x5_)]) hx hb dX2_chain_126 rfl hl (by decide) rfl (fun ls hl => ?_)
      obtain ⟨x20, ex20⟩ : ∃ y : Int32, y = x3_ + 1 := ⟨_, rfl⟩
      have hf := g_lt hf x20 ex20
      refine lv_iinc (v := x20) (lv' := [(3, .int x20), (2, .int r19), (0, .ref (G.1 4)), (1, .int x1_), (5, .int x5_)]) hx hb dX2_chain_127 hl (k := 3) rfl (by rw [kI_1, ex20]) (by decide) rfl (fun ls hl => ?_)
      refine lv_goto (pc := 130) (tgt := 23) hx hb dX2_chain_130 (by decide) ?_
      exact ih.1 x1_ r19 x20 u18 _ _ _ hf K (lv_sub hl [2, 3, 1, 0] rfl)
set_option maxRecDepth 100000 in
set_option maxHeartbeats 4000000 in
theorem poX2_chain {l : Launch} {G : Gt} {d : Nat} {grp : Nat → Int32 → St → Option (Int32 × St)} (hr0 : ∀ (x : Int32) (u : St) (r : Int32) (u1 : St), grp 0 x u = some (r, u1) → Ctr 0 76 l yX2_chain cX2_chain 6 (some .int) (rmP d) [.ref (G.1 4), .int x] G u (some (.int r)) u1) (hr1 : ∀ (u : St) (r : Int32) (u1 : St), grp 1 0 u = some (r, u1) → Ctr 0 76 l yX2_unary cX2_unary 5 (some .int) (rmP d) [.ref (G.1 4)] G u (some (.int r)) u1) (hr2 : ∀ (x : Int32) (u : St) (r : Int32) (u1 : St), grp 2 x u = some (r, u1) → Ctr 0 76 l yX2_application cX2_application 7 none (rmP d) [.ref (G.1 4), .int x] G u none u1) {a0 : Int32} {r : Int32} {u u' : St} (hf : oX2_chain grp a0 u = some (r, u')) : Ctr 0 76 l yX2_chain cX2_chain 6 (some .int) (rmP (d + 1)) [.ref (G.1 4), .int a0] G u (some (.int r)) u' := by
  refine Ctr.mk (by decide) (Nat.le_of_ble_eq_true rfl) (fun p e s m below meth c A ls B K hl => ?_)
  have F := B.1
  have hx := F.1
  have hb := F.2.1
  have hl : lv_has ls 6 [(0, .ref (G.1 4)), (1, .int a0)] := hl
  unfold oX2_chain at hf
  refine lv_iload_n hx hb dX2_chain_0 rfl (lv_at hl 1 rfl) ?_
  refine ok_gets_SIGNS F K kX2_59 dX2_chain_1 ?_
  refine ok_signs_len hx hb K dX2_chain_4 ?_
  refine lv_icmp_lt (pc := 5) (tgt := 13) hx hb dX2_chain_5 (by decide) (fun c21 => ?_) (fun c21 => ?_)
  · have hf := g_pos hf c21
    refine lv_aload_n hx hb dX2_chain_13 rfl (lv_at hl 0 rfl) ?_
    refine lv_iload_n hx hb dX2_chain_14 rfl (lv_at hl 1 rfl) ?_
    refine lv_iconst (v := 1) hx hb dX2_chain_15 kI_1 ?_
    refine lv_iadd hx hb dX2_chain_16 ?_
    obtain ⟨r23, u22, hu22, hf⟩ := g_b2 hf
    refine ok_calli (rest := []) F K (hr0 _ _ _ _ hu22) mX2_chain oc4 lX2_55 rfl hl.1 rfl (rmPr d 6 (by decide)) (Nat.le_of_ble_eq_true rfl) dX2_chain_17 (fun H locs K => ?_)
    refine lv_istore_n (lv' := [(2, .int r23), (0, .ref (G.1 4)), (1, .int a0)]) hx hb dX2_chain_20 rfl hl (by decide) rfl (fun ls hl => ?_)
    refine lv_iconst (v := 0) hx hb dX2_chain_21 kI_0 ?_
    refine lv_topi (fun x24 ex24 => ?_)
    have hf := g_lt hf x24 ex24
    refine lv_istore_n (lv' := [(3, .int x24), (2, .int r23), (0, .ref (G.1 4)), (1, .int a0)]) hx hb dX2_chain_22 rfl hl (by decide) rfl (fun ls hl => ?_)
    exact (pX2_chain_L0 hr0 hr1 hr2 B FU).1 a0 r23 x24 u22 _ _ _ hf K (lv_sub hl [2, 3, 1, 0] rfl)
  · have hf := g_neg hf c21
    refine lv_aload_n hx hb dX2_chain_8 rfl (lv_at hl 0 rfl) ?_
    obtain ⟨r26, u25, hu25, hf⟩ := g_b2 hf
    refine ok_calli (rest := []) F K (hr1 _ _ _ hu25) mX2_unary oc4 lX2_63 rfl hl.1 rfl (rmPr d 5 (by decide)) (Nat.le_of_ble_eq_true rfl) dX2_chain_9 (fun H locs K => ?_)
    exact ok_reti B K hf dX2_chain_12
set_option maxRecDepth 100000 in
set_option maxHeartbeats 4000000 in
theorem pX2_unary_j221 {p : Program} {l : Launch} {e : Env} {s : State} {m : MethodId} {below : List Frame} {meth : Method} {c : Code} {A : Nat → Prop} {G : Gt} {d : Nat} {grp : Nat → Int32 → St → Option (Int32 × St)} {r : Int32} {u' : St} (hr0 : ∀ (x : Int32) (u : St) (r : Int32) (u1 : St), grp 0 x u = some (r, u1) → Ctr 0 76 l yX2_chain cX2_chain 6 (some .int) (rmP d) [.ref (G.1 4), .int x] G u (some (.int r)) u1) (hr1 : ∀ (u : St) (r : Int32) (u1 : St), grp 1 0 u = some (r, u1) → Ctr 0 76 l yX2_unary cX2_unary 5 (some .int) (rmP d) [.ref (G.1 4)] G u (some (.int r)) u1) (hr2 : ∀ (x : Int32) (u : St) (r : Int32) (u1 : St), grp 2 x u = some (r, u1) → Ctr 0 76 l yX2_application cX2_application 7 none (rmP d) [.ref (G.1 4), .int x] G u none u1) (B : Bd p s m [.ref (G.1 4)] meth c yX2_unary cX2_unary 5 (some .int)) (x2_ : Int32) (u : St) (H : Heap) (locs : List Loc) (ls : Array Slot) (hf : fX2_unary_j221 grp x2_ u = some (r, u')) (K : Ok 0 76 G A s u H locs) (hl : lv_has ls 5 [(0, .ref (G.1 4)), (2, .int x2_)]) : W p l e (rmP (d + 1)) s m ([.ref (G.1 4)] : List Value).toArray below meth c H locs 0 0 (MQ below (Qg 0 76 G A (some (.int r)) u') ([.ref (G.1 4)] : List Value).toArray s 0 0 A) (F0 m 221 ls []) := by
  have F := B.1
  have hx := F.1
  have hb := F.2.1
  unfold fX2_unary_j221 at hf
  refine lv_aload_n hx hb dX2_unary_221 rfl (lv_at hl 0 rfl) ?_
  refine lv_dup hx hb dX2_unary_222 rfl ?_
  refine ok_int F K fX2_28 dX2_unary_223 ?_
  refine lv_iconst (v := 1) hx hb dX2_unary_226 kI_1 ?_
  refine lv_isub hx hb dX2_unary_227 ?_
  refine ok_putI F K qX2_28 dX2_unary_228 (fun u1 H locs eu1 K => ?_)
  have hf := g_lt hf u1 eu1
  refine lv_iload_n hx hb dX2_unary_231 rfl (lv_at hl 1 rfl) ?_
  exact ok_reti B K hf dX2_unary_232
set_option maxRecDepth 100000 in
set_option maxHeartbeats 4000000 in
theorem pX2_unary_j201 {p : Program} {l : Launch} {e : Env} {s : State} {m : MethodId} {below : List Frame} {meth : Method} {c : Code} {A : Nat → Prop} {G : Gt} {d : Nat} {grp : Nat → Int32 → St → Option (Int32 × St)} {r : Int32} {u' : St} (hr0 : ∀ (x : Int32) (u : St) (r : Int32) (u1 : St), grp 0 x u = some (r, u1) → Ctr 0 76 l yX2_chain cX2_chain 6 (some .int) (rmP d) [.ref (G.1 4), .int x] G u (some (.int r)) u1) (hr1 : ∀ (u : St) (r : Int32) (u1 : St), grp 1 0 u = some (r, u1) → Ctr 0 76 l yX2_unary cX2_unary 5 (some .int) (rmP d) [.ref (G.1 4)] G u (some (.int r)) u1) (hr2 : ∀ (x : Int32) (u : St) (r : Int32) (u1 : St), grp 2 x u = some (r, u1) → Ctr 0 76 l yX2_application cX2_application 7 none (rmP d) [.ref (G.1 4), .int x] G u none u1) (B : Bd p s m [.ref (G.1 4)] meth c yX2_unary cX2_unary 5 (some .int)) (x4_ : Int32) (s0_ : Int32) (u : St) (H : Heap) (locs : List Loc) (ls : Array Slot) (hf : fX2_unary_j201 grp x4_ s0_ u = some (r, u')) (K : Ok 0 76 G A s u H locs) (hl : lv_has ls 5 [(0, .ref (G.1 4)), (4, .int x4_)]) : W p l e (rmP (d + 1)) s m ([.ref (G.1 4)] : List Value).toArray below meth c H locs 0 0 (MQ below (Qg 0 76 G A (some (.int r)) u') ([.ref (G.1 4)] : List Value).toArray s 0 0 A) (F0 m 201 ls [.int s0_, .ref (G.1 3)]) := by
  have F := B.1
  have hx := F.1
  have hb := F.2.1
  unfold fX2_unary_j201 at hf
  refine lv_iload hx hb dX2_unary_201 (lv_at hl 1 rfl) ?_
  refine lv_aload_n hx hb dX2_unary_203 rfl (lv_at hl 0 rfl) ?_
  obtain ⟨r3, u2, hu2, hf⟩ := g_b2 hf
  refine ok_calli (rest := [.int x4_, .int s0_, .ref (G.1 3)]) F K (hr1 _ _ _ hu2) mX2_unary oc4 lX2_63 rfl hl.1 rfl (rmPr d 5 (by decide)) (Nat.le_of_ble_eq_true rfl) dX2_unary_204 (fun H locs K => ?_)
  obtain ⟨r5, u4, hu4, hf⟩ := g_b2 hf
  refine ok_calli (rest := []) F K (pX7_add G hu4) mX7_add oc3 lX2_73 rfl hl.1 rfl (rmPc d 4 ⟨⟨rfl, rfl⟩, Nat.le_of_ble_eq_true rfl, Nat.le_of_ble_eq_true rfl⟩) (Nat.le_of_ble_eq_true rfl) dX2_unary_207 (fun H locs K => ?_)
  refine lv_istore_n (lv' := [(2, .int r5), (0, .ref (G.1 4)), (4, .int x4_)]) hx hb dX2_unary_210 rfl hl (by decide) rfl (fun ls hl => ?_)
  refine lv_aload_n hx hb dX2_unary_211 rfl (lv_at hl 1 rfl) ?_
  refine ok_ref F K fX2_19 dX2_unary_212 ?_
  refine lv_iload hx hb dX2_unary_215 (lv_at hl 2 rfl) ?_
  refine lv_iconst (v := (-1)) hx hb dX2_unary_217 kI_m1 ?_
  obtain ⟨u6, hu6, hf⟩ := g_bd hf
  refine ok_callv (rest := []) F K (pX7_bind G hu6) mX7_bind oc3 lX2_98 rfl hl.1 rfl (rmPc d 3 ⟨⟨rfl, rfl⟩, Nat.le_of_ble_eq_true rfl, Nat.le_of_ble_eq_true rfl⟩) (Nat.le_of_ble_eq_true rfl) dX2_unary_218 (fun H locs K => ?_)
  exact pX2_unary_j221 hr0 hr1 hr2 B r5 u6 _ _ _ hf K (lv_sub hl [1, 0] rfl)
set_option maxRecDepth 100000 in
set_option maxHeartbeats 4000000 in
theorem pX2_unary_j89 {p : Program} {l : Launch} {e : Env} {s : State} {m : MethodId} {below : List Frame} {meth : Method} {c : Code} {A : Nat → Prop} {G : Gt} {d : Nat} {grp : Nat → Int32 → St → Option (Int32 × St)} {r : Int32} {u' : St} (hr0 : ∀ (x : Int32) (u : St) (r : Int32) (u1 : St), grp 0 x u = some (r, u1) → Ctr 0 76 l yX2_chain cX2_chain 6 (some .int) (rmP d) [.ref (G.1 4), .int x] G u (some (.int r)) u1) (hr1 : ∀ (u : St) (r : Int32) (u1 : St), grp 1 0 u = some (r, u1) → Ctr 0 76 l yX2_unary cX2_unary 5 (some .int) (rmP d) [.ref (G.1 4)] G u (some (.int r)) u1) (hr2 : ∀ (x : Int32) (u : St) (r : Int32) (u1 : St), grp 2 x u = some (r, u1) → Ctr 0 76 l yX2_application cX2_application 7 none (rmP d) [.ref (G.1 4), .int x] G u none u1) (B : Bd p s m [.ref (G.1 4)] meth c yX2_unary cX2_unary 5 (some .int)) (x1_ : Int32) (x2_ : Int32) (u : St) (H : Heap) (locs : List Loc) (ls : Array Slot) (hf : fX2_unary_j89 grp x1_ x2_ u = some (r, u')) (K : Ok 0 76 G A s u H locs) (hl : lv_has ls 5 [(0, .ref (G.1 4)), (1, .int x1_), (2, .int x2_)]) : W p l e (rmP (d + 1)) s m ([.ref (G.1 4)] : List Value).toArray below meth c H locs 0 0 (MQ below (Qg 0 76 G A (some (.int r)) u') ([.ref (G.1 4)] : List Value).toArray s 0 0 A) (F0 m 89 ls []) := by
  have F := B.1
  have hx := F.1
  have hb := F.2.1
  unfold fX2_unary_j89 at hf
  refine lv_aload_n hx hb dX2_unary_89 rfl (lv_at hl 0 rfl) ?_
  obtain ⟨r8, u7, hu7, hf⟩ := g_b2 hf
  refine ok_calli (rest := []) F K (pX2_opens G hu7) mX2_opens oc4 lX2_66 rfl hl.1 rfl (rmPc d 1 ⟨⟨rfl, rfl⟩, Nat.le_of_ble_eq_true rfl, Nat.le_of_ble_eq_true rfl⟩) (Nat.le_of_ble_eq_true rfl) dX2_unary_90 (fun H locs K => ?_)
  refine lv_if_ne (pc := 93) (tgt := 98) hx hb dX2_unary_93 (by decide) (fun c9 => ?_) (fun c9 => ?_)
  · have hf := g_neg hf c9
    refine lv_iload_n hx hb dX2_unary_98 rfl (lv_at hl 1 rfl) ?_
    refine lv_bipush (v := 9) hx hb dX2_unary_99 kB_9 ?_
    refine lv_icmp_ne (pc := 101) (tgt := 121) hx hb dX2_unary_101 (by decide) (fun c10 => ?_) (fun c10 => ?_)
    · have hf := g_neg hf c10
      refine lv_iload_n hx hb dX2_unary_121 rfl (lv_at hl 1 rfl) ?_
      refine lv_iconst (v := 4) hx hb dX2_unary_122 kI_4 ?_
      refine lv_icmp_ne (pc := 123) (tgt := 141) hx hb dX2_unary_123 (by decide) (fun c11 => ?_) (fun c11 => ?_)
      · have hf := g_neg hf c11
        refine lv_aload_n hx hb dX2_unary_141 rfl (lv_at hl 0 rfl) ?_
        refine lv_iconst (v := 3) hx hb dX2_unary_142 kI_3 ?_
        obtain ⟨r13, u12, hu12, hf⟩ := g_b2 hf
        refine ok_calli (rest := []) F K (pX2_want G hu12) mX2_want oc4 lX2_86 rfl hl.1 rfl (rmPc d 2 ⟨⟨rfl, rfl⟩, Nat.le_of_ble_eq_true rfl, Nat.le_of_ble_eq_true rfl⟩) (Nat.le_of_ble_eq_true rfl) dX2_unary_143 (fun H locs K => ?_)
        refine lv_if_eq (pc := 146) (tgt := 221) hx hb dX2_unary_146 (by decide) (fun c14 => ?_) (fun c14 => ?_)
        · have hf := g_pos hf c14
          exact pX2_unary_j221 hr0 hr1 hr2 B x2_ u12 _ _ _ hf K (lv_sub hl [0, 2] rfl)
        · have hf := g_neg hf c14
          refine lv_aload_n hx hb dX2_unary_149 rfl (lv_at hl 0 rfl) ?_
          refine ok_ref F K fX2_19 dX2_unary_150 ?_
          refine lv_aload_n hx hb dX2_unary_153 rfl (lv_at hl 0 rfl) ?_
          refine ok_ref F K fX2_9 dX2_unary_154 ?_
          refine ok_long F K fX2_90 dX2_unary_157 ?_
          obtain ⟨r16, u15, hu15, hf⟩ := g_b2 hf
          refine ok_calli (rest := []) F K (pX7_variable G hu15) mX7_variable oc3 lX2_94 rfl hl.1 rfl (rmPc d 4 ⟨⟨rfl, rfl⟩, Nat.le_of_ble_eq_true rfl, Nat.le_of_ble_eq_true rfl⟩) (Nat.le_of_ble_eq_true rfl) dX2_unary_160 (fun H locs K => ?_)
          refine lv_istore (lv' := [(4, .int r16), (0, .ref (G.1 4)), (1, .int x1_), (2, .int x2_)]) hx hb dX2_unary_163 hl (by decide) rfl (fun ls hl => ?_)
          refine lv_aload_n hx hb dX2_unary_165 rfl (lv_at hl 1 rfl) ?_
          refine lv_bipush (v := 8) hx hb dX2_unary_166 kB_8 ?_
          obtain ⟨r18, u17, hu17, hf⟩ := g_b2 hf
          refine ok_calli (rest := []) F K (pX2_want G hu17) mX2_want oc4 lX2_86 rfl hl.1 rfl (rmPc d 2 ⟨⟨rfl, rfl⟩, Nat.le_of_ble_eq_true rfl, Nat.le_of_ble_eq_true rfl⟩) (Nat.le_of_ble_eq_true rfl) dX2_unary_168 (fun H locs K => ?_)
          refine lv_if_eq (pc := 171) (tgt := 221) hx hb dX2_unary_171 (by decide) (fun c19 => ?_) (fun c19 => ?_)
          · have hf := g_pos hf c19
            exact pX2_unary_j221 hr0 hr1 hr2 B x2_ u17 _ _ _ hf K (lv_sub hl [1, 3] rfl)
          · have hf := g_neg hf c19
            refine lv_aload_n hx hb dX2_unary_174 rfl (lv_at hl 1 rfl) ?_
            refine ok_ref F K fX2_19 dX2_unary_175 ?_
            refine lv_iload hx hb dX2_unary_178 (lv_at hl 0 rfl) ?_
            refine lv_iconst (v := 1) hx hb dX2_unary_180 kI_1 ?_
            obtain ⟨u20, hu20, hf⟩ := g_bd hf
            refine ok_callv (rest := []) F K (pX7_bind G hu20) mX7_bind oc3 lX2_98 rfl hl.1 rfl (rmPc d 3 ⟨⟨rfl, rfl⟩, Nat.le_of_ble_eq_true rfl, Nat.le_of_ble_eq_true rfl⟩) (Nat.le_of_ble_eq_true rfl) dX2_unary_181 (fun H locs K => ?_)
            refine lv_aload_n hx hb dX2_unary_184 rfl (lv_at hl 1 rfl) ?_
            refine ok_ref F K fX2_19 dX2_unary_185 ?_
            refine lv_iload_n hx hb dX2_unary_188 rfl (lv_at hl 2 rfl) ?_
            refine lv_bipush (v := 12) hx hb dX2_unary_189 kB_12 ?_
            refine lv_icmp_ne (pc := 191) (tgt := 199) hx hb dX2_unary_191 (by decide) (fun c21 => ?_) (fun c21 => ?_)
            · have hf := g_neg hf c21
              refine lv_bipush (v := 7) hx hb dX2_unary_199 kB_7 ?_
              exact pX2_unary_j201 hr0 hr1 hr2 B r16 7 u20 _ _ _ hf K (lv_sub hl [1, 0] rfl)
            · have hf := g_pos hf c21
              refine lv_bipush (v := 6) hx hb dX2_unary_194 kB_6 ?_
              refine lv_goto (pc := 196) (tgt := 201) hx hb dX2_unary_196 (by decide) ?_
              exact pX2_unary_j201 hr0 hr1 hr2 B r16 6 u20 _ _ _ hf K (lv_sub hl [1, 0] rfl)
      · have hf := g_pos hf c11
        refine lv_aload_n hx hb dX2_unary_126 rfl (lv_at hl 0 rfl) ?_
        refine lv_iconst (v := 0) hx hb dX2_unary_127 kI_0 ?_
        obtain ⟨r23, u22, hu22, hf⟩ := g_b2 hf
        refine ok_calli (rest := []) F K (hr0 _ _ _ _ hu22) mX2_chain oc4 lX2_55 rfl hl.1 rfl (rmPr d 6 (by decide)) (Nat.le_of_ble_eq_true rfl) dX2_unary_128 (fun H locs K => ?_)
        refine lv_istore_n (lv' := [(2, .int r23), (0, .ref (G.1 4)), (1, .int x1_)]) hx hb dX2_unary_131 rfl hl (by decide) rfl (fun ls hl => ?_)
        refine lv_aload_n hx hb dX2_unary_132 rfl (lv_at hl 1 rfl) ?_
        refine lv_iconst (v := 5) hx hb dX2_unary_133 kI_5 ?_
        obtain ⟨r25, u24, hu24, hf⟩ := g_b2 hf
        refine ok_calli (rest := []) F K (pX2_want G hu24) mX2_want oc4 lX2_86 rfl hl.1 rfl (rmPc d 2 ⟨⟨rfl, rfl⟩, Nat.le_of_ble_eq_true rfl, Nat.le_of_ble_eq_true rfl⟩) (Nat.le_of_ble_eq_true rfl) dX2_unary_134 (fun H locs K => ?_)
        refine lv_pop hx hb dX2_unary_137 rfl ?_
        refine lv_goto (pc := 138) (tgt := 221) hx hb dX2_unary_138 (by decide) ?_
        exact pX2_unary_j221 hr0 hr1 hr2 B r23 u24 _ _ _ hf K (lv_sub hl [1, 0] rfl)
    · have hf := g_pos hf c10
      refine lv_aload_n hx hb dX2_unary_104 rfl (lv_at hl 0 rfl) ?_
      refine ok_ref F K fX2_19 dX2_unary_105 ?_
      refine lv_iconst (v := 1) hx hb dX2_unary_108 kI_1 ?_
      refine lv_aload_n hx hb dX2_unary_109 rfl (lv_at hl 0 rfl) ?_
      obtain ⟨r27, u26, hu26, hf⟩ := g_b2 hf
      refine ok_calli (rest := [.int 1, .ref (G.1 3)]) F K (hr1 _ _ _ hu26) mX2_unary oc4 lX2_63 rfl hl.1 rfl (rmPr d 5 (by decide)) (Nat.le_of_ble_eq_true rfl) dX2_unary_110 (fun H locs K => ?_)
      refine lv_iconst (v := 0) hx hb dX2_unary_113 kI_0 ?_
      obtain ⟨r29, u28, hu28, hf⟩ := g_b2 hf
      refine ok_calli (rest := []) F K (pX7_add G hu28) mX7_add oc3 lX2_73 rfl hl.1 rfl (rmPc d 4 ⟨⟨rfl, rfl⟩, Nat.le_of_ble_eq_true rfl, Nat.le_of_ble_eq_true rfl⟩) (Nat.le_of_ble_eq_true rfl) dX2_unary_114 (fun H locs K => ?_)
      refine lv_istore_n (lv' := [(2, .int r29), (0, .ref (G.1 4)), (1, .int x1_)]) hx hb dX2_unary_117 rfl hl (by decide) rfl (fun ls hl => ?_)
      refine lv_goto (pc := 118) (tgt := 221) hx hb dX2_unary_118 (by decide) ?_
      exact pX2_unary_j221 hr0 hr1 hr2 B r29 u28 _ _ _ hf K (lv_sub hl [1, 0] rfl)
  · have hf := g_pos hf c9
    refine lv_iload_n hx hb dX2_unary_96 rfl (lv_at hl 2 rfl) ?_
    exact ok_reti B K hf dX2_unary_97
set_option maxRecDepth 100000 in
set_option maxHeartbeats 4000000 in
theorem pX2_unary_j59 {p : Program} {l : Launch} {e : Env} {s : State} {m : MethodId} {below : List Frame} {meth : Method} {c : Code} {A : Nat → Prop} {G : Gt} {d : Nat} {grp : Nat → Int32 → St → Option (Int32 × St)} {r : Int32} {u' : St} (hr0 : ∀ (x : Int32) (u : St) (r : Int32) (u1 : St), grp 0 x u = some (r, u1) → Ctr 0 76 l yX2_chain cX2_chain 6 (some .int) (rmP d) [.ref (G.1 4), .int x] G u (some (.int r)) u1) (hr1 : ∀ (u : St) (r : Int32) (u1 : St), grp 1 0 u = some (r, u1) → Ctr 0 76 l yX2_unary cX2_unary 5 (some .int) (rmP d) [.ref (G.1 4)] G u (some (.int r)) u1) (hr2 : ∀ (x : Int32) (u : St) (r : Int32) (u1 : St), grp 2 x u = some (r, u1) → Ctr 0 76 l yX2_application cX2_application 7 none (rmP d) [.ref (G.1 4), .int x] G u none u1) (B : Bd p s m [.ref (G.1 4)] meth c yX2_unary cX2_unary 5 (some .int)) (x1_ : Int32) (x2_ : Int32) (s0_ : Int32) (u : St) (H : Heap) (locs : List Loc) (ls : Array Slot) (hf : fX2_unary_j59 grp x1_ x2_ s0_ u = some (r, u')) (K : Ok 0 76 G A s u H locs) (hl : lv_has ls 5 [(0, .ref (G.1 4)), (1, .int x1_), (2, .int x2_)]) : W p l e (rmP (d + 1)) s m ([.ref (G.1 4)] : List Value).toArray below meth c H locs 0 0 (MQ below (Qg 0 76 G A (some (.int r)) u') ([.ref (G.1 4)] : List Value).toArray s 0 0 A) (F0 m 59 ls [.int s0_]) := by
  have F := B.1
  have hx := F.1
  have hb := F.2.1
  unfold fX2_unary_j59 at hf
  refine lv_istore_n (lv' := [(3, .int s0_), (0, .ref (G.1 4)), (1, .int x1_), (2, .int x2_)]) hx hb dX2_unary_59 rfl hl (by decide) rfl (fun ls hl => ?_)
  refine lv_iload_n hx hb dX2_unary_60 rfl (lv_at hl 0 rfl) ?_
  refine lv_if_ne (pc := 61) (tgt := 89) hx hb dX2_unary_61 (by decide) (fun c30 => ?_) (fun c30 => ?_)
  · have hf := g_neg hf c30
    exact pX2_unary_j89 hr0 hr1 hr2 B x1_ x2_ u _ _ _ hf K (lv_sub hl [1, 2, 3] rfl)
  · have hf := g_pos hf c30
    refine lv_iload_n hx hb dX2_unary_64 rfl (lv_at hl 2 rfl) ?_
    refine lv_bipush (v := 9) hx hb dX2_unary_65 kB_9 ?_
    refine lv_icmp_eq (pc := 67) (tgt := 89) hx hb dX2_unary_67 (by decide) (fun c31 => ?_) (fun c31 => ?_)
    · have hf := g_pos hf c31
      exact pX2_unary_j89 hr0 hr1 hr2 B x1_ x2_ u _ _ _ hf K (lv_sub hl [1, 2, 3] rfl)
    · have hf := g_neg hf c31
      refine lv_iload_n hx hb dX2_unary_70 rfl (lv_at hl 2 rfl) ?_
      refine lv_iconst (v := 4) hx hb dX2_unary_71 kI_4 ?_
      refine lv_icmp_eq (pc := 72) (tgt := 89) hx hb dX2_unary_72 (by decide) (fun c32 => ?_) (fun c32 => ?_)
      · have hf := g_pos hf c32
        exact pX2_unary_j89 hr0 hr1 hr2 B x1_ x2_ u _ _ _ hf K (lv_sub hl [1, 2, 3] rfl)
      · have hf := g_neg hf c32
        refine lv_aload_n hx hb dX2_unary_75 rfl (lv_at hl 1 rfl) ?_
        refine lv_iconst (v := 2) hx hb dX2_unary_76 kI_2 ?_
        refine lv_aload_n hx hb dX2_unary_77 rfl (lv_at hl 1 rfl) ?_
        refine ok_ref F K fX2_9 dX2_unary_78 ?_
        refine ok_int F K fX2_42 dX2_unary_81 ?_
        obtain ⟨u33, hu33, hf⟩ := g_bd hf
        refine ok_callv (rest := []) F K (pX2_fail G hu33) mX2_fail oc4 lX2_45 rfl hl.1 rfl (rmPc d 3 ⟨⟨rfl, rfl⟩, Nat.le_of_ble_eq_true rfl, Nat.le_of_ble_eq_true rfl⟩) (Nat.le_of_ble_eq_true rfl) dX2_unary_84 (fun H locs K => ?_)
        refine lv_iload_n hx hb dX2_unary_87 rfl (lv_at hl 3 rfl) ?_
        exact ok_reti B K hf dX2_unary_88
set_option maxRecDepth 100000 in
set_option maxHeartbeats 4000000 in
theorem poX2_unary {l : Launch} {G : Gt} {d : Nat} {grp : Nat → Int32 → St → Option (Int32 × St)} (hr0 : ∀ (x : Int32) (u : St) (r : Int32) (u1 : St), grp 0 x u = some (r, u1) → Ctr 0 76 l yX2_chain cX2_chain 6 (some .int) (rmP d) [.ref (G.1 4), .int x] G u (some (.int r)) u1) (hr1 : ∀ (u : St) (r : Int32) (u1 : St), grp 1 0 u = some (r, u1) → Ctr 0 76 l yX2_unary cX2_unary 5 (some .int) (rmP d) [.ref (G.1 4)] G u (some (.int r)) u1) (hr2 : ∀ (x : Int32) (u : St) (r : Int32) (u1 : St), grp 2 x u = some (r, u1) → Ctr 0 76 l yX2_application cX2_application 7 none (rmP d) [.ref (G.1 4), .int x] G u none u1) {r : Int32} {u u' : St} (hf : oX2_unary grp u = some (r, u')) : Ctr 0 76 l yX2_unary cX2_unary 5 (some .int) (rmP (d + 1)) [.ref (G.1 4)] G u (some (.int r)) u' := by
  refine Ctr.mk (by decide) (Nat.le_of_ble_eq_true rfl) (fun p e s m below meth c A ls B K hl => ?_)
  have F := B.1
  have hx := F.1
  have hb := F.2.1
  have hl : lv_has ls 5 [(0, .ref (G.1 4))] := hl
  unfold oX2_unary at hf
  refine lv_aload_n hx hb dX2_unary_0 rfl (lv_at hl 0 rfl) ?_
  obtain ⟨r35, u34, hu34, hf⟩ := g_b2 hf
  refine ok_calli (rest := []) F K (pX2_next G hu34) mX2_next oc4 lX2_49 rfl hl.1 rfl (rmPc d 2 ⟨⟨rfl, rfl⟩, Nat.le_of_ble_eq_true rfl, Nat.le_of_ble_eq_true rfl⟩) (Nat.le_of_ble_eq_true rfl) dX2_unary_1 (fun H locs K => ?_)
  refine lv_istore_n (lv' := [(1, .int r35), (0, .ref (G.1 4))]) hx hb dX2_unary_4 rfl hl (by decide) rfl (fun ls hl => ?_)
  refine lv_iconst (v := 0) hx hb dX2_unary_5 kI_0 ?_
  refine lv_topi (fun x36 ex36 => ?_)
  have hf := g_lt hf x36 ex36
  refine lv_istore_n (lv' := [(2, .int x36), (1, .int r35), (0, .ref (G.1 4))]) hx hb dX2_unary_6 rfl hl (by decide) rfl (fun ls hl => ?_)
  refine lv_iload_n hx hb dX2_unary_7 rfl (lv_at hl 1 rfl) ?_
  refine lv_iconst (v := 2) hx hb dX2_unary_8 kI_2 ?_
  refine lv_icmp_ne (pc := 9) (tgt := 42) hx hb dX2_unary_9 (by decide) (fun c37 => ?_) (fun c37 => ?_)
  · have hf := g_neg hf c37
    refine lv_iload_n hx hb dX2_unary_42 rfl (lv_at hl 1 rfl) ?_
    refine lv_bipush (v := 12) hx hb dX2_unary_43 kB_12 ?_
    refine lv_icmp_eq (pc := 45) (tgt := 54) hx hb dX2_unary_45 (by decide) (fun c38 => ?_) (fun c38 => ?_)
    · have hf := g_pos hf c38
      refine lv_iconst (v := 1) hx hb dX2_unary_54 kI_1 ?_
      refine lv_goto (pc := 55) (tgt := 59) hx hb dX2_unary_55 (by decide) ?_
      exact pX2_unary_j59 hr0 hr1 hr2 B r35 x36 1 u34 _ _ _ hf K (lv_sub hl [2, 1, 0] rfl)
    · have hf := g_neg hf c38
      refine lv_iload_n hx hb dX2_unary_48 rfl (lv_at hl 1 rfl) ?_
      refine lv_bipush (v := 13) hx hb dX2_unary_49 kB_13 ?_
      refine lv_icmp_ne (pc := 51) (tgt := 58) hx hb dX2_unary_51 (by decide) (fun c39 => ?_) (fun c39 => ?_)
      · have hf := g_neg hf c39
        refine lv_iconst (v := 0) hx hb dX2_unary_58 kI_0 ?_
        exact pX2_unary_j59 hr0 hr1 hr2 B r35 x36 0 u34 _ _ _ hf K (lv_sub hl [2, 1, 0] rfl)
      · have hf := g_pos hf c39
        refine lv_iconst (v := 1) hx hb dX2_unary_54 kI_1 ?_
        refine lv_goto (pc := 55) (tgt := 59) hx hb dX2_unary_55 (by decide) ?_
        exact pX2_unary_j59 hr0 hr1 hr2 B r35 x36 1 u34 _ _ _ hf K (lv_sub hl [2, 1, 0] rfl)
  · have hf := g_pos hf c37
    refine lv_aload_n hx hb dX2_unary_12 rfl (lv_at hl 2 rfl) ?_
    refine ok_ref F K fX2_19 dX2_unary_13 ?_
    refine ok_int F K fX2_79 dX2_unary_16 ?_
    refine lv_topi (fun x40 ex40 => ?_)
    have hf := g_lt hf x40 ex40
    refine lv_istore_n (lv' := [(3, .int x40), (2, .int x36), (1, .int r35), (0, .ref (G.1 4))]) hx hb dX2_unary_19 rfl hl (by decide) rfl (fun ls hl => ?_)
    refine lv_aload_n hx hb dX2_unary_20 rfl (lv_at hl 3 rfl) ?_
    refine lv_iconst (v := 1) hx hb dX2_unary_21 kI_1 ?_
    obtain ⟨r42, u41, hu41, hf⟩ := g_b2 hf
    refine ok_callv (rest := []) F K (hr2 _ _ _ _ hu41) mX2_application oc4 lX2_82 rfl hl.1 rfl (rmPr d 7 (by decide)) (Nat.le_of_ble_eq_true rfl) dX2_unary_22 (fun H locs K => ?_)
    refine lv_aload_n hx hb dX2_unary_25 rfl (lv_at hl 3 rfl) ?_
    refine ok_ref F K fX2_19 dX2_unary_26 ?_
    refine lv_iconst (v := 0) hx hb dX2_unary_29 kI_0 ?_
    refine lv_iload_n hx hb dX2_unary_30 rfl (lv_at hl 0 rfl) ?_
    refine lv_aload_n hx hb dX2_unary_31 rfl (lv_at hl 3 rfl) ?_
    refine ok_ref F K fX2_19 dX2_unary_32 ?_
    refine ok_int F K fX2_79 dX2_unary_35 ?_
    obtain ⟨r44, u43, hu43, hf⟩ := g_b2 hf
    refine ok_calli (rest := []) F K (pX7_add G hu43) mX7_add oc3 lX2_73 rfl hl.1 rfl (rmPc d 4 ⟨⟨rfl, rfl⟩, Nat.le_of_ble_eq_true rfl, Nat.le_of_ble_eq_true rfl⟩) (Nat.le_of_ble_eq_true rfl) dX2_unary_38 (fun H locs K => ?_)
    exact ok_reti B K hf dX2_unary_41
set_option maxRecDepth 100000 in
set_option maxHeartbeats 4000000 in
theorem pX2_application_j219 {p : Program} {l : Launch} {e : Env} {s : State} {m : MethodId} {below : List Frame} {meth : Method} {c : Code} {A : Nat → Prop} {G : Gt} {d : Nat} {grp : Nat → Int32 → St → Option (Int32 × St)} {a0 : Int32} {u' : St} (hr0 : ∀ (x : Int32) (u : St) (r : Int32) (u1 : St), grp 0 x u = some (r, u1) → Ctr 0 76 l yX2_chain cX2_chain 6 (some .int) (rmP d) [.ref (G.1 4), .int x] G u (some (.int r)) u1) (hr1 : ∀ (u : St) (r : Int32) (u1 : St), grp 1 0 u = some (r, u1) → Ctr 0 76 l yX2_unary cX2_unary 5 (some .int) (rmP d) [.ref (G.1 4)] G u (some (.int r)) u1) (hr2 : ∀ (x : Int32) (u : St) (r : Int32) (u1 : St), grp 2 x u = some (r, u1) → Ctr 0 76 l yX2_application cX2_application 7 none (rmP d) [.ref (G.1 4), .int x] G u none u1) (B : Bd p s m [.ref (G.1 4), .int a0] meth c yX2_application cX2_application 7 none) (x4_ : Int32) (x5_ : Int32) (u : St) (H : Heap) (locs : List Loc) (ls : Array Slot) (hf : fX2_application_j219 grp x4_ x5_ u = some u') (K : Ok 0 76 G A s u H locs) (hl : lv_has ls 7 [(0, .ref (G.1 4)), (4, .int x4_), (5, .int x5_)]) : W p l e (rmP (d + 1)) s m ([.ref (G.1 4), .int a0] : List Value).toArray below meth c H locs 0 0 (MQ below (Qg 0 76 G A none u') ([.ref (G.1 4), .int a0] : List Value).toArray s 0 0 A) (F0 m 219 ls []) := by
  have F := B.1
  have hx := F.1
  have hb := F.2.1
  unfold fX2_application_j219 at hf
  refine lv_aload_n hx hb dX2_application_219 rfl (lv_at hl 0 rfl) ?_
  refine ok_ref F K fX2_19 dX2_application_220 ?_
  refine ok_ref F K fX2_117 dX2_application_223 ?_
  refine lv_iload hx hb dX2_application_226 (lv_at hl 1 rfl) ?_
  refine lv_dup2_11 hx hb dX2_application_228 rfl rfl ?_
  obtain ⟨v1, hv1, hf⟩ := g_bd hf
  refine ok_iald F K t37 hv1 dX2_application_229 ?_
  refine lv_iload hx hb dX2_application_230 (lv_at hl 2 rfl) ?_
  refine lv_iadd hx hb dX2_application_232 ?_
  obtain ⟨u2, hu2, hf⟩ := g_bd hf
  refine ok_iast F K t37 hu2 dX2_application_233 (fun H locs K => ?_)
  exact ok_retv B K hf dX2_application_234
set_option maxRecDepth 100000 in
set_option maxHeartbeats 4000000 in
theorem pX2_application_j192 {p : Program} {l : Launch} {e : Env} {s : State} {m : MethodId} {below : List Frame} {meth : Method} {c : Code} {A : Nat → Prop} {G : Gt} {d : Nat} {grp : Nat → Int32 → St → Option (Int32 × St)} {a0 : Int32} {u' : St} (hr0 : ∀ (x : Int32) (u : St) (r : Int32) (u1 : St), grp 0 x u = some (r, u1) → Ctr 0 76 l yX2_chain cX2_chain 6 (some .int) (rmP d) [.ref (G.1 4), .int x] G u (some (.int r)) u1) (hr1 : ∀ (u : St) (r : Int32) (u1 : St), grp 1 0 u = some (r, u1) → Ctr 0 76 l yX2_unary cX2_unary 5 (some .int) (rmP d) [.ref (G.1 4)] G u (some (.int r)) u1) (hr2 : ∀ (x : Int32) (u : St) (r : Int32) (u1 : St), grp 2 x u = some (r, u1) → Ctr 0 76 l yX2_application cX2_application 7 none (rmP d) [.ref (G.1 4), .int x] G u none u1) (B : Bd p s m [.ref (G.1 4), .int a0] meth c yX2_application cX2_application 7 none) (x1_ : Int32) (x2_ : Int32) (x3_ : Int32) (x4_ : Int32) (x5_ : Int32) (u : St) (H : Heap) (locs : List Loc) (ls : Array Slot) (hf : fX2_application_j192 grp x1_ x2_ x3_ x4_ x5_ u = some u') (K : Ok 0 76 G A s u H locs) (hl : lv_has ls 7 [(0, .ref (G.1 4)), (1, .int x1_), (2, .int x2_), (3, .int x3_), (4, .int x4_), (5, .int x5_)]) : W p l e (rmP (d + 1)) s m ([.ref (G.1 4), .int a0] : List Value).toArray below meth c H locs 0 0 (MQ below (Qg 0 76 G A none u') ([.ref (G.1 4), .int a0] : List Value).toArray s 0 0 A) (F0 m 192 ls []) := by
  have F := B.1
  have hx := F.1
  have hb := F.2.1
  unfold fX2_application_j192 at hf
  refine lv_aload_n hx hb dX2_application_192 rfl (lv_at hl 0 rfl) ?_
  refine ok_int F K fX2_32 dX2_application_193 ?_
  refine lv_if_ne (pc := 196) (tgt := 219) hx hb dX2_application_196 (by decide) (fun c3 => ?_) (fun c3 => ?_)
  · have hf := g_neg hf c3
    exact pX2_application_j219 hr0 hr1 hr2 B x4_ x5_ u _ _ _ hf K (lv_sub hl [0, 4, 5] rfl)
  · have hf := g_pos hf c3
    refine lv_aload_n hx hb dX2_application_199 rfl (lv_at hl 0 rfl) ?_
    refine ok_ref F K fX2_15 dX2_application_200 ?_
    refine lv_iload_n hx hb dX2_application_203 rfl (lv_at hl 3 rfl) ?_
    refine lv_iload hx hb dX2_application_204 (lv_at hl 5 rfl) ?_
    refine lv_iload_n hx hb dX2_application_206 rfl (lv_at hl 1 rfl) ?_
    obtain ⟨r5, u4, hu4, hf⟩ := g_b2 hf
    refine ok_calli (rest := []) F K (pX4_settle G hu4) mX4_settle oc2 lX2_113 rfl hl.1 rfl (rmPc d 4 ⟨⟨rfl, rfl⟩, Nat.le_of_ble_eq_true rfl, Nat.le_of_ble_eq_true rfl⟩) (Nat.le_of_ble_eq_true rfl) dX2_application_207 (fun H locs K => ?_)
    refine lv_if_ne (pc := 210) (tgt := 219) hx hb dX2_application_210 (by decide) (fun c6 => ?_) (fun c6 => ?_)
    · have hf := g_neg hf c6
      exact pX2_application_j219 hr0 hr1 hr2 B x4_ x5_ u4 _ _ _ hf K (lv_sub hl [0, 4, 5] rfl)
    · have hf := g_pos hf c6
      refine lv_aload_n hx hb dX2_application_213 rfl (lv_at hl 0 rfl) ?_
      refine lv_iconst (v := 3) hx hb dX2_application_214 kI_3 ?_
      refine lv_iload_n hx hb dX2_application_215 rfl (lv_at hl 2 rfl) ?_
      obtain ⟨u7, hu7, hf⟩ := g_bd hf
      refine ok_callv (rest := []) F K (pX2_fail G hu7) mX2_fail oc4 lX2_45 rfl hl.1 rfl (rmPc d 3 ⟨⟨rfl, rfl⟩, Nat.le_of_ble_eq_true rfl, Nat.le_of_ble_eq_true rfl⟩) (Nat.le_of_ble_eq_true rfl) dX2_application_216 (fun H locs K => ?_)
      exact pX2_application_j219 hr0 hr1 hr2 B x4_ x5_ u7 _ _ _ hf K (lv_sub hl [0, 4, 5] rfl)
set_option maxRecDepth 100000 in
set_option maxHeartbeats 4000000 in
theorem pX2_application_j176 {p : Program} {l : Launch} {e : Env} {s : State} {m : MethodId} {below : List Frame} {meth : Method} {c : Code} {A : Nat → Prop} {G : Gt} {d : Nat} {grp : Nat → Int32 → St → Option (Int32 × St)} {a0 : Int32} {u' : St} (hr0 : ∀ (x : Int32) (u : St) (r : Int32) (u1 : St), grp 0 x u = some (r, u1) → Ctr 0 76 l yX2_chain cX2_chain 6 (some .int) (rmP d) [.ref (G.1 4), .int x] G u (some (.int r)) u1) (hr1 : ∀ (u : St) (r : Int32) (u1 : St), grp 1 0 u = some (r, u1) → Ctr 0 76 l yX2_unary cX2_unary 5 (some .int) (rmP d) [.ref (G.1 4)] G u (some (.int r)) u1) (hr2 : ∀ (x : Int32) (u : St) (r : Int32) (u1 : St), grp 2 x u = some (r, u1) → Ctr 0 76 l yX2_application cX2_application 7 none (rmP d) [.ref (G.1 4), .int x] G u none u1) (B : Bd p s m [.ref (G.1 4), .int a0] meth c yX2_application cX2_application 7 none) (x1_ : Int32) (x2_ : Int32) (x3_ : Int32) (x4_ : Int32) (x5_ : Int32) (u : St) (H : Heap) (locs : List Loc) (ls : Array Slot) (hf : fX2_application_j176 grp x1_ x2_ x3_ x4_ x5_ u = some u') (K : Ok 0 76 G A s u H locs) (hl : lv_has ls 7 [(0, .ref (G.1 4)), (1, .int x1_), (2, .int x2_), (3, .int x3_), (4, .int x4_), (5, .int x5_)]) : W p l e (rmP (d + 1)) s m ([.ref (G.1 4), .int a0] : List Value).toArray below meth c H locs 0 0 (MQ below (Qg 0 76 G A none u') ([.ref (G.1 4), .int a0] : List Value).toArray s 0 0 A) (F0 m 176 ls []) := by
  have F := B.1
  have hx := F.1
  have hb := F.2.1
  unfold fX2_application_j176 at hf
  refine lv_aload_n hx hb dX2_application_176 rfl (lv_at hl 0 rfl) ?_
  refine lv_iconst (v := 5) hx hb dX2_application_177 kI_5 ?_
  obtain ⟨r9, u8, hu8, hf⟩ := g_b2 hf
  refine ok_calli (rest := []) F K (pX2_want G hu8) mX2_want oc4 lX2_86 rfl hl.1 rfl (rmPc d 2 ⟨⟨rfl, rfl⟩, Nat.le_of_ble_eq_true rfl, Nat.le_of_ble_eq_true rfl⟩) (Nat.le_of_ble_eq_true rfl) dX2_application_178 (fun H locs K => ?_)
  refine lv_pop hx hb dX2_application_181 rfl ?_
  refine lv_aload_n hx hb dX2_application_182 rfl (lv_at hl 0 rfl) ?_
  refine lv_dup hx hb dX2_application_183 rfl ?_
  refine ok_int F K fX2_28 dX2_application_184 ?_
  refine lv_iconst (v := 1) hx hb dX2_application_187 kI_1 ?_
  refine lv_isub hx hb dX2_application_188 ?_
  refine ok_putI F K qX2_28 dX2_application_189 (fun u10 H locs eu10 K => ?_)
  have hf := g_lt hf u10 eu10
  exact pX2_application_j192 hr0 hr1 hr2 B x1_ x2_ x3_ x4_ x5_ u10 _ _ _ hf K (lv_sub hl [0, 1, 2, 3, 4, 5] rfl)
set_option maxRecDepth 100000 in
set_option maxHeartbeats 4000000 in
theorem pX2_application_j165 {p : Program} {l : Launch} {e : Env} {s : State} {m : MethodId} {below : List Frame} {meth : Method} {c : Code} {A : Nat → Prop} {G : Gt} {d : Nat} {grp : Nat → Int32 → St → Option (Int32 × St)} {a0 : Int32} {u' : St} (hr0 : ∀ (x : Int32) (u : St) (r : Int32) (u1 : St), grp 0 x u = some (r, u1) → Ctr 0 76 l yX2_chain cX2_chain 6 (some .int) (rmP d) [.ref (G.1 4), .int x] G u (some (.int r)) u1) (hr1 : ∀ (u : St) (r : Int32) (u1 : St), grp 1 0 u = some (r, u1) → Ctr 0 76 l yX2_unary cX2_unary 5 (some .int) (rmP d) [.ref (G.1 4)] G u (some (.int r)) u1) (hr2 : ∀ (x : Int32) (u : St) (r : Int32) (u1 : St), grp 2 x u = some (r, u1) → Ctr 0 76 l yX2_application cX2_application 7 none (rmP d) [.ref (G.1 4), .int x] G u none u1) (B : Bd p s m [.ref (G.1 4), .int a0] meth c yX2_application cX2_application 7 none) (x1_ : Int32) (x2_ : Int32) (x3_ : Int32) (x4_ : Int32) (x5_ : Int32) (x6_ : Int32) (u : St) (H : Heap) (locs : List Loc) (ls : Array Slot) (hf : fX2_application_j165 grp x1_ x2_ x3_ x4_ x5_ x6_ u = some u') (K : Ok 0 76 G A s u H locs) (hl : lv_has ls 7 [(0, .ref (G.1 4)), (1, .int x1_), (2, .int x2_), (3, .int x3_), (4, .int x4_), (5, .int x5_), (6, .int x6_)]) : W p l e (rmP (d + 1)) s m ([.ref (G.1 4), .int a0] : List Value).toArray below meth c H locs 0 0 (MQ below (Qg 0 76 G A none u') ([.ref (G.1 4), .int a0] : List Value).toArray s 0 0 A) (F0 m 165 ls []) := by
  have F := B.1
  have hx := F.1
  have hb := F.2.1
  unfold fX2_application_j165 at hf
  refine lv_iload hx hb dX2_application_165 (lv_at hl 6 rfl) ?_
  refine lv_if_eq (pc := 167) (tgt := 176) hx hb dX2_application_167 (by decide) (fun c11 => ?_) (fun c11 => ?_)
  · have hf := g_pos hf c11
    exact pX2_application_j176 hr0 hr1 hr2 B x1_ x2_ x3_ x4_ x5_ u _ _ _ hf K (lv_sub hl [0, 1, 2, 3, 4, 5] rfl)
  · have hf := g_neg hf c11
    refine lv_aload_n hx hb dX2_application_170 rfl (lv_at hl 0 rfl) ?_
    refine lv_iconst (v := 4) hx hb dX2_application_171 kI_4 ?_
    refine lv_iload_n hx hb dX2_application_172 rfl (lv_at hl 2 rfl) ?_
    obtain ⟨u12, hu12, hf⟩ := g_bd hf
    refine ok_callv (rest := []) F K (pX2_fail G hu12) mX2_fail oc4 lX2_45 rfl hl.1 rfl (rmPc d 3 ⟨⟨rfl, rfl⟩, Nat.le_of_ble_eq_true rfl, Nat.le_of_ble_eq_true rfl⟩) (Nat.le_of_ble_eq_true rfl) dX2_application_173 (fun H locs K => ?_)
    exact pX2_application_j176 hr0 hr1 hr2 B x1_ x2_ x3_ x4_ x5_ u12 _ _ _ hf K (lv_sub hl [0, 1, 2, 3, 4, 5] rfl)
set_option maxRecDepth 100000 in
set_option maxHeartbeats 4000000 in
theorem pX2_application_L0 {p : Program} {l : Launch} {e : Env} {s : State} {m : MethodId} {below : List Frame} {meth : Method} {c : Code} {A : Nat → Prop} {G : Gt} {d : Nat} {grp : Nat → Int32 → St → Option (Int32 × St)} {a0 : Int32} {u' : St} (hr0 : ∀ (x : Int32) (u : St) (r : Int32) (u1 : St), grp 0 x u = some (r, u1) → Ctr 0 76 l yX2_chain cX2_chain 6 (some .int) (rmP d) [.ref (G.1 4), .int x] G u (some (.int r)) u1) (hr1 : ∀ (u : St) (r : Int32) (u1 : St), grp 1 0 u = some (r, u1) → Ctr 0 76 l yX2_unary cX2_unary 5 (some .int) (rmP d) [.ref (G.1 4)] G u (some (.int r)) u1) (hr2 : ∀ (x : Int32) (u : St) (r : Int32) (u1 : St), grp 2 x u = some (r, u1) → Ctr 0 76 l yX2_application cX2_application 7 none (rmP d) [.ref (G.1 4), .int x] G u none u1) (B : Bd p s m [.ref (G.1 4), .int a0] meth c yX2_application cX2_application 7 none) (n : Nat) : (∀ (x1_ : Int32) (x2_ : Int32) (x3_ : Int32) (x4_ : Int32) (x5_ : Int32) (x6_ : Int32) (u : St) (H : Heap) (locs : List Loc) (ls : Array Slot), fX2_application_L0 grp n 0 x1_ x2_ x3_ x4_ x5_ x6_ 0 u = some u' → Ok 0 76 G A s u H locs → lv_has ls 7 [(0, .ref (G.1 4)), (1, .int x1_), (2, .int x2_), (3, .int x3_), (4, .int x4_), (5, .int x5_), (6, .int x6_)] → W p l e (rmP (d + 1)) s m ([.ref (G.1 4), .int a0] : List Value).toArray below meth c H locs 0 0 (MQ below (Qg 0 76 G A none u') ([.ref (G.1 4), .int a0] : List Value).toArray s 0 0 A) (F0 m 75 ls [])) ∧ (∀ (x1_ : Int32) (x2_ : Int32) (x3_ : Int32) (x4_ : Int32) (x5_ : Int32) (u : St) (H : Heap) (locs : List Loc) (ls : Array Slot), fX2_application_L0 grp n 1 x1_ x2_ x3_ x4_ x5_ 0 0 u = some u' → Ok 0 76 G A s u H locs → lv_has ls 7 [(0, .ref (G.1 4)), (1, .int x1_), (2, .int x2_), (3, .int x3_), (4, .int x4_), (5, .int x5_)] → W p l e (rmP (d + 1)) s m ([.ref (G.1 4), .int a0] : List Value).toArray below meth c H locs 0 0 (MQ below (Qg 0 76 G A none u') ([.ref (G.1 4), .int a0] : List Value).toArray s 0 0 A) (F0 m 131 ls [])) ∧ (∀ (x1_ : Int32) (x2_ : Int32) (x3_ : Int32) (x4_ : Int32) (x5_ : Int32) (s0_ : Int32) (u : St) (H : Heap) (locs : List Loc) (ls : Array Slot), fX2_application_L0 grp n 2 x1_ x2_ x3_ x4_ x5_ 0 s0_ u = some u' → Ok 0 76 G A s u H locs → lv_has ls 7 [(0, .ref (G.1 4)), (1, .int x1_), (2, .int x2_), (3, .int x3_), (4, .int x4_), (5, .int x5_)] → W p l e (rmP (d + 1)) s m ([.ref (G.1 4), .int a0] : List Value).toArray below meth c H locs 0 0 (MQ below (Qg 0 76 G A none u') ([.ref (G.1 4), .int a0] : List Value).toArray s 0 0 A) (F0 m 148 ls [.int s0_])) := by
  have F := B.1
  have hx := F.1
  have hb := F.2.1
  induction n with
  | zero => exact ⟨fun _ _ _ _ _ _ _ _ _ _ hf => g_no hf, fun _ _ _ _ _ _ _ _ _ hf => g_no hf, fun _ _ _ _ _ _ _ _ _ _ hf => g_no hf⟩
  | succ n ih =>
    refine ⟨?_, ?_, ?_⟩
    · intro x1_ x2_ x3_ x4_ x5_ x6_ u H locs ls hf K hl
      have hf : fX2_application_L0_0 grp (fX2_application_L0 grp n) x1_ x2_ x3_ x4_ x5_ x6_ u = some u' := hf
      unfold fX2_application_L0_0 at hf
      refine lv_iload hx hb dX2_application_75 (lv_at hl 6 rfl) ?_
      refine lv_if_eq (pc := 77) (tgt := 165) hx hb dX2_application_77 (by decide) (fun c13 => ?_) (fun c13 => ?_)
      · have hf := g_pos hf c13
        exact pX2_application_j165 hr0 hr1 hr2 B x1_ x2_ x3_ x4_ x5_ x6_ u _ _ _ hf K (lv_sub hl [0, 1, 2, 3, 4, 5, 6] rfl)
      · have hf := g_neg hf c13
        refine lv_iload hx hb dX2_application_80 (lv_at hl 5 rfl) ?_
        refine lv_iconst (v := 5) hx hb dX2_application_82 kI_5 ?_
        refine lv_icmp_ge (pc := 83) (tgt := 165) hx hb dX2_application_83 (by decide) (fun c14 => ?_) (fun c14 => ?_)
        · have hf := g_pos hf c14
          exact pX2_application_j165 hr0 hr1 hr2 B x1_ x2_ x3_ x4_ x5_ x6_ u _ _ _ hf K (lv_sub hl [0, 1, 2, 3, 4, 5, 6] rfl)
        · have hf := g_neg hf c14
          refine lv_aload_n hx hb dX2_application_86 rfl (lv_at hl 0 rfl) ?_
          obtain ⟨r16, u15, hu15, hf⟩ := g_b2 hf
          refine ok_calli (rest := []) F K (pX2_next G hu15) mX2_next oc4 lX2_49 rfl hl.1 rfl (rmPc d 2 ⟨⟨rfl, rfl⟩, Nat.le_of_ble_eq_true rfl, Nat.le_of_ble_eq_true rfl⟩) (Nat.le_of_ble_eq_true rfl) dX2_application_87 (fun H locs K => ?_)
          refine lv_iconst (v := 2) hx hb dX2_application_90 kI_2 ?_
          refine lv_icmp_ne (pc := 91) (tgt := 102) hx hb dX2_application_91 (by decide) (fun c17 => ?_) (fun c17 => ?_)
          · have hf := g_neg hf c17
            refine lv_aload_n hx hb dX2_application_102 rfl (lv_at hl 0 rfl) ?_
            refine lv_iconst (v := 3) hx hb dX2_application_103 kI_3 ?_
            obtain ⟨r19, u18, hu18, hf⟩ := g_b2 hf
            refine ok_calli (rest := []) F K (pX2_want G hu18) mX2_want oc4 lX2_86 rfl hl.1 rfl (rmPc d 2 ⟨⟨rfl, rfl⟩, Nat.le_of_ble_eq_true rfl, Nat.le_of_ble_eq_true rfl⟩) (Nat.le_of_ble_eq_true rfl) dX2_application_104 (fun H locs K => ?_)
            refine lv_if_eq (pc := 107) (tgt := 131) hx hb dX2_application_107 (by decide) (fun c20 => ?_) (fun c20 => ?_)
            · have hf := g_pos hf c20
              exact ih.2.1 x1_ x2_ x3_ x4_ x5_ u18 _ _ _ hf K (lv_sub hl [0, 1, 2, 3, 4, 5] rfl)
            · have hf := g_neg hf c20
              refine lv_aload_n hx hb dX2_application_110 rfl (lv_at hl 0 rfl) ?_
              refine ok_ref F K fX2_19 dX2_application_111 ?_
              refine lv_aload_n hx hb dX2_application_114 rfl (lv_at hl 0 rfl) ?_
              refine ok_ref F K fX2_19 dX2_application_115 ?_
              refine lv_aload_n hx hb dX2_application_118 rfl (lv_at hl 0 rfl) ?_
              refine ok_ref F K fX2_9 dX2_application_119 ?_
              refine ok_long F K fX2_90 dX2_application_122 ?_
              obtain ⟨r22, u21, hu21, hf⟩ := g_b2 hf
              refine ok_calli (rest := [.ref (G.1 3)]) F K (pX7_variable G hu21) mX7_variable oc3 lX2_94 rfl hl.1 rfl (rmPc d 4 ⟨⟨rfl, rfl⟩, Nat.le_of_ble_eq_true rfl, Nat.le_of_ble_eq_true rfl⟩) (Nat.le_of_ble_eq_true rfl) dX2_application_125 (fun H locs K => ?_)
              obtain ⟨u23, hu23, hf⟩ := g_bd hf
              refine ok_callv (rest := []) F K (pX7_addVariable G hu23) mX7_addVariable oc3 lX2_109 rfl hl.1 rfl (rmPc d 2 ⟨⟨rfl, rfl⟩, Nat.le_of_ble_eq_true rfl, Nat.le_of_ble_eq_true rfl⟩) (Nat.le_of_ble_eq_true rfl) dX2_application_128 (fun H locs K => ?_)
              exact ih.2.1 x1_ x2_ x3_ x4_ x5_ u23 _ _ _ hf K (lv_sub hl [0, 1, 2, 3, 4, 5] rfl)
          · have hf := g_pos hf c17
            refine lv_aload_n hx hb dX2_application_94 rfl (lv_at hl 0 rfl) ?_
            refine lv_iconst (v := 0) hx hb dX2_application_95 kI_0 ?_
            obtain ⟨r25, u24, hu24, hf⟩ := g_b2 hf
            refine ok_callv (rest := []) F K (hr2 _ _ _ _ hu24) mX2_application oc4 lX2_82 rfl hl.1 rfl (rmPr d 7 (by decide)) (Nat.le_of_ble_eq_true rfl) dX2_application_96 (fun H locs K => ?_)
            refine lv_goto (pc := 99) (tgt := 131) hx hb dX2_application_99 (by decide) ?_
            exact ih.2.1 x1_ x2_ x3_ x4_ x5_ u24 _ _ _ hf K (lv_sub hl [0, 1, 2, 3, 4, 5] rfl)
    · intro x1_ x2_ x3_ x4_ x5_ u H locs ls hf K hl
      have hf : fX2_application_L0_1 grp (fX2_application_L0 grp n) x1_ x2_ x3_ x4_ x5_ u = some u' := hf
      unfold fX2_application_L0_1 at hf
      obtain ⟨x26, ex26⟩ : ∃ y : Int32, y = x5_ + 1 := ⟨_, rfl⟩
      have hf := g_lt hf x26 ex26
      refine lv_iinc (v := x26) (lv' := [(5, .int x26), (0, .ref (G.1 4)), (1, .int x1_), (2, .int x2_), (3, .int x3_), (4, .int x4_)]) hx hb dX2_application_131 hl (k := 5) rfl (by rw [kI_1, ex26]) (by decide) rfl (fun ls hl => ?_)
      refine lv_aload_n hx hb dX2_application_134 rfl (lv_at hl 1 rfl) ?_
      obtain ⟨r28, u27, hu27, hf⟩ := g_b2 hf
      refine ok_calli (rest := []) F K (pX2_next G hu27) mX2_next oc4 lX2_49 rfl hl.1 rfl (rmPc d 2 ⟨⟨rfl, rfl⟩, Nat.le_of_ble_eq_true rfl, Nat.le_of_ble_eq_true rfl⟩) (Nat.le_of_ble_eq_true rfl) dX2_application_135 (fun H locs K => ?_)
      refine lv_bipush (v := 6) hx hb dX2_application_138 kB_6 ?_
      refine lv_icmp_ne (pc := 140) (tgt := 147) hx hb dX2_application_140 (by decide) (fun c29 => ?_) (fun c29 => ?_)
      · have hf := g_neg hf c29
        refine lv_iconst (v := 0) hx hb dX2_application_147 kI_0 ?_
        exact ih.2.2 x1_ x2_ x3_ x4_ x26 0 u27 _ _ _ hf K (lv_sub hl [1, 2, 3, 4, 5, 0] rfl)
      · have hf := g_pos hf c29
        refine lv_iconst (v := 1) hx hb dX2_application_143 kI_1 ?_
        refine lv_goto (pc := 144) (tgt := 148) hx hb dX2_application_144 (by decide) ?_
        exact ih.2.2 x1_ x2_ x3_ x4_ x26 1 u27 _ _ _ hf K (lv_sub hl [1, 2, 3, 4, 5, 0] rfl)
    · intro x1_ x2_ x3_ x4_ x5_ s0_ u H locs ls hf K hl
      have hf : fX2_application_L0_2 grp (fX2_application_L0 grp n) x1_ x2_ x3_ x4_ x5_ s0_ u = some u' := hf
      unfold fX2_application_L0_2 at hf
      refine lv_istore (lv' := [(6, .int s0_), (0, .ref (G.1 4)), (1, .int x1_), (2, .int x2_), (3, .int x3_), (4, .int x4_), (5, .int x5_)]) hx hb dX2_application_148 hl (by decide) rfl (fun ls hl => ?_)
      refine lv_iload hx hb dX2_application_150 (lv_at hl 0 rfl) ?_
      refine lv_if_eq (pc := 152) (tgt := 75) hx hb dX2_application_152 (by decide) (fun c30 => ?_) (fun c30 => ?_)
      · have hf := g_pos hf c30
        exact ih.1 x1_ x2_ x3_ x4_ x5_ s0_ u _ _ _ hf K (lv_sub hl [1, 2, 3, 4, 5, 6, 0] rfl)
      · have hf := g_neg hf c30
        refine lv_aload_n hx hb dX2_application_155 rfl (lv_at hl 1 rfl) ?_
        refine ok_ref F K fX2_9 dX2_application_156 ?_
        obtain ⟨u31, hu31, hf⟩ := g_bd hf
        refine ok_callv (rest := []) F K (pX6_take G hu31) mX6_take oc1 lX2_52 rfl hl.1 rfl (rmPc d 1 ⟨⟨rfl, rfl⟩, Nat.le_of_ble_eq_true rfl, Nat.le_of_ble_eq_true rfl⟩) (Nat.le_of_ble_eq_true rfl) dX2_application_159 (fun H locs K => ?_)
        refine lv_goto (pc := 162) (tgt := 75) hx hb dX2_application_162 (by decide) ?_
        exact ih.1 x1_ x2_ x3_ x4_ x5_ s0_ u31 _ _ _ hf K (lv_sub hl [1, 2, 3, 4, 5, 6, 0] rfl)
set_option maxRecDepth 100000 in
set_option maxHeartbeats 4000000 in
theorem poX2_application {l : Launch} {G : Gt} {d : Nat} {grp : Nat → Int32 → St → Option (Int32 × St)} (hr0 : ∀ (x : Int32) (u : St) (r : Int32) (u1 : St), grp 0 x u = some (r, u1) → Ctr 0 76 l yX2_chain cX2_chain 6 (some .int) (rmP d) [.ref (G.1 4), .int x] G u (some (.int r)) u1) (hr1 : ∀ (u : St) (r : Int32) (u1 : St), grp 1 0 u = some (r, u1) → Ctr 0 76 l yX2_unary cX2_unary 5 (some .int) (rmP d) [.ref (G.1 4)] G u (some (.int r)) u1) (hr2 : ∀ (x : Int32) (u : St) (r : Int32) (u1 : St), grp 2 x u = some (r, u1) → Ctr 0 76 l yX2_application cX2_application 7 none (rmP d) [.ref (G.1 4), .int x] G u none u1) {a0 : Int32} {u u' : St} (hf : oX2_application grp a0 u = some u') : Ctr 0 76 l yX2_application cX2_application 7 none (rmP (d + 1)) [.ref (G.1 4), .int a0] G u none u' := by
  refine Ctr.mk (by decide) (Nat.le_of_ble_eq_true rfl) (fun p e s m below meth c A ls B K hl => ?_)
  have F := B.1
  have hx := F.1
  have hb := F.2.1
  have hl : lv_has ls 7 [(0, .ref (G.1 4)), (1, .int a0)] := hl
  unfold oX2_application at hf
  refine lv_aload_n hx hb dX2_application_0 rfl (lv_at hl 0 rfl) ?_
  refine ok_ref F K fX2_9 dX2_application_1 ?_
  refine ok_int F K fX2_42 dX2_application_4 ?_
  refine lv_topi (fun x32 ex32 => ?_)
  have hf := g_lt hf x32 ex32
  refine lv_istore_n (lv' := [(2, .int x32), (0, .ref (G.1 4)), (1, .int a0)]) hx hb dX2_application_7 rfl hl (by decide) rfl (fun ls hl => ?_)
  refine lv_aload_n hx hb dX2_application_8 rfl (lv_at hl 1 rfl) ?_
  refine ok_ref F K fX2_15 dX2_application_9 ?_
  refine lv_aload_n hx hb dX2_application_12 rfl (lv_at hl 1 rfl) ?_
  refine ok_ref F K fX2_9 dX2_application_13 ?_
  refine ok_long F K fX2_90 dX2_application_16 ?_
  obtain ⟨r34, u33, hu33, hf⟩ := g_b2 hf
  refine ok_calli (rest := []) F K (pX4_symbol G hu33) mX4_symbol oc2 lX2_101 rfl hl.1 rfl (rmPc d 4 ⟨⟨rfl, rfl⟩, Nat.le_of_ble_eq_true rfl, Nat.le_of_ble_eq_true rfl⟩) (Nat.le_of_ble_eq_true rfl) dX2_application_19 (fun H locs K => ?_)
  refine lv_istore_n (lv' := [(3, .int r34), (2, .int x32), (0, .ref (G.1 4)), (1, .int a0)]) hx hb dX2_application_22 rfl hl (by decide) rfl (fun ls hl => ?_)
  refine lv_aload_n hx hb dX2_application_23 rfl (lv_at hl 2 rfl) ?_
  refine ok_ref F K fX2_9 dX2_application_24 ?_
  obtain ⟨u35, hu35, hf⟩ := g_bd hf
  refine ok_callv (rest := []) F K (pX6_take G hu35) mX6_take oc1 lX2_52 rfl hl.1 rfl (rmPc d 1 ⟨⟨rfl, rfl⟩, Nat.le_of_ble_eq_true rfl, Nat.le_of_ble_eq_true rfl⟩) (Nat.le_of_ble_eq_true rfl) dX2_application_27 (fun H locs K => ?_)
  refine lv_iload_n hx hb dX2_application_30 rfl (lv_at hl 0 rfl) ?_
  refine lv_if_ge (pc := 31) (tgt := 41) hx hb dX2_application_31 (by decide) (fun c36 => ?_) (fun c36 => ?_)
  · have hf := g_pos hf c36
    refine lv_aload_n hx hb dX2_application_41 rfl (lv_at hl 2 rfl) ?_
    refine ok_ref F K fX2_19 dX2_application_42 ?_
    refine lv_iload_n hx hb dX2_application_45 rfl (lv_at hl 0 rfl) ?_
    refine lv_iconst (v := 3) hx hb dX2_application_46 kI_3 ?_
    refine lv_ishl hx hb dX2_application_47 ?_
    obtain ⟨r38, u37, hu37, hf⟩ := g_b2 hf
    refine ok_calli (rest := []) F K (pX7_addCell G hu37) mX7_addCell oc3 lX2_106 rfl hl.1 rfl (rmPc d 2 ⟨⟨rfl, rfl⟩, Nat.le_of_ble_eq_true rfl, Nat.le_of_ble_eq_true rfl⟩) (Nat.le_of_ble_eq_true rfl) dX2_application_48 (fun H locs K => ?_)
    refine lv_istore (lv' := [(4, .int r38), (3, .int r34), (2, .int x32), (0, .ref (G.1 4)), (1, .int a0)]) hx hb dX2_application_51 hl (by decide) rfl (fun ls hl => ?_)
    refine lv_iconst (v := 0) hx hb dX2_application_53 kI_0 ?_
    refine lv_topi (fun x39 ex39 => ?_)
    have hf := g_lt hf x39 ex39
    refine lv_istore (lv' := [(5, .int x39), (4, .int r38), (3, .int r34), (2, .int x32), (0, .ref (G.1 4)), (1, .int a0)]) hx hb dX2_application_54 hl (by decide) rfl (fun ls hl => ?_)
    refine lv_aload_n hx hb dX2_application_56 rfl (lv_at hl 4 rfl) ?_
    obtain ⟨r41, u40, hu40, hf⟩ := g_b2 hf
    refine ok_calli (rest := []) F K (pX2_next G hu40) mX2_next oc4 lX2_49 rfl hl.1 rfl (rmPc d 2 ⟨⟨rfl, rfl⟩, Nat.le_of_ble_eq_true rfl, Nat.le_of_ble_eq_true rfl⟩) (Nat.le_of_ble_eq_true rfl) dX2_application_57 (fun H locs K => ?_)
    refine lv_iconst (v := 4) hx hb dX2_application_60 kI_4 ?_
    refine lv_icmp_ne (pc := 61) (tgt := 192) hx hb dX2_application_61 (by decide) (fun c42 => ?_) (fun c42 => ?_)
    · have hf := g_neg hf c42
      exact pX2_application_j192 hr0 hr1 hr2 B a0 x32 r34 r38 x39 u40 _ _ _ hf K (lv_sub hl [4, 5, 3, 2, 1, 0] rfl)
    · have hf := g_pos hf c42
      refine lv_aload_n hx hb dX2_application_64 rfl (lv_at hl 4 rfl) ?_
      obtain ⟨r44, u43, hu43, hf⟩ := g_b2 hf
      refine ok_calli (rest := []) F K (pX2_opens G hu43) mX2_opens oc4 lX2_66 rfl hl.1 rfl (rmPc d 1 ⟨⟨rfl, rfl⟩, Nat.le_of_ble_eq_true rfl, Nat.le_of_ble_eq_true rfl⟩) (Nat.le_of_ble_eq_true rfl) dX2_application_65 (fun H locs K => ?_)
      refine lv_if_ne (pc := 68) (tgt := 72) hx hb dX2_application_68 (by decide) (fun c45 => ?_) (fun c45 => ?_)
      · have hf := g_neg hf c45
        refine lv_iconst (v := 1) hx hb dX2_application_72 kI_1 ?_
        refine lv_topi (fun x46 ex46 => ?_)
        have hf := g_lt hf x46 ex46
        refine lv_istore (lv' := [(6, .int x46), (5, .int x39), (4, .int r38), (3, .int r34), (2, .int x32), (0, .ref (G.1 4)), (1, .int a0)]) hx hb dX2_application_73 hl (by decide) rfl (fun ls hl => ?_)
        exact (pX2_application_L0 hr0 hr1 hr2 B FU).1 a0 x32 r34 r38 x39 x46 u43 _ _ _ hf K (lv_sub hl [5, 6, 4, 3, 2, 1, 0] rfl)
      · have hf := g_pos hf c45
        exact ok_retv B K hf dX2_application_71
  · have hf := g_neg hf c36
    refine lv_aload_n hx hb dX2_application_34 rfl (lv_at hl 2 rfl) ?_
    refine lv_iconst (v := 5) hx hb dX2_application_35 kI_5 ?_
    refine lv_iload_n hx hb dX2_application_36 rfl (lv_at hl 1 rfl) ?_
    obtain ⟨u47, hu47, hf⟩ := g_bd hf
    refine ok_callv (rest := []) F K (pX2_fail G hu47) mX2_fail oc4 lX2_45 rfl hl.1 rfl (rmPc d 3 ⟨⟨rfl, rfl⟩, Nat.le_of_ble_eq_true rfl, Nat.le_of_ble_eq_true rfl⟩) (Nat.le_of_ble_eq_true rfl) dX2_application_37 (fun H locs K => ?_)
    exact ok_retv B K hf dX2_application_40
theorem pPar {l : Launch} (G : Gt) (d : Nat) : (∀ (x : Int32) (u : St) (r : Int32) (u1 : St), fPar d 0 x u = some (r, u1) → Ctr 0 76 l yX2_chain cX2_chain 6 (some .int) (rmP d) [.ref (G.1 4), .int x] G u (some (.int r)) u1) ∧ (∀ (u : St) (r : Int32) (u1 : St), fPar d 1 0 u = some (r, u1) → Ctr 0 76 l yX2_unary cX2_unary 5 (some .int) (rmP d) [.ref (G.1 4)] G u (some (.int r)) u1) ∧ (∀ (x : Int32) (u : St) (r : Int32) (u1 : St), fPar d 2 x u = some (r, u1) → Ctr 0 76 l yX2_application cX2_application 7 none (rmP d) [.ref (G.1 4), .int x] G u none u1) := by
  induction d with
  | zero => exact ⟨fun _ _ _ _ h => g_no h, fun _ _ _ h => g_no h, fun _ _ _ _ h => g_no h⟩
  | succ d ih =>
    refine ⟨fun x u r u1 h => ?_, fun u r u1 h => ?_, fun x u r u1 h => ?_⟩
    · exact poX2_chain ih.1 ih.2.1 ih.2.2 h
    · exact poX2_unary ih.1 ih.2.1 ih.2.2 h
    · have h : (bd (oX2_application (fPar d) x u) fun u1 => some ((0 : Int32), u1)) = some (r, u1) := h
      obtain ⟨u2, h1, h2⟩ := g_bd h
      cases h2
      exact poX2_application ih.1 ih.2.1 ih.2.2 h1
/-- as deep as a text of this length can go -/
abbrev rmX2_chain : Room := rmP 200
theorem pX2_chain {l : Launch} (G : Gt) {a0 : Int32} {r : Int32} {u u' : St} (hf : fX2_chain a0 u = some (r, u')) : Ctr 0 76 l yX2_chain cX2_chain 6 (some .int) rmX2_chain [.ref (G.1 4), .int a0] G u (some (.int r)) u' := (pPar G 200).1 a0 u r u' hf
abbrev rmX2_formula : Room := { frames := 221, cells := 0, slots := 0, locals := 12425 }
set_option maxRecDepth 100000 in
set_option maxHeartbeats 4000000 in
theorem pX2_formula {l : Launch} (G : Gt) {r : Int32} {u u' : St} (hf : fX2_formula u = some (r, u')) : Ctr 0 76 l yX2_formula cX2_formula 1 (some .int) rmX2_formula [.ref (G.1 4)] G u (some (.int r)) u' := by
  refine Ctr.mk (by decide) (Nat.le_of_ble_eq_true rfl) (fun p e s m below meth c A ls B K hl => ?_)
  have F := B.1
  have hx := F.1
  have hb := F.2.1
  have hl : lv_has ls 1 [(0, .ref (G.1 4))] := hl
  unfold fX2_formula at hf
  refine lv_aload_n hx hb dX2_formula_0 rfl (lv_at hl 0 rfl) ?_
  refine lv_iconst (v := 0) hx hb dX2_formula_1 kI_0 ?_
  obtain ⟨r2, u1, hu1, hf⟩ := g_b2 hf
  refine ok_calli (rest := []) F K (pX2_chain G hu1) mX2_chain oc4 lX2_55 rfl hl.1 rfl ⟨⟨rfl, rfl⟩, Nat.le_of_ble_eq_true rfl, Nat.le_of_ble_eq_true rfl⟩ (Nat.le_of_ble_eq_true rfl) dX2_formula_2 (fun H locs K => ?_)
  exact ok_reti B K hf dX2_formula_5
abbrev rmX11_read : Room := { frames := 222, cells := 0, slots := 0, locals := 12445 }
set_option maxRecDepth 100000 in
set_option maxHeartbeats 4000000 in
theorem pX11_read_j144 {p : Program} {l : Launch} {e : Env} {s : State} {m : MethodId} {below : List Frame} {meth : Method} {c : Code} {A : Nat → Prop} {G : Gt} {r : Int32} {u' : St} (B : Bd p s m [.ref (G.1 0)] meth c yX11_read cX11_read 7 (some .int)) (x1_ : Int32) (x2_ : Int32) (x3_ : Int32) (u : St) (H : Heap) (locs : List Loc) (ls : Array Slot) (hf : fX11_read_j144 x1_ x2_ x3_ u = some (r, u')) (K : Ok 0 76 G A s u H locs) (hl : lv_has ls 7 [(0, .ref (G.1 0)), (1, .int x1_), (2, .int x2_), (3, .int x3_)]) : W p l e rmX11_read s m ([.ref (G.1 0)] : List Value).toArray below meth c H locs 0 0 (MQ below (Qg 0 76 G A (some (.int r)) u') ([.ref (G.1 0)] : List Value).toArray s 0 0 A) (F0 m 144 ls []) := by
  have F := B.1
  have hx := F.1
  have hb := F.2.1
  unfold fX11_read_j144 at hf
  refine lv_aload_n hx hb dX11_read_144 rfl (lv_at hl 0 rfl) ?_
  refine ok_ref F K fX11_35 dX11_read_145 ?_
  refine ok_int F K fX11_122 dX11_read_148 ?_
  refine lv_if_eq (pc := 151) (tgt := 186) hx hb dX11_read_151 (by decide) (fun c1 => ?_) (fun c1 => ?_)
  · have hf := g_pos hf c1
    refine lv_aload_n hx hb dX11_read_186 rfl (lv_at hl 0 rfl) ?_
    refine lv_iconst (v := (-1)) hx hb dX11_read_187 kI_m1 ?_
    refine ok_putI F K qX11_84 dX11_read_188 (fun u2 H locs eu2 K => ?_)
    have hf := g_lt hf u2 eu2
    refine lv_aload_n hx hb dX11_read_191 rfl (lv_at hl 0 rfl) ?_
    refine ok_ref F K fX11_71 dX11_read_192 ?_
    obtain ⟨u3, hu3, hf⟩ := g_bd hf
    refine ok_callv (rest := []) F K (pX3_forget G hu3) mX3_forget oc9 lX11_137 rfl hl.1 rfl ⟨⟨rfl, rfl⟩, Nat.le_of_ble_eq_true rfl, Nat.le_of_ble_eq_true rfl⟩ (Nat.le_of_ble_eq_true rfl) dX11_read_195 (fun H locs K => ?_)
    refine lv_aload_n hx hb dX11_read_198 rfl (lv_at hl 0 rfl) ?_
    refine ok_ref F K fX11_19 dX11_read_199 ?_
    refine ok_int F K fX11_95 dX11_read_202 ?_
    exact ok_reti B K hf dX11_read_205
  · have hf := g_neg hf c1
    refine lv_aload_n hx hb dX11_read_154 rfl (lv_at hl 0 rfl) ?_
    refine ok_ref F K fX11_19 dX11_read_155 ?_
    refine lv_iload_n hx hb dX11_read_158 rfl (lv_at hl 1 rfl) ?_
    refine lv_iload_n hx hb dX11_read_159 rfl (lv_at hl 2 rfl) ?_
    refine lv_iload_n hx hb dX11_read_160 rfl (lv_at hl 3 rfl) ?_
    obtain ⟨u4, hu4, hf⟩ := g_bd hf
    refine ok_callv (rest := []) F K (pX4_takeBack G hu4) mX4_takeBack oc2 lX11_132 rfl hl.1 rfl ⟨⟨rfl, rfl⟩, Nat.le_of_ble_eq_true rfl, Nat.le_of_ble_eq_true rfl⟩ (Nat.le_of_ble_eq_true rfl) dX11_read_161 (fun H locs K => ?_)
    refine lv_aload_n hx hb dX11_read_164 rfl (lv_at hl 0 rfl) ?_
    refine lv_aload_n hx hb dX11_read_165 rfl (lv_at hl 0 rfl) ?_
    refine ok_ref F K fX11_35 dX11_read_166 ?_
    refine ok_int F K fX11_136 dX11_read_169 ?_
    refine ok_putI F K qX11_84 dX11_read_172 (fun u5 H locs eu5 K => ?_)
    have hf := g_lt hf u5 eu5
    refine lv_bipush (v := (-10)) hx hb dX11_read_175 kB_m10 ?_
    refine lv_aload_n hx hb dX11_read_177 rfl (lv_at hl 0 rfl) ?_
    refine ok_ref F K fX11_35 dX11_read_178 ?_
    refine ok_int F K fX11_122 dX11_read_181 ?_
    refine lv_isub hx hb dX11_read_184 ?_
    exact ok_reti B K hf dX11_read_185
set_option maxRecDepth 100000 in
set_option maxHeartbeats 4000000 in
theorem pX11_read_j125 {p : Program} {l : Launch} {e : Env} {s : State} {m : MethodId} {below : List Frame} {meth : Method} {c : Code} {A : Nat → Prop} {G : Gt} {r : Int32} {u' : St} (B : Bd p s m [.ref (G.1 0)] meth c yX11_read cX11_read 7 (some .int)) (x1_ : Int32) (x2_ : Int32) (x3_ : Int32) (x5_ : Int32) (u : St) (H : Heap) (locs : List Loc) (ls : Array Slot) (hf : fX11_read_j125 x1_ x2_ x3_ x5_ u = some (r, u')) (K : Ok 0 76 G A s u H locs) (hl : lv_has ls 7 [(0, .ref (G.1 0)), (1, .int x1_), (2, .int x2_), (3, .int x3_), (5, .int x5_)]) : W p l e rmX11_read s m ([.ref (G.1 0)] : List Value).toArray below meth c H locs 0 0 (MQ below (Qg 0 76 G A (some (.int r)) u') ([.ref (G.1 0)] : List Value).toArray s 0 0 A) (F0 m 125 ls []) := by
  have F := B.1
  have hx := F.1
  have hb := F.2.1
  unfold fX11_read_j125 at hf
  refine lv_aload_n hx hb dX11_read_125 rfl (lv_at hl 0 rfl) ?_
  refine ok_ref F K fX11_35 dX11_read_126 ?_
  refine lv_iconst (v := 5) hx hb dX11_read_129 kI_5 ?_
  refine lv_iload hx hb dX11_read_130 (lv_at hl 4 rfl) ?_
  obtain ⟨u6, hu6, hf⟩ := g_bd hf
  refine ok_callv (rest := []) F K (pX2_fail G hu6) mX2_fail oc4 lX11_128 rfl hl.1 rfl ⟨⟨rfl, rfl⟩, Nat.le_of_ble_eq_true rfl, Nat.le_of_ble_eq_true rfl⟩ (Nat.le_of_ble_eq_true rfl) dX11_read_132 (fun H locs K => ?_)
  refine lv_goto (pc := 135) (tgt := 144) hx hb dX11_read_135 (by decide) ?_
  exact pX11_read_j144  B x1_ x2_ x3_ u6 _ _ _ hf K (lv_sub hl [0, 1, 2, 3] rfl)
set_option maxRecDepth 100000 in
set_option maxHeartbeats 4000000 in
theorem pX11_read_L0 {p : Program} {l : Launch} {e : Env} {s : State} {m : MethodId} {below : List Frame} {meth : Method} {c : Code} {A : Nat → Prop} {G : Gt} {r : Int32} {u' : St} (B : Bd p s m [.ref (G.1 0)] meth c yX11_read cX11_read 7 (some .int)) (n : Nat) : (∀ (x1_ : Int32) (x2_ : Int32) (x3_ : Int32) (x4_ : Int32) (u : St) (H : Heap) (locs : List Loc) (ls : Array Slot), fX11_read_L0  n 0 x1_ x2_ x3_ x4_ u = some (r, u') → Ok 0 76 G A s u H locs → lv_has ls 7 [(0, .ref (G.1 0)), (1, .int x1_), (2, .int x2_), (3, .int x3_), (4, .int x4_)] → W p l e rmX11_read s m ([.ref (G.1 0)] : List Value).toArray below meth c H locs 0 0 (MQ below (Qg 0 76 G A (some (.int r)) u') ([.ref (G.1 0)] : List Value).toArray s 0 0 A) (F0 m 34 ls [])) := by
  have F := B.1
  have hx := F.1
  have hb := F.2.1
  induction n with
  | zero => exact fun _ _ _ _ _ _ _ _ hf => g_no hf
  | succ n ih =>
    refine ?_
    · intro x1_ x2_ x3_ x4_ u H locs ls hf K hl
      have hf : fX11_read_L0_0  (fX11_read_L0  n) x1_ x2_ x3_ x4_ u = some (r, u') := hf
      unfold fX11_read_L0_0 at hf
      refine lv_iload hx hb dX11_read_34 (lv_at hl 4 rfl) ?_
      refine lv_sipush (v := 1500) hx hb dX11_read_36 kS_1500 ?_
      refine lv_icmp_ge (pc := 39) (tgt := 144) hx hb dX11_read_39 (by decide) (fun c7 => ?_) (fun c7 => ?_)
      · have hf := g_pos hf c7
        exact pX11_read_j144  B x1_ x2_ x3_ u _ _ _ hf K (lv_sub hl [0, 1, 2, 3] rfl)
      · have hf := g_neg hf c7
        refine lv_aload_n hx hb dX11_read_42 rfl (lv_at hl 0 rfl) ?_
        refine ok_ref F K fX11_35 dX11_read_43 ?_
        obtain ⟨r9, u8, hu8, hf⟩ := g_b2 hf
        refine ok_calli (rest := []) F K (pX2_next G hu8) mX2_next oc4 lX11_107 rfl hl.1 rfl ⟨⟨rfl, rfl⟩, Nat.le_of_ble_eq_true rfl, Nat.le_of_ble_eq_true rfl⟩ (Nat.le_of_ble_eq_true rfl) dX11_read_46 (fun H locs K => ?_)
        refine lv_iconst (v := 1) hx hb dX11_read_49 kI_1 ?_
        refine lv_icmp_eq (pc := 50) (tgt := 144) hx hb dX11_read_50 (by decide) (fun c10 => ?_) (fun c10 => ?_)
        · have hf := g_pos hf c10
          exact pX11_read_j144  B x1_ x2_ x3_ u8 _ _ _ hf K (lv_sub hl [0, 1, 2, 3] rfl)
        · have hf := g_neg hf c10
          refine lv_aload_n hx hb dX11_read_53 rfl (lv_at hl 0 rfl) ?_
          refine ok_ref F K fX11_10 dX11_read_54 ?_
          refine ok_int F K fX11_111 dX11_read_57 ?_
          refine lv_topi (fun x11 ex11 => ?_)
          have hf := g_lt hf x11 ex11
          refine lv_istore (lv' := [(5, .int x11), (0, .ref (G.1 0)), (1, .int x1_), (2, .int x2_), (3, .int x3_), (4, .int x4_)]) hx hb dX11_read_60 hl (by decide) rfl (fun ls hl => ?_)
          refine lv_aload_n hx hb dX11_read_62 rfl (lv_at hl 1 rfl) ?_
          refine ok_ref F K fX11_26 dX11_read_63 ?_
          obtain ⟨u12, hu12, hf⟩ := g_bd hf
          refine ok_callv (rest := []) F K (pX7_begin G hu12) mX7_begin oc3 lX11_114 rfl hl.1 rfl ⟨⟨rfl, rfl⟩, Nat.le_of_ble_eq_true rfl, Nat.le_of_ble_eq_true rfl⟩ (Nat.le_of_ble_eq_true rfl) dX11_read_66 (fun H locs K => ?_)
          refine lv_aload_n hx hb dX11_read_69 rfl (lv_at hl 1 rfl) ?_
          refine ok_ref F K fX11_35 dX11_read_70 ?_
          obtain ⟨r14, u13, hu13, hf⟩ := g_b2 hf
          refine ok_calli (rest := []) F K (pX2_formula G hu13) mX2_formula oc4 lX11_115 rfl hl.1 rfl ⟨⟨rfl, rfl⟩, Nat.le_of_ble_eq_true rfl, Nat.le_of_ble_eq_true rfl⟩ (Nat.le_of_ble_eq_true rfl) dX11_read_73 (fun H locs K => ?_)
          refine lv_istore (lv' := [(6, .int r14), (5, .int x11), (0, .ref (G.1 0)), (1, .int x1_), (2, .int x2_), (3, .int x3_), (4, .int x4_)]) hx hb dX11_read_76 hl (by decide) rfl (fun ls hl => ?_)
          refine lv_aload_n hx hb dX11_read_78 rfl (lv_at hl 2 rfl) ?_
          refine ok_ref F K fX11_35 dX11_read_79 ?_
          refine lv_bipush (v := 7) hx hb dX11_read_82 kB_7 ?_
          obtain ⟨r16, u15, hu15, hf⟩ := g_b2 hf
          refine ok_calli (rest := []) F K (pX2_want G hu15) mX2_want oc4 lX11_118 rfl hl.1 rfl ⟨⟨rfl, rfl⟩, Nat.le_of_ble_eq_true rfl, Nat.le_of_ble_eq_true rfl⟩ (Nat.le_of_ble_eq_true rfl) dX11_read_84 (fun H locs K => ?_)
          refine lv_pop hx hb dX11_read_87 rfl ?_
          refine lv_aload_n hx hb dX11_read_88 rfl (lv_at hl 2 rfl) ?_
          refine ok_ref F K fX11_35 dX11_read_89 ?_
          refine ok_int F K fX11_122 dX11_read_92 ?_
          refine lv_if_eq (pc := 95) (tgt := 101) hx hb dX11_read_95 (by decide) (fun c17 => ?_) (fun c17 => ?_)
          · have hf := g_pos hf c17
            refine lv_aload_n hx hb dX11_read_101 rfl (lv_at hl 2 rfl) ?_
            refine ok_ref F K fX11_19 dX11_read_102 ?_
            refine ok_int F K fX11_98 dX11_read_105 ?_
            refine lv_bipush (v := 60) hx hb dX11_read_108 kB_60 ?_
            refine lv_icmp_gt (pc := 110) (tgt := 125) hx hb dX11_read_110 (by decide) (fun c18 => ?_) (fun c18 => ?_)
            · have hf := g_pos hf c18
              exact pX11_read_j125  B x1_ x2_ x3_ x11 u15 _ _ _ hf K (lv_sub hl [2, 3, 4, 5, 1] rfl)
            · have hf := g_neg hf c18
              refine lv_aload_n hx hb dX11_read_113 rfl (lv_at hl 2 rfl) ?_
              refine ok_ref F K fX11_47 dX11_read_114 ?_
              refine lv_iload hx hb dX11_read_117 (lv_at hl 0 rfl) ?_
              obtain ⟨r20, u19, hu19, hf⟩ := g_b2 hf
              refine ok_calli (rest := []) F K (pX0_make G hu19) mX0_make oc5 lX11_125 rfl hl.1 rfl ⟨⟨rfl, rfl⟩, Nat.le_of_ble_eq_true rfl, Nat.le_of_ble_eq_true rfl⟩ (Nat.le_of_ble_eq_true rfl) dX11_read_119 (fun H locs K => ?_)
              refine lv_if_ne (pc := 122) (tgt := 138) hx hb dX11_read_122 (by decide) (fun c21 => ?_) (fun c21 => ?_)
              · have hf := g_neg hf c21
                obtain ⟨x22, ex22⟩ : ∃ y : Int32, y = x4_ + 1 := ⟨_, rfl⟩
                have hf := g_lt hf x22 ex22
                refine lv_iinc (v := x22) (lv' := [(4, .int x22), (6, .int r14), (5, .int x11), (0, .ref (G.1 0)), (1, .int x1_), (2, .int x2_), (3, .int x3_)]) hx hb dX11_read_138 hl (k := 6) rfl (by rw [kI_1, ex22]) (by decide) rfl (fun ls hl => ?_)
                refine lv_goto (pc := 141) (tgt := 34) hx hb dX11_read_141 (by decide) ?_
                exact ih x1_ x2_ x3_ x22 u19 _ _ _ hf K (lv_sub hl [3, 4, 5, 6, 0] rfl)
              · have hf := g_pos hf c21
                exact pX11_read_j125  B x1_ x2_ x3_ x11 u19 _ _ _ hf K (lv_sub hl [2, 3, 4, 5, 1] rfl)
          · have hf := g_neg hf c17
            refine lv_goto (pc := 98) (tgt := 144) hx hb dX11_read_98 (by decide) ?_
            exact pX11_read_j144  B x1_ x2_ x3_ u15 _ _ _ hf K (lv_sub hl [2, 3, 4, 5] rfl)
set_option maxRecDepth 100000 in
set_option maxHeartbeats 4000000 in
theorem pX11_read {l : Launch} (G : Gt) {r : Int32} {u u' : St} (hf : fX11_read u = some (r, u')) : Ctr 0 76 l yX11_read cX11_read 7 (some .int) rmX11_read [.ref (G.1 0)] G u (some (.int r)) u' := by
  refine Ctr.mk (by decide) (Nat.le_of_ble_eq_true rfl) (fun p e s m below meth c A ls B K hl => ?_)
  have F := B.1
  have hx := F.1
  have hb := F.2.1
  have hl : lv_has ls 7 [(0, .ref (G.1 0))] := hl
  unfold fX11_read at hf
  refine lv_aload_n hx hb dX11_read_0 rfl (lv_at hl 0 rfl) ?_
  refine ok_ref F K fX11_19 dX11_read_1 ?_
  refine ok_int F K fX11_95 dX11_read_4 ?_
  refine lv_topi (fun x23 ex23 => ?_)
  have hf := g_lt hf x23 ex23
  refine lv_istore_n (lv' := [(1, .int x23), (0, .ref (G.1 0))]) hx hb dX11_read_7 rfl hl (by decide) rfl (fun ls hl => ?_)
  refine lv_aload_n hx hb dX11_read_8 rfl (lv_at hl 1 rfl) ?_
  refine ok_ref F K fX11_19 dX11_read_9 ?_
  refine ok_int F K fX11_98 dX11_read_12 ?_
  refine lv_topi (fun x24 ex24 => ?_)
  have hf := g_lt hf x24 ex24
  refine lv_istore_n (lv' := [(2, .int x24), (1, .int x23), (0, .ref (G.1 0))]) hx hb dX11_read_15 rfl hl (by decide) rfl (fun ls hl => ?_)
  refine lv_aload_n hx hb dX11_read_16 rfl (lv_at hl 2 rfl) ?_
  refine ok_ref F K fX11_19 dX11_read_17 ?_
  refine ok_int F K fX11_101 dX11_read_20 ?_
  refine lv_topi (fun x25 ex25 => ?_)
  have hf := g_lt hf x25 ex25
  refine lv_istore_n (lv' := [(3, .int x25), (2, .int x24), (1, .int x23), (0, .ref (G.1 0))]) hx hb dX11_read_23 rfl hl (by decide) rfl (fun ls hl => ?_)
  refine lv_aload_n hx hb dX11_read_24 rfl (lv_at hl 3 rfl) ?_
  refine ok_ref F K fX11_35 dX11_read_25 ?_
  obtain ⟨u26, hu26, hf⟩ := g_bd hf
  refine ok_callv (rest := []) F K (pX2_begin G hu26) mX2_begin oc4 lX11_104 rfl hl.1 rfl ⟨⟨rfl, rfl⟩, Nat.le_of_ble_eq_true rfl, Nat.le_of_ble_eq_true rfl⟩ (Nat.le_of_ble_eq_true rfl) dX11_read_28 (fun H locs K => ?_)
  refine lv_iconst (v := 0) hx hb dX11_read_31 kI_0 ?_
  refine lv_topi (fun x27 ex27 => ?_)
  have hf := g_lt hf x27 ex27
  refine lv_istore (lv' := [(4, .int x27), (3, .int x25), (2, .int x24), (1, .int x23), (0, .ref (G.1 0))]) hx hb dX11_read_32 hl (by decide) rfl (fun ls hl => ?_)
  exact (pX11_read_L0  B FU) x23 x24 x25 x27 u26 _ _ _ hf K (lv_sub hl [4, 3, 2, 1, 0] rfl)
abbrev rmX5_unbind : Room := { frames := 0, cells := 0, slots := 0, locals := 0 }
set_option maxRecDepth 100000 in
set_option maxHeartbeats 4000000 in
theorem pX5_unbind_L0 {p : Program} {l : Launch} {e : Env} {s : State} {m : MethodId} {below : List Frame} {meth : Method} {c : Code} {A : Nat → Prop} {G : Gt} {a0 : Int32} {u' : St} (B : Bd p s m [.ref (G.1 7), .int a0] meth c yX5_unbind cX5_unbind 2 none) (n : Nat) : (∀ (x1_ : Int32) (u : St) (H : Heap) (locs : List Loc) (ls : Array Slot), fX5_unbind_L0  n 0 x1_ u = some u' → Ok 0 76 G A s u H locs → lv_has ls 2 [(0, .ref (G.1 7)), (1, .int x1_)] → W p l e rmX5_unbind s m ([.ref (G.1 7), .int a0] : List Value).toArray below meth c H locs 0 0 (MQ below (Qg 0 76 G A none u') ([.ref (G.1 7), .int a0] : List Value).toArray s 0 0 A) (F0 m 0 ls [])) := by
  have F := B.1
  have hx := F.1
  have hb := F.2.1
  induction n with
  | zero => exact fun _ _ _ _ _ hf => g_no hf
  | succ n ih =>
    refine ?_
    · intro x1_ u H locs ls hf K hl
      have hf : fX5_unbind_L0_0  (fX5_unbind_L0  n) x1_ u = some u' := hf
      unfold fX5_unbind_L0_0 at hf
      refine lv_aload_n hx hb dX5_unbind_0 rfl (lv_at hl 0 rfl) ?_
      refine ok_int F K fX5_40 dX5_unbind_1 ?_
      refine lv_iload_n hx hb dX5_unbind_4 rfl (lv_at hl 1 rfl) ?_
      refine lv_icmp_le (pc := 5) (tgt := 43) hx hb dX5_unbind_5 (by decide) (fun c1 => ?_) (fun c1 => ?_)
      · have hf := g_pos hf c1
        exact ok_retv B K hf dX5_unbind_43
      · have hf := g_neg hf c1
        refine lv_aload_n hx hb dX5_unbind_8 rfl (lv_at hl 0 rfl) ?_
        refine ok_int F K fX5_40 dX5_unbind_9 ?_
        refine lv_if_le (pc := 12) (tgt := 43) hx hb dX5_unbind_12 (by decide) (fun c2 => ?_) (fun c2 => ?_)
        · have hf := g_pos hf c2
          exact ok_retv B K hf dX5_unbind_43
        · have hf := g_neg hf c2
          refine lv_aload_n hx hb dX5_unbind_15 rfl (lv_at hl 0 rfl) ?_
          refine lv_dup hx hb dX5_unbind_16 rfl ?_
          refine ok_int F K fX5_40 dX5_unbind_17 ?_
          refine lv_iconst (v := 1) hx hb dX5_unbind_20 kI_1 ?_
          refine lv_isub hx hb dX5_unbind_21 ?_
          refine ok_putI F K qX5_40 dX5_unbind_22 (fun u3 H locs eu3 K => ?_)
          have hf := g_lt hf u3 eu3
          refine lv_aload_n hx hb dX5_unbind_25 rfl (lv_at hl 0 rfl) ?_
          refine ok_ref F K fX5_27 dX5_unbind_26 ?_
          refine lv_aload_n hx hb dX5_unbind_29 rfl (lv_at hl 0 rfl) ?_
          refine ok_ref F K fX5_33 dX5_unbind_30 ?_
          refine lv_aload_n hx hb dX5_unbind_33 rfl (lv_at hl 0 rfl) ?_
          refine ok_int F K fX5_40 dX5_unbind_34 ?_
          obtain ⟨v4, hv4, hf⟩ := g_bd hf
          refine ok_iald F K t64 hv4 dX5_unbind_37 ?_
          refine lv_iconst (v := (-1)) hx hb dX5_unbind_38 kI_m1 ?_
          obtain ⟨u5, hu5, hf⟩ := g_bd hf
          refine ok_iast F K t62 hu5 dX5_unbind_39 (fun H locs K => ?_)
          refine lv_goto (pc := 40) (tgt := 0) hx hb dX5_unbind_40 (by decide) ?_
          exact ih x1_ u5 _ _ _ hf K (lv_sub hl [0, 1] rfl)
set_option maxRecDepth 100000 in
set_option maxHeartbeats 4000000 in
theorem pX5_unbind {l : Launch} (G : Gt) {a0 : Int32} {u u' : St} (hf : fX5_unbind a0 u = some u') : Ctr 0 76 l yX5_unbind cX5_unbind 2 none rmX5_unbind [.ref (G.1 7), .int a0] G u none u' := by
  refine Ctr.mk (by decide) (Nat.le_of_ble_eq_true rfl) (fun p e s m below meth c A ls B K hl => ?_)
  have F := B.1
  have hx := F.1
  have hb := F.2.1
  have hl : lv_has ls 2 [(0, .ref (G.1 7)), (1, .int a0)] := hl
  unfold fX5_unbind at hf
  exact (pX5_unbind_L0  B FU) a0 u _ _ _ hf K (lv_sub hl [0, 1] rfl)
abbrev rmX3_push : Room := { frames := 0, cells := 0, slots := 0, locals := 0 }
set_option maxRecDepth 100000 in
set_option maxHeartbeats 4000000 in
theorem pX3_push {l : Launch} (G : Gt) {a0 : Int32} {a1 : Int32} {a2 : Int32} {r : Int32} {u u' : St} (hf : fX3_push a0 a1 a2 u = some (r, u')) : Ctr 0 76 l yX3_push cX3_push 4 (some .boolean) rmX3_push [.ref (G.1 9), .int a0, .int a1, .int a2] G u (some (.int r)) u' := by
  refine Ctr.mk (by decide) (Nat.le_of_ble_eq_true rfl) (fun p e s m below meth c A ls B K hl => ?_)
  have F := B.1
  have hx := F.1
  have hb := F.2.1
  have hl : lv_has ls 4 [(0, .ref (G.1 9)), (1, .int a0), (2, .int a1), (3, .int a2)] := hl
  unfold fX3_push at hf
  refine lv_aload_n hx hb dX3_push_0 rfl (lv_at hl 0 rfl) ?_
  refine ok_int F K fX3_68 dX3_push_1 ?_
  refine lv_iconst (v := 1) hx hb dX3_push_4 kI_1 ?_
  refine lv_iadd hx hb dX3_push_5 ?_
  refine lv_sipush (v := 151) hx hb dX3_push_6 kS_151 ?_
  refine lv_icmp_lt (pc := 9) (tgt := 14) hx hb dX3_push_9 (by decide) (fun c1 => ?_) (fun c1 => ?_)
  · have hf := g_pos hf c1
    refine lv_aload_n hx hb dX3_push_14 rfl (lv_at hl 0 rfl) ?_
    refine lv_dup hx hb dX3_push_15 rfl ?_
    refine ok_int F K fX3_68 dX3_push_16 ?_
    refine lv_iconst (v := 1) hx hb dX3_push_19 kI_1 ?_
    refine lv_iadd hx hb dX3_push_20 ?_
    refine ok_putI F K qX3_68 dX3_push_21 (fun u2 H locs eu2 K => ?_)
    have hf := g_lt hf u2 eu2
    refine lv_aload_n hx hb dX3_push_24 rfl (lv_at hl 0 rfl) ?_
    refine ok_ref F K fX3_13 dX3_push_25 ?_
    refine lv_aload_n hx hb dX3_push_28 rfl (lv_at hl 0 rfl) ?_
    refine ok_int F K fX3_68 dX3_push_29 ?_
    refine lv_iload_n hx hb dX3_push_32 rfl (lv_at hl 1 rfl) ?_
    obtain ⟨u3, hu3, hf⟩ := g_bd hf
    refine ok_iast F K t65 hu3 dX3_push_33 (fun H locs K => ?_)
    refine lv_aload_n hx hb dX3_push_34 rfl (lv_at hl 0 rfl) ?_
    refine ok_ref F K fX3_17 dX3_push_35 ?_
    refine lv_aload_n hx hb dX3_push_38 rfl (lv_at hl 0 rfl) ?_
    refine ok_int F K fX3_68 dX3_push_39 ?_
    refine lv_iload_n hx hb dX3_push_42 rfl (lv_at hl 2 rfl) ?_
    obtain ⟨u4, hu4, hf⟩ := g_bd hf
    refine ok_iast F K t66 hu4 dX3_push_43 (fun H locs K => ?_)
    refine lv_aload_n hx hb dX3_push_44 rfl (lv_at hl 0 rfl) ?_
    refine ok_ref F K fX3_20 dX3_push_45 ?_
    refine lv_aload_n hx hb dX3_push_48 rfl (lv_at hl 0 rfl) ?_
    refine ok_int F K fX3_68 dX3_push_49 ?_
    refine lv_iload_n hx hb dX3_push_52 rfl (lv_at hl 3 rfl) ?_
    obtain ⟨u5, hu5, hf⟩ := g_bd hf
    refine ok_iast F K t67 hu5 dX3_push_53 (fun H locs K => ?_)
    refine lv_aload_n hx hb dX3_push_54 rfl (lv_at hl 0 rfl) ?_
    refine ok_ref F K fX3_23 dX3_push_55 ?_
    refine lv_aload_n hx hb dX3_push_58 rfl (lv_at hl 0 rfl) ?_
    refine ok_int F K fX3_68 dX3_push_59 ?_
    refine lv_aload_n hx hb dX3_push_62 rfl (lv_at hl 0 rfl) ?_
    refine ok_ref F K fX3_36 dX3_push_63 ?_
    refine ok_int F K fX3_98 dX3_push_66 ?_
    obtain ⟨u6, hu6, hf⟩ := g_bd hf
    refine ok_iast F K t68 hu6 dX3_push_69 (fun H locs K => ?_)
    refine lv_aload_n hx hb dX3_push_70 rfl (lv_at hl 0 rfl) ?_
    refine ok_ref F K fX3_26 dX3_push_71 ?_
    refine lv_aload_n hx hb dX3_push_74 rfl (lv_at hl 0 rfl) ?_
    refine ok_int F K fX3_68 dX3_push_75 ?_
    refine lv_aload_n hx hb dX3_push_78 rfl (lv_at hl 0 rfl) ?_
    refine ok_ref F K fX3_36 dX3_push_79 ?_
    refine ok_int F K fX3_75 dX3_push_82 ?_
    obtain ⟨u7, hu7, hf⟩ := g_bd hf
    refine ok_iast F K t69 hu7 dX3_push_85 (fun H locs K => ?_)
    refine lv_aload_n hx hb dX3_push_86 rfl (lv_at hl 0 rfl) ?_
    refine ok_ref F K fX3_29 dX3_push_87 ?_
    refine lv_aload_n hx hb dX3_push_90 rfl (lv_at hl 0 rfl) ?_
    refine ok_int F K fX3_68 dX3_push_91 ?_
    refine lv_aload_n hx hb dX3_push_94 rfl (lv_at hl 0 rfl) ?_
    refine ok_ref F K fX3_36 dX3_push_95 ?_
    refine ok_int F K fX3_78 dX3_push_98 ?_
    obtain ⟨u8, hu8, hf⟩ := g_bd hf
    refine ok_iast F K t70 hu8 dX3_push_101 (fun H locs K => ?_)
    refine lv_iconst (v := 1) hx hb dX3_push_102 kI_1 ?_
    exact ok_retz B K hf (Or.inr rfl) dX3_push_103
  · have hf := g_neg hf c1
    refine lv_iconst (v := 0) hx hb dX3_push_12 kI_0 ?_
    exact ok_retz B K hf (Or.inl rfl) dX3_push_13
abbrev rmX4_positive : Room := { frames := 0, cells := 0, slots := 0, locals := 0 }
set_option maxRecDepth 100000 in
set_option maxHeartbeats 4000000 in
theorem pX4_positive_L0 {p : Program} {l : Launch} {e : Env} {s : State} {m : MethodId} {below : List Frame} {meth : Method} {c : Code} {A : Nat → Prop} {G : Gt} {a0 : Int32} {r : Int32} {u' : St} (B : Bd p s m [.ref (G.1 2), .int a0] meth c yX4_positive cX4_positive 3 (some .boolean)) (n : Nat) : (∀ (x1_ : Int32) (x2_ : Int32) (u : St) (H : Heap) (locs : List Loc) (ls : Array Slot), fX4_positive_L0  n 0 x1_ x2_ u = some (r, u') → Ok 0 76 G A s u H locs → lv_has ls 3 [(0, .ref (G.1 2)), (1, .int x1_), (2, .int x2_)] → W p l e rmX4_positive s m ([.ref (G.1 2), .int a0] : List Value).toArray below meth c H locs 0 0 (MQ below (Qg 0 76 G A (some (.int r)) u') ([.ref (G.1 2), .int a0] : List Value).toArray s 0 0 A) (F0 m 7 ls [])) := by
  have F := B.1
  have hx := F.1
  have hb := F.2.1
  induction n with
  | zero => exact fun _ _ _ _ _ _ hf => g_no hf
  | succ n ih =>
    refine ?_
    · intro x1_ x2_ u H locs ls hf K hl
      have hf : fX4_positive_L0_0  (fX4_positive_L0  n) x1_ x2_ u = some (r, u') := hf
      unfold fX4_positive_L0_0 at hf
      refine lv_iload_n hx hb dX4_positive_7 rfl (lv_at hl 2 rfl) ?_
      refine lv_aload_n hx hb dX4_positive_8 rfl (lv_at hl 0 rfl) ?_
      refine ok_ref F K fX4_23 dX4_positive_9 ?_
      refine lv_iload_n hx hb dX4_positive_12 rfl (lv_at hl 1 rfl) ?_
      refine lv_iconst (v := 1) hx hb dX4_positive_13 kI_1 ?_
      refine lv_iadd hx hb dX4_positive_14 ?_
      obtain ⟨v1, hv1, hf⟩ := g_bd hf
      refine ok_iald F K t18 hv1 dX4_positive_15 ?_
      refine lv_icmp_ge (pc := 16) (tgt := 36) hx hb dX4_positive_16 (by decide) (fun c2 => ?_) (fun c2 => ?_)
      · have hf := g_pos hf c2
        refine lv_iconst (v := 1) hx hb dX4_positive_36 kI_1 ?_
        exact ok_retz B K hf (Or.inr rfl) dX4_positive_37
      · have hf := g_neg hf c2
        refine lv_aload_n hx hb dX4_positive_19 rfl (lv_at hl 0 rfl) ?_
        refine ok_ref F K fX4_32 dX4_positive_20 ?_
        refine lv_iload_n hx hb dX4_positive_23 rfl (lv_at hl 2 rfl) ?_
        obtain ⟨v3, hv3, hf⟩ := g_bd hf
        refine ok_zald F K t30 hv3 dX4_positive_24 ?_
        refine lv_if_eq (pc := 25) (tgt := 30) hx hb dX4_positive_25 (by decide) (fun c4 => ?_) (fun c4 => ?_)
        · have hf := g_pos hf c4
          obtain ⟨x5, ex5⟩ : ∃ y : Int32, y = x2_ + 1 := ⟨_, rfl⟩
          have hf := g_lt hf x5 ex5
          refine lv_iinc (v := x5) (lv' := [(2, .int x5), (0, .ref (G.1 2)), (1, .int x1_)]) hx hb dX4_positive_30 hl (k := 2) rfl (by rw [kI_1, ex5]) (by decide) rfl (fun ls hl => ?_)
          refine lv_goto (pc := 33) (tgt := 7) hx hb dX4_positive_33 (by decide) ?_
          exact ih x1_ x5 u _ _ _ hf K (lv_sub hl [1, 2, 0] rfl)
        · have hf := g_neg hf c4
          refine lv_iconst (v := 0) hx hb dX4_positive_28 kI_0 ?_
          exact ok_retz B K hf (Or.inl rfl) dX4_positive_29
set_option maxRecDepth 100000 in
set_option maxHeartbeats 4000000 in
theorem pX4_positive {l : Launch} (G : Gt) {a0 : Int32} {r : Int32} {u u' : St} (hf : fX4_positive a0 u = some (r, u')) : Ctr 0 76 l yX4_positive cX4_positive 3 (some .boolean) rmX4_positive [.ref (G.1 2), .int a0] G u (some (.int r)) u' := by
  refine Ctr.mk (by decide) (Nat.le_of_ble_eq_true rfl) (fun p e s m below meth c A ls B K hl => ?_)
  have F := B.1
  have hx := F.1
  have hb := F.2.1
  have hl : lv_has ls 3 [(0, .ref (G.1 2)), (1, .int a0)] := hl
  unfold fX4_positive at hf
  refine lv_aload_n hx hb dX4_positive_0 rfl (lv_at hl 0 rfl) ?_
  refine ok_ref F K fX4_23 dX4_positive_1 ?_
  refine lv_iload_n hx hb dX4_positive_4 rfl (lv_at hl 1 rfl) ?_
  obtain ⟨v6, hv6, hf⟩ := g_bd hf
  refine ok_iald F K t18 hv6 dX4_positive_5 ?_
  refine lv_istore_n (lv' := [(2, .int v6), (0, .ref (G.1 2)), (1, .int a0)]) hx hb dX4_positive_6 rfl hl (by decide) rfl (fun ls hl => ?_)
  exact (pX4_positive_L0  B FU) a0 v6 u _ _ _ hf K (lv_sub hl [1, 2, 0] rfl)
abbrev rmX3_nextStart : Room := { frames := 1, cells := 0, slots := 0, locals := 22 }
set_option maxRecDepth 100000 in
set_option maxHeartbeats 4000000 in
theorem pX3_nextStart_L0 {p : Program} {l : Launch} {e : Env} {s : State} {m : MethodId} {below : List Frame} {meth : Method} {c : Code} {A : Nat → Prop} {G : Gt} {r : Int32} {u' : St} (B : Bd p s m [.ref (G.1 9)] meth c yX3_nextStart cX3_nextStart 2 (some .boolean)) (n : Nat) : (∀ (x1_ : Int32) (u : St) (H : Heap) (locs : List Loc) (ls : Array Slot), fX3_nextStart_L0  n 0 x1_ u = some (r, u') → Ok 0 76 G A s u H locs → lv_has ls 2 [(0, .ref (G.1 9)), (1, .int x1_)] → W p l e rmX3_nextStart s m ([.ref (G.1 9)] : List Value).toArray below meth c H locs 0 0 (MQ below (Qg 0 76 G A (some (.int r)) u') ([.ref (G.1 9)] : List Value).toArray s 0 0 A) (F0 m 12 ls [])) := by
  have F := B.1
  have hx := F.1
  have hb := F.2.1
  induction n with
  | zero => exact fun _ _ _ _ _ hf => g_no hf
  | succ n ih =>
    refine ?_
    · intro x1_ u H locs ls hf K hl
      have hf : fX3_nextStart_L0_0  (fX3_nextStart_L0  n) x1_ u = some (r, u') := hf
      unfold fX3_nextStart_L0_0 at hf
      refine lv_iload_n hx hb dX3_nextStart_12 rfl (lv_at hl 1 rfl) ?_
      refine lv_aload_n hx hb dX3_nextStart_13 rfl (lv_at hl 0 rfl) ?_
      refine ok_ref F K fX3_32 dX3_nextStart_14 ?_
      refine ok_int F K fX3_130 dX3_nextStart_17 ?_
      refine lv_icmp_ge (pc := 20) (tgt := 52) hx hb dX3_nextStart_20 (by decide) (fun c1 => ?_) (fun c1 => ?_)
      · have hf := g_pos hf c1
        refine lv_iconst (v := 0) hx hb dX3_nextStart_52 kI_0 ?_
        exact ok_retz B K hf (Or.inl rfl) dX3_nextStart_53
      · have hf := g_neg hf c1
        refine lv_aload_n hx hb dX3_nextStart_23 rfl (lv_at hl 0 rfl) ?_
        refine ok_ref F K fX3_32 dX3_nextStart_24 ?_
        refine lv_iload_n hx hb dX3_nextStart_27 rfl (lv_at hl 1 rfl) ?_
        obtain ⟨r3, u2, hu2, hf⟩ := g_b2 hf
        refine ok_calli (rest := []) F K (pX4_positive G hu2) mX4_positive oc2 lX3_135 rfl hl.1 rfl ⟨⟨rfl, rfl⟩, Nat.le_of_ble_eq_true rfl, Nat.le_of_ble_eq_true rfl⟩ (Nat.le_of_ble_eq_true rfl) dX3_nextStart_28 (fun H locs K => ?_)
        refine lv_if_eq (pc := 31) (tgt := 46) hx hb dX3_nextStart_31 (by decide) (fun c4 => ?_) (fun c4 => ?_)
        · have hf := g_pos hf c4
          obtain ⟨x5, ex5⟩ : ∃ y : Int32, y = x1_ + 1 := ⟨_, rfl⟩
          have hf := g_lt hf x5 ex5
          refine lv_iinc (v := x5) (lv' := [(1, .int x5), (0, .ref (G.1 9))]) hx hb dX3_nextStart_46 hl (k := 1) rfl (by rw [kI_1, ex5]) (by decide) rfl (fun ls hl => ?_)
          refine lv_goto (pc := 49) (tgt := 12) hx hb dX3_nextStart_49 (by decide) ?_
          exact ih x5 u2 _ _ _ hf K (lv_sub hl [1, 0] rfl)
        · have hf := g_neg hf c4
          refine lv_aload_n hx hb dX3_nextStart_34 rfl (lv_at hl 0 rfl) ?_
          refine ok_ref F K fX3_20 dX3_nextStart_35 ?_
          refine lv_aload_n hx hb dX3_nextStart_38 rfl (lv_at hl 0 rfl) ?_
          refine ok_int F K fX3_68 dX3_nextStart_39 ?_
          refine lv_iload_n hx hb dX3_nextStart_42 rfl (lv_at hl 1 rfl) ?_
          obtain ⟨u6, hu6, hf⟩ := g_bd hf
          refine ok_iast F K t67 hu6 dX3_nextStart_43 (fun H locs K => ?_)
          refine lv_iconst (v := 1) hx hb dX3_nextStart_44 kI_1 ?_
          exact ok_retz B K hf (Or.inr rfl) dX3_nextStart_45
set_option maxRecDepth 100000 in
set_option maxHeartbeats 4000000 in
theorem pX3_nextStart {l : Launch} (G : Gt) {r : Int32} {u u' : St} (hf : fX3_nextStart u = some (r, u')) : Ctr 0 76 l yX3_nextStart cX3_nextStart 2 (some .boolean) rmX3_nextStart [.ref (G.1 9)] G u (some (.int r)) u' := by
  refine Ctr.mk (by decide) (Nat.le_of_ble_eq_true rfl) (fun p e s m below meth c A ls B K hl => ?_)
  have F := B.1
  have hx := F.1
  have hb := F.2.1
  have hl : lv_has ls 2 [(0, .ref (G.1 9))] := hl
  unfold fX3_nextStart at hf
  refine lv_aload_n hx hb dX3_nextStart_0 rfl (lv_at hl 0 rfl) ?_
  refine ok_ref F K fX3_20 dX3_nextStart_1 ?_
  refine lv_aload_n hx hb dX3_nextStart_4 rfl (lv_at hl 0 rfl) ?_
  refine ok_int F K fX3_68 dX3_nextStart_5 ?_
  obtain ⟨v7, hv7, hf⟩ := g_bd hf
  refine ok_iald F K t67 hv7 dX3_nextStart_8 ?_
  refine lv_iconst (v := 1) hx hb dX3_nextStart_9 kI_1 ?_
  refine lv_iadd hx hb dX3_nextStart_10 ?_
  refine lv_topi (fun x8 ex8 => ?_)
  have hf := g_lt hf x8 ex8
  refine lv_istore_n (lv' := [(1, .int x8), (0, .ref (G.1 9))]) hx hb dX3_nextStart_11 rfl hl (by decide) rfl (fun ls hl => ?_)
  exact (pX3_nextStart_L0  B FU) x8 u _ _ _ hf K (lv_sub hl [1, 0] rfl)
abbrev rmX4_opposed : Room := { frames := 0, cells := 0, slots := 0, locals := 0 }
set_option maxRecDepth 100000 in
set_option maxHeartbeats 4000000 in
theorem pX4_opposed {l : Launch} (G : Gt) {a0 : Int32} {a1 : Int32} {r : Int32} {u u' : St} (hf : fX4_opposed a0 a1 u = some (r, u')) : Ctr 0 76 l yX4_opposed cX4_opposed 3 (some .boolean) rmX4_opposed [.ref (G.1 2), .int a0, .int a1] G u (some (.int r)) u' := by
  refine Ctr.mk (by decide) (Nat.le_of_ble_eq_true rfl) (fun p e s m below meth c A ls B K hl => ?_)
  have F := B.1
  have hx := F.1
  have hb := F.2.1
  have hl : lv_has ls 3 [(0, .ref (G.1 2)), (1, .int a0), (2, .int a1)] := hl
  unfold fX4_opposed at hf
  refine lv_aload_n hx hb dX4_opposed_0 rfl (lv_at hl 0 rfl) ?_
  refine ok_ref F K fX4_32 dX4_opposed_1 ?_
  refine lv_iload_n hx hb dX4_opposed_4 rfl (lv_at hl 1 rfl) ?_
  obtain ⟨v1, hv1, hf⟩ := g_bd hf
  refine ok_zald F K t30 hv1 dX4_opposed_5 ?_
  refine lv_aload_n hx hb dX4_opposed_6 rfl (lv_at hl 0 rfl) ?_
  refine ok_ref F K fX4_32 dX4_opposed_7 ?_
  refine lv_iload_n hx hb dX4_opposed_10 rfl (lv_at hl 2 rfl) ?_
  obtain ⟨v2, hv2, hf⟩ := g_bd hf
  refine ok_zald F K t30 hv2 dX4_opposed_11 ?_
  refine lv_icmp_eq (pc := 12) (tgt := 44) hx hb dX4_opposed_12 (by decide) (fun c3 => ?_) (fun c3 => ?_)
  · have hf := g_pos hf c3
    refine lv_iconst (v := 0) hx hb dX4_opposed_44 kI_0 ?_
    exact ok_retz B K hf (Or.inl rfl) dX4_opposed_45
  · have hf := g_neg hf c3
    refine lv_aload_n hx hb dX4_opposed_15 rfl (lv_at hl 0 rfl) ?_
    refine ok_ref F K fX4_38 dX4_opposed_16 ?_
    refine lv_aload_n hx hb dX4_opposed_19 rfl (lv_at hl 0 rfl) ?_
    refine ok_ref F K fX4_29 dX4_opposed_20 ?_
    refine lv_iload_n hx hb dX4_opposed_23 rfl (lv_at hl 1 rfl) ?_
    obtain ⟨v4, hv4, hf⟩ := g_bd hf
    refine ok_iald F K t29 hv4 dX4_opposed_24 ?_
    obtain ⟨v5, hv5, hf⟩ := g_bd hf
    refine ok_iald F K t32 hv5 dX4_opposed_25 ?_
    refine lv_aload_n hx hb dX4_opposed_26 rfl (lv_at hl 0 rfl) ?_
    refine ok_ref F K fX4_38 dX4_opposed_27 ?_
    refine lv_aload_n hx hb dX4_opposed_30 rfl (lv_at hl 0 rfl) ?_
    refine ok_ref F K fX4_29 dX4_opposed_31 ?_
    refine lv_iload_n hx hb dX4_opposed_34 rfl (lv_at hl 2 rfl) ?_
    obtain ⟨v6, hv6, hf⟩ := g_bd hf
    refine ok_iald F K t29 hv6 dX4_opposed_35 ?_
    obtain ⟨v7, hv7, hf⟩ := g_bd hf
    refine ok_iald F K t32 hv7 dX4_opposed_36 ?_
    refine lv_icmp_ne (pc := 37) (tgt := 44) hx hb dX4_opposed_37 (by decide) (fun c8 => ?_) (fun c8 => ?_)
    · have hf := g_neg hf c8
      refine lv_iconst (v := 0) hx hb dX4_opposed_44 kI_0 ?_
      exact ok_retz B K hf (Or.inl rfl) dX4_opposed_45
    · have hf := g_pos hf c8
      refine lv_iconst (v := 1) hx hb dX4_opposed_40 kI_1 ?_
      refine lv_goto (pc := 41) (tgt := 45) hx hb dX4_opposed_41 (by decide) ?_
      exact ok_retz B K hf (Or.inr rfl) dX4_opposed_45
abbrev rmX3_nextAbove : Room := { frames := 1, cells := 0, slots := 0, locals := 22 }
set_option maxRecDepth 100000 in
set_option maxHeartbeats 4000000 in
theorem pX3_nextAbove_L0 {p : Program} {l : Launch} {e : Env} {s : State} {m : MethodId} {below : List Frame} {meth : Method} {c : Code} {A : Nat → Prop} {G : Gt} {r : Int32} {u' : St} (B : Bd p s m [.ref (G.1 9)] meth c yX3_nextAbove cX3_nextAbove 3 (some .boolean)) (n : Nat) : (∀ (x1_ : Int32) (x2_ : Int32) (u : St) (H : Heap) (locs : List Loc) (ls : Array Slot), fX3_nextAbove_L0  n 0 x1_ x2_ u = some (r, u') → Ok 0 76 G A s u H locs → lv_has ls 3 [(0, .ref (G.1 9)), (1, .int x1_), (2, .int x2_)] → W p l e rmX3_nextAbove s m ([.ref (G.1 9)] : List Value).toArray below meth c H locs 0 0 (MQ below (Qg 0 76 G A (some (.int r)) u') ([.ref (G.1 9)] : List Value).toArray s 0 0 A) (F0 m 20 ls [])) := by
  have F := B.1
  have hx := F.1
  have hb := F.2.1
  induction n with
  | zero => exact fun _ _ _ _ _ _ hf => g_no hf
  | succ n ih =>
    refine ?_
    · intro x1_ x2_ u H locs ls hf K hl
      have hf : fX3_nextAbove_L0_0  (fX3_nextAbove_L0  n) x1_ x2_ u = some (r, u') := hf
      unfold fX3_nextAbove_L0_0 at hf
      refine lv_iload_n hx hb dX3_nextAbove_20 rfl (lv_at hl 2 rfl) ?_
      refine lv_sipush (v := 150) hx hb dX3_nextAbove_21 kS_150 ?_
      refine lv_icmp_ge (pc := 24) (tgt := 95) hx hb dX3_nextAbove_24 (by decide) (fun c1 => ?_) (fun c1 => ?_)
      · have hf := g_pos hf c1
        refine lv_iconst (v := 0) hx hb dX3_nextAbove_95 kI_0 ?_
        exact ok_retz B K hf (Or.inl rfl) dX3_nextAbove_96
      · have hf := g_neg hf c1
        refine lv_iload_n hx hb dX3_nextAbove_27 rfl (lv_at hl 1 rfl) ?_
        refine lv_if_lt (pc := 28) (tgt := 95) hx hb dX3_nextAbove_28 (by decide) (fun c2 => ?_) (fun c2 => ?_)
        · have hf := g_pos hf c2
          refine lv_iconst (v := 0) hx hb dX3_nextAbove_95 kI_0 ?_
          exact ok_retz B K hf (Or.inl rfl) dX3_nextAbove_96
        · have hf := g_neg hf c2
          refine lv_aload_n hx hb dX3_nextAbove_31 rfl (lv_at hl 0 rfl) ?_
          refine ok_ref F K fX3_32 dX3_nextAbove_32 ?_
          refine lv_aload_n hx hb dX3_nextAbove_35 rfl (lv_at hl 0 rfl) ?_
          refine ok_ref F K fX3_36 dX3_nextAbove_36 ?_
          refine ok_ref F K fX3_105 dX3_nextAbove_39 ?_
          refine lv_aload_n hx hb dX3_nextAbove_42 rfl (lv_at hl 0 rfl) ?_
          refine ok_ref F K fX3_17 dX3_nextAbove_43 ?_
          refine lv_aload_n hx hb dX3_nextAbove_46 rfl (lv_at hl 0 rfl) ?_
          refine ok_int F K fX3_68 dX3_nextAbove_47 ?_
          obtain ⟨v3, hv3, hf⟩ := g_bd hf
          refine ok_iald F K t66 hv3 dX3_nextAbove_50 ?_
          obtain ⟨v4, hv4, hf⟩ := g_bd hf
          refine ok_iald F K t57 hv4 dX3_nextAbove_51 ?_
          refine lv_aload_n hx hb dX3_nextAbove_52 rfl (lv_at hl 0 rfl) ?_
          refine ok_ref F K fX3_36 dX3_nextAbove_53 ?_
          refine ok_ref F K fX3_105 dX3_nextAbove_56 ?_
          refine lv_iload_n hx hb dX3_nextAbove_59 rfl (lv_at hl 1 rfl) ?_
          obtain ⟨v5, hv5, hf⟩ := g_bd hf
          refine ok_iald F K t57 hv5 dX3_nextAbove_60 ?_
          obtain ⟨r7, u6, hu6, hf⟩ := g_b2 hf
          refine ok_calli (rest := []) F K (pX4_opposed G hu6) mX4_opposed oc2 lX3_142 rfl hl.1 rfl ⟨⟨rfl, rfl⟩, Nat.le_of_ble_eq_true rfl, Nat.le_of_ble_eq_true rfl⟩ (Nat.le_of_ble_eq_true rfl) dX3_nextAbove_61 (fun H locs K => ?_)
          refine lv_if_eq (pc := 64) (tgt := 79) hx hb dX3_nextAbove_64 (by decide) (fun c8 => ?_) (fun c8 => ?_)
          · have hf := g_pos hf c8
            refine lv_aload_n hx hb dX3_nextAbove_79 rfl (lv_at hl 0 rfl) ?_
            refine ok_ref F K fX3_36 dX3_nextAbove_80 ?_
            refine ok_ref F K fX3_139 dX3_nextAbove_83 ?_
            refine lv_iload_n hx hb dX3_nextAbove_86 rfl (lv_at hl 1 rfl) ?_
            obtain ⟨v9, hv9, hf⟩ := g_bd hf
            refine ok_iald F K t59 hv9 dX3_nextAbove_87 ?_
            refine lv_istore_n (lv' := [(1, .int v9), (0, .ref (G.1 9)), (2, .int x2_)]) hx hb dX3_nextAbove_88 rfl hl (by decide) rfl (fun ls hl => ?_)
            obtain ⟨x10, ex10⟩ : ∃ y : Int32, y = x2_ + 1 := ⟨_, rfl⟩
            have hf := g_lt hf x10 ex10
            refine lv_iinc (v := x10) (lv' := [(2, .int x10), (1, .int v9), (0, .ref (G.1 9))]) hx hb dX3_nextAbove_89 hl (k := 2) rfl (by rw [kI_1, ex10]) (by decide) rfl (fun ls hl => ?_)
            refine lv_goto (pc := 92) (tgt := 20) hx hb dX3_nextAbove_92 (by decide) ?_
            exact ih v9 x10 u6 _ _ _ hf K (lv_sub hl [2, 1, 0] rfl)
          · have hf := g_neg hf c8
            refine lv_aload_n hx hb dX3_nextAbove_67 rfl (lv_at hl 0 rfl) ?_
            refine ok_ref F K fX3_20 dX3_nextAbove_68 ?_
            refine lv_aload_n hx hb dX3_nextAbove_71 rfl (lv_at hl 0 rfl) ?_
            refine ok_int F K fX3_68 dX3_nextAbove_72 ?_
            refine lv_iload_n hx hb dX3_nextAbove_75 rfl (lv_at hl 1 rfl) ?_
            obtain ⟨u11, hu11, hf⟩ := g_bd hf
            refine ok_iast F K t67 hu11 dX3_nextAbove_76 (fun H locs K => ?_)
            refine lv_iconst (v := 1) hx hb dX3_nextAbove_77 kI_1 ?_
            exact ok_retz B K hf (Or.inr rfl) dX3_nextAbove_78
set_option maxRecDepth 100000 in
set_option maxHeartbeats 4000000 in
theorem pX3_nextAbove {l : Launch} (G : Gt) {r : Int32} {u u' : St} (hf : fX3_nextAbove u = some (r, u')) : Ctr 0 76 l yX3_nextAbove cX3_nextAbove 3 (some .boolean) rmX3_nextAbove [.ref (G.1 9)] G u (some (.int r)) u' := by
  refine Ctr.mk (by decide) (Nat.le_of_ble_eq_true rfl) (fun p e s m below meth c A ls B K hl => ?_)
  have F := B.1
  have hx := F.1
  have hb := F.2.1
  have hl : lv_has ls 3 [(0, .ref (G.1 9))] := hl
  unfold fX3_nextAbove at hf
  refine lv_aload_n hx hb dX3_nextAbove_0 rfl (lv_at hl 0 rfl) ?_
  refine ok_ref F K fX3_36 dX3_nextAbove_1 ?_
  refine ok_ref F K fX3_139 dX3_nextAbove_4 ?_
  refine lv_aload_n hx hb dX3_nextAbove_7 rfl (lv_at hl 0 rfl) ?_
  refine ok_ref F K fX3_20 dX3_nextAbove_8 ?_
  refine lv_aload_n hx hb dX3_nextAbove_11 rfl (lv_at hl 0 rfl) ?_
  refine ok_int F K fX3_68 dX3_nextAbove_12 ?_
  obtain ⟨v12, hv12, hf⟩ := g_bd hf
  refine ok_iald F K t67 hv12 dX3_nextAbove_15 ?_
  obtain ⟨v13, hv13, hf⟩ := g_bd hf
  refine ok_iald F K t59 hv13 dX3_nextAbove_16 ?_
  refine lv_istore_n (lv' := [(1, .int v13), (0, .ref (G.1 9))]) hx hb dX3_nextAbove_17 rfl hl (by decide) rfl (fun ls hl => ?_)
  refine lv_iconst (v := 0) hx hb dX3_nextAbove_18 kI_0 ?_
  refine lv_topi (fun x14 ex14 => ?_)
  have hf := g_lt hf x14 ex14
  refine lv_istore_n (lv' := [(2, .int x14), (1, .int v13), (0, .ref (G.1 9))]) hx hb dX3_nextAbove_19 rfl hl (by decide) rfl (fun ls hl => ?_)
  exact (pX3_nextAbove_L0  B FU) v13 x14 u _ _ _ hf K (lv_sub hl [2, 1, 0] rfl)
abbrev rmX4_literals : Room := { frames := 0, cells := 0, slots := 0, locals := 0 }
set_option maxRecDepth 100000 in
set_option maxHeartbeats 4000000 in
theorem pX4_literals {l : Launch} (G : Gt) {r : Int32} {u u' : St} (hf : fX4_literals u = some (r, u')) : Ctr 0 76 l yX4_literals cX4_literals 1 (some .int) rmX4_literals [.ref (G.1 2)] G u (some (.int r)) u' := by
  refine Ctr.mk (by decide) (Nat.le_of_ble_eq_true rfl) (fun p e s m below meth c A ls B K hl => ?_)
  have F := B.1
  have hx := F.1
  have hb := F.2.1
  have hl : lv_has ls 1 [(0, .ref (G.1 2))] := hl
  unfold fX4_literals at hf
  refine lv_aload_n hx hb dX4_literals_0 rfl (lv_at hl 0 rfl) ?_
  refine ok_ref F K fX4_23 dX4_literals_1 ?_
  refine lv_aload_n hx hb dX4_literals_4 rfl (lv_at hl 0 rfl) ?_
  refine ok_int F K fX4_41 dX4_literals_5 ?_
  obtain ⟨v1, hv1, hf⟩ := g_bd hf
  refine ok_iald F K t18 hv1 dX4_literals_8 ?_
  exact ok_reti B K hf dX4_literals_9
abbrev rmX3_nextLiteral : Room := { frames := 1, cells := 0, slots := 0, locals := 22 }
set_option maxRecDepth 100000 in
set_option maxHeartbeats 4000000 in
theorem pX3_nextLiteral_L0 {p : Program} {l : Launch} {e : Env} {s : State} {m : MethodId} {below : List Frame} {meth : Method} {c : Code} {A : Nat → Prop} {G : Gt} {r : Int32} {u' : St} (B : Bd p s m [.ref (G.1 9)] meth c yX3_nextLiteral cX3_nextLiteral 2 (some .boolean)) (n : Nat) : (∀ (x1_ : Int32) (u : St) (H : Heap) (locs : List Loc) (ls : Array Slot), fX3_nextLiteral_L0  n 0 x1_ u = some (r, u') → Ok 0 76 G A s u H locs → lv_has ls 2 [(0, .ref (G.1 9)), (1, .int x1_)] → W p l e rmX3_nextLiteral s m ([.ref (G.1 9)] : List Value).toArray below meth c H locs 0 0 (MQ below (Qg 0 76 G A (some (.int r)) u') ([.ref (G.1 9)] : List Value).toArray s 0 0 A) (F0 m 12 ls [])) := by
  have F := B.1
  have hx := F.1
  have hb := F.2.1
  induction n with
  | zero => exact fun _ _ _ _ _ hf => g_no hf
  | succ n ih =>
    refine ?_
    · intro x1_ u H locs ls hf K hl
      have hf : fX3_nextLiteral_L0_0  (fX3_nextLiteral_L0  n) x1_ u = some (r, u') := hf
      unfold fX3_nextLiteral_L0_0 at hf
      refine lv_iload_n hx hb dX3_nextLiteral_12 rfl (lv_at hl 1 rfl) ?_
      refine lv_aload_n hx hb dX3_nextLiteral_13 rfl (lv_at hl 0 rfl) ?_
      refine ok_ref F K fX3_32 dX3_nextLiteral_14 ?_
      obtain ⟨r2, u1, hu1, hf⟩ := g_b2 hf
      refine ok_calli (rest := [.int x1_]) F K (pX4_literals G hu1) mX4_literals oc2 lX3_146 rfl hl.1 rfl ⟨⟨rfl, rfl⟩, Nat.le_of_ble_eq_true rfl, Nat.le_of_ble_eq_true rfl⟩ (Nat.le_of_ble_eq_true rfl) dX3_nextLiteral_17 (fun H locs K => ?_)
      refine lv_icmp_ge (pc := 20) (tgt := 69) hx hb dX3_nextLiteral_20 (by decide) (fun c3 => ?_) (fun c3 => ?_)
      · have hf := g_pos hf c3
        refine lv_iconst (v := 0) hx hb dX3_nextLiteral_69 kI_0 ?_
        exact ok_retz B K hf (Or.inl rfl) dX3_nextLiteral_70
      · have hf := g_neg hf c3
        refine lv_aload_n hx hb dX3_nextLiteral_23 rfl (lv_at hl 0 rfl) ?_
        refine ok_ref F K fX3_32 dX3_nextLiteral_24 ?_
        refine lv_aload_n hx hb dX3_nextLiteral_27 rfl (lv_at hl 0 rfl) ?_
        refine ok_ref F K fX3_36 dX3_nextLiteral_28 ?_
        refine ok_ref F K fX3_105 dX3_nextLiteral_31 ?_
        refine lv_aload_n hx hb dX3_nextLiteral_34 rfl (lv_at hl 0 rfl) ?_
        refine ok_ref F K fX3_17 dX3_nextLiteral_35 ?_
        refine lv_aload_n hx hb dX3_nextLiteral_38 rfl (lv_at hl 0 rfl) ?_
        refine ok_int F K fX3_68 dX3_nextLiteral_39 ?_
        obtain ⟨v4, hv4, hf⟩ := g_bd hf
        refine ok_iald F K t66 hv4 dX3_nextLiteral_42 ?_
        obtain ⟨v5, hv5, hf⟩ := g_bd hf
        refine ok_iald F K t57 hv5 dX3_nextLiteral_43 ?_
        refine lv_iload_n hx hb dX3_nextLiteral_44 rfl (lv_at hl 1 rfl) ?_
        obtain ⟨r7, u6, hu6, hf⟩ := g_b2 hf
        refine ok_calli (rest := []) F K (pX4_opposed G hu6) mX4_opposed oc2 lX3_142 rfl hl.1 rfl ⟨⟨rfl, rfl⟩, Nat.le_of_ble_eq_true rfl, Nat.le_of_ble_eq_true rfl⟩ (Nat.le_of_ble_eq_true rfl) dX3_nextLiteral_45 (fun H locs K => ?_)
        refine lv_if_eq (pc := 48) (tgt := 63) hx hb dX3_nextLiteral_48 (by decide) (fun c8 => ?_) (fun c8 => ?_)
        · have hf := g_pos hf c8
          obtain ⟨x9, ex9⟩ : ∃ y : Int32, y = x1_ + 1 := ⟨_, rfl⟩
          have hf := g_lt hf x9 ex9
          refine lv_iinc (v := x9) (lv' := [(1, .int x9), (0, .ref (G.1 9))]) hx hb dX3_nextLiteral_63 hl (k := 1) rfl (by rw [kI_1, ex9]) (by decide) rfl (fun ls hl => ?_)
          refine lv_goto (pc := 66) (tgt := 12) hx hb dX3_nextLiteral_66 (by decide) ?_
          exact ih x9 u6 _ _ _ hf K (lv_sub hl [1, 0] rfl)
        · have hf := g_neg hf c8
          refine lv_aload_n hx hb dX3_nextLiteral_51 rfl (lv_at hl 0 rfl) ?_
          refine ok_ref F K fX3_20 dX3_nextLiteral_52 ?_
          refine lv_aload_n hx hb dX3_nextLiteral_55 rfl (lv_at hl 0 rfl) ?_
          refine ok_int F K fX3_68 dX3_nextLiteral_56 ?_
          refine lv_iload_n hx hb dX3_nextLiteral_59 rfl (lv_at hl 1 rfl) ?_
          obtain ⟨u10, hu10, hf⟩ := g_bd hf
          refine ok_iast F K t67 hu10 dX3_nextLiteral_60 (fun H locs K => ?_)
          refine lv_iconst (v := 1) hx hb dX3_nextLiteral_61 kI_1 ?_
          exact ok_retz B K hf (Or.inr rfl) dX3_nextLiteral_62
set_option maxRecDepth 100000 in
set_option maxHeartbeats 4000000 in
theorem pX3_nextLiteral {l : Launch} (G : Gt) {r : Int32} {u u' : St} (hf : fX3_nextLiteral u = some (r, u')) : Ctr 0 76 l yX3_nextLiteral cX3_nextLiteral 2 (some .boolean) rmX3_nextLiteral [.ref (G.1 9)] G u (some (.int r)) u' := by
  refine Ctr.mk (by decide) (Nat.le_of_ble_eq_true rfl) (fun p e s m below meth c A ls B K hl => ?_)
  have F := B.1
  have hx := F.1
  have hb := F.2.1
  have hl : lv_has ls 2 [(0, .ref (G.1 9))] := hl
  unfold fX3_nextLiteral at hf
  refine lv_aload_n hx hb dX3_nextLiteral_0 rfl (lv_at hl 0 rfl) ?_
  refine ok_ref F K fX3_20 dX3_nextLiteral_1 ?_
  refine lv_aload_n hx hb dX3_nextLiteral_4 rfl (lv_at hl 0 rfl) ?_
  refine ok_int F K fX3_68 dX3_nextLiteral_5 ?_
  obtain ⟨v11, hv11, hf⟩ := g_bd hf
  refine ok_iald F K t67 hv11 dX3_nextLiteral_8 ?_
  refine lv_iconst (v := 1) hx hb dX3_nextLiteral_9 kI_1 ?_
  refine lv_iadd hx hb dX3_nextLiteral_10 ?_
  refine lv_topi (fun x12 ex12 => ?_)
  have hf := g_lt hf x12 ex12
  refine lv_istore_n (lv' := [(1, .int x12), (0, .ref (G.1 9))]) hx hb dX3_nextLiteral_11 rfl hl (by decide) rfl (fun ls hl => ?_)
  exact (pX3_nextLiteral_L0  B FU) x12 u _ _ _ hf K (lv_sub hl [1, 0] rfl)
abbrev rmX3_nextChoice : Room := { frames := 2, cells := 0, slots := 0, locals := 44 }
set_option maxRecDepth 100000 in
set_option maxHeartbeats 4000000 in
theorem pX3_nextChoice_j59 {p : Program} {l : Launch} {e : Env} {s : State} {m : MethodId} {below : List Frame} {meth : Method} {c : Code} {A : Nat → Prop} {G : Gt} {r : Int32} {u' : St} (B : Bd p s m [.ref (G.1 9)] meth c yX3_nextChoice cX3_nextChoice 1 (some .boolean)) (u : St) (H : Heap) (locs : List Loc) (ls : Array Slot) (hf : fX3_nextChoice_j59  u = some (r, u')) (K : Ok 0 76 G A s u H locs) (hl : lv_has ls 1 [(0, .ref (G.1 9))]) : W p l e rmX3_nextChoice s m ([.ref (G.1 9)] : List Value).toArray below meth c H locs 0 0 (MQ below (Qg 0 76 G A (some (.int r)) u') ([.ref (G.1 9)] : List Value).toArray s 0 0 A) (F0 m 59 ls []) := by
  have F := B.1
  have hx := F.1
  have hb := F.2.1
  unfold fX3_nextChoice_j59 at hf
  refine lv_aload_n hx hb dX3_nextChoice_59 rfl (lv_at hl 0 rfl) ?_
  refine ok_ref F K fX3_36 dX3_nextChoice_60 ?_
  refine ok_ref F K fX3_124 dX3_nextChoice_63 ?_
  refine lv_aload_n hx hb dX3_nextChoice_66 rfl (lv_at hl 0 rfl) ?_
  refine ok_ref F K fX3_17 dX3_nextChoice_67 ?_
  refine lv_aload_n hx hb dX3_nextChoice_70 rfl (lv_at hl 0 rfl) ?_
  refine ok_int F K fX3_68 dX3_nextChoice_71 ?_
  obtain ⟨v1, hv1, hf⟩ := g_bd hf
  refine ok_iald F K t66 hv1 dX3_nextChoice_74 ?_
  obtain ⟨v2, hv2, hf⟩ := g_bd hf
  refine ok_iald F K t60 hv2 dX3_nextChoice_75 ?_
  refine lv_aload_n hx hb dX3_nextChoice_76 rfl (lv_at hl 0 rfl) ?_
  refine ok_int F K fX3_48 dX3_nextChoice_77 ?_
  refine lv_icmp_lt (pc := 80) (tgt := 98) hx hb dX3_nextChoice_80 (by decide) (fun c3 => ?_) (fun c3 => ?_)
  · have hf := g_pos hf c3
    refine lv_aload_n hx hb dX3_nextChoice_98 rfl (lv_at hl 0 rfl) ?_
    obtain ⟨r5, u4, hu4, hf⟩ := g_b2 hf
    refine ok_calli (rest := []) F K (pX3_nextLiteral G hu4) mX3_nextLiteral oc9 lX3_127 rfl hl.1 rfl ⟨⟨rfl, rfl⟩, Nat.le_of_ble_eq_true rfl, Nat.le_of_ble_eq_true rfl⟩ (Nat.le_of_ble_eq_true rfl) dX3_nextChoice_99 (fun H locs K => ?_)
    obtain ⟨z6, hz6, hf⟩ := g_bd hf
    exact ok_retz B K hf (g_zb hz6).2 dX3_nextChoice_102
  · have hf := g_neg hf c3
    refine lv_aload_n hx hb dX3_nextChoice_83 rfl (lv_at hl 0 rfl) ?_
    refine lv_dup hx hb dX3_nextChoice_84 rfl ?_
    refine ok_int F K fX3_60 dX3_nextChoice_85 ?_
    refine lv_aload_n hx hb dX3_nextChoice_88 rfl (lv_at hl 0 rfl) ?_
    obtain ⟨r8, u7, hu7, hf⟩ := g_b2 hf
    refine ok_calli (rest := [.int (gI u 9 12), .ref (G.1 9)]) F K (pX3_nextLiteral G hu7) mX3_nextLiteral oc9 lX3_127 rfl hl.1 rfl ⟨⟨rfl, rfl⟩, Nat.le_of_ble_eq_true rfl, Nat.le_of_ble_eq_true rfl⟩ (Nat.le_of_ble_eq_true rfl) dX3_nextChoice_89 (fun H locs K => ?_)
    refine lv_ior hx hb dX3_nextChoice_92 ?_
    obtain ⟨z10, hz10, hf⟩ := g_bd hf
    refine ok_putZ F K qX3_60 (g_zb hz10).2 dX3_nextChoice_93 (fun u9 H locs eu9 K => ?_)
    have hf := g_lt hf u9 eu9
    refine lv_iconst (v := 0) hx hb dX3_nextChoice_96 kI_0 ?_
    exact ok_retz B K hf (Or.inl rfl) dX3_nextChoice_97
set_option maxRecDepth 100000 in
set_option maxHeartbeats 4000000 in
theorem pX3_nextChoice {l : Launch} (G : Gt) {r : Int32} {u u' : St} (hf : fX3_nextChoice u = some (r, u')) : Ctr 0 76 l yX3_nextChoice cX3_nextChoice 1 (some .boolean) rmX3_nextChoice [.ref (G.1 9)] G u (some (.int r)) u' := by
  refine Ctr.mk (by decide) (Nat.le_of_ble_eq_true rfl) (fun p e s m below meth c A ls B K hl => ?_)
  have F := B.1
  have hx := F.1
  have hb := F.2.1
  have hl : lv_has ls 1 [(0, .ref (G.1 9))] := hl
  unfold fX3_nextChoice at hf
  refine lv_aload_n hx hb dX3_nextChoice_0 rfl (lv_at hl 0 rfl) ?_
  refine ok_ref F K fX3_13 dX3_nextChoice_1 ?_
  refine lv_aload_n hx hb dX3_nextChoice_4 rfl (lv_at hl 0 rfl) ?_
  refine ok_int F K fX3_68 dX3_nextChoice_5 ?_
  obtain ⟨v11, hv11, hf⟩ := g_bd hf
  refine ok_iald F K t65 hv11 dX3_nextChoice_8 ?_
  refine lv_if_ne (pc := 9) (tgt := 17) hx hb dX3_nextChoice_9 (by decide) (fun c12 => ?_) (fun c12 => ?_)
  · have hf := g_neg hf c12
    refine lv_aload_n hx hb dX3_nextChoice_17 rfl (lv_at hl 0 rfl) ?_
    refine ok_ref F K fX3_13 dX3_nextChoice_18 ?_
    refine lv_aload_n hx hb dX3_nextChoice_21 rfl (lv_at hl 0 rfl) ?_
    refine ok_int F K fX3_68 dX3_nextChoice_22 ?_
    obtain ⟨v13, hv13, hf⟩ := g_bd hf
    refine ok_iald F K t65 hv13 dX3_nextChoice_25 ?_
    refine lv_iconst (v := 2) hx hb dX3_nextChoice_26 kI_2 ?_
    refine lv_icmp_ne (pc := 27) (tgt := 59) hx hb dX3_nextChoice_27 (by decide) (fun c14 => ?_) (fun c14 => ?_)
    · have hf := g_neg hf c14
      exact pX3_nextChoice_j59  B  u _ _ _ hf K (lv_sub hl [0] rfl)
    · have hf := g_pos hf c14
      refine lv_aload_n hx hb dX3_nextChoice_30 rfl (lv_at hl 0 rfl) ?_
      obtain ⟨r16, u15, hu15, hf⟩ := g_b2 hf
      refine ok_calli (rest := []) F K (pX3_nextAbove G hu15) mX3_nextAbove oc9 lX3_121 rfl hl.1 rfl ⟨⟨rfl, rfl⟩, Nat.le_of_ble_eq_true rfl, Nat.le_of_ble_eq_true rfl⟩ (Nat.le_of_ble_eq_true rfl) dX3_nextChoice_31 (fun H locs K => ?_)
      refine lv_if_eq (pc := 34) (tgt := 39) hx hb dX3_nextChoice_34 (by decide) (fun c17 => ?_) (fun c17 => ?_)
      · have hf := g_pos hf c17
        refine lv_aload_n hx hb dX3_nextChoice_39 rfl (lv_at hl 0 rfl) ?_
        refine ok_ref F K fX3_13 dX3_nextChoice_40 ?_
        refine lv_aload_n hx hb dX3_nextChoice_43 rfl (lv_at hl 0 rfl) ?_
        refine ok_int F K fX3_68 dX3_nextChoice_44 ?_
        refine lv_iconst (v := 1) hx hb dX3_nextChoice_47 kI_1 ?_
        obtain ⟨u18, hu18, hf⟩ := g_bd hf
        refine ok_iast F K t65 hu18 dX3_nextChoice_48 (fun H locs K => ?_)
        refine lv_aload_n hx hb dX3_nextChoice_49 rfl (lv_at hl 0 rfl) ?_
        refine ok_ref F K fX3_20 dX3_nextChoice_50 ?_
        refine lv_aload_n hx hb dX3_nextChoice_53 rfl (lv_at hl 0 rfl) ?_
        refine ok_int F K fX3_68 dX3_nextChoice_54 ?_
        refine lv_iconst (v := (-1)) hx hb dX3_nextChoice_57 kI_m1 ?_
        obtain ⟨u19, hu19, hf⟩ := g_bd hf
        refine ok_iast F K t67 hu19 dX3_nextChoice_58 (fun H locs K => ?_)
        exact pX3_nextChoice_j59  B  u19 _ _ _ hf K (lv_sub hl [0] rfl)
      · have hf := g_neg hf c17
        refine lv_iconst (v := 1) hx hb dX3_nextChoice_37 kI_1 ?_
        exact ok_retz B K hf (Or.inr rfl) dX3_nextChoice_38
  · have hf := g_pos hf c12
    refine lv_aload_n hx hb dX3_nextChoice_12 rfl (lv_at hl 0 rfl) ?_
    obtain ⟨r21, u20, hu20, hf⟩ := g_b2 hf
    refine ok_calli (rest := []) F K (pX3_nextStart G hu20) mX3_nextStart oc9 lX3_118 rfl hl.1 rfl ⟨⟨rfl, rfl⟩, Nat.le_of_ble_eq_true rfl, Nat.le_of_ble_eq_true rfl⟩ (Nat.le_of_ble_eq_true rfl) dX3_nextChoice_13 (fun H locs K => ?_)
    obtain ⟨z22, hz22, hf⟩ := g_bd hf
    exact ok_retz B K hf (g_zb hz22).2 dX3_nextChoice_16
abbrev rmX8_begin : Room := { frames := 1, cells := 0, slots := 0, locals := 23 }
set_option maxRecDepth 100000 in
set_option maxHeartbeats 4000000 in
theorem pX8_begin {l : Launch} (G : Gt) {a0 : Int32} {a1 : Int32} {a2 : Int32} {u u' : St} (hf : fX8_begin a0 a1 a2 u = some u') : Ctr 0 76 l yX8_begin cX8_begin 6 none rmX8_begin [.ref (G.1 8), .int a0, .int a1, .int a2] G u none u' := by
  refine Ctr.mk (by decide) (Nat.le_of_ble_eq_true rfl) (fun p e s m below meth c A ls B K hl => ?_)
  have F := B.1
  have hx := F.1
  have hb := F.2.1
  have hl : lv_has ls 6 [(0, .ref (G.1 8)), (1, .int a0), (2, .int a1), (3, .int a2)] := hl
  unfold fX8_begin at hf
  refine lv_aload_n hx hb dX8_begin_0 rfl (lv_at hl 0 rfl) ?_
  refine ok_ref F K fX8_7 dX8_begin_1 ?_
  refine ok_ref F K fX8_27 dX8_begin_4 ?_
  refine lv_aload_n hx hb dX8_begin_7 rfl (lv_at hl 0 rfl) ?_
  refine ok_ref F K fX8_13 dX8_begin_8 ?_
  refine ok_ref F K fX8_33 dX8_begin_11 ?_
  refine lv_iload_n hx hb dX8_begin_14 rfl (lv_at hl 1 rfl) ?_
  obtain ⟨v1, hv1, hf⟩ := g_bd hf
  refine ok_iald F K t57 hv1 dX8_begin_15 ?_
  obtain ⟨v2, hv2, hf⟩ := g_bd hf
  refine ok_iald F K t29 hv2 dX8_begin_16 ?_
  refine lv_istore (lv' := [(4, .int v2), (0, .ref (G.1 8)), (1, .int a0), (2, .int a1), (3, .int a2)]) hx hb dX8_begin_17 hl (by decide) rfl (fun ls hl => ?_)
  refine lv_aload_n hx hb dX8_begin_19 rfl (lv_at hl 1 rfl) ?_
  refine ok_ref F K fX8_7 dX8_begin_20 ?_
  refine ok_ref F K fX8_38 dX8_begin_23 ?_
  refine lv_iload hx hb dX8_begin_26 (lv_at hl 0 rfl) ?_
  obtain ⟨v3, hv3, hf⟩ := g_bd hf
  refine ok_iald F K t32 hv3 dX8_begin_28 ?_
  refine lv_bipush (v := 7) hx hb dX8_begin_29 kB_7 ?_
  refine lv_iand hx hb dX8_begin_31 ?_
  refine lv_topi (fun x4 ex4 => ?_)
  have hf := g_lt hf x4 ex4
  refine lv_istore (lv' := [(5, .int x4), (4, .int v2), (0, .ref (G.1 8)), (1, .int a0), (2, .int a1), (3, .int a2)]) hx hb dX8_begin_32 hl (by decide) rfl (fun ls hl => ?_)
  refine lv_aload_n hx hb dX8_begin_34 rfl (lv_at hl 2 rfl) ?_
  refine ok_ref F K fX8_17 dX8_begin_35 ?_
  refine lv_iload hx hb dX8_begin_38 (lv_at hl 1 rfl) ?_
  refine lv_iconst (v := 1) hx hb dX8_begin_40 kI_1 ?_
  refine lv_iadd hx hb dX8_begin_41 ?_
  refine lv_aload_n hx hb dX8_begin_42 rfl (lv_at hl 2 rfl) ?_
  refine ok_ref F K fX8_13 dX8_begin_43 ?_
  refine ok_ref F K fX8_41 dX8_begin_46 ?_
  refine lv_iload_n hx hb dX8_begin_49 rfl (lv_at hl 3 rfl) ?_
  obtain ⟨v5, hv5, hf⟩ := g_bd hf
  refine ok_iald F K t58 hv5 dX8_begin_50 ?_
  refine lv_iload hx hb dX8_begin_51 (lv_at hl 0 rfl) ?_
  obtain ⟨u6, hu6, hf⟩ := g_bd hf
  refine ok_callv (rest := []) F K (pX9_begin G (w := 0) (by decide) hu6) mX9_begin (ocW (w := 0) (by decide)) lX8_44 rfl hl.1 rfl ⟨⟨rfl, rfl⟩, Nat.le_of_ble_eq_true rfl, Nat.le_of_ble_eq_true rfl⟩ (Nat.le_of_ble_eq_true rfl) dX8_begin_53 (fun H locs K => ?_)
  refine lv_aload_n hx hb dX8_begin_56 rfl (lv_at hl 2 rfl) ?_
  refine ok_ref F K fX8_21 dX8_begin_57 ?_
  refine lv_aload_n hx hb dX8_begin_60 rfl (lv_at hl 2 rfl) ?_
  refine ok_ref F K fX8_7 dX8_begin_61 ?_
  refine ok_ref F K fX8_27 dX8_begin_64 ?_
  refine lv_iload_n hx hb dX8_begin_67 rfl (lv_at hl 4 rfl) ?_
  obtain ⟨v7, hv7, hf⟩ := g_bd hf
  refine ok_iald F K t29 hv7 dX8_begin_68 ?_
  refine lv_iconst (v := 1) hx hb dX8_begin_69 kI_1 ?_
  refine lv_iadd hx hb dX8_begin_70 ?_
  refine lv_iload_n hx hb dX8_begin_71 rfl (lv_at hl 5 rfl) ?_
  refine lv_iload hx hb dX8_begin_72 (lv_at hl 0 rfl) ?_
  obtain ⟨u8, hu8, hf⟩ := g_bd hf
  refine ok_callv (rest := []) F K (pX9_begin G (w := 1) (by decide) hu8) mX9_begin (ocW (w := 1) (by decide)) lX8_44 rfl hl.1 rfl ⟨⟨rfl, rfl⟩, Nat.le_of_ble_eq_true rfl, Nat.le_of_ble_eq_true rfl⟩ (Nat.le_of_ble_eq_true rfl) dX8_begin_74 (fun H locs K => ?_)
  exact ok_retv B K hf dX8_begin_77
abbrev rmX9_cell : Room := { frames := 0, cells := 0, slots := 0, locals := 0 }
set_option maxRecDepth 100000 in
set_option maxHeartbeats 4000000 in
theorem pX9_cell {l : Launch} (G : Gt) {w : Nat} (hw : w < 3) {r : Int32} {u u' : St} (hf : fX9_cell w u = some (r, u')) : Ctr 0 76 l yX9_cell cX9_cell 1 (some .int) rmX9_cell [.ref (G.1 (11 + w))] G u (some (.int r)) u' := by
  refine Ctr.mk (by decide) (Nat.le_of_ble_eq_true rfl) (fun p e s m below meth c A ls B K hl => ?_)
  have F := B.1
  have hx := F.1
  have hb := F.2.1
  have hl : lv_has ls 1 [(0, .ref (G.1 (11 + w)))] := hl
  unfold fX9_cell at hf
  refine lv_aload_n hx hb dX9_cell_0 rfl (lv_at hl 0 rfl) ?_
  refine ok_ref F K (fX9_13 hw) dX9_cell_1 ?_
  refine lv_aload_n hx hb dX9_cell_4 rfl (lv_at hl 0 rfl) ?_
  refine ok_int F K (fX9_31 hw) dX9_cell_5 ?_
  obtain ⟨v1, hv1, hf⟩ := g_bd hf
  refine ok_iald F K (tW0 (w := w) hw) hv1 dX9_cell_8 ?_
  exact ok_reti B K hf dX9_cell_9
abbrev rmX9_cellBase : Room := { frames := 0, cells := 0, slots := 0, locals := 0 }
set_option maxRecDepth 100000 in
set_option maxHeartbeats 4000000 in
theorem pX9_cellBase {l : Launch} (G : Gt) {w : Nat} (hw : w < 3) {r : Int32} {u u' : St} (hf : fX9_cellBase w u = some (r, u')) : Ctr 0 76 l yX9_cellBase cX9_cellBase 1 (some .int) rmX9_cellBase [.ref (G.1 (11 + w))] G u (some (.int r)) u' := by
  refine Ctr.mk (by decide) (Nat.le_of_ble_eq_true rfl) (fun p e s m below meth c A ls B K hl => ?_)
  have F := B.1
  have hx := F.1
  have hb := F.2.1
  have hl : lv_has ls 1 [(0, .ref (G.1 (11 + w)))] := hl
  unfold fX9_cellBase at hf
  refine lv_aload_n hx hb dX9_cellBase_0 rfl (lv_at hl 0 rfl) ?_
  refine ok_ref F K (fX9_17 hw) dX9_cellBase_1 ?_
  refine lv_aload_n hx hb dX9_cellBase_4 rfl (lv_at hl 0 rfl) ?_
  refine ok_int F K (fX9_31 hw) dX9_cellBase_5 ?_
  obtain ⟨v1, hv1, hf⟩ := g_bd hf
  refine ok_iald F K (tW1 (w := w) hw) hv1 dX9_cellBase_8 ?_
  exact ok_reti B K hf dX9_cellBase_9
abbrev rmX8_stands : Room := { frames := 1, cells := 0, slots := 0, locals := 23 }
set_option maxRecDepth 100000 in
set_option maxHeartbeats 4000000 in
theorem pX8_stands_L0 {p : Program} {l : Launch} {e : Env} {s : State} {m : MethodId} {below : List Frame} {meth : Method} {c : Code} {A : Nat → Prop} {G : Gt} {a0 : Int32} {a1 : Nat} {r : Int32} {u' : St} (ha1 : a1 < 3) (B : Bd p s m [.ref (G.1 8), .int a0, .ref (G.1 (11 + a1))] meth c yX8_stands cX8_stands 3 (some .int)) (n : Nat) : (∀ (x1_ : Int32) (u : St) (H : Heap) (locs : List Loc) (ls : Array Slot), fX8_stands_L0 a1 n 0 x1_ u = some (r, u') → Ok 0 76 G A s u H locs → lv_has ls 3 [(0, .ref (G.1 8)), (1, .int x1_)] → W p l e rmX8_stands s m ([.ref (G.1 8), .int a0, .ref (G.1 (11 + a1))] : List Value).toArray below meth c H locs 0 0 (MQ below (Qg 0 76 G A (some (.int r)) u') ([.ref (G.1 8), .int a0, .ref (G.1 (11 + a1))] : List Value).toArray s 0 0 A) (F0 m 16 ls [])) := by
  have F := B.1
  have hx := F.1
  have hb := F.2.1
  induction n with
  | zero => exact fun _ _ _ _ _ hf => g_no hf
  | succ n ih =>
    refine ?_
    · intro x1_ u H locs ls hf K hl
      have hf : fX8_stands_L0_0 a1 (fX8_stands_L0 a1 n) x1_ u = some (r, u') := hf
      unfold fX8_stands_L0_0 at hf
      refine lv_aload_n hx hb dX8_stands_16 rfl (lv_at hl 0 rfl) ?_
      refine ok_ref F K fX8_24 dX8_stands_17 ?_
      obtain ⟨r2, u1, hu1, hf⟩ := g_b2 hf
      refine ok_calli (rest := []) F K (pX9_more G (w := 2) (by decide) hu1) mX9_more (ocW (w := 2) (by decide)) lX8_55 rfl hl.1 rfl ⟨⟨rfl, rfl⟩, Nat.le_of_ble_eq_true rfl, Nat.le_of_ble_eq_true rfl⟩ (Nat.le_of_ble_eq_true rfl) dX8_stands_20 (fun H locs K => ?_)
      refine lv_if_eq (pc := 23) (tgt := 71) hx hb dX8_stands_23 (by decide) (fun c3 => ?_) (fun c3 => ?_)
      · have hf := g_pos hf c3
        refine lv_iconst (v := 0) hx hb dX8_stands_71 kI_0 ?_
        exact ok_reti B K hf dX8_stands_72
      · have hf := g_neg hf c3
        refine lv_aload_n hx hb dX8_stands_26 rfl (lv_at hl 0 rfl) ?_
        refine lv_dup hx hb dX8_stands_27 rfl ?_
        refine ok_int F K fX8_51 dX8_stands_28 ?_
        refine lv_iconst (v := 1) hx hb dX8_stands_31 kI_1 ?_
        refine lv_iadd hx hb dX8_stands_32 ?_
        refine ok_putI F K qX8_51 dX8_stands_33 (fun u4 H locs eu4 K => ?_)
        have hf := g_lt hf u4 eu4
        refine lv_aload_n hx hb dX8_stands_36 rfl (lv_at hl 0 rfl) ?_
        refine ok_int F K fX8_51 dX8_stands_37 ?_
        refine lv_sipush (v := 4000) hx hb dX8_stands_40 kS_4000 ?_
        refine lv_icmp_le (pc := 43) (tgt := 48) hx hb dX8_stands_43 (by decide) (fun c5 => ?_) (fun c5 => ?_)
        · have hf := g_pos hf c5
          refine lv_aload_n hx hb dX8_stands_48 rfl (lv_at hl 0 rfl) ?_
          refine ok_ref F K fX8_24 dX8_stands_49 ?_
          obtain ⟨r7, u6, hu6, hf⟩ := g_b2 hf
          refine ok_calli (rest := []) F K (pX9_variable G (w := 2) (by decide) hu6) mX9_variable (ocW (w := 2) (by decide)) lX8_59 rfl hl.1 rfl ⟨⟨rfl, rfl⟩, Nat.le_of_ble_eq_true rfl, Nat.le_of_ble_eq_true rfl⟩ (Nat.le_of_ble_eq_true rfl) dX8_stands_52 (fun H locs K => ?_)
          refine lv_iload_n hx hb dX8_stands_55 rfl (lv_at hl 1 rfl) ?_
          refine lv_icmp_ne (pc := 56) (tgt := 61) hx hb dX8_stands_56 (by decide) (fun c8 => ?_) (fun c8 => ?_)
          · have hf := g_neg hf c8
            refine lv_aload_n hx hb dX8_stands_61 rfl (lv_at hl 0 rfl) ?_
            refine ok_ref F K fX8_24 dX8_stands_62 ?_
            obtain ⟨u9, hu9, hf⟩ := g_bd hf
            refine ok_callv (rest := []) F K (pX9_enter G (w := 2) (by decide) hu9) mX9_enter (ocW (w := 2) (by decide)) lX8_66 rfl hl.1 rfl ⟨⟨rfl, rfl⟩, Nat.le_of_ble_eq_true rfl, Nat.le_of_ble_eq_true rfl⟩ (Nat.le_of_ble_eq_true rfl) dX8_stands_65 (fun H locs K => ?_)
            refine lv_goto (pc := 68) (tgt := 16) hx hb dX8_stands_68 (by decide) ?_
            exact ih x1_ u9 _ _ _ hf K (lv_sub hl [0, 1] rfl)
          · have hf := g_pos hf c8
            refine lv_iconst (v := 1) hx hb dX8_stands_59 kI_1 ?_
            exact ok_reti B K hf dX8_stands_60
        · have hf := g_neg hf c5
          refine lv_iconst (v := 2) hx hb dX8_stands_46 kI_2 ?_
          exact ok_reti B K hf dX8_stands_47
set_option maxRecDepth 100000 in
set_option maxHeartbeats 4000000 in
theorem pX8_stands {l : Launch} (G : Gt) {a0 : Int32} {a1 : Nat} (ha1 : a1 < 3) {r : Int32} {u u' : St} (hf : fX8_stands a0 a1 u = some (r, u')) : Ctr 0 76 l yX8_stands cX8_stands 3 (some .int) rmX8_stands [.ref (G.1 8), .int a0, .ref (G.1 (11 + a1))] G u (some (.int r)) u' := by
  refine Ctr.mk (by decide) (Nat.le_of_ble_eq_true rfl) (fun p e s m below meth c A ls B K hl => ?_)
  have F := B.1
  have hx := F.1
  have hb := F.2.1
  have hl : lv_has ls 3 [(0, .ref (G.1 8)), (1, .int a0), (2, .ref (G.1 (11 + a1)))] := hl
  unfold fX8_stands at hf
  refine lv_aload_n hx hb dX8_stands_0 rfl (lv_at hl 0 rfl) ?_
  refine ok_ref F K fX8_24 dX8_stands_1 ?_
  refine lv_aload_n hx hb dX8_stands_4 rfl (lv_at hl 2 rfl) ?_
  obtain ⟨r11, u10, hu10, hf⟩ := g_b2 hf
  refine ok_calli (rest := [.ref (G.1 13)]) F K (pX9_cell G (w := a1) ha1 hu10) mX9_cell (ocW (w := a1) ha1) lX8_80 rfl hl.1 rfl ⟨⟨rfl, rfl⟩, Nat.le_of_ble_eq_true rfl, Nat.le_of_ble_eq_true rfl⟩ (Nat.le_of_ble_eq_true rfl) dX8_stands_5 (fun H locs K => ?_)
  refine lv_aload_n hx hb dX8_stands_8 rfl (lv_at hl 2 rfl) ?_
  obtain ⟨r13, u12, hu12, hf⟩ := g_b2 hf
  refine ok_calli (rest := [.int r11, .ref (G.1 13)]) F K (pX9_cellBase G (w := a1) ha1 hu12) mX9_cellBase (ocW (w := a1) ha1) lX8_83 rfl hl.1 rfl ⟨⟨rfl, rfl⟩, Nat.le_of_ble_eq_true rfl, Nat.le_of_ble_eq_true rfl⟩ (Nat.le_of_ble_eq_true rfl) dX8_stands_9 (fun H locs K => ?_)
  refine lv_iconst (v := 1) hx hb dX8_stands_12 kI_1 ?_
  obtain ⟨u14, hu14, hf⟩ := g_bd hf
  refine ok_callv (rest := []) F K (pX9_begin G (w := 2) (by decide) hu14) mX9_begin (ocW (w := 2) (by decide)) lX8_44 rfl hl.1 rfl ⟨⟨rfl, rfl⟩, Nat.le_of_ble_eq_true rfl, Nat.le_of_ble_eq_true rfl⟩ (Nat.le_of_ble_eq_true rfl) dX8_stands_13 (fun H locs K => ?_)
  exact (pX8_stands_L0 ha1 B FU) a0 u14 _ _ _ hf K (lv_sub hl [0, 1] rfl)
abbrev rmX5_bind : Room := { frames := 0, cells := 0, slots := 0, locals := 0 }
set_option maxRecDepth 100000 in
set_option maxHeartbeats 4000000 in
theorem pX5_bind {l : Launch} (G : Gt) {a0 : Int32} {a1 : Int32} {a2 : Int32} {u u' : St} (hf : fX5_bind a0 a1 a2 u = some u') : Ctr 0 76 l yX5_bind cX5_bind 4 none rmX5_bind [.ref (G.1 7), .int a0, .int a1, .int a2] G u none u' := by
  refine Ctr.mk (by decide) (Nat.le_of_ble_eq_true rfl) (fun p e s m below meth c A ls B K hl => ?_)
  have F := B.1
  have hx := F.1
  have hb := F.2.1
  have hl : lv_has ls 4 [(0, .ref (G.1 7)), (1, .int a0), (2, .int a1), (3, .int a2)] := hl
  unfold fX5_bind at hf
  refine lv_aload_n hx hb dX5_bind_0 rfl (lv_at hl 0 rfl) ?_
  refine ok_int F K fX5_40 dX5_bind_1 ?_
  refine lv_sipush (v := 220) hx hb dX5_bind_4 kS_220 ?_
  refine lv_icmp_ge (pc := 7) (tgt := 44) hx hb dX5_bind_7 (by decide) (fun c1 => ?_) (fun c1 => ?_)
  · have hf := g_pos hf c1
    exact ok_retv B K hf dX5_bind_44
  · have hf := g_neg hf c1
    refine lv_aload_n hx hb dX5_bind_10 rfl (lv_at hl 0 rfl) ?_
    refine ok_ref F K fX5_27 dX5_bind_11 ?_
    refine lv_iload_n hx hb dX5_bind_14 rfl (lv_at hl 1 rfl) ?_
    refine lv_iload_n hx hb dX5_bind_15 rfl (lv_at hl 2 rfl) ?_
    obtain ⟨u2, hu2, hf⟩ := g_bd hf
    refine ok_iast F K t62 hu2 dX5_bind_16 (fun H locs K => ?_)
    refine lv_aload_n hx hb dX5_bind_17 rfl (lv_at hl 0 rfl) ?_
    refine ok_ref F K fX5_30 dX5_bind_18 ?_
    refine lv_iload_n hx hb dX5_bind_21 rfl (lv_at hl 1 rfl) ?_
    refine lv_iload_n hx hb dX5_bind_22 rfl (lv_at hl 3 rfl) ?_
    obtain ⟨u3, hu3, hf⟩ := g_bd hf
    refine ok_iast F K t63 hu3 dX5_bind_23 (fun H locs K => ?_)
    refine lv_aload_n hx hb dX5_bind_24 rfl (lv_at hl 0 rfl) ?_
    refine ok_ref F K fX5_33 dX5_bind_25 ?_
    refine lv_aload_n hx hb dX5_bind_28 rfl (lv_at hl 0 rfl) ?_
    refine ok_int F K fX5_40 dX5_bind_29 ?_
    refine lv_iload_n hx hb dX5_bind_32 rfl (lv_at hl 1 rfl) ?_
    obtain ⟨u4, hu4, hf⟩ := g_bd hf
    refine ok_iast F K t64 hu4 dX5_bind_33 (fun H locs K => ?_)
    refine lv_aload_n hx hb dX5_bind_34 rfl (lv_at hl 0 rfl) ?_
    refine lv_dup hx hb dX5_bind_35 rfl ?_
    refine ok_int F K fX5_40 dX5_bind_36 ?_
    refine lv_iconst (v := 1) hx hb dX5_bind_39 kI_1 ?_
    refine lv_iadd hx hb dX5_bind_40 ?_
    refine ok_putI F K qX5_40 dX5_bind_41 (fun u5 H locs eu5 K => ?_)
    have hf := g_lt hf u5 eu5
    exact ok_retv B K hf dX5_bind_44
abbrev rmX8_bind : Room := { frames := 1, cells := 0, slots := 0, locals := 23 }
set_option maxRecDepth 100000 in
set_option maxHeartbeats 4000000 in
theorem pX8_bind {l : Launch} (G : Gt) {a0 : Int32} {a1 : Int32} {u u' : St} (hf : fX8_bind a0 a1 u = some u') : Ctr 0 76 l yX8_bind cX8_bind 3 none rmX8_bind [.ref (G.1 8), .int a0, .int a1] G u none u' := by
  refine Ctr.mk (by decide) (Nat.le_of_ble_eq_true rfl) (fun p e s m below meth c A ls B K hl => ?_)
  have F := B.1
  have hx := F.1
  have hb := F.2.1
  have hl : lv_has ls 3 [(0, .ref (G.1 8)), (1, .int a0), (2, .int a1)] := hl
  unfold fX8_bind at hf
  refine lv_iload_n hx hb dX8_bind_0 rfl (lv_at hl 1 rfl) ?_
  refine lv_if_lt (pc := 1) (tgt := 29) hx hb dX8_bind_1 (by decide) (fun c1 => ?_) (fun c1 => ?_)
  · have hf := g_pos hf c1
    refine lv_aload_n hx hb dX8_bind_29 rfl (lv_at hl 0 rfl) ?_
    refine ok_ref F K fX8_13 dX8_bind_30 ?_
    refine lv_iload_n hx hb dX8_bind_33 rfl (lv_at hl 2 rfl) ?_
    refine lv_aload_n hx hb dX8_bind_34 rfl (lv_at hl 0 rfl) ?_
    refine ok_ref F K fX8_17 dX8_bind_35 ?_
    obtain ⟨r3, u2, hu2, hf⟩ := g_b2 hf
    refine ok_calli (rest := [.int a1, .ref (G.1 7)]) F K (pX9_cell G (w := 0) (by decide) hu2) mX9_cell (ocW (w := 0) (by decide)) lX8_80 rfl hl.1 rfl ⟨⟨rfl, rfl⟩, Nat.le_of_ble_eq_true rfl, Nat.le_of_ble_eq_true rfl⟩ (Nat.le_of_ble_eq_true rfl) dX8_bind_38 (fun H locs K => ?_)
    refine lv_aload_n hx hb dX8_bind_41 rfl (lv_at hl 0 rfl) ?_
    refine ok_ref F K fX8_17 dX8_bind_42 ?_
    obtain ⟨r5, u4, hu4, hf⟩ := g_b2 hf
    refine ok_calli (rest := [.int r3, .int a1, .ref (G.1 7)]) F K (pX9_cellBase G (w := 0) (by decide) hu4) mX9_cellBase (ocW (w := 0) (by decide)) lX8_83 rfl hl.1 rfl ⟨⟨rfl, rfl⟩, Nat.le_of_ble_eq_true rfl, Nat.le_of_ble_eq_true rfl⟩ (Nat.le_of_ble_eq_true rfl) dX8_bind_45 (fun H locs K => ?_)
    obtain ⟨u6, hu6, hf⟩ := g_bd hf
    refine ok_callv (rest := []) F K (pX5_bind G hu6) mX5_bind oc7 lX8_86 rfl hl.1 rfl ⟨⟨rfl, rfl⟩, Nat.le_of_ble_eq_true rfl, Nat.le_of_ble_eq_true rfl⟩ (Nat.le_of_ble_eq_true rfl) dX8_bind_48 (fun H locs K => ?_)
    exact ok_retv B K hf dX8_bind_51
  · have hf := g_neg hf c1
    refine lv_aload_n hx hb dX8_bind_4 rfl (lv_at hl 0 rfl) ?_
    refine ok_ref F K fX8_13 dX8_bind_5 ?_
    refine lv_iload_n hx hb dX8_bind_8 rfl (lv_at hl 1 rfl) ?_
    refine lv_aload_n hx hb dX8_bind_9 rfl (lv_at hl 0 rfl) ?_
    refine ok_ref F K fX8_21 dX8_bind_10 ?_
    obtain ⟨r8, u7, hu7, hf⟩ := g_b2 hf
    refine ok_calli (rest := [.int a0, .ref (G.1 7)]) F K (pX9_cell G (w := 1) (by decide) hu7) mX9_cell (ocW (w := 1) (by decide)) lX8_80 rfl hl.1 rfl ⟨⟨rfl, rfl⟩, Nat.le_of_ble_eq_true rfl, Nat.le_of_ble_eq_true rfl⟩ (Nat.le_of_ble_eq_true rfl) dX8_bind_13 (fun H locs K => ?_)
    refine lv_aload_n hx hb dX8_bind_16 rfl (lv_at hl 0 rfl) ?_
    refine ok_ref F K fX8_21 dX8_bind_17 ?_
    obtain ⟨r10, u9, hu9, hf⟩ := g_b2 hf
    refine ok_calli (rest := [.int r8, .int a0, .ref (G.1 7)]) F K (pX9_cellBase G (w := 1) (by decide) hu9) mX9_cellBase (ocW (w := 1) (by decide)) lX8_83 rfl hl.1 rfl ⟨⟨rfl, rfl⟩, Nat.le_of_ble_eq_true rfl, Nat.le_of_ble_eq_true rfl⟩ (Nat.le_of_ble_eq_true rfl) dX8_bind_20 (fun H locs K => ?_)
    obtain ⟨u11, hu11, hf⟩ := g_bd hf
    refine ok_callv (rest := []) F K (pX5_bind G hu11) mX5_bind oc7 lX8_86 rfl hl.1 rfl ⟨⟨rfl, rfl⟩, Nat.le_of_ble_eq_true rfl, Nat.le_of_ble_eq_true rfl⟩ (Nat.le_of_ble_eq_true rfl) dX8_bind_23 (fun H locs K => ?_)
    refine lv_goto (pc := 26) (tgt := 51) hx hb dX8_bind_26 (by decide) ?_
    exact ok_retv B K hf dX8_bind_51
abbrev rmX9_skip : Room := { frames := 1, cells := 0, slots := 0, locals := 21 }
set_option maxRecDepth 100000 in
set_option maxHeartbeats 4000000 in
theorem pX9_skip_L0 {p : Program} {l : Launch} {e : Env} {s : State} {m : MethodId} {below : List Frame} {meth : Method} {c : Code} {A : Nat → Prop} {G : Gt} {w : Nat} {u' : St} (hw : w < 3) (B : Bd p s m [.ref (G.1 (11 + w))] meth c yX9_skip cX9_skip 3 none) (n : Nat) : (∀ (x1_ : Int32) (x2_ : Int32) (u : St) (H : Heap) (locs : List Loc) (ls : Array Slot), fX9_skip_L0 w n 0 x1_ x2_ u = some u' → Ok 0 76 G A s u H locs → lv_has ls 3 [(0, .ref (G.1 (11 + w))), (1, .int x1_), (2, .int x2_)] → W p l e rmX9_skip s m ([.ref (G.1 (11 + w))] : List Value).toArray below meth c H locs 0 0 (MQ below (Qg 0 76 G A none u') ([.ref (G.1 (11 + w))] : List Value).toArray s 0 0 A) (F0 m 14 ls [])) := by
  have F := B.1
  have hx := F.1
  have hb := F.2.1
  induction n with
  | zero => exact fun _ _ _ _ _ _ hf => g_no hf
  | succ n ih =>
    refine ?_
    · intro x1_ x2_ u H locs ls hf K hl
      have hf : fX9_skip_L0_0 w (fX9_skip_L0 w n) x1_ x2_ u = some u' := hf
      unfold fX9_skip_L0_0 at hf
      refine lv_iload_n hx hb dX9_skip_14 rfl (lv_at hl 2 rfl) ?_
      refine lv_sipush (v := 200) hx hb dX9_skip_15 kS_200 ?_
      refine lv_icmp_ge (pc := 18) (tgt := 44) hx hb dX9_skip_18 (by decide) (fun c1 => ?_) (fun c1 => ?_)
      · have hf := g_pos hf c1
        exact ok_retv B K hf dX9_skip_44
      · have hf := g_neg hf c1
        refine lv_aload_n hx hb dX9_skip_21 rfl (lv_at hl 0 rfl) ?_
        refine ok_ref F K (fX9_20 hw) dX9_skip_22 ?_
        refine lv_aload_n hx hb dX9_skip_25 rfl (lv_at hl 0 rfl) ?_
        refine ok_int F K (fX9_31 hw) dX9_skip_26 ?_
        obtain ⟨v2, hv2, hf⟩ := g_bd hf
        refine ok_iald F K (tW2 (w := w) hw) hv2 dX9_skip_29 ?_
        refine lv_iload_n hx hb dX9_skip_30 rfl (lv_at hl 1 rfl) ?_
        refine lv_icmp_le (pc := 31) (tgt := 44) hx hb dX9_skip_31 (by decide) (fun c3 => ?_) (fun c3 => ?_)
        · have hf := g_pos hf c3
          exact ok_retv B K hf dX9_skip_44
        · have hf := g_neg hf c3
          refine lv_aload_n hx hb dX9_skip_34 rfl (lv_at hl 0 rfl) ?_
          obtain ⟨u4, hu4, hf⟩ := g_bd hf
          refine ok_callv (rest := []) F K (pX9_enter G (w := w) hw hu4) mX9_enter (ocW (w := w) hw) lX9_47 rfl hl.1 rfl ⟨⟨rfl, rfl⟩, Nat.le_of_ble_eq_true rfl, Nat.le_of_ble_eq_true rfl⟩ (Nat.le_of_ble_eq_true rfl) dX9_skip_35 (fun H locs K => ?_)
          obtain ⟨x5, ex5⟩ : ∃ y : Int32, y = x2_ + 1 := ⟨_, rfl⟩
          have hf := g_lt hf x5 ex5
          refine lv_iinc (v := x5) (lv' := [(2, .int x5), (0, .ref (G.1 (11 + w))), (1, .int x1_)]) hx hb dX9_skip_38 hl (k := 2) rfl (by rw [kI_1, ex5]) (by decide) rfl (fun ls hl => ?_)
          refine lv_goto (pc := 41) (tgt := 14) hx hb dX9_skip_41 (by decide) ?_
          exact ih x1_ x5 u4 _ _ _ hf K (lv_sub hl [1, 2, 0] rfl)
set_option maxRecDepth 100000 in
set_option maxHeartbeats 4000000 in
theorem pX9_skip {l : Launch} (G : Gt) {w : Nat} (hw : w < 3) {u u' : St} (hf : fX9_skip w u = some u') : Ctr 0 76 l yX9_skip cX9_skip 3 none rmX9_skip [.ref (G.1 (11 + w))] G u none u' := by
  refine Ctr.mk (by decide) (Nat.le_of_ble_eq_true rfl) (fun p e s m below meth c A ls B K hl => ?_)
  have F := B.1
  have hx := F.1
  have hb := F.2.1
  have hl : lv_has ls 3 [(0, .ref (G.1 (11 + w)))] := hl
  unfold fX9_skip at hf
  refine lv_aload_n hx hb dX9_skip_0 rfl (lv_at hl 0 rfl) ?_
  refine ok_ref F K (fX9_20 hw) dX9_skip_1 ?_
  refine lv_aload_n hx hb dX9_skip_4 rfl (lv_at hl 0 rfl) ?_
  refine ok_int F K (fX9_31 hw) dX9_skip_5 ?_
  obtain ⟨v6, hv6, hf⟩ := g_bd hf
  refine ok_iald F K (tW2 (w := w) hw) hv6 dX9_skip_8 ?_
  refine lv_iconst (v := 1) hx hb dX9_skip_9 kI_1 ?_
  refine lv_isub hx hb dX9_skip_10 ?_
  refine lv_topi (fun x7 ex7 => ?_)
  have hf := g_lt hf x7 ex7
  refine lv_istore_n (lv' := [(1, .int x7), (0, .ref (G.1 (11 + w)))]) hx hb dX9_skip_11 rfl hl (by decide) rfl (fun ls hl => ?_)
  refine lv_iconst (v := 0) hx hb dX9_skip_12 kI_0 ?_
  refine lv_topi (fun x8 ex8 => ?_)
  have hf := g_lt hf x8 ex8
  refine lv_istore_n (lv' := [(2, .int x8), (1, .int x7), (0, .ref (G.1 (11 + w)))]) hx hb dX9_skip_13 rfl hl (by decide) rfl (fun ls hl => ?_)
  exact (pX9_skip_L0 hw B FU) x7 x8 u _ _ _ hf K (lv_sub hl [2, 1, 0] rfl)
abbrev rmX8_unify : Room := { frames := 2, cells := 0, slots := 0, locals := 48 }
set_option maxRecDepth 100000 in
set_option maxHeartbeats 4000000 in
theorem pX8_unify_L0 {p : Program} {l : Launch} {e : Env} {s : State} {m : MethodId} {below : List Frame} {meth : Method} {c : Code} {A : Nat → Prop} {G : Gt} {a0 : Int32} {a1 : Int32} {a2 : Int32} {r : Int32} {u' : St} (B : Bd p s m [.ref (G.1 8), .int a0, .int a1, .int a2] meth c yX8_unify cX8_unify 7 (some .int)) (n : Nat) : (∀ (u : St) (H : Heap) (locs : List Loc) (ls : Array Slot), fX8_unify_L0  n 0 0 0 0 u = some (r, u') → Ok 0 76 G A s u H locs → lv_has ls 7 [(0, .ref (G.1 8))] → W p l e rmX8_unify s m ([.ref (G.1 8), .int a0, .int a1, .int a2] : List Value).toArray below meth c H locs 0 0 (MQ below (Qg 0 76 G A (some (.int r)) u') ([.ref (G.1 8), .int a0, .int a1, .int a2] : List Value).toArray s 0 0 A) (F0 m 12 ls [])) ∧ (∀ (x4_ : Int32) (x5_ : Int32) (u : St) (H : Heap) (locs : List Loc) (ls : Array Slot), fX8_unify_L0  n 1 x4_ x5_ 0 u = some (r, u') → Ok 0 76 G A s u H locs → lv_has ls 7 [(0, .ref (G.1 8)), (4, .int x4_), (5, .int x5_)] → W p l e rmX8_unify s m ([.ref (G.1 8), .int a0, .int a1, .int a2] : List Value).toArray below meth c H locs 0 0 (MQ below (Qg 0 76 G A (some (.int r)) u') ([.ref (G.1 8), .int a0, .int a1, .int a2] : List Value).toArray s 0 0 A) (F0 m 118 ls [])) ∧ (∀ (x4_ : Int32) (x5_ : Int32) (s0_ : Int32) (u : St) (H : Heap) (locs : List Loc) (ls : Array Slot), fX8_unify_L0  n 2 x4_ x5_ s0_ u = some (r, u') → Ok 0 76 G A s u H locs → lv_has ls 7 [(0, .ref (G.1 8)), (4, .int x4_), (5, .int x5_)] → W p l e rmX8_unify s m ([.ref (G.1 8), .int a0, .int a1, .int a2] : List Value).toArray below meth c H locs 0 0 (MQ below (Qg 0 76 G A (some (.int r)) u') ([.ref (G.1 8), .int a0, .int a1, .int a2] : List Value).toArray s 0 0 A) (F0 m 153 ls [.int s0_])) ∧ (∀ (u : St) (H : Heap) (locs : List Loc) (ls : Array Slot), fX8_unify_L0  n 3 0 0 0 u = some (r, u') → Ok 0 76 G A s u H locs → lv_has ls 7 [(0, .ref (G.1 8))] → W p l e rmX8_unify s m ([.ref (G.1 8), .int a0, .int a1, .int a2] : List Value).toArray below meth c H locs 0 0 (MQ below (Qg 0 76 G A (some (.int r)) u') ([.ref (G.1 8), .int a0, .int a1, .int a2] : List Value).toArray s 0 0 A) (F0 m 180 ls [])) := by
  have F := B.1
  have hx := F.1
  have hb := F.2.1
  induction n with
  | zero => exact ⟨fun _ _ _ _ hf => g_no hf, fun _ _ _ _ _ _ hf => g_no hf, fun _ _ _ _ _ _ _ hf => g_no hf, fun _ _ _ _ hf => g_no hf⟩
  | succ n ih =>
    refine ⟨?_, ?_, ?_, ?_⟩
    · intro  u H locs ls hf K hl
      have hf : fX8_unify_L0_0  (fX8_unify_L0  n)  u = some (r, u') := hf
      unfold fX8_unify_L0_0 at hf
      refine lv_aload_n hx hb dX8_unify_12 rfl (lv_at hl 0 rfl) ?_
      refine ok_ref F K fX8_17 dX8_unify_13 ?_
      obtain ⟨r2, u1, hu1, hf⟩ := g_b2 hf
      refine ok_calli (rest := []) F K (pX9_more G (w := 0) (by decide) hu1) mX9_more (ocW (w := 0) (by decide)) lX8_55 rfl hl.1 rfl ⟨⟨rfl, rfl⟩, Nat.le_of_ble_eq_true rfl, Nat.le_of_ble_eq_true rfl⟩ (Nat.le_of_ble_eq_true rfl) dX8_unify_16 (fun H locs K => ?_)
      refine lv_if_eq (pc := 19) (tgt := 197) hx hb dX8_unify_19 (by decide) (fun c3 => ?_) (fun c3 => ?_)
      · have hf := g_pos hf c3
        refine lv_iconst (v := 1) hx hb dX8_unify_197 kI_1 ?_
        exact ok_reti B K hf dX8_unify_198
      · have hf := g_neg hf c3
        refine lv_aload_n hx hb dX8_unify_22 rfl (lv_at hl 0 rfl) ?_
        refine ok_ref F K fX8_21 dX8_unify_23 ?_
        obtain ⟨r5, u4, hu4, hf⟩ := g_b2 hf
        refine ok_calli (rest := []) F K (pX9_more G (w := 1) (by decide) hu4) mX9_more (ocW (w := 1) (by decide)) lX8_55 rfl hl.1 rfl ⟨⟨rfl, rfl⟩, Nat.le_of_ble_eq_true rfl, Nat.le_of_ble_eq_true rfl⟩ (Nat.le_of_ble_eq_true rfl) dX8_unify_26 (fun H locs K => ?_)
        refine lv_if_eq (pc := 29) (tgt := 197) hx hb dX8_unify_29 (by decide) (fun c6 => ?_) (fun c6 => ?_)
        · have hf := g_pos hf c6
          refine lv_iconst (v := 1) hx hb dX8_unify_197 kI_1 ?_
          exact ok_reti B K hf dX8_unify_198
        · have hf := g_neg hf c6
          refine lv_aload_n hx hb dX8_unify_32 rfl (lv_at hl 0 rfl) ?_
          refine lv_dup hx hb dX8_unify_33 rfl ?_
          refine ok_int F K fX8_51 dX8_unify_34 ?_
          refine lv_iconst (v := 1) hx hb dX8_unify_37 kI_1 ?_
          refine lv_iadd hx hb dX8_unify_38 ?_
          refine ok_putI F K qX8_51 dX8_unify_39 (fun u7 H locs eu7 K => ?_)
          have hf := g_lt hf u7 eu7
          refine lv_aload_n hx hb dX8_unify_42 rfl (lv_at hl 0 rfl) ?_
          refine ok_int F K fX8_51 dX8_unify_43 ?_
          refine lv_sipush (v := 4000) hx hb dX8_unify_46 kS_4000 ?_
          refine lv_icmp_le (pc := 49) (tgt := 54) hx hb dX8_unify_49 (by decide) (fun c8 => ?_) (fun c8 => ?_)
          · have hf := g_pos hf c8
            refine lv_aload_n hx hb dX8_unify_54 rfl (lv_at hl 0 rfl) ?_
            refine ok_ref F K fX8_17 dX8_unify_55 ?_
            obtain ⟨r10, u9, hu9, hf⟩ := g_b2 hf
            refine ok_calli (rest := []) F K (pX9_variable G (w := 0) (by decide) hu9) mX9_variable (ocW (w := 0) (by decide)) lX8_59 rfl hl.1 rfl ⟨⟨rfl, rfl⟩, Nat.le_of_ble_eq_true rfl, Nat.le_of_ble_eq_true rfl⟩ (Nat.le_of_ble_eq_true rfl) dX8_unify_58 (fun H locs K => ?_)
            refine lv_istore (lv' := [(4, .int r10), (0, .ref (G.1 8))]) hx hb dX8_unify_61 hl (by decide) rfl (fun ls hl => ?_)
            refine lv_aload_n hx hb dX8_unify_63 rfl (lv_at hl 1 rfl) ?_
            refine ok_ref F K fX8_21 dX8_unify_64 ?_
            obtain ⟨r12, u11, hu11, hf⟩ := g_b2 hf
            refine ok_calli (rest := []) F K (pX9_variable G (w := 1) (by decide) hu11) mX9_variable (ocW (w := 1) (by decide)) lX8_59 rfl hl.1 rfl ⟨⟨rfl, rfl⟩, Nat.le_of_ble_eq_true rfl, Nat.le_of_ble_eq_true rfl⟩ (Nat.le_of_ble_eq_true rfl) dX8_unify_67 (fun H locs K => ?_)
            refine lv_istore (lv' := [(5, .int r12), (4, .int r10), (0, .ref (G.1 8))]) hx hb dX8_unify_70 hl (by decide) rfl (fun ls hl => ?_)
            refine lv_iload hx hb dX8_unify_72 (lv_at hl 1 rfl) ?_
            refine lv_if_ge (pc := 74) (tgt := 118) hx hb dX8_unify_74 (by decide) (fun c13 => ?_) (fun c13 => ?_)
            · have hf := g_pos hf c13
              exact ih.2.1 r10 r12 u11 _ _ _ hf K (lv_sub hl [2, 1, 0] rfl)
            · have hf := g_neg hf c13
              refine lv_iload hx hb dX8_unify_77 (lv_at hl 0 rfl) ?_
              refine lv_if_ge (pc := 79) (tgt := 118) hx hb dX8_unify_79 (by decide) (fun c14 => ?_) (fun c14 => ?_)
              · have hf := g_pos hf c14
                exact ih.2.1 r10 r12 u11 _ _ _ hf K (lv_sub hl [2, 1, 0] rfl)
              · have hf := g_neg hf c14
                refine lv_aload_n hx hb dX8_unify_82 rfl (lv_at hl 2 rfl) ?_
                refine ok_ref F K fX8_17 dX8_unify_83 ?_
                obtain ⟨r16, u15, hu15, hf⟩ := g_b2 hf
                refine ok_calli (rest := []) F K (pX9_symbol G (w := 0) (by decide) hu15) mX9_symbol (ocW (w := 0) (by decide)) lX8_63 rfl hl.1 rfl ⟨⟨rfl, rfl⟩, Nat.le_of_ble_eq_true rfl, Nat.le_of_ble_eq_true rfl⟩ (Nat.le_of_ble_eq_true rfl) dX8_unify_86 (fun H locs K => ?_)
                refine lv_aload_n hx hb dX8_unify_89 rfl (lv_at hl 2 rfl) ?_
                refine ok_ref F K fX8_21 dX8_unify_90 ?_
                obtain ⟨r18, u17, hu17, hf⟩ := g_b2 hf
                refine ok_calli (rest := [.int r16]) F K (pX9_symbol G (w := 1) (by decide) hu17) mX9_symbol (ocW (w := 1) (by decide)) lX8_63 rfl hl.1 rfl ⟨⟨rfl, rfl⟩, Nat.le_of_ble_eq_true rfl, Nat.le_of_ble_eq_true rfl⟩ (Nat.le_of_ble_eq_true rfl) dX8_unify_93 (fun H locs K => ?_)
                refine lv_icmp_eq (pc := 96) (tgt := 101) hx hb dX8_unify_96 (by decide) (fun c19 => ?_) (fun c19 => ?_)
                · have hf := g_pos hf c19
                  refine lv_aload_n hx hb dX8_unify_101 rfl (lv_at hl 2 rfl) ?_
                  refine ok_ref F K fX8_17 dX8_unify_102 ?_
                  obtain ⟨u20, hu20, hf⟩ := g_bd hf
                  refine ok_callv (rest := []) F K (pX9_enter G (w := 0) (by decide) hu20) mX9_enter (ocW (w := 0) (by decide)) lX8_66 rfl hl.1 rfl ⟨⟨rfl, rfl⟩, Nat.le_of_ble_eq_true rfl, Nat.le_of_ble_eq_true rfl⟩ (Nat.le_of_ble_eq_true rfl) dX8_unify_105 (fun H locs K => ?_)
                  refine lv_aload_n hx hb dX8_unify_108 rfl (lv_at hl 2 rfl) ?_
                  refine ok_ref F K fX8_21 dX8_unify_109 ?_
                  obtain ⟨u21, hu21, hf⟩ := g_bd hf
                  refine ok_callv (rest := []) F K (pX9_enter G (w := 1) (by decide) hu21) mX9_enter (ocW (w := 1) (by decide)) lX8_66 rfl hl.1 rfl ⟨⟨rfl, rfl⟩, Nat.le_of_ble_eq_true rfl, Nat.le_of_ble_eq_true rfl⟩ (Nat.le_of_ble_eq_true rfl) dX8_unify_112 (fun H locs K => ?_)
                  refine lv_goto (pc := 115) (tgt := 12) hx hb dX8_unify_115 (by decide) ?_
                  exact ih.1  u21 _ _ _ hf K (lv_sub hl [2] rfl)
                · have hf := g_neg hf c19
                  refine lv_iconst (v := 0) hx hb dX8_unify_99 kI_0 ?_
                  exact ok_reti B K hf dX8_unify_100
          · have hf := g_neg hf c8
            refine lv_iconst (v := 2) hx hb dX8_unify_52 kI_2 ?_
            exact ok_reti B K hf dX8_unify_53
    · intro x4_ x5_ u H locs ls hf K hl
      have hf : fX8_unify_L0_1  (fX8_unify_L0  n) x4_ x5_ u = some (r, u') := hf
      unfold fX8_unify_L0_1 at hf
      refine lv_iload hx hb dX8_unify_118 (lv_at hl 1 rfl) ?_
      refine lv_iload hx hb dX8_unify_120 (lv_at hl 2 rfl) ?_
      refine lv_icmp_eq (pc := 122) (tgt := 180) hx hb dX8_unify_122 (by decide) (fun c22 => ?_) (fun c22 => ?_)
      · have hf := g_pos hf c22
        exact ih.2.2.2  u _ _ _ hf K (lv_sub hl [0] rfl)
      · have hf := g_neg hf c22
        refine lv_iload hx hb dX8_unify_125 (lv_at hl 1 rfl) ?_
        refine lv_if_lt (pc := 127) (tgt := 143) hx hb dX8_unify_127 (by decide) (fun c23 => ?_) (fun c23 => ?_)
        · have hf := g_pos hf c23
          refine lv_aload_n hx hb dX8_unify_143 rfl (lv_at hl 0 rfl) ?_
          refine lv_iload hx hb dX8_unify_144 (lv_at hl 2 rfl) ?_
          refine lv_aload_n hx hb dX8_unify_146 rfl (lv_at hl 0 rfl) ?_
          refine ok_ref F K fX8_17 dX8_unify_147 ?_
          obtain ⟨r25, u24, hu24, hf⟩ := g_b2 hf
          refine ok_calli (rest := []) F K (pX8_stands G (a1 := 0) (by decide) hu24) mX8_stands oc8 lX8_69 rfl hl.1 rfl ⟨⟨rfl, rfl⟩, Nat.le_of_ble_eq_true rfl, Nat.le_of_ble_eq_true rfl⟩ (Nat.le_of_ble_eq_true rfl) dX8_unify_150 (fun H locs K => ?_)
          exact ih.2.2.1 x4_ x5_ r25 u24 _ _ _ hf K (lv_sub hl [0, 1, 2] rfl)
        · have hf := g_neg hf c23
          refine lv_aload_n hx hb dX8_unify_130 rfl (lv_at hl 0 rfl) ?_
          refine lv_iload hx hb dX8_unify_131 (lv_at hl 1 rfl) ?_
          refine lv_aload_n hx hb dX8_unify_133 rfl (lv_at hl 0 rfl) ?_
          refine ok_ref F K fX8_21 dX8_unify_134 ?_
          obtain ⟨r27, u26, hu26, hf⟩ := g_b2 hf
          refine ok_calli (rest := []) F K (pX8_stands G (a1 := 1) (by decide) hu26) mX8_stands oc8 lX8_69 rfl hl.1 rfl ⟨⟨rfl, rfl⟩, Nat.le_of_ble_eq_true rfl, Nat.le_of_ble_eq_true rfl⟩ (Nat.le_of_ble_eq_true rfl) dX8_unify_137 (fun H locs K => ?_)
          refine lv_goto (pc := 140) (tgt := 153) hx hb dX8_unify_140 (by decide) ?_
          exact ih.2.2.1 x4_ x5_ r27 u26 _ _ _ hf K (lv_sub hl [0, 1, 2] rfl)
    · intro x4_ x5_ s0_ u H locs ls hf K hl
      have hf : fX8_unify_L0_2  (fX8_unify_L0  n) x4_ x5_ s0_ u = some (r, u') := hf
      unfold fX8_unify_L0_2 at hf
      refine lv_istore (lv' := [(6, .int s0_), (0, .ref (G.1 8)), (4, .int x4_), (5, .int x5_)]) hx hb dX8_unify_153 hl (by decide) rfl (fun ls hl => ?_)
      refine lv_iload hx hb dX8_unify_155 (lv_at hl 0 rfl) ?_
      refine lv_if_eq (pc := 157) (tgt := 172) hx hb dX8_unify_157 (by decide) (fun c28 => ?_) (fun c28 => ?_)
      · have hf := g_pos hf c28
        refine lv_aload_n hx hb dX8_unify_172 rfl (lv_at hl 1 rfl) ?_
        refine lv_iload hx hb dX8_unify_173 (lv_at hl 2 rfl) ?_
        refine lv_iload hx hb dX8_unify_175 (lv_at hl 3 rfl) ?_
        obtain ⟨u29, hu29, hf⟩ := g_bd hf
        refine ok_callv (rest := []) F K (pX8_bind G hu29) mX8_bind oc8 lX8_73 rfl hl.1 rfl ⟨⟨rfl, rfl⟩, Nat.le_of_ble_eq_true rfl, Nat.le_of_ble_eq_true rfl⟩ (Nat.le_of_ble_eq_true rfl) dX8_unify_177 (fun H locs K => ?_)
        exact ih.2.2.2  u29 _ _ _ hf K (lv_sub hl [1] rfl)
      · have hf := g_neg hf c28
        refine lv_iload hx hb dX8_unify_160 (lv_at hl 0 rfl) ?_
        refine lv_iconst (v := 2) hx hb dX8_unify_162 kI_2 ?_
        refine lv_icmp_ne (pc := 163) (tgt := 170) hx hb dX8_unify_163 (by decide) (fun c30 => ?_) (fun c30 => ?_)
        · have hf := g_neg hf c30
          refine lv_iconst (v := 0) hx hb dX8_unify_170 kI_0 ?_
          exact ok_reti B K hf dX8_unify_171
        · have hf := g_pos hf c30
          refine lv_iconst (v := 2) hx hb dX8_unify_166 kI_2 ?_
          refine lv_goto (pc := 167) (tgt := 171) hx hb dX8_unify_167 (by decide) ?_
          exact ok_reti B K hf dX8_unify_171
    · intro  u H locs ls hf K hl
      have hf : fX8_unify_L0_3  (fX8_unify_L0  n)  u = some (r, u') := hf
      unfold fX8_unify_L0_3 at hf
      refine lv_aload_n hx hb dX8_unify_180 rfl (lv_at hl 0 rfl) ?_
      refine ok_ref F K fX8_17 dX8_unify_181 ?_
      obtain ⟨u31, hu31, hf⟩ := g_bd hf
      refine ok_callv (rest := []) F K (pX9_skip G (w := 0) (by decide) hu31) mX9_skip (ocW (w := 0) (by decide)) lX8_77 rfl hl.1 rfl ⟨⟨rfl, rfl⟩, Nat.le_of_ble_eq_true rfl, Nat.le_of_ble_eq_true rfl⟩ (Nat.le_of_ble_eq_true rfl) dX8_unify_184 (fun H locs K => ?_)
      refine lv_aload_n hx hb dX8_unify_187 rfl (lv_at hl 0 rfl) ?_
      refine ok_ref F K fX8_21 dX8_unify_188 ?_
      obtain ⟨u32, hu32, hf⟩ := g_bd hf
      refine ok_callv (rest := []) F K (pX9_skip G (w := 1) (by decide) hu32) mX9_skip (ocW (w := 1) (by decide)) lX8_77 rfl hl.1 rfl ⟨⟨rfl, rfl⟩, Nat.le_of_ble_eq_true rfl, Nat.le_of_ble_eq_true rfl⟩ (Nat.le_of_ble_eq_true rfl) dX8_unify_191 (fun H locs K => ?_)
      refine lv_goto (pc := 194) (tgt := 12) hx hb dX8_unify_194 (by decide) ?_
      exact ih.1  u32 _ _ _ hf K (lv_sub hl [0] rfl)
set_option maxRecDepth 100000 in
set_option maxHeartbeats 4000000 in
theorem pX8_unify {l : Launch} (G : Gt) {a0 : Int32} {a1 : Int32} {a2 : Int32} {r : Int32} {u u' : St} (hf : fX8_unify a0 a1 a2 u = some (r, u')) : Ctr 0 76 l yX8_unify cX8_unify 7 (some .int) rmX8_unify [.ref (G.1 8), .int a0, .int a1, .int a2] G u (some (.int r)) u' := by
  refine Ctr.mk (by decide) (Nat.le_of_ble_eq_true rfl) (fun p e s m below meth c A ls B K hl => ?_)
  have F := B.1
  have hx := F.1
  have hb := F.2.1
  have hl : lv_has ls 7 [(0, .ref (G.1 8)), (1, .int a0), (2, .int a1), (3, .int a2)] := hl
  unfold fX8_unify at hf
  refine lv_aload_n hx hb dX8_unify_0 rfl (lv_at hl 0 rfl) ?_
  refine lv_iload_n hx hb dX8_unify_1 rfl (lv_at hl 1 rfl) ?_
  refine lv_iload_n hx hb dX8_unify_2 rfl (lv_at hl 2 rfl) ?_
  refine lv_iload_n hx hb dX8_unify_3 rfl (lv_at hl 3 rfl) ?_
  obtain ⟨u33, hu33, hf⟩ := g_bd hf
  refine ok_callv (rest := []) F K (pX8_begin G hu33) mX8_begin oc8 lX8_50 rfl hl.1 rfl ⟨⟨rfl, rfl⟩, Nat.le_of_ble_eq_true rfl, Nat.le_of_ble_eq_true rfl⟩ (Nat.le_of_ble_eq_true rfl) dX8_unify_4 (fun H locs K => ?_)
  refine lv_aload_n hx hb dX8_unify_7 rfl (lv_at hl 0 rfl) ?_
  refine lv_iconst (v := 0) hx hb dX8_unify_8 kI_0 ?_
  refine ok_putI F K qX8_51 dX8_unify_9 (fun u34 H locs eu34 K => ?_)
  have hf := g_lt hf u34 eu34
  exact (pX8_unify_L0  B FU).1  u34 _ _ _ hf K (lv_sub hl [0] rfl)
abbrev rmX5_fits : Room := { frames := 0, cells := 0, slots := 0, locals := 0 }
set_option maxRecDepth 100000 in
set_option maxHeartbeats 4000000 in
theorem pX5_fits {l : Launch} (G : Gt) {a0 : Int32} {r : Int32} {u u' : St} (hf : fX5_fits a0 u = some (r, u')) : Ctr 0 76 l yX5_fits cX5_fits 3 (some .boolean) rmX5_fits [.ref (G.1 7), .int a0] G u (some (.int r)) u' := by
  refine Ctr.mk (by decide) (Nat.le_of_ble_eq_true rfl) (fun p e s m below meth c A ls B K hl => ?_)
  have F := B.1
  have hx := F.1
  have hb := F.2.1
  have hl : lv_has ls 3 [(0, .ref (G.1 7)), (1, .int a0)] := hl
  unfold fX5_fits at hf
  refine lv_aload_n hx hb dX5_fits_0 rfl (lv_at hl 0 rfl) ?_
  refine ok_ref F K fX5_36 dX5_fits_1 ?_
  refine ok_ref F K fX5_44 dX5_fits_4 ?_
  refine lv_iload_n hx hb dX5_fits_7 rfl (lv_at hl 1 rfl) ?_
  refine lv_iconst (v := 1) hx hb dX5_fits_8 kI_1 ?_
  refine lv_iadd hx hb dX5_fits_9 ?_
  obtain ⟨v1, hv1, hf⟩ := g_bd hf
  refine ok_iald F K t18 hv1 dX5_fits_10 ?_
  refine lv_aload_n hx hb dX5_fits_11 rfl (lv_at hl 0 rfl) ?_
  refine ok_ref F K fX5_36 dX5_fits_12 ?_
  refine ok_ref F K fX5_44 dX5_fits_15 ?_
  refine lv_iload_n hx hb dX5_fits_18 rfl (lv_at hl 1 rfl) ?_
  obtain ⟨v2, hv2, hf⟩ := g_bd hf
  refine ok_iald F K t18 hv2 dX5_fits_19 ?_
  refine lv_isub hx hb dX5_fits_20 ?_
  refine lv_topi (fun x3 ex3 => ?_)
  have hf := g_lt hf x3 ex3
  refine lv_istore_n (lv' := [(2, .int x3), (0, .ref (G.1 7)), (1, .int a0)]) hx hb dX5_fits_21 rfl hl (by decide) rfl (fun ls hl => ?_)
  refine lv_aload_n hx hb dX5_fits_22 rfl (lv_at hl 1 rfl) ?_
  refine ok_int F K fX5_47 dX5_fits_23 ?_
  refine lv_iload_n hx hb dX5_fits_26 rfl (lv_at hl 0 rfl) ?_
  refine lv_iadd hx hb dX5_fits_27 ?_
  refine lv_sipush (v := 150) hx hb dX5_fits_28 kS_150 ?_
  refine lv_icmp_gt (pc := 31) (tgt := 58) hx hb dX5_fits_31 (by decide) (fun c4 => ?_) (fun c4 => ?_)
  · have hf := g_pos hf c4
    refine lv_iconst (v := 0) hx hb dX5_fits_58 kI_0 ?_
    exact ok_retz B K hf (Or.inl rfl) dX5_fits_59
  · have hf := g_neg hf c4
    refine lv_aload_n hx hb dX5_fits_34 rfl (lv_at hl 1 rfl) ?_
    refine ok_int F K fX5_50 dX5_fits_35 ?_
    refine lv_aload_n hx hb dX5_fits_38 rfl (lv_at hl 1 rfl) ?_
    refine ok_ref F K fX5_36 dX5_fits_39 ?_
    refine ok_ref F K fX5_53 dX5_fits_42 ?_
    refine lv_iload_n hx hb dX5_fits_45 rfl (lv_at hl 2 rfl) ?_
    obtain ⟨v5, hv5, hf⟩ := g_bd hf
    refine ok_iald F K t19 hv5 dX5_fits_46 ?_
    refine lv_iadd hx hb dX5_fits_47 ?_
    refine lv_sipush (v := 200) hx hb dX5_fits_48 kS_200 ?_
    refine lv_icmp_gt (pc := 51) (tgt := 58) hx hb dX5_fits_51 (by decide) (fun c6 => ?_) (fun c6 => ?_)
    · have hf := g_pos hf c6
      refine lv_iconst (v := 0) hx hb dX5_fits_58 kI_0 ?_
      exact ok_retz B K hf (Or.inl rfl) dX5_fits_59
    · have hf := g_neg hf c6
      refine lv_iconst (v := 1) hx hb dX5_fits_54 kI_1 ?_
      refine lv_goto (pc := 55) (tgt := 59) hx hb dX5_fits_55 (by decide) ?_
      exact ok_retz B K hf (Or.inr rfl) dX5_fits_59
abbrev rmX5_add : Room := { frames := 0, cells := 0, slots := 0, locals := 0 }
set_option maxRecDepth 100000 in
set_option maxHeartbeats 4000000 in
theorem pX5_add_L0 {p : Program} {l : Launch} {e : Env} {s : State} {m : MethodId} {below : List Frame} {meth : Method} {c : Code} {A : Nat → Prop} {G : Gt} {a0 : Int32} {a1 : Int32} {a2 : Int32} {r : Int32} {u' : St} (B : Bd p s m [.ref (G.1 7), .int a0, .int a1, .int a2] meth c yX5_add cX5_add 9 (some .int)) (n : Nat) : (∀ (x1_ : Int32) (x3_ : Int32) (x6_ : Int32) (x7_ : Int32) (x8_ : Int32) (u : St) (H : Heap) (locs : List Loc) (ls : Array Slot), fX5_add_L0  n 0 x1_ x3_ x6_ x7_ x8_ u = some (r, u') → Ok 0 76 G A s u H locs → lv_has ls 9 [(0, .ref (G.1 7)), (1, .int x1_), (3, .int x3_), (6, .int x6_), (7, .int x7_), (8, .int x8_)] → W p l e rmX5_add s m ([.ref (G.1 7), .int a0, .int a1, .int a2] : List Value).toArray below meth c H locs 0 0 (MQ below (Qg 0 76 G A (some (.int r)) u') ([.ref (G.1 7), .int a0, .int a1, .int a2] : List Value).toArray s 0 0 A) (F0 m 159 ls [])) := by
  have F := B.1
  have hx := F.1
  have hb := F.2.1
  induction n with
  | zero => exact fun _ _ _ _ _ _ _ _ _ hf => g_no hf
  | succ n ih =>
    refine ?_
    · intro x1_ x3_ x6_ x7_ x8_ u H locs ls hf K hl
      have hf : fX5_add_L0_0  (fX5_add_L0  n) x1_ x3_ x6_ x7_ x8_ u = some (r, u') := hf
      unfold fX5_add_L0_0 at hf
      refine lv_iload hx hb dX5_add_159 (lv_at hl 5 rfl) ?_
      refine lv_iload hx hb dX5_add_161 (lv_at hl 3 rfl) ?_
      refine lv_icmp_lt (pc := 163) (tgt := 207) hx hb dX5_add_163 (by decide) (fun c1 => ?_) (fun c1 => ?_)
      · have hf := g_pos hf c1
        refine lv_aload_n hx hb dX5_add_207 rfl (lv_at hl 0 rfl) ?_
        refine lv_dup hx hb dX5_add_208 rfl ?_
        refine ok_int F K fX5_47 dX5_add_209 ?_
        refine lv_aload_n hx hb dX5_add_212 rfl (lv_at hl 0 rfl) ?_
        refine ok_ref F K fX5_36 dX5_add_213 ?_
        refine ok_ref F K fX5_44 dX5_add_216 ?_
        refine lv_iload_n hx hb dX5_add_219 rfl (lv_at hl 1 rfl) ?_
        refine lv_iconst (v := 1) hx hb dX5_add_220 kI_1 ?_
        refine lv_iadd hx hb dX5_add_221 ?_
        obtain ⟨v2, hv2, hf⟩ := g_bd hf
        refine ok_iald F K t18 hv2 dX5_add_222 ?_
        refine lv_iload hx hb dX5_add_223 (lv_at hl 3 rfl) ?_
        refine lv_isub hx hb dX5_add_225 ?_
        refine lv_iadd hx hb dX5_add_226 ?_
        refine ok_putI F K qX5_47 dX5_add_227 (fun u3 H locs eu3 K => ?_)
        have hf := g_lt hf u3 eu3
        refine lv_aload_n hx hb dX5_add_230 rfl (lv_at hl 0 rfl) ?_
        refine lv_dup hx hb dX5_add_231 rfl ?_
        refine ok_int F K fX5_50 dX5_add_232 ?_
        refine lv_aload_n hx hb dX5_add_235 rfl (lv_at hl 0 rfl) ?_
        refine ok_ref F K fX5_36 dX5_add_236 ?_
        refine ok_ref F K fX5_53 dX5_add_239 ?_
        refine lv_iload_n hx hb dX5_add_242 rfl (lv_at hl 1 rfl) ?_
        obtain ⟨v4, hv4, hf⟩ := g_bd hf
        refine ok_iald F K t19 hv4 dX5_add_243 ?_
        refine lv_iadd hx hb dX5_add_244 ?_
        refine ok_putI F K qX5_50 dX5_add_245 (fun u5 H locs eu5 K => ?_)
        have hf := g_lt hf u5 eu5
        refine lv_iload hx hb dX5_add_248 (lv_at hl 4 rfl) ?_
        exact ok_reti B K hf dX5_add_250
      · have hf := g_neg hf c1
        refine lv_iload hx hb dX5_add_166 (lv_at hl 5 rfl) ?_
        refine lv_iload_n hx hb dX5_add_168 rfl (lv_at hl 2 rfl) ?_
        refine lv_icmp_eq (pc := 169) (tgt := 201) hx hb dX5_add_169 (by decide) (fun c6 => ?_) (fun c6 => ?_)
        · have hf := g_pos hf c6
          obtain ⟨x7, ex7⟩ : ∃ y : Int32, y = x8_ + (-1) := ⟨_, rfl⟩
          have hf := g_lt hf x7 ex7
          refine lv_iinc (v := x7) (lv' := [(8, .int x7), (0, .ref (G.1 7)), (1, .int x1_), (3, .int x3_), (6, .int x6_), (7, .int x7_)]) hx hb dX5_add_201 hl (k := 5) rfl (by rw [kI_m1, ex7]) (by decide) rfl (fun ls hl => ?_)
          refine lv_goto (pc := 204) (tgt := 159) hx hb dX5_add_204 (by decide) ?_
          exact ih x1_ x3_ x6_ x7_ x7 u _ _ _ hf K (lv_sub hl [1, 2, 3, 4, 5, 0] rfl)
        · have hf := g_neg hf c6
          refine lv_aload_n hx hb dX5_add_172 rfl (lv_at hl 0 rfl) ?_
          refine ok_ref F K fX5_24 dX5_add_173 ?_
          refine lv_aload_n hx hb dX5_add_176 rfl (lv_at hl 0 rfl) ?_
          refine ok_int F K fX5_47 dX5_add_177 ?_
          refine lv_iload hx hb dX5_add_180 (lv_at hl 5 rfl) ?_
          refine lv_iadd hx hb dX5_add_182 ?_
          refine lv_iload hx hb dX5_add_183 (lv_at hl 3 rfl) ?_
          refine lv_isub hx hb dX5_add_185 ?_
          refine lv_iload hx hb dX5_add_186 (lv_at hl 4 rfl) ?_
          obtain ⟨u8, hu8, hf⟩ := g_bd hf
          refine ok_iast F K t61 hu8 dX5_add_188 (fun H locs K => ?_)
          refine lv_aload_n hx hb dX5_add_189 rfl (lv_at hl 0 rfl) ?_
          refine ok_int F K fX5_47 dX5_add_190 ?_
          refine lv_iload hx hb dX5_add_193 (lv_at hl 5 rfl) ?_
          refine lv_iadd hx hb dX5_add_195 ?_
          refine lv_iload hx hb dX5_add_196 (lv_at hl 3 rfl) ?_
          refine lv_isub hx hb dX5_add_198 ?_
          refine lv_topi (fun x9 ex9 => ?_)
          have hf := g_lt hf x9 ex9
          refine lv_istore (lv' := [(7, .int x9), (0, .ref (G.1 7)), (1, .int x1_), (3, .int x3_), (6, .int x6_), (8, .int x8_)]) hx hb dX5_add_199 hl (by decide) rfl (fun ls hl => ?_)
          obtain ⟨x10, ex10⟩ : ∃ y : Int32, y = x8_ + (-1) := ⟨_, rfl⟩
          have hf := g_lt hf x10 ex10
          refine lv_iinc (v := x10) (lv' := [(8, .int x10), (7, .int x9), (0, .ref (G.1 7)), (1, .int x1_), (3, .int x3_), (6, .int x6_)]) hx hb dX5_add_201 hl (k := 5) rfl (by rw [kI_m1, ex10]) (by decide) rfl (fun ls hl => ?_)
          refine lv_goto (pc := 204) (tgt := 159) hx hb dX5_add_204 (by decide) ?_
          exact ih x1_ x3_ x6_ x9 x10 u8 _ _ _ hf K (lv_sub hl [2, 3, 4, 5, 1, 0] rfl)
set_option maxRecDepth 100000 in
set_option maxHeartbeats 4000000 in
theorem pX5_add_L1 {p : Program} {l : Launch} {e : Env} {s : State} {m : MethodId} {below : List Frame} {meth : Method} {c : Code} {A : Nat → Prop} {G : Gt} {a0 : Int32} {a1 : Int32} {a2 : Int32} {r : Int32} {u' : St} (B : Bd p s m [.ref (G.1 7), .int a0, .int a1, .int a2] meth c yX5_add cX5_add 9 (some .int)) (n : Nat) : (∀ (x1_ : Int32) (x2_ : Int32) (x3_ : Int32) (x4_ : Int32) (x5_ : Int32) (x6_ : Int32) (x7_ : Int32) (u : St) (H : Heap) (locs : List Loc) (ls : Array Slot), fX5_add_L1  n 0 x1_ x2_ x3_ x4_ x5_ x6_ x7_ u = some (r, u') → Ok 0 76 G A s u H locs → lv_has ls 9 [(0, .ref (G.1 7)), (1, .int x1_), (2, .int x2_), (3, .int x3_), (4, .int x4_), (5, .int x5_), (6, .int x6_), (7, .int x7_)] → W p l e rmX5_add s m ([.ref (G.1 7), .int a0, .int a1, .int a2] : List Value).toArray below meth c H locs 0 0 (MQ below (Qg 0 76 G A (some (.int r)) u') ([.ref (G.1 7), .int a0, .int a1, .int a2] : List Value).toArray s 0 0 A) (F0 m 49 ls [])) := by
  have F := B.1
  have hx := F.1
  have hb := F.2.1
  induction n with
  | zero => exact fun _ _ _ _ _ _ _ _ _ _ _ hf => g_no hf
  | succ n ih =>
    refine ?_
    · intro x1_ x2_ x3_ x4_ x5_ x6_ x7_ u H locs ls hf K hl
      have hf : fX5_add_L1_0  (fX5_add_L1  n) x1_ x2_ x3_ x4_ x5_ x6_ x7_ u = some (r, u') := hf
      unfold fX5_add_L1_0 at hf
      refine lv_iload hx hb dX5_add_49 (lv_at hl 7 rfl) ?_
      refine lv_aload_n hx hb dX5_add_51 rfl (lv_at hl 0 rfl) ?_
      refine ok_ref F K fX5_36 dX5_add_52 ?_
      refine ok_ref F K fX5_44 dX5_add_55 ?_
      refine lv_iload_n hx hb dX5_add_58 rfl (lv_at hl 1 rfl) ?_
      refine lv_iconst (v := 1) hx hb dX5_add_59 kI_1 ?_
      refine lv_iadd hx hb dX5_add_60 ?_
      obtain ⟨v11, hv11, hf⟩ := g_bd hf
      refine ok_iald F K t18 hv11 dX5_add_61 ?_
      refine lv_icmp_ge (pc := 62) (tgt := 140) hx hb dX5_add_62 (by decide) (fun c12 => ?_) (fun c12 => ?_)
      · have hf := g_pos hf c12
        refine lv_iload hx hb dX5_add_140 (lv_at hl 4 rfl) ?_
        refine lv_istore (lv' := [(7, .int x4_), (0, .ref (G.1 7)), (1, .int x1_), (2, .int x2_), (3, .int x3_), (4, .int x4_), (5, .int x5_), (6, .int x6_)]) hx hb dX5_add_142 hl (by decide) rfl (fun ls hl => ?_)
        refine lv_aload_n hx hb dX5_add_144 rfl (lv_at hl 1 rfl) ?_
        refine ok_ref F K fX5_36 dX5_add_145 ?_
        refine ok_ref F K fX5_44 dX5_add_148 ?_
        refine lv_iload_n hx hb dX5_add_151 rfl (lv_at hl 2 rfl) ?_
        refine lv_iconst (v := 1) hx hb dX5_add_152 kI_1 ?_
        refine lv_iadd hx hb dX5_add_153 ?_
        obtain ⟨v13, hv13, hf⟩ := g_bd hf
        refine ok_iald F K t18 hv13 dX5_add_154 ?_
        refine lv_iconst (v := 1) hx hb dX5_add_155 kI_1 ?_
        refine lv_isub hx hb dX5_add_156 ?_
        refine lv_topi (fun x14 ex14 => ?_)
        have hf := g_lt hf x14 ex14
        refine lv_istore (lv' := [(8, .int x14), (7, .int x4_), (0, .ref (G.1 7)), (1, .int x1_), (2, .int x2_), (3, .int x3_), (4, .int x4_), (5, .int x5_), (6, .int x6_)]) hx hb dX5_add_157 hl (by decide) rfl (fun ls hl => ?_)
        exact (pX5_add_L0  B FU) x1_ x3_ x6_ x4_ x14 u _ _ _ hf K (lv_sub hl [2, 3, 5, 8, 1, 0] rfl)
      · have hf := g_neg hf c12
        refine lv_aload_n hx hb dX5_add_65 rfl (lv_at hl 0 rfl) ?_
        refine ok_ref F K fX5_11 dX5_add_66 ?_
        refine lv_aload_n hx hb dX5_add_69 rfl (lv_at hl 0 rfl) ?_
        refine ok_int F K fX5_47 dX5_add_70 ?_
        refine lv_iload hx hb dX5_add_73 (lv_at hl 7 rfl) ?_
        refine lv_iadd hx hb dX5_add_75 ?_
        refine lv_iload hx hb dX5_add_76 (lv_at hl 6 rfl) ?_
        refine lv_isub hx hb dX5_add_78 ?_
        refine lv_iload hx hb dX5_add_79 (lv_at hl 7 rfl) ?_
        obtain ⟨u15, hu15, hf⟩ := g_bd hf
        refine ok_iast F K t57 hu15 dX5_add_81 (fun H locs K => ?_)
        refine lv_aload_n hx hb dX5_add_82 rfl (lv_at hl 0 rfl) ?_
        refine ok_ref F K fX5_15 dX5_add_83 ?_
        refine lv_aload_n hx hb dX5_add_86 rfl (lv_at hl 0 rfl) ?_
        refine ok_int F K fX5_47 dX5_add_87 ?_
        refine lv_iload hx hb dX5_add_90 (lv_at hl 7 rfl) ?_
        refine lv_iadd hx hb dX5_add_92 ?_
        refine lv_iload hx hb dX5_add_93 (lv_at hl 6 rfl) ?_
        refine lv_isub hx hb dX5_add_95 ?_
        refine lv_aload_n hx hb dX5_add_96 rfl (lv_at hl 0 rfl) ?_
        refine ok_int F K fX5_50 dX5_add_97 ?_
        obtain ⟨u16, hu16, hf⟩ := g_bd hf
        refine ok_iast F K t58 hu16 dX5_add_100 (fun H locs K => ?_)
        refine lv_aload_n hx hb dX5_add_101 rfl (lv_at hl 0 rfl) ?_
        refine ok_ref F K fX5_18 dX5_add_102 ?_
        refine lv_aload_n hx hb dX5_add_105 rfl (lv_at hl 0 rfl) ?_
        refine ok_int F K fX5_47 dX5_add_106 ?_
        refine lv_iload hx hb dX5_add_109 (lv_at hl 7 rfl) ?_
        refine lv_iadd hx hb dX5_add_111 ?_
        refine lv_iload hx hb dX5_add_112 (lv_at hl 6 rfl) ?_
        refine lv_isub hx hb dX5_add_114 ?_
        refine lv_iload_n hx hb dX5_add_115 rfl (lv_at hl 2 rfl) ?_
        obtain ⟨u17, hu17, hf⟩ := g_bd hf
        refine ok_iast F K t59 hu17 dX5_add_116 (fun H locs K => ?_)
        refine lv_aload_n hx hb dX5_add_117 rfl (lv_at hl 0 rfl) ?_
        refine ok_ref F K fX5_21 dX5_add_118 ?_
        refine lv_aload_n hx hb dX5_add_121 rfl (lv_at hl 0 rfl) ?_
        refine ok_int F K fX5_47 dX5_add_122 ?_
        refine lv_iload hx hb dX5_add_125 (lv_at hl 7 rfl) ?_
        refine lv_iadd hx hb dX5_add_127 ?_
        refine lv_iload hx hb dX5_add_128 (lv_at hl 6 rfl) ?_
        refine lv_isub hx hb dX5_add_130 ?_
        refine lv_iload hx hb dX5_add_131 (lv_at hl 5 rfl) ?_
        obtain ⟨u18, hu18, hf⟩ := g_bd hf
        refine ok_iast F K t60 hu18 dX5_add_133 (fun H locs K => ?_)
        obtain ⟨x19, ex19⟩ : ∃ y : Int32, y = x7_ + 1 := ⟨_, rfl⟩
        have hf := g_lt hf x19 ex19
        refine lv_iinc (v := x19) (lv' := [(7, .int x19), (0, .ref (G.1 7)), (1, .int x1_), (2, .int x2_), (3, .int x3_), (4, .int x4_), (5, .int x5_), (6, .int x6_)]) hx hb dX5_add_134 hl (k := 7) rfl (by rw [kI_1, ex19]) (by decide) rfl (fun ls hl => ?_)
        refine lv_goto (pc := 137) (tgt := 49) hx hb dX5_add_137 (by decide) ?_
        exact ih x1_ x2_ x3_ x4_ x5_ x6_ x19 u18 _ _ _ hf K (lv_sub hl [1, 2, 3, 4, 5, 6, 7, 0] rfl)
set_option maxRecDepth 100000 in
set_option maxHeartbeats 4000000 in
theorem pX5_add_j32 {p : Program} {l : Launch} {e : Env} {s : State} {m : MethodId} {below : List Frame} {meth : Method} {c : Code} {A : Nat → Prop} {G : Gt} {a0 : Int32} {a1 : Int32} {a2 : Int32} {r : Int32} {u' : St} (B : Bd p s m [.ref (G.1 7), .int a0, .int a1, .int a2] meth c yX5_add cX5_add 9 (some .int)) (x1_ : Int32) (x2_ : Int32) (x3_ : Int32) (x4_ : Int32) (s0_ : Int32) (u : St) (H : Heap) (locs : List Loc) (ls : Array Slot) (hf : fX5_add_j32 x1_ x2_ x3_ x4_ s0_ u = some (r, u')) (K : Ok 0 76 G A s u H locs) (hl : lv_has ls 9 [(0, .ref (G.1 7)), (1, .int x1_), (2, .int x2_), (3, .int x3_), (4, .int x4_)]) : W p l e rmX5_add s m ([.ref (G.1 7), .int a0, .int a1, .int a2] : List Value).toArray below meth c H locs 0 0 (MQ below (Qg 0 76 G A (some (.int r)) u') ([.ref (G.1 7), .int a0, .int a1, .int a2] : List Value).toArray s 0 0 A) (F0 m 32 ls [.int s0_]) := by
  have F := B.1
  have hx := F.1
  have hb := F.2.1
  unfold fX5_add_j32 at hf
  refine lv_istore (lv' := [(5, .int s0_), (0, .ref (G.1 7)), (1, .int x1_), (2, .int x2_), (3, .int x3_), (4, .int x4_)]) hx hb dX5_add_32 hl (by decide) rfl (fun ls hl => ?_)
  refine lv_aload_n hx hb dX5_add_34 rfl (lv_at hl 1 rfl) ?_
  refine ok_ref F K fX5_36 dX5_add_35 ?_
  refine ok_ref F K fX5_44 dX5_add_38 ?_
  refine lv_iload_n hx hb dX5_add_41 rfl (lv_at hl 2 rfl) ?_
  obtain ⟨v20, hv20, hf⟩ := g_bd hf
  refine ok_iald F K t18 hv20 dX5_add_42 ?_
  refine lv_istore (lv' := [(6, .int v20), (5, .int s0_), (0, .ref (G.1 7)), (1, .int x1_), (2, .int x2_), (3, .int x3_), (4, .int x4_)]) hx hb dX5_add_43 hl (by decide) rfl (fun ls hl => ?_)
  refine lv_iload hx hb dX5_add_45 (lv_at hl 0 rfl) ?_
  refine lv_istore (lv' := [(7, .int v20), (6, .int v20), (5, .int s0_), (0, .ref (G.1 7)), (1, .int x1_), (2, .int x2_), (3, .int x3_), (4, .int x4_)]) hx hb dX5_add_47 hl (by decide) rfl (fun ls hl => ?_)
  exact (pX5_add_L1  B FU) x1_ x2_ x3_ x4_ s0_ v20 v20 u _ _ _ hf K (lv_sub hl [3, 4, 5, 6, 7, 2, 1, 0] rfl)
set_option maxRecDepth 100000 in
set_option maxHeartbeats 4000000 in
theorem pX5_add_j14 {p : Program} {l : Launch} {e : Env} {s : State} {m : MethodId} {below : List Frame} {meth : Method} {c : Code} {A : Nat → Prop} {G : Gt} {a0 : Int32} {a1 : Int32} {a2 : Int32} {r : Int32} {u' : St} (B : Bd p s m [.ref (G.1 7), .int a0, .int a1, .int a2] meth c yX5_add cX5_add 9 (some .int)) (x1_ : Int32) (x2_ : Int32) (x3_ : Int32) (s0_ : Int32) (u : St) (H : Heap) (locs : List Loc) (ls : Array Slot) (hf : fX5_add_j14 x1_ x2_ x3_ s0_ u = some (r, u')) (K : Ok 0 76 G A s u H locs) (hl : lv_has ls 9 [(0, .ref (G.1 7)), (1, .int x1_), (2, .int x2_), (3, .int x3_)]) : W p l e rmX5_add s m ([.ref (G.1 7), .int a0, .int a1, .int a2] : List Value).toArray below meth c H locs 0 0 (MQ below (Qg 0 76 G A (some (.int r)) u') ([.ref (G.1 7), .int a0, .int a1, .int a2] : List Value).toArray s 0 0 A) (F0 m 14 ls [.int s0_]) := by
  have F := B.1
  have hx := F.1
  have hb := F.2.1
  unfold fX5_add_j14 at hf
  refine lv_istore (lv' := [(4, .int s0_), (0, .ref (G.1 7)), (1, .int x1_), (2, .int x2_), (3, .int x3_)]) hx hb dX5_add_14 hl (by decide) rfl (fun ls hl => ?_)
  refine lv_iload_n hx hb dX5_add_16 rfl (lv_at hl 3 rfl) ?_
  refine lv_if_ge (pc := 17) (tgt := 24) hx hb dX5_add_17 (by decide) (fun c21 => ?_) (fun c21 => ?_)
  · have hf := g_pos hf c21
    refine lv_aload_n hx hb dX5_add_24 rfl (lv_at hl 1 rfl) ?_
    refine ok_ref F K fX5_21 dX5_add_25 ?_
    refine lv_iload_n hx hb dX5_add_28 rfl (lv_at hl 3 rfl) ?_
    obtain ⟨v22, hv22, hf⟩ := g_bd hf
    refine ok_iald F K t60 hv22 dX5_add_29 ?_
    refine lv_iconst (v := 1) hx hb dX5_add_30 kI_1 ?_
    refine lv_iadd hx hb dX5_add_31 ?_
    exact pX5_add_j32  B x1_ x2_ x3_ s0_ (v22 + 1) u _ _ _ hf K (lv_sub hl [1, 2, 3, 4, 0] rfl)
  · have hf := g_neg hf c21
    refine lv_iconst (v := 0) hx hb dX5_add_20 kI_0 ?_
    refine lv_goto (pc := 21) (tgt := 32) hx hb dX5_add_21 (by decide) ?_
    exact pX5_add_j32  B x1_ x2_ x3_ s0_ 0 u _ _ _ hf K (lv_sub hl [1, 2, 3, 4, 0] rfl)
set_option maxRecDepth 100000 in
set_option maxHeartbeats 4000000 in
theorem pX5_add {l : Launch} (G : Gt) {a0 : Int32} {a1 : Int32} {a2 : Int32} {r : Int32} {u u' : St} (hf : fX5_add a0 a1 a2 u = some (r, u')) : Ctr 0 76 l yX5_add cX5_add 9 (some .int) rmX5_add [.ref (G.1 7), .int a0, .int a1, .int a2] G u (some (.int r)) u' := by
  refine Ctr.mk (by decide) (Nat.le_of_ble_eq_true rfl) (fun p e s m below meth c A ls B K hl => ?_)
  have F := B.1
  have hx := F.1
  have hb := F.2.1
  have hl : lv_has ls 9 [(0, .ref (G.1 7)), (1, .int a0), (2, .int a1), (3, .int a2)] := hl
  unfold fX5_add at hf
  refine lv_iload_n hx hb dX5_add_0 rfl (lv_at hl 2 rfl) ?_
  refine lv_if_ge (pc := 1) (tgt := 8) hx hb dX5_add_1 (by decide) (fun c23 => ?_) (fun c23 => ?_)
  · have hf := g_pos hf c23
    refine lv_aload_n hx hb dX5_add_8 rfl (lv_at hl 0 rfl) ?_
    refine ok_ref F K fX5_24 dX5_add_9 ?_
    refine lv_iload_n hx hb dX5_add_12 rfl (lv_at hl 2 rfl) ?_
    obtain ⟨v24, hv24, hf⟩ := g_bd hf
    refine ok_iald F K t61 hv24 dX5_add_13 ?_
    exact pX5_add_j14  B a0 a1 a2 v24 u _ _ _ hf K (lv_sub hl [0, 1, 2, 3] rfl)
  · have hf := g_neg hf c23
    refine lv_iconst (v := (-1)) hx hb dX5_add_4 kI_m1 ?_
    refine lv_goto (pc := 5) (tgt := 14) hx hb dX5_add_5 (by decide) ?_
    exact pX5_add_j14  B a0 a1 a2 (-1) u _ _ _ hf K (lv_sub hl [0, 1, 2, 3] rfl)
abbrev rmX3_grow : Room := { frames := 1, cells := 0, slots := 0, locals := 28 }
set_option maxRecDepth 100000 in
set_option maxHeartbeats 4000000 in
theorem pX3_grow {l : Launch} (G : Gt) {r : Int32} {u u' : St} (hf : fX3_grow u = some (r, u')) : Ctr 0 76 l yX3_grow cX3_grow 2 (some .int) rmX3_grow [.ref (G.1 9)] G u (some (.int r)) u' := by
  refine Ctr.mk (by decide) (Nat.le_of_ble_eq_true rfl) (fun p e s m below meth c A ls B K hl => ?_)
  have F := B.1
  have hx := F.1
  have hb := F.2.1
  have hl : lv_has ls 2 [(0, .ref (G.1 9))] := hl
  unfold fX3_grow at hf
  refine lv_aload_n hx hb dX3_grow_0 rfl (lv_at hl 0 rfl) ?_
  refine ok_ref F K fX3_13 dX3_grow_1 ?_
  refine lv_aload_n hx hb dX3_grow_4 rfl (lv_at hl 0 rfl) ?_
  refine ok_int F K fX3_68 dX3_grow_5 ?_
  obtain ⟨v1, hv1, hf⟩ := g_bd hf
  refine ok_iald F K t65 hv1 dX3_grow_8 ?_
  refine lv_iconst (v := 2) hx hb dX3_grow_9 kI_2 ?_
  refine lv_icmp_ne (pc := 10) (tgt := 36) hx hb dX3_grow_10 (by decide) (fun c2 => ?_) (fun c2 => ?_)
  · have hf := g_neg hf c2
    refine lv_aload_n hx hb dX3_grow_36 rfl (lv_at hl 0 rfl) ?_
    refine lv_aload_n hx hb dX3_grow_37 rfl (lv_at hl 0 rfl) ?_
    refine ok_int F K fX3_68 dX3_grow_38 ?_
    obtain ⟨r4, u3, hu3, hf⟩ := g_b2 hf
    refine ok_calli (rest := []) F K (pX3_rowOf G hu3) mX3_rowOf oc9 lX3_151 rfl hl.1 rfl ⟨⟨rfl, rfl⟩, Nat.le_of_ble_eq_true rfl, Nat.le_of_ble_eq_true rfl⟩ (Nat.le_of_ble_eq_true rfl) dX3_grow_41 (fun H locs K => ?_)
    refine lv_istore_n (lv' := [(1, .int r4), (0, .ref (G.1 9))]) hx hb dX3_grow_44 rfl hl (by decide) rfl (fun ls hl => ?_)
    refine lv_aload_n hx hb dX3_grow_45 rfl (lv_at hl 1 rfl) ?_
    refine ok_ref F K fX3_36 dX3_grow_46 ?_
    refine lv_iload_n hx hb dX3_grow_49 rfl (lv_at hl 0 rfl) ?_
    obtain ⟨r6, u5, hu5, hf⟩ := g_b2 hf
    refine ok_calli (rest := []) F K (pX5_fits G hu5) mX5_fits oc7 lX3_154 rfl hl.1 rfl ⟨⟨rfl, rfl⟩, Nat.le_of_ble_eq_true rfl, Nat.le_of_ble_eq_true rfl⟩ (Nat.le_of_ble_eq_true rfl) dX3_grow_50 (fun H locs K => ?_)
    refine lv_if_ne (pc := 53) (tgt := 59) hx hb dX3_grow_53 (by decide) (fun c7 => ?_) (fun c7 => ?_)
    · have hf := g_neg hf c7
      refine lv_aload_n hx hb dX3_grow_59 rfl (lv_at hl 1 rfl) ?_
      refine lv_aload_n hx hb dX3_grow_60 rfl (lv_at hl 1 rfl) ?_
      refine ok_ref F K fX3_36 dX3_grow_61 ?_
      refine lv_iload_n hx hb dX3_grow_64 rfl (lv_at hl 0 rfl) ?_
      refine lv_aload_n hx hb dX3_grow_65 rfl (lv_at hl 1 rfl) ?_
      refine ok_ref F K fX3_17 dX3_grow_66 ?_
      refine lv_aload_n hx hb dX3_grow_69 rfl (lv_at hl 1 rfl) ?_
      refine ok_int F K fX3_68 dX3_grow_70 ?_
      obtain ⟨v8, hv8, hf⟩ := g_bd hf
      refine ok_iald F K t66 hv8 dX3_grow_73 ?_
      refine lv_aload_n hx hb dX3_grow_74 rfl (lv_at hl 1 rfl) ?_
      refine ok_ref F K fX3_13 dX3_grow_75 ?_
      refine lv_aload_n hx hb dX3_grow_78 rfl (lv_at hl 1 rfl) ?_
      refine ok_int F K fX3_68 dX3_grow_79 ?_
      obtain ⟨v9, hv9, hf⟩ := g_bd hf
      refine ok_iald F K t65 hv9 dX3_grow_82 ?_
      refine lv_if_ne (pc := 83) (tgt := 90) hx hb dX3_grow_83 (by decide) (fun c10 => ?_) (fun c10 => ?_)
      · have hf := g_neg hf c10
        refine lv_aload_n hx hb dX3_grow_90 rfl (lv_at hl 1 rfl) ?_
        refine ok_ref F K fX3_20 dX3_grow_91 ?_
        refine lv_aload_n hx hb dX3_grow_94 rfl (lv_at hl 1 rfl) ?_
        refine ok_int F K fX3_68 dX3_grow_95 ?_
        obtain ⟨v11, hv11, hf⟩ := g_bd hf
        refine ok_iald F K t67 hv11 dX3_grow_98 ?_
        obtain ⟨r13, u12, hu12, hf⟩ := g_b2 hf
        refine ok_calli (rest := [.ref (G.1 9)]) F K (pX5_add G hu12) mX5_add oc7 lX3_157 rfl hl.1 rfl ⟨⟨rfl, rfl⟩, Nat.le_of_ble_eq_true rfl, Nat.le_of_ble_eq_true rfl⟩ (Nat.le_of_ble_eq_true rfl) dX3_grow_99 (fun H locs K => ?_)
        refine ok_putI F K qX3_89 dX3_grow_102 (fun u14 H locs eu14 K => ?_)
        have hf := g_lt hf u14 eu14
        refine lv_iconst (v := 2) hx hb dX3_grow_105 kI_2 ?_
        exact ok_reti B K hf dX3_grow_106
      · have hf := g_pos hf c10
        refine lv_iconst (v := (-1)) hx hb dX3_grow_86 kI_m1 ?_
        refine lv_goto (pc := 87) (tgt := 99) hx hb dX3_grow_87 (by decide) ?_
        obtain ⟨r16, u15, hu15, hf⟩ := g_b2 hf
        refine ok_calli (rest := [.ref (G.1 9)]) F K (pX5_add G hu15) mX5_add oc7 lX3_157 rfl hl.1 rfl ⟨⟨rfl, rfl⟩, Nat.le_of_ble_eq_true rfl, Nat.le_of_ble_eq_true rfl⟩ (Nat.le_of_ble_eq_true rfl) dX3_grow_99 (fun H locs K => ?_)
        refine ok_putI F K qX3_89 dX3_grow_102 (fun u17 H locs eu17 K => ?_)
        have hf := g_lt hf u17 eu17
        refine lv_iconst (v := 2) hx hb dX3_grow_105 kI_2 ?_
        exact ok_reti B K hf dX3_grow_106
    · have hf := g_pos hf c7
      refine lv_bipush (v := (-7)) hx hb dX3_grow_56 kB_m7 ?_
      exact ok_reti B K hf dX3_grow_58
  · have hf := g_pos hf c2
    refine lv_aload_n hx hb dX3_grow_13 rfl (lv_at hl 0 rfl) ?_
    refine lv_aload_n hx hb dX3_grow_14 rfl (lv_at hl 0 rfl) ?_
    refine ok_ref F K fX3_36 dX3_grow_15 ?_
    refine ok_ref F K fX3_148 dX3_grow_18 ?_
    refine lv_aload_n hx hb dX3_grow_21 rfl (lv_at hl 0 rfl) ?_
    refine ok_ref F K fX3_17 dX3_grow_22 ?_
    refine lv_aload_n hx hb dX3_grow_25 rfl (lv_at hl 0 rfl) ?_
    refine ok_int F K fX3_68 dX3_grow_26 ?_
    obtain ⟨v18, hv18, hf⟩ := g_bd hf
    refine ok_iald F K t66 hv18 dX3_grow_29 ?_
    obtain ⟨v19, hv19, hf⟩ := g_bd hf
    refine ok_iald F K t61 hv19 dX3_grow_30 ?_
    refine ok_putI F K qX3_89 dX3_grow_31 (fun u20 H locs eu20 K => ?_)
    have hf := g_lt hf u20 eu20
    refine lv_iconst (v := 2) hx hb dX3_grow_34 kI_2 ?_
    exact ok_reti B K hf dX3_grow_35
abbrev rmX3_advance : Room := { frames := 3, cells := 0, slots := 0, locals := 74 }
set_option maxRecDepth 100000 in
set_option maxHeartbeats 4000000 in
theorem pX3_advance_L0 {p : Program} {l : Launch} {e : Env} {s : State} {m : MethodId} {below : List Frame} {meth : Method} {c : Code} {A : Nat → Prop} {G : Gt} {r : Int32} {u' : St} (B : Bd p s m [.ref (G.1 9)] meth c yX3_advance cX3_advance 4 (some .int)) (n : Nat) : (∀ (x1_ : Int32) (u : St) (H : Heap) (locs : List Loc) (ls : Array Slot), fX3_advance_L0  n 0 x1_ 0 u = some (r, u') → Ok 0 76 G A s u H locs → lv_has ls 4 [(0, .ref (G.1 9)), (1, .int x1_)] → W p l e rmX3_advance s m ([.ref (G.1 9)] : List Value).toArray below meth c H locs 0 0 (MQ below (Qg 0 76 G A (some (.int r)) u') ([.ref (G.1 9)] : List Value).toArray s 0 0 A) (F0 m 2 ls [])) ∧ (∀ (x1_ : Int32) (x2_ : Int32) (u : St) (H : Heap) (locs : List Loc) (ls : Array Slot), fX3_advance_L0  n 1 x1_ x2_ u = some (r, u') → Ok 0 76 G A s u H locs → lv_has ls 4 [(0, .ref (G.1 9)), (1, .int x1_), (2, .int x2_)] → W p l e rmX3_advance s m ([.ref (G.1 9)] : List Value).toArray below meth c H locs 0 0 (MQ below (Qg 0 76 G A (some (.int r)) u') ([.ref (G.1 9)] : List Value).toArray s 0 0 A) (F0 m 148 ls [])) := by
  have F := B.1
  have hx := F.1
  have hb := F.2.1
  induction n with
  | zero => exact ⟨fun _ _ _ _ _ hf => g_no hf, fun _ _ _ _ _ _ hf => g_no hf⟩
  | succ n ih =>
    refine ⟨?_, ?_⟩
    · intro x1_ u H locs ls hf K hl
      have hf : fX3_advance_L0_0  (fX3_advance_L0  n) x1_ u = some (r, u') := hf
      unfold fX3_advance_L0_0 at hf
      refine lv_iload_n hx hb dX3_advance_2 rfl (lv_at hl 1 rfl) ?_
      refine lv_ldc (v := 1000000) hx hb F.2.2.2.1 (F.2.2.2.2 _ kcX3_85) dX3_advance_3 ?_
      refine lv_icmp_ge (pc := 5) (tgt := 188) hx hb dX3_advance_5 (by decide) (fun c1 => ?_) (fun c1 => ?_)
      · have hf := g_pos hf c1
        refine lv_iconst (v := 3) hx hb dX3_advance_188 kI_3 ?_
        exact ok_reti B K hf dX3_advance_189
      · have hf := g_neg hf c1
        refine lv_aload_n hx hb dX3_advance_8 rfl (lv_at hl 0 rfl) ?_
        obtain ⟨r3, u2, hu2, hf⟩ := g_b2 hf
        refine ok_calli (rest := []) F K (pX3_nextChoice G hu2) mX3_nextChoice oc9 lX3_101 rfl hl.1 rfl ⟨⟨rfl, rfl⟩, Nat.le_of_ble_eq_true rfl, Nat.le_of_ble_eq_true rfl⟩ (Nat.le_of_ble_eq_true rfl) dX3_advance_9 (fun H locs K => ?_)
        refine lv_if_eq (pc := 12) (tgt := 188) hx hb dX3_advance_12 (by decide) (fun c4 => ?_) (fun c4 => ?_)
        · have hf := g_pos hf c4
          refine lv_iconst (v := 3) hx hb dX3_advance_188 kI_3 ?_
          exact ok_reti B K hf dX3_advance_189
        · have hf := g_neg hf c4
          refine lv_aload_n hx hb dX3_advance_15 rfl (lv_at hl 0 rfl) ?_
          refine ok_int F K fX3_44 dX3_advance_16 ?_
          refine lv_aload_n hx hb dX3_advance_19 rfl (lv_at hl 0 rfl) ?_
          refine ok_int F K fX3_57 dX3_advance_20 ?_
          refine lv_icmp_lt (pc := 23) (tgt := 29) hx hb dX3_advance_23 (by decide) (fun c5 => ?_) (fun c5 => ?_)
          · have hf := g_pos hf c5
            refine lv_aload_n hx hb dX3_advance_29 rfl (lv_at hl 0 rfl) ?_
            refine lv_dup hx hb dX3_advance_30 rfl ?_
            refine ok_int F K fX3_44 dX3_advance_31 ?_
            refine lv_iconst (v := 1) hx hb dX3_advance_34 kI_1 ?_
            refine lv_iadd hx hb dX3_advance_35 ?_
            refine ok_putI F K qX3_44 dX3_advance_36 (fun u6 H locs eu6 K => ?_)
            have hf := g_lt hf u6 eu6
            refine lv_iconst (v := 1) hx hb dX3_advance_39 kI_1 ?_
            refine lv_topi (fun x7 ex7 => ?_)
            have hf := g_lt hf x7 ex7
            refine lv_istore_n (lv' := [(2, .int x7), (0, .ref (G.1 9)), (1, .int x1_)]) hx hb dX3_advance_40 rfl hl (by decide) rfl (fun ls hl => ?_)
            refine lv_aload_n hx hb dX3_advance_41 rfl (lv_at hl 1 rfl) ?_
            refine ok_ref F K fX3_13 dX3_advance_42 ?_
            refine lv_aload_n hx hb dX3_advance_45 rfl (lv_at hl 1 rfl) ?_
            refine ok_int F K fX3_68 dX3_advance_46 ?_
            obtain ⟨v8, hv8, hf⟩ := g_bd hf
            refine ok_iald F K t65 hv8 dX3_advance_49 ?_
            refine lv_iconst (v := 2) hx hb dX3_advance_50 kI_2 ?_
            refine lv_icmp_ne (pc := 51) (tgt := 102) hx hb dX3_advance_51 (by decide) (fun c9 => ?_) (fun c9 => ?_)
            · have hf := g_neg hf c9
              refine lv_aload_n hx hb dX3_advance_102 rfl (lv_at hl 1 rfl) ?_
              refine ok_ref F K fX3_13 dX3_advance_103 ?_
              refine lv_aload_n hx hb dX3_advance_106 rfl (lv_at hl 1 rfl) ?_
              refine ok_int F K fX3_68 dX3_advance_107 ?_
              obtain ⟨v10, hv10, hf⟩ := g_bd hf
              refine ok_iald F K t65 hv10 dX3_advance_110 ?_
              refine lv_iconst (v := 1) hx hb dX3_advance_111 kI_1 ?_
              refine lv_icmp_ne (pc := 112) (tgt := 148) hx hb dX3_advance_112 (by decide) (fun c11 => ?_) (fun c11 => ?_)
              · have hf := g_neg hf c11
                exact ih.2 x1_ x7 u6 _ _ _ hf K (lv_sub hl [1, 2, 0] rfl)
              · have hf := g_pos hf c11
                refine lv_aload_n hx hb dX3_advance_115 rfl (lv_at hl 1 rfl) ?_
                refine ok_ref F K fX3_40 dX3_advance_116 ?_
                refine lv_aload_n hx hb dX3_advance_119 rfl (lv_at hl 1 rfl) ?_
                refine ok_ref F K fX3_17 dX3_advance_120 ?_
                refine lv_aload_n hx hb dX3_advance_123 rfl (lv_at hl 1 rfl) ?_
                refine ok_int F K fX3_68 dX3_advance_124 ?_
                obtain ⟨v12, hv12, hf⟩ := g_bd hf
                refine ok_iald F K t66 hv12 dX3_advance_127 ?_
                refine lv_aload_n hx hb dX3_advance_128 rfl (lv_at hl 1 rfl) ?_
                refine ok_ref F K fX3_20 dX3_advance_129 ?_
                refine lv_aload_n hx hb dX3_advance_132 rfl (lv_at hl 1 rfl) ?_
                refine ok_int F K fX3_68 dX3_advance_133 ?_
                obtain ⟨v13, hv13, hf⟩ := g_bd hf
                refine ok_iald F K t67 hv13 dX3_advance_136 ?_
                refine lv_aload_n hx hb dX3_advance_137 rfl (lv_at hl 1 rfl) ?_
                refine ok_ref F K fX3_36 dX3_advance_138 ?_
                refine ok_int F K fX3_78 dX3_advance_141 ?_
                obtain ⟨r15, u14, hu14, hf⟩ := g_b2 hf
                refine ok_calli (rest := []) F K (pX8_unify G hu14) mX8_unify oc8 lX3_111 rfl hl.1 rfl ⟨⟨rfl, rfl⟩, Nat.le_of_ble_eq_true rfl, Nat.le_of_ble_eq_true rfl⟩ (Nat.le_of_ble_eq_true rfl) dX3_advance_144 (fun H locs K => ?_)
                refine lv_istore_n (lv' := [(2, .int r15), (0, .ref (G.1 9)), (1, .int x1_)]) hx hb dX3_advance_147 rfl hl (by decide) rfl (fun ls hl => ?_)
                exact ih.2 x1_ r15 u14 _ _ _ hf K (lv_sub hl [1, 2, 0] rfl)
            · have hf := g_pos hf c9
              refine lv_aload_n hx hb dX3_advance_54 rfl (lv_at hl 1 rfl) ?_
              refine ok_ref F K fX3_20 dX3_advance_55 ?_
              refine lv_aload_n hx hb dX3_advance_58 rfl (lv_at hl 1 rfl) ?_
              refine ok_int F K fX3_68 dX3_advance_59 ?_
              obtain ⟨v16, hv16, hf⟩ := g_bd hf
              refine ok_iald F K t67 hv16 dX3_advance_62 ?_
              refine lv_istore_n (lv' := [(3, .int v16), (2, .int x7), (0, .ref (G.1 9)), (1, .int x1_)]) hx hb dX3_advance_63 rfl hl (by decide) rfl (fun ls hl => ?_)
              refine lv_aload_n hx hb dX3_advance_64 rfl (lv_at hl 2 rfl) ?_
              refine ok_ref F K fX3_40 dX3_advance_65 ?_
              refine lv_aload_n hx hb dX3_advance_68 rfl (lv_at hl 2 rfl) ?_
              refine ok_ref F K fX3_17 dX3_advance_69 ?_
              refine lv_aload_n hx hb dX3_advance_72 rfl (lv_at hl 2 rfl) ?_
              refine ok_int F K fX3_68 dX3_advance_73 ?_
              obtain ⟨v17, hv17, hf⟩ := g_bd hf
              refine ok_iald F K t66 hv17 dX3_advance_76 ?_
              refine lv_aload_n hx hb dX3_advance_77 rfl (lv_at hl 2 rfl) ?_
              refine ok_ref F K fX3_36 dX3_advance_78 ?_
              refine ok_ref F K fX3_105 dX3_advance_81 ?_
              refine lv_iload_n hx hb dX3_advance_84 rfl (lv_at hl 0 rfl) ?_
              obtain ⟨v18, hv18, hf⟩ := g_bd hf
              refine ok_iald F K t57 hv18 dX3_advance_85 ?_
              refine lv_aload_n hx hb dX3_advance_86 rfl (lv_at hl 2 rfl) ?_
              refine ok_ref F K fX3_36 dX3_advance_87 ?_
              refine ok_ref F K fX3_108 dX3_advance_90 ?_
              refine lv_iload_n hx hb dX3_advance_93 rfl (lv_at hl 0 rfl) ?_
              obtain ⟨v19, hv19, hf⟩ := g_bd hf
              refine ok_iald F K t58 hv19 dX3_advance_94 ?_
              obtain ⟨r21, u20, hu20, hf⟩ := g_b2 hf
              refine ok_calli (rest := []) F K (pX8_unify G hu20) mX8_unify oc8 lX3_111 rfl hl.1 rfl ⟨⟨rfl, rfl⟩, Nat.le_of_ble_eq_true rfl, Nat.le_of_ble_eq_true rfl⟩ (Nat.le_of_ble_eq_true rfl) dX3_advance_95 (fun H locs K => ?_)
              refine lv_istore_n (lv' := [(2, .int r21), (3, .int v16), (0, .ref (G.1 9)), (1, .int x1_)]) hx hb dX3_advance_98 rfl hl (by decide) rfl (fun ls hl => ?_)
              refine lv_goto (pc := 99) (tgt := 148) hx hb dX3_advance_99 (by decide) ?_
              exact ih.2 x1_ r21 u20 _ _ _ hf K (lv_sub hl [2, 3, 0] rfl)
          · have hf := g_neg hf c5
            refine lv_bipush (v := (-6)) hx hb dX3_advance_26 kB_m6 ?_
            exact ok_reti B K hf dX3_advance_28
    · intro x1_ x2_ u H locs ls hf K hl
      have hf : fX3_advance_L0_1  (fX3_advance_L0  n) x1_ x2_ u = some (r, u') := hf
      unfold fX3_advance_L0_1 at hf
      refine lv_iload_n hx hb dX3_advance_148 rfl (lv_at hl 2 rfl) ?_
      refine lv_iconst (v := 1) hx hb dX3_advance_149 kI_1 ?_
      refine lv_icmp_ne (pc := 150) (tgt := 158) hx hb dX3_advance_150 (by decide) (fun c22 => ?_) (fun c22 => ?_)
      · have hf := g_neg hf c22
        refine lv_iload_n hx hb dX3_advance_158 rfl (lv_at hl 2 rfl) ?_
        refine lv_iconst (v := 2) hx hb dX3_advance_159 kI_2 ?_
        refine lv_icmp_ne (pc := 160) (tgt := 166) hx hb dX3_advance_160 (by decide) (fun c23 => ?_) (fun c23 => ?_)
        · have hf := g_neg hf c23
          refine lv_aload_n hx hb dX3_advance_166 rfl (lv_at hl 0 rfl) ?_
          refine ok_ref F K fX3_36 dX3_advance_167 ?_
          refine lv_aload_n hx hb dX3_advance_170 rfl (lv_at hl 0 rfl) ?_
          refine ok_ref F K fX3_23 dX3_advance_171 ?_
          refine lv_aload_n hx hb dX3_advance_174 rfl (lv_at hl 0 rfl) ?_
          refine ok_int F K fX3_68 dX3_advance_175 ?_
          obtain ⟨v24, hv24, hf⟩ := g_bd hf
          refine ok_iald F K t68 hv24 dX3_advance_178 ?_
          obtain ⟨u25, hu25, hf⟩ := g_bd hf
          refine ok_callv (rest := []) F K (pX5_unbind G hu25) mX5_unbind oc7 lX3_71 rfl hl.1 rfl ⟨⟨rfl, rfl⟩, Nat.le_of_ble_eq_true rfl, Nat.le_of_ble_eq_true rfl⟩ (Nat.le_of_ble_eq_true rfl) dX3_advance_179 (fun H locs K => ?_)
          obtain ⟨x26, ex26⟩ : ∃ y : Int32, y = x1_ + 1 := ⟨_, rfl⟩
          have hf := g_lt hf x26 ex26
          refine lv_iinc (v := x26) (lv' := [(1, .int x26), (0, .ref (G.1 9)), (2, .int x2_)]) hx hb dX3_advance_182 hl (k := 1) rfl (by rw [kI_1, ex26]) (by decide) rfl (fun ls hl => ?_)
          refine lv_goto (pc := 185) (tgt := 2) hx hb dX3_advance_185 (by decide) ?_
          exact ih.1 x26 u25 _ _ _ hf K (lv_sub hl [1, 0] rfl)
        · have hf := g_pos hf c23
          refine lv_bipush (v := (-7)) hx hb dX3_advance_163 kB_m7 ?_
          exact ok_reti B K hf dX3_advance_165
      · have hf := g_pos hf c22
        refine lv_aload_n hx hb dX3_advance_153 rfl (lv_at hl 0 rfl) ?_
        obtain ⟨r28, u27, hu27, hf⟩ := g_b2 hf
        refine ok_calli (rest := []) F K (pX3_grow G hu27) mX3_grow oc9 lX3_115 rfl hl.1 rfl ⟨⟨rfl, rfl⟩, Nat.le_of_ble_eq_true rfl, Nat.le_of_ble_eq_true rfl⟩ (Nat.le_of_ble_eq_true rfl) dX3_advance_154 (fun H locs K => ?_)
        exact ok_reti B K hf dX3_advance_157
set_option maxRecDepth 100000 in
set_option maxHeartbeats 4000000 in
theorem pX3_advance {l : Launch} (G : Gt) {r : Int32} {u u' : St} (hf : fX3_advance u = some (r, u')) : Ctr 0 76 l yX3_advance cX3_advance 4 (some .int) rmX3_advance [.ref (G.1 9)] G u (some (.int r)) u' := by
  refine Ctr.mk (by decide) (Nat.le_of_ble_eq_true rfl) (fun p e s m below meth c A ls B K hl => ?_)
  have F := B.1
  have hx := F.1
  have hb := F.2.1
  have hl : lv_has ls 4 [(0, .ref (G.1 9))] := hl
  unfold fX3_advance at hf
  refine lv_iconst (v := 0) hx hb dX3_advance_0 kI_0 ?_
  refine lv_topi (fun x29 ex29 => ?_)
  have hf := g_lt hf x29 ex29
  refine lv_istore_n (lv' := [(1, .int x29), (0, .ref (G.1 9))]) hx hb dX3_advance_1 rfl hl (by decide) rfl (fun ls hl => ?_)
  exact (pX3_advance_L0  B FU).1 x29 u _ _ _ hf K (lv_sub hl [1, 0] rfl)
abbrev rmX4_alike : Room := { frames := 0, cells := 0, slots := 0, locals := 0 }
set_option maxRecDepth 100000 in
set_option maxHeartbeats 4000000 in
theorem pX4_alike {l : Launch} (G : Gt) {a0 : Int32} {a1 : Int32} {r : Int32} {u u' : St} (hf : fX4_alike a0 a1 u = some (r, u')) : Ctr 0 76 l yX4_alike cX4_alike 3 (some .boolean) rmX4_alike [.ref (G.1 2), .int a0, .int a1] G u (some (.int r)) u' := by
  refine Ctr.mk (by decide) (Nat.le_of_ble_eq_true rfl) (fun p e s m below meth c A ls B K hl => ?_)
  have F := B.1
  have hx := F.1
  have hb := F.2.1
  have hl : lv_has ls 3 [(0, .ref (G.1 2)), (1, .int a0), (2, .int a1)] := hl
  unfold fX4_alike at hf
  refine lv_aload_n hx hb dX4_alike_0 rfl (lv_at hl 0 rfl) ?_
  refine ok_ref F K fX4_32 dX4_alike_1 ?_
  refine lv_iload_n hx hb dX4_alike_4 rfl (lv_at hl 1 rfl) ?_
  obtain ⟨v1, hv1, hf⟩ := g_bd hf
  refine ok_zald F K t30 hv1 dX4_alike_5 ?_
  refine lv_aload_n hx hb dX4_alike_6 rfl (lv_at hl 0 rfl) ?_
  refine ok_ref F K fX4_32 dX4_alike_7 ?_
  refine lv_iload_n hx hb dX4_alike_10 rfl (lv_at hl 2 rfl) ?_
  obtain ⟨v2, hv2, hf⟩ := g_bd hf
  refine ok_zald F K t30 hv2 dX4_alike_11 ?_
  refine lv_icmp_ne (pc := 12) (tgt := 44) hx hb dX4_alike_12 (by decide) (fun c3 => ?_) (fun c3 => ?_)
  · have hf := g_neg hf c3
    refine lv_iconst (v := 0) hx hb dX4_alike_44 kI_0 ?_
    exact ok_retz B K hf (Or.inl rfl) dX4_alike_45
  · have hf := g_pos hf c3
    refine lv_aload_n hx hb dX4_alike_15 rfl (lv_at hl 0 rfl) ?_
    refine ok_ref F K fX4_38 dX4_alike_16 ?_
    refine lv_aload_n hx hb dX4_alike_19 rfl (lv_at hl 0 rfl) ?_
    refine ok_ref F K fX4_29 dX4_alike_20 ?_
    refine lv_iload_n hx hb dX4_alike_23 rfl (lv_at hl 1 rfl) ?_
    obtain ⟨v4, hv4, hf⟩ := g_bd hf
    refine ok_iald F K t29 hv4 dX4_alike_24 ?_
    obtain ⟨v5, hv5, hf⟩ := g_bd hf
    refine ok_iald F K t32 hv5 dX4_alike_25 ?_
    refine lv_aload_n hx hb dX4_alike_26 rfl (lv_at hl 0 rfl) ?_
    refine ok_ref F K fX4_38 dX4_alike_27 ?_
    refine lv_aload_n hx hb dX4_alike_30 rfl (lv_at hl 0 rfl) ?_
    refine ok_ref F K fX4_29 dX4_alike_31 ?_
    refine lv_iload_n hx hb dX4_alike_34 rfl (lv_at hl 2 rfl) ?_
    obtain ⟨v6, hv6, hf⟩ := g_bd hf
    refine ok_iald F K t29 hv6 dX4_alike_35 ?_
    obtain ⟨v7, hv7, hf⟩ := g_bd hf
    refine ok_iald F K t32 hv7 dX4_alike_36 ?_
    refine lv_icmp_ne (pc := 37) (tgt := 44) hx hb dX4_alike_37 (by decide) (fun c8 => ?_) (fun c8 => ?_)
    · have hf := g_neg hf c8
      refine lv_iconst (v := 0) hx hb dX4_alike_44 kI_0 ?_
      exact ok_retz B K hf (Or.inl rfl) dX4_alike_45
    · have hf := g_pos hf c8
      refine lv_iconst (v := 1) hx hb dX4_alike_40 kI_1 ?_
      refine lv_goto (pc := 41) (tgt := 45) hx hb dX4_alike_41 (by decide) ?_
      exact ok_retz B K hf (Or.inr rfl) dX4_alike_45
abbrev rmX8_same : Room := { frames := 2, cells := 0, slots := 0, locals := 48 }
set_option maxRecDepth 100000 in
set_option maxHeartbeats 4000000 in
theorem pX8_same_L0 {p : Program} {l : Launch} {e : Env} {s : State} {m : MethodId} {below : List Frame} {meth : Method} {c : Code} {A : Nat → Prop} {G : Gt} {a0 : Int32} {a1 : Int32} {r : Int32} {u' : St} (B : Bd p s m [.ref (G.1 8), .int a0, .int a1] meth c yX8_same cX8_same 4 (some .int)) (n : Nat) : (∀ (u : St) (H : Heap) (locs : List Loc) (ls : Array Slot), fX8_same_L0  n 0  u = some (r, u') → Ok 0 76 G A s u H locs → lv_has ls 4 [(0, .ref (G.1 8))] → W p l e rmX8_same s m ([.ref (G.1 8), .int a0, .int a1] : List Value).toArray below meth c H locs 0 0 (MQ below (Qg 0 76 G A (some (.int r)) u') ([.ref (G.1 8), .int a0, .int a1] : List Value).toArray s 0 0 A) (F0 m 23 ls [])) ∧ (∀ (u : St) (H : Heap) (locs : List Loc) (ls : Array Slot), fX8_same_L0  n 1  u = some (r, u') → Ok 0 76 G A s u H locs → lv_has ls 4 [(0, .ref (G.1 8))] → W p l e rmX8_same s m ([.ref (G.1 8), .int a0, .int a1] : List Value).toArray below meth c H locs 0 0 (MQ below (Qg 0 76 G A (some (.int r)) u') ([.ref (G.1 8), .int a0, .int a1] : List Value).toArray s 0 0 A) (F0 m 107 ls [])) := by
  have F := B.1
  have hx := F.1
  have hb := F.2.1
  induction n with
  | zero => exact ⟨fun _ _ _ _ hf => g_no hf, fun _ _ _ _ hf => g_no hf⟩
  | succ n ih =>
    refine ⟨?_, ?_⟩
    · intro  u H locs ls hf K hl
      have hf : fX8_same_L0_0  (fX8_same_L0  n)  u = some (r, u') := hf
      unfold fX8_same_L0_0 at hf
      refine lv_aload_n hx hb dX8_same_23 rfl (lv_at hl 0 rfl) ?_
      refine ok_ref F K fX8_17 dX8_same_24 ?_
      obtain ⟨r2, u1, hu1, hf⟩ := g_b2 hf
      refine ok_calli (rest := []) F K (pX9_more G (w := 0) (by decide) hu1) mX9_more (ocW (w := 0) (by decide)) lX8_55 rfl hl.1 rfl ⟨⟨rfl, rfl⟩, Nat.le_of_ble_eq_true rfl, Nat.le_of_ble_eq_true rfl⟩ (Nat.le_of_ble_eq_true rfl) dX8_same_27 (fun H locs K => ?_)
      refine lv_if_eq (pc := 30) (tgt := 124) hx hb dX8_same_30 (by decide) (fun c3 => ?_) (fun c3 => ?_)
      · have hf := g_pos hf c3
        refine lv_iconst (v := 1) hx hb dX8_same_124 kI_1 ?_
        exact ok_reti B K hf dX8_same_125
      · have hf := g_neg hf c3
        refine lv_aload_n hx hb dX8_same_33 rfl (lv_at hl 0 rfl) ?_
        refine ok_ref F K fX8_21 dX8_same_34 ?_
        obtain ⟨r5, u4, hu4, hf⟩ := g_b2 hf
        refine ok_calli (rest := []) F K (pX9_more G (w := 1) (by decide) hu4) mX9_more (ocW (w := 1) (by decide)) lX8_55 rfl hl.1 rfl ⟨⟨rfl, rfl⟩, Nat.le_of_ble_eq_true rfl, Nat.le_of_ble_eq_true rfl⟩ (Nat.le_of_ble_eq_true rfl) dX8_same_37 (fun H locs K => ?_)
        refine lv_if_eq (pc := 40) (tgt := 124) hx hb dX8_same_40 (by decide) (fun c6 => ?_) (fun c6 => ?_)
        · have hf := g_pos hf c6
          refine lv_iconst (v := 1) hx hb dX8_same_124 kI_1 ?_
          exact ok_reti B K hf dX8_same_125
        · have hf := g_neg hf c6
          refine lv_aload_n hx hb dX8_same_43 rfl (lv_at hl 0 rfl) ?_
          refine lv_dup hx hb dX8_same_44 rfl ?_
          refine ok_int F K fX8_51 dX8_same_45 ?_
          refine lv_iconst (v := 1) hx hb dX8_same_48 kI_1 ?_
          refine lv_iadd hx hb dX8_same_49 ?_
          refine ok_putI F K qX8_51 dX8_same_50 (fun u7 H locs eu7 K => ?_)
          have hf := g_lt hf u7 eu7
          refine lv_aload_n hx hb dX8_same_53 rfl (lv_at hl 0 rfl) ?_
          refine ok_int F K fX8_51 dX8_same_54 ?_
          refine lv_sipush (v := 4000) hx hb dX8_same_57 kS_4000 ?_
          refine lv_icmp_le (pc := 60) (tgt := 65) hx hb dX8_same_60 (by decide) (fun c8 => ?_) (fun c8 => ?_)
          · have hf := g_pos hf c8
            refine lv_aload_n hx hb dX8_same_65 rfl (lv_at hl 0 rfl) ?_
            refine ok_ref F K fX8_17 dX8_same_66 ?_
            obtain ⟨r10, u9, hu9, hf⟩ := g_b2 hf
            refine ok_calli (rest := []) F K (pX9_variable G (w := 0) (by decide) hu9) mX9_variable (ocW (w := 0) (by decide)) lX8_59 rfl hl.1 rfl ⟨⟨rfl, rfl⟩, Nat.le_of_ble_eq_true rfl, Nat.le_of_ble_eq_true rfl⟩ (Nat.le_of_ble_eq_true rfl) dX8_same_69 (fun H locs K => ?_)
            refine lv_istore_n (lv' := [(3, .int r10), (0, .ref (G.1 8))]) hx hb dX8_same_72 rfl hl (by decide) rfl (fun ls hl => ?_)
            refine lv_iload_n hx hb dX8_same_73 rfl (lv_at hl 0 rfl) ?_
            refine lv_aload_n hx hb dX8_same_74 rfl (lv_at hl 1 rfl) ?_
            refine ok_ref F K fX8_21 dX8_same_75 ?_
            obtain ⟨r12, u11, hu11, hf⟩ := g_b2 hf
            refine ok_calli (rest := [.int r10]) F K (pX9_variable G (w := 1) (by decide) hu11) mX9_variable (ocW (w := 1) (by decide)) lX8_59 rfl hl.1 rfl ⟨⟨rfl, rfl⟩, Nat.le_of_ble_eq_true rfl, Nat.le_of_ble_eq_true rfl⟩ (Nat.le_of_ble_eq_true rfl) dX8_same_78 (fun H locs K => ?_)
            refine lv_icmp_ne (pc := 81) (tgt := 105) hx hb dX8_same_81 (by decide) (fun c13 => ?_) (fun c13 => ?_)
            · have hf := g_neg hf c13
              refine lv_iconst (v := 0) hx hb dX8_same_105 kI_0 ?_
              exact ok_reti B K hf dX8_same_106
            · have hf := g_pos hf c13
              refine lv_iload_n hx hb dX8_same_84 rfl (lv_at hl 0 rfl) ?_
              refine lv_if_ge (pc := 85) (tgt := 107) hx hb dX8_same_85 (by decide) (fun c14 => ?_) (fun c14 => ?_)
              · have hf := g_pos hf c14
                exact ih.2  u11 _ _ _ hf K (lv_sub hl [1] rfl)
              · have hf := g_neg hf c14
                refine lv_aload_n hx hb dX8_same_88 rfl (lv_at hl 1 rfl) ?_
                refine ok_ref F K fX8_17 dX8_same_89 ?_
                obtain ⟨r16, u15, hu15, hf⟩ := g_b2 hf
                refine ok_calli (rest := []) F K (pX9_symbol G (w := 0) (by decide) hu15) mX9_symbol (ocW (w := 0) (by decide)) lX8_63 rfl hl.1 rfl ⟨⟨rfl, rfl⟩, Nat.le_of_ble_eq_true rfl, Nat.le_of_ble_eq_true rfl⟩ (Nat.le_of_ble_eq_true rfl) dX8_same_92 (fun H locs K => ?_)
                refine lv_aload_n hx hb dX8_same_95 rfl (lv_at hl 1 rfl) ?_
                refine ok_ref F K fX8_21 dX8_same_96 ?_
                obtain ⟨r18, u17, hu17, hf⟩ := g_b2 hf
                refine ok_calli (rest := [.int r16]) F K (pX9_symbol G (w := 1) (by decide) hu17) mX9_symbol (ocW (w := 1) (by decide)) lX8_63 rfl hl.1 rfl ⟨⟨rfl, rfl⟩, Nat.le_of_ble_eq_true rfl, Nat.le_of_ble_eq_true rfl⟩ (Nat.le_of_ble_eq_true rfl) dX8_same_99 (fun H locs K => ?_)
                refine lv_icmp_eq (pc := 102) (tgt := 107) hx hb dX8_same_102 (by decide) (fun c19 => ?_) (fun c19 => ?_)
                · have hf := g_pos hf c19
                  exact ih.2  u17 _ _ _ hf K (lv_sub hl [1] rfl)
                · have hf := g_neg hf c19
                  refine lv_iconst (v := 0) hx hb dX8_same_105 kI_0 ?_
                  exact ok_reti B K hf dX8_same_106
          · have hf := g_neg hf c8
            refine lv_iconst (v := 2) hx hb dX8_same_63 kI_2 ?_
            exact ok_reti B K hf dX8_same_64
    · intro  u H locs ls hf K hl
      have hf : fX8_same_L0_1  (fX8_same_L0  n)  u = some (r, u') := hf
      unfold fX8_same_L0_1 at hf
      refine lv_aload_n hx hb dX8_same_107 rfl (lv_at hl 0 rfl) ?_
      refine ok_ref F K fX8_17 dX8_same_108 ?_
      obtain ⟨u20, hu20, hf⟩ := g_bd hf
      refine ok_callv (rest := []) F K (pX9_enter G (w := 0) (by decide) hu20) mX9_enter (ocW (w := 0) (by decide)) lX8_66 rfl hl.1 rfl ⟨⟨rfl, rfl⟩, Nat.le_of_ble_eq_true rfl, Nat.le_of_ble_eq_true rfl⟩ (Nat.le_of_ble_eq_true rfl) dX8_same_111 (fun H locs K => ?_)
      refine lv_aload_n hx hb dX8_same_114 rfl (lv_at hl 0 rfl) ?_
      refine ok_ref F K fX8_21 dX8_same_115 ?_
      obtain ⟨u21, hu21, hf⟩ := g_bd hf
      refine ok_callv (rest := []) F K (pX9_enter G (w := 1) (by decide) hu21) mX9_enter (ocW (w := 1) (by decide)) lX8_66 rfl hl.1 rfl ⟨⟨rfl, rfl⟩, Nat.le_of_ble_eq_true rfl, Nat.le_of_ble_eq_true rfl⟩ (Nat.le_of_ble_eq_true rfl) dX8_same_118 (fun H locs K => ?_)
      refine lv_goto (pc := 121) (tgt := 23) hx hb dX8_same_121 (by decide) ?_
      exact ih.1  u21 _ _ _ hf K (lv_sub hl [0] rfl)
set_option maxRecDepth 100000 in
set_option maxHeartbeats 4000000 in
theorem pX8_same {l : Launch} (G : Gt) {a0 : Int32} {a1 : Int32} {r : Int32} {u u' : St} (hf : fX8_same a0 a1 u = some (r, u')) : Ctr 0 76 l yX8_same cX8_same 4 (some .int) rmX8_same [.ref (G.1 8), .int a0, .int a1] G u (some (.int r)) u' := by
  refine Ctr.mk (by decide) (Nat.le_of_ble_eq_true rfl) (fun p e s m below meth c A ls B K hl => ?_)
  have F := B.1
  have hx := F.1
  have hb := F.2.1
  have hl : lv_has ls 4 [(0, .ref (G.1 8)), (1, .int a0), (2, .int a1)] := hl
  unfold fX8_same at hf
  refine lv_aload_n hx hb dX8_same_0 rfl (lv_at hl 0 rfl) ?_
  refine lv_iload_n hx hb dX8_same_1 rfl (lv_at hl 1 rfl) ?_
  refine lv_aload_n hx hb dX8_same_2 rfl (lv_at hl 0 rfl) ?_
  refine ok_ref F K fX8_13 dX8_same_3 ?_
  refine ok_ref F K fX8_33 dX8_same_6 ?_
  refine lv_iload_n hx hb dX8_same_9 rfl (lv_at hl 2 rfl) ?_
  obtain ⟨v22, hv22, hf⟩ := g_bd hf
  refine ok_iald F K t57 hv22 dX8_same_10 ?_
  refine lv_aload_n hx hb dX8_same_11 rfl (lv_at hl 0 rfl) ?_
  refine ok_ref F K fX8_13 dX8_same_12 ?_
  refine ok_ref F K fX8_41 dX8_same_15 ?_
  refine lv_iload_n hx hb dX8_same_18 rfl (lv_at hl 2 rfl) ?_
  obtain ⟨v23, hv23, hf⟩ := g_bd hf
  refine ok_iald F K t58 hv23 dX8_same_19 ?_
  obtain ⟨u24, hu24, hf⟩ := g_bd hf
  refine ok_callv (rest := []) F K (pX8_begin G hu24) mX8_begin oc8 lX8_50 rfl hl.1 rfl ⟨⟨rfl, rfl⟩, Nat.le_of_ble_eq_true rfl, Nat.le_of_ble_eq_true rfl⟩ (Nat.le_of_ble_eq_true rfl) dX8_same_20 (fun H locs K => ?_)
  exact (pX8_same_L0  B FU).1  u24 _ _ _ hf K (lv_sub hl [0] rfl)
abbrev rmX8_repeats : Room := { frames := 3, cells := 0, slots := 0, locals := 71 }
set_option maxRecDepth 100000 in
set_option maxHeartbeats 4000000 in
theorem pX8_repeats_L0 {p : Program} {l : Launch} {e : Env} {s : State} {m : MethodId} {below : List Frame} {meth : Method} {c : Code} {A : Nat → Prop} {G : Gt} {a0 : Int32} {r : Int32} {u' : St} (B : Bd p s m [.ref (G.1 8), .int a0] meth c yX8_repeats cX8_repeats 5 (some .int)) (n : Nat) : (∀ (x1_ : Int32) (x2_ : Int32) (x3_ : Int32) (u : St) (H : Heap) (locs : List Loc) (ls : Array Slot), fX8_repeats_L0  n 0 x1_ x2_ x3_ u = some (r, u') → Ok 0 76 G A s u H locs → lv_has ls 5 [(0, .ref (G.1 8)), (1, .int x1_), (2, .int x2_), (3, .int x3_)] → W p l e rmX8_repeats s m ([.ref (G.1 8), .int a0] : List Value).toArray below meth c H locs 0 0 (MQ below (Qg 0 76 G A (some (.int r)) u') ([.ref (G.1 8), .int a0] : List Value).toArray s 0 0 A) (F0 m 17 ls [])) ∧ (∀ (x1_ : Int32) (x2_ : Int32) (x3_ : Int32) (u : St) (H : Heap) (locs : List Loc) (ls : Array Slot), fX8_repeats_L0  n 1 x1_ x2_ x3_ u = some (r, u') → Ok 0 76 G A s u H locs → lv_has ls 5 [(0, .ref (G.1 8)), (1, .int x1_), (2, .int x2_), (3, .int x3_)] → W p l e rmX8_repeats s m ([.ref (G.1 8), .int a0] : List Value).toArray below meth c H locs 0 0 (MQ below (Qg 0 76 G A (some (.int r)) u') ([.ref (G.1 8), .int a0] : List Value).toArray s 0 0 A) (F0 m 72 ls [])) := by
  have F := B.1
  have hx := F.1
  have hb := F.2.1
  induction n with
  | zero => exact ⟨fun _ _ _ _ _ _ _ hf => g_no hf, fun _ _ _ _ _ _ _ hf => g_no hf⟩
  | succ n ih =>
    refine ⟨?_, ?_⟩
    · intro x1_ x2_ x3_ u H locs ls hf K hl
      have hf : fX8_repeats_L0_0  (fX8_repeats_L0  n) x1_ x2_ x3_ u = some (r, u') := hf
      unfold fX8_repeats_L0_0 at hf
      refine lv_iload_n hx hb dX8_repeats_17 rfl (lv_at hl 3 rfl) ?_
      refine lv_sipush (v := 150) hx hb dX8_repeats_18 kS_150 ?_
      refine lv_icmp_ge (pc := 21) (tgt := 88) hx hb dX8_repeats_21 (by decide) (fun c1 => ?_) (fun c1 => ?_)
      · have hf := g_pos hf c1
        refine lv_iconst (v := 0) hx hb dX8_repeats_88 kI_0 ?_
        exact ok_reti B K hf dX8_repeats_89
      · have hf := g_neg hf c1
        refine lv_iload_n hx hb dX8_repeats_24 rfl (lv_at hl 2 rfl) ?_
        refine lv_if_lt (pc := 25) (tgt := 88) hx hb dX8_repeats_25 (by decide) (fun c2 => ?_) (fun c2 => ?_)
        · have hf := g_pos hf c2
          refine lv_iconst (v := 0) hx hb dX8_repeats_88 kI_0 ?_
          exact ok_reti B K hf dX8_repeats_89
        · have hf := g_neg hf c2
          refine lv_aload_n hx hb dX8_repeats_28 rfl (lv_at hl 0 rfl) ?_
          refine ok_ref F K fX8_7 dX8_repeats_29 ?_
          refine lv_aload_n hx hb dX8_repeats_32 rfl (lv_at hl 0 rfl) ?_
          refine ok_ref F K fX8_13 dX8_repeats_33 ?_
          refine ok_ref F K fX8_33 dX8_repeats_36 ?_
          refine lv_iload_n hx hb dX8_repeats_39 rfl (lv_at hl 1 rfl) ?_
          obtain ⟨v3, hv3, hf⟩ := g_bd hf
          refine ok_iald F K t57 hv3 dX8_repeats_40 ?_
          refine lv_aload_n hx hb dX8_repeats_41 rfl (lv_at hl 0 rfl) ?_
          refine ok_ref F K fX8_13 dX8_repeats_42 ?_
          refine ok_ref F K fX8_33 dX8_repeats_45 ?_
          refine lv_iload_n hx hb dX8_repeats_48 rfl (lv_at hl 2 rfl) ?_
          obtain ⟨v4, hv4, hf⟩ := g_bd hf
          refine ok_iald F K t57 hv4 dX8_repeats_49 ?_
          obtain ⟨r6, u5, hu5, hf⟩ := g_b2 hf
          refine ok_calli (rest := []) F K (pX4_alike G hu5) mX4_alike oc2 lX8_91 rfl hl.1 rfl ⟨⟨rfl, rfl⟩, Nat.le_of_ble_eq_true rfl, Nat.le_of_ble_eq_true rfl⟩ (Nat.le_of_ble_eq_true rfl) dX8_repeats_50 (fun H locs K => ?_)
          refine lv_if_eq (pc := 53) (tgt := 72) hx hb dX8_repeats_53 (by decide) (fun c7 => ?_) (fun c7 => ?_)
          · have hf := g_pos hf c7
            exact ih.2 x1_ x2_ x3_ u5 _ _ _ hf K (lv_sub hl [0, 1, 2, 3] rfl)
          · have hf := g_neg hf c7
            refine lv_aload_n hx hb dX8_repeats_56 rfl (lv_at hl 0 rfl) ?_
            refine lv_iload_n hx hb dX8_repeats_57 rfl (lv_at hl 1 rfl) ?_
            refine lv_iload_n hx hb dX8_repeats_58 rfl (lv_at hl 2 rfl) ?_
            obtain ⟨r9, u8, hu8, hf⟩ := g_b2 hf
            refine ok_calli (rest := []) F K (pX8_same G hu8) mX8_same oc8 lX8_95 rfl hl.1 rfl ⟨⟨rfl, rfl⟩, Nat.le_of_ble_eq_true rfl, Nat.le_of_ble_eq_true rfl⟩ (Nat.le_of_ble_eq_true rfl) dX8_repeats_59 (fun H locs K => ?_)
            refine lv_istore (lv' := [(4, .int r9), (0, .ref (G.1 8)), (1, .int x1_), (2, .int x2_), (3, .int x3_)]) hx hb dX8_repeats_62 hl (by decide) rfl (fun ls hl => ?_)
            refine lv_iload hx hb dX8_repeats_64 (lv_at hl 0 rfl) ?_
            refine lv_if_eq (pc := 66) (tgt := 72) hx hb dX8_repeats_66 (by decide) (fun c10 => ?_) (fun c10 => ?_)
            · have hf := g_pos hf c10
              exact ih.2 x1_ x2_ x3_ u8 _ _ _ hf K (lv_sub hl [1, 2, 3, 4] rfl)
            · have hf := g_neg hf c10
              refine lv_iload hx hb dX8_repeats_69 (lv_at hl 0 rfl) ?_
              exact ok_reti B K hf dX8_repeats_71
    · intro x1_ x2_ x3_ u H locs ls hf K hl
      have hf : fX8_repeats_L0_1  (fX8_repeats_L0  n) x1_ x2_ x3_ u = some (r, u') := hf
      unfold fX8_repeats_L0_1 at hf
      refine lv_aload_n hx hb dX8_repeats_72 rfl (lv_at hl 0 rfl) ?_
      refine ok_ref F K fX8_13 dX8_repeats_73 ?_
      refine ok_ref F K fX8_88 dX8_repeats_76 ?_
      refine lv_iload_n hx hb dX8_repeats_79 rfl (lv_at hl 2 rfl) ?_
      obtain ⟨v11, hv11, hf⟩ := g_bd hf
      refine ok_iald F K t59 hv11 dX8_repeats_80 ?_
      refine lv_istore_n (lv' := [(2, .int v11), (0, .ref (G.1 8)), (1, .int x1_), (3, .int x3_)]) hx hb dX8_repeats_81 rfl hl (by decide) rfl (fun ls hl => ?_)
      obtain ⟨x12, ex12⟩ : ∃ y : Int32, y = x3_ + 1 := ⟨_, rfl⟩
      have hf := g_lt hf x12 ex12
      refine lv_iinc (v := x12) (lv' := [(3, .int x12), (2, .int v11), (0, .ref (G.1 8)), (1, .int x1_)]) hx hb dX8_repeats_82 hl (k := 3) rfl (by rw [kI_1, ex12]) (by decide) rfl (fun ls hl => ?_)
      refine lv_goto (pc := 85) (tgt := 17) hx hb dX8_repeats_85 (by decide) ?_
      exact ih.1 x1_ v11 x12 u _ _ _ hf K (lv_sub hl [2, 3, 1, 0] rfl)
set_option maxRecDepth 100000 in
set_option maxHeartbeats 4000000 in
theorem pX8_repeats {l : Launch} (G : Gt) {a0 : Int32} {r : Int32} {u u' : St} (hf : fX8_repeats a0 u = some (r, u')) : Ctr 0 76 l yX8_repeats cX8_repeats 5 (some .int) rmX8_repeats [.ref (G.1 8), .int a0] G u (some (.int r)) u' := by
  refine Ctr.mk (by decide) (Nat.le_of_ble_eq_true rfl) (fun p e s m below meth c A ls B K hl => ?_)
  have F := B.1
  have hx := F.1
  have hb := F.2.1
  have hl : lv_has ls 5 [(0, .ref (G.1 8)), (1, .int a0)] := hl
  unfold fX8_repeats at hf
  refine lv_aload_n hx hb dX8_repeats_0 rfl (lv_at hl 0 rfl) ?_
  refine lv_iconst (v := 0) hx hb dX8_repeats_1 kI_0 ?_
  refine ok_putI F K qX8_51 dX8_repeats_2 (fun u13 H locs eu13 K => ?_)
  have hf := g_lt hf u13 eu13
  refine lv_aload_n hx hb dX8_repeats_5 rfl (lv_at hl 0 rfl) ?_
  refine ok_ref F K fX8_13 dX8_repeats_6 ?_
  refine ok_ref F K fX8_88 dX8_repeats_9 ?_
  refine lv_iload_n hx hb dX8_repeats_12 rfl (lv_at hl 1 rfl) ?_
  obtain ⟨v14, hv14, hf⟩ := g_bd hf
  refine ok_iald F K t59 hv14 dX8_repeats_13 ?_
  refine lv_istore_n (lv' := [(2, .int v14), (0, .ref (G.1 8)), (1, .int a0)]) hx hb dX8_repeats_14 rfl hl (by decide) rfl (fun ls hl => ?_)
  refine lv_iconst (v := 0) hx hb dX8_repeats_15 kI_0 ?_
  refine lv_topi (fun x15 ex15 => ?_)
  have hf := g_lt hf x15 ex15
  refine lv_istore_n (lv' := [(3, .int x15), (2, .int v14), (0, .ref (G.1 8)), (1, .int a0)]) hx hb dX8_repeats_16 rfl hl (by decide) rfl (fun ls hl => ?_)
  exact (pX8_repeats_L0  B FU).1 a0 v14 x15 u13 _ _ _ hf K (lv_sub hl [2, 3, 1, 0] rfl)
abbrev rmX3_runLimit : Room := { frames := 4, cells := 0, slots := 0, locals := 97 }
set_option maxRecDepth 100000 in
set_option maxHeartbeats 4000000 in
theorem pX3_runLimit_L0 {p : Program} {l : Launch} {e : Env} {s : State} {m : MethodId} {below : List Frame} {meth : Method} {c : Code} {A : Nat → Prop} {G : Gt} {r : Int32} {u' : St} (B : Bd p s m [.ref (G.1 9)] meth c yX3_runLimit cX3_runLimit 4 (some .int)) (n : Nat) : (∀ (x1_ : Int32) (u : St) (H : Heap) (locs : List Loc) (ls : Array Slot), fX3_runLimit_L0  n 0 x1_ u = some (r, u') → Ok 0 76 G A s u H locs → lv_has ls 4 [(0, .ref (G.1 9)), (1, .int x1_)] → W p l e rmX3_runLimit s m ([.ref (G.1 9)] : List Value).toArray below meth c H locs 0 0 (MQ below (Qg 0 76 G A (some (.int r)) u') ([.ref (G.1 9)] : List Value).toArray s 0 0 A) (F0 m 39 ls [])) := by
  have F := B.1
  have hx := F.1
  have hb := F.2.1
  induction n with
  | zero => exact fun _ _ _ _ _ hf => g_no hf
  | succ n ih =>
    refine ?_
    · intro x1_ u H locs ls hf K hl
      have hf : fX3_runLimit_L0_0  (fX3_runLimit_L0  n) x1_ u = some (r, u') := hf
      unfold fX3_runLimit_L0_0 at hf
      refine lv_iload_n hx hb dX3_runLimit_39 rfl (lv_at hl 1 rfl) ?_
      refine lv_ldc (v := 1000000) hx hb F.2.2.2.1 (F.2.2.2.2 _ kcX3_85) dX3_runLimit_40 ?_
      refine lv_icmp_ge (pc := 42) (tgt := 185) hx hb dX3_runLimit_42 (by decide) (fun c1 => ?_) (fun c1 => ?_)
      · have hf := g_pos hf c1
        refine lv_iconst (v := 3) hx hb dX3_runLimit_185 kI_3 ?_
        exact ok_reti B K hf dX3_runLimit_186
      · have hf := g_neg hf c1
        refine lv_aload_n hx hb dX3_runLimit_45 rfl (lv_at hl 0 rfl) ?_
        refine ok_int F K fX3_68 dX3_runLimit_46 ?_
        refine lv_if_lt (pc := 49) (tgt := 185) hx hb dX3_runLimit_49 (by decide) (fun c2 => ?_) (fun c2 => ?_)
        · have hf := g_pos hf c2
          refine lv_iconst (v := 3) hx hb dX3_runLimit_185 kI_3 ?_
          exact ok_reti B K hf dX3_runLimit_186
        · have hf := g_neg hf c2
          refine lv_aload_n hx hb dX3_runLimit_52 rfl (lv_at hl 0 rfl) ?_
          refine ok_ref F K fX3_36 dX3_runLimit_53 ?_
          refine lv_aload_n hx hb dX3_runLimit_56 rfl (lv_at hl 0 rfl) ?_
          refine ok_ref F K fX3_23 dX3_runLimit_57 ?_
          refine lv_aload_n hx hb dX3_runLimit_60 rfl (lv_at hl 0 rfl) ?_
          refine ok_int F K fX3_68 dX3_runLimit_61 ?_
          obtain ⟨v3, hv3, hf⟩ := g_bd hf
          refine ok_iald F K t68 hv3 dX3_runLimit_64 ?_
          obtain ⟨u4, hu4, hf⟩ := g_bd hf
          refine ok_callv (rest := []) F K (pX5_unbind G hu4) mX5_unbind oc7 lX3_71 rfl hl.1 rfl ⟨⟨rfl, rfl⟩, Nat.le_of_ble_eq_true rfl, Nat.le_of_ble_eq_true rfl⟩ (Nat.le_of_ble_eq_true rfl) dX3_runLimit_65 (fun H locs K => ?_)
          refine lv_aload_n hx hb dX3_runLimit_68 rfl (lv_at hl 0 rfl) ?_
          refine ok_ref F K fX3_36 dX3_runLimit_69 ?_
          refine lv_aload_n hx hb dX3_runLimit_72 rfl (lv_at hl 0 rfl) ?_
          refine ok_ref F K fX3_26 dX3_runLimit_73 ?_
          refine lv_aload_n hx hb dX3_runLimit_76 rfl (lv_at hl 0 rfl) ?_
          refine ok_int F K fX3_68 dX3_runLimit_77 ?_
          obtain ⟨v5, hv5, hf⟩ := g_bd hf
          refine ok_iald F K t69 hv5 dX3_runLimit_80 ?_
          refine ok_putI F K qX3_75 dX3_runLimit_81 (fun u6 H locs eu6 K => ?_)
          have hf := g_lt hf u6 eu6
          refine lv_aload_n hx hb dX3_runLimit_84 rfl (lv_at hl 0 rfl) ?_
          refine ok_ref F K fX3_36 dX3_runLimit_85 ?_
          refine lv_aload_n hx hb dX3_runLimit_88 rfl (lv_at hl 0 rfl) ?_
          refine ok_ref F K fX3_29 dX3_runLimit_89 ?_
          refine lv_aload_n hx hb dX3_runLimit_92 rfl (lv_at hl 0 rfl) ?_
          refine ok_int F K fX3_68 dX3_runLimit_93 ?_
          obtain ⟨v7, hv7, hf⟩ := g_bd hf
          refine ok_iald F K t70 hv7 dX3_runLimit_96 ?_
          refine ok_putI F K qX3_78 dX3_runLimit_97 (fun u8 H locs eu8 K => ?_)
          have hf := g_lt hf u8 eu8
          refine lv_aload_n hx hb dX3_runLimit_100 rfl (lv_at hl 0 rfl) ?_
          obtain ⟨r10, u9, hu9, hf⟩ := g_b2 hf
          refine ok_calli (rest := []) F K (pX3_advance G hu9) mX3_advance oc9 lX3_86 rfl hl.1 rfl ⟨⟨rfl, rfl⟩, Nat.le_of_ble_eq_true rfl, Nat.le_of_ble_eq_true rfl⟩ (Nat.le_of_ble_eq_true rfl) dX3_runLimit_101 (fun H locs K => ?_)
          refine lv_istore_n (lv' := [(2, .int r10), (0, .ref (G.1 9)), (1, .int x1_)]) hx hb dX3_runLimit_104 rfl hl (by decide) rfl (fun ls hl => ?_)
          refine lv_iload_n hx hb dX3_runLimit_105 rfl (lv_at hl 0 rfl) ?_
          refine lv_iconst (v := 3) hx hb dX3_runLimit_106 kI_3 ?_
          refine lv_icmp_ne (pc := 107) (tgt := 123) hx hb dX3_runLimit_107 (by decide) (fun c11 => ?_) (fun c11 => ?_)
          · have hf := g_neg hf c11
            refine lv_iload_n hx hb dX3_runLimit_123 rfl (lv_at hl 0 rfl) ?_
            refine lv_iconst (v := 2) hx hb dX3_runLimit_124 kI_2 ?_
            refine lv_icmp_eq (pc := 125) (tgt := 130) hx hb dX3_runLimit_125 (by decide) (fun c12 => ?_) (fun c12 => ?_)
            · have hf := g_pos hf c12
              refine lv_aload_n hx hb dX3_runLimit_130 rfl (lv_at hl 1 rfl) ?_
              refine ok_int F K fX3_89 dX3_runLimit_131 ?_
              refine lv_if_ge (pc := 134) (tgt := 139) hx hb dX3_runLimit_134 (by decide) (fun c13 => ?_) (fun c13 => ?_)
              · have hf := g_pos hf c13
                refine lv_aload_n hx hb dX3_runLimit_139 rfl (lv_at hl 1 rfl) ?_
                refine ok_ref F K fX3_40 dX3_runLimit_140 ?_
                refine lv_aload_n hx hb dX3_runLimit_143 rfl (lv_at hl 1 rfl) ?_
                refine ok_int F K fX3_89 dX3_runLimit_144 ?_
                obtain ⟨r15, u14, hu14, hf⟩ := g_b2 hf
                refine ok_calli (rest := []) F K (pX8_repeats G hu14) mX8_repeats oc8 lX3_92 rfl hl.1 rfl ⟨⟨rfl, rfl⟩, Nat.le_of_ble_eq_true rfl, Nat.le_of_ble_eq_true rfl⟩ (Nat.le_of_ble_eq_true rfl) dX3_runLimit_147 (fun H locs K => ?_)
                refine lv_istore_n (lv' := [(3, .int r15), (2, .int r10), (0, .ref (G.1 9)), (1, .int x1_)]) hx hb dX3_runLimit_150 rfl hl (by decide) rfl (fun ls hl => ?_)
                refine lv_iload_n hx hb dX3_runLimit_151 rfl (lv_at hl 0 rfl) ?_
                refine lv_iconst (v := 2) hx hb dX3_runLimit_152 kI_2 ?_
                refine lv_icmp_eq (pc := 153) (tgt := 176) hx hb dX3_runLimit_153 (by decide) (fun c16 => ?_) (fun c16 => ?_)
                · have hf := g_pos hf c16
                  refine lv_bipush (v := (-7)) hx hb dX3_runLimit_176 kB_m7 ?_
                  exact ok_reti B K hf dX3_runLimit_178
                · have hf := g_neg hf c16
                  refine lv_iload_n hx hb dX3_runLimit_156 rfl (lv_at hl 0 rfl) ?_
                  refine lv_if_ne (pc := 157) (tgt := 179) hx hb dX3_runLimit_157 (by decide) (fun c17 => ?_) (fun c17 => ?_)
                  · have hf := g_neg hf c17
                    obtain ⟨x18, ex18⟩ : ∃ y : Int32, y = x1_ + 1 := ⟨_, rfl⟩
                    have hf := g_lt hf x18 ex18
                    refine lv_iinc (v := x18) (lv' := [(1, .int x18), (3, .int r15), (2, .int r10), (0, .ref (G.1 9))]) hx hb dX3_runLimit_179 hl (k := 3) rfl (by rw [kI_1, ex18]) (by decide) rfl (fun ls hl => ?_)
                    refine lv_goto (pc := 182) (tgt := 39) hx hb dX3_runLimit_182 (by decide) ?_
                    exact ih x18 u14 _ _ _ hf K (lv_sub hl [3, 0] rfl)
                  · have hf := g_pos hf c17
                    refine lv_aload_n hx hb dX3_runLimit_160 rfl (lv_at hl 2 rfl) ?_
                    refine lv_iconst (v := 2) hx hb dX3_runLimit_161 kI_2 ?_
                    refine lv_aload_n hx hb dX3_runLimit_162 rfl (lv_at hl 2 rfl) ?_
                    refine ok_int F K fX3_89 dX3_runLimit_163 ?_
                    refine lv_aload_n hx hb dX3_runLimit_166 rfl (lv_at hl 2 rfl) ?_
                    refine ok_int F K fX3_89 dX3_runLimit_167 ?_
                    obtain ⟨r20, u19, hu19, hf⟩ := g_b2 hf
                    refine ok_calli (rest := []) F K (pX3_push G hu19) mX3_push oc9 lX3_81 rfl hl.1 rfl ⟨⟨rfl, rfl⟩, Nat.le_of_ble_eq_true rfl, Nat.le_of_ble_eq_true rfl⟩ (Nat.le_of_ble_eq_true rfl) dX3_runLimit_170 (fun H locs K => ?_)
                    refine lv_if_ne (pc := 173) (tgt := 179) hx hb dX3_runLimit_173 (by decide) (fun c21 => ?_) (fun c21 => ?_)
                    · have hf := g_neg hf c21
                      obtain ⟨x22, ex22⟩ : ∃ y : Int32, y = x1_ + 1 := ⟨_, rfl⟩
                      have hf := g_lt hf x22 ex22
                      refine lv_iinc (v := x22) (lv' := [(1, .int x22), (3, .int r15), (2, .int r10), (0, .ref (G.1 9))]) hx hb dX3_runLimit_179 hl (k := 3) rfl (by rw [kI_1, ex22]) (by decide) rfl (fun ls hl => ?_)
                      refine lv_goto (pc := 182) (tgt := 39) hx hb dX3_runLimit_182 (by decide) ?_
                      exact ih x22 u19 _ _ _ hf K (lv_sub hl [3, 0] rfl)
                    · have hf := g_pos hf c21
                      refine lv_bipush (v := (-7)) hx hb dX3_runLimit_176 kB_m7 ?_
                      exact ok_reti B K hf dX3_runLimit_178
              · have hf := g_neg hf c13
                refine lv_iconst (v := 1) hx hb dX3_runLimit_137 kI_1 ?_
                exact ok_reti B K hf dX3_runLimit_138
            · have hf := g_neg hf c12
              refine lv_iload_n hx hb dX3_runLimit_128 rfl (lv_at hl 0 rfl) ?_
              exact ok_reti B K hf dX3_runLimit_129
          · have hf := g_pos hf c11
            refine lv_aload_n hx hb dX3_runLimit_110 rfl (lv_at hl 1 rfl) ?_
            refine lv_dup hx hb dX3_runLimit_111 rfl ?_
            refine ok_int F K fX3_68 dX3_runLimit_112 ?_
            refine lv_iconst (v := 1) hx hb dX3_runLimit_115 kI_1 ?_
            refine lv_isub hx hb dX3_runLimit_116 ?_
            refine ok_putI F K qX3_68 dX3_runLimit_117 (fun u23 H locs eu23 K => ?_)
            have hf := g_lt hf u23 eu23
            refine lv_goto (pc := 120) (tgt := 179) hx hb dX3_runLimit_120 (by decide) ?_
            obtain ⟨x24, ex24⟩ : ∃ y : Int32, y = x1_ + 1 := ⟨_, rfl⟩
            have hf := g_lt hf x24 ex24
            refine lv_iinc (v := x24) (lv' := [(1, .int x24), (2, .int r10), (0, .ref (G.1 9))]) hx hb dX3_runLimit_179 hl (k := 2) rfl (by rw [kI_1, ex24]) (by decide) rfl (fun ls hl => ?_)
            refine lv_goto (pc := 182) (tgt := 39) hx hb dX3_runLimit_182 (by decide) ?_
            exact ih x24 u23 _ _ _ hf K (lv_sub hl [2, 0] rfl)
set_option maxRecDepth 100000 in
set_option maxHeartbeats 4000000 in
theorem pX3_runLimit {l : Launch} (G : Gt) {r : Int32} {u u' : St} (hf : fX3_runLimit u = some (r, u')) : Ctr 0 76 l yX3_runLimit cX3_runLimit 4 (some .int) rmX3_runLimit [.ref (G.1 9)] G u (some (.int r)) u' := by
  refine Ctr.mk (by decide) (Nat.le_of_ble_eq_true rfl) (fun p e s m below meth c A ls B K hl => ?_)
  have F := B.1
  have hx := F.1
  have hb := F.2.1
  have hl : lv_has ls 4 [(0, .ref (G.1 9))] := hl
  unfold fX3_runLimit at hf
  refine lv_aload_n hx hb dX3_runLimit_0 rfl (lv_at hl 0 rfl) ?_
  refine ok_ref F K fX3_36 dX3_runLimit_1 ?_
  refine lv_iconst (v := 0) hx hb dX3_runLimit_4 kI_0 ?_
  obtain ⟨u25, hu25, hf⟩ := g_bd hf
  refine ok_callv (rest := []) F K (pX5_unbind G hu25) mX5_unbind oc7 lX3_71 rfl hl.1 rfl ⟨⟨rfl, rfl⟩, Nat.le_of_ble_eq_true rfl, Nat.le_of_ble_eq_true rfl⟩ (Nat.le_of_ble_eq_true rfl) dX3_runLimit_5 (fun H locs K => ?_)
  refine lv_aload_n hx hb dX3_runLimit_8 rfl (lv_at hl 0 rfl) ?_
  refine ok_ref F K fX3_36 dX3_runLimit_9 ?_
  refine lv_iconst (v := 0) hx hb dX3_runLimit_12 kI_0 ?_
  refine ok_putI F K qX3_75 dX3_runLimit_13 (fun u26 H locs eu26 K => ?_)
  have hf := g_lt hf u26 eu26
  refine lv_aload_n hx hb dX3_runLimit_16 rfl (lv_at hl 0 rfl) ?_
  refine ok_ref F K fX3_36 dX3_runLimit_17 ?_
  refine lv_iconst (v := 0) hx hb dX3_runLimit_20 kI_0 ?_
  refine ok_putI F K qX3_78 dX3_runLimit_21 (fun u27 H locs eu27 K => ?_)
  have hf := g_lt hf u27 eu27
  refine lv_aload_n hx hb dX3_runLimit_24 rfl (lv_at hl 0 rfl) ?_
  refine lv_iconst (v := (-1)) hx hb dX3_runLimit_25 kI_m1 ?_
  refine ok_putI F K qX3_68 dX3_runLimit_26 (fun u28 H locs eu28 K => ?_)
  have hf := g_lt hf u28 eu28
  refine lv_aload_n hx hb dX3_runLimit_29 rfl (lv_at hl 0 rfl) ?_
  refine lv_iconst (v := 0) hx hb dX3_runLimit_30 kI_0 ?_
  refine lv_iconst (v := (-1)) hx hb dX3_runLimit_31 kI_m1 ?_
  refine lv_iconst (v := (-1)) hx hb dX3_runLimit_32 kI_m1 ?_
  obtain ⟨r30, u29, hu29, hf⟩ := g_b2 hf
  refine ok_calli (rest := []) F K (pX3_push G hu29) mX3_push oc9 lX3_81 rfl hl.1 rfl ⟨⟨rfl, rfl⟩, Nat.le_of_ble_eq_true rfl, Nat.le_of_ble_eq_true rfl⟩ (Nat.le_of_ble_eq_true rfl) dX3_runLimit_33 (fun H locs K => ?_)
  refine lv_pop hx hb dX3_runLimit_36 rfl ?_
  refine lv_iconst (v := 0) hx hb dX3_runLimit_37 kI_0 ?_
  refine lv_topi (fun x31 ex31 => ?_)
  have hf := g_lt hf x31 ex31
  refine lv_istore_n (lv' := [(1, .int x31), (0, .ref (G.1 9))]) hx hb dX3_runLimit_38 rfl hl (by decide) rfl (fun ls hl => ?_)
  exact (pX3_runLimit_L0  B FU) x31 u29 _ _ _ hf K (lv_sub hl [1, 0] rfl)
abbrev rmX3_run : Room := { frames := 5, cells := 0, slots := 0, locals := 120 }
set_option maxRecDepth 100000 in
set_option maxHeartbeats 4000000 in
theorem pX3_run_L0 {p : Program} {l : Launch} {e : Env} {s : State} {m : MethodId} {below : List Frame} {meth : Method} {c : Code} {A : Nat → Prop} {G : Gt} {a0 : Int32} {a1 : Int32} {r : Int32} {u' : St} (B : Bd p s m [.ref (G.1 9), .int a0, .int a1] meth c yX3_run cX3_run 4 (some .int)) (n : Nat) : (∀ (x1_ : Int32) (u : St) (H : Heap) (locs : List Loc) (ls : Array Slot), fX3_run_L0  n 0 x1_ 0 u = some (r, u') → Ok 0 76 G A s u H locs → lv_has ls 4 [(0, .ref (G.1 9)), (1, .int x1_)] → W p l e rmX3_run s m ([.ref (G.1 9), .int a0, .int a1] : List Value).toArray below meth c H locs 0 0 (MQ below (Qg 0 76 G A (some (.int r)) u') ([.ref (G.1 9), .int a0, .int a1] : List Value).toArray s 0 0 A) (F0 m 14 ls [])) ∧ (∀ (x1_ : Int32) (x3_ : Int32) (u : St) (H : Heap) (locs : List Loc) (ls : Array Slot), fX3_run_L0  n 1 x1_ x3_ u = some (r, u') → Ok 0 76 G A s u H locs → lv_has ls 4 [(0, .ref (G.1 9)), (1, .int x1_), (3, .int x3_)] → W p l e rmX3_run s m ([.ref (G.1 9), .int a0, .int a1] : List Value).toArray below meth c H locs 0 0 (MQ below (Qg 0 76 G A (some (.int r)) u') ([.ref (G.1 9), .int a0, .int a1] : List Value).toArray s 0 0 A) (F0 m 47 ls [])) := by
  have F := B.1
  have hx := F.1
  have hb := F.2.1
  induction n with
  | zero => exact ⟨fun _ _ _ _ _ hf => g_no hf, fun _ _ _ _ _ _ hf => g_no hf⟩
  | succ n ih =>
    refine ⟨?_, ?_⟩
    · intro x1_ u H locs ls hf K hl
      have hf : fX3_run_L0_0  (fX3_run_L0  n) x1_ u = some (r, u') := hf
      unfold fX3_run_L0_0 at hf
      refine lv_aload_n hx hb dX3_run_14 rfl (lv_at hl 0 rfl) ?_
      refine ok_int F K fX3_48 dX3_run_15 ?_
      refine lv_iload_n hx hb dX3_run_18 rfl (lv_at hl 1 rfl) ?_
      refine lv_icmp_gt (pc := 19) (tgt := 76) hx hb dX3_run_19 (by decide) (fun c1 => ?_) (fun c1 => ?_)
      · have hf := g_pos hf c1
        refine lv_aload_n hx hb dX3_run_76 rfl (lv_at hl 0 rfl) ?_
        refine lv_iload_n hx hb dX3_run_77 rfl (lv_at hl 1 rfl) ?_
        refine ok_putI F K qX3_48 dX3_run_78 (fun u2 H locs eu2 K => ?_)
        have hf := g_lt hf u2 eu2
        refine lv_bipush (v := (-5)) hx hb dX3_run_81 kB_m5 ?_
        exact ok_reti B K hf dX3_run_83
      · have hf := g_neg hf c1
        refine lv_aload_n hx hb dX3_run_22 rfl (lv_at hl 0 rfl) ?_
        refine lv_iconst (v := 0) hx hb dX3_run_23 kI_0 ?_
        refine ok_putZ F K qX3_60 (Or.inl rfl) dX3_run_24 (fun u3 H locs eu3 K => ?_)
        have hf := g_lt hf u3 eu3
        refine lv_aload_n hx hb dX3_run_27 rfl (lv_at hl 0 rfl) ?_
        obtain ⟨r5, u4, hu4, hf⟩ := g_b2 hf
        refine ok_calli (rest := []) F K (pX3_runLimit G hu4) mX3_runLimit oc9 lX3_64 rfl hl.1 rfl ⟨⟨rfl, rfl⟩, Nat.le_of_ble_eq_true rfl, Nat.le_of_ble_eq_true rfl⟩ (Nat.le_of_ble_eq_true rfl) dX3_run_28 (fun H locs K => ?_)
        refine lv_istore_n (lv' := [(3, .int r5), (0, .ref (G.1 9)), (1, .int x1_)]) hx hb dX3_run_31 rfl hl (by decide) rfl (fun ls hl => ?_)
        refine lv_iload_n hx hb dX3_run_32 rfl (lv_at hl 0 rfl) ?_
        refine lv_iconst (v := 1) hx hb dX3_run_33 kI_1 ?_
        refine lv_icmp_ne (pc := 34) (tgt := 47) hx hb dX3_run_34 (by decide) (fun c6 => ?_) (fun c6 => ?_)
        · have hf := g_neg hf c6
          exact ih.2 x1_ r5 u4 _ _ _ hf K (lv_sub hl [1, 2, 0] rfl)
        · have hf := g_pos hf c6
          refine lv_aload_n hx hb dX3_run_37 rfl (lv_at hl 1 rfl) ?_
          refine lv_aload_n hx hb dX3_run_38 rfl (lv_at hl 1 rfl) ?_
          refine ok_int F K fX3_68 dX3_run_39 ?_
          refine lv_iconst (v := 1) hx hb dX3_run_42 kI_1 ?_
          refine lv_iadd hx hb dX3_run_43 ?_
          refine ok_putI F K qX3_51 dX3_run_44 (fun u7 H locs eu7 K => ?_)
          have hf := g_lt hf u7 eu7
          exact ih.2 x1_ r5 u7 _ _ _ hf K (lv_sub hl [1, 2, 0] rfl)
    · intro x1_ x3_ u H locs ls hf K hl
      have hf : fX3_run_L0_1  (fX3_run_L0  n) x1_ x3_ u = some (r, u') := hf
      unfold fX3_run_L0_1 at hf
      refine lv_iload_n hx hb dX3_run_47 rfl (lv_at hl 2 rfl) ?_
      refine lv_iconst (v := 3) hx hb dX3_run_48 kI_3 ?_
      refine lv_icmp_eq (pc := 49) (tgt := 54) hx hb dX3_run_49 (by decide) (fun c8 => ?_) (fun c8 => ?_)
      · have hf := g_pos hf c8
        refine lv_aload_n hx hb dX3_run_54 rfl (lv_at hl 0 rfl) ?_
        refine ok_int F K fX3_60 dX3_run_55 ?_
        refine lv_if_ne (pc := 58) (tgt := 63) hx hb dX3_run_58 (by decide) (fun c9 => ?_) (fun c9 => ?_)
        · have hf := g_neg hf c9
          refine lv_aload_n hx hb dX3_run_63 rfl (lv_at hl 0 rfl) ?_
          refine lv_dup hx hb dX3_run_64 rfl ?_
          refine ok_int F K fX3_48 dX3_run_65 ?_
          refine lv_iconst (v := 1) hx hb dX3_run_68 kI_1 ?_
          refine lv_iadd hx hb dX3_run_69 ?_
          refine ok_putI F K qX3_48 dX3_run_70 (fun u10 H locs eu10 K => ?_)
          have hf := g_lt hf u10 eu10
          refine lv_goto (pc := 73) (tgt := 14) hx hb dX3_run_73 (by decide) ?_
          exact ih.1 x1_ u10 _ _ _ hf K (lv_sub hl [0, 1] rfl)
        · have hf := g_pos hf c9
          refine lv_iconst (v := 0) hx hb dX3_run_61 kI_0 ?_
          exact ok_reti B K hf dX3_run_62
      · have hf := g_neg hf c8
        refine lv_iload_n hx hb dX3_run_52 rfl (lv_at hl 2 rfl) ?_
        exact ok_reti B K hf dX3_run_53
set_option maxRecDepth 100000 in
set_option maxHeartbeats 4000000 in
theorem pX3_run {l : Launch} (G : Gt) {a0 : Int32} {a1 : Int32} {r : Int32} {u u' : St} (hf : fX3_run a0 a1 u = some (r, u')) : Ctr 0 76 l yX3_run cX3_run 4 (some .int) rmX3_run [.ref (G.1 9), .int a0, .int a1] G u (some (.int r)) u' := by
  refine Ctr.mk (by decide) (Nat.le_of_ble_eq_true rfl) (fun p e s m below meth c A ls B K hl => ?_)
  have F := B.1
  have hx := F.1
  have hb := F.2.1
  have hl : lv_has ls 4 [(0, .ref (G.1 9)), (1, .int a0), (2, .int a1)] := hl
  unfold fX3_run at hf
  refine lv_aload_n hx hb dX3_run_0 rfl (lv_at hl 0 rfl) ?_
  obtain ⟨u11, hu11, hf⟩ := g_bd hf
  refine ok_callv (rest := []) F K (pX3_forget G hu11) mX3_forget oc9 lX3_54 rfl hl.1 rfl ⟨⟨rfl, rfl⟩, Nat.le_of_ble_eq_true rfl, Nat.le_of_ble_eq_true rfl⟩ (Nat.le_of_ble_eq_true rfl) dX3_run_1 (fun H locs K => ?_)
  refine lv_aload_n hx hb dX3_run_4 rfl (lv_at hl 0 rfl) ?_
  refine lv_iload_n hx hb dX3_run_5 rfl (lv_at hl 2 rfl) ?_
  refine ok_putI F K qX3_57 dX3_run_6 (fun u12 H locs eu12 K => ?_)
  have hf := g_lt hf u12 eu12
  refine lv_aload_n hx hb dX3_run_9 rfl (lv_at hl 0 rfl) ?_
  refine lv_iconst (v := 1) hx hb dX3_run_10 kI_1 ?_
  refine ok_putI F K qX3_48 dX3_run_11 (fun u13 H locs eu13 K => ?_)
  have hf := g_lt hf u13 eu13
  exact (pX3_run_L0  B FU).1 a0 u13 _ _ _ hf K (lv_sub hl [0, 1] rfl)
abbrev rmX11_search : Room := { frames := 6, cells := 0, slots := 0, locals := 143 }
set_option maxRecDepth 100000 in
set_option maxHeartbeats 4000000 in
theorem pX11_search {l : Launch} (G : Gt) {a0 : Int32} {a1 : Int32} {r : Int32} {u u' : St} (hf : fX11_search a0 a1 u = some (r, u')) : Ctr 0 76 l yX11_search cX11_search 3 (some .int) rmX11_search [.ref (G.1 0), .int a0, .int a1] G u (some (.int r)) u' := by
  refine Ctr.mk (by decide) (Nat.le_of_ble_eq_true rfl) (fun p e s m below meth c A ls B K hl => ?_)
  have F := B.1
  have hx := F.1
  have hb := F.2.1
  have hl : lv_has ls 3 [(0, .ref (G.1 0)), (1, .int a0), (2, .int a1)] := hl
  unfold fX11_search at hf
  refine lv_iload_n hx hb dX11_search_0 rfl (lv_at hl 1 rfl) ?_
  refine lv_iconst (v := 1) hx hb dX11_search_1 kI_1 ?_
  refine lv_icmp_lt (pc := 2) (tgt := 22) hx hb dX11_search_2 (by decide) (fun c1 => ?_) (fun c1 => ?_)
  · have hf := g_pos hf c1
    refine lv_bipush (v := (-2)) hx hb dX11_search_22 kB_m2 ?_
    exact ok_reti B K hf dX11_search_24
  · have hf := g_neg hf c1
    refine lv_iload_n hx hb dX11_search_5 rfl (lv_at hl 1 rfl) ?_
    refine lv_bipush (v := 20) hx hb dX11_search_6 kB_20 ?_
    refine lv_icmp_gt (pc := 8) (tgt := 22) hx hb dX11_search_8 (by decide) (fun c2 => ?_) (fun c2 => ?_)
    · have hf := g_pos hf c2
      refine lv_bipush (v := (-2)) hx hb dX11_search_22 kB_m2 ?_
      exact ok_reti B K hf dX11_search_24
    · have hf := g_neg hf c2
      refine lv_iload_n hx hb dX11_search_11 rfl (lv_at hl 2 rfl) ?_
      refine lv_if_lt (pc := 12) (tgt := 22) hx hb dX11_search_12 (by decide) (fun c3 => ?_) (fun c3 => ?_)
      · have hf := g_pos hf c3
        refine lv_bipush (v := (-2)) hx hb dX11_search_22 kB_m2 ?_
        exact ok_reti B K hf dX11_search_24
      · have hf := g_neg hf c3
        refine lv_iload_n hx hb dX11_search_15 rfl (lv_at hl 2 rfl) ?_
        refine lv_sipush (v := 20000) hx hb dX11_search_16 kS_20000 ?_
        refine lv_icmp_le (pc := 19) (tgt := 25) hx hb dX11_search_19 (by decide) (fun c4 => ?_) (fun c4 => ?_)
        · have hf := g_pos hf c4
          refine lv_aload_n hx hb dX11_search_25 rfl (lv_at hl 0 rfl) ?_
          refine ok_ref F K fX11_71 dX11_search_26 ?_
          refine lv_iload_n hx hb dX11_search_29 rfl (lv_at hl 1 rfl) ?_
          refine lv_iload_n hx hb dX11_search_30 rfl (lv_at hl 2 rfl) ?_
          obtain ⟨r6, u5, hu5, hf⟩ := g_b2 hf
          refine ok_calli (rest := []) F K (pX3_run G hu5) mX3_run oc9 lX11_165 rfl hl.1 rfl ⟨⟨rfl, rfl⟩, Nat.le_of_ble_eq_true rfl, Nat.le_of_ble_eq_true rfl⟩ (Nat.le_of_ble_eq_true rfl) dX11_search_31 (fun H locs K => ?_)
          exact ok_reti B K hf dX11_search_34
        · have hf := g_neg hf c4
          refine lv_bipush (v := (-2)) hx hb dX11_search_22 kB_m2 ?_
          exact ok_reti B K hf dX11_search_24
abbrev rmX3_goalSource : Room := { frames := 0, cells := 0, slots := 0, locals := 0 }
set_option maxRecDepth 100000 in
set_option maxHeartbeats 4000000 in
theorem pX3_goalSource {l : Launch} (G : Gt) {a0 : Int32} {r : Int32} {u u' : St} (hf : fX3_goalSource a0 u = some (r, u')) : Ctr 0 76 l yX3_goalSource cX3_goalSource 2 (some .int) rmX3_goalSource [.ref (G.1 9), .int a0] G u (some (.int r)) u' := by
  refine Ctr.mk (by decide) (Nat.le_of_ble_eq_true rfl) (fun p e s m below meth c A ls B K hl => ?_)
  have F := B.1
  have hx := F.1
  have hb := F.2.1
  have hl : lv_has ls 2 [(0, .ref (G.1 9)), (1, .int a0)] := hl
  unfold fX3_goalSource at hf
  refine lv_aload_n hx hb dX3_goalSource_0 rfl (lv_at hl 0 rfl) ?_
  refine ok_ref F K fX3_13 dX3_goalSource_1 ?_
  refine lv_iload_n hx hb dX3_goalSource_4 rfl (lv_at hl 1 rfl) ?_
  obtain ⟨v1, hv1, hf⟩ := g_bd hf
  refine ok_iald F K t65 hv1 dX3_goalSource_5 ?_
  refine lv_if_ne (pc := 6) (tgt := 13) hx hb dX3_goalSource_6 (by decide) (fun c2 => ?_) (fun c2 => ?_)
  · have hf := g_neg hf c2
    refine lv_aload_n hx hb dX3_goalSource_13 rfl (lv_at hl 0 rfl) ?_
    refine ok_ref F K fX3_36 dX3_goalSource_14 ?_
    refine ok_ref F K fX3_105 dX3_goalSource_17 ?_
    refine lv_aload_n hx hb dX3_goalSource_20 rfl (lv_at hl 0 rfl) ?_
    refine ok_ref F K fX3_17 dX3_goalSource_21 ?_
    refine lv_iload_n hx hb dX3_goalSource_24 rfl (lv_at hl 1 rfl) ?_
    obtain ⟨v3, hv3, hf⟩ := g_bd hf
    refine ok_iald F K t66 hv3 dX3_goalSource_25 ?_
    obtain ⟨v4, hv4, hf⟩ := g_bd hf
    refine ok_iald F K t57 hv4 dX3_goalSource_26 ?_
    exact ok_reti B K hf dX3_goalSource_27
  · have hf := g_pos hf c2
    refine lv_iconst (v := 0) hx hb dX3_goalSource_9 kI_0 ?_
    refine lv_goto (pc := 10) (tgt := 27) hx hb dX3_goalSource_10 (by decide) ?_
    exact ok_reti B K hf dX3_goalSource_27
abbrev rmX3_goalBase : Room := { frames := 0, cells := 0, slots := 0, locals := 0 }
set_option maxRecDepth 100000 in
set_option maxHeartbeats 4000000 in
theorem pX3_goalBase {l : Launch} (G : Gt) {a0 : Int32} {r : Int32} {u u' : St} (hf : fX3_goalBase a0 u = some (r, u')) : Ctr 0 76 l yX3_goalBase cX3_goalBase 2 (some .int) rmX3_goalBase [.ref (G.1 9), .int a0] G u (some (.int r)) u' := by
  refine Ctr.mk (by decide) (Nat.le_of_ble_eq_true rfl) (fun p e s m below meth c A ls B K hl => ?_)
  have F := B.1
  have hx := F.1
  have hb := F.2.1
  have hl : lv_has ls 2 [(0, .ref (G.1 9)), (1, .int a0)] := hl
  unfold fX3_goalBase at hf
  refine lv_aload_n hx hb dX3_goalBase_0 rfl (lv_at hl 0 rfl) ?_
  refine ok_ref F K fX3_13 dX3_goalBase_1 ?_
  refine lv_iload_n hx hb dX3_goalBase_4 rfl (lv_at hl 1 rfl) ?_
  obtain ⟨v1, hv1, hf⟩ := g_bd hf
  refine ok_iald F K t65 hv1 dX3_goalBase_5 ?_
  refine lv_if_ne (pc := 6) (tgt := 13) hx hb dX3_goalBase_6 (by decide) (fun c2 => ?_) (fun c2 => ?_)
  · have hf := g_neg hf c2
    refine lv_aload_n hx hb dX3_goalBase_13 rfl (lv_at hl 0 rfl) ?_
    refine ok_ref F K fX3_36 dX3_goalBase_14 ?_
    refine ok_ref F K fX3_108 dX3_goalBase_17 ?_
    refine lv_aload_n hx hb dX3_goalBase_20 rfl (lv_at hl 0 rfl) ?_
    refine ok_ref F K fX3_17 dX3_goalBase_21 ?_
    refine lv_iload_n hx hb dX3_goalBase_24 rfl (lv_at hl 1 rfl) ?_
    obtain ⟨v3, hv3, hf⟩ := g_bd hf
    refine ok_iald F K t66 hv3 dX3_goalBase_25 ?_
    obtain ⟨v4, hv4, hf⟩ := g_bd hf
    refine ok_iald F K t58 hv4 dX3_goalBase_26 ?_
    exact ok_reti B K hf dX3_goalBase_27
  · have hf := g_pos hf c2
    refine lv_iconst (v := 0) hx hb dX3_goalBase_9 kI_0 ?_
    refine lv_goto (pc := 10) (tgt := 27) hx hb dX3_goalBase_10 (by decide) ?_
    exact ok_reti B K hf dX3_goalBase_27
abbrev rmX11_show : Room := { frames := 5, cells := 0, slots := 0, locals := 116 }
set_option maxRecDepth 100000 in
set_option maxHeartbeats 4000000 in
theorem pX11_show {l : Launch} (G : Gt) {a0 : Int32} {r : Int32} {u u' : St} (hf : fX11_show a0 u = some (r, u')) : Ctr 0 76 l yX11_show cX11_show 2 (some .int) rmX11_show [.ref (G.1 0), .int a0] G u (some (.int r)) u' := by
  refine Ctr.mk (by decide) (Nat.le_of_ble_eq_true rfl) (fun p e s m below meth c A ls B K hl => ?_)
  have F := B.1
  have hx := F.1
  have hb := F.2.1
  have hl : lv_has ls 2 [(0, .ref (G.1 0)), (1, .int a0)] := hl
  unfold fX11_show at hf
  refine lv_iload_n hx hb dX11_show_0 rfl (lv_at hl 1 rfl) ?_
  refine lv_if_lt (pc := 1) (tgt := 15) hx hb dX11_show_1 (by decide) (fun c1 => ?_) (fun c1 => ?_)
  · have hf := g_pos hf c1
    refine lv_iconst (v := (-1)) hx hb dX11_show_15 kI_m1 ?_
    exact ok_reti B K hf dX11_show_16
  · have hf := g_neg hf c1
    refine lv_iload_n hx hb dX11_show_4 rfl (lv_at hl 1 rfl) ?_
    refine lv_aload_n hx hb dX11_show_5 rfl (lv_at hl 0 rfl) ?_
    refine ok_ref F K fX11_71 dX11_show_6 ?_
    refine ok_int F K fX11_175 dX11_show_9 ?_
    refine lv_icmp_lt (pc := 12) (tgt := 17) hx hb dX11_show_12 (by decide) (fun c2 => ?_) (fun c2 => ?_)
    · have hf := g_pos hf c2
      refine lv_aload_n hx hb dX11_show_17 rfl (lv_at hl 0 rfl) ?_
      refine ok_ref F K fX11_80 dX11_show_18 ?_
      obtain ⟨u3, hu3, hf⟩ := g_bd hf
      refine ok_callv (rest := []) F K (pX1_begin G hu3) mX1_begin oc10 lX11_153 rfl hl.1 rfl ⟨⟨rfl, rfl⟩, Nat.le_of_ble_eq_true rfl, Nat.le_of_ble_eq_true rfl⟩ (Nat.le_of_ble_eq_true rfl) dX11_show_21 (fun H locs K => ?_)
      refine lv_iload_n hx hb dX11_show_24 rfl (lv_at hl 1 rfl) ?_
      refine lv_if_ne (pc := 25) (tgt := 47) hx hb dX11_show_25 (by decide) (fun c4 => ?_) (fun c4 => ?_)
      · have hf := g_neg hf c4
        refine lv_aload_n hx hb dX11_show_47 rfl (lv_at hl 0 rfl) ?_
        refine ok_ref F K fX11_80 dX11_show_48 ?_
        refine lv_aload_n hx hb dX11_show_51 rfl (lv_at hl 0 rfl) ?_
        refine ok_ref F K fX11_71 dX11_show_52 ?_
        refine lv_iload_n hx hb dX11_show_55 rfl (lv_at hl 1 rfl) ?_
        obtain ⟨r6, u5, hu5, hf⟩ := g_b2 hf
        refine ok_calli (rest := [.ref (G.1 10)]) F K (pX3_goalSource G hu5) mX3_goalSource oc9 lX11_191 rfl hl.1 rfl ⟨⟨rfl, rfl⟩, Nat.le_of_ble_eq_true rfl, Nat.le_of_ble_eq_true rfl⟩ (Nat.le_of_ble_eq_true rfl) dX11_show_56 (fun H locs K => ?_)
        refine lv_aload_n hx hb dX11_show_59 rfl (lv_at hl 0 rfl) ?_
        refine ok_ref F K fX11_71 dX11_show_60 ?_
        refine lv_iload_n hx hb dX11_show_63 rfl (lv_at hl 1 rfl) ?_
        obtain ⟨r8, u7, hu7, hf⟩ := g_b2 hf
        refine ok_calli (rest := [.int r6, .ref (G.1 10)]) F K (pX3_goalBase G hu7) mX3_goalBase oc9 lX11_194 rfl hl.1 rfl ⟨⟨rfl, rfl⟩, Nat.le_of_ble_eq_true rfl, Nat.le_of_ble_eq_true rfl⟩ (Nat.le_of_ble_eq_true rfl) dX11_show_64 (fun H locs K => ?_)
        obtain ⟨u9, hu9, hf⟩ := g_bd hf
        refine ok_callv (rest := []) F K (pX1_literal G hu9) mX1_literal oc10 lX11_197 rfl hl.1 rfl ⟨⟨rfl, rfl⟩, Nat.le_of_ble_eq_true rfl, Nat.le_of_ble_eq_true rfl⟩ (Nat.le_of_ble_eq_true rfl) dX11_show_67 (fun H locs K => ?_)
        refine lv_aload_n hx hb dX11_show_70 rfl (lv_at hl 0 rfl) ?_
        refine ok_ref F K fX11_80 dX11_show_71 ?_
        obtain ⟨r11, u10, hu10, hf⟩ := g_b2 hf
        refine ok_calli (rest := []) F K (pX1_finish G hu10) mX1_finish oc10 lX11_157 rfl hl.1 rfl ⟨⟨rfl, rfl⟩, Nat.le_of_ble_eq_true rfl, Nat.le_of_ble_eq_true rfl⟩ (Nat.le_of_ble_eq_true rfl) dX11_show_74 (fun H locs K => ?_)
        exact ok_reti B K hf dX11_show_77
      · have hf := g_pos hf c4
        refine lv_aload_n hx hb dX11_show_28 rfl (lv_at hl 0 rfl) ?_
        refine ok_ref F K fX11_80 dX11_show_29 ?_
        refine lv_aload_n hx hb dX11_show_32 rfl (lv_at hl 0 rfl) ?_
        refine ok_ref F K fX11_71 dX11_show_33 ?_
        refine lv_iconst (v := 0) hx hb dX11_show_36 kI_0 ?_
        obtain ⟨r13, u12, hu12, hf⟩ := g_b2 hf
        refine ok_calli (rest := [.ref (G.1 10)]) F K (pX3_rowOf G hu12) mX3_rowOf oc9 lX11_181 rfl hl.1 rfl ⟨⟨rfl, rfl⟩, Nat.le_of_ble_eq_true rfl, Nat.le_of_ble_eq_true rfl⟩ (Nat.le_of_ble_eq_true rfl) dX11_show_37 (fun H locs K => ?_)
        refine lv_iconst (v := 0) hx hb dX11_show_40 kI_0 ?_
        obtain ⟨u14, hu14, hf⟩ := g_bd hf
        refine ok_callv (rest := []) F K (pX1_row G hu14) mX1_row oc10 lX11_154 rfl hl.1 rfl ⟨⟨rfl, rfl⟩, Nat.le_of_ble_eq_true rfl, Nat.le_of_ble_eq_true rfl⟩ (Nat.le_of_ble_eq_true rfl) dX11_show_41 (fun H locs K => ?_)
        refine lv_goto (pc := 44) (tgt := 70) hx hb dX11_show_44 (by decide) ?_
        refine lv_aload_n hx hb dX11_show_70 rfl (lv_at hl 0 rfl) ?_
        refine ok_ref F K fX11_80 dX11_show_71 ?_
        obtain ⟨r16, u15, hu15, hf⟩ := g_b2 hf
        refine ok_calli (rest := []) F K (pX1_finish G hu15) mX1_finish oc10 lX11_157 rfl hl.1 rfl ⟨⟨rfl, rfl⟩, Nat.le_of_ble_eq_true rfl, Nat.le_of_ble_eq_true rfl⟩ (Nat.le_of_ble_eq_true rfl) dX11_show_74 (fun H locs K => ?_)
        exact ok_reti B K hf dX11_show_77
    · have hf := g_neg hf c2
      refine lv_iconst (v := (-1)) hx hb dX11_show_15 kI_m1 ?_
      exact ok_reti B K hf dX11_show_16
abbrev rmX11_told : Room := { frames := 0, cells := 0, slots := 0, locals := 0 }
set_option maxRecDepth 100000 in
set_option maxHeartbeats 4000000 in
theorem pX11_told {l : Launch} (G : Gt) {a0 : Int32} {r : Int32} {u u' : St} (hf : fX11_told a0 u = some (r, u')) : Ctr 0 76 l yX11_told cX11_told 2 (some .int) rmX11_told [.ref (G.1 0), .int a0] G u (some (.int r)) u' := by
  refine Ctr.mk (by decide) (Nat.le_of_ble_eq_true rfl) (fun p e s m below meth c A ls B K hl => ?_)
  have F := B.1
  have hx := F.1
  have hb := F.2.1
  have hl : lv_has ls 2 [(0, .ref (G.1 0)), (1, .int a0)] := hl
  unfold fX11_told at hf
  refine lv_iload_n hx hb dX11_told_0 rfl (lv_at hl 1 rfl) ?_
  by_cases c1 : a0 = 0
  · have hf := g_pos hf c1
    refine lv_tableInE (pc := 1) (K := 0) (off := 27) (tgt := 28) hx hb dX11_told_1 c1 (by decide) (by decide) rfl (by decide) ?_
    refine lv_aload_n hx hb dX11_told_28 rfl (lv_at hl 0 rfl) ?_
    refine ok_ref F K fX11_71 dX11_told_29 ?_
    refine ok_int F K fX11_169 dX11_told_32 ?_
    exact ok_reti B K hf dX11_told_35
  · have hf := g_neg hf c1
    by_cases c2 : a0 = 1
    · have hf := g_pos hf c2
      refine lv_tableInE (pc := 1) (K := 1) (off := 35) (tgt := 36) hx hb dX11_told_1 c2 (by decide) (by decide) rfl (by decide) ?_
      refine lv_aload_n hx hb dX11_told_36 rfl (lv_at hl 0 rfl) ?_
      refine ok_ref F K fX11_71 dX11_told_37 ?_
      refine ok_int F K fX11_172 dX11_told_40 ?_
      exact ok_reti B K hf dX11_told_43
    · have hf := g_neg hf c2
      by_cases c3 : a0 = 2
      · have hf := g_pos hf c3
        refine lv_tableInE (pc := 1) (K := 2) (off := 43) (tgt := 44) hx hb dX11_told_1 c3 (by decide) (by decide) rfl (by decide) ?_
        refine lv_aload_n hx hb dX11_told_44 rfl (lv_at hl 0 rfl) ?_
        refine ok_ref F K fX11_71 dX11_told_45 ?_
        refine ok_int F K fX11_175 dX11_told_48 ?_
        exact ok_reti B K hf dX11_told_51
      · have hf := g_neg hf c3
        refine lv_tableOut (pc := 1) (tgt := 52) hx hb dX11_told_1 (sw_out a0 0 2 (fun k h1 h2 => by have h3 : k = 0 ∨ k = 1 ∨ k = 2 := (by omega); rcases h3 with rfl | rfl | rfl <;> simp only [kI_0, kI_1, kI_2] <;> assumption)) (by decide) ?_
        refine lv_bipush (v := (-2)) hx hb dX11_told_52 kB_m2 ?_
        exact ok_reti B K hf dX11_told_54
abbrev rmX11_write : Room := { frames := 5, cells := 0, slots := 0, locals := 116 }
set_option maxRecDepth 100000 in
set_option maxHeartbeats 4000000 in
theorem pX11_write {l : Launch} (G : Gt) {a0 : Int32} {r : Int32} {u u' : St} (hf : fX11_write a0 u = some (r, u')) : Ctr 0 76 l yX11_write cX11_write 2 (some .int) rmX11_write [.ref (G.1 0), .int a0] G u (some (.int r)) u' := by
  refine Ctr.mk (by decide) (Nat.le_of_ble_eq_true rfl) (fun p e s m below meth c A ls B K hl => ?_)
  have F := B.1
  have hx := F.1
  have hb := F.2.1
  have hl : lv_has ls 2 [(0, .ref (G.1 0)), (1, .int a0)] := hl
  unfold fX11_write at hf
  refine lv_aload_n hx hb dX11_write_0 rfl (lv_at hl 0 rfl) ?_
  refine ok_ref F K fX11_19 dX11_write_1 ?_
  refine lv_iload_n hx hb dX11_write_4 rfl (lv_at hl 1 rfl) ?_
  obtain ⟨r2, u1, hu1, hf⟩ := g_b2 hf
  refine ok_calli (rest := []) F K (pX4_has G hu1) mX4_has oc2 lX11_140 rfl hl.1 rfl ⟨⟨rfl, rfl⟩, Nat.le_of_ble_eq_true rfl, Nat.le_of_ble_eq_true rfl⟩ (Nat.le_of_ble_eq_true rfl) dX11_write_5 (fun H locs K => ?_)
  refine lv_if_ne (pc := 8) (tgt := 13) hx hb dX11_write_8 (by decide) (fun c3 => ?_) (fun c3 => ?_)
  · have hf := g_neg hf c3
    refine lv_aload_n hx hb dX11_write_13 rfl (lv_at hl 0 rfl) ?_
    refine ok_ref F K fX11_80 dX11_write_14 ?_
    obtain ⟨u4, hu4, hf⟩ := g_bd hf
    refine ok_callv (rest := []) F K (pX1_begin G hu4) mX1_begin oc10 lX11_153 rfl hl.1 rfl ⟨⟨rfl, rfl⟩, Nat.le_of_ble_eq_true rfl, Nat.le_of_ble_eq_true rfl⟩ (Nat.le_of_ble_eq_true rfl) dX11_write_17 (fun H locs K => ?_)
    refine lv_aload_n hx hb dX11_write_20 rfl (lv_at hl 0 rfl) ?_
    refine ok_ref F K fX11_80 dX11_write_21 ?_
    refine lv_iload_n hx hb dX11_write_24 rfl (lv_at hl 1 rfl) ?_
    refine lv_sipush (v := 210) hx hb dX11_write_25 kS_210 ?_
    obtain ⟨u5, hu5, hf⟩ := g_bd hf
    refine ok_callv (rest := []) F K (pX1_row G hu5) mX1_row oc10 lX11_154 rfl hl.1 rfl ⟨⟨rfl, rfl⟩, Nat.le_of_ble_eq_true rfl, Nat.le_of_ble_eq_true rfl⟩ (Nat.le_of_ble_eq_true rfl) dX11_write_28 (fun H locs K => ?_)
    refine lv_aload_n hx hb dX11_write_31 rfl (lv_at hl 0 rfl) ?_
    refine ok_ref F K fX11_80 dX11_write_32 ?_
    obtain ⟨r7, u6, hu6, hf⟩ := g_b2 hf
    refine ok_calli (rest := []) F K (pX1_finish G hu6) mX1_finish oc10 lX11_157 rfl hl.1 rfl ⟨⟨rfl, rfl⟩, Nat.le_of_ble_eq_true rfl, Nat.le_of_ble_eq_true rfl⟩ (Nat.le_of_ble_eq_true rfl) dX11_write_35 (fun H locs K => ?_)
    exact ok_reti B K hf dX11_write_38
  · have hf := g_pos hf c3
    refine lv_iconst (v := (-1)) hx hb dX11_write_11 kI_m1 ?_
    exact ok_reti B K hf dX11_write_12
