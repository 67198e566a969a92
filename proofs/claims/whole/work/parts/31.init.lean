theorem ar0 : Cond.arrayClass (newarray.typeOf .byte) ∈ BIG := bt1 61 rfl rfl
theorem ar1 : Cond.arrayClass (newarray.typeOf .int) ∈ BIG := bt1 132 rfl rfl
theorem ar2 : Cond.arrayClass (newarray.typeOf .long) ∈ BIG := bt1 131 rfl rfl
theorem ar3 : Cond.arrayClass (newarray.typeOf .boolean) ∈ BIG := bt1 133 rfl rfl
theorem wObj : Cond.instanceMethod objectInit ∈ BIG ∧ Cond.code objectInit ⟨#[0xb1]⟩ 1 none ∈ BIG := ⟨bt1 27 rfl rfl, bt1 28 rfl rfl⟩
theorem nws0 {s : State} : Nws [] s := fun w h => absurd h List.not_mem_nil
theorem Nws.get {s : State} {nw : List Cond} (h : Nws nw s) {o : String} {i : Nat} {y : MethodName} {ho : String} (hm : Cond.methodLinkNest o i y ho ∈ nw) : va_Nw (.methodLinkNest o i y ho) s := by
  obtain ⟨o', i', y', h', e1, e2⟩ := h _ hm
  cases e1
  exact e2
theorem fill_ha (cA : ClassId) : vp_cell cA (220, .inl (fill 0)) = arrV cA 220 (fun _ => defaultValue (tyF 1)) := by
  show arrV cA 220 (fun j => Value.int (fill 0 j)) = _
  congr 1
theorem fill_s {i : Nat} : upd (fill i) i (-1) = fill (i + 1) := by
  funext j
  unfold upd fill
  by_cases h : j = i
  · rw [if_pos h, if_pos (by omega)]
  · rw [if_neg h]
    by_cases h2 : j < i
    · rw [if_pos h2, if_pos (by omega)]
    · rw [if_neg h2, if_neg (by omega)]
theorem lX11_1 : Cond.methodLink RX11 1 objectInit ∈ BIG := bt1 26 rfl rfl
theorem lX11_32 : Cond.methodLink RX11 32 yX2_init ∈ BIG := bt1 192 rfl rfl
theorem lX11_44 : Cond.methodLink RX11 44 yX0_init ∈ BIG := bt2 31 rfl rfl
theorem lX11_53 : Cond.methodLink RX11 53 yX5_init ∈ BIG := bt2 80 rfl rfl
theorem lX11_58 : Cond.methodLink RX11 58 yX9_init ∈ BIG := bt2 136 rfl rfl
theorem lX11_65 : Cond.methodLink RX11 65 yX8_init ∈ BIG := bt2 163 rfl rfl
theorem lX11_68 : Cond.methodLink RX11 68 yX3_init ∈ BIG := bt2 186 rfl rfl
theorem lX11_77 : Cond.methodLink RX11 77 yX1_init ∈ BIG := bt3 5 rfl rfl
theorem lX0_5 : Cond.methodLink RX0 5 objectInit ∈ BIG := bt2 34 rfl rfl
theorem lX1_3 : Cond.methodLink RX1 3 objectInit ∈ BIG := bt3 8 rfl rfl
theorem lX2_3 : Cond.methodLink RX2 3 objectInit ∈ BIG := bt1 195 rfl rfl
theorem lX3_5 : Cond.methodLink RX3 5 objectInit ∈ BIG := bt2 189 rfl rfl
theorem lX4_5 : Cond.methodLink RX4 5 objectInit ∈ BIG := bt1 67 rfl rfl
theorem lX5_5 : Cond.methodLink RX5 5 objectInit ∈ BIG := bt2 83 rfl rfl
theorem lX6_1 : Cond.methodLink RX6 1 objectInit ∈ BIG := bt1 34 rfl rfl
theorem lX7_3 : Cond.methodLink RX7 3 objectInit ∈ BIG := bt1 139 rfl rfl
theorem lX8_1 : Cond.methodLink RX8 1 objectInit ∈ BIG := bt2 166 rfl rfl
theorem lX9_5 : Cond.methodLink RX9 5 objectInit ∈ BIG := bt2 139 rfl rfl
theorem lX10_1 : Cond.methodLink RX10 1 objectInit ∈ BIG := bt1 224 rfl rfl
theorem lX12_1 : Cond.methodLink RX12 1 objectInit ∈ BIG := bt5 151 rfl rfl
theorem clL_7 : Cond.classLink RL 7 RX11 ∈ BIG := bt1 21 rfl rfl
theorem inX11 : Cond.instantiable RX11 8 ∈ BIG := bt1 22 rfl rfl
theorem clX11_7 : Cond.classLink RX11 7 RX6 ∈ BIG := bt1 29 rfl rfl
theorem inX6 : Cond.instantiable RX6 7 ∈ BIG := bt1 30 rfl rfl
theorem clX11_16 : Cond.classLink RX11 16 RX4 ∈ BIG := bt1 62 rfl rfl
theorem inX4 : Cond.instantiable RX4 12 ∈ BIG := bt1 63 rfl rfl
theorem clX11_23 : Cond.classLink RX11 23 RX7 ∈ BIG := bt1 134 rfl rfl
theorem inX7 : Cond.instantiable RX7 13 ∈ BIG := bt1 135 rfl rfl
theorem clX11_30 : Cond.classLink RX11 30 RX2 ∈ BIG := bt1 190 rfl rfl
theorem inX2 : Cond.instantiable RX2 6 ∈ BIG := bt1 191 rfl rfl
theorem clX11_39 : Cond.classLink RX11 39 RX0 ∈ BIG := bt1 217 rfl rfl
theorem inX0 : Cond.instantiable RX0 14 ∈ BIG := bt1 218 rfl rfl
theorem clX11_41 : Cond.classLink RX11 41 RX10 ∈ BIG := bt1 219 rfl rfl
theorem inX10 : Cond.instantiable RX10 15 ∈ BIG := bt1 220 rfl rfl
theorem clX11_51 : Cond.classLink RX11 51 RX5 ∈ BIG := bt2 78 rfl rfl
theorem inX5 : Cond.instantiable RX5 12 ∈ BIG := bt2 79 rfl rfl
theorem clX11_56 : Cond.classLink RX11 56 RX9 ∈ BIG := bt2 134 rfl rfl
theorem inX9 : Cond.instantiable RX9 6 ∈ BIG := bt2 135 rfl rfl
theorem clX11_61 : Cond.classLink RX11 61 RX3 ∈ BIG := bt2 159 rfl rfl
theorem inX3 : Cond.instantiable RX3 16 ∈ BIG := bt2 160 rfl rfl
theorem clX11_63 : Cond.classLink RX11 63 RX8 ∈ BIG := bt2 161 rfl rfl
theorem inX8 : Cond.instantiable RX8 6 ∈ BIG := bt2 162 rfl rfl
theorem clX11_75 : Cond.classLink RX11 75 RX1 ∈ BIG := bt3 3 rfl rfl
theorem inX1 : Cond.instantiable RX1 12 ∈ BIG := bt3 4 rfl rfl
theorem clL_10 : Cond.classLink RL 10 RX12 ∈ BIG := bt5 146 rfl rfl
theorem inX12 : Cond.instantiable RX12 131 ∈ BIG := bt5 147 rfl rfl
theorem iniX0 : Cond.initialized RX0 ∈ BIG := bt1 6 rfl rfl
theorem iniX1 : Cond.initialized RX1 ∈ BIG := bt1 12 rfl rfl
theorem iniX2 : Cond.initialized RX2 ∈ BIG := bt1 5 rfl rfl
theorem iniX3 : Cond.initialized RX3 ∈ BIG := bt1 10 rfl rfl
theorem iniX4 : Cond.initialized RX4 ∈ BIG := bt1 3 rfl rfl
theorem iniX5 : Cond.initialized RX5 ∈ BIG := bt1 8 rfl rfl
theorem iniX6 : Cond.initialized RX6 ∈ BIG := bt1 2 rfl rfl
theorem iniX7 : Cond.initialized RX7 ∈ BIG := bt1 4 rfl rfl
theorem iniX8 : Cond.initialized RX8 ∈ BIG := bt1 11 rfl rfl
theorem iniX9 : Cond.initialized RX9 ∈ BIG := bt1 9 rfl rfl
theorem iniX10 : Cond.initialized RX10 ∈ BIG := bt1 7 rfl rfl
theorem iniX11 : Cond.initialized RX11 ∈ BIG := bt1 1 rfl rfl
theorem iniX12 : Cond.initialized RX12 ∈ BIG := bt1 13 rfl rfl
theorem mnX0 : MN yX0_init cX0_init 4 3 := ⟨bt2 32 rfl rfl, bt1 6 rfl rfl, bt2 33 rfl rfl, rfl, ⟨by decide +kernel, by decide +kernel, by decide +kernel⟩⟩
theorem mnX1 : MN yX1_init cX1_init 3 2 := ⟨bt3 6 rfl rfl, bt1 12 rfl rfl, bt3 7 rfl rfl, rfl, ⟨by decide +kernel, by decide +kernel, by decide +kernel⟩⟩
theorem mnX10 : MN yX10_init cX10_init 1 0 := ⟨bt1 222 rfl rfl, bt1 7 rfl rfl, bt1 223 rfl rfl, rfl, ⟨by decide +kernel, by decide +kernel, by decide +kernel⟩⟩
theorem mnX11 : MN yX11_init cX11_init 5 0 := ⟨bt1 24 rfl rfl, bt1 1 rfl rfl, bt1 25 rfl rfl, rfl, ⟨by decide +kernel, by decide +kernel, by decide +kernel⟩⟩
theorem mnX12 : MN yX12_init cX12_init 1 0 := ⟨bt5 149 rfl rfl, bt1 13 rfl rfl, bt5 150 rfl rfl, rfl, ⟨by decide +kernel, by decide +kernel, by decide +kernel⟩⟩
theorem mnX2 : MN yX2_init cX2_init 4 3 := ⟨bt1 193 rfl rfl, bt1 5 rfl rfl, bt1 194 rfl rfl, rfl, ⟨by decide +kernel, by decide +kernel, by decide +kernel⟩⟩
theorem mnX3 : MN yX3_init cX3_init 4 3 := ⟨bt2 187 rfl rfl, bt1 10 rfl rfl, bt2 188 rfl rfl, rfl, ⟨by decide +kernel, by decide +kernel, by decide +kernel⟩⟩
theorem mnX4 : MN yX4_init cX4_init 1 0 := ⟨bt1 65 rfl rfl, bt1 3 rfl rfl, bt1 66 rfl rfl, rfl, ⟨by decide +kernel, by decide +kernel, by decide +kernel⟩⟩
theorem mnX5 : MN yX5_init cX5_init 3 1 := ⟨bt2 81 rfl rfl, bt1 8 rfl rfl, bt2 82 rfl rfl, rfl, ⟨by decide +kernel, by decide +kernel, by decide +kernel⟩⟩
theorem mnX6 : MN yX6_init cX6_init 1 0 := ⟨bt1 32 rfl rfl, bt1 2 rfl rfl, bt1 33 rfl rfl, rfl, ⟨by decide +kernel, by decide +kernel, by decide +kernel⟩⟩
theorem mnX7 : MN yX7_init cX7_init 1 0 := ⟨bt1 137 rfl rfl, bt1 4 rfl rfl, bt1 138 rfl rfl, rfl, ⟨by decide +kernel, by decide +kernel, by decide +kernel⟩⟩
theorem mnX8 : MN yX8_init cX8_init 6 5 := ⟨bt2 164 rfl rfl, bt1 11 rfl rfl, bt2 165 rfl rfl, rfl, ⟨by decide +kernel, by decide +kernel, by decide +kernel⟩⟩
theorem mnX9 : MN yX9_init cX9_init 3 2 := ⟨bt2 137 rfl rfl, bt1 9 rfl rfl, bt2 138 rfl rfl, rfl, ⟨by decide +kernel, by decide +kernel, by decide +kernel⟩⟩
abbrev rmX6_init : Room := { frames := 1, cells := 1, slots := 1500, locals := 12 }
set_option maxRecDepth 100000 in
set_option maxHeartbeats 4000000 in
theorem pX6_init {l : Launch} (G : Gt) (h0 : Nat) : CtrN l yX6_init cX6_init 1 rmX6_init [.ref h0] G [] [(h0, .inr (6, [.null, .int 0, .int 0, .long 0, .int 0, .int 0, .int 0]))] 1 1500 (fun ws' => ∃ q1 : Nat, ws' = [(h0, .inr (6, [.ref q1, .int 0, .int 0, .long 0, .int 0, .int 0, .int 0])), (q1, .inl (G.2.2.1 0, 1500, .inl (fun _ => 0)))]) := by
  refine CtrN.mk (by decide) (Nat.le_of_ble_eq_true rfl) (fun p e s m below meth c A ls B hnm hN K hl => ?_)
  have F := B.1
  have hx := F.1
  have hb := F.2.1
  have hnm : meth.name = "<init>" := hnm
  have hl : lv_has ls 1 [(0, .ref h0)] := hl
  refine lv_aload_n hx hb dX6_init_0 rfl (lv_at hl 0 rfl) ?_
  refine o_obj F hl.1 lX6_1 wObj ⟨(Nat.le_of_ble_eq_true rfl), (Nat.le_of_ble_eq_true rfl)⟩ dX6_init_1 ?_
  refine lv_aload_n hx hb dX6_init_4 rfl (lv_at hl 0 rfl) ?_
  refine lv_sipush (v := 1500) hx hb dX6_init_5 kS_1500 ?_
  refine o_newa F K 0 (a0 := (1500, .inl (fun _ => 0))) (by decide) rfl ar0 1500 (fun _ => rfl) (by decide) (by decide) (by decide) (Nat.le_of_ble_eq_true rfl) (Nat.le_of_ble_eq_true rfl) dX6_init_8 (fun q1 H K => ?_)
  have K : Ok0 G A s [(h0, .inr (6, [.null, .int 0, .int 0, .long 0, .int 0, .int 0, .int 0])), (q1, .inl (G.2.2.1 0, 1500, .inl (fun _ => 0)))] H _ := K
  refine o_put F hnm K 0 (k := 0) cfX6 rfl (by decide) kX6_9 rfl rfl rfl (Nat.le_of_ble_eq_true rfl) [(h0, .inr (6, [.ref q1, .int 0, .int 0, .long 0, .int 0, .int 0, .int 0])), (q1, .inl (G.2.2.1 0, 1500, .inl (fun _ => 0)))] rfl dX6_init_10 (fun H locs K => ?_)
  exact o_ret B K ⟨q1, rfl⟩ dX6_init_13
abbrev rmX4_init : Room := { frames := 1, cells := 9, slots := 26235, locals := 12 }
set_option maxRecDepth 100000 in
set_option maxHeartbeats 4000000 in
theorem pX4_init {l : Launch} (G : Gt) (h0 : Nat) : CtrN l yX4_init cX4_init 1 rmX4_init [.ref h0] G [] [(h0, .inr (4, [.null, .null, .null, .int 0, .int 0, .int 0, .null, .null, .null, .null, .null, .null]))] 9 26235 (fun ws' => ∃ q1 q2 q3 q4 q5 q6 q7 q8 q9 : Nat, ws' = [(h0, .inr (4, [.ref q1, .ref q2, .ref q3, .int 0, .int 0, .int 0, .ref q4, .ref q5, .ref q6, .ref q7, .ref q8, .ref q9])), (q1, .inl (G.2.2.1 2, 811, .inr (.inl (fun _ => 0)))), (q2, .inl (G.2.2.1 1, 811, .inl (fun _ => 0))), (q3, .inl (G.2.2.1 3, 811, .inl (fun _ => 0))), (q4, .inl (G.2.2.1 1, 101, .inl (fun _ => 0))), (q5, .inl (G.2.2.1 1, 100, .inl (fun _ => 0))), (q6, .inl (G.2.2.1 1, 1201, .inl (fun _ => 0))), (q7, .inl (G.2.2.1 3, 1200, .inl (fun _ => 0))), (q8, .inl (G.2.2.1 1, 1200, .inl (fun _ => 0))), (q9, .inl (G.2.2.1 1, 20000, .inl (fun _ => 0)))]) := by
  refine CtrN.mk (by decide) (Nat.le_of_ble_eq_true rfl) (fun p e s m below meth c A ls B hnm hN K hl => ?_)
  have F := B.1
  have hx := F.1
  have hb := F.2.1
  have hnm : meth.name = "<init>" := hnm
  have hl : lv_has ls 1 [(0, .ref h0)] := hl
  refine lv_aload_n hx hb dX4_init_0 rfl (lv_at hl 0 rfl) ?_
  refine o_obj F hl.1 lX4_5 wObj ⟨(Nat.le_of_ble_eq_true rfl), (Nat.le_of_ble_eq_true rfl)⟩ dX4_init_1 ?_
  refine lv_aload_n hx hb dX4_init_4 rfl (lv_at hl 0 rfl) ?_
  refine lv_sipush (v := 811) hx hb dX4_init_5 kS_811 ?_
  refine o_newa F K 2 (a0 := (811, .inr (.inl (fun _ => 0)))) (by decide) rfl ar2 811 (fun _ => rfl) (by decide) (by decide) (by decide) (Nat.le_of_ble_eq_true rfl) (Nat.le_of_ble_eq_true rfl) dX4_init_8 (fun q1 H K => ?_)
  have K : Ok0 G A s [(h0, .inr (4, [.null, .null, .null, .int 0, .int 0, .int 0, .null, .null, .null, .null, .null, .null])), (q1, .inl (G.2.2.1 2, 811, .inr (.inl (fun _ => 0))))] H _ := K
  refine o_put F hnm K 0 (k := 0) cfX4 rfl (by decide) kX4_11 rfl rfl rfl (Nat.le_of_ble_eq_true rfl) [(h0, .inr (4, [.ref q1, .null, .null, .int 0, .int 0, .int 0, .null, .null, .null, .null, .null, .null])), (q1, .inl (G.2.2.1 2, 811, .inr (.inl (fun _ => 0))))] rfl dX4_init_10 (fun H locs K => ?_)
  refine lv_aload_n hx hb dX4_init_13 rfl (lv_at hl 0 rfl) ?_
  refine lv_sipush (v := 811) hx hb dX4_init_14 kS_811 ?_
  refine o_newa F K 1 (a0 := (811, .inl (fun _ => 0))) (by decide) rfl ar1 811 (fun _ => rfl) (by decide) (by decide) (by decide) (Nat.le_of_ble_eq_true rfl) (Nat.le_of_ble_eq_true rfl) dX4_init_17 (fun q2 H K => ?_)
  have K : Ok0 G A s [(h0, .inr (4, [.ref q1, .null, .null, .int 0, .int 0, .int 0, .null, .null, .null, .null, .null, .null])), (q1, .inl (G.2.2.1 2, 811, .inr (.inl (fun _ => 0)))), (q2, .inl (G.2.2.1 1, 811, .inl (fun _ => 0)))] H _ := K
  refine o_put F hnm K 0 (k := 1) cfX4 rfl (by decide) kX4_15 rfl rfl rfl (Nat.le_of_ble_eq_true rfl) [(h0, .inr (4, [.ref q1, .ref q2, .null, .int 0, .int 0, .int 0, .null, .null, .null, .null, .null, .null])), (q1, .inl (G.2.2.1 2, 811, .inr (.inl (fun _ => 0)))), (q2, .inl (G.2.2.1 1, 811, .inl (fun _ => 0)))] rfl dX4_init_19 (fun H locs K => ?_)
  refine lv_aload_n hx hb dX4_init_22 rfl (lv_at hl 0 rfl) ?_
  refine lv_sipush (v := 811) hx hb dX4_init_23 kS_811 ?_
  refine o_newa F K 3 (a0 := (811, .inl (fun _ => 0))) (by decide) rfl ar3 811 (fun _ => rfl) (by decide) (by decide) (by decide) (Nat.le_of_ble_eq_true rfl) (Nat.le_of_ble_eq_true rfl) dX4_init_26 (fun q3 H K => ?_)
  have K : Ok0 G A s [(h0, .inr (4, [.ref q1, .ref q2, .null, .int 0, .int 0, .int 0, .null, .null, .null, .null, .null, .null])), (q1, .inl (G.2.2.1 2, 811, .inr (.inl (fun _ => 0)))), (q2, .inl (G.2.2.1 1, 811, .inl (fun _ => 0))), (q3, .inl (G.2.2.1 3, 811, .inl (fun _ => 0)))] H _ := K
  refine o_put F hnm K 0 (k := 2) cfX4 rfl (by decide) kX4_19 rfl rfl rfl (Nat.le_of_ble_eq_true rfl) [(h0, .inr (4, [.ref q1, .ref q2, .ref q3, .int 0, .int 0, .int 0, .null, .null, .null, .null, .null, .null])), (q1, .inl (G.2.2.1 2, 811, .inr (.inl (fun _ => 0)))), (q2, .inl (G.2.2.1 1, 811, .inl (fun _ => 0))), (q3, .inl (G.2.2.1 3, 811, .inl (fun _ => 0)))] rfl dX4_init_28 (fun H locs K => ?_)
  refine lv_aload_n hx hb dX4_init_31 rfl (lv_at hl 0 rfl) ?_
  refine lv_bipush (v := 101) hx hb dX4_init_32 kB_101 ?_
  refine o_newa F K 1 (a0 := (101, .inl (fun _ => 0))) (by decide) rfl ar1 101 (fun _ => rfl) (by decide) (by decide) (by decide) (Nat.le_of_ble_eq_true rfl) (Nat.le_of_ble_eq_true rfl) dX4_init_34 (fun q4 H K => ?_)
  have K : Ok0 G A s [(h0, .inr (4, [.ref q1, .ref q2, .ref q3, .int 0, .int 0, .int 0, .null, .null, .null, .null, .null, .null])), (q1, .inl (G.2.2.1 2, 811, .inr (.inl (fun _ => 0)))), (q2, .inl (G.2.2.1 1, 811, .inl (fun _ => 0))), (q3, .inl (G.2.2.1 3, 811, .inl (fun _ => 0))), (q4, .inl (G.2.2.1 1, 101, .inl (fun _ => 0)))] H _ := K
  refine o_put F hnm K 0 (k := 6) cfX4 rfl (by decide) kX4_23 rfl rfl rfl (Nat.le_of_ble_eq_true rfl) [(h0, .inr (4, [.ref q1, .ref q2, .ref q3, .int 0, .int 0, .int 0, .ref q4, .null, .null, .null, .null, .null])), (q1, .inl (G.2.2.1 2, 811, .inr (.inl (fun _ => 0)))), (q2, .inl (G.2.2.1 1, 811, .inl (fun _ => 0))), (q3, .inl (G.2.2.1 3, 811, .inl (fun _ => 0))), (q4, .inl (G.2.2.1 1, 101, .inl (fun _ => 0)))] rfl dX4_init_36 (fun H locs K => ?_)
  refine lv_aload_n hx hb dX4_init_39 rfl (lv_at hl 0 rfl) ?_
  refine lv_bipush (v := 100) hx hb dX4_init_40 kB_100 ?_
  refine o_newa F K 1 (a0 := (100, .inl (fun _ => 0))) (by decide) rfl ar1 100 (fun _ => rfl) (by decide) (by decide) (by decide) (Nat.le_of_ble_eq_true rfl) (Nat.le_of_ble_eq_true rfl) dX4_init_42 (fun q5 H K => ?_)
  have K : Ok0 G A s [(h0, .inr (4, [.ref q1, .ref q2, .ref q3, .int 0, .int 0, .int 0, .ref q4, .null, .null, .null, .null, .null])), (q1, .inl (G.2.2.1 2, 811, .inr (.inl (fun _ => 0)))), (q2, .inl (G.2.2.1 1, 811, .inl (fun _ => 0))), (q3, .inl (G.2.2.1 3, 811, .inl (fun _ => 0))), (q4, .inl (G.2.2.1 1, 101, .inl (fun _ => 0))), (q5, .inl (G.2.2.1 1, 100, .inl (fun _ => 0)))] H _ := K
  refine o_put F hnm K 0 (k := 7) cfX4 rfl (by decide) kX4_26 rfl rfl rfl (Nat.le_of_ble_eq_true rfl) [(h0, .inr (4, [.ref q1, .ref q2, .ref q3, .int 0, .int 0, .int 0, .ref q4, .ref q5, .null, .null, .null, .null])), (q1, .inl (G.2.2.1 2, 811, .inr (.inl (fun _ => 0)))), (q2, .inl (G.2.2.1 1, 811, .inl (fun _ => 0))), (q3, .inl (G.2.2.1 3, 811, .inl (fun _ => 0))), (q4, .inl (G.2.2.1 1, 101, .inl (fun _ => 0))), (q5, .inl (G.2.2.1 1, 100, .inl (fun _ => 0)))] rfl dX4_init_44 (fun H locs K => ?_)
  refine lv_aload_n hx hb dX4_init_47 rfl (lv_at hl 0 rfl) ?_
  refine lv_sipush (v := 1201) hx hb dX4_init_48 kS_1201 ?_
  refine o_newa F K 1 (a0 := (1201, .inl (fun _ => 0))) (by decide) rfl ar1 1201 (fun _ => rfl) (by decide) (by decide) (by decide) (Nat.le_of_ble_eq_true rfl) (Nat.le_of_ble_eq_true rfl) dX4_init_51 (fun q6 H K => ?_)
  have K : Ok0 G A s [(h0, .inr (4, [.ref q1, .ref q2, .ref q3, .int 0, .int 0, .int 0, .ref q4, .ref q5, .null, .null, .null, .null])), (q1, .inl (G.2.2.1 2, 811, .inr (.inl (fun _ => 0)))), (q2, .inl (G.2.2.1 1, 811, .inl (fun _ => 0))), (q3, .inl (G.2.2.1 3, 811, .inl (fun _ => 0))), (q4, .inl (G.2.2.1 1, 101, .inl (fun _ => 0))), (q5, .inl (G.2.2.1 1, 100, .inl (fun _ => 0))), (q6, .inl (G.2.2.1 1, 1201, .inl (fun _ => 0)))] H _ := K
  refine o_put F hnm K 0 (k := 8) cfX4 rfl (by decide) kX4_29 rfl rfl rfl (Nat.le_of_ble_eq_true rfl) [(h0, .inr (4, [.ref q1, .ref q2, .ref q3, .int 0, .int 0, .int 0, .ref q4, .ref q5, .ref q6, .null, .null, .null])), (q1, .inl (G.2.2.1 2, 811, .inr (.inl (fun _ => 0)))), (q2, .inl (G.2.2.1 1, 811, .inl (fun _ => 0))), (q3, .inl (G.2.2.1 3, 811, .inl (fun _ => 0))), (q4, .inl (G.2.2.1 1, 101, .inl (fun _ => 0))), (q5, .inl (G.2.2.1 1, 100, .inl (fun _ => 0))), (q6, .inl (G.2.2.1 1, 1201, .inl (fun _ => 0)))] rfl dX4_init_53 (fun H locs K => ?_)
  refine lv_aload_n hx hb dX4_init_56 rfl (lv_at hl 0 rfl) ?_
  refine lv_sipush (v := 1200) hx hb dX4_init_57 kS_1200 ?_
  refine o_newa F K 3 (a0 := (1200, .inl (fun _ => 0))) (by decide) rfl ar3 1200 (fun _ => rfl) (by decide) (by decide) (by decide) (Nat.le_of_ble_eq_true rfl) (Nat.le_of_ble_eq_true rfl) dX4_init_60 (fun q7 H K => ?_)
  have K : Ok0 G A s [(h0, .inr (4, [.ref q1, .ref q2, .ref q3, .int 0, .int 0, .int 0, .ref q4, .ref q5, .ref q6, .null, .null, .null])), (q1, .inl (G.2.2.1 2, 811, .inr (.inl (fun _ => 0)))), (q2, .inl (G.2.2.1 1, 811, .inl (fun _ => 0))), (q3, .inl (G.2.2.1 3, 811, .inl (fun _ => 0))), (q4, .inl (G.2.2.1 1, 101, .inl (fun _ => 0))), (q5, .inl (G.2.2.1 1, 100, .inl (fun _ => 0))), (q6, .inl (G.2.2.1 1, 1201, .inl (fun _ => 0))), (q7, .inl (G.2.2.1 3, 1200, .inl (fun _ => 0)))] H _ := K
  refine o_put F hnm K 0 (k := 9) cfX4 rfl (by decide) kX4_32 rfl rfl rfl (Nat.le_of_ble_eq_true rfl) [(h0, .inr (4, [.ref q1, .ref q2, .ref q3, .int 0, .int 0, .int 0, .ref q4, .ref q5, .ref q6, .ref q7, .null, .null])), (q1, .inl (G.2.2.1 2, 811, .inr (.inl (fun _ => 0)))), (q2, .inl (G.2.2.1 1, 811, .inl (fun _ => 0))), (q3, .inl (G.2.2.1 3, 811, .inl (fun _ => 0))), (q4, .inl (G.2.2.1 1, 101, .inl (fun _ => 0))), (q5, .inl (G.2.2.1 1, 100, .inl (fun _ => 0))), (q6, .inl (G.2.2.1 1, 1201, .inl (fun _ => 0))), (q7, .inl (G.2.2.1 3, 1200, .inl (fun _ => 0)))] rfl dX4_init_62 (fun H locs K => ?_)
  refine lv_aload_n hx hb dX4_init_65 rfl (lv_at hl 0 rfl) ?_
  refine lv_sipush (v := 1200) hx hb dX4_init_66 kS_1200 ?_
  refine o_newa F K 1 (a0 := (1200, .inl (fun _ => 0))) (by decide) rfl ar1 1200 (fun _ => rfl) (by decide) (by decide) (by decide) (Nat.le_of_ble_eq_true rfl) (Nat.le_of_ble_eq_true rfl) dX4_init_69 (fun q8 H K => ?_)
  have K : Ok0 G A s [(h0, .inr (4, [.ref q1, .ref q2, .ref q3, .int 0, .int 0, .int 0, .ref q4, .ref q5, .ref q6, .ref q7, .null, .null])), (q1, .inl (G.2.2.1 2, 811, .inr (.inl (fun _ => 0)))), (q2, .inl (G.2.2.1 1, 811, .inl (fun _ => 0))), (q3, .inl (G.2.2.1 3, 811, .inl (fun _ => 0))), (q4, .inl (G.2.2.1 1, 101, .inl (fun _ => 0))), (q5, .inl (G.2.2.1 1, 100, .inl (fun _ => 0))), (q6, .inl (G.2.2.1 1, 1201, .inl (fun _ => 0))), (q7, .inl (G.2.2.1 3, 1200, .inl (fun _ => 0))), (q8, .inl (G.2.2.1 1, 1200, .inl (fun _ => 0)))] H _ := K
  refine o_put F hnm K 0 (k := 10) cfX4 rfl (by decide) kX4_35 rfl rfl rfl (Nat.le_of_ble_eq_true rfl) [(h0, .inr (4, [.ref q1, .ref q2, .ref q3, .int 0, .int 0, .int 0, .ref q4, .ref q5, .ref q6, .ref q7, .ref q8, .null])), (q1, .inl (G.2.2.1 2, 811, .inr (.inl (fun _ => 0)))), (q2, .inl (G.2.2.1 1, 811, .inl (fun _ => 0))), (q3, .inl (G.2.2.1 3, 811, .inl (fun _ => 0))), (q4, .inl (G.2.2.1 1, 101, .inl (fun _ => 0))), (q5, .inl (G.2.2.1 1, 100, .inl (fun _ => 0))), (q6, .inl (G.2.2.1 1, 1201, .inl (fun _ => 0))), (q7, .inl (G.2.2.1 3, 1200, .inl (fun _ => 0))), (q8, .inl (G.2.2.1 1, 1200, .inl (fun _ => 0)))] rfl dX4_init_71 (fun H locs K => ?_)
  refine lv_aload_n hx hb dX4_init_74 rfl (lv_at hl 0 rfl) ?_
  refine lv_sipush (v := 20000) hx hb dX4_init_75 kS_20000 ?_
  refine o_newa F K 1 (a0 := (20000, .inl (fun _ => 0))) (by decide) rfl ar1 20000 (fun _ => rfl) (by decide) (by decide) (by decide) (Nat.le_of_ble_eq_true rfl) (Nat.le_of_ble_eq_true rfl) dX4_init_78 (fun q9 H K => ?_)
  have K : Ok0 G A s [(h0, .inr (4, [.ref q1, .ref q2, .ref q3, .int 0, .int 0, .int 0, .ref q4, .ref q5, .ref q6, .ref q7, .ref q8, .null])), (q1, .inl (G.2.2.1 2, 811, .inr (.inl (fun _ => 0)))), (q2, .inl (G.2.2.1 1, 811, .inl (fun _ => 0))), (q3, .inl (G.2.2.1 3, 811, .inl (fun _ => 0))), (q4, .inl (G.2.2.1 1, 101, .inl (fun _ => 0))), (q5, .inl (G.2.2.1 1, 100, .inl (fun _ => 0))), (q6, .inl (G.2.2.1 1, 1201, .inl (fun _ => 0))), (q7, .inl (G.2.2.1 3, 1200, .inl (fun _ => 0))), (q8, .inl (G.2.2.1 1, 1200, .inl (fun _ => 0))), (q9, .inl (G.2.2.1 1, 20000, .inl (fun _ => 0)))] H _ := K
  refine o_put F hnm K 0 (k := 11) cfX4 rfl (by decide) kX4_38 rfl rfl rfl (Nat.le_of_ble_eq_true rfl) [(h0, .inr (4, [.ref q1, .ref q2, .ref q3, .int 0, .int 0, .int 0, .ref q4, .ref q5, .ref q6, .ref q7, .ref q8, .ref q9])), (q1, .inl (G.2.2.1 2, 811, .inr (.inl (fun _ => 0)))), (q2, .inl (G.2.2.1 1, 811, .inl (fun _ => 0))), (q3, .inl (G.2.2.1 3, 811, .inl (fun _ => 0))), (q4, .inl (G.2.2.1 1, 101, .inl (fun _ => 0))), (q5, .inl (G.2.2.1 1, 100, .inl (fun _ => 0))), (q6, .inl (G.2.2.1 1, 1201, .inl (fun _ => 0))), (q7, .inl (G.2.2.1 3, 1200, .inl (fun _ => 0))), (q8, .inl (G.2.2.1 1, 1200, .inl (fun _ => 0))), (q9, .inl (G.2.2.1 1, 20000, .inl (fun _ => 0)))] rfl dX4_init_80 (fun H locs K => ?_)
  exact o_ret B K ⟨q1, q2, q3, q4, q5, q6, q7, q8, q9, rfl⟩ dX4_init_83
abbrev rmX7_init : Room := { frames := 1, cells := 9, slots := 13509, locals := 12 }
set_option maxRecDepth 100000 in
set_option maxHeartbeats 4000000 in
theorem pX7_init {l : Launch} (G : Gt) (h0 : Nat) : CtrN l yX7_init cX7_init 1 rmX7_init [.ref h0] G [] [(h0, .inr (7, [.null, .null, .null, .null, .int 0, .null, .int 0, .null, .null, .null, .int 0, .null, .int 0]))] 9 13509 (fun ws' => ∃ q1 q2 q3 q4 q5 q6 q7 q8 q9 : Nat, ws' = [(h0, .inr (7, [.ref q1, .ref q2, .ref q3, .ref q4, .int 0, .ref q5, .int 0, .ref q6, .ref q7, .ref q8, .int 0, .ref q9, .int 0])), (q1, .inl (G.2.2.1 1, 1501, .inl (fun _ => 0))), (q2, .inl (G.2.2.1 1, 1501, .inl (fun _ => 0))), (q3, .inl (G.2.2.1 1, 1501, .inl (fun _ => 0))), (q4, .inl (G.2.2.1 1, 1501, .inl (fun _ => 0))), (q5, .inl (G.2.2.1 1, 1501, .inl (fun _ => 0))), (q6, .inl (G.2.2.1 2, 1501, .inr (.inl (fun _ => 0)))), (q7, .inl (G.2.2.1 1, 1501, .inl (fun _ => 0))), (q8, .inl (G.2.2.1 3, 1501, .inl (fun _ => 0))), (q9, .inl (G.2.2.1 1, 1501, .inl (fun _ => 0)))]) := by
  refine CtrN.mk (by decide) (Nat.le_of_ble_eq_true rfl) (fun p e s m below meth c A ls B hnm hN K hl => ?_)
  have F := B.1
  have hx := F.1
  have hb := F.2.1
  have hnm : meth.name = "<init>" := hnm
  have hl : lv_has ls 1 [(0, .ref h0)] := hl
  refine lv_aload_n hx hb dX7_init_0 rfl (lv_at hl 0 rfl) ?_
  refine o_obj F hl.1 lX7_3 wObj ⟨(Nat.le_of_ble_eq_true rfl), (Nat.le_of_ble_eq_true rfl)⟩ dX7_init_1 ?_
  refine lv_aload_n hx hb dX7_init_4 rfl (lv_at hl 0 rfl) ?_
  refine lv_sipush (v := 1501) hx hb dX7_init_5 kS_1501 ?_
  refine o_newa F K 1 (a0 := (1501, .inl (fun _ => 0))) (by decide) rfl ar1 1501 (fun _ => rfl) (by decide) (by decide) (by decide) (Nat.le_of_ble_eq_true rfl) (Nat.le_of_ble_eq_true rfl) dX7_init_8 (fun q1 H K => ?_)
  have K : Ok0 G A s [(h0, .inr (7, [.null, .null, .null, .null, .int 0, .null, .int 0, .null, .null, .null, .int 0, .null, .int 0])), (q1, .inl (G.2.2.1 1, 1501, .inl (fun _ => 0)))] H _ := K
  refine o_put F hnm K 0 (k := 0) cfX7 rfl (by decide) kX7_11 rfl rfl rfl (Nat.le_of_ble_eq_true rfl) [(h0, .inr (7, [.ref q1, .null, .null, .null, .int 0, .null, .int 0, .null, .null, .null, .int 0, .null, .int 0])), (q1, .inl (G.2.2.1 1, 1501, .inl (fun _ => 0)))] rfl dX7_init_10 (fun H locs K => ?_)
  refine lv_aload_n hx hb dX7_init_13 rfl (lv_at hl 0 rfl) ?_
  refine lv_sipush (v := 1501) hx hb dX7_init_14 kS_1501 ?_
  refine o_newa F K 1 (a0 := (1501, .inl (fun _ => 0))) (by decide) rfl ar1 1501 (fun _ => rfl) (by decide) (by decide) (by decide) (Nat.le_of_ble_eq_true rfl) (Nat.le_of_ble_eq_true rfl) dX7_init_17 (fun q2 H K => ?_)
  have K : Ok0 G A s [(h0, .inr (7, [.ref q1, .null, .null, .null, .int 0, .null, .int 0, .null, .null, .null, .int 0, .null, .int 0])), (q1, .inl (G.2.2.1 1, 1501, .inl (fun _ => 0))), (q2, .inl (G.2.2.1 1, 1501, .inl (fun _ => 0)))] H _ := K
  refine o_put F hnm K 0 (k := 1) cfX7 rfl (by decide) kX7_15 rfl rfl rfl (Nat.le_of_ble_eq_true rfl) [(h0, .inr (7, [.ref q1, .ref q2, .null, .null, .int 0, .null, .int 0, .null, .null, .null, .int 0, .null, .int 0])), (q1, .inl (G.2.2.1 1, 1501, .inl (fun _ => 0))), (q2, .inl (G.2.2.1 1, 1501, .inl (fun _ => 0)))] rfl dX7_init_19 (fun H locs K => ?_)
  refine lv_aload_n hx hb dX7_init_22 rfl (lv_at hl 0 rfl) ?_
  refine lv_sipush (v := 1501) hx hb dX7_init_23 kS_1501 ?_
  refine o_newa F K 1 (a0 := (1501, .inl (fun _ => 0))) (by decide) rfl ar1 1501 (fun _ => rfl) (by decide) (by decide) (by decide) (Nat.le_of_ble_eq_true rfl) (Nat.le_of_ble_eq_true rfl) dX7_init_26 (fun q3 H K => ?_)
  have K : Ok0 G A s [(h0, .inr (7, [.ref q1, .ref q2, .null, .null, .int 0, .null, .int 0, .null, .null, .null, .int 0, .null, .int 0])), (q1, .inl (G.2.2.1 1, 1501, .inl (fun _ => 0))), (q2, .inl (G.2.2.1 1, 1501, .inl (fun _ => 0))), (q3, .inl (G.2.2.1 1, 1501, .inl (fun _ => 0)))] H _ := K
  refine o_put F hnm K 0 (k := 2) cfX7 rfl (by decide) kX7_18 rfl rfl rfl (Nat.le_of_ble_eq_true rfl) [(h0, .inr (7, [.ref q1, .ref q2, .ref q3, .null, .int 0, .null, .int 0, .null, .null, .null, .int 0, .null, .int 0])), (q1, .inl (G.2.2.1 1, 1501, .inl (fun _ => 0))), (q2, .inl (G.2.2.1 1, 1501, .inl (fun _ => 0))), (q3, .inl (G.2.2.1 1, 1501, .inl (fun _ => 0)))] rfl dX7_init_28 (fun H locs K => ?_)
  refine lv_aload_n hx hb dX7_init_31 rfl (lv_at hl 0 rfl) ?_
  refine lv_sipush (v := 1501) hx hb dX7_init_32 kS_1501 ?_
  refine o_newa F K 1 (a0 := (1501, .inl (fun _ => 0))) (by decide) rfl ar1 1501 (fun _ => rfl) (by decide) (by decide) (by decide) (Nat.le_of_ble_eq_true rfl) (Nat.le_of_ble_eq_true rfl) dX7_init_35 (fun q4 H K => ?_)
  have K : Ok0 G A s [(h0, .inr (7, [.ref q1, .ref q2, .ref q3, .null, .int 0, .null, .int 0, .null, .null, .null, .int 0, .null, .int 0])), (q1, .inl (G.2.2.1 1, 1501, .inl (fun _ => 0))), (q2, .inl (G.2.2.1 1, 1501, .inl (fun _ => 0))), (q3, .inl (G.2.2.1 1, 1501, .inl (fun _ => 0))), (q4, .inl (G.2.2.1 1, 1501, .inl (fun _ => 0)))] H _ := K
  refine o_put F hnm K 0 (k := 3) cfX7 rfl (by decide) kX7_21 rfl rfl rfl (Nat.le_of_ble_eq_true rfl) [(h0, .inr (7, [.ref q1, .ref q2, .ref q3, .ref q4, .int 0, .null, .int 0, .null, .null, .null, .int 0, .null, .int 0])), (q1, .inl (G.2.2.1 1, 1501, .inl (fun _ => 0))), (q2, .inl (G.2.2.1 1, 1501, .inl (fun _ => 0))), (q3, .inl (G.2.2.1 1, 1501, .inl (fun _ => 0))), (q4, .inl (G.2.2.1 1, 1501, .inl (fun _ => 0)))] rfl dX7_init_37 (fun H locs K => ?_)
  refine lv_aload_n hx hb dX7_init_40 rfl (lv_at hl 0 rfl) ?_
  refine lv_sipush (v := 1501) hx hb dX7_init_41 kS_1501 ?_
  refine o_newa F K 1 (a0 := (1501, .inl (fun _ => 0))) (by decide) rfl ar1 1501 (fun _ => rfl) (by decide) (by decide) (by decide) (Nat.le_of_ble_eq_true rfl) (Nat.le_of_ble_eq_true rfl) dX7_init_44 (fun q5 H K => ?_)
  have K : Ok0 G A s [(h0, .inr (7, [.ref q1, .ref q2, .ref q3, .ref q4, .int 0, .null, .int 0, .null, .null, .null, .int 0, .null, .int 0])), (q1, .inl (G.2.2.1 1, 1501, .inl (fun _ => 0))), (q2, .inl (G.2.2.1 1, 1501, .inl (fun _ => 0))), (q3, .inl (G.2.2.1 1, 1501, .inl (fun _ => 0))), (q4, .inl (G.2.2.1 1, 1501, .inl (fun _ => 0))), (q5, .inl (G.2.2.1 1, 1501, .inl (fun _ => 0)))] H _ := K
  refine o_put F hnm K 0 (k := 5) cfX7 rfl (by decide) kX7_24 rfl rfl rfl (Nat.le_of_ble_eq_true rfl) [(h0, .inr (7, [.ref q1, .ref q2, .ref q3, .ref q4, .int 0, .ref q5, .int 0, .null, .null, .null, .int 0, .null, .int 0])), (q1, .inl (G.2.2.1 1, 1501, .inl (fun _ => 0))), (q2, .inl (G.2.2.1 1, 1501, .inl (fun _ => 0))), (q3, .inl (G.2.2.1 1, 1501, .inl (fun _ => 0))), (q4, .inl (G.2.2.1 1, 1501, .inl (fun _ => 0))), (q5, .inl (G.2.2.1 1, 1501, .inl (fun _ => 0)))] rfl dX7_init_46 (fun H locs K => ?_)
  refine lv_aload_n hx hb dX7_init_49 rfl (lv_at hl 0 rfl) ?_
  refine lv_sipush (v := 1501) hx hb dX7_init_50 kS_1501 ?_
  refine o_newa F K 2 (a0 := (1501, .inr (.inl (fun _ => 0)))) (by decide) rfl ar2 1501 (fun _ => rfl) (by decide) (by decide) (by decide) (Nat.le_of_ble_eq_true rfl) (Nat.le_of_ble_eq_true rfl) dX7_init_53 (fun q6 H K => ?_)
  have K : Ok0 G A s [(h0, .inr (7, [.ref q1, .ref q2, .ref q3, .ref q4, .int 0, .ref q5, .int 0, .null, .null, .null, .int 0, .null, .int 0])), (q1, .inl (G.2.2.1 1, 1501, .inl (fun _ => 0))), (q2, .inl (G.2.2.1 1, 1501, .inl (fun _ => 0))), (q3, .inl (G.2.2.1 1, 1501, .inl (fun _ => 0))), (q4, .inl (G.2.2.1 1, 1501, .inl (fun _ => 0))), (q5, .inl (G.2.2.1 1, 1501, .inl (fun _ => 0))), (q6, .inl (G.2.2.1 2, 1501, .inr (.inl (fun _ => 0))))] H _ := K
  refine o_put F hnm K 0 (k := 7) cfX7 rfl (by decide) kX7_27 rfl rfl rfl (Nat.le_of_ble_eq_true rfl) [(h0, .inr (7, [.ref q1, .ref q2, .ref q3, .ref q4, .int 0, .ref q5, .int 0, .ref q6, .null, .null, .int 0, .null, .int 0])), (q1, .inl (G.2.2.1 1, 1501, .inl (fun _ => 0))), (q2, .inl (G.2.2.1 1, 1501, .inl (fun _ => 0))), (q3, .inl (G.2.2.1 1, 1501, .inl (fun _ => 0))), (q4, .inl (G.2.2.1 1, 1501, .inl (fun _ => 0))), (q5, .inl (G.2.2.1 1, 1501, .inl (fun _ => 0))), (q6, .inl (G.2.2.1 2, 1501, .inr (.inl (fun _ => 0))))] rfl dX7_init_55 (fun H locs K => ?_)
  refine lv_aload_n hx hb dX7_init_58 rfl (lv_at hl 0 rfl) ?_
  refine lv_sipush (v := 1501) hx hb dX7_init_59 kS_1501 ?_
  refine o_newa F K 1 (a0 := (1501, .inl (fun _ => 0))) (by decide) rfl ar1 1501 (fun _ => rfl) (by decide) (by decide) (by decide) (Nat.le_of_ble_eq_true rfl) (Nat.le_of_ble_eq_true rfl) dX7_init_62 (fun q7 H K => ?_)
  have K : Ok0 G A s [(h0, .inr (7, [.ref q1, .ref q2, .ref q3, .ref q4, .int 0, .ref q5, .int 0, .ref q6, .null, .null, .int 0, .null, .int 0])), (q1, .inl (G.2.2.1 1, 1501, .inl (fun _ => 0))), (q2, .inl (G.2.2.1 1, 1501, .inl (fun _ => 0))), (q3, .inl (G.2.2.1 1, 1501, .inl (fun _ => 0))), (q4, .inl (G.2.2.1 1, 1501, .inl (fun _ => 0))), (q5, .inl (G.2.2.1 1, 1501, .inl (fun _ => 0))), (q6, .inl (G.2.2.1 2, 1501, .inr (.inl (fun _ => 0)))), (q7, .inl (G.2.2.1 1, 1501, .inl (fun _ => 0)))] H _ := K
  refine o_put F hnm K 0 (k := 8) cfX7 rfl (by decide) kX7_31 rfl rfl rfl (Nat.le_of_ble_eq_true rfl) [(h0, .inr (7, [.ref q1, .ref q2, .ref q3, .ref q4, .int 0, .ref q5, .int 0, .ref q6, .ref q7, .null, .int 0, .null, .int 0])), (q1, .inl (G.2.2.1 1, 1501, .inl (fun _ => 0))), (q2, .inl (G.2.2.1 1, 1501, .inl (fun _ => 0))), (q3, .inl (G.2.2.1 1, 1501, .inl (fun _ => 0))), (q4, .inl (G.2.2.1 1, 1501, .inl (fun _ => 0))), (q5, .inl (G.2.2.1 1, 1501, .inl (fun _ => 0))), (q6, .inl (G.2.2.1 2, 1501, .inr (.inl (fun _ => 0)))), (q7, .inl (G.2.2.1 1, 1501, .inl (fun _ => 0)))] rfl dX7_init_64 (fun H locs K => ?_)
  refine lv_aload_n hx hb dX7_init_67 rfl (lv_at hl 0 rfl) ?_
  refine lv_sipush (v := 1501) hx hb dX7_init_68 kS_1501 ?_
  refine o_newa F K 3 (a0 := (1501, .inl (fun _ => 0))) (by decide) rfl ar3 1501 (fun _ => rfl) (by decide) (by decide) (by decide) (Nat.le_of_ble_eq_true rfl) (Nat.le_of_ble_eq_true rfl) dX7_init_71 (fun q8 H K => ?_)
  have K : Ok0 G A s [(h0, .inr (7, [.ref q1, .ref q2, .ref q3, .ref q4, .int 0, .ref q5, .int 0, .ref q6, .ref q7, .null, .int 0, .null, .int 0])), (q1, .inl (G.2.2.1 1, 1501, .inl (fun _ => 0))), (q2, .inl (G.2.2.1 1, 1501, .inl (fun _ => 0))), (q3, .inl (G.2.2.1 1, 1501, .inl (fun _ => 0))), (q4, .inl (G.2.2.1 1, 1501, .inl (fun _ => 0))), (q5, .inl (G.2.2.1 1, 1501, .inl (fun _ => 0))), (q6, .inl (G.2.2.1 2, 1501, .inr (.inl (fun _ => 0)))), (q7, .inl (G.2.2.1 1, 1501, .inl (fun _ => 0))), (q8, .inl (G.2.2.1 3, 1501, .inl (fun _ => 0)))] H _ := K
  refine o_put F hnm K 0 (k := 9) cfX7 rfl (by decide) kX7_34 rfl rfl rfl (Nat.le_of_ble_eq_true rfl) [(h0, .inr (7, [.ref q1, .ref q2, .ref q3, .ref q4, .int 0, .ref q5, .int 0, .ref q6, .ref q7, .ref q8, .int 0, .null, .int 0])), (q1, .inl (G.2.2.1 1, 1501, .inl (fun _ => 0))), (q2, .inl (G.2.2.1 1, 1501, .inl (fun _ => 0))), (q3, .inl (G.2.2.1 1, 1501, .inl (fun _ => 0))), (q4, .inl (G.2.2.1 1, 1501, .inl (fun _ => 0))), (q5, .inl (G.2.2.1 1, 1501, .inl (fun _ => 0))), (q6, .inl (G.2.2.1 2, 1501, .inr (.inl (fun _ => 0)))), (q7, .inl (G.2.2.1 1, 1501, .inl (fun _ => 0))), (q8, .inl (G.2.2.1 3, 1501, .inl (fun _ => 0)))] rfl dX7_init_73 (fun H locs K => ?_)
  refine lv_aload_n hx hb dX7_init_76 rfl (lv_at hl 0 rfl) ?_
  refine lv_sipush (v := 1501) hx hb dX7_init_77 kS_1501 ?_
  refine o_newa F K 1 (a0 := (1501, .inl (fun _ => 0))) (by decide) rfl ar1 1501 (fun _ => rfl) (by decide) (by decide) (by decide) (Nat.le_of_ble_eq_true rfl) (Nat.le_of_ble_eq_true rfl) dX7_init_80 (fun q9 H K => ?_)
  have K : Ok0 G A s [(h0, .inr (7, [.ref q1, .ref q2, .ref q3, .ref q4, .int 0, .ref q5, .int 0, .ref q6, .ref q7, .ref q8, .int 0, .null, .int 0])), (q1, .inl (G.2.2.1 1, 1501, .inl (fun _ => 0))), (q2, .inl (G.2.2.1 1, 1501, .inl (fun _ => 0))), (q3, .inl (G.2.2.1 1, 1501, .inl (fun _ => 0))), (q4, .inl (G.2.2.1 1, 1501, .inl (fun _ => 0))), (q5, .inl (G.2.2.1 1, 1501, .inl (fun _ => 0))), (q6, .inl (G.2.2.1 2, 1501, .inr (.inl (fun _ => 0)))), (q7, .inl (G.2.2.1 1, 1501, .inl (fun _ => 0))), (q8, .inl (G.2.2.1 3, 1501, .inl (fun _ => 0))), (q9, .inl (G.2.2.1 1, 1501, .inl (fun _ => 0)))] H _ := K
  refine o_put F hnm K 0 (k := 11) cfX7 rfl (by decide) kX7_38 rfl rfl rfl (Nat.le_of_ble_eq_true rfl) [(h0, .inr (7, [.ref q1, .ref q2, .ref q3, .ref q4, .int 0, .ref q5, .int 0, .ref q6, .ref q7, .ref q8, .int 0, .ref q9, .int 0])), (q1, .inl (G.2.2.1 1, 1501, .inl (fun _ => 0))), (q2, .inl (G.2.2.1 1, 1501, .inl (fun _ => 0))), (q3, .inl (G.2.2.1 1, 1501, .inl (fun _ => 0))), (q4, .inl (G.2.2.1 1, 1501, .inl (fun _ => 0))), (q5, .inl (G.2.2.1 1, 1501, .inl (fun _ => 0))), (q6, .inl (G.2.2.1 2, 1501, .inr (.inl (fun _ => 0)))), (q7, .inl (G.2.2.1 1, 1501, .inl (fun _ => 0))), (q8, .inl (G.2.2.1 3, 1501, .inl (fun _ => 0))), (q9, .inl (G.2.2.1 1, 1501, .inl (fun _ => 0)))] rfl dX7_init_82 (fun H locs K => ?_)
  exact o_ret B K ⟨q1, q2, q3, q4, q5, q6, q7, q8, q9, rfl⟩ dX7_init_85
abbrev rmX10_init : Room := { frames := 1, cells := 9, slots := 26624, locals := 12 }
set_option maxRecDepth 100000 in
set_option maxHeartbeats 4000000 in
theorem pX10_init {l : Launch} (G : Gt) (h0 : Nat) : CtrN l yX10_init cX10_init 1 rmX10_init [.ref h0] G [] [(h0, .inr (10, [.null, .int 0, .null, .null, .int 0, .null, .null, .int 0, .null, .null, .int 0, .int 0, .null, .null, .int 0]))] 9 26624 (fun ws' => ∃ q1 q2 q3 q4 q5 q6 q7 q8 q9 : Nat, ws' = [(h0, .inr (10, [.ref q1, .int 0, .ref q2, .ref q3, .int 0, .ref q4, .ref q5, .int 0, .ref q6, .ref q7, .int 0, .int 0, .ref q8, .ref q9, .int 0])), (q1, .inl (G.2.2.1 1, 18000, .inl (fun _ => 0))), (q2, .inl (G.2.2.1 1, 601, .inl (fun _ => 0))), (q3, .inl (G.2.2.1 3, 600, .inl (fun _ => 0))), (q4, .inl (G.2.2.1 1, 6000, .inl (fun _ => 0))), (q5, .inl (G.2.2.1 1, 601, .inl (fun _ => 0))), (q6, .inl (G.2.2.1 1, 400, .inl (fun _ => 0))), (q7, .inl (G.2.2.1 1, 400, .inl (fun _ => 0))), (q8, .inl (G.2.2.1 1, 12, .inl (fun _ => 0))), (q9, .inl (G.2.2.1 1, 10, .inl (fun _ => 0)))]) := by
  refine CtrN.mk (by decide) (Nat.le_of_ble_eq_true rfl) (fun p e s m below meth c A ls B hnm hN K hl => ?_)
  have F := B.1
  have hx := F.1
  have hb := F.2.1
  have hnm : meth.name = "<init>" := hnm
  have hl : lv_has ls 1 [(0, .ref h0)] := hl
  refine lv_aload_n hx hb dX10_init_0 rfl (lv_at hl 0 rfl) ?_
  refine o_obj F hl.1 lX10_1 wObj ⟨(Nat.le_of_ble_eq_true rfl), (Nat.le_of_ble_eq_true rfl)⟩ dX10_init_1 ?_
  refine lv_aload_n hx hb dX10_init_4 rfl (lv_at hl 0 rfl) ?_
  refine lv_sipush (v := 18000) hx hb dX10_init_5 kS_18000 ?_
  refine o_newa F K 1 (a0 := (18000, .inl (fun _ => 0))) (by decide) rfl ar1 18000 (fun _ => rfl) (by decide) (by decide) (by decide) (Nat.le_of_ble_eq_true rfl) (Nat.le_of_ble_eq_true rfl) dX10_init_8 (fun q1 H K => ?_)
  have K : Ok0 G A s [(h0, .inr (10, [.null, .int 0, .null, .null, .int 0, .null, .null, .int 0, .null, .null, .int 0, .int 0, .null, .null, .int 0])), (q1, .inl (G.2.2.1 1, 18000, .inl (fun _ => 0)))] H _ := K
  refine o_put F hnm K 0 (k := 0) cfX10 rfl (by decide) kX10_9 rfl rfl rfl (Nat.le_of_ble_eq_true rfl) [(h0, .inr (10, [.ref q1, .int 0, .null, .null, .int 0, .null, .null, .int 0, .null, .null, .int 0, .int 0, .null, .null, .int 0])), (q1, .inl (G.2.2.1 1, 18000, .inl (fun _ => 0)))] rfl dX10_init_10 (fun H locs K => ?_)
  refine lv_aload_n hx hb dX10_init_13 rfl (lv_at hl 0 rfl) ?_
  refine lv_sipush (v := 601) hx hb dX10_init_14 kS_601 ?_
  refine o_newa F K 1 (a0 := (601, .inl (fun _ => 0))) (by decide) rfl ar1 601 (fun _ => rfl) (by decide) (by decide) (by decide) (Nat.le_of_ble_eq_true rfl) (Nat.le_of_ble_eq_true rfl) dX10_init_17 (fun q2 H K => ?_)
  have K : Ok0 G A s [(h0, .inr (10, [.ref q1, .int 0, .null, .null, .int 0, .null, .null, .int 0, .null, .null, .int 0, .int 0, .null, .null, .int 0])), (q1, .inl (G.2.2.1 1, 18000, .inl (fun _ => 0))), (q2, .inl (G.2.2.1 1, 601, .inl (fun _ => 0)))] H _ := K
  refine o_put F hnm K 0 (k := 2) cfX10 rfl (by decide) kX10_13 rfl rfl rfl (Nat.le_of_ble_eq_true rfl) [(h0, .inr (10, [.ref q1, .int 0, .ref q2, .null, .int 0, .null, .null, .int 0, .null, .null, .int 0, .int 0, .null, .null, .int 0])), (q1, .inl (G.2.2.1 1, 18000, .inl (fun _ => 0))), (q2, .inl (G.2.2.1 1, 601, .inl (fun _ => 0)))] rfl dX10_init_19 (fun H locs K => ?_)
  refine lv_aload_n hx hb dX10_init_22 rfl (lv_at hl 0 rfl) ?_
  refine lv_sipush (v := 600) hx hb dX10_init_23 kS_600 ?_
  refine o_newa F K 3 (a0 := (600, .inl (fun _ => 0))) (by decide) rfl ar3 600 (fun _ => rfl) (by decide) (by decide) (by decide) (Nat.le_of_ble_eq_true rfl) (Nat.le_of_ble_eq_true rfl) dX10_init_26 (fun q3 H K => ?_)
  have K : Ok0 G A s [(h0, .inr (10, [.ref q1, .int 0, .ref q2, .null, .int 0, .null, .null, .int 0, .null, .null, .int 0, .int 0, .null, .null, .int 0])), (q1, .inl (G.2.2.1 1, 18000, .inl (fun _ => 0))), (q2, .inl (G.2.2.1 1, 601, .inl (fun _ => 0))), (q3, .inl (G.2.2.1 3, 600, .inl (fun _ => 0)))] H _ := K
  refine o_put F hnm K 0 (k := 3) cfX10 rfl (by decide) kX10_16 rfl rfl rfl (Nat.le_of_ble_eq_true rfl) [(h0, .inr (10, [.ref q1, .int 0, .ref q2, .ref q3, .int 0, .null, .null, .int 0, .null, .null, .int 0, .int 0, .null, .null, .int 0])), (q1, .inl (G.2.2.1 1, 18000, .inl (fun _ => 0))), (q2, .inl (G.2.2.1 1, 601, .inl (fun _ => 0))), (q3, .inl (G.2.2.1 3, 600, .inl (fun _ => 0)))] rfl dX10_init_28 (fun H locs K => ?_)
  refine lv_aload_n hx hb dX10_init_31 rfl (lv_at hl 0 rfl) ?_
  refine lv_sipush (v := 6000) hx hb dX10_init_32 kS_6000 ?_
  refine o_newa F K 1 (a0 := (6000, .inl (fun _ => 0))) (by decide) rfl ar1 6000 (fun _ => rfl) (by decide) (by decide) (by decide) (Nat.le_of_ble_eq_true rfl) (Nat.le_of_ble_eq_true rfl) dX10_init_35 (fun q4 H K => ?_)
  have K : Ok0 G A s [(h0, .inr (10, [.ref q1, .int 0, .ref q2, .ref q3, .int 0, .null, .null, .int 0, .null, .null, .int 0, .int 0, .null, .null, .int 0])), (q1, .inl (G.2.2.1 1, 18000, .inl (fun _ => 0))), (q2, .inl (G.2.2.1 1, 601, .inl (fun _ => 0))), (q3, .inl (G.2.2.1 3, 600, .inl (fun _ => 0))), (q4, .inl (G.2.2.1 1, 6000, .inl (fun _ => 0)))] H _ := K
  refine o_put F hnm K 0 (k := 5) cfX10 rfl (by decide) kX10_20 rfl rfl rfl (Nat.le_of_ble_eq_true rfl) [(h0, .inr (10, [.ref q1, .int 0, .ref q2, .ref q3, .int 0, .ref q4, .null, .int 0, .null, .null, .int 0, .int 0, .null, .null, .int 0])), (q1, .inl (G.2.2.1 1, 18000, .inl (fun _ => 0))), (q2, .inl (G.2.2.1 1, 601, .inl (fun _ => 0))), (q3, .inl (G.2.2.1 3, 600, .inl (fun _ => 0))), (q4, .inl (G.2.2.1 1, 6000, .inl (fun _ => 0)))] rfl dX10_init_37 (fun H locs K => ?_)
  refine lv_aload_n hx hb dX10_init_40 rfl (lv_at hl 0 rfl) ?_
  refine lv_sipush (v := 601) hx hb dX10_init_41 kS_601 ?_
  refine o_newa F K 1 (a0 := (601, .inl (fun _ => 0))) (by decide) rfl ar1 601 (fun _ => rfl) (by decide) (by decide) (by decide) (Nat.le_of_ble_eq_true rfl) (Nat.le_of_ble_eq_true rfl) dX10_init_44 (fun q5 H K => ?_)
  have K : Ok0 G A s [(h0, .inr (10, [.ref q1, .int 0, .ref q2, .ref q3, .int 0, .ref q4, .null, .int 0, .null, .null, .int 0, .int 0, .null, .null, .int 0])), (q1, .inl (G.2.2.1 1, 18000, .inl (fun _ => 0))), (q2, .inl (G.2.2.1 1, 601, .inl (fun _ => 0))), (q3, .inl (G.2.2.1 3, 600, .inl (fun _ => 0))), (q4, .inl (G.2.2.1 1, 6000, .inl (fun _ => 0))), (q5, .inl (G.2.2.1 1, 601, .inl (fun _ => 0)))] H _ := K
  refine o_put F hnm K 0 (k := 6) cfX10 rfl (by decide) kX10_23 rfl rfl rfl (Nat.le_of_ble_eq_true rfl) [(h0, .inr (10, [.ref q1, .int 0, .ref q2, .ref q3, .int 0, .ref q4, .ref q5, .int 0, .null, .null, .int 0, .int 0, .null, .null, .int 0])), (q1, .inl (G.2.2.1 1, 18000, .inl (fun _ => 0))), (q2, .inl (G.2.2.1 1, 601, .inl (fun _ => 0))), (q3, .inl (G.2.2.1 3, 600, .inl (fun _ => 0))), (q4, .inl (G.2.2.1 1, 6000, .inl (fun _ => 0))), (q5, .inl (G.2.2.1 1, 601, .inl (fun _ => 0)))] rfl dX10_init_46 (fun H locs K => ?_)
  refine lv_aload_n hx hb dX10_init_49 rfl (lv_at hl 0 rfl) ?_
  refine lv_sipush (v := 400) hx hb dX10_init_50 kS_400 ?_
  refine o_newa F K 1 (a0 := (400, .inl (fun _ => 0))) (by decide) rfl ar1 400 (fun _ => rfl) (by decide) (by decide) (by decide) (Nat.le_of_ble_eq_true rfl) (Nat.le_of_ble_eq_true rfl) dX10_init_53 (fun q6 H K => ?_)
  have K : Ok0 G A s [(h0, .inr (10, [.ref q1, .int 0, .ref q2, .ref q3, .int 0, .ref q4, .ref q5, .int 0, .null, .null, .int 0, .int 0, .null, .null, .int 0])), (q1, .inl (G.2.2.1 1, 18000, .inl (fun _ => 0))), (q2, .inl (G.2.2.1 1, 601, .inl (fun _ => 0))), (q3, .inl (G.2.2.1 3, 600, .inl (fun _ => 0))), (q4, .inl (G.2.2.1 1, 6000, .inl (fun _ => 0))), (q5, .inl (G.2.2.1 1, 601, .inl (fun _ => 0))), (q6, .inl (G.2.2.1 1, 400, .inl (fun _ => 0)))] H _ := K
  refine o_put F hnm K 0 (k := 8) cfX10 rfl (by decide) kX10_26 rfl rfl rfl (Nat.le_of_ble_eq_true rfl) [(h0, .inr (10, [.ref q1, .int 0, .ref q2, .ref q3, .int 0, .ref q4, .ref q5, .int 0, .ref q6, .null, .int 0, .int 0, .null, .null, .int 0])), (q1, .inl (G.2.2.1 1, 18000, .inl (fun _ => 0))), (q2, .inl (G.2.2.1 1, 601, .inl (fun _ => 0))), (q3, .inl (G.2.2.1 3, 600, .inl (fun _ => 0))), (q4, .inl (G.2.2.1 1, 6000, .inl (fun _ => 0))), (q5, .inl (G.2.2.1 1, 601, .inl (fun _ => 0))), (q6, .inl (G.2.2.1 1, 400, .inl (fun _ => 0)))] rfl dX10_init_55 (fun H locs K => ?_)
  refine lv_aload_n hx hb dX10_init_58 rfl (lv_at hl 0 rfl) ?_
  refine lv_sipush (v := 400) hx hb dX10_init_59 kS_400 ?_
  refine o_newa F K 1 (a0 := (400, .inl (fun _ => 0))) (by decide) rfl ar1 400 (fun _ => rfl) (by decide) (by decide) (by decide) (Nat.le_of_ble_eq_true rfl) (Nat.le_of_ble_eq_true rfl) dX10_init_62 (fun q7 H K => ?_)
  have K : Ok0 G A s [(h0, .inr (10, [.ref q1, .int 0, .ref q2, .ref q3, .int 0, .ref q4, .ref q5, .int 0, .ref q6, .null, .int 0, .int 0, .null, .null, .int 0])), (q1, .inl (G.2.2.1 1, 18000, .inl (fun _ => 0))), (q2, .inl (G.2.2.1 1, 601, .inl (fun _ => 0))), (q3, .inl (G.2.2.1 3, 600, .inl (fun _ => 0))), (q4, .inl (G.2.2.1 1, 6000, .inl (fun _ => 0))), (q5, .inl (G.2.2.1 1, 601, .inl (fun _ => 0))), (q6, .inl (G.2.2.1 1, 400, .inl (fun _ => 0))), (q7, .inl (G.2.2.1 1, 400, .inl (fun _ => 0)))] H _ := K
  refine o_put F hnm K 0 (k := 9) cfX10 rfl (by decide) kX10_29 rfl rfl rfl (Nat.le_of_ble_eq_true rfl) [(h0, .inr (10, [.ref q1, .int 0, .ref q2, .ref q3, .int 0, .ref q4, .ref q5, .int 0, .ref q6, .ref q7, .int 0, .int 0, .null, .null, .int 0])), (q1, .inl (G.2.2.1 1, 18000, .inl (fun _ => 0))), (q2, .inl (G.2.2.1 1, 601, .inl (fun _ => 0))), (q3, .inl (G.2.2.1 3, 600, .inl (fun _ => 0))), (q4, .inl (G.2.2.1 1, 6000, .inl (fun _ => 0))), (q5, .inl (G.2.2.1 1, 601, .inl (fun _ => 0))), (q6, .inl (G.2.2.1 1, 400, .inl (fun _ => 0))), (q7, .inl (G.2.2.1 1, 400, .inl (fun _ => 0)))] rfl dX10_init_64 (fun H locs K => ?_)
  refine lv_aload_n hx hb dX10_init_67 rfl (lv_at hl 0 rfl) ?_
  refine lv_bipush (v := 12) hx hb dX10_init_68 kB_12 ?_
  refine o_newa F K 1 (a0 := (12, .inl (fun _ => 0))) (by decide) rfl ar1 12 (fun _ => rfl) (by decide) (by decide) (by decide) (Nat.le_of_ble_eq_true rfl) (Nat.le_of_ble_eq_true rfl) dX10_init_70 (fun q8 H K => ?_)
  have K : Ok0 G A s [(h0, .inr (10, [.ref q1, .int 0, .ref q2, .ref q3, .int 0, .ref q4, .ref q5, .int 0, .ref q6, .ref q7, .int 0, .int 0, .null, .null, .int 0])), (q1, .inl (G.2.2.1 1, 18000, .inl (fun _ => 0))), (q2, .inl (G.2.2.1 1, 601, .inl (fun _ => 0))), (q3, .inl (G.2.2.1 3, 600, .inl (fun _ => 0))), (q4, .inl (G.2.2.1 1, 6000, .inl (fun _ => 0))), (q5, .inl (G.2.2.1 1, 601, .inl (fun _ => 0))), (q6, .inl (G.2.2.1 1, 400, .inl (fun _ => 0))), (q7, .inl (G.2.2.1 1, 400, .inl (fun _ => 0))), (q8, .inl (G.2.2.1 1, 12, .inl (fun _ => 0)))] H _ := K
  refine o_put F hnm K 0 (k := 12) cfX10 rfl (by decide) kX10_34 rfl rfl rfl (Nat.le_of_ble_eq_true rfl) [(h0, .inr (10, [.ref q1, .int 0, .ref q2, .ref q3, .int 0, .ref q4, .ref q5, .int 0, .ref q6, .ref q7, .int 0, .int 0, .ref q8, .null, .int 0])), (q1, .inl (G.2.2.1 1, 18000, .inl (fun _ => 0))), (q2, .inl (G.2.2.1 1, 601, .inl (fun _ => 0))), (q3, .inl (G.2.2.1 3, 600, .inl (fun _ => 0))), (q4, .inl (G.2.2.1 1, 6000, .inl (fun _ => 0))), (q5, .inl (G.2.2.1 1, 601, .inl (fun _ => 0))), (q6, .inl (G.2.2.1 1, 400, .inl (fun _ => 0))), (q7, .inl (G.2.2.1 1, 400, .inl (fun _ => 0))), (q8, .inl (G.2.2.1 1, 12, .inl (fun _ => 0)))] rfl dX10_init_72 (fun H locs K => ?_)
  refine lv_aload_n hx hb dX10_init_75 rfl (lv_at hl 0 rfl) ?_
  refine lv_bipush (v := 10) hx hb dX10_init_76 kB_10 ?_
  refine o_newa F K 1 (a0 := (10, .inl (fun _ => 0))) (by decide) rfl ar1 10 (fun _ => rfl) (by decide) (by decide) (by decide) (Nat.le_of_ble_eq_true rfl) (Nat.le_of_ble_eq_true rfl) dX10_init_78 (fun q9 H K => ?_)
  have K : Ok0 G A s [(h0, .inr (10, [.ref q1, .int 0, .ref q2, .ref q3, .int 0, .ref q4, .ref q5, .int 0, .ref q6, .ref q7, .int 0, .int 0, .ref q8, .null, .int 0])), (q1, .inl (G.2.2.1 1, 18000, .inl (fun _ => 0))), (q2, .inl (G.2.2.1 1, 601, .inl (fun _ => 0))), (q3, .inl (G.2.2.1 3, 600, .inl (fun _ => 0))), (q4, .inl (G.2.2.1 1, 6000, .inl (fun _ => 0))), (q5, .inl (G.2.2.1 1, 601, .inl (fun _ => 0))), (q6, .inl (G.2.2.1 1, 400, .inl (fun _ => 0))), (q7, .inl (G.2.2.1 1, 400, .inl (fun _ => 0))), (q8, .inl (G.2.2.1 1, 12, .inl (fun _ => 0))), (q9, .inl (G.2.2.1 1, 10, .inl (fun _ => 0)))] H _ := K
  refine o_put F hnm K 0 (k := 13) cfX10 rfl (by decide) kX10_37 rfl rfl rfl (Nat.le_of_ble_eq_true rfl) [(h0, .inr (10, [.ref q1, .int 0, .ref q2, .ref q3, .int 0, .ref q4, .ref q5, .int 0, .ref q6, .ref q7, .int 0, .int 0, .ref q8, .ref q9, .int 0])), (q1, .inl (G.2.2.1 1, 18000, .inl (fun _ => 0))), (q2, .inl (G.2.2.1 1, 601, .inl (fun _ => 0))), (q3, .inl (G.2.2.1 3, 600, .inl (fun _ => 0))), (q4, .inl (G.2.2.1 1, 6000, .inl (fun _ => 0))), (q5, .inl (G.2.2.1 1, 601, .inl (fun _ => 0))), (q6, .inl (G.2.2.1 1, 400, .inl (fun _ => 0))), (q7, .inl (G.2.2.1 1, 400, .inl (fun _ => 0))), (q8, .inl (G.2.2.1 1, 12, .inl (fun _ => 0))), (q9, .inl (G.2.2.1 1, 10, .inl (fun _ => 0)))] rfl dX10_init_80 (fun H locs K => ?_)
  exact o_ret B K ⟨q1, q2, q3, q4, q5, q6, q7, q8, q9, rfl⟩ dX10_init_83
abbrev rmX2_init : Room := { frames := 1, cells := 0, slots := 0, locals := 12 }
set_option maxRecDepth 100000 in
set_option maxHeartbeats 4000000 in
theorem pX2_init {l : Launch} (G : Gt) (h0 r0 r1 r2 : Nat) : CtrN l yX2_init cX2_init 4 rmX2_init [.ref h0, .ref r0, .ref r1, .ref r2] G [] [(h0, .inr (2, [.null, .null, .null, .int 0, .int 0, .int 0]))] 0 0 (fun ws' => ws' = [(h0, .inr (2, [.ref r0, .ref r1, .ref r2, .int 0, .int 0, .int 0]))]) := by
  refine CtrN.mk (by decide) (Nat.le_of_ble_eq_true rfl) (fun p e s m below meth c A ls B hnm hN K hl => ?_)
  have F := B.1
  have hx := F.1
  have hb := F.2.1
  have hnm : meth.name = "<init>" := hnm
  have hl : lv_has ls 4 [(0, .ref h0), (1, .ref r0), (2, .ref r1), (3, .ref r2)] := hl
  refine lv_aload_n hx hb dX2_init_0 rfl (lv_at hl 0 rfl) ?_
  refine o_obj F hl.1 lX2_3 wObj ⟨(Nat.le_of_ble_eq_true rfl), (Nat.le_of_ble_eq_true rfl)⟩ dX2_init_1 ?_
  refine lv_aload_n hx hb dX2_init_4 rfl (lv_at hl 0 rfl) ?_
  refine lv_aload_n hx hb dX2_init_5 rfl (lv_at hl 1 rfl) ?_
  refine o_put F hnm K 0 (k := 0) cfX2 rfl (by decide) kX2_9 rfl rfl rfl (Nat.le_of_ble_eq_true rfl) [(h0, .inr (2, [.ref r0, .null, .null, .int 0, .int 0, .int 0]))] rfl dX2_init_6 (fun H locs K => ?_)
  refine lv_aload_n hx hb dX2_init_9 rfl (lv_at hl 0 rfl) ?_
  refine lv_aload_n hx hb dX2_init_10 rfl (lv_at hl 2 rfl) ?_
  refine o_put F hnm K 0 (k := 1) cfX2 rfl (by decide) kX2_15 rfl rfl rfl (Nat.le_of_ble_eq_true rfl) [(h0, .inr (2, [.ref r0, .ref r1, .null, .int 0, .int 0, .int 0]))] rfl dX2_init_11 (fun H locs K => ?_)
  refine lv_aload_n hx hb dX2_init_14 rfl (lv_at hl 0 rfl) ?_
  refine lv_aload_n hx hb dX2_init_15 rfl (lv_at hl 3 rfl) ?_
  refine o_put F hnm K 0 (k := 2) cfX2 rfl (by decide) kX2_19 rfl rfl rfl (Nat.le_of_ble_eq_true rfl) [(h0, .inr (2, [.ref r0, .ref r1, .ref r2, .int 0, .int 0, .int 0]))] rfl dX2_init_16 (fun H locs K => ?_)
  exact o_ret B K rfl dX2_init_19
abbrev rmX0_init : Room := { frames := 1, cells := 6, slots := 6411, locals := 12 }
set_option maxRecDepth 100000 in
set_option maxHeartbeats 4000000 in
theorem pX0_init {l : Launch} (G : Gt) (h0 r0 r1 r2 : Nat) : CtrN l yX0_init cX0_init 4 rmX0_init [.ref h0, .ref r0, .ref r1, .ref r2] G [] [(h0, .inr (0, [.null, .null, .null, .null, .int 0, .int 0, .null, .null, .null, .null, .int 0, .null, .int 0, .int 0]))] 6 6411 (fun ws' => ∃ q1 q2 q3 q4 q5 q6 : Nat, ws' = [(h0, .inr (0, [.ref r0, .ref r1, .ref r2, .ref q1, .int 0, .int 0, .ref q2, .ref q3, .ref q4, .ref q5, .int 0, .ref q6, .int 0, .int 0])), (q1, .inl (G.2.2.1 1, 4500, .inl (fun _ => 0))), (q2, .inl (G.2.2.1 1, 1501, .inl (fun _ => 0))), (q3, .inl (G.2.2.1 1, 40, .inl (fun _ => 0))), (q4, .inl (G.2.2.1 1, 40, .inl (fun _ => 0))), (q5, .inl (G.2.2.1 1, 40, .inl (fun _ => 0))), (q6, .inl (G.2.2.1 1, 290, .inl (fun _ => 0)))]) := by
  refine CtrN.mk (by decide) (Nat.le_of_ble_eq_true rfl) (fun p e s m below meth c A ls B hnm hN K hl => ?_)
  have F := B.1
  have hx := F.1
  have hb := F.2.1
  have hnm : meth.name = "<init>" := hnm
  have hl : lv_has ls 4 [(0, .ref h0), (1, .ref r0), (2, .ref r1), (3, .ref r2)] := hl
  refine lv_aload_n hx hb dX0_init_0 rfl (lv_at hl 0 rfl) ?_
  refine o_obj F hl.1 lX0_5 wObj ⟨(Nat.le_of_ble_eq_true rfl), (Nat.le_of_ble_eq_true rfl)⟩ dX0_init_1 ?_
  refine lv_aload_n hx hb dX0_init_4 rfl (lv_at hl 0 rfl) ?_
  refine lv_sipush (v := 4500) hx hb dX0_init_5 kS_4500 ?_
  refine o_newa F K 1 (a0 := (4500, .inl (fun _ => 0))) (by decide) rfl ar1 4500 (fun _ => rfl) (by decide) (by decide) (by decide) (Nat.le_of_ble_eq_true rfl) (Nat.le_of_ble_eq_true rfl) dX0_init_8 (fun q1 H K => ?_)
  have K : Ok0 G A s [(h0, .inr (0, [.null, .null, .null, .null, .int 0, .int 0, .null, .null, .null, .null, .int 0, .null, .int 0, .int 0])), (q1, .inl (G.2.2.1 1, 4500, .inl (fun _ => 0)))] H _ := K
  refine o_put F hnm K 0 (k := 3) cfX0 rfl (by decide) kX0_13 rfl rfl rfl (Nat.le_of_ble_eq_true rfl) [(h0, .inr (0, [.null, .null, .null, .ref q1, .int 0, .int 0, .null, .null, .null, .null, .int 0, .null, .int 0, .int 0])), (q1, .inl (G.2.2.1 1, 4500, .inl (fun _ => 0)))] rfl dX0_init_10 (fun H locs K => ?_)
  refine lv_aload_n hx hb dX0_init_13 rfl (lv_at hl 0 rfl) ?_
  refine lv_sipush (v := 1501) hx hb dX0_init_14 kS_1501 ?_
  refine o_newa F K 1 (a0 := (1501, .inl (fun _ => 0))) (by decide) rfl ar1 1501 (fun _ => rfl) (by decide) (by decide) (by decide) (Nat.le_of_ble_eq_true rfl) (Nat.le_of_ble_eq_true rfl) dX0_init_17 (fun q2 H K => ?_)
  have K : Ok0 G A s [(h0, .inr (0, [.null, .null, .null, .ref q1, .int 0, .int 0, .null, .null, .null, .null, .int 0, .null, .int 0, .int 0])), (q1, .inl (G.2.2.1 1, 4500, .inl (fun _ => 0))), (q2, .inl (G.2.2.1 1, 1501, .inl (fun _ => 0)))] H _ := K
  refine o_put F hnm K 0 (k := 6) cfX0 rfl (by decide) kX0_19 rfl rfl rfl (Nat.le_of_ble_eq_true rfl) [(h0, .inr (0, [.null, .null, .null, .ref q1, .int 0, .int 0, .ref q2, .null, .null, .null, .int 0, .null, .int 0, .int 0])), (q1, .inl (G.2.2.1 1, 4500, .inl (fun _ => 0))), (q2, .inl (G.2.2.1 1, 1501, .inl (fun _ => 0)))] rfl dX0_init_19 (fun H locs K => ?_)
  refine lv_aload_n hx hb dX0_init_22 rfl (lv_at hl 0 rfl) ?_
  refine lv_bipush (v := 40) hx hb dX0_init_23 kB_40 ?_
  refine o_newa F K 1 (a0 := (40, .inl (fun _ => 0))) (by decide) rfl ar1 40 (fun _ => rfl) (by decide) (by decide) (by decide) (Nat.le_of_ble_eq_true rfl) (Nat.le_of_ble_eq_true rfl) dX0_init_25 (fun q3 H K => ?_)
  have K : Ok0 G A s [(h0, .inr (0, [.null, .null, .null, .ref q1, .int 0, .int 0, .ref q2, .null, .null, .null, .int 0, .null, .int 0, .int 0])), (q1, .inl (G.2.2.1 1, 4500, .inl (fun _ => 0))), (q2, .inl (G.2.2.1 1, 1501, .inl (fun _ => 0))), (q3, .inl (G.2.2.1 1, 40, .inl (fun _ => 0)))] H _ := K
  refine o_put F hnm K 0 (k := 7) cfX0 rfl (by decide) kX0_22 rfl rfl rfl (Nat.le_of_ble_eq_true rfl) [(h0, .inr (0, [.null, .null, .null, .ref q1, .int 0, .int 0, .ref q2, .ref q3, .null, .null, .int 0, .null, .int 0, .int 0])), (q1, .inl (G.2.2.1 1, 4500, .inl (fun _ => 0))), (q2, .inl (G.2.2.1 1, 1501, .inl (fun _ => 0))), (q3, .inl (G.2.2.1 1, 40, .inl (fun _ => 0)))] rfl dX0_init_27 (fun H locs K => ?_)
  refine lv_aload_n hx hb dX0_init_30 rfl (lv_at hl 0 rfl) ?_
  refine lv_bipush (v := 40) hx hb dX0_init_31 kB_40 ?_
  refine o_newa F K 1 (a0 := (40, .inl (fun _ => 0))) (by decide) rfl ar1 40 (fun _ => rfl) (by decide) (by decide) (by decide) (Nat.le_of_ble_eq_true rfl) (Nat.le_of_ble_eq_true rfl) dX0_init_33 (fun q4 H K => ?_)
  have K : Ok0 G A s [(h0, .inr (0, [.null, .null, .null, .ref q1, .int 0, .int 0, .ref q2, .ref q3, .null, .null, .int 0, .null, .int 0, .int 0])), (q1, .inl (G.2.2.1 1, 4500, .inl (fun _ => 0))), (q2, .inl (G.2.2.1 1, 1501, .inl (fun _ => 0))), (q3, .inl (G.2.2.1 1, 40, .inl (fun _ => 0))), (q4, .inl (G.2.2.1 1, 40, .inl (fun _ => 0)))] H _ := K
  refine o_put F hnm K 0 (k := 8) cfX0 rfl (by decide) kX0_25 rfl rfl rfl (Nat.le_of_ble_eq_true rfl) [(h0, .inr (0, [.null, .null, .null, .ref q1, .int 0, .int 0, .ref q2, .ref q3, .ref q4, .null, .int 0, .null, .int 0, .int 0])), (q1, .inl (G.2.2.1 1, 4500, .inl (fun _ => 0))), (q2, .inl (G.2.2.1 1, 1501, .inl (fun _ => 0))), (q3, .inl (G.2.2.1 1, 40, .inl (fun _ => 0))), (q4, .inl (G.2.2.1 1, 40, .inl (fun _ => 0)))] rfl dX0_init_35 (fun H locs K => ?_)
  refine lv_aload_n hx hb dX0_init_38 rfl (lv_at hl 0 rfl) ?_
  refine lv_bipush (v := 40) hx hb dX0_init_39 kB_40 ?_
  refine o_newa F K 1 (a0 := (40, .inl (fun _ => 0))) (by decide) rfl ar1 40 (fun _ => rfl) (by decide) (by decide) (by decide) (Nat.le_of_ble_eq_true rfl) (Nat.le_of_ble_eq_true rfl) dX0_init_41 (fun q5 H K => ?_)
  have K : Ok0 G A s [(h0, .inr (0, [.null, .null, .null, .ref q1, .int 0, .int 0, .ref q2, .ref q3, .ref q4, .null, .int 0, .null, .int 0, .int 0])), (q1, .inl (G.2.2.1 1, 4500, .inl (fun _ => 0))), (q2, .inl (G.2.2.1 1, 1501, .inl (fun _ => 0))), (q3, .inl (G.2.2.1 1, 40, .inl (fun _ => 0))), (q4, .inl (G.2.2.1 1, 40, .inl (fun _ => 0))), (q5, .inl (G.2.2.1 1, 40, .inl (fun _ => 0)))] H _ := K
  refine o_put F hnm K 0 (k := 9) cfX0 rfl (by decide) kX0_28 rfl rfl rfl (Nat.le_of_ble_eq_true rfl) [(h0, .inr (0, [.null, .null, .null, .ref q1, .int 0, .int 0, .ref q2, .ref q3, .ref q4, .ref q5, .int 0, .null, .int 0, .int 0])), (q1, .inl (G.2.2.1 1, 4500, .inl (fun _ => 0))), (q2, .inl (G.2.2.1 1, 1501, .inl (fun _ => 0))), (q3, .inl (G.2.2.1 1, 40, .inl (fun _ => 0))), (q4, .inl (G.2.2.1 1, 40, .inl (fun _ => 0))), (q5, .inl (G.2.2.1 1, 40, .inl (fun _ => 0)))] rfl dX0_init_43 (fun H locs K => ?_)
  refine lv_aload_n hx hb dX0_init_46 rfl (lv_at hl 0 rfl) ?_
  refine lv_sipush (v := 290) hx hb dX0_init_47 kS_290 ?_
  refine o_newa F K 1 (a0 := (290, .inl (fun _ => 0))) (by decide) rfl ar1 290 (fun _ => rfl) (by decide) (by decide) (by decide) (Nat.le_of_ble_eq_true rfl) (Nat.le_of_ble_eq_true rfl) dX0_init_50 (fun q6 H K => ?_)
  have K : Ok0 G A s [(h0, .inr (0, [.null, .null, .null, .ref q1, .int 0, .int 0, .ref q2, .ref q3, .ref q4, .ref q5, .int 0, .null, .int 0, .int 0])), (q1, .inl (G.2.2.1 1, 4500, .inl (fun _ => 0))), (q2, .inl (G.2.2.1 1, 1501, .inl (fun _ => 0))), (q3, .inl (G.2.2.1 1, 40, .inl (fun _ => 0))), (q4, .inl (G.2.2.1 1, 40, .inl (fun _ => 0))), (q5, .inl (G.2.2.1 1, 40, .inl (fun _ => 0))), (q6, .inl (G.2.2.1 1, 290, .inl (fun _ => 0)))] H _ := K
  refine o_put F hnm K 0 (k := 11) cfX0 rfl (by decide) kX0_31 rfl rfl rfl (Nat.le_of_ble_eq_true rfl) [(h0, .inr (0, [.null, .null, .null, .ref q1, .int 0, .int 0, .ref q2, .ref q3, .ref q4, .ref q5, .int 0, .ref q6, .int 0, .int 0])), (q1, .inl (G.2.2.1 1, 4500, .inl (fun _ => 0))), (q2, .inl (G.2.2.1 1, 1501, .inl (fun _ => 0))), (q3, .inl (G.2.2.1 1, 40, .inl (fun _ => 0))), (q4, .inl (G.2.2.1 1, 40, .inl (fun _ => 0))), (q5, .inl (G.2.2.1 1, 40, .inl (fun _ => 0))), (q6, .inl (G.2.2.1 1, 290, .inl (fun _ => 0)))] rfl dX0_init_52 (fun H locs K => ?_)
  refine lv_aload_n hx hb dX0_init_55 rfl (lv_at hl 0 rfl) ?_
  refine lv_aload_n hx hb dX0_init_56 rfl (lv_at hl 1 rfl) ?_
  refine o_put F hnm K 0 (k := 0) cfX0 rfl (by decide) kX0_34 rfl rfl rfl (Nat.le_of_ble_eq_true rfl) [(h0, .inr (0, [.ref r0, .null, .null, .ref q1, .int 0, .int 0, .ref q2, .ref q3, .ref q4, .ref q5, .int 0, .ref q6, .int 0, .int 0])), (q1, .inl (G.2.2.1 1, 4500, .inl (fun _ => 0))), (q2, .inl (G.2.2.1 1, 1501, .inl (fun _ => 0))), (q3, .inl (G.2.2.1 1, 40, .inl (fun _ => 0))), (q4, .inl (G.2.2.1 1, 40, .inl (fun _ => 0))), (q5, .inl (G.2.2.1 1, 40, .inl (fun _ => 0))), (q6, .inl (G.2.2.1 1, 290, .inl (fun _ => 0)))] rfl dX0_init_57 (fun H locs K => ?_)
  refine lv_aload_n hx hb dX0_init_60 rfl (lv_at hl 0 rfl) ?_
  refine lv_aload_n hx hb dX0_init_61 rfl (lv_at hl 2 rfl) ?_
  refine o_put F hnm K 0 (k := 1) cfX0 rfl (by decide) kX0_38 rfl rfl rfl (Nat.le_of_ble_eq_true rfl) [(h0, .inr (0, [.ref r0, .ref r1, .null, .ref q1, .int 0, .int 0, .ref q2, .ref q3, .ref q4, .ref q5, .int 0, .ref q6, .int 0, .int 0])), (q1, .inl (G.2.2.1 1, 4500, .inl (fun _ => 0))), (q2, .inl (G.2.2.1 1, 1501, .inl (fun _ => 0))), (q3, .inl (G.2.2.1 1, 40, .inl (fun _ => 0))), (q4, .inl (G.2.2.1 1, 40, .inl (fun _ => 0))), (q5, .inl (G.2.2.1 1, 40, .inl (fun _ => 0))), (q6, .inl (G.2.2.1 1, 290, .inl (fun _ => 0)))] rfl dX0_init_62 (fun H locs K => ?_)
  refine lv_aload_n hx hb dX0_init_65 rfl (lv_at hl 0 rfl) ?_
  refine lv_aload_n hx hb dX0_init_66 rfl (lv_at hl 3 rfl) ?_
  refine o_put F hnm K 0 (k := 2) cfX0 rfl (by decide) kX0_42 rfl rfl rfl (Nat.le_of_ble_eq_true rfl) [(h0, .inr (0, [.ref r0, .ref r1, .ref r2, .ref q1, .int 0, .int 0, .ref q2, .ref q3, .ref q4, .ref q5, .int 0, .ref q6, .int 0, .int 0])), (q1, .inl (G.2.2.1 1, 4500, .inl (fun _ => 0))), (q2, .inl (G.2.2.1 1, 1501, .inl (fun _ => 0))), (q3, .inl (G.2.2.1 1, 40, .inl (fun _ => 0))), (q4, .inl (G.2.2.1 1, 40, .inl (fun _ => 0))), (q5, .inl (G.2.2.1 1, 40, .inl (fun _ => 0))), (q6, .inl (G.2.2.1 1, 290, .inl (fun _ => 0)))] rfl dX0_init_67 (fun H locs K => ?_)
  exact o_ret B K ⟨q1, q2, q3, q4, q5, q6, rfl⟩ dX0_init_70
abbrev rmX5_init : Room := { frames := 1, cells := 8, slots := 1410, locals := 12 }
set_option maxRecDepth 100000 in
set_option maxHeartbeats 4000000 in
theorem cX5_loop {p : Program} {l : Launch} {e : Env} {s : State} {m : MethodId} {below : List Frame} {meth : Method} {c : Code} {A : Nat → Prop} (G : Gt) (h0 r0 q1 q2 q3 q4 q5 q6 q7 q8 : Nat) (B : Bd p s m [.ref h0, .ref r0] meth c yX5_init cX5_init 3 none) : ∀ (n i : Nat), i + n = 220 → ∀ (x : Int32) (H : Heap) (locs : List Loc) (ls : Array Slot), x = nI i → Ok0 G A s [(h0, .inr (5, [.ref r0, .ref q1, .ref q2, .ref q3, .ref q4, .ref q5, .int 0, .int 0, .ref q6, .ref q7, .ref q8, .int 0])), (q1, .inl (G.2.2.1 1, 150, .inl (fun _ => 0))), (q2, .inl (G.2.2.1 1, 150, .inl (fun _ => 0))), (q3, .inl (G.2.2.1 1, 150, .inl (fun _ => 0))), (q4, .inl (G.2.2.1 1, 150, .inl (fun _ => 0))), (q5, .inl (G.2.2.1 1, 150, .inl (fun _ => 0))), (q6, .inl (G.2.2.1 1, 220, .inl (fill i))), (q7, .inl (G.2.2.1 1, 220, .inl (fun _ => 0))), (q8, .inl (G.2.2.1 1, 220, .inl (fun _ => 0)))] H locs → lv_has ls 3 [(0, .ref h0), (1, .ref r0), (2, .int x)] → W p l e rmX5_init s m ([.ref h0, .ref r0] : List Value).toArray below meth c H locs 8 1410 (MQ below (Qn G A (fun ws' => ∃ q1 q2 q3 q4 q5 q6 q7 q8 : Nat, ws' = [(h0, .inr (5, [.ref r0, .ref q1, .ref q2, .ref q3, .ref q4, .ref q5, .int 0, .int 0, .ref q6, .ref q7, .ref q8, .int 0])), (q1, .inl (G.2.2.1 1, 150, .inl (fun _ => 0))), (q2, .inl (G.2.2.1 1, 150, .inl (fun _ => 0))), (q3, .inl (G.2.2.1 1, 150, .inl (fun _ => 0))), (q4, .inl (G.2.2.1 1, 150, .inl (fun _ => 0))), (q5, .inl (G.2.2.1 1, 150, .inl (fun _ => 0))), (q6, .inl (G.2.2.1 1, 220, .inl (fill 220))), (q7, .inl (G.2.2.1 1, 220, .inl (fun _ => 0))), (q8, .inl (G.2.2.1 1, 220, .inl (fun _ => 0)))])) ([.ref h0, .ref r0] : List Value).toArray s 8 1410 A) (F0 m 83 ls []) := by
  have F := B.1
  have hx := F.1
  have hb := F.2.1
  intro n
  induction n with
  | zero =>
    intro i hi x H locs ls ex K hl
    obtain rfl : i = 220 := by omega
    refine lv_iload_n hx hb dX5_init_83 rfl (lv_at hl 2 rfl) ?_
    refine lv_sipush (v := 220) hx hb dX5_init_84 kS_220 ?_
    refine lv_icmp_ge (pc := 87) (tgt := 103) hx hb dX5_init_87 (by decide) (fun c1 => ?_) (fun c1 => ?_)
    · exact o_ret B K ⟨q1, q2, q3, q4, q5, q6, q7, q8, rfl⟩ dX5_init_103
    · exact absurd (by rw [ex]; decide) c1
  | succ n ih =>
    intro i hi x H locs ls ex K hl
    refine lv_iload_n hx hb dX5_init_83 rfl (lv_at hl 2 rfl) ?_
    refine lv_sipush (v := 220) hx hb dX5_init_84 kS_220 ?_
    refine lv_icmp_ge (pc := 87) (tgt := 103) hx hb dX5_init_87 (by decide) (fun c1 => ?_) (fun c1 => ?_)
    · exact absurd c1 (by rw [ex]; exact nI_ge (a := i) (b := 220) (by omega) (by omega))
    · refine lv_aload_n hx hb dX5_init_90 rfl (lv_at hl 0 rfl) ?_
      refine o_get F K 0 (k := 8) cfX5 rfl (by decide) kX5_27 rfl dX5_init_91 ?_
      refine lv_iload_n hx hb dX5_init_94 rfl (lv_at hl 2 rfl) ?_
      refine lv_iconst (v := (-1)) hx hb dX5_init_95 kI_m1 ?_
      refine o_iast F K 6 (f := fill i) rfl (by rw [ex]; exact vp_in_nI (by omega) (by omega)) dX5_init_96 (fun H locs K => ?_)
      have e2 : upd (fill i) x.toNatClampNeg (-1) = fill (i + 1) := by rw [ex, nI_clamp (by omega)]; exact fill_s
      rw [e2] at K
      have K : Ok0 G A s [(h0, .inr (5, [.ref r0, .ref q1, .ref q2, .ref q3, .ref q4, .ref q5, .int 0, .int 0, .ref q6, .ref q7, .ref q8, .int 0])), (q1, .inl (G.2.2.1 1, 150, .inl (fun _ => 0))), (q2, .inl (G.2.2.1 1, 150, .inl (fun _ => 0))), (q3, .inl (G.2.2.1 1, 150, .inl (fun _ => 0))), (q4, .inl (G.2.2.1 1, 150, .inl (fun _ => 0))), (q5, .inl (G.2.2.1 1, 150, .inl (fun _ => 0))), (q6, .inl (G.2.2.1 1, 220, .inl (fill (i + 1)))), (q7, .inl (G.2.2.1 1, 220, .inl (fun _ => 0))), (q8, .inl (G.2.2.1 1, 220, .inl (fun _ => 0)))] H locs := K
      obtain ⟨x2, ex2⟩ : ∃ y : Int32, y = x + 1 := ⟨_, rfl⟩
      refine lv_iinc (v := x2) (lv' := [(2, .int x2), (0, .ref h0), (1, .ref r0)]) hx hb dX5_init_97 hl (k := 2) rfl (by rw [kI_1, ex2]) (by decide) rfl (fun ls hl => ?_)
      refine lv_goto (pc := 100) (tgt := 83) hx hb dX5_init_100 (by decide) ?_
      exact ih (i + 1) (by omega) x2 _ _ _ (by rw [ex2, ex]; exact nI_1 i) K (lv_sub hl [1, 2, 0] rfl)
set_option maxRecDepth 100000 in
set_option maxHeartbeats 4000000 in
theorem pX5_init {l : Launch} (G : Gt) (h0 r0 : Nat) : CtrN l yX5_init cX5_init 3 rmX5_init [.ref h0, .ref r0] G [] [(h0, .inr (5, [.null, .null, .null, .null, .null, .null, .int 0, .int 0, .null, .null, .null, .int 0]))] 8 1410 (fun ws' => ∃ q1 q2 q3 q4 q5 q6 q7 q8 : Nat, ws' = [(h0, .inr (5, [.ref r0, .ref q1, .ref q2, .ref q3, .ref q4, .ref q5, .int 0, .int 0, .ref q6, .ref q7, .ref q8, .int 0])), (q1, .inl (G.2.2.1 1, 150, .inl (fun _ => 0))), (q2, .inl (G.2.2.1 1, 150, .inl (fun _ => 0))), (q3, .inl (G.2.2.1 1, 150, .inl (fun _ => 0))), (q4, .inl (G.2.2.1 1, 150, .inl (fun _ => 0))), (q5, .inl (G.2.2.1 1, 150, .inl (fun _ => 0))), (q6, .inl (G.2.2.1 1, 220, .inl (fill 220))), (q7, .inl (G.2.2.1 1, 220, .inl (fun _ => 0))), (q8, .inl (G.2.2.1 1, 220, .inl (fun _ => 0)))]) := by
  refine CtrN.mk (by decide) (Nat.le_of_ble_eq_true rfl) (fun p e s m below meth c A ls B hnm hN K hl => ?_)
  have F := B.1
  have hx := F.1
  have hb := F.2.1
  have hnm : meth.name = "<init>" := hnm
  have hl : lv_has ls 3 [(0, .ref h0), (1, .ref r0)] := hl
  refine lv_aload_n hx hb dX5_init_0 rfl (lv_at hl 0 rfl) ?_
  refine o_obj F hl.1 lX5_5 wObj ⟨(Nat.le_of_ble_eq_true rfl), (Nat.le_of_ble_eq_true rfl)⟩ dX5_init_1 ?_
  refine lv_aload_n hx hb dX5_init_4 rfl (lv_at hl 0 rfl) ?_
  refine lv_sipush (v := 150) hx hb dX5_init_5 kS_150 ?_
  refine o_newa F K 1 (a0 := (150, .inl (fun _ => 0))) (by decide) rfl ar1 150 (fun _ => rfl) (by decide) (by decide) (by decide) (Nat.le_of_ble_eq_true rfl) (Nat.le_of_ble_eq_true rfl) dX5_init_8 (fun q1 H K => ?_)
  have K : Ok0 G A s [(h0, .inr (5, [.null, .null, .null, .null, .null, .null, .int 0, .int 0, .null, .null, .null, .int 0])), (q1, .inl (G.2.2.1 1, 150, .inl (fun _ => 0)))] H _ := K
  refine o_put F hnm K 0 (k := 1) cfX5 rfl (by decide) kX5_11 rfl rfl rfl (Nat.le_of_ble_eq_true rfl) [(h0, .inr (5, [.null, .ref q1, .null, .null, .null, .null, .int 0, .int 0, .null, .null, .null, .int 0])), (q1, .inl (G.2.2.1 1, 150, .inl (fun _ => 0)))] rfl dX5_init_10 (fun H locs K => ?_)
  refine lv_aload_n hx hb dX5_init_13 rfl (lv_at hl 0 rfl) ?_
  refine lv_sipush (v := 150) hx hb dX5_init_14 kS_150 ?_
  refine o_newa F K 1 (a0 := (150, .inl (fun _ => 0))) (by decide) rfl ar1 150 (fun _ => rfl) (by decide) (by decide) (by decide) (Nat.le_of_ble_eq_true rfl) (Nat.le_of_ble_eq_true rfl) dX5_init_17 (fun q2 H K => ?_)
  have K : Ok0 G A s [(h0, .inr (5, [.null, .ref q1, .null, .null, .null, .null, .int 0, .int 0, .null, .null, .null, .int 0])), (q1, .inl (G.2.2.1 1, 150, .inl (fun _ => 0))), (q2, .inl (G.2.2.1 1, 150, .inl (fun _ => 0)))] H _ := K
  refine o_put F hnm K 0 (k := 2) cfX5 rfl (by decide) kX5_15 rfl rfl rfl (Nat.le_of_ble_eq_true rfl) [(h0, .inr (5, [.null, .ref q1, .ref q2, .null, .null, .null, .int 0, .int 0, .null, .null, .null, .int 0])), (q1, .inl (G.2.2.1 1, 150, .inl (fun _ => 0))), (q2, .inl (G.2.2.1 1, 150, .inl (fun _ => 0)))] rfl dX5_init_19 (fun H locs K => ?_)
  refine lv_aload_n hx hb dX5_init_22 rfl (lv_at hl 0 rfl) ?_
  refine lv_sipush (v := 150) hx hb dX5_init_23 kS_150 ?_
  refine o_newa F K 1 (a0 := (150, .inl (fun _ => 0))) (by decide) rfl ar1 150 (fun _ => rfl) (by decide) (by decide) (by decide) (Nat.le_of_ble_eq_true rfl) (Nat.le_of_ble_eq_true rfl) dX5_init_26 (fun q3 H K => ?_)
  have K : Ok0 G A s [(h0, .inr (5, [.null, .ref q1, .ref q2, .null, .null, .null, .int 0, .int 0, .null, .null, .null, .int 0])), (q1, .inl (G.2.2.1 1, 150, .inl (fun _ => 0))), (q2, .inl (G.2.2.1 1, 150, .inl (fun _ => 0))), (q3, .inl (G.2.2.1 1, 150, .inl (fun _ => 0)))] H _ := K
  refine o_put F hnm K 0 (k := 3) cfX5 rfl (by decide) kX5_18 rfl rfl rfl (Nat.le_of_ble_eq_true rfl) [(h0, .inr (5, [.null, .ref q1, .ref q2, .ref q3, .null, .null, .int 0, .int 0, .null, .null, .null, .int 0])), (q1, .inl (G.2.2.1 1, 150, .inl (fun _ => 0))), (q2, .inl (G.2.2.1 1, 150, .inl (fun _ => 0))), (q3, .inl (G.2.2.1 1, 150, .inl (fun _ => 0)))] rfl dX5_init_28 (fun H locs K => ?_)
  refine lv_aload_n hx hb dX5_init_31 rfl (lv_at hl 0 rfl) ?_
  refine lv_sipush (v := 150) hx hb dX5_init_32 kS_150 ?_
  refine o_newa F K 1 (a0 := (150, .inl (fun _ => 0))) (by decide) rfl ar1 150 (fun _ => rfl) (by decide) (by decide) (by decide) (Nat.le_of_ble_eq_true rfl) (Nat.le_of_ble_eq_true rfl) dX5_init_35 (fun q4 H K => ?_)
  have K : Ok0 G A s [(h0, .inr (5, [.null, .ref q1, .ref q2, .ref q3, .null, .null, .int 0, .int 0, .null, .null, .null, .int 0])), (q1, .inl (G.2.2.1 1, 150, .inl (fun _ => 0))), (q2, .inl (G.2.2.1 1, 150, .inl (fun _ => 0))), (q3, .inl (G.2.2.1 1, 150, .inl (fun _ => 0))), (q4, .inl (G.2.2.1 1, 150, .inl (fun _ => 0)))] H _ := K
  refine o_put F hnm K 0 (k := 4) cfX5 rfl (by decide) kX5_21 rfl rfl rfl (Nat.le_of_ble_eq_true rfl) [(h0, .inr (5, [.null, .ref q1, .ref q2, .ref q3, .ref q4, .null, .int 0, .int 0, .null, .null, .null, .int 0])), (q1, .inl (G.2.2.1 1, 150, .inl (fun _ => 0))), (q2, .inl (G.2.2.1 1, 150, .inl (fun _ => 0))), (q3, .inl (G.2.2.1 1, 150, .inl (fun _ => 0))), (q4, .inl (G.2.2.1 1, 150, .inl (fun _ => 0)))] rfl dX5_init_37 (fun H locs K => ?_)
  refine lv_aload_n hx hb dX5_init_40 rfl (lv_at hl 0 rfl) ?_
  refine lv_sipush (v := 150) hx hb dX5_init_41 kS_150 ?_
  refine o_newa F K 1 (a0 := (150, .inl (fun _ => 0))) (by decide) rfl ar1 150 (fun _ => rfl) (by decide) (by decide) (by decide) (Nat.le_of_ble_eq_true rfl) (Nat.le_of_ble_eq_true rfl) dX5_init_44 (fun q5 H K => ?_)
  have K : Ok0 G A s [(h0, .inr (5, [.null, .ref q1, .ref q2, .ref q3, .ref q4, .null, .int 0, .int 0, .null, .null, .null, .int 0])), (q1, .inl (G.2.2.1 1, 150, .inl (fun _ => 0))), (q2, .inl (G.2.2.1 1, 150, .inl (fun _ => 0))), (q3, .inl (G.2.2.1 1, 150, .inl (fun _ => 0))), (q4, .inl (G.2.2.1 1, 150, .inl (fun _ => 0))), (q5, .inl (G.2.2.1 1, 150, .inl (fun _ => 0)))] H _ := K
  refine o_put F hnm K 0 (k := 5) cfX5 rfl (by decide) kX5_24 rfl rfl rfl (Nat.le_of_ble_eq_true rfl) [(h0, .inr (5, [.null, .ref q1, .ref q2, .ref q3, .ref q4, .ref q5, .int 0, .int 0, .null, .null, .null, .int 0])), (q1, .inl (G.2.2.1 1, 150, .inl (fun _ => 0))), (q2, .inl (G.2.2.1 1, 150, .inl (fun _ => 0))), (q3, .inl (G.2.2.1 1, 150, .inl (fun _ => 0))), (q4, .inl (G.2.2.1 1, 150, .inl (fun _ => 0))), (q5, .inl (G.2.2.1 1, 150, .inl (fun _ => 0)))] rfl dX5_init_46 (fun H locs K => ?_)
  refine lv_aload_n hx hb dX5_init_49 rfl (lv_at hl 0 rfl) ?_
  refine lv_sipush (v := 220) hx hb dX5_init_50 kS_220 ?_
  refine o_newa F K 1 (a0 := (220, .inl (fill 0))) (by decide) rfl ar1 220 fill_ha (by decide) (by decide) (by decide) (Nat.le_of_ble_eq_true rfl) (Nat.le_of_ble_eq_true rfl) dX5_init_53 (fun q6 H K => ?_)
  have K : Ok0 G A s [(h0, .inr (5, [.null, .ref q1, .ref q2, .ref q3, .ref q4, .ref q5, .int 0, .int 0, .null, .null, .null, .int 0])), (q1, .inl (G.2.2.1 1, 150, .inl (fun _ => 0))), (q2, .inl (G.2.2.1 1, 150, .inl (fun _ => 0))), (q3, .inl (G.2.2.1 1, 150, .inl (fun _ => 0))), (q4, .inl (G.2.2.1 1, 150, .inl (fun _ => 0))), (q5, .inl (G.2.2.1 1, 150, .inl (fun _ => 0))), (q6, .inl (G.2.2.1 1, 220, .inl (fill 0)))] H _ := K
  refine o_put F hnm K 0 (k := 8) cfX5 rfl (by decide) kX5_27 rfl rfl rfl (Nat.le_of_ble_eq_true rfl) [(h0, .inr (5, [.null, .ref q1, .ref q2, .ref q3, .ref q4, .ref q5, .int 0, .int 0, .ref q6, .null, .null, .int 0])), (q1, .inl (G.2.2.1 1, 150, .inl (fun _ => 0))), (q2, .inl (G.2.2.1 1, 150, .inl (fun _ => 0))), (q3, .inl (G.2.2.1 1, 150, .inl (fun _ => 0))), (q4, .inl (G.2.2.1 1, 150, .inl (fun _ => 0))), (q5, .inl (G.2.2.1 1, 150, .inl (fun _ => 0))), (q6, .inl (G.2.2.1 1, 220, .inl (fill 0)))] rfl dX5_init_55 (fun H locs K => ?_)
  refine lv_aload_n hx hb dX5_init_58 rfl (lv_at hl 0 rfl) ?_
  refine lv_sipush (v := 220) hx hb dX5_init_59 kS_220 ?_
  refine o_newa F K 1 (a0 := (220, .inl (fun _ => 0))) (by decide) rfl ar1 220 (fun _ => rfl) (by decide) (by decide) (by decide) (Nat.le_of_ble_eq_true rfl) (Nat.le_of_ble_eq_true rfl) dX5_init_62 (fun q7 H K => ?_)
  have K : Ok0 G A s [(h0, .inr (5, [.null, .ref q1, .ref q2, .ref q3, .ref q4, .ref q5, .int 0, .int 0, .ref q6, .null, .null, .int 0])), (q1, .inl (G.2.2.1 1, 150, .inl (fun _ => 0))), (q2, .inl (G.2.2.1 1, 150, .inl (fun _ => 0))), (q3, .inl (G.2.2.1 1, 150, .inl (fun _ => 0))), (q4, .inl (G.2.2.1 1, 150, .inl (fun _ => 0))), (q5, .inl (G.2.2.1 1, 150, .inl (fun _ => 0))), (q6, .inl (G.2.2.1 1, 220, .inl (fill 0))), (q7, .inl (G.2.2.1 1, 220, .inl (fun _ => 0)))] H _ := K
  refine o_put F hnm K 0 (k := 9) cfX5 rfl (by decide) kX5_30 rfl rfl rfl (Nat.le_of_ble_eq_true rfl) [(h0, .inr (5, [.null, .ref q1, .ref q2, .ref q3, .ref q4, .ref q5, .int 0, .int 0, .ref q6, .ref q7, .null, .int 0])), (q1, .inl (G.2.2.1 1, 150, .inl (fun _ => 0))), (q2, .inl (G.2.2.1 1, 150, .inl (fun _ => 0))), (q3, .inl (G.2.2.1 1, 150, .inl (fun _ => 0))), (q4, .inl (G.2.2.1 1, 150, .inl (fun _ => 0))), (q5, .inl (G.2.2.1 1, 150, .inl (fun _ => 0))), (q6, .inl (G.2.2.1 1, 220, .inl (fill 0))), (q7, .inl (G.2.2.1 1, 220, .inl (fun _ => 0)))] rfl dX5_init_64 (fun H locs K => ?_)
  refine lv_aload_n hx hb dX5_init_67 rfl (lv_at hl 0 rfl) ?_
  refine lv_sipush (v := 220) hx hb dX5_init_68 kS_220 ?_
  refine o_newa F K 1 (a0 := (220, .inl (fun _ => 0))) (by decide) rfl ar1 220 (fun _ => rfl) (by decide) (by decide) (by decide) (Nat.le_of_ble_eq_true rfl) (Nat.le_of_ble_eq_true rfl) dX5_init_71 (fun q8 H K => ?_)
  have K : Ok0 G A s [(h0, .inr (5, [.null, .ref q1, .ref q2, .ref q3, .ref q4, .ref q5, .int 0, .int 0, .ref q6, .ref q7, .null, .int 0])), (q1, .inl (G.2.2.1 1, 150, .inl (fun _ => 0))), (q2, .inl (G.2.2.1 1, 150, .inl (fun _ => 0))), (q3, .inl (G.2.2.1 1, 150, .inl (fun _ => 0))), (q4, .inl (G.2.2.1 1, 150, .inl (fun _ => 0))), (q5, .inl (G.2.2.1 1, 150, .inl (fun _ => 0))), (q6, .inl (G.2.2.1 1, 220, .inl (fill 0))), (q7, .inl (G.2.2.1 1, 220, .inl (fun _ => 0))), (q8, .inl (G.2.2.1 1, 220, .inl (fun _ => 0)))] H _ := K
  refine o_put F hnm K 0 (k := 10) cfX5 rfl (by decide) kX5_33 rfl rfl rfl (Nat.le_of_ble_eq_true rfl) [(h0, .inr (5, [.null, .ref q1, .ref q2, .ref q3, .ref q4, .ref q5, .int 0, .int 0, .ref q6, .ref q7, .ref q8, .int 0])), (q1, .inl (G.2.2.1 1, 150, .inl (fun _ => 0))), (q2, .inl (G.2.2.1 1, 150, .inl (fun _ => 0))), (q3, .inl (G.2.2.1 1, 150, .inl (fun _ => 0))), (q4, .inl (G.2.2.1 1, 150, .inl (fun _ => 0))), (q5, .inl (G.2.2.1 1, 150, .inl (fun _ => 0))), (q6, .inl (G.2.2.1 1, 220, .inl (fill 0))), (q7, .inl (G.2.2.1 1, 220, .inl (fun _ => 0))), (q8, .inl (G.2.2.1 1, 220, .inl (fun _ => 0)))] rfl dX5_init_73 (fun H locs K => ?_)
  refine lv_aload_n hx hb dX5_init_76 rfl (lv_at hl 0 rfl) ?_
  refine lv_aload_n hx hb dX5_init_77 rfl (lv_at hl 1 rfl) ?_
  refine o_put F hnm K 0 (k := 0) cfX5 rfl (by decide) kX5_36 rfl rfl rfl (Nat.le_of_ble_eq_true rfl) [(h0, .inr (5, [.ref r0, .ref q1, .ref q2, .ref q3, .ref q4, .ref q5, .int 0, .int 0, .ref q6, .ref q7, .ref q8, .int 0])), (q1, .inl (G.2.2.1 1, 150, .inl (fun _ => 0))), (q2, .inl (G.2.2.1 1, 150, .inl (fun _ => 0))), (q3, .inl (G.2.2.1 1, 150, .inl (fun _ => 0))), (q4, .inl (G.2.2.1 1, 150, .inl (fun _ => 0))), (q5, .inl (G.2.2.1 1, 150, .inl (fun _ => 0))), (q6, .inl (G.2.2.1 1, 220, .inl (fill 0))), (q7, .inl (G.2.2.1 1, 220, .inl (fun _ => 0))), (q8, .inl (G.2.2.1 1, 220, .inl (fun _ => 0)))] rfl dX5_init_78 (fun H locs K => ?_)
  refine lv_iconst (v := 0) hx hb dX5_init_81 kI_0 ?_
  refine lv_istore_n (lv' := [(2, .int 0), (0, .ref h0), (1, .ref r0)]) hx hb dX5_init_82 rfl hl (by decide) rfl (fun ls hl => ?_)
  exact cX5_loop G h0 r0 q1 q2 q3 q4 q5 q6 q7 q8 B 220 0 rfl 0 _ _ _ nI_0.symm K (lv_sub hl [1, 2, 0] rfl)
abbrev rmX9_init : Room := { frames := 1, cells := 3, slots := 666, locals := 12 }
set_option maxRecDepth 100000 in
set_option maxHeartbeats 4000000 in
theorem pX9_init {l : Launch} (G : Gt) (h0 r0 r1 : Nat) : CtrN l yX9_init cX9_init 3 rmX9_init [.ref h0, .ref r0, .ref r1] G [] [(h0, .inr (9, [.null, .null, .null, .null, .null, .int 0]))] 3 666 (fun ws' => ∃ q1 q2 q3 : Nat, ws' = [(h0, .inr (9, [.ref r0, .ref r1, .ref q1, .ref q2, .ref q3, .int 0])), (q1, .inl (G.2.2.1 1, 222, .inl (fun _ => 0))), (q2, .inl (G.2.2.1 1, 222, .inl (fun _ => 0))), (q3, .inl (G.2.2.1 1, 222, .inl (fun _ => 0)))]) := by
  refine CtrN.mk (by decide) (Nat.le_of_ble_eq_true rfl) (fun p e s m below meth c A ls B hnm hN K hl => ?_)
  have F := B.1
  have hx := F.1
  have hb := F.2.1
  have hnm : meth.name = "<init>" := hnm
  have hl : lv_has ls 3 [(0, .ref h0), (1, .ref r0), (2, .ref r1)] := hl
  refine lv_aload_n hx hb dX9_init_0 rfl (lv_at hl 0 rfl) ?_
  refine o_obj F hl.1 lX9_5 wObj ⟨(Nat.le_of_ble_eq_true rfl), (Nat.le_of_ble_eq_true rfl)⟩ dX9_init_1 ?_
  refine lv_aload_n hx hb dX9_init_4 rfl (lv_at hl 0 rfl) ?_
  refine lv_sipush (v := 222) hx hb dX9_init_5 kS_222 ?_
  refine o_newa F K 1 (a0 := (222, .inl (fun _ => 0))) (by decide) rfl ar1 222 (fun _ => rfl) (by decide) (by decide) (by decide) (Nat.le_of_ble_eq_true rfl) (Nat.le_of_ble_eq_true rfl) dX9_init_8 (fun q1 H K => ?_)
  have K : Ok0 G A s [(h0, .inr (9, [.null, .null, .null, .null, .null, .int 0])), (q1, .inl (G.2.2.1 1, 222, .inl (fun _ => 0)))] H _ := K
  refine o_put F hnm K 0 (k := 2) cfX9 rfl (by decide) kX9_13 rfl rfl rfl (Nat.le_of_ble_eq_true rfl) [(h0, .inr (9, [.null, .null, .ref q1, .null, .null, .int 0])), (q1, .inl (G.2.2.1 1, 222, .inl (fun _ => 0)))] rfl dX9_init_10 (fun H locs K => ?_)
  refine lv_aload_n hx hb dX9_init_13 rfl (lv_at hl 0 rfl) ?_
  refine lv_sipush (v := 222) hx hb dX9_init_14 kS_222 ?_
  refine o_newa F K 1 (a0 := (222, .inl (fun _ => 0))) (by decide) rfl ar1 222 (fun _ => rfl) (by decide) (by decide) (by decide) (Nat.le_of_ble_eq_true rfl) (Nat.le_of_ble_eq_true rfl) dX9_init_17 (fun q2 H K => ?_)
  have K : Ok0 G A s [(h0, .inr (9, [.null, .null, .ref q1, .null, .null, .int 0])), (q1, .inl (G.2.2.1 1, 222, .inl (fun _ => 0))), (q2, .inl (G.2.2.1 1, 222, .inl (fun _ => 0)))] H _ := K
  refine o_put F hnm K 0 (k := 3) cfX9 rfl (by decide) kX9_17 rfl rfl rfl (Nat.le_of_ble_eq_true rfl) [(h0, .inr (9, [.null, .null, .ref q1, .ref q2, .null, .int 0])), (q1, .inl (G.2.2.1 1, 222, .inl (fun _ => 0))), (q2, .inl (G.2.2.1 1, 222, .inl (fun _ => 0)))] rfl dX9_init_19 (fun H locs K => ?_)
  refine lv_aload_n hx hb dX9_init_22 rfl (lv_at hl 0 rfl) ?_
  refine lv_sipush (v := 222) hx hb dX9_init_23 kS_222 ?_
  refine o_newa F K 1 (a0 := (222, .inl (fun _ => 0))) (by decide) rfl ar1 222 (fun _ => rfl) (by decide) (by decide) (by decide) (Nat.le_of_ble_eq_true rfl) (Nat.le_of_ble_eq_true rfl) dX9_init_26 (fun q3 H K => ?_)
  have K : Ok0 G A s [(h0, .inr (9, [.null, .null, .ref q1, .ref q2, .null, .int 0])), (q1, .inl (G.2.2.1 1, 222, .inl (fun _ => 0))), (q2, .inl (G.2.2.1 1, 222, .inl (fun _ => 0))), (q3, .inl (G.2.2.1 1, 222, .inl (fun _ => 0)))] H _ := K
  refine o_put F hnm K 0 (k := 4) cfX9 rfl (by decide) kX9_20 rfl rfl rfl (Nat.le_of_ble_eq_true rfl) [(h0, .inr (9, [.null, .null, .ref q1, .ref q2, .ref q3, .int 0])), (q1, .inl (G.2.2.1 1, 222, .inl (fun _ => 0))), (q2, .inl (G.2.2.1 1, 222, .inl (fun _ => 0))), (q3, .inl (G.2.2.1 1, 222, .inl (fun _ => 0)))] rfl dX9_init_28 (fun H locs K => ?_)
  refine lv_aload_n hx hb dX9_init_31 rfl (lv_at hl 0 rfl) ?_
  refine lv_aload_n hx hb dX9_init_32 rfl (lv_at hl 1 rfl) ?_
  refine o_put F hnm K 0 (k := 0) cfX9 rfl (by decide) kX9_23 rfl rfl rfl (Nat.le_of_ble_eq_true rfl) [(h0, .inr (9, [.ref r0, .null, .ref q1, .ref q2, .ref q3, .int 0])), (q1, .inl (G.2.2.1 1, 222, .inl (fun _ => 0))), (q2, .inl (G.2.2.1 1, 222, .inl (fun _ => 0))), (q3, .inl (G.2.2.1 1, 222, .inl (fun _ => 0)))] rfl dX9_init_33 (fun H locs K => ?_)
  refine lv_aload_n hx hb dX9_init_36 rfl (lv_at hl 0 rfl) ?_
  refine lv_aload_n hx hb dX9_init_37 rfl (lv_at hl 2 rfl) ?_
  refine o_put F hnm K 0 (k := 1) cfX9 rfl (by decide) kX9_27 rfl rfl rfl (Nat.le_of_ble_eq_true rfl) [(h0, .inr (9, [.ref r0, .ref r1, .ref q1, .ref q2, .ref q3, .int 0])), (q1, .inl (G.2.2.1 1, 222, .inl (fun _ => 0))), (q2, .inl (G.2.2.1 1, 222, .inl (fun _ => 0))), (q3, .inl (G.2.2.1 1, 222, .inl (fun _ => 0)))] rfl dX9_init_38 (fun H locs K => ?_)
  exact o_ret B K ⟨q1, q2, q3, rfl⟩ dX9_init_41
abbrev rmX8_init : Room := { frames := 1, cells := 0, slots := 0, locals := 12 }
set_option maxRecDepth 100000 in
set_option maxHeartbeats 4000000 in
theorem pX8_init {l : Launch} (G : Gt) (h0 r0 r1 r2 r3 r4 : Nat) : CtrN l yX8_init cX8_init 6 rmX8_init [.ref h0, .ref r0, .ref r1, .ref r2, .ref r3, .ref r4] G [] [(h0, .inr (8, [.null, .null, .null, .null, .null, .int 0]))] 0 0 (fun ws' => ws' = [(h0, .inr (8, [.ref r0, .ref r1, .ref r2, .ref r3, .ref r4, .int 0]))]) := by
  refine CtrN.mk (by decide) (Nat.le_of_ble_eq_true rfl) (fun p e s m below meth c A ls B hnm hN K hl => ?_)
  have F := B.1
  have hx := F.1
  have hb := F.2.1
  have hnm : meth.name = "<init>" := hnm
  have hl : lv_has ls 6 [(0, .ref h0), (1, .ref r0), (2, .ref r1), (3, .ref r2), (4, .ref r3), (5, .ref r4)] := hl
  refine lv_aload_n hx hb dX8_init_0 rfl (lv_at hl 0 rfl) ?_
  refine o_obj F hl.1 lX8_1 wObj ⟨(Nat.le_of_ble_eq_true rfl), (Nat.le_of_ble_eq_true rfl)⟩ dX8_init_1 ?_
  refine lv_aload_n hx hb dX8_init_4 rfl (lv_at hl 0 rfl) ?_
  refine lv_aload_n hx hb dX8_init_5 rfl (lv_at hl 1 rfl) ?_
  refine o_put F hnm K 0 (k := 0) cfX8 rfl (by decide) kX8_7 rfl rfl rfl (Nat.le_of_ble_eq_true rfl) [(h0, .inr (8, [.ref r0, .null, .null, .null, .null, .int 0]))] rfl dX8_init_6 (fun H locs K => ?_)
  refine lv_aload_n hx hb dX8_init_9 rfl (lv_at hl 0 rfl) ?_
  refine lv_aload_n hx hb dX8_init_10 rfl (lv_at hl 2 rfl) ?_
  refine o_put F hnm K 0 (k := 1) cfX8 rfl (by decide) kX8_13 rfl rfl rfl (Nat.le_of_ble_eq_true rfl) [(h0, .inr (8, [.ref r0, .ref r1, .null, .null, .null, .int 0]))] rfl dX8_init_11 (fun H locs K => ?_)
  refine lv_aload_n hx hb dX8_init_14 rfl (lv_at hl 0 rfl) ?_
  refine lv_aload_n hx hb dX8_init_15 rfl (lv_at hl 3 rfl) ?_
  refine o_put F hnm K 0 (k := 2) cfX8 rfl (by decide) kX8_17 rfl rfl rfl (Nat.le_of_ble_eq_true rfl) [(h0, .inr (8, [.ref r0, .ref r1, .ref r2, .null, .null, .int 0]))] rfl dX8_init_16 (fun H locs K => ?_)
  refine lv_aload_n hx hb dX8_init_19 rfl (lv_at hl 0 rfl) ?_
  refine lv_aload hx hb dX8_init_20 (lv_at hl 4 rfl) ?_
  refine o_put F hnm K 0 (k := 3) cfX8 rfl (by decide) kX8_21 rfl rfl rfl (Nat.le_of_ble_eq_true rfl) [(h0, .inr (8, [.ref r0, .ref r1, .ref r2, .ref r3, .null, .int 0]))] rfl dX8_init_22 (fun H locs K => ?_)
  refine lv_aload_n hx hb dX8_init_25 rfl (lv_at hl 0 rfl) ?_
  refine lv_aload hx hb dX8_init_26 (lv_at hl 5 rfl) ?_
  refine o_put F hnm K 0 (k := 4) cfX8 rfl (by decide) kX8_24 rfl rfl rfl (Nat.le_of_ble_eq_true rfl) [(h0, .inr (8, [.ref r0, .ref r1, .ref r2, .ref r3, .ref r4, .int 0]))] rfl dX8_init_28 (fun H locs K => ?_)
  exact o_ret B K rfl dX8_init_31
abbrev rmX3_init : Room := { frames := 1, cells := 6, slots := 906, locals := 12 }
set_option maxRecDepth 100000 in
set_option maxHeartbeats 4000000 in
theorem pX3_init {l : Launch} (G : Gt) (h0 r0 r1 r2 : Nat) : CtrN l yX3_init cX3_init 4 rmX3_init [.ref h0, .ref r0, .ref r1, .ref r2] G [] [(h0, .inr (3, [.null, .null, .null, .null, .null, .null, .null, .null, .null, .int 0, .int 0, .int 0, .int 0, .int 0, .int 0, .int 0]))] 6 906 (fun ws' => ∃ q1 q2 q3 q4 q5 q6 : Nat, ws' = [(h0, .inr (3, [.ref r0, .ref r1, .ref r2, .ref q1, .ref q2, .ref q3, .ref q4, .ref q5, .ref q6, .int 0, .int 0, .int 0, .int 0, .int 0, .int 0, .int 0])), (q1, .inl (G.2.2.1 1, 151, .inl (fun _ => 0))), (q2, .inl (G.2.2.1 1, 151, .inl (fun _ => 0))), (q3, .inl (G.2.2.1 1, 151, .inl (fun _ => 0))), (q4, .inl (G.2.2.1 1, 151, .inl (fun _ => 0))), (q5, .inl (G.2.2.1 1, 151, .inl (fun _ => 0))), (q6, .inl (G.2.2.1 1, 151, .inl (fun _ => 0)))]) := by
  refine CtrN.mk (by decide) (Nat.le_of_ble_eq_true rfl) (fun p e s m below meth c A ls B hnm hN K hl => ?_)
  have F := B.1
  have hx := F.1
  have hb := F.2.1
  have hnm : meth.name = "<init>" := hnm
  have hl : lv_has ls 4 [(0, .ref h0), (1, .ref r0), (2, .ref r1), (3, .ref r2)] := hl
  refine lv_aload_n hx hb dX3_init_0 rfl (lv_at hl 0 rfl) ?_
  refine o_obj F hl.1 lX3_5 wObj ⟨(Nat.le_of_ble_eq_true rfl), (Nat.le_of_ble_eq_true rfl)⟩ dX3_init_1 ?_
  refine lv_aload_n hx hb dX3_init_4 rfl (lv_at hl 0 rfl) ?_
  refine lv_sipush (v := 151) hx hb dX3_init_5 kS_151 ?_
  refine o_newa F K 1 (a0 := (151, .inl (fun _ => 0))) (by decide) rfl ar1 151 (fun _ => rfl) (by decide) (by decide) (by decide) (Nat.le_of_ble_eq_true rfl) (Nat.le_of_ble_eq_true rfl) dX3_init_8 (fun q1 H K => ?_)
  have K : Ok0 G A s [(h0, .inr (3, [.null, .null, .null, .null, .null, .null, .null, .null, .null, .int 0, .int 0, .int 0, .int 0, .int 0, .int 0, .int 0])), (q1, .inl (G.2.2.1 1, 151, .inl (fun _ => 0)))] H _ := K
  refine o_put F hnm K 0 (k := 3) cfX3 rfl (by decide) kX3_13 rfl rfl rfl (Nat.le_of_ble_eq_true rfl) [(h0, .inr (3, [.null, .null, .null, .ref q1, .null, .null, .null, .null, .null, .int 0, .int 0, .int 0, .int 0, .int 0, .int 0, .int 0])), (q1, .inl (G.2.2.1 1, 151, .inl (fun _ => 0)))] rfl dX3_init_10 (fun H locs K => ?_)
  refine lv_aload_n hx hb dX3_init_13 rfl (lv_at hl 0 rfl) ?_
  refine lv_sipush (v := 151) hx hb dX3_init_14 kS_151 ?_
  refine o_newa F K 1 (a0 := (151, .inl (fun _ => 0))) (by decide) rfl ar1 151 (fun _ => rfl) (by decide) (by decide) (by decide) (Nat.le_of_ble_eq_true rfl) (Nat.le_of_ble_eq_true rfl) dX3_init_17 (fun q2 H K => ?_)
  have K : Ok0 G A s [(h0, .inr (3, [.null, .null, .null, .ref q1, .null, .null, .null, .null, .null, .int 0, .int 0, .int 0, .int 0, .int 0, .int 0, .int 0])), (q1, .inl (G.2.2.1 1, 151, .inl (fun _ => 0))), (q2, .inl (G.2.2.1 1, 151, .inl (fun _ => 0)))] H _ := K
  refine o_put F hnm K 0 (k := 4) cfX3 rfl (by decide) kX3_17 rfl rfl rfl (Nat.le_of_ble_eq_true rfl) [(h0, .inr (3, [.null, .null, .null, .ref q1, .ref q2, .null, .null, .null, .null, .int 0, .int 0, .int 0, .int 0, .int 0, .int 0, .int 0])), (q1, .inl (G.2.2.1 1, 151, .inl (fun _ => 0))), (q2, .inl (G.2.2.1 1, 151, .inl (fun _ => 0)))] rfl dX3_init_19 (fun H locs K => ?_)
  refine lv_aload_n hx hb dX3_init_22 rfl (lv_at hl 0 rfl) ?_
  refine lv_sipush (v := 151) hx hb dX3_init_23 kS_151 ?_
  refine o_newa F K 1 (a0 := (151, .inl (fun _ => 0))) (by decide) rfl ar1 151 (fun _ => rfl) (by decide) (by decide) (by decide) (Nat.le_of_ble_eq_true rfl) (Nat.le_of_ble_eq_true rfl) dX3_init_26 (fun q3 H K => ?_)
  have K : Ok0 G A s [(h0, .inr (3, [.null, .null, .null, .ref q1, .ref q2, .null, .null, .null, .null, .int 0, .int 0, .int 0, .int 0, .int 0, .int 0, .int 0])), (q1, .inl (G.2.2.1 1, 151, .inl (fun _ => 0))), (q2, .inl (G.2.2.1 1, 151, .inl (fun _ => 0))), (q3, .inl (G.2.2.1 1, 151, .inl (fun _ => 0)))] H _ := K
  refine o_put F hnm K 0 (k := 5) cfX3 rfl (by decide) kX3_20 rfl rfl rfl (Nat.le_of_ble_eq_true rfl) [(h0, .inr (3, [.null, .null, .null, .ref q1, .ref q2, .ref q3, .null, .null, .null, .int 0, .int 0, .int 0, .int 0, .int 0, .int 0, .int 0])), (q1, .inl (G.2.2.1 1, 151, .inl (fun _ => 0))), (q2, .inl (G.2.2.1 1, 151, .inl (fun _ => 0))), (q3, .inl (G.2.2.1 1, 151, .inl (fun _ => 0)))] rfl dX3_init_28 (fun H locs K => ?_)
  refine lv_aload_n hx hb dX3_init_31 rfl (lv_at hl 0 rfl) ?_
  refine lv_sipush (v := 151) hx hb dX3_init_32 kS_151 ?_
  refine o_newa F K 1 (a0 := (151, .inl (fun _ => 0))) (by decide) rfl ar1 151 (fun _ => rfl) (by decide) (by decide) (by decide) (Nat.le_of_ble_eq_true rfl) (Nat.le_of_ble_eq_true rfl) dX3_init_35 (fun q4 H K => ?_)
  have K : Ok0 G A s [(h0, .inr (3, [.null, .null, .null, .ref q1, .ref q2, .ref q3, .null, .null, .null, .int 0, .int 0, .int 0, .int 0, .int 0, .int 0, .int 0])), (q1, .inl (G.2.2.1 1, 151, .inl (fun _ => 0))), (q2, .inl (G.2.2.1 1, 151, .inl (fun _ => 0))), (q3, .inl (G.2.2.1 1, 151, .inl (fun _ => 0))), (q4, .inl (G.2.2.1 1, 151, .inl (fun _ => 0)))] H _ := K
  refine o_put F hnm K 0 (k := 6) cfX3 rfl (by decide) kX3_23 rfl rfl rfl (Nat.le_of_ble_eq_true rfl) [(h0, .inr (3, [.null, .null, .null, .ref q1, .ref q2, .ref q3, .ref q4, .null, .null, .int 0, .int 0, .int 0, .int 0, .int 0, .int 0, .int 0])), (q1, .inl (G.2.2.1 1, 151, .inl (fun _ => 0))), (q2, .inl (G.2.2.1 1, 151, .inl (fun _ => 0))), (q3, .inl (G.2.2.1 1, 151, .inl (fun _ => 0))), (q4, .inl (G.2.2.1 1, 151, .inl (fun _ => 0)))] rfl dX3_init_37 (fun H locs K => ?_)
  refine lv_aload_n hx hb dX3_init_40 rfl (lv_at hl 0 rfl) ?_
  refine lv_sipush (v := 151) hx hb dX3_init_41 kS_151 ?_
  refine o_newa F K 1 (a0 := (151, .inl (fun _ => 0))) (by decide) rfl ar1 151 (fun _ => rfl) (by decide) (by decide) (by decide) (Nat.le_of_ble_eq_true rfl) (Nat.le_of_ble_eq_true rfl) dX3_init_44 (fun q5 H K => ?_)
  have K : Ok0 G A s [(h0, .inr (3, [.null, .null, .null, .ref q1, .ref q2, .ref q3, .ref q4, .null, .null, .int 0, .int 0, .int 0, .int 0, .int 0, .int 0, .int 0])), (q1, .inl (G.2.2.1 1, 151, .inl (fun _ => 0))), (q2, .inl (G.2.2.1 1, 151, .inl (fun _ => 0))), (q3, .inl (G.2.2.1 1, 151, .inl (fun _ => 0))), (q4, .inl (G.2.2.1 1, 151, .inl (fun _ => 0))), (q5, .inl (G.2.2.1 1, 151, .inl (fun _ => 0)))] H _ := K
  refine o_put F hnm K 0 (k := 7) cfX3 rfl (by decide) kX3_26 rfl rfl rfl (Nat.le_of_ble_eq_true rfl) [(h0, .inr (3, [.null, .null, .null, .ref q1, .ref q2, .ref q3, .ref q4, .ref q5, .null, .int 0, .int 0, .int 0, .int 0, .int 0, .int 0, .int 0])), (q1, .inl (G.2.2.1 1, 151, .inl (fun _ => 0))), (q2, .inl (G.2.2.1 1, 151, .inl (fun _ => 0))), (q3, .inl (G.2.2.1 1, 151, .inl (fun _ => 0))), (q4, .inl (G.2.2.1 1, 151, .inl (fun _ => 0))), (q5, .inl (G.2.2.1 1, 151, .inl (fun _ => 0)))] rfl dX3_init_46 (fun H locs K => ?_)
  refine lv_aload_n hx hb dX3_init_49 rfl (lv_at hl 0 rfl) ?_
  refine lv_sipush (v := 151) hx hb dX3_init_50 kS_151 ?_
  refine o_newa F K 1 (a0 := (151, .inl (fun _ => 0))) (by decide) rfl ar1 151 (fun _ => rfl) (by decide) (by decide) (by decide) (Nat.le_of_ble_eq_true rfl) (Nat.le_of_ble_eq_true rfl) dX3_init_53 (fun q6 H K => ?_)
  have K : Ok0 G A s [(h0, .inr (3, [.null, .null, .null, .ref q1, .ref q2, .ref q3, .ref q4, .ref q5, .null, .int 0, .int 0, .int 0, .int 0, .int 0, .int 0, .int 0])), (q1, .inl (G.2.2.1 1, 151, .inl (fun _ => 0))), (q2, .inl (G.2.2.1 1, 151, .inl (fun _ => 0))), (q3, .inl (G.2.2.1 1, 151, .inl (fun _ => 0))), (q4, .inl (G.2.2.1 1, 151, .inl (fun _ => 0))), (q5, .inl (G.2.2.1 1, 151, .inl (fun _ => 0))), (q6, .inl (G.2.2.1 1, 151, .inl (fun _ => 0)))] H _ := K
  refine o_put F hnm K 0 (k := 8) cfX3 rfl (by decide) kX3_29 rfl rfl rfl (Nat.le_of_ble_eq_true rfl) [(h0, .inr (3, [.null, .null, .null, .ref q1, .ref q2, .ref q3, .ref q4, .ref q5, .ref q6, .int 0, .int 0, .int 0, .int 0, .int 0, .int 0, .int 0])), (q1, .inl (G.2.2.1 1, 151, .inl (fun _ => 0))), (q2, .inl (G.2.2.1 1, 151, .inl (fun _ => 0))), (q3, .inl (G.2.2.1 1, 151, .inl (fun _ => 0))), (q4, .inl (G.2.2.1 1, 151, .inl (fun _ => 0))), (q5, .inl (G.2.2.1 1, 151, .inl (fun _ => 0))), (q6, .inl (G.2.2.1 1, 151, .inl (fun _ => 0)))] rfl dX3_init_55 (fun H locs K => ?_)
  refine lv_aload_n hx hb dX3_init_58 rfl (lv_at hl 0 rfl) ?_
  refine lv_aload_n hx hb dX3_init_59 rfl (lv_at hl 1 rfl) ?_
  refine o_put F hnm K 0 (k := 0) cfX3 rfl (by decide) kX3_32 rfl rfl rfl (Nat.le_of_ble_eq_true rfl) [(h0, .inr (3, [.ref r0, .null, .null, .ref q1, .ref q2, .ref q3, .ref q4, .ref q5, .ref q6, .int 0, .int 0, .int 0, .int 0, .int 0, .int 0, .int 0])), (q1, .inl (G.2.2.1 1, 151, .inl (fun _ => 0))), (q2, .inl (G.2.2.1 1, 151, .inl (fun _ => 0))), (q3, .inl (G.2.2.1 1, 151, .inl (fun _ => 0))), (q4, .inl (G.2.2.1 1, 151, .inl (fun _ => 0))), (q5, .inl (G.2.2.1 1, 151, .inl (fun _ => 0))), (q6, .inl (G.2.2.1 1, 151, .inl (fun _ => 0)))] rfl dX3_init_60 (fun H locs K => ?_)
  refine lv_aload_n hx hb dX3_init_63 rfl (lv_at hl 0 rfl) ?_
  refine lv_aload_n hx hb dX3_init_64 rfl (lv_at hl 2 rfl) ?_
  refine o_put F hnm K 0 (k := 1) cfX3 rfl (by decide) kX3_36 rfl rfl rfl (Nat.le_of_ble_eq_true rfl) [(h0, .inr (3, [.ref r0, .ref r1, .null, .ref q1, .ref q2, .ref q3, .ref q4, .ref q5, .ref q6, .int 0, .int 0, .int 0, .int 0, .int 0, .int 0, .int 0])), (q1, .inl (G.2.2.1 1, 151, .inl (fun _ => 0))), (q2, .inl (G.2.2.1 1, 151, .inl (fun _ => 0))), (q3, .inl (G.2.2.1 1, 151, .inl (fun _ => 0))), (q4, .inl (G.2.2.1 1, 151, .inl (fun _ => 0))), (q5, .inl (G.2.2.1 1, 151, .inl (fun _ => 0))), (q6, .inl (G.2.2.1 1, 151, .inl (fun _ => 0)))] rfl dX3_init_65 (fun H locs K => ?_)
  refine lv_aload_n hx hb dX3_init_68 rfl (lv_at hl 0 rfl) ?_
  refine lv_aload_n hx hb dX3_init_69 rfl (lv_at hl 3 rfl) ?_
  refine o_put F hnm K 0 (k := 2) cfX3 rfl (by decide) kX3_40 rfl rfl rfl (Nat.le_of_ble_eq_true rfl) [(h0, .inr (3, [.ref r0, .ref r1, .ref r2, .ref q1, .ref q2, .ref q3, .ref q4, .ref q5, .ref q6, .int 0, .int 0, .int 0, .int 0, .int 0, .int 0, .int 0])), (q1, .inl (G.2.2.1 1, 151, .inl (fun _ => 0))), (q2, .inl (G.2.2.1 1, 151, .inl (fun _ => 0))), (q3, .inl (G.2.2.1 1, 151, .inl (fun _ => 0))), (q4, .inl (G.2.2.1 1, 151, .inl (fun _ => 0))), (q5, .inl (G.2.2.1 1, 151, .inl (fun _ => 0))), (q6, .inl (G.2.2.1 1, 151, .inl (fun _ => 0)))] rfl dX3_init_70 (fun H locs K => ?_)
  exact o_ret B K ⟨q1, q2, q3, q4, q5, q6, rfl⟩ dX3_init_73
abbrev rmX1_init : Room := { frames := 1, cells := 5, slots := 12230, locals := 12 }
set_option maxRecDepth 100000 in
set_option maxHeartbeats 4000000 in
theorem pX1_init {l : Launch} (G : Gt) (h0 r0 r1 : Nat) : CtrN l yX1_init cX1_init 3 rmX1_init [.ref h0, .ref r0, .ref r1] G [] [(h0, .inr (1, [.null, .null, .null, .int 0, .null, .int 0, .int 0, .null, .int 0, .null, .int 0, .null]))] 5 12230 (fun ws' => ∃ q1 q2 q3 q4 q5 : Nat, ws' = [(h0, .inr (1, [.ref r0, .ref r1, .ref q1, .int 0, .ref q2, .int 0, .int 0, .ref q3, .int 0, .ref q4, .int 0, .ref q5])), (q1, .inl (G.2.2.1 0, 4000, .inl (fun _ => 0))), (q2, .inl (G.2.2.1 0, 4000, .inl (fun _ => 0))), (q3, .inl (G.2.2.1 1, 4000, .inl (fun _ => 0))), (q4, .inl (G.2.2.1 1, 220, .inl (fun _ => 0))), (q5, .inl (G.2.2.1 1, 10, .inl (fun _ => 0)))]) := by
  refine CtrN.mk (by decide) (Nat.le_of_ble_eq_true rfl) (fun p e s m below meth c A ls B hnm hN K hl => ?_)
  have F := B.1
  have hx := F.1
  have hb := F.2.1
  have hnm : meth.name = "<init>" := hnm
  have hl : lv_has ls 3 [(0, .ref h0), (1, .ref r0), (2, .ref r1)] := hl
  refine lv_aload_n hx hb dX1_init_0 rfl (lv_at hl 0 rfl) ?_
  refine o_obj F hl.1 lX1_3 wObj ⟨(Nat.le_of_ble_eq_true rfl), (Nat.le_of_ble_eq_true rfl)⟩ dX1_init_1 ?_
  refine lv_aload_n hx hb dX1_init_4 rfl (lv_at hl 0 rfl) ?_
  refine lv_sipush (v := 4000) hx hb dX1_init_5 kS_4000 ?_
  refine o_newa F K 0 (a0 := (4000, .inl (fun _ => 0))) (by decide) rfl ar0 4000 (fun _ => rfl) (by decide) (by decide) (by decide) (Nat.le_of_ble_eq_true rfl) (Nat.le_of_ble_eq_true rfl) dX1_init_8 (fun q1 H K => ?_)
  have K : Ok0 G A s [(h0, .inr (1, [.null, .null, .null, .int 0, .null, .int 0, .int 0, .null, .int 0, .null, .int 0, .null])), (q1, .inl (G.2.2.1 0, 4000, .inl (fun _ => 0)))] H _ := K
  refine o_put F hnm K 0 (k := 2) cfX1 rfl (by decide) kX1_11 rfl rfl rfl (Nat.le_of_ble_eq_true rfl) [(h0, .inr (1, [.null, .null, .ref q1, .int 0, .null, .int 0, .int 0, .null, .int 0, .null, .int 0, .null])), (q1, .inl (G.2.2.1 0, 4000, .inl (fun _ => 0)))] rfl dX1_init_10 (fun H locs K => ?_)
  refine lv_aload_n hx hb dX1_init_13 rfl (lv_at hl 0 rfl) ?_
  refine lv_sipush (v := 4000) hx hb dX1_init_14 kS_4000 ?_
  refine o_newa F K 0 (a0 := (4000, .inl (fun _ => 0))) (by decide) rfl ar0 4000 (fun _ => rfl) (by decide) (by decide) (by decide) (Nat.le_of_ble_eq_true rfl) (Nat.le_of_ble_eq_true rfl) dX1_init_17 (fun q2 H K => ?_)
  have K : Ok0 G A s [(h0, .inr (1, [.null, .null, .ref q1, .int 0, .null, .int 0, .int 0, .null, .int 0, .null, .int 0, .null])), (q1, .inl (G.2.2.1 0, 4000, .inl (fun _ => 0))), (q2, .inl (G.2.2.1 0, 4000, .inl (fun _ => 0)))] H _ := K
  refine o_put F hnm K 0 (k := 4) cfX1 rfl (by decide) kX1_15 rfl rfl rfl (Nat.le_of_ble_eq_true rfl) [(h0, .inr (1, [.null, .null, .ref q1, .int 0, .ref q2, .int 0, .int 0, .null, .int 0, .null, .int 0, .null])), (q1, .inl (G.2.2.1 0, 4000, .inl (fun _ => 0))), (q2, .inl (G.2.2.1 0, 4000, .inl (fun _ => 0)))] rfl dX1_init_19 (fun H locs K => ?_)
  refine lv_aload_n hx hb dX1_init_22 rfl (lv_at hl 0 rfl) ?_
  refine lv_sipush (v := 4000) hx hb dX1_init_23 kS_4000 ?_
  refine o_newa F K 1 (a0 := (4000, .inl (fun _ => 0))) (by decide) rfl ar1 4000 (fun _ => rfl) (by decide) (by decide) (by decide) (Nat.le_of_ble_eq_true rfl) (Nat.le_of_ble_eq_true rfl) dX1_init_26 (fun q3 H K => ?_)
  have K : Ok0 G A s [(h0, .inr (1, [.null, .null, .ref q1, .int 0, .ref q2, .int 0, .int 0, .null, .int 0, .null, .int 0, .null])), (q1, .inl (G.2.2.1 0, 4000, .inl (fun _ => 0))), (q2, .inl (G.2.2.1 0, 4000, .inl (fun _ => 0))), (q3, .inl (G.2.2.1 1, 4000, .inl (fun _ => 0)))] H _ := K
  refine o_put F hnm K 0 (k := 7) cfX1 rfl (by decide) kX1_18 rfl rfl rfl (Nat.le_of_ble_eq_true rfl) [(h0, .inr (1, [.null, .null, .ref q1, .int 0, .ref q2, .int 0, .int 0, .ref q3, .int 0, .null, .int 0, .null])), (q1, .inl (G.2.2.1 0, 4000, .inl (fun _ => 0))), (q2, .inl (G.2.2.1 0, 4000, .inl (fun _ => 0))), (q3, .inl (G.2.2.1 1, 4000, .inl (fun _ => 0)))] rfl dX1_init_28 (fun H locs K => ?_)
  refine lv_aload_n hx hb dX1_init_31 rfl (lv_at hl 0 rfl) ?_
  refine lv_sipush (v := 220) hx hb dX1_init_32 kS_220 ?_
  refine o_newa F K 1 (a0 := (220, .inl (fun _ => 0))) (by decide) rfl ar1 220 (fun _ => rfl) (by decide) (by decide) (by decide) (Nat.le_of_ble_eq_true rfl) (Nat.le_of_ble_eq_true rfl) dX1_init_35 (fun q4 H K => ?_)
  have K : Ok0 G A s [(h0, .inr (1, [.null, .null, .ref q1, .int 0, .ref q2, .int 0, .int 0, .ref q3, .int 0, .null, .int 0, .null])), (q1, .inl (G.2.2.1 0, 4000, .inl (fun _ => 0))), (q2, .inl (G.2.2.1 0, 4000, .inl (fun _ => 0))), (q3, .inl (G.2.2.1 1, 4000, .inl (fun _ => 0))), (q4, .inl (G.2.2.1 1, 220, .inl (fun _ => 0)))] H _ := K
  refine o_put F hnm K 0 (k := 9) cfX1 rfl (by decide) kX1_24 rfl rfl rfl (Nat.le_of_ble_eq_true rfl) [(h0, .inr (1, [.null, .null, .ref q1, .int 0, .ref q2, .int 0, .int 0, .ref q3, .int 0, .ref q4, .int 0, .null])), (q1, .inl (G.2.2.1 0, 4000, .inl (fun _ => 0))), (q2, .inl (G.2.2.1 0, 4000, .inl (fun _ => 0))), (q3, .inl (G.2.2.1 1, 4000, .inl (fun _ => 0))), (q4, .inl (G.2.2.1 1, 220, .inl (fun _ => 0)))] rfl dX1_init_37 (fun H locs K => ?_)
  refine lv_aload_n hx hb dX1_init_40 rfl (lv_at hl 0 rfl) ?_
  refine lv_bipush (v := 10) hx hb dX1_init_41 kB_10 ?_
  refine o_newa F K 1 (a0 := (10, .inl (fun _ => 0))) (by decide) rfl ar1 10 (fun _ => rfl) (by decide) (by decide) (by decide) (Nat.le_of_ble_eq_true rfl) (Nat.le_of_ble_eq_true rfl) dX1_init_43 (fun q5 H K => ?_)
  have K : Ok0 G A s [(h0, .inr (1, [.null, .null, .ref q1, .int 0, .ref q2, .int 0, .int 0, .ref q3, .int 0, .ref q4, .int 0, .null])), (q1, .inl (G.2.2.1 0, 4000, .inl (fun _ => 0))), (q2, .inl (G.2.2.1 0, 4000, .inl (fun _ => 0))), (q3, .inl (G.2.2.1 1, 4000, .inl (fun _ => 0))), (q4, .inl (G.2.2.1 1, 220, .inl (fun _ => 0))), (q5, .inl (G.2.2.1 1, 10, .inl (fun _ => 0)))] H _ := K
  refine o_put F hnm K 0 (k := 11) cfX1 rfl (by decide) kX1_27 rfl rfl rfl (Nat.le_of_ble_eq_true rfl) [(h0, .inr (1, [.null, .null, .ref q1, .int 0, .ref q2, .int 0, .int 0, .ref q3, .int 0, .ref q4, .int 0, .ref q5])), (q1, .inl (G.2.2.1 0, 4000, .inl (fun _ => 0))), (q2, .inl (G.2.2.1 0, 4000, .inl (fun _ => 0))), (q3, .inl (G.2.2.1 1, 4000, .inl (fun _ => 0))), (q4, .inl (G.2.2.1 1, 220, .inl (fun _ => 0))), (q5, .inl (G.2.2.1 1, 10, .inl (fun _ => 0)))] rfl dX1_init_45 (fun H locs K => ?_)
  refine lv_aload_n hx hb dX1_init_48 rfl (lv_at hl 0 rfl) ?_
  refine lv_aload_n hx hb dX1_init_49 rfl (lv_at hl 1 rfl) ?_
  refine o_put F hnm K 0 (k := 0) cfX1 rfl (by decide) kX1_30 rfl rfl rfl (Nat.le_of_ble_eq_true rfl) [(h0, .inr (1, [.ref r0, .null, .ref q1, .int 0, .ref q2, .int 0, .int 0, .ref q3, .int 0, .ref q4, .int 0, .ref q5])), (q1, .inl (G.2.2.1 0, 4000, .inl (fun _ => 0))), (q2, .inl (G.2.2.1 0, 4000, .inl (fun _ => 0))), (q3, .inl (G.2.2.1 1, 4000, .inl (fun _ => 0))), (q4, .inl (G.2.2.1 1, 220, .inl (fun _ => 0))), (q5, .inl (G.2.2.1 1, 10, .inl (fun _ => 0)))] rfl dX1_init_50 (fun H locs K => ?_)
  refine lv_aload_n hx hb dX1_init_53 rfl (lv_at hl 0 rfl) ?_
  refine lv_aload_n hx hb dX1_init_54 rfl (lv_at hl 2 rfl) ?_
  refine o_put F hnm K 0 (k := 1) cfX1 rfl (by decide) kX1_34 rfl rfl rfl (Nat.le_of_ble_eq_true rfl) [(h0, .inr (1, [.ref r0, .ref r1, .ref q1, .int 0, .ref q2, .int 0, .int 0, .ref q3, .int 0, .ref q4, .int 0, .ref q5])), (q1, .inl (G.2.2.1 0, 4000, .inl (fun _ => 0))), (q2, .inl (G.2.2.1 0, 4000, .inl (fun _ => 0))), (q3, .inl (G.2.2.1 1, 4000, .inl (fun _ => 0))), (q4, .inl (G.2.2.1 1, 220, .inl (fun _ => 0))), (q5, .inl (G.2.2.1 1, 10, .inl (fun _ => 0)))] rfl dX1_init_55 (fun H locs K => ?_)
  exact o_ret B K ⟨q1, q2, q3, q4, q5, rfl⟩ dX1_init_58
