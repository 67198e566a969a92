abbrev rmX12_unifyAll : Room := { frames := 3, cells := 0, slots := 0, locals := 74 }
set_option maxRecDepth 100000 in
set_option maxHeartbeats 4000000 in
theorem pX12_unifyAll_L0 {p : Program} {l : Launch} {e : Env} {s : State} {m : MethodId} {below : List Frame} {meth : Method} {c : Code} {A : Nat → Prop} {G : Gt} {a0 : Int32} {a1 : Int32} {a2 : Int32} {a3 : Int32} {r : Int32} {u' : St} (B : Bd p s m [.ref (G.1 100), .int a0, .int a1, .int a2, .int a3] meth c yX12_unifyAll cX12_unifyAll 11 (some .boolean)) (n : Nat) : (∀ (u : St) (H : Heap) (locs : List Loc) (ls : Array Slot), fX12_unifyAll_L0  n 0 0 0 0 0 0 0 0 u = some (r, u') → Ok 100 77 G A s u H locs → lv_has ls 11 [(0, .ref (G.1 100))] → W p l e rmX12_unifyAll s m ([.ref (G.1 100), .int a0, .int a1, .int a2, .int a3] : List Value).toArray below meth c H locs 0 0 (MQ below (Qg 100 77 G A (some (.int r)) u') ([.ref (G.1 100), .int a0, .int a1, .int a2, .int a3] : List Value).toArray s 0 0 A) (F0 m 14 ls [])) ∧ (∀ (x5_ : Int32) (x6_ : Int32) (x7_ : Int32) (x8_ : Int32) (s0_ : Int32) (u : St) (H : Heap) (locs : List Loc) (ls : Array Slot), fX12_unifyAll_L0  n 1 x5_ x6_ x7_ x8_ 0 0 s0_ u = some (r, u') → Ok 100 77 G A s u H locs → lv_has ls 11 [(0, .ref (G.1 100)), (5, .int x5_), (6, .int x6_), (7, .int x7_), (8, .int x8_)] → W p l e rmX12_unifyAll s m ([.ref (G.1 100), .int a0, .int a1, .int a2, .int a3] : List Value).toArray below meth c H locs 0 0 (MQ below (Qg 100 77 G A (some (.int r)) u') ([.ref (G.1 100), .int a0, .int a1, .int a2, .int a3] : List Value).toArray s 0 0 A) (F0 m 134 ls [.int s0_])) ∧ (∀ (x5_ : Int32) (x6_ : Int32) (x7_ : Int32) (x8_ : Int32) (x9_ : Int32) (s0_ : Int32) (u : St) (H : Heap) (locs : List Loc) (ls : Array Slot), fX12_unifyAll_L0  n 2 x5_ x6_ x7_ x8_ x9_ 0 s0_ u = some (r, u') → Ok 100 77 G A s u H locs → lv_has ls 11 [(0, .ref (G.1 100)), (5, .int x5_), (6, .int x6_), (7, .int x7_), (8, .int x8_), (9, .int x9_)] → W p l e rmX12_unifyAll s m ([.ref (G.1 100), .int a0, .int a1, .int a2, .int a3] : List Value).toArray below meth c H locs 0 0 (MQ below (Qg 100 77 G A (some (.int r)) u') ([.ref (G.1 100), .int a0, .int a1, .int a2, .int a3] : List Value).toArray s 0 0 A) (F0 m 162 ls [.int s0_])) ∧ (∀ (x5_ : Int32) (x6_ : Int32) (x7_ : Int32) (x8_ : Int32) (x9_ : Int32) (x10_ : Int32) (u : St) (H : Heap) (locs : List Loc) (ls : Array Slot), fX12_unifyAll_L0  n 3 x5_ x6_ x7_ x8_ x9_ x10_ 0 u = some (r, u') → Ok 100 77 G A s u H locs → lv_has ls 11 [(0, .ref (G.1 100)), (5, .int x5_), (6, .int x6_), (7, .int x7_), (8, .int x8_), (9, .int x9_), (10, .int x10_)] → W p l e rmX12_unifyAll s m ([.ref (G.1 100), .int a0, .int a1, .int a2, .int a3] : List Value).toArray below meth c H locs 0 0 (MQ below (Qg 100 77 G A (some (.int r)) u') ([.ref (G.1 100), .int a0, .int a1, .int a2, .int a3] : List Value).toArray s 0 0 A) (F0 m 179 ls [])) ∧ (∀ (x5_ : Int32) (x6_ : Int32) (x7_ : Int32) (x8_ : Int32) (x9_ : Int32) (x10_ : Int32) (u : St) (H : Heap) (locs : List Loc) (ls : Array Slot), fX12_unifyAll_L0  n 4 x5_ x6_ x7_ x8_ x9_ x10_ 0 u = some (r, u') → Ok 100 77 G A s u H locs → lv_has ls 11 [(0, .ref (G.1 100)), (5, .int x5_), (6, .int x6_), (7, .int x7_), (8, .int x8_), (9, .int x9_), (10, .int x10_)] → W p l e rmX12_unifyAll s m ([.ref (G.1 100), .int a0, .int a1, .int a2, .int a3] : List Value).toArray below meth c H locs 0 0 (MQ below (Qg 100 77 G A (some (.int r)) u') ([.ref (G.1 100), .int a0, .int a1, .int a2, .int a3] : List Value).toArray s 0 0 A) (F0 m 240 ls [])) := by
  have F := B.1
  have hx := F.1
  have hb := F.2.1
  induction n with
  | zero => exact ⟨fun _ _ _ _ hf => g_no hf, fun _ _ _ _ _ _ _ _ _ hf => g_no hf, fun _ _ _ _ _ _ _ _ _ _ hf => g_no hf, fun _ _ _ _ _ _ _ _ _ _ hf => g_no hf, fun _ _ _ _ _ _ _ _ _ _ hf => g_no hf⟩
  | succ n ih =>
    refine ⟨?_, ?_, ?_, ?_, ?_⟩
    · intro  u H locs ls hf K hl
      have hf : fX12_unifyAll_L0_0  (fX12_unifyAll_L0  n)  u = some (r, u') := hf
      unfold fX12_unifyAll_L0_0 at hf
      refine lv_aload_n hx hb dX12_unifyAll_14 rfl (lv_at hl 0 rfl) ?_
      refine ok_int F K fX12_561 dX12_unifyAll_15 ?_
      refine lv_if_le (pc := 18) (tgt := 265) hx hb dX12_unifyAll_18 (by decide) (fun c1 => ?_) (fun c1 => ?_)
      · have hf := g_pos hf c1
        refine lv_iconst (v := 1) hx hb dX12_unifyAll_265 kI_1 ?_
        exact ok_retz B K hf (Or.inr rfl) dX12_unifyAll_266
      · have hf := g_neg hf c1
        refine lv_aload_n hx hb dX12_unifyAll_21 rfl (lv_at hl 0 rfl) ?_
        refine lv_dup hx hb dX12_unifyAll_22 rfl ?_
        refine ok_int F K fX12_561 dX12_unifyAll_23 ?_
        refine lv_iconst (v := 1) hx hb dX12_unifyAll_26 kI_1 ?_
        refine lv_isub hx hb dX12_unifyAll_27 ?_
        refine ok_putI F K qX12_561 dX12_unifyAll_28 (fun u2 H locs eu2 K => ?_)
        have hf := g_lt hf u2 eu2
        refine lv_aload_n hx hb dX12_unifyAll_31 rfl (lv_at hl 0 rfl) ?_
        obtain ⟨r4, u3, hu3, hf⟩ := g_b2 hf
        refine ok_calli (rest := []) F K (pX12_counted G hu3) mX12_counted oc100 lX12_558 rfl hl.1 rfl ⟨⟨rfl, rfl⟩, Nat.le_of_ble_eq_true rfl, Nat.le_of_ble_eq_true rfl⟩ (Nat.le_of_ble_eq_true rfl) dX12_unifyAll_32 (fun H locs K => ?_)
        refine lv_if_ne (pc := 35) (tgt := 40) hx hb dX12_unifyAll_35 (by decide) (fun c5 => ?_) (fun c5 => ?_)
        · have hf := g_neg hf c5
          refine lv_aload_n hx hb dX12_unifyAll_40 rfl (lv_at hl 0 rfl) ?_
          refine lv_aload_n hx hb dX12_unifyAll_41 rfl (lv_at hl 0 rfl) ?_
          refine ok_ref F K fX12_193 dX12_unifyAll_42 ?_
          refine lv_aload_n hx hb dX12_unifyAll_45 rfl (lv_at hl 0 rfl) ?_
          refine ok_int F K fX12_561 dX12_unifyAll_46 ?_
          obtain ⟨v6, hv6, hf⟩ := g_bd hf
          refine ok_iald F K t161 hv6 dX12_unifyAll_49 ?_
          refine lv_aload_n hx hb dX12_unifyAll_50 rfl (lv_at hl 0 rfl) ?_
          refine ok_ref F K fX12_196 dX12_unifyAll_51 ?_
          refine lv_aload_n hx hb dX12_unifyAll_54 rfl (lv_at hl 0 rfl) ?_
          refine ok_int F K fX12_561 dX12_unifyAll_55 ?_
          obtain ⟨v7, hv7, hf⟩ := g_bd hf
          refine ok_iald F K t162 hv7 dX12_unifyAll_58 ?_
          obtain ⟨u8, hu8, hf⟩ := g_bd hf
          refine ok_callv (rest := []) F K (pX12_follow G hu8) mX12_follow oc100 lX12_519 rfl hl.1 rfl ⟨⟨rfl, rfl⟩, Nat.le_of_ble_eq_true rfl, Nat.le_of_ble_eq_true rfl⟩ (Nat.le_of_ble_eq_true rfl) dX12_unifyAll_59 (fun H locs K => ?_)
          refine lv_aload_n hx hb dX12_unifyAll_62 rfl (lv_at hl 0 rfl) ?_
          refine ok_int F K fX12_522 dX12_unifyAll_63 ?_
          refine lv_topi (fun x9 ex9 => ?_)
          have hf := g_lt hf x9 ex9
          refine lv_istore (lv' := [(5, .int x9), (0, .ref (G.1 100))]) hx hb dX12_unifyAll_66 hl (by decide) rfl (fun ls hl => ?_)
          refine lv_aload_n hx hb dX12_unifyAll_68 rfl (lv_at hl 1 rfl) ?_
          refine ok_int F K fX12_525 dX12_unifyAll_69 ?_
          refine lv_topi (fun x10 ex10 => ?_)
          have hf := g_lt hf x10 ex10
          refine lv_istore (lv' := [(6, .int x10), (5, .int x9), (0, .ref (G.1 100))]) hx hb dX12_unifyAll_72 hl (by decide) rfl (fun ls hl => ?_)
          refine lv_aload_n hx hb dX12_unifyAll_74 rfl (lv_at hl 2 rfl) ?_
          refine lv_aload_n hx hb dX12_unifyAll_75 rfl (lv_at hl 2 rfl) ?_
          refine ok_ref F K fX12_199 dX12_unifyAll_76 ?_
          refine lv_aload_n hx hb dX12_unifyAll_79 rfl (lv_at hl 2 rfl) ?_
          refine ok_int F K fX12_561 dX12_unifyAll_80 ?_
          obtain ⟨v11, hv11, hf⟩ := g_bd hf
          refine ok_iald F K t163 hv11 dX12_unifyAll_83 ?_
          refine lv_aload_n hx hb dX12_unifyAll_84 rfl (lv_at hl 2 rfl) ?_
          refine ok_ref F K fX12_202 dX12_unifyAll_85 ?_
          refine lv_aload_n hx hb dX12_unifyAll_88 rfl (lv_at hl 2 rfl) ?_
          refine ok_int F K fX12_561 dX12_unifyAll_89 ?_
          obtain ⟨v12, hv12, hf⟩ := g_bd hf
          refine ok_iald F K t164 hv12 dX12_unifyAll_92 ?_
          obtain ⟨u13, hu13, hf⟩ := g_bd hf
          refine ok_callv (rest := []) F K (pX12_follow G hu13) mX12_follow oc100 lX12_519 rfl hl.1 rfl ⟨⟨rfl, rfl⟩, Nat.le_of_ble_eq_true rfl, Nat.le_of_ble_eq_true rfl⟩ (Nat.le_of_ble_eq_true rfl) dX12_unifyAll_93 (fun H locs K => ?_)
          refine lv_aload_n hx hb dX12_unifyAll_96 rfl (lv_at hl 2 rfl) ?_
          refine ok_int F K fX12_522 dX12_unifyAll_97 ?_
          refine lv_topi (fun x14 ex14 => ?_)
          have hf := g_lt hf x14 ex14
          refine lv_istore (lv' := [(7, .int x14), (6, .int x10), (5, .int x9), (0, .ref (G.1 100))]) hx hb dX12_unifyAll_100 hl (by decide) rfl (fun ls hl => ?_)
          refine lv_aload_n hx hb dX12_unifyAll_102 rfl (lv_at hl 3 rfl) ?_
          refine ok_int F K fX12_525 dX12_unifyAll_103 ?_
          refine lv_topi (fun x15 ex15 => ?_)
          have hf := g_lt hf x15 ex15
          refine lv_istore (lv' := [(8, .int x15), (7, .int x14), (6, .int x10), (5, .int x9), (0, .ref (G.1 100))]) hx hb dX12_unifyAll_106 hl (by decide) rfl (fun ls hl => ?_)
          refine lv_aload_n hx hb dX12_unifyAll_108 rfl (lv_at hl 4 rfl) ?_
          refine ok_ref F K fX12_43 dX12_unifyAll_109 ?_
          refine lv_iload hx hb dX12_unifyAll_112 (lv_at hl 3 rfl) ?_
          obtain ⟨v16, hv16, hf⟩ := g_bd hf
          refine ok_iald F K t111 hv16 dX12_unifyAll_114 ?_
          refine lv_if_ge (pc := 115) (tgt := 133) hx hb dX12_unifyAll_115 (by decide) (fun c17 => ?_) (fun c17 => ?_)
          · have hf := g_pos hf c17
            refine lv_iconst (v := (-1)) hx hb dX12_unifyAll_133 kI_m1 ?_
            exact ih.2.1 x9 x10 x14 x15 (-1) u13 _ _ _ hf K (lv_sub hl [4, 3, 2, 1, 0] rfl)
          · have hf := g_neg hf c17
            refine lv_iload hx hb dX12_unifyAll_118 (lv_at hl 2 rfl) ?_
            refine lv_iconst (v := 1) hx hb dX12_unifyAll_120 kI_1 ?_
            refine lv_isub hx hb dX12_unifyAll_121 ?_
            refine lv_aload_n hx hb dX12_unifyAll_122 rfl (lv_at hl 4 rfl) ?_
            refine ok_ref F K fX12_43 dX12_unifyAll_123 ?_
            refine lv_iload hx hb dX12_unifyAll_126 (lv_at hl 3 rfl) ?_
            obtain ⟨v18, hv18, hf⟩ := g_bd hf
            refine ok_iald F K t111 hv18 dX12_unifyAll_128 ?_
            refine lv_isub hx hb dX12_unifyAll_129 ?_
            refine lv_goto (pc := 130) (tgt := 134) hx hb dX12_unifyAll_130 (by decide) ?_
            exact ih.2.1 x9 x10 x14 x15 ((x10 - 1) - v18) u13 _ _ _ hf K (lv_sub hl [4, 3, 2, 1, 0] rfl)
        · have hf := g_pos hf c5
          refine lv_iconst (v := 0) hx hb dX12_unifyAll_38 kI_0 ?_
          exact ok_retz B K hf (Or.inl rfl) dX12_unifyAll_39
    · intro x5_ x6_ x7_ x8_ s0_ u H locs ls hf K hl
      have hf : fX12_unifyAll_L0_1  (fX12_unifyAll_L0  n) x5_ x6_ x7_ x8_ s0_ u = some (r, u') := hf
      unfold fX12_unifyAll_L0_1 at hf
      refine lv_istore (lv' := [(9, .int s0_), (0, .ref (G.1 100)), (5, .int x5_), (6, .int x6_), (7, .int x7_), (8, .int x8_)]) hx hb dX12_unifyAll_134 hl (by decide) rfl (fun ls hl => ?_)
      refine lv_aload_n hx hb dX12_unifyAll_136 rfl (lv_at hl 1 rfl) ?_
      refine ok_ref F K fX12_43 dX12_unifyAll_137 ?_
      refine lv_iload hx hb dX12_unifyAll_140 (lv_at hl 4 rfl) ?_
      obtain ⟨v19, hv19, hf⟩ := g_bd hf
      refine ok_iald F K t111 hv19 dX12_unifyAll_142 ?_
      refine lv_if_ge (pc := 143) (tgt := 161) hx hb dX12_unifyAll_143 (by decide) (fun c20 => ?_) (fun c20 => ?_)
      · have hf := g_pos hf c20
        refine lv_iconst (v := (-1)) hx hb dX12_unifyAll_161 kI_m1 ?_
        exact ih.2.2.1 x5_ x6_ x7_ x8_ s0_ (-1) u _ _ _ hf K (lv_sub hl [1, 2, 3, 4, 5, 0] rfl)
      · have hf := g_neg hf c20
        refine lv_iload hx hb dX12_unifyAll_146 (lv_at hl 5 rfl) ?_
        refine lv_iconst (v := 1) hx hb dX12_unifyAll_148 kI_1 ?_
        refine lv_isub hx hb dX12_unifyAll_149 ?_
        refine lv_aload_n hx hb dX12_unifyAll_150 rfl (lv_at hl 1 rfl) ?_
        refine ok_ref F K fX12_43 dX12_unifyAll_151 ?_
        refine lv_iload hx hb dX12_unifyAll_154 (lv_at hl 4 rfl) ?_
        obtain ⟨v21, hv21, hf⟩ := g_bd hf
        refine ok_iald F K t111 hv21 dX12_unifyAll_156 ?_
        refine lv_isub hx hb dX12_unifyAll_157 ?_
        refine lv_goto (pc := 158) (tgt := 162) hx hb dX12_unifyAll_158 (by decide) ?_
        exact ih.2.2.1 x5_ x6_ x7_ x8_ s0_ ((x8_ - 1) - v21) u _ _ _ hf K (lv_sub hl [1, 2, 3, 4, 5, 0] rfl)
    · intro x5_ x6_ x7_ x8_ x9_ s0_ u H locs ls hf K hl
      have hf : fX12_unifyAll_L0_2  (fX12_unifyAll_L0  n) x5_ x6_ x7_ x8_ x9_ s0_ u = some (r, u') := hf
      unfold fX12_unifyAll_L0_2 at hf
      refine lv_istore (lv' := [(10, .int s0_), (0, .ref (G.1 100)), (5, .int x5_), (6, .int x6_), (7, .int x7_), (8, .int x8_), (9, .int x9_)]) hx hb dX12_unifyAll_162 hl (by decide) rfl (fun ls hl => ?_)
      refine lv_iload hx hb dX12_unifyAll_164 (lv_at hl 6 rfl) ?_
      refine lv_if_lt (pc := 166) (tgt := 179) hx hb dX12_unifyAll_166 (by decide) (fun c22 => ?_) (fun c22 => ?_)
      · have hf := g_pos hf c22
        exact ih.2.2.2.1 x5_ x6_ x7_ x8_ x9_ s0_ u _ _ _ hf K (lv_sub hl [1, 2, 3, 4, 5, 6, 0] rfl)
      · have hf := g_neg hf c22
        refine lv_iload hx hb dX12_unifyAll_169 (lv_at hl 6 rfl) ?_
        refine lv_iload hx hb dX12_unifyAll_171 (lv_at hl 0 rfl) ?_
        refine lv_icmp_ne (pc := 173) (tgt := 179) hx hb dX12_unifyAll_173 (by decide) (fun c23 => ?_) (fun c23 => ?_)
        · have hf := g_neg hf c23
          exact ih.2.2.2.1 x5_ x6_ x7_ x8_ x9_ s0_ u _ _ _ hf K (lv_sub hl [1, 2, 3, 4, 5, 6, 0] rfl)
        · have hf := g_pos hf c23
          refine lv_goto (pc := 176) (tgt := 14) hx hb dX12_unifyAll_176 (by decide) ?_
          exact ih.1  u _ _ _ hf K (lv_sub hl [1] rfl)
    · intro x5_ x6_ x7_ x8_ x9_ x10_ u H locs ls hf K hl
      have hf : fX12_unifyAll_L0_3  (fX12_unifyAll_L0  n) x5_ x6_ x7_ x8_ x9_ x10_ u = some (r, u') := hf
      unfold fX12_unifyAll_L0_3 at hf
      refine lv_iload hx hb dX12_unifyAll_179 (lv_at hl 5 rfl) ?_
      refine lv_if_lt (pc := 181) (tgt := 200) hx hb dX12_unifyAll_181 (by decide) (fun c24 => ?_) (fun c24 => ?_)
      · have hf := g_pos hf c24
        refine lv_iload hx hb dX12_unifyAll_200 (lv_at hl 6 rfl) ?_
        refine lv_if_lt (pc := 202) (tgt := 221) hx hb dX12_unifyAll_202 (by decide) (fun c25 => ?_) (fun c25 => ?_)
        · have hf := g_pos hf c25
          refine lv_aload_n hx hb dX12_unifyAll_221 rfl (lv_at hl 0 rfl) ?_
          refine ok_ref F K fX12_43 dX12_unifyAll_222 ?_
          refine lv_iload hx hb dX12_unifyAll_225 (lv_at hl 1 rfl) ?_
          obtain ⟨v26, hv26, hf⟩ := g_bd hf
          refine ok_iald F K t111 hv26 dX12_unifyAll_227 ?_
          refine lv_aload_n hx hb dX12_unifyAll_228 rfl (lv_at hl 0 rfl) ?_
          refine ok_ref F K fX12_43 dX12_unifyAll_229 ?_
          refine lv_iload hx hb dX12_unifyAll_232 (lv_at hl 3 rfl) ?_
          obtain ⟨v27, hv27, hf⟩ := g_bd hf
          refine ok_iald F K t111 hv27 dX12_unifyAll_234 ?_
          refine lv_icmp_eq (pc := 235) (tgt := 240) hx hb dX12_unifyAll_235 (by decide) (fun c28 => ?_) (fun c28 => ?_)
          · have hf := g_pos hf c28
            exact ih.2.2.2.2 x5_ x6_ x7_ x8_ x9_ x10_ u _ _ _ hf K (lv_sub hl [0, 1, 2, 3, 4, 5, 6] rfl)
          · have hf := g_neg hf c28
            refine lv_iconst (v := 0) hx hb dX12_unifyAll_238 kI_0 ?_
            exact ok_retz B K hf (Or.inl rfl) dX12_unifyAll_239
        · have hf := g_neg hf c25
          refine lv_aload_n hx hb dX12_unifyAll_205 rfl (lv_at hl 0 rfl) ?_
          refine lv_iload hx hb dX12_unifyAll_206 (lv_at hl 6 rfl) ?_
          refine lv_iload hx hb dX12_unifyAll_208 (lv_at hl 1 rfl) ?_
          refine lv_iload hx hb dX12_unifyAll_210 (lv_at hl 2 rfl) ?_
          obtain ⟨r30, u29, hu29, hf⟩ := g_b2 hf
          refine ok_calli (rest := []) F K (pX12_bound G hu29) mX12_bound oc100 lX12_574 rfl hl.1 rfl ⟨⟨rfl, rfl⟩, Nat.le_of_ble_eq_true rfl, Nat.le_of_ble_eq_true rfl⟩ (Nat.le_of_ble_eq_true rfl) dX12_unifyAll_212 (fun H locs K => ?_)
          refine lv_if_ne (pc := 215) (tgt := 240) hx hb dX12_unifyAll_215 (by decide) (fun c31 => ?_) (fun c31 => ?_)
          · have hf := g_neg hf c31
            exact ih.2.2.2.2 x5_ x6_ x7_ x8_ x9_ x10_ u29 _ _ _ hf K (lv_sub hl [0, 1, 2, 3, 4, 5, 6] rfl)
          · have hf := g_pos hf c31
            refine lv_goto (pc := 218) (tgt := 238) hx hb dX12_unifyAll_218 (by decide) ?_
            refine lv_iconst (v := 0) hx hb dX12_unifyAll_238 kI_0 ?_
            exact ok_retz B K hf (Or.inl rfl) dX12_unifyAll_239
      · have hf := g_neg hf c24
        refine lv_aload_n hx hb dX12_unifyAll_184 rfl (lv_at hl 0 rfl) ?_
        refine lv_iload hx hb dX12_unifyAll_185 (lv_at hl 5 rfl) ?_
        refine lv_iload hx hb dX12_unifyAll_187 (lv_at hl 3 rfl) ?_
        refine lv_iload hx hb dX12_unifyAll_189 (lv_at hl 4 rfl) ?_
        obtain ⟨r33, u32, hu32, hf⟩ := g_b2 hf
        refine ok_calli (rest := []) F K (pX12_bound G hu32) mX12_bound oc100 lX12_574 rfl hl.1 rfl ⟨⟨rfl, rfl⟩, Nat.le_of_ble_eq_true rfl, Nat.le_of_ble_eq_true rfl⟩ (Nat.le_of_ble_eq_true rfl) dX12_unifyAll_191 (fun H locs K => ?_)
        refine lv_if_ne (pc := 194) (tgt := 240) hx hb dX12_unifyAll_194 (by decide) (fun c34 => ?_) (fun c34 => ?_)
        · have hf := g_neg hf c34
          exact ih.2.2.2.2 x5_ x6_ x7_ x8_ x9_ x10_ u32 _ _ _ hf K (lv_sub hl [0, 1, 2, 3, 4, 5, 6] rfl)
        · have hf := g_pos hf c34
          refine lv_goto (pc := 197) (tgt := 238) hx hb dX12_unifyAll_197 (by decide) ?_
          refine lv_iconst (v := 0) hx hb dX12_unifyAll_238 kI_0 ?_
          exact ok_retz B K hf (Or.inl rfl) dX12_unifyAll_239
    · intro x5_ x6_ x7_ x8_ x9_ x10_ u H locs ls hf K hl
      have hf : fX12_unifyAll_L0_4  (fX12_unifyAll_L0  n) x5_ x6_ x7_ x8_ x9_ x10_ u = some (r, u') := hf
      unfold fX12_unifyAll_L0_4 at hf
      refine lv_iload hx hb dX12_unifyAll_240 (lv_at hl 5 rfl) ?_
      refine lv_if_ge (pc := 242) (tgt := 262) hx hb dX12_unifyAll_242 (by decide) (fun c35 => ?_) (fun c35 => ?_)
      · have hf := g_pos hf c35
        refine lv_goto (pc := 262) (tgt := 14) hx hb dX12_unifyAll_262 (by decide) ?_
        exact ih.1  u _ _ _ hf K (lv_sub hl [0] rfl)
      · have hf := g_neg hf c35
        refine lv_iload hx hb dX12_unifyAll_245 (lv_at hl 6 rfl) ?_
        refine lv_if_ge (pc := 247) (tgt := 262) hx hb dX12_unifyAll_247 (by decide) (fun c36 => ?_) (fun c36 => ?_)
        · have hf := g_pos hf c36
          refine lv_goto (pc := 262) (tgt := 14) hx hb dX12_unifyAll_262 (by decide) ?_
          exact ih.1  u _ _ _ hf K (lv_sub hl [0] rfl)
        · have hf := g_neg hf c36
          refine lv_aload_n hx hb dX12_unifyAll_250 rfl (lv_at hl 0 rfl) ?_
          refine lv_iload hx hb dX12_unifyAll_251 (lv_at hl 1 rfl) ?_
          refine lv_iload hx hb dX12_unifyAll_253 (lv_at hl 2 rfl) ?_
          refine lv_iload hx hb dX12_unifyAll_255 (lv_at hl 3 rfl) ?_
          refine lv_iload hx hb dX12_unifyAll_257 (lv_at hl 4 rfl) ?_
          obtain ⟨u37, hu37, hf⟩ := g_bd hf
          refine ok_callv (rest := []) F K (pX12_argumentsNext G hu37) mX12_argumentsNext oc100 lX12_570 rfl hl.1 rfl ⟨⟨rfl, rfl⟩, Nat.le_of_ble_eq_true rfl, Nat.le_of_ble_eq_true rfl⟩ (Nat.le_of_ble_eq_true rfl) dX12_unifyAll_259 (fun H locs K => ?_)
          refine lv_goto (pc := 262) (tgt := 14) hx hb dX12_unifyAll_262 (by decide) ?_
          exact ih.1  u37 _ _ _ hf K (lv_sub hl [0] rfl)
set_option maxRecDepth 100000 in
set_option maxHeartbeats 4000000 in
theorem pX12_unifyAll {l : Launch} (G : Gt) {a0 : Int32} {a1 : Int32} {a2 : Int32} {a3 : Int32} {r : Int32} {u u' : St} (hf : fX12_unifyAll a0 a1 a2 a3 u = some (r, u')) : Ctr 100 77 l yX12_unifyAll cX12_unifyAll 11 (some .boolean) rmX12_unifyAll [.ref (G.1 100), .int a0, .int a1, .int a2, .int a3] G u (some (.int r)) u' := by
  refine Ctr.mk (by decide) (Nat.le_of_ble_eq_true rfl) (fun p e s m below meth c A ls B K hl => ?_)
  have F := B.1
  have hx := F.1
  have hb := F.2.1
  have hl : lv_has ls 11 [(0, .ref (G.1 100)), (1, .int a0), (2, .int a1), (3, .int a2), (4, .int a3)] := hl
  unfold fX12_unifyAll at hf
  refine lv_aload_n hx hb dX12_unifyAll_0 rfl (lv_at hl 0 rfl) ?_
  refine lv_iconst (v := 0) hx hb dX12_unifyAll_1 kI_0 ?_
  refine ok_putI F K qX12_561 dX12_unifyAll_2 (fun u38 H locs eu38 K => ?_)
  have hf := g_lt hf u38 eu38
  refine lv_aload_n hx hb dX12_unifyAll_5 rfl (lv_at hl 0 rfl) ?_
  refine lv_iload_n hx hb dX12_unifyAll_6 rfl (lv_at hl 1 rfl) ?_
  refine lv_iload_n hx hb dX12_unifyAll_7 rfl (lv_at hl 2 rfl) ?_
  refine lv_iload_n hx hb dX12_unifyAll_8 rfl (lv_at hl 3 rfl) ?_
  refine lv_iload hx hb dX12_unifyAll_9 (lv_at hl 4 rfl) ?_
  obtain ⟨u39, hu39, hf⟩ := g_bd hf
  refine ok_callv (rest := []) F K (pX12_argumentsNext G hu39) mX12_argumentsNext oc100 lX12_570 rfl hl.1 rfl ⟨⟨rfl, rfl⟩, Nat.le_of_ble_eq_true rfl, Nat.le_of_ble_eq_true rfl⟩ (Nat.le_of_ble_eq_true rfl) dX12_unifyAll_11 (fun H locs K => ?_)
  exact (pX12_unifyAll_L0  B FU).1  u39 _ _ _ hf K (lv_sub hl [0] rfl)
abbrev rmX12_extendsBy : Room := { frames := 4, cells := 0, slots := 0, locals := 104 }
set_option maxRecDepth 100000 in
set_option maxHeartbeats 4000000 in
theorem pX12_extendsBy {l : Launch} (G : Gt) {a0 : Int32} {a1 : Int32} {a2 : Int32} {r : Int32} {u u' : St} (hf : fX12_extendsBy a0 a1 a2 u = some (r, u')) : Ctr 100 77 l yX12_extendsBy cX12_extendsBy 5 (some .boolean) rmX12_extendsBy [.ref (G.1 100), .int a0, .int a1, .int a2] G u (some (.int r)) u' := by
  refine Ctr.mk (by decide) (Nat.le_of_ble_eq_true rfl) (fun p e s m below meth c A ls B K hl => ?_)
  have F := B.1
  have hx := F.1
  have hb := F.2.1
  have hl : lv_has ls 5 [(0, .ref (G.1 100)), (1, .int a0), (2, .int a1), (3, .int a2)] := hl
  unfold fX12_extendsBy at hf
  refine lv_aload_n hx hb dX12_extendsBy_0 rfl (lv_at hl 0 rfl) ?_
  obtain ⟨r2, u1, hu1, hf⟩ := g_b2 hf
  refine ok_calli (rest := []) F K (pX12_mayStep G hu1) mX12_mayStep oc100 lX12_632 rfl hl.1 rfl ⟨⟨rfl, rfl⟩, Nat.le_of_ble_eq_true rfl, Nat.le_of_ble_eq_true rfl⟩ (Nat.le_of_ble_eq_true rfl) dX12_extendsBy_1 (fun H locs K => ?_)
  refine lv_if_ne (pc := 4) (tgt := 9) hx hb dX12_extendsBy_4 (by decide) (fun c3 => ?_) (fun c3 => ?_)
  · have hf := g_neg hf c3
    refine lv_aload_n hx hb dX12_extendsBy_9 rfl (lv_at hl 0 rfl) ?_
    refine ok_int F K fX12_590 dX12_extendsBy_10 ?_
    refine lv_topi (fun x4 ex4 => ?_)
    have hf := g_lt hf x4 ex4
    refine lv_istore (lv' := [(4, .int x4), (0, .ref (G.1 100)), (1, .int a0), (2, .int a1), (3, .int a2)]) hx hb dX12_extendsBy_13 hl (by decide) rfl (fun ls hl => ?_)
    refine lv_aload_n hx hb dX12_extendsBy_15 rfl (lv_at hl 1 rfl) ?_
    refine lv_iconst (v := 0) hx hb dX12_extendsBy_16 kI_0 ?_
    refine ok_putI F K qX12_549 dX12_extendsBy_17 (fun u5 H locs eu5 K => ?_)
    have hf := g_lt hf u5 eu5
    refine lv_aload_n hx hb dX12_extendsBy_20 rfl (lv_at hl 1 rfl) ?_
    refine lv_aload_n hx hb dX12_extendsBy_21 rfl (lv_at hl 1 rfl) ?_
    refine ok_ref F K fX12_34 dX12_extendsBy_22 ?_
    refine lv_iload_n hx hb dX12_extendsBy_25 rfl (lv_at hl 3 rfl) ?_
    obtain ⟨v6, hv6, hf⟩ := g_bd hf
    refine ok_iald F K t108 hv6 dX12_extendsBy_26 ?_
    obtain ⟨u7, hu7, hf⟩ := g_bd hf
    refine ok_callv (rest := []) F K (pX12_newVariables G hu7) mX12_newVariables oc100 lX12_641 rfl hl.1 rfl ⟨⟨rfl, rfl⟩, Nat.le_of_ble_eq_true rfl, Nat.le_of_ble_eq_true rfl⟩ (Nat.le_of_ble_eq_true rfl) dX12_extendsBy_27 (fun H locs K => ?_)
    refine lv_aload_n hx hb dX12_extendsBy_30 rfl (lv_at hl 1 rfl) ?_
    refine lv_aload_n hx hb dX12_extendsBy_31 rfl (lv_at hl 1 rfl) ?_
    refine ok_ref F K fX12_40 dX12_extendsBy_32 ?_
    refine lv_aload_n hx hb dX12_extendsBy_35 rfl (lv_at hl 1 rfl) ?_
    refine ok_ref F K fX12_160 dX12_extendsBy_36 ?_
    refine lv_iload_n hx hb dX12_extendsBy_39 rfl (lv_at hl 2 rfl) ?_
    obtain ⟨v8, hv8, hf⟩ := g_bd hf
    refine ok_iald F K t150 hv8 dX12_extendsBy_40 ?_
    obtain ⟨v9, hv9, hf⟩ := g_bd hf
    refine ok_iald F K t110 hv9 dX12_extendsBy_41 ?_
    refine lv_aload_n hx hb dX12_extendsBy_42 rfl (lv_at hl 1 rfl) ?_
    refine ok_ref F K fX12_163 dX12_extendsBy_43 ?_
    refine lv_iload_n hx hb dX12_extendsBy_46 rfl (lv_at hl 2 rfl) ?_
    obtain ⟨v10, hv10, hf⟩ := g_bd hf
    refine ok_iald F K t151 hv10 dX12_extendsBy_47 ?_
    refine lv_aload_n hx hb dX12_extendsBy_48 rfl (lv_at hl 1 rfl) ?_
    refine ok_ref F K fX12_40 dX12_extendsBy_49 ?_
    refine lv_aload_n hx hb dX12_extendsBy_52 rfl (lv_at hl 1 rfl) ?_
    refine ok_ref F K fX12_28 dX12_extendsBy_53 ?_
    refine lv_iload_n hx hb dX12_extendsBy_56 rfl (lv_at hl 3 rfl) ?_
    obtain ⟨v11, hv11, hf⟩ := g_bd hf
    refine ok_iald F K t106 hv11 dX12_extendsBy_57 ?_
    refine lv_iload_n hx hb dX12_extendsBy_58 rfl (lv_at hl 4 rfl) ?_
    refine lv_iadd hx hb dX12_extendsBy_59 ?_
    obtain ⟨v12, hv12, hf⟩ := g_bd hf
    refine ok_iald F K t110 hv12 dX12_extendsBy_60 ?_
    refine lv_iload hx hb dX12_extendsBy_61 (lv_at hl 0 rfl) ?_
    obtain ⟨r14, u13, hu13, hf⟩ := g_b2 hf
    refine ok_calli (rest := []) F K (pX12_unifyAll G hu13) mX12_unifyAll oc100 lX12_635 rfl hl.1 rfl ⟨⟨rfl, rfl⟩, Nat.le_of_ble_eq_true rfl, Nat.le_of_ble_eq_true rfl⟩ (Nat.le_of_ble_eq_true rfl) dX12_extendsBy_63 (fun H locs K => ?_)
    refine lv_if_eq (pc := 66) (tgt := 77) hx hb dX12_extendsBy_66 (by decide) (fun c15 => ?_) (fun c15 => ?_)
    · have hf := g_pos hf c15
      refine lv_iconst (v := 0) hx hb dX12_extendsBy_77 kI_0 ?_
      exact ok_retz B K hf (Or.inl rfl) dX12_extendsBy_78
    · have hf := g_neg hf c15
      refine lv_aload_n hx hb dX12_extendsBy_69 rfl (lv_at hl 1 rfl) ?_
      refine lv_iload_n hx hb dX12_extendsBy_70 rfl (lv_at hl 3 rfl) ?_
      obtain ⟨r17, u16, hu16, hf⟩ := g_b2 hf
      refine ok_calli (rest := []) F K (pX12_tooMuch G hu16) mX12_tooMuch oc100 lX12_644 rfl hl.1 rfl ⟨⟨rfl, rfl⟩, Nat.le_of_ble_eq_true rfl, Nat.le_of_ble_eq_true rfl⟩ (Nat.le_of_ble_eq_true rfl) dX12_extendsBy_71 (fun H locs K => ?_)
      refine lv_if_eq (pc := 74) (tgt := 79) hx hb dX12_extendsBy_74 (by decide) (fun c18 => ?_) (fun c18 => ?_)
      · have hf := g_pos hf c18
        refine lv_aload_n hx hb dX12_extendsBy_79 rfl (lv_at hl 1 rfl) ?_
        refine lv_iconst (v := 1) hx hb dX12_extendsBy_80 kI_1 ?_
        refine lv_iload_n hx hb dX12_extendsBy_81 rfl (lv_at hl 3 rfl) ?_
        refine lv_iload_n hx hb dX12_extendsBy_82 rfl (lv_at hl 4 rfl) ?_
        refine lv_iload_n hx hb dX12_extendsBy_83 rfl (lv_at hl 2 rfl) ?_
        obtain ⟨u19, hu19, hf⟩ := g_bd hf
        refine ok_callv (rest := []) F K (pX12_moved G hu19) mX12_moved oc100 lX12_638 rfl hl.1 rfl ⟨⟨rfl, rfl⟩, Nat.le_of_ble_eq_true rfl, Nat.le_of_ble_eq_true rfl⟩ (Nat.le_of_ble_eq_true rfl) dX12_extendsBy_84 (fun H locs K => ?_)
        refine lv_aload_n hx hb dX12_extendsBy_87 rfl (lv_at hl 1 rfl) ?_
        refine lv_aload_n hx hb dX12_extendsBy_88 rfl (lv_at hl 1 rfl) ?_
        refine lv_iload_n hx hb dX12_extendsBy_89 rfl (lv_at hl 3 rfl) ?_
        refine lv_iload_n hx hb dX12_extendsBy_90 rfl (lv_at hl 4 rfl) ?_
        refine lv_iload_n hx hb dX12_extendsBy_91 rfl (lv_at hl 2 rfl) ?_
        refine lv_iload hx hb dX12_extendsBy_92 (lv_at hl 0 rfl) ?_
        refine lv_aload_n hx hb dX12_extendsBy_94 rfl (lv_at hl 1 rfl) ?_
        refine ok_ref F K fX12_211 dX12_extendsBy_95 ?_
        refine lv_iload_n hx hb dX12_extendsBy_98 rfl (lv_at hl 2 rfl) ?_
        obtain ⟨v20, hv20, hf⟩ := g_bd hf
        refine ok_iald F K t167 hv20 dX12_extendsBy_99 ?_
        obtain ⟨r22, u21, hu21, hf⟩ := g_b2 hf
        refine ok_calli (rest := [.ref (G.1 100)]) F K (pX12_comes G hu21) mX12_comes oc100 lX12_647 rfl hl.1 rfl ⟨⟨rfl, rfl⟩, Nat.le_of_ble_eq_true rfl, Nat.le_of_ble_eq_true rfl⟩ (Nat.le_of_ble_eq_true rfl) dX12_extendsBy_100 (fun H locs K => ?_)
        refine ok_putI F K qX12_614 dX12_extendsBy_103 (fun u23 H locs eu23 K => ?_)
        have hf := g_lt hf u23 eu23
        refine lv_iconst (v := 1) hx hb dX12_extendsBy_106 kI_1 ?_
        exact ok_retz B K hf (Or.inr rfl) dX12_extendsBy_107
      · have hf := g_neg hf c18
        refine lv_iconst (v := 0) hx hb dX12_extendsBy_77 kI_0 ?_
        exact ok_retz B K hf (Or.inl rfl) dX12_extendsBy_78
  · have hf := g_pos hf c3
    refine lv_iconst (v := 0) hx hb dX12_extendsBy_7 kI_0 ?_
    exact ok_retz B K hf (Or.inl rfl) dX12_extendsBy_8
abbrev rmX12_reduces : Room := { frames := 4, cells := 0, slots := 0, locals := 104 }
set_option maxRecDepth 100000 in
set_option maxHeartbeats 4000000 in
theorem pX12_reduces {l : Launch} (G : Gt) {a0 : Int32} {a1 : Int32} {r : Int32} {u u' : St} (hf : fX12_reduces a0 a1 u = some (r, u')) : Ctr 100 77 l yX12_reduces cX12_reduces 5 (some .boolean) rmX12_reduces [.ref (G.1 100), .int a0, .int a1] G u (some (.int r)) u' := by
  refine Ctr.mk (by decide) (Nat.le_of_ble_eq_true rfl) (fun p e s m below meth c A ls B K hl => ?_)
  have F := B.1
  have hx := F.1
  have hb := F.2.1
  have hl : lv_has ls 5 [(0, .ref (G.1 100)), (1, .int a0), (2, .int a1)] := hl
  unfold fX12_reduces at hf
  refine lv_aload_n hx hb dX12_reduces_0 rfl (lv_at hl 0 rfl) ?_
  refine ok_ref F K fX12_160 dX12_reduces_1 ?_
  refine lv_iload_n hx hb dX12_reduces_4 rfl (lv_at hl 1 rfl) ?_
  obtain ⟨v1, hv1, hf⟩ := g_bd hf
  refine ok_iald F K t150 hv1 dX12_reduces_5 ?_
  refine lv_istore_n (lv' := [(3, .int v1), (0, .ref (G.1 100)), (1, .int a0), (2, .int a1)]) hx hb dX12_reduces_6 rfl hl (by decide) rfl (fun ls hl => ?_)
  refine lv_aload_n hx hb dX12_reduces_7 rfl (lv_at hl 1 rfl) ?_
  refine ok_ref F K fX12_160 dX12_reduces_8 ?_
  refine lv_iload_n hx hb dX12_reduces_11 rfl (lv_at hl 3 rfl) ?_
  obtain ⟨v2, hv2, hf⟩ := g_bd hf
  refine ok_iald F K t150 hv2 dX12_reduces_12 ?_
  refine lv_istore (lv' := [(4, .int v2), (3, .int v1), (0, .ref (G.1 100)), (1, .int a0), (2, .int a1)]) hx hb dX12_reduces_13 hl (by decide) rfl (fun ls hl => ?_)
  refine lv_aload_n hx hb dX12_reduces_15 rfl (lv_at hl 2 rfl) ?_
  refine ok_ref F K fX12_37 dX12_reduces_16 ?_
  refine lv_iload hx hb dX12_reduces_19 (lv_at hl 0 rfl) ?_
  obtain ⟨v3, hv3, hf⟩ := g_bd hf
  refine ok_zald F K t109 hv3 dX12_reduces_21 ?_
  refine lv_aload_n hx hb dX12_reduces_22 rfl (lv_at hl 2 rfl) ?_
  refine ok_ref F K fX12_37 dX12_reduces_23 ?_
  refine lv_iload_n hx hb dX12_reduces_26 rfl (lv_at hl 1 rfl) ?_
  obtain ⟨v4, hv4, hf⟩ := g_bd hf
  refine ok_zald F K t109 hv4 dX12_reduces_27 ?_
  refine lv_icmp_eq (pc := 28) (tgt := 52) hx hb dX12_reduces_28 (by decide) (fun c5 => ?_) (fun c5 => ?_)
  · have hf := g_pos hf c5
    refine lv_iconst (v := 0) hx hb dX12_reduces_52 kI_0 ?_
    exact ok_retz B K hf (Or.inl rfl) dX12_reduces_53
  · have hf := g_neg hf c5
    refine lv_aload_n hx hb dX12_reduces_31 rfl (lv_at hl 2 rfl) ?_
    refine lv_iload hx hb dX12_reduces_32 (lv_at hl 0 rfl) ?_
    obtain ⟨r7, u6, hu6, hf⟩ := g_b2 hf
    refine ok_calli (rest := []) F K (pX12_predicate G hu6) mX12_predicate oc100 lX12_577 rfl hl.1 rfl ⟨⟨rfl, rfl⟩, Nat.le_of_ble_eq_true rfl, Nat.le_of_ble_eq_true rfl⟩ (Nat.le_of_ble_eq_true rfl) dX12_reduces_34 (fun H locs K => ?_)
    refine lv_aload_n hx hb dX12_reduces_37 rfl (lv_at hl 2 rfl) ?_
    refine lv_iload_n hx hb dX12_reduces_38 rfl (lv_at hl 1 rfl) ?_
    obtain ⟨r9, u8, hu8, hf⟩ := g_b2 hf
    refine ok_calli (rest := [.int r7]) F K (pX12_predicate G hu8) mX12_predicate oc100 lX12_577 rfl hl.1 rfl ⟨⟨rfl, rfl⟩, Nat.le_of_ble_eq_true rfl, Nat.le_of_ble_eq_true rfl⟩ (Nat.le_of_ble_eq_true rfl) dX12_reduces_39 (fun H locs K => ?_)
    refine lv_icmp_ne (pc := 42) (tgt := 52) hx hb dX12_reduces_42 (by decide) (fun c10 => ?_) (fun c10 => ?_)
    · have hf := g_neg hf c10
      refine lv_iconst (v := 0) hx hb dX12_reduces_52 kI_0 ?_
      exact ok_retz B K hf (Or.inl rfl) dX12_reduces_53
    · have hf := g_pos hf c10
      refine lv_aload_n hx hb dX12_reduces_45 rfl (lv_at hl 2 rfl) ?_
      obtain ⟨r12, u11, hu11, hf⟩ := g_b2 hf
      refine ok_calli (rest := []) F K (pX12_mayStep G hu11) mX12_mayStep oc100 lX12_632 rfl hl.1 rfl ⟨⟨rfl, rfl⟩, Nat.le_of_ble_eq_true rfl, Nat.le_of_ble_eq_true rfl⟩ (Nat.le_of_ble_eq_true rfl) dX12_reduces_46 (fun H locs K => ?_)
      refine lv_if_ne (pc := 49) (tgt := 54) hx hb dX12_reduces_49 (by decide) (fun c13 => ?_) (fun c13 => ?_)
      · have hf := g_neg hf c13
        refine lv_aload_n hx hb dX12_reduces_54 rfl (lv_at hl 2 rfl) ?_
        refine lv_iconst (v := 0) hx hb dX12_reduces_55 kI_0 ?_
        refine ok_putI F K qX12_549 dX12_reduces_56 (fun u14 H locs eu14 K => ?_)
        have hf := g_lt hf u14 eu14
        refine lv_aload_n hx hb dX12_reduces_59 rfl (lv_at hl 2 rfl) ?_
        refine lv_aload_n hx hb dX12_reduces_60 rfl (lv_at hl 2 rfl) ?_
        refine ok_ref F K fX12_40 dX12_reduces_61 ?_
        refine lv_iload_n hx hb dX12_reduces_64 rfl (lv_at hl 1 rfl) ?_
        obtain ⟨v15, hv15, hf⟩ := g_bd hf
        refine ok_iald F K t110 hv15 dX12_reduces_65 ?_
        refine lv_aload_n hx hb dX12_reduces_66 rfl (lv_at hl 2 rfl) ?_
        refine ok_ref F K fX12_163 dX12_reduces_67 ?_
        refine lv_iload_n hx hb dX12_reduces_70 rfl (lv_at hl 3 rfl) ?_
        obtain ⟨v16, hv16, hf⟩ := g_bd hf
        refine ok_iald F K t151 hv16 dX12_reduces_71 ?_
        refine lv_aload_n hx hb dX12_reduces_72 rfl (lv_at hl 2 rfl) ?_
        refine ok_ref F K fX12_40 dX12_reduces_73 ?_
        refine lv_iload hx hb dX12_reduces_76 (lv_at hl 0 rfl) ?_
        obtain ⟨v17, hv17, hf⟩ := g_bd hf
        refine ok_iald F K t110 hv17 dX12_reduces_78 ?_
        refine lv_aload_n hx hb dX12_reduces_79 rfl (lv_at hl 2 rfl) ?_
        refine ok_ref F K fX12_163 dX12_reduces_80 ?_
        refine lv_iload_n hx hb dX12_reduces_83 rfl (lv_at hl 4 rfl) ?_
        obtain ⟨v18, hv18, hf⟩ := g_bd hf
        refine ok_iald F K t151 hv18 dX12_reduces_84 ?_
        obtain ⟨r20, u19, hu19, hf⟩ := g_b2 hf
        refine ok_calli (rest := []) F K (pX12_unifyAll G hu19) mX12_unifyAll oc100 lX12_635 rfl hl.1 rfl ⟨⟨rfl, rfl⟩, Nat.le_of_ble_eq_true rfl, Nat.le_of_ble_eq_true rfl⟩ (Nat.le_of_ble_eq_true rfl) dX12_reduces_85 (fun H locs K => ?_)
        refine lv_if_ne (pc := 88) (tgt := 93) hx hb dX12_reduces_88 (by decide) (fun c21 => ?_) (fun c21 => ?_)
        · have hf := g_neg hf c21
          refine lv_aload_n hx hb dX12_reduces_93 rfl (lv_at hl 2 rfl) ?_
          refine lv_iconst (v := 2) hx hb dX12_reduces_94 kI_2 ?_
          refine lv_iconst (v := (-1)) hx hb dX12_reduces_95 kI_m1 ?_
          refine lv_aload_n hx hb dX12_reduces_96 rfl (lv_at hl 2 rfl) ?_
          refine ok_ref F K fX12_169 dX12_reduces_97 ?_
          refine lv_iload_n hx hb dX12_reduces_100 rfl (lv_at hl 4 rfl) ?_
          obtain ⟨v22, hv22, hf⟩ := g_bd hf
          refine ok_iald F K t153 hv22 dX12_reduces_101 ?_
          refine lv_iload_n hx hb dX12_reduces_102 rfl (lv_at hl 3 rfl) ?_
          obtain ⟨u23, hu23, hf⟩ := g_bd hf
          refine ok_callv (rest := []) F K (pX12_moved G hu23) mX12_moved oc100 lX12_638 rfl hl.1 rfl ⟨⟨rfl, rfl⟩, Nat.le_of_ble_eq_true rfl, Nat.le_of_ble_eq_true rfl⟩ (Nat.le_of_ble_eq_true rfl) dX12_reduces_103 (fun H locs K => ?_)
          refine lv_aload_n hx hb dX12_reduces_106 rfl (lv_at hl 2 rfl) ?_
          refine lv_aload_n hx hb dX12_reduces_107 rfl (lv_at hl 2 rfl) ?_
          refine ok_ref F K fX12_211 dX12_reduces_108 ?_
          refine lv_iload_n hx hb dX12_reduces_111 rfl (lv_at hl 3 rfl) ?_
          obtain ⟨v24, hv24, hf⟩ := g_bd hf
          refine ok_iald F K t167 hv24 dX12_reduces_112 ?_
          refine ok_putI F K qX12_614 dX12_reduces_113 (fun u25 H locs eu25 K => ?_)
          have hf := g_lt hf u25 eu25
          refine lv_iconst (v := 1) hx hb dX12_reduces_116 kI_1 ?_
          exact ok_retz B K hf (Or.inr rfl) dX12_reduces_117
        · have hf := g_pos hf c21
          refine lv_iconst (v := 0) hx hb dX12_reduces_91 kI_0 ?_
          exact ok_retz B K hf (Or.inl rfl) dX12_reduces_92
      · have hf := g_pos hf c13
        refine lv_iconst (v := 0) hx hb dX12_reduces_52 kI_0 ?_
        exact ok_retz B K hf (Or.inl rfl) dX12_reduces_53
abbrev rmX12_tryNext : Room := { frames := 5, cells := 0, slots := 0, locals := 128 }
set_option maxRecDepth 100000 in
set_option maxHeartbeats 4000000 in
theorem pX12_tryNext_L0 {p : Program} {l : Launch} {e : Env} {s : State} {m : MethodId} {below : List Frame} {meth : Method} {c : Code} {A : Nat → Prop} {G : Gt} {r : Int32} {u' : St} (B : Bd p s m [.ref (G.1 100)] meth c yX12_tryNext cX12_tryNext 7 (some .boolean)) (n : Nat) : (∀ (x1_ : Int32) (x2_ : Int32) (x3_ : Int32) (u : St) (H : Heap) (locs : List Loc) (ls : Array Slot), fX12_tryNext_L0  n 0 x1_ x2_ x3_ u = some (r, u') → Ok 100 77 G A s u H locs → lv_has ls 7 [(0, .ref (G.1 100)), (1, .int x1_), (2, .int x2_), (3, .int x3_)] → W p l e rmX12_tryNext s m ([.ref (G.1 100)] : List Value).toArray below meth c H locs 0 0 (MQ below (Qg 100 77 G A (some (.int r)) u') ([.ref (G.1 100)] : List Value).toArray s 0 0 A) (F0 m 89 ls [])) := by
  have F := B.1
  have hx := F.1
  have hb := F.2.1
  induction n with
  | zero => exact fun _ _ _ _ _ _ _ hf => g_no hf
  | succ n ih =>
    refine ?_
    · intro x1_ x2_ x3_ u H locs ls hf K hl
      have hf : fX12_tryNext_L0_0  (fX12_tryNext_L0  n) x1_ x2_ x3_ u = some (r, u') := hf
      unfold fX12_tryNext_L0_0 at hf
      refine lv_aload_n hx hb dX12_tryNext_89 rfl (lv_at hl 0 rfl) ?_
      refine ok_ref F K fX12_220 dX12_tryNext_90 ?_
      refine lv_iload_n hx hb dX12_tryNext_93 rfl (lv_at hl 1 rfl) ?_
      obtain ⟨v1, hv1, hf⟩ := g_bd hf
      refine ok_iald F K t170 hv1 dX12_tryNext_94 ?_
      refine lv_aload_n hx hb dX12_tryNext_95 rfl (lv_at hl 0 rfl) ?_
      refine ok_int F K fX12_445 dX12_tryNext_96 ?_
      refine lv_icmp_ge (pc := 99) (tgt := 273) hx hb dX12_tryNext_99 (by decide) (fun c2 => ?_) (fun c2 => ?_)
      · have hf := g_pos hf c2
        refine lv_aload_n hx hb dX12_tryNext_273 rfl (lv_at hl 0 rfl) ?_
        refine lv_dup hx hb dX12_tryNext_274 rfl ?_
        refine ok_int F K fX12_599 dX12_tryNext_275 ?_
        refine lv_iconst (v := 1) hx hb dX12_tryNext_278 kI_1 ?_
        refine lv_isub hx hb dX12_tryNext_279 ?_
        refine ok_putI F K qX12_599 dX12_tryNext_280 (fun u3 H locs eu3 K => ?_)
        have hf := g_lt hf u3 eu3
        refine lv_iconst (v := 0) hx hb dX12_tryNext_283 kI_0 ?_
        exact ok_retz B K hf (Or.inl rfl) dX12_tryNext_284
      · have hf := g_neg hf c2
        refine lv_aload_n hx hb dX12_tryNext_102 rfl (lv_at hl 0 rfl) ?_
        refine ok_ref F K fX12_220 dX12_tryNext_103 ?_
        refine lv_iload_n hx hb dX12_tryNext_106 rfl (lv_at hl 1 rfl) ?_
        obtain ⟨v4, hv4, hf⟩ := g_bd hf
        refine ok_iald F K t170 hv4 dX12_tryNext_107 ?_
        refine lv_istore (lv' := [(4, .int v4), (0, .ref (G.1 100)), (1, .int x1_), (2, .int x2_), (3, .int x3_)]) hx hb dX12_tryNext_108 hl (by decide) rfl (fun ls hl => ?_)
        refine lv_aload_n hx hb dX12_tryNext_110 rfl (lv_at hl 1 rfl) ?_
        refine ok_ref F K fX12_223 dX12_tryNext_111 ?_
        refine lv_iload_n hx hb dX12_tryNext_114 rfl (lv_at hl 2 rfl) ?_
        obtain ⟨v5, hv5, hf⟩ := g_bd hf
        refine ok_iald F K t171 hv5 dX12_tryNext_115 ?_
        refine lv_istore (lv' := [(5, .int v5), (4, .int v4), (0, .ref (G.1 100)), (1, .int x1_), (2, .int x2_), (3, .int x3_)]) hx hb dX12_tryNext_116 hl (by decide) rfl (fun ls hl => ?_)
        refine lv_iload hx hb dX12_tryNext_118 (lv_at hl 0 rfl) ?_
        refine lv_aload_n hx hb dX12_tryNext_120 rfl (lv_at hl 2 rfl) ?_
        refine ok_ref F K fX12_31 dX12_tryNext_121 ?_
        refine lv_iload hx hb dX12_tryNext_124 (lv_at hl 1 rfl) ?_
        obtain ⟨v6, hv6, hf⟩ := g_bd hf
        refine ok_iald F K t107 hv6 dX12_tryNext_126 ?_
        refine lv_icmp_ne (pc := 127) (tgt := 150) hx hb dX12_tryNext_127 (by decide) (fun c7 => ?_) (fun c7 => ?_)
        · have hf := g_neg hf c7
          refine lv_aload_n hx hb dX12_tryNext_150 rfl (lv_at hl 2 rfl) ?_
          refine ok_ref F K fX12_223 dX12_tryNext_151 ?_
          refine lv_iload_n hx hb dX12_tryNext_154 rfl (lv_at hl 3 rfl) ?_
          refine lv_dup2_11 hx hb dX12_tryNext_155 rfl rfl ?_
          obtain ⟨v8, hv8, hf⟩ := g_bd hf
          refine ok_iald F K t171 hv8 dX12_tryNext_156 ?_
          refine lv_iconst (v := 1) hx hb dX12_tryNext_157 kI_1 ?_
          refine lv_iadd hx hb dX12_tryNext_158 ?_
          obtain ⟨u9, hu9, hf⟩ := g_bd hf
          refine ok_iast F K t171 hu9 dX12_tryNext_159 (fun H locs K => ?_)
          refine lv_aload_n hx hb dX12_tryNext_160 rfl (lv_at hl 2 rfl) ?_
          refine ok_ref F K fX12_28 dX12_tryNext_161 ?_
          refine lv_iload hx hb dX12_tryNext_164 (lv_at hl 1 rfl) ?_
          obtain ⟨v10, hv10, hf⟩ := g_bd hf
          refine ok_iald F K t106 hv10 dX12_tryNext_166 ?_
          refine lv_iload hx hb dX12_tryNext_167 (lv_at hl 0 rfl) ?_
          refine lv_iadd hx hb dX12_tryNext_169 ?_
          refine lv_topi (fun x11 ex11 => ?_)
          have hf := g_lt hf x11 ex11
          refine lv_istore (lv' := [(6, .int x11), (5, .int v5), (4, .int v4), (0, .ref (G.1 100)), (1, .int x1_), (2, .int x2_), (3, .int x3_)]) hx hb dX12_tryNext_170 hl (by decide) rfl (fun ls hl => ?_)
          refine lv_aload_n hx hb dX12_tryNext_172 rfl (lv_at hl 3 rfl) ?_
          refine ok_ref F K fX12_37 dX12_tryNext_173 ?_
          refine lv_iload hx hb dX12_tryNext_176 (lv_at hl 0 rfl) ?_
          obtain ⟨v12, hv12, hf⟩ := g_bd hf
          refine ok_zald F K t109 hv12 dX12_tryNext_178 ?_
          refine lv_aload_n hx hb dX12_tryNext_179 rfl (lv_at hl 3 rfl) ?_
          refine ok_ref F K fX12_37 dX12_tryNext_180 ?_
          refine lv_iload_n hx hb dX12_tryNext_183 rfl (lv_at hl 6 rfl) ?_
          obtain ⟨v13, hv13, hf⟩ := g_bd hf
          refine ok_zald F K t109 hv13 dX12_tryNext_184 ?_
          refine lv_icmp_eq (pc := 185) (tgt := 89) hx hb dX12_tryNext_185 (by decide) (fun c14 => ?_) (fun c14 => ?_)
          · have hf := g_pos hf c14
            exact ih x1_ x2_ x3_ u9 _ _ _ hf K (lv_sub hl [3, 4, 5, 6] rfl)
          · have hf := g_neg hf c14
            refine lv_aload_n hx hb dX12_tryNext_188 rfl (lv_at hl 3 rfl) ?_
            refine lv_iload hx hb dX12_tryNext_189 (lv_at hl 0 rfl) ?_
            obtain ⟨r16, u15, hu15, hf⟩ := g_b2 hf
            refine ok_calli (rest := []) F K (pX12_predicate G hu15) mX12_predicate oc100 lX12_577 rfl hl.1 rfl ⟨⟨rfl, rfl⟩, Nat.le_of_ble_eq_true rfl, Nat.le_of_ble_eq_true rfl⟩ (Nat.le_of_ble_eq_true rfl) dX12_tryNext_191 (fun H locs K => ?_)
            refine lv_aload_n hx hb dX12_tryNext_194 rfl (lv_at hl 3 rfl) ?_
            refine lv_iload_n hx hb dX12_tryNext_195 rfl (lv_at hl 6 rfl) ?_
            obtain ⟨r18, u17, hu17, hf⟩ := g_b2 hf
            refine ok_calli (rest := [.int r16]) F K (pX12_predicate G hu17) mX12_predicate oc100 lX12_577 rfl hl.1 rfl ⟨⟨rfl, rfl⟩, Nat.le_of_ble_eq_true rfl, Nat.le_of_ble_eq_true rfl⟩ (Nat.le_of_ble_eq_true rfl) dX12_tryNext_196 (fun H locs K => ?_)
            refine lv_icmp_eq (pc := 199) (tgt := 205) hx hb dX12_tryNext_199 (by decide) (fun c19 => ?_) (fun c19 => ?_)
            · have hf := g_pos hf c19
              refine lv_aload_n hx hb dX12_tryNext_205 rfl (lv_at hl 3 rfl) ?_
              refine ok_ref F K fX12_169 dX12_tryNext_206 ?_
              refine lv_iload_n hx hb dX12_tryNext_209 rfl (lv_at hl 5 rfl) ?_
              obtain ⟨v20, hv20, hf⟩ := g_bd hf
              refine ok_iald F K t153 hv20 dX12_tryNext_210 ?_
              refine lv_aload_n hx hb dX12_tryNext_211 rfl (lv_at hl 3 rfl) ?_
              refine ok_int F K fX12_623 dX12_tryNext_212 ?_
              refine lv_icmp_lt (pc := 215) (tgt := 235) hx hb dX12_tryNext_215 (by decide) (fun c21 => ?_) (fun c21 => ?_)
              · have hf := g_pos hf c21
                refine lv_aload_n hx hb dX12_tryNext_235 rfl (lv_at hl 3 rfl) ?_
                refine lv_iload_n hx hb dX12_tryNext_236 rfl (lv_at hl 5 rfl) ?_
                refine lv_iload hx hb dX12_tryNext_237 (lv_at hl 2 rfl) ?_
                refine lv_iload hx hb dX12_tryNext_239 (lv_at hl 1 rfl) ?_
                obtain ⟨r23, u22, hu22, hf⟩ := g_b2 hf
                refine ok_calli (rest := []) F K (pX12_extendsBy G hu22) mX12_extendsBy oc100 lX12_629 rfl hl.1 rfl ⟨⟨rfl, rfl⟩, Nat.le_of_ble_eq_true rfl, Nat.le_of_ble_eq_true rfl⟩ (Nat.le_of_ble_eq_true rfl) dX12_tryNext_241 (fun H locs K => ?_)
                refine lv_if_eq (pc := 244) (tgt := 249) hx hb dX12_tryNext_244 (by decide) (fun c24 => ?_) (fun c24 => ?_)
                · have hf := g_pos hf c24
                  refine lv_aload_n hx hb dX12_tryNext_249 rfl (lv_at hl 3 rfl) ?_
                  refine ok_int F K fX12_552 dX12_tryNext_250 ?_
                  refine lv_if_ne (pc := 253) (tgt := 263) hx hb dX12_tryNext_253 (by decide) (fun c25 => ?_) (fun c25 => ?_)
                  · have hf := g_neg hf c25
                    refine lv_iconst (v := 0) hx hb dX12_tryNext_263 kI_0 ?_
                    exact ok_retz B K hf (Or.inl rfl) dX12_tryNext_264
                  · have hf := g_pos hf c25
                    refine lv_aload_n hx hb dX12_tryNext_256 rfl (lv_at hl 3 rfl) ?_
                    refine ok_int F K fX12_587 dX12_tryNext_257 ?_
                    refine lv_if_eq (pc := 260) (tgt := 265) hx hb dX12_tryNext_260 (by decide) (fun c26 => ?_) (fun c26 => ?_)
                    · have hf := g_pos hf c26
                      refine lv_aload_n hx hb dX12_tryNext_265 rfl (lv_at hl 3 rfl) ?_
                      refine lv_iload_n hx hb dX12_tryNext_266 rfl (lv_at hl 4 rfl) ?_
                      obtain ⟨u27, hu27, hf⟩ := g_bd hf
                      refine ok_callv (rest := []) F K (pX12_restore G hu27) mX12_restore oc100 lX12_617 rfl hl.1 rfl ⟨⟨rfl, rfl⟩, Nat.le_of_ble_eq_true rfl, Nat.le_of_ble_eq_true rfl⟩ (Nat.le_of_ble_eq_true rfl) dX12_tryNext_267 (fun H locs K => ?_)
                      refine lv_goto (pc := 270) (tgt := 89) hx hb dX12_tryNext_270 (by decide) ?_
                      exact ih x1_ x2_ x3_ u27 _ _ _ hf K (lv_sub hl [3, 4, 5, 6] rfl)
                    · have hf := g_neg hf c26
                      refine lv_iconst (v := 0) hx hb dX12_tryNext_263 kI_0 ?_
                      exact ok_retz B K hf (Or.inl rfl) dX12_tryNext_264
                · have hf := g_neg hf c24
                  refine lv_iconst (v := 1) hx hb dX12_tryNext_247 kI_1 ?_
                  exact ok_retz B K hf (Or.inr rfl) dX12_tryNext_248
              · have hf := g_neg hf c21
                refine lv_aload_n hx hb dX12_tryNext_218 rfl (lv_at hl 3 rfl) ?_
                refine lv_iconst (v := 1) hx hb dX12_tryNext_219 kI_1 ?_
                refine ok_putZ F K qX12_626 (Or.inr rfl) dX12_tryNext_220 (fun u28 H locs eu28 K => ?_)
                have hf := g_lt hf u28 eu28
                refine lv_aload_n hx hb dX12_tryNext_223 rfl (lv_at hl 3 rfl) ?_
                refine lv_dup hx hb dX12_tryNext_224 rfl ?_
                refine ok_int F K fX12_599 dX12_tryNext_225 ?_
                refine lv_iconst (v := 1) hx hb dX12_tryNext_228 kI_1 ?_
                refine lv_isub hx hb dX12_tryNext_229 ?_
                refine ok_putI F K qX12_599 dX12_tryNext_230 (fun u29 H locs eu29 K => ?_)
                have hf := g_lt hf u29 eu29
                refine lv_iconst (v := 0) hx hb dX12_tryNext_233 kI_0 ?_
                exact ok_retz B K hf (Or.inl rfl) dX12_tryNext_234
            · have hf := g_neg hf c19
              refine lv_goto (pc := 202) (tgt := 89) hx hb dX12_tryNext_202 (by decide) ?_
              exact ih x1_ x2_ x3_ u17 _ _ _ hf K (lv_sub hl [3, 4, 5, 6] rfl)
        · have hf := g_pos hf c7
          refine lv_aload_n hx hb dX12_tryNext_130 rfl (lv_at hl 2 rfl) ?_
          refine ok_ref F K fX12_220 dX12_tryNext_131 ?_
          refine lv_iload_n hx hb dX12_tryNext_134 rfl (lv_at hl 3 rfl) ?_
          refine lv_dup2_11 hx hb dX12_tryNext_135 rfl rfl ?_
          obtain ⟨v30, hv30, hf⟩ := g_bd hf
          refine ok_iald F K t170 hv30 dX12_tryNext_136 ?_
          refine lv_iconst (v := 1) hx hb dX12_tryNext_137 kI_1 ?_
          refine lv_iadd hx hb dX12_tryNext_138 ?_
          obtain ⟨u31, hu31, hf⟩ := g_bd hf
          refine ok_iast F K t170 hu31 dX12_tryNext_139 (fun H locs K => ?_)
          refine lv_aload_n hx hb dX12_tryNext_140 rfl (lv_at hl 2 rfl) ?_
          refine ok_ref F K fX12_223 dX12_tryNext_141 ?_
          refine lv_iload_n hx hb dX12_tryNext_144 rfl (lv_at hl 3 rfl) ?_
          refine lv_iconst (v := 0) hx hb dX12_tryNext_145 kI_0 ?_
          obtain ⟨u32, hu32, hf⟩ := g_bd hf
          refine ok_iast F K t171 hu32 dX12_tryNext_146 (fun H locs K => ?_)
          refine lv_goto (pc := 147) (tgt := 89) hx hb dX12_tryNext_147 (by decide) ?_
          exact ih x1_ x2_ x3_ u32 _ _ _ hf K (lv_sub hl [2, 3, 4, 5] rfl)
set_option maxRecDepth 100000 in
set_option maxHeartbeats 4000000 in
theorem pX12_tryNext_L1 {p : Program} {l : Launch} {e : Env} {s : State} {m : MethodId} {below : List Frame} {meth : Method} {c : Code} {A : Nat → Prop} {G : Gt} {r : Int32} {u' : St} (B : Bd p s m [.ref (G.1 100)] meth c yX12_tryNext cX12_tryNext 7 (some .boolean)) (n : Nat) : (∀ (x1_ : Int32) (x2_ : Int32) (u : St) (H : Heap) (locs : List Loc) (ls : Array Slot), fX12_tryNext_L1  n 0 x1_ x2_ u = some (r, u') → Ok 100 77 G A s u H locs → lv_has ls 7 [(0, .ref (G.1 100)), (1, .int x1_), (2, .int x2_)] → W p l e rmX12_tryNext s m ([.ref (G.1 100)] : List Value).toArray below meth c H locs 0 0 (MQ below (Qg 100 77 G A (some (.int r)) u') ([.ref (G.1 100)] : List Value).toArray s 0 0 A) (F0 m 19 ls [])) := by
  have F := B.1
  have hx := F.1
  have hb := F.2.1
  induction n with
  | zero => exact fun _ _ _ _ _ _ hf => g_no hf
  | succ n ih =>
    refine ?_
    · intro x1_ x2_ u H locs ls hf K hl
      have hf : fX12_tryNext_L1_0  (fX12_tryNext_L1  n) x1_ x2_ u = some (r, u') := hf
      unfold fX12_tryNext_L1_0 at hf
      refine lv_aload_n hx hb dX12_tryNext_19 rfl (lv_at hl 0 rfl) ?_
      refine ok_ref F K fX12_217 dX12_tryNext_20 ?_
      refine lv_iload_n hx hb dX12_tryNext_23 rfl (lv_at hl 1 rfl) ?_
      obtain ⟨v33, hv33, hf⟩ := g_bd hf
      refine ok_iald F K t169 hv33 dX12_tryNext_24 ?_
      refine lv_if_lt (pc := 25) (tgt := 82) hx hb dX12_tryNext_25 (by decide) (fun c34 => ?_) (fun c34 => ?_)
      · have hf := g_pos hf c34
        refine lv_aload_n hx hb dX12_tryNext_82 rfl (lv_at hl 0 rfl) ?_
        refine ok_ref F K fX12_160 dX12_tryNext_83 ?_
        refine lv_iload_n hx hb dX12_tryNext_86 rfl (lv_at hl 2 rfl) ?_
        obtain ⟨v35, hv35, hf⟩ := g_bd hf
        refine ok_iald F K t150 hv35 dX12_tryNext_87 ?_
        refine lv_istore_n (lv' := [(3, .int v35), (0, .ref (G.1 100)), (1, .int x1_), (2, .int x2_)]) hx hb dX12_tryNext_88 rfl hl (by decide) rfl (fun ls hl => ?_)
        exact (pX12_tryNext_L0  B FU) x1_ x2_ v35 u _ _ _ hf K (lv_sub hl [1, 2, 3, 0] rfl)
      · have hf := g_neg hf c34
        refine lv_aload_n hx hb dX12_tryNext_28 rfl (lv_at hl 0 rfl) ?_
        refine ok_ref F K fX12_217 dX12_tryNext_29 ?_
        refine lv_iload_n hx hb dX12_tryNext_32 rfl (lv_at hl 1 rfl) ?_
        obtain ⟨v36, hv36, hf⟩ := g_bd hf
        refine ok_iald F K t169 hv36 dX12_tryNext_33 ?_
        refine lv_istore_n (lv' := [(3, .int v36), (0, .ref (G.1 100)), (1, .int x1_), (2, .int x2_)]) hx hb dX12_tryNext_34 rfl hl (by decide) rfl (fun ls hl => ?_)
        refine lv_aload_n hx hb dX12_tryNext_35 rfl (lv_at hl 1 rfl) ?_
        refine ok_ref F K fX12_217 dX12_tryNext_36 ?_
        refine lv_iload_n hx hb dX12_tryNext_39 rfl (lv_at hl 2 rfl) ?_
        refine lv_aload_n hx hb dX12_tryNext_40 rfl (lv_at hl 1 rfl) ?_
        refine ok_ref F K fX12_166 dX12_tryNext_41 ?_
        refine lv_iload_n hx hb dX12_tryNext_44 rfl (lv_at hl 0 rfl) ?_
        obtain ⟨v37, hv37, hf⟩ := g_bd hf
        refine ok_iald F K t152 hv37 dX12_tryNext_45 ?_
        obtain ⟨u38, hu38, hf⟩ := g_bd hf
        refine ok_iast F K t169 hu38 dX12_tryNext_46 (fun H locs K => ?_)
        refine lv_aload_n hx hb dX12_tryNext_47 rfl (lv_at hl 1 rfl) ?_
        refine lv_iload_n hx hb dX12_tryNext_48 rfl (lv_at hl 3 rfl) ?_
        refine lv_iload_n hx hb dX12_tryNext_49 rfl (lv_at hl 0 rfl) ?_
        obtain ⟨r40, u39, hu39, hf⟩ := g_b2 hf
        refine ok_calli (rest := []) F K (pX12_reduces G hu39) mX12_reduces oc100 lX12_620 rfl hl.1 rfl ⟨⟨rfl, rfl⟩, Nat.le_of_ble_eq_true rfl, Nat.le_of_ble_eq_true rfl⟩ (Nat.le_of_ble_eq_true rfl) dX12_tryNext_50 (fun H locs K => ?_)
        refine lv_if_eq (pc := 53) (tgt := 58) hx hb dX12_tryNext_53 (by decide) (fun c41 => ?_) (fun c41 => ?_)
        · have hf := g_pos hf c41
          refine lv_aload_n hx hb dX12_tryNext_58 rfl (lv_at hl 1 rfl) ?_
          refine ok_int F K fX12_552 dX12_tryNext_59 ?_
          refine lv_if_ne (pc := 62) (tgt := 72) hx hb dX12_tryNext_62 (by decide) (fun c42 => ?_) (fun c42 => ?_)
          · have hf := g_neg hf c42
            refine lv_iconst (v := 0) hx hb dX12_tryNext_72 kI_0 ?_
            exact ok_retz B K hf (Or.inl rfl) dX12_tryNext_73
          · have hf := g_pos hf c42
            refine lv_aload_n hx hb dX12_tryNext_65 rfl (lv_at hl 1 rfl) ?_
            refine ok_int F K fX12_587 dX12_tryNext_66 ?_
            refine lv_if_eq (pc := 69) (tgt := 74) hx hb dX12_tryNext_69 (by decide) (fun c43 => ?_) (fun c43 => ?_)
            · have hf := g_pos hf c43
              refine lv_aload_n hx hb dX12_tryNext_74 rfl (lv_at hl 1 rfl) ?_
              refine lv_iload_n hx hb dX12_tryNext_75 rfl (lv_at hl 2 rfl) ?_
              obtain ⟨u44, hu44, hf⟩ := g_bd hf
              refine ok_callv (rest := []) F K (pX12_restore G hu44) mX12_restore oc100 lX12_617 rfl hl.1 rfl ⟨⟨rfl, rfl⟩, Nat.le_of_ble_eq_true rfl, Nat.le_of_ble_eq_true rfl⟩ (Nat.le_of_ble_eq_true rfl) dX12_tryNext_76 (fun H locs K => ?_)
              refine lv_goto (pc := 79) (tgt := 19) hx hb dX12_tryNext_79 (by decide) ?_
              exact ih x1_ x2_ u44 _ _ _ hf K (lv_sub hl [1, 2, 3] rfl)
            · have hf := g_neg hf c43
              refine lv_iconst (v := 0) hx hb dX12_tryNext_72 kI_0 ?_
              exact ok_retz B K hf (Or.inl rfl) dX12_tryNext_73
        · have hf := g_neg hf c41
          refine lv_iconst (v := 1) hx hb dX12_tryNext_56 kI_1 ?_
          exact ok_retz B K hf (Or.inr rfl) dX12_tryNext_57
set_option maxRecDepth 100000 in
set_option maxHeartbeats 4000000 in
theorem pX12_tryNext {l : Launch} (G : Gt) {r : Int32} {u u' : St} (hf : fX12_tryNext u = some (r, u')) : Ctr 100 77 l yX12_tryNext cX12_tryNext 7 (some .boolean) rmX12_tryNext [.ref (G.1 100)] G u (some (.int r)) u' := by
  refine Ctr.mk (by decide) (Nat.le_of_ble_eq_true rfl) (fun p e s m below meth c A ls B K hl => ?_)
  have F := B.1
  have hx := F.1
  have hb := F.2.1
  have hl : lv_has ls 7 [(0, .ref (G.1 100))] := hl
  unfold fX12_tryNext at hf
  refine lv_aload_n hx hb dX12_tryNext_0 rfl (lv_at hl 0 rfl) ?_
  refine ok_int F K fX12_599 dX12_tryNext_1 ?_
  refine lv_iconst (v := 1) hx hb dX12_tryNext_4 kI_1 ?_
  refine lv_isub hx hb dX12_tryNext_5 ?_
  refine lv_topi (fun x45 ex45 => ?_)
  have hf := g_lt hf x45 ex45
  refine lv_istore_n (lv' := [(1, .int x45), (0, .ref (G.1 100))]) hx hb dX12_tryNext_6 rfl hl (by decide) rfl (fun ls hl => ?_)
  refine lv_aload_n hx hb dX12_tryNext_7 rfl (lv_at hl 1 rfl) ?_
  refine lv_iload_n hx hb dX12_tryNext_8 rfl (lv_at hl 0 rfl) ?_
  obtain ⟨u46, hu46, hf⟩ := g_bd hf
  refine ok_callv (rest := []) F K (pX12_restore G hu46) mX12_restore oc100 lX12_617 rfl hl.1 rfl ⟨⟨rfl, rfl⟩, Nat.le_of_ble_eq_true rfl, Nat.le_of_ble_eq_true rfl⟩ (Nat.le_of_ble_eq_true rfl) dX12_tryNext_9 (fun H locs K => ?_)
  refine lv_aload_n hx hb dX12_tryNext_12 rfl (lv_at hl 1 rfl) ?_
  refine ok_ref F K fX12_214 dX12_tryNext_13 ?_
  refine lv_iload_n hx hb dX12_tryNext_16 rfl (lv_at hl 0 rfl) ?_
  obtain ⟨v47, hv47, hf⟩ := g_bd hf
  refine ok_iald F K t168 hv47 dX12_tryNext_17 ?_
  refine lv_istore_n (lv' := [(2, .int v47), (1, .int x45), (0, .ref (G.1 100))]) hx hb dX12_tryNext_18 rfl hl (by decide) rfl (fun ls hl => ?_)
  exact (pX12_tryNext_L1  B FU) x45 v47 u46 _ _ _ hf K (lv_sub hl [2, 1, 0] rfl)
abbrev rmX12_solve : Room := { frames := 6, cells := 0, slots := 0, locals := 154 }
set_option maxRecDepth 100000 in
set_option maxHeartbeats 4000000 in
theorem pX12_solve_L0 {p : Program} {l : Launch} {e : Env} {s : State} {m : MethodId} {below : List Frame} {meth : Method} {c : Code} {A : Nat → Prop} {G : Gt} {a0 : Int32} {r : Int32} {u' : St} (B : Bd p s m [.ref (G.1 100), .int a0] meth c yX12_solve cX12_solve 4 (some .boolean)) (n : Nat) : (∀ (x2_ : Int32) (u : St) (H : Heap) (locs : List Loc) (ls : Array Slot), fX12_solve_L0  n 0 x2_ 0 u = some (r, u') → Ok 100 77 G A s u H locs → lv_has ls 4 [(0, .ref (G.1 100)), (2, .int x2_)] → W p l e rmX12_solve s m ([.ref (G.1 100), .int a0] : List Value).toArray below meth c H locs 0 0 (MQ below (Qg 100 77 G A (some (.int r)) u') ([.ref (G.1 100), .int a0] : List Value).toArray s 0 0 A) (F0 m 7 ls [])) ∧ (∀ (x3_ : Int32) (u : St) (H : Heap) (locs : List Loc) (ls : Array Slot), fX12_solve_L0  n 1 0 x3_ u = some (r, u') → Ok 100 77 G A s u H locs → lv_has ls 4 [(0, .ref (G.1 100)), (3, .int x3_)] → W p l e rmX12_solve s m ([.ref (G.1 100), .int a0] : List Value).toArray below meth c H locs 0 0 (MQ below (Qg 100 77 G A (some (.int r)) u') ([.ref (G.1 100), .int a0] : List Value).toArray s 0 0 A) (F0 m 31 ls [])) ∧ (∀ (x3_ : Int32) (u : St) (H : Heap) (locs : List Loc) (ls : Array Slot), fX12_solve_L0  n 2 0 x3_ u = some (r, u') → Ok 100 77 G A s u H locs → lv_has ls 4 [(0, .ref (G.1 100)), (3, .int x3_)] → W p l e rmX12_solve s m ([.ref (G.1 100), .int a0] : List Value).toArray below meth c H locs 0 0 (MQ below (Qg 100 77 G A (some (.int r)) u') ([.ref (G.1 100), .int a0] : List Value).toArray s 0 0 A) (F0 m 64 ls [])) := by
  have F := B.1
  have hx := F.1
  have hb := F.2.1
  induction n with
  | zero => exact ⟨fun _ _ _ _ _ hf => g_no hf, fun _ _ _ _ _ hf => g_no hf, fun _ _ _ _ _ hf => g_no hf⟩
  | succ n ih =>
    refine ⟨?_, ?_, ?_⟩
    · intro x2_ u H locs ls hf K hl
      have hf : fX12_solve_L0_0  (fX12_solve_L0  n) x2_ u = some (r, u') := hf
      unfold fX12_solve_L0_0 at hf
      refine lv_iload_n hx hb dX12_solve_7 rfl (lv_at hl 1 rfl) ?_
      refine lv_if_lt (pc := 8) (tgt := 92) hx hb dX12_solve_8 (by decide) (fun c1 => ?_) (fun c1 => ?_)
      · have hf := g_pos hf c1
        refine lv_iconst (v := 1) hx hb dX12_solve_92 kI_1 ?_
        exact ok_retz B K hf (Or.inr rfl) dX12_solve_93
      · have hf := g_neg hf c1
        refine lv_iconst (v := 0) hx hb dX12_solve_11 kI_0 ?_
        refine lv_topi (fun x2 ex2 => ?_)
        have hf := g_lt hf x2 ex2
        refine lv_istore_n (lv' := [(3, .int x2), (0, .ref (G.1 100)), (2, .int x2_)]) hx hb dX12_solve_12 rfl hl (by decide) rfl (fun ls hl => ?_)
        refine lv_aload_n hx hb dX12_solve_13 rfl (lv_at hl 1 rfl) ?_
        refine lv_iload_n hx hb dX12_solve_14 rfl (lv_at hl 2 rfl) ?_
        obtain ⟨r4, u3, hu3, hf⟩ := g_b2 hf
        refine ok_calli (rest := []) F K (pX12_repeats G hu3) mX12_repeats oc100 lX12_605 rfl hl.1 rfl ⟨⟨rfl, rfl⟩, Nat.le_of_ble_eq_true rfl, Nat.le_of_ble_eq_true rfl⟩ (Nat.le_of_ble_eq_true rfl) dX12_solve_15 (fun H locs K => ?_)
        refine lv_if_ne (pc := 18) (tgt := 31) hx hb dX12_solve_18 (by decide) (fun c5 => ?_) (fun c5 => ?_)
        · have hf := g_neg hf c5
          exact ih.2.1 x2 u3 _ _ _ hf K (lv_sub hl [1, 0] rfl)
        · have hf := g_pos hf c5
          refine lv_aload_n hx hb dX12_solve_21 rfl (lv_at hl 1 rfl) ?_
          refine lv_iload_n hx hb dX12_solve_22 rfl (lv_at hl 2 rfl) ?_
          obtain ⟨u6, hu6, hf⟩ := g_bd hf
          refine ok_callv (rest := []) F K (pX12_enter G hu6) mX12_enter oc100 lX12_608 rfl hl.1 rfl ⟨⟨rfl, rfl⟩, Nat.le_of_ble_eq_true rfl, Nat.le_of_ble_eq_true rfl⟩ (Nat.le_of_ble_eq_true rfl) dX12_solve_23 (fun H locs K => ?_)
          refine lv_aload_n hx hb dX12_solve_26 rfl (lv_at hl 1 rfl) ?_
          obtain ⟨r8, u7, hu7, hf⟩ := g_b2 hf
          refine ok_calli (rest := []) F K (pX12_tryNext G hu7) mX12_tryNext oc100 lX12_611 rfl hl.1 rfl ⟨⟨rfl, rfl⟩, Nat.le_of_ble_eq_true rfl, Nat.le_of_ble_eq_true rfl⟩ (Nat.le_of_ble_eq_true rfl) dX12_solve_27 (fun H locs K => ?_)
          refine lv_istore_n (lv' := [(3, .int r8), (0, .ref (G.1 100)), (2, .int x2_)]) hx hb dX12_solve_30 rfl hl (by decide) rfl (fun ls hl => ?_)
          exact ih.2.1 r8 u7 _ _ _ hf K (lv_sub hl [1, 0] rfl)
    · intro x3_ u H locs ls hf K hl
      have hf : fX12_solve_L0_1  (fX12_solve_L0  n) x3_ u = some (r, u') := hf
      unfold fX12_solve_L0_1 at hf
      refine lv_iload_n hx hb dX12_solve_31 rfl (lv_at hl 1 rfl) ?_
      refine lv_if_ne (pc := 32) (tgt := 64) hx hb dX12_solve_32 (by decide) (fun c9 => ?_) (fun c9 => ?_)
      · have hf := g_neg hf c9
        exact ih.2.2 x3_ u _ _ _ hf K (lv_sub hl [0, 1] rfl)
      · have hf := g_pos hf c9
        refine lv_aload_n hx hb dX12_solve_35 rfl (lv_at hl 0 rfl) ?_
        refine ok_int F K fX12_599 dX12_solve_36 ?_
        refine lv_if_le (pc := 39) (tgt := 64) hx hb dX12_solve_39 (by decide) (fun c10 => ?_) (fun c10 => ?_)
        · have hf := g_pos hf c10
          exact ih.2.2 x3_ u _ _ _ hf K (lv_sub hl [0, 1] rfl)
        · have hf := g_neg hf c10
          refine lv_aload_n hx hb dX12_solve_42 rfl (lv_at hl 0 rfl) ?_
          refine ok_int F K fX12_552 dX12_solve_43 ?_
          refine lv_if_ne (pc := 46) (tgt := 64) hx hb dX12_solve_46 (by decide) (fun c11 => ?_) (fun c11 => ?_)
          · have hf := g_neg hf c11
            exact ih.2.2 x3_ u _ _ _ hf K (lv_sub hl [0, 1] rfl)
          · have hf := g_pos hf c11
            refine lv_aload_n hx hb dX12_solve_49 rfl (lv_at hl 0 rfl) ?_
            refine ok_int F K fX12_587 dX12_solve_50 ?_
            refine lv_if_ne (pc := 53) (tgt := 64) hx hb dX12_solve_53 (by decide) (fun c12 => ?_) (fun c12 => ?_)
            · have hf := g_neg hf c12
              exact ih.2.2 x3_ u _ _ _ hf K (lv_sub hl [0, 1] rfl)
            · have hf := g_pos hf c12
              refine lv_aload_n hx hb dX12_solve_56 rfl (lv_at hl 0 rfl) ?_
              obtain ⟨r14, u13, hu13, hf⟩ := g_b2 hf
              refine ok_calli (rest := []) F K (pX12_tryNext G hu13) mX12_tryNext oc100 lX12_611 rfl hl.1 rfl ⟨⟨rfl, rfl⟩, Nat.le_of_ble_eq_true rfl, Nat.le_of_ble_eq_true rfl⟩ (Nat.le_of_ble_eq_true rfl) dX12_solve_57 (fun H locs K => ?_)
              refine lv_istore_n (lv' := [(3, .int r14), (0, .ref (G.1 100))]) hx hb dX12_solve_60 rfl hl (by decide) rfl (fun ls hl => ?_)
              refine lv_goto (pc := 61) (tgt := 31) hx hb dX12_solve_61 (by decide) ?_
              exact ih.2.1 r14 u13 _ _ _ hf K (lv_sub hl [1, 0] rfl)
    · intro x3_ u H locs ls hf K hl
      have hf : fX12_solve_L0_2  (fX12_solve_L0  n) x3_ u = some (r, u') := hf
      unfold fX12_solve_L0_2 at hf
      refine lv_iload_n hx hb dX12_solve_64 rfl (lv_at hl 1 rfl) ?_
      refine lv_if_eq (pc := 65) (tgt := 82) hx hb dX12_solve_65 (by decide) (fun c15 => ?_) (fun c15 => ?_)
      · have hf := g_pos hf c15
        refine lv_iconst (v := 0) hx hb dX12_solve_82 kI_0 ?_
        exact ok_retz B K hf (Or.inl rfl) dX12_solve_83
      · have hf := g_neg hf c15
        refine lv_aload_n hx hb dX12_solve_68 rfl (lv_at hl 0 rfl) ?_
        refine ok_int F K fX12_552 dX12_solve_69 ?_
        refine lv_if_ne (pc := 72) (tgt := 82) hx hb dX12_solve_72 (by decide) (fun c16 => ?_) (fun c16 => ?_)
        · have hf := g_neg hf c16
          refine lv_iconst (v := 0) hx hb dX12_solve_82 kI_0 ?_
          exact ok_retz B K hf (Or.inl rfl) dX12_solve_83
        · have hf := g_pos hf c16
          refine lv_aload_n hx hb dX12_solve_75 rfl (lv_at hl 0 rfl) ?_
          refine ok_int F K fX12_587 dX12_solve_76 ?_
          refine lv_if_eq (pc := 79) (tgt := 84) hx hb dX12_solve_79 (by decide) (fun c17 => ?_) (fun c17 => ?_)
          · have hf := g_pos hf c17
            refine lv_aload_n hx hb dX12_solve_84 rfl (lv_at hl 0 rfl) ?_
            refine ok_int F K fX12_614 dX12_solve_85 ?_
            refine lv_topi (fun x18 ex18 => ?_)
            have hf := g_lt hf x18 ex18
            refine lv_istore_n (lv' := [(2, .int x18), (0, .ref (G.1 100)), (3, .int x3_)]) hx hb dX12_solve_88 rfl hl (by decide) rfl (fun ls hl => ?_)
            refine lv_goto (pc := 89) (tgt := 7) hx hb dX12_solve_89 (by decide) ?_
            exact ih.1 x18 u _ _ _ hf K (lv_sub hl [1, 0] rfl)
          · have hf := g_neg hf c17
            refine lv_iconst (v := 0) hx hb dX12_solve_82 kI_0 ?_
            exact ok_retz B K hf (Or.inl rfl) dX12_solve_83
set_option maxRecDepth 100000 in
set_option maxHeartbeats 4000000 in
theorem pX12_solve {l : Launch} (G : Gt) {a0 : Int32} {r : Int32} {u u' : St} (hf : fX12_solve a0 u = some (r, u')) : Ctr 100 77 l yX12_solve cX12_solve 4 (some .boolean) rmX12_solve [.ref (G.1 100), .int a0] G u (some (.int r)) u' := by
  refine Ctr.mk (by decide) (Nat.le_of_ble_eq_true rfl) (fun p e s m below meth c A ls B K hl => ?_)
  have F := B.1
  have hx := F.1
  have hb := F.2.1
  have hl : lv_has ls 4 [(0, .ref (G.1 100)), (1, .int a0)] := hl
  unfold fX12_solve at hf
  refine lv_aload_n hx hb dX12_solve_0 rfl (lv_at hl 0 rfl) ?_
  refine lv_iconst (v := 0) hx hb dX12_solve_1 kI_0 ?_
  refine ok_putI F K qX12_599 dX12_solve_2 (fun u19 H locs eu19 K => ?_)
  have hf := g_lt hf u19 eu19
  refine lv_iload_n hx hb dX12_solve_5 rfl (lv_at hl 1 rfl) ?_
  refine lv_istore_n (lv' := [(2, .int a0), (0, .ref (G.1 100)), (1, .int a0)]) hx hb dX12_solve_6 rfl hl (by decide) rfl (fun ls hl => ?_)
  exact (pX12_solve_L0  B FU).1 a0 u19 _ _ _ hf K (lv_sub hl [1, 0] rfl)
abbrev rmX12_startWith : Room := { frames := 7, cells := 0, slots := 0, locals := 177 }
set_option maxRecDepth 100000 in
set_option maxHeartbeats 4000000 in
theorem pX12_startWith {l : Launch} (G : Gt) {a0 : Int32} {r : Int32} {u u' : St} (hf : fX12_startWith a0 u = some (r, u')) : Ctr 100 77 l yX12_startWith cX12_startWith 2 (some .boolean) rmX12_startWith [.ref (G.1 100), .int a0] G u (some (.int r)) u' := by
  refine Ctr.mk (by decide) (Nat.le_of_ble_eq_true rfl) (fun p e s m below meth c A ls B K hl => ?_)
  have F := B.1
  have hx := F.1
  have hb := F.2.1
  have hl : lv_has ls 2 [(0, .ref (G.1 100)), (1, .int a0)] := hl
  unfold fX12_startWith at hf
  refine lv_aload_n hx hb dX12_startWith_0 rfl (lv_at hl 0 rfl) ?_
  obtain ⟨r2, u1, hu1, hf⟩ := g_b2 hf
  refine ok_calli (rest := []) F K (pX12_mayStep G hu1) mX12_mayStep oc100 lX12_632 rfl hl.1 rfl ⟨⟨rfl, rfl⟩, Nat.le_of_ble_eq_true rfl, Nat.le_of_ble_eq_true rfl⟩ (Nat.le_of_ble_eq_true rfl) dX12_startWith_1 (fun H locs K => ?_)
  refine lv_if_ne (pc := 4) (tgt := 9) hx hb dX12_startWith_4 (by decide) (fun c3 => ?_) (fun c3 => ?_)
  · have hf := g_neg hf c3
    refine lv_aload_n hx hb dX12_startWith_9 rfl (lv_at hl 0 rfl) ?_
    refine lv_iconst (v := 0) hx hb dX12_startWith_10 kI_0 ?_
    refine ok_putI F K qX12_567 dX12_startWith_11 (fun u4 H locs eu4 K => ?_)
    have hf := g_lt hf u4 eu4
    refine lv_aload_n hx hb dX12_startWith_14 rfl (lv_at hl 0 rfl) ?_
    refine lv_iconst (v := 0) hx hb dX12_startWith_15 kI_0 ?_
    refine ok_putI F K qX12_590 dX12_startWith_16 (fun u5 H locs eu5 K => ?_)
    have hf := g_lt hf u5 eu5
    refine lv_aload_n hx hb dX12_startWith_19 rfl (lv_at hl 0 rfl) ?_
    refine lv_iconst (v := 0) hx hb dX12_startWith_20 kI_0 ?_
    refine ok_putI F K qX12_593 dX12_startWith_21 (fun u6 H locs eu6 K => ?_)
    have hf := g_lt hf u6 eu6
    refine lv_aload_n hx hb dX12_startWith_24 rfl (lv_at hl 0 rfl) ?_
    refine lv_iconst (v := 0) hx hb dX12_startWith_25 kI_0 ?_
    refine ok_putI F K qX12_596 dX12_startWith_26 (fun u7 H locs eu7 K => ?_)
    have hf := g_lt hf u7 eu7
    refine lv_aload_n hx hb dX12_startWith_29 rfl (lv_at hl 0 rfl) ?_
    refine lv_iconst (v := 0) hx hb dX12_startWith_30 kI_0 ?_
    refine ok_putI F K qX12_490 dX12_startWith_31 (fun u8 H locs eu8 K => ?_)
    have hf := g_lt hf u8 eu8
    refine lv_aload_n hx hb dX12_startWith_34 rfl (lv_at hl 0 rfl) ?_
    refine lv_aload_n hx hb dX12_startWith_35 rfl (lv_at hl 0 rfl) ?_
    refine ok_ref F K fX12_34 dX12_startWith_36 ?_
    refine lv_iload_n hx hb dX12_startWith_39 rfl (lv_at hl 1 rfl) ?_
    obtain ⟨v9, hv9, hf⟩ := g_bd hf
    refine ok_iald F K t108 hv9 dX12_startWith_40 ?_
    obtain ⟨u10, hu10, hf⟩ := g_bd hf
    refine ok_callv (rest := []) F K (pX12_newVariables G hu10) mX12_newVariables oc100 lX12_641 rfl hl.1 rfl ⟨⟨rfl, rfl⟩, Nat.le_of_ble_eq_true rfl, Nat.le_of_ble_eq_true rfl⟩ (Nat.le_of_ble_eq_true rfl) dX12_startWith_41 (fun H locs K => ?_)
    refine lv_aload_n hx hb dX12_startWith_44 rfl (lv_at hl 0 rfl) ?_
    refine lv_iload_n hx hb dX12_startWith_45 rfl (lv_at hl 1 rfl) ?_
    obtain ⟨r12, u11, hu11, hf⟩ := g_b2 hf
    refine ok_calli (rest := []) F K (pX12_tooMuch G hu11) mX12_tooMuch oc100 lX12_644 rfl hl.1 rfl ⟨⟨rfl, rfl⟩, Nat.le_of_ble_eq_true rfl, Nat.le_of_ble_eq_true rfl⟩ (Nat.le_of_ble_eq_true rfl) dX12_startWith_46 (fun H locs K => ?_)
    refine lv_if_eq (pc := 49) (tgt := 54) hx hb dX12_startWith_49 (by decide) (fun c13 => ?_) (fun c13 => ?_)
    · have hf := g_pos hf c13
      refine lv_aload_n hx hb dX12_startWith_54 rfl (lv_at hl 0 rfl) ?_
      refine lv_iconst (v := 0) hx hb dX12_startWith_55 kI_0 ?_
      refine lv_iload_n hx hb dX12_startWith_56 rfl (lv_at hl 1 rfl) ?_
      refine lv_iconst (v := (-1)) hx hb dX12_startWith_57 kI_m1 ?_
      refine lv_iconst (v := (-1)) hx hb dX12_startWith_58 kI_m1 ?_
      obtain ⟨u14, hu14, hf⟩ := g_bd hf
      refine ok_callv (rest := []) F K (pX12_moved G hu14) mX12_moved oc100 lX12_638 rfl hl.1 rfl ⟨⟨rfl, rfl⟩, Nat.le_of_ble_eq_true rfl, Nat.le_of_ble_eq_true rfl⟩ (Nat.le_of_ble_eq_true rfl) dX12_startWith_59 (fun H locs K => ?_)
      refine lv_aload_n hx hb dX12_startWith_62 rfl (lv_at hl 0 rfl) ?_
      refine lv_aload_n hx hb dX12_startWith_63 rfl (lv_at hl 0 rfl) ?_
      refine lv_iload_n hx hb dX12_startWith_64 rfl (lv_at hl 1 rfl) ?_
      refine lv_iconst (v := (-1)) hx hb dX12_startWith_65 kI_m1 ?_
      refine lv_iconst (v := (-1)) hx hb dX12_startWith_66 kI_m1 ?_
      refine lv_iconst (v := 0) hx hb dX12_startWith_67 kI_0 ?_
      refine lv_iconst (v := (-1)) hx hb dX12_startWith_68 kI_m1 ?_
      obtain ⟨r16, u15, hu15, hf⟩ := g_b2 hf
      refine ok_calli (rest := [.ref (G.1 100)]) F K (pX12_comes G hu15) mX12_comes oc100 lX12_647 rfl hl.1 rfl ⟨⟨rfl, rfl⟩, Nat.le_of_ble_eq_true rfl, Nat.le_of_ble_eq_true rfl⟩ (Nat.le_of_ble_eq_true rfl) dX12_startWith_69 (fun H locs K => ?_)
      obtain ⟨r18, u17, hu17, hf⟩ := g_b2 hf
      refine ok_calli (rest := []) F K (pX12_solve G hu17) mX12_solve oc100 lX12_651 rfl hl.1 rfl ⟨⟨rfl, rfl⟩, Nat.le_of_ble_eq_true rfl, Nat.le_of_ble_eq_true rfl⟩ (Nat.le_of_ble_eq_true rfl) dX12_startWith_72 (fun H locs K => ?_)
      obtain ⟨z19, hz19, hf⟩ := g_bd hf
      exact ok_retz B K hf (g_zb hz19).2 dX12_startWith_75
    · have hf := g_neg hf c13
      refine lv_iconst (v := 0) hx hb dX12_startWith_52 kI_0 ?_
      exact ok_retz B K hf (Or.inl rfl) dX12_startWith_53
  · have hf := g_pos hf c3
    refine lv_iconst (v := 0) hx hb dX12_startWith_7 kI_0 ?_
    exact ok_retz B K hf (Or.inl rfl) dX12_startWith_8
abbrev rmX12_search : Room := { frames := 8, cells := 0, slots := 0, locals := 198 }
set_option maxRecDepth 100000 in
set_option maxHeartbeats 4000000 in
theorem pX12_search_j166 {p : Program} {l : Launch} {e : Env} {s : State} {m : MethodId} {below : List Frame} {meth : Method} {c : Code} {A : Nat → Prop} {G : Gt} {a0 : Int32} {a1 : Int32} {r : Int32} {u' : St} (B : Bd p s m [.ref (G.1 100), .int a0, .int a1] meth c yX12_search cX12_search 6 (some .int)) (u : St) (H : Heap) (locs : List Loc) (ls : Array Slot) (hf : fX12_search_j166  u = some (r, u')) (K : Ok 100 77 G A s u H locs) (hl : lv_has ls 6 [(0, .ref (G.1 100))]) : W p l e rmX12_search s m ([.ref (G.1 100), .int a0, .int a1] : List Value).toArray below meth c H locs 0 0 (MQ below (Qg 100 77 G A (some (.int r)) u') ([.ref (G.1 100), .int a0, .int a1] : List Value).toArray s 0 0 A) (F0 m 166 ls []) := by
  have F := B.1
  have hx := F.1
  have hb := F.2.1
  unfold fX12_search_j166 at hf
  refine lv_aload_n hx hb dX12_search_166 rfl (lv_at hl 0 rfl) ?_
  refine lv_iconst (v := 0) hx hb dX12_search_167 kI_0 ?_
  refine ok_putI F K qX12_490 dX12_search_168 (fun u1 H locs eu1 K => ?_)
  have hf := g_lt hf u1 eu1
  refine lv_aload_n hx hb dX12_search_171 rfl (lv_at hl 0 rfl) ?_
  refine ok_int F K fX12_552 dX12_search_172 ?_
  refine lv_if_eq (pc := 175) (tgt := 183) hx hb dX12_search_175 (by decide) (fun c2 => ?_) (fun c2 => ?_)
  · have hf := g_pos hf c2
    refine lv_bipush (v := (-6)) hx hb dX12_search_183 kB_m6 ?_
    exact ok_reti B K hf dX12_search_185
  · have hf := g_neg hf c2
    refine lv_bipush (v := (-7)) hx hb dX12_search_178 kB_m7 ?_
    refine lv_goto (pc := 180) (tgt := 185) hx hb dX12_search_180 (by decide) ?_
    exact ok_reti B K hf dX12_search_185
set_option maxRecDepth 100000 in
set_option maxHeartbeats 4000000 in
theorem pX12_search_L0 {p : Program} {l : Launch} {e : Env} {s : State} {m : MethodId} {below : List Frame} {meth : Method} {c : Code} {A : Nat → Prop} {G : Gt} {a0 : Int32} {a1 : Int32} {r : Int32} {u' : St} (B : Bd p s m [.ref (G.1 100), .int a0, .int a1] meth c yX12_search cX12_search 6 (some .int)) (n : Nat) : (∀ (x1_ : Int32) (u : St) (H : Heap) (locs : List Loc) (ls : Array Slot), fX12_search_L0  n 0 x1_ 0 0 0 u = some (r, u') → Ok 100 77 G A s u H locs → lv_has ls 6 [(0, .ref (G.1 100)), (1, .int x1_)] → W p l e rmX12_search s m ([.ref (G.1 100), .int a0, .int a1] : List Value).toArray below meth c H locs 0 0 (MQ below (Qg 100 77 G A (some (.int r)) u') ([.ref (G.1 100), .int a0, .int a1] : List Value).toArray s 0 0 A) (F0 m 54 ls [])) ∧ (∀ (x1_ : Int32) (x3_ : Int32) (u : St) (H : Heap) (locs : List Loc) (ls : Array Slot), fX12_search_L0  n 1 x1_ x3_ 0 0 u = some (r, u') → Ok 100 77 G A s u H locs → lv_has ls 6 [(0, .ref (G.1 100)), (1, .int x1_), (3, .int x3_)] → W p l e rmX12_search s m ([.ref (G.1 100), .int a0, .int a1] : List Value).toArray below meth c H locs 0 0 (MQ below (Qg 100 77 G A (some (.int r)) u') ([.ref (G.1 100), .int a0, .int a1] : List Value).toArray s 0 0 A) (F0 m 77 ls [])) ∧ (∀ (x1_ : Int32) (x3_ : Int32) (x4_ : Int32) (x5_ : Int32) (u : St) (H : Heap) (locs : List Loc) (ls : Array Slot), fX12_search_L0  n 2 x1_ x3_ x4_ x5_ u = some (r, u') → Ok 100 77 G A s u H locs → lv_has ls 6 [(0, .ref (G.1 100)), (1, .int x1_), (3, .int x3_), (4, .int x4_), (5, .int x5_)] → W p l e rmX12_search s m ([.ref (G.1 100), .int a0, .int a1] : List Value).toArray below meth c H locs 0 0 (MQ below (Qg 100 77 G A (some (.int r)) u') ([.ref (G.1 100), .int a0, .int a1] : List Value).toArray s 0 0 A) (F0 m 91 ls [])) ∧ (∀ (x1_ : Int32) (x3_ : Int32) (u : St) (H : Heap) (locs : List Loc) (ls : Array Slot), fX12_search_L0  n 3 x1_ x3_ 0 0 u = some (r, u') → Ok 100 77 G A s u H locs → lv_has ls 6 [(0, .ref (G.1 100)), (1, .int x1_), (3, .int x3_)] → W p l e rmX12_search s m ([.ref (G.1 100), .int a0, .int a1] : List Value).toArray below meth c H locs 0 0 (MQ below (Qg 100 77 G A (some (.int r)) u') ([.ref (G.1 100), .int a0, .int a1] : List Value).toArray s 0 0 A) (F0 m 152 ls [])) := by
  have F := B.1
  have hx := F.1
  have hb := F.2.1
  induction n with
  | zero => exact ⟨fun _ _ _ _ _ hf => g_no hf, fun _ _ _ _ _ _ hf => g_no hf, fun _ _ _ _ _ _ _ _ hf => g_no hf, fun _ _ _ _ _ _ hf => g_no hf⟩
  | succ n ih =>
    refine ⟨?_, ?_, ?_, ?_⟩
    · intro x1_ u H locs ls hf K hl
      have hf : fX12_search_L0_0  (fX12_search_L0  n) x1_ u = some (r, u') := hf
      unfold fX12_search_L0_0 at hf
      refine lv_aload_n hx hb dX12_search_54 rfl (lv_at hl 0 rfl) ?_
      refine ok_int F K fX12_623 dX12_search_55 ?_
      refine lv_iload_n hx hb dX12_search_58 rfl (lv_at hl 1 rfl) ?_
      refine lv_icmp_gt (pc := 59) (tgt := 219) hx hb dX12_search_59 (by decide) (fun c3 => ?_) (fun c3 => ?_)
      · have hf := g_pos hf c3
        refine lv_bipush (v := (-5)) hx hb dX12_search_219 kB_m5 ?_
        exact ok_reti B K hf dX12_search_221
      · have hf := g_neg hf c3
        refine lv_aload_n hx hb dX12_search_62 rfl (lv_at hl 0 rfl) ?_
        refine lv_aload_n hx hb dX12_search_63 rfl (lv_at hl 0 rfl) ?_
        refine ok_int F K fX12_623 dX12_search_64 ?_
        refine ok_putI F K qX12_487 dX12_search_67 (fun u4 H locs eu4 K => ?_)
        have hf := g_lt hf u4 eu4
        refine lv_aload_n hx hb dX12_search_70 rfl (lv_at hl 0 rfl) ?_
        refine lv_iconst (v := 0) hx hb dX12_search_71 kI_0 ?_
        refine ok_putZ F K qX12_626 (Or.inl rfl) dX12_search_72 (fun u5 H locs eu5 K => ?_)
        have hf := g_lt hf u5 eu5
        refine lv_iconst (v := 0) hx hb dX12_search_75 kI_0 ?_
        refine lv_topi (fun x6 ex6 => ?_)
        have hf := g_lt hf x6 ex6
        refine lv_istore_n (lv' := [(3, .int x6), (0, .ref (G.1 100)), (1, .int x1_)]) hx hb dX12_search_76 rfl hl (by decide) rfl (fun ls hl => ?_)
        exact ih.2.1 x1_ x6 u5 _ _ _ hf K (lv_sub hl [1, 2, 0] rfl)
    · intro x1_ x3_ u H locs ls hf K hl
      have hf : fX12_search_L0_1  (fX12_search_L0  n) x1_ x3_ u = some (r, u') := hf
      unfold fX12_search_L0_1 at hf
      refine lv_iload_n hx hb dX12_search_77 rfl (lv_at hl 2 rfl) ?_
      refine lv_aload_n hx hb dX12_search_78 rfl (lv_at hl 0 rfl) ?_
      refine ok_int F K fX12_445 dX12_search_79 ?_
      refine lv_icmp_ge (pc := 82) (tgt := 192) hx hb dX12_search_82 (by decide) (fun c7 => ?_) (fun c7 => ?_)
      · have hf := g_pos hf c7
        refine lv_aload_n hx hb dX12_search_192 rfl (lv_at hl 0 rfl) ?_
        refine lv_iconst (v := 0) hx hb dX12_search_193 kI_0 ?_
        refine ok_putI F K qX12_490 dX12_search_194 (fun u8 H locs eu8 K => ?_)
        have hf := g_lt hf u8 eu8
        refine lv_aload_n hx hb dX12_search_197 rfl (lv_at hl 0 rfl) ?_
        refine ok_int F K fX12_626 dX12_search_198 ?_
        refine lv_if_ne (pc := 201) (tgt := 206) hx hb dX12_search_201 (by decide) (fun c9 => ?_) (fun c9 => ?_)
        · have hf := g_neg hf c9
          refine lv_aload_n hx hb dX12_search_206 rfl (lv_at hl 0 rfl) ?_
          refine lv_dup hx hb dX12_search_207 rfl ?_
          refine ok_int F K fX12_623 dX12_search_208 ?_
          refine lv_iconst (v := 1) hx hb dX12_search_211 kI_1 ?_
          refine lv_iadd hx hb dX12_search_212 ?_
          refine ok_putI F K qX12_623 dX12_search_213 (fun u10 H locs eu10 K => ?_)
          have hf := g_lt hf u10 eu10
          refine lv_goto (pc := 216) (tgt := 54) hx hb dX12_search_216 (by decide) ?_
          exact ih.1 x1_ u10 _ _ _ hf K (lv_sub hl [0, 1] rfl)
        · have hf := g_pos hf c9
          refine lv_iconst (v := 0) hx hb dX12_search_204 kI_0 ?_
          exact ok_reti B K hf dX12_search_205
      · have hf := g_neg hf c7
        refine lv_iconst (v := 1) hx hb dX12_search_85 kI_1 ?_
        refine lv_topi (fun x11 ex11 => ?_)
        have hf := g_lt hf x11 ex11
        refine lv_istore (lv' := [(4, .int x11), (0, .ref (G.1 100)), (1, .int x1_), (3, .int x3_)]) hx hb dX12_search_86 hl (by decide) rfl (fun ls hl => ?_)
        refine lv_iconst (v := 0) hx hb dX12_search_88 kI_0 ?_
        refine lv_topi (fun x12 ex12 => ?_)
        have hf := g_lt hf x12 ex12
        refine lv_istore (lv' := [(5, .int x12), (4, .int x11), (0, .ref (G.1 100)), (1, .int x1_), (3, .int x3_)]) hx hb dX12_search_89 hl (by decide) rfl (fun ls hl => ?_)
        exact ih.2.2.1 x1_ x3_ x11 x12 u _ _ _ hf K (lv_sub hl [2, 3, 4, 1, 0] rfl)
    · intro x1_ x3_ x4_ x5_ u H locs ls hf K hl
      have hf : fX12_search_L0_2  (fX12_search_L0  n) x1_ x3_ x4_ x5_ u = some (r, u') := hf
      unfold fX12_search_L0_2 at hf
      refine lv_iload hx hb dX12_search_91 (lv_at hl 4 rfl) ?_
      refine lv_aload_n hx hb dX12_search_93 rfl (lv_at hl 0 rfl) ?_
      refine ok_ref F K fX12_31 dX12_search_94 ?_
      refine lv_iload_n hx hb dX12_search_97 rfl (lv_at hl 2 rfl) ?_
      obtain ⟨v13, hv13, hf⟩ := g_bd hf
      refine ok_iald F K t107 hv13 dX12_search_98 ?_
      refine lv_icmp_ge (pc := 99) (tgt := 137) hx hb dX12_search_99 (by decide) (fun c14 => ?_) (fun c14 => ?_)
      · have hf := g_pos hf c14
        refine lv_iload hx hb dX12_search_137 (lv_at hl 3 rfl) ?_
        refine lv_if_eq (pc := 139) (tgt := 152) hx hb dX12_search_139 (by decide) (fun c15 => ?_) (fun c15 => ?_)
        · have hf := g_pos hf c15
          exact ih.2.2.2 x1_ x3_ u _ _ _ hf K (lv_sub hl [0, 1, 2] rfl)
        · have hf := g_neg hf c15
          refine lv_aload_n hx hb dX12_search_142 rfl (lv_at hl 0 rfl) ?_
          refine lv_iload_n hx hb dX12_search_143 rfl (lv_at hl 2 rfl) ?_
          obtain ⟨r17, u16, hu16, hf⟩ := g_b2 hf
          refine ok_calli (rest := []) F K (pX12_startWith G hu16) mX12_startWith oc100 lX12_654 rfl hl.1 rfl ⟨⟨rfl, rfl⟩, Nat.le_of_ble_eq_true rfl, Nat.le_of_ble_eq_true rfl⟩ (Nat.le_of_ble_eq_true rfl) dX12_search_144 (fun H locs K => ?_)
          refine lv_if_eq (pc := 147) (tgt := 152) hx hb dX12_search_147 (by decide) (fun c18 => ?_) (fun c18 => ?_)
          · have hf := g_pos hf c18
            exact ih.2.2.2 x1_ x3_ u16 _ _ _ hf K (lv_sub hl [0, 1, 2] rfl)
          · have hf := g_neg hf c18
            refine lv_iconst (v := 1) hx hb dX12_search_150 kI_1 ?_
            exact ok_reti B K hf dX12_search_151
      · have hf := g_neg hf c14
        refine lv_iload hx hb dX12_search_102 (lv_at hl 3 rfl) ?_
        refine lv_if_eq (pc := 104) (tgt := 128) hx hb dX12_search_104 (by decide) (fun c19 => ?_) (fun c19 => ?_)
        · have hf := g_pos hf c19
          refine lv_iconst (v := 0) hx hb dX12_search_128 kI_0 ?_
          refine lv_topi (fun x20 ex20 => ?_)
          have hf := g_lt hf x20 ex20
          refine lv_istore (lv' := [(4, .int x20), (0, .ref (G.1 100)), (1, .int x1_), (3, .int x3_), (5, .int x5_)]) hx hb dX12_search_129 hl (by decide) rfl (fun ls hl => ?_)
          obtain ⟨x21, ex21⟩ : ∃ y : Int32, y = x5_ + 1 := ⟨_, rfl⟩
          have hf := g_lt hf x21 ex21
          refine lv_iinc (v := x21) (lv' := [(5, .int x21), (4, .int x20), (0, .ref (G.1 100)), (1, .int x1_), (3, .int x3_)]) hx hb dX12_search_131 hl (k := 4) rfl (by rw [kI_1, ex21]) (by decide) rfl (fun ls hl => ?_)
          refine lv_goto (pc := 134) (tgt := 91) hx hb dX12_search_134 (by decide) ?_
          exact ih.2.2.1 x1_ x3_ x20 x21 u _ _ _ hf K (lv_sub hl [2, 3, 4, 1, 0] rfl)
        · have hf := g_neg hf c19
          refine lv_aload_n hx hb dX12_search_107 rfl (lv_at hl 0 rfl) ?_
          refine ok_ref F K fX12_37 dX12_search_108 ?_
          refine lv_aload_n hx hb dX12_search_111 rfl (lv_at hl 0 rfl) ?_
          refine ok_ref F K fX12_28 dX12_search_112 ?_
          refine lv_iload_n hx hb dX12_search_115 rfl (lv_at hl 2 rfl) ?_
          obtain ⟨v22, hv22, hf⟩ := g_bd hf
          refine ok_iald F K t106 hv22 dX12_search_116 ?_
          refine lv_iload hx hb dX12_search_117 (lv_at hl 4 rfl) ?_
          refine lv_iadd hx hb dX12_search_119 ?_
          obtain ⟨v23, hv23, hf⟩ := g_bd hf
          refine ok_zald F K t109 hv23 dX12_search_120 ?_
          refine lv_if_ne (pc := 121) (tgt := 128) hx hb dX12_search_121 (by decide) (fun c24 => ?_) (fun c24 => ?_)
          · have hf := g_neg hf c24
            refine lv_iconst (v := 0) hx hb dX12_search_128 kI_0 ?_
            refine lv_topi (fun x25 ex25 => ?_)
            have hf := g_lt hf x25 ex25
            refine lv_istore (lv' := [(4, .int x25), (0, .ref (G.1 100)), (1, .int x1_), (3, .int x3_), (5, .int x5_)]) hx hb dX12_search_129 hl (by decide) rfl (fun ls hl => ?_)
            obtain ⟨x26, ex26⟩ : ∃ y : Int32, y = x5_ + 1 := ⟨_, rfl⟩
            have hf := g_lt hf x26 ex26
            refine lv_iinc (v := x26) (lv' := [(5, .int x26), (4, .int x25), (0, .ref (G.1 100)), (1, .int x1_), (3, .int x3_)]) hx hb dX12_search_131 hl (k := 4) rfl (by rw [kI_1, ex26]) (by decide) rfl (fun ls hl => ?_)
            refine lv_goto (pc := 134) (tgt := 91) hx hb dX12_search_134 (by decide) ?_
            exact ih.2.2.1 x1_ x3_ x25 x26 u _ _ _ hf K (lv_sub hl [2, 3, 4, 1, 0] rfl)
          · have hf := g_pos hf c24
            refine lv_iconst (v := 1) hx hb dX12_search_124 kI_1 ?_
            refine lv_goto (pc := 125) (tgt := 129) hx hb dX12_search_125 (by decide) ?_
            refine lv_topi (fun x27 ex27 => ?_)
            have hf := g_lt hf x27 ex27
            refine lv_istore (lv' := [(4, .int x27), (0, .ref (G.1 100)), (1, .int x1_), (3, .int x3_), (5, .int x5_)]) hx hb dX12_search_129 hl (by decide) rfl (fun ls hl => ?_)
            obtain ⟨x28, ex28⟩ : ∃ y : Int32, y = x5_ + 1 := ⟨_, rfl⟩
            have hf := g_lt hf x28 ex28
            refine lv_iinc (v := x28) (lv' := [(5, .int x28), (4, .int x27), (0, .ref (G.1 100)), (1, .int x1_), (3, .int x3_)]) hx hb dX12_search_131 hl (k := 4) rfl (by rw [kI_1, ex28]) (by decide) rfl (fun ls hl => ?_)
            refine lv_goto (pc := 134) (tgt := 91) hx hb dX12_search_134 (by decide) ?_
            exact ih.2.2.1 x1_ x3_ x27 x28 u _ _ _ hf K (lv_sub hl [2, 3, 4, 1, 0] rfl)
    · intro x1_ x3_ u H locs ls hf K hl
      have hf : fX12_search_L0_3  (fX12_search_L0  n) x1_ x3_ u = some (r, u') := hf
      unfold fX12_search_L0_3 at hf
      refine lv_aload_n hx hb dX12_search_152 rfl (lv_at hl 0 rfl) ?_
      refine ok_int F K fX12_552 dX12_search_153 ?_
      refine lv_if_ne (pc := 156) (tgt := 166) hx hb dX12_search_156 (by decide) (fun c29 => ?_) (fun c29 => ?_)
      · have hf := g_neg hf c29
        exact pX12_search_j166  B  u _ _ _ hf K (lv_sub hl [0] rfl)
      · have hf := g_pos hf c29
        refine lv_aload_n hx hb dX12_search_159 rfl (lv_at hl 0 rfl) ?_
        refine ok_int F K fX12_587 dX12_search_160 ?_
        refine lv_if_eq (pc := 163) (tgt := 186) hx hb dX12_search_163 (by decide) (fun c30 => ?_) (fun c30 => ?_)
        · have hf := g_pos hf c30
          obtain ⟨x31, ex31⟩ : ∃ y : Int32, y = x3_ + 1 := ⟨_, rfl⟩
          have hf := g_lt hf x31 ex31
          refine lv_iinc (v := x31) (lv' := [(3, .int x31), (0, .ref (G.1 100)), (1, .int x1_)]) hx hb dX12_search_186 hl (k := 2) rfl (by rw [kI_1, ex31]) (by decide) rfl (fun ls hl => ?_)
          refine lv_goto (pc := 189) (tgt := 77) hx hb dX12_search_189 (by decide) ?_
          exact ih.2.1 x1_ x31 u _ _ _ hf K (lv_sub hl [1, 2, 0] rfl)
        · have hf := g_neg hf c30
          exact pX12_search_j166  B  u _ _ _ hf K (lv_sub hl [0] rfl)
set_option maxRecDepth 100000 in
set_option maxHeartbeats 4000000 in
theorem pX12_search {l : Launch} (G : Gt) {a0 : Int32} {a1 : Int32} {r : Int32} {u u' : St} (hf : fX12_search a0 a1 u = some (r, u')) : Ctr 100 77 l yX12_search cX12_search 6 (some .int) rmX12_search [.ref (G.1 100), .int a0, .int a1] G u (some (.int r)) u' := by
  refine Ctr.mk (by decide) (Nat.le_of_ble_eq_true rfl) (fun p e s m below meth c A ls B K hl => ?_)
  have F := B.1
  have hx := F.1
  have hb := F.2.1
  have hl : lv_has ls 6 [(0, .ref (G.1 100)), (1, .int a0), (2, .int a1)] := hl
  unfold fX12_search at hf
  refine lv_aload_n hx hb dX12_search_0 rfl (lv_at hl 0 rfl) ?_
  refine lv_iconst (v := 0) hx hb dX12_search_1 kI_0 ?_
  refine ok_putI F K qX12_241 dX12_search_2 (fun u32 H locs eu32 K => ?_)
  have hf := g_lt hf u32 eu32
  refine lv_iload_n hx hb dX12_search_5 rfl (lv_at hl 1 rfl) ?_
  refine lv_iconst (v := 1) hx hb dX12_search_6 kI_1 ?_
  refine lv_bipush (v := 20) hx hb dX12_search_7 kB_20 ?_
  obtain ⟨r34, u33, hu33, hf⟩ := g_b2 hf
  refine ok_callsi (rest := []) F K (pX12_in G hu33) mX12_in lX12_245 rfl hl.1 rfl ⟨⟨rfl, rfl⟩, Nat.le_of_ble_eq_true rfl, Nat.le_of_ble_eq_true rfl⟩ (Nat.le_of_ble_eq_true rfl) dX12_search_9 (fun H locs K => ?_)
  refine lv_if_eq (pc := 12) (tgt := 26) hx hb dX12_search_12 (by decide) (fun c35 => ?_) (fun c35 => ?_)
  · have hf := g_pos hf c35
    refine lv_bipush (v := (-2)) hx hb dX12_search_26 kB_m2 ?_
    exact ok_reti B K hf dX12_search_28
  · have hf := g_neg hf c35
    refine lv_iload_n hx hb dX12_search_15 rfl (lv_at hl 2 rfl) ?_
    refine lv_iconst (v := 0) hx hb dX12_search_16 kI_0 ?_
    refine lv_sipush (v := 20000) hx hb dX12_search_17 kS_20000 ?_
    obtain ⟨r37, u36, hu36, hf⟩ := g_b2 hf
    refine ok_callsi (rest := []) F K (pX12_in G hu36) mX12_in lX12_245 rfl hl.1 rfl ⟨⟨rfl, rfl⟩, Nat.le_of_ble_eq_true rfl, Nat.le_of_ble_eq_true rfl⟩ (Nat.le_of_ble_eq_true rfl) dX12_search_20 (fun H locs K => ?_)
    refine lv_if_ne (pc := 23) (tgt := 29) hx hb dX12_search_23 (by decide) (fun c38 => ?_) (fun c38 => ?_)
    · have hf := g_neg hf c38
      refine lv_aload_n hx hb dX12_search_29 rfl (lv_at hl 0 rfl) ?_
      refine lv_iconst (v := 0) hx hb dX12_search_30 kI_0 ?_
      refine ok_putI F K qX12_484 dX12_search_31 (fun u39 H locs eu39 K => ?_)
      have hf := g_lt hf u39 eu39
      refine lv_aload_n hx hb dX12_search_34 rfl (lv_at hl 0 rfl) ?_
      refine lv_iload_n hx hb dX12_search_35 rfl (lv_at hl 2 rfl) ?_
      refine ok_putI F K qX12_584 dX12_search_36 (fun u40 H locs eu40 K => ?_)
      have hf := g_lt hf u40 eu40
      refine lv_aload_n hx hb dX12_search_39 rfl (lv_at hl 0 rfl) ?_
      refine lv_iconst (v := 0) hx hb dX12_search_40 kI_0 ?_
      refine ok_putZ F K qX12_552 (Or.inl rfl) dX12_search_41 (fun u41 H locs eu41 K => ?_)
      have hf := g_lt hf u41 eu41
      refine lv_aload_n hx hb dX12_search_44 rfl (lv_at hl 0 rfl) ?_
      refine lv_iconst (v := 0) hx hb dX12_search_45 kI_0 ?_
      refine ok_putZ F K qX12_587 (Or.inl rfl) dX12_search_46 (fun u42 H locs eu42 K => ?_)
      have hf := g_lt hf u42 eu42
      refine lv_aload_n hx hb dX12_search_49 rfl (lv_at hl 0 rfl) ?_
      refine lv_iconst (v := 1) hx hb dX12_search_50 kI_1 ?_
      refine ok_putI F K qX12_623 dX12_search_51 (fun u43 H locs eu43 K => ?_)
      have hf := g_lt hf u43 eu43
      exact (pX12_search_L0  B FU).1 a0 u43 _ _ _ hf K (lv_sub hl [0, 1] rfl)
    · have hf := g_pos hf c38
      refine lv_bipush (v := (-2)) hx hb dX12_search_26 kB_m2 ?_
      exact ok_reti B K hf dX12_search_28
