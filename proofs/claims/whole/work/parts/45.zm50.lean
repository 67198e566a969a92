/-! the call move -/
theorem move_val {u v : St} {C : Nat} {fi ps : Nat → Nat} {nv c : Nat → Int} {e : Nat → Nat} (hS : SR u v C fi ps nv c e) (hP : PRF u v C fi ps nv c e) (k : Nat) (hk : (k : Int) < I u 9 9 + 1) : ∃ x y z w : Int, I u 65 k = x ∧ I v 157 k = x ∧ fX3_rowOf (zI k) u = some (zI y, u) ∧ I v 158 k = y ∧ fX3_connected (zI k) u = some (zI z, u) ∧ I v 159 k = z ∧ fX3_above (zI k) u = some (zI w, u) ∧ (bd (ld v 160 400 (zI k)) fun v12 => if 0 ≤ v12 then (bd (ld v 160 400 (zI k)) fun v14 => bd (ld v 153 400 v14) fun v15 => some (v15, v)) else some ((0 : Int32), v)) = some (zI w, v) ∧ k < 151 := by
  obtain ⟨φ, Gd, T, L, J, V, n, h1, h2, h3, h4, h5, h6, h7, h8, h9, h10, h11⟩ := hP
  have hC := hS.1
  have hff := SR_fi hS
  cases k with
  | zero =>
    obtain ⟨s1, s2, s3, s4, s5, ⟨k0, s6, s7, s8⟩, s9, s10, s11⟩ := h10
    refine ⟨0, k0, -1, 0, s1, s9, ?_, s8, ?_, s10, ?_, ?_, by omega⟩
    · unfold fX3_rowOf
      rw [ld_z _ _ _ _ (by omega) (by omega), bd_s, Int.toNat_natCast, s1, if_pos q0, ld_z _ _ _ _ (by omega) (by omega), bd_s, Int.toNat_natCast, s7]
    · unfold fX3_connected
      rw [ld_z _ _ _ _ (by omega) (by omega), bd_s, Int.toNat_natCast, s1, if_pos q0]; rfl
    · unfold fX3_above
      rw [ld_z _ _ _ _ (by omega) (by omega), bd_s, Int.toNat_natCast, s1, if_pos q0]; rfl
    · rw [ld_z _ _ _ _ (by omega) (by omega), bd_s, Int.toNat_natCast, s11, if_neg (by decide)]; rfl
  | succ f =>
    obtain ⟨⟨g, m1, m2, m3, m4⟩, g', g1, g2⟩ := h11 f (by omega)
    have hgg : g' = g := by omega
    subst hgg
    obtain ⟨t1, t2, t3, t4, t5, t6, t7, t8⟩ := h1 g' g2
    clear t7 t8
    have hab : fX3_above (zI ((f + 1 : Nat) : Int)) u = some (zI (I u 60 g'), u) := by
      unfold fX3_above
      rw [ld_z _ _ _ _ (by omega) (by omega), bd_s, Int.toNat_natCast, if_neg (by rw [z_zero, z_eq (I_lo _ _ _) (I_hi _ _ _) (by decide) (by decide)]; rcases m4 with ⟨h, _⟩ | ⟨h, _⟩ <;> omega), ld_z _ _ _ _ (by omega) (by omega), bd_s, Int.toNat_natCast, m1, ld_z _ _ _ _ (by omega) (by omega), bd_s, Int.toNat_natCast]
    have hrb : (bd (ld v 160 400 (zI ((f + 1 : Nat) : Int))) fun v12 => if 0 ≤ v12 then (bd (ld v 160 400 (zI ((f + 1 : Nat) : Int))) fun v14 => bd (ld v 153 400 v14) fun v15 => some (v15, v)) else some ((0 : Int32), v)) = some (zI (I u 60 g'), v) := by
      rw [ld_z _ _ _ _ (by omega) (by omega), bd_s, Int.toNat_natCast, m2, if_pos (by rw [z_zero, z_le (by decide) (by decide) (by omega) (by omega)]; omega), bd_s, ld_z _ _ _ _ (by omega) (by omega), bd_s, Int.toNat_natCast, t4]
    rcases m4 with ⟨a1, k0, j0, a2, a3, a4, a5, a6⟩ | ⟨a1, a2, x, a3, a4, a5⟩
    · have hm1 : fi k0 + j0 < fi C := by have := hff.1 C (Nat.le_refl _) (k0 + 1) (by omega); omega
      have h31 := (hS.2.2.2.2.2.2.2.2.1 k0 (fi k0 + j0) a2 (by omega) a3).1
      have h18 := hS.2.2.2.2.2.1 k0 (by omega)
      refine ⟨1, k0, j0, I u 60 g', a1, by rw [m3]; exact a1, ?_, a5, ?_, a6, hab, hrb, by omega⟩
      · unfold fX3_rowOf
        rw [ld_z _ _ _ _ (by omega) (by omega), bd_s, Int.toNat_natCast, a1, if_neg (by decide), if_pos q1, ld_z _ _ _ _ (by omega) (by omega), bd_s, Int.toNat_natCast, a4, ld_z _ _ _ _ (by omega) (by omega), bd_s, Int.toNat_natCast, h31]
      · unfold fX3_connected
        rw [ld_z _ _ _ _ (by omega) (by omega), bd_s, Int.toNat_natCast, a1, if_neg (by decide), if_pos q1, ld_z _ _ _ _ (by omega) (by omega), bd_s, bd_s, Int.toNat_natCast, a4, ld_z _ _ _ _ (by omega) (by omega), bd_s, Int.toNat_natCast, h31, ld_z _ _ _ _ (by omega) (by omega), bd_s, Int.toNat_natCast, h18, z_sub, show ((fi k0 + j0 : Nat) : Int) - fi k0 = j0 by omega]
    · refine ⟨2, -1, I u 60 x, I u 60 g', a1, by rw [m3]; exact a1, ?_, a2, ?_, a5, hab, hrb, by omega⟩
      · unfold fX3_rowOf
        rw [ld_z _ _ _ _ (by omega) (by omega), bd_s, Int.toNat_natCast, a1, if_neg (by decide), if_neg (by decide)]; rfl
      · unfold fX3_connected
        rw [ld_z _ _ _ _ (by omega) (by omega), bd_s, Int.toNat_natCast, a1, if_neg (by decide), if_neg (by decide), ld_z _ _ _ _ (by omega) (by omega), bd_s, Int.toNat_natCast, a4, ld_z _ _ _ _ (by omega) (by omega), bd_s, Int.toNat_natCast]
theorem move_spec {u v : St} {C : Nat} {fi ps : Nat → Nat} {nv c : Nat → Int} {e : Nat → Nat} (a0 a1 : Int32) (hS : SR u v C fi ps nv c e) (hFO : FO u v C fi ps nv c e) : ∃ r, fX11_move a0 a1 u = some (r, u) ∧ fX12_move a0 a1 v = some (r, uI v 100 0 (zI 0)) := by
  obtain ⟨x, hx, hx1, hx2⟩ : ∃ x : Int, a0 = zI x ∧ -2147483648 ≤ x ∧ x < 2147483648 := ⟨a0.toInt, z_id a0, Int32.le_toInt _, Int32.toInt_lt _⟩
  subst hx
  have F0 : Fr (P1 100 0) v (uI v 100 0 (zI 0)) := Fr_up (by simp [P1]) (Fr_rfl _ _)
  have hFO0 := FO_0 hFO
  have hS0 : SR u (uI v 100 0 (zI 0)) C fi ps nv c e := SR_x (Fr_rfl _ _) PRx_0 hS
  have e105 : I (uI v 100 0 (zI 0)) 100 105 = I v 100 105 := Fr_I F0 (by simp [P1])
  obtain ⟨h1, h2, h3, h4⟩ := hFO0
  have hb : 0 ≤ I u 9 15 ∧ I u 9 15 < 1000 := by
    rcases h4 with ⟨h, _⟩ | ⟨⟨φ, Gd, T, L, J, V, n, _, _, _, _, _, _, h7, h8, _⟩, h⟩ <;> omega
  have hop : ∀ A : Option (Int32 × St), fX12_move (zI x) a1 v = A ↔ (b2 (fX12_in (zI x) (zI 0) (zI (I u 9 15 - 1)) (uI v 100 0 (zI 0))) fun r3 u2 => if r3 = 0 then (some ((-1), u2)) else if a1 = 0 then (bd (ld u2 157 400 (zI x)) fun v6 => some (v6, u2)) else if a1 = 1 then (bd (ld u2 158 400 (zI x)) fun v8 => some (v8, u2)) else if a1 = 2 then (bd (ld u2 159 400 (zI x)) fun v10 => some (v10, u2)) else if a1 = 3 then (bd (ld u2 160 400 (zI x)) fun v12 => if 0 ≤ v12 then (bd (ld u2 160 400 (zI x)) fun v14 => bd (ld u2 153 400 v14) fun v15 => some (v15, u2)) else some (0, u2)) else some ((-2), u2)) = A := by
    intro A
    unfold fX12_move
    rw [lt_e, show (0 : Int32) = zI 0 from rfl, gI_z _ 100 105, ← h3, show (1 : Int32) = zI 1 from rfl, z_sub]
  have hin := in_spec x 0 (I u 9 15 - 1) (uI v 100 0 (zI 0)) hx1 hx2 (by decide) (by decide) (by omega) (by omega)
  by_cases c1 : 0 ≤ x ∧ x ≤ I u 9 15 - 1
  · rw [if_pos c1] at hin
    rcases h4 with ⟨h, _⟩ | ⟨hP, h⟩
    · omega
    · obtain ⟨k, hk⟩ : ∃ k : Nat, x = k := ⟨x.toNat, by omega⟩
      subst hk
      obtain ⟨xx, yy, zz, ww, m1, m2, m3, m4, m5, m6, m7, m8, m9⟩ := move_val hS0 hP k (by omega)
      have hcl : fX11_move (zI k) a1 u = (if a1 = 0 then (bd (ld u 65 151 (zI k)) fun v4 => some (v4, u)) else if a1 = 1 then (b2 (fX3_rowOf (zI k) u) fun r7 u6 => some (r7, u6)) else if a1 = 2 then (b2 (fX3_connected (zI k) u) fun r10 u9 => some (r10, u9)) else if a1 = 3 then (b2 (fX3_above (zI k) u) fun r13 u12 => some (r13, u12)) else some ((-2), u)) := by
        unfold fX11_move
        rw [if_neg (by rw [z_zero, z_lt (by omega) (by omega) (by decide) (by decide)]; omega), gI_z u 9 15, if_pos (by rw [z_lt (by omega) (by omega) (by omega) (by omega)]; omega)]
      by_cases d0 : a1 = 0
      · refine ⟨zI xx, ?_, (hop _).2 ?_⟩
        · rw [hcl, if_pos d0, ld_z _ _ _ _ (by omega) (by omega), bd_s, Int.toNat_natCast, m1]
        · rw [hin, b2_s, if_neg (by decide), if_pos d0, ld_z _ _ _ _ (by omega) (by omega), bd_s, Int.toNat_natCast, m2]
      · by_cases d1 : a1 = 1
        · refine ⟨zI yy, ?_, (hop _).2 ?_⟩
          · rw [hcl, if_neg d0, if_pos d1, m3, b2_s]
          · rw [hin, b2_s, if_neg (by decide), if_neg d0, if_pos d1, ld_z _ _ _ _ (by omega) (by omega), bd_s, Int.toNat_natCast, m4]
        · by_cases d2 : a1 = 2
          · refine ⟨zI zz, ?_, (hop _).2 ?_⟩
            · rw [hcl, if_neg d0, if_neg d1, if_pos d2, m5, b2_s]
            · rw [hin, b2_s, if_neg (by decide), if_neg d0, if_neg d1, if_pos d2, ld_z _ _ _ _ (by omega) (by omega), bd_s, Int.toNat_natCast, m6]
          · by_cases d3 : a1 = 3
            · refine ⟨zI ww, ?_, (hop _).2 ?_⟩
              · rw [hcl, if_neg d0, if_neg d1, if_neg d2, if_pos d3, m7, b2_s]
              · rw [hin, b2_s, if_neg (by decide), if_neg d0, if_neg d1, if_neg d2, if_pos d3]
                exact m8
            · refine ⟨-2, ?_, (hop _).2 ?_⟩
              · rw [hcl, if_neg d0, if_neg d1, if_neg d2, if_neg d3]
              · rw [hin, b2_s, if_neg (by decide), if_neg d0, if_neg d1, if_neg d2, if_neg d3]
  · rw [if_neg c1] at hin
    refine ⟨-1, ?_, (hop _).2 ?_⟩
    · unfold fX11_move
      by_cases d : x < 0
      · rw [if_pos (by rw [z_zero, z_lt (by omega) (by omega) (by decide) (by decide)]; omega)]
      · rw [if_neg (by rw [z_zero, z_lt (by omega) (by omega) (by decide) (by decide)]; omega), gI_z u 9 15, if_neg (by rw [z_lt (by omega) (by omega) (by omega) (by omega)]; omega)]
    · rw [hin, b2_s, if_pos q0]
