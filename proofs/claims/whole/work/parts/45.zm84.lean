/-! reading: names, all of it -/
theorem TRM_app {u v : St} {S NC NR a b c k k' : Nat} (hab : a ≤ b) (hbc : b ≤ c) (h : TRM u v S NC NR a b k) (h' : TRM u v S NC NR b c k') : TRM u v S NC NR a c (k + k') := by
  refine ⟨fun i h1 h2 => ?_, ?_⟩
  · by_cases hi : i < b
    · exact h.1 i h1 hi
    · exact h'.1 i (by omega) h2
  · rw [show c - a = (b - a) + (c - b) by omega, arl_app, show a + (b - a) = b by omega]
    exact WT_app _ _ _ _ h.2 h'.2
theorem P37_PA' : ∀ k i, (k == 37 || (k == 4 && i == 3)) = true → PA k i = true := by intro k i h; simp at h; simp [PA]; omega
theorem ap_args {grp : Nat → Int32 → St → Option (Int32 × St)} {n o : Nat} (hG : GPa grp n (o + 1)) (ho : o + 1 ≤ 30) (R0 sy m : Nat) (p pr : Int) (hp1 : -2147483648 ≤ p) (hp2 : p < 2147483648) (hpr : pr = if m = 0 then 1 else 0) (hmo : m ≤ o) {B : Nat → Nat} (c : Nat) : ∀ (Fu a t S R NC NR : Nat) (u v : St) (F : List Nat), a + c = 5 → 1 ≤ c → 3 * c + 3 < Fu → PQ u v n t S R NC NR (o + 1) (m + 1) B F → R0 < R → sy < S → I u 37 R0 = 8 * sy → I v 118 R0 = sy → TRM u v S NC NR (R0 + 1) R a → I v 123 m = sy → I v 124 m = p → I v 125 m = a → ∃ u', fX2_application_L0 grp Fu 0 (zI pr) (zI p) (zI sy) (zI R0) (zI a) 1 0 u = some u' ∧ APr u u' v n t S R NC NR o m B F (fun G => BT G v) R0 := by
  induction c with
  | zero => intro Fu a t S R NC NR u v F h1 h2; omega
  | succ c ih =>
    intro Fu a t S R NC NR u v F hac _ hFu h hR0 hsy h37 h118 hT h123 h124 h125
    have htn := PQ_n h
    obtain ⟨Fu', rfl⟩ : ∃ Fu', Fu = Fu' + 4 := ⟨Fu - 4, by omega⟩
    obtain ⟨u1, hc1, hh⟩ := arg_one hG h (by omega) (show a < 5 by omega) (zI pr) (zI p) (zI sy) (zI R0)
    have s0 : fX2_application_L0 grp (Fu' + 4) 0 (zI pr) (zI p) (zI sy) (zI R0) (zI a) 1 0 u = fX2_application_L0 grp (Fu' + 3) 1 (zI pr) (zI p) (zI sy) (zI R0) (zI a) 0 0 u1 := hc1 _
    rw [s0]
    rcases hh with ⟨v1, N, t1, S1, R1, NC1, NR1, F1, q1, q2, q3, q4, q5, q6, q7, q8, q9, q10, q11⟩ | ⟨v1, N, q1, q2, q3⟩
    · -- an argument is read
      have ht1n := PQ_n q3
      have k37 : I u1 37 R0 = 8 * sy := by rw [(q4.2.1 R0 hR0).1]; exact h37
      have k118 : I v1 118 R0 = sy := by rw [(q4.2.1 R0 hR0).2]; exact h118
      obtain ⟨k123, k124, k125⟩ := q4.2.2.2.2.1 m (by omega)
      rw [h123] at k123
      rw [h124] at k124
      rw [h125] at k125
      have hT1 : TRM u1 v1 S1 NC1 NR1 (R0 + 1) R1 (a + 1) := TRM_app (by omega) (by omega) (TRM_px q6 q8 q9 (Nat.le_refl _) q4 hT) q10
      -- the reference counts it
      have Fv : Fr (fun k i => k == 125) v1 (uI v1 125 m (zI ((a + 1 : Nat) : Int))) := Fr_up rfl (Fr_rfl _ _)
      have e43 := q3.2.2.2.2.2.2.2.2.2.2.2.2.2.2.2.2.1
      have e21 := q3.2.2.2.1
      have hop : ∀ G, fX12_readAtom_L0 (G + 1) 0 1 v1 = (b2 (fX12_look (uI v1 125 m (zI ((a + 1 : Nat) : Int)))) fun r8 u7 => if r8 = 5 then (bd (fX12_take u7) fun u18 => bd (ld u18 125 40 (zI m)) fun v19 => if v19 = 5 then (bd (ld u18 124 40 (zI m)) fun v23 => bd (fX12_fail 4 v23 u18) fun u24 => some u24) else b2 (fX12_beginTerm u18) fun r22 u21 => fX12_readAtom_L0 G 0 r22 u21) else lt (uI u7 100 37 ((gI u7 100 37) - 1)) fun u10 => b2 (fX12_must 4 u10) fun r12 u11 => lt (uI u11 100 43 ((gI u11 100 43) - 1)) fun u13 => bd (ld u13 123 40 (zI m)) fun v14 => bd (ld u13 124 40 (zI m)) fun v15 => bd (ld u13 125 40 (zI m)) fun v16 => bd (fX12_endName v14 v15 v16 u13) fun u17 => fX12_readAtom_L0 G 0 1 u17) := by
        intro G
        have sx : fX12_readAtom_L0 (G + 1) 0 1 v1 = fX12_readAtom_L0_0 (fX12_readAtom_L0 G) 1 v1 := rfl
        rw [sx]
        unfold fX12_readAtom_L0_0
        rw [gI_z v1 100 21, e21, if_pos (show zI 0 = 0 from rfl), gI_z v1 100 43, e43, if_neg (by rw [z_zero, z_le (by omega) (by omega) (by decide) (by decide)]; omega), show (1 : Int32) = zI 1 from rfl, z_sub, show ((m + 1 : Nat) : Int) - 1 = m by omega, lt_e, if_neg (by decide), ld_z _ _ _ _ (by omega) (by omega), bd_s, Int.toNat_natCast, k125, z_add, show (a : Int) + 1 = ((a + 1 : Nat) : Int) by omega, st_z _ _ _ _ _ (by omega) (by omega), bd_s, Int.toNat_natCast]
      have hPQ1 : PQ u1 (uI v1 125 m (zI ((a + 1 : Nat) : Int))) n t1 S1 R1 NC1 NR1 (o + 1) (m + 1) B F1 := PQ_fr (Fr_rfl (fun _ _ => false) u1) Fv (fun _ _ _ => rfl) (fun k i hk => by simp; omega) q3
      have hX1 : PX u u1 v (uI v1 125 m (zI ((a + 1 : Nat) : Int))) S R0 NC NR m := by
        obtain ⟨y1, y2, y3, y4, y5, y6, y7⟩ := q4
        exact ⟨SKp_tr (Nat.le_refl S) y1 (SKp_fr (Fr_rfl (fun _ _ => false) u1) Fv (fun _ _ _ => rfl) (fun _ => rfl)), fun i hi => ⟨(y2 i (by omega)).1, by rw [Fr_I Fv rfl]; exact (y2 i (by omega)).2⟩, y3, fun y hy => by rw [Fr_J Fv rfl]; exact y4 y hy, fun i hi => by
          obtain ⟨z1, z2, z3⟩ := y5 i (by omega)
          exact ⟨by rw [Fr_I Fv rfl]; exact z1, by rw [Fr_I Fv rfl]; exact z2, by rw [I_uI2 _ _ _ _ _ _ (by omega)]; exact z3⟩, y6, Fr_tr y7 (Fr_up2 (fun k i hk => by simp at hk; simp [QA, hk]) Fv)⟩
      have m123 : I (uI v1 125 m (zI ((a + 1 : Nat) : Int))) 123 m = sy := by rw [Fr_I Fv rfl]; exact k123
      have m124 : I (uI v1 125 m (zI ((a + 1 : Nat) : Int))) 124 m = p := by rw [Fr_I Fv rfl]; exact k124
      have m125 : I (uI v1 125 m (zI ((a + 1 : Nat) : Int))) 125 m = ((a + 1 : Nat) : Int) := I_uI1 _ _ _ _ (by omega) (by omega)
      have m118 : I (uI v1 125 m (zI ((a + 1 : Nat) : Int))) 118 R0 = sy := by rw [Fr_I Fv rfl]; exact k118
      have hT1' : TRM u1 (uI v1 125 m (zI ((a + 1 : Nat) : Int))) S1 NC1 NR1 (R0 + 1) R1 (a + 1) := TRM_px (m := m) (Nat.le_refl _) (Nat.le_refl _) (Nat.le_refl _) (Nat.le_refl R1) ⟨SKp_fr (Fr_rfl (fun _ _ => false) u1) Fv (fun _ _ _ => rfl) (fun _ => rfl), fun i _ => ⟨rfl, Fr_I Fv rfl⟩, fun _ _ => rfl, fun y _ => Fr_J Fv rfl, fun i hi => ⟨Fr_I Fv rfl, Fr_I Fv rfl, I_uI2 _ _ _ _ _ _ (by omega)⟩, Fr_rfl _ _, Fr_up2 (fun k i hk => by simp at hk; simp [QA, hk]) Fv⟩ hT1
      generalize hv1' : uI v1 125 m (zI ((a + 1 : Nat) : Int)) = w1 at *
      obtain ⟨u2, v2, hn⟩ := px_next hPQ1
      have s1 : fX2_application_L0 grp (Fu' + 3) 1 (zI pr) (zI p) (zI sy) (zI R0) (zI a) 0 0 u1 = fX2_application_L0_1 grp (fX2_application_L0 grp (Fu' + 2)) (zI pr) (zI p) (zI sy) (zI R0) (zI a) u1 := rfl
      have hc2 : ∀ r w, fX2_next u1 = some (r, w) → fX2_application_L0 grp (Fu' + 3) 1 (zI pr) (zI p) (zI sy) (zI R0) (zI a) 0 0 u1 = if r = 6 then fX2_application_L0 grp (Fu' + 2) 2 (zI pr) (zI p) (zI sy) (zI R0) (zI ((a + 1 : Nat) : Int)) 0 1 w else fX2_application_L0 grp (Fu' + 2) 2 (zI pr) (zI p) (zI sy) (zI R0) (zI ((a + 1 : Nat) : Int)) 0 0 w := by
        intro r w hr
        rw [s1]
        unfold fX2_application_L0_1
        rw [show (1 : Int32) = zI 1 from rfl, z_add, lt_e, hr, b2_s, show (a : Int) + 1 = ((a + 1 : Nat) : Int) by omega]
      rcases hn with ⟨s, b, k, a1, a2, a3, a4, a5, a6, a7⟩ | ⟨a1, a2, a3⟩
      · have hk14 := a3.2.2.2.2.2.2.2.2.1
        have hsn := PQ_n a6
        have hX2 : PX u u2 v v2 S R0 NC NR m := PX_tr q6 (show R0 ≤ R1 by omega) q8 q9 (show m ≤ m + 1 by omega) hX1 a7
        rw [hc2 _ _ a1]
        have n37 : I u2 37 R0 = 8 * sy := by rw [(a7.2.1 R0 (by omega)).1]; exact k37
        have n118 : I v2 118 R0 = sy := by rw [(a7.2.1 R0 (by omega)).2]; exact m118
        obtain ⟨n123, n124, n125⟩ := a7.2.2.2.2.1 m (by omega)
        rw [m123] at n123
        rw [m124] at n124
        rw [m125] at n125
        have hT2 : TRM u2 v2 S1 NC1 NR1 (R0 + 1) R1 (a + 1) := TRM_px (Nat.le_refl _) (Nat.le_refl _) (Nat.le_refl _) (Nat.le_refl _) a7 hT1'
        by_cases hk5 : k = 5
        · subst hk5
          obtain ⟨u3, v3, t1', t2', t3', hsb, t4', t5', t6', t7'⟩ := px_take a6 a3 (by decide)
          have hPQ3 := t4' (by decide)
          have hX3 : PX u u3 v v3 S R0 NC NR m := PX_tr q6 (show R0 ≤ R1 by omega) q8 q9 (show m ≤ m + 1 by omega) hX2 t7'
          have s2 : fX2_application_L0 grp (Fu' + 2) 2 (zI pr) (zI p) (zI sy) (zI R0) (zI ((a + 1 : Nat) : Int)) 0 1 u2 = fX2_application_L0 grp (Fu' + 1) 0 (zI pr) (zI p) (zI sy) (zI R0) (zI ((a + 1 : Nat) : Int)) 1 0 u3 := by
            have : fX2_application_L0 grp (Fu' + 2) 2 (zI pr) (zI p) (zI sy) (zI R0) (zI ((a + 1 : Nat) : Int)) 0 1 u2 = fX2_application_L0_2 grp (fX2_application_L0 grp (Fu' + 1)) (zI pr) (zI p) (zI sy) (zI R0) (zI ((a + 1 : Nat) : Int)) 1 u2 := rfl
            rw [this]
            unfold fX2_application_L0_2
            rw [if_neg (by decide), t1', bd_s]
          rw [if_pos (by rfl), s2]
          have o125 : I v3 125 m = ((a + 1 : Nat) : Int) := by rw [Fr_I t6' rfl]; exact n125
          have o124 : I v3 124 m = p := by rw [Fr_I t6' rfl]; exact n124
          by_cases ha5 : a + 1 = 5
          · -- one too many
            have e4 := hPQ3.2.2.1
            have e21' := hPQ3.2.2.2.1
            obtain ⟨u4, v4, f1, f2, f3, f4, f5⟩ := fail_both 4 p (by decide) (by decide) hp1 hp2 e4 e21'
            have hne := FLT_ne f3
            have Fa : Fr (fun k i => k == 4 && i == 3) u4 (uI u4 4 3 (gI u4 4 3 - 1)) := Fr_up rfl (Fr_rfl _ _)
            obtain ⟨u5, g1, g2⟩ := j192_f grp (uI u4 4 3 (gI u4 4 3 - 1)) (zI pr) (zI p) (zI sy) R0 (zI ((a + 1 : Nat) : Int)) (by omega) (by rw [Fr_I Fa rfl]; exact hne.1)
            have hS3 := hPQ3.2.2.2.2.2.2.2.1
            have hFQ : FQ u u5 v v4 S := FQ_tr q6 (PX_tr (R := R0) (Nat.le_refl S) (Nat.le_refl R0) (Nat.le_refl NC) (Nat.le_refl NR) (Nat.le_refl m) (PX_rfl u v S R0 NC NR m) hX3 |> fun hx => (⟨hx.1, hx.2⟩ : PX u u3 v v3 S R0 NC NR m)) (FQ_cls (P := fun k i => k == 37 || (k == 4 && i == 3)) (Fr_tr (Fr_up2 (fun k i hk => by simp at hk; simp [hk]) Fa) (Fr_up2 (fun k i hk => by simp at hk; simp [hk]) g2)) P37_PA' (fun k i hk => by simp; omega) (by decide) ⟨rfl, rfl⟩ (⟨f3, ⟨S1, Nat.le_refl _, SYT_fr f4 f5 rfl (fun k i hk => by simp; omega) rfl (fun k i hk => by simp; omega) hS3⟩, SKp_fr f4 f5 (fun k i hk => by simp; omega) (fun i => by simp), Fr_up2 (fun k i hk => by simp at hk; simp [PA]; omega) f4, Fr_up2 (fun k i hk => by simp at hk; simp [QA, QT]; omega) f5⟩ : FQ u3 u4 v3 v4 S1))
            refine ⟨u5, ?_, Or.inr ⟨v4, N + 1, by omega, fun G => ?_, hFQ⟩⟩
            · have s3 : fX2_application_L0 grp (Fu' + 1) 0 (zI pr) (zI p) (zI sy) (zI R0) (zI ((a + 1 : Nat) : Int)) 1 0 u3 = fX2_application_L0_0 grp (fX2_application_L0 grp Fu') (zI pr) (zI p) (zI sy) (zI R0) (zI ((a + 1 : Nat) : Int)) 1 u3 := rfl
              rw [s3]
              unfold fX2_application_L0_0
              rw [if_neg (by decide), if_pos (by rw [z_lit, z_le (by decide) (by decide) (by omega) (by omega)]; omega)]
              unfold fX2_application_j165
              rw [if_neg (by decide), show (4 : Int32) = zI 4 from rfl, f1, bd_s]
              unfold fX2_application_j176
              rw [show (5 : Int32) = zI 5 from rfl, want_flt u4 5 hne.1 (by decide), b2_s, lt_e]
              exact g1
            · show BT (G + (N + 1)) v = some v4
              rw [show G + (N + 1) = (G + 1) + N by omega, q2, hop, a2, b2_s, if_pos (by rfl), t2', bd_s, ld_z _ _ _ _ (by omega) (by omega), bd_s, Int.toNat_natCast, o125, if_pos (by rw [ha5]; rfl), ld_z _ _ _ _ (by omega) (by omega), bd_s, Int.toNat_natCast, o124, show (4 : Int32) = zI 4 from rfl, f2, bd_s]
          · -- the next argument
            have hb := PQ_n hPQ3
            obtain ⟨u', i1, i2⟩ := ih (Fu' + 1) (a + 1) b S1 R1 NC1 NR1 u3 v3 F1 (by omega) (by omega) (by omega) hPQ3 (by omega) (by omega) (by rw [Fr_I t5' rfl]; exact n37) (by rw [Fr_I t6' rfl]; exact n118) (TRM_px (Nat.le_refl _) (Nat.le_refl _) (Nat.le_refl _) (Nat.le_refl _) t7' hT2) (by rw [Fr_I t6' rfl]; exact n123) o124 o125
            refine ⟨u', i1, ?_⟩
            have hstep : ∀ G, fX12_readAtom_L0 (G + 1) 0 1 v1 = BT G v3 := by
              intro G
              rw [hop, a2, b2_s, if_pos (by rfl), t2', bd_s, ld_z _ _ _ _ (by omega) (by omega), bd_s, Int.toNat_natCast, o125, if_neg (by rw [z_lit, z_eq (by omega) (by omega) (by decide) (by decide)]; omega)]
              rfl
            rcases i2 with ⟨v', N', t', S', R', NC', NR', F', r1, r2, r3, r4, r5, r6, r7, r8, r9, r10, r11, r12, r13⟩ | ⟨v', N', r1, r2, r3⟩
            · left
              have k37' : ∀ i, i < R1 → i ≠ R0 → I u' 37 i = I u1 37 i := fun i h1 h2 => by rw [r13 i h1 h2, Fr_I t5' rfl, (a7.2.1 i h1).1]
              refine ⟨v', N + 1 + N', t', S', R', NC', NR', F', by omega, fun G => ?_, r3, PX_tr q6 (Nat.le_refl R0) q8 q9 (Nat.le_refl m) hX3 r4, by omega, by omega, by omega, by omega, by omega, r10, ?_, r12, fun i h1 h2 => by rw [k37' i (by omega) h2, (q4.2.1 i h1).1]⟩
              · show BT (G + (N + 1 + N')) v = _
                rw [show G + (N + 1 + N') = (G + N' + 1) + N by omega, q2, hstep]
                exact r2 G
              · rw [r11, q11, ← addF_app]
                congr 1
                rw [show R' - R = (R1 - R) + (R' - R1) by omega, vocc_app, show R + (R1 - R) = R1 by omega]
                congr 1
                exact (vocc_eq _ _ (fun i h1 h2 => k37' i (by omega) (by omega))).symm
            · right
              refine ⟨v', N + 1 + N', by omega, fun G => ?_, FQ_tr q6 hX3 r3⟩
              show BT (G + (N + 1 + N')) v = _
              rw [show G + (N + 1 + N') = (G + N' + 1) + N by omega, q2, hstep]
              exact r2 G
        · -- no comma
          have hr6 : ¬ (zI ((k + 1 : Nat) : Int) = 6) := by rw [z_lit, z_eq (by omega) (by omega) (by decide) (by decide)]; omega
          have hr5 : ¬ (zI (k : Int) = 5) := by rw [z_lit, z_eq (by omega) (by omega) (by decide) (by decide)]; omega
          rw [if_neg hr6]
          have s2 : fX2_application_L0 grp (Fu' + 2) 2 (zI pr) (zI p) (zI sy) (zI R0) (zI ((a + 1 : Nat) : Int)) 0 0 u2 = fX2_application_j176 grp (zI pr) (zI p) (zI sy) (zI R0) (zI ((a + 1 : Nat) : Int)) u2 := by
            have e1 : fX2_application_L0 grp (Fu' + 2) 2 (zI pr) (zI p) (zI sy) (zI R0) (zI ((a + 1 : Nat) : Int)) 0 0 u2 = fX2_application_L0_2 grp (fX2_application_L0 grp (Fu' + 1)) (zI pr) (zI p) (zI sy) (zI R0) (zI ((a + 1 : Nat) : Int)) 0 u2 := rfl
            have e2 : ∀ w, fX2_application_L0 grp (Fu' + 1) 0 (zI pr) (zI p) (zI sy) (zI R0) (zI ((a + 1 : Nat) : Int)) 0 0 w = fX2_application_L0_0 grp (fX2_application_L0 grp Fu') (zI pr) (zI p) (zI sy) (zI R0) (zI ((a + 1 : Nat) : Int)) 0 w := fun _ => rfl
            rw [e1]
            unfold fX2_application_L0_2
            rw [if_pos rfl, e2]
            unfold fX2_application_L0_0
            rw [if_pos rfl]
            unfold fX2_application_j165
            rw [if_pos rfl]
          rw [s2]
          have e4 := a6.2.2.1
          have e21' := a6.2.2.2.1
          have e3 := a6.2.2.2.2.1
          have e37 := a6.2.2.2.2.2.1
          have e43' := a6.2.2.2.2.2.2.2.2.2.2.2.2.2.2.2.2.1
          have Fv37 : Fr (fun k i => k == 100 && i == 37) v2 (uI v2 100 37 (zI o)) := Fr_up rfl (Fr_rfl _ _)
          have hL37 : TLs u2 (uI v2 100 37 (zI o)) n s b k := TLs_fr (Fr_rfl (fun _ _ => false) u2) Fv37 (fun _ => rfl) (fun _ => rfl) (fun i hi => by simp; omega) a3
          have e21'' : I (uI v2 100 37 (zI o)) 100 21 = 0 := by rw [Fr_I Fv37 rfl]; exact e21'
          obtain ⟨_, hlk⟩ := next_same hL37 e4 e21''
          obtain ⟨hnx, _⟩ := next_same a3 e4 e21'
          by_cases hk4 : k = 4
          · subst hk4
            obtain ⟨u3, v3, t1', t2', t3', hsb, t4', t5', t6', t7'⟩ := px_take a6 a3 (by decide)
            obtain ⟨w3, v4, b1', b2'', b3', b4', b5'⟩ := take_both hL37
            have hPQ3 := t4' (by decide)
            have hw3 : w3 = u3 := by rw [t1'] at b1'; exact (Option.some.inj b1').symm
            -- both drop the name
            have Fc : Fr (fun k i => k == 4 && i == 3) u3 (uI u3 4 3 (zI o)) := Fr_up rfl (Fr_rfl _ _)
            have Fd : Fr (fun k i => k == 100 && (i == 37 || i == 43)) v3 (uI v4 100 43 (zI m)) := by
              have h3 : v3 = uI v2 100 24 (zI 0) := by unfold fX12_take at t2'; rw [lt_e] at t2'; exact (Option.some.inj t2').symm
              have h4 : v4 = uI (uI v2 100 37 (zI o)) 100 24 (zI 0) := by unfold fX12_take at b2''; rw [lt_e] at b2''; exact (Option.some.inj b2'').symm
              rw [h3, h4]
              intro k i hki
              have hne : ¬ (k = 100 ∧ i = 37) ∧ ¬ (k = 100 ∧ i = 43) := by
                simp at hki
                constructor <;> intro hh <;> have := hki hh.1 <;> omega
              refine ⟨?_, rfl, rfl⟩
              unfold gI uI va_up
              by_cases hk100 : k = 100
              · subst hk100
                by_cases h24 : i = 24
                · subst h24; simp
                · have a37 : i ≠ 37 := fun h => hne.1 ⟨rfl, h⟩
                  have a43 : i ≠ 43 := fun h => hne.2 ⟨rfl, h⟩
                  simp [a37, a43, h24]
              · simp [hk100]
            have f43 : I v4 100 43 = ((m + 1 : Nat) : Int) := by rw [Fr_I b5' rfl, Fr_I Fv37 rfl]; exact e43'
            have hPQ4 : PQ (uI u3 4 3 (zI o)) (uI v4 100 43 (zI m)) n b S1 R1 NC1 NR1 o m B F1 := PQ_om Fc Fd (fun k i hk => by simp; omega) (fun k i hk => by simp; omega) (I_uI1 _ _ _ _ (by omega) (by omega)) (by rw [I_uI2 _ _ _ _ _ _ (by decide), Fr_I b5' rfl]; exact I_uI1 _ _ _ _ (by omega) (by omega)) (I_uI1 _ _ _ _ (by omega) (by omega)) (by omega) hPQ3
            have hX4 : PX u3 (uI u3 4 3 (zI o)) v3 (uI v4 100 43 (zI m)) S1 R1 NC1 NR1 (m + 1) := PX_fr Fc Fd (fun k i hk => by simp at hk; simp [PA]; omega) (fun k i hk => by simp at hk; simp [QA]; omega) (fun k i hk => by simp; omega) (fun k i hk => by simp; omega)
            have hT4 := TRM_px (Nat.le_refl _) (Nat.le_refl _) (Nat.le_refl _) (Nat.le_refl _) hX4 (TRM_px (Nat.le_refl _) (Nat.le_refl _) (Nat.le_refl _) (Nat.le_refl _) t7' hT2)
            have hX04 : PX u (uI u3 4 3 (zI o)) v (uI v4 100 43 (zI m)) S R0 NC NR m := PX_tr q6 (show R0 ≤ R1 by omega) q8 q9 (show m ≤ m + 1 by omega) (PX_tr q6 (show R0 ≤ R1 by omega) q8 q9 (show m ≤ m + 1 by omega) hX2 t7') hX4
            have g37 : ∀ i, I (uI u3 4 3 (zI o)) 37 i = I u2 37 i := fun i => by rw [Fr_I Fc rfl, Fr_I t5' rfl]
            have g123 : ∀ k, (k = 118 ∨ k = 123 ∨ k = 124 ∨ k = 125) → ∀ i, I (uI v4 100 43 (zI m)) k i = I v2 k i := fun k hk i => by rw [Fr_I Fd (by simp; omega), Fr_I t6' (by simp [QK]; omega)]
            obtain ⟨u5, v5, he⟩ := px_end grp hPQ4 (show R0 < R1 by omega) (show sy < S1 by omega) (show a + 1 ≤ 5 by omega) (by rw [g37]; exact n37) (by rw [g123 118 (by simp)]; exact n118) hT4 hpr hp1 hp2 (by omega)
            have hcls : fX2_application_j176 grp (zI pr) (zI p) (zI sy) (zI R0) (zI ((a + 1 : Nat) : Int)) u2 = fX2_application_j192 grp (zI pr) (zI p) (zI sy) (zI R0) (zI ((a + 1 : Nat) : Int)) (uI u3 4 3 (zI o)) := by
              unfold fX2_application_j176 fX2_want
              rw [hnx, b2_s, if_pos (by rfl), t1', bd_s, b2_s, gI_z u3 4 3, Fr_I t5' rfl, e3, show (1 : Int32) = zI 1 from rfl, z_sub, lt_e, show ((o + 1 : Nat) : Int) - 1 = o by omega]
            have href : ∀ G, fX12_readAtom_L0 (G + 1) 0 1 v1 = (bd (fX12_endName (zI sy) (zI p) (zI ((a + 1 : Nat) : Int)) (uI v4 100 43 (zI m))) fun u17 => fX12_readAtom_L0 G 0 1 u17) := by
              intro G
              rw [hop, a2, b2_s, if_neg hr5, gI_z v2 100 37, e37, show (1 : Int32) = zI 1 from rfl, z_sub, lt_e, show ((o + 1 : Nat) : Int) - 1 = o by omega]
              unfold fX12_must
              rw [hlk, b2_s, if_pos (by rfl), b2'', bd_s, b2_s, gI_z v4 100 43, f43, z_sub, lt_e, show ((m + 1 : Nat) : Int) - 1 = m by omega, ld_z _ _ _ _ (by omega) (by omega), bd_s, ld_z _ _ _ _ (by omega) (by omega), bd_s, ld_z _ _ _ _ (by omega) (by omega), bd_s, Int.toNat_natCast, g123 123 (by simp), g123 124 (by simp), g123 125 (by simp), n123, n124, n125]
            rw [hcls]
            rcases he with ⟨e1, e2, e3', e4', e5, e6, e7, e8⟩ | ⟨e1, e2, e3'⟩
            · refine ⟨u5, e1, Or.inl ⟨v5, N + 1, b, S1, R1, NC1, NR1, F1, by omega, fun G => ?_, e3', PX_tr q6 (Nat.le_refl R0) q8 q9 (Nat.le_refl m) hX04 e4', by omega, q6, q7, q8, q9, e5, ?_, e8, fun i h1 h2 => by rw [e7 i h2, g37, (a7.2.1 i (by omega)).1, (q4.2.1 i h1).1]⟩⟩
              · show BT (G + (N + 1)) v = _
                rw [show G + (N + 1) = (G + 1) + N by omega, q2, href, e2, bd_s]
              · rw [q11]
                congr 1
                exact (vocc_eq _ _ (fun i h1 h2 => by rw [e7 i (by omega), g37, (a7.2.1 i (by omega)).1])).symm
            · refine ⟨u5, e1, Or.inr ⟨v5, N + 2, by omega, fun G => ?_, FQ_tr q6 hX04 e3'⟩⟩
              show BT (G + (N + 2)) v = _
              rw [show G + (N + 2) = (G + 1 + 1) + N by omega, q2, href, e2, bd_s]
              exact ra_flt G _ v5 (FLT_ne e3'.1).2.2
          · -- the bracket is missing
            have l3 := a3.2.2.1
            have l4 := hL37.2.2.2.1
            obtain ⟨u3, v3, f1, f2, f3, f4, f5⟩ := fail_both (v := uI v2 100 37 (zI o)) 2 s (by decide) (by decide) (by omega) (by have := I_hi u2 1 2; omega) e4 e21''
            have hne := FLT_ne f3
            have Fa : Fr (fun k i => k == 4 && i == 3) u3 (uI u3 4 3 (gI u3 4 3 - 1)) := Fr_up rfl (Fr_rfl _ _)
            obtain ⟨u5, g1, g2⟩ := j192_f grp (uI u3 4 3 (gI u3 4 3 - 1)) (zI pr) (zI p) (zI sy) R0 (zI ((a + 1 : Nat) : Int)) (by omega) (by rw [Fr_I Fa rfl]; exact hne.1)
            have hS2 := a6.2.2.2.2.2.2.2.1
            have Fz : Fr (fun k i => k == 100 && (i == 21 || i == 22 || i == 37 || i == 43)) v2 (uI v3 100 43 (gI v3 100 43 - 1)) := Fr_up rfl (Fr_tr (Fr_up2 (fun k i hk => by simp at hk; simp; omega) Fv37) (Fr_up2 (fun k i hk => by simp at hk; simp; omega) f5))
            have hF3 : FLT u3 (uI v3 100 43 (gI v3 100 43 - 1)) := by
              obtain ⟨ff, pp, x1, x2, x3, x4, x5, x6⟩ := f3
              exact ⟨ff, pp, x1, x2, x3, by rw [I_uI2 _ _ _ _ _ _ (by decide)]; exact x4, x5, by rw [I_uI2 _ _ _ _ _ _ (by decide)]; exact x6⟩
            have hFQ2 : FQ u2 u3 v2 (uI v3 100 43 (gI v3 100 43 - 1)) S1 := ⟨hF3, ⟨S1, Nat.le_refl _, SYT_fr f4 Fz rfl (fun k i hk => by simp; omega) rfl (fun k i hk => by simp; omega) hS2⟩, SKp_fr f4 Fz (fun k i hk => by simp; omega) (fun i => by simp), Fr_up2 (fun k i hk => by simp at hk; simp [PA]; omega) f4, Fr_up2 (fun k i hk => by simp at hk; simp [QA, QT]; omega) Fz⟩
            refine ⟨u5, ?_, Or.inr ⟨uI v3 100 43 (gI v3 100 43 - 1), N + 2, by omega, fun G => ?_, FQ_tr q6 hX2 (FQ_cls (P := fun k i => k == 37 || (k == 4 && i == 3)) (Fr_tr (Fr_up2 (fun k i hk => by simp at hk; simp [hk]) Fa) (Fr_up2 (fun k i hk => by simp at hk; simp [hk]) g2)) P37_PA' (fun k i hk => by simp; omega) (by decide) ⟨rfl, rfl⟩ hFQ2)⟩⟩
            · unfold fX2_application_j176 fX2_want
              rw [hnx, b2_s, if_neg (by rw [z_lit, z_eq (by omega) (by omega) (by decide) (by decide)]; omega), gI_z u2 1 2, l3, show (2 : Int32) = zI 2 from rfl, f1, bd_s, b2_s, lt_e]
              exact g1
            · show BT (G + (N + 2)) v = _
              have hne2 := (FLT_ne hF3).2.1
              have h123' : ∀ k, (k = 123 ∨ k = 124 ∨ k = 125) → I (uI v3 100 43 (gI v3 100 43 - 1)) k m = I v2 k m := fun k hk => Fr_I Fz (by simp; omega)
              rw [show G + (N + 2) = (G + 1 + 1) + N by omega, q2, hop, a2, b2_s, if_neg hr5, gI_z v2 100 37, e37, show (1 : Int32) = zI 1 from rfl, z_sub, lt_e, show ((o + 1 : Nat) : Int) - 1 = o by omega]
              unfold fX12_must
              rw [hlk, b2_s, if_neg (by rw [z_lit, z_eq (by omega) (by omega) (by decide) (by decide)]; omega), gI_z _ 100 26, l4, show (2 : Int32) = zI 2 from rfl, f2, bd_s, b2_s, lt_e]
              have hlast : ∀ x y z w, ¬ I w 100 21 ≤ 0 → fX12_endName x y z w = some w := by
                intro x y z w hw
                have hq := I_lo w 100 21
                have hq2 := I_hi w 100 21
                unfold fX12_endName fX12_endName_j12
                have hn0 : ¬ gI w 100 21 ≤ 0 := by rw [gI_z, z_zero, z_le hq hq2 (by decide) (by decide)]; exact hw
                rw [if_neg hn0, if_neg hn0]
                by_cases hx : gI w 100 43 ≤ 0
                · rw [if_pos hx]
                · rw [if_neg hx]
              rw [ld_z _ _ _ _ (by omega) (by omega), bd_s, ld_z _ _ _ _ (by omega) (by omega), bd_s, ld_z _ _ _ _ (by omega) (by omega), bd_s]
              have hz1 : (zI 1 : Int32) = 1 := rfl
              rw [hz1, hlast _ _ _ _ hne2, bd_s]
              exact ra_flt G _ _ (FLT_ne hF3).2.2
      · -- a wrong token
        have hne := FLT_ne a3.1
        rw [hc2 _ _ a1, if_neg (by decide)]
        obtain ⟨u5, g1, g2⟩ := arg_flt2 grp Fu' (zI pr) (zI p) (zI sy) (zI ((a + 1 : Nat) : Int)) R0 u2 (by omega) hne.1
        have Fz : Fr (fun k i => k == 100 && (i == 37 || i == 43)) v2 (uI (uI v2 100 37 (gI v2 100 37 - 1)) 100 43 (gI (uI v2 100 37 (gI v2 100 37 - 1)) 100 43 - 1)) := Fr_up rfl (Fr_up rfl (Fr_rfl _ _))
        have hFQ2 : FQ u1 u2 w1 (uI (uI v2 100 37 (gI v2 100 37 - 1)) 100 43 (gI (uI v2 100 37 (gI v2 100 37 - 1)) 100 43 - 1)) S1 := by
          obtain ⟨⟨ff, pp, x1, x2, x3, x4, x5, x6⟩, ⟨S2, y1, y2⟩, y3, y4, y5⟩ := a3
          exact ⟨⟨ff, pp, x1, x2, x3, by rw [Fr_I Fz rfl]; exact x4, x5, by rw [Fr_I Fz rfl]; exact x6⟩, ⟨S2, y1, SYT_fr (Fr_rfl (fun _ _ => false) u2) Fz rfl (fun _ _ _ => rfl) rfl (fun k i hk => by simp; omega) y2⟩, SKp_tr (Nat.le_refl S1) y3 (SKp_fr (Fr_rfl (fun _ _ => false) u2) Fz (fun _ _ _ => rfl) (fun i => by simp)), y4, Fr_tr y5 (Fr_up2 (fun k i hk => by simp at hk; simp [QA]; omega) Fz)⟩
        refine ⟨u5, g1, Or.inr ⟨_, N + 2, by omega, fun G => ?_, FQ_tr q6 hX1 (FQ_cls g2 P37_PA' (fun k i hk => by simp; omega) (by decide) ⟨rfl, rfl⟩ hFQ2)⟩⟩
        show BT (G + (N + 2)) v = _
        have hlk2 : fX12_look (uI v2 100 37 (gI v2 100 37 - 1)) = some ((-1), uI v2 100 37 (gI v2 100 37 - 1)) := by
          unfold fX12_look
          have hn0 : ¬ gI (uI v2 100 37 (gI v2 100 37 - 1)) 100 21 ≤ 0 := by
            rw [gI_z, I_uI2 _ _ _ _ _ _ (by decide), z_zero, z_le (I_lo _ _ _) (I_hi _ _ _) (by decide) (by decide)]; exact hne.2.1
          rw [if_neg hn0]
        have hfl : ∀ x y w, I w 100 21 ≠ 0 → fX12_fail x y w = some w := by
          intro x y w hw
          unfold fX12_fail
          rw [gI_z w 100 21, if_neg (by rw [z_zero, z_eq (I_lo _ _ _) (I_hi _ _ _) (by decide) (by decide)]; exact hw)]
        have hlast : ∀ x y z w, ¬ I w 100 21 ≤ 0 → fX12_endName x y z w = some w := by
          intro x y z w hw
          have hq := I_lo w 100 21
          have hq2 := I_hi w 100 21
          unfold fX12_endName fX12_endName_j12
          have hn0 : ¬ gI w 100 21 ≤ 0 := by rw [gI_z, z_zero, z_le hq hq2 (by decide) (by decide)]; exact hw
          rw [if_neg hn0, if_neg hn0]
          by_cases hx : gI w 100 43 ≤ 0
          · rw [if_pos hx]
          · rw [if_neg hx]
        rw [show G + (N + 2) = (G + 1 + 1) + N by omega, q2, hop, a2, b2_s, if_neg (by decide), lt_e]
        unfold fX12_must
        rw [hlk2, b2_s, if_neg (by decide), hfl _ _ _ (by rw [I_uI2 _ _ _ _ _ _ (by decide)]; exact hne.2.2), bd_s, b2_s, lt_e, ld_z _ _ _ _ (by omega) (by omega), bd_s, ld_z _ _ _ _ (by omega) (by omega), bd_s, ld_z _ _ _ _ (by omega) (by omega), bd_s, hlast _ _ _ _ (FLT_ne hFQ2.1).2.1, bd_s]
        exact ra_flt G _ _ (FLT_ne hFQ2.1).2.2
    · -- a fault in the argument
      obtain ⟨u', g1, g2⟩ := arg_flt grp Fu' (zI pr) (zI p) (zI sy) (zI a) R0 u1 (by omega) (FLT_ne q3.1).1
      exact ⟨u', g1, Or.inr ⟨v1, N, q1, q2, FQ_cls g2 P37_PA' (fun k i hk => by simp; omega) (by decide) ⟨rfl, rfl⟩ q3⟩⟩
