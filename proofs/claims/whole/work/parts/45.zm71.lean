/-! the call show -/
def RIs (C : Nat) (fi ps : Nat → Nat) (nv c : Nat → Int) (e : Nat → Nat) (S F : Nat) (V : Int) (T : List (Nat × Nat × Int)) (u v : St) (_ _ : Nat) : Prop := SR u v C fi ps nv c e ∧ RSs c e (ps (fi C)) V T S F u v ∧ WE u c (ps (fi C)) V T ∧ ∃ ts, NB u v ts
theorem lit_show {C : Nat} {fi ps : Nat → Nat} {nv c : Nat → Int} {e : Nat → Nat} {S F k0 : Nat} {V b : Int} {T : List (Nat × Nat × Int)} (hk0 : k0 < C) (hS : S ≤ 60) (hF : F < 200000000) (hGT : GT c e (ps (fi C)) V T) (hV : V ≤ 220) (hb : 0 ≤ b) (hbV : b + nv k0 ≤ V) : ∀ u v k l, fi k0 ≤ l → l < fi (k0 + 1) → RIs C fi ps nv c e S F V T u v k l → ∀ u1 v1 k1, Wr u u1 v v1 NoP NoP → DS u v k → DS u1 v1 k1 → k ≤ k1 → k1 ≤ k + 1 → k < 98000 → ∃ u' v' k', fX1_literal (zI l) (zI b) u1 = some u' ∧ fX12_literalOut (zI l) (zI b) v1 = some v' ∧ DS u' v' k' ∧ (k' ≤ k + 2 ∨ k' ≤ 4020) ∧ RIs C fi ps nv c e S F V T u' v' k' (l + 1) ∧ Wr u1 u' v1 v' Pl Qlit := by
  intro u v k l hl1 hl2 hRI u1 v1 k1 hW hD hD1 hkk1 hkk2 hk
  obtain ⟨hSR, hRS, hWE, ts, hNB⟩ := hRI
  have hd := hD.2.1
  have hd1 := hD1.2.1
  have Fu := Wr_P hW hd
  have Fv := hW.2.2.2
  have hff := SR_fi hSR
  have hfc := hff.1 C (Nat.le_refl _) (k0 + 1) (by omega)
  obtain ⟨a1, a2, a3, a4, a5, a6, a7, a8, a9, a10⟩ := SR_lit hSR (show l < fi C by omega)
  have hT : TOK c e (ps (fi C)) := hSR.2.2.2.2.2.2.2.2.2.2.2.2.2
  obtain ⟨⟨o1, o2, o3, o4⟩, o5⟩ := SR_IOL hSR hk0 hl1 hl2 hb hbV hV
  obtain ⟨ρ, hB⟩ := GT_BOK hV hGT
  have hSR1 : SR u1 v1 C fi ps nv c e := SR_fr Fu Fv (fun k i hk => by simp [PSc] at hk; simp [NoP]; omega) (fun k i hk => by simp [PSr] at hk; simp [NoP, Qw]; omega) hSR
  have hM := show_mode (S := S) (F := F) hT hB hV hS hF
  have hR1 := hM.2.1 u u1 v v1 (Wr_mono (fun k i hk => by simp [NoP] at hk) (fun k i hk => by simp [NoP] at hk) hW) hd hRS
  have hTl := hT _ a6
  have hsg : sg e (ps (fi C)) 1 (ps l) := ⟨a6, hTl.2.1, by show e (ps l) ≤ _; rw [hTl.2.2.2.1]; exact (sg_le hTl.2.2.2.2).2⟩
  have hWE1 : WE u1 c (ps (fi C)) V T := WE_fr Fu (fun _ => rfl) (fun _ => rfl) (fun _ => rfl) hWE
  obtain ⟨u', v', k', y1, y2, y3, y4, y5, y6, y7, y8⟩ := lit_both hT hM (u := u1) (v := v1) (k := k1) (l := l) (p := ps l) (b := b) a10 a6 a7 (by simpa using o3) (by simpa using o4) (by rw [Fr_I Fu rfl]; exact a1) (by rw [Fr_I Fv rfl]; exact a2) (by rw [Fr_I Fu rfl, Fr_I Fv rfl]; exact a3) (fun u2 h32 h62 h63 => by
    obtain ⟨u3, c1, c2, c3⟩ := begin_spec (c := c) (e := e) (N := ps (fi C)) (V := V) (T := T) 2 (by decide) u2 (ps l) b 1 (by omega) o3 o4 (by decide) hsg (fun x hx => by
      simp only [items, List.mem_singleton] at hx
      subst hx
      exact ⟨o1, o2⟩)
    refine ⟨u3, c1, ⟨(ps l, b, 1), [], [], ?_, c2, ?_⟩, c3⟩
    · refine WE_fr c3 (fun _ => rfl) (fun _ => rfl) (fun _ => rfl) ?_
      exact ⟨fun p hp => by rw [h32]; exact hWE1.1 p hp, hWE1.2.1, hWE1.2.2.1, fun w hw => by rw [h62, h63]; exact hWE1.2.2.2 w hw⟩
    · simp [flat, items]) hR1 (fun K hK => ⟨ts, NB_wr hW hd rfl (fun _ => rfl) rfl (fun _ => rfl) hNB⟩) hD1 (by omega)
  have Fu' := Wr_P y6 hd1
  have Fv' := y6.2.2.2
  have hSR' : SR u' v' C fi ps nv c e := SR_fr Fu' Fv' (fun k i hk => by simp [PSc] at hk; simp [Pl, PW]; omega) (fun k i hk => by simp [PSr] at hk; simp [Qlit, Ql, PF, Qv2, Qw]; omega) hSR1
  refine ⟨u', v', k', y1, y2, y3, by omega, ⟨hSR', y7, WE_fr Fu' (fun _ => rfl) (fun _ => rfl) (fun _ => rfl) hWE1, ?_⟩, y6⟩
  rcases y8 with ⟨_, h⟩ | ⟨_, ⟨_, _, h⟩, _⟩
  · exact h
  · exact h
theorem DS_over {u v : St} {k : Nat} (h : DS u v k) (hk : 4000 < k) : fX1_finish u = some (-4, u) := by
  unfold fX1_finish
  rw [gI_z u 10 6, DS_6' h hk, if_neg (by decide)]
/-- both sides behind the text -/
theorem show_end {n : Nat} {u0 v0 u v : St} {k : Nat} (hRe : Re n u0 v0) (hD : DS u v k) (hu : Fr PPg u0 u) (hv : Fr QPg v0 v) (hpg : gR u 10 2 = gR u0 10 2 ∧ gR u 10 4 = gR u0 10 4 ∧ I u 10 3 = I u0 10 3 ∧ (∀ i, I u (gR u0 10 2) i = I u0 (gR u0 10 2) i) ∧ I v 100 76 = I v0 100 76 ∧ ∀ i, I v 144 i = I v0 144 i) : ∃ r u' v', (b2 (fX1_finish u) fun r16 u15 => some (r16, u15)) = some (r, u') ∧ fX12_show_j80 v = some (r, v') ∧ Re (n + 1) u' v' := by
  have hk5 := DS_lt hD
  have h78 := hD.2.2.2.1
  by_cases hk : k ≤ 4000
  · obtain ⟨u7, v7, s1, s2, s3, s4, s5, s6, s7⟩ := fin_both hD hk
    refine ⟨zI k, u7, v7, by rw [s1, b2_s], ?_, Re_pg hRe (Fr_tr hu (fin_u s1)) (Fr_tr hv (Fr_up2 (fun k i hk => by simp at hk; simp [QPg]; omega) s7)) s3⟩
    unfold fX12_show_j80
    rw [gI_z, h78, if_pos (by rw [z_lit, z_le (by omega) (by omega) (by decide) (by decide)]; omega), s2, b2_s]
  · refine ⟨-4, u, v, by rw [DS_over hD (by omega), b2_s], ?_, Re_pg hRe hu hv ?_⟩
    · unfold fX12_show_j80
      rw [gI_z, h78, if_neg (by rw [z_lit, z_le (by omega) (by omega) (by decide) (by decide)]; omega)]
    · obtain ⟨q1, q2, q3, q4, q5, q6⟩ := hpg
      obtain ⟨p1, p2, p3, p4, p5, p6, p7⟩ := hRe.2.2.1
      unfold PGr
      rw [q1, q2, q3, q5]
      exact ⟨p1, p2, p3, p4, p5, p6, fun i hi => by rw [q4, q6]; exact p7 i hi⟩
theorem pg_keep {u u' v v' : St} (h : Wr u u' v v' Pl Qlit) (hd : gR u 10 4 = 71 ∨ gR u 10 4 = 72) (hp : gR u 10 2 = 71 ∨ gR u 10 2 = 72) (hne : gR u 10 2 ≠ gR u 10 4) : gR u' 10 2 = gR u 10 2 ∧ gR u' 10 4 = gR u 10 4 ∧ I u' 10 3 = I u 10 3 ∧ (∀ i, I u' (gR u 10 2) i = I u (gR u 10 2) i) ∧ I v' 100 76 = I v 100 76 ∧ ∀ i, I v' 144 i = I v 144 i := by
  refine ⟨h.2.2.1, h.2.1, Wr_I h hd rfl (by decide) (by decide) (by decide), fun i => Fr_I h.1 ?_, Wr_V h rfl rfl, fun i => Wr_V h rfl rfl⟩
  have h1 : gR u 10 2 ≠ 10 := by omega
  simp [Pl, PW, Pw, hne, h1]; omega
theorem SB_show {n : Nat} (hn : n < 512) (a0 : Int32) : StepBoth (fX11_show a0) (fX12_show a0) (Re n) (Re (n + 1)) := by
  intro u v h
  have hR := Re_0 h
  have hRe := h
  obtain ⟨hTX, hPL, hPG, C, fi, ps, nv, c, e, S, F, g1, g2, g3, g4, g5, g6, g7, g8, g9, g10, g11⟩ := h
  obtain ⟨x, hx, hx1, hx2⟩ : ∃ x : Int, a0 = zI x ∧ -2147483648 ≤ x ∧ x < 2147483648 := ⟨a0.toInt, z_id a0, Int32.le_toInt _, Int32.toInt_lt _⟩
  subst hx
  have F0 : Fr (P1 100 0) v (uI v 100 0 (zI 0)) := Fr_up (by simp [P1]) (Fr_rfl _ _)
  obtain ⟨h1, h2, h3, h4⟩ := g2
  have hb : 0 ≤ I u 9 15 ∧ I u 9 15 < 1000 := by
    rcases h4 with ⟨h, _⟩ | ⟨⟨φ, Gd, T, L, J, V, n, _, _, _, _, _, _, h7, h8, _⟩, h⟩ <;> omega
  have hin := in_spec x 0 (I u 9 15 - 1) (uI v 100 0 (zI 0)) hx1 hx2 (by decide) (by decide) (by omega) (by omega)
  have e105 : gI (uI v 100 0 (zI 0)) 100 105 - zI 1 = zI (I u 9 15 - 1) := by rw [gI_z, Fr_I F0 (by simp [P1]), ← h3, z_sub]
  by_cases c1 : 0 ≤ x ∧ x ≤ I u 9 15 - 1
  · rw [if_pos c1] at hin
    rcases h4 with ⟨h, _⟩ | ⟨hP, h⟩
    · omega
    · obtain ⟨m, hm⟩ : ∃ m : Nat, x = m := ⟨x.toNat, by omega⟩
      subst hm
      -- a page is begun
      have FA : Fr QPg v (uI (uI (uI v 100 0 (zI 0)) 100 78 (zI 0)) 100 79 (zI 0)) := Fr_up rfl (Fr_up rfl (Fr_up rfl (Fr_rfl _ _)))
      obtain ⟨u4, b1, b2', b3, b4, b5, b6, b7⟩ := beg_both (v := uI v 100 0 (zI 0)) (PGr_fr (P := fun _ _ => false) (Q := P1 100 0) (Fr_rfl _ _) F0 rfl rfl rfl (fun _ => rfl) (fun _ => rfl) (by simp [P1]) (fun i => by simp [P1]) hPG)
      have hD4 : DS u4 (uI (uI (uI v 100 0 (zI 0)) 100 78 (zI 0)) 100 79 (zI 0)) 0 := DS_fr (Fr_rfl (fun _ _ => false) u4) (Fr_up (P := P1 100 79) (by simp [P1]) (Fr_rfl _ _)) (fun _ _ => rfl) (fun _ => rfl) (fun _ => rfl) (by simp [P1]) (fun i => by simp [P1]) b2'
      have hN4 : NB u4 (uI (uI (uI v 100 0 (zI 0)) 100 78 (zI 0)) 100 79 (zI 0)) [] := ⟨b3, I_uI1 _ _ _ _ (by decide) (by decide), by simp, fun i w hw => by simp at hw, fun w hw _ => b4 w hw⟩
      have hop : ∀ A : Option (Int32 × St), fX12_show (zI m) v = A ↔ (bd (ld (uI (uI (uI v 100 0 (zI 0)) 100 78 (zI 0)) 100 79 (zI 0)) 157 400 (zI m)) fun v10 => if v10 = 0 then (bd (ld (uI (uI (uI v 100 0 (zI 0)) 100 78 (zI 0)) 100 79 (zI 0)) 158 400 (zI m)) fun v17 => bd (fX12_clauseOut v17 (zI 0) (uI (uI (uI v 100 0 (zI 0)) 100 78 (zI 0)) 100 79 (zI 0))) fun u18 => fX12_show_j80 u18) else bd (ld (uI (uI (uI v 100 0 (zI 0)) 100 78 (zI 0)) 100 79 (zI 0)) 160 400 (zI m)) fun v12 => bd (ld (uI (uI (uI v 100 0 (zI 0)) 100 78 (zI 0)) 100 79 (zI 0)) 150 400 v12) fun v13 => bd (ld (uI (uI (uI v 100 0 (zI 0)) 100 78 (zI 0)) 100 79 (zI 0)) 160 400 (zI m)) fun v14 => bd (ld (uI (uI (uI v 100 0 (zI 0)) 100 78 (zI 0)) 100 79 (zI 0)) 151 400 v14) fun v15 => bd (fX12_literalOut v13 v15 (uI (uI (uI v 100 0 (zI 0)) 100 78 (zI 0)) 100 79 (zI 0))) fun u16 => fX12_show_j80 u16) = A := by
        intro A
        unfold fX12_show
        rw [show (0 : Int32) = zI 0 from rfl, lt_e, show (1 : Int32) = zI 1 from rfl, e105, hin, b2_s, if_neg (by decide), lt_e, lt_e]
      generalize hv9 : uI (uI (uI v 100 0 (zI 0)) 100 78 (zI 0)) 100 79 (zI 0) = v9 at *
      have Fu4 : Fr PPg u u4 := Fr_up2 (fun k i hk => by simp [Pb] at hk; simp [PPg, PW]; omega) b7
      have hSR4 : SR u4 v9 C fi ps nv c e := SR_fr Fu4 FA (fun k i hk => by simp [PSc] at hk; simp [PPg, PW]; omega) (fun k i hk => by simp [PSr] at hk; simp [QPg, Qlit, Ql, PF, Qv2]; omega) g1
      have hP4 : PRF u4 v9 C fi ps nv c e := PRF_fr Fu4 FA (fun k i hk => by simp [PPg, PW]; omega) (fun k i hk => by simp [QPg, Qlit, Ql, PF, Qv2]; omega) hP
      have e915 : I u4 9 9 = I u 9 9 := Fr_I Fu4 rfl
      obtain ⟨φ, Gd, T, L, J, V, n', t1, t2, t3, t4, t5, t6, t7, t8, t9, t10, t11⟩ := hP4
      have hRS4 : RSs c e (ps (fi C)) V T S F u4 v9 := ⟨t2.2.2.2.1, NMr_fr Fu4 FA (fun k i hk => by rcases hk with h | h | h <;> subst h <;> rfl) (fun k i hk => by rcases hk with h | h | h <;> subst h <;> rfl) g9, SYr_fr Fu4 FA (fun _ => rfl) (fun _ => rfl) g10⟩
      have hRI4 : ∀ l, RIs C fi ps nv c e S F V T u4 v9 0 l := fun l => ⟨hSR4, hRS4, t2.2.1, [], hN4⟩
      have hd4 := hD4.2.1
      have hkeep : ∀ u5 v5, Wr u4 u5 v9 v5 Pl Qlit → gR u5 10 2 = gR u 10 2 ∧ gR u5 10 4 = gR u 10 4 ∧ I u5 10 3 = I u 10 3 ∧ (∀ i, I u5 (gR u 10 2) i = I u (gR u 10 2) i) ∧ I v5 100 76 = I v 100 76 ∧ ∀ i, I v5 144 i = I v 144 i := by
        intro u5 v5 hW
        obtain ⟨w1, w2, w3, w4, w5, w6⟩ := pg_keep hW hd4 hD4.1 hD4.2.2.1
        rw [b5] at w4
        have z1 : ∀ i, I u4 (gR u 10 2) i = I u (gR u 10 2) i := fun i => Fr_I b7 (by
          have h2 := hPG.1
          have : gR u 10 2 ≠ 10 := by omega
          simp [Pb, this]; omega)
        refine ⟨w1.trans b5, w2.trans b6, w3.trans (Fr_I b7 rfl), fun i => (w4 i).trans (z1 i), w5.trans ?_, fun i => (w6 i).trans ?_⟩
        · rw [← hv9, I_uI2 _ _ _ _ _ _ (by decide), I_uI2 _ _ _ _ _ _ (by decide), I_uI2 _ _ _ _ _ _ (by decide)]
        · rw [← hv9, I_uI3 _ _ _ _ _ _ (by decide), I_uI3 _ _ _ _ _ _ (by decide), I_uI3 _ _ _ _ _ _ (by decide)]
      have hcl0 : fX11_show (zI m) u = if zI m = 0 then (b2 (fX3_rowOf 0 u4) fun r13 u12 => bd (fX1_row r13 0 u12) fun u14 => b2 (fX1_finish u14) fun r16 u15 => some (r16, u15)) else (b2 (fX3_goalSource (zI m) u4) fun r6 u5 => b2 (fX3_goalBase (zI m) u5) fun r8 u7 => bd (fX1_literal r6 r8 u7) fun u9 => b2 (fX1_finish u9) fun r11 u10 => some (r11, u10)) := by
        unfold fX11_show
        rw [if_neg (by rw [z_zero, z_lt (by omega) (by omega) (by decide) (by decide)]; omega), gI_z u 9 15, if_pos (by rw [z_lt (by omega) (by omega) (by omega) (by omega)]; omega), b1, bd_s]
      cases m with
      | zero =>
        obtain ⟨s1, s2, s3, s4, s5, ⟨k0, s6, s7, s8⟩, s9, s10, s11⟩ := t10
        have hff := SR_fi hSR4
        have hfc := hff.1 C (Nat.le_refl _) (k0 + 1) (by omega)
        have hC := hSR4.1
        obtain ⟨k1, k2, k3, k4, _⟩ := hSR4.2.2.2.2.2.2.1 k0 s6
        have hnv := t6.2 k0 s7
        obtain ⟨u5, v5, k5', r1, r2, r3, r4, _⟩ := row_loop (b := 0) (bb := 0) (k0 := k0) (f0 := fi k0) (f1 := fi (k0 + 1)) (by omega) (by omega) (lit_show (b := 0) s6 g5 (by omega) t2.1 (by omega) (by omega) (by omega)) (fi (k0 + 1) - fi k0) FU FU (fi k0) 0 u4 v9 (by omega) (Nat.le_refl _) (by omega) (by unfold FU; omega) (by unfold FU; omega) (by omega) (hSR4.2.2.2.2.2.1 (k0 + 1) (by omega)) k1 k2 hD4 (hRI4 _)
        obtain ⟨W1, W2⟩ := Wr_PPg r4 hd4
        obtain ⟨r, u', v', x1, x2, x3⟩ := show_end hRe r3 (Fr_tr Fu4 W1) (Fr_tr FA W2) (hkeep _ _ r4)
        have hrow : fX3_rowOf 0 u4 = some (zI k0, u4) := by
          unfold fX3_rowOf
          rw [show (0 : Int32) = zI 0 from rfl, ld_z _ _ _ _ (by decide) (by decide), bd_s, show (0 : Int).toNat = 0 from rfl, s1, if_pos rfl, ld_z _ _ _ _ (by decide) (by decide), bd_s, show (0 : Int).toNat = 0 from rfl, s7]
        refine ⟨r, u', v', ?_, (hop _).2 ?_, x3⟩
        · rw [hcl0, if_pos (show zI ((0 : Nat) : Int) = 0 from rfl), hrow, b2_s]
          unfold fX1_row
          rw [ld_z _ _ _ _ (by omega) (by omega), bd_s, Int.toNat_natCast, hSR4.2.2.2.2.2.1 k0 (by omega), show (0 : Int32) = zI 0 from rfl, r1, bd_s]
          exact x1
        · rw [ld_z _ _ _ _ (by decide) (by decide), bd_s, show ((0 : Nat) : Int).toNat = 0 from rfl, s9, if_pos (show zI 0 = 0 from rfl), ld_z _ _ _ _ (by decide) (by decide), bd_s, show ((0 : Nat) : Int).toNat = 0 from rfl, s8]
          unfold fX12_clauseOut
          rw [show ((fi k0 : Nat) : Int) - (fi k0 : Nat) = 0 by omega] at r2
          rw [lt_e, show (0 : Int32) = zI 0 from rfl, r2, bd_s]
          exact x2
      | succ f =>
        have hfn : f < n' := by omega
        obtain ⟨⟨g, y1, y2, y3, y4⟩, g', y5, y6⟩ := t11 f hfn
        have hgg : g' = g := by omega
        subst hgg
        obtain ⟨q1, q2, ⟨k0, l, z1, z2, z3, z4, z5, z6, z7, z8⟩, _⟩ := t1 g' y6
        have hff := SR_fi hSR4
        have hfc := hff.1 C (Nat.le_refl _) (k0 + 1) (by omega)
        obtain ⟨b, hbb⟩ : ∃ b : Int, I u4 58 g' = b := ⟨_, rfl⟩
        rw [hbb] at z6 z7 z8
        obtain ⟨u5, v5, k5', r1, r2, r3, r4, r5, r6⟩ := lit_show (S := S) (F := F) (b := b) z1 g5 (by omega) t2.1 (by omega) z6 z8 u4 v9 0 l z2 z3 (hRI4 _) u4 v9 0 (Wr_rfl _ _ _ _) hD4 hD4 (Nat.le_refl _) (by omega) (by omega)
        obtain ⟨W1, W2⟩ := Wr_PPg r6 hd4
        obtain ⟨r, u', v', x1, x2, x3⟩ := show_end hRe r3 (Fr_tr Fu4 W1) (Fr_tr FA W2) (hkeep _ _ r6)
        have h65 : I u4 65 (f + 1) ≠ 0 := by
          rcases y4 with ⟨y4, _⟩ | ⟨y4, _⟩ <;> omega
        have hl65 := I_lo u4 65 (f + 1)
        have hh65 := I_hi u4 65 (f + 1)
        have hgs : fX3_goalSource (zI ((f + 1 : Nat) : Int)) u4 = some (zI l, u4) := by
          unfold fX3_goalSource
          rw [ld_z _ _ _ _ (by omega) (by omega), bd_s, Int.toNat_natCast, if_neg (by rw [z_zero, z_eq hl65 hh65 (by decide) (by decide)]; exact h65), ld_z _ _ _ _ (by omega) (by omega), bd_s, Int.toNat_natCast, y1, ld_z _ _ _ _ (by omega) (by omega), bd_s, Int.toNat_natCast, z4]
        have hgb : fX3_goalBase (zI ((f + 1 : Nat) : Int)) u4 = some (zI b, u4) := by
          unfold fX3_goalBase
          rw [ld_z _ _ _ _ (by omega) (by omega), bd_s, Int.toNat_natCast, if_neg (by rw [z_zero, z_eq hl65 hh65 (by decide) (by decide)]; exact h65), ld_z _ _ _ _ (by omega) (by omega), bd_s, Int.toNat_natCast, y1, ld_z _ _ _ _ (by omega) (by omega), bd_s, Int.toNat_natCast, hbb]
        refine ⟨r, u', v', ?_, (hop _).2 ?_, x3⟩
        · rw [hcl0, if_neg (by rw [z_zero, z_eq (by omega) (by omega) (by decide) (by decide)]; omega), hgs, b2_s, hgb, b2_s, r1, bd_s]
          exact x1
        · rw [ld_z _ _ _ _ (by omega) (by omega), bd_s, Int.toNat_natCast, y3, if_neg (by rw [z_zero, z_eq hl65 hh65 (by decide) (by decide)]; exact h65), ld_z _ _ _ _ (by omega) (by omega), bd_s, Int.toNat_natCast, y2, ld_z _ _ _ _ (by omega) (by omega), bd_s, Int.toNat_natCast, z5, bd_s, ld_z _ _ _ _ (by omega) (by omega), bd_s, Int.toNat_natCast, z7, r2, bd_s]
          exact x2
  · rw [if_neg c1] at hin
    refine ⟨-1, u, _, ?_, ?_, hR⟩
    · unfold fX11_show
      by_cases d : x < 0
      · rw [if_pos (by rw [z_zero, z_lt (by omega) (by omega) (by decide) (by decide)]; omega)]
      · rw [if_neg (by rw [z_zero, z_lt (by omega) (by omega) (by decide) (by decide)]; omega), gI_z u 9 15, if_neg (by rw [z_lt (by omega) (by omega) (by omega) (by omega)]; omega)]
    · unfold fX12_show
      rw [show (0 : Int32) = zI 0 from rfl, lt_e, show (1 : Int32) = zI 1 from rfl, e105, hin, b2_s, if_pos rfl]
