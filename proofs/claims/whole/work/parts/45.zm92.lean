/-! reading: a formula behind a quantifier -/
theorem hBb (B : Nat → Nat) (x : Nat) (y : Nat) : (B y : Int) = if y = x then (((if y = x then B y + 1 else B y : Nat)) : Int) + (-1) else ((if y = x then B y + 1 else B y : Nat) : Int) := by
  by_cases hh : y = x
  · rw [if_pos hh, if_pos hh]; omega
  · rw [if_neg hh, if_neg hh]
theorem un_qu {grp : Nat → Int32 → St → Option (Int32 × St)} {n o : Nat} (hG : o < 30 → GU grp n (o + 1)) {u v : St} {s b S R NC NR kk : Nat} {B : Nat → Nat} {F : List Nat} {Kc Kr : Nat} {l : List (Int × Int)} {vs : List Nat} (hkk : kk = 6 ∨ kk = 7) (h : PFo u v n s S R NC NR o B F Kc Kr) (hL : TLs u v n s b (kk + 5)) (hBo : ∀ x, B x ≤ o) (hT : TS v l) (hV : VS v vs) (hl : l.length ≤ 10 * o + 9) (hvs : vs.length ≤ 10 * o + 9) : ∃ (u' : St) (r : Nat), fX2_unary_j89 grp (zI ((kk + 6 : Nat) : Int)) 0 u = some (zI r, u') ∧ FMx (fun G => bd (fX12_unary_j47 (zI ((kk + 5 : Nat) : Int)) v) fun w => fX12_formula_L0 G 0 w) u u' v r n s S R NC NR o B F Kc Kr l vs 0 0 31 := by
  obtain ⟨p3, p4, p5, p6, p7, hn, htn, hRt, hS, hNC⟩ := PF_bits h
  have hKc := h.2.2.2.1
  have hKr := h.2.2.2.2
  obtain ⟨u1, v1, hh⟩ := pf_open h hL (by omega) (by omega)
  have hop : ∀ r w, fX2_opens u = some (r, w) → fX2_unary_j89 grp (zI ((kk + 6 : Nat) : Int)) 0 u = if r = 0 then (some (0, w)) else (b2 (fX2_want 3 w) fun r13 u12 => if r13 = 0 then (fX2_unary_j221 grp 0 u12) else b2 (fX7_variable (gJ u12 1 3) u12) fun r16 u15 => b2 (fX2_want 8 u15) fun r18 u17 => if r18 = 0 then (fX2_unary_j221 grp 0 u17) else bd (fX7_bind r16 1 u17) fun u20 => fX2_unary_j201 grp r16 (zI kk) u20) := by
    intro r w hr
    unfold fX2_unary_j89
    rw [hr, b2_s]
    by_cases h0 : r = 0
    · rw [if_pos h0, if_pos h0]
    · rw [if_neg h0, if_neg h0, if_neg (by rcases hkk with h | h <;> subst h <;> decide), if_neg (by rcases hkk with h | h <;> subst h <;> decide)]
      rcases hkk with h | h <;> subst h <;> rfl
  rcases hh with ⟨a0, a1, a2, a3, a4, a45, a5, a6⟩ | ⟨a1, a2, a3⟩
  · have hT1 : TS v1 l := TS_fr a6 (fun _ => by simp [QK]) (fun _ => by simp [QK]) (by simp [QK]) hT
    have hV1 : VS v1 vs := VS_fr a6 (fun _ => by simp [QK]) (by simp [QK]) hV
    have hr47 : ∀ G, (bd (fX12_unary_j47 (zI ((kk + 5 : Nat) : Int)) v) fun w => fX12_formula_L0 G 0 w) = bd (b2 (fX12_look v1) fun r5 u4 => lt (gJ u4 100 27 : Int64) fun x6 => b2 (fX12_must 2 u4) fun r8 u7 => if r8 = 0 then (some u7) else b2 (fX12_must 7 u7) fun r11 u10 => if r11 = 0 then (some u10) else b2 (fX12_node (zI ((kk + 5 : Nat) : Int)) 0 0 u10) fun r14 u13 => bd (stJ u13 117 1600 r14 x6) fun u15 => bd (fX12_push 15 r14 u15) fun u16 => bd (fX12_push 13 0 u16) fun u17 => some u17) fun w => fX12_formula_L0 G 0 w := by
      intro G
      unfold fX12_unary_j47
      rw [a2, b2_s, if_neg (by decide)]
    obtain ⟨u2, v2, hn2⟩ := pf_next a3
    rcases hn2 with ⟨s2, b2x, k2, c1, c2, c3, c4, c5, c6, c7, c8⟩ | ⟨c1, c2, c3⟩
    · have hT2 : TS v2 l := TS_fr c8 (fun _ => by simp [QA, QT]) (fun _ => by simp [QA, QT]) (by simp [QA, QT]) hT1
      have hV2 : VS v2 vs := VS_fr c8 (fun _ => by simp [QA, QT]) (by simp [QA, QT]) hV1
      have hY2 := PY_tr (Nat.le_refl _) (Nat.le_refl _) (Nat.le_refl _) (Nat.le_refl _) (Nat.le_refl _) (Nat.le_refl _) a5 c7
      by_cases hk2 : k2 = 2
      · -- the variable
        subst hk2
        have hb2n := c3.2.2.2.2.2.2.2.2.2.2.1
        obtain ⟨w1, _, _⟩ := c3.2.2.2.2.2.2.2.2.2.2.2.2 (Or.inr rfl)
        obtain ⟨⟨m, q1⟩, q2, q3, q4, q5⟩ := c6
        have hNC2 := q1.2.2.2.2.2.2.2.2.2.2.2.2.2.1
        obtain ⟨u3, v3, t1, t2, t3, t4, t5, t6, t7, t8⟩ := px_take q1 c3 (by decide)
        have hPF3 : PFo u3 v3 n b2x S R NC NR (o + 1) B F Kc Kr := ⟨⟨m, t5 (by decide)⟩, by rw [Fr_I t6 rfl]; exact q2, by rw [Fr_I t7 rfl]; exact q3, by omega, by omega⟩
        have hwant : fX2_want 3 u1 = some (1, u3) := by
          unfold fX2_want; rw [c1, b2_s, if_pos (by rfl), t1, bd_s]
        have hmust : fX12_must 2 v2 = some (1, v3) := by
          unfold fX12_must; rw [(next_same c3 q1.2.2.1 q1.2.2.2.1).2, b2_s, if_pos (by rfl), t2, bd_s]
        have hJ3 : J u3 1 3 = J u2 1 3 := Fr_J t6 rfl
        obtain ⟨u4, x, NC', x1, x2, x3, x4, x5, x6⟩ := pf_qvar hPF3 (by omega) (show NmR (J u3 1 3) (J v2 100 27) by rw [hJ3]; exact w1)
        have hY4 : PY u u4 v v3 S R NC NR Kc Kr := PY_tr (Nat.le_refl _) (Nat.le_refl _) (Nat.le_refl _) (Nat.le_refl _) (Nat.le_refl _) (Nat.le_refl _) (PY_tr (Nat.le_refl _) (Nat.le_refl _) (Nat.le_refl _) (Nat.le_refl _) (Nat.le_refl _) (Nat.le_refl _) hY2 (PX_PY t8)) x6
        obtain ⟨u5, v5, hw8⟩ := pf_want 7 (by decide) (by decide) x2
        have hT3 : TS v3 l := TS_fr t7 (fun _ => by simp [QK]) (fun _ => by simp [QK]) (by simp [QK]) hT2
        have hV3 : VS v3 vs := VS_fr t7 (fun _ => by simp [QK]) (by simp [QK]) hV2
        rcases hw8 with ⟨s5, b5, y1, y2, y3, y4, y45, y46, y5, y6⟩ | ⟨y1, y2, y3⟩
        · have hBo5 : ∀ y, (if y = x then B y + 1 else B y) ≤ o + 1 := fun y => by have := hBo y; by_cases hh : y = x <;> simp [hh] <;> (try rw [← hh]) <;> omega
          obtain ⟨u6, z1, z2, z3⟩ := pf_bind (B2 := fun y => if y = x then B y + 1 else B y) x 1 y3 x3 (fun y => by by_cases hh : y = x <;> simp [hh]) (fun y => by have := hBo5 y; omega)
          have hT5 : TS v5 l := TS_fr y6 (fun _ => by simp [QA, QT]) (fun _ => by simp [QA, QT]) (by simp [QA, QT]) hT3
          have hV5 : VS v5 vs := VS_fr y6 (fun _ => by simp [QA, QT]) (by simp [QA, QT]) hV3
          have k28 : I v5 100 28 = Kr := z2.2.2.1
          obtain ⟨v6, m1, m2, m3, m4, m5, m6, m7⟩ := rnode_spec v5 Kr ((kk + 5 : Nat) : Int) 0 0 (by omega) k28 (by omega) (by omega) (by decide) (by decide) (by decide) (by decide)
          have F7 : Fr (fun k _ => k == 117) v6 (uJ v6 117 Kr (zJ (J v2 100 27))) := Fr_uJ rfl (Fr_rfl _ _)
          have hJ7 : J (uJ v6 117 Kr (zJ (J v2 100 27))) 117 Kr = J v2 100 27 := by rw [J_uJ _ _ _ _ (J_lo _ _ _) (J_hi _ _ _), if_pos ⟨rfl, rfl⟩]
          have F57 : Fr (fun k i => k == 114 || k == 115 || k == 116 || k == 117 || (k == 100 && i == 28)) v5 (uJ v6 117 Kr (zJ (J v2 100 27))) := Fr_uJ rfl (Fr_up2 (fun k i hk => by simp at hk; simp; omega) m7)
          have hT7 : TS (uJ v6 117 Kr (zJ (J v2 100 27))) l := TS_fr F57 (fun _ => by simp) (fun _ => by simp) (by simp) hT5
          have hV7 : VS (uJ v6 117 Kr (zJ (J v2 100 27))) vs := VS_fr F57 (fun _ => by simp) (by simp) hV5
          obtain ⟨v8, r1, r2, r3⟩ := rpush_spec _ l 15 Kr (by omega) hT7 (by decide) (by decide) (by omega) (by omega)
          obtain ⟨v9, r4, r5, r6⟩ := rpush_spec v8 ((15, (Kr : Int)) :: l) 13 0 (by simp only [List.length_cons]; omega) r2 (by decide) (by decide) (by decide) (by decide)
          have F79 : Fr Qts (uJ v6 117 Kr (zJ (J v2 100 27))) v9 := Fr_tr r3 r6
          have hPF9 : PFo u6 v9 n b5 S R NC' NR (o + 1) (fun y => if y = x then B y + 1 else B y) F Kc (Kr + 1) := PF_gen (P := fun _ _ => false) (Q := fun k i => Qts k i || k == 114 || k == 115 || k == 116 || k == 117 || (k == 100 && i == 28)) (Fr_rfl _ _) (Fr_tr (Fr_up2 (fun k i hk => by simp at hk; simp; omega) F57) (Fr_up2 (fun k i hk => by simp [hk]) F79)) (fun _ _ _ => rfl) (fun k i hk => by simp [Qts]; omega) (PF_bits z2).2.2.1 (by rw [Fr_I F79 (by simp [Qts]), Fr_I F57 (by simp)]; exact (PF_bits z2).2.2.2.1) (by omega) z2.2.1 (by rw [Fr_I F79 (by simp [Qts])]; exact m2) (by omega) (by omega) z2
          have hV9 : VS v9 vs := VS_fr F79 (fun _ => by simp [Qts]) (by simp [Qts]) hV7
          have hY59 : PY u6 u6 v5 v9 S R NC' NR Kc Kr := ⟨PZ_fr (P := fun _ _ => false) (Q := fun k i => Qts k i || k == 114 || k == 115 || k == 116 || k == 117 || (k == 100 && i == 28)) (Fr_rfl _ _) (Fr_tr (Fr_up2 (fun k i hk => by simp at hk; simp; omega) F57) (Fr_up2 (fun k i hk => by simp [hk]) F79)) (fun _ _ _ => rfl) (fun k i hk => by simp [Qts]; omega), fun _ _ _ _ => rfl, fun k i hi hk => by rw [Fr_I F79 (by simp [Qts]; omega)]; show I v6 k i = _; exact m6 k i (Nat.ne_of_lt hi) hk, fun i hi => by rw [Fr_J F79 (by simp [Qts]), J_uJ2 _ _ _ _ _ _ (by omega), Fr_J m7 (by simp)], Fr_rfl _ _, Fr_tr (Fr_up2 (fun k i hk => by simp at hk; simp [QAf]; omega) F57) (Fr_up2 (fun k i hk => by simp [QAf, hk]) F79)⟩
          have hY9 : PY u u6 v v9 S R NC NR Kc Kr := PY_tr (Nat.le_refl _) (Nat.le_refl _) x4 (Nat.le_refl _) (Nat.le_refl _) (Nat.le_refl _) (PY_tr (Nat.le_refl _) (Nat.le_refl _) x4 (Nat.le_refl _) (Nat.le_refl _) (Nat.le_refl _) (PY_tr (Nat.le_refl _) (Nat.le_refl _) x4 (Nat.le_refl _) (Nat.le_refl _) (Nat.le_refl _) hY4 y5) z3) hY59
          obtain ⟨u10, r10, g1, g2⟩ := hG a0 u6 v9 b5 S R NC' NR (fun y => if y = x then B y + 1 else B y) F Kc (Kr + 1) ((15, (Kr : Int)) :: l) vs hPF9 hBo5 r5 hV9 (by simp only [List.length_cons]; omega) (by omega)
          have n117 : J v9 117 Kr = J v2 100 27 := by rw [Fr_J F79 (by simp [Qts])]; exact hJ7
          have n114 : I v9 114 Kr = ((kk + 5 : Nat) : Int) := by rw [Fr_I F79 (by simp [Qts])]; exact m3
          have n38 : J u6 38 x = J u2 1 3 := by
            rw [z3.1.2.2.1 x x3, y5.1.2.2.1 x x3, x5, hJ3]
          have href : ∀ G, (bd (fX12_unary_j47 (zI ((kk + 5 : Nat) : Int)) v) fun w => fX12_formula_L0 G 0 w) = fX12_formula_L0 G 0 v9 := by
            intro G
            have y2' : fX12_must 7 v3 = some (1, v5) := y2
            have r1' : fX12_push 15 (zI Kr) (uJ v6 117 Kr (zJ (J v2 100 27))) = some v8 := r1
            have r4' : fX12_push 13 0 v8 = some v9 := r4
            rw [hr47, c2, b2_s, lt_e, hmust, b2_s, if_neg (by decide), y2', b2_s, if_neg (by decide), show (0 : Int32) = zI 0 from rfl, m1, b2_s, gJ_z v2 100 27, stJ_z _ _ _ _ _ (by omega) (by omega), bd_s, Int.toNat_natCast, r1', bd_s]
            have r4'' : fX12_push 13 (zI 0) v8 = some v9 := r4
            rw [r4'', bd_s, bd_s]
          have hcl : fX2_unary_j89 grp (zI ((kk + 6 : Nat) : Int)) 0 u = (b2 (fX7_add (zI kk) (zI x) (zI r10) u10) fun r5 u4 => bd (fX7_bind (zI x) (-1) u4) fun u6 => fX2_unary_j221 grp r5 u6) := by
            have y1' : fX2_want 8 u4 = some (1, u5) := y1
            have z1' : fX7_bind (zI x) 1 u5 = some u6 := z1
            rw [hop 1 u1 a1, if_neg (by decide), hwant, b2_s, if_neg (by decide), x1, b2_s, y1', b2_s, if_neg (by decide), z1', bd_s]
            unfold fX2_unary_j201
            rw [g1, b2_s]
          rcases g2 with ⟨v11, N, t', S', R', NC2, NR', F', Kc', Kr', j, dd, w, g, hh, q, c, e, occ, d1, d2, d3, d4, d5, d6, d7, d8, d9, d10, d11, d12, d13, d13b, d14, d15, d16, d17⟩ | ⟨v11, N, d1, d2, d3, d4⟩
          · clear d17
            have d2' : ∀ G, fX12_formula_L0 (G + N) 0 v9 = fX12_formula_L0 G 0 v11 := d2
            obtain ⟨u12, v12, k1, k2, k3, k4, k5, k6, k7, k8, k9, k10, k11, k12⟩ := mk_qu (B2 := B) grp d3 d4 d5 d14 (by clear d16; omega) (by omega) (by clear d16; omega) (by clear d16; omega) hkk (by rw [d6.2.2.1 114 Kr (by omega) (by simp), n114]; rcases hkk with h | h <;> subst h <;> rfl) (show x < NC2 by omega) (by rw [d6.1.2.2.1 x x3, d6.2.2.2.1 Kr (by omega), n38, n117]; exact w1) (hBb B x) (fun y => by have := hBo y; omega)
            have hYl : PY u10 u12 v11 v12 S' R' NC2 NR' Kc Kr := ⟨k6, fun k i hi hk => k7 k i (by omega) hk, fun k i hi hk => k8 k i (by omega) hk, fun i _ => k9 i, k10, k11⟩
            have hY12 : PY u u12 v v12 S R NC NR Kc Kr := PY_tr d8 d9 (show NC ≤ NC2 by omega) d11 (Nat.le_refl _) (Nat.le_refl _) (PY_tr (Nat.le_refl _) (Nat.le_refl _) x4 (Nat.le_refl _) (Nat.le_refl _) (Nat.le_succ _) hY9 d6) hYl
            refine ⟨u12, Kc', by rw [hcl]; exact k1, Or.inl ⟨v12, N + 1, t', S', R', NC2, NR', F', Kc' + 1, Kr', Kr, dd + 1, w + 1, g + 1, hh, q + 1, c + 2, e, occ.filter (fun y => y != x), by clear d16; omega, fun G => ?_, k3, k4, k5, hY12, by clear d16; omega, d8, d9, by clear d16; omega, d11, by clear d16; omega, by clear d16; omega, by clear d16; omega, k12, ?_, BDf_qu a0 (by omega) (Nat.le_of_lt d7) d16, fun hh => absurd rfl hh⟩⟩
            · show (bd (fX12_unary_j47 (zI ((kk + 5 : Nat) : Int)) v) fun w => fX12_formula_L0 (G + (N + 1)) 0 w) = _
              rw [href, show G + (N + 1) = (G + 1) + N by omega, d2', k2]
            · rw [d15]; exact addF_bind B _ x (fun y => rfl) occ F
          · -- a fault inside
            obtain ⟨u12, r12, n1, n2, n3, n4, n5⟩ := cnode_flt u10 kk (zI x) (zI r10) 0 r10 (Or.inr (Or.inr (Or.inr ⟨hkk, rfl, d4⟩))) d3.2.2.2.1 d3.2.2.2.2.1
            have hx1501 : x < 1501 := by have := z2; have := (PF_bits z2).2.2.2.2.2.2.2.2.2; omega
            have F13 : Fr (fun k _ => k == 39) u12 (uI u12 39 x (zI (I u12 39 x) + (-1))) := Fr_up rfl (Fr_rfl _ _)
            obtain ⟨u14, m1', m2'⟩ := j221_flt grp (uI u12 39 x (zI (I u12 39 x) + (-1))) r12
            refine ⟨u14, r12, ?_, Or.inr ⟨v11, N, by omega, fun G => ?_, FQf_tr (Nat.le_refl _) hY9 (FQf_cls m2' P43_PAf P43_syt (by decide) ⟨rfl, rfl⟩ (by rw [Fr_I m2' rfl, Fr_I F13 rfl]; exact ⟨n3, n4⟩) (FQf_cls F13 (fun k i hk => by simp at hk; simp [PAf, PA, hk]) (fun k i hk => by simp; omega) (by decide) ⟨rfl, rfl⟩ (by rw [Fr_I F13 rfl]; exact ⟨n3, n4⟩) (FQf_cls n5 Pnd_PAf Pnd_syt rfl ⟨rfl, rfl⟩ ⟨n3, n4⟩ d3))), n2⟩⟩
            · rw [hcl, n1, b2_s]
              unfold fX7_bind
              rw [ld_z _ _ _ _ (by omega) (by omega), bd_s, Int.toNat_natCast, st_z _ _ _ _ _ (by omega) (by omega), bd_s, Int.toNat_natCast, bd_s]
              exact m1'
            · show (bd (fX12_unary_j47 (zI ((kk + 5 : Nat) : Int)) v) fun w => fX12_formula_L0 (G + N) 0 w) = _
              rw [href]; exact d2 G
        · -- no colon
          have hne := FLT_ne y3.1
          obtain ⟨u6, m1, m2⟩ := j221_flt grp u5 0
          refine ⟨u6, 0, ?_, Or.inr ⟨v5, 1, by omega, fun G => ?_, FQf_tr (Nat.le_refl _) hY4 (FQf_cls m2 P43_PAf P43_syt (by decide) ⟨rfl, rfl⟩ (by rw [Fr_I m2 rfl]; exact ⟨y3.2.2.2.1, y3.2.2.2.2.1⟩) y3), by decide⟩⟩
          · have y1' : fX2_want 8 u4 = some (0, u5) := y1
            rw [hop 1 u1 a1, if_neg (by decide), hwant, b2_s, if_neg (by decide), x1, b2_s, y1', b2_s, if_pos rfl]
            exact m1
          · show (bd (fX12_unary_j47 (zI ((kk + 5 : Nat) : Int)) v) fun w => fX12_formula_L0 (G + 1) 0 w) = _
            have y2' : fX12_must 7 v3 = some (0, v5) := y2
            rw [hr47, c2, b2_s, lt_e, hmust, b2_s, if_neg (by decide), y2', b2_s, if_pos rfl, bd_s]
            exact fm_flt G v5 hne.2.1
      · -- no variable
        obtain ⟨⟨m, q1⟩, q2, q3, q4, q5⟩ := c6
        have hk14 := c3.2.2.2.2.2.2.2.2.1
        have l3 := c3.2.2.1
        have l4 := c3.2.2.2.1
        obtain ⟨u3, v3, t1, t2, t3, t4, t5⟩ := fail_both 2 s2 (by decide) (by decide) (by omega) (by have := I_hi u2 1 2; omega) q1.2.2.1 q1.2.2.2.1
        have hFQ : FQf u2 u3 v2 v3 S := FQf_fail t3 t4 t5 q1.2.2.2.2.2.2.2.1 q2 (by omega)
        obtain ⟨u6, m1, m2⟩ := j221_flt grp u3 0
        refine ⟨u6, 0, ?_, Or.inr ⟨v3, 1, by omega, fun G => ?_, FQf_tr (Nat.le_refl _) hY2 (FQf_cls m2 P43_PAf P43_syt (by decide) ⟨rfl, rfl⟩ (by rw [Fr_I m2 rfl]; exact ⟨hFQ.2.2.2.1, hFQ.2.2.2.2.1⟩) hFQ), by decide⟩⟩
        · have hw3 : fX2_want 3 u1 = some (0, u3) := by
            unfold fX2_want; rw [c1, b2_s, if_neg (by rw [z_lit, z_eq (by omega) (by omega) (by decide) (by decide)]; omega), gI_z u2 1 2, l3, show (2 : Int32) = zI 2 from rfl, t1, bd_s]
          rw [hop 1 u1 a1, if_neg (by decide), hw3, b2_s, if_pos rfl]
          exact m1
        · show (bd (fX12_unary_j47 (zI ((kk + 5 : Nat) : Int)) v) fun w => fX12_formula_L0 (G + 1) 0 w) = _
          have hm2 : fX12_must 2 v2 = some (0, v3) := by
            unfold fX12_must; rw [(next_same c3 q1.2.2.1 q1.2.2.2.1).2, b2_s, if_neg (by rw [z_lit, z_eq (by omega) (by omega) (by decide) (by decide)]; omega), gI_z v2 100 26, l4, show (2 : Int32) = zI 2 from rfl, t2, bd_s]
          rw [hr47, c2, b2_s, lt_e, hm2, b2_s, if_pos rfl, bd_s]
          exact fm_flt G v3 (FLT_ne t3).2.1
    · have hne := FLT_ne c3.1
      obtain ⟨u6, m1, m2⟩ := j221_flt grp u2 0
      refine ⟨u6, 0, ?_, Or.inr ⟨v2, 1, by omega, fun G => ?_, FQf_tr (Nat.le_refl _) a5 (FQf_cls m2 P43_PAf P43_syt (by decide) ⟨rfl, rfl⟩ (by rw [Fr_I m2 rfl]; exact ⟨c3.2.2.2.1, c3.2.2.2.2.1⟩) c3), by decide⟩⟩
      · have hw3 : fX2_want 3 u1 = some (0, u2) := by
          unfold fX2_want; rw [c1, b2_s, if_neg (by decide), cfail_1 u2 _ _ hne.1, bd_s]
        rw [hop 1 u1 a1, if_neg (by decide), hw3, b2_s, if_pos rfl]
        exact m1
      · show (bd (fX12_unary_j47 (zI ((kk + 5 : Nat) : Int)) v) fun w => fX12_formula_L0 (G + 1) 0 w) = _
        have hm2 : fX12_must 2 v2 = some (0, v2) := must_flt v2 2 (by decide) hne.2.1
        rw [hr47, c2, b2_s, lt_e, hm2, b2_s, if_pos rfl, bd_s]
        exact fm_flt G v2 hne.2.1
  · refine ⟨u1, 0, by rw [hop 0 u1 a1, if_pos rfl]; rfl, Or.inr ⟨v1, 1, by omega, fun G => ?_, a3, by decide⟩⟩
    show (bd (fX12_unary_j47 (zI ((kk + 5 : Nat) : Int)) v) fun w => fX12_formula_L0 (G + 1) 0 w) = _
    unfold fX12_unary_j47
    rw [a2, b2_s, if_pos rfl, bd_s]
    exact fm_flt G v1 (FLT_ne a3.1).2.1
