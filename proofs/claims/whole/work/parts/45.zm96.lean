/-! reading: the loop of a chain -/
theorem nxl_le {lv : Nat} (hlv : lv ≤ 3) : nxl lv ≤ 4 ∧ 1 ≤ nxl lv ∧ nxl lv ≤ lv + 1 := by unfold nxl; by_cases h : lv = 1 <;> simp [h] <;> omega
theorem sgn_nxl1 : sgnm (nxl 1) = sgnm 1 := rfl
/-- sums of steps and signs, in a place of their own -/
theorem ar_1 {N0 sl t t0 Nr k t2 b s : Nat} (h1 : N0 + (sl + 2) ≤ 60 * (t - t0)) (h2 : Nr + k ≤ 60 * (t2 - b)) (h3 : t ≤ s) (h4 : s < b) (h5 : b < t2) (h6 : t0 < t) : N0 + 1 + Nr + 1 + (sl + 2) ≤ 60 * (t2 - t0) := by omega
theorem ar_2 {N0 sl t t0 s : Nat} (h1 : N0 + (sl + 2) ≤ 60 * (t - t0)) (h3 : t ≤ s) : N0 + 1 + sl ≤ 60 * (s - t0) := by omega
theorem ar_3 {N0 sl t t0 n : Nat} (h1 : N0 + (sl + 2) ≤ 60 * (t - t0)) (h3 : t ≤ n) (h4 : t0 < t) : N0 + 2 + sl ≤ 60 * (n - t0) + 100 := by omega
theorem ar_4 {N0 sl t t0 n Nr k b s : Nat} (h1 : N0 + (sl + 2) ≤ 60 * (t - t0)) (h2 : Nr + k ≤ 60 * (n - b) + 100) (h3 : t ≤ s) (h4 : s < b) (h5 : b ≤ n) (h6 : t0 < t) : N0 + 1 + Nr + sl ≤ 60 * (n - t0) + 100 := by omega
theorem ar_5 {Kc Kc' Kc0 t0 t b t2 s : Nat} (h1 : Kc + t0 ≤ Kc0 + t) (h2 : Kc' + b ≤ Kc + t2) (h3 : t ≤ s) (h4 : s < b) : Kc' + 1 + t0 ≤ Kc0 + t2 := by omega
theorem ar_6 {Kc Kc' t b t2 s : Nat} (h1 : Kc ≤ t) (h2 : Kc' + b ≤ Kc + t2) (h3 : t ≤ s) (h4 : s < b) : Kc' + 1 ≤ t2 := by omega
theorem ch_loop {grp : Nat → Int32 → St → Option (Int32 × St)} {n o lv : Nat} (hlv : lv ≤ 3) (hG : ∀ o', ((lv ≤ 1 ∧ o' = o + 1 ∧ o < 30) ∨ (2 ≤ lv ∧ o' = o)) → GC grp n o' (nxl lv)) {X : Nat → Option (Int32 × St)} {u0 v0 : St} {t0 S0 R0 NC0 NR0 : Nat} {B : Nat → Nat} {F0 : List Nat} {Kc0 Kr0 : Nat} {l : List (Int × Int)} {vs : List Nat} {sl : Nat} (hBo : ∀ x, B x ≤ o) (hl : l.length ≤ 10 * o + lv) (hvs : vs.length ≤ 10 * o + lv) (mm : Nat) : ∀ (Fu x3 t S R NC NR Kc Kr i j dd w g h q c e N0 : Nat) (u v : St) (F occ : List Nat), n - t ≤ mm → 5 * mm + 10 < Fu → x3 + 1 ≤ t → t0 < t → PFo u v n t S R NC NR o B F Kc Kr → TS v ((((3 * lv + 2 : Nat) : Int), 0) :: l) → VS v (j :: vs) → PY u0 u v0 v S0 R0 NC0 NR0 Kc0 Kr0 → S0 ≤ S → R0 ≤ R → NC0 ≤ NC → NR0 ≤ NR → Kc0 ≤ Kc → Kr0 ≤ Kr → Kc + t0 ≤ Kc0 + t → Kr + t0 ≤ Kr0 + t → IS u v S R NC NR Kc Kr0 Kr dd i j w g h q c occ → F = addF B F0 occ → BDf o (lvB lv) (t - t0) w g h q c e → N0 + (sl + 2) ≤ 60 * (t - t0) → (∀ G, X (G + N0) = fX12_formula_L0 G 0 v) → ∃ (u' : St) (r : Nat), fX2_chain_L0 grp Fu 0 (zI lv) (zI i) (zI x3) 0 0 0 u = some (zI r, u') ∧ FMx X u0 u' v0 r n t0 S0 R0 NC0 NR0 o B F0 Kc0 Kr0 l vs (lvB lv) (sgnm lv) sl := by
  have hs := sgn_rng lv hlv
  have hnl := nxl_le hlv
  induction mm with
  | zero =>
    intro Fu x3 t S R NC NR Kc Kr i j dd w g h q c e N0 u v F occ hmm hFu hx3 ht0 h1 h2 h3 h4 h5 h6 h7 h8 h9 h10 h11 h12 h13 h14 h15 h16 h17
    -- nothing is left to read: the look finds the end
    obtain ⟨p3, p4, p5, p6, p7, hn, htn, hRt, hSS, hNCt⟩ := PF_bits h1
    obtain ⟨Fu', rfl⟩ : ∃ Fu', Fu = Fu' + 1 := ⟨Fu - 1, by omega⟩
    obtain ⟨v1, f1, f2, f3⟩ := fm_pop ((3 * lv + 2 : Nat) : Int) 0 h2 (by omega) p4
    have g1 : PFo u v1 n t S R NC NR o B F Kc Kr := PF_fr (Fr_rfl (fun _ _ => false) u) f3 (fun _ _ _ => rfl) (fun k i hk => by simp; omega) h1
    have gY : PY u u v v1 S R NC NR Kc Kr := fr_PY (Fr_rfl (fun _ _ => false) u) f3 (fun _ _ hk => by simp at hk) (fun k i hk => by simp at hk; simp [QAf, Qts, hk]) (fun _ _ _ => rfl) (fun k i hk => by simp; omega)
    obtain ⟨u2, v2, hh⟩ := pf_next g1
    rcases hh with ⟨s, b, k, a1, a2, a3, a4, a5, a6, a7, a8⟩ | ⟨a1, a2, a3⟩
    · have hk : k ≠ sgnm lv := by
        intro hk
        have := a3.2.2.2.2.2.2.2.2.2.2.2.1 (by omega)
        have := a3.2.2.2.2.2.2.2.2.2.2.1
        omega
      have hk14 := a3.2.2.2.2.2.2.2.2.1
      refine ⟨u2, i, by rw [ch_c0 grp lv Fu' i x3 hlv (by omega) u u2 ((k + 1 : Nat) : Int) (by omega) (by omega) a1, if_neg (by omega)], Or.inl ⟨v2, N0 + 1, s, S, R, NC, NR, F, Kc, Kr, j, dd, w, g, h, q, c, e, occ, ar_2 h16 a5, fun G => ?_, a6, TS_fr a8 (fun _ => by simp [QA, QT]) (fun _ => by simp [QA, QT]) (by simp [QA, QT]) f2, VS_fr a8 (fun _ => by simp [QA, QT]) (by simp [QA, QT]) (VS_fr f3 (fun _ => by simp) (by simp) h3), PY_tr h5 h6 h7 h8 h9 h10 h4 (PY_tr (Nat.le_refl _) (Nat.le_refl _) (Nat.le_refl _) (Nat.le_refl _) (Nat.le_refl _) (Nat.le_refl _) gY a7), by omega, h5, h6, h7, h8, h9, h10, by omega, ?_, h14, BDf_ch (by omega) h15, fun _ => ⟨b, k, a3, hk⟩⟩⟩
      · rw [show G + (N0 + 1) = (G + 1) + N0 by omega, h17, f1, ch_r lv hlv _ v1 v2 _ a2, if_neg (by rw [z_eq (by omega) (by omega) (by omega) (by omega)]; omega), bd_s]
      · have hYt := PY_tr (Nat.le_refl S) (Nat.le_refl R) (Nat.le_refl NC) (Nat.le_refl NR) (Nat.le_refl Kc) (Nat.le_refl Kr) gY a7
        exact IS_mono (Nat.le_refl _) (Nat.le_refl _) (Nat.le_refl _) (Nat.le_refl _) (Nat.le_refl _) (Nat.le_refl _) (Nat.le_refl _) hYt.1 (fun k i hi hk => hYt.2.1 k i hi hk) (fun k i _ hi hk => hYt.2.2.1 k i hi hk) (fun i _ hi => hYt.2.2.2.1 i hi) dd _ _ _ _ _ _ _ _ h13
    · have hi := (IS_bits h13).1
      have hKct := h1.2.2.2.1
      refine ⟨u2, i, by rw [ch_c0 grp lv Fu' i x3 hlv (by omega) u u2 1 (by decide) (by decide) a1, if_neg (by omega)], Or.inr ⟨v2, N0 + 2, ar_3 h16 htn ht0, fun G => ?_, FQf_tr h5 h4 (FQf_tr (Nat.le_refl _) gY a3), by omega⟩⟩
      rw [show G + (N0 + 2) = (G + 1 + 1) + N0 by omega, h17, f1, ch_r lv hlv _ v1 v2 _ a2, if_neg (by rw [z_eq (by decide) (by decide) (by omega) (by omega)]; omega), bd_s]
      exact fm_flt G v2 (FLT_ne a3.1).2.1
  | succ mm ih =>
    intro Fu x3 t S R NC NR Kc Kr i j dd w g h q c e N0 u v F occ hmm hFu hx3 ht0 h1 h2 h3 h4 h5 h6 h7 h8 h9 h10 h11 h12 h13 h14 h15 h16 h17
    obtain ⟨p3, p4, p5, p6, p7, hn, htn, hRt, hSS, hNCt⟩ := PF_bits h1
    obtain ⟨Fu', rfl⟩ : ∃ Fu', Fu = Fu' + 5 := ⟨Fu - 5, by omega⟩
    obtain ⟨v1, f1, f2, f3⟩ := fm_pop ((3 * lv + 2 : Nat) : Int) 0 h2 (by omega) p4
    have g1 : PFo u v1 n t S R NC NR o B F Kc Kr := PF_fr (Fr_rfl (fun _ _ => false) u) f3 (fun _ _ _ => rfl) (fun k i hk => by simp; omega) h1
    have gY : PY u u v v1 S R NC NR Kc Kr := fr_PY (Fr_rfl (fun _ _ => false) u) f3 (fun _ _ hk => by simp at hk) (fun k i hk => by simp at hk; simp [QAf, Qts, hk]) (fun _ _ _ => rfl) (fun k i hk => by simp; omega)
    have hi := (IS_bits h13).1
    have hKct := h1.2.2.2.1
    have hKrt := h1.2.2.2.2
    obtain ⟨u2, v2, hh⟩ := pf_next g1
    rcases hh with ⟨s, b, k, a1, a2, a3, a4, a5, a6, a7, a8⟩ | ⟨a1, a2, a3⟩
    · have hk14 := a3.2.2.2.2.2.2.2.2.1
      have hYt : PY u u2 v v2 S R NC NR Kc Kr := PY_tr (Nat.le_refl _) (Nat.le_refl _) (Nat.le_refl _) (Nat.le_refl _) (Nat.le_refl _) (Nat.le_refl _) gY a7
      have hT2 : TS v2 l := TS_fr a8 (fun _ => by simp [QA, QT]) (fun _ => by simp [QA, QT]) (by simp [QA, QT]) f2
      have hV2 : VS v2 (j :: vs) := VS_fr a8 (fun _ => by simp [QA, QT]) (by simp [QA, QT]) (VS_fr f3 (fun _ => by simp) (by simp) h3)
      have hIS2 : IS u2 v2 S R NC NR Kc Kr0 Kr dd i j w g h q c occ := IS_mono (Nat.le_refl _) (Nat.le_refl _) (Nat.le_refl _) (Nat.le_refl _) (Nat.le_refl _) (Nat.le_refl _) (Nat.le_refl _) hYt.1 (fun k i hi hk => hYt.2.1 k i hi hk) (fun k i _ hi hk => hYt.2.2.1 k i hi hk) (fun i _ hi => hYt.2.2.2.1 i hi) dd _ _ _ _ _ _ _ _ h13
      have hY02 : PY u0 u2 v0 v2 S0 R0 NC0 NR0 Kc0 Kr0 := PY_tr h5 h6 h7 h8 h9 h10 h4 hYt
      by_cases hk : k = sgnm lv
      · subst hk
        have hx15 : x3 < 1500 := by omega
        have hc0 : fX2_chain_L0 grp (Fu' + 5) 0 (zI lv) (zI i) (zI x3) 0 0 0 u = fX2_chain_L0 grp (Fu' + 4) 1 (zI lv) (zI i) (zI x3) 0 0 (if 1 < lv then 0 else 1) u2 := by
          rw [ch_c0 grp lv (Fu' + 4) i x3 hlv hx15 u u2 ((sgnm lv + 1 : Nat) : Int) (by omega) (by omega) a1, if_pos rfl]
        rw [hc0]
        rcases ch_sign hlv a6 a3 hT2 hV2 (by omega) with ⟨u3, v5, o', s1, s2, s3, s4, s5, s6, s7, s8, s9⟩ | ⟨u3, v5, s1, s2, s3, s4⟩
        · -- the right part
          have ho' : o ≤ o' ∧ o' ≤ 30 := by rcases s1 with hh | hh <;> omega
          have hbB : ∀ x, B x ≤ o' := fun x => Nat.le_trans (hBo x) ho'.1
          have hlen1 : ((((rjn lv : Nat) : Int), (0 : Int)) :: l).length ≤ 10 * o' + nxl lv := by
            simp only [List.length_cons]
            rcases s1 with hh | ⟨hh, hh2⟩
            · omega
            · have : nxl lv = lv + 1 := by unfold nxl; rw [if_neg (by omega)]
              omega
          have hlen2 : (j :: vs).length ≤ 10 * o' + nxl lv := by
            simp only [List.length_cons]
            rcases s1 with hh | ⟨hh, hh2⟩
            · omega
            · have : nxl lv = lv + 1 := by unfold nxl; rw [if_neg (by omega)]
              omega
          obtain ⟨u6, r6, g1', g2⟩ := hG o' s1 u3 v5 b S R NC NR B F Kc Kr ((((rjn lv : Nat) : Int), 0) :: l) (j :: vs) s4 hbB s5 s6 hlen1 hlen2
          rw [ch_c1 grp lv (Fu' + 1) i x3 hlv u2 u3 s2, g1', b2_s]
          have hstep : ∀ G, X (G + (N0 + 1)) = fX12_formula_L0 G 0 v5 := by
            intro G
            rw [show G + (N0 + 1) = (G + 1) + N0 by omega, h17, f1, ch_r lv hlv _ v1 v2 _ a2, if_pos rfl, s3, bd_s]
          have hY05 : PY u0 u3 v0 v5 S0 R0 NC0 NR0 Kc0 Kr0 := PY_tr h5 h6 h7 h8 h9 h10 hY02 s7
          rcases g2 with ⟨v7, Nr, t2, S', R', NC', NR', F', Kc', Kr', j2, dd2, w2, g2', h2', q2, c2, e2, occ2, d1, d2, d3, d4, d5, d6, d7, d8, d9, d10, d11, d12, d13, d13b, d14, d15, d16, d17⟩ | ⟨v7, Nr, d1, d2, d3, d4⟩
          · have d2' : ∀ G, fX12_formula_L0 (G + Nr) 0 v5 = fX12_formula_L0 G 0 v7 := d2
            have t2n := (PF_bits d3).2.2.2.2.2.2.1
            have hISl : IS u6 v7 S' R' NC' NR' Kc' Kr0 Kr' dd i j w g h q c occ := by
              have hY27 : PY u2 u6 v2 v7 S R NC NR Kc Kr := PY_tr (Nat.le_refl _) (Nat.le_refl _) (Nat.le_refl _) (Nat.le_refl _) (Nat.le_refl _) (Nat.le_refl _) s7 d6
              exact IS_mono d8 d9 d10 d11 d12 (Nat.le_refl _) d13 hY27.1 (fun k i hi hk => hY27.2.1 k i hi hk) (fun k i _ hi hk => hY27.2.2.1 k i hi hk) (fun i _ hi => hY27.2.2.2.1 i hi) dd _ _ _ _ _ _ _ _ hIS2
            have hISr : IS u6 v7 S' R' NC' NR' Kc' Kr0 Kr' dd2 r6 j2 w2 g2' h2' q2 c2 occ2 := IS_mono (Nat.le_refl _) (Nat.le_refl _) (Nat.le_refl _) (Nat.le_refl _) (Nat.le_refl _) h10 (Nat.le_refl _) (PZ_rfl u6 v7 S' R' NC' NR') (fun _ _ _ _ => rfl) (fun _ _ _ _ _ => rfl) (fun _ _ _ => rfl) dd2 _ _ _ _ _ _ _ _ d14
            have hKK1 : Kc' + 1 ≤ t2 := ar_6 (Nat.le_trans hKct (Nat.le_refl _)) d13b.1 a5 s8
            have hKK2 : Kr' + 1 ≤ t2 := ar_6 hKrt d13b.2 a5 s8
            have hl1000 : l.length < 1000 := by clear d16 h15; omega
            have hv1000 : vs.length < 1000 := by clear d16 h15; omega
            obtain ⟨u8, v8, m1, m2, m3, m4, m5, m6, m7, m75, m8⟩ := mk_join hlv s1 d3 d4 d5 hISl hISr hKK1 hKK2 (Nat.le_trans h10 d13) hl1000 hv1000
            have hcl : fX2_chain_L0 grp (Fu' + 1) 4 (zI lv) (zI i) (zI x3) 0 (zI r6) 0 (if lv ≤ 1 then uI u6 4 3 (gI u6 4 3 - 1) else u6) = fX2_chain_L0 grp Fu' 0 (zI lv) (zI Kc') (zI ((x3 + 1 : Nat) : Int)) 0 0 0 u8 := by
              have he : (if lv ≤ 1 then uI u6 4 3 (gI u6 4 3 - 1) else u6) = (if lv ≤ 1 then uI u6 4 3 (zI o) else u6) := by
                by_cases hh : lv ≤ 1
                · rw [if_pos hh, if_pos hh, m2 hh]
                · rw [if_neg hh, if_neg hh]
              rw [he, ch_c4 grp lv Fu' i x3 hlv, m1, b2_s]
            rw [hcl]
            have hY68 : PY u0 u8 v0 v8 S0 R0 NC0 NR0 Kc0 Kr0 := PY_tr (Nat.le_trans h5 d8) (Nat.le_trans h6 d9) (Nat.le_trans h7 d10) (Nat.le_trans h8 d11) (Nat.le_trans h9 d12) (Nat.le_trans h10 d13) (PY_tr h5 h6 h7 h8 h9 h10 hY05 d6) m7
            have hF8 : F' = addF B F0 (occ ++ occ2) := by rw [d15, h14, addF_app]
            have hBD : BDf o (lvB lv) (t2 - t0) (wJ lv w w2) (gJn lv g g2') (hJn lv h h2') (max q q2) (cJn lv c c2) (eJn lv e e2) := BDf_join hlv s1 p7 ht0 (Nat.lt_of_le_of_lt a5 s8) d7 h15 d16
            have hX8 : ∀ G, X (G + (N0 + 1 + Nr + 1)) = fX12_formula_L0 G 0 v8 := fun G => by rw [show G + (N0 + 1 + Nr + 1) = (G + 1 + Nr) + (N0 + 1) by omega, hstep, d2', m3]
            have hN8 : N0 + 1 + Nr + 1 + (sl + 2) ≤ 60 * (t2 - t0) := ar_1 h16 d1 a5 s8 d7 ht0
            by_cases hl1 : lv = 1
            · -- the chain's other parts were all taken by the right part
              subst hl1
              obtain ⟨b9, k9, hL9, hk9⟩ := d17 (by decide)
              rw [if_pos rfl] at m5
              have hk9' : k9 ≤ 14 := hL9.2.2.2.2.2.2.2.2.1
              obtain ⟨Fq, rfl⟩ : ∃ Fq, Fu' = Fq + 1 := ⟨Fu' - 1, by clear d16 h15 hBD; omega⟩
              have hb8 := PF_bits m4
              have hL8 : TLs u8 v8 n t2 b9 k9 := TLs_fr m75.1 m75.2 (fun i => Pn1_no 1 i (by simp)) (fun i => Pn1_no 14 i (by simp)) (fun i hi => Qj_no 100 i (by omega)) hL9
              have hx8 : x3 + 1 < 1500 := by clear d16 h15 hBD; omega
              have hk9s : k9 ≠ sgnm 1 := hk9
              refine ⟨u8, Kc', by rw [ch_c0 grp 1 Fq Kc' (x3 + 1) (by decide) hx8 u8 u8 ((k9 + 1 : Nat) : Int) (by clear d16 h15 hBD; omega) (by clear d16 h15 hBD; omega) (next_same hL8 hb8.1 hb8.2.1).1, if_neg (by clear d16 h15 hBD; omega)], Or.inl ⟨v8, N0 + 1 + Nr + 1, t2, S', R', NC', NR', F', Kc' + 1, Kr' + 1, Kr', _, _, _, _, _, _, _, _, Nat.le_trans (by clear d16 h15 hBD; omega) hN8, hX8, m4, m5, m6, hY68, by clear d16 h15 hBD; omega, Nat.le_trans h5 d8, Nat.le_trans h6 d9, Nat.le_trans h7 d10, Nat.le_trans h8 d11, Nat.le_succ_of_le (Nat.le_trans h9 d12), Nat.le_succ_of_le (Nat.le_trans h10 d13), ⟨ar_5 h11 d13b.1 a5 s8, ar_5 h12 d13b.2 a5 s8⟩, m8, hF8, hBD, fun _ => ⟨b9, k9, hL8, hk9s⟩⟩⟩
            · rw [if_neg hl1] at m5
              exact ih Fu' (x3 + 1) t2 S' R' NC' NR' (Kc' + 1) (Kr' + 1) Kc' Kr' _ _ _ _ _ _ _ _ u8 v8 F' _ (by clear d16 h15 hBD; omega) (by clear d16 h15 hBD; omega) (by clear d16 h15 hBD; omega) (by clear d16 h15 hBD; omega) m4 m5 m6 hY68 (Nat.le_trans h5 d8) (Nat.le_trans h6 d9) (Nat.le_trans h7 d10) (Nat.le_trans h8 d11) (Nat.le_succ_of_le (Nat.le_trans h9 d12)) (Nat.le_succ_of_le (Nat.le_trans h10 d13)) (ar_5 h11 d13b.1 a5 s8) (ar_5 h12 d13b.2 a5 s8) m8 hF8 hBD hN8 hX8
          · -- a fault in the right part
            have hne := FLT_ne d3.1
            obtain ⟨ua, hua⟩ : ∃ ua, (if lv ≤ 1 then uI u6 4 3 (gI u6 4 3 - 1) else u6) = ua := ⟨_, rfl⟩
            have Fa : Fr (fun k i => k == 4 && i == 3) u6 ua := by
              rw [← hua]; by_cases hh : lv ≤ 1
              · rw [if_pos hh]; exact Fr_up rfl (Fr_rfl _ _)
              · rw [if_neg hh]; exact Fr_rfl _ _
            obtain ⟨u7, r7, n1, n2, n3, n4, n5⟩ := cnode_flt ua (kdc lv) (zI i) (zI r6) i r6 (Or.inr (Or.inr (Or.inl ⟨by unfold kdc; omega, rfl, by omega, rfl, d4⟩))) (by rw [Fr_I Fa rfl]; exact d3.2.2.2.1) (by rw [Fr_I Fa rfl]; exact d3.2.2.2.2.1)
            have F67 : Fr Pn1 u6 u7 := Fr_tr (Fr_up2 (fun k i hk => by simp at hk; simp [Pn1, hk]) Fa) (Fr_up2 (fun k i hk => by simp [Pn1, hk]) n5)
            have hf7 : I u7 4 4 ≠ 0 := by rw [Fr_I F67 (Pn1_no 4 4 (by simp))]; exact hne.1
            obtain ⟨Fq, rfl⟩ : ∃ Fq, Fu' = Fq + 1 := ⟨Fu' - 1, by omega⟩
            refine ⟨u7, r7, ?_, Or.inr ⟨v7, N0 + 1 + Nr, ar_4 h16 d1 a5 s8 s9 ht0, fun G => ?_, FQf_tr h5 hY05 (FQf_cls F67 Pn1_PAf (fun k i hk => Pn1_no k i (by omega)) (Pn1_no 2 3 (by simp)) ⟨Pn1_no 4 4 (by simp), rfl⟩ ⟨n3, n4⟩ d3), n2⟩⟩
            · rw [hua, ch_c4 grp lv (Fq + 1) i x3 hlv, n1, b2_s, ch_flt grp lv Fq r7 (x3 + 1) hlv (by omega) u7 hf7]
            · rw [show G + (N0 + 1 + Nr) = (G + Nr) + (N0 + 1) by omega, hstep]; exact d2 G
        · refine ⟨u3, i, ?_, Or.inr ⟨v5, N0 + 2, ar_3 h16 htn ht0, fun G => ?_, FQf_tr h5 hY02 s4, by omega⟩⟩
          · have sx : ∀ s0 w, fX2_chain_L0 grp (Fu' + 4) 1 (zI lv) (zI i) (zI x3) 0 0 s0 w = fX2_chain_L0_1 grp (fX2_chain_L0 grp (Fu' + 3)) (zI lv) (zI i) (zI x3) s0 w := fun _ _ => rfl
            rw [sx, if_neg (by omega)]
            unfold fX2_chain_L0_1
            rw [if_neg (by decide), s2, b2_s, if_pos rfl]
          · rw [show G + (N0 + 2) = (G + 1 + 1) + N0 by omega, h17, f1, ch_r lv hlv _ v1 v2 _ a2, if_pos rfl, if_pos s1, s3, b2_s, if_pos rfl, bd_s]
            exact fm_flt G v5 (FLT_ne s4.1).2.1
      · -- the chain ends
        refine ⟨u2, i, by rw [ch_c0 grp lv (Fu' + 4) i x3 hlv (by omega) u u2 ((k + 1 : Nat) : Int) (by omega) (by omega) a1, if_neg (by omega)], Or.inl ⟨v2, N0 + 1, s, S, R, NC, NR, F, Kc, Kr, j, dd, w, g, h, q, c, e, occ, ar_2 h16 a5, fun G => ?_, a6, hT2, hV2, hY02, by omega, h5, h6, h7, h8, h9, h10, by omega, hIS2, h14, BDf_ch (by omega) h15, fun _ => ⟨b, k, a3, hk⟩⟩⟩
        rw [show G + (N0 + 1) = (G + 1) + N0 by omega, h17, f1, ch_r lv hlv _ v1 v2 _ a2, if_neg (by rw [z_eq (by omega) (by omega) (by omega) (by omega)]; omega), bd_s]
    · refine ⟨u2, i, by rw [ch_c0 grp lv (Fu' + 4) i x3 hlv (by omega) u u2 1 (by decide) (by decide) a1, if_neg (by omega)], Or.inr ⟨v2, N0 + 2, ar_3 h16 htn ht0, fun G => ?_, FQf_tr h5 h4 (FQf_tr (Nat.le_refl _) gY a3), by omega⟩⟩
      rw [show G + (N0 + 2) = (G + 1 + 1) + N0 by omega, h17, f1, ch_r lv hlv _ v1 v2 _ a2, if_neg (by rw [z_eq (by decide) (by decide) (by omega) (by omega)]; omega), bd_s]
      exact fm_flt G v2 (FLT_ne a3.1).2.1
