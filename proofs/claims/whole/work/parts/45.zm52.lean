/-! the calls clear, clause, octet, feed; the start -/
theorem SB_clear {n : Nat} : StepBoth fX11_clear fX12_clear (Re n) (Re (n + 1)) := by
  intro u v h
  obtain ⟨h1, h2, h3, C, fi, ps, nv, c, e, S, F, g1, g2, g3, g4, g5, g6, g7, g8, g9, g10, g11⟩ := h
  have Fa : Fr (fun k i => (k == 2 && (i == 5 || i == 3 || i == 4)) || (k == 9 && (i == 13 || i == 14 || i == 15))) u (uI (uI (uI (uI (uI (uI u 2 5 (zI 0)) 2 3 (zI 0)) 2 4 (zI 0)) 9 13 (zI 0)) 9 14 (zI 0)) 9 15 (zI 0)) := Fr_up rfl (Fr_up rfl (Fr_up rfl (Fr_up rfl (Fr_up rfl (Fr_up rfl (Fr_rfl _ _))))))
  have c25 : I (uI (uI (uI (uI (uI (uI u 2 5 (zI 0)) 2 3 (zI 0)) 2 4 (zI 0)) 9 13 (zI 0)) 9 14 (zI 0)) 9 15 (zI 0)) 2 5 = 0 := by simp (disch := omega) only [I_uI1, I_uI2]
  have c23 : I (uI (uI (uI (uI (uI (uI u 2 5 (zI 0)) 2 3 (zI 0)) 2 4 (zI 0)) 9 13 (zI 0)) 9 14 (zI 0)) 9 15 (zI 0)) 2 3 = 0 := by simp (disch := omega) only [I_uI1, I_uI2]
  have c24 : I (uI (uI (uI (uI (uI (uI u 2 5 (zI 0)) 2 3 (zI 0)) 2 4 (zI 0)) 9 13 (zI 0)) 9 14 (zI 0)) 9 15 (zI 0)) 2 4 = 0 := by simp (disch := omega) only [I_uI1, I_uI2]
  have c913 : I (uI (uI (uI (uI (uI (uI u 2 5 (zI 0)) 2 3 (zI 0)) 2 4 (zI 0)) 9 13 (zI 0)) 9 14 (zI 0)) 9 15 (zI 0)) 9 13 = 0 := by simp (disch := omega) only [I_uI1, I_uI2]
  have c914 : I (uI (uI (uI (uI (uI (uI u 2 5 (zI 0)) 2 3 (zI 0)) 2 4 (zI 0)) 9 13 (zI 0)) 9 14 (zI 0)) 9 15 (zI 0)) 9 14 = 0 := by simp (disch := omega) only [I_uI1, I_uI2]
  have c915 : I (uI (uI (uI (uI (uI (uI u 2 5 (zI 0)) 2 3 (zI 0)) 2 4 (zI 0)) 9 13 (zI 0)) 9 14 (zI 0)) 9 15 (zI 0)) 9 15 = 0 := by simp (disch := omega) only [I_uI1, I_uI2]
  have hcls : fX11_clear u = some (zI C, uI (uI (uI (uI (uI (uI u 2 5 (zI 0)) 2 3 (zI 0)) 2 4 (zI 0)) 9 13 (zI 0)) 9 14 (zI 0)) 9 15 (zI 0)) := by
    unfold fX11_clear fX4_takeBack fX3_forget
    rw [lt_e, lt_e, lt_e, lt_e, bd_s, lt_e, lt_e, lt_e, bd_s, gI_z, g1.2.1]; rfl
  generalize hua : uI (uI (uI (uI (uI (uI u 2 5 (zI 0)) 2 3 (zI 0)) 2 4 (zI 0)) 9 13 (zI 0)) 9 14 (zI 0)) 9 15 (zI 0) = ua at *
  have Fb : Fr (fun k i => k == 100 && (i == 0 || i == 10 || i == 14 || i == 17 || i == 3 || i == 7 || i == 101 || i == 103 || i == 105)) v (uI (uI (uI (uI (uI (uI (uI (uI (uI v 100 0 (zI 0)) 100 10 (zI 0)) 100 14 (zI 0)) 100 17 (zI 0)) 100 3 (zI 0)) 100 7 (zI 0)) 100 101 (zI 0)) 100 103 (zI 0)) 100 105 (zI 0)) := Fr_up rfl (Fr_up rfl (Fr_up rfl (Fr_up rfl (Fr_up rfl (Fr_up rfl (Fr_up rfl (Fr_up rfl (Fr_up rfl (Fr_rfl _ _)))))))))
  have dall : ∀ i, (i = 10 ∨ i = 14 ∨ i = 17 ∨ i = 3 ∨ i = 7 ∨ i = 101 ∨ i = 103 ∨ i = 105) → I (uI (uI (uI (uI (uI (uI (uI (uI (uI v 100 0 (zI 0)) 100 10 (zI 0)) 100 14 (zI 0)) 100 17 (zI 0)) 100 3 (zI 0)) 100 7 (zI 0)) 100 101 (zI 0)) 100 103 (zI 0)) 100 105 (zI 0)) 100 i = 0 := by
    intro i hi
    rcases hi with h | h | h | h | h | h | h | h <;> subst h <;> simp (disch := omega) only [I_uI1, I_uI2]
  have href : fX12_clear v = some (zI C, uI (uI (uI (uI (uI (uI (uI (uI (uI v 100 0 (zI 0)) 100 10 (zI 0)) 100 14 (zI 0)) 100 17 (zI 0)) 100 3 (zI 0)) 100 7 (zI 0)) 100 101 (zI 0)) 100 103 (zI 0)) 100 105 (zI 0)) := by
    unfold fX12_clear fX12_forget
    have e10 : gI (uI v 100 0 0) 100 10 = zI C := by rw [show (0 : Int32) = zI 0 from rfl, gI_z, I_uI2 _ _ _ _ _ _ (by omega), g1.2.2.1]
    rw [lt_e, e10, lt_e, lt_e, lt_e, lt_e, lt_e, lt_e, lt_e, lt_e, lt_e, bd_s]; rfl
  generalize hva : uI (uI (uI (uI (uI (uI (uI (uI (uI v 100 0 (zI 0)) 100 10 (zI 0)) 100 14 (zI 0)) 100 17 (zI 0)) 100 3 (zI 0)) 100 7 (zI 0)) 100 101 (zI 0)) 100 103 (zI 0)) 100 105 (zI 0) = va at *
  obtain ⟨T, hT⟩ := FO_BCs g2
  have hfi := g1.2.2.2.1
  have hps := g1.2.2.2.2.1
  refine ⟨zI C, ua, va, hcls, href, TXr_fr Fa Fb rfl (fun _ => rfl) rfl (fun _ => rfl) h1, PLr_fr Fa Fb rfl rfl rfl h2, PGr_fr Fa Fb rfl rfl rfl (fun _ => rfl) (fun _ => rfl) rfl (fun _ => rfl) h3, 0, fi, ps, nv, c, e, 0, 0, ?_, ⟨by rw [c913, dall 101 (by simp)], by rw [c914, dall 103 (by simp)], by rw [c915, dall 105 (by simp)], Or.inl ⟨c915, T, BCs_fr Fa (fun _ => rfl) (fun _ => rfl) rfl (fun _ => rfl) hT⟩⟩, c23, dall 3 (by simp), by omega, c24, dall 7 (by simp), by omega, fun i hi => by omega, ?_, fun k hk => by omega⟩
  · refine ⟨by omega, c25, dall 10 (by simp), hfi, hps, ?_, fun k hk => by omega, ?_, fun k l hk => by omega, ?_, ?_, ?_, ?_, ?_⟩
    · intro k hk
      rw [Fr_I Fa rfl]; exact g1.2.2.2.2.2.1 k (by omega)
    · intro l hl
      rw [Fr_I Fa rfl]; exact g1.2.2.2.2.2.2.2.1 l (by omega)
    · rw [dall 14 (by simp), hfi]; rfl
    · rw [dall 17 (by simp), hfi, hps]; rfl
    · intro p hp; rw [hfi, hps] at hp; omega
    · refine ⟨by rw [hfi, hps]; omega, fun p hp => ?_, fun p q hp => ?_⟩
      · rw [hfi, hps] at hp; omega
      · rw [hfi, hps] at hp; omega
    · intro p hp; rw [hfi, hps] at hp; omega
  · intro p hp; rw [hfi, hps] at hp; omega
theorem cl_loop {u v : St} {C : Nat} {fi ps : Nat → Nat} {nv c : Nat → Int} {e : Nat → Nat} (hS : SR u v C fi ps nv c e) (k : Nat) (hk : k < C) (a1 : Int32) (m : Nat) : ∀ (F l : Nat), l + m = fi (k + 1) → fi k ≤ l → m < F → fX12_clause_L0 F 0 (zI k) a1 (zI ((ps l : Int) - ps (fi k))) (zI l) v = if a1 = 0 then some (zI ((fi (k + 1) : Int) - fi k), v) else if a1 = 1 then some (zI (nv k), v) else some (zI ((ps (fi (k + 1)) : Int) - ps (fi k)), v) := by
  have hC := hS.1
  have hff := SR_fi hS
  obtain ⟨k1, k2, k3, k4, k5, k6, k7, k8, k9⟩ := hS.2.2.2.2.2.2.1 k hk
  have hfc := hff.1 C (Nat.le_refl _) (k + 1) (by omega)
  have hpm := SR_ps hS
  have hRT := hS.2.2.2.2.2.2.2.2.2.2.2.2.1
  induction m with
  | zero =>
    intro F l hl hl2 hF
    obtain ⟨G, rfl⟩ : ∃ G, F = G + 1 := ⟨F - 1, by omega⟩
    have hll : l = fi (k + 1) := by omega
    subst hll
    have st : fX12_clause_L0 (G + 1) 0 (zI k) a1 (zI ((ps (fi (k + 1)) : Int) - ps (fi k))) (zI (fi (k + 1))) v = fX12_clause_L0_0 (fX12_clause_L0 G) (zI k) a1 (zI ((ps (fi (k + 1)) : Int) - ps (fi k))) (zI (fi (k + 1))) v := rfl
    rw [st]
    unfold fX12_clause_L0_0
    rw [ld_z _ _ _ _ (by omega) (by omega), bd_s, ld_z _ _ _ _ (by omega) (by omega), bd_s, Int.toNat_natCast, k1, k2, z_add, if_pos (by rw [z_le (by omega) (by omega) (by omega) (by omega)]; omega), bd_s, ld_z _ _ _ _ (by omega) (by omega), bd_s, Int.toNat_natCast, k6]
  | succ m ih =>
    intro F l hl hl2 hF
    obtain ⟨G, rfl⟩ : ∃ G, F = G + 1 := ⟨F - 1, by omega⟩
    have hlC : l < fi C := by omega
    have lit := SR_lit hS hlC
    obtain ⟨m1, m2, m3, m4, m5, m6, m7, m8⟩ := hS.2.2.2.2.2.2.2.2.1 k l hk hl2 (by omega)
    have st : fX12_clause_L0 (G + 1) 0 (zI k) a1 (zI ((ps l : Int) - ps (fi k))) (zI l) v = fX12_clause_L0_0 (fX12_clause_L0 G) (zI k) a1 (zI ((ps l : Int) - ps (fi k))) (zI l) v := rfl
    have hend : fX12_endOf (zI l) v = some (zI (ps (l + 1)), v) := by
      unfold fX12_endOf
      rw [ld_z _ _ _ _ (by omega) (by omega), bd_s, Int.toNat_natCast, m2, ld_z _ _ _ _ (by omega) (by omega), bd_s, Int.toNat_natCast, (hRT.2.1 _ lit.2.2.2.2.2.1).2.2.2, m7]
    have hih := ih G (l + 1) (by omega) (by omega) (by omega)
    rw [st, ← hih]
    generalize fX12_clause_L0 G = R
    unfold fX12_clause_L0_0
    rw [ld_z _ _ _ _ (by omega) (by omega), bd_s, ld_z _ _ _ _ (by omega) (by omega), bd_s, Int.toNat_natCast, k1, k2, z_add, if_neg (by rw [z_le (by omega) (by omega) (by omega) (by omega)]; omega), hend, b2_s, ld_z _ _ _ _ (by omega) (by omega), bd_s, Int.toNat_natCast, m2, lt_e, lt_e, z_sub, z_add, show (1 : Int32) = zI 1 from rfl, z_add, show (l : Int) + 1 = ((l + 1 : Nat) : Int) by omega, show (ps l : Int) - ps (fi k) + ((ps (l + 1) : Int) - ps l) = (ps (l + 1) : Int) - ps (fi k) by omega]
theorem SB_clause {n : Nat} (a0 a1 : Int32) : StepBoth (fX11_clause a0 a1) (fX12_clause a0 a1) (Re n) (Re (n + 1)) := by
  intro u v h
  have hR := Re_0 h
  obtain ⟨C, fi, ps, nv, c, e, S, F, g1, _⟩ := h.2.2.2
  obtain ⟨x, hx, hx1, hx2⟩ : ∃ x : Int, a0 = zI x ∧ -2147483648 ≤ x ∧ x < 2147483648 := ⟨a0.toInt, z_id a0, Int32.le_toInt _, Int32.toInt_lt _⟩
  obtain ⟨y, hy, hy1, hy2⟩ : ∃ y : Int, a1 = zI y ∧ -2147483648 ≤ y ∧ y < 2147483648 := ⟨a1.toInt, z_id a1, Int32.le_toInt _, Int32.toInt_lt _⟩
  subst hx; subst hy
  have hS0 : SR u (uI v 100 0 (zI 0)) C fi ps nv c e := SR_x (Fr_rfl _ _) PRx_0 g1
  have hC := g1.1
  have hin1 := in_spec x 0 ((C : Int) - 1) (uI v 100 0 (zI 0)) hx1 hx2 (by decide) (by decide) (by omega) (by omega)
  have hin2 := in_spec y 0 2 (uI v 100 0 (zI 0)) hy1 hy2 (by decide) (by decide) (by decide) (by decide)
  have hhas : fX4_has (zI x) u = some (zI (if 0 ≤ x ∧ x ≤ (C : Int) - 1 then 1 else 0), u) := by
    unfold fX4_has
    by_cases d : x < 0
    · rw [if_pos (by rw [z_zero, z_lt hx1 hx2 (by decide) (by decide)]; exact d), if_neg (by omega)]; rfl
    · rw [if_neg (by rw [z_zero, z_lt hx1 hx2 (by decide) (by decide)]; exact d), gI_z, g1.2.1]
      by_cases d2 : (C : Int) ≤ x
      · rw [if_pos (by rw [z_le (by omega) (by omega) hx1 hx2]; exact d2), if_neg (by omega)]; rfl
      · rw [if_neg (by rw [z_le (by omega) (by omega) hx1 hx2]; exact d2), if_pos (by omega)]; rfl
  have e10 : gI (uI v 100 0 (zI 0)) 100 10 - zI 1 = zI ((C : Int) - 1) := by rw [gI_z, I_uI2 _ _ _ _ _ _ (by omega), g1.2.2.1, z_sub]
  by_cases c1 : 0 ≤ x ∧ x ≤ (C : Int) - 1
  · rw [if_pos c1] at hin1 hhas
    obtain ⟨k, hkk⟩ : ∃ k : Nat, x = k := ⟨x.toNat, by omega⟩
    subst hkk
    have hk : k < C := by omega
    have hff := SR_fi g1
    obtain ⟨k1, k2, k3, k4, k5, k6, k7, k8, k9⟩ := hS0.2.2.2.2.2.2.1 k hk
    have h18 := g1.2.2.2.2.2.1 k (by omega)
    have h18' := g1.2.2.2.2.2.1 (k + 1) (by omega)
    have hfc := hff.1 C (Nat.le_refl _) (k + 1) (by omega)
    have h29 := g1.2.2.2.2.2.2.2.1 (fi k) (by omega)
    have h29' := g1.2.2.2.2.2.2.2.1 (fi (k + 1)) (by omega)
    by_cases c2 : 0 ≤ y ∧ y ≤ 2
    · rw [if_pos c2] at hin2
      have hcl := cl_loop hS0 k hk (zI y) (fi (k + 1) - fi k) FU (fi k) (by omega) (Nat.le_refl _) (by unfold FU; omega)
      rw [show ((ps (fi k) : Int) - ps (fi k)) = 0 by omega] at hcl
      refine ⟨(if zI y = 0 then zI ((fi (k + 1) : Int) - fi k) else if zI y = 1 then zI (nv k) else zI ((ps (fi (k + 1)) : Int) - ps (fi k))), u, _, ?_, ?_, hR⟩
      · unfold fX11_clause
        rw [hhas, b2_s, if_neg (by decide), ld_z _ _ _ _ (by omega) (by omega), bd_s, Int.toNat_natCast, h18, show (1 : Int32) = zI 1 from rfl, z_add, ld_z _ _ _ _ (by omega) (by omega), bd_s, show ((k : Int) + 1).toNat = k + 1 by omega, h18']
        by_cases d0 : zI y = 0
        · rw [if_pos d0, if_pos d0, z_sub]
        · rw [if_neg d0, if_neg d0]
          by_cases d1 : zI y = zI 1
          · rw [if_pos d1, if_pos d1, ld_z _ _ _ _ (by omega) (by omega), bd_s, Int.toNat_natCast, k5]
          · rw [if_neg d1, if_neg d1]
            have d2 : zI y = 2 := by
              rw [show (2 : Int32) = zI 2 from rfl]
              rw [z_zero, z_eq (by omega) (by omega) (by decide) (by decide)] at d0
              rw [z_eq (by omega) (by omega) (by decide) (by decide)] at d1
              have : y = 2 := by omega
              rw [this]
            rw [if_pos d2, ld_z _ _ _ _ (by omega) (by omega), bd_s, ld_z _ _ _ _ (by omega) (by omega), bd_s, Int.toNat_natCast, Int.toNat_natCast, h29, h29', z_sub]
      · unfold fX12_clause
        rw [lt_e, show (0 : Int32) = zI 0 from rfl, show (1 : Int32) = zI 1 from rfl, e10, hin1, b2_s, if_neg (by decide), show (2 : Int32) = zI 2 from rfl, hin2, b2_s, if_neg (by decide), lt_e, ld_z _ _ _ _ (by omega) (by omega), bd_s, Int.toNat_natCast, k1, hcl]
        by_cases d0 : zI y = 0
        · rw [if_pos d0, if_pos (show zI y = zI 0 from d0)]
        · rw [if_neg d0, if_neg (show ¬ zI y = zI 0 from d0)]
          by_cases d1 : zI y = 1
          · rw [if_pos d1, if_pos (show zI y = zI 1 from d1)]
          · rw [if_neg d1, if_neg (show ¬ zI y = zI 1 from d1)]
    · rw [if_neg c2] at hin2
      refine ⟨zI (-2), u, _, ?_, ?_, hR⟩
      · unfold fX11_clause
        rw [hhas, b2_s, if_neg (by decide), ld_z _ _ _ _ (by omega) (by omega), bd_s, show (1 : Int32) = zI 1 from rfl, z_add, ld_z _ _ _ _ (by omega) (by omega), bd_s, if_neg (by rw [z_zero, z_eq hy1 hy2 (by decide) (by decide)]; omega), if_neg (by rw [z_eq hy1 hy2 (by decide) (by decide)]; omega), if_neg (by rw [show (2 : Int32) = zI 2 from rfl, z_eq hy1 hy2 (by decide) (by decide)]; omega)]
        rfl
      · unfold fX12_clause
        rw [lt_e, show (0 : Int32) = zI 0 from rfl, show (1 : Int32) = zI 1 from rfl, e10, hin1, b2_s, if_neg (by decide), show (2 : Int32) = zI 2 from rfl, hin2, b2_s, if_pos rfl]
        rfl
  · rw [if_neg c1] at hin1 hhas
    refine ⟨zI (-1), u, _, ?_, ?_, hR⟩
    · unfold fX11_clause
      rw [hhas, b2_s, if_pos q0]; rfl
    · unfold fX12_clause
      rw [lt_e, show (0 : Int32) = zI 0 from rfl, show (1 : Int32) = zI 1 from rfl, e10, hin1, b2_s, if_pos rfl]
      rfl
theorem SB_octet {n : Nat} (a0 : Int32) : StepBoth (fX11_octet a0) (fX12_octet a0) (Re n) (Re (n + 1)) := by
  intro u v h
  have hR := Re_0 h
  obtain ⟨p1, p2, p3, p4, p5, p6, p7⟩ := h.2.2.1
  obtain ⟨x, hx, hx1, hx2⟩ : ∃ x : Int, a0 = zI x ∧ -2147483648 ≤ x ∧ x < 2147483648 := ⟨a0.toInt, z_id a0, Int32.le_toInt _, Int32.toInt_lt _⟩
  subst hx
  have hin1 := in_spec x 0 (I u 10 3 - 1) (uI v 100 0 (zI 0)) hx1 hx2 (by decide) (by decide) (by omega) (by omega)
  have e76 : gI (uI v 100 0 (zI 0)) 100 76 - zI 1 = zI (I u 10 3 - 1) := by rw [gI_z, I_uI2 _ _ _ _ _ _ (by omega), ← p4, z_sub]
  have hpg : pg (gR u 10 2) = some (gR u 10 2) := by unfold pg; rw [if_pos p1]
  by_cases c1 : 0 ≤ x ∧ x ≤ I u 10 3 - 1
  · rw [if_pos c1] at hin1
    obtain ⟨k, hkk⟩ : ∃ k : Nat, x = k := ⟨x.toNat, by omega⟩
    subst hkk
    refine ⟨zI (I u (gR u 10 2) k % 256), u, _, ?_, ?_, hR⟩
    · unfold fX11_octet
      rw [if_neg (by rw [z_zero, z_lt hx1 hx2 (by decide) (by decide)]; omega), gI_z u 10 3, if_pos (by rw [z_lt hx1 hx2 (by omega) (by omega)]; omega), hpg, bd_s, ld_z _ _ _ _ (by omega) (by omega), bd_s, Int.toNat_natCast, show (255 : Int32) = zI 255 from rfl, z_and255]
    · unfold fX12_octet
      rw [lt_e, show (0 : Int32) = zI 0 from rfl, show (1 : Int32) = zI 1 from rfl, e76, hin1, b2_s, if_neg (by decide), ld_z _ _ _ _ (by omega) (by omega), bd_s, Int.toNat_natCast, I_uI3 _ _ _ _ _ _ (by decide), ← p7 k (by omega), show (255 : Int32) = zI 255 from rfl, z_and255]
  · rw [if_neg c1] at hin1
    refine ⟨zI (-1), u, _, ?_, ?_, hR⟩
    · unfold fX11_octet
      by_cases d : x < 0
      · rw [if_pos (by rw [z_zero, z_lt hx1 hx2 (by decide) (by decide)]; omega)]; rfl
      · rw [if_neg (by rw [z_zero, z_lt hx1 hx2 (by decide) (by decide)]; omega), gI_z u 10 3, if_neg (by rw [z_lt hx1 hx2 (by omega) (by omega)]; omega)]; rfl
    · unfold fX12_octet
      rw [lt_e, show (0 : Int32) = zI 0 from rfl, show (1 : Int32) = zI 1 from rfl, e76, hin1, b2_s, if_pos rfl]; rfl
