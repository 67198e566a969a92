/-! feeding, and the start -/
def by8 (x : Int64) (j : Int32) : Int32 := (((x >>> ((8 * j).toInt64 &&& 63)).toInt32).toInt8.toInt32).toInt8.toInt32
theorem by8_rng (x : Int64) (j : Int32) : -128 ≤ (by8 x j).toInt ∧ (by8 x j).toInt ≤ 127 := by
  unfold by8
  have h1 := Int8.le_toInt (((x >>> ((8 * j).toInt64 &&& 63)).toInt32).toInt8.toInt32).toInt8
  have h2 := Int8.toInt_lt (((x >>> ((8 * j).toInt64 &&& 63)).toInt32).toInt8.toInt32).toInt8
  rw [Int8.toInt_toInt32]
  omega
theorem I_uIx (u : St) (k i : Nat) (x : Int32) : I (uI u k i x) k i = x.toInt := by
  unfold I gI uI va_up; simp
theorem feed_step1 (rec : Nat → Int64 → Int32 → St → Option (Int32 × St)) (x : Int64) (u : St) (L j : Nat) (hL : L < 1500) (h11 : I u 1 1 = L) (hj : j < 8) : fX6_append_L0_0 rec x (zI j) u = rec 0 x (zI ((j : Int) - 1)) (uI (uI u 14 L (by8 x (zI j))) 1 1 (zI ((L + 1 : Nat) : Int))) := by
  unfold fX6_append_L0_0
  have e1 : I (uI u 14 L (by8 x (zI j))) 1 1 = L := by rw [I_uI3 _ _ _ _ _ _ (by decide)]; exact h11
  rw [if_neg (by rw [z_zero, z_lt (by omega) (by omega) (by decide) (by decide)]; omega), gI_z u 1 1, h11, stB_z _ _ _ _ _ (by omega) (by omega), bd_s, Int.toNat_natCast, lt_e, lt_e]
  show rec 0 x (zI j + -1) (uI (uI u 14 L (by8 x (zI j))) 1 1 (gI (uI u 14 L (by8 x (zI j))) 1 1 + 1)) = _
  rw [gI_z, e1, show (-1 : Int32) = zI (-1) from rfl, z_add, show (1 : Int32) = zI 1 from rfl, z_add, show (j : Int) + -1 = (j : Int) - 1 by omega, show (L : Int) + 1 = ((L + 1 : Nat) : Int) by omega]
theorem feed_step2 (rec : Nat → Int64 → Int32 → St → Option (Int32 × St)) (x : Int64) (v : St) (L j : Nat) (hL : L < 1500) (h11 : I v 100 2 = L) (hj : j < 8) : fX12_feed_L0_0 rec x (zI j) v = rec 0 x (zI ((j : Int) - 1)) (uI (uI v 101 L (by8 x (zI j))) 100 2 (zI ((L + 1 : Nat) : Int))) := by
  unfold fX12_feed_L0_0
  have e1 : I (uI v 101 L (by8 x (zI j))) 100 2 = L := by rw [I_uI3 _ _ _ _ _ _ (by decide)]; exact h11
  rw [if_neg (by rw [z_zero, z_lt (by omega) (by omega) (by decide) (by decide)]; omega), gI_z v 100 2, h11, stB_z _ _ _ _ _ (by omega) (by omega), bd_s, Int.toNat_natCast, lt_e, lt_e]
  show rec 0 x (zI j + -1) (uI (uI v 101 L (by8 x (zI j))) 100 2 (gI (uI v 101 L (by8 x (zI j))) 100 2 + 1)) = _
  rw [gI_z, e1, show (-1 : Int32) = zI (-1) from rfl, z_add, show (1 : Int32) = zI 1 from rfl, z_add, show (j : Int) + -1 = (j : Int) - 1 by omega, show (L : Int) + 1 = ((L + 1 : Nat) : Int) by omega]
def Pt : Nat → Nat → Bool := fun k i => k == 14 || (k == 1 && i == 1)
def Qt : Nat → Nat → Bool := fun k i => k == 101 || (k == 100 && (i == 2 || i == 0))
theorem feed_loop (x : Int64) (j : Nat) : ∀ (F G L : Nat) (u v : St), j < F → j < G → j ≤ 8 → L + j ≤ 1500 → TXr u v → I u 1 1 = L → ∃ u' v', fX6_append_L0 F 0 x (zI ((j : Int) - 1)) u = some (1, u') ∧ fX12_feed_L0 G 0 x (zI ((j : Int) - 1)) v = some (zI ((L + j : Nat) : Int), v') ∧ TXr u' v' ∧ I u' 1 1 = ((L + j : Nat) : Int) ∧ Fr Pt u u' ∧ Fr Qt v v' := by
  induction j with
  | zero =>
    intro F G L u v hF hG hj hL hT h11
    obtain ⟨F', rfl⟩ : ∃ F', F = F' + 1 := ⟨F - 1, by omega⟩
    obtain ⟨G', rfl⟩ : ∃ G', G = G' + 1 := ⟨G - 1, by omega⟩
    refine ⟨u, v, ?_, ?_, hT, h11, Fr_rfl _ _, Fr_rfl _ _⟩
    · have st : fX6_append_L0 (F' + 1) 0 x (zI (((0 : Nat) : Int) - 1)) u = fX6_append_L0_0 (fX6_append_L0 F') x (zI (((0 : Nat) : Int) - 1)) u := rfl
      rw [st]; unfold fX6_append_L0_0
      rw [if_pos (by decide)]
    · have st : fX12_feed_L0 (G' + 1) 0 x (zI (((0 : Nat) : Int) - 1)) v = fX12_feed_L0_0 (fX12_feed_L0 G') x (zI (((0 : Nat) : Int) - 1)) v := rfl
      rw [st]; unfold fX12_feed_L0_0
      rw [if_pos (by decide), gI_z, ← hT.1, h11]; rfl
  | succ j ih =>
    intro F G L u v hF hG hj hL hT h11
    obtain ⟨F', rfl⟩ : ∃ F', F = F' + 1 := ⟨F - 1, by omega⟩
    obtain ⟨G', rfl⟩ : ∃ G', G = G' + 1 := ⟨G - 1, by omega⟩
    have ej : ((j + 1 : Nat) : Int) - 1 = j := by omega
    rw [ej]
    have s1 : fX6_append_L0 (F' + 1) 0 x (zI j) u = _ := feed_step1 (fX6_append_L0 F') x u L j (by omega) h11 (by omega)
    have s2 : fX12_feed_L0 (G' + 1) 0 x (zI j) v = _ := feed_step2 (fX12_feed_L0 G') x v L j (by omega) (by rw [← hT.1]; exact h11) (by omega)
    have Fa : Fr Pt u (uI (uI u 14 L (by8 x (zI j))) 1 1 (zI ((L + 1 : Nat) : Int))) := Fr_up rfl (Fr_up rfl (Fr_rfl _ _))
    have Fb : Fr Qt v (uI (uI v 101 L (by8 x (zI j))) 100 2 (zI ((L + 1 : Nat) : Int))) := Fr_up rfl (Fr_up rfl (Fr_rfl _ _))
    have c1 : I (uI (uI u 14 L (by8 x (zI j))) 1 1 (zI ((L + 1 : Nat) : Int))) 1 1 = ((L + 1 : Nat) : Int) := I_uI1 _ _ _ _ (by omega) (by omega)
    have c2 : I (uI (uI v 101 L (by8 x (zI j))) 100 2 (zI ((L + 1 : Nat) : Int))) 100 2 = ((L + 1 : Nat) : Int) := I_uI1 _ _ _ _ (by omega) (by omega)
    have hT' : TXr (uI (uI u 14 L (by8 x (zI j))) 1 1 (zI ((L + 1 : Nat) : Int))) (uI (uI v 101 L (by8 x (zI j))) 100 2 (zI ((L + 1 : Nat) : Int))) := by
      refine ⟨by rw [c1, c2], by rw [c1]; omega, by rw [c1]; omega, fun i => ?_⟩
      rw [show I (uI (uI u 14 L (by8 x (zI j))) 1 1 (zI ((L + 1 : Nat) : Int))) 14 i = I (uI u 14 L (by8 x (zI j))) 14 i from I_uI3 _ _ _ _ _ _ (by decide), show I (uI (uI v 101 L (by8 x (zI j))) 100 2 (zI ((L + 1 : Nat) : Int))) 101 i = I (uI v 101 L (by8 x (zI j))) 101 i from I_uI3 _ _ _ _ _ _ (by decide)]
      by_cases hi : i = L
      · subst hi; rw [I_uIx, I_uIx]; exact ⟨rfl, by8_rng _ _⟩
      · rw [I_uI2 _ _ _ _ _ _ (by omega), I_uI2 _ _ _ _ _ _ (by omega)]; exact hT.2.2.2 i
    obtain ⟨u', v', r1, r2, r3, r4, r5, r6⟩ := ih F' G' (L + 1) _ _ (by omega) (by omega) (by omega) (by omega) hT' c1
    rw [show L + 1 + j = L + (j + 1) by omega] at r2 r4
    exact ⟨u', v', s1.trans r1, s2.trans r2, r3, r4, Fr_tr Fa r5, Fr_tr Fb r6⟩
theorem Re_t {n : Nat} {u v u' v' : St} (hu : Fr Pt u u') (hv : Fr Qt v v') (hT : TXr u' v') (h : Re n u v) : Re (n + 1) u' v' := by
  obtain ⟨h1, h2, h3, C, fi, ps, nv, c, e, S, F, g1, g2, g3, g4, g5, g6, g7, g8, g9, g10, g11⟩ := h
  exact ⟨hT, PLr_fr hu hv rfl rfl rfl h2, PGr_fr hu hv rfl rfl rfl (fun _ => rfl) (fun _ => rfl) rfl (fun _ => rfl) h3, C, fi, ps, nv, c, e, S, F, SR_fr hu hv (fun k i hk => by simp [PSc] at hk; simp [Pt]; omega) (fun k i hk => by simp [PSr] at hk; simp [Qt]; omega) g1, FO_fr hu hv (fun k i hk => by simp [Pt]; omega) (fun k i hk => by simp [Qt]; omega) g2, by rw [Fr_I hu rfl]; exact g3, by rw [Fr_I hv rfl]; exact g4, g5, by rw [Fr_I hu rfl]; exact g6, by rw [Fr_I hv rfl]; exact g7, by omega, NMr_fr hu hv (fun k i hk => by simp [Pt]; omega) (fun k i hk => by simp [Qt]; omega) g9, SYr_fr hu hv (fun _ => rfl) (fun _ => rfl) g10, g11⟩
theorem SB_feed {n : Nat} (a0 : Int64) (a1 : Int32) : StepBoth (fX11_feed a0 a1) (fX12_feed a0 a1) (Re n) (Re (n + 1)) := by
  intro u v h
  have hR := Re_0 h
  have hT := h.1
  obtain ⟨y, hy, hy1, hy2⟩ : ∃ y : Int, a1 = zI y ∧ -2147483648 ≤ y ∧ y < 2147483648 := ⟨a1.toInt, z_id a1, Int32.le_toInt _, Int32.toInt_lt _⟩
  subst hy
  have hin := in_spec y 0 8 (uI v 100 0 (zI 0)) hy1 hy2 (by decide) (by decide) (by decide) (by decide)
  have e2 : I (uI v 100 0 (zI 0)) 100 2 = I u 1 1 := by rw [I_uI2 _ _ _ _ _ _ (by omega)]; exact hT.1.symm
  have hT0 : TXr u (uI v 100 0 (zI 0)) := hR.1
  have Fv0 : Fr Qt v (uI v 100 0 (zI 0)) := Fr_up rfl (Fr_rfl _ _)
  obtain ⟨t1, t2, t3, t4⟩ := hT
  by_cases c1 : 0 ≤ y ∧ y ≤ 8
  · rw [if_pos c1] at hin
    by_cases c2 : y = 0
    · subst c2
      have Fa : Fr Pt u (uI u 1 1 (zI 0)) := Fr_up rfl (Fr_rfl _ _)
      have Fb : Fr Qt v (uI (uI v 100 0 (zI 0)) 100 2 (zI 0)) := Fr_up rfl Fv0
      have d1 : I (uI u 1 1 (zI 0)) 1 1 = 0 := I_uI1 _ _ _ _ (by decide) (by decide)
      have d2 : I (uI (uI v 100 0 (zI 0)) 100 2 (zI 0)) 100 2 = 0 := I_uI1 _ _ _ _ (by decide) (by decide)
      refine ⟨zI 0, uI u 1 1 (zI 0), uI (uI v 100 0 (zI 0)) 100 2 (zI 0), ?_, ?_, Re_t Fa Fb ⟨by rw [d1, d2], by rw [d1]; decide, by rw [d1]; decide, fun i => by rw [I_uI3 _ _ _ _ _ _ (by decide), I_uI3 _ _ _ _ _ _ (by decide), I_uI3 _ _ _ _ _ _ (by decide)]; exact t4 i⟩ h⟩
      · unfold fX11_feed
        rw [if_neg (by decide), if_pos (by decide), if_pos q0, lt_e]; rfl
      · unfold fX12_feed
        rw [lt_e, show (0 : Int32) = zI 0 from rfl, show (8 : Int32) = zI 8 from rfl, hin, b2_s, if_neg (by decide), if_pos rfl, lt_e]
    · obtain ⟨j, hj⟩ : ∃ j : Nat, y = j := ⟨y.toNat, by omega⟩
      subst hj
      obtain ⟨L, hL⟩ : ∃ L : Nat, I u 1 1 = L := ⟨(I u 1 1).toNat, by omega⟩
      by_cases c3 : L + j ≤ 1500
      · obtain ⟨u', v', r1, r2, r3, r4, r5, r6⟩ := feed_loop a0 j FU FU L u (uI v 100 0 (zI 0)) (by unfold FU; omega) (by unfold FU; omega) (by omega) c3 hT0 hL
        refine ⟨zI ((L + j : Nat) : Int), u', v', ?_, ?_, Re_t r5 (Fr_tr Fv0 r6) r3 h⟩
        · have hap : fX6_append a0 (zI j) u = some (1, u') := by
            unfold fX6_append
            rw [gI_z, hL, z_add, if_pos (by rw [z_lit, z_le (by omega) (by omega) (by decide) (by decide)]; omega), lt_e, show (1 : Int32) = zI 1 from rfl, z_sub]
            exact r1
          unfold fX11_feed
          rw [if_neg (by rw [z_zero, z_lt (by omega) (by omega) (by decide) (by decide)]; omega), if_pos (by rw [z_lit, z_le (by omega) (by omega) (by decide) (by decide)]; omega), if_neg (by rw [z_zero, z_eq (by omega) (by omega) (by decide) (by decide)]; omega), hap, b2_s, if_neg (by decide), gI_z, r4]
        · unfold fX12_feed
          rw [lt_e, show (0 : Int32) = zI 0 from rfl, show (8 : Int32) = zI 8 from rfl, hin, b2_s, if_neg (by decide), if_neg (by rw [z_eq (by omega) (by omega) (by decide) (by decide)]; omega), gI_z, e2, hL, z_add, if_pos (by rw [z_lit, z_le (by omega) (by omega) (by decide) (by decide)]; omega), lt_e, show (1 : Int32) = zI 1 from rfl, z_sub]
          exact r2
      · refine ⟨zI (-4), u, uI v 100 0 (zI 0), ?_, ?_, hR⟩
        · have hap : fX6_append a0 (zI j) u = some (0, u) := by
            unfold fX6_append
            rw [gI_z, hL, z_add, if_neg (by rw [z_lit, z_le (by omega) (by omega) (by decide) (by decide)]; omega)]
          unfold fX11_feed
          rw [if_neg (by rw [z_zero, z_lt (by omega) (by omega) (by decide) (by decide)]; omega), if_pos (by rw [z_lit, z_le (by omega) (by omega) (by decide) (by decide)]; omega), if_neg (by rw [z_zero, z_eq (by omega) (by omega) (by decide) (by decide)]; omega), hap, b2_s, if_pos rfl]
          rfl
        · unfold fX12_feed
          rw [lt_e, show (0 : Int32) = zI 0 from rfl, show (8 : Int32) = zI 8 from rfl, hin, b2_s, if_neg (by decide), if_neg (by rw [z_eq (by omega) (by omega) (by decide) (by decide)]; omega), gI_z, e2, hL, z_add, if_neg (by rw [z_lit, z_le (by omega) (by omega) (by decide) (by decide)]; omega)]
          rfl
  · rw [if_neg c1] at hin
    refine ⟨zI (-2), u, uI v 100 0 (zI 0), ?_, ?_, hR⟩
    · unfold fX11_feed
      by_cases d : y < 0
      · rw [if_pos (by rw [z_zero, z_lt hy1 hy2 (by decide) (by decide)]; omega)]; rfl
      · rw [if_neg (by rw [z_zero, z_lt hy1 hy2 (by decide) (by decide)]; omega), if_neg (by rw [z_lit, z_le hy1 hy2 (by decide) (by decide)]; omega)]; rfl
    · unfold fX12_feed
      rw [lt_e, show (0 : Int32) = zI 0 from rfl, show (8 : Int32) = zI 8 from rfl, hin, b2_s, if_pos rfl]; rfl
theorem Re_start : Re 0 u0 v0 := by
  have hu : ∀ k i, k ≠ 62 → (k ≠ 0 ∨ i ≠ 7) → I u0 k i = 0 := by
    intro k i h1 h2
    unfold I gI u0
    simp only
    rw [if_neg h1]
    by_cases hk : k = 0
    · rw [if_pos hk]
      have : i ≠ 7 := by omega
      simp [this]
    · rw [if_neg hk]; rfl
  have hv : ∀ k i, I v0 k i = 0 := fun k i => rfl
  have h62 : ∀ i, i < 220 → I u0 62 i = -1 := by
    intro i hi
    unfold I gI u0 fill
    simp [hi]
  have h7 : I u0 0 7 = -1 := by unfold I gI u0; simp
  refine ⟨⟨by rw [hu _ _ (by decide) (Or.inl (by decide)), hv], by rw [hu _ _ (by decide) (Or.inl (by decide))]; decide, by rw [hu _ _ (by decide) (Or.inl (by decide))]; decide, fun i => by rw [hu _ _ (by decide) (Or.inl (by decide)), hv]; decide⟩, ⟨⟨⟨hu _ _ (by decide) (Or.inl (by decide)), hu _ _ (by decide) (Or.inl (by decide))⟩, by rw [hv]; decide⟩, by rw [hv]; decide, by rw [h7, hv]; rfl⟩, ⟨Or.inl rfl, Or.inr rfl, by decide, by rw [hu _ _ (by decide) (Or.inl (by decide)), hv], by rw [hu _ _ (by decide) (Or.inl (by decide))]; decide, by rw [hu _ _ (by decide) (Or.inl (by decide))]; decide, fun i hi => by rw [hu _ _ (by decide) (Or.inl (by decide))] at hi; omega⟩, 0, fun _ => 0, fun _ => 0, fun _ => 0, fun _ => 0, fun _ => 0, 0, 0, ?_, ?_, hu _ _ (by decide) (Or.inl (by decide)), hv _ _, by omega, hu _ _ (by decide) (Or.inl (by decide)), hv _ _, by omega, fun i hi => (Nat.not_lt_zero i hi).elim, fun p hp => (Nat.not_lt_zero p hp).elim, fun k hk => (Nat.not_lt_zero k hk).elim⟩
  · exact ⟨by omega, hu _ _ (by decide) (Or.inl (by decide)), hv _ _, rfl, rfl, fun k _ => hu _ _ (by decide) (Or.inl (by decide)), fun k hk => (Nat.not_lt_zero k hk).elim, fun l _ => hu _ _ (by decide) (Or.inl (by decide)), fun k l hk => (Nat.not_lt_zero k hk).elim, hv _ _, hv _ _, fun p hp => (Nat.not_lt_zero p hp).elim, ⟨Nat.zero_le _, fun p hp => (Nat.not_lt_zero p hp).elim, fun p q hp => (Nat.not_lt_zero p hp).elim⟩, fun p hp => (Nat.not_lt_zero p hp).elim⟩
  · refine ⟨by rw [hu _ _ (by decide) (Or.inl (by decide)), hv], by rw [hu _ _ (by decide) (Or.inl (by decide)), hv], by rw [hu _ _ (by decide) (Or.inl (by decide)), hv], Or.inl ⟨hu _ _ (by decide) (Or.inl (by decide)), [], ?_, ⟨hu _ _ (by decide) (Or.inl (by decide)), trivial⟩, by simp, by simp, by simp⟩⟩
    intro w hw
    exact ⟨fun _ => h62 w hw, fun y hy => by simp [lk] at hy⟩
