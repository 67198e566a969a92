/-! writing: a row of literals -/
theorem row_loop {b bb : Int} {k0 f0 f1 : Nat} {RI : St → St → Nat → Nat → Prop} (hk0 : k0 < 100) (hf0 : f1 ≤ 1200) (hL : ∀ u v k l, f0 ≤ l → l < f1 → RI u v k l → ∀ u1 v1 k1, Wr u u1 v v1 NoP NoP → DS u v k → DS u1 v1 k1 → k ≤ k1 → k1 ≤ k + 1 → k < 98000 → ∃ u' v' k', fX1_literal (zI l) (zI b) u1 = some u' ∧ fX12_literalOut (zI l) (zI bb) v1 = some v' ∧ DS u' v' k' ∧ (k' ≤ k + 2 ∨ k' ≤ 4020) ∧ RI u' v' k' (l + 1) ∧ Wr u1 u' v1 v' Pl Qlit) (d : Nat) : ∀ (F G l k : Nat) (u v : St), l + d = f1 → f0 ≤ l → d ≤ 12 → 2 * d + 1 < F → 2 * d + 1 < G → k + 4 * d ≤ 5000 → I u 18 (k0 + 1) = f1 → I v 106 k0 = f0 → I v 107 k0 = (f1 : Int) - f0 → DS u v k → RI u v k l →
    ∃ u' v' k', fX1_row_L0 F 0 (zI k0) (zI b) (zI f0) (zI l) u = some u' ∧ fX12_clauseOut_L0 G 0 (zI k0) (zI bb) (zI ((l : Int) - f0)) v = some v' ∧ DS u' v' k' ∧ Wr u u' v v' Pl Qlit ∧ ∃ u2 v2 k2, RI u2 v2 k2 f1 ∧ DS u2 v2 k2 ∧ k' ≤ k2 + 1 := by
  induction d with
  | zero =>
    intro F G l k u v hl hf hd hF hG hk h18 h106 h107 hD hR
    obtain ⟨F', rfl⟩ : ∃ F', F = F' + 1 := ⟨F - 1, by omega⟩
    obtain ⟨G', rfl⟩ : ∃ G', G = G' + 1 := ⟨G - 1, by omega⟩
    have hl2 : l = f1 := by omega
    subst hl2
    have st1 : fX1_row_L0 (F' + 1) 0 (zI k0) (zI b) (zI f0) (zI l) u = fX1_row_L0_0 (fX1_row_L0 F') (zI k0) (zI b) (zI f0) (zI l) u := rfl
    have st2 : fX12_clauseOut_L0 (G' + 1) 0 (zI k0) (zI bb) (zI ((l : Int) - f0)) v = fX12_clauseOut_L0_0 (fX12_clauseOut_L0 G') (zI k0) (zI bb) (zI ((l : Int) - f0)) v := rfl
    have hA : fX1_row_L0 (F' + 1) 0 (zI k0) (zI b) (zI f0) (zI l) u = if zI f0 = zI l then (bd (fX1_put 36 u) fun u5 => some u5) else some u := by
      rw [st1]
      unfold fX1_row_L0_0
      rw [show (1 : Int32) = zI 1 from rfl, z_add, show (k0 : Int) + 1 = ((k0 + 1 : Nat) : Int) by omega, ld_z _ _ _ _ (by omega) (by omega), bd_s, Int.toNat_natCast, h18, if_pos (show zI (l : Nat) ≤ zI (l : Nat) by rw [z_le (by omega) (by omega) (by omega) (by omega)]; omega), bd_s]
    have hB : fX12_clauseOut_L0 (G' + 1) 0 (zI k0) (zI bb) (zI ((l : Int) - f0)) v = if zI ((l : Int) - f0) = 0 then (bd (fX12_put 36 v) fun u5 => some u5) else some v := by
      rw [st2]
      unfold fX12_clauseOut_L0_0
      rw [ld_z _ _ _ _ (by omega) (by omega), bd_s, Int.toNat_natCast, h107, if_pos (show zI ((l : Int) - f0) ≤ zI ((l : Int) - f0) by rw [z_le (by omega) (by omega) (by omega) (by omega)]; omega), bd_s]
    rw [hA, hB]
    by_cases he : f0 = l
    · subst he
      obtain ⟨u1, v1, r1, r2, r3, r4⟩ := put_w 36 hD (by omega) Pl Qlit
      rw [if_pos rfl, if_pos (by rw [Int.sub_self]; rfl), r1, r2, bd_s, bd_s]
      exact ⟨u1, v1, k + 1, rfl, rfl, r3, r4, u, v, k, hR, hD, Nat.le_refl _⟩
    · rw [if_neg (by rw [z_eq (by omega) (by omega) (by omega) (by omega)]; omega), if_neg (by rw [z_zero, z_eq (by omega) (by omega) (by decide) (by decide)]; omega)]
      exact ⟨u, v, k, rfl, rfl, hD, Wr_rfl _ _ _ _, u, v, k, hR, hD, by omega⟩
  | succ d ih =>
    intro F G l k u v hl hf hd hF hG hk h18 h106 h107 hD hR
    obtain ⟨F', rfl⟩ : ∃ F', F = F' + 1 + 1 := ⟨F - 2, by omega⟩
    obtain ⟨G', rfl⟩ : ∃ G', G = G' + 1 + 1 := ⟨G - 2, by omega⟩
    have hdr := hD.2.1
    have st1 : fX1_row_L0 (F' + 1 + 1) 0 (zI k0) (zI b) (zI f0) (zI l) u = fX1_row_L0_0 (fX1_row_L0 (F' + 1)) (zI k0) (zI b) (zI f0) (zI l) u := rfl
    have st2 : fX12_clauseOut_L0 (G' + 1 + 1) 0 (zI k0) (zI bb) (zI ((l : Int) - f0)) v = fX12_clauseOut_L0_0 (fX12_clauseOut_L0 (G' + 1)) (zI k0) (zI bb) (zI ((l : Int) - f0)) v := rfl
    have st3 : ∀ w, fX1_row_L0 (F' + 1) 1 (zI k0) (zI b) (zI f0) (zI l) w = fX1_row_L0_1 (fX1_row_L0 F') (zI k0) (zI b) (zI f0) (zI l) w := fun _ => rfl
    have st4 : ∀ w, fX12_clauseOut_L0 (G' + 1) 1 (zI k0) (zI bb) (zI ((l : Int) - f0)) w = fX12_clauseOut_L0_1 (fX12_clauseOut_L0 G') (zI k0) (zI bb) (zI ((l : Int) - f0)) w := fun _ => rfl
    obtain ⟨u1, v1, k1, a1, a2, a3, a4, a5, a6⟩ : ∃ u1 v1 k1, fX1_row_L0 (F' + 1 + 1) 0 (zI k0) (zI b) (zI f0) (zI l) u = fX1_row_L0_1 (fX1_row_L0 F') (zI k0) (zI b) (zI f0) (zI l) u1 ∧ fX12_clauseOut_L0 (G' + 1 + 1) 0 (zI k0) (zI bb) (zI ((l : Int) - f0)) v = fX12_clauseOut_L0_1 (fX12_clauseOut_L0 G') (zI k0) (zI bb) (zI ((l : Int) - f0)) v1 ∧ DS u1 v1 k1 ∧ k ≤ k1 ∧ k1 ≤ k + 1 ∧ Wr u u1 v v1 NoP NoP := by
      have hA : fX1_row_L0 (F' + 1 + 1) 0 (zI k0) (zI b) (zI f0) (zI l) u = if zI l ≤ zI f0 then fX1_row_L0_1 (fX1_row_L0 F') (zI k0) (zI b) (zI f0) (zI l) u else (bd (fX1_put 124 u) fun u7 => fX1_row_L0_1 (fX1_row_L0 F') (zI k0) (zI b) (zI f0) (zI l) u7) := by
        rw [st1]
        unfold fX1_row_L0_0
        rw [show (1 : Int32) = zI 1 from rfl, z_add, show (k0 : Int) + 1 = ((k0 + 1 : Nat) : Int) by omega, ld_z _ _ _ _ (by omega) (by omega), bd_s, Int.toNat_natCast, h18, if_neg (show ¬ zI (f1 : Nat) ≤ zI (l : Nat) by rw [z_le (by omega) (by omega) (by omega) (by omega)]; omega)]
        rfl
      have hB : fX12_clauseOut_L0 (G' + 1 + 1) 0 (zI k0) (zI bb) (zI ((l : Int) - f0)) v = if zI ((l : Int) - f0) ≤ 0 then fX12_clauseOut_L0_1 (fX12_clauseOut_L0 G') (zI k0) (zI bb) (zI ((l : Int) - f0)) v else (bd (fX12_put 124 v) fun u7 => fX12_clauseOut_L0_1 (fX12_clauseOut_L0 G') (zI k0) (zI bb) (zI ((l : Int) - f0)) u7) := by
        rw [st2]
        unfold fX12_clauseOut_L0_0
        rw [ld_z _ _ _ _ (by omega) (by omega), bd_s, Int.toNat_natCast, h107, if_neg (show ¬ zI ((f1 : Int) - f0) ≤ zI ((l : Int) - f0) by rw [z_le (by omega) (by omega) (by omega) (by omega)]; omega)]
        rfl
      rw [hA, hB]
      by_cases he : l ≤ f0
      · rw [if_pos (by rw [z_le (by omega) (by omega) (by omega) (by omega)]; omega), if_pos (by rw [z_zero, z_le (by omega) (by omega) (by decide) (by decide)]; omega)]
        exact ⟨u, v, k, rfl, rfl, hD, Nat.le_refl _, by omega, Wr_rfl _ _ _ _⟩
      · obtain ⟨u1, v1, r1, r2, r3, r4⟩ := put_w 124 hD (by omega) NoP NoP
        rw [if_neg (by rw [z_le (by omega) (by omega) (by omega) (by omega)]; omega), if_neg (by rw [z_zero, z_le (by omega) (by omega) (by decide) (by decide)]; omega), r1, r2, bd_s, bd_s]
        exact ⟨u1, v1, k + 1, rfl, rfl, r3, by omega, Nat.le_refl _, r4⟩
    obtain ⟨u', v', k', b1, b2', b3, b4, b5, b6⟩ := hL u v k l hf (by omega) hR u1 v1 k1 a6 hD a3 a4 a5 (by omega)
    have W1 : Wr u u' v v' Pl Qlit := Wr_tr (Wr_mono (fun k i hk => by simp [NoP] at hk) (fun k i hk => by simp [NoP] at hk) a6) b6
    have Fu := Wr_P W1 hdr
    have q106 : I v1 106 k0 = f0 := by rw [Wr_V a6 rfl rfl]; exact h106
    obtain ⟨u2, v2, k2, c1, c2, c3, c4, c5⟩ := ih F' G' (l + 1) k' u' v' (by omega) (by omega) (by omega) (by omega) (by omega) (by omega) (by rw [Fr_I Fu rfl]; exact h18) (by rw [Wr_V W1 rfl rfl]; exact h106) (by rw [Wr_V W1 rfl rfl]; exact h107) b3 b5
    refine ⟨u2, v2, k2, ?_, ?_, c3, Wr_tr W1 c4, c5⟩
    · rw [a1]
      generalize hG1 : fX1_row_L0 F' = R at c1 ⊢
      unfold fX1_row_L0_1
      rw [b1, bd_s, show (1 : Int32) = zI 1 from rfl, z_add, lt_e, show (l : Int) + 1 = ((l + 1 : Nat) : Int) by omega]
      exact c1
    · rw [a2]
      generalize hG2 : fX12_clauseOut_L0 G' = R at c2 ⊢
      unfold fX12_clauseOut_L0_1
      rw [ld_z _ _ _ _ (by omega) (by omega), bd_s, Int.toNat_natCast, q106, z_add, show (f0 : Int) + ((l : Int) - f0) = l by omega, b2', bd_s, show (1 : Int32) = zI 1 from rfl, z_add, lt_e, show (l : Int) - f0 + 1 = ((l + 1 : Nat) : Int) - f0 by omega]
      exact c2
/-! the beginning and the end of a page -/
theorem beg_loop (d : Nat) : ∀ (F i : Nat) (u : St), i + d = 220 → d < F → (∀ j, j < i → I u 74 j = -1) → ∃ u', fX1_begin_L0 F 0 (zI i) u = some u' ∧ (∀ j, j < 220 → I u' 74 j = -1) ∧ Fr (fun k _ => k == 74) u u' := by
  induction d with
  | zero =>
    intro F i u hi hF h
    obtain ⟨G, rfl⟩ : ∃ G, F = G + 1 := ⟨F - 1, by omega⟩
    have : i = 220 := by omega
    subst this
    exact ⟨u, rfl, h, Fr_rfl _ _⟩
  | succ d ih =>
    intro F i u hi hF h
    obtain ⟨G, rfl⟩ : ∃ G, F = G + 1 := ⟨F - 1, by omega⟩
    obtain ⟨u', r1, r2, r3⟩ := ih G (i + 1) (uI u 74 i (zI (-1))) (by omega) (by omega) (fun j hj => by
      by_cases hji : j = i
      · subst hji; exact I_uI1 _ _ _ _ (by decide) (by decide)
      · rw [I_uI2 _ _ _ _ _ _ (by omega)]; exact h j (by omega))
    refine ⟨u', ?_, r2, Fr_tr (Fr_up rfl (Fr_rfl _ _)) r3⟩
    have st : fX1_begin_L0 (G + 1) 0 (zI i) u = fX1_begin_L0_0 (fX1_begin_L0 G) (zI i) u := rfl
    rw [st]
    generalize fX1_begin_L0 G = R at r1 ⊢
    unfold fX1_begin_L0_0
    rw [if_neg (by rw [z_lit, z_le (by decide) (by decide) (by omega) (by omega)]; omega), show (-1 : Int32) = zI (-1) from rfl, st_z _ _ _ _ _ (by omega) (by omega), bd_s, Int.toNat_natCast, lt_e, show (1 : Int32) = zI 1 from rfl, z_add, show (i : Int) + 1 = ((i + 1 : Nat) : Int) by omega]
    exact r1
def Pb : Nat → Nat → Bool := fun k i => k == 74 || (k == 10 && (i == 5 || i == 6 || i == 10))
theorem beg_spec (u : St) : ∃ u', fX1_begin u = some u' ∧ I u' 10 5 = 0 ∧ I u' 10 6 = 0 ∧ I u' 10 10 = 0 ∧ (∀ j, j < 220 → I u' 74 j = -1) ∧ Fr Pb u u' := by
  obtain ⟨u', r1, r2, r3⟩ := beg_loop 220 FU 0 (uI (uI (uI u 10 5 (zI 0)) 10 6 (zI 0)) 10 10 (zI 0)) (by omega) (by unfold FU; omega) (fun j hj => by omega)
  refine ⟨u', ?_, ?_, ?_, ?_, r2, Fr_tr (Fr_up rfl (Fr_up rfl (Fr_up rfl (Fr_rfl _ _)))) (Fr_up2 (fun k i hk => by simp at hk; simp [Pb, hk]) r3)⟩
  · unfold fX1_begin
    rw [lt_e, lt_e, lt_e, lt_e]; exact r1
  · rw [Fr_I r3 rfl, I_uI2 _ _ _ _ _ _ (by decide), I_uI2 _ _ _ _ _ _ (by decide), I_uI1 _ _ _ _ (by decide) (by decide)]
  · rw [Fr_I r3 rfl, I_uI2 _ _ _ _ _ _ (by decide), I_uI1 _ _ _ _ (by decide) (by decide)]
  · rw [Fr_I r3 rfl, I_uI1 _ _ _ _ (by decide) (by decide)]
