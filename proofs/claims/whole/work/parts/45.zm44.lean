/-! a start clause is tried -/
def SH (u v : St) (C : Nat) (fi ps : Nat → Nat) (nv c : Nat → Int) (e : Nat → Nat) (mst lim : Int) (k : Nat) : Prop := SR u v C fi ps nv c e ∧ I u 9 9 = 0 ∧ I u 65 0 = 0 ∧ I u 66 0 = -1 ∧ I u 68 0 = 0 ∧ I u 69 0 = 0 ∧ I u 70 0 = 0 ∧ I u 67 0 = (k : Int) - 1 ∧ (∃ T, BCs u T) ∧ Cn u v mst lim ∧ I v 100 98 = 0 ∧ I v 100 99 = 0
theorem rl_head0 {u : St} {T : List (Nat × Nat × Int)} (x1 : Int) (ht : I u 9 9 = 0) (h68 : I u 68 0 = 0) (h69 : I u 69 0 = 0) (h70 : I u 70 0 = 0) (hB : BCs u T) (hx0 : 0 ≤ x1) (hx : x1 < 1000000) : ∃ u8, (∀ F, fX3_runLimit_L0 (F + 1) 0 (zI x1) u = b2 (fX3_advance u8) (CT (fX3_runLimit_L0 F) (zI x1))) ∧ BC u8 [] ∧ TC u8 [] ∧ I u8 7 6 = 0 ∧ I u8 7 7 = 0 ∧ Fr PH u u8 := by
  obtain ⟨t1, t2, t3, t4, t5⟩ := hB
  obtain ⟨u4, b1, b2', b3, b4⟩ := unbind_loop (T := []) T FU u (by unfold FU; omega) (by rw [List.append_nil]; exact t3) (by rw [List.append_nil]; exact fun x hx => Nat.lt_trans (t4 x hx) (by decide)) (by rw [List.append_nil]; exact t5) (by rw [List.append_nil]; exact t1) (by rw [List.append_nil]; exact t2)
  have F1 : Fr (P1 7 6) u4 (uI u4 7 6 (zI 0)) := Fr_up (by simp [P1]) (Fr_rfl _ _)
  have F2 : Fr (P1 7 7) (uI u4 7 6 (zI 0)) (uI (uI u4 7 6 (zI 0)) 7 7 (zI 0)) := Fr_up (by simp [P1]) (Fr_rfl _ _)
  have g9 : I u4 9 9 = 0 := by rw [Fr_I b4 rfl]; exact ht
  have g69 : I u4 69 0 = 0 := by rw [Fr_I b4 rfl]; exact h69
  have g9' : I (uI u4 7 6 (zI 0)) 9 9 = 0 := by rw [Fr_I F1 (by simp [P1])]; exact g9
  have g70 : I (uI u4 7 6 (zI 0)) 70 0 = 0 := by rw [Fr_I F1 (by simp [P1]), Fr_I b4 rfl]; exact h70
  have hub : fX5_unbind (zI 0) u = some u4 := b1
  have tn0 : Int.toNat 0 = 0 := rfl
  refine ⟨uI (uI u4 7 6 (zI 0)) 7 7 (zI 0), fun F => ?_, ?_, TC_fr F2 (by simp [P1]) (fun i => by simp [P1]) (TC_fr F1 (by simp [P1]) (fun i => by simp [P1]) b3), ?_, ?_, ?_⟩
  · have st : fX3_runLimit_L0 (F + 1) 0 (zI x1) u = fX3_runLimit_L0_0 (fX3_runLimit_L0 F) (zI x1) u := rfl
    rw [st]
    generalize fX3_runLimit_L0 F = R
    unfold fX3_runLimit_L0_0
    rw [if_neg (by rw [z_lit, z_le (by decide) (by decide) (by omega) (by omega)]; omega), gI_z u 9 9, ht, if_neg (by decide), ld_z _ _ _ _ (by decide) (by decide), bd_s, tn0, h68, hub, bd_s, gI_z u4 9 9, g9, ld_z _ _ _ _ (by decide) (by decide), bd_s, tn0, g69, lt_e, gI_z _ 9 9, g9', ld_z _ _ _ _ (by decide) (by decide), bd_s, tn0, g70, lt_e]
    rfl
  · intro w hw
    rw [Fr_I F2 (by simp [P1]), Fr_I F1 (by simp [P1]), Fr_I F2 (by simp [P1]), Fr_I F1 (by simp [P1])]
    exact b2' w hw
  · rw [Fr_I F2 (by simp [P1]), I_uI1 _ _ _ _ (by decide) (by decide)]
  · exact I_uI1 _ _ _ _ (by decide) (by decide)
  · refine Fr_tr (Fr_up2 (fun k i hk => ?_) b4) (Fr_tr (Fr_up2 (fun k i hk => ?_) F1) (Fr_up2 (fun k i hk => ?_) F2))
    · simp [PH, hk]
    · simp [P1] at hk; simp [PH, hk.1, hk.2]
    · simp [P1] at hk; simp [PH, hk.1, hk.2]
theorem nc_start (u u2 : St) (k : Nat) (r : Int) (ht : I u 9 9 = 0) (hk : I u 65 0 = 0) (h67 : I u 67 0 = (k : Int) - 1) (hr : r = 0 ∨ r = 1) (hn : fX3_nextStart_L0 FU 0 (zI k) u = some (zI r, u2)) : fX3_nextChoice u = some (zI r, u2) := by
  have tn0 : Int.toNat 0 = 0 := rfl
  unfold fX3_nextChoice fX3_nextStart
  rw [gI_z u 9 9, ht, ld_z _ _ _ _ (by decide) (by decide), bd_s, tn0, hk, if_pos q0, ld_z _ _ _ _ (by decide) (by decide), bd_s, tn0, h67, lt_e, show (1 : Int32) = zI 1 from rfl, z_add, show (k : Int) - 1 + 1 = k by omega, hn, b2_s, zb_z hr, bd_s]
theorem av_start (G : Nat) (u u2 : St) (x1 s mst : Int) (h0 : 0 ≤ x1) (h1 : x1 < 1000000) (hn : fX3_nextChoice u = some (1, u2)) (h13 : I u2 9 13 = s) (h11 : I u2 9 11 = mst) (hs : s < mst) (hs0 : 0 ≤ s) (hm : mst ≤ 20000) (ht : I u2 9 9 = 0) (hk : I u2 65 0 = 0) : fX3_advance_L0 (G + 1) 0 (zI x1) 0 u = fX3_advance_L0 G 1 (zI x1) (zI 1) (uI u2 9 13 (zI (s + 1))) := by
  have tn0 : Int.toNat 0 = 0 := rfl
  have st : fX3_advance_L0 (G + 1) 0 (zI x1) 0 u = fX3_advance_L0_0 (fX3_advance_L0 G) (zI x1) u := rfl
  have hF : Fr (fun k i => k == 9 && i == 13) u2 (uI u2 9 13 (zI (s + 1))) := Fr_up rfl (Fr_rfl _ _)
  rw [st]
  generalize fX3_advance_L0 G = R
  unfold fX3_advance_L0_0
  rw [if_neg (by rw [z_lit, z_le (by decide) (by decide) (by omega) (by omega)]; omega), hn, b2_s, if_neg (by decide), gI_z u2 9 13, gI_z u2 9 11, h13, h11, if_pos (by rw [z_lt (by omega) (by omega) (by omega) (by omega)]; omega), show (1 : Int32) = zI 1 from rfl, z_add, lt_e, lt_e, gI_z _ 9 9, Fr_I hF (show (fun k i => k == 9 && i == 13) 9 9 = false from rfl), ht, ld_z _ _ _ _ (by decide) (by decide), bd_s, tn0, Fr_I hF (show (fun k i => k == 9 && i == 13) 65 0 = false from rfl), hk, if_neg (by decide), bd_s, if_neg (by decide)]
theorem grow_start (u : St) (k : Nat) (x : Int32) (u' : St) (ht : I u 9 9 = 0) (hk : I u 65 0 = 0) (h66 : I u 66 0 = -1) (h67 : I u 67 0 = k) (hf : fX5_fits (zI k) u = some (1, u)) (ha : fX5_add (zI k) (zI (-1)) (zI (-1)) u = some (x, u')) : fX3_grow u = some (2, uI u' 9 10 x) := by
  have tn0 : Int.toNat 0 = 0 := rfl
  have hr : fX3_rowOf (zI 0) u = some (zI k, u) := by
    unfold fX3_rowOf
    rw [ld_z _ _ _ _ (by decide) (by decide), bd_s, tn0, hk, if_pos q0, ld_z _ _ _ _ (by decide) (by decide), bd_s, tn0, h67]
  unfold fX3_grow
  rw [gI_z u 9 9, ht, ld_z _ _ _ _ (by decide) (by decide), bd_s, tn0, hk, if_neg (by decide), hr, b2_s, hf, b2_s, if_neg (by decide), gI_z u 9 9, ht, ld_z _ _ _ _ (by decide) (by decide), bd_s, tn0, h66, ld_z _ _ _ _ (by decide) (by decide), bd_s, tn0, hk, if_pos q0, show (-1 : Int32) = zI (-1) from rfl, ha, b2_s, lt_e]
theorem ct_fail0 (R : Nat → Int32 → St → Option (Int32 × St)) (x1 : Int) (u : St) (h99 : I u 9 9 = 0) : CT R (zI x1) (zI 3) u = R 0 (zI (x1 + 1)) (uI u 9 9 (zI (-1))) := by
  unfold CT
  rw [if_pos (show zI 3 = 3 from rfl), lt_e, lt_e, gI_z, h99, show (1 : Int32) = zI 1 from rfl, z_sub, z_add]
  rfl
theorem rl_none (F : Nat) (x1 : Int) (u : St) (hx0 : 0 ≤ x1) (hx : x1 < 1000000) (h99 : I u 9 9 = -1) : fX3_runLimit_L0 (F + 1) 0 (zI x1) u = some (3, u) := by
  have st : fX3_runLimit_L0 (F + 1) 0 (zI x1) u = fX3_runLimit_L0_0 (fX3_runLimit_L0 F) (zI x1) u := rfl
  rw [st]
  unfold fX3_runLimit_L0_0
  rw [if_neg (by rw [z_lit, z_le (by decide) (by decide) (by omega) (by omega)]; omega), gI_z u 9 9, h99, if_pos (by decide)]
/-- the reference: a start clause up to its goals -/
theorem sw_open (v v10 v11 v14 v15 : St) (k : Nat) (s m nvk y : Int) (hs : I v 100 101 = s) (hm : I v 100 102 = m) (h0 : 0 ≤ s) (h1 : s < m) (h2 : m ≤ 20000) (hk : k < 100) (h108 : I v 108 k = nvk) (hnv : fX12_newVariables (zI nvk) (uI (uI (uI (uI (uI (uI v 100 101 (zI (s + 1))) 100 93 (zI 0)) 100 92 (zI 0)) 100 89 (zI 0)) 100 110 (zI 0)) 100 105 (zI 0)) = some v10) (htm : fX12_tooMuch (zI k) v10 = some (zI 0, v11)) (hmv : fX12_moved (zI 0) (zI k) (zI (-1)) (zI (-1)) v11 = some v14) (hcm : fX12_comes (zI k) (zI (-1)) (zI (-1)) (zI 0) (zI (-1)) v14 = some (zI y, v15)) (r : Int) (v17 : St) (hr : r = 0 ∨ r = 1) (hso : fX12_solve_L0 FU 0 (zI y) 0 (uI v15 100 120 (zI 0)) = some (zI r, v17)) : fX12_startWith (zI k) v = some (zI r, v17) := by
  have hF : Fr (fun k i => k == 100) v (uI (uI (uI (uI (uI (uI v 100 101 (zI (s + 1))) 100 93 (zI 0)) 100 92 (zI 0)) 100 89 (zI 0)) 100 110 (zI 0)) 100 105 (zI 0)) := Fr_up rfl (Fr_up rfl (Fr_up rfl (Fr_up rfl (Fr_up rfl (Fr_up rfl (Fr_rfl _ _))))))
  have hsv : fX12_solve (zI y) v15 = some (zI r, v17) := hso
  unfold fX12_startWith
  rw [mayStep_yes v s m hs hm h0 h1 h2, b2_s, if_neg (by decide), show (-1 : Int32) = zI (-1) from rfl, show (0 : Int32) = zI 0 from rfl, lt_e, lt_e, lt_e, lt_e, lt_e, ld_z _ _ _ _ (by omega) (by omega), bd_s, Int.toNat_natCast, Fr_I hF (show (fun k _ => k == 100) 108 k = false from rfl), h108, hnv, bd_s, htm, b2_s, if_pos rfl, hmv, bd_s, hcm, b2_s, hsv, b2_s, zb_z hr, bd_s]
theorem sw_spent (v : St) (k : Int32) (s m : Int) (hs : I v 100 101 = s) (hm : I v 100 102 = m) (h : s = m) : fX12_startWith k v = some (0, uI v 100 99 (zI 1)) := by
  unfold fX12_startWith
  rw [mayStep_no v s m hs hm h, b2_s, if_pos rfl]
