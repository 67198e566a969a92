/-! comes: one step -/
theorem comes_st0 (R : Nat → Int32 → Int32 → Int32 → Int32 → Int32 → Int32 → Int32 → Int32 → Int32 → St → Option (Int32 × St)) (v : St) (k a j J : Nat) (but y V : Int) (hk : k < 100) (ha : a + j < 1200) (hJ : J < 400) (h89 : I v 100 89 = J) (h106 : I v 106 k = a) (hb0 : -1 ≤ but) (hb1 : but < 2000) (hbj : but ≠ j) (hV0 : 0 ≤ V) (hV1 : V < 1000) : ∃ U8, fX12_comes_L0_0 R (zI k) (zI but) (zI (-1)) (zI V) (zI y) (zI j) v = R 1 (zI k) (zI but) (zI (-1)) (zI V) (zI y) (zI j) (zI J) (zI J) (zI 0) U8 ∧ I U8 100 89 = ((J + 1 : Nat) : Int) ∧ I U8 150 J = ((a + j : Nat) : Int) ∧ I U8 151 J = V ∧ I U8 152 J = -1 ∧ Fr (fun k i => (k == 100 && i == 89) || ((k == 150 || k == 151 || k == 152) && i == J)) v U8 := by
  have e2 : (a : Int) + j = ((a + j : Nat) : Int) := by omega
  have e3 : (J : Int) + 1 = ((J + 1 : Nat) : Int) := by omega
  unfold fX12_comes_L0_0
  simp (disch := omega) only [z_lit, z_lt, if_neg, if_false, z_eq, lt_e, gI_z, h89, z_add, e3, I_uI2, ld_z, bd_s, Int.toNat_natCast, h106, st_z, e2, z_le]
  refine ⟨_, rfl, ?_, ?_, ?_, ?_, ?_⟩
  · simp (disch := omega) only [I_uI1, I_uI2]
  · simp (disch := omega) only [I_uI1, I_uI2]
  · simp (disch := omega) only [I_uI1, I_uI2]
  · simp (disch := omega) only [I_uI1, I_uI2]
  · repeat (first | exact Fr_rfl _ _ | refine Fr_up (by simp) ?_)
theorem comes_st1 (R : Nat → Int32 → Int32 → Int32 → Int32 → Int32 → Int32 → Int32 → Int32 → Int32 → St → Option (Int32 × St)) (v : St) (k a j J p : Nat) (but y V pth : Int) (hk : k < 100) (ha : a + j < 1200) (hJ : J < 400) (h89 : I v 100 89 = J) (h106 : I v 106 k = a) (hb0 : -1 ≤ but) (hb1 : but < 2000) (hbj : but ≠ j) (hV0 : 0 ≤ V) (hV1 : V < 1000) (p2 : p < J) (p3 : I v 153 p = pth - 1) (p4 : 0 ≤ pth) (p5 : pth < 1000) : ∃ U8, fX12_comes_L0_0 R (zI k) (zI but) (zI p) (zI V) (zI y) (zI j) v = R 1 (zI k) (zI but) (zI p) (zI V) (zI y) (zI j) (zI J) (zI J) (zI pth) U8 ∧ I U8 100 89 = ((J + 1 : Nat) : Int) ∧ I U8 150 J = ((a + j : Nat) : Int) ∧ I U8 151 J = V ∧ I U8 152 J = p ∧ Fr (fun k i => (k == 100 && i == 89) || ((k == 150 || k == 151 || k == 152) && i == J)) v U8 := by
  have e2 : (a : Int) + j = ((a + j : Nat) : Int) := by omega
  have e3 : (J : Int) + 1 = ((J + 1 : Nat) : Int) := by omega
  have e5 : pth - 1 + 1 = pth := by omega
  unfold fX12_comes_L0_0
  simp (disch := omega) only [z_lit, z_lt, if_neg, if_false, z_eq, lt_e, gI_z, h89, z_add, e3, I_uI2, ld_z, bd_s, Int.toNat_natCast, h106, st_z, e2, z_le, if_pos, if_true, p3, e5]
  refine ⟨_, rfl, ?_, ?_, ?_, ?_, ?_⟩
  · simp (disch := omega) only [I_uI1, I_uI2]
  · simp (disch := omega) only [I_uI1, I_uI2]
  · simp (disch := omega) only [I_uI1, I_uI2]
  · simp (disch := omega) only [I_uI1, I_uI2]
  · repeat (first | exact Fr_rfl _ _ | refine Fr_up (by simp) ?_)
theorem comes_one (G : Nat) (U8 : St) (x1 x2 x3 x4 : Int32) (y : Int32) (j J : Nat) (pth : Int32) (hJ : J < 400) : fX12_comes_L0 (G + 1) 1 x1 x2 x3 x4 y (zI j) (zI J) (zI J) pth U8 = fX12_comes_L0 G 0 x1 x2 x3 x4 (zI J) (zI ((j : Int) - 1)) 0 0 0 (uI (uI U8 153 J pth) 167 J y) := by
  have e1 : (j : Int) + -1 = (j : Int) - 1 := by omega
  have st : fX12_comes_L0 (G + 1) 1 x1 x2 x3 x4 y (zI j) (zI J) (zI J) pth U8 = fX12_comes_L0_1 (fX12_comes_L0 G) x1 x2 x3 x4 y (zI j) (zI J) (zI J) pth U8 := rfl
  rw [st]
  generalize fX12_comes_L0 G = R
  unfold fX12_comes_L0_1
  rw [st_z _ _ _ _ _ (by omega) (by omega), bd_s, st_z _ _ _ _ _ (by omega) (by omega), bd_s, lt_e, Int.toNat_natCast, show (1 : Int32) = zI 1 from rfl, z_neg, z_add, e1]
theorem comes_step (G : Nat) (v : St) (k a j J : Nat) (but ab y pth V : Int) (hk : k < 100) (ha : a + j < 1200) (hJ : J < 400) (h89 : I v 100 89 = J) (h106 : I v 106 k = a) (hb0 : -1 ≤ but) (hb1 : but < 2000) (hbj : but ≠ j) (hy0 : -1 ≤ y) (hy1 : y < 1000) (hV0 : 0 ≤ V) (hV1 : V < 1000) (hab : (ab = -1 ∧ pth = 0) ∨ (∃ p : Nat, ab = p ∧ p < J ∧ I v 153 p = pth - 1 ∧ 0 ≤ pth ∧ pth < 1000)) : ∃ U, fX12_comes_L0 (G + 2) 0 (zI k) (zI but) (zI ab) (zI V) (zI y) (zI j) 0 0 0 v = fX12_comes_L0 G 0 (zI k) (zI but) (zI ab) (zI V) (zI J) (zI ((j : Int) - 1)) 0 0 0 U ∧ I U 100 89 = ((J + 1 : Nat) : Int) ∧ I U 150 J = ((a + j : Nat) : Int) ∧ I U 151 J = V ∧ I U 152 J = ab ∧ I U 153 J = pth ∧ I U 167 J = y ∧ Fr (fun k i => (k == 100 && i == 89) || ((k == 150 || k == 151 || k == 152 || k == 153 || k == 167) && i == J)) v U := by
  have st : fX12_comes_L0 (G + 2) 0 (zI k) (zI but) (zI ab) (zI V) (zI y) (zI j) 0 0 0 v = fX12_comes_L0_0 (fX12_comes_L0 (G + 1)) (zI k) (zI but) (zI ab) (zI V) (zI y) (zI j) v := rfl
  obtain ⟨U8, k1, k2, k3, k4, k5, k6⟩ : ∃ U8, fX12_comes_L0_0 (fX12_comes_L0 (G + 1)) (zI k) (zI but) (zI ab) (zI V) (zI y) (zI j) v = fX12_comes_L0 (G + 1) 1 (zI k) (zI but) (zI ab) (zI V) (zI y) (zI j) (zI J) (zI J) (zI pth) U8 ∧ I U8 100 89 = ((J + 1 : Nat) : Int) ∧ I U8 150 J = ((a + j : Nat) : Int) ∧ I U8 151 J = V ∧ I U8 152 J = ab ∧ Fr (fun k i => (k == 100 && i == 89) || ((k == 150 || k == 151 || k == 152) && i == J)) v U8 := by
    rcases hab with ⟨ha1, ha2⟩ | ⟨p, p1, p2, p3, p4, p5⟩
    · subst ha1; subst ha2
      exact comes_st0 _ v k a j J but y V hk ha hJ h89 h106 hb0 hb1 hbj hV0 hV1
    · subst p1
      exact comes_st1 _ v k a j J p but y V pth hk ha hJ h89 h106 hb0 hb1 hbj hV0 hV1 p2 p3 p4 p5
  have hp : 0 ≤ pth ∧ pth < 1000 := by
    rcases hab with ⟨_, h⟩ | ⟨p, _, _, _, h4, h5⟩
    · omega
    · exact ⟨h4, h5⟩
  rw [st, k1, comes_one G U8 _ _ _ _ _ j J _ hJ]
  refine ⟨uI (uI U8 153 J (zI pth)) 167 J (zI y), rfl, ?_, ?_, ?_, ?_, ?_, ?_, ?_⟩
  · simp (disch := omega) only [I_uI1, I_uI2]; exact k2
  · simp (disch := omega) only [I_uI1, I_uI2]; exact k3
  · simp (disch := omega) only [I_uI1, I_uI2]; exact k4
  · simp (disch := omega) only [I_uI1, I_uI2]; exact k5
  · simp (disch := omega) only [I_uI1, I_uI2]
  · simp (disch := omega) only [I_uI1, I_uI2]
  · refine Fr_up (by simp) (Fr_up (by simp) (Fr_mono (fun k i hk => ?_) k6))
    simp only [Bool.or_eq_false_iff, Bool.and_eq_false_iff] at hk ⊢
    refine ⟨hk.1, ?_⟩
    rcases hk.2 with h | h
    · exact Or.inl h.1.1
    · exact Or.inr h
