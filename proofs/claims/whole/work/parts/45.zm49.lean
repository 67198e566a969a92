/-! the calls search, told, move -/
theorem z_id (x : Int32) : x = zI x.toInt := (Int32.ofInt_toInt x).symm
theorem FO_fr {P Q : Nat → Nat → Bool} {u u' v v' : St} {C : Nat} {fi ps : Nat → Nat} {nv c : Nat → Int} {e : Nat → Nat} (hu : Fr P u u') (hv : Fr Q v v') (hP : ∀ k i, (57 ≤ k ∧ k ≤ 70) ∨ (k = 7 ∧ i = 11) ∨ (k = 9 ∧ (i = 9 ∨ i = 13 ∨ i = 14 ∨ i = 15)) ∨ k = 32 → P k i = false) (hQ : ∀ k i, (150 ≤ k ∧ k ≤ 160) ∨ k = 167 ∨ (k = 100 ∧ (i = 93 ∨ i = 101 ∨ i = 103 ∨ i = 105)) ∨ (111 ≤ k ∧ k ≤ 113) → Q k i = false) (h : FO u v C fi ps nv c e) : FO u' v' C fi ps nv c e := by
  obtain ⟨h1, h2, h3, h4⟩ := h
  have eu : ∀ i, (i = 9 ∨ i = 13 ∨ i = 14 ∨ i = 15) → I u' 9 i = I u 9 i := fun i hi => Fr_I hu (hP 9 i (by omega))
  have ev : ∀ i, (i = 101 ∨ i = 103 ∨ i = 105) → I v' 100 i = I v 100 i := fun i hi => Fr_I hv (hQ 100 i (by omega))
  refine ⟨by rw [eu 13 (by simp), ev 101 (by simp)]; exact h1, by rw [eu 14 (by simp), ev 103 (by simp)]; exact h2, by rw [eu 15 (by simp), ev 105 (by simp)]; exact h3, ?_⟩
  rw [eu 15 (by simp), eu 9 (by simp)]
  rcases h4 with ⟨a1, T, a2⟩ | ⟨a1, a2⟩
  · exact Or.inl ⟨a1, T, BCs_fr hu (fun i => hP _ i (by omega)) (fun i => hP _ i (by omega)) (hP _ _ (by omega)) (fun i => hP _ i (by omega)) a2⟩
  · exact Or.inr ⟨PRF_fr hu hv (fun k i hk => hP k i (by omega)) (fun k i hk => hQ k i (by omega)) a1, a2⟩
theorem FO_BCs {u v : St} {C : Nat} {fi ps : Nat → Nat} {nv c : Nat → Int} {e : Nat → Nat} (h : FO u v C fi ps nv c e) : ∃ T, BCs u T := by
  rcases h.2.2.2 with ⟨_, h⟩ | ⟨⟨φ, Gd, T, L, J, V, n, _, h2, _, _, _, h6, _⟩, _⟩
  · exact h
  · exact ⟨T, UE_BCs (by omega) h2⟩
theorem PRx_0 {v : St} : Fr PRx v (uI v 100 0 (zI 0)) := Fr_up rfl (Fr_rfl _ _)
theorem FO_0 {u v : St} {C : Nat} {fi ps : Nat → Nat} {nv c : Nat → Int} {e : Nat → Nat} (h : FO u v C fi ps nv c e) : FO u (uI v 100 0 (zI 0)) C fi ps nv c e := FO_fr (Fr_rfl (fun _ _ => false) u) (Fr_up (P := P1 100 0) (by simp [P1]) (Fr_rfl _ _)) (fun _ _ _ => rfl) (fun k i hk => by simp [P1]; omega) h
theorem in_spec (a lo hi : Int) (v : St) (h1 : -2147483648 ≤ a) (h2 : a < 2147483648) (h3 : -2147483648 ≤ lo) (h4 : lo < 2147483648) (h5 : -2147483648 ≤ hi) (h6 : hi < 2147483648) : fX12_in (zI a) (zI lo) (zI hi) v = some (zI (if lo ≤ a ∧ a ≤ hi then 1 else 0), v) := by
  unfold fX12_in
  by_cases c1 : a < lo
  · rw [if_pos (by rw [z_lt h1 h2 h3 h4]; exact c1), if_neg (by omega)]; rfl
  · rw [if_neg (by rw [z_lt h1 h2 h3 h4]; exact c1)]
    by_cases c2 : hi < a
    · rw [if_pos (by rw [z_lt h5 h6 h1 h2]; exact c2), if_neg (by omega)]; rfl
    · rw [if_neg (by rw [z_lt h5 h6 h1 h2]; exact c2), if_pos (by omega)]; rfl
theorem search_spec {u v : St} {C : Nat} {fi ps : Nat → Nat} {nv c : Nat → Int} {e : Nat → Nat} (a0 a1 : Int32) (hS : SR u v C fi ps nv c e) (hFO : FO u v C fi ps nv c e) : ∃ r u1 v1, fX11_search a0 a1 u = some (r, u1) ∧ fX12_search a0 a1 v = some (r, v1) ∧ SR u1 v1 C fi ps nv c e ∧ FO u1 v1 C fi ps nv c e ∧ Fr PSx u u1 ∧ Fr PRx v v1 := by
  obtain ⟨x, hx, hx1, hx2⟩ : ∃ x : Int, a0 = zI x ∧ -2147483648 ≤ x ∧ x < 2147483648 := ⟨a0.toInt, z_id a0, Int32.le_toInt _, Int32.toInt_lt _⟩
  obtain ⟨y, hy, hy1, hy2⟩ : ∃ y : Int, a1 = zI y ∧ -2147483648 ≤ y ∧ y < 2147483648 := ⟨a1.toInt, z_id a1, Int32.le_toInt _, Int32.toInt_lt _⟩
  subst hx; subst hy
  have hin1 := in_spec x 1 20 (uI v 100 0 (zI 0)) hx1 hx2 (by decide) (by decide) (by decide) (by decide)
  have hin2 := in_spec y 0 20000 (uI v 100 0 (zI 0)) hy1 hy2 (by decide) (by decide) (by decide) (by decide)
  have hS0 : SR u (uI v 100 0 (zI 0)) C fi ps nv c e := SR_x (Fr_rfl _ _) PRx_0 hS
  by_cases c1 : 1 ≤ x ∧ x ≤ 20
  · by_cases c2 : 0 ≤ y ∧ y ≤ 20000
    · -- a search
      rw [if_pos c1] at hin1
      rw [if_pos c2] at hin2
      obtain ⟨most, hmost⟩ : ∃ most : Nat, x = most := ⟨x.toNat, by omega⟩
      subst hmost
      have Fa : Fr (fun k i => k == 9 && (i == 13 || i == 14 || i == 15 || i == 11)) u (uI (uI (uI (uI (uI u 9 13 (zI 0)) 9 14 (zI 0)) 9 15 (zI 0)) 9 11 (zI y)) 9 14 (zI 1)) := Fr_up rfl (Fr_up rfl (Fr_up rfl (Fr_up rfl (Fr_up rfl (Fr_rfl _ _)))))
      have c13 : I (uI (uI (uI (uI (uI u 9 13 (zI 0)) 9 14 (zI 0)) 9 15 (zI 0)) 9 11 (zI y)) 9 14 (zI 1)) 9 13 = 0 := by simp (disch := omega) only [I_uI1, I_uI2]
      have c15 : I (uI (uI (uI (uI (uI u 9 13 (zI 0)) 9 14 (zI 0)) 9 15 (zI 0)) 9 11 (zI y)) 9 14 (zI 1)) 9 15 = 0 := by simp (disch := omega) only [I_uI1, I_uI2]
      have c11 : I (uI (uI (uI (uI (uI u 9 13 (zI 0)) 9 14 (zI 0)) 9 15 (zI 0)) 9 11 (zI y)) 9 14 (zI 1)) 9 11 = y := by simp (disch := omega) only [I_uI1, I_uI2]
      have c14 : I (uI (uI (uI (uI (uI u 9 13 (zI 0)) 9 14 (zI 0)) 9 15 (zI 0)) 9 11 (zI y)) 9 14 (zI 1)) 9 14 = ((1 : Nat) : Int) := by simp (disch := omega) only [I_uI1, I_uI2]; rfl
      have hcls : ∀ r u', fX3_run_L0 FU 0 (zI most) 0 (uI (uI (uI (uI (uI u 9 13 (zI 0)) 9 14 (zI 0)) 9 15 (zI 0)) 9 11 (zI y)) 9 14 (zI 1)) = some (r, u') → fX11_search (zI most) (zI y) u = some (r, u') := by
        intro r u' hr
        have hrun : fX3_run (zI most) (zI y) u = some (r, u') := by
          unfold fX3_run fX3_forget
          rw [lt_e, lt_e, lt_e, bd_s, lt_e, lt_e]
          exact hr
        unfold fX11_search
        rw [if_neg (by rw [show (1 : Int32) = zI 1 from rfl, z_lt (by omega) (by omega) (by decide) (by decide)]; omega), if_neg (by rw [z_lit, z_lt (by decide) (by decide) (by omega) (by omega)]; omega), if_neg (by rw [z_zero, z_lt (by omega) (by omega) (by decide) (by decide)]; omega), if_pos (by rw [z_lit, z_le (by omega) (by omega) (by decide) (by decide)]; omega), hrun, b2_s]
      generalize hu : uI (uI (uI (uI (uI u 9 13 (zI 0)) 9 14 (zI 0)) 9 15 (zI 0)) 9 11 (zI y)) 9 14 (zI 1) = ua at *
      have Fb : Fr (fun k i => k == 100 && (i == 0 || i == 101 || i == 102 || i == 98 || i == 99 || i == 104)) v (uI (uI (uI (uI (uI (uI v 100 0 (zI 0)) 100 101 (zI 0)) 100 102 (zI y)) 100 98 (zI 0)) 100 99 (zI 0)) 100 104 (zI 1)) := Fr_up rfl (Fr_up rfl (Fr_up rfl (Fr_up rfl (Fr_up rfl (Fr_up rfl (Fr_rfl _ _))))))
      have d101 : I (uI (uI (uI (uI (uI (uI v 100 0 (zI 0)) 100 101 (zI 0)) 100 102 (zI y)) 100 98 (zI 0)) 100 99 (zI 0)) 100 104 (zI 1)) 100 101 = 0 := by simp (disch := omega) only [I_uI1, I_uI2]
      have d102 : I (uI (uI (uI (uI (uI (uI v 100 0 (zI 0)) 100 101 (zI 0)) 100 102 (zI y)) 100 98 (zI 0)) 100 99 (zI 0)) 100 104 (zI 1)) 100 102 = y := by simp (disch := omega) only [I_uI1, I_uI2]
      have d98 : I (uI (uI (uI (uI (uI (uI v 100 0 (zI 0)) 100 101 (zI 0)) 100 102 (zI y)) 100 98 (zI 0)) 100 99 (zI 0)) 100 104 (zI 1)) 100 98 = 0 := by simp (disch := omega) only [I_uI1, I_uI2]
      have d99 : I (uI (uI (uI (uI (uI (uI v 100 0 (zI 0)) 100 101 (zI 0)) 100 102 (zI y)) 100 98 (zI 0)) 100 99 (zI 0)) 100 104 (zI 1)) 100 99 = 0 := by simp (disch := omega) only [I_uI1, I_uI2]
      have d104 : I (uI (uI (uI (uI (uI (uI v 100 0 (zI 0)) 100 101 (zI 0)) 100 102 (zI y)) 100 98 (zI 0)) 100 99 (zI 0)) 100 104 (zI 1)) 100 104 = ((1 : Nat) : Int) := by simp (disch := omega) only [I_uI1, I_uI2]; rfl
      have href : ∀ r v', fX12_search_L0 FU 0 (zI most) 0 0 0 (uI (uI (uI (uI (uI (uI v 100 0 (zI 0)) 100 101 (zI 0)) 100 102 (zI y)) 100 98 (zI 0)) 100 99 (zI 0)) 100 104 (zI 1)) = some (r, v') → fX12_search (zI most) (zI y) v = some (r, v') := by
        intro r v' hr
        unfold fX12_search
        rw [lt_e, show (1 : Int32) = zI 1 from rfl, show (20 : Int32) = zI 20 from rfl, show (20000 : Int32) = zI 20000 from rfl, show (0 : Int32) = zI 0 from rfl, hin1, b2_s, if_neg (by decide), hin2, b2_s, if_neg (by decide), lt_e, lt_e, lt_e, lt_e, lt_e]
        exact hr
      generalize hv : uI (uI (uI (uI (uI (uI v 100 0 (zI 0)) 100 101 (zI 0)) 100 102 (zI y)) 100 98 (zI 0)) 100 99 (zI 0)) 100 104 (zI 1) = va at *
      have hPSa : Fr PSx u ua := Fr_up2 (fun k i hk => by simp at hk; simp [PSx, PSe]; omega) Fa
      have hPRa : Fr PRx v va := Fr_up2 (fun k i hk => by simp at hk; simp [PRx, PRe]; omega) Fb
      obtain ⟨T, hT⟩ := FO_BCs hFO
      obtain ⟨a, u', v', r1, r2, r3, r4, r5, r6⟩ := run_loop (mst := y) most (by omega) most FU FU 1 ua va (by omega) (by omega) (SR_x hPSa hPRa hS) ⟨T, BCs_fr Fa (fun _ => rfl) (fun _ => rfl) rfl (fun _ => rfl) hT⟩ c11 d102 (by omega) (by omega) (by omega) (by rw [d101, c13]) c14 d104 c15 d98 d99 (Or.inl (by omega)) (by unfold FU; omega) (by unfold FU; omega)
      exact ⟨zI a, u', v', hcls _ _ r1, href _ _ r2, r3, r4, Fr_tr hPSa r5, Fr_tr hPRa r6⟩
    · rw [if_pos c1] at hin1
      rw [if_neg c2] at hin2
      refine ⟨zI (-2), u, uI v 100 0 (zI 0), ?_, ?_, hS0, FO_0 hFO, Fr_rfl _ _, PRx_0⟩
      · unfold fX11_search
        rw [if_neg (by rw [show (1 : Int32) = zI 1 from rfl, z_lt (by omega) (by omega) (by decide) (by decide)]; omega), if_neg (by rw [z_lit, z_lt (by decide) (by decide) (by omega) (by omega)]; omega)]
        by_cases c3 : y < 0
        · rw [if_pos (by rw [z_zero, z_lt (by omega) (by omega) (by decide) (by decide)]; omega)]; rfl
        · rw [if_neg (by rw [z_zero, z_lt (by omega) (by omega) (by decide) (by decide)]; omega), if_neg (by rw [z_lit, z_le (by omega) (by omega) (by decide) (by decide)]; omega)]; rfl
      · unfold fX12_search
        rw [lt_e, show (1 : Int32) = zI 1 from rfl, show (20 : Int32) = zI 20 from rfl, show (20000 : Int32) = zI 20000 from rfl, show (0 : Int32) = zI 0 from rfl, hin1, b2_s, if_neg (by decide), hin2, b2_s, if_pos rfl]
        rfl
  · rw [if_neg c1] at hin1
    refine ⟨zI (-2), u, uI v 100 0 (zI 0), ?_, ?_, hS0, FO_0 hFO, Fr_rfl _ _, PRx_0⟩
    · unfold fX11_search
      by_cases c3 : x < 1
      · rw [if_pos (by rw [show (1 : Int32) = zI 1 from rfl, z_lt (by omega) (by omega) (by decide) (by decide)]; omega)]; rfl
      · rw [if_neg (by rw [show (1 : Int32) = zI 1 from rfl, z_lt (by omega) (by omega) (by decide) (by decide)]; omega), if_pos (by rw [z_lit, z_lt (by decide) (by decide) (by omega) (by omega)]; omega)]; rfl
    · unfold fX12_search
      rw [lt_e, show (1 : Int32) = zI 1 from rfl, show (20 : Int32) = zI 20 from rfl, show (20000 : Int32) = zI 20000 from rfl, show (0 : Int32) = zI 0 from rfl, hin1, b2_s, if_pos rfl]
      rfl
theorem told_spec {u v : St} {C : Nat} {fi ps : Nat → Nat} {nv c : Nat → Int} {e : Nat → Nat} (a0 : Int32) (hFO : FO u v C fi ps nv c e) : ∃ r, fX11_told a0 u = some (r, u) ∧ fX12_told a0 v = some (r, uI v 100 0 (zI 0)) := by
  obtain ⟨h1, h2, h3, _⟩ := hFO
  unfold fX11_told fX12_told
  have e0 : (0 : Int32) = zI 0 := rfl
  have f : ∀ i, i ≠ 0 → gI (uI v 100 0 0) 100 i = gI v 100 i := fun i hi => by rw [e0, gI_z, gI_z, I_uI2 _ _ _ _ _ _ (by omega)]
  rw [lt_e, f 101 (by decide), f 103 (by decide), f 105 (by decide), gI_z u 9 13, gI_z u 9 14, gI_z u 9 15, gI_z v 100 101, gI_z v 100 103, gI_z v 100 105, h1, h2, h3]
  by_cases c0 : a0 = 0
  · rw [if_pos c0, if_pos c0]; exact ⟨_, rfl, rfl⟩
  · rw [if_neg c0, if_neg c0]
    by_cases c1 : a0 = 1
    · rw [if_pos c1, if_pos c1]; exact ⟨_, rfl, rfl⟩
    · rw [if_neg c1, if_neg c1]
      by_cases c2 : a0 = 2
      · rw [if_pos c2, if_pos c2]; exact ⟨_, rfl, rfl⟩
      · rw [if_neg c2, if_neg c2]; exact ⟨_, rfl, rfl⟩
