/-! a start clause is tried: both sides -/
theorem PSe_PH' {u u' : St} (h : Fr PH u u') : Fr PSe u u' := Fr_up2 (fun _ _ hk => PSe_PH hk) h
theorem PSe_PAd {u u' : St} (h : Fr PAd u u') : Fr PSe u u' := Fr_up2 (fun k i hk => by simp [PAd] at hk; simp [PSe]; omega) h
theorem PRe_PCm {u u' : St} (h : Fr PCm u u') : Fr PRe u u' := Fr_up2 (fun k i hk => by simp [PCm] at hk; simp [PRe]; omega) h
theorem PSe_P1 {u u' : St} {k i : Nat} (h : Fr (P1 k i) u u') (hk : PSe k i = true) : Fr PSe u u' := Fr_up2 (fun k' i' hk' => by simp [P1] at hk'; rw [hk'.1, hk'.2]; exact hk) h
theorem PRe_P1 {u u' : St} {k i : Nat} (h : Fr (P1 k i) u u') (hk : PRe k i = true) : Fr PRe u u' := Fr_up2 (fun k' i' hk' => by simp [P1] at hk'; rw [hk'.1, hk'.2]; exact hk) h
theorem PRe_mv {u u' : St} {m : Nat} (h : Fr (Pm m) u u') : Fr PRe u u' := Fr_up2 (fun k i hk => by simp [Pm] at hk; simp [PRe]; omega) h
theorem PRe_tm {u u' : St} (h : Fr (fun k i => k == 100 && (i == 98 || i == 110)) u u') : Fr PRe u u' := Fr_up2 (fun k i hk => by simp at hk; simp [PRe]; omega) h
theorem PRe_nv {u u' : St} (h : Fr (fun k i => k == 154 || (k == 100 && i == 92)) u u') : Fr PRe u u' := Fr_up2 (fun k i hk => by simp at hk; simp [PRe, PRU, PRB]; omega) h
def P0 : Nat → Nat → Bool := fun k i => k == 100 && (i == 101 || i == 93 || i == 92 || i == 89 || i == 110 || i == 105)
theorem PRe_P0 {u u' : St} (h : Fr P0 u u') : Fr PRe u u' := Fr_up2 (fun k i hk => by simp [P0] at hk; simp [PRe]; omega) h
theorem SR_e {u u' v v' : St} {C : Nat} {fi ps : Nat → Nat} {nv c : Nat → Int} {e : Nat → Nat} (h1 : Fr PSe u u') (h2 : Fr PRe v v') (hS : SR u v C fi ps nv c e) : SR u' v' C fi ps nv c e := by
  refine SR_fr h1 h2 ?_ ?_ hS
  · intro k i hk
    unfold PSc at hk
    simp only [Bool.or_eq_true, Bool.and_eq_true, beq_iff_eq] at hk
    rcases hk with (((((h | h) | h) | h) | h) | h) | ⟨h, h2⟩ <;> subst h <;> first | rfl | (subst h2; rfl)
  · intro k i hk
    unfold PSr at hk
    simp only [Bool.or_eq_true, Bool.and_eq_true, beq_iff_eq] at hk
    rcases hk with (((((((h | h) | h) | h) | h) | h) | h) | h) | ⟨h, (h2 | h2) | h2⟩ <;> subst h <;> first | rfl | (subst h2; rfl)
/-- the reference's solve as a whole -/
theorem SH_of_HD {u v : St} {φ : Nat → Nat} {C : Nat} {fi ps : Nat → Nat} {nv c : Nat → Int} {e : Nat → Nat} {mst lim : Int} {Gd : Nat → Prop} (k : Nat) (h : HD u v φ C fi ps nv c e mst lim 0 [] 0 0 0 Gd) (h67 : I u 67 0 = k) : SH u v C fi ps nv c e mst lim (k + 1) := by
  obtain ⟨z1, z2, ⟨X, Vc, z3, z3', z3''⟩, z4, z5, z6, z7, z8⟩ := h
  obtain ⟨_, _, _, _, _, y6⟩ := z2
  exact ⟨z1, z4, y6.1, y6.2.1, y6.2.2.1, y6.2.2.2.1, y6.2.2.2.2.1, by rw [h67]; omega, ⟨_, UE_BCs z3'' z3⟩, z6, z7, z8⟩
theorem start_one {u v : St} {C : Nat} {fi ps : Nat → Nat} {nv c : Nat → Int} {e : Nat → Nat} {mst lim : Int} {k : Nat} (x1 : Int) (F k0 : Nat) (u8 : St) (h : SH u v C fi ps nv c e mst lim k) (hx0 : 0 ≤ x1) (hx : x1 + 2 * (mst - I u 9 13) + 2 < 1000000) (hF : 2 * (mst - I u 9 13) + 3 < F) (hk0 : k0 < C) (ha1 : ∀ F, fX3_runLimit_L0 (F + 1) 0 (zI x1) u = b2 (fX3_advance u8) (CT (fX3_runLimit_L0 F) (zI x1))) (ha2 : BC u8 []) (ha3 : TC u8 []) (ha4 : I u8 7 6 = 0) (ha5 : I u8 7 7 = 0) (ha6 : Fr PH u u8) (hns : fX3_nextStart_L0 FU 0 (zI k) u8 = some (1, uI u8 67 0 (zI k0))) :
    (∃ a a' u' v', fX3_runLimit_L0 F 0 (zI x1) u = some (zI a, u') ∧ fX12_startWith (zI k0) v = some (zI a', v') ∧ SO u v u' v' a a' C fi ps nv c e mst lim) ∨
    (∃ u' v' F' x1', fX3_runLimit_L0 F 0 (zI x1) u = fX3_runLimit_L0 F' 0 (zI x1') u' ∧ fX12_startWith (zI k0) v = some (zI 0, v') ∧ SH u' v' C fi ps nv c e mst lim (k0 + 1) ∧ x1 ≤ x1' ∧ x1' + 2 * (mst - I u' 9 13) ≤ x1 + 2 * (mst - I u 9 13) ∧ (F : Int) + 2 * (mst - I u' 9 13) ≤ F' + 2 * (mst - I u 9 13) ∧ Fr PSe u u' ∧ Fr PRe v v') := by
  obtain ⟨hS, h99, h65, h66, h68, h69, h70, h67, ⟨T, hB⟩, hCn, h98, hsp⟩ := h
  obtain ⟨n1, n2, n3, n4, n5, n6, n7, n8, n9, n10, n11, n12⟩ := hCn
  have hC := hS.1
  have hff := SR_fi hS
  have hT := hS.2.2.2.2.2.2.2.2.2.2.2.2.2
  obtain ⟨k1, k2, k3, k4, k5, k6, k7, k8, k9⟩ := hS.2.2.2.2.2.2.1 k0 hk0
  obtain ⟨F', rfl⟩ : ∃ F', F = F' + 1 := ⟨F - 1, by omega⟩
  have e8 : ∀ k i, PH k i = false → I u8 k i = I u k i := fun k i hk => Fr_I ha6 hk
  have hnc := nc_start u8 _ k 1 (by rw [e8 _ _ rfl]; exact h99) (by rw [e8 _ _ rfl]; exact h65) (by rw [e8 _ _ rfl]; exact h67) (Or.inr rfl) hns
  have F2 : Fr (P1 67 0) u8 (uI u8 67 0 (zI k0)) := Fr_up (by simp [P1]) (Fr_rfl _ _)
  have c67 : I (uI u8 67 0 (zI k0)) 67 0 = k0 := I_uI1 _ _ _ _ (by omega) (by omega)
  generalize hu2 : uI u8 67 0 (zI k0) = u2 at *
  have e2 : ∀ k i, PH k i = false → k ≠ 67 → I u2 k i = I u k i := fun k i hk h' => by rw [Fr_I F2 (by simp [P1, h']), e8 k i hk]
  have hPS2 : Fr PSe u u2 := Fr_tr (PSe_PH' ha6) (PSe_P1 F2 rfl)
  by_cases hsm : I u 9 13 < mst
  · -- a step
    have hav : fX3_advance u8 = fX3_advance_L0 (999999998 + 1) 1 (zI 0) (zI 1) (uI u2 9 13 (zI (I u 9 13 + 1))) := av_start (999999998 + 1) u8 u2 0 (I u 9 13) mst (by decide) (by decide) hnc (by rw [e2 _ _ rfl (by decide)]) (by rw [e2 _ _ rfl (by decide)]; exact n1) hsm n3 n5 (by rw [e2 _ _ rfl (by decide)]; exact h99) (by rw [e2 _ _ rfl (by decide)]; exact h65)
    have F6 : Fr (P1 9 13) u2 (uI u2 9 13 (zI (I u 9 13 + 1))) := Fr_up (by simp [P1]) (Fr_rfl _ _)
    have c13 : I (uI u2 9 13 (zI (I u 9 13 + 1))) 9 13 = I u 9 13 + 1 := I_uI1 _ _ _ _ (by omega) (by omega)
    generalize hu6 : uI u2 9 13 (zI (I u 9 13 + 1)) = u6 at *
    have e6 : ∀ k i, PH k i = false → k ≠ 67 → (k ≠ 9 ∨ i ≠ 13) → I u6 k i = I u k i := fun k i hk h' h2 => by rw [Fr_I F6 (by simp [P1]; omega), e2 k i hk h']
    have hPS6 : Fr PSe u u6 := Fr_tr hPS2 (PSe_P1 F6 rfl)
    have d67 : I u6 67 0 = k0 := by rw [Fr_I F6 (by simp [P1])]; exact c67
    have d76 : I u6 7 6 = 0 := by rw [Fr_I F6 (by simp [P1]), Fr_I F2 (by simp [P1])]; exact ha4
    have d77 : I u6 7 7 = 0 := by rw [Fr_I F6 (by simp [P1]), Fr_I F2 (by simp [P1])]; exact ha5
    -- the reference
    have Fv0 : Fr P0 v (uI (uI (uI (uI (uI (uI v 100 101 (zI (I u 9 13 + 1))) 100 93 (zI 0)) 100 92 (zI 0)) 100 89 (zI 0)) 100 110 (zI 0)) 100 105 (zI 0)) := Fr_up rfl (Fr_up rfl (Fr_up rfl (Fr_up rfl (Fr_up rfl (Fr_up rfl (Fr_rfl _ _))))))
    have z101 : I (uI (uI (uI (uI (uI (uI v 100 101 (zI (I u 9 13 + 1))) 100 93 (zI 0)) 100 92 (zI 0)) 100 89 (zI 0)) 100 110 (zI 0)) 100 105 (zI 0)) 100 101 = I u 9 13 + 1 := by simp (disch := omega) only [I_uI1, I_uI2]
    have z93 : I (uI (uI (uI (uI (uI (uI v 100 101 (zI (I u 9 13 + 1))) 100 93 (zI 0)) 100 92 (zI 0)) 100 89 (zI 0)) 100 110 (zI 0)) 100 105 (zI 0)) 100 93 = 0 := by simp (disch := omega) only [I_uI1, I_uI2]
    have z92 : I (uI (uI (uI (uI (uI (uI v 100 101 (zI (I u 9 13 + 1))) 100 93 (zI 0)) 100 92 (zI 0)) 100 89 (zI 0)) 100 110 (zI 0)) 100 105 (zI 0)) 100 92 = ((0 : Nat) : Int) := by simp (disch := omega) only [I_uI1, I_uI2]; rfl
    have z89 : I (uI (uI (uI (uI (uI (uI v 100 101 (zI (I u 9 13 + 1))) 100 93 (zI 0)) 100 92 (zI 0)) 100 89 (zI 0)) 100 110 (zI 0)) 100 105 (zI 0)) 100 89 = 0 := by simp (disch := omega) only [I_uI1, I_uI2]
    have z110 : I (uI (uI (uI (uI (uI (uI v 100 101 (zI (I u 9 13 + 1))) 100 93 (zI 0)) 100 92 (zI 0)) 100 89 (zI 0)) 100 110 (zI 0)) 100 105 (zI 0)) 100 110 = 0 := by simp (disch := omega) only [I_uI1, I_uI2]
    have z105 : I (uI (uI (uI (uI (uI (uI v 100 101 (zI (I u 9 13 + 1))) 100 93 (zI 0)) 100 92 (zI 0)) 100 89 (zI 0)) 100 110 (zI 0)) 100 105 (zI 0)) 100 105 = 0 := by simp (disch := omega) only [I_uI1, I_uI2]
    have hsw := fun v10 v11 v14 v15 y hnv htm hmv hcm r v17 hr hso => sw_open v v10 v11 v14 v15 k0 (I u 9 13) mst (nv k0) y n6 n2 n3 hsm n5 (by omega) k6 hnv htm hmv hcm r v17 hr hso
    generalize hv0 : uI (uI (uI (uI (uI (uI v 100 101 (zI (I u 9 13 + 1))) 100 93 (zI 0)) 100 92 (zI 0)) 100 89 (zI 0)) 100 110 (zI 0)) 100 105 (zI 0) = w0 at *
    obtain ⟨n, hn⟩ : ∃ n : Nat, nv k0 = n := ⟨(nv k0).toNat, by omega⟩
    have hRT0 := RT_fr Fv0 (fun _ => rfl) (fun _ => rfl) (fun _ => rfl) hS.2.2.2.2.2.2.2.2.2.2.2.2.1
    obtain ⟨v10, s1, s2, s3, s4, s5⟩ := newVariables_spec (c := c) (e := e) (N := ps (fi C)) (V := 0) (n := n) (T := []) (v := w0) (by omega) z92 (GT_nil _ _ _ _) ⟨hRT0, by decide, fun w hw => by omega⟩ ⟨z93, trivial⟩
    rw [Nat.zero_add] at s2 s3
    have hPR10 : Fr PRe v v10 := Fr_tr (PRe_P0 Fv0) (PRe_nv s5)
    have hS10 : SR u6 v10 C fi ps nv c e := SR_e hPS6 hPR10 hS
    have hfit := fits_spec hS10 hk0 0 0 d76 d77 (by decide) (by decide) (by decide) (by decide)
    rw [if_pos ⟨by omega, by omega⟩] at hfit
    obtain ⟨v11, t1, t2, t3, t4⟩ := tooMuch_spec hS10 hk0 0 (n : Int) (by rw [Fr_I s5 rfl]; exact z110) s2 (by rw [Fr_I s5 rfl, Fr_I Fv0 rfl]; exact h98) (by decide) (by decide) (by omega) (by omega)
    rw [if_pos ⟨by omega, by omega⟩] at t1 t2
    obtain ⟨v14, d1, d2, d3, d4, d5, d6, d7⟩ := moved_spec v11 0 0 k0 (-1) (-1) (by decide) (by rw [Fr_I t4 rfl, Fr_I s5 rfl]; exact z105) (by decide) (by decide) (by omega) (by omega) (by decide) (by decide) (by decide) (by decide)
    have hPR14 : Fr PRe v v14 := Fr_tr hPR10 (Fr_tr (PRe_tm t4) (PRe_mv d7))
    have hS14 : SR u6 v14 C fi ps nv c e := SR_e hPS6 hPR14 hS
    have hTB0 : TB u6 v14 (fun t => t) 0 0 0 C fi nv (fun _ => False) := fun t ht => ht.elim
    obtain ⟨x', y', u'', v'', φ', Gd', q, J', a1, a2, a3, a4, a5, a6, a7, a8, a9, a10, a11, a12, a13, a14, a15, a16, a17⟩ := add_comes hS14 hTB0 k0 0 (-1) (-1) (-1) (-1) (-1) hk0 (Nat.le_refl _) (by omega) (Int.le_refl _) (by decide) d76 d77 (by rw [Fr_I d7 rfl, Fr_I t4 rfl, Fr_I s5 rfl]; exact z89) (Or.inl ⟨rfl, rfl, rfl, rfl⟩) (Or.inl ⟨rfl, rfl⟩)
    simp only [Nat.zero_add, Int.zero_add] at a3 a5 a9 a10 a11 a12
    have hgr := grow_start u6 k0 (zI x') u'' (by rw [e6 _ _ rfl (by decide) (by omega)]; exact h99) (by rw [e6 _ _ rfl (by decide) (by omega)]; exact h65) (by rw [e6 _ _ rfl (by decide) (by omega)]; exact h66) d67 hfit a1
    have hxr := NR_rng a8 (fun t ht => ⟨(a3 t ht).1, (a3 t ht).2.1⟩) (by omega) (by omega)
    have Fa : Fr (P1 9 10) u'' (uI u'' 9 10 (zI x')) := Fr_up (by simp [P1]) (Fr_rfl _ _)
    have Fb : Fr (P1 100 120) v'' (uI v'' 100 120 (zI 0)) := Fr_up (by simp [P1]) (Fr_rfl _ _)
    have xa : I (uI u'' 9 10 (zI x')) 9 10 = x' := I_uI1 _ _ _ _ (by omega) (by omega)
    have xb : I (uI v'' 100 120 (zI 0)) 100 120 = 0 := I_uI1 _ _ _ _ (by decide) (by decide)
    have hadv : fX3_advance u8 = some (2, uI u'' 9 10 (zI x')) := by rw [hav]; exact av_yes 999999998 u6 _ _ 2 hgr
    have hnvz : fX12_newVariables (zI (nv k0)) w0 = some v10 := by rw [hn]; exact s1
    have hsw2 := fun r v17 hr hso => hsw v10 v11 v14 v'' y' hnvz t1 d1 a2 r v17 hr hso
    clear hsw
    generalize huf : uI u'' 9 10 (zI x') = uf at *
    generalize hvf : uI v'' 100 120 (zI 0) = vf at *
    have hPSf : Fr PSe u uf := Fr_tr hPS6 (Fr_tr (PSe_PAd a16) (PSe_P1 Fa rfl))
    have hPRf : Fr PRe v vf := Fr_tr hPR14 (Fr_tr (PRe_PCm a17) (PRe_P1 Fb rfl))
    have hSf : SR uf vf C fi ps nv c e := SR_e hPSf hPRf hS
    have eu : ∀ k i, PH k i = false → PAd k i = false → k ≠ 67 → k ≠ 9 → I uf k i = I u k i := fun k i h h' h2 h3 => by rw [Fr_I Fa (by simp [P1, h3]), Fr_I a16 h', e6 k i h h2 (Or.inl h3)]
    have eu9 : ∀ i, i ≠ 10 → i ≠ 13 → I uf 9 i = I u 9 i := fun i h h' => by rw [Fr_I Fa (by simp [P1, h]), Fr_I a16 rfl, e6 9 i rfl (by decide) (Or.inr h')]
    have su : I uf 9 13 = I u 9 13 + 1 := by rw [Fr_I Fa rfl, Fr_I a16 rfl]; exact c13
    have f67 : I uf 67 0 = k0 := by rw [Fr_I Fa (by simp [P1]), Fr_I a16 rfl]; exact d67
    have ev0 : ∀ i, i ≠ 120 → i ≠ 89 → i ≠ 105 → i ≠ 98 → i ≠ 110 → i ≠ 92 → i ≠ 101 → i ≠ 93 → I vf 100 i = I v 100 i := fun i h1 h2 h3 h4 h5 h6 h7 h8 => by
      rw [Fr_I Fb (by simp [P1]; omega), Fr_I a17 (by simp [PCm]; omega), Fr_I d7 (by simp [Pm]; omega), Fr_I t4 (by simp; omega), Fr_I s5 (by simp; omega), Fr_I Fv0 (by simp [P0]; omega)]
    have em : ∀ k, (157 ≤ k ∧ k ≤ 160) → I vf k 0 = I v14 k 0 := fun k hk => by
      rw [Fr_I Fb (by simp [P1]), Fr_I a17 (by simp [PCm]; omega)]
    have hCnf : Cn uf vf mst lim := by
      refine ⟨by rw [eu9 11 (by decide) (by decide)]; exact n1, by rw [ev0 102 (by decide) (by decide) (by decide) (by decide) (by decide) (by decide) (by decide) (by decide)]; exact n2, by omega, by omega, n5, ?_, by rw [eu9 14 (by decide) (by decide)]; exact n7, by rw [ev0 104 (by decide) (by decide) (by decide) (by decide) (by decide) (by decide) (by decide) (by decide)]; exact n8, n9, n10, ?_, ?_⟩
      · rw [Fr_I Fb rfl, Fr_I a17 rfl, Fr_I d7 rfl, Fr_I t4 rfl, Fr_I s5 rfl, z101, su]
      · rw [eu9 12 (by decide) (by decide), ev0 100 (by decide) (by decide) (by decide) (by decide) (by decide) (by decide) (by decide) (by decide)]; exact n11
      · rw [eu9 12 (by decide) (by decide)]; exact n12
    have hST : ST uf vf C := by
      refine ⟨by rw [eu _ _ rfl rfl (by decide) (by decide)]; exact h65, by rw [eu _ _ rfl rfl (by decide) (by decide)]; exact h66, by rw [eu _ _ rfl rfl (by decide) (by decide)]; exact h68, by rw [eu _ _ rfl rfl (by decide) (by decide)]; exact h69, by rw [eu _ _ rfl rfl (by decide) (by decide)]; exact h70, ⟨k0, hk0, f67, by rw [em 158 (by omega)]; exact d4⟩, by rw [em 157 (by omega)]; exact d3, by rw [em 159 (by omega)]; exact d5, by rw [em 160 (by omega)]; exact d6⟩
    have hBCf : BC uf [] := by
      intro w hw
      rw [Fr_I Fa (by simp [P1]), Fr_I a16 rfl, Fr_I F6 (by simp [P1]), Fr_I F2 (by simp [P1]), Fr_I Fa (by simp [P1]), Fr_I a16 rfl, Fr_I F6 (by simp [P1]), Fr_I F2 (by simp [P1])]
      exact ha2 w hw
    have hUf : UE uf vf c e (ps (fi C)) (nv k0) ([] ++ []) := by
      rw [hn]
      refine ⟨GT_nil _ _ _ _, ⟨hSf.2.2.2.2.2.2.2.2.2.2.2.1, hSf.2.2.2.2.2.2.2.2.2.2.2.2.1.1, by omega, hBCf⟩, TC_fr Fa (by simp [P1]) (fun i => by simp [P1]) (TC_fr a16 rfl (fun _ => rfl) (TC_fr F6 (by simp [P1]) (fun i => by simp [P1]) (TC_fr F2 (by simp [P1]) (fun i => by simp [P1]) ha3))), ?_, ?_⟩
      · exact RE_fr Fb (fun i => by simp [P1]) (fun i => by simp [P1]) (fun i => by simp [P1]) (fun i => by simp [P1]) (fun i => by simp [P1]) (RE_fr a17 (fun _ => rfl) (fun _ => rfl) (fun _ => rfl) (fun _ => rfl) (fun _ => rfl) (RE_fr d7 (fun _ => rfl) (fun _ => rfl) (fun _ => rfl) (fun _ => rfl) (fun _ => rfl) (RE_fr t4 (fun _ => rfl) (fun _ => rfl) (fun _ => rfl) (fun _ => rfl) (fun _ => rfl) s3)))
      · exact TR_fr Fb (by simp [P1]) (fun i => by simp [P1]) (TR_fr a17 rfl (fun _ => rfl) (TR_fr d7 rfl (fun _ => rfl) (TR_fr t4 rfl (fun _ => rfl) s4)))
    have hGS : GS uf vf φ' C fi ps nv c e mst lim 0 [] 0 0 0 (fun _ => False) [] (fi (k0 + 1) - fi k0) J' (nv k0) Gd' q y' := by
      refine ⟨hSf, ⟨rfl, rfl, rfl, rfl, fun _ h => h, hST⟩, trivial, by rw [xa]; exact a8, ?_, by omega, ?_, hUf, ?_, ?_, ?_, ?_, ?_, ?_, ?_, xb, by omega, by omega, k7, a5, by omega, k7, ⟨by omega, fun k hk => (by rw [f67] at hk; rw [show k = k0 by omega]; exact Int.le_refl _)⟩, fun _ h => h.elim, hCnf, ?_, ?_⟩
      · rw [xa]; exact CL_eq q x' (fun t _ => Fr_I Fa (by simp [P1])) (fun _ ht => ht) a9
      · exact TB_fr Fa Fb (fun k i hk => by simp [P1]; omega) (fun k i hk => by simp [P1]; omega) a3
      · rw [Fr_I Fa rfl]; exact a11
      · rw [Fr_I Fa rfl]; exact a12
      · rw [Fr_I Fb rfl, Fr_I a17 rfl, Fr_I d7 rfl, Fr_I t4 rfl, s2, hn]
      · rw [Fr_I Fb rfl]; exact a13
      · rw [Fr_I Fb rfl, Fr_I a17 rfl, Fr_I d7 rfl, t3]; omega
      · rw [Fr_I Fb rfl, Fr_I a17 rfl]; exact d2
      · rw [eu9 9 (by decide) (by decide)]; exact h99
      · rw [Fr_I Fb rfl, Fr_I a17 rfl, Fr_I d7 rfl]; exact t2
      · rw [ev0 99 (by decide) (by decide) (by decide) (by decide) (by decide) (by decide) (by decide) (by decide)]; exact hsp
    have hcls : fX3_runLimit_L0 (F' + 1) 0 (zI x1) u = CT (fX3_runLimit_L0 F') (zI x1) (zI 2) uf := by rw [ha1 F', hadv, b2_s]; rfl
    have hFU : ∀ y, fX12_solve_L0 FU 0 y 0 vf = fX12_solve_L0 (999999997 + 3) 0 y 0 vf := fun _ => rfl
    rcases goal_step x1 hGS with ⟨a, a', u2', v2', g1, g2, g3⟩ | ⟨u2', v2', n', T3, L3, J3, V3, Gd3, g1, g2, g3, g4, g5, g6, g7, g8, g9⟩
    · left
      have ha' : a' = 0 ∨ a' = 1 := by
        rcases g3.2.2.2.2 with h | h | h
        · exact Or.inr h.2.1
        · exact Or.inl h.2.1
        · exact Or.inl h.2.1
      exact ⟨a, a', u2', v2', hcls.trans (g1 _), hsw2 a' v2' ha' (by rw [hFU]; exact g2 _), SO_tr hPSf hPRf g3⟩
    · obtain ⟨G2, t1', t2', t3'⟩ := g2 999999997
      cases n' with
      | zero =>
        right
        obtain ⟨z1, z2, z3, z4, z5, z6, z7, z8⟩ := g3
        obtain ⟨y1, y2, y3, y4, y5, y6⟩ := z2
        subst y1; subst y2; subst y3; subst y4
        obtain ⟨G3, rfl⟩ : ∃ G3, G2 = G3 + 2 := ⟨G2 - 2, by omega⟩
        refine ⟨u2', v2', F', x1 + 1, hcls.trans (g1 _), hsw2 0 v2' (Or.inl rfl) (by rw [hFU, t3']; exact rs_stop G3 v2' (Or.inl z5)), SH_of_HD (φ := φ') (Gd := Gd3) k0 ⟨z1, ⟨rfl, rfl, rfl, rfl, y5, y6⟩, z3, z4, z5, z6, z7, z8⟩ (g7.trans f67), by omega, by omega, by omega, Fr_tr hPSf g8, Fr_tr hPRf g9⟩
      | succ f2 =>
        have hf2 : f2 = 0 := by omega
        subst hf2
        rcases solve_loop (2 * (mst - I u 9 13) - 1).toNat F' G2 (x1 + 1) u2' v2' φ' 0 T3 L3 J3 V3 Gd3 g3 (by decide) (by omega) (by omega) (by omega) (by omega) (by omega) with ⟨a, a', u3, v3, w1, w2, w3⟩ | ⟨u3, v3, φ3, Gd4, F3, x3, w1, w2, w3, w4, w5, w6, w7, w8, w9, w10⟩
        · left
          have ha' : a' = 0 ∨ a' = 1 := by
            rcases w3.2.2.2.2 with h | h | h
            · exact Or.inr h.2.1
            · exact Or.inl h.2.1
            · exact Or.inl h.2.1
          exact ⟨a, a', u3, v3, (hcls.trans (g1 _)).trans w1, hsw2 a' v3 ha' (by rw [hFU, t3']; exact w2), SO_tr (Fr_tr hPSf g8) (Fr_tr hPRf g9) w3⟩
        · right
          exact ⟨u3, v3, F3, x3, (hcls.trans (g1 _)).trans w1, hsw2 0 v3 (Or.inl rfl) (by rw [hFU, t3']; exact w2), SH_of_HD k0 w3 ((w4.trans g7).trans f67), by omega, by omega, by omega, Fr_tr (Fr_tr hPSf g8) w9, Fr_tr (Fr_tr hPRf g9) w10⟩
  · -- no steps left
    left
    have heq : I u 9 13 = mst := by omega
    have hav : fX3_advance u8 = some (zI (-6), u2) := av_spent 999999999 u8 u2 0 _ mst (by decide) (by decide) hnc rfl (by rw [e2 _ _ rfl (by decide)]; exact n1) (by rw [e2 _ _ rfl (by decide), heq]; exact Int.le_refl _)
    have hcls : fX3_runLimit_L0 (F' + 1) 0 (zI x1) u = some (zI (-6), u2) := by rw [ha1 F', hav, b2_s]; exact ct_out _ _ u2 _ (Or.inl rfl)
    have hsw := sw_spent v (zI k0) _ mst n6 n2 heq
    have F4 : Fr (P1 100 99) v (uI v 100 99 (zI 1)) := Fr_up (by simp [P1]) (Fr_rfl _ _)
    have c99 : I (uI v 100 99 (zI 1)) 100 99 = 1 := I_uI1 _ _ _ _ (by decide) (by decide)
    generalize hv3 : uI v 100 99 (zI 1) = v3 at *
    have ev : ∀ i, i ≠ 99 → I v3 100 i = I v 100 i := fun i h1 => Fr_I F4 (by simp [P1]; omega)
    have e9 : ∀ i, I u2 9 i = I u 9 i := fun i => e2 9 i (by simp [PH, PB]) (by decide)
    refine ⟨-6, 0, u2, v3, hcls, hsw, SR_e hPS2 (PRe_P1 F4 rfl) hS, ?_, hPS2, PRe_P1 F4 rfl, Or.inr (Or.inl ⟨rfl, rfl, by rw [ev 98 (by decide)]; exact h98, c99, [], ?_, ?_, by simp, by simp, by simp⟩)⟩
    · exact ⟨by rw [e9]; exact n1, by rw [ev 102 (by decide)]; exact n2, by rw [e9]; exact n3, by rw [e9]; exact n4, n5, by rw [ev 101 (by decide), e9]; exact n6, by rw [e9]; exact n7, by rw [ev 104 (by decide)]; exact n8, n9, n10, by rw [ev 100 (by decide), e9]; exact n11, by rw [e9]; exact n12⟩
    · intro w hw
      rw [Fr_I F2 (by simp [P1]), Fr_I F2 (by simp [P1])]
      exact ha2 w hw
    · exact TC_fr F2 (by simp [P1]) (fun i => by simp [P1]) ha3
