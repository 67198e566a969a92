/-! one try of an extension -/
theorem XT_near (R : Nat → Int32 → Int32 → Int32 → St → Option (Int32 × St)) (f g : Nat) (l k j : Int32) (w w' : St) (d lim : Int) (r : Int32) (hg : g < 400) (hd : I w 153 g = d) (hl : I w 100 104 = lim) (h : d < lim) (hd0 : 0 ≤ d) (hl2 : lim ≤ 20) (he : fX12_extendsBy (zI g) k j w = some (r, w')) : XT R (zI f) (zI g) l k j w = if r = 0 then (if (gI w' 100 98) = 0 then (if (gI w' 100 99) = 0 then (bd (fX12_restore (zI f) w') fun u27 => R 0 (zI f) (zI g) l u27) else some (0, w')) else some (0, w')) else some (1, w') := by
  unfold XT
  rw [ld_z _ _ _ _ (by omega) (by omega), bd_s, Int.toNat_natCast, hd, gI_z w 100 104, hl, if_pos (by rw [z_lt (by omega) (by omega) (by omega) (by omega)]; omega), he, b2_s]
theorem XT_far (R : Nat → Int32 → Int32 → Int32 → St → Option (Int32 × St)) (f g : Nat) (l k j : Int32) (w : St) (d lim : Int) (hg : g < 400) (hf : f < 400) (hd : I w 153 g = d) (hl : I w 100 104 = lim) (h : lim ≤ d) (hd0 : d < 1000) (hl2 : 0 ≤ lim) (h120 : I w 100 120 = ((f + 1 : Nat) : Int)) : XT R (zI f) (zI g) l k j w = some (0, uI (uI w 100 100 (zI 1)) 100 120 (zI f)) := by
  unfold XT
  have h1 : I (uI w 100 100 (zI 1)) 100 120 = ((f + 1 : Nat) : Int) := by rw [I_uI2 _ _ _ _ _ _ (by omega)]; exact h120
  rw [ld_z _ _ _ _ (by omega) (by omega), bd_s, Int.toNat_natCast, hd, gI_z w 100 104, hl, if_neg (by rw [z_lt (by omega) (by omega) (by omega) (by omega)]; omega), show (1 : Int32) = zI 1 from rfl, lt_e, lt_e, gI_z, h1, z_sub, show ((f + 1 : Nat) : Int) - 1 = f by omega]
theorem Kp_I {u u' v v' : St} {f L J : Nat} (h : Kp u u' v v' f L J) {k i : Nat} (hk : PSe k i = false) : I u' k i = I u k i := Fr_I h.2.2.1 hk
theorem Kp_V {u u' v v' : St} {f L J : Nat} (h : Kp u u' v v' f L J) {k i : Nat} (hk : PRe k i = false) : I v' k i = I v k i := Fr_I h.2.2.2 hk
theorem WE_V {u : St} {c : Nat → Int} {N : Nat} {V V' : Int} {T : List (Nat × Nat × Int)} (h : WE u c N V T) (hV : V' ≤ 220) : WE u c N V' T := ⟨h.1, h.2.1, hV, h.2.2.2⟩
theorem NR_rng {φ : Nat → Nat} {Gd : Nat → Prop} {x y : Int} {L J : Nat} (h : NR φ Gd x y) (hGd : ∀ t, Gd t → t < L ∧ φ t < J) (hL : L ≤ 150) (hJ : J ≤ 400) : -1 ≤ x ∧ x < 1000 ∧ -1 ≤ y ∧ y < 1000 := by
  rcases h with ⟨h1, h2⟩ | ⟨t, h1, h2, h3⟩
  · omega
  · have := hGd t h3; omega
theorem ext_try {u v w : St} {φ : Nat → Nat} {Gd : Nat → Prop} {C : Nat} {fi ps : Nat → Nat} {nv c : Nat → Int} {e : Nat → Nat} {f g : Nat} {T : List (Nat × Nat × Int)} {L J : Nat} {V : Int} {r : Nat} {mst lim : Int} (k0 j0 gl : Nat) (x1 : Int) (hS : SR u v C fi ps nv c e) (hTB : TB u v φ L J V C fi nv Gd) (hFR : FR u v φ Gd f g T L J V r) (hk1 : I u 65 (f + 1) = 1) (h169 : I v 169 f = -1) (hRS : RS u v c e (ps (fi C)) f T L J V) (hCn : Cn u v mst lim) (h98 : I v 100 98 = 0) (h99 : I v 100 99 = 0) (hJL : J ≤ L) (hL : L ≤ 150) (hV0 : 0 ≤ V) (hV1 : V ≤ 200) (hf : f < 150) (hgl : I u 57 g = gl) (hk0 : k0 < C) (hj0 : fi k0 + j0 < fi (k0 + 1)) (hop : Op u ps c gl (fi k0 + j0)) (hw : Fr (P2 f) v w) (hw170 : I w 170 f = k0) (hw171 : I w 171 f = ((j0 + 1 : Nat) : Int)) (hd : I u 60 g < lim) (hs : I u 9 13 < mst) (hx0 : 0 ≤ x1) (hx1 : x1 < 1000000) (hnc : fX3_nextChoice u = some (1, uI u 67 (f + 1) (zI ((fi k0 + j0 : Nat) : Int)))) :
    (∃ a a' u' v', (∀ F, fX3_advance_L0 (F + 2) 0 (zI x1) 0 u = some (zI a, u')) ∧ (∀ R, XT R (zI f) (zI (φ g)) (zI gl) (zI k0) (zI j0) w = some (zI a', v')) ∧ AO u v u' v' a a' φ Gd C fi ps nv c e f g T L J V r mst lim) ∨
    (∃ u' v', (∀ F, fX3_advance_L0 (F + 2) 0 (zI x1) 0 u = fX3_advance_L0 F 0 (zI (x1 + 1)) 0 u') ∧ (∀ R, XT R (zI f) (zI (φ g)) (zI gl) (zI k0) (zI j0) w = R 0 (zI f) (zI (φ g)) (zI gl) v') ∧ SR u' v' C fi ps nv c e ∧ TB u' v' φ L J V C fi nv Gd ∧ FR u' v' φ Gd f g T L J V r ∧ K1 u' v' C fi f (fi k0 + j0 + 1) ∧ RS u' v' c e (ps (fi C)) f T L J V ∧ Cn u' v' mst lim ∧ I v' 100 98 = 0 ∧ I v' 100 99 = 0 ∧ Kp u u' v v' f L J ∧ I u 9 13 ≤ I u' 9 13) := by
  have hTBc := hTB
  have hFRc := hFR
  have hRSc := hRS
  obtain ⟨hU, r76, r77, r92, r89, r110, r105, r99, r120⟩ := hRS
  obtain ⟨hGT, hWE, hTC, hRE, hTR⟩ := hU
  obtain ⟨n1, n2, n3, n4, n5, n6, n7, n8, n9, n10, n11, n12⟩ := hCn
  obtain ⟨f1, f2, f3, f4, f5, f6, f7, f8, f9, f10, f11, f12, f13⟩ := hFR
  obtain ⟨g1, g2, ⟨gk, gl', g3, g4, g5, g6, g7, g8, g9, g10⟩, g11, g12, g13, g14, g15⟩ := hTB g f1
  have hgg : gl' = gl := by omega
  subst hgg
  have hff := SR_fi hS
  have hC := hS.1
  have hT := hS.2.2.2.2.2.2.2.2.2.2.2.2.2
  have hgl1 : gl' < fi C := by have := hff.1 C (Nat.le_refl _) (gk + 1) (by omega); omega
  have hm1 : fi k0 + j0 < fi C := by have := hff.1 C (Nat.le_refl _) (k0 + 1) (by omega); omega
  obtain ⟨k1, k2, k3, k4, k5, k6, k7, k8, k9⟩ := hS.2.2.2.2.2.2.1 k0 hk0
  have lg := SR_lit hS hgl1
  have lm := SR_lit hS hm1
  obtain ⟨Vn, hVn⟩ : ∃ Vn : Nat, V = Vn := ⟨V.toNat, by omega⟩
  obtain ⟨n, hn⟩ : ∃ n : Nat, nv k0 = n := ⟨(nv k0).toNat, by omega⟩
  subst hVn
  -- the class up to unifying
  obtain ⟨u2, hu2⟩ : ∃ u2, u2 = uI u 67 (f + 1) (zI ((fi k0 + j0 : Nat) : Int)) := ⟨_, rfl⟩
  rw [← hu2] at hnc
  have F2 : Fr (P1 67 (f + 1)) u u2 := by rw [hu2]; exact Fr_up (by simp [P1]) (Fr_rfl _ _)
  have c67 : I u2 67 (f + 1) = ((fi k0 + j0 : Nat) : Int) := by rw [hu2]; exact I_uI1 _ _ _ _ (by omega) (by omega)
  have p67 : ∀ k i, k ≠ 67 → P1 67 (f + 1) k i = false := fun k i h => by simp [P1, h]
  obtain ⟨u6, hu6⟩ : ∃ u6, u6 = uI u2 9 13 (zI (I u 9 13 + 1)) := ⟨_, rfl⟩
  have F6 : Fr (P1 9 13) u2 u6 := by rw [hu6]; exact Fr_up (by simp [P1]) (Fr_rfl _ _)
  have c6 : I u6 9 13 = I u 9 13 + 1 := by rw [hu6]; exact I_uI1 _ _ _ _ (by omega) (by omega)
  have e6 : ∀ k i, k ≠ 67 → (k ≠ 9 ∨ i ≠ 13) → I u6 k i = I u k i := e6_lem F2 F6
  have c6' : I u6 67 (f + 1) = ((fi k0 + j0 : Nat) : Int) := by rw [Fr_I F6 (by simp [P1])]; exact c67
  have K6 : Kp u u6 v v f L J := Kp_tr (Kp_67 F2) (Kp_913 F6)
  -- the reference up to unifying
  have pw : ∀ k i, k ≠ 170 → k ≠ 171 → P2 f k i = false := fun k i h h' => by simp [P2, h, h']
  have ew : ∀ k i, k ≠ 170 → k ≠ 171 → I w k i = I v k i := fun k i h h' => Fr_I hw (pw k i h h')
  have Fw2 : Fr (fun k i => k == 100 && (i == 101 || i == 97)) w (uI (uI w 100 101 (zI (I u 9 13 + 1))) 100 97 (zI 0)) := Fr_up rfl (Fr_up rfl (Fr_rfl _ _))
  have E2 : RE (uI (uI w 100 101 (zI (I u 9 13 + 1))) 100 97 (zI 0)) c e (ps (fi C)) (Vn : Int) T := RE_fr Fw2 (fun _ => rfl) (fun _ => rfl) (fun _ => rfl) (fun _ => rfl) (fun _ => rfl) (RE_fr hw (fun i => pw _ i (by decide) (by decide)) (fun i => pw _ i (by decide) (by decide)) (fun i => pw _ i (by decide) (by decide)) (fun i => pw _ i (by decide) (by decide)) (fun i => pw _ i (by decide) (by decide)) hRE)
  have TR2 : TR (uI (uI w 100 101 (zI (I u 9 13 + 1))) 100 97 (zI 0)) T := TR_fr Fw2 rfl (fun _ => rfl) (TR_fr hw (pw _ _ (by decide) (by decide)) (fun i => pw _ i (by decide) (by decide)) hTR)
  obtain ⟨v7, s1, s2, s3, s4, s5⟩ := newVariables_spec (n := n) (by omega) (by rw [Fr_I Fw2 rfl, ew 100 92 (by decide) (by decide)]; exact r92) hGT E2 TR2
  have e7 : ∀ k i, k ≠ 170 → k ≠ 171 → k ≠ 154 → (k ≠ 100 ∨ (i ≠ 92 ∧ i ≠ 101 ∧ i ≠ 97)) → I v7 k i = I v k i := e7_lem hw Fw2 s5
  have hV2 : ((Vn + n : Nat) : Int) ≤ 220 := by omega
  have hUE : UE u6 v7 c e (ps (fi C)) ((Vn + n : Nat) : Int) T := by
    refine ⟨GT_V (by omega) hGT, WE_V (WE_fr F6 (fun i => by simp [P1]) (fun i => by simp [P1]) (fun i => by simp [P1]) (WE_fr F2 (fun i => p67 _ i (by decide)) (fun i => p67 _ i (by decide)) (fun i => p67 _ i (by decide)) hWE)) hV2, TC_fr F6 (by simp [P1]) (fun i => by simp [P1]) (TC_fr F2 (p67 _ _ (by decide)) (fun i => p67 _ i (by decide)) hTC), s3, s4⟩
  have h97' : I v7 100 97 = 0 := by rw [Fr_I s5 rfl]; exact I_uI1 _ _ _ _ (by decide) (by decide)
  have h98' : I v7 100 98 = 0 := by rw [e7 100 98 (by decide) (by decide) (by decide) (by omega)]; exact h98
  obtain ⟨rr, rr', u14, v13, T2, w1, w2, w3, w4, w5, w6⟩ := unify_spec hT hV2 hUE g gl' (ps gl') (fi k0 + j0) (ps (fi k0 + j0)) (I u 58 g) (Vn : Int) (by omega) (by rw [e6 57 g (by decide) (by omega)]; exact g6) (by omega) (by rw [e6 29 gl' (by decide) (by omega)]; exact lg.1) (e6 58 g (by decide) (by omega)) (by omega) (by rw [e6 29 _ (by decide) (by omega)]; exact lm.1) (SR_IOL hS g3 g4 g5 g8 (by omega) hV2) (SR_IOL hS hk0 (by omega) hj0 hV0 (by omega) hV2) hop.2 h97' h98'
  have hcls : ∀ F, fX3_advance_L0 (F + 2) 0 (zI x1) 0 u = fX3_advance_L0 (F + 1) 1 (zI x1) (zI rr) u14 := fun F => av_ext (F + 1) u u2 (f + 1) g (fi k0 + j0) x1 (I u 9 13) mst Vn (zI rr) u14 hx0 hx1 hnc (by rw [Fr_I F2 (p67 _ _ (by decide))]) (by rw [Fr_I F2 (p67 _ _ (by decide))]; exact n1) hs n3 n5 (by omega) (by rw [Fr_I F2 (p67 _ _ (by decide))]; exact r99) (by rw [Fr_I F2 (p67 _ _ (by decide))]; exact hk1) (by rw [Fr_I F2 (p67 _ _ (by decide))]; exact f2) c67 (by rw [Fr_I F2 (p67 _ _ (by decide))]; exact r77) (by rw [← hu6]; exact w1)
  have hnvz : fX12_newVariables (zI (nv k0)) (uI (uI w 100 101 (zI (I u 9 13 + 1))) 100 97 (zI 0)) = some v7 := by rw [hn]; exact s1
  have hexb := exb_open w v7 v13 (φ g) gl' k0 j0 (I u 9 13) mst Vn (nv k0) (ps gl') (fi k0) (I u 58 g) (zI rr') (by rw [ew 100 101 (by decide) (by decide)]; exact n6) (by rw [ew 100 102 (by decide) (by decide)]; exact n2) n3 hs n5 (by rw [ew 100 92 (by decide) (by decide)]; exact r92) (by omega) (by rw [ew 108 _ (by decide) (by decide)]; exact k6) hnvz (by omega) (by rw [e7 150 _ (by decide) (by decide) (by decide) (by omega)]; exact g7) (by omega) (by rw [e7 110 _ (by decide) (by decide) (by decide) (by omega)]; exact lg.2.1) (by rw [e7 151 _ (by decide) (by decide) (by decide) (by omega)]; exact g9) (by rw [e7 106 _ (by decide) (by decide) (by decide) (by omega)]; exact k1) (by omega) (by omega) (ps (fi k0 + j0)) (by rw [show ((fi k0 : Int) + j0).toNat = fi k0 + j0 by omega, e7 110 _ (by decide) (by decide) (by decide) (by omega)]; exact lm.2.1) w2
  -- what holds behind unifying
  have K14 : Kp u u14 v v13 f L J := Kp_tr (Kp_tr K6 (Kp_PU w5)) (Kp_tr (Kp_P2 hw) (Kp_tr (Kp_st2 Fw2) (Kp_tr (Kp_nv s5) (Kp_PRU w6))))
  have e14 : ∀ k i, PU k i = false → k ≠ 67 → (k ≠ 9 ∨ i ≠ 13) → I u14 k i = I u k i := fun k i h h' h2 => by rw [Fr_I w5 h, e6 k i h' h2]
  have e13 : ∀ k i, PRU k i = false → k ≠ 170 → k ≠ 171 → k ≠ 154 → (k ≠ 100 ∨ (i ≠ 92 ∧ i ≠ 101 ∧ i ≠ 97)) → I v13 k i = I v k i := fun k i h h1 h2 h3 h4 => by rw [Fr_I w6 h, e7 k i h1 h2 h3 h4]
  have s14 : I u14 9 13 = I u 9 13 + 1 := by rw [Fr_I w5 rfl]; exact c6
  have s13 : I v13 100 101 = I u 9 13 + 1 := by
    rw [Fr_I w6 rfl, Fr_I s5 rfl, I_uI2 _ _ _ _ _ _ (by omega), I_uI1 _ _ _ _ (by omega) (by omega)]
  have v92 : I v13 100 92 = ((Vn + n : Nat) : Int) := by rw [Fr_I w6 rfl]; exact s2
  have c67' : I u14 67 (f + 1) = ((fi k0 + j0 : Nat) : Int) := by rw [Fr_I w5 rfl]; exact c6'
  have hCn13 : Cn u14 v13 mst lim := by
    refine ⟨by rw [e14 9 11 rfl (by decide) (by omega)]; exact n1, by rw [e13 100 102 rfl (by decide) (by decide) (by decide) (by omega)]; exact n2, by omega, by omega, n5, by omega, by rw [e14 9 14 rfl (by decide) (by omega)]; exact n7, by rw [e13 100 104 rfl (by decide) (by decide) (by decide) (by omega)]; exact n8, n9, n10, ?_, ?_⟩
    · rw [e14 9 12 rfl (by decide) (by omega), e13 100 100 rfl (by decide) (by decide) (by decide) (by omega)]; exact n11
    · rw [e14 9 12 rfl (by decide) (by omega)]; exact n12
  have v99 : I v13 100 99 = 0 := by rw [e13 100 99 rfl (by decide) (by decide) (by decide) (by omega)]; exact h99
  have d153 : I w 153 (φ g) = I u 60 g := by rw [ew 153 _ (by decide) (by decide)]; exact g11
  have l104 : I w 100 104 = lim := by rw [ew 100 104 (by decide) (by decide)]; exact n8
  have hS13 := Kp_S K14 hS
  rcases w3 with ⟨o1, o2, o3⟩ | ⟨o1, o2, o3⟩ | ⟨o1, o2, o3⟩
  · -- they unify: the clause comes, if it fits
    subst o1; subst o2
    rw [if_neg (by decide)] at hexb
    left
    have y76 : I u14 7 6 = L := by rw [e14 7 6 rfl (by decide) (by omega)]; exact r76
    have y77 : I u14 7 7 = Vn := by rw [e14 7 7 rfl (by decide) (by omega)]; exact r77
    have y99 : I u14 9 9 = ((f + 1 : Nat) : Int) := by rw [e14 9 9 rfl (by decide) (by omega)]; exact r99
    have y65 : I u14 65 (f + 1) = 1 := by rw [e14 65 _ rfl (by decide) (by omega)]; exact hk1
    have y66 : I u14 66 (f + 1) = g := by rw [e14 66 _ rfl (by decide) (by omega)]; exact f2
    have y31 : I u14 31 (fi k0 + j0) = k0 := by rw [e14 31 _ rfl (by decide) (by omega)]; exact (hS.2.2.2.2.2.2.2.2.1 k0 _ hk0 (by omega) hj0).1
    have hfit := fits_spec hS13 hk0 L Vn y76 y77 (by omega) (by omega) hV0 hV1
    obtain ⟨v16, t1, t2, t3, t4⟩ := tooMuch_spec hS13 hk0 L ((Vn + n : Nat) : Int) (by rw [e13 100 110 rfl (by decide) (by decide) (by decide) (by omega)]; exact r110) v92 o3 (by omega) (by omega) (by omega) hV2
    have hcond : (L + ((fi (k0 + 1) : Int) - fi k0) ≤ 150 ∧ ((Vn + n : Nat) : Int) ≤ 200) ↔ (L + ((fi (k0 + 1) : Int) - fi k0) ≤ 150 ∧ (Vn : Int) + nv k0 ≤ 200) := by rw [hn]; constructor <;> intro h <;> exact ⟨h.1, by omega⟩
    have K16 : Kp u u14 v v16 f L J := Kp_tr K14 (Kp_tm t4)
    have hCn16 : Cn u14 v16 mst lim := by
      obtain ⟨z1, z2, z3, z4, z5, z6, z7, z8, z9, z10, z11, z12⟩ := hCn13
      exact ⟨z1, by rw [Fr_I t4 rfl]; exact z2, z3, z4, z5, by rw [Fr_I t4 rfl]; exact z6, z7, by rw [Fr_I t4 rfl]; exact z8, z9, z10, by rw [Fr_I t4 rfl]; exact z11, z12⟩
    by_cases hfi : L + ((fi (k0 + 1) : Int) - fi k0) ≤ 150 ∧ (Vn : Int) + nv k0 ≤ 200
    · rw [if_pos hfi] at hfit
      rw [if_pos (hcond.2 hfi)] at t1 t2
      rw [t1, b2_s, if_pos q0] at hexb
      obtain ⟨v19, d1, d2, d3, d4, d5, d6, d7⟩ := moved_spec v16 (f + 1) 1 k0 j0 (φ g) (by omega) (by rw [Fr_I t4 rfl, e13 100 105 rfl (by decide) (by decide) (by decide) (by omega)]; exact r105) (by decide) (by decide) (by omega) (by omega) (by omega) (by omega) (by omega) (by omega)
      have K19 : Kp u u14 v v19 f L J := Kp_tr K16 (Kp_mv d7)
      have hS19 := Kp_S K19 hS
      have hTB19 := Kp_TB K19 (fun _ _ => rfl) (Int.le_refl _) hTBc
      have y89 : I v19 100 89 = J := by rw [Fr_I d7 rfl, Fr_I t4 rfl, e13 100 89 rfl (by decide) (by decide) (by decide) (by omega)]; exact r89
      obtain ⟨x', y', u'', v'', φ', Gd', q, J', a1, a2, a3, a4, a5, a6, a7, a8, a9, a10, a11, a12, a13, a14, a15, a16, a17⟩ := add_comes hS19 hTB19 k0 r g (φ g) ((fi k0 + j0 : Nat) : Int) j0 (I v19 167 (φ g)) hk0 hJL (by omega) hV0 hV1 y76 y77 y89 (Or.inr ⟨g, rfl, rfl, f1, rfl, by rw [K19.1 61 g (PKc_tab (by simp) g1)]; exact Kp_CL K19 f12⟩) (Or.inr ⟨by omega, by omega, by omega⟩)
      have hgr := grow_ext u14 (f + 1) (fi k0 + j0) k0 1 (zI x') g u'' (by omega) y99 y65 y66 c67' (by omega) y31 hfit (fun _ => a1)
      rw [if_neg (by decide)] at hgr
      have hexb2 : fX12_extendsBy (zI (φ g)) (zI k0) (zI j0) w = some (1, uI v'' 100 130 (zI y')) := by
        rw [hexb, show (1 : Int32) = zI 1 from rfl, d1, bd_s, ld_z _ _ _ _ (by omega) (by omega), bd_s, Int.toNat_natCast, a2, b2_s, lt_e]
      have hxr := NR_rng a8 (fun t ht => ⟨(a3 t ht).1, (a3 t ht).2.1⟩) (by omega) (by omega)
      have Fa : Fr (P1 9 10) u'' (uI u'' 9 10 (zI x')) := Fr_up (by simp [P1]) (Fr_rfl _ _)
      have Fb : Fr (P1 100 130) v'' (uI v'' 100 130 (zI y')) := Fr_up (by simp [P1]) (Fr_rfl _ _)
      have xa : I (uI u'' 9 10 (zI x')) 9 10 = x' := I_uI1 _ _ _ _ (by omega) (by omega)
      have xb : I (uI v'' 100 130 (zI y')) 100 130 = y' := I_uI1 _ _ _ _ (by omega) (by omega)
      have Kf : Kp u (uI u'' 9 10 (zI x')) v (uI v'' 100 130 (zI y')) f L J := Kp_tr K19 (Kp_tr (Kp_PAd a16 a14) (Kp_tr (Kp_PCm a17 a15) (Kp_tr (Kp_910 Fa) (Kp_130 Fb))))
      generalize huf : uI u'' 9 10 (zI x') = uf at *
      generalize hvf : uI v'' 100 130 (zI y') = vf at *
      have eu : ∀ k i, PU k i = false → PAd k i = false → k ≠ 67 → k ≠ 9 → I uf k i = I u k i := fun k i h h' h2 h3 => by rw [Fr_I Fa (by simp [P1, h3]), Fr_I a16 h', e14 k i h h2 (Or.inl h3)]
      have eu9 : ∀ i, i ≠ 10 → i ≠ 13 → I uf 9 i = I u 9 i := fun i h h' => by rw [Fr_I Fa (by simp [P1, h]), Fr_I a16 rfl, e14 9 i rfl (by decide) (Or.inr h')]
      have su : I uf 9 13 = I u 9 13 + 1 := by rw [Fr_I Fa rfl, Fr_I a16 rfl]; exact s14
      have ev : ∀ k, (168 ≤ k ∧ k ≤ 176 ∧ k ≠ 170 ∧ k ≠ 171) → I vf k f = I v k f := fun k hk => by
        rw [Fr_I Fb (by simp [P1]; omega), Fr_I a17 (by simp [PCm]; omega), Fr_I d7 (by simp [Pm]; omega), Fr_I t4 (by simp; omega), e13 k f (by simp [PRU, PRB, PRS, PAN]; omega) (by omega) (by omega) (by omega) (by omega)]
      have ev0 : ∀ i, PRU 100 i = false → i ≠ 130 → i ≠ 89 → i ≠ 105 → i ≠ 98 → i ≠ 110 → i ≠ 92 → i ≠ 101 → i ≠ 97 → I vf 100 i = I v 100 i := fun i h h1 h2 h3 h4 h5 h6 h7 h8 => by
        rw [Fr_I Fb (by simp [P1]; omega), Fr_I a17 (by simp [PCm]; omega), Fr_I d7 (by simp [Pm]; omega), Fr_I t4 (by simp; omega), e13 100 i h (by decide) (by decide) (by decide) (by omega)]
      have em : ∀ k, (157 ≤ k ∧ k ≤ 160) → I vf k (f + 1) = I v19 k (f + 1) := fun k hk => by
        rw [Fr_I Fb (by simp [P1]; omega), Fr_I a17 (by simp [PCm]; omega)]
      refine ⟨2, 1, uf, vf, fun F => by rw [hcls F]; exact av_yes F u14 uf _ 2 hgr, fun R => ?_, ?_, Kf, by omega, Or.inl ⟨rfl, rfl, ?_, ?_, by omega, φ', Gd', T2, L + (fi (k0 + 1) - fi k0), J', (Vn : Int) + nv k0, q, by rw [xa, xb]; exact a8, ?_, by omega, ?_, ?_, ?_, ?_, ?_, ?_, ?_, ?_, ?_, ?_, by omega, by omega, by omega, a5, by omega, by omega, a6, a7, ?_, ?_, ?_⟩⟩
      · rw [XT_near R f (φ g) _ _ _ w vf _ lim 1 (by omega) d153 l104 hd g12 n10 hexb2, if_neg (by decide)]
        rfl
      · refine ⟨by rw [eu9 11 (by decide) (by decide)]; exact n1, by rw [ev0 102 rfl (by decide) (by decide) (by decide) (by decide) (by decide) (by decide) (by decide) (by decide)]; exact n2, by omega, by omega, n5, ?_, by rw [eu9 14 (by decide) (by decide)]; exact n7, by rw [ev0 104 rfl (by decide) (by decide) (by decide) (by decide) (by decide) (by decide) (by decide) (by decide)]; exact n8, n9, n10, ?_, ?_⟩
        · rw [Fr_I Fb rfl, Fr_I a17 rfl, Fr_I d7 rfl, Fr_I t4 rfl, s13, su]
        · rw [eu9 12 (by decide) (by decide), ev0 100 rfl (by decide) (by decide) (by decide) (by decide) (by decide) (by decide) (by decide) (by decide)]; exact n11
        · rw [eu9 12 (by decide) (by decide)]; exact n12
      · rw [Fr_I Fb rfl, Fr_I a17 rfl, Fr_I d7 rfl]; exact t2
      · rw [Fr_I Fb rfl, Fr_I a17 rfl, Fr_I d7 rfl, Fr_I t4 rfl]; exact v99
      · rw [xa]; exact CL_eq q x' (fun t _ => Fr_I Fa (by simp [P1])) (fun _ ht => ht) a9
      · exact TB_fr Fa Fb (fun k i hk => by simp [P1]; omega) (fun k i hk => by simp [P1]; omega) a3
      · rw [show (Vn : Int) + nv k0 = ((Vn + n : Nat) : Int) by omega]
        refine ⟨w4.1, WE_fr Fa (fun i => by simp [P1]) (fun i => by simp [P1]) (fun i => by simp [P1]) (WE_fr a16 (fun _ => rfl) (fun _ => rfl) (fun _ => rfl) w4.2.1), TC_fr Fa (by simp [P1]) (fun i => by simp [P1]) (TC_fr a16 rfl (fun _ => rfl) w4.2.2.1), ?_, ?_⟩
        · exact RE_fr Fb (fun i => by simp [P1]) (fun i => by simp [P1]) (fun i => by simp [P1]) (fun i => by simp [P1]) (fun i => by simp [P1]) (RE_fr a17 (fun _ => rfl) (fun _ => rfl) (fun _ => rfl) (fun _ => rfl) (fun _ => rfl) (RE_fr d7 (fun _ => rfl) (fun _ => rfl) (fun _ => rfl) (fun _ => rfl) (fun _ => rfl) (RE_fr t4 (fun _ => rfl) (fun _ => rfl) (fun _ => rfl) (fun _ => rfl) (fun _ => rfl) w4.2.2.2.1)))
        · exact TR_fr Fb (by simp [P1]) (fun i => by simp [P1]) (TR_fr a17 rfl (fun _ => rfl) (TR_fr d7 rfl (fun _ => rfl) (TR_fr t4 rfl (fun _ => rfl) w4.2.2.2.2)))
      · rw [Fr_I Fa rfl]; exact a11
      · rw [Fr_I Fa rfl]; exact a12
      · rw [Fr_I Fb rfl, Fr_I a17 rfl, Fr_I d7 rfl, Fr_I t4 rfl, v92]; omega
      · rw [Fr_I Fb rfl]; exact a13
      · rw [Fr_I Fb rfl, Fr_I a17 rfl, Fr_I d7 rfl, t3]; omega
      · rw [Fr_I Fb rfl, Fr_I a17 rfl]; exact d2
      · rw [eu9 9 (by decide) (by decide)]; exact r99
      · rw [ev0 120 rfl (by decide) (by decide) (by decide) (by decide) (by decide) (by decide) (by decide) (by decide)]; exact r120
      · refine FR_kp g1 (fun k hk => ?_) (fun k hk => ev k (by omega)) (fun t ht => Kf.1 61 t (PKc_tab (by simp) ht)) (a6 g g1) hFRc
        rcases hk with h | h | h | h <;> subst h <;> exact eu _ _ rfl rfl (by decide) (by decide)
      · right
        refine ⟨fi k0 + j0 + 1, by rw [eu 65 _ rfl rfl (by decide) (by decide)]; exact hk1, by rw [ev 169 (by omega)]; exact h169, ?_, by omega, k0, j0 + 1, ?_, ?_, Or.inl ⟨hk0, by omega, by omega⟩⟩
        · rw [Fr_I Fa (by simp [P1]), Fr_I a16 rfl, c67']; omega
        · rw [Fr_I Fb (by simp [P1]), Fr_I a17 rfl, Fr_I d7 rfl, Fr_I t4 rfl, Fr_I w6 rfl, Fr_I s5 rfl, Fr_I Fw2 rfl]; exact hw170
        · rw [Fr_I Fb (by simp [P1]), Fr_I a17 rfl, Fr_I d7 rfl, Fr_I t4 rfl, Fr_I w6 rfl, Fr_I s5 rfl, Fr_I Fw2 rfl]; exact hw171
      · refine ⟨g, by rw [eu 66 _ rfl rfl (by decide) (by decide)]; exact f2, by rw [em 160 (by omega), a6 g g1]; exact d6, by rw [em 157 (by omega), d3, eu 65 _ rfl rfl (by decide) (by decide)]; exact hk1.symm, Or.inl ⟨by rw [eu 65 _ rfl rfl (by decide) (by decide)]; exact hk1, k0, j0, hk0, hj0, ?_, by rw [em 158 (by omega)]; exact d4, by rw [em 159 (by omega)]; exact d5⟩⟩
        rw [Fr_I Fa (by simp [P1]), Fr_I a16 rfl]; exact c67'
    · rw [if_neg hfi] at hfit
      rw [if_neg (fun h => hfi (hcond.1 h))] at t1 t2
      rw [t1, b2_s, if_neg (by decide)] at hexb
      have hgr := grow_ext u14 (f + 1) (fi k0 + j0) k0 0 0 g u14 (by omega) y99 y65 y66 c67' (by omega) y31 hfit (fun h => absurd rfl h)
      rw [if_pos rfl] at hgr
      refine ⟨-7, 0, u14, v16, fun F => by rw [hcls F]; exact av_yes F u14 u14 _ _ hgr, fun R => ?_, hCn16, K16, by omega, Or.inr (Or.inr (Or.inr ⟨rfl, rfl, t2, _, UE_BCs (by omega) w4⟩))⟩
      rw [XT_near R f (φ g) _ _ _ w v16 _ lim 0 (by omega) d153 l104 hd g12 n10 hexb, if_pos rfl, gI_z, t2, if_neg (by decide)]
      rfl
  · -- they don't unify: the next choice
    subst o1; subst o2
    rw [if_pos q0] at hexb
    right
    obtain ⟨u', b1, b2, b3, b4⟩ := unbind_spec hV2 w4.1 w4.2.1 w4.2.2.1
    obtain ⟨v', y1, y2, y3, y4, y5, y6, y7, y8⟩ := restore_spec (V' := (Vn : Int)) f J L ((f + 1 : Nat) : Int) (by omega) hV2 (by omega) w4.1 w4.2.2.2.1 w4.2.2.2.2 (by rw [e13 172 _ rfl (by decide) (by decide) (by decide) (by omega)]; exact f7) (by rw [e13 173 _ rfl (by decide) (by decide) (by decide) (by omega)]; exact f8) (by rw [e13 174 _ rfl (by decide) (by decide) (by decide) (by omega)]; exact f9) (by rw [e13 175 _ rfl (by decide) (by decide) (by decide) (by omega)]; exact f10) (by rw [e13 176 _ rfl (by decide) (by decide) (by decide) (by omega)]; exact f11)
    have K' : Kp u u' v v' f L J := Kp_tr K14 (Kp_tr (Kp_PU (PU_PB b4)) (Kp_rst y8))
    have eu : ∀ k i, PU k i = false → k ≠ 67 → (k ≠ 9 ∨ i ≠ 13) → I u' k i = I u k i := fun k i h h' h2 => by rw [Fr_I (PU_PB b4) h, e14 k i h h' h2]
    have ev : ∀ k i, PRU k i = false → k ≠ 170 → k ≠ 171 → k ≠ 154 → (k ≠ 100 ∨ (i ≠ 93 ∧ i ≠ 89 ∧ i ≠ 110 ∧ i ≠ 105 ∧ i ≠ 92 ∧ i ≠ 101 ∧ i ≠ 97)) → I v' k i = I v k i := fun k i h h1 h2 h3 h4 => by rw [rst_lem y8 k i h3 (by omega), e13 k i h h1 h2 h3 (by omega)]
    have su : I u' 9 13 = I u 9 13 + 1 := by rw [Fr_I b4 rfl]; exact s14
    have sv' : I v' 100 101 = I u 9 13 + 1 := by rw [Fr_I y8 rfl]; exact s13
    refine ⟨u', v', fun F => by rw [hcls F]; exact av_no F u14 u' (f + 1) T.length x1 (by omega) (by rw [e14 9 9 rfl (by decide) (by omega)]; exact r99) (by rw [e14 68 _ rfl (by decide) (by omega)]; exact f4) b1, fun R => ?_, Kp_S K' hS, Kp_TB K' (fun _ _ => rfl) (Int.le_refl _) hTBc, ?_, ?_, ?_, ?_, ?_, ?_, K', by omega⟩
    · rw [XT_near R f (φ g) _ _ _ w v13 _ lim 0 (by omega) d153 l104 hd g12 n10 hexb, if_pos rfl, gI_z, o3, if_pos q0, gI_z, v99, if_pos q0, y1, bd_s]
    · refine FR_kp g1 (fun k hk => ?_) (fun k hk => ?_) (fun t ht => K'.1 61 t (PKc_tab (by simp) ht)) rfl hFRc
      · rcases hk with h | h | h | h <;> subst h <;> exact eu _ _ rfl (by decide) (by omega)
      · rcases hk with h | h | h | h | h | h <;> subst h <;> exact ev _ _ rfl (by decide) (by decide) (by decide) (by omega)
    · refine ⟨by rw [eu 65 _ rfl (by decide) (by omega)]; exact hk1, by rw [ev 169 _ rfl (by decide) (by decide) (by decide) (by omega)]; exact h169, ?_, by omega, k0, j0 + 1, ?_, ?_, Or.inl ⟨hk0, by omega, by omega⟩⟩
      · rw [Fr_I b4 rfl, c67']; omega
      · rw [Fr_I y8 rfl, Fr_I w6 rfl, Fr_I s5 rfl, Fr_I Fw2 rfl]; exact hw170
      · rw [Fr_I y8 rfl, Fr_I w6 rfl, Fr_I s5 rfl, Fr_I Fw2 rfl]; exact hw171
    · refine ⟨⟨hGT, WE_V b2 (by omega), b3, y2, y3⟩, by rw [eu 7 6 rfl (by decide) (by omega)]; exact r76, by rw [eu 7 7 rfl (by decide) (by omega)]; exact r77, y4, y5, y6, y7, by rw [eu 9 9 rfl (by decide) (by omega)]; exact r99, by rw [ev 100 120 rfl (by decide) (by decide) (by decide) (by omega)]; exact r120⟩
    · refine ⟨by rw [eu 9 11 rfl (by decide) (by omega)]; exact n1, by rw [ev 100 102 rfl (by decide) (by decide) (by decide) (by omega)]; exact n2, by omega, by omega, n5, by omega, by rw [eu 9 14 rfl (by decide) (by omega)]; exact n7, by rw [ev 100 104 rfl (by decide) (by decide) (by decide) (by omega)]; exact n8, n9, n10, ?_, ?_⟩
      · rw [eu 9 12 rfl (by decide) (by omega), ev 100 100 rfl (by decide) (by decide) (by decide) (by omega)]; exact n11
      · rw [eu 9 12 rfl (by decide) (by omega)]; exact n12
    · rw [Fr_I y8 rfl]; exact o3
    · rw [Fr_I y8 rfl]; exact v99
  · -- no looks left
    subst o1; subst o2
    rw [if_pos q0] at hexb
    left
    refine ⟨-7, 0, u14, v13, fun F => by rw [hcls F]; exact av_full F u14 _, fun R => ?_, hCn13, K14, by omega, Or.inr (Or.inr (Or.inr ⟨rfl, rfl, o3, _, UE_BCs (by omega) w4⟩))⟩
    rw [XT_near R f (φ g) _ _ _ w v13 _ lim 0 (by omega) d153 l104 hd g12 n10 hexb, if_pos rfl, gI_z, o3, if_neg (by decide)]
    rfl
