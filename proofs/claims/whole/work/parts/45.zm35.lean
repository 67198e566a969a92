/-! one try of a reduction -/
theorem nc_two_yes (u u1 : St) (i x : Nat) (pp : Int) (hi : i < 151) (ht : I u 9 9 = i) (hk : I u 65 i = 2) (h67 : I u 67 i = x) (hx : x < 150) (h59 : I u 59 x = pp) (hn : fX3_nextAbove_L0 FU 0 (zI pp) (zI 0) u = some (1, u1)) : fX3_nextChoice u = some (1, u1) := by
  unfold fX3_nextChoice fX3_nextAbove
  rw [gI_z, ht, ld_z _ _ _ _ (by omega) (by omega), bd_s, Int.toNat_natCast, hk, if_neg (by decide), bd_s, if_pos q2, ld_z _ _ _ _ (by omega) (by omega), bd_s, Int.toNat_natCast, h67, ld_z _ _ _ _ (by omega) (by omega), bd_s, Int.toNat_natCast, h59, lt_e, show (0 : Int32) = zI 0 from rfl, hn, b2_s, if_neg (by decide)]
theorem nc_two_no (u : St) (i x : Nat) (pp : Int) (hi : i < 151) (ht : I u 9 9 = i) (hk : I u 65 i = 2) (h67 : I u 67 i = x) (hx : x < 150) (h59 : I u 59 x = pp) (hn : fX3_nextAbove_L0 FU 0 (zI pp) (zI 0) u = some (0, u)) : fX3_nextChoice u = fX3_nextChoice (uI (uI u 65 i (zI 1)) 67 i (zI (-1))) := by
  have h1 : I (uI (uI u 65 i (zI 1)) 67 i (zI (-1))) 9 9 = i := by rw [I_uI2 _ _ _ _ _ _ (by omega), I_uI2 _ _ _ _ _ _ (by omega)]; exact ht
  have h2 : I (uI (uI u 65 i (zI 1)) 67 i (zI (-1))) 65 i = 1 := by rw [I_uI2 _ _ _ _ _ _ (by omega), I_uI1 _ _ _ _ (by decide) (by decide)]
  have h3 : I (uI u 65 i (zI 1)) 9 9 = i := by rw [I_uI2 _ _ _ _ _ _ (by omega)]; exact ht
  rw [nc_one _ i hi h1 h2]
  unfold fX3_nextChoice fX3_nextAbove
  rw [gI_z u 9 9, ht, ld_z _ _ _ _ (by omega) (by omega), bd_s, Int.toNat_natCast, hk, if_neg (by decide), bd_s, if_pos q2, ld_z _ _ _ _ (by omega) (by omega), bd_s, Int.toNat_natCast, h67, ld_z _ _ _ _ (by omega) (by omega), bd_s, Int.toNat_natCast, h59, lt_e, show (0 : Int32) = zI 0 from rfl, hn, b2_s, if_pos (show (0 : Int32) = zI 0 from rfl), gI_z u 9 9, ht, st_z _ _ _ _ _ (by omega) (by omega), bd_s, Int.toNat_natCast, show (1 : Int32) = zI 1 from rfl, gI_z _ 9 9, h3, st_z _ _ _ _ _ (by omega) (by omega), bd_s, Int.toNat_natCast, z_neg]
theorem tn1_eq (G f p : Nat) (g : Int32) (w : St) (pp : Int) (hf : f < 400) (hp : p < 400) (h169 : I w 169 f = p) (h152 : I w 152 p = pp) (r : Int32) (w' : St) (hr : fX12_reduces g (zI p) (uI w 169 f (zI pp)) = some (r, w')) : fX12_tryNext_L1 (G + 1) 0 (zI f) g w = if r = 0 then (if (gI w' 100 98) = 0 then (if (gI w' 100 99) = 0 then (bd (fX12_restore (zI f) w') fun u44 => fX12_tryNext_L1 G 0 (zI f) g u44) else some (0, w')) else some (0, w')) else some (1, w') := by
  have st : fX12_tryNext_L1 (G + 1) 0 (zI f) g w = fX12_tryNext_L1_0 (fX12_tryNext_L1 G) (zI f) g w := rfl
  rw [st]
  generalize fX12_tryNext_L1 G = R
  unfold fX12_tryNext_L1_0
  rw [ld_z _ _ _ _ (by omega) (by omega), bd_s, Int.toNat_natCast, h169, if_neg (by rw [z_zero, z_lt (by omega) (by omega) (by decide) (by decide)]; omega), bd_s, ld_z _ _ _ _ (by omega) (by omega), bd_s, Int.toNat_natCast, h152, st_z _ _ _ _ _ (by omega) (by omega), bd_s, Int.toNat_natCast, hr, b2_s]
theorem tn1_end (G f g gl : Nat) (w : St) (hf : f < 400) (hg : g < 400) (h169 : I w 169 f = -1) (h150 : I w 150 g = gl) : fX12_tryNext_L1 (G + 1) 0 (zI f) (zI g) w = fX12_tryNext_L0 FU 0 (zI f) (zI g) (zI gl) w := by
  have st : fX12_tryNext_L1 (G + 1) 0 (zI f) (zI g) w = fX12_tryNext_L1_0 (fX12_tryNext_L1 G) (zI f) (zI g) w := rfl
  rw [st]
  generalize fX12_tryNext_L1 G = R
  unfold fX12_tryNext_L1_0
  generalize FU = FF
  rw [ld_z _ _ _ _ (by omega) (by omega), bd_s, Int.toNat_natCast, h169, if_pos (by decide), ld_z _ _ _ _ (by omega) (by omega), bd_s, Int.toNat_natCast, h150]
theorem e2_lem {v w w1 w2 : St} {f : Nat} (hw : Fr (P1 169 f) v w) (hw1 : Fr (P1 169 f) w w1) (Fw2 : Fr (fun k i => k == 100 && (i == 101 || i == 97)) w1 w2) : ∀ k i, k ≠ 169 → (k ≠ 100 ∨ (i ≠ 101 ∧ i ≠ 97)) → I w2 k i = I v k i := fun k i h h' => by
  rw [Fr_I Fw2 (by simp; omega), Fr_I hw1 (by simp [P1, h]), Fr_I hw (by simp [P1, h])]
theorem red_try {u v w : St} {φ : Nat → Nat} {Gd : Nat → Prop} {C : Nat} {fi ps : Nat → Nat} {nv c : Nat → Int} {e : Nat → Nat} {f g : Nat} {T : List (Nat × Nat × Int)} {L J : Nat} {V : Int} {r : Nat} {mst lim : Int} (p pl gl : Nat) (x1 : Int) (hS : SR u v C fi ps nv c e) (hTB : TB u v φ L J V C fi nv Gd) (hFR : FR u v φ Gd f g T L J V r) (hk2 : I u 65 (f + 1) = 2) (h170 : I v 170 f = 0) (h171 : I v 171 f = 0) (hRS : RS u v c e (ps (fi C)) f T L J V) (hCn : Cn u v mst lim) (h98 : I v 100 98 = 0) (h99 : I v 100 99 = 0) (hJL : J ≤ L) (hL : L ≤ 150) (hV0 : 0 ≤ V) (hV1 : V ≤ 200) (hf : f < 150) (hgl : I u 57 g = gl) (hpG : Gd p) (hpl : I u 57 p = pl) (hop : Op u ps c gl pl) (hw : Fr (P1 169 f) v w) (hw169 : I w 169 f = φ p) (hx0 : 0 ≤ x1) (hx1 : x1 < 1000000) (hnc : fX3_nextChoice u = some (1, uI u 67 (f + 1) (zI p))) :
    (∃ a a' u' v', (∀ F, fX3_advance_L0 (F + 2) 0 (zI x1) 0 u = some (zI a, u')) ∧ (∀ G, fX12_tryNext_L1 (G + 1) 0 (zI f) (zI (φ g)) w = some (zI a', v')) ∧ AO u v u' v' a a' φ Gd C fi ps nv c e f g T L J V r mst lim) ∨
    (∃ u' v', (∀ F, fX3_advance_L0 (F + 2) 0 (zI x1) 0 u = fX3_advance_L0 F 0 (zI (x1 + 1)) 0 u') ∧ (∀ G, fX12_tryNext_L1 (G + 1) 0 (zI f) (zI (φ g)) w = fX12_tryNext_L1 G 0 (zI f) (zI (φ g)) v') ∧ SR u' v' C fi ps nv c e ∧ TB u' v' φ L J V C fi nv Gd ∧ FR u' v' φ Gd f g T L J V r ∧ K2 u' v' φ Gd f p ∧ RS u' v' c e (ps (fi C)) f T L J V ∧ Cn u' v' mst lim ∧ I v' 100 98 = 0 ∧ I v' 100 99 = 0 ∧ Kp u u' v v' f L J ∧ I u 9 13 ≤ I u' 9 13) := by
  have hTBc := hTB
  have hFRc := hFR
  have hRSc := hRS
  obtain ⟨hU, r76, r77, r92, r89, r110, r105, r99, r120⟩ := hRS
  obtain ⟨hGT, hWE, hTC, hRE, hTR⟩ := hU
  obtain ⟨n1, n2, n3, n4, n5, n6, n7, n8, n9, n10, n11, n12⟩ := hCn
  obtain ⟨f1, f2, f3, f4, f5, f6, f7, f8, f9, f10, f11, f12, f13⟩ := hFR
  obtain ⟨g1, g2, ⟨gk, gl', g3, g4, g5, g6, g7, g8, g9, g10⟩, g11, g12, g13, g14, g15⟩ := hTB g f1
  obtain ⟨p1, p2, ⟨pk, pl', p3, p4, p5, p6, p7, p8, p9, p10⟩, p11, p12, p13, p14, p15⟩ := hTB p hpG
  clear g14 p14 p15
  have hg15 : NR φ Gd (I u 61 g) (I v 167 (φ g)) := g15
  clear g15
  have hgg : gl' = gl := by omega
  subst hgg
  have hpp : pl' = pl := by omega
  subst hpp
  have hff := SR_fi hS
  have hC := hS.1
  have hT := hS.2.2.2.2.2.2.2.2.2.2.2.2.2
  have hgl1 : gl' < fi C := by have := hff.1 C (Nat.le_refl _) (gk + 1) (by omega); omega
  have hpl1 : pl' < fi C := by have := hff.1 C (Nat.le_refl _) (pk + 1) (by omega); omega
  have lg := SR_lit hS hgl1
  have lm := SR_lit hS hpl1
  have hV2 : V ≤ 220 := by omega
  -- the class up to unifying
  have F2 : Fr (P1 67 (f + 1)) u (uI u 67 (f + 1) (zI p)) := Fr_up (by simp [P1]) (Fr_rfl _ _)
  have c67 : I (uI u 67 (f + 1) (zI p)) 67 (f + 1) = p := I_uI1 _ _ _ _ (by omega) (by omega)
  generalize hu2 : uI u 67 (f + 1) (zI p) = u2 at *
  have F6 : Fr (P1 9 13) u2 (uI u2 9 13 (zI (I u 9 13 + 1))) := Fr_up (by simp [P1]) (Fr_rfl _ _)
  have p67 : ∀ k i, k ≠ 67 → P1 67 (f + 1) k i = false := fun k i h => by simp [P1, h]
  have ew : ∀ k i, k ≠ 169 → I w k i = I v k i := fun k i h => Fr_I hw (by simp [P1, h])
  have hSw : SR u w C fi ps nv c e := Kp_S (Kp_169 (L := L) (J := J) hw) hS
  -- the reference's iteration
  have F38 : Fr (P1 169 f) w (uI w 169 f (zI (I v 152 (φ p)))) := Fr_up (by simp [P1]) (Fr_rfl _ _)
  have c38 : I (uI w 169 f (zI (I v 152 (φ p)))) 169 f = I v 152 (φ p) := I_uI1 _ _ _ _ (I_lo _ _ _) (I_hi _ _ _)
  have h152 : I w 152 (φ p) = I v 152 (φ p) := ew _ _ (by decide)
  have htn := fun G r w' hr => tn1_eq G f (φ p) (zI (φ g)) w (I v 152 (φ p)) (by omega) (by omega) hw169 h152 r w' hr
  generalize h38 : uI w 169 f (zI (I v 152 (φ p))) = w1 at *
  have ew1 : ∀ k i, k ≠ 169 → I w1 k i = I v k i := fun k i h => by rw [Fr_I F38 (by simp [P1, h]), ew k i h]
  have hS1 : SR u w1 C fi ps nv c e := Kp_S (Kp_169 (L := L) (J := J) F38) hSw
  by_cases hsm : I u 9 13 < mst
  · have c6 : I (uI u2 9 13 (zI (I u 9 13 + 1))) 9 13 = I u 9 13 + 1 := I_uI1 _ _ _ _ (by omega) (by omega)
    have Fw2 : Fr (fun k i => k == 100 && (i == 101 || i == 97)) w1 (uI (uI w1 100 101 (zI (I u 9 13 + 1))) 100 97 (zI 0)) := Fr_up rfl (Fr_up rfl (Fr_rfl _ _))
    have h97' : I (uI (uI w1 100 101 (zI (I u 9 13 + 1))) 100 97 (zI 0)) 100 97 = 0 := I_uI1 _ _ _ _ (by decide) (by decide)
    have h101' : I (uI (uI w1 100 101 (zI (I u 9 13 + 1))) 100 97 (zI 0)) 100 101 = I u 9 13 + 1 := by rw [I_uI2 _ _ _ _ _ _ (by omega), I_uI1 _ _ _ _ (by omega) (by omega)]
    have hcls0 := fun F rr u14 hu => av_red (F + 1) u u2 (f + 1) g p pl' x1 (I u 9 13) mst (I u 58 p) rr u14 hx0 hx1 hnc (by rw [Fr_I F2 (p67 _ _ (by decide))]) (by rw [Fr_I F2 (p67 _ _ (by decide))]; exact n1) hsm n3 n5 (by omega) (by rw [Fr_I F2 (p67 _ _ (by decide))]; exact r99) (by rw [Fr_I F2 (p67 _ _ (by decide))]; exact hk2) (by rw [Fr_I F2 (p67 _ _ (by decide))]; exact f2) c67 (by omega) (by rw [Fr_I F2 (p67 _ _ (by decide))]; exact p6) (by rw [Fr_I F2 (p67 _ _ (by decide))]) hu
    have hred0 := fun rr v19 hu => red_yes hS1 (φ g) (φ p) gl' pl' (I u 9 13) mst (I u 58 g) (I u 58 p) rr v19 (by omega) (by omega) (by rw [ew1 _ _ (by decide)]; exact g7) (by rw [ew1 _ _ (by decide)]; exact p7) hgl1 hpl1 hop (by rw [ew1 _ _ (by decide)]; exact n6) (by rw [ew1 _ _ (by decide)]; exact n2) n3 hsm n5 (by rw [ew1 _ _ (by decide)]; exact g9) (by rw [ew1 _ _ (by decide)]; exact p9) hu
    generalize hu6 : uI u2 9 13 (zI (I u 9 13 + 1)) = u6 at *
    generalize hw2 : uI (uI w1 100 101 (zI (I u 9 13 + 1))) 100 97 (zI 0) = w2 at *
    have e6 : ∀ k i, k ≠ 67 → (k ≠ 9 ∨ i ≠ 13) → I u6 k i = I u k i := e6_lem F2 F6
    have c6' : I u6 67 (f + 1) = p := by rw [Fr_I F6 (by simp [P1])]; exact c67
    have e7 : ∀ k i, k ≠ 169 → (k ≠ 100 ∨ (i ≠ 101 ∧ i ≠ 97)) → I w2 k i = I v k i := e2_lem hw F38 Fw2
    have K6 : Kp u u6 v w2 f L J := Kp_tr (Kp_tr (Kp_67 F2) (Kp_913 F6)) (Kp_tr (Kp_169 hw) (Kp_tr (Kp_169 F38) (Kp_st2 Fw2)))
    have hUE : UE u6 w2 c e (ps (fi C)) V T := by
      refine ⟨hGT, WE_fr F6 (fun i => by simp [P1]) (fun i => by simp [P1]) (fun i => by simp [P1]) (WE_fr F2 (fun i => p67 _ i (by decide)) (fun i => p67 _ i (by decide)) (fun i => p67 _ i (by decide)) hWE), TC_fr F6 (by simp [P1]) (fun i => by simp [P1]) (TC_fr F2 (p67 _ _ (by decide)) (fun i => p67 _ i (by decide)) hTC), ?_, ?_⟩
      · exact RE_fr Fw2 (fun _ => rfl) (fun _ => rfl) (fun _ => rfl) (fun _ => rfl) (fun _ => rfl) (RE_fr F38 (fun i => by simp [P1]) (fun i => by simp [P1]) (fun i => by simp [P1]) (fun i => by simp [P1]) (fun i => by simp [P1]) (RE_fr hw (fun i => by simp [P1]) (fun i => by simp [P1]) (fun i => by simp [P1]) (fun i => by simp [P1]) (fun i => by simp [P1]) hRE))
      · exact TR_fr Fw2 rfl (fun _ => rfl) (TR_fr F38 (by simp [P1]) (fun i => by simp [P1]) (TR_fr hw (by simp [P1]) (fun i => by simp [P1]) hTR))
    have h98' : I w2 100 98 = 0 := by rw [e7 100 98 (by decide) (by omega)]; exact h98
    obtain ⟨rr, rr', u14, v13, T2, w1', w2', w3, w4, w5, w6⟩ := unify_spec hT hV2 hUE g gl' (ps gl') pl' (ps pl') (I u 58 g) (I u 58 p) (by omega) (by rw [e6 57 g (by decide) (by omega)]; exact g6) (by omega) (by rw [e6 29 gl' (by decide) (by omega)]; exact lg.1) (e6 58 g (by decide) (by omega)) (by omega) (by rw [e6 29 _ (by decide) (by omega)]; exact lm.1) (SR_IOL hS g3 g4 g5 g8 g10 hV2) (SR_IOL hS p3 p4 p5 p8 p10 hV2) hop.2 h97' h98'
    have hcls := fun F => hcls0 F (zI rr) u14 w1'
    have hred := hred0 (zI rr') v13 w2'
    clear hcls0 hred0
    have K14 : Kp u u14 v v13 f L J := Kp_tr K6 (Kp_tr (Kp_PU w5) (Kp_PRU w6))
    have e14 : ∀ k i, PU k i = false → k ≠ 67 → (k ≠ 9 ∨ i ≠ 13) → I u14 k i = I u k i := fun k i h h' h2 => by rw [Fr_I w5 h, e6 k i h' h2]
    have e13 : ∀ k i, PRU k i = false → k ≠ 169 → (k ≠ 100 ∨ (i ≠ 101 ∧ i ≠ 97)) → I v13 k i = I v k i := fun k i h h1 h4 => by rw [Fr_I w6 h, e7 k i h1 h4]
    have s14 : I u14 9 13 = I u 9 13 + 1 := by rw [Fr_I w5 rfl]; exact c6
    have s13 : I v13 100 101 = I u 9 13 + 1 := by rw [Fr_I w6 rfl]; exact h101'
    have c67' : I u14 67 (f + 1) = p := by rw [Fr_I w5 rfl]; exact c6'
    have c169 : I v13 169 f = I v 152 (φ p) := by rw [Fr_I w6 rfl, Fr_I Fw2 rfl]; exact c38
    have v99 : I v13 100 99 = 0 := by rw [e13 100 99 rfl (by decide) (by omega)]; exact h99
    have hCn13 : Cn u14 v13 mst lim := by
      refine ⟨by rw [e14 9 11 rfl (by decide) (by omega)]; exact n1, by rw [e13 100 102 rfl (by decide) (by omega)]; exact n2, by omega, by omega, n5, by omega, by rw [e14 9 14 rfl (by decide) (by omega)]; exact n7, by rw [e13 100 104 rfl (by decide) (by omega)]; exact n8, n9, n10, ?_, ?_⟩
      · rw [e14 9 12 rfl (by decide) (by omega), e13 100 100 rfl (by decide) (by omega)]; exact n11
      · rw [e14 9 12 rfl (by decide) (by omega)]; exact n12
    rcases w3 with ⟨o1, o2, o3⟩ | ⟨o1, o2, o3⟩ | ⟨o1, o2, o3⟩
    · -- they unify
      subst o1; subst o2
      rw [if_neg (by decide)] at hred
      left
      have y99 : I u14 9 9 = ((f + 1 : Nat) : Int) := by rw [e14 9 9 rfl (by decide) (by omega)]; exact r99
      have y65 : I u14 65 (f + 1) = 2 := by rw [e14 65 _ rfl (by decide) (by omega)]; exact hk2
      have y66 : I u14 66 (f + 1) = g := by rw [e14 66 _ rfl (by decide) (by omega)]; exact f2
      have y61 : I u14 61 g = I u 61 g := e14 61 _ rfl (by decide) (by omega)
      have hgr := grow_red u14 (f + 1) g _ (by omega) y99 y65 y66 (by omega) y61
      have y153 : I v13 153 (φ p) = I u 60 p := by rw [e13 153 _ rfl (by decide) (by omega)]; exact p11
      obtain ⟨v19, d1, d2, d3, d4, d5, d6, d7⟩ := moved_spec v13 (f + 1) 2 (-1) (I u 60 p) (φ g) (by omega) (by rw [e13 100 105 rfl (by decide) (by omega)]; exact r105) (by decide) (by decide) (by decide) (by decide) (by omega) (by omega) (by omega) (by omega)
      have y167 : I v19 167 (φ g) = I v 167 (φ g) := by rw [Fr_I d7 rfl, e13 167 _ rfl (by decide) (by omega)]
      have hred2 : fX12_reduces (zI (φ g)) (zI (φ p)) w1 = some (1, uI v19 100 130 (zI (I v 167 (φ g)))) := by
        rw [hred, ld_z _ _ _ _ (by omega) (by omega), bd_s, Int.toNat_natCast, y153, show (2 : Int32) = zI 2 from rfl, show (-1 : Int32) = zI (-1) from rfl, d1, bd_s, ld_z _ _ _ _ (by omega) (by omega), bd_s, Int.toNat_natCast, y167, lt_e]
      have hxr := NR_rng hg15 (fun t ht => ⟨(hTBc t ht).1, (hTBc t ht).2.1⟩) hL (by omega)
      have Fa : Fr (P1 9 10) u14 (uI u14 9 10 (zI (I u 61 g))) := Fr_up (by simp [P1]) (Fr_rfl _ _)
      have Fb : Fr (P1 100 130) v19 (uI v19 100 130 (zI (I v 167 (φ g)))) := Fr_up (by simp [P1]) (Fr_rfl _ _)
      have xa : I (uI u14 9 10 (zI (I u 61 g))) 9 10 = I u 61 g := I_uI1 _ _ _ _ (I_lo _ _ _) (I_hi _ _ _)
      have xb : I (uI v19 100 130 (zI (I v 167 (φ g)))) 100 130 = I v 167 (φ g) := I_uI1 _ _ _ _ (I_lo _ _ _) (I_hi _ _ _)
      have Kf : Kp u (uI u14 9 10 (zI (I u 61 g))) v (uI v19 100 130 (zI (I v 167 (φ g)))) f L J := Kp_tr K14 (Kp_tr (Kp_mv d7) (Kp_tr (Kp_910 Fa) (Kp_130 Fb)))
      generalize huf : uI u14 9 10 (zI (I u 61 g)) = uf at *
      generalize hvf : uI v19 100 130 (zI (I v 167 (φ g))) = vf at *
      have eu : ∀ k i, PU k i = false → k ≠ 67 → k ≠ 9 → I uf k i = I u k i := fun k i h h2 h3 => by rw [Fr_I Fa (by simp [P1, h3]), e14 k i h h2 (Or.inl h3)]
      have eu9 : ∀ i, i ≠ 10 → i ≠ 13 → I uf 9 i = I u 9 i := fun i h h' => by rw [Fr_I Fa (by simp [P1, h]), e14 9 i rfl (by decide) (Or.inr h')]
      have su : I uf 9 13 = I u 9 13 + 1 := by rw [Fr_I Fa rfl]; exact s14
      have ev : ∀ k, (168 ≤ k ∧ k ≤ 176 ∧ k ≠ 169) → I vf k f = I v k f := fun k hk => by
        rw [Fr_I Fb (by simp [P1]; omega), Fr_I d7 (by simp [Pm]; omega), e13 k f (by simp [PRU, PRB, PRS, PAN]; omega) (by omega) (by omega)]
      have ev0 : ∀ i, PRU 100 i = false → i ≠ 130 → i ≠ 105 → i ≠ 101 → i ≠ 97 → I vf 100 i = I v 100 i := fun i h h1 h3 h7 h8 => by
        rw [Fr_I Fb (by simp [P1]; omega), Fr_I d7 (by simp [Pm]; omega), e13 100 i h (by decide) (by omega)]
      have em : ∀ k, (157 ≤ k ∧ k ≤ 160) → I vf k (f + 1) = I v19 k (f + 1) := fun k hk => by
        rw [Fr_I Fb (by simp [P1]; omega)]
      refine ⟨2, 1, uf, vf, fun F => by rw [hcls F]; exact av_yes F u14 uf _ 2 hgr, fun G => ?_, ?_, Kf, by omega, Or.inl ⟨rfl, rfl, ?_, ?_, by omega, φ, Gd, T2, L, J, V, r, by rw [xa, xb]; exact hg15, ?_, f13, Kp_TB Kf (fun _ _ => rfl) (Int.le_refl _) hTBc, ?_, ?_, ?_, ?_, ?_, ?_, ?_, ?_, ?_, Nat.le_refl _, Nat.le_refl _, Int.le_refl _, hJL, hL, hV1, fun _ _ => rfl, fun _ h => h, ?_, ?_, ?_⟩⟩
      · rw [htn G _ _ hred2, if_neg (by decide)]; rfl
      · refine ⟨by rw [eu9 11 (by decide) (by decide)]; exact n1, by rw [ev0 102 rfl (by decide) (by decide) (by decide) (by decide)]; exact n2, by omega, by omega, n5, ?_, by rw [eu9 14 (by decide) (by decide)]; exact n7, by rw [ev0 104 rfl (by decide) (by decide) (by decide) (by decide)]; exact n8, n9, n10, ?_, ?_⟩
        · rw [Fr_I Fb rfl, Fr_I d7 rfl, s13, su]
        · rw [eu9 12 (by decide) (by decide), ev0 100 rfl (by decide) (by decide) (by decide) (by decide)]; exact n11
        · rw [eu9 12 (by decide) (by decide)]; exact n12
      · rw [Fr_I Fb rfl, Fr_I d7 rfl]; exact o3
      · rw [Fr_I Fb rfl, Fr_I d7 rfl]; exact v99
      · rw [xa]; exact Kp_CL Kf f12
      · refine ⟨w4.1, WE_fr Fa (fun i => by simp [P1]) (fun i => by simp [P1]) (fun i => by simp [P1]) w4.2.1, TC_fr Fa (by simp [P1]) (fun i => by simp [P1]) w4.2.2.1, ?_, ?_⟩
        · exact RE_fr Fb (fun i => by simp [P1]) (fun i => by simp [P1]) (fun i => by simp [P1]) (fun i => by simp [P1]) (fun i => by simp [P1]) (RE_fr d7 (fun _ => rfl) (fun _ => rfl) (fun _ => rfl) (fun _ => rfl) (fun _ => rfl) w4.2.2.2.1)
        · exact TR_fr Fb (by simp [P1]) (fun i => by simp [P1]) (TR_fr d7 rfl (fun _ => rfl) w4.2.2.2.2)
      · rw [eu 7 6 rfl (by decide) (by decide)]; exact r76
      · rw [eu 7 7 rfl (by decide) (by decide)]; exact r77
      · rw [ev0 92 rfl (by decide) (by decide) (by decide) (by decide)]; exact r92
      · rw [ev0 89 rfl (by decide) (by decide) (by decide) (by decide)]; exact r89
      · rw [ev0 110 rfl (by decide) (by decide) (by decide) (by decide)]; exact r110
      · rw [Fr_I Fb rfl]; exact d2
      · rw [eu9 9 (by decide) (by decide)]; exact r99
      · rw [ev0 120 rfl (by decide) (by decide) (by decide) (by decide)]; exact r120
      · refine FR_kp g1 (fun k hk => ?_) (fun k hk => ev k (by omega)) (fun t ht => Kf.1 61 t (PKc_tab (by simp) ht)) rfl hFRc
        rcases hk with h | h | h | h <;> subst h <;> exact eu _ _ rfl (by decide) (by decide)
      · left
        refine ⟨p, by rw [eu 65 _ rfl (by decide) (by decide)]; exact hk2, hpG, by rw [Fr_I Fa (by simp [P1])]; exact c67', ?_, by rw [ev 170 (by omega)]; exact h170, by rw [ev 171 (by omega)]; exact h171⟩
        rw [Fr_I Fb (by simp [P1]), Fr_I d7 rfl, c169, Kf.2.1 152 _ (PKr_tab (by simp) p2)]
      · refine ⟨g, by rw [eu 66 _ rfl (by decide) (by decide)]; exact f2, by rw [em 160 (by omega)]; exact d6, by rw [em 157 (by omega), d3, eu 65 _ rfl (by decide) (by decide)]; exact hk2.symm, Or.inr ⟨by rw [eu 65 _ rfl (by decide) (by decide)]; exact hk2, by rw [em 158 (by omega)]; exact d4, p, p1, by rw [Fr_I Fa (by simp [P1])]; exact c67', ?_⟩⟩
        rw [em 159 (by omega), d5, Kf.1 60 p (PKc_tab (by simp) p1)]
    · -- they don't unify
      subst o1; subst o2
      rw [if_pos q0] at hred
      right
      obtain ⟨u', b1, b2, b3, b4⟩ := unbind_spec hV2 w4.1 w4.2.1 w4.2.2.1
      obtain ⟨v', y1, y2, y3, y4, y5, y6, y7, y8⟩ := restore_spec (V' := V) f J L ((f + 1 : Nat) : Int) (by omega) hV2 (Int.le_refl _) w4.1 w4.2.2.2.1 w4.2.2.2.2 (by rw [e13 172 _ rfl (by decide) (by omega)]; exact f7) (by rw [e13 173 _ rfl (by decide) (by omega)]; exact f8) (by rw [e13 174 _ rfl (by decide) (by omega)]; exact f9) (by rw [e13 175 _ rfl (by decide) (by omega)]; exact f10) (by rw [e13 176 _ rfl (by decide) (by omega)]; exact f11)
      have K' : Kp u u' v v' f L J := Kp_tr K14 (Kp_tr (Kp_PU (PU_PB b4)) (Kp_rst y8))
      have eu : ∀ k i, PU k i = false → k ≠ 67 → (k ≠ 9 ∨ i ≠ 13) → I u' k i = I u k i := fun k i h h' h2 => by rw [Fr_I (PU_PB b4) h, e14 k i h h' h2]
      have ev : ∀ k i, PRU k i = false → k ≠ 169 → k ≠ 154 → (k ≠ 100 ∨ (i ≠ 93 ∧ i ≠ 89 ∧ i ≠ 110 ∧ i ≠ 105 ∧ i ≠ 92 ∧ i ≠ 101 ∧ i ≠ 97)) → I v' k i = I v k i := fun k i h h1 h3 h4 => by rw [rst_lem y8 k i h3 (by omega), e13 k i h h1 (by omega)]
      have su : I u' 9 13 = I u 9 13 + 1 := by rw [Fr_I b4 rfl]; exact s14
      have sv' : I v' 100 101 = I u 9 13 + 1 := by rw [Fr_I y8 rfl]; exact s13
      refine ⟨u', v', fun F => by rw [hcls F]; exact av_no F u14 u' (f + 1) T.length x1 (by omega) (by rw [e14 9 9 rfl (by decide) (by omega)]; exact r99) (by rw [e14 68 _ rfl (by decide) (by omega)]; exact f4) b1, fun G => ?_, Kp_S K' hS, Kp_TB K' (fun _ _ => rfl) (Int.le_refl _) hTBc, ?_, ?_, ?_, ?_, ?_, ?_, K', by omega⟩
      · rw [htn G _ _ hred, if_pos rfl, gI_z, o3, if_pos q0, gI_z, v99, if_pos q0, y1, bd_s]
      · refine FR_kp g1 (fun k hk => ?_) (fun k hk => ?_) (fun t ht => K'.1 61 t (PKc_tab (by simp) ht)) rfl hFRc
        · rcases hk with h | h | h | h <;> subst h <;> exact eu _ _ rfl (by decide) (by omega)
        · rcases hk with h | h | h | h | h | h <;> subst h <;> exact ev _ _ rfl (by decide) (by decide) (by omega)
      · refine ⟨by rw [eu 65 _ rfl (by decide) (by omega)]; exact hk2, hpG, by rw [Fr_I b4 rfl]; exact c67', ?_, by rw [ev 170 _ rfl (by decide) (by decide) (by omega)]; exact h170, by rw [ev 171 _ rfl (by decide) (by decide) (by omega)]; exact h171⟩
        rw [Fr_I y8 rfl, c169, K'.2.1 152 _ (PKr_tab (by simp) p2)]
      · refine ⟨⟨hGT, b2, b3, y2, y3⟩, by rw [eu 7 6 rfl (by decide) (by omega)]; exact r76, by rw [eu 7 7 rfl (by decide) (by omega)]; exact r77, y4, y5, y6, y7, by rw [eu 9 9 rfl (by decide) (by omega)]; exact r99, by rw [ev 100 120 rfl (by decide) (by decide) (by omega)]; exact r120⟩
      · refine ⟨by rw [eu 9 11 rfl (by decide) (by omega)]; exact n1, by rw [ev 100 102 rfl (by decide) (by decide) (by omega)]; exact n2, by omega, by omega, n5, by omega, by rw [eu 9 14 rfl (by decide) (by omega)]; exact n7, by rw [ev 100 104 rfl (by decide) (by decide) (by omega)]; exact n8, n9, n10, ?_, ?_⟩
        · rw [eu 9 12 rfl (by decide) (by omega), ev 100 100 rfl (by decide) (by decide) (by omega)]; exact n11
        · rw [eu 9 12 rfl (by decide) (by omega)]; exact n12
      · rw [Fr_I y8 rfl]; exact o3
      · rw [Fr_I y8 rfl]; exact v99
    · -- no looks left
      subst o1; subst o2
      rw [if_pos q0] at hred
      left
      refine ⟨-7, 0, u14, v13, fun F => by rw [hcls F]; exact av_full F u14 _, fun G => ?_, hCn13, K14, by omega, Or.inr (Or.inr (Or.inr ⟨rfl, rfl, o3, _, UE_BCs (by omega) w4⟩))⟩
      rw [htn G _ _ hred, if_pos rfl, gI_z, o3, if_neg (by decide)]
      rfl
  · -- no steps left
    left
    have heq : I u 9 13 = mst := by omega
    have hred := red_spent hS1 (φ g) (φ p) gl' pl' (I u 9 13) mst (by omega) (by omega) (by rw [ew1 _ _ (by decide)]; exact g7) (by rw [ew1 _ _ (by decide)]; exact p7) hgl1 hpl1 hop (by rw [ew1 _ _ (by decide)]; exact n6) (by rw [ew1 _ _ (by decide)]; exact n2) heq
    have F4 : Fr (P1 100 99) w1 (uI w1 100 99 (zI 1)) := Fr_up (by simp [P1]) (Fr_rfl _ _)
    have c99 : I (uI w1 100 99 (zI 1)) 100 99 = 1 := I_uI1 _ _ _ _ (by decide) (by decide)
    generalize hv3 : uI w1 100 99 (zI 1) = v3 at *
    have e9 : ∀ i, I u2 9 i = I u 9 i := fun i => Fr_I F2 (by simp [P1])
    have ev : ∀ i, i ≠ 99 → I v3 100 i = I v 100 i := fun i h1 => by rw [Fr_I F4 (by simp [P1]; omega), ew1 100 i (by decide)]
    refine ⟨-6, 0, u2, v3, fun F => av_spent (F + 1) u u2 x1 _ mst hx0 hx1 hnc rfl (by rw [e9]; exact n1) (by rw [e9, heq]; exact Int.le_refl _), fun G => ?_, ?_, Kp_tr (Kp_67 F2) (Kp_tr (Kp_169 hw) (Kp_tr (Kp_169 F38) (Kp_99 F4))), by rw [e9]; exact Int.le_refl _, Or.inr (Or.inr (Or.inl ⟨rfl, rfl, by rw [ev 98 (by decide)]; exact h98, c99, T, ?_⟩))⟩
    · rw [htn G _ _ hred, if_pos rfl, gI_z, ev 98 (by decide), h98, if_pos q0, gI_z, c99, if_neg (by decide)]
      rfl
    · exact ⟨by rw [e9]; exact n1, by rw [ev 102 (by decide)]; exact n2, by rw [e9]; exact n3, by rw [e9]; exact n4, n5, by rw [ev 101 (by decide), e9]; exact n6, by rw [e9]; exact n7, by rw [ev 104 (by decide)]; exact n8, n9, n10, by rw [ev 100 (by decide), e9]; exact n11, by rw [e9]; exact n12⟩
    · exact UE_BCs (v := v) (c := c) (e := e) (N := ps (fi C)) (V := V) (by omega) ⟨hGT, WE_fr F2 (fun i => by simp [P1]) (fun i => by simp [P1]) (fun i => by simp [P1]) hWE, TC_fr F2 (by simp [P1]) (fun i => by simp [P1]) hTC, hRE, hTR⟩
