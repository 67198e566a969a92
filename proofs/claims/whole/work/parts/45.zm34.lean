/-! advancing a frame of extensions -/
theorem adv1_none {u v v' : St} {φ : Nat → Nat} {Gd : Nat → Prop} {C : Nat} {fi ps : Nat → Nat} {nv c : Nat → Int} {e : Nat → Nat} {f g : Nat} {T : List (Nat × Nat × Int)} {L J : Nat} {V : Int} {r : Nat} {mst lim : Int} (m : Nat) (hL : L ≤ 150) (hf : f < 150) (x1 : Int) (hTB : TB u v φ L J V C fi nv Gd) (hFR : FR u v φ Gd f g T L J V r) (hk1 : I u 65 (f + 1) = 1) (h67 : I u 67 (f + 1) = (m : Int) - 1) (hRS : RS u v c e (ps (fi C)) f T L J V) (hCn : Cn u v mst lim) (h98 : I v 100 98 = 0) (h99 : I v 100 99 = 0) (hx0 : 0 ≤ x1) (hx : x1 < 1000000) (a1 : fX3_nextLiteral_L0 FU 0 (zI m) u = some (0, u)) (a3 : I v' 100 120 = f) (a4 : Fr (P3 f) v v') :
    ∃ u', (∀ F, fX3_advance_L0 (F + 1) 0 (zI x1) 0 u = some (zI 3, u')) ∧ AO u v u' v' 3 0 φ Gd C fi ps nv c e f g T L J V r mst lim := by
  have r99 := hRS.2.2.2.2.2.2.2.1
  have hU := hRS.1
  obtain ⟨g1, g2, ⟨gk, gl', g3, g4, g5, g6, g7, g8, g9, g10⟩, g11, g12, g13, g14, g15⟩ := hTB g hFR.1
  clear g14 g15
  have hnl : fX3_nextLiteral u = some (zI 0, u) := (nl_open u (f + 1) m (by omega) r99 h67).trans a1
  obtain ⟨n1, n2, n3, n4, n5, n6, n7, n8, n9, n10, n11, n12⟩ := hCn
  have ev : ∀ i, i ≠ 120 → I v' 100 i = I v 100 i := fun i hi => Fr_I a4 (by simp [P3]; omega)
  have hcut : (if I u 9 12 = 1 ∨ (0 : Int) = 1 then (1 : Int) else 0) = I u 9 12 := by
    rcases n12 with h | h <;> rw [h] <;> rfl
  have hnc : ∃ u2, fX3_nextChoice u = some (0, u2) ∧ Fr (P1 9 12) u u2 ∧ I u2 9 12 = I u 9 12 := by
    rw [nc_one u (f + 1) (by omega) r99 hk1]
    by_cases hd : I u 60 g < lim
    · exact ⟨u, j59_near u u (f + 1) g _ lim 0 (by omega) r99 hFR.2.1 (by omega) rfl n7 g12 hd n10 (Or.inl rfl) hnl, Fr_rfl _ _, rfl⟩
    · refine ⟨_, j59_far u u (f + 1) g _ lim 0 _ (by omega) r99 hFR.2.1 (by omega) rfl n7 (by omega) (by omega) (by omega) (Or.inl rfl) rfl n12 hnl, Fr_up (by simp [P1]) (Fr_rfl _ _), ?_⟩
      rw [hcut, I_uI1 _ _ _ _ (I_lo _ _ _) (I_hi _ _ _)]
  obtain ⟨u2, b1, b2, b3⟩ := hnc
  have e9 : ∀ i, i ≠ 12 → I u2 9 i = I u 9 i := fun i hi => Fr_I b2 (by simp [P1]; omega)
  refine ⟨u2, fun F => av_none F u u2 x1 hx0 hx b1, ?_, Kp_tr (Kp_912 b2) (Kp_P3 a4), by rw [e9 13 (by decide)]; exact Int.le_refl _, Or.inr (Or.inl ⟨rfl, rfl, by rw [ev 98 (by decide)]; exact h98, by rw [ev 99 (by decide)]; exact h99, ?_, by rw [e9 9 (by decide)]; exact r99, a3⟩)⟩
  · exact ⟨by rw [e9 11 (by decide)]; exact n1, by rw [ev 102 (by decide)]; exact n2, by rw [e9 13 (by decide)]; exact n3, by rw [e9 13 (by decide)]; exact n4, n5, by rw [ev 101 (by decide), e9 13 (by decide)]; exact n6, by rw [e9 14 (by decide)]; exact n7, by rw [ev 104 (by decide)]; exact n8, n9, n10, by rw [ev 100 (by decide), b3]; exact n11, by rw [b3]; exact n12⟩
  · exact ⟨hU.1, WE_fr b2 (fun i => by simp [P1]) (fun i => by simp [P1]) (fun i => by simp [P1]) hU.2.1, TC_fr b2 (by simp [P1]) (fun i => by simp [P1]) hU.2.2.1, RE_fr a4 (fun i => by simp [P3]) (fun i => by simp [P3]) (fun i => by simp [P3]) (fun i => by simp [P3]) (fun i => by simp [P3]) hU.2.2.2.1, TR_fr a4 (by simp [P3]) (fun i => by simp [P3]) hU.2.2.2.2⟩
/-- a literal is there, but the path is long: the limit cuts -/
theorem adv1_far {u v w : St} {φ : Nat → Nat} {Gd : Nat → Prop} {C : Nat} {fi ps : Nat → Nat} {nv c : Nat → Int} {e : Nat → Nat} {f g : Nat} {T : List (Nat × Nat × Int)} {L J : Nat} {V : Int} {r : Nat} {mst lim : Int} (m m0 : Nat) (l k j : Int32) (hJL : J ≤ L) (hL : L ≤ 150) (hf : f < 150) (x1 : Int) (hTB : TB u v φ L J V C fi nv Gd) (hFR : FR u v φ Gd f g T L J V r) (hk1 : I u 65 (f + 1) = 1) (h67 : I u 67 (f + 1) = (m : Int) - 1) (hRS : RS u v c e (ps (fi C)) f T L J V) (hCn : Cn u v mst lim) (h98 : I v 100 98 = 0) (h99 : I v 100 99 = 0) (hx0 : 0 ≤ x1) (hx : x1 < 1000000) (hm0 : m0 < 1300) (a1 : fX3_nextLiteral_L0 FU 0 (zI m) u = some (1, uI u 67 (f + 1) (zI m0))) (hw : Fr (P2 f) v w) (hd : ¬ I u 60 g < lim) :
    ∃ u' v', (∀ F, fX3_advance_L0 (F + 1) 0 (zI x1) 0 u = some (zI 3, u')) ∧ (∀ R, XT R (zI f) (zI (φ g)) l k j w = some (zI 0, v')) ∧ AO u v u' v' 3 0 φ Gd C fi ps nv c e f g T L J V r mst lim := by
  have r99 := hRS.2.2.2.2.2.2.2.1
  have r120 := hRS.2.2.2.2.2.2.2.2
  have hU := hRS.1
  obtain ⟨g1, g2, ⟨gk, gl', g3, g4, g5, g6, g7, g8, g9, g10⟩, g11, g12, g13, g14, g15⟩ := hTB g hFR.1
  clear g14 g15
  have hnl : fX3_nextLiteral u = some (zI 1, uI u 67 (f + 1) (zI m0)) := (nl_open u (f + 1) m (by omega) r99 h67).trans a1
  obtain ⟨n1, n2, n3, n4, n5, n6, n7, n8, n9, n10, n11, n12⟩ := hCn
  have pw : ∀ k i, k ≠ 170 → k ≠ 171 → P2 f k i = false := fun k i h h' => by simp [P2, h, h']
  have ew : ∀ k i, k ≠ 170 → k ≠ 171 → I w k i = I v k i := fun k i h h' => Fr_I hw (pw k i h h')
  have hnc := (nc_one u (f + 1) (by omega) r99 hk1).trans (j59_far u _ (f + 1) g _ lim 1 _ (by omega) r99 hFR.2.1 (by omega) rfl n7 (Int.not_lt.1 hd) (by omega) (by omega) (Or.inr rfl) rfl n12 hnl)
  rw [if_pos (Or.inr rfl)] at hnc
  have F2 : Fr (P1 67 (f + 1)) u (uI u 67 (f + 1) (zI m0)) := Fr_up (by simp [P1]) (Fr_rfl _ _)
  have F3 : Fr (P1 9 12) (uI u 67 (f + 1) (zI m0)) (uI (uI u 67 (f + 1) (zI m0)) 9 12 (zI 1)) := Fr_up (by simp [P1]) (Fr_rfl _ _)
  have c12 : I (uI (uI u 67 (f + 1) (zI m0)) 9 12 (zI 1)) 9 12 = 1 := I_uI1 _ _ _ _ (by decide) (by decide)
  generalize hu2 : uI u 67 (f + 1) (zI m0) = u2 at *
  generalize hu3 : uI u2 9 12 (zI 1) = u3 at *
  have F4 : Fr (fun k i => k == 100 && (i == 100 || i == 120)) w (uI (uI w 100 100 (zI 1)) 100 120 (zI f)) := Fr_up rfl (Fr_up rfl (Fr_rfl _ _))
  have c100 : I (uI (uI w 100 100 (zI 1)) 100 120 (zI f)) 100 100 = 1 := by rw [I_uI2 _ _ _ _ _ _ (by omega), I_uI1 _ _ _ _ (by decide) (by decide)]
  have c120 : I (uI (uI w 100 100 (zI 1)) 100 120 (zI f)) 100 120 = f := I_uI1 _ _ _ _ (by omega) (by omega)
  have hX : ∀ R, XT R (zI f) (zI (φ g)) l k j w = some (zI 0, uI (uI w 100 100 (zI 1)) 100 120 (zI f)) := fun R => XT_far R f (φ g) l k j w _ lim (by omega) (by omega) rfl (by rw [ew 100 104 (by decide) (by decide)]; exact n8) (by rw [ew 153 _ (by decide) (by decide), g11]; exact Int.not_lt.1 hd) (by rw [ew 153 _ (by decide) (by decide), g11]; omega) (by omega) (by rw [ew 100 120 (by decide) (by decide)]; exact r120)
  generalize hv3 : uI (uI w 100 100 (zI 1)) 100 120 (zI f) = v3 at *
  have e9 : ∀ i, i ≠ 12 → I u3 9 i = I u 9 i := fun i hi => by rw [Fr_I F3 (by simp [P1]; omega), Fr_I F2 (by simp [P1])]
  have ev : ∀ i, i ≠ 100 → i ≠ 120 → I v3 100 i = I v 100 i := fun i h1 h2 => by rw [Fr_I F4 (by simp; omega), ew 100 i (by decide) (by decide)]
  refine ⟨u3, v3, fun F => av_none F u u3 x1 hx0 hx hnc, hX, ?_, Kp_tr (Kp_tr (Kp_67 F2) (Kp_912 F3)) (Kp_tr (Kp_P2 hw) (Kp_far F4)), by rw [e9 13 (by decide)]; exact Int.le_refl _, Or.inr (Or.inl ⟨rfl, rfl, by rw [ev 98 (by decide) (by decide)]; exact h98, by rw [ev 99 (by decide) (by decide)]; exact h99, ?_, by rw [e9 9 (by decide)]; exact r99, c120⟩)⟩
  · exact ⟨by rw [e9 11 (by decide)]; exact n1, by rw [ev 102 (by decide) (by decide)]; exact n2, by rw [e9 13 (by decide)]; exact n3, by rw [e9 13 (by decide)]; exact n4, n5, by rw [ev 101 (by decide) (by decide), e9 13 (by decide)]; exact n6, by rw [e9 14 (by decide)]; exact n7, by rw [ev 104 (by decide) (by decide)]; exact n8, n9, n10, by rw [c100, c12], by rw [c12]; exact Or.inr rfl⟩
  · exact ⟨hU.1, WE_fr F3 (fun i => by simp [P1]) (fun i => by simp [P1]) (fun i => by simp [P1]) (WE_fr F2 (fun i => by simp [P1]) (fun i => by simp [P1]) (fun i => by simp [P1]) hU.2.1), TC_fr F3 (by simp [P1]) (fun i => by simp [P1]) (TC_fr F2 (by simp [P1]) (fun i => by simp [P1]) hU.2.2.1), RE_fr F4 (fun _ => rfl) (fun _ => rfl) (fun _ => rfl) (fun _ => rfl) (fun _ => rfl) (RE_fr hw (fun i => pw _ i (by decide) (by decide)) (fun i => pw _ i (by decide) (by decide)) (fun i => pw _ i (by decide) (by decide)) (fun i => pw _ i (by decide) (by decide)) (fun i => pw _ i (by decide) (by decide)) hU.2.2.2.1), TR_fr F4 rfl (fun _ => rfl) (TR_fr hw (pw _ _ (by decide) (by decide)) (fun i => pw _ i (by decide) (by decide)) hU.2.2.2.2)⟩
theorem adv1_spent {u v w : St} {φ : Nat → Nat} {Gd : Nat → Prop} {C : Nat} {fi ps : Nat → Nat} {nv c : Nat → Int} {e : Nat → Nat} {f g : Nat} {T : List (Nat × Nat × Int)} {L J : Nat} {V : Int} {r : Nat} {mst lim : Int} (m0 : Nat) (l k j : Int32) (hJL : J ≤ L) (hL : L ≤ 150) (hV1 : V ≤ 200) (hf : f < 150) (x1 : Int) (hTB : TB u v φ L J V C fi nv Gd) (hFR : FR u v φ Gd f g T L J V r) (hRS : RS u v c e (ps (fi C)) f T L J V) (hCn : Cn u v mst lim) (h98 : I v 100 98 = 0) (hx0 : 0 ≤ x1) (hx : x1 < 1000000) (hnc : fX3_nextChoice u = some (1, uI u 67 (f + 1) (zI m0))) (hw : Fr (P2 f) v w) (hd : I u 60 g < lim) (hs : I u 9 13 = mst) :
    ∃ u' v', (∀ F, fX3_advance_L0 (F + 1) 0 (zI x1) 0 u = some (zI (-6), u')) ∧ (∀ R, XT R (zI f) (zI (φ g)) l k j w = some (zI 0, v')) ∧ AO u v u' v' (-6) 0 φ Gd C fi ps nv c e f g T L J V r mst lim := by
  have hU := hRS.1
  obtain ⟨g1, g2, ⟨gk, gl', g3, g4, g5, g6, g7, g8, g9, g10⟩, g11, g12, g13, g14, g15⟩ := hTB g hFR.1
  clear g14 g15
  obtain ⟨n1, n2, n3, n4, n5, n6, n7, n8, n9, n10, n11, n12⟩ := hCn
  have pw : ∀ k i, k ≠ 170 → k ≠ 171 → P2 f k i = false := fun k i h h' => by simp [P2, h, h']
  have ew : ∀ k i, k ≠ 170 → k ≠ 171 → I w k i = I v k i := fun k i h h' => Fr_I hw (pw k i h h')
  have F2 : Fr (P1 67 (f + 1)) u (uI u 67 (f + 1) (zI m0)) := Fr_up (by simp [P1]) (Fr_rfl _ _)
  generalize hu2 : uI u 67 (f + 1) (zI m0) = u2 at *
  have e9 : ∀ i, I u2 9 i = I u 9 i := fun i => Fr_I F2 (by simp [P1])
  have hexb := exb_spent w (zI (φ g)) k j (I u 9 13) mst (by rw [ew 100 101 (by decide) (by decide)]; exact n6) (by rw [ew 100 102 (by decide) (by decide)]; exact n2) hs
  have F4 : Fr (P1 100 99) w (uI w 100 99 (zI 1)) := Fr_up (by simp [P1]) (Fr_rfl _ _)
  have c99 : I (uI w 100 99 (zI 1)) 100 99 = 1 := I_uI1 _ _ _ _ (by decide) (by decide)
  generalize hv3 : uI w 100 99 (zI 1) = v3 at *
  have ev : ∀ i, i ≠ 99 → I v3 100 i = I v 100 i := fun i h1 => by rw [Fr_I F4 (by simp [P1]; omega), ew 100 i (by decide) (by decide)]
  refine ⟨u2, v3, fun F => av_spent F u u2 x1 _ mst hx0 hx hnc rfl (by rw [e9]; exact n1) (by rw [e9, hs]; exact Int.le_refl _), fun R => ?_, ?_, Kp_tr (Kp_67 F2) (Kp_tr (Kp_P2 hw) (Kp_99 F4)), by rw [e9]; exact Int.le_refl _, Or.inr (Or.inr (Or.inl ⟨rfl, rfl, by rw [ev 98 (by decide)]; exact h98, c99, T, ?_⟩))⟩
  · rw [XT_near R f (φ g) l k j w v3 _ lim 0 (by omega) rfl (by rw [ew 100 104 (by decide) (by decide)]; exact n8) (by rw [ew 153 _ (by decide) (by decide), g11]; exact hd) (by rw [ew 153 _ (by decide) (by decide), g11]; exact g12) n10 hexb, if_pos rfl, gI_z, ev 98 (by decide), h98, if_pos q0, gI_z, c99, if_neg (by decide)]
    rfl
  · exact ⟨by rw [e9]; exact n1, by rw [ev 102 (by decide)]; exact n2, by rw [e9]; exact n3, by rw [e9]; exact n4, n5, by rw [ev 101 (by decide), e9]; exact n6, by rw [e9]; exact n7, by rw [ev 104 (by decide)]; exact n8, n9, n10, by rw [ev 100 (by decide), e9]; exact n11, by rw [e9]; exact n12⟩
  · exact UE_BCs (v := v) (c := c) (e := e) (N := ps (fi C)) (V := V) (by omega) ⟨hU.1, WE_fr F2 (fun i => by simp [P1]) (fun i => by simp [P1]) (fun i => by simp [P1]) hU.2.1, TC_fr F2 (by simp [P1]) (fun i => by simp [P1]) hU.2.2.1, hU.2.2.2⟩
theorem AO_kp {u v u1 v1 u' v' : St} {a a' : Int} {φ : Nat → Nat} {Gd : Nat → Prop} {C : Nat} {fi ps : Nat → Nat} {nv c : Nat → Int} {e : Nat → Nat} {f g : Nat} {T : List (Nat × Nat × Int)} {L J : Nat} {V : Int} {r : Nat} {mst lim : Int} (hK : Kp u u1 v v1 f L J) (hs : I u 9 13 ≤ I u1 9 13) (h : AO u1 v1 u' v' a a' φ Gd C fi ps nv c e f g T L J V r mst lim) : AO u v u' v' a a' φ Gd C fi ps nv c e f g T L J V r mst lim := by
  obtain ⟨h1, h2, h3, h4⟩ := h
  refine ⟨h1, Kp_tr hK h2, Int.le_trans hs h3, ?_⟩
  rcases h4 with ⟨b1, b2, b3, b4, b5, b6⟩ | h4 | h4
  · exact Or.inl ⟨b1, b2, b3, b4, Int.lt_of_le_of_lt hs b5, b6⟩
  · exact Or.inr (Or.inl h4)
  · exact Or.inr (Or.inr h4)
theorem adv1 {φ : Nat → Nat} {Gd : Nat → Prop} {C : Nat} {fi ps : Nat → Nat} {nv c : Nat → Int} {e : Nat → Nat} {f g : Nat} {T : List (Nat × Nat × Int)} {L J : Nat} {V : Int} {r : Nat} {mst lim : Int} (gl : Nat) (hJL : J ≤ L) (hL : L ≤ 150) (hV0 : 0 ≤ V) (hV1 : V ≤ 200) (hf : f < 150) (s : Nat) : ∀ (F G : Nat) (x1 : Int) (u v : St) (m : Nat), fi C - m < s → I u 57 g = gl → SR u v C fi ps nv c e → TB u v φ L J V C fi nv Gd → FR u v φ Gd f g T L J V r → K1 u v C fi f m → RS u v c e (ps (fi C)) f T L J V → Cn u v mst lim → I v 100 98 = 0 → I v 100 99 = 0 → 2 * s + 4 < F → 0 ≤ x1 → x1 + s + 2 < 1000000 → 1400 * (s + 1) < G →
    ∃ a a' u' v', fX3_advance_L0 F 0 (zI x1) 0 u = some (zI a, u') ∧ fX12_tryNext_L0 G 0 (zI f) (zI (φ g)) (zI gl) v = some (zI a', v') ∧ AO u v u' v' a a' φ Gd C fi ps nv c e f g T L J V r mst lim := by
  induction s with
  | zero => intro F G x1 u v m hs; omega
  | succ s ih =>
    intro F G x1 u v m hs hgl hS hTB hFR hK hRS hCn h98 h99 hF hx0 hx hG
    obtain ⟨F', rfl⟩ : ∃ F', F = F' + 2 := ⟨F - 2, by omega⟩
    obtain ⟨hk1, h169, h67, hm, k, j, hk, hj, hp⟩ := hK
    have hff := SR_fi hS
    have hC := hS.1
    have r99 := hRS.2.2.2.2.2.2.2.1
    have r120 := hRS.2.2.2.2.2.2.2.2
    have hgL := (hTB g hFR.1).1
    have hgl1 : gl < fi C := by
      obtain ⟨g1, g2, ⟨gk, gl', g3, g4, g5, g6, g7, g8, g9, g10⟩, _⟩ := hTB g hFR.1
      have := hff.1 C (Nat.le_refl _) (gk + 1) (by omega); omega
    have hkC : k ≤ C := by
      rcases hp with h | h <;> omega
    have hsc := ext_scan (i := f + 1) (f := f) (g := g) (gl := gl) (fr := f) (gR := zI (φ g)) (c := c) (e := e) (ps := ps) (nv := nv) (by omega) (by omega) r99 hFR.2.1 (by omega) hgl hgl1 (by omega) ((fi C - m) + (C - k)) FU (G - ((fi C - m) + (C - k)) - 1) v m k j rfl hS hp hk hj r120 (by unfold FU; omega)
    rw [show G - ((fi C - m) + (C - k)) - 1 + ((fi C - m) + (C - k)) + 1 = G by omega] at hsc
    rcases hsc with ⟨a1, v', a2, a3, a4⟩ | ⟨k0, j0, G', w, a1, a2, a3, a4, a5, a6, a7, a8, a9, a10⟩
    · obtain ⟨u', b1, b2⟩ := adv1_none m hL hf x1 hTB hFR hk1 h67 hRS hCn h98 h99 hx0 (by omega) a1 a3 a4
      exact ⟨3, 0, u', v', b1 (F' + 1), a2, b2⟩
    · have hm0C : fi k0 + j0 < fi C := by have := hff.1 C (Nat.le_refl _) (k0 + 1) (by omega); omega
      have hm0 : fi k0 + j0 < 1300 := by omega
      by_cases hd : I u 60 g < lim
      · have hnl : fX3_nextLiteral u = some (zI 1, uI u 67 (f + 1) (zI ((fi k0 + j0 : Nat) : Int))) := (nl_open u (f + 1) m (by omega) r99 h67).trans a1
        have hnc : fX3_nextChoice u = some (1, uI u 67 (f + 1) (zI ((fi k0 + j0 : Nat) : Int))) := (nc_one u (f + 1) (by omega) r99 hk1).trans (j59_near u _ (f + 1) g _ lim 1 (by omega) r99 hFR.2.1 (by omega) rfl hCn.2.2.2.2.2.2.1 (hTB g hFR.1).2.2.2.2.1 hd hCn.2.2.2.2.2.2.2.2.2.1 (Or.inr rfl) hnl)
        by_cases hsm : I u 9 13 < mst
        · rcases ext_try k0 j0 gl x1 hS hTB hFR hk1 h169 hRS hCn h98 h99 hJL hL hV0 hV1 hf hgl a2 a3 a5 a10 a8 a9 hd hsm hx0 (by omega) hnc with ⟨a, a', u', v', b1, b2, b3⟩ | ⟨u', v', b1, b2, b3, b4, b5, b6, b7, b8, b9, b10, b11, b12⟩
          · exact ⟨a, a', u', v', b1 F', a7.trans (b2 _), b3⟩
          · have hgl' : I u' 57 g = gl := by rw [b11.1 57 g (PKc_tab (by simp) hgL)]; exact hgl
            obtain ⟨a, a', u2, v2, d1, d2, d3⟩ := ih F' G' (x1 + 1) u' v' (fi k0 + j0 + 1) (by omega) hgl' b3 b4 b5 b6 b7 b8 b9 b10 (by omega) (by omega) (by omega) (by omega)
            exact ⟨a, a', u2, v2, (b1 F').trans d1, (a7.trans (b2 _)).trans d2, AO_kp b11 b12 d3⟩
        · have heq : I u 9 13 = mst := by have := hCn.2.2.2.1; omega
          obtain ⟨u', v', b1, b2, b3⟩ := adv1_spent (fi k0 + j0) (zI gl) (zI k0) (zI j0) hJL hL hV1 hf x1 hTB hFR hRS hCn h98 hx0 (by omega) hnc a10 hd heq
          exact ⟨-6, 0, u', v', b1 (F' + 1), a7.trans (b2 _), b3⟩
      · obtain ⟨u', v', b1, b2, b3⟩ := adv1_far m (fi k0 + j0) (zI gl) (zI k0) (zI j0) hJL hL hf x1 hTB hFR hk1 h67 hRS hCn h98 h99 hx0 (by omega) hm0 a1 a10 hd
        exact ⟨3, 0, u', v', b1 (F' + 1), a7.trans (b2 _), b3⟩
