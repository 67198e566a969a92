/-! advancing a frame: the whole -/
theorem av_same (F : Nat) (u u1 : St) (x1 : Int) (h0 : 0 ≤ x1) (h1 : x1 < 1000000) (h : fX3_nextChoice u = fX3_nextChoice u1) : fX3_advance_L0 (F + 1) 0 (zI x1) 0 u = fX3_advance_L0 (F + 1) 0 (zI x1) 0 u1 := by
  have st : ∀ w, fX3_advance_L0 (F + 1) 0 (zI x1) 0 w = fX3_advance_L0_0 (fX3_advance_L0 F) (zI x1) w := fun _ => rfl
  have hn : ¬ (1000000 : Int32) ≤ zI x1 := by rw [z_lit, z_le (by decide) (by decide) (by omega) (by omega)]; omega
  rw [st, st]
  unfold fX3_advance_L0_0
  rw [if_neg hn, if_neg hn, h]
theorem adv2 {φ : Nat → Nat} {Gd : Nat → Prop} {C : Nat} {fi ps : Nat → Nat} {nv c : Nat → Int} {e : Nat → Nat} {f g : Nat} {T : List (Nat × Nat × Int)} {L J : Nat} {V : Int} {r : Nat} {mst lim : Int} (gl : Nat) (hJL : J ≤ L) (hL : L ≤ 150) (hV0 : 0 ≤ V) (hV1 : V ≤ 200) (hf : f < 150) (s : Nat) : ∀ (F G : Nat) (x1 : Int) (u v : St) (x : Nat), x < s → s ≤ 151 → I u 57 g = gl → SR u v C fi ps nv c e → TB u v φ L J V C fi nv Gd → FR u v φ Gd f g T L J V r → K2 u v φ Gd f x → RS u v c e (ps (fi C)) f T L J V → Cn u v mst lim → I v 100 98 = 0 → I v 100 99 = 0 → 2 * s + 2 * fi C + 12 < F → 0 ≤ x1 → x1 + s + fi C + 5 < 1000000 → 200 * (s + 1) < G →
    ∃ a a' u' v', fX3_advance_L0 F 0 (zI x1) 0 u = some (zI a, u') ∧ fX12_tryNext_L1 G 0 (zI f) (zI (φ g)) v = some (zI a', v') ∧ AO u v u' v' a a' φ Gd C fi ps nv c e f g T L J V r mst lim := by
  induction s with
  | zero => intro F G x1 u v x hs; omega
  | succ s ih =>
    intro F G x1 u v x hs hs1 hgl hS hTB hFR hK hRS hCn h98 h99 hF hx0 hx hG
    obtain ⟨F', rfl⟩ : ∃ F', F = F' + 2 := ⟨F - 2, by omega⟩
    obtain ⟨hk2, hxG, h67, h169, h170, h171⟩ := hK
    have r99 := hRS.2.2.2.2.2.2.2.1
    have hgL := (hTB g hFR.1).1
    have hxL := (hTB x hxG).1
    have hgJ := (hTB g hFR.1).2.1
    have hff := SR_fi hS
    have hSv := RS_SvR hRS hFR
    have hab : (I u 59 x = -1 ∧ I v 169 f = -1) ∨ ∃ p : Nat, p < x ∧ I u 59 x = p ∧ I v 169 f = φ p ∧ Gd p := by
      rw [h169]; exact (hTB x hxG).2.2.2.2.2.2.1
    have hGx : G - x + x = G := by clear hab; omega
    obtain ⟨v', G', e1, e2, e3, e4, e5⟩ := red_scan (ps := ps) (c := c) (e := e) hL (by omega) (f + 1) f g gl hFR.1 hgl (by omega) (by omega) r99 hFR.2.1 x FU (G - x) v 0 (I u 59 x) hS hTB hSv h98 h99 hab (Int.le_refl _) (by omega) (by unfold FU; omega)
    rw [hGx] at e3
    rcases e5 with ⟨a1, a2⟩ | ⟨p, pl, b1, b2, b3, b4, b5, b6⟩
    · -- no literal of the path: extensions
      obtain ⟨G'', rfl⟩ : ∃ G'', G' = G'' + 1 := ⟨G' - 1, by omega⟩
      have hnc := nc_two_no u (f + 1) x _ (by omega) r99 hk2 h67 (by omega) rfl a1
      have Fa : Fr (P1 65 (f + 1)) u (uI u 65 (f + 1) (zI 1)) := Fr_up (by simp [P1]) (Fr_rfl _ _)
      have Fb : Fr (P1 67 (f + 1)) (uI u 65 (f + 1) (zI 1)) (uI (uI u 65 (f + 1) (zI 1)) 67 (f + 1) (zI (-1))) := Fr_up (by simp [P1]) (Fr_rfl _ _)
      have c65 : I (uI (uI u 65 (f + 1) (zI 1)) 67 (f + 1) (zI (-1))) 65 (f + 1) = 1 := by rw [I_uI2 _ _ _ _ _ _ (by omega), I_uI1 _ _ _ _ (by decide) (by decide)]
      have c67 : I (uI (uI u 65 (f + 1) (zI 1)) 67 (f + 1) (zI (-1))) 67 (f + 1) = ((0 : Nat) : Int) - 1 := I_uI1 _ _ _ _ (by decide) (by decide)
      have hav := av_same (F' + 1) u _ x1 hx0 (by omega) hnc
      generalize hu1 : uI (uI u 65 (f + 1) (zI 1)) 67 (f + 1) (zI (-1)) = u1 at *
      generalize hu0 : uI u 65 (f + 1) (zI 1) = u0' at *
      have K : Kp u u1 v v' f L J := Kp_tr (Kp_tr (Kp_65 Fa) (Kp_67 Fb)) (Kp_169 e4)
      have eu : ∀ k i, k ≠ 65 → k ≠ 67 → I u1 k i = I u k i := fun k i h h' => by rw [Fr_I Fb (by simp [P1, h']), Fr_I Fa (by simp [P1, h])]
      have ev : ∀ k i, k ≠ 169 → I v' k i = I v k i := fun k i h => Fr_I e4 (by simp [P1, h])
      have gl150 : I v' 150 (φ g) = gl := by
        obtain ⟨_, _, ⟨gk, gl', _, _, _, g6, g7, _⟩, _⟩ := hTB g hFR.1
        rw [ev 150 _ (by decide), g7, ← g6]; exact hgl
      have hRS' : RS u1 v' c e (ps (fi C)) f T L J V := by
        obtain ⟨hU, r76, r77, r92, r89, r110, r105, r99', r120⟩ := hRS
        exact ⟨⟨hU.1, WE_fr Fb (fun i => by simp [P1]) (fun i => by simp [P1]) (fun i => by simp [P1]) (WE_fr Fa (fun i => by simp [P1]) (fun i => by simp [P1]) (fun i => by simp [P1]) hU.2.1), TC_fr Fb (by simp [P1]) (fun i => by simp [P1]) (TC_fr Fa (by simp [P1]) (fun i => by simp [P1]) hU.2.2.1), RE_fr e4 (fun i => by simp [P1]) (fun i => by simp [P1]) (fun i => by simp [P1]) (fun i => by simp [P1]) (fun i => by simp [P1]) hU.2.2.2.1, TR_fr e4 (by simp [P1]) (fun i => by simp [P1]) hU.2.2.2.2⟩, by rw [eu _ _ (by decide) (by decide)]; exact r76, by rw [eu _ _ (by decide) (by decide)]; exact r77, by rw [ev _ _ (by decide)]; exact r92, by rw [ev _ _ (by decide)]; exact r89, by rw [ev _ _ (by decide)]; exact r110, by rw [ev _ _ (by decide)]; exact r105, by rw [eu _ _ (by decide) (by decide)]; exact r99', by rw [ev _ _ (by decide)]; exact r120⟩
      have hCn' : Cn u1 v' mst lim := by
        obtain ⟨n1, n2, n3, n4, n5, n6, n7, n8, n9, n10, n11, n12⟩ := hCn
        unfold Cn
        rw [eu 9 11 (by decide) (by decide), eu 9 12 (by decide) (by decide), eu 9 13 (by decide) (by decide), eu 9 14 (by decide) (by decide), ev 100 100 (by decide), ev 100 101 (by decide), ev 100 102 (by decide), ev 100 104 (by decide)]
        exact ⟨n1, n2, n3, n4, n5, n6, n7, n8, n9, n10, n11, n12⟩
      have hFR' : FR u1 v' φ Gd f g T L J V r := FR_kp hgL (fun k hk => by rcases hk with h | h | h | h <;> subst h <;> exact eu _ _ (by decide) (by decide)) (fun k hk => by rcases hk with h | h | h | h | h | h <;> subst h <;> exact ev _ _ (by decide)) (fun t _ => eu _ _ (by decide) (by decide)) rfl hFR
      have hK1 : K1 u1 v' C fi f 0 := by
        refine ⟨c65, a2, c67, Nat.zero_le _, 0, 0, by rw [ev _ _ (by decide)]; exact h170, by rw [ev _ _ (by decide)]; exact h171, ?_⟩
        have h0 := hS.2.2.2.1
        by_cases hC0 : 0 < C
        · exact Or.inl ⟨hC0, by omega, by omega⟩
        · exact Or.inr ⟨by omega, by rw [show C = 0 by omega, h0]⟩
      obtain ⟨a, a', u', v'', d1, d2, d3⟩ := adv1 gl hJL hL hV0 hV1 hf (fi C + 1) (F' + 2) FU x1 u1 v' 0 (by omega) (by rw [eu _ _ (by decide) (by decide)]; exact hgl) (Kp_S K hS) (Kp_TB K (fun _ _ => rfl) (Int.le_refl _) hTB) hFR' hK1 hRS' hCn' (by rw [ev _ _ (by decide)]; exact h98) (by rw [ev _ _ (by decide)]; exact h99) (by omega) hx0 (by omega) (by unfold FU; omega)
      refine ⟨a, a', u', v'', hav.trans d1, ?_, AO_kp K (by rw [eu _ _ (by decide) (by decide)]; exact Int.le_refl _) d3⟩
      rw [e3, tn1_end G'' f (φ g) gl v' (by omega) (by omega) a2 gl150]
      exact d2
    · obtain ⟨G'', rfl⟩ : ∃ G'', G' = G'' + 1 := ⟨G' - 1, by omega⟩
      have hnc := nc_two_yes u _ (f + 1) x _ (by omega) r99 hk2 h67 (by omega) rfl b5
      rcases red_try p pl gl x1 hS hTB hFR hk2 h170 h171 hRS hCn h98 h99 hJL hL hV0 hV1 hf hgl b2 b3 b4 e4 b6 hx0 (by omega) hnc with ⟨a, a', u', v2, d1, d2, d3⟩ | ⟨u', v2, d1, d2, d3, d4, d5, d6, d7, d8, d9, d10, d11, d12⟩
      · exact ⟨a, a', u', v2, d1 F', e3.trans (d2 G''), d3⟩
      · have hgl' : I u' 57 g = gl := by rw [d11.1 57 g (PKc_tab (by simp) hgL)]; exact hgl
        obtain ⟨a, a', u2, v3, i1, i2, i3⟩ := ih F' G'' (x1 + 1) u' v2 p (by omega) (by omega) hgl' d3 d4 d5 d6 d7 d8 d9 d10 (by omega) (by omega) (by omega) (by omega)
        exact ⟨a, a', u2, v3, (d1 F').trans i1, (e3.trans (d2 G'')).trans i2, AO_kp d11 d12 i3⟩
/-- THE CONTRACT of advancing a frame that stands restored -/
theorem adv_spec {φ : Nat → Nat} {Gd : Nat → Prop} {C : Nat} {fi ps : Nat → Nat} {nv c : Nat → Int} {e : Nat → Nat} {f g : Nat} {T : List (Nat × Nat × Int)} {L J : Nat} {V : Int} {r : Nat} {mst lim : Int} {u v : St} (hJL : J ≤ L) (hL : L ≤ 150) (hV0 : 0 ≤ V) (hV1 : V ≤ 200) (hf : f < 150) (hS : SR u v C fi ps nv c e) (hTB : TB u v φ L J V C fi nv Gd) (hFR : FR u v φ Gd f g T L J V r) (hK : (∃ x, K2 u v φ Gd f x) ∨ ∃ m, K1 u v C fi f m) (hRS : RS u v c e (ps (fi C)) f T L J V) (hCn : Cn u v mst lim) (h98 : I v 100 98 = 0) (h99 : I v 100 99 = 0) :
    ∃ a a' u' v', fX3_advance u = some (zI a, u') ∧ fX12_tryNext_L1 FU 0 (zI f) (zI (φ g)) v = some (zI a', v') ∧ AO u v u' v' a a' φ Gd C fi ps nv c e f g T L J V r mst lim := by
  have hff := SR_fi hS
  obtain ⟨g1, g2, ⟨gk, gl, g3, g4, g5, g6, g7, g8, g9, g10⟩, g11, g12, g13, g14, g15⟩ := hTB g hFR.1
  clear g14 g15
  have hop : fX3_advance u = fX3_advance_L0 FU 0 (zI 0) 0 u := rfl
  rw [hop]
  rcases hK with ⟨x, hK⟩ | ⟨m, hK⟩
  · have hx := (hTB x hK.2.1).1
    exact adv2 gl hJL hL hV0 hV1 hf 151 FU FU 0 u v x (by omega) (Nat.le_refl _) g6 hS hTB hFR hK hRS hCn h98 h99 (by unfold FU; omega) (Int.le_refl _) (by omega) (by unfold FU; omega)
  · obtain ⟨a, a', u', v', d1, d2, d3⟩ := adv1 gl hJL hL hV0 hV1 hf (fi C + 1) FU FU 0 u v m (by omega) g6 hS hTB hFR hK hRS hCn h98 h99 (by unfold FU; omega) (Int.le_refl _) (by omega) (by unfold FU; omega)
    refine ⟨a, a', u', v', d1, ?_, d3⟩
    have st : fX12_tryNext_L1 FU 0 (zI f) (zI (φ g)) v = fX12_tryNext_L1 (999999999 + 1) 0 (zI f) (zI (φ g)) v := rfl
    rw [st, tn1_end 999999999 f (φ g) gl v (by omega) (by omega) hK.2.1 g7]
    exact d2
