/-! searching -/
theorem rn_end (F : Nat) (u : St) (most lim : Int) (h0 : 0 ≤ most) (h1 : most < lim) (h2 : lim < 1000) (h14 : I u 9 14 = lim) : fX3_run_L0 (F + 1) 0 (zI most) 0 u = some (zI (-5), uI u 9 14 (zI most)) := by
  have st : fX3_run_L0 (F + 1) 0 (zI most) 0 u = fX3_run_L0_0 (fX3_run_L0 F) (zI most) u := rfl
  rw [st]
  unfold fX3_run_L0_0
  rw [gI_z, h14, if_pos (by rw [z_lt (by omega) (by omega) (by omega) (by omega)]; omega), lt_e]
  rfl
theorem rn_go (F : Nat) (u u' : St) (most lim a : Int) (h0 : 0 ≤ lim) (h1 : lim ≤ most) (h2 : most < 1000) (h14 : I u 9 14 = lim) (hr : fX3_runLimit (uI u 9 12 (zI 0)) = some (zI a, u')) (ha : a = 1 ∨ a = -6 ∨ a = -7 ∨ a = 3) (t : Int) (ht : I u' 9 9 = t) : fX3_run_L0 (F + 1) 0 (zI most) 0 u = fX3_run_L0 F 1 (zI most) (zI a) (if a = 1 then uI u' 9 15 (zI (t + 1)) else u') := by
  have st : fX3_run_L0 (F + 1) 0 (zI most) 0 u = fX3_run_L0_0 (fX3_run_L0 F) (zI most) u := rfl
  rw [st]
  generalize fX3_run_L0 F = R
  unfold fX3_run_L0_0
  rw [gI_z u 9 14, h14, if_neg (by rw [z_lt (by omega) (by omega) (by omega) (by omega)]; omega), lt_e, show (0 : Int32) = zI 0 from rfl, hr, b2_s]
  rcases ha with h | h | h | h <;> subst h
  · rw [if_pos q1, if_pos rfl, gI_z, ht, lt_e, show (1 : Int32) = zI 1 from rfl, z_add]
  · rw [if_neg (by decide), if_neg (by decide)]
  · rw [if_neg (by decide), if_neg (by decide)]
  · rw [if_neg (by decide), if_neg (by decide)]
theorem rn_out (F : Nat) (u : St) (x1 : Int32) (a : Int) (ha : a = 1 ∨ a = -6 ∨ a = -7) : fX3_run_L0 (F + 1) 1 x1 (zI a) u = some (zI a, u) := by
  have st : fX3_run_L0 (F + 1) 1 x1 (zI a) u = fX3_run_L0_1 (fX3_run_L0 F) x1 (zI a) u := rfl
  rw [st]
  unfold fX3_run_L0_1
  rcases ha with h | h | h <;> subst h <;> rw [if_neg (by decide)]
theorem rn_none (F : Nat) (u : St) (x1 : Int32) (h12 : I u 9 12 = 0) : fX3_run_L0 (F + 1) 1 x1 (zI 3) u = some (zI 0, u) := by
  have st : fX3_run_L0 (F + 1) 1 x1 (zI 3) u = fX3_run_L0_1 (fX3_run_L0 F) x1 (zI 3) u := rfl
  rw [st]
  unfold fX3_run_L0_1
  rw [if_pos (show zI 3 = 3 from rfl), gI_z, h12, if_pos q0]
  rfl
theorem rn_next (F : Nat) (u : St) (x1 : Int32) (lim : Int) (h12 : I u 9 12 = 1) (h14 : I u 9 14 = lim) : fX3_run_L0 (F + 1) 1 x1 (zI 3) u = fX3_run_L0 F 0 x1 0 (uI u 9 14 (zI (lim + 1))) := by
  have st : fX3_run_L0 (F + 1) 1 x1 (zI 3) u = fX3_run_L0_1 (fX3_run_L0 F) x1 (zI 3) u := rfl
  rw [st]
  unfold fX3_run_L0_1
  rw [if_pos (show zI 3 = 3 from rfl), gI_z u 9 12, h12, if_neg (by decide), gI_z, h14, lt_e, show (1 : Int32) = zI 1 from rfl, z_add]
theorem rr_end (G : Nat) (v : St) (most lim : Int) (h0 : 0 ≤ most) (h1 : most < lim) (h2 : lim < 1000) (h104 : I v 100 104 = lim) : fX12_search_L0 (G + 1) 0 (zI most) 0 0 0 v = some (zI (-5), v) := by
  have st : fX12_search_L0 (G + 1) 0 (zI most) 0 0 0 v = fX12_search_L0_0 (fX12_search_L0 G) (zI most) v := rfl
  rw [st]
  unfold fX12_search_L0_0
  rw [gI_z, h104, if_pos (by rw [z_lt (by omega) (by omega) (by omega) (by omega)]; omega)]
  rfl
theorem rr_go (G : Nat) (v : St) (most lim : Int) (h0 : 0 ≤ lim) (h1 : lim ≤ most) (h2 : most < 1000) (h104 : I v 100 104 = lim) : fX12_search_L0 (G + 1) 0 (zI most) 0 0 0 v = fX12_search_L0 G 1 (zI most) (zI ((0 : Nat) : Int)) 0 0 (uI (uI v 100 103 (zI lim)) 100 100 (zI 0)) := by
  have st : fX12_search_L0 (G + 1) 0 (zI most) 0 0 0 v = fX12_search_L0_0 (fX12_search_L0 G) (zI most) v := rfl
  rw [st]
  generalize fX12_search_L0 G = R
  unfold fX12_search_L0_0
  rw [gI_z v 100 104, h104, if_neg (by rw [z_lt (by omega) (by omega) (by omega) (by omega)]; omega), lt_e, lt_e, lt_e]
  rfl
theorem rr_none (G C : Nat) (v : St) (x1 : Int32) (hC : C ≤ 100) (h10 : I v 100 10 = C) (h100 : I v 100 100 = 0) : fX12_search_L0 (G + 1) 1 x1 (zI C) 0 0 v = some (zI 0, uI v 100 105 (zI 0)) := by
  have st : fX12_search_L0 (G + 1) 1 x1 (zI C) 0 0 v = fX12_search_L0_1 (fX12_search_L0 G) x1 (zI C) v := rfl
  rw [st]
  unfold fX12_search_L0_1
  rw [gI_z v 100 10, h10, if_pos (by rw [z_le (by omega) (by omega) (by omega) (by omega)]; omega), lt_e, show (0 : Int32) = zI 0 from rfl, gI_z, I_uI2 _ _ _ _ _ _ (by omega), h100, if_pos rfl]
theorem rr_next (G C : Nat) (v : St) (x1 : Int32) (lim : Int) (hC : C ≤ 100) (h10 : I v 100 10 = C) (h100 : I v 100 100 = 1) (h104 : I v 100 104 = lim) : fX12_search_L0 (G + 1) 1 x1 (zI C) 0 0 v = fX12_search_L0 G 0 x1 0 0 0 (uI (uI v 100 105 (zI 0)) 100 104 (zI (lim + 1))) := by
  have st : fX12_search_L0 (G + 1) 1 x1 (zI C) 0 0 v = fX12_search_L0_1 (fX12_search_L0 G) x1 (zI C) v := rfl
  have h1 : I (uI v 100 105 (zI 0)) 100 104 = lim := by rw [I_uI2 _ _ _ _ _ _ (by omega)]; exact h104
  rw [st]
  generalize fX12_search_L0 G = R
  unfold fX12_search_L0_1
  rw [gI_z v 100 10, h10, if_pos (by rw [z_le (by omega) (by omega) (by omega) (by omega)]; omega), lt_e, show (0 : Int32) = zI 0 from rfl, gI_z _ 100 100, I_uI2 _ _ _ _ _ _ (by omega), h100, if_neg (by decide), gI_z _ 100 104, h1, lt_e, show (1 : Int32) = zI 1 from rfl, z_add]
theorem run_loop {C : Nat} {fi ps : Nat → Nat} {nv c : Nat → Int} {e : Nat → Nat} {mst : Int} (most : Nat) (hmost : most ≤ 20) (d : Nat) : ∀ (F G lim : Nat) (u v : St), lim + d = most + 1 → 1 ≤ lim → SR u v C fi ps nv c e → (∃ T, BCs u T) → I u 9 11 = mst → I v 100 102 = mst → 0 ≤ I u 9 13 → I u 9 13 ≤ mst → mst ≤ 20000 → I v 100 101 = I u 9 13 → I u 9 14 = lim → I v 100 104 = lim → I u 9 15 = 0 → I v 100 98 = 0 → I v 100 99 = 0 → (1 ≤ d ∨ (I v 100 103 = (lim : Int) - 1 ∧ I v 100 105 = 0)) → 2 * d + 2 < F → 2000 * d + 2000 < G →
    ∃ a u' v', fX3_run_L0 F 0 (zI most) 0 u = some (zI a, u') ∧ fX12_search_L0 G 0 (zI most) 0 0 0 v = some (zI a, v') ∧ SR u' v' C fi ps nv c e ∧ FO u' v' C fi ps nv c e ∧ Fr PSx u u' ∧ Fr PRx v v' := by
  induction d with
  | zero =>
    intro F G lim u v hl hl1 hS hB h11 h102 hs0 hs1 hm h101 h14 h104 h15 h98 h99 hend hF hG
    obtain ⟨F', rfl⟩ : ∃ F', F = F' + 1 := ⟨F - 1, by omega⟩
    obtain ⟨G', rfl⟩ : ∃ G', G = G' + 1 := ⟨G - 1, by omega⟩
    have hee : I v 100 103 = (lim : Int) - 1 ∧ I v 100 105 = 0 := by
      rcases hend with h | h
      · omega
      · exact h
    have Fa : Fr (P1 9 14) u (uI u 9 14 (zI most)) := Fr_up (by simp [P1]) (Fr_rfl _ _)
    have c14 : I (uI u 9 14 (zI most)) 9 14 = most := I_uI1 _ _ _ _ (by omega) (by omega)
    have hrn := rn_end F' u most lim (by omega) (by omega) (by omega) h14
    generalize hu : uI u 9 14 (zI most) = u1 at *
    refine ⟨-5, u1, v, hrn, rr_end G' v most lim (by omega) (by omega) (by omega) h104, SR_x (PSx_1 Fa rfl) (Fr_rfl _ _) hS, ⟨by rw [Fr_I Fa rfl]; exact h101.symm, by rw [c14, hee.1]; omega, by rw [Fr_I Fa rfl, h15, hee.2], Or.inl ⟨by rw [Fr_I Fa rfl]; exact h15, ?_⟩⟩, PSx_1 Fa rfl, Fr_rfl _ _⟩
    obtain ⟨T, hT⟩ := hB
    exact ⟨T, BCs_fr Fa (fun _ => by simp [P1]) (fun _ => by simp [P1]) (by simp [P1]) (fun _ => by simp [P1]) hT⟩
  | succ d ih =>
    intro F G lim u v hl hl1 hS hB h11 h102 hs0 hs1 hm h101 h14 h104 h15 h98 h99 hend hF hG
    obtain ⟨F', rfl⟩ : ∃ F', F = F' + 2 := ⟨F - 2, by omega⟩
    obtain ⟨G', rfl⟩ : ∃ G', G = G' + 1 := ⟨G - 1, by omega⟩
    have hC := hS.1
    clear hend
    have Fa : Fr (P1 9 12) u (uI u 9 12 (zI 0)) := Fr_up (by simp [P1]) (Fr_rfl _ _)
    have c12 : I (uI u 9 12 (zI 0)) 9 12 = 0 := I_uI1 _ _ _ _ (by decide) (by decide)
    have hgo := fun u' a hr ha t ht => rn_go (F' + 1) u u' most lim a (by omega) (by omega) (by omega) h14 hr ha t ht
    generalize hu3 : uI u 9 12 (zI 0) = u3 at *
    have hrg := rr_go G' v most lim (by omega) (by omega) (by omega) h104
    have Fv : Fr (fun k i => k == 100 && (i == 103 || i == 100)) v (uI (uI v 100 103 (zI lim)) 100 100 (zI 0)) := Fr_up rfl (Fr_up rfl (Fr_rfl _ _))
    have c103 : I (uI (uI v 100 103 (zI lim)) 100 100 (zI 0)) 100 103 = lim := by rw [I_uI2 _ _ _ _ _ _ (by omega), I_uI1 _ _ _ _ (by omega) (by omega)]
    have c100 : I (uI (uI v 100 103 (zI lim)) 100 100 (zI 0)) 100 100 = 0 := I_uI1 _ _ _ _ (by decide) (by decide)
    generalize hv5 : uI (uI v 100 103 (zI lim)) 100 100 (zI 0) = v5 at *
    have hPR5 : Fr PRx v v5 := Fr_up2 (fun k i hk => by simp at hk; simp [PRx, PRe]; omega) Fv
    have hPS3 : Fr PSx u u3 := PSx_1 Fa rfl
    have hS3 : SR u3 v5 C fi ps nv c e := SR_x hPS3 hPR5 hS
    have e3 : ∀ i, i ≠ 12 → I u3 9 i = I u 9 i := fun i hi => Fr_I Fa (by simp [P1]; omega)
    have e5 : ∀ i, i ≠ 103 → i ≠ 100 → I v5 100 i = I v 100 i := fun i h h' => Fr_I Fv (by simp; omega)
    have hCn : Cn u3 v5 mst lim := ⟨by rw [e3 11 (by decide)]; exact h11, by rw [e5 102 (by decide) (by decide)]; exact h102, by rw [e3 13 (by decide)]; exact hs0, by rw [e3 13 (by decide)]; exact hs1, hm, by rw [e5 101 (by decide) (by decide), e3 13 (by decide)]; exact h101, by rw [e3 14 (by decide)]; exact h14, by rw [e5 104 (by decide) (by decide)]; exact h104, by omega, by omega, by rw [c100, c12], Or.inl c12⟩
    obtain ⟨T, hT⟩ := hB
    obtain ⟨u4, o1, o2, o3, o4⟩ := runLimit_open hS3 (BCs_fr Fa (fun _ => by simp [P1]) (fun _ => by simp [P1]) (by simp [P1]) (fun _ => by simp [P1]) hT) hCn (by rw [e5 98 (by decide) (by decide)]; exact h98) (by rw [e5 99 (by decide) (by decide)]; exact h99)
    have s13 : I u4 9 13 = I u 9 13 := by rw [o3, e3 13 (by decide)]
    have hsl := start_loop (zI most) (C + 1) FU (G' - 16 * (C - 0) - 1) 0 0 u4 v5 o2 (by omega) (by omega) (by decide) (by omega) (by unfold FU; omega)
    rw [show G' - 16 * (C - 0) - 1 + 16 * (C - 0) + 1 = G' by omega] at hsl
    rcases hsl with ⟨a, u', v', w1, w2, w3, w4, w5, w6, w7⟩ | ⟨u', v', G2, w1, w2, w3, w4, w5, w6, w7, w8, w9, T2, w10⟩
    · have hrl : fX3_runLimit u3 = some (zI a, u') := o1.trans w1
      have ex : ∀ i, (i = 11 ∨ i = 14 ∨ i = 15) → I u' 9 i = I u 9 i := fun i hi => by
        rw [Fr_I (Fr_tr o4 w5) (by rcases hi with h | h | h <;> subst h <;> rfl), e3 i (by omega)]
      have v103 : I v' 100 103 = lim := by rw [Fr_I w6 rfl]; exact c103
      rcases w7 with ⟨y1, y2⟩ | ⟨y1, y2, y3⟩
      · subst y1
        have hg := hgo u' 1 hrl (Or.inl rfl) _ rfl
        rw [if_pos rfl] at hg
        have hpf := y2
        obtain ⟨φ, Gd, T3, L, J, V, n, _, _, _, _, _, _, p7, p8, p9, _, _⟩ := y2
        have Fb : Fr (P1 9 15) u' (uI u' 9 15 (zI (I u' 9 9 + 1))) := Fr_up (by simp [P1]) (Fr_rfl _ _)
        have c15 : I (uI u' 9 15 (zI (I u' 9 9 + 1))) 9 15 = I u' 9 9 + 1 := I_uI1 _ _ _ _ (by omega) (by omega)
        generalize hub : uI u' 9 15 (zI (I u' 9 9 + 1)) = ub at *
        refine ⟨1, ub, v', hg.trans (rn_out F' ub _ 1 (Or.inl rfl)), hrg.trans w2, SR_x (PSx_1 Fb rfl) (Fr_rfl _ _) w3, ⟨by rw [Fr_I Fb rfl]; exact w4.2.2.2.2.2.1.symm, by rw [Fr_I Fb rfl, ex 14 (by simp), v103, h14], by rw [c15, p7, p9]; omega, Or.inr ⟨PRF_fr Fb (Fr_rfl (fun _ _ => false) v') (fun k i hk => by simp [P1]; omega) (fun _ _ _ => rfl) hpf, by rw [c15, Fr_I Fb rfl]⟩⟩, Fr_tr hPS3 (Fr_tr (PSx_e (Fr_tr o4 w5)) (PSx_1 Fb rfl)), Fr_tr hPR5 (PRx_e w6)⟩
      · have hg := hgo u' a hrl (by omega) _ rfl
        rw [if_neg (by omega)] at hg
        exact ⟨a, u', v', hg.trans (rn_out F' u' _ a (by omega)), hrg.trans w2, w3, ⟨w4.2.2.2.2.2.1.symm, by rw [ex 14 (by simp), v103, h14], by rw [ex 15 (by simp), h15, y2], Or.inl ⟨by rw [ex 15 (by simp)]; exact h15, y3⟩⟩, Fr_tr hPS3 (PSx_e (Fr_tr o4 w5)), Fr_tr hPR5 (PRx_e w6)⟩
    · have hrl : fX3_runLimit u3 = some (zI 3, u') := o1.trans w1
      have hg := hgo u' 3 hrl (by omega) _ rfl
      rw [if_neg (by decide)] at hg
      have ex : ∀ i, (i = 11 ∨ i = 14 ∨ i = 15) → I u' 9 i = I u 9 i := fun i hi => by
        rw [Fr_I (Fr_tr o4 w6) (by rcases hi with h | h | h <;> subst h <;> rfl), e3 i (by omega)]
      have v103 : I v' 100 103 = lim := by rw [Fr_I w7 rfl]; exact c103
      have v10 := w4.2.2.1
      obtain ⟨G3, rfl⟩ : ∃ G3, G2 = G3 + 1 := ⟨G2 - 1, by omega⟩
      obtain ⟨n1, n2, n3, n4, n5, n6, n7, n8, n9, n10, n11, n12⟩ := w5
      rcases n12 with h12 | h12
      · have Fb : Fr (P1 100 105) v' (uI v' 100 105 (zI 0)) := Fr_up (by simp [P1]) (Fr_rfl _ _)
        have c105 : I (uI v' 100 105 (zI 0)) 100 105 = 0 := I_uI1 _ _ _ _ (by decide) (by decide)
        have hrr := rr_none G3 C v' (zI most) hC v10 (by rw [n11]; exact h12)
        generalize hvb : uI v' 100 105 (zI 0) = vb at *
        exact ⟨0, u', vb, hg.trans (rn_none F' u' _ h12), (hrg.trans w3).trans hrr, SR_x (Fr_rfl _ _) (PRx_1 Fb rfl) w4, ⟨by rw [Fr_I Fb rfl]; exact n6.symm, by rw [ex 14 (by simp), Fr_I Fb rfl, v103, h14], by rw [ex 15 (by simp), h15, c105], Or.inl ⟨by rw [ex 15 (by simp)]; exact h15, T2, w10⟩⟩, Fr_tr hPS3 (PSx_e (Fr_tr o4 w6)), Fr_tr hPR5 (Fr_tr (PRx_e w7) (PRx_1 Fb rfl))⟩
      · have hrn := rn_next F' u' (zI most) lim h12 n7
        have hrr := rr_next G3 C v' (zI most) lim hC v10 (by rw [n11]; exact h12) n8
        have Fb : Fr (P1 9 14) u' (uI u' 9 14 (zI ((lim : Int) + 1))) := Fr_up (by simp [P1]) (Fr_rfl _ _)
        have c14 : I (uI u' 9 14 (zI ((lim : Int) + 1))) 9 14 = ((lim + 1 : Nat) : Int) := by rw [I_uI1 _ _ _ _ (by omega) (by omega)]; omega
        have Fc : Fr (fun k i => k == 100 && (i == 105 || i == 104)) v' (uI (uI v' 100 105 (zI 0)) 100 104 (zI ((lim : Int) + 1))) := Fr_up rfl (Fr_up rfl (Fr_rfl _ _))
        have c104 : I (uI (uI v' 100 105 (zI 0)) 100 104 (zI ((lim : Int) + 1))) 100 104 = ((lim + 1 : Nat) : Int) := by rw [I_uI1 _ _ _ _ (by omega) (by omega)]; omega
        have c105 : I (uI (uI v' 100 105 (zI 0)) 100 104 (zI ((lim : Int) + 1))) 100 105 = 0 := by rw [I_uI2 _ _ _ _ _ _ (by omega), I_uI1 _ _ _ _ (by decide) (by decide)]
        generalize hub : uI u' 9 14 (zI ((lim : Int) + 1)) = ub at *
        generalize hvb : uI (uI v' 100 105 (zI 0)) 100 104 (zI ((lim : Int) + 1)) = vb at *
        have hPRb : Fr PRx v' vb := Fr_up2 (fun k i hk => by simp at hk; simp [PRx, PRe]; omega) Fc
        obtain ⟨a, u2, v2, r1, r2, r3, r4, r5, r6⟩ := ih F' G3 (lim + 1) ub vb (by omega) (by omega) (SR_x (PSx_1 Fb rfl) hPRb w4) ⟨T2, BCs_fr Fb (fun _ => by simp [P1]) (fun _ => by simp [P1]) (by simp [P1]) (fun _ => by simp [P1]) w10⟩ (by rw [Fr_I Fb rfl]; exact n1) (by rw [Fr_I Fc rfl]; exact n2) (by rw [Fr_I Fb rfl]; exact n3) (by rw [Fr_I Fb rfl]; exact n4) hm (by rw [Fr_I Fc rfl, Fr_I Fb rfl]; exact n6) c14 c104 (by rw [Fr_I Fb rfl, ex 15 (by simp)]; exact h15) (by rw [Fr_I Fc rfl]; exact w8) (by rw [Fr_I Fc rfl]; exact w9) (Or.inr ⟨by rw [Fr_I Fc rfl, v103]; omega, c105⟩) (by omega) (by omega)
        exact ⟨a, u2, v2, (hg.trans hrn).trans r1, ((hrg.trans w3).trans hrr).trans r2, r3, r4, Fr_tr hPS3 (Fr_tr (PSx_e (Fr_tr o4 w6)) (Fr_tr (PSx_1 Fb rfl) r5)), Fr_tr hPR5 (Fr_tr (PRx_e w7) (Fr_tr hPRb r6))⟩
