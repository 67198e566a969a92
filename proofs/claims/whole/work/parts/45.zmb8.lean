/-! reading: all trees become clauses on the way, in the reference -/
theorem tt_take (G : List Cs) (k : Nat) : tt (G.take k) ≤ tt G := by
  have := tt_app (G.take k) (G.drop k)
  rw [List.take_append_drop] at this; omega
theorem tm_take (G : List Cs) (k : Nat) : tm (G.take k) ≤ tm G := by
  have := tm_app (G.take k) (G.drop k)
  rw [List.take_append_drop] at this; omega
def OVG (G : List Cs) : Prop := 600 < tt G ∨ 6000 < tm G ∨ ∃ x, x ∈ G ∧ ∃ c, c ∈ x ∧ 12 < c.length
theorem OVG_of {G : List Cs} {g : Nat} {x : Cs} (hg : G[g]? = some x) (h : OV (tt (G.take g)) (tm (G.take g)) x) : OVG G := by
  have h1 := tt_take G (g + 1)
  have h2 := tm_take G (g + 1)
  rw [take_one hg] at h1 h2
  rw [tt_app] at h1
  rw [tm_app] at h2
  simp only [tt, tm] at h1 h2
  rcases h with h | h | ⟨c, h3, h4⟩
  · exact Or.inl (by omega)
  · exact Or.inr (Or.inl (by omega))
  · exact Or.inr (Or.inr ⟨x, List.mem_iff_getElem?.2 ⟨g, hg⟩, c, h3, h4⟩)
def DBg (v : St) (G : List Cs) (g : Nat) : Prop := I v 100 47 = 0 ∧ I v 100 66 = (tt (G.take g) : Nat) ∧ I v 100 69 = (tm (G.take g) : Nat) ∧ tt (G.take g) ≤ 600 ∧ tm (G.take g) ≤ 6000 ∧ ∀ a Y, a < g → G[a]? = some Y → DT v G (tm (G.take g)) (tt (G.take g)) a Y
def Qdi : Nat → Nat → Bool := fun k i => k == 136 || k == 137 || Pwr k i
theorem Pwr_Qdi : ∀ k i, Pwr k i = true → Qdi k i = true := by intro k i h; simp [Qdi, h]
/-- one tree -/
theorem dtree {u0 v : St} {S nb nf MD g : Nat} {G : List Cs} {x : Cs} (hGl : G.length ≤ 6000) (hg : G[g]? = some x) (hT : TGs u0 v S nb nf MD G) (h : DBg v G g) (h136 : I v 136 g = (tt (G.take g) : Nat)) : ∃ v', (bd (ld v 130 6100 (zI g)) fun v4 => if v4 = 15 then (bd (fX12_newWay v) fun u9 => fX12_append (zI g) u9) else bd (ld v 131 6100 (zI g)) fun v6 => bd (ld v 132 6100 (zI g)) fun v7 => fX12_distributeOne (zI g) v6 v7 v) = some v' ∧ FWr v v' (tm (G.take g)) (tt (G.take g)) ∧ (PB0 v' G (tm (G.take g)) (tt (G.take g)) x ∨ (I v' 100 47 = 1 ∧ OV (tt (G.take g)) (tm (G.take g)) x)) := by
  obtain ⟨h1, h2, h3, h4, h5, h6⟩ := h
  have hgl := get_lt hg
  have hP : PB0 v G (tm (G.take g)) (tt (G.take g)) [] := ⟨h1, by rw [h2]; rfl, by rw [h3]; rfl, by simpa using h4, by simpa [mb] using h5, trivial⟩
  rw [ld_z _ _ _ _ (by omega) (by omega), bd_s, Int.toNat_natCast]
  rcases hT g x hg with ⟨a1, ng, lc, p, a2, _⟩ | ⟨b, a, c, y, z, a1, a2, a3, a4, a5, a6, a7, a8⟩
  · rw [a1, if_pos (by decide)]
    subst a2
    obtain ⟨v1, n1, n2, n3⟩ := nw_spec hP
    rw [n1, bd_s]
    rcases n3 with ⟨n4, n5⟩ | ⟨n4, n5⟩
    · obtain ⟨v2, p1, p2, p3⟩ := ap_one (g := g) (by omega) (by rw [Fr_I n2.1 rfl]; exact a1) hg n5
      refine ⟨v2, p1, FWr_tr n2 p2, ?_⟩
      rcases p3 with ⟨p4, p5, p6⟩ | ⟨p4, p5⟩
      · exact Or.inl (endw p6)
      · refine Or.inr ⟨p5, ?_⟩
        simp only [List.length_nil, mb, Nat.add_zero] at p4
        refine Or.inr (Or.inl ?_)
        simp only [mb, List.length_cons, List.length_nil]; omega
    · refine ⟨uI v1 100 47 (zI 1), ?_, FWr_tr n2 ⟨Fr_up rfl (Fr_rfl _ _), fun i _ => I_uI3 _ _ _ _ _ _ (by decide), fun i _ => ⟨I_uI3 _ _ _ _ _ _ (by decide), I_uI3 _ _ _ _ _ _ (by decide)⟩⟩, Or.inr ⟨I_uI1 _ _ _ _ (by decide) (by decide), Or.inl (by simp only [List.length_nil] at n4; simp only [List.length_cons, List.length_nil]; omega)⟩⟩
      unfold fX12_append
      rw [gI_z v1 100 47, n5, if_neg (by decide)]; rfl
  · have hne : ¬ zI (I v 130 g) = 15 := by rw [a1]; cases b <;> decide
    rw [if_neg hne, ld_z _ _ _ _ (by omega) (by omega), bd_s, ld_z _ _ _ _ (by omega) (by omega), bd_s, Int.toNat_natCast, a2, a3]
    have hY := h6 a y a4 a6
    have hZ := h6 c z a5 a7
    unfold fX12_distributeOne
    rw [ld_z _ _ _ _ (by omega) (by omega), bd_s, Int.toNat_natCast, a1]
    have hly : y.length ≤ 600 := by obtain ⟨sa, _, _, _, q, _⟩ := hY; omega
    have hlz : z.length ≤ 600 := by obtain ⟨sa, _, _, _, q, _⟩ := hZ; omega
    cases b with
    | true =>
      rw [if_pos (by decide), lt_e, a8]
      have hl : (y ++ z).length ≤ 1200 := by rw [List.length_append]; omega
      obtain ⟨v1, q1, q2, q3⟩ := dand (a := a) (b := c) (Y := y) (Z := z) h4 h5 (y ++ z).length 0 (FU - ((y ++ z).length + 1)) v (by omega) hY hZ (by simpa using hP)
      refine ⟨v1, ?_, q2, q3⟩
      rw [show FU - ((y ++ z).length + 1) + ((y ++ z).length + 1) = FU by unfold FU; omega] at q1
      exact q1
    | false =>
      rw [if_neg (by decide), lt_e, a8]
      have hl : y.length * (z.length + 2) ≤ 600 * 602 := Nat.mul_le_mul hly (by omega)
      obtain ⟨v1, q1, q2, q3⟩ := dor (a := a) (b := c) (Y := y) (Z := z) h4 h5 y.length 0 (FU - (y.length * (z.length + 2) + 1)) v (by omega) hY hZ (by simpa [prd] using hP)
      refine ⟨v1, ?_, q2, q3⟩
      rw [show FU - (y.length * (z.length + 2) + 1) + (y.length * (z.length + 2) + 1) = FU by unfold FU; omega] at q1
      exact q1
theorem TGs_fr {P : Nat → Nat → Bool} {u0 v v' : St} {S nb nf MD : Nat} {G : List Cs} (hF : Fr P v v') (hP : ∀ k i, (k = 105 ∨ k = 130 ∨ k = 131 ∨ k = 132 ∨ k = 133 ∨ k = 134) → P k i = false) (h : TGs u0 v S nb nf MD G) : TGs u0 v' S nb nf MD G := fun g x hg => by
  have := TRg_mono (Gx := []) (v' := v') (fun i _ => Fr_I hF (hP 105 i (by simp))) (Nat.le_refl _) (Nat.le_refl _) (fun k hk => Fr_I hF (hP k g (by omega))) (fun i _ => Fr_I hF (hP 134 i (by simp))) (h g x hg)
  rw [List.append_nil] at this; exact this
theorem Qdi_no : ∀ k i, (k = 105 ∨ k = 130 ∨ k = 131 ∨ k = 132 ∨ k = 133 ∨ k = 134) → Qdi k i = false := by intro k i hk; simp [Qdi, Pwr]; omega
theorem dist_loop {u0 : St} {S nb nf MD : Nat} {G : List Cs} (hGl : G.length ≤ 6000) (d : Nat) : ∀ (g Fu : Nat) (v : St), g + d = G.length → TGs u0 v S nb nf MD G → I v 100 56 = G.length → DBg v G g → ∃ v', fX12_distribute_L0 (Fu + (2 * d + 1)) 0 (zI g) v = some v' ∧ Fr Qdi v v' ∧ (DBg v' G G.length ∨ (I v' 100 47 = 1 ∧ OVG G)) := by
  induction d with
  | zero =>
    intro g Fu v hg hT h56 h
    have : g = G.length := by omega
    subst this
    refine ⟨v, ?_, Fr_rfl _ _, Or.inl h⟩
    have sx : fX12_distribute_L0 (Fu + (2 * 0 + 1)) 0 (zI G.length) v = fX12_distribute_L0_0 (fX12_distribute_L0 Fu) (zI G.length) v := rfl
    rw [sx]
    unfold fX12_distribute_L0_0
    rw [gI_z v 100 56, h56, if_pos (by rw [z_le (by omega) (by omega) (by omega) (by omega)]; omega)]
  | succ d ih =>
    intro g Fu v hg hT h56 h
    have hgl : g < G.length := by omega
    obtain ⟨x, hx⟩ : ∃ x, G[g]? = some x := ⟨G[g], List.getElem?_eq_getElem hgl⟩
    obtain ⟨T0, hT0⟩ : ∃ T0, tt (G.take g) = T0 := ⟨_, rfl⟩
    obtain ⟨M0, hM0⟩ : ∃ M0, tm (G.take g) = M0 := ⟨_, rfl⟩
    obtain ⟨va, hva⟩ : ∃ va, uI v 136 g (zI (T0 : Int)) = va := ⟨_, rfl⟩
    have Fa : Fr (fun k _ => k == 136) v va := by rw [← hva]; exact Fr_up rfl (Fr_rfl _ _)
    have hT0' := h.2.2.2.1
    rw [hT0] at hT0'
    have e136 : I va 136 g = T0 := by rw [← hva]; exact I_uI1 _ _ _ _ (by omega) (by omega)
    have hDa : DBg va G g := by
      obtain ⟨h1, h2, h3, h4, h5, h6⟩ := h
      refine ⟨by rw [Fr_I Fa rfl]; exact h1, by rw [Fr_I Fa rfl]; exact h2, by rw [Fr_I Fa rfl]; exact h3, h4, h5, fun a Y ha hY => ?_⟩
      obtain ⟨sa, a1, a2, a3, a4, a5⟩ := h6 a Y ha hY
      exact ⟨sa, a1, by rw [← hva, I_uI2 _ _ _ _ _ _ (by omega)]; exact a2, by rw [Fr_I Fa rfl]; exact a3, a4, SEr_mono (fun _ => Fr_I Fa rfl) (fun _ _ => Fr_I Fa rfl) (Nat.le_refl _) Y sa (fun _ _ _ => ⟨Fr_I Fa rfl, Fr_I Fa rfl⟩) a5⟩
    have hTa : TGs u0 va S nb nf MD G := TGs_fr Fa (fun k i hk => by simp; omega) hT
    obtain ⟨vb, p1, p2, p3⟩ := dtree hGl hx hTa hDa (by rw [hT0]; exact e136)
    rw [hT0, hM0] at p2 p3
    have b136 : I vb 136 g = T0 := by rw [Fr_I p2.1 rfl]; exact e136
    obtain ⟨vc, hvc⟩ : ∃ vc, uI vb 137 g (gI vb 100 66 - zI T0) = vc := ⟨_, rfl⟩
    have Fc : Fr (fun k _ => k == 137) vb vc := by rw [← hvc]; exact Fr_up rfl (Fr_rfl _ _)
    have F : Fr Qdi v vc := Fr_tr (Fr_up2 (fun k i hk => by simp at hk; simp [Qdi, hk]) Fa) (Fr_tr (Fr_up2 Pwr_Qdi p2.1) (Fr_up2 (fun k i hk => by simp at hk; simp [Qdi, hk]) Fc))
    have hstep : fX12_distribute_L0 (Fu + (2 * (d + 1) + 1)) 0 (zI g) v = fX12_distribute_L0 (Fu + (2 * d + 1)) 0 (zI ((g + 1 : Nat) : Int)) vc := by
      have sx : fX12_distribute_L0 (Fu + (2 * d + 1) + 1 + 1) 0 (zI g) v = fX12_distribute_L0_0 (fX12_distribute_L0 (Fu + (2 * d + 1) + 1)) (zI g) v := rfl
      have sy : ∀ w, fX12_distribute_L0 (Fu + (2 * d + 1) + 1) 1 (zI g) w = fX12_distribute_L0_1 (fX12_distribute_L0 (Fu + (2 * d + 1))) (zI g) w := fun _ => rfl
      have hl1 : fX12_distribute_L0_1 (fX12_distribute_L0 (Fu + (2 * d + 1))) (zI g) vb = fX12_distribute_L0 (Fu + (2 * d + 1)) 0 (zI ((g + 1 : Nat) : Int)) vc := by
        unfold fX12_distribute_L0_1
        rw [ld_z _ _ _ _ (by omega) (by omega), bd_s, Int.toNat_natCast, b136, st_z _ _ _ _ _ (by omega) (by omega), bd_s, Int.toNat_natCast, hvc, lt_e, show (1 : Int32) = zI 1 from rfl, z_add]; rfl
      rw [show Fu + (2 * (d + 1) + 1) = Fu + (2 * d + 1) + 1 + 1 by omega, sx]
      unfold fX12_distribute_L0_0
      rw [gI_z v 100 56, h56, if_neg (by rw [z_le (by omega) (by omega) (by omega) (by omega)]; omega), gI_z v 100 47, h.1, if_pos (show zI 0 = 0 from rfl), gI_z v 100 66, h.2.1, hT0, st_z _ _ _ _ _ (by omega) (by omega), bd_s, Int.toNat_natCast, hva, ← hl1, ← sy]
      -- both ways through the tree
      rw [ld_z _ _ _ _ (by omega) (by omega), bd_s, Int.toNat_natCast] at p1 ⊢
      by_cases h15 : zI (I va 130 g) = 15
      · rw [if_pos h15] at p1 ⊢
        cases hn : fX12_newWay va with
        | none => rw [hn] at p1; cases p1
        | some w => rw [hn, bd_s] at p1; rw [bd_s, p1, bd_s]
      · rw [if_neg h15, ld_z _ _ _ _ (by omega) (by omega), bd_s, ld_z _ _ _ _ (by omega) (by omega), bd_s] at p1
        rw [if_neg h15, ld_z _ _ _ _ (by omega) (by omega), bd_s, ld_z _ _ _ _ (by omega) (by omega), bd_s, p1, bd_s]
    rw [hstep]
    rcases p3 with p3 | ⟨p3, p4⟩
    · obtain ⟨q1, q2, q3, q4, q5, q6⟩ := p3
      have e1 : tt (G.take (g + 1)) = T0 + x.length := by rw [take_one hx, tt_app, hT0]; simp [tt]
      have e2 : tm (G.take (g + 1)) = M0 + mb x := by rw [take_one hx, tm_app, hM0]; simp [tm]
      have e137 : I vc 137 g = x.length := by
        rw [← hvc, gI_z vb 100 66, q2, z_sub, I_uI1 _ _ _ _ (by omega) (by omega)]; omega
      have hD : DBg vc G (g + 1) := by
        refine ⟨by rw [Fr_I Fc rfl]; exact q1, by rw [Fr_I Fc rfl, e1]; exact q2, by rw [Fr_I Fc rfl, e2]; exact q3, by rw [e1]; exact q4, by rw [e2]; exact q5, fun a Y ha hY => ?_⟩
        rw [e1, e2]
        by_cases hag : a = g
        · subst hag
          rw [hx] at hY
          have := Option.some.inj hY
          subst this
          exact ⟨T0, by omega, by rw [Fr_I Fc rfl]; exact b136, e137, Nat.le_refl _, SEr_mono (fun _ => Fr_I Fc rfl) (fun _ _ => Fr_I Fc rfl) (Nat.le_refl _) x T0 (fun _ _ _ => ⟨Fr_I Fc rfl, Fr_I Fc rfl⟩) q6⟩
        · have hda := hDa.2.2.2.2.2 a Y (by omega) hY
          rw [hT0, hM0] at hda
          obtain ⟨sa, a1, a2, a3, a4, a5⟩ := DT_fw p2 hda
          exact ⟨sa, a1, by rw [Fr_I Fc rfl]; exact a2, by rw [← hvc, I_uI2 _ _ _ _ _ _ (by omega)]; exact a3, by omega, SEr_mono (fun _ => Fr_I Fc rfl) (fun _ _ => Fr_I Fc rfl) (by omega) Y sa (fun _ _ _ => ⟨Fr_I Fc rfl, Fr_I Fc rfl⟩) a5⟩
      obtain ⟨v', r1, r2, r3⟩ := ih (g + 1) Fu vc (by omega) (TGs_fr F Qdi_no hT) (by rw [Fr_I F rfl]; exact h56) hD
      exact ⟨v', r1, Fr_tr F r2, r3⟩
    · refine ⟨vc, ?_, F, Or.inr ⟨by rw [Fr_I Fc rfl]; exact p3, OVG_of hx (by rw [hT0, hM0]; exact p4)⟩⟩
      have sx : fX12_distribute_L0 (Fu + (2 * d + 1)) 0 (zI ((g + 1 : Nat) : Int)) vc = fX12_distribute_L0_0 (fX12_distribute_L0 (Fu + 2 * d)) (zI ((g + 1 : Nat) : Int)) vc := rfl
      rw [sx]
      unfold fX12_distribute_L0_0
      rw [gI_z vc 100 47, Fr_I Fc rfl, p3, if_neg (show ¬ zI 1 = 0 by decide), ite_self]
theorem dist_spec {u0 v : St} {S nb nf MD : Nat} {G : List Cs} (hGl : G.length ≤ 6000) (hT : TGs u0 v S nb nf MD G) (h56 : I v 100 56 = G.length) (h47 : I v 100 47 = 0) (h66 : I v 100 66 = 0) (h69 : I v 100 69 = 0) : ∃ v', fX12_distribute v = some v' ∧ Fr Qdi v v' ∧ (DBg v' G G.length ∨ (I v' 100 47 = 1 ∧ OVG G)) := by
  obtain ⟨v', a1, a2, a3⟩ := dist_loop (u0 := u0) (S := S) (nb := nb) (nf := nf) (MD := MD) hGl G.length 0 (FU - (2 * G.length + 1)) v (by omega) hT h56 ⟨h47, by simpa [tt] using h66, by simpa [tm] using h69, by simp [tt], by simp [tm], fun a Y ha => by omega⟩
  refine ⟨v', ?_, a2, a3⟩
  rw [show FU - (2 * G.length + 1) + (2 * G.length + 1) = FU by unfold FU; omega] at a1
  exact a1
theorem DBg_ok {v : St} {G : List Cs} (h : DBg v G G.length) : ¬ OVG G := by
  obtain ⟨h1, h2, h3, h4, h5, h6⟩ := h
  rw [List.take_length] at h4 h5
  rintro (h | h | ⟨x, hx, c, hc, h⟩)
  · omega
  · omega
  · obtain ⟨g, hg⟩ := List.mem_iff_getElem?.1 hx
    obtain ⟨sa, _, _, _, _, a5⟩ := h6 g x (get_lt hg) hg
    have := SEr_12 x sa a5 c hc
    omega
