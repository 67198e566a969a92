/-! reading: a formula becomes clauses -/
/-- the reference goes up to the inside of a formula -/
theorem bc_open {u v : St} {S R NC NR Kc lo Kr dd r j w g h q cc nf0 : Nat} {occ F : List Nat} {B : Nat → Nat} (hIS : IS u v S R NC NR Kc lo Kr dd r j w g h q cc occ) (hg : g ≤ 4497) (hq : q ≤ 30) (hB : ∀ x, B x = 0) (hF : F = addF B [] occ) (hFx : ∀ x, x ∈ F → x < NC) (hNd : F.Nodup) (hNc : ∀ x x', x < NC → x' < NC → J u 38 x = J u 38 x' → x = x') (hN : NMx u v NC NR) (hS60 : S ≤ 60) (hR : R ≤ 250) (hNC : NC ≤ 1501) (hKr : Kr ≤ 1501) (h3 : I v 100 3 = S) (h33 : I v 100 33 = R) (h7 : I v 100 7 = nf0) (hnf : nf0 ≤ 199000000) : F.length ≤ R ∧ ∃ (v1 : St) (el : List (Nat × Int)) (NR1 : Nat), fX12_become (zI j) v = (b2 (IL FU v1) fun r9 u8 => lt (uI u8 100 66 0) fun u10 => lt (uI u10 100 69 0) fun u11 => bd (fX12_distribute u11) fun u12 => if (gI u12 100 47) = 0 then (bd (ld u12 137 6100 r9) fun v15 => if ((gI u12 100 10) + v15) ≤ 100 then (lt (0 : Int32) fun x17 => fX12_become_L0 FU 0 r9 x17 u12) else lt (uI u12 100 47 1) fun u18 => some u18) else lt (uI u12 100 47 1) fun u14 => some u14) ∧ RMk u v1 S NC NR1 nf0 [((((20 + sb false : Nat) : Int)), (j : Int))] [] el (rng F.length) F.length nf0 F.length 0 [] [] ∧ AGR v v1 NR ∧ NR ≤ NR1 ∧ el.length = F.length ∧ (∀ e, e ∈ el → e.1 < NC) ∧ (∀ k x : Nat, F[k]? = some x → lkp el x = some (-1 - (k : Int))) ∧ Fr (fun k i => QM k i || (k == 100 && i == 8)) v v1 := by
  have hib := IS_bits hIS
  -- before the free variables
  obtain ⟨va, hva⟩ : ∃ va, uI (uI (uI (uI v 100 47 (zI 0)) 100 8 (zI nf0)) 100 49 (zI 0)) 100 73 (zI 0) = va := ⟨_, rfl⟩
  have Fa : Fr (fun k i => k == 100 && (i == 47 || i == 8 || i == 49 || i == 73)) v va := by rw [← hva]; exact Fr_up rfl (Fr_up rfl (Fr_up rfl (Fr_up rfl (Fr_rfl _ _))))
  have a47 : I va 100 47 = 0 := by rw [← hva]; simp (disch := omega) only [I_uI1, I_uI2]
  have a8 : I va 100 8 = nf0 := by rw [← hva]; simp (disch := omega) only [I_uI1, I_uI2]
  have a49 : I va 100 49 = 0 := by rw [← hva]; simp (disch := omega) only [I_uI1, I_uI2]
  have a73 : I va 100 73 = 0 := by rw [← hva]; simp (disch := omega) only [I_uI1, I_uI2]
  have pre1 : fX12_become (zI j) v = bd (fX12_free (zI j) va) fun u31 => lt (uI u31 100 48 (gI u31 100 73)) fun u32 => lt (uI u32 100 53 0) fun u33 => lt (uI u33 100 55 0) fun u34 => lt (uI u34 100 56 0) fun u35 => lt (uI u35 100 61 0) fun u36 => lt (0 : Int32) fun x37 => fX12_become_L1 FU 0 (zI j) x37 u36 := by
    unfold fX12_become
    rw [gI_z v 100 3, h3, if_neg (by rw [z_lit, z_lt (by decide) (by decide) (by omega) (by omega)]; omega), gI_z v 100 33, h33, if_pos (by rw [z_lit, z_le (by omega) (by omega) (by decide) (by decide)]; omega)]
    unfold fX12_become_j25
    have e47 : gI (uI v 100 47 0) 100 47 = zI 0 := by rw [show (0 : Int32) = zI 0 from rfl, gI_z, I_uI1 _ _ _ _ (by decide) (by decide)]
    have e7 : gI (uI v 100 47 0) 100 7 = zI nf0 := by rw [show (0 : Int32) = zI 0 from rfl, gI_z, I_uI2 _ _ _ _ _ _ (by omega), h7]
    rw [show zb (0 : Int32) = some 0 from rfl, bd_s, lt_e, e47, if_pos (show zI 0 = 0 from rfl), e7, lt_e, lt_e, lt_e]
    have hva' : uI (uI (uI (uI v 100 47 0) 100 8 (zI nf0)) 100 49 0) 100 73 0 = va := hva
    rw [hva']
  -- the free variables
  obtain ⟨vb, hvb⟩ : ∃ vb, uI va 100 38 (zI 0) = vb := ⟨_, rfl⟩
  have Fb : Fr (fun k i => k == 100 && i == 38) va vb := by rw [← hvb]; exact Fr_up rfl (Fr_rfl _ _)
  have Fab : Fr (fun k i => k == 100 && (i == 47 || i == 8 || i == 49 || i == 73 || i == 38)) v vb := Fr_tr (Fr_up2 (fun k i hk => by simp at hk; simp; omega) Fa) (Fr_up2 (fun k i hk => by simp at hk; simp [hk]) Fb)
  have hFR0 : FRk u vb NC NR R [] [] [] := ⟨⟨by rw [← hvb]; exact I_uI1 _ _ _ _ (by decide) (by decide), trivial⟩, by rw [Fr_I Fb rfl]; exact a49, fun i x hx => by simp at hx, NMx_fr Fab (fun _ => rfl) rfl hN, by rw [Fr_I Fb rfl]; exact a73, fun i x hx => by simp at hx, List.nodup_nil, (fun x hx => by cases hx), (fun x hx => by cases hx), [], rfl, (fun i hi => by cases hi)⟩
  obtain ⟨vc, c1, c2, c3⟩ := fr_push 20 j (by decide) (by omega) (by simp) hFR0
  have hAc : AGR v vc NR := ⟨fun k i hk => by rw [Fr_I c3 (by simp [Qts]; omega), Fr_I Fab (by simp; omega)], fun i => by rw [Fr_J c3 rfl, Fr_J Fab rfl], fun y _ => by rw [Fr_J c3 rfl, Fr_J Fab rfl]⟩
  obtain ⟨vd, N, NR1, d1, d2, d3, d4, d5, d6⟩ := FN_all hR hNC hKr (by omega) hNc dd _ _ _ _ _ _ _ _ hIS [] [] [] NR vc hAc (Nat.le_refl _) c2 (by simp only [List.length_nil]; omega) (by simp only [List.length_nil]; omega)
  have hFF : addF (fun y => ([] : List Nat).count y) [] occ = F := by
    rw [hF]
    congr 1
    funext y; rw [hB y]; rfl
  rw [hFF] at d6
  have hFl := FRk_len d6
  refine ⟨hFl, ?_⟩
  have hfree : fX12_free (zI j) va = some vd := by
    unfold fX12_free
    have hvb' : uI va 100 38 0 = vb := hvb
    have c1' : fX12_push 20 (zI j) vb = some vc := c1
    have hend : ∀ G, FLt (G + 1) vd = some vd := fun G => by
      have sx : FLt (G + 1) vd = fX12_free_L0_0 (fX12_free_L0 G) vd := rfl
      rw [sx]
      unfold fX12_free_L0_0
      have h38 : I vd 100 38 = 0 := d6.1.1
      rw [gI_z vd 100 38, h38, if_pos (by decide)]
    rw [lt_e, hvb', c1', bd_s]
    have : FLt FU vc = some vd := by
      rw [show FU = (FU - 1 - N) + 1 + N by unfold FU; omega, d2, hend]
    exact this
  obtain ⟨f1, f2, f3, f4, f5, f6, f7, f8, f9, f10⟩ := d6
  have Fcd : Fr Qfe vb vd := Fr_tr (Fr_up2 Qts_Qfe c3) d3
  have Fvd : Fr (fun k i => QM k i || (k == 100 && i == 8)) v vd := Fr_tr (Fr_up2 (fun k i hk => by simp at hk; simp [QM]; omega) Fab) (Fr_up2 (fun k i hk => by simp [Qfe_QM k i hk]) Fcd)
  have hJd : ∀ y, y < NR → J vd 119 y = J v 119 y := fun y hy => by rw [d5 y hy, Fr_J c3 rfl, Fr_J Fab rfl]
  -- counters
  obtain ⟨ve, hve⟩ : ∃ ve, uI (uI (uI (uI (uI vd 100 48 (zI F.length)) 100 53 (zI 0)) 100 55 (zI 0)) 100 56 (zI 0)) 100 61 (zI 0) = ve := ⟨_, rfl⟩
  have Fe : Fr (fun k i => k == 100 && (i == 48 || i == 53 || i == 55 || i == 56 || i == 61)) vd ve := by rw [← hve]; exact Fr_up rfl (Fr_up rfl (Fr_up rfl (Fr_up rfl (Fr_up rfl (Fr_rfl _ _)))))
  have e48 : I ve 100 48 = F.length := by rw [← hve]; simp (disch := omega) only [I_uI1, I_uI2]
  have e53 : I ve 100 53 = 0 := by rw [← hve]; simp (disch := omega) only [I_uI1, I_uI2]
  have e55 : I ve 100 55 = 0 := by rw [← hve]; simp (disch := omega) only [I_uI1, I_uI2]
  have e56 : I ve 100 56 = 0 := by rw [← hve]; simp (disch := omega) only [I_uI1, I_uI2]
  have e61 : I ve 100 61 = 0 := by rw [← hve]; simp (disch := omega) only [I_uI1, I_uI2]
  have Fce : ∀ i, (i = 47 ∨ i = 7 ∨ i = 8) → I ve 100 i = I va 100 i := fun i hi => by rw [Fr_I Fe (by simp; omega), Fr_I Fcd (by simp [Qfe]; omega), Fr_I Fb (by simp; omega)]
  have hBL : BLr u ve NC NR1 nf0 nf0 F.length 0 [] F := ⟨by rw [Fce 47 (by simp)]; exact a47, e48, by rw [Fr_I Fe rfl]; exact f2, rfl, trivial, NMx_fr Fe (fun _ => rfl) rfl f4, e55, trivial, e53, by rw [Fce 7 (by simp), Fr_I Fa rfl]; exact h7, by rw [Fce 8 (by simp)]; exact a8, e56, e61, by rw [Fr_I Fe rfl]; exact f5, NLr_up (Nat.le_refl _) (fun i _ => Fr_I Fe rfl) (fun y _ => Fr_J Fe rfl) f6, (fun e he => by cases he), fun k x hk => by omega⟩
  obtain ⟨vf, el, g1, g2, g3, g4⟩ := bl_loop (u0 := u) (NC := NC) (NR := NR1) (nb := nf0) (nf := nf0) (W := F.length) (F := F) (zI j) hNC (by omega) hNd hFx F.length 0 (FU - (F.length + 1)) ve [] (by omega) hBL
  obtain ⟨h47, h48, h49, hel, hE, hN2, h55, h129, h53, h7', h8, h56, h61, h73, hNL, hen, hlk⟩ := g2
  -- inside
  obtain ⟨vg, hvg⟩ : ∃ vg, uI (uI vf 100 38 (zI 0)) 100 41 (zI 0) = vg := ⟨_, rfl⟩
  have Fg : Fr (fun k i => k == 100 && (i == 38 || i == 41)) vf vg := by rw [← hvg]; exact Fr_up rfl (Fr_up rfl (Fr_rfl _ _))
  have g38 : I vg 100 38 = 0 := by rw [← hvg]; simp (disch := omega) only [I_uI1, I_uI2]
  have g41 : I vg 100 41 = 0 := by rw [← hvg]; simp (disch := omega) only [I_uI1, I_uI2]
  have hRM0 : RMk u vg S NC NR1 nf0 [] [] el (rng F.length) F.length nf0 F.length 0 [] [] := ⟨⟨g38, trivial⟩, ⟨g41, trivial⟩, by rw [Fr_I Fg rfl]; exact h47, by rw [Fr_I Fg rfl]; exact h48, by rw [Fr_I Fg rfl]; exact h49, ELl_fr Fg (fun k i hk => by rcases hk with h | h | h | h | h <;> subst h <;> rfl) hE, NMx_fr Fg (fun _ => rfl) rfl hN2, by rw [Fr_I Fg rfl, h55, rng_len], RWl_eq _ _ (fun i _ _ => Fr_I Fg rfl) h129, by rw [Fr_I Fg rfl]; exact h53, by rw [Fr_I Fg rfl]; exact h7', by rw [Fr_I Fg rfl]; exact h8, by rw [Fr_I Fg rfl]; exact h56, by rw [Fr_I Fg rfl]; exact h61, (fun g x hg => by simp at hg), trivial⟩
  obtain ⟨vh, p1, p2, p3⟩ := rmk_push (20 + sb false) j (by decide) (by omega) (by simp) hRM0
  have Fdf : Fr QM vd vf := Fr_tr (Fr_up2 (fun k i hk => by simp at hk; simp [QM]; omega) Fe) g3
  have Fdh : Fr QM vd vh := Fr_tr Fdf (Fr_tr (Fr_up2 (fun k i hk => by simp at hk; simp [QM]; omega) Fg) (Fr_up2 Qts_QM p3))
  have FVh : Fr (fun k i => QM k i || (k == 100 && i == 8)) v vh := Fr_tr Fvd (Fr_up2 (fun k i hk => by simp [hk]) Fdh)
  refine ⟨vh, el, NR1, ?_, p2, ⟨fun k i hk => Fr_I FVh (by simp [QM]; omega), fun i => Fr_J FVh (by simp [QM]), fun y hy => by rw [Fr_J p3 rfl, Fr_J Fg rfl, g4, Fr_J Fe rfl]; exact hJd y hy⟩, d4, hel, hen, fun k x hk => hlk k x (get_lt hk) hk, FVh⟩
  have hins : fX12_inside (zI j) vf = IL FU vh := by
    unfold fX12_inside
    have hvg' : uI (uI vf 100 38 0) 100 41 0 = vg := hvg
    have p1' : fX12_push 20 (zI j) vg = some vh := p1
    rw [lt_e, lt_e, hvg', p1', bd_s]; rfl
  have hve' : uI (uI (uI (uI (uI vd 100 48 (zI F.length)) 100 53 0) 100 55 0) 100 56 0) 100 61 0 = ve := hve
  have g1' : fX12_become_L1 FU 0 (zI j) 0 ve = fX12_become_L1 (FU - (F.length + 1) + 1) 0 (zI j) (zI F.length) vf := by
    have hFU : FU - (F.length + 1) + (F.length + 1) = FU := by unfold FU; omega
    rw [hFU] at g1; exact g1
  have sx : fX12_become_L1 (FU - (F.length + 1) + 1) 0 (zI j) (zI F.length) vf = fX12_become_L1_0 (fX12_become_L1 (FU - (F.length + 1))) (zI j) (zI F.length) vf := rfl
  rw [pre1, hfree, bd_s, gI_z vd 100 73, f5, lt_e, lt_e, lt_e, lt_e, lt_e, lt_e, hve', g1', sx]
  unfold fX12_become_L1_0
  rw [gI_z vf 100 73, h73, if_pos (by rw [z_le (by omega) (by omega) (by omega) (by omega)]; omega), hins]
