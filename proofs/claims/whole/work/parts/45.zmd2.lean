/-! reading: a formula becomes clauses, both sides, all of it -/
def bcK (r9 : Int32) (u8 : St) : Option St := lt (uI u8 100 66 0) fun u10 => lt (uI u10 100 69 0) fun u11 => bd (fX12_distribute u11) fun u12 => if (gI u12 100 47) = 0 then (bd (ld u12 137 6100 r9) fun v15 => if ((gI u12 100 10) + v15) ≤ 100 then (lt (0 : Int32) fun x17 => fX12_become_L0 FU 0 r9 x17 u12) else lt (uI u12 100 47 1) fun u18 => some u18) else lt (uI u12 100 47 1) fun u14 => some u14
theorem bc_big {v2 : St} (G : Nat) (h47 : I v2 100 47 = 1) : ∃ v3, b2 (IL (G + 1) v2) bcK = some v3 ∧ I v3 100 47 = 1 ∧ Fr (fun k i => k == 100 && (i == 47 || i == 66 || i == 69)) v2 v3 := by
  have hIL : IL (G + 1) v2 = some (0, v2) := by
    have sx : IL (G + 1) v2 = fX12_inside_L0_0 (fX12_inside_L0 G) v2 := rfl
    have hj : fX12_inside_j174 v2 = some (0, v2) := by
      unfold fX12_inside_j174
      rw [gI_z v2 100 47, h47, if_neg (by decide)]
    rw [sx]
    unfold fX12_inside_L0_0
    rw [gI_z v2 100 47, h47, if_neg (show ¬ zI 1 = 0 by decide), ite_self, hj]
  obtain ⟨va, hva⟩ : ∃ va, uI (uI v2 100 66 (zI 0)) 100 69 (zI 0) = va := ⟨_, rfl⟩
  have Fa : Fr (fun k i => k == 100 && (i == 47 || i == 66 || i == 69)) v2 va := by rw [← hva]; exact Fr_up rfl (Fr_up rfl (Fr_rfl _ _))
  have a47 : I va 100 47 = 1 := by rw [← hva]; simp (disch := omega) only [I_uI1, I_uI2]; exact h47
  have hd : fX12_distribute va = some va := by
    unfold fX12_distribute
    have sx : fX12_distribute_L0 FU 0 0 va = fX12_distribute_L0_0 (fX12_distribute_L0 999999999) 0 va := rfl
    rw [lt_e, sx]
    unfold fX12_distribute_L0_0
    rw [gI_z va 100 47, a47, if_neg (show ¬ zI 1 = 0 by decide), ite_self]
  refine ⟨uI va 100 47 1, ?_, I_uI1 _ _ _ 1 (by decide) (by decide), Fr_up rfl Fa⟩
  rw [hIL, b2_s]
  unfold bcK
  have hva' : uI (uI v2 100 66 0) 100 69 0 = va := hva
  rw [lt_e, lt_e, hva', hd, bd_s, gI_z va 100 47, a47, if_neg (by decide), lt_e]
theorem QM8_QMk : ∀ k i, (QM k i || (k == 100 && i == 8)) = true → QMk k i = true := by
  intro k i h
  unfold QMk
  simp only [Bool.or_eq_true] at h ⊢
  rcases h with h | h
  · exact Or.inl (Or.inl h)
  · exact Or.inr h
theorem EZ_uni {E : List (Lt ⊕ Bool)} {z z' : Cs} {G G' : List Cs} (h : EZ E z G) (h' : EZ E z' G') : z = z' ∧ G = G' := by
  have h1 := h [] []
  rw [h' [] []] at h1
  have h2 := (Prod.mk.inj h1)
  exact ⟨((List.cons.inj h2.1).1).symm, by have := h2.2; simpa using this.symm⟩
set_option maxHeartbeats 4000000 in
theorem mk_both {u v : St} {S R NC NR Kc lo Kr dd r j w g h q cc ch e0 C nf0 : Nat} {occ F : List Nat} {B : Nat → Nat} {fi ps : Nat → Nat} {nv c : Nat → Int} {e : Nat → Nat} (hIS : IS u v S R NC NR Kc lo Kr dd r j w g h q cc occ) (hBD : BDf 0 2 ch w g h q cc e0) (hch : ch ≤ 1500) (hB : ∀ x, B x = 0) (hF : F = addF B [] occ) (hFB : FB u NC B F) (hNM : NMc u NC) (hN : NMx u v NC NR) (hS60 : S ≤ 60) (hSY : SYT u v S) (hR : I u 3 6 = R) (hRv : I v 100 33 = R) (hRl : R ≤ 1501) (hNC : NC ≤ 1501) (hKc : Kc ≤ 1501) (hKr : Kr ≤ 1501) (hSR : SR u v C fi ps nv c e) (hSYr : SYr u v S nf0 (ps (fi C)) c) (hVO : VOr C fi ps c) (h24 : I u 2 4 = nf0) (h7 : I v 100 7 = nf0) (hnf : nf0 ≤ 199000000) (h49 : I u 49 0 = 0) (h52 : I u 52 0 = 0) : ∃ u' v', STk u u' C (fi C) (ps (fi C)) ∧ RTk v v' C (fi C) (ps (fi C)) ∧ Fr PMk u u' ∧ Fr QMk v v' ∧ fX12_become (zI j) v = some v' ∧ ((fX0_make (zI r) u = some (1, u') ∧ I v' 100 47 = 0 ∧ ∃ nf' C' fi' ps' nv' c' e', nf0 ≤ nf' ∧ nf' ≤ nf0 + 250 * ch ∧ I u' 2 4 = (nf' : Nat) ∧ I v' 100 7 = (nf' : Nat) ∧ SR u' v' C' fi' ps' nv' c' e' ∧ SYr u' v' S nf' (ps' (fi' C')) c' ∧ VOr C' fi' ps' c' ∧ C ≤ C' ∧ fi C ≤ fi' C' ∧ ps (fi C) ≤ ps' (fi' C')) ∨ (fX0_make (zI r) u = some (0, u') ∧ I v' 100 47 = 1)) := by
  have hib := IS_bits hIS
  have hBD' := hBD
  obtain ⟨x1, x2, x3, x4, x5, x6, x7, x8⟩ := hBD'
  have hSS : I v 100 3 = S := hSY.2.1
  have hFB' := hFB
  obtain ⟨f1, f2, f3, f4, f5, f6, f7⟩ := hFB'
  have hFx : ∀ x, x ∈ F → x < NC := fun x hx => by
    obtain ⟨i, hi⟩ := List.mem_iff_getElem?.1 hx
    exact (f4 i x hi).2
  by_cases hR250 : R ≤ 250
  · obtain ⟨hFl, v1, el, NR1, b1, b2', b3, b4, b5, b6, b7, b8⟩ := bc_open hIS (by omega) (by omega) hB hF hFx f5 hNM.2.2 hN hS60 hR250 hNC hKr hSS hRv h7 hnf
    have b1' : fX12_become (zI j) v = b2 (IL FU v1) bcK := b1
    have F1 : Fr QMk v v1 := Fr_up2 QM8_QMk b8
    have R1 : RTk v v1 C (fi C) (ps (fi C)) := RTk_fr _ _ _ b8 (fun k i hk => by simp [QM]; omega)
    have hoccF : ∀ x, x ∈ occ → ∃ k : Nat, F[k]? = some x := fun x hx => by
      have : x ∈ F := by rw [hF]; exact addF_mem B hB occ [] x (Or.inr hx)
      exact List.mem_iff_getElem?.1 this
    have hRN := RN_all (nb := nf0) hKc hRl hNC hKr (by omega) (fun s hs => (hSY.2.2.2 s hs).2.2.2.1) hNM.2.2 (by omega) dd _ _ _ _ _ _ _ _ hIS
    have rn := fun (ρ : Nat → Int) (hρ : ∀ x, x ∈ occ → lkp el x = some (ρ x)) => hRN false ρ (rng F.length) F.length nf0 [] [] el [] [] 0 F.length NR1 v1 b3 b4 b2' (by simp only [List.length_nil]; omega) (by omega) (by rw [rng_len]; omega) (by simp only [List.length_nil]; omega) (by omega) (by omega) (by simp) (Nat.le_refl _) (by omega) (Nat.le_refl _) hρ b6 (rng_neg _)
    have hfail : ∀ (v2 : St) (N : Nat), (∀ F, IL (F + N) v1 = IL F v2) → Fr QM v1 v2 → N < 999999999 → I v2 100 47 = 1 → ∃ v', fX12_become (zI j) v = some v' ∧ I v' 100 47 = 1 ∧ Fr QMk v v' ∧ RTk v v' C (fi C) (ps (fi C)) := by
      intro v2 N hX hF2 hN2 h47
      obtain ⟨v3, y1, y2, y3⟩ := bc_big (v2 := v2) (FU - 1 - N) h47
      refine ⟨v3, ?_, y2, Fr_tr F1 (Fr_tr (Fr_up2 QM_QMk hF2) (Fr_up2 (fun k i hk => by simp at hk; simp [QMk, QM]; omega) y3)), RTk_tr (Nat.le_refl _) (Nat.le_refl _) (Nat.le_refl _) R1 (RTk_tr (Nat.le_refl _) (Nat.le_refl _) (Nat.le_refl _) (RTk_fr _ _ _ hF2 (fun k i hk => by simp [QM]; omega)) (RTk_fr _ _ _ y3 (fun k i hk => by simp; omega)))⟩
      rw [b1', show FU = (FU - 1 - N + 1) + N by unfold FU; omega, hX, y1]
    by_cases hw : w + F.length ≤ 3000
    · -- the class
      obtain ⟨g1, g2, g3, g4, g5, g6⟩ := BD_top hBD hch (by omega)
      obtain ⟨u1, ρ, m1, m2, m3, m4⟩ := mk_open (r := r) (w := w) (nf := nf0) (by omega) hFB hNC (by omega) hib.2.2.2 (by omega) hw h24 h49 h52
      have hρ : ∀ x, x ∈ occ → lkp el x = some (ρ x) ∧ ρ x < 0 := fun x hx => by
        obtain ⟨k, hk⟩ := hoccF x hx
        rw [m3 k x hk]; exact ⟨b7 k x hk, by omega⟩
      have hCN := CN_all hKc hRl hNC dd _ _ _ _ _ _ _ _ hIS
      have cx := hCN false ρ (rng F.length) F.length nf0 [] [] [] [] 0 0 0 u1 (AGT_fr (fun k i _ => rfl) m4) m2 (by simp only [List.length_nil]; omega) (by simp only [List.length_nil]; omega) (by rw [rng_len]; omega) (by simp only [List.length_nil]; omega) (by omega) (by omega) (by omega) (by omega) (fun x hx => Or.inl (hρ x hx).2)
      obtain ⟨u2, N, n1, n2, n3, n4⟩ := cx
      obtain ⟨v2, N2, n5, n6, n7⟩ := rn ρ (fun x hx => (hρ x hx).1)
      have hmk : fX0_make (zI r) u = fX0_make_L0 (FU - N) 0 (zI N) u2 := by
        have := n2 (FU - N) 0 (by omega)
        rw [show FU - N + N = FU by unfold FU; omega, Nat.zero_add] at this
        rw [m1, this]
      have hFN : ∃ Fn, FU - N = Fn + 1 := ⟨FU - N - 1, by unfold FU; omega⟩
      obtain ⟨Fn, hFn⟩ := hFN
      have Fu2 : Fr PM u u2 := Fr_tr m4 n3
      have Su2 : STk u u2 C (fi C) (ps (fi C)) := STk_fr _ _ _ Fu2 (fun k i hk => by simp [PM]; omega)
      rcases n4 with ⟨E, na', nf', z, Gx, CT', NL', p1, p2, p3, p4, p5, p6, p7, p8, p9⟩ | ⟨p1, p2⟩
      · -- the class made sets
        rcases n7 with ⟨E2, na2, nf2, z2, Gx2, MD', NR', gz, q0, q1, q2, q3, q4, q5, q6, q7, q8, q9, q10, q11, q12⟩ | ⟨q1, q2, q3⟩
        · rw [p1] at q1
          have hE1 := Option.some.inj q1
          have hEE : E = E2 ∧ na' = na2 ∧ nf' = nf2 := ⟨congrArg (·.1) hE1, congrArg (·.2.1) hE1, congrArg (·.2.2) hE1⟩
          obtain ⟨rfl, rfl, rfl⟩ := hEE
          obtain ⟨rfl, rfl⟩ := EZ_uni p2 q2
          obtain ⟨zz, Gz, ez1, ez2⟩ := ev_z u dd _ _ _ _ _ _ _ _ _ p1
          obtain ⟨rfl, rfl⟩ := EZ_uni p2 ez1
          rw [List.nil_append] at p3 q3
          obtain ⟨c1, c2, c3, c4, c5, c6, c7, c8⟩ := p3
          obtain ⟨w1, w2, w3, w4, w5, w6, w7, w8, w9, w10, w11, w12⟩ := c8
          obtain ⟨⟨a, s1, s2, s3, s4⟩, _⟩ := w12
          obtain ⟨r1, r2, r3, r4, r5, r6, r7, r8, r9, r10, r11, r12, r13, r14, r15, r16⟩ := q3
          have hzG : Gx[gz]? = some z := r16.1
          have hzmem : z ∈ Gx := List.mem_iff_getElem?.2 ⟨gz, hzG⟩
          have hgzl := get_lt hzG
          -- the class comes to its end
          have hmk2 : fX0_make (zI r) u = b2 (fX10_deliver u2) fun r3 u2 => if r3 = 0 then (some (0, u2)) else some (1, u2) := by
            have h4 : I u2 5 4 = 0 := c1.1
            have := mk_done (u := u2) (x := N) Fn h4
            rw [hmk, hFn]
            rcases this with this | this <;> rw [this] <;> (unfold fX0_make_j178; rw [gI_z u2 5 5, c2, if_pos (show zI 0 = 0 from rfl)])
          -- the reference comes to its trees
          obtain ⟨v3, t1, t2, t3⟩ := got_spec v2 [] gz (by simp) r2
          have hIL : IL (FU - N2) v2 = some (zI gz, v3) := by
            rw [show FU - N2 = (FU - N2 - 1) + 1 by unfold FU; omega]
            have sx : IL (FU - N2 - 1 + 1) v2 = fX12_inside_L0_0 (fX12_inside_L0 (FU - N2 - 1)) v2 := rfl
            have h38 : I v2 100 38 = 0 := r1.1
            rw [sx]
            unfold fX12_inside_L0_0
            rw [gI_z v2 100 38, h38, if_pos (by decide)]
            unfold fX12_inside_j174
            rw [gI_z v2 100 47, r3, if_pos (show zI 0 = 0 from rfl), t1, b2_s]
          obtain ⟨v4, hv4⟩ : ∃ v4, uI (uI v3 100 66 (zI 0)) 100 69 (zI 0) = v4 := ⟨_, rfl⟩
          have F34 : Fr (fun k i => k == 100 && (i == 66 || i == 69)) v3 v4 := by rw [← hv4]; exact Fr_up rfl (Fr_up rfl (Fr_rfl _ _))
          have F24 : Fr (fun k i => k == 100 && (i == 41 || i == 66 || i == 69)) v2 v4 := Fr_tr (Fr_up2 (fun k i hk => by simp at hk; simp [hk]) t3) (Fr_up2 (fun k i hk => by simp at hk; simp; omega) F34)
          have hT4 : TGs u v4 S nf0 nf' MD' Gx := TGs_fr F24 (fun k i hk => by simp; omega) r15
          obtain ⟨v5, d1, d2, d3⟩ := dist_spec (u0 := u) (S := S) (nb := nf0) (nf := nf') (MD := MD') (G := Gx) (by omega) hT4 (by rw [Fr_I F24 rfl]; exact r13) (by rw [Fr_I F24 rfl]; exact r3) (by rw [← hv4]; simp (disch := omega) only [I_uI1, I_uI2]) (by rw [← hv4]; simp (disch := omega) only [I_uI1, I_uI2])
          have hbc : fX12_become (zI j) v = if (gI v5 100 47) = 0 then (bd (ld v5 137 6100 (zI gz)) fun v15 => if ((gI v5 100 10) + v15) ≤ 100 then (lt (0 : Int32) fun x17 => fX12_become_L0 FU 0 (zI gz) x17 v5) else lt (uI v5 100 47 1) fun u18 => some u18) else lt (uI v5 100 47 1) fun u14 => some u14 := by
            have := n5 (FU - N2)
            rw [show FU - N2 + N2 = FU by unfold FU; omega] at this
            rw [b1', this, hIL, b2_s]
            unfold bcK
            have hv4' : uI (uI v3 100 66 0) 100 69 0 = v4 := hv4
            rw [lt_e, lt_e, hv4', d1, bd_s]
          have F15 : Fr QMk v1 v5 := Fr_tr (Fr_up2 QM_QMk n6) (Fr_tr (Fr_up2 (fun k i hk => by simp at hk; simp [QMk, QM]; omega) F24) (Fr_up2 (fun k i hk => by simp [Qdi, Pwr] at hk; simp [QMk, QM]; omega) d2))
          have F1n : Fr (fun k i => QM k i || (k == 100 && i == 8)) v v5 := Fr_tr b8 (Fr_up2 (fun k i hk => by simp [hk]) (Fr_tr n6 (Fr_tr (Fr_up2 (fun k i hk => by simp at hk; simp [QM]; omega) F24) (Fr_up2 (fun k i hk => by simp [Qdi, Pwr] at hk; simp [QM]; omega) d2))))
          have Fv5 : Fr QMk v v5 := Fr_tr F1 F15
          have R5 : RTk v v5 C (fi C) (ps (fi C)) := RTk_fr _ _ _ F1n (fun k i hk => by simp [QM]; omega)
          have bigv : I v5 100 47 = 1 → ∃ v', fX12_become (zI j) v = some v' ∧ I v' 100 47 = 1 ∧ Fr QMk v v' ∧ RTk v v' C (fi C) (ps (fi C)) := fun h5 => ⟨uI v5 100 47 1, by rw [hbc, gI_z v5 100 47, h5, if_neg (by decide), lt_e], I_uI1 _ _ _ 1 (by decide) (by decide), Fr_up rfl Fv5, RTk_tr (Nat.le_refl _) (Nat.le_refl _) (Nat.le_refl _) R5 (RTk_fr (P := fun k i => k == 100 && i == 47) _ _ _ (Fr_up rfl (Fr_rfl _ _)) (fun k i hk => by simp; omega))⟩
          have hCv : I v5 100 10 = C := by rw [Fr_I F1n rfl]; exact hSR.2.2.1
          have hCu : I u2 2 5 = C := by rw [Fr_I Fu2 rfl]; exact hSR.2.1
          have hC100 := hSR.1
          have hM6 : tm Gx ≤ 6000 := w8
          -- the class before its clauses
          have hdel : fX10_deliver u2 = if C + z.length ≤ 100 then fX10_deliver_L1 FU 0 (zI a) u2 else some (0, u2) := by
            unfold fX10_deliver
            have e54 : ld u2 54 400 0 = some (zI ((a + z.length : Nat) : Int)) := by rw [show (0 : Int32) = zI (0 : Nat) from rfl, ld_z _ _ _ _ (by omega) (by omega), Int.toNat_natCast]; rw [show I u2 54 0 = ((a + z.length : Nat) : Int) from s2]
            have e53 : ld u2 53 400 0 = some (zI (a : Int)) := by rw [show (0 : Int32) = zI (0 : Nat) from rfl, ld_z _ _ _ _ (by omega) (by omega), Int.toNat_natCast]; rw [show I u2 53 0 = (a : Int) from s1]
            have e10 : I u2 6 10 = 1 := w4
            rw [gI_z u2 6 10, e10, if_pos (show zI 1 = 1 from rfl), e54, bd_s, e53, bd_s, bd_s, gI_z u2 2 5, hCu, z_add, z_sub]
            by_cases h100 : C + z.length ≤ 100
            · rw [if_pos (by rw [z_lit, z_le (by omega) (by omega) (by decide) (by decide)]; omega), if_pos h100]
            · rw [if_neg (by rw [z_lit, z_le (by omega) (by omega) (by decide) (by decide)]; omega), if_neg h100]
          have hdv := dv_loop (u := u2) hM6 z a FU (by omega) s4 s2 (by unfold FU; omega)
          have e53 : ld u2 53 400 0 = some (zI (a : Int)) := by rw [show (0 : Int32) = zI (0 : Nat) from rfl, ld_z _ _ _ _ (by omega) (by omega), Int.toNat_natCast]; rw [show I u2 53 0 = (a : Int) from s1]
          by_cases h12 : ∃ cx, cx ∈ z ∧ 12 < cx.length
          · -- a clause is too long
            have hov : OVG Gx := Or.inr (Or.inr ⟨z, hzmem, h12⟩)
            have h5 : I v5 100 47 = 1 := by
              rcases d3 with d3 | d3
              · exact absurd hov (DBg_ok d3)
              · exact d3.1
            obtain ⟨v', y1, y2, y3, y4⟩ := bigv h5
            refine ⟨u2, v', Su2, y4, Fr_up2 PM_PMk Fu2, y3, y1, Or.inr ⟨?_, y2⟩⟩
            rw [hmk2, hdel]
            by_cases h100 : C + z.length ≤ 100
            · rw [if_pos h100, hdv.2 h12, b2_s, if_pos rfl]
            · rw [if_neg h100, b2_s, if_pos rfl]
          · have h12' : ∀ cx, cx ∈ z → cx.length ≤ 12 := fun cx hcx => by
              rcases Nat.lt_or_ge 12 cx.length with h | h
              · exact absurd ⟨cx, hcx, h⟩ h12
              · exact h
            have hnov : ¬ OVG Gx := by
              rintro (h | h | ⟨x, hx, cx, hcx, h⟩)
              · omega
              · omega
              · obtain ⟨c', k1, k2⟩ := ez2.2 x hx cx hcx
                have := h12' c' k1
                omega
            have hD5 : DBg v5 Gx Gx.length := by
              rcases d3 with d3 | d3
              · exact d3
              · exact absurd d3.2 hnov
            obtain ⟨sa, k1, k2, k3, k4, k5⟩ := hD5.2.2.2.2.2 gz z hgzl hzG
            rw [List.take_length] at k4 k5
            have h5 := hD5.1
            have hT5 : TGs u v5 S nf0 nf' MD' Gx := TGs_fr d2 Qdi_no hT4
            have e137 : ld v5 137 6100 (zI gz) = some (zI z.length) := by rw [ld_z _ _ _ _ (by omega) (by omega), Int.toNat_natCast, k3]
            rw [gI_z v5 100 47, h5, if_pos (show zI 0 = 0 from rfl), e137, bd_s, gI_z v5 100 10, hCv, z_add] at hbc
            by_cases h100 : C + z.length ≤ 100
            · rw [if_pos (by rw [z_lit, z_le (by omega) (by omega) (by decide) (by decide)]; omega), lt_e] at hbc
              rw [if_pos h100, hdv.1 h12', e53, bd_s] at hdel
              -- the clauses come
              have hDL : DLs u2 v5 C S nf' nf0 fi ps nv c e := by
                have hs2 : SYr u2 v5 S nf0 (ps (fi C)) c := SYr_fr Fu2 F1n (fun _ => rfl) (fun _ => rfl) hSYr
                exact ⟨SR_fr Fu2 F1n (fun k i hk => by simp [PSc] at hk; simp [PM]; omega) (fun k i hk => by simp [PSr] at hk; simp [QM]; omega) hSR, SYr_F q8 hs2, hVO, FAr_of (by omega) (Nat.le_refl _) hs2⟩
              have hE5 : NCe u v5 S nf0 nf' := ⟨by omega, fun s hs => by rw [Fr_I F1n rfl]; exact (hSY.2.2.2 s hs).2.1.symm, by rw [Fr_I d2 rfl, Fr_I F24 rfl]; exact r12, by omega, by omega⟩
              obtain ⟨u3, v6, y1, y2, y3, y4, y5, y6⟩ := dl_loop (u0 := u) (S := S) (F := nf') (nb := nf0) (nf := nf') (MD := MD') (NL := NL') (CT := CT') (M := tm Gx) (M0 := tm Gx) (g := gz) (G := Gx) (by omega) w11 hM6 hM6 (by omega) (by omega) (by omega) (Nat.le_refl _) z a sa 0 C fi ps nv c e u2 v5 FU FU hDL h100 (by omega) (by omega) s4 k5 s2 (by rw [k3]; simp) (by rw [k2]; simp) h5 hE5 hT5 (fun s hs => Fr_I Fu2 rfl) (by unfold FU; omega) (by unfold FU; omega)
              have y5' : fX12_become_L0 FU 0 (zI gz) 0 v5 = some v6 := y5
              refine ⟨u3, v6, STk_tr (Nat.le_refl _) (Nat.le_refl _) (Nat.le_refl _) Su2 y1, RTk_tr (Nat.le_refl _) (Nat.le_refl _) (Nat.le_refl _) R5 y2, Fr_tr (Fr_up2 PM_PMk Fu2) (Fr_up2 Pdv_PMk y3), Fr_tr Fv5 (Fr_up2 Pnw_QMk y4), by rw [hbc, y5'], ?_⟩
              rcases y6 with ⟨o1, o2, C', fi', ps', nv', c', e', o3, o4, o5, o6, o7⟩ | ⟨o1, o2⟩
              · refine Or.inl ⟨by rw [hmk2, hdel, o1, b2_s, if_neg (by decide)], o2, nf', C', fi', ps', nv', c', e', p5, ?_, by rw [Fr_I y3 rfl]; exact c7, by rw [Fr_I y4 rfl, Fr_I d2 rfl, Fr_I F24 rfl]; exact r11, o3.1, o3.2.1, o3.2.2.1, o4, o6, o7⟩
                have := g6 (nf' - nf0) (by omega) (by omega)
                omega
              · exact Or.inr ⟨by rw [hmk2, hdel, o1, b2_s, if_pos rfl], o2⟩
            · rw [if_neg (by rw [z_lit, z_le (by omega) (by omega) (by decide) (by decide)]; omega), lt_e] at hbc
              rw [if_neg h100] at hdel
              refine ⟨u2, uI v5 100 47 1, Su2, RTk_tr (Nat.le_refl _) (Nat.le_refl _) (Nat.le_refl _) R5 (RTk_fr (P := fun k i => k == 100 && i == 47) _ _ _ (Fr_up rfl (Fr_rfl _ _)) (fun k i hk => by simp; omega)), Fr_up2 PM_PMk Fu2, Fr_up rfl Fv5, hbc, Or.inr ⟨by rw [hmk2, hdel, b2_s, if_pos rfl], I_uI1 _ _ _ 1 (by decide) (by decide)⟩⟩
        · exfalso
          rcases q3 with q3 | q3
          · rw [p1] at q3; cases q3
          · omega
      · -- too large on the way
        have hcl : fX0_make (zI r) u = some (0, u2) := by rw [hmk, hFn]; exact mk_big Fn (by omega) p1
        rcases n7 with ⟨E2, na2, nf2, z2, Gx2, MD', NR', gz, q0, q1, q2, q3, q4, q5, q6, q7, q8, q9, q10, q11, q12⟩ | ⟨q1, q2, q3⟩
        · rcases p2 with p2 | ⟨E, na', nf', p2, p3⟩
          · rw [p2] at q1; cases q1
          · rw [p2] at q1
            have hE1 := Option.some.inj q1
            have hEE : E = E2 := congrArg (·.1) hE1
            subst hEE
            rw [q2 [] [], List.nil_append] at p3
            rw [List.nil_append] at q3
            obtain ⟨r1, r2, r3, r4, r5, r6, r7, r8, r9, r10, r11, r12, r13, r14, r15, r16⟩ := q3
            obtain ⟨v3, t1, t2, t3⟩ := got_spec v2 [] gz (by simp) r2
            have hIL : IL (FU - N2) v2 = some (zI gz, v3) := by
              rw [show FU - N2 = (FU - N2 - 1) + 1 by unfold FU; omega]
              have sx : IL (FU - N2 - 1 + 1) v2 = fX12_inside_L0_0 (fX12_inside_L0 (FU - N2 - 1)) v2 := rfl
              have h38 : I v2 100 38 = 0 := r1.1
              rw [sx]
              unfold fX12_inside_L0_0
              rw [gI_z v2 100 38, h38, if_pos (by decide)]
              unfold fX12_inside_j174
              rw [gI_z v2 100 47, r3, if_pos (show zI 0 = 0 from rfl), t1, b2_s]
            obtain ⟨v4, hv4⟩ : ∃ v4, uI (uI v3 100 66 (zI 0)) 100 69 (zI 0) = v4 := ⟨_, rfl⟩
            have F34 : Fr (fun k i => k == 100 && (i == 66 || i == 69)) v3 v4 := by rw [← hv4]; exact Fr_up rfl (Fr_up rfl (Fr_rfl _ _))
            have F24 : Fr (fun k i => k == 100 && (i == 41 || i == 66 || i == 69)) v2 v4 := Fr_tr (Fr_up2 (fun k i hk => by simp at hk; simp [hk]) t3) (Fr_up2 (fun k i hk => by simp at hk; simp; omega) F34)
            obtain ⟨v5, d1, d2, d3⟩ := dist_spec (u0 := u) (S := S) (nb := nf0) (nf := nf2) (MD := MD') (G := Gx2) (by omega) (TGs_fr F24 (fun k i hk => by simp; omega) r15) (by rw [Fr_I F24 rfl]; exact r13) (by rw [Fr_I F24 rfl]; exact r3) (by rw [← hv4]; simp (disch := omega) only [I_uI1, I_uI2]) (by rw [← hv4]; simp (disch := omega) only [I_uI1, I_uI2])
            have h5 : I v5 100 47 = 1 := by
              rcases d3 with d3 | d3
              · exfalso
                refine DBg_ok d3 ?_
                rcases p3 with p3 | p3
                · exact Or.inl p3
                · exact Or.inr (Or.inl p3)
              · exact d3.1
            have F1n : Fr (fun k i => QM k i || (k == 100 && i == 8)) v v5 := Fr_tr b8 (Fr_up2 (fun k i hk => by simp [hk]) (Fr_tr n6 (Fr_tr (Fr_up2 (fun k i hk => by simp at hk; simp [QM]; omega) F24) (Fr_up2 (fun k i hk => by simp [Qdi, Pwr] at hk; simp [QM]; omega) d2))))
            have Fv5 : Fr QMk v v5 := Fr_up2 QM8_QMk F1n
            refine ⟨u2, uI v5 100 47 1, Su2, RTk_tr (Nat.le_refl _) (Nat.le_refl _) (Nat.le_refl _) (RTk_fr _ _ _ F1n (fun k i hk => by simp [QM]; omega)) (RTk_fr (P := fun k i => k == 100 && i == 47) _ _ _ (Fr_up rfl (Fr_rfl _ _)) (fun k i hk => by simp; omega)), Fr_up2 PM_PMk Fu2, Fr_up rfl Fv5, ?_, Or.inr ⟨hcl, I_uI1 _ _ _ 1 (by decide) (by decide)⟩⟩
            have := n5 (FU - N2)
            rw [show FU - N2 + N2 = FU by unfold FU; omega] at this
            rw [b1', this, hIL, b2_s]
            unfold bcK
            have hv4' : uI (uI v3 100 66 0) 100 69 0 = v4 := hv4
            rw [lt_e, lt_e, hv4', d1, bd_s, gI_z v5 100 47, h5, if_neg (by decide), lt_e]
        · obtain ⟨v', y1, y2, y3, y4⟩ := hfail v2 N2 n5 n6 (by omega) q1
          exact ⟨u2, v', Su2, y4, Fr_up2 PM_PMk Fu2, y3, y1, Or.inr ⟨hcl, y2⟩⟩
    · -- too heavy
      obtain ⟨v2, N2, n5, n6, n7⟩ := rn (fun x => (lkp el x).getD 0) (fun x hx => by
        obtain ⟨k, hk⟩ := hoccF x hx
        rw [b7 k x hk]; rfl)
      rcases n7 with ⟨E2, na2, nf2, z2, Gx2, MD', NR', gz, q0, q1, q2, q3, q4, q5, q6, q7, _⟩ | ⟨q1, q2, q3⟩
      · exfalso; omega
      · obtain ⟨v', y1, y2, y3, y4⟩ := hfail v2 N2 n5 n6 (by omega) q1
        refine ⟨u, v', STk_rfl _ _ _ _, y4, Fr_rfl _ _, y3, y1, Or.inr ⟨?_, y2⟩⟩
        have hcw := cw_rng w
        unfold fX0_make
        rw [gI_z u 3 6, hR, if_neg (by rw [z_lit, z_lt (by decide) (by decide) (by omega) (by omega)]; omega), ld_z _ _ _ _ (by omega) (by omega), bd_s, Int.toNat_natCast, hib.2.2.2, gI_z u 3 12, f3, z_add, if_neg]
        rw [z_lit, z_le (by omega) (by omega) (by decide) (by decide)]
        unfold cw
        by_cases hw6 : w < 1000000
        · rw [if_pos hw6]; omega
        · rw [if_neg hw6]; omega
  · -- too many signs
    have F47 : Fr (fun k i => k == 100 && i == 47) v (uI v 100 47 1) := Fr_up rfl (Fr_rfl _ _)
    have e47 : I (uI v 100 47 1) 100 47 = 1 := I_uI1 _ _ _ 1 (by decide) (by decide)
    refine ⟨u, uI v 100 47 1, STk_rfl _ _ _ _, RTk_fr _ _ _ F47 (fun k i hk => by simp; omega), Fr_rfl _ _, Fr_up2 (fun k i hk => by simp at hk; simp [QMk, QM]; omega) F47, ?_, Or.inr ⟨?_, e47⟩⟩
    · unfold fX12_become
      rw [gI_z v 100 3, hSS, if_neg (by rw [z_lit, z_lt (by decide) (by decide) (by omega) (by omega)]; omega), gI_z v 100 33, hRv, if_neg (by rw [z_lit, z_le (by omega) (by omega) (by decide) (by decide)]; omega)]
      unfold fX12_become_j25
      rw [show zb (1 : Int32) = some 1 from rfl, bd_s, lt_e, gI_z _ 100 47, e47, if_neg (by decide)]
    · unfold fX0_make
      rw [gI_z u 3 6, hR, if_pos (by rw [z_lit, z_lt (by decide) (by decide) (by omega) (by omega)]; omega)]
