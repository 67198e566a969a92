/-! reading: quantifiers -/
theorem pf_qvar {u v : St} {n t S R NC NR o : Nat} {B : Nat → Nat} {F : List Nat} {Kc Kr : Nat} {z : Int} (h : PFo u v n t S R NC NR o B F Kc Kr) (hNC : NC + 1 ≤ t) (hw : NmR (J u 1 3) z) : ∃ (u' : St) (x NC' : Nat), fX7_variable (gJ u 1 3) u = some (zI x, u') ∧ PFo u' v n t S R NC' NR o B F Kc Kr ∧ x < NC' ∧ NC ≤ NC' ∧ J u' 38 x = J u 1 3 ∧ PY u u' v v S R NC NR Kc Kr := by
  obtain ⟨⟨m, h1⟩, h2, h3, h4, h5⟩ := h
  have htn := PQ_n h1
  obtain ⟨p1, p2, p3, p4, p5, p6, p7, p8, p9, p10, p11, p12, p13, p14, p15, p16, p17, p18⟩ := h1
  obtain ⟨u', x, NC', c1, c2, c3, c4, c5, c6, c7, c8, c9⟩ := cvar_spec p11 (by omega) hw
  have Fv : Fr (fun _ _ => false) v v := Fr_rfl _ _
  obtain ⟨b1, b2', b3, b4, b5, b6, b7⟩ := p16
  have hFB : FB u' NC' B F := by
    refine ⟨fun y hy => ?_, fun y hy => b2' y (by omega), by rw [Fr_I c9 rfl]; exact b3, fun i y hiy => ?_, b5, fun y hy => ?_, b7⟩
    · by_cases hh : y < NC
      · rw [(c7 y hh).2.1]; exact b1 y hh
      · rw [(c8 y (by omega) hy).1, b2' y (by omega)]; rfl
    · rw [Fr_I c9 rfl]; have := b4 i y hiy; exact ⟨this.1, by omega⟩
    · by_cases hh : y < NC
      · rw [(c7 y hh).2.2]; exact b6 y hh
      · rw [(c8 y (by omega) hy).2, if_neg]
        intro hm
        obtain ⟨i, hi, ei⟩ := List.getElem_of_mem hm
        have := (b4 i y (by rw [List.getElem?_eq_getElem hi, ei])).2
        omega
  refine ⟨u', x, NC', by rw [gJ_z]; exact c1, ⟨⟨m, TXs_fr c9 Fv rfl (fun _ => rfl) rfl (fun _ => rfl) p1, TKS_fr c9 Fv (fun _ => rfl) (fun _ => rfl) (fun _ _ => rfl) p2, by rw [Fr_I c9 rfl]; exact p3, p4, by rw [Fr_I c9 rfl]; exact p5, p6, p7, SYT_fr c9 Fv rfl (fun k i hk => by simp [Pva]; omega) rfl (fun _ _ _ => rfl) p8, by rw [Fr_I c9 rfl]; exact p9, p10, c2, p12, p13, by omega, p15, hFB, p17, fun y hy => ?_⟩, by rw [Fr_I c9 rfl]; exact h2, h3, h4, h5⟩, c3, c4, c6, ⟨⟨SKp_fr c9 Fv (fun k i hk => by simp [Pva]; omega) (fun _ => rfl), fun i _ => ⟨Fr_I c9 rfl, rfl⟩, fun y hy => (c7 y hy).1, fun _ _ => rfl⟩, fun k i _ hk => Fr_I c9 (by simp [Pva]; omega), fun _ _ _ _ => rfl, fun _ _ => rfl, Fr_up2 (fun k i hk => by simp [Pva] at hk; simp [PAf, PA]; omega) c9, Fr_rfl _ _⟩⟩
  obtain ⟨x0, e1, e2⟩ := p18 y hy
  exact ⟨x0, by omega, by rw [(c7 x0 e1).1]; exact e2⟩
theorem pf_bind {u v : St} {n t S R NC NR o : Nat} {B B2 : Nat → Nat} {F : List Nat} {Kc Kr : Nat} (x : Nat) (δ : Int) (h : PFo u v n t S R NC NR o B F Kc Kr) (hx : x < NC) (hB : ∀ y, (B2 y : Int) = if y = x then (B y : Int) + δ else B y) (hB2 : ∀ y, B2 y ≤ 100) : ∃ u', fX7_bind (zI x) (zI δ) u = some u' ∧ PFo u' v n t S R NC NR o B2 F Kc Kr ∧ PY u u' v v S R NC NR Kc Kr := by
  obtain ⟨⟨m, h1⟩, h2, h3, h4, h5⟩ := h
  have htn := PQ_n h1
  obtain ⟨p1, p2, p3, p4, p5, p6, p7, p8, p9, p10, p11, p12, p13, p14, p15, p16, p17, p18⟩ := h1
  obtain ⟨b1, b2', b3, b4, b5, b6, b7⟩ := p16
  have hbx := hB x
  rw [if_pos rfl] at hbx
  have hbx2 := hB2 x
  have Fv : Fr (fun _ _ => false) v v := Fr_rfl _ _
  have Fu : Fr (fun k i => k == 39) u (uI u 39 x (zI ((B x : Int) + δ))) := Fr_up rfl (Fr_rfl _ _)
  refine ⟨uI u 39 x (zI ((B x : Int) + δ)), ?_, ⟨⟨m, TXs_fr Fu Fv rfl (fun _ => rfl) rfl (fun _ => rfl) p1, TKS_fr Fu Fv (fun _ => rfl) (fun _ => rfl) (fun _ _ => rfl) p2, by rw [Fr_I Fu rfl]; exact p3, p4, by rw [Fr_I Fu rfl]; exact p5, p6, p7, SYT_fr Fu Fv rfl (fun k i hk => by simp; omega) rfl (fun _ _ _ => rfl) p8, by rw [Fr_I Fu rfl]; exact p9, p10, ⟨by rw [Fr_I Fu rfl]; exact p11.1, fun y hy => by rw [Fr_J Fu rfl]; exact p11.2.1 y hy, fun y y' hy hy' hh => p11.2.2 y y' hy hy' (by rw [Fr_J Fu rfl, Fr_J Fu rfl] at hh; exact hh)⟩, p12, p13, p14, p15, ⟨fun y hy => ?_, fun y hy => ?_, by rw [Fr_I Fu rfl]; exact b3, fun i y hiy => by rw [Fr_I Fu rfl]; exact b4 i y hiy, b5, fun y hy => by rw [Fr_I Fu rfl]; exact b6 y hy, fun y => by have := hB2 y; omega⟩, p17, fun y hy => by obtain ⟨x0, e1, e2⟩ := p18 y hy; exact ⟨x0, e1, by rw [Fr_J Fu rfl]; exact e2⟩⟩, by rw [Fr_I Fu rfl]; exact h2, h3, h4, h5⟩, fr_PY Fu Fv (fun k i hk => by simp at hk; simp [PAf, PA, hk]) (fun _ _ hk => by simp at hk) (fun k i hk => by simp; omega) (fun _ _ _ => rfl)⟩
  · unfold fX7_bind
    rw [ld_z _ _ _ _ (by omega) (by omega), bd_s, Int.toNat_natCast, b1 x hx, z_add, st_z _ _ _ _ _ (by omega) (by omega), bd_s, Int.toNat_natCast]
  · by_cases hyx : y = x
    · subst hyx; rw [I_uI1 _ _ _ _ (by omega) (by omega)]; omega
    · rw [I_uI2 _ _ _ _ _ _ (by omega), b1 y hy]; have := hB y; rw [if_neg hyx] at this; omega
  · have := hB y; rw [if_neg (by omega)] at this; have := b2' y hy; omega
theorem BDf_qu {o s b t w g h q c e lv : Nat} (ho : o < 30) (hs : s < b) (hb : b ≤ t) (hd : BDf (o + 1) 0 (t - b) w g h q c e) : BDf o lv (t - s) (w + 1) (g + 1) h (q + 1) (c + 2) e := by
  obtain ⟨x1, x2, x3, x4, x5, x6, x7, x8⟩ := hd
  refine ⟨by omega, by omega, by omega, by omega, by omega, by omega, ?_, p2_lt (by omega) (by decide) x8⟩
  have hk : (124 - 4 * o) = (124 - 4 * (o + 1)) + 4 := by omega
  obtain ⟨K, hK⟩ : ∃ K, 124 - 4 * (o + 1) = K := ⟨_, rfl⟩
  rw [hK] at x7 hk
  rw [hk, Nat.add_mul, Nat.mul_succ, Nat.mul_succ]; omega
theorem q37' : ∀ k i, (k == 100 && i == 37) = true → (Qvs k i || k == 115 || (k == 100 && (i == 37 || i == 38))) = true := by intro k i hk; simp at hk; simp [hk]
/-- a node over one formula and a variable -/
theorem mk_qu (grp : Nat → Int32 → St → Option (Int32 × St)) {n o : Nat} {u v : St} {t S R NC NR : Nat} {B B2 : Nat → Nat} {F : List Nat} {Kc Kr r j j0 x kk dd w g hh q c : Nat} {occ : List Nat} {l : List (Int × Int)} {vs : List Nat} (d3 : PFo u v n t S R NC NR (o + 1) B F Kc Kr) (d4 : TS v ((15, (j0 : Int)) :: l)) (d5 : VS v (j :: vs)) (d14 : IS u v S R NC NR Kc (j0 + 1) Kr dd r j w g hh q c occ) (hK : Kc + 1 ≤ t) (hj0 : j0 < Kr) (hl : l.length < 1000) (hvs : vs.length < 1000) (hkk : kk = 6 ∨ kk = 7) (h114 : I v 114 j0 = (if kk = 6 then 11 else 12)) (hx : x < NC) (hN : NmR (J u 38 x) (J v 117 j0)) (hB : ∀ y, (B2 y : Int) = if y = x then (B y : Int) + (-1) else B y) (hB2 : ∀ y, B2 y ≤ 100) : ∃ u' v', (b2 (fX7_add (zI kk) (zI x) (zI r) u) fun r5 u4 => bd (fX7_bind (zI x) (-1) u4) fun u6 => fX2_unary_j221 grp r5 u6) = some (zI Kc, u') ∧ (∀ G, fX12_formula_L0 (G + 1) 0 v = fX12_formula_L0 G 0 v') ∧ PFo u' v' n t S R NC NR o B2 F (Kc + 1) Kr ∧ TS v' l ∧ VS v' (j0 :: vs) ∧ PZ u u' v v' S R NC NR ∧ (∀ k i, i < Kc → (k = 33 ∨ k = 34 ∨ k = 35 ∨ k = 36) → I u' k i = I u k i) ∧ (∀ k i, i ≠ j0 → (k = 114 ∨ k = 115 ∨ k = 116) → I v' k i = I v k i) ∧ (∀ i, J v' 117 i = J v 117 i) ∧ Fr PAf u u' ∧ Fr QAf v v' ∧ IS u' v' S R NC NR (Kc + 1) j0 Kr (dd + 1) Kc j0 (w + 1) (g + 1) hh (q + 1) (c + 2) (occ.filter (fun y => y != x)) := by
  obtain ⟨e3, e4, e5, e6, e7, hn, e8, _, _, hNCt⟩ := PF_bits d3
  obtain ⟨hr, hj1, hj2, hw36⟩ := IS_bits d14
  have h34 := d3.2.1
  have h28 := d3.2.2.1
  have hKrt := d3.2.2.2.2
  -- the class
  have hcw := cw_rng w
  obtain ⟨u5, n1, n2, n3, n4, n5, n6, n7, n8⟩ := cnode_gen u Kc kk x r (1 + cw w) (by omega) h34 (by omega) (by omega) (by omega) (by omega) (by omega) (by omega) (by omega) (by omega) (fun w2 hw2 => wgh_qu u kk r x (cw w) hkk (by omega) hw36 w2 hw2)
  have d5a : PFo u5 v n t S R NC NR (o + 1) B F (Kc + 1) Kr := PF_gen (P := Pnd) (Q := fun _ _ => false) n8 (Fr_rfl _ _) (fun k i hk => by simp [Pnd]; omega) (fun _ _ _ => rfl) (by rw [Fr_I n8 rfl]; exact e5) e6 (by omega) n2 h28 hK hKrt d3
  obtain ⟨u6, q1, q2, q3⟩ := pf_bind x (-1) d5a hx hB hB2
  have f6 : ∀ k i, (k = 33 ∨ k = 34 ∨ k = 35 ∨ k = 36) → I u6 k i = I u5 k i := by
    have hb39 : Fr (fun k _ => k == 39) u5 u6 := by
      unfold fX7_bind at q1
      obtain ⟨y1, z1', q1⟩ := g_bd q1
      obtain ⟨y2, z2', q1⟩ := g_bd q1
      have := (g_st z2').2
      rw [← Option.some.inj q1, this]
      exact Fr_up rfl (Fr_rfl _ _)
    intro k i hk
    exact Fr_I hb39 (by simp; omega)
  have e56 : I u6 4 3 = ((o + 1 : Nat) : Int) := (PF_bits q2).2.2.1
  have z1 : gI u6 4 3 - 1 = zI o := by rw [gI_z, e56, show (1 : Int32) = zI 1 from rfl, z_sub, show ((o + 1 : Nat) : Int) - 1 = o by omega]
  have Fc : Fr (fun k i => k == 4 && i == 3) u6 (uI u6 4 3 (zI o)) := Fr_up rfl (Fr_rfl _ _)
  -- the reference
  obtain ⟨v5, f1, f2, f3⟩ := fm_pop 15 j0 d4 (by omega) e4
  have z2 : gI v5 100 37 - 1 = zI o := by rw [gI_z, Fr_I f3 rfl, e6, show (1 : Int32) = zI 1 from rfl, z_sub, show ((o + 1 : Nat) : Int) - 1 = o by omega]
  have F6 : Fr (fun k i => k == 100 && i == 37) v5 (uI v5 100 37 (zI o)) := Fr_up rfl (Fr_rfl _ _)
  have hV6 : VS (uI v5 100 37 (zI o)) (j :: vs) := VS_fr F6 (fun _ => by simp) (by simp) (VS_fr f3 (fun _ => by simp) (by simp) d5)
  obtain ⟨v7, i1, i2, i3⟩ := got_spec _ vs j (by omega) hV6
  have F8 : Fr (fun k _ => k == 115) v7 (uI v7 115 j0 (zI j)) := Fr_up rfl (Fr_rfl _ _)
  obtain ⟨v9, y1, y2, y3⟩ := give_spec (uI v7 115 j0 (zI j)) vs j0 (by omega) (VS_fr F8 (fun _ => by simp) (by simp) i2) (by omega)
  have Fv1 : Fr (fun k i => Qvs k i || k == 115 || (k == 100 && (i == 37 || i == 38))) v5 v9 := Fr_tr (Fr_up2 q37' F6) (Fr_tr (Fr_up2 (fun k i hk => by simp at hk; simp [Qvs, hk]) i3) (Fr_tr (Fr_up2 (fun k i hk => by simp at hk; simp [hk]) F8) (Fr_up2 (fun k i hk => by simp [hk]) y3)))
  have Fv : Fr (fun k i => Qvs k i || k == 115 || (k == 100 && (i == 37 || i == 38))) v v9 := Fr_tr (Fr_up2 (fun k i hk => by simp at hk; simp [hk]) f3) Fv1
  have o115 : ∀ k i, i ≠ j0 → (k = 114 ∨ k = 115 ∨ k = 116) → I v9 k i = I v k i := fun k i hi hk => by
    have hk100 := k114 hk
    rw [Fr_I y3 (by simp [Qvs, hk100])]
    have e : I (uI v7 115 j0 (zI j)) k i = I v7 k i := by
      by_cases h115 : k = 115
      · subst h115; exact I_uI2 _ _ _ _ _ _ (by omega)
      · exact I_uI3 _ _ _ _ _ _ h115
    rw [e, Fr_I i3 (by simp [hk100]), Fr_I F6 (by simp [hk100]), Fr_I f3 (by simp [hk100])]
  have o117 : ∀ i, J v9 117 i = J v 117 i := fun i => Fr_J Fv (by simp [Qvs])
  have n115 : I v9 115 j0 = j := by rw [Fr_I y3 (by simp [Qvs]), I_uI1 _ _ _ _ (by omega) (by omega)]
  have n114 : I v9 114 j0 = (if kk = 6 then 11 else 12) := by rw [Fr_I Fv (by simp [Qvs])]; exact h114
  have p33 : ∀ k i, (k = 33 ∨ k = 34 ∨ k = 35 ∨ k = 36) → I (uI u6 4 3 (zI o)) k i = I u5 k i := fun k i hk => by rw [I_uI3 _ _ _ _ _ _ (k33 hk), f6 k i hk]
  have o33 : ∀ k i, i ≠ Kc → (k = 33 ∨ k = 34 ∨ k = 35 ∨ k = 36) → I (uI u6 4 3 (zI o)) k i = I u k i := fun k i hi hk => by rw [p33 k i hk, n7 k i hi hk]
  have hZ1 : PZ u u5 v v S R NC NR := PZ_fr (Q := fun _ _ => false) n8 (Fr_rfl _ _) (fun k i hk => by simp [Pnd]; omega) (fun _ _ _ => rfl)
  have hZ3 : PZ u6 (uI u6 4 3 (zI o)) v v9 S R NC NR := PZ_fr Fc Fv (fun k i hk => by simp; omega) (fun k i hk => by simp [Qvs]; omega)
  have hZ : PZ u (uI u6 4 3 (zI o)) v v9 S R NC NR := PZ_tr (Nat.le_refl _) (Nat.le_refl _) (Nat.le_refl _) (Nat.le_refl _) (PZ_tr (Nat.le_refl _) (Nat.le_refl _) (Nat.le_refl _) (Nat.le_refl _) hZ1 q3.1) hZ3
  have hPF9 : PFo (uI u6 4 3 (zI o)) v9 n t S R NC NR o B2 F (Kc + 1) Kr := PF_gen Fc Fv (fun k i hk => by simp; omega) (fun k i hk => by simp [Qvs]; omega) (I_uI1 _ _ _ _ (by omega) (by omega)) (by rw [Fr_I y3 rfl, Fr_I F8 (by simp), Fr_I i3 rfl]; exact I_uI1 _ _ _ _ (by omega) (by omega)) (by omega) (by rw [I_uI3 _ _ _ _ _ _ (by decide)]; exact q2.2.1) (by rw [Fr_I Fv (by simp [Qvs])]; exact h28) hK hKrt q2
  have hTS : TS v9 l := TS_fr (Q := fun k i => Qvs k i || k == 115 || (k == 100 && i == 37)) (Fr_tr (Fr_up2 (fun k i hk => by simp at hk; simp [hk]) F6) (Fr_tr (Fr_up2 (fun k i hk => by simp at hk; simp [Qvs, hk]) i3) (Fr_tr (Fr_up2 (fun k i hk => by simp at hk; simp [hk]) F8) (Fr_up2 (fun k i hk => by simp [hk]) y3)))) (fun _ => by simp [Qvs]) (fun _ => by simp [Qvs]) (by simp [Qvs]) f2
  have hcw1 : I (uI u6 4 3 (zI o)) 36 Kc = cw (w + 1) := by
    rw [p33 36 _ (by simp), n6]
    unfold cw
    by_cases hw : w < 1000000
    · rw [if_pos hw]
      by_cases hw1 : w + 1 < 1000000
      · rw [if_pos (by omega), if_pos hw1]; omega
      · rw [if_neg (by omega), if_neg hw1]
    · rw [if_neg hw, if_neg (by omega), if_neg (by omega)]
  refine ⟨uI u6 4 3 (zI o), v9, ?_, fun G => ?_, hPF9, hTS, y2, hZ, fun k i hi hk => o33 k i (Nat.ne_of_lt hi) hk, o115, o117, Fr_tr (Fr_up2 Pnd_PAf n8) (Fr_tr q3.2.2.2.2.1 (Fr_up2 P43_PAf Fc)), Fr_up2 (fun k i hk => by simp [Qvs] at hk; simp [QAf, QA, QT, Qvs, Qts]; omega) Fv, ⟨Nat.lt_succ_self _, Nat.le_refl _, hj0, hcw1, Or.inr (Or.inr (Or.inr (Or.inr ⟨kk, x, r, j, w, g, q, c, occ, hkk, by rw [p33 33 _ (by simp)]; exact n3, n114, by rw [p33 34 _ (by simp)]; exact n4, hx, by rw [hZ.2.2.1 x hx, o117]; exact hN, by rw [p33 35 _ (by simp)]; exact n5, n115, rfl, rfl, rfl, rfl, rfl, IS_mono (Nat.le_refl _) (Nat.le_refl _) (Nat.le_refl _) (Nat.le_refl _) (Nat.le_succ _) (Nat.le_succ _) (Nat.le_refl _) hZ (fun k i hi hk => o33 k i (Nat.ne_of_lt hi) hk) (fun k i hlo _ hk => o115 k i (by omega) hk) (fun i _ _ => o117 i) dd _ _ _ _ _ _ _ _ d14⟩)))⟩⟩
  · rw [n1, b2_s, show (-1 : Int32) = zI (-1) from rfl, q1, bd_s]
    unfold fX2_unary_j221
    rw [z1, lt_e]
  · rw [f1, rt15, z2, lt_e, i1, b2_s, st_z _ _ _ _ _ (by omega) (by omega), bd_s, Int.toNat_natCast, y1, bd_s, bd_s]
