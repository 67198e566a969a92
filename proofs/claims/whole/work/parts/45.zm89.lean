/-! reading: signs ahead of a formula -/
theorem pf_open {u v : St} {n s b k S R NC NR o : Nat} {B : Nat → Nat} {F : List Nat} {Kc Kr : Nat} (h : PFo u v n s S R NC NR o B F Kc Kr) (hL : TLs u v n s b k) (hk0 : k ≠ 0) (hk1 : k ≠ 1) : ∃ u' v', (o < 30 ∧ fX2_opens u = some (1, u') ∧ fX12_opens v = some (1, v') ∧ PFo u' v' n b S R NC NR (o + 1) B F Kc Kr ∧ s < b ∧ b ≤ n ∧ PY u u' v v' S R NC NR Kc Kr ∧ Fr (fun k i => QK k i || (k == 100 && i == 37)) v v') ∨ (fX2_opens u = some (0, u') ∧ fX12_opens v = some (0, v') ∧ FQf u u' v v' S) := by
  obtain ⟨p3, p4, p5, p6, p7, hn, htn, hRt, hS, hNC⟩ := PF_bits h
  obtain ⟨⟨m, h1⟩, h2, h3, h4, h5⟩ := h
  obtain ⟨u', v', hh⟩ := opens_both hL p7 p5 p6 p3 p4
  refine ⟨u', v', ?_⟩
  have hsb := hL.2.2.2.2.2.2.2.2.2.2.2.1 hk0
  have hbn := hL.2.2.2.2.2.2.2.2.2.2.1
  rcases hh with ⟨a0, a1, a2, a3, a4, a5, a6, a7⟩ | ⟨a1, a2, a3, a4, a5⟩
  · left
    have hSb : 2 * S ≤ 121 + s := by
      rcases h1.2.1 with ⟨q1, q2, _⟩ | ⟨_, _, _, q2, _⟩
      · exact q2
      · exact q2
    refine ⟨a0, a1, a2, ⟨⟨m, ?_⟩, by rw [Fr_I a6 rfl]; exact h2, by rw [Fr_I a7 rfl]; exact h3, by omega, by omega⟩, hsb, hbn, fr_PY a6 a7 (fun k i hk => by simp [PK] at hk; simp [PAf, PA, PT]; omega) (fun k i hk => by simp [QK] at hk; simp [QAf, QA, QT]; omega) (fun k i hk => by simp [PK]; omega) (fun k i hk => by simp [QK]; omega), a7⟩
    obtain ⟨p1, p2, p3, p4, p5, p6, p7, p8, p9, p10, p11, p12, p13, p14, p15, p16, p17, p18⟩ := h1
    have j38 : ∀ x, J u' 38 x = J u 38 x := fun x => Fr_J a6 rfl
    have j119 : ∀ x, J v' 119 x = J v 119 x := fun x => Fr_J a7 rfl
    exact ⟨TXs_fr a6 a7 rfl (fun _ => rfl) rfl (fun _ => rfl) p1, Or.inl ⟨a3, by omega, fun _ _ => by omega⟩, by rw [Fr_I a6 rfl]; exact p3, by rw [Fr_I a7 rfl]; exact p4, a4, a5, by omega, SYT_fr a6 a7 rfl (fun k i hk => by simp [PK]; omega) rfl (fun k i hk => by simp [QK]; omega) p8, by rw [Fr_I a6 rfl]; exact p9, by rw [Fr_I a7 rfl]; exact p10, ⟨by rw [Fr_I a6 rfl]; exact p11.1, fun x hx => by rw [j38]; exact p11.2.1 x hx, fun x x' hx hx' hh => p11.2.2 x x' hx hx' (by rw [j38, j38] at hh; exact hh)⟩, ⟨by rw [Fr_I a7 rfl]; exact p12.1, fun x hx => by rw [j119]; exact p12.2.1 x hx, fun x x' hx hx' hh => p12.2.2 x x' hx hx' (by rw [j119, j119] at hh; exact hh)⟩, by omega, by omega, by omega, FB_fr a6 (fun _ => rfl) (fun _ => rfl) (fun _ => rfl) rfl p16, by rw [Fr_I a7 rfl]; exact p17, fun y hy => by obtain ⟨x, x1, x2⟩ := p18 y hy; exact ⟨x, x1, by rw [j38, j119]; exact x2⟩⟩
  · right
    exact ⟨a1, a2, FQf_fail a3 a4 a5 hS h2 (by omega)⟩
/-- one open token less -/
theorem pf_close {u v : St} {n t S R NC NR o : Nat} {B : Nat → Nat} {F : List Nat} {Kc Kr : Nat} (h : PFo u v n t S R NC NR (o + 1) B F Kc Kr) : PFo (uI u 4 3 (zI o)) (uI v 100 37 (zI o)) n t S R NC NR o B F Kc Kr ∧ (gI u 4 3 - 1 = zI o) ∧ (gI v 100 37 - 1 = zI o) := by
  obtain ⟨p3, p4, p5, p6, p7, _⟩ := PF_bits h
  obtain ⟨⟨m, h1⟩, h2, h3, h4⟩ := h
  have f1 : Fr (fun k i => k == 4 && i == 3) u (uI u 4 3 (zI o)) := Fr_up rfl (Fr_rfl _ _)
  have f2 : Fr (fun k i => k == 100 && i == 37) v (uI v 100 37 (zI o)) := Fr_up rfl (Fr_rfl _ _)
  refine ⟨⟨⟨m, PQ_om f1 f2 (fun k i hk => by simp; omega) (fun k i hk => by simp; omega) (I_uI1 _ _ _ _ (by omega) (by omega)) (I_uI1 _ _ _ _ (by omega) (by omega)) (by rw [Fr_I f2 rfl]; exact h1.2.2.2.2.2.2.2.2.2.2.2.2.2.2.2.2.1) (by omega) h1⟩, by rw [Fr_I f1 rfl]; exact h2, by rw [Fr_I f2 rfl]; exact h3, h4⟩, ?_, ?_⟩
  · rw [gI_z, p5, show (1 : Int32) = zI 1 from rfl, z_sub, show ((o + 1 : Nat) : Int) - 1 = o by omega]
  · rw [gI_z, p6, show (1 : Int32) = zI 1 from rfl, z_sub, show ((o + 1 : Nat) : Int) - 1 = o by omega]
theorem j221_flt (grp : Nat → Int32 → St → Option (Int32 × St)) (u : St) (r : Nat) : ∃ u', fX2_unary_j221 grp (zI r) u = some (zI r, u') ∧ Fr (fun k i => k == 4 && i == 3) u u' := ⟨_, by unfold fX2_unary_j221; rw [lt_e], Fr_up rfl (Fr_rfl _ _)⟩
theorem Pnd_PAf : ∀ k i, Pnd k i = true → PAf k i = true := by intro k i h; simp [PAf, h]
theorem P43_PAf : ∀ k i, (k == 4 && i == 3) = true → PAf k i = true := by intro k i h; simp at h; simp [PAf, PA]; omega
theorem IS_bits {u v : St} {S R NC NR kc lo hi d i j w g h q c : Nat} {occ : List Nat} (hh : IS u v S R NC NR kc lo hi d i j w g h q c occ) : i < kc ∧ lo ≤ j ∧ j < hi ∧ I u 36 i = cw w := by
  cases d with
  | zero => exact hh.elim
  | succ d => exact ⟨hh.1, hh.2.1, hh.2.2.1, hh.2.2.2.1⟩
theorem k114 {k : Nat} (hk : k = 114 ∨ k = 115 ∨ k = 116) : k ≠ 100 ∧ k ≠ 122 := by omega
theorem k33 {k : Nat} (hk : k = 33 ∨ k = 34 ∨ k = 35 ∨ k = 36) : k ≠ 4 := by omega
theorem Qts_PF : ∀ k i, ((k = 100 ∧ (i = 2 ∨ i = 3 ∨ i = 21 ∨ i = 23 ∨ i = 24 ∨ i = 25 ∨ i = 26 ∨ i = 27 ∨ i = 28 ∨ i = 33 ∨ i = 35 ∨ i = 37 ∨ i = 43)) ∨ k = 101 ∨ k = 102 ∨ k = 103 ∨ k = 104 ∨ k = 119) → Qts k i = false := by intro k i hk; simp [Qts]; omega
theorem Qts_PY : ∀ k i, (k = 102 ∨ k = 118 ∨ k = 119 ∨ k = 114 ∨ k = 115 ∨ k = 116 ∨ k = 117) → Qts k i = false := by intro k i hk; simp [Qts]; omega
theorem P43_syt : ∀ k i, (k = 15 ∨ k = 16 ∨ k = 17) → (k == 4 && i == 3) = false := by intro k i hk; simp; omega
theorem Pnd_syt : ∀ k i, (k = 15 ∨ k = 16 ∨ k = 17) → Pnd k i = false := by intro k i hk; simp [Pnd]; omega
theorem q28b : ∀ k i, (k == 114 || k == 115 || k == 116 || (k == 100 && i == 28)) = true → (Qvs k i || k == 114 || k == 115 || k == 116 || (k == 100 && (i == 28 || i == 37))) = true := by intro k i hk; simp at hk; simp; omega
/-- frames of a node that is made -/
def Pn1 : Nat → Nat → Bool := fun k i => Pnd k i || (k == 4 && i == 3)
def Qn1 : Nat → Nat → Bool := fun k i => Qvs k i || k == 114 || k == 115 || k == 116 || (k == 100 && (i == 28 || i == 37 || i == 38))
theorem Pn1_PAf : ∀ k i, Pn1 k i = true → PAf k i = true := by
  intro k i hk
  simp only [Pn1, Bool.or_eq_true] at hk
  rcases hk with hk | hk
  · exact Pnd_PAf k i hk
  · exact P43_PAf k i hk
theorem Qn1_QAf : ∀ k i, Qn1 k i = true → QAf k i = true := by intro k i hk; simp [Qn1, Qvs] at hk; simp [QAf, QA, QT, Qvs, Qts]; omega
theorem q38 : ∀ k i, (k == 100 && i == 38) = true → Qn1 k i = true := by intro k i hk; simp at hk; simp [Qn1]; omega
theorem q37 : ∀ k i, (k == 100 && i == 37) = true → Qn1 k i = true := by intro k i hk; simp at hk; simp [Qn1]; omega
theorem q41 : ∀ k i, (k == 100 && i == 41) = true → Qn1 k i = true := by intro k i hk; simp at hk; simp [Qn1, Qvs]; omega
theorem q28 : ∀ k i, (k == 114 || k == 115 || k == 116 || (k == 100 && i == 28)) = true → Qn1 k i = true := by intro k i hk; simp at hk; simp [Qn1]; omega
theorem qvs : ∀ k i, Qvs k i = true → Qn1 k i = true := by intro k i hk; simp [Qn1, hk]
theorem Pn1_no : ∀ k i, (k = 1 ∨ k = 14 ∨ (k = 2 ∧ i = 3) ∨ k = 15 ∨ k = 16 ∨ k = 17 ∨ (k = 3 ∧ (i = 6 ∨ i = 10 ∨ i = 12)) ∨ k = 37 ∨ k = 38 ∨ k = 39 ∨ k = 40 ∨ k = 41 ∨ (k = 4 ∧ i = 4)) → Pn1 k i = false := by intro k i hk; simp [Pn1, Pnd]; omega
theorem Qn1_no : ∀ k i, ((k = 100 ∧ (i = 2 ∨ i = 3 ∨ i = 21 ∨ i = 23 ∨ i = 24 ∨ i = 25 ∨ i = 26 ∨ i = 27 ∨ i = 33 ∨ i = 35 ∨ i = 43)) ∨ k = 101 ∨ k = 102 ∨ k = 103 ∨ k = 104 ∨ k = 117 ∨ k = 118 ∨ k = 119) → Qn1 k i = false := by intro k i hk; simp [Qn1, Qvs]; omega
theorem cw_cw (w : Nat) : (if cw w < 1000000 then cw w else 1000000) = cw w := by unfold cw; by_cases hw : w < 1000000 <;> simp [hw] <;> omega
/-- a node over one formula -/
theorem mk_not (grp : Nat → Int32 → St → Option (Int32 × St)) {n o : Nat} {u v : St} {t S R NC NR : Nat} {B : Nat → Nat} {F : List Nat} {Kc Kr lo r j dd w g hh q c : Nat} {occ : List Nat} {l : List (Int × Int)} {vs : List Nat} (d3 : PFo u v n t S R NC NR (o + 1) B F Kc Kr) (d4 : TS v ((14, 0) :: l)) (d5 : VS v (j :: vs)) (d14 : IS u v S R NC NR Kc lo Kr dd r j w g hh q c occ) (hK : Kc + 1 ≤ t) (hK2 : Kr + 1 ≤ t) (hlo : lo ≤ Kr) (hl : l.length < 1000) (hvs : vs.length < 1000) : ∃ u' v', (b2 (fX7_add 1 (zI r) 0 u) fun r29 u28 => fX2_unary_j221 grp r29 u28) = some (zI Kc, u') ∧ (∀ G, fX12_formula_L0 (G + 1) 0 v = fX12_formula_L0 G 0 v') ∧ PFo u' v' n t S R NC NR o B F (Kc + 1) (Kr + 1) ∧ TS v' l ∧ VS v' (Kr :: vs) ∧ PY u u' v v' S R NC NR Kc Kr ∧ IS u' v' S R NC NR (Kc + 1) lo (Kr + 1) (dd + 1) Kc Kr w (g + 1) hh q (c + 1) occ := by
  obtain ⟨e3, e4, e5, e6, e7, hn, e8, _, _, _⟩ := PF_bits d3
  obtain ⟨hr, hj1, hj2, hw36⟩ := IS_bits d14
  have h34 := d3.2.1
  have h28 := d3.2.2.1
  obtain ⟨v5, f1, f2, f3⟩ := fm_pop 14 0 d4 (by omega) e4
  have z2 : gI v5 100 37 - 1 = zI o := by rw [gI_z, Fr_I f3 rfl, e6, show (1 : Int32) = zI 1 from rfl, z_sub, show ((o + 1 : Nat) : Int) - 1 = o by omega]
  have F6 : Fr (fun k i => k == 100 && i == 37) v5 (uI v5 100 37 (zI o)) := Fr_up rfl (Fr_rfl _ _)
  have hV6 : VS (uI v5 100 37 (zI o)) (j :: vs) := VS_fr F6 (fun _ => by simp) (by simp) (VS_fr f3 (fun _ => by simp) (by simp) d5)
  obtain ⟨v7, i1, i2, i3⟩ := got_spec _ vs j (by omega) hV6
  have k28 : I v7 100 28 = Kr := by rw [Fr_I i3 rfl, Fr_I F6 rfl, Fr_I f3 rfl]; exact h28
  obtain ⟨v8, m1, m2, m3, m4, m5, m6, m7⟩ := rnode_spec v7 Kr 8 j 0 (by omega) k28 (by decide) (by decide) (by omega) (by omega) (by decide) (by decide)
  obtain ⟨v9, y1, y2, y3⟩ := give_spec v8 vs Kr (by omega) (VS_fr m7 (fun _ => by simp) (by simp) i2) (by omega)
  have hcw := cw_rng w
  obtain ⟨u5, n1, n2, n3, n4, n5, n6, n7, n8⟩ := cnode_gen u Kc 1 r 0 (cw w) (by omega) h34 (by decide) (by decide) (by omega) (by omega) (by decide) (by decide) (by omega) (by omega) (fun w2 hw2 => wgh_not u r 0 (cw w) (by omega) hw36 w2 hw2)
  have z1 : gI u5 4 3 - 1 = zI o := by rw [gI_z, Fr_I n8 rfl, e5, show (1 : Int32) = zI 1 from rfl, z_sub, show ((o + 1 : Nat) : Int) - 1 = o by omega]
  have Fu : Fr Pn1 u (uI u5 4 3 (zI o)) := Fr_up rfl (Fr_up2 (fun k i hk => by simp [Pn1, hk]) n8)
  have Fv1 : Fr Qn1 v5 v9 := Fr_tr (Fr_up2 q37 F6) (Fr_tr (Fr_up2 q41 i3) (Fr_tr (Fr_up2 q28 m7) (Fr_up2 qvs y3)))
  have Fv : Fr Qn1 v v9 := Fr_tr (Fr_up2 q38 f3) Fv1
  have hZ : PZ u (uI u5 4 3 (zI o)) v v9 S R NC NR := PZ_fr Fu Fv (fun k i hk => Pn1_no k i (by omega)) (fun k i hk => Qn1_no k i (by omega))
  have o115 : ∀ k i, i ≠ Kr → (k = 114 ∨ k = 115 ∨ k = 116) → I v9 k i = I v k i := fun k i hi hk => by
    have hk100 := k114 hk
    rw [Fr_I y3 (by simp [Qvs, hk100]), m6 k i hi hk, Fr_I i3 (by simp [hk100]), Fr_I F6 (by simp [hk100]), Fr_I f3 (by simp [hk100])]
  have o117 : ∀ i, J v9 117 i = J v 117 i := fun i => Fr_J Fv (Qn1_no 117 i (by simp))
  have p33 : ∀ k i, (k = 33 ∨ k = 34 ∨ k = 35 ∨ k = 36) → I (uI u5 4 3 (zI o)) k i = I u5 k i := fun k i hk => I_uI3 _ _ _ _ _ _ (k33 hk)
  have o33 : ∀ k i, i ≠ Kc → (k = 33 ∨ k = 34 ∨ k = 35 ∨ k = 36) → I (uI u5 4 3 (zI o)) k i = I u k i := fun k i hi hk => by rw [p33 k i hk, n7 k i hi hk]
  have hPF9 : PFo (uI u5 4 3 (zI o)) v9 n t S R NC NR o B F (Kc + 1) (Kr + 1) := PF_gen Fu Fv (fun k i hk => Pn1_no k i (by omega)) (fun k i hk => Qn1_no k i (by omega)) (I_uI1 _ _ _ _ (by omega) (by omega)) (by rw [Fr_I y3 rfl, Fr_I m7 (by simp), Fr_I i3 rfl]; exact I_uI1 _ _ _ _ (by omega) (by omega)) (by omega) (by rw [I_uI3 _ _ _ _ _ _ (by decide)]; exact n2) (by rw [Fr_I y3 rfl]; exact m2) hK hK2 d3
  have hTS : TS v9 l := TS_fr (Q := fun k i => Qvs k i || k == 114 || k == 115 || k == 116 || (k == 100 && (i == 28 || i == 37))) (Fr_tr (Fr_up2 (fun k i hk => by simp at hk; simp [hk]) F6) (Fr_tr (Fr_up2 (fun k i hk => by simp at hk; simp [Qvs, hk]) i3) (Fr_tr (Fr_up2 q28b m7) (Fr_up2 (fun k i hk => by simp [hk]) y3)))) (fun _ => by simp [Qvs]) (fun _ => by simp [Qvs]) (by simp [Qvs]) f2
  refine ⟨uI u5 4 3 (zI o), v9, ?_, fun G => ?_, hPF9, hTS, y2, ⟨hZ, fun k i hi hk => o33 k i (Nat.ne_of_lt hi) hk, fun k j hj hk => o115 k j (Nat.ne_of_lt hj) hk, fun j _ => o117 j, Fr_up2 Pn1_PAf Fu, Fr_up2 Qn1_QAf Fv⟩, ⟨Nat.lt_succ_self _, hlo, Nat.lt_succ_self _, by rw [p33 36 _ (by simp), n6]; exact cw_cw w, Or.inr (Or.inl ⟨r, j, c, g, by rw [p33 33 _ (by simp)]; exact n3, by rw [Fr_I y3 (by simp [Qvs])]; exact m3, by rw [p33 34 _ (by simp)]; exact n4, by rw [Fr_I y3 (by simp [Qvs])]; exact m4, rfl, rfl, IS_mono (Nat.le_refl _) (Nat.le_refl _) (Nat.le_refl _) (Nat.le_refl _) (Nat.le_succ _) (Nat.le_refl _) (Nat.le_succ _) hZ (fun k i hi hk => o33 k i (Nat.ne_of_lt hi) hk) (fun k i _ hi hk => o115 k i (Nat.ne_of_lt hi) hk) (fun i _ _ => o117 i) dd _ _ _ _ _ _ _ _ d14⟩)⟩⟩
  · rw [show (1 : Int32) = zI 1 from rfl, show (0 : Int32) = zI 0 from rfl, n1, b2_s]
    unfold fX2_unary_j221
    rw [z1, lt_e]
  · rw [f1, rt14, z2, lt_e, i1, b2_s, show (8 : Int32) = zI 8 from rfl, show (0 : Int32) = zI 0 from rfl, m1, b2_s, y1, bd_s, bd_s]
theorem BDf_not {o s b t w g h q c e lv : Nat} (ho : o < 30) (hs : s < b) (hb : b ≤ t) (hd : BDf (o + 1) 0 (t - b) w g h q c e) : BDf o lv (t - s) w (g + 1) h q (c + 1) e := by
  obtain ⟨x1, x2, x3, x4, x5, x6, x7, x8⟩ := hd
  refine ⟨x1, by omega, by omega, x4, by omega, by omega, ?_, p2_lt (by omega) (by decide) x8⟩
  have hk : (124 - 4 * o) = (124 - 4 * (o + 1)) + 4 := by omega
  rw [hk, Nat.add_mul]; omega
/-- a formula behind ~ -/
theorem un_not {grp : Nat → Int32 → St → Option (Int32 × St)} {n o : Nat} (hG : o < 30 → GU grp n (o + 1)) {u v : St} {s b S R NC NR : Nat} {B : Nat → Nat} {F : List Nat} {Kc Kr : Nat} {l : List (Int × Int)} {vs : List Nat} (h : PFo u v n s S R NC NR o B F Kc Kr) (hL : TLs u v n s b 8) (hBo : ∀ x, B x ≤ o) (hT : TS v l) (hV : VS v vs) (hl : l.length ≤ 10 * o + 9) (hvs : vs.length ≤ 10 * o + 9) : ∃ (u' : St) (r : Nat), fX2_unary_j89 grp (zI 9) 0 u = some (zI r, u') ∧ FMx (fun G => bd (b2 (fX12_opens v) fun r37 u36 => if r37 = 0 then (some u36) else bd (fX12_push 14 0 u36) fun u39 => bd (fX12_push 13 0 u39) fun u40 => some u40) fun w => fX12_formula_L0 G 0 w) u u' v r n s S R NC NR o B F Kc Kr l vs 0 0 31 := by
  obtain ⟨p3, p4, p5, p6, p7, hn, htn, hRt, hS, hNC⟩ := PF_bits h
  have hKc := h.2.2.2.1
  have hKr := h.2.2.2.2
  obtain ⟨u1, v1, hh⟩ := pf_open h hL (by decide) (by decide)
  have hop : ∀ r w, fX2_opens u = some (r, w) → fX2_unary_j89 grp (zI 9) 0 u = if r = 0 then (some (0, w)) else (b2 (grp 1 0 w) fun r27 u26 => b2 (fX7_add 1 r27 0 u26) fun r29 u28 => fX2_unary_j221 grp r29 u28) := by
    intro r w hr
    unfold fX2_unary_j89
    rw [hr, b2_s]
    by_cases h0 : r = 0
    · rw [if_pos h0, if_pos h0]
    · rw [if_neg h0, if_neg h0, if_pos (by rfl)]
  rcases hh with ⟨a0, a1, a2, a3, a4, a45, a5, a6⟩ | ⟨a1, a2, a3⟩
  · have hT1 : TS v1 l := TS_fr a6 (fun _ => by simp [QK]) (fun _ => by simp [QK]) (by simp [QK]) hT
    have hV1 : VS v1 vs := VS_fr a6 (fun _ => by simp [QK]) (by simp [QK]) hV
    obtain ⟨v2, b1, b2', b3⟩ := rpush_spec v1 l 14 0 (by omega) hT1 (by decide) (by decide) (by decide) (by decide)
    obtain ⟨v3, c1, c2, c3⟩ := rpush_spec v2 ((14, 0) :: l) 13 0 (by simp only [List.length_cons]; omega) b2' (by decide) (by decide) (by decide) (by decide)
    have F13 : Fr Qts v1 v3 := Fr_tr b3 c3
    have hPF3 : PFo u1 v3 n b S R NC NR (o + 1) B F Kc Kr := PF_fr (Fr_rfl (fun _ _ => false) u1) F13 (fun _ _ _ => rfl) Qts_PF a3
    have hY3 : PY u u1 v v3 S R NC NR Kc Kr := PY_tr (Nat.le_refl _) (Nat.le_refl _) (Nat.le_refl _) (Nat.le_refl _) (Nat.le_refl _) (Nat.le_refl _) a5 (fr_PY (Fr_rfl (fun _ _ => false) u1) F13 (fun _ _ hk => by simp at hk) (fun k i hk => by simp [QAf, hk]) (fun _ _ _ => rfl) Qts_PY)
    have hV3 : VS v3 vs := VS_fr F13 (fun _ => by simp [Qts]) (by simp [Qts]) hV1
    obtain ⟨u4, r4, g1, g2⟩ := hG a0 u1 v3 b S R NC NR B F Kc Kr ((14, 0) :: l) vs hPF3 (fun x => by have := hBo x; omega) c2 hV3 (by simp only [List.length_cons]; omega) (by omega)
    have href : ∀ G, (bd (b2 (fX12_opens v) fun r37 u36 => if r37 = 0 then (some u36) else bd (fX12_push 14 0 u36) fun u39 => bd (fX12_push 13 0 u39) fun u40 => some u40) fun w => fX12_formula_L0 G 0 w) = fX12_formula_L0 G 0 v3 := by
      intro G
      have b1' : fX12_push 14 0 v1 = some v2 := b1
      have c1' : fX12_push 13 0 v2 = some v3 := c1
      rw [a2, b2_s, if_neg (by decide), b1', bd_s, c1', bd_s, bd_s]
    rcases g2 with ⟨v4, N, t', S', R', NC', NR', F', Kc', Kr', j, dd, w, g, hh, q, c, e, occ, d1, d2, d3, d4, d5, d6, d7, d8, d9, d10, d11, d12, d13, d13b, d14, d15, d16, d17⟩ | ⟨v4, N, d1, d2, d3, d4⟩
    · clear d17
      obtain ⟨u5, v5, q1, q2, q3, q4, q5, q6, q7⟩ := mk_not grp d3 d4 d5 d14 (by clear d16; omega) (by clear d16; omega) d13 (by clear d16; omega) (by clear d16; omega)
      refine ⟨u5, Kc', ?_, Or.inl ⟨v5, N + 1, t', S', R', NC', NR', F', Kc' + 1, Kr' + 1, Kr', dd + 1, w, g + 1, hh, q, c + 1, e, occ, by clear d16; omega, fun G => ?_, q3, q4, q5, PY_tr d8 d9 d10 d11 d12 d13 (PY_tr (Nat.le_refl _) (Nat.le_refl _) (Nat.le_refl _) (Nat.le_refl _) (Nat.le_refl _) (Nat.le_refl _) hY3 d6) q6, by clear d16; omega, d8, d9, d10, d11, by clear d16; omega, by clear d16; omega, by clear d16; omega, q7, d15, BDf_not a0 a4 (Nat.le_of_lt d7) d16, fun hh => absurd rfl hh⟩⟩
      · rw [hop 1 u1 a1, if_neg (by decide), g1, b2_s]; exact q1
      · show (bd (b2 (fX12_opens v) fun r37 u36 => if r37 = 0 then (some u36) else bd (fX12_push 14 0 u36) fun u39 => bd (fX12_push 13 0 u39) fun u40 => some u40) fun w => fX12_formula_L0 (G + (N + 1)) 0 w) = _
        have d2' : ∀ G, fX12_formula_L0 (G + N) 0 v3 = fX12_formula_L0 G 0 v4 := d2
        rw [href, show G + (N + 1) = (G + 1) + N by omega, d2', q2]
    · -- a fault inside
      obtain ⟨u5, r5, n1, n2, n3, n4, n5⟩ := cnode_flt u4 1 (zI r4) 0 r4 0 (Or.inr (Or.inl ⟨rfl, rfl, d4⟩)) d3.2.2.2.1 d3.2.2.2.2.1
      obtain ⟨u6, m1, m2⟩ := j221_flt grp u5 r5
      refine ⟨u6, r5, ?_, Or.inr ⟨v4, N, by omega, fun G => ?_, FQf_tr (Nat.le_refl _) hY3 (FQf_cls m2 P43_PAf P43_syt (by decide) ⟨rfl, rfl⟩ (by rw [Fr_I m2 rfl]; exact ⟨n3, n4⟩) (FQf_cls n5 Pnd_PAf Pnd_syt rfl ⟨rfl, rfl⟩ ⟨n3, n4⟩ d3)), n2⟩⟩
      · rw [hop 1 u1 a1, if_neg (by decide), g1, b2_s]
        have n1' : fX7_add 1 (zI r4) 0 u4 = some (zI r5, u5) := n1
        rw [n1', b2_s]; exact m1
      · show (bd (b2 (fX12_opens v) fun r37 u36 => if r37 = 0 then (some u36) else bd (fX12_push 14 0 u36) fun u39 => bd (fX12_push 13 0 u39) fun u40 => some u40) fun w => fX12_formula_L0 (G + N) 0 w) = _
        rw [href]; exact d2 G
  · refine ⟨u1, 0, by rw [hop 0 u1 a1, if_pos rfl]; rfl, Or.inr ⟨v1, 1, by omega, fun G => ?_, a3, by decide⟩⟩
    show (bd (b2 (fX12_opens v) fun r37 u36 => if r37 = 0 then (some u36) else bd (fX12_push 14 0 u36) fun u39 => bd (fX12_push 13 0 u39) fun u40 => some u40) fun w => fX12_formula_L0 (G + 1) 0 w) = _
    rw [a2, b2_s, if_pos rfl, bd_s]
    exact fm_flt G v1 (FLT_ne a3.1).2.1
