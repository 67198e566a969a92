/-! reading: brackets -/
theorem uI_comm (v : St) (k i k' i' : Nat) (x y : Int32) (h : ¬ (k = k' ∧ i = i')) : uI (uI v k i x) k' i' y = uI (uI v k' i' y) k i x := by
  have e : (uI (uI v k i x) k' i' y).1 = (uI (uI v k' i' y) k i x).1 := by
    funext a b
    unfold uI va_up
    by_cases h1 : a = k
    · subst h1
      by_cases h2 : a = k'
      · subst h2
        have hne : i ≠ i' := fun hh => h ⟨rfl, hh⟩
        by_cases h3 : b = i
        · subst h3; simp [hne]
        · simp [h3]
      · simp [h2]
    · by_cases h2 : a = k'
      · subst h2; simp [h1]
      · simp [h1, h2]
  exact Prod.ext e rfl
/-- a token is asked for, formulas -/
theorem pf_want {u v : St} {n t S R NC NR o : Nat} {B : Nat → Nat} {F : List Nat} {Kc Kr : Nat} (kr : Nat) (hk1 : 2 ≤ kr) (hk2 : kr ≤ 14) (h : PFo u v n t S R NC NR o B F Kc Kr) : ∃ u' v', (∃ s b : Nat, fX2_want (zI ((kr + 1 : Nat) : Int)) u = some (1, u') ∧ fX12_must (zI kr) v = some (1, v') ∧ PFo u' v' n b S R NC NR o B F Kc Kr ∧ t ≤ s ∧ s < b ∧ b ≤ n ∧ PY u u' v v' S R NC NR Kc Kr ∧ Fr QA v v') ∨ (fX2_want (zI ((kr + 1 : Nat) : Int)) u = some (0, u') ∧ fX12_must (zI kr) v = some (0, v') ∧ FQf u u' v v' S) := by
  obtain ⟨p3, p4, p5, p6, p7, hn, htn, hRt, hS, hNC⟩ := PF_bits h
  have h34 := h.2.1
  have hKc := h.2.2.2.1
  obtain ⟨u1, v1, hh⟩ := pf_next h
  rcases hh with ⟨s, b, k, a1, a2, a3, a4, a5, a6, a7, a8⟩ | ⟨a1, a2, a3⟩
  · have hk14 := a3.2.2.2.2.2.2.2.2.1
    have hbn := a3.2.2.2.2.2.2.2.2.2.2.1
    obtain ⟨⟨m, q1⟩, q2, q3, q4, q5⟩ := a6
    by_cases hk : k = kr
    · subst hk
      obtain ⟨u2, v2, t1, t2, t3, t4, t5, t6, t7, t8⟩ := px_take q1 a3 (by omega)
      refine ⟨u2, v2, Or.inl ⟨s, b, ?_, ?_, ⟨⟨m, t5 (by omega)⟩, by rw [Fr_I t6 rfl]; exact q2, by rw [Fr_I t7 rfl]; exact q3, by omega, by omega⟩, a5, t4, hbn, PY_tr (Nat.le_refl _) (Nat.le_refl _) (Nat.le_refl _) (Nat.le_refl _) (Nat.le_refl _) (Nat.le_refl _) a7 (PX_PY t8), Fr_tr a8 t8.2.2.2.2.2.2⟩⟩
      · unfold fX2_want; rw [a1, b2_s, if_pos rfl, t1, bd_s]
      · unfold fX12_must; rw [a2, b2_s, if_pos rfl, t2, bd_s]
    · have l3 := a3.2.2.1
      have l4 := a3.2.2.2.1
      obtain ⟨u2, v2, t1, t2, t3, t4, t5⟩ := fail_both 2 s (by decide) (by decide) (by omega) (by have := I_hi u1 1 2; omega) q1.2.2.1 q1.2.2.2.1
      refine ⟨u2, v2, Or.inr ⟨?_, ?_, FQf_tr (Nat.le_refl _) a7 (FQf_fail t3 t4 t5 q1.2.2.2.2.2.2.2.1 q2 (by omega))⟩⟩
      · unfold fX2_want; rw [a1, b2_s, if_neg (by rw [z_eq (by omega) (by omega) (by omega) (by omega)]; omega), gI_z u1 1 2, l3, show (2 : Int32) = zI 2 from rfl, t1, bd_s]
      · unfold fX12_must; rw [a2, b2_s, if_neg (by rw [z_eq (by omega) (by omega) (by omega) (by omega)]; omega), gI_z v1 100 26, l4, show (2 : Int32) = zI 2 from rfl, t2, bd_s]
  · have hne := FLT_ne a3.1
    refine ⟨u1, v1, Or.inr ⟨?_, ?_, a3⟩⟩
    · unfold fX2_want; rw [a1, b2_s, if_neg (by rw [z_eq (by decide) (by decide) (by omega) (by omega)]; omega), cfail_1 u1 _ _ hne.1, bd_s]
    · unfold fX12_must; rw [a2, b2_s, if_neg (by rw [z_eq (by decide) (by decide) (by omega) (by omega)]; omega)]
      unfold fX12_fail
      rw [gI_z v1 100 21, if_neg (by rw [z_zero, z_eq (I_lo _ _ _) (I_hi _ _ _) (by decide) (by decide)]; exact hne.2.2), bd_s]
theorem must_flt (v : St) (k : Int) (hk : zI k ≠ zI (-1)) (h : ¬ I v 100 21 ≤ 0) : fX12_must (zI k) v = some (0, v) := by
  have hl := I_lo v 100 21
  have hh := I_hi v 100 21
  unfold fX12_must fX12_look fX12_fail
  rw [gI_z v 100 21, if_neg (show ¬ zI (I v 100 21) ≤ 0 by rw [z_zero, z_le hl hh (by decide) (by decide)]; exact h), b2_s, if_neg (show ¬ ((-1 : Int32) = zI k) from fun e => hk e.symm), if_neg (by rw [gI_z, z_zero, z_eq hl hh (by decide) (by decide)]; omega), bd_s]
theorem BDf_par {o s b t t' w g h q c e lv : Nat} (ho : o < 30) (hs : s < b) (hb : b ≤ t) (ht : t ≤ t') (hd : BDf (o + 1) 2 (t - b) w g h q c e) : BDf o lv (t' - s) w g h q c e := by
  obtain ⟨x1, x2, x3, x4, x5, x6, x7, x8⟩ := hd
  refine ⟨x1, by omega, by omega, x4, by omega, by omega, ?_, p2_le (by omega) x8⟩
  have hk : (124 - 4 * o) = (124 - 4 * (o + 1)) + 4 := by omega
  rw [hk, Nat.add_mul]; omega
/-- the bracket is shut -/
theorem mk_par (grp : Nat → Int32 → St → Option (Int32 × St)) {n o : Nat} {u v : St} {t S R NC NR : Nat} {B : Nat → Nat} {F : List Nat} {Kc Kr lo r j dd w g hh q c : Nat} {occ : List Nat} {l : List (Int × Int)} {vs : List Nat} (d3 : PFo u v n t S R NC NR (o + 1) B F Kc Kr) (d4 : TS v ((16, 0) :: l)) (d5 : VS v (j :: vs)) (d14 : IS u v S R NC NR Kc lo Kr dd r j w g hh q c occ) (hl : l.length < 1000) (hL : ∃ b k, TLs u v n t b k) : ∃ u' v', (∃ b, t < b ∧ b ≤ n ∧ (b2 (fX2_want 5 u) fun r25 u24 => fX2_unary_j221 grp (zI r) u24) = some (zI r, u') ∧ (∀ G, fX12_formula_L0 (G + 1) 0 v = fX12_formula_L0 G 0 v') ∧ PFo u' v' n b S R NC NR o B F Kc Kr ∧ TS v' l ∧ VS v' (j :: vs) ∧ PY u u' v v' S R NC NR Kc Kr ∧ IS u' v' S R NC NR Kc lo Kr dd r j w g hh q c occ) ∨ ((b2 (fX2_want 5 u) fun r25 u24 => fX2_unary_j221 grp (zI r) u24) = some (zI r, u') ∧ (∀ G, fX12_formula_L0 (G + 2) 0 v = some (0, v')) ∧ FQf u u' v v' S) := by
  obtain ⟨e3, e4, e5, e6, e7, hn, e8, _, hSS, _⟩ := PF_bits d3
  obtain ⟨b, k, hL⟩ := hL
  have hk14 := hL.2.2.2.2.2.2.2.2.1
  have hbn := hL.2.2.2.2.2.2.2.2.2.2.1
  have h34 := d3.2.1
  have hKc := d3.2.2.2.1
  obtain ⟨v5, f1, f2, f3⟩ := fm_pop 16 0 d4 (by omega) e4
  have hL5 : TLs u v5 n t b k := TLs_fr (Fr_rfl (fun _ _ => false) u) f3 (fun _ => rfl) (fun _ => rfl) (fun i hi => by simp; omega) hL
  have F6 : Fr (fun k i => k == 100 && i == 37) v5 (uI v5 100 37 (zI o)) := Fr_up rfl (Fr_rfl _ _)
  have hL6 : TLs u (uI v5 100 37 (zI o)) n t b k := TLs_fr (Fr_rfl (fun _ _ => false) u) F6 (fun _ => rfl) (fun _ => rfl) (fun i hi => by simp; omega) hL5
  have z2 : gI v5 100 37 - 1 = zI o := by rw [gI_z, Fr_I f3 rfl, e6, show (1 : Int32) = zI 1 from rfl, z_sub, show ((o + 1 : Nat) : Int) - 1 = o by omega]
  have g4 : I (uI v5 100 37 (zI o)) 100 21 = 0 := by rw [Fr_I F6 rfl, Fr_I f3 rfl]; exact e4
  obtain ⟨nx, _⟩ := next_same hL e3 e4
  obtain ⟨_, lk⟩ := next_same hL6 e3 g4
  by_cases hk : k = 4
  · subst hk
    have d3' : PFo u v5 n t S R NC NR (o + 1) B F Kc Kr := PF_fr (Fr_rfl (fun _ _ => false) u) f3 (fun _ _ _ => rfl) (fun k i hk => by simp; omega) d3
    obtain ⟨⟨m, q1⟩, q2, q3, q4, q5⟩ := d3'
    obtain ⟨u2, v2, t1, t2, t3, t4, t5, t6, t7, t8⟩ := px_take q1 hL5 (by decide)
    have hv2 : v2 = uI v5 100 24 (zI 0) := by unfold fX12_take at t2; rw [lt_e] at t2; exact (Option.some.inj t2).symm
    have htk : fX12_take (uI v5 100 37 (zI o)) = some (uI v2 100 37 (zI o)) := by
      unfold fX12_take
      rw [lt_e, hv2, show (0 : Int32) = zI 0 from rfl, uI_comm v5 100 37 100 24 (zI o) (zI 0) (by omega)]
    have z1 : gI u2 4 3 - 1 = zI o := by rw [gI_z, Fr_I t6 rfl, e5, show (1 : Int32) = zI 1 from rfl, z_sub, show ((o + 1 : Nat) : Int) - 1 = o by omega]
    have Fc : Fr (fun k i => k == 4 && i == 3) u2 (uI u2 4 3 (zI o)) := Fr_up rfl (Fr_rfl _ _)
    have Fd : Fr (fun k i => k == 100 && i == 37) v2 (uI v2 100 37 (zI o)) := Fr_up rfl (Fr_rfl _ _)
    have hPF : PFo (uI u2 4 3 (zI o)) (uI v2 100 37 (zI o)) n b S R NC NR o B F Kc Kr := PF_gen Fc Fd (fun k i hk => by simp; omega) (fun k i hk => by simp; omega) (I_uI1 _ _ _ _ (by omega) (by omega)) (I_uI1 _ _ _ _ (by omega) (by omega)) (by omega) (by rw [Fr_I Fc rfl, Fr_I t6 rfl]; exact q2) (by rw [Fr_I Fd rfl, Fr_I t7 rfl]; exact q3) (by omega) (by omega) (⟨⟨m, t5 (by decide)⟩, by rw [Fr_I t6 rfl]; exact q2, by rw [Fr_I t7 rfl]; exact q3, by omega, by omega⟩ : PFo u2 v2 n b S R NC NR (o + 1) B F Kc Kr)
    have Fv : Fr (fun k i => k == 100 && (i == 24 || i == 37 || i == 38)) v (uI v2 100 37 (zI o)) := Fr_tr (Fr_up2 (fun k i hk => by simp at hk; simp [hk]) f3) (Fr_tr (Fr_up2 (fun k i hk => by simp [QK] at hk; simp [hk]) t7) (Fr_up2 (fun k i hk => by simp at hk; simp [hk]) Fd))
    have Fu : Fr (fun k i => (k == 1 && i == 6) || (k == 4 && i == 3)) u (uI u2 4 3 (zI o)) := Fr_tr (Fr_up2 (fun k i hk => by simp [PK] at hk; simp [hk]) t6) (Fr_up2 (fun k i hk => by simp at hk; simp [hk]) Fc)
    have hY : PY u (uI u2 4 3 (zI o)) v (uI v2 100 37 (zI o)) S R NC NR Kc Kr := fr_PY Fu Fv (fun k i hk => by simp at hk; simp [PAf, PA, PT]; omega) (fun k i hk => by simp at hk; simp [QAf, QA, QT, Qts]; omega) (fun k i hk => by simp; omega) (fun k i hk => by simp; omega)
    refine ⟨uI u2 4 3 (zI o), uI v2 100 37 (zI o), Or.inl ⟨b, t4, hbn, ?_, fun G => ?_, hPF, TS_fr (Q := fun k i => k == 100 && (i == 24 || i == 37)) (Fr_tr (Fr_up2 (fun k i hk => by simp [QK] at hk; simp [hk]) t7) (Fr_up2 (fun k i hk => by simp at hk; simp [hk]) Fd)) (fun _ => by simp) (fun _ => by simp) (by simp) f2, VS_fr Fv (fun _ => by simp) (by simp) d5, hY, IS_mono (Nat.le_refl _) (Nat.le_refl _) (Nat.le_refl _) (Nat.le_refl _) (Nat.le_refl _) (Nat.le_refl _) (Nat.le_refl _) hY.1 (fun k i hi hk => hY.2.1 k i hi hk) (fun k i _ hi hk => hY.2.2.1 k i hi hk) (fun i _ hi => hY.2.2.2.1 i hi) dd _ _ _ _ _ _ _ _ d14⟩⟩
    · unfold fX2_want
      rw [nx, b2_s, if_pos (by rfl), t1, bd_s, b2_s]
      unfold fX2_unary_j221
      rw [z1, lt_e]
    · rw [f1, rt16, z2, lt_e]
      unfold fX12_must
      rw [lk, b2_s, if_pos (by rfl), htk, bd_s, b2_s, bd_s]
  · have l3 := hL.2.2.1
    have l4 := hL6.2.2.2.1
    obtain ⟨u2, v2, t1, t2, t3, t4, t5⟩ := fail_both (v := uI v5 100 37 (zI o)) 2 t (by decide) (by decide) (by omega) (by have := I_hi u 1 2; omega) e3 g4
    obtain ⟨u3, m1, m2⟩ := j221_flt grp u2 r
    have Fz : Fr (fun k i => k == 100 && (i == 21 || i == 22 || i == 37 || i == 38)) v v2 := Fr_tr (Fr_up2 (fun k i hk => by simp at hk; simp [hk]) f3) (Fr_tr (Fr_up2 (fun k i hk => by simp at hk; simp [hk]) F6) (Fr_up2 (fun k i hk => by simp at hk; simp; omega) t5))
    have hFQ : FQf u u2 v v2 S := ⟨t3, ⟨S, Nat.le_refl _, SYT_fr t4 Fz rfl (fun k i hk => by simp; omega) rfl (fun k i hk => by simp; omega) hSS⟩, SKp_fr t4 Fz (fun k i hk => by simp; omega) (fun i => by simp), by rw [Fr_I t4 rfl, h34]; omega, by rw [Fr_I t4 rfl, h34]; omega, Fr_up2 (fun k i hk => by simp at hk; simp [PAf, PA]; omega) t4, Fr_up2 (fun k i hk => by simp at hk; simp [QAf, QA, QT, Qts]; omega) Fz⟩
    refine ⟨u3, v2, Or.inr ⟨?_, fun G => ?_, FQf_cls m2 P43_PAf P43_syt (by decide) ⟨rfl, rfl⟩ (by rw [Fr_I m2 rfl]; exact ⟨hFQ.2.2.2.1, hFQ.2.2.2.2.1⟩) hFQ⟩⟩
    · unfold fX2_want
      rw [nx, b2_s, if_neg (by rw [z_lit, z_eq (by omega) (by omega) (by decide) (by decide)]; omega), gI_z u 1 2, l3, show (2 : Int32) = zI 2 from rfl, t1, bd_s, b2_s]
      exact m1
    · rw [f1 (G + 1), rt16, z2, lt_e]
      unfold fX12_must
      rw [lk, b2_s, if_neg (by rw [z_lit, z_eq (by omega) (by omega) (by decide) (by decide)]; omega), gI_z _ 100 26, l4, show (2 : Int32) = zI 2 from rfl, t2, bd_s, b2_s, bd_s]
      exact fm_flt G v2 (FLT_ne t3).2.1
/-- a formula in brackets -/
theorem un_par {grp : Nat → Int32 → St → Option (Int32 × St)} {n o : Nat} (hG : o < 30 → GC grp n (o + 1) 0) {u v : St} {s b S R NC NR : Nat} {B : Nat → Nat} {F : List Nat} {Kc Kr : Nat} {l : List (Int × Int)} {vs : List Nat} (h : PFo u v n s S R NC NR o B F Kc Kr) (hL : TLs u v n s b 3) (hBo : ∀ x, B x ≤ o) (hT : TS v l) (hV : VS v vs) (hl : l.length ≤ 10 * o + 9) (hvs : vs.length ≤ 10 * o + 9) : ∃ (u' : St) (r : Nat), fX2_unary_j89 grp (zI 4) 0 u = some (zI r, u') ∧ FMx (fun G => bd (b2 (fX12_opens v) fun r32 u31 => if r32 = 0 then (some u31) else bd (fX12_push 16 0 u31) fun u34 => bd (fX12_push 1 0 u34) fun u35 => some u35) fun w => fX12_formula_L0 G 0 w) u u' v r n s S R NC NR o B F Kc Kr l vs 0 0 31 := by
  obtain ⟨p3, p4, p5, p6, p7, hn, htn, hRt, hS, hNC⟩ := PF_bits h
  have hKc := h.2.2.2.1
  have hKr := h.2.2.2.2
  obtain ⟨u1, v1, hh⟩ := pf_open h hL (by decide) (by decide)
  have hop : ∀ r w, fX2_opens u = some (r, w) → fX2_unary_j89 grp (zI 4) 0 u = if r = 0 then (some (0, w)) else (b2 (grp 0 0 w) fun r23 u22 => b2 (fX2_want 5 u22) fun r25 u24 => fX2_unary_j221 grp r23 u24) := by
    intro r w hr
    unfold fX2_unary_j89
    rw [hr, b2_s]
    by_cases h0 : r = 0
    · rw [if_pos h0, if_pos h0]
    · rw [if_neg h0, if_neg h0, if_neg (by decide), if_pos (by rfl)]
  rcases hh with ⟨a0, a1, a2, a3, a4, a45, a5, a6⟩ | ⟨a1, a2, a3⟩
  · have hT1 : TS v1 l := TS_fr a6 (fun _ => by simp [QK]) (fun _ => by simp [QK]) (by simp [QK]) hT
    have hV1 : VS v1 vs := VS_fr a6 (fun _ => by simp [QK]) (by simp [QK]) hV
    obtain ⟨v2, b1, b2', b3⟩ := rpush_spec v1 l 16 0 (by omega) hT1 (by decide) (by decide) (by decide) (by decide)
    obtain ⟨v3, c1, c2, c3⟩ := rpush_spec v2 ((16, 0) :: l) 1 0 (by simp only [List.length_cons]; omega) b2' (by decide) (by decide) (by decide) (by decide)
    have F13 : Fr Qts v1 v3 := Fr_tr b3 c3
    have hPF3 : PFo u1 v3 n b S R NC NR (o + 1) B F Kc Kr := PF_fr (Fr_rfl (fun _ _ => false) u1) F13 (fun _ _ _ => rfl) Qts_PF a3
    have hY3 : PY u u1 v v3 S R NC NR Kc Kr := PY_tr (Nat.le_refl _) (Nat.le_refl _) (Nat.le_refl _) (Nat.le_refl _) (Nat.le_refl _) (Nat.le_refl _) a5 (fr_PY (Fr_rfl (fun _ _ => false) u1) F13 (fun _ _ hk => by simp at hk) (fun k i hk => by simp [QAf, hk]) (fun _ _ _ => rfl) Qts_PY)
    have hV3 : VS v3 vs := VS_fr F13 (fun _ => by simp [Qts]) (by simp [Qts]) hV1
    obtain ⟨u4, r4, g1, g2⟩ := hG a0 u1 v3 b S R NC NR B F Kc Kr ((16, 0) :: l) vs hPF3 (fun x => by have := hBo x; omega) c2 hV3 (by simp only [List.length_cons]; omega) (by omega)
    have href : ∀ G, (bd (b2 (fX12_opens v) fun r32 u31 => if r32 = 0 then (some u31) else bd (fX12_push 16 0 u31) fun u34 => bd (fX12_push 1 0 u34) fun u35 => some u35) fun w => fX12_formula_L0 G 0 w) = fX12_formula_L0 G 0 v3 := by
      intro G
      have b1' : fX12_push 16 0 v1 = some v2 := b1
      have c1' : fX12_push 1 0 v2 = some v3 := c1
      rw [a2, b2_s, if_neg (by decide), b1', bd_s, c1', bd_s, bd_s]
    have g1' : grp 0 0 u1 = some (zI r4, u4) := g1
    rcases g2 with ⟨v4, N, t', S', R', NC', NR', F', Kc', Kr', j, dd, w, g, hh, q, c, e, occ, d1, d2, d3, d4, d5, d6, d7, d8, d9, d10, d11, d12, d13, d13b, d14, d15, d16, d17⟩ | ⟨v4, N, d1, d2, d3, d4⟩
    · have d2' : ∀ G, fX12_formula_L0 (G + N) 0 v3 = fX12_formula_L0 G 0 v4 := d2
      obtain ⟨bb, kk, hLL, _⟩ := d17 (by decide)
      have htn' := (PF_bits d3).2.2.2.2.2.2.1
      obtain ⟨u5, v5, hpp⟩ := mk_par grp d3 d4 d5 d14 (by clear d16; omega) ⟨bb, kk, hLL⟩
      have hYY := PY_tr (Nat.le_refl _) (Nat.le_refl _) (Nat.le_refl _) (Nat.le_refl _) (Nat.le_refl _) (Nat.le_refl _) hY3 d6
      rcases hpp with ⟨b2x, q0, q0', q1, q2, q3, q4, q5, q6, q7⟩ | ⟨q1, q2, q3⟩
      · refine ⟨u5, r4, by rw [hop 1 u1 a1, if_neg (by decide), g1', b2_s]; exact q1, Or.inl ⟨v5, N + 1, b2x, S', R', NC', NR', F', Kc', Kr', j, dd, w, g, hh, q, c, e, occ, by clear d16; omega, fun G => ?_, q3, q4, q5, PY_tr d8 d9 d10 d11 d12 d13 hYY q6, by clear d16; omega, d8, d9, d10, d11, d12, d13, by clear d16; omega, q7, d15, BDf_par a0 a4 (Nat.le_of_lt d7) (Nat.le_of_lt q0) d16, fun hh => absurd rfl hh⟩⟩
        show (bd (b2 (fX12_opens v) fun r32 u31 => if r32 = 0 then (some u31) else bd (fX12_push 16 0 u31) fun u34 => bd (fX12_push 1 0 u34) fun u35 => some u35) fun w => fX12_formula_L0 (G + (N + 1)) 0 w) = _
        rw [href, show G + (N + 1) = (G + 1) + N by omega, d2', q2]
      · refine ⟨u5, r4, by rw [hop 1 u1 a1, if_neg (by decide), g1', b2_s]; exact q1, Or.inr ⟨v5, N + 2, by clear d16; omega, fun G => ?_, FQf_tr d8 hYY q3, by have := (IS_bits d14).1; have := d3.2.2.2.1; clear d16; omega⟩⟩
        show (bd (b2 (fX12_opens v) fun r32 u31 => if r32 = 0 then (some u31) else bd (fX12_push 16 0 u31) fun u34 => bd (fX12_push 1 0 u34) fun u35 => some u35) fun w => fX12_formula_L0 (G + (N + 2)) 0 w) = _
        rw [href, show G + (N + 2) = (G + 2) + N by omega, d2', q2]
    · have hne := FLT_ne d3.1
      obtain ⟨u6, m1, m2⟩ := j221_flt grp u4 r4
      refine ⟨u6, r4, ?_, Or.inr ⟨v4, N, by omega, fun G => ?_, FQf_tr (Nat.le_refl _) hY3 (FQf_cls m2 P43_PAf P43_syt (by decide) ⟨rfl, rfl⟩ (by rw [Fr_I m2 rfl]; exact ⟨d3.2.2.2.1, d3.2.2.2.2.1⟩) d3), d4⟩⟩
      · rw [hop 1 u1 a1, if_neg (by decide), g1', b2_s, show (5 : Int32) = zI 5 from rfl, want_flt u4 5 hne.1 (by decide), b2_s]; exact m1
      · show (bd (b2 (fX12_opens v) fun r32 u31 => if r32 = 0 then (some u31) else bd (fX12_push 16 0 u31) fun u34 => bd (fX12_push 1 0 u34) fun u35 => some u35) fun w => fX12_formula_L0 (G + N) 0 w) = _
        rw [href]; exact d2 G
  · refine ⟨u1, 0, by rw [hop 0 u1 a1, if_pos rfl]; rfl, Or.inr ⟨v1, 1, by omega, fun G => ?_, a3, by decide⟩⟩
    show (bd (b2 (fX12_opens v) fun r32 u31 => if r32 = 0 then (some u31) else bd (fX12_push 16 0 u31) fun u34 => bd (fX12_push 1 0 u34) fun u35 => some u35) fun w => fX12_formula_L0 (G + 1) 0 w) = _
    rw [a2, b2_s, if_pos rfl, bd_s]
    exact fm_flt G v1 (FLT_ne a3.1).2.1
