/-! reading: a name, and all levels of names -/
theorem ap_spec {grp : Nat → Int32 → St → Option (Int32 × St)} {n o : Nat} (hG : o + 1 ≤ 30 → GPa grp n (o + 1)) (u v : St) (t S R NC NR m b : Nat) (B : Nat → Nat) (F : List Nat) (pr : Int) (h : PQ u v n t S R NC NR o m B F) (hL : TLs u v n t b 1) (hS1 : 2 * S ≤ 120 + t) (hmo : m ≤ o) (hpr : pr = if m = 0 then 1 else 0) : ∃ u', oX2_application grp (zI pr) u = some u' ∧ APr u u' v n t S R NC NR o m B F (fun G => BJ G v) R := by
  have ho := h.2.2.2.2.2.2.1
  have htn := PQ_n h
  have l3 := hL.2.2.1
  have l4 := hL.2.2.2.1
  have hbn := hL.2.2.2.2.2.2.2.2.2.2.1
  obtain ⟨sy, S', u1, u2, u3, v1, v2, a1, a2, a3, a4, a5, a6, a7, a8, a9, a10, a11, a12, a13, a14⟩ := px_name h hL hS1
  have hS' := a7.2.2.2.2.2.2.2.1.2.2.1
  have hop : oX2_application grp (zI pr) u = (b2 (fX2_next u3) fun r41 u40 => if r41 = 4 then (b2 (fX2_opens u40) fun r44 u43 => if r44 = 0 then (some u43) else lt (1 : Int32) fun x46 => fX2_application_L0 grp FU 0 (zI pr) (zI t) (zI sy) (zI R) 0 x46 0 u43) else fX2_application_j192 grp (zI pr) (zI t) (zI sy) (zI R) 0 u40) := by
    unfold oX2_application
    rw [gI_z u 1 2, l3, lt_e, a1, b2_s, a2, bd_s, if_pos (by rw [z_zero, z_le (by decide) (by decide) (by omega) (by omega)]; omega), a3, b2_s, lt_e]
  have hrf : ∀ G, BJ G v = b2 (b2 (fX12_look (uI (uI v2 118 R (zI sy)) 100 33 (zI ((R + 1 : Nat) : Int)))) fun r9 u8 => if r9 = 3 then (b2 (fX12_opens u8) fun r13 u12 => if r13 = 0 then (some (0, u12)) else bd (st u12 123 40 (gI u12 100 43) (zI sy)) fun u15 => bd (st u15 124 40 (gI u15 100 43) (zI t)) fun u16 => bd (st u16 125 40 (gI u16 100 43) 0) fun u17 => lt (uI u17 100 43 ((gI u17 100 43) + 1)) fun u18 => some ((0 : Int32), u18)) else bd (fX12_endName (zI sy) (zI t) 0 u8) fun u11 => some (1, u11)) fun r w => fX12_readAtom_L0 G 0 r w := by
    intro G
    unfold BJ fX12_beginTerm_j52
    rw [if_pos (by rfl), gI_z v 100 26, l4, lt_e, a4, b2_s, a5, bd_s, gI_z v2 100 33, a6, st_z _ _ _ _ _ (by omega) (by omega), bd_s, Int.toNat_natCast, gI_z _ 100 33, I_uI3 _ _ _ _ _ _ (by decide), a6, show (1 : Int32) = zI 1 from rfl, z_add, lt_e, show (R : Int) + 1 = ((R + 1 : Nat) : Int) by omega]
  generalize hv3 : uI (uI v2 118 R (zI sy)) 100 33 (zI ((R + 1 : Nat) : Int)) = v3 at *
  obtain ⟨u4, v4, hn⟩ := px_next a7
  rcases hn with ⟨s, b', k, b1, b2', b3, b4, b5, b6, b7⟩ | ⟨b1, b2', b3⟩
  · have hk14 := b3.2.2.2.2.2.2.2.2.1
    have c37 : I u4 37 R = 8 * sy := by rw [(b7.2.1 R (by omega)).1]; exact a12
    have c118 : I v4 118 R = sy := by rw [(b7.2.1 R (by omega)).2]; exact a13
    have hX4 : PX u u4 v v4 S R NC NR m := PX_tr a10 (show R ≤ R + 1 by omega) (Nat.le_refl _) (Nat.le_refl _) (Nat.le_refl _) a8 b7
    have e4 := b6.2.2.1
    have e21 := b6.2.2.2.1
    have e3 := b6.2.2.2.2.1
    have e37 := b6.2.2.2.2.2.1
    have e43 := b6.2.2.2.2.2.2.2.2.2.2.2.2.2.2.2.2.1
    have hT0 : TRM u4 v4 S' NC NR (R + 1) (R + 1) 0 := ⟨fun i h1 h2 => by omega, by rw [Nat.sub_self]; rfl⟩
    rw [hop, b1, b2_s]
    by_cases hk3 : k = 3
    · subst hk3
      rw [if_pos (by rfl)]
      obtain ⟨u5, v5, ho2⟩ := opens_both b3 ho e3 e37 e4 e21
      rcases ho2 with ⟨o1, o2, o3, o4, o5, o6, o7, o8⟩ | ⟨o2, o3, o4, o5, o6⟩
      · -- the bracket is open
        have hsb : s < b' := b3.2.2.2.2.2.2.2.2.2.2.2.1 (by decide)
        have hb'n := b3.2.2.2.2.2.2.2.2.2.2.1
        have e43' : I v5 100 43 = m := by rw [Fr_I o8 rfl]; exact e43
        have F6 : Fr (fun k i => k == 123 || k == 124 || k == 125 || (k == 100 && i == 43)) v5 (uI (uI (uI (uI v5 123 m (zI sy)) 124 m (zI t)) 125 m (zI 0)) 100 43 (zI ((m + 1 : Nat) : Int))) := Fr_up rfl (Fr_up rfl (Fr_up rfl (Fr_up rfl (Fr_rfl _ _))))
        have hSb : 2 * S' ≤ 121 + s := by
          rcases b6.2.1 with ⟨q1, q2, _⟩ | ⟨_, _, _, q2, _⟩
          · exact q2
          · exact q2
        -- the state behind the bracket
        have hPQ5 : PQ u5 v5 n b' S' (R + 1) NC NR (o + 1) m B F := by
          obtain ⟨p1, p2, p3, p4, p5, p6, p7, p8, p9, p10, p11, p12, p13, p14, p15, p16, p17, p18⟩ := b6
          have j38 : ∀ x, J u5 38 x = J u4 38 x := fun x => Fr_J o7 rfl
          have j119 : ∀ x, J v5 119 x = J v4 119 x := fun x => Fr_J o8 rfl
          exact ⟨TXs_fr o7 o8 rfl (fun _ => rfl) rfl (fun _ => rfl) p1, Or.inl ⟨o4, by omega, fun _ _ => by omega⟩, by rw [Fr_I o7 rfl]; exact p3, by rw [Fr_I o8 rfl]; exact p4, o5, o6, by omega, SYT_fr o7 o8 rfl (fun k i hk => by simp [PK]; omega) rfl (fun k i hk => by simp [QK]; omega) p8, by rw [Fr_I o7 rfl]; exact p9, by rw [Fr_I o8 rfl]; exact p10, ⟨by rw [Fr_I o7 rfl]; exact p11.1, fun x hx => by rw [j38]; exact p11.2.1 x hx, fun x x' hx hx' hh => p11.2.2 x x' hx hx' (by rw [j38, j38] at hh; exact hh)⟩, ⟨by rw [Fr_I o8 rfl]; exact p12.1, fun x hx => by rw [j119]; exact p12.2.1 x hx, fun x x' hx hx' hh => p12.2.2 x x' hx hx' (by rw [j119, j119] at hh; exact hh)⟩, by omega, by omega, by omega, FB_fr o7 (fun _ => rfl) (fun _ => rfl) (fun _ => rfl) rfl p16, e43', fun y hy => by obtain ⟨x, x1, x2⟩ := p18 y hy; exact ⟨x, x1, by rw [j38, j119]; exact x2⟩⟩
        have hX5 : PX u4 u5 v4 v5 S' (R + 1) NC NR m := PX_fr o7 o8 (fun k i hk => by simp [PK] at hk; simp [PA, PT]; omega) (fun k i hk => by simp [QK] at hk; simp [QA, QT]; omega) (fun k i hk => by simp [PK]; omega) (fun k i hk => by simp [QK]; omega)
        have f123 : I (uI (uI (uI (uI v5 123 m (zI sy)) 124 m (zI t)) 125 m (zI 0)) 100 43 (zI ((m + 1 : Nat) : Int))) 123 m = sy := by rw [I_uI3 _ _ _ _ _ _ (by decide), I_uI3 _ _ _ _ _ _ (by decide), I_uI3 _ _ _ _ _ _ (by decide), I_uI1 _ _ _ _ (by omega) (by omega)]
        have f124 : I (uI (uI (uI (uI v5 123 m (zI sy)) 124 m (zI t)) 125 m (zI 0)) 100 43 (zI ((m + 1 : Nat) : Int))) 124 m = t := by rw [I_uI3 _ _ _ _ _ _ (by decide), I_uI3 _ _ _ _ _ _ (by decide), I_uI1 _ _ _ _ (by omega) (by omega)]
        have f125 : I (uI (uI (uI (uI v5 123 m (zI sy)) 124 m (zI t)) 125 m (zI 0)) 100 43 (zI ((m + 1 : Nat) : Int))) 125 m = ((0 : Nat) : Int) := by rw [I_uI3 _ _ _ _ _ _ (by decide), I_uI1 _ _ _ _ (by decide) (by decide)]; rfl
        have f43 : I (uI (uI (uI (uI v5 123 m (zI sy)) 124 m (zI t)) 125 m (zI 0)) 100 43 (zI ((m + 1 : Nat) : Int))) 100 43 = ((m + 1 : Nat) : Int) := I_uI1 _ _ _ _ (by omega) (by omega)
        have hPQ6 : PQ u5 (uI (uI (uI (uI v5 123 m (zI sy)) 124 m (zI t)) 125 m (zI 0)) 100 43 (zI ((m + 1 : Nat) : Int))) n b' S' (R + 1) NC NR (o + 1) (m + 1) B F := PQ_om (Fr_rfl (fun _ _ => false) u5) F6 (fun _ _ _ => rfl) (fun k i hk => by simp; omega) o5 (by rw [Fr_I F6 rfl]; exact o6) f43 (by omega) hPQ5
        have hX6 : PX u5 u5 v5 (uI (uI (uI (uI v5 123 m (zI sy)) 124 m (zI t)) 125 m (zI 0)) 100 43 (zI ((m + 1 : Nat) : Int))) S' (R + 1) NC NR m := ⟨SKp_fr (Fr_rfl (fun _ _ => false) u5) F6 (fun _ _ _ => rfl) (fun _ => rfl), fun i _ => ⟨rfl, Fr_I F6 rfl⟩, fun _ _ => rfl, fun y _ => Fr_J F6 rfl, fun i hi => ⟨by rw [I_uI3 _ _ _ _ _ _ (by decide), I_uI3 _ _ _ _ _ _ (by decide), I_uI3 _ _ _ _ _ _ (by decide), I_uI2 _ _ _ _ _ _ (by omega)], by rw [I_uI3 _ _ _ _ _ _ (by decide), I_uI3 _ _ _ _ _ _ (by decide), I_uI2 _ _ _ _ _ _ (by omega), I_uI3 _ _ _ _ _ _ (by decide)], by rw [I_uI3 _ _ _ _ _ _ (by decide), I_uI2 _ _ _ _ _ _ (by omega), I_uI3 _ _ _ _ _ _ (by decide), I_uI3 _ _ _ _ _ _ (by decide)]⟩, Fr_rfl _ _, Fr_up2 (fun k i hk => by simp at hk; simp [QA]; omega) F6⟩
        have e21' : I (uI (uI (uI (uI v5 123 m (zI sy)) 124 m (zI t)) 125 m (zI 0)) 100 43 (zI ((m + 1 : Nat) : Int))) 100 21 = 0 := hPQ6.2.2.2.1
        have g43a : I (uI v5 123 m (zI sy)) 100 43 = m := by rw [I_uI3 _ _ _ _ _ _ (by decide)]; exact e43'
        have g43b : I (uI (uI v5 123 m (zI sy)) 124 m (zI t)) 100 43 = m := by rw [I_uI3 _ _ _ _ _ _ (by decide)]; exact g43a
        have g43c : I (uI (uI (uI v5 123 m (zI sy)) 124 m (zI t)) 125 m (zI 0)) 100 43 = m := by rw [I_uI3 _ _ _ _ _ _ (by decide)]; exact g43b
        have hBJ : ∀ G, BJ (G + 1) v = BT G (uI (uI (uI (uI v5 123 m (zI sy)) 124 m (zI t)) 125 m (zI 0)) 100 43 (zI ((m + 1 : Nat) : Int))) := by
          intro G
          rw [hrf, b2', b2_s, if_pos (by rfl), o3, b2_s, if_neg (by decide), gI_z v5 100 43, e43', st_z _ _ _ _ _ (by omega) (by omega), bd_s, Int.toNat_natCast, gI_z _ 100 43, g43a, st_z _ _ _ _ _ (by omega) (by omega), bd_s, Int.toNat_natCast, gI_z _ 100 43, g43b, show (0 : Int32) = zI 0 from rfl, st_z _ _ _ _ _ (by omega) (by omega), bd_s, Int.toNat_natCast, gI_z _ 100 43, g43c, show (1 : Int32) = zI 1 from rfl, z_add, lt_e, b2_s, show (m : Int) + 1 = ((m + 1 : Nat) : Int) by omega]
          exact ra_zero G m _ e21' f43 (by omega)
        generalize hv6 : uI (uI (uI (uI v5 123 m (zI sy)) 124 m (zI t)) 125 m (zI 0)) 100 43 (zI ((m + 1 : Nat) : Int)) = v6 at *
        have hX06 : PX u u5 v v6 S R NC NR m := PX_tr a10 (show R ≤ R + 1 by omega) (Nat.le_refl _) (Nat.le_refl _) (Nat.le_refl _) (PX_tr a10 (show R ≤ R + 1 by omega) (Nat.le_refl _) (Nat.le_refl _) (Nat.le_refl _) hX4 hX5) hX6
        obtain ⟨u', i1, i2⟩ := ap_args (hG (by omega)) (by omega) R sy m t pr (by omega) (by omega) hpr hmo 5 FU 0 b' S' (R + 1) NC NR u5 v6 F rfl (by decide) (by unfold FU; omega) hPQ6 (by omega) a9 (by rw [Fr_I o7 rfl]; exact c37) (by rw [(hX6.2.1 R (by omega)).2, Fr_I o8 rfl]; exact c118) ⟨fun i h1 h2 => by omega, by rw [Nat.sub_self]; rfl⟩ f123 f124 f125
        refine ⟨u', by rw [o2, b2_s, if_neg (by decide), lt_e]; exact i1, ?_⟩
        rcases i2 with ⟨v', N', t', S2, R', NC', NR', F', r1, r2, r3, r4, r5, r6, r7, r8, r9, r10, r11, r12, r13⟩ | ⟨v', N', r1, r2, r3⟩
        · left
          refine ⟨v', N' + 1, t', S2, R', NC', NR', F', by omega, fun G => ?_, r3, PX_tr a10 (Nat.le_refl _) (Nat.le_refl _) (Nat.le_refl _) (Nat.le_refl _) hX06 r4, by omega, by omega, by omega, r8, r9, r10, ?_, r12, fun i h1 h2 => by rw [r13 i (by omega) h2]; exact (hX06.2.1 i h1).1⟩
          · show BJ (G + (N' + 1)) v = _
            rw [show G + (N' + 1) = (G + N') + 1 by omega, hBJ]; exact r2 G
          · rw [r11]
            congr 1
            rw [show R' - R = (R' - (R + 1)) + 1 by omega]
            simp only [vocc]
            rw [if_neg (by omega)]
        · right
          refine ⟨v', N' + 1, by omega, fun G => ?_, FQ_tr a10 hX06 r3⟩
          show BJ (G + (N' + 1)) v = _
          rw [show G + (N' + 1) = (G + N') + 1 by omega, hBJ]; exact r2 G
      · -- too deep
        have hS4 := b6.2.2.2.2.2.2.2.1
        refine ⟨u5, by rw [o2, b2_s, if_pos rfl], Or.inr ⟨v5, 1, by omega, fun G => ?_, FQ_tr a10 hX4 ⟨o4, ⟨S', Nat.le_refl _, SYT_fr o5 o6 rfl (fun k i hk => by simp; omega) rfl (fun k i hk => by simp; omega) hS4⟩, SKp_fr o5 o6 (fun k i hk => by simp; omega) (fun i => by simp), Fr_up2 (fun k i hk => by simp at hk; simp [PA]; omega) o5, Fr_up2 (fun k i hk => by simp at hk; simp [QA, QT]; omega) o6⟩⟩⟩
        show BJ (G + 1) v = _
        rw [hrf, b2', b2_s, if_pos (by rfl), o3, b2_s, if_pos rfl, b2_s]
        exact ra_flt G _ v5 (FLT_ne o4).2.2
    · -- no arguments
      have hr4 : ¬ (zI ((k + 1 : Nat) : Int) = 4) := by rw [z_lit, z_eq (by omega) (by omega) (by decide) (by decide)]; omega
      have hr3 : ¬ (zI (k : Int) = 3) := by rw [z_lit, z_eq (by omega) (by omega) (by decide) (by decide)]; omega
      rw [if_neg hr4]
      obtain ⟨u5, v5, he⟩ := px_end grp b6 (show R < R + 1 by omega) a9 (show 0 ≤ 5 by omega) c37 c118 hT0 hpr (show -2147483648 ≤ (t : Int) by omega) (by omega) (by omega)
      rcases he with ⟨e1, e2, e3', e4', e5, e6, e7, e8⟩ | ⟨e1, e2, e3'⟩
      · refine ⟨u5, e1, Or.inl ⟨v5, 0, s, S', R + 1, NC, NR, F, by omega, fun G => ?_, e3', PX_tr a10 (Nat.le_refl _) (Nat.le_refl _) (Nat.le_refl _) (Nat.le_refl _) hX4 e4', by omega, a10, by omega, Nat.le_refl _, Nat.le_refl _, e5, ?_, e8, fun i h1 h2 => by rw [e7 i h2]; exact (hX4.2.1 i h1).1⟩⟩
        · show BJ (G + 0) v = _
          rw [hrf, b2', b2_s, if_neg hr3]
          have e2' : fX12_endName (zI sy) (zI t) 0 v4 = some v5 := e2
          rw [e2', bd_s, b2_s]; rfl
        · rw [e6, Nat.sub_self]; rfl
      · refine ⟨u5, e1, Or.inr ⟨v5, 1, by omega, fun G => ?_, FQ_tr a10 hX4 e3'⟩⟩
        show BJ (G + 1) v = _
        rw [hrf, b2', b2_s, if_neg hr3]
        have e2' : fX12_endName (zI sy) (zI t) 0 v4 = some v5 := e2
        rw [e2', bd_s, b2_s]
        exact ra_flt G _ v5 (FLT_ne e3'.1).2.2
  · -- a wrong token
    have hne := FLT_ne b3.1
    obtain ⟨u5, g1, g2⟩ := j192_f grp u4 (zI pr) (zI t) (zI sy) R 0 (by omega) hne.1
    refine ⟨u5, by rw [hop, b1, b2_s, if_neg (by decide)]; exact g1, Or.inr ⟨v4, 1, by omega, fun G => ?_, FQ_tr a10 a8 (FQ_cls g2 P37_PA (fun k i hk => by simp; omega) (by decide) ⟨rfl, rfl⟩ b3)⟩⟩
    show BJ (G + 1) v = _
    have hlast : fX12_endName (zI sy) (zI t) 0 v4 = some v4 := by
      unfold fX12_endName fX12_endName_j12
      have hn0 : ¬ gI v4 100 21 ≤ 0 := by rw [gI_z, z_zero, z_le (I_lo _ _ _) (I_hi _ _ _) (by decide) (by decide)]; exact hne.2.1
      rw [if_neg hn0, if_neg hn0]
      by_cases hx : gI v4 100 43 ≤ 0
      · rw [if_pos hx]
      · rw [if_neg hx]
    rw [hrf, b2', b2_s, if_neg (by decide), hlast, bd_s, b2_s]
    exact ra_flt G _ v4 hne.2.2
theorem gpa_all (n : Nat) (c : Nat) : ∀ o d, o + c = 30 → c + 1 ≤ d → GPa (fPar d) n o := by
  induction c with
  | zero =>
    intro o d ho hd u v t S R NC NR m b B F h hL hS hm1 hm2
    obtain ⟨d', rfl⟩ : ∃ d', d = d' + 1 := ⟨d - 1, by omega⟩
    obtain ⟨u', r1, r2⟩ := ap_spec (grp := fPar d') (o := o) (fun hh => absurd hh (by omega)) u v t S R NC NR m b B F 0 h hL hS hm2 (by rw [if_neg (by omega)])
    refine ⟨u', ?_, r2⟩
    have : fPar (d' + 1) 2 (zI 0) u = bd (oX2_application (fPar d') (zI 0) u) fun u1 => some (0, u1) := rfl
    rw [this, r1, bd_s]; rfl
  | succ c ih =>
    intro o d ho hd u v t S R NC NR m b B F h hL hS hm1 hm2
    obtain ⟨d', rfl⟩ : ∃ d', d = d' + 1 := ⟨d - 1, by omega⟩
    obtain ⟨u', r1, r2⟩ := ap_spec (grp := fPar d') (o := o) (fun _ => ih (o + 1) d' (by omega) (by omega)) u v t S R NC NR m b B F 0 h hL hS hm2 (by rw [if_neg (by omega)])
    refine ⟨u', ?_, r2⟩
    have : fPar (d' + 1) 2 (zI 0) u = bd (oX2_application (fPar d') (zI 0) u) fun u1 => some (0, u1) := rfl
    rw [this, r1, bd_s]; rfl
