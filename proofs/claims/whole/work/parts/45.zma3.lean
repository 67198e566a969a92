/-! reading: a literal becomes a set of one clause, in the class -/
def Pwm : Nat → Nat → Bool := fun k i => Pwo k i || (k == 5 && i == 5)
theorem Pwo_Pwm : ∀ k i, Pwo k i = true → Pwm k i = true := by intro k i hk; simp [Pwm, hk]
theorem Plc_Pwm : ∀ k i, Plc k i = true → Pwm k i = true := by intro k i hk; simp [Plc] at hk; simp [Pwm, Pwo]; omega
theorem Pwy_Pwm : ∀ k i, Pwy k i = true → Pwm k i = true := fun k i hk => Pwo_Pwm k i (Pwy_Pwo k i hk)
theorem P53_Pwm : ∀ k i, (k == 53 || k == 54 || (k == 6 && i == 10)) = true → Pwm k i = true := by intro k i hk; simp at hk; simp [Pwm, Pwo]; omega
theorem clit_spec {u : St} {ρ : Nat → Int} {ar : List Int} {s G : List Cs} {CT NL a b : Nat} {ng : Int} (hng : ng = 0 ∨ ng = 1) (h : WY u s G CT NL) (hs : s.length < 400) (hab : a ≤ b) (hb : b ≤ 1501) (har : ar.length ≤ 290) (hCT : CT + 6 * (b - a) ≤ 18000) (hV : ∀ x, x < 1501 → I u 43 x = ρ x) (hR : RWl u 47 0 ar) (hO : LOK u ρ ar a b) (h55 : I u 5 5 = 0) : (¬ ov ([[(ng, litc u ρ ar (b - a) a)]] :: s, G ++ [[[(ng, litc u ρ ar (b - a) a)]]]) ∧ ∃ u' CT', fX0_literal (zI a) (zI b) (zI ng) u = some u' ∧ WY u' ([[(ng, litc u ρ ar (b - a) a)]] :: s) (G ++ [[[(ng, litc u ρ ar (b - a) a)]]]) CT' (NL + 1) ∧ CT' ≤ CT + 6 * (b - a) ∧ I u' 5 5 = 0 ∧ Fr Pwm u u') ∨ (ov ([[(ng, litc u ρ ar (b - a) a)]] :: s, G ++ [[[(ng, litc u ρ ar (b - a) a)]]]) ∧ ∃ u', fX0_literal (zI a) (zI b) (zI ng) u = some u' ∧ I u' 5 5 = 1 ∧ Fr Pwm u u') := by
  obtain ⟨h1, h2, h3, h4, h5, h6, h7, h8, h9, h10, h11, h12⟩ := h
  rw [ov_push]
  simp only [mb, List.length_cons, List.length_nil]
  obtain ⟨lc, hlc⟩ : ∃ lc, litc u ρ ar (b - a) a = lc := ⟨_, rfl⟩
  have hll : lc.length ≤ 6 * (b - a) := by rw [← hlc]; exact litc_len u ρ ar b (b - a) a (by omega) hO
  rw [hlc]
  by_cases hN : NL < 600
  · -- the sign
    have F0 : Fr (fun k _ => k == 50) u (uI u 50 NL (zI ng)) := Fr_up rfl (Fr_rfl _ _)
    have e50 : I (uI u 50 NL (zI ng)) 50 NL = ng := I_uI1 _ _ _ _ (by omega) (by omega)
    have o50 : ∀ i, i ≠ NL → I (uI u 50 NL (zI ng)) 50 i = I u 50 i := fun i hi => I_uI2 _ _ _ _ _ _ (by omega)
    have hbeg : fX0_literal (zI a) (zI b) (zI ng) u = fX0_literal_L0 FU 0 (zI b) (zI a) 0 0 (uI u 50 NL (zI ng)) := by
      unfold fX0_literal fX10_beginLiteral
      rw [gI_z u 6 4, h2, if_pos (by rw [z_lit, z_lt (by omega) (by omega) (by decide) (by decide)]; omega), zb_z hng, bd_s, st_z _ _ _ _ _ (by omega) (by omega), bd_s, Int.toNat_natCast, b2_s, if_neg (by decide)]
    obtain ⟨ua, hua⟩ : ∃ ua, uI u 50 NL (zI ng) = ua := ⟨_, rfl⟩
    rw [hua] at F0 e50 o50 hbeg
    obtain ⟨ub, F', c1, c2, c3⟩ := clit_loop (ρ := ρ) (ar := ar) (CT := CT) (b := b) hb har (b - a) a [] ua FU (by omega) (by unfold FU; omega) ⟨by rw [Fr_I F0 rfl]; exact h1, trivial⟩ (by simpa using hCT) (fun x hx => by rw [Fr_I F0 rfl]; exact hV x hx) (RWl_eq _ _ (fun i _ _ => Fr_I F0 rfl) hR) (fun i q1 q2 => by rw [Fr_I F0 rfl]; exact hO i q1 q2)
    have hl2 : ∀ k a, litc ua ρ ar k a = litc u ρ ar k a := by
      intro k
      induction k with
      | zero => intro a; rfl
      | succ k ih2 => intro a; simp only [litc]; rw [Fr_I F0 rfl, ih2]
    rw [hl2, hlc, List.nil_append] at c2
    -- the literal ends
    have F2 : Fr (fun k i => (k == 49 && i != 0) || (k == 6 && i == 4)) ub (uI (uI ub 6 4 (zI ((NL + 1 : Nat) : Int))) 49 (NL + 1) (zI ((CT + lc.length : Nat) : Int))) := Fr_up rfl (Fr_up rfl (Fr_rfl _ _))
    have e4 : I (uI ub 6 4 (zI ((NL + 1 : Nat) : Int))) 6 4 = ((NL + 1 : Nat) : Int) := I_uI1 _ _ _ _ (by omega) (by omega)
    have e1 : I (uI ub 6 4 (zI ((NL + 1 : Nat) : Int))) 6 1 = ((CT + lc.length : Nat) : Int) := by rw [I_uI2 _ _ _ _ _ _ (by decide)]; exact c2.1
    have e49 : ∀ i, I (uI (uI ub 6 4 (zI ((NL + 1 : Nat) : Int))) 49 (NL + 1) (zI ((CT + lc.length : Nat) : Int))) 49 i = if i = NL + 1 then ((CT + lc.length : Nat) : Int) else I ub 49 i := by
      intro i
      rw [I_uI _ _ _ _ (by omega) (by omega)]
      by_cases hi : i = NL + 1
      · rw [if_pos ⟨rfl, hi⟩, if_pos hi]
      · rw [if_neg (fun hh => hi hh.2), if_neg hi, I_uI3 _ _ _ _ _ _ (by decide)]
    have e4' : I (uI (uI ub 6 4 (zI ((NL + 1 : Nat) : Int))) 49 (NL + 1) (zI ((CT + lc.length : Nat) : Int))) 6 4 = ((NL + 1 : Nat) : Int) := by rw [I_uI3 _ _ _ _ _ _ (by decide)]; exact e4
    have hend1 : fX10_endLiteral ub = (lt (uI (uI ub 6 4 (zI ((NL + 1 : Nat) : Int))) 49 (NL + 1) (zI ((CT + lc.length : Nat) : Int))) fun u2 => if (gI u2 6 11) < 6000 then (lt (gI u2 6 7 : Int32) fun x4 => bd (st u2 51 6000 (gI u2 6 11) ((gI u2 6 4) - 1)) fun u5 => lt (uI u5 6 11 ((gI u5 6 11) + 1)) fun u6 => b2 (fX10_endClause u6) fun r8 u7 => if r8 = 0 then (some (0, u7)) else b2 (fX10_pushSet x4 u7) fun r11 u10 => if r11 = 0 then (some (0, u10)) else some (1, u10)) else some (0, u2)) := by
      unfold fX10_endLiteral
      rw [gI_z ub 6 4, Fr_I c3.1 rfl, Fr_I F0 rfl, h2, show (1 : Int32) = zI 1 from rfl, z_add, show (NL : Int) + 1 = ((NL + 1 : Nat) : Int) by omega, lt_e, gI_z _ 6 4, e4, gI_z _ 6 1, e1, st_z _ _ _ _ _ (by omega) (by omega), bd_s, Int.toNat_natCast]
      rfl
    obtain ⟨uc, huc⟩ : ∃ uc, uI (uI ub 6 4 (zI ((NL + 1 : Nat) : Int))) 49 (NL + 1) (zI ((CT + lc.length : Nat) : Int)) = uc := ⟨_, rfl⟩
    rw [huc] at F2 e49 e4' hend1
    have fin : ∀ (r : Int32) (w : St), fX10_endLiteral ub = some (r, w) → fX0_literal (zI a) (zI b) (zI ng) u = some (uI w 5 5 (if r = 0 then zI 1 else zI 0)) := by
      intro r w hw
      have sx : fX0_literal_L0 (F' + 1) 0 (zI b) (zI b) 0 0 ub = fX0_literal_L0_0 (fX0_literal_L0 F') (zI b) (zI b) ub := rfl
      rw [hbeg, c1, sx]
      unfold fX0_literal_L0_0
      rw [if_pos (by rw [z_le (by omega) (by omega) (by omega) (by omega)]; omega), hw, b2_s, gI_z ub 5 5, Fr_I c3.1 rfl, Fr_I F0 rfl, h55]
      by_cases hr : r = 0
      · rw [if_pos hr, if_pos hr]; rfl
      · rw [if_neg hr, if_neg hr]; rfl
    have c7 : I uc 6 7 = (tt G : Nat) := by rw [Fr_I F2 rfl, Fr_I c3.1 rfl, Fr_I F0 rfl]; exact h3
    have c10 : I uc 6 10 = s.length := by rw [Fr_I F2 rfl, Fr_I c3.1 rfl, Fr_I F0 rfl]; exact h4
    have c11 : I uc 6 11 = (tm G : Nat) := by rw [Fr_I F2 rfl, Fr_I c3.1 rfl, Fr_I F0 rfl]; exact h5
    have Fc : Fr Pwm u uc := Fr_tr (Fr_up2 (fun k i hk => by simp at hk; simp [Pwm, Pwo, hk]) F0) (Fr_tr (Fr_up2 Plc_Pwm c3.1) (Fr_up2 (fun k i hk => by simp at hk; simp [Pwm, Pwo]; omega) F2))
    by_cases hM : tm G < 6000
    · have Fd : Fr Pwy uc (uI (uI uc 51 (tm G) (zI NL)) 6 11 (zI ((tm G + 1 : Nat) : Int))) := Fr_up rfl (Fr_up rfl (Fr_rfl _ _))
      have d51 : ∀ i, I (uI (uI uc 51 (tm G) (zI NL)) 6 11 (zI ((tm G + 1 : Nat) : Int))) 51 i = if i = tm G then (NL : Int) else I uc 51 i := by
        intro i
        rw [I_uI3 _ _ _ _ _ _ (by decide), I_uI _ _ _ _ (by omega) (by omega)]
        by_cases hi : i = tm G
        · rw [if_pos ⟨rfl, hi⟩, if_pos hi]
        · rw [if_neg (fun hh => hi hh.2), if_neg hi]
      have d52 : ∀ i, I (uI (uI uc 51 (tm G) (zI NL)) 6 11 (zI ((tm G + 1 : Nat) : Int))) 52 i = I uc 52 i := fun i => by rw [I_uI3 _ _ _ _ _ _ (by decide), I_uI3 _ _ _ _ _ _ (by decide)]
      have d7 : I (uI (uI uc 51 (tm G) (zI NL)) 6 11 (zI ((tm G + 1 : Nat) : Int))) 6 7 = (tt G : Nat) := by rw [I_uI2 _ _ _ _ _ _ (by decide), I_uI3 _ _ _ _ _ _ (by decide)]; exact c7
      have d10 : I (uI (uI uc 51 (tm G) (zI NL)) 6 11 (zI ((tm G + 1 : Nat) : Int))) 6 10 = s.length := by rw [I_uI2 _ _ _ _ _ _ (by decide), I_uI3 _ _ _ _ _ _ (by decide)]; exact c10
      have d11 : I (uI (uI uc 51 (tm G) (zI NL)) 6 11 (zI ((tm G + 1 : Nat) : Int))) 6 11 = ((tm G + 1 : Nat) : Int) := I_uI1 _ _ _ _ (by omega) (by omega)
      have hend2 : fX10_endLiteral ub = b2 (fX10_endClause (uI (uI uc 51 (tm G) (zI NL)) 6 11 (zI ((tm G + 1 : Nat) : Int)))) fun r8 u7 => if r8 = 0 then (some (0, u7)) else b2 (fX10_pushSet (zI (tt G)) u7) fun r11 u10 => if r11 = 0 then (some (0, u10)) else some (1, u10) := by
        rw [hend1, lt_e, gI_z uc 6 11, c11, if_pos (by rw [z_lit, z_lt (by omega) (by omega) (by decide) (by decide)]; omega), gI_z uc 6 7, c7, lt_e, gI_z uc 6 4, e4', show (1 : Int32) = zI 1 from rfl, z_sub, show ((NL + 1 : Nat) : Int) - 1 = NL by omega, st_z _ _ _ _ _ (by omega) (by omega), bd_s, Int.toNat_natCast, gI_z _ 6 11, I_uI3 _ _ _ _ _ _ (by decide), c11, z_add, lt_e, show ((tm G : Nat) : Int) + 1 = ((tm G + 1 : Nat) : Int) by omega]
      obtain ⟨ud, hud⟩ : ∃ ud, uI (uI uc 51 (tm G) (zI NL)) 6 11 (zI ((tm G + 1 : Nat) : Int)) = ud := ⟨_, rfl⟩
      rw [hud] at Fd d51 d52 d7 d10 d11 hend2
      -- what stays of the sets
      have hAG : AG u ud NL CT (tm G) (tt G) := ⟨fun i hi => by rw [Fr_I Fd rfl, Fr_I F2 rfl, c3.2 i hi, Fr_I F0 rfl], fun i hi => by rw [Fr_I Fd rfl, e49, if_neg (by omega), Fr_I c3.1 rfl, Fr_I F0 rfl], fun i hi => by rw [Fr_I Fd rfl, Fr_I F2 rfl, Fr_I c3.1 rfl, o50 i (by omega)], fun i hi => by rw [d51, if_neg (by omega), Fr_I F2 rfl, Fr_I c3.1 rfl, Fr_I F0 rfl], fun i _ => by rw [d52, Fr_I F2 rfl, Fr_I c3.1 rfl, Fr_I F0 rfl]⟩
      have hlt : LTm ud (NL + 1) (CT + lc.length) NL (ng, lc) := ⟨by omega, hng, by rw [Fr_I Fd rfl, Fr_I F2 rfl, Fr_I c3.1 rfl]; exact e50, CT, by rw [hAG.2.1 NL (Nat.le_refl _)]; exact h9, by rw [Fr_I Fd rfl, e49, if_pos rfl], Nat.le_refl _, RWl_eq _ _ (fun i _ _ => by rw [Fr_I Fd rfl, Fr_I F2 rfl]) c2.2⟩
      have hPB : PBc ud (NL + 1) (CT + lc.length) (tm G) (tt G) [] [(ng, lc)] := ⟨d7, d11, by show I ud 52 (tt G) = ((tm G : Nat) : Int); rw [d52, Fr_I F2 rfl, Fr_I c3.1 rfl, Fr_I F0 rfl]; exact h10, h7, by show tm G + 0 + 1 ≤ 6000; omega, trivial, ⟨NL, by show I ud 51 (tm G) = _; rw [d51, if_pos rfl], hlt⟩, trivial⟩
      have Fd' : Fr Pwm u ud := Fr_tr Fc (Fr_up2 Pwy_Pwm Fd)
      rcases endc_spec hPB with ⟨f1, ue, g1, g2, g3⟩ | ⟨f1, g1⟩
      · left
        have hAG2 : AG u ue NL CT (tm G) (tt G) := ⟨fun i hi => by rw [Fr_I g3.1 rfl]; exact hAG.1 i hi, fun i hi => by rw [Fr_I g3.1 rfl]; exact hAG.2.1 i hi, fun i hi => by rw [Fr_I g3.1 rfl]; exact hAG.2.2.1 i hi, fun i hi => (g3.2.1 i hi).trans (hAG.2.2.2.1 i hi), fun i hi => (g3.2.2 i hi).trans (hAG.2.2.2.2 i hi)⟩
        simp only [List.length_nil, Nat.add_zero] at f1
        obtain ⟨uf, q1, q2, q3⟩ := WY_push (u := ue) (s := s) (G := G) (CT := CT + lc.length) (NL := NL + 1) (z := [[(ng, lc)]]) hs (by rw [Fr_I g3.1 rfl, Fr_I Fd rfl, Fr_I F2 rfl]; exact c2.1) (by rw [Fr_I g3.1 rfl, Fr_I Fd rfl]; exact e4') (by rw [Fr_I g3.1 rfl]; exact d10) (by show NL + 1 ≤ tt G + 1; omega) (by rw [Fr_I g3.1 rfl, Fr_I Fd rfl, e49, if_pos rfl]) (by omega) (SKs_mono hAG2 (by omega) (by omega) (Nat.le_refl _) (Nat.le_refl _) s (fun i _ => ⟨by rw [Fr_I g3.1 rfl, Fr_I Fd rfl, Fr_I F2 rfl, Fr_I c3.1 rfl, Fr_I F0 rfl], by rw [Fr_I g3.1 rfl, Fr_I Fd rfl, Fr_I F2 rfl, Fr_I c3.1 rfl, Fr_I F0 rfl]⟩) h12) g2
        refine ⟨by omega, uI uf 5 5 (zI 0), CT + lc.length, ?_, ?_, by omega, I_uI1 _ _ _ _ (by decide) (by decide), Fr_up (by simp [Pwm]) (Fr_tr Fd' (Fr_tr (Fr_up2 Pwy_Pwm g3.1) (Fr_up2 P53_Pwm q3)))⟩
        · rw [fin 1 uf (by rw [hend2, g1, b2_s, if_neg (by decide), q1, b2_s, if_neg (by decide)]), if_neg (by decide)]
        · obtain ⟨w1, w2, w3, w4, w5, w6, w7, w8, w9, w10, w11, w12⟩ := q2
          have F5 : Fr (fun k i => k == 5 && i == 5) uf (uI uf 5 5 (zI 0)) := Fr_up rfl (Fr_rfl _ _)
          exact ⟨by rw [Fr_I F5 rfl]; exact w1, by rw [Fr_I F5 rfl]; exact w2, by rw [Fr_I F5 rfl]; exact w3, by rw [Fr_I F5 rfl]; exact w4, by rw [Fr_I F5 rfl]; exact w5, w6, w7, w8, by rw [Fr_I F5 rfl]; exact w9, by rw [Fr_I F5 rfl]; exact w10, w11, SKs_mono ⟨fun i _ => Fr_I F5 rfl, fun i _ => Fr_I F5 rfl, fun i _ => Fr_I F5 rfl, fun i _ => Fr_I F5 rfl, fun i _ => Fr_I F5 rfl⟩ (Nat.le_refl _) (Nat.le_refl _) (Nat.le_refl _) (Nat.le_refl _) _ (fun i _ => ⟨Fr_I F5 rfl, Fr_I F5 rfl⟩) w12⟩
      · right
        simp only [List.length_nil, Nat.add_zero] at f1
        exact ⟨by omega, uI ud 5 5 (zI 1), by rw [fin 0 ud (by rw [hend2, g1, b2_s, if_pos rfl]), if_pos rfl], I_uI1 _ _ _ _ (by decide) (by decide), Fr_up (by simp [Pwm]) Fd'⟩
    · right
      refine ⟨by omega, uI uc 5 5 (zI 1), ?_, I_uI1 _ _ _ _ (by decide) (by decide), Fr_up (by simp [Pwm]) Fc⟩
      rw [fin 0 uc (by rw [hend1, lt_e, gI_z uc 6 11, c11, if_neg (by rw [z_lit, z_lt (by omega) (by omega) (by decide) (by decide)]; omega)]), if_pos rfl]
  · right
    refine ⟨by omega, uI u 5 5 (zI 1), ?_, I_uI1 _ _ _ _ (by decide) (by decide), Fr_up (by simp [Pwm]) (Fr_rfl _ _)⟩
    unfold fX0_literal fX10_beginLiteral
    rw [gI_z u 6 4, h2, if_neg (by rw [z_lit, z_lt (by omega) (by omega) (by decide) (by decide)]; omega), b2_s, if_pos rfl, lt_e]
    rfl
