/-! reading: the two latest sets become one -/
def Pwo : Nat → Nat → Bool := fun k i => k == 48 || (k == 49 && i != 0) || k == 50 || k == 51 || (k == 52 && i != 0) || k == 53 || k == 54 || k == 6
theorem Pwy_Pwo : ∀ k i, Pwy k i = true → Pwo k i = true := by intro k i hk; simp [Pwy] at hk; simp [Pwo]; omega
theorem ps_spec {u : St} {n T a : Nat} (h10 : I u 6 10 = n) (hn : n < 400) (h7 : I u 6 7 = T) (hT : T ≤ 600) (ha : a ≤ 600) : ∃ u', fX10_pushSet (zI a) u = some (1, u') ∧ I u' 53 n = a ∧ I u' 54 n = T ∧ I u' 6 10 = ((n + 1 : Nat) : Int) ∧ (∀ i, i ≠ n → I u' 53 i = I u 53 i ∧ I u' 54 i = I u 54 i) ∧ Fr (fun k i => k == 53 || k == 54 || (k == 6 && i == 10)) u u' := by
  have e1 : I (uI u 53 n (zI a)) 6 10 = n := by rw [I_uI3 _ _ _ _ _ _ (by decide)]; exact h10
  have e7 : I (uI u 53 n (zI a)) 6 7 = T := by rw [I_uI3 _ _ _ _ _ _ (by decide)]; exact h7
  have e2 : I (uI (uI u 53 n (zI a)) 54 n (zI T)) 6 10 = n := by rw [I_uI3 _ _ _ _ _ _ (by decide)]; exact e1
  refine ⟨uI (uI (uI u 53 n (zI a)) 54 n (zI T)) 6 10 (zI ((n + 1 : Nat) : Int)), ?_, ?_, ?_, I_uI1 _ _ _ _ (by omega) (by omega), fun i hi => ⟨?_, ?_⟩, Fr_up rfl (Fr_up rfl (Fr_up rfl (Fr_rfl _ _)))⟩
  · unfold fX10_pushSet
    rw [gI_z u 6 10, h10, if_pos (by rw [z_lit, z_lt (by omega) (by omega) (by decide) (by decide)]; omega), st_z _ _ _ _ _ (by omega) (by omega), bd_s, Int.toNat_natCast, gI_z _ 6 10, e1, gI_z _ 6 7, e7, st_z _ _ _ _ _ (by omega) (by omega), bd_s, Int.toNat_natCast, gI_z _ 6 10, e2, show (1 : Int32) = zI 1 from rfl, z_add, lt_e, show (n : Int) + 1 = ((n + 1 : Nat) : Int) by omega]
  · rw [I_uI3 _ _ _ _ _ _ (by decide), I_uI3 _ _ _ _ _ _ (by decide), I_uI1 _ _ _ _ (by omega) (by omega)]
  · rw [I_uI3 _ _ _ _ _ _ (by decide), I_uI1 _ _ _ _ (by omega) (by omega)]
  · rw [I_uI3 _ _ _ _ _ _ (by decide), I_uI3 _ _ _ _ _ _ (by decide), I_uI2 _ _ _ _ _ _ (by omega)]
  · rw [I_uI3 _ _ _ _ _ _ (by decide), I_uI2 _ _ _ _ _ _ (by omega), I_uI3 _ _ _ _ _ _ (by decide)]
/-- what was built is put on the stack -/
theorem WY_push {u : St} {s G : List Cs} {CT NL : Nat} {z : Cs} (hn : s.length < 400) (h1 : I u 6 1 = CT) (h4 : I u 6 4 = NL) (h10 : I u 6 10 = s.length) (hN : NL ≤ tt G + z.length) (h49 : I u 49 NL = CT) (hC : CT ≤ 18000) (hS : SKs u NL CT (tm G) (tt G) s) (hP : PBc u NL CT (tm G) (tt G) z []) : ∃ u', fX10_pushSet (zI (tt G)) u = some (1, u') ∧ WY u' (z :: s) (G ++ [z]) CT NL ∧ Fr (fun k i => k == 53 || k == 54 || (k == 6 && i == 10)) u u' := by
  obtain ⟨p1, p2, p3, p4, p5, p6, p7⟩ := hP
  simp only [List.length_nil, Nat.add_zero] at p2 p5
  obtain ⟨u', a1, a2, a3, a4, a5, a6⟩ := ps_spec (a := tt G) h10 hn p1 p4 (by omega)
  have hAG : AG u u' NL CT (tm G) (tt G) := ⟨fun i _ => Fr_I a6 rfl, fun i _ => Fr_I a6 rfl, fun i _ => Fr_I a6 rfl, fun i _ => Fr_I a6 rfl, fun i _ => Fr_I a6 rfl⟩
  have hAG2 : AG u u' NL CT (tm G + mb z) (tt G + z.length) := ⟨fun i _ => Fr_I a6 rfl, fun i _ => Fr_I a6 rfl, fun i _ => Fr_I a6 rfl, fun i _ => Fr_I a6 rfl, fun i _ => Fr_I a6 rfl⟩
  have ht : tt (G ++ [z]) = tt G + z.length := by rw [tt_app]; simp [tt]
  have hm : tm (G ++ [z]) = tm G + mb z := by rw [tm_app]; simp [tm]
  refine ⟨u', a1, ⟨by rw [Fr_I a6 rfl]; exact h1, by rw [Fr_I a6 rfl]; exact h4, by rw [Fr_I a6 rfl, p1, ht], by rw [a4]; rfl, by rw [Fr_I a6 rfl, p2, hm], by omega, by omega, by omega, by rw [Fr_I a6 rfl]; exact h49, by rw [ht, hm, Fr_I a6 rfl]; exact p3, hC, ⟨tt G, a2, a3, by rw [ht]; exact Nat.le_refl _, ?_⟩, ?_⟩, a6⟩
  · rw [hm]; exact SE_mono hAG2 (Nat.le_refl _) (Nat.le_refl _) (Nat.le_refl _) z _ (Nat.le_refl _) p6
  · exact SKs_mono hAG (Nat.le_refl _) (Nat.le_refl _) (by omega) (by omega) s (fun i hi => a5 i (by omega)) hS
theorem ov_push (s G : List Cs) (z : Cs) : ov (z :: s, G ++ [z]) ↔ (600 < tt G + z.length ∨ 6000 < tm G + mb z) := by
  unfold ov
  show (600 < tt (G ++ [z]) ∨ 6000 < tm (G ++ [z])) ↔ _
  rw [tt_app, tm_app]; simp [tt, tm]
theorem join_spec (b : Bool) {u : St} {x y : Cs} {s G : List Cs} {CT NL : Nat} (h : WY u (y :: x :: s) G CT NL) (hs : s.length + 2 ≤ 400) : (¬ ov (jn b x y :: s, G ++ [jn b x y]) ∧ ∃ u', (if b then fX10_both u else fX10_either u) = some (1, u') ∧ WY u' (jn b x y :: s) (G ++ [jn b x y]) CT NL ∧ Fr Pwo u u') ∨ (ov (jn b x y :: s, G ++ [jn b x y]) ∧ ∃ u', (if b then fX10_both u else fX10_either u) = some (0, u') ∧ Fr Pwo u u') := by
  obtain ⟨h1, h2, h3, h4, h5, h6, h7, h8, h9, h10, h11, h12⟩ := h
  obtain ⟨⟨ay, y1, y2, y3, y4⟩, ⟨ax, x1, x2, x3, x4⟩, h13⟩ := h12
  simp only [List.length_cons] at h4 y1 y2
  have Fa : Fr (fun k i => k == 6 && i == 10) u (uI u 6 10 (zI s.length)) := Fr_up rfl (Fr_rfl _ _)
  have e10 : I (uI u 6 10 (zI s.length)) 6 10 = s.length := I_uI1 _ _ _ _ (by omega) (by omega)
  obtain ⟨ua, hua⟩ : ∃ ua, uI u 6 10 (zI s.length) = ua := ⟨_, rfl⟩
  rw [hua] at Fa e10
  have hAG : AG u ua NL CT (tm G) (tt G) := ⟨fun i _ => Fr_I Fa rfl, fun i _ => Fr_I Fa rfl, fun i _ => Fr_I Fa rfl, fun i _ => Fr_I Fa rfl, fun i _ => Fr_I Fa rfl⟩
  have hP0 : PBc ua NL CT (tm G) (tt G) [] [] := ⟨by rw [Fr_I Fa rfl]; exact h3, by rw [Fr_I Fa rfl]; exact h5, by rw [Fr_I Fa rfl]; exact h10, by simpa using h7, by simpa [mb] using h8, trivial, trivial⟩
  have hSx : SE ua NL CT (tm G) ax x := SE_mono hAG (Nat.le_refl _) (Nat.le_refl _) (Nat.le_refl _) x ax x3 x4
  have hSy : SE ua NL CT (tm G) ay y := SE_mono hAG (Nat.le_refl _) (Nat.le_refl _) (Nat.le_refl _) y ay y3 y4
  -- behind the loops
  have fin : ∀ (u' : St) (z : Cs), PBc u' NL CT (tm G) (tt G) z [] → FW ua u' (tm G) (tt G) → ∃ u'', fX10_pushSet (zI (tt G)) u' = some (1, u'') ∧ WY u'' (z :: s) (G ++ [z]) CT NL ∧ Fr Pwo u u'' := by
    intro u' z hp hf
    have hAG2 : AG u u' NL CT (tm G) (tt G) := ⟨fun i hi => ((FW_AG (NL := NL) (CT := CT) hf).1 i hi).trans (hAG.1 i hi), fun i hi => ((FW_AG (NL := NL) (CT := CT) hf).2.1 i hi).trans (hAG.2.1 i hi), fun i hi => ((FW_AG (NL := NL) (CT := CT) hf).2.2.1 i hi).trans (hAG.2.2.1 i hi), fun i hi => (hf.2.1 i hi).trans (hAG.2.2.2.1 i hi), fun i hi => (hf.2.2 i hi).trans (hAG.2.2.2.2 i hi)⟩
    obtain ⟨u'', b1, b2', b3⟩ := WY_push (u := u') (s := s) (G := G) (CT := CT) (NL := NL) (z := z) (by omega) (by rw [Fr_I hf.1 rfl, Fr_I Fa rfl]; exact h1) (by rw [Fr_I hf.1 rfl, Fr_I Fa rfl]; exact h2) (by rw [Fr_I hf.1 rfl]; exact e10) (by omega) (by rw [Fr_I hf.1 rfl, Fr_I Fa rfl]; exact h9) h11 (SKs_mono hAG2 (Nat.le_refl _) (Nat.le_refl _) (Nat.le_refl _) (Nat.le_refl _) s (fun i _ => ⟨by rw [Fr_I hf.1 rfl, Fr_I Fa rfl], by rw [Fr_I hf.1 rfl, Fr_I Fa rfl]⟩) h13) hp
    exact ⟨u'', b1, b2', Fr_tr (Fr_up2 (fun k i hk => by simp at hk; simp [Pwo, hk]) Fa) (Fr_tr (Fr_up2 Pwy_Pwo hf.1) (Fr_up2 (fun k i hk => by simp at hk; simp [Pwo]; omega) b3))⟩
  have flt : ∀ u', FW ua u' (tm G) (tt G) → Fr Pwo u u' := fun u' hf => Fr_tr (Fr_up2 (fun k i hk => by simp at hk; simp [Pwo, hk]) Fa) (Fr_up2 Pwy_Pwo hf.1)
  have hlx : x.length ≤ 600 := by omega
  have hly : y.length ≤ 600 := by omega
  cases b with
  | true =>
    have hz : jn true x y = x ++ y := rfl
    rw [hz, ov_push, List.length_append, mb_app]
    have hst : (if true then fX10_both u else fX10_either u) = fX10_both_L0 FU 0 (zI (tt G)) (zI s.length) 0 ua := by
      show fX10_both u = _
      unfold fX10_both
      rw [gI_z u 6 10, h4, if_pos (by rw [z_lit, z_le (by decide) (by decide) (by omega) (by omega)]; omega), show (2 : Int32) = zI 2 from rfl, z_sub, show ((s.length + 1 + 1 : Nat) : Int) - 2 = s.length by omega, lt_e, hua, lt_e, lt_e, gI_z ua 6 7, Fr_I Fa rfl, h3, gI_z ua 6 10, e10]
    have s0 : ∀ (F p : Nat) (w : St), p ≤ s.length + 2 → I w 6 10 = s.length → fX10_both_L0 (F + 1) 0 (zI (tt G)) (zI p) 0 w = if s.length + 1 < p then (b2 (fX10_pushSet (zI (tt G)) w) fun r3 u2 => bd (zb r3) fun z4 => some (r3, u2)) else bd (ld w 53 400 (zI p)) fun v5 => fX10_both_L0 F 1 (zI (tt G)) (zI p) v5 w := by
      intro F p w hp hw
      have sx : fX10_both_L0 (F + 1) 0 (zI (tt G)) (zI p) 0 w = fX10_both_L0_0 (fX10_both_L0 F) (zI (tt G)) (zI p) w := rfl
      rw [sx]
      unfold fX10_both_L0_0
      rw [gI_z w 6 10, hw, show (1 : Int32) = zI 1 from rfl, z_add]
      by_cases hc : s.length + 1 < p
      · rw [if_pos (by rw [z_lt (by omega) (by omega) (by omega) (by omega)]; omega), if_pos hc]
      · rw [if_neg (by rw [z_lt (by omega) (by omega) (by omega) (by omega)]; omega), if_neg hc]
    obtain ⟨Fq, hFq⟩ : ∃ Fq, FU = (((Fq + 1) + (y.length + 1)) + 1 + (x.length + 1)) + 1 := ⟨FU - x.length - y.length - 5, by unfold FU; omega⟩
    rw [hst, hFq, s0 _ _ _ (by omega) e10, if_neg (by omega), ld_z _ _ _ _ (by omega) (by omega), bd_s, Int.toNat_natCast, Fr_I Fa rfl, x1]
    rcases bo_in (zI (tt G)) (show s.length < 400 by omega) h7 x [] ax (((Fq + 1) + (y.length + 1)) + 1) ua hP0 x3 (by rw [Fr_I Fa rfl]; exact x2) hSx with ⟨q1, u1, q2, q3, q4⟩ | ⟨q1, u1, q2, q3⟩
    · rw [q2, s0 _ _ _ (by omega) (by rw [Fr_I q4.1 rfl]; exact e10), if_neg (by omega), ld_z _ _ _ _ (by omega) (by omega), bd_s, Int.toNat_natCast, Fr_I q4.1 rfl, Fr_I Fa rfl, y1]
      rcases bo_in (zI (tt G)) (show s.length + 1 < 400 by omega) h7 y x ay (Fq + 1) u1 q3 y3 (by rw [Fr_I q4.1 rfl, Fr_I Fa rfl]; exact y2) (SE_mono (FW_AG q4) (Nat.le_refl _) (Nat.le_refl _) (Nat.le_refl _) y ay y3 hSy) with ⟨r1, u2, r2, r3, r4⟩ | ⟨r1, u2, r2, r3⟩
      · left
        rw [r2, s0 _ _ _ (by omega) (by rw [Fr_I r4.1 rfl, Fr_I q4.1 rfl]; exact e10), if_pos (by omega)]
        obtain ⟨u3, b1, b2', b3⟩ := fin u2 (x ++ y) r3 (FW_tr q4 r4)
        exact ⟨by omega, u3, by rw [b1, b2_s]; rfl, b2', b3⟩
      · right
        rw [r2]
        exact ⟨by omega, u2, rfl, flt u2 (FW_tr q4 r3)⟩
    · right
      rw [q2]
      simp only [mb, List.length_nil] at q1
      exact ⟨by omega, u1, rfl, flt u1 q3⟩
  | false =>
    have hz : jn false x y = prd x y := rfl
    rw [hz, ov_push]
    have hst : (if false then fX10_both u else fX10_either u) = fX10_either_L0 FU 0 (zI (tt G)) (zI ax) 0 ua := by
      show fX10_either u = _
      unfold fX10_either
      rw [gI_z u 6 10, h4, if_pos (by rw [z_lit, z_le (by decide) (by decide) (by omega) (by omega)]; omega), show (2 : Int32) = zI 2 from rfl, z_sub, show ((s.length + 1 + 1 : Nat) : Int) - 2 = s.length by omega, lt_e, hua, lt_e, gI_z ua 6 7, Fr_I Fa rfl, h3, gI_z ua 6 10, e10, ld_z _ _ _ _ (by omega) (by omega), bd_s, Int.toNat_natCast, Fr_I Fa rfl, x1]
    have hxy : x.length * (y.length + 2) ≤ 600 * 602 := Nat.mul_le_mul hlx (by omega)
    obtain ⟨Fq, hFq⟩ : ∃ Fq, FU = Fq + (x.length * (y.length + 2) + 1) := ⟨FU - (x.length * (y.length + 2) + 1), by unfold FU; omega⟩
    rw [hst, hFq]
    rcases ei_out (zI (tt G)) (show s.length + 1 < 400 by omega) h7 y3 x [] ax Fq ua hP0 e10 x3 (by rw [Fr_I Fa rfl]; exact x2) (by rw [Fr_I Fa rfl]; exact y1) (by rw [Fr_I Fa rfl]; exact y2) hSx hSy with ⟨q1, u1, q2, q3, q4⟩ | ⟨q1, u1, q2, q3⟩
    · left
      obtain ⟨u3, b1, b2', b3⟩ := fin u1 (prd x y) q3 q4
      simp only [mb, List.length_nil] at q1
      exact ⟨by omega, u3, by rw [q2, b1, b2_s]; rfl, b2', b3⟩
    · right
      simp only [mb, List.length_nil] at q1
      exact ⟨by omega, u1, q2, flt u1 q3⟩
