/-! reading: sets of clauses are joined, in the class -/
theorem bo_in {NL CT M0 T0 p : Nat} (x1 : Int32) (hp : p < 400) (hT0 : T0 ≤ 600) (r : Cs) : ∀ (y : Cs) (i Fu : Nat) (u : St), PBc u NL CT M0 T0 y [] → i + r.length ≤ T0 → I u 54 p = ((i + r.length : Nat) : Int) → SE u NL CT M0 i r → ((T0 + y.length + r.length ≤ 600 ∧ M0 + mb y + mb r ≤ 6000) ∧ ∃ u', fX10_both_L0 (Fu + (r.length + 1)) 1 x1 (zI p) (zI i) u = fX10_both_L0 Fu 0 x1 (zI ((p + 1 : Nat) : Int)) 0 u' ∧ PBc u' NL CT M0 T0 (y ++ r) [] ∧ FW u u' M0 T0) ∨ ((600 < T0 + y.length + r.length ∨ 6000 < M0 + mb y + mb r) ∧ ∃ u', fX10_both_L0 (Fu + (r.length + 1)) 1 x1 (zI p) (zI i) u = some (0, u') ∧ FW u u' M0 T0) := by
  induction r with
  | nil =>
    intro y i Fu u h hi h54 hS
    left
    have hh := h
    obtain ⟨h1, h2, h3, h4, h5, h6, h7⟩ := hh
    simp only [List.length_nil, Nat.add_zero] at h5 hi h54
    refine ⟨⟨by simpa using h4, by simpa [mb] using h5⟩, u, ?_, by simpa using h, FW_rfl _ _ _⟩
    have sx : fX10_both_L0 (Fu + 1) 1 x1 (zI p) (zI i) u = fX10_both_L0_1 (fX10_both_L0 Fu) x1 (zI p) (zI i) u := rfl
    show fX10_both_L0 (Fu + 1) 1 x1 (zI p) (zI i) u = _
    rw [sx]
    unfold fX10_both_L0_1
    rw [ld_z _ _ _ _ (by omega) (by omega), bd_s, Int.toNat_natCast, h54, if_pos (by rw [z_le (by omega) (by omega) (by omega) (by omega)]; omega), lt_e, show (1 : Int32) = zI 1 from rfl, z_add, show (p : Int) + 1 = ((p + 1 : Nat) : Int) by omega]
  | cons c r ih =>
    intro y i Fu u h hi h54 hS
    simp only [List.length_cons] at hi h54
    have sx : fX10_both_L0 (Fu + (r.length + 1) + 1) 1 x1 (zI p) (zI i) u = fX10_both_L0_1 (fX10_both_L0 (Fu + (r.length + 1))) x1 (zI p) (zI i) u := rfl
    have hstep : fX10_both_L0 (Fu + ((c :: r).length + 1)) 1 x1 (zI p) (zI i) u = b2 (fX10_copyMembers (zI i) u) fun r10 u9 => if r10 = 0 then (some (0, u9)) else b2 (fX10_endClause u9) fun r13 u12 => if r13 = 0 then (some (0, u12)) else fX10_both_L0 (Fu + (r.length + 1)) 1 x1 (zI p) (zI ((i + 1 : Nat) : Int)) u12 := by
      show fX10_both_L0 (Fu + (r.length + 1) + 1) 1 x1 (zI p) (zI i) u = _
      rw [sx]
      unfold fX10_both_L0_1
      rw [ld_z _ _ _ _ (by omega) (by omega), bd_s, Int.toNat_natCast, h54, if_neg (by rw [z_le (by omega) (by omega) (by omega) (by omega)]; omega)]
      simp only [lt_e]
      rw [show (1 : Int32) = zI 1 from rfl, z_add, show (i : Int) + 1 = ((i + 1 : Nat) : Int) by omega]
    rw [hstep]
    have hmr : mb (c :: r) = c.length + mb r := rfl
    have hlr : (c :: r).length = r.length + 1 := rfl
    have hln : (y ++ [c]).length = y.length + 1 := by simp
    have hmb : mb (y ++ [c]) = mb y + c.length := by rw [mb_app]; simp [mb]
    rcases copy_spec h (show i < T0 by omega) hS.1 with ⟨f1, u1, g1, g2, g3⟩ | ⟨f1, g1⟩
    · rw [g1, b2_s, if_neg (by decide)]
      rw [List.nil_append] at g2
      rcases endc_spec g2 with ⟨f2, u2, g4, g5, g6⟩ | ⟨f2, g4⟩
      · rw [g4, b2_s, if_neg (by decide)]
        have hF := FW_tr g3 g6
        rcases ih (y ++ [c]) (i + 1) Fu u2 g5 (by omega) (by rw [Fr_I hF.1 rfl, h54]; omega) (SE_mono (FW_AG hF) (Nat.le_refl _) (Nat.le_refl _) (Nat.le_refl _) r (i + 1) (by omega) hS.2) with ⟨q1, u3, q2, q3, q4⟩ | ⟨q1, u3, q2, q3⟩
        · left
          rw [hln, hmb] at q1
          refine ⟨by rw [hmr, hlr]; omega, u3, q2, by rw [List.append_assoc] at q3; exact q3, FW_tr hF q4⟩
        · right
          rw [hln, hmb] at q1
          exact ⟨by rw [hmr, hlr]; omega, u3, q2, FW_tr hF q3⟩
      · rw [g4, b2_s, if_pos rfl]
        exact Or.inr ⟨by rw [hlr]; omega, u1, rfl, g3⟩
    · rw [g1, b2_s, if_pos rfl]
      simp only [List.length_nil] at f1
      exact Or.inr ⟨by rw [hmr]; omega, u, rfl, FW_rfl _ _ _⟩
theorem ei_in {NL CT M0 T0 p k : Nat} {a : List Lt} (x1 : Int32) (hp : p + 1 < 400) (hT0 : T0 ≤ 600) (hk : k < T0) (r : Cs) : ∀ (y : Cs) (i Fu : Nat) (u : St), PBc u NL CT M0 T0 y [] → I u 6 10 = p → CLm u NL CT M0 k a → i + r.length ≤ T0 → I u 54 (p + 1) = ((i + r.length : Nat) : Int) → SE u NL CT M0 i r → ((T0 + y.length + r.length ≤ 600 ∧ M0 + mb y + mb (r.map (fun b => a ++ b)) ≤ 6000) ∧ ∃ u', fX10_either_L0 (Fu + (r.length + 1)) 1 x1 (zI k) (zI i) u = fX10_either_L0 Fu 0 x1 (zI ((k + 1 : Nat) : Int)) 0 u' ∧ PBc u' NL CT M0 T0 (y ++ r.map (fun b => a ++ b)) [] ∧ FW u u' M0 T0) ∨ ((600 < T0 + y.length + r.length ∨ 6000 < M0 + mb y + mb (r.map (fun b => a ++ b))) ∧ ∃ u', fX10_either_L0 (Fu + (r.length + 1)) 1 x1 (zI k) (zI i) u = some (0, u') ∧ FW u u' M0 T0) := by
  induction r with
  | nil =>
    intro y i Fu u h h10 hka hi h54 hS
    left
    have hh := h
    obtain ⟨h1, h2, h3, h4, h5, h6, h7⟩ := hh
    simp only [List.length_nil, Nat.add_zero] at h5 hi h54
    refine ⟨⟨by simpa using h4, by simpa [mb] using h5⟩, u, ?_, by simpa using h, FW_rfl _ _ _⟩
    have sx : fX10_either_L0 (Fu + 1) 1 x1 (zI k) (zI i) u = fX10_either_L0_1 (fX10_either_L0 Fu) x1 (zI k) (zI i) u := rfl
    show fX10_either_L0 (Fu + 1) 1 x1 (zI k) (zI i) u = _
    rw [sx]
    unfold fX10_either_L0_1
    rw [gI_z u 6 10, h10, show (1 : Int32) = zI 1 from rfl, z_add, show (p : Int) + 1 = ((p + 1 : Nat) : Int) by omega, ld_z _ _ _ _ (by omega) (by omega), bd_s, Int.toNat_natCast, h54, if_pos (by rw [z_le (by omega) (by omega) (by omega) (by omega)]; omega), lt_e, z_add, show (k : Int) + 1 = ((k + 1 : Nat) : Int) by omega]
  | cons c r ih =>
    intro y i Fu u h h10 hka hi h54 hS
    simp only [List.length_cons] at hi h54
    have sx : fX10_either_L0 (Fu + (r.length + 1) + 1) 1 x1 (zI k) (zI i) u = fX10_either_L0_1 (fX10_either_L0 (Fu + (r.length + 1))) x1 (zI k) (zI i) u := rfl
    have hstep : fX10_either_L0 (Fu + ((c :: r).length + 1)) 1 x1 (zI k) (zI i) u = b2 (fX10_copyMembers (zI k) u) fun r11 u10 => if r11 = 0 then (some (0, u10)) else b2 (fX10_copyMembers (zI i) u10) fun r10 u9 => if r10 = 0 then (some (0, u9)) else b2 (fX10_endClause u9) fun r13 u12 => if r13 = 0 then (some (0, u12)) else fX10_either_L0 (Fu + (r.length + 1)) 1 x1 (zI k) (zI ((i + 1 : Nat) : Int)) u12 := by
      show fX10_either_L0 (Fu + (r.length + 1) + 1) 1 x1 (zI k) (zI i) u = _
      rw [sx]
      unfold fX10_either_L0_1
      rw [gI_z u 6 10, h10, show (1 : Int32) = zI 1 from rfl, z_add, show (p : Int) + 1 = ((p + 1 : Nat) : Int) by omega, ld_z _ _ _ _ (by omega) (by omega), bd_s, Int.toNat_natCast, h54, if_neg (by rw [z_le (by omega) (by omega) (by omega) (by omega)]; omega)]
      simp only [lt_e]
      rw [z_add, show (i : Int) + 1 = ((i + 1 : Nat) : Int) by omega]
    rw [hstep]
    have hmr : mb ((c :: r).map (fun b => a ++ b)) = a.length + c.length + mb (r.map (fun b => a ++ b)) := by
      show (a ++ c).length + _ = _
      rw [List.length_append]
    have hlr : (c :: r).length = r.length + 1 := rfl
    have hln : (y ++ [a ++ c]).length = y.length + 1 := by simp
    have hmb : mb (y ++ [a ++ c]) = mb y + (a.length + c.length) := by rw [mb_app]; simp [mb]
    rcases copy_spec h hk hka with ⟨f1, u1, g1, g2, g3⟩ | ⟨f1, g1⟩
    · rw [g1, b2_s, if_neg (by decide)]
      rw [List.nil_append] at g2
      simp only [List.length_nil] at f1
      rcases copy_spec g2 (show i < T0 by omega) (CLm_mono (FW_AG g3) (Nat.le_refl _) (Nat.le_refl _) (Nat.le_refl _) (by omega) hS.1) with ⟨f2, u2, g4, g5, g6⟩ | ⟨f2, g4⟩
      · rw [g4, b2_s, if_neg (by decide)]
        rcases endc_spec g5 with ⟨f3, u3, g7, g8, g9⟩ | ⟨f3, g7⟩
        · rw [g7, b2_s, if_neg (by decide)]
          have hF := FW_tr g3 (FW_tr g6 g9)
          rcases ih (y ++ [a ++ c]) (i + 1) Fu u3 g8 (by rw [Fr_I hF.1 rfl]; exact h10) (CLm_mono (FW_AG hF) (Nat.le_refl _) (Nat.le_refl _) (Nat.le_refl _) hk hka) (by omega) (by rw [Fr_I hF.1 rfl, h54]; omega) (SE_mono (FW_AG hF) (Nat.le_refl _) (Nat.le_refl _) (Nat.le_refl _) r (i + 1) (by omega) hS.2) with ⟨q1, u4, q2, q3, q4⟩ | ⟨q1, u4, q2, q3⟩
          · left
            rw [hln, hmb] at q1
            refine ⟨by rw [hmr, hlr]; omega, u4, q2, by rw [List.append_assoc] at q3; exact q3, FW_tr hF q4⟩
          · right
            rw [hln, hmb] at q1
            exact ⟨by rw [hmr, hlr]; omega, u4, q2, FW_tr hF q3⟩
        · rw [g7, b2_s, if_pos rfl]
          exact Or.inr ⟨by rw [hlr]; omega, u2, rfl, FW_tr g3 g6⟩
      · rw [g4, b2_s, if_pos rfl]
        exact Or.inr ⟨by rw [hmr]; omega, u1, rfl, g3⟩
    · rw [g1, b2_s, if_pos rfl]
      simp only [List.length_nil] at f1
      exact Or.inr ⟨by rw [hmr]; omega, u, rfl, FW_rfl _ _ _⟩
theorem prd_cons (a : List Lt) (x y : Cs) : prd (a :: x) y = y.map (fun b => a ++ b) ++ prd x y := rfl
/-- all pairs of two sets -/
theorem ei_out {NL CT M0 T0 p s2 : Nat} {Y : Cs} (x1 : Int32) (hp : p + 1 < 400) (hT0 : T0 ≤ 600) (hs2 : s2 + Y.length ≤ T0) (r : Cs) : ∀ (y : Cs) (k Fu : Nat) (u : St), PBc u NL CT M0 T0 y [] → I u 6 10 = p → k + r.length ≤ T0 → I u 54 p = ((k + r.length : Nat) : Int) → I u 53 (p + 1) = s2 → I u 54 (p + 1) = ((s2 + Y.length : Nat) : Int) → SE u NL CT M0 k r → SE u NL CT M0 s2 Y → ((T0 + y.length + (prd r Y).length ≤ 600 ∧ M0 + mb y + mb (prd r Y) ≤ 6000) ∧ ∃ u', fX10_either_L0 (Fu + (r.length * (Y.length + 2) + 1)) 0 x1 (zI k) 0 u = (b2 (fX10_pushSet x1 u') fun r4 u3 => bd (zb r4) fun z5 => some (r4, u3)) ∧ PBc u' NL CT M0 T0 (y ++ prd r Y) [] ∧ FW u u' M0 T0) ∨ ((600 < T0 + y.length + (prd r Y).length ∨ 6000 < M0 + mb y + mb (prd r Y)) ∧ ∃ u', fX10_either_L0 (Fu + (r.length * (Y.length + 2) + 1)) 0 x1 (zI k) 0 u = some (0, u') ∧ FW u u' M0 T0) := by
  induction r with
  | nil =>
    intro y k Fu u h h10 hk h54 h53 h54' hS hY
    left
    have hh := h
    obtain ⟨h1, h2, h3, h4, h5, h6, h7⟩ := hh
    simp only [List.length_nil, Nat.add_zero] at h5 hk h54
    refine ⟨⟨by simpa [prd] using h4, by simpa [mb, prd] using h5⟩, u, ?_, by simpa [prd] using h, FW_rfl _ _ _⟩
    have e : Fu + (([] : Cs).length * (Y.length + 2) + 1) = Fu + 1 := by simp
    have sx : fX10_either_L0 (Fu + 1) 0 x1 (zI k) 0 u = fX10_either_L0_0 (fX10_either_L0 Fu) x1 (zI k) u := rfl
    rw [e, sx]
    unfold fX10_either_L0_0
    rw [gI_z u 6 10, h10, ld_z _ _ _ _ (by omega) (by omega), bd_s, Int.toNat_natCast, h54, if_pos (by rw [z_le (by omega) (by omega) (by omega) (by omega)]; omega)]
  | cons a r ih =>
    intro y k Fu u h h10 hk h54 h53 h54' hS hY
    simp only [List.length_cons] at hk h54
    have e : Fu + ((a :: r).length * (Y.length + 2) + 1) = ((Fu + (r.length * (Y.length + 2) + 1)) + (Y.length + 1)) + 1 := by
      simp only [List.length_cons]
      rw [Nat.succ_mul]; omega
    have sx : fX10_either_L0 (((Fu + (r.length * (Y.length + 2) + 1)) + (Y.length + 1)) + 1) 0 x1 (zI k) 0 u = fX10_either_L0_0 (fX10_either_L0 ((Fu + (r.length * (Y.length + 2) + 1)) + (Y.length + 1))) x1 (zI k) u := rfl
    have hstep : fX10_either_L0 (Fu + ((a :: r).length * (Y.length + 2) + 1)) 0 x1 (zI k) 0 u = fX10_either_L0 ((Fu + (r.length * (Y.length + 2) + 1)) + (Y.length + 1)) 1 x1 (zI k) (zI s2) u := by
      rw [e, sx]
      unfold fX10_either_L0_0
      rw [gI_z u 6 10, h10, ld_z _ _ _ _ (by omega) (by omega), bd_s, Int.toNat_natCast, h54, if_neg (by rw [z_le (by omega) (by omega) (by omega) (by omega)]; omega), show (1 : Int32) = zI 1 from rfl, z_add, show (p : Int) + 1 = ((p + 1 : Nat) : Int) by omega, ld_z _ _ _ _ (by omega) (by omega), bd_s, Int.toNat_natCast, h53]
    rw [hstep]
    have hpl : (prd (a :: r) Y).length = Y.length + (prd r Y).length := by rw [prd_cons, List.length_append, List.length_map]
    have hpm : mb (prd (a :: r) Y) = mb (Y.map (fun b => a ++ b)) + mb (prd r Y) := by rw [prd_cons, mb_app]
    rcases ei_in x1 hp hT0 (show k < T0 by omega) Y y s2 (Fu + (r.length * (Y.length + 2) + 1)) u h h10 hS.1 hs2 h54' hY with ⟨q1, u1, q2, q3, q4⟩ | ⟨q1, u1, q2, q3⟩
    · rw [q2]
      have hl2 : (y ++ Y.map (fun b => a ++ b)).length = y.length + Y.length := by simp
      have hm2 : mb (y ++ Y.map (fun b => a ++ b)) = mb y + mb (Y.map (fun b => a ++ b)) := mb_app _ _
      rcases ih (y ++ Y.map (fun b => a ++ b)) (k + 1) Fu u1 q3 (by rw [Fr_I q4.1 rfl]; exact h10) (by omega) (by rw [Fr_I q4.1 rfl, h54]; omega) (by rw [Fr_I q4.1 rfl]; exact h53) (by rw [Fr_I q4.1 rfl]; exact h54') (SE_mono (FW_AG q4) (Nat.le_refl _) (Nat.le_refl _) (Nat.le_refl _) r (k + 1) (by omega) hS.2) (SE_mono (FW_AG q4) (Nat.le_refl _) (Nat.le_refl _) (Nat.le_refl _) Y s2 hs2 hY) with ⟨p1, u2, p2, p3, p4⟩ | ⟨p1, u2, p2, p3⟩
      · left
        rw [hl2, hm2] at p1
        exact ⟨by rw [hpl, hpm]; omega, u2, p2, by rw [prd_cons, ← List.append_assoc]; exact p3, FW_tr q4 p4⟩
      · right
        rw [hl2, hm2] at p1
        exact ⟨by rw [hpl, hpm]; omega, u2, p2, FW_tr q4 p3⟩
    · rw [q2]
      exact Or.inr ⟨by rw [hpl, hpm]; omega, u1, rfl, q3⟩
