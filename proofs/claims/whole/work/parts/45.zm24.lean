/-! a clause comes into the tableau -/
def CL (u : St) (Q : Nat → Prop) : Nat → Int → Prop
  | 0, x => x = -1
  | r + 1, x => ∃ t : Nat, Q t ∧ x = t ∧ CL u Q r (I u 61 t)
theorem CL_eq {u u' : St} {Q Q' : Nat → Prop} (r : Nat) : ∀ x, (∀ t, Q t → I u' 61 t = I u 61 t) → (∀ t, Q t → Q' t) → CL u Q r x → CL u' Q' r x := by
  induction r with
  | zero => intro x _ _ h; exact h
  | succ r ih =>
    intro x h1 h2 h
    obtain ⟨t, t1, t2, t3⟩ := h
    exact ⟨t, h2 t t1, t2, by rw [h1 t t1]; exact ih _ h1 h2 t3⟩
theorem add1_step (rec : Nat → Int32 → Int32 → Int32 → Int32 → Int32 → Int32 → Int32 → St → Option (Int32 × St)) (u : St) (k a b j L : Nat) (g cn bh low V : Int) (x3 x4 : Int32) (hk : k < 100) (h18 : I u 18 (k + 1) = b) (hb : b ≤ 1200) (hj : a + j < b) (hL : L + j < 150) (h6 : I u 7 6 = L) (h7 : I u 7 7 = V) (hg0 : -2147483648 ≤ g) (hg1 : g < 2147483648) (hl0 : -2147483648 ≤ low) (hl1 : low < 2147483648) : ∃ U, fX5_add_L1_0 rec (zI k) (zI g) x3 x4 (zI low) (zI a) (zI ((a + j : Nat) : Int)) u = rec 0 (zI k) (zI g) x3 x4 (zI low) (zI a) (zI ((a + (j + 1) : Nat) : Int)) U ∧ (∀ i, I U 57 i = if i = L + j then ((a + j : Nat) : Int) else I u 57 i) ∧ (∀ i, I U 58 i = if i = L + j then V else I u 58 i) ∧ (∀ i, I U 59 i = if i = L + j then g else I u 59 i) ∧ (∀ i, I U 60 i = if i = L + j then low else I u 60 i) ∧ Fr (fun k _ => k == 57 || k == 58 || k == 59 || k == 60) u U := by
  have e1 : ((k : Int) + 1).toNat = k + 1 := by omega
  have e2 : ((L : Int) + ((a + j : Nat) : Int) - a).toNat = L + j := by omega
  have e3 : ((a + j : Nat) : Int) + 1 = ((a + (j + 1) : Nat) : Int) := by omega
  have b1 := I_lo u 7 7
  have b2 := I_hi u 7 7
  rw [h7] at b1 b2
  unfold fX5_add_L1_0
  simp (disch := omega) only [z_lit, z_add, ld_z, bd_s, e1, h18, z_le, if_neg, if_false, gI_z, h6, h7, z_sub, st_z, e2, I_uI2, lt_e, e3]
  refine ⟨_, rfl, ?_, ?_, ?_, ?_, ?_⟩
  · intro i
    by_cases h : i = L + j
    · subst h; simp (disch := omega) only [I_uI1, I_uI2, if_pos, if_true]
    · simp (disch := omega) only [I_uI1, I_uI2, if_neg, if_false]
  · intro i
    by_cases h : i = L + j
    · subst h; simp (disch := omega) only [I_uI1, I_uI2, if_pos, if_true]
    · simp (disch := omega) only [I_uI1, I_uI2, if_neg, if_false]
  · intro i
    by_cases h : i = L + j
    · subst h; simp (disch := omega) only [I_uI1, I_uI2, if_pos, if_true]
    · simp (disch := omega) only [I_uI1, I_uI2, if_neg, if_false]
  · intro i
    by_cases h : i = L + j
    · subst h; simp (disch := omega) only [I_uI1, I_uI2, if_pos, if_true]
    · simp (disch := omega) only [I_uI1, I_uI2, if_neg, if_false]
  · exact Fr_up rfl (Fr_up rfl (Fr_up rfl (Fr_up rfl (Fr_rfl _ _))))
theorem add1_loop (k a n L : Nat) (g low V : Int) (x3 x4 : Int32) (hk : k < 100) (hb : a + n ≤ 1200) (hL : L + n ≤ 150) (hg0 : -2147483648 ≤ g) (hg1 : g < 2147483648) (hl0 : -2147483648 ≤ low) (hl1 : low < 2147483648) (m : Nat) : ∀ (F j : Nat) (u : St), j + m = n → m < F → I u 18 (k + 1) = ((a + n : Nat) : Int) → I u 7 6 = L → I u 7 7 = V → ∃ U, fX5_add_L1 F 0 (zI k) (zI g) x3 x4 (zI low) (zI a) (zI ((a + j : Nat) : Int)) u = fX5_add_L0 FU 0 (zI k) x3 (zI a) x4 (zI (((a + n : Nat) : Int) - 1)) U ∧ (∀ i, I U 57 i = if L + j ≤ i ∧ i < L + n then (a : Int) + i - L else I u 57 i) ∧ (∀ i, I U 58 i = if L + j ≤ i ∧ i < L + n then V else I u 58 i) ∧ (∀ i, I U 59 i = if L + j ≤ i ∧ i < L + n then g else I u 59 i) ∧ (∀ i, I U 60 i = if L + j ≤ i ∧ i < L + n then low else I u 60 i) ∧ Fr (fun k _ => k == 57 || k == 58 || k == 59 || k == 60) u U := by
  induction m with
  | zero =>
    intro F j u hj hF h18 h6 h7
    obtain ⟨G, rfl⟩ : ∃ G, F = G + 1 := ⟨F - 1, by omega⟩
    have hjn : j = n := by omega
    subst hjn
    have e1 : ((k : Int) + 1).toNat = k + 1 := by omega
    refine ⟨u, ?_, ?_, ?_, ?_, ?_, Fr_rfl _ _⟩
    · show fX5_add_L1_0 (fX5_add_L1 G) (zI k) (zI g) x3 x4 (zI low) (zI a) (zI ((a + j : Nat) : Int)) u = _
      generalize fX5_add_L1 G = R
      unfold fX5_add_L1_0
      rw [show (1 : Int32) = zI 1 from rfl, z_add, ld_z _ _ _ _ (by omega) (by omega), bd_s, bd_s, e1, h18, if_pos (by rw [z_le (by omega) (by omega) (by omega) (by omega)]; omega), lt_e, z_sub]
    · intro i; rw [if_neg (by omega)]
    · intro i; rw [if_neg (by omega)]
    · intro i; rw [if_neg (by omega)]
    · intro i; rw [if_neg (by omega)]
  | succ m ih =>
    intro F j u hj hF h18 h6 h7
    obtain ⟨G, rfl⟩ : ∃ G, F = G + 1 := ⟨F - 1, by omega⟩
    obtain ⟨U, k1, k2, k3, k4, k5, k6⟩ := add1_step (fX5_add_L1 G) u k a (a + n) j L g 0 0 low V x3 x4 hk h18 hb (by omega) (by omega) h6 h7 hg0 hg1 hl0 hl1
    obtain ⟨U', r1, r2, r3, r4, r5, r6⟩ := ih G (j + 1) U (by omega) (by omega) (by rw [Fr_I k6 rfl]; exact h18) (by rw [Fr_I k6 rfl]; exact h6) (by rw [Fr_I k6 rfl]; exact h7)
    refine ⟨U', k1.trans r1, ?_, ?_, ?_, ?_, Fr_tr k6 r6⟩
    · intro i; rw [r2, k2]
      by_cases h : i = L + j
      · subst h; rw [if_neg (by omega), if_pos rfl, if_pos (by omega)]; omega
      · by_cases h2 : L + (j + 1) ≤ i ∧ i < L + n
        · rw [if_pos h2, if_pos (by omega)]
        · rw [if_neg h2, if_neg h, if_neg (by omega)]
    · intro i; rw [r3, k3]
      by_cases h : i = L + j
      · subst h; rw [if_neg (by omega), if_pos rfl, if_pos (by omega)]
      · by_cases h2 : L + (j + 1) ≤ i ∧ i < L + n
        · rw [if_pos h2, if_pos (by omega)]
        · rw [if_neg h2, if_neg h, if_neg (by omega)]
    · intro i; rw [r4, k4]
      by_cases h : i = L + j
      · subst h; rw [if_neg (by omega), if_pos rfl, if_pos (by omega)]
      · by_cases h2 : L + (j + 1) ≤ i ∧ i < L + n
        · rw [if_pos h2, if_pos (by omega)]
        · rw [if_neg h2, if_neg h, if_neg (by omega)]
    · intro i; rw [r5, k5]
      by_cases h : i = L + j
      · subst h; rw [if_neg (by omega), if_pos rfl, if_pos (by omega)]
      · by_cases h2 : L + (j + 1) ≤ i ∧ i < L + n
        · rw [if_pos h2, if_pos (by omega)]
        · rw [if_neg h2, if_neg h, if_neg (by omega)]
/-! one step of the descending loops -/
theorem add0_skip (rec : Nat → Int32 → Int32 → Int32 → Int32 → Int32 → St → Option (Int32 × St)) (u : St) (x1 x7 : Int32) (a i : Int) (h0 : 0 ≤ a) (h1 : a ≤ i) (h2 : i < 2000) : fX5_add_L0_0 rec x1 (zI i) (zI a) x7 (zI i) u = rec 0 x1 (zI i) (zI a) x7 (zI (i - 1)) u := by
  unfold fX5_add_L0_0
  have e1 : i + -1 = i - 1 := by omega
  simp (disch := omega) only [z_lit, z_lt, if_neg, if_false, if_true, lt_e, z_neg, z_add, e1]
theorem add0_step (rec : Nat → Int32 → Int32 → Int32 → Int32 → Int32 → St → Option (Int32 × St)) (u : St) (x1 : Int32) (a j L : Nat) (cn x : Int) (ha : a + j < 1200) (hL : L + j < 150) (h6 : I u 7 6 = L) (hc0 : -1 ≤ cn) (hc1 : cn < 2000) (hcn : cn ≠ ((a + j : Nat) : Int)) (hx0 : -1 ≤ x) (hx1 : x < 1000) : ∃ U, fX5_add_L0_0 rec x1 (zI cn) (zI a) (zI x) (zI ((a + j : Nat) : Int)) u = rec 0 x1 (zI cn) (zI a) (zI ((L + j : Nat) : Int)) (zI (((a + j : Nat) : Int) - 1)) U ∧ (∀ i, I U 61 i = if i = L + j then x else I u 61 i) ∧ Fr (fun k _ => k == 61) u U := by
  have e1 : ((a + j : Nat) : Int) + -1 = ((a + j : Nat) : Int) - 1 := by omega
  have e2 : ((L : Int) + ((a + j : Nat) : Int) - a) = ((L + j : Nat) : Int) := by omega
  unfold fX5_add_L0_0
  simp (disch := omega) only [z_lit, z_lt, if_neg, if_false, z_eq, gI_z, h6, z_add, z_sub, e2, st_z, bd_s, Int.toNat_natCast, I_uI2, lt_e, z_neg, e1]
  refine ⟨_, rfl, ?_, Fr_up rfl (Fr_rfl _ _)⟩
  intro i
  by_cases h : i = L + j
  · subst h; simp (disch := omega) only [I_uI1, I_uI2, if_pos, if_true]
  · simp (disch := omega) only [I_uI1, I_uI2, if_neg, if_false]
theorem add0_end (rec : Nat → Int32 → Int32 → Int32 → Int32 → Int32 → St → Option (Int32 × St)) (u : St) (k a n L : Nat) (cn x : Int32) (V nvk : Int) (hk : k < 100) (ha : a + n ≤ 1200) (hL : L + n ≤ 150) (h18 : I u 18 (k + 1) = ((a + n : Nat) : Int)) (h6 : I u 7 6 = L) (h7 : I u 7 7 = V) (h19 : I u 19 k = nvk) (hV0 : 0 ≤ V) (hV1 : V ≤ 220) (hn0 : 0 ≤ nvk) (hn1 : nvk ≤ 10) : ∃ U, fX5_add_L0_0 rec (zI k) cn (zI a) x (zI ((a : Int) - 1)) u = some (x, U) ∧ I U 7 6 = ((L + n : Nat) : Int) ∧ I U 7 7 = V + nvk ∧ Fr (fun k i => k == 7 && (i == 6 || i == 7)) u U := by
  have e1 : ((k : Int) + 1).toNat = k + 1 := by omega
  have e2 : (L : Int) + (((a + n : Nat) : Int) - a) = ((L + n : Nat) : Int) := by omega
  unfold fX5_add_L0_0
  simp (disch := omega) only [z_lit, z_lt, if_pos, if_true, z_add, ld_z, bd_s, e1, h18, gI_z, h6, z_sub, e2, lt_e, I_uI2, h7, Int.toNat_natCast, h19]
  refine ⟨_, rfl, ?_, ?_, Fr_up rfl (Fr_up rfl (Fr_rfl _ _))⟩
  · simp (disch := omega) only [I_uI1, I_uI2]
  · simp (disch := omega) only [I_uI1, I_uI2]
theorem comes_skip (G : Nat) (v : St) (x1 x3 x4 x6 : Int32) (i : Int) (h1 : 0 ≤ i) (h2 : i < 2000) : fX12_comes_L0 (G + 1) 0 x1 (zI i) x3 x4 x6 (zI i) 0 0 0 v = fX12_comes_L0 G 0 x1 (zI i) x3 x4 x6 (zI (i - 1)) 0 0 0 v := by
  show fX12_comes_L0_0 (fX12_comes_L0 G) x1 (zI i) x3 x4 x6 (zI i) v = _
  generalize fX12_comes_L0 G = R
  unfold fX12_comes_L0_0
  have e1 : i + -1 = i - 1 := by omega
  simp (disch := omega) only [z_lit, z_lt, if_neg, if_false, if_true, lt_e, z_neg, z_add, e1]
