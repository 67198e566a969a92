/-! walks: the other methods -/
theorem enter_step (w : Nat) (hw : w < 3) (u : St) (L a : Nat) (ca : Int) (n : Nat) (hL : L < 222) (ht : I u (11 + w) 5 = (L : Int)) (ha : I u (20 + 3 * w) L = a) (hn : I u (22 + 3 * w) L = (n : Int) + 1) (haN : a < 20000) (hn1 : n < 1000000) (hc : I u 32 a = ca) :
    ∃ U, fX9_enter w u = some U ∧ (∀ i, I U (20 + 3 * w) i = if i = L then (a : Int) + 1 else I u (20 + 3 * w) i) ∧ (∀ i, I U (22 + 3 * w) i = if i = L then ((if ca < 0 then 0 else ca % 8) + n : Int) else I u (22 + 3 * w) i) ∧ (∀ k i, k ≠ 20 + 3 * w → k ≠ 22 + 3 * w → I U k i = I u k i) ∧ Fr (PW w) u U := by
  have b9 := I_lo u 32 a
  have b10 := I_hi u 32 a
  rw [hc] at b9 b10
  have b3 := Int.emod_nonneg ca (show (8 : Int) ≠ 0 by decide)
  have b4 := Int.emod_lt_of_pos ca (show (0 : Int) < 8 by decide)
  have b5 := I_lo u (22 + 3 * w) L
  have b6 := I_hi u (22 + 3 * w) L
  rw [hn] at b5 b6
  unfold fX9_enter
  by_cases hca : ca < 0
  · simp (disch := omega) only [z_lit, z_le, z_lt, z_eq, gI_z, ht, ld_z, st_z, bd_s, lt_e, z_add, z_sub, if_neg, if_pos, if_true, if_false, Int.toNat_natCast, ha, hn, hc, I_uI2, I_uI1, z_and7]
    refine ⟨_, rfl, ?_, ?_, ?_, ?_⟩
    · intro i
      by_cases h2 : i = L
      · subst h2; simp (disch := omega) only [I_uI1, I_uI2, if_pos, if_neg, if_true]
      · simp (disch := omega) only [I_uI1, I_uI2, if_pos, if_neg, if_true]
    · intro i
      by_cases h2 : i = L
      · subst h2; simp (disch := omega) only [I_uI1, I_uI2, if_pos, if_neg, if_true]; omega
      · simp (disch := omega) only [I_uI1, I_uI2, if_pos, if_neg, if_true]
    · intro k i h1 h2; rw [I_uI3 _ _ _ _ _ _ h2, I_uI3 _ _ _ _ _ _ h1]
    · repeat (first | exact Fr_rfl _ _ | refine Fr_up (by simp [PW]) ?_)
  · simp (disch := omega) only [z_lit, z_le, z_lt, z_eq, gI_z, ht, ld_z, st_z, bd_s, lt_e, z_add, z_sub, if_neg, if_pos, if_true, if_false, Int.toNat_natCast, ha, hn, hc, I_uI2, I_uI1, z_and7]
    refine ⟨_, rfl, ?_, ?_, ?_, ?_⟩
    · intro i
      by_cases h2 : i = L
      · subst h2; simp (disch := omega) only [I_uI1, I_uI2, if_pos, if_neg, if_true]
      · simp (disch := omega) only [I_uI1, I_uI2, if_pos, if_neg, if_true]
    · intro i
      by_cases h2 : i = L
      · subst h2; simp (disch := omega) only [I_uI1, I_uI2, if_pos, if_neg, if_true]; omega
      · simp (disch := omega) only [I_uI1, I_uI2, if_pos, if_neg, if_true]
    · intro k i h1 h2; rw [I_uI3 _ _ _ _ _ _ h2, I_uI3 _ _ _ _ _ _ h1]
    · repeat (first | exact Fr_rfl _ _ | refine Fr_up (by simp [PW]) ?_)
theorem sg_add {e : Nat → Nat} {N : Nat} (m n : Nat) : ∀ p, sg e N m p → sg e N n (it e m p) → sg e N (m + n) p := by
  induction m with
  | zero => intro p _ h; rw [Nat.zero_add]; exact h
  | succ m ih =>
    intro p h1 h2
    rw [Nat.succ_add]
    exact ⟨h1.1, h1.2.1, ih _ h1.2.2 h2⟩
theorem sg_count {e : Nat → Nat} {N n p : Nat} (h : sg e N n p) : p + n ≤ it e n p := by
  induction n generalizing p with
  | zero => exact Nat.le_refl _
  | succ n ih =>
    obtain ⟨h1, h2, h3⟩ := h
    have := ih h3
    simp only [it]; omega
theorem Sub_args {c : Nat → Int} {e : Nat → Nat} {N : Nat} {V : Int} {T : List (Nat × Nat × Int)} (hT : TOK c e N) {ws : List Nat} {x y : Nat × Int} (hx : Sub c e N V T ws x) (hy : y ∈ args c e x) : Sub c e N V T ws y := by
  have hN : x.1 < N := by cases ws <;> exact hx.1
  exact Sub_all hx (items_mem (hT _ hN).2.2.2.2 hy).2.1 (fun Q hQ => (Al_args hT hN hQ hy).2)
/-- THE CONTRACT of enter -/
theorem enter_spec {c : Nat → Int} {e : Nat → Nat} {N : Nat} {V : Int} {T : List (Nat × Nat × Int)} {ρ : Nat → Nat} (hT : TOK c e N) (hB : BOK c e N V T ρ) (w : Nat) (hw : w < 3) {u : St} {a : Nat} {b : Int} {n : Nat} {fs : List (Nat × Int × Nat)} {ws : List Nat} (hE : WE u c N V T) (hW : WOK w u c e N V T (a, b, n + 1) fs ws) :
    ∃ u', fX9_enter w u = some u' ∧ WOK w u' c e N V T (a + 1, b, ar c a + n) fs ws ∧ Fr (PW w) u u' := by
  have hlen := Ch_len hB ws hW.2.2.2
  have hl2 := hW.2.2.1.1
  have hn : n < 1000000 := by have := sg_count hW.2.2.1.2.1; have := (sg_le hW.2.2.1.2.1).2; have := hE.2.1; simp only at *; omega
  have hS : Sub c e N V T ws (a, b) := hW.2.2.1.2.2.1 (a, b) (by simp [items])
  have haN : a < N := by cases ws <;> exact hS.1
  obtain ⟨e1, e2, e3, e4⟩ := hE
  obtain ⟨U, h1, h2, h3, h4, h5⟩ := enter_step w hw u fs.length a (c a) n (by omega) hW.1 hW.2.1.1 (by have := hW.2.1.2.2.1; simpa using this) (by omega) hn (e1 a haN)
  refine ⟨U, h1, ⟨?_, ⟨?_, ?_, ?_, ?_⟩, ⟨hl2, ?_, ?_, hW.2.2.1.2.2.2⟩, hW.2.2.2⟩, h5⟩
  · rw [h4 _ _ (by omega) (by omega)]; exact hW.1
  · rw [h2]; simp
  · rw [h4 _ _ (by omega) (by omega)]; exact hW.2.1.2.1
  · rw [h3, if_pos rfl]
    show _ = ((ar c a + n : Nat) : Int)
    unfold ar
    by_cases hc : c a < 0
    · rw [if_pos hc, if_pos hc]; simp
    · rw [if_neg hc, if_neg hc]; omega
  · refine WA_eq fs fs.length (Nat.le_refl _) ?_ hW.2.1.2.2.2
    intro i hi
    rw [h2, h3, h4 _ _ (by omega) (by omega), if_neg (by omega), if_neg (by omega)]
    exact ⟨rfl, rfl, rfl⟩
  · refine sg_add _ _ _ (hT _ haN).2.2.2.2 ?_
    rw [← (hT _ haN).2.2.2.1]
    exact hW.2.2.1.2.1.2.2
  · intro x hx
    simp only [] at hx
    rw [args_items hT haN] at hx
    rcases List.mem_append.1 hx with hx | hx
    · exact Sub_args hT hS hx
    · exact hW.2.2.1.2.2.1 x (by simp only [items, List.mem_cons]; exact Or.inr hx)
theorem sg_split {e : Nat → Nat} {N : Nat} (m n : Nat) : ∀ p, sg e N (m + n) p → sg e N m p ∧ sg e N n (it e m p) := by
  induction m with
  | zero => intro p h; rw [Nat.zero_add] at h; have := sg_le h; exact ⟨by show p ≤ N; omega, h⟩
  | succ m ih =>
    intro p h
    rw [Nat.succ_add] at h
    have := ih _ h.2.2
    exact ⟨⟨h.1, h.2.1, this.1⟩, this.2⟩
theorem skip_end (w : Nat) (hw : w < 3) (rec : Nat → Int32 → Int32 → St → Option St) (u : St) (L n : Nat) (x2 : Int) (h0 : 0 ≤ x2) (h1 : x2 ≤ 200) (hL : L < 222) (ht : I u (11 + w) 5 = (L : Int)) (hn : I u (22 + 3 * w) L = (n : Int)) : fX9_skip_L0_0 w rec (zI n) (zI x2) u = some u := by
  have b5 := I_lo u (22 + 3 * w) L
  have b6 := I_hi u (22 + 3 * w) L
  rw [hn] at b5 b6
  unfold fX9_skip_L0_0
  by_cases h : x2 = 200
  · subst h
    simp (disch := omega) only [z_lit, z_le, if_pos, if_true]
  · simp (disch := omega) only [z_lit, z_le, if_neg, if_true, if_false, gI_z, ht, ld_z, bd_s, Int.toNat_natCast, hn, if_pos]
theorem skip_step (w : Nat) (hw : w < 3) (rec : Nat → Int32 → Int32 → St → Option St) (u U : St) (L n m : Nat) (x2 : Int) (h0 : 0 ≤ x2) (h1 : x2 < 200) (hL : L < 222) (ht : I u (11 + w) 5 = (L : Int)) (hn : I u (22 + 3 * w) L = (m : Int)) (hm : n < m) (hU : fX9_enter w u = some U) : fX9_skip_L0_0 w rec (zI n) (zI x2) u = rec 0 (zI n) (zI (x2 + 1)) U := by
  have b5 := I_lo u (22 + 3 * w) L
  have b6 := I_hi u (22 + 3 * w) L
  rw [hn] at b5 b6
  unfold fX9_skip_L0_0
  simp (disch := omega) only [z_lit, z_le, if_neg, if_false, gI_z, ht, ld_z, bd_s, Int.toNat_natCast, hn, hU, lt_e, z_add]
theorem skip_loop {c : Nat → Int} {e : Nat → Nat} {N : Nat} {V : Int} {T : List (Nat × Nat × Int)} {ρ : Nat → Nat} (hT : TOK c e N) (hB : BOK c e N V T ρ) (w : Nat) (hw : w < 3) (s : Nat) : ∀ (fuel : Nat) (x2 : Int) (u : St) (a : Nat) (b : Int) (n m : Nat) (fs : List (Nat × Int × Nat)) (ws : List Nat), it e m a ≤ a + s → s < fuel → 0 ≤ x2 → x2 + s ≤ 200 → WE u c N V T → WOK w u c e N V T (a, b, m + n) fs ws →
    ∃ u', fX9_skip_L0 w fuel 0 (zI n) (zI x2) u = some u' ∧ WOK w u' c e N V T (it e m a, b, n) fs ws ∧ Fr (PW w) u u' := by
  induction s with
  | zero =>
    intro fuel x2 u a b n m fs ws hs hf h0 h1 hE hW
    have hlen := Ch_len hB ws hW.2.2.2
    have hl2 := hW.2.2.1.1
    obtain ⟨f, rfl⟩ : ∃ f, fuel = f + 1 := ⟨fuel - 1, by omega⟩
    have hm : m = 0 := by
      have h3 := sg_count (sg_split m n a hW.2.2.1.2.1).1
      omega
    subst hm
    rw [Nat.zero_add] at hW
    exact ⟨u, skip_end w hw _ u fs.length n x2 h0 (by omega) (by omega) hW.1 hW.2.1.2.2.1, hW, Fr_rfl _ _⟩
  | succ s ih =>
    intro fuel x2 u a b n m fs ws hs hf h0 h1 hE hW
    have hlen := Ch_len hB ws hW.2.2.2
    have hl2 := hW.2.2.1.1
    obtain ⟨f, rfl⟩ : ∃ f, fuel = f + 1 := ⟨fuel - 1, by omega⟩
    cases m with
    | zero =>
      rw [Nat.zero_add] at hW
      exact ⟨u, skip_end w hw _ u fs.length n x2 h0 (by omega) (by omega) hW.1 hW.2.1.2.2.1, hW, Fr_rfl _ _⟩
    | succ m =>
      have hW1 : WOK w u c e N V T (a, b, (m + n) + 1) fs ws := by rw [show m + n + 1 = m + 1 + n by omega]; exact hW
      obtain ⟨U, u1, u2, u3⟩ := enter_spec hT hB w hw hE hW1
      have hE' : WE U c N V T := WE_fr u3 (fun i => PW_other i (by omega) (by omega) (by omega) (by omega)) (fun i => PW_other i (by omega) (by omega) (by omega) (by omega)) (fun i => PW_other i (by omega) (by omega) (by omega) (by omega)) hE
      have haN : a < N := hW1.2.2.1.2.1.1
      have hit : it e (ar c a + m) (a + 1) = it e (m + 1) a := by
        rw [it_add, ← (hT _ haN).2.2.2.1]; rfl
      obtain ⟨u', r1, r2, r3⟩ := ih f (x2 + 1) U (a + 1) b n (ar c a + m) fs ws (by rw [hit]; omega) (by omega) (by omega) (by omega) hE' (by rw [show ar c a + m + n = ar c a + (m + n) by omega]; exact u2)
      rw [hit] at r2
      refine ⟨u', ?_, r2, Fr_tr u3 r3⟩
      rw [← r1]
      exact skip_step w hw _ u U fs.length n (m + 1 + n) x2 h0 (by omega) (by omega) hW.1 hW.2.1.2.2.1 (by omega) u1
/-- THE CONTRACT of skip -/
theorem skip_spec {c : Nat → Int} {e : Nat → Nat} {N : Nat} {V : Int} {T : List (Nat × Nat × Int)} {ρ : Nat → Nat} (hT : TOK c e N) (hB : BOK c e N V T ρ) (w : Nat) (hw : w < 3) {u : St} {a : Nat} {b : Int} {n : Nat} {fs : List (Nat × Int × Nat)} {ws : List Nat} (hE : WE u c N V T) (hW : WOK w u c e N V T (a, b, n + 1) fs ws) :
    ∃ u', fX9_skip w u = some u' ∧ WOK w u' c e N V T (e a, b, n) fs ws ∧ Fr (PW w) u u' := by
  have hlen := Ch_len hB ws hW.2.2.2
  have hl2 := hW.2.2.1.1
  have haN : a < N := hW.2.2.1.2.1.1
  have hW1 : WOK w u c e N V T (a, b, 1 + n) fs ws := by rw [Nat.add_comm]; exact hW
  have h200 := (hT _ haN).2.2.1
  obtain ⟨u', r1, r2, r3⟩ := skip_loop hT hB w hw 200 FU 0 u a b n 1 fs ws h200 (by decide) (by decide) (by decide) hE hW1
  refine ⟨u', ?_, r2, r3⟩
  rw [← r1]
  unfold fX9_skip
  have ht := hW.1
  have hn : I u (22 + 3 * w) fs.length = (n : Int) + 1 := by have := hW.2.1.2.2.1; simpa using this
  have hn2 : (n : Int) + 1 - 1 = n := by omega
  simp (disch := omega) only [z_lit, gI_z, ht, ld_z, bd_s, Int.toNat_natCast, hn, lt_e, z_sub, hn2]
theorem begin_spec {c : Nat → Int} {e : Nat → Nat} {N : Nat} {V : Int} {T : List (Nat × Nat × Int)} (w : Nat) (hw : w < 3) (u : St) (a : Nat) (b : Int) (n : Nat) (ha : a < 100000) (hb1 : -2147483648 ≤ b) (hb2 : b < 2147483648) (hn : n < 1000) (hsg : sg e N n a) (hS : ∀ x ∈ items e n a b, Sub c e N V T [] x) :
    ∃ u', fX9_begin w (zI a) (zI b) (zI n) u = some u' ∧ WOK w u' c e N V T (a, b, n) [] [] ∧ Fr (PW w) u u' := by
  have e0 : (0 : Int).toNat = 0 := rfl
  unfold fX9_begin
  simp (disch := omega) only [z_lit, st_z, bd_s, lt_e, e0]
  refine ⟨_, rfl, ⟨?_, ⟨?_, ?_, ?_, trivial⟩, ⟨rfl, hsg, hS, trivial⟩, trivial⟩, ?_⟩
  · simp (disch := omega) only [I_uI1, I_uI2, List.length_nil]; rfl
  · simp (disch := omega) only [I_uI1, I_uI2, List.length_nil]
  · simp (disch := omega) only [I_uI1, I_uI2, List.length_nil]
  · simp (disch := omega) only [I_uI1, I_uI2, List.length_nil]
  · repeat (first | exact Fr_rfl _ _ | refine Fr_up (by simp [PW]) ?_)
theorem at_spec {c : Nat → Int} {e : Nat → Nat} {N : Nat} {V : Int} {T : List (Nat × Nat × Int)} {ρ : Nat → Nat} (hT : TOK c e N) (hB : BOK c e N V T ρ) (w : Nat) (hw : w < 3) {u : St} {a : Nat} {b : Int} {n : Nat} {fs : List (Nat × Int × Nat)} {ws : List Nat} (hE : WE u c N V T) (hW : WOK w u c e N V T (a, b, n + 1) fs ws) :
    fX9_variable w u = some (zI (if c a < 0 then b - 1 - c a else -1), u) ∧ fX9_symbol w u = some (zI (c a), u) ∧ fX9_cell w u = some (zI a, u) ∧ fX9_cellBase w u = some (zI b, u) := by
  have hlen := Ch_len hB ws hW.2.2.2
  have hl2 := hW.2.2.1.1
  have haN : a < N := hW.2.2.1.2.1.1
  have ht := hW.1
  have ha : I u (20 + 3 * w) fs.length = (a : Int) := hW.2.1.1
  have hb : I u (21 + 3 * w) fs.length = b := hW.2.1.2.1
  have hc : I u 32 a = c a := hE.1 a haN
  have hN := hE.2.1
  have b1 := I_lo u 32 a
  have b2 := I_hi u 32 a
  rw [hc] at b1 b2
  refine ⟨?_, ?_, ?_, ?_⟩
  · unfold fX9_variable
    by_cases hca : c a < 0
    · simp (disch := omega) only [z_lit, gI_z, ht, ld_z, bd_s, Int.toNat_natCast, ha, hb, hc, z_le, if_neg, if_false, if_pos, if_true, z_sub]
    · simp (disch := omega) only [z_lit, gI_z, ht, ld_z, bd_s, Int.toNat_natCast, ha, hb, hc, z_le, if_neg, if_false, if_pos, if_true, z_sub, z_neg]
  · unfold fX9_symbol; simp (disch := omega) only [z_lit, gI_z, ht, ld_z, bd_s, Int.toNat_natCast, ha, hb, hc]
  · unfold fX9_cell; simp (disch := omega) only [z_lit, gI_z, ht, ld_z, bd_s, Int.toNat_natCast, ha, hb, hc]
  · unfold fX9_cellBase; simp (disch := omega) only [z_lit, gI_z, ht, ld_z, bd_s, Int.toNat_natCast, ha, hb, hc]
