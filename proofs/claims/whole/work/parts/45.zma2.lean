/-! reading: a literal comes, in the class -/
def LB (u : St) (CT : Nat) (lc : List Int) : Prop := I u 6 1 = ((CT + lc.length : Nat) : Int) ∧ RWl u 48 CT lc
def Plc : Nat → Nat → Bool := fun k i => k == 48 || (k == 6 && i == 1)
def FL (u u' : St) (CT : Nat) : Prop := Fr Plc u u' ∧ ∀ i, i < CT → I u' 48 i = I u 48 i
theorem FL_rfl (u : St) (CT : Nat) : FL u u CT := ⟨Fr_rfl _ _, fun _ _ => rfl⟩
theorem FL_tr {u u' u'' : St} {CT : Nat} (h : FL u u' CT) (h' : FL u' u'' CT) : FL u u'' CT := ⟨Fr_tr h.1 h'.1, fun i hi => (h'.2 i hi).trans (h.2 i hi)⟩
theorem addCell_spec {u : St} {CT : Nat} {lc : List Int} (z : Int) (h : LB u CT lc) (hC : CT + lc.length < 18000) (hz1 : -2147483648 ≤ z) (hz2 : z < 2147483648) : ∃ u', fX10_addCell (zI z) u = some u' ∧ LB u' CT (lc ++ [z]) ∧ FL u u' CT := by
  obtain ⟨h1, h2⟩ := h
  have e1 : I (uI u 48 (CT + lc.length) (zI z)) 6 1 = ((CT + lc.length : Nat) : Int) := by rw [I_uI3 _ _ _ _ _ _ (by decide)]; exact h1
  have hl : CT + (lc ++ [z]).length = CT + lc.length + 1 := by simp; omega
  have e48 : ∀ i, I (uI (uI u 48 (CT + lc.length) (zI z)) 6 1 (zI ((CT + lc.length + 1 : Nat) : Int))) 48 i = if i = CT + lc.length then z else I u 48 i := by
    intro i
    rw [I_uI3 _ _ _ _ _ _ (by decide), I_uI _ _ _ _ hz1 hz2]
    by_cases hi : i = CT + lc.length
    · rw [if_pos ⟨rfl, hi⟩, if_pos hi]
    · rw [if_neg (fun hh => hi hh.2), if_neg hi]
  refine ⟨uI (uI u 48 (CT + lc.length) (zI z)) 6 1 (zI ((CT + lc.length + 1 : Nat) : Int)), ?_, ⟨by rw [hl]; exact I_uI1 _ _ _ _ (by omega) (by omega), RWl_app _ _ _ (RWl_eq _ _ (fun i q1 q2 => by rw [e48, if_neg (by omega)]) h2) ⟨by rw [e48, if_pos rfl], trivial⟩⟩, Fr_up rfl (Fr_up rfl (Fr_rfl _ _)), fun i hi => by rw [e48, if_neg (by omega)]⟩
  unfold fX10_addCell
  rw [gI_z u 6 1, h1, if_neg (by rw [z_lit, z_le (by decide) (by decide) (by omega) (by omega)]; omega), st_z _ _ _ _ _ (by omega) (by omega), bd_s, Int.toNat_natCast, gI_z _ 6 1, e1, show (1 : Int32) = zI 1 from rfl, z_add, lt_e, show ((CT + lc.length : Nat) : Int) + 1 = ((CT + lc.length + 1 : Nat) : Int) by omega]
theorem RWl_take {u : St} {k : Nat} (l : List Int) : ∀ n p, RWl u k p l → RWl u k p (l.take n) := by
  induction l with
  | nil => intro n p _; simp only [List.take_nil]; trivial
  | cons z l ih =>
    intro n p h
    cases n with
    | zero => trivial
    | succ n => exact ⟨h.1, ih n (p + 1) h.2⟩
theorem arg_loop {CT b a k : Nat} (hk : k < 290) (ha : a < 2000) (hb : b < 2000) (r : List Int) : ∀ (j : Nat) (lc : List Int) (u : St) (Fu : Nat), RWl u 47 j r → j + r.length = k → LB u CT lc → CT + lc.length + r.length ≤ 18000 → ∃ u', fX0_literal_L0 (Fu + (r.length + 1)) 1 (zI b) (zI a) (zI k) (zI j) u = fX0_literal_L0 Fu 0 (zI b) (zI ((a + 1 : Nat) : Int)) 0 0 u' ∧ LB u' CT (lc ++ r) ∧ FL u u' CT := by
  induction r with
  | nil =>
    intro j lc u Fu hR hj hL hC
    simp only [List.length_nil, Nat.add_zero] at hj
    subst hj
    refine ⟨u, ?_, by simpa using hL, FL_rfl _ _⟩
    have sx : fX0_literal_L0 (Fu + 1) 1 (zI b) (zI a) (zI j) (zI j) u = fX0_literal_L0_1 (fX0_literal_L0 Fu) (zI b) (zI a) (zI j) (zI j) u := rfl
    show fX0_literal_L0 (Fu + 1) 1 (zI b) (zI a) (zI j) (zI j) u = _
    rw [sx]
    unfold fX0_literal_L0_1
    rw [if_pos (by rw [z_le (by omega) (by omega) (by omega) (by omega)]; omega), lt_e, show (1 : Int32) = zI 1 from rfl, z_add, show (a : Int) + 1 = ((a + 1 : Nat) : Int) by omega]
  | cons z r ih =>
    intro j lc u Fu hR hj hL hC
    simp only [List.length_cons] at hj hC
    have sx : fX0_literal_L0 (Fu + (r.length + 1) + 1) 1 (zI b) (zI a) (zI k) (zI j) u = fX0_literal_L0_1 (fX0_literal_L0 (Fu + (r.length + 1))) (zI b) (zI a) (zI k) (zI j) u := rfl
    have hz1 := I_lo u 47 j
    have hz2 := I_hi u 47 j
    rw [hR.1] at hz1 hz2
    obtain ⟨u1, g1, g2, g3⟩ := addCell_spec z hL (by omega) hz1 hz2
    obtain ⟨u2, q1, q2, q3⟩ := ih (j + 1) (lc ++ [z]) u1 Fu (RWl_eq r _ (fun i _ _ => Fr_I g3.1 rfl) hR.2) (by omega) g2 (by simp only [List.length_append, List.length_cons, List.length_nil]; omega)
    refine ⟨u2, ?_, by rw [List.append_assoc] at q2; exact q2, FL_tr g3 q3⟩
    show fX0_literal_L0 (Fu + (r.length + 1) + 1) 1 (zI b) (zI a) (zI k) (zI j) u = _
    rw [sx, ← q1]
    unfold fX0_literal_L0_1
    rw [if_neg (by rw [z_le (by omega) (by omega) (by omega) (by omega)]; omega), ld_z _ _ _ _ (by omega) (by omega), bd_s, Int.toNat_natCast, hR.1, g1, bd_s, lt_e, show (1 : Int32) = zI 1 from rfl, z_add, show (j : Int) + 1 = ((j + 1 : Nat) : Int) by omega]
/-- what a variable stands for may stand in a literal -/
def gv (ar : List Int) (m : Int) : Prop := m < 0 ∨ (m % 8 ≤ 5 ∧ m % 8 ≤ ar.length)
def LOK (u : St) (ρ : Nat → Int) (ar : List Int) (a b : Nat) : Prop := ∀ i, a ≤ i → i < b → -1501 ≤ I u 37 i ∧ (I u 37 i < 0 → gv ar (ρ (-1 - I u 37 i).toNat))
theorem cof_len (ρ : Nat → Int) (ar : List Int) (z : Int) (h : z < 0 → gv ar (ρ (-1 - z).toNat)) : (cof ρ ar z).length ≤ 6 := by
  unfold cof
  by_cases h0 : 0 ≤ z
  · rw [if_pos h0]; simp
  · rw [if_neg h0]
    rcases h (by omega) with hg | hg
    · rw [if_pos hg]; simp
    · by_cases hm : ρ (-1 - z).toNat < 0
      · rw [if_pos hm]; simp
      · rw [if_neg hm]; simp only [List.length_cons, List.length_take]; omega
theorem clit_loop {ρ : Nat → Int} {ar : List Int} {CT b : Nat} (hb : b ≤ 1501) (har : ar.length ≤ 290) (k : Nat) : ∀ (a : Nat) (lc : List Int) (u : St) (Fu : Nat), a + k = b → 8 * k < Fu → LB u CT lc → CT + lc.length + 6 * k ≤ 18000 → (∀ x, x < 1501 → I u 43 x = ρ x) → RWl u 47 0 ar → LOK u ρ ar a b → ∃ (u' : St) (F' : Nat), fX0_literal_L0 Fu 0 (zI b) (zI a) 0 0 u = fX0_literal_L0 (F' + 1) 0 (zI b) (zI b) 0 0 u' ∧ LB u' CT (lc ++ litc u ρ ar k a) ∧ FL u u' CT := by
  induction k with
  | zero =>
    intro a lc u Fu ha hFu hL hC hV hR hO
    have : a = b := by omega
    subst this
    obtain ⟨F', rfl⟩ : ∃ F', Fu = F' + 1 := ⟨Fu - 1, by omega⟩
    exact ⟨u, F', rfl, by simpa [litc] using hL, FL_rfl _ _⟩
  | succ k ih =>
    intro a lc u Fu ha hFu hL hC hV hR hO
    obtain ⟨F1, rfl⟩ : ∃ F1, Fu = F1 + 1 := ⟨Fu - 1, by omega⟩
    have sx : fX0_literal_L0 (F1 + 1) 0 (zI b) (zI a) 0 0 u = fX0_literal_L0_0 (fX0_literal_L0 F1) (zI b) (zI a) u := rfl
    obtain ⟨o1, o2⟩ := hO a (Nat.le_refl _) (by omega)
    have hcl := cof_len ρ ar (I u 37 a) o2
    have hstep : ∃ (u1 : St) (F2 : Nat), 8 * k < F2 ∧ fX0_literal_L0_0 (fX0_literal_L0 F1) (zI b) (zI a) u = fX0_literal_L0 F2 0 (zI b) (zI ((a + 1 : Nat) : Int)) 0 0 u1 ∧ LB u1 CT (lc ++ cof ρ ar (I u 37 a)) ∧ FL u u1 CT := by
      have pre : fX0_literal_L0_0 (fX0_literal_L0 F1) (zI b) (zI a) u = if zI (I u 37 a) < 0 then (bd (ld u 43 1501 ((-1) - zI (I u 37 a))) fun v11 => bd (fX10_addCell v11 u) fun u12 => if 0 ≤ v11 then (lt (v11 &&& 7 : Int32) fun x14 => lt (0 : Int32) fun x15 => fX0_literal_L0 F1 1 (zI b) (zI a) x14 x15 u12) else lt (0 : Int32) fun x16 => lt (0 : Int32) fun x17 => fX0_literal_L0 F1 1 (zI b) (zI a) x16 x17 u12) else bd (fX10_addCell (zI (I u 37 a)) u) fun u18 => lt (zI a + 1 : Int32) fun x19 => fX0_literal_L0 F1 0 (zI b) x19 0 0 u18 := by
        unfold fX0_literal_L0_0
        rw [if_neg (by rw [z_le (by omega) (by omega) (by omega) (by omega)]; omega), ld_z _ _ _ _ (by omega) (by omega), bd_s, Int.toNat_natCast]
      rw [pre]
      by_cases h0 : 0 ≤ I u 37 a
      · obtain ⟨u1, g1, g2, g3⟩ := addCell_spec (I u 37 a) hL (by omega) (I_lo _ _ _) (I_hi _ _ _)
        refine ⟨u1, F1, by omega, ?_, by unfold cof; rw [if_pos h0]; exact g2, g3⟩
        rw [if_neg (by rw [z_zero, z_lt (I_lo _ _ _) (I_hi _ _ _) (by decide) (by decide)]; omega), g1, bd_s, lt_e, show (1 : Int32) = zI 1 from rfl, z_add, show (a : Int) + 1 = ((a + 1 : Nat) : Int) by omega]
      · have hx : (-1 - I u 37 a).toNat < 1501 := by omega
        have hm := hV _ hx
        have hm1 := I_lo u 43 (-1 - I u 37 a).toNat
        have hm2 := I_hi u 43 (-1 - I u 37 a).toNat
        have hg := o2 (by omega)
        obtain ⟨m, hmm⟩ : ∃ m, ρ (-1 - I u 37 a).toNat = m := ⟨_, rfl⟩
        rw [hmm] at hm hg
        rw [hm] at hm1 hm2
        obtain ⟨u1, g1, g2, g3⟩ := addCell_spec m hL (by omega) hm1 hm2
        have p2 : (if zI (I u 37 a) < 0 then (bd (ld u 43 1501 ((-1) - zI (I u 37 a))) fun v11 => bd (fX10_addCell v11 u) fun u12 => if 0 ≤ v11 then (lt (v11 &&& 7 : Int32) fun x14 => lt (0 : Int32) fun x15 => fX0_literal_L0 F1 1 (zI b) (zI a) x14 x15 u12) else lt (0 : Int32) fun x16 => lt (0 : Int32) fun x17 => fX0_literal_L0 F1 1 (zI b) (zI a) x16 x17 u12) else bd (fX10_addCell (zI (I u 37 a)) u) fun u18 => lt (zI a + 1 : Int32) fun x19 => fX0_literal_L0 F1 0 (zI b) x19 0 0 u18) = fX0_literal_L0 F1 1 (zI b) (zI a) (zI (((if m < 0 then ([] : List Int) else ar.take (m % 8).toNat).length : Nat) : Int)) (zI (0 : Nat)) u1 := by
          rw [if_pos (by rw [z_zero, z_lt (I_lo _ _ _) (I_hi _ _ _) (by decide) (by decide)]; omega), show (-1 : Int32) = zI (-1) from rfl, z_sub, ld_z _ _ _ _ (by omega) (by omega), bd_s, hm, g1, bd_s, lt_e, lt_e, lt_e, lt_e]
          by_cases hneg : m < 0
          · rw [if_neg (by rw [z_zero, z_le (by decide) (by decide) hm1 hm2]; omega), if_pos hneg]; rfl
          · rw [if_pos (by rw [z_zero, z_le (by decide) (by decide) hm1 hm2]; omega), if_neg hneg, show (7 : Int32) = zI 7 from rfl, z_and7, List.length_take, show ((min (m % 8).toNat ar.length : Nat) : Int) = m % 8 by unfold gv at hg; omega]; rfl
        rw [p2]
        obtain ⟨r, hr⟩ : ∃ r, (if m < 0 then ([] : List Int) else ar.take (m % 8).toNat) = r := ⟨_, rfl⟩
        have hrl : r.length ≤ 5 := by
          rw [← hr]
          by_cases hneg : m < 0
          · rw [if_pos hneg]; simp
          · rw [if_neg hneg, List.length_take]; unfold gv at hg; omega
        have hrR : RWl u1 47 0 r := by
          rw [← hr]
          by_cases hneg : m < 0
          · rw [if_pos hneg]; trivial
          · rw [if_neg hneg]; exact RWl_take _ _ _ (RWl_eq _ _ (fun i _ _ => Fr_I g3.1 rfl) hR)
        rw [hr]
        obtain ⟨F2, rfl⟩ : ∃ F2, F1 = F2 + (r.length + 1) := ⟨F1 - (r.length + 1), by omega⟩
        obtain ⟨u2, q1, q2, q3⟩ := arg_loop (CT := CT) (b := b) (a := a) (k := r.length) (by omega) (by omega) (by omega) r 0 (lc ++ [m]) u1 F2 hrR (by omega) g2 (by simp only [List.length_append, List.length_cons, List.length_nil]; omega)
        refine ⟨u2, F2, by omega, q1, ?_, FL_tr g3 q3⟩
        unfold cof
        rw [if_neg h0, hmm, hr]
        rw [List.append_assoc] at q2; exact q2
    obtain ⟨u1, F2, s1, s2, s3, s4⟩ := hstep
    have e37 : ∀ i, I u1 37 i = I u 37 i := fun i => Fr_I s4.1 rfl
    obtain ⟨u2, F3, t1, t2, t3⟩ := ih (a + 1) (lc ++ cof ρ ar (I u 37 a)) u1 F2 (by omega) s1 s3 (by rw [List.length_append]; omega) (fun x hx => by rw [Fr_I s4.1 rfl]; exact hV x hx) (RWl_eq _ _ (fun i _ _ => Fr_I s4.1 rfl) hR) (fun i h1 h2 => by rw [e37]; exact hO i (by omega) h2)
    refine ⟨u2, F3, by rw [sx, s2, t1], ?_, FL_tr s4 t3⟩
    have hl : ∀ k a, litc u1 ρ ar k a = litc u ρ ar k a := by
      intro k
      induction k with
      | zero => intro a; rfl
      | succ k ih2 => intro a; simp only [litc]; rw [e37, ih2]
    rw [hl, List.append_assoc] at t2
    exact t2
theorem litc_len (u : St) (ρ : Nat → Int) (ar : List Int) (b : Nat) (k : Nat) : ∀ a, a + k = b → LOK u ρ ar a b → (litc u ρ ar k a).length ≤ 6 * k := by
  induction k with
  | zero => intro a _ _; simp [litc]
  | succ k ih =>
    intro a ha hO
    simp only [litc, List.length_append]
    have h1 := cof_len ρ ar (I u 37 a) (hO a (Nat.le_refl _) (by omega)).2
    have h2 := ih (a + 1) (by omega) (fun i h1 h2 => hO i (by omega) h2)
    omega
