/-! reading: clauses on the way, in the class -/
def RWl (u : St) (k : Nat) : Nat → List Int → Prop
  | _, [] => True
  | p, z :: l => I u k p = z ∧ RWl u k (p + 1) l
theorem RWl_eq {u u' : St} {k : Nat} (l : List Int) : ∀ p, (∀ i, p ≤ i → i < p + l.length → I u' k i = I u k i) → RWl u k p l → RWl u' k p l := by
  induction l with
  | nil => intro _ _ _; trivial
  | cons z l ih =>
    intro p h hA
    exact ⟨(h p (Nat.le_refl _) (by simp)).trans hA.1, ih (p + 1) (fun i h1 h2 => h i (by omega) (by simp only [List.length_cons]; omega)) hA.2⟩
theorem RWl_app {u : St} {k : Nat} (l l' : List Int) : ∀ p, RWl u k p l → RWl u k (p + l.length) l' → RWl u k p (l ++ l') := by
  induction l with
  | nil => intro p _ h; exact h
  | cons z l ih =>
    intro p h h'
    refine ⟨h.1, ih (p + 1) h.2 ?_⟩
    rw [show p + 1 + l.length = p + (z :: l).length by simp only [List.length_cons]; omega]; exact h'
def LTm (u : St) (NL CT m : Nat) (l : Lt) : Prop := m < NL ∧ (l.1 = 0 ∨ l.1 = 1) ∧ I u 50 m = l.1 ∧ ∃ p : Nat, I u 49 m = p ∧ I u 49 (m + 1) = ((p + l.2.length : Nat) : Int) ∧ p + l.2.length ≤ CT ∧ RWl u 48 p l.2
def MB (u : St) (NL CT : Nat) : Nat → List Lt → Prop
  | _, [] => True
  | q, l :: c => (∃ m : Nat, I u 51 q = m ∧ LTm u NL CT m l) ∧ MB u NL CT (q + 1) c
def CLm (u : St) (NL CT M k : Nat) (c : List Lt) : Prop := ∃ q : Nat, I u 52 k = q ∧ I u 52 (k + 1) = ((q + c.length : Nat) : Int) ∧ q + c.length ≤ M ∧ MB u NL CT q c
def SE (u : St) (NL CT M : Nat) : Nat → Cs → Prop
  | _, [] => True
  | s, c :: x => CLm u NL CT M s c ∧ SE u NL CT M (s + 1) x
def AG (u u' : St) (NL CT M T : Nat) : Prop := (∀ i, i < CT → I u' 48 i = I u 48 i) ∧ (∀ i, i ≤ NL → I u' 49 i = I u 49 i) ∧ (∀ i, i < NL → I u' 50 i = I u 50 i) ∧ (∀ i, i < M → I u' 51 i = I u 51 i) ∧ (∀ i, i ≤ T → I u' 52 i = I u 52 i)
theorem LTm_mono {u u' : St} {NL CT M T NL' CT' m : Nat} {l : Lt} (h : AG u u' NL CT M T) (hN : NL ≤ NL') (hC : CT ≤ CT') (hl : LTm u NL CT m l) : LTm u' NL' CT' m l := by
  obtain ⟨a1, a2, a3, a4, a5⟩ := h
  obtain ⟨b1, b2, b3, p, b4, b5, b6, b7⟩ := hl
  exact ⟨by omega, b2, by rw [a3 m b1]; exact b3, p, by rw [a2 m (by omega)]; exact b4, by rw [a2 (m + 1) (by omega)]; exact b5, by omega, RWl_eq _ _ (fun i h1 h2 => a1 i (by omega)) b7⟩
theorem MB_mono {u u' : St} {NL CT M T NL' CT' : Nat} (h : AG u u' NL CT M T) (hN : NL ≤ NL') (hC : CT ≤ CT') (c : List Lt) : ∀ q, q + c.length ≤ M → MB u NL CT q c → MB u' NL' CT' q c := by
  induction c with
  | nil => intro _ _ _; trivial
  | cons l c ih =>
    intro q hq hA
    simp only [List.length_cons] at hq
    obtain ⟨⟨m, h1, h2⟩, h3⟩ := hA
    exact ⟨⟨m, by rw [h.2.2.2.1 q (by omega)]; exact h1, LTm_mono h hN hC h2⟩, ih (q + 1) (by omega) h3⟩
theorem CLm_mono {u u' : St} {NL CT M T NL' CT' M' k : Nat} {c : List Lt} (h : AG u u' NL CT M T) (hN : NL ≤ NL') (hC : CT ≤ CT') (hM : M ≤ M') (hk : k < T) (hc : CLm u NL CT M k c) : CLm u' NL' CT' M' k c := by
  obtain ⟨q, h1, h2, h3, h4⟩ := hc
  exact ⟨q, by rw [h.2.2.2.2 k (by omega)]; exact h1, by rw [h.2.2.2.2 (k + 1) (by omega)]; exact h2, by omega, MB_mono h hN hC c q h3 h4⟩
theorem SE_mono {u u' : St} {NL CT M T NL' CT' M' : Nat} (h : AG u u' NL CT M T) (hN : NL ≤ NL') (hC : CT ≤ CT') (hM : M ≤ M') (x : Cs) : ∀ s, s + x.length ≤ T → SE u NL CT M s x → SE u' NL' CT' M' s x := by
  induction x with
  | nil => intro _ _ _; trivial
  | cons c x ih =>
    intro s hs hA
    simp only [List.length_cons] at hs
    exact ⟨CLm_mono h hN hC hM (by omega) hA.1, ih (s + 1) (by omega) hA.2⟩
theorem SE_app {u : St} {NL CT M : Nat} (x y : Cs) : ∀ s, SE u NL CT M s x → SE u NL CT M (s + x.length) y → SE u NL CT M s (x ++ y) := by
  induction x with
  | nil => intro s _ h; exact h
  | cons c x ih =>
    intro s h h'
    refine ⟨h.1, ih (s + 1) h.2 ?_⟩
    rw [show s + 1 + x.length = s + (c :: x).length by simp only [List.length_cons]; omega]; exact h'
theorem MB_app {u : St} {NL CT : Nat} (x y : List Lt) : ∀ s, MB u NL CT s x → MB u NL CT (s + x.length) y → MB u NL CT s (x ++ y) := by
  induction x with
  | nil => intro s _ h; exact h
  | cons c x ih =>
    intro s h h'
    refine ⟨h.1, ih (s + 1) h.2 ?_⟩
    rw [show s + 1 + x.length = s + (c :: x).length by simp only [List.length_cons]; omega]; exact h'
def SKs (u : St) (NL CT M T : Nat) : List Cs → Prop
  | [] => True
  | x :: s => (∃ a : Nat, I u 53 s.length = a ∧ I u 54 s.length = ((a + x.length : Nat) : Int) ∧ a + x.length ≤ T ∧ SE u NL CT M a x) ∧ SKs u NL CT M T s
theorem SKs_mono {u u' : St} {NL CT M T NL' CT' M' T' : Nat} (h : AG u u' NL CT M T) (hN : NL ≤ NL') (hC : CT ≤ CT') (hM : M ≤ M') (hT : T ≤ T') (s : List Cs) : (∀ i, i < s.length → I u' 53 i = I u 53 i ∧ I u' 54 i = I u 54 i) → SKs u NL CT M T s → SKs u' NL' CT' M' T' s := by
  induction s with
  | nil => intro _ _; trivial
  | cons x s ih =>
    intro hA hB
    obtain ⟨⟨a, b1, b2, b3, b4⟩, b5⟩ := hB
    have := hA s.length (by simp)
    exact ⟨⟨a, by rw [this.1]; exact b1, by rw [this.2]; exact b2, by omega, SE_mono h hN hC hM x a b3 b4⟩, ih (fun i hi => hA i (by simp only [List.length_cons]; omega)) b5⟩
/-- the way's state: sets on its stack, all that were made -/
def WY (u : St) (s G : List Cs) (CT NL : Nat) : Prop := I u 6 1 = CT ∧ I u 6 4 = NL ∧ I u 6 7 = (tt G : Nat) ∧ I u 6 10 = s.length ∧ I u 6 11 = (tm G : Nat) ∧ NL ≤ tt G ∧ tt G ≤ 600 ∧ tm G ≤ 6000 ∧ I u 49 NL = CT ∧ I u 52 (tt G) = (tm G : Nat) ∧ CT ≤ 18000 ∧ SKs u NL CT (tm G) (tt G) s
/-- a clause that grows behind the clauses y -/
def PBc (u : St) (NL CT M0 T0 : Nat) (y : Cs) (c : List Lt) : Prop := I u 6 7 = ((T0 + y.length : Nat) : Int) ∧ I u 6 11 = ((M0 + mb y + c.length : Nat) : Int) ∧ I u 52 (T0 + y.length) = ((M0 + mb y : Nat) : Int) ∧ T0 + y.length ≤ 600 ∧ M0 + mb y + c.length ≤ 6000 ∧ SE u NL CT (M0 + mb y) T0 y ∧ MB u NL CT (M0 + mb y) c
def Pwy : Nat → Nat → Bool := fun k i => k == 51 || (k == 52 && i != 0) || (k == 6 && (i == 7 || i == 11))
def FW (u u' : St) (M0 T0 : Nat) : Prop := Fr Pwy u u' ∧ (∀ i, i < M0 → I u' 51 i = I u 51 i) ∧ (∀ i, i ≤ T0 → I u' 52 i = I u 52 i)
theorem FW_rfl (u : St) (M0 T0 : Nat) : FW u u M0 T0 := ⟨Fr_rfl _ _, fun _ _ => rfl, fun _ _ => rfl⟩
theorem FW_tr {u u' u'' : St} {M0 T0 : Nat} (h : FW u u' M0 T0) (h' : FW u' u'' M0 T0) : FW u u'' M0 T0 := ⟨Fr_tr h.1 h'.1, fun i hi => (h'.2.1 i hi).trans (h.2.1 i hi), fun i hi => (h'.2.2 i hi).trans (h.2.2 i hi)⟩
theorem FW_AG {u u' : St} {NL CT M0 T0 : Nat} (h : FW u u' M0 T0) : AG u u' NL CT M0 T0 := ⟨fun i _ => Fr_I h.1 rfl, fun i _ => Fr_I h.1 rfl, fun i _ => Fr_I h.1 rfl, h.2.1, h.2.2⟩
theorem I_uW (u : St) (k : Nat) (f : Nat → Int32) (k' i : Nat) : I (uW u k f) k' i = if k' = k then (f i).toInt else I u k' i := by
  unfold I gI uW va_up
  by_cases h : k' = k
  · subst h; simp
  · simp [h]
theorem Fr_uW {P : Nat → Nat → Bool} {u u' : St} {k : Nat} {f : Nat → Int32} (hk : ∀ i, P k i = true) (h : Fr P u u') : Fr P u (uW u' k f) := by
  intro k' i' hk'
  have hne : k' ≠ k := fun hh => by rw [hh, hk] at hk'; cases hk'
  refine ⟨?_, (h k' i' hk').2.1, (h k' i' hk').2.2⟩
  rw [← (h k' i' hk').1]
  unfold gI uW va_up
  simp [hne]
theorem cpA_z (u : St) (k n a b z : Nat) (h1 : a + z ≤ n) (h2 : b + z ≤ n) (hn : n < 2147483648) : cpA u k n (zI a) (zI b) (zI z) = some (uW u k (va_cpy (gI u k) (gI u k) a b z)) := by
  unfold cpA
  rw [z_clamp (by omega) (by omega), z_clamp (by omega) (by omega), z_clamp (by omega) (by omega), Int.toNat_natCast, Int.toNat_natCast, Int.toNat_natCast, z_zero, if_neg]
  intro hh
  have q : ∀ x : Nat, x < 2147483648 → ¬ zI (x : Int) < zI 0 := fun x hx => by rw [z_lt (by omega) (by omega) (by decide) (by decide)]; omega
  rcases hh with hh | hh | hh | hh | hh
  · exact q a (by omega) hh
  · exact q b (by omega) hh
  · exact q z (by omega) hh
  · omega
  · omega
theorem MB_copy {u u' : St} {NL CT M T : Nat} (h : AG u u' NL CT M T) (c : List Lt) : ∀ q p, (∀ j, j < c.length → I u' 51 (p + j) = I u 51 (q + j)) → MB u NL CT q c → MB u' NL CT p c := by
  induction c with
  | nil => intro _ _ _ _; trivial
  | cons l c ih =>
    intro q p hj hA
    obtain ⟨⟨m, h1, h2⟩, h3⟩ := hA
    refine ⟨⟨m, ?_, LTm_mono h (Nat.le_refl _) (Nat.le_refl _) h2⟩, ih (q + 1) (p + 1) (fun j hh => ?_) h3⟩
    · have := hj 0 (by simp); rw [Nat.add_zero, Nat.add_zero] at this; rw [this]; exact h1
    · have := hj (j + 1) (by simp only [List.length_cons]; omega)
      rw [show p + 1 + j = p + (j + 1) by omega, show q + 1 + j = q + (j + 1) by omega]; exact this
theorem copy_spec {u : St} {NL CT M0 T0 k : Nat} {y : Cs} {c c' : List Lt} (h : PBc u NL CT M0 T0 y c) (hk : k < T0) (hc : CLm u NL CT M0 k c') : (M0 + mb y + c.length + c'.length ≤ 6000 ∧ ∃ u', fX10_copyMembers (zI k) u = some (1, u') ∧ PBc u' NL CT M0 T0 y (c ++ c') ∧ FW u u' M0 T0) ∨ (6000 < M0 + mb y + c.length + c'.length ∧ fX10_copyMembers (zI k) u = some (0, u)) := by
  obtain ⟨h1, h2, h3, h4, h5, h6, h7⟩ := h
  obtain ⟨q, a1, a2, a3, a4⟩ := hc
  have pre : fX10_copyMembers (zI k) u = if zI ((M0 + mb y + c.length + c'.length : Nat) : Int) ≤ zI 6000 then (bd (cpA u 51 6000 (zI q) (zI ((M0 + mb y + c.length : Nat) : Int)) (zI c'.length)) fun u5 => lt (uI u5 6 11 ((gI u5 6 11) + zI c'.length)) fun u6 => some (1, u6)) else some (0, u) := by
    unfold fX10_copyMembers
    rw [ld_z _ _ _ _ (by omega) (by omega), bd_s, Int.toNat_natCast, a1, show (1 : Int32) = zI 1 from rfl, z_add, show (k : Int) + 1 = ((k + 1 : Nat) : Int) by omega, ld_z _ _ _ _ (by omega) (by omega), bd_s, Int.toNat_natCast, a2, z_sub, lt_e, gI_z u 6 11, h2, show ((q + c'.length : Nat) : Int) - (q : Int) = (c'.length : Int) by omega, z_add, show ((M0 + mb y + c.length : Nat) : Int) + (c'.length : Int) = ((M0 + mb y + c.length + c'.length : Nat) : Int) by omega]
    rfl
  rw [pre]
  have hq : (zI ((M0 + mb y + c.length + c'.length : Nat) : Int) ≤ zI 6000) = (((M0 + mb y + c.length + c'.length : Nat) : Int) ≤ 6000) := z_le (by omega) (by omega) (by decide) (by decide)
  by_cases hf : M0 + mb y + c.length + c'.length ≤ 6000
  · left
    refine ⟨hf, ?_⟩
    have f11 : I (uW u 51 (va_cpy (gI u 51) (gI u 51) q (M0 + mb y + c.length) c'.length)) 6 11 = ((M0 + mb y + c.length : Nat) : Int) := by rw [I_uW, if_neg (by decide)]; exact h2
    have F1 : Fr Pwy u (uI (uW u 51 (va_cpy (gI u 51) (gI u 51) q (M0 + mb y + c.length) c'.length)) 6 11 (zI ((M0 + mb y + (c ++ c').length : Nat) : Int))) := Fr_up rfl (Fr_uW (fun _ => rfl) (Fr_rfl _ _))
    have e51 : ∀ i, I (uI (uW u 51 (va_cpy (gI u 51) (gI u 51) q (M0 + mb y + c.length) c'.length)) 6 11 (zI ((M0 + mb y + (c ++ c').length : Nat) : Int))) 51 i = if M0 + mb y + c.length ≤ i ∧ i < M0 + mb y + c.length + c'.length then I u 51 (q + (i - (M0 + mb y + c.length))) else I u 51 i := by
      intro i
      rw [I_uI3 _ _ _ _ _ _ (by decide), I_uW, if_pos rfl]
      unfold va_cpy
      by_cases hi : M0 + mb y + c.length ≤ i ∧ i < M0 + mb y + c.length + c'.length
      · rw [if_pos hi, if_pos hi]; rfl
      · rw [if_neg hi, if_neg hi]; rfl
    have e52 : ∀ i, I (uI (uW u 51 (va_cpy (gI u 51) (gI u 51) q (M0 + mb y + c.length) c'.length)) 6 11 (zI ((M0 + mb y + (c ++ c').length : Nat) : Int))) 52 i = I u 52 i := fun i => by
      rw [I_uI3 _ _ _ _ _ _ (by decide), I_uW, if_neg (by decide)]
    refine ⟨uI (uW u 51 (va_cpy (gI u 51) (gI u 51) q (M0 + mb y + c.length) c'.length)) 6 11 (zI ((M0 + mb y + (c ++ c').length : Nat) : Int)), ?_, ?_, F1, fun i hi => by rw [e51, if_neg (by omega)], fun i _ => e52 i⟩
    · rw [if_pos (by rw [hq]; omega), cpA_z u 51 6000 q (M0 + mb y + c.length) c'.length (by omega) (by omega) (by decide), bd_s, lt_e, gI_z _ 6 11, f11, z_add, show ((M0 + mb y + c.length : Nat) : Int) + (c'.length : Int) = ((M0 + mb y + (c ++ c').length : Nat) : Int) by rw [List.length_append]; omega]
    · have hAG : AG u (uI (uW u 51 (va_cpy (gI u 51) (gI u 51) q (M0 + mb y + c.length) c'.length)) 6 11 (zI ((M0 + mb y + (c ++ c').length : Nat) : Int))) NL CT (M0 + mb y + c.length) 600 := ⟨fun i _ => Fr_I F1 rfl, fun i _ => Fr_I F1 rfl, fun i _ => Fr_I F1 rfl, fun i hi => by rw [e51, if_neg (by omega)], fun i _ => e52 i⟩
      have hAG2 : AG u (uI (uW u 51 (va_cpy (gI u 51) (gI u 51) q (M0 + mb y + c.length) c'.length)) 6 11 (zI ((M0 + mb y + (c ++ c').length : Nat) : Int))) NL CT (M0 + mb y) 600 := ⟨hAG.1, hAG.2.1, hAG.2.2.1, fun i hi => hAG.2.2.2.1 i (by omega), hAG.2.2.2.2⟩
      refine ⟨by rw [I_uI2 _ _ _ _ _ _ (by decide), I_uW, if_neg (by decide)]; exact h1, I_uI1 _ _ _ _ (by rw [List.length_append]; omega) (by rw [List.length_append]; omega), by rw [e52]; exact h3, h4, by rw [List.length_append]; omega, SE_mono hAG2 (Nat.le_refl _) (Nat.le_refl _) (Nat.le_refl _) y T0 h4 h6, MB_app _ _ _ (MB_mono hAG (Nat.le_refl _) (Nat.le_refl _) c _ (Nat.le_refl _) h7) (MB_copy hAG c' q _ (fun j hj => ?_) a4)⟩
      rw [e51, if_pos (by omega)]; congr 1; omega
  · right
    exact ⟨by omega, by rw [if_neg (by rw [hq]; omega)]⟩
theorem endc_spec {u : St} {NL CT M0 T0 : Nat} {y : Cs} {c : List Lt} (h : PBc u NL CT M0 T0 y c) : (T0 + y.length < 600 ∧ ∃ u', fX10_endClause u = some (1, u') ∧ PBc u' NL CT M0 T0 (y ++ [c]) [] ∧ FW u u' M0 T0) ∨ (T0 + y.length = 600 ∧ fX10_endClause u = some (0, u)) := by
  obtain ⟨h1, h2, h3, h4, h5, h6, h7⟩ := h
  by_cases hf : T0 + y.length < 600
  · left
    refine ⟨hf, ?_⟩
    have F1 : Fr Pwy u (uI (uI u 6 7 (zI ((T0 + y.length + 1 : Nat) : Int))) 52 (T0 + y.length + 1) (zI ((M0 + mb y + c.length : Nat) : Int))) := Fr_up rfl (Fr_up rfl (Fr_rfl _ _))
    have e7 : I (uI u 6 7 (zI ((T0 + y.length + 1 : Nat) : Int))) 6 7 = ((T0 + y.length + 1 : Nat) : Int) := I_uI1 _ _ _ _ (by omega) (by omega)
    have e11 : I (uI u 6 7 (zI ((T0 + y.length + 1 : Nat) : Int))) 6 11 = ((M0 + mb y + c.length : Nat) : Int) := by rw [I_uI2 _ _ _ _ _ _ (by decide)]; exact h2
    have e52 : ∀ i, I (uI (uI u 6 7 (zI ((T0 + y.length + 1 : Nat) : Int))) 52 (T0 + y.length + 1) (zI ((M0 + mb y + c.length : Nat) : Int))) 52 i = if i = T0 + y.length + 1 then ((M0 + mb y + c.length : Nat) : Int) else I u 52 i := by
      intro i
      rw [I_uI _ _ _ _ (by omega) (by omega)]
      by_cases hi : i = T0 + y.length + 1
      · rw [if_pos ⟨rfl, hi⟩, if_pos hi]
      · rw [if_neg (fun hh => hi hh.2), if_neg hi, I_uI3 _ _ _ _ _ _ (by decide)]
    have e51 : ∀ i, I (uI (uI u 6 7 (zI ((T0 + y.length + 1 : Nat) : Int))) 52 (T0 + y.length + 1) (zI ((M0 + mb y + c.length : Nat) : Int))) 51 i = I u 51 i := fun i => by rw [I_uI3 _ _ _ _ _ _ (by decide), I_uI3 _ _ _ _ _ _ (by decide)]
    have hAG : AG u (uI (uI u 6 7 (zI ((T0 + y.length + 1 : Nat) : Int))) 52 (T0 + y.length + 1) (zI ((M0 + mb y + c.length : Nat) : Int))) NL CT (M0 + mb y + c.length) (T0 + y.length) := ⟨fun i _ => Fr_I F1 rfl, fun i _ => Fr_I F1 rfl, fun i _ => Fr_I F1 rfl, fun i _ => e51 i, fun i hi => by rw [e52, if_neg (by omega)]⟩
    have hAG2 : AG u (uI (uI u 6 7 (zI ((T0 + y.length + 1 : Nat) : Int))) 52 (T0 + y.length + 1) (zI ((M0 + mb y + c.length : Nat) : Int))) NL CT (M0 + mb y) (T0 + y.length) := ⟨hAG.1, hAG.2.1, hAG.2.2.1, fun i _ => e51 i, hAG.2.2.2.2⟩
    have hmb : mb (y ++ [c]) = mb y + c.length := by rw [mb_app]; simp [mb]
    have hln : (y ++ [c]).length = y.length + 1 := by simp
    refine ⟨uI (uI u 6 7 (zI ((T0 + y.length + 1 : Nat) : Int))) 52 (T0 + y.length + 1) (zI ((M0 + mb y + c.length : Nat) : Int)), ?_, ⟨?_, ?_, ?_, by rw [hln]; omega, by rw [hmb, List.length_nil]; omega, SE_app _ _ _ ?_ ⟨?_, trivial⟩, trivial⟩, F1, fun i _ => e51 i, fun i hi => by rw [e52, if_neg (by omega)]⟩
    · unfold fX10_endClause
      rw [gI_z u 6 7, h1, if_pos (by rw [z_lit, z_lt (by omega) (by omega) (by decide) (by decide)]; omega), show (1 : Int32) = zI 1 from rfl, z_add, show ((T0 + y.length : Nat) : Int) + 1 = ((T0 + y.length + 1 : Nat) : Int) by omega, lt_e, gI_z _ 6 7, e7, gI_z _ 6 11, e11, st_z _ _ _ _ _ (by omega) (by omega), bd_s, Int.toNat_natCast]
    · rw [I_uI3 _ _ _ _ _ _ (by decide), e7, hln]; omega
    · rw [I_uI3 _ _ _ _ _ _ (by decide), e11, hmb, List.length_nil]; omega
    · rw [e52, hln, if_pos (by omega), hmb]; omega
    · rw [hmb]; exact SE_mono hAG2 (Nat.le_refl _) (Nat.le_refl _) (by omega) y T0 (Nat.le_refl _) h6
    · rw [hmb]
      refine ⟨M0 + mb y, by rw [e52, if_neg (by omega)]; exact h3, by rw [e52, if_pos rfl], by omega, MB_mono hAG (Nat.le_refl _) (Nat.le_refl _) c _ (Nat.le_refl _) h7⟩
  · right
    refine ⟨by omega, ?_⟩
    unfold fX10_endClause
    rw [gI_z u 6 7, h1, if_neg (by rw [z_lit, z_lt (by omega) (by omega) (by decide) (by decide)]; omega)]
