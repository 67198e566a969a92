/-! the tails of the unifying loops -/
theorem lk_ext {T : List (Nat × Nat × Int)} {x w : Nat} {y y' : Nat × Int} (hx : lk T x = none) (h : lk T w = some y') : lk ((x, y) :: T) w = some y' := by
  simp only [lk]
  rw [if_neg (fun hh => by rw [hh, hx] at h; cases h)]
  exact h
theorem Sub_ext {c : Nat → Int} {e : Nat → Nat} {N : Nat} {V : Int} {T : List (Nat × Nat × Int)} {x : Nat} {y : Nat × Int} (hx : lk T x = none) {ws : List Nat} {z : Nat × Int} (h : Sub c e N V T ws z) : Sub c e N V ((x, y) :: T) ws z := by
  cases ws with
  | nil => exact h
  | cons w ws =>
    obtain ⟨h1, y', h2, h3⟩ := h
    exact ⟨h1, y', lk_ext hx h2, h3⟩
theorem Ch_ext {c : Nat → Int} {e : Nat → Nat} {N : Nat} {V : Int} {T : List (Nat × Nat × Int)} {x : Nat} {y : Nat × Int} (hx : lk T x = none) (ws : List Nat) (h : Ch c e N V T ws) : Ch c e N V ((x, y) :: T) ws := by
  induction ws with
  | nil => trivial
  | cons w ws ih =>
    obtain ⟨h1, ⟨z, h2, h3⟩, h4⟩ := h
    refine ⟨?_, ⟨z, Sub_ext hx h2, h3⟩, ih h4⟩
    cases hl : lk T w with
    | none => exact absurd hl h1
    | some y' => rw [lk_ext hx hl]; simp
theorem FV_ext {c : Nat → Int} {e : Nat → Nat} {N : Nat} {V : Int} {T : List (Nat × Nat × Int)} {x : Nat} {y : Nat × Int} (hx : lk T x = none) (fs : List (Nat × Int × Nat)) : ∀ ws, FV c e N V T fs ws → FV c e N V ((x, y) :: T) fs ws := by
  induction fs with
  | nil => intro _ _; trivial
  | cons f fs ih => intro ws h; exact ⟨h.1, h.2.1, fun z hz => Sub_ext hx (h.2.2.1 z hz), ih _ h.2.2.2⟩
theorem WOK_ext {c : Nat → Int} {e : Nat → Nat} {N : Nat} {V : Int} {T : List (Nat × Nat × Int)} {x : Nat} {y : Nat × Int} (hx : lk T x = none) {w : Nat} {u : St} {f : Nat × Int × Nat} {fs : List (Nat × Int × Nat)} {ws : List Nat} (h : WOK w u c e N V T f fs ws) : WOK w u c e N V ((x, y) :: T) f fs ws := ⟨h.1, h.2.1, FV_ext hx _ _ h.2.2.1, Ch_ext hx _ h.2.2.2⟩
theorem cu_three (G : Nat) (u u1 u2 : St) (h1 : fX9_skip 0 u = some u1) (h2 : fX9_skip 1 u1 = some u2) : fX8_unify_L0 (G + 1) 3 0 0 0 u = fX8_unify_L0 G 0 0 0 0 u2 := by
  show fX8_unify_L0_3 (fX8_unify_L0 G) u = _
  unfold fX8_unify_L0_3
  rw [h1, bd_s, h2, bd_s]
theorem cu_same (G : Nat) (u u1 u2 : St) (s : Int32) (h1 : fX9_skip 0 u = some u1) (h2 : fX9_skip 1 u1 = some u2) : fX8_unify_L0 (G + 2) 1 s s 0 u = fX8_unify_L0 G 0 0 0 0 u2 := by
  rw [← cu_three G u u1 u2 h1 h2]
  show fX8_unify_L0_1 (fX8_unify_L0 (G + 1)) s s u = _
  unfold fX8_unify_L0_1
  rw [if_pos rfl]
theorem cu_left (G : Nat) (u u1 : St) (s s2 r : Int) (hs0 : 0 ≤ s) (hs1 : s < 1000) (hs2 : -1 ≤ s2) (hs3 : s2 < 1000) (hne : s ≠ s2) (hr : r = 0 ∨ r = 1 ∨ r = 2) (h : fX8_stands (zI s) 1 u = some (zI r, u1)) : fX8_unify_L0 (G + 2) 1 (zI s) (zI s2) 0 u = if r = 0 then (bd (fX8_bind (zI s) (zI s2) u1) fun u29 => fX8_unify_L0 G 3 0 0 0 u29) else some (if r = 2 then 2 else 0, u1) := by
  have st1 : fX8_unify_L0 (G + 2) 1 (zI s) (zI s2) 0 u = fX8_unify_L0 (G + 1) 2 (zI s) (zI s2) (zI r) u1 := by
    show fX8_unify_L0_1 (fX8_unify_L0 (G + 1)) (zI s) (zI s2) u = _
    generalize fX8_unify_L0 (G + 1) = R
    unfold fX8_unify_L0_1
    simp (disch := omega) only [z_lit, z_eq, z_lt, if_neg, if_false, h, b2_s]
  rw [st1]
  show fX8_unify_L0_2 (fX8_unify_L0 G) (zI s) (zI s2) (zI r) u1 = _
  generalize fX8_unify_L0 G = R
  unfold fX8_unify_L0_2
  clear h st1
  rcases hr with hr | hr | hr <;> subst hr <;> simp (disch := omega) only [z_lit, z_eq, if_neg, if_false, if_pos, if_true]
theorem cu_right (G : Nat) (u u1 : St) (s2 r : Int) (hs2 : 0 ≤ s2) (hs3 : s2 < 1000) (hr : r = 0 ∨ r = 1 ∨ r = 2) (h : fX8_stands (zI s2) 0 u = some (zI r, u1)) : fX8_unify_L0 (G + 2) 1 (zI (-1)) (zI s2) 0 u = if r = 0 then (bd (fX8_bind (zI (-1)) (zI s2) u1) fun u29 => fX8_unify_L0 G 3 0 0 0 u29) else some (if r = 2 then 2 else 0, u1) := by
  have st1 : fX8_unify_L0 (G + 2) 1 (zI (-1)) (zI s2) 0 u = fX8_unify_L0 (G + 1) 2 (zI (-1)) (zI s2) (zI r) u1 := by
    show fX8_unify_L0_1 (fX8_unify_L0 (G + 1)) (zI (-1)) (zI s2) u = _
    generalize fX8_unify_L0 (G + 1) = R
    unfold fX8_unify_L0_1
    simp (disch := omega) only [z_lit, z_eq, z_lt, if_neg, if_false, if_pos, if_true, h, b2_s]
  rw [st1]
  show fX8_unify_L0_2 (fX8_unify_L0 G) (zI (-1)) (zI s2) (zI r) u1 = _
  generalize fX8_unify_L0 G = R
  unfold fX8_unify_L0_2
  clear h st1
  rcases hr with hr | hr | hr <;> subst hr <;> simp (disch := omega) only [z_lit, z_eq, if_neg, if_false, if_pos, if_true]
theorem stS_res {c : Nat → Int} {e : Nat → Nat} {T : List (Nat × Nat × Int)} {v : Int} (n : Nat) : ∀ l, (stS c e T v n l).1 = 0 ∨ (stS c e T v n l).1 = 1 ∨ (stS c e T v n l).1 = 2 := by
  induction n with
  | zero =>
    intro l
    cases l with
    | nil => exact Or.inl rfl
    | cons x l => exact Or.inr (Or.inr rfl)
  | succ n ih =>
    intro l
    cases l with
    | nil => exact Or.inl rfl
    | cons x l =>
      simp only [stS]
      by_cases hc : c (dr c T x).1 < 0 ∧ hv c (dr c T x) = v
      · rw [if_pos hc]; exact Or.inr (Or.inl rfl)
      · rw [if_neg hc]; exact ih _
theorem stS_le {c : Nat → Int} {e : Nat → Nat} {T : List (Nat × Nat × Int)} {v : Int} (n : Nat) : ∀ l, (stS c e T v n l).2 ≤ n := by
  induction n with
  | zero =>
    intro l
    cases l with
    | nil => exact Nat.le_refl _
    | cons x l => exact Nat.le_refl _
  | succ n ih =>
    intro l
    cases l with
    | nil => exact Nat.le_refl _
    | cons x l =>
      simp only [stS]
      by_cases hc : c (dr c T x).1 < 0 ∧ hv c (dr c T x) = v
      · rw [if_pos hc]; exact Nat.le_succ _
      · rw [if_neg hc]; exact Nat.le_succ_of_le (ih _)
theorem ru_left (G : Nat) (v v1 : St) (dx dy : Nat × Int) (s s2 : Int) (r : Int32) (hs0 : 0 ≤ s) (hs1 : s < 1000) (h : fX12_bound (zI s) (zI dy.1) (zI dy.2) v = some (r, v1)) (hr : r = 0 ∨ r = 1) : fX12_unifyAll_L0 (G + 2) 3 (zI dx.1) (zI dx.2) (zI dy.1) (zI dy.2) (zI s) (zI s2) 0 v = if r = 0 then some (0, v1) else fX12_unifyAll_L0 G 0 0 0 0 0 0 0 0 v1 := by
  show fX12_unifyAll_L0_3 (fX12_unifyAll_L0 (G + 1)) (zI dx.1) (zI dx.2) (zI dy.1) (zI dy.2) (zI s) (zI s2) v = _
  unfold fX12_unifyAll_L0_3
  rw [if_neg (show ¬ zI s < 0 by rw [z_zero, z_lt (by omega) (by omega) (by omega) (by omega)]; omega), h, b2_s]
  rcases hr with hr | hr
  · rw [if_pos hr, if_pos hr]
  · rw [if_neg (by rw [hr]; decide), if_neg (by rw [hr]; decide)]
    show fX12_unifyAll_L0_4 (fX12_unifyAll_L0 G) (zI dx.1) (zI dx.2) (zI dy.1) (zI dy.2) (zI s) (zI s2) v1 = _
    unfold fX12_unifyAll_L0_4
    rw [if_pos (show 0 ≤ zI s by rw [z_zero, z_le (by omega) (by omega) (by omega) (by omega)]; omega)]
theorem ru_right (G : Nat) (v v1 : St) (dx dy : Nat × Int) (s2 : Int) (r : Int32) (hs0 : 0 ≤ s2) (hs1 : s2 < 1000) (h : fX12_bound (zI s2) (zI dx.1) (zI dx.2) v = some (r, v1)) (hr : r = 0 ∨ r = 1) : fX12_unifyAll_L0 (G + 2) 3 (zI dx.1) (zI dx.2) (zI dy.1) (zI dy.2) (zI (-1)) (zI s2) 0 v = if r = 0 then some (0, v1) else fX12_unifyAll_L0 G 0 0 0 0 0 0 0 0 v1 := by
  show fX12_unifyAll_L0_3 (fX12_unifyAll_L0 (G + 1)) (zI dx.1) (zI dx.2) (zI dy.1) (zI dy.2) (zI (-1)) (zI s2) v = _
  unfold fX12_unifyAll_L0_3
  rw [if_pos (show zI (-1) < 0 by decide), if_neg (show ¬ zI s2 < 0 by rw [z_zero, z_lt (by omega) (by omega) (by omega) (by omega)]; omega), h, b2_s]
  rcases hr with hr | hr
  · rw [if_pos hr, if_pos hr]
  · rw [if_neg (by rw [hr]; decide), if_neg (by rw [hr]; decide)]
    show fX12_unifyAll_L0_4 (fX12_unifyAll_L0 G) (zI dx.1) (zI dx.2) (zI dy.1) (zI dy.2) (zI (-1)) (zI s2) v1 = _
    unfold fX12_unifyAll_L0_4
    rw [if_neg (show ¬ 0 ≤ zI (-1) by decide), if_pos (show 0 ≤ zI s2 by rw [z_zero, z_le (by omega) (by omega) (by omega) (by omega)]; omega)]
theorem ru_sym (G : Nat) (v v1 : St) (dx dy : Nat × Int) (t1 t2 : Int) (hdx : dx.1 < 20000) (hdy : dy.1 < 20000) (ht1 : I v 111 dx.1 = t1) (ht2 : I v 111 dy.1 = t2) (h : t1 = t2 → fX12_argumentsNext (zI dx.1) (zI dx.2) (zI dy.1) (zI dy.2) v = some v1) : fX12_unifyAll_L0 (G + 2) 3 (zI dx.1) (zI dx.2) (zI dy.1) (zI dy.2) (zI (-1)) (zI (-1)) 0 v = if t1 = t2 then fX12_unifyAll_L0 G 0 0 0 0 0 0 0 0 v1 else some (0, v) := by
  have b1 := I_lo v 111 dx.1
  have b2 := I_hi v 111 dx.1
  have b3 := I_lo v 111 dy.1
  have b4 := I_hi v 111 dy.1
  rw [ht1] at b1 b2
  rw [ht2] at b3 b4
  show fX12_unifyAll_L0_3 (fX12_unifyAll_L0 (G + 1)) (zI dx.1) (zI dx.2) (zI dy.1) (zI dy.2) (zI (-1)) (zI (-1)) v = _
  unfold fX12_unifyAll_L0_3
  rw [if_pos (show zI (-1) < 0 by decide), if_pos (show zI (-1) < 0 by decide), ld_z _ _ _ _ (by omega) (by omega), bd_s, ld_z _ _ _ _ (by omega) (by omega), bd_s, Int.toNat_natCast, Int.toNat_natCast, ht1, ht2]
  by_cases hc : t1 = t2
  · rw [if_pos (by rw [hc]), if_pos hc]
    show fX12_unifyAll_L0_4 (fX12_unifyAll_L0 G) (zI dx.1) (zI dx.2) (zI dy.1) (zI dy.2) (zI (-1)) (zI (-1)) v = _
    unfold fX12_unifyAll_L0_4
    rw [if_neg (show ¬ 0 ≤ zI (-1) by decide), if_neg (show ¬ 0 ≤ zI (-1) by decide), h hc, bd_s]
  · rw [if_neg (by rw [z_eq (by omega) (by omega) (by omega) (by omega)]; exact hc), if_neg hc]
