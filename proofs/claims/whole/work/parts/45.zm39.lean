/-! the loops of the search, below a start clause -/
def PRF (u v : St) (C : Nat) (fi ps : Nat → Nat) (nv c : Nat → Int) (e : Nat → Nat) : Prop := ∃ (φ : Nat → Nat) (Gd : Nat → Prop) (T : List (Nat × Nat × Int)) (L J : Nat) (V : Int) (n : Nat), TB u v φ L J V C fi nv Gd ∧ UE u v c e (ps (fi C)) V T ∧ L ≤ 150 ∧ J ≤ L ∧ 0 ≤ V ∧ (V ≤ 200 ∧ ∀ k : Nat, I u 67 0 = k → nv k ≤ V) ∧ I u 9 9 = n ∧ n ≤ 150 ∧ I v 100 105 = ((n + 1 : Nat) : Int) ∧ ST u v C ∧ ∀ f, f < n → MVg u v φ C fi f L ∧ ∃ g : Nat, I u 66 (f + 1) = g ∧ Gd g
theorem FS_mv {u v : St} {φ : Nat → Nat} {C : Nat} {fi : Nat → Nat} {nv c : Nat → Int} {e : Nat → Nat} {N : Nat} (n : Nat) : ∀ (T : List (Nat × Nat × Int)) (L J : Nat) (V : Int) (Gd : Nat → Prop), FS u v φ C fi nv c e N n T L J V Gd → ST u v C ∧ (∀ f, f + 1 < n → MVg u v φ C fi f L) ∧ ∀ f, f < n → ∃ g : Nat, I u 66 (f + 1) = g ∧ Gd g := by
  induction n with
  | zero => intro T L J V Gd h; exact ⟨h.2.2.2.2.2, fun f hf => by omega, fun f hf => by omega⟩
  | succ n ih =>
    intro T L J V Gd h
    obtain ⟨⟨g, r, a1⟩, a2, a3, a4, a5, a6, a7, a8, X, T', L', J', V', Gd', b1, b2, b3, b4, b5, b6, b7⟩ := h
    obtain ⟨c1, c2, c3⟩ := ih T' L' J' V' Gd' b7
    refine ⟨c1, fun f hf => ?_, fun f hf => ?_⟩
    · by_cases hfn : f + 1 = n
      · subst hfn
        exact MVg_pres (fun _ _ => rfl) (fun _ _ => rfl) (fun _ _ => rfl) (fun _ _ => rfl) b2 b6
      · exact MVg_pres (fun _ _ => rfl) (fun _ _ => rfl) (fun _ _ => rfl) (fun _ _ => rfl) b2 (c2 f (by omega))
    · by_cases hfn : f = n
      · subst hfn; exact ⟨g, a1.2.1, a1.1⟩
      · obtain ⟨g', g1, g2⟩ := c3 f (by omega)
        exact ⟨g', g1, b5 g' g2⟩
theorem rs_try (G n : Nat) (v v' : St) (r : Int32) (hn : 0 < n) (hn2 : n < 1000) (h120 : I v 100 120 = n) (h98 : I v 100 98 = 0) (h99 : I v 100 99 = 0) (h : fX12_tryNext v = some (r, v')) : fX12_solve_L0 (G + 1) 1 0 0 v = fX12_solve_L0 G 1 0 r v' := by
  have st : fX12_solve_L0 (G + 1) 1 0 0 v = fX12_solve_L0_1 (fX12_solve_L0 G) 0 v := rfl
  rw [st]
  unfold fX12_solve_L0_1
  rw [if_pos rfl, gI_z v 100 120, h120, if_neg (by rw [z_zero, z_le (by omega) (by omega) (by decide) (by decide)]; omega), gI_z v 100 98, h98, if_pos q0, gI_z v 100 99, h99, if_pos q0, h, b2_s]
theorem rs_two (G : Nat) (v : St) : fX12_solve_L0 (G + 1) 2 0 0 v = some (0, v) := by
  have st : fX12_solve_L0 (G + 1) 2 0 0 v = fX12_solve_L0_2 (fX12_solve_L0 G) 0 v := rfl
  rw [st]
  unfold fX12_solve_L0_2
  rw [if_pos rfl]
theorem rs_stop (G : Nat) (v : St) (h : I v 100 120 = 0 ∨ I v 100 98 = 1 ∨ I v 100 99 = 1) : fX12_solve_L0 (G + 2) 1 0 0 v = some (0, v) := by
  have st : fX12_solve_L0 (G + 2) 1 0 0 v = fX12_solve_L0_1 (fX12_solve_L0 (G + 1)) 0 v := rfl
  rw [st]
  unfold fX12_solve_L0_1
  rw [if_pos rfl]
  by_cases h1 : gI v 100 120 ≤ 0
  · rw [if_pos h1]; exact rs_two G v
  · rw [if_neg h1]
    by_cases h2 : gI v 100 98 = 0
    · rw [if_pos h2]
      by_cases h3 : gI v 100 99 = 0
      · exfalso
        rcases h with h | h | h
        · exact h1 (by rw [gI_z, h]; decide)
        · rw [gI_z, h] at h2; exact absurd h2 (by decide)
        · rw [gI_z, h] at h3; exact absurd h3 (by decide)
      · rw [if_neg h3]; exact rs_two G v
    · rw [if_neg h2]; exact rs_two G v
theorem rs_on (G : Nat) (v : St) (y : Int) (h98 : I v 100 98 = 0) (h99 : I v 100 99 = 0) (h130 : I v 100 130 = y) : fX12_solve_L0 (G + 2) 1 0 1 v = fX12_solve_L0 G 0 (zI y) 0 v := by
  have st : fX12_solve_L0 (G + 2) 1 0 1 v = fX12_solve_L0_1 (fX12_solve_L0 (G + 1)) 1 v := rfl
  have st2 : fX12_solve_L0 (G + 1) 2 0 1 v = fX12_solve_L0_2 (fX12_solve_L0 G) 1 v := rfl
  rw [st]
  unfold fX12_solve_L0_1
  rw [if_neg (by decide), st2]
  unfold fX12_solve_L0_2
  rw [if_neg (by decide), gI_z v 100 98, h98, if_pos q0, gI_z v 100 99, h99, if_pos q0, gI_z, h130, lt_e]
theorem rs_done (G : Nat) (v : St) : fX12_solve_L0 (G + 1) 0 (zI (-1)) 0 v = some (1, v) := by
  have st : fX12_solve_L0 (G + 1) 0 (zI (-1)) 0 v = fX12_solve_L0_0 (fX12_solve_L0 G) (zI (-1)) v := rfl
  rw [st]
  unfold fX12_solve_L0_0
  rw [if_pos (by decide)]
theorem rs_rep (G : Nat) (v v' : St) (g : Nat) (hg : g < 1000) (h : fX12_repeats (zI g) v = some (zI 1, v')) : fX12_solve_L0 (G + 1) 0 (zI g) 0 v = fX12_solve_L0 G 1 0 0 v' := by
  have st : fX12_solve_L0 (G + 1) 0 (zI g) 0 v = fX12_solve_L0_0 (fX12_solve_L0 G) (zI g) v := rfl
  rw [st]
  unfold fX12_solve_L0_0
  rw [if_neg (by rw [z_zero, z_lt (by omega) (by omega) (by decide) (by decide)]; omega), lt_e, h, b2_s, if_neg (by decide)]
theorem rs_new (G : Nat) (v v' v2 : St) (g n : Nat) (hg : g < 1000) (h : fX12_repeats (zI g) v = some (zI 0, v')) (he : fX12_enter (zI g) v' = some v2) (hn : 0 < n) (hn2 : n < 1000) (h120 : I v2 100 120 = n) (h98 : I v2 100 98 = 0) (h99 : I v2 100 99 = 0) : fX12_solve_L0 (G + 1) 0 (zI g) 0 v = fX12_solve_L0 (G + 1) 1 0 0 v2 := by
  have st : fX12_solve_L0 (G + 1) 0 (zI g) 0 v = fX12_solve_L0_0 (fX12_solve_L0 G) (zI g) v := rfl
  have st2 : fX12_solve_L0 (G + 1) 1 0 0 v2 = fX12_solve_L0_1 (fX12_solve_L0 G) 0 v2 := rfl
  rw [st, st2]
  unfold fX12_solve_L0_0 fX12_solve_L0_1
  rw [if_neg (by rw [z_zero, z_lt (by omega) (by omega) (by decide) (by decide)]; omega), lt_e, h, b2_s, if_pos q0, he, bd_s, if_pos rfl, gI_z v2 100 120, h120, if_neg (by rw [z_zero, z_le (by omega) (by omega) (by decide) (by decide)]; omega), gI_z v2 100 98, h98, if_pos q0, gI_z v2 100 99, h99, if_pos q0]
/-! what the class does behind a try -/
theorem ct_fail (R : Nat → Int32 → St → Option (Int32 × St)) (x1 : Int) (u : St) (f : Nat) (hf : f < 1000) (h99 : I u 9 9 = ((f + 1 : Nat) : Int)) : CT R (zI x1) (zI 3) u = R 0 (zI (x1 + 1)) (uI u 9 9 (zI f)) := by
  unfold CT
  rw [if_pos (show zI 3 = 3 from rfl), lt_e, lt_e, gI_z, h99, show (1 : Int32) = zI 1 from rfl, z_sub, z_add, show ((f + 1 : Nat) : Int) - 1 = f by omega]
theorem ct_out (R : Nat → Int32 → St → Option (Int32 × St)) (x1 : Int32) (u : St) (a : Int) (ha : a = -6 ∨ a = -7) : CT R x1 (zI a) u = some (zI a, u) := by
  unfold CT
  rcases ha with h | h <;> subst h <;> rw [if_neg (by decide), if_neg (by decide)]
theorem ct_proof (R : Nat → Int32 → St → Option (Int32 × St)) (x1 : Int32) (u : St) (h : I u 9 10 = -1) : CT R x1 (zI 2) u = some (1, u) := by
  unfold CT
  rw [if_neg (by decide), if_pos q2, gI_z, h, if_neg (by decide)]
theorem ct_rep2 (R : Nat → Int32 → St → Option (Int32 × St)) (x1 : Int32) (u u' : St) (t : Nat) (ht : t < 1000) (h : I u 9 10 = t) (hr : fX8_repeats (zI t) u = some (zI 2, u')) : CT R x1 (zI 2) u = some (zI (-7), u') := by
  unfold CT
  rw [if_neg (by decide), if_pos q2, gI_z, h, if_pos (by rw [z_zero, z_le (by decide) (by decide) (by omega) (by omega)]; omega), hr, b2_s, if_pos q2]
  rfl
theorem ct_rep1 (R : Nat → Int32 → St → Option (Int32 × St)) (x1 : Int) (u u' : St) (t : Nat) (ht : t < 1000) (h : I u 9 10 = t) (hr : fX8_repeats (zI t) u = some (zI 1, u')) : CT R (zI x1) (zI 2) u = R 0 (zI (x1 + 1)) u' := by
  unfold CT
  rw [if_neg (by decide), if_pos q2, gI_z, h, if_pos (by rw [z_zero, z_le (by decide) (by decide) (by omega) (by omega)]; omega), hr, b2_s, if_neg (by decide), if_neg (by decide), lt_e, show (1 : Int32) = zI 1 from rfl, z_add]
theorem ct_rep0 (R : Nat → Int32 → St → Option (Int32 × St)) (x1 : Int) (u u' u2 : St) (t : Nat) (ht : t < 1000) (h : I u 9 10 = t) (hr : fX8_repeats (zI t) u = some (zI 0, u')) (h' : I u' 9 10 = t) (hp : fX3_push (zI 2) (zI t) (zI t) u' = some (1, u2)) : CT R (zI x1) (zI 2) u = R 0 (zI (x1 + 1)) u2 := by
  unfold CT
  rw [if_neg (by decide), if_pos q2, gI_z u 9 10, h, if_pos (by rw [z_zero, z_le (by decide) (by decide) (by omega) (by omega)]; omega), hr, b2_s, if_neg (by decide), if_pos q0, gI_z u' 9 10, h', show (2 : Int32) = zI 2 from rfl, hp, b2_s, if_neg (by decide), lt_e, show (1 : Int32) = zI 1 from rfl, z_add]
