/-! searching: limit after limit -/
theorem runLimit_open {u v : St} {C : Nat} {fi ps : Nat → Nat} {nv c : Nat → Int} {e : Nat → Nat} {mst lim : Int} {T : List (Nat × Nat × Int)} (hS : SR u v C fi ps nv c e) (hB : BCs u T) (hCn : Cn u v mst lim) (h98 : I v 100 98 = 0) (h99 : I v 100 99 = 0) : ∃ u', fX3_runLimit u = fX3_runLimit_L0 FU 0 (zI 0) u' ∧ SH u' v C fi ps nv c e mst lim 0 ∧ I u' 9 13 = I u 9 13 ∧ Fr PSe u u' := by
  obtain ⟨t1, t2, t3, t4, t5⟩ := hB
  obtain ⟨u4, b1, b2', b3, b4⟩ := unbind_loop (T := []) T FU u (by unfold FU; omega) (by rw [List.append_nil]; exact t3) (by rw [List.append_nil]; exact fun x hx => Nat.lt_trans (t4 x hx) (by decide)) (by rw [List.append_nil]; exact t5) (by rw [List.append_nil]; exact t1) (by rw [List.append_nil]; exact t2)
  have hub : fX5_unbind (zI 0) u = some u4 := b1
  have Fa : Fr (fun k i => (k == 7 && (i == 6 || i == 7)) || (k == 9 && i == 9)) u4 (uI (uI (uI u4 7 6 (zI 0)) 7 7 (zI 0)) 9 9 (zI (-1))) := Fr_up rfl (Fr_up rfl (Fr_up rfl (Fr_rfl _ _)))
  have a1 : I (uI (uI (uI u4 7 6 (zI 0)) 7 7 (zI 0)) 9 9 (zI (-1))) 9 9 = ((0 : Nat) : Int) - 1 := I_uI1 _ _ _ _ (by decide) (by decide)
  have a2 : I (uI (uI (uI u4 7 6 (zI 0)) 7 7 (zI 0)) 9 9 (zI (-1))) 7 6 = 0 := by simp (disch := omega) only [I_uI1, I_uI2]
  have a3 : I (uI (uI (uI u4 7 6 (zI 0)) 7 7 (zI 0)) 9 9 (zI (-1))) 7 7 = 0 := by simp (disch := omega) only [I_uI1, I_uI2]
  have hop : ∀ u5, fX3_push 0 (-1) (-1) (uI (uI (uI u4 7 6 (zI 0)) 7 7 (zI 0)) 9 9 (zI (-1))) = some (1, u5) → fX3_runLimit u = fX3_runLimit_L0 FU 0 (zI 0) u5 := by
    intro u5 h5
    unfold fX3_runLimit
    rw [show (0 : Int32) = zI 0 from rfl, hub, bd_s, lt_e, lt_e, lt_e, show (-1 : Int32) = zI (-1) from rfl]
    have h5' : fX3_push (zI 0) (zI (-1)) (zI (-1)) (uI (uI (uI u4 7 6 (zI 0)) 7 7 (zI 0)) 9 9 (zI (-1))) = some (1, u5) := h5
    rw [h5', b2_s, lt_e]
  generalize hu3 : uI (uI (uI u4 7 6 (zI 0)) 7 7 (zI 0)) 9 9 (zI (-1)) = u3 at *
  obtain ⟨u5, p1, p2, p3, p4, p5, p6, p7, p8, p9⟩ := push_spec u3 0 0 (-1) (-1) 0 0 0 (by decide) a1 (by decide) (by decide) (by decide) (by decide) (by decide) (by decide) (by rw [Fr_I Fa rfl]; exact b3.1) a2 a3
  have hPS : Fr PSe u u5 := by
    refine Fr_tr (PSe_PU (PU_PB b4)) (Fr_tr (Fr_up2 (fun k i hk => ?_) Fa) (PSe_Pp p9))
    simp at hk; simp [PSe]; omega
  have e9 : ∀ i, i ≠ 9 → I u5 9 i = I u 9 i := fun i hi => by rw [Fr_I p9 (by simp [Pp]; omega), Fr_I Fa (by simp; omega), Fr_I b4 (by simp [PB])]
  refine ⟨u5, hop u5 p1, ⟨SR_e hPS (Fr_rfl _ _) hS, p2, p3, p4, p6, p7, p8, p5, ⟨[], ?_, TC_fr p9 (by simp [Pp]) (fun i => by simp [Pp]) (TC_fr Fa rfl (fun _ => rfl) b3), by simp, by simp, by simp⟩, Kp_Cn (fun i hi => e9 i (by omega)) (fun _ _ => rfl) hCn, h98, h99⟩, e9 13 (by decide), hPS⟩
  intro w hw
  rw [Fr_I p9 (by simp [Pp]), Fr_I Fa rfl, Fr_I p9 (by simp [Pp]), Fr_I Fa rfl]
  exact b2' w hw
/-- what a search leaves -/
def FO (u v : St) (C : Nat) (fi ps : Nat → Nat) (nv c : Nat → Int) (e : Nat → Nat) : Prop := I u 9 13 = I v 100 101 ∧ I u 9 14 = I v 100 103 ∧ I u 9 15 = I v 100 105 ∧ ((I u 9 15 = 0 ∧ ∃ T, BCs u T) ∨ (PRF u v C fi ps nv c e ∧ I u 9 15 = I u 9 9 + 1))
def PSx : Nat → Nat → Bool := fun k i => PSe k i || (k == 9 && (i == 11 || i == 14 || i == 15))
def PRx : Nat → Nat → Bool := fun k i => PRe k i || (k == 100 && (i == 0 || i == 102 || i == 103 || i == 104))
theorem PSx_e {u u' : St} (h : Fr PSe u u') : Fr PSx u u' := Fr_up2 (fun k i hk => by simp [PSx, hk]) h
theorem PRx_e {u u' : St} (h : Fr PRe u u') : Fr PRx u u' := Fr_up2 (fun k i hk => by simp [PRx, hk]) h
theorem PSx_1 {u u' : St} {k i : Nat} (h : Fr (P1 k i) u u') (hk : PSx k i = true) : Fr PSx u u' := Fr_up2 (fun k' i' hk' => by simp [P1] at hk'; rw [hk'.1, hk'.2]; exact hk) h
theorem PRx_1 {u u' : St} {k i : Nat} (h : Fr (P1 k i) u u') (hk : PRx k i = true) : Fr PRx u u' := Fr_up2 (fun k' i' hk' => by simp [P1] at hk'; rw [hk'.1, hk'.2]; exact hk) h
theorem SR_x {u u' v v' : St} {C : Nat} {fi ps : Nat → Nat} {nv c : Nat → Int} {e : Nat → Nat} (h1 : Fr PSx u u') (h2 : Fr PRx v v') (hS : SR u v C fi ps nv c e) : SR u' v' C fi ps nv c e := by
  refine SR_fr h1 h2 ?_ ?_ hS
  · intro k i hk
    unfold PSc at hk
    simp only [Bool.or_eq_true, Bool.and_eq_true, beq_iff_eq] at hk
    rcases hk with (((((h | h) | h) | h) | h) | h) | ⟨h, h2⟩ <;> subst h <;> first | rfl | (subst h2; rfl)
  · intro k i hk
    unfold PSr at hk
    simp only [Bool.or_eq_true, Bool.and_eq_true, beq_iff_eq] at hk
    rcases hk with (((((((h | h) | h) | h) | h) | h) | h) | h) | ⟨h, (h2 | h2) | h2⟩ <;> subst h <;> first | rfl | (subst h2; rfl)
theorem PRF_fr {P Q : Nat → Nat → Bool} {u u' v v' : St} {C : Nat} {fi ps : Nat → Nat} {nv c : Nat → Int} {e : Nat → Nat} (hu : Fr P u u') (hv : Fr Q v v') (hP : ∀ k i, (57 ≤ k ∧ k ≤ 64) ∨ (65 ≤ k ∧ k ≤ 70) ∨ (k = 7 ∧ i = 11) ∨ (k = 9 ∧ i = 9) ∨ k = 32 → P k i = false) (hQ : ∀ k i, (150 ≤ k ∧ k ≤ 160) ∨ k = 167 ∨ (k = 100 ∧ (i = 93 ∨ i = 105)) ∨ (111 ≤ k ∧ k ≤ 113) → Q k i = false) (h : PRF u v C fi ps nv c e) : PRF u' v' C fi ps nv c e := by
  obtain ⟨φ, Gd, T, L, J, V, n, h1, h2, h3, h4, h5, h6, h7, h8, h9, h10, h11⟩ := h
  have eu : ∀ k i, (57 ≤ k ∧ k ≤ 64) ∨ (65 ≤ k ∧ k ≤ 70) ∨ (k = 7 ∧ i = 11) ∨ (k = 9 ∧ i = 9) ∨ k = 32 → I u' k i = I u k i := fun k i hk => Fr_I hu (hP k i hk)
  have ev : ∀ k i, (150 ≤ k ∧ k ≤ 160) ∨ k = 167 ∨ (k = 100 ∧ (i = 93 ∨ i = 105)) ∨ (111 ≤ k ∧ k ≤ 113) → I v' k i = I v k i := fun k i hk => Fr_I hv (hQ k i hk)
  refine ⟨φ, Gd, T, L, J, V, n, TB_eq (fun k i hk _ => eu k i (by omega)) (fun k i hk _ => ev k i (by omega)) (fun _ _ => rfl) (Int.le_refl _) (Nat.le_refl _) (Nat.le_refl _) h1, ⟨h2.1, WE_fr hu (fun i => hP _ i (by omega)) (fun i => hP _ i (by omega)) (fun i => hP _ i (by omega)) h2.2.1, TC_fr hu (hP _ _ (by omega)) (fun i => hP _ i (by omega)) h2.2.2.1, RE_fr hv (fun i => hQ _ i (by omega)) (fun i => hQ _ i (by omega)) (fun i => hQ _ i (by omega)) (fun i => hQ _ i (by omega)) (fun i => hQ _ i (by omega)) h2.2.2.2.1, TR_fr hv (hQ _ _ (by omega)) (fun i => hQ _ i (by omega)) h2.2.2.2.2⟩, h3, h4, h5, ⟨h6.1, fun k hk => h6.2 k (by rw [← eu 67 0 (by omega)]; exact hk)⟩, by rw [eu 9 9 (by omega)]; exact h7, h8, by rw [ev 100 105 (by omega)]; exact h9, ?_, fun f hf => ⟨MVg_pres (fun k hk => eu k _ (by omega)) (fun k hk => ev k _ (by omega)) (fun t _ => eu 60 t (by omega)) (fun _ _ => rfl) (Nat.le_refl _) (h11 f hf).1, ?_⟩⟩
  · unfold ST
    rw [eu 65 0 (by omega), eu 66 0 (by omega), eu 67 0 (by omega), eu 68 0 (by omega), eu 69 0 (by omega), eu 70 0 (by omega), ev 157 0 (by omega), ev 158 0 (by omega), ev 159 0 (by omega), ev 160 0 (by omega)]
    exact h10
  · rw [eu 66 _ (by omega)]; exact (h11 f hf).2
theorem BCs_fr {P : Nat → Nat → Bool} {u u' : St} {T : List (Nat × Nat × Int)} (hu : Fr P u u') (h1 : ∀ i, P 62 i = false) (h2 : ∀ i, P 63 i = false) (h3 : P 7 11 = false) (h4 : ∀ i, P 64 i = false) (h : BCs u T) : BCs u' T := ⟨fun w hw => by rw [Fr_I hu (h1 w), Fr_I hu (h2 w)]; exact h.1 w hw, TC_fr hu h3 h4 h.2.1, h.2.2⟩
