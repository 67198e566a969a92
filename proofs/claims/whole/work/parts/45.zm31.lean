/-! frames of the search -/
theorem Fr_up2 {P Q : Nat → Nat → Bool} {u u' : St} (hPQ : ∀ k i, P k i = true → Q k i = true) (h : Fr P u u') : Fr Q u u' := Fr_mono (fun k i hk => by
  cases hp : P k i with
  | false => rfl
  | true => rw [hPQ k i hp] at hk; cases hk) h
def POS (C : Nat) (fi : Nat → Nat) (m : Nat) (a b : Int) : Prop := ∃ k j : Nat, a = k ∧ b = j ∧ ((k < C ∧ fi k + j = m ∧ m ≤ fi (k + 1)) ∨ (k = C ∧ m = fi C))
def FR (u v : St) (φ : Nat → Nat) (Gd : Nat → Prop) (f g : Nat) (T : List (Nat × Nat × Int)) (L J : Nat) (V : Int) (r : Nat) : Prop := Gd g ∧ I u 66 (f + 1) = g ∧ I v 168 f = φ g ∧ I u 68 (f + 1) = T.length ∧ I u 69 (f + 1) = L ∧ I u 70 (f + 1) = V ∧ I v 172 f = T.length ∧ I v 173 f = V ∧ I v 174 f = J ∧ I v 175 f = L ∧ I v 176 f = ((f + 1 : Nat) : Int) ∧ CL u (fun t => t < L) r (I u 61 g) ∧ f + 1 + r ≤ L
def K2 (u v : St) (φ : Nat → Nat) (Gd : Nat → Prop) (f x : Nat) : Prop := I u 65 (f + 1) = 2 ∧ Gd x ∧ I u 67 (f + 1) = x ∧ I v 169 f = I v 152 (φ x) ∧ I v 170 f = 0 ∧ I v 171 f = 0
def K1 (u v : St) (C : Nat) (fi : Nat → Nat) (f m : Nat) : Prop := I u 65 (f + 1) = 1 ∧ I v 169 f = -1 ∧ I u 67 (f + 1) = (m : Int) - 1 ∧ m ≤ fi C ∧ POS C fi m (I v 170 f) (I v 171 f)
def RS (u v : St) (c : Nat → Int) (e : Nat → Nat) (N f : Nat) (T : List (Nat × Nat × Int)) (L J : Nat) (V : Int) : Prop := UE u v c e N V T ∧ I u 7 6 = L ∧ I u 7 7 = V ∧ I v 100 92 = V ∧ I v 100 89 = J ∧ I v 100 110 = L ∧ I v 100 105 = ((f + 1 : Nat) : Int) ∧ I u 9 9 = ((f + 1 : Nat) : Int) ∧ I v 100 120 = ((f + 1 : Nat) : Int)
def MVg (u v : St) (φ : Nat → Nat) (C : Nat) (fi : Nat → Nat) (f L : Nat) : Prop := ∃ g : Nat, I u 66 (f + 1) = g ∧ I v 160 (f + 1) = φ g ∧ I v 157 (f + 1) = I u 65 (f + 1) ∧ ((I u 65 (f + 1) = 1 ∧ ∃ k j : Nat, k < C ∧ fi k + j < fi (k + 1) ∧ I u 67 (f + 1) = ((fi k + j : Nat) : Int) ∧ I v 158 (f + 1) = k ∧ I v 159 (f + 1) = j) ∨ (I u 65 (f + 1) = 2 ∧ I v 158 (f + 1) = -1 ∧ ∃ x : Nat, x < L ∧ I u 67 (f + 1) = x ∧ I v 159 (f + 1) = I u 60 x))
def Cn (u v : St) (mst lim : Int) : Prop := I u 9 11 = mst ∧ I v 100 102 = mst ∧ 0 ≤ I u 9 13 ∧ I u 9 13 ≤ mst ∧ mst ≤ 20000 ∧ I v 100 101 = I u 9 13 ∧ I u 9 14 = lim ∧ I v 100 104 = lim ∧ 1 ≤ lim ∧ lim ≤ 20 ∧ I v 100 100 = I u 9 12 ∧ (I u 9 12 = 0 ∨ I u 9 12 = 1)
def PKc (f L : Nat) : Nat → Nat → Bool := fun k i => PU k i || (decide (57 ≤ k) && decide (k ≤ 61) && decide (L ≤ i)) || (decide (65 ≤ k) && decide (k ≤ 70) && i == f + 1) || (k == 7 && (i == 6 || i == 7)) || (k == 9 && (i == 9 || i == 10 || i == 12 || i == 13))
def PKr (f J : Nat) : Nat → Nat → Bool := fun k i => PRU k i || (((decide (150 ≤ k) && decide (k ≤ 153)) || k == 167) && decide (J ≤ i)) || (decide (157 ≤ k) && decide (k ≤ 160) && i == f + 1) || (decide (168 ≤ k) && decide (k ≤ 176) && i == f) || (k == 100 && (i == 89 || i == 92 || i == 93 || i == 97 || i == 98 || i == 99 || i == 100 || i == 101 || i == 105 || i == 110 || i == 120 || i == 130))
def PSe : Nat → Nat → Bool := fun k i => PU k i || (decide (57 ≤ k) && decide (k ≤ 61)) || (decide (65 ≤ k) && decide (k ≤ 70)) || (k == 7 && (i == 6 || i == 7)) || (k == 9 && (i == 9 || i == 10 || i == 12 || i == 13))
def PRe : Nat → Nat → Bool := fun k i => PRU k i || (decide (150 ≤ k) && decide (k ≤ 153)) || k == 167 || (decide (157 ≤ k) && decide (k ≤ 160)) || (decide (168 ≤ k) && decide (k ≤ 176)) || (k == 100 && (i == 89 || i == 92 || i == 93 || i == 97 || i == 98 || i == 99 || i == 100 || i == 101 || i == 105 || i == 110 || i == 120 || i == 130))
def FIm (P : Nat → Nat → Bool) (u u' : St) : Prop := ∀ k i, P k i = false → I u' k i = I u k i
theorem FI_tr {P : Nat → Nat → Bool} {u u' u'' : St} (h : FIm P u u') (h' : FIm P u' u'') : FIm P u u'' := fun k i hk => (h' k i hk).trans (h k i hk)
/-- what stays, below the highest frame -/
def Kp (u u' v v' : St) (f L J : Nat) : Prop := FIm (PKc f L) u u' ∧ FIm (PKr f J) v v' ∧ Fr PSe u u' ∧ Fr PRe v v'
theorem Kp_rfl (u v : St) (f L J : Nat) : Kp u u v v f L J := ⟨fun _ _ _ => rfl, fun _ _ _ => rfl, Fr_rfl _ _, Fr_rfl _ _⟩
theorem Kp_tr {u u' u'' v v' v'' : St} {f L J : Nat} (h : Kp u u' v v' f L J) (h' : Kp u' u'' v' v'' f L J) : Kp u u'' v v'' f L J := ⟨FI_tr h.1 h'.1, FI_tr h.2.1 h'.2.1, Fr_tr h.2.2.1 h'.2.2.1, Fr_tr h.2.2.2 h'.2.2.2⟩
/-- steps of one side -/
theorem Kp_c {P : Nat → Nat → Bool} {u u' v : St} {f L J : Nat} (h : Fr P u u') (h1 : ∀ k i, P k i = true → PKc f L k i = true) (h2 : ∀ k i, P k i = true → PSe k i = true) : Kp u u' v v f L J := ⟨fun k i hk => Fr_I (Fr_up2 h1 h) hk, fun _ _ _ => rfl, Fr_up2 h2 h, Fr_rfl _ _⟩
theorem Kp_r {P : Nat → Nat → Bool} {u v v' : St} {f L J : Nat} (h : Fr P v v') (h1 : ∀ k i, P k i = true → PKr f J k i = true) (h2 : ∀ k i, P k i = true → PRe k i = true) : Kp u u v v' f L J := ⟨fun _ _ _ => rfl, fun k i hk => Fr_I (Fr_up2 h1 h) hk, Fr_rfl _ _, Fr_up2 h2 h⟩
theorem Kp_PU {u u' v : St} {f L J : Nat} (h : Fr PU u u') : Kp u u' v v f L J := Kp_c h (fun k i hk => by simp [PKc, hk]) (fun k i hk => by simp [PSe, hk])
theorem Kp_PRU {u v v' : St} {f L J : Nat} (h : Fr PRU v v') : Kp u u v v' f L J := Kp_r h (fun k i hk => by simp [PKr, hk]) (fun k i hk => by simp [PRe, hk])
theorem Kp_uI {u v : St} {f L J k i : Nat} {x : Int32} (h1 : PKc f L k i = true) (h2 : PSe k i = true) : Kp u (uI u k i x) v v f L J := Kp_c (P := P1 k i) (Fr_up (by simp [P1]) (Fr_rfl _ _)) (fun k' i' hk => by simp [P1] at hk; rw [hk.1, hk.2]; exact h1) (fun k' i' hk => by simp [P1] at hk; rw [hk.1, hk.2]; exact h2)
theorem Kp_vI {u v : St} {f L J k i : Nat} {x : Int32} (h1 : PKr f J k i = true) (h2 : PRe k i = true) : Kp u u v (uI v k i x) f L J := Kp_r (P := P1 k i) (Fr_up (by simp [P1]) (Fr_rfl _ _)) (fun k' i' hk => by simp [P1] at hk; rw [hk.1, hk.2]; exact h1) (fun k' i' hk => by simp [P1] at hk; rw [hk.1, hk.2]; exact h2)
theorem Kp_PAd {u u' v : St} {f L J : Nat} (h : Fr PAd u u') (hold : ∀ kk i, (kk = 57 ∨ kk = 58 ∨ kk = 59 ∨ kk = 60 ∨ kk = 61) → i < L → I u' kk i = I u kk i) : Kp u u' v v f L J := by
  refine ⟨?_, fun _ _ _ => rfl, Fr_up2 (fun k i hk => ?_) h, Fr_rfl _ _⟩
  · intro k i hk
    by_cases h5 : 57 ≤ k ∧ k ≤ 61
    · have hi : i < L := by
        apply Classical.byContradiction; intro hh
        simp [PKc, h5.1, h5.2, Nat.not_lt.1 hh] at hk
      exact hold k i (by omega) hi
    · refine Fr_I h ?_
      simp [PKc] at hk
      simp [PAd]
      omega
  · simp [PAd] at hk
    simp [PSe]
    omega
theorem Kp_PCm {u v v' : St} {f L J : Nat} (h : Fr PCm v v') (hold : ∀ kk i, (kk = 150 ∨ kk = 151 ∨ kk = 152 ∨ kk = 153 ∨ kk = 167) → i < J → I v' kk i = I v kk i) : Kp u u v v' f L J := by
  refine ⟨fun _ _ _ => rfl, ?_, Fr_rfl _ _, Fr_up2 (fun k i hk => ?_) h⟩
  · intro k i hk
    by_cases h5 : k = 150 ∨ k = 151 ∨ k = 152 ∨ k = 153 ∨ k = 167
    · have hi : i < J := by
        apply Classical.byContradiction; intro hh
        have hh' := Nat.not_lt.1 hh
        rcases h5 with h | h | h | h | h <;> subst h <;> simp [PKr, hh'] at hk
      exact hold k i h5 hi
    · refine Fr_I h ?_
      simp [PKr] at hk
      simp [PCm]
      omega
  · simp [PCm] at hk
    simp [PRe]
    omega
theorem Kp_S {u u' v v' : St} {f L J : Nat} {C : Nat} {fi ps : Nat → Nat} {nv c : Nat → Int} {e : Nat → Nat} (h : Kp u u' v v' f L J) (hS : SR u v C fi ps nv c e) : SR u' v' C fi ps nv c e := by
  refine SR_fr h.2.2.1 h.2.2.2 ?_ ?_ hS
  · intro k i hk
    unfold PSc at hk
    simp only [Bool.or_eq_true, Bool.and_eq_true, beq_iff_eq] at hk
    rcases hk with (((((h | h) | h) | h) | h) | h) | ⟨h, h2⟩ <;> subst h <;> first | rfl | (subst h2; rfl)
  · intro k i hk
    unfold PSr at hk
    simp only [Bool.or_eq_true, Bool.and_eq_true, beq_iff_eq] at hk
    rcases hk with (((((((h | h) | h) | h) | h) | h) | h) | h) | ⟨h, (h2 | h2) | h2⟩ <;> subst h <;> first | rfl | (subst h2; rfl)
theorem PKc_tab {f L k i : Nat} (hk : k = 57 ∨ k = 58 ∨ k = 59 ∨ k = 60 ∨ k = 61) (hi : i < L) : PKc f L k i = false := by
  have h1 : decide (L ≤ i) = false := by simp; omega
  rcases hk with h | h | h | h | h <;> subst h <;> simp [PKc, h1, PU, PW]
theorem PKr_tab {f J k i : Nat} (hk : k = 150 ∨ k = 151 ∨ k = 152 ∨ k = 153 ∨ k = 167) (hi : i < J) : PKr f J k i = false := by
  have h1 : decide (J ≤ i) = false := by simp; omega
  rcases hk with h | h | h | h | h <;> subst h <;> simp [PKr, h1, PRU, PRB, PRS, PAN]
theorem Kp_TB {u u' v v' : St} {f L J : Nat} {φ φ' : Nat → Nat} {V V' : Int} {C : Nat} {fi : Nat → Nat} {nv : Nat → Int} {Gd : Nat → Prop} (h : Kp u u' v v' f L J) (hφ : ∀ t, t < L → φ' t = φ t) (hV : V ≤ V') (hTB : TB u v φ L J V C fi nv Gd) : TB u' v' φ' L J V' C fi nv Gd := TB_eq (fun k i hk hi => h.1 k i (PKc_tab hk hi)) (fun k i hk hi => h.2.1 k i (PKr_tab hk hi)) hφ hV (Nat.le_refl _) (Nat.le_refl _) hTB
theorem Kp_CL {u u' v v' : St} {f L J : Nat} {r : Nat} {x : Int} (h : Kp u u' v v' f L J) (hC : CL u (fun t => t < L) r x) : CL u' (fun t => t < L) r x := CL_eq r x (fun t ht => h.1 61 t (PKc_tab (by simp) ht)) (fun _ ht => ht) hC
