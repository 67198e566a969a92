/-! integers of 32 bits as integers, and what the state's words do with them -/
def zI (x : Int) : Int32 := Int32.ofInt x
def zJ (x : Int) : Int64 := Int64.ofInt x
def I (u : St) (k i : Nat) : Int := (gI u k i).toInt
def J (u : St) (k i : Nat) : Int := (gJ u k i).toInt
def Rg (x : Int) : Prop := -2147483648 ≤ x ∧ x < 2147483648
theorem z_to {x : Int} (h : -2147483648 ≤ x) (h' : x < 2147483648) : (zI x).toInt = x := Int32.toInt_ofInt_of_le h h'
theorem gI_z (u : St) (k i : Nat) : gI u k i = zI (I u k i) := (Int32.ofInt_toInt _).symm
theorem gJ_z (u : St) (k i : Nat) : gJ u k i = zJ (J u k i) := (Int64.ofInt_toInt _).symm
theorem I_lo (u : St) (k i : Nat) : -2147483648 ≤ I u k i := Int32.le_toInt _
theorem I_hi (u : St) (k i : Nat) : I u k i < 2147483648 := Int32.toInt_lt _
theorem z_add (a b : Int) : zI a + zI b = zI (a + b) := (Int32.ofInt_add a b).symm
theorem z_sub (a b : Int) : zI a - zI b = zI (a - b) := (Int32.ofInt_sub a b).symm
theorem z_mul (a b : Int) : zI a * zI b = zI (a * b) := (Int32.ofInt_mul a b).symm
theorem z_neg (a : Int) : - zI a = zI (- a) := (Int32.ofInt_neg a).symm
theorem z_lit (n : Nat) : (OfNat.ofNat n : Int32) = zI (OfNat.ofNat n) := Int32.ofInt_eq_ofNat.symm
theorem z_zero : (0 : Int32) = zI 0 := rfl
theorem z_lt {a b : Int} (h1 : -2147483648 ≤ a) (h2 : a < 2147483648) (h3 : -2147483648 ≤ b) (h4 : b < 2147483648) : (zI a < zI b) = (a < b) := by
  rw [Int32.lt_iff_toInt_lt, z_to h1 h2, z_to h3 h4]
theorem z_le {a b : Int} (h1 : -2147483648 ≤ a) (h2 : a < 2147483648) (h3 : -2147483648 ≤ b) (h4 : b < 2147483648) : (zI a ≤ zI b) = (a ≤ b) := by
  rw [Int32.le_iff_toInt_le, z_to h1 h2, z_to h3 h4]
theorem z_eq {a b : Int} (h1 : -2147483648 ≤ a) (h2 : a < 2147483648) (h3 : -2147483648 ≤ b) (h4 : b < 2147483648) : (zI a = zI b) = (a = b) := by
  rw [← Int32.toInt_inj, z_to h1 h2, z_to h3 h4]
theorem z_clamp {a : Int} (h1 : 0 ≤ a) (h2 : a < 2147483648) : (zI a).toNatClampNeg = a.toNat := by
  have h := z_to (x := a) (by omega) h2
  show (zI a).toInt.toNat = _
  rw [h]
/-! the state -/
theorem I_uI (u : St) (k i : Nat) (x : Int) (h1 : -2147483648 ≤ x) (h2 : x < 2147483648) (k' i' : Nat) : I (uI u k i (zI x)) k' i' = if k' = k ∧ i' = i then x else I u k' i' := by
  unfold I gI uI va_up
  by_cases hk : k' = k
  · subst hk
    by_cases hi : i' = i
    · subst hi; simp [z_to h1 h2]
    · simp [hi]
  · simp [hk]
theorem J_uI (u : St) (k i : Nat) (x : Int32) (k' i' : Nat) : J (uI u k i x) k' i' = J u k' i' := rfl
theorem R_uI (u : St) (k i : Nat) (x : Int32) (k' i' : Nat) : gR (uI u k i x) k' i' = gR u k' i' := rfl
theorem I_uJ (u : St) (k i : Nat) (x : Int64) (k' i' : Nat) : I (uJ u k i x) k' i' = I u k' i' := rfl
theorem R_uJ (u : St) (k i : Nat) (x : Int64) (k' i' : Nat) : gR (uJ u k i x) k' i' = gR u k' i' := rfl
theorem I_uR (u : St) (k i x : Nat) (k' i' : Nat) : I (uR u k i x) k' i' = I u k' i' := rfl
theorem J_uR (u : St) (k i x : Nat) (k' i' : Nat) : J (uR u k i x) k' i' = J u k' i' := rfl
theorem R_uR (u : St) (k i x : Nat) (k' i' : Nat) : gR (uR u k i x) k' i' = if k' = k ∧ i' = i then x else gR u k' i' := by
  unfold gR uR va_up
  by_cases hk : k' = k
  · subst hk
    by_cases hi : i' = i
    · subst hi; simp
    · simp [hi]
  · simp [hk]
theorem J_uJ (u : St) (k i : Nat) (x : Int) (h1 : -9223372036854775808 ≤ x) (h2 : x < 9223372036854775808) (k' i' : Nat) : J (uJ u k i (zJ x)) k' i' = if k' = k ∧ i' = i then x else J u k' i' := by
  unfold J gJ uJ va_up zJ
  by_cases hk : k' = k
  · subst hk
    by_cases hi : i' = i
    · subst hi; simp [Int64.toInt_ofInt_of_le h1 h2]
    · simp [hi]
  · simp [hk]
theorem ld_z (u : St) (k n : Nat) (i : Int) (h1 : 0 ≤ i) (h2 : i < n) (h3 : n ≤ 2147483647 := by decide) : ld u k n (zI i) = some (zI (I u k i.toNat)) := by
  unfold ld
  rw [z_clamp h1 (by omega), if_neg, gI_z]
  rw [z_zero, z_lt (by omega) (by omega) (by decide) (by decide)]
  simp; omega
theorem ldJ_z (u : St) (k n : Nat) (i : Int) (h1 : 0 ≤ i) (h2 : i < n) (h3 : n ≤ 2147483647 := by decide) : ldJ u k n (zI i) = some (zJ (J u k i.toNat)) := by
  unfold ldJ
  rw [z_clamp h1 (by omega), if_neg, gJ_z]
  rw [z_zero, z_lt (by omega) (by omega) (by decide) (by decide)]
  simp; omega
theorem st_z (u : St) (k n : Nat) (i : Int) (x : Int32) (h1 : 0 ≤ i) (h2 : i < n) (h3 : n ≤ 2147483647 := by decide) : st u k n (zI i) x = some (uI u k i.toNat x) := by
  unfold st
  rw [z_clamp h1 (by omega), if_neg]
  rw [z_zero, z_lt (by omega) (by omega) (by decide) (by decide)]
  simp; omega
theorem stB_z (u : St) (k n : Nat) (i : Int) (x : Int32) (h1 : 0 ≤ i) (h2 : i < n) (h3 : n ≤ 2147483647 := by decide) : stB u k n (zI i) x = some (uI u k i.toNat x.toInt8.toInt32) := by
  unfold stB
  rw [z_clamp h1 (by omega), if_neg]
  rw [z_zero, z_lt (by omega) (by omega) (by decide) (by decide)]
  simp; omega
theorem stJ_z (u : St) (k n : Nat) (i : Int) (x : Int64) (h1 : 0 ≤ i) (h2 : i < n) (h3 : n ≤ 2147483647 := by decide) : stJ u k n (zI i) x = some (uJ u k i.toNat x) := by
  unfold stJ
  rw [z_clamp h1 (by omega), if_neg]
  rw [z_zero, z_lt (by omega) (by omega) (by decide) (by decide)]
  simp; omega
theorem lt_e {α β : Type} (e : α) (f : α → β) : lt e f = f e := rfl
theorem b2_s {β : Type} (r : Int32) (u : St) (k : Int32 → St → Option β) : b2 (some (r, u)) k = k r u := rfl
theorem bd_s {α β : Type} (x : α) (k : α → Option β) : bd (some x) k = k x := rfl
theorem zb_z {x : Int} (h : x = 0 ∨ x = 1) : zb (zI x) = some (zI x) := by
  unfold zb
  rw [if_pos]
  rcases h with h | h <;> subst h
  · exact Or.inl rfl
  · exact Or.inr rfl
theorem nz_z {x : Int} (h1 : -2147483648 ≤ x) (h2 : x < 2147483648) (h : x ≠ 0) : nz (zI x) = some (zI x) := by
  unfold nz
  rw [if_neg]
  rw [z_zero, z_eq h1 h2 (by decide) (by decide)]
  simpa using h
/-! frames: what stays -/
def Fr (P : Nat → Nat → Bool) (u u' : St) : Prop := ∀ k i, P k i = false → gI u' k i = gI u k i ∧ gJ u' k i = gJ u k i ∧ gR u' k i = gR u k i
theorem Fr_rfl (P : Nat → Nat → Bool) (u : St) : Fr P u u := fun _ _ _ => ⟨rfl, rfl, rfl⟩
theorem Fr_I {P : Nat → Nat → Bool} {u u' : St} (h : Fr P u u') {k i : Nat} (hk : P k i = false) : I u' k i = I u k i := by unfold I; rw [(h k i hk).1]
theorem Fr_J {P : Nat → Nat → Bool} {u u' : St} (h : Fr P u u') {k i : Nat} (hk : P k i = false) : J u' k i = J u k i := by unfold J; rw [(h k i hk).2.1]
theorem Fr_R {P : Nat → Nat → Bool} {u u' : St} (h : Fr P u u') {k i : Nat} (hk : P k i = false) : gR u' k i = gR u k i := (h k i hk).2.2
theorem Fr_tr {P : Nat → Nat → Bool} {u u' u'' : St} (h : Fr P u u') (h' : Fr P u' u'') : Fr P u u'' := fun k i hk => ⟨(h' k i hk).1.trans (h k i hk).1, (h' k i hk).2.1.trans (h k i hk).2.1, (h' k i hk).2.2.trans (h k i hk).2.2⟩
theorem Fr_mono {P Q : Nat → Nat → Bool} {u u' : St} (hPQ : ∀ k i, Q k i = false → P k i = false) (h : Fr P u u') : Fr Q u u' := fun k i hk => h k i (hPQ k i hk)
theorem Fr_up {P : Nat → Nat → Bool} {u u' : St} {k i : Nat} {x : Int32} (hk : P k i = true) (h : Fr P u u') : Fr P u (uI u' k i x) := by
  intro k' i' hk'
  have hne : ¬ (k' = k ∧ i' = i) := fun hh => by rw [hh.1, hh.2, hk] at hk'; cases hk'
  refine ⟨?_, (h k' i' hk').2.1, (h k' i' hk').2.2⟩
  rw [← (h k' i' hk').1]
  unfold gI uI va_up
  by_cases h1 : k' = k
  · subst h1
    have h2 : i' ≠ i := fun h => hne ⟨rfl, h⟩
    simp [h2]
  · simp [h1]
theorem Fr_upJ {P : Nat → Nat → Bool} {u u' : St} {k i : Nat} {x : Int64} (hk : P k i = true) (h : Fr P u u') : Fr P u (uJ u' k i x) := by
  intro k' i' hk'
  have hne : ¬ (k' = k ∧ i' = i) := fun hh => by rw [hh.1, hh.2, hk] at hk'; cases hk'
  refine ⟨(h k' i' hk').1, ?_, (h k' i' hk').2.2⟩
  rw [← (h k' i' hk').2.1]
  unfold gJ uJ va_up
  by_cases h1 : k' = k
  · subst h1
    have h2 : i' ≠ i := fun h => hne ⟨rfl, h⟩
    simp [h2]
  · simp [h1]
theorem Fr_upR {P : Nat → Nat → Bool} {u u' : St} {k i x : Nat} (hk : P k i = true) (h : Fr P u u') : Fr P u (uR u' k i x) := by
  intro k' i' hk'
  have hne : ¬ (k' = k ∧ i' = i) := fun hh => by rw [hh.1, hh.2, hk] at hk'; cases hk'
  refine ⟨(h k' i' hk').1, (h k' i' hk').2.1, ?_⟩
  rw [← (h k' i' hk').2.2]
  unfold gR uR va_up
  by_cases h1 : k' = k
  · subst h1
    have h2 : i' ≠ i := fun h => hne ⟨rfl, h⟩
    simp [h2]
  · simp [h1]
theorem I_uI1 (u : St) (k i : Nat) (x : Int) (h1 : -2147483648 ≤ x) (h2 : x < 2147483648) : I (uI u k i (zI x)) k i = x := by rw [I_uI u k i x h1 h2, if_pos ⟨rfl, rfl⟩]
theorem I_uI2 (u : St) (k i : Nat) (x : Int32) (k' i' : Nat) (h : ¬ (k' = k ∧ i' = i)) : I (uI u k i x) k' i' = I u k' i' := by
  unfold I gI uI va_up
  by_cases h1 : k' = k
  · subst h1
    have h2 : i' ≠ i := fun hh => h ⟨rfl, hh⟩
    simp [h2]
  · simp [h1]
theorem I_uI3 (u : St) (k i : Nat) (x : Int32) (k' i' : Nat) (h : k' ≠ k) : I (uI u k i x) k' i' = I u k' i' := I_uI2 _ _ _ _ _ _ (fun hh => h hh.1)
