/-! writing: one sign, numbers -/
def bt (a : Int32) : Int32 := (a.toInt8.toInt32).toInt8.toInt32
theorem bt_rng (a : Int32) : -128 ≤ (bt a).toInt ∧ (bt a).toInt ≤ 127 := by
  unfold bt
  rw [Int8.toInt_toInt32]
  have h1 := Int8.le_toInt (a.toInt8.toInt32).toInt8
  have h2 := Int8.toInt_lt (a.toInt8.toInt32).toInt8
  omega
/-- both drafts hold the same k signs -/
def DS (u v : St) (k : Nat) : Prop := (gR u 10 2 = 71 ∨ gR u 10 2 = 72) ∧ (gR u 10 4 = 71 ∨ gR u 10 4 = 72) ∧ gR u 10 2 ≠ gR u 10 4 ∧ I v 100 78 = k ∧ ((k ≤ 4000 ∧ I u 10 5 = k ∧ I u 10 6 = 0 ∧ ∀ i, i < k → I u (gR u 10 4) i = I v 145 i ∧ -128 ≤ I v 145 i ∧ I v 145 i ≤ 127) ∨ (4000 < k ∧ k < 100000 ∧ I u 10 5 = 4000 ∧ I u 10 6 = 1))
/-- frames of writing: the draft d alone changes -/
def Pw (d : Nat) : Nat → Nat → Bool := fun k i => k == d || (k == 10 && (i == 5 || i == 6))
def Qw : Nat → Nat → Bool := fun k i => k == 145 || (k == 100 && i == 78)
theorem cput_low (u : St) (k d : Nat) (a : Int32) (hd : gR u 10 4 = d) (hd2 : d = 71 ∨ d = 72) (hk : k < 4000) (h5 : I u 10 5 = k) : fX1_put a u = some (uI (uI u d k (bt a)) 10 5 (zI ((k + 1 : Nat) : Int))) := by
  have e1 : I (uI u d k (bt a)) 10 5 = k := by rw [I_uI3 _ _ _ _ _ _ (by omega)]; exact h5
  have hpg : pg d = some d := by unfold pg; rw [if_pos hd2]
  unfold fX1_put
  rw [gI_z u 10 5, h5, if_pos (by rw [z_lit, z_lt (by omega) (by omega) (by decide) (by decide)]; omega), hd, hpg, bd_s, stB_z _ _ _ _ _ (by omega) (by omega), bd_s, Int.toNat_natCast]
  show lt (uI (uI u d k (bt a)) 10 5 (gI (uI u d k (bt a)) 10 5 + 1)) _ = _
  rw [gI_z, e1, lt_e, show (1 : Int32) = zI 1 from rfl, z_add, show (k : Int) + 1 = ((k + 1 : Nat) : Int) by omega]
theorem cput_high (u : St) (a : Int32) (h5 : I u 10 5 = 4000) : fX1_put a u = some (uI u 10 6 (zI 1)) := by
  unfold fX1_put
  rw [gI_z u 10 5, h5, if_neg (by decide), lt_e]; rfl
theorem rput_low (v : St) (k : Nat) (a : Int32) (hk : k < 4100) (h78 : I v 100 78 = k) : fX12_put a v = some (uI (uI v 145 k (bt a)) 100 78 (zI ((k + 1 : Nat) : Int))) := by
  have e1 : I (uI v 145 k (bt a)) 100 78 = k := by rw [I_uI3 _ _ _ _ _ _ (by decide)]; exact h78
  unfold fX12_put fX12_put_j21
  rw [gI_z v 100 78, h78, if_neg (by rw [z_lit, z_le (by decide) (by decide) (by omega) (by omega)]; omega), stB_z _ _ _ _ _ (by omega) (by omega), bd_s, Int.toNat_natCast]
  show lt (uI (uI v 145 k (bt a)) 100 78 (gI (uI v 145 k (bt a)) 100 78 + 1)) _ = _
  rw [gI_z, e1, lt_e, show (1 : Int32) = zI 1 from rfl, z_add, show (k : Int) + 1 = ((k + 1 : Nat) : Int) by omega]
theorem rput_high (v : St) (k : Nat) (a : Int32) (hk : 4100 ≤ k) (hk2 : k < 100000) (h78 : I v 100 78 = k) : fX12_put a v = some (uI v 100 78 (zI ((k + 1 : Nat) : Int))) := by
  unfold fX12_put fX12_put_j21
  rw [gI_z v 100 78, h78, if_pos (by rw [z_lit, z_le (by decide) (by decide) (by omega) (by omega)]; omega), lt_e, show (1 : Int32) = zI 1 from rfl, z_add, show (k : Int) + 1 = ((k + 1 : Nat) : Int) by omega]
theorem rput_any (v : St) (k : Nat) (a : Int32) (hk2 : k < 100000) (h78 : I v 100 78 = k) : ∃ v', fX12_put a v = some v' ∧ I v' 100 78 = ((k + 1 : Nat) : Int) ∧ Fr Qw v v' := by
  by_cases hk : k < 4100
  · exact ⟨_, rput_low v k a hk h78, I_uI1 _ _ _ _ (by omega) (by omega), Fr_up rfl (Fr_up rfl (Fr_rfl _ _))⟩
  · exact ⟨_, rput_high v k a (by omega) hk2 h78, I_uI1 _ _ _ _ (by omega) (by omega), Fr_up rfl (Fr_rfl _ _)⟩
theorem put_both {u v : St} {k : Nat} (a : Int32) (h : DS u v k) (hk : k < 99999) : ∃ u' v', fX1_put a u = some u' ∧ fX12_put a v = some v' ∧ DS u' v' (k + 1) ∧ Fr (Pw (gR u 10 4)) u u' ∧ gR u' 10 4 = gR u 10 4 ∧ gR u' 10 2 = gR u 10 2 ∧ Fr Qw v v' := by
  obtain ⟨d1, d2, d3, d4, d5⟩ := h
  obtain ⟨d, hd⟩ : ∃ d, gR u 10 4 = d := ⟨_, rfl⟩
  rcases d5 with ⟨a1, a2, a3, a4⟩ | ⟨a1, a2, a3, a4⟩
  · by_cases h4 : k < 4000
    · have Fa : Fr (Pw d) u (uI (uI u d k (bt a)) 10 5 (zI ((k + 1 : Nat) : Int))) := Fr_up (by simp [Pw]) (Fr_up (by simp [Pw]) (Fr_rfl _ _))
      have Fb : Fr Qw v (uI (uI v 145 k (bt a)) 100 78 (zI ((k + 1 : Nat) : Int))) := Fr_up rfl (Fr_up rfl (Fr_rfl _ _))
      refine ⟨_, _, cput_low u k d a hd (by rw [← hd]; exact d2) h4 a2, rput_low v k a (by omega) d4, ⟨d1, d2, d3, I_uI1 _ _ _ _ (by omega) (by omega), Or.inl ⟨by omega, I_uI1 _ _ _ _ (by omega) (by omega), ?_, ?_⟩⟩, by rw [hd]; exact Fa, rfl, rfl, Fb⟩
      · rw [I_uI2 _ _ _ _ _ _ (by omega), I_uI3 _ _ _ _ _ _ (by rw [hd] at d2; omega)]; exact a3
      · intro i hi
        show I (uI (uI u d k (bt a)) 10 5 (zI ((k + 1 : Nat) : Int))) (gR u 10 4) i = I (uI (uI v 145 k (bt a)) 100 78 (zI ((k + 1 : Nat) : Int))) 145 i ∧ -128 ≤ I (uI (uI v 145 k (bt a)) 100 78 (zI ((k + 1 : Nat) : Int))) 145 i ∧ I (uI (uI v 145 k (bt a)) 100 78 (zI ((k + 1 : Nat) : Int))) 145 i ≤ 127
        rw [hd, I_uI3 (uI u d k (bt a)) 10 5 _ d i (by rw [hd] at d2; omega), I_uI3 (uI v 145 k (bt a)) 100 78 _ 145 i (by decide)]
        by_cases hik : i = k
        · subst hik; rw [I_uIx, I_uIx]; exact ⟨rfl, bt_rng a⟩
        · rw [I_uI2 _ _ _ _ _ _ (by omega), I_uI2 _ _ _ _ _ _ (by omega), ← hd]; exact a4 i (by omega)
    · have hk4 : k = 4000 := by omega
      subst hk4
      have Fa : Fr (Pw d) u (uI u 10 6 (zI 1)) := Fr_up (by simp [Pw]) (Fr_rfl _ _)
      have Fb : Fr Qw v (uI (uI v 145 4000 (bt a)) 100 78 (zI ((4000 + 1 : Nat) : Int))) := Fr_up rfl (Fr_up rfl (Fr_rfl _ _))
      refine ⟨_, _, cput_high u a a2, rput_low v 4000 a (by decide) d4, ⟨d1, d2, d3, I_uI1 _ _ _ _ (by decide) (by decide), Or.inr ⟨by decide, by decide, ?_, I_uI1 _ _ _ _ (by decide) (by decide)⟩⟩, by rw [hd]; exact Fa, rfl, rfl, Fb⟩
      rw [I_uI2 _ _ _ _ _ _ (by omega)]; exact a2
  · have Fa : Fr (Pw d) u (uI u 10 6 (zI 1)) := Fr_up (by simp [Pw]) (Fr_rfl _ _)
    obtain ⟨v', r1, r2, r3⟩ := rput_any v k a a2 d4
    refine ⟨_, v', cput_high u a a3, r1, ⟨d1, d2, d3, r2, Or.inr ⟨by omega, by omega, ?_, I_uI1 _ _ _ _ (by decide) (by decide)⟩⟩, by rw [hd]; exact Fa, rfl, rfl, r3⟩
    rw [I_uI2 _ _ _ _ _ _ (by omega)]; exact a3
/-- what both sides keep while they write -/
def Wr (u u' v v' : St) (P Q : Nat → Nat → Bool) : Prop := Fr (fun k i => P k i || Pw (gR u 10 4) k i) u u' ∧ gR u' 10 4 = gR u 10 4 ∧ gR u' 10 2 = gR u 10 2 ∧ Fr (fun k i => Q k i || Qw k i) v v'
def NoP : Nat → Nat → Bool := fun _ _ => false
theorem Wr_rfl (u v : St) (P Q : Nat → Nat → Bool) : Wr u u v v P Q := ⟨Fr_rfl _ _, rfl, rfl, Fr_rfl _ _⟩
theorem Wr_tr {u u' u'' v v' v'' : St} {P Q : Nat → Nat → Bool} (h : Wr u u' v v' P Q) (h' : Wr u' u'' v' v'' P Q) : Wr u u'' v v'' P Q := ⟨Fr_tr h.1 (by have := h'.1; rw [h.2.1] at this; exact this), h'.2.1.trans h.2.1, h'.2.2.1.trans h.2.2.1, Fr_tr h.2.2.2 h'.2.2.2⟩
theorem Wr_mono {u u' v v' : St} {P Q P' Q' : Nat → Nat → Bool} (hP : ∀ k i, P k i = true → P' k i = true) (hQ : ∀ k i, Q k i = true → Q' k i = true) (h : Wr u u' v v' P Q) : Wr u u' v v' P' Q' := ⟨Fr_up2 (fun k i hk => by simp only [Bool.or_eq_true] at hk ⊢; rcases hk with hk | hk; exact Or.inl (hP k i hk); exact Or.inr hk) h.1, h.2.1, h.2.2.1, Fr_up2 (fun k i hk => by simp only [Bool.or_eq_true] at hk ⊢; rcases hk with hk | hk; exact Or.inl (hQ k i hk); exact Or.inr hk) h.2.2.2⟩
theorem put_w {u v : St} {k : Nat} (a : Int32) (h : DS u v k) (hk : k < 99999) (P Q : Nat → Nat → Bool) : ∃ u' v', fX1_put a u = some u' ∧ fX12_put a v = some v' ∧ DS u' v' (k + 1) ∧ Wr u u' v v' P Q := by
  obtain ⟨u', v', r1, r2, r3, r4, r5, r6, r7⟩ := put_both a h hk
  exact ⟨u', v', r1, r2, r3, Fr_up2 (fun k i hk => by simp [hk]) r4, r5, r6, Fr_up2 (fun k i hk => by simp [hk]) r7⟩
