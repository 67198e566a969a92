/-! writing: numbers -/
theorem zN_div (a b : Nat) (h1 : a < 2147483648) (h2 : 0 < b) (h3 : b < 2147483648) : zI (a : Int) / zI (b : Int) = zI ((a / b : Nat) : Int) := by
  rw [z_div (by omega) (by omega) (by omega) (by omega), Int.natCast_ediv]
theorem dig_ex (n : Nat) (hn : n < 2147483648) : ∃ m, 1 ≤ m ∧ m ≤ 10 ∧ n < 10 ^ m ∧ (m = 1 ∨ 10 ^ (m - 1) ≤ n) := by
  have hall : ∀ k, n < 10 ^ k → 1 ≤ k → ∃ m, 1 ≤ m ∧ m ≤ k ∧ n < 10 ^ m ∧ (m = 1 ∨ 10 ^ (m - 1) ≤ n) := by
    intro k
    induction k with
    | zero => intro _ h; omega
    | succ k ih =>
      intro h1 _
      by_cases h : n < 10 ^ k ∧ 1 ≤ k
      · obtain ⟨m, a1, a2, a3, a4⟩ := ih h.1 h.2
        exact ⟨m, a1, by omega, a3, a4⟩
      · by_cases hk : k = 0
        · subst hk; exact ⟨1, by omega, by omega, h1, Or.inl rfl⟩
        · refine ⟨k + 1, by omega, by omega, h1, Or.inr ?_⟩
          rw [Nat.add_sub_cancel]
          apply Classical.byContradiction; intro hh
          exact h ⟨by omega, by omega⟩
  exact hall 10 (by omega) (by omega)
theorem pow_lt_fit {j : Nat} (h : j ≤ 9) : 0 < 10 ^ j ∧ 10 ^ j < 2147483648 := by
  have h1 : (10 : Nat) ^ j ≤ 10 ^ 9 := Nat.pow_le_pow_right (by decide) h
  exact ⟨Nat.pow_pos (by decide), by omega⟩
theorem div_step (n j : Nat) : n / 10 ^ j / 10 = n / 10 ^ (j + 1) := by rw [Nat.div_div_eq_div_mul, Nat.pow_succ]
theorem dig_lo {n m j : Nat} (h1 : m = 1 ∨ 10 ^ (m - 1) ≤ n) (hj : j + 1 < m) : 1 ≤ n / 10 ^ (j + 1) := by
  have h2 : 10 ^ (j + 1) ≤ 10 ^ (m - 1) := Nat.pow_le_pow_right (by decide) (by omega)
  rcases h1 with h1 | h1
  · omega
  · exact (Nat.le_div_iff_mul_le (Nat.pow_pos (by decide))).2 (by omega)
theorem dig_hi {n m : Nat} (h : n < 10 ^ m) : n / 10 ^ m = 0 := Nat.div_eq_of_lt h
def dgt (n j : Nat) : Nat := n / 10 ^ j % 10
theorem cdig_loop (n m : Nat) (hn : n < 2147483648) (hm : m ≤ 10) (h1 : n < 10 ^ m) (h2 : m = 1 ∨ 10 ^ (m - 1) ≤ n) (d : Nat) : ∀ (F j : Nat) (u : St), j + d + 1 = m → d < F → ∃ u', fX1_putNumber_L1 F 0 (zI j) (zI ((n / 10 ^ j : Nat) : Int)) u = fX1_putNumber_L0 FU 0 (zI ((m : Int) - 1)) u' ∧ (∀ i, j ≤ i → i < m → I u' 75 i = (dgt n i : Nat)) ∧ (∀ i, i < j → I u' 75 i = I u 75 i) ∧ Fr (fun k _ => k == 75) u u' := by
  induction d with
  | zero =>
    intro F j u hj hF
    obtain ⟨G, rfl⟩ : ∃ G, F = G + 1 := ⟨F - 1, by omega⟩
    have hmj : m = j + 1 := by omega
    have hq : n / 10 ^ j < 2147483648 := Nat.lt_of_le_of_lt (Nat.div_le_self _ _) hn
    have hz : n / 10 ^ j / 10 = 0 := by rw [div_step, ← hmj]; exact dig_hi h1
    have e1 : ((n / 10 ^ j : Nat) : Int) - ((0 : Nat) : Int) * 10 = (dgt n j : Nat) := by unfold dgt; omega
    refine ⟨uI u 75 j (zI (dgt n j : Nat)), ?_, ?_, ?_, Fr_up rfl (Fr_rfl _ _)⟩
    · have st : fX1_putNumber_L1 (G + 1) 0 (zI j) (zI ((n / 10 ^ j : Nat) : Int)) u = fX1_putNumber_L1_0 (fX1_putNumber_L1 G) (zI j) (zI ((n / 10 ^ j : Nat) : Int)) u := rfl
      rw [st]
      generalize fX1_putNumber_L1 G = R
      unfold fX1_putNumber_L1_0
      generalize FU = FF
      rw [show (10 : Int32) = zI ((10 : Nat) : Int) from rfl, zN_div _ _ hq (by decide) (by decide), hz, z_mul, z_sub, st_z _ _ _ _ _ (by omega) (by omega), bd_s, Int.toNat_natCast, lt_e, lt_e, if_pos (by decide), show (1 : Int32) = zI 1 from rfl, z_add, z_sub, lt_e, show (((n / 10 ^ j : Nat) : Int) - ((0 : Nat) : Int) * ((10 : Nat) : Int)) = (dgt n j : Nat) from e1, show (j : Int) + 1 - 1 = (m : Int) - 1 by omega]
    · intro i hi1 hi2
      have : i = j := by omega
      subst this
      have hd : dgt n i < 10 := by unfold dgt; omega
      rw [I_uI1 _ _ _ _ (by omega) (by omega)]
    · intro i hi; rw [I_uI2 _ _ _ _ _ _ (by omega)]
  | succ d ih =>
    intro F j u hj hF
    obtain ⟨G, rfl⟩ : ∃ G, F = G + 1 := ⟨F - 1, by omega⟩
    have hq : n / 10 ^ j < 2147483648 := Nat.lt_of_le_of_lt (Nat.div_le_self _ _) hn
    have hz : n / 10 ^ j / 10 = n / 10 ^ (j + 1) := div_step n j
    have hq2 : n / 10 ^ (j + 1) < 2147483648 := Nat.lt_of_le_of_lt (Nat.div_le_self _ _) hn
    have hlo := dig_lo h2 (show j + 1 < m by omega)
    have e1 : ((n / 10 ^ j : Nat) : Int) - ((n / 10 ^ (j + 1) : Nat) : Int) * ((10 : Nat) : Int) = (dgt n j : Nat) := by
      unfold dgt; rw [← hz]; omega
    have hstep : fX1_putNumber_L1 (G + 1) 0 (zI j) (zI ((n / 10 ^ j : Nat) : Int)) u = fX1_putNumber_L1 G 0 (zI ((j + 1 : Nat) : Int)) (zI ((n / 10 ^ (j + 1) : Nat) : Int)) (uI u 75 j (zI (dgt n j : Nat))) := by
      have st : fX1_putNumber_L1 (G + 1) 0 (zI j) (zI ((n / 10 ^ j : Nat) : Int)) u = fX1_putNumber_L1_0 (fX1_putNumber_L1 G) (zI j) (zI ((n / 10 ^ j : Nat) : Int)) u := rfl
      rw [st]
      generalize fX1_putNumber_L1 G = R
      unfold fX1_putNumber_L1_0
      generalize FU = FF
      rw [show (10 : Int32) = zI ((10 : Nat) : Int) from rfl, zN_div _ _ hq (by decide) (by decide), hz, z_mul, z_sub, st_z _ _ _ _ _ (by omega) (by omega), bd_s, Int.toNat_natCast, lt_e, lt_e, if_neg (by rw [z_zero, z_le (by omega) (by omega) (by decide) (by decide)]; omega), show (1 : Int32) = zI 1 from rfl, z_add, if_pos (by rw [z_lt (by omega) (by omega) (by decide) (by decide)]; omega), e1, show (j : Int) + 1 = ((j + 1 : Nat) : Int) by omega]
    obtain ⟨u', r1, r2, r3, r4⟩ := ih G (j + 1) (uI u 75 j (zI (dgt n j : Nat))) (by omega) (by omega)
    have hd : dgt n j < 10 := by unfold dgt; omega
    refine ⟨u', hstep.trans r1, ?_, ?_, Fr_tr (Fr_up rfl (Fr_rfl _ _)) r4⟩
    · intro i hi1 hi2
      by_cases hij : i = j
      · subst hij; rw [r3 i (by omega), I_uI1 _ _ _ _ (by omega) (by omega)]
      · exact r2 i (by omega) hi2
    · intro i hi; rw [r3 i (by omega), I_uI2 _ _ _ _ _ _ (by omega)]
theorem rdig_loop (n m : Nat) (hn : n < 2147483648) (hm1 : 1 ≤ m) (hm : m ≤ 10) (h1 : n < 10 ^ m) (h2 : m = 1 ∨ 10 ^ (m - 1) ≤ n) (d : Nat) : ∀ (F j : Nat) (v : St), j + d + 1 = m → d < F → fX12_decimal_L1 F 0 (zI n) (zI ((10 ^ j : Nat) : Int)) v = fX12_decimal_L0 FU 0 (zI n) (zI ((10 ^ (m - 1) : Nat) : Int)) v := by
  induction d with
  | zero =>
    intro F j v hj hF
    obtain ⟨G, rfl⟩ : ∃ G, F = G + 1 := ⟨F - 1, by omega⟩
    have hmj : m - 1 = j := by omega
    obtain ⟨p1, p2⟩ := pow_lt_fit (show j ≤ 9 by omega)
    have hq : n / 10 ^ j ≤ 9 := by
      have h3 : n / 10 ^ j / 10 = 0 := by rw [div_step, show j + 1 = m by omega]; exact dig_hi h1
      omega
    have st : fX12_decimal_L1 (G + 1) 0 (zI n) (zI ((10 ^ j : Nat) : Int)) v = fX12_decimal_L1_0 (fX12_decimal_L1 G) (zI n) (zI ((10 ^ j : Nat) : Int)) v := rfl
    rw [st, hmj]
    generalize fX12_decimal_L1 G = R
    unfold fX12_decimal_L1_0
    generalize FU = FF
    obtain ⟨Q, hQ⟩ : ∃ Q, n / 10 ^ j = Q := ⟨_, rfl⟩
    rw [hQ] at hq
    rw [nz_z (by omega) (by omega) (by omega), bd_s, zN_div _ _ hn p1 p2, hQ, if_pos (by rw [z_lit, z_le (by omega) (by omega) (by decide) (by decide)]; omega)]
  | succ d ih =>
    intro F j v hj hF
    obtain ⟨G, rfl⟩ : ∃ G, F = G + 1 := ⟨F - 1, by omega⟩
    obtain ⟨p1, p2⟩ := pow_lt_fit (show j ≤ 9 by omega)
    have hlo := dig_lo h2 (show j + 1 < m by omega)
    have hq : ¬ n / 10 ^ j ≤ 9 := by rw [← div_step] at hlo; omega
    have hq2 : n / 10 ^ j < 2147483648 := Nat.lt_of_le_of_lt (Nat.div_le_self _ _) hn
    have st : fX12_decimal_L1 (G + 1) 0 (zI n) (zI ((10 ^ j : Nat) : Int)) v = fX12_decimal_L1_0 (fX12_decimal_L1 G) (zI n) (zI ((10 ^ j : Nat) : Int)) v := rfl
    rw [← ih G (j + 1) v (by omega) (by omega), st]
    generalize fX12_decimal_L1 G = R
    unfold fX12_decimal_L1_0
    generalize FU = FF
    rw [nz_z (by omega) (by omega) (by omega), bd_s, zN_div _ _ hn p1 p2, if_neg (by rw [z_lit, z_le (by omega) (by omega) (by decide) (by decide)]; omega), lt_e, show (10 : Int32) = zI ((10 : Nat) : Int) from rfl, z_mul, show ((10 ^ j : Nat) : Int) * ((10 : Nat) : Int) = ((10 ^ (j + 1) : Nat) : Int) by rw [Nat.pow_succ]; omega]
theorem dput_loop (n m : Nat) (hn : n < 2147483648) (hm : m ≤ 10) (j : Nat) : ∀ (F G k : Nat) (u v : St), j ≤ m → j < F → j < G → DS u v k → k + j < 99990 → (∀ i, i < m → I u 75 i = (dgt n i : Nat)) → ∃ u' v', fX1_putNumber_L0 F 0 (zI ((j : Int) - 1)) u = some u' ∧ fX12_decimal_L0 G 0 (zI n) (zI ((10 ^ j / 10 : Nat) : Int)) v = some v' ∧ DS u' v' (k + j) ∧ Wr u u' v v' NoP NoP := by
  induction j with
  | zero =>
    intro F G k u v hj hF hG hD hk hd
    obtain ⟨F', rfl⟩ : ∃ F', F = F' + 1 := ⟨F - 1, by omega⟩
    obtain ⟨G', rfl⟩ : ∃ G', G = G' + 1 := ⟨G - 1, by omega⟩
    refine ⟨u, v, ?_, ?_, hD, Wr_rfl _ _ _ _⟩
    · have st : fX1_putNumber_L0 (F' + 1) 0 (zI (((0 : Nat) : Int) - 1)) u = fX1_putNumber_L0_0 (fX1_putNumber_L0 F') (zI (((0 : Nat) : Int) - 1)) u := rfl
      rw [st]; unfold fX1_putNumber_L0_0; rw [if_pos (by decide)]
    · have st : fX12_decimal_L0 (G' + 1) 0 (zI n) (zI ((10 ^ 0 / 10 : Nat) : Int)) v = fX12_decimal_L0_0 (fX12_decimal_L0 G') (zI n) (zI ((10 ^ 0 / 10 : Nat) : Int)) v := rfl
      rw [st]; unfold fX12_decimal_L0_0; rw [if_pos (by decide)]
  | succ j ih =>
    intro F G k u v hj hF hG hD hk hd
    obtain ⟨F', rfl⟩ : ∃ F', F = F' + 1 := ⟨F - 1, by omega⟩
    obtain ⟨G', rfl⟩ : ∃ G', G = G' + 1 := ⟨G - 1, by omega⟩
    obtain ⟨p1, p2⟩ := pow_lt_fit (show j ≤ 9 by omega)
    have hpow : 10 ^ (j + 1) / 10 = 10 ^ j := by rw [Nat.pow_succ]; omega
    have ej : ((j + 1 : Nat) : Int) - 1 = j := by omega
    have hq2 : n / 10 ^ j < 2147483648 := Nat.lt_of_le_of_lt (Nat.div_le_self _ _) hn
    have e1 : ((n / 10 ^ j : Nat) : Int) - ((n / 10 ^ j / 10 : Nat) : Int) * ((10 : Nat) : Int) = (dgt n j : Nat) := by unfold dgt; omega
    obtain ⟨u1, v1, r1, r2, r3, r4⟩ := put_w (zI ((48 : Int) + (dgt n j : Nat))) hD (by omega) NoP NoP
    have hd1 : ∀ i, i < m → I u1 75 i = (dgt n i : Nat) := fun i hi => by
      rw [Fr_I r4.1 (by have := hD.2.1; simp [Pw, NoP]; omega)]; exact hd i hi
    obtain ⟨u', v', s1, s2, s3, s4⟩ := ih F' G' (k + 1) u1 v1 (by omega) (by omega) (by omega) r3 (by omega) hd1
    rw [hpow, ej]
    refine ⟨u', v', ?_, ?_, by rw [show k + (j + 1) = k + 1 + j by omega]; exact s3, Wr_tr r4 s4⟩
    · rw [← s1]
      have st : fX1_putNumber_L0 (F' + 1) 0 (zI j) u = fX1_putNumber_L0_0 (fX1_putNumber_L0 F') (zI j) u := rfl
      rw [st]
      generalize fX1_putNumber_L0 F' = R
      unfold fX1_putNumber_L0_0
      rw [if_neg (by rw [z_zero, z_lt (by omega) (by omega) (by decide) (by decide)]; omega), ld_z _ _ _ _ (by omega) (by omega), bd_s, Int.toNat_natCast, hd j (by omega), show (48 : Int32) = zI 48 from rfl, z_add, r1, bd_s, lt_e, show (-1 : Int32) = zI (-1) from rfl, z_add, show (j : Int) + -1 = (j : Int) - 1 by omega]
    · rw [← s2]
      have st : fX12_decimal_L0 (G' + 1) 0 (zI n) (zI ((10 ^ j : Nat) : Int)) v = fX12_decimal_L0_0 (fX12_decimal_L0 G') (zI n) (zI ((10 ^ j : Nat) : Int)) v := rfl
      rw [st]
      generalize fX12_decimal_L0 G' = R
      unfold fX12_decimal_L0_0
      rw [if_neg (by rw [z_zero, z_le (by omega) (by omega) (by decide) (by decide)]; omega), nz_z (by omega) (by omega) (by omega), bd_s, zN_div _ _ hn p1 p2, show (10 : Int32) = zI ((10 : Nat) : Int) from rfl, zN_div _ _ hq2 (by decide) (by decide), z_mul, z_sub, e1, show (48 : Int32) = zI 48 from rfl, z_add, r2, bd_s, lt_e, zN_div _ _ p2 (by decide) (by decide)]
/-- a number is written -/
theorem num_both (n : Nat) (hn : n < 2147483648) {u v : St} {k : Nat} (hD : DS u v k) (hk : k < 99900) : ∃ u' v' m, fX1_putNumber (zI n) u = some u' ∧ fX12_decimal (zI n) v = some v' ∧ 1 ≤ m ∧ m ≤ 10 ∧ DS u' v' (k + m) ∧ Wr u u' v v' (fun k _ => k == 75) NoP := by
  obtain ⟨m, m1, m2, m3, m4⟩ := dig_ex n hn
  obtain ⟨u1, r1, r2, r3, r4⟩ := cdig_loop n m hn m2 m3 m4 (m - 1) FU 0 u (by omega) (by unfold FU; omega)
  have hr : gR u1 10 4 = gR u 10 4 := Fr_R r4 rfl
  have hr2 : gR u1 10 2 = gR u 10 2 := Fr_R r4 rfl
  have hD1 : DS u1 v k := by
    obtain ⟨d1, d2, d3, d4, d5⟩ := hD
    refine ⟨by rw [hr2]; exact d1, by rw [hr]; exact d2, by rw [hr, hr2]; exact d3, d4, ?_⟩
    rw [Fr_I r4 (show (fun k _ => k == 75) 10 5 = false from rfl), Fr_I r4 (show (fun k _ => k == 75) 10 6 = false from rfl), hr]
    rcases d5 with ⟨a1, a2, a3, a4⟩ | a
    · refine Or.inl ⟨a1, a2, a3, fun i hi => ?_⟩
      rw [Fr_I r4 (by simp; omega)]; exact a4 i hi
    · exact Or.inr a
  obtain ⟨u', v', s1, s2, s3, s4⟩ := dput_loop n m hn m2 m FU FU k u1 v (Nat.le_refl _) (by unfold FU; omega) (by unfold FU; omega) hD1 (by omega) (fun i hi => r2 i (by omega) hi)
  have hrd := rdig_loop n m hn m1 m2 m3 m4 (m - 1) FU 0 v (by omega) (by unfold FU; omega)
  have hpow : 10 ^ m / 10 = 10 ^ (m - 1) := by
    obtain ⟨m', rfl⟩ : ∃ m', m = m' + 1 := ⟨m - 1, by omega⟩
    rw [Nat.pow_succ, Nat.add_sub_cancel]; omega
  refine ⟨u', v', m, ?_, ?_, m1, m2, s3, ?_⟩
  · unfold fX1_putNumber
    rw [lt_e]
    have := r1.trans s1
    rw [Nat.pow_zero, Nat.div_one] at this
    exact this
  · unfold fX12_decimal
    rw [lt_e]
    rw [hpow] at s2
    exact hrd.trans s2
  · refine Wr_tr (u' := u1) (v' := v) ⟨Fr_up2 (fun k i hk => by simp at hk; simp [hk]) r4, hr, hr2, Fr_rfl _ _⟩ (Wr_mono (fun k i hk => by simp [NoP] at hk) (fun k i hk => hk) s4)
