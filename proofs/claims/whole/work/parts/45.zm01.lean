/-! bits -/
theorem z_bv (a : Int) : (zI a).toBitVec = BitVec.ofInt 32 a := rfl
theorem z_and7 (a : Int) : zI a &&& zI 7 = zI (a % 8) := by
  apply Int32.toBitVec.inj
  apply BitVec.eq_of_toNat_eq
  rw [Int32.toBitVec_and, BitVec.toNat_and, z_bv, z_bv, z_bv, BitVec.toNat_ofInt, BitVec.toNat_ofInt, BitVec.toNat_ofInt]
  have h : ((7 : Int) % ((2 ^ 32 : Nat) : Int)).toNat = 2 ^ 3 - 1 := by decide
  rw [h, Nat.and_two_pow_sub_one_eq_mod]
  simp only [Nat.reducePow]
  omega
theorem z_and255 (a : Int) : zI a &&& zI 255 = zI (a % 256) := by
  apply Int32.toBitVec.inj
  apply BitVec.eq_of_toNat_eq
  rw [Int32.toBitVec_and, BitVec.toNat_and, z_bv, z_bv, z_bv, BitVec.toNat_ofInt, BitVec.toNat_ofInt, BitVec.toNat_ofInt]
  have h : ((255 : Int) % ((2 ^ 32 : Nat) : Int)).toNat = 2 ^ 8 - 1 := by decide
  rw [h, Nat.and_two_pow_sub_one_eq_mod]
  simp only [Nat.reducePow]
  omega
theorem z_shr3 (a : Int) (h1 : -2147483648 ≤ a) (h2 : a < 2147483648) : zI a >>> (zI 3 &&& zI 31) = zI (a / 8) := by
  have h0 : (zI 3 &&& zI 31) = zI 3 := by decide
  rw [h0]
  apply Int32.toInt_inj.1
  rw [z_to (by omega) (by omega)]
  show (BitVec.sshiftRight (zI a).toBitVec ((zI 3).toBitVec.smod 32).toNat).toInt = _
  have h3 : ((zI 3).toBitVec.smod 32).toNat = 3 := by decide
  rw [h3, BitVec.toInt_sshiftRight, Int.shiftRight_eq_div_pow]
  have h4 : (zI a).toBitVec.toInt = a := z_to h1 h2
  rw [h4]; rfl
theorem z_shl3 (a : Int) : zI a <<< (zI 3 &&& zI 31) = zI (a * 8) := by
  have h0 : (zI 3 &&& zI 31) = zI 3 := by decide
  rw [h0]
  apply Int32.toBitVec.inj
  apply BitVec.eq_of_toNat_eq
  show (BitVec.shiftLeft (zI a).toBitVec ((zI 3).toBitVec.smod 32).toNat).toNat = _
  have h3 : ((zI 3).toBitVec.smod 32).toNat = 3 := by decide
  rw [h3]
  show ((zI a).toBitVec <<< 3).toNat = _
  rw [BitVec.toNat_shiftLeft, z_bv, z_bv, BitVec.toNat_ofInt, BitVec.toNat_ofInt, Nat.shiftLeft_eq]
  simp only [Nat.reducePow]
  omega
theorem z_or8 (a k : Int) (h0 : 0 ≤ a) (h1 : a < 268435456) (hk : 0 ≤ k) (hk8 : k < 8) : zI (a * 8) ||| zI k = zI (a * 8 + k) := by
  apply Int32.toBitVec.inj
  apply BitVec.eq_of_toNat_eq
  rw [Int32.toBitVec_or, BitVec.toNat_or, z_bv, z_bv, z_bv, BitVec.toNat_ofInt, BitVec.toNat_ofInt, BitVec.toNat_ofInt]
  have e1 : (a * 8 % ((2 ^ 32 : Nat) : Int)).toNat = 2 ^ 3 * a.toNat := by simp only [Nat.reducePow]; omega
  have e2 : (k % ((2 ^ 32 : Nat) : Int)).toNat = k.toNat := by simp only [Nat.reducePow]; omega
  rw [e1, e2, ← Nat.two_pow_add_eq_or_of_lt (by omega)]
  simp only [Nat.reducePow]; omega
theorem z_or01 {a b : Int} (ha : a = 0 ∨ a = 1) (hb : b = 0 ∨ b = 1) : zI a ||| zI b = zI (if a = 1 ∨ b = 1 then 1 else 0) := by
  rcases ha with ha | ha <;> rcases hb with hb | hb <;> subst ha <;> subst hb <;> decide
theorem z_div {a b : Int} (h1 : 0 ≤ a) (h2 : a < 2147483648) (h3 : 0 < b) (h4 : b < 2147483648) : zI a / zI b = zI (a / b) := by
  unfold zI
  rw [← Int32.ofInt_tdiv (by show -2147483648 ≤ a; omega) (by show a ≤ 2147483647; omega) (by show -2147483648 ≤ b; omega) (by show b ≤ 2147483647; omega), Int.tdiv_eq_ediv_of_nonneg h1]
