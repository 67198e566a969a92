/-! writing: names -/
theorem zJ_to {x : Int} (h : -9223372036854775808 ≤ x) (h' : x < 9223372036854775808) : (zJ x).toInt = x := Int64.toInt_ofInt_of_le h h'
theorem shrJ (X s : Nat) (a : Int64) (hX : X < 9223372036854775808) (ha : (a.toBitVec.smod 64).toNat = s) : zJ X >>> a = zJ ((X / 2 ^ s : Nat) : Int) := by
  apply Int64.toInt_inj.1
  have hle : X / 2 ^ s ≤ X := Nat.div_le_self _ _
  obtain ⟨Y, hY⟩ : ∃ Y, X / 2 ^ s = Y := ⟨_, rfl⟩
  rw [hY] at hle ⊢
  rw [zJ_to (x := (Y : Int)) (by omega) (by omega)]
  show (BitVec.sshiftRight (zJ X).toBitVec (a.toBitVec.smod 64).toNat).toInt = _
  rw [ha, BitVec.toInt_sshiftRight, Int.shiftRight_eq_div_pow]
  have h4 : (zJ X).toBitVec.toInt = X := zJ_to (by omega) (by omega)
  rw [h4, ← hY]
  rw [Int.natCast_ediv]
theorem zJ_32 (x : Int) : (zJ x).toInt32 = zI x := Int64.toInt32_ofInt
theorem zJ_bv (a : Int) : (zJ a).toBitVec = BitVec.ofInt 64 a := rfl
theorem zJ_and63 (a : Int) : zJ a &&& zJ 63 = zJ (a % 64) := by
  apply Int64.toBitVec.inj
  apply BitVec.eq_of_toNat_eq
  rw [Int64.toBitVec_and, BitVec.toNat_and, zJ_bv, zJ_bv, zJ_bv, BitVec.toNat_ofInt, BitVec.toNat_ofInt, BitVec.toNat_ofInt]
  have h : ((63 : Int) % ((2 ^ 64 : Nat) : Int)).toNat = 2 ^ 6 - 1 := by decide
  rw [h, Nat.and_two_pow_sub_one_eq_mod]
  simp only [Nat.reducePow]
  omega
theorem amt8 (j : Nat) (hj : j < 8) : (((zI (8 * (j : Int))).toInt64 &&& 63).toBitVec.smod 64).toNat = 8 * j := by
  have : j = 0 ∨ j = 1 ∨ j = 2 ∨ j = 3 ∨ j = 4 ∨ j = 5 ∨ j = 6 ∨ j = 7 := by omega
  rcases this with h | h | h | h | h | h | h | h <;> subst h <;> decide
theorem amt6 (j : Nat) (hj : j < 9) : (((zI (6 * (j : Int))).toInt64 &&& 63).toBitVec.smod 64).toNat = 6 * j := by
  have : j = 0 ∨ j = 1 ∨ j = 2 ∨ j = 3 ∨ j = 4 ∨ j = 5 ∨ j = 6 ∨ j = 7 ∨ j = 8 := by omega
  rcases this with h | h | h | h | h | h | h | h | h <;> subst h <;> decide
theorem ch_rng {d : Nat} (h1 : 1 ≤ d) (h2 : d ≤ 63) : 48 ≤ ch d ∧ ch d ≤ 122 := by
  unfold ch
  by_cases a : d < 27
  · rw [if_pos a]; omega
  · rw [if_neg a]
    by_cases b : d < 53
    · rw [if_pos b]; omega
    · rw [if_neg b]
      by_cases c : d < 63
      · rw [if_pos c]; omega
      · rw [if_neg c]; omega
theorem pq_div (b : Nat) (f : Nat → Nat) (hb : 0 < b) (l : List Nat) (hl : ∀ d ∈ l, f d < b) (j : Nat) : pk b f l / b ^ j = pk b f (l.drop j) := by
  induction j generalizing l with
  | zero => simp
  | succ j ih =>
    cases l with
    | nil => simp [pk]
    | cons d l =>
      rw [Nat.pow_succ, Nat.mul_comm, ← Nat.div_div_eq_div_mul, List.drop_succ_cons]
      have h1 : pk b f (d :: l) / b = pk b f l := by
        have := hl d (by simp)
        show (f d + b * pk b f l) / b = _
        rw [Nat.add_mul_div_left _ _ hb, Nat.div_eq_of_lt this, Nat.zero_add]
      rw [h1]
      exact ih l (fun x hx => hl x (by simp [hx]))
theorem pq_mod (b : Nat) (f : Nat → Nat) (hb : 0 < b) (l : List Nat) (hl : ∀ d ∈ l, f d < b) : pk b f l % b = (l.head?.map f).getD 0 := by
  cases l with
  | nil => simp [pk]
  | cons d l => show (f d + b * pk b f l) % b = _; rw [Nat.add_mul_mod_self_left]; exact Nat.mod_eq_of_lt (hl d (by simp))
theorem pq_lt (b : Nat) (f : Nat → Nat) (M : Nat) (l : List Nat) (hl : ∀ d ∈ l, f d ≤ M) (hM : M < b) : pk b f l < b ^ l.length := by
  induction l with
  | nil => simp [pk]
  | cons d l ih =>
    have h1 := ih (fun x hx => hl x (by simp [hx]))
    have h2 := hl d (by simp)
    show f d + b * pk b f l < b ^ (l.length + 1)
    rw [Nat.pow_succ, Nat.mul_comm (b ^ l.length) b]
    have h3 : b * (pk b f l + 1) ≤ b * b ^ l.length := Nat.mul_le_mul_left _ h1
    rw [Nat.mul_add] at h3
    omega
theorem pk_top (l : List Nat) (hl : ∀ d ∈ l, 1 ≤ d ∧ d ≤ 63) (h8 : l.length ≤ 8) : pk 256 ch l < 9223372036854775808 := by
  have hg : 255 * pk 256 ch l + 122 ≤ 122 * 256 ^ l.length := by
    clear h8
    induction l with
    | nil => simp [pk]
    | cons d l ih =>
      have h1 := ih (fun x hx => hl x (by simp [hx]))
      have hc := ch_rng (hl d (by simp)).1 (hl d (by simp)).2
      show 255 * (ch d + 256 * pk 256 ch l) + 122 ≤ 122 * 256 ^ (l.length + 1)
      rw [Nat.pow_succ]
      omega
  have h2 : (256 : Nat) ^ l.length ≤ 256 ^ 8 := Nat.pow_le_pow_right (by decide) h8
  have h3 : (256 : Nat) ^ 8 = 18446744073709551616 := by decide
  omega
/-- the bytes of a name, as the class takes them out -/
theorem c_byte (l : List Nat) (hl : ∀ d ∈ l, 1 ≤ d ∧ d ≤ 63) (h8 : l.length ≤ 8) (j : Nat) (hj : j < 8) : ((zJ ((pk 256 ch l : Nat) : Int) >>> ((zI (8 * (j : Int))).toInt64 &&& 63)).toInt32) &&& zI 255 = zI (((l.drop j).head?.map ch).getD 0 : Nat) := by
  have hx := pk_top l hl h8
  have hc : ∀ d ∈ l, ch d < 256 := fun d hd => by have := ch_rng (hl d hd).1 (hl d hd).2; omega
  rw [shrJ _ (8 * j) _ hx (amt8 j hj), zJ_32, z_and255, show (2 : Nat) ^ (8 * j) = 256 ^ j by rw [Nat.pow_mul], pq_div 256 ch (by decide) l hc j]
  have hm := pq_mod 256 ch (by decide) (l.drop j) (fun d hd => hc d (List.mem_of_mem_drop hd))
  have : ((pk 256 ch (l.drop j) : Nat) : Int) % 256 = ((pk 256 ch (l.drop j) % 256 : Nat) : Int) := by omega
  rw [this, hm]
theorem r_byte (l : List Nat) (hl : ∀ d ∈ l, 1 ≤ d ∧ d ≤ 63) (h8 : l.length ≤ 8) (j : Nat) (hj : j < 9) : zJ ((pk 64 id l : Nat) : Int) >>> ((zI (6 * (j : Int))).toInt64 &&& 63) = zJ ((pk 64 id (l.drop j) : Nat) : Int) := by
  have hc : ∀ d ∈ l, id d < 64 := fun d hd => by have := (hl d hd).2; simp only [id]; omega
  have hlt := pq_lt 64 id 63 l (fun d hd => (hl d hd).2) (by decide)
  have h2 : (64 : Nat) ^ l.length ≤ 64 ^ 8 := Nat.pow_le_pow_right (by decide) h8
  have h3 : (64 : Nat) ^ 8 = 281474976710656 := by decide
  rw [shrJ _ (6 * j) _ (by omega) (amt6 j hj), show (2 : Nat) ^ (6 * j) = 64 ^ j by rw [Nat.pow_mul], pq_div 64 id (by decide) l hc j]
theorem pk_pos (l : List Nat) (hl : ∀ d ∈ l, 1 ≤ d ∧ d ≤ 63) (hne : l ≠ []) : 1 ≤ pk 64 id l := by
  cases l with
  | nil => exact absurd rfl hne
  | cons d l => have := (hl d (by simp)).1; show 1 ≤ id d + 64 * pk 64 id l; simp only [id]; omega
theorem signOf_spec (d : Nat) (h1 : 1 ≤ d) (h2 : d ≤ 63) (v : St) : fX12_signOf (zI d) v = some (zI (ch d : Nat), v) := by
  unfold fX12_signOf ch
  by_cases a : d < 27
  · rw [if_neg (by rw [z_lit, z_le (by decide) (by decide) (by omega) (by omega)]; omega), if_pos a, show (97 : Int32) = zI 97 from rfl, show (1 : Int32) = zI 1 from rfl, z_add, z_sub, show (97 : Int) + d - 1 = ((96 + d : Nat) : Int) by omega]
  · rw [if_pos (by rw [z_lit, z_le (by decide) (by decide) (by omega) (by omega)]; omega), if_neg a]
    by_cases b : d < 53
    · rw [if_neg (by rw [z_lit, z_le (by decide) (by decide) (by omega) (by omega)]; omega), if_pos b, show (65 : Int32) = zI 65 from rfl, show (27 : Int32) = zI 27 from rfl, z_add, z_sub, show (65 : Int) + d - 27 = ((38 + d : Nat) : Int) by omega]
    · rw [if_pos (by rw [z_lit, z_le (by decide) (by decide) (by omega) (by omega)]; omega), if_neg b]
      by_cases c : d < 63
      · rw [if_neg (by rw [z_lit, z_le (by decide) (by decide) (by omega) (by omega)]; omega), if_pos c, show (48 : Int32) = zI 48 from rfl, show (53 : Int32) = zI 53 from rfl, z_add, z_sub, show (48 : Int) + d - 53 = ((d - 5 : Nat) : Int) by omega]
      · rw [if_pos (by rw [z_lit, z_le (by decide) (by decide) (by omega) (by omega)]; omega), if_neg c]; rfl
theorem cname_skip (u : St) (s : Nat) (l : List Nat) (hs : s < 800) (hJ : J u 15 s = (pk 256 ch l : Nat)) (hl : ∀ d ∈ l, 1 ≤ d ∧ d ≤ 63) (h8 : l.length ≤ 8) (d : Nat) : ∀ F, l.length + d ≤ 8 → fX1_putSymbol_L0 (F + d) 0 (zI s) (zI (8 * ((l.length + d : Nat) : Int) - 8)) u = fX1_putSymbol_L0 F 0 (zI s) (zI (8 * (l.length : Int) - 8)) u := by
  induction d with
  | zero => intro F _; rfl
  | succ d ih =>
    intro F h
    rw [← ih F (by omega)]
    have st : fX1_putSymbol_L0 (F + (d + 1)) 0 (zI s) (zI (8 * ((l.length + (d + 1) : Nat) : Int) - 8)) u = fX1_putSymbol_L0_0 (fX1_putSymbol_L0 (F + d)) (zI s) (zI (8 * ((l.length + (d + 1) : Nat) : Int) - 8)) u := rfl
    rw [st]
    generalize fX1_putSymbol_L0 (F + d) = R
    have hb := c_byte l hl h8 (l.length + d) (by omega)
    have hdr : l.drop (l.length + d) = [] := List.drop_eq_nil_of_le (by omega)
    rw [hdr] at hb
    unfold fX1_putSymbol_L0_0
    rw [show 8 * ((l.length + (d + 1) : Nat) : Int) - 8 = 8 * ((l.length + d : Nat) : Int) by omega, if_neg (by rw [z_zero, z_lt (by omega) (by omega) (by decide) (by decide)]; omega), ldJ_z _ _ _ _ (by omega) (by omega), bd_s, Int.toNat_natCast, hJ, lt_e, show (255 : Int32) = zI 255 from rfl, hb, if_pos (show zI (((([] : List Nat).head?.map ch).getD 0 : Nat) : Int) = 0 from rfl), lt_e, show (-8 : Int32) = zI (-8) from rfl, z_add, show 8 * ((l.length + d : Nat) : Int) + -8 = 8 * ((l.length + d : Nat) : Int) - 8 by omega]
theorem rname_len (v : St) (s : Nat) (l : List Nat) (hs : s < 800) (hJ : J v 102 s = (pk 64 id l : Nat)) (hl : ∀ d ∈ l, 1 ≤ d ∧ d ≤ 63) (h8 : l.length ≤ 8) (d : Nat) : ∀ F j, j + d = l.length → d < F → fX12_nameOut_L1 F 0 (zI s) (zI (j : Nat)) v = fX12_nameOut_L0 FU 0 (zI s) (zI ((l.length : Int) - 1)) v := by
  induction d with
  | zero =>
    intro F j hj hF
    obtain ⟨G, rfl⟩ : ∃ G, F = G + 1 := ⟨F - 1, by omega⟩
    have st : fX12_nameOut_L1 (G + 1) 0 (zI s) (zI (j : Nat)) v = fX12_nameOut_L1_0 (fX12_nameOut_L1 G) (zI s) (zI (j : Nat)) v := rfl
    rw [st]
    generalize fX12_nameOut_L1 G = R
    have hb := r_byte l hl h8 j (by omega)
    have hdr : l.drop j = [] := List.drop_eq_nil_of_le (by omega)
    rw [hdr] at hb
    unfold fX12_nameOut_L1_0
    generalize FU = FF
    rw [ldJ_z _ _ _ _ (by omega) (by omega), bd_s, Int.toNat_natCast, hJ, show (6 : Int32) = zI 6 from rfl, z_mul, hb, if_pos (by decide), lt_e, show (1 : Int32) = zI 1 from rfl, z_sub, show (j : Int) - 1 = (l.length : Int) - 1 by omega]
  | succ d ih =>
    intro F j hj hF
    obtain ⟨G, rfl⟩ : ∃ G, F = G + 1 := ⟨F - 1, by omega⟩
    rw [← ih G (j + 1) (by omega) (by omega)]
    have st : fX12_nameOut_L1 (G + 1) 0 (zI s) (zI (j : Nat)) v = fX12_nameOut_L1_0 (fX12_nameOut_L1 G) (zI s) (zI (j : Nat)) v := rfl
    rw [st]
    generalize fX12_nameOut_L1 G = R
    have hb := r_byte l hl h8 j (by omega)
    have hne : l.drop j ≠ [] := fun h => by have := List.drop_eq_nil_iff.1 h; omega
    have hld : ∀ d ∈ l.drop j, 1 ≤ d ∧ d ≤ 63 := fun d hd => hl d (List.mem_of_mem_drop hd)
    have hp := pk_pos (l.drop j) hld hne
    have hlt := pq_lt 64 id 63 (l.drop j) (fun d hd => (hld d hd).2) (by decide)
    have h2 : (64 : Nat) ^ (l.drop j).length ≤ 64 ^ 8 := Nat.pow_le_pow_right (by decide) (by rw [List.length_drop]; omega)
    have h3 : (64 : Nat) ^ 8 = 281474976710656 := by decide
    have hcmp : lg_cmp (zJ ((pk 64 id (l.drop j) : Nat) : Int)) 0 = 1 := by
      unfold lg_cmp
      rw [if_pos]
      show (0 : Int64) < zJ _
      rw [Int64.lt_iff_toInt_lt, zJ_to (by omega) (by omega)]
      show (0 : Int) < _
      omega
    unfold fX12_nameOut_L1_0
    generalize FU = FF
    rw [ldJ_z _ _ _ _ (by omega) (by omega), bd_s, Int.toNat_natCast, hJ, show (6 : Int32) = zI 6 from rfl, z_mul, hb, hcmp, if_neg (by decide), lt_e, show (1 : Int32) = zI 1 from rfl, z_add, show (j : Int) + 1 = ((j + 1 : Nat) : Int) by omega]
theorem name_loop (s : Nat) (l : List Nat) (hs : s < 800) (hl : ∀ d ∈ l, 1 ≤ d ∧ d ≤ 63) (h8 : l.length ≤ 8) (j : Nat) : ∀ (F G k : Nat) (u v : St), j ≤ l.length → j < F → j < G → DS u v k → k + j < 99990 → J u 15 s = (pk 256 ch l : Nat) → J v 102 s = (pk 64 id l : Nat) → ∃ u' v', fX1_putSymbol_L0 F 0 (zI s) (zI (8 * (j : Int) - 8)) u = some u' ∧ fX12_nameOut_L0 G 0 (zI s) (zI ((j : Int) - 1)) v = some v' ∧ DS u' v' (k + j) ∧ Wr u u' v v' NoP NoP := by
  induction j with
  | zero =>
    intro F G k u v hj hF hG hD hk hJu hJv
    obtain ⟨F', rfl⟩ : ∃ F', F = F' + 1 := ⟨F - 1, by omega⟩
    obtain ⟨G', rfl⟩ : ∃ G', G = G' + 1 := ⟨G - 1, by omega⟩
    refine ⟨u, v, ?_, ?_, hD, Wr_rfl _ _ _ _⟩
    · have st : fX1_putSymbol_L0 (F' + 1) 0 (zI s) (zI (8 * ((0 : Nat) : Int) - 8)) u = fX1_putSymbol_L0_0 (fX1_putSymbol_L0 F') (zI s) (zI (8 * ((0 : Nat) : Int) - 8)) u := rfl
      rw [st]; unfold fX1_putSymbol_L0_0; rw [if_pos (by decide)]
    · have st : fX12_nameOut_L0 (G' + 1) 0 (zI s) (zI (((0 : Nat) : Int) - 1)) v = fX12_nameOut_L0_0 (fX12_nameOut_L0 G') (zI s) (zI (((0 : Nat) : Int) - 1)) v := rfl
      rw [st]; unfold fX12_nameOut_L0_0; rw [if_pos (by decide)]
  | succ j ih =>
    intro F G k u v hj hF hG hD hk hJu hJv
    obtain ⟨F', rfl⟩ : ∃ F', F = F' + 1 := ⟨F - 1, by omega⟩
    obtain ⟨G', rfl⟩ : ∃ G', G = G' + 1 := ⟨G - 1, by omega⟩
    obtain ⟨d, t, hdt⟩ : ∃ d t, l.drop j = d :: t := by
      cases h : l.drop j with
      | nil => have := List.drop_eq_nil_iff.1 h; omega
      | cons d t => exact ⟨d, t, rfl⟩
    have hd := hl d (List.mem_of_mem_drop (by rw [hdt]; simp) : d ∈ l)
    have hc := ch_rng hd.1 hd.2
    have hcb := c_byte l hl h8 j (by omega)
    have hrb := r_byte l hl h8 j (by omega)
    rw [hdt] at hcb hrb
    have hcb' : ((zJ ((pk 256 ch l : Nat) : Int) >>> ((zI (8 * (j : Int))).toInt64 &&& 63)).toInt32) &&& zI 255 = zI (ch d : Nat) := hcb
    have hmod : ((pk 64 id (d :: t) : Nat) : Int) % 64 = d := by
      show ((id d + 64 * pk 64 id t : Nat) : Int) % 64 = d
      simp only [id]; omega
    obtain ⟨u1, v1, r1, r2, r3, r4⟩ := put_w (zI (ch d : Nat)) hD (by omega) NoP NoP
    have hdr : gR u 10 4 = 71 ∨ gR u 10 4 = 72 := hD.2.1
    obtain ⟨u', v', s1, s2, s3, s4⟩ := ih F' G' (k + 1) u1 v1 (by omega) (by omega) (by omega) r3 (by omega) (by rw [Fr_J r4.1 (by simp [Pw, NoP]; omega)]; exact hJu) (by rw [Fr_J r4.2.2.2 rfl]; exact hJv)
    refine ⟨u', v', ?_, ?_, by rw [show k + (j + 1) = k + 1 + j by omega]; exact s3, Wr_tr r4 s4⟩
    · rw [← s1]
      have st : fX1_putSymbol_L0 (F' + 1) 0 (zI s) (zI (8 * ((j + 1 : Nat) : Int) - 8)) u = fX1_putSymbol_L0_0 (fX1_putSymbol_L0 F') (zI s) (zI (8 * ((j + 1 : Nat) : Int) - 8)) u := rfl
      rw [st]
      generalize fX1_putSymbol_L0 F' = R
      unfold fX1_putSymbol_L0_0
      rw [show 8 * ((j + 1 : Nat) : Int) - 8 = 8 * (j : Int) by omega, if_neg (by rw [z_zero, z_lt (by omega) (by omega) (by decide) (by decide)]; omega), ldJ_z _ _ _ _ (by omega) (by omega), bd_s, Int.toNat_natCast, hJu, lt_e, show (255 : Int32) = zI 255 from rfl, hcb', if_neg (by rw [z_zero, z_eq (by omega) (by omega) (by decide) (by decide)]; omega), r1, bd_s, lt_e, show (-8 : Int32) = zI (-8) from rfl, z_add, show 8 * (j : Int) + -8 = 8 * (j : Int) - 8 by omega]
    · rw [← s2]
      have st : fX12_nameOut_L0 (G' + 1) 0 (zI s) (zI (((j + 1 : Nat) : Int) - 1)) v = fX12_nameOut_L0_0 (fX12_nameOut_L0 G') (zI s) (zI (((j + 1 : Nat) : Int) - 1)) v := rfl
      rw [st]
      generalize fX12_nameOut_L0 G' = R
      unfold fX12_nameOut_L0_0
      rw [show ((j + 1 : Nat) : Int) - 1 = (j : Int) by omega, if_neg (by rw [z_zero, z_lt (by omega) (by omega) (by decide) (by decide)]; omega), ldJ_z _ _ _ _ (by omega) (by omega), bd_s, Int.toNat_natCast, hJv, show (6 : Int32) = zI 6 from rfl, z_mul, hrb, show (63 : Int64) = zJ 63 from rfl, zJ_and63, zJ_32, hmod, signOf_spec d hd.1 hd.2, b2_s, r2, bd_s, lt_e, show (-1 : Int32) = zI (-1) from rfl, z_add, show (j : Int) + -1 = (j : Int) - 1 by omega]
/-- a name, or a function's, is written -/
theorem sym_both {u v : St} {k : Nat} (s : Nat) (hs : s < 800) (hN : NmR (J u 15 s) (J v 102 s)) (hD : DS u v k) (hk : k < 99800) : ∃ u' v' m, fX1_putSymbol (zI s) u = some u' ∧ fX12_nameOut (zI s) v = some v' ∧ 1 ≤ m ∧ m ≤ 12 ∧ DS u' v' (k + m) ∧ Wr u u' v v' (fun k _ => k == 75) NoP := by
  obtain ⟨l, l1, l2, l3, l4, l5⟩ := hN
  have hlen : 1 ≤ l.length := by cases l with | nil => exact absurd rfl l1 | cons d t => simp
  obtain ⟨u', v', s1, s2, s3, s4⟩ := name_loop s l hs l3 l2 l.length (FU - (8 - l.length)) FU k u v (Nat.le_refl _) (by unfold FU; omega) (by unfold FU; omega) hD (by omega) l4 l5
  have hsk := cname_skip u s l hs l4 l3 l2 (8 - l.length) (FU - (8 - l.length)) (by omega)
  have hrl := rname_len v s l hs l5 l3 l2 l.length FU 0 (by omega) (by unfold FU; omega)
  refine ⟨u', v', l.length, ?_, ?_, hlen, by omega, s3, Wr_mono (fun k i hk => by simp [NoP] at hk) (fun k i hk => hk) s4⟩
  · unfold fX1_putSymbol
    rw [if_pos (by rw [z_lit, z_le (by omega) (by omega) (by decide) (by decide)]; omega), lt_e]
    have e1 : FU - (8 - l.length) + (8 - l.length) = FU := by unfold FU; omega
    have e2 : l.length + (8 - l.length) = 8 := by omega
    rw [e1, e2] at hsk
    exact hsk.trans s1
  · unfold fX12_nameOut
    rw [if_pos (by rw [z_lit, z_lt (by omega) (by omega) (by decide) (by decide)]; omega), lt_e]
    exact hrl.trans s2
theorem fun_both {u v : St} {k : Nat} (f : Nat) (hf1 : 1 ≤ f) (hf : f < 200000000) (hD : DS u v k) (hk : k < 99800) : ∃ u' v' m, fX1_putSymbol (zI ((4096 + f : Nat) : Int)) u = some u' ∧ fX12_nameOut (zI ((999 + f : Nat) : Int)) v = some v' ∧ 1 ≤ m ∧ m ≤ 12 ∧ DS u' v' (k + m) ∧ Wr u u' v v' (fun k _ => k == 75) NoP := by
  obtain ⟨u1, v1, r1, r2, r3, r4⟩ := put_w 115 hD (by omega) (fun k _ => k == 75) NoP
  obtain ⟨u', v', m, s1, s2, s3, s4, s5, s6⟩ := num_both f (by omega) r3 (by omega)
  refine ⟨u', v', 1 + m, ?_, ?_, by omega, by omega, by rw [← Nat.add_assoc]; exact s5, Wr_tr r4 s6⟩
  · unfold fX1_putSymbol
    rw [if_neg (by rw [z_lit, z_le (by omega) (by omega) (by decide) (by decide)]; omega), r1, bd_s, show (4096 : Int32) = zI 4096 from rfl, z_sub, show ((4096 + f : Nat) : Int) - 4096 = f by omega, s1, bd_s]
  · unfold fX12_nameOut
    rw [if_neg (by rw [z_lit, z_lt (by omega) (by omega) (by decide) (by decide)]; omega), r2, bd_s, show (1000 : Int32) = zI 1000 from rfl, show (1 : Int32) = zI 1 from rfl, z_sub, z_add, show ((999 + f : Nat) : Int) - 1000 + 1 = f by omega, s2, bd_s]
