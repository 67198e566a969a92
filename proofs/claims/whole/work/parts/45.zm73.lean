/-! reading: words -/
def byt (u : St) (i : Nat) : Nat := (I u 14 i % 256).toNat
theorem byt_lt (u : St) (i : Nat) : byt u i < 256 := by unfold byt; omega
theorem byt_z (u : St) (i : Nat) : zI (I u 14 i) &&& zI 255 = zI (byt u i : Nat) := by
  rw [z_and255]; unfold byt; rw [Int.toNat_of_nonneg (by omega)]
theorem chr_z (c : Nat) (hc : c < 256) : (((zI c).toUInt32 % 65536).toInt32) = zI c := (show ∀ c : Fin 256, (((zI (c.1 : Nat)).toUInt32 % 65536).toInt32) = zI (c.1 : Nat) by decide +kernel) ⟨c, hc⟩
theorem i64_z (x : Int) (h1 : -2147483648 ≤ x) (h2 : x < 2147483648) : (zI x).toInt64 = zJ x := by
  apply Int64.toInt_inj.1
  rw [Int32.toInt_toInt64, z_to h1 h2, zJ_to (by omega) (by omega)]
theorem shl8 (a c : Nat) (ha : a < 72057594037927936) (hc : c < 256) : (zJ a <<< ((8 : Int32).toInt64 &&& 63)) ||| zJ c = zJ ((256 * a + c : Nat) : Int) := by
  apply Int64.toBitVec.inj
  apply BitVec.eq_of_toNat_eq
  rw [Int64.toBitVec_or, BitVec.toNat_or]
  have hs : (zJ a <<< ((8 : Int32).toInt64 &&& 63)).toBitVec = (zJ a).toBitVec <<< 8 := by
    show (zJ a).toBitVec <<< ((((8 : Int32).toInt64 &&& 63).toBitVec.smod 64)) = _
    rfl
  rw [hs, BitVec.toNat_shiftLeft, zJ_bv, zJ_bv, zJ_bv, BitVec.toNat_ofInt, BitVec.toNat_ofInt, BitVec.toNat_ofInt]
  have e1 : ((a : Int) % ((2 ^ 64 : Nat) : Int)).toNat = a := by simp only [Nat.reducePow]; omega
  have e2 : ((c : Int) % ((2 ^ 64 : Nat) : Int)).toNat = c := by simp only [Nat.reducePow]; omega
  have e3 : (((256 * a + c : Nat) : Int) % ((2 ^ 64 : Nat) : Int)).toNat = 256 * a + c := by simp only [Nat.reducePow]; omega
  rw [e1, e2, e3]
  have e4 : a <<< 8 % 2 ^ 64 = a <<< 8 := by rw [Nat.shiftLeft_eq]; apply Nat.mod_eq_of_lt; simp only [Nat.reducePow]; omega
  rw [e4, ← Nat.shiftLeft_add_eq_or_of_lt (by simpa using hc), Nat.shiftLeft_eq]
  omega
theorem sign_spec (v : St) (n i : Nat) (hn : n ≤ 1500) (h2 : I v 100 2 = n) (hi : i < 2000) : fX12_sign (zI i) v = some (zI (if n ≤ i then -1 else I v 101 i % 256), v) := by
  unfold fX12_sign
  rw [gI_z v 100 2, h2]
  by_cases h : n ≤ i
  · rw [if_pos (by rw [z_le (by omega) (by omega) (by omega) (by omega)]; omega), if_pos h]; rfl
  · rw [if_neg (by rw [z_le (by omega) (by omega) (by omega) (by omega)]; omega), if_neg h, ld_z _ _ _ _ (by omega) (by omega), bd_s, Int.toNat_natCast, show (255 : Int32) = zI 255 from rfl, z_and255]
/-- the texts are the same -/
def TXs (u v : St) (n : Nat) : Prop := n ≤ 1500 ∧ I u 1 1 = n ∧ I v 100 2 = n ∧ ∀ i, I u 14 i = I v 101 i ∧ -128 ≤ I u 14 i ∧ I u 14 i ≤ 127
theorem TXs_sign {u v : St} {n : Nat} (h : TXs u v n) (i : Nat) (hi : i < 2000) : fX12_sign (zI i) v = some (zI (if n ≤ i then -1 else (byt u i : Int)), v) := by
  rw [sign_spec v n i h.1 h.2.2.1 hi, ← (h.2.2.2 i).1]
  unfold byt
  rw [Int.toNat_of_nonneg (by omega)]
theorem TXs_fr {P Q : Nat → Nat → Bool} {u u' v v' : St} {n : Nat} (hu : Fr P u u') (hv : Fr Q v v') (h1 : P 1 1 = false) (h2 : ∀ i, P 14 i = false) (h3 : Q 100 2 = false) (h4 : ∀ i, Q 101 i = false) (h : TXs u v n) : TXs u' v' n := ⟨h.1, by rw [Fr_I hu h1]; exact h.2.1, by rw [Fr_I hv h3]; exact h.2.2.1, fun i => by rw [Fr_I hu (h2 i), Fr_I hv (h4 i)]; exact h.2.2.2 i⟩
theorem byt_fr {P : Nat → Nat → Bool} {u u' : St} (hu : Fr P u u') (h2 : ∀ i, P 14 i = false) (i : Nat) : byt u' i = byt u i := by unfold byt; rw [Fr_I hu (h2 i)]
/-- a word so far -/
def WD (w : Int64) (v : St) (m : Nat) : Prop := m ≤ 8 → ∃ l : List Nat, l.length = m ∧ (∀ d ∈ l, 1 ≤ d ∧ d ≤ 63) ∧ w = zJ (pk 256 ch l : Nat) ∧ J v 100 27 = (pk 64 id l : Nat)
theorem Fr_uJ {P : Nat → Nat → Bool} {u u' : St} {k i : Nat} {x : Int64} (hk : P k i = true) (h : Fr P u u') : Fr P u (uJ u' k i x) := by
  intro k' i' hk'
  refine ⟨(h k' i' hk').1, ?_, (h k' i' hk').2.2⟩
  rw [← (h k' i' hk').2.1]
  have hne : ¬ (k' = k ∧ i' = i) := fun hh => by rw [hh.1, hh.2, hk] at hk'; cases hk'
  unfold gJ uJ va_up
  by_cases h1 : k' = k
  · subst h1
    have h2 : i' ≠ i := fun h => hne ⟨rfl, h⟩
    simp [h2]
  · simp [h1]
theorem word_loop (n s : Nat) (x1 xr : Int32) (d : Nat) : ∀ (F G i : Nat) (u v : St) (w : Int64), i + d = n → s ≤ i → d < F → 2 * d < G → TXs u v n → I u 1 5 = i → I v 100 23 = i → WD w v (i - s) →
    ∃ u' v' b w', fX6_scanWord_L0 F 0 x1 w u = fX6_scanWord_j68 x1 w' u' ∧ fX12_look_L0 G 0 xr (zI ((i - s : Nat) : Int)) 0 v = (b2 (fX12_in xr 97 122 v') fun r10 u9 => if r10 = 0 then (fX12_look_j233 (zI ((b - s : Nat) : Int)) 2 u9) else fX12_look_j233 (zI ((b - s : Nat) : Int)) 1 u9) ∧ I u' 1 5 = (b : Nat) ∧ I v' 100 23 = (b : Nat) ∧ i ≤ b ∧ b ≤ n ∧ (b < n → ¬ isW (byt u b)) ∧ (i < n → isW (byt u i) → i < b) ∧ WD w' v' (b - s) ∧ Fr (P1 1 5) u u' ∧ Fr (fun k j => k == 100 && (j == 23 || j == 27)) v v' := by
  induction d with
  | zero =>
    intro F G i u v w hi hs hF hG hT h5 h23 hW
    obtain ⟨F', rfl⟩ : ∃ F', F = F' + 1 := ⟨F - 1, by omega⟩
    obtain ⟨G', rfl⟩ : ∃ G', G = G' + 1 := ⟨G - 1, by omega⟩
    have hin : i = n := by omega
    subst hin
    have hn := hT.1
    refine ⟨u, v, i, w, ?_, ?_, h5, h23, Nat.le_refl _, Nat.le_refl _, fun h => absurd h (by omega), fun h => absurd h (by omega), hW, Fr_rfl _ _, Fr_rfl _ _⟩
    · have st : fX6_scanWord_L0 (F' + 1) 0 x1 w u = fX6_scanWord_L0_0 (fX6_scanWord_L0 F') x1 w u := rfl
      rw [st]; unfold fX6_scanWord_L0_0
      rw [gI_z u 1 1, hT.2.1, gI_z u 1 5, h5, if_pos (by rw [z_le (by omega) (by omega) (by omega) (by omega)]; omega)]
    · have st : fX12_look_L0 (G' + 1) 0 xr (zI ((i - s : Nat) : Int)) 0 v = fX12_look_L0_0 (fX12_look_L0 G') xr (zI ((i - s : Nat) : Int)) v := rfl
      rw [st]; unfold fX12_look_L0_0
      rw [gI_z v 100 23, h23, TXs_sign hT i (by omega), if_pos (Nat.le_refl _), b2_s, letter_spec (-1) (by decide) (by decide), if_pos (by decide), b2_s, if_pos (by decide)]
  | succ d ih =>
    intro F G i u v w hi hs hF hG hT h5 h23 hW
    obtain ⟨F', rfl⟩ : ∃ F', F = F' + 1 := ⟨F - 1, by omega⟩
    obtain ⟨G', rfl⟩ : ∃ G', G = G' + 2 := ⟨G - 2, by omega⟩
    have hn := hT.1
    have hb := byt_lt u i
    have hsg := TXs_sign hT i (by omega)
    rw [if_neg (by omega)] at hsg
    have hlt := letter_spec (byt u i : Nat) (by omega) (by omega) v
    rw [if_neg (by omega), Int.toNat_natCast] at hlt
    have hcl : ∀ R, fX6_scanWord_L0_0 R x1 w u = if zI (Ix 3 (byt u i)) < 0 then fX6_scanWord_j68 x1 w u else R 0 x1 ((w <<< ((8 : Int32).toInt64 &&& 63)) ||| zJ (byt u i : Nat)) (uI u 1 5 (zI ((i + 1 : Nat) : Int))) := by
      intro R
      unfold fX6_scanWord_L0_0
      rw [gI_z u 1 1, hT.2.1, gI_z u 1 5, h5, if_neg (by rw [z_le (by omega) (by omega) (by omega) (by omega)]; omega), ld_z _ _ _ _ (by omega) (by omega), bd_s, Int.toNat_natCast, show (255 : Int32) = zI 255 from rfl, byt_z, chr_z _ hb, ix_spec 3 _ (by decide) hb, b2_s, gI_z u 1 5, h5, ld_z _ _ _ _ (by omega) (by omega), bd_s, Int.toNat_natCast, byt_z, i64_z _ (by omega) (by omega), lt_e, show (1 : Int32) = zI 1 from rfl, z_add, lt_e, show (i : Int) + 1 = ((i + 1 : Nat) : Int) by omega]
    have st : fX6_scanWord_L0 (F' + 1) 0 x1 w u = fX6_scanWord_L0_0 (fX6_scanWord_L0 F') x1 w u := rfl
    have hr := Ixr 3 _ (by decide) hb
    have h3 := Ix3 _ hb
    by_cases hw : isW (byt u i)
    · have hge : ¬ Ix 3 (byt u i) < 0 := fun h => (h3.1 h) hw
      obtain ⟨l1, l2, l3⟩ := lr_ch _ hb hw
      rw [st, hcl, if_neg (by rw [z_zero, z_lt (by omega) (by omega) (by decide) (by decide)]; exact hge)]
      -- the reference
      obtain ⟨y, hy⟩ : ∃ y : Int64, (if 9 ≤ (i - s) then gJ v 100 27 else (64 * (gJ v 100 27)) + (zI (lr (byt u i) : Nat)).toInt64) = y := ⟨_, rfl⟩
      have hrf : fX12_look_L0 (G' + 2) 0 xr (zI ((i - s : Nat) : Int)) 0 v = fX12_look_L0 G' 0 xr (zI ((i + 1 - s : Nat) : Int)) 0 (uI (uJ v 100 27 y) 100 23 (zI ((i + 1 : Nat) : Int))) := by
        have st1 : fX12_look_L0 (G' + 2) 0 xr (zI ((i - s : Nat) : Int)) 0 v = fX12_look_L0_0 (fX12_look_L0 (G' + 1)) xr (zI ((i - s : Nat) : Int)) v := rfl
        have st2 : ∀ z w, fX12_look_L0 (G' + 1) 1 xr (zI ((i - s : Nat) : Int)) z w = fX12_look_L0_1 (fX12_look_L0 G') xr (zI ((i - s : Nat) : Int)) z w := fun _ _ => rfl
        rw [st1]
        unfold fX12_look_L0_0
        rw [gI_z v 100 23, h23, hsg, b2_s, hlt, b2_s, if_neg (by rw [z_zero, z_le (by omega) (by omega) (by decide) (by decide)]; omega)]
        have hfin : ∀ z, z = y → fX12_look_L0_1 (fX12_look_L0 G') xr (zI ((i - s : Nat) : Int)) z v = fX12_look_L0 G' 0 xr (zI ((i + 1 - s : Nat) : Int)) 0 (uI (uJ v 100 27 y) 100 23 (zI ((i + 1 : Nat) : Int))) := by
          intro z hz
          subst hz
          generalize fX12_look_L0 G' = R
          unfold fX12_look_L0_1
          rw [lt_e, gI_z _ 100 23, I_uJ, h23, show (1 : Int32) = zI 1 from rfl, z_add, lt_e, z_add, lt_e, show (i : Int) + 1 = ((i + 1 : Nat) : Int) by omega, show ((i - s : Nat) : Int) + 1 = ((i + 1 - s : Nat) : Int) by omega]
        by_cases h9 : 9 ≤ i - s
        · rw [if_pos h9] at hy
          rw [if_pos (by rw [z_lit, z_le (by decide) (by decide) (by omega) (by omega)]; omega), st2]
          exact hfin _ hy
        · rw [if_neg h9] at hy
          rw [if_neg (by rw [z_lit, z_le (by decide) (by decide) (by omega) (by omega)]; omega), gI_z v 100 23, h23, hsg, b2_s, hlt, b2_s, st2]
          exact hfin _ hy
      have hWD : WD ((w <<< ((8 : Int32).toInt64 &&& 63)) ||| zJ (byt u i : Nat)) (uI (uJ v 100 27 y) 100 23 (zI ((i + 1 : Nat) : Int))) (i + 1 - s) := by
        intro h8
        obtain ⟨l, q1, q2, q3, q4⟩ := hW (by omega)
        have p1 := pq_lt 256 ch 122 l (fun d hd => (ch_rng (q2 d hd).1 (q2 d hd).2).2) (by decide)
        have p2 := pq_lt 64 id 63 l (fun d hd => (q2 d hd).2) (by decide)
        have p1' : pk 256 ch l < 72057594037927936 := Nat.lt_of_lt_of_le p1 (Nat.le_trans (Nat.pow_le_pow_right (by decide) (show l.length ≤ 7 by omega)) (by decide))
        have p2' : pk 64 id l < 4398046511104 := Nat.lt_of_lt_of_le p2 (Nat.le_trans (Nat.pow_le_pow_right (by decide) (show l.length ≤ 7 by omega)) (by decide))
        refine ⟨lr (byt u i) :: l, by simp; omega, fun d hd => ?_, ?_, ?_⟩
        · rcases List.mem_cons.1 hd with h | h
          · subst h; exact ⟨l1, l2⟩
          · exact q2 d h
        · rw [q3, shl8 _ _ p1' hb]
          simp only [pk, l3]
          rw [Nat.add_comm]
        · rw [if_neg (by omega)] at hy
          have hy2 : y = zJ ((lr (byt u i) + 64 * pk 64 id l : Nat) : Int) := by
            rw [← hy, gJ_z, q4, i64_z _ (by omega) (by omega), show (64 : Int64) = zJ 64 from rfl, zJ, zJ, zJ, ← Int64.ofInt_mul, ← Int64.ofInt_add]
            unfold zJ
            congr 1
            omega
          rw [J_uI, hy2, J_uJ _ _ _ _ (by omega) (by omega), if_pos ⟨rfl, rfl⟩]
          simp [pk]
      have Fa : Fr (P1 1 5) u (uI u 1 5 (zI ((i + 1 : Nat) : Int))) := Fr_up (by simp [P1]) (Fr_rfl _ _)
      have Fb : Fr (fun k j => k == 100 && (j == 23 || j == 27)) v (uI (uJ v 100 27 y) 100 23 (zI ((i + 1 : Nat) : Int))) := Fr_up rfl (Fr_uJ rfl (Fr_rfl _ _))
      obtain ⟨u', v', b, w', r1, r2, r3, r4, r5, r6, r7, r8, r9, r10, r11⟩ := ih F' G' (i + 1) _ _ _ (by omega) (by omega) (by omega) (by omega) (TXs_fr Fa Fb (by simp [P1]) (fun j => by simp [P1]) rfl (fun _ => rfl) hT) (I_uI1 _ _ _ _ (by omega) (by omega)) (I_uI1 _ _ _ _ (by omega) (by omega)) hWD
      refine ⟨u', v', b, w', r1, hrf.trans r2, r3, r4, by omega, r6, fun h => by have := r7 h; rw [byt_fr Fa (fun j => by simp [P1])] at this; exact this, fun _ _ => by omega, r9, Fr_tr Fa r10, Fr_tr Fb r11⟩
    · have hlt0 : Ix 3 (byt u i) < 0 := h3.2 hw
      refine ⟨u, v, i, w, ?_, ?_, h5, h23, Nat.le_refl _, by omega, fun _ => hw, fun _ h => absurd h hw, hW, Fr_rfl _ _, Fr_rfl _ _⟩
      · rw [st, hcl, if_pos (by rw [z_zero, z_lt (by omega) (by omega) (by decide) (by decide)]; exact hlt0)]
      · have st1 : fX12_look_L0 (G' + 2) 0 xr (zI ((i - s : Nat) : Int)) 0 v = fX12_look_L0_0 (fX12_look_L0 (G' + 1)) xr (zI ((i - s : Nat) : Int)) v := rfl
        rw [st1]
        unfold fX12_look_L0_0
        rw [gI_z v 100 23, h23, hsg, b2_s, hlt, b2_s, lr_no _ hw, if_pos (by decide)]
