/-! reading: the look at a token, both sides -/
theorem rfail_0 (v : St) (a p : Int) (h : I v 100 21 = 0) : fX12_fail (zI a) (zI p) v = some (uI (uI v 100 21 (zI a)) 100 22 (zI p)) := by
  unfold fX12_fail
  rw [gI_z v 100 21, h, if_pos (show zI 0 = 0 from rfl), lt_e, lt_e]
theorem look_both {u v : St} {n b : Nat} (hT : TXs u v n) (hN : TNs u v n b) (hf : I v 100 21 = 0) : ∃ u' v', Fr PT u u' ∧ Fr QT v v' ∧ ((∃ s b' k : Nat, fX6_look u = some (zI ((k + 1 : Nat) : Int), u') ∧ fX12_look v = some (zI k, v') ∧ TLs u' v' n s b' k ∧ b ≤ s ∧ I v' 100 21 = 0 ∧ I v' 100 22 = I v 100 22) ∨ (∃ s : Nat, fX6_look u = some (zI 0, u') ∧ fX12_look v = some (zI (-1), v') ∧ I v' 100 21 = 1 ∧ I v' 100 22 = s ∧ I u' 1 2 = s)) := by
  obtain ⟨t1, t2, t3, t4, t5⟩ := hN
  have hn := hT.1
  -- both begin
  have F0 : Fr PT u (uI (uI u 1 6 (zI 1)) 1 2 (zI b)) := Fr_up rfl (Fr_up rfl (Fr_rfl _ _))
  have hc0 : fX6_look u = fX6_look_L0 FU 0 (uI (uI u 1 6 (zI 1)) 1 2 (zI b)) := by
    unfold fX6_look
    rw [gI_z u 1 6, t1, if_pos (show zI 0 = 0 from rfl), lt_e, gI_z _ 1 5, show (1 : Int32) = zI 1 from rfl, I_uI2 _ _ _ _ _ _ (by decide), t3, lt_e]
  have hr0 : fX12_look v = fX12_look_L1 FU 0 v := by
    unfold fX12_look
    rw [gI_z v 100 21, hf, if_pos (by decide), gI_z v 100 24, t2, if_pos (show zI 0 = 0 from rfl)]
  have hT0 : TXs (uI (uI u 1 6 (zI 1)) 1 2 (zI b)) v n := TXs_fr F0 (Fr_rfl (fun _ _ => false) v) rfl (fun _ => rfl) rfl (fun _ => rfl) hT
  obtain ⟨u1, v1, s, G, r1, r2, r3, r4, r5, r6, r7, r8, r9⟩ := blank_loop n (n - b) FU FU b _ v (by omega) (by unfold FU; omega) (by unfold FU; omega) hT0 (I_uI1 _ _ _ _ (by omega) (by omega)) t4
  have F01 : Fr PT u u1 := Fr_tr F0 (Fr_up2 (fun k i hk => by simp [P1] at hk; simp [PT, hk.1, hk.2]) r8)
  have G01 : Fr QT v v1 := Fr_up2 (fun k i hk => by simp [P1] at hk; simp [QT, hk.1, hk.2]) r9
  have hT1 : TXs u1 v1 n := TXs_fr F01 G01 rfl (fun _ => rfl) rfl (fun _ => rfl) hT
  have hf1 : I v1 100 21 = 0 := by rw [Fr_I r9 (by simp [P1])]; exact hf
  have hp1 : I v1 100 22 = I v 100 22 := Fr_I r9 (by simp [P1])
  have h61 : I u1 1 6 = 1 := by rw [Fr_I r8 (by simp [P1]), I_uI2 _ _ _ _ _ _ (by decide)]; exact I_uI1 _ _ _ _ (by decide) (by decide)
  have hbl : s < n → ¬ (byt u1 s = 9 ∨ byt u1 s = 10 ∨ byt u1 s = 13 ∨ byt u1 s = 32) := fun h => by
    have := r7 h
    rw [byt_fr F01 (fun _ => rfl)]; rw [byt_fr F0 (fun _ => rfl)] at this; exact this
  rw [hc0, hr0, r1, r2]
  clear hc0 hr0 r1 r2 hT0
  -- the class behind the blanks
  have F12 : Fr PT u (uI u1 1 5 (zI s)) := Fr_up rfl F01
  have d2 : I (uI u1 1 5 (zI s)) 1 2 = s := by rw [I_uI2 _ _ _ _ _ _ (by decide)]; exact r3
  have d5 : I (uI u1 1 5 (zI s)) 1 5 = s := I_uI1 _ _ _ _ (by omega) (by omega)
  have d6 : I (uI u1 1 5 (zI s)) 1 6 = 1 := by rw [I_uI2 _ _ _ _ _ _ (by decide)]; exact h61
  have d1 : I (uI u1 1 5 (zI s)) 1 1 = n := by rw [I_uI2 _ _ _ _ _ _ (by decide)]; exact hT1.2.1
  have hcj : fX6_look_j71 u1 = (if zI s < zI n then (bd (ld (uI u1 1 5 (zI s)) 14 1500 (zI s)) fun v3 => lt (((v3 &&& 255).toUInt32 % 65536).toInt32 : Int32) fun x4 => b2 (fJ0_indexOf_0f7a4 1 x4 (uI u1 1 5 (zI s))) fun r6 u5 => if r6 < 0 then (b2 (fJ0_indexOf_0f7a4 2 x4 u5) fun r9 u8 => if r9 < 0 then (b2 (fX6_scanMark x4 u8) fun r12 u11 => lt (uI u11 1 4 r12) fun u13 => some (gI u13 1 4, u13)) else b2 (fX6_scanWord 3 u8) fun r15 u14 => lt (uI u14 1 4 r15) fun u16 => some (gI u16 1 4, u16)) else b2 (fX6_scanWord 2 u5) fun r18 u17 => lt (uI u17 1 4 r18) fun u19 => some (gI u19 1 4, u19)) else lt (uI (uI u1 1 5 (zI s)) 1 4 1) fun u20 => some (gI u20 1 4, u20)) := by
    unfold fX6_look_j71
    rw [gI_z u1 1 2, r3, lt_e, gI_z _ 1 2, d2, gI_z _ 1 1, d1]
  rw [hcj]
  clear hcj
  -- the reference behind the blanks
  have G12 : Fr QT v (uI (uI v1 100 26 (zI s)) 100 24 (zI 1)) := Fr_up rfl (Fr_up rfl G01)
  have e23 : I (uI (uI v1 100 26 (zI s)) 100 24 (zI 1)) 100 23 = s := by rw [I_uI2 _ _ _ _ _ _ (by decide), I_uI2 _ _ _ _ _ _ (by decide)]; exact r4
  have e21 : I (uI (uI v1 100 26 (zI s)) 100 24 (zI 1)) 100 21 = 0 := by rw [I_uI2 _ _ _ _ _ _ (by decide), I_uI2 _ _ _ _ _ _ (by decide)]; exact hf1
  have e22 : I (uI (uI v1 100 26 (zI s)) 100 24 (zI 1)) 100 22 = I v 100 22 := by rw [I_uI2 _ _ _ _ _ _ (by decide), I_uI2 _ _ _ _ _ _ (by decide)]; exact hp1
  have e24 : I (uI (uI v1 100 26 (zI s)) 100 24 (zI 1)) 100 24 = 1 := I_uI1 _ _ _ _ (by decide) (by decide)
  have e26 : I (uI (uI v1 100 26 (zI s)) 100 24 (zI 1)) 100 26 = s := by rw [I_uI2 _ _ _ _ _ _ (by decide)]; exact I_uI1 _ _ _ _ (by omega) (by omega)
  have hsg := TXs_sign hT1 s (by omega)
  have hbs := byt_lt u1 s
  have hT2 : TXs (uI u1 1 5 (zI s)) (uI (uI v1 100 26 (zI s)) 100 24 (zI 1)) n := TXs_fr F12 G12 rfl (fun _ => rfl) rfl (fun _ => rfl) hT
  have hb2 : byt (uI u1 1 5 (zI s)) s = byt u1 s := byt_fr (P := P1 1 5) (Fr_up (by simp [P1]) (Fr_rfl _ _)) (fun j => by simp [P1]) s
  obtain ⟨c52, hc52⟩ : ∃ c52 : Int, (if n ≤ s then -1 else (byt u1 s : Int)) = c52 := ⟨_, rfl⟩
  rw [hc52] at hsg
  have hnb : c52 ≠ 9 ∧ c52 ≠ 10 ∧ c52 ≠ 13 ∧ c52 ≠ 32 ∧ -1 ≤ c52 ∧ c52 < 256 := by
    by_cases h : n ≤ s
    · rw [if_pos h] at hc52; omega
    · rw [if_neg h] at hc52; have := hbl (by omega); omega
  have hrj : fX12_look_L1 (G + 1) 0 v1 = (if 0 ≤ zI c52 then (b2 (fX12_in (zI c52) 97 122 (uI (uI v1 100 26 (zI s)) 100 24 (zI 1))) fun r57 u56 => if r57 = 0 then (b2 (fX12_in (zI c52) 65 90 u56) fun r62 u61 => if r62 = 0 then (lt (1 : Int32) fun x64 => if zI c52 = 40 then (fX12_look_j368 (zI c52) x64 3 u61) else if zI c52 = 41 then (fX12_look_j368 (zI c52) x64 4 u61) else if zI c52 = 44 then (fX12_look_j368 (zI c52) x64 5 u61) else if zI c52 = 46 then (fX12_look_j368 (zI c52) x64 6 u61) else if zI c52 = 58 then (fX12_look_j368 (zI c52) x64 7 u61) else if zI c52 = 126 then (fX12_look_j368 (zI c52) x64 8 u61) else if zI c52 = 38 then (fX12_look_j368 (zI c52) x64 9 u61) else if zI c52 = 124 then (fX12_look_j368 (zI c52) x64 10 u61) else if zI c52 = 33 then (fX12_look_j368 (zI c52) x64 11 u61) else if zI c52 = 63 then (fX12_look_j368 (zI c52) x64 12 u61) else fX12_look_j368 (zI c52) x64 0 u61) else lt (0 : Int32) fun x75 => lt (uJ u61 100 27 0) fun u76 => fX12_look_L0 FU 0 (zI c52) x75 0 u76) else lt (0 : Int32) fun x59 => lt (uJ u56 100 27 0) fun u60 => fX12_look_L0 FU 0 (zI c52) x59 0 u60) else lt (uI (uI (uI v1 100 26 (zI s)) 100 24 (zI 1)) 100 25 0) fun u77 => some ((0 : Int32), u77)) := by
    have st : fX12_look_L1 (G + 1) 0 v1 = fX12_look_L1_0 (fX12_look_L1 G) v1 := rfl
    have ne : ∀ m : Nat, m < 100 → c52 ≠ m → ¬ (zI c52 = zI (m : Nat)) := fun m hm hh => by rw [z_eq (by omega) (by omega) (by omega) (by omega)]; exact hh
    rw [st]
    generalize fX12_look_L1 G = R
    unfold fX12_look_L1_0
    rw [gI_z v1 100 23, r4, hsg, b2_s, if_neg (show ¬ (zI c52 = 9) from ne 9 (by decide) (by omega)), gI_z v1 100 23, r4, hsg, b2_s, if_neg (show ¬ (zI c52 = 10) from ne 10 (by decide) (by omega)), gI_z v1 100 23, r4, hsg, b2_s, if_neg (show ¬ (zI c52 = 13) from ne 13 (by decide) (by omega)), gI_z v1 100 23, r4, hsg, b2_s, if_neg (show ¬ (zI c52 = 32) from ne 32 (by decide) (by omega)), gI_z v1 100 23, r4, hsg, b2_s, gI_z v1 100 23, r4, lt_e, lt_e]
    rfl
  rw [hrj]
  clear hrj
  generalize hu2 : uI u1 1 5 (zI s) = u2 at *
  generalize hv2 : uI (uI v1 100 26 (zI s)) 100 24 (zI 1) = v2 at *
  by_cases hend : n ≤ s
  · -- the end
    rw [if_pos hend] at hc52
    subst hc52
    have hsn : s = n := by omega
    refine ⟨uI u2 1 4 (zI 1), uI v2 100 25 (zI 0), Fr_up rfl F12, Fr_up rfl G12, Or.inl ⟨s, s, 0, ?_, ?_, ⟨?_, ?_, ?_, ?_, ?_, ?_, ?_, ?_, by decide, Nat.le_refl _, r6, fun h => absurd rfl h, fun h => by omega⟩, r5, ?_, ?_⟩⟩
    · rw [if_neg (by rw [z_lt (by omega) (by omega) (by omega) (by omega)]; omega), lt_e, show (1 : Int32) = zI 1 from rfl, gI_z _ 1 4, I_uI1 _ _ _ _ (by decide) (by decide)]; rfl
    · rw [if_neg (by decide), lt_e]; rfl
    · rw [I_uI2 _ _ _ _ _ _ (by decide)]; exact d6
    · rw [I_uI2 _ _ _ _ _ _ (by decide)]; exact e24
    · rw [I_uI2 _ _ _ _ _ _ (by decide)]; exact d2
    · rw [I_uI2 _ _ _ _ _ _ (by decide)]; exact e26
    · rw [I_uI2 _ _ _ _ _ _ (by decide)]; exact d5
    · rw [I_uI2 _ _ _ _ _ _ (by decide)]; exact e23
    · exact I_uI1 _ _ _ _ (by decide) (by decide)
    · exact I_uI1 _ _ _ _ (by decide) (by decide)
    · rw [I_uI2 _ _ _ _ _ _ (by decide)]; exact e21
    · rw [I_uI2 _ _ _ _ _ _ (by decide)]; exact e22
  rw [if_neg hend] at hc52
  subst hc52
  have h0le : (0 : Int32) ≤ zI (byt u1 s : Nat) := by rw [z_zero, z_le (by decide) (by decide) (by omega) (by omega)]; omega
  rw [if_pos (show zI s < zI n by rw [z_lt (by omega) (by omega) (by omega) (by omega)]; omega), ld_z _ _ _ _ (by omega) (by omega), bd_s, Int.toNat_natCast, show (255 : Int32) = zI 255 from rfl, byt_z, hb2, chr_z _ hbs, lt_e, ix_spec 1 _ (by decide) hbs, b2_s, if_pos h0le, show (97 : Int32) = zI 97 from rfl, show (122 : Int32) = zI 122 from rfl, in_spec _ 97 122 v2 (by omega) (by omega) (by decide) (by decide) (by decide) (by decide), b2_s]
  have x1 := Ix1 _ hbs
  have x2 := Ix2 _ hbs
  have rr1 := Ixr 1 _ (by decide) hbs
  have rr2 := Ixr 2 _ (by decide) hbs
  -- words
  have words : ∀ (kc kr : Nat) (hkr : kr = 1 ∨ kr = 2) (hkc : kc = kr + 1) (hW : isW (byt u1 s)) (hk : (if (97 : Int) ≤ (byt u1 s : Int) ∧ (byt u1 s : Int) ≤ 122 then (1 : Int) else 0) = if kr = 1 then 1 else 0), ∃ u' v', Fr PT u u' ∧ Fr QT v v' ∧ ((∃ s2 b' k : Nat, (b2 (fX6_scanWord (zI kc) u2) fun r18 u17 => lt (uI u17 1 4 r18) fun u19 => some (gI u19 1 4, u19)) = some (zI ((k + 1 : Nat) : Int), u') ∧ fX12_look_L0 FU 0 (zI (byt u1 s : Nat)) 0 0 (uJ v2 100 27 0) = some (zI k, v') ∧ TLs u' v' n s2 b' k ∧ b ≤ s2 ∧ I v' 100 21 = 0 ∧ I v' 100 22 = I v 100 22) ∨ (∃ s2 : Nat, (b2 (fX6_scanWord (zI kc) u2) fun r18 u17 => lt (uI u17 1 4 r18) fun u19 => some (gI u19 1 4, u19)) = some (zI 0, u') ∧ fX12_look_L0 FU 0 (zI (byt u1 s : Nat)) 0 0 (uJ v2 100 27 0) = some (zI (-1), v') ∧ I v' 100 21 = 1 ∧ I v' 100 22 = s2 ∧ I u' 1 2 = s2)) := by
    intro kc kr hkr hkc hW hk
    have Gj : Fr QT v (uJ v2 100 27 0) := Fr_uJ rfl G12
    have hTj : TXs u2 (uJ v2 100 27 0) n := TXs_fr F12 Gj rfl (fun _ => rfl) rfl (fun _ => rfl) hT
    have hWD0 : WD 0 (uJ v2 100 27 0) (s - s) := fun _ => ⟨[], by simp, by simp, rfl, by
      have : (0 : Int64) = zJ 0 := rfl
      rw [this, J_uJ _ _ _ _ (by decide) (by decide), if_pos ⟨rfl, rfl⟩]; rfl⟩
    obtain ⟨u3, v3, b', w', y1, y2, y3, y4, y5, y6, y7, y8, y9, y10, y11⟩ := word_loop n s (zI kc) (zI (byt u1 s : Nat)) (n - s) FU FU s u2 (uJ v2 100 27 0) 0 (by omega) (Nat.le_refl _) (by unfold FU; omega) (by unfold FU; omega) hTj d5 e23 hWD0
    have hlt := y8 (by omega) (by rw [hb2]; exact hW)
    have F3 : Fr PT u u3 := Fr_tr F12 (Fr_up2 (fun k i hk => by simp [P1] at hk; simp [PT, hk.1, hk.2]) y10)
    have G3 : Fr QT v v3 := Fr_tr Gj (Fr_up2 (fun k i hk => by simp at hk; simp [QT]; omega) y11)
    have z2 : I u3 1 2 = s := by rw [Fr_I y10 (by simp [P1])]; exact d2
    have z6 : I u3 1 6 = 1 := by rw [Fr_I y10 (by simp [P1])]; exact d6
    have w21 : I v3 100 21 = 0 := by rw [Fr_I y11 (by simp)]; exact e21
    have w22 : I v3 100 22 = I v 100 22 := by rw [Fr_I y11 (by simp)]; exact e22
    have w24 : I v3 100 24 = 1 := by rw [Fr_I y11 (by simp)]; exact e24
    have w26 : I v3 100 26 = s := by rw [Fr_I y11 (by simp)]; exact e26
    have y2' : fX12_look_L0 FU 0 (zI (byt u1 s : Nat)) 0 0 (uJ v2 100 27 0) = fX12_look_j233 (zI ((b' - s : Nat) : Int)) (zI kr) v3 := by
      have e0 : zI ((s - s : Nat) : Int) = 0 := by rw [Nat.sub_self]; rfl
      rw [e0] at y2
      rw [y2, show (97 : Int32) = zI 97 from rfl, show (122 : Int32) = zI 122 from rfl, in_spec _ 97 122 v3 (by omega) (by omega) (by decide) (by decide) (by decide) (by decide), b2_s, hk]
      rcases hkr with h | h <;> subst h <;> rfl
    have hcw : (b2 (fX6_scanWord (zI kc) u2) fun r18 u17 => lt (uI u17 1 4 r18) fun u19 => some (gI u19 1 4, u19)) = (b2 (fX6_scanWord_j68 (zI kc) w' u3) fun r18 u17 => lt (uI u17 1 4 r18) fun u19 => some (gI u19 1 4, u19)) := by
      unfold fX6_scanWord
      rw [lt_e, y1]
    rw [hcw, y2']
    have hj : fX6_scanWord_j68 (zI kc) w' u3 = if b' - s ≤ 8 then some (zI kc, uJ u3 1 3 w') else some (zI 0, uJ u3 1 3 w') := by
      unfold fX6_scanWord_j68
      rw [lt_e, gI_z _ 1 5, gI_z _ 1 2, I_uJ, I_uJ, y3, z2, z_sub]
      by_cases h8 : b' - s ≤ 8
      · rw [if_pos (by rw [z_lit, z_le (by omega) (by omega) (by decide) (by decide)]; omega), if_pos h8]
      · rw [if_neg (by rw [z_lit, z_le (by omega) (by omega) (by decide) (by decide)]; omega), if_neg h8]; rfl
    have hrj : fX12_look_j233 (zI ((b' - s : Nat) : Int)) (zI kr) v3 = if b' - s ≤ 8 then some (zI kr, uI v3 100 25 (zI kr)) else some (zI (-1), uI (uI (uI v3 100 25 (zI kr)) 100 21 (zI 1)) 100 22 (zI s)) := by
      unfold fX12_look_j233
      rw [lt_e]
      by_cases h8 : b' - s ≤ 8
      · rw [if_pos (by rw [z_lit, z_le (by omega) (by omega) (by decide) (by decide)]; omega), if_pos h8, gI_z, I_uI1 _ _ _ _ (by omega) (by omega)]
      · rw [if_neg (by rw [z_lit, z_le (by omega) (by omega) (by decide) (by decide)]; omega), if_neg h8, gI_z _ 100 26, I_uI2 _ _ _ _ _ _ (by decide), w26, show (1 : Int32) = zI 1 from rfl, rfail_0 _ _ _ (by rw [I_uI2 _ _ _ _ _ _ (by decide)]; exact w21), bd_s]
        rfl
    rw [hj, hrj]
    by_cases h8 : b' - s ≤ 8
    · rw [if_pos h8, if_pos h8, b2_s, lt_e]
      obtain ⟨l, q1, q2, q3, q4⟩ := y9 h8
      have p1 := pk_top l q2 (by omega)
      have Ff : Fr PT u (uI (uJ u3 1 3 w') 1 4 (zI kc)) := Fr_up rfl (Fr_uJ rfl F3)
      refine ⟨uI (uJ u3 1 3 w') 1 4 (zI kc), uI v3 100 25 (zI kr), Ff, Fr_up rfl G3, Or.inl ⟨s, b', kr, ?_, rfl, ⟨?_, ?_, ?_, ?_, ?_, ?_, ?_, ?_, by omega, y5, y6, fun _ => hlt, fun _ => ⟨?_, ?_, ?_⟩⟩, r5, ?_, ?_⟩⟩
      · rw [gI_z _ 1 4, I_uI1 _ _ _ _ (by omega) (by omega), hkc]
      · rw [I_uI2 _ _ _ _ _ _ (by decide), I_uJ]; exact z6
      · rw [I_uI2 _ _ _ _ _ _ (by decide)]; exact w24
      · rw [I_uI2 _ _ _ _ _ _ (by decide), I_uJ]; exact z2
      · rw [I_uI2 _ _ _ _ _ _ (by decide)]; exact w26
      · rw [I_uI2 _ _ _ _ _ _ (by decide), I_uJ]; exact y3
      · rw [I_uI2 _ _ _ _ _ _ (by decide)]; exact y4
      · rw [I_uI1 _ _ _ _ (by omega) (by omega), hkc]
      · exact I_uI1 _ _ _ _ (by omega) (by omega)
      · refine ⟨l, ?_, by omega, q2, ?_, ?_⟩
        · intro h; rw [h] at q1; simp at q1; omega
        · rw [J_uI, q3, J_uJ _ _ _ _ (by omega) (by omega), if_pos ⟨rfl, rfl⟩]
        · rw [J_uI]; exact q4
      · intro h; rw [byt_fr Ff (fun _ => rfl)]; have := y7 h; rw [byt_fr F12 (fun _ => rfl)] at this; exact this
      · rw [byt_fr Ff (fun _ => rfl)]; rw [byt_fr F01 (fun _ => rfl)] at hW; exact hW
      · rw [I_uI2 _ _ _ _ _ _ (by decide)]; exact w21
      · rw [I_uI2 _ _ _ _ _ _ (by decide)]; exact w22
    · rw [if_neg h8, if_neg h8, b2_s, lt_e]
      refine ⟨uI (uJ u3 1 3 w') 1 4 (zI 0), uI (uI (uI v3 100 25 (zI kr)) 100 21 (zI 1)) 100 22 (zI s), Fr_up rfl (Fr_uJ rfl F3), Fr_up rfl (Fr_up rfl (Fr_up rfl G3)), Or.inr ⟨s, ?_, rfl, ?_, I_uI1 _ _ _ _ (by omega) (by omega), ?_⟩⟩
      · rw [gI_z _ 1 4, I_uI1 _ _ _ _ (by decide) (by decide)]
      · rw [I_uI2 _ _ _ _ _ _ (by decide)]; exact I_uI1 _ _ _ _ (by decide) (by decide)
      · rw [I_uI2 _ _ _ _ _ _ (by decide), I_uJ]; exact z2
  by_cases hsm : 97 ≤ byt u1 s ∧ byt u1 s ≤ 122
  · have hge : ¬ Ix 1 (byt u1 s) < 0 := fun h => (x1.1 h) hsm
    rw [if_neg (by rw [z_zero, z_lt (by omega) (by omega) (by decide) (by decide)]; exact hge), show (if (97 : Int) ≤ (byt u1 s : Int) ∧ (byt u1 s : Int) ≤ 122 then (1 : Int) else 0) = 1 from if_pos (by omega), if_neg (by decide), lt_e, lt_e]
    exact words 2 1 (Or.inl rfl) rfl (Or.inl hsm) (by rw [if_pos (by omega)]; rfl)
  rw [if_pos (by rw [z_zero, z_lt (by omega) (by omega) (by decide) (by decide)]; exact x1.2 hsm), ix_spec 2 _ (by decide) hbs, b2_s, show (if (97 : Int) ≤ (byt u1 s : Int) ∧ (byt u1 s : Int) ≤ 122 then (1 : Int) else 0) = 0 from if_neg (by omega), if_pos q0, show (65 : Int32) = zI 65 from rfl, show (90 : Int32) = zI 90 from rfl, in_spec _ 65 90 v2 (by omega) (by omega) (by decide) (by decide) (by decide) (by decide), b2_s]
  by_cases hla : 65 ≤ byt u1 s ∧ byt u1 s ≤ 90
  · have hge : ¬ Ix 2 (byt u1 s) < 0 := fun h => (x2.1 h) hla
    rw [if_neg (by rw [z_zero, z_lt (by omega) (by omega) (by decide) (by decide)]; exact hge), show (if (65 : Int) ≤ (byt u1 s : Int) ∧ (byt u1 s : Int) ≤ 90 then (1 : Int) else 0) = 1 from if_pos (by omega), if_neg (by decide), lt_e, lt_e]
    exact words 3 2 (Or.inr rfl) rfl (Or.inr (Or.inl hla)) (by rw [if_neg (by omega)]; rfl)
  rw [if_pos (by rw [z_zero, z_lt (by omega) (by omega) (by decide) (by decide)]; exact x2.2 hla), show (if (65 : Int) ≤ (byt u1 s : Int) ∧ (byt u1 s : Int) ≤ 90 then (1 : Int) else 0) = 0 from if_neg (by omega), if_pos q0, lt_e, mk_ref _ hbs (fun k => fX12_look_j368 (zI (byt u1 s : Nat)) 1 k v2)]
  obtain ⟨k, m, m1, m2, m3⟩ := mark_both hT2 (by omega) hb2 d2 d5 e23
  have hm3 : fX12_look_j368 (zI (byt u1 s : Nat)) 1 (zI (k3 (byt u1 s))) v2 = fX12_look_j436 (zI m) (zI k) v2 := m3
  rw [hm3]
  rcases m2 with ⟨hk0, mc⟩ | ⟨hk3, hm1, hsm2, mc⟩
  · subst hk0
    rw [mc, b2_s, lt_e]
    refine ⟨uI u2 1 4 (zI 0), uI (uI v2 100 21 (zI 1)) 100 22 (zI s), Fr_up rfl F12, Fr_up rfl (Fr_up rfl G12), Or.inr ⟨s, ?_, ?_, ?_, I_uI1 _ _ _ _ (by omega) (by omega), ?_⟩⟩
    · rw [show (0 : Int32) = zI 0 from rfl, gI_z _ 1 4, I_uI1 _ _ _ _ (by decide) (by decide)]
    · unfold fX12_look_j436
      rw [if_pos (show zI ((0 : Nat) : Int) = 0 from rfl), gI_z _ 100 26, e26, show (1 : Int32) = zI 1 from rfl, rfail_0 _ _ _ e21, bd_s]
      rfl
    · rw [I_uI2 _ _ _ _ _ _ (by decide)]; exact I_uI1 _ _ _ _ (by decide) (by decide)
    · rw [I_uI2 _ _ _ _ _ _ (by decide)]; exact d2
  · rw [mc, b2_s, lt_e]
    refine ⟨uI (uI u2 1 5 (zI ((s + m : Nat) : Int))) 1 4 (zI ((k + 1 : Nat) : Int)), uI (uI v2 100 23 (zI ((s + m : Nat) : Int))) 100 25 (zI k), Fr_up rfl (Fr_up rfl F12), Fr_up rfl (Fr_up rfl G12), Or.inl ⟨s, s + m, k, ?_, ?_, ⟨?_, ?_, ?_, ?_, ?_, ?_, ?_, ?_, m1, by omega, hsm2, fun _ => by omega, fun h => by omega⟩, r5, ?_, ?_⟩⟩
    · rw [gI_z _ 1 4, I_uI1 _ _ _ _ (by omega) (by omega)]
    · unfold fX12_look_j436
      rw [if_neg (by rw [z_zero, z_eq (by omega) (by omega) (by decide) (by decide)]; omega), gI_z v2 100 23, e23, z_add, lt_e, lt_e, show (s : Int) + m = ((s + m : Nat) : Int) by omega]
    · rw [I_uI2 _ _ _ _ _ _ (by decide), I_uI2 _ _ _ _ _ _ (by decide)]; exact d6
    · rw [I_uI2 _ _ _ _ _ _ (by decide), I_uI2 _ _ _ _ _ _ (by decide)]; exact e24
    · rw [I_uI2 _ _ _ _ _ _ (by decide), I_uI2 _ _ _ _ _ _ (by decide)]; exact d2
    · rw [I_uI2 _ _ _ _ _ _ (by decide), I_uI2 _ _ _ _ _ _ (by decide)]; exact e26
    · rw [I_uI2 _ _ _ _ _ _ (by decide)]; exact I_uI1 _ _ _ _ (by omega) (by omega)
    · rw [I_uI2 _ _ _ _ _ _ (by decide)]; exact I_uI1 _ _ _ _ (by omega) (by omega)
    · exact I_uI1 _ _ _ _ (by omega) (by omega)
    · exact I_uI1 _ _ _ _ (by omega) (by omega)
    · rw [I_uI2 _ _ _ _ _ _ (by decide), I_uI2 _ _ _ _ _ _ (by decide)]; exact e21
    · rw [I_uI2 _ _ _ _ _ _ (by decide), I_uI2 _ _ _ _ _ _ (by decide)]; exact e22
