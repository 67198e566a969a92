/-! reading: a token -/
def PT : Nat → Nat → Bool := fun k i => k == 1 && (i == 2 || i == 3 || i == 4 || i == 5 || i == 6)
def QT : Nat → Nat → Bool := fun k i => k == 100 && (i == 21 || i == 22 || i == 23 || i == 24 || i == 25 || i == 26 || i == 27)
def TNs (u v : St) (n b : Nat) : Prop := I u 1 6 = 0 ∧ I v 100 24 = 0 ∧ I u 1 5 = b ∧ I v 100 23 = b ∧ b ≤ n
def TLs (u v : St) (n s b k : Nat) : Prop := I u 1 6 = 1 ∧ I v 100 24 = 1 ∧ I u 1 2 = s ∧ I v 100 26 = s ∧ I u 1 5 = b ∧ I v 100 23 = b ∧ I u 1 4 = ((k + 1 : Nat) : Int) ∧ I v 100 25 = k ∧ k ≤ 14 ∧ s ≤ b ∧ b ≤ n ∧ (k ≠ 0 → s < b) ∧ (k = 1 ∨ k = 2 → NmR (J u 1 3) (J v 100 27) ∧ (b < n → ¬ isW (byt u b)) ∧ isW (byt u s))
theorem blank_loop (n : Nat) (d : Nat) : ∀ (F G i : Nat) (u v : St), i + d = n → d < F → 2 * d < G → TXs u v n → I u 1 2 = i → I v 100 23 = i → ∃ u' v' s G', fX6_look_L0 F 0 u = fX6_look_j71 u' ∧ fX12_look_L1 G 0 v = fX12_look_L1 (G' + 1) 0 v' ∧ I u' 1 2 = (s : Nat) ∧ I v' 100 23 = (s : Nat) ∧ i ≤ s ∧ s ≤ n ∧ (s < n → ¬ (byt u s = 9 ∨ byt u s = 10 ∨ byt u s = 13 ∨ byt u s = 32)) ∧ Fr (P1 1 2) u u' ∧ Fr (P1 100 23) v v' := by
  induction d with
  | zero =>
    intro F G i u v hi hF hG hT h2 h23
    obtain ⟨F', rfl⟩ : ∃ F', F = F' + 1 := ⟨F - 1, by omega⟩
    obtain ⟨G', rfl⟩ : ∃ G', G = G' + 1 := ⟨G - 1, by omega⟩
    have hin : i = n := by omega
    subst hin
    have hn := hT.1
    refine ⟨u, v, i, G', ?_, rfl, h2, h23, Nat.le_refl _, Nat.le_refl _, fun h => absurd h (by omega), Fr_rfl _ _, Fr_rfl _ _⟩
    have st : fX6_look_L0 (F' + 1) 0 u = fX6_look_L0_0 (fX6_look_L0 F') u := rfl
    rw [st]; unfold fX6_look_L0_0
    rw [gI_z u 1 1, hT.2.1, gI_z u 1 2, h2, if_pos (by rw [z_le (by omega) (by omega) (by omega) (by omega)]; omega)]
  | succ d ih =>
    intro F G i u v hi hF hG hT h2 h23
    obtain ⟨F', rfl⟩ : ∃ F', F = F' + 1 := ⟨F - 1, by omega⟩
    obtain ⟨G', rfl⟩ : ∃ G', G = G' + 2 := ⟨G - 2, by omega⟩
    have hn := hT.1
    have hb := byt_lt u i
    have hr := Ixr 0 _ (by decide) hb
    have h0 := Ix0 _ hb
    have hsg := TXs_sign hT i (by omega)
    rw [if_neg (by omega)] at hsg
    have st : fX6_look_L0 (F' + 1) 0 u = fX6_look_L0_0 (fX6_look_L0 F') u := rfl
    have hcl : ∀ R, fX6_look_L0_0 R u = if zI (Ix 0 (byt u i)) < 0 then fX6_look_j71 u else R 0 (uI u 1 2 (zI ((i + 1 : Nat) : Int))) := by
      intro R
      unfold fX6_look_L0_0
      rw [gI_z u 1 1, hT.2.1, gI_z u 1 2, h2, if_neg (by rw [z_le (by omega) (by omega) (by omega) (by omega)]; omega), ld_z _ _ _ _ (by omega) (by omega), bd_s, Int.toNat_natCast, show (255 : Int32) = zI 255 from rfl, byt_z, chr_z _ hb, ix_spec 0 _ (by decide) hb, b2_s, gI_z u 1 2, h2, show (1 : Int32) = zI 1 from rfl, z_add, lt_e, show (i : Int) + 1 = ((i + 1 : Nat) : Int) by omega]
    by_cases hbl : byt u i = 9 ∨ byt u i = 10 ∨ byt u i = 13 ∨ byt u i = 32
    · have Fa : Fr (P1 1 2) u (uI u 1 2 (zI ((i + 1 : Nat) : Int))) := Fr_up (by simp [P1]) (Fr_rfl _ _)
      have Fb : Fr (P1 100 23) v (uI v 100 23 (zI ((i + 1 : Nat) : Int))) := Fr_up (by simp [P1]) (Fr_rfl _ _)
      obtain ⟨u', v', s, G2, r1, r2, r3, r4, r5, r6, r7, r8, r9⟩ := ih F' G' (i + 1) _ _ (by omega) (by omega) (by omega) (TXs_fr Fa Fb (by simp [P1]) (fun j => by simp [P1]) (by simp [P1]) (fun j => by simp [P1]) hT) (I_uI1 _ _ _ _ (by omega) (by omega)) (I_uI1 _ _ _ _ (by omega) (by omega))
      refine ⟨u', v', s, G2, ?_, ?_, r3, r4, by omega, r6, fun h => by have := r7 h; rw [byt_fr Fa (fun j => by simp [P1])] at this; exact this, Fr_tr Fa r8, Fr_tr Fb r9⟩
      · rw [st, hcl, if_neg (by rw [z_zero, z_lt (by omega) (by omega) (by decide) (by decide)]; exact fun h => (h0.1 h) hbl)]
        exact r1
      · rw [← r2]
        have st1 : fX12_look_L1 (G' + 2) 0 v = fX12_look_L1_0 (fX12_look_L1 (G' + 1)) v := rfl
        have st2 : fX12_look_L1 (G' + 1) 1 v = fX12_look_L1 G' 0 (uI v 100 23 (zI ((i + 1 : Nat) : Int))) := by
          have : fX12_look_L1 (G' + 1) 1 v = fX12_look_L1_1 (fX12_look_L1 G') v := rfl
          rw [this]
          generalize fX12_look_L1 G' = R
          unfold fX12_look_L1_1
          rw [gI_z v 100 23, h23, show (1 : Int32) = zI 1 from rfl, z_add, lt_e, show (i : Int) + 1 = ((i + 1 : Nat) : Int) by omega]
        rw [st1, ← st2]
        generalize fX12_look_L1 (G' + 1) = R
        unfold fX12_look_L1_0
        rw [gI_z v 100 23, h23, hsg, b2_s]
        rcases hbl with h | h | h | h
        · rw [if_pos (by rw [h]; rfl)]
        · rw [if_neg (by rw [h]; decide), gI_z v 100 23, h23, hsg, b2_s, if_pos (by rw [h]; rfl)]
        · rw [if_neg (by rw [h]; decide), gI_z v 100 23, h23, hsg, b2_s, if_neg (by rw [h]; decide), gI_z v 100 23, h23, hsg, b2_s, if_pos (by rw [h]; rfl)]
        · rw [if_neg (by rw [h]; decide), gI_z v 100 23, h23, hsg, b2_s, if_neg (by rw [h]; decide), gI_z v 100 23, h23, hsg, b2_s, if_neg (by rw [h]; decide), gI_z v 100 23, h23, hsg, b2_s, if_pos (by rw [h]; rfl)]
    · refine ⟨u, v, i, G' + 1, ?_, rfl, h2, h23, Nat.le_refl _, by omega, fun _ => hbl, Fr_rfl _ _, Fr_rfl _ _⟩
      rw [st, hcl, if_pos (by rw [z_zero, z_lt (by omega) (by omega) (by decide) (by decide)]; exact h0.2 hbl)]
/-- a sign's kind in the reference -/
def k3 (c : Nat) : Int := if mkI c < 0 then 0 else 3 + mkI c
theorem mkI_rng (c : Nat) : -1 ≤ mkI c ∧ mkI c ≤ 9 := by
  unfold mkI
  repeat (first | (split; decide) | decide)
theorem mk_ref (c : Nat) (hc : c < 256) (A : Int32 → Option (Int32 × St)) : (if zI c = 40 then A 3 else if zI c = 41 then A 4 else if zI c = 44 then A 5 else if zI c = 46 then A 6 else if zI c = 58 then A 7 else if zI c = 126 then A 8 else if zI c = 38 then A 9 else if zI c = 124 then A 10 else if zI c = 33 then A 11 else if zI c = 63 then A 12 else A 0) = A (zI (k3 c)) := by
  have e : ∀ m : Nat, m < 256 → (zI c = zI (m : Nat)) = (c = m) := fun m hm => by rw [z_eq (by omega) (by omega) (by omega) (by omega)]; exact propext ⟨fun h => by omega, fun h => by omega⟩
  rw [show (40 : Int32) = zI (40 : Nat) from rfl, show (41 : Int32) = zI (41 : Nat) from rfl, show (44 : Int32) = zI (44 : Nat) from rfl, show (46 : Int32) = zI (46 : Nat) from rfl, show (58 : Int32) = zI (58 : Nat) from rfl, show (126 : Int32) = zI (126 : Nat) from rfl, show (38 : Int32) = zI (38 : Nat) from rfl, show (124 : Int32) = zI (124 : Nat) from rfl, show (33 : Int32) = zI (33 : Nat) from rfl, show (63 : Int32) = zI (63 : Nat) from rfl]
  by_cases h1 : c = 40
  · subst h1; rfl
  rw [if_neg (by rw [e 40 (by decide)]; exact h1)]
  by_cases h2 : c = 41
  · subst h2; rfl
  rw [if_neg (by rw [e 41 (by decide)]; exact h2)]
  by_cases h3 : c = 44
  · subst h3; rfl
  rw [if_neg (by rw [e 44 (by decide)]; exact h3)]
  by_cases h4 : c = 46
  · subst h4; rfl
  rw [if_neg (by rw [e 46 (by decide)]; exact h4)]
  by_cases h5 : c = 58
  · subst h5; rfl
  rw [if_neg (by rw [e 58 (by decide)]; exact h5)]
  by_cases h6 : c = 126
  · subst h6; rfl
  rw [if_neg (by rw [e 126 (by decide)]; exact h6)]
  by_cases h7 : c = 38
  · subst h7; rfl
  rw [if_neg (by rw [e 38 (by decide)]; exact h7)]
  by_cases h8 : c = 124
  · subst h8; rfl
  rw [if_neg (by rw [e 124 (by decide)]; exact h8)]
  by_cases h9 : c = 33
  · subst h9; rfl
  rw [if_neg (by rw [e 33 (by decide)]; exact h9)]
  by_cases h10 : c = 63
  · subst h10; rfl
  rw [if_neg (by rw [e 63 (by decide)]; exact h10)]
  have : k3 c = 0 := by unfold k3 mkI; rw [if_neg h1, if_neg h2, if_neg h3, if_neg h4, if_neg h5, if_neg h6, if_neg h7, if_neg h8, if_neg h9, if_neg h10, if_pos (by decide)]
  rw [this]; rfl
/-- marks, both sides: m is how long the token is, k its kind in the reference -/
theorem mark_both {u v : St} {n s c : Nat} (hT : TXs u v n) (hs : s < n) (hc : byt u s = c) (h2 : I u 1 2 = s) (h5 : I u 1 5 = s) (h23 : I v 100 23 = s) : ∃ k m : Nat, k ≤ 14 ∧ ((k = 0 ∧ fX6_scanMark (zI c) u = some (0, u)) ∨ (3 ≤ k ∧ 1 ≤ m ∧ s + m ≤ n ∧ fX6_scanMark (zI c) u = some (zI ((k + 1 : Nat) : Int), uI u 1 5 (zI ((s + m : Nat) : Int))))) ∧ fX12_look_j368 (zI c) (zI 1) (zI (k3 c)) v = fX12_look_j436 (zI m) (zI k) v := by
  have hn := hT.1
  have hb := byt_lt u s
  rw [hc] at hb
  have hmr := mkI_rng c
  have eqz : ∀ m : Nat, m < 256 → (zI c = zI (m : Nat)) = (c = m) := fun m hm => by rw [z_eq (by omega) (by omega) (by omega) (by omega)]; exact propext ⟨fun h => by omega, fun h => by omega⟩
  have bytI : ∀ i m : Nat, m < 128 → (byt u i = m ↔ I u 14 i = m) := by
    intro i m hm
    have := (hT.2.2.2 i).2
    unfold byt
    constructor <;> intro h <;> omega
  have h106 : fX6_scanMark_j106 (zI c) u = if 0 ≤ mkI c then some (zI (4 + mkI c), uI u 1 5 (zI ((s + 1 : Nat) : Int))) else some (0, u) := by
    unfold fX6_scanMark_j106
    rw [ix_spec 4 _ (by decide) hb, Ix4 _ hb, b2_s]
    by_cases hm : 0 ≤ mkI c
    · rw [if_pos (by rw [z_zero, z_le (by decide) (by decide) (by omega) (by omega)]; exact hm), if_pos hm, gI_z, h2, show (1 : Int32) = zI 1 from rfl, z_add, lt_e, show (4 : Int32) = zI 4 from rfl, z_add, show (s : Int) + 1 = ((s + 1 : Nat) : Int) by omega]
    · rw [if_neg (by rw [z_zero, z_le (by decide) (by decide) (by omega) (by omega)]; exact hm), if_neg hm]
  have sg : ∀ j : Nat, j < 10 → fX12_sign (gI v 100 23 + zI j) v = some (zI (if n ≤ s + j then -1 else (byt u (s + j) : Int)), v) := by
    intro j hj
    rw [gI_z, h23, z_add, show (s : Int) + j = ((s + j : Nat) : Int) by omega]
    exact TXs_sign hT (s + j) (by omega)
  by_cases h61 : c = 61
  · subst h61
    by_cases hw : s + 1 < n ∧ byt u (s + 1) = 62
    · refine ⟨13, 2, by decide, Or.inr ⟨by decide, by decide, by omega, ?_⟩, ?_⟩
      · unfold fX6_scanMark
        rw [gI_z u 1 1, hT.2.1, gI_z u 1 2, h2, z_sub, lt_e, if_pos (by rfl), if_neg (by rw [show (1 : Int32) = zI 1 from rfl, z_le (by omega) (by omega) (by decide) (by decide)]; omega), show (1 : Int32) = zI 1 from rfl, z_add, show (s : Int) + 1 = ((s + 1 : Nat) : Int) by omega, ld_z _ _ _ _ (by omega) (by omega), bd_s, Int.toNat_natCast, (bytI (s + 1) 62 (by decide)).1 hw.2, if_pos (by rfl), show (2 : Int32) = zI 2 from rfl, z_add, lt_e, show (s : Int) + 2 = ((s + 2 : Nat) : Int) by omega]
        rfl
      · unfold fX12_look_j368 fX12_look_j395
        rw [if_pos (by rfl), show (1 : Int32) = zI (1 : Nat) from rfl, sg 1 (by decide), b2_s, if_neg (show ¬ n ≤ s + 1 by omega), hw.2, if_pos (by rfl), lt_e, lt_e, if_neg (by decide)]
        rfl
    · refine ⟨0, 1, by decide, Or.inl ⟨rfl, ?_⟩, ?_⟩
      · have h50 : ∀ x, fX6_scanMark_j50 (zI (61 : Nat)) x u = some (0, u) := by
          intro x; unfold fX6_scanMark_j50; rw [if_neg (by decide), h106, if_neg (by decide)]
        unfold fX6_scanMark
        rw [gI_z u 1 1, hT.2.1, gI_z u 1 2, h2, z_sub, lt_e, if_pos (by rfl)]
        by_cases hl : s + 1 < n
        · rw [if_neg (by rw [show (1 : Int32) = zI 1 from rfl, z_le (by omega) (by omega) (by decide) (by decide)]; omega), show (1 : Int32) = zI 1 from rfl, z_add, show (s : Int) + 1 = ((s + 1 : Nat) : Int) by omega, ld_z _ _ _ _ (by omega) (by omega), bd_s, Int.toNat_natCast, if_neg, h50]
          have hl2 := I_lo u 14 (s + 1)
          have hl3 := I_hi u 14 (s + 1)
          rw [show (62 : Int32) = zI 62 from rfl, z_eq hl2 hl3 (by decide) (by decide)]
          exact fun h => hw ⟨hl, (bytI (s + 1) 62 (by decide)).2 h⟩
        · rw [if_pos (by rw [show (1 : Int32) = zI 1 from rfl, z_le (by omega) (by omega) (by decide) (by decide)]; omega), h50]
      · unfold fX12_look_j368 fX12_look_j395
        have hbj := byt_lt u (s + 1)
        rw [if_pos (by rfl), show (1 : Int32) = zI (1 : Nat) from rfl, sg 1 (by decide), b2_s, if_neg, if_neg (by decide)]
        · rfl
        · rw [show (62 : Int32) = zI 62 from rfl]
          by_cases hl : n ≤ s + 1
          · rw [if_pos hl]; decide
          · rw [if_neg hl, z_eq (by omega) (by omega) (by decide) (by decide)]; omega
  · by_cases h60 : c = 60
    · subst h60
      have hcm : fX6_scanMark (zI (60 : Nat)) u = fX6_scanMark_j50 (zI (60 : Nat)) (zI ((n : Int) - s)) u := by
        unfold fX6_scanMark
        rw [gI_z u 1 1, hT.2.1, gI_z u 1 2, h2, z_sub, lt_e, if_neg (by decide)]
      by_cases hw : s + 2 < n ∧ byt u (s + 1) = 61 ∧ byt u (s + 2) = 62
      · refine ⟨14, 3, by decide, Or.inr ⟨by decide, by decide, by omega, ?_⟩, ?_⟩
        · rw [hcm]
          unfold fX6_scanMark_j50
          rw [if_pos (by rfl), if_neg (by rw [show (2 : Int32) = zI 2 from rfl, z_le (by omega) (by omega) (by decide) (by decide)]; omega), gI_z u 1 2, h2, show (1 : Int32) = zI 1 from rfl, z_add, show (s : Int) + 1 = ((s + 1 : Nat) : Int) by omega, ld_z _ _ _ _ (by omega) (by omega), bd_s, Int.toNat_natCast, (bytI (s + 1) 61 (by decide)).1 hw.2.1, if_pos (by rfl), show (2 : Int32) = zI 2 from rfl, z_add, show (s : Int) + 2 = ((s + 2 : Nat) : Int) by omega, ld_z _ _ _ _ (by omega) (by omega), bd_s, Int.toNat_natCast, (bytI (s + 2) 62 (by decide)).1 hw.2.2, if_pos (by rfl), show (3 : Int32) = zI 3 from rfl, z_add, lt_e, show (s : Int) + 3 = ((s + 3 : Nat) : Int) by omega]
          rfl
        · unfold fX12_look_j368 fX12_look_j395
          rw [if_neg (by decide), if_pos (by rfl), show (1 : Int32) = zI (1 : Nat) from rfl, sg 1 (by decide), b2_s, if_neg (show ¬ n ≤ s + 1 by omega), hw.2.1, if_pos (by rfl), show (2 : Int32) = zI (2 : Nat) from rfl, sg 2 (by decide), b2_s, if_neg (show ¬ n ≤ s + 2 by omega), hw.2.2, if_pos (by rfl), lt_e, lt_e]
          rfl
      · refine ⟨0, 1, by decide, Or.inl ⟨rfl, ?_⟩, ?_⟩
        · have h1060 : fX6_scanMark_j106 (zI (60 : Nat)) u = some (0, u) := by rw [h106, if_neg (by decide)]
          rw [hcm]
          unfold fX6_scanMark_j50
          rw [if_pos (by rfl)]
          by_cases hl : s + 2 < n
          · rw [if_neg (by rw [show (2 : Int32) = zI 2 from rfl, z_le (by omega) (by omega) (by decide) (by decide)]; omega), gI_z u 1 2, h2, show (1 : Int32) = zI 1 from rfl, z_add, show (s : Int) + 1 = ((s + 1 : Nat) : Int) by omega, ld_z _ _ _ _ (by omega) (by omega), bd_s, Int.toNat_natCast]
            have hl2 := I_lo u 14 (s + 1)
            have hl3 := I_hi u 14 (s + 1)
            by_cases ha : I u 14 (s + 1) = 61
            · rw [if_pos (by rw [ha]; rfl), show (2 : Int32) = zI 2 from rfl, z_add, show (s : Int) + 2 = ((s + 2 : Nat) : Int) by omega, ld_z _ _ _ _ (by omega) (by omega), bd_s, Int.toNat_natCast, if_neg, h1060]
              have hl4 := I_lo u 14 (s + 2)
              have hl5 := I_hi u 14 (s + 2)
              rw [show (62 : Int32) = zI 62 from rfl, z_eq hl4 hl5 (by decide) (by decide)]
              exact fun h => hw ⟨hl, (bytI (s + 1) 61 (by decide)).2 ha, (bytI (s + 2) 62 (by decide)).2 h⟩
            · rw [if_neg (by rw [show (61 : Int32) = zI 61 from rfl, z_eq hl2 hl3 (by decide) (by decide)]; exact ha), h1060]
          · rw [if_pos (by rw [show (2 : Int32) = zI 2 from rfl, z_le (by omega) (by omega) (by decide) (by decide)]; omega), h1060]
        · unfold fX12_look_j368 fX12_look_j395
          have hbj := byt_lt u (s + 1)
          have hbj2 := byt_lt u (s + 2)
          rw [if_neg (by decide), if_pos (by rfl), show (1 : Int32) = zI (1 : Nat) from rfl, sg 1 (by decide), b2_s]
          by_cases ha : s + 1 < n ∧ byt u (s + 1) = 61
          · rw [if_neg (show ¬ n ≤ s + 1 by omega), ha.2, if_pos (by rfl), show (2 : Int32) = zI (2 : Nat) from rfl, sg 2 (by decide), b2_s, if_neg]
            · rfl
            · rw [show (62 : Int32) = zI 62 from rfl]
              by_cases hl : n ≤ s + 2
              · rw [if_pos hl]; decide
              · rw [if_neg hl, z_eq (by omega) (by omega) (by decide) (by decide)]; omega
          · rw [if_neg]
            · rfl
            · rw [show (61 : Int32) = zI 61 from rfl]
              by_cases hl : n ≤ s + 1
              · rw [if_pos hl]; decide
              · rw [if_neg hl, z_eq (by omega) (by omega) (by decide) (by decide)]; omega
    · have hcm : fX6_scanMark (zI c) u = fX6_scanMark_j106 (zI c) u := by
        unfold fX6_scanMark fX6_scanMark_j50
        rw [gI_z u 1 1, hT.2.1, gI_z u 1 2, h2, z_sub, lt_e, if_neg (by rw [show (61 : Int32) = zI (61 : Nat) from rfl, eqz 61 (by decide)]; exact h61), if_neg (by rw [show (60 : Int32) = zI (60 : Nat) from rfl, eqz 60 (by decide)]; exact h60)]
      have hrf : fX12_look_j368 (zI c) (zI 1) (zI (k3 c)) v = fX12_look_j436 (zI 1) (zI (k3 c)) v := by
        unfold fX12_look_j368 fX12_look_j395
        rw [if_neg (by rw [show (61 : Int32) = zI (61 : Nat) from rfl, eqz 61 (by decide)]; exact h61), if_neg (by rw [show (60 : Int32) = zI (60 : Nat) from rfl, eqz 60 (by decide)]; exact h60)]
      by_cases hm : 0 ≤ mkI c
      · refine ⟨(3 + mkI c).toNat, 1, by omega, Or.inr ⟨by omega, by decide, by omega, ?_⟩, ?_⟩
        · rw [hcm, h106, if_pos hm, show (((3 + mkI c).toNat + 1 : Nat) : Int) = 4 + mkI c by omega]
        · rw [hrf]
          unfold k3
          rw [if_neg (by omega), show (((3 + mkI c).toNat : Nat) : Int) = 3 + mkI c by omega]
          rfl
      · refine ⟨0, 1, by decide, Or.inl ⟨rfl, ?_⟩, ?_⟩
        · rw [hcm, h106, if_neg hm]
        · rw [hrf]
          unfold k3
          rw [if_pos (by omega)]
          rfl
