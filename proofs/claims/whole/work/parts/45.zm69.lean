/-! writing: the page is turned -/
theorem to8_id (x : Int) (h1 : -128 ≤ x) (h2 : x ≤ 127) : (zI x).toInt8.toInt32 = zI x := by
  apply Int32.toInt_inj.1
  rw [Int8.toInt_toInt32, Int32.toInt_toInt8, show (zI x).toInt = x from Int32.toInt_ofInt_of_le (by omega) (by omega)]
  rw [Int.bmod_eq_of_le (by omega) (by omega)]
theorem cp_loop (k : Nat) (hk : k ≤ 4000) (d : Nat) : ∀ (F i : Nat) (v : St), i + d = k → d < F → I v 100 78 = k → (∀ j, j < k → -128 ≤ I v 145 j ∧ I v 145 j ≤ 127) → (∀ j, j < i → I v 144 j = I v 145 j) → ∃ v', fX12_written_L0 F 0 (zI i) v = some (zI k, v') ∧ I v' 100 76 = k ∧ (∀ j, j < k → I v' 144 j = I v 145 j) ∧ Fr (fun a j => a == 144 || (a == 100 && j == 76)) v v' := by
  induction d with
  | zero =>
    intro F i v hi hF h78 hb h
    obtain ⟨G, rfl⟩ : ∃ G, F = G + 1 := ⟨F - 1, by omega⟩
    have : i = k := by omega
    subst this
    have F1 : Fr (fun a j => a == 144 || (a == 100 && j == 76)) v (uI v 100 76 (zI i)) := Fr_up rfl (Fr_rfl _ _)
    have c76 : I (uI v 100 76 (zI i)) 100 76 = i := I_uI1 _ _ _ _ (by omega) (by omega)
    refine ⟨uI v 100 76 (zI i), ?_, c76, fun j hj => by rw [I_uI3 _ _ _ _ _ _ (by decide)]; exact h j hj, F1⟩
    have st : fX12_written_L0 (G + 1) 0 (zI i) v = fX12_written_L0_0 (fX12_written_L0 G) (zI i) v := rfl
    rw [st]
    unfold fX12_written_L0_0
    rw [gI_z v 100 78, h78, if_pos (by rw [z_le (by omega) (by omega) (by omega) (by omega)]; omega), lt_e, gI_z _ 100 76, c76]
  | succ d ih =>
    intro F i v hi hF h78 hb h
    obtain ⟨G, rfl⟩ : ∃ G, F = G + 1 := ⟨F - 1, by omega⟩
    have hbi := hb i (by omega)
    have F1 : Fr (fun a j => a == 144 || (a == 100 && j == 76)) v (uI v 144 i (zI (I v 145 i))) := Fr_up rfl (Fr_rfl _ _)
    obtain ⟨v', r1, r2, r3, r4⟩ := ih G (i + 1) (uI v 144 i (zI (I v 145 i))) (by omega) (by omega) (by rw [I_uI3 _ _ _ _ _ _ (by decide)]; exact h78) (fun j hj => by rw [I_uI3 _ _ _ _ _ _ (by decide)]; exact hb j hj) (fun j hj => by
      rw [I_uI3 _ _ _ _ 145 j (by decide)]
      by_cases hji : j = i
      · subst hji; exact I_uI1 _ _ _ _ (by omega) (by omega)
      · rw [I_uI2 _ _ _ _ _ _ (by omega)]; exact h j (by omega))
    refine ⟨v', ?_, r2, fun j hj => by rw [r3 j hj, I_uI3 _ _ _ _ _ _ (by decide)], Fr_tr F1 r4⟩
    have st : fX12_written_L0 (G + 1) 0 (zI i) v = fX12_written_L0_0 (fX12_written_L0 G) (zI i) v := rfl
    rw [st]
    generalize fX12_written_L0 G = R at r1 ⊢
    unfold fX12_written_L0_0
    rw [gI_z v 100 78, h78, if_neg (by rw [z_le (by omega) (by omega) (by omega) (by omega)]; omega), ld_z _ _ _ _ (by omega) (by omega), bd_s, Int.toNat_natCast, stB_z _ _ _ _ _ (by omega) (by omega), bd_s, Int.toNat_natCast, lt_e, to8_id _ hbi.1 hbi.2, show (1 : Int32) = zI 1 from rfl, z_add, show (i : Int) + 1 = ((i + 1 : Nat) : Int) by omega]
    exact r1
/-- the page is turned on both sides -/
theorem fin_both {u v : St} {k : Nat} (hD : DS u v k) (hk : k ≤ 4000) : ∃ u' v', fX1_finish u = some (zI k, u') ∧ fX12_written v = some (zI k, v') ∧ PGr u' v' ∧ (∀ a i, I u' a i = if a = 10 ∧ i = 3 then (k : Int) else I u a i) ∧ (∀ a i, J u' a i = J u a i) ∧ (∀ a i, a ≠ 10 → gR u' a i = gR u a i) ∧ Fr (fun a j => a == 144 || (a == 100 && j == 76)) v v' := by
  obtain ⟨d1, d2, d3, d4, d5⟩ := hD
  rcases d5 with ⟨a1, a2, a3, a4⟩ | ⟨a1, _⟩
  · obtain ⟨v', r1, r2, r3, r4⟩ := cp_loop k hk k FU 0 v (by omega) (by unfold FU; omega) d4 (fun j hj => (a4 j hj).2) (fun j hj => by omega)
    have c5 : I (uR (uR u 10 2 (gR u 10 4)) 10 4 (gR u 10 2)) 10 5 = k := a2
    have hI : ∀ a i, I (uI (uR (uR u 10 2 (gR u 10 4)) 10 4 (gR u 10 2)) 10 3 (zI k)) a i = if a = 10 ∧ i = 3 then (k : Int) else I u a i := by
      intro a i
      by_cases h : a = 10 ∧ i = 3
      · rw [if_pos h, h.1, h.2, I_uI1 _ _ _ _ (by omega) (by omega)]
      · rw [if_neg h]
        by_cases ha : a = 10
        · rw [ha, I_uI2 _ _ _ _ _ _ (by omega)]; rfl
        · rw [I_uI3 _ _ _ _ _ _ ha]; rfl
    have g2 : gR (uI (uR (uR u 10 2 (gR u 10 4)) 10 4 (gR u 10 2)) 10 3 (zI k)) 10 2 = gR u 10 4 := by
      simp [gR, uI, uR, va_up]
    have g4 : gR (uI (uR (uR u 10 2 (gR u 10 4)) 10 4 (gR u 10 2)) 10 3 (zI k)) 10 4 = gR u 10 2 := by
      simp [gR, uI, uR, va_up]
    refine ⟨_, v', ?_, r1, ⟨?_, ?_, ?_, ?_, ?_, ?_, ?_⟩, hI, fun a i => rfl, ?_, r4⟩
    · unfold fX1_finish
      rw [gI_z u 10 6, a3, if_pos (show zI 0 = 0 from rfl), lt_e, lt_e, gI_z _ 10 5, c5, lt_e, gI_z _ 10 3, hI, if_pos ⟨rfl, rfl⟩]
    · rw [g2]; exact d2
    · rw [g4]; exact d1
    · rw [g2, g4]; exact fun h => d3 h.symm
    · rw [hI, if_pos ⟨rfl, rfl⟩, r2]
    · rw [hI, if_pos ⟨rfl, rfl⟩]; omega
    · rw [hI, if_pos ⟨rfl, rfl⟩]; omega
    · intro i hi
      rw [hI 10 3, if_pos ⟨rfl, rfl⟩] at hi
      rw [g2, hI, if_neg (by rcases d2 with h | h <;> rw [h] <;> omega), r3 i (by omega)]
      exact (a4 i (by omega)).1
    · intro a i ha
      simp [gR, uI, uR, va_up, ha]
  · omega
