/-! start clauses: the scans -/
def Ps (u : St) (fi : Nat → Nat) (k : Nat) : Prop := ∀ l, fi k ≤ l → l < fi (k + 1) → I u 30 l = 0
theorem pos_loop {u v : St} {C : Nat} {fi ps : Nat → Nat} {nv c : Nat → Int} {e : Nat → Nat} (hS : SR u v C fi ps nv c e) (k : Nat) (hk : k < C) (m : Nat) : ∀ (F l : Nat), l + m = fi (k + 1) → fi k ≤ l → m < F → (∀ i, fi k ≤ i → i < l → I u 30 i = 0) → ∃ r : Int, fX4_positive_L0 F 0 (zI k) (zI l) u = some (zI r, u) ∧ ((r = 1 ∧ Ps u fi k) ∨ (r = 0 ∧ ¬ Ps u fi k)) := by
  have hC := hS.1
  have hff := SR_fi hS
  have h18 := hS.2.2.2.2.2.1 (k + 1) (by omega)
  have hfc := hff.1 C (Nat.le_refl _) (k + 1) (by omega)
  induction m with
  | zero =>
    intro F l hl hl2 hF hz
    obtain ⟨G, rfl⟩ : ∃ G, F = G + 1 := ⟨F - 1, by omega⟩
    refine ⟨1, ?_, Or.inl ⟨rfl, fun i h1 h2 => hz i h1 (by omega)⟩⟩
    have st : fX4_positive_L0 (G + 1) 0 (zI k) (zI l) u = fX4_positive_L0_0 (fX4_positive_L0 G) (zI k) (zI l) u := rfl
    rw [st]
    unfold fX4_positive_L0_0
    rw [show (1 : Int32) = zI 1 from rfl, z_add, ld_z _ _ _ _ (by omega) (by omega), bd_s, show ((k : Int) + 1).toNat = k + 1 by omega, h18, if_pos (by rw [z_le (by omega) (by omega) (by omega) (by omega)]; omega)]
  | succ m ih =>
    intro F l hl hl2 hF hz
    obtain ⟨G, rfl⟩ : ∃ G, F = G + 1 := ⟨F - 1, by omega⟩
    have hlit := SR_lit hS (show l < fi C by omega)
    have st : fX4_positive_L0 (G + 1) 0 (zI k) (zI l) u = fX4_positive_L0_0 (fX4_positive_L0 G) (zI k) (zI l) u := rfl
    rw [st]
    by_cases h30 : I u 30 l = 0
    · obtain ⟨r, r1, r2⟩ := ih G (l + 1) (by omega) (by omega) (by omega) (fun i h1 h2 => by
        by_cases hi : i = l
        · subst hi; exact h30
        · exact hz i h1 (by omega))
      refine ⟨r, ?_, r2⟩
      rw [← r1]
      generalize fX4_positive_L0 G = R
      unfold fX4_positive_L0_0
      rw [show (1 : Int32) = zI 1 from rfl, z_add, ld_z _ _ _ _ (by omega) (by omega), bd_s, show ((k : Int) + 1).toNat = k + 1 by omega, h18, if_neg (by rw [z_le (by omega) (by omega) (by omega) (by omega)]; omega), ld_z _ _ _ _ (by omega) (by omega), bd_s, Int.toNat_natCast, h30, if_pos q0, lt_e, z_add, show (l : Int) + 1 = ((l + 1 : Nat) : Int) by omega]
    · refine ⟨0, ?_, Or.inr ⟨rfl, fun h => h30 (h l hl2 (by omega))⟩⟩
      unfold fX4_positive_L0_0
      rw [show (1 : Int32) = zI 1 from rfl, z_add, ld_z _ _ _ _ (by omega) (by omega), bd_s, show ((k : Int) + 1).toNat = k + 1 by omega, h18, if_neg (by rw [z_le (by omega) (by omega) (by omega) (by omega)]; omega), ld_z _ _ _ _ (by omega) (by omega), bd_s, Int.toNat_natCast, if_neg (by rw [z_zero, z_eq (by omega) (by omega) (by decide) (by decide)]; exact h30)]
      rfl
theorem positive_spec {u v : St} {C : Nat} {fi ps : Nat → Nat} {nv c : Nat → Int} {e : Nat → Nat} (hS : SR u v C fi ps nv c e) (k : Nat) (hk : k < C) : ∃ r : Int, fX4_positive (zI k) u = some (zI r, u) ∧ ((r = 1 ∧ Ps u fi k) ∨ (r = 0 ∧ ¬ Ps u fi k)) := by
  have hC := hS.1
  have h18 := hS.2.2.2.2.2.1 k (by omega)
  have hkk := (hS.2.2.2.2.2.2.1 k hk)
  obtain ⟨r, r1, r2⟩ := pos_loop hS k hk (fi (k + 1) - fi k) FU (fi k) (by omega) (Nat.le_refl _) (by unfold FU; omega) (fun i h1 h2 => by omega)
  refine ⟨r, ?_, r2⟩
  unfold fX4_positive
  rw [ld_z _ _ _ _ (by omega) (by omega), bd_s, Int.toNat_natCast, h18]
  exact r1
/-- the reference's look at a clause: is it a start clause -/
theorem rpos_loop {u v : St} {C : Nat} {fi ps : Nat → Nat} {nv c : Nat → Int} {e : Nat → Nat} (hS : SR u v C fi ps nv c e) (x1 : Int32) (k : Nat) (hk : k < C) (m : Nat) : ∀ (G j : Nat) (b : Int), j + m = fi (k + 1) - fi k → ((b = 1 ∧ ∀ i, i < j → I u 30 (fi k + i) = 0) ∨ (b = 0 ∧ ¬ Ps u fi k)) → fX12_search_L0 (G + m + 1) 2 x1 (zI k) (zI b) (zI j) v = fX12_search_L0 (G + 1) 2 x1 (zI k) (zI (@ite Int (Ps u fi k) (Classical.propDecidable _) 1 0)) (zI ((fi (k + 1) - fi k : Nat) : Int)) v := by
  have hC := hS.1
  have hff := SR_fi hS
  obtain ⟨k1, k2, k3, k4, k5, k6, k7, k8, k9⟩ := hS.2.2.2.2.2.2.1 k hk
  have hfc := hff.1 C (Nat.le_refl _) (k + 1) (by omega)
  induction m with
  | zero =>
    intro G j b hj hb
    have hjn : j = fi (k + 1) - fi k := by omega
    subst hjn
    have hbb : b = @ite Int (Ps u fi k) (Classical.propDecidable _) 1 0 := by
      rcases hb with ⟨h1, h2⟩ | ⟨h1, h2⟩
      · have hp : Ps u fi k := fun l hl1 hl2 => by
          have := h2 (l - fi k) (by omega)
          rw [show fi k + (l - fi k) = l by omega] at this; exact this
        rw [if_pos hp]; exact h1
      · rw [if_neg h2]; exact h1
    rw [← hbb]
  | succ m ih =>
    intro G j b hj hb
    have st : fX12_search_L0 (G + (m + 1) + 1) 2 x1 (zI k) (zI b) (zI j) v = fX12_search_L0_2 (fX12_search_L0 (G + m + 1)) x1 (zI k) (zI b) (zI j) v := rfl
    have hlit := SR_lit hS (show fi k + j < fi C by omega)
    obtain ⟨b', hb', hstep⟩ : ∃ b' : Int, ((b' = 1 ∧ ∀ i, i < j + 1 → I u 30 (fi k + i) = 0) ∨ (b' = 0 ∧ ¬ Ps u fi k)) ∧ fX12_search_L0_2 (fX12_search_L0 (G + m + 1)) x1 (zI k) (zI b) (zI j) v = fX12_search_L0 (G + m + 1) 2 x1 (zI k) (zI b') (zI ((j + 1 : Nat) : Int)) v := by
      generalize fX12_search_L0 (G + m + 1) = R
      have hpre : ∀ A B, (bd (ld v 107 101 (zI k)) fun v13 => if v13 ≤ zI j then A else B) = (B : Option (Int32 × St)) := fun A B => by
        rw [ld_z _ _ _ _ (by omega) (by omega), bd_s, Int.toNat_natCast, k2, if_neg (by rw [z_le (by omega) (by omega) (by omega) (by omega)]; omega)]
      unfold fX12_search_L0_2
      rw [hpre]
      rcases hb with ⟨h1, h2⟩ | ⟨h1, h2⟩
      · subst h1
        by_cases h30 : I u 30 (fi k + j) = 0
        · refine ⟨1, Or.inl ⟨rfl, fun i hi => ?_⟩, ?_⟩
          · by_cases hij : i = j
            · subst hij; exact h30
            · exact h2 i (by omega)
          · rw [if_neg (by decide), ld_z _ _ _ _ (by omega) (by omega), bd_s, Int.toNat_natCast, k1, z_add, show (fi k : Int) + j = ((fi k + j : Nat) : Int) by omega, ld_z _ _ _ _ (by omega) (by omega), bd_s, Int.toNat_natCast, ← hlit.2.2.1, h30, if_pos q0, lt_e, lt_e, show (1 : Int32) = zI 1 from rfl, z_add, show (j : Int) + 1 = ((j + 1 : Nat) : Int) by omega]
        · refine ⟨0, Or.inr ⟨rfl, fun hp => h30 (hp (fi k + j) (by omega) (by omega))⟩, ?_⟩
          rw [if_neg (by decide), ld_z _ _ _ _ (by omega) (by omega), bd_s, Int.toNat_natCast, k1, z_add, show (fi k : Int) + j = ((fi k + j : Nat) : Int) by omega, ld_z _ _ _ _ (by omega) (by omega), bd_s, Int.toNat_natCast, ← hlit.2.2.1, if_neg (by rw [z_zero, z_eq (by omega) (by omega) (by decide) (by decide)]; exact h30), lt_e, lt_e, show (1 : Int32) = zI 1 from rfl, z_add, show (j : Int) + 1 = ((j + 1 : Nat) : Int) by omega]
          rfl
      · subst h1
        refine ⟨0, Or.inr ⟨rfl, h2⟩, ?_⟩
        rw [if_pos q0, lt_e, lt_e, show (1 : Int32) = zI 1 from rfl, z_add, show (j : Int) + 1 = ((j + 1 : Nat) : Int) by omega]
        rfl
    rw [st, hstep]
    exact ih G (j + 1) b' (by omega) hb'
