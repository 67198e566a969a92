/-! the next literal of the store that is opposed -/
def XT (R : Nat → Int32 → Int32 → Int32 → St → Option (Int32 × St)) (f g l k j : Int32) (v : St) : Option (Int32 × St) :=
  bd (ld v 153 400 g) fun v20 => if v20 < (gI v 100 104) then (b2 (fX12_extendsBy g k j v) fun r23 u22 => if r23 = 0 then (if (gI u22 100 98) = 0 then (if (gI u22 100 99) = 0 then (bd (fX12_restore f u22) fun u27 => R 0 f g l u27) else some (0, u22)) else some (0, u22)) else some (1, u22)) else lt (uI v 100 100 1) fun u28 => lt (uI u28 100 120 ((gI u28 100 120) - 1)) fun u29 => some (0, u29)
def P2 (f : Nat) : Nat → Nat → Bool := fun k i => (k == 170 || k == 171) && i == f
def P3 (f : Nat) : Nat → Nat → Bool := fun k i => ((k == 170 || k == 171) && i == f) || (k == 100 && i == 120)
theorem nl_step {u v : St} {C : Nat} {fi ps : Nat → Nat} {nv c : Nat → Int} {e : Nat → Nat} (hS : SR u v C fi ps nv c e) (G i g gl m : Nat) (hm : m < fi C) (hi : i < 151) (ht : I u 9 9 = i) (h66 : I u 66 i = g) (hg : g < 150) (hgl : I u 57 g = gl) (hg1 : gl < fi C) : fX3_nextLiteral_L0 (G + 1) 0 (zI m) u = if I u 30 gl ≠ I u 30 m ∧ c (ps gl) = c (ps m) then some (1, uI u 67 i (zI m)) else fX3_nextLiteral_L0 G 0 (zI ((m + 1 : Nat) : Int)) u := by
  have st : fX3_nextLiteral_L0 (G + 1) 0 (zI m) u = fX3_nextLiteral_L0_0 (fX3_nextLiteral_L0 G) (zI m) u := rfl
  have hff := SR_fi hS
  have hC := hS.1
  rw [st]
  generalize fX3_nextLiteral_L0 G = R
  unfold fX3_nextLiteral_L0_0 fX4_literals
  rw [gI_z, hS.2.1, ld_z _ _ _ _ (by omega) (by omega), bd_s, b2_s, Int.toNat_natCast, hS.2.2.2.2.2.1 C (Nat.le_refl _), if_neg (by rw [z_le (by omega) (by omega) (by omega) (by omega)]; omega), gI_z, ht, ld_z _ _ _ _ (by omega) (by omega), bd_s, Int.toNat_natCast, h66, ld_z _ _ _ _ (by omega) (by omega), bd_s, Int.toNat_natCast, hgl, opposed_spec hS hg1 hm, b2_s]
  by_cases hc : I u 30 gl ≠ I u 30 m ∧ c (ps gl) = c (ps m)
  · rw [if_pos hc, if_pos hc, if_neg (by decide), gI_z, ht, st_z _ _ _ _ _ (by omega) (by omega), bd_s, Int.toNat_natCast]
  · rw [if_neg hc, if_neg hc, if_pos (show zI 0 = 0 from rfl), lt_e, show (1 : Int32) = zI 1 from rfl, z_add, show (m : Int) + 1 = ((m + 1 : Nat) : Int) by omega]
theorem nl_end {u v : St} {C : Nat} {fi ps : Nat → Nat} {nv c : Nat → Int} {e : Nat → Nat} (hS : SR u v C fi ps nv c e) (G : Nat) : fX3_nextLiteral_L0 (G + 1) 0 (zI (fi C)) u = some (0, u) := by
  have st : fX3_nextLiteral_L0 (G + 1) 0 (zI (fi C)) u = fX3_nextLiteral_L0_0 (fX3_nextLiteral_L0 G) (zI (fi C)) u := rfl
  have hff := SR_fi hS
  have hC := hS.1
  rw [st]
  unfold fX3_nextLiteral_L0_0 fX4_literals
  rw [gI_z, hS.2.1, ld_z _ _ _ _ (by omega) (by omega), bd_s, b2_s, Int.toNat_natCast, hS.2.2.2.2.2.1 C (Nat.le_refl _), if_pos (by rw [z_le (by omega) (by omega) (by omega) (by omega)]; omega)]
theorem rx_end (G f C fr : Nat) (g l : Int32) (v : St) (hf : f < 400) (hC : C ≤ 100) (h10 : I v 100 10 = C) (h170 : I v 170 f = C) (h120 : I v 100 120 = ((fr + 1 : Nat) : Int)) (hfr : fr < 1000) : ∃ v', fX12_tryNext_L0 (G + 1) 0 (zI f) g l v = some (0, v') ∧ I v' 100 120 = fr ∧ Fr (P3 f) v v' := by
  have st : fX12_tryNext_L0 (G + 1) 0 (zI f) g l v = fX12_tryNext_L0_0 (fX12_tryNext_L0 G) (zI f) g l v := rfl
  refine ⟨uI v 100 120 (zI fr), ?_, I_uI1 _ _ _ _ (by omega) (by omega), Fr_up (by simp [P3]) (Fr_rfl _ _)⟩
  rw [st]
  unfold fX12_tryNext_L0_0
  rw [ld_z _ _ _ _ (by omega) (by omega), bd_s, Int.toNat_natCast, h170, gI_z, h10, if_pos (by rw [z_le (by omega) (by omega) (by omega) (by omega)]; omega), lt_e, gI_z, h120, show (1 : Int32) = zI 1 from rfl, z_sub, show ((fr + 1 : Nat) : Int) - 1 = fr by omega]
theorem rx_next (G f C k : Nat) (j : Int) (g l : Int32) (v : St) (hf : f < 400) (hC : C ≤ 100) (hk : k < C) (h10 : I v 100 10 = C) (h170 : I v 170 f = k) (h171 : I v 171 f = j) (h107 : I v 107 k = j) : ∃ v', fX12_tryNext_L0 (G + 1) 0 (zI f) g l v = fX12_tryNext_L0 G 0 (zI f) g l v' ∧ I v' 170 f = ((k + 1 : Nat) : Int) ∧ I v' 171 f = 0 ∧ Fr (P2 f) v v' := by
  have st : fX12_tryNext_L0 (G + 1) 0 (zI f) g l v = fX12_tryNext_L0_0 (fX12_tryNext_L0 G) (zI f) g l v := rfl
  refine ⟨uI (uI v 170 f (zI ((k + 1 : Nat) : Int))) 171 f (zI 0), ?_, ?_, ?_, Fr_up (by simp [P2]) (Fr_up (by simp [P2]) (Fr_rfl _ _))⟩
  · rw [st]
    generalize fX12_tryNext_L0 G = R
    unfold fX12_tryNext_L0_0
    rw [ld_z _ _ _ _ (by omega) (by omega), bd_s, Int.toNat_natCast, h170, gI_z, h10, if_neg (by rw [z_le (by omega) (by omega) (by omega) (by omega)]; omega), bd_s, ld_z _ _ _ _ (by omega) (by omega), bd_s, ld_z _ _ _ _ (by omega) (by omega), bd_s, Int.toNat_natCast, Int.toNat_natCast, h171, h107, if_pos rfl, bd_s, show (1 : Int32) = zI 1 from rfl, z_add, st_z _ _ _ _ _ (by omega) (by omega), bd_s, st_z _ _ _ _ _ (by omega) (by omega), bd_s, Int.toNat_natCast, show (k : Int) + 1 = ((k + 1 : Nat) : Int) by omega]
    rfl
  · rw [I_uI2 _ _ _ _ _ _ (by omega), I_uI1 _ _ _ _ (by omega) (by omega)]
  · rw [I_uI1 _ _ _ _ (by omega) (by omega)]
theorem rx_lit {u v : St} {C : Nat} {fi ps : Nat → Nat} {nv c : Nat → Int} {e : Nat → Nat} (hS : SR u v C fi ps nv c e) (G f k j gl : Nat) (g : Int32) (hf : f < 400) (hk : k < C) (hj : fi k + j < fi (k + 1)) (h170 : I v 170 f = k) (h171 : I v 171 f = j) (hg1 : gl < fi C) : ∃ v', fX12_tryNext_L0 (G + 1) 0 (zI f) g (zI gl) v = (if I u 30 gl ≠ I u 30 (fi k + j) ∧ c (ps gl) = c (ps (fi k + j)) then XT (fX12_tryNext_L0 G) (zI f) g (zI gl) (zI k) (zI j) v' else fX12_tryNext_L0 G 0 (zI f) g (zI gl) v') ∧ I v' 170 f = k ∧ I v' 171 f = ((j + 1 : Nat) : Int) ∧ Fr (P2 f) v v' := by
  have st : fX12_tryNext_L0 (G + 1) 0 (zI f) g (zI gl) v = fX12_tryNext_L0_0 (fX12_tryNext_L0 G) (zI f) g (zI gl) v := rfl
  have hC := hS.1
  have hff := SR_fi hS
  have hm : fi k + j < fi C := by have := hff.1 C (Nat.le_refl _) (k + 1) (by omega); omega
  obtain ⟨k1, k2, k3, k4, k5, k6, k7, k8, k9⟩ := hS.2.2.2.2.2.2.1 k hk
  have hF : Fr (P2 f) v (uI v 171 f (zI ((j + 1 : Nat) : Int))) := Fr_up (by simp [P2]) (Fr_rfl _ _)
  have hP : ∀ k i, k ≠ 170 → k ≠ 171 → P2 f k i = false := fun k i h h' => by simp [P2, h, h']
  have hS' : SR u (uI v 171 f (zI ((j + 1 : Nat) : Int))) C fi ps nv c e := SR_fr (Fr_rfl (fun _ _ => false) u) hF (fun _ _ _ => rfl) (fun k j hk => hP k j (by intro h; subst h; simp [PSr] at hk) (by intro h; subst h; simp [PSr] at hk)) hS
  have hsg := SR_sign hS' hm hg1
  have hpr := SR_pred hS' hm hg1
  refine ⟨uI v 171 f (zI ((j + 1 : Nat) : Int)), ?_, by rw [I_uI2 _ _ _ _ _ _ (by omega)]; exact h170, I_uI1 _ _ _ _ (by omega) (by omega), hF⟩
  rw [st]
  generalize fX12_tryNext_L0 G = R
  unfold fX12_tryNext_L0_0
  rw [ld_z _ _ _ _ (by omega) (by omega), bd_s, Int.toNat_natCast, h170, gI_z, hS.2.2.1, if_neg (by rw [z_le (by omega) (by omega) (by omega) (by omega)]; omega), bd_s, ld_z _ _ _ _ (by omega) (by omega), bd_s, ld_z _ _ _ _ (by omega) (by omega), bd_s, Int.toNat_natCast, Int.toNat_natCast, h171, k2, if_neg (by rw [z_eq (by omega) (by omega) (by omega) (by omega)]; omega), bd_s, show (1 : Int32) = zI 1 from rfl, z_add, st_z _ _ _ _ _ (by omega) (by omega), bd_s, show (j : Int) + 1 = ((j + 1 : Nat) : Int) by omega, Int.toNat_natCast, ld_z _ _ _ _ (by omega) (by omega), bd_s, lt_e, Int.toNat_natCast, Fr_I hF (hP 106 k (by decide) (by decide)), k1, z_add, show (fi k : Int) + j = ((fi k + j : Nat) : Int) by omega, ld_z _ _ _ _ (by omega) (by omega), bd_s, ld_z _ _ _ _ (by omega) (by omega), bd_s, Int.toNat_natCast, Int.toNat_natCast]
  by_cases c1 : I u 30 (fi k + j) = I u 30 gl
  · rw [if_pos (hsg.2 c1), if_neg (fun h => h.1 c1.symm)]
  · rw [if_neg (fun h => c1 (hsg.1 h)), predicate_spec hS' hm, b2_s, predicate_spec hS' hg1, b2_s]
    by_cases c2 : c (ps (fi k + j)) = c (ps gl)
    · rw [if_pos (hpr.2 c2), if_pos ⟨fun h => c1 h.symm, c2.symm⟩]
      rfl
    · rw [if_neg (fun h => c2 (hpr.1 h)), if_neg (fun h => c2 h.2.symm)]
theorem ext_scan {u : St} {C : Nat} {fi ps : Nat → Nat} {nv c : Nat → Int} {e : Nat → Nat} (i f g gl fr : Nat) (gR : Int32) (hi : i < 151) (hf : f < 400) (ht : I u 9 9 = i) (h66 : I u 66 i = g) (hg : g < 150) (hgl : I u 57 g = gl) (hg1 : gl < fi C) (hfr : fr < 1000) (s : Nat) : ∀ (F G : Nat) (v : St) (m k j : Nat), s = (fi C - m) + (C - k) → SR u v C fi ps nv c e → ((k < C ∧ fi k + j = m ∧ m ≤ fi (k + 1)) ∨ (k = C ∧ m = fi C)) → I v 170 f = k → I v 171 f = j → I v 100 120 = ((fr + 1 : Nat) : Int) → s < F →
    (fX3_nextLiteral_L0 F 0 (zI m) u = some (0, u) ∧ ∃ v', fX12_tryNext_L0 (G + s + 1) 0 (zI f) gR (zI gl) v = some (0, v') ∧ I v' 100 120 = fr ∧ Fr (P3 f) v v') ∨
    (∃ (k0 j0 G' : Nat) (v' : St), fX3_nextLiteral_L0 F 0 (zI m) u = some (1, uI u 67 i (zI ((fi k0 + j0 : Nat) : Int))) ∧ k0 < C ∧ fi k0 + j0 < fi (k0 + 1) ∧ m ≤ fi k0 + j0 ∧ Op u ps c gl (fi k0 + j0) ∧ G ≤ G' ∧ fX12_tryNext_L0 (G + s + 1) 0 (zI f) gR (zI gl) v = XT (fX12_tryNext_L0 G') (zI f) gR (zI gl) (zI k0) (zI j0) v' ∧ I v' 170 f = k0 ∧ I v' 171 f = ((j0 + 1 : Nat) : Int) ∧ Fr (P2 f) v v') := by
  induction s with
  | zero =>
    intro F G v m k j hs hS hp h170 h171 h120 hF
    obtain ⟨F', rfl⟩ : ∃ F', F = F' + 1 := ⟨F - 1, by omega⟩
    have hkC : k = C ∧ m = fi C := by
      rcases hp with h | h
      · omega
      · exact h
    obtain ⟨h1, h2⟩ := hkC
    subst h1; subst h2
    exact Or.inl ⟨nl_end hS F', rx_end G f k fr gR (zI gl) v hf hS.1 hS.2.2.1 h170 h120 hfr⟩
  | succ s ih =>
    intro F G v m k j hs hS hp h170 h171 h120 hF
    obtain ⟨F', rfl⟩ : ∃ F', F = F' + 1 := ⟨F - 1, by omega⟩
    have hff := SR_fi hS
    rcases hp with ⟨h1, h2, h3⟩ | ⟨h1, h2⟩
    · have hP : ∀ k i, k ≠ 170 → k ≠ 171 → P2 f k i = false := fun k i h h' => by simp [P2, h, h']
      by_cases hend : m = fi (k + 1)
      · -- the clause is through
        have h107 : I v 107 k = j := by have := (hS.2.2.2.2.2.2.1 k h1).2.1; omega
        obtain ⟨v1, r1, r2, r3, r4⟩ := rx_next (G + s + 1) f C k j gR (zI gl) v hf hS.1 h1 hS.2.2.1 h170 h171 h107
        have hS1 : SR u v1 C fi ps nv c e := SR_fr (Fr_rfl (fun _ _ => false) u) r4 (fun _ _ _ => rfl) (fun k j hk => hP k j (by intro h; subst h; simp [PSr] at hk) (by intro h; subst h; simp [PSr] at hk)) hS
        have hp1 : (k + 1 < C ∧ fi (k + 1) + 0 = m ∧ m ≤ fi (k + 1 + 1)) ∨ (k + 1 = C ∧ m = fi C) := by
          by_cases hk1 : k + 1 < C
          · have := (hS.2.2.2.2.2.2.1 (k + 1) hk1).2.2.1; exact Or.inl ⟨hk1, by omega, by omega⟩
          · have : k + 1 = C := by omega
            exact Or.inr ⟨this, by rw [← this]; exact hend⟩
        have := ih (F' + 1) G v1 m (k + 1) 0 (by omega) hS1 hp1 r2 r3 (by rw [Fr_I r4 (hP _ _ (by decide) (by decide))]; exact h120) (by omega)
        rcases this with ⟨a1, v', a2, a3, a4⟩ | ⟨k0, j0, G', v', a1, a2, a3, a4, a5, a6, a7, a8, a9, a10⟩
        · refine Or.inl ⟨a1, v', r1.trans a2, a3, Fr_tr (Fr_mono (fun k i hk => ?_) r4) a4⟩
          unfold P3 at hk; unfold P2; simp only [Bool.or_eq_false_iff] at hk; exact hk.1
        · exact Or.inr ⟨k0, j0, G', v', a1, a2, a3, a4, a5, a6, r1.trans a7, a8, a9, Fr_tr r4 a10⟩
      · have hm : m < fi C := by have := hff.1 C (Nat.le_refl _) (k + 1) (by omega); omega
        have hst := nl_step hS F' i g gl m hm hi ht h66 hg hgl hg1
        subst h2
        obtain ⟨v1, r1, r2, r3, r4⟩ := rx_lit hS (G + s + 1) f k j gl gR hf h1 (by omega) h170 h171 hg1
        by_cases hop : I u 30 gl ≠ I u 30 (fi k + j) ∧ c (ps gl) = c (ps (fi k + j))
        · rw [if_pos hop] at hst r1
          exact Or.inr ⟨k, j, G + s + 1, v1, hst, h1, by omega, Nat.le_refl _, hop, by omega, r1, r2, r3, r4⟩
        · rw [if_neg hop] at hst r1
          have hS1 : SR u v1 C fi ps nv c e := SR_fr (Fr_rfl (fun _ _ => false) u) r4 (fun _ _ _ => rfl) (fun k j hk => hP k j (by intro h; subst h; simp [PSr] at hk) (by intro h; subst h; simp [PSr] at hk)) hS
          have := ih F' G v1 (fi k + j + 1) k (j + 1) (by omega) hS1 (Or.inl ⟨h1, by omega, by omega⟩) r2 r3 (by rw [Fr_I r4 (hP _ _ (by decide) (by decide))]; exact h120) (by omega)
          rcases this with ⟨a1, v', a2, a3, a4⟩ | ⟨k0, j0, G', v', a1, a2, a3, a4, a5, a6, a7, a8, a9, a10⟩
          · refine Or.inl ⟨hst.trans a1, v', r1.trans a2, a3, Fr_tr (Fr_mono (fun k i hk => ?_) r4) a4⟩
            unfold P3 at hk; unfold P2; simp only [Bool.or_eq_false_iff] at hk; exact hk.1
          · exact Or.inr ⟨k0, j0, G', v', hst.trans a1, a2, a3, by omega, a5, a6, r1.trans a7, a8, a9, Fr_tr r4 a10⟩
    · omega
