/-! a clause comes: the contract -/
def PAd : Nat → Nat → Bool := fun k i => k == 57 || k == 58 || k == 59 || k == 60 || k == 61 || (k == 7 && (i == 6 || i == 7))
theorem add_open (u : St) (k a : Nat) (gI cn bh low : Int) (hk : k < 100) (h18 : I u 18 k = a) (hg : (gI = -1 ∧ bh = -1 ∧ low = 0) ∨ ∃ g : Nat, gI = g ∧ g < 150 ∧ I u 61 g = bh ∧ I u 60 g = low - 1 ∧ 0 ≤ low ∧ low < 1000) : fX5_add (zI k) (zI gI) (zI cn) u = fX5_add_L1 FU 0 (zI k) (zI gI) (zI cn) (zI bh) (zI low) (zI a) (zI a) u := by
  unfold fX5_add fX5_add_j14 fX5_add_j32
  generalize FU = R
  rcases hg with ⟨h1, h2, h3⟩ | ⟨g, h1, h2, h3, h4, h5, h6⟩
  · subst h1; subst h2; subst h3
    rw [if_neg (by decide), if_neg (by decide), ld_z _ _ _ _ (by omega) (by omega), bd_s, Int.toNat_natCast, h18]
    rfl
  · subst h1
    have hge : (0 : Int32) ≤ zI g := by rw [z_zero, z_le (by decide) (by decide) (by omega) (by omega)]; omega
    rw [if_pos hge, ld_z _ _ _ _ (by omega) (by omega), bd_s, if_pos hge, ld_z _ _ _ _ (by omega) (by omega), bd_s, ld_z _ _ _ _ (by omega) (by omega), bd_s, Int.toNat_natCast, Int.toNat_natCast, h18, h3, h4, show (1 : Int32) = zI 1 from rfl, z_add, show low - 1 + 1 = low by omega]
theorem rk_lt {n : Nat} {but : Int} {i : Nat} (h : i < n) (hne : (i : Int) ≠ but) (hb : but < n) : rk n but i < pc n but 0 := by
  unfold rk pc
  by_cases h0 : (((0 : Nat) : Int)) ≤ but
  · rw [if_pos h0]
    by_cases h1 : (i : Int) < but
    · rw [if_pos h1]; omega
    · rw [if_neg h1]; omega
  · rw [if_neg h0, if_neg (by omega)]; omega
theorem add_comes {u v : St} {φ : Nat → Nat} {L J : Nat} {V : Int} {C : Nat} {fi ps : Nat → Nat} {nv c : Nat → Int} {e : Nat → Nat} {Gd : Nat → Prop} (hS : SR u v C fi ps nv c e) (hTB : TB u v φ L J V C fi nv Gd) (k r : Nat) (gI gR cn but rest : Int) (hk : k < C) (hJL : J ≤ L) (hL : L + (fi (k + 1) - fi k) ≤ 150) (hV0 : 0 ≤ V) (hV1 : V ≤ 200) (h6 : I u 7 6 = L) (h7 : I u 7 7 = V) (h89 : I v 100 89 = J) (hg : (gI = -1 ∧ gR = -1 ∧ rest = -1 ∧ r = 0) ∨ ∃ g : Nat, gI = g ∧ gR = φ g ∧ Gd g ∧ rest = I v 167 (φ g) ∧ CL u (fun t => t < L) r (I u 61 g)) (hcn : (cn = -1 ∧ but = -1) ∨ (cn = but + fi k ∧ 0 ≤ but ∧ but < ((fi (k + 1) - fi k : Nat) : Int))) :
    ∃ x' y' u' v' φ' Gd' q J', fX5_add (zI k) (zI gI) (zI cn) u = some (zI x', u') ∧ fX12_comes (zI k) (zI but) (zI gR) (zI V) (zI rest) v = some (zI y', v') ∧ TB u' v' φ' (L + (fi (k + 1) - fi k)) J' (V + nv k) C fi nv Gd' ∧ J ≤ J' ∧ J' ≤ L + (fi (k + 1) - fi k) ∧ (∀ t, t < L → φ' t = φ t) ∧ (∀ t, Gd t → Gd' t) ∧ NR φ' Gd' x' y' ∧ CL u' (fun t => t < L + (fi (k + 1) - fi k)) q x' ∧ q ≤ r + (fi (k + 1) - fi k) ∧ I u' 7 6 = ((L + (fi (k + 1) - fi k) : Nat) : Int) ∧ I u' 7 7 = V + nv k ∧ I v' 100 89 = (J' : Int) ∧ (∀ kk i, (kk = 57 ∨ kk = 58 ∨ kk = 59 ∨ kk = 60 ∨ kk = 61) → i < L → I u' kk i = I u kk i) ∧ (∀ kk i, (kk = 150 ∨ kk = 151 ∨ kk = 152 ∨ kk = 153 ∨ kk = 167) → i < J → I v' kk i = I v kk i) ∧ Fr PAd u u' ∧ Fr PCm v v' := by
  have hC := hS.1
  have h18 := hS.2.2.2.2.2.1 k (by omega)
  have h18' := hS.2.2.2.2.2.1 (k + 1) (by omega)
  obtain ⟨k1, k2, k3, k4, k5, k6, k7, k8, k9⟩ := hS.2.2.2.2.2.2.1 k hk
  have hf := SR_fi hS
  have hf1 := hf.1 C (Nat.le_refl _) (k + 1) (by omega)
  generalize hn : fi (k + 1) - fi k = n at *
  have hb : fi (k + 1) = fi k + n := by omega
  rw [hb] at h18'
  obtain ⟨bh, hbh⟩ : ∃ bh, bh = (if gI = -1 then -1 else I u 61 gI.toNat) := ⟨_, rfl⟩
  obtain ⟨low, hlow⟩ : ∃ low, low = (if gI = -1 then 0 else I u 60 gI.toNat + 1) := ⟨_, rfl⟩
  have hg1 : (gI = -1 ∧ bh = -1 ∧ low = 0) ∨ ∃ g : Nat, gI = g ∧ g < 150 ∧ I u 61 g = bh ∧ I u 60 g = low - 1 ∧ 0 ≤ low ∧ low < 1000 := by
    rcases hg with ⟨h1, _⟩ | ⟨g, h1, h2, h3, h4⟩
    · rw [if_pos h1] at hbh hlow; exact Or.inl ⟨h1, hbh, hlow⟩
    · rw [if_neg (by omega), h1, Int.toNat_natCast] at hbh hlow
      obtain ⟨t1, t2, t3, t4, t5, t6, t7, t8⟩ := hTB g h3
      exact Or.inr ⟨g, h1, by omega, hbh.symm, by omega, by omega, by omega⟩
  have hgr : -2147483648 ≤ gI ∧ gI < 2147483648 := by
    rcases hg1 with ⟨h1, _⟩ | ⟨g, h1, h2, _⟩ <;> omega
  have hlr : 0 ≤ low ∧ low ≤ L := by
    rcases hg with ⟨h1, _⟩ | ⟨g, h1, h2, h3, h4⟩
    · rw [if_pos h1] at hlow; omega
    · rw [if_neg (by omega), h1, Int.toNat_natCast] at hlow
      obtain ⟨t1, t2, t3, t4, t5, t6, t7, t8⟩ := hTB g h3
      omega
  have hop := add_open u k (fi k) gI cn bh low (by omega) h18 hg1
  obtain ⟨U, a1, a2, a3, a4, a5, a6⟩ := add1_loop k (fi k) n L gI low V (zI cn) (zI bh) (by omega) (by omega) hL hgr.1 hgr.2 (by omega) (by omega) n FU 0 u (by omega) (by unfold FU; omega) h18' h6 h7
  have hop2 : fX5_add (zI k) (zI gI) (zI cn) u = fX5_add_L0 FU 0 (zI k) (zI cn) (zI (fi k)) (zI bh) (zI (((fi k + n : Nat) : Int) - 1)) U := by
    rw [hop]; exact a1
  have hNR0 : NR (fN φ L J n but) (GN Gd L n but) bh rest := by
    rcases hg with ⟨h1, _, h2, _⟩ | ⟨g, h1, h2, h3, h4, h5⟩
    · rw [if_pos h1] at hbh; exact Or.inl ⟨hbh, h2⟩
    · rw [if_neg (by omega), h1, Int.toNat_natCast] at hbh
      obtain ⟨t1, t2, t3, t4, t5, t6, t7, t8⟩ := hTB g h3
      rcases t8 with ⟨t9, t10⟩ | ⟨m, m1, m2, m3⟩
      · exact Or.inl ⟨by omega, by omega⟩
      · refine Or.inr ⟨m, by omega, ?_, Or.inl m3⟩
        have := (hTB m m3).1
        unfold fN; rw [if_pos this]; omega
  have hCL0 : CL U (fun t => t < L ∨ (L + n ≤ t ∧ t < L + n)) r bh := by
    rcases hg with ⟨h1, _, _, h2⟩ | ⟨g, h1, h2, h3, h4, h5⟩
    · rw [if_pos h1] at hbh; subst h2; exact hbh
    · rw [if_neg (by omega), h1, Int.toNat_natCast] at hbh
      rw [hbh]
      exact CL_eq r _ (fun t _ => by rw [Fr_I a6 rfl]) (fun t ht => Or.inl ht) h5
  have hab : (gR = -1 ∧ low = 0) ∨ (∃ p : Nat, gR = p ∧ p < J ∧ I v 153 p = low - 1 ∧ 0 ≤ low ∧ low < 1000) := by
    rcases hg with ⟨h1, h2, _⟩ | ⟨g, h1, h2, h3, h4⟩
    · rw [if_pos h1] at hlow; exact Or.inl ⟨h2, hlow⟩
    · rw [if_neg (by omega), h1, Int.toNat_natCast] at hlow
      obtain ⟨t1, t2, t3, t4, t5, t6, t7, t8⟩ := hTB g h3
      exact Or.inr ⟨φ g, h2, t2, by omega, by omega, by omega⟩
  have hpcn : pc n but n = 0 := by unfold pc; omega
  obtain ⟨x', y', u', v', q, w1, w2, w3, w4, w5, w6, w7, w8, w9, w10, w11, w12, w13⟩ := ac_loop (φ := φ) (Gd := Gd) k (fi k) n L J cn but gR V low (nv k) (by omega) (by omega) hL (by omega) (fun t ht => ⟨(hTB t ht).1, (hTB t ht).2.1⟩) hcn hV0 (by omega) k7 k8 n (Nat.le_refl _) FU FU U v bh rest r (by unfold FU; omega) (by unfold FU; omega) (by rw [Fr_I a6 rfl]; exact h18') (by rw [Fr_I a6 rfl]; exact h6) (by rw [Fr_I a6 rfl]; exact h7) (by rw [Fr_I a6 rfl]; exact k5) k1 (by rw [hpcn]; exact h89) hab hNR0 hCL0
  have hpc0 : pc n but 0 ≤ n := by unfold pc; omega
  have hut : ∀ kk i, (kk = 57 ∨ kk = 58 ∨ kk = 59 ∨ kk = 60 ∨ kk = 61) → i < L → I u' kk i = I u kk i := by
    intro kk i hkk hi
    rcases hkk with h | h | h | h | h <;> subst h
    · rw [Fr_I w12 rfl, a2, if_neg (by omega)]
    · rw [Fr_I w12 rfl, a3, if_neg (by omega)]
    · rw [Fr_I w12 rfl, a4, if_neg (by omega)]
    · rw [Fr_I w12 rfl, a5, if_neg (by omega)]
    · rw [w9 i (Or.inl hi), Fr_I a6 rfl]
  have hvt : ∀ kk i, (kk = 150 ∨ kk = 151 ∨ kk = 152 ∨ kk = 153 ∨ kk = 167) → i < J → I v' kk i = I v kk i := by
    intro kk i hkk hi
    have := w10 i (by omega)
    rcases hkk with h | h | h | h | h <;> subst h
    · exact this.1
    · exact this.2.1
    · exact this.2.2.1
    · exact this.2.2.2.1
    · exact this.2.2.2.2
  have hφ : ∀ t, t < L → fN φ L J n but t = φ t := fun t ht => by unfold fN; rw [if_pos ht]
  refine ⟨x', y', u', v', fN φ L J n but, GN Gd L n but, q, J + pc n but 0, hop2.trans w1, ?_, ?_, by omega, by omega, hφ, fun t ht => Or.inl ht, w3, w4, w5, w6, w7, w8, hut, hvt, Fr_tr (Fr_mono (fun kk i hkk => ?_) a6) (Fr_mono (fun kk i hkk => ?_) w12), w13⟩
  · unfold fX12_comes
    rw [ld_z _ _ _ _ (by omega) (by omega), bd_s, Int.toNat_natCast, k2, lt_e, show (1 : Int32) = zI 1 from rfl, z_sub, show ((fi (k + 1) : Int) - fi k - 1) = (n : Int) - 1 by omega]
    exact w2
  · intro t ht
    rcases ht with ht | ⟨ht1, ht2, ht3⟩
    · have := TB_eq (u' := u') (v' := v') (φ' := fN φ L J n but) (V' := V + nv k) (L' := L + n) (J' := J + pc n but 0) hut hvt hφ (by omega) (by omega) (by omega) hTB t ht
      obtain ⟨t1, t2, t3, t4, t5, t6, t7, t8⟩ := this
      refine ⟨t1, t2, t3, t4, t5, t6, ?_, ?_⟩
      · rcases t7 with h | ⟨p, p1, p2, p3, p4⟩
        · exact Or.inl h
        · exact Or.inr ⟨p, p1, p2, p3, Or.inl p4⟩
      · rcases t8 with h | ⟨p, p1, p2, p3⟩
        · exact Or.inl h
        · exact Or.inr ⟨p, p1, p2, Or.inl p3⟩
    · obtain ⟨i, rfl⟩ : ∃ i, t = L + i := ⟨t - L, by omega⟩
      have hw := w11 i (by omega) (by omega)
      have hfi : fN φ L J n but (L + i) = J + rk n but i := by unfold fN; rw [if_neg (by omega), show L + i - L = i by omega]
      have hrk : rk n but i < pc n but 0 := rk_lt (by omega) (by omega) (by clear hg hg1 hab hw; omega)
      have c57 : I u' 57 (L + i) = ((fi k + i : Nat) : Int) := by rw [Fr_I w12 rfl, a2, if_pos (by omega)]; omega
      have c58 : I u' 58 (L + i) = V := by rw [Fr_I w12 rfl, a3, if_pos (by omega)]
      have c59 : I u' 59 (L + i) = gI := by rw [Fr_I w12 rfl, a4, if_pos (by omega)]
      have c60 : I u' 60 (L + i) = low := by rw [Fr_I w12 rfl, a5, if_pos (by omega)]
      rw [hfi, c57, c58, c59, c60, hw.2.1, hw.2.2.1, hw.2.2.2.1, hw.2.2.2.2]
      refine ⟨by omega, by omega, ⟨k, fi k + i, hk, by omega, by omega, rfl, rfl, hV0, rfl, Int.le_refl _⟩, rfl, hlr.1, by omega, ?_, hw.1⟩
      rcases hg with ⟨h1, h2, _⟩ | ⟨g, h1, h2, h3, h4⟩
      · exact Or.inl ⟨h1, h2⟩
      · have hgL := (hTB g h3).1
        exact Or.inr ⟨g, by omega, h1, by rw [hφ g hgL]; exact h2, Or.inl h3⟩
  · unfold PAd at hkk; simp only [Bool.or_eq_false_iff] at hkk ⊢; exact hkk.1.1
  · unfold PAd at hkk; unfold PA0; simp only [Bool.or_eq_false_iff] at hkk ⊢; exact ⟨hkk.1.2, hkk.2⟩
