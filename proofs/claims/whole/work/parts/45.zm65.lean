/-! writing: a literal, both sides -/
def Bg (WK : St → List (Nat × Int) → Prop) (p : Nat) (b : Int) (u : St) : Prop := ∃ u', fX9_begin 2 (zI p) (zI b) (zI 1) u = some u' ∧ WK u' [(p, b)] ∧ Fr (PW 2) u u'
theorem DS_wr {P Q : Nat → Nat → Bool} {u u' v v' : St} {k : Nat} (hu : Fr P u u') (hv : Fr Q v v') (h1 : ∀ i, (i = 2 ∨ i = 4 ∨ i = 5 ∨ i = 6) → P 10 i = false) (h2 : ∀ i, P 71 i = false) (h3 : ∀ i, P 72 i = false) (h4 : Q 100 78 = false) (h5 : ∀ i, Q 145 i = false) (h : DS u v k) : DS u' v' k := DS_fr hu hv h1 h2 h3 h4 h5 h
/-- behind the sign -/
theorem lit_j {c : Nat → Int} {e : Nat → Nat} {N : Nat} {D : Nat × Int → Nat × Int} {bm : Int → Int} {WK : St → List (Nat × Int) → Prop} {WAt : St → Nat × Int → List (Nat × Int) → Prop} {RS : St → St → Prop} {Inv : St → St → Nat → List (Nat × Int) → Prop} (hT : TOK c e N) (hM : LMode c e N D bm WK WAt RS Inv) {u v : St} {k l p : Nat} {b : Int} (hl : l < 1200) (hp : p < N) (hN : N ≤ 20000) (hb1 : -2147483648 ≤ bm b) (hb2 : bm b < 2147483648) (h29 : I u 29 l = p) (h110 : I v 110 l = p) (hB : Bg WK p b (uI u 10 8 0)) (hR : RS u v) (hI : Inv u v k [(p, b)]) (hD : DS u v k) :
    ∃ u' v' k', fX1_literal_j18 (zI l) (zI b) u = some u' ∧ fX12_literalOut_j15 (zI l) (zI (bm b)) v = some v' ∧ DS u' v' k' ∧ k ≤ k' ∧ (k' = k ∨ k' ≤ 4020) ∧ Wr u u' v v' Pl Qlit ∧ RS u' v' ∧ ((k' ≤ 4000 ∧ Inv u' v' k' []) ∨ (4000 < k' ∧ (∃ K l', Inv u' v' K l') ∧ (4000 < k ∨ ∃ u1 v1 K x l, Inv u1 v1 K (x :: l) ∧ k' ≤ K + 14))) := by
  have hdr := hD.2.1
  have hk5 := DS_lt hD
  obtain ⟨u27, b1, b2', b3⟩ := hB
  have Fa : Fr (P1 10 8) u (uI u 10 8 0) := Fr_up (by simp [P1]) (Fr_rfl _ _)
  have Fb : Fr (P1 100 81) v (uI v 100 81 0) := Fr_up (by simp [P1]) (Fr_rfl _ _)
  have c81 : I (uI v 100 81 0) 100 81 = (([] : List (Int × Int)).length : Nat) := I_uI1 (x := 0) _ _ _ (by decide) (by decide)
  have c8 : I u27 10 8 = 0 := by rw [Fr_I b3 rfl]; exact I_uI1 (x := 0) _ _ _ (by decide) (by decide)
  obtain ⟨v42, r1, r2, r3, r4⟩ := later_spec (uI v 100 81 0) [] p (bm b) (by decide) c81 trivial (by omega) (by omega) hb1 hb2
  have hcl : fX1_literal_j18 (zI l) (zI b) u = fX1_literal_L0 FU 0 (zI (0 : Nat)) 0 u27 := by
    unfold fX1_literal_j18
    rw [lt_e, ld_z _ _ _ _ (by omega) (by omega), bd_s, Int.toNat_natCast, Fr_I Fa (by simp [P1]), h29, show (1 : Int32) = zI 1 from rfl, b1, bd_s, lt_e]
    rfl
  have hrf : fX12_literalOut_j15 (zI l) (zI (bm b)) v = fX12_termOut_L0 FU 0 0 0 0 0 0 0 v42 := by
    unfold fX12_literalOut_j15 fX12_termOut
    rw [ld_z _ _ _ _ (by omega) (by omega), bd_s, Int.toNat_natCast, h110, lt_e, r1, bd_s]
    cases fX12_termOut_L0 FU 0 0 0 0 0 0 0 v42 <;> rfl
  have W1 : Wr u u27 v v42 Pl Qlit := Wr_tr (Wr_cls (Fr_tr (Fr_up2 (fun k i hk => by simp [P1] at hk; simp [Pl, hk.1, hk.2]) Fa) (Fr_up2 (fun k i hk => by simp [Pl, PW] at hk ⊢; omega) b3)) rfl rfl) (Wr_ref (Fr_tr (Fr_up2 (fun k i hk => by simp [P1] at hk; simp [Qlit, Ql, hk.1, hk.2]) Fb) (Fr_up2 (fun k i hk => by simp [Qlit, hk]) r4)))
  have W2 : Wr u u27 v v42 Pi Qi := Wr_tr (Wr_cls (Fr_tr (Fr_up2 (fun k i hk => by simp [P1] at hk; simp [Pi, hk.1, hk.2]) Fa) (Fr_up2 (fun k i hk => by simp [Pi, PW] at hk ⊢; omega) b3)) rfl rfl) (Wr_ref (Fr_tr (Fr_up2 (fun k i hk => by simp [P1] at hk; simp [Qi, Ql, hk.1, hk.2]) Fb) (Fr_up2 (fun k i hk => by simp [Qi, hk]) r4)))
  have hD2 : DS u27 v42 k := DS_fr (P := Pi) (Q := Qi) (Fr_tr (Fr_up2 (fun k i hk => by simp [P1] at hk; simp [Pi, hk.1, hk.2]) Fa) (Fr_up2 (fun k i hk => by simp [Pi, PW] at hk ⊢; omega) b3)) (Fr_tr (Fr_up2 (fun k i hk => by simp [P1] at hk; simp [Qi, Ql, hk.1, hk.2]) Fb) (Fr_up2 (fun k i hk => by simp [Qi, hk]) r4)) (fun i hi => by rcases hi with h | h | h | h <;> subst h <;> rfl) (fun _ => rfl) (fun _ => rfl) rfl (fun _ => rfl) hD
  have hM2 := hM
  obtain ⟨m1, m2, m3, m4, m5, m6, m7, m8, m9, m10, m11, m12⟩ := hM
  have hR2 := m2 _ _ _ _ W1 hdr hR
  have hI2 := m12 _ _ _ _ _ _ W2 hdr hI
  rw [hcl, hrf]
  by_cases hk : k ≤ 4000
  · obtain ⟨u', v', k', y1, y2, y3, y4, y5, y6, y7, y8⟩ := lit_loop hT hM2 (4001 - k) FU FU k 0 u27 v42 [] [(p, b)] (by omega) hk (by omega) (by unfold FU; omega) (by unfold FU; omega) b2' hR2 hI2 hD2 (by rw [c8]; rfl) trivial (by simp) (by simp) (Or.inr ⟨(p, b), [], rfl, rfl, r2, by rw [r3]; rfl⟩)
    refine ⟨u', v', k', y1, y2, y3, y4, Or.inr y5, Wr_tr W1 y6, y7, ?_⟩
    rcases y8 with y8 | ⟨y8, y0, y9⟩
    · exact Or.inl y8
    · exact Or.inr ⟨y8, y0, Or.inr y9⟩
  · exact ⟨u27, v42, k, lit_over 999999999 0 hD2 (by omega) (by omega), term_over 999999999 hD2.2.2.2.1 (by omega) hk5, hD2, Nat.le_refl _, Or.inl rfl, W1, hR2, Or.inr ⟨by omega, ⟨_, _, hI2⟩, Or.inl (by omega)⟩⟩
theorem lit_both {c : Nat → Int} {e : Nat → Nat} {N : Nat} {D : Nat × Int → Nat × Int} {bm : Int → Int} {WK : St → List (Nat × Int) → Prop} {WAt : St → Nat × Int → List (Nat × Int) → Prop} {RS : St → St → Prop} {Inv : St → St → Nat → List (Nat × Int) → Prop} (hT : TOK c e N) (hM : LMode c e N D bm WK WAt RS Inv) {u v : St} {k l p : Nat} {b : Int} (hl : l < 1200) (hp : p < N) (hN : N ≤ 20000) (hb1 : -2147483648 ≤ bm b) (hb2 : bm b < 2147483648) (h29 : I u 29 l = p) (h110 : I v 110 l = p) (h30 : I u 30 l = I v 109 l) (hB : ∀ u', (∀ i, I u' 32 i = I u 32 i) → (∀ i, I u' 62 i = I u 62 i) → (∀ i, I u' 63 i = I u 63 i) → Bg WK p b u') (hR : RS u v) (hI : ∀ K, K ≤ k + 1 → Inv u v K [(p, b)]) (hD : DS u v k) (hk : k < 99000) :
    ∃ u' v' k', fX1_literal (zI l) (zI b) u = some u' ∧ fX12_literalOut (zI l) (zI (bm b)) v = some v' ∧ DS u' v' k' ∧ k ≤ k' ∧ (k' ≤ k + 1 ∨ k' ≤ 4020) ∧ Wr u u' v v' Pl Qlit ∧ RS u' v' ∧ ((k' ≤ 4000 ∧ Inv u' v' k' []) ∨ (4000 < k' ∧ (∃ K l', Inv u' v' K l') ∧ (4000 < k + 1 ∨ ∃ u1 v1 K x l, Inv u1 v1 K (x :: l) ∧ k' ≤ K + 14))) := by
  have hM2 := hM
  have hl2 := I_lo v 109 l
  have hh2 := I_hi v 109 l
  have hdr := hD.2.1
  unfold fX1_literal fX12_literalOut
  rw [ld_z _ _ _ _ (by omega) (by omega), bd_s, ld_z _ _ _ _ (by omega) (by omega), bd_s, Int.toNat_natCast, h30]
  by_cases h0 : I v 109 l = 0
  · rw [if_pos (by rw [h0]; rfl), if_pos (by rw [h0]; rfl)]
    obtain ⟨u', v', k', y1, y2, y3, y4, y5, y6, y7, y8⟩ := lit_j hT hM hl hp hN hb1 hb2 h29 h110 (hB _ (fun i => I_uI3 _ _ _ _ _ _ (by decide)) (fun i => I_uI3 _ _ _ _ _ _ (by decide)) (fun i => I_uI3 _ _ _ _ _ _ (by decide))) hR (hI k (by omega)) hD
    refine ⟨u', v', k', y1, y2, y3, y4, by omega, y6, y7, ?_⟩
    rcases y8 with y8 | ⟨y8, y0, y9 | y9⟩
    · exact Or.inl y8
    · exact Or.inr ⟨y8, y0, Or.inl (by omega)⟩
    · exact Or.inr ⟨y8, y0, Or.inr y9⟩
  · have hne : ¬ (zI (I v 109 l) = 0) := by rw [z_zero, z_eq (by omega) (by omega) (by decide) (by decide)]; exact h0
    rw [if_neg hne, if_neg hne]
    obtain ⟨u1, v1, r1, r2, r3, r4⟩ := put_w 126 hD (by omega) NoP NoP
    obtain ⟨m1, m2, m3, m4, m5, m6, m7, m8, m9, m10, m11, m12⟩ := hM
    have W1 : Wr u u1 v v1 Pl Qlit := Wr_mono (fun k i hk => by simp [NoP] at hk) (fun k i hk => by simp [NoP] at hk) r4
    have W2 : Wr u u1 v v1 Pi Qi := Wr_mono (fun k i hk => by simp [NoP] at hk) (fun k i hk => by simp [NoP] at hk) r4
    have q : ∀ a i, a ≠ 71 → a ≠ 72 → a ≠ 10 → I u1 a i = I u a i := fun a i h1 h2 h3 => Wr_I r4 hdr rfl h1 h2 (Or.inl h3)
    rw [r1, bd_s, r2, bd_s]
    obtain ⟨u', v', k', y1, y2, y3, y4, y5, y6, y7, y8⟩ := lit_j hT hM2 hl hp hN hb1 hb2 (by rw [q 29 l (by decide) (by decide) (by decide)]; exact h29) (by rw [Wr_V r4 rfl rfl]; exact h110) (hB _ (fun i => by rw [I_uI3 _ _ _ _ _ _ (by decide)]; exact q 32 i (by decide) (by decide) (by decide)) (fun i => by rw [I_uI3 _ _ _ _ _ _ (by decide)]; exact q 62 i (by decide) (by decide) (by decide)) (fun i => by rw [I_uI3 _ _ _ _ _ _ (by decide)]; exact q 63 i (by decide) (by decide) (by decide))) (m2 _ _ _ _ W1 hdr hR) (m12 _ _ _ _ _ _ W2 hdr (hI (k + 1) (by omega))) r3
    refine ⟨u', v', k', y1, y2, y3, by omega, by omega, Wr_tr W1 y6, y7, ?_⟩
    rcases y8 with y8 | ⟨y8, y0, y9 | y9⟩
    · exact Or.inl y8
    · exact Or.inr ⟨y8, y0, Or.inl (by omega)⟩
    · exact Or.inr ⟨y8, y0, Or.inr y9⟩
