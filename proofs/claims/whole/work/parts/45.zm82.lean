/-! reading: the end of a name's arguments -/
theorem PQ_sy {P Q : Nat → Nat → Bool} {u u' v v' : St} {n t S R NC NR o m : Nat} {B : Nat → Nat} {F : List Nat} (f1 : Fr P u u') (f2 : Fr Q v v') (hP : ∀ k i, (k = 1 ∨ k = 14 ∨ (k = 3 ∧ (i = 6 ∨ i = 10 ∨ i = 12)) ∨ k = 38 ∨ k = 39 ∨ k = 40 ∨ k = 41 ∨ k = 4) → P k i = false) (hQ : ∀ k i, ((k = 100 ∧ (i = 2 ∨ i = 21 ∨ i = 23 ∨ i = 24 ∨ i = 25 ∨ i = 26 ∨ i = 27 ∨ i = 33 ∨ i = 35 ∨ i = 37 ∨ i = 43)) ∨ k = 101 ∨ k = 119) → Q k i = false) (hS : SYT u' v' S) (h : PQ u v n t S R NC NR o m B F) : PQ u' v' n t S R NC NR o m B F := by
  obtain ⟨p1, p2, p3, p4, p5, p6, p7, p8, p9, p10, p11, p12, p13, p14, p15, p16, p17, p18⟩ := h
  have j38 : ∀ x, J u' 38 x = J u 38 x := fun x => Fr_J f1 (hP 38 x (by simp))
  have j119 : ∀ x, J v' 119 x = J v 119 x := fun x => Fr_J f2 (hQ 119 x (by simp))
  exact ⟨TXs_fr f1 f2 (hP 1 1 (by simp)) (fun i => hP 14 i (by simp)) (hQ 100 2 (by simp)) (fun i => hQ 101 i (by simp)) p1, TKS_fr f1 f2 (fun i => hP 1 i (by simp)) (fun i => hP 14 i (by simp)) (fun i hi => hQ 100 i (by omega)) p2, by rw [Fr_I f1 (hP 4 4 (by simp))]; exact p3, by rw [Fr_I f2 (hQ 100 21 (by simp))]; exact p4, by rw [Fr_I f1 (hP 4 3 (by simp))]; exact p5, by rw [Fr_I f2 (hQ 100 37 (by simp))]; exact p6, p7, hS, by rw [Fr_I f1 (hP 3 6 (by simp))]; exact p9, by rw [Fr_I f2 (hQ 100 33 (by simp))]; exact p10, ⟨by rw [Fr_I f1 (hP 3 10 (by simp))]; exact p11.1, fun x hx => by rw [j38]; exact p11.2.1 x hx, fun x x' hx hx' hh => p11.2.2 x x' hx hx' (by rw [j38, j38] at hh; exact hh)⟩, ⟨by rw [Fr_I f2 (hQ 100 35 (by simp))]; exact p12.1, fun x hx => by rw [j119]; exact p12.2.1 x hx, fun x x' hx hx' hh => p12.2.2 x x' hx hx' (by rw [j119, j119] at hh; exact hh)⟩, p13, p14, p15, FB_fr f1 (fun i => hP 39 i (by simp)) (fun i => hP 40 i (by simp)) (fun i => hP 41 i (by simp)) (hP 3 12 (by simp)) p16, by rw [Fr_I f2 (hQ 100 43 (by simp))]; exact p17, fun y hy => by obtain ⟨x, x1, x2⟩ := p18 y hy; exact ⟨x, x1, by rw [j38, j119]; exact x2⟩⟩
theorem PQ_n {u v : St} {n t S R NC NR o m : Nat} {B : Nat → Nat} {F : List Nat} (h : PQ u v n t S R NC NR o m B F) : n ≤ 1500 ∧ t ≤ n ∧ R ≤ t := ⟨h.1.1, TKS_le h.2.1, h.2.2.2.2.2.2.2.2.2.2.2.2.1⟩
theorem patch_z (grp : Nat → Int32 → St → Option (Int32 × St)) (u : St) (R0 a : Nat) (c : Int) (hR : R0 < 1501) (hc : I u 37 R0 = c) (h1 : -2147483648 ≤ c + a) (h2 : c + a < 2147483648) : fX2_application_j219 grp (zI R0) (zI a) u = some (uI u 37 R0 (zI (c + a))) := by
  unfold fX2_application_j219
  rw [ld_z _ _ _ _ (by omega) (by omega), bd_s, Int.toNat_natCast, hc, z_add, st_z _ _ _ _ _ (by omega) (by omega), bd_s, Int.toNat_natCast]
/-- behind a fault a cell may be patched with anything -/
theorem patch_f (grp : Nat → Int32 → St → Option (Int32 × St)) (u : St) (R0 : Nat) (a : Int32) (hR : R0 < 1501) : ∃ u', fX2_application_j219 grp (zI R0) a u = some u' ∧ Fr (fun k _ => k == 37) u u' := by
  refine ⟨uI u 37 R0 (zI (I u 37 R0) + a), ?_, Fr_up rfl (Fr_rfl _ _)⟩
  unfold fX2_application_j219
  rw [ld_z _ _ _ _ (by omega) (by omega), bd_s, Int.toNat_natCast, st_z _ _ _ _ _ (by omega) (by omega), bd_s, Int.toNat_natCast]
theorem j192_f (grp : Nat → Int32 → St → Option (Int32 × St)) (u : St) (x1 x2 x3 : Int32) (R0 : Nat) (a : Int32) (hR : R0 < 1501) (hf : I u 4 4 ≠ 0) : ∃ u', fX2_application_j192 grp x1 x2 x3 (zI R0) a u = some u' ∧ Fr (fun k _ => k == 37) u u' := by
  obtain ⟨u', r1, r2⟩ := patch_f grp u R0 a hR
  refine ⟨u', ?_, r2⟩
  unfold fX2_application_j192
  rw [gI_z u 4 4, if_neg (by rw [z_zero, z_eq (I_lo _ _ _) (I_hi _ _ _) (by decide) (by decide)]; exact hf)]
  exact r1
theorem P37_PA : ∀ k i, (k == 37) = true → PA k i = true := by intro k i h; simp at h; simp [PA, h]
/-- a name ends -/
theorem px_end (grp : Nat → Int32 → St → Option (Int32 × St)) {u v : St} {n t S R NC NR o m R0 sy a : Nat} {pr p : Int} {B : Nat → Nat} {F : List Nat} (h : PQ u v n t S R NC NR o m B F) (hR0 : R0 < R) (hsy : sy < S) (ha : a ≤ 5) (h37 : I u 37 R0 = 8 * sy) (h118 : I v 118 R0 = sy) (hT : TRM u v S NC NR (R0 + 1) R a) (hpr : pr = if m = 0 then 1 else 0) (hp1 : -2147483648 ≤ p) (hp2 : p < 2147483648) (hm : m < 1000) : ∃ u' v', (fX2_application_j192 grp (zI pr) (zI p) (zI sy) (zI R0) (zI a) u = some u' ∧ fX12_endName (zI sy) (zI p) (zI a) v = some v' ∧ PQ u' v' n t S R NC NR o m B F ∧ PX u u' v v' S R0 NC NR m ∧ TRM u' v' S NC NR R0 R 1 ∧ vocc u' (R - R0) R0 = vocc u (R - (R0 + 1)) (R0 + 1) ∧ (∀ i, i ≠ R0 → I u' 37 i = I u 37 i) ∧ 0 ≤ I u' 37 R0) ∨ (fX2_application_j192 grp (zI pr) (zI p) (zI sy) (zI R0) (zI a) u = some u' ∧ fX12_endName (zI sy) (zI p) (zI a) v = some v' ∧ FQ u u' v v' S) := by
  have hq := PQ_n h
  have hS := h.2.2.2.2.2.2.2.1
  have h4 := h.2.2.1
  have h21 := h.2.2.2.1
  have h43 := h.2.2.2.2.2.2.2.2.2.2.2.2.2.2.2.2.1
  have hS810 := hS.2.2.1
  have hpr2 : pr = 0 ∨ pr = 1 := by by_cases h0 : m = 0 <;> simp [h0] at hpr <;> omega
  obtain ⟨u1, v1, hh⟩ := settle_both hS hsy ha hpr2 hm h43 hpr h21 hp1 hp2
  have hop : ∀ r w, fX4_settle (zI sy) (zI a) (zI pr) u = some (r, w) → fX2_application_j192 grp (zI pr) (zI p) (zI sy) (zI R0) (zI a) u = if r = 0 then (bd (fX2_fail 3 (zI p) w) fun u7 => fX2_application_j219 grp (zI R0) (zI a) u7) else fX2_application_j219 grp (zI R0) (zI a) w := by
    intro r w hr
    unfold fX2_application_j192
    rw [gI_z u 4 4, h4, if_pos (show zI 0 = 0 from rfl), hr, b2_s]
  rcases hh with ⟨a1, a2, a3, a4, a5, a6, a7, a8⟩ | ⟨a1, a2⟩
  · have c37 : I u1 37 R0 = 8 * sy := by rw [Fr_I a7 rfl]; exact h37
    have hpz := patch_z grp u1 R0 a (8 * sy) (by omega) c37 (by omega) (by omega)
    have Fp : Fr (fun k _ => k == 37) u1 (uI u1 37 R0 (zI (8 * (sy : Int) + a))) := Fr_up rfl (Fr_rfl _ _)
    have Fu : Fr (fun k i => Pse k i || k == 37) u (uI u1 37 R0 (zI (8 * (sy : Int) + a))) := Fr_tr (Fr_up2 (fun k i hk => by simp [hk]) a7) (Fr_up2 (fun k i hk => by simp at hk; simp [hk]) Fp)
    have d37 : ∀ i, I (uI u1 37 R0 (zI (8 * (sy : Int) + a))) 37 i = if i = R0 then 8 * (sy : Int) + a else I u 37 i := by
      intro i
      by_cases hi : i = R0
      · subst hi; rw [if_pos rfl, I_uI1 _ _ _ _ (by omega) (by omega)]
      · rw [if_neg hi, I_uI2 _ _ _ _ _ _ (by omega), Fr_I a7 rfl]
    have hX1 : PX u u1 v v1 S R NC NR m := ⟨a6, fun i _ => ⟨Fr_I a7 rfl, Fr_I a8 rfl⟩, fun x _ => Fr_J a7 rfl, fun y _ => Fr_J a8 rfl, fun i _ => ⟨Fr_I a8 rfl, Fr_I a8 rfl, Fr_I a8 rfl⟩, Fr_up2 (fun k i hk => by simp [Pse] at hk; simp [PA]; omega) a7, Fr_up2 (fun k i hk => by simp [Qse] at hk; simp [QA]; omega) a8⟩
    have hSYT2 : SYT (uI u1 37 R0 (zI (8 * (sy : Int) + a))) v1 S := SYT_fr Fp (Fr_rfl (fun _ _ => false) v1) rfl (fun k i hk => by simp; omega) rfl (fun _ _ _ => rfl) a3
    have hSK2 : SKp u (uI u1 37 R0 (zI (8 * (sy : Int) + a))) v v1 S := SKp_tr (Nat.le_refl S) a6 (SKp_fr Fp (Fr_rfl (fun _ _ => false) v1) (fun k i hk => by simp; omega) (fun _ => rfl))
    have hXf : PX u (uI u1 37 R0 (zI (8 * (sy : Int) + a))) v v1 S R0 NC NR m := ⟨hSK2, fun i hi => ⟨by rw [d37, if_neg (by omega)], Fr_I a8 rfl⟩, fun x _ => Fr_J Fu rfl, fun y _ => Fr_J a8 rfl, fun i _ => ⟨Fr_I a8 rfl, Fr_I a8 rfl, Fr_I a8 rfl⟩, Fr_up2 (fun k i hk => by simp [Pse] at hk; simp [PA]; omega) Fu, Fr_up2 (fun k i hk => by simp [Qse] at hk; simp [QA]; omega) a8⟩
    refine ⟨uI u1 37 R0 (zI (8 * (sy : Int) + a)), v1, Or.inl ⟨?_, a2, PQ_sy Fu a8 (fun k i hk => by simp [Pse]; omega) (fun k i hk => by simp [Qse]; omega) hSYT2 h, hXf, ⟨fun i hi1 hi2 => ?_, ?_⟩, ?_, fun i hi => by rw [d37, if_neg hi], by rw [d37, if_pos rfl]; omega⟩⟩
    · rw [hop 1 u1 a1, if_neg (by decide)]; exact hpz
    · by_cases hi : i = R0
      · subst hi
        left
        refine ⟨sy, hsy, ?_, ?_, by rw [Fr_I a8 rfl]; exact h118⟩
        · rw [Fr_I Fp rfl, a4]; omega
        · rw [d37, if_pos rfl, Fr_I Fp rfl, a4]
      · have := CEd_px (Nat.le_refl S) (Nat.le_refl NC) (Nat.le_refl NR) hi2 hX1 (hT.1 i (by omega) hi2)
        rcases this with ⟨s', e1, e2, e3, e4⟩ | ⟨x, y, e1, e2, e3, e4, e5⟩
        · left; exact ⟨s', e1, by rw [Fr_I Fp rfl]; exact e2, by rw [I_uI2 _ _ _ _ _ _ (by omega), Fr_I Fp rfl]; exact e3, e4⟩
        · right; exact ⟨x, y, e1, e2, by rw [I_uI2 _ _ _ _ _ _ (by omega)]; exact e3, e4, by rw [Fr_J Fp rfl]; exact e5⟩
    · rw [show R - R0 = (R - (R0 + 1)) + 1 by omega]
      refine ⟨by decide, ?_⟩
      have e1 : arl (uI u1 37 R0 (zI (8 * (sy : Int) + a))) (R - (R0 + 1)) (R0 + 1) = arl u (R - (R0 + 1)) (R0 + 1) := arl_eq _ _ (fun i h1 _ => by rw [d37, if_neg (by omega)])
      rw [e1, d37, if_pos rfl]
      have e2 : arc (8 * (sy : Int) + a) = a := by unfold arc; rw [if_neg (by omega)]; omega
      rw [e2]
      simpa using hT.2
    · rw [show R - R0 = (R - (R0 + 1)) + 1 by omega]
      simp only [vocc]
      rw [d37, if_pos rfl, if_neg (by omega)]
      exact vocc_eq _ _ (fun i h1 _ => by rw [d37, if_neg (by omega)])
  · obtain ⟨u2, v2, f1, f2, f3, f4, f5⟩ := fail_both 3 p (by decide) (by decide) hp1 hp2 h4 h21
    have hv2 : v2 = uI (uI v 100 21 (zI 3)) 100 22 (zI p) := by
      have := rfail_0 v 3 p h21
      rw [this] at f2; exact (Option.some.inj f2).symm
    obtain ⟨u3, g1, g2⟩ := patch_f grp u2 R0 (zI a) (by omega)
    refine ⟨u3, v2, Or.inr ⟨?_, by rw [a2, hv2], ?_⟩⟩
    · rw [hop 0 u a1, if_pos rfl, show (3 : Int32) = zI 3 from rfl, f1, bd_s]; exact g1
    · refine FQ_cls g2 P37_PA (fun k i hk => by simp; omega) (by decide) ⟨rfl, rfl⟩ ⟨f3, ⟨S, Nat.le_refl _, SYT_fr f4 f5 rfl (fun k i hk => by simp; omega) rfl (fun k i hk => by simp; omega) hS⟩, SKp_fr f4 f5 (fun k i hk => by simp; omega) (fun i => by simp), Fr_up2 (fun k i hk => by simp at hk; simp [PA]; omega) f4, Fr_up2 (fun k i hk => by simp at hk; simp [QA, QT]; omega) f5⟩
