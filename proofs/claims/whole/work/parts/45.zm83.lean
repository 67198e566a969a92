/-! reading: a name with its arguments -/
def BJ (G : Nat) (v : St) : Option St := b2 (fX12_beginTerm_j52 (zI 1) v) fun r w => fX12_readAtom_L0 G 0 r w
def BT (G : Nat) (v : St) : Option St := b2 (fX12_beginTerm v) fun r w => fX12_readAtom_L0 G 0 r w
theorem PQ_om {P Q : Nat → Nat → Bool} {u u' v v' : St} {n t S R NC NR o m o' m' : Nat} {B : Nat → Nat} {F : List Nat} (f1 : Fr P u u') (f2 : Fr Q v v') (hP : ∀ k i, (k = 1 ∨ k = 14 ∨ (k = 2 ∧ i = 3) ∨ k = 15 ∨ k = 16 ∨ k = 17 ∨ (k = 3 ∧ (i = 6 ∨ i = 10 ∨ i = 12)) ∨ k = 38 ∨ k = 39 ∨ k = 40 ∨ k = 41 ∨ (k = 4 ∧ i = 4)) → P k i = false) (hQ : ∀ k i, ((k = 100 ∧ (i = 2 ∨ i = 3 ∨ i = 21 ∨ i = 23 ∨ i = 24 ∨ i = 25 ∨ i = 26 ∨ i = 27 ∨ i = 33 ∨ i = 35)) ∨ k = 101 ∨ k = 102 ∨ k = 103 ∨ k = 104 ∨ k = 119) → Q k i = false) (h3 : I u' 4 3 = o') (h37 : I v' 100 37 = o') (h43 : I v' 100 43 = m') (ho : o' ≤ 30) (h : PQ u v n t S R NC NR o m B F) : PQ u' v' n t S R NC NR o' m' B F := by
  obtain ⟨p1, p2, p3, p4, p5, p6, p7, p8, p9, p10, p11, p12, p13, p14, p15, p16, p17, p18⟩ := h
  have j38 : ∀ x, J u' 38 x = J u 38 x := fun x => Fr_J f1 (hP 38 x (by simp))
  have j119 : ∀ x, J v' 119 x = J v 119 x := fun x => Fr_J f2 (hQ 119 x (by simp))
  exact ⟨TXs_fr f1 f2 (hP 1 1 (by simp)) (fun i => hP 14 i (by simp)) (hQ 100 2 (by simp)) (fun i => hQ 101 i (by simp)) p1, TKS_fr f1 f2 (fun i => hP 1 i (by simp)) (fun i => hP 14 i (by simp)) (fun i hi => hQ 100 i (by omega)) p2, by rw [Fr_I f1 (hP 4 4 (by simp))]; exact p3, by rw [Fr_I f2 (hQ 100 21 (by simp))]; exact p4, h3, h37, ho, SYT_fr f1 f2 (hP 2 3 (by simp)) (fun k i hk => hP k i (by omega)) (hQ 100 3 (by simp)) (fun k i hk => hQ k i (by omega)) p8, by rw [Fr_I f1 (hP 3 6 (by simp))]; exact p9, by rw [Fr_I f2 (hQ 100 33 (by simp))]; exact p10, ⟨by rw [Fr_I f1 (hP 3 10 (by simp))]; exact p11.1, fun x hx => by rw [j38]; exact p11.2.1 x hx, fun x x' hx hx' hh => p11.2.2 x x' hx hx' (by rw [j38, j38] at hh; exact hh)⟩, ⟨by rw [Fr_I f2 (hQ 100 35 (by simp))]; exact p12.1, fun x hx => by rw [j119]; exact p12.2.1 x hx, fun x x' hx hx' hh => p12.2.2 x x' hx hx' (by rw [j119, j119] at hh; exact hh)⟩, p13, p14, p15, FB_fr f1 (fun i => hP 39 i (by simp)) (fun i => hP 40 i (by simp)) (fun i => hP 41 i (by simp)) (hP 3 12 (by simp)) p16, h43, fun y hy => by obtain ⟨x, x1, x2⟩ := p18 y hy; exact ⟨x, x1, by rw [j38, j119]; exact x2⟩⟩
theorem ra_flt (G : Nat) (r : Int32) (v : St) (h : I v 100 21 ≠ 0) : fX12_readAtom_L0 (G + 1) 0 r v = some v := by
  have sx : fX12_readAtom_L0 (G + 1) 0 r v = fX12_readAtom_L0_0 (fX12_readAtom_L0 G) r v := rfl
  rw [sx]
  unfold fX12_readAtom_L0_0
  rw [gI_z v 100 21, if_neg (by rw [z_zero, z_eq (I_lo _ _ _) (I_hi _ _ _) (by decide) (by decide)]; exact h)]
theorem ra_zero (G m : Nat) (v : St) (h : I v 100 21 = 0) (h43 : I v 100 43 = ((m + 1 : Nat) : Int)) (hm : m < 1000) : fX12_readAtom_L0 (G + 1) 0 0 v = BT G v := by
  have sx : fX12_readAtom_L0 (G + 1) 0 0 v = fX12_readAtom_L0_0 (fX12_readAtom_L0 G) 0 v := rfl
  rw [sx]
  unfold fX12_readAtom_L0_0 BT
  rw [gI_z v 100 21, h, if_pos (show zI 0 = 0 from rfl), gI_z v 100 43, h43, if_neg (by rw [z_zero, z_le (by omega) (by omega) (by decide) (by decide)]; omega), lt_e, if_pos rfl]
theorem arg_flt2 (grp : Nat → Int32 → St → Option (Int32 × St)) (F : Nat) (x1 x2 x3 x5 : Int32) (R0 : Nat) (u : St) (hR : R0 < 1501) (hf : I u 4 4 ≠ 0) : ∃ u', fX2_application_L0 grp (F + 2) 2 x1 x2 x3 (zI R0) x5 0 0 u = some u' ∧ Fr (fun k i => k == 37 || (k == 4 && i == 3)) u u' := by
  have s2 : fX2_application_L0 grp (F + 2) 2 x1 x2 x3 (zI R0) x5 0 0 u = fX2_application_L0_2 grp (fX2_application_L0 grp (F + 1)) x1 x2 x3 (zI R0) x5 0 u := rfl
  have s3 : ∀ y s w, fX2_application_L0 grp (F + 1) 0 x1 x2 x3 (zI R0) y s 0 w = fX2_application_L0_0 grp (fX2_application_L0 grp F) x1 x2 x3 (zI R0) y s w := fun _ _ _ => rfl
  have Fa : Fr (fun k i => k == 4 && i == 3) u (uI u 4 3 (gI u 4 3 - 1)) := Fr_up rfl (Fr_rfl _ _)
  obtain ⟨u', r1, r2⟩ := j192_f grp (uI u 4 3 (gI u 4 3 - 1)) x1 x2 x3 R0 x5 hR (by rw [Fr_I Fa rfl]; exact hf)
  refine ⟨u', ?_, Fr_tr (Fr_up2 (fun k i hk => by simp at hk; simp [hk]) Fa) (Fr_up2 (fun k i hk => by simp at hk; simp [hk]) r2)⟩
  rw [s2]
  unfold fX2_application_L0_2
  rw [if_pos rfl, s3]
  unfold fX2_application_L0_0
  rw [if_pos rfl]
  unfold fX2_application_j165
  rw [if_pos rfl]
  unfold fX2_application_j176
  rw [show (5 : Int32) = zI 5 from rfl, want_flt u 5 hf (by decide), b2_s, lt_e]
  exact r1
theorem arg_flt (grp : Nat → Int32 → St → Option (Int32 × St)) (F : Nat) (x1 x2 x3 x5 : Int32) (R0 : Nat) (u : St) (hR : R0 < 1501) (hf : I u 4 4 ≠ 0) : ∃ u', fX2_application_L0 grp (F + 3) 1 x1 x2 x3 (zI R0) x5 0 0 u = some u' ∧ Fr (fun k i => k == 37 || (k == 4 && i == 3)) u u' := by
  obtain ⟨u', r1, r2⟩ := arg_flt2 grp F x1 x2 x3 (x5 + 1) R0 u hR hf
  refine ⟨u', ?_, r2⟩
  have s1 : fX2_application_L0 grp (F + 3) 1 x1 x2 x3 (zI R0) x5 0 0 u = fX2_application_L0_1 grp (fX2_application_L0 grp (F + 2)) x1 x2 x3 (zI R0) x5 u := rfl
  rw [s1]
  unfold fX2_application_L0_1
  rw [lt_e, next_flt u hf, b2_s, if_neg (by decide)]
  exact r1
def APr (u u' v : St) (n t S R NC NR o m : Nat) (B : Nat → Nat) (F : List Nat) (X : Nat → Option St) (R0 : Nat) : Prop := (∃ (v' : St) (N t' S' R' NC' NR' : Nat) (F' : List Nat), N ≤ 30 * (t' - t) ∧ (∀ G, X (G + N) = fX12_readAtom_L0 G 0 1 v') ∧ PQ u' v' n t' S' R' NC' NR' o m B F' ∧ PX u u' v v' S R0 NC NR m ∧ t < t' ∧ S ≤ S' ∧ R < R' ∧ NC ≤ NC' ∧ NR ≤ NR' ∧ TRM u' v' S' NC' NR' R0 R' 1 ∧ F' = addF B F (vocc u' (R' - R) R) ∧ 0 ≤ I u' 37 R0 ∧ (∀ i, i < R → i ≠ R0 → I u' 37 i = I u 37 i)) ∨ (∃ (v' : St) (N : Nat), N ≤ 30 * (n - t) + 30 ∧ (∀ G, X (G + N) = some v') ∧ FQ u u' v v' S)
/-- what is known of the calls for terms one level below -/
def GPa (grp : Nat → Int32 → St → Option (Int32 × St)) (n o : Nat) : Prop := ∀ u v t S R NC NR m b B F, PQ u v n t S R NC NR o m B F → TLs u v n t b 1 → 2 * S ≤ 120 + t → 1 ≤ m → m ≤ o → ∃ u', grp 2 (zI 0) u = some (zI 0, u') ∧ APr u u' v n t S R NC NR o m B F (fun G => BJ G v) R
/-- one argument -/
theorem arg_one {grp : Nat → Int32 → St → Option (Int32 × St)} {n o : Nat} (hG : GPa grp n o) {u v : St} {t S R NC NR m a : Nat} {B : Nat → Nat} {F : List Nat} (h : PQ u v n t S R NC NR o (m + 1) B F) (hmo : m + 1 ≤ o) (ha : a < 5) (x1 x2 x3 x4 : Int32) : ∃ u1, (∀ Rc, fX2_application_L0_0 grp Rc x1 x2 x3 x4 (zI a) 1 u = Rc 1 x1 x2 x3 x4 (zI a) 0 0 u1) ∧ ((∃ (v1 : St) (N t1 S1 R1 NC1 NR1 : Nat) (F1 : List Nat), N ≤ 30 * (t1 - t) ∧ (∀ G, BT (G + N) v = fX12_readAtom_L0 G 0 1 v1) ∧ PQ u1 v1 n t1 S1 R1 NC1 NR1 o (m + 1) B F1 ∧ PX u u1 v v1 S R NC NR (m + 1) ∧ t < t1 ∧ S ≤ S1 ∧ R < R1 ∧ NC ≤ NC1 ∧ NR ≤ NR1 ∧ TRM u1 v1 S1 NC1 NR1 R R1 1 ∧ F1 = addF B F (vocc u1 (R1 - R) R)) ∨ (∃ (v1 : St) (N : Nat), N ≤ 30 * (n - t) + 30 ∧ (∀ G, BT (G + N) v = some v1) ∧ FQ u u1 v v1 S)) := by
  obtain ⟨u2, v2, hh⟩ := px_next h
  have ho := h.2.2.2.2.2.2.1
  have htn := PQ_n h
  have hop : ∀ Rc r w, fX2_next u = some (r, w) → fX2_application_L0_0 grp Rc x1 x2 x3 x4 (zI a) 1 u = if r = 2 then (b2 (grp 2 0 w) fun r25 u24 => Rc 1 x1 x2 x3 x4 (zI a) 0 0 u24) else b2 (fX2_want 3 w) fun r19 u18 => if r19 = 0 then (Rc 1 x1 x2 x3 x4 (zI a) 0 0 u18) else b2 (fX7_variable (gJ u18 1 3) u18) fun r22 u21 => bd (fX7_addVariable r22 u21) fun u23 => Rc 1 x1 x2 x3 x4 (zI a) 0 0 u23 := by
    intro Rc r w hr
    unfold fX2_application_L0_0
    rw [if_neg (by decide), if_neg (by rw [z_lit, z_le (by decide) (by decide) (by omega) (by omega)]; omega), hr, b2_s]
  have h43 : ∀ w, I w 100 43 = ((m + 1 : Nat) : Int) → ¬ gI w 100 43 ≤ 0 := by
    intro w hw
    rw [gI_z, hw, z_zero, z_le (by omega) (by omega) (by decide) (by decide)]; omega
  rcases hh with ⟨s, b, k, a1, a2, a3, a4, a5, a6, a7⟩ | ⟨a1, a2, a3⟩
  · have hm2 := a6.2.2.2.2.2.2.2.2.2.2.2.2.2.2.2.2.1
    have hk14 := a3.2.2.2.2.2.2.2.2.1
    by_cases hk1 : k = 1
    · subst hk1
      obtain ⟨u1, g1, g2⟩ := hG u2 v2 s S R NC NR (m + 1) b B F a6 a3 (a4 rfl) (by omega) hmo
      have hBT : ∀ G, BT G v = BJ G v2 := by
        intro G
        unfold BT BJ fX12_beginTerm
        rw [a2, b2_s, if_neg (h43 v2 hm2), if_neg (by decide)]
        rfl
      refine ⟨u1, fun Rc => by rw [hop Rc _ _ a1, if_pos (by rfl), show (0 : Int32) = zI 0 from rfl, g1, b2_s], ?_⟩
      rcases g2 with ⟨v1, N, t1, S1, R1, NC1, NR1, F1, q1, q2, q3, q4, q5, q6, q7, q8, q9, q10, q11, q12, q13⟩ | ⟨v1, N, q1, q2, q3⟩
      · exact Or.inl ⟨v1, N, t1, S1, R1, NC1, NR1, F1, by omega, fun G => by rw [hBT]; exact q2 G, q3, PX_tr (Nat.le_refl _) (Nat.le_refl _) (Nat.le_refl _) (Nat.le_refl _) (Nat.le_refl _) a7 q4, by omega, q6, q7, q8, q9, q10, q11⟩
      · exact Or.inr ⟨v1, N, by omega, fun G => by rw [hBT]; exact q2 G, FQ_tr (Nat.le_refl _) a7 q3⟩
    · by_cases hk2 : k = 2
      · subst hk2
        obtain ⟨x, y, NC', NR', w1, w2, w3, z1, z4, c1, c2, c3, c4, c5, c6, c7, c8, c9, c10, c11, c12, c13, c14, c15⟩ := px_var a6 a3
        refine ⟨w3, fun Rc => ?_, Or.inl ⟨z4, 0, b, S, R + 1, NC', NR', addF B F [x], by omega, fun G => ?_, c8, PX_tr (Nat.le_refl _) (Nat.le_refl _) (Nat.le_refl _) (Nat.le_refl _) (Nat.le_refl _) a7 c9, by omega, Nat.le_refl _, by omega, c10, c11, ⟨fun i h1 h2 => (by rw [show i = R by omega]; exact Or.inr c13), ?_⟩, ?_⟩⟩
        · rw [hop Rc _ _ a1, if_neg (by decide), show (3 : Int32) = zI 3 from rfl, c1, b2_s, if_neg (by decide), c2, b2_s, c3, bd_s]
        · unfold BT fX12_beginTerm
          rw [a2, b2_s, if_neg (h43 v2 hm2), if_pos (by rfl), c4, b2_s, gI_z v2 100 33, c5, show (-1 : Int32) = zI (-1) from rfl, z_sub, st_z _ _ _ _ _ (by omega) (by omega), bd_s, Int.toNat_natCast, gI_z _ 100 33, I_uI3 _ _ _ _ _ _ (by decide), c6, show (1 : Int32) = zI 1 from rfl, z_add, lt_e, show (R : Int) + 1 = ((R + 1 : Nat) : Int) by omega, c7, bd_s, b2_s]
          rfl
        · rw [show R + 1 - R = 1 by omega]
          simp only [arl]
          refine ⟨by decide, ?_⟩
          rw [c14]
          have : arc (-1 - (x : Int)) = 0 := by unfold arc; rw [if_pos (by omega)]
          rw [this]; rfl
        · rw [show R + 1 - R = 1 by omega]
          simp only [vocc]
          rw [c14, if_pos (by omega), show (-1 - (-1 - (x : Int))).toNat = x by omega]
      · have l3 := a3.2.2.1
        have l4 := a3.2.2.2.1
        have e4 := a6.2.2.1
        have e21 := a6.2.2.2.1
        obtain ⟨w1, z1, t1, t2, t3, t4, t5⟩ := fail_both 2 s (by decide) (by decide) (by omega) (by have := I_hi u2 1 2; omega) e4 e21
        have hS := a6.2.2.2.2.2.2.2.1
        refine ⟨w1, fun Rc => ?_, Or.inr ⟨z1, 1, by omega, fun G => ?_, FQ_tr (Nat.le_refl _) a7 ⟨t3, ⟨S, Nat.le_refl _, SYT_fr t4 t5 rfl (fun k i hk => by simp; omega) rfl (fun k i hk => by simp; omega) hS⟩, SKp_fr t4 t5 (fun k i hk => by simp; omega) (fun i => by simp), Fr_up2 (fun k i hk => by simp at hk; simp [PA]; omega) t4, Fr_up2 (fun k i hk => by simp at hk; simp [QA, QT]; omega) t5⟩⟩⟩
        · have hw : fX2_want 3 u2 = some (0, w1) := by
            unfold fX2_want
            rw [(next_same a3 e4 e21).1, b2_s, if_neg (by rw [show (3 : Int32) = zI 3 from rfl, z_eq (by omega) (by omega) (by decide) (by decide)]; omega), gI_z u2 1 2, l3, show (2 : Int32) = zI 2 from rfl, t1, bd_s]
          rw [hop Rc _ _ a1, if_neg (by rw [show (2 : Int32) = zI 2 from rfl, z_eq (by omega) (by omega) (by decide) (by decide)]; omega), hw, b2_s, if_pos rfl]
        · unfold BT fX12_beginTerm
          rw [a2, b2_s, if_neg (h43 v2 hm2), if_neg (by rw [show (2 : Int32) = zI 2 from rfl, z_eq (by omega) (by omega) (by decide) (by decide)]; omega)]
          unfold fX12_beginTerm_j52
          rw [if_neg (by rw [show (1 : Int32) = zI 1 from rfl, z_eq (by omega) (by omega) (by decide) (by decide)]; omega), gI_z v2 100 26, l4, show (2 : Int32) = zI 2 from rfl, t2, bd_s, b2_s]
          exact ra_flt G _ z1 (FLT_ne t3).2.2
  · have hne := FLT_ne a3.1
    refine ⟨u2, fun Rc => ?_, Or.inr ⟨v2, 1, by omega, fun G => ?_, a3⟩⟩
    · rw [hop Rc _ _ a1, if_neg (by decide), show (3 : Int32) = zI 3 from rfl, want_flt u2 3 hne.1 (by decide), b2_s, if_pos rfl]
    · have hm2 : I v2 100 43 = ((m + 1 : Nat) : Int) := by
        -- the look doesn't touch the names
        have := h.2.2.2.2.2.2.2.2.2.2.2.2.2.2.2.2.1
        obtain ⟨p1, p2, p3, p4, _⟩ := h
        obtain ⟨w1, z1, f1, f2, hh2⟩ := next_both p1 (TKS_TKp p2) p3 p4
        have ez : z1 = v2 := by
          rcases hh2 with ⟨_, _, _, _, q, _⟩ | ⟨_, q, _⟩ <;> rw [a2] at q <;> exact ((Prod.mk.inj (Option.some.inj q)).2).symm
        rw [← ez, Fr_I f2 (by simp [QT])]; exact this
      unfold BT fX12_beginTerm
      rw [a2, b2_s, if_neg (h43 v2 hm2), if_neg (by decide)]
      unfold fX12_beginTerm_j52 fX12_fail
      rw [if_neg (by decide), gI_z v2 100 21, if_neg (by rw [z_zero, z_eq (I_lo _ _ _) (I_hi _ _ _) (by decide) (by decide)]; exact hne.2.2), bd_s, b2_s]
      exact ra_flt G _ v2 hne.2.2
