/-! reading: the steps of the parser of terms -/
theorem PN_PA : ∀ k i, PN k i = true → PA k i = true := by
  intro k i h; simp [PN] at h; simp [PA]; rcases h with h | h
  · simp [h]
  · simp [h.1]; omega
theorem QT_QA : ∀ k i, QT k i = true → QA k i = true := by intro k i h; simp [QA, h]
theorem px_next {u v : St} {n t S R NC NR o m : Nat} {B : Nat → Nat} {F : List Nat} (h : PQ u v n t S R NC NR o m B F) : ∃ u' v', (∃ s b k : Nat, fX2_next u = some (zI ((k + 1 : Nat) : Int), u') ∧ fX12_look v = some (zI k, v') ∧ TLs u' v' n s b k ∧ (k = 1 → 2 * S ≤ 120 + s) ∧ t ≤ s ∧ PQ u' v' n s S R NC NR o m B F ∧ PX u u' v v' S R NC NR m) ∨ (fX2_next u = some (zI 1, u') ∧ fX12_look v = some (zI (-1), v') ∧ FQ u u' v v' S) := by
  obtain ⟨p1, p2, p3, p4, p5, p6, p7, p8, p9, p10, p11, p12, p13, p14, p15, p16, p17, p18⟩ := h
  obtain ⟨u1, v1, f1, f2, hh⟩ := next_both p1 (TKS_TKp p2) p3 p4
  have hX : PX u u1 v v1 S R NC NR m := PX_fr f1 f2 PN_PA QT_QA (fun k i hk => by simp [PN, PT]; omega) (fun k i hk => by simp [QT]; omega)
  refine ⟨u1, v1, ?_⟩
  rcases hh with ⟨s, b, k, a1, a2, a3, a4, a5, a6⟩ | ⟨a1, a2, a3⟩
  · left
    have hk1 : 2 * S ≤ 121 + s ∧ (k = 1 → 2 * S ≤ 120 + s) := by
      rcases p2 with ⟨q1, q2, q3⟩ | ⟨b', k', q1, q2, q3⟩
      · refine ⟨by omega, fun hk => ?_⟩
        have hw := (a3.2.2.2.2.2.2.2.2.2.2.2.2 (Or.inl hk)).2.2
        by_cases hst : s = t
        · subst hst
          refine q3 ?_ (by rw [byt_fr f1 (fun i => by simp [PN, PT])] at hw; exact hw)
          have := a3.2.2.2.2.2.2.2.2.2.2.1; have := a3.2.2.2.2.2.2.2.2.2.2.2.1 (by omega); omega
        · omega
      · -- looked before: nothing new
        obtain ⟨e1, e2⟩ := next_same q1 p3 p4
        have eu : u1 = u := by rw [a1] at e1; exact (Prod.mk.inj (Option.some.inj e1)).2
        subst eu
        have es : s = t := by
          have := a3.2.2.1; have := q1.2.2.1; omega
        have ek : k = k' := by
          have := a3.2.2.2.2.2.2.1; have := q1.2.2.2.2.2.2.1; omega
        subst es; subst ek
        exact ⟨q2, q3⟩
    exact ⟨s, b, k, a1, a2, a3, hk1.2, a4, ⟨TXs_fr f1 f2 (by simp [PN, PT]) (fun i => by simp [PN, PT]) (by simp [QT]) (fun i => by simp [QT]) p1, Or.inr ⟨b, k, a3, hk1⟩, a5, a6, by rw [Fr_I f1 (by simp [PN, PT])]; exact p5, by rw [Fr_I f2 (by simp [QT])]; exact p6, p7, SYT_fr f1 f2 (by simp [PN, PT]) (fun k i hk => by simp [PN, PT]; omega) (by simp [QT]) (fun k i hk => by simp [QT]; omega) p8, by rw [Fr_I f1 (by simp [PN, PT])]; exact p9, by rw [Fr_I f2 (by simp [QT])]; exact p10, ⟨by rw [Fr_I f1 (by simp [PN, PT])]; exact p11.1, fun x hx => by rw [hX.2.2.1 x hx]; exact p11.2.1 x hx, fun x x' hx hx' hh => p11.2.2 x x' hx hx' (by rw [hX.2.2.1 x hx, hX.2.2.1 x' hx'] at hh; exact hh)⟩, ⟨by rw [Fr_I f2 (by simp [QT])]; exact p12.1, fun x hx => by rw [hX.2.2.2.1 x hx]; exact p12.2.1 x hx, fun x x' hx hx' hh => p12.2.2 x x' hx hx' (by rw [hX.2.2.2.1 x hx, hX.2.2.2.1 x' hx'] at hh; exact hh)⟩, by omega, by omega, by omega, FB_fr f1 (fun i => by simp [PN, PT]) (fun i => by simp [PN, PT]) (fun i => by simp [PN, PT]) (by simp [PN, PT]) p16, by rw [Fr_I f2 (by simp [QT])]; exact p17, fun y hy => by obtain ⟨x, x1, x2⟩ := p18 y hy; exact ⟨x, x1, by rw [hX.2.2.1 x x1, hX.2.2.2.1 y hy]; exact x2⟩⟩, hX⟩
  · right
    exact ⟨a1, a2, a3, ⟨S, Nat.le_refl _, SYT_fr f1 f2 (by simp [PN, PT]) (fun k i hk => by simp [PN, PT]; omega) (by simp [QT]) (fun k i hk => by simp [QT]; omega) p8⟩, hX.1, hX.2.2.2.2.2.1, hX.2.2.2.2.2.2⟩
/-- a change that the relation doesn't see -/
theorem PQ_fr {P Q : Nat → Nat → Bool} {u u' v v' : St} {n t S R NC NR o m : Nat} {B : Nat → Nat} {F : List Nat} (f1 : Fr P u u') (f2 : Fr Q v v') (hP : ∀ k i, (k = 1 ∨ k = 14 ∨ (k = 2 ∧ i = 3) ∨ k = 15 ∨ k = 16 ∨ k = 17 ∨ (k = 3 ∧ (i = 6 ∨ i = 10 ∨ i = 12)) ∨ k = 38 ∨ k = 39 ∨ k = 40 ∨ k = 41 ∨ k = 4) → P k i = false) (hQ : ∀ k i, ((k = 100 ∧ (i = 2 ∨ i = 3 ∨ i = 21 ∨ i = 23 ∨ i = 24 ∨ i = 25 ∨ i = 26 ∨ i = 27 ∨ i = 33 ∨ i = 35 ∨ i = 37 ∨ i = 43)) ∨ k = 101 ∨ k = 102 ∨ k = 103 ∨ k = 104 ∨ k = 119) → Q k i = false) (h : PQ u v n t S R NC NR o m B F) : PQ u' v' n t S R NC NR o m B F := by
  obtain ⟨p1, p2, p3, p4, p5, p6, p7, p8, p9, p10, p11, p12, p13, p14, p15, p16, p17, p18⟩ := h
  have j38 : ∀ x, J u' 38 x = J u 38 x := fun x => Fr_J f1 (hP 38 x (by simp))
  have j119 : ∀ x, J v' 119 x = J v 119 x := fun x => Fr_J f2 (hQ 119 x (by simp))
  exact ⟨TXs_fr f1 f2 (hP 1 1 (by simp)) (fun i => hP 14 i (by simp)) (hQ 100 2 (by simp)) (fun i => hQ 101 i (by simp)) p1, TKS_fr f1 f2 (fun i => hP 1 i (by simp)) (fun i => hP 14 i (by simp)) (fun i hi => hQ 100 i (by omega)) p2, by rw [Fr_I f1 (hP 4 4 (by simp))]; exact p3, by rw [Fr_I f2 (hQ 100 21 (by simp))]; exact p4, by rw [Fr_I f1 (hP 4 3 (by simp))]; exact p5, by rw [Fr_I f2 (hQ 100 37 (by simp))]; exact p6, p7, SYT_fr f1 f2 (hP 2 3 (by simp)) (fun k i hk => hP k i (by omega)) (hQ 100 3 (by simp)) (fun k i hk => hQ k i (by omega)) p8, by rw [Fr_I f1 (hP 3 6 (by simp))]; exact p9, by rw [Fr_I f2 (hQ 100 33 (by simp))]; exact p10, ⟨by rw [Fr_I f1 (hP 3 10 (by simp))]; exact p11.1, fun x hx => by rw [j38]; exact p11.2.1 x hx, fun x x' hx hx' hh => p11.2.2 x x' hx hx' (by rw [j38, j38] at hh; exact hh)⟩, ⟨by rw [Fr_I f2 (hQ 100 35 (by simp))]; exact p12.1, fun x hx => by rw [j119]; exact p12.2.1 x hx, fun x x' hx hx' hh => p12.2.2 x x' hx hx' (by rw [j119, j119] at hh; exact hh)⟩, p13, p14, p15, FB_fr f1 (fun i => hP 39 i (by simp)) (fun i => hP 40 i (by simp)) (fun i => hP 41 i (by simp)) (hP 3 12 (by simp)) p16, by rw [Fr_I f2 (hQ 100 43 (by simp))]; exact p17, fun y hy => by obtain ⟨x, x1, x2⟩ := p18 y hy; exact ⟨x, x1, by rw [j38, j119]; exact x2⟩⟩
/-- a token of another kind than a name is taken -/
theorem px_take {u v : St} {n s b k S R NC NR o m : Nat} {B : Nat → Nat} {F : List Nat} (h : PQ u v n s S R NC NR o m B F) (hL : TLs u v n s b k) (hk : k ≠ 0) : ∃ u' v', fX6_take u = some u' ∧ fX12_take v = some v' ∧ TNs u' v' n b ∧ s < b ∧ (k ≠ 1 → PQ u' v' n b S R NC NR o m B F) ∧ Fr PK u u' ∧ Fr QK v v' ∧ PX u u' v v' S R NC NR m := by
  obtain ⟨u', v', t1, t2, t3, t4, t5⟩ := take_both hL
  have hsb := hL.2.2.2.2.2.2.2.2.2.2.2.1 hk
  have hX : PX u u' v v' S R NC NR m := PX_fr t4 t5 (fun k i hk => by simp [PK] at hk; simp [PA, PT, hk.1, hk.2]) (fun k i hk => by simp [QK] at hk; simp [QA, QT, hk.1, hk.2]) (fun k i hk => by simp [PK]; omega) (fun k i hk => by simp [QK]; omega)
  refine ⟨u', v', t1, t2, t3, hsb, fun hk1 => ?_, t4, t5, hX⟩
  obtain ⟨p1, p2, p3, p4, p5, p6, p7, p8, p9, p10, p11, p12, p13, p14, p15, p16, p17, p18⟩ := h
  have hS : 2 * S ≤ 121 + s := by
    rcases p2 with ⟨q1, q2, _⟩ | ⟨_, _, _, q2, _⟩
    · exact q2
    · exact q2
  exact ⟨TXs_fr t4 t5 rfl (fun _ => rfl) rfl (fun _ => rfl) p1, Or.inl ⟨t3, by omega, fun _ _ => by omega⟩, by rw [Fr_I t4 rfl]; exact p3, by rw [Fr_I t5 rfl]; exact p4, by rw [Fr_I t4 rfl]; exact p5, by rw [Fr_I t5 rfl]; exact p6, p7, SYT_fr t4 t5 rfl (fun k i hk => by simp [PK]; omega) rfl (fun k i hk => by simp [QK]; omega) p8, by rw [Fr_I t4 rfl]; exact p9, by rw [Fr_I t5 rfl]; exact p10, ⟨by rw [Fr_I t4 rfl]; exact p11.1, fun x hx => by rw [Fr_J t4 rfl]; exact p11.2.1 x hx, fun x x' hx hx' hh => p11.2.2 x x' hx hx' (by rw [Fr_J t4 rfl, Fr_J t4 rfl] at hh; exact hh)⟩, ⟨by rw [Fr_I t5 rfl]; exact p12.1, fun x hx => by rw [Fr_J t5 rfl]; exact p12.2.1 x hx, fun x x' hx hx' hh => p12.2.2 x x' hx hx' (by rw [Fr_J t5 rfl, Fr_J t5 rfl] at hh; exact hh)⟩, by omega, by omega, by omega, FB_fr t4 (fun _ => rfl) (fun _ => rfl) (fun _ => rfl) rfl p16, by rw [Fr_I t5 rfl]; exact p17, fun y hy => by obtain ⟨x, x1, x2⟩ := p18 y hy; exact ⟨x, x1, by rw [Fr_J t4 rfl, Fr_J t5 rfl]; exact x2⟩⟩
theorem z_shl3' (a : Int) : zI a <<< (3 &&& 31) = zI (a * 8) := z_shl3 a
/-- a name is taken, its cell made -/
theorem px_name {u v : St} {n s b S R NC NR o m : Nat} {B : Nat → Nat} {F : List Nat} (h : PQ u v n s S R NC NR o m B F) (hL : TLs u v n s b 1) (hS1 : 2 * S ≤ 120 + s) : ∃ (sy S' : Nat) (u1 u2 u3 v1 v2 : St), fX4_symbol (gJ u 1 3) u = some (zI sy, u1) ∧ fX6_take u1 = some u2 ∧ fX7_addCell (zI sy <<< (3 &&& 31)) u2 = some (zI R, u3) ∧ fX12_symbolOf (gJ v 100 27) v = some (zI sy, v1) ∧ fX12_take v1 = some v2 ∧ I v2 100 33 = R ∧ PQ u3 (uI (uI v2 118 R (zI sy)) 100 33 (zI ((R + 1 : Nat) : Int))) n b S' (R + 1) NC NR o m B F ∧ PX u u3 v (uI (uI v2 118 R (zI sy)) 100 33 (zI ((R + 1 : Nat) : Int))) S R NC NR m ∧ sy < S' ∧ S ≤ S' ∧ s < b ∧ I u3 37 R = 8 * sy ∧ I (uI (uI v2 118 R (zI sy)) 100 33 (zI ((R + 1 : Nat) : Int))) 118 R = sy ∧ R ≤ 1500 := by
  obtain ⟨p1, p2, p3, p4, p5, p6, p7, p8, p9, p10, p11, p12, p13, p14, p15, p16, p17, p18⟩ := h
  have hn := p1.1
  have hbn := hL.2.2.2.2.2.2.2.2.2.2.1
  have hsb := hL.2.2.2.2.2.2.2.2.2.2.2.1 (by decide)
  obtain ⟨w1, w2, w3⟩ := hL.2.2.2.2.2.2.2.2.2.2.2.2 (Or.inl rfl)
  obtain ⟨u1, v1, sy, S', a1, a2, a3, a4, a5, a6, a7, a8, a9⟩ := symb_both p8 (by omega) w1
  have hL1 : TLs u1 v1 n s b 1 := TLs_fr a8 a9 (fun i => rfl) (fun i => rfl) (fun i hi => by simp [Qsy]; omega) hL
  obtain ⟨u2, v2, t1, t2, t3, t4, t5⟩ := take_both hL1
  have hR : R ≤ 1500 := by omega
  have h6 : I u2 3 6 = R := by rw [Fr_I t4 rfl, Fr_I a8 rfl]; exact p9
  have h33 : I v2 100 33 = R := by rw [Fr_I t5 rfl, Fr_I a9 rfl]; exact p10
  have hsy := a3.2.2.1
  have e6 : I (uI u2 37 R (zI ((sy : Int) * 8))) 3 6 = R := by rw [I_uI3 _ _ _ _ _ _ (by decide)]; exact h6
  have c6 : I (uI (uI u2 37 R (zI ((sy : Int) * 8))) 3 6 (zI ((R + 1 : Nat) : Int))) 3 6 = ((R + 1 : Nat) : Int) := I_uI1 _ _ _ _ (by omega) (by omega)
  have d33 : I (uI (uI v2 118 R (zI sy)) 100 33 (zI ((R + 1 : Nat) : Int))) 100 33 = ((R + 1 : Nat) : Int) := I_uI1 _ _ _ _ (by omega) (by omega)
  have Fu : Fr (fun k i => Psy k i || PK k i || k == 37 || (k == 3 && i == 6)) u (uI (uI u2 37 R (zI ((sy : Int) * 8))) 3 6 (zI ((R + 1 : Nat) : Int))) := Fr_up rfl (Fr_up rfl (Fr_tr (Fr_up2 (fun k i hk => by simp [hk]) a8) (Fr_up2 (fun k i hk => by simp [hk]) t4)))
  have Fv : Fr (fun k i => Qsy k i || QK k i || k == 118 || (k == 100 && i == 33)) v (uI (uI v2 118 R (zI sy)) 100 33 (zI ((R + 1 : Nat) : Int))) := Fr_up rfl (Fr_up rfl (Fr_tr (Fr_up2 (fun k i hk => by simp [hk]) a9) (Fr_up2 (fun k i hk => by simp [hk]) t5)))
  have Fu2 : Fr (fun k i => PK k i || k == 37 || (k == 3 && i == 6)) u1 (uI (uI u2 37 R (zI ((sy : Int) * 8))) 3 6 (zI ((R + 1 : Nat) : Int))) := Fr_up rfl (Fr_up rfl (Fr_up2 (fun k i hk => by simp [hk]) t4))
  have Fv2 : Fr (fun k i => QK k i || k == 118 || (k == 100 && i == 33)) v1 (uI (uI v2 118 R (zI sy)) 100 33 (zI ((R + 1 : Nat) : Int))) := Fr_up rfl (Fr_up rfl (Fr_up2 (fun k i hk => by simp [hk]) t5))
  have hSYT : SYT (uI (uI u2 37 R (zI ((sy : Int) * 8))) 3 6 (zI ((R + 1 : Nat) : Int))) (uI (uI v2 118 R (zI sy)) 100 33 (zI ((R + 1 : Nat) : Int))) S' := SYT_fr Fu2 Fv2 rfl (fun k i hk => by simp [PK]; omega) rfl (fun k i hk => by simp [QK]; omega) a3
  have hSK : SKp u (uI (uI u2 37 R (zI ((sy : Int) * 8))) 3 6 (zI ((R + 1 : Nat) : Int))) v (uI (uI v2 118 R (zI sy)) 100 33 (zI ((R + 1 : Nat) : Int))) S := SKp_tr a5 a7 (SKp_fr Fu2 Fv2 (fun k i hk => by simp [PK]; omega) (fun i => by simp [QK]))
  refine ⟨sy, S', u1, u2, uI (uI u2 37 R (zI ((sy : Int) * 8))) 3 6 (zI ((R + 1 : Nat) : Int)), v1, v2, by rw [gJ_z]; exact a1, t1, ?_, by rw [gJ_z]; exact a2, t2, h33, ⟨TXs_fr Fu Fv rfl (fun _ => rfl) rfl (fun _ => rfl) p1, Or.inl ⟨TNs_fr (P := fun k i => k == 37 || (k == 3 && i == 6)) (Q := fun k i => k == 118 || (k == 100 && i == 33)) (Fr_up rfl (Fr_up rfl (Fr_rfl _ _))) (Fr_up rfl (Fr_up rfl (Fr_rfl _ _))) (fun _ => rfl) (fun i hi => by simp; omega) t3, by omega, fun hb hw => ?_⟩, by rw [Fr_I Fu rfl]; exact p3, by rw [Fr_I Fv rfl]; exact p4, by rw [Fr_I Fu rfl]; exact p5, by rw [Fr_I Fv rfl]; exact p6, p7, hSYT, c6, d33, ⟨by rw [Fr_I Fu rfl]; exact p11.1, fun x hx => by rw [Fr_J Fu rfl]; exact p11.2.1 x hx, fun x x' hx hx' hh => p11.2.2 x x' hx hx' (by rw [Fr_J Fu rfl, Fr_J Fu rfl] at hh; exact hh)⟩, ⟨by rw [Fr_I Fv rfl]; exact p12.1, fun x hx => by rw [Fr_J Fv rfl]; exact p12.2.1 x hx, fun x x' hx hx' hh => p12.2.2 x x' hx hx' (by rw [Fr_J Fv rfl, Fr_J Fv rfl] at hh; exact hh)⟩, by omega, by omega, by omega, FB_fr Fu (fun _ => rfl) (fun _ => rfl) (fun _ => rfl) rfl p16, by rw [Fr_I Fv rfl]; exact p17, fun y hy => by obtain ⟨x, x1, x2⟩ := p18 y hy; exact ⟨x, x1, by rw [Fr_J Fu rfl, Fr_J Fv rfl]; exact x2⟩⟩, ⟨hSK, fun i hi => ⟨?_, ?_⟩, fun x _ => Fr_J Fu rfl, fun y _ => Fr_J Fv rfl, fun i _ => ⟨Fr_I Fv rfl, Fr_I Fv rfl, Fr_I Fv rfl⟩, Fr_up2 (fun k i hk => ?_) Fu, Fr_up2 (fun k i hk => ?_) Fv⟩, a4, a5, hsb, ?_, ?_, hR⟩
  · unfold fX7_addCell
    rw [gI_z u2 3 6, h6, if_pos (by rw [z_lit, z_lt (by omega) (by omega) (by decide) (by decide)]; omega), z_shl3', st_z _ _ _ _ _ (by omega) (by omega), bd_s, Int.toNat_natCast, gI_z _ 3 6, e6, show (1 : Int32) = zI 1 from rfl, z_add, lt_e, show (R : Int) + 1 = ((R + 1 : Nat) : Int) by omega, gI_z _ 3 6, c6, z_sub, show ((R + 1 : Nat) : Int) - 1 = R by omega]
  · exfalso
    rw [byt_fr Fu (fun _ => rfl)] at hw
    exact w2 hb hw
  · rw [I_uI3 _ _ _ _ _ _ (by decide), I_uI2 _ _ _ _ _ _ (by omega), Fr_I t4 rfl, Fr_I a8 rfl]
  · rw [I_uI3 _ _ _ _ _ _ (by decide), I_uI2 _ _ _ _ _ _ (by omega), Fr_I t5 rfl, Fr_I a9 rfl]
  · simp [Psy, PK] at hk; simp [PA, PT]; omega
  · simp [Qsy, QK] at hk; simp [QA, QT]; omega
  · rw [I_uI3 _ _ _ _ _ _ (by decide), I_uI1 _ _ _ _ (by omega) (by omega)]; omega
  · rw [I_uI3 _ _ _ _ _ _ (by decide), I_uI1 _ _ _ _ (by omega) (by omega)]
