/-! reading: a formula of one part -/
theorem BDf_atom {o ch w lv : Nat} (ho : o ≤ 30) (hch : 1 ≤ ch) (hw : 1 ≤ w) : BDf o lv ch w 0 0 0 1 0 := by
  refine ⟨hw, by omega, by omega, by simpa using hw, by omega, by omega, ?_, p2_le hch (by decide)⟩
  have : 4 * 1 ≤ (124 - 4 * o) * w := Nat.mul_le_mul (by omega) hw
  omega
theorem un_spec {grp : Nat → Int32 → St → Option (Int32 × St)} {n o : Nat} (hP : GP1 grp n o) (hN : o < 30 → GU grp n (o + 1)) (hC : o < 30 → GC grp n (o + 1) 0) {u v : St} {t S R NC NR : Nat} {B : Nat → Nat} {F : List Nat} {Kc Kr : Nat} {l : List (Int × Int)} {vs : List Nat} (h : PFo u v n t S R NC NR o B F Kc Kr) (hBo : ∀ x, B x ≤ o) (hT : TS v ((13, 0) :: l)) (hV : VS v vs) (hl : l.length ≤ 10 * o + 9) (hvs : vs.length ≤ 10 * o + 9) : ∃ (u' : St) (r : Nat), oX2_unary grp u = some (zI r, u') ∧ FMr u u' v r n t S R NC NR o B F Kc Kr l vs 0 0 30 := by
  obtain ⟨p3, p4, p5, p6, p7, hn, htn, hRt, hS, hNC⟩ := PF_bits h
  have h34 := h.2.1
  have hKc := h.2.2.2.1
  obtain ⟨v6, f1, f2, f3⟩ := fm_pop 13 0 hT (by omega) p4
  have h6 : PFo u v6 n t S R NC NR o B F Kc Kr := PF_fr (Fr_rfl (fun _ _ => false) u) f3 (fun _ _ _ => rfl) (fun k i hk => by simp; omega) h
  have hV6 : VS v6 vs := VS_fr f3 (fun _ => by simp) (by simp) hV
  have hY6 : PY u u v v6 S R NC NR Kc Kr := fr_PY (Fr_rfl (fun _ _ => false) u) f3 (fun _ _ hk => by simp at hk) (fun k i hk => by simp at hk; simp [QAf, Qts, hk]) (fun _ _ _ => rfl) (fun k i hk => by simp; omega)
  obtain ⟨u2, v2, hh⟩ := pf_next h6
  rcases hh with ⟨s, b, k, a1, a2, a3, a4, a5, a6, a7, a8⟩ | ⟨a1, a2, a3⟩
  · have hk14 := a3.2.2.2.2.2.2.2.2.1
    have hsn := (PF_bits a6).2.2.2.2.2.2.1
    have hT2 : TS v2 l := TS_fr a8 (fun _ => by simp [QA, QT]) (fun _ => by simp [QA, QT]) (by simp [QA, QT]) f2
    have hV2 : VS v2 vs := VS_fr a8 (fun _ => by simp [QA, QT]) (by simp [QA, QT]) hV6
    have hY2 : PY u u2 v v2 S R NC NR Kc Kr := PY_tr (Nat.le_refl _) (Nat.le_refl _) (Nat.le_refl _) (Nat.le_refl _) (Nat.le_refl _) (Nat.le_refl _) hY6 a7
    by_cases hk1 : k = 1
    · subst hk1
      obtain ⟨u', r, g1, g2⟩ := un_atom hP a6 a3 (a4 rfl) hV2 (by omega)
      have hX : ∀ G, fX12_formula_L0 (G + 1) 0 v = bd (lt (gI v2 100 33 : Int32) fun x26 => bd (fX12_readAtom v2) fun u27 => b2 (fX12_node 15 x26 (gI u27 100 33) u27) fun r29 u28 => bd (fX12_give r29 u28) fun u30 => some u30) fun w => fX12_formula_L0 G 0 w := by
        intro G
        rw [f1, rt13]
        unfold fX12_unary
        rw [a2, b2_s, if_neg (by decide), if_neg (by decide), if_neg (by decide), if_neg (by decide), if_pos (by rfl)]
        cases (lt (gI v2 100 33 : Int32) fun x26 => bd (fX12_readAtom v2) fun u27 => b2 (fX12_node 15 x26 (gI u27 100 33) u27) fun r29 u28 => bd (fX12_give r29 u28) fun u30 => some u30) <;> rfl
      refine ⟨u', r, ?_, ?_⟩
      · unfold oX2_unary
        rw [a1, b2_s, lt_e, if_pos (by rfl)]; exact g1
      · refine FMx_pre (X1 := fun G => bd (lt (gI v2 100 33 : Int32) fun x26 => bd (fX12_readAtom v2) fun u27 => b2 (fX12_node 15 x26 (gI u27 100 33) u27) fun r29 u28 => bd (fX12_give r29 u28) fun u30 => some u30) fun w => fX12_formula_L0 G 0 w) (sl := 31) (c0 := 1) hX a5 hsn (by omega) hY2 ?_
        rcases g2 with ⟨v', t', S', R', NC', NR', F', j, w, occ, q1, q2, q3, q4, q5, q6, q7, q8, q9, q10, q11, q12, q13⟩ | ⟨v', q1, q2, q3⟩
        · refine Or.inl ⟨v', 0, t', S', R', NC', NR', F', Kc + 1, Kr + 1, j, 1, w, 0, 0, 0, 1, 0, occ, by omega, fun G => ?_, q2, TS_fr q5 (fun _ => by simp [QA, QT, Qvs]) (fun _ => by simp [QA, QT, Qvs]) (by simp [QA, QT, Qvs]) hT2, q3, q4, q6, q7, q8, q9, q10, by omega, by omega, by omega, q11, q12, BDf_atom p7 (by omega) q13, fun hh => absurd rfl hh⟩
          show (bd (lt (gI v2 100 33 : Int32) fun x26 => bd (fX12_readAtom v2) fun u27 => b2 (fX12_node 15 x26 (gI u27 100 33) u27) fun r29 u28 => bd (fX12_give r29 u28) fun u30 => some u30) fun w => fX12_formula_L0 (G + 0) 0 w) = _
          rw [q1, bd_s]; rfl
        · refine Or.inr ⟨v', 1, by omega, fun G => ?_, q2, q3⟩
          show (bd (lt (gI v2 100 33 : Int32) fun x26 => bd (fX12_readAtom v2) fun u27 => b2 (fX12_node 15 x26 (gI u27 100 33) u27) fun r29 u28 => bd (fX12_give r29 u28) fun u30 => some u30) fun w => fX12_formula_L0 (G + 1) 0 w) = _
          rw [q1, bd_s]; exact fm_flt G v' (FLT_ne q2.1).2.1
    · have hc2 : ¬ (zI ((k + 1 : Nat) : Int) = 2) := by rw [z_lit, z_eq (by omega) (by omega) (by decide) (by decide)]; omega
      by_cases hk8 : k = 8
      · subst hk8
        obtain ⟨u', r, g1, g2⟩ := un_not hN a6 a3 hBo hT2 hV2 hl hvs
        refine ⟨u', r, ?_, FMx_pre (c0 := 1) (fun G => ?_) a5 hsn (by omega) hY2 g2⟩
        · unfold oX2_unary
          rw [a1, b2_s, lt_e, if_neg hc2, if_neg (by decide), if_neg (by decide)]
          unfold fX2_unary_j59
          rw [if_pos rfl, if_pos (by rfl)]; exact g1
        · show fX12_formula_L0 (G + 1) 0 v = _
          rw [f1, rt13]
          unfold fX12_unary
          rw [a2, b2_s, if_pos (by rfl)]
          cases (b2 (fX12_opens v2) fun r37 u36 => if r37 = 0 then (some u36) else bd (fX12_push 14 0 u36) fun u39 => bd (fX12_push 13 0 u39) fun u40 => some u40) <;> rfl
      · by_cases hk3 : k = 3
        · subst hk3
          obtain ⟨u', r, g1, g2⟩ := un_par hC a6 a3 hBo hT2 hV2 hl hvs
          refine ⟨u', r, ?_, FMx_pre (c0 := 1) (fun G => ?_) a5 hsn (by omega) hY2 g2⟩
          · unfold oX2_unary
            rw [a1, b2_s, lt_e, if_neg hc2, if_neg (by decide), if_neg (by decide)]
            unfold fX2_unary_j59
            rw [if_pos rfl, if_neg (by decide), if_pos (by rfl)]; exact g1
          · show fX12_formula_L0 (G + 1) 0 v = _
            rw [f1, rt13]
            unfold fX12_unary
            rw [a2, b2_s, if_neg (by decide), if_neg (by decide), if_neg (by decide), if_pos (by rfl)]
            cases (b2 (fX12_opens v2) fun r32 u31 => if r32 = 0 then (some u31) else bd (fX12_push 16 0 u31) fun u34 => bd (fX12_push 1 0 u34) fun u35 => some u35) <;> rfl
        · by_cases hkq : k = 11 ∨ k = 12
          · obtain ⟨kk, hkk, hk⟩ : ∃ kk, (kk = 6 ∨ kk = 7) ∧ k = kk + 5 := ⟨k - 5, by omega, by omega⟩
            subst hk
            obtain ⟨u', r, g1, g2⟩ := un_qu hN hkk a6 a3 hBo hT2 hV2 hl hvs
            refine ⟨u', r, ?_, FMx_pre (c0 := 1) (fun G => ?_) a5 hsn (by omega) hY2 g2⟩
            · unfold oX2_unary
              rw [a1, b2_s, lt_e, if_neg hc2]
              have hj : fX2_unary_j59 grp (zI ((kk + 5 + 1 : Nat) : Int)) 0 1 u2 = some (zI r, u') := by
                unfold fX2_unary_j59
                rw [if_neg (by decide)]; exact g1
              rcases hkk with h | h <;> subst h
              · rw [if_pos (by rfl)]; exact hj
              · rw [if_neg (by decide), if_pos (by rfl)]; exact hj
            · show fX12_formula_L0 (G + 1) 0 v = _
              rw [f1, rt13]
              unfold fX12_unary
              rw [a2, b2_s]
              rcases hkk with h | h <;> subst h
              · rw [if_neg (by decide), if_pos (by rfl)]
                cases (fX12_unary_j47 (zI ((6 + 5 : Nat) : Int)) v2) <;> rfl
              · rw [if_neg (by decide), if_neg (by decide), if_pos (by rfl)]
                cases (fX12_unary_j47 (zI ((7 + 5 : Nat) : Int)) v2) <;> rfl
          · -- nothing fits
            have l3 := a3.2.2.1
            have l4 := a3.2.2.2.1
            obtain ⟨⟨m, q1⟩, q2, q3, q4, q5⟩ := a6
            obtain ⟨u3, v3, t1, t2, t3, t4, t5⟩ := fail_both 2 s (by decide) (by decide) (by omega) (by have := I_hi u2 1 2; omega) q1.2.2.1 q1.2.2.2.1
            have nk : ∀ m : Nat, m < 20 → k ≠ m → ¬ (zI (k : Int) = zI (m : Nat)) := fun m hm hh => by rw [z_eq (by omega) (by omega) (by omega) (by omega)]; omega
            have nk1 : ∀ m : Nat, m < 20 → k + 1 ≠ m → ¬ (zI ((k + 1 : Nat) : Int) = zI (m : Nat)) := fun m hm hh => by rw [z_eq (by omega) (by omega) (by omega) (by omega)]; omega
            refine ⟨u3, 0, ?_, Or.inr ⟨v3, 2, by omega, fun G => ?_, FQf_tr (Nat.le_refl _) hY2 (FQf_fail t3 t4 t5 q1.2.2.2.2.2.2.2.1 q2 (by omega)), by decide⟩⟩
            · unfold oX2_unary
              rw [a1, b2_s, lt_e, if_neg hc2, if_neg (show ¬ (zI ((k + 1 : Nat) : Int) = 12) from nk1 12 (by decide) (by omega)), if_neg (show ¬ (zI ((k + 1 : Nat) : Int) = 13) from nk1 13 (by decide) (by omega))]
              unfold fX2_unary_j59
              rw [if_pos rfl, if_neg (show ¬ (zI ((k + 1 : Nat) : Int) = 9) from nk1 9 (by decide) (by omega)), if_neg (show ¬ (zI ((k + 1 : Nat) : Int) = 4) from nk1 4 (by decide) (by omega)), gI_z u2 1 2, l3, show (2 : Int32) = zI 2 from rfl, t1, bd_s]
              rfl
            · show fX12_formula_L0 (G + 1 + 1) 0 v = _
              rw [f1 (G + 1), rt13]
              unfold fX12_unary
              rw [a2, b2_s, if_neg (show ¬ (zI (k : Int) = 8) from nk 8 (by decide) hk8), if_neg (show ¬ (zI (k : Int) = 11) from nk 11 (by decide) (by omega)), if_neg (show ¬ (zI (k : Int) = 12) from nk 12 (by decide) (by omega)), if_neg (show ¬ (zI (k : Int) = 3) from nk 3 (by decide) hk3), if_neg (show ¬ (zI (k : Int) = 1) from nk 1 (by decide) hk1), gI_z v2 100 26, l4, show (2 : Int32) = zI 2 from rfl, t2, bd_s, bd_s, bd_s]
              exact fm_flt G v3 (FLT_ne t3).2.1
  · have hne := FLT_ne a3.1
    refine ⟨u2, 0, ?_, Or.inr ⟨v2, 2, by omega, fun G => ?_, FQf_tr (Nat.le_refl _) hY6 a3, by decide⟩⟩
    · unfold oX2_unary
      rw [a1, b2_s, lt_e, if_neg (by decide), if_neg (by decide), if_neg (by decide)]
      unfold fX2_unary_j59
      rw [if_pos rfl, if_neg (by decide), if_neg (by decide), cfail_1 u2 _ _ hne.1, bd_s]
      rfl
    · show fX12_formula_L0 (G + 1 + 1) 0 v = _
      rw [f1 (G + 1), rt13]
      unfold fX12_unary
      rw [a2, b2_s, if_neg (by decide), if_neg (by decide), if_neg (by decide), if_neg (by decide), if_neg (by decide)]
      unfold fX12_fail
      rw [gI_z v2 100 21, if_neg (by rw [z_zero, z_eq (I_lo _ _ _) (I_hi _ _ _) (by decide) (by decide)]; exact hne.2.2), bd_s, bd_s, bd_s]
      exact fm_flt G v2 hne.2.1
