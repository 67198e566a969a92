/-! reading: all formulas of a text, both sides -/
theorem RT_k {v v' : St} {c : Nat → Int} {e : Nat → Nat} {N : Nat} (h' : ∀ p, p < N → I v' 111 p = I v 111 p ∧ I v' 112 p = I v 112 p ∧ I v' 113 p = I v 113 p) (h : RT v c e N) : RT v' c e N := by
  refine ⟨h.1, fun p hp => ?_, fun p q hp hq => ?_⟩
  · rw [(h' p hp).1, (h' p hp).2.1, (h' p hp).2.2]; exact h.2.1 p hp
  · rw [(h' p hp).1, (h' q hq).1]; exact h.2.2 p q hp hq
theorem PRF_k {P Q : Nat → Nat → Bool} {u u' v v' : St} {C : Nat} {fi ps : Nat → Nat} {nv c : Nat → Int} {e : Nat → Nat} (hu : Fr P u u') (hv : Fr Q v v') (hP : ∀ k i, (57 ≤ k ∧ k ≤ 70) ∨ (k = 7 ∧ i = 11) ∨ (k = 9 ∧ i = 9) → P k i = false) (hQ : ∀ k i, (150 ≤ k ∧ k ≤ 160) ∨ k = 167 ∨ (k = 100 ∧ (i = 93 ∨ i = 105)) → Q k i = false) (h32 : ∀ p, p < ps (fi C) → I u' 32 p = I u 32 p) (h111 : ∀ p, p < ps (fi C) → I v' 111 p = I v 111 p ∧ I v' 112 p = I v 112 p ∧ I v' 113 p = I v 113 p) (h : PRF u v C fi ps nv c e) : PRF u' v' C fi ps nv c e := by
  obtain ⟨φ, Gd, T, L, J, V, n, h1, h2, h3, h4, h5, h6, h7, h8, h9, h10, h11⟩ := h
  have eu : ∀ k i, (57 ≤ k ∧ k ≤ 70) ∨ (k = 7 ∧ i = 11) ∨ (k = 9 ∧ i = 9) → I u' k i = I u k i := fun k i hk => Fr_I hu (hP k i hk)
  have ev : ∀ k i, (150 ≤ k ∧ k ≤ 160) ∨ k = 167 ∨ (k = 100 ∧ (i = 93 ∨ i = 105)) → I v' k i = I v k i := fun k i hk => Fr_I hv (hQ k i hk)
  obtain ⟨w1, w2, w3, w4⟩ := h2.2.1
  obtain ⟨x1, x2, x3⟩ := h2.2.2.2.1
  refine ⟨φ, Gd, T, L, J, V, n, TB_eq (fun k i hk _ => eu k i (by omega)) (fun k i hk _ => ev k i (by omega)) (fun _ _ => rfl) (Int.le_refl _) (Nat.le_refl _) (Nat.le_refl _) h1, ⟨h2.1, ⟨fun p hp => by rw [h32 p hp]; exact w1 p hp, w2, w3, fun w hw => by rw [eu 62 w (by omega), eu 63 w (by omega)]; exact w4 w hw⟩, TC_fr hu (hP _ _ (by omega)) (fun i => hP _ i (by omega)) h2.2.2.1, ⟨RT_k h111 x1, x2, fun w hw => by rw [ev 154 w (by omega), ev 155 w (by omega)]; exact x3 w hw⟩, TR_fr hv (hQ _ _ (by omega)) (fun i => hQ _ i (by omega)) h2.2.2.2.2⟩, h3, h4, h5, ⟨h6.1, fun k hk => h6.2 k (by rw [← eu 67 0 (by omega)]; exact hk)⟩, by rw [eu 9 9 (by omega)]; exact h7, h8, by rw [ev 100 105 (by omega)]; exact h9, ?_, fun f hf => ⟨MVg_pres (fun k hk => eu k _ (by omega)) (fun k hk => ev k _ (by omega)) (fun t _ => eu 60 t (by omega)) (fun _ _ => rfl) (Nat.le_refl _) (h11 f hf).1, ?_⟩⟩
  · unfold ST
    rw [eu 65 0 (by omega), eu 66 0 (by omega), eu 67 0 (by omega), eu 68 0 (by omega), eu 69 0 (by omega), eu 70 0 (by omega), ev 157 0 (by omega), ev 158 0 (by omega), ev 159 0 (by omega), ev 160 0 (by omega)]
    exact h10
  · rw [eu 66 _ (by omega)]; exact (h11 f hf).2
theorem FO_k {P Q : Nat → Nat → Bool} {u u' v v' : St} {C : Nat} {fi ps : Nat → Nat} {nv c : Nat → Int} {e : Nat → Nat} (hu : Fr P u u') (hv : Fr Q v v') (hP : ∀ k i, (57 ≤ k ∧ k ≤ 70) ∨ (k = 7 ∧ i = 11) ∨ (k = 9 ∧ (i = 9 ∨ i = 13 ∨ i = 14 ∨ i = 15)) → P k i = false) (hQ : ∀ k i, (150 ≤ k ∧ k ≤ 160) ∨ k = 167 ∨ (k = 100 ∧ (i = 93 ∨ i = 101 ∨ i = 103 ∨ i = 105)) → Q k i = false) (h32 : ∀ p, p < ps (fi C) → I u' 32 p = I u 32 p) (h111 : ∀ p, p < ps (fi C) → I v' 111 p = I v 111 p ∧ I v' 112 p = I v 112 p ∧ I v' 113 p = I v 113 p) (h : FO u v C fi ps nv c e) : FO u' v' C fi ps nv c e := by
  obtain ⟨h1, h2, h3, h4⟩ := h
  have eu : ∀ i, (i = 9 ∨ i = 13 ∨ i = 14 ∨ i = 15) → I u' 9 i = I u 9 i := fun i hi => Fr_I hu (hP 9 i (by omega))
  have ev : ∀ i, (i = 101 ∨ i = 103 ∨ i = 105) → I v' 100 i = I v 100 i := fun i hi => Fr_I hv (hQ 100 i (by omega))
  refine ⟨by rw [eu 13 (by simp), ev 101 (by simp)]; exact h1, by rw [eu 14 (by simp), ev 103 (by simp)]; exact h2, by rw [eu 15 (by simp), ev 105 (by simp)]; exact h3, ?_⟩
  rw [eu 15 (by simp), eu 9 (by simp)]
  rcases h4 with ⟨a1, T, a2⟩ | ⟨a1, a2⟩
  · exact Or.inl ⟨a1, T, BCs_fr hu (fun i => hP _ i (by omega)) (fun i => hP _ i (by omega)) (hP _ _ (by omega)) (fun i => hP _ i (by omega)) a2⟩
  · exact Or.inr ⟨PRF_k hu hv (fun k i hk => hP k i (by omega)) (fun k i hk => hQ k i (by omega)) h32 h111 a1, a2⟩
theorem SR_k {u u' v v' : St} {C : Nat} {fi ps : Nat → Nat} {nv c : Nat → Int} {e : Nat → Nat} (hu : STk u u' C (fi C) (ps (fi C))) (hv : RTk v v' C (fi C) (ps (fi C))) (e1 : I u' 2 5 = C) (e2 : I v' 100 10 = C) (e3 : I v' 100 14 = fi C) (e4 : I v' 100 17 = ps (fi C)) (h : SR u v C fi ps nv c e) : SR u' v' C fi ps nv c e := by
  have hfi := SR_fi h
  obtain ⟨h1, h2, h3, h4, h5, h6, h7, h8, h9, h10, h11, h12, h13, h14⟩ := h
  obtain ⟨a1, a2, a3, a4, a5⟩ := hu
  obtain ⟨b1, b2, b3⟩ := hv
  refine ⟨h1, e1, e2, h4, h5, fun k hk => by rw [a1 k hk]; exact h6 k hk, ?_, fun l hl => by rw [a3 l hl]; exact h8 l hl, ?_, e3, e4, fun p hp => by rw [a5 p hp]; exact h12 p hp, RT_k b3 h13, h14⟩
  · intro k hk
    rw [(b1 k hk).1, (b1 k hk).2.1, a2 k hk, (b1 k hk).2.2]; exact h7 k hk
  · intro k l hk q1 q2
    have hl : l < fi C := Nat.lt_of_lt_of_le q2 (hfi.1 C (Nat.le_refl _) (k + 1) (by omega))
    rw [(a4 l hl).2, (b2 l hl).2, (a4 l hl).1, (b2 l hl).1]; exact h9 k l hk q1 q2
/-- the reference's end of a reading -/
def rEnd (x1 x2 x3 x4 x5 : Int32) (v : St) : Option (Int32 × St) := if (gI v 100 21) ≤ 0 then (bd (fX12_forget v) fun u5 => some (gI u5 100 10, u5)) else lt (uI v 100 3 x1) fun u6 => lt (uI u6 100 7 x2) fun u7 => lt (uI u7 100 10 x3) fun u8 => lt (uI u8 100 14 x4) fun u9 => lt (uI u9 100 17 x5) fun u10 => some ((-10) - (gI u10 100 21), u10)
theorem fm_chain (u : St) : fX2_formula u = fX2_chain 0 u := by
  unfold fX2_formula
  generalize fX2_chain 0 u = o
  cases o <;> rfl
theorem rd_c (F : Nat) (x1 x2 x3 : Int32) (i : Nat) (hi : i < 1500) (u u1 : St) (k : Nat) (hk : k ≠ 0) (hk2 : k ≤ 14) (h : fX2_next u = some (zI ((k + 1 : Nat) : Int), u1)) (s : Nat) (hs : I u1 1 2 = s) : fX11_read_L0 (F + 1) 0 x1 x2 x3 (zI i) u = cBody (zI s) (fX11_read_j144 x1 x2 x3) (fX11_read_L0 F 0 x1 x2 x3 (zI ((i + 1 : Nat) : Int))) u1 := by
  have st : fX11_read_L0 (F + 1) 0 x1 x2 x3 (zI i) u = fX11_read_L0_0 (fX11_read_L0 F) x1 x2 x3 (zI i) u := rfl
  rw [st]
  unfold fX11_read_L0_0 cBody
  rw [if_neg (by rw [z_lit, z_le (by decide) (by decide) (by omega) (by omega)]; omega), h, b2_s, if_neg (by rw [show (1 : Int32) = zI 1 from rfl, z_eq (by omega) (by omega) (by decide) (by decide)]; omega), lt_e, gI_z u1 1 2, hs]
  unfold fX11_read_j125
  have ei : zI (i : Int) + 1 = zI ((i + 1 : Nat) : Int) := by rw [show (1 : Int32) = zI 1 from rfl, z_add]; rfl
  simp only [lt_e, ei, fm_chain]
theorem rd_r (G : Nat) (x1 x2 x3 x4 x5 : Int32) (v v1 : St) (k : Nat) (hk : k ≠ 0) (hk2 : k ≤ 14) (h : fX12_look v = some (zI k, v1)) (s : Nat) (hs : I v1 100 26 = s) : fX12_read_L0 (G + 2) 0 x1 x2 x3 x4 x5 0 0 0 v = rBody (zI s) (fX12_read_L0 G 0 x1 x2 x3 x4 x5 0 0 0) v1 := by
  have st : fX12_read_L0 (G + 2) 0 x1 x2 x3 x4 x5 0 0 0 v = fX12_read_L0_0 (fX12_read_L0 (G + 1)) x1 x2 x3 x4 x5 v := rfl
  have r0 : ∀ a b w, fX12_read_L0 (G + 1) 1 x1 x2 x3 x4 x5 a b 0 w = fX12_read_L0 G 0 x1 x2 x3 x4 x5 0 0 0 w := by
    intro a b w
    have st : fX12_read_L0 (G + 1) 1 x1 x2 x3 x4 x5 a b 0 w = fX12_read_L0_1 (fX12_read_L0 G) x1 x2 x3 x4 x5 a b 0 w := rfl
    rw [st]; unfold fX12_read_L0_1; rw [if_pos rfl]
  have r1 : ∀ a b w, fX12_read_L0 (G + 1) 1 x1 x2 x3 x4 x5 a b 1 w = bd (fX12_become b w) fun u23 => if (gI u23 100 47) = 0 then fX12_read_L0 G 0 x1 x2 x3 x4 x5 0 0 0 u23 else bd (fX12_fail 5 a u23) fun u25 => fX12_read_L0 G 0 x1 x2 x3 x4 x5 0 0 0 u25 := by
    intro a b w
    have st : fX12_read_L0 (G + 1) 1 x1 x2 x3 x4 x5 a b 1 w = fX12_read_L0_1 (fX12_read_L0 G) x1 x2 x3 x4 x5 a b 1 w := rfl
    rw [st]; unfold fX12_read_L0_1; rw [if_neg (by decide)]
  rw [st]
  generalize fX12_read_L0 (G + 1) = R at *
  generalize fX12_read_L0 G = R' at *
  unfold fX12_read_L0_0 rBody
  rw [h, b2_s, if_neg (by rw [z_zero, z_le (by omega) (by omega) (by decide) (by decide)]; omega), lt_e, gI_z v1 100 26, hs]
  simp only [r0, r1]
theorem rd_ce (F : Nat) (x1 x2 x3 : Int32) (i : Nat) (hi : i < 1500) (u u1 : St) (h : fX2_next u = some (zI 1, u1)) : fX11_read_L0 (F + 1) 0 x1 x2 x3 (zI i) u = fX11_read_j144 x1 x2 x3 u1 := by
  have st : fX11_read_L0 (F + 1) 0 x1 x2 x3 (zI i) u = fX11_read_L0_0 (fX11_read_L0 F) x1 x2 x3 (zI i) u := rfl
  rw [st]
  unfold fX11_read_L0_0
  rw [if_neg (by rw [z_lit, z_le (by decide) (by decide) (by omega) (by omega)]; omega), h, b2_s, if_pos (by decide)]
theorem rd_re (G : Nat) (x1 x2 x3 x4 x5 : Int32) (v v1 : St) (k : Int) (hk : k ≤ 0) (hk2 : -1 ≤ k) (h : fX12_look v = some (zI k, v1)) : fX12_read_L0 (G + 1) 0 x1 x2 x3 x4 x5 0 0 0 v = rEnd x1 x2 x3 x4 x5 v1 := by
  have st : fX12_read_L0 (G + 1) 0 x1 x2 x3 x4 x5 0 0 0 v = fX12_read_L0_0 (fX12_read_L0 G) x1 x2 x3 x4 x5 v := rfl
  rw [st]
  unfold fX12_read_L0_0 rEnd
  rw [h, b2_s, if_pos (by rw [z_zero, z_le (by omega) (by omega) (by decide) (by decide)]; omega)]
theorem look_flt (v : St) (h : ¬ I v 100 21 ≤ 0) : fX12_look v = some (zI (-1), v) := by
  unfold fX12_look
  rw [if_neg (by rw [gI_z v 100 21, z_zero, z_le (I_lo _ _ _) (I_hi _ _ _) (by decide) (by decide)]; exact h)]
  rfl
theorem RLs_A {u v u' v' : St} {n t s b k S nf C : Nat} {fi ps : Nat → Nat} {nv c : Nat → Int} {e : Nat → Nat} (hu : Fr PN u u') (hv : Fr QT v v') (hL : TLs u' v' n s b k) (h4 : I u' 4 4 = 0) (h21 : I v' 100 21 = 0) (h : RLs u v n t S nf C fi ps nv c e) : RLs u' v' n s S nf C fi ps nv c e := by
  obtain ⟨hT, hTK, hsn, h44, h21', h43, hSY, hS60, hSR, hSYr, hVO, h24, h7, h49, h52, hN43⟩ := h
  have hA : Fr PAf u u' := Fr_up2 (fun k i hk => by simp [PN, PT] at hk; simp [PAf, PA, PT]; omega) hu
  have hB : Fr QAf v v' := Fr_up2 (fun k i hk => by simp [QT] at hk; simp [QAf, QA, QT]; omega) hv
  have hK : SKp u u' v v' S := SKp_fr hu hv (fun k i hk => by simp [PN, PT]; omega) (fun i => by simp [QT])
  have hsb : s ≤ n := by
    have := hL.2.2.2.2.2.2.2.2.2.1
    have := hL.2.2.2.2.2.2.2.2.2.2.1
    omega
  exact ⟨TXs_fr hu hv rfl (fun _ => rfl) rfl (fun _ => rfl) hT, Or.inr ⟨b, k, hL⟩, hsb, h4, h21, by rw [Fr_I hu rfl]; exact h43, SYT_fr hu hv rfl (fun k i hk => by simp [PN, PT]; omega) rfl (fun k i hk => by simp [QT]; omega) hSY, hS60, SR_A hA hB hSR, SYr_sk (Nat.le_refl _) hK (fun p _ => Fr_I hv (by simp [QT])) hSYr, hVO, by rw [Fr_I hu rfl]; exact h24, by rw [Fr_I hv rfl]; exact h7, by rw [Fr_I hu rfl]; exact h49, by rw [Fr_I hu rfl]; exact h52, by rw [Fr_I hv rfl]; exact hN43⟩
theorem rd_loop {n : Nat} (x1 x2 x3 y1 y2 y3 y4 y5 : Int32) (m : Nat) : ∀ (F G : Nat) (u v : St) (i t S nf C : Nat) (fi ps : Nat → Nat) (nv c : Nat → Int) (e : Nat → Nat), n < t + m → m < F → 2 * m + 2 < G → RLs u v n t S nf C fi ps nv c e → 2 * i ≤ t → nf + 250 * n ≤ 198000000 + 250 * t → ∃ u' v', RKp u u' v v' S C (fi C) (ps (fi C)) ∧ 0 ≤ I v' 100 43 ∧ fX11_read_L0 F 0 x1 x2 x3 (zI i) u = fX11_read_j144 x1 x2 x3 u' ∧ fX12_read_L0 G 0 y1 y2 y3 y4 y5 0 0 0 v = rEnd y1 y2 y3 y4 y5 v' ∧ ((∃ t' S' nf' C' fi' ps' nv' c' e', RLs u' v' n t' S' nf' C' fi' ps' nv' c' e' ∧ nf' + 250 * t ≤ nf + 250 * t') ∨ (FLT u' v' ∧ ∃ S', S ≤ S' ∧ SYT u' v' S')) := by
  induction m with
  | zero =>
    intro F G u v i t S nf C fi ps nv c e hm hF hG h hi hnf
    have := h.2.2.1
    omega
  | succ m ih =>
    intro F G u v i t S nf C fi ps nv c e hm hF hG h hi hnf
    obtain ⟨F', rfl⟩ : ∃ F', F = F' + 1 := ⟨F - 1, by omega⟩
    obtain ⟨G', rfl⟩ : ∃ G', G = G' + 2 := ⟨G - 2, by omega⟩
    have hn := h.1.1
    have htn := h.2.2.1
    obtain ⟨u1, v1, f1, f2, f3⟩ := next_both h.1 h.2.1 h.2.2.2.1 h.2.2.2.2.1
    have RKn : RKp u u1 v v1 S C (fi C) (ps (fi C)) := RKp_A _ _ _ (SKp_fr f1 f2 (fun k i hk => by simp [PN, PT]; omega) (fun i => by simp [QT])) (Fr_up2 (fun k i hk => by simp [PN, PT] at hk; simp [PAf, PA, PT]; omega) f1) (Fr_up2 (fun k i hk => by simp [QT] at hk; simp [QAf, QA, QT]; omega) f2)
    have h43 : 0 ≤ I v1 100 43 := by rw [Fr_I f2 rfl]; exact h.2.2.2.2.2.2.2.2.2.2.2.2.2.2.2
    rcases f3 with ⟨s, b, k, a1, a2, a3, a4, a5, a6⟩ | ⟨a1, a2, a3⟩
    · have hR1 := RLs_A f1 f2 a3 a5 a6 h
      have hsn := hR1.2.2.1
      by_cases hk : k = 0
      · subst hk
        exact ⟨u1, v1, RKn, h43, rd_ce F' x1 x2 x3 i (by omega) u u1 a1, rd_re (G' + 1) y1 y2 y3 y4 y5 v v1 0 (by decide) (by decide) a2, Or.inl ⟨s, S, nf, C, fi, ps, nv, c, e, hR1, by omega⟩⟩
      · have hk14 : k ≤ 14 := a3.2.2.2.2.2.2.2.2.1
        obtain ⟨u2, v2, b1, b2, b3, b4⟩ := fm_both a3 hk hR1 (by omega)
        have ec := rd_c F' x1 x2 x3 i (by omega) u u1 k hk hk14 a1 s a3.2.2.1
        have er := rd_r G' y1 y2 y3 y4 y5 v v1 k hk hk14 a2 s a3.2.2.2.1
        rw [b3] at er
        rcases b4 with ⟨d1, t', S', nf', C', fi', ps', nv', c', e', d2, d3, d4, d5, d6, d7, d8, d9⟩ | ⟨d1, d2, S', d3, d4⟩
        · rw [d1] at ec
          obtain ⟨u', v', g1, g2, g3, g4, g5⟩ := ih F' G' u2 v2 (i + 1) t' S' nf' C' fi' ps' nv' c' e' (by omega) (by omega) (by omega) d2 (by omega) (by omega)
          refine ⟨u', v', RKp_tr d4 d7 d8 d9 (RKp_tr (Nat.le_refl _) (Nat.le_refl _) (Nat.le_refl _) (Nat.le_refl _) RKn b1) g1, g2, ec.trans g3, er.trans g4, ?_⟩
          rcases g5 with ⟨t2, S2, nf2, C2, fi2, ps2, nv2, c2, e2, q1, q2⟩ | ⟨q1, S2, q2, q3⟩
          · exact Or.inl ⟨t2, S2, nf2, C2, fi2, ps2, nv2, c2, e2, q1, by omega⟩
          · exact Or.inr ⟨q1, S2, by omega, q3⟩
        · rw [d1] at ec
          obtain ⟨G2, rfl⟩ : ∃ G2, G' = G2 + 1 := ⟨G' - 1, by omega⟩
          exact ⟨u2, v2, RKp_tr (Nat.le_refl _) (Nat.le_refl _) (Nat.le_refl _) (Nat.le_refl _) RKn b1, b2, ec, er.trans (rd_re G2 y1 y2 y3 y4 y5 v2 v2 (-1) (by decide) (by decide) (look_flt v2 (FLT_ne d2).2.1)), Or.inr ⟨d2, S', d3, d4⟩⟩
    · refine ⟨u1, v1, RKn, h43, rd_ce F' x1 x2 x3 i (by omega) u u1 a1, rd_re (G' + 1) y1 y2 y3 y4 y5 v v1 (-1) (by decide) (by decide) a2, Or.inr ⟨a3, S, Nat.le_refl _, SYT_fr f1 f2 rfl (fun k i hk => by simp [PN, PT]; omega) rfl (fun k i hk => by simp [QT]; omega) h.2.2.2.2.2.2.1⟩⟩
