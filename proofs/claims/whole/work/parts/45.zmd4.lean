/-! reading: one formula of a text, both sides -/
def cBody (s : Int32) (E K : St → Option (Int32 × St)) (u : St) : Option (Int32 × St) := bd (fX7_begin u) fun u12 => b2 (fX2_chain 0 u12) fun r14 u13 => b2 (fX2_want 7 u13) fun _ u15 => if (gI u15 4 4) = 0 then (if 60 < (gI u15 2 3) then (bd (fX2_fail 5 s u15) fun u6 => E u6) else b2 (fX0_make r14 u15) fun r20 u19 => if r20 = 0 then (bd (fX2_fail 5 s u19) fun u6 => E u6) else K u19) else E u15
def rBody (p : Int32) (K : St → Option (Int32 × St)) (v : St) : Option (Int32 × St) := lt (uI v 100 28 0) fun u12 => lt (uI u12 100 33 0) fun u13 => lt (uI u13 100 35 0) fun u14 => lt (uI u14 100 37 0) fun u15 => b2 (fX12_formula u15) fun r17 u16 => if (gI u16 100 21) = 0 then (b2 (fX12_must 6 u16) fun r20 u19 => if r20 = 0 then K u19 else bd (fX12_become r17 u19) fun u23 => if (gI u23 100 47) = 0 then K u23 else bd (fX12_fail 5 p u23) fun u25 => K u25) else K u16
def PRd : Nat → Nat → Bool := fun k i => PAf k i || PMk k i
def QRd : Nat → Nat → Bool := fun k i => QAf k i || QMk k i
theorem PAf_PRd : ∀ k i, PAf k i = true → PRd k i = true := by intro k i h; simp [PRd, h]
theorem PMk_PRd : ∀ k i, PMk k i = true → PRd k i = true := by intro k i h; simp [PRd, h]
theorem QAf_QRd : ∀ k i, QAf k i = true → QRd k i = true := by intro k i h; simp [QRd, h]
theorem QMk_QRd : ∀ k i, QMk k i = true → QRd k i = true := by intro k i h; simp [QRd, h]
theorem PAf_e {k i : Nat} (h : PAf k i = true) : k = 1 ∨ (k = 2 ∧ i = 3) ∨ k = 3 ∨ k = 4 ∨ k = 15 ∨ k = 16 ∨ k = 17 ∨ (33 ≤ k ∧ k ≤ 41) := by simp [PAf, PA, PT, Pnd] at h; omega
theorem QAf_e {k i : Nat} (h : QAf k i = true) : (k = 100 ∧ (i = 3 ∨ (21 ≤ i ∧ i ≤ 28) ∨ i = 33 ∨ i = 35 ∨ i = 37 ∨ i = 38 ∨ i = 41 ∨ i = 43)) ∨ (102 ≤ k ∧ k ≤ 104) ∨ (114 ≤ k ∧ k ≤ 125) := by simp [QAf, QA, QT, Qts, Qvs] at h; omega
theorem PMk_e {k i : Nat} (h : PMk k i = true) : k = 5 ∨ k = 6 ∨ (k = 2 ∧ (i = 4 ∨ i = 5)) ∨ k = 18 ∨ k = 19 ∨ (29 ≤ k ∧ k ≤ 32) ∨ ((42 ≤ k ∧ k ≤ 56) ∧ (i ≠ 0 ∨ (k ≠ 49 ∧ k ≠ 52))) := by simp [PMk, PM, Pdv] at h; omega
theorem QMk_e {k i : Nat} (h : QMk k i = true) : (k = 100 ∧ (i = 7 ∨ i = 8 ∨ i = 10 ∨ i = 14 ∨ i = 17 ∨ i = 35 ∨ i = 38 ∨ i = 41 ∨ (47 ≤ i ∧ i ≤ 73))) ∨ (105 ≤ k ∧ k ≤ 113) ∨ (119 ≤ k ∧ k ≤ 122) ∨ (126 ≤ k ∧ k ≤ 143) := by simp [QMk, QM, Pnw] at h; omega
theorem bfalse {b : Bool} (h : b = true → False) : b = false := by cases b with
  | true => exact (h rfl).elim
  | false => rfl
theorem TKp_fr {P Q : Nat → Nat → Bool} {u u' v v' : St} {n t : Nat} (hu : Fr P u u') (hv : Fr Q v v') (h1 : ∀ i, P 1 i = false) (h14 : ∀ i, P 14 i = false) (h2 : ∀ i, (i = 23 ∨ i = 24 ∨ i = 25 ∨ i = 26 ∨ i = 27) → Q 100 i = false) (h : TKp u v n t) : TKp u' v' n t := by
  rcases h with h | ⟨b, k, h⟩
  · exact Or.inl (TNs_fr hu hv h1 h2 h)
  · exact Or.inr ⟨b, k, TLs_fr hu hv h1 h14 h2 h⟩
/-- what is known between two formulas -/
def RLs (u v : St) (n t S nf C : Nat) (fi ps : Nat → Nat) (nv c : Nat → Int) (e : Nat → Nat) : Prop := TXs u v n ∧ TKp u v n t ∧ t ≤ n ∧ I u 4 4 = 0 ∧ I v 100 21 = 0 ∧ I u 4 3 = 0 ∧ SYT u v S ∧ S ≤ 60 ∧ SR u v C fi ps nv c e ∧ SYr u v S nf (ps (fi C)) c ∧ VOr C fi ps c ∧ I u 2 4 = nf ∧ I v 100 7 = nf ∧ I u 49 0 = 0 ∧ I u 52 0 = 0 ∧ 0 ≤ I v 100 43
/-- what stays of the store -/
def RKp (u u' v v' : St) (S C f b : Nat) : Prop := STk u u' C f b ∧ RTk v v' C f b ∧ SKp u u' v v' S ∧ Fr PRd u u' ∧ Fr QRd v v'
theorem RKp_tr {u u' u'' v v' v'' : St} {S C f b S' C' f' b' : Nat} (hS : S ≤ S') (hC : C ≤ C') (hf : f ≤ f') (hb : b ≤ b') (h : RKp u u' v v' S C f b) (h' : RKp u' u'' v' v'' S' C' f' b') : RKp u u'' v v'' S C f b := ⟨STk_tr hC hf hb h.1 h'.1, RTk_tr hC hf hb h.2.1 h'.2.1, SKp_tr hS h.2.2.1 h'.2.2.1, Fr_tr h.2.2.2.1 h'.2.2.2.1, Fr_tr h.2.2.2.2 h'.2.2.2.2⟩
theorem RKp_A {u u' v v' : St} {S : Nat} (C f b : Nat) (hS : SKp u u' v v' S) (hu : Fr PAf u u') (hv : Fr QAf v v') : RKp u u' v v' S C f b := ⟨STk_fr C f b hu (fun k i hk => bfalse (fun h => by have := PAf_e h; omega)), RTk_fr C f b hv (fun k i hk => bfalse (fun h => by have := QAf_e h; omega)), hS, Fr_up2 PAf_PRd hu, Fr_up2 QAf_QRd hv⟩
theorem SYr_sk {u u' v v' : St} {S S' F N : Nat} {c : Nat → Int} (hS : S ≤ S') (hK : SKp u u' v v' S) (h111 : ∀ p, p < N → I v' 111 p = I v 111 p) (h : SYr u v S F N c) : SYr u' v' S' F N c := fun p hp h0 => by
  rcases h p hp h0 with ⟨s, s1, s0, s2, s3⟩ | ⟨g, g1, g2, g3, g4⟩
  · have := (hK s s1).2.2 s0.1
    exact Or.inl ⟨s, by omega, by rw [this.1]; exact s0, by rw [this.1]; exact s2, by rw [h111 p hp]; exact s3⟩
  · exact Or.inr ⟨g, g1, g2, g3, by rw [h111 p hp]; exact g4⟩
theorem SR_A {u u' v v' : St} {C : Nat} {fi ps : Nat → Nat} {nv c : Nat → Int} {e : Nat → Nat} (hu : Fr PAf u u') (hv : Fr QAf v v') (h : SR u v C fi ps nv c e) : SR u' v' C fi ps nv c e := SR_fr hu hv (fun k i hk => bfalse (fun hh => by have := PAf_e hh; simp [PSc] at hk; omega)) (fun k i hk => bfalse (fun hh => by have := QAf_e hh; simp [PSr] at hk; omega)) h
theorem fm_both {u v : St} {n s b k S nf C : Nat} {fi ps : Nat → Nat} {nv c : Nat → Int} {e : Nat → Nat} (hL : TLs u v n s b k) (hk : k ≠ 0) (h : RLs u v n s S nf C fi ps nv c e) (hnf : nf ≤ 198000000) : ∃ u' v', RKp u u' v v' S C (fi C) (ps (fi C)) ∧ 0 ≤ I v' 100 43 ∧ (∀ K, rBody (zI s) K v = K v') ∧ (((∀ E K, cBody (zI s) E K u = K u') ∧ ∃ t' S' nf' C' fi' ps' nv' c' e', RLs u' v' n t' S' nf' C' fi' ps' nv' c' e' ∧ s + 2 ≤ t' ∧ S ≤ S' ∧ nf' + 250 * s ≤ nf + 250 * t' ∧ nf ≤ nf' ∧ C ≤ C' ∧ fi C ≤ fi' C' ∧ ps (fi C) ≤ ps' (fi' C')) ∨ ((∀ E K, cBody (zI s) E K u = E u') ∧ FLT u' v' ∧ ∃ S', S ≤ S' ∧ SYT u' v' S')) := by
  obtain ⟨hT, hTK, hsn, h44, h21, h43, hSY, hS60, hSR, hSYr, hVO, h24, h7, h49, h52, hN43⟩ := h
  have hn := hT.1
  -- a new tree
  obtain ⟨u1, hu1⟩ : ∃ u1, uI (uI (uI (uI u 3 4 (zI 0)) 3 6 (zI 0)) 3 10 (zI 0)) 3 12 (zI 0) = u1 := ⟨_, rfl⟩
  have Fu1 : Fr (fun k i => k == 3 && (i == 4 || i == 6 || i == 10 || i == 12)) u u1 := by rw [← hu1]; exact Fr_up rfl (Fr_up rfl (Fr_up rfl (Fr_up rfl (Fr_rfl _ _))))
  have e3 : ∀ i, (i = 4 ∨ i = 6 ∨ i = 10 ∨ i = 12) → I u1 3 i = 0 := by
    intro i hi
    rw [← hu1]
    rcases hi with h | h | h | h <;> subst h <;> simp (disch := omega) only [I_uI1, I_uI2]
  have hbeg : fX7_begin u = some u1 := by unfold fX7_begin; rw [← hu1]; rfl
  obtain ⟨vz, hvz⟩ : ∃ vz, uI (uI (uI (uI v 100 28 (zI 0)) 100 33 (zI 0)) 100 35 (zI 0)) 100 37 (zI 0) = vz := ⟨_, rfl⟩
  have Fvz : Fr (fun k i => k == 100 && (i == 28 || i == 33 || i == 35 || i == 37)) v vz := by rw [← hvz]; exact Fr_up rfl (Fr_up rfl (Fr_up rfl (Fr_up rfl (Fr_rfl _ _))))
  have ez : ∀ i, (i = 28 ∨ i = 33 ∨ i = 35 ∨ i = 37) → I vz 100 i = 0 := by
    intro i hi
    rw [← hvz]
    rcases hi with h | h | h | h <;> subst h <;> simp (disch := omega) only [I_uI1, I_uI2]
  obtain ⟨v1, hv1⟩ : ∃ v1, uI (uI vz 100 38 (zI 0)) 100 41 (zI 0) = v1 := ⟨_, rfl⟩
  have Fv1 : Fr (fun k i => k == 100 && (i == 38 || i == 41)) vz v1 := by rw [← hv1]; exact Fr_up rfl (Fr_up rfl (Fr_rfl _ _))
  have e38 : I v1 100 38 = 0 := by rw [← hv1]; simp (disch := omega) only [I_uI1, I_uI2]
  have e41 : I v1 100 41 = 0 := by rw [← hv1]; simp (disch := omega) only [I_uI1, I_uI2]
  obtain ⟨v2, g1, g2, g3⟩ := rpush_spec v1 [] 1 0 (by simp) ⟨e38, trivial⟩ (by decide) (by decide) (by decide) (by decide)
  have Fv2 : Fr (fun k i => k == 120 || k == 121 || (k == 100 && (i == 28 || i == 33 || i == 35 || i == 37 || i == 38 || i == 41))) v v2 := Fr_tr (Fr_up2 (fun k i hk => by simp at hk; simp; omega) Fvz) (Fr_tr (Fr_up2 (fun k i hk => by simp at hk; simp; omega) Fv1) (Fr_up2 (fun k i hk => by simp [Qts] at hk; simp; omega) g3))
  have hV2 : VS v2 [] := ⟨by rw [Fr_I g3 rfl]; exact e41, trivial⟩
  have ez2 : ∀ i, (i = 28 ∨ i = 33 ∨ i = 35 ∨ i = 37) → I v2 100 i = 0 := fun i hi => by rw [Fr_I g3 (by simp [Qts]; omega), Fr_I Fv1 (by simp; omega)]; exact ez i hi
  have hform : fX12_formula vz = fX12_formula_L0 FU 0 v2 := by
    unfold fX12_formula
    have hv1' : uI (uI vz 100 38 0) 100 41 0 = v1 := hv1
    have g1' : fX12_push 1 0 v1 = some v2 := g1
    rw [lt_e, lt_e, hv1', g1', bd_s]
  have hN43v : I v2 100 43 = I v 100 43 := Fr_I Fv2 rfl
  have hPF : PFo u1 v2 n s S 0 0 0 0 (fun _ => 0) [] 0 0 := by
    refine ⟨⟨(I v2 100 43).toNat, ?_⟩, e3 4 (by simp), ez2 28 (by simp), by omega, by omega⟩
    refine ⟨TXs_fr Fu1 Fv2 rfl (fun _ => rfl) rfl (fun _ => rfl) hT, Or.inr ⟨b, k, TLs_fr Fu1 Fv2 (fun _ => rfl) (fun _ => rfl) (fun i hi => by simp; omega) hL, by omega, fun _ => by omega⟩, by rw [Fr_I Fu1 rfl]; exact h44, by rw [Fr_I Fv2 rfl]; exact h21, by rw [Fr_I Fu1 rfl]; exact h43, ez2 37 (by simp), by omega, SYT_fr Fu1 Fv2 rfl (fun k i hk => by simp; omega) rfl (fun k i hk => by simp; omega) hSY, e3 6 (by simp), ez2 33 (by simp), ⟨e3 10 (by simp), fun x hx => by omega, fun x x' hx => by omega⟩, ⟨ez2 35 (by simp), fun x hx => by omega, fun x x' hx => by omega⟩, by omega, by omega, by omega, ⟨fun x hx => by omega, fun x _ => rfl, e3 12 (by simp), fun i x hx => by simp at hx, List.nodup_nil, fun x hx => by omega, fun x => by show (0 : Nat) < 1000000; decide⟩, by rw [hN43v]; omega, fun y hy => by omega⟩
  obtain ⟨u3, r, c1, c2⟩ := chain_both hPF (fun _ => rfl) g2 hV2
  have Fu1A : Fr PAf u u1 := Fr_up2 (fun k i hk => by simp at hk; simp [PAf, PA, Pnd]; omega) Fu1
  have Fv2A : Fr QAf v v2 := Fr_up2 (fun k i hk => by simp at hk; simp [QAf, QA, Qts, Qvs]; omega) Fv2
  have hSK0 : SKp u u1 v v2 S := SKp_fr Fu1 Fv2 (fun k i hk => by simp; omega) (fun i => by simp)
  have hrb : ∀ (K : St → Option (Int32 × St)), rBody (zI s) K v = b2 (fX12_formula vz) fun r17 u16 => if (gI u16 100 21) = 0 then (b2 (fX12_must 6 u16) fun r20 u19 => if r20 = 0 then K u19 else bd (fX12_become r17 u19) fun u23 => if (gI u23 100 47) = 0 then K u23 else bd (fX12_fail 5 (zI s) u23) fun u25 => K u25) else K u16 := by
    intro K
    unfold rBody
    have hvz' : uI (uI (uI (uI v 100 28 0) 100 33 0) 100 35 0) 100 37 0 = vz := hvz
    rw [lt_e, lt_e, lt_e, lt_e, hvz']
  have hcb : ∀ (E K : St → Option (Int32 × St)), cBody (zI s) E K u = b2 (fX2_want 7 u3) fun _ u15 => if (gI u15 4 4) = 0 then (if 60 < (gI u15 2 3) then (bd (fX2_fail 5 (zI s) u15) fun u6 => E u6) else b2 (fX0_make (zI r) u15) fun r20 u19 => if r20 = 0 then (bd (fX2_fail 5 (zI s) u19) fun u6 => E u6) else K u19) else E u15 := by
    intro E K
    unfold cBody
    rw [hbeg, bd_s, c1, b2_s]
  rcases c2 with ⟨v3, N, t', S', R', NC', NR', F', Kc', Kr', j, dd, w, g, hh, q, cc, e0, occ, d1, d2, d3, d4, d5, d6, d7, d8, d9, d10, d11, d12, d13, d13b, d14, d15, d16, d17⟩ | ⟨v3, N, d1, d2, d3, d4⟩
  · -- the formula is read
    have d2' : ∀ G, fX12_formula_L0 (G + N) 0 v2 = fX12_formula_L0 G 0 v3 := d2
    have hb3 := PF_bits d3
    obtain ⟨v4, q1, q2, q3⟩ := got_spec v3 [] j (by simp) d5
    have hfm : fX12_formula vz = some (zI j, v4) := by
      rw [hform, show FU = (FU - N - 1 + 1) + N by unfold FU; omega, d2']
      have sx : fX12_formula_L0 (FU - N - 1 + 1) 0 v3 = fX12_formula_L0_0 (fX12_formula_L0 (FU - N - 1)) v3 := rfl
      have h38 : I v3 100 38 = 0 := d4.1
      rw [sx]
      unfold fX12_formula_L0_0
      rw [gI_z v3 100 38, h38, if_pos (by decide)]
      unfold fX12_formula_j65
      rw [gI_z v3 100 21, hb3.2.1, if_pos (by decide), q1, b2_s]
    have hPF4 : PFo u3 v4 n t' S' R' NC' NR' 0 (fun _ => 0) F' Kc' Kr' := PF_fr (Fr_rfl (fun _ _ => false) u3) q3 (fun _ _ _ => rfl) (fun k i hk => by simp; omega) d3
    have hIS4 : IS u3 v4 S' R' NC' NR' Kc' 0 Kr' dd r j w g hh q cc occ := IS_mono (Nat.le_refl _) (Nat.le_refl _) (Nat.le_refl _) (Nat.le_refl _) (Nat.le_refl _) (Nat.le_refl _) (Nat.le_refl _) (PZ_fr (Fr_rfl (fun _ _ => false) u3) q3 (fun _ _ _ => rfl) (fun k i hk => by simp; omega)) (fun _ _ _ _ => rfl) (fun k j _ _ hk => Fr_I q3 (by simp; omega)) (fun j _ _ => Fr_J q3 (by simp)) dd _ _ _ _ _ _ _ _ d14
    have h21' : I v4 100 21 = 0 := (PF_bits hPF4).2.1
    have Fu3A : Fr PAf u u3 := Fr_tr Fu1A d6.2.2.2.2.1
    have Fv4A : Fr QAf v v4 := Fr_tr Fv2A (Fr_tr d6.2.2.2.2.2 (Fr_up2 (fun k i hk => by simp at hk; simp [QAf, Qvs, hk]) q3))
    have hSK4 : SKp u u3 v v4 S := SKp_tr (Nat.le_refl _) hSK0 (SKp_tr d8 d6.1.1 (SKp_fr (S := S') (Fr_rfl (fun _ _ => false) u3) q3 (fun _ _ _ => rfl) (fun i => by simp)))
    have hm4 : 0 ≤ I v4 100 43 := by
      obtain ⟨m, hm⟩ := hPF4.1
      have := hm.2.2.2.2.2.2.2.2.2.2.2.2.2.2.2.2.1
      omega
    obtain ⟨u4, v5, w1⟩ := pf_want 6 (by omega) (by omega) hPF4
    rcases w1 with ⟨s', b', w1, w2, w3, w4, w5, w6, w7, w8⟩ | ⟨w1, w2, w3⟩
    · -- the point is there
      have w1' : fX2_want 7 u3 = some (1, u4) := w1
      have w2' : fX12_must 6 v4 = some (1, v5) := w2
      have hIS5 : IS u4 v5 S' R' NC' NR' Kc' 0 Kr' dd r j w g hh q cc occ := IS_mono (Nat.le_refl _) (Nat.le_refl _) (Nat.le_refl _) (Nat.le_refl _) (Nat.le_refl _) (Nat.le_refl _) (Nat.le_refl _) w7.1 w7.2.1 (fun k j _ hj hk => w7.2.2.1 k j hj hk) (fun j _ hj => w7.2.2.2.1 j hj) dd _ _ _ _ _ _ _ _ hIS4
      have hb5 := PF_bits w3
      have Fu4A : Fr PAf u u4 := Fr_tr Fu3A w7.2.2.2.2.1
      have Fv5A : Fr QAf v v5 := Fr_tr Fv4A w7.2.2.2.2.2
      have hSK5 : SKp u u4 v v5 S := SKp_tr d8 hSK4 w7.1.1
      have RK5 : RKp u u4 v v5 S C (fi C) (ps (fi C)) := RKp_A _ _ _ hSK5 Fu4A Fv5A
      obtain ⟨⟨m, hPQ⟩, hKc, hKr, hKc2, hKr2⟩ := w3
      have hPQ' := hPQ
      obtain ⟨p1, p2, p3, p4, p5, p6, p7, p8, p9, p10, p11, p12, p13, p14, p15, p16, p17, p18⟩ := hPQ'
      have hm5 : 0 ≤ I v5 100 43 := by omega
      have hS5 : I u4 2 3 = S' := p8.1
      have hSl : S' ≤ 810 := p8.2.2.1
      have hg21 : gI v4 100 21 = zI 0 := by rw [gI_z, h21']
      have h44' : gI u4 4 4 = zI 0 := by rw [gI_z, p3]
      have rb5 : ∀ K, rBody (zI s) K v = bd (fX12_become (zI j) v5) fun u23 => if (gI u23 100 47) = 0 then K u23 else bd (fX12_fail 5 (zI s) u23) fun u25 => K u25 := by
        intro K
        rw [hrb, hfm, b2_s, hg21, if_pos (show zI 0 = 0 from rfl), w2', b2_s, if_neg (by decide)]
      have cb5 : ∀ E K, cBody (zI s) E K u = if 60 < zI (S' : Int) then (bd (fX2_fail 5 (zI s) u4) fun u6 => E u6) else b2 (fX0_make (zI r) u4) fun r20 u19 => if r20 = 0 then (bd (fX2_fail 5 (zI s) u19) fun u6 => E u6) else K u19 := by
        intro E K
        rw [hcb, w1', b2_s, h44', if_pos (show zI 0 = 0 from rfl), gI_z u4 2 3, hS5]
      by_cases hS' : S' ≤ 60
      · have hSR5 := SR_A Fu4A Fv5A hSR
        have hSY5 : SYr u4 v5 S' nf (ps (fi C)) c := SYr_sk d8 hSK5 (fun p _ => Fr_I Fv5A (bfalse (fun hh => by have := QAf_e hh; omega))) hSYr
        obtain ⟨u5, v6, y1, y2, y3, y4, y5, y6⟩ := mk_both (B := fun _ => 0) (F := F') (nf0 := nf) hIS5 d16 (by omega) (fun _ => rfl) d15 p16 p11 ⟨p12, p18⟩ hS' p8 p9 p10 (by omega) (by omega) (by omega) (by omega) hSR5 hSY5 hVO (by rw [Fr_I Fu4A rfl]; exact h24) (by rw [Fr_I Fv5A rfl]; exact h7) (by omega) (by rw [Fr_I Fu4A rfl]; exact h49) (by rw [Fr_I Fu4A rfl]; exact h52)
        have hSK6 : SKp u4 u5 v5 v6 S' := SKp_fr y3 y4 (fun k i hk => bfalse (fun hh => by have := PMk_e hh; omega)) (fun i => bfalse (fun hh => by have := QMk_e hh; omega))
        have RK6 : RKp u u5 v v6 S C (fi C) (ps (fi C)) := RKp_tr d8 (Nat.le_refl _) (Nat.le_refl _) (Nat.le_refl _) RK5 ⟨y1, y2, hSK6, Fr_up2 PMk_PRd y3, Fr_up2 QMk_QRd y4⟩
        have pu : ∀ k i, (k = 1 ∨ k = 4 ∨ k = 14 ∨ k = 15 ∨ k = 16 ∨ k = 17 ∨ (k = 2 ∧ i = 3) ∨ ((k = 49 ∨ k = 52) ∧ i = 0)) → PMk k i = false := fun k i hk => bfalse (fun hh => by have := PMk_e hh; omega)
        have qv : ∀ k i, ((k = 100 ∧ (i = 2 ∨ i = 3 ∨ (21 ≤ i ∧ i ≤ 28) ∨ i = 43)) ∨ k = 101 ∨ k = 102 ∨ k = 103 ∨ k = 104) → QMk k i = false := fun k i hk => bfalse (fun hh => by have := QMk_e hh; omega)
        have hm6 : 0 ≤ I v6 100 43 := by rw [Fr_I y4 (qv _ _ (by omega))]; exact hm5
        rcases y6 with ⟨z1, z2, nf', C', fi', ps', nv', c', e', z3, z4, z5, z6, z7, z8, z9, z10, z11, z12⟩ | ⟨z1, z2⟩
        · refine ⟨u5, v6, RK6, hm6, fun K => ?_, Or.inl ⟨fun E K => ?_, b', S', nf', C', fi', ps', nv', c', e', ⟨TXs_fr y3 y4 (pu _ _ (by omega)) (fun i => pu _ _ (by omega)) (qv _ _ (by omega)) (fun i => qv _ _ (by omega)) p1, TKp_fr y3 y4 (fun i => pu _ _ (by omega)) (fun i => pu _ _ (by omega)) (fun i hi => qv _ _ (by omega)) (TKS_TKp p2), w6, by rw [Fr_I y3 (pu _ _ (by omega))]; exact p3, by rw [Fr_I y4 (qv _ _ (by omega))]; exact p4, by rw [Fr_I y3 (pu _ _ (by omega))]; exact p5, SYT_fr y3 y4 (pu _ _ (by omega)) (fun k i hk => pu _ _ (by omega)) (qv _ _ (by omega)) (fun k i hk => qv _ _ (by omega)) p8, hS', z7, z8, z9, z5, z6, by rw [Fr_I y3 (pu _ _ (by omega)), Fr_I Fu4A rfl]; exact h49, by rw [Fr_I y3 (pu _ _ (by omega)), Fr_I Fu4A rfl]; exact h52, hm6⟩, by omega, d8, by omega, z3, z10, z11, z12⟩⟩
          · rw [rb5, y5, bd_s, gI_z v6 100 47, z2, if_pos (show zI 0 = 0 from rfl)]
          · rw [cb5, if_neg (by rw [z_lit, z_lt (by decide) (by decide) (by omega) (by omega)]; omega), z1, b2_s, if_neg (by decide)]
        · obtain ⟨u6, v7, f1, f2, f3, f4, f5⟩ := fail_both (u := u5) (v := v6) 5 s (by decide) (by decide) (by omega) (by omega) (by rw [Fr_I y3 (pu _ _ (by omega))]; exact p3) (by rw [Fr_I y4 (qv _ _ (by omega))]; exact p4)
          have f1' : fX2_fail 5 (zI s) u5 = some u6 := f1
          have f2' : fX12_fail 5 (zI s) v6 = some v7 := f2
          refine ⟨u6, v7, RKp_tr (Nat.le_refl _) (Nat.le_refl _) (Nat.le_refl _) (Nat.le_refl _) RK6 (RKp_A _ _ _ (SKp_fr f4 f5 (fun k i hk => by simp; omega) (fun i => by simp)) (Fr_up2 (fun k i hk => by simp at hk; simp [PAf, PA]; omega) f4) (Fr_up2 (fun k i hk => by simp at hk; simp [QAf, QA, QT]; omega) f5)), by rw [Fr_I f5 rfl]; exact hm6, fun K => ?_, Or.inr ⟨fun E K => ?_, f3, S', d8, SYT_fr f4 f5 rfl (fun k i hk => by simp; omega) rfl (fun k i hk => by simp; omega) (SYT_fr y3 y4 (pu _ _ (by omega)) (fun k i hk => pu _ _ (by omega)) (qv _ _ (by omega)) (fun k i hk => qv _ _ (by omega)) p8)⟩⟩
          · rw [rb5, y5, bd_s, gI_z v6 100 47, z2, if_neg (by decide), f2', bd_s]
          · rw [cb5, if_neg (by rw [z_lit, z_lt (by decide) (by decide) (by omega) (by omega)]; omega), z1, b2_s, if_pos rfl, f1', bd_s]
      · -- too many names
        have F47 : Fr (fun k i => k == 100 && i == 47) v5 (uI v5 100 47 1) := Fr_up rfl (Fr_rfl _ _)
        have e47 : I (uI v5 100 47 1) 100 47 = 1 := I_uI1 _ _ _ 1 (by decide) (by decide)
        have hbc : fX12_become (zI j) v5 = some (uI v5 100 47 1) := by
          unfold fX12_become
          rw [gI_z v5 100 3, p8.2.1, if_pos (by rw [z_lit, z_lt (by decide) (by decide) (by omega) (by omega)]; omega)]
          unfold fX12_become_j25
          rw [show zb (1 : Int32) = some 1 from rfl, bd_s, lt_e, gI_z _ 100 47, e47, if_neg (by decide)]
        obtain ⟨u6, v7, f1, f2, f3, f4, f5⟩ := fail_both (u := u4) (v := uI v5 100 47 1) 5 s (by decide) (by decide) (by omega) (by omega) p3 (by rw [Fr_I F47 rfl]; exact p4)
        have f1' : fX2_fail 5 (zI s) u4 = some u6 := f1
        have f2' : fX12_fail 5 (zI s) (uI v5 100 47 1) = some v7 := f2
        have F57 : Fr (fun k i => k == 100 && (i == 21 || i == 22 || i == 47)) v5 v7 := Fr_tr (Fr_up2 (fun k i hk => by simp at hk; simp [hk]) F47) (Fr_up2 (fun k i hk => by simp at hk; simp; omega) f5)
        refine ⟨u6, v7, RKp_tr d8 (Nat.le_refl _) (Nat.le_refl _) (Nat.le_refl _) RK5 ⟨STk_fr _ _ _ f4 (fun k i hk => by simp; omega), RTk_fr _ _ _ F57 (fun k i hk => by simp; omega), SKp_fr f4 F57 (fun k i hk => by simp; omega) (fun i => by simp), Fr_up2 (fun k i hk => by simp at hk; simp [PRd, PAf, PA]; omega) f4, Fr_up2 (fun k i hk => by simp at hk; simp [QRd, QAf, QA, QT, QMk, QM]; omega) F57⟩, by rw [Fr_I F57 rfl]; exact hm5, fun K => ?_, Or.inr ⟨fun E K => ?_, f3, S', d8, SYT_fr f4 F57 rfl (fun k i hk => by simp; omega) rfl (fun k i hk => by simp; omega) p8⟩⟩
        · rw [rb5, hbc, bd_s, gI_z _ 100 47, e47, if_neg (by decide), f2', bd_s]
        · rw [cb5, if_pos (by rw [z_lit, z_lt (by decide) (by decide) (by omega) (by omega)]; omega), f1', bd_s]
    · -- no point
      have w1' : fX2_want 7 u3 = some (0, u4) := w1
      have w2' : fX12_must 6 v4 = some (0, v5) := w2
      have hne := FLT_ne w3.1
      have k5 : KE v4 v5 := K_must 6 (KE_rfl _) 0 v5 w2'
      have hm5 : 0 ≤ I v5 100 43 := by unfold I at hm4 ⊢; rw [show gI v5 100 43 = gI v4 100 43 from k5]; exact hm4
      obtain ⟨x1, ⟨S2, x2, x3⟩, x4, x5, x6, x7, x8⟩ := w3
      refine ⟨u4, v5, RKp_A _ _ _ (SKp_tr d8 hSK4 x4) (Fr_tr Fu3A x7) (Fr_tr Fv4A x8), hm5, fun K => ?_, Or.inr ⟨fun E K => ?_, x1, S2, by omega, x3⟩⟩
      · rw [hrb, hfm, b2_s, gI_z v4 100 21, h21', if_pos (show zI 0 = 0 from rfl), w2', b2_s, if_pos rfl]
      · rw [hcb, w1', b2_s, if_neg (by
          rw [gI_z u4 4 4, z_zero, z_eq (I_lo _ _ _) (I_hi _ _ _) (by decide) (by decide)]; exact hne.1)]
  · -- a fault in the formula
    have d2' : ∀ G, fX12_formula_L0 (G + N) 0 v2 = some (0, v3) := d2
    have hne := FLT_ne d3.1
    have hfm : fX12_formula vz = some (0, v3) := by
      rw [hform, show FU = (FU - N) + N by unfold FU; omega, d2']
    have hm3 : 0 ≤ I v3 100 43 := N_formula (NE_rfl vz) 0 v3 hfm (by rw [Fr_I Fvz rfl]; exact hN43)
    obtain ⟨x1, ⟨S2, x2, x3⟩, x4, x5, x6, x7, x8⟩ := d3
    have hwf : fX2_want 7 u3 = some (0, u3) := want_flt u3 7 hne.1 (by decide)
    refine ⟨u3, v3, RKp_A _ _ _ (SKp_tr (Nat.le_refl _) hSK0 x4) (Fr_tr Fu1A x7) (Fr_tr Fv2A x8), hm3, fun K => ?_, Or.inr ⟨fun E K => ?_, x1, S2, x2, x3⟩⟩
    · rw [hrb, hfm, b2_s, if_neg (by
        rw [gI_z v3 100 21, z_zero, z_eq (I_lo _ _ _) (I_hi _ _ _) (by decide) (by decide)]; exact hne.2.2)]
    · rw [hcb, hwf, b2_s, if_neg (by
        rw [gI_z u3 4 4, z_zero, z_eq (I_lo _ _ _) (I_hi _ _ _) (by decide) (by decide)]; exact hne.1)]
