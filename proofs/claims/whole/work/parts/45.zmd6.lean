/-! the call read -/
theorem rd_pu {k i : Nat} (h : PRd k i = true) : (1 ≤ k ∧ k ≤ 6) ∨ (15 ≤ k ∧ k ≤ 19) ∨ (29 ≤ k ∧ k ≤ 56 ∧ (i ≠ 0 ∨ (k ≠ 49 ∧ k ≠ 52))) := by
  unfold PRd at h
  rw [Bool.or_eq_true] at h
  rcases h with h | h
  · have := PAf_e h; omega
  · have := PMk_e h; omega
theorem rd_qv {k i : Nat} (h : QRd k i = true) : (k = 100 ∧ (i = 3 ∨ i = 7 ∨ i = 8 ∨ i = 10 ∨ i = 14 ∨ i = 17 ∨ (21 ≤ i ∧ i ≤ 73))) ∨ (102 ≤ k ∧ k ≤ 143) := by
  unfold QRd at h
  rw [Bool.or_eq_true] at h
  rcases h with h | h
  · have := QAf_e h; omega
  · have := QMk_e h; omega
/-- the cells that a reading may write -/
def PCr : Nat → Nat → Bool := fun k i => PRd k i || (k == 0 && i == 7) || (k == 9 && (i == 13 || i == 14 || i == 15))
def QCr : Nat → Nat → Bool := fun k i => QRd k i || (k == 100 && (i == 0 || i == 101 || i == 103 || i == 105))
theorem PCr_e {k i : Nat} (h : PCr k i = true) : (1 ≤ k ∧ k ≤ 6) ∨ (15 ≤ k ∧ k ≤ 19) ∨ (29 ≤ k ∧ k ≤ 56 ∧ (i ≠ 0 ∨ (k ≠ 49 ∧ k ≠ 52))) ∨ (k = 0 ∧ i = 7) ∨ (k = 9 ∧ (i = 13 ∨ i = 14 ∨ i = 15)) := by
  unfold PCr at h
  simp only [Bool.or_eq_true, Bool.and_eq_true, beq_iff_eq] at h
  rcases h with (h | h) | h
  · have := rd_pu h; omega
  · omega
  · omega
theorem QCr_e {k i : Nat} (h : QCr k i = true) : (k = 100 ∧ (i = 0 ∨ i = 3 ∨ i = 7 ∨ i = 8 ∨ i = 10 ∨ i = 14 ∨ i = 17 ∨ (21 ≤ i ∧ i ≤ 73) ∨ i = 101 ∨ i = 103 ∨ i = 105)) ∨ (102 ≤ k ∧ k ≤ 143) := by
  unfold QCr at h
  simp only [Bool.or_eq_true, Bool.and_eq_true, beq_iff_eq] at h
  rcases h with h | h
  · have := rd_qv h; omega
  · omega
theorem PGr_c {P Q : Nat → Nat → Bool} {u u' v v' : St} (hu : Fr P u u') (hv : Fr Q v v') (hP : ∀ k i, (k = 10 ∨ k = 71 ∨ k = 72) → P k i = false) (hQ : ∀ k i, (k = 144 ∨ (k = 100 ∧ i = 76)) → Q k i = false) (h : PGr u v) : PGr u' v' := PGr_fr hu hv (hP _ _ (by omega)) (hP _ _ (by omega)) (hP _ _ (by omega)) (fun i => hP _ _ (by omega)) (fun i => hP _ _ (by omega)) (hQ _ _ (by omega)) (fun i => hQ _ _ (by omega)) h
theorem PCr_n {k i : Nat} (hk : k = 10 ∨ k = 71 ∨ k = 72 ∨ (57 ≤ k ∧ k ≤ 70) ∨ k = 7 ∨ (k = 9 ∧ i = 9) ∨ ((k = 49 ∨ k = 52) ∧ i = 0)) : PCr k i = false := bfalse (fun hh => by have := PCr_e hh; omega)
theorem QCr_n {k i : Nat} (hk : (144 ≤ k) ∨ (k = 100 ∧ (i = 76 ∨ i = 93))) : QCr k i = false := bfalse (fun hh => by have := QCr_e hh; omega)
/-- what is written before the first formula, and behind a fault -/
def PUs : Nat → Nat → Bool := fun k i => (k == 1 && (i == 5 || i == 6)) || (k == 4 && (i == 3 || i == 4))
def QVs : Nat → Nat → Bool := fun k i => k == 100 && (i == 0 || i == 21 || i == 22 || i == 23 || i == 24)
def PUf : Nat → Nat → Bool := fun k i => (k == 0 && i == 7) || (k == 2 && (i == 3 || i == 4 || i == 5))
def QVf : Nat → Nat → Bool := fun k i => k == 100 && (i == 3 || i == 7 || i == 10 || i == 14 || i == 17)
def PUg : Nat → Nat → Bool := fun k i => (k == 0 && i == 7) || (k == 9 && (i == 13 || i == 14 || i == 15))
def QVg : Nat → Nat → Bool := fun k i => k == 100 && (i == 101 || i == 103 || i == 105)
def PCf : Nat → Nat → Bool := fun k i => PRd k i || (k == 0 && i == 7)
def QCf : Nat → Nat → Bool := fun k i => QRd k i || (k == 100 && i == 0)
theorem PUs_f : ∀ k i, PUs k i = true → PCf k i = true := by
  intro k i hk
  simp only [PUs, Bool.or_eq_true, Bool.and_eq_true, beq_iff_eq] at hk
  rcases hk with ⟨h, h' | h'⟩ | ⟨h, h' | h'⟩ <;> subst h <;> subst h' <;> rfl
theorem QVs_f : ∀ k i, QVs k i = true → QCf k i = true := by
  intro k i hk
  simp only [QVs, Bool.or_eq_true, Bool.and_eq_true, beq_iff_eq] at hk
  rcases hk with ⟨h, (((h' | h') | h') | h') | h'⟩ <;> subst h <;> subst h' <;> rfl
theorem PUf_f : ∀ k i, PUf k i = true → PCf k i = true := by
  intro k i hk
  simp only [PUf, Bool.or_eq_true, Bool.and_eq_true, beq_iff_eq] at hk
  rcases hk with ⟨h, h'⟩ | ⟨h, (h' | h') | h'⟩ <;> subst h <;> subst h' <;> rfl
theorem QVf_f : ∀ k i, QVf k i = true → QCf k i = true := by
  intro k i hk
  simp only [QVf, Bool.or_eq_true, Bool.and_eq_true, beq_iff_eq] at hk
  rcases hk with ⟨h, (((h' | h') | h') | h') | h'⟩ <;> subst h <;> subst h' <;> rfl
theorem PUg_c : ∀ k i, PUg k i = true → PCr k i = true := by
  intro k i hk
  simp only [PUg, Bool.or_eq_true, Bool.and_eq_true, beq_iff_eq] at hk
  rcases hk with ⟨h, h'⟩ | ⟨h, (h' | h') | h'⟩ <;> subst h <;> subst h' <;> rfl
theorem QVg_c : ∀ k i, QVg k i = true → QCr k i = true := by
  intro k i hk
  simp only [QVg, Bool.or_eq_true, Bool.and_eq_true, beq_iff_eq] at hk
  rcases hk with ⟨h, (h' | h') | h'⟩ <;> subst h <;> subst h' <;> rfl
theorem PRd_f : ∀ k i, PRd k i = true → PCf k i = true := fun k i hk => by simp [PCf, hk]
theorem QRd_f : ∀ k i, QRd k i = true → QCf k i = true := fun k i hk => by simp [QCf, hk]
theorem PCf_c : ∀ k i, PCf k i = true → PCr k i = true := fun k i hk => by
  simp only [PCf, Bool.or_eq_true] at hk
  simp only [PCr, Bool.or_eq_true]
  rcases hk with h | h
  · exact Or.inl (Or.inl h)
  · exact Or.inl (Or.inr h)
theorem QCf_c : ∀ k i, QCf k i = true → QCr k i = true := fun k i hk => by
  simp only [QCf, Bool.or_eq_true, Bool.and_eq_true, beq_iff_eq] at hk
  simp only [QCr, Bool.or_eq_true, Bool.and_eq_true, beq_iff_eq]
  rcases hk with h | ⟨h, h'⟩
  · exact Or.inl h
  · exact Or.inr ⟨h, Or.inl (Or.inl (Or.inl h'))⟩
theorem PCf_n {k i : Nat} (hk : (57 ≤ k ∧ k ≤ 70) ∨ k = 7 ∨ k = 9 ∨ k = 14) : PCf k i = false := bfalse (fun hh => by
  simp only [PCf, Bool.or_eq_true, Bool.and_eq_true, beq_iff_eq] at hh
  rcases hh with hh | hh
  · have := rd_pu hh; omega
  · omega)
theorem QCf_n {k i : Nat} (hk : 144 ≤ k ∨ k = 101 ∨ (k = 100 ∧ (i = 2 ∨ i = 93 ∨ 100 ≤ i))) : QCf k i = false := bfalse (fun hh => by
  simp only [QCf, Bool.or_eq_true, Bool.and_eq_true, beq_iff_eq] at hh
  rcases hh with hh | hh
  · have := rd_qv hh; omega
  · omega)
theorem PRd_11 : PRd 1 1 = false := rfl
theorem SYTr {u v : St} {S S' : Nat} (h : SYT u v S') (hS : S ≤ S') : NMr u v S := fun i hi => h.2.2.2 i (Nat.lt_of_lt_of_le hi hS)
theorem TXs_r {u v : St} {n : Nat} (h : TXs u v n) : TXr u v := by
  obtain ⟨h1, h2, h3, h4⟩ := h
  exact ⟨by omega, by omega, by omega, h4⟩
theorem PUs_n {k i : Nat} (hk : 10 ≤ k ∨ k = 2) : PUs k i = false := by simp [PUs]; omega
theorem QVs_n {k i : Nat} (hk : 101 ≤ k ∨ (k = 100 ∧ (i = 10 ∨ i = 14 ∨ i = 17))) : QVs k i = false := by simp [QVs]; omega
theorem PUf_n {k i : Nat} (hk : 10 ≤ k) : PUf k i = false := by simp [PUf]; omega
theorem QVf_n {k i : Nat} (hk : 101 ≤ k) : QVf k i = false := by simp [QVf]; omega
theorem PUg_n {k i : Nat} (hk : 10 ≤ k ∨ k = 2) : PUg k i = false := by simp [PUg]; omega
theorem QVg_n {k i : Nat} (hk : 101 ≤ k ∨ (k = 100 ∧ (i = 10 ∨ i = 14 ∨ i = 17))) : QVg k i = false := by simp [QVg]; omega
theorem PSc_e {k i : Nat} (h : PSc k i = true) : 10 ≤ k ∨ k = 2 := by simp [PSc] at h; omega
theorem PSr_e {k i : Nat} (h : PSr k i = true) : 101 ≤ k ∨ (k = 100 ∧ (i = 10 ∨ i = 14 ∨ i = 17)) := by simp [PSr] at h; omega
theorem SB_read {n : Nat} (hn : n < 512) : StepBoth fX11_read fX12_read (Re n) (Re (n + 1)) := by
  intro u v h
  obtain ⟨h1, ⟨⟨⟨p1, p2⟩, p3⟩, p4, p5⟩, h3, C, fi, ps, nv, c, e, S, F, g1, g2, g3, g4, g5, g6, g7, g8, g9, g10, g11⟩ := h
  obtain ⟨t1, t2, t3, t4⟩ := h1
  obtain ⟨N, hN⟩ : ∃ N : Nat, I u 1 1 = N := ⟨(I u 1 1).toNat, by omega⟩
  have hTX : TXs u v N := ⟨by omega, hN, by omega, t4⟩
  -- the start
  obtain ⟨u1, hu1⟩ : ∃ u1, uI (uI (uI (uI u 1 5 (zI 0)) 1 6 (zI 0)) 4 3 (zI 0)) 4 4 (zI 0) = u1 := ⟨_, rfl⟩
  have Fu1 : Fr PUs u u1 := by rw [← hu1]; exact Fr_up rfl (Fr_up rfl (Fr_up rfl (Fr_up rfl (Fr_rfl _ _))))
  have e15 : I u1 1 5 = 0 := by rw [← hu1]; simp (disch := omega) only [I_uI1, I_uI2]
  have e16 : I u1 1 6 = 0 := by rw [← hu1]; simp (disch := omega) only [I_uI1, I_uI2]
  have e43 : I u1 4 3 = 0 := by rw [← hu1]; simp (disch := omega) only [I_uI1, I_uI2]
  have e44 : I u1 4 4 = 0 := by rw [← hu1]; simp (disch := omega) only [I_uI1, I_uI2]
  obtain ⟨v1, hv1⟩ : ∃ v1, uI (uI (uI (uI (uI v 100 0 (zI 0)) 100 21 (zI 0)) 100 22 (zI (-1))) 100 23 (zI 0)) 100 24 (zI 0) = v1 := ⟨_, rfl⟩
  have Fv1 : Fr QVs v v1 := by rw [← hv1]; exact Fr_up rfl (Fr_up rfl (Fr_up rfl (Fr_up rfl (Fr_up rfl (Fr_rfl _ _)))))
  have d21 : I v1 100 21 = 0 := by rw [← hv1]; simp (disch := omega) only [I_uI1, I_uI2]
  have d23 : I v1 100 23 = 0 := by rw [← hv1]; simp (disch := omega) only [I_uI1, I_uI2]
  have d24 : I v1 100 24 = 0 := by rw [← hv1]; simp (disch := omega) only [I_uI1, I_uI2]
  have hc0 : fX11_read u = fX11_read_L0 FU 0 (zI C) (zI S) (zI F) (zI 0) u1 := by
    unfold fX11_read fX2_begin fX6_begin
    have hu1' : uI (uI (uI (uI u 1 5 0) 1 6 0) 4 3 0) 4 4 0 = u1 := hu1
    rw [gI_z u 2 5, g1.2.1, gI_z u 2 3, g3, gI_z u 2 4, g6, lt_e, lt_e, lt_e, lt_e, lt_e, bd_s, lt_e, lt_e, bd_s, hu1', lt_e]
    rfl
  have hr0 : fX12_read v = fX12_read_L0 FU 0 (zI S) (zI F) (zI C) (zI (fi C)) (zI (ps (fi C))) 0 0 0 v1 := by
    unfold fX12_read
    have hv1' : uI (uI (uI (uI (uI v 100 0 0) 100 21 0) 100 22 (-1)) 100 23 0) 100 24 0 = v1 := hv1
    have f : ∀ i, i ≠ 0 → gI (uI v 100 0 0) 100 i = gI v 100 i := fun i hi => by rw [show (0 : Int32) = zI 0 from rfl, gI_z, gI_z, I_uI2 _ _ _ _ _ _ (by omega)]
    rw [lt_e, f 3 (by decide), f 7 (by decide), f 10 (by decide), f 14 (by decide), f 17 (by decide), gI_z v 100 3, gI_z v 100 7, gI_z v 100 10, gI_z v 100 14, gI_z v 100 17, g4, g7, g1.2.2.1, g1.2.2.2.2.2.2.2.2.2.1, g1.2.2.2.2.2.2.2.2.2.2.1, lt_e, lt_e, lt_e, lt_e, lt_e, lt_e, lt_e, lt_e, lt_e, hv1']
  have hSK1 : SKp u u1 v v1 S := SKp_fr Fu1 Fv1 (fun k i hk => PUs_n (by omega)) (fun i => rfl)
  have hSR1 : SR u1 v1 C fi ps nv c e := SR_fr Fu1 Fv1 (fun k i hk => PUs_n (PSc_e hk)) (fun k i hk => QVs_n (PSr_e hk)) g1
  have hSYT1 : SYT u1 v1 S := ⟨by rw [Fr_I Fu1 rfl]; exact g3, by rw [Fr_I Fv1 rfl]; exact g4, by omega, NMr_fr Fu1 Fv1 (fun k i hk => PUs_n (by omega)) (fun k i hk => QVs_n (by omega)) g9⟩
  have hRL : RLs u1 v1 N 0 S F C fi ps nv c e := ⟨TXs_fr Fu1 Fv1 rfl (fun _ => rfl) rfl (fun _ => rfl) hTX, Or.inl ⟨e16, d24, e15, d23, by omega⟩, by omega, e44, d21, e43, hSYT1, g5, hSR1, SYr_sk (Nat.le_refl _) hSK1 (fun p _ => Fr_I Fv1 rfl) g10, g11, by rw [Fr_I Fu1 rfl]; exact g6, by rw [Fr_I Fv1 rfl]; exact g7, by rw [Fr_I Fu1 rfl]; exact p1, by rw [Fr_I Fu1 rfl]; exact p2, by rw [Fr_I Fv1 rfl]; exact p3⟩
  have hNl : N ≤ 1500 := hTX.1
  obtain ⟨u2, v2, ⟨k1, k2, k3, k4, k5⟩, m43, lc, lr, lo⟩ := rd_loop (n := N) (zI C) (zI S) (zI F) (zI S) (zI F) (zI C) (zI (fi C)) (zI (ps (fi C))) (N + 1) FU FU u1 v1 0 0 S F C fi ps nv c e (by omega) (by unfold FU; omega) (by unfold FU; omega) hRL (by omega) (by omega)
  have hc1 : fX11_read u = fX11_read_j144 (zI C) (zI S) (zI F) u2 := hc0.trans lc
  have hr1 := hr0.trans lr
  have Fu2 : Fr PCf u u2 := Fr_tr (Fr_up2 PUs_f Fu1) (Fr_up2 PRd_f k4)
  have Fv2 : Fr QCf v v2 := Fr_tr (Fr_up2 QVs_f Fv1) (Fr_up2 QRd_f k5)
  rcases lo with ⟨t', S', nf', C', fi', ps', nv', c', e', q1, q2⟩ | ⟨q1, S', q2, q3⟩
  · -- all is read
    obtain ⟨a1, a2, a3, a4, a5, a6, a7, a8, a9, a10, a11, a12, a13, a14, a15, a16⟩ := q1
    obtain ⟨u3, hu3⟩ : ∃ u3, uI (uI (uI (uI u2 0 7 (zI (-1))) 9 13 (zI 0)) 9 14 (zI 0)) 9 15 (zI 0) = u3 := ⟨_, rfl⟩
    have Fu3 : Fr PUg u2 u3 := by rw [← hu3]; exact Fr_up rfl (Fr_up rfl (Fr_up rfl (Fr_up rfl (Fr_rfl _ _))))
    have b7 : I u3 0 7 = -1 := by rw [← hu3]; simp (disch := omega) only [I_uI1, I_uI2, I_uI3]
    have b13 : I u3 9 13 = 0 := by rw [← hu3]; simp (disch := omega) only [I_uI1, I_uI2]
    have b14 : I u3 9 14 = 0 := by rw [← hu3]; simp (disch := omega) only [I_uI1, I_uI2]
    have b15 : I u3 9 15 = 0 := by rw [← hu3]; simp (disch := omega) only [I_uI1, I_uI2]
    obtain ⟨v3, hv3⟩ : ∃ v3, uI (uI (uI v2 100 101 (zI 0)) 100 103 (zI 0)) 100 105 (zI 0) = v3 := ⟨_, rfl⟩
    have Fv3 : Fr QVg v2 v3 := by rw [← hv3]; exact Fr_up rfl (Fr_up rfl (Fr_up rfl (Fr_rfl _ _)))
    have c101 : I v3 100 101 = 0 := by rw [← hv3]; simp (disch := omega) only [I_uI1, I_uI2]
    have c103 : I v3 100 103 = 0 := by rw [← hv3]; simp (disch := omega) only [I_uI1, I_uI2]
    have c105 : I v3 100 105 = 0 := by rw [← hv3]; simp (disch := omega) only [I_uI1, I_uI2]
    have hSR3 : SR u3 v3 C' fi' ps' nv' c' e' := SR_fr Fu3 Fv3 (fun k i hk => PUg_n (PSc_e hk)) (fun k i hk => QVg_n (PSr_e hk)) a9
    have hc2 : fX11_read u = some (zI C', u3) := by
      rw [hc1]
      unfold fX11_read_j144 fX3_forget
      have hu3' : uI (uI (uI (uI u2 0 7 (-1)) 9 13 0) 9 14 0) 9 15 0 = u3 := hu3
      rw [gI_z u2 4 4, a4, if_pos (show zI 0 = 0 from rfl), lt_e, lt_e, lt_e, lt_e, bd_s, hu3', gI_z u3 2 5, hSR3.2.1]
    have hr2 : fX12_read v = some (zI C', v3) := by
      rw [hr1]
      unfold rEnd fX12_forget
      have hv3' : uI (uI (uI v2 100 101 0) 100 103 0) 100 105 0 = v3 := hv3
      rw [gI_z v2 100 21, a5, if_pos (by decide), lt_e, lt_e, lt_e, bd_s, hv3', gI_z v3 100 10, hSR3.2.2.1]
    have Fu : Fr PCr u u3 := Fr_tr (Fr_up2 PCf_c Fu2) (Fr_up2 PUg_c Fu3)
    have Fv : Fr QCr v v3 := Fr_tr (Fr_up2 QCf_c Fv2) (Fr_up2 QVg_c Fv3)
    obtain ⟨T, hT⟩ := FO_BCs g2
    have hTX3 := TXs_fr Fu3 Fv3 rfl (fun _ => rfl) rfl (fun _ => rfl) a1
    have hSY3 := SYT_fr Fu3 Fv3 rfl (fun k i hk => PUg_n (by omega)) rfl (fun k i hk => QVg_n (by omega)) a7
    have e21 : I v3 100 21 = 0 := by rw [Fr_I Fv3 rfl]; exact a5
    refine ⟨zI C', u3, v3, hc2, hr2, TXs_r hTX3, ⟨⟨⟨by rw [Fr_I Fu3 rfl]; exact a14, by rw [Fr_I Fu3 rfl]; exact a15⟩, by rw [Fr_I Fv3 rfl]; exact m43⟩, by omega, by rw [b7, e21, if_neg (by decide)]⟩, PGr_c Fu Fv (fun k i hk => PCr_n (by omega)) (fun k i hk => QCr_n (by omega)) h3, C', fi', ps', nv', c', e', S', nf', hSR3, ⟨by rw [b13, c101], by rw [b14, c103], by rw [b15, c105], Or.inl ⟨b15, T, BCs_fr Fu (fun i => PCr_n (by simp)) (fun i => PCr_n (by simp)) (PCr_n (by simp)) (fun i => PCr_n (by simp)) hT⟩⟩, hSY3.1, hSY3.2.1, a8, by rw [Fr_I Fu3 rfl]; exact a12, by rw [Fr_I Fv3 rfl]; exact a13, by omega, hSY3.2.2.2, SYr_fr Fu3 Fv3 (fun _ => rfl) (fun _ => rfl) a10, a11⟩
  · -- a fault
    obtain ⟨f, p, r1, r2, r3, r4, r5, r6⟩ := q1
    obtain ⟨u3, hu3⟩ : ∃ u3, uI (uI (uI (uI u2 2 5 (zI C)) 2 3 (zI S)) 2 4 (zI F)) 0 7 (zI p) = u3 := ⟨_, rfl⟩
    have pr := I_lo u2 4 5
    have pr2 := I_hi u2 4 5
    have hC100 := g1.1
    have hf1200 := (SR_fi g1).2.2
    have hps : ps (fi C) ≤ 20000 := g1.2.2.2.2.2.2.2.2.2.2.2.2.1.1
    have Fu3 : Fr PUf u2 u3 := by rw [← hu3]; exact Fr_up rfl (Fr_up rfl (Fr_up rfl (Fr_up rfl (Fr_rfl _ _))))
    have b7 : I u3 0 7 = p := by rw [← hu3]; simp (disch := omega) only [I_uI1, I_uI2]
    have b3 : I u3 2 3 = S := by rw [← hu3]; simp (disch := omega) only [I_uI1, I_uI2, I_uI3]
    have b4 : I u3 2 4 = F := by rw [← hu3]; simp (disch := omega) only [I_uI1, I_uI2, I_uI3]
    have b5 : I u3 2 5 = C := by rw [← hu3]; simp (disch := omega) only [I_uI1, I_uI2, I_uI3]
    obtain ⟨v3, hv3⟩ : ∃ v3, uI (uI (uI (uI (uI v2 100 3 (zI S)) 100 7 (zI F)) 100 10 (zI C)) 100 14 (zI (fi C))) 100 17 (zI (ps (fi C))) = v3 := ⟨_, rfl⟩
    have Fv3 : Fr QVf v2 v3 := by rw [← hv3]; exact Fr_up rfl (Fr_up rfl (Fr_up rfl (Fr_up rfl (Fr_up rfl (Fr_rfl _ _)))))
    have c3 : I v3 100 3 = S := by rw [← hv3]; simp (disch := omega) only [I_uI1, I_uI2]
    have c7 : I v3 100 7 = F := by rw [← hv3]; simp (disch := omega) only [I_uI1, I_uI2]
    have c10 : I v3 100 10 = C := by rw [← hv3]; simp (disch := omega) only [I_uI1, I_uI2]
    have c14 : I v3 100 14 = fi C := by rw [← hv3]; simp (disch := omega) only [I_uI1, I_uI2]
    have c17 : I v3 100 17 = ps (fi C) := by rw [← hv3]; simp (disch := omega) only [I_uI1, I_uI2]
    have hc2 : fX11_read u = some (zI (-10 - f), u3) := by
      rw [hc1]
      unfold fX11_read_j144 fX4_takeBack
      have e45 : gI (uI (uI (uI u2 2 5 (zI C)) 2 3 (zI S)) 2 4 (zI F)) 4 5 = zI p := by rw [gI_z, I_uI3 _ _ _ _ _ _ (by decide), I_uI3 _ _ _ _ _ _ (by decide), I_uI3 _ _ _ _ _ _ (by decide), r5]
      rw [gI_z u2 4 4, r3, if_neg (by rw [z_zero, z_eq (by omega) (by omega) (by decide) (by decide)]; omega), lt_e, lt_e, lt_e, bd_s, lt_e, e45, hu3, gI_z u3 4 4, Fr_I Fu3 rfl, r3, show (-10 : Int32) = zI (-10) from rfl, z_sub]
    have hr2 : fX12_read v = some (zI (-10 - f), v3) := by
      rw [hr1]
      unfold rEnd
      rw [gI_z v2 100 21, r4, if_neg (by rw [z_zero, z_le (by omega) (by omega) (by decide) (by decide)]; omega), lt_e, lt_e, lt_e, lt_e, lt_e, hv3, gI_z v3 100 21, Fr_I Fv3 rfl, r4, show (-10 : Int32) = zI (-10) from rfl, z_sub]
    have Fu' : Fr PCf u u3 := Fr_tr Fu2 (Fr_up2 PUf_f Fu3)
    have Fu : Fr PCr u u3 := Fr_up2 PCf_c Fu'
    have Fv' : Fr QCf v v3 := Fr_tr Fv2 (Fr_up2 QVf_f Fv3)
    have Fv : Fr QCr v v3 := Fr_up2 QCf_c Fv'
    have STu : STk u u3 C (fi C) (ps (fi C)) := STk_tr (Nat.le_refl _) (Nat.le_refl _) (Nat.le_refl _) (STk_fr _ _ _ Fu1 (fun k i hk => PUs_n (by omega))) (STk_tr (Nat.le_refl _) (Nat.le_refl _) (Nat.le_refl _) k1 (STk_fr _ _ _ Fu3 (fun k i hk => PUf_n (by omega))))
    have RTv : RTk v v3 C (fi C) (ps (fi C)) := RTk_tr (Nat.le_refl _) (Nat.le_refl _) (Nat.le_refl _) (RTk_fr _ _ _ Fv1 (fun k i hk => QVs_n (by omega))) (RTk_tr (Nat.le_refl _) (Nat.le_refl _) (Nat.le_refl _) k2 (RTk_fr _ _ _ Fv3 (fun k i hk => QVf_n (by omega))))
    have hSK3 : SKp u u3 v v3 S := SKp_tr (Nat.le_refl _) hSK1 (SKp_tr (Nat.le_refl _) k3 (SKp_fr Fu3 Fv3 (fun k i hk => PUf_n (by omega)) (fun i => rfl)))
    have hTX3 : TXs u3 v3 N := TXs_fr Fu' Fv' rfl (fun i => PCf_n (by simp)) (QCf_n (by simp)) (fun i => QCf_n (by simp)) hTX
    have e21 : I v3 100 21 = f := by rw [Fr_I Fv3 rfl]; exact r4
    have e22 : I v3 100 22 = p := by rw [Fr_I Fv3 rfl]; exact r6
    have hNM3 : NMr u3 v3 S := NMr_fr Fu3 Fv3 (fun k i hk => PUf_n (by omega)) (fun k i hk => QVf_n (by omega)) (SYTr q3 q2)
    refine ⟨zI (-10 - f), u3, v3, hc2, hr2, TXs_r hTX3, ⟨⟨⟨by rw [Fr_I Fu (PCr_n (by simp))]; exact p1, by rw [Fr_I Fu (PCr_n (by simp))]; exact p2⟩, by rw [Fr_I Fv3 rfl]; exact m43⟩, by omega, by rw [b7, e21, e22, if_pos (by omega)]⟩, PGr_c Fu Fv (fun k i hk => PCr_n (by omega)) (fun k i hk => QCr_n (by omega)) h3, C, fi, ps, nv, c, e, S, F, SR_k STu RTv b5 c10 c14 c17 g1, ?_, b3, c3, g5, b4, c7, by omega, hNM3, SYr_sk (Nat.le_refl _) hSK3 (fun p hp => (RTv.2.2 p hp).1) g10, g11⟩
    exact FO_k Fu' Fv' (fun k i hk => PCf_n (by omega)) (fun k i hk => QCf_n (by omega)) STu.2.2.2.2 RTv.2.2 g2
theorem Re_good : GoodR Re := ⟨Re_start, fun n hn => ⟨fun u v h => Re_mono h, SB_feed, SB_read hn, SB_place, SB_clear, SB_count, SB_clause, SB_write hn, SB_octet, SB_search, SB_told, SB_move, SB_show hn⟩⟩
