/-! the call write -/
theorem Fr_uR {P : Nat → Nat → Bool} {u u' : St} {k i x : Nat} (hk : P k i = true) (h : Fr P u u') : Fr P u (uR u' k i x) := by
  intro k' i' hk'
  refine ⟨(h k' i' hk').1, (h k' i' hk').2.1, ?_⟩
  rw [← (h k' i' hk').2.2]
  have hne : ¬ (k' = k ∧ i' = i) := fun hh => by rw [hh.1, hh.2, hk] at hk'; cases hk'
  unfold gR uR va_up
  by_cases h1 : k' = k
  · subst h1
    have h2 : i' ≠ i := fun h => hne ⟨rfl, h⟩
    simp [h2]
  · simp [h1]
def PPg : Nat → Nat → Bool := fun k i => k == 71 || k == 72 || k == 73 || k == 74 || k == 75 || k == 10 || PW 2 k 0
def QPg : Nat → Nat → Bool := fun k i => Qlit k i || k == 145 || k == 144 || (k == 100 && (i == 76 || i == 78 || i == 0))
theorem fin_fr {u : St} {x : Int32} : Fr PPg u (uI (uR (uR u 10 2 (gR u 10 4)) 10 4 (gR u 10 2)) 10 3 x) := Fr_up rfl (Fr_uR rfl (Fr_uR rfl (Fr_rfl _ _)))
theorem fin_u {u u' : St} {r : Int32} (h : fX1_finish u = some (r, u')) : Fr PPg u u' := by
  unfold fX1_finish at h
  by_cases h6 : gI u 10 6 = 0
  · rw [if_pos h6, lt_e, lt_e, lt_e] at h
    have := congrArg Prod.snd (Option.some.inj h)
    simp only at this
    rw [← this]
    exact fin_fr
  · rw [if_neg h6] at h
    have := congrArg Prod.snd (Option.some.inj h)
    simp only at this
    rw [← this]
    exact Fr_rfl _ _
theorem Re_pg {n : Nat} {u u' v v' : St} (h : Re n u v) (hu : Fr PPg u u') (hv : Fr QPg v v') (hP : PGr u' v') : Re (n + 1) u' v' := by
  obtain ⟨h1, h2, h3, C, fi, ps, nv, c, e, S, F, g1, g2, g3, g4, g5, g6, g7, g8, g9, g10, g11⟩ := h
  refine ⟨TXr_fr hu hv rfl (fun _ => rfl) rfl (fun _ => rfl) h1, PLr_fr hu hv rfl rfl rfl h2, hP, C, fi, ps, nv, c, e, S, F, SR_fr hu hv (fun k i hk => ?_) (fun k i hk => ?_) g1, FO_fr hu hv (fun k i hk => ?_) (fun k i hk => ?_) g2, by rw [Fr_I hu rfl]; exact g3, by rw [Fr_I hv rfl]; exact g4, g5, by rw [Fr_I hu rfl]; exact g6, by rw [Fr_I hv rfl]; exact g7, by omega, NMr_fr hu hv (fun k i hk => by rcases hk with h | h | h <;> subst h <;> rfl) (fun k i hk => by rcases hk with h | h | h <;> subst h <;> rfl) g9, SYr_fr hu hv (fun _ => rfl) (fun _ => rfl) g10, g11⟩
  · simp [PSc] at hk; simp [PPg, PW]; omega
  · simp [PSr] at hk; simp [QPg, Qlit, Ql, PF, Qv2]; omega
  · simp [PPg, PW]; omega
  · simp [QPg, Qlit, Ql, PF, Qv2]; omega
theorem Wr_PPg {u u' v v' : St} (h : Wr u u' v v' Pl Qlit) (hd : gR u 10 4 = 71 ∨ gR u 10 4 = 72) : Fr PPg u u' ∧ Fr QPg v v' := ⟨Fr_up2 (fun k i hk => by simp [Pl, PW] at hk; simp [PPg, PW]; omega) (Wr_P h hd), Fr_up2 (fun k i hk => by
  simp only [Bool.or_eq_true] at hk
  rcases hk with hk | hk
  · simp [QPg, hk]
  · simp [Qw] at hk; simp [QPg]; omega) h.2.2.2⟩
/-- a page is begun -/
theorem beg_both {u v : St} (hP : PGr u v) : ∃ u', fX1_begin u = some u' ∧ DS u' (uI v 100 78 (zI 0)) 0 ∧ I u' 10 10 = 0 ∧ (∀ j, j < 220 → I u' 74 j = -1) ∧ gR u' 10 2 = gR u 10 2 ∧ gR u' 10 4 = gR u 10 4 ∧ Fr Pb u u' := by
  obtain ⟨u', r1, r2, r3, r4, r5, r6⟩ := beg_spec u
  have g2 : gR u' 10 2 = gR u 10 2 := Fr_R r6 rfl
  have g4 : gR u' 10 4 = gR u 10 4 := Fr_R r6 rfl
  refine ⟨u', r1, ⟨by rw [g2]; exact hP.1, by rw [g4]; exact hP.2.1, by rw [g2, g4]; exact hP.2.2.1, I_uI1 _ _ _ _ (by decide) (by decide), Or.inl ⟨by decide, r2, r3, fun i hi => by omega⟩⟩, r4, r5, g2, g4, r6⟩
theorem beg_w (u : St) (p : Nat) (hp : p < 100000) : ∃ u', fX9_begin 2 (zI p) (zI 210) (zI 1) u = some u' ∧ I u' 13 5 = 0 ∧ I u' 26 0 = p ∧ I u' 27 0 = 210 ∧ I u' 28 0 = 1 ∧ Fr (PW 2) u u' := by
  have e0 : (0 : Int).toNat = 0 := rfl
  refine ⟨uI (uI (uI (uI u 26 0 (zI p)) 27 0 (zI 210)) 28 0 (zI 1)) 13 5 (zI 0), ?_, I_uI1 _ _ _ _ (by decide) (by decide), ?_, ?_, ?_, Fr_up rfl (Fr_up rfl (Fr_up rfl (Fr_up rfl (Fr_rfl _ _))))⟩
  · unfold fX9_begin
    rw [show (0 : Int32) = zI 0 from rfl, st_z _ _ _ _ _ (by decide) (by decide), bd_s, st_z _ _ _ _ _ (by decide) (by decide), bd_s, st_z _ _ _ _ _ (by decide) (by decide), bd_s, lt_e]
    rfl
  · rw [I_uI3 _ _ _ _ _ _ (by decide), I_uI3 _ _ _ _ _ _ (by decide), I_uI3 _ _ _ _ _ _ (by decide), I_uI1 _ _ _ _ (by omega) (by omega)]
  · rw [I_uI3 _ _ _ _ _ _ (by decide), I_uI3 _ _ _ _ _ _ (by decide), I_uI1 _ _ _ _ (by decide) (by decide)]
  · rw [I_uI3 _ _ _ _ _ _ (by decide), I_uI1 _ _ _ _ (by decide) (by decide)]
theorem has_spec {u v : St} {C : Nat} {fi ps : Nat → Nat} {nv c : Nat → Int} {e : Nat → Nat} (g1 : SR u v C fi ps nv c e) (x : Int) (hx1 : -2147483648 ≤ x) (hx2 : x < 2147483648) : fX4_has (zI x) u = some (zI (if 0 ≤ x ∧ x ≤ (C : Int) - 1 then 1 else 0), u) := by
  have hC := g1.1
  unfold fX4_has
  by_cases d : x < 0
  · rw [if_pos (by rw [z_zero, z_lt hx1 hx2 (by decide) (by decide)]; exact d), if_neg (by omega)]; rfl
  · rw [if_neg (by rw [z_zero, z_lt hx1 hx2 (by decide) (by decide)]; exact d), gI_z, g1.2.1]
    by_cases d2 : (C : Int) ≤ x
    · rw [if_pos (by rw [z_le (by omega) (by omega) hx1 hx2]; exact d2), if_neg (by omega)]; rfl
    · rw [if_neg (by rw [z_le (by omega) (by omega) hx1 hx2]; exact d2), if_pos (by omega)]; rfl
/-- the state of the row that is written -/
def RIw (C : Nat) (fi ps : Nat → Nat) (nv c : Nat → Int) (e : Nat → Nat) (S F k0 : Nat) (u v : St) (kk l : Nat) : Prop := SR u v C fi ps nv c e ∧ RSw c e (ps (fi C)) S F u v ∧ (∃ m : Nat, m ≤ 10 ∧ I u 10 10 = m ∧ (∀ i, i < 10 → I u 74 (210 + i) = if i < m then (i : Int) else -1) ∧ (∀ q, ps (fi k0) ≤ q → q < ps l → c q < 0 → -1 - c q < m)) ∧ kk + 18 * (ps (fi (k0 + 1)) - ps l) ≤ 3900
theorem row_write {C : Nat} {fi ps : Nat → Nat} {nv c : Nat → Int} {e : Nat → Nat} {S F k0 : Nat} (hk0 : k0 < C) (hS : S ≤ 60) (hF : F < 200000000) (hVO : VOr C fi ps c) : ∀ u v k l, fi k0 ≤ l → l < fi (k0 + 1) → RIw C fi ps nv c e S F k0 u v k l → ∀ u1 v1 k1, Wr u u1 v v1 NoP NoP → DS u v k → DS u1 v1 k1 → k ≤ k1 → k1 ≤ k + 1 → k < 98000 → ∃ u' v' k', fX1_literal (zI l) (zI 210) u1 = some u' ∧ fX12_literalOut (zI l) (zI (-1)) v1 = some v' ∧ DS u' v' k' ∧ (k' ≤ k + 2 ∨ k' ≤ 4020) ∧ RIw C fi ps nv c e S F k0 u' v' k' (l + 1) ∧ Wr u1 u' v1 v' Pl Qlit := by
  intro u v k l hl1 hl2 hRI u1 v1 k1 hW hD hD1 hkk1 hkk2 hk
  obtain ⟨hSR, hRS, ⟨m, m1, m2, m3, m4⟩, hB⟩ := hRI
  have hd := hD.2.1
  have hd1 := hD1.2.1
  have Fu := Wr_P hW hd
  have Fv := hW.2.2.2
  have hff := SR_fi hSR
  have hfc := hff.1 C (Nat.le_refl _) (k0 + 1) (by omega)
  have hps := SR_ps hSR
  obtain ⟨a1, a2, a3, a4, a5, a6, a7, a8, a9, a10⟩ := SR_lit hSR (show l < fi C by omega)
  obtain ⟨s1, s2, s3, s4, s5, s6, s7, s8⟩ := hSR.2.2.2.2.2.2.2.2.1 k0 l hk0 hl1 hl2
  have hT : TOK c e (ps (fi C)) := hSR.2.2.2.2.2.2.2.2.2.2.2.2.2
  have hnv := (hSR.2.2.2.2.2.2.1 k0 hk0).2.2.2.2.2.2.2.1
  have p1 := hps (fi (k0 + 1)) hfc (l + 1) (by omega)
  have p2 := hps l (by omega) (fi k0) hl1
  have p3 := hps (fi C) (Nat.le_refl _) (fi (k0 + 1)) hfc
  have hSR1 : SR u1 v1 C fi ps nv c e := SR_fr Fu Fv (fun k i hk => by simp [PSc] at hk; simp [NoP]; omega) (fun k i hk => by simp [PSr] at hk; simp [NoP, Qw]; omega) hSR
  have hM := write_mode (s := ps (fi k0)) (E := ps (l + 1)) (E2 := ps (fi (k0 + 1))) (B := k + 2 + 16 * (ps (fi (k0 + 1)) - ps l)) (S := S) (F := F) hT a7 hS hF p1 (fun q q1 q2 q3 => by
    obtain ⟨k2, b1, b2, b3⟩ : ∃ l2, fi k0 ≤ l2 ∧ l2 < fi (k0 + 1) ∧ (ps l2 ≤ q ∧ q < ps (l2 + 1)) := by
      by_cases hq : ps l ≤ q
      · exact ⟨l, hl1, hl2, hq, q2⟩
      · have : ∀ j, fi k0 + j ≤ l → q < ps (fi k0 + j) → ∃ l2, fi k0 ≤ l2 ∧ l2 < fi (k0 + 1) ∧ (ps l2 ≤ q ∧ q < ps (l2 + 1)) := by
          intro j
          induction j with
          | zero => intro _ h; exact absurd q1 (by simp at h; omega)
          | succ j ih =>
            intro h1 h2
            by_cases h3 : q < ps (fi k0 + j)
            · exact ih (by omega) h3
            · exact ⟨fi k0 + j, by omega, by omega, by omega, h2⟩
        exact this (l - fi k0) (by omega) (by rw [show fi k0 + (l - fi k0) = l by omega]; omega)
    have := (hSR.2.2.2.2.2.2.2.2.1 k0 k2 hk0 b1 b2).2.2.2.2.2.2.2 q b3.1 b3.2 q3
    omega) (fun q q1 q2 q3 w w1 w2 => hVO k0 hk0 q q1 q2 q3 w w1 w2)
  have hR1 : RSw c e (ps (fi C)) S F u1 v1 := hM.2.1 u u1 v v1 (Wr_mono (fun k i hk => by simp [NoP] at hk) (fun k i hk => by simp [NoP] at hk) hW) hd hRS
  have hsg : sg e (ps (fi C)) 1 (ps l) := ⟨a6, by rw [s7]; exact s6, by show e (ps l) ≤ _; rw [s7]; omega⟩
  have hit : it e 1 (ps l) = ps (l + 1) := by show e (ps l) = _; exact s7
  have h82 : I v1 110 l = ps l := by rw [Fr_I Fv rfl]; exact a2
  obtain ⟨u', v', k', y1, y2, y3, y4, y5, y6, y7, y8⟩ := lit_both hT hM (u := u1) (v := v1) (k := k1) (l := l) (p := ps l) (b := 210) a10 a6 a7 (by decide) (by decide) (by rw [Fr_I Fu rfl]; exact a1) h82 (by rw [Fr_I Fu rfl, Fr_I Fv rfl]; exact a3) (fun u2 h32 _ _ => by
    obtain ⟨u3, c1, c2, c3, c4, c5, c6⟩ := beg_w u2 (ps l) (by omega)
    exact ⟨u3, c1, ⟨ps l, 1, c2, c3, c4, c5, hsg, hit, rfl, fun p hp => by rw [Fr_I c6 (PW_other p (by decide) (by decide) (by decide) (by decide)), h32]; exact hR1.2.2.2.1 p hp⟩, c6⟩) hR1 (fun K hK => ⟨m, ps l, 1, m1, by rw [Fr_I Fu rfl]; exact m2, fun i hi => by rw [Fr_I Fu rfl]; exact m3 i hi, p2, hsg, hit, rfl, m4, by omega⟩) hD1 (by omega)
  have hd' := y3.2.1
  have Fu' := Wr_P y6 hd1
  have Fv' := y6.2.2.2
  have hSR' : SR u' v' C fi ps nv c e := SR_fr Fu' Fv' (fun k i hk => by simp [PSc] at hk; simp [Pl, PW]; omega) (fun k i hk => by simp [PSr] at hk; simp [Qlit, Ql, PF, Qv2, Qw]; omega) hSR1
  rcases y8 with ⟨z1, mm, pos, n, i1, i2, i3, i4, i5, i6, i7, i8, i9⟩ | ⟨z1, z2, z3⟩
  · have hn0 : n = 0 := by
      cases n with
      | zero => rfl
      | succ n => simp [items] at i7
    subst hn0
    have hpos : pos = ps (l + 1) := i6
    subst hpos
    exact ⟨u', v', k', y1, y2, y3, by omega, ⟨hSR', y7, ⟨mm, i1, i2, i3, i8⟩, by omega⟩, y6⟩
  · exfalso
    rcases z3 with z3 | ⟨u2, v2, K, x, l2, ⟨mm, pos, n, i1, i2, i3, i4, i5, i6, i7, i8, i9⟩, z4⟩
    · omega
    · have : pos < ps (l + 1) := by
        cases n with
        | zero => simp [items] at i7
        | succ n => rw [← i6]; have := (sg_le i5.2.2).1; have := i5.2.1; simp only [it]; omega
      omega
theorem SB_write {n : Nat} (hn : n < 512) (a0 : Int32) : StepBoth (fX11_write a0) (fX12_write a0) (Re n) (Re (n + 1)) := by
  intro u v h
  have hR := Re_0 h
  have hRe := h
  obtain ⟨hTX, hPL, hPG, C, fi, ps, nv, c, e, S, F, g1, g2, g3, g4, g5, g6, g7, g8, g9, g10, g11⟩ := h
  obtain ⟨x, hx, hx1, hx2⟩ : ∃ x : Int, a0 = zI x ∧ -2147483648 ≤ x ∧ x < 2147483648 := ⟨a0.toInt, z_id a0, Int32.le_toInt _, Int32.toInt_lt _⟩
  subst hx
  have hC := g1.1
  have hin1 := in_spec x 0 ((C : Int) - 1) (uI v 100 0 (zI 0)) hx1 hx2 (by decide) (by decide) (by omega) (by omega)
  have hhas := has_spec g1 x hx1 hx2
  have e10 : gI (uI v 100 0 (zI 0)) 100 10 - zI 1 = zI ((C : Int) - 1) := by rw [gI_z, I_uI2 _ _ _ _ _ _ (by omega), g1.2.2.1, z_sub]
  by_cases c1 : 0 ≤ x ∧ x ≤ (C : Int) - 1
  · rw [if_pos c1] at hin1 hhas
    obtain ⟨k, hkk⟩ : ∃ k : Nat, x = k := ⟨x.toNat, by omega⟩
    subst hkk
    have hk : k < C := by omega
    have hff := SR_fi g1
    have hfc := hff.1 C (Nat.le_refl _) (k + 1) (by omega)
    obtain ⟨k1, k2, k3, k4, k5, k6, k7, k8, k9⟩ := g1.2.2.2.2.2.2.1 k hk
    have F0 : Fr QPg v (uI v 100 0 (zI 0)) := Fr_up rfl (Fr_rfl _ _)
    have F1 : Fr QPg (uI v 100 0 (zI 0)) (uI (uI v 100 0 (zI 0)) 100 78 (zI 0)) := Fr_up rfl (Fr_rfl _ _)
    have F01 := Fr_tr F0 F1
    obtain ⟨u4, b1, b2', b3, b4, b5, b6, b7⟩ := beg_both (v := uI v 100 0 (zI 0)) (PGr_fr (P := fun _ _ => false) (Q := P1 100 0) (Fr_rfl _ _) (Fr_up (by simp [P1]) (Fr_rfl _ _)) rfl rfl rfl (fun _ => rfl) (fun _ => rfl) (by simp [P1]) (fun i => by simp [P1]) hPG)
    have Fu4 : Fr PPg u u4 := Fr_up2 (fun k i hk => by simp [Pb] at hk; simp [PPg, PW]; omega) b7
    have hSR4 : SR u4 (uI (uI v 100 0 (zI 0)) 100 78 (zI 0)) C fi ps nv c e := SR_fr Fu4 F01 (fun k i hk => by simp [PSc] at hk; simp [PPg, PW]; omega) (fun k i hk => by simp [PSr] at hk; simp [QPg, Qlit, Ql, PF, Qv2]; omega) g1
    obtain ⟨T, hBC, _, _, hT5, _⟩ := FO_BCs g2
    have hRS4 : RSw c e (ps (fi C)) S F u4 (uI (uI v 100 0 (zI 0)) 100 78 (zI 0)) := by
      refine ⟨hSR4.2.2.2.2.2.2.2.2.2.2.2.2.1, NMr_fr Fu4 F01 (fun k i hk => by rcases hk with h | h | h <;> subst h <;> rfl) (fun k i hk => by rcases hk with h | h | h <;> subst h <;> rfl) g9, SYr_fr Fu4 F01 (fun _ => rfl) (fun _ => rfl) g10, hSR4.2.2.2.2.2.2.2.2.2.2.2.1, fun w h1 h2 => ?_⟩
      rw [Fr_I Fu4 rfl]
      refine (hBC w h2).1 ?_
      cases hl : lk T w with
      | none => rfl
      | some y =>
        have := hT5 w (lk_mem hl)
        omega
    have hRI4 : RIw C fi ps nv c e S F k u4 (uI (uI v 100 0 (zI 0)) 100 78 (zI 0)) 0 (fi k) := ⟨hSR4, hRS4, ⟨0, by omega, b3, fun i hi => by rw [b4 _ (by omega), if_neg (by omega)], fun q q1 q2 _ => by omega⟩, by omega⟩
    obtain ⟨k1', k2', k3', _⟩ := hSR4.2.2.2.2.2.2.1 k hk
    obtain ⟨u5, v5, k5', r1, r2, r3, r4, u6, v6, k6', r5, r6, r7⟩ := row_loop (b := 210) (bb := -1) (k0 := k) (f0 := fi k) (f1 := fi (k + 1)) (by omega) (by omega) (row_write hk g5 (by omega) g11) (fi (k + 1) - fi k) FU FU (fi k) 0 u4 _ (by omega) (Nat.le_refl _) (by omega) (by unfold FU; omega) (by unfold FU; omega) (by omega) (hSR4.2.2.2.2.2.1 (k + 1) (by omega)) k1' k2' b2' hRI4
    have hk6 := r5.2.2.2
    obtain ⟨u7, v7, s1, s2, s3, s4, s5, s6, s7⟩ := fin_both r3 (by omega)
    have hd4 := b2'.2.1
    obtain ⟨W1, W2⟩ := Wr_PPg r4 hd4
    refine ⟨zI k5', u7, v7, ?_, ?_, Re_pg hRe (Fr_tr Fu4 (Fr_tr W1 (fin_u s1))) (Fr_tr F01 (Fr_tr W2 (Fr_up2 (fun k i hk => by simp at hk; simp [QPg]; omega) s7))) s3⟩
    · unfold fX11_write fX1_row
      rw [hhas, b2_s, if_neg (by decide), b1, bd_s, ld_z _ _ _ _ (by omega) (by omega), bd_s, Int.toNat_natCast, hSR4.2.2.2.2.2.1 k (by omega), show (210 : Int32) = zI 210 from rfl, r1, bd_s, s1, b2_s]
    · unfold fX12_write fX12_clauseOut
      rw [show (-1 : Int32) = zI (-1) from rfl, show (0 : Int32) = zI 0 from rfl, lt_e, show (1 : Int32) = zI 1 from rfl, e10, hin1, b2_s, if_neg (by decide), lt_e, lt_e]
      rw [show ((fi k : Nat) : Int) - (fi k : Nat) = 0 by omega] at r2
      rw [r2, bd_s, s2, b2_s]
  · rw [if_neg c1] at hin1 hhas
    refine ⟨-1, u, _, ?_, ?_, hR⟩
    · unfold fX11_write
      rw [hhas, b2_s, if_pos q0]
    · unfold fX12_write
      rw [show (0 : Int32) = zI 0 from rfl, lt_e, show (1 : Int32) = zI 1 from rfl, e10, hin1, b2_s, if_pos rfl]
