/-! THE SAME literals -/
theorem cs_go (G : Nat) (u u1 u4 : St) (k : Int) (s s2 ca ca2 : Int) (hk0 : 0 ≤ k) (hk : k < 4000) (h1 : fX9_more 0 u = some (1, u1)) (h2 : fX9_more 1 u1 = some (1, u4)) (h3 : I u4 8 5 = k) (hs1 : -1 ≤ s) (hs2 : s < 1000) (hs3 : -1 ≤ s2) (hs4 : s2 < 1000) (hca1 : -2147483648 ≤ ca) (hca2 : ca < 2147483648) (hca3 : -2147483648 ≤ ca2) (hca4 : ca2 < 2147483648)
    (h4 : fX9_variable 0 (uI u4 8 5 (zI (k + 1))) = some (zI s, uI u4 8 5 (zI (k + 1)))) (h5 : fX9_variable 1 (uI u4 8 5 (zI (k + 1))) = some (zI s2, uI u4 8 5 (zI (k + 1)))) (h6 : fX9_symbol 0 (uI u4 8 5 (zI (k + 1))) = some (zI ca, uI u4 8 5 (zI (k + 1)))) (h7 : fX9_symbol 1 (uI u4 8 5 (zI (k + 1))) = some (zI ca2, uI u4 8 5 (zI (k + 1)))) :
    fX8_same_L0 (G + 1) 0 u = if s = s2 ∧ (0 ≤ s ∨ ca = ca2) then fX8_same_L0 G 1 (uI u4 8 5 (zI (k + 1))) else some (0, uI u4 8 5 (zI (k + 1))) := by
  show fX8_same_L0_0 (fX8_same_L0 G) u = _
  generalize fX8_same_L0 G = R
  unfold fX8_same_L0_0
  simp (disch := omega) only [h1, h2, b2_s, lt_e, z_lit, z_eq, if_neg, if_false, gI_z, h3, z_add, I_uI1, z_le, if_pos, if_true, h4, h5, h6, h7]
  by_cases c1 : s = s2
  · by_cases c2 : 0 ≤ s
    · simp only [c1, if_true, true_and]; rw [c1] at c2; simp only [c2, if_true, true_or]
    · by_cases c3 : ca = ca2
      · simp only [c1, c3, if_true, true_and, or_true, ite_self]
      · simp only [c1, true_and, if_true]; rw [c1] at c2; simp only [c2, c3, if_false, or_false]
  · simp only [c1, if_false, false_and]
theorem cs_full (G : Nat) (u u1 u4 : St) (h1 : fX9_more 0 u = some (1, u1)) (h2 : fX9_more 1 u1 = some (1, u4)) (h3 : I u4 8 5 = 4000) :
    fX8_same_L0 (G + 1) 0 u = some (2, uI u4 8 5 (zI 4001)) := by
  show fX8_same_L0_0 (fX8_same_L0 G) u = _
  generalize fX8_same_L0 G = R
  unfold fX8_same_L0_0
  simp (disch := omega) only [h1, h2, b2_s, lt_e, z_lit, z_eq, if_neg, if_false, gI_z, h3, z_add, I_uI1, z_le]
  rfl
theorem cs_end (G : Nat) (u u1 : St) (h1 : fX9_more 0 u = some (0, u1)) :
    fX8_same_L0 (G + 1) 0 u = some (1, u1) := by
  show fX8_same_L0_0 (fX8_same_L0 G) u = _
  unfold fX8_same_L0_0
  rw [h1, b2_s, if_pos rfl]
theorem cs_one (G : Nat) (u u1 u2 : St) (h1 : fX9_enter 0 u = some u1) (h2 : fX9_enter 1 u1 = some u2) : fX8_same_L0 (G + 1) 1 u = fX8_same_L0 G 0 u2 := by
  show fX8_same_L0_1 (fX8_same_L0 G) u = _
  unfold fX8_same_L0_1
  rw [h1, bd_s, h2, bd_s]
theorem ra_full (G : Nat) (v v3 : St) (L : Nat) (hL : L < 20100) (h111 : I v 100 111 = (L : Int) + 1) (h1 : fX12_counted (uI v 100 111 (zI L)) = some (0, v3)) : fX12_alike_L0 (G + 1) 0 0 0 0 0 0 0 v = some (0, v3) := by
  have e1 : (L : Int) + 1 - 1 = L := by omega
  show fX12_alike_L0_0 (fX12_alike_L0 G) v = _
  generalize fX12_alike_L0 G = R
  unfold fX12_alike_L0_0
  rw [gI_z, h111, if_neg (by rw [z_zero, z_le (by omega) (by omega) (by omega) (by omega)]; omega), lt_e, show (1 : Int32) = zI 1 from rfl, z_sub, e1, h1, b2_s, if_pos rfl]
theorem ra_end (G : Nat) (v : St) (h111 : I v 100 111 = 0) : fX12_alike_L0 (G + 1) 0 0 0 0 0 0 0 v = some (1, v) := by
  show fX12_alike_L0_0 (fX12_alike_L0 G) v = _
  unfold fX12_alike_L0_0
  rw [gI_z, h111, if_pos (by decide)]
theorem ra_pop (G : Nat) (v v3 v8 v13 v14 : St) (L : Nat) (x y dx dy : Nat × Int) (s s2 t1 t2 : Int) (hL : L < 20100) (h111 : I v 100 111 = (L : Int) + 1) (h1 : fX12_counted (uI v 100 111 (zI L)) = some (zI 1, v3)) (h3 : I v3 100 111 = L) (hx : I v3 161 L = x.1) (hxb : I v3 162 L = x.2) (h4 : fX12_follow (zI x.1) (zI x.2) v3 = some v8) (h5 : I v8 100 95 = dx.1) (h6 : I v8 100 96 = dx.2) (h8 : I v8 100 111 = L) (hy : I v8 163 L = y.1) (hyb : I v8 164 L = y.2) (h9 : fX12_follow (zI y.1) (zI y.2) v8 = some v13) (h10 : I v13 100 95 = dy.1) (h11 : I v13 100 96 = dy.2) (hdx : dx.1 < 20000) (hdy : dy.1 < 20000) (ht1 : I v13 111 dx.1 = t1) (ht2 : I v13 111 dy.1 = t2) (hs : s = if t1 < 0 then dx.2 - 1 - t1 else -1) (hs2 : s2 = if t2 < 0 then dy.2 - 1 - t2 else -1) (hr1 : -1 ≤ s) (hr2 : s < 1000) (hr3 : -1 ≤ s2) (hr4 : s2 < 1000) (hp1 : t1 < 0 → 0 ≤ s) (hp2 : t2 < 0 → 0 ≤ s2) (h14 : 0 ≤ t1 → t1 = t2 → fX12_argumentsNext (zI dx.1) (zI dx.2) (zI dy.1) (zI dy.2) v13 = some v14) :
    fX12_alike_L0 (G + 3) 0 0 0 0 0 0 0 v = if s = s2 ∧ (0 ≤ s ∨ t1 = t2) then fX12_alike_L0 G 0 0 0 0 0 0 0 (if 0 ≤ s then v13 else v14) else some (0, v13) := by
  have b1 := I_lo v13 111 dx.1
  have b2 := I_hi v13 111 dx.1
  have b3 := I_lo v13 111 dy.1
  have b4 := I_hi v13 111 dy.1
  rw [ht1] at b1 b2
  rw [ht2] at b3 b4
  have e1 : (L : Int) + 1 - 1 = L := by omega
  have st0 : fX12_alike_L0 (G + 3) 0 0 0 0 0 0 0 v = fX12_alike_L0 (G + 2) 1 (zI dx.1) (zI dx.2) (zI dy.1) (zI dy.2) 0 (zI (if t1 < 0 ∨ t2 < 0 then 1 else 0)) v13 := by
    show fX12_alike_L0_0 (fX12_alike_L0 (G + 2)) v = _
    generalize fX12_alike_L0 (G + 2) = R
    unfold fX12_alike_L0_0
    clear hs hs2 hp1 hp2 h14
    by_cases hc : t1 < 0
    · rw [if_pos (show t1 < 0 ∨ t2 < 0 from Or.inl hc)]
      simp (disch := omega) only [z_lit, gI_z, h111, z_le, z_lt, if_neg, if_false, if_pos, if_true, lt_e, z_sub, e1, h1, b2_s, z_eq, h3, ld_z, bd_s, Int.toNat_natCast, hx, hxb, h4, h5, h6, h8, hy, hyb, h9, h10, h11, ht1]
    · by_cases hc2 : t2 < 0
      · rw [if_pos (show t1 < 0 ∨ t2 < 0 from Or.inr hc2)]
        simp (disch := omega) only [z_lit, gI_z, h111, z_le, z_lt, if_neg, if_false, if_pos, if_true, lt_e, z_sub, e1, h1, b2_s, z_eq, h3, ld_z, bd_s, Int.toNat_natCast, hx, hxb, h4, h5, h6, h8, hy, hyb, h9, h10, h11, ht1, ht2]
      · rw [if_neg (show ¬ (t1 < 0 ∨ t2 < 0) by omega)]
        simp (disch := omega) only [z_lit, gI_z, h111, z_le, z_lt, if_neg, if_false, if_pos, if_true, lt_e, z_sub, e1, h1, b2_s, z_eq, h3, ld_z, bd_s, Int.toNat_natCast, hx, hxb, h4, h5, h6, h8, hy, hyb, h9, h10, h11, ht1, ht2]
  rw [st0]
  clear st0 h1 h3 hx hxb h4 h5 h6 h8 hy hyb h9 h10 h11 h111
  show fX12_alike_L0_1 (fX12_alike_L0 (G + 1)) (zI dx.1) (zI dx.2) (zI dy.1) (zI dy.2) (zI (if t1 < 0 ∨ t2 < 0 then 1 else 0)) v13 = _
  have two : ∀ (o q : Int), (o = 0 ∨ o = 1) → (q = 0 ∨ q = 1) → fX12_alike_L0 (G + 1) 2 (zI dx.1) (zI dx.2) (zI dy.1) (zI dy.2) (zI o) (zI q) v13 = if q = 0 then some (0, v13) else if o = 0 then (bd (fX12_argumentsNext (zI dx.1) (zI dx.2) (zI dy.1) (zI dy.2) v13) fun u33 => fX12_alike_L0 G 0 0 0 0 0 0 0 u33) else fX12_alike_L0 G 0 0 0 0 0 0 0 v13 := by
    intro o q ho hq
    show fX12_alike_L0_2 (fX12_alike_L0 G) (zI dx.1) (zI dx.2) (zI dy.1) (zI dy.2) (zI o) (zI q) v13 = _
    unfold fX12_alike_L0_2
    rcases ho with ho | ho <;> rcases hq with hq | hq <;> subst ho <;> subst hq <;> rfl
  by_cases hc : t1 < 0 ∨ t2 < 0
  · rw [if_pos hc]
    have hone : fX12_alike_L0_1 (fX12_alike_L0 (G + 1)) (zI dx.1) (zI dx.2) (zI dy.1) (zI dy.2) (zI 1) v13 = fX12_alike_L0 (G + 1) 2 (zI dx.1) (zI dx.2) (zI dy.1) (zI dy.2) (zI 1) (zI (if s = s2 then 1 else 0)) v13 := by
      generalize fX12_alike_L0 (G + 1) = R
      unfold fX12_alike_L0_1
      clear two h14
      by_cases hc1 : t1 < 0
      · rw [if_pos hc1] at hs
        by_cases hc2 : t2 < 0
        · rw [if_pos hc2] at hs2
          by_cases hss : s = s2
          · rw [if_pos hss]
            simp (disch := omega) only [z_lit, z_eq, z_le, z_sub, ld_z, bd_s, Int.toNat_natCast, ht1, ht2, if_neg, if_false, if_pos, if_true, ← hs, ← hs2]
          · rw [if_neg hss]
            simp (disch := omega) only [z_lit, z_eq, z_le, z_sub, ld_z, bd_s, Int.toNat_natCast, ht1, ht2, if_neg, if_false, if_pos, if_true, ← hs, ← hs2]
        · rw [if_neg hc2] at hs2
          rw [if_neg (show ¬ s = s2 by have := hp1 hc1; omega)]
          simp (disch := omega) only [z_lit, z_eq, z_le, z_sub, ld_z, bd_s, Int.toNat_natCast, ht1, ht2, if_neg, if_false, if_pos, if_true]
      · rw [if_neg hc1] at hs
        have hc2 : t2 < 0 := by omega
        rw [if_neg (show ¬ s = s2 by have := hp2 hc2; omega)]
        simp (disch := omega) only [z_lit, z_eq, z_le, z_sub, ld_z, bd_s, Int.toNat_natCast, ht1, ht2, if_neg, if_false, if_pos, if_true]
    rw [hone, two 1 _ (Or.inr rfl) (by by_cases h : s = s2 <;> simp [h])]
    by_cases hss : s = s2
    · have h0 : 0 ≤ s := by
        rcases hc with hc | hc
        · exact hp1 hc
        · rw [hss]; exact hp2 hc
      rw [if_pos hss, if_neg (by decide), if_neg (by decide), if_pos ⟨hss, Or.inl h0⟩, if_pos h0]
    · rw [if_neg hss, if_pos rfl, if_neg (fun h => hss h.1)]
  · rw [if_neg hc]
    have hs' : s = -1 := by rw [hs, if_neg (by omega)]
    have hs2' : s2 = -1 := by rw [hs2, if_neg (by omega)]
    have hone : fX12_alike_L0_1 (fX12_alike_L0 (G + 1)) (zI dx.1) (zI dx.2) (zI dy.1) (zI dy.2) (zI 0) v13 = fX12_alike_L0 (G + 1) 2 (zI dx.1) (zI dx.2) (zI dy.1) (zI dy.2) (zI 0) (zI (if t1 = t2 then 1 else 0)) v13 := by
      generalize fX12_alike_L0 (G + 1) = R
      unfold fX12_alike_L0_1
      clear two h14 hs hs2
      by_cases htt : t1 = t2
      · rw [if_pos htt]
        simp (disch := omega) only [z_lit, z_eq, z_le, z_sub, ld_z, bd_s, Int.toNat_natCast, ht1, ht2, if_neg, if_false, if_pos, if_true]
      · rw [if_neg htt]
        simp (disch := omega) only [z_lit, z_eq, z_le, z_sub, ld_z, bd_s, Int.toNat_natCast, ht1, ht2, if_neg, if_false, if_pos, if_true]
    rw [hone, two 0 _ (Or.inl rfl) (by by_cases h : t1 = t2 <;> simp [h])]
    by_cases htt : t1 = t2
    · rw [if_pos htt, if_neg (by decide), if_pos rfl, h14 (by omega) htt, bd_s, if_pos ⟨by omega, Or.inr htt⟩, if_neg (by omega)]
    · rw [if_neg htt, if_pos rfl, if_neg (fun h => by rcases h.2 with h | h; omega; exact htt h)]
