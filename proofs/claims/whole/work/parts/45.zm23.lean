/-! small steps of the search, both sides -/
theorem nvar_loop (V n m : Nat) (hVn : V + n ≤ 290) (hm : m ≤ n) : ∀ (F : Nat) (v : St), m < F → I v 100 92 = V → ∃ v', fX12_newVariables_L0 F 0 (zI n) (zI ((n - m : Nat) : Int)) v = some v' ∧ I v' 100 92 = ((V + n : Nat) : Int) ∧ (∀ i, I v' 154 i = if V + (n - m) ≤ i ∧ i < V + n then -1 else I v 154 i) ∧ Fr (fun k i => k == 154 || (k == 100 && i == 92)) v v' := by
  induction m with
  | zero =>
    intro F v hF h
    obtain ⟨G, rfl⟩ : ∃ G, F = G + 1 := ⟨F - 1, by omega⟩
    have e1 : ((V + n : Nat) : Int) = (V : Int) + n := by omega
    refine ⟨uI v 100 92 (zI ((V + n : Nat) : Int)), ?_, I_uI1 _ _ _ _ (by omega) (by omega), ?_, Fr_up rfl (Fr_rfl _ _)⟩
    · show fX12_newVariables_L0_0 (fX12_newVariables_L0 G) (zI n) _ v = _
      unfold fX12_newVariables_L0_0
      rw [Nat.sub_zero, if_pos (by rw [z_le (by omega) (by omega) (by omega) (by omega)]; omega), lt_e, gI_z, h, z_add, e1]
    · intro i; rw [if_neg (by omega), I_uI3 _ _ _ _ _ _ (by decide)]
  | succ m ih =>
    intro F v hF h
    obtain ⟨G, rfl⟩ : ∃ G, F = G + 1 := ⟨F - 1, by omega⟩
    have e1 : (((n - (m + 1) : Nat) : Int) + 1) = ((n - m : Nat) : Int) := by omega
    have e2 : ((V : Int) + ((n - (m + 1) : Nat) : Int)).toNat = V + (n - (m + 1)) := by omega
    have hstep : fX12_newVariables_L0 (G + 1) 0 (zI n) (zI ((n - (m + 1) : Nat) : Int)) v = fX12_newVariables_L0 G 0 (zI n) (zI ((n - m : Nat) : Int)) (uI v 154 (V + (n - (m + 1))) (zI (-1))) := by
      show fX12_newVariables_L0_0 (fX12_newVariables_L0 G) (zI n) _ v = _
      generalize fX12_newVariables_L0 G = R
      unfold fX12_newVariables_L0_0
      rw [if_neg (by rw [z_le (by omega) (by omega) (by omega) (by omega)]; omega), gI_z, h, z_add, st_z _ _ _ _ _ (by omega) (by omega), bd_s, lt_e, e2, show (1 : Int32) = zI 1 from rfl, z_add, e1, z_neg]
    obtain ⟨v', r1, r2, r3, r4⟩ := ih (by omega) G (uI v 154 (V + (n - (m + 1))) (zI (-1))) (by omega) (by rw [I_uI3 _ _ _ _ _ _ (by decide)]; exact h)
    refine ⟨v', hstep.trans r1, r2, ?_, Fr_tr (Fr_up rfl (Fr_rfl _ _)) r4⟩
    intro i
    rw [r3]
    by_cases hi : i = V + (n - (m + 1))
    · subst hi; rw [if_neg (by omega), if_pos (by omega), I_uI1 _ _ _ _ (by decide) (by decide)]
    · by_cases hi2 : V + (n - m) ≤ i ∧ i < V + n
      · rw [if_pos hi2, if_pos (by omega)]
      · rw [if_neg hi2, if_neg (by omega), I_uI2 _ _ _ _ _ _ (by omega)]
theorem GT_key {c : Nat → Int} {e : Nat → Nat} {N : Nat} {V : Int} {T : List (Nat × Nat × Int)} (h : GT c e N V T) {w : Nat} {y : Nat × Int} (hy : lk T w = some y) : (w : Int) < V := by
  obtain ⟨h0, o, h1, h2, h3⟩ := h
  exact h2 w (h3 w y hy).1
theorem newVariables_spec {c : Nat → Int} {e : Nat → Nat} {N V n : Nat} {T : List (Nat × Nat × Int)} {v : St} (hVn : V + n ≤ 220) (h : I v 100 92 = V) (hG : GT c e N V T) (hE : RE v c e N V T) (hTR : TR v T) : ∃ v', fX12_newVariables (zI n) v = some v' ∧ I v' 100 92 = ((V + n : Nat) : Int) ∧ RE v' c e N ((V + n : Nat) : Int) T ∧ TR v' T ∧ Fr (fun k i => k == 154 || (k == 100 && i == 92)) v v' := by
  obtain ⟨v', r1, r2, r3, r4⟩ := nvar_loop V n n (by omega) (Nat.le_refl _) FU v (by unfold FU; omega) h
  rw [Nat.sub_self] at r1 r3
  refine ⟨v', r1, r2, ⟨RT_fr r4 (fun _ => rfl) (fun _ => rfl) (fun _ => rfl) hE.1, by omega, ?_⟩, TR_fr r4 rfl (fun _ => rfl) hTR, r4⟩
  intro w hw
  rw [r3, Fr_I r4 (show (fun k i => k == 154 || (k == 100 && i == 92)) 155 w = false from rfl)]
  by_cases hwV : w < V
  · rw [if_neg (by omega)]; exact hE.2.2 w (by omega)
  · rw [if_pos (by omega)]
    exact ⟨fun _ => rfl, fun y hy => by have := GT_key hG hy; omega⟩
theorem BR_mono {v : St} {T : List (Nat × Nat × Int)} {V V' : Int} (h : V' ≤ V) (hB : BR v T V) : BR v T V' := fun w hw => hB w (by omega)
def PRst : Nat → Nat → Bool := fun k i => k == 154 || (k == 100 && (i == 93 || i == 92 || i == 89 || i == 110 || i == 105))
theorem restore_spec {c : Nat → Int} {e : Nat → Nat} {N : Nat} {V V' : Int} {T T2 : List (Nat × Nat × Int)} {v : St} (f : Nat) (J L m : Int) (hf : f < 400) (hV : V ≤ 220) (hV' : V' ≤ V) (hG : GT c e N V (T2 ++ T)) (hE : RE v c e N V (T2 ++ T)) (hC : TR v (T2 ++ T)) (h172 : I v 172 f = T.length) (h173 : I v 173 f = V') (h174 : I v 174 f = J) (h175 : I v 175 f = L) (h176 : I v 176 f = m) : ∃ v', fX12_restore (zI f) v = some v' ∧ RE v' c e N V' T ∧ TR v' T ∧ I v' 100 92 = V' ∧ I v' 100 89 = J ∧ I v' 100 110 = L ∧ I v' 100 105 = m ∧ Fr PRst v v' := by
  obtain ⟨v1, r1, r2, r3, r4⟩ := takeBack_spec hV hG hE hC
  have g173 : I v1 173 f = V' := by rw [Fr_I r4 rfl]; exact h173
  have g174 : I v1 174 f = J := by rw [Fr_I r4 rfl]; exact h174
  have g175 : I v1 175 f = L := by rw [Fr_I r4 rfl]; exact h175
  have g176 : I v1 176 f = m := by rw [Fr_I r4 rfl]; exact h176
  have b1 := I_lo v 173 f
  have b2 := I_hi v 173 f
  have b3 := I_lo v 174 f
  have b4 := I_hi v 174 f
  have b5 := I_lo v 175 f
  have b6 := I_hi v 175 f
  have b7 := I_lo v 176 f
  have b8 := I_hi v 176 f
  rw [h173] at b1 b2
  rw [h174] at b3 b4
  rw [h175] at b5 b6
  rw [h176] at b7 b8
  obtain ⟨U, k1, k2, k3, k4, k5, k6⟩ : ∃ U, fX12_restore (zI f) v = some U ∧ I U 100 92 = V' ∧ I U 100 89 = J ∧ I U 100 110 = L ∧ I U 100 105 = m ∧ Fr (fun k i => k == 100 && (i == 92 || i == 89 || i == 110 || i == 105)) v1 U := by
    unfold fX12_restore
    clear hG hE hC r2 r3 r4 hV hV' h173 h174 h175 h176
    simp (disch := omega) only [ld_z, bd_s, Int.toNat_natCast, h172, r1, g173, g174, g175, g176, lt_e, I_uI2]
    refine ⟨_, rfl, ?_, ?_, ?_, ?_, ?_⟩
    · simp (disch := omega) only [I_uI1, I_uI2]
    · simp (disch := omega) only [I_uI1, I_uI2]
    · simp (disch := omega) only [I_uI1, I_uI2]
    · simp (disch := omega) only [I_uI1, I_uI2]
    · exact Fr_up rfl (Fr_up rfl (Fr_up rfl (Fr_up rfl (Fr_rfl _ _))))
  have hE2 := RE_fr k6 (fun _ => rfl) (fun _ => rfl) (fun _ => rfl) (fun _ => rfl) (fun _ => rfl) r2
  refine ⟨U, k1, ⟨hE2.1, by omega, BR_mono hV' hE2.2.2⟩, TR_fr k6 rfl (fun _ => rfl) r3, k2, k3, k4, k5, Fr_tr (Fr_mono (fun k i hk => ?_) r4) (Fr_mono (fun k i hk => ?_) k6)⟩
  · unfold PRst at hk
    by_cases h1 : k = 100
    · subst h1; simp at hk ⊢; omega
    · simp [h1] at hk ⊢; exact hk
  · unfold PRst at hk
    by_cases h1 : k = 100
    · subst h1; simp at hk ⊢; omega
    · simp [h1]
def Pp (j : Nat) : Nat → Nat → Bool := fun k i => (k == 9 && i == 9) || ((k == 65 || k == 66 || k == 67 || k == 68 || k == 69 || k == 70) && i == j)
theorem push_spec (u : St) (j : Nat) (kd g x a b d : Int) (hj : j < 151) (ht : I u 9 9 = (j : Int) - 1) (hk0 : -2147483648 ≤ kd) (hk1 : kd < 2147483648) (hg0 : -2147483648 ≤ g) (hg1 : g < 2147483648) (hx0 : -2147483648 ≤ x) (hx1 : x < 2147483648) (ha : I u 7 11 = a) (hb : I u 7 6 = b) (hd : I u 7 7 = d) : ∃ U, fX3_push (zI kd) (zI g) (zI x) u = some (1, U) ∧ I U 9 9 = j ∧ I U 65 j = kd ∧ I U 66 j = g ∧ I U 67 j = x ∧ I U 68 j = a ∧ I U 69 j = b ∧ I U 70 j = d ∧ Fr (Pp j) u U := by
  have b1 := I_lo u 7 11
  have b2 := I_hi u 7 11
  have b3 := I_lo u 7 6
  have b4 := I_hi u 7 6
  have b5 := I_lo u 7 7
  have b6 := I_hi u 7 7
  rw [ha] at b1 b2
  rw [hb] at b3 b4
  rw [hd] at b5 b6
  have e1 : (j : Int) - 1 + 1 = j := by omega
  unfold fX3_push
  simp (disch := omega) only [z_lit, gI_z, ht, z_add, e1, z_lt, if_pos, if_true, lt_e, I_uI1, I_uI2, st_z, bd_s, Int.toNat_natCast, ha, hb, hd]
  refine ⟨_, rfl, ?_, ?_, ?_, ?_, ?_, ?_, ?_, ?_⟩
  · simp (disch := omega) only [I_uI1, I_uI2]
  · simp (disch := omega) only [I_uI1, I_uI2]
  · simp (disch := omega) only [I_uI1, I_uI2]
  · simp (disch := omega) only [I_uI1, I_uI2]
  · simp (disch := omega) only [I_uI1, I_uI2]
  · simp (disch := omega) only [I_uI1, I_uI2]
  · simp (disch := omega) only [I_uI1, I_uI2]
  · repeat (first | exact Fr_rfl _ _ | refine Fr_up (by simp [Pp]) ?_)
def Pe (f : Nat) : Nat → Nat → Bool := fun k i => (k == 100 && i == 120) || ((k == 168 || k == 169 || k == 170 || k == 171 || k == 172 || k == 173 || k == 174 || k == 175 || k == 176) && i == f)
theorem enterR_spec (v : St) (f g : Nat) (ab t V J L m : Int) (hf : f < 399) (hfr : I v 100 120 = f) (hg : g < 400) (hab : I v 152 g = ab) (ht : I v 100 93 = t) (hV : I v 100 92 = V) (hJ : I v 100 89 = J) (hL : I v 100 110 = L) (hm : I v 100 105 = m) : ∃ U, fX12_enter (zI g) v = some U ∧ I U 100 120 = ((f + 1 : Nat) : Int) ∧ I U 168 f = g ∧ I U 169 f = ab ∧ I U 170 f = 0 ∧ I U 171 f = 0 ∧ I U 172 f = t ∧ I U 173 f = V ∧ I U 174 f = J ∧ I U 175 f = L ∧ I U 176 f = m ∧ Fr (Pe f) v U := by
  have a1 := I_lo v 152 g
  have a2 := I_hi v 152 g
  have b1 := I_lo v 100 93
  have b2 := I_hi v 100 93
  have b3 := I_lo v 100 92
  have b4 := I_hi v 100 92
  have b5 := I_lo v 100 89
  have b6 := I_hi v 100 89
  have b7 := I_lo v 100 110
  have b8 := I_hi v 100 110
  have b9 := I_lo v 100 105
  have b10 := I_hi v 100 105
  rw [hab] at a1 a2
  rw [ht] at b1 b2
  rw [hV] at b3 b4
  rw [hJ] at b5 b6
  rw [hL] at b7 b8
  rw [hm] at b9 b10
  have e1 : (f : Int) + 1 = ((f + 1 : Nat) : Int) := by omega
  unfold fX12_enter
  simp (disch := omega) only [z_lit, gI_z, hfr, z_add, e1, lt_e, I_uI1, I_uI2, st_z, bd_s, Int.toNat_natCast, ld_z, hab, ht, hV, hJ, hL, hm]
  refine ⟨_, rfl, ?_, ?_, ?_, ?_, ?_, ?_, ?_, ?_, ?_, ?_, ?_⟩
  · simp (disch := omega) only [I_uI1, I_uI2]
  · simp (disch := omega) only [I_uI1, I_uI2]
  · simp (disch := omega) only [I_uI1, I_uI2]
  · simp (disch := omega) only [I_uI1, I_uI2]
  · simp (disch := omega) only [I_uI1, I_uI2]
  · simp (disch := omega) only [I_uI1, I_uI2]
  · simp (disch := omega) only [I_uI1, I_uI2]
  · simp (disch := omega) only [I_uI1, I_uI2]
  · simp (disch := omega) only [I_uI1, I_uI2]
  · simp (disch := omega) only [I_uI1, I_uI2]
  · repeat (first | exact Fr_rfl _ _ | refine Fr_up (by simp [Pe]) ?_)
def Pm (m : Nat) : Nat → Nat → Bool := fun k i => (k == 100 && i == 105) || ((k == 157 || k == 158 || k == 159 || k == 160) && i == m)
theorem moved_spec (v : St) (m : Nat) (a b d g : Int) (hm : m < 399) (hmv : I v 100 105 = m) (ha0 : -2147483648 ≤ a) (ha1 : a < 2147483648) (hb0 : -2147483648 ≤ b) (hb1 : b < 2147483648) (hd0 : -2147483648 ≤ d) (hd1 : d < 2147483648) (hg0 : -2147483648 ≤ g) (hg1 : g < 2147483648) : ∃ U, fX12_moved (zI a) (zI b) (zI d) (zI g) v = some U ∧ I U 100 105 = ((m + 1 : Nat) : Int) ∧ I U 157 m = a ∧ I U 158 m = b ∧ I U 159 m = d ∧ I U 160 m = g ∧ Fr (Pm m) v U := by
  have e1 : (m : Int) + 1 = ((m + 1 : Nat) : Int) := by omega
  unfold fX12_moved
  simp (disch := omega) only [z_lit, gI_z, hmv, z_add, e1, lt_e, I_uI2, st_z, bd_s, Int.toNat_natCast]
  refine ⟨_, rfl, ?_, ?_, ?_, ?_, ?_, ?_⟩
  · simp (disch := omega) only [I_uI1, I_uI2]
  · simp (disch := omega) only [I_uI1, I_uI2]
  · simp (disch := omega) only [I_uI1, I_uI2]
  · simp (disch := omega) only [I_uI1, I_uI2]
  · simp (disch := omega) only [I_uI1, I_uI2]
  · repeat (first | exact Fr_rfl _ _ | refine Fr_up (by simp [Pm]) ?_)
theorem mayStep_yes (v : St) (s m : Int) (hs : I v 100 101 = s) (hm : I v 100 102 = m) (h0 : 0 ≤ s) (h1 : s < m) (h2 : m ≤ 20000) : fX12_mayStep v = some (1, uI v 100 101 (zI (s + 1))) := by
  unfold fX12_mayStep
  rw [gI_z, gI_z, hs, hm, if_neg (by rw [z_eq (by omega) (by omega) (by omega) (by omega)]; omega), lt_e, show (1 : Int32) = zI 1 from rfl, z_add]
theorem mayStep_no (v : St) (s m : Int) (hs : I v 100 101 = s) (hm : I v 100 102 = m) (h1 : s = m) : fX12_mayStep v = some (0, uI v 100 99 (zI 1)) := by
  unfold fX12_mayStep
  rw [gI_z, gI_z, hs, hm, if_pos (by rw [h1]), lt_e]; rfl
theorem fits_spec {u v : St} {C : Nat} {fi ps : Nat → Nat} {nv c : Nat → Int} {e : Nat → Nat} (h : SR u v C fi ps nv c e) {k : Nat} (hk : k < C) (L V : Int) (hL : I u 7 6 = L) (hV : I u 7 7 = V) (hL0 : 0 ≤ L) (hL1 : L ≤ 150) (hV0 : 0 ≤ V) (hV1 : V ≤ 200) : fX5_fits (zI k) u = some (if L + ((fi (k + 1) : Int) - fi k) ≤ 150 ∧ V + nv k ≤ 200 then 1 else 0, u) := by
  have h18 := h.2.2.2.2.2.1 k (by omega)
  have h18' := h.2.2.2.2.2.1 (k + 1) (by omega)
  obtain ⟨k1, k2, k3, k4, k5, k6, k7, k8, k9⟩ := h.2.2.2.2.2.2.1 k hk
  have hC := h.1
  have hf := SR_fi h
  have hf1 := hf.2.1 (k + 1) (by omega)
  have hf2 := hf.2.1 k (by omega)
  have e1 : ((k : Int) + 1).toNat = k + 1 := by omega
  clear k1 k2 k6 k9 hf h
  unfold fX5_fits
  by_cases c1 : L + ((fi (k + 1) : Int) - fi k) ≤ 150
  · by_cases c2 : V + nv k ≤ 200
    · rw [if_pos ⟨c1, c2⟩]
      simp (disch := omega) only [z_lit, z_add, ld_z, bd_s, e1, h18', Int.toNat_natCast, h18, lt_e, z_sub, gI_z, hL, hV, z_lt, if_neg, if_false, k5]
    · rw [if_neg (fun h => c2 h.2)]
      simp (disch := omega) only [z_lit, z_add, ld_z, bd_s, e1, h18', Int.toNat_natCast, h18, lt_e, z_sub, gI_z, hL, hV, z_lt, if_neg, if_false, k5, if_pos, if_true]
  · rw [if_neg (fun h => c1 h.1)]
    simp (disch := omega) only [z_lit, z_add, ld_z, bd_s, e1, h18', Int.toNat_natCast, h18, lt_e, z_sub, gI_z, hL, hV, z_lt, if_pos, if_true]
theorem tooMuch_spec {u v : St} {C : Nat} {fi ps : Nat → Nat} {nv c : Nat → Int} {e : Nat → Nat} (h : SR u v C fi ps nv c e) {k : Nat} (hk : k < C) (L V : Int) (hL : I v 100 110 = L) (hV : I v 100 92 = V) (h98 : I v 100 98 = 0) (hL0 : 0 ≤ L) (hL1 : L ≤ 150) (hV0 : 0 ≤ V) (hV1 : V ≤ 220) : ∃ v', fX12_tooMuch (zI k) v = some (zI (if L + ((fi (k + 1) : Int) - fi k) ≤ 150 ∧ V ≤ 200 then 0 else 1), v') ∧ I v' 100 98 = (if L + ((fi (k + 1) : Int) - fi k) ≤ 150 ∧ V ≤ 200 then 0 else 1) ∧ I v' 100 110 = L + ((fi (k + 1) : Int) - fi k) ∧ Fr (fun k i => k == 100 && (i == 98 || i == 110)) v v' := by
  obtain ⟨k1, k2, k3, k4, k5, k6, k7, k8, k9⟩ := h.2.2.2.2.2.2.1 k hk
  have hC := h.1
  have z0 : (0 : Int) = 0 ∨ (0 : Int) = 1 := Or.inl rfl
  have z1 : (1 : Int) = 0 ∨ (1 : Int) = 1 := Or.inr rfl
  clear k1 k5 k6 k7 k8 k9 h
  generalize hd : (fi (k + 1) : Int) - fi k = d at *
  have hd0 : 0 ≤ d := by omega
  have hd1 : d ≤ 12 := by omega
  clear hd k3 k4
  unfold fX12_tooMuch fX12_tooMuch_j43
  by_cases c1 : L + d ≤ 150
  · by_cases c2 : V ≤ 200
    · rw [if_pos ⟨c1, c2⟩]
      simp (disch := omega) only [z_lit, ld_z, bd_s, Int.toNat_natCast, k2, lt_e, gI_z, hL, z_add, I_uI1, I_uI2, h98, z_eq, if_pos, if_true, z_lt, z_le, if_neg, if_false, hV, zb_z z0]
      refine ⟨_, rfl, ?_, ?_, Fr_up rfl (Fr_up rfl (Fr_rfl _ _))⟩
      · simp (disch := omega) only [I_uI1, I_uI2]
      · simp (disch := omega) only [I_uI1, I_uI2]
    · rw [if_neg (fun h => c2 h.2)]
      simp (disch := omega) only [z_lit, ld_z, bd_s, Int.toNat_natCast, k2, lt_e, gI_z, hL, z_add, I_uI1, I_uI2, h98, z_eq, if_pos, if_true, z_lt, z_le, if_neg, if_false, hV, zb_z z1]
      refine ⟨_, rfl, ?_, ?_, Fr_up rfl (Fr_up rfl (Fr_rfl _ _))⟩
      · simp (disch := omega) only [I_uI1, I_uI2]
      · simp (disch := omega) only [I_uI1, I_uI2]
  · rw [if_neg (fun h => c1 h.1)]
    simp (disch := omega) only [z_lit, ld_z, bd_s, Int.toNat_natCast, k2, lt_e, gI_z, hL, z_add, I_uI1, I_uI2, h98, z_eq, if_pos, if_true, z_lt, z_le, if_neg, if_false, hV, zb_z z1]
    refine ⟨_, rfl, ?_, ?_, Fr_up rfl (Fr_up rfl (Fr_rfl _ _))⟩
    · simp (disch := omega) only [I_uI1, I_uI2]
    · simp (disch := omega) only [I_uI1, I_uI2]
