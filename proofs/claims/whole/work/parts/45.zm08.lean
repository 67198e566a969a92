/-! the reference: follow, counted, stands, argumentsNext -/
def BR (v : St) (T : List (Nat × Nat × Int)) (V : Int) : Prop := ∀ w : Nat, (w : Int) < V → (lk T w = none → I v 154 w = -1) ∧ (∀ y, lk T w = some y → I v 154 w = y.1 ∧ I v 155 w = y.2)
def RT (v : St) (c : Nat → Int) (e : Nat → Nat) (N : Nat) : Prop := N ≤ 20000 ∧ (∀ p, p < N → (c p < 0 → I v 111 p = c p) ∧ (0 ≤ c p → 0 ≤ I v 111 p) ∧ I v 113 p = ar c p ∧ I v 112 p = e p) ∧ (∀ p q, p < N → q < N → 0 ≤ c p → 0 ≤ c q → (I v 111 p = I v 111 q ↔ c p = c q))
def RE (v : St) (c : Nat → Int) (e : Nat → Nat) (N : Nat) (V : Int) (T : List (Nat × Nat × Int)) : Prop := RT v c e N ∧ V ≤ 220 ∧ BR v T V
theorem RT_fr {P : Nat → Nat → Bool} {v v' : St} {c : Nat → Int} {e : Nat → Nat} {N : Nat} (hF : Fr P v v') (h1 : ∀ i, P 111 i = false) (h2 : ∀ i, P 112 i = false) (h3 : ∀ i, P 113 i = false) (h : RT v c e N) : RT v' c e N := by
  refine ⟨h.1, fun p hp => ?_, fun p q hp hq => ?_⟩
  · rw [Fr_I hF (h1 p), Fr_I hF (h2 p), Fr_I hF (h3 p)]; exact h.2.1 p hp
  · rw [Fr_I hF (h1 p), Fr_I hF (h1 q)]; exact h.2.2 p q hp hq
theorem RE_fr {P : Nat → Nat → Bool} {v v' : St} {c : Nat → Int} {e : Nat → Nat} {N : Nat} {V : Int} {T : List (Nat × Nat × Int)} (hF : Fr P v v') (h1 : ∀ i, P 111 i = false) (h2 : ∀ i, P 112 i = false) (h3 : ∀ i, P 113 i = false) (h4 : ∀ i, P 154 i = false) (h5 : ∀ i, P 155 i = false) (h : RE v c e N V T) : RE v' c e N V T := by
  refine ⟨RT_fr hF h1 h2 h3 h.1, h.2.1, fun w hw => ?_⟩
  rw [Fr_I hF (h4 w), Fr_I hF (h5 w)]; exact h.2.2 w hw
def PF : Nat → Nat → Bool := fun k i => k == 100 && (i == 95 || i == 96)
theorem follow_go (rec : Nat → St → Option St) (v : St) (p x : Nat) (b cp : Int) (y : Nat × Int) (h95 : I v 100 95 = p) (h96 : I v 100 96 = b) (hp : p < 20000) (hc : I v 111 p = cp) (hcp : cp < 0) (hx : b - 1 - cp = x) (hx2 : x < 300) (h1 : I v 154 x = y.1) (h2 : I v 155 x = y.2) : ∃ U, fX12_follow_L0_0 rec v = rec 0 U ∧ I U 100 95 = y.1 ∧ I U 100 96 = y.2 ∧ Fr PF v U := by
  have b9 := I_lo v 111 p
  have b1 := I_lo v 154 x
  have b2 := I_hi v 154 x
  have b3 := I_lo v 155 x
  have b4 := I_hi v 155 x
  rw [hc] at b9
  rw [h1] at b1 b2
  rw [h2] at b3 b4
  unfold fX12_follow_L0_0
  simp (disch := omega) only [z_lit, gI_z, h95, h96, ld_z, bd_s, Int.toNat_natCast, hc, z_le, z_lt, if_neg, if_false, if_pos, if_true, z_sub, hx, h1, lt_e, I_uI2, h2]
  refine ⟨_, rfl, ?_, ?_, ?_⟩
  · simp (disch := omega) only [I_uI1, I_uI2]
  · simp (disch := omega) only [I_uI1, I_uI2]
  · exact Fr_up rfl (Fr_up rfl (Fr_rfl _ _))
theorem follow_stop (rec : Nat → St → Option St) (v : St) (p : Nat) (b cp tp : Int) (h95 : I v 100 95 = p) (h96 : I v 100 96 = b) (hp : p < 20000) (hc : I v 111 p = tp) (hcp : (cp < 0 → tp = cp) ∧ (0 ≤ cp → 0 ≤ tp)) (hs : cp < 0 → ∃ x : Nat, b - 1 - cp = x ∧ x < 300 ∧ I v 154 x = -1) : fX12_follow_L0_0 rec v = some v := by
  have b9 := I_lo v 111 p
  have b8 := I_hi v 111 p
  rw [hc] at b9 b8
  unfold fX12_follow_L0_0
  by_cases h : cp < 0
  · have h1 := hcp.1 h
    subst h1
    obtain ⟨x, h2, h3, h4⟩ := hs h
    simp (disch := omega) only [z_lit, gI_z, h95, h96, ld_z, bd_s, Int.toNat_natCast, hc, z_le, z_lt, if_neg, if_false, if_pos, if_true, z_sub, h2, h4]
  · have h1 := hcp.2 (by omega)
    simp (disch := omega) only [z_lit, gI_z, h95, h96, ld_z, bd_s, Int.toNat_natCast, hc, z_le, z_lt, if_neg, if_false, if_pos, if_true]
theorem follow_loop {c : Nat → Int} {e : Nat → Nat} {N : Nat} {V : Int} {T : List (Nat × Nat × Int)} {ρ : Nat → Nat} (hT : TOK c e N) (hB : BOK c e N V T ρ) (r : Nat) : ∀ (fuel : Nat) (v : St) (p : Nat) (b : Int), OK c e N V T ρ r (p, b) → r < fuel → RE v c e N V T → I v 100 95 = p → I v 100 96 = b → ∃ v', fX12_follow_L0 fuel 0 v = some v' ∧ I v' 100 95 = ((dr c T (p, b)).1 : Int) ∧ I v' 100 96 = (dr c T (p, b)).2 ∧ Fr PF v v' := by
  induction r with
  | zero =>
    intro fuel v p b hO hf hE h95 h96
    obtain ⟨f, rfl⟩ : ∃ f, fuel = f + 1 := ⟨fuel - 1, by omega⟩
    have hs : stop c T (p, b) := by
      intro hc
      have := OK_head hT hO hc
      by_cases hn : lk T (hv c (p, b)).toNat = none
      · exact hn
      · exact absurd (this.2.2 hn) (Nat.not_lt_zero _)
    have h0 := hE.1.2.1 p hO.1
    have hN := hE.1.1
    have hpN := hO.1
    simp only at hpN
    refine ⟨v, ?_, by rw [dr_stop hs]; exact h95, by rw [dr_stop hs]; exact h96, Fr_rfl _ _⟩
    refine follow_stop _ v p b (c p) _ h95 h96 (by omega) rfl ⟨h0.1, h0.2.1⟩ ?_
    intro hc
    have h1 := OK_head hT hO hc
    have h4 := hE.2.1
    have h5 := h1.1
    have h6 := h1.2.1
    refine ⟨(hv c (p, b)).toNat, ?_, by omega, (hE.2.2 _ (by omega)).1 (hs hc)⟩
    unfold hv at h5 ⊢; simp only at h5 ⊢; omega
  | succ r ih =>
    intro fuel v p b hO hf hE h95 h96
    obtain ⟨f, rfl⟩ : ∃ f, fuel = f + 1 := ⟨fuel - 1, by omega⟩
    have h0 := hE.1.2.1 p hO.1
    have hN := hE.1.1
    have hpN := hO.1
    simp only at hpN
    have h4 := hE.2.1
    by_cases hs : stop c T (p, b)
    · refine ⟨v, ?_, by rw [dr_stop hs]; exact h95, by rw [dr_stop hs]; exact h96, Fr_rfl _ _⟩
      refine follow_stop _ v p b (c p) _ h95 h96 (by omega) rfl ⟨h0.1, h0.2.1⟩ ?_
      intro hc
      have h1 := OK_head hT hO hc
      have h5 := h1.1
      have h6 := h1.2.1
      refine ⟨(hv c (p, b)).toNat, ?_, by omega, (hE.2.2 _ (by omega)).1 (hs hc)⟩
      unfold hv at h5 ⊢; simp only at h5 ⊢; omega
    · have hc : c p < 0 := by
        apply Classical.byContradiction; intro hc; exact hs (fun h => absurd h hc)
      cases hy : lk T (hv c (p, b)).toNat with
      | none => exact absurd (fun _ => hy) hs
      | some y =>
        have h1 := OK_head hT hO hc
        have h5 := h1.1
        have h6 := h1.2.1
        have h7 := h1.2.2 (by rw [hy]; simp)
        have hB2 := hB _ _ hy
        have hbr := (hE.2.2 (hv c (p, b)).toNat (by omega)).2 y hy
        obtain ⟨U, u1, u2, u3, u4⟩ := follow_go (fX12_follow_L0 f) v p (hv c (p, b)).toNat b (c p) y h95 h96 (by omega) (h0.1 hc) hc (by unfold hv at h5 ⊢; simp only at h5 ⊢; omega) (by omega) hbr.1 hbr.2
        obtain ⟨v', r1, r2, r3, r4⟩ := ih f U y.1 y.2 (OK_mono (by omega) hB2.2.2) (by omega) (RE_fr u4 (fun _ => rfl) (fun _ => rfl) (fun _ => rfl) (fun _ => rfl) (fun _ => rfl) hE) u2 u3
        refine ⟨v', u1.trans r1, ?_, ?_, Fr_tr u4 r4⟩
        · rw [r2, dr_go hT hB hc hy]
        · rw [r3, dr_go hT hB hc hy]
theorem follow_spec {c : Nat → Int} {e : Nat → Nat} {N : Nat} {V : Int} {T : List (Nat × Nat × Int)} {ρ : Nat → Nat} {r : Nat} (hT : TOK c e N) (hB : BOK c e N V T ρ) {v : St} {x : Nat × Int} (hr : r ≤ 220) (hb1 : -2147483648 ≤ x.2) (hb2 : x.2 < 2147483648) (hO : OK c e N V T ρ r x) (hE : RE v c e N V T) : ∃ v', fX12_follow (zI x.1) (zI x.2) v = some v' ∧ I v' 100 95 = ((dr c T x).1 : Int) ∧ I v' 100 96 = (dr c T x).2 ∧ Fr PF v v' := by
  have hN := hE.1.1
  have hpN := hO.1
  have hF : Fr PF v (uI (uI v 100 95 (zI x.1)) 100 96 (zI x.2)) := Fr_up rfl (Fr_up rfl (Fr_rfl _ _))
  obtain ⟨v', r1, r2, r3, r4⟩ := follow_loop hT hB r FU (uI (uI v 100 95 (zI x.1)) 100 96 (zI x.2)) x.1 x.2 hO (by unfold FU; omega) (RE_fr hF (fun _ => rfl) (fun _ => rfl) (fun _ => rfl) (fun _ => rfl) (fun _ => rfl) hE) (by simp (disch := omega) only [I_uI1, I_uI2]) (by simp (disch := omega) only [I_uI1, I_uI2])
  exact ⟨v', r1, r2, r3, Fr_tr hF r4⟩
def PCo : Nat → Nat → Bool := fun k i => k == 100 && (i == 97 || i == 98)
theorem counted_spec (v : St) (n : Nat) (hn : n ≤ 4000) (h97 : I v 100 97 = 4000 - (n : Int)) (h98 : I v 100 98 = 0) : ∃ v', fX12_counted v = some (zI (if n = 0 then 0 else 1), v') ∧ I v' 100 97 = 4001 - (n : Int) ∧ I v' 100 98 = (if n = 0 then 1 else 0) ∧ Fr PCo v v' := by
  have e1 : 4000 - (n : Int) + 1 = 4001 - n := by omega
  have z0 : (0 : Int) = 0 ∨ (0 : Int) = 1 := Or.inl rfl
  have z1 : (1 : Int) = 0 ∨ (1 : Int) = 1 := Or.inr rfl
  by_cases h : n = 0
  · subst h
    refine ⟨_, by
      unfold fX12_counted fX12_counted_j33
      simp (disch := omega) only [z_lit, gI_z, h97, h98, lt_e, z_add, e1, I_uI1, I_uI2, z_eq, z_le, if_neg, if_false, if_pos, if_true, zb_z z1, bd_s]
      rfl, ?_, ?_, ?_⟩
    · simp (disch := omega) only [I_uI1, I_uI2]
    · simp (disch := omega) only [I_uI1, I_uI2]; rfl
    · exact Fr_up rfl (Fr_up rfl (Fr_rfl _ _))
  · refine ⟨_, by
      unfold fX12_counted fX12_counted_j33
      simp (disch := omega) only [z_lit, gI_z, h97, h98, lt_e, z_add, e1, I_uI1, I_uI2, z_eq, z_le, if_neg, if_false, if_pos, if_true, zb_z z0, bd_s]
      rfl, ?_, ?_, ?_⟩
    · simp (disch := omega) only [I_uI1, I_uI2]
    · simp (disch := omega) only [I_uI1, I_uI2, if_neg, if_false]
    · exact Fr_up rfl (Fr_up rfl (Fr_rfl _ _))
