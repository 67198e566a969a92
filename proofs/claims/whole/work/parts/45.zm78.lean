/-! reading: variables' names -/
def NMc (u : St) (NC : Nat) : Prop := I u 3 10 = NC ∧ (∀ x, x < NC → ∃ z, NmR (J u 38 x) z) ∧ (∀ x x', x < NC → x' < NC → J u 38 x = J u 38 x' → x = x')
def NMf (v : St) (NR : Nat) : Prop := I v 100 35 = NR ∧ (∀ y, y < NR → ∃ z, NmR z (J v 119 y)) ∧ (∀ y y', y < NR → y' < NR → J v 119 y = J v 119 y' → y = y')
theorem cvar_loop {u : St} {NC : Nat} {w : Int} (hN : I u 3 10 = NC) (h1500 : NC ≤ 1500) (hw1 : -9223372036854775808 ≤ w) (hw2 : w < 9223372036854775808) (d : Nat) : ∀ (F i : Nat), i + d = NC → d < F → (∀ x, x < i → J u 38 x ≠ w) → (∃ s : Nat, s < NC ∧ fX7_variable_L0 F 0 (zJ w) (zI i) u = some (zI s, u) ∧ J u 38 s = w) ∨ ((∀ x, x < NC → J u 38 x ≠ w) ∧ fX7_variable_L0 F 0 (zJ w) (zI i) u = fX7_variable_L0 1 0 (zJ w) (zI NC) u) := by
  induction d with
  | zero =>
    intro F i hi hF hne
    obtain ⟨F', rfl⟩ : ∃ F', F = F' + 1 := ⟨F - 1, by omega⟩
    have : i = NC := by omega
    subst this
    refine Or.inr ⟨hne, ?_⟩
    have sx : ∀ H, fX7_variable_L0 (H + 1) 0 (zJ w) (zI i) u = fX7_variable_L0_0 (fX7_variable_L0 H) (zJ w) (zI i) u := fun _ => rfl
    have hle : gI u 3 10 ≤ zI i := by rw [gI_z u 3 10, hN, z_le (by omega) (by omega) (by omega) (by omega)]; omega
    rw [sx, show (1 : Nat) = 0 + 1 from rfl, sx]
    unfold fX7_variable_L0_0
    rw [if_pos hle, if_pos hle]
  | succ d ih =>
    intro F i hi hF hne
    obtain ⟨F', rfl⟩ : ∃ F', F = F' + 1 := ⟨F - 1, by omega⟩
    have sx : fX7_variable_L0 (F' + 1) 0 (zJ w) (zI i) u = fX7_variable_L0_0 (fX7_variable_L0 F') (zJ w) (zI i) u := rfl
    have hc : ∀ R, fX7_variable_L0_0 R (zJ w) (zI i) u = if J u 38 i = w then some (zI i, u) else R 0 (zJ w) (zI ((i + 1 : Nat) : Int)) u := by
      intro R
      unfold fX7_variable_L0_0
      rw [gI_z u 3 10, hN, if_neg (show ¬ zI (NC : Nat) ≤ zI i by rw [z_le (by omega) (by omega) (by omega) (by omega)]; omega), ldJ_z _ _ _ _ (by omega) (by omega), bd_s, Int.toNat_natCast, lt_e, show (1 : Int32) = zI 1 from rfl, z_add, show (i : Int) + 1 = ((i + 1 : Nat) : Int) by omega]
      by_cases he : J u 38 i = w
      · rw [if_pos he, if_pos ((cmp_z _ _ (J_lo _ _ _) (J_hi _ _ _) (by omega) (by omega)).2 he)]
      · rw [if_neg he, if_neg (fun h => he ((cmp_z _ _ (J_lo _ _ _) (J_hi _ _ _) (by omega) (by omega)).1 h))]
    rw [sx, hc]
    by_cases he : J u 38 i = w
    · left
      exact ⟨i, by omega, by rw [if_pos he], he⟩
    · rw [if_neg he]
      exact ih F' (i + 1) (by omega) (by omega) (fun x hx => by
        by_cases hxi : x = i
        · subst hxi; exact he
        · exact hne x (by omega))
def Pva : Nat → Nat → Bool := fun k i => k == 38 || k == 39 || k == 40 || (k == 3 && i == 10)
/-- a variable's number, class -/
theorem cvar_spec {u : St} {NC : Nat} {w z : Int} (hN : NMc u NC) (h1500 : NC ≤ 1500) (hw : NmR w z) : ∃ (u' : St) (x NC' : Nat), fX7_variable (zJ w) u = some (zI x, u') ∧ NMc u' NC' ∧ x < NC' ∧ NC ≤ NC' ∧ NC' ≤ NC + 1 ∧ J u' 38 x = w ∧ (∀ y, y < NC → J u' 38 y = J u 38 y ∧ I u' 39 y = I u 39 y ∧ I u' 40 y = I u 40 y) ∧ (∀ y, NC ≤ y → y < NC' → I u' 39 y = 0 ∧ I u' 40 y = 0) ∧ Fr Pva u u' := by
  have hr := NmR_rng hw
  obtain ⟨n1, n2, n3⟩ := hN
  rcases cvar_loop (w := w) n1 h1500 (by omega) (by omega) NC FU 0 (by omega) (by unfold FU; omega) (fun x hx => by omega) with ⟨s, h1, h2, h3⟩ | ⟨h1, h2⟩
  · exact ⟨u, s, NC, h2, ⟨n1, n2, n3⟩, h1, Nat.le_refl _, by omega, h3, fun y _ => ⟨rfl, rfl, rfl⟩, fun y _ _ => by omega, Fr_rfl _ _⟩
  · have e1 : I (uJ u 38 NC (zJ w)) 3 10 = NC := n1
    have e2 : I (uI (uJ u 38 NC (zJ w)) 39 NC (zI 0)) 3 10 = NC := by rw [I_uI3 _ _ _ _ _ _ (by decide)]; exact n1
    have e3 : I (uI (uI (uJ u 38 NC (zJ w)) 39 NC (zI 0)) 40 NC (zI 0)) 3 10 = NC := by rw [I_uI3 _ _ _ _ _ _ (by decide)]; exact e2
    have c3 : I (uI (uI (uI (uJ u 38 NC (zJ w)) 39 NC (zI 0)) 40 NC (zI 0)) 3 10 (zI ((NC + 1 : Nat) : Int))) 3 10 = ((NC + 1 : Nat) : Int) := I_uI1 _ _ _ _ (by omega) (by omega)
    have hJ : ∀ y, J (uI (uI (uI (uJ u 38 NC (zJ w)) 39 NC (zI 0)) 40 NC (zI 0)) 3 10 (zI ((NC + 1 : Nat) : Int))) 38 y = if y = NC then w else J u 38 y := by
      intro y
      rw [J_uI, J_uI, J_uI, J_uJ _ _ _ _ (by omega) (by omega)]
      by_cases hy : y = NC
      · rw [if_pos ⟨rfl, hy⟩, if_pos hy]
      · rw [if_neg (fun h => hy h.2), if_neg hy]
    refine ⟨uI (uI (uI (uJ u 38 NC (zJ w)) 39 NC (zI 0)) 40 NC (zI 0)) 3 10 (zI ((NC + 1 : Nat) : Int)), NC, NC + 1, ?_, ⟨c3, fun x hx => ?_, fun x x' hx hx' h => ?_⟩, by omega, by omega, Nat.le_refl _, ?_, fun y hy => ⟨?_, ?_, ?_⟩, fun y hy1 hy2 => ⟨?_, ?_⟩, Fr_up rfl (Fr_up rfl (Fr_up rfl (Fr_uJ rfl (Fr_rfl _ _))))⟩
    · have sx : fX7_variable (zJ w) u = fX7_variable_L0_0 (fX7_variable_L0 0) (zJ w) (zI NC) u := h2
      rw [sx]
      unfold fX7_variable_L0_0
      rw [gI_z u 3 10, n1, if_pos (show zI (NC : Nat) ≤ zI (NC : Nat) by rw [z_le (by omega) (by omega) (by omega) (by omega)]; omega), if_pos (by rw [z_lit, z_lt (by omega) (by omega) (by decide) (by decide)]; omega), stJ_z _ _ _ _ _ (by omega) (by omega), bd_s, Int.toNat_natCast, gI_z _ 3 10, e1, show (0 : Int32) = zI 0 from rfl, st_z _ _ _ _ _ (by omega) (by omega), bd_s, Int.toNat_natCast, gI_z _ 3 10, e2, st_z _ _ _ _ _ (by omega) (by omega), bd_s, Int.toNat_natCast, gI_z _ 3 10, e3, show (1 : Int32) = zI 1 from rfl, z_add, lt_e, show (NC : Int) + 1 = ((NC + 1 : Nat) : Int) by omega, gI_z _ 3 10, c3, z_sub, show ((NC + 1 : Nat) : Int) - 1 = NC by omega]
    · rw [hJ]
      by_cases hxn : x = NC
      · rw [if_pos hxn]; exact ⟨z, hw⟩
      · rw [if_neg hxn]; exact n2 x (by omega)
    · rw [hJ, hJ] at h
      by_cases hxn : x = NC
      · by_cases hxn' : x' = NC
        · omega
        · rw [if_pos hxn, if_neg hxn'] at h; exact absurd h.symm (h1 x' (by omega))
      · by_cases hxn' : x' = NC
        · rw [if_neg hxn, if_pos hxn'] at h; exact absurd h (h1 x (by omega))
        · rw [if_neg hxn, if_neg hxn'] at h; exact n3 x x' (by omega) (by omega) h
    · rw [hJ, if_pos rfl]
    · rw [hJ, if_neg (by omega)]
    · rw [I_uI3 _ _ _ _ _ _ (by decide), I_uI3 _ _ _ _ _ _ (by decide), I_uI2 _ _ _ _ _ _ (by omega)]; rfl
    · rw [I_uI3 _ _ _ _ _ _ (by decide), I_uI2 _ _ _ _ _ _ (by omega), I_uI3 _ _ _ _ _ _ (by decide)]; rfl
    · have : y = NC := by omega
      subst this
      rw [I_uI3 _ _ _ _ _ _ (by decide), I_uI3 _ _ _ _ _ _ (by decide), I_uI1 _ _ _ _ (by decide) (by decide)]
    · have : y = NC := by omega
      subst this
      rw [I_uI3 _ _ _ _ _ _ (by decide), I_uI1 _ _ _ _ (by decide) (by decide)]
theorem rvar_loop {v : St} {NR : Nat} {w : Int} (hN : I v 100 35 = NR) (h1500 : NR < 1600) (hw1 : -9223372036854775808 ≤ w) (hw2 : w < 9223372036854775808) (d : Nat) : ∀ (F i : Nat), i + d = NR → d < F → (∀ x, x < i → J v 119 x ≠ w) → (∃ s : Nat, s < NR ∧ fX12_variableOf_L0 F 0 (zJ w) (zI i) v = some (zI s, v) ∧ J v 119 s = w) ∨ ((∀ x, x < NR → J v 119 x ≠ w) ∧ fX12_variableOf_L0 F 0 (zJ w) (zI i) v = fX12_variableOf_L0 1 0 (zJ w) (zI NR) v) := by
  induction d with
  | zero =>
    intro F i hi hF hne
    obtain ⟨F', rfl⟩ : ∃ F', F = F' + 1 := ⟨F - 1, by omega⟩
    have : i = NR := by omega
    subst this
    refine Or.inr ⟨hne, ?_⟩
    have sx : ∀ H, fX12_variableOf_L0 (H + 1) 0 (zJ w) (zI i) v = fX12_variableOf_L0_0 (fX12_variableOf_L0 H) (zJ w) (zI i) v := fun _ => rfl
    have hle : gI v 100 35 ≤ zI i := by rw [gI_z v 100 35, hN, z_le (by omega) (by omega) (by omega) (by omega)]; omega
    rw [sx, show (1 : Nat) = 0 + 1 from rfl, sx]
    unfold fX12_variableOf_L0_0
    rw [if_pos hle, if_pos hle]
  | succ d ih =>
    intro F i hi hF hne
    obtain ⟨F', rfl⟩ : ∃ F', F = F' + 1 := ⟨F - 1, by omega⟩
    have sx : fX12_variableOf_L0 (F' + 1) 0 (zJ w) (zI i) v = fX12_variableOf_L0_0 (fX12_variableOf_L0 F') (zJ w) (zI i) v := rfl
    have hc : ∀ R, fX12_variableOf_L0_0 R (zJ w) (zI i) v = if J v 119 i = w then some (zI i, v) else R 0 (zJ w) (zI ((i + 1 : Nat) : Int)) v := by
      intro R
      unfold fX12_variableOf_L0_0
      rw [gI_z v 100 35, hN, if_neg (show ¬ zI (NR : Nat) ≤ zI i by rw [z_le (by omega) (by omega) (by omega) (by omega)]; omega), ldJ_z _ _ _ _ (by omega) (by omega), bd_s, Int.toNat_natCast, lt_e, show (1 : Int32) = zI 1 from rfl, z_add, show (i : Int) + 1 = ((i + 1 : Nat) : Int) by omega]
      by_cases he : J v 119 i = w
      · rw [if_pos he, if_pos ((cmp_z _ _ (J_lo _ _ _) (J_hi _ _ _) (by omega) (by omega)).2 he)]
      · rw [if_neg he, if_neg (fun h => he ((cmp_z _ _ (J_lo _ _ _) (J_hi _ _ _) (by omega) (by omega)).1 h))]
    rw [sx, hc]
    by_cases he : J v 119 i = w
    · left
      exact ⟨i, by omega, by rw [if_pos he], he⟩
    · rw [if_neg he]
      exact ih F' (i + 1) (by omega) (by omega) (fun x hx => by
        by_cases hxi : x = i
        · subst hxi; exact he
        · exact hne x (by omega))
def Qva : Nat → Nat → Bool := fun k i => k == 119 || (k == 100 && i == 35)
theorem rvar_spec {v : St} {NR : Nat} {w z : Int} (hN : NMf v NR) (h1500 : NR < 1600) (hw : NmR z w) : ∃ (v' : St) (y NR' : Nat), fX12_variableOf (zJ w) v = some (zI y, v') ∧ NMf v' NR' ∧ y < NR' ∧ NR ≤ NR' ∧ NR' ≤ NR + 1 ∧ J v' 119 y = w ∧ (∀ i, i < NR → J v' 119 i = J v 119 i) ∧ (NR < NR' → ∀ i, i < NR → J v 119 i ≠ w) ∧ Fr Qva v v' := by
  have hr := NmR_rng hw
  obtain ⟨n1, n2, n3⟩ := hN
  rcases rvar_loop (w := w) n1 h1500 (by omega) (by omega) NR FU 0 (by omega) (by unfold FU; omega) (fun x hx => by omega) with ⟨s, h1, h2, h3⟩ | ⟨h1, h2⟩
  · exact ⟨v, s, NR, h2, ⟨n1, n2, n3⟩, h1, Nat.le_refl _, by omega, h3, fun y _ => rfl, fun h => absurd h (by omega), Fr_rfl _ _⟩
  · have e1 : I (uJ v 119 NR (zJ w)) 100 35 = NR := n1
    have c3 : I (uI (uJ v 119 NR (zJ w)) 100 35 (zI ((NR + 1 : Nat) : Int))) 100 35 = ((NR + 1 : Nat) : Int) := I_uI1 _ _ _ _ (by omega) (by omega)
    have hJ : ∀ y, J (uI (uJ v 119 NR (zJ w)) 100 35 (zI ((NR + 1 : Nat) : Int))) 119 y = if y = NR then w else J v 119 y := by
      intro y
      rw [J_uI, J_uJ _ _ _ _ (by omega) (by omega)]
      by_cases hy : y = NR
      · rw [if_pos ⟨rfl, hy⟩, if_pos hy]
      · rw [if_neg (fun h => hy h.2), if_neg hy]
    refine ⟨uI (uJ v 119 NR (zJ w)) 100 35 (zI ((NR + 1 : Nat) : Int)), NR, NR + 1, ?_, ⟨c3, fun x hx => ?_, fun x x' hx hx' h => ?_⟩, by omega, by omega, Nat.le_refl _, ?_, fun y hy => ?_, fun _ => h1, Fr_up rfl (Fr_uJ rfl (Fr_rfl _ _))⟩
    · have sx : fX12_variableOf (zJ w) v = fX12_variableOf_L0_0 (fX12_variableOf_L0 0) (zJ w) (zI NR) v := h2
      rw [sx]
      unfold fX12_variableOf_L0_0
      rw [gI_z v 100 35, n1, if_pos (show zI (NR : Nat) ≤ zI (NR : Nat) by rw [z_le (by omega) (by omega) (by omega) (by omega)]; omega), stJ_z _ _ _ _ _ (by omega) (by omega), bd_s, Int.toNat_natCast, gI_z _ 100 35, e1, show (1 : Int32) = zI 1 from rfl, z_add, lt_e, show (NR : Int) + 1 = ((NR + 1 : Nat) : Int) by omega, gI_z _ 100 35, c3, z_sub, show ((NR + 1 : Nat) : Int) - 1 = NR by omega]
    · rw [hJ]
      by_cases hxn : x = NR
      · rw [if_pos hxn]; exact ⟨z, hw⟩
      · rw [if_neg hxn]; exact n2 x (by omega)
    · rw [hJ, hJ] at h
      by_cases hxn : x = NR
      · by_cases hxn' : x' = NR
        · omega
        · rw [if_pos hxn, if_neg hxn'] at h; exact absurd h.symm (h1 x' (by omega))
      · by_cases hxn' : x' = NR
        · rw [if_neg hxn, if_pos hxn'] at h; exact absurd h (h1 x (by omega))
        · rw [if_neg hxn, if_neg hxn'] at h; exact n3 x x' (by omega) (by omega) h
    · rw [hJ, if_pos rfl]
    · rw [hJ, if_neg (by omega)]
/-- a name's use is settled -/
def Pse : Nat → Nat → Bool := fun k i => k == 16 || k == 17
def Qse : Nat → Nat → Bool := fun k i => k == 103 || k == 104
theorem settle_both {u v : St} {S s a m : Nat} {pr p : Int} (hS : SYT u v S) (hs : s < S) (ha : a ≤ 5) (hpr : pr = 0 ∨ pr = 1) (hm : m < 1000) (h43 : I v 100 43 = m) (hpm : pr = if m = 0 then 1 else 0) (h21 : I v 100 21 = 0) (hp1 : -2147483648 ≤ p) (hp2 : p < 2147483648) : ∃ u' v', (fX4_settle (zI s) (zI a) (zI pr) u = some (1, u') ∧ fX12_endName (zI s) (zI p) (zI a) v = some v' ∧ SYT u' v' S ∧ I u' 16 s = a ∧ I u' 17 s = pr ∧ SKp u u' v v' S ∧ Fr Pse u u' ∧ Fr Qse v v') ∨ (fX4_settle (zI s) (zI a) (zI pr) u = some (0, u) ∧ fX12_endName (zI s) (zI p) (zI a) v = some (uI (uI v 100 21 (zI 3)) 100 22 (zI p))) := by
  obtain ⟨s1, s2, s3, s4⟩ := hS
  obtain ⟨n1, n2, n3, n4, n5⟩ := s4 s hs
  have l1 := I_lo u 17 s
  have l2 := I_hi u 17 s
  have l3 := I_lo v 104 s
  have l4 := I_hi v 104 s
  have hen : fX12_endName (zI s) (zI p) (zI a) v = fX12_endName_j12 (zI s) (zI p) (zI a) (zI (1 - pr)) v := by
    unfold fX12_endName
    rw [gI_z v 100 43, h43]
    by_cases h : m = 0
    · rw [if_pos h] at hpm
      rw [if_pos (by rw [z_zero, z_le (by omega) (by omega) (by decide) (by decide)]; omega), hpm]; rfl
    · rw [if_neg h] at hpm
      rw [if_neg (by rw [z_zero, z_le (by omega) (by omega) (by decide) (by decide)]; omega), hpm]; rfl
  have hj12 : fX12_endName_j12 (zI s) (zI p) (zI a) (zI (1 - pr)) v = if I u 16 s < 0 then fX12_endName_j59 (zI s) (zI a) (zI (1 - pr)) v else if I u 16 s = a ∧ I v 104 s = 1 - pr then fX12_endName_j59 (zI s) (zI a) (zI (1 - pr)) v else some (uI (uI v 100 21 (zI 3)) 100 22 (zI p)) := by
    unfold fX12_endName_j12
    rw [gI_z v 100 21, h21, if_pos (by decide), ld_z _ _ _ _ (by omega) (by omega), bd_s, Int.toNat_natCast, ← n2]
    by_cases h0 : I u 16 s < 0
    · rw [if_pos h0, if_pos (by rw [z_zero, z_lt (by omega) (by omega) (by decide) (by decide)]; exact h0)]
    · rw [if_neg h0, if_neg (by rw [z_zero, z_lt (by omega) (by omega) (by decide) (by decide)]; exact h0), bd_s]
      by_cases h1 : I u 16 s = a
      · rw [if_pos (by rw [h1]), ld_z _ _ _ _ (by omega) (by omega), bd_s, Int.toNat_natCast]
        by_cases h2 : I v 104 s = 1 - pr
        · rw [if_pos (by rw [h2]), if_pos ⟨h1, h2⟩]
        · rw [if_neg (by rw [z_eq l3 l4 (by omega) (by omega)]; exact h2), if_neg (fun h => h2 h.2), show (3 : Int32) = zI 3 from rfl, rfail_0 v 3 p h21, bd_s]
      · rw [if_neg (by rw [z_eq (by omega) (by omega) (by omega) (by omega)]; exact h1), if_neg (fun h => h1 h.1), show (3 : Int32) = zI 3 from rfl, rfail_0 v 3 p h21, bd_s]
  have hj59 : fX12_endName_j59 (zI s) (zI a) (zI (1 - pr)) v = some (uI (uI v 103 s (zI a)) 104 s (zI (1 - pr))) := by
    unfold fX12_endName_j59
    rw [st_z _ _ _ _ _ (by omega) (by omega), bd_s, zb_z (by omega), bd_s, st_z _ _ _ _ _ (by omega) (by omega), bd_s, Int.toNat_natCast]
  have hj24 : ∀ w, fX4_settle_j24 (zI s) (zI a) (zI pr) w = if I w 16 s = a ∧ I w 17 s = pr then some (1, w) else some (0, w) := by
    intro w
    have q1 := I_lo w 16 s
    have q2 := I_hi w 16 s
    have q3 := I_lo w 17 s
    have q4 := I_hi w 17 s
    unfold fX4_settle_j24
    rw [ld_z _ _ _ _ (by omega) (by omega), bd_s, Int.toNat_natCast]
    by_cases h1 : I w 16 s = a
    · rw [if_pos (by rw [h1]), ld_z _ _ _ _ (by omega) (by omega), bd_s, Int.toNat_natCast]
      by_cases h2 : I w 17 s = pr
      · rw [if_pos (by rw [h2]), if_pos ⟨h1, h2⟩]
      · rw [if_neg (by rw [z_eq q3 q4 (by omega) (by omega)]; exact h2), if_neg (fun h => h2 h.2)]
    · rw [if_neg (by rw [z_eq q1 q2 (by omega) (by omega)]; exact h1), if_neg (fun h => h1 h.1)]
  rw [hen, hj12]
  have Fv : Fr Qse v (uI (uI v 103 s (zI a)) 104 s (zI (1 - pr))) := Fr_up rfl (Fr_up rfl (Fr_rfl _ _))
  have v103 : ∀ i, I (uI (uI v 103 s (zI a)) 104 s (zI (1 - pr))) 103 i = if i = s then (a : Int) else I v 103 i := by
    intro i
    rw [I_uI3 _ _ _ _ _ _ (by decide)]
    by_cases hi : i = s
    · subst hi; rw [if_pos rfl, I_uI1 _ _ _ _ (by omega) (by omega)]
    · rw [if_neg hi, I_uI2 _ _ _ _ _ _ (by omega)]
  have v104 : ∀ i, I (uI (uI v 103 s (zI a)) 104 s (zI (1 - pr))) 104 i = if i = s then 1 - pr else I v 104 i := by
    intro i
    by_cases hi : i = s
    · subst hi; rw [if_pos rfl, I_uI1 _ _ _ _ (by omega) (by omega)]
    · rw [if_neg hi, I_uI2 _ _ _ _ _ _ (by omega), I_uI3 _ _ _ _ _ _ (by decide)]
  by_cases h0 : I u 16 s < 0
  · have hm1 : I u 16 s = -1 := by omega
    have Fu : Fr Pse u (uI (uI u 16 s (zI a)) 17 s (zI pr)) := Fr_up rfl (Fr_up rfl (Fr_rfl _ _))
    have u16 : ∀ i, I (uI (uI u 16 s (zI a)) 17 s (zI pr)) 16 i = if i = s then (a : Int) else I u 16 i := by
      intro i
      rw [I_uI3 _ _ _ _ _ _ (by decide)]
      by_cases hi : i = s
      · subst hi; rw [if_pos rfl, I_uI1 _ _ _ _ (by omega) (by omega)]
      · rw [if_neg hi, I_uI2 _ _ _ _ _ _ (by omega)]
    have u17 : ∀ i, I (uI (uI u 16 s (zI a)) 17 s (zI pr)) 17 i = if i = s then pr else I u 17 i := by
      intro i
      by_cases hi : i = s
      · subst hi; rw [if_pos rfl, I_uI1 _ _ _ _ (by omega) (by omega)]
      · rw [if_neg hi, I_uI2 _ _ _ _ _ _ (by omega), I_uI3 _ _ _ _ _ _ (by decide)]
    refine ⟨uI (uI u 16 s (zI a)) 17 s (zI pr), _, Or.inl ⟨?_, by rw [if_pos h0]; exact hj59, ⟨by rw [Fr_I Fu rfl]; exact s1, by rw [Fr_I Fv rfl]; exact s2, s3, fun i hi => ?_⟩, by rw [u16, if_pos rfl], by rw [u17, if_pos rfl], fun i hi => ⟨Fr_J Fu rfl, Fr_J Fv rfl, fun hh => ?_⟩, Fu, Fv⟩⟩
    · unfold fX4_settle
      rw [ld_z _ _ _ _ (by omega) (by omega), bd_s, Int.toNat_natCast, hm1, if_pos (show zI (-1) = -1 from rfl), st_z _ _ _ _ _ (by omega) (by omega), bd_s, zb_z hpr, bd_s, st_z _ _ _ _ _ (by omega) (by omega), bd_s, Int.toNat_natCast, hj24, u16, u17, if_pos rfl, if_pos rfl, if_pos ⟨rfl, rfl⟩]
    · rw [Fr_J Fu rfl, Fr_J Fv rfl, u16, u17, v103, v104]
      by_cases his : i = s
      · rw [if_pos his, if_pos his, if_pos his, if_pos his]
        refine ⟨(s4 i hi).1, rfl, by omega, by omega, fun _ => ⟨hpr, rfl⟩⟩
      · rw [if_neg his, if_neg his, if_neg his, if_neg his]; exact s4 i hi
    · have his : i ≠ s := fun h => by subst h; omega
      rw [u16, u17, if_neg his, if_neg his]; exact ⟨rfl, rfl⟩
  · obtain ⟨p1, p2⟩ := n5 (by omega)
    have hse : fX4_settle (zI s) (zI a) (zI pr) u = fX4_settle_j24 (zI s) (zI a) (zI pr) u := by
      unfold fX4_settle
      rw [ld_z _ _ _ _ (by omega) (by omega), bd_s, Int.toNat_natCast, if_neg (by rw [show (-1 : Int32) = zI (-1) from rfl, z_eq (by omega) (by omega) (by decide) (by decide)]; omega)]
    rw [hse, hj24, if_neg h0]
    by_cases h1 : I u 16 s = a ∧ I u 17 s = pr
    · refine ⟨u, _, Or.inl ⟨by rw [if_pos h1], by rw [if_pos ⟨h1.1, by omega⟩]; exact hj59, ⟨s1, by rw [Fr_I Fv rfl]; exact s2, s3, fun i hi => ?_⟩, h1.1, h1.2, fun i hi => ⟨rfl, Fr_J Fv rfl, fun _ => ⟨rfl, rfl⟩⟩, Fr_rfl _ _, Fv⟩⟩
      rw [Fr_J Fv rfl, v103, v104]
      by_cases his : i = s
      · subst his
        rw [if_pos rfl, if_pos rfl]
        refine ⟨n1, h1.1, n3, n4, fun _ => ⟨p1, by omega⟩⟩
      · rw [if_neg his, if_neg his]; exact s4 i hi
    · exact ⟨u, v, Or.inr ⟨by rw [if_neg h1], by rw [if_neg (fun h => h1 ⟨h.1, by omega⟩)]⟩⟩
