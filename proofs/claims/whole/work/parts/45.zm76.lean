/-! reading: what a token is asked for -/
def FLT (u v : St) : Prop := ∃ f p : Int, 1 ≤ f ∧ f ≤ 6 ∧ I u 4 4 = f ∧ I v 100 21 = f ∧ I u 4 5 = p ∧ I v 100 22 = p
def PN : Nat → Nat → Bool := fun k i => PT k i || (k == 4 && (i == 4 || i == 5))
def TKp (u v : St) (n t : Nat) : Prop := TNs u v n t ∨ ∃ b k, TLs u v n t b k
theorem cfail_0 (u : St) (a p : Int) (h : I u 4 4 = 0) : fX2_fail (zI a) (zI p) u = some (uI (uI u 4 4 (zI a)) 4 5 (zI p)) := by
  unfold fX2_fail
  rw [gI_z u 4 4, h, if_pos (show zI 0 = 0 from rfl), lt_e, lt_e]
theorem cfail_1 (u : St) (a p : Int32) (h : I u 4 4 ≠ 0) : fX2_fail a p u = some u := by
  unfold fX2_fail
  rw [gI_z u 4 4, if_neg (by rw [z_zero, z_eq (I_lo _ _ _) (I_hi _ _ _) (by decide) (by decide)]; exact h)]
theorem fail_both {u v : St} (a p : Int) (ha1 : 1 ≤ a) (ha2 : a ≤ 6) (hp1 : -2147483648 ≤ p) (hp2 : p < 2147483648) (h4 : I u 4 4 = 0) (h21 : I v 100 21 = 0) : ∃ u' v', fX2_fail (zI a) (zI p) u = some u' ∧ fX12_fail (zI a) (zI p) v = some v' ∧ FLT u' v' ∧ Fr (fun k i => k == 4 && (i == 4 || i == 5)) u u' ∧ Fr (fun k i => k == 100 && (i == 21 || i == 22)) v v' := by
  refine ⟨_, _, cfail_0 u a p h4, rfail_0 v a p h21, ⟨a, p, ha1, ha2, ?_, ?_, I_uI1 _ _ _ _ hp1 hp2, I_uI1 _ _ _ _ hp1 hp2⟩, Fr_up rfl (Fr_up rfl (Fr_rfl _ _)), Fr_up rfl (Fr_up rfl (Fr_rfl _ _))⟩
  · rw [I_uI2 _ _ _ _ _ _ (by decide)]; exact I_uI1 _ _ _ _ (by omega) (by omega)
  · rw [I_uI2 _ _ _ _ _ _ (by decide)]; exact I_uI1 _ _ _ _ (by omega) (by omega)
/-- behind a fault -/
theorem next_flt (u : St) (h : I u 4 4 ≠ 0) : fX2_next u = some (zI 1, u) := by
  unfold fX2_next
  rw [gI_z u 4 4, if_neg (by rw [z_zero, z_eq (I_lo _ _ _) (I_hi _ _ _) (by decide) (by decide)]; exact h)]; rfl
theorem want_flt (u : St) (k : Int) (h : I u 4 4 ≠ 0) (hk : zI k ≠ zI 1) : fX2_want (zI k) u = some (0, u) := by
  unfold fX2_want
  rw [next_flt u h, b2_s, if_neg (fun h => hk h.symm), cfail_1 u _ _ h, bd_s]
theorem next_same {u v : St} {n s b k : Nat} (hL : TLs u v n s b k) (h4 : I u 4 4 = 0) (h21 : I v 100 21 = 0) : fX2_next u = some (zI ((k + 1 : Nat) : Int), u) ∧ fX12_look v = some (zI k, v) := by
  obtain ⟨l1, l2, l3, l4, l5, l6, l7, l8, l9, _⟩ := hL
  constructor
  · unfold fX2_next fX6_look
    rw [gI_z u 4 4, h4, if_pos (show zI 0 = 0 from rfl), gI_z u 1 6, l1, if_neg (by decide), b2_s, gI_z u 1 4, l7, if_neg (by rw [z_zero, z_eq (by omega) (by omega) (by decide) (by decide)]; omega)]
  · unfold fX12_look
    rw [gI_z v 100 21, h21, if_pos (by decide), gI_z v 100 24, l2, if_neg (by decide), gI_z v 100 25, l8]
theorem next_both {u v : St} {n t : Nat} (hT : TXs u v n) (hK : TKp u v n t) (h4 : I u 4 4 = 0) (h21 : I v 100 21 = 0) : ∃ u' v', Fr PN u u' ∧ Fr QT v v' ∧ ((∃ s b k : Nat, fX2_next u = some (zI ((k + 1 : Nat) : Int), u') ∧ fX12_look v = some (zI k, v') ∧ TLs u' v' n s b k ∧ t ≤ s ∧ I u' 4 4 = 0 ∧ I v' 100 21 = 0) ∨ (fX2_next u = some (zI 1, u') ∧ fX12_look v = some (zI (-1), v') ∧ FLT u' v')) := by
  rcases hK with hN | ⟨b, k, hL⟩
  · obtain ⟨u1, v1, f1, f2, h⟩ := look_both hT hN h21
    have e4 : I u1 4 4 = 0 := by rw [Fr_I f1 rfl]; exact h4
    have hop : ∀ r : Int, fX6_look u = some (zI r, u1) → fX2_next u = if zI r = 0 then (bd (fX2_fail 1 (gI u1 1 2) u1) fun u5 => some (1, u5)) else some (zI r, u1) := by
      intro r hr
      unfold fX2_next
      rw [gI_z u 4 4, h4, if_pos (show zI 0 = 0 from rfl), hr, b2_s]
    rcases h with ⟨s, b', k, a1, a2, a3, a4, a5, a6⟩ | ⟨s, a1, a2, a3, a4, a5⟩
    · have hk := a3.2.2.2.2.2.2.2.2.1
      refine ⟨u1, v1, Fr_up2 (fun k i hk => by simp [PN, hk]) f1, f2, Or.inl ⟨s, b', k, ?_, a2, a3, a4, e4, a5⟩⟩
      rw [hop _ a1, if_neg (by rw [z_zero, z_eq (by omega) (by omega) (by decide) (by decide)]; omega)]
    · have hs1 := I_lo u1 1 2
      have hs2 := I_hi u1 1 2
      refine ⟨uI (uI u1 4 4 (zI 1)) 4 5 (zI s), v1, Fr_up rfl (Fr_up rfl (Fr_up2 (fun k i hk => by simp [PN, hk]) f1)), f2, Or.inr ⟨?_, a2, 1, s, by decide, by decide, ?_, a3, I_uI1 _ _ _ _ (by omega) (by omega), a4⟩⟩
      · rw [hop _ a1, if_pos (show zI 0 = 0 from rfl), gI_z u1 1 2, a5, show (1 : Int32) = zI 1 from rfl, cfail_0 u1 1 s e4, bd_s]
      · rw [I_uI2 _ _ _ _ _ _ (by decide)]; exact I_uI1 _ _ _ _ (by decide) (by decide)
  · obtain ⟨a1, a2⟩ := next_same hL h4 h21
    exact ⟨u, v, Fr_rfl _ _, Fr_rfl _ _, Or.inl ⟨t, b, k, a1, a2, hL, Nat.le_refl _, h4, h21⟩⟩
/-- a token is taken -/
def PK : Nat → Nat → Bool := fun k i => k == 1 && i == 6
def QK : Nat → Nat → Bool := fun k i => k == 100 && i == 24
theorem take_both {u v : St} {n s b k : Nat} (hL : TLs u v n s b k) : ∃ u' v', fX6_take u = some u' ∧ fX12_take v = some v' ∧ TNs u' v' n b ∧ Fr PK u u' ∧ Fr QK v v' := by
  obtain ⟨l1, l2, l3, l4, l5, l6, l7, l8, l9, l10, l11, _⟩ := hL
  refine ⟨uI u 1 6 (zI 0), uI v 100 24 (zI 0), ?_, ?_, ⟨I_uI1 _ _ _ _ (by decide) (by decide), I_uI1 _ _ _ _ (by decide) (by decide), ?_, ?_, l11⟩, Fr_up rfl (Fr_rfl _ _), Fr_up rfl (Fr_rfl _ _)⟩
  · unfold fX6_take; rw [lt_e]; rfl
  · unfold fX12_take; rw [lt_e]; rfl
  · rw [I_uI2 _ _ _ _ _ _ (by decide)]; exact l5
  · rw [I_uI2 _ _ _ _ _ _ (by decide)]; exact l6
theorem want_both {u v : St} {n t : Nat} (kr : Nat) (hk1 : 1 ≤ kr) (hk2 : kr ≤ 14) (hT : TXs u v n) (hK : TKp u v n t) (h4 : I u 4 4 = 0) (h21 : I v 100 21 = 0) : ∃ u' v', Fr PN u u' ∧ Fr QT v v' ∧ ((∃ s b : Nat, fX2_want (zI ((kr + 1 : Nat) : Int)) u = some (1, u') ∧ fX12_must (zI kr) v = some (1, v') ∧ TNs u' v' n b ∧ t ≤ s ∧ s < b ∧ I u' 4 4 = 0 ∧ I v' 100 21 = 0 ∧ (kr = 1 ∨ kr = 2 → NmR (J u' 1 3) (J v' 100 27) ∧ (b < n → ¬ isW (byt u' b)) ∧ isW (byt u' s))) ∨ (fX2_want (zI ((kr + 1 : Nat) : Int)) u = some (0, u') ∧ fX12_must (zI kr) v = some (0, v') ∧ FLT u' v')) := by
  obtain ⟨u1, v1, f1, f2, h⟩ := next_both hT hK h4 h21
  rcases h with ⟨s, b, k, a1, a2, a3, a4, a5, a6⟩ | ⟨a1, a2, a3⟩
  · have hk14 := a3.2.2.2.2.2.2.2.2.1
    by_cases hk : k = kr
    · subst hk
      obtain ⟨u2, v2, t1, t2, t3, t4, t5⟩ := take_both a3
      obtain ⟨_, _, _, _, _, _, _, _, _, _, _, l12, l13⟩ := a3
      refine ⟨u2, v2, Fr_tr f1 (Fr_up2 (fun k i hk => by simp [PK] at hk; simp [PN, PT, hk.1, hk.2]) t4), Fr_tr f2 (Fr_up2 (fun k i hk => by simp [QK] at hk; simp [QT, hk.1, hk.2]) t5), Or.inl ⟨s, b, ?_, ?_, t3, a4, l12 (by omega), by rw [Fr_I t4 rfl]; exact a5, by rw [Fr_I t5 rfl]; exact a6, fun h => ?_⟩⟩
      · unfold fX2_want; rw [a1, b2_s, if_pos rfl, t1, bd_s]
      · unfold fX12_must; rw [a2, b2_s, if_pos rfl, t2, bd_s]
      · rw [Fr_J t4 rfl, Fr_J t5 rfl, byt_fr t4 (fun _ => rfl), byt_fr t4 (fun _ => rfl)]; exact l13 h
    · have l3 := a3.2.2.1
      have l4 := a3.2.2.2.1
      obtain ⟨u2, v2, t1, t2, t3, t4, t5⟩ := fail_both 2 s (by decide) (by decide) (by omega) (by have := I_hi u1 1 2; omega) a5 a6
      refine ⟨u2, v2, Fr_tr f1 (Fr_up2 (fun k i hk => by simp at hk; simp [PN, PT]; omega) t4), Fr_tr f2 (Fr_up2 (fun k i hk => by simp at hk; simp [QT]; omega) t5), Or.inr ⟨?_, ?_, t3⟩⟩
      · unfold fX2_want; rw [a1, b2_s, if_neg (by rw [z_eq (by omega) (by omega) (by omega) (by omega)]; omega), gI_z u1 1 2, l3, show (2 : Int32) = zI 2 from rfl, t1, bd_s]
      · unfold fX12_must; rw [a2, b2_s, if_neg (by rw [z_eq (by omega) (by omega) (by omega) (by omega)]; omega), gI_z v1 100 26, l4, show (2 : Int32) = zI 2 from rfl, t2, bd_s]
  · refine ⟨u1, v1, f1, f2, Or.inr ⟨?_, ?_, a3⟩⟩
    · have hne : I u1 4 4 ≠ 0 := by obtain ⟨f, p, g1, g2, g3, _⟩ := a3; omega
      unfold fX2_want; rw [a1, b2_s, if_neg (by rw [z_eq (by decide) (by decide) (by omega) (by omega)]; omega), cfail_1 u1 _ _ hne, bd_s]
    · obtain ⟨f, p, g1, g2, g3, g4, _⟩ := a3
      unfold fX12_must; rw [a2, b2_s, if_neg (by rw [z_eq (by decide) (by decide) (by omega) (by omega)]; omega)]
      unfold fX12_fail
      rw [gI_z v1 100 21, g4, if_neg (by rw [z_zero, z_eq (by omega) (by omega) (by decide) (by decide)]; omega), bd_s]
/-- a token that stays open -/
theorem opens_both {u v : St} {n s b k o : Nat} (hL : TLs u v n s b k) (ho : o ≤ 30) (h3 : I u 4 3 = o) (h37 : I v 100 37 = o) (h4 : I u 4 4 = 0) (h21 : I v 100 21 = 0) : ∃ u' v', ((o < 30 ∧ fX2_opens u = some (1, u') ∧ fX12_opens v = some (1, v') ∧ TNs u' v' n b ∧ I u' 4 3 = ((o + 1 : Nat) : Int) ∧ I v' 100 37 = ((o + 1 : Nat) : Int) ∧ Fr (fun k i => PK k i || (k == 4 && i == 3)) u u' ∧ Fr (fun k i => QK k i || (k == 100 && i == 37)) v v') ∨ (fX2_opens u = some (0, u') ∧ fX12_opens v = some (0, v') ∧ FLT u' v' ∧ Fr (fun k i => k == 4 && (i == 4 || i == 5)) u u' ∧ Fr (fun k i => k == 100 && (i == 21 || i == 22)) v v')) := by
  by_cases h : o < 30
  · have hL2 : TLs (uI u 4 3 (zI ((o + 1 : Nat) : Int))) (uI v 100 37 (zI ((o + 1 : Nat) : Int))) n s b k := by
      obtain ⟨l1, l2, l3, l4, l5, l6, l7, l8, l9, l10, l11, l12, l13⟩ := hL
      exact ⟨by rw [I_uI3 _ _ _ _ _ _ (by decide)]; exact l1, by rw [I_uI2 _ _ _ _ _ _ (by decide)]; exact l2, by rw [I_uI3 _ _ _ _ _ _ (by decide)]; exact l3, by rw [I_uI2 _ _ _ _ _ _ (by decide)]; exact l4, by rw [I_uI3 _ _ _ _ _ _ (by decide)]; exact l5, by rw [I_uI2 _ _ _ _ _ _ (by decide)]; exact l6, by rw [I_uI3 _ _ _ _ _ _ (by decide)]; exact l7, by rw [I_uI2 _ _ _ _ _ _ (by decide)]; exact l8, l9, l10, l11, l12, l13⟩
    obtain ⟨u2, v2, t1, t2, t3, t4, t5⟩ := take_both hL2
    refine ⟨u2, v2, Or.inl ⟨h, ?_, ?_, t3, ?_, ?_, ?_, ?_⟩⟩
    · unfold fX2_opens
      rw [gI_z u 4 3, h3, if_pos (by rw [z_lit, z_lt (by omega) (by omega) (by decide) (by decide)]; omega), show (1 : Int32) = zI 1 from rfl, z_add, lt_e, show (o : Int) + 1 = ((o + 1 : Nat) : Int) by omega, t1, bd_s]
    · unfold fX12_opens
      rw [gI_z v 100 37, h37, if_neg (by rw [z_lit, z_eq (by omega) (by omega) (by decide) (by decide)]; omega), show (1 : Int32) = zI 1 from rfl, z_add, lt_e, show (o : Int) + 1 = ((o + 1 : Nat) : Int) by omega, t2, bd_s]
    · rw [Fr_I t4 rfl]; exact I_uI1 _ _ _ _ (by omega) (by omega)
    · rw [Fr_I t5 rfl]; exact I_uI1 _ _ _ _ (by omega) (by omega)
    · exact Fr_tr (Fr_up rfl (Fr_rfl _ _)) (Fr_up2 (fun k i hk => by simp [hk]) t4)
    · exact Fr_tr (Fr_up rfl (Fr_rfl _ _)) (Fr_up2 (fun k i hk => by simp [hk]) t5)
  · have ho2 : o = 30 := by omega
    subst ho2
    have l3 := hL.2.2.1
    have l4 := hL.2.2.2.1
    obtain ⟨u2, v2, t1, t2, t3, t4, t5⟩ := fail_both 6 s (by decide) (by decide) (by omega) (by have := I_hi u 1 2; omega) h4 h21
    refine ⟨u2, v2, Or.inr ⟨?_, ?_, t3, t4, t5⟩⟩
    · unfold fX2_opens
      rw [gI_z u 4 3, h3, if_neg (by decide), gI_z u 1 2, l3, show (6 : Int32) = zI 6 from rfl, t1, bd_s]
    · unfold fX12_opens
      rw [gI_z v 100 37, h37, if_pos (by rfl), gI_z v 100 26, l4, show (6 : Int32) = zI 6 from rfl, t2, bd_s]
