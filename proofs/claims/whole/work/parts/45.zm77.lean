/-! reading: names -/
theorem pk_inj (b : Nat) (f : Nat → Nat) (hf : ∀ d, 1 ≤ d → d ≤ 63 → 0 < f d ∧ f d < b) (hi : ∀ d d', 1 ≤ d → d ≤ 63 → 1 ≤ d' → d' ≤ 63 → f d = f d' → d = d') (l : List Nat) : ∀ l', (∀ d ∈ l, 1 ≤ d ∧ d ≤ 63) → (∀ d ∈ l', 1 ≤ d ∧ d ≤ 63) → pk b f l = pk b f l' → l = l' := by
  induction l with
  | nil =>
    intro l' _ h' e
    cases l' with
    | nil => rfl
    | cons d l' =>
      exfalso
      have hd := h' d (by simp)
      have := (hf d hd.1 hd.2).1
      simp only [pk] at e
      omega
  | cons d l ih =>
    intro l' h h' e
    have hd := h d (by simp)
    have f1 := hf d hd.1 hd.2
    cases l' with
    | nil => exfalso; simp only [pk] at e; omega
    | cons d' l' =>
      have hd' := h' d' (by simp)
      have f2 := hf d' hd'.1 hd'.2
      simp only [pk] at e
      have e1 : (f d + b * pk b f l) % b = f d := by rw [Nat.add_mul_mod_self_left, Nat.mod_eq_of_lt f1.2]
      have e2 : (f d' + b * pk b f l') % b = f d' := by rw [Nat.add_mul_mod_self_left, Nat.mod_eq_of_lt f2.2]
      have e3 : f d = f d' := by rw [← e1, ← e2, e]
      have e4 : b * pk b f l = b * pk b f l' := by omega
      have e5 := Nat.eq_of_mul_eq_mul_left (by omega) e4
      rw [hi d d' hd.1 hd.2 hd'.1 hd'.2 e3, ih l' (fun x hx => h x (by simp [hx])) (fun x hx => h' x (by simp [hx])) e5]
theorem ch_inj (d d' : Nat) (h1 : 1 ≤ d) (h2 : d ≤ 63) (h3 : 1 ≤ d') (h4 : d' ≤ 63) (h : ch d = ch d') : d = d' := by
  have := (show ∀ a b : Fin 64, 1 ≤ a.1 → 1 ≤ b.1 → ch a.1 = ch b.1 → a.1 = b.1 by decide +kernel) ⟨d, by omega⟩ ⟨d', by omega⟩ h1 h3 h
  exact this
theorem NmR_inj {x y x' y' : Int} (h : NmR x y) (h' : NmR x' y') : x = x' ↔ y = y' := by
  obtain ⟨l, a1, a2, a3, a4, a5⟩ := h
  obtain ⟨l', b1, b2, b3, b4, b5⟩ := h'
  constructor
  · intro e
    have : pk 256 ch l = pk 256 ch l' := by omega
    rw [a5, b5, pk_inj 256 ch (fun d h1 h2 => by have := ch_rng h1 h2; omega) ch_inj l l' a3 b3 this]
  · intro e
    have : pk 64 id l = pk 64 id l' := by omega
    rw [a4, b4, pk_inj 64 id (fun d h1 h2 => by simp only [id]; omega) (fun d d' _ _ _ _ h => h) l l' a3 b3 this]
theorem NmR_rng {x y : Int} (h : NmR x y) : 0 ≤ x ∧ x < 9223372036854775808 ∧ 0 ≤ y ∧ y < 9223372036854775808 := by
  obtain ⟨l, a1, a2, a3, a4, a5⟩ := h
  have p1 := pk_top l a3 a2
  have p2 := pq_lt 64 id 63 l (fun d hd => (a3 d hd).2) (by decide)
  have p3 : (64 : Nat) ^ l.length ≤ 64 ^ 8 := Nat.pow_le_pow_right (by decide) a2
  have p4 : (64 : Nat) ^ 8 = 281474976710656 := by decide
  omega
theorem cmp_z (x y : Int) (h1 : -9223372036854775808 ≤ x) (h2 : x < 9223372036854775808) (h3 : -9223372036854775808 ≤ y) (h4 : y < 9223372036854775808) : (lg_cmp (zJ x) (zJ y) = 0) ↔ x = y := by
  have e : zJ x = zJ y ↔ x = y := by rw [← Int64.toInt_inj, zJ_to h1 h2, zJ_to h3 h4]
  have g : zJ x > zJ y ↔ x > y := by
    show zJ y < zJ x ↔ _
    rw [Int64.lt_iff_toInt_lt, zJ_to h1 h2, zJ_to h3 h4]
  unfold lg_cmp
  by_cases hg : x > y
  · rw [if_pos (g.2 hg)]
    constructor
    · intro h; exact absurd h (by decide)
    · intro h; omega
  · rw [if_neg (fun h => hg (g.1 h))]
    by_cases he : x = y
    · rw [if_pos (e.2 he)]; simp [he]
    · rw [if_neg (fun h => he (e.1 h))]
      constructor
      · intro h; exact absurd h (by decide)
      · intro h; exact absurd h he
theorem J_lo (u : St) (k i : Nat) : -9223372036854775808 ≤ J u k i := Int64.le_toInt _
theorem J_hi (u : St) (k i : Nat) : J u k i < 9223372036854775808 := Int64.toInt_lt _
def SYT (u v : St) (S : Nat) : Prop := I u 2 3 = S ∧ I v 100 3 = S ∧ S ≤ 810 ∧ ∀ i, i < S → NmR (J u 15 i) (J v 102 i) ∧ I u 16 i = I v 103 i ∧ -1 ≤ I u 16 i ∧ I u 16 i ≤ 5 ∧ (0 ≤ I u 16 i → (I u 17 i = 0 ∨ I u 17 i = 1) ∧ I v 104 i = 1 - I u 17 i)
def SKp (u u' v v' : St) (S : Nat) : Prop := ∀ i, i < S → J u' 15 i = J u 15 i ∧ J v' 102 i = J v 102 i ∧ (0 ≤ I u 16 i → I u' 16 i = I u 16 i ∧ I u' 17 i = I u 17 i)
theorem SKp_rfl (u v : St) (S : Nat) : SKp u u v v S := fun _ _ => ⟨rfl, rfl, fun _ => ⟨rfl, rfl⟩⟩
theorem SKp_tr {u u' u'' v v' v'' : St} {S S' : Nat} (hS : S ≤ S') (h : SKp u u' v v' S) (h' : SKp u' u'' v' v'' S') : SKp u u'' v v'' S := by
  intro i hi
  obtain ⟨a1, a2, a3⟩ := h i hi
  obtain ⟨b1, b2, b3⟩ := h' i (by omega)
  refine ⟨b1.trans a1, b2.trans a2, fun h0 => ?_⟩
  have c := a3 h0
  have d := b3 (by omega)
  exact ⟨d.1.trans c.1, d.2.trans c.2⟩
theorem SKp_fr {P Q : Nat → Nat → Bool} {u u' v v' : St} {S : Nat} (hu : Fr P u u') (hv : Fr Q v v') (h1 : ∀ k i, (k = 15 ∨ k = 16 ∨ k = 17) → P k i = false) (h2 : ∀ i, Q 102 i = false) : SKp u u' v v' S := fun i _ => ⟨Fr_J hu (h1 15 i (by simp)), Fr_J hv (h2 i), fun _ => ⟨Fr_I hu (h1 16 i (by simp)), Fr_I hu (h1 17 i (by simp))⟩⟩
theorem SYT_fr {P Q : Nat → Nat → Bool} {u u' v v' : St} {S : Nat} (hu : Fr P u u') (hv : Fr Q v v') (h0 : P 2 3 = false) (h1 : ∀ k i, (k = 15 ∨ k = 16 ∨ k = 17) → P k i = false) (h3 : Q 100 3 = false) (h2 : ∀ k i, (k = 102 ∨ k = 103 ∨ k = 104) → Q k i = false) (h : SYT u v S) : SYT u' v' S := by
  refine ⟨by rw [Fr_I hu h0]; exact h.1, by rw [Fr_I hv h3]; exact h.2.1, h.2.2.1, fun i hi => ?_⟩
  rw [Fr_J hu (h1 15 i (by simp)), Fr_J hv (h2 102 i (by simp)), Fr_I hu (h1 16 i (by simp)), Fr_I hu (h1 17 i (by simp)), Fr_I hv (h2 103 i (by simp)), Fr_I hv (h2 104 i (by simp))]
  exact h.2.2.2 i hi
/-- a name's number -/
theorem symb_loop {u v : St} {S : Nat} {w w' : Int} (hS : SYT u v S) (hw : NmR w w') (d : Nat) : ∀ (F G i : Nat), i + d = S → d < F → d < G → (∃ s : Nat, s < S ∧ fX4_symbol_L0 F 0 (zJ w) (zI i) u = some (zI s, u) ∧ fX12_symbolOf_L0 G 0 (zJ w') (zI i) v = some (zI s, v) ∧ J u 15 s = w) ∨ (fX4_symbol_L0 F 0 (zJ w) (zI i) u = fX4_symbol_L0 1 0 (zJ w) (zI S) u ∧ fX12_symbolOf_L0 G 0 (zJ w') (zI i) v = fX12_symbolOf_L0 1 0 (zJ w') (zI S) v) := by
  have hr := NmR_rng hw
  have h810 := hS.2.2.1
  induction d with
  | zero =>
    intro F G i hi hF hG
    obtain ⟨F', rfl⟩ : ∃ F', F = F' + 1 := ⟨F - 1, by omega⟩
    obtain ⟨G', rfl⟩ : ∃ G', G = G' + 1 := ⟨G - 1, by omega⟩
    have : i = S := by omega
    subst this
    right
    constructor
    · have st : ∀ H, fX4_symbol_L0 (H + 1) 0 (zJ w) (zI i) u = fX4_symbol_L0_0 (fX4_symbol_L0 H) (zJ w) (zI i) u := fun _ => rfl
      have hle : gI u 2 3 ≤ zI i := by rw [gI_z u 2 3, hS.1, z_le (by omega) (by omega) (by omega) (by omega)]; omega
      rw [st, show (1 : Nat) = 0 + 1 from rfl, st]
      unfold fX4_symbol_L0_0
      rw [if_pos hle, if_pos hle]
    · have st : ∀ H, fX12_symbolOf_L0 (H + 1) 0 (zJ w') (zI i) v = fX12_symbolOf_L0_0 (fX12_symbolOf_L0 H) (zJ w') (zI i) v := fun _ => rfl
      have hle : gI v 100 3 ≤ zI i := by rw [gI_z v 100 3, hS.2.1, z_le (by omega) (by omega) (by omega) (by omega)]; omega
      rw [st, show (1 : Nat) = 0 + 1 from rfl, st]
      unfold fX12_symbolOf_L0_0
      rw [if_pos hle, if_pos hle]
  | succ d ih =>
    intro F G i hi hF hG
    obtain ⟨F', rfl⟩ : ∃ F', F = F' + 1 := ⟨F - 1, by omega⟩
    obtain ⟨G', rfl⟩ : ∃ G', G = G' + 1 := ⟨G - 1, by omega⟩
    have hn := (hS.2.2.2 i (by omega)).1
    have hij := NmR_inj hn hw
    have st : fX4_symbol_L0 (F' + 1) 0 (zJ w) (zI i) u = fX4_symbol_L0_0 (fX4_symbol_L0 F') (zJ w) (zI i) u := rfl
    have st2 : fX12_symbolOf_L0 (G' + 1) 0 (zJ w') (zI i) v = fX12_symbolOf_L0_0 (fX12_symbolOf_L0 G') (zJ w') (zI i) v := rfl
    have hc : ∀ R, fX4_symbol_L0_0 R (zJ w) (zI i) u = if J u 15 i = w then some (zI i, u) else R 0 (zJ w) (zI ((i + 1 : Nat) : Int)) u := by
      intro R
      unfold fX4_symbol_L0_0
      rw [gI_z u 2 3, hS.1, if_neg (by rw [z_le (by omega) (by omega) (by omega) (by omega)]; omega), ldJ_z _ _ _ _ (by omega) (by omega), bd_s, Int.toNat_natCast, lt_e, show (1 : Int32) = zI 1 from rfl, z_add, show (i : Int) + 1 = ((i + 1 : Nat) : Int) by omega]
      by_cases he : J u 15 i = w
      · rw [if_pos he, if_pos ((cmp_z _ _ (J_lo _ _ _) (J_hi _ _ _) (by omega) (by omega)).2 he)]
      · rw [if_neg he, if_neg (fun h => he ((cmp_z _ _ (J_lo _ _ _) (J_hi _ _ _) (by omega) (by omega)).1 h))]
    have hd : ∀ R, fX12_symbolOf_L0_0 R (zJ w') (zI i) v = if J v 102 i = w' then some (zI i, v) else R 0 (zJ w') (zI ((i + 1 : Nat) : Int)) v := by
      intro R
      unfold fX12_symbolOf_L0_0
      rw [gI_z v 100 3, hS.2.1, if_neg (by rw [z_le (by omega) (by omega) (by omega) (by omega)]; omega), ldJ_z _ _ _ _ (by omega) (by omega), bd_s, Int.toNat_natCast, lt_e, show (1 : Int32) = zI 1 from rfl, z_add, show (i : Int) + 1 = ((i + 1 : Nat) : Int) by omega]
      by_cases he : J v 102 i = w'
      · rw [if_pos he, if_pos ((cmp_z _ _ (J_lo _ _ _) (J_hi _ _ _) (by omega) (by omega)).2 he)]
      · rw [if_neg he, if_neg (fun h => he ((cmp_z _ _ (J_lo _ _ _) (J_hi _ _ _) (by omega) (by omega)).1 h))]
    rw [st, st2, hc, hd]
    by_cases he : J u 15 i = w
    · left
      exact ⟨i, by omega, by rw [if_pos he], by rw [if_pos (hij.1 he)], he⟩
    · rw [if_neg he, if_neg (fun h => he (hij.2 h))]
      exact ih F' G' (i + 1) (by omega) (by omega) (by omega)
theorem J_uJ2 (u : St) (k i : Nat) (x : Int64) (k' i' : Nat) (h : ¬ (k' = k ∧ i' = i)) : J (uJ u k i x) k' i' = J u k' i' := by
  unfold J gJ uJ va_up
  by_cases hk : k' = k
  · subst hk
    have : i' ≠ i := fun h' => h ⟨rfl, h'⟩
    simp [this]
  · simp [hk]
def Psy : Nat → Nat → Bool := fun k i => k == 15 || k == 16 || (k == 2 && i == 3)
def Qsy : Nat → Nat → Bool := fun k i => k == 102 || k == 103 || (k == 100 && i == 3)
theorem symb_both {u v : St} {S : Nat} {w w' : Int} (hS : SYT u v S) (hS2 : S < 810) (hw : NmR w w') : ∃ (u' v' : St) (s S' : Nat), fX4_symbol (zJ w) u = some (zI s, u') ∧ fX12_symbolOf (zJ w') v = some (zI s, v') ∧ SYT u' v' S' ∧ s < S' ∧ S ≤ S' ∧ S' ≤ S + 1 ∧ SKp u u' v v' S ∧ Fr Psy u u' ∧ Fr Qsy v v' := by
  have hr := NmR_rng hw
  rcases symb_loop hS hw S FU FU 0 (by omega) (by unfold FU; omega) (by unfold FU; omega) with ⟨s, h1, h2, h3, _⟩ | ⟨h2, h3⟩
  · exact ⟨u, v, s, S, h2, h3, hS, h1, Nat.le_refl _, by omega, SKp_rfl _ _ _, Fr_rfl _ _, Fr_rfl _ _⟩
  · obtain ⟨s1, s2, s3, s4⟩ := hS
    have e1 : I (uJ u 15 S (zJ w)) 2 3 = S := s1
    have e2 : I (uI (uJ u 15 S (zJ w)) 16 S (zI (-1))) 2 3 = S := by rw [I_uI3 _ _ _ _ _ _ (by decide)]; exact s1
    have e3 : I (uJ v 102 S (zJ w')) 100 3 = S := s2
    have e4 : I (uI (uJ v 102 S (zJ w')) 103 S (zI (-1))) 100 3 = S := by rw [I_uI3 _ _ _ _ _ _ (by decide)]; exact s2
    have c3 : I (uI (uI (uJ u 15 S (zJ w)) 16 S (zI (-1))) 2 3 (zI ((S + 1 : Nat) : Int))) 2 3 = ((S + 1 : Nat) : Int) := I_uI1 _ _ _ _ (by omega) (by omega)
    have d3 : I (uI (uI (uJ v 102 S (zJ w')) 103 S (zI (-1))) 100 3 (zI ((S + 1 : Nat) : Int))) 100 3 = ((S + 1 : Nat) : Int) := I_uI1 _ _ _ _ (by omega) (by omega)
    refine ⟨uI (uI (uJ u 15 S (zJ w)) 16 S (zI (-1))) 2 3 (zI ((S + 1 : Nat) : Int)), uI (uI (uJ v 102 S (zJ w')) 103 S (zI (-1))) 100 3 (zI ((S + 1 : Nat) : Int)), S, S + 1, ?_, ?_, ⟨c3, d3, by omega, ?_⟩, by omega, by omega, Nat.le_refl _, ?_, Fr_up rfl (Fr_up rfl (Fr_uJ rfl (Fr_rfl _ _))), Fr_up rfl (Fr_up rfl (Fr_uJ rfl (Fr_rfl _ _)))⟩
    · have st : fX4_symbol (zJ w) u = fX4_symbol_L0_0 (fX4_symbol_L0 0) (zJ w) (zI S) u := h2
      rw [st]
      unfold fX4_symbol_L0_0
      rw [gI_z u 2 3, s1, if_pos (by rw [z_le (by omega) (by omega) (by omega) (by omega)]; omega), if_pos (by rw [z_lit, z_lt (by omega) (by omega) (by decide) (by decide)]; omega), stJ_z _ _ _ _ _ (by omega) (by omega), bd_s, Int.toNat_natCast, gI_z _ 2 3, e1, show (-1 : Int32) = zI (-1) from rfl, st_z _ _ _ _ _ (by omega) (by omega), bd_s, Int.toNat_natCast, gI_z _ 2 3, e2, show (1 : Int32) = zI 1 from rfl, z_add, lt_e, show (S : Int) + 1 = ((S + 1 : Nat) : Int) by omega, gI_z _ 2 3, c3, z_sub, show ((S + 1 : Nat) : Int) - 1 = S by omega]
    · have st : fX12_symbolOf (zJ w') v = fX12_symbolOf_L0_0 (fX12_symbolOf_L0 0) (zJ w') (zI S) v := h3
      rw [st]
      unfold fX12_symbolOf_L0_0
      rw [gI_z v 100 3, s2, if_pos (by rw [z_le (by omega) (by omega) (by omega) (by omega)]; omega), stJ_z _ _ _ _ _ (by omega) (by omega), bd_s, Int.toNat_natCast, gI_z _ 100 3, e3, show (-1 : Int32) = zI (-1) from rfl, st_z _ _ _ _ _ (by omega) (by omega), bd_s, Int.toNat_natCast, gI_z _ 100 3, e4, show (1 : Int32) = zI 1 from rfl, z_add, lt_e, show (S : Int) + 1 = ((S + 1 : Nat) : Int) by omega, gI_z _ 100 3, d3, z_sub, show ((S + 1 : Nat) : Int) - 1 = S by omega]
    · intro i hi
      rw [J_uI, J_uI, J_uI, J_uI, I_uI3 _ 2 3 _ 16 i (by decide), I_uI3 _ 100 3 _ 103 i (by decide), I_uI3 _ 2 3 _ 17 i (by decide), I_uI3 _ 100 3 _ 104 i (by decide), I_uI3 _ 16 S _ 17 i (by decide), I_uI3 _ 103 S _ 104 i (by decide)]
      by_cases hiS : i = S
      · subst hiS
        rw [J_uJ _ _ _ _ (by omega) (by omega), if_pos ⟨rfl, rfl⟩, J_uJ _ _ _ _ (by omega) (by omega), if_pos ⟨rfl, rfl⟩, I_uI1 _ _ _ _ (by decide) (by decide), I_uI1 _ _ _ _ (by decide) (by decide)]
        exact ⟨hw, rfl, by decide, by decide, fun h => absurd h (by decide)⟩
      · rw [J_uJ2 _ _ _ _ _ _ (by omega), J_uJ2 _ _ _ _ _ _ (by omega), I_uI2 _ _ _ _ _ _ (by omega), I_uI2 _ _ _ _ _ _ (by omega)]
        exact s4 i (by omega)
    · intro i hi
      refine ⟨by rw [J_uI, J_uI, J_uJ2 _ _ _ _ _ _ (by omega)], by rw [J_uI, J_uI, J_uJ2 _ _ _ _ _ _ (by omega)], fun _ => ⟨?_, ?_⟩⟩
      · rw [I_uI3 _ _ _ _ _ _ (by decide), I_uI2 _ _ _ _ _ _ (by omega)]; rfl
      · rw [I_uI3 _ _ _ _ _ _ (by decide), I_uI3 _ _ _ _ _ _ (by decide)]; rfl
