/-! the next choice: scans on both sides -/
theorem uI_self (u : St) (k i : Nat) : uI u k i (gI u k i) = u := by
  obtain ⟨a, b, d⟩ := u
  unfold uI gI
  simp only [Prod.mk.injEq, and_true]
  funext k' i'
  unfold va_up
  by_cases h : k' = k
  · subst h
    by_cases h2 : i' = i
    · subst h2; simp
    · simp [h2]
  · simp [h]
theorem uI_id (u : St) (k i : Nat) (x : Int) (h : I u k i = x) : uI u k i (zI x) = u := by
  rw [← h, ← gI_z]; exact uI_self u k i
theorem restore_id {v : St} {T : List (Nat × Nat × Int)} (f : Nat) (V J L m : Int) (hf : f < 400) (hl : T.length ≤ 220) (hC : TR v T) (h172 : I v 172 f = T.length) (h173 : I v 173 f = V) (h174 : I v 174 f = J) (h175 : I v 175 f = L) (h176 : I v 176 f = m) (g1 : I v 100 92 = V) (g2 : I v 100 89 = J) (g3 : I v 100 110 = L) (g4 : I v 100 105 = m) : fX12_restore (zI f) v = some v := by
  have ht : fX12_takeBack (zI T.length) v = some v := by
    unfold fX12_takeBack
    have st : fX12_takeBack_L0 FU 0 (zI T.length) v = fX12_takeBack_L0_0 (fX12_takeBack_L0 999999999) (zI T.length) v := rfl
    rw [st]
    generalize fX12_takeBack_L0 999999999 = R
    unfold fX12_takeBack_L0_0
    rw [gI_z, hC.1, if_pos (by rw [z_le (by omega) (by omega) (by omega) (by omega)]; omega)]
  unfold fX12_restore
  rw [ld_z _ _ _ _ (by omega) (by omega), bd_s, Int.toNat_natCast, h172, ht, bd_s, ld_z _ _ _ _ (by omega) (by omega), bd_s, lt_e, Int.toNat_natCast, h173, uI_id v 100 92 V g1, ld_z _ _ _ _ (by omega) (by omega), bd_s, lt_e, Int.toNat_natCast, h174, uI_id v 100 89 J g2, ld_z _ _ _ _ (by omega) (by omega), bd_s, lt_e, Int.toNat_natCast, h175, uI_id v 100 110 L g3, ld_z _ _ _ _ (by omega) (by omega), bd_s, lt_e, Int.toNat_natCast, h176, uI_id v 100 105 m g4]
/-- saved is what stands -/
def SvR (v : St) (f : Nat) : Prop := I v 172 f = I v 100 93 ∧ I v 173 f = I v 100 92 ∧ I v 174 f = I v 100 89 ∧ I v 175 f = I v 100 110 ∧ I v 176 f = I v 100 105 ∧ 0 ≤ I v 100 93
theorem takeBack_id {v : St} (h : 0 ≤ I v 100 93) : fX12_takeBack (zI (I v 100 93)) v = some v := by
  have b := I_hi v 100 93
  unfold fX12_takeBack
  have st : fX12_takeBack_L0 FU 0 (zI (I v 100 93)) v = fX12_takeBack_L0_0 (fX12_takeBack_L0 999999999) (zI (I v 100 93)) v := rfl
  rw [st]
  generalize fX12_takeBack_L0 999999999 = R
  unfold fX12_takeBack_L0_0
  rw [gI_z, if_pos (by rw [z_le (by omega) (by omega) (by omega) (by omega)]; omega)]
theorem restore_same {v : St} (f : Nat) (hf : f < 400) (h : SvR v f) : fX12_restore (zI f) v = some v := by
  obtain ⟨h1, h2, h3, h4, h5, h6⟩ := h
  unfold fX12_restore
  rw [ld_z _ _ _ _ (by omega) (by omega), bd_s, Int.toNat_natCast, h1, takeBack_id h6, bd_s, ld_z _ _ _ _ (by omega) (by omega), bd_s, lt_e, Int.toNat_natCast, h2, uI_id v 100 92 _ rfl, ld_z _ _ _ _ (by omega) (by omega), bd_s, lt_e, Int.toNat_natCast, h3, uI_id v 100 89 _ rfl, ld_z _ _ _ _ (by omega) (by omega), bd_s, lt_e, Int.toNat_natCast, h4, uI_id v 100 110 _ rfl, ld_z _ _ _ _ (by omega) (by omega), bd_s, lt_e, Int.toNat_natCast, h5, uI_id v 100 105 _ rfl]
theorem SvR_fr {P : Nat → Nat → Bool} {v v' : St} {f : Nat} (hF : Fr P v v') (h1 : ∀ k, (k = 172 ∨ k = 173 ∨ k = 174 ∨ k = 175 ∨ k = 176) → P k f = false) (h2 : ∀ i, (i = 93 ∨ i = 92 ∨ i = 89 ∨ i = 110 ∨ i = 105) → P 100 i = false) (h : SvR v f) : SvR v' f := by
  unfold SvR
  rw [Fr_I hF (h1 172 (by simp)), Fr_I hF (h1 173 (by simp)), Fr_I hF (h1 174 (by simp)), Fr_I hF (h1 175 (by simp)), Fr_I hF (h1 176 (by simp)), Fr_I hF (h2 93 (by simp)), Fr_I hF (h2 92 (by simp)), Fr_I hF (h2 89 (by simp)), Fr_I hF (h2 110 (by simp)), Fr_I hF (h2 105 (by simp))]
  exact h
def Op (u : St) (ps : Nat → Nat) (c : Nat → Int) (a b : Nat) : Prop := I u 30 a ≠ I u 30 b ∧ c (ps a) = c (ps b)
def P1 (k0 j : Nat) : Nat → Nat → Bool := fun k i => k == k0 && i == j
theorem reduces_no {u v : St} {C : Nat} {fi ps : Nat → Nat} {nv c : Nat → Int} {e : Nat → Nat} (hS : SR u v C fi ps nv c e) (g p gl pl : Nat) (hg : g < 400) (hp : p < 400) (hgl : I v 150 g = gl) (hpl : I v 150 p = pl) (h1 : gl < fi C) (h2 : pl < fi C) (hno : ¬ Op u ps c gl pl) : fX12_reduces (zI g) (zI p) v = some (0, v) := by
  have a1 := SR_lit hS h1
  have a2 := SR_lit hS h2
  have hsg := SR_sign hS h2 h1
  have hpr := SR_pred hS h2 h1
  unfold fX12_reduces
  rw [ld_z _ _ _ _ (by omega) (by omega), bd_s, ld_z _ _ _ _ (by omega) (by omega), bd_s, Int.toNat_natCast, Int.toNat_natCast, hgl, hpl, ld_z _ _ _ _ (by omega) (by omega), bd_s, ld_z _ _ _ _ (by omega) (by omega), bd_s, Int.toNat_natCast, Int.toNat_natCast]
  by_cases c1 : I u 30 pl = I u 30 gl
  · rw [if_pos (hsg.2 c1)]
  · rw [if_neg (fun h => c1 (hsg.1 h)), predicate_spec hS h2, b2_s, predicate_spec hS h1, b2_s, if_neg (fun h => hno ⟨fun hh => c1 hh.symm, (hpr.1 h).symm⟩)]
theorem tn1_step (G f g p : Nat) (v : St) (pp : Int) (hf : f < 400) (hp : p < 400) (h169 : I v 169 f = p) (h152 : I v 152 p = pp) (hS : SvR v f) (h98 : I v 100 98 = 0) (h99 : I v 100 99 = 0) (hr : fX12_reduces (zI g) (zI p) (uI v 169 f (zI pp)) = some (0, uI v 169 f (zI pp))) : fX12_tryNext_L1 (G + 1) 0 (zI f) (zI g) v = fX12_tryNext_L1 G 0 (zI f) (zI g) (uI v 169 f (zI pp)) := by
  have st : fX12_tryNext_L1 (G + 1) 0 (zI f) (zI g) v = fX12_tryNext_L1_0 (fX12_tryNext_L1 G) (zI f) (zI g) v := rfl
  have hF : Fr (P1 169 f) v (uI v 169 f (zI pp)) := Fr_up (by simp [P1]) (Fr_rfl _ _)
  have hS' : SvR (uI v 169 f (zI pp)) f := SvR_fr hF (fun k hk => by rcases hk with h | h | h | h | h <;> subst h <;> rfl) (fun i _ => rfl) hS
  have g98 : I (uI v 169 f (zI pp)) 100 98 = 0 := by rw [Fr_I hF rfl]; exact h98
  have g99 : I (uI v 169 f (zI pp)) 100 99 = 0 := by rw [Fr_I hF rfl]; exact h99
  rw [st]
  generalize fX12_tryNext_L1 G = R
  unfold fX12_tryNext_L1_0
  rw [ld_z _ _ _ _ (by omega) (by omega), bd_s, Int.toNat_natCast, h169, if_neg (by rw [z_zero, z_lt (by omega) (by omega) (by decide) (by decide)]; omega), bd_s, ld_z _ _ _ _ (by omega) (by omega), bd_s, Int.toNat_natCast, h152, st_z _ _ _ _ _ (by omega) (by omega), bd_s, Int.toNat_natCast, hr, b2_s, if_pos rfl, gI_z, g98, if_pos (show zI 0 = 0 from rfl), gI_z, g99, if_pos (show zI 0 = 0 from rfl), restore_same f hf hS', bd_s]
theorem na_end (G : Nat) (u : St) (x2 : Int) (h0 : 0 ≤ x2) (h1 : x2 ≤ 150) : fX3_nextAbove_L0 (G + 1) 0 (zI (-1)) (zI x2) u = some (0, u) := by
  have st : fX3_nextAbove_L0 (G + 1) 0 (zI (-1)) (zI x2) u = fX3_nextAbove_L0_0 (fX3_nextAbove_L0 G) (zI (-1)) (zI x2) u := rfl
  rw [st]
  unfold fX3_nextAbove_L0_0
  by_cases h : (150 : Int32) ≤ zI x2
  · rw [if_pos h]
  · rw [if_neg h, if_pos (by decide)]
theorem na_step {u v : St} {C : Nat} {fi ps : Nat → Nat} {nv c : Nat → Int} {e : Nat → Nat} (hS : SR u v C fi ps nv c e) (G i g p gl pl : Nat) (x2 pp : Int) (h0 : 0 ≤ x2) (h1 : x2 < 150) (hi : i < 151) (ht : I u 9 9 = i) (h66 : I u 66 i = g) (hg : g < 150) (hp : p < 150) (hgl : I u 57 g = gl) (hpl : I u 57 p = pl) (hg1 : gl < fi C) (hp1 : pl < fi C) (hpp : I u 59 p = pp) : fX3_nextAbove_L0 (G + 1) 0 (zI p) (zI x2) u = if I u 30 gl ≠ I u 30 pl ∧ c (ps gl) = c (ps pl) then some (1, uI u 67 i (zI p)) else fX3_nextAbove_L0 G 0 (zI pp) (zI (x2 + 1)) u := by
  have st : fX3_nextAbove_L0 (G + 1) 0 (zI p) (zI x2) u = fX3_nextAbove_L0_0 (fX3_nextAbove_L0 G) (zI p) (zI x2) u := rfl
  rw [st]
  generalize fX3_nextAbove_L0 G = R
  unfold fX3_nextAbove_L0_0
  rw [if_neg (by rw [z_lit, z_le (by decide) (by decide) (by omega) (by omega)]; omega), if_neg (by rw [z_zero, z_lt (by omega) (by omega) (by decide) (by decide)]; omega), gI_z, ht, ld_z _ _ _ _ (by omega) (by omega), bd_s, Int.toNat_natCast, h66, ld_z _ _ _ _ (by omega) (by omega), bd_s, ld_z _ _ _ _ (by omega) (by omega), bd_s, Int.toNat_natCast, Int.toNat_natCast, hgl, hpl, opposed_spec hS hg1 hp1, b2_s]
  by_cases hc : I u 30 gl ≠ I u 30 pl ∧ c (ps gl) = c (ps pl)
  · rw [if_pos hc, if_pos hc, if_neg (by decide), gI_z, ht, st_z _ _ _ _ _ (by omega) (by omega), bd_s, Int.toNat_natCast]
  · rw [if_neg hc, if_neg hc, if_pos (show zI 0 = 0 from rfl), ld_z _ _ _ _ (by omega) (by omega), bd_s, lt_e, Int.toNat_natCast, hpp, show (1 : Int32) = zI 1 from rfl, z_add]
/-- the path upwards, to the first literal that is opposed -/
theorem red_scan {u : St} {φ : Nat → Nat} {L J : Nat} {V : Int} {C : Nat} {fi ps : Nat → Nat} {nv c : Nat → Int} {e : Nat → Nat} {Gd : Nat → Prop} (hL : L ≤ 150) (hJ : J ≤ 400) (i f g gl : Nat) (hg : Gd g) (hgl : I u 57 g = gl) (hi : i < 151) (hf : f < 400) (ht : I u 9 9 = i) (h66 : I u 66 i = g) (m : Nat) : ∀ (F G : Nat) (v : St) (x2 ab : Int), SR u v C fi ps nv c e → TB u v φ L J V C fi nv Gd → SvR v f → I v 100 98 = 0 → I v 100 99 = 0 → ((ab = -1 ∧ I v 169 f = -1) ∨ ∃ p : Nat, p < m ∧ ab = p ∧ I v 169 f = φ p ∧ Gd p) → 0 ≤ x2 → x2 + m ≤ 150 → m < F →
    ∃ v' G', G ≤ G' ∧ G' ≤ G + m ∧ fX12_tryNext_L1 (G + m) 0 (zI f) (zI (φ g)) v = fX12_tryNext_L1 G' 0 (zI f) (zI (φ g)) v' ∧ Fr (P1 169 f) v v' ∧ ((fX3_nextAbove_L0 F 0 (zI ab) (zI x2) u = some (0, u) ∧ I v' 169 f = -1) ∨ (∃ p pl : Nat, p < m ∧ Gd p ∧ I u 57 p = pl ∧ Op u ps c gl pl ∧ fX3_nextAbove_L0 F 0 (zI ab) (zI x2) u = some (1, uI u 67 i (zI p)) ∧ I v' 169 f = φ p)) := by
  induction m with
  | zero =>
    intro F G v x2 ab hS hTB hSv h98 h99 hab hx0 hx hF
    obtain ⟨F', rfl⟩ : ∃ F', F = F' + 1 := ⟨F - 1, by omega⟩
    rcases hab with ⟨h1, h2⟩ | ⟨p, hp, _⟩
    · subst h1
      exact ⟨v, G, Nat.le_refl _, by omega, rfl, Fr_rfl _ _, Or.inl ⟨na_end F' u x2 hx0 (by omega), h2⟩⟩
    · omega
  | succ m ih =>
    intro F G v x2 ab hS hTB hSv h98 h99 hab hx0 hx hF
    obtain ⟨F', rfl⟩ : ∃ F', F = F' + 1 := ⟨F - 1, by omega⟩
    rcases hab with ⟨h1, h2⟩ | ⟨p, hp, h1, h2, h3⟩
    · subst h1
      exact ⟨v, G + (m + 1), by omega, by omega, rfl, Fr_rfl _ _, Or.inl ⟨na_end F' u x2 hx0 (by omega), h2⟩⟩
    · subst h1
      obtain ⟨g1, g2, ⟨gk, gl', g3, g4, g5, g6, g7, g8, g9, g10⟩, g11, g12, g13, g14, g15⟩ := hTB g hg
      obtain ⟨p1, p2, ⟨pk, pl, p3, p4, p5, p6, p7, p8, p9, p10⟩, p11, p12, p13, p14, p15⟩ := hTB p h3
      have hgg : gl' = gl := by omega
      subst hgg
      have hff := SR_fi hS
      have hgl1 : gl' < fi C := by have := hff.1 C (Nat.le_refl _) (gk + 1) (by omega); omega
      have hpl1 : pl < fi C := by have := hff.1 C (Nat.le_refl _) (pk + 1) (by omega); omega
      have hst := na_step hS F' i g p gl' pl x2 _ hx0 (by omega) hi ht h66 (by omega) (by omega) g6 p6 hgl1 hpl1 rfl
      by_cases hop : I u 30 gl' ≠ I u 30 pl ∧ c (ps gl') = c (ps pl)
      · rw [if_pos hop] at hst
        exact ⟨v, G + (m + 1), by omega, by omega, rfl, Fr_rfl _ _, Or.inr ⟨p, pl, hp, h3, p6, hop, hst, h2⟩⟩
      · rw [if_neg hop] at hst
        have hF1 : Fr (P1 169 f) v (uI v 169 f (zI (I v 152 (φ p)))) := Fr_up (by simp [P1]) (Fr_rfl _ _)
        have hP : ∀ k j, k ≠ 169 → P1 169 f k j = false := fun k j h => by simp [P1, h]
        have hS1 : SR u (uI v 169 f (zI (I v 152 (φ p)))) C fi ps nv c e := SR_fr (Fr_rfl (fun _ _ => false) u) hF1 (fun _ _ _ => rfl) (fun k j hk => hP k j (by intro h; subst h; simp [PSr] at hk)) hS
        have hTB1 : TB u (uI v 169 f (zI (I v 152 (φ p)))) φ L J V C fi nv Gd := TB_fr (Fr_rfl (fun _ _ => false) u) hF1 (fun _ _ _ => rfl) (fun k j hk => hP k j (by omega)) hTB
        have hSv1 : SvR (uI v 169 f (zI (I v 152 (φ p)))) f := SvR_fr hF1 (fun k hk => hP k f (by omega)) (fun j _ => hP 100 j (by decide)) hSv
        have hred := reduces_no hS1 (φ g) (φ p) gl' pl (by omega) (by omega) (by rw [Fr_I hF1 (hP _ _ (by decide))]; exact g7) (by rw [Fr_I hF1 (hP _ _ (by decide))]; exact p7) hgl1 hpl1 hop
        have hstep := tn1_step (G + m) f (φ g) (φ p) v _ hf (by omega) h2 rfl hSv h98 h99 hred
        have h169 : I (uI v 169 f (zI (I v 152 (φ p)))) 169 f = I v 152 (φ p) := I_uI1 _ _ _ _ (I_lo _ _ _) (I_hi _ _ _)
        obtain ⟨v', G', e1, e2, e3, e4, e5⟩ := ih F' G (uI v 169 f (zI (I v 152 (φ p)))) (x2 + 1) (I u 59 p) hS1 hTB1 hSv1 (by rw [Fr_I hF1 (hP _ _ (by decide))]; exact h98) (by rw [Fr_I hF1 (hP _ _ (by decide))]; exact h99) (by
          rcases p14 with ⟨q1, q2⟩ | ⟨q, q1, q2, q3, q4⟩
          · exact Or.inl ⟨q1, by rw [h169]; exact q2⟩
          · exact Or.inr ⟨q, by omega, q2, by rw [h169]; exact q3, q4⟩) (by omega) (by omega) (by omega)
        refine ⟨v', G', e1, by omega, hstep.trans e3, Fr_tr hF1 e4, ?_⟩
        rw [hst]
        rcases e5 with e5 | ⟨q, ql, q1, q2, q3, q4, q5, q6⟩
        · exact Or.inl e5
        · exact Or.inr ⟨q, ql, by omega, q2, q3, q4, q5, q6⟩
