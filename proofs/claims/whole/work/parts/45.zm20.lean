/-! THE STORE on both sides -/
def SRk (u v : St) (C : Nat) (fi ps : Nat → Nat) (nv : Nat → Int) : Prop := ∀ k, k < C → I v 106 k = fi k ∧ I v 107 k = (fi (k + 1) : Int) - fi k ∧ fi k ≤ fi (k + 1) ∧ fi (k + 1) ≤ fi k + 12 ∧ I u 19 k = nv k ∧ I v 108 k = nv k ∧ 0 ≤ nv k ∧ nv k ≤ 10 ∧ ps (fi (k + 1)) ≤ ps (fi k) + 200
def SRl (u v : St) (C : Nat) (fi ps : Nat → Nat) (nv : Nat → Int) (c : Nat → Int) (e : Nat → Nat) : Prop := ∀ k l, k < C → fi k ≤ l → l < fi (k + 1) → I u 31 l = k ∧ I v 110 l = ps l ∧ I u 30 l = I v 109 l ∧ (I u 30 l = 0 ∨ I u 30 l = 1) ∧ 0 ≤ c (ps l) ∧ ps l < ps (l + 1) ∧ e (ps l) = ps (l + 1) ∧ (∀ q, ps l ≤ q → q < ps (l + 1) → c q < 0 → -1 - c q < nv k)
def SR (u v : St) (C : Nat) (fi ps : Nat → Nat) (nv : Nat → Int) (c : Nat → Int) (e : Nat → Nat) : Prop :=
  C ≤ 100 ∧ I u 2 5 = C ∧ I v 100 10 = C ∧ fi 0 = 0 ∧ ps 0 = 0 ∧ (∀ k, k ≤ C → I u 18 k = fi k) ∧ SRk u v C fi ps nv ∧ (∀ l, l ≤ fi C → I u 29 l = ps l) ∧ SRl u v C fi ps nv c e ∧ I v 100 14 = fi C ∧ I v 100 17 = ps (fi C) ∧ (∀ p, p < ps (fi C) → I u 32 p = c p) ∧ RT v c e (ps (fi C)) ∧ TOK c e (ps (fi C))
/-- the cells of the store, class and reference -/
def PSc : Nat → Nat → Bool := fun k i => k == 18 || k == 19 || k == 29 || k == 30 || k == 31 || k == 32 || (k == 2 && i == 5)
def PSr : Nat → Nat → Bool := fun k i => k == 106 || k == 107 || k == 108 || k == 109 || k == 110 || k == 111 || k == 112 || k == 113 || (k == 100 && (i == 10 || i == 14 || i == 17))
/-- a frame keeps what a set of cells holds -/
def Ds (P Q : Nat → Nat → Bool) : Prop := ∀ k i, Q k i = true → P k i = false
theorem SR_fr {P Q : Nat → Nat → Bool} {u u' v v' : St} {C : Nat} {fi ps : Nat → Nat} {nv c : Nat → Int} {e : Nat → Nat} (hu : Fr P u u') (hv : Fr Q v v') (hP : Ds P PSc) (hQ : Ds Q PSr) (h : SR u v C fi ps nv c e) : SR u' v' C fi ps nv c e := by
  obtain ⟨h1, h2, h3, h4, h5, h6, h7, h8, h9, h10, h11, h12, h13, h14⟩ := h
  have q : ∀ k i, PSc k i = true → I u' k i = I u k i := fun k i hk => Fr_I hu (hP k i hk)
  have r : ∀ k i, PSr k i = true → I v' k i = I v k i := fun k i hk => Fr_I hv (hQ k i hk)
  refine ⟨h1, by rw [q 2 5 rfl]; exact h2, by rw [r 100 10 rfl]; exact h3, h4, h5, fun k hk => by rw [q 18 k rfl]; exact h6 k hk, ?_, fun l hl => by rw [q 29 l rfl]; exact h8 l hl, ?_, by rw [r 100 14 rfl]; exact h10, by rw [r 100 17 rfl]; exact h11, fun p hp => by rw [q 32 p rfl]; exact h12 p hp, RT_fr hv (fun i => hQ 111 i rfl) (fun i => hQ 112 i rfl) (fun i => hQ 113 i rfl) h13, h14⟩
  · intro k hk
    rw [r 106 k rfl, r 107 k rfl, q 19 k rfl, r 108 k rfl]; exact h7 k hk
  · intro k l hk h1 h2
    rw [q 31 l rfl, r 110 l rfl, q 30 l rfl, r 109 l rfl]; exact h9 k l hk h1 h2
theorem fi_mono {fi : Nat → Nat} {C : Nat} (h : ∀ k, k < C → fi k ≤ fi (k + 1)) : ∀ j, j ≤ C → ∀ k, k ≤ j → fi k ≤ fi j := by
  intro j
  induction j with
  | zero => intro _ k hk; have : k = 0 := by omega
            subst this; exact Nat.le_refl _
  | succ j ih =>
    intro hj k hk
    by_cases h1 : k = j + 1
    · subst h1; exact Nat.le_refl _
    · exact Nat.le_trans (ih (by omega) k (by omega)) (h j (by omega))
theorem lit_cls {fi : Nat → Nat} (h0 : fi 0 = 0) (C : Nat) : ∀ l, l < fi C → ∃ k, k < C ∧ fi k ≤ l ∧ l < fi (k + 1) := by
  induction C with
  | zero => intro l hl; omega
  | succ C ih =>
    intro l hl
    by_cases h1 : l < fi C
    · obtain ⟨k, k1, k2⟩ := ih l h1; exact ⟨k, by omega, k2⟩
    · exact ⟨C, by omega, by omega, hl⟩
theorem SR_fi {u v : St} {C : Nat} {fi ps : Nat → Nat} {nv c : Nat → Int} {e : Nat → Nat} (h : SR u v C fi ps nv c e) : (∀ j, j ≤ C → ∀ k, k ≤ j → fi k ≤ fi j) ∧ (∀ k, k ≤ C → fi k ≤ 12 * k) ∧ fi C ≤ 1200 := by
  obtain ⟨h1, h2, h3, h4, h5, h6, h7, h8, h9, h10, h11, h12, h13, h14⟩ := h
  have hm := fi_mono (fun k hk => (h7 k hk).2.2.1)
  have hb : ∀ k, k ≤ C → fi k ≤ 12 * k := by
    intro k
    induction k with
    | zero => intro _; omega
    | succ k ih => intro hk; have := (h7 k (by omega)).2.2.2.1; have := ih (by omega); omega
  exact ⟨hm, hb, by have := hb C (Nat.le_refl _); omega⟩
theorem SR_ps {u v : St} {C : Nat} {fi ps : Nat → Nat} {nv c : Nat → Int} {e : Nat → Nat} (h : SR u v C fi ps nv c e) : ∀ j, j ≤ fi C → ∀ k, k ≤ j → ps k ≤ ps j := by
  refine fi_mono (fun l hl => ?_)
  obtain ⟨k, k1, k2, k3⟩ := lit_cls h.2.2.2.1 C l hl
  have := (h.2.2.2.2.2.2.2.2.1 k l k1 k2 k3).2.2.2.2.2.1
  omega
/-- all that is known of a literal of the store -/
theorem SR_lit {u v : St} {C : Nat} {fi ps : Nat → Nat} {nv c : Nat → Int} {e : Nat → Nat} (h : SR u v C fi ps nv c e) {l : Nat} (hl : l < fi C) : I u 29 l = ps l ∧ I v 110 l = ps l ∧ I u 30 l = I v 109 l ∧ (I u 30 l = 0 ∨ I u 30 l = 1) ∧ 0 ≤ c (ps l) ∧ ps l < ps (fi C) ∧ ps (fi C) ≤ 20000 ∧ I u 32 (ps l) = c (ps l) ∧ 0 ≤ I v 111 (ps l) ∧ l < 1200 := by
  obtain ⟨k, k1, k2, k3⟩ := lit_cls h.2.2.2.1 C l hl
  have hs := SR_ps h
  have hf := SR_fi h
  obtain ⟨h1, h2, h3, h4, h5, h6, h7, h8, h9, h10, h11, h12, h13, h14⟩ := h
  obtain ⟨m1, m2, m3, m4, m5, m6, m7, m8⟩ := h9 k l k1 k2 k3
  have hps : ps l < ps (fi C) := by have := hs (fi C) (Nat.le_refl _) (l + 1) (by omega); omega
  exact ⟨h8 l (by omega), m2, m3, m4, m5, hps, h13.1, h12 _ hps, (h13.2.1 _ hps).2.1 m5, by omega⟩
theorem opposed_spec {u v : St} {C : Nat} {fi ps : Nat → Nat} {nv c : Nat → Int} {e : Nat → Nat} (h : SR u v C fi ps nv c e) {a b : Nat} (ha : a < fi C) (hb : b < fi C) : fX4_opposed (zI a) (zI b) u = some (zI (if I u 30 a ≠ I u 30 b ∧ c (ps a) = c (ps b) then 1 else 0), u) := by
  obtain ⟨a1, a2, a3, a4, a5, a6, a7, a8, a9, a10⟩ := SR_lit h ha
  obtain ⟨b1, b2, b3, b4, b5, b6, b7, b8, b9, b10⟩ := SR_lit h hb
  have r1 := I_hi u 32 (ps a)
  have r2 := I_hi u 32 (ps b)
  rw [a8] at r1
  rw [b8] at r2
  clear a2 b2 a3 b3 a9 b9 h
  unfold fX4_opposed
  by_cases h1 : I u 30 a = I u 30 b
  · rw [if_neg (fun h => h.1 h1)]
    simp (disch := omega) only [ld_z, bd_s, Int.toNat_natCast, z_eq, if_pos, if_true]
    rfl
  · by_cases h2 : c (ps a) = c (ps b)
    · rw [if_pos ⟨h1, h2⟩]
      simp (disch := omega) only [ld_z, bd_s, Int.toNat_natCast, z_eq, if_neg, if_false, a1, b1, a8, b8, if_pos, if_true]
      rfl
    · rw [if_neg (fun h => h2 h.2)]
      simp (disch := omega) only [ld_z, bd_s, Int.toNat_natCast, z_eq, if_neg, if_false, a1, b1, a8, b8]
      rfl
theorem alike_spec {u v : St} {C : Nat} {fi ps : Nat → Nat} {nv c : Nat → Int} {e : Nat → Nat} (h : SR u v C fi ps nv c e) {a b : Nat} (ha : a < fi C) (hb : b < fi C) : fX4_alike (zI a) (zI b) u = some (zI (if I u 30 a = I u 30 b ∧ c (ps a) = c (ps b) then 1 else 0), u) := by
  obtain ⟨a1, a2, a3, a4, a5, a6, a7, a8, a9, a10⟩ := SR_lit h ha
  obtain ⟨b1, b2, b3, b4, b5, b6, b7, b8, b9, b10⟩ := SR_lit h hb
  have r1 := I_hi u 32 (ps a)
  have r2 := I_hi u 32 (ps b)
  rw [a8] at r1
  rw [b8] at r2
  clear a2 b2 a3 b3 a9 b9 h
  unfold fX4_alike
  by_cases h1 : I u 30 a = I u 30 b
  · by_cases h2 : c (ps a) = c (ps b)
    · rw [if_pos ⟨h1, h2⟩]
      simp (disch := omega) only [ld_z, bd_s, Int.toNat_natCast, z_eq, if_neg, if_false, a1, b1, a8, b8, if_pos, if_true]
      rfl
    · rw [if_neg (fun h => h2 h.2)]
      simp (disch := omega) only [ld_z, bd_s, Int.toNat_natCast, z_eq, if_neg, if_false, a1, b1, a8, b8, if_pos, if_true]
      rfl
  · rw [if_neg (fun h => h1 h.1)]
    simp (disch := omega) only [ld_z, bd_s, Int.toNat_natCast, z_eq, if_neg, if_false]
    rfl
theorem predicate_spec {u v : St} {C : Nat} {fi ps : Nat → Nat} {nv c : Nat → Int} {e : Nat → Nat} (h : SR u v C fi ps nv c e) {a : Nat} (ha : a < fi C) : fX12_predicate (zI a) v = some (zI (I v 111 (ps a)), v) := by
  obtain ⟨a1, a2, a3, a4, a5, a6, a7, a8, a9, a10⟩ := SR_lit h ha
  unfold fX12_predicate
  simp (disch := omega) only [ld_z, bd_s, Int.toNat_natCast, a2]
theorem SR_pred {u v : St} {C : Nat} {fi ps : Nat → Nat} {nv c : Nat → Int} {e : Nat → Nat} (h : SR u v C fi ps nv c e) {a b : Nat} (ha : a < fi C) (hb : b < fi C) : (zI (I v 111 (ps a)) = zI (I v 111 (ps b))) ↔ c (ps a) = c (ps b) := by
  obtain ⟨a1, a2, a3, a4, a5, a6, a7, a8, a9, a10⟩ := SR_lit h ha
  obtain ⟨b1, b2, b3, b4, b5, b6, b7, b8, b9, b10⟩ := SR_lit h hb
  rw [z_eq (I_lo _ _ _) (I_hi _ _ _) (I_lo _ _ _) (I_hi _ _ _)]
  exact h.2.2.2.2.2.2.2.2.2.2.2.2.1.2.2 _ _ a6 b6 a5 b5
theorem SR_sign {u v : St} {C : Nat} {fi ps : Nat → Nat} {nv c : Nat → Int} {e : Nat → Nat} (h : SR u v C fi ps nv c e) {a b : Nat} (ha : a < fi C) (hb : b < fi C) : (zI (I v 109 a) = zI (I v 109 b)) ↔ I u 30 a = I u 30 b := by
  rw [z_eq (I_lo _ _ _) (I_hi _ _ _) (I_lo _ _ _) (I_hi _ _ _), (SR_lit h ha).2.2.1, (SR_lit h hb).2.2.1]
/-- a literal at a base -/
theorem SR_IOL {u v : St} {C : Nat} {fi ps : Nat → Nat} {nv c : Nat → Int} {e : Nat → Nat} (h : SR u v C fi ps nv c e) {k l : Nat} (hk : k < C) (h1 : fi k ≤ l) (h2 : l < fi (k + 1)) {b V : Int} (hb : 0 ≤ b) (hbV : b + nv k ≤ V) (hV : V ≤ 220) : IOL c e (ps (fi C)) V (ps l) b := by
  have hl : l < fi C := by have := (SR_fi h).1 C (Nat.le_refl _) (k + 1) (by omega); omega
  have hs := SR_lit h hl
  obtain ⟨m1, m2, m3, m4, m5, m6, m7, m8⟩ := h.2.2.2.2.2.2.2.2.1 k l hk h1 h2
  have hnv := (h.2.2.2.2.2.2.1 k hk).2.2.2.2.2.2.1
  refine ⟨⟨hs.2.2.2.2.2.1, ?_, by simp only; omega, by simp only; omega⟩, m5⟩
  refine ⟨hb, ?_⟩
  intro q q1 q2 q3
  simp only at q1 q2 ⊢
  rw [m7] at q2
  have := m8 q q1 q2 q3
  omega
