/-! a clause comes: both sides together -/
def rk (n : Nat) (but : Int) (j : Nat) : Nat := n - 1 - j - (if (j : Int) < but then 1 else 0)
def pc (n : Nat) (but : Int) (j : Nat) : Nat := n - j - (if (j : Int) ≤ but then 1 else 0)
def fN (φ : Nat → Nat) (L J n : Nat) (but : Int) : Nat → Nat := fun t => if t < L then φ t else J + rk n but (t - L)
def GN (Gd : Nat → Prop) (L n : Nat) (but : Int) : Nat → Prop := fun t => Gd t ∨ (L ≤ t ∧ t < L + n ∧ (t : Int) - L ≠ but)
def NR (φ : Nat → Nat) (Gd : Nat → Prop) (x y : Int) : Prop := (x = -1 ∧ y = -1) ∨ ∃ t : Nat, x = t ∧ y = φ t ∧ Gd t
def PA0 : Nat → Nat → Bool := fun k i => k == 61 || (k == 7 && (i == 6 || i == 7))
def PCm : Nat → Nat → Bool := fun k i => k == 150 || k == 151 || k == 152 || k == 153 || k == 167 || (k == 100 && i == 89)
theorem ac_loop {φ : Nat → Nat} {Gd : Nat → Prop} (k a n L J : Nat) (cn but ab V pth nvk : Int) (hk : k < 100) (ha : a + n ≤ 1200) (hL : L + n ≤ 150) (hJ : J + n ≤ 390) (hGd : ∀ t, Gd t → t < L ∧ φ t < J) (hcn : (cn = -1 ∧ but = -1) ∨ (cn = but + a ∧ 0 ≤ but ∧ but < n)) (hV0 : 0 ≤ V) (hV1 : V ≤ 220) (hn0 : 0 ≤ nvk) (hn1 : nvk ≤ 10) (j : Nat) : j ≤ n → ∀ (F G : Nat) (u v : St) (x y : Int) (r : Nat), j < F → 2 * j < G → I u 18 (k + 1) = ((a + n : Nat) : Int) → I u 7 6 = L → I u 7 7 = V → I u 19 k = nvk → I v 106 k = a → I v 100 89 = ((J + pc n but j : Nat) : Int) → ((ab = -1 ∧ pth = 0) ∨ (∃ p : Nat, ab = p ∧ p < J ∧ I v 153 p = pth - 1 ∧ 0 ≤ pth ∧ pth < 1000)) → NR (fN φ L J n but) (GN Gd L n but) x y → CL u (fun t => t < L ∨ (L + j ≤ t ∧ t < L + n)) r x →
    ∃ x' y' u' v' q, fX5_add_L0 F 0 (zI k) (zI cn) (zI a) (zI x) (zI (((a + j : Nat) : Int) - 1)) u = some (zI x', u') ∧ fX12_comes_L0 G 0 (zI k) (zI but) (zI ab) (zI V) (zI y) (zI ((j : Int) - 1)) 0 0 0 v = some (zI y', v') ∧ NR (fN φ L J n but) (GN Gd L n but) x' y' ∧ CL u' (fun t => t < L + n) q x' ∧ q ≤ r + j ∧ I u' 7 6 = ((L + n : Nat) : Int) ∧ I u' 7 7 = V + nvk ∧ I v' 100 89 = ((J + pc n but 0 : Nat) : Int) ∧ (∀ i, (i < L ∨ L + j ≤ i) → I u' 61 i = I u 61 i) ∧ (∀ i, i < J + pc n but j → I v' 150 i = I v 150 i ∧ I v' 151 i = I v 151 i ∧ I v' 152 i = I v 152 i ∧ I v' 153 i = I v 153 i ∧ I v' 167 i = I v 167 i) ∧ (∀ i : Nat, i < j → (i : Int) ≠ but → NR (fN φ L J n but) (GN Gd L n but) (I u' 61 (L + i)) (I v' 167 (J + rk n but i)) ∧ I v' 150 (J + rk n but i) = ((a + i : Nat) : Int) ∧ I v' 151 (J + rk n but i) = V ∧ I v' 152 (J + rk n but i) = ab ∧ I v' 153 (J + rk n but i) = pth) ∧ Fr PA0 u u' ∧ Fr PCm v v' := by
  induction j with
  | zero =>
    intro hj F G u v x y r hF hG h18 h6 h7 h19 h106 h89 hab hxy hcl
    obtain ⟨F', rfl⟩ : ∃ F', F = F' + 1 := ⟨F - 1, by omega⟩
    obtain ⟨G', rfl⟩ : ∃ G', G = G' + 1 := ⟨G - 1, by omega⟩
    obtain ⟨U, k1, k2, k3, k4⟩ := add0_end (fX5_add_L0 F') u k a n L (zI cn) (zI x) V nvk hk ha hL h18 h6 h7 h19 hV0 hV1 hn0 hn1
    refine ⟨x, y, U, v, r, k1, ?_, hxy, ?_, by omega, k2, k3, h89, ?_, ?_, ?_, ?_, Fr_rfl _ _⟩
    · have st : fX12_comes_L0 (G' + 1) 0 (zI k) (zI but) (zI ab) (zI V) (zI y) (zI (((0 : Nat) : Int) - 1)) 0 0 0 v = fX12_comes_L0_0 (fX12_comes_L0 G') (zI k) (zI but) (zI ab) (zI V) (zI y) (zI (((0 : Nat) : Int) - 1)) v := rfl
      rw [st]
      unfold fX12_comes_L0_0
      rw [if_pos (by decide)]
    · refine CL_eq r x (fun t _ => ?_) (fun t ht => ?_) hcl
      · rw [Fr_I k4 (show (fun k i => k == 7 && (i == 6 || i == 7)) 61 t = false from rfl)]
      · omega
    · intro i _; rw [Fr_I k4 (show (fun k i => k == 7 && (i == 6 || i == 7)) 61 i = false from rfl)]
    · intro i _; exact ⟨rfl, rfl, rfl, rfl, rfl⟩
    · intro i hi; omega
    · refine Fr_mono (fun k i hk => ?_) k4
      unfold PA0 at hk; simp only [Bool.or_eq_false_iff] at hk ⊢; exact hk.2
  | succ j ih =>
    intro hj F G u v x y r hF hG h18 h6 h7 h19 h106 h89 hab hxy hcl
    obtain ⟨F', rfl⟩ : ∃ F', F = F' + 1 := ⟨F - 1, by omega⟩
    obtain ⟨G', rfl⟩ : ∃ G', G = G' + 2 := ⟨G - 2, by omega⟩
    have ej : ((j + 1 : Nat) : Int) - 1 = j := by omega
    have eaj : (((a + (j + 1) : Nat) : Int) - 1) = ((a + j : Nat) : Int) := by omega
    rw [ej, eaj]
    have hxr : -1 ≤ x ∧ x < 1000 ∧ -1 ≤ y ∧ y < 1000 := by
      rcases hxy with ⟨h1, h2⟩ | ⟨t, h1, h2, h3⟩
      · omega
      · unfold fN rk at h2
        rcases h3 with h3 | h3
        · have := hGd t h3; rw [if_pos this.1] at h2; omega
        · rw [if_neg (by omega)] at h2; omega
    have hcr : -1 ≤ cn ∧ cn < 2000 ∧ -1 ≤ but ∧ but < 2000 := by clear hab; omega
    by_cases hb : but = j
    · -- the connected literal
      have hcn' : cn = ((a + j : Nat) : Int) := by clear hab; omega
      have hpc : pc n but (j + 1) = pc n but j := by
        unfold pc; rw [if_neg (by omega), if_pos (by omega)]; omega
      have hrkj : ∀ i, i < J + pc n but (j + 1) → i < J + pc n but j := fun i hi => by rw [← hpc]; exact hi
      have s1 : fX5_add_L0 (F' + 1) 0 (zI k) (zI cn) (zI a) (zI x) (zI ((a + j : Nat) : Int)) u = fX5_add_L0 F' 0 (zI k) (zI cn) (zI a) (zI x) (zI (((a + j : Nat) : Int) - 1)) u := by
        rw [hcn']
        exact add0_skip (fX5_add_L0 F') u (zI k) (zI x) a _ (by omega) (by omega) (by omega)
      have s2 : fX12_comes_L0 (G' + 2) 0 (zI k) (zI but) (zI ab) (zI V) (zI y) (zI j) 0 0 0 v = fX12_comes_L0 (G' + 1) 0 (zI k) (zI but) (zI ab) (zI V) (zI y) (zI ((j : Int) - 1)) 0 0 0 v := by
        rw [hb]
        exact comes_skip (G' + 1) v (zI k) (zI ab) (zI V) (zI y) j (by omega) (by omega)
      obtain ⟨x', y', u', v', q, w1, w2, w3, w4, w5, w6, w7, w8, w9, w10, w11, w12, w13⟩ := ih (by omega) F' (G' + 1) u v x y r (by omega) (by omega) h18 h6 h7 h19 h106 (by rw [← hpc]; exact h89) hab hxy (CL_eq r x (fun _ _ => rfl) (fun t ht => by omega) hcl)
      refine ⟨x', y', u', v', q, s1.trans w1, s2.trans w2, w3, w4, by omega, w6, w7, w8, fun i hi => w9 i (by omega), fun i hi => w10 i (hrkj i hi), ?_, w12, w13⟩
      intro i hi hib
      exact w11 i (by omega) hib
    · have hpj : pc n but (j + 1) + 1 = pc n but j := by
        unfold pc
        by_cases h : ((j + 1 : Nat) : Int) ≤ but
        · rw [if_pos h, if_pos (by omega)]; omega
        · rw [if_neg h, if_neg (by omega)]; omega
      have hrk : rk n but j = pc n but (j + 1) := by
        unfold rk pc
        by_cases h : (j : Int) < but
        · rw [if_pos h, if_pos (by omega)]; omega
        · rw [if_neg h, if_neg (by omega)]; omega
      have hpn : pc n but (j + 1) ≤ n := by unfold pc; omega
      have hcj : cn ≠ ((a + j : Nat) : Int) := by clear hab; omega
      obtain ⟨U, a1, a2, a3⟩ := add0_step (fX5_add_L0 F') u (zI k) a j L cn x (by omega) (by omega) h6 hcr.1 hcr.2.1 hcj hxr.1 hxr.2.1
      obtain ⟨Wv, b1, b2, b3, b4, b5, b6, b7, b8⟩ := comes_step G' v k a j (J + pc n but (j + 1)) but ab y pth V hk (by omega) (by omega) h89 h106 hcr.2.2.1 hcr.2.2.2 hb hxr.2.2.1 hxr.2.2.2 hV0 (by omega) (by
        rcases hab with h | ⟨p, p1, p2, p3, p4⟩
        · exact Or.inl h
        · exact Or.inr ⟨p, p1, by omega, p3, p4⟩)
      have oldW : ∀ kk i, i ≠ J + pc n but (j + 1) → (kk = 150 ∨ kk = 151 ∨ kk = 152 ∨ kk = 153 ∨ kk = 167) → I Wv kk i = I v kk i := by
        intro kk i hi hkk
        refine Fr_I b8 ?_
        have : (i == J + pc n but (j + 1)) = false := by simp [hi]
        rcases hkk with h | h | h | h | h <;> subst h <;> simp [this]
      have hNRn : NR (fN φ L J n but) (GN Gd L n but) ((L + j : Nat) : Int) ((J + pc n but (j + 1) : Nat) : Int) := by
        refine Or.inr ⟨L + j, rfl, ?_, Or.inr ⟨by omega, by omega, by omega⟩⟩
        unfold fN
        rw [if_neg (by omega), ← hrk, show L + j - L = j by omega]
      have hclU : CL U (fun t => t < L ∨ (L + j ≤ t ∧ t < L + n)) (r + 1) ((L + j : Nat) : Int) := by
        refine ⟨L + j, by omega, rfl, ?_⟩
        rw [a2, if_pos rfl]
        refine CL_eq r x (fun t ht => ?_) (fun t ht => ?_) hcl
        · rw [a2, if_neg (by omega)]
        · omega
      obtain ⟨x', y', u', v', q, w1, w2, w3, w4, w5, w6, w7, w8, w9, w10, w11, w12, w13⟩ := ih (by omega) F' G' U Wv ((L + j : Nat) : Int) ((J + pc n but (j + 1) : Nat) : Int) (r + 1) (by omega) (by omega) (by rw [Fr_I a3 rfl]; exact h18) (by rw [Fr_I a3 rfl]; exact h6) (by rw [Fr_I a3 rfl]; exact h7) (by rw [Fr_I a3 rfl]; exact h19) (by rw [Fr_I b8 rfl]; exact h106) (by rw [b2, ← hpj]; rfl) (by
        rcases hab with h | ⟨p, p1, p2, p3, p4⟩
        · exact Or.inl h
        · exact Or.inr ⟨p, p1, p2, by rw [oldW 153 p (by omega) (by simp)]; exact p3, p4⟩) hNRn hclU
      refine ⟨x', y', u', v', q, a1.trans w1, b1.trans w2, w3, w4, by omega, w6, w7, w8, ?_, ?_, ?_, ?_, ?_⟩
      · intro i hi; rw [w9 i (by omega), a2, if_neg (by omega)]
      · intro i hi
        have h1 := w10 i (by omega)
        rw [h1.1, h1.2.1, h1.2.2.1, h1.2.2.2.1, h1.2.2.2.2, oldW 150 i (by omega) (by simp), oldW 151 i (by omega) (by simp), oldW 152 i (by omega) (by simp), oldW 153 i (by omega) (by simp), oldW 167 i (by omega) (by simp)]
        exact ⟨rfl, rfl, rfl, rfl, rfl⟩
      · intro i hi hib
        by_cases hij : i = j
        · subst hij
          have h1 := w10 (J + pc n but (i + 1)) (by omega)
          rw [hrk, h1.1, h1.2.1, h1.2.2.1, h1.2.2.2.1, h1.2.2.2.2, w9 (L + i) (by omega), a2, if_pos rfl, b3, b4, b5, b6, b7]
          exact ⟨hxy, rfl, rfl, rfl, rfl⟩
        · exact w11 i (by omega) hib
      · refine Fr_tr (Fr_mono (fun k i hk => ?_) a3) w12
        unfold PA0 at hk; simp only [Bool.or_eq_false_iff] at hk ⊢; exact hk.1
      · refine Fr_tr (Fr_mono (fun k i hk => ?_) b8) w13
        unfold PCm at hk
        simp only [Bool.or_eq_false_iff] at hk
        obtain ⟨⟨⟨⟨⟨h1, h2⟩, h3⟩, h4⟩, h5⟩, h6⟩ := hk
        simp [h1, h2, h3, h4, h5, h6]
