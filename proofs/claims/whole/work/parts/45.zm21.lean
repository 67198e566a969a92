/-! THE TABLEAU on both sides, and repeats -/
def TB (u v : St) (φ : Nat → Nat) (L J : Nat) (V : Int) (C : Nat) (fi : Nat → Nat) (nv : Nat → Int) (Gd : Nat → Prop) : Prop := ∀ t, Gd t → t < L ∧ φ t < J ∧ (∃ k l : Nat, k < C ∧ fi k ≤ l ∧ l < fi (k + 1) ∧ I u 57 t = l ∧ I v 150 (φ t) = l ∧ 0 ≤ I u 58 t ∧ I v 151 (φ t) = I u 58 t ∧ I u 58 t + nv k ≤ V) ∧ I v 153 (φ t) = I u 60 t ∧ 0 ≤ I u 60 t ∧ I u 60 t ≤ t ∧ ((I u 59 t = -1 ∧ I v 152 (φ t) = -1) ∨ ∃ p : Nat, p < t ∧ I u 59 t = p ∧ I v 152 (φ t) = φ p ∧ Gd p) ∧ ((I u 61 t = -1 ∧ I v 167 (φ t) = -1) ∨ ∃ n : Nat, I u 61 t = n ∧ I v 167 (φ t) = φ n ∧ Gd n)
theorem TB_eq {u v u' v' : St} {φ φ' : Nat → Nat} {L J : Nat} {V V' : Int} {C : Nat} {fi : Nat → Nat} {nv : Nat → Int} {Gd : Nat → Prop} {L' J' : Nat} (hu : ∀ k i, (k = 57 ∨ k = 58 ∨ k = 59 ∨ k = 60 ∨ k = 61) → i < L → I u' k i = I u k i) (hv : ∀ k i, (k = 150 ∨ k = 151 ∨ k = 152 ∨ k = 153 ∨ k = 167) → i < J → I v' k i = I v k i) (hφ : ∀ i, i < L → φ' i = φ i) (hV : V ≤ V') (hL : L ≤ L') (hJ : J ≤ J') (h : TB u v φ L J V C fi nv Gd) : TB u' v' φ' L' J' V' C fi nv Gd := by
  intro t ht
  obtain ⟨h1, h2, ⟨k, l, h3, h4, h5, h6, h7, h8, h9, h10⟩, h11, h12, h13, h14, h15⟩ := h t ht
  rw [hφ t h1, hu 57 t (by simp) h1, hu 58 t (by simp) h1, hu 59 t (by simp) h1, hu 60 t (by simp) h1, hu 61 t (by simp) h1, hv 150 _ (by simp) h2, hv 151 _ (by simp) h2, hv 152 _ (by simp) h2, hv 153 _ (by simp) h2, hv 167 _ (by simp) h2]
  refine ⟨by omega, by omega, ⟨k, l, h3, h4, h5, h6, h7, h8, h9, by omega⟩, h11, h12, h13, ?_, ?_⟩
  · rcases h14 with h | ⟨p, p1, p2, p3, p4⟩
    · exact Or.inl h
    · exact Or.inr ⟨p, p1, p2, by rw [hφ p (by omega)]; exact p3, p4⟩
  · rcases h15 with h | ⟨n, n1, n2, n3⟩
    · exact Or.inl h
    · exact Or.inr ⟨n, n1, by rw [hφ n (h n n3).1]; exact n2, n3⟩
theorem TB_fr {P Q : Nat → Nat → Bool} {u v u' v' : St} {φ : Nat → Nat} {L J : Nat} {V : Int} {C : Nat} {fi : Nat → Nat} {nv : Nat → Int} {Gd : Nat → Prop} (hu : Fr P u u') (hv : Fr Q v v') (hP : ∀ k i, (k = 57 ∨ k = 58 ∨ k = 59 ∨ k = 60 ∨ k = 61) → P k i = false) (hQ : ∀ k i, (k = 150 ∨ k = 151 ∨ k = 152 ∨ k = 153 ∨ k = 167) → Q k i = false) (h : TB u v φ L J V C fi nv Gd) : TB u' v' φ L J V C fi nv Gd :=
  TB_eq (fun k i hk _ => Fr_I hu (hP k i hk)) (fun k i hk _ => Fr_I hv (hQ k i hk)) (fun _ _ => rfl) (Int.le_refl _) (Nat.le_refl _) (Nat.le_refl _) h
theorem PU_tab : ∀ k i, (k = 57 ∨ k = 58 ∨ k = 59 ∨ k = 60 ∨ k = 61) → PU k i = false := by
  intro k i hk; rcases hk with h | h | h | h | h <;> subst h <;> rfl
theorem PRU_tab : ∀ k i, (k = 150 ∨ k = 151 ∨ k = 152 ∨ k = 153 ∨ k = 167) → PRU k i = false := by
  intro k i hk; rcases hk with h | h | h | h | h <;> subst h <;> rfl
theorem PU_PSc : Ds PU PSc := by
  intro k i hk
  unfold PSc at hk
  simp only [Bool.or_eq_true, Bool.and_eq_true, beq_iff_eq] at hk
  rcases hk with (((((h | h) | h) | h) | h) | h) | ⟨h, h2⟩ <;> subst h <;> first | rfl | (subst h2; rfl)
theorem PRU_PSr : Ds PRU PSr := by
  intro k i hk
  unfold PSr at hk
  simp only [Bool.or_eq_true, Bool.and_eq_true, beq_iff_eq] at hk
  rcases hk with (((((((h | h) | h) | h) | h) | h) | h) | h) | ⟨h, (h2 | h2) | h2⟩ <;> subst h <;> first | rfl | (subst h2; rfl)
theorem rep_end (G : Nat) (u : St) (x1 : Int32) (x3 : Int) (h0 : 0 ≤ x3) (h1 : x3 ≤ 150) : fX8_repeats_L0 (G + 1) 0 x1 (zI (-1)) (zI x3) u = some (0, u) := by
  show fX8_repeats_L0_0 (fX8_repeats_L0 G) x1 (zI (-1)) (zI x3) u = _
  unfold fX8_repeats_L0_0
  by_cases h : (150 : Int32) ≤ zI x3
  · rw [if_pos h]
  · rw [if_neg h, if_pos (by decide)]
theorem rrep_end (G : Nat) (v : St) (x1 x2 : Int32) (h98 : I v 100 98 = 0) : fX12_repeats_L0 (G + 1) 0 x1 x2 (zI (-1)) v = some (0, v) := by
  show fX12_repeats_L0_0 (fX12_repeats_L0 G) x1 x2 (zI (-1)) v = _
  unfold fX12_repeats_L0_0
  rw [if_pos (by decide), gI_z, h98, zb_z (Or.inl rfl), bd_s]; rfl
theorem rep_next (G : Nat) (u : St) (x1 : Int32) (p : Nat) (x3 q : Int) (hp : p < 150) (hq : I u 59 p = q) : fX8_repeats_L0 (G + 1) 1 x1 (zI p) (zI x3) u = fX8_repeats_L0 G 0 x1 (zI q) (zI (x3 + 1)) u := by
  show fX8_repeats_L0_1 (fX8_repeats_L0 G) x1 (zI p) (zI x3) u = _
  unfold fX8_repeats_L0_1
  rw [ld_z _ _ _ _ (by omega) (by omega), bd_s, lt_e, Int.toNat_natCast, hq, show (1 : Int32) = zI 1 from rfl, z_add]
theorem rrep_next (G : Nat) (v : St) (x1 x2 : Int32) (p : Nat) (q : Int) (hp : p < 400) (hq : I v 152 p = q) : fX12_repeats_L0 (G + 1) 1 x1 x2 (zI p) v = fX12_repeats_L0 G 0 x1 x2 (zI q) v := by
  show fX12_repeats_L0_1 (fX12_repeats_L0 G) x1 x2 (zI p) v = _
  unfold fX12_repeats_L0_1
  rw [ld_z _ _ _ _ (by omega) (by omega), bd_s, Int.toNat_natCast, hq]
theorem rep_full (G : Nat) (v : St) (x1 x2 : Int32) (x3 : Int) (h1 : -1 ≤ x3) (h2 : x3 < 1000) (h98 : I v 100 98 = 1) : fX12_repeats_L0 (G + 1) 0 x1 x2 (zI x3) v = some (1, v) := by
  show fX12_repeats_L0_0 (fX12_repeats_L0 G) x1 x2 (zI x3) v = _
  unfold fX12_repeats_L0_0
  by_cases h : zI x3 < 0
  · rw [if_pos h, gI_z, h98, zb_z (Or.inr rfl), bd_s]; rfl
  · rw [if_neg h, gI_z, h98, if_neg (by decide), zb_z (Or.inr rfl), bd_s]; rfl
theorem repeats_loop {u0 v0 : St} {φ : Nat → Nat} {L J : Nat} {V : Int} {C : Nat} {fi ps : Nat → Nat} {nv c : Nat → Int} {e : Nat → Nat} {T : List (Nat × Nat × Int)} {Gd : Nat → Prop} (hV : V ≤ 220) (hL : L ≤ 150) (hJ : J ≤ 400) (g : Nat) (hg : Gd g) (m : Nat) : ∀ (F G n : Nat) (u v : St) (x3 ab ab' : Int), SR u v C fi ps nv c e → UE u v c e (ps (fi C)) V T → TB u v φ L J V C fi nv Gd → n ≤ 4000 → I u 8 5 = 4000 - n → I v 100 97 = 4000 - n → I v 100 98 = 0 → ((ab = -1 ∧ ab' = -1) ∨ ∃ p : Nat, p < m ∧ ab = p ∧ ab' = φ p ∧ Gd p) → 0 ≤ x3 → x3 + m ≤ 150 → 2 * m + 2 < F → 2 * m + 3 < G →
    ∃ r r' u' v', fX8_repeats_L0 F 0 (zI g) (zI ab) (zI x3) u = some (zI r, u') ∧ fX12_repeats_L0 G 0 (zI (φ g)) (zI (I u 57 g)) (zI ab') v = some (zI r', v') ∧ ((r = 1 ∧ r' = 1 ∧ I v' 100 98 = 0) ∨ (r = 0 ∧ r' = 0 ∧ I v' 100 98 = 0) ∨ (r = 2 ∧ r' = 1 ∧ I v' 100 98 = 1)) ∧ UE u' v' c e (ps (fi C)) V T ∧ Fr PU u u' ∧ Fr PRU v v' := by
  induction m with
  | zero =>
    intro F G n u v x3 ab ab' hS hU hTB hn h85 h97 h98 hab hx0 hx hF hG
    obtain ⟨F', rfl⟩ : ∃ F', F = F' + 1 := ⟨F - 1, by omega⟩
    obtain ⟨G', rfl⟩ : ∃ G', G = G' + 1 := ⟨G - 1, by omega⟩
    rcases hab with ⟨h1, h2⟩ | ⟨p, hp, _⟩
    · subst h1; subst h2
      exact ⟨0, 0, u, v, rep_end F' u _ x3 hx0 (by omega), rrep_end G' v _ _ h98, Or.inr (Or.inl ⟨rfl, rfl, h98⟩), hU, Fr_rfl _ _, Fr_rfl _ _⟩
    · omega
  | succ m ih =>
    intro F G n u v x3 ab ab' hS hU hTB hn h85 h97 h98 hab hx0 hx hF hG
    obtain ⟨F', rfl⟩ : ∃ F', F = F' + 2 := ⟨F - 2, by omega⟩
    obtain ⟨G', rfl⟩ : ∃ G', G = G' + 2 := ⟨G - 2, by omega⟩
    rcases hab with ⟨h1, h2⟩ | ⟨p, hp, h1, h2, h3⟩
    · subst h1; subst h2
      exact ⟨0, 0, u, v, rep_end _ u _ x3 hx0 (by omega), rrep_end _ v _ _ h98, Or.inr (Or.inl ⟨rfl, rfl, h98⟩), hU, Fr_rfl _ _, Fr_rfl _ _⟩
    · subst h1; subst h2
      obtain ⟨g1, g2, ⟨gk, gl, g3, g4, g5, g6, g7, g8, g9, g10⟩, g11, g12, g13, g14, g15⟩ := hTB g hg
      obtain ⟨p1, p2, ⟨pk, pl, p3, p4, p5, p6, p7, p8, p9, p10⟩, p11, p12, p13, p14, p15⟩ := hTB p h3
      have hf := SR_fi hS
      have hgl : gl < fi C := by have := hf.1 C (Nat.le_refl _) (gk + 1) (by omega); omega
      have hpl : pl < fi C := by have := hf.1 C (Nat.le_refl _) (pk + 1) (by omega); omega
      have hal := alike_spec hS hgl hpl
      have hsg := SR_sign hS hpl hgl
      have hpr := SR_pred hS hpl hgl
      have hqs := SR_lit hS hgl
      have hqp := SR_lit hS hpl
      have step1 : fX8_repeats_L0 (F' + 2) 0 (zI g) (zI p) (zI x3) u = if I u 30 gl = I u 30 pl ∧ c (ps gl) = c (ps pl) then (b2 (fX8_same (zI g) (zI p) u) fun r9 u8 => if r9 = 0 then fX8_repeats_L0 (F' + 1) 1 (zI g) (zI p) (zI x3) u8 else some (r9, u8)) else fX8_repeats_L0 (F' + 1) 1 (zI g) (zI p) (zI x3) u := by
        show fX8_repeats_L0_0 (fX8_repeats_L0 (F' + 1)) (zI g) (zI p) (zI x3) u = _
        generalize fX8_repeats_L0 (F' + 1) = R
        unfold fX8_repeats_L0_0
        rw [if_neg (by rw [z_lit, z_le (by decide) (by decide) (by omega) (by omega)]; omega), if_neg (by rw [z_zero, z_lt (by omega) (by omega) (by decide) (by decide)]; omega), ld_z _ _ _ _ (by omega) (by omega), bd_s, ld_z _ _ _ _ (by omega) (by omega), bd_s, Int.toNat_natCast, Int.toNat_natCast, g6, p6, hal, b2_s]
        by_cases hc : I u 30 gl = I u 30 pl ∧ c (ps gl) = c (ps pl)
        · rw [if_pos hc, if_pos hc, if_neg (by decide)]
        · rw [if_neg hc, if_neg hc, if_pos (show zI 0 = 0 from rfl)]
      have step2 : fX12_repeats_L0 (G' + 2) 0 (zI (φ g)) (zI (I u 57 g)) (zI (φ p)) v = if I u 30 gl = I u 30 pl ∧ c (ps gl) = c (ps pl) then (b2 (fX12_alike (zI (ps gl)) (zI (I u 58 g)) (zI (ps pl)) (zI (I u 58 p)) v) fun r9 u8 => if r9 = 0 then fX12_repeats_L0 (G' + 1) 1 (zI (φ g)) (zI (I u 57 g)) (zI (φ p)) u8 else some (1, u8)) else fX12_repeats_L0 (G' + 1) 1 (zI (φ g)) (zI (I u 57 g)) (zI (φ p)) v := by
        show fX12_repeats_L0_0 (fX12_repeats_L0 (G' + 1)) (zI (φ g)) (zI (I u 57 g)) (zI (φ p)) v = _
        generalize fX12_repeats_L0 (G' + 1) = R
        unfold fX12_repeats_L0_0
        rw [if_neg (by rw [z_zero, z_lt (by omega) (by omega) (by decide) (by decide)]; omega), gI_z, h98, if_pos (show zI 0 = 0 from rfl), ld_z _ _ _ _ (by omega) (by omega), bd_s, Int.toNat_natCast, p7, ld_z _ _ _ _ (by omega) (by omega), bd_s, Int.toNat_natCast, g6, ld_z _ _ _ _ (by omega) (by omega), bd_s, Int.toNat_natCast]
        by_cases hc1 : I u 30 pl = I u 30 gl
        · rw [if_pos (hsg.2 hc1), predicate_spec hS hpl, b2_s, predicate_spec hS hgl, b2_s]
          by_cases hc2 : c (ps pl) = c (ps gl)
          · rw [if_pos (hpr.2 hc2), if_pos ⟨hc1.symm, hc2.symm⟩, ld_z _ _ _ _ (by omega) (by omega), bd_s, ld_z _ _ _ _ (by omega) (by omega), bd_s, ld_z _ _ _ _ (by omega) (by omega), bd_s, ld_z _ _ _ _ (by omega) (by omega), bd_s, Int.toNat_natCast, Int.toNat_natCast, Int.toNat_natCast, Int.toNat_natCast, hqs.2.1, hqp.2.1, g9, p9]
          · rw [if_neg (fun h => hc2 (hpr.1 h)), if_neg (fun h => hc2 h.2.symm)]
        · rw [if_neg (fun h => hc1 (hsg.1 h)), if_neg (fun h => hc1 h.1.symm)]
      have hp14 : (I u 59 p = -1 ∧ I v 152 (φ p) = -1) ∨ ∃ q : Nat, q < m ∧ I u 59 p = q ∧ I v 152 (φ p) = φ q ∧ Gd q := by
        rcases p14 with h | ⟨q, q1, q2, q3, q4⟩
        · exact Or.inl h
        · exact Or.inr ⟨q, by omega, q2, q3, q4⟩
      by_cases hc : I u 30 gl = I u 30 pl ∧ c (ps gl) = c (ps pl)
      · rw [if_pos hc] at step1 step2
        have hT := hS.2.2.2.2.2.2.2.2.2.2.2.2.2
        obtain ⟨r, r', u', v', w1, w2, w3, w4, w5, w6, w7⟩ := same_spec hT hV hU n hn g gl (ps gl) p pl (ps pl) (I u 58 g) (I u 58 p) (by omega) g6 (by omega) hqs.1 rfl (by omega) p6 (by omega) hqp.1 rfl (SR_IOL hS g3 g4 g5 g8 g10 hV) (SR_IOL hS p3 p4 p5 p8 p10 hV) hc.2 h85 h97 h98
        rw [w1, b2_s] at step1
        rw [w2, b2_s] at step2
        rcases w3 with ⟨s1, s2, s3⟩ | ⟨s1, s2, s3⟩ | ⟨s1, s2, s3⟩
        · subst s1; subst s2
          rw [if_neg (by decide)] at step1 step2
          exact ⟨1, 1, u', v', step1, step2, Or.inl ⟨rfl, rfl, s3⟩, w5, w6, w7⟩
        · subst s1; subst s2
          rw [if_pos (show zI 0 = 0 from rfl)] at step1 step2
          obtain ⟨n', n1, n2, n3⟩ := w4 (by decide)
          have hS' := SR_fr w6 w7 PU_PSc PRU_PSr hS
          have hTB' := TB_fr w6 w7 PU_tab PRU_tab hTB
          rw [rep_next F' u' _ p x3 _ (by omega) rfl] at step1
          rw [rrep_next G' v' _ _ (φ p) _ (by omega) rfl] at step2
          have e1 := Fr_I w6 (PU_tab 59 p (by simp))
          have e2 := Fr_I w7 (PRU_tab 152 (φ p) (by simp))
          have e3 := Fr_I w6 (PU_tab 57 g (by simp))
          rw [e1] at step1
          rw [e2] at step2
          obtain ⟨r, r', u2, v2, x1, x2, x3', x4, x5, x6⟩ := ih F' G' n' u' v' (x3 + 1) _ _ hS' w5 hTB' (by omega) n2 n3 s3 hp14 (by omega) (by omega) (by omega) (by omega)
          rw [e3] at x2
          exact ⟨r, r', u2, v2, step1.trans x1, step2.trans x2, x3', x4, Fr_tr w6 x5, Fr_tr w7 x6⟩
        · subst s1; subst s2
          rw [if_neg (by decide)] at step1
          rw [if_pos (show zI 0 = 0 from rfl), rrep_next G' v' _ _ (φ p) _ (by omega) rfl] at step2
          have e2 := Fr_I w7 (PRU_tab 152 (φ p) (by simp))
          rw [e2] at step2
          obtain ⟨G'', rfl⟩ : ∃ G'', G' = G'' + 1 := ⟨G' - 1, by omega⟩
          have hrg : -1 ≤ I v 152 (φ p) ∧ I v 152 (φ p) < 1000 := by
            rcases hp14 with h | ⟨q, _, _, h, hq⟩
            · omega
            · have := (hTB q hq).2.1; omega
          rw [rep_full G'' v' _ _ _ hrg.1 hrg.2 s3] at step2
          exact ⟨2, 1, u', v', step1, step2, Or.inr (Or.inr ⟨rfl, rfl, s3⟩), w5, w6, w7⟩
      · rw [if_neg hc, rep_next F' u _ p x3 _ (by omega) rfl] at step1
        rw [if_neg hc, rrep_next G' v _ _ (φ p) _ (by omega) rfl] at step2
        obtain ⟨r, r', u2, v2, x1, x2, x3', x4, x5, x6⟩ := ih F' G' n u v (x3 + 1) _ _ hS hU hTB hn h85 h97 h98 hp14 (by omega) (by omega) (by omega) (by omega)
        exact ⟨r, r', u2, v2, step1.trans x1, step2.trans x2, x3', x4, x5, x6⟩
theorem repeats_spec {u v : St} {φ : Nat → Nat} {L J : Nat} {V : Int} {C : Nat} {fi ps : Nat → Nat} {nv c : Nat → Int} {e : Nat → Nat} {T : List (Nat × Nat × Int)} {Gd : Nat → Prop} (hV : V ≤ 220) (hL : L ≤ 150) (hJ : J ≤ 400) (g : Nat) (hg : Gd g) (hS : SR u v C fi ps nv c e) (hU : UE u v c e (ps (fi C)) V T) (hTB : TB u v φ L J V C fi nv Gd) (h98 : I v 100 98 = 0) :
    ∃ r r' u' v', fX8_repeats (zI g) u = some (zI r, u') ∧ fX12_repeats (zI (φ g)) v = some (zI r', v') ∧ ((r = 1 ∧ r' = 1 ∧ I v' 100 98 = 0) ∨ (r = 0 ∧ r' = 0 ∧ I v' 100 98 = 0) ∨ (r = 2 ∧ r' = 1 ∧ I v' 100 98 = 1)) ∧ UE u' v' c e (ps (fi C)) V T ∧ Fr PU u u' ∧ Fr PRU v v' := by
  obtain ⟨g1, g2, ⟨gk, gl, g3, g4, g5, g6, g7, g8, g9, g10⟩, g11, g12, g13, g14, g15⟩ := hTB g hg
  have hFu : Fr PU u (uI u 8 5 (zI 0)) := Fr_up rfl (Fr_rfl _ _)
  have hFv : Fr PRU v (uI v 100 97 (zI 0)) := Fr_up rfl (Fr_rfl _ _)
  have hFu8 : Fr (fun k _ => k == 8) u (uI u 8 5 (zI 0)) := Fr_up rfl (Fr_rfl _ _)
  have hFv8 : Fr (fun k i => k == 100 && i == 97) v (uI v 100 97 (zI 0)) := Fr_up rfl (Fr_rfl _ _)
  have hS' := SR_fr hFu hFv PU_PSc PRU_PSr hS
  have hTB' := TB_fr hFu hFv PU_tab PRU_tab hTB
  have hU' : UE (uI u 8 5 (zI 0)) (uI v 100 97 (zI 0)) c e (ps (fi C)) V T := ⟨hU.1, WE_fr hFu8 (fun _ => rfl) (fun _ => rfl) (fun _ => rfl) hU.2.1, TC_fr hFu8 rfl (fun _ => rfl) hU.2.2.1, RE_fr hFv8 (fun _ => rfl) (fun _ => rfl) (fun _ => rfl) (fun _ => rfl) (fun _ => rfl) hU.2.2.2.1, TR_fr hFv8 rfl (fun _ => rfl) hU.2.2.2.2⟩
  have e1 : I (uI u 8 5 (zI 0)) 59 g = I u 59 g := Fr_I hFu8 rfl
  have e2 : I (uI v 100 97 (zI 0)) 152 (φ g) = I v 152 (φ g) := Fr_I hFv8 rfl
  have e3 : I (uI v 100 97 (zI 0)) 150 (φ g) = gl := by rw [Fr_I hFv8 rfl]; exact g7
  have e4 : I (uI u 8 5 (zI 0)) 57 g = gl := by rw [Fr_I hFu8 rfl]; exact g6
  obtain ⟨r, r', u2, v2, x1, x2, x3, x4, x5, x6⟩ := repeats_loop (u0 := u) (v0 := v) hV hL hJ g hg 150 FU FU 4000 (uI u 8 5 (zI 0)) (uI v 100 97 (zI 0)) 0 (I u 59 g) (I v 152 (φ g)) hS' hU' hTB' (by decide) (I_uI1 _ _ _ _ (by decide) (by decide)) (I_uI1 _ _ _ _ (by decide) (by decide)) (by rw [Fr_I hFv8 rfl]; exact h98) (by
    rcases g14 with h | ⟨p, q1, q2, q3, q4⟩
    · exact Or.inl h
    · exact Or.inr ⟨p, by omega, q2, q3, q4⟩) (by decide) (by decide) (by decide) (by decide)
  refine ⟨r, r', u2, v2, ?_, ?_, x3, x4, Fr_tr hFu x5, Fr_tr hFv x6⟩
  · unfold fX8_repeats
    rw [lt_e, show (0 : Int32) = zI 0 from rfl, ld_z _ _ _ _ (by omega) (by omega), bd_s, Int.toNat_natCast, e1, lt_e]
    exact x1
  · unfold fX12_repeats
    rw [lt_e, show (0 : Int32) = zI 0 from rfl, ld_z _ _ _ _ (by omega) (by omega), bd_s, ld_z _ _ _ _ (by omega) (by omega), bd_s, Int.toNat_natCast, e2, e3, ← e4]
    exact x2
