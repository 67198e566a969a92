/-! reading: the clauses of a formula come into the store, both sides -/
theorem MBr_all {u0 v : St} {S nb nf MD : Nat} {G : List Cs} (hT : TGs u0 v S nb nf MD G) (c : List Lt) : ∀ q, MBr v G q c → ∀ l, l ∈ c → ∃ g, LTr u0 v S nb nf MD g l := by
  induction c with
  | nil => intro q _ l h; cases h
  | cons a c ih =>
    intro q h l hl
    obtain ⟨⟨g, a1, a2, a3, a4⟩, a5⟩ := h
    rcases List.mem_cons.1 hl with hl | hl
    · subst hl; exact ⟨g, LTr_of hT a2 a3 a4⟩
    · exact ih (q + 1) a5 l hl
theorem SE_fr {P : Nat → Nat → Bool} {u u' : St} {NL CT M : Nat} (hF : Fr P u u') (hP : ∀ k i, (48 ≤ k ∧ k ≤ 52) → P k i = false) (x : Cs) : ∀ s, SE u NL CT M s x → SE u' NL CT M s x := by
  have hA : ∀ T, AG u u' NL CT M T := fun T => ⟨fun i _ => Fr_I hF (hP _ _ (by omega)), fun i _ => Fr_I hF (hP _ _ (by omega)), fun i _ => Fr_I hF (hP _ _ (by omega)), fun i _ => Fr_I hF (hP _ _ (by omega)), fun i _ => Fr_I hF (hP _ _ (by omega))⟩
  intro s h
  exact SE_mono (hA (s + x.length)) (Nat.le_refl _) (Nat.le_refl _) (Nat.le_refl _) x s (Nat.le_refl _) h
theorem SEr_fr {P : Nat → Nat → Bool} {v v' : St} {G : List Cs} {M : Nat} (hF : Fr P v v') (hP : ∀ k i, (k = 130 ∨ k = 138 ∨ k = 139 ∨ k = 140) → P k i = false) (x : Cs) (s : Nat) (h : SEr v G M s x) : SEr v' G M s x := SEr_mono (fun g => Fr_I hF (hP _ _ (by simp))) (fun i _ => Fr_I hF (hP _ _ (by simp))) (Nat.le_refl _) x s (fun i _ _ => ⟨Fr_I hF (hP _ _ (by simp)), Fr_I hF (hP _ _ (by simp))⟩) h
theorem be_big (Fu g : Nat) (k : Int32) (v : St) (hg : g < 6100) (h : I v 100 47 = 1) : fX12_become_L0 (Fu + 1) 0 (zI g) k v = some v := by
  have sx : fX12_become_L0 (Fu + 1) 0 (zI g) k v = fX12_become_L0_0 (fX12_become_L0 Fu) (zI g) k v := rfl
  rw [sx]
  unfold fX12_become_L0_0
  rw [ld_z _ _ _ _ (by omega) (by omega), bd_s, gI_z v 100 47, h, if_neg (show ¬ zI 1 = 0 by decide), ite_self]
theorem DLs_cls {P : Nat → Nat → Bool} {u u' v : St} {C S F nb : Nat} {fi ps : Nat → Nat} {nv c : Nat → Int} {e : Nat → Nat} (hF : Fr P u u') (hP : Ds P PSc) (hP2 : ∀ i, P 16 i = false) (h : DLs u v C S F nb fi ps nv c e) : DLs u' v C S F nb fi ps nv c e := ⟨SR_fr hF (Fr_rfl (fun _ _ => false) v) hP (fun _ _ _ => rfl) h.1, SYr_fr hF (Fr_rfl (fun _ _ => false) v) hP2 (fun _ => rfl) h.2.1, h.2.2.1, h.2.2.2⟩
theorem DLs_ref {P : Nat → Nat → Bool} {u v v' : St} {C S F nb : Nat} {fi ps : Nat → Nat} {nv c : Nat → Int} {e : Nat → Nat} (hF : Fr P v v') (hP : Ds P PSr) (hP2 : ∀ i, P 105 i = false) (h : DLs u v C S F nb fi ps nv c e) : DLs u v' C S F nb fi ps nv c e := ⟨SR_fr (Fr_rfl (fun _ _ => false) u) hF (fun _ _ _ => rfl) hP h.1, SYr_fr (Fr_rfl (fun _ _ => false) u) hF (fun _ => rfl) (fun i => hP 111 i rfl) h.2.1, h.2.2.1, fun q hq h0 f hf hn => by rw [Fr_I hF (hP2 _)]; exact h.2.2.2 q hq h0 f hf hn⟩
theorem dl_loop {u0 : St} {S F nb nf MD NL CT M M0 g : Nat} {G : List Cs} (hN : NL ≤ 600) (hCT : CT ≤ 18000) (hM : M ≤ 6000) (hM0 : M0 ≤ 6000) (hMD : MD ≤ 24000) (hg : g < 6100) (hS : S ≤ 811) (hF : nf ≤ F) (r : Cs) : ∀ (s t k C : Nat) (fi ps : Nat → Nat) (nv c : Nat → Int) (e : Nat → Nat) (u v : St) (Fc Fv : Nat), DLs u v C S F nb fi ps nv c e → C + r.length ≤ 100 → s + r.length ≤ 600 → t + r.length ≤ 600 → SE u NL CT M s r → SEr v G M0 t r → I u 54 0 = ((s + r.length : Nat) : Int) → I v 137 g = ((k + r.length : Nat) : Int) → I v 136 g + k = t → I v 100 47 = 0 → NCe u0 v S nb nf → TGs u0 v S nb nf MD G → (∀ s, s < S → I u 16 s = I u0 16 s) → r.length < Fc → r.length < Fv → ∃ u' v', STk u u' C (fi C) (ps (fi C)) ∧ RTk v v' C (fi C) (ps (fi C)) ∧ Fr Pdv u u' ∧ Fr Pnw v v' ∧ fX12_become_L0 Fv 0 (zI g) (zI k) v = some v' ∧ ((fX10_deliver_L0 Fc 0 (zI s) u = some (1, u') ∧ I v' 100 47 = 0 ∧ ∃ C' fi' ps' nv' c' e', DLs u' v' C' S F nb fi' ps' nv' c' e' ∧ C ≤ C' ∧ C' ≤ C + r.length ∧ fi C ≤ fi' C' ∧ ps (fi C) ≤ ps' (fi' C')) ∨ (fX10_deliver_L0 Fc 0 (zI s) u = some (0, u') ∧ I v' 100 47 = 1)) := by
  induction r with
  | nil =>
    intro s t k C fi ps nv c e u v Fc Fv hD hC hs ht hSE hSr h54 h137 h136 h47 hE hT h16 hFc hFv
    obtain ⟨F1, rfl⟩ : ∃ F1, Fc = F1 + 1 := ⟨Fc - 1, by omega⟩
    obtain ⟨F2, rfl⟩ : ∃ F2, Fv = F2 + 1 := ⟨Fv - 1, by omega⟩
    simp only [List.length_nil, Nat.add_zero] at hC hs ht h54 h137
    refine ⟨u, v, STk_rfl _ _ _ _, RTk_fr _ _ _ (Fr_rfl (fun _ _ => false) v) (fun _ _ _ => rfl), Fr_rfl _ _, Fr_rfl _ _, ?_, Or.inl ⟨?_, h47, C, fi, ps, nv, c, e, hD, Nat.le_refl _, by simp, Nat.le_refl _, Nat.le_refl _⟩⟩
    · have sx : fX12_become_L0 (F2 + 1) 0 (zI g) (zI k) v = fX12_become_L0_0 (fX12_become_L0 F2) (zI g) (zI k) v := rfl
      rw [sx]
      unfold fX12_become_L0_0
      have hk := I_hi v 137 g
      rw [h137] at hk
      rw [ld_z _ _ _ _ (by omega) (by omega), bd_s, Int.toNat_natCast, h137, if_pos (by rw [z_le (by omega) (by omega) (by omega) (by omega)]; omega)]
    · have sx : fX10_deliver_L0 (F1 + 1) 0 (zI s) u = fX10_deliver_L0_0 (fX10_deliver_L0 F1) (zI s) u := rfl
      rw [sx]
      unfold fX10_deliver_L0_0
      rw [show (0 : Int32) = zI (0 : Nat) from rfl, ld_z _ _ _ _ (by omega) (by omega), bd_s, Int.toNat_natCast, h54, if_pos (by rw [z_le (by omega) (by omega) (by omega) (by omega)]; omega)]
  | cons a r ih =>
    intro s t k C fi ps nv c e u v Fc Fv hD hC hs ht hSE hSr h54 h137 h136 h47 hE hT h16 hFc hFv
    obtain ⟨F1, rfl⟩ : ∃ F1, Fc = F1 + 1 := ⟨Fc - 1, by omega⟩
    obtain ⟨F2, rfl⟩ : ∃ F2, Fv = F2 + 1 := ⟨Fv - 1, by omega⟩
    simp only [List.length_cons] at hC hs ht h54 h137 hFc hFv
    have hk := I_hi v 137 g
    have hk2 := I_lo v 136 g
    rw [h137] at hk
    have hSR := hD.1
    have hfb := (SR_fi hSR).2.1 C (Nat.le_refl _)
    have hpb := ps_200 hSR C (Nat.le_refl _)
    obtain ⟨f, hf⟩ : ∃ f, fi C = f := ⟨_, rfl⟩
    obtain ⟨b, hb⟩ : ∃ b, ps f = b := ⟨_, rfl⟩
    have hC25 := hSR.2.1
    have hV10 := hSR.2.2.1
    have h18 := hSR.2.2.2.2.2.1 C (Nat.le_refl _)
    have h29 := hSR.2.2.2.2.2.2.2.1 (fi C) (Nat.le_refl _)
    have h14 := hSR.2.2.2.2.2.2.2.2.2.1
    have h17 := hSR.2.2.2.2.2.2.2.2.2.2.1
    rw [hf] at hfb h18 h29 h14 h17 hpb
    rw [hb] at h29 h17 hpb
    have ha12 := SEr_12 (a :: r) t hSr a (by simp)
    obtain ⟨qa, _, _, _, _, hmb⟩ := hSr.1
    have hla := MBr_all hT a qa hmb
    have hKne : ∀ l, l ∈ (krun ([], false) a).1 → 1 ≤ l.2.length := krun_mem a ([], false) (fun l => 1 ≤ l.2.length) (fun l h => by cases h) (fun l hl => by
      obtain ⟨g', _, _, _, _, p, _, _, _, _, _, hlg⟩ := hla l hl
      obtain ⟨z, lr, hz1, _⟩ := hlg.2
      rw [hz1]; simp)
    have hKl : (krun ([], false) a).1.length ≤ 12 := by
      have := krun_len a ([], false)
      simp only [List.length_nil] at this; omega
    obtain ⟨u1, k1, k2, k3⟩ := keep_spec hN hCT hM (show s < 600 by omega) ha12 hSE.1
    obtain ⟨v1, m1, m2, m3, m4⟩ := nc_spec (u0 := u0) hE hMD (show t < 600 by omega) (show C < 100 by omega) (show f ≤ 1188 by omega) (show b ≤ 19800 by omega) hM0 hT hSr.1 h47 hV10 h14 h17
    have FK : Fr Pdv u u1 := Fr_up2 (fun k i hk => by simp at hk; simp [Pdv, hk]) k2
    have SK : STk u u1 C f b := STk_fr C f b k2 (fun k i hk => by simp; omega)
    have ecl : fX10_deliver_L0 (F1 + 1) 0 (zI s) u = b2 (fX10_keep (zI s) u) fun r4 u3 => if r4 < 0 then fX10_deliver_L0 F1 0 (zI ((s + 1 : Nat) : Int)) u3 else b2 (fX10_deliverKept r4 u3) fun r8 u7 => if r8 = 0 then (some (0, u7)) else fX10_deliver_L0 F1 0 (zI ((s + 1 : Nat) : Int)) u7 := by
      have sx : fX10_deliver_L0 (F1 + 1) 0 (zI s) u = fX10_deliver_L0_0 (fX10_deliver_L0 F1) (zI s) u := rfl
      rw [sx]
      unfold fX10_deliver_L0_0
      have h54' : ld u 54 400 0 = some (zI ((s + (r.length + 1) : Nat) : Int)) := by rw [show (0 : Int32) = zI (0 : Nat) from rfl, ld_z _ _ _ _ (by omega) (by omega), Int.toNat_natCast, h54]
      rw [h54', bd_s, if_neg (by rw [z_le (by omega) (by omega) (by omega) (by omega)]; omega), show (zI (s : Int) + 1 : Int32) = zI ((s + 1 : Nat) : Int) by rw [show (1 : Int32) = zI 1 from rfl, z_add]; rfl]
      rfl
    have eref : fX12_become_L0 (F2 + 1) 0 (zI g) (zI k) v = fX12_become_L0 F2 0 (zI g) (zI ((k + 1 : Nat) : Int)) v1 := by
      have sx : fX12_become_L0 (F2 + 1) 0 (zI g) (zI k) v = fX12_become_L0_0 (fX12_become_L0 F2) (zI g) (zI k) v := rfl
      rw [sx]
      unfold fX12_become_L0_0
      rw [ld_z _ _ _ _ (by omega) (by omega), bd_s, Int.toNat_natCast, h137, if_neg (by rw [z_le (by omega) (by omega) (by omega) (by omega)]; omega), gI_z v 100 47, h47, if_pos (show zI 0 = 0 from rfl), ld_z _ _ _ _ (by omega) (by omega), bd_s, Int.toNat_natCast, z_add, h136, m1, bd_s, lt_e, show (zI (k : Int) + 1 : Int32) = zI ((k + 1 : Nat) : Int) by rw [show (1 : Int32) = zI 1 from rfl, z_add]; rfl]
    have hSr1 : SEr v1 G M0 (t + 1) r := SEr_fr m2 (fun k i hk => by simp [Pnw]; omega) r (t + 1) hSr.2
    have hT1 : TGs u0 v1 S nb nf MD G := TGs_fr m2 (fun k i hk => by simp [Pnw]; omega) hT
    have hE1 : NCe u0 v1 S nb nf := NCe_fr m2 (fun i => by simp [Pnw]) (by simp [Pnw]) hE
    have e137 : I v1 137 g = ((k + 1 + r.length : Nat) : Int) := by rw [Fr_I m2 (by simp [Pnw]), h137]; congr 1; omega
    have e136 : I v1 136 g + ((k + 1 : Nat) : Int) = ((t + 1 : Nat) : Int) := by rw [Fr_I m2 (by simp [Pnw])]; omega
    rw [ecl, eref, k1, b2_s]
    rw [hf, hb]
    rcases m4 with ⟨n1, n2⟩ | ⟨n1, n2, n3⟩ | ⟨n1, n2, n3, n4, n5, n6⟩
    · -- the clause goes
      rw [n1, if_pos rfl, if_pos (by decide)]
      have hD1 : DLs u1 v1 C S F nb fi ps nv c e := DLs_ref n2 (fun k i hk => by simp [PSr] at hk; simp; omega) (fun i => by simp) (DLs_cls k2 (fun k i hk => by simp [PSc] at hk; simp; omega) (fun i => by simp) hD)
      obtain ⟨u', v', q1, q2, q3, q4, q5, q6⟩ := ih (s + 1) (t + 1) (k + 1) C fi ps nv c e u1 v1 F1 F2 hD1 (by omega) (by omega) (by omega) (SE_fr k2 (fun k i hk => by simp; omega) r (s + 1) hSE.2) hSr1 (by rw [Fr_I k2 (by simp), h54]; congr 1; omega) e137 e136 (by rw [Fr_I n2 (by simp)]; exact h47) hE1 hT1 (fun s hs => by rw [Fr_I k2 (by simp)]; exact h16 s hs) (by omega) (by omega)
      rw [hf, hb] at q1 q2 q6
      refine ⟨u', v', STk_tr (Nat.le_refl _) (Nat.le_refl _) (Nat.le_refl _) SK q1, RTk_tr (Nat.le_refl _) (Nat.le_refl _) (Nat.le_refl _) m3 q2, Fr_tr FK q3, Fr_tr m2 q4, q5, ?_⟩
      rcases q6 with ⟨x1, x2, C', fi', ps', nv', c', e', x3, x4, x5, x6, x7⟩ | x
      · exact Or.inl ⟨x1, x2, C', fi', ps', nv', c', e', x3, x4, by simp only [List.length_cons]; omega, x6, x7⟩
      · exact Or.inr x
    · -- too large
      have hKP := k3 n1
      rw [n1, if_neg (show ¬ (false = true) by decide), if_neg (by rw [z_zero, z_lt (by omega) (by omega) (by decide) (by decide)]; omega)]
      rcases dk_spec (u := u1) hN hCT (show C < 100 by omega) (show f ≤ 1188 by omega) (show b ≤ 19800 by omega) hKl hKne (by rw [Fr_I k2 (by simp)]; exact hC25) (by rw [Fr_I k2 (by simp)]; exact h18) (by rw [Fr_I k2 (by simp)]; exact h29) hKP with ⟨d1, d2, _⟩ | ⟨d1, u2, d2, d3, d4⟩
      · exfalso; omega
      · rw [d2, b2_s, if_pos rfl]
        obtain ⟨F3, rfl⟩ : ∃ F3, F2 = F3 + 1 := ⟨F2 - 1, by omega⟩
        exact ⟨u2, v1, STk_tr (Nat.le_refl _) (Nat.le_refl _) (Nat.le_refl _) SK d3, m3, Fr_tr FK d4, m2, be_big F3 g _ v1 hg n3, Or.inr ⟨rfl, n3⟩⟩
    · -- it comes
      have hKP := k3 n1
      rw [n1, if_neg (show ¬ (false = true) by decide), if_neg (by rw [z_zero, z_lt (by omega) (by omega) (by decide) (by decide)]; omega)]
      rcases dk_spec (u := u1) hN hCT (show C < 100 by omega) (show f ≤ 1188 by omega) (show b ≤ 19800 by omega) hKl hKne (by rw [Fr_I k2 (by simp)]; exact hC25) (by rw [Fr_I k2 (by simp)]; exact h18) (by rw [Fr_I k2 (by simp)]; exact h29) hKP with ⟨d1, d2, u2, d3, d4, d5, d6, d7, d8, d9⟩ | ⟨d1, _⟩
      · rw [d3, b2_s, if_neg (by decide)]
        have hS2 := STk_tr (Nat.le_refl _) (Nat.le_refl _) (Nat.le_refl _) SK d8
        have F12 : Fr Pdv u u2 := Fr_tr FK d9
        obtain ⟨fi', ps', nv', c', e', y1, y2, y3⟩ := add_clause (u0 := u0) (u' := u2) (v' := v1) (nf := nf) (show C < 100 by omega) (by omega) hF hD hKl n2 n3 n6 (by rw [hf, hb]; exact d4) d5 d6 (by rw [hf]; exact d7) (by rw [hf, hb]; exact hS2) (fun s hs => by rw [Fr_I F12 (by simp [Pdv])]; exact h16 s hs) (fun s hs => Fr_I F12 (by simp [Pdv])) (by rw [hf, hb]; exact n4) (by rw [hf, hb]; exact m3) (fun i => Fr_I m2 (by simp [Pnw]))
        rw [hf] at y2
        rw [hf, hb] at y3
        obtain ⟨u', v', q1, q2, q3, q4, q5, q6⟩ := ih (s + 1) (t + 1) (k + 1) (C + 1) fi' ps' nv' c' e' u2 v1 F1 F2 y1 (by omega) (by omega) (by omega) (SE_fr F12 (fun k i hk => by simp [Pdv]; omega) r (s + 1) hSE.2) hSr1 (by rw [Fr_I F12 (by simp [Pdv]), h54]; congr 1; omega) e137 e136 n5 hE1 hT1 (fun s hs => by rw [Fr_I F12 (by simp [Pdv])]; exact h16 s hs) (by omega) (by omega)
        rw [y3, y2] at q1 q2
        refine ⟨u', v', STk_tr (by omega) (by omega) (by omega) hS2 q1, RTk_tr (by omega) (by omega) (by omega) m3 q2, Fr_tr F12 q3, Fr_tr m2 q4, q5, ?_⟩
        rcases q6 with ⟨x1, x2, C', fi'', ps'', nv'', c'', e'', x3, x4, x5, x6, x7⟩ | x
        · refine Or.inl ⟨x1, x2, C', fi'', ps'', nv'', c'', e'', x3, by omega, by simp only [List.length_cons]; omega, ?_, ?_⟩
          · rw [y2] at x6; omega
          · rw [y3] at x7; omega
        · exact Or.inr x
      · exfalso; omega
