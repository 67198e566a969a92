/-! reading: a clause in the store, in the class -/
def Pdv : Nat → Nat → Bool := fun k i => k == 18 || k == 19 || k == 29 || k == 30 || k == 31 || k == 32 || k == 55 || k == 56 || (k == 2 && i == 5) || (k == 6 && i == 14)
/-- what was in the store stays -/
def STk (u u' : St) (C f b : Nat) : Prop := (∀ i, i ≤ C → I u' 18 i = I u 18 i) ∧ (∀ i, i < C → I u' 19 i = I u 19 i) ∧ (∀ i, i ≤ f → I u' 29 i = I u 29 i) ∧ (∀ i, i < f → I u' 30 i = I u 30 i ∧ I u' 31 i = I u 31 i) ∧ (∀ i, i < b → I u' 32 i = I u 32 i)
theorem STk_rfl (u : St) (C f b : Nat) : STk u u C f b := ⟨fun _ _ => rfl, fun _ _ => rfl, fun _ _ => rfl, fun _ _ => ⟨rfl, rfl⟩, fun _ _ => rfl⟩
theorem STk_tr {u u' u'' : St} {C f b C' f' b' : Nat} (hC : C ≤ C') (hf : f ≤ f') (hb : b ≤ b') (h : STk u u' C f b) (h' : STk u' u'' C' f' b') : STk u u'' C f b := ⟨fun i hi => (h'.1 i (by omega)).trans (h.1 i hi), fun i hi => (h'.2.1 i (by omega)).trans (h.2.1 i hi), fun i hi => (h'.2.2.1 i (by omega)).trans (h.2.2.1 i hi), fun i hi => ⟨(h'.2.2.2.1 i (by omega)).1.trans (h.2.2.2.1 i hi).1, (h'.2.2.2.1 i (by omega)).2.trans (h.2.2.2.1 i hi).2⟩, fun i hi => (h'.2.2.2.2 i (by omega)).trans (h.2.2.2.2 i hi)⟩
theorem STk_fr {P : Nat → Nat → Bool} {u u' : St} (C f b : Nat) (hF : Fr P u u') (h : ∀ k i, (k = 18 ∨ k = 19 ∨ k = 29 ∨ k = 30 ∨ k = 31 ∨ k = 32) → P k i = false) : STk u u' C f b := ⟨fun i _ => Fr_I hF (h _ _ (by simp)), fun i _ => Fr_I hF (h _ _ (by simp)), fun i _ => Fr_I hF (h _ _ (by simp)), fun i _ => ⟨Fr_I hF (h _ _ (by simp)), Fr_I hF (h _ _ (by simp))⟩, fun i _ => Fr_I hF (h _ _ (by simp))⟩
/-- literals that have come -/
def LDc (u : St) (C f b : Nat) (K : List Lt) : Prop := (∀ (i : Nat) (l : Lt), K[i]? = some l → I u 30 (f + i) = l.1 ∧ I u 31 (f + i) = C) ∧ (∀ i, i ≤ K.length → I u 29 (f + i) = ((b + cl (K.take i) : Nat) : Int)) ∧ RWl u 32 b (rnc [] (fl K)) ∧ SNc u (sns [] (fl K)) ∧ cl K ≤ 200
theorem dk_out {NL CT C f b : Nat} {K : List Lt} (hN : NL ≤ 600) (hCT : CT ≤ 18000) (hC : C < 100) (hf : f ≤ 1188) (hb : b ≤ 19800) (hK : K.length ≤ 12) (r : List Lt) : ∀ (Kd : List Lt) (F : Nat) (u : St), K = Kd ++ r → 600000 * (r.length + 1) < F → I u 2 5 = C → KPc u NL CT K → (∀ l, l ∈ r → 1 ≤ l.2.length) → LDc u C f b Kd → (cl K ≤ 200 ∧ (sns [] (fl K)).length ≤ 10 ∧ ∃ u', fX10_deliverKept_L0 F 0 (zI K.length) (zI C) (zI ((f + Kd.length : Nat) : Int)) (zI b) (zI ((b + cl Kd : Nat) : Int)) (zI Kd.length) 0 0 0 u = some (1, u') ∧ LDc u' C f b K ∧ I u' 2 5 = ((C + 1 : Nat) : Int) ∧ I u' 19 C = (sns [] (fl K)).length ∧ I u' 18 (C + 1) = ((f + K.length : Nat) : Int) ∧ STk u u' C f b ∧ Fr Pdv u u') ∨ ((200 < cl K ∨ 10 < (sns [] (fl K)).length) ∧ ∃ u', fX10_deliverKept_L0 F 0 (zI K.length) (zI C) (zI ((f + Kd.length : Nat) : Int)) (zI b) (zI ((b + cl Kd : Nat) : Int)) (zI Kd.length) 0 0 0 u = some (0, u') ∧ STk u u' C f b ∧ Fr Pdv u u') := by
  induction r with
  | nil =>
    intro Kd F u hKd hF h25 hKP _ hL
    rw [List.append_nil] at hKd
    subst hKd
    obtain ⟨F1, rfl⟩ : ∃ F1, F = F1 + 1 := ⟨F - 1, by omega⟩
    have hLL := hL
    obtain ⟨l1, l2, l3, l4, l5⟩ := hL
    left
    refine ⟨l5, l4.2.2, ?_⟩
    obtain ⟨ua, hua⟩ : ∃ ua, uI u 19 C (zI ((sns [] (fl K)).length : Int)) = ua := ⟨_, rfl⟩
    have Fa : Fr (fun k _ => k == 19) u ua := by rw [← hua]; exact Fr_up rfl (Fr_rfl _ _)
    obtain ⟨ub, hub⟩ : ∃ ub, uI ua 18 (C + 1) (zI ((f + K.length : Nat) : Int)) = ub := ⟨_, rfl⟩
    have Fb : Fr (fun k _ => k == 18) ua ub := by rw [← hub]; exact Fr_up rfl (Fr_rfl _ _)
    obtain ⟨uc, huc⟩ : ∃ uc, uI ub 2 5 (zI ((C + 1 : Nat) : Int)) = uc := ⟨_, rfl⟩
    have Fc : Fr (fun k i => k == 2 && i == 5) ub uc := by rw [← huc]; exact Fr_up rfl (Fr_rfl _ _)
    have F : Fr (fun k i => k == 19 || k == 18 || (k == 2 && i == 5)) u uc := Fr_tr (Fr_up2 (fun k i hk => by simp at hk; simp [hk]) Fa) (Fr_tr (Fr_up2 (fun k i hk => by simp at hk; simp [hk]) Fb) (Fr_up2 (fun k i hk => by simp at hk; simp [hk]) Fc))
    have hl10 := l4.2.2
    refine ⟨uc, ?_, ⟨fun i l hi => by rw [Fr_I F rfl, Fr_I F rfl]; exact l1 i l hi, fun i hi => by rw [Fr_I F rfl]; exact l2 i hi, RWl_eq _ _ (fun i _ _ => Fr_I F rfl) l3, ⟨by rw [Fr_I F rfl]; exact l4.1, RWl_eq _ _ (fun i _ _ => Fr_I F rfl) l4.2.1, l4.2.2⟩, l5⟩, by rw [← huc]; exact I_uI1 _ _ _ _ (by omega) (by omega), ?_, ?_, ⟨fun i hi => ?_, fun i hi => ?_, fun i _ => Fr_I F rfl, fun i _ => ⟨Fr_I F rfl, Fr_I F rfl⟩, fun i _ => Fr_I F rfl⟩, Fr_up2 (fun k i hk => by simp at hk; simp [Pdv]; omega) F⟩
    · have sx : fX10_deliverKept_L0 (F1 + 1) 0 (zI K.length) (zI C) (zI ((f + K.length : Nat) : Int)) (zI b) (zI ((b + cl K : Nat) : Int)) (zI K.length) 0 0 0 u = fX10_deliverKept_L0_0 (fX10_deliverKept_L0 F1) (zI K.length) (zI C) (zI ((f + K.length : Nat) : Int)) (zI b) (zI ((b + cl K : Nat) : Int)) (zI K.length) u := rfl
      rw [sx]
      unfold fX10_deliverKept_L0_0
      rw [if_pos (by rw [z_le (by omega) (by omega) (by omega) (by omega)]; omega), gI_z u 6 14, l4.1, st_z _ _ _ _ _ (by omega) (by omega), bd_s, Int.toNat_natCast, hua, show (zI (C : Int) + 1 : Int32) = zI ((C + 1 : Nat) : Int) by rw [show (1 : Int32) = zI 1 from rfl, z_add]; rfl, st_z _ _ _ _ _ (by omega) (by omega), bd_s, Int.toNat_natCast, hub, gI_z ub 2 5, Fr_I Fb rfl, Fr_I Fa rfl, h25, show (zI (C : Int) + 1 : Int32) = zI ((C + 1 : Nat) : Int) by rw [show (1 : Int32) = zI 1 from rfl, z_add]; rfl, lt_e, huc]
    · rw [Fr_I Fc rfl, Fr_I Fb rfl, ← hua]; exact I_uI1 _ _ _ _ (by omega) (by omega)
    · rw [Fr_I Fc rfl, ← hub]; exact I_uI1 _ _ _ _ (by omega) (by omega)
    · rw [Fr_I Fc rfl, ← hub, I_uI2 _ _ _ _ _ _ (by omega), Fr_I Fa rfl]
    · rw [Fr_I Fc rfl, Fr_I Fb rfl, ← hua, I_uI2 _ _ _ _ _ _ (by omega)]
  | cons l r ih =>
    intro Kd F u hKd hF h25 hKP hne hL
    simp only [List.length_cons] at hF
    obtain ⟨F1, rfl⟩ : ∃ F1, F = F1 + 1 := ⟨F - 1, by omega⟩
    have hlen : K.length = Kd.length + (r.length + 1) := by rw [hKd]; simp
    have hget : K[Kd.length]? = some l := by rw [hKd, List.getElem?_append_right (Nat.le_refl _), Nat.sub_self]; rfl
    obtain ⟨m, m1, m2⟩ := hKP _ _ hget
    have hm2 := m2
    obtain ⟨n1, n2, n3, p, n4, n5, n6, n7⟩ := m2
    have hLL := hL
    obtain ⟨l1, l2, l3, l4, l5⟩ := hL
    have sx : fX10_deliverKept_L0 (F1 + 1) 0 (zI K.length) (zI C) (zI ((f + Kd.length : Nat) : Int)) (zI b) (zI ((b + cl Kd : Nat) : Int)) (zI Kd.length) 0 0 0 u = fX10_deliverKept_L0 F1 1 (zI K.length) (zI C) (zI ((f + Kd.length : Nat) : Int)) (zI b) (zI ((b + cl Kd : Nat) : Int)) (zI Kd.length) (zI p) 0 0 u := by
      have sy : fX10_deliverKept_L0 (F1 + 1) 0 (zI K.length) (zI C) (zI ((f + Kd.length : Nat) : Int)) (zI b) (zI ((b + cl Kd : Nat) : Int)) (zI Kd.length) 0 0 0 u = fX10_deliverKept_L0_0 (fX10_deliverKept_L0 F1) (zI K.length) (zI C) (zI ((f + Kd.length : Nat) : Int)) (zI b) (zI ((b + cl Kd : Nat) : Int)) (zI Kd.length) u := rfl
      rw [sy]
      unfold fX10_deliverKept_L0_0
      rw [if_neg (by rw [z_le (by omega) (by omega) (by omega) (by omega)]; omega), ld_z _ _ _ _ (by omega) (by omega), bd_s, Int.toNat_natCast, m1, ld_z _ _ _ _ (by omega) (by omega), bd_s, Int.toNat_natCast, n4]
    obtain ⟨F2, hF2⟩ : ∃ F2, F1 = F2 + 1 + 3 * l.2.length := ⟨F1 - 1 - 3 * l.2.length, by omega⟩
    have hclK : cl K = cl Kd + (l.2.length + cl r) := by rw [hKd, cl_app]; rfl
    have hflK : fl (Kd ++ [l]) = fl Kd ++ l.2 := by rw [fl_app]; simp [fl]
    have hsnK : sns [] (fl K) = sns (sns (sns [] (fl Kd)) l.2) (fl r) := by rw [hKd, fl_app, sns_app]; simp only [fl]; rw [sns_app]
    rw [sx, hF2]
    rcases dk_in (n := K.length) (C := C) (lt := f + Kd.length) (b := b) (i := Kd.length) (m := m) (pe := p + l.2.length) (by omega) (by omega) (by omega) hb l.2 (sns [] (fl Kd)) (b + cl Kd) p (F2 + 1) u m1 n5 n7 rfl l4 (by omega) (by omega) with ⟨k1, u1, k2, k3, k4, k5, k6⟩ | ⟨k1, u1, k2, k3, k4⟩
    · rw [k2]
      -- the literal ends
      obtain ⟨ua, hua⟩ : ∃ ua, uI u1 30 (f + Kd.length) (zI l.1) = ua := ⟨_, rfl⟩
      have Fa : Fr (fun k _ => k == 30) u1 ua := by rw [← hua]; exact Fr_up rfl (Fr_rfl _ _)
      obtain ⟨ub, hub⟩ : ∃ ub, uI ua 31 (f + Kd.length) (zI C) = ub := ⟨_, rfl⟩
      have Fb : Fr (fun k _ => k == 31) ua ub := by rw [← hub]; exact Fr_up rfl (Fr_rfl _ _)
      obtain ⟨uc, huc⟩ : ∃ uc, uI ub 29 (f + Kd.length + 1) (zI ((b + cl Kd + l.2.length : Nat) : Int)) = uc := ⟨_, rfl⟩
      have Fc : Fr (fun k _ => k == 29) ub uc := by rw [← huc]; exact Fr_up rfl (Fr_rfl _ _)
      have Fac : Fr (fun k i => k == 30 || k == 31 || k == 29) u1 uc := Fr_tr (Fr_up2 (fun k i hk => by simp at hk; simp [hk]) Fa) (Fr_tr (Fr_up2 (fun k i hk => by simp at hk; simp [hk]) Fb) (Fr_up2 (fun k i hk => by simp at hk; simp [hk]) Fc))
      have FF : Fr Pdv u uc := Fr_tr (Fr_up2 (fun k i hk => by simp [Pdk] at hk; simp [Pdv]; omega) k6) (Fr_up2 (fun k i hk => by simp at hk; simp [Pdv]; omega) Fac)
      have FN : Fr (fun k i => k == 29 || k == 30 || k == 31 || k == 32 || k == 56 || (k == 6 && i == 14)) u uc := Fr_tr (Fr_up2 (fun k i hk => by simp [Pdk] at hk; simp; omega) k6) (Fr_up2 (fun k i hk => by simp at hk; simp; omega) Fac)
      have hst : fX10_deliverKept_L0 (F2 + 1) 1 (zI K.length) (zI C) (zI ((f + Kd.length : Nat) : Int)) (zI b) (zI ((b + cl Kd + l.2.length : Nat) : Int)) (zI Kd.length) (zI ((p + l.2.length : Nat) : Int)) 0 0 u1 = fX10_deliverKept_L0 F2 0 (zI K.length) (zI C) (zI ((f + Kd.length + 1 : Nat) : Int)) (zI b) (zI ((b + cl Kd + l.2.length : Nat) : Int)) (zI ((Kd.length + 1 : Nat) : Int)) 0 0 0 uc := by
        have sy : fX10_deliverKept_L0 (F2 + 1) 1 (zI K.length) (zI C) (zI ((f + Kd.length : Nat) : Int)) (zI b) (zI ((b + cl Kd + l.2.length : Nat) : Int)) (zI Kd.length) (zI ((p + l.2.length : Nat) : Int)) 0 0 u1 = fX10_deliverKept_L0_1 (fX10_deliverKept_L0 F2) (zI K.length) (zI C) (zI ((f + Kd.length : Nat) : Int)) (zI b) (zI ((b + cl Kd + l.2.length : Nat) : Int)) (zI Kd.length) (zI ((p + l.2.length : Nat) : Int)) u1 := rfl
        rw [sy]
        unfold fX10_deliverKept_L0_1
        rw [ld_z _ _ _ _ (by omega) (by omega), bd_s, Int.toNat_natCast, Fr_I k6 rfl, m1, show (zI (m : Int) + 1 : Int32) = zI ((m + 1 : Nat) : Int) by rw [show (1 : Int32) = zI 1 from rfl, z_add]; rfl, ld_z _ _ _ _ (by omega) (by omega), bd_s, Int.toNat_natCast, Fr_I k6 rfl, n5, if_pos (by rw [z_le (by omega) (by omega) (by omega) (by omega)]; omega), bd_s, ld_z _ _ _ _ (by omega) (by omega), bd_s, Int.toNat_natCast, Fr_I k6 rfl, n3, zb_z n2, bd_s, st_z _ _ _ _ _ (by omega) (by omega), bd_s, Int.toNat_natCast, hua, st_z _ _ _ _ _ (by omega) (by omega), bd_s, Int.toNat_natCast, hub, lt_e, show (zI ((f + Kd.length : Nat) : Int) + 1 : Int32) = zI ((f + Kd.length + 1 : Nat) : Int) by rw [show (1 : Int32) = zI 1 from rfl, z_add]; rfl, st_z _ _ _ _ _ (by omega) (by omega), bd_s, Int.toNat_natCast, huc, lt_e, show (zI (Kd.length : Int) + 1 : Int32) = zI ((Kd.length + 1 : Nat) : Int) by rw [show (1 : Int32) = zI 1 from rfl, z_add]; rfl]
      have hl1 : (Kd ++ [l]).length = Kd.length + 1 := by simp
      have hc1 : cl (Kd ++ [l]) = cl Kd + l.2.length := by rw [cl_app]; simp [cl]
      have g30 : ∀ i, I uc 30 i = if i = f + Kd.length then l.1 else I u 30 i := by
        intro i
        rw [Fr_I Fc rfl, Fr_I Fb rfl, ← hua, I_uI _ _ _ _ (by omega) (by omega)]
        by_cases hi : i = f + Kd.length
        · rw [if_pos ⟨rfl, hi⟩, if_pos hi]
        · rw [if_neg (fun hh => hi hh.2), if_neg hi, Fr_I k6 rfl]
      have g31 : ∀ i, I uc 31 i = if i = f + Kd.length then (C : Int) else I u 31 i := by
        intro i
        rw [Fr_I Fc rfl, ← hub, I_uI _ _ _ _ (by omega) (by omega)]
        by_cases hi : i = f + Kd.length
        · rw [if_pos ⟨rfl, hi⟩, if_pos hi]
        · rw [if_neg (fun hh => hi hh.2), if_neg hi, Fr_I Fa rfl, Fr_I k6 rfl]
      have g29 : ∀ i, I uc 29 i = if i = f + Kd.length + 1 then ((b + cl Kd + l.2.length : Nat) : Int) else I u 29 i := by
        intro i
        rw [← huc, I_uI _ _ _ _ (by omega) (by omega)]
        by_cases hi : i = f + Kd.length + 1
        · rw [if_pos ⟨rfl, hi⟩, if_pos hi]
        · rw [if_neg (fun hh => hi hh.2), if_neg hi, Fr_I Fb rfl, Fr_I Fa rfl, Fr_I k6 rfl]
      have hLD : LDc uc C f b (Kd ++ [l]) := by
        refine ⟨fun i a hi => ?_, fun i hi => ?_, ?_, ?_, by omega⟩
        · have hil := get_lt hi
          rw [hl1] at hil
          by_cases hid : i < Kd.length
          · rw [List.getElem?_append_left hid] at hi
            rw [g30, g31, if_neg (by omega), if_neg (by omega)]; exact l1 i a hi
          · have : i = Kd.length := by omega
            subst this
            rw [List.getElem?_append_right (Nat.le_refl _), Nat.sub_self] at hi
            have : l = a := by simpa using hi
            subst this
            rw [g30, g31, if_pos rfl, if_pos rfl]; exact ⟨rfl, rfl⟩
        · rw [hl1] at hi
          by_cases hid : i ≤ Kd.length
          · rw [g29, if_neg (by omega), List.take_append_of_le_length hid]; exact l2 i hid
          · have : i = Kd.length + 1 := by omega
            subst this
            rw [g29, if_pos (by omega), List.take_of_length_le (by rw [hl1]; omega), hc1, Nat.add_assoc]
        · rw [hflK, rnc_app]
          refine RWl_app _ _ _ (RWl_eq _ _ (fun i _ hi => ?_) l3) ?_
          · rw [rnc_len, fl_len] at hi
            rw [Fr_I Fac rfl, k5 i (by omega)]
          · rw [rnc_len, fl_len]
            exact RWl_eq _ _ (fun i _ _ => Fr_I Fac rfl) k3
        · rw [hflK, sns_app]
          exact ⟨by rw [Fr_I Fac rfl]; exact k4.1, RWl_eq _ _ (fun i _ _ => Fr_I Fac rfl) k4.2.1, k4.2.2⟩
      have hKP' : KPc uc NL CT K := by
        intro j a ha
        obtain ⟨m', x1, x2⟩ := hKP j a ha
        exact ⟨m', by rw [Fr_I FN rfl]; exact x1, LTm_fr FN (fun k i hk => by simp; omega) x2⟩
      have hSTk : STk u uc C f b := ⟨fun i _ => Fr_I FN rfl, fun i _ => Fr_I FN rfl, fun i hi => by rw [g29, if_neg (by omega)], fun i hi => ⟨by rw [g30, if_neg (by omega)], by rw [g31, if_neg (by omega)]⟩, fun i hi => by rw [Fr_I Fac rfl, k5 i (by omega)]⟩
      have key := ih (Kd ++ [l]) F2 uc (by rw [hKd]; simp) (by omega) (by rw [Fr_I FN rfl]; exact h25) hKP' (fun a ha => hne a (List.mem_cons_of_mem _ ha)) hLD
      rw [hl1, hc1, ← Nat.add_assoc, ← Nat.add_assoc] at key
      rw [hst]
      rcases key with ⟨q1, q2, u', q3, q4, q5, q6, q7, q8, q9⟩ | ⟨q1, u', q2, q3, q4⟩
      · exact Or.inl ⟨q1, q2, u', q3, q4, q5, q6, q7, STk_tr (Nat.le_refl _) (Nat.le_refl _) (Nat.le_refl _) hSTk q8, Fr_tr FF q9⟩
      · exact Or.inr ⟨q1, u', q2, STk_tr (Nat.le_refl _) (Nat.le_refl _) (Nat.le_refl _) hSTk q3, Fr_tr FF q4⟩
    · right
      refine ⟨?_, u1, k2, ⟨fun i _ => Fr_I k4 rfl, fun i _ => Fr_I k4 rfl, fun i _ => Fr_I k4 rfl, fun i _ => ⟨Fr_I k4 rfl, Fr_I k4 rfl⟩, fun i hi => k3 i (by omega)⟩, Fr_up2 (fun k i hk => by simp [Pdk] at hk; simp [Pdv]; omega) k4⟩
      rcases k1 with k1 | k1
      · left; omega
      · right
        have := sns_len (fl r) (sns (sns [] (fl Kd)) l.2)
        rw [hsnK]; omega
theorem dk_spec {u : St} {NL CT C f b : Nat} {K : List Lt} (hN : NL ≤ 600) (hCT : CT ≤ 18000) (hC : C < 100) (hf : f ≤ 1188) (hb : b ≤ 19800) (hK : K.length ≤ 12) (hne : ∀ l, l ∈ K → 1 ≤ l.2.length) (h25 : I u 2 5 = C) (h18 : I u 18 C = f) (h29 : I u 29 f = b) (hKP : KPc u NL CT K) : (cl K ≤ 200 ∧ (sns [] (fl K)).length ≤ 10 ∧ ∃ u', fX10_deliverKept (zI K.length) u = some (1, u') ∧ LDc u' C f b K ∧ I u' 2 5 = ((C + 1 : Nat) : Int) ∧ I u' 19 C = (sns [] (fl K)).length ∧ I u' 18 (C + 1) = ((f + K.length : Nat) : Int) ∧ STk u u' C f b ∧ Fr Pdv u u') ∨ ((200 < cl K ∨ 10 < (sns [] (fl K)).length) ∧ ∃ u', fX10_deliverKept (zI K.length) u = some (0, u') ∧ STk u u' C f b ∧ Fr Pdv u u') := by
  obtain ⟨ua, hua⟩ : ∃ ua, uI u 6 14 (zI 0) = ua := ⟨_, rfl⟩
  have Fa : Fr (fun k i => k == 6 && i == 14) u ua := by rw [← hua]; exact Fr_up rfl (Fr_rfl _ _)
  have hst : fX10_deliverKept (zI K.length) u = fX10_deliverKept_L0 FU 0 (zI K.length) (zI C) (zI f) (zI b) (zI b) (zI (0 : Nat)) 0 0 0 ua := by
    unfold fX10_deliverKept
    rw [lt_e, gI_z u 2 5, h25, ld_z _ _ _ _ (by omega) (by omega), bd_s, Int.toNat_natCast, h18, ld_z _ _ _ _ (by omega) (by omega), bd_s, Int.toNat_natCast, h29, show (0 : Int32) = zI 0 from rfl, lt_e, hua, lt_e]
    rfl
  have hLD : LDc ua C f b [] := by
    refine ⟨fun i l h => by simp at h, fun i hi => ?_, trivial, ⟨by rw [← hua]; exact I_uI1 _ _ _ _ (by decide) (by decide), trivial, by simp [sns, fl]⟩, by simp [cl]⟩
    have : i = 0 := by simpa using hi
    subst this
    rw [Fr_I Fa rfl]; simpa [cl] using h29
  have hKP' : KPc ua NL CT K := by
    intro j a ha
    obtain ⟨m', x1, x2⟩ := hKP j a ha
    exact ⟨m', by rw [Fr_I Fa rfl]; exact x1, LTm_fr Fa (fun k i hk => by simp; omega) x2⟩
  have key := dk_out hN hCT hC hf hb hK K [] FU ua (by simp) (by unfold FU; omega) (by rw [Fr_I Fa rfl]; exact h25) hKP' hne hLD
  have hS : STk u ua C f b := STk_fr C f b Fa (fun k i hk => by simp; omega)
  have hF : Fr Pdv u ua := Fr_up2 (fun k i hk => by simp at hk; simp [Pdv]; omega) Fa
  rw [hst]
  rcases key with ⟨q1, q2, u', q3, q4, q5, q6, q7, q8, q9⟩ | ⟨q1, u', q2, q3, q4⟩
  · exact Or.inl ⟨q1, q2, u', q3, q4, q5, q6, q7, STk_tr (Nat.le_refl _) (Nat.le_refl _) (Nat.le_refl _) hS q8, Fr_tr hF q9⟩
  · exact Or.inr ⟨q1, u', q2, STk_tr (Nat.le_refl _) (Nat.le_refl _) (Nat.le_refl _) hS q3, Fr_tr hF q4⟩
