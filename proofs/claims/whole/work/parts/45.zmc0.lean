/-! reading: literals are kept once, in the class -/
theorem sa_loop {u : St} {p q n : Nat} (hp : p + n ≤ 18000) (hq : q + n ≤ 18000) (x : List Int) : ∀ (y : List Int) (i Fu : Nat), x.length = y.length → i + x.length = n → RWl u 48 (p + i) x → RWl u 48 (q + i) y → fX10_sameAtom_L0 (Fu + (x.length + 1)) 0 (zI p) (zI q) (zI n) (zI i) u = some (zI (if x = y then 1 else 0), u) := by
  induction x with
  | nil =>
    intro y i Fu hl hi _ _
    have : y = [] := List.length_eq_zero_iff.1 hl.symm
    subst this
    have sx : fX10_sameAtom_L0 (Fu + (([] : List Int).length + 1)) 0 (zI p) (zI q) (zI n) (zI i) u = fX10_sameAtom_L0_0 (fX10_sameAtom_L0 Fu) (zI p) (zI q) (zI n) (zI i) u := rfl
    simp only [List.length_nil] at hi
    rw [sx]
    unfold fX10_sameAtom_L0_0
    rw [if_pos (by rw [z_le (by omega) (by omega) (by omega) (by omega)]; omega), if_pos rfl]; rfl
  | cons a x ih =>
    intro y i Fu hl hi hx hy
    cases y with
    | nil => simp at hl
    | cons b y =>
      simp only [List.length_cons] at hl hi
      have sx : fX10_sameAtom_L0 (Fu + ((a :: x).length + 1)) 0 (zI p) (zI q) (zI n) (zI i) u = fX10_sameAtom_L0_0 (fX10_sameAtom_L0 (Fu + (x.length + 1))) (zI p) (zI q) (zI n) (zI i) u := rfl
      have a1 := I_lo u 48 (p + i)
      have a2 := I_hi u 48 (p + i)
      have b1 := I_lo u 48 (q + i)
      have b2 := I_hi u 48 (q + i)
      rw [hx.1] at a1 a2
      rw [hy.1] at b1 b2
      rw [sx]
      unfold fX10_sameAtom_L0_0
      rw [if_neg (by rw [z_le (by omega) (by omega) (by omega) (by omega)]; omega), z_add, z_add, ld_z _ _ _ _ (by omega) (by omega), bd_s, ld_z _ _ _ _ (by omega) (by omega), bd_s, show ((p : Int) + (i : Int)).toNat = p + i by omega, show ((q : Int) + (i : Int)).toNat = q + i by omega, hx.1, hy.1]
      by_cases hab : a = b
      · rw [if_pos (by rw [hab]), lt_e, show (1 : Int32) = zI 1 from rfl, z_add]
        have := ih y (i + 1) Fu (by omega) (by omega) hx.2 hy.2
        rw [show (i : Int) + 1 = ((i + 1 : Nat) : Int) by omega, this]
        subst hab
        by_cases hxy : x = y
        · rw [if_pos hxy, if_pos (by rw [hxy])]
        · rw [if_neg hxy, if_neg (fun h => hxy (List.cons.inj h).2)]
      · rw [if_neg (by rw [z_eq a1 a2 b1 b2]; exact hab), if_neg (fun h => hab (List.cons.inj h).1)]; rfl
theorem sa_spec {u : St} {NL CT m m' : Nat} {l l' : Lt} (hN : NL ≤ 600) (hC : CT ≤ 18000) (h : LTm u NL CT m l) (h' : LTm u NL CT m' l') : fX10_sameAtom (zI m) (zI m') u = some (zI (if l.2 = l'.2 then 1 else 0), u) := by
  obtain ⟨a1, a2, a3, p, a4, a5, a6, a7⟩ := h
  obtain ⟨b1, b2, b3, q, b4, b5, b6, b7⟩ := h'
  unfold fX10_sameAtom
  rw [show (1 : Int32) = zI 1 from rfl, z_add, z_add, ld_z _ _ _ _ (by omega) (by omega), bd_s, ld_z _ _ _ _ (by omega) (by omega), bd_s, ld_z _ _ _ _ (by omega) (by omega), bd_s, lt_e, ld_z _ _ _ _ (by omega) (by omega), bd_s, show ((m : Int) + 1).toNat = m + 1 by omega, show ((m' : Int) + 1).toNat = m' + 1 by omega, Int.toNat_natCast, Int.toNat_natCast, a4, a5, b4, b5, z_sub, z_sub, show ((p + l.2.length : Nat) : Int) - (p : Int) = l.2.length by omega, show ((q + l'.2.length : Nat) : Int) - (q : Int) = l'.2.length by omega]
  by_cases hl : l.2.length = l'.2.length
  · rw [if_pos (by rw [hl]), lt_e, show FU = (FU - (l.2.length + 1)) + (l.2.length + 1) by unfold FU; omega]
    exact sa_loop (by omega) (by omega) l.2 l'.2 0 _ hl (by omega) a7 b7
  · rw [if_neg (by rw [z_eq (by omega) (by omega) (by omega) (by omega)]; omega), if_neg (fun h => hl (by rw [h]))]; rfl
def KPc (u : St) (NL CT : Nat) (K : List Lt) : Prop := ∀ (j : Nat) (l : Lt), K[j]? = some l → ∃ m : Nat, I u 55 j = m ∧ LTm u NL CT m l
theorem LTm_fr {P : Nat → Nat → Bool} {u u' : St} {NL CT m : Nat} {l : Lt} (hF : Fr P u u') (h1 : ∀ k i, (k = 48 ∨ k = 49 ∨ k = 50) → P k i = false) (h : LTm u NL CT m l) : LTm u' NL CT m l := by
  obtain ⟨a1, a2, a3, p, a4, a5, a6, a7⟩ := h
  exact ⟨a1, a2, by rw [Fr_I hF (h1 50 _ (by simp))]; exact a3, p, by rw [Fr_I hF (h1 49 _ (by simp))]; exact a4, by rw [Fr_I hF (h1 49 _ (by simp))]; exact a5, a6, RWl_eq _ _ (fun i _ _ => Fr_I hF (h1 48 i (by simp))) a7⟩
/-- a literal against those that are kept -/
theorem kp_in {u : St} {NL CT k q m : Nat} {K : List Lt} {l : Lt} (hN : NL ≤ 600) (hC : CT ≤ 18000) (hK : K.length < 12) (hq : q < 6000) (hKP : KPc u NL CT K) (hNA : NA K) (hm : I u 51 q = m) (hl : LTm u NL CT m l) (d : Nat) : ∀ (j F : Nat), j + d = K.length → d + 2 < F → (∀ i a, i < j → K[i]? = some a → a.2 ≠ l.2) → (opp K l ∧ fX10_keep_L0 F 1 (zI k) (zI K.length) (zI q) 1 (zI j) u = some (-1, u)) ∨ (¬ opp K l ∧ agn K l ∧ ∃ F', F ≤ F' + d + 2 ∧ fX10_keep_L0 F 1 (zI k) (zI K.length) (zI q) 1 (zI j) u = fX10_keep_L0 F' 2 (zI k) (zI K.length) (zI q) 0 0 u) ∨ (¬ opp K l ∧ ¬ agn K l ∧ ∃ F', F ≤ F' + d + 2 ∧ fX10_keep_L0 F 1 (zI k) (zI K.length) (zI q) 1 (zI j) u = fX10_keep_L0 F' 2 (zI k) (zI K.length) (zI q) 1 0 u) := by
  induction d with
  | zero =>
    intro j F hj hF hno
    obtain ⟨F1, rfl⟩ : ∃ F1, F = F1 + 1 := ⟨F - 1, by omega⟩
    have hnone : ∀ a, a ∈ K → a.2 ≠ l.2 := fun a ha => by
      obtain ⟨i, hi⟩ := List.mem_iff_getElem?.1 ha
      exact hno i a (by have := get_lt hi; omega) hi
    refine Or.inr (Or.inr ⟨fun ⟨a, h1, h2, _⟩ => hnone a h1 h2, fun ⟨a, h1, h2, _⟩ => hnone a h1 h2, F1, by omega, ?_⟩)
    have sx : fX10_keep_L0 (F1 + 1) 1 (zI k) (zI K.length) (zI q) 1 (zI j) u = fX10_keep_L0_1 (fX10_keep_L0 F1) (zI k) (zI K.length) (zI q) 1 (zI j) u := rfl
    rw [sx]
    unfold fX10_keep_L0_1
    rw [if_pos (by rw [z_le (by omega) (by omega) (by omega) (by omega)]; omega)]
  | succ d ih =>
    intro j F hj hF hno
    obtain ⟨F1, rfl⟩ : ∃ F1, F = F1 + 1 := ⟨F - 1, by omega⟩
    have hjl : j < K.length := by omega
    obtain ⟨a, ha⟩ : ∃ a, K[j]? = some a := ⟨K[j], List.getElem?_eq_getElem hjl⟩
    obtain ⟨ma, b1, b2⟩ := hKP j a ha
    have hml := hl.1
    have hmal := b2.1
    have sx : fX10_keep_L0 (F1 + 1) 1 (zI k) (zI K.length) (zI q) 1 (zI j) u = fX10_keep_L0_1 (fX10_keep_L0 F1) (zI k) (zI K.length) (zI q) 1 (zI j) u := rfl
    have hsa := sa_spec hN hC hl b2
    have pre : fX10_keep_L0_1 (fX10_keep_L0 F1) (zI k) (zI K.length) (zI q) 1 (zI j) u = if zI (if l.2 = a.2 then 1 else 0) = 0 then fX10_keep_L0 F1 1 (zI k) (zI K.length) (zI q) 1 (zI ((j + 1 : Nat) : Int)) u else if zI l.1 = zI a.1 then fX10_keep_L0 F1 1 (zI k) (zI K.length) (zI q) 0 (zI ((j + 1 : Nat) : Int)) u else some (-1, u) := by
      unfold fX10_keep_L0_1
      rw [if_neg (by rw [z_le (by omega) (by omega) (by omega) (by omega)]; omega), if_neg (by decide), ld_z _ _ _ _ (by omega) (by omega), bd_s, Int.toNat_natCast, hm, ld_z _ _ _ _ (by omega) (by omega), bd_s, Int.toNat_natCast, b1, hsa, b2_s, show (zI (j : Int) + 1 : Int32) = zI ((j + 1 : Nat) : Int) by rw [show (1 : Int32) = zI 1 from rfl, z_add]; rfl, ld_z _ _ _ _ (by omega) (by omega), bd_s, Int.toNat_natCast, hm, ld_z _ _ _ _ (by omega) (by omega), bd_s, Int.toNat_natCast, hl.2.2.1, ld_z _ _ _ _ (by omega) (by omega), bd_s, Int.toNat_natCast, b1, ld_z _ _ _ _ (by omega) (by omega), bd_s, Int.toNat_natCast, b2.2.2.1]
      rfl
    by_cases hla : l.2 = a.2
    · have uniq : ∀ b, b ∈ K → b.2 = l.2 → b = a := fun b hb he => by
        obtain ⟨i, hi⟩ := List.mem_iff_getElem?.1 hb
        have := hNA i j b a hi ha (by rw [he, hla])
        subst this
        rw [ha] at hi; exact (Option.some.inj hi).symm
      have hamem : a ∈ K := List.mem_iff_getElem?.2 ⟨j, ha⟩
      rw [sx, pre, if_pos hla, if_neg (by decide)]
      by_cases hs : l.1 = a.1
      · right; left
        refine ⟨fun ⟨b, h1, h2, h3⟩ => h3 (by rw [uniq b h1 h2, hs]), ⟨a, hamem, hla.symm, hs.symm⟩, F1 - 1, by omega, ?_⟩
        rw [if_pos (by rw [hs])]
        obtain ⟨F2, rfl⟩ : ∃ F2, F1 = F2 + 1 := ⟨F1 - 1, by omega⟩
        have sy : fX10_keep_L0 (F2 + 1) 1 (zI k) (zI K.length) (zI q) 0 (zI ((j + 1 : Nat) : Int)) u = fX10_keep_L0_1 (fX10_keep_L0 F2) (zI k) (zI K.length) (zI q) 0 (zI ((j + 1 : Nat) : Int)) u := rfl
        rw [sy]
        unfold fX10_keep_L0_1
        rw [if_pos (show (0 : Int32) = 0 from rfl), ite_self]; rfl
      · left
        refine ⟨⟨a, hamem, hla.symm, fun h => hs h.symm⟩, ?_⟩
        rw [if_neg]
        have x1 := hl.2.1
        have x2 := b2.2.1
        rw [z_eq (by omega) (by omega) (by omega) (by omega)]; exact hs
    · rw [sx, pre, if_neg hla, if_pos (show zI 0 = 0 from rfl)]
      have := ih (j + 1) F1 (by omega) (by omega) (fun i b hi hb => by
        by_cases hij : i < j
        · exact hno i b hij hb
        · have : i = j := by omega
          subst this
          rw [ha] at hb
          have := Option.some.inj hb
          subst this; exact fun h => hla h.symm)
      rcases this with h | ⟨h1, h2, F', h3, h4⟩ | ⟨h1, h2, F', h3, h4⟩
      · exact Or.inl h
      · exact Or.inr (Or.inl ⟨h1, h2, F', by omega, h4⟩)
      · exact Or.inr (Or.inr ⟨h1, h2, F', by omega, h4⟩)
theorem kp_out {NL CT k : Nat} (hN : NL ≤ 600) (hC : CT ≤ 18000) (hk : k < 600) (r : List Lt) : ∀ (K : List Lt) (q F : Nat) (u : St), K.length + r.length ≤ 12 → 20 * r.length + 1 < F → q + r.length ≤ 6000 → I u 52 (k + 1) = ((q + r.length : Nat) : Int) → KPc u NL CT K → NA K → MB u NL CT q r → ∃ u', fX10_keep_L0 F 0 (zI k) (zI K.length) (zI q) 0 0 u = some (zI (if (krun (K, false) r).2 then -1 else ((krun (K, false) r).1.length : Int)), u') ∧ Fr (fun k _ => k == 55) u u' ∧ ((krun (K, false) r).2 = false → KPc u' NL CT (krun (K, false) r).1) := by
  induction r with
  | nil =>
    intro K q F u hK hF hq h52 hKP hNA hM
    obtain ⟨F1, rfl⟩ : ∃ F1, F = F1 + 1 := ⟨F - 1, by omega⟩
    simp only [List.length_nil, Nat.add_zero] at hK hq h52
    refine ⟨u, ?_, Fr_rfl _ _, fun _ => hKP⟩
    have sx : fX10_keep_L0 (F1 + 1) 0 (zI k) (zI K.length) (zI q) 0 0 u = fX10_keep_L0_0 (fX10_keep_L0 F1) (zI k) (zI K.length) (zI q) u := rfl
    rw [sx]
    unfold fX10_keep_L0_0
    rw [show (1 : Int32) = zI 1 from rfl, z_add, ld_z _ _ _ _ (by omega) (by omega), bd_s, show ((k : Int) + 1).toNat = k + 1 by omega, h52, if_pos (by rw [z_le (by omega) (by omega) (by omega) (by omega)]; omega)]
    rfl
  | cons l r ih =>
    intro K q F u hK hF hq h52 hKP hNA hM
    simp only [List.length_cons] at hK hF hq h52
    obtain ⟨F1, rfl⟩ : ∃ F1, F = F1 + 1 := ⟨F - 1, by omega⟩
    obtain ⟨⟨m, m1, m2⟩, m3⟩ := hM
    have hm600 := m2.1
    have sx : fX10_keep_L0 (F1 + 1) 0 (zI k) (zI K.length) (zI q) 0 0 u = fX10_keep_L0_0 (fX10_keep_L0 F1) (zI k) (zI K.length) (zI q) u := rfl
    have pre : fX10_keep_L0_0 (fX10_keep_L0 F1) (zI k) (zI K.length) (zI q) u = fX10_keep_L0 F1 1 (zI k) (zI K.length) (zI q) 1 (zI (0 : Nat)) u := by
      unfold fX10_keep_L0_0
      rw [show (zI (k : Int) + 1 : Int32) = zI ((k + 1 : Nat) : Int) by rw [show (1 : Int32) = zI 1 from rfl, z_add]; rfl, ld_z _ _ _ _ (by omega) (by omega), bd_s, Int.toNat_natCast, h52, if_neg (by rw [z_le (by omega) (by omega) (by omega) (by omega)]; omega)]
      rfl
    have eq1 : (zI (q : Int) + 1 : Int32) = zI ((q + 1 : Nat) : Int) := by rw [show (1 : Int32) = zI 1 from rfl, z_add]; rfl
    rw [sx, pre]
    rcases kp_in (k := k) hN hC (show K.length < 12 by omega) (show q < 6000 by omega) hKP hNA m1 m2 K.length 0 F1 (by omega) (by omega) (fun i a hi => by omega) with ⟨h1, h2⟩ | ⟨h1, h2, F', h3, h4⟩ | ⟨h1, h2, F', h3, h4⟩
    · have ht : (krun (K, false) (l :: r)).2 = true := krun_true r _ (by simp [kst, h1])
      refine ⟨u, by rw [h2, if_pos ht]; rfl, Fr_rfl _ _, fun h => by rw [ht] at h; cases h⟩
    · have hk1 : kst (K, false) l = (K, false) := by simp [kst, h1, h2]
      have hkr : krun (K, false) (l :: r) = krun (K, false) r := by simp only [krun, hk1]
      rw [hkr]
      obtain ⟨F2, rfl⟩ : ∃ F2, F' = F2 + 1 := ⟨F' - 1, by omega⟩
      have sy : fX10_keep_L0 (F2 + 1) 2 (zI k) (zI K.length) (zI q) 0 0 u = fX10_keep_L0_2 (fX10_keep_L0 F2) (zI k) (zI K.length) (zI q) 0 u := rfl
      have h5 : fX10_keep_L0_2 (fX10_keep_L0 F2) (zI k) (zI K.length) (zI q) 0 u = fX10_keep_L0 F2 0 (zI k) (zI K.length) (zI ((q + 1 : Nat) : Int)) 0 0 u := by
        unfold fX10_keep_L0_2
        rw [if_pos rfl, lt_e, eq1]
      rw [h4, sy, h5]
      exact ih K (q + 1) F2 u (by omega) (by omega) (by omega) (by rw [h52]; congr 1; omega) hKP hNA m3
    · have hk1 : kst (K, false) l = (K ++ [l], false) := by simp [kst, h1, h2]
      have hkr : krun (K, false) (l :: r) = krun (K ++ [l], false) r := by simp only [krun, hk1]
      rw [hkr]
      obtain ⟨F2, rfl⟩ : ∃ F2, F' = F2 + 1 := ⟨F' - 1, by omega⟩
      obtain ⟨ua, hua⟩ : ∃ ua, uI u 55 K.length (zI m) = ua := ⟨_, rfl⟩
      have Fa : Fr (fun k _ => k == 55) u ua := by rw [← hua]; exact Fr_up rfl (Fr_rfl _ _)
      have sy : fX10_keep_L0 (F2 + 1) 2 (zI k) (zI K.length) (zI q) 1 0 u = fX10_keep_L0_2 (fX10_keep_L0 F2) (zI k) (zI K.length) (zI q) 1 u := rfl
      have hlK : (K ++ [l]).length = K.length + 1 := by simp
      have h5 : fX10_keep_L0_2 (fX10_keep_L0 F2) (zI k) (zI K.length) (zI q) 1 u = fX10_keep_L0 F2 0 (zI k) (zI (K ++ [l]).length) (zI ((q + 1 : Nat) : Int)) 0 0 ua := by
        unfold fX10_keep_L0_2
        rw [if_neg (by decide), ld_z _ _ _ _ (by omega) (by omega), bd_s, Int.toNat_natCast, m1, st_z _ _ _ _ _ (by omega) (by omega), bd_s, Int.toNat_natCast, hua, lt_e, lt_e, eq1, show (zI (K.length : Int) + 1 : Int32) = zI ((K.length + 1 : Nat) : Int) by rw [show (1 : Int32) = zI 1 from rfl, z_add]; rfl, hlK]
      have hKP' : KPc ua NL CT (K ++ [l]) := by
        intro j a ha
        have hla := get_lt ha
        rw [hlK] at hla
        by_cases hj : j < K.length
        · rw [List.getElem?_append_left hj] at ha
          obtain ⟨m', b1, b2⟩ := hKP j a ha
          exact ⟨m', by rw [← hua, I_uI2 _ _ _ _ _ _ (by omega)]; exact b1, LTm_fr Fa (fun k i hk => by simp; omega) b2⟩
        · have : j = K.length := by omega
          subst this
          rw [List.getElem?_append_right (Nat.le_refl _), Nat.sub_self] at ha
          have : l = a := by simpa using ha
          subst this
          exact ⟨m, by rw [← hua]; exact I_uI1 _ _ _ _ (by omega) (by omega), LTm_fr Fa (fun k i hk => by simp; omega) m2⟩
      have hM' : ∀ (r : List Lt) (q : Nat), MB u NL CT q r → MB ua NL CT q r := by
        intro r
        induction r with
        | nil => intro q _; trivial
        | cons a r ih2 =>
          intro q h
          obtain ⟨⟨m', b1, b2⟩, b3⟩ := h
          exact ⟨⟨m', by rw [Fr_I Fa rfl]; exact b1, LTm_fr Fa (fun k i hk => by simp; omega) b2⟩, ih2 _ b3⟩
      obtain ⟨u', c1, c2, c3⟩ := ih (K ++ [l]) (q + 1) F2 ua (by rw [hlK]; omega) (by omega) (by omega) (by rw [Fr_I Fa rfl, h52]; congr 1; omega) hKP' (NA_add hNA h2 h1) (hM' r _ m3)
      exact ⟨u', by rw [h4, sy, h5]; exact c1, Fr_tr Fa c2, c3⟩
theorem keep_spec {u : St} {NL CT M k : Nat} {c : List Lt} (hN : NL ≤ 600) (hC : CT ≤ 18000) (hM : M ≤ 6000) (hk : k < 600) (hc : c.length ≤ 12) (h : CLm u NL CT M k c) : ∃ u', fX10_keep (zI k) u = some (zI (if (krun ([], false) c).2 then -1 else ((krun ([], false) c).1.length : Int)), u') ∧ Fr (fun k _ => k == 55) u u' ∧ ((krun ([], false) c).2 = false → KPc u' NL CT (krun ([], false) c).1) := by
  obtain ⟨q, a1, a2, a3, a4⟩ := h
  obtain ⟨u', b1, b2, b3⟩ := kp_out hN hC hk c [] q FU u (by simpa using hc) (by unfold FU; omega) (by omega) a2 (fun j l h => by simp at h) (fun i j l m h => by simp at h) a4
  refine ⟨u', ?_, b2, b3⟩
  unfold fX10_keep
  rw [lt_e, ld_z _ _ _ _ (by omega) (by omega), bd_s, Int.toNat_natCast, a1]
  exact b1
