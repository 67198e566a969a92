/-! reading: literals are kept once, in the reference -/
def LTr (u0 v : St) (S nb nf MD g : Nat) (l : Lt) : Prop := I v 130 g = 15 ∧ g < 6100 ∧ (l.1 = 0 ∨ l.1 = 1) ∧ I v 133 g = l.1 ∧ ∃ p : Nat, I v 131 g = p ∧ I v 132 g = ((p + l.2.length : Nat) : Int) ∧ p + l.2.length ≤ MD ∧ RWl v 134 p (l.2.map rcl) ∧ (∀ z, z ∈ l.2 → CVl u0 v S nb nf z) ∧ LG l.2
theorem LTr_of {u0 v : St} {S nb nf MD g : Nat} {G : List Cs} {l : Lt} (hT : TGs u0 v S nb nf MD G) (hg : g < 6100) (h130 : I v 130 g = 15) (hG : G[g]? = some [[l]]) : LTr u0 v S nb nf MD g l := by
  rcases hT g _ hG with ⟨a1, ng, lc, p, a2, a3, a4, a5, a6, a7, a8, a9, a10⟩ | ⟨b, a, c, y, z, a1, _⟩
  · have hl : l = (ng, lc) := by
      have := (List.cons.inj a2).1
      exact (List.cons.inj this).1
    subst hl
    exact ⟨a1, hg, a4, a3, p, a5, a6, a7, a8, a9, a10⟩
  · rw [h130] at a1
    cases b <;> simp at a1
theorem CVl_fr {P : Nat → Nat → Bool} {u0 v v' : St} {S nb nf : Nat} {z : Int} (hF : Fr P v v') (h : ∀ i, P 105 i = false) (hz : CVl u0 v S nb nf z) : CVl u0 v' S nb nf z := CVl_mono (fun i _ => Fr_I hF (h i)) (Nat.le_refl _) hz
theorem LTr_fr {P : Nat → Nat → Bool} {u0 v v' : St} {S nb nf MD g : Nat} {l : Lt} (hF : Fr P v v') (hP : ∀ k i, (k = 105 ∨ k = 130 ∨ k = 131 ∨ k = 132 ∨ k = 133 ∨ k = 134) → P k i = false) (h : LTr u0 v S nb nf MD g l) : LTr u0 v' S nb nf MD g l := by
  obtain ⟨a1, a2, a3, a4, p, a5, a6, a7, a8, a9, a10⟩ := h
  exact ⟨by rw [Fr_I hF (hP _ _ (by simp))]; exact a1, a2, a3, by rw [Fr_I hF (hP _ _ (by simp))]; exact a4, p, by rw [Fr_I hF (hP _ _ (by simp))]; exact a5, by rw [Fr_I hF (hP _ _ (by simp))]; exact a6, a7, RWl_eq _ _ (fun i _ _ => Fr_I hF (hP _ _ (by simp))) a8, fun z hz => CVl_fr hF (fun i => hP _ _ (by simp)) (a9 z hz), a10⟩
theorem rcl_inj {u0 v : St} {S nb nf : Nat} {z z' : Int} (hS : S ≤ 900) (h : CVl u0 v S nb nf z) (h' : CVl u0 v S nb nf z') (he : rcl z = rcl z') : z = z' := by
  unfold rcl at he
  rcases h with h | ⟨s, s1, s2, s3, s4⟩ | ⟨f, f1, f2, f3, f4, f5⟩
  · rw [if_pos h] at he
    rcases h' with h' | ⟨s', t1, t2, t3, t4⟩ | ⟨f', g1, g2, g3, g4, g5⟩
    · rw [if_pos h'] at he; exact he
    · rw [if_neg (by omega), if_pos (by omega)] at he; omega
    · rw [if_neg (by omega), if_neg (by omega)] at he; omega
  · rw [if_neg (by omega), if_pos (by omega)] at he
    rcases h' with h' | ⟨s', t1, t2, t3, t4⟩ | ⟨f', g1, g2, g3, g4, g5⟩
    · rw [if_pos h'] at he; omega
    · rw [if_neg (by omega), if_pos (by omega)] at he
      have : s = s' := by omega
      subst this; omega
    · rw [if_neg (by omega), if_neg (by omega)] at he; omega
  · rw [if_neg (by omega), if_neg (by omega)] at he
    rcases h' with h' | ⟨s', t1, t2, t3, t4⟩ | ⟨f', g1, g2, g3, g4, g5⟩
    · rw [if_pos h'] at he; omega
    · rw [if_neg (by omega), if_pos (by omega)] at he; omega
    · rw [if_neg (by omega), if_neg (by omega)] at he
      have : f = f' := by omega
      subst this; omega
theorem ia_zero (Fu : Nat) (g h : Nat) (i : Int32) (v : St) (hg : g < 6100) : fX12_isAtom_L0 (Fu + 1) 0 (zI g) (zI h) 0 i v = some (zI 0, v) := by
  have sx : fX12_isAtom_L0 (Fu + 1) 0 (zI g) (zI h) 0 i v = fX12_isAtom_L0_0 (fX12_isAtom_L0 Fu) (zI g) (zI h) 0 i v := rfl
  rw [sx]
  unfold fX12_isAtom_L0_0
  rw [ld_z _ _ _ _ (by omega) (by omega), bd_s, ld_z _ _ _ _ (by omega) (by omega), bd_s, if_pos (show (0 : Int32) = 0 from rfl), show (0 : Int32) = zI 0 from rfl, zb_z (Or.inl rfl), bd_s, ite_self]
theorem ia_loop {u0 v : St} {S nb nf g h p q n : Nat} (hS : S ≤ 900) (hg : g < 6100) (hh : h < 6100) (hp : p + n ≤ 24000) (hq : q + n ≤ 24000) (g131 : I v 131 g = p) (g132 : I v 132 g = ((p + n : Nat) : Int)) (h131 : I v 131 h = q) (x : List Int) : ∀ (y : List Int) (i Fu : Nat), x.length = y.length → i + x.length = n → (∀ z, z ∈ x → CVl u0 v S nb nf z) → (∀ z, z ∈ y → CVl u0 v S nb nf z) → RWl v 134 (p + i) (x.map rcl) → RWl v 134 (q + i) (y.map rcl) → fX12_isAtom_L0 (Fu + (x.length + 1)) 0 (zI g) (zI h) (zI 1) (zI i) v = some (zI (if x = y then 1 else 0), v) := by
  induction x with
  | nil =>
    intro y i Fu hl hi _ _ _ _
    have : y = [] := List.length_eq_zero_iff.1 hl.symm
    subst this
    simp only [List.length_nil] at hi
    have sx : fX12_isAtom_L0 (Fu + (([] : List Int).length + 1)) 0 (zI g) (zI h) (zI 1) (zI i) v = fX12_isAtom_L0_0 (fX12_isAtom_L0 Fu) (zI g) (zI h) (zI 1) (zI i) v := rfl
    rw [sx]
    unfold fX12_isAtom_L0_0
    rw [ld_z _ _ _ _ (by omega) (by omega), bd_s, ld_z _ _ _ _ (by omega) (by omega), bd_s, Int.toNat_natCast, g131, g132, z_sub, if_pos (by rw [z_le (by omega) (by omega) (by omega) (by omega)]; omega), zb_z (Or.inr rfl), bd_s, if_pos rfl]
  | cons a x ih =>
    intro y i Fu hl hi hx hy rx ry
    cases y with
    | nil => simp at hl
    | cons b y =>
      simp only [List.length_cons] at hl hi
      have ra := rx.1
      have rb := ry.1
      have a1 := I_lo v 134 (p + i)
      have a2 := I_hi v 134 (p + i)
      have b1 := I_lo v 134 (q + i)
      have b2 := I_hi v 134 (q + i)
      rw [ra] at a1 a2
      rw [rb] at b1 b2
      have sx : fX12_isAtom_L0 (Fu + ((a :: x).length + 1)) 0 (zI g) (zI h) (zI 1) (zI i) v = fX12_isAtom_L0_0 (fX12_isAtom_L0 (Fu + (x.length + 1))) (zI g) (zI h) (zI 1) (zI i) v := rfl
      have pre : fX12_isAtom_L0_0 (fX12_isAtom_L0 (Fu + (x.length + 1))) (zI g) (zI h) (zI 1) (zI i) v = if zI (rcl a) = zI (rcl b) then fX12_isAtom_L0 (Fu + (x.length + 1)) 0 (zI g) (zI h) (zI 1) (zI ((i + 1 : Nat) : Int)) v else fX12_isAtom_L0 (Fu + (x.length + 1)) 0 (zI g) (zI h) 0 (zI ((i + 1 : Nat) : Int)) v := by
        unfold fX12_isAtom_L0_0
        rw [ld_z _ _ _ _ (by omega) (by omega), bd_s, ld_z _ _ _ _ (by omega) (by omega), bd_s, bd_s, Int.toNat_natCast, g131, g132, z_sub, if_neg (by rw [z_le (by omega) (by omega) (by omega) (by omega)]; omega), if_neg (by decide), z_add, ld_z _ _ _ _ (by omega) (by omega), bd_s, ld_z _ _ _ _ (by omega) (by omega), bd_s, Int.toNat_natCast, h131, z_add, ld_z _ _ _ _ (by omega) (by omega), bd_s, show ((p : Int) + (i : Int)).toNat = p + i by omega, show ((q : Int) + (i : Int)).toNat = q + i by omega, ra, rb, show (zI (i : Int) + 1 : Int32) = zI ((i + 1 : Nat) : Int) by rw [show (1 : Int32) = zI 1 from rfl, z_add]; rfl]
        rfl
      rw [sx, pre]
      by_cases hab : a = b
      · subst hab
        rw [if_pos rfl, ih y (i + 1) Fu (by omega) (by omega) (fun z hz => hx z (List.mem_cons_of_mem _ hz)) (fun z hz => hy z (List.mem_cons_of_mem _ hz)) rx.2 ry.2]
        by_cases hxy : x = y
        · rw [if_pos hxy, if_pos (by rw [hxy])]
        · rw [if_neg hxy, if_neg (fun hh => hxy (List.cons.inj hh).2)]
      · rw [if_neg (by rw [z_eq a1 a2 b1 b2]; exact fun he => hab (rcl_inj hS (hx a (by simp)) (hy b (by simp)) he)), if_neg (fun hh => hab (List.cons.inj hh).1)]
        exact ia_zero (Fu + x.length) g h _ v hg
theorem ia_spec {u0 v : St} {S nb nf MD g h : Nat} {l m : Lt} (hS : S ≤ 900) (hM : MD ≤ 24000) (hl : LTr u0 v S nb nf MD g l) (hm : LTr u0 v S nb nf MD h m) : fX12_isAtom (zI g) (zI h) v = some (zI (if l.2 = m.2 then 1 else 0), v) := by
  obtain ⟨a1, a2, a3, a4, p, a5, a6, a7, a8, a9, a10⟩ := hl
  obtain ⟨b1, b2, b3, b4, q, b5, b6, b7, b8, b9, b10⟩ := hm
  unfold fX12_isAtom
  rw [ld_z _ _ _ _ (by omega) (by omega), bd_s, ld_z _ _ _ _ (by omega) (by omega), bd_s, ld_z _ _ _ _ (by omega) (by omega), bd_s, ld_z _ _ _ _ (by omega) (by omega), bd_s, Int.toNat_natCast, Int.toNat_natCast, a5, a6, b5, b6, z_sub, z_sub, show ((p + l.2.length : Nat) : Int) - (p : Int) = l.2.length by omega, show ((q + m.2.length : Nat) : Int) - (q : Int) = m.2.length by omega]
  by_cases hlen : l.2.length = m.2.length
  · rw [if_pos (by rw [hlen]), lt_e, lt_e, show FU = (FU - (l.2.length + 1)) + (l.2.length + 1) by unfold FU; omega]
    exact ia_loop (n := l.2.length) hS a2 b2 (by omega) (by omega) a5 a6 b5 l.2 m.2 0 _ hlen (by omega) a9 b9 a8 b8
  · rw [if_neg (by rw [z_eq (by omega) (by omega) (by omega) (by omega)]; omega), if_neg (fun hh => hlen (by rw [hh])), lt_e, lt_e, show FU = 999999999 + 1 from rfl]
    exact ia_zero 999999999 g h 0 v a2
def KPr (u0 v : St) (S nb nf MD : Nat) (K : List Lt) : Prop := ∀ (j : Nat) (l : Lt), K[j]? = some l → ∃ g : Nat, I v 141 j = g ∧ LTr u0 v S nb nf MD g l
/-- a literal against those that are kept -/
theorem nk_in {u0 v : St} {S nb nf MD w k g : Nat} {K : List Lt} {l : Lt} (hS : S ≤ 900) (hM : MD ≤ 24000) (hK : K.length < 13) (hKP : KPr u0 v S nb nf MD K) (hl : LTr u0 v S nb nf MD g l) (d : Nat) : ∀ (j : Nat) (ag bo : Int) (Fu : Nat), j + d = K.length → (ag = 0 ∨ ag = 1) → (bo = 0 ∨ bo = 1) → ∃ ag' bo' : Int, (ag' = 0 ∨ ag' = 1) ∧ (bo' = 0 ∨ bo' = 1) ∧ (ag' = 1 ↔ ag = 1 ∨ ∃ i a, j ≤ i ∧ K[i]? = some a ∧ a.2 = l.2 ∧ a.1 = l.1) ∧ (bo' = 1 ↔ bo = 1 ∨ ∃ i a, j ≤ i ∧ K[i]? = some a ∧ a.2 = l.2 ∧ a.1 ≠ l.1) ∧ fX12_newClause_L3 (Fu + 1 + 2 * d) 1 (zI w) (zI K.length) (zI bo) (zI k) (zI g) (zI ag) (zI j) 0 0 v = fX12_newClause_L3 (Fu + 1) 1 (zI w) (zI K.length) (zI bo') (zI k) (zI g) (zI ag') (zI K.length) 0 0 v := by
  induction d with
  | zero =>
    intro j ag bo Fu hj ha hb
    have hnone : ∀ i, j ≤ i → K[i]? = none := fun i hi => List.getElem?_eq_none (by omega)
    refine ⟨ag, bo, ha, hb, ⟨fun h => Or.inl h, fun h => ?_⟩, ⟨fun h => Or.inl h, fun h => ?_⟩, ?_⟩
    · rcases h with h | ⟨i, a, h1, h2, _⟩
      · exact h
      · rw [hnone i h1] at h2; cases h2
    · rcases h with h | ⟨i, a, h1, h2, _⟩
      · exact h
      · rw [hnone i h1] at h2; cases h2
    · rw [show j = K.length by omega]
  | succ d ih =>
    intro j ag bo Fu hj ha hb
    have hjl : j < K.length := by omega
    obtain ⟨a, hka⟩ : ∃ a, K[j]? = some a := ⟨K[j], List.getElem?_eq_getElem hjl⟩
    obtain ⟨ga, c1, c2⟩ := hKP j a hka
    have hga := c2.2.1
    have hgl := hl.2.1
    have hia := ia_spec hS hM c2 hl
    obtain ⟨sm, hsm⟩ : ∃ sm : Int, (if a.2 = l.2 then (1 : Int) else 0) = sm := ⟨_, rfl⟩
    have hsm01 : sm = 0 ∨ sm = 1 := by rw [← hsm]; by_cases h : a.2 = l.2 <;> simp [h]
    have hsm1 : sm = 1 ↔ a.2 = l.2 := by rw [← hsm]; by_cases h : a.2 = l.2 <;> simp [h]
    rw [hsm] at hia
    have a01 := c2.2.2.1
    have l01 := hl.2.2.1
    have s1 : fX12_newClause_L3 (Fu + 1 + 2 * (d + 1)) 1 (zI w) (zI K.length) (zI bo) (zI k) (zI g) (zI ag) (zI j) 0 0 v = fX12_newClause_L3_1 (fX12_newClause_L3 (Fu + 1 + 2 * d + 1)) (zI w) (zI K.length) (zI bo) (zI k) (zI g) (zI ag) (zI j) v := rfl
    have s2 : ∀ s0, fX12_newClause_L3 (Fu + 1 + 2 * d + 1) 2 (zI w) (zI K.length) (zI bo) (zI k) (zI g) 0 (zI j) (zI sm) s0 v = fX12_newClause_L3_2 (fX12_newClause_L3 (Fu + 1 + 2 * d)) (zI w) (zI K.length) (zI bo) (zI k) (zI g) (zI j) (zI sm) s0 v := fun _ => rfl
    have ej : (zI (j : Int) + 1 : Int32) = zI ((j + 1 : Nat) : Int) := by rw [show (1 : Int32) = zI 1 from rfl, z_add]; rfl
    have hsgn : (zI a.1 = zI l.1) ↔ a.1 = l.1 := by rw [z_eq (by omega) (by omega) (by omega) (by omega)]
    obtain ⟨ag2, hag2⟩ : ∃ ag2 : Int, (if ag = 1 ∨ (sm = 1 ∧ a.1 = l.1) then (1 : Int) else 0) = ag2 := ⟨_, rfl⟩
    obtain ⟨bo2, hbo2⟩ : ∃ bo2 : Int, (if bo = 1 ∨ (sm = 1 ∧ a.1 ≠ l.1) then (1 : Int) else 0) = bo2 := ⟨_, rfl⟩
    have step1 : fX12_newClause_L3_1 (fX12_newClause_L3 (Fu + 1 + 2 * d + 1)) (zI w) (zI K.length) (zI bo) (zI k) (zI g) (zI ag) (zI j) v = fX12_newClause_L3 (Fu + 1 + 2 * d + 1) 2 (zI w) (zI K.length) (zI bo) (zI k) (zI g) 0 (zI j) (zI sm) (zI ag2) v := by
      unfold fX12_newClause_L3_1
      rw [if_neg (by rw [z_le (by omega) (by omega) (by omega) (by omega)]; omega), ld_z _ _ _ _ (by omega) (by omega), bd_s, Int.toNat_natCast, c1, hia, b2_s, ld_z _ _ _ _ (by omega) (by omega), bd_s, Int.toNat_natCast, c1, ld_z _ _ _ _ (by omega) (by omega), bd_s, ld_z _ _ _ _ (by omega) (by omega), bd_s, Int.toNat_natCast, Int.toNat_natCast, c2.2.2.2.1, hl.2.2.2.1]
      rcases ha with ha | ha <;> subst ha
      · rw [if_pos (show zI 0 = 0 from rfl)]
        rcases hsm01 with h | h <;> rw [h]
        · rw [if_pos (show zI 0 = 0 from rfl), ← hag2, if_neg (by rw [h]; omega)]; rfl
        · rw [if_neg (by decide)]
          by_cases hs : a.1 = l.1
          · rw [if_pos (hsgn.2 hs), ← hag2, if_pos (Or.inr ⟨h, hs⟩)]; rfl
          · rw [if_neg (fun hh => hs (hsgn.1 hh)), ← hag2, if_neg (by rintro (h2 | h2); omega; exact hs h2.2)]; rfl
      · rw [if_neg (by decide), ← hag2, if_pos (Or.inl rfl)]; rfl
    have step2 : fX12_newClause_L3_2 (fX12_newClause_L3 (Fu + 1 + 2 * d)) (zI w) (zI K.length) (zI bo) (zI k) (zI g) (zI j) (zI sm) (zI ag2) v = fX12_newClause_L3 (Fu + 1 + 2 * d) 1 (zI w) (zI K.length) (zI bo2) (zI k) (zI g) (zI ag2) (zI ((j + 1 : Nat) : Int)) 0 0 v := by
      unfold fX12_newClause_L3_2
      rw [ej, ld_z _ _ _ _ (by omega) (by omega), bd_s, Int.toNat_natCast, c1, ld_z _ _ _ _ (by omega) (by omega), bd_s, ld_z _ _ _ _ (by omega) (by omega), bd_s, Int.toNat_natCast, Int.toNat_natCast, c2.2.2.2.1, hl.2.2.2.1]
      rcases hb with hb | hb <;> subst hb
      · rw [if_pos (show zI 0 = 0 from rfl)]
        rcases hsm01 with h | h <;> rw [h]
        · rw [if_pos (show zI 0 = 0 from rfl), ← hbo2, if_neg (by rw [h]; omega)]; rfl
        · rw [if_neg (by decide)]
          by_cases hs : a.1 = l.1
          · rw [if_pos (hsgn.2 hs), ← hbo2, if_neg (by rintro (h2 | h2); omega; exact h2.2 hs)]; rfl
          · rw [if_neg (fun hh => hs (hsgn.1 hh)), ← hbo2, if_pos (Or.inr ⟨h, hs⟩)]; rfl
      · rw [if_neg (by decide), ← hbo2, if_pos (Or.inl rfl)]; rfl
    have hag01 : ag2 = 0 ∨ ag2 = 1 := by rw [← hag2]; by_cases h : ag = 1 ∨ (sm = 1 ∧ a.1 = l.1) <;> simp [h]
    have hbo01 : bo2 = 0 ∨ bo2 = 1 := by rw [← hbo2]; by_cases h : bo = 1 ∨ (sm = 1 ∧ a.1 ≠ l.1) <;> simp [h]
    have hag1 : ag2 = 1 ↔ ag = 1 ∨ (a.2 = l.2 ∧ a.1 = l.1) := by rw [← hag2, ← hsm1]; by_cases h : ag = 1 ∨ (sm = 1 ∧ a.1 = l.1) <;> simp [h]
    have hbo1 : bo2 = 1 ↔ bo = 1 ∨ (a.2 = l.2 ∧ a.1 ≠ l.1) := by
      rw [← hbo2, ← hsm1]
      by_cases h : bo = 1 ∨ (sm = 1 ∧ a.1 ≠ l.1)
      · rw [if_pos h]; exact ⟨fun _ => h, fun _ => rfl⟩
      · rw [if_neg h]; exact ⟨fun h2 => by omega, fun h2 => absurd h2 h⟩
    obtain ⟨ag', bo', q1, q2, q3, q4, q5⟩ := ih (j + 1) ag2 bo2 Fu (by omega) hag01 hbo01
    refine ⟨ag', bo', q1, q2, ?_, ?_, by rw [s1, step1, s2, step2, q5]⟩
    · rw [q3, hag1]
      constructor
      · rintro ((h | h) | ⟨i, b, h1, h2⟩)
        · exact Or.inl h
        · exact Or.inr ⟨j, a, Nat.le_refl _, hka, h⟩
        · exact Or.inr ⟨i, b, by omega, h2⟩
      · rintro (h | ⟨i, b, h1, h2, h3⟩)
        · exact Or.inl (Or.inl h)
        · by_cases hi : i = j
          · subst hi
            rw [hka] at h2
            have := Option.some.inj h2
            subst this
            exact Or.inl (Or.inr h3)
          · exact Or.inr ⟨i, b, by omega, h2, h3⟩
    · rw [q4, hbo1]
      constructor
      · rintro ((h | h) | ⟨i, b, h1, h2⟩)
        · exact Or.inl h
        · exact Or.inr ⟨j, a, Nat.le_refl _, hka, h⟩
        · exact Or.inr ⟨i, b, by omega, h2⟩
      · rintro (h | ⟨i, b, h1, h2, h3⟩)
        · exact Or.inl (Or.inl h)
        · by_cases hi : i = j
          · subst hi
            rw [hka] at h2
            have := Option.some.inj h2
            subst this
            exact Or.inl (Or.inr h3)
          · exact Or.inr ⟨i, b, by omega, h2, h3⟩
theorem nk_out {u0 : St} {S nb nf MD w q n : Nat} {G : List Cs} (hS : S ≤ 900) (hM : MD ≤ 24000) (hw : w < 600) (hq : q + n ≤ 6000) (r : List Lt) : ∀ (K : List Lt) (bo : Bool) (k F : Nat) (v : St), K.length + r.length ≤ 12 → 40 * r.length + 2 < F → k + r.length = n → I v 138 w = q → I v 139 w = n → TGs u0 v S nb nf MD G → KPr u0 v S nb nf MD K → MBr v G (q + k) r → ∃ v', fX12_newClause_L3 F 0 (zI w) (zI K.length) (zI (if bo then 1 else 0)) (zI k) 0 0 0 0 0 v = (if (krun (K, bo) r).2 then some v' else fX12_newClause_L2 FU 0 (zI (krun (K, bo) r).1.length) 0 0 v') ∧ KPr u0 v' S nb nf MD (krun (K, bo) r).1 ∧ Fr (fun k _ => k == 141) v v' := by
  induction r with
  | nil =>
    intro K bo k F v hK hF hk h138 h139 hT hKP _
    obtain ⟨F1, rfl⟩ : ∃ F1, F = F1 + 1 := ⟨F - 1, by omega⟩
    simp only [List.length_nil, Nat.add_zero] at hk
    refine ⟨v, ?_, hKP, Fr_rfl _ _⟩
    have sx : fX12_newClause_L3 (F1 + 1) 0 (zI w) (zI K.length) (zI (if bo then 1 else 0)) (zI k) 0 0 0 0 0 v = fX12_newClause_L3_0 (fX12_newClause_L3 F1) (zI w) (zI K.length) (zI (if bo then 1 else 0)) (zI k) v := rfl
    rw [sx]
    unfold fX12_newClause_L3_0
    rw [ld_z _ _ _ _ (by omega) (by omega), bd_s, Int.toNat_natCast, h139, if_pos (by rw [z_le (by omega) (by omega) (by omega) (by omega)]; omega)]
    cases bo with
    | true => rw [if_neg (by decide)]; rfl
    | false => rw [if_pos (by decide)]; rfl
  | cons l r ih =>
    intro K bo k F v hK hF hk h138 h139 hT hKP hMB
    simp only [List.length_cons] at hK hF hk
    obtain ⟨⟨g, m1, m2, m3, m4⟩, m5⟩ := hMB
    have hl := LTr_of hT m2 m3 m4
    obtain ⟨F1, rfl⟩ : ∃ F1, F = F1 + 1 := ⟨F - 1, by omega⟩
    obtain ⟨F2, rfl⟩ : ∃ F2, F1 = F2 + 1 + 2 * K.length := ⟨F1 - 1 - 2 * K.length, by omega⟩
    have sx : fX12_newClause_L3 (F2 + 1 + 2 * K.length + 1) 0 (zI w) (zI K.length) (zI (if bo then 1 else 0)) (zI k) 0 0 0 0 0 v = fX12_newClause_L3_0 (fX12_newClause_L3 (F2 + 1 + 2 * K.length)) (zI w) (zI K.length) (zI (if bo then 1 else 0)) (zI k) v := rfl
    have pre : fX12_newClause_L3_0 (fX12_newClause_L3 (F2 + 1 + 2 * K.length)) (zI w) (zI K.length) (zI (if bo then 1 else 0)) (zI k) v = fX12_newClause_L3 (F2 + 1 + 2 * K.length) 1 (zI w) (zI K.length) (zI (if bo then 1 else 0)) (zI k) (zI g) (zI 0) (zI (0 : Nat)) 0 0 v := by
      unfold fX12_newClause_L3_0
      rw [ld_z _ _ _ _ (by omega) (by omega), bd_s, Int.toNat_natCast, h139, if_neg (by rw [z_le (by omega) (by omega) (by omega) (by omega)]; omega), ld_z _ _ _ _ (by omega) (by omega), bd_s, Int.toNat_natCast, h138, z_add, ld_z _ _ _ _ (by omega) (by omega), bd_s, show ((q : Int) + (k : Int)).toNat = q + k by omega, m1]
      rfl
    obtain ⟨ag', bo', q1, q2, q3, q4, q5⟩ := nk_in (w := w) (k := k) hS hM (by omega) hKP hl K.length 0 0 (if bo then 1 else 0) F2 (by omega) (Or.inl rfl) (by cases bo <;> simp)
    have hag : ag' = 1 ↔ agn K l := by
      rw [q3]
      constructor
      · rintro (h | ⟨i, a, _, h2, h3⟩)
        · omega
        · exact ⟨a, List.mem_iff_getElem?.2 ⟨i, h2⟩, h3⟩
      · rintro ⟨a, h1, h2⟩
        obtain ⟨i, hi⟩ := List.mem_iff_getElem?.1 h1
        exact Or.inr ⟨i, a, Nat.zero_le _, hi, h2⟩
    have hbo : bo' = 1 ↔ (bo = true ∨ opp K l) := by
      rw [q4]
      constructor
      · rintro (h | ⟨i, a, _, h2, h3⟩)
        · left; cases bo with
          | true => rfl
          | false => simp at h
        · exact Or.inr ⟨a, List.mem_iff_getElem?.2 ⟨i, h2⟩, h3⟩
      · rintro (h | ⟨a, h1, h2⟩)
        · left; rw [h]; rfl
        · obtain ⟨i, hi⟩ := List.mem_iff_getElem?.1 h1
          exact Or.inr ⟨i, a, Nat.zero_le _, hi, h2⟩
    have hboz : bo' = if (bo || decide (opp K l)) then 1 else 0 := by
      by_cases h : bo = true ∨ opp K l
      · rw [hbo.2 h, if_pos (by simpa using h)]
      · rw [if_neg (by simpa using h)]
        rcases q2 with h2 | h2
        · exact h2
        · exact absurd (hbo.1 h2) h
    have ek : (zI (k : Int) + 1 : Int32) = zI ((k + 1 : Nat) : Int) := by rw [show (1 : Int32) = zI 1 from rfl, z_add]; rfl
    have s1 : fX12_newClause_L3 (F2 + 1) 1 (zI w) (zI K.length) (zI bo') (zI k) (zI g) (zI ag') (zI K.length) 0 0 v = fX12_newClause_L3_1 (fX12_newClause_L3 F2) (zI w) (zI K.length) (zI bo') (zI k) (zI g) (zI ag') (zI K.length) v := rfl
    rw [sx, pre, q5, s1]
    unfold fX12_newClause_L3_1
    rw [if_pos (by rw [z_le (by omega) (by omega) (by omega) (by omega)]; omega)]
    have hMB' : MBr v G (q + (k + 1)) r := by rw [← Nat.add_assoc]; exact m5
    by_cases hg : agn K l
    · have hks : kst (K, bo) l = (K, bo || decide (opp K l)) := by unfold kst; simp only [if_pos hg]
      have hkr : krun (K, bo) (l :: r) = krun (K, bo || decide (opp K l)) r := by simp only [krun, hks]
      rw [hkr, hag.2 hg, if_neg (by decide), lt_e, ek, hboz]
      exact ih K (bo || decide (opp K l)) (k + 1) F2 v (by omega) (by omega) (by omega) h138 h139 hT hKP hMB'
    · have hks : kst (K, bo) l = (K ++ [l], bo || decide (opp K l)) := by unfold kst; simp only [if_neg hg]
      have hkr : krun (K, bo) (l :: r) = krun (K ++ [l], bo || decide (opp K l)) r := by simp only [krun, hks]
      have hag0 : ag' = 0 := by rcases q1 with h | h; exact h; exact absurd (hag.1 h) hg
      obtain ⟨va, hva⟩ : ∃ va, uI v 141 K.length (zI g) = va := ⟨_, rfl⟩
      have Fa : Fr (fun k _ => k == 141) v va := by rw [← hva]; exact Fr_up rfl (Fr_rfl _ _)
      have hlK : (K ++ [l]).length = K.length + 1 := by simp
      rw [hkr, hag0, if_pos (show zI 0 = 0 from rfl), st_z _ _ _ _ _ (by omega) (by omega), bd_s, Int.toNat_natCast, hva, lt_e, lt_e, ek, hboz, show (zI (K.length : Int) + 1 : Int32) = zI ((K.length + 1 : Nat) : Int) by rw [show (1 : Int32) = zI 1 from rfl, z_add]; rfl, ← hlK]
      have hTa : TGs u0 va S nb nf MD G := TGs_fr Fa (fun k i hk => by simp; omega) hT
      have hKP' : KPr u0 va S nb nf MD (K ++ [l]) := by
        intro j a ha
        have hla := get_lt ha
        rw [hlK] at hla
        by_cases hj : j < K.length
        · rw [List.getElem?_append_left hj] at ha
          obtain ⟨g', b1, b2⟩ := hKP j a ha
          exact ⟨g', by rw [← hva, I_uI2 _ _ _ _ _ _ (by omega)]; exact b1, LTr_fr Fa (fun k i hk => by simp; omega) b2⟩
        · have : j = K.length := by omega
          subst this
          rw [List.getElem?_append_right (Nat.le_refl _), Nat.sub_self] at ha
          have : l = a := by simpa using ha
          subst this
          exact ⟨g, by rw [← hva]; exact I_uI1 _ _ _ _ (by omega) (by omega), LTr_fr Fa (fun k i hk => by simp; omega) hl⟩
      obtain ⟨v', c1, c2, c3⟩ := ih (K ++ [l]) (bo || decide (opp K l)) (k + 1) F2 va (by rw [hlK]; omega) (by omega) (by omega) (by rw [Fr_I Fa rfl]; exact h138) (by rw [Fr_I Fa rfl]; exact h139) hTa hKP' (MBr_mono (fun _ => Fr_I Fa rfl) r _ (fun i _ _ => Fr_I Fa rfl) hMB')
      exact ⟨v', c1, c2, Fr_tr Fa c3⟩
