/-! reading: the same formula on both sides -/
def PZ (u u' v v' : St) (S R NC NR : Nat) : Prop := SKp u u' v v' S ∧ (∀ i, i < R → I u' 37 i = I u 37 i ∧ I v' 118 i = I v 118 i) ∧ (∀ x, x < NC → J u' 38 x = J u 38 x) ∧ (∀ y, y < NR → J v' 119 y = J v 119 y)
theorem PX_PZ {u u' v v' : St} {S R NC NR m : Nat} (h : PX u u' v v' S R NC NR m) : PZ u u' v v' S R NC NR := ⟨h.1, h.2.1, h.2.2.1, h.2.2.2.1⟩
theorem PZ_rfl (u v : St) (S R NC NR : Nat) : PZ u u v v S R NC NR := ⟨SKp_rfl _ _ _, fun _ _ => ⟨rfl, rfl⟩, fun _ _ => rfl, fun _ _ => rfl⟩
theorem PZ_tr {u u' u'' v v' v'' : St} {S R NC NR S' R' NC' NR' : Nat} (hS : S ≤ S') (hR : R ≤ R') (hC : NC ≤ NC') (hN : NR ≤ NR') (h : PZ u u' v v' S R NC NR) (h' : PZ u' u'' v' v'' S' R' NC' NR') : PZ u u'' v v'' S R NC NR := by
  obtain ⟨a1, a2, a3, a4⟩ := h
  obtain ⟨b1, b2, b3, b4⟩ := h'
  exact ⟨SKp_tr hS a1 b1, fun i hi => ⟨((b2 i (by omega)).1).trans (a2 i hi).1, ((b2 i (by omega)).2).trans (a2 i hi).2⟩, fun x hx => (b3 x (by omega)).trans (a3 x hx), fun y hy => (b4 y (by omega)).trans (a4 y hy)⟩
theorem PZ_fr {P Q : Nat → Nat → Bool} {u u' v v' : St} {S R NC NR : Nat} (hu : Fr P u u') (hv : Fr Q v v') (h3 : ∀ k i, (k = 15 ∨ k = 16 ∨ k = 17 ∨ k = 37 ∨ k = 38) → P k i = false) (h4 : ∀ k i, (k = 102 ∨ k = 118 ∨ k = 119) → Q k i = false) : PZ u u' v v' S R NC NR := ⟨SKp_fr hu hv (fun k i hk => h3 k i (by omega)) (fun i => h4 102 i (by simp)), fun i _ => ⟨Fr_I hu (h3 37 i (by simp)), Fr_I hv (h4 118 i (by simp))⟩, fun x _ => Fr_J hu (h3 38 x (by simp)), fun y _ => Fr_J hv (h4 119 y (by simp))⟩
theorem TRM_pz {u u' v v' : St} {S R NC NR S' NC' NR' a b k : Nat} (hS : S ≤ S') (hC : NC ≤ NC') (hN : NR ≤ NR') (hb : b ≤ R) (hX : PZ u u' v v' S R NC NR) (h : TRM u v S NC NR a b k) : TRM u' v' S' NC' NR' a b k := by
  obtain ⟨a1, a2, a3, a4⟩ := hX
  refine ⟨fun i h1 h2 => ?_, ?_⟩
  · rcases h.1 i h1 h2 with ⟨s, b1, b2, b3, b4⟩ | ⟨x, y, b1, b2, b3, b4, b5⟩
    · left
      have c := (a1 s b1).2.2 b2
      exact ⟨s, by omega, by rw [c.1]; exact b2, by rw [(a2 i (by omega)).1, c.1]; exact b3, by rw [(a2 i (by omega)).2]; exact b4⟩
    · right
      exact ⟨x, y, by omega, by omega, by rw [(a2 i (by omega)).1]; exact b3, by rw [(a2 i (by omega)).2]; exact b4, by rw [a3 x b1, a4 y b2]; exact b5⟩
  · by_cases hab : a ≤ b
    · rw [arl_eq (b - a) a (fun i h1 h2 => (a2 i (by omega)).1)]; exact h.2
    · have e : b - a = 0 := by omega
      have := h.2
      rw [e] at this ⊢; exact this
/-- node i of the class and node j of the reference are the same formula: it weighs w; g, h, q, c bound what its work needs; occ are its free variables -/
def IS (u v : St) (S R NC NR kc lo hi : Nat) : Nat → Nat → Nat → Nat → Nat → Nat → Nat → Nat → List Nat → Prop
  | 0 => fun _ _ _ _ _ _ _ _ => False
  | d + 1 => fun i j w g h q c occ => i < kc ∧ lo ≤ j ∧ j < hi ∧ I u 36 i = cw w ∧ (
      (∃ a b : Nat, a < b ∧ b ≤ R ∧ I u 33 i = 0 ∧ I v 114 j = 15 ∧ I u 34 i = a ∧ I u 35 i = b ∧ I v 115 j = a ∧ I v 116 j = b ∧ TRM u v S NC NR a b 1 ∧ 0 ≤ I u 37 a ∧ w = b - a ∧ occ = vocc u (b - a) a ∧ g = 0 ∧ h = 0 ∧ q = 0 ∧ c = 1) ∨
      (∃ i1 j1 c1 g1 : Nat, I u 33 i = 1 ∧ I v 114 j = 8 ∧ I u 34 i = i1 ∧ I v 115 j = j1 ∧ c = c1 + 1 ∧ g = g1 + 1 ∧ IS u v S R NC NR kc lo hi d i1 j1 w g1 h q c1 occ) ∨
      (∃ (kk i1 i2 j1 j2 w1 w2 g1 g2 h1 h2 q1 q2 c1 c2 : Nat) (o1 o2 : List Nat), (kk = 2 ∨ kk = 3 ∨ kk = 4) ∧ I u 33 i = kk ∧ I v 114 j = (if kk = 2 then 9 else if kk = 3 then 10 else 13) ∧ I u 34 i = i1 ∧ I u 35 i = i2 ∧ I v 115 j = j1 ∧ I v 116 j = j2 ∧ w = w1 + w2 ∧ g = g1 + g2 + 2 ∧ h = max h1 (h2 + 1) ∧ q = max q1 q2 ∧ c = c1 + c2 + 2 ∧ occ = o1 ++ o2 ∧ IS u v S R NC NR kc lo hi d i1 j1 w1 g1 h1 q1 c1 o1 ∧ IS u v S R NC NR kc lo hi d i2 j2 w2 g2 h2 q2 c2 o2) ∨
      (∃ (i1 i2 j1 j2 w1 w2 g1 g2 h1 h2 q1 q2 c1 c2 : Nat) (o1 o2 : List Nat), I u 33 i = 5 ∧ I v 114 j = 14 ∧ I u 34 i = i1 ∧ I u 35 i = i2 ∧ I v 115 j = j1 ∧ I v 116 j = j2 ∧ w = 2 * (w1 + w2) ∧ g = g1 + g2 + 6 ∧ h = max h1 h2 + 2 ∧ q = max q1 q2 ∧ c = 2 * (c1 + c2) + 4 ∧ occ = o1 ++ o2 ∧ IS u v S R NC NR kc lo hi d i1 j1 w1 g1 h1 q1 c1 o1 ∧ IS u v S R NC NR kc lo hi d i2 j2 w2 g2 h2 q2 c2 o2) ∨
      (∃ (kk x i1 j1 w1 g1 q1 c1 : Nat) (o1 : List Nat), (kk = 6 ∨ kk = 7) ∧ I u 33 i = kk ∧ I v 114 j = (if kk = 6 then 11 else 12) ∧ I u 34 i = x ∧ x < NC ∧ NmR (J u 38 x) (J v 117 j) ∧ I u 35 i = i1 ∧ I v 115 j = j1 ∧ w = w1 + 1 ∧ g = g1 + 1 ∧ q = q1 + 1 ∧ c = c1 + 2 ∧ occ = o1.filter (fun y => y != x) ∧ IS u v S R NC NR kc lo hi d i1 j1 w1 g1 h q1 c1 o1))
theorem IS_mono {u u' v v' : St} {S R NC NR kc lo hi S' R' NC' NR' kc' lo' hi' : Nat} (hS : S ≤ S') (hR : R ≤ R') (hC : NC ≤ NC') (hN : NR ≤ NR') (hk : kc ≤ kc') (hlo : lo' ≤ lo) (hhi : hi ≤ hi') (hZ : PZ u u' v v' S R NC NR) (hc : ∀ k i, i < kc → (k = 33 ∨ k = 34 ∨ k = 35 ∨ k = 36) → I u' k i = I u k i) (hr : ∀ k j, lo ≤ j → j < hi → (k = 114 ∨ k = 115 ∨ k = 116) → I v' k j = I v k j) (hJ : ∀ j, lo ≤ j → j < hi → J v' 117 j = J v 117 j) (d : Nat) : ∀ i j w g h q c occ, IS u v S R NC NR kc lo hi d i j w g h q c occ → IS u' v' S' R' NC' NR' kc' lo' hi' d i j w g h q c occ := by
  induction d with
  | zero => intro i j w g h q c occ hh; exact hh
  | succ d ih =>
    intro i j w g h q c occ hh
    obtain ⟨a1, a2, a3, a4, hh⟩ := hh
    have e33 := hc 33 i a1 (by simp)
    have e34 := hc 34 i a1 (by simp)
    have e35 := hc 35 i a1 (by simp)
    have e36 := hc 36 i a1 (by simp)
    have f114 := hr 114 j a2 a3 (by simp)
    have f115 := hr 115 j a2 a3 (by simp)
    have f116 := hr 116 j a2 a3 (by simp)
    refine ⟨by omega, by omega, by omega, by rw [e36]; exact a4, ?_⟩
    rw [e33, e34, e35, f114, f115, f116]
    rcases hh with ⟨a, b, b1, b2, b3, b4, b5, b6, b7, b8, b9, b10, b11, b12, b13⟩ | ⟨i1, j1, c1, g1, b1, b2, b3, b4, b5, b5g, b6⟩ | ⟨kk, i1, i2, j1, j2, w1, w2, g1, g2, h1, h2, q1, q2, c1, c2, o1, o2, b1, b2, b3, b4, b5, b6, b7, b8, b9, b10, b11, b12, b13, b14, b15⟩ | ⟨i1, i2, j1, j2, w1, w2, g1, g2, h1, h2, q1, q2, c1, c2, o1, o2, b2, b3, b4, b5, b6, b7, b8, b9, b10, b11, b12, b13, b14, b15⟩ | ⟨kk, x, i1, j1, w1, g1, q1, c1, o1, b1, b2, b3, b4, b5, b6, b7, b8, b9, b10, b11, b12, b13, b14⟩
    · exact Or.inl ⟨a, b, b1, by omega, b3, b4, b5, b6, b7, b8, TRM_pz hS hC hN b2 hZ b9, by rw [(hZ.2.1 a (by omega)).1]; exact b10, b11, by rw [b12]; exact (vocc_eq _ _ (fun i h1 h2 => (hZ.2.1 i (by omega)).1)).symm, b13⟩
    · exact Or.inr (Or.inl ⟨i1, j1, c1, g1, b1, b2, b3, b4, b5, b5g, ih _ _ _ _ _ _ _ _ b6⟩)
    · exact Or.inr (Or.inr (Or.inl ⟨kk, i1, i2, j1, j2, w1, w2, g1, g2, h1, h2, q1, q2, c1, c2, o1, o2, b1, b2, b3, b4, b5, b6, b7, b8, b9, b10, b11, b12, b13, ih _ _ _ _ _ _ _ _ b14, ih _ _ _ _ _ _ _ _ b15⟩))
    · exact Or.inr (Or.inr (Or.inr (Or.inl ⟨i1, i2, j1, j2, w1, w2, g1, g2, h1, h2, q1, q2, c1, c2, o1, o2, b2, b3, b4, b5, b6, b7, b8, b9, b10, b11, b12, b13, ih _ _ _ _ _ _ _ _ b14, ih _ _ _ _ _ _ _ _ b15⟩)))
    · exact Or.inr (Or.inr (Or.inr (Or.inr ⟨kk, x, i1, j1, w1, g1, q1, c1, o1, b1, b2, b3, b4, by omega, by rw [hZ.2.2.1 x b5, hJ j a2 a3]; exact b6, b7, b8, b9, b10, b11, b12, b13, ih _ _ _ _ _ _ _ _ b14⟩)))
theorem IS_up {u v : St} {S R NC NR kc lo hi : Nat} (d : Nat) : ∀ i j w g h q c occ, IS u v S R NC NR kc lo hi d i j w g h q c occ → IS u v S R NC NR kc lo hi (d + 1) i j w g h q c occ := by
  induction d with
  | zero => intro i j w g h q c occ hh; exact hh.elim
  | succ d ih =>
    intro i j w g h q c occ hh
    obtain ⟨a1, a2, a3, a4, hh⟩ := hh
    refine ⟨a1, a2, a3, a4, ?_⟩
    rcases hh with hh | ⟨i1, j1, c1, g1, b1, b2, b3, b4, b5, b5g, b6⟩ | ⟨kk, i1, i2, j1, j2, w1, w2, g1, g2, h1, h2, q1, q2, c1, c2, o1, o2, b1, b2, b3, b4, b5, b6, b7, b8, b9, b10, b11, b12, b13, b14, b15⟩ | ⟨i1, i2, j1, j2, w1, w2, g1, g2, h1, h2, q1, q2, c1, c2, o1, o2, b2, b3, b4, b5, b6, b7, b8, b9, b10, b11, b12, b13, b14, b15⟩ | ⟨kk, x, i1, j1, w1, g1, q1, c1, o1, b1, b2, b3, b4, b5, b6, b7, b8, b9, b10, b11, b12, b13, b14⟩
    · exact Or.inl hh
    · exact Or.inr (Or.inl ⟨i1, j1, c1, g1, b1, b2, b3, b4, b5, b5g, ih _ _ _ _ _ _ _ _ b6⟩)
    · exact Or.inr (Or.inr (Or.inl ⟨kk, i1, i2, j1, j2, w1, w2, g1, g2, h1, h2, q1, q2, c1, c2, o1, o2, b1, b2, b3, b4, b5, b6, b7, b8, b9, b10, b11, b12, b13, ih _ _ _ _ _ _ _ _ b14, ih _ _ _ _ _ _ _ _ b15⟩))
    · exact Or.inr (Or.inr (Or.inr (Or.inl ⟨i1, i2, j1, j2, w1, w2, g1, g2, h1, h2, q1, q2, c1, c2, o1, o2, b2, b3, b4, b5, b6, b7, b8, b9, b10, b11, b12, b13, ih _ _ _ _ _ _ _ _ b14, ih _ _ _ _ _ _ _ _ b15⟩)))
    · exact Or.inr (Or.inr (Or.inr (Or.inr ⟨kk, x, i1, j1, w1, g1, q1, c1, o1, b1, b2, b3, b4, b5, b6, b7, b8, b9, b10, b11, b12, b13, ih _ _ _ _ _ _ _ _ b14⟩)))
theorem IS_le {u v : St} {S R NC NR kc lo hi d d' : Nat} (hd : d ≤ d') {i j w g h q c : Nat} {occ : List Nat} (hh : IS u v S R NC NR kc lo hi d i j w g h q c occ) : IS u v S R NC NR kc lo hi d' i j w g h q c occ := by
  induction d' with
  | zero => have : d = 0 := by omega
            subst this; exact hh
  | succ d' ih =>
    by_cases h1 : d = d' + 1
    · subst h1; exact hh
    · exact IS_up _ _ _ _ _ _ _ _ _ (ih (by omega))
/-- the parser of formulas -/
def PAf : Nat → Nat → Bool := fun k i => PA k i || Pnd k i
def QAf : Nat → Nat → Bool := fun k i => QA k i || Qts k i || Qvs k i || k == 114 || k == 115 || k == 116 || k == 117 || (k == 100 && i == 28)
def PFo (u v : St) (n t S R NC NR o : Nat) (B : Nat → Nat) (F : List Nat) (Kc Kr : Nat) : Prop := (∃ m, PQ u v n t S R NC NR o m B F) ∧ I u 3 4 = Kc ∧ I v 100 28 = Kr ∧ Kc ≤ t ∧ Kr ≤ t
def PY (u u' v v' : St) (S R NC NR kc kr : Nat) : Prop := PZ u u' v v' S R NC NR ∧ (∀ k i, i < kc → (k = 33 ∨ k = 34 ∨ k = 35 ∨ k = 36) → I u' k i = I u k i) ∧ (∀ k j, j < kr → (k = 114 ∨ k = 115 ∨ k = 116) → I v' k j = I v k j) ∧ (∀ j, j < kr → J v' 117 j = J v 117 j) ∧ Fr PAf u u' ∧ Fr QAf v v'
theorem PY_tr {u u' u'' v v' v'' : St} {S R NC NR kc kr S' R' NC' NR' kc' kr' : Nat} (hS : S ≤ S') (hR : R ≤ R') (hC : NC ≤ NC') (hN : NR ≤ NR') (hk : kc ≤ kc') (hk2 : kr ≤ kr') (h : PY u u' v v' S R NC NR kc kr) (h' : PY u' u'' v' v'' S' R' NC' NR' kc' kr') : PY u u'' v v'' S R NC NR kc kr := by
  obtain ⟨a1, a2, a3, a4, a5, a6⟩ := h
  obtain ⟨b1, b2, b3, b4, b5, b6⟩ := h'
  exact ⟨PZ_tr hS hR hC hN a1 b1, fun k i hi hk' => (b2 k i (by omega) hk').trans (a2 k i hi hk'), fun k j hj hk' => (b3 k j (by omega) hk').trans (a3 k j hj hk'), fun j hj => (b4 j (by omega)).trans (a4 j hj), Fr_tr a5 b5, Fr_tr a6 b6⟩
theorem PX_PY {u u' v v' : St} {S R NC NR m kc kr : Nat} (h : PX u u' v v' S R NC NR m) : PY u u' v v' S R NC NR kc kr := by
  obtain ⟨a1, a2, a3, a4, a5, a6, a7⟩ := h
  exact ⟨⟨a1, a2, a3, a4⟩, fun k i _ hk => Fr_I a6 (by simp [PA, PT]; omega), fun k j _ hk => Fr_I a7 (by simp [QA, QT]; omega), fun j _ => Fr_J a7 (by simp [QA, QT]), Fr_up2 (fun k i hk => by simp [PAf, hk]) a6, Fr_up2 (fun k i hk => by simp [QAf, hk]) a7⟩
theorem fr_PY {P Q : Nat → Nat → Bool} {u u' v v' : St} {S R NC NR kc kr : Nat} (hu : Fr P u u') (hv : Fr Q v v') (h1 : ∀ k i, P k i = true → PAf k i = true) (h2 : ∀ k i, Q k i = true → QAf k i = true) (h3 : ∀ k i, (k = 15 ∨ k = 16 ∨ k = 17 ∨ k = 37 ∨ k = 38 ∨ k = 33 ∨ k = 34 ∨ k = 35 ∨ k = 36) → P k i = false) (h4 : ∀ k i, (k = 102 ∨ k = 118 ∨ k = 119 ∨ k = 114 ∨ k = 115 ∨ k = 116 ∨ k = 117) → Q k i = false) : PY u u' v v' S R NC NR kc kr := ⟨PZ_fr hu hv (fun k i hk => h3 k i (by omega)) (fun k i hk => h4 k i (by omega)), fun k i _ hk => Fr_I hu (h3 k i (by omega)), fun k j _ hk => Fr_I hv (h4 k j (by omega)), fun j _ => Fr_J hv (h4 117 j (by simp)), Fr_up2 h1 hu, Fr_up2 h2 hv⟩
def FQf (u u' v v' : St) (S : Nat) : Prop := FLT u' v' ∧ (∃ S', S ≤ S' ∧ SYT u' v' S') ∧ SKp u u' v v' S ∧ 0 ≤ I u' 3 4 ∧ I u' 3 4 ≤ 1501 ∧ Fr PAf u u' ∧ Fr QAf v v'
theorem FQf_tr {u u' u'' v v' v'' : St} {S S' R NC NR kc kr : Nat} (hS : S ≤ S') (hX : PY u u' v v' S R NC NR kc kr) (h : FQf u' u'' v' v'' S') : FQf u u'' v v'' S := by
  obtain ⟨a1, ⟨S2, a2, a3⟩, a4, a5, a6, a7, a8⟩ := h
  exact ⟨a1, ⟨S2, by omega, a3⟩, SKp_tr hS hX.1.1 a4, a5, a6, Fr_tr hX.2.2.2.2.1 a7, Fr_tr hX.2.2.2.2.2 a8⟩
theorem FQ_FQf {u u' v v' : St} {S Kc : Nat} (h4 : I u 3 4 = Kc) (hK : Kc ≤ 1500) (h : FQ u u' v v' S) : FQf u u' v v' S := by
  obtain ⟨a1, a2, a4, a5, a6⟩ := h
  exact ⟨a1, a2, a4, by rw [Fr_I a5 (by simp [PA, PT]), h4]; omega, by rw [Fr_I a5 (by simp [PA, PT]), h4]; omega, Fr_up2 (fun k i hk => by simp [PAf, hk]) a5, Fr_up2 (fun k i hk => by simp [QAf, hk]) a6⟩
theorem FQf_cls {P : Nat → Nat → Bool} {u u' u'' v v' : St} {S : Nat} (hF : Fr P u' u'') (h1 : ∀ k i, P k i = true → PAf k i = true) (h2 : ∀ k i, (k = 15 ∨ k = 16 ∨ k = 17) → P k i = false) (h3 : P 2 3 = false) (h4 : P 4 4 = false ∧ P 4 5 = false) (h5 : 0 ≤ I u'' 3 4 ∧ I u'' 3 4 ≤ 1501) (h : FQf u u' v v' S) : FQf u u'' v v' S := by
  obtain ⟨⟨f, p, b1, b2, b3, b4, b5, b6⟩, ⟨S2, a2, a3⟩, a4, a5, a6, a7, a8⟩ := h
  refine ⟨⟨f, p, b1, b2, by rw [Fr_I hF h4.1]; exact b3, b4, by rw [Fr_I hF h4.2]; exact b5, b6⟩, ⟨S2, a2, SYT_fr hF (Fr_rfl (fun _ _ => false) v') h3 h2 rfl (fun _ _ _ => rfl) a3⟩, SKp_tr (Nat.le_refl S) a4 (SKp_fr hF (Fr_rfl (fun _ _ => false) v') h2 (fun _ => rfl)), h5.1, h5.2, Fr_tr a7 (Fr_up2 h1 hF), a8⟩
/-- bounds: o tokens are open, ch signs were read -/
def BDf (o lv ch w g h q c e : Nat) : Prop := 1 ≤ w ∧ g + 3 ≤ 3 * ch ∧ h ≤ ch ∧ 2 ^ e ≤ w ∧ h ≤ 2 * e + 3 * (30 - o) + lv ∧ q ≤ 30 - o ∧ c + 3 ≤ (124 - 4 * o) * w ∧ c + 2 ≤ 2 * 2 ^ ch
def SGK (u v : St) (n t sgk : Nat) : Prop := sgk ≠ 0 → ∃ b k, TLs u v n t b k ∧ k ≠ sgk
def FMx (X : Nat → Option (Int32 × St)) (u u' v : St) (r n t S R NC NR o : Nat) (B : Nat → Nat) (F : List Nat) (Kc Kr : Nat) (l : List (Int × Int)) (vs : List Nat) (lv sgk sl : Nat) : Prop :=
  (∃ (v' : St) (N t' S' R' NC' NR' : Nat) (F' : List Nat) (Kc' Kr' j dd w g h q c e : Nat) (occ : List Nat), N + sl ≤ 60 * (t' - t) ∧ (∀ G, X (G + N) = fX12_formula_L0 G 0 v') ∧ PFo u' v' n t' S' R' NC' NR' o B F' Kc' Kr' ∧ TS v' l ∧ VS v' (j :: vs) ∧ PY u u' v v' S R NC NR Kc Kr ∧ t < t' ∧ S ≤ S' ∧ R ≤ R' ∧ NC ≤ NC' ∧ NR ≤ NR' ∧ Kc ≤ Kc' ∧ Kr ≤ Kr' ∧ (Kc' + t ≤ Kc + t' ∧ Kr' + t ≤ Kr + t') ∧ IS u' v' S' R' NC' NR' Kc' Kr Kr' dd r j w g h q c occ ∧ F' = addF B F occ ∧ BDf o lv (t' - t) w g h q c e ∧ SGK u' v' n t' sgk) ∨
  (∃ (v' : St) (N : Nat), N + sl ≤ 60 * (n - t) + 100 ∧ (∀ G, X (G + N) = some (0, v')) ∧ FQf u u' v v' S ∧ r < 1501)
def FMr (u u' v : St) (r n t S R NC NR o : Nat) (B : Nat → Nat) (F : List Nat) (Kc Kr : Nat) (l : List (Int × Int)) (vs : List Nat) (lv sgk sl : Nat) : Prop := FMx (fun G => fX12_formula_L0 G 0 v) u u' v r n t S R NC NR o B F Kc Kr l vs lv sgk sl
theorem p2_le {c a b : Nat} (h : a ≤ b) (hc : c + 2 ≤ 2 * 2 ^ a) : c + 2 ≤ 2 * 2 ^ b := by
  have : 2 ^ a ≤ 2 ^ b := Nat.pow_le_pow_right (by decide) h
  omega
theorem p2_lt {c a b k : Nat} (h : a < b) (hk : k ≤ 2) (hc : c + 2 ≤ 2 * 2 ^ a) : c + k + 2 ≤ 2 * 2 ^ b := by
  have h1 : 2 ^ (a + 1) ≤ 2 ^ b := Nat.pow_le_pow_right (by decide) h
  have h2 : 2 ^ (a + 1) = 2 * 2 ^ a := by rw [Nat.pow_succ]; omega
  have h3 : 1 ≤ 2 ^ a := Nat.one_le_two_pow
  omega
theorem p2_add {a b : Nat} (ha : 1 ≤ a) (hb : 1 ≤ b) : 2 ^ a + 2 ^ b ≤ 2 ^ (a + b) := by
  obtain ⟨a', rfl⟩ : ∃ a', a = a' + 1 := ⟨a - 1, by omega⟩
  obtain ⟨b', rfl⟩ : ∃ b', b = b' + 1 := ⟨b - 1, by omega⟩
  have h1 : 1 ≤ 2 ^ a' := Nat.one_le_two_pow
  have h2 : 1 ≤ 2 ^ b' := Nat.one_le_two_pow
  have e1 : 2 ^ (a' + 1) = 2 * 2 ^ a' := by rw [Nat.pow_succ]; omega
  have e2 : 2 ^ (b' + 1) = 2 * 2 ^ b' := by rw [Nat.pow_succ]; omega
  rw [Nat.pow_add 2 (a' + 1) (b' + 1), e1, e2]
  generalize 2 ^ a' = x at *
  generalize 2 ^ b' = y at *
  have h3 : x * 1 ≤ x * y := Nat.mul_le_mul_left x h2
  have h4 : 1 * y ≤ x * y := Nat.mul_le_mul_right y h1
  have h5 : 2 * x * (2 * y) = 4 * (x * y) := by rw [Nat.mul_mul_mul_comm]
  omega
/-- a step ahead: it costs c0, and reads from t to t1 -/
theorem FMx_pre {X X1 : Nat → Option (Int32 × St)} {u u1 u' v v1 : St} {r n t t1 S R NC NR o : Nat} {B : Nat → Nat} {F : List Nat} {Kc Kr : Nat} {l : List (Int × Int)} {vs : List Nat} {lv sgk sl sl' c0 : Nat} (hX : ∀ G, X (G + c0) = X1 G) (ht : t ≤ t1) (ht2 : t1 ≤ n) (hc : c0 + sl' ≤ sl + 60 * (t1 - t)) (hY : PY u u1 v v1 S R NC NR Kc Kr) (h : FMx X1 u1 u' v1 r n t1 S R NC NR o B F Kc Kr l vs lv sgk sl) : FMx X u u' v r n t S R NC NR o B F Kc Kr l vs lv sgk sl' := by
  rcases h with ⟨v', N, t', S', R', NC', NR', F', Kc', Kr', j, dd, w, g, h, q, c, e, occ, a1, a2, a3, a4, a5, a6, a7, a8, a9, a10, a11, a12, a13, a13b, a14, a15, a16, a17⟩ | ⟨v', N, a1, a2, a3, a4⟩
  · obtain ⟨b1, b2, b3, b4, b5, b6, b7, b8⟩ := a16
    exact Or.inl ⟨v', N + c0, t', S', R', NC', NR', F', Kc', Kr', j, dd, w, g, h, q, c, e, occ, by omega, fun G => by rw [← Nat.add_assoc, hX, a2], a3, a4, a5, PY_tr (Nat.le_refl _) (Nat.le_refl _) (Nat.le_refl _) (Nat.le_refl _) (Nat.le_refl _) (Nat.le_refl _) hY a6, by omega, a8, a9, a10, a11, a12, a13, by omega, a14, a15, ⟨b1, by omega, by omega, b4, b5, b6, b7, p2_le (by omega) b8⟩, a17⟩
  · exact Or.inr ⟨v', N + c0, by omega, fun G => by rw [← Nat.add_assoc, hX, a2], FQf_tr (Nat.le_refl _) hY a3, a4⟩
theorem fm_pop {v : St} {l : List (Int × Int)} (a b : Int) (h : TS v ((a, b) :: l)) (hl : l.length < 5900) (h21 : I v 100 21 = 0) : ∃ v6, (∀ G, fX12_formula_L0 (G + 1) 0 v = bd (fX12_readTask (zI a) (zI b) v6) fun u9 => fX12_formula_L0 G 0 u9) ∧ TS v6 l ∧ Fr (fun k i => k == 100 && i == 38) v v6 := by
  have h1 : I v 100 38 = ((l.length + 1 : Nat) : Int) := h.1
  have F1 : Fr (fun k i => k == 100 && i == 38) v (uI v 100 38 (zI l.length)) := Fr_up rfl (Fr_rfl _ _)
  have e1 : I (uI v 100 38 (zI l.length)) 100 38 = l.length := I_uI1 _ _ _ _ (by omega) (by omega)
  refine ⟨uI v 100 38 (zI l.length), fun G => ?_, ⟨e1, TKl_eq l l.length (Nat.le_refl _) (fun i _ => ⟨Fr_I F1 rfl, Fr_I F1 rfl⟩) h.2.2.2⟩, F1⟩
  have sx : fX12_formula_L0 (G + 1) 0 v = fX12_formula_L0_0 (fX12_formula_L0 G) v := rfl
  rw [sx]
  unfold fX12_formula_L0_0
  rw [gI_z v 100 38, h1, if_neg (by rw [z_zero, z_le (by omega) (by omega) (by decide) (by decide)]; omega), gI_z v 100 21, h21, if_pos (show zI 0 = 0 from rfl), show (1 : Int32) = zI 1 from rfl, z_sub, show ((l.length + 1 : Nat) : Int) - 1 = l.length by omega, lt_e, gI_z _ 100 38, e1, ld_z _ _ _ _ (by omega) (by omega), bd_s, ld_z _ _ _ _ (by omega) (by omega), bd_s, Int.toNat_natCast, Fr_I F1 rfl, Fr_I F1 rfl, h.2.1, h.2.2.1]
theorem fm_flt (G : Nat) (v : St) (h : ¬ I v 100 21 ≤ 0) : fX12_formula_L0 (G + 1) 0 v = some (0, v) := by
  have sx : fX12_formula_L0 (G + 1) 0 v = fX12_formula_L0_0 (fX12_formula_L0 G) v := rfl
  have hl := I_lo v 100 21
  have hh := I_hi v 100 21
  have hj : fX12_formula_j65 v = some (0, v) := by
    unfold fX12_formula_j65
    rw [gI_z v 100 21, if_neg (by rw [z_zero, z_le hl hh (by decide) (by decide)]; exact h)]
  rw [sx]
  unfold fX12_formula_L0_0
  by_cases h38 : gI v 100 38 ≤ 0
  · rw [if_pos h38, hj]
  · rw [if_neg h38, gI_z v 100 21, if_neg (by rw [z_zero, z_eq hl hh (by decide) (by decide)]; omega), hj]
theorem addF_bind (B B' : Nat → Nat) (x : Nat) (h : ∀ y, B' y = if y = x then B y + 1 else B y) (l : List Nat) : ∀ F, addF B' F l = addF B F (l.filter (fun y => y != x)) := by
  induction l with
  | nil => intro F; rfl
  | cons y l ih =>
    intro F
    by_cases hy : y = x
    · subst hy
      have e1 : ¬ (B' y = 0 ∧ y ∉ F) := by rw [h, if_pos rfl]; omega
      rw [List.filter_cons_of_neg (by simp)]
      show addF B' (if B' y = 0 ∧ y ∉ F then F ++ [y] else F) l = _
      rw [if_neg e1]; exact ih F
    · rw [List.filter_cons_of_pos (by simp [hy])]
      show addF B' (if B' y = 0 ∧ y ∉ F then F ++ [y] else F) l = addF B (if B y = 0 ∧ y ∉ F then F ++ [y] else F) _
      rw [show B' y = B y by rw [h, if_neg hy]]; exact ih _
