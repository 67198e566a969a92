/-! reading: clauses on the way, in the reference -/
def MBr (v : St) (G : List Cs) : Nat → List Lt → Prop
  | _, [] => True
  | q, l :: c => (∃ g : Nat, I v 140 q = g ∧ g < 6100 ∧ I v 130 g = 15 ∧ G[g]? = some [[l]]) ∧ MBr v G (q + 1) c
def CLr (v : St) (G : List Cs) (M k : Nat) (c : List Lt) : Prop := ∃ q : Nat, I v 138 k = q ∧ I v 139 k = c.length ∧ q + c.length ≤ M ∧ c.length ≤ 12 ∧ MBr v G q c
def SEr (v : St) (G : List Cs) (M : Nat) : Nat → Cs → Prop
  | _, [] => True
  | s, c :: x => CLr v G M s c ∧ SEr v G M (s + 1) x
theorem MBr_mono {v v' : St} {G : List Cs} (h130 : ∀ g, I v' 130 g = I v 130 g) (c : List Lt) : ∀ q, (∀ i, q ≤ i → i < q + c.length → I v' 140 i = I v 140 i) → MBr v G q c → MBr v' G q c := by
  induction c with
  | nil => intro q _ _; trivial
  | cons l c ih =>
    intro q h h2
    obtain ⟨⟨g, a1, a2, a3, a4⟩, a5⟩ := h2
    refine ⟨⟨g, by rw [h q (Nat.le_refl _) (by simp)]; exact a1, a2, by rw [h130]; exact a3, a4⟩, ih (q + 1) (fun i h3 h4 => h i (by omega) (by simp only [List.length_cons]; omega)) a5⟩
theorem MBr_app {v : St} {G : List Cs} (x y : List Lt) : ∀ s, MBr v G s x → MBr v G (s + x.length) y → MBr v G s (x ++ y) := by
  induction x with
  | nil => intro s _ h; exact h
  | cons c x ih => intro s h h2; exact ⟨h.1, ih (s + 1) h.2 (by rw [show s + 1 + x.length = s + (c :: x).length by simp only [List.length_cons]; omega]; exact h2)⟩
theorem CLr_mono {v v' : St} {G : List Cs} {M M' k : Nat} {c : List Lt} (h130 : ∀ g, I v' 130 g = I v 130 g) (h140 : ∀ i, i < M → I v' 140 i = I v 140 i) (h8 : I v' 138 k = I v 138 k) (h9 : I v' 139 k = I v 139 k) (hM : M ≤ M') (h : CLr v G M k c) : CLr v' G M' k c := by
  obtain ⟨q, a1, a2, a3, a4, a5⟩ := h
  exact ⟨q, by rw [h8]; exact a1, by rw [h9]; exact a2, by omega, a4, MBr_mono h130 c q (fun i _ h2 => h140 i (by omega)) a5⟩
theorem SEr_mono {v v' : St} {G : List Cs} {M M' : Nat} (h130 : ∀ g, I v' 130 g = I v 130 g) (h140 : ∀ i, i < M → I v' 140 i = I v 140 i) (hM : M ≤ M') (x : Cs) : ∀ s, (∀ i, s ≤ i → i < s + x.length → I v' 138 i = I v 138 i ∧ I v' 139 i = I v 139 i) → SEr v G M s x → SEr v' G M' s x := by
  induction x with
  | nil => intro s _ _; trivial
  | cons c x ih =>
    intro s h h2
    have h0 := h s (Nat.le_refl _) (by simp)
    exact ⟨CLr_mono h130 h140 h0.1 h0.2 hM h2.1, ih (s + 1) (fun i h3 h4 => h i (by omega) (by simp only [List.length_cons]; omega)) h2.2⟩
theorem SEr_app {v : St} {G : List Cs} {M : Nat} (x y : Cs) : ∀ s, SEr v G M s x → SEr v G M (s + x.length) y → SEr v G M s (x ++ y) := by
  induction x with
  | nil => intro s _ h; exact h
  | cons c x ih => intro s h h2; exact ⟨h.1, ih (s + 1) h.2 (by rw [show s + 1 + x.length = s + (c :: x).length by simp only [List.length_cons]; omega]; exact h2)⟩
theorem SEr_get {v : St} {G : List Cs} {M : Nat} (x : Cs) : ∀ s i c, SEr v G M s x → x[i]? = some c → CLr v G M (s + i) c := by
  induction x with
  | nil => intro s i c _ h; simp at h
  | cons a x ih =>
    intro s i c h hi
    cases i with
    | zero => simp at hi; subst hi; exact h.1
    | succ i => simp at hi; have := ih (s + 1) i c h.2 hi; rw [show s + (i + 1) = s + 1 + i by omega]; exact this
theorem SEr_12 {v : St} {G : List Cs} {M : Nat} (x : Cs) : ∀ s, SEr v G M s x → ∀ c, c ∈ x → c.length ≤ 12 := by
  induction x with
  | nil => intro s _ c h; cases h
  | cons a x ih =>
    intro s h c hc
    rcases List.mem_cons.1 hc with hc | hc
    · subst hc; obtain ⟨q, _, _, _, a4, _⟩ := h.1; exact a4
    · exact ih (s + 1) h.2 c hc
def Pwr : Nat → Nat → Bool := fun k i => k == 138 || k == 139 || k == 140 || (k == 100 && (i == 47 || i == 66 || i == 69))
def FWr (v v' : St) (M0 T0 : Nat) : Prop := Fr Pwr v v' ∧ (∀ i, i < M0 → I v' 140 i = I v 140 i) ∧ (∀ i, i < T0 → I v' 138 i = I v 138 i ∧ I v' 139 i = I v 139 i)
theorem FWr_rfl (v : St) (M0 T0 : Nat) : FWr v v M0 T0 := ⟨Fr_rfl _ _, fun _ _ => rfl, fun _ _ => ⟨rfl, rfl⟩⟩
theorem FWr_tr {v v' v'' : St} {M0 T0 : Nat} (h : FWr v v' M0 T0) (h' : FWr v' v'' M0 T0) : FWr v v'' M0 T0 := ⟨Fr_tr h.1 h'.1, fun i hi => (h'.2.1 i hi).trans (h.2.1 i hi), fun i hi => ⟨(h'.2.2 i hi).1.trans (h.2.2 i hi).1, (h'.2.2 i hi).2.trans (h.2.2 i hi).2⟩⟩
theorem CLr_fw {v v' : St} {G : List Cs} {M0 T0 k : Nat} {c : List Lt} (h : FWr v v' M0 T0) (hk : k < T0) (hc : CLr v G M0 k c) : CLr v' G M0 k c := CLr_mono (fun g => Fr_I h.1 rfl) h.2.1 (h.2.2 k hk).1 (h.2.2 k hk).2 (Nat.le_refl _) hc
def PB0 (v : St) (G : List Cs) (M0 T0 : Nat) (y : Cs) : Prop := I v 100 47 = 0 ∧ I v 100 66 = ((T0 + y.length : Nat) : Int) ∧ I v 100 69 = ((M0 + mb y : Nat) : Int) ∧ T0 + y.length ≤ 600 ∧ M0 + mb y ≤ 6000 ∧ SEr v G (M0 + mb y) T0 y
def PB1 (v : St) (G : List Cs) (M0 T0 : Nat) (y : Cs) (c : List Lt) : Prop := I v 100 47 = 0 ∧ I v 100 66 = ((T0 + y.length + 1 : Nat) : Int) ∧ I v 100 69 = ((M0 + mb y + c.length : Nat) : Int) ∧ T0 + y.length + 1 ≤ 600 ∧ M0 + mb y + c.length ≤ 6000 ∧ c.length ≤ 12 ∧ I v 138 (T0 + y.length) = ((M0 + mb y : Nat) : Int) ∧ I v 139 (T0 + y.length) = c.length ∧ SEr v G (M0 + mb y) T0 y ∧ MBr v G (M0 + mb y) c
theorem endw {v : St} {G : List Cs} {M0 T0 : Nat} {y : Cs} {c : List Lt} (h : PB1 v G M0 T0 y c) : PB0 v G M0 T0 (y ++ [c]) := by
  obtain ⟨h1, h2, h3, h4, h5, h6, h7, h8, h9, h10⟩ := h
  have hm : mb (y ++ [c]) = mb y + c.length := by rw [mb_app]; simp [mb]
  have hl : (y ++ [c]).length = y.length + 1 := by simp
  refine ⟨h1, by rw [h2, hl]; rfl, by rw [h3, hm]; congr 1; omega, by omega, by omega, ?_⟩
  rw [hm]
  exact SEr_app _ _ _ (SEr_mono (fun _ => rfl) (fun _ _ => rfl) (by omega) y T0 (fun _ _ _ => ⟨rfl, rfl⟩) h9) ⟨⟨M0 + mb y, h7, h8, by omega, h6, h10⟩, trivial⟩
theorem nw_spec {v : St} {G : List Cs} {M0 T0 : Nat} {y : Cs} (h : PB0 v G M0 T0 y) : ∃ v', fX12_newWay v = some v' ∧ FWr v v' M0 T0 ∧ ((T0 + y.length < 600 ∧ PB1 v' G M0 T0 y []) ∨ (T0 + y.length = 600 ∧ I v' 100 47 = 1)) := by
  obtain ⟨h1, h2, h3, h4, h5, h6⟩ := h
  by_cases hT : T0 + y.length < 600
  · obtain ⟨va, hva⟩ : ∃ va, uI v 138 (T0 + y.length) (zI ((M0 + mb y : Nat) : Int)) = va := ⟨_, rfl⟩
    have Fa : Fr (fun k _ => k == 138) v va := by rw [← hva]; exact Fr_up rfl (Fr_rfl _ _)
    obtain ⟨vb, hvb⟩ : ∃ vb, uI va 139 (T0 + y.length) (zI 0) = vb := ⟨_, rfl⟩
    have Fb : Fr (fun k _ => k == 139) va vb := by rw [← hvb]; exact Fr_up rfl (Fr_rfl _ _)
    obtain ⟨vc, hvc⟩ : ∃ vc, uI vb 100 66 (zI ((T0 + y.length + 1 : Nat) : Int)) = vc := ⟨_, rfl⟩
    have Fc : Fr (fun k i => k == 100 && i == 66) vb vc := by rw [← hvc]; exact Fr_up rfl (Fr_rfl _ _)
    have F : Fr (fun k i => k == 138 || k == 139 || (k == 100 && i == 66)) v vc := Fr_tr (Fr_up2 (fun k i hk => by simp at hk; simp [hk]) Fa) (Fr_tr (Fr_up2 (fun k i hk => by simp at hk; simp [hk]) Fb) (Fr_up2 (fun k i hk => by simp at hk; simp [hk]) Fc))
    have h8 : ∀ i, i ≠ T0 + y.length → I vc 138 i = I v 138 i ∧ I vc 139 i = I v 139 i := fun i hi => ⟨by rw [Fr_I Fc rfl, Fr_I Fb rfl, ← hva, I_uI2 _ _ _ _ _ _ (by omega)], by rw [Fr_I Fc rfl, ← hvb, I_uI2 _ _ _ _ _ _ (by omega), Fr_I Fa rfl]⟩
    refine ⟨vc, ?_, ⟨Fr_up2 (fun k i hk => by simp at hk; simp [Pwr]; omega) F, fun i _ => Fr_I F rfl, fun i hi => h8 i (by omega)⟩, Or.inl ⟨hT, by rw [Fr_I F rfl]; exact h1, by rw [← hvc]; exact I_uI1 _ _ _ _ (by omega) (by omega), by rw [Fr_I F rfl]; exact h3, by omega, by simpa using h5, by simp, ?_, ?_, ?_, trivial⟩⟩
    · unfold fX12_newWay
      rw [gI_z v 100 66, h2, if_neg (by rw [z_lit, z_eq (by omega) (by omega) (by decide) (by decide)]; omega), gI_z v 100 69, h3, st_z _ _ _ _ _ (by omega) (by omega), bd_s, Int.toNat_natCast, hva, gI_z va 100 66, Fr_I Fa rfl, h2, show (0 : Int32) = zI 0 from rfl, st_z _ _ _ _ _ (by omega) (by omega), bd_s, Int.toNat_natCast, hvb, gI_z vb 100 66, Fr_I Fb rfl, Fr_I Fa rfl, h2, show (zI ((T0 + y.length : Nat) : Int) + 1 : Int32) = zI ((T0 + y.length + 1 : Nat) : Int) by rw [show (1 : Int32) = zI 1 from rfl, z_add]; rfl, lt_e, hvc]
    · rw [Fr_I Fc rfl, Fr_I Fb rfl, ← hva]; exact I_uI1 _ _ _ _ (by omega) (by omega)
    · rw [Fr_I Fc rfl, ← hvb]; exact I_uI1 _ _ _ _ (by omega) (by omega)
    · exact SEr_mono (fun _ => Fr_I F rfl) (fun _ _ => Fr_I F rfl) (Nat.le_refl _) y T0 (fun i _ hi => h8 i (by omega)) h6
  · refine ⟨uI v 100 47 (zI 1), ?_, ⟨Fr_up rfl (Fr_rfl _ _), fun i _ => I_uI3 _ _ _ _ _ _ (by decide), fun i _ => ⟨I_uI3 _ _ _ _ _ _ (by decide), I_uI3 _ _ _ _ _ _ (by decide)⟩⟩, Or.inr ⟨by omega, I_uI1 _ _ _ _ (by decide) (by decide)⟩⟩
    unfold fX12_newWay
    rw [gI_z v 100 66, h2, if_pos (by rw [z_lit, z_eq (by omega) (by omega) (by decide) (by decide)]; omega), lt_e]; rfl
theorem ap_one {v : St} {G : List Cs} {M0 T0 g : Nat} {y : Cs} {c : List Lt} {l : Lt} (hg : g < 6100) (h130 : I v 130 g = 15) (hG : G[g]? = some [[l]]) (h : PB1 v G M0 T0 y c) : ∃ v', fX12_append (zI g) v = some v' ∧ FWr v v' M0 T0 ∧ ((M0 + mb y + c.length < 6000 ∧ c.length < 12 ∧ PB1 v' G M0 T0 y (c ++ [l])) ∨ ((M0 + mb y + c.length = 6000 ∨ c.length = 12) ∧ I v' 100 47 = 1)) := by
  obtain ⟨h1, h2, h3, h4, h5, h6, h7, h8, h9, h10⟩ := h
  have big : fX12_append_j33 v = some (uI v 100 47 (zI 1)) := rfl
  have Fbig : FWr v (uI v 100 47 (zI 1)) M0 T0 := ⟨Fr_up rfl (Fr_rfl _ _), fun i _ => I_uI3 _ _ _ _ _ _ (by decide), fun i _ => ⟨I_uI3 _ _ _ _ _ _ (by decide), I_uI3 _ _ _ _ _ _ (by decide)⟩⟩
  have ebig : I (uI v 100 47 (zI 1)) 100 47 = 1 := I_uI1 _ _ _ _ (by decide) (by decide)
  have e66 : gI v 100 66 - 1 = zI ((T0 + y.length : Nat) : Int) := by rw [gI_z v 100 66, h2, show (1 : Int32) = zI 1 from rfl, z_sub]; congr 1; omega
  by_cases hM : M0 + mb y + c.length = 6000
  · refine ⟨_, ?_, Fbig, Or.inr ⟨Or.inl hM, ebig⟩⟩
    unfold fX12_append
    rw [gI_z v 100 47, h1, if_pos (show zI 0 = 0 from rfl), gI_z v 100 69, h3, if_pos (by rw [z_lit, z_eq (by omega) (by omega) (by decide) (by decide)]; omega), big]
  · by_cases hc : c.length = 12
    · refine ⟨_, ?_, Fbig, Or.inr ⟨Or.inr hc, ebig⟩⟩
      unfold fX12_append
      rw [gI_z v 100 47, h1, if_pos (show zI 0 = 0 from rfl), gI_z v 100 69, h3, if_neg (by rw [z_lit, z_eq (by omega) (by omega) (by decide) (by decide)]; omega), e66, ld_z _ _ _ _ (by omega) (by omega), bd_s, Int.toNat_natCast, h8, if_pos (by rw [z_lit, z_eq (by omega) (by omega) (by decide) (by decide)]; omega), big]
    · obtain ⟨va, hva⟩ : ∃ va, uI v 140 (M0 + mb y + c.length) (zI g) = va := ⟨_, rfl⟩
      have Fa : Fr (fun k _ => k == 140) v va := by rw [← hva]; exact Fr_up rfl (Fr_rfl _ _)
      obtain ⟨vb, hvb⟩ : ∃ vb, uI va 100 69 (zI ((M0 + mb y + c.length + 1 : Nat) : Int)) = vb := ⟨_, rfl⟩
      have Fb : Fr (fun k i => k == 100 && i == 69) va vb := by rw [← hvb]; exact Fr_up rfl (Fr_rfl _ _)
      obtain ⟨vc, hvc⟩ : ∃ vc, uI vb 139 (T0 + y.length) (zI ((c.length + 1 : Nat) : Int)) = vc := ⟨_, rfl⟩
      have Fc : Fr (fun k _ => k == 139) vb vc := by rw [← hvc]; exact Fr_up rfl (Fr_rfl _ _)
      have F : Fr (fun k i => k == 140 || k == 139 || (k == 100 && i == 69)) v vc := Fr_tr (Fr_up2 (fun k i hk => by simp at hk; simp [hk]) Fa) (Fr_tr (Fr_up2 (fun k i hk => by simp at hk; simp [hk]) Fb) (Fr_up2 (fun k i hk => by simp at hk; simp [hk]) Fc))
      have h140 : ∀ i, i ≠ M0 + mb y + c.length → I vc 140 i = I v 140 i := fun i hi => by rw [Fr_I Fc rfl, Fr_I Fb rfl, ← hva, I_uI2 _ _ _ _ _ _ (by omega)]
      have h139 : ∀ i, i ≠ T0 + y.length → I vc 139 i = I v 139 i := fun i hi => by rw [← hvc, I_uI2 _ _ _ _ _ _ (by omega), Fr_I Fb rfl, Fr_I Fa rfl]
      refine ⟨vc, ?_, ⟨Fr_up2 (fun k i hk => by simp at hk; simp [Pwr]; omega) F, fun i hi => h140 i (by omega), fun i hi => ⟨Fr_I F rfl, h139 i (by omega)⟩⟩, Or.inl ⟨by omega, by omega, by rw [Fr_I F rfl]; exact h1, by rw [Fr_I F rfl]; exact h2, ?_, by omega, by simp; omega, by simp; omega, by rw [Fr_I F rfl]; exact h7, ?_, ?_, ?_⟩⟩
      · unfold fX12_append
        have e66b : gI vb 100 66 - 1 = zI ((T0 + y.length : Nat) : Int) := by rw [gI_z vb 100 66, Fr_I Fb rfl, Fr_I Fa rfl, h2, show (1 : Int32) = zI 1 from rfl, z_sub]; congr 1; omega
        rw [gI_z v 100 47, h1, if_pos (show zI 0 = 0 from rfl), gI_z v 100 69, h3, if_neg (by rw [z_lit, z_eq (by omega) (by omega) (by decide) (by decide)]; omega), e66, ld_z _ _ _ _ (by omega) (by omega), bd_s, Int.toNat_natCast, h8, if_neg (by rw [z_lit, z_eq (by omega) (by omega) (by decide) (by decide)]; omega), st_z _ _ _ _ _ (by omega) (by omega), bd_s, Int.toNat_natCast, hva, gI_z va 100 69, Fr_I Fa rfl, h3, show (zI ((M0 + mb y + c.length : Nat) : Int) + 1 : Int32) = zI ((M0 + mb y + c.length + 1 : Nat) : Int) by rw [show (1 : Int32) = zI 1 from rfl, z_add]; rfl, lt_e, hvb, e66b, ld_z _ _ _ _ (by omega) (by omega), bd_s, Int.toNat_natCast, Fr_I Fb rfl, Fr_I Fa rfl, h8, show (zI (c.length : Int) + 1 : Int32) = zI ((c.length + 1 : Nat) : Int) by rw [show (1 : Int32) = zI 1 from rfl, z_add]; rfl, st_z _ _ _ _ _ (by omega) (by omega), bd_s, Int.toNat_natCast, hvc]
      · rw [Fr_I Fc rfl, ← hvb, I_uI1 _ _ _ _ (by omega) (by omega)]; simp; omega
      · rw [← hvc, I_uI1 _ _ _ _ (by omega) (by omega)]; simp
      · exact SEr_mono (fun _ => Fr_I F rfl) (fun i hi => h140 i (by omega)) (Nat.le_refl _) y T0 (fun i h1 h2 => ⟨Fr_I F rfl, h139 i (by omega)⟩) h9
      · refine MBr_app _ _ _ (MBr_mono (fun _ => Fr_I F rfl) c _ (fun i h1 h2 => h140 i (by omega)) h10) ⟨⟨g, ?_, hg, by rw [Fr_I F rfl]; exact h130, hG⟩, trivial⟩
        rw [Fr_I Fc rfl, Fr_I Fb rfl, ← hva]; exact I_uI1 _ _ _ _ (by omega) (by omega)
theorem apall_big (Fu : Nat) (x k : Int32) (v : St) (h : I v 100 47 = 1) : fX12_appendAll_L0 (Fu + 1) 0 x k v = some v := by
  have sx : fX12_appendAll_L0 (Fu + 1) 0 x k v = fX12_appendAll_L0_0 (fX12_appendAll_L0 Fu) x k v := rfl
  rw [sx]
  unfold fX12_appendAll_L0_0
  rw [gI_z v 100 47, h, if_neg (by decide)]
theorem apall {G : List Cs} {M0 T0 w q : Nat} {y : Cs} (hT0 : T0 ≤ 600) (hw : w < T0) (hM0 : M0 ≤ 6000) (r : List Lt) : ∀ (c : List Lt) (k : Nat) (v : St) (Fu : Nat), PB1 v G M0 T0 y c → I v 138 w = q → I v 139 w = ((k + r.length : Nat) : Int) → MBr v G (q + k) r → q + k + r.length ≤ M0 → ∃ v', fX12_appendAll_L0 (Fu + (r.length + 1)) 0 (zI w) (zI k) v = some v' ∧ FWr v v' M0 T0 ∧ ((M0 + mb y + c.length + r.length ≤ 6000 ∧ c.length + r.length ≤ 12 ∧ PB1 v' G M0 T0 y (c ++ r)) ∨ ((6000 < M0 + mb y + c.length + r.length ∨ 12 < c.length + r.length) ∧ I v' 100 47 = 1)) := by
  induction r with
  | nil =>
    intro c k v Fu h h138 h139 hM hq
    simp only [List.length_nil, Nat.add_zero] at h139 hq
    refine ⟨v, ?_, FWr_rfl _ _ _, Or.inl ⟨by simpa using h.2.2.2.2.1, by simpa using h.2.2.2.2.2.1, by rw [List.append_nil]; exact h⟩⟩
    have sx : fX12_appendAll_L0 (Fu + 1) 0 (zI w) (zI k) v = fX12_appendAll_L0_0 (fX12_appendAll_L0 Fu) (zI w) (zI k) v := rfl
    show fX12_appendAll_L0 (Fu + 1) 0 (zI w) (zI k) v = _
    rw [sx]
    unfold fX12_appendAll_L0_0
    rw [gI_z v 100 47, h.1, if_pos (show zI 0 = 0 from rfl), ld_z _ _ _ _ (by omega) (by omega), bd_s, Int.toNat_natCast, h139, if_pos (by rw [z_le (by omega) (by omega) (by omega) (by omega)]; omega)]
  | cons l r ih =>
    intro c k v Fu h h138 h139 hM hq
    simp only [List.length_cons] at h139 hq
    obtain ⟨⟨g, m1, m2, m3, m4⟩, m5⟩ := hM
    obtain ⟨v1, a1, a2, a3⟩ := ap_one m2 m3 m4 h
    have hstep : fX12_appendAll_L0 (Fu + ((l :: r).length + 1)) 0 (zI w) (zI k) v = fX12_appendAll_L0 (Fu + (r.length + 1)) 0 (zI w) (zI ((k + 1 : Nat) : Int)) v1 := by
      have sx : fX12_appendAll_L0 (Fu + (r.length + 1) + 1) 0 (zI w) (zI k) v = fX12_appendAll_L0_0 (fX12_appendAll_L0 (Fu + (r.length + 1))) (zI w) (zI k) v := rfl
      show fX12_appendAll_L0 (Fu + (r.length + 1) + 1) 0 (zI w) (zI k) v = _
      rw [sx]
      unfold fX12_appendAll_L0_0
      rw [gI_z v 100 47, h.1, if_pos (show zI 0 = 0 from rfl), ld_z _ _ _ _ (by omega) (by omega), bd_s, Int.toNat_natCast, h139, if_neg (by rw [z_le (by omega) (by omega) (by omega) (by omega)]; omega), ld_z _ _ _ _ (by omega) (by omega), bd_s, Int.toNat_natCast, h138, z_add, ld_z _ _ _ _ (by omega) (by omega), bd_s, show ((q : Int) + (k : Int)).toNat = q + k by omega, m1, a1, bd_s, lt_e, show (1 : Int32) = zI 1 from rfl, z_add]
      rfl
    rw [hstep]
    simp only [List.length_cons]
    rcases a3 with ⟨b1, b2, b3⟩ | ⟨b1, b2⟩
    · obtain ⟨v2, c1, c2, c3⟩ := ih (c ++ [l]) (k + 1) v1 Fu b3 (by rw [(a2.2.2 w hw).1]; exact h138) (by rw [(a2.2.2 w hw).2, h139]; congr 1; omega) (MBr_mono (fun _ => Fr_I a2.1 rfl) r _ (fun i h1 h2 => a2.2.1 i (by omega)) (by rw [show q + (k + 1) = q + k + 1 by omega]; exact m5)) (by omega)
      have hl : (c ++ [l]).length = c.length + 1 := by simp
      rw [hl] at c3
      refine ⟨v2, c1, FWr_tr a2 c2, ?_⟩
      rcases c3 with ⟨d1, d2, d3⟩ | ⟨d1, d2⟩
      · exact Or.inl ⟨by omega, by omega, by rw [List.append_assoc] at d3; exact d3⟩
      · exact Or.inr ⟨by omega, d2⟩
    · exact ⟨v1, apall_big _ _ _ _ b2, a2, Or.inr ⟨by omega, b2⟩⟩
/-- all members of a way -/
theorem apw {v : St} {G : List Cs} {M0 T0 w : Nat} {y : Cs} {c c' : List Lt} (hT0 : T0 ≤ 600) (hw : w < T0) (hM0 : M0 ≤ 6000) (h : PB1 v G M0 T0 y c) (hc : CLr v G M0 w c') : ∃ v', fX12_appendAll (zI w) v = some v' ∧ FWr v v' M0 T0 ∧ ((M0 + mb y + c.length + c'.length ≤ 6000 ∧ c.length + c'.length ≤ 12 ∧ PB1 v' G M0 T0 y (c ++ c')) ∨ ((6000 < M0 + mb y + c.length + c'.length ∨ 12 < c.length + c'.length) ∧ I v' 100 47 = 1)) := by
  obtain ⟨q, a1, a2, a3, a4, a5⟩ := hc
  obtain ⟨v', b1, b2⟩ := apall hT0 hw hM0 c' c 0 v (999999999 - c'.length) h a1 (by rw [a2]; simp) a5 (by omega)
  refine ⟨v', ?_, b2⟩
  unfold fX12_appendAll
  rw [lt_e, show FU = 999999999 - c'.length + (c'.length + 1) by unfold FU; omega]
  exact b1
theorem apw_big (w : Int32) (v : St) (h : I v 100 47 = 1) : fX12_appendAll w v = some v := by
  unfold fX12_appendAll
  rw [lt_e]; exact apall_big 999999999 w 0 v h
