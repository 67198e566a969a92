/-! reading: tasks, values, nodes -/
def TKl (v : St) : List (Int × Int) → Prop
  | [] => True
  | x :: l => I v 120 l.length = x.1 ∧ I v 121 l.length = x.2 ∧ TKl v l
def TS (v : St) (l : List (Int × Int)) : Prop := I v 100 38 = l.length ∧ TKl v l
def VKl (v : St) : List Nat → Prop
  | [] => True
  | x :: l => I v 122 l.length = x ∧ VKl v l
def VS (v : St) (l : List Nat) : Prop := I v 100 41 = l.length ∧ VKl v l
theorem TKl_eq {v v' : St} (l : List (Int × Int)) : ∀ m, l.length ≤ m → (∀ i, i < m → I v' 120 i = I v 120 i ∧ I v' 121 i = I v 121 i) → TKl v l → TKl v' l := by
  induction l with
  | nil => intro _ _ _ _; trivial
  | cons x l ih =>
    intro m hm h hA
    simp only [List.length_cons] at hm
    have := h l.length (by omega)
    exact ⟨this.1.trans hA.1, this.2.trans hA.2.1, ih m (by omega) h hA.2.2⟩
theorem VKl_eq {v v' : St} (l : List Nat) : ∀ m, l.length ≤ m → (∀ i, i < m → I v' 122 i = I v 122 i) → VKl v l → VKl v' l := by
  induction l with
  | nil => intro _ _ _ _; trivial
  | cons x l ih =>
    intro m hm h hA
    simp only [List.length_cons] at hm
    exact ⟨(h l.length (by omega)).trans hA.1, ih m (by omega) h hA.2⟩
theorem TS_fr {Q : Nat → Nat → Bool} {v v' : St} {l : List (Int × Int)} (hF : Fr Q v v') (h1 : ∀ i, Q 120 i = false) (h2 : ∀ i, Q 121 i = false) (h3 : Q 100 38 = false) (h : TS v l) : TS v' l := ⟨by rw [Fr_I hF h3]; exact h.1, TKl_eq l _ (Nat.le_refl _) (fun i _ => ⟨Fr_I hF (h1 i), Fr_I hF (h2 i)⟩) h.2⟩
theorem VS_fr {Q : Nat → Nat → Bool} {v v' : St} {l : List Nat} (hF : Fr Q v v') (h1 : ∀ i, Q 122 i = false) (h3 : Q 100 41 = false) (h : VS v l) : VS v' l := ⟨by rw [Fr_I hF h3]; exact h.1, VKl_eq l _ (Nat.le_refl _) (fun i _ => Fr_I hF (h1 i)) h.2⟩
def Qts : Nat → Nat → Bool := fun k i => k == 120 || k == 121 || (k == 100 && i == 38)
def Qvs : Nat → Nat → Bool := fun k i => k == 122 || (k == 100 && i == 41)
theorem rpush_spec (v : St) (l : List (Int × Int)) (a b : Int) (hl : l.length < 6000) (h : TS v l) (ha1 : -2147483648 ≤ a) (ha2 : a < 2147483648) (hb1 : -2147483648 ≤ b) (hb2 : b < 2147483648) : ∃ v', fX12_push (zI a) (zI b) v = some v' ∧ TS v' ((a, b) :: l) ∧ Fr Qts v v' := by
  have e1 : I (uI v 120 l.length (zI a)) 100 38 = l.length := by rw [I_uI3 _ _ _ _ _ _ (by decide)]; exact h.1
  have e2 : I (uI (uI v 120 l.length (zI a)) 121 l.length (zI b)) 100 38 = l.length := by rw [I_uI3 _ _ _ _ _ _ (by decide)]; exact e1
  refine ⟨uI (uI (uI v 120 l.length (zI a)) 121 l.length (zI b)) 100 38 (zI ((l.length + 1 : Nat) : Int)), ?_, ⟨I_uI1 _ _ _ _ (by omega) (by omega), ?_, ?_, ?_⟩, Fr_up rfl (Fr_up rfl (Fr_up rfl (Fr_rfl _ _)))⟩
  · unfold fX12_push
    rw [gI_z v 100 38, h.1, st_z _ _ _ _ _ (by omega) (by omega), bd_s, Int.toNat_natCast, gI_z _ 100 38, e1, st_z _ _ _ _ _ (by omega) (by omega), bd_s, Int.toNat_natCast, gI_z _ 100 38, e2, lt_e, show (1 : Int32) = zI 1 from rfl, z_add, show (l.length : Int) + 1 = ((l.length + 1 : Nat) : Int) by omega]
  · rw [I_uI3 _ _ _ _ _ _ (by decide), I_uI3 _ _ _ _ _ _ (by decide), I_uI1 _ _ _ _ ha1 ha2]
  · rw [I_uI3 _ _ _ _ _ _ (by decide), I_uI1 _ _ _ _ hb1 hb2]
  · refine TKl_eq l l.length (Nat.le_refl _) (fun i hi => ⟨?_, ?_⟩) h.2
    · rw [I_uI3 _ _ _ _ _ _ (by decide), I_uI3 _ _ _ _ _ _ (by decide), I_uI2 _ _ _ _ _ _ (by omega)]
    · rw [I_uI3 _ _ _ _ _ _ (by decide), I_uI2 _ _ _ _ _ _ (by omega), I_uI3 _ _ _ _ _ _ (by decide)]
theorem give_spec (v : St) (l : List Nat) (j : Nat) (hl : l.length < 3000) (h : VS v l) (hj : j < 2147483648) : ∃ v', fX12_give (zI j) v = some v' ∧ VS v' (j :: l) ∧ Fr Qvs v v' := by
  have e1 : I (uI v 122 l.length (zI j)) 100 41 = l.length := by rw [I_uI3 _ _ _ _ _ _ (by decide)]; exact h.1
  refine ⟨uI (uI v 122 l.length (zI j)) 100 41 (zI ((l.length + 1 : Nat) : Int)), ?_, ⟨I_uI1 _ _ _ _ (by omega) (by omega), ?_, ?_⟩, Fr_up rfl (Fr_up rfl (Fr_rfl _ _))⟩
  · unfold fX12_give
    rw [gI_z v 100 41, h.1, st_z _ _ _ _ _ (by omega) (by omega), bd_s, Int.toNat_natCast, gI_z _ 100 41, e1, lt_e, show (1 : Int32) = zI 1 from rfl, z_add, show (l.length : Int) + 1 = ((l.length + 1 : Nat) : Int) by omega]
  · rw [I_uI3 _ _ _ _ _ _ (by decide), I_uI1 _ _ _ _ (by omega) (by omega)]
  · exact VKl_eq l l.length (Nat.le_refl _) (fun i hi => by rw [I_uI3 _ _ _ _ _ _ (by decide), I_uI2 _ _ _ _ _ _ (by omega)]) h.2
theorem got_spec (v : St) (l : List Nat) (j : Nat) (hl : l.length < 3000) (h : VS v (j :: l)) : ∃ v', fX12_got v = some (zI j, v') ∧ VS v' l ∧ Fr (fun k i => k == 100 && i == 41) v v' := by
  have h1 : I v 100 41 = ((l.length + 1 : Nat) : Int) := h.1
  have F1 : Fr (fun k i => k == 100 && i == 41) v (uI v 100 41 (zI l.length)) := Fr_up rfl (Fr_rfl _ _)
  have e1 : I (uI v 100 41 (zI l.length)) 100 41 = l.length := I_uI1 _ _ _ _ (by omega) (by omega)
  refine ⟨uI v 100 41 (zI l.length), ?_, ⟨e1, VKl_eq l l.length (Nat.le_refl _) (fun i _ => Fr_I F1 rfl) h.2.2⟩, F1⟩
  unfold fX12_got
  rw [gI_z v 100 41, h1, show (1 : Int32) = zI 1 from rfl, z_sub, lt_e, show ((l.length + 1 : Nat) : Int) - 1 = l.length by omega, gI_z _ 100 41, e1, ld_z _ _ _ _ (by omega) (by omega), bd_s, Int.toNat_natCast, Fr_I F1 rfl, h.2.1]
theorem rnode_spec (v : St) (K : Nat) (a b c : Int) (hK : K < 1600) (h : I v 100 28 = K) (ha1 : -2147483648 ≤ a) (ha2 : a < 2147483648) (hb1 : -2147483648 ≤ b) (hb2 : b < 2147483648) (hc1 : -2147483648 ≤ c) (hc2 : c < 2147483648) : ∃ v', fX12_node (zI a) (zI b) (zI c) v = some (zI K, v') ∧ I v' 100 28 = ((K + 1 : Nat) : Int) ∧ I v' 114 K = a ∧ I v' 115 K = b ∧ I v' 116 K = c ∧ (∀ k i, i ≠ K → (k = 114 ∨ k = 115 ∨ k = 116) → I v' k i = I v k i) ∧ Fr (fun k i => k == 114 || k == 115 || k == 116 || (k == 100 && i == 28)) v v' := by
  refine ⟨uI (uI (uI (uI v 100 28 (zI ((K + 1 : Nat) : Int))) 114 K (zI a)) 115 K (zI b)) 116 K (zI c), ?_, ?_, ?_, ?_, ?_, fun k i hi hk => ?_, Fr_up rfl (Fr_up rfl (Fr_up rfl (Fr_up rfl (Fr_rfl _ _))))⟩
  · unfold fX12_node
    rw [gI_z v 100 28, h, lt_e, show (1 : Int32) = zI 1 from rfl, z_add, lt_e, show (K : Int) + 1 = ((K + 1 : Nat) : Int) by omega, st_z _ _ _ _ _ (by omega) (by omega), bd_s, st_z _ _ _ _ _ (by omega) (by omega), bd_s, st_z _ _ _ _ _ (by omega) (by omega), bd_s, Int.toNat_natCast]
  · rw [I_uI3 _ _ _ _ _ _ (by decide), I_uI3 _ _ _ _ _ _ (by decide), I_uI3 _ _ _ _ _ _ (by decide), I_uI1 _ _ _ _ (by omega) (by omega)]
  · rw [I_uI3 _ _ _ _ _ _ (by decide), I_uI3 _ _ _ _ _ _ (by decide), I_uI1 _ _ _ _ ha1 ha2]
  · rw [I_uI3 _ _ _ _ _ _ (by decide), I_uI1 _ _ _ _ hb1 hb2]
  · exact I_uI1 _ _ _ _ hc1 hc2
  · rcases hk with hk | hk | hk <;> subst hk
    · rw [I_uI3 _ _ _ _ _ _ (by decide), I_uI3 _ _ _ _ _ _ (by decide), I_uI2 _ _ _ _ _ _ (by omega), I_uI3 _ _ _ _ _ _ (by decide)]
    · rw [I_uI3 _ _ _ _ _ _ (by decide), I_uI2 _ _ _ _ _ _ (by omega), I_uI3 _ _ _ _ _ _ (by decide), I_uI3 _ _ _ _ _ _ (by decide)]
    · rw [I_uI2 _ _ _ _ _ _ (by omega), I_uI3 _ _ _ _ _ _ (by decide), I_uI3 _ _ _ _ _ _ (by decide), I_uI3 _ _ _ _ _ _ (by decide)]
/-- a weight as the class keeps it -/
def cw (w : Nat) : Int := if w < 1000000 then (w : Int) else 1000000
def Pnd : Nat → Nat → Bool := fun k i => k == 33 || k == 34 || k == 35 || k == 36 || (k == 3 && i == 4)
/-- a node of the class; r is what it weighs -/
theorem cnode_gen (u : St) (K : Nat) (k a b r : Int) (hK : K < 1501) (h : I u 3 4 = K) (hk1 : -2147483648 ≤ k) (hk2 : k < 2147483648) (ha1 : -2147483648 ≤ a) (ha2 : a < 2147483648) (hb1 : -2147483648 ≤ b) (hb2 : b < 2147483648) (hr1 : -2147483648 ≤ r) (hr2 : r < 2147483648) (hw : ∀ w, (∀ i, I w 36 i = I u 36 i) → fX7_weigh (zI k) (zI a) (zI b) w = some (zI r, w)) : ∃ u', fX7_add (zI k) (zI a) (zI b) u = some (zI K, u') ∧ I u' 3 4 = ((K + 1 : Nat) : Int) ∧ I u' 33 K = k ∧ I u' 34 K = a ∧ I u' 35 K = b ∧ I u' 36 K = (if r < 1000000 then r else 1000000) ∧ (∀ c i, i ≠ K → (c = 33 ∨ c = 34 ∨ c = 35 ∨ c = 36) → I u' c i = I u c i) ∧ Fr Pnd u u' := by
  have e1 : I (uI u 33 K (zI k)) 3 4 = K := by rw [I_uI3 _ _ _ _ _ _ (by decide)]; exact h
  have e2 : I (uI (uI u 33 K (zI k)) 34 K (zI a)) 3 4 = K := by rw [I_uI3 _ _ _ _ _ _ (by decide)]; exact e1
  have e3 : I (uI (uI (uI u 33 K (zI k)) 34 K (zI a)) 35 K (zI b)) 3 4 = K := by rw [I_uI3 _ _ _ _ _ _ (by decide)]; exact e2
  have hw2 := hw (uI (uI (uI u 33 K (zI k)) 34 K (zI a)) 35 K (zI b)) (fun i => by rw [I_uI3 _ _ _ _ _ _ (by decide), I_uI3 _ _ _ _ _ _ (by decide), I_uI3 _ _ _ _ _ _ (by decide)])
  obtain ⟨z, hz⟩ : ∃ z : Int, (if r < 1000000 then r else 1000000) = z := ⟨_, rfl⟩
  have hz1 : -2147483648 ≤ z ∧ z < 2147483648 := by
    rw [← hz]; by_cases hh : r < 1000000
    · rw [if_pos hh]; omega
    · rw [if_neg hh]; omega
  have hzz : (if zI r < 1000000 then zI r else 1000000) = zI z := by
    rw [← hz]
    by_cases hh : r < 1000000
    · rw [if_pos (by rw [z_lit, z_lt hr1 hr2 (by decide) (by decide)]; exact hh), if_pos hh]
    · rw [if_neg (by rw [z_lit, z_lt hr1 hr2 (by decide) (by decide)]; exact hh), if_neg hh]; rfl
  have e4 : I (uI (uI (uI (uI u 33 K (zI k)) 34 K (zI a)) 35 K (zI b)) 36 K (zI z)) 3 4 = K := by rw [I_uI3 _ _ _ _ _ _ (by decide)]; exact e3
  have c4 : I (uI (uI (uI (uI (uI u 33 K (zI k)) 34 K (zI a)) 35 K (zI b)) 36 K (zI z)) 3 4 (zI ((K + 1 : Nat) : Int))) 3 4 = ((K + 1 : Nat) : Int) := I_uI1 _ _ _ _ (by omega) (by omega)
  rw [hz]
  refine ⟨uI (uI (uI (uI (uI u 33 K (zI k)) 34 K (zI a)) 35 K (zI b)) 36 K (zI z)) 3 4 (zI ((K + 1 : Nat) : Int)), ?_, c4, ?_, ?_, ?_, ?_, fun c i hi hc => ?_, Fr_up rfl (Fr_up rfl (Fr_up rfl (Fr_up rfl (Fr_up rfl (Fr_rfl _ _)))))⟩
  · unfold fX7_add
    rw [gI_z u 3 4, h, if_pos (by rw [z_lit, z_lt (by omega) (by omega) (by decide) (by decide)]; omega), st_z _ _ _ _ _ (by omega) (by omega), bd_s, Int.toNat_natCast, gI_z _ 3 4, e1, st_z _ _ _ _ _ (by omega) (by omega), bd_s, Int.toNat_natCast, gI_z _ 3 4, e2, st_z _ _ _ _ _ (by omega) (by omega), bd_s, Int.toNat_natCast, hw2, b2_s, gI_z _ 3 4, e3, hzz, st_z _ _ _ _ _ (by omega) (by omega), bd_s, Int.toNat_natCast, gI_z _ 3 4, e4, show (1 : Int32) = zI 1 from rfl, z_add, lt_e, show (K : Int) + 1 = ((K + 1 : Nat) : Int) by omega, gI_z _ 3 4, c4, z_sub, show ((K + 1 : Nat) : Int) - 1 = K by omega]
  · rw [I_uI3 _ _ _ _ _ _ (by decide), I_uI3 _ _ _ _ _ _ (by decide), I_uI3 _ _ _ _ _ _ (by decide), I_uI3 _ _ _ _ _ _ (by decide), I_uI1 _ _ _ _ hk1 hk2]
  · rw [I_uI3 _ _ _ _ _ _ (by decide), I_uI3 _ _ _ _ _ _ (by decide), I_uI3 _ _ _ _ _ _ (by decide), I_uI1 _ _ _ _ ha1 ha2]
  · rw [I_uI3 _ _ _ _ _ _ (by decide), I_uI3 _ _ _ _ _ _ (by decide), I_uI1 _ _ _ _ hb1 hb2]
  · rw [I_uI3 _ _ _ _ _ _ (by decide), I_uI1 _ _ _ _ hz1.1 hz1.2]
  · rcases hc with hc | hc | hc | hc <;> subst hc
    · rw [I_uI3 _ _ _ _ _ _ (by decide), I_uI3 _ _ _ _ _ _ (by decide), I_uI3 _ _ _ _ _ _ (by decide), I_uI3 _ _ _ _ _ _ (by decide), I_uI2 _ _ _ _ _ _ (by omega)]
    · rw [I_uI3 _ _ _ _ _ _ (by decide), I_uI3 _ _ _ _ _ _ (by decide), I_uI3 _ _ _ _ _ _ (by decide), I_uI2 _ _ _ _ _ _ (by omega), I_uI3 _ _ _ _ _ _ (by decide)]
    · rw [I_uI3 _ _ _ _ _ _ (by decide), I_uI3 _ _ _ _ _ _ (by decide), I_uI2 _ _ _ _ _ _ (by omega), I_uI3 _ _ _ _ _ _ (by decide), I_uI3 _ _ _ _ _ _ (by decide)]
    · rw [I_uI3 _ _ _ _ _ _ (by decide), I_uI2 _ _ _ _ _ _ (by omega), I_uI3 _ _ _ _ _ _ (by decide), I_uI3 _ _ _ _ _ _ (by decide), I_uI3 _ _ _ _ _ _ (by decide)]
theorem cw_rng (w : Nat) : 0 ≤ cw w ∧ cw w ≤ 1000000 := by unfold cw; by_cases h : w < 1000000 <;> simp [h] <;> omega
/-- what nodes weigh -/
theorem wgh_atom (a b : Int) (w : St) : fX7_weigh (zI 0) (zI a) (zI b) w = some (zI (b - a), w) := by
  unfold fX7_weigh; rw [if_pos (by rfl), z_sub]
theorem wgh_not (u : St) (a : Nat) (b : Int) (x : Int) (ha : a < 1501) (hx : I u 36 a = x) (w : St) (h : ∀ i, I w 36 i = I u 36 i) : fX7_weigh (zI 1) (zI a) (zI b) w = some (zI x, w) := by
  unfold fX7_weigh; rw [if_neg (by decide), if_pos (by rfl), ld_z _ _ _ _ (by omega) (by omega), bd_s, Int.toNat_natCast, h, hx]
theorem wgh_bin (u : St) (k a b : Nat) (x y : Int) (hk : k = 2 ∨ k = 3 ∨ k = 4) (ha : a < 1501) (hb : b < 1501) (hx : I u 36 a = x) (hy : I u 36 b = y) (w : St) (h : ∀ i, I w 36 i = I u 36 i) : fX7_weigh (zI k) (zI a) (zI b) w = some (zI (x + y), w) := by
  unfold fX7_weigh
  rcases hk with hk | hk | hk <;> subst hk
  · rw [if_neg (by decide), if_neg (by decide), if_pos (by rfl), ld_z _ _ _ _ (by omega) (by omega), bd_s, Int.toNat_natCast, h, hx, ld_z _ _ _ _ (by omega) (by omega), bd_s, Int.toNat_natCast, h, hy, z_add]
  · rw [if_neg (by decide), if_neg (by decide), if_neg (by decide), if_pos (by rfl), ld_z _ _ _ _ (by omega) (by omega), bd_s, Int.toNat_natCast, h, hx, ld_z _ _ _ _ (by omega) (by omega), bd_s, Int.toNat_natCast, h, hy, z_add]
  · rw [if_neg (by decide), if_neg (by decide), if_neg (by decide), if_neg (by decide), if_pos (by rfl), ld_z _ _ _ _ (by omega) (by omega), bd_s, Int.toNat_natCast, h, hx, ld_z _ _ _ _ (by omega) (by omega), bd_s, Int.toNat_natCast, h, hy, z_add]
theorem wgh_iff (u : St) (a b : Nat) (x y : Int) (ha : a < 1501) (hb : b < 1501) (hx : I u 36 a = x) (hy : I u 36 b = y) (w : St) (h : ∀ i, I w 36 i = I u 36 i) : fX7_weigh (zI 5) (zI a) (zI b) w = some (zI (2 * (x + y)), w) := by
  unfold fX7_weigh
  rw [if_neg (by decide), if_neg (by decide), if_neg (by decide), if_neg (by decide), if_neg (by decide), if_pos (by rfl), ld_z _ _ _ _ (by omega) (by omega), bd_s, Int.toNat_natCast, h, hx, ld_z _ _ _ _ (by omega) (by omega), bd_s, Int.toNat_natCast, h, hy, z_add, show (2 : Int32) = zI 2 from rfl, z_mul]
theorem wgh_qu (u : St) (k b : Nat) (a : Int) (y : Int) (hk : k = 6 ∨ k = 7) (hb : b < 1501) (hy : I u 36 b = y) (w : St) (h : ∀ i, I w 36 i = I u 36 i) : fX7_weigh (zI k) (zI a) (zI b) w = some (zI (1 + y), w) := by
  unfold fX7_weigh
  rcases hk with hk | hk <;> subst hk
  · rw [if_neg (by decide), if_neg (by decide), if_neg (by decide), if_neg (by decide), if_neg (by decide), if_neg (by decide), if_pos (by rfl), ld_z _ _ _ _ (by omega) (by omega), bd_s, Int.toNat_natCast, h, hy, show (1 : Int32) = zI 1 from rfl, z_add]
  · rw [if_neg (by decide), if_neg (by decide), if_neg (by decide), if_neg (by decide), if_neg (by decide), if_neg (by decide), if_neg (by decide), if_pos (by rfl), ld_z _ _ _ _ (by omega) (by omega), bd_s, Int.toNat_natCast, h, hy, show (1 : Int32) = zI 1 from rfl, z_add]
/-- behind a fault a node may be made of anything -/
theorem cnode_flt (u : St) (k : Nat) (a b : Int32) (ra rb : Nat) (hk : k = 0 ∨ (k = 1 ∧ a = zI ra ∧ ra < 1501) ∨ ((k = 2 ∨ k = 3 ∨ k = 4 ∨ k = 5) ∧ a = zI ra ∧ ra < 1501 ∧ b = zI rb ∧ rb < 1501) ∨ ((k = 6 ∨ k = 7) ∧ b = zI rb ∧ rb < 1501)) (h0 : 0 ≤ I u 3 4) (h1 : I u 3 4 ≤ 1501) : ∃ (u' : St) (r : Nat), fX7_add (zI k) a b u = some (zI r, u') ∧ r < 1501 ∧ 0 ≤ I u' 3 4 ∧ I u' 3 4 ≤ 1501 ∧ Fr Pnd u u' := by
  by_cases hK : I u 3 4 < 1501
  · obtain ⟨K, hKK⟩ : ∃ K : Nat, I u 3 4 = K := ⟨(I u 3 4).toNat, by omega⟩
    obtain ⟨A, hA⟩ : ∃ A : Int, a = zI A ∧ -2147483648 ≤ A ∧ A < 2147483648 := ⟨a.toInt, z_id a, Int32.le_toInt _, Int32.toInt_lt _⟩
    obtain ⟨Bb, hB⟩ : ∃ A : Int, b = zI A ∧ -2147483648 ≤ A ∧ A < 2147483648 := ⟨b.toInt, z_id b, Int32.le_toInt _, Int32.toInt_lt _⟩
    obtain ⟨r, hr, hr1, hr2⟩ : ∃ r : Int, (∀ w, (∀ i, I w 36 i = I u 36 i) → fX7_weigh (zI k) a b w = some (zI r, w)) ∧ -2147483648 ≤ r ∧ r < 2147483648 := by
      have zz : ∀ x : Int, ∃ r : Int, zI x = zI r ∧ -2147483648 ≤ r ∧ r < 2147483648 := fun x => ⟨(zI x).toInt, z_id _, Int32.le_toInt _, Int32.toInt_lt _⟩
      rcases hk with hk | ⟨hk, e1, e2⟩ | ⟨hk, e1, e2, e3, e4⟩ | ⟨hk, e3, e4⟩
      · subst hk
        obtain ⟨r, q1, q2⟩ := zz (Bb - A)
        exact ⟨r, fun w _ => by rw [hA.1, hB.1, ← q1]; exact wgh_atom A Bb w, q2⟩
      · subst hk
        exact ⟨I u 36 ra, fun w hw => by rw [e1, hB.1]; exact wgh_not u ra Bb _ e2 rfl w hw, I_lo _ _ _, I_hi _ _ _⟩
      · by_cases h5 : k = 5
        · subst h5
          obtain ⟨r, q1, q2⟩ := zz (2 * (I u 36 ra + I u 36 rb))
          exact ⟨r, fun w hw => by rw [e1, e3, ← q1]; exact wgh_iff u ra rb _ _ e2 e4 rfl rfl w hw, q2⟩
        · obtain ⟨r, q1, q2⟩ := zz (I u 36 ra + I u 36 rb)
          exact ⟨r, fun w hw => by rw [e1, e3, ← q1]; exact wgh_bin u k ra rb _ _ (by omega) e2 e4 rfl rfl w hw, q2⟩
      · obtain ⟨r, q1, q2⟩ := zz (1 + I u 36 rb)
        exact ⟨r, fun w hw => by rw [hA.1, e3, ← q1]; exact wgh_qu u k rb A _ hk e4 rfl w hw, q2⟩
    rw [hA.1, hB.1] at hr ⊢
    obtain ⟨u', g1, g2, _, _, _, _, _, g3⟩ := cnode_gen u K k A Bb r (by omega) hKK (by omega) (by omega) hA.2.1 hA.2.2 hB.2.1 hB.2.2 hr1 hr2 hr
    exact ⟨u', K, g1, by omega, by omega, by omega, g3⟩
  · refine ⟨u, 0, ?_, by decide, h0, h1, Fr_rfl _ _⟩
    unfold fX7_add
    rw [gI_z u 3 4, if_neg (by rw [z_lit, z_lt (by omega) (by omega) (by decide) (by decide)]; exact hK)]
    rfl
