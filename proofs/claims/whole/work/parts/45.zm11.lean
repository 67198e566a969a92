/-! the reference: argumentsNext -/
def PAN : Nat → Nat → Bool := fun k i => k == 161 || k == 162 || k == 163 || k == 164 || (k == 100 && i == 111)
theorem an_step (rec : Nat → Int32 → Int32 → Int32 → Int32 → Int32 → Int32 → St → Option St) (a b : Int) (n r q k L er eq : Nat) (u : St) (hk : k < n) (hL : L + n ≤ 20100) (h111 : I u 100 111 = L) (hr : r < 20000) (hq : q < 20000) (ha1 : -2147483648 ≤ a) (ha2 : a < 2147483648) (hb1 : -2147483648 ≤ b) (hb2 : b < 2147483648) (her : I u 112 r = er) (heq : I u 112 q = eq) :
    ∃ U, fX12_argumentsNext_L0_0 rec (zI a) (zI b) (zI n) (zI r) (zI q) (zI k) u = rec 0 (zI a) (zI b) (zI n) (zI er) (zI eq) (zI ((k + 1 : Nat) : Int)) U ∧ (∀ i, I U 161 i = if i = L + n - 1 - k then (r : Int) else I u 161 i) ∧ (∀ i, I U 162 i = if i = L + n - 1 - k then a else I u 162 i) ∧ (∀ i, I U 163 i = if i = L + n - 1 - k then (q : Int) else I u 163 i) ∧ (∀ i, I U 164 i = if i = L + n - 1 - k then b else I u 164 i) ∧ Fr (fun k _ => k == 161 || k == 162 || k == 163 || k == 164) u U := by
  have e1 : ((L : Int) + n - 1 - k).toNat = L + n - 1 - k := by omega
  have e2 : ((k + 1 : Nat) : Int) = (k : Int) + 1 := by omega
  unfold fX12_argumentsNext_L0_0
  simp (disch := omega) only [z_lit, gI_z, h111, z_le, if_neg, if_false, z_add, z_sub, st_z, bd_s, e1, I_uI2, ld_z, Int.toNat_natCast, her, heq, lt_e, e2]
  clear her heq h111
  refine ⟨_, rfl, ?_, ?_, ?_, ?_, ?_⟩
  · intro i
    by_cases h : i = L + n - 1 - k
    · subst h; simp (disch := omega) only [I_uI1, I_uI2, if_pos, if_true]
    · simp (disch := omega) only [I_uI1, I_uI2, if_neg, if_false]
  · intro i
    by_cases h : i = L + n - 1 - k
    · subst h; simp (disch := omega) only [I_uI1, I_uI2, if_pos, if_true]
    · simp (disch := omega) only [I_uI1, I_uI2, if_neg, if_false]
  · intro i
    by_cases h : i = L + n - 1 - k
    · subst h; simp (disch := omega) only [I_uI1, I_uI2, if_pos, if_true]
    · simp (disch := omega) only [I_uI1, I_uI2, if_neg, if_false]
  · intro i
    by_cases h : i = L + n - 1 - k
    · subst h; simp (disch := omega) only [I_uI1, I_uI2, if_pos, if_true]
    · simp (disch := omega) only [I_uI1, I_uI2, if_neg, if_false]
  · exact Fr_up rfl (Fr_up rfl (Fr_up rfl (Fr_up rfl (Fr_rfl _ _))))
theorem an_end (rec : Nat → Int32 → Int32 → Int32 → Int32 → Int32 → Int32 → St → Option St) (a b r q : Int32) (n L : Nat) (u : St) (hL : L + n ≤ 20100) (h111 : I u 100 111 = L) :
    fX12_argumentsNext_L0_0 rec a b (zI n) r q (zI n) u = some (uI u 100 111 (zI ((L + n : Nat) : Int))) := by
  have e2 : ((L + n : Nat) : Int) = (L : Int) + n := by omega
  unfold fX12_argumentsNext_L0_0
  simp (disch := omega) only [z_lit, gI_z, h111, z_le, if_pos, if_true, z_add, lt_e, e2]
theorem an_loop {c : Nat → Int} {e : Nat → Nat} {N : Nat} (a b : Int) (ha1 : -2147483648 ≤ a) (ha2 : a < 2147483648) (hb1 : -2147483648 ≤ b) (hb2 : b < 2147483648) (la lb : List (Nat × Int)) (hll : la.length = lb.length) (n : Nat) (hL : la.length + n ≤ 20100) (m : Nat) : ∀ (F r q k : Nat) (u : St), n = k + m → m < F → RT u c e N → sg e N m r → sg e N m q → I u 100 111 = la.length → SK 161 162 u la → SK 163 164 u lb →
    ∃ U, fX12_argumentsNext_L0 F 0 (zI a) (zI b) (zI n) (zI r) (zI q) (zI k) u = some U ∧ I U 100 111 = ((la.length + n : Nat) : Int) ∧ SK 161 162 U (items e m r a ++ la) ∧ SK 163 164 U (items e m q b ++ lb) ∧ (∀ i, la.length + m ≤ i → I U 161 i = I u 161 i ∧ I U 162 i = I u 162 i ∧ I U 163 i = I u 163 i ∧ I U 164 i = I u 164 i) ∧ Fr PAN u U := by
  induction m with
  | zero =>
    intro F r q k u hk hF hRT hsr hsq h111 hA hB
    have hk' : n = k := by omega
    subst hk'
    obtain ⟨G, rfl⟩ : ∃ G, F = G + 1 := ⟨F - 1, by omega⟩
    refine ⟨_, an_end _ (zI a) (zI b) (zI r) (zI q) n la.length u hL h111, I_uI1 _ _ _ _ (by omega) (by omega), ?_, ?_, ?_, Fr_up rfl (Fr_rfl _ _)⟩
    · exact SK_fr (P := fun k _ => k == 100) (Fr_up rfl (Fr_rfl _ _)) (fun _ => rfl) (fun _ => rfl) hA
    · exact SK_fr (P := fun k _ => k == 100) (Fr_up rfl (Fr_rfl _ _)) (fun _ => rfl) (fun _ => rfl) hB
    · intro i _; exact ⟨I_uI3 _ _ _ _ _ _ (by decide), I_uI3 _ _ _ _ _ _ (by decide), I_uI3 _ _ _ _ _ _ (by decide), I_uI3 _ _ _ _ _ _ (by decide)⟩
  | succ m ih =>
    intro F r q k u hk hF hRT hsr hsq h111 hA hB
    obtain ⟨G, rfl⟩ : ∃ G, F = G + 1 := ⟨F - 1, by omega⟩
    obtain ⟨s1, s2, s3⟩ := hsr
    obtain ⟨t1, t2, t3⟩ := hsq
    have hN := hRT.1
    obtain ⟨U, u1, u2, u3, u4, u5, u6⟩ := an_step (fX12_argumentsNext_L0 G) a b n r q k la.length (e r) (e q) u (by omega) hL h111 (by omega) (by omega) ha1 ha2 hb1 hb2 (hRT.2.1 r s1).2.2.2 (hRT.2.1 q t1).2.2.2
    have hA' : SK 161 162 U la := by
      refine SK_eq la la.length (Nat.le_refl _) (fun i hi => ?_) hA
      rw [u2, u3, if_neg (by omega), if_neg (by omega)]; exact ⟨rfl, rfl⟩
    have hB' : SK 163 164 U lb := by
      refine SK_eq lb lb.length (Nat.le_refl _) (fun i hi => ?_) hB
      rw [u4, u5, if_neg (by omega), if_neg (by omega)]; exact ⟨rfl, rfl⟩
    obtain ⟨U', r1, r2, r3, r4, r5, r6⟩ := ih G (e r) (e q) (k + 1) U (by omega) (by omega) (RT_fr u6 (fun _ => rfl) (fun _ => rfl) (fun _ => rfl) hRT) s3 t3 (by rw [Fr_I u6 rfl, h111]) hA' hB'
    have h1 := r5 (la.length + m) (by omega)
    refine ⟨U', u1.trans r1, r2, ⟨?_, ?_, r3⟩, ⟨?_, ?_, r4⟩, ?_, ?_⟩
    · show I U' 161 (items e m (e r) a ++ la).length = r
      rw [List.length_append, items_len, Nat.add_comm, h1.1, u2, if_pos (by omega)]
    · show I U' 162 (items e m (e r) a ++ la).length = a
      rw [List.length_append, items_len, Nat.add_comm, h1.2.1, u3, if_pos (by omega)]
    · show I U' 163 (items e m (e q) b ++ lb).length = q
      rw [List.length_append, items_len, Nat.add_comm, ← hll, h1.2.2.1, u4, if_pos (by omega)]
    · show I U' 164 (items e m (e q) b ++ lb).length = b
      rw [List.length_append, items_len, Nat.add_comm, ← hll, h1.2.2.2, u5, if_pos (by omega)]
    · intro i hi
      have h1 := r5 i (by omega)
      rw [h1.1, h1.2.1, h1.2.2.1, h1.2.2.2, u2, u3, u4, u5, if_neg (by omega), if_neg (by omega), if_neg (by omega), if_neg (by omega)]; exact ⟨rfl, rfl, rfl, rfl⟩
    · refine Fr_tr (Fr_mono (fun k i hk => ?_) u6) r6
      unfold PAN at hk
      simp only [Bool.or_eq_false_iff] at hk ⊢
      exact hk.1
theorem an_spec {c : Nat → Int} {e : Nat → Nat} {N : Nat} (hT : TOK c e N) {u : St} {x y : Nat × Int} {la lb : List (Nat × Int)} (hx : x.1 < N) (hy : y.1 < N) (hxy : ar c x.1 = ar c y.1) (ha1 : -2147483648 ≤ x.2) (ha2 : x.2 < 2147483648) (hb1 : -2147483648 ≤ y.2) (hb2 : y.2 < 2147483648) (hll : la.length = lb.length) (hL : la.length + 5 ≤ 20100) (hRT : RT u c e N) (h111 : I u 100 111 = la.length) (hA : SK 161 162 u la) (hB : SK 163 164 u lb) :
    ∃ U, fX12_argumentsNext (zI x.1) (zI x.2) (zI y.1) (zI y.2) u = some U ∧ I U 100 111 = ((args c e x ++ la).length : Int) ∧ SK 161 162 U (args c e x ++ la) ∧ SK 163 164 U (args c e y ++ lb) ∧ Fr PAN u U := by
  obtain ⟨x1, x2, x3, x4, x5⟩ := hT _ hx
  obtain ⟨y1, y2, y3, y4, y5⟩ := hT _ hy
  have hN := hRT.1
  have hm := (hRT.2.1 _ hx).2.2.1
  rw [← hxy] at y5
  obtain ⟨U, r1, r2, r3, r4, r5, r6⟩ := an_loop x.2 y.2 ha1 ha2 hb1 hb2 la lb hll (ar c x.1) (by omega) (ar c x.1) FU (x.1 + 1) (y.1 + 1) 0 u (by omega) (by unfold FU; omega) hRT x5 y5 h111 hA hB
  refine ⟨U, ?_, ?_, r3, ?_, r6⟩
  · unfold fX12_argumentsNext
    rw [ld_z _ _ _ _ (by omega) (by omega), bd_s, Int.toNat_natCast, hm, lt_e, lt_e, lt_e, show (1 : Int32) = zI 1 from rfl, z_add, z_add, show (0 : Int32) = zI ((0 : Nat) : Int) from rfl]
    exact r1
  · rw [r2]; unfold args; rw [List.length_append, items_len]; congr 1; omega
  · unfold args; rw [← hxy]; exact r4
