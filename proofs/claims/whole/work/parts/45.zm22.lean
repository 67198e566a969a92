/-! taking back, and small steps of the search -/
theorem lk_app {T2 T : List (Nat × Nat × Int)} {x : Nat} {y : Nat × Int} (hn : (((x, y) :: T2 ++ T).map (·.1)).Nodup) : lk (T2 ++ T) x = none := by
  cases h : lk (T2 ++ T) x with
  | none => rfl
  | some z =>
    have := lk_mem h
    simp only [List.cons_append, List.map_cons, List.nodup_cons] at hn
    exact absurd this hn.1
theorem unbind_loop {T : List (Nat × Nat × Int)} (T2 : List (Nat × Nat × Int)) : ∀ (F : Nat) (u : St), T2.length < F → ((T2 ++ T).map (·.1)).Nodup → (∀ x ∈ (T2 ++ T).map (·.1), x < 220) → (T2 ++ T).length ≤ 220 → BC u (T2 ++ T) → TC u (T2 ++ T) → ∃ u', fX5_unbind_L0 F 0 (zI T.length) u = some u' ∧ BC u' T ∧ TC u' T ∧ Fr PB u u' := by
  induction T2 with
  | nil =>
    intro F u hF hn hr hl hB hC
    obtain ⟨G, rfl⟩ : ∃ G, F = G + 1 := ⟨F - 1, by omega⟩
    refine ⟨u, ?_, hB, hC, Fr_rfl _ _⟩
    show fX5_unbind_L0_0 (fX5_unbind_L0 G) _ u = _
    unfold fX5_unbind_L0_0
    have h1 := hC.1
    rw [List.nil_append] at h1 hl
    rw [gI_z, h1, if_pos (by rw [z_le (by omega) (by omega) (by omega) (by omega)]; omega)]
  | cons a T2 ih =>
    intro F u hF hn hr hl hB hC
    obtain ⟨x, y⟩ := a
    obtain ⟨G, rfl⟩ : ∃ G, F = G + 1 := ⟨F - 1, by omega⟩
    simp only [List.length_cons] at hF
    have hx : x < 220 := hr x (by simp)
    have h1 : I u 7 11 = ((T2 ++ T).length : Int) + 1 := by have := hC.1; simpa using this
    have h2 : I u 64 (T2 ++ T).length = x := by have := hC.2.1; simpa using this
    have hl' : (T2 ++ T).length + 1 ≤ 220 := by simpa using hl
    have hlT : T.length ≤ (T2 ++ T).length := by simp
    have e1 : ((T2 ++ T).length : Int) + 1 - 1 = (T2 ++ T).length := by omega
    have hlk := lk_app (T2 := T2) (T := T) (x := x) (y := y) hn
    obtain ⟨U, k1, k2, k3, k4⟩ : ∃ U, fX5_unbind_L0 (G + 1) 0 (zI T.length) u = fX5_unbind_L0 G 0 (zI T.length) U ∧ I U 7 11 = (T2 ++ T).length ∧ (∀ i, I U 62 i = if i = x then -1 else I u 62 i) ∧ Fr (fun k i => k == 62 || (k == 7 && i == 11)) u U := by
      show ∃ U, fX5_unbind_L0_0 (fX5_unbind_L0 G) (zI T.length) u = _ ∧ _
      generalize fX5_unbind_L0 G = R
      unfold fX5_unbind_L0_0
      generalize (T2 ++ T).length = M at *
      clear hB hC ih hn hr hlk
      simp (disch := omega) only [z_lit, gI_z, h1, z_le, if_neg, if_false, lt_e, z_sub, e1, I_uI1, I_uI2, ld_z, bd_s, Int.toNat_natCast, h2, st_z, z_neg]
      refine ⟨_, rfl, ?_, ?_, ?_⟩
      · simp (disch := omega) only [I_uI1, I_uI2]
      · intro i
        by_cases h : i = x
        · subst h; simp (disch := omega) only [I_uI1, I_uI2, if_pos, if_true]
        · simp (disch := omega) only [I_uI1, I_uI2, if_neg, if_false]
      · exact Fr_up rfl (Fr_up rfl (Fr_rfl _ _))
    simp only [List.cons_append, List.map_cons, List.nodup_cons] at hn
    have hB' : BC U (T2 ++ T) := by
      intro w hw
      have hb := hB w hw
      rw [k3, Fr_I k4 (show (fun k i => k == 62 || (k == 7 && i == 11)) 63 w = false from rfl)]
      by_cases h : w = x
      · subst h
        rw [if_pos rfl]
        exact ⟨fun _ => rfl, fun y' hy' => by rw [hlk] at hy'; cases hy'⟩
      · rw [if_neg h]
        simp only [List.cons_append, lk, if_neg h] at hb
        exact hb
    have hC' : TC U (T2 ++ T) := ⟨k2, TL_fr k4 (fun _ => rfl) hC.2.2⟩
    obtain ⟨u', r1, r2, r3, r4⟩ := ih G U (by omega) hn.2 (fun z hz => hr z (by simp only [List.cons_append, List.map_cons, List.mem_cons]; exact Or.inr hz)) (by omega) hB' hC'
    refine ⟨u', k1.trans r1, r2, r3, Fr_tr (Fr_mono (fun k i hk => ?_) k4) r4⟩
    unfold PB at hk
    simp only [Bool.or_eq_false_iff] at hk ⊢
    exact ⟨hk.1.1.1, hk.2⟩
theorem takeBack_loop {T : List (Nat × Nat × Int)} {V : Int} (hV : V ≤ 220) (T2 : List (Nat × Nat × Int)) : ∀ (F : Nat) (u : St), T2.length < F → ((T2 ++ T).map (·.1)).Nodup → (∀ x ∈ (T2 ++ T).map (·.1), x < 220) → (T2 ++ T).length ≤ 220 → BR u (T2 ++ T) V → TR u (T2 ++ T) → ∃ u', fX12_takeBack_L0 F 0 (zI T.length) u = some u' ∧ BR u' T V ∧ TR u' T ∧ Fr (fun k i => k == 154 || (k == 100 && i == 93)) u u' := by
  induction T2 with
  | nil =>
    intro F u hF hn hr hl hB hC
    obtain ⟨G, rfl⟩ : ∃ G, F = G + 1 := ⟨F - 1, by omega⟩
    refine ⟨u, ?_, hB, hC, Fr_rfl _ _⟩
    show fX12_takeBack_L0_0 (fX12_takeBack_L0 G) _ u = _
    unfold fX12_takeBack_L0_0
    have h1 := hC.1
    rw [List.nil_append] at h1 hl
    rw [gI_z, h1, if_pos (by rw [z_le (by omega) (by omega) (by omega) (by omega)]; omega)]
  | cons a T2 ih =>
    intro F u hF hn hr hl hB hC
    obtain ⟨x, y⟩ := a
    obtain ⟨G, rfl⟩ : ∃ G, F = G + 1 := ⟨F - 1, by omega⟩
    simp only [List.length_cons] at hF
    have hx : x < 220 := hr x (by simp)
    have h1 : I u 100 93 = ((T2 ++ T).length : Int) + 1 := by have := hC.1; simpa using this
    have h2 : I u 156 (T2 ++ T).length = x := by have := hC.2.1; simpa using this
    have hl' : (T2 ++ T).length + 1 ≤ 220 := by simpa using hl
    have hlT : T.length ≤ (T2 ++ T).length := by simp
    have e1 : ((T2 ++ T).length : Int) + 1 - 1 = (T2 ++ T).length := by omega
    have hlk := lk_app (T2 := T2) (T := T) (x := x) (y := y) hn
    obtain ⟨U, k1, k2, k3, k4⟩ : ∃ U, fX12_takeBack_L0 (G + 1) 0 (zI T.length) u = fX12_takeBack_L0 G 0 (zI T.length) U ∧ I U 100 93 = (T2 ++ T).length ∧ (∀ i, I U 154 i = if i = x then -1 else I u 154 i) ∧ Fr (fun k i => k == 154 || (k == 100 && i == 93)) u U := by
      show ∃ U, fX12_takeBack_L0_0 (fX12_takeBack_L0 G) (zI T.length) u = _ ∧ _
      generalize fX12_takeBack_L0 G = R
      unfold fX12_takeBack_L0_0
      generalize (T2 ++ T).length = M at *
      clear hB hC ih hn hr hlk
      simp (disch := omega) only [z_lit, gI_z, h1, z_le, if_neg, if_false, lt_e, z_sub, e1, I_uI1, I_uI2, ld_z, bd_s, Int.toNat_natCast, h2, st_z, z_neg]
      refine ⟨_, rfl, ?_, ?_, ?_⟩
      · simp (disch := omega) only [I_uI1, I_uI2]
      · intro i
        by_cases h : i = x
        · subst h; simp (disch := omega) only [I_uI1, I_uI2, if_pos, if_true]
        · simp (disch := omega) only [I_uI1, I_uI2, if_neg, if_false]
      · exact Fr_up rfl (Fr_up rfl (Fr_rfl _ _))
    simp only [List.cons_append, List.map_cons, List.nodup_cons] at hn
    have hB' : BR U (T2 ++ T) V := by
      intro w hw
      have hb := hB w hw
      rw [k3, Fr_I k4 (show (fun k i => k == 154 || (k == 100 && i == 93)) 155 w = false from rfl)]
      by_cases h : w = x
      · subst h
        rw [if_pos rfl]
        exact ⟨fun _ => rfl, fun y' hy' => by rw [hlk] at hy'; cases hy'⟩
      · rw [if_neg h]
        simp only [List.cons_append, lk, if_neg h] at hb
        exact hb
    have hC' : TR U (T2 ++ T) := ⟨k2, TL_fr k4 (fun _ => rfl) hC.2.2⟩
    obtain ⟨u', r1, r2, r3, r4⟩ := ih G U (by omega) hn.2 (fun z hz => hr z (by simp only [List.cons_append, List.map_cons, List.mem_cons]; exact Or.inr hz)) (by omega) hB' hC'
    exact ⟨u', k1.trans r1, r2, r3, Fr_tr k4 r4⟩
theorem GT_keys {c : Nat → Int} {e : Nat → Nat} {N : Nat} {V : Int} {T : List (Nat × Nat × Int)} (hV : V ≤ 220) (h : GT c e N V T) : (T.map (·.1)).Nodup ∧ (∀ x ∈ T.map (·.1), x < 220) ∧ T.length ≤ 220 := by
  refine ⟨h.1, ?_, GT_len hV h⟩
  intro x hx
  obtain ⟨h0, o, h1, h2, h3⟩ := h
  cases hl : lk T x with
  | none => exact absurd hx (lk_none hl)
  | some y => have := h2 x (h3 x y hl).1; omega
theorem unbind_spec {c : Nat → Int} {e : Nat → Nat} {N : Nat} {V : Int} {T T2 : List (Nat × Nat × Int)} {u : St} (hV : V ≤ 220) (hG : GT c e N V (T2 ++ T)) (hE : WE u c N V (T2 ++ T)) (hC : TC u (T2 ++ T)) : ∃ u', fX5_unbind (zI T.length) u = some u' ∧ WE u' c N V T ∧ TC u' T ∧ Fr PB u u' := by
  obtain ⟨g1, g2, g3⟩ := GT_keys hV hG
  have hl2 : T2.length ≤ 220 := by rw [List.length_append] at g3; omega
  obtain ⟨u', r1, r2, r3, r4⟩ := unbind_loop T2 FU u (by unfold FU; omega) g1 g2 g3 hE.2.2.2 hC
  exact ⟨u', r1, ⟨fun p hp => by rw [Fr_I r4 rfl]; exact hE.1 p hp, hE.2.1, hE.2.2.1, r2⟩, r3, r4⟩
theorem takeBack_spec {c : Nat → Int} {e : Nat → Nat} {N : Nat} {V : Int} {T T2 : List (Nat × Nat × Int)} {u : St} (hV : V ≤ 220) (hG : GT c e N V (T2 ++ T)) (hE : RE u c e N V (T2 ++ T)) (hC : TR u (T2 ++ T)) : ∃ u', fX12_takeBack (zI T.length) u = some u' ∧ RE u' c e N V T ∧ TR u' T ∧ Fr (fun k i => k == 154 || (k == 100 && i == 93)) u u' := by
  obtain ⟨g1, g2, g3⟩ := GT_keys hV hG
  have hl2 : T2.length ≤ 220 := by rw [List.length_append] at g3; omega
  obtain ⟨u', r1, r2, r3, r4⟩ := takeBack_loop hV T2 FU u (by unfold FU; omega) g1 g2 g3 hE.2.2 hC
  exact ⟨u', r1, ⟨RT_fr r4 (fun _ => rfl) (fun _ => rfl) (fun _ => rfl) hE.1, hE.2.1, r2⟩, r3, r4⟩
