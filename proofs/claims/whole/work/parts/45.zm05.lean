/-! walks: steps -/
theorem more_push (w : Nat) (hw : w < 3) (rec : Nat → Int32 → St → Option (Int32 × St)) (x1 : Int) (hx0 : 0 ≤ x1) (hx : x1 < 1000000) (u : St) (L a v : Nat) (b ca : Int) (n : Nat) (y : Nat × Int) (hL : L < 221) (ht : I u (11 + w) 5 = (L : Int)) (ha : I u (20 + 3 * w) L = a) (hb : I u (21 + 3 * w) L = b) (hn : I u (22 + 3 * w) L = (n : Int) + 1) (haN : a < 20000) (hc : I u 32 a = ca) (hca : ca < 0) (hv : b - 1 - ca = v) (hv2 : v < 220) (h62 : I u 62 v = y.1) (h63 : I u 63 v = y.2) :
    ∃ U, fX9_more_L0_0 w rec (zI x1) u = rec 0 (zI (x1 + 1)) U ∧ I U (11 + w) 5 = (L : Int) + 1 ∧ (∀ i, I U (20 + 3 * w) i = if i = L + 1 then (y.1 : Int) else if i = L then (a : Int) + 1 else I u (20 + 3 * w) i) ∧ (∀ i, I U (21 + 3 * w) i = if i = L + 1 then y.2 else I u (21 + 3 * w) i) ∧ (∀ i, I U (22 + 3 * w) i = if i = L + 1 then 1 else if i = L then (n : Int) else I u (22 + 3 * w) i) ∧ Fr (PW w) u U := by
  have b1 := I_lo u (22 + 3 * w) L
  have b2 := I_hi u (22 + 3 * w) L
  have b3 := I_lo u (21 + 3 * w) L
  have b4 := I_hi u (21 + 3 * w) L
  have b5 := I_lo u 63 v
  have b6 := I_hi u 63 v
  have b7 := I_lo u 62 v
  have b8 := I_hi u 62 v
  have b9 := I_lo u 32 a
  rw [hn] at b1 b2
  rw [hb] at b3 b4
  rw [h63] at b5 b6
  rw [h62] at b7 b8
  rw [hc] at b9
  have e1 : ((L : Int) + 1).toNat = L + 1 := by omega
  unfold fX9_more_L0_0
  simp (disch := omega) only [z_lit, z_le, z_lt, z_eq, gI_z, ht, ld_z, st_z, bd_s, lt_e, z_add, z_sub, e1, if_neg, if_pos, if_true, if_false, Int.toNat_natCast, ha, hb, hn, hc, hv, h62, h63, I_uI2, I_uI1]
  refine ⟨_, rfl, ?_, ?_, ?_, ?_, ?_⟩
  · simp (disch := omega) only [I_uI1, I_uI2]
  · intro i
    by_cases h1 : i = L + 1
    · subst h1; simp (disch := omega) only [I_uI1, I_uI2, if_pos, if_true]
    · by_cases h2 : i = L
      · subst h2; simp (disch := omega) only [I_uI1, I_uI2, if_pos, if_neg, if_true]
      · simp (disch := omega) only [I_uI1, I_uI2, if_pos, if_neg, if_true]
  · intro i
    by_cases h1 : i = L + 1
    · subst h1; simp (disch := omega) only [I_uI1, I_uI2, if_pos, if_true]
    · simp (disch := omega) only [I_uI1, I_uI2, if_pos, if_neg, if_true]
  · intro i
    by_cases h1 : i = L + 1
    · subst h1; simp (disch := omega) only [I_uI1, I_uI2, if_pos, if_true]
    · by_cases h2 : i = L
      · subst h2; simp (disch := omega) only [I_uI1, I_uI2, if_pos, if_neg, if_true]; omega
      · simp (disch := omega) only [I_uI1, I_uI2, if_pos, if_neg, if_true]
  · repeat (first | exact Fr_rfl _ _ | refine Fr_up (by simp [PW]) ?_)
theorem more_stop (w : Nat) (hw : w < 3) (rec : Nat → Int32 → St → Option (Int32 × St)) (x1 : Int) (hx0 : 0 ≤ x1) (hx : x1 < 1000000) (u : St) (L a : Nat) (b ca : Int) (n : Nat) (hL : L < 222) (ht : I u (11 + w) 5 = (L : Int)) (ha : I u (20 + 3 * w) L = a) (hb : I u (21 + 3 * w) L = b) (hn : I u (22 + 3 * w) L = (n : Int) + 1) (haN : a < 20000) (hc : I u 32 a = ca) (hs : ca < 0 → ∃ v : Nat, b - 1 - ca = v ∧ v < 220 ∧ I u 62 v = -1) :
    fX9_more_L0_0 w rec (zI x1) u = some (1, u) := by
  have b1 := I_lo u (22 + 3 * w) L
  have b2 := I_hi u (22 + 3 * w) L
  have b3 := I_lo u (21 + 3 * w) L
  have b4 := I_hi u (21 + 3 * w) L
  have b9 := I_lo u 32 a
  have b10 := I_hi u 32 a
  rw [hn] at b1 b2
  rw [hb] at b3 b4
  rw [hc] at b9 b10
  unfold fX9_more_L0_0
  by_cases hca : ca < 0
  · obtain ⟨v, h1, h2, h3⟩ := hs hca
    simp (disch := omega) only [z_lit, z_le, z_lt, z_eq, z_neg, gI_z, ht, ld_z, st_z, bd_s, lt_e, z_add, z_sub, if_neg, if_pos, if_true, if_false, Int.toNat_natCast, ha, hb, hn, hc, h1, h3]
  · simp (disch := omega) only [z_lit, z_le, z_lt, z_eq, gI_z, ht, ld_z, st_z, bd_s, lt_e, z_add, z_sub, if_neg, if_pos, if_true, if_false, Int.toNat_natCast, ha, hb, hn, hc]
theorem more_end (w : Nat) (hw : w < 3) (rec : Nat → Int32 → St → Option (Int32 × St)) (x1 : Int) (hx0 : 0 ≤ x1) (hx : x1 < 1000000) (u : St) (ht : I u (11 + w) 5 = 0) (hn : I u (22 + 3 * w) 0 = 0) : fX9_more_L0_0 w rec (zI x1) u = some (0, u) := by
  unfold fX9_more_L0_0
  have e0 : (0 : Int).toNat = 0 := rfl
  simp (disch := omega) only [z_lit, z_le, z_lt, z_eq, gI_z, ht, ld_z, bd_s, lt_e, if_neg, if_pos, if_true, if_false, e0, hn]
theorem Ch_len {c : Nat → Int} {e : Nat → Nat} {N : Nat} {V : Int} {T : List (Nat × Nat × Int)} {ρ : Nat → Nat} (hB : BOK c e N V T ρ) (ws : List Nat) (h : Ch c e N V T ws) : ws.length ≤ 220 := by
  cases ws with
  | nil => simp
  | cons w ws =>
    obtain ⟨h1, ⟨z, h2, h3⟩, h4⟩ := h
    have h5 := Sub_OK hB ws h4 z h2
    have h6 : ρ w < 220 - ws.length := (h3 _ h5.2).2.2 h1
    simp only [List.length_cons]; omega
theorem more_at {c : Nat → Int} {e : Nat → Nat} {N : Nat} {V : Int} {T : List (Nat × Nat × Int)} {ρ : Nat → Nat} (hT : TOK c e N) (hB : BOK c e N V T ρ) (w : Nat) (hw : w < 3) (fuel : Nat) (x1 : Int) (u : St) (a : Nat) (b : Int) (n : Nat) (fs : List (Nat × Int × Nat)) (ws : List Nat) (hf : 0 < fuel) (hx0 : 0 ≤ x1) (hx : x1 < 1000000) (hE : WE u c N V T) (hW : WOK w u c e N V T (a, b, n + 1) fs ws) (hs : stop c T (a, b)) : fX9_more_L0 w fuel 0 (zI x1) u = some (1, u) := by
  obtain ⟨f, rfl⟩ : ∃ f, fuel = f + 1 := ⟨fuel - 1, by omega⟩
  obtain ⟨w1, w2, w3, w4⟩ := hW
  obtain ⟨e1, e2, e3, e4⟩ := hE
  have hlen := Ch_len hB ws w4
  have hl2 := w3.1
  have hO := Sub_OK hB ws w4 (a, b) (w3.2.2.1 (a, b) (by simp [items]))
  refine more_stop w hw _ x1 hx0 (by omega) u fs.length a b (c a) n (by omega) w1 w2.1 w2.2.1 (by have := w2.2.2.1; simpa using this) (by have := hO.1; simp only at this; omega) (e1 a hO.1) ?_
  intro hc
  have h1 := OK_head hT hO hc
  have h2 := hs hc
  refine ⟨(hv c (a, b)).toNat, ?_, ?_, ?_⟩
  · have h3 := h1.1; unfold hv at h3 ⊢; simp only at h3 ⊢; omega
  · have h3 := h1.2.1; have := h1.1; omega
  · exact (e4 _ (by have h3 := h1.2.1; have := h1.1; omega)).1 h2
theorem more_der {c : Nat → Int} {e : Nat → Nat} {N : Nat} {V : Int} {T : List (Nat × Nat × Int)} {ρ : Nat → Nat} (hT : TOK c e N) (hB : BOK c e N V T ρ) (w : Nat) (hw : w < 3) (r : Nat) : ∀ (fuel : Nat) (x1 : Int) (u : St) (a : Nat) (b : Int) (n : Nat) (fs : List (Nat × Int × Nat)) (ws : List Nat), OK c e N V T ρ r (a, b) → r < fuel → 0 ≤ x1 → x1 + r < 1000000 → WE u c N V T → WOK w u c e N V T (a, b, n + 1) fs ws →
    ∃ u' a' b' n' fs' ws', fX9_more_L0 w fuel 0 (zI x1) u = some (1, u') ∧ WOK w u' c e N V T (a', b', n' + 1) fs' ws' ∧ (a', b') = dr c T (a, b) ∧ stop c T (a', b') ∧ items e n' (e a') b' ++ flat e fs' = items e n (e a) b ++ flat e fs ∧ Fr (PW w) u u' := by
  induction r with
  | zero =>
    intro fuel x1 u a b n fs ws hO hf hx0 hx hE hW
    have hs : stop c T (a, b) := by
      intro hc
      have := OK_head hT hO hc
      by_cases hn : lk T (hv c (a, b)).toNat = none
      · exact hn
      · exact absurd (this.2.2 hn) (Nat.not_lt_zero _)
    exact ⟨u, a, b, n, fs, ws, more_at hT hB w hw fuel x1 u a b n fs ws (by omega) hx0 (by omega) hE hW hs, hW, (dr_stop hs).symm, hs, rfl, Fr_rfl _ _⟩
  | succ r ih =>
    intro fuel x1 u a b n fs ws hO hf hx0 hx hE hW
    by_cases hs : stop c T (a, b)
    · exact ⟨u, a, b, n, fs, ws, more_at hT hB w hw fuel x1 u a b n fs ws (by omega) hx0 (by omega) hE hW hs, hW, (dr_stop hs).symm, hs, rfl, Fr_rfl _ _⟩
    · have hc : c a < 0 := by
        apply Classical.byContradiction; intro hc; exact hs (fun h => absurd h hc)
      cases hy : lk T (hv c (a, b)).toNat with
      | none => exact absurd (fun _ => hy) hs
      | some y =>
        obtain ⟨f, rfl⟩ : ∃ f, fuel = f + 1 := ⟨fuel - 1, by omega⟩
        have hq := OK_head hT hO hc
        have hq2 := hq.2.2 (by rw [hy]; simp)
        have hB2 := hB _ _ hy
        have hWc := hW
        obtain ⟨w1, w2, w3, w4⟩ := hW
        have hEc := hE
        obtain ⟨e1, e2, e3, e4⟩ := hE
        have hl2 := w3.1
        have hSa : Sub c e N V T ws (a, b) := w3.2.2.1 (a, b) (by simp [items])
        have hO2 := Sub_OK hB ws w4 (a, b) hSa
        have hq3 := (OK_head hT hO2 hc).2.2 (by rw [hy]; simp)
        have hvv : ((hv c (a, b)).toNat : Int) = hv c (a, b) := by have := hq.1; omega
        have hcha : Ch c e N V T ((hv c (a, b)).toNat :: ws) := by
          refine ⟨by rw [hy]; simp, ⟨(a, b), hSa, ?_⟩, w4⟩
          intro Q hQ
          rw [hvv]
          exact hQ.2 a (Nat.le_refl _) (hT _ hO.1).2.1 hc
        have hea : e a = a + 1 := by
          have := (hT _ hO.1).2.2.2.1
          have h0 : ar c a = 0 := by unfold ar; rw [if_pos hc]
          simp only [] at this
          rw [h0] at this; exact this
        have hbc := (e4 (hv c (a, b)).toNat (by have := hq.2.1; omega)).2 y hy
        obtain ⟨U, u1, u2, u3, u4, u5, u6⟩ := more_push w hw (fX9_more_L0 w f) x1 hx0 (by omega) u fs.length a (hv c (a, b)).toNat b (c a) n y (by omega) w1 w2.1 w2.2.1 (by have := w2.2.2.1; simpa using this) (by have := hO.1; simp only at this; omega) (e1 a hO.1) hc (by rw [hvv]; rfl) (by have := hq.2.1; omega) hbc.1 hbc.2
        have hE' : WE U c N V T := WE_fr u6 (fun i => PW_other i (by omega) (by omega) (by omega) (by omega)) (fun i => PW_other i (by omega) (by omega) (by omega) (by omega)) (fun i => PW_other i (by omega) (by omega) (by omega) (by omega)) hEc
        have hyN : y.1 < N := hB2.2.2.1
        have hW' : WOK w U c e N V T (y.1, y.2, 0 + 1) ((a + 1, b, n) :: fs) ((hv c (a, b)).toNat :: ws) := by
          refine ⟨by rw [u2]; simp, ⟨?_, ?_, ?_, ?_, ?_, ?_, ?_⟩, ⟨by simp [hl2], ?_, ?_, ?_⟩, hcha⟩
          · rw [u3]; simp
          · rw [u4]; simp
          · rw [u5]; simp
          · rw [u3]; simp
          · rw [u4, if_neg (by omega)]; exact w2.2.1
          · rw [u5]; simp
          · refine WA_eq fs fs.length (Nat.le_refl _) ?_ w2.2.2.2
            intro i hi
            rw [u3, u4, u5, if_neg (by omega), if_neg (by omega), if_neg (by omega), if_neg (by omega), if_neg (by omega)]
            exact ⟨rfl, rfl, rfl⟩
          · exact ⟨hyN, (hT _ hyN).2.1, by
              show e y.1 ≤ N
              have h5 := (hT _ hyN).2.2.2
              rw [h5.1]; exact (sg_le h5.2).2⟩
          · intro x hx
            simp only [items, List.mem_cons, List.not_mem_nil, or_false] at hx
            subst hx
            exact ⟨hyN, y, hy, fun Q hQ => hQ⟩
          · refine ⟨hl2, ?_, ?_, w3.2.2.2⟩
            · have := w3.2.1
              simp only [sg] at this
              rw [hea] at this
              exact this.2.2
            · intro x hx
              refine w3.2.2.1 x ?_
              simp only [items, List.mem_cons]
              rw [hea]; exact Or.inr hx
        obtain ⟨u', a', b', n', fs', ws', r1, r2, r3, r4, r5, r6⟩ := ih f (x1 + 1) U y.1 y.2 0 ((a + 1, b, n) :: fs) ((hv c (a, b)).toNat :: ws) (OK_mono (by omega) hB2.2.2) (by omega) (by omega) (by omega) hE' hW'
        refine ⟨u', a', b', n', fs', ws', u1.trans r1, r2, ?_, r4, ?_, Fr_tr u6 r6⟩
        · rw [r3]; exact (dr_go hT hB hc hy).symm
        · rw [r5]; simp [items, flat, hea]
theorem more_loop {c : Nat → Int} {e : Nat → Nat} {N : Nat} {V : Int} {T : List (Nat × Nat × Int)} {ρ : Nat → Nat} (hT : TOK c e N) (hB : BOK c e N V T ρ) (w : Nat) (hw : w < 3) (fs : List (Nat × Int × Nat)) : ∀ (fuel : Nat) (x1 : Int) (u : St) (f : Nat × Int × Nat) (ws : List Nat), fs.length + 230 < fuel → 0 ≤ x1 → x1 + fs.length + 230 < 1000000 → WE u c N V T → WOK w u c e N V T f fs ws →
    (flat e (f :: fs) = [] ∧ ∃ u', fX9_more_L0 w fuel 0 (zI x1) u = some (0, u') ∧ Fr (PW w) u u') ∨
    (∃ x l, flat e (f :: fs) = x :: l ∧ ∃ u' a' b' n' fs' ws', fX9_more_L0 w fuel 0 (zI x1) u = some (1, u') ∧ WOK w u' c e N V T (a', b', n' + 1) fs' ws' ∧ (a', b') = dr c T x ∧ stop c T (a', b') ∧ items e n' (e a') b' ++ flat e fs' = l ∧ Fr (PW w) u u') := by
  induction fs with
  | nil =>
    intro fuel x1 u f ws hf hx0 hx hE hW
    obtain ⟨a, b, n⟩ := f
    cases n with
    | zero =>
      refine Or.inl ⟨rfl, u, ?_, Fr_rfl _ _⟩
      obtain ⟨g, rfl⟩ : ∃ g, fuel = g + 1 := ⟨fuel - 1, by omega⟩
      exact more_end w hw _ x1 hx0 (by omega) u hW.1 hW.2.1.2.2.1
    | succ n =>
      refine Or.inr ⟨(a, b), items e n (e a) b ++ flat e [], rfl, ?_⟩
      have hO := Sub_OK hB ws hW.2.2.2 (a, b) (hW.2.2.1.2.2.1 (a, b) (by simp [items]))
      exact more_der hT hB w hw (220 - ws.length) fuel x1 u a b n [] ws hO (by omega) hx0 (by omega) hE hW
  | cons g fs ih =>
    intro fuel x1 u f ws hf hx0 hx hE hW
    obtain ⟨a, b, n⟩ := f
    cases n with
    | zero =>
      obtain ⟨m, rfl⟩ : ∃ m, fuel = m + 1 := ⟨fuel - 1, by omega⟩
      have hlen := Ch_len hB ws hW.2.2.2
      have hl2 := hW.2.2.1.1
      simp only [List.length_cons] at hl2 hf hx
      obtain ⟨U, u1, u2, u3, u4⟩ := more_pop w hw (fX9_more_L0 w m) x1 hx0 (by omega) u fs.length (by omega) (by have := hW.1; simpa using this) (by have := hW.2.1.2.2.1; simp only [List.length_cons] at this; rw [this]; decide)
      have hE' : WE U c N V T := WE_fr u4 (fun i => PW_other i (by omega) (by omega) (by omega) (by omega)) (fun i => PW_other i (by omega) (by omega) (by omega) (by omega)) (fun i => PW_other i (by omega) (by omega) (by omega) (by omega)) hE
      have hW' : WOK w U c e N V T g fs ws.tail := by
        refine ⟨u2, WA_eq _ _ (Nat.le_refl _) (fun i _ => ⟨u3 _ _ (by omega), u3 _ _ (by omega), u3 _ _ (by omega)⟩) hW.2.1.2.2.2, hW.2.2.1.2.2.2, ?_⟩
        have := hW.2.2.2
        cases ws with
        | nil => trivial
        | cons z zs => exact this.2.2
      have := ih m (x1 + 1) U g ws.tail (by omega) (by omega) (by omega) hE' hW'
      have hfl : flat e ((a, b, 0) :: g :: fs) = flat e (g :: fs) := by simp [flat, items]
      rw [hfl]
      rcases this with ⟨h1, u', h2, h3⟩ | ⟨x, l, h1, u', a', b', n', fs', ws', h2, h3, h4, h5, h6, h7⟩
      · exact Or.inl ⟨h1, u', u1.trans h2, Fr_tr u4 h3⟩
      · exact Or.inr ⟨x, l, h1, u', a', b', n', fs', ws', u1.trans h2, h3, h4, h5, h6, Fr_tr u4 h7⟩
    | succ n =>
      refine Or.inr ⟨(a, b), items e n (e a) b ++ flat e (g :: fs), rfl, ?_⟩
      have hO := Sub_OK hB ws hW.2.2.2 (a, b) (hW.2.2.1.2.2.1 (a, b) (by simp [items]))
      exact more_der hT hB w hw (220 - ws.length) fuel x1 u a b n (g :: fs) ws hO (by omega) hx0 (by omega) hE hW
/-- THE CONTRACT of more -/
theorem more_spec {c : Nat → Int} {e : Nat → Nat} {N : Nat} {V : Int} {T : List (Nat × Nat × Int)} {ρ : Nat → Nat} (hT : TOK c e N) (hB : BOK c e N V T ρ) (w : Nat) (hw : w < 3) {u : St} {f : Nat × Int × Nat} {fs : List (Nat × Int × Nat)} {ws : List Nat} (hE : WE u c N V T) (hW : WOK w u c e N V T f fs ws) :
    (flat e (f :: fs) = [] ∧ ∃ u', fX9_more w u = some (0, u') ∧ Fr (PW w) u u') ∨
    (∃ x l, flat e (f :: fs) = x :: l ∧ ∃ u' a' b' n' fs' ws', fX9_more w u = some (1, u') ∧ WOK w u' c e N V T (a', b', n' + 1) fs' ws' ∧ (a', b') = dr c T x ∧ stop c T (a', b') ∧ items e n' (e a') b' ++ flat e fs' = l ∧ Fr (PW w) u u') := by
  have hlen := Ch_len hB ws hW.2.2.2
  have hl2 := hW.2.2.1.1
  exact more_loop hT hB w hw fs FU 0 u f ws (by unfold FU; omega) (Int.le_refl _) (by omega) hE hW
