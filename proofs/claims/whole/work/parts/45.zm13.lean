/-! the heads of the unifying loops -/
def sv (c : Nat → Int) (x : Nat × Int) : Int := if c x.1 < 0 then x.2 - 1 - c x.1 else -1
theorem sv_rng {c : Nat → Int} {e : Nat → Nat} {N : Nat} {V : Int} {T : List (Nat × Nat × Int)} {ρ : Nat → Nat} {r : Nat} (hT : TOK c e N) {x : Nat × Int} (h : OK c e N V T ρ r x) : (c x.1 < 0 ∧ 0 ≤ sv c x ∧ sv c x < V ∧ sv c x = hv c x) ∨ (0 ≤ c x.1 ∧ sv c x = -1) := by
  unfold sv
  by_cases hc : c x.1 < 0
  · have := OK_head hT h hc
    rw [if_pos hc]
    exact Or.inl ⟨hc, this.1, this.2.1, rfl⟩
  · rw [if_neg hc]; exact Or.inr ⟨by omega, rfl⟩
def PU : Nat → Nat → Bool := fun k i => PW 0 k 0 || PW 1 k 0 || PW 2 k 0 || k == 8 || k == 62 || k == 63 || k == 64 || (k == 7 && i == 11)
theorem PU_PW {w : Nat} (hw : w < 3) {u u' : St} (h : Fr (PW w) u u') : Fr PU u u' := Fr_mono (fun k i hk => by
  unfold PU at hk
  simp only [Bool.or_eq_false_iff] at hk
  obtain ⟨⟨⟨⟨⟨⟨⟨h1, h2⟩, h3⟩, _⟩, _⟩, _⟩, _⟩, _⟩ := hk
  have : w = 0 ∨ w = 1 ∨ w = 2 := by omega
  rcases this with h | h | h <;> subst h <;> assumption) h
theorem PU_PS {u u' : St} (h : Fr PS u u') : Fr PU u u' := Fr_mono (fun k i hk => by
  unfold PU at hk
  simp only [Bool.or_eq_false_iff] at hk
  obtain ⟨⟨⟨⟨⟨⟨⟨h1, h2⟩, h3⟩, h4⟩, _⟩, _⟩, _⟩, _⟩ := hk
  unfold PS; simp only [Bool.or_eq_false_iff]; exact ⟨h3, h4⟩) h
theorem PU_PB {u u' : St} (h : Fr PB u u') : Fr PU u u' := Fr_mono (fun k i hk => by
  unfold PU at hk
  simp only [Bool.or_eq_false_iff] at hk
  obtain ⟨⟨⟨⟨⟨⟨⟨h1, h2⟩, h3⟩, h4⟩, h5⟩, h6⟩, h7⟩, h8⟩ := hk
  unfold PB; simp only [Bool.or_eq_false_iff]; exact ⟨⟨⟨h5, h6⟩, h7⟩, h8⟩) h
theorem WE_PW {w : Nat} (hw : w < 3) {u u' : St} {c : Nat → Int} {N : Nat} {V : Int} {T : List (Nat × Nat × Int)} (hF : Fr (PW w) u u') (h : WE u c N V T) : WE u' c N V T := WE_fr hF (fun i => PW_other i (by omega) (by omega) (by omega) (by omega)) (fun i => PW_other i (by omega) (by omega) (by omega) (by omega)) (fun i => PW_other i (by omega) (by omega) (by omega) (by omega)) h
theorem TC_PW {w : Nat} (hw : w < 3) {u u' : St} {T : List (Nat × Nat × Int)} (hF : Fr (PW w) u u') (h : TC u T) : TC u' T := ⟨by rw [Fr_I hF (PW_other 11 (by omega) (by omega) (by omega) (by omega))]; exact h.1, TL_fr hF (fun i => PW_other i (by omega) (by omega) (by omega) (by omega)) h.2⟩
theorem WOK_PW {w w' : Nat} (hw : w < 3) (hw' : w' < 3) (hne : w ≠ w') {u u' : St} {c : Nat → Int} {e : Nat → Nat} {N : Nat} {V : Int} {T : List (Nat × Nat × Int)} {f : Nat × Int × Nat} {fs : List (Nat × Int × Nat)} {ws : List Nat} (hF : Fr (PW w) u u') (h : WOK w' u c e N V T f fs ws) : WOK w' u' c e N V T f fs ws := WOK_fr hF (PW_other 5 (by omega) (by omega) (by omega) (by omega)) (fun i => PW_other i (by omega) (by omega) (by omega) (by omega)) (fun i => PW_other i (by omega) (by omega) (by omega) (by omega)) (fun i => PW_other i (by omega) (by omega) (by omega) (by omega)) h
theorem cu_go (G : Nat) (u u1 u4 : St) (k : Int) (s s2 ca ca2 : Int) (hk0 : 0 ≤ k) (hk : k < 4000) (h1 : fX9_more 0 u = some (1, u1)) (h2 : fX9_more 1 u1 = some (1, u4)) (h3 : I u4 8 5 = k) (hs1 : -1 ≤ s) (hs2 : s < 1000) (hs3 : -1 ≤ s2) (hs4 : s2 < 1000) (hca1 : -2147483648 ≤ ca) (hca2 : ca < 2147483648) (hca3 : -2147483648 ≤ ca2) (hca4 : ca2 < 2147483648)
    (h4 : fX9_variable 0 (uI u4 8 5 (zI (k + 1))) = some (zI s, uI u4 8 5 (zI (k + 1)))) (h5 : fX9_variable 1 (uI u4 8 5 (zI (k + 1))) = some (zI s2, uI u4 8 5 (zI (k + 1)))) (h6 : fX9_symbol 0 (uI u4 8 5 (zI (k + 1))) = some (zI ca, uI u4 8 5 (zI (k + 1)))) (h7 : fX9_symbol 1 (uI u4 8 5 (zI (k + 1))) = some (zI ca2, uI u4 8 5 (zI (k + 1)))) :
    fX8_unify_L0 (G + 1) 0 0 0 0 u = if 0 ≤ s ∨ 0 ≤ s2 then fX8_unify_L0 G 1 (zI s) (zI s2) 0 (uI u4 8 5 (zI (k + 1))) else if ca = ca2 then (bd (fX9_enter 0 (uI u4 8 5 (zI (k + 1)))) fun u20 => bd (fX9_enter 1 u20) fun u21 => fX8_unify_L0 G 0 0 0 0 u21) else some (0, uI u4 8 5 (zI (k + 1))) := by
  show fX8_unify_L0_0 (fX8_unify_L0 G) u = _
  generalize fX8_unify_L0 G = R
  unfold fX8_unify_L0_0
  simp (disch := omega) only [h1, h2, b2_s, lt_e, z_lit, z_eq, if_neg, if_false, gI_z, h3, z_add, I_uI1, z_le, if_pos, if_true, h4, h5, h6, h7]
  by_cases c1 : 0 ≤ s
  · simp only [c1, if_true, true_or]
  · by_cases c2 : 0 ≤ s2
    · simp only [c1, c2, if_true, if_false, or_true]
    · simp only [c1, c2, if_false, or_false]
theorem cu_full (G : Nat) (u u1 u4 : St) (h1 : fX9_more 0 u = some (1, u1)) (h2 : fX9_more 1 u1 = some (1, u4)) (h3 : I u4 8 5 = 4000) :
    fX8_unify_L0 (G + 1) 0 0 0 0 u = some (2, uI u4 8 5 (zI 4001)) := by
  show fX8_unify_L0_0 (fX8_unify_L0 G) u = _
  generalize fX8_unify_L0 G = R
  unfold fX8_unify_L0_0
  simp (disch := omega) only [h1, h2, b2_s, lt_e, z_lit, z_eq, if_neg, if_false, gI_z, h3, z_add, I_uI1, z_le]
  rfl
theorem cu_end (G : Nat) (u u1 : St) (h1 : fX9_more 0 u = some (0, u1)) :
    fX8_unify_L0 (G + 1) 0 0 0 0 u = some (1, u1) := by
  show fX8_unify_L0_0 (fX8_unify_L0 G) u = _
  unfold fX8_unify_L0_0
  rw [h1, b2_s, if_pos rfl]
/-- two walks move to their next places -/
theorem two_more {c : Nat → Int} {e : Nat → Nat} {N : Nat} {V : Int} {T : List (Nat × Nat × Int)} {ρ : Nat → Nat} (hT : TOK c e N) (hB : BOK c e N V T ρ) {u : St} {f g : Nat × Int × Nat} {fs gs : List (Nat × Int × Nat)} {ws zs : List Nat} {x y : Nat × Int} {la lb : List (Nat × Int)} (hE : WE u c N V T) (hW : WOK 0 u c e N V T f fs ws) (hZ : WOK 1 u c e N V T g gs zs) (hla : flat e (f :: fs) = x :: la) (hlb : flat e (g :: gs) = y :: lb) :
    ∃ u1 u4 a b n1 fs' ws' a2 b2 n2 gs' zs', fX9_more 0 u = some (1, u1) ∧ fX9_more 1 u1 = some (1, u4) ∧ (a, b) = dr c T x ∧ (a2, b2) = dr c T y ∧ stop c T (a, b) ∧ stop c T (a2, b2) ∧ WOK 0 u4 c e N V T (a, b, n1 + 1) fs' ws' ∧ WOK 1 u4 c e N V T (a2, b2, n2 + 1) gs' zs' ∧ items e n1 (e a) b ++ flat e fs' = la ∧ items e n2 (e a2) b2 ++ flat e gs' = lb ∧ WE u4 c N V T ∧ Fr (fun k _ => PW 0 k 0 || PW 1 k 0) u u4 := by
  rcases more_spec hT hB 0 (by decide) hE hW with ⟨h1, _⟩ | ⟨x', l, h1, u1, a, b, n1, fs', ws', h2, h3, h4, h5, h6, h7⟩
  · rw [hla] at h1; cases h1
  · rw [hla] at h1
    cases h1
    have hE1 := WE_PW (by decide) h7 hE
    have hZ1 := WOK_PW (by decide) (by decide) (by decide) h7 hZ
    rcases more_spec hT hB 1 (by decide) hE1 hZ1 with ⟨k1, _⟩ | ⟨y', l', k1, u4, a2, b2, n2, gs', zs', k2, k3, k4, k5, k6, k7⟩
    · rw [hlb] at k1; cases k1
    · rw [hlb] at k1
      cases k1
      refine ⟨u1, u4, a, b, n1, fs', ws', a2, b2, n2, gs', zs', h2, k2, h4, k4, h5, k5, WOK_PW (by decide) (by decide) (by decide) k7 h3, k3, h6, k6, WE_PW (by decide) k7 hE1, ?_⟩
      refine Fr_tr (Fr_mono (fun k i hk => ?_) h7) (Fr_mono (fun k i hk => ?_) k7)
      · simp only [Bool.or_eq_false_iff] at hk; exact hk.1
      · simp only [Bool.or_eq_false_iff] at hk; exact hk.2
/-! the reference's head -/
def PRU : Nat → Nat → Bool := fun k i => PRB k i || PAN k i
theorem ru_pop (G : Nat) (v v3 v8 v13 : St) (L : Nat) (x y dx dy : Nat × Int) (s s2 t1 t2 : Int) (hL : L < 20100) (h111 : I v 100 111 = (L : Int) + 1) (h1 : fX12_counted (uI v 100 111 (zI L)) = some (zI 1, v3)) (h3 : I v3 100 111 = L) (hx : I v3 161 L = x.1) (hxb : I v3 162 L = x.2) (h4 : fX12_follow (zI x.1) (zI x.2) v3 = some v8) (h5 : I v8 100 95 = dx.1) (h6 : I v8 100 96 = dx.2) (h8 : I v8 100 111 = L) (hy : I v8 163 L = y.1) (hyb : I v8 164 L = y.2) (h9 : fX12_follow (zI y.1) (zI y.2) v8 = some v13) (h10 : I v13 100 95 = dy.1) (h11 : I v13 100 96 = dy.2) (hdx : dx.1 < 20000) (hdy : dy.1 < 20000) (ht1 : I v13 111 dx.1 = t1) (ht2 : I v13 111 dy.1 = t2) (hs : s = if t1 < 0 then dx.2 - 1 - t1 else -1) (hs2 : s2 = if t2 < 0 then dy.2 - 1 - t2 else -1) (hr1 : -1 ≤ s) (hr2 : s < 1000) (hr3 : -1 ≤ s2) (hr4 : s2 < 1000) :
    fX12_unifyAll_L0 (G + 3) 0 0 0 0 0 0 0 0 v = if 0 ≤ s ∧ s = s2 then fX12_unifyAll_L0 G 0 0 0 0 0 0 0 0 v13 else fX12_unifyAll_L0 G 3 (zI dx.1) (zI dx.2) (zI dy.1) (zI dy.2) (zI s) (zI s2) 0 v13 := by
  have b1 := I_lo v13 111 dx.1
  have b2 := I_hi v13 111 dx.1
  have b3 := I_lo v13 111 dy.1
  have b4 := I_hi v13 111 dy.1
  rw [ht1] at b1 b2
  rw [ht2] at b3 b4
  have e1 : (L : Int) + 1 - 1 = L := by omega
  have st0 : fX12_unifyAll_L0 (G + 3) 0 0 0 0 0 0 0 0 v = fX12_unifyAll_L0 (G + 2) 1 (zI dx.1) (zI dx.2) (zI dy.1) (zI dy.2) 0 0 (zI s) v13 := by
    show fX12_unifyAll_L0_0 (fX12_unifyAll_L0 (G + 2)) v = _
    generalize fX12_unifyAll_L0 (G + 2) = R
    unfold fX12_unifyAll_L0_0
    by_cases hc : t1 < 0
    · rw [if_pos hc] at hs
      simp (disch := omega) only [z_lit, gI_z, h111, z_le, if_neg, if_false, lt_e, z_sub, e1, h1, b2_s, z_eq, h3, ld_z, bd_s, Int.toNat_natCast, hx, hxb, h4, h5, h6, h8, hy, hyb, h9, h10, h11, ht1, ← hs]
    · rw [if_neg hc] at hs
      subst hs
      simp (disch := omega) only [z_lit, gI_z, h111, z_le, if_neg, if_false, lt_e, z_sub, e1, h1, b2_s, z_eq, h3, ld_z, bd_s, Int.toNat_natCast, hx, hxb, h4, h5, h6, h8, hy, hyb, h9, h10, h11, ht1, if_pos, if_true, z_neg]
  have st1 : fX12_unifyAll_L0 (G + 2) 1 (zI dx.1) (zI dx.2) (zI dy.1) (zI dy.2) 0 0 (zI s) v13 = fX12_unifyAll_L0 (G + 1) 2 (zI dx.1) (zI dx.2) (zI dy.1) (zI dy.2) (zI s) 0 (zI s2) v13 := by
    show fX12_unifyAll_L0_1 (fX12_unifyAll_L0 (G + 1)) (zI dx.1) (zI dx.2) (zI dy.1) (zI dy.2) (zI s) v13 = _
    generalize fX12_unifyAll_L0 (G + 1) = R
    unfold fX12_unifyAll_L0_1
    by_cases hc : t2 < 0
    · rw [if_pos hc] at hs2
      simp (disch := omega) only [z_lit, gI_z, z_le, if_neg, if_false, z_sub, ld_z, bd_s, Int.toNat_natCast, ht2, ← hs2]
    · rw [if_neg hc] at hs2
      subst hs2
      simp (disch := omega) only [z_lit, gI_z, z_le, if_neg, if_false, z_sub, ld_z, bd_s, Int.toNat_natCast, ht2, if_pos, if_true, z_neg]
  have st2 : fX12_unifyAll_L0 (G + 1) 2 (zI dx.1) (zI dx.2) (zI dy.1) (zI dy.2) (zI s) 0 (zI s2) v13 = if 0 ≤ s ∧ s = s2 then fX12_unifyAll_L0 G 0 0 0 0 0 0 0 0 v13 else fX12_unifyAll_L0 G 3 (zI dx.1) (zI dx.2) (zI dy.1) (zI dy.2) (zI s) (zI s2) 0 v13 := by
    show fX12_unifyAll_L0_2 (fX12_unifyAll_L0 G) (zI dx.1) (zI dx.2) (zI dy.1) (zI dy.2) (zI s) (zI s2) v13 = _
    generalize fX12_unifyAll_L0 G = R
    unfold fX12_unifyAll_L0_2
    clear hs hs2 h1 h3 hx hxb h4 h5 h6 h8 hy hyb h9 h10 h11 ht1 ht2
    by_cases c1 : 0 ≤ s
    · by_cases c2 : s = s2
      · subst c2
        simp (disch := omega) only [z_lit, z_lt, z_eq, if_neg, if_false, if_pos, if_true, and_true]
      · rw [if_neg (show ¬ (0 ≤ s ∧ s = s2) from fun h => c2 h.2)]
        simp (disch := omega) only [z_lit, z_lt, z_eq, if_neg, if_false]
    · rw [if_neg (show ¬ (0 ≤ s ∧ s = s2) from fun h => c1 h.1)]
      simp (disch := omega) only [z_lit, z_lt, if_pos, if_true]
  rw [st0, st1, st2]
