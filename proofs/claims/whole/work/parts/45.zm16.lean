/-! UNIFYING: the loop -/
def UE (u v : St) (c : Nat → Int) (e : Nat → Nat) (N : Nat) (V : Int) (T : List (Nat × Nat × Int)) : Prop := GT c e N V T ∧ WE u c N V T ∧ TC u T ∧ RE v c e N V T ∧ TR v T
def UO (r r' full : Int) : Prop := (r = 1 ∧ r' = 1 ∧ full = 0) ∨ (r = 0 ∧ r' = 0 ∧ full = 0) ∨ (r = 2 ∧ r' = 0 ∧ full = 1)
theorem TR_fr {P : Nat → Nat → Bool} {v v' : St} {T : List (Nat × Nat × Int)} (hF : Fr P v v') (h1 : P 100 93 = false) (h2 : ∀ i, P 156 i = false) (h : TR v T) : TR v' T := ⟨by rw [Fr_I hF h1]; exact h.1, TL_fr hF h2 h.2⟩
theorem TC_fr {P : Nat → Nat → Bool} {v v' : St} {T : List (Nat × Nat × Int)} (hF : Fr P v v') (h1 : P 7 11 = false) (h2 : ∀ i, P 64 i = false) (h : TC v T) : TC v' T := ⟨by rw [Fr_I hF h1]; exact h.1, TL_fr hF h2 h.2⟩
theorem P5_PRU {u u' : St} (h : Fr (fun k i => k == 100 && (i == 95 || i == 96 || i == 97 || i == 98 || i == 111)) u u') : Fr PRU u u' := Fr_mono (fun k i hk => by
  unfold PRU PRB PRS PAN at hk
  by_cases h1 : k = 100
  · subst h1; simp at hk ⊢; omega
  · simp [h1]) h
theorem two_skip {c : Nat → Int} {e : Nat → Nat} {N : Nat} {V : Int} {T : List (Nat × Nat × Int)} {ρ : Nat → Nat} (hT : TOK c e N) (hB : BOK c e N V T ρ) {u : St} {a a2 : Nat} {b b2 : Int} {n n2 : Nat} {fs gs : List (Nat × Int × Nat)} {ws zs : List Nat} (hE : WE u c N V T) (hTC : TC u T) (hW : WOK 0 u c e N V T (a, b, n + 1) fs ws) (hZ : WOK 1 u c e N V T (a2, b2, n2 + 1) gs zs) : ∃ u1 u2, fX9_skip 0 u = some u1 ∧ fX9_skip 1 u1 = some u2 ∧ WOK 0 u2 c e N V T (e a, b, n) fs ws ∧ WOK 1 u2 c e N V T (e a2, b2, n2) gs zs ∧ WE u2 c N V T ∧ TC u2 T ∧ I u2 8 5 = I u 8 5 ∧ Fr PU u u2 := by
  obtain ⟨u1, h1, h2, h3⟩ := skip_spec hT hB 0 (by decide) hE hW
  obtain ⟨u2, k1, k2, k3⟩ := skip_spec hT hB 1 (by decide) (WE_PW (by decide) h3 hE) (WOK_PW (by decide) (by decide) (by decide) h3 hZ)
  exact ⟨u1, u2, h1, k1, WOK_PW (by decide) (by decide) (by decide) k3 h2, k2, WE_PW (by decide) k3 (WE_PW (by decide) h3 hE), TC_PW (by decide) k3 (TC_PW (by decide) h3 hTC), by rw [Fr_I k3 rfl, Fr_I h3 rfl], Fr_tr (PU_PW (by decide) h3) (PU_PW (by decide) k3)⟩
theorem two_enter {c : Nat → Int} {e : Nat → Nat} {N : Nat} {V : Int} {T : List (Nat × Nat × Int)} {ρ : Nat → Nat} (hT : TOK c e N) (hB : BOK c e N V T ρ) {u : St} {a a2 : Nat} {b b2 : Int} {n n2 : Nat} {fs gs : List (Nat × Int × Nat)} {ws zs : List Nat} (hE : WE u c N V T) (hTC : TC u T) (hW : WOK 0 u c e N V T (a, b, n + 1) fs ws) (hZ : WOK 1 u c e N V T (a2, b2, n2 + 1) gs zs) : ∃ u1 u2, fX9_enter 0 u = some u1 ∧ fX9_enter 1 u1 = some u2 ∧ WOK 0 u2 c e N V T (a + 1, b, ar c a + n) fs ws ∧ WOK 1 u2 c e N V T (a2 + 1, b2, ar c a2 + n2) gs zs ∧ WE u2 c N V T ∧ TC u2 T ∧ I u2 8 5 = I u 8 5 ∧ Fr PU u u2 := by
  obtain ⟨u1, h1, h2, h3⟩ := enter_spec hT hB 0 (by decide) hE hW
  obtain ⟨u2, k1, k2, k3⟩ := enter_spec hT hB 1 (by decide) (WE_PW (by decide) h3 hE) (WOK_PW (by decide) (by decide) (by decide) h3 hZ)
  exact ⟨u1, u2, h1, k1, WOK_PW (by decide) (by decide) (by decide) k3 h2, k2, WE_PW (by decide) k3 (WE_PW (by decide) h3 hE), TC_PW (by decide) k3 (TC_PW (by decide) h3 hTC), by rw [Fr_I k3 rfl, Fr_I h3 rfl], Fr_tr (PU_PW (by decide) h3) (PU_PW (by decide) k3)⟩
theorem GT_room {c : Nat → Int} {e : Nat → Nat} {N : Nat} {V : Int} {T : List (Nat × Nat × Int)} (hV : V ≤ 220) (h : GT c e N V T) {x : Nat} (hx : lk T x = none) (hxV : (x : Int) < V) : T.length < 220 := by
  obtain ⟨h0, o, h1, h2, h3⟩ := h
  have := ph 220 (x :: T.map (·.1)) (List.nodup_cons.2 ⟨lk_none hx, h0⟩) (fun w hw => by
    rcases List.mem_cons.1 hw with hw | hw
    · omega
    · cases hl : lk T w with
      | none => exact absurd hw (lk_none hl)
      | some y => have := h2 w (h3 w y hl).1; omega)
  simp only [List.length_cons, List.length_map] at this; omega
theorem cbind_left (u U : St) (s : Int) (s2 : Int32) (a b : Int32) (h0 : 0 ≤ s) (h1 : s < 1000) (hc : fX9_cell 1 u = some (a, u)) (hb : fX9_cellBase 1 u = some (b, u)) (h : fX5_bind (zI s) a b u = some U) : fX8_bind (zI s) s2 u = some U := by
  unfold fX8_bind
  rw [if_neg (show ¬ zI s < 0 by rw [z_zero, z_lt (by omega) (by omega) (by omega) (by omega)]; omega), hc, b2_s, hb, b2_s, h, bd_s]
theorem cbind_right (u U : St) (s2 : Int32) (a b : Int32) (hc : fX9_cell 0 u = some (a, u)) (hb : fX9_cellBase 0 u = some (b, u)) (h : fX5_bind s2 a b u = some U) : fX8_bind (zI (-1)) s2 u = some U := by
  unfold fX8_bind
  rw [if_pos (show zI (-1) < 0 by decide), hc, b2_s, hb, b2_s, h, bd_s]
theorem WOK_PB {w : Nat} (hw : w < 3) {u u' : St} {c : Nat → Int} {e : Nat → Nat} {N : Nat} {V : Int} {T : List (Nat × Nat × Int)} {f : Nat × Int × Nat} {fs : List (Nat × Int × Nat)} {ws : List Nat} (hF : Fr PB u u') (h : WOK w u c e N V T f fs ws) : WOK w u' c e N V T f fs ws := by
  have : w = 0 ∨ w = 1 ∨ w = 2 := by omega
  rcases this with h1 | h1 | h1 <;> subst h1 <;> exact WOK_fr hF rfl (fun _ => rfl) (fun _ => rfl) (fun _ => rfl) h
theorem WOK_PS {w : Nat} (hw : w < 2) {u u' : St} {c : Nat → Int} {e : Nat → Nat} {N : Nat} {V : Int} {T : List (Nat × Nat × Int)} {f : Nat × Int × Nat} {fs : List (Nat × Int × Nat)} {ws : List Nat} (hF : Fr PS u u') (h : WOK w u c e N V T f fs ws) : WOK w u' c e N V T f fs ws := by
  have : w = 0 ∨ w = 1 := by omega
  rcases this with h1 | h1 <;> subst h1 <;> exact WOK_fr hF rfl (fun _ => rfl) (fun _ => rfl) (fun _ => rfl) h
theorem unify_loop {c : Nat → Int} {e : Nat → Nat} {N : Nat} {V : Int} (hT : TOK c e N) (hV : V ≤ 220) (K : Nat) : ∀ (n : Nat), n ≤ K → n ≤ 4000 → ∀ (F G : Nat) (u v : St) (T : List (Nat × Nat × Int)) (f g : Nat × Int × Nat) (fs gs : List (Nat × Int × Nat)) (ws zs : List Nat) (la lb : List (Nat × Int)), UE u v c e N V T → WOK 0 u c e N V T f fs ws → WOK 1 u c e N V T g gs zs → flat e (f :: fs) = la → flat e (g :: gs) = lb → la.length = lb.length → la.length + 4 * n ≤ 16005 → (∀ x ∈ la, IO c e N V x) → (∀ x ∈ lb, IO c e N V x) → I u 8 5 = 4000 - n → I v 100 97 = 4000 - n → I v 100 98 = 0 → I v 100 111 = la.length → SK 161 162 v la → SK 163 164 v lb → 4 * n + 4 < F → 5 * n + 5 < G →
    ∃ r r' u' v' T2, fX8_unify_L0 F 0 0 0 0 u = some (zI r, u') ∧ fX12_unifyAll_L0 G 0 0 0 0 0 0 0 0 v = some (zI r', v') ∧ UO r r' (I v' 100 98) ∧ UE u' v' c e N V (T2 ++ T) ∧ Fr PU u u' ∧ Fr PRU v v' := by
  induction K with
  | zero =>
    intro n hK hn F G u v T f g fs gs ws zs la lb hU hW hZ hla hlb hll hL hIa hIb h85 h97 h98 h111 hA hB2 hF hG
    have hn0 : n = 0 := by omega
    subst hn0
    obtain ⟨hGT, hWE, hTC, hRE, hTR⟩ := hU
    obtain ⟨ρ, hB⟩ := GT_BOK hV hGT
    obtain ⟨F', rfl⟩ : ∃ F', F = F' + 1 := ⟨F - 1, by omega⟩
    obtain ⟨G', rfl⟩ : ∃ G', G = G' + 1 := ⟨G - 1, by omega⟩
    cases la with
    | nil =>
      rcases more_spec hT hB 0 (by decide) hWE hW with ⟨h1, u1, h2, h3⟩ | ⟨x', l, h1, _⟩
      · exact ⟨1, 1, u1, v, [], cu_end F' u u1 h2, ru_end G' v h111, Or.inl ⟨rfl, rfl, h98⟩, ⟨hGT, WE_PW (by decide) h3 hWE, TC_PW (by decide) h3 hTC, hRE, hTR⟩, PU_PW (by decide) h3, Fr_rfl _ _⟩
      · rw [hla] at h1; cases h1
    | cons x la =>
      cases lb with
      | nil => simp at hll
      | cons y lb =>
        obtain ⟨u1, u4, a, b, n1, fs', ws', a2, b2, n2, gs', zs', t1, t2, t3, t4, t5, t6, t7, t8, t9, t10, t11, t12⟩ := two_more hT hB hWE hW hZ hla hlb
        have h4 : I u4 8 5 = 4000 := by rw [Fr_I t12 rfl, h85]; rfl
        have hPU : Fr PU u (uI u4 8 5 (zI 4001)) := Fr_up rfl (Fr_mono (fun k i hk => by unfold PU at hk; simp only [Bool.or_eq_false_iff] at hk ⊢; exact hk.1.1.1.1.1.1) t12)
        have h111' : I v 100 111 = (la.length : Int) + 1 := by simpa using h111
        simp only [List.length_cons] at hL
        obtain ⟨v3, q1, q2, q3, q4⟩ := rpop_full (v := v) la.length (by rw [h97]; rfl) h98
        refine ⟨2, 0, _, v3, [], cu_full F' u u1 u4 t1 t2 h4, ru_full G' v v3 la.length (by omega) h111' q1, Or.inr (Or.inr ⟨rfl, rfl, q3⟩), ⟨hGT, ?_, ?_, RE_fr q4 (fun _ => rfl) (fun _ => rfl) (fun _ => rfl) (fun _ => rfl) (fun _ => rfl) hRE, TR_fr q4 rfl (fun _ => rfl) hTR⟩, hPU, P5_PRU q4⟩
        · exact WE_fr (P := fun k _ => PW 0 k 0 || PW 1 k 0 || k == 8) (Fr_up rfl (Fr_mono (fun k i hk => by simp only [Bool.or_eq_false_iff] at hk ⊢; exact hk.1) t12)) (fun _ => rfl) (fun _ => rfl) (fun _ => rfl) hWE
        · exact TC_fr (P := fun k _ => PW 0 k 0 || PW 1 k 0 || k == 8) (Fr_up rfl (Fr_mono (fun k i hk => by simp only [Bool.or_eq_false_iff] at hk ⊢; exact hk.1) t12)) rfl (fun _ => rfl) hTC
  | succ K ih =>
    intro n hK hn F G u v T f g fs gs ws zs la lb hU hW hZ hla hlb hll hL hIa hIb h85 h97 h98 h111 hA hB2 hF hG
    cases n with
    | zero => exact ih 0 (by omega) hn F G u v T f g fs gs ws zs la lb hU hW hZ hla hlb hll hL hIa hIb h85 h97 h98 h111 hA hB2 hF hG
    | succ n =>
      have hUc := hU
      obtain ⟨hGT, hWE, hTC, hRE, hTR⟩ := hU
      obtain ⟨ρ, hB⟩ := GT_BOK hV hGT
      obtain ⟨F', rfl⟩ : ∃ F', F = F' + 4 := ⟨F - 4, by omega⟩
      obtain ⟨G', rfl⟩ : ∃ G', G = G' + 5 := ⟨G - 5, by omega⟩
      cases la with
      | nil =>
        rcases more_spec hT hB 0 (by decide) hWE hW with ⟨h1, u1, h2, h3⟩ | ⟨x', l, h1, _⟩
        · exact ⟨1, 1, u1, v, [], cu_end _ u u1 h2, ru_end _ v h111, Or.inl ⟨rfl, rfl, h98⟩, ⟨hGT, WE_PW (by decide) h3 hWE, TC_PW (by decide) h3 hTC, hRE, hTR⟩, PU_PW (by decide) h3, Fr_rfl _ _⟩
        · rw [hla] at h1; cases h1
      | cons x la =>
        cases lb with
        | nil => simp at hll
        | cons y lb =>
          have hN := hRE.1.1
          simp only [List.length_cons] at hL hll
          obtain ⟨u1, u4, a, b, n1, fs', ws', a2, b2, n2, gs', zs', t1, t2, t3, t4, t5, t6, t7, t8, t9, t10, t11, t12⟩ := two_more hT hB hWE hW hZ hla hlb
          have h4 : I u4 8 5 = 4000 - ((n + 1 : Nat) : Int) := by rw [Fr_I t12 rfl, h85]
          obtain ⟨v3, v8, v13, q1, q2, q3, q4, q5, q6, q7, q8, q9, q10, q11, q12, q13, q14, q15, q16, q17, q18, q19⟩ := rpop hT hB n hn hRE (hIa x (by simp)) (hIb y (by simp)) (by omega) (by omega) h97 h98 hA hB2
          have h111' : I v 100 111 = (la.length : Int) + 1 := by simpa using h111
          rw [← t3] at q6 q7
          rw [← t4] at q12 q13
          -- the class's state at the places
          have hk1 : 4000 - ((n + 1 : Nat) : Int) + 1 = 4000 - (n : Int) := by omega
          have hFu : Fr (fun k _ => PW 0 k 0 || PW 1 k 0 || k == 8) u (uI u4 8 5 (zI (4000 - ((n + 1 : Nat) : Int) + 1))) := Fr_up rfl (Fr_mono (fun k i hk => by simp only [Bool.or_eq_false_iff] at hk ⊢; exact hk.1) t12)
          have hF8 : Fr (fun k _ => k == 8) u4 (uI u4 8 5 (zI (4000 - ((n + 1 : Nat) : Int) + 1))) := Fr_up rfl (Fr_rfl _ _)
          have h5 : I (uI u4 8 5 (zI (4000 - ((n + 1 : Nat) : Int) + 1))) 8 5 = 4000 - (n : Int) := by rw [I_uI1 _ _ _ _ (by omega) (by omega)]; omega
          have hWE5 := WE_fr hFu (fun _ => rfl) (fun _ => rfl) (fun _ => rfl) hWE
          have hTC5 := TC_fr hFu rfl (fun _ => rfl) hTC
          have hW5 := WOK_fr hF8 rfl (fun _ => rfl) (fun _ => rfl) (fun _ => rfl) t7
          have hZ5 := WOK_fr hF8 rfl (fun _ => rfl) (fun _ => rfl) (fun _ => rfl) t8
          have hPU5 : Fr PU u (uI u4 8 5 (zI (4000 - ((n + 1 : Nat) : Int) + 1))) := Fr_mono (fun k i hk => by unfold PU at hk; simp only [Bool.or_eq_false_iff] at hk ⊢; exact ⟨hk.1.1.1.1.1.1, hk.1.1.1.1.2⟩) hFu
          have hO1 := Sub_OK hB ws' t7.2.2.2 (a, b) (t7.2.2.1.2.2.1 (a, b) (by simp [items]))
          have hO2 := Sub_OK hB zs' t8.2.2.2 (a2, b2) (t8.2.2.1.2.2.1 (a2, b2) (by simp [items]))
          have hI1 : IO c e N V (a, b) := OK_IO hO1 (WOK_rng t7).1 (WOK_rng t7).2
          have hI2 : IO c e N V (a2, b2) := OK_IO hO2 (WOK_rng t8).1 (WOK_rng t8).2
          have ha1 : a < N := hO1.1
          have ha2 : a2 < N := hO2.1
          obtain ⟨at1, at2, at3, at4⟩ := at_spec hT hB 0 (by decide) hWE5 hW5
          obtain ⟨as1, as2, as3, as4⟩ := at_spec hT hB 1 (by decide) hWE5 hZ5
          have hRE13 := RE_fr q19 (fun _ => rfl) (fun _ => rfl) (fun _ => rfl) (fun _ => rfl) (fun _ => rfl) hRE
          have hTR13 := TR_fr q19 rfl (fun _ => rfl) hTR
          have hPR13 := P5_PRU q19
          obtain ⟨m1, m2, m3, m4⟩ := hRE13.1.2.1 a ha1
          obtain ⟨l1, l2, l3, l4⟩ := hRE13.1.2.1 a2 ha2
          generalize hu5 : uI u4 8 5 (zI (4000 - ((n + 1 : Nat) : Int) + 1)) = u5 at *
          have r1 := sv_rng hT hO1
          have r2 := sv_rng hT hO2
          have cr1 : -2147483648 ≤ c a ∧ c a < 2147483648 := by rw [← hWE.1 a ha1]; exact ⟨I_lo _ _ _, I_hi _ _ _⟩
          have cr2 : -2147483648 ≤ c a2 ∧ c a2 < 2147483648 := by rw [← hWE.1 a2 ha2]; exact ⟨I_lo _ _ _, I_hi _ _ _⟩
          have hs1 : -1 ≤ sv c (a, b) ∧ sv c (a, b) < 1000 := by omega
          have hs2 : -1 ≤ sv c (a2, b2) ∧ sv c (a2, b2) < 1000 := by omega
          have hcls := cu_go (F' + 3) u u1 u4 (4000 - ((n + 1 : Nat) : Int)) (sv c (a, b)) (sv c (a2, b2)) (c a) (c a2) (by omega) (by omega) t1 t2 h4 hs1.1 hs1.2 hs2.1 hs2.2 cr1.1 cr1.2 cr2.1 cr2.2 (by rw [hu5]; exact at1) (by rw [hu5]; exact as1) (by rw [hu5]; exact at2) (by rw [hu5]; exact as2)
          rw [hu5] at hcls
          have hsr1 : sv c (a, b) = if I v13 111 a < 0 then b - 1 - I v13 111 a else -1 := by
            unfold sv; by_cases hc : c a < 0
            · rw [if_pos hc, m1 hc, if_pos hc]
            · rw [if_neg hc, if_neg (by have := m2 (by omega); omega)]
          have hsr2 : sv c (a2, b2) = if I v13 111 a2 < 0 then b2 - 1 - I v13 111 a2 else -1 := by
            unfold sv; by_cases hc : c a2 < 0
            · rw [if_pos hc, l1 hc, if_pos hc]
            · rw [if_neg hc, if_neg (by have := l2 (by omega); omega)]
          have href := ru_pop (G' + 2) v v3 v8 v13 la.length x y (a, b) (a2, b2) (sv c (a, b)) (sv c (a2, b2)) (I v13 111 a) (I v13 111 a2) (by omega) h111' q1 q2 q3 q4 q5 q6 q7 q8 q9 q10 q11 q12 q13 (by omega) (by omega) rfl rfl hsr1 hsr2 hs1.1 hs1.2 hs2.1 hs2.2
          have hPRS : ∀ {w w' : St}, Fr PRB w w' → SK 161 162 w la → SK 161 162 w' la := fun hF h => SK_fr hF (fun _ => rfl) (fun _ => rfl) h
          have hPRS' : ∀ {w w' : St}, Fr PRB w w' → SK 163 164 w lb → SK 163 164 w' lb := fun hF h => SK_fr hF (fun _ => rfl) (fun _ => rfl) h
          have hIa' : ∀ z ∈ la, IO c e N V z := fun z hz => hIa z (by simp [hz])
          have hIb' : ∀ z ∈ lb, IO c e N V z := fun z hz => hIb z (by simp [hz])
          by_cases c1 : 0 ≤ sv c (a, b)
          · have c1' : c a < 0 := by
              rcases r1 with r1 | r1
              · exact r1.1
              · omega
            have e1 : sv c (a, b) = hv c (a, b) := by
              rcases r1 with r1 | r1
              · exact r1.2.2.2
              · omega
            have b1 : sv c (a, b) < V := by omega
            rw [if_pos (Or.inl c1)] at hcls
            by_cases c2 : sv c (a, b) = sv c (a2, b2)
            · -- the same variable
              rw [if_pos ⟨c1, c2⟩] at href
              rw [← c2] at hcls
              obtain ⟨u6, u7, k1, k2, k3, k4, k5, k6, k7, k8⟩ := two_skip hT hB hWE5 hTC5 hW5 hZ5
              rw [cu_same (F' + 1) u5 u6 u7 _ k1 k2] at hcls
              obtain ⟨r, r', u', v', T2, w1, w2, w3, w4, w5, w6⟩ := ih n (by omega) (by omega) (F' + 1) (G' + 2) u7 v13 T _ _ _ _ _ _ la lb ⟨hGT, k5, k6, hRE13, hTR13⟩ k3 k4 t9 t10 (by omega) (by omega) hIa' hIb' (by rw [k7, h5]) q14 q15 q16 q17 q18 (by omega) (by omega)
              exact ⟨r, r', u', v', T2, hcls.trans w1, href.trans w2, w3, w4, Fr_tr (Fr_tr hPU5 k8) w5, Fr_tr hPR13 w6⟩
            · -- a variable on the left
              rw [if_neg (fun h => c2 h.2)] at href
              have hxn : (((sv c (a, b)).toNat : Nat) : Int) = sv c (a, b) := by omega
              have hlk : lk T (sv c (a, b)).toNat = none := by rw [e1]; exact t5 c1'
              have hroom := GT_room hV hGT hlk (by omega)
              obtain ⟨u6, k1, k2, k3, k4⟩ := stands_spec hT hB 1 (by decide) (sv c (a, b)) c1 hs1.2 n (by omega) h5 hWE5 hZ5
              obtain ⟨v14, j1, j2, j3, j4, j5, j6⟩ := rbound_spec hT hB (sv c (a, b)).toNat n (by omega) (by omega) (y := (a2, b2)) q14 q15 hRE13 hTR13 hroom (IO_OK hB hI2) hI2.2.2.1 hI2.2.2.2
              rw [hxn] at j1 j2 j3 j4 j5
              have hres := stS_res (c := c) (e := e) (T := T) (v := sv c (a, b)) n [(a2, b2)]
              have hle := stS_le (c := c) (e := e) (T := T) (v := sv c (a, b)) n [(a2, b2)]
              rw [cu_left (F' + 1) u5 u6 (sv c (a, b)) (sv c (a2, b2)) _ c1 hs1.2 hs2.1 hs2.2 c2 hres k1] at hcls
              rw [ru_left G' v13 v14 (a, b) (a2, b2) (sv c (a, b)) (sv c (a2, b2)) _ c1 hs1.2 j1 (by by_cases hh : (stS c e T (sv c (a, b)) n [(a2, b2)]).1 = 0 <;> simp [hh])] at href
              have hWE6 := WE_PS k4 hWE5
              have hTC6 := TC_fr k4 rfl (fun _ => rfl) hTC5
              by_cases hz : (stS c e T (sv c (a, b)) n [(a2, b2)]).1 = 0
              · rw [if_pos hz] at hcls
                rw [if_pos hz, if_neg (by decide)] at href
                rw [if_pos hz] at j4 j5
                rw [if_neg (by rw [hz]; decide)] at k2 j2 j3
                have hZ6 := WOK_PS (by decide) k4 hZ5
                have hW6 := WOK_PS (by decide) k4 hW5
                obtain ⟨_, _, as3', as4'⟩ := at_spec hT hB 1 (by decide) hWE6 hZ6
                obtain ⟨u7, d1, d2, d3, d4⟩ := bind_spec (sv c (a, b)).toNat a2 b2 (by omega) hroom (by omega) hI2.2.2.1 hI2.2.2.2 hWE6 hTC6
                rw [hxn] at d1
                rw [cbind_left u6 u7 _ _ _ _ c1 hs1.2 as3' as4' d1, bd_s] at hcls
                have hGT' : GT c e N V (((sv c (a, b)).toNat, a2, b2) :: T) := GT_bind hT hV hGT hlk (by omega) ha2 hI2.2.1 ⟨n, (stS c e T (sv c (a, b)) n [(a2, b2)]).2, by rw [hxn, ← hz]⟩
                obtain ⟨ρ', hB'⟩ := GT_BOK hV hGT'
                obtain ⟨u8, u9, k11, k12, k13, k14, k15, k16, k17, k18⟩ := two_skip hT hB' d2 d3 (WOK_PB (by decide) d4 (WOK_ext hlk hW6)) (WOK_PB (by decide) d4 (WOK_ext hlk hZ6))
                rw [cu_three F' u7 u8 u9 k11 k12] at hcls
                obtain ⟨r, r', u', v', T2, w1, w2, w3, w4, w5, w6⟩ := ih (stS c e T (sv c (a, b)) n [(a2, b2)]).2 (by omega) (by omega) F' G' u9 v14 (((sv c (a, b)).toNat, a2, b2) :: T) _ _ _ _ _ _ la lb ⟨hGT', k15, k16, j4, j5⟩ k13 k14 t9 t10 (by omega) (by omega) hIa' hIb' (by rw [k17, Fr_I d4 rfl, k2]) j2 j3 (by rw [Fr_I j6 rfl]; exact q16) (hPRS j6 q17) (hPRS' j6 q18) (by omega) (by omega)
                refine ⟨r, r', u', v', T2 ++ [((sv c (a, b)).toNat, a2, b2)], hcls.trans w1, href.trans w2, w3, by rw [List.append_assoc]; exact w4, Fr_tr (Fr_tr (Fr_tr (Fr_tr hPU5 (PU_PS k4)) (PU_PB d4)) k18) w5, Fr_tr (Fr_tr hPR13 (PRU_PRB j6)) w6⟩
              · rw [if_neg hz] at hcls
                rw [if_neg hz, if_pos rfl] at href
                rw [if_neg hz] at j4 j5
                rcases hres with hr | hr | hr
                · exact absurd hr hz
                · refine ⟨0, 0, u6, v14, [], by rw [hcls, hr]; rfl, href, Or.inr (Or.inl ⟨rfl, rfl, by rw [j3, hr]; rfl⟩), ⟨hGT, hWE6, hTC6, j4, j5⟩, Fr_tr hPU5 (PU_PS k4), Fr_tr hPR13 (PRU_PRB j6)⟩
                · refine ⟨2, 0, u6, v14, [], by rw [hcls, hr]; rfl, href, Or.inr (Or.inr ⟨rfl, rfl, by rw [j3, hr]; rfl⟩), ⟨hGT, hWE6, hTC6, j4, j5⟩, Fr_tr hPU5 (PU_PS k4), Fr_tr hPR13 (PRU_PRB j6)⟩
          · have c1' : 0 ≤ c a ∧ sv c (a, b) = -1 := by
              rcases r1 with r1 | r1
              · omega
              · exact r1
            rw [c1'.2] at hcls href
            rw [if_neg (fun h => by omega)] at href
            by_cases c2 : 0 ≤ sv c (a2, b2)
            · -- a variable on the right
              have c2' : c a2 < 0 := by
                rcases r2 with r2 | r2
                · exact r2.1
                · omega
              have e1 : sv c (a2, b2) = hv c (a2, b2) := by
                rcases r2 with r2 | r2
                · exact r2.2.2.2
                · omega
              have b1 : sv c (a2, b2) < V := by omega
              rw [if_pos (Or.inr c2)] at hcls
              have hxn : (((sv c (a2, b2)).toNat : Nat) : Int) = sv c (a2, b2) := by omega
              have hlk : lk T (sv c (a2, b2)).toNat = none := by rw [e1]; exact t6 c2'
              have hroom := GT_room hV hGT hlk (by omega)
              obtain ⟨u6, k1, k2, k3, k4⟩ := stands_spec hT hB 0 (by decide) (sv c (a2, b2)) c2 hs2.2 n (by omega) h5 hWE5 hW5
              obtain ⟨v14, j1, j2, j3, j4, j5, j6⟩ := rbound_spec hT hB (sv c (a2, b2)).toNat n (by omega) (by omega) (y := (a, b)) q14 q15 hRE13 hTR13 hroom (IO_OK hB hI1) hI1.2.2.1 hI1.2.2.2
              rw [hxn] at j1 j2 j3 j4 j5
              have hres := stS_res (c := c) (e := e) (T := T) (v := sv c (a2, b2)) n [(a, b)]
              have hle := stS_le (c := c) (e := e) (T := T) (v := sv c (a2, b2)) n [(a, b)]
              rw [cu_right (F' + 1) u5 u6 (sv c (a2, b2)) _ c2 hs2.2 hres k1] at hcls
              rw [ru_right G' v13 v14 (a, b) (a2, b2) (sv c (a2, b2)) _ c2 hs2.2 j1 (by by_cases hh : (stS c e T (sv c (a2, b2)) n [(a, b)]).1 = 0 <;> simp [hh])] at href
              have hWE6 := WE_PS k4 hWE5
              have hTC6 := TC_fr k4 rfl (fun _ => rfl) hTC5
              by_cases hz : (stS c e T (sv c (a2, b2)) n [(a, b)]).1 = 0
              · rw [if_pos hz] at hcls
                rw [if_pos hz, if_neg (by decide)] at href
                rw [if_pos hz] at j4 j5
                rw [if_neg (by rw [hz]; decide)] at k2 j2 j3
                have hZ6 := WOK_PS (by decide) k4 hZ5
                have hW6 := WOK_PS (by decide) k4 hW5
                obtain ⟨_, _, at3', at4'⟩ := at_spec hT hB 0 (by decide) hWE6 hW6
                obtain ⟨u7, d1, d2, d3, d4⟩ := bind_spec (sv c (a2, b2)).toNat a b (by omega) hroom (by omega) hI1.2.2.1 hI1.2.2.2 hWE6 hTC6
                rw [hxn] at d1
                rw [cbind_right u6 u7 _ _ _ at3' at4' d1, bd_s] at hcls
                have hGT' : GT c e N V (((sv c (a2, b2)).toNat, a, b) :: T) := GT_bind hT hV hGT hlk (by omega) ha1 hI1.2.1 ⟨n, (stS c e T (sv c (a2, b2)) n [(a, b)]).2, by rw [hxn, ← hz]⟩
                obtain ⟨ρ', hB'⟩ := GT_BOK hV hGT'
                obtain ⟨u8, u9, k11, k12, k13, k14, k15, k16, k17, k18⟩ := two_skip hT hB' d2 d3 (WOK_PB (by decide) d4 (WOK_ext hlk hW6)) (WOK_PB (by decide) d4 (WOK_ext hlk hZ6))
                rw [cu_three F' u7 u8 u9 k11 k12] at hcls
                obtain ⟨r, r', u', v', T2, w1, w2, w3, w4, w5, w6⟩ := ih (stS c e T (sv c (a2, b2)) n [(a, b)]).2 (by omega) (by omega) F' G' u9 v14 (((sv c (a2, b2)).toNat, a, b) :: T) _ _ _ _ _ _ la lb ⟨hGT', k15, k16, j4, j5⟩ k13 k14 t9 t10 (by omega) (by omega) hIa' hIb' (by rw [k17, Fr_I d4 rfl, k2]) j2 j3 (by rw [Fr_I j6 rfl]; exact q16) (hPRS j6 q17) (hPRS' j6 q18) (by omega) (by omega)
                refine ⟨r, r', u', v', T2 ++ [((sv c (a2, b2)).toNat, a, b)], hcls.trans w1, href.trans w2, w3, by rw [List.append_assoc]; exact w4, Fr_tr (Fr_tr (Fr_tr (Fr_tr hPU5 (PU_PS k4)) (PU_PB d4)) k18) w5, Fr_tr (Fr_tr hPR13 (PRU_PRB j6)) w6⟩
              · rw [if_neg hz] at hcls
                rw [if_neg hz, if_pos rfl] at href
                rw [if_neg hz] at j4 j5
                rcases hres with hr | hr | hr
                · exact absurd hr hz
                · refine ⟨0, 0, u6, v14, [], by rw [hcls, hr]; rfl, href, Or.inr (Or.inl ⟨rfl, rfl, by rw [j3, hr]; rfl⟩), ⟨hGT, hWE6, hTC6, j4, j5⟩, Fr_tr hPU5 (PU_PS k4), Fr_tr hPR13 (PRU_PRB j6)⟩
                · refine ⟨2, 0, u6, v14, [], by rw [hcls, hr]; rfl, href, Or.inr (Or.inr ⟨rfl, rfl, by rw [j3, hr]; rfl⟩), ⟨hGT, hWE6, hTC6, j4, j5⟩, Fr_tr hPU5 (PU_PS k4), Fr_tr hPR13 (PRU_PRB j6)⟩
            · -- two symbols
              have c2' : 0 ≤ c a2 ∧ sv c (a2, b2) = -1 := by
                rcases r2 with r2 | r2
                · omega
                · exact r2
              rw [if_neg (fun h => by omega)] at hcls
              rw [c2'.2] at href
              have hiff := hRE13.1.2.2 a a2 ha1 ha2 c1'.1 c2'.1
              by_cases hq : c a = c a2
              · rw [if_pos hq] at hcls
                have haar : ar c a = ar c a2 := by unfold ar; rw [hq]
                obtain ⟨v14, j1, j2, j3, j4, j5⟩ := an_spec hT (x := (a, b)) (y := (a2, b2)) (la := la) (lb := lb) ha1 ha2 haar hI1.2.2.1 hI1.2.2.2 hI2.2.2.1 hI2.2.2.2 (by omega) (by omega) hRE13.1 q16 q17 q18
                rw [ru_sym G' v13 v14 (a, b) (a2, b2) _ _ (by omega) (by omega) rfl rfl (fun _ => j1), if_pos (hiff.2 hq)] at href
                obtain ⟨u6, u7, k1, k2, k3, k4, k5, k6, k7, k8⟩ := two_enter hT hB hWE5 hTC5 hW5 hZ5
                rw [k1, bd_s, k2, bd_s] at hcls
                have hla1 : (args c e (a, b) ++ la).length = (args c e (a2, b2) ++ lb).length := by
                  unfold args; simp only [List.length_append, items_len]; rw [haar]; omega
                have hla2 : (args c e (a, b) ++ la).length + 4 * n ≤ 16005 := by
                  unfold args; rw [List.length_append, items_len]; have := (hT _ ha1).1; simp only; omega
                obtain ⟨r, r', u', v', T2, w1, w2, w3, w4, w5, w6⟩ := ih n (by omega) (by omega) (F' + 3) G' u7 v14 T _ _ _ _ _ _ (args c e (a, b) ++ la) (args c e (a2, b2) ++ lb) ⟨hGT, k5, k6, RE_fr j5 (fun _ => rfl) (fun _ => rfl) (fun _ => rfl) (fun _ => rfl) (fun _ => rfl) hRE13, TR_fr j5 rfl (fun _ => rfl) hTR13⟩ k3 k4 (by simp only [flat]; rw [args_items hT ha1, List.append_assoc, t9]) (by simp only [flat]; rw [args_items hT ha2, List.append_assoc, t10]) hla1 hla2 (by
                  intro z hz
                  rcases List.mem_append.1 hz with hz | hz
                  · exact IO_args hT hI1 hz
                  · exact hIa' z hz) (by
                  intro z hz
                  rcases List.mem_append.1 hz with hz | hz
                  · exact IO_args hT hI2 hz
                  · exact hIb' z hz) (by rw [k7, h5]) (by rw [Fr_I j5 rfl]; exact q14) (by rw [Fr_I j5 rfl]; exact q15) j2 j3 j4 (by omega) (by omega)
                exact ⟨r, r', u', v', T2, hcls.trans w1, href.trans w2, w3, w4, Fr_tr (Fr_tr hPU5 k8) w5, Fr_tr (Fr_tr hPR13 (PRU_PAN j5)) w6⟩
              · rw [if_neg hq] at hcls
                rw [ru_sym G' v13 v13 (a, b) (a2, b2) _ _ (by omega) (by omega) rfl rfl (fun h => absurd (hiff.1 h) hq), if_neg (fun h => hq (hiff.1 h))] at href
                exact ⟨0, 0, u5, v13, [], hcls, href, Or.inr (Or.inl ⟨rfl, rfl, q15⟩), ⟨hGT, hWE5, hTC5, hRE13, hTR13⟩, hPU5, hPR13⟩
