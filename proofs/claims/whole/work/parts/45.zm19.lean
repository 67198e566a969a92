/-! THE SAME: the loop -/
theorem same_loop {c : Nat → Int} {e : Nat → Nat} {N : Nat} {V : Int} {T : List (Nat × Nat × Int)} {ρ : Nat → Nat} (hT : TOK c e N) (hV : V ≤ 220) (hB : BOK c e N V T ρ) (n : Nat) : n ≤ 4000 → ∀ (F G : Nat) (u v : St) (f g : Nat × Int × Nat) (fs gs : List (Nat × Int × Nat)) (ws zs : List Nat) (la lb : List (Nat × Int)), UE u v c e N V T → WOK 0 u c e N V T f fs ws → WOK 1 u c e N V T g gs zs → flat e (f :: fs) = la → flat e (g :: gs) = lb → la.length = lb.length → la.length + 4 * n ≤ 16005 → (∀ x ∈ la, IO c e N V x) → (∀ x ∈ lb, IO c e N V x) → I u 8 5 = 4000 - n → I v 100 97 = 4000 - n → I v 100 98 = 0 → I v 100 111 = la.length → SK 161 162 v la → SK 163 164 v lb → 2 * n + 2 < F → 3 * n + 3 < G →
    ∃ r r' u' v', fX8_same_L0 F 0 u = some (zI r, u') ∧ fX12_alike_L0 G 0 0 0 0 0 0 0 v = some (zI r', v') ∧ UO r r' (I v' 100 98) ∧ (r ≠ 2 → ∃ n', n' ≤ n ∧ I u' 8 5 = 4000 - (n' : Nat) ∧ I v' 100 97 = 4000 - (n' : Nat)) ∧ UE u' v' c e N V T ∧ Fr PU u u' ∧ Fr PRU v v' := by
  induction n with
  | zero =>
    intro hn F G u v f g fs gs ws zs la lb hU hW hZ hla hlb hll hL hIa hIb h85 h97 h98 h111 hA hB2 hF hG
    obtain ⟨hGT, hWE, hTC, hRE, hTR⟩ := hU
    obtain ⟨F', rfl⟩ : ∃ F', F = F' + 1 := ⟨F - 1, by omega⟩
    obtain ⟨G', rfl⟩ : ∃ G', G = G' + 1 := ⟨G - 1, by omega⟩
    cases la with
    | nil =>
      rcases more_spec hT hB 0 (by decide) hWE hW with ⟨h1, u1, h2, h3⟩ | ⟨x', l, h1, _⟩
      · exact ⟨1, 1, u1, v, cs_end F' u u1 h2, ra_end G' v h111, Or.inl ⟨rfl, rfl, h98⟩, fun _ => ⟨0, Nat.le_refl _, by rw [Fr_I h3 rfl, h85], h97⟩, ⟨hGT, WE_PW (by decide) h3 hWE, TC_PW (by decide) h3 hTC, hRE, hTR⟩, PU_PW (by decide) h3, Fr_rfl _ _⟩
      · rw [hla] at h1; cases h1
    | cons x la =>
      cases lb with
      | nil => simp at hll
      | cons y lb =>
        obtain ⟨u1, u4, a, b, n1, fs', ws', a2, b2, n2, gs', zs', t1, t2, t3, t4, t5, t6, t7, t8, t9, t10, t11, t12⟩ := two_more hT hB hWE hW hZ hla hlb
        have h4 : I u4 8 5 = 4000 := by rw [Fr_I t12 rfl, h85]; rfl
        have hPU : Fr PU u (uI u4 8 5 (zI 4001)) := Fr_up rfl (Fr_mono (fun k i hk => by unfold PU at hk; simp only [Bool.or_eq_false_iff] at hk ⊢; exact hk.1.1.1.1.1.1) t12)
        have h111' : I v 100 111 = (la.length : Int) + 1 := by simpa using h111
        simp only [List.length_cons] at hL
        obtain ⟨v3, q1, q2, q3, q4⟩ := rpop_full (v := v) la.length (by rw [h97]; rfl) h98
        refine ⟨2, 0, _, v3, cs_full F' u u1 u4 t1 t2 h4, ra_full G' v v3 la.length (by omega) h111' q1, Or.inr (Or.inr ⟨rfl, rfl, q3⟩), fun h => absurd rfl h, ⟨hGT, ?_, ?_, RE_fr q4 (fun _ => rfl) (fun _ => rfl) (fun _ => rfl) (fun _ => rfl) (fun _ => rfl) hRE, TR_fr q4 rfl (fun _ => rfl) hTR⟩, hPU, P5_PRU q4⟩
        · exact WE_fr (P := fun k _ => PW 0 k 0 || PW 1 k 0 || k == 8) (Fr_up rfl (Fr_mono (fun k i hk => by simp only [Bool.or_eq_false_iff] at hk ⊢; exact hk.1) t12)) (fun _ => rfl) (fun _ => rfl) (fun _ => rfl) hWE
        · exact TC_fr (P := fun k _ => PW 0 k 0 || PW 1 k 0 || k == 8) (Fr_up rfl (Fr_mono (fun k i hk => by simp only [Bool.or_eq_false_iff] at hk ⊢; exact hk.1) t12)) rfl (fun _ => rfl) hTC
  | succ n ih =>
    intro hn F G u v f g fs gs ws zs la lb hU hW hZ hla hlb hll hL hIa hIb h85 h97 h98 h111 hA hB2 hF hG
    obtain ⟨hGT, hWE, hTC, hRE, hTR⟩ := hU
    obtain ⟨F', rfl⟩ : ∃ F', F = F' + 2 := ⟨F - 2, by omega⟩
    obtain ⟨G', rfl⟩ : ∃ G', G = G' + 3 := ⟨G - 3, by omega⟩
    cases la with
    | nil =>
      rcases more_spec hT hB 0 (by decide) hWE hW with ⟨h1, u1, h2, h3⟩ | ⟨x', l, h1, _⟩
      · exact ⟨1, 1, u1, v, cs_end _ u u1 h2, ra_end _ v h111, Or.inl ⟨rfl, rfl, h98⟩, fun _ => ⟨n + 1, Nat.le_refl _, by rw [Fr_I h3 rfl, h85], h97⟩, ⟨hGT, WE_PW (by decide) h3 hWE, TC_PW (by decide) h3 hTC, hRE, hTR⟩, PU_PW (by decide) h3, Fr_rfl _ _⟩
      · rw [hla] at h1; cases h1
    | cons x la =>
      cases lb with
      | nil => simp at hll
      | cons y lb =>
        have hN := hRE.1.1
        simp only [List.length_cons] at hL hll
        obtain ⟨u1, u4, a, b, n1, fs', ws', a2, b2, n2, gs', zs', t1, t2, t3, t4, t5, t6, t7, t8, t9, t10, t11, t12⟩ := two_more hT hB hWE hW hZ hla hlb
        have h4 : I u4 8 5 = 4000 - ((n + 1 : Nat) : Int) := by rw [Fr_I t12 rfl, h85]
        obtain ⟨v3, v8, v13, q1, q2, q3, q4, q5, q6, q7, q8, q9, q10, q11, q12, q13, q14, q15, q16, q17, q18, q19⟩ := rpop hT hB n hn hRE (hIa x (by simp)) (hIb y (by simp)) (by omega) (by omega) h97 h98 hA hB2
        have h111' : I v 100 111 = (la.length : Int) + 1 := by simpa using h111
        rw [← t3] at q6 q7
        rw [← t4] at q12 q13
        have hFu : Fr (fun k _ => PW 0 k 0 || PW 1 k 0 || k == 8) u (uI u4 8 5 (zI (4000 - ((n + 1 : Nat) : Int) + 1))) := Fr_up rfl (Fr_mono (fun k i hk => by simp only [Bool.or_eq_false_iff] at hk ⊢; exact hk.1) t12)
        have hF8 : Fr (fun k _ => k == 8) u4 (uI u4 8 5 (zI (4000 - ((n + 1 : Nat) : Int) + 1))) := Fr_up rfl (Fr_rfl _ _)
        have h5 : I (uI u4 8 5 (zI (4000 - ((n + 1 : Nat) : Int) + 1))) 8 5 = 4000 - (n : Int) := by rw [I_uI1 _ _ _ _ (by omega) (by omega)]; omega
        have hWE5 := WE_fr hFu (fun _ => rfl) (fun _ => rfl) (fun _ => rfl) hWE
        have hTC5 := TC_fr hFu rfl (fun _ => rfl) hTC
        have hW5 := WOK_fr hF8 rfl (fun _ => rfl) (fun _ => rfl) (fun _ => rfl) t7
        have hZ5 := WOK_fr hF8 rfl (fun _ => rfl) (fun _ => rfl) (fun _ => rfl) t8
        have hPU5 : Fr PU u (uI u4 8 5 (zI (4000 - ((n + 1 : Nat) : Int) + 1))) := Fr_mono (fun k i hk => by unfold PU at hk; simp only [Bool.or_eq_false_iff] at hk ⊢; exact ⟨hk.1.1.1.1.1.1, hk.1.1.1.1.2⟩) hFu
        have hO1 := Sub_OK hB ws' t7.2.2.2 (a, b) (t7.2.2.1.2.2.1 (a, b) (by simp [items]))
        have hO2 := Sub_OK hB zs' t8.2.2.2 (a2, b2) (t8.2.2.1.2.2.1 (a2, b2) (by simp [items]))
        have hI1 : IO c e N V (a, b) := OK_IO hO1 (WOK_rng t7).1 (WOK_rng t7).2
        have hI2 : IO c e N V (a2, b2) := OK_IO hO2 (WOK_rng t8).1 (WOK_rng t8).2
        have ha1 : a < N := hO1.1
        have ha2 : a2 < N := hO2.1
        obtain ⟨at1, at2, at3, at4⟩ := at_spec hT hB 0 (by decide) hWE5 hW5
        obtain ⟨as1, as2, as3, as4⟩ := at_spec hT hB 1 (by decide) hWE5 hZ5
        have hRE13 := RE_fr q19 (fun _ => rfl) (fun _ => rfl) (fun _ => rfl) (fun _ => rfl) (fun _ => rfl) hRE
        have hTR13 := TR_fr q19 rfl (fun _ => rfl) hTR
        have hPR13 := P5_PRU q19
        obtain ⟨m1, m2, m3, m4⟩ := hRE13.1.2.1 a ha1
        obtain ⟨l1, l2, l3, l4⟩ := hRE13.1.2.1 a2 ha2
        generalize hu5 : uI u4 8 5 (zI (4000 - ((n + 1 : Nat) : Int) + 1)) = u5 at *
        have r1 := sv_rng hT hO1
        have r2 := sv_rng hT hO2
        simp only at r1 r2
        have cr1 : -2147483648 ≤ c a ∧ c a < 2147483648 := by rw [← hWE.1 a ha1]; exact ⟨I_lo _ _ _, I_hi _ _ _⟩
        have cr2 : -2147483648 ≤ c a2 ∧ c a2 < 2147483648 := by rw [← hWE.1 a2 ha2]; exact ⟨I_lo _ _ _, I_hi _ _ _⟩
        have A1 : 0 ≤ sv c (a, b) ↔ c a < 0 := by clear t9 t10 q1 q2 q3 q4 q8 q9 q10 h4 h5 cr1 cr2; omega
        have A2 : 0 ≤ sv c (a2, b2) ↔ c a2 < 0 := by clear t9 t10 q1 q2 q3 q4 q8 q9 q10 h4 h5 cr1 cr2; omega
        have hs1 : -1 ≤ sv c (a, b) ∧ sv c (a, b) < 1000 := by omega
        have hs2 : -1 ≤ sv c (a2, b2) ∧ sv c (a2, b2) < 1000 := by omega
        have hcls := cs_go (F' + 1) u u1 u4 (4000 - ((n + 1 : Nat) : Int)) (sv c (a, b)) (sv c (a2, b2)) (c a) (c a2) (by omega) (by omega) t1 t2 h4 hs1.1 hs1.2 hs2.1 hs2.2 cr1.1 cr1.2 cr2.1 cr2.2 (by rw [hu5]; exact at1) (by rw [hu5]; exact as1) (by rw [hu5]; exact at2) (by rw [hu5]; exact as2)
        rw [hu5] at hcls
        have hsr1 : sv c (a, b) = if I v13 111 a < 0 then b - 1 - I v13 111 a else -1 := by
          unfold sv; by_cases hc : c a < 0
          · rw [if_pos hc, m1 hc, if_pos hc]
          · rw [if_neg hc, if_neg (by have := m2 (by omega); omega)]
        have hsr2 : sv c (a2, b2) = if I v13 111 a2 < 0 then b2 - 1 - I v13 111 a2 else -1 := by
          unfold sv; by_cases hc : c a2 < 0
          · rw [if_pos hc, l1 hc, if_pos hc]
          · rw [if_neg hc, if_neg (by have := l2 (by omega); omega)]
        have hneg1 : I v13 111 a < 0 ↔ c a < 0 := by
          constructor
          · intro h; apply Classical.byContradiction; intro h2; have := m2 (by omega); omega
          · intro h; rw [m1 h]; exact h
        have hneg2 : I v13 111 a2 < 0 ↔ c a2 < 0 := by
          constructor
          · intro h; apply Classical.byContradiction; intro h2; have := l2 (by omega); omega
          · intro h; rw [l1 h]; exact h
        have hIa' : ∀ z ∈ la, IO c e N V z := fun z hz => hIa z (by simp [hz])
        have hIb' : ∀ z ∈ lb, IO c e N V z := fun z hz => hIb z (by simp [hz])
        -- the arguments, where they are wanted
        have han : 0 ≤ c a → c a = c a2 → ∃ v14, fX12_argumentsNext (zI a) (zI b) (zI a2) (zI b2) v13 = some v14 ∧ I v14 100 111 = ((args c e (a, b) ++ la).length : Int) ∧ SK 161 162 v14 (args c e (a, b) ++ la) ∧ SK 163 164 v14 (args c e (a2, b2) ++ lb) ∧ Fr PAN v13 v14 := by
          intro h0 hq
          have haar : ar c a = ar c a2 := by unfold ar; rw [hq]
          exact an_spec hT (x := (a, b)) (y := (a2, b2)) (la := la) (lb := lb) ha1 ha2 haar hI1.2.2.1 hI1.2.2.2 hI2.2.2.1 hI2.2.2.2 (by omega) (by omega) hRE13.1 q16 q17 q18
        obtain ⟨v14, hv14⟩ : ∃ v14, 0 ≤ c a → c a = c a2 → fX12_argumentsNext (zI a) (zI b) (zI a2) (zI b2) v13 = some v14 ∧ I v14 100 111 = ((args c e (a, b) ++ la).length : Int) ∧ SK 161 162 v14 (args c e (a, b) ++ la) ∧ SK 163 164 v14 (args c e (a2, b2) ++ lb) ∧ Fr PAN v13 v14 := by
          by_cases h : 0 ≤ c a ∧ c a = c a2
          · obtain ⟨v14, hh⟩ := han h.1 h.2; exact ⟨v14, fun _ _ => hh⟩
          · exact ⟨v13, fun h1 h2 => absurd ⟨h1, h2⟩ h⟩
        have hiff : 0 ≤ c a → (I v13 111 a = I v13 111 a2 ↔ c a = c a2) := by
          intro h0
          by_cases h02 : 0 ≤ c a2
          · exact hRE13.1.2.2 a a2 ha1 ha2 h0 h02
          · constructor
            · intro h; exact absurd (hneg2.2 (Int.not_le.1 h02)) (Int.not_lt.2 (h ▸ m2 h0))
            · intro h; exact absurd (h ▸ h0) h02
        have href := ra_pop G' v v3 v8 v13 v14 la.length x y (a, b) (a2, b2) (sv c (a, b)) (sv c (a2, b2)) (I v13 111 a) (I v13 111 a2) (by omega) h111' q1 q2 q3 q4 q5 q6 q7 q8 q9 q10 q11 q12 q13 (by omega) (by omega) rfl rfl hsr1 hsr2 hs1.1 hs1.2 hs2.1 hs2.2 (fun h => A1.2 (hneg1.1 h)) (fun h => A2.2 (hneg2.1 h)) (fun h h2 => by
          have h0 : 0 ≤ c a := Int.not_lt.1 (fun h3 => absurd (hneg1.2 h3) (Int.not_lt.2 h))
          exact (hv14 h0 ((hiff h0).1 h2)).1)
        by_cases hco : sv c (a, b) = sv c (a2, b2) ∧ (0 ≤ sv c (a, b) ∨ c a = c a2)
        · rw [if_pos hco] at hcls
          have hco2 : sv c (a, b) = sv c (a2, b2) ∧ (0 ≤ sv c (a, b) ∨ I v13 111 a = I v13 111 a2) := by
            refine ⟨hco.1, ?_⟩
            by_cases h0 : 0 ≤ sv c (a, b)
            · exact Or.inl h0
            · rcases hco.2 with h | h
              · exact Or.inl h
              · exact Or.inr ((hiff (Int.not_lt.1 (fun h => h0 (A1.2 h)))).2 h)
          rw [if_pos hco2] at href
          obtain ⟨u6, u7, k1, k2, k3, k4, k5, k6, k7, k8⟩ := two_enter hT hB hWE5 hTC5 hW5 hZ5
          rw [cs_one F' u5 u6 u7 k1 k2] at hcls
          by_cases h0 : 0 ≤ sv c (a, b)
          · rw [if_pos h0] at href
            have hca : c a < 0 := A1.1 h0
            have hca2 : c a2 < 0 := A2.1 (hco.1 ▸ h0)
            have ar1 : args c e (a, b) = [] := by unfold args ar; simp only [if_pos hca]; rfl
            have ar2 : args c e (a2, b2) = [] := by unfold args ar; simp only [if_pos hca2]; rfl
            obtain ⟨r, r', u', v', w1, w2, w3, w4, w5, w6, w7⟩ := ih (by omega) F' G' u7 v13 _ _ _ _ _ _ la lb ⟨hGT, k5, k6, hRE13, hTR13⟩ k3 k4 (by simp only [flat]; rw [args_items hT ha1, List.append_assoc, t9, ar1, List.nil_append]) (by simp only [flat]; rw [args_items hT ha2, List.append_assoc, t10, ar2, List.nil_append]) (by omega) (by omega) hIa' hIb' (by rw [k7, h5]) q14 q15 q16 q17 q18 (by omega) (by omega)
            exact ⟨r, r', u', v', hcls.trans w1, href.trans w2, w3, fun hr => by obtain ⟨n', x1, x2⟩ := w4 hr; exact ⟨n', by omega, x2⟩, w5, Fr_tr (Fr_tr hPU5 k8) w6, Fr_tr hPR13 w7⟩
          · rw [if_neg h0] at href
            have hq : c a = c a2 := by
              rcases hco.2 with h | h
              · exact absurd h h0
              · exact h
            have hca : 0 ≤ c a := Int.not_lt.1 (fun h => h0 (A1.2 h))
            obtain ⟨j1, j2, j3, j4, j5⟩ := hv14 hca hq
            have haar : ar c a = ar c a2 := by unfold ar; rw [hq]
            have hla1 : (args c e (a, b) ++ la).length = (args c e (a2, b2) ++ lb).length := by
              unfold args; simp only [List.length_append, items_len]; rw [haar]; omega
            have hla2 : (args c e (a, b) ++ la).length + 4 * n ≤ 16005 := by
              unfold args; simp only [List.length_append, items_len]; have := (hT _ ha1).1; omega
            obtain ⟨r, r', u', v', w1, w2, w3, w4, w5, w6, w7⟩ := ih (by omega) F' G' u7 v14 _ _ _ _ _ _ (args c e (a, b) ++ la) (args c e (a2, b2) ++ lb) ⟨hGT, k5, k6, RE_fr j5 (fun _ => rfl) (fun _ => rfl) (fun _ => rfl) (fun _ => rfl) (fun _ => rfl) hRE13, TR_fr j5 rfl (fun _ => rfl) hTR13⟩ k3 k4 (by simp only [flat]; rw [args_items hT ha1, List.append_assoc, t9]) (by simp only [flat]; rw [args_items hT ha2, List.append_assoc, t10]) hla1 hla2 (by
              intro z hz
              rcases List.mem_append.1 hz with hz | hz
              · exact IO_args hT hI1 hz
              · exact hIa' z hz) (by
              intro z hz
              rcases List.mem_append.1 hz with hz | hz
              · exact IO_args hT hI2 hz
              · exact hIb' z hz) (by rw [k7, h5]) (by rw [Fr_I j5 rfl]; exact q14) (by rw [Fr_I j5 rfl]; exact q15) j2 j3 j4 (by omega) (by omega)
            exact ⟨r, r', u', v', hcls.trans w1, href.trans w2, w3, fun hr => by obtain ⟨n', x1, x2⟩ := w4 hr; exact ⟨n', by omega, x2⟩, w5, Fr_tr (Fr_tr hPU5 k8) w6, Fr_tr (Fr_tr hPR13 (PRU_PAN j5)) w7⟩
        · rw [if_neg hco] at hcls
          have hco2 : ¬ (sv c (a, b) = sv c (a2, b2) ∧ (0 ≤ sv c (a, b) ∨ I v13 111 a = I v13 111 a2)) := by
            intro h
            apply hco
            refine ⟨h.1, ?_⟩
            by_cases h0 : 0 ≤ sv c (a, b)
            · exact Or.inl h0
            · rcases h.2 with h | h
              · exact Or.inl h
              · exact Or.inr ((hiff (Int.not_lt.1 (fun h => h0 (A1.2 h)))).1 h)
          rw [if_neg hco2] at href
          exact ⟨0, 0, u5, v13, hcls, href, Or.inr (Or.inl ⟨rfl, rfl, q15⟩), fun _ => ⟨n, by omega, h5, q14⟩, ⟨hGT, hWE5, hTC5, hRE13, hTR13⟩, hPU5, hPR13⟩
theorem same_spec {c : Nat → Int} {e : Nat → Nat} {N : Nat} {V : Int} {T : List (Nat × Nat × Int)} (hT : TOK c e N) (hV : V ≤ 220) {u v : St} (hU : UE u v c e N V T) (n : Nat) (hn : n ≤ 4000) (g l p h m q : Nat) (b b2 : Int) (hg : g < 150) (h57 : I u 57 g = l) (hl : l < 1201) (h29 : I u 29 l = p) (h58 : I u 58 g = b) (hh : h < 150) (h57' : I u 57 h = m) (hm : m < 1201) (h29' : I u 29 m = q) (h58' : I u 58 h = b2) (hp : IOL c e N V p b) (hq : IOL c e N V q b2) (hpq : c p = c q) (h85 : I u 8 5 = 4000 - n) (h97 : I v 100 97 = 4000 - n) (h98 : I v 100 98 = 0) :
    ∃ r r' u' v', fX8_same (zI g) (zI h) u = some (zI r, u') ∧ fX12_alike (zI p) (zI b) (zI q) (zI b2) v = some (zI r', v') ∧ UO r r' (I v' 100 98) ∧ (r ≠ 2 → ∃ n', n' ≤ n ∧ I u' 8 5 = 4000 - (n' : Nat) ∧ I v' 100 97 = 4000 - (n' : Nat)) ∧ UE u' v' c e N V T ∧ Fr PU u u' ∧ Fr PRU v v' := by
  obtain ⟨hGT, hWE, hTC, hRE, hTR⟩ := hU
  obtain ⟨ρ, hB⟩ := GT_BOK hV hGT
  have haar : ar c p = ar c q := by unfold ar; rw [hpq]
  obtain ⟨u1, k1, k2, k3, k4⟩ := begin2_spec hT g l p q b b2 hWE hg h57 hl h29 h58 m hm h29' hp.1 hq.1 haar hp.2
  have hR0 : Fr PAN v (uI v 100 111 (zI 0)) := Fr_up rfl (Fr_rfl _ _)
  have hRT0 := RT_fr hR0 (fun _ => rfl) (fun _ => rfl) (fun _ => rfl) hRE.1
  obtain ⟨v1, j1, j2, j3, j4, j5⟩ := an_spec hT (x := (p, b)) (y := (q, b2)) (la := []) (lb := []) hp.1.1 hq.1.1 haar hp.1.2.2.1 hp.1.2.2.2 hq.1.2.2.1 hq.1.2.2.2 rfl (by decide) hRT0 (I_uI1 _ _ _ _ (by decide) (by decide)) trivial trivial
  rw [List.append_nil] at j2 j3 j4
  have hRv := Fr_tr hR0 j5
  have h5 := (hT _ hp.1.1).1
  obtain ⟨r, r', u', v', w1, w2, w3, w4, w5, w6, w7⟩ := same_loop hT hV hB n hn FU FU u1 v1 (p + 1, b, ar c p) (q + 1, b2, ar c p) [] [] [] [] (args c e (p, b)) (args c e (q, b2)) ⟨hGT, WE_fr k4 (fun _ => rfl) (fun _ => rfl) (fun _ => rfl) hWE, TC_fr k4 rfl (fun _ => rfl) hTC, RE_fr hRv (fun _ => rfl) (fun _ => rfl) (fun _ => rfl) (fun _ => rfl) (fun _ => rfl) hRE, TR_fr hRv rfl (fun _ => rfl) hTR⟩ k2 k3 (by simp [flat, args]) (by simp [flat, args, haar]) (by unfold args; simp only [items_len]; exact haar) (by unfold args; simp only [items_len]; simp only at h5; omega) (fun z hz => IO_args hT hp.1 hz) (fun z hz => IO_args hT hq.1 hz) (by rw [Fr_I k4 rfl, h85]) (by rw [Fr_I hRv rfl, h97]) (by rw [Fr_I hRv rfl, h98]) j2 j3 j4 (by unfold FU; omega) (by unfold FU; omega)
  refine ⟨r, r', u', v', ?_, ?_, w3, w4, w5, Fr_tr (Fr_mono (fun k i hk => by unfold PU at hk; simp only [Bool.or_eq_false_iff] at hk ⊢; exact hk.1.1.1.1.1.1) k4) w6, Fr_tr (PRU_PAN hRv) w7⟩
  · unfold fX8_same
    rw [ld_z _ _ _ _ (by omega) (by omega), bd_s, ld_z _ _ _ _ (by omega) (by omega), bd_s, Int.toNat_natCast, h57', h58', k1, bd_s]
    exact w1
  · unfold fX12_alike
    rw [lt_e, show (0 : Int32) = zI 0 from rfl, j1, bd_s]
    exact w2
