/-! writing: the loop of a literal -/
theorem lit_loop {c : Nat → Int} {e : Nat → Nat} {N : Nat} {D : Nat × Int → Nat × Int} {bm : Int → Int} {WK : St → List (Nat × Int) → Prop} {WAt : St → Nat × Int → List (Nat × Int) → Prop} {RS : St → St → Prop} {Inv : St → St → Nat → List (Nat × Int) → Prop} (hT : TOK c e N) (hM : LMode c e N D bm WK WAt RS Inv) (d : Nat) : ∀ (F G k x3 : Nat) (u v : St) (os : List Nat) (L : List (Nat × Int)), k + d = 4001 → k ≤ 4000 → x3 ≤ k → 2 * d + 2 < F → 3000 * d + 3000 < G → WK u L → RS u v → Inv u v (k + os.length) L → DS u v k → I u 10 8 = (os.length : Nat) → OSr u os → (∀ n ∈ os, 1 ≤ n ∧ n ≤ 5) → 2 * os.length ≤ k → LSq v bm os L →
    ∃ u' v' k', fX1_literal_L0 F 0 (zI x3) 0 u = some u' ∧ fX12_termOut_L0 G 0 0 0 0 0 0 0 v = some v' ∧ DS u' v' k' ∧ k ≤ k' ∧ k' ≤ 4020 ∧ Wr u u' v v' Pl Qlit ∧ RS u' v' ∧ ((k' ≤ 4000 ∧ Inv u' v' k' []) ∨ (4000 < k' ∧ (∃ K l', Inv u' v' K l') ∧ ∃ u1 v1 K x l, Inv u1 v1 K (x :: l) ∧ k' ≤ K + 14)) := by
  obtain ⟨m1, m2, m3, m4, m5, m6, m7, m8, m9, m10, m11, m12⟩ := hM
  induction d using Nat.strongRecOn with
  | ind d ih =>
  intro F G k x3 u v os L hkd hk hx hF hG hW hR hI hD h8 hO hn hos hS
  have hdr := hD.2.1
  have h6 := DS_6 hD hk
  rcases hS with ⟨rfl, rfl, h81⟩ | ⟨x, l, rfl, hl, hS, h81⟩
  · rcases m3 u v _ _ hW hR hI with ⟨_, u', e1, e2⟩ | ⟨x, l, u', e0, _⟩
    · obtain ⟨F', rfl⟩ : ∃ F', F = F' + 1 := ⟨F - 1, by omega⟩
      obtain ⟨G', rfl⟩ : ∃ G', G = G' + 1 := ⟨G - 1, by omega⟩
      have W : Wr u u' v v Pi Qi := Wr_pw e2 (fun k i hk => by simp [Pi, PW] at hk ⊢; omega)
      have W2 : Wr u u' v v Pl Qlit := Wr_pw e2 (fun k i hk => by simp [Pl, PW] at hk ⊢; omega)
      refine ⟨u', v, k, lit_end F' x3 h6 e1 (by omega), term_end G' h81, ?_, Nat.le_refl _, by omega, W2, m2 _ _ _ _ W2 hdr hR, Or.inl ⟨hk, ?_⟩⟩
      · exact DS_fr e2 (Fr_rfl (fun _ _ => false) v) (fun i hi => rfl) (fun i => rfl) (fun i => rfl) rfl (fun _ => rfl) hD
      · have := m12 _ _ _ _ _ _ W hdr hI
        simpa using this
    · exact absurd e0 (by simp)
  · rcases m3 u v _ _ hW hR hI with ⟨e0, _⟩ | ⟨x', l', u3, e0, e1, e2, e3⟩
    · exact absurd e0 (by simp)
    obtain ⟨rfl, rfl⟩ : x = x' ∧ l = l' := by simpa using e0
    clear e0
    have hrl := rst_len bm os l hn
    obtain ⟨F', rfl⟩ : ∃ F', F = F' + 2 := ⟨F - 2, by omega⟩
    obtain ⟨G', rfl⟩ : ∃ G', G = G' + 1 := ⟨G - 1, by omega⟩
    obtain ⟨a1, a1', a2, a3, a4, a5, a6⟩ := m4 u3 x l e2
    have hNN := (m1 u v hR).1
    -- the class stands at the item
    have W3 : Wr u u3 v v Pi Qi := Wr_pw e3 (fun k i hk => by simp [Pi, PW] at hk ⊢; omega)
    have W3' : Wr u u3 v v Pl Qlit := Wr_pw e3 (fun k i hk => by simp [Pl, PW] at hk ⊢; omega)
    have hR3 := m2 _ _ _ _ W3' hdr hR
    have hI3 := m12 _ _ _ _ _ _ W3 hdr hI
    have hD3 : DS u3 v k := DS_fr e3 (Fr_rfl (fun _ _ => false) v) (fun i hi => rfl) (fun i => rfl) (fun i => rfl) rfl (fun _ => rfl) hD
    -- the reference takes the item
    obtain ⟨v3, t1, t2, t3, t4⟩ := t_item G' x.1 (bm x.2) (by omega) (rst bm os l) hD.2.2.2.1 hk hS h81 (by omega)
    have W4 : Wr u3 u3 v v3 Pi Qi := Wr_ref (Fr_up2 (fun k i hk => by simp [Qi, hk]) t4)
    have W4' : Wr u3 u3 v v3 Pl Qlit := Wr_ref (Fr_up2 (fun k i hk => by simp [Qlit, hk]) t4)
    have hR4 := m2 _ _ _ _ W4' hD3.2.1 hR3
    have hI4 := m12 _ _ _ _ _ _ W4 hD3.2.1 hI3
    obtain ⟨v4, s1, s2⟩ := m8 u3 v3 x l (fX12_termOut_L0 G') e2 hR4
    have W5 : Wr u3 u3 v3 v4 Pi Qi := Wr_ref (Fr_up2 (fun k i hk => by simp [Qi, hk]) s2)
    have W5' : Wr u3 u3 v3 v4 Pl Qlit := Wr_ref (Fr_up2 (fun k i hk => by simp [Qlit, hk]) s2)
    have hR5 := m2 _ _ _ _ W5' hD3.2.1 hR4
    have hI5 := m12 _ _ _ _ _ _ W5 hD3.2.1 hI4
    have hD5 : DS u3 v4 k := DS_fr (Fr_rfl (fun _ _ => false) u3) (Fr_tr (Fr_up2 (Q := fun k i => Ql k i || PF k i) (fun k i hk => by simp [hk]) t4) (Fr_up2 (fun k i hk => by simp [hk]) s2)) (fun _ _ => rfl) (fun _ => rfl) (fun _ => rfl) rfl (fun _ => rfl) hD3
    have hS5 : SZ v4 (rst bm os l) := SZ_fr s2 (fun _ => rfl) (fun _ => rfl) t2
    have h815 : I v4 100 81 = ((rst bm os l).length : Nat) := by rw [Fr_I s2 rfl]; exact t3
    have W05 : Wr u u3 v v4 Pl Qlit := Wr_tr W3' (Wr_tr W4' W5')
    have h83 : I u3 10 8 = (os.length : Nat) := by rw [Fr_I e3 rfl]; exact h8
    have hO3 : OSr u3 os := OSr_eq os _ (Nat.le_refl _) (fun i _ => Fr_I e3 rfl) hO
    have hrt5 := m1 _ _ hR5
    rw [t1, s1]
    by_cases hc : c (D x).1 < 0
    · -- a variable
      obtain ⟨z0, z1, u18, v5, m, p1, p2, p3, p4, p5, p6, p7⟩ := m9 u3 v4 x l k _ e2 hR5 hD5 hk hI5 hc
      have hd3 := hD5.2.1
      have W6 : Wr u3 u18 v4 v5 Pnm Qlit := Wr_mono (fun k i hk => by simp [Pv, Pnm] at hk ⊢; omega) (fun k i hk => by simp [Qlit, hk]) p7
      have W6' : Wr u3 u18 v4 v5 Pl Qlit := Wr_mono (fun k i hk => by simp [Pv, Pl] at hk ⊢; omega) (fun k i hk => by simp [Qlit, hk]) p7
      obtain ⟨u19, q1, q2, q3⟩ := m7 u18 x l (m6 _ _ _ _ _ _ W6 hd3 e2)
      have har : args c e (D x) = [] := List.length_eq_zero_iff.1 (by rw [args_len]; unfold ar; rw [if_pos hc])
      rw [har, List.nil_append] at q2
      have hR6 := m2 _ _ _ _ W6' hd3 hR5
      have hd6 := p5.2.1
      have W7 : Wr u18 u19 v5 v5 Pi Qi := Wr_pw q3 (fun k i hk => by simp [Pi, PW] at hk ⊢; omega)
      have W7' : Wr u18 u19 v5 v5 Pl Qlit := Wr_pw q3 (fun k i hk => by simp [Pl, PW] at hk ⊢; omega)
      have hR7 := m2 _ _ _ _ W7' hd6 hR6
      have hD7 : DS u19 v5 (k + m) := DS_fr q3 (Fr_rfl (fun _ _ => false) v5) (fun i hi => rfl) (fun i => rfl) (fun i => rfl) rfl (fun _ => rfl) p5
      have hd7 := hD7.2.1
      have W07 : Wr u u19 v v5 Pl Qlit := Wr_tr W05 (Wr_tr W6' W7')
      have h87 : I u19 10 8 = (os.length : Nat) := by rw [Fr_I q3 rfl, Wr_I p7 hd3 rfl (by decide) (by decide) (by omega)]; exact h83
      have hO7 : OSr u19 os := OSr_eq os _ (Nat.le_refl _) (fun i _ => Fr_I q3 rfl) (OSr_wr p7 hd3 (fun _ => rfl) hO3)
      have hS7 : SZ v5 (rst bm os l) := SZ_fr p7.2.2.2 (fun _ => rfl) (fun _ => rfl) hS5
      have h817 : I v5 100 81 = ((rst bm os l).length : Nat) := by rw [Wr_V p7 rfl rfl]; exact h815
      have hI7 : ∀ K', K' ≤ k + os.length + 14 → Inv u19 v5 K' l := fun K' hK => m12 _ _ _ _ _ _ W7 hd6 (p6 K' hK)
      have hterm : ∀ w, fX12_termOut_L0 G' 1 (zI (D x).1) (zI (bm (D x).2)) 0 0 0 0 v4 = w ↔ fX12_termOut_L0 (G' - 2) 0 0 0 0 0 0 0 v5 = w := by
        intro w
        obtain ⟨G2, rfl⟩ : ∃ G2, G' = G2 + 2 := ⟨G' - 2, by omega⟩
        rw [t_var G2 (D x).1 (bm (D x).2) (c (D x).1) (by omega) a2 a3 ((hrt5.2.1 _ a1).1 hc) hc p2]; rfl
      by_cases hkm : k + m ≤ 4000
      · obtain ⟨u21, v6, k', G6, r1, r2, r3, r4, r5, r6, r7, r10, r11⟩ := et_two bm os l FU (G' - 2) (k + m) u19 v5 (by unfold FU; omega) (by omega) hkm h87 hO7 hn hl hD7 hS7 h817 (by omega) (by omega)
        have hcl := c_var F' x3 u u3 u18 u19 u21 _ (by omega) h6 e1 (by rw [a5, if_pos hc]) z0 z1 p1 q1 r1
        rw [hcl]
        have W8 : Wr u19 u21 v5 v6 Pi Qi := Wr_mono (fun k i hk => by simp [Po, Pi] at hk ⊢; omega) (fun k i hk => by simp [Qi, hk]) r7
        have W8n : Wr u19 u21 v5 v6 Pnm Qlit := Wr_mono (fun k i hk => by simp [Po, Pnm] at hk ⊢; omega) (fun k i hk => by simp [Qlit, hk]) r7
        have W8' : Wr u19 u21 v5 v6 Pl Qlit := Wr_mono (fun k i hk => by simp [Po, Pl] at hk ⊢; omega) (fun k i hk => by simp [Qlit, hk]) r7
        have hR8 := m2 _ _ _ _ W8' hd7 hR7
        by_cases hk4 : k' ≤ 4000
        · obtain ⟨os', o1, o2, o3, o4, o5, o6⟩ := r11 hk4
          obtain ⟨u', v', k2, y1, y2, y3, y4, y5, y6, y7, y8⟩ := ih (4001 - k') (by omega) F' G6 k' (x3 + 1) u21 v6 os' l (by omega) hk4 (by omega) (by omega) (by omega) (m5 _ _ _ _ _ W8n hd7 q2) hR8 (m12 _ _ _ _ _ _ W8 hd7 (hI7 _ (by omega))) r4 o1 o2 o3 (by omega) o6
          exact ⟨u', v', k2, y1, (hterm _).2 (r2.trans y2), y3, by omega, y5, Wr_tr W07 (Wr_tr W8' y6), y7, y8⟩
        · obtain ⟨F2, rfl⟩ : ∃ F2, F' = F2 + 1 := ⟨F' - 1, by omega⟩
          obtain ⟨G7, rfl⟩ : ∃ G7, G6 = G7 + 1 := ⟨G6 - 1, by omega⟩
          exact ⟨u21, v6, k', lit_over F2 (x3 + 1) r4 (by omega) (by omega), (hterm _).2 (r2.trans (term_over G7 r4.2.2.2.1 (by omega) (by omega))), r4, by omega, by omega, Wr_tr W07 W8', hR8, Or.inr ⟨by omega, ⟨0, l, m12 _ _ _ _ _ _ W8 hd7 (hI7 0 (by omega))⟩, u3, v4, _, x, l, hI5, by omega⟩⟩
      · obtain ⟨u21, r1, r2, r3, r4, r5⟩ := et_over (v := v5) (k := k + m) (by omega) os FU u19 (by unfold FU; omega) (by omega) h87 hO7 (fun n h => by have := hn n h; omega) hD7
        have hcl := c_var F' x3 u u3 u18 u19 u21 _ (by omega) h6 e1 (by rw [a5, if_pos hc]) z0 z1 p1 q1 r1
        rw [hcl]
        have W8' : Wr u19 u21 v5 v5 Pl Qlit := Wr_mono (fun k i hk => by simp [Po, Pl] at hk ⊢; omega) (fun k i hk => by simp [NoP] at hk) r3
        obtain ⟨F2, rfl⟩ : ∃ F2, F' = F2 + 1 := ⟨F' - 1, by omega⟩
        obtain ⟨G7, hG7⟩ : ∃ G7, G' - 2 = G7 + 1 := ⟨G' - 3, by omega⟩
        exact ⟨u21, v5, k + m, lit_over F2 (x3 + 1) r2 (by omega) (by omega), (hterm _).2 (by rw [hG7]; exact term_over G7 r2.2.2.2.1 (by omega) (by omega)), r2, by omega, by omega, Wr_tr W07 W8', m2 _ _ _ _ W8' hd7 hR7, Or.inr ⟨by omega, ⟨0, l, m12 _ _ _ _ _ _ (Wr_mono (fun k i hk => by simp [Po, Pi] at hk ⊢; omega) (fun k i hk => by simp [NoP] at hk) r3) hd7 (hI7 0 (by omega))⟩, u3, v4, _, x, l, hI5, by omega⟩⟩
    · -- a symbol
      have hc0 : 0 ≤ c (D x).1 := by omega
      obtain ⟨u12, v5, m, p1, p2, p3, p4, p5, p7⟩ := m10 u3 v4 x l k e2 hR5 hD5 hk hc0
      have hd3 := hD5.2.1
      have W6n : Wr u3 u12 v4 v5 Pnm Qlit := Wr_mono (fun k i hk => by simp at hk; simp [Pnm, hk]) (fun k i hk => by simp [NoP] at hk) p7
      have W6' : Wr u3 u12 v4 v5 Pl Qlit := Wr_mono (fun k i hk => by simp at hk; simp [Pl, hk]) (fun k i hk => by simp [NoP] at hk) p7
      have W6 : Wr u3 u12 v4 v5 Pi Qi := Wr_mono (fun k i hk => by simp at hk; simp [Pi, hk]) (fun k i hk => by simp [NoP] at hk) p7
      have hA6 := m6 _ _ _ _ _ _ W6n hd3 e2
      have hs2 := (m4 _ _ _ hA6).2.2.2.2.1
      obtain ⟨u19, q1, q2, q3⟩ := m7 u12 x l hA6
      have hR6 := m2 _ _ _ _ W6' hd3 hR5
      have hI6 := m12 _ _ _ _ _ _ W6 hd3 hI5
      have hd6 := p5.2.1
      have W7 : Wr u12 u19 v5 v5 Pi Qi := Wr_pw q3 (fun k i hk => by simp [Pi, PW] at hk ⊢; omega)
      have W7' : Wr u12 u19 v5 v5 Pl Qlit := Wr_pw q3 (fun k i hk => by simp [Pl, PW] at hk ⊢; omega)
      have hR7 := m2 _ _ _ _ W7' hd6 hR6
      have hrt6 := m1 _ _ hR6
      have hD7 : DS u19 v5 (k + m) := DS_fr q3 (Fr_rfl (fun _ _ => false) v5) (fun i hi => rfl) (fun i => rfl) (fun i => rfl) rfl (fun _ => rfl) p5
      have hd7 := hD7.2.1
      have W07 : Wr u u19 v v5 Pl Qlit := Wr_tr W05 (Wr_tr W6' W7')
      have h87 : I u19 10 8 = (os.length : Nat) := by rw [Fr_I q3 rfl, Wr_I p7 hd3 rfl (by decide) (by decide) (by omega)]; exact h83
      have hO7 : OSr u19 os := OSr_eq os _ (Nat.le_refl _) (fun i _ => Fr_I q3 rfl) (OSr_wr p7 hd3 (fun _ => rfl) hO3)
      have hS7 : SZ v5 (rst bm os l) := SZ_fr p7.2.2.2 (fun _ => rfl) (fun _ => rfl) hS5
      have h817 : I v5 100 81 = ((rst bm os l).length : Nat) := by rw [Wr_V p7 rfl rfl]; exact h815
      have hI7 : ∀ K', K' ≤ k + os.length + 14 → Inv u19 v5 K' (args c e (D x) ++ l) := fun K' hK => m12 _ _ _ _ _ _ W7 hd6 (m11 _ _ _ _ _ _ hA6 hI6 hc0 hK)
      have hv1 : fX9_variable 2 u3 = some (zI (-1), u3) := by rw [a5, if_neg hc]
      obtain ⟨n, harn⟩ : ∃ n, ar c (D x).1 = n := ⟨_, rfl⟩
      have hn5 : n ≤ 5 := by rw [← harn]; exact (hT _ a1).1
      have h8n : c (D x).1 % 8 = (n : Int) := by
        have : n = (c (D x).1 % 8).toNat := by rw [← harn]; unfold ar; rw [if_neg hc]
        omega
      by_cases hn0 : n = 0
      · subst hn0
        have har : args c e (D x) = [] := List.length_eq_zero_iff.1 (by rw [args_len, harn])
        rw [har, List.nil_append] at q2
        rw [har, List.nil_append] at hI7
        have hterm : ∀ w, fX12_termOut_L0 G' 1 (zI (D x).1) (zI (bm (D x).2)) 0 0 0 0 v4 = w ↔ fX12_termOut_L0 (G' - 3) 0 0 0 0 0 0 0 v5 = w := by
          intro w
          obtain ⟨G2, rfl⟩ : ∃ G2, G' = G2 + 3 := ⟨G' - 3, by omega⟩
          rw [t_sym0 G2 (D x).1 (bm (D x).2) _ a1 hrt5 hrt6 hc0 harn rfl p2]; rfl
        by_cases hkm : k + m ≤ 4000
        · obtain ⟨u21, v6, k', G6, r1, r2, r3, r4, r5, r6, r7, r10, r11⟩ := et_two bm os l FU (G' - 3) (k + m) u19 v5 (by unfold FU; omega) (by omega) hkm h87 hO7 hn hl hD7 hS7 h817 (by omega) (by omega)
          have hcl := c_sym0 F' x3 u u3 u12 u19 u21 _ (by omega) h6 e1 hv1 a4 hc0 a6 h8n p1 hs2 q1 r1
          rw [hcl]
          have W8 : Wr u19 u21 v5 v6 Pi Qi := Wr_mono (fun k i hk => by simp [Po, Pi] at hk ⊢; omega) (fun k i hk => by simp [Qi, hk]) r7
          have W8n : Wr u19 u21 v5 v6 Pnm Qlit := Wr_mono (fun k i hk => by simp [Po, Pnm] at hk ⊢; omega) (fun k i hk => by simp [Qlit, hk]) r7
          have W8' : Wr u19 u21 v5 v6 Pl Qlit := Wr_mono (fun k i hk => by simp [Po, Pl] at hk ⊢; omega) (fun k i hk => by simp [Qlit, hk]) r7
          have hR8 := m2 _ _ _ _ W8' hd7 hR7
          by_cases hk4 : k' ≤ 4000
          · obtain ⟨os', o1, o2, o3, o4, o5, o6⟩ := r11 hk4
            obtain ⟨u', v', k2, y1, y2, y3, y4, y5, y6, y7, y8⟩ := ih (4001 - k') (by omega) F' G6 k' (x3 + 1) u21 v6 os' l (by omega) hk4 (by omega) (by omega) (by omega) (m5 _ _ _ _ _ W8n hd7 q2) hR8 (m12 _ _ _ _ _ _ W8 hd7 (hI7 _ (by omega))) r4 o1 o2 o3 (by omega) o6
            exact ⟨u', v', k2, y1, (hterm _).2 (r2.trans y2), y3, by omega, y5, Wr_tr W07 (Wr_tr W8' y6), y7, y8⟩
          · obtain ⟨F2, rfl⟩ : ∃ F2, F' = F2 + 1 := ⟨F' - 1, by omega⟩
            obtain ⟨G7, rfl⟩ : ∃ G7, G6 = G7 + 1 := ⟨G6 - 1, by omega⟩
            exact ⟨u21, v6, k', lit_over F2 (x3 + 1) r4 (by omega) (by omega), (hterm _).2 (r2.trans (term_over G7 r4.2.2.2.1 (by omega) (by omega))), r4, by omega, by omega, Wr_tr W07 W8', hR8, Or.inr ⟨by omega, ⟨0, l, m12 _ _ _ _ _ _ W8 hd7 (hI7 0 (by omega))⟩, u3, v4, _, x, l, hI5, by omega⟩⟩
        · obtain ⟨u21, r1, r2, r3, r4, r5⟩ := et_over (v := v5) (k := k + m) (by omega) os FU u19 (by unfold FU; omega) (by omega) h87 hO7 (fun n h => by have := hn n h; omega) hD7
          have hcl := c_sym0 F' x3 u u3 u12 u19 u21 _ (by omega) h6 e1 hv1 a4 hc0 a6 h8n p1 hs2 q1 r1
          rw [hcl]
          have W8' : Wr u19 u21 v5 v5 Pl Qlit := Wr_mono (fun k i hk => by simp [Po, Pl] at hk ⊢; omega) (fun k i hk => by simp [NoP] at hk) r3
          obtain ⟨F2, rfl⟩ : ∃ F2, F' = F2 + 1 := ⟨F' - 1, by omega⟩
          obtain ⟨G7, hG7⟩ : ∃ G7, G' - 3 = G7 + 1 := ⟨G' - 4, by omega⟩
          exact ⟨u21, v5, k + m, lit_over F2 (x3 + 1) r2 (by omega) (by omega), (hterm _).2 (by rw [hG7]; exact term_over G7 r2.2.2.2.1 (by omega) (by omega)), r2, by omega, by omega, Wr_tr W07 W8', m2 _ _ _ _ W8' hd7 hR7, Or.inr ⟨by omega, ⟨0, l, m12 _ _ _ _ _ _ (Wr_mono (fun k i hk => by simp [Po, Pi] at hk ⊢; omega) (fun k i hk => by simp [NoP] at hk) r3) hd7 (hI7 0 (by omega))⟩, u3, v4, _, x, l, hI5, by omega⟩⟩
      · -- with arguments
        obtain ⟨v6, G6, g1, g2, g3⟩ := t_symn (bm := bm) hT G' (D x).1 n (D x).2 _ a1 hrt5 hrt6 hc0 harn (by omega) rfl p2 a2 a3 (by omega)
        have W6v : Wr u19 u19 v5 v6 Pi Qi := Wr_ref (Fr_up2 (fun k i hk => by simp at hk; simp [Qi, hk]) g2)
        have W6v' : Wr u19 u19 v5 v6 Pl Qlit := Wr_ref (Fr_up2 (fun k i hk => by simp at hk; simp [Qlit, hk]) g2)
        have hD8 : DS u19 v6 (k + m) := DS_fr (Fr_rfl (fun _ _ => false) u19) g2 (fun _ _ => rfl) (fun _ => rfl) (fun _ => rfl) rfl (fun _ => rfl) hD7
        have hS8 : SZ v6 (rst bm os l) := SZ_fr g2 (fun _ => rfl) (fun _ => rfl) hS7
        have h818 : I v6 100 81 = ((rst bm os l).length : Nat) := by rw [Fr_I g2 rfl]; exact h817
        obtain ⟨u23, v7, v8, b1, b2', b3, b4, b5, b6, b7, b8, b9⟩ := open_both n os (rst bm os l) hn5 (by omega) h87 hO7 hD8 (by omega) hS8 h818 (by omega)
        have F78 : Fr Qw v6 v7 := by
          obtain ⟨v7', x1, x2, x3'⟩ := rput_any v6 (k + m) 40 (by omega) hD8.2.2.2.1
          have : v7 = v7' := Option.some.inj (b2'.symm.trans x1)
          rw [this]; exact x3'
        obtain ⟨v9, g4, g5, g6, g7⟩ := g3 (rst bm os l) v7 v8 b2' b3 F78 b7 b8 (by omega)
        have hcl := c_symn F' x3 n u u3 u12 u19 u23 _ (by omega) h6 e1 hv1 a4 hc0 a6 (by omega) h8n p1 hs2 q1 b1
        rw [hcl, g4]
        have hd8 := hD8.2.1
        have W8 : Wr u19 u23 v6 v8 Pi Qi := Wr_mono (fun k i hk => by simp [Po, Pi] at hk ⊢; omega) (fun k i hk => by simp [Qi, hk]) b9
        have W8n : Wr u19 u23 v6 v8 Pnm Qlit := Wr_mono (fun k i hk => by simp [Po, Pnm] at hk ⊢; omega) (fun k i hk => by simp [Qlit, hk]) b9
        have W8' : Wr u19 u23 v6 v8 Pl Qlit := Wr_mono (fun k i hk => by simp [Po, Pl] at hk ⊢; omega) (fun k i hk => by simp [Qlit, hk]) b9
        have hd9 := b4.2.1
        have W9 : Wr u23 u23 v8 v9 Pi Qi := Wr_ref (Fr_up2 (fun k i hk => by simp [Qi, hk]) g7)
        have W9n : Wr u23 u23 v8 v9 Pnm Qlit := Wr_ref (Fr_up2 (fun k i hk => by simp [Qlit, hk]) g7)
        have W9' : Wr u23 u23 v8 v9 Pl Qlit := Wr_ref (Fr_up2 (fun k i hk => by simp [Qlit, hk]) g7)
        have hR9 := m2 _ _ _ _ W9' hd9 (m2 _ _ _ _ W8' hd7 (m2 _ _ _ _ W6v' hd7 hR7))
        have hI9 : Inv u23 v9 (k + m + 1 + (n :: os).length) (args c e (D x) ++ l) := m12 _ _ _ _ _ _ W9 hd9 (m12 _ _ _ _ _ _ W8 hd7 (m12 _ _ _ _ _ _ W6v hd7 (hI7 _ (by simp only [List.length_cons]; omega))))
        have hD9 : DS u23 v9 (k + m + 1) := DS_fr (Fr_rfl (fun _ _ => false) u23) g7 (fun _ _ => rfl) (fun _ => rfl) (fun _ => rfl) rfl (fun _ => rfl) b4
        have W09 : Wr u u23 v v9 Pl Qlit := Wr_tr W07 (Wr_tr W6v' (Wr_tr W8' W9'))
        by_cases hk4 : k + m + 1 ≤ 4000
        · have hargs : args c e (D x) = ((D x).1 + 1, (D x).2) :: items e (n - 1) (e ((D x).1 + 1)) (D x).2 := by
            unfold args; rw [harn]
            obtain ⟨n', rfl⟩ : ∃ n', n = n' + 1 := ⟨n - 1, by omega⟩
            rfl
          have hil : (items e (n - 1) (e ((D x).1 + 1)) (D x).2).length + 1 = n := by rw [items_len]; omega
          have hra := rst_args bm os ((D x).1 + 1, (D x).2) (items e (n - 1) (e ((D x).1 + 1)) (D x).2) l
          rw [hil] at hra
          rw [hra] at g5 g6
          obtain ⟨u', v', k2, y1, y2, y3, y4, y5, y6, y7, y8⟩ := ih (4001 - (k + m + 1)) (by omega) F' G6 (k + m + 1) (x3 + 1) u23 v9 (n :: os) (args c e (D x) ++ l) (by omega) hk4 (by omega) (by omega) (by omega) (m5 _ _ _ _ _ W9n hd9 (m5 _ _ _ _ _ W8n hd7 q2)) hR9 hI9 hD9 (by simp only [List.length_cons]; exact b5) b6 (by
            intro m' hm'
            rcases List.mem_cons.1 hm' with h | h
            · omega
            · exact hn m' h) (by simp only [List.length_cons]; omega) (Or.inr ⟨((D x).1 + 1, (D x).2), items e (n - 1) (e ((D x).1 + 1)) (D x).2 ++ l, by rw [hargs]; rfl, by simp only [List.length_append, items_len, osum]; omega, g5, by rw [g6]; simp only [List.length_cons]⟩)
          exact ⟨u', v', k2, y1, y2, y3, by omega, y5, Wr_tr W09 y6, y7, y8⟩
        · obtain ⟨F2, rfl⟩ : ∃ F2, F' = F2 + 1 := ⟨F' - 1, by omega⟩
          obtain ⟨G7, rfl⟩ : ∃ G7, G6 = G7 + 1 := ⟨G6 - 1, by omega⟩
          exact ⟨u23, v9, k + m + 1, lit_over F2 (x3 + 1) hD9 (by omega) (by omega), term_over G7 hD9.2.2.2.1 (by omega) (by omega), hD9, by omega, by omega, W09, hR9, Or.inr ⟨by omega, ⟨_, _, hI9⟩, u3, v4, _, x, l, hI5, by omega⟩⟩
