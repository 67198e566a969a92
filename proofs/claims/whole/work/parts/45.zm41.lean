/-! the loops below a start clause -/
theorem SO_tr {u v u1 v1 u' v' : St} {a a' : Int} {C : Nat} {fi ps : Nat → Nat} {nv c : Nat → Int} {e : Nat → Nat} {mst lim : Int} (h1 : Fr PSe u u1) (h2 : Fr PRe v v1) (h : SO u1 v1 u' v' a a' C fi ps nv c e mst lim) : SO u v u' v' a a' C fi ps nv c e mst lim := ⟨h.1, h.2.1, Fr_tr h1 h.2.2.1, Fr_tr h2 h.2.2.2.1, h.2.2.2.2⟩
theorem solve_loop {C : Nat} {fi ps : Nat → Nat} {nv c : Nat → Int} {e : Nat → Nat} {mst lim : Int} (μ : Nat) : ∀ (F G : Nat) (x1 : Int) (u v : St) (φ : Nat → Nat) (f : Nat) (T : List (Nat × Nat × Int)) (L J : Nat) (V : Int) (Gd : Nat → Prop), HD u v φ C fi ps nv c e mst lim (f + 1) T L J V Gd → f < 150 → 2 * (mst - I u 9 13) + f + 1 ≤ μ → 0 ≤ x1 → x1 + μ < 1000000 → μ < F → 8 * μ + 8 < G →
    (∃ a a' u' v', fX3_runLimit_L0 F 0 (zI x1) u = some (zI a, u') ∧ fX12_solve_L0 G 1 0 0 v = some (zI a', v') ∧ SO u v u' v' a a' C fi ps nv c e mst lim) ∨
    (∃ u' v' φ' Gd' F' x1', fX3_runLimit_L0 F 0 (zI x1) u = fX3_runLimit_L0 F' 0 (zI x1') u' ∧ fX12_solve_L0 G 1 0 0 v = some (0, v') ∧ HD u' v' φ' C fi ps nv c e mst lim 0 [] 0 0 0 Gd' ∧ I u' 67 0 = I u 67 0 ∧ x1 ≤ x1' ∧ x1' + 2 * (mst - I u' 9 13) ≤ x1 + μ ∧ (F : Int) + 2 * (mst - I u' 9 13) ≤ F' + μ ∧ I u 9 13 ≤ I u' 9 13 ∧ Fr PSe u u' ∧ Fr PRe v v') := by
  induction μ with
  | zero =>
    intro F G x1 u v φ f T L J V Gd h hf hm
    have := h.2.2.2.2.2.1.2.2.2.1
    omega
  | succ μ ih =>
    intro F G x1 u v φ f T L J V Gd h hf hm hx0 hx hF hG
    obtain ⟨F', rfl⟩ : ∃ F', F = F' + 1 := ⟨F - 1, by omega⟩
    obtain ⟨G', rfl⟩ : ∃ G', G = G' + 6 := ⟨G - 6, by omega⟩
    obtain ⟨a, a', u', v', g, r, d1, d2, d3⟩ := tn_spec x1 hx0 (by omega) hf h
    obtain ⟨hS, hFS, hUX, h99, h120, hCn, h98, hsp⟩ := h
    obtain ⟨⟨g0, r0, hFR0⟩, hK0, hTB, hGT, hJL, hL, hV0, hV1, X, T', L', J', V', Gd', b1, b2, b3, b4, b5, b6, b7⟩ := hFS
    have hrt := rs_try (G' + 5) (f + 1) v v' (zI a') (by omega) (by omega) h120 h98 hsp d2
    obtain ⟨hCn', hKp, hst, hout⟩ := d3
    have hS' := Kp_S hKp hS
    have e67 : I u' 67 0 = I u 67 0 := hKp.1 67 0 (by simp [PKc, PU, PW])
    rcases hout with ⟨o1, o2, o3, o4, o5, o6⟩ | ⟨o1, o2, o3, o4, o5, o6, o7⟩ | ⟨o1, o2, o3, o4, T2, o5⟩ | ⟨o1, o2, o3, T2, o4⟩
    · -- the try went well
      subst o1; subst o2
      obtain ⟨φ', Gd2, T1, L2, J2, V2, q, m1, m2, m3, m4, m5, m6, m7, m8, m9, m10, m11, m12, m13, m14, m15, m16, m17, m18, m19, m20, m21, m22, m23, m24⟩ := o6
      have hFS' : FS u' v' φ' C fi nv c e (ps (fi C)) (f + 1) T L J V Gd := by
        refine ⟨⟨g, r, m22⟩, m23, Kp_TB hKp m20 (Int.le_refl _) hTB, hGT, hJL, hL, hV0, ⟨hV1.1, fun k hk => hV1.2 k (by rw [← e67]; exact hk)⟩, X, T', L', J', V', Gd', b1, b2, b3, b4, b5, ?_, FS_kp hKp b2 b3 m20 b7⟩
        cases f with
        | zero => trivial
        | succ f' =>
          obtain ⟨⟨g', r', c1⟩, _, c3, _⟩ := b7
          refine MVg_pres (fun k hk => hKp.1 k _ (by simp [PKc, PU, PW]; omega)) (fun k hk => hKp.2.1 k _ (by simp [PKr, PRU, PRB, PRS, PAN]; omega)) (fun t ht => hKp.1 60 t (PKc_tab (by simp) (by omega))) (fun g'' hg'' => ?_) (Nat.le_refl _) b6
          have : g'' = g' := by have := c1.2.1; omega
          subst this
          exact m20 g'' (by have := (c3 g'' c1.1).1; omega)
      have hGS : GS u' v' φ' C fi ps nv c e mst lim (f + 1) T L J V Gd T1 L2 J2 V2 Gd2 q (I v' 100 130) := ⟨hS', hFS', m24, m1, m2, m3, m4, m5, m6, m7, m8, m9, m10, m11, m12, m13, m14, m15, m16, m17, m18, by omega, ⟨m19, fun k hk => by have := hV1.2 k (by rw [← e67]; exact hk); omega⟩, m21, hCn', o3, o4⟩
      have hro := rs_on (G' + 3) v' _ o3 o4 rfl
      rcases goal_step x1 hGS with ⟨a, a', u2, v2, s1, s2, s3⟩ | ⟨u2, v2, n', T3, L3, J3, V3, Gd3, s1, s2, s3, s4, s5, s6, s7, s8, s9⟩
      · left
        exact ⟨a, a', u2, v2, (d1 F').trans (s1 _), (hrt.trans hro).trans (s2 G'), SO_tr hKp.2.2.1 hKp.2.2.2 s3⟩
      · obtain ⟨G2, t1, t2, t3⟩ := s2 G'
        have hc := (d1 F').trans (s1 _)
        have hr := (hrt.trans hro).trans t3
        cases n' with
        | zero =>
          right
          obtain ⟨z1, z2, z3, z4, z5, z6, z7, z8⟩ := s3
          obtain ⟨y1, y2, y3, y4, y5, y6⟩ := z2
          subst y1; subst y2; subst y3; subst y4
          obtain ⟨G3, rfl⟩ : ∃ G3, G2 = G3 + 2 := ⟨G2 - 2, by omega⟩
          exact ⟨u2, v2, φ', Gd3, F', x1 + 1, hc, hr.trans (rs_stop G3 v2 (Or.inl z5)), ⟨z1, ⟨rfl, rfl, rfl, rfl, y5, y6⟩, z3, z4, z5, z6, z7, z8⟩, s7.trans e67, by omega, by omega, by omega, by omega, Fr_tr hKp.2.2.1 s8, Fr_tr hKp.2.2.2 s9⟩
        | succ f2 =>
          rcases ih F' G2 (x1 + 1) u2 v2 φ' f2 T3 L3 J3 V3 Gd3 s3 (by omega) (by omega) (by omega) (by omega) (by omega) (by omega) with ⟨a, a', u3, v3, w1, w2, w3⟩ | ⟨u3, v3, φ3, Gd4, F3, x3, w1, w2, w3, w4, w5, w6, w7, w8, w9, w10⟩
          · left
            exact ⟨a, a', u3, v3, hc.trans w1, hr.trans w2, SO_tr (Fr_tr hKp.2.2.1 s8) (Fr_tr hKp.2.2.2 s9) w3⟩
          · right
            exact ⟨u3, v3, φ3, Gd4, F3, x3, hc.trans w1, hr.trans w2, w3, (w4.trans s7).trans e67, by omega, by omega, by omega, by omega, Fr_tr (Fr_tr hKp.2.2.1 s8) w9, Fr_tr (Fr_tr hKp.2.2.2 s9) w10⟩
    · -- the frame is through
      subst o1; subst o2
      have hc := (d1 F').trans (ct_fail _ x1 u' f (by omega) o6)
      have Fa : Fr (P1 9 9) u' (uI u' 9 9 (zI f)) := Fr_up (by simp [P1]) (Fr_rfl _ _)
      have c99 : I (uI u' 9 9 (zI f)) 9 9 = f := I_uI1 _ _ _ _ (by omega) (by omega)
      generalize hu2 : uI u' 9 9 (zI f) = u2 at *
      have eu : ∀ k i, (k ≠ 9 ∨ i ≠ 9) → I u2 k i = I u' k i := fun k i hk => Fr_I Fa (by simp [P1]; omega)
      have hFSf : FS u2 v' φ C fi nv c e (ps (fi C)) f T' L' J' V' Gd' := FS_pres f T' L' J' V' Gd' (fun k i _ _ _ => eu k i (by omega)) (fun k i _ _ _ => eu k i (by omega)) (fun _ _ _ _ _ => rfl) (fun _ _ _ _ _ => rfl) (fun _ _ _ _ => rfl) (fun _ _ _ _ => rfl) (fun _ _ => rfl) (FS_kp hKp b2 b3 (fun _ _ => rfl) b7)
      have hU2 : UE u2 v' c e (ps (fi C)) V (X ++ T') := by
        rw [← b1]
        exact ⟨o5.1, WE_fr Fa (fun i => by simp [P1]) (fun i => by simp [P1]) (fun i => by simp [P1]) o5.2.1, TC_fr Fa (by simp [P1]) (fun i => by simp [P1]) o5.2.2.1, o5.2.2.2⟩
      have hS2 : SR u2 v' C fi ps nv c e := SR_fr Fa (Fr_rfl (fun _ _ => false) v') (fun k i hk => by simp [PSc] at hk; simp [P1]; omega) (fun _ _ _ => rfl) hS'
      have hCn2 : Cn u2 v' mst lim := Kp_Cn (fun i hi => eu 9 i (by omega)) (fun _ _ => rfl) hCn'
      have hHD : HD u2 v' φ C fi ps nv c e mst lim f T' L' J' V' Gd' := ⟨hS2, hFSf, ⟨X, V, hU2, b4, by omega⟩, c99, o7, hCn2, o3, o4⟩
      have e13 : I u2 9 13 = I u' 9 13 := eu 9 13 (by omega)
      have e67' : I u2 67 0 = I u 67 0 := (eu 67 0 (by omega)).trans e67
      have FPS : Fr PSe u u2 := Fr_tr hKp.2.2.1 (Fr_up2 (fun k i hk => by simp [P1] at hk; simp [PSe, hk.1, hk.2]) Fa)
      cases f with
      | zero =>
        right
        obtain ⟨y1, y2, y3, y4, y5, y6⟩ := hFSf
        subst y1; subst y2; subst y3; subst y4
        refine ⟨u2, v', φ, Gd', F', x1 + 1, hc, hrt.trans (rs_stop (G' + 3) v' (Or.inl o7)), hHD, e67', by omega, by omega, by omega, by omega, FPS, hKp.2.2.2⟩
      | succ f2 =>
        rcases ih F' (G' + 5) (x1 + 1) u2 v' φ f2 T' L' J' V' Gd' hHD (by omega) (by omega) (by omega) (by omega) (by omega) (by omega) with ⟨a, a', u3, v3, w1, w2, w3⟩ | ⟨u3, v3, φ3, Gd4, F3, x3, w1, w2, w3, w4, w5, w6, w7, w8, w9, w10⟩
        · left
          exact ⟨a, a', u3, v3, hc.trans w1, hrt.trans w2, SO_tr FPS hKp.2.2.2 w3⟩
        · right
          exact ⟨u3, v3, φ3, Gd4, F3, x3, hc.trans w1, hrt.trans w2, w3, w4.trans e67', by omega, by omega, by omega, by omega, Fr_tr FPS w9, Fr_tr hKp.2.2.2 w10⟩
    · -- no steps left
      subst o1; subst o2
      left
      exact ⟨-6, 0, u', v', (d1 F').trans (ct_out _ _ u' _ (Or.inl rfl)), hrt.trans (rs_stop (G' + 3) v' (Or.inr (Or.inr o4))), hS', hCn', hKp.2.2.1, hKp.2.2.2, Or.inr (Or.inl ⟨rfl, rfl, o3, o4, T2, o5⟩)⟩
    · -- full
      subst o1; subst o2
      left
      exact ⟨-7, 0, u', v', (d1 F').trans (ct_out _ _ u' _ (Or.inr rfl)), hrt.trans (rs_stop (G' + 3) v' (Or.inr (Or.inl o3))), hS', hCn', hKp.2.2.1, hKp.2.2.2, Or.inr (Or.inr ⟨rfl, rfl, o3, T2, o4⟩)⟩
