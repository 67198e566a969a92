/-! writing: behind a term -/
def OSr (u : St) : List Nat → Prop
  | [] => True
  | n :: os => I u 73 os.length = n ∧ OSr u os
theorem OSr_eq {u u' : St} (l : List Nat) : ∀ m, l.length ≤ m → (∀ i, i < m → I u' 73 i = I u 73 i) → OSr u l → OSr u' l := by
  induction l with
  | nil => intro _ _ _ _; trivial
  | cons x l ih =>
    intro m hm h hA
    simp only [List.length_cons] at hm
    exact ⟨(h l.length (by omega)).trans hA.1, ih m (by omega) h hA.2⟩
theorem OSr_wr {P Q : Nat → Nat → Bool} {u u' v v' : St} {l : List Nat} (h : Wr u u' v v' P Q) (hd : gR u 10 4 = 71 ∨ gR u 10 4 = 72) (h1 : ∀ i, P 73 i = false) (hO : OSr u l) : OSr u' l := OSr_eq l _ (Nat.le_refl _) (fun i _ => Wr_I h hd (h1 i) (by decide) (by decide) (Or.inl (by decide))) hO
theorem cput_over {u v : St} {k : Nat} (a : Int32) (h : DS u v k) (hk : 4000 < k) (P Q : Nat → Nat → Bool) : ∃ u', fX1_put a u = some u' ∧ DS u' v k ∧ Wr u u' v v P Q := by
  obtain ⟨d1, d2, d3, d4, d5⟩ := h
  rcases d5 with ⟨a1, _⟩ | ⟨a1, a2, a3, a4⟩
  · omega
  · have Fa : Fr (fun k i => P k i || Pw (gR u 10 4) k i) u (uI u 10 6 (zI 1)) := Fr_up (by simp [Pw]) (Fr_rfl _ _)
    exact ⟨_, cput_high u a a3, ⟨d1, d2, d3, d4, Or.inr ⟨a1, a2, by rw [I_uI2 _ _ _ _ _ _ (by omega)]; exact a3, I_uI1 _ _ _ _ (by decide) (by decide)⟩⟩, Fa, rfl, rfl, Fr_rfl _ _⟩
def Po : Nat → Nat → Bool := fun k i => k == 73 || (k == 10 && i == 8)
/-- one turn of the class behind a term -/
theorem et_open (u : St) (m : Nat) (n : Int) (hm : m < 4000) (h8 : I u 10 8 = ((m + 1 : Nat) : Int)) (h73 : I u 73 m = n) (hn1 : -2147483647 ≤ n) (hn2 : n < 2147483648) (R : Nat → St → Option St) : ∃ u3, fX1_endTerm_L0_0 R u = (if n - 1 ≤ 0 then (bd (fX1_put 41 u3) fun u6 => lt (uI u6 10 8 ((gI u6 10 8) - 1)) fun u7 => R 0 u7) else (bd (fX1_put 44 u3) fun u8 => some u8)) ∧ I u3 73 m = n - 1 ∧ Fr (P1 73 m) u u3 := by
  have F1 : Fr (P1 73 m) u (uI u 73 m (zI (n - 1))) := Fr_up (by simp [P1]) (Fr_rfl _ _)
  have c1 : I (uI u 73 m (zI (n - 1))) 73 m = n - 1 := I_uI1 _ _ _ _ (by omega) (by omega)
  have c2 : I (uI u 73 m (zI (n - 1))) 10 8 = ((m + 1 : Nat) : Int) := by rw [I_uI3 _ _ _ _ _ _ (by decide)]; exact h8
  refine ⟨uI u 73 m (zI (n - 1)), ?_, c1, F1⟩
  unfold fX1_endTerm_L0_0
  rw [gI_z u 10 8, h8, if_neg (by rw [z_zero, z_le (by omega) (by omega) (by decide) (by decide)]; omega), show (1 : Int32) = zI 1 from rfl, z_sub, show ((m + 1 : Nat) : Int) - 1 = m by omega, ld_z _ _ _ _ (by omega) (by omega), bd_s, Int.toNat_natCast, h73, z_sub, st_z _ _ _ _ _ (by omega) (by omega), bd_s, Int.toNat_natCast, gI_z _ 10 8, c2, z_sub, show ((m + 1 : Nat) : Int) - 1 = m by omega, ld_z _ _ _ _ (by omega) (by omega), bd_s, Int.toNat_natCast, c1]
  by_cases hc : n - 1 ≤ 0
  · rw [if_pos (by rw [z_zero, z_le (by omega) (by omega) (by decide) (by decide)]; exact hc), if_pos hc]
  · rw [if_neg (by rw [z_zero, z_le (by omega) (by omega) (by decide) (by decide)]; exact hc), if_neg hc]
theorem DS_73 {u u' v : St} {k m : Nat} (hu : Fr (P1 73 m) u u') (h : DS u v k) : DS u' v k := DS_fr hu (Fr_rfl (fun _ _ => false) v) (fun i hi => by simp [P1]) (fun i => by simp [P1]) (fun i => by simp [P1]) rfl (fun _ => rfl) h
theorem DS_108 {u v : St} {k : Nat} {x : Int32} (h : DS u v k) : DS (uI u 10 8 x) v k := DS_fr (P := P1 10 8) (Fr_up (by simp [P1]) (Fr_rfl _ _)) (Fr_rfl (fun _ _ => false) v) (fun i hi => by simp [P1]; omega) (fun i => by simp [P1]) (fun i => by simp [P1]) rfl (fun _ => rfl) h
/-- the class goes on alone when the page is full -/
theorem et_over {v : St} {k : Nat} (hk : 4000 < k) (os : List Nat) : ∀ (F : Nat) (u : St), os.length < F → os.length ≤ 4000 → I u 10 8 = (os.length : Nat) → OSr u os → (∀ n ∈ os, n ≤ 10) → DS u v k → ∃ u', fX1_endTerm_L0 F 0 u = some u' ∧ DS u' v k ∧ Wr u u' v v Po NoP ∧ 0 ≤ I u' 10 8 ∧ I u' 10 8 ≤ 4000 := by
  induction os with
  | nil =>
    intro F u hF hl h8 hO hn hD
    obtain ⟨G, rfl⟩ : ∃ G, F = G + 1 := ⟨F - 1, by omega⟩
    refine ⟨u, ?_, hD, Wr_rfl _ _ _ _, by rw [h8]; simp, by rw [h8]; simp⟩
    have st : fX1_endTerm_L0 (G + 1) 0 u = fX1_endTerm_L0_0 (fX1_endTerm_L0 G) u := rfl
    rw [st]; unfold fX1_endTerm_L0_0
    rw [gI_z, h8, if_pos (by decide)]
  | cons n os ih =>
    intro F u hF hl h8 hO hn hD
    obtain ⟨G, rfl⟩ : ∃ G, F = G + 1 := ⟨F - 1, by omega⟩
    simp only [List.length_cons] at hF hl h8
    have hn10 := hn n (by simp)
    obtain ⟨u3, e1, e2, e3⟩ := et_open u os.length n (by omega) h8 hO.1 (by omega) (by omega) (fX1_endTerm_L0 G)
    have st : fX1_endTerm_L0 (G + 1) 0 u = fX1_endTerm_L0_0 (fX1_endTerm_L0 G) u := rfl
    have hD3 := DS_73 e3 hD
    have W3 : Wr u u3 v v Po NoP := Wr_cls (Fr_up2 (fun k i hk => by simp [P1] at hk; simp [Po, hk.1]) e3) rfl rfl
    by_cases hc : (n : Int) - 1 ≤ 0
    · rw [if_pos hc] at e1
      obtain ⟨u6, p1, p2, p3⟩ := cput_over 41 hD3 hk NoP NoP
      have c8 : I u6 10 8 = ((os.length + 1 : Nat) : Int) := by
        rw [Wr_I p3 hD3.2.1 rfl (by decide) (by decide) (by omega), Fr_I e3 (by simp [P1])]; exact h8
      have Fa : Fr (P1 10 8) u6 (uI u6 10 8 (zI os.length)) := Fr_up (by simp [P1]) (Fr_rfl _ _)
      have c8' : I (uI u6 10 8 (zI os.length)) 10 8 = (os.length : Nat) := I_uI1 _ _ _ _ (by omega) (by omega)
      have hO6 : OSr (uI u6 10 8 (zI os.length)) os := OSr_eq os os.length (Nat.le_refl _) (fun i hi => by
        rw [I_uI3 _ _ _ _ _ _ (by decide), Wr_I p3 hD3.2.1 rfl (by decide) (by decide) (Or.inl (by decide)), Fr_I e3 (by simp [P1]; omega)]) hO.2
      obtain ⟨u', r1, r2, r3, r4⟩ := ih G (uI u6 10 8 (zI os.length)) (by omega) (by omega) c8' hO6 (fun n hn' => hn n (by simp [hn'])) (DS_108 p2)
      refine ⟨u', ?_, r2, Wr_tr W3 (Wr_tr (Wr_mono (fun k i hk => by simp [NoP] at hk) (fun k i hk => hk) p3) (Wr_tr (Wr_cls (Fr_up2 (fun k i hk => by simp [P1] at hk; simp [Po, hk.1, hk.2]) Fa) rfl rfl) r3)), r4⟩
      rw [st, e1, p1, bd_s, gI_z, c8, show (1 : Int32) = zI 1 from rfl, z_sub, show ((os.length + 1 : Nat) : Int) - 1 = (os.length : Nat) by omega, lt_e]
      exact r1
    · rw [if_neg hc] at e1
      obtain ⟨u8, p1, p2, p3⟩ := cput_over 44 hD3 hk NoP NoP
      have c8 : I u8 10 8 = ((os.length + 1 : Nat) : Int) := by
        rw [Wr_I p3 hD3.2.1 rfl (by decide) (by decide) (by omega), Fr_I e3 (by simp [P1])]; exact h8
      refine ⟨u8, by rw [st, e1, p1, bd_s], p2, Wr_tr W3 (Wr_mono (fun k i hk => by simp [NoP] at hk) (fun k i hk => hk) p3), by omega, by omega⟩
/-- the reference writes a sign that lies on its stack -/
theorem t_punct {u v : St} {k : Nat} (G : Nat) (a : Nat) (ha : a = 41 ∨ a = 44) (st' : List (Int × Int)) (hD : DS u v k) (hk : k ≤ 4000) (hS : SZ v ((-(a : Int), 0) :: st')) (h81 : I v 100 81 = ((st'.length + 1 : Nat) : Int)) (hl : st'.length < 20990) : ∃ u' v', fX1_put (zI a) u = some u' ∧ fX12_termOut_L0 (G + 1) 0 0 0 0 0 0 0 v = fX12_termOut_L0 G 0 0 0 0 0 0 0 v' ∧ DS u' v' (k + 1) ∧ SZ v' st' ∧ I v' 100 81 = (st'.length : Nat) ∧ Wr u u' v v' NoP Ql := by
  have F3 : Fr Ql v (uI v 100 81 (zI st'.length)) := Fr_up rfl (Fr_rfl _ _)
  have c81 : I (uI v 100 81 (zI st'.length)) 100 81 = (st'.length : Nat) := I_uI1 _ _ _ _ (by omega) (by omega)
  have c147 : I (uI v 100 81 (zI st'.length)) 147 st'.length = -(a : Int) := by rw [I_uI3 _ _ _ _ _ _ (by decide)]; exact hS.1
  have h78 := hD.2.2.2.1
  have hst : fX12_termOut_L0 (G + 1) 0 0 0 0 0 0 0 v = (bd (fX12_put (zI a) (uI v 100 81 (zI st'.length))) fun u11 => fX12_termOut_L0 G 0 0 0 0 0 0 0 u11) := by
    have st : fX12_termOut_L0 (G + 1) 0 0 0 0 0 0 0 v = fX12_termOut_L0_0 (fX12_termOut_L0 G) v := rfl
    rw [st]
    generalize fX12_termOut_L0 G = R
    unfold fX12_termOut_L0_0
    rw [gI_z v 100 81, h81, if_neg (by rw [z_zero, z_le (by omega) (by omega) (by decide) (by decide)]; omega), gI_z v 100 78, h78, if_neg (by rw [z_lit, z_lt (by decide) (by decide) (by omega) (by omega)]; omega), show (1 : Int32) = zI 1 from rfl, z_sub, show ((st'.length + 1 : Nat) : Int) - 1 = (st'.length : Nat) by omega, lt_e, gI_z _ 100 81, c81, ld_z _ _ _ _ (by omega) (by omega), bd_s, ld_z _ _ _ _ (by omega) (by omega), bd_s, Int.toNat_natCast, c147, if_neg (by rw [z_zero, z_le (by decide) (by decide) (by omega) (by omega)]; omega), z_neg, show - -(a : Int) = a by omega]
  generalize hv3 : uI v 100 81 (zI st'.length) = v3 at *
  have hD3 : DS u v3 k := DS_fr (Fr_rfl (fun _ _ => false) u) F3 (fun _ _ => rfl) (fun _ => rfl) (fun _ => rfl) rfl (fun _ => rfl) hD
  obtain ⟨u', v', r1, r2, r3, r4⟩ := put_w (zI a) hD3 (by omega) NoP NoP
  refine ⟨u', v', r1, by rw [hst, r2, bd_s], r3, ?_, by rw [Wr_V r4 rfl rfl]; exact c81, Wr_tr (Wr_ref F3) (Wr_mono (fun k i hk => hk) (fun k i hk => by simp [NoP] at hk) r4)⟩
  exact SZ_fr r4.2.2.2 (fun _ => rfl) (fun _ => rfl) (SZ_eq st' st'.length (Nat.le_refl _) (fun i hi => by rw [← hv3, I_uI3 _ _ _ _ _ _ (by decide), I_uI3 _ _ _ _ _ _ (by decide)]; exact ⟨rfl, rfl⟩) hS.2.2)
/-- both sides behind a term -/
theorem et_both (bm : Int → Int) (os : List Nat) : ∀ (L : List (Nat × Int)) (F G k : Nat) (u v : St), os.length < F → os.length ≤ 4000 → k ≤ 4000 → I u 10 8 = (os.length : Nat) → OSr u os → (∀ n ∈ os, 1 ≤ n ∧ n ≤ 5) → L.length = osum os → DS u v k → SZ v (rst bm os L) → I v 100 81 = ((rst bm os L).length : Nat) → (rst bm os L).length < 20980 →
    ∃ u' v' k' G', fX1_endTerm_L0 F 0 u = some u' ∧ fX12_termOut_L0 (G + os.length + 1) 0 0 0 0 0 0 0 v = fX12_termOut_L0 G' 0 0 0 0 0 0 0 v' ∧ G ≤ G' ∧ DS u' v' k' ∧ k ≤ k' ∧ k' ≤ 4001 ∧ Wr u u' v v' Po Ql ∧ 0 ≤ I u' 10 8 ∧ I u' 10 8 ≤ 4000 ∧ k' ≤ k + os.length + 1 ∧ (k' ≤ 4000 → ∃ os', I u' 10 8 = (os'.length : Nat) ∧ OSr u' os' ∧ (∀ n ∈ os', 1 ≤ n ∧ n ≤ 5) ∧ os'.length ≤ os.length ∧ k' + os'.length ≤ k + os.length + 1 ∧ ((L = [] ∧ os' = [] ∧ SZ v' [] ∧ I v' 100 81 = 0) ∨ ∃ x L', L = x :: L' ∧ L'.length = osum os' ∧ SZ v' (((x.1 : Int), bm x.2) :: rst bm os' L') ∧ I v' 100 81 = (((((x.1 : Int), bm x.2) :: rst bm os' L').length : Nat) : Int) ∧ (rst bm os' L').length < (rst bm os L).length)) := by
  induction os with
  | nil =>
    intro L F G k u v hF hl hk h8 hO hn hL hD hS h81 hsz
    obtain ⟨F', rfl⟩ : ∃ F', F = F' + 1 := ⟨F - 1, by omega⟩
    have hL0 : L = [] := List.length_eq_zero_iff.1 hL
    subst hL0
    refine ⟨u, v, k, G + 0 + 1, ?_, rfl, by omega, hD, Nat.le_refl _, by omega, Wr_rfl _ _ _ _, by rw [h8]; simp, by rw [h8]; simp, by omega, fun _ => ⟨[], h8, trivial, by simp, Nat.le_refl _, by omega, Or.inl ⟨rfl, rfl, trivial, h81⟩⟩⟩
    have st : fX1_endTerm_L0 (F' + 1) 0 u = fX1_endTerm_L0_0 (fX1_endTerm_L0 F') u := rfl
    rw [st]; unfold fX1_endTerm_L0_0
    rw [gI_z, h8, if_pos (by decide)]
  | cons n os ih =>
    intro L F G k u v hF hl hk h8 hO hn hL hD hS h81 hsz
    obtain ⟨F', rfl⟩ : ∃ F', F = F' + 1 := ⟨F - 1, by omega⟩
    simp only [List.length_cons] at hF hl h8
    have hnn := hn n (by simp)
    obtain ⟨u3, e1, e2, e3⟩ := et_open u os.length n (by omega) h8 hO.1 (by omega) (by omega) (fX1_endTerm_L0 F')
    have st : fX1_endTerm_L0 (F' + 1) 0 u = fX1_endTerm_L0_0 (fX1_endTerm_L0 F') u := rfl
    have hD3 := DS_73 e3 hD
    have W3 : Wr u u3 v v Po Ql := Wr_cls (Fr_up2 (fun k i hk => by simp [P1] at hk; simp [Po, hk.1]) e3) rfl rfl
    by_cases hc : n = 1
    · subst hc
      rw [if_pos (by decide)] at e1
      rw [rst_one] at hS h81 hsz
      simp only [List.length_cons] at h81 hsz
      obtain ⟨u6, v6, p1, p2, p3, p4, p5, p6⟩ := t_punct (G + os.length + 1) 41 (Or.inl rfl) (rst bm os L) hD3 hk hS h81 (by omega)
      have c8 : I u6 10 8 = ((os.length + 1 : Nat) : Int) := by
        rw [Wr_I p6 hD3.2.1 rfl (by decide) (by decide) (by omega), Fr_I e3 (by simp [P1])]; exact h8
      have Fa : Fr (P1 10 8) u6 (uI u6 10 8 (zI os.length)) := Fr_up (by simp [P1]) (Fr_rfl _ _)
      have c8' : I (uI u6 10 8 (zI os.length)) 10 8 = (os.length : Nat) := I_uI1 _ _ _ _ (by omega) (by omega)
      have hO6 : OSr (uI u6 10 8 (zI os.length)) os := OSr_eq os os.length (Nat.le_refl _) (fun i hi => by
        rw [I_uI3 _ _ _ _ _ _ (by decide), Wr_I p6 hD3.2.1 rfl (by decide) (by decide) (Or.inl (by decide)), Fr_I e3 (by simp [P1]; omega)]) hO.2
      have hcls : fX1_endTerm_L0 (F' + 1) 0 u = fX1_endTerm_L0 F' 0 (uI u6 10 8 (zI os.length)) := by
        rw [st, e1, show (41 : Int32) = zI ((41 : Nat) : Int) from rfl, p1, bd_s, gI_z, c8, show (1 : Int32) = zI 1 from rfl, z_sub, show ((os.length + 1 : Nat) : Int) - 1 = (os.length : Nat) by omega, lt_e]
      have W6 : Wr u (uI u6 10 8 (zI os.length)) v v6 Po Ql := Wr_tr W3 (Wr_tr (Wr_mono (fun k i hk => by simp [NoP] at hk) (fun k i hk => hk) p6) (Wr_cls (Fr_up2 (fun k i hk => by simp [P1] at hk; simp [Po, hk.1, hk.2]) Fa) rfl rfl))
      have hLo : L.length = osum os := by rw [hL]; simp [osum]
      by_cases hk4 : k + 1 ≤ 4000
      · obtain ⟨u', v', k', G', r1, r2, r3, r4, r5, r6, r7, r8, r9, r95, r10⟩ := ih L F' G (k + 1) (uI u6 10 8 (zI os.length)) v6 (by omega) (by omega) hk4 c8' hO6 (fun m hm => hn m (by simp [hm])) hLo (DS_108 p3) p4 p5 (by omega)
        refine ⟨u', v', k', G', hcls.trans r1, ?_, r3, r4, by omega, r6, Wr_tr W6 r7, r8, r9, by simp only [List.length_cons]; omega, fun hk5 => ?_⟩
        · rw [show G + (1 :: os).length + 1 = G + os.length + 1 + 1 by simp only [List.length_cons]; omega, p2]; exact r2
        · obtain ⟨os', q1, q2, q3, q4, q45, q5⟩ := r10 hk5
          refine ⟨os', q1, q2, q3, by simp only [List.length_cons]; omega, by simp only [List.length_cons]; omega, ?_⟩
          rcases q5 with q5 | ⟨x, L', x1, x2, x3, x4, x5⟩
          · exact Or.inl q5
          · exact Or.inr ⟨x, L', x1, x2, x3, x4, by rw [rst_one]; simp only [List.length_cons]; omega⟩
      · obtain ⟨u', r1, r2, r3, r4, r5⟩ := et_over (v := v6) (k := k + 1) (by omega) os F' (uI u6 10 8 (zI os.length)) (by omega) (by omega) c8' hO6 (fun m hm => by have := hn m (by simp [hm]); omega) (DS_108 p3)
        refine ⟨u', v6, k + 1, G + os.length + 1, hcls.trans r1, ?_, by omega, r2, by omega, by omega, Wr_tr W6 (Wr_mono (fun k i hk => hk) (fun k i hk => by simp [NoP] at hk) r3), r4, r5, by simp only [List.length_cons]; omega, fun h => absurd h hk4⟩
        rw [show G + (1 :: os).length + 1 = G + os.length + 1 + 1 by simp only [List.length_cons]; omega]; exact p2
    · rw [if_neg (by omega)] at e1
      cases L with
      | nil => simp [osum] at hL; omega
      | cons x L =>
        rw [rst_more bm n os x L (by omega)] at hS h81 hsz
        simp only [List.length_cons] at h81 hsz
        obtain ⟨u6, v6, p1, p2, p3, p4, p5, p6⟩ := t_punct (G + os.length + 1) 44 (Or.inr rfl) (((x.1 : Int), bm x.2) :: rst bm ((n - 1) :: os) L) hD3 hk hS (by rw [h81]; simp only [List.length_cons]) (by simp only [List.length_cons]; omega)
        have c8 : I u6 10 8 = ((os.length + 1 : Nat) : Int) := by
          rw [Wr_I p6 hD3.2.1 rfl (by decide) (by decide) (by omega), Fr_I e3 (by simp [P1])]; exact h8
        refine ⟨u6, v6, k + 1, G + os.length + 1, by rw [st, e1, show (44 : Int32) = zI ((44 : Nat) : Int) from rfl, p1, bd_s], ?_, by omega, p3, by omega, by omega, Wr_tr W3 (Wr_mono (fun k i hk => by simp [NoP] at hk) (fun k i hk => hk) p6), by omega, by omega, by simp only [List.length_cons]; omega, fun _ => ⟨(n - 1) :: os, by rw [c8]; rfl, ⟨?_, ?_⟩, ?_, by simp only [List.length_cons]; omega, by simp only [List.length_cons]; omega, Or.inr ⟨x, L, rfl, ?_, p4, p5, ?_⟩⟩⟩
        · rw [show G + (n :: os).length + 1 = G + os.length + 1 + 1 by simp only [List.length_cons]; omega]; exact p2
        · rw [Wr_I p6 hD3.2.1 rfl (by decide) (by decide) (Or.inl (by decide)), e2]; omega
        · exact OSr_eq os os.length (Nat.le_refl _) (fun i hi => by
            rw [Wr_I p6 hD3.2.1 rfl (by decide) (by decide) (Or.inl (by decide)), Fr_I e3 (by simp [P1]; omega)]) hO.2
        · intro m hm
          rcases List.mem_cons.1 hm with h | h
          · omega
          · exact hn m (by simp [h])
        · simp only [osum, List.length_cons] at hL ⊢; omega
        · rw [rst_more bm n os x L (by omega)]; simp only [List.length_cons]; omega
