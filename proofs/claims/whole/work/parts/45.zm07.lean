/-! does a variable stand in a term: the class -/
def PS : Nat → Nat → Bool := fun k _ => PW 2 k 0 || k == 8
theorem PS_of_PW {u u' : St} (h : Fr (PW 2) u u') : Fr PS u u' := Fr_mono (fun k i hk => by unfold PS at hk; simp only [Bool.or_eq_false_iff] at hk; exact hk.1) h
theorem WE_PS {u u' : St} {c : Nat → Int} {N : Nat} {V : Int} {T : List (Nat × Nat × Int)} (hF : Fr PS u u') (h : WE u c N V T) : WE u' c N V T := WE_fr hF (fun _ => rfl) (fun _ => rfl) (fun _ => rfl) h
theorem stands_loop {c : Nat → Int} {e : Nat → Nat} {N : Nat} {V : Int} {T : List (Nat × Nat × Int)} {ρ : Nat → Nat} (hT : TOK c e N) (hB : BOK c e N V T ρ) (a1 : Nat) (v : Int) (hv0 : 0 ≤ v) (hv1 : v < 1000) (n : Nat) : ∀ (fuel : Nat) (u : St) (f : Nat × Int × Nat) (fs : List (Nat × Int × Nat)) (ws : List Nat), n ≤ 4000 → n < fuel → I u 8 5 = 4000 - n → WE u c N V T → WOK 2 u c e N V T f fs ws →
    ∃ u', fX8_stands_L0 a1 fuel 0 (zI v) u = some (zI (stS c e T v n (flat e (f :: fs))).1, u') ∧ I u' 8 5 = (if (stS c e T v n (flat e (f :: fs))).1 = 2 then 4001 else 4000 - ((stS c e T v n (flat e (f :: fs))).2 : Int)) ∧ (stS c e T v n (flat e (f :: fs))).2 ≤ n ∧ Fr PS u u' := by
  induction n with
  | zero =>
    intro fuel u f fs ws hn hf hl hE hW
    obtain ⟨g, rfl⟩ : ∃ g, fuel = g + 1 := ⟨fuel - 1, by omega⟩
    rcases more_spec hT hB 2 (by decide) hE hW with ⟨h1, u', h2, h3⟩ | ⟨x, l, h1, u', a', b', n', fs', ws', h2, h3, h4, h5, h6, h7⟩
    · have h8 : I u' 8 5 = 4000 := by rw [Fr_I h3 rfl, hl]; rfl
      rw [h1]
      refine ⟨u', ?_, by simp [stS, h8], Nat.le_refl _, PS_of_PW h3⟩
      show fX8_stands_L0_0 a1 _ (zI v) u = _
      unfold fX8_stands_L0_0
      simp (disch := omega) only [h2, b2_s, if_pos, if_true, stS]
      rfl
    · have h8 : I u' 8 5 = 4000 := by rw [Fr_I h7 rfl, hl]; rfl
      rw [h1]
      refine ⟨uI u' 8 5 (zI 4001), ?_, by simp [stS, I_uI1], Nat.le_refl _, Fr_up rfl (PS_of_PW h7)⟩
      show fX8_stands_L0_0 a1 _ (zI v) u = _
      unfold fX8_stands_L0_0
      simp (disch := omega) only [h2, b2_s, lt_e, z_lit, z_eq, gI_z, h8, z_add, I_uI1, z_le, if_neg, if_false, stS]
      rfl
  | succ n ih =>
    intro fuel u f fs ws hn hf hl hE hW
    obtain ⟨g, rfl⟩ : ∃ g, fuel = g + 1 := ⟨fuel - 1, by omega⟩
    rcases more_spec hT hB 2 (by decide) hE hW with ⟨h1, u', h2, h3⟩ | ⟨x, l, h1, u', a', b', n', fs', ws', h2, h3, h4, h5, h6, h7⟩
    · have h8 : I u' 8 5 = 4000 - ((n + 1 : Nat) : Int) := by rw [Fr_I h3 rfl, hl]
      rw [h1]
      refine ⟨u', ?_, by simp [stS, h8], Nat.le_refl _, PS_of_PW h3⟩
      show fX8_stands_L0_0 a1 _ (zI v) u = _
      unfold fX8_stands_L0_0
      simp (disch := omega) only [h2, b2_s, if_pos, if_true, stS]
      rfl
    · have h8 : I u' 8 5 = 4000 - ((n + 1 : Nat) : Int) := by rw [Fr_I h7 rfl, hl]
      have h9 : 4000 - ((n + 1 : Nat) : Int) + 1 = 4000 - (n : Int) := by omega
      have hE1 : WE (uI u' 8 5 (zI (4000 - (n : Int)))) c N V T := WE_PS (Fr_up rfl (PS_of_PW h7)) hE
      have hW1 : WOK 2 (uI u' 8 5 (zI (4000 - (n : Int)))) c e N V T (a', b', n' + 1) fs' ws' := WOK_fr (P := fun k _ => k == 8) (Fr_up rfl (Fr_rfl _ _)) rfl (fun _ => rfl) (fun _ => rfl) (fun _ => rfl) h3
      obtain ⟨hat1, hat2, hat3, hat4⟩ := at_spec hT hB 2 (by decide) hE1 hW1
      have ha'N : a' < N := h3.2.2.1.2.1.1
      have hO := Sub_OK hB ws' h3.2.2.2 (a', b') (h3.2.2.1.2.2.1 (a', b') (by simp [items]))
      rw [h1]
      have hstep : fX8_stands_L0 a1 (g + 1) 0 (zI v) u = if c a' < 0 ∧ hv c (a', b') = v then some (1, uI u' 8 5 (zI (4000 - (n : Int)))) else (bd (fX9_enter 2 (uI u' 8 5 (zI (4000 - (n : Int))))) fun u9 => fX8_stands_L0 a1 g 0 (zI v) u9) := by
        show fX8_stands_L0_0 a1 _ (zI v) u = _
        unfold fX8_stands_L0_0
        simp (disch := omega) only [h2, b2_s, lt_e, z_lit, z_eq, gI_z, h8, h9, z_add, I_uI1, z_le, if_neg, if_false, if_pos, if_true, hat1]
        by_cases hc : c a' < 0
        · have hq := OK_head hT hO hc
          have hq1 : 0 ≤ b' - 1 - c a' := hq.1
          have hq2 : b' - 1 - c a' < V := hq.2.1
          have hV := hE.2.2.1
          simp (disch := omega) only [if_pos, if_true, z_eq]
          unfold hv
          simp only [hc, true_and]
        · simp (disch := omega) only [if_neg, if_false, z_eq]
      have hdr : dr c T x = (a', b') := h4.symm
      by_cases hcv : c a' < 0 ∧ hv c (a', b') = v
      · rw [hstep, if_pos hcv]
        have hst : stS c e T v (n + 1) (x :: l) = (1, n) := by
          simp only [stS]; rw [hdr, if_pos hcv]
        rw [hst]
        exact ⟨_, rfl, by simp (disch := omega) [I_uI1], Nat.le_succ _, Fr_up rfl (PS_of_PW h7)⟩
      · rw [hstep, if_neg hcv]
        have hst : stS c e T v (n + 1) (x :: l) = stS c e T v n (args c e (a', b') ++ l) := by
          simp only [stS]; rw [hdr, if_neg hcv]
        rw [hst]
        obtain ⟨u2, k1, k2, k3⟩ := enter_spec hT hB 2 (by decide) hE1 hW1
        have hE2 : WE u2 c N V T := WE_PS (PS_of_PW k3) hE1
        have hfl : flat e ((a' + 1, b', ar c a' + n') :: fs') = args c e (a', b') ++ l := by
          simp only [flat]
          rw [args_items hT ha'N, List.append_assoc, h6]
        have h10 : I u2 8 5 = 4000 - (n : Int) := by rw [Fr_I k3 rfl, I_uI1 _ _ _ _ (by omega) (by omega)]
        obtain ⟨u3, m1, m2, m3, m4⟩ := ih g u2 (a' + 1, b', ar c a' + n') fs' ws' (by omega) (by omega) h10 hE2 k2
        rw [hfl] at m1 m2 m3
        refine ⟨u3, ?_, m2, by omega, Fr_tr (Fr_tr (Fr_up rfl (PS_of_PW h7)) (PS_of_PW k3)) m4⟩
        rw [k1, bd_s, m1]
theorem stands_spec {c : Nat → Int} {e : Nat → Nat} {N : Nat} {V : Int} {T : List (Nat × Nat × Int)} {ρ : Nat → Nat} (hT : TOK c e N) (hB : BOK c e N V T ρ) (w : Nat) (hw : w < 2) (v : Int) (hv0 : 0 ≤ v) (hv1 : v < 1000) (n : Nat) (hn : n ≤ 4000) {u : St} {a : Nat} {b : Int} {m : Nat} {fs : List (Nat × Int × Nat)} {ws : List Nat} (hl : I u 8 5 = 4000 - n) (hE : WE u c N V T) (hW : WOK w u c e N V T (a, b, m + 1) fs ws) :
    ∃ u', fX8_stands (zI v) w u = some (zI (stS c e T v n [(a, b)]).1, u') ∧ I u' 8 5 = (if (stS c e T v n [(a, b)]).1 = 2 then 4001 else 4000 - ((stS c e T v n [(a, b)]).2 : Int)) ∧ (stS c e T v n [(a, b)]).2 ≤ n ∧ Fr PS u u' := by
  have haN : a < N := hW.2.2.1.2.1.1
  have hO := Sub_OK hB ws hW.2.2.2 (a, b) (hW.2.2.1.2.2.1 (a, b) (by simp [items]))
  obtain ⟨hat1, hat2, hat3, hat4⟩ := at_spec hT hB w (by omega) hE hW
  have bb : I u (21 + 3 * w) fs.length = b := hW.2.1.2.1
  have b1 := I_lo u (21 + 3 * w) fs.length
  have b2 := I_hi u (21 + 3 * w) fs.length
  rw [bb] at b1 b2
  have hN := hE.2.1
  have hsg : sg e N 1 a := ⟨haN, (hT _ haN).2.1, by
    show e a ≤ N
    have h5 := (hT _ haN).2.2.2
    rw [h5.1]; exact (sg_le h5.2).2⟩
  obtain ⟨u1, k1, k2, k3⟩ := begin_spec (c := c) (e := e) (N := N) (V := V) (T := T) 2 (by decide) u a b 1 (by omega) b1 b2 (by decide) hsg (by
    intro x hx
    simp only [items, List.mem_cons, List.not_mem_nil, or_false] at hx
    subst hx
    exact ⟨haN, Al_mono (fun v hv => ⟨hv.1, hv.2.1⟩) hO.2⟩)
  have hE1 : WE u1 c N V T := WE_PS (PS_of_PW k3) hE
  have h10 : I u1 8 5 = 4000 - (n : Int) := by rw [Fr_I k3 rfl, hl]
  obtain ⟨u2, m1, m2, m3, m4⟩ := stands_loop hT hB w v hv0 hv1 n FU u1 (a, b, 1) [] [] hn (by unfold FU; omega) h10 hE1 k2
  have hfl : flat e [(a, b, 1)] = [(a, b)] := by simp [flat, items]
  rw [hfl] at m1 m2 m3
  refine ⟨u2, ?_, m2, m3, Fr_tr (PS_of_PW k3) m4⟩
  unfold fX8_stands
  rw [hat3, b2_s, hat4, b2_s, show (1 : Int32) = zI ((1 : Nat) : Int) from rfl, k1, bd_s, m1]
