/-! reading: chains and formulas of every depth -/
theorem rt_chain (lv : Nat) (hlv : lv ≤ 3) (b : Int32) (v : St) : fX12_readTask (zI ((3 * lv + 1 : Nat) : Int)) b v = bd (fX12_push (zI ((3 * lv + 2 : Nat) : Int)) (zI 0) v) fun u2 => bd (fX12_push (zI ((3 * (lv + 1) + 1 : Nat) : Int)) (zI 0) u2) fun u3 => some u3 := by
  have : lv = 0 ∨ lv = 1 ∨ lv = 2 ∨ lv = 3 := by omega
  rcases this with h | h | h | h <;> subst h
  · exact rt1 b v
  · exact rt4 b v
  · exact rt7 b v
  · exact rt10 b v
theorem lvB_mono (lv : Nat) (hlv : lv ≤ 3) : lvB (lv + 1) ≤ lvB lv := by
  have : lv = 0 ∨ lv = 1 ∨ lv = 2 ∨ lv = 3 := by omega
  rcases this with h | h | h | h <;> subst h <;> decide
theorem ch_spec {grp : Nat → Int32 → St → Option (Int32 × St)} {n o lv : Nat} (hlv : lv ≤ 3) (h1 : GC grp n o (lv + 1)) (hG : ∀ o', ((lv ≤ 1 ∧ o' = o + 1 ∧ o < 30) ∨ (2 ≤ lv ∧ o' = o)) → GC grp n o' (nxl lv)) {u v : St} {t S R NC NR : Nat} {B : Nat → Nat} {F : List Nat} {Kc Kr : Nat} {l : List (Int × Int)} {vs : List Nat} (h : PFo u v n t S R NC NR o B F Kc Kr) (hBo : ∀ x, B x ≤ o) (hT : TS v (((3 * lv + 1 : Nat), 0) :: l)) (hV : VS v vs) (hl : l.length ≤ 10 * o + lv) (hvs : vs.length ≤ 10 * o + lv) : ∃ (u' : St) (r : Nat), oX2_chain grp (zI lv) u = some (zI r, u') ∧ FMr u u' v r n t S R NC NR o B F Kc Kr l vs (lvB lv) (sgnm lv) (18 + 3 * lv) := by
  obtain ⟨p3, p4, p5, p6, p7, hn, htn, hRt, hS, hNC⟩ := PF_bits h
  obtain ⟨v6, f1, f2, f3⟩ := fm_pop ((3 * lv + 1 : Nat) : Int) 0 hT (by omega) p4
  obtain ⟨v7, b1, b2', b3⟩ := rpush_spec v6 l ((3 * lv + 2 : Nat) : Int) 0 (by omega) f2 (by omega) (by omega) (by decide) (by decide)
  obtain ⟨v8, c1, c2, c3⟩ := rpush_spec v7 ((((3 * lv + 2 : Nat) : Int), 0) :: l) ((3 * (lv + 1) + 1 : Nat) : Int) 0 (by simp only [List.length_cons]; omega) b2' (by omega) (by omega) (by decide) (by decide)
  have F8 : Fr Qts v v8 := Fr_tr (Fr_up2 (fun k i hk => by simp at hk; simp [Qts, hk]) f3) (Fr_tr b3 c3)
  have hP8 : PFo u v8 n t S R NC NR o B F Kc Kr := PF_fr (Fr_rfl (fun _ _ => false) u) F8 (fun _ _ _ => rfl) Qts_PF h
  have hY8 : PY u u v v8 S R NC NR Kc Kr := fr_PY (Fr_rfl (fun _ _ => false) u) F8 (fun _ _ hk => by simp at hk) (fun k i hk => by simp [QAf, hk]) (fun _ _ _ => rfl) Qts_PY
  have hV8 : VS v8 vs := VS_fr F8 (fun _ => by simp [Qts]) (by simp [Qts]) hV
  have hX : ∀ G, fX12_formula_L0 (G + 1) 0 v = fX12_formula_L0 G 0 v8 := by
    intro G
    rw [f1, rt_chain lv hlv, b1, bd_s, c1, bd_s, bd_s]
  obtain ⟨u9, r9, g1, g2⟩ := h1 u v8 t S R NC NR B F Kc Kr ((((3 * lv + 2 : Nat) : Int), 0) :: l) vs hP8 hBo c2 hV8 (by simp only [List.length_cons]; omega) (by omega)
  have hcls : oX2_chain grp (zI lv) u = fX2_chain_L0 grp FU 0 (zI lv) (zI r9) (zI (0 : Nat)) 0 0 0 u9 := by
    unfold oX2_chain
    rw [if_pos (by rw [z_lit, z_lt (by omega) (by omega) (by decide) (by decide)]; omega), show (1 : Int32) = zI 1 from rfl, z_add, show (lv : Int) + 1 = ((lv + 1 : Nat) : Int) by omega, g1, b2_s, lt_e]
    rfl
  rw [hcls]
  rcases g2 with ⟨v', N, t', S', R', NC', NR', F', Kc', Kr', j, dd, w, g, hh, q, c, e, occ, d1, d2, d3, d4, d5, d6, d7, d8, d9, d10, d11, d12, d13, d13b, d14, d15, d16, d17⟩ | ⟨v', N, d1, d2, d3, d4⟩
  · have d2' : ∀ G, fX12_formula_L0 (G + N) 0 v8 = fX12_formula_L0 G 0 v' := d2
    have tn' := (PF_bits d3).2.2.2.2.2.2.1
    exact ch_loop (X := fun G => fX12_formula_L0 G 0 v) (u0 := u) (v0 := v) (t0 := t) (S0 := S) (R0 := R) (NC0 := NC) (NR0 := NR) (F0 := F) (Kc0 := Kc) (Kr0 := Kr) (sl := 18 + 3 * lv) hlv hG hBo hl hvs 1500 FU 0 t' S' R' NC' NR' Kc' Kr' r9 j dd w g hh q c e (N + 1) u9 v' F' occ (by clear d16; omega) (by unfold FU; omega) (by clear d16; omega) d7 d3 d4 d5 (PY_tr (Nat.le_refl _) (Nat.le_refl _) (Nat.le_refl _) (Nat.le_refl _) (Nat.le_refl _) (Nat.le_refl _) hY8 d6) d8 d9 d10 d11 d12 d13 d13b.1 d13b.2 d14 d15 (BDf_lv (lvB_mono lv hlv) d16) (by clear d16; omega) (fun G => by show fX12_formula_L0 (G + (N + 1)) 0 v = _; rw [show G + (N + 1) = (G + N) + 1 by omega, hX, d2'])
  · have hne := FLT_ne d3.1
    refine ⟨u9, r9, ?_, Or.inr ⟨v', N + 1, by omega, fun G => ?_, FQf_tr (Nat.le_refl _) hY8 d3, d4⟩⟩
    · obtain ⟨Fq, hFq⟩ : ∃ Fq, FU = Fq + 1 := ⟨FU - 1, by unfold FU; omega⟩
      rw [hFq]; exact ch_flt grp lv Fq r9 0 hlv (by decide) u9 hne.1
    · show fX12_formula_L0 (G + (N + 1)) 0 v = _
      rw [show G + (N + 1) = (G + N) + 1 by omega, hX]; exact d2 G
theorem par_all (n : Nat) (d : Nat) : ∀ o, o ≤ 30 → (6 * (30 - o) + 3 ≤ d → GU (fPar d) n o) ∧ ∀ lv, lv ≤ 4 → 6 * (30 - o) + 8 - lv ≤ d → GC (fPar d) n o lv := by
  induction d with
  | zero => intro o ho; exact ⟨fun h => by omega, fun lv hlv h => by omega⟩
  | succ d ih =>
    intro o ho
    refine ⟨fun hd => ?_, fun lv hlv hd => ?_⟩
    · intro u v t S R NC NR B F Kc Kr l vs h hBo hT hV hl hvs
      have hs : fPar (d + 1) 1 0 u = oX2_unary (fPar d) u := rfl
      rw [hs]
      exact un_spec (gp1_all n o d ho (by omega) (by omega)) (fun h30 => (ih (o + 1) (by omega)).1 (by omega)) (fun h30 => (ih (o + 1) (by omega)).2 0 (by omega) (by omega)) h hBo hT hV hl hvs
    · intro u v t S R NC NR B F Kc Kr l vs h hBo hT hV hl hvs
      have hs : fPar (d + 1) 0 (zI lv) u = oX2_chain (fPar d) (zI lv) u := rfl
      rw [hs]
      by_cases h4 : lv = 4
      · subst h4
        obtain ⟨u', r, g1, g2⟩ := (ih o ho).1 (by omega) u v t S R NC NR B F Kc Kr l vs h hBo hT hV (by omega) (by omega)
        refine ⟨u', r, ?_, g2⟩
        unfold oX2_chain
        rw [if_neg (by decide), g1, b2_s]
      · refine ch_spec (by omega) ((ih o ho).2 (lv + 1) (by omega) (by omega)) (fun o' ho' => ?_) h hBo hT hV hl hvs
        have := nxl_le (show lv ≤ 3 by omega)
        rcases ho' with hh | hh
        · exact (ih o' (by omega)).2 (nxl lv) (by omega) (by omega)
        · have h2 : nxl lv = lv + 1 := by unfold nxl; rw [if_neg (by omega)]
          exact (ih o' (by omega)).2 (nxl lv) (by omega) (by omega)
/-- a whole formula, on both sides -/
theorem chain_both {n : Nat} {u v : St} {t S R NC NR : Nat} {B : Nat → Nat} {F : List Nat} {Kc Kr : Nat} (h : PFo u v n t S R NC NR 0 B F Kc Kr) (hBo : ∀ x, B x = 0) (hT : TS v [(1, 0)]) (hV : VS v []) : ∃ (u' : St) (r : Nat), fX2_chain 0 u = some (zI r, u') ∧ FMr u u' v r n t S R NC NR 0 B F Kc Kr [] [] 2 14 18 :=
  (par_all n 200 0 (by omega)).2 0 (by omega) (by omega) u v t S R NC NR B F Kc Kr [] [] h (fun x => by have := hBo x; omega) hT hV (by simp) (by simp)
