/-! reading: a literal comes, in the reference -/
def CVl (u0 v : St) (S nb nf : Nat) (z : Int) : Prop := z < 0 ∨ (∃ s : Nat, s < S ∧ 0 ≤ I u0 16 s ∧ I u0 16 s ≤ 5 ∧ z = 8 * s + I u0 16 s) ∨ (∃ f : Nat, nb ≤ f ∧ f < nf ∧ z / 8 = 4097 + f ∧ z % 8 ≤ 5 ∧ I v 105 (f - nb) = z % 8)
theorem lkp_fn {u0 v : St} {NR nb nf : Nat} {ar : List Int} (l : List (Nat × Int)) : ∀ x m, ELl u0 v NR nb nf ar l → lkp l x = some m → FNm v nb nf ar m := by
  induction l with
  | nil => intro x m _ h; cases h
  | cons e l ih =>
    intro x m hE hk
    simp only [lkp] at hk
    by_cases he : e.1 = x
    · rw [if_pos he] at hk
      rw [← Option.some.inj hk]; exact hE.2.2.1
    · rw [if_neg he] at hk; exact ih x m hE.2.2.2 hk
theorem FNm_gv {v : St} {nb nf : Nat} {ar : List Int} {m : Int} (h : FNm v nb nf ar m) : gv ar m := by
  by_cases hm : 0 ≤ m
  · obtain ⟨f, a1, a2, a3, a4, a5, _⟩ := h hm; exact Or.inr ⟨a4, a5⟩
  · exact Or.inl (by omega)
def ENk (u0 : St) (ρ : Nat → Int) (el : List (Nat × Int)) (a b : Nat) : Prop := ∀ i, a ≤ i → i < b → I u0 37 i < 0 → lkp el (-1 - I u0 37 i).toNat = some (ρ (-1 - I u0 37 i).toNat)
theorem litc_cv {u0 v : St} {ρ : Nat → Int} {ar : List Int} {el : List (Nat × Int)} {S NC NR NR' nb nf b : Nat} (har : ∀ z, z ∈ ar → z < 0) (hS5 : ∀ s, s < S → I u0 16 s ≤ 5) (hE : ELl u0 v NR' nb nf ar el) (k : Nat) : ∀ a, a + k = b → (∀ i, a ≤ i → i < b → CEd u0 v S NC NR i) → ENk u0 ρ el a b → ∀ z, z ∈ litc u0 ρ ar k a → CVl u0 v S nb nf z := by
  induction k with
  | zero => intro a _ _ _ z hz; simp [litc] at hz
  | succ k ih =>
    intro a ha hC hK z hz
    simp only [litc, List.mem_append] at hz
    rcases hz with hz | hz
    · unfold cof at hz
      by_cases h0 : 0 ≤ I u0 37 a
      · rw [if_pos h0, List.mem_singleton] at hz
        rcases hC a (Nat.le_refl _) (by omega) with ⟨s, s1, s2, s3, s4⟩ | ⟨x, y, x1, x2, x3, x4, x5⟩
        · exact Or.inr (Or.inl ⟨s, s1, s2, hS5 s s1, by rw [hz]; exact s3⟩)
        · omega
      · rw [if_neg h0] at hz
        have hl := hK a (Nat.le_refl _) (by omega) (by omega)
        have hf := lkp_fn el _ _ hE hl
        obtain ⟨m, hm⟩ : ∃ m, ρ (-1 - I u0 37 a).toNat = m := ⟨_, rfl⟩
        rw [hm] at hz hf
        rcases List.mem_cons.1 hz with hz | hz
        · subst hz
          by_cases hm0 : 0 ≤ z
          · obtain ⟨f, a1, a2, a3, a4, a5, a6, a7⟩ := hf hm0
            exact Or.inr (Or.inr ⟨f, a1, a2, a3, a4, a6⟩)
          · exact Or.inl (by omega)
        · by_cases hm0 : m < 0
          · rw [if_pos hm0] at hz; simp at hz
          · rw [if_neg hm0] at hz
            exact Or.inl (har z (List.mem_of_mem_take hz))
    · exact ih (a + 1) (by omega) (fun i h1 h2 => hC i (by omega) h2) (fun i h1 h2 => hK i (by omega) h2) z hz
theorem rlit_loop {u0 : St} {ρ : Nat → Int} {ar : List Int} {el : List (Nat × Int)} {S NC NR nb nf MD b j : Nat} (x2 x3 : Int32) (hj : j < 1600) (hb : b ≤ 1501) (hel : el.length ≤ 380) (hnf1 : nf ≤ nb + 3000) (hnf2 : nf < 1000000000) (hNC : NC ≤ 1501) (hS : S ≤ 811) (hS5 : ∀ s, s < S → I u0 16 s ≤ 5) (hNc : ∀ x x', x < NC → x' < NC → J u0 38 x = J u0 38 x' → x = x') (har : ∀ z, z ∈ ar → z < 0) (hen : ∀ e, e ∈ el → e.1 < NC) (k : Nat) : ∀ (a : Nat) (lc : List Int) (v : St) (Fu : Nat), a + k = b → 400 * k < Fu → LBr v MD lc → MD + lc.length + 6 * k ≤ 24000 → I v 100 47 = 0 → I v 116 j = b → I v 100 49 = el.length → I v 100 8 = nb → ELl u0 v NR nb nf ar el → NMx u0 v NC NR → (∀ i, a ≤ i → i < b → CEd u0 v S NC NR i) → ENk u0 ρ el a b → ∃ (v' : St) (F' : Nat), fX12_literal_L0 Fu 0 (zI j) x2 x3 (zI a) 0 0 0 v = fX12_literal_L0 (F' + 1) 0 (zI j) x2 x3 (zI b) 0 0 0 v' ∧ LBr v' MD (lc ++ litc u0 ρ ar k a) ∧ FLr v v' MD := by
  induction k with
  | zero =>
    intro a lc v Fu ha hFu hL hC h47 h116 h49 h8 hE hN hcd hK
    have : a = b := by omega
    subst this
    obtain ⟨F', rfl⟩ : ∃ F', Fu = F' + 1 := ⟨Fu - 1, by omega⟩
    exact ⟨v, F', rfl, by simpa [litc] using hL, FLr_rfl _ _⟩
  | succ k ih =>
    intro a lc v Fu ha hFu hL hC h47 h116 h49 h8 hE hN hcd hK
    obtain ⟨F1, rfl⟩ : ∃ F1, Fu = F1 + 1 := ⟨Fu - 1, by omega⟩
    have hNR := names_le hN
    have sx : fX12_literal_L0 (F1 + 1) 0 (zI j) x2 x3 (zI a) 0 0 0 v = fX12_literal_L0_0 (fX12_literal_L0 F1) (zI j) x2 x3 (zI a) v := rfl
    have pre : fX12_literal_L0_0 (fX12_literal_L0 F1) (zI j) x2 x3 (zI a) v = if zI (I v 118 a) < 0 then (lt ((gI v 100 49) - 1 : Int32) fun x8 => fX12_literal_L0 F1 1 (zI j) x2 x3 (zI a) x8 0 0 v) else bd (fX12_symbol (zI (I v 118 a)) v) fun u10 => lt (zI a + 1 : Int32) fun x11 => fX12_literal_L0 F1 0 (zI j) x2 x3 x11 0 0 0 u10 := by
      unfold fX12_literal_L0_0
      rw [ld_z _ _ _ _ (by omega) (by omega), bd_s, Int.toNat_natCast, h116, if_neg (by rw [z_le (by omega) (by omega) (by omega) (by omega)]; omega), gI_z v 100 47, h47, if_pos (show zI 0 = 0 from rfl), ld_z _ _ _ _ (by omega) (by omega), bd_s, bd_s, Int.toNat_natCast]
    have hstep : ∃ (v1 : St) (F2 : Nat), 400 * k < F2 ∧ fX12_literal_L0_0 (fX12_literal_L0 F1) (zI j) x2 x3 (zI a) v = fX12_literal_L0 F2 0 (zI j) x2 x3 (zI ((a + 1 : Nat) : Int)) 0 0 0 v1 ∧ LBr v1 MD (lc ++ cof ρ ar (I u0 37 a)) ∧ FLr v v1 MD ∧ (cof ρ ar (I u0 37 a)).length ≤ 6 := by
      rw [pre]
      rcases hcd a (Nat.le_refl _) (by omega) with ⟨s, s1, s2, s3, s4⟩ | ⟨x, y, c1, c2, c3, c4, c5⟩
      · have h5 := hS5 s s1
        have hc0 : cof ρ ar (I u0 37 a) = [I u0 37 a] := by unfold cof; rw [if_pos (by omega)]
        obtain ⟨v1, g1, g2, g3⟩ := symbol_spec (I u0 37 a) s hL (by omega) (by unfold rcl; rw [if_neg (by omega), if_pos (by omega)]; omega) (by omega) (by omega)
        refine ⟨v1, F1, by omega, ?_, by rw [hc0]; exact g2, g3, by rw [hc0]; simp⟩
        rw [s4, if_neg (by rw [z_zero, z_lt (by omega) (by omega) (by decide) (by decide)]; omega), g1, bd_s, lt_e, show (1 : Int32) = zI 1 from rfl, z_add, show (a : Int) + 1 = ((a + 1 : Nat) : Int) by omega]
      · have hxx : (-1 - I u0 37 a).toNat = x := by omega
        have hl := hK a (Nat.le_refl _) (by omega) (by omega)
        rw [hxx] at hl
        obtain ⟨m, hm⟩ : ∃ m, ρ x = m := ⟨_, rfl⟩
        rw [hm] at hl
        obtain ⟨e, F', q1, q2, q3, q4⟩ := env_loop (zI j) x2 x3 (show a < 1600 by omega) hNc hN.1.2.2 c1 c2 c5 c4 (by omega) el F1 (by omega) hen hE hl (by omega)
        have hpre2 : (if zI (I v 118 a) < 0 then (lt ((gI v 100 49) - 1 : Int32) fun x8 => fX12_literal_L0 F1 1 (zI j) x2 x3 (zI a) x8 0 0 v) else bd (fX12_symbol (zI (I v 118 a)) v) fun u10 => lt (zI a + 1 : Int32) fun x11 => fX12_literal_L0 F1 0 (zI j) x2 x3 x11 0 0 0 u10) = fX12_literal_L0 F1 1 (zI j) x2 x3 (zI a) (zI ((el.length : Int) - 1)) 0 0 v := by
          rw [c4, if_pos (by rw [z_zero, z_lt (by omega) (by omega) (by decide) (by decide)]; omega), lt_e, gI_z v 100 49, h49, show (1 : Int32) = zI 1 from rfl, z_sub]
        rw [hpre2, q1]
        by_cases hm0 : 0 ≤ m
        · obtain ⟨f, f1, f2, f3, f4, f5, f6, f7⟩ := q4 hm0
          have hcis : cis m = -1 - (f : Int) := by unfold cis; rw [if_neg (by omega)]; omega
          have hrc : ((1000 + f : Nat) : Int) = rcl m := by unfold rcl; rw [if_neg (by omega), if_neg (by omega)]; omega
          obtain ⟨v1, g1, g2, g3⟩ := symbol_spec m ((1000 + f : Nat) : Int) hL (by omega) hrc (by omega) (by omega)
          obtain ⟨r, hr⟩ : ∃ r, ar.take (m % 8).toNat = r := ⟨_, rfl⟩
          have hrl : r.length = (m % 8).toNat := by rw [← hr, List.length_take]; omega
          obtain ⟨F2, rfl⟩ : ∃ F2, F' = F2 + (r.length + 1) := ⟨F' - (r.length + 1), by omega⟩
          obtain ⟨v2, t1, t2, t3⟩ := rarg_loop (MD := MD) (a := a) (nb := nb) (f := f) (k := (m % 8).toNat) (zI j) x2 x3 f1 (by omega) (by omega) (by omega) r 0 (lc ++ [m]) v1 F2 (RWl_eq _ _ (fun i _ _ => Fr_I g3.1 rfl) (by rw [← hr]; exact f7)) (fun z hz => har z (by rw [← hr] at hz; exact List.mem_of_mem_take hz)) (by omega) (by rw [Fr_I g3.1 rfl, f6]; omega) (by rw [Fr_I g3.1 rfl]; exact h8) g2 (by simp only [List.length_append, List.length_cons, List.length_nil]; omega) (by omega)
          have hc0 : cof ρ ar (I u0 37 a) = m :: r := by unfold cof; rw [if_neg (by omega), hxx, hm, if_neg (by omega), hr]
          refine ⟨v2, F2, by omega, ?_, ?_, FLr_tr g3 t3, by rw [hc0]; simp only [List.length_cons]; omega⟩
          · rw [hcis, if_pos (by rw [z_zero, z_lt (by omega) (by omega) (by decide) (by decide)]; omega), lt_e, show (-1 : Int32) = zI (-1) from rfl, z_sub, show (-1 : Int) - (-1 - (f : Int)) = f by omega, show (1000 : Int32) = zI 1000 from rfl, z_add, show (1000 : Int) + (f : Int) = ((1000 + f : Nat) : Int) by omega, g1, bd_s, lt_e]
            exact t1
          · rw [hc0]; rw [List.append_assoc] at t2; exact t2
        · have hcis : cis m = -1 - m := by unfold cis; rw [if_pos (by omega)]
          have hml : -2147483648 ≤ -1 - m ∧ -1 - m < 2147483648 := by
            have := I_lo v 127 0
            have hx : ∀ (l : List (Nat × Int)), ELl u0 v NR nb nf ar l → lkp l x = some m → -2147483648 ≤ cis m ∧ cis m < 2147483648 := by
              intro l
              induction l with
              | nil => intro _ h; cases h
              | cons b l ih2 =>
                intro hE hk
                simp only [lkp] at hk
                by_cases hb : b.1 = x
                · rw [if_pos hb] at hk
                  rw [← Option.some.inj hk, ← hE.2.1]; exact ⟨I_lo _ _ _, I_hi _ _ _⟩
                · rw [if_neg hb] at hk; exact ih2 hE.2.2.2 hk
            have := hx el hE hl
            rw [hcis] at this; exact this
          obtain ⟨v1, g1, g2, g3⟩ := symbol_spec m m hL (by omega) (by unfold rcl; rw [if_pos (by omega)]) (by omega) (by omega)
          have hc0 : cof ρ ar (I u0 37 a) = [m] := by unfold cof; rw [if_neg (by omega), hxx, hm, if_pos (by omega)]
          refine ⟨v1, F', by omega, ?_, by rw [hc0]; exact g2, g3, by rw [hc0]; simp⟩
          rw [hcis, if_neg (by rw [z_zero, z_lt hml.1 hml.2 (by decide) (by decide)]; omega), show (-1 : Int32) = zI (-1) from rfl, z_sub, show (-1 : Int) - (-1 - m) = m by omega, g1, bd_s, lt_e, show (1 : Int32) = zI 1 from rfl, z_add, show (a : Int) + 1 = ((a + 1 : Nat) : Int) by omega]
    obtain ⟨v1, F2, s1, s2, s3, s4, s5⟩ := hstep
    have hE1 : ELl u0 v1 NR nb nf ar el := by
      have := ELl_mono (u0 := u0) (v := v) (v' := v1) (NR := NR) (NR' := NR) (nb := nb) (nf := nf) (nf' := nf) (ar := ar) [] (fun i _ => Fr_I s4.1 rfl) (fun i _ => Fr_I s4.1 rfl) (Nat.le_refl _) (Nat.le_refl _) (fun y _ => Fr_J s4.1 rfl) el el.length (Nat.le_refl _) (fun i _ => ⟨Fr_I s4.1 rfl, Fr_I s4.1 rfl⟩) hE
      rw [List.append_nil] at this; exact this
    have hN1 : NMx u0 v1 NC NR := ⟨⟨by rw [Fr_I s4.1 rfl]; exact hN.1.1, fun y hy => by rw [Fr_J s4.1 rfl]; exact hN.1.2.1 y hy, fun y y' hy hy' hh => hN.1.2.2 y y' hy hy' (by rw [Fr_J s4.1 rfl, Fr_J s4.1 rfl] at hh; exact hh)⟩, fun y hy => by rw [Fr_J s4.1 rfl]; exact hN.2 y hy⟩
    have hcd1 : ∀ i, a + 1 ≤ i → i < b → CEd u0 v1 S NC NR i := by
      intro i h1 h2
      rcases hcd i (by omega) h2 with ⟨s, e1, e2, e3, e4⟩ | ⟨x, y, e1, e2, e3, e4, e5⟩
      · exact Or.inl ⟨s, e1, e2, e3, by rw [Fr_I s4.1 rfl]; exact e4⟩
      · exact Or.inr ⟨x, y, e1, e2, e3, by rw [Fr_I s4.1 rfl]; exact e4, by rw [Fr_J s4.1 rfl]; exact e5⟩
    obtain ⟨v2, F3, t1, t2, t3⟩ := ih (a + 1) (lc ++ cof ρ ar (I u0 37 a)) v1 F2 (by omega) s1 s3 (by rw [List.length_append]; omega) (by rw [Fr_I s4.1 rfl]; exact h47) (by rw [Fr_I s4.1 rfl]; exact h116) (by rw [Fr_I s4.1 rfl]; exact h49) (by rw [Fr_I s4.1 rfl]; exact h8) hE1 hN1 hcd1 (fun i h1 h2 => hK i (by omega) h2)
    refine ⟨v2, F3, by rw [sx, s2, t1], ?_, FLr_tr s4 t3⟩
    simp only [litc]
    rw [List.append_assoc] at t2
    exact t2
