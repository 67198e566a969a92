/-! reading: names and what they stand for, in the reference -/
def NMx (u0 v : St) (NC NR : Nat) : Prop := NMf v NR ∧ ∀ y, y < NR → ∃ x, x < NC ∧ NmR (J u0 38 x) (J v 119 y)
theorem names_le {u0 v : St} {NC NR : Nat} (h : NMx u0 v NC NR) : NR ≤ NC := by
  obtain ⟨⟨h1, h2, h3⟩, h4⟩ := h
  have : ∀ k, k ≤ NR → ∃ l : List Nat, l.length = k ∧ l.Nodup ∧ (∀ x ∈ l, x < NC) ∧ (∀ x ∈ l, ∃ y, y < k ∧ NmR (J u0 38 x) (J v 119 y)) := by
    intro k
    induction k with
    | zero => intro _; exact ⟨[], rfl, List.nodup_nil, by simp, by simp⟩
    | succ k ih =>
      intro hk
      obtain ⟨l, a1, a2, a3, a4⟩ := ih (by omega)
      obtain ⟨x, b1, b2⟩ := h4 k (by omega)
      refine ⟨x :: l, by simp [a1], List.nodup_cons.2 ⟨fun hx => ?_, a2⟩, fun z hz => ?_, fun z hz => ?_⟩
      · obtain ⟨y, c1, c2⟩ := a4 x hx
        have := (NmR_inj b2 c2).1 rfl
        have := h3 k y (by omega) (by omega) this
        omega
      · rcases List.mem_cons.1 hz with hz | hz
        · subst hz; exact b1
        · exact a3 z hz
      · rcases List.mem_cons.1 hz with hz | hz
        · subst hz; exact ⟨k, by omega, b2⟩
        · obtain ⟨y, c1, c2⟩ := a4 z hz; exact ⟨y, by omega, c2⟩
  obtain ⟨l, a1, a2, a3, _⟩ := this NR (Nat.le_refl _)
  have := ph NC l a2 a3
  omega
theorem rvar_both {u0 v : St} {NC NR x : Nat} {w : Int} (h : NMx u0 v NC NR) (hNC : NC ≤ 1501) (hx : x < NC) (hw : NmR (J u0 38 x) w) : ∃ (v' : St) (y NR' : Nat), fX12_variableOf (zJ w) v = some (zI y, v') ∧ NMx u0 v' NC NR' ∧ y < NR' ∧ NR ≤ NR' ∧ J v' 119 y = w ∧ (∀ i, i < NR → J v' 119 i = J v 119 i) ∧ Fr Qva v v' := by
  have hle := names_le h
  obtain ⟨v', y, NR', a1, a2, a3, a4, a5, a6, a7, a8, a9⟩ := rvar_spec h.1 (by omega) hw
  refine ⟨v', y, NR', a1, ⟨a2, fun i hi => ?_⟩, a3, a4, a6, a7, a9⟩
  by_cases h1 : i < NR
  · rw [a7 i h1]; exact h.2 i h1
  · -- the new name
    by_cases hy : y < NR
    · exfalso
      have := a8 (by omega) y hy
      rw [← a7 y hy] at this; exact this a6
    · have : i = y := by omega
      subst this
      exact ⟨x, hx, by rw [a6]; exact hw⟩
def cis (m : Int) : Int := if m < 0 then -1 - m else 4096 - m / 8
def rcl (z : Int) : Int := if z < 0 then z else if z / 8 < 4097 then z / 8 else z / 8 - 3097
def FNm (v : St) (nb nf : Nat) (ar : List Int) (m : Int) : Prop := 0 ≤ m → ∃ f : Nat, nb ≤ f ∧ f < nf ∧ m / 8 = 4097 + f ∧ m % 8 ≤ 5 ∧ m % 8 ≤ ar.length ∧ I v 105 (f - nb) = m % 8 ∧ RWl v 135 (5 * (f - nb)) ((ar.take (m % 8).toNat).map (fun z => -1 - z))
def ELl (u0 v : St) (NR nb nf : Nat) (ar : List Int) : List (Nat × Int) → Prop
  | [] => True
  | e :: l => (∃ y : Nat, y < NR ∧ I v 126 l.length = y ∧ NmR (J u0 38 e.1) (J v 119 y)) ∧ I v 127 l.length = cis e.2 ∧ FNm v nb nf ar e.2 ∧ ELl u0 v NR nb nf ar l
def lkp : List (Nat × Int) → Nat → Option Int
  | [], _ => none
  | e :: l, x => if e.1 = x then some e.2 else lkp l x
theorem FNm_mono {v v' : St} {nb nf nf' : Nat} {ar : List Int} (r : List Int) {m : Int} (h1 : ∀ i, i < nf - nb → I v' 105 i = I v 105 i) (h2 : ∀ i, i < 5 * (nf - nb) → I v' 135 i = I v 135 i) (hf : nf ≤ nf') (h : FNm v nb nf ar m) : FNm v' nb nf' (ar ++ r) m := by
  intro hm
  obtain ⟨f, a1, a2, a3, a4, a5, a6, a7⟩ := h hm
  have ht : (ar ++ r).take (m % 8).toNat = ar.take (m % 8).toNat := List.take_append_of_le_length (by omega)
  refine ⟨f, a1, by omega, a3, a4, by rw [List.length_append]; omega, by rw [h1 _ (by omega)]; exact a6, ?_⟩
  rw [ht]
  exact RWl_eq _ _ (fun i q1 q2 => h2 i (by simp only [List.length_map, List.length_take] at q2; omega)) a7
theorem ELl_mono {u0 v v' : St} {NR NR' nb nf nf' : Nat} {ar : List Int} (r : List Int) (h1 : ∀ i, i < nf - nb → I v' 105 i = I v 105 i) (h2 : ∀ i, i < 5 * (nf - nb) → I v' 135 i = I v 135 i) (hf : nf ≤ nf') (hN : NR ≤ NR') (hJ : ∀ y, y < NR → J v' 119 y = J v 119 y) (l : List (Nat × Int)) : ∀ n, l.length ≤ n → (∀ i, i < n → I v' 126 i = I v 126 i ∧ I v' 127 i = I v 127 i) → ELl u0 v NR nb nf ar l → ELl u0 v' NR' nb nf' (ar ++ r) l := by
  induction l with
  | nil => intro _ _ _ _; trivial
  | cons e l ih =>
    intro n hn hA hB
    simp only [List.length_cons] at hn
    obtain ⟨⟨y, b1, b2, b3⟩, b4, b5, b6⟩ := hB
    have := hA l.length (by omega)
    exact ⟨⟨y, by omega, by rw [this.1]; exact b2, by rw [hJ y b1]; exact b3⟩, by rw [this.2]; exact b4, FNm_mono r h1 h2 hf b5, ih n (by omega) hA b6⟩
/-- the latest binding of a name is found -/
theorem env_loop {u0 v : St} {NC NR nb nf : Nat} {ar : List Int} {x y a : Nat} {m : Int} (x1 x2 x3 : Int32) (ha : a < 1600) (hNc : ∀ x x', x < NC → x' < NC → J u0 38 x = J u0 38 x' → x = x') (hNf : ∀ y y', y < NR → y' < NR → J v 119 y = J v 119 y' → y = y') (hx : x < NC) (hy : y < NR) (hxy : NmR (J u0 38 x) (J v 119 y)) (hr : I v 118 a = -1 - (y : Int)) (hNR : NR ≤ 1600) (l : List (Nat × Int)) : ∀ Fu, l.length < 700 → (∀ e, e ∈ l → e.1 < NC) → ELl u0 v NR nb nf ar l → lkp l x = some m → l.length < Fu → ∃ (e F' : Nat), fX12_literal_L0 Fu 1 x1 x2 x3 (zI a) (zI ((l.length : Int) - 1)) 0 0 v = (if zI (cis m) < 0 then (lt ((-1) - zI (cis m) : Int32) fun x17 => bd (fX12_symbol (1000 + x17) v) fun u18 => lt (0 : Int32) fun x19 => fX12_literal_L0 F' 2 x1 x2 x3 (zI a) 0 x17 x19 u18) else bd (fX12_symbol ((-1) - zI (cis m)) v) fun u20 => lt (zI a + 1 : Int32) fun x21 => fX12_literal_L0 F' 0 x1 x2 x3 x21 0 0 0 u20) ∧ Fu ≤ F' + e + 1 ∧ e ≤ l.length ∧ FNm v nb nf ar m := by
  induction l with
  | nil => intro Fu _ _ _ h _; cases h
  | cons b l ih =>
    intro Fu hl hb hE hk hF
    simp only [List.length_cons] at hl hF
    obtain ⟨⟨y', b1, b2, b3⟩, b4, b5, b6⟩ := hE
    obtain ⟨F1, rfl⟩ : ∃ F1, Fu = F1 + 1 := ⟨Fu - 1, by omega⟩
    have sx : ∀ q, fX12_literal_L0 (F1 + 1) 1 x1 x2 x3 (zI a) q 0 0 v = fX12_literal_L0_1 (fX12_literal_L0 F1) x1 x2 x3 (zI a) q v := fun _ => rfl
    have hlen : (((b :: l).length : Nat) : Int) - 1 = (l.length : Int) := by simp only [List.length_cons]; omega
    have hiff : (b.1 = x) ↔ y' = y := by
      constructor
      · intro h; subst h; exact hNf y' y b1 hy ((NmR_inj b3 hxy).1 rfl)
      · intro h; subst h; exact hNc b.1 x (hb b (by simp)) hx ((NmR_inj b3 hxy).2 rfl)
    have pre : fX12_literal_L0_1 (fX12_literal_L0 F1) x1 x2 x3 (zI a) (zI (((b :: l).length : Nat) : Int) - 1) v = fX12_literal_L0_1 (fX12_literal_L0 F1) x1 x2 x3 (zI a) (zI (((b :: l).length : Nat) : Int) - 1) v := rfl
    rw [hlen, sx]
    unfold fX12_literal_L0_1
    rw [ld_z _ _ _ _ (by omega) (by omega), bd_s, Int.toNat_natCast, b2, ld_z _ _ _ _ (by omega) (by omega), bd_s, Int.toNat_natCast, hr, show (-1 : Int32) = zI (-1) from rfl, z_sub, show (-1 : Int) - (-1 - (y : Int)) = y by omega]
    by_cases he : b.1 = x
    · have hyy := hiff.1 he
      simp only [lkp] at hk
      rw [if_pos he] at hk
      have hm : b.2 = m := Option.some.inj hk
      rw [if_pos (by rw [hyy]), ld_z _ _ _ _ (by omega) (by omega), bd_s, Int.toNat_natCast, b4, hm]
      exact ⟨0, F1, rfl, by omega, by omega, by rw [← hm]; exact b5⟩
    · have hyy : y' ≠ y := fun h => he (hiff.2 h)
      simp only [lkp] at hk
      rw [if_neg he] at hk
      obtain ⟨e, F', q1, q2, q3, q4⟩ := ih F1 (by omega) (fun e he => hb e (List.mem_cons_of_mem _ he)) b6 hk (by omega)
      refine ⟨e + 1, F', ?_, by omega, by simp only [List.length_cons]; omega, q4⟩
      rw [if_neg (by rw [z_eq (by omega) (by omega) (by omega) (by omega)]; omega), lt_e, z_add, show (l.length : Int) + -1 = (l.length : Int) - 1 by omega]
      exact q1
def LBr (v : St) (MD : Nat) (lc : List Int) : Prop := I v 100 61 = ((MD + lc.length : Nat) : Int) ∧ RWl v 134 MD (lc.map rcl)
def Qlc : Nat → Nat → Bool := fun k i => k == 134 || (k == 100 && i == 61)
def FLr (v v' : St) (MD : Nat) : Prop := Fr Qlc v v' ∧ ∀ i, i < MD → I v' 134 i = I v 134 i
theorem FLr_rfl (v : St) (MD : Nat) : FLr v v MD := ⟨Fr_rfl _ _, fun _ _ => rfl⟩
theorem FLr_tr {v v' v'' : St} {MD : Nat} (h : FLr v v' MD) (h' : FLr v' v'' MD) : FLr v v'' MD := ⟨Fr_tr h.1 h'.1, fun i hi => (h'.2 i hi).trans (h.2 i hi)⟩
theorem symbol_spec {v : St} {MD : Nat} {lc : List Int} (z w : Int) (h : LBr v MD lc) (hC : MD + lc.length < 24000) (hw : w = rcl z) (hz1 : -2147483648 ≤ w) (hz2 : w < 2147483648) : ∃ v', fX12_symbol (zI w) v = some v' ∧ LBr v' MD (lc ++ [z]) ∧ FLr v v' MD := by
  obtain ⟨h1, h2⟩ := h
  have e1 : I (uI v 134 (MD + lc.length) (zI w)) 100 61 = ((MD + lc.length : Nat) : Int) := by rw [I_uI3 _ _ _ _ _ _ (by decide)]; exact h1
  have hl : MD + (lc ++ [z]).length = MD + lc.length + 1 := by simp; omega
  have e48 : ∀ i, I (uI (uI v 134 (MD + lc.length) (zI w)) 100 61 (zI ((MD + lc.length + 1 : Nat) : Int))) 134 i = if i = MD + lc.length then w else I v 134 i := by
    intro i
    rw [I_uI3 _ _ _ _ _ _ (by decide), I_uI _ _ _ _ hz1 hz2]
    by_cases hi : i = MD + lc.length
    · rw [if_pos ⟨rfl, hi⟩, if_pos hi]
    · rw [if_neg (fun hh => hi hh.2), if_neg hi]
  refine ⟨uI (uI v 134 (MD + lc.length) (zI w)) 100 61 (zI ((MD + lc.length + 1 : Nat) : Int)), ?_, ⟨by rw [hl]; exact I_uI1 _ _ _ _ (by omega) (by omega), ?_⟩, Fr_up rfl (Fr_up rfl (Fr_rfl _ _)), fun i hi => by rw [e48, if_neg (by omega)]⟩
  · unfold fX12_symbol
    rw [gI_z v 100 61, h1, if_neg (by rw [z_lit, z_le (by decide) (by decide) (by omega) (by omega)]; omega), st_z _ _ _ _ _ (by omega) (by omega), bd_s, Int.toNat_natCast, gI_z _ 100 61, e1, show (1 : Int32) = zI 1 from rfl, z_add, lt_e, show ((MD + lc.length : Nat) : Int) + 1 = ((MD + lc.length + 1 : Nat) : Int) by omega]
  · rw [List.map_append]
    refine RWl_app _ _ _ (RWl_eq _ _ (fun i q1 q2 => by rw [e48, if_neg (by simp only [List.length_map] at q2; omega)]) h2) ⟨by rw [e48, List.length_map, if_pos rfl, hw], trivial⟩
theorem rarg_loop {MD a nb f k : Nat} (x1 x2 x3 : Int32) (hf : nb ≤ f) (hf2 : f < nb + 3100) (hf3 : f < 1000000000) (hk : k ≤ 5) (r : List Int) : ∀ (j : Nat) (lc : List Int) (v : St) (Fu : Nat), RWl v 135 (5 * (f - nb) + j) (r.map (fun z => -1 - z)) → (∀ z, z ∈ r → z < 0) → j + r.length = k → I v 105 (f - nb) = k → I v 100 8 = nb → LBr v MD lc → MD + lc.length + r.length ≤ 24000 → a < 1600 → ∃ v', fX12_literal_L0 (Fu + (r.length + 1)) 2 x1 x2 x3 (zI a) 0 (zI f) (zI j) v = fX12_literal_L0 Fu 0 x1 x2 x3 (zI ((a + 1 : Nat) : Int)) 0 0 0 v' ∧ LBr v' MD (lc ++ r) ∧ FLr v v' MD := by
  induction r with
  | nil =>
    intro j lc v Fu hR hz hj h105 h8 hL hC ha
    simp only [List.length_nil, Nat.add_zero] at hj
    subst hj
    refine ⟨v, ?_, by simpa using hL, FLr_rfl _ _⟩
    have sx : fX12_literal_L0 (Fu + 1) 2 x1 x2 x3 (zI a) 0 (zI f) (zI j) v = fX12_literal_L0_2 (fX12_literal_L0 Fu) x1 x2 x3 (zI a) (zI f) (zI j) v := rfl
    show fX12_literal_L0 (Fu + 1) 2 x1 x2 x3 (zI a) 0 (zI f) (zI j) v = _
    rw [sx]
    unfold fX12_literal_L0_2
    rw [gI_z v 100 8, h8, z_sub, ld_z _ _ _ _ (by omega) (by omega), bd_s, show ((f : Int) - (nb : Int)).toNat = f - nb by omega, h105, if_pos (by rw [z_le (by omega) (by omega) (by omega) (by omega)]; omega), lt_e, show (1 : Int32) = zI 1 from rfl, z_add, show (a : Int) + 1 = ((a + 1 : Nat) : Int) by omega]
  | cons z r ih =>
    intro j lc v Fu hR hz hj h105 h8 hL hC ha
    simp only [List.length_cons] at hj hC
    have sx : fX12_literal_L0 (Fu + (r.length + 1) + 1) 2 x1 x2 x3 (zI a) 0 (zI f) (zI j) v = fX12_literal_L0_2 (fX12_literal_L0 (Fu + (r.length + 1))) x1 x2 x3 (zI a) (zI f) (zI j) v := rfl
    have hzn := hz z (by simp)
    have hR1 : I v 135 (5 * (f - nb) + j) = -1 - z := hR.1
    have hz1 := I_lo v 135 (5 * (f - nb) + j)
    have hz2 := I_hi v 135 (5 * (f - nb) + j)
    rw [hR1] at hz1 hz2
    obtain ⟨v1, g1, g2, g3⟩ := symbol_spec z z hL (by omega) (by unfold rcl; rw [if_pos hzn]) (by omega) (by omega)
    obtain ⟨v2, q1, q2, q3⟩ := ih (j + 1) (lc ++ [z]) v1 Fu (RWl_eq _ _ (fun i _ _ => Fr_I g3.1 rfl) hR.2) (fun y hy => hz y (List.mem_cons_of_mem _ hy)) (by omega) (by rw [Fr_I g3.1 rfl]; exact h105) (by rw [Fr_I g3.1 rfl]; exact h8) g2 (by simp only [List.length_append, List.length_cons, List.length_nil]; omega) ha
    refine ⟨v2, ?_, by rw [List.append_assoc] at q2; exact q2, FLr_tr g3 q3⟩
    show fX12_literal_L0 (Fu + (r.length + 1) + 1) 2 x1 x2 x3 (zI a) 0 (zI f) (zI j) v = _
    rw [sx, ← q1]
    unfold fX12_literal_L0_2
    rw [gI_z v 100 8, h8, z_sub, ld_z _ _ _ _ (by omega) (by omega), bd_s, show ((f : Int) - (nb : Int)).toNat = f - nb by omega, h105, if_neg (by rw [z_le (by omega) (by omega) (by omega) (by omega)]; omega), show (5 : Int32) = zI 5 from rfl, z_mul, z_add, ld_z _ _ _ _ (by omega) (by omega), bd_s, show (5 * ((f : Int) - (nb : Int)) + (j : Int)).toNat = 5 * (f - nb) + j by omega, hR1, show (-1 : Int32) = zI (-1) from rfl, z_sub, show (-1 : Int) - (-1 - z) = z by omega, g1, bd_s, lt_e, show (1 : Int32) = zI 1 from rfl, z_add, show (j : Int) + 1 = ((j + 1 : Nat) : Int) by omega]
