/-! reading: the cells of a clause, in the reference -/
theorem cl_take1 {K : List Lt} {k : Nat} {l : Lt} (h : K[k]? = some l) : cl (K.take (k + 1)) = cl (K.take k) + l.2.length := by
  rw [take_one h, cl_app]; simp [cl]
theorem cl_take_le (K : List Lt) (k : Nat) : cl (K.take k) ≤ cl K := by
  have := cl_app (K.take k) (K.drop k)
  rw [List.take_append_drop] at this; omega
theorem cl_bound (n : Nat) (K : List Lt) : (∀ l, l ∈ K → l.2.length ≤ n) → cl K ≤ n * K.length := by
  induction K with
  | nil => intro _; simp [cl]
  | cons a K ih =>
    intro h
    have h1 := ih (fun l hl => h l (List.mem_cons_of_mem _ hl))
    have h2 := h a (by simp)
    simp only [cl, List.length_cons, Nat.mul_add, Nat.mul_one]; omega
theorem nsz {u0 v : St} {S nb nf MD : Nat} {K : List Lt} (hM : MD ≤ 24000) (hK : K.length ≤ 12) (hcl : cl K ≤ 1000000) (hKP : KPr u0 v S nb nf MD K) (d : Nat) : ∀ (k Fu : Nat), k + d = K.length → fX12_newClause_L2 (Fu + 1 + d) 0 (zI K.length) (zI (cl (K.take k))) (zI k) v = fX12_newClause_L2 (Fu + 1) 0 (zI K.length) (zI (cl K)) (zI K.length) v := by
  induction d with
  | zero => intro k Fu hk; rw [show k = K.length by omega, List.take_length]
  | succ d ih =>
    intro k Fu hk
    obtain ⟨l, hl⟩ : ∃ l, K[k]? = some l := ⟨K[k]'(by omega), List.getElem?_eq_getElem (by omega)⟩
    obtain ⟨g, g1, g2, g3, g4, g5, p, g6, g7, g8, _⟩ := hKP k l hl
    have hct := cl_take_le K k
    have sx : fX12_newClause_L2 (Fu + 1 + (d + 1)) 0 (zI K.length) (zI (cl (K.take k))) (zI k) v = fX12_newClause_L2_0 (fX12_newClause_L2 (Fu + 1 + d)) (zI K.length) (zI (cl (K.take k))) (zI k) v := rfl
    rw [sx]
    unfold fX12_newClause_L2_0
    rw [if_neg (by rw [z_le (by omega) (by omega) (by omega) (by omega)]; omega), ld_z _ _ _ _ (by omega) (by omega), bd_s, Int.toNat_natCast, g1, ld_z _ _ _ _ (by omega) (by omega), bd_s, bd_s, ld_z _ _ _ _ (by omega) (by omega), bd_s, Int.toNat_natCast, g6, g7, z_sub, z_add, lt_e, lt_e, show (zI (k : Int) + 1 : Int32) = zI ((k + 1 : Nat) : Int) by rw [show (1 : Int32) = zI 1 from rfl, z_add]; rfl, show (cl (K.take k) : Int) + (((p + l.2.length : Nat) : Int) - (p : Int)) = ((cl (K.take k) + l.2.length : Nat) : Int) by omega, ← cl_take1 hl]
    exact ih (k + 1) Fu (by omega)
/-- how many arguments a cell has -/
theorem ar_spec {u0 v : St} {S nb nf : Nat} {y : Int} (hS : S ≤ 811) (hS3 : ∀ s, s < S → I v 103 s = I u0 16 s) (h8 : I v 100 8 = nb) (hf : nf ≤ nb + 3000) (hnb : nb ≤ 1000000000) (hy : CVl u0 v S nb nf y) (hy1 : -2147483648 ≤ y) : fX12_arityOf (zI (rcl y)) v = some (zI (arc y : Nat), v) := by
  unfold fX12_arityOf
  rcases hy with h | ⟨s, s1, s2, s3, s4⟩ | ⟨f, f1, f2, f3, f4, f5⟩
  · have e1 : rcl y = y := by unfold rcl; rw [if_pos h]
    have e2 : arc y = 0 := by unfold arc; rw [if_pos h]
    rw [e1, e2, if_neg (by rw [z_zero, z_le (by decide) (by decide) hy1 (by omega)]; omega)]; rfl
  · have e1 : rcl y = s := by unfold rcl; rw [if_neg (by omega), if_pos (by omega)]; omega
    have e2 : (arc y : Int) = I u0 16 s := by unfold arc; rw [if_neg (by omega)]; omega
    rw [e1, e2, if_pos (by rw [z_zero, z_le (by decide) (by decide) (by omega) (by omega)]; omega), if_pos (by rw [z_lit, z_lt (by omega) (by omega) (by decide) (by decide)]; omega), ld_z _ _ _ _ (by omega) (by omega), bd_s, Int.toNat_natCast, hS3 s s1]
  · have e1 : rcl y = ((1000 + f : Nat) : Int) := by unfold rcl; rw [if_neg (by omega), if_neg (by omega)]; omega
    have e2 : (arc y : Int) = I v 105 (f - nb) := by unfold arc; rw [if_neg (by omega), f5]; omega
    rw [e1, e2, if_pos (by rw [z_zero, z_le (by decide) (by decide) (by omega) (by omega)]; omega), if_neg (by rw [z_lit, z_lt (by omega) (by omega) (by decide) (by decide)]; omega), gI_z v 100 8, h8, show (1000 : Int32) = zI 1000 from rfl, z_sub, z_sub, ld_z _ _ _ _ (by omega) (by omega), bd_s, show ((((1000 + f : Nat) : Int) - 1000 - (nb : Int)).toNat) = f - nb by omega]
theorem nv_loop {v : St} {sn : List Int} {z : Int} (x2 x4 x6 x7 x8 : Int32) (hz : z < 0) (hz1 : -2147483648 ≤ z) (hR : RWl v 142 0 sn) (hl : sn.length < 200) (d : Nat) : ∀ (k F : Nat), k + d = sn.length → k ≤ ixo sn z → d < F → ∃ F', F ≤ F' + d + 1 ∧ fX12_newClause_L1 F 2 x2 x4 (zI sn.length) x6 x7 x8 (zI z) (zI k) 0 0 v = fX12_newClause_L1 F' 3 x2 x4 (zI sn.length) x6 x7 x8 (zI z) (zI (ixo sn z)) 0 0 v := by
  induction d with
  | zero =>
    intro k F hk hx hF
    obtain ⟨F1, rfl⟩ : ∃ F1, F = F1 + 1 := ⟨F - 1, by omega⟩
    have hnin : z ∉ sn := fun hh => by have := (ixo_in sn hh).1; omega
    refine ⟨F1, by omega, ?_⟩
    have sx : fX12_newClause_L1 (F1 + 1) 2 x2 x4 (zI sn.length) x6 x7 x8 (zI z) (zI k) 0 0 v = fX12_newClause_L1_2 (fX12_newClause_L1 F1) x2 x4 (zI sn.length) x6 x7 x8 (zI z) (zI k) v := rfl
    rw [sx, ixo_out sn hnin]
    unfold fX12_newClause_L1_2
    rw [if_pos (by rw [z_le (by omega) (by omega) (by omega) (by omega)]; omega), show k = sn.length by omega]
  | succ d ih =>
    intro k F hk hx hF
    obtain ⟨F1, rfl⟩ : ∃ F1, F = F1 + 1 := ⟨F - 1, by omega⟩
    obtain ⟨a, ha⟩ : ∃ a, sn[k]? = some a := ⟨sn[k]'(by omega), List.getElem?_eq_getElem (by omega)⟩
    have h142 := RWl_get sn 0 k a hR ha
    rw [Nat.zero_add] at h142
    have a1 := I_lo v 142 k
    have a2 := I_hi v 142 k
    rw [h142] at a1 a2
    have sx : fX12_newClause_L1 (F1 + 1) 2 x2 x4 (zI sn.length) x6 x7 x8 (zI z) (zI k) 0 0 v = fX12_newClause_L1_2 (fX12_newClause_L1 F1) x2 x4 (zI sn.length) x6 x7 x8 (zI z) (zI k) v := rfl
    have pre : fX12_newClause_L1_2 (fX12_newClause_L1 F1) x2 x4 (zI sn.length) x6 x7 x8 (zI z) (zI k) v = if zI a = zI z then fX12_newClause_L1 F1 3 x2 x4 (zI sn.length) x6 x7 x8 (zI z) (zI k) 0 0 v else fX12_newClause_L1 F1 2 x2 x4 (zI sn.length) x6 x7 x8 (zI z) (zI ((k + 1 : Nat) : Int)) 0 0 v := by
      unfold fX12_newClause_L1_2
      rw [if_neg (by rw [z_le (by omega) (by omega) (by omega) (by omega)]; omega), ld_z _ _ _ _ (by omega) (by omega), bd_s, Int.toNat_natCast, h142, lt_e, show (zI (k : Int) + 1 : Int32) = zI ((k + 1 : Nat) : Int) by rw [show (1 : Int32) = zI 1 from rfl, z_add]; rfl]
    rw [sx, pre]
    by_cases haz : a = z
    · have hix : ixo sn z = k := by
        rcases Nat.lt_or_ge k (ixo sn z) with hh | hh
        · exact absurd haz (ixo_lt sn k a ha hh)
        · omega
      exact ⟨F1, by omega, by rw [if_pos (by rw [haz]), hix]⟩
    · have hk1 : k + 1 ≤ ixo sn z := by
        rcases Nat.lt_or_ge k (ixo sn z) with hh | hh
        · omega
        · exfalso
          have hix : ixo sn z = k := by omega
          by_cases hzin : z ∈ sn
          · have := (ixo_in sn hzin).2
            rw [hix, ha] at this
            exact haz (Option.some.inj this)
          · rw [ixo_out sn hzin] at hix; omega
      obtain ⟨F', q1, q2⟩ := ih (k + 1) F1 (by omega) hk1 (by omega)
      exact ⟨F', by omega, by rw [if_neg (by rw [z_eq a1 a2 hz1 (by omega)]; exact haz), q2]⟩
def Pnc : Nat → Nat → Bool := fun k i => k == 111 || k == 113 || k == 142 || (k == 100 && i == 17)
/-- what the clauses of the reference need of a state -/
def NCe (u0 v : St) (S nb nf : Nat) : Prop := S ≤ 811 ∧ (∀ s, s < S → I v 103 s = I u0 16 s) ∧ I v 100 8 = nb ∧ nf ≤ nb + 3000 ∧ nb ≤ 1000000000
theorem NCe_fr {P : Nat → Nat → Bool} {u0 v v' : St} {S nb nf : Nat} (hF : Fr P v v') (h1 : ∀ i, P 103 i = false) (h2 : P 100 8 = false) (h : NCe u0 v S nb nf) : NCe u0 v' S nb nf := ⟨h.1, fun s hs => by rw [Fr_I hF (h1 s)]; exact h.2.1 s hs, by rw [Fr_I hF h2]; exact h.2.2.1, h.2.2.2.1, h.2.2.2.2⟩
/-- one cell -/
theorem nc_cell {u0 v : St} {S nb nf g e i t : Nat} {sn : List Int} {z : Int} (x2 x4 x6 : Int32) (hE : NCe u0 v S nb nf) (hg : g < 6100) (he : e ≤ 24000) (hi : i < e) (ht : t < 20400) (h132 : I v 132 g = e) (h134 : I v 134 i = rcl z) (hz : CVl u0 v S nb nf z) (h17 : I v 100 17 = t) (hR : RWl v 142 0 sn) (hl : sn.length < 200) : ∀ F, 210 ≤ F → ∃ (v' : St) (F' : Nat), F ≤ F' + 210 ∧ fX12_newClause_L1 F 1 x2 x4 (zI sn.length) x6 (zI g) (zI i) 0 0 0 0 v = fX12_newClause_L1 F' 1 x2 x4 (zI (snx sn z).length) x6 (zI g) (zI ((i + 1 : Nat) : Int)) 0 0 0 0 v' ∧ I v' 111 t = rcl (rc1 sn z) ∧ I v' 113 t = (arc z : Nat) ∧ I v' 100 17 = ((t + 1 : Nat) : Int) ∧ RWl v' 142 0 (snx sn z) ∧ (∀ q, q ≠ t → I v' 111 q = I v 111 q ∧ I v' 113 q = I v 113 q) ∧ Fr Pnc v v' := by
  intro F hF
  have z1 := I_lo v 134 i
  have z2 := I_hi v 134 i
  rw [h134] at z1 z2
  -- the cell is written
  have wr : ∀ (y : Int) (w : St) (vars : Int32), Fr (fun k _ => k == 142) v w → CVl u0 v S nb nf y → -2147483648 ≤ y → -2147483648 ≤ rcl y → rcl y < 2147483648 → ∀ G, ∃ v', fX12_newClause_L1 (G + 1) 5 x2 x4 vars x6 (zI g) (zI i) (zI (rcl y)) 0 0 0 w = fX12_newClause_L1 G 1 x2 x4 vars x6 (zI g) (zI ((i + 1 : Nat) : Int)) 0 0 0 0 v' ∧ I v' 111 t = rcl y ∧ I v' 113 t = (arc y : Nat) ∧ I v' 100 17 = ((t + 1 : Nat) : Int) ∧ (∀ q, I v' 142 q = I w 142 q) ∧ (∀ q, q ≠ t → I v' 111 q = I v 111 q ∧ I v' 113 q = I v 113 q) ∧ Fr Pnc v v' := by
    intro y w vars hFw hy hy1 r1 r2 G
    obtain ⟨va, hva⟩ : ∃ va, uI w 111 t (zI (rcl y)) = va := ⟨_, rfl⟩
    have Fa : Fr (fun k _ => k == 111) w va := by rw [← hva]; exact Fr_up rfl (Fr_rfl _ _)
    obtain ⟨vb, hvb⟩ : ∃ vb, uI va 113 t (zI (arc y : Nat)) = vb := ⟨_, rfl⟩
    have Fb : Fr (fun k _ => k == 113) va vb := by rw [← hvb]; exact Fr_up rfl (Fr_rfl _ _)
    obtain ⟨vc, hvc⟩ : ∃ vc, uI vb 100 17 (zI ((t + 1 : Nat) : Int)) = vc := ⟨_, rfl⟩
    have Fc : Fr (fun k i => k == 100 && i == 17) vb vc := by rw [← hvc]; exact Fr_up rfl (Fr_rfl _ _)
    have F0a : Fr (fun k i => k == 142 || k == 111) v va := Fr_tr (Fr_up2 (fun k i hk => by simp at hk; simp [hk]) hFw) (Fr_up2 (fun k i hk => by simp at hk; simp [hk]) Fa)
    have h17w : I w 100 17 = t := by rw [Fr_I hFw rfl]; exact h17
    have harc : arc y < 8 := by unfold arc; split <;> omega
    have hEa : NCe u0 va S nb nf := NCe_fr F0a (fun _ => rfl) rfl hE
    have har := ar_spec (v := va) hEa.1 hEa.2.1 hEa.2.2.1 hEa.2.2.2.1 hEa.2.2.2.2 (CVl_fr F0a (fun _ => rfl) hy) hy1
    refine ⟨vc, ?_, ?_, ?_, by rw [← hvc]; exact I_uI1 _ _ _ _ (by omega) (by omega), fun q => by rw [Fr_I Fc rfl, Fr_I Fb rfl, Fr_I Fa rfl], fun q hq => ⟨?_, ?_⟩, Fr_tr (Fr_up2 (fun k i hk => by simp at hk; simp [Pnc]; omega) F0a) (Fr_tr (Fr_up2 (fun k i hk => by simp at hk; simp [Pnc, hk]) Fb) (Fr_up2 (fun k i hk => by simp at hk; simp [Pnc, hk]) Fc))⟩
    · have sx : fX12_newClause_L1 (G + 1) 5 x2 x4 vars x6 (zI g) (zI i) (zI (rcl y)) 0 0 0 w = fX12_newClause_L1_5 (fX12_newClause_L1 G) x2 x4 vars x6 (zI g) (zI i) (zI (rcl y)) w := rfl
      rw [sx]
      unfold fX12_newClause_L1_5
      rw [gI_z w 100 17, h17w, st_z _ _ _ _ _ (by omega) (by omega), bd_s, Int.toNat_natCast, hva, har, b2_s, gI_z va 100 17, Fr_I Fa rfl, h17w, st_z _ _ _ _ _ (by omega) (by omega), bd_s, Int.toNat_natCast, hvb, gI_z vb 100 17, Fr_I Fb rfl, Fr_I Fa rfl, h17w, show (zI (t : Int) + 1 : Int32) = zI ((t + 1 : Nat) : Int) by rw [show (1 : Int32) = zI 1 from rfl, z_add]; rfl, lt_e, hvc, lt_e, show (zI (i : Int) + 1 : Int32) = zI ((i + 1 : Nat) : Int) by rw [show (1 : Int32) = zI 1 from rfl, z_add]; rfl]
    · rw [Fr_I Fc rfl, Fr_I Fb rfl, ← hva]; exact I_uI1 _ _ _ _ r1 r2
    · rw [Fr_I Fc rfl, ← hvb]; exact I_uI1 _ _ _ _ (by omega) (by omega)
    · rw [Fr_I Fc rfl, Fr_I Fb rfl, ← hva, I_uI2 _ _ _ _ _ _ (by omega), Fr_I hFw rfl]
    · rw [Fr_I Fc rfl, ← hvb, I_uI2 _ _ _ _ _ _ (by omega), Fr_I Fa rfl, Fr_I hFw rfl]
  obtain ⟨F1, rfl⟩ : ∃ F1, F = F1 + 1 := ⟨F - 1, by omega⟩
  have sx : fX12_newClause_L1 (F1 + 1) 1 x2 x4 (zI sn.length) x6 (zI g) (zI i) 0 0 0 0 v = fX12_newClause_L1_1 (fX12_newClause_L1 F1) x2 x4 (zI sn.length) x6 (zI g) (zI i) v := rfl
  have pre : fX12_newClause_L1_1 (fX12_newClause_L1 F1) x2 x4 (zI sn.length) x6 (zI g) (zI i) v = if 0 ≤ zI (rcl z) then fX12_newClause_L1 F1 5 x2 x4 (zI sn.length) x6 (zI g) (zI i) (zI (rcl z)) 0 0 0 v else fX12_newClause_L1 F1 2 x2 x4 (zI sn.length) x6 (zI g) (zI i) (zI (rcl z)) (zI (0 : Nat)) 0 0 v := by
    unfold fX12_newClause_L1_1
    rw [ld_z _ _ _ _ (by omega) (by omega), bd_s, Int.toNat_natCast, h132, if_neg (by rw [z_le (by omega) (by omega) (by omega) (by omega)]; omega), ld_z _ _ _ _ (by omega) (by omega), bd_s, Int.toNat_natCast, h134]
    rfl
  by_cases hz0 : 0 ≤ z
  · have hr0 : 0 ≤ rcl z := by unfold rcl; rw [if_neg (by omega)]; split <;> omega
    have hrc : rc1 sn z = z := by unfold rc1; rw [if_pos hz0]
    have hsn : snx sn z = sn := by unfold snx; rw [if_pos hz0]
    obtain ⟨G, rfl⟩ : ∃ G, F1 = G + 1 := ⟨F1 - 1, by omega⟩
    obtain ⟨v', w1, w2, w3, w4, w5, w6, w7⟩ := wr z v (zI sn.length) (Fr_rfl _ _) hz (by omega) z1 z2 G
    refine ⟨v', G, by omega, ?_, by rw [hrc]; exact w2, w3, w4, ?_, w6, w7⟩
    · rw [sx, pre, if_pos (by rw [z_zero, z_le (by decide) (by decide) z1 z2]; exact hr0), w1, hsn]
    · rw [hsn]; exact RWl_eq _ _ (fun q _ _ => w5 q) hR
  · have hrz : rcl z = z := by unfold rcl; rw [if_pos (by omega)]
    have hrc : rc1 sn z = -1 - (ixo sn z : Int) := by unfold rc1; rw [if_neg hz0]
    have hrc2 : rcl (rc1 sn z) = rc1 sn z := by unfold rcl; rw [if_pos (by omega)]
    have hixl : ixo sn z ≤ sn.length := by
      by_cases h : z ∈ sn
      · have := (ixo_in sn h).1; omega
      · rw [ixo_out sn h]; exact Nat.le_refl _
    rw [hrz] at z1 z2
    obtain ⟨F2, q1, q2⟩ := nv_loop x2 x4 x6 (zI g) (zI i) (by omega) z1 hR hl sn.length 0 F1 (by omega) (by omega) (by omega)
    obtain ⟨F3, rfl⟩ : ∃ F3, F2 = F3 + 1 + 1 + 1 := ⟨F2 - 3, by omega⟩
    obtain ⟨va, hva⟩ : ∃ va, uI v 142 (ixo sn z) (zI z) = va := ⟨_, rfl⟩
    have Fa : Fr (fun k _ => k == 142) v va := by rw [← hva]; exact Fr_up rfl (Fr_rfl _ _)
    have hsnl : (snx sn z).length = sn.length + (if ixo sn z = sn.length then 1 else 0) := by
      unfold snx; rw [if_neg hz0]
      by_cases h : z ∈ sn
      · have := (ixo_in sn h).1
        rw [if_pos h, if_neg (by omega)]; rfl
      · rw [if_neg h, if_pos (ixo_out sn h)]; simp
    have hRa : RWl va 142 0 (snx sn z) := by
      unfold snx; rw [if_neg hz0]
      by_cases h : z ∈ sn
      · obtain ⟨h1, h2⟩ := ixo_in sn h
        have h3 := RWl_get sn 0 _ z hR h2
        rw [Nat.zero_add] at h3
        rw [if_pos h]
        refine RWl_eq _ _ (fun q _ _ => ?_) hR
        rw [← hva, I_uI _ _ _ _ z1 (by omega)]
        by_cases hq : q = ixo sn z
        · rw [if_pos ⟨rfl, hq⟩, hq, h3]
        · rw [if_neg (fun hh => hq hh.2)]
      · rw [if_neg h]
        refine RWl_app _ _ _ (RWl_eq _ _ (fun q _ hq => ?_) hR) ⟨?_, trivial⟩
        · rw [← hva, I_uI2 _ _ _ _ _ _ (by rw [ixo_out sn h]; omega)]
        · rw [Nat.zero_add, ← hva, ixo_out sn h]; exact I_uI1 _ _ _ _ z1 (by omega)
    obtain ⟨v', w1, w2, w3, w4, w5, w6, w7⟩ := wr (rc1 sn z) va (zI (snx sn z).length) Fa (Or.inl (by omega)) (by omega) (by omega) (by omega) F3
    refine ⟨v', F3, by omega, ?_, w2, ?_, w4, RWl_eq _ _ (fun q _ _ => w5 q) hRa, w6, w7⟩
    · have s3 : fX12_newClause_L1 (F3 + 1 + 1 + 1) 3 x2 x4 (zI sn.length) x6 (zI g) (zI i) (zI z) (zI (ixo sn z)) 0 0 v = fX12_newClause_L1_3 (fX12_newClause_L1 (F3 + 1 + 1)) x2 x4 (zI sn.length) x6 (zI g) (zI i) (zI z) (zI (ixo sn z)) v := rfl
      have s4 : ∀ s1 : Int32, fX12_newClause_L1 (F3 + 1 + 1) 4 x2 x4 0 x6 (zI g) (zI i) 0 (zI (ixo sn z)) (zI sn.length) s1 va = fX12_newClause_L1_4 (fX12_newClause_L1 (F3 + 1)) x2 x4 x6 (zI g) (zI i) (zI (ixo sn z)) (zI sn.length) s1 va := fun _ => rfl
      have h4 : ∀ s1 : Int, (sn.length : Int) + s1 = ((snx sn z).length : Nat) → fX12_newClause_L1_4 (fX12_newClause_L1 (F3 + 1)) x2 x4 x6 (zI g) (zI i) (zI (ixo sn z)) (zI sn.length) (zI s1) va = fX12_newClause_L1 (F3 + 1) 5 x2 x4 (zI (snx sn z).length) x6 (zI g) (zI i) (zI (rcl (rc1 sn z))) 0 0 0 va := by
        intro s1 hs1
        unfold fX12_newClause_L1_4
        rw [lt_e, lt_e, z_add, hs1, show (-1 : Int32) = zI (-1) from rfl, z_sub, hrc2, hrc]
      rw [sx, pre, hrz, if_neg (by rw [z_zero, z_le (by decide) (by decide) z1 (by omega)]; omega), q2, s3]
      unfold fX12_newClause_L1_3
      rw [st_z _ _ _ _ _ (by omega) (by omega), bd_s, Int.toNat_natCast, hva]
      by_cases hix : ixo sn z = sn.length
      · rw [if_pos (by rw [hix]), s4, show (1 : Int32) = zI 1 from rfl, h4 1 (by rw [hsnl, if_pos hix]; omega), w1]
      · rw [if_neg (by rw [z_eq (by omega) (by omega) (by omega) (by omega)]; omega), s4, show (fX12_newClause_L1_4 (fX12_newClause_L1 (F3 + 1)) x2 x4 x6 (zI g) (zI i) (zI (ixo sn z)) (zI sn.length) 0 va) = fX12_newClause_L1_4 (fX12_newClause_L1 (F3 + 1)) x2 x4 x6 (zI g) (zI i) (zI (ixo sn z)) (zI sn.length) (zI 0) va from rfl, h4 0 (by rw [hsnl, if_neg hix]; omega), w1]
    · rw [w3, arc_rc1]
/-- the cells of a literal -/
theorem nc_in {u0 : St} {S nb nf g e : Nat} (x2 x4 x6 : Int32) (hg : g < 6100) (he : e ≤ 24000) (r : List Int) : ∀ (sn : List Int) (i t F : Nat) (v : St), NCe u0 v S nb nf → i + r.length = e → t + r.length ≤ 20400 → I v 132 g = e → RWl v 134 i (r.map rcl) → (∀ z, z ∈ r → CVl u0 v S nb nf z) → I v 100 17 = t → RWl v 142 0 sn → sn.length + r.length ≤ 200 → 210 * r.length < F → ∃ (v' : St) (F' : Nat), F ≤ F' + 210 * r.length ∧ fX12_newClause_L1 F 1 x2 x4 (zI sn.length) x6 (zI g) (zI i) 0 0 0 0 v = fX12_newClause_L1 F' 1 x2 x4 (zI (sns sn r).length) x6 (zI g) (zI e) 0 0 0 0 v' ∧ RWl v' 111 t ((rnc sn r).map rcl) ∧ RWl v' 113 t (r.map (fun z => ((arc z : Nat) : Int))) ∧ I v' 100 17 = ((t + r.length : Nat) : Int) ∧ RWl v' 142 0 (sns sn r) ∧ (∀ q, q < t → I v' 111 q = I v 111 q ∧ I v' 113 q = I v 113 q) ∧ Fr Pnc v v' := by
  induction r with
  | nil =>
    intro sn i t F v hE hi ht h132 hR hC h17 hR2 hl hF
    simp only [List.length_nil, Nat.add_zero] at hi
    subst hi
    exact ⟨v, F, by omega, rfl, trivial, trivial, h17, hR2, fun _ _ => ⟨rfl, rfl⟩, Fr_rfl _ _⟩
  | cons z r ih =>
    intro sn i t F v hE hi ht h132 hR hC h17 hR2 hl hF
    simp only [List.length_cons] at hi ht hl hF
    obtain ⟨v1, F1, a1, a2, a3, a4, a5, a6, a7, a8⟩ := nc_cell (sn := sn) x2 x4 x6 hE hg he (show i < e by omega) (show t < 20400 by omega) h132 hR.1 (hC z (by simp)) h17 hR2 (by omega) F (by omega)
    have hs := snx_len sn z
    obtain ⟨v2, F2, b1, b2, b3, b4, b5, b6, b7, b8⟩ := ih (snx sn z) (i + 1) (t + 1) F1 v1 (NCe_fr a8 (fun _ => rfl) rfl hE) (by omega) (by omega) (by rw [Fr_I a8 rfl]; exact h132) (RWl_eq _ _ (fun q _ _ => Fr_I a8 rfl) hR.2) (fun y hy => CVl_fr a8 (fun _ => rfl) (hC y (List.mem_cons_of_mem _ hy))) a5 a6 (by omega) (by omega)
    refine ⟨v2, F2, by simp only [List.length_cons]; omega, by rw [a2, b2]; rfl, ⟨?_, b3⟩, ⟨?_, b4⟩, by rw [b5]; simp only [List.length_cons]; congr 1; omega, b6, fun q hq => ⟨by rw [(b7 q (by omega)).1]; exact (a7 q (by omega)).1, by rw [(b7 q (by omega)).2]; exact (a7 q (by omega)).2⟩, Fr_tr a8 b8⟩
    · rw [(b7 t (by omega)).1]; exact a3
    · rw [(b7 t (by omega)).2]; exact a4
