/-! reading: a clause, in the reference -/
def Pnw : Nat → Nat → Bool := fun k i => k == 141 || k == 142 || (106 ≤ k && k ≤ 113) || (k == 100 && (i == 10 || i == 14 || i == 17 || i == 47))
def NCd (v : St) (C f b : Nat) (K : List Lt) : Prop := LDr v f b K ∧ I v 100 10 = ((C + 1 : Nat) : Int) ∧ I v 106 C = f ∧ I v 107 C = K.length ∧ I v 108 C = (sns [] (fl K)).length ∧ ∀ p, b ≤ p → p < b + cl K → I v 112 p = ((p + tk (((fl K).map arc).drop (p - b)) 1 : Nat) : Int)
theorem WT_fl (K : List Lt) : (∀ l, l ∈ K → WT (l.2.map arc) 1) → WT ((fl K).map arc) K.length := by
  induction K with
  | nil => intro _; rfl
  | cons a K ih =>
    intro h
    simp only [fl, List.map_append, List.length_cons]
    rw [Nat.add_comm K.length 1]
    exact WT_app _ _ _ _ (h a (by simp)) (ih (fun l hl => h l (List.mem_cons_of_mem _ hl)))
theorem arc_lt (z : Int) : arc z ≤ 7 := by unfold arc; split <;> omega
theorem nc_spec {u0 v : St} {S nb nf MD w C f b M : Nat} {G : List Cs} {c : List Lt} (hE : NCe u0 v S nb nf) (hMD : MD ≤ 24000) (hw : w < 600) (hC : C < 100) (hf : f ≤ 1188) (hb : b ≤ 19800) (hM : M ≤ 6000) (hT : TGs u0 v S nb nf MD G) (hc : CLr v G M w c) (h47 : I v 100 47 = 0) (h10 : I v 100 10 = C) (h14 : I v 100 14 = f) (h17 : I v 100 17 = b) : ∃ v', fX12_newClause (zI w) v = some v' ∧ Fr Pnw v v' ∧ RTk v v' C f b ∧ (((krun ([], false) c).2 = true ∧ Fr (fun k _ => k == 141) v v') ∨ ((krun ([], false) c).2 = false ∧ (200 < cl (krun ([], false) c).1 ∨ 10 < (sns [] (fl (krun ([], false) c).1)).length) ∧ I v' 100 47 = 1) ∨ ((krun ([], false) c).2 = false ∧ cl (krun ([], false) c).1 ≤ 200 ∧ (sns [] (fl (krun ([], false) c).1)).length ≤ 10 ∧ NCd v' C f b (krun ([], false) c).1 ∧ I v' 100 47 = 0 ∧ ∀ l, l ∈ (krun ([], false) c).1 → LG l.2 ∧ (l.1 = 0 ∨ l.1 = 1) ∧ ∀ z, z ∈ l.2 → CVl u0 v S nb nf z)) := by
  obtain ⟨q, a1, a2, a3, a4, a5⟩ := hc
  obtain ⟨v1, n1, n2, n3⟩ := nk_out (u0 := u0) (S := S) (nb := nb) (nf := nf) (MD := MD) (w := w) (q := q) (n := c.length) (G := G) (by have := hE.1; omega) hMD hw (by omega) c [] false 0 FU v (by simpa using a4) (by unfold FU; omega) (by omega) a1 a2 hT (fun j l h => by simp at h) a5
  obtain ⟨K, hK⟩ : ∃ K, (krun ([], false) c).1 = K := ⟨_, rfl⟩
  obtain ⟨bo, hbo⟩ : ∃ bo, (krun ([], false) c).2 = bo := ⟨_, rfl⟩
  have hKl : K.length ≤ 12 := by
    have := krun_len c ([], false)
    rw [hK] at this
    simp only [List.length_nil] at this; omega
  have hnc : fX12_newClause (zI w) v = if bo then some v1 else fX12_newClause_L2 FU 0 (zI K.length) 0 0 v1 := by rw [← hbo, ← hK]; exact n1
  rw [hK] at n2
  rw [hK, hbo, hnc]
  cases bo with
  | true => exact ⟨v1, rfl, Fr_up2 (fun k i hk => by simp at hk; simp [Pnw, hk]) n3, RTk_fr C f b n3 (fun k i hk => by simp; omega), Or.inl ⟨rfl, n3⟩⟩
  | false =>
    have hlit : ∀ l, l ∈ K → ∃ g, LTr u0 v1 S nb nf MD g l := fun l hl => by
      obtain ⟨j, hj⟩ := List.mem_iff_getElem?.1 hl
      obtain ⟨g, _, h2⟩ := n2 j l hj
      exact ⟨g, h2⟩
    have hclb : cl K ≤ 24000 * K.length := cl_bound 24000 K (fun l hl => by
      obtain ⟨g, _, _, _, _, p, _, _, h, _⟩ := hlit l hl; omega)
    have hcl1 : cl K ≤ 1000000 := by
      have : 24000 * K.length ≤ 24000 * 12 := Nat.mul_le_mul_left _ hKl
      omega
    obtain ⟨Fz, hFz⟩ : ∃ Fz, FU = Fz + 1 + K.length := ⟨FU - 1 - K.length, by unfold FU; omega⟩
    have hsz := nsz hMD hKl hcl1 n2 K.length 0 Fz (by omega)
    have hst : fX12_newClause_L2 FU 0 (zI K.length) 0 0 v1 = fX12_newClause_L2_0 (fX12_newClause_L2 Fz) (zI K.length) (zI (cl K)) (zI K.length) v1 := by
      rw [hFz]; exact hsz
    have F1 : Fr Pnw v v1 := Fr_up2 (fun k i hk => by simp at hk; simp [Pnw, hk]) n3
    have R1 : RTk v v1 C f b := RTk_fr C f b n3 (fun k i hk => by simp; omega)
    rw [if_neg (by decide), hst]
    unfold fX12_newClause_L2_0
    rw [if_pos (by rw [z_le (by omega) (by omega) (by omega) (by omega)]; omega)]
    by_cases h200 : cl K ≤ 200
    · rw [if_pos (by rw [z_lit, z_le (by omega) (by omega) (by decide) (by decide)]; omega), lt_e]
      obtain ⟨va, hva⟩ : ∃ va, uI v1 106 C (zI (f : Int)) = va := ⟨_, rfl⟩
      have Fa : Fr (fun k _ => k == 106) v1 va := by rw [← hva]; exact Fr_up rfl (Fr_rfl _ _)
      obtain ⟨vb, hvb⟩ : ∃ vb, uI va 107 C (zI K.length) = vb := ⟨_, rfl⟩
      have Fb : Fr (fun k _ => k == 107) va vb := by rw [← hvb]; exact Fr_up rfl (Fr_rfl _ _)
      have F0 : Fr (fun k i => k == 141 || k == 106 || k == 107) v vb := Fr_tr (Fr_up2 (fun k i hk => by simp at hk; simp [hk]) n3) (Fr_tr (Fr_up2 (fun k i hk => by simp at hk; simp [hk]) Fa) (Fr_up2 (fun k i hk => by simp at hk; simp [hk]) Fb))
      have Fab : Fr (fun k i => k == 106 || k == 107) v1 vb := Fr_tr (Fr_up2 (fun k i hk => by simp at hk; simp [hk]) Fa) (Fr_up2 (fun k i hk => by simp at hk; simp [hk]) Fb)
      have hEb : NCe u0 vb S nb nf := NCe_fr F0 (fun _ => rfl) rfl hE
      have hKPb : KPr u0 vb S nb nf MD K := by
        intro j a ha
        obtain ⟨g', x1, x2⟩ := n2 j a ha
        exact ⟨g', by rw [Fr_I Fab rfl]; exact x1, LTr_fr Fab (fun k i hk => by simp; omega) x2⟩
      have hLDb : LDr vb f b [] := ⟨fun i l h => by simp at h, by rw [Fr_I F0 rfl, h14]; rfl, by rw [Fr_I F0 rfl, h17]; rfl, trivial, trivial, trivial⟩
      obtain ⟨v2, p1, p2, p3, p4⟩ := nc_out hMD hf hb hKl h200 K [] FU vb (by simp) (by unfold FU; omega) hEb hKPb hLDb
      have hWT : WT ((fl K).map arc) K.length := WT_fl K (fun l hl => by
        obtain ⟨g, _, _, _, _, p, _, _, _, _, _, h⟩ := hlit l hl; exact h.1)
      have hAl : ((fl K).map arc).length = cl K := by rw [List.length_map, fl_len]
      obtain ⟨v3, F3, r1, r2, r3, r4, r5⟩ := be_out (b := b) (n := K.length) (A := (fl K).map arc) (zI (sns [] (fl K)).length) hb (by omega) hWT (fun a ha => by
        obtain ⟨z, _, hz⟩ := List.mem_map.1 ha
        rw [← hz]; exact arc_lt z) ((fl K).map arc).length FU v2 (Nat.le_refl _) (by rw [hAl]; unfold FU; omega) (by rw [hAl]; exact p2.2.2.1) (fun i a ha => by
        have := RWl_get _ b i ((a : Nat) : Int) p2.2.2.2.2.1 (by
          rw [List.getElem?_map] at ha ⊢
          cases hz : (fl K)[i]? with
          | none => rw [hz] at ha; cases ha
          | some z =>
            rw [hz] at ha
            have := Option.some.inj ha
            subst this; rfl)
        exact this) (fun p h1 h2 => by omega)
      rw [hAl] at r1 r2 r3
      obtain ⟨F4, rfl⟩ : ∃ F4, F3 = F4 + 1 := ⟨F3 - 1, by have : FU = 1000000000 := rfl; omega⟩
      -- the clause is counted
      obtain ⟨bg, hbg⟩ : ∃ bg : Int, (if (sns [] (fl K)).length ≤ 10 then (0 : Int) else 1) = bg := ⟨_, rfl⟩
      have hbg01 : bg = 0 ∨ bg = 1 := by rw [← hbg]; by_cases h : (sns [] (fl K)).length ≤ 10 <;> simp [h]
      obtain ⟨vc, hvc⟩ : ∃ vc, uI v3 100 47 (zI bg) = vc := ⟨_, rfl⟩
      have Fc : Fr (fun k i => k == 100 && i == 47) v3 vc := by rw [← hvc]; exact Fr_up rfl (Fr_rfl _ _)
      obtain ⟨vd, hvd⟩ : ∃ vd, uI vc 108 C (zI (sns [] (fl K)).length) = vd := ⟨_, rfl⟩
      have Fd : Fr (fun k _ => k == 108) vc vd := by rw [← hvd]; exact Fr_up rfl (Fr_rfl _ _)
      obtain ⟨ve, hve⟩ : ∃ ve, uI vd 100 10 (zI ((C + 1 : Nat) : Int)) = ve := ⟨_, rfl⟩
      have Fe : Fr (fun k i => k == 100 && i == 10) vd ve := by rw [← hve]; exact Fr_up rfl (Fr_rfl _ _)
      have F2 : Fr (fun k i => k == 141 || k == 106 || k == 107 || Pno k i) v v2 := Fr_tr (Fr_up2 (fun k i hk => by simp at hk; simp; omega) F0) (Fr_up2 (fun k i hk => by simp [hk]) p4)
      have F23 : Fr (fun k i => k == 112) v2 v3 := r5
      have F3e : Fr (fun k i => k == 108 || (k == 100 && (i == 47 || i == 10))) v3 ve := Fr_tr (Fr_up2 (fun k i hk => by simp at hk; simp [hk]) Fc) (Fr_tr (Fr_up2 (fun k i hk => by simp at hk; simp [hk]) Fd) (Fr_up2 (fun k i hk => by simp at hk; simp [hk]) Fe))
      have F2e : Fr (fun k i => k == 112 || k == 108 || (k == 100 && (i == 47 || i == 10))) v2 ve := Fr_tr (Fr_up2 (fun k i hk => by simp at hk; simp [hk]) F23) (Fr_up2 (fun k i hk => by simp at hk; simp; omega) F3e)
      have Fall : Fr Pnw v ve := Fr_tr (Fr_up2 (fun k i hk => by simp [Pno] at hk; simp [Pnw]; omega) F2) (Fr_up2 (fun k i hk => by simp at hk; simp [Pnw]; omega) F2e)
      have hvl := sns_len (fl K) ([] : List Int)
      rw [fl_len] at hvl
      simp only [List.length_nil] at hvl
      have h47_3 : I v3 100 47 = 0 := by rw [Fr_I F23 rfl, Fr_I F2 rfl]; exact h47
      have h10_3 : I v3 100 10 = C := by rw [Fr_I F23 rfl, Fr_I F2 rfl]; exact h10
      have hend : fX12_newClause_L0 (F4 + 1) 0 (zI (cl K)) (zI (sns [] (fl K)).length) (zI ((b : Int) - 1)) 0 0 v3 = some ve := by
        have sx : fX12_newClause_L0 (F4 + 1) 0 (zI (cl K)) (zI (sns [] (fl K)).length) (zI ((b : Int) - 1)) 0 0 v3 = fX12_newClause_L0_0 (fX12_newClause_L0 F4) (zI (cl K)) (zI (sns [] (fl K)).length) (zI ((b : Int) - 1)) v3 := rfl
        have hj : fX12_newClause_j549 (zI (sns [] (fl K)).length) (zI bg) v3 = some ve := by
          unfold fX12_newClause_j549
          rw [zb_z hbg01, bd_s, lt_e, hvc, gI_z vc 100 10, Fr_I Fc rfl, h10_3, st_z _ _ _ _ _ (by omega) (by omega), bd_s, Int.toNat_natCast, hvd, gI_z vd 100 10, Fr_I Fd rfl, Fr_I Fc rfl, h10_3, show (zI (C : Int) + 1 : Int32) = zI ((C + 1 : Nat) : Int) by rw [show (1 : Int32) = zI 1 from rfl, z_add]; rfl, lt_e, hve]
        rw [sx]
        unfold fX12_newClause_L0_0
        rw [gI_z v3 100 17, Fr_I F23 rfl, p2.2.2.1, z_sub, if_pos (by rw [z_lt (by omega) (by omega) (by omega) (by omega)]; omega), gI_z v3 100 47, h47_3, if_pos (show zI 0 = 0 from rfl), ← hj]
        by_cases hv : (sns [] (fl K)).length ≤ 10
        · rw [if_pos (by rw [z_lit, z_le (by omega) (by omega) (by decide) (by decide)]; omega), ← hbg, if_pos hv]; rfl
        · rw [if_neg (by rw [z_lit, z_le (by omega) (by omega) (by decide) (by decide)]; omega), ← hbg, if_neg hv]; rfl
      have e47 : I ve 100 47 = bg := by rw [Fr_I Fe rfl, Fr_I Fd rfl, ← hvc]; exact I_uI1 _ _ _ _ (by omega) (by omega)
      have hRT : RTk v ve C f b := by
        refine ⟨fun i hi => ⟨?_, ?_, ?_⟩, fun i hi => ⟨?_, ?_⟩, fun i hi => ⟨?_, ?_, ?_⟩⟩
        · rw [Fr_I F2e rfl, (p3.1 i (by omega)).1, Fr_I Fb rfl, ← hva, I_uI2 _ _ _ _ _ _ (by omega), Fr_I n3 rfl]
        · rw [Fr_I F2e rfl, (p3.1 i (by omega)).2.1, ← hvb, I_uI2 _ _ _ _ _ _ (by omega), Fr_I Fa rfl, Fr_I n3 rfl]
        · rw [Fr_I Fe rfl, ← hvd, I_uI2 _ _ _ _ _ _ (by omega), Fr_I Fc rfl, Fr_I F23 rfl, (p3.1 i (by omega)).2.2, Fr_I F0 rfl]
        · rw [Fr_I F2e rfl, (p3.2.1 i hi).1, Fr_I F0 rfl]
        · rw [Fr_I F2e rfl, (p3.2.1 i hi).2, Fr_I F0 rfl]
        · rw [Fr_I F2e rfl, (p3.2.2 i hi).1, Fr_I F0 rfl]
        · rw [Fr_I F3e rfl, r4 i hi, (p3.2.2 i hi).2.1, Fr_I F0 rfl]
        · rw [Fr_I F2e rfl, (p3.2.2 i hi).2.2, Fr_I F0 rfl]
      refine ⟨ve, ?_, Fall, hRT, Or.inr ?_⟩
      · rw [gI_z v1 100 10, Fr_I n3 rfl, h10, gI_z v1 100 14, Fr_I n3 rfl, h14, st_z _ _ _ _ _ (by omega) (by omega), bd_s, Int.toNat_natCast, hva, gI_z va 100 10, Fr_I Fa rfl, Fr_I n3 rfl, h10, st_z _ _ _ _ _ (by omega) (by omega), bd_s, Int.toNat_natCast, hvb, lt_e]
        have p1' : fX12_newClause_L1 FU 0 (zI K.length) (zI (cl K)) 0 0 0 0 0 0 0 0 vb = fX12_newClause_L0 FU 0 (zI (cl K)) (zI (sns [] (fl K)).length) (zI ((b : Int) + cl K - 1)) 0 0 v2 := p1
        rw [p1', r2, hend]
      · by_cases hv : (sns [] (fl K)).length ≤ 10
        · right
          refine ⟨rfl, h200, hv, ⟨?_, by rw [← hve]; exact I_uI1 _ _ _ _ (by omega) (by omega), ?_, ?_, ?_, fun p h1 h2 => by rw [Fr_I F3e rfl]; exact r3 p h1 h2⟩, by rw [e47, ← hbg, if_pos hv], fun l hl => ?_⟩
          · obtain ⟨l1, l2, l3, l4, l5, l6⟩ := p2
            exact ⟨fun i l hl => by rw [Fr_I F2e rfl, Fr_I F2e rfl]; exact l1 i l hl, by rw [Fr_I F2e rfl]; exact l2, by rw [Fr_I F2e rfl]; exact l3, RWl_eq _ _ (fun i _ _ => Fr_I F2e rfl) l4, RWl_eq _ _ (fun i _ _ => Fr_I F2e rfl) l5, RWl_eq _ _ (fun i _ _ => Fr_I F2e rfl) l6⟩
          · rw [Fr_I F2e rfl, (p3.1 C (by omega)).1, Fr_I Fb rfl, ← hva]; exact I_uI1 _ _ _ _ (by omega) (by omega)
          · rw [Fr_I F2e rfl, (p3.1 C (by omega)).2.1, ← hvb]; exact I_uI1 _ _ _ _ (by omega) (by omega)
          · rw [Fr_I Fe rfl, ← hvd]; exact I_uI1 _ _ _ _ (by omega) (by omega)
          · obtain ⟨g, _, _, x1, _, p, _, _, _, _, x2, x3⟩ := hlit l hl
            exact ⟨x3, x1, fun z hz => by
              have := x2 z hz
              exact CVl_mono (fun i _ => (Fr_I n3 (k := 105) (i := i) rfl).symm) (Nat.le_refl _) this⟩
        · left
          exact ⟨rfl, Or.inr (by omega), by rw [e47, ← hbg, if_neg hv]⟩
    · rw [if_neg (by rw [z_lit, z_le (by omega) (by omega) (by decide) (by decide)]; omega), lt_e]
      have F2 : Fr (fun k i => k == 100 && i == 47) v1 (uI v1 100 47 1) := Fr_up rfl (Fr_rfl _ _)
      refine ⟨uI v1 100 47 1, rfl, Fr_tr F1 (Fr_up2 (fun k i hk => by simp at hk; simp [Pnw, hk]) F2), RTk_tr (Nat.le_refl _) (Nat.le_refl _) (Nat.le_refl _) R1 (RTk_fr C f b F2 (fun k i hk => by simp; omega)), Or.inr (Or.inl ⟨rfl, Or.inl (by omega), I_uI1 _ _ _ 1 (by decide) (by decide)⟩)⟩
