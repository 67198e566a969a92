/-! reading: a clause in the store, in the reference -/
def Pno : Nat → Nat → Bool := fun k i => k == 109 || k == 110 || k == 111 || k == 113 || k == 142 || (k == 100 && (i == 14 || i == 17))
def LDr (v : St) (f b : Nat) (K : List Lt) : Prop := (∀ (i : Nat) (l : Lt), K[i]? = some l → I v 109 (f + i) = l.1 ∧ I v 110 (f + i) = ((b + cl (K.take i) : Nat) : Int)) ∧ I v 100 14 = ((f + K.length : Nat) : Int) ∧ I v 100 17 = ((b + cl K : Nat) : Int) ∧ RWl v 111 b ((rnc [] (fl K)).map rcl) ∧ RWl v 113 b ((fl K).map (fun z => ((arc z : Nat) : Int))) ∧ RWl v 142 0 (sns [] (fl K))
def RTk (v v' : St) (C f b : Nat) : Prop := (∀ i, i < C → I v' 106 i = I v 106 i ∧ I v' 107 i = I v 107 i ∧ I v' 108 i = I v 108 i) ∧ (∀ i, i < f → I v' 109 i = I v 109 i ∧ I v' 110 i = I v 110 i) ∧ (∀ i, i < b → I v' 111 i = I v 111 i ∧ I v' 112 i = I v 112 i ∧ I v' 113 i = I v 113 i)
theorem RTk_tr {v v' v'' : St} {C f b C' f' b' : Nat} (hC : C ≤ C') (hf : f ≤ f') (hb : b ≤ b') (h : RTk v v' C f b) (h' : RTk v' v'' C' f' b') : RTk v v'' C f b := ⟨fun i hi => ⟨(h'.1 i (by omega)).1.trans (h.1 i hi).1, (h'.1 i (by omega)).2.1.trans (h.1 i hi).2.1, (h'.1 i (by omega)).2.2.trans (h.1 i hi).2.2⟩, fun i hi => ⟨(h'.2.1 i (by omega)).1.trans (h.2.1 i hi).1, (h'.2.1 i (by omega)).2.trans (h.2.1 i hi).2⟩, fun i hi => ⟨(h'.2.2 i (by omega)).1.trans (h.2.2 i hi).1, (h'.2.2 i (by omega)).2.1.trans (h.2.2 i hi).2.1, (h'.2.2 i (by omega)).2.2.trans (h.2.2 i hi).2.2⟩⟩
theorem RTk_fr {P : Nat → Nat → Bool} {v v' : St} (C f b : Nat) (hF : Fr P v v') (h : ∀ k i, (106 ≤ k ∧ k ≤ 113) → P k i = false) : RTk v v' C f b := ⟨fun i _ => ⟨Fr_I hF (h _ _ (by omega)), Fr_I hF (h _ _ (by omega)), Fr_I hF (h _ _ (by omega))⟩, fun i _ => ⟨Fr_I hF (h _ _ (by omega)), Fr_I hF (h _ _ (by omega))⟩, fun i _ => ⟨Fr_I hF (h _ _ (by omega)), Fr_I hF (h _ _ (by omega)), Fr_I hF (h _ _ (by omega))⟩⟩
theorem nc_out {u0 : St} {S nb nf MD f b : Nat} {K : List Lt} (hM : MD ≤ 24000) (hf : f ≤ 1188) (hb : b ≤ 19800) (hK : K.length ≤ 12) (hcl : cl K ≤ 200) (r : List Lt) : ∀ (Kd : List Lt) (F : Nat) (v : St), K = Kd ++ r → 50000 * (r.length + 1) < F → NCe u0 v S nb nf → KPr u0 v S nb nf MD K → LDr v f b Kd → ∃ v', fX12_newClause_L1 F 0 (zI K.length) (zI (cl K)) (zI (sns [] (fl Kd)).length) (zI Kd.length) 0 0 0 0 0 0 v = fX12_newClause_L0 FU 0 (zI (cl K)) (zI (sns [] (fl K)).length) (zI ((b : Int) + cl K - 1)) 0 0 v' ∧ LDr v' f b K ∧ RTk v v' 101 f b ∧ Fr Pno v v' := by
  induction r with
  | nil =>
    intro Kd F v hKd hF hE hKP hL
    rw [List.append_nil] at hKd
    subst hKd
    obtain ⟨F1, rfl⟩ : ∃ F1, F = F1 + 1 := ⟨F - 1, by omega⟩
    refine ⟨v, ?_, hL, ⟨fun _ _ => ⟨rfl, rfl, rfl⟩, fun _ _ => ⟨rfl, rfl⟩, fun _ _ => ⟨rfl, rfl, rfl⟩⟩, Fr_rfl _ _⟩
    have sx : fX12_newClause_L1 (F1 + 1) 0 (zI K.length) (zI (cl K)) (zI (sns [] (fl K)).length) (zI K.length) 0 0 0 0 0 0 v = fX12_newClause_L1_0 (fX12_newClause_L1 F1) (zI K.length) (zI (cl K)) (zI (sns [] (fl K)).length) (zI K.length) v := rfl
    rw [sx]
    unfold fX12_newClause_L1_0
    rw [if_pos (by rw [z_le (by omega) (by omega) (by omega) (by omega)]; omega), lt_e, gI_z v 100 17, hL.2.2.1, show (1 : Int32) = zI 1 from rfl, z_sub, show ((b + cl K : Nat) : Int) - 1 = (b : Int) + cl K - 1 by omega]
  | cons l r ih =>
    intro Kd F v hKd hF hE hKP hL
    simp only [List.length_cons] at hF
    obtain ⟨F1, rfl⟩ : ∃ F1, F = F1 + 1 := ⟨F - 1, by omega⟩
    have hlen : K.length = Kd.length + (r.length + 1) := by rw [hKd]; simp
    have hget : K[Kd.length]? = some l := by rw [hKd, List.getElem?_append_right (Nat.le_refl _), Nat.sub_self]; rfl
    obtain ⟨g, g1, g2, g3, g4, g5, p, g6, g7, g8, g9, g10, g11⟩ := hKP _ _ hget
    have hLL := hL
    obtain ⟨l1, l2, l3, l4, l5, l6⟩ := hL
    have hclK : cl K = cl Kd + (l.2.length + cl r) := by rw [hKd, cl_app]; rfl
    obtain ⟨va, hva⟩ : ∃ va, uI v 109 (f + Kd.length) (zI l.1) = va := ⟨_, rfl⟩
    have Fa : Fr (fun k _ => k == 109) v va := by rw [← hva]; exact Fr_up rfl (Fr_rfl _ _)
    obtain ⟨vb, hvb⟩ : ∃ vb, uI va 110 (f + Kd.length) (zI ((b + cl Kd : Nat) : Int)) = vb := ⟨_, rfl⟩
    have Fb : Fr (fun k _ => k == 110) va vb := by rw [← hvb]; exact Fr_up rfl (Fr_rfl _ _)
    obtain ⟨vc, hvc⟩ : ∃ vc, uI vb 100 14 (zI ((f + Kd.length + 1 : Nat) : Int)) = vc := ⟨_, rfl⟩
    have Fc : Fr (fun k i => k == 100 && i == 14) vb vc := by rw [← hvc]; exact Fr_up rfl (Fr_rfl _ _)
    have F0 : Fr (fun k i => k == 109 || k == 110 || (k == 100 && i == 14)) v vc := Fr_tr (Fr_up2 (fun k i hk => by simp at hk; simp [hk]) Fa) (Fr_tr (Fr_up2 (fun k i hk => by simp at hk; simp [hk]) Fb) (Fr_up2 (fun k i hk => by simp at hk; simp [hk]) Fc))
    have hsl := sns_len (fl Kd) ([] : List Int)
    rw [fl_len] at hsl
    simp only [List.length_nil] at hsl
    have sx : fX12_newClause_L1 (F1 + 1) 0 (zI K.length) (zI (cl K)) (zI (sns [] (fl Kd)).length) (zI Kd.length) 0 0 0 0 0 0 v = fX12_newClause_L1 F1 1 (zI K.length) (zI (cl K)) (zI (sns [] (fl Kd)).length) (zI Kd.length) (zI g) (zI p) 0 0 0 0 vc := by
      have sy : fX12_newClause_L1 (F1 + 1) 0 (zI K.length) (zI (cl K)) (zI (sns [] (fl Kd)).length) (zI Kd.length) 0 0 0 0 0 0 v = fX12_newClause_L1_0 (fX12_newClause_L1 F1) (zI K.length) (zI (cl K)) (zI (sns [] (fl Kd)).length) (zI Kd.length) v := rfl
      rw [sy]
      unfold fX12_newClause_L1_0
      rw [if_neg (by rw [z_le (by omega) (by omega) (by omega) (by omega)]; omega), ld_z _ _ _ _ (by omega) (by omega), bd_s, Int.toNat_natCast, g1, ld_z _ _ _ _ (by omega) (by omega), bd_s, Int.toNat_natCast, g5, zb_z g4, bd_s, gI_z v 100 14, l2, st_z _ _ _ _ _ (by omega) (by omega), bd_s, Int.toNat_natCast, hva, gI_z va 100 14, Fr_I Fa rfl, l2, gI_z va 100 17, Fr_I Fa rfl, l3, st_z _ _ _ _ _ (by omega) (by omega), bd_s, Int.toNat_natCast, hvb, gI_z vb 100 14, Fr_I Fb rfl, Fr_I Fa rfl, l2, show (zI ((f + Kd.length : Nat) : Int) + 1 : Int32) = zI ((f + Kd.length + 1 : Nat) : Int) by rw [show (1 : Int32) = zI 1 from rfl, z_add]; rfl, lt_e, hvc, ld_z _ _ _ _ (by omega) (by omega), bd_s, Int.toNat_natCast, Fr_I F0 rfl, g6]
    obtain ⟨v1, F2, a1, a2, a3, a4, a5, a6, a7, a8⟩ := nc_in (u0 := u0) (S := S) (nb := nb) (nf := nf) (g := g) (e := p + l.2.length) (zI K.length) (zI (cl K)) (zI Kd.length) g3 (by omega) l.2 (sns [] (fl Kd)) p (b + cl Kd) F1 vc (NCe_fr F0 (fun _ => rfl) rfl hE) rfl (by omega) (by rw [Fr_I F0 rfl]; exact g7) (RWl_eq _ _ (fun q _ _ => Fr_I F0 rfl) g9) (fun z hz => CVl_fr F0 (fun _ => rfl) (g10 z hz)) (by rw [Fr_I F0 rfl]; exact l3) (RWl_eq _ _ (fun q _ _ => Fr_I F0 rfl) l6) (by omega) (by omega)
    obtain ⟨F3, rfl⟩ : ∃ F3, F2 = F3 + 1 := ⟨F2 - 1, by omega⟩
    have FF : Fr Pno v v1 := Fr_tr (Fr_up2 (fun k i hk => by simp at hk; simp [Pno]; omega) F0) (Fr_up2 (fun k i hk => by simp [Pnc] at hk; simp [Pno]; omega) a8)
    have hflK : fl (Kd ++ [l]) = fl Kd ++ l.2 := by rw [fl_app]; simp [fl]
    have hl1 : (Kd ++ [l]).length = Kd.length + 1 := by simp
    have hc1 : cl (Kd ++ [l]) = cl Kd + l.2.length := by rw [cl_app]; simp [cl]
    have hst : fX12_newClause_L1 (F3 + 1) 1 (zI K.length) (zI (cl K)) (zI (sns (sns [] (fl Kd)) l.2).length) (zI Kd.length) (zI g) (zI ((p + l.2.length : Nat) : Int)) 0 0 0 0 v1 = fX12_newClause_L1 F3 0 (zI K.length) (zI (cl K)) (zI (sns (sns [] (fl Kd)) l.2).length) (zI ((Kd.length + 1 : Nat) : Int)) 0 0 0 0 0 0 v1 := by
      have sy : fX12_newClause_L1 (F3 + 1) 1 (zI K.length) (zI (cl K)) (zI (sns (sns [] (fl Kd)) l.2).length) (zI Kd.length) (zI g) (zI ((p + l.2.length : Nat) : Int)) 0 0 0 0 v1 = fX12_newClause_L1_1 (fX12_newClause_L1 F3) (zI K.length) (zI (cl K)) (zI (sns (sns [] (fl Kd)) l.2).length) (zI Kd.length) (zI g) (zI ((p + l.2.length : Nat) : Int)) v1 := rfl
      rw [sy]
      unfold fX12_newClause_L1_1
      rw [ld_z _ _ _ _ (by omega) (by omega), bd_s, Int.toNat_natCast, Fr_I FF rfl, g7, if_pos (by rw [z_le (by omega) (by omega) (by omega) (by omega)]; omega), lt_e, show (zI (Kd.length : Int) + 1 : Int32) = zI ((Kd.length + 1 : Nat) : Int) by rw [show (1 : Int32) = zI 1 from rfl, z_add]; rfl]
    have g109 : ∀ i, I v1 109 i = if i = f + Kd.length then l.1 else I v 109 i := by
      intro i
      rw [Fr_I a8 rfl, Fr_I Fc rfl, Fr_I Fb rfl, ← hva, I_uI _ _ _ _ (by omega) (by omega)]
      by_cases hi : i = f + Kd.length
      · rw [if_pos ⟨rfl, hi⟩, if_pos hi]
      · rw [if_neg (fun hh => hi hh.2), if_neg hi]
    have g110 : ∀ i, I v1 110 i = if i = f + Kd.length then ((b + cl Kd : Nat) : Int) else I v 110 i := by
      intro i
      rw [Fr_I a8 rfl, Fr_I Fc rfl, ← hvb, I_uI _ _ _ _ (by omega) (by omega)]
      by_cases hi : i = f + Kd.length
      · rw [if_pos ⟨rfl, hi⟩, if_pos hi]
      · rw [if_neg (fun hh => hi hh.2), if_neg hi, Fr_I Fa rfl]
    have hLD : LDr v1 f b (Kd ++ [l]) := by
      refine ⟨fun i a hi => ?_, ?_, ?_, ?_, ?_, ?_⟩
      · have hil := get_lt hi
        rw [hl1] at hil
        by_cases hid : i < Kd.length
        · rw [List.getElem?_append_left hid] at hi
          rw [g109, g110, if_neg (by omega), if_neg (by omega), List.take_append_of_le_length (by omega)]; exact l1 i a hi
        · have : i = Kd.length := by omega
          subst this
          rw [List.getElem?_append_right (Nat.le_refl _), Nat.sub_self] at hi
          have : l = a := by simpa using hi
          subst this
          rw [g109, g110, if_pos rfl, if_pos rfl, List.take_append_of_le_length (Nat.le_refl _), List.take_length]; exact ⟨rfl, rfl⟩
      · rw [Fr_I a8 rfl, ← hvc, hl1, ← Nat.add_assoc]; exact I_uI1 _ _ _ _ (by omega) (by omega)
      · rw [a5, hc1, ← Nat.add_assoc]
      · rw [hflK, rnc_app, List.map_append]
        refine RWl_app _ _ _ (RWl_eq _ _ (fun i _ hi => ?_) l4) ?_
        · rw [List.length_map, rnc_len, fl_len] at hi
          rw [(a7 i (by omega)).1, Fr_I F0 rfl]
        · rw [List.length_map, rnc_len, fl_len]; exact a3
      · rw [hflK, List.map_append]
        refine RWl_app _ _ _ (RWl_eq _ _ (fun i _ hi => ?_) l5) ?_
        · rw [List.length_map, fl_len] at hi
          rw [(a7 i (by omega)).2, Fr_I F0 rfl]
        · rw [List.length_map, fl_len]; exact a4
      · rw [hflK, sns_app]; exact a6
    have hKP' : KPr u0 v1 S nb nf MD K := by
      intro j a ha
      obtain ⟨g', x1, x2⟩ := hKP j a ha
      exact ⟨g', by rw [Fr_I FF rfl]; exact x1, LTr_fr FF (fun k i hk => by simp [Pno]; omega) x2⟩
    have hRT : RTk v v1 101 f b := ⟨fun i _ => ⟨Fr_I FF rfl, Fr_I FF rfl, Fr_I FF rfl⟩, fun i hi => ⟨by rw [g109, if_neg (by omega)], by rw [g110, if_neg (by omega)]⟩, fun i hi => ⟨by rw [(a7 i (by omega)).1, Fr_I F0 rfl], Fr_I FF rfl, by rw [(a7 i (by omega)).2, Fr_I F0 rfl]⟩⟩
    obtain ⟨v', q1, q2, q3, q4⟩ := ih (Kd ++ [l]) F3 v1 (by rw [hKd]; simp) (by omega) (NCe_fr FF (fun _ => rfl) rfl hE) hKP' hLD
    refine ⟨v', ?_, q2, RTk_tr (Nat.le_refl _) (Nat.le_refl _) (Nat.le_refl _) hRT q3, Fr_tr FF q4⟩
    rw [sx, a2, hst, ← q1, hl1, hflK, sns_app]
theorem WT_drop (A : List Nat) : ∀ n i, WT A n → ∃ m, WT (A.drop i) m := by
  induction A with
  | nil => intro n i h; exact ⟨n, by simpa using h⟩
  | cons a A ih =>
    intro n i h
    cases i with
    | zero => exact ⟨n, h⟩
    | succ i => exact ih _ i h.2
/-- the end of one term is reckoned -/
theorem be_in {v : St} {b p a m : Nat} {A l : List Nat} (x4 x5 : Int32) (hp1 : b ≤ p) (hp2 : p < b + A.length) (hN : b + A.length ≤ 20400) (hA : A.drop (p - b) = a :: l) (hW : WT (a :: l) m) (ha : a ≤ 7) (h113 : I v 113 p = a) (hbe : ∀ p', p < p' → p' < b + A.length → I v 112 p' = ((p' + tk (A.drop (p' - b)) 1 : Nat) : Int)) (d : Nat) : ∀ (k F : Nat), k + d = a → d < F → ∃ F', F ≤ F' + d + 1 ∧ fX12_newClause_L0 F 1 x4 x5 (zI p) (zI ((p + 1 + tk l k : Nat) : Int)) (zI k) v = fX12_newClause_L0 F' 0 x4 x5 (zI ((p : Int) - 1)) 0 0 (uI v 112 p (zI ((p + tk (A.drop (p - b)) 1 : Nat) : Int))) := by
  have hal : A.length = p - b + (l.length + 1) := by
    have := congrArg List.length hA
    rw [List.length_drop, List.length_cons] at this; omega
  induction d with
  | zero =>
    intro k F hk hF
    obtain ⟨F1, rfl⟩ : ∃ F1, F = F1 + 1 := ⟨F - 1, by omega⟩
    refine ⟨F1, by omega, ?_⟩
    have sx : fX12_newClause_L0 (F1 + 1) 1 x4 x5 (zI p) (zI ((p + 1 + tk l k : Nat) : Int)) (zI k) v = fX12_newClause_L0_1 (fX12_newClause_L0 F1) x4 x5 (zI p) (zI ((p + 1 + tk l k : Nat) : Int)) (zI k) v := rfl
    have hka : k = a := by omega
    rw [sx]
    unfold fX12_newClause_L0_1
    rw [ld_z _ _ _ _ (by omega) (by omega), bd_s, Int.toNat_natCast, h113, if_pos (by rw [z_le (by omega) (by omega) (by omega) (by omega)]; omega), st_z _ _ _ _ _ (by omega) (by omega), bd_s, Int.toNat_natCast, lt_e, show (-1 : Int32) = zI (-1) from rfl, z_add, hA, hka]
    have e1 : p + 1 + tk l a = p + tk (a :: l) 1 := by simp only [tk]; rw [Nat.zero_add]; omega
    rw [e1]; rfl
  | succ d ih =>
    intro k F hk hF
    obtain ⟨F1, rfl⟩ : ∃ F1, F = F1 + 1 := ⟨F - 1, by omega⟩
    have hw1 := hW.1
    have hW2 := WT_tk l (m - 1 + a) k hW.2 (by omega)
    obtain ⟨a', l', hl'⟩ := WT_ne hW2 (by omega)
    have htl : tk l k < l.length := by
      rcases Nat.lt_or_ge (tk l k) l.length with h | h
      · exact h
      · rw [List.drop_of_length_le h] at hl'; cases hl'
    have hdr : A.drop (p + 1 + tk l k - b) = l.drop (tk l k) := by
      rw [show p + 1 + tk l k - b = (p - b) + (1 + tk l k) by omega, ← List.drop_drop, hA, show 1 + tk l k = tk l k + 1 by omega, List.drop_succ_cons]
    have hb2 := hbe (p + 1 + tk l k) (by omega) (by omega)
    rw [hdr] at hb2
    have e2 : p + 1 + tk l k + tk (l.drop (tk l k)) 1 = p + 1 + tk l (k + 1) := by rw [tk_add]; omega
    rw [e2] at hb2
    have sx : fX12_newClause_L0 (F1 + 1) 1 x4 x5 (zI p) (zI ((p + 1 + tk l k : Nat) : Int)) (zI k) v = fX12_newClause_L0_1 (fX12_newClause_L0 F1) x4 x5 (zI p) (zI ((p + 1 + tk l k : Nat) : Int)) (zI k) v := rfl
    obtain ⟨F', q1, q2⟩ := ih (k + 1) F1 (by omega) (by omega)
    refine ⟨F', by omega, ?_⟩
    rw [sx]
    unfold fX12_newClause_L0_1
    rw [ld_z _ _ _ _ (by omega) (by omega), bd_s, Int.toNat_natCast, h113, if_neg (by rw [z_le (by omega) (by omega) (by omega) (by omega)]; omega), ld_z _ _ _ _ (by omega) (by omega), bd_s, Int.toNat_natCast, hb2, lt_e, show (zI (k : Int) + 1 : Int32) = zI ((k + 1 : Nat) : Int) by rw [show (1 : Int32) = zI 1 from rfl, z_add]; rfl]
    exact q2
/-- the ends of all terms of a clause -/
theorem be_out {b n : Nat} {A : List Nat} (x5 : Int32) (hb : b ≤ 19800) (hAl : A.length ≤ 200) (hW : WT A n) (hA7 : ∀ a, a ∈ A → a ≤ 7) (j : Nat) : ∀ (F : Nat) (v : St), j ≤ A.length → 20 * j < F → I v 100 17 = ((b + A.length : Nat) : Int) → (∀ i a, A[i]? = some a → I v 113 (b + i) = (a : Nat)) → (∀ p, b + j ≤ p → p < b + A.length → I v 112 p = ((p + tk (A.drop (p - b)) 1 : Nat) : Int)) → ∃ (v' : St) (F' : Nat), F ≤ F' + 20 * j ∧ fX12_newClause_L0 F 0 (zI A.length) x5 (zI ((b : Int) + j - 1)) 0 0 v = fX12_newClause_L0 F' 0 (zI A.length) x5 (zI ((b : Int) - 1)) 0 0 v' ∧ (∀ p, b ≤ p → p < b + A.length → I v' 112 p = ((p + tk (A.drop (p - b)) 1 : Nat) : Int)) ∧ (∀ p, p < b → I v' 112 p = I v 112 p) ∧ Fr (fun k _ => k == 112) v v' := by
  induction j with
  | zero => intro F v hj hF h17 h113 hbe; exact ⟨v, F, by omega, by simp, fun p h1 h2 => hbe p (by omega) h2, fun _ _ => rfl, Fr_rfl _ _⟩
  | succ j ih =>
    intro F v hj hF h17 h113 hbe
    obtain ⟨F1, rfl⟩ : ∃ F1, F = F1 + 1 := ⟨F - 1, by omega⟩
    obtain ⟨a, ha⟩ : ∃ a, A[j]? = some a := ⟨A[j]'(by omega), List.getElem?_eq_getElem (by omega)⟩
    have hal : A.drop (b + j - b) = a :: A.drop (j + 1) := by
      rw [show b + j - b = j by omega, List.drop_eq_getElem_cons (by omega)]
      have : A[j]'(by omega) = a := by
        rw [List.getElem?_eq_getElem (by omega)] at ha; exact Option.some.inj ha
      rw [this]
    obtain ⟨m, hm⟩ := WT_drop A n j hW
    have hm' : WT (a :: A.drop (j + 1)) m := by rw [← hal, show b + j - b = j by omega]; exact hm
    have ha7 := hA7 a (List.mem_iff_getElem?.2 ⟨j, ha⟩)
    have sx : fX12_newClause_L0 (F1 + 1) 0 (zI A.length) x5 (zI ((b : Int) + (j + 1 : Nat) - 1)) 0 0 v = fX12_newClause_L0_0 (fX12_newClause_L0 F1) (zI A.length) x5 (zI ((b : Int) + (j + 1 : Nat) - 1)) v := rfl
    have hst : fX12_newClause_L0_0 (fX12_newClause_L0 F1) (zI A.length) x5 (zI ((b : Int) + (j + 1 : Nat) - 1)) v = fX12_newClause_L0 F1 1 (zI A.length) x5 (zI ((b + j : Nat) : Int)) (zI ((b + j + 1 + tk (A.drop (j + 1)) 0 : Nat) : Int)) (zI (0 : Nat)) v := by
      unfold fX12_newClause_L0_0
      rw [gI_z v 100 17, h17, z_sub, if_neg (by rw [z_lt (by omega) (by omega) (by omega) (by omega)]; omega), lt_e, lt_e, show (1 : Int32) = zI 1 from rfl, z_add, tk_zero, show (b : Int) + ((j + 1 : Nat) : Int) - 1 = ((b + j : Nat) : Int) by omega]
      rfl
    obtain ⟨F2, q1, q2⟩ := be_in (v := v) (b := b) (p := b + j) (a := a) (m := m) (A := A) (l := A.drop (j + 1)) (zI A.length) x5 (by omega) (by omega) (by omega) hal hm' ha7 (h113 j a ha) (fun p' h1 h2 => hbe p' (by omega) h2) a 0 F1 (by omega) (by omega)
    obtain ⟨va, hva⟩ : ∃ va, uI v 112 (b + j) (zI ((b + j + tk (A.drop (b + j - b)) 1 : Nat) : Int)) = va := ⟨_, rfl⟩
    have Fa : Fr (fun k _ => k == 112) v va := by rw [← hva]; exact Fr_up rfl (Fr_rfl _ _)
    rw [hva] at q2
    have htk := tk_le (A.drop (b + j - b)) 1
    rw [List.length_drop] at htk
    obtain ⟨v', F', r1, r2, r3, r4, r5⟩ := ih F2 va (by omega) (by omega) (by rw [Fr_I Fa rfl]; exact h17) (fun i x hx => by rw [Fr_I Fa rfl]; exact h113 i x hx) (fun p h1 h2 => by
      rw [← hva, I_uI _ _ _ _ (by omega) (by omega)]
      by_cases hp : p = b + j
      · subst hp; rw [if_pos ⟨rfl, rfl⟩]
      · rw [if_neg (fun hh => hp hh.2)]; exact hbe p (by omega) h2)
    refine ⟨v', F', by omega, ?_, r3, fun p hp => by rw [r4 p hp, ← hva, I_uI2 _ _ _ _ _ _ (by omega)], Fr_tr Fa r5⟩
    rw [sx, hst, q2, show ((b + j : Nat) : Int) - 1 = (b : Int) + j - 1 by omega, r2]
