/-! reading: parts are joined, in the reference -/
def OV (T0 M0 : Nat) (x : Cs) : Prop := 600 < T0 + x.length ∨ 6000 < M0 + mb x ∨ ∃ c, c ∈ x ∧ 12 < c.length
def DT (v : St) (G : List Cs) (M0 T0 a : Nat) (Y : Cs) : Prop := ∃ sa : Nat, a < 6100 ∧ I v 136 a = sa ∧ I v 137 a = Y.length ∧ sa + Y.length ≤ T0 ∧ SEr v G M0 sa Y
theorem DT_fw {v v' : St} {G : List Cs} {M0 T0 a : Nat} {Y : Cs} (h : FWr v v' M0 T0) (hD : DT v G M0 T0 a Y) : DT v' G M0 T0 a Y := by
  obtain ⟨sa, a1, a2, a3, a4, a5⟩ := hD
  exact ⟨sa, a1, by rw [Fr_I h.1 rfl]; exact a2, by rw [Fr_I h.1 rfl]; exact a3, a4, SEr_mono (fun _ => Fr_I h.1 rfl) h.2.1 (Nat.le_refl _) Y sa (fun i _ h2 => h.2.2 i (by omega)) a5⟩
theorem take_one {α : Type} {l : List α} {k : Nat} {c : α} (h : l[k]? = some c) : l.take (k + 1) = l.take k ++ [c] := by
  rw [List.take_succ, h]; rfl
theorem mb_take (x : Cs) (k : Nat) : mb (x.take k) ≤ mb x := by
  have := mb_app (x.take k) (x.drop k)
  rw [List.take_append_drop] at this; omega
theorem OV_len {T0 M0 : Nat} {x : Cs} {k : Nat} {c : List Lt} (hk : x[k]? = some c) (h : T0 + (x.take k).length = 600) : OV T0 M0 x := by
  have := get_lt hk
  rw [List.length_take] at h
  exact Or.inl (by omega)
theorem OV_mb {T0 M0 : Nat} {x : Cs} {k : Nat} {c : List Lt} (hk : x[k]? = some c) (h : 6000 < M0 + mb (x.take k) + c.length ∨ 12 < c.length) : OV T0 M0 x := by
  rcases h with h | h
  · refine Or.inr (Or.inl ?_)
    have h1 := mb_take x (k + 1)
    rw [take_one hk, mb_app] at h1
    simp only [mb] at h1; omega
  · exact Or.inr (Or.inr ⟨c, List.mem_iff_getElem?.2 ⟨k, hk⟩, h⟩)
theorem dand_big (Fu a b : Nat) (k : Int32) (v : St) (ha : a < 6100) (hb : b < 6100) (h : I v 100 47 = 1) : fX12_distributeOne_L1 (Fu + 1) 0 (zI a) (zI b) k v = some v := by
  have sx : fX12_distributeOne_L1 (Fu + 1) 0 (zI a) (zI b) k v = fX12_distributeOne_L1_0 (fX12_distributeOne_L1 Fu) (zI a) (zI b) k v := rfl
  rw [sx]
  unfold fX12_distributeOne_L1_0
  rw [ld_z _ _ _ _ (by omega) (by omega), bd_s, ld_z _ _ _ _ (by omega) (by omega), bd_s, gI_z v 100 47, h, if_neg (show ¬ zI 1 = 0 by decide), ite_self]
/-- parts of & -/
theorem dand {G : List Cs} {M0 T0 a b : Nat} {Y Z : Cs} (hT0 : T0 ≤ 600) (hM0 : M0 ≤ 6000) (d : Nat) : ∀ (k Fu : Nat) (v : St), k + d = (Y ++ Z).length → DT v G M0 T0 a Y → DT v G M0 T0 b Z → PB0 v G M0 T0 ((Y ++ Z).take k) → ∃ v', fX12_distributeOne_L1 (Fu + (d + 1)) 0 (zI a) (zI b) (zI k) v = some v' ∧ FWr v v' M0 T0 ∧ (PB0 v' G M0 T0 (Y ++ Z) ∨ (I v' 100 47 = 1 ∧ OV T0 M0 (Y ++ Z))) := by
  induction d with
  | zero =>
    intro k Fu v hk hY hZ h
    rw [List.take_of_length_le (by omega)] at h
    rw [List.length_append] at hk
    obtain ⟨sa, a1, a2, a3, a4, a5⟩ := hY
    obtain ⟨sb', b1, b2, b3, b4, b5⟩ := hZ
    refine ⟨v, ?_, FWr_rfl _ _ _, Or.inl h⟩
    have sx : fX12_distributeOne_L1 (Fu + (0 + 1)) 0 (zI a) (zI b) (zI k) v = fX12_distributeOne_L1_0 (fX12_distributeOne_L1 Fu) (zI a) (zI b) (zI k) v := rfl
    rw [sx]
    unfold fX12_distributeOne_L1_0
    rw [ld_z _ _ _ _ (by omega) (by omega), bd_s, ld_z _ _ _ _ (by omega) (by omega), bd_s, Int.toNat_natCast, Int.toNat_natCast, a3, b3, z_add, if_pos (by rw [z_le (by omega) (by omega) (by omega) (by omega)]; omega)]
  | succ d ih =>
    intro k Fu v hk hY hZ h
    have hkl : k < (Y ++ Z).length := by omega
    obtain ⟨c, hc⟩ : ∃ c, (Y ++ Z)[k]? = some c := ⟨(Y ++ Z)[k], List.getElem?_eq_getElem hkl⟩
    have hlt : ((Y ++ Z).take k).length = k := by rw [List.length_take]; omega
    have hl2 : (Y ++ Z).length = Y.length + Z.length := List.length_append
    have hY' := hY
    have hZ' := hZ
    obtain ⟨sa, a1, a2, a3, a4, a5⟩ := hY
    obtain ⟨sb', b1, b2, b3, b4, b5⟩ := hZ
    obtain ⟨v1, n1, n2, n3⟩ := nw_spec h
    have sx : fX12_distributeOne_L1 (Fu + (d + 1 + 1)) 0 (zI a) (zI b) (zI k) v = fX12_distributeOne_L1_0 (fX12_distributeOne_L1 (Fu + (d + 1))) (zI a) (zI b) (zI k) v := rfl
    -- the way that is copied
    obtain ⟨w, hw, hcw⟩ : ∃ w : Nat, w = (if k < Y.length then sa + k else sb' + (k - Y.length)) ∧ CLr v G M0 w c ∧ w < T0 := by
      by_cases hkY : k < Y.length
      · rw [List.getElem?_append_left hkY] at hc
        exact ⟨_, rfl, by rw [if_pos hkY]; exact ⟨SEr_get Y sa k c a5 hc, by omega⟩⟩
      · rw [List.getElem?_append_right (by omega)] at hc
        exact ⟨_, rfl, by rw [if_neg hkY]; exact ⟨SEr_get Z sb' _ c b5 hc, by omega⟩⟩
    have hstep : fX12_distributeOne_L1 (Fu + (d + 1 + 1)) 0 (zI a) (zI b) (zI k) v = bd (fX12_appendAll (zI w) v1) fun u28 => fX12_distributeOne_L1 (Fu + (d + 1)) 0 (zI a) (zI b) (zI ((k + 1 : Nat) : Int)) u28 := by
      rw [sx]
      unfold fX12_distributeOne_L1_0
      rw [ld_z _ _ _ _ (by omega) (by omega), bd_s, ld_z _ _ _ _ (by omega) (by omega), bd_s, Int.toNat_natCast, Int.toNat_natCast, a3, b3, z_add, if_neg (by rw [z_le (by omega) (by omega) (by omega) (by omega)]; omega), gI_z v 100 47, h.1, if_pos (show zI 0 = 0 from rfl), n1, bd_s, ld_z _ _ _ _ (by omega) (by omega), bd_s, Int.toNat_natCast, Fr_I n2.1 rfl, a3, show (zI (k : Int) + 1 : Int32) = zI ((k + 1 : Nat) : Int) by rw [show (1 : Int32) = zI 1 from rfl, z_add]; rfl]
      by_cases hkY : k < Y.length
      · rw [if_neg (by rw [z_le (by omega) (by omega) (by omega) (by omega)]; omega), ld_z _ _ _ _ (by omega) (by omega), bd_s, Int.toNat_natCast, Fr_I n2.1 rfl, a2, z_add, hw, if_pos hkY]; rfl
      · rw [if_pos (by rw [z_le (by omega) (by omega) (by omega) (by omega)]; omega), ld_z _ _ _ _ (by omega) (by omega), bd_s, bd_s, Int.toNat_natCast, Fr_I n2.1 rfl, b2, z_add, z_sub, hw, if_neg hkY, show (sb' : Int) + (k : Int) - (Y.length : Int) = ((sb' + (k - Y.length) : Nat) : Int) by omega]; rfl
    rw [hstep]
    rcases n3 with ⟨n4, n5⟩ | ⟨n4, n5⟩
    · obtain ⟨v2, p1, p2, p3⟩ := apw hT0 hcw.2 hM0 n5 (CLr_fw n2 hcw.2 hcw.1)
      rw [p1, bd_s]
      have hF := FWr_tr n2 p2
      rcases p3 with ⟨p4, p5, p6⟩ | ⟨p4, p5⟩
      · rw [List.nil_append] at p6
        have hE := endw p6
        rw [← take_one hc] at hE
        obtain ⟨v3, q1, q2, q3⟩ := ih (k + 1) Fu v2 (by omega) (DT_fw hF hY') (DT_fw hF hZ') hE
        exact ⟨v3, q1, FWr_tr hF q2, q3⟩
      · simp only [List.length_nil, Nat.add_zero, Nat.zero_add] at p4
        exact ⟨v2, dand_big _ _ _ _ _ a1 b1 p5, hF, Or.inr ⟨p5, OV_mb hc p4⟩⟩
    · rw [apw_big _ _ n5, bd_s]
      exact ⟨v1, dand_big _ _ _ _ _ a1 b1 n5, n2, Or.inr ⟨n5, OV_len hc n4⟩⟩
theorem dor_big (Fu a b : Nat) (k : Int32) (v : St) (ha : a < 6100) (h : I v 100 47 = 1) : fX12_distributeOne_L0 (Fu + 1) 0 (zI a) (zI b) k 0 v = some v := by
  have sx : fX12_distributeOne_L0 (Fu + 1) 0 (zI a) (zI b) k 0 v = fX12_distributeOne_L0_0 (fX12_distributeOne_L0 Fu) (zI a) (zI b) k v := rfl
  rw [sx]
  unfold fX12_distributeOne_L0_0
  rw [ld_z _ _ _ _ (by omega) (by omega), bd_s, gI_z v 100 47, h, if_neg (show ¬ zI 1 = 0 by decide), ite_self]
theorem dor_big1 (Fu a b : Nat) (k j : Int32) (v : St) (ha : a < 6100) (hb : b < 6100) (h : I v 100 47 = 1) : fX12_distributeOne_L0 (Fu + 2) 1 (zI a) (zI b) k j v = some v := by
  have sx : fX12_distributeOne_L0 (Fu + 1 + 1) 1 (zI a) (zI b) k j v = fX12_distributeOne_L0_1 (fX12_distributeOne_L0 (Fu + 1)) (zI a) (zI b) k j v := rfl
  rw [show Fu + 2 = Fu + 1 + 1 by omega, sx]
  unfold fX12_distributeOne_L0_1
  rw [ld_z _ _ _ _ (by omega) (by omega), bd_s, gI_z v 100 47, h, if_neg (show ¬ zI 1 = 0 by decide), lt_e, ite_self]
  exact dor_big Fu a b _ v ha h
/-- one clause of the left part with all of the right -/
theorem din {G : List Cs} {M0 T0 a b i sa : Nat} {P Z : Cs} {ca : List Lt} (hT0 : T0 ≤ 600) (hM0 : M0 ≤ 6000) (ha : a < 6100) (hi : sa + i < T0) (d : Nat) : ∀ (k Fu : Nat) (v : St), k + d = Z.length → I v 136 a = sa → CLr v G M0 (sa + i) ca → DT v G M0 T0 b Z → PB0 v G M0 T0 (P ++ (Z.take k).map (fun c => ca ++ c)) → ∃ v', FWr v v' M0 T0 ∧ ((fX12_distributeOne_L0 (Fu + 1 + (d + 1)) 1 (zI a) (zI b) (zI i) (zI k) v = fX12_distributeOne_L0 (Fu + 1) 0 (zI a) (zI b) (zI ((i + 1 : Nat) : Int)) 0 v' ∧ PB0 v' G M0 T0 (P ++ Z.map (fun c => ca ++ c))) ∨ (fX12_distributeOne_L0 (Fu + 1 + (d + 1)) 1 (zI a) (zI b) (zI i) (zI k) v = some v' ∧ I v' 100 47 = 1 ∧ OV T0 M0 (P ++ Z.map (fun c => ca ++ c)))) := by
  induction d with
  | zero =>
    intro k Fu v hk h136 hca hZ h
    rw [List.take_of_length_le (by omega)] at h
    obtain ⟨sb', b1, b2, b3, b4, b5⟩ := hZ
    refine ⟨v, FWr_rfl _ _ _, Or.inl ⟨?_, h⟩⟩
    have sx : fX12_distributeOne_L0 (Fu + 1 + (0 + 1)) 1 (zI a) (zI b) (zI i) (zI k) v = fX12_distributeOne_L0_1 (fX12_distributeOne_L0 (Fu + 1)) (zI a) (zI b) (zI i) (zI k) v := rfl
    rw [sx]
    unfold fX12_distributeOne_L0_1
    rw [ld_z _ _ _ _ (by omega) (by omega), bd_s, Int.toNat_natCast, b3, if_pos (by rw [z_le (by omega) (by omega) (by omega) (by omega)]; omega), lt_e, show (1 : Int32) = zI 1 from rfl, z_add]
    rfl
  | succ d ih =>
    intro k Fu v hk h136 hca hZ h
    have hkl : k < Z.length := by omega
    obtain ⟨c, hc⟩ : ∃ c, Z[k]? = some c := ⟨Z[k], List.getElem?_eq_getElem hkl⟩
    have hZ' := hZ
    obtain ⟨sb', b1, b2, b3, b4, b5⟩ := hZ
    have hcc : CLr v G M0 (sb' + k) c := SEr_get Z sb' k c b5 hc
    obtain ⟨v1, n1, n2, n3⟩ := nw_spec h
    have sx : fX12_distributeOne_L0 (Fu + 1 + (d + 1 + 1)) 1 (zI a) (zI b) (zI i) (zI k) v = fX12_distributeOne_L0_1 (fX12_distributeOne_L0 (Fu + 1 + (d + 1))) (zI a) (zI b) (zI i) (zI k) v := rfl
    have hstep : fX12_distributeOne_L0 (Fu + 1 + (d + 1 + 1)) 1 (zI a) (zI b) (zI i) (zI k) v = bd (fX12_appendAll (zI ((sa + i : Nat) : Int)) v1) fun u12 => bd (ld u12 136 6100 (zI b)) fun v13 => bd (fX12_appendAll (v13 + zI k) u12) fun u14 => fX12_distributeOne_L0 (Fu + 1 + (d + 1)) 1 (zI a) (zI b) (zI i) (zI ((k + 1 : Nat) : Int)) u14 := by
      rw [sx]
      unfold fX12_distributeOne_L0_1
      rw [ld_z _ _ _ _ (by omega) (by omega), bd_s, Int.toNat_natCast, b3, if_neg (by rw [z_le (by omega) (by omega) (by omega) (by omega)]; omega), gI_z v 100 47, h.1, if_pos (show zI 0 = 0 from rfl), n1, bd_s, ld_z _ _ _ _ (by omega) (by omega), bd_s, Int.toNat_natCast, Fr_I n2.1 rfl, h136, z_add]
      simp only [lt_e]
      rw [show (1 : Int32) = zI 1 from rfl, z_add]; rfl
    rw [hstep]
    -- the whole list, with k behind P
    have hget : (P ++ Z.map (fun c => ca ++ c))[P.length + k]? = some (ca ++ c) := by
      rw [List.getElem?_append_right (by omega), show P.length + k - P.length = k by omega, List.getElem?_map, hc]; rfl
    have htk : (P ++ Z.map (fun c => ca ++ c)).take (P.length + k) = P ++ (Z.take k).map (fun c => ca ++ c) := by
      rw [List.take_append, List.take_of_length_le (by omega), show P.length + k - P.length = k by omega, List.map_take]
    have htk1 : P ++ (Z.take (k + 1)).map (fun c => ca ++ c) = (P ++ (Z.take k).map (fun c => ca ++ c)) ++ [ca ++ c] := by
      rw [take_one hc, List.map_append, List.append_assoc]; rfl
    have e136 : ∀ v2, FWr v v2 M0 T0 → (bd (ld v2 136 6100 (zI b)) fun v13 => bd (fX12_appendAll (v13 + zI k) v2) fun u14 => fX12_distributeOne_L0 (Fu + 1 + (d + 1)) 1 (zI a) (zI b) (zI i) (zI ((k + 1 : Nat) : Int)) u14) = bd (fX12_appendAll (zI ((sb' + k : Nat) : Int)) v2) fun u14 => fX12_distributeOne_L0 (Fu + 1 + (d + 1)) 1 (zI a) (zI b) (zI i) (zI ((k + 1 : Nat) : Int)) u14 := by
      intro v2 hF
      rw [ld_z _ _ _ _ (by omega) (by omega), bd_s, Int.toNat_natCast, Fr_I hF.1 rfl, b2, z_add]; rfl
    rcases n3 with ⟨n4, n5⟩ | ⟨n4, n5⟩
    · obtain ⟨v2, p1, p2, p3⟩ := apw hT0 hi hM0 n5 (CLr_fw n2 hi hca)
      have hF := FWr_tr n2 p2
      rw [p1, bd_s, e136 v2 hF]
      rcases p3 with ⟨p4, p5, p6⟩ | ⟨p4, p5⟩
      · rw [List.nil_append] at p6
        obtain ⟨v3, q1, q2, q3⟩ := apw hT0 (show sb' + k < T0 by omega) hM0 p6 (CLr_fw hF (by omega) hcc)
        have hF2 := FWr_tr hF q2
        rw [q1, bd_s]
        rcases q3 with ⟨q4, q5, q6⟩ | ⟨q4, q5⟩
        · have hE := endw q6
          rw [← htk1] at hE
          obtain ⟨v4, r1, r2⟩ := ih (k + 1) Fu v3 (by omega) (by rw [Fr_I hF2.1 rfl]; exact h136) (CLr_fw hF2 hi hca) (DT_fw hF2 hZ') hE
          exact ⟨v4, FWr_tr hF2 r1, r2⟩
        · refine ⟨v3, hF2, Or.inr ⟨by rw [show Fu + 1 + (d + 1) = (Fu + d) + 2 by omega]; exact dor_big1 _ _ _ _ _ _ ha b1 q5, q5, OV_mb hget ?_⟩⟩
          rw [htk, List.length_append]; omega
      · rw [apw_big _ _ p5, bd_s]
        refine ⟨v2, hF, Or.inr ⟨by rw [show Fu + 1 + (d + 1) = (Fu + d) + 2 by omega]; exact dor_big1 _ _ _ _ _ _ ha b1 p5, p5, OV_mb hget ?_⟩⟩
        simp only [List.length_nil, Nat.add_zero, Nat.zero_add] at p4
        rw [htk, List.length_append]; omega
    · rw [apw_big _ _ n5, bd_s, e136 v1 n2, apw_big _ _ n5, bd_s]
      exact ⟨v1, n2, Or.inr ⟨by rw [show Fu + 1 + (d + 1) = (Fu + d) + 2 by omega]; exact dor_big1 _ _ _ _ _ _ ha b1 n5, n5, OV_len hget (by rw [htk]; exact n4)⟩⟩
theorem prd_take {Y Z : Cs} {k : Nat} {c : List Lt} (h : Y[k]? = some c) : prd (Y.take (k + 1)) Z = prd (Y.take k) Z ++ Z.map (fun b => c ++ b) := by
  rw [take_one h]; unfold prd; rw [List.flatMap_append]; simp
theorem OV_pre {T0 M0 : Nat} {x y : Cs} (h : OV T0 M0 x) : OV T0 M0 (x ++ y) := by
  rcases h with h | h | ⟨c, h1, h2⟩
  · exact Or.inl (by rw [List.length_append]; omega)
  · exact Or.inr (Or.inl (by rw [mb_app]; omega))
  · exact Or.inr (Or.inr ⟨c, List.mem_append_left _ h1, h2⟩)
theorem prd_split (Y Z : Cs) (k : Nat) : prd Y Z = prd (Y.take k) Z ++ prd (Y.drop k) Z := by
  unfold prd; rw [← List.flatMap_append, List.take_append_drop]
/-- parts of | -/
theorem dor {G : List Cs} {M0 T0 a b : Nat} {Y Z : Cs} (hT0 : T0 ≤ 600) (hM0 : M0 ≤ 6000) (d : Nat) : ∀ (i Fu : Nat) (v : St), i + d = Y.length → DT v G M0 T0 a Y → DT v G M0 T0 b Z → PB0 v G M0 T0 (prd (Y.take i) Z) → ∃ v', fX12_distributeOne_L0 (Fu + (d * (Z.length + 2) + 1)) 0 (zI a) (zI b) (zI i) 0 v = some v' ∧ FWr v v' M0 T0 ∧ (PB0 v' G M0 T0 (prd Y Z) ∨ (I v' 100 47 = 1 ∧ OV T0 M0 (prd Y Z))) := by
  induction d with
  | zero =>
    intro i Fu v hi hY hZ h
    rw [List.take_of_length_le (by omega)] at h
    obtain ⟨sa, a1, a2, a3, a4, a5⟩ := hY
    refine ⟨v, ?_, FWr_rfl _ _ _, Or.inl h⟩
    have sx : fX12_distributeOne_L0 (Fu + 1) 0 (zI a) (zI b) (zI i) 0 v = fX12_distributeOne_L0_0 (fX12_distributeOne_L0 Fu) (zI a) (zI b) (zI i) v := rfl
    rw [Nat.zero_mul, Nat.zero_add, sx]
    unfold fX12_distributeOne_L0_0
    rw [ld_z _ _ _ _ (by omega) (by omega), bd_s, Int.toNat_natCast, a3, if_pos (by rw [z_le (by omega) (by omega) (by omega) (by omega)]; omega)]
  | succ d ih =>
    intro i Fu v hi hY hZ h
    have hil : i < Y.length := by omega
    obtain ⟨ca, hca⟩ : ∃ c, Y[i]? = some c := ⟨Y[i], List.getElem?_eq_getElem hil⟩
    have hY' := hY
    obtain ⟨sa, a1, a2, a3, a4, a5⟩ := hY
    have e : Fu + ((d + 1) * (Z.length + 2) + 1) = (Fu + d * (Z.length + 2) + 1 + (Z.length + 1)) + 1 := by rw [Nat.succ_mul]; omega
    have sx : ∀ F, fX12_distributeOne_L0 (F + 1) 0 (zI a) (zI b) (zI i) 0 v = fX12_distributeOne_L0_0 (fX12_distributeOne_L0 F) (zI a) (zI b) (zI i) v := fun _ => rfl
    have hstep : fX12_distributeOne_L0 (Fu + ((d + 1) * (Z.length + 2) + 1)) 0 (zI a) (zI b) (zI i) 0 v = fX12_distributeOne_L0 (Fu + d * (Z.length + 2) + 1 + (Z.length + 1)) 1 (zI a) (zI b) (zI i) (zI (0 : Nat)) v := by
      rw [e, sx]
      unfold fX12_distributeOne_L0_0
      rw [ld_z _ _ _ _ (by omega) (by omega), bd_s, Int.toNat_natCast, a3, if_neg (by rw [z_le (by omega) (by omega) (by omega) (by omega)]; omega), gI_z v 100 47, h.1, if_pos (show zI 0 = 0 from rfl), lt_e]
      rfl
    rw [hstep]
    obtain ⟨v1, q1, q2⟩ := din (P := prd (Y.take i) Z) (Z := Z) (ca := ca) (a := a) (b := b) (i := i) (sa := sa) hT0 hM0 a1 (by omega) Z.length 0 (Fu + d * (Z.length + 2)) v (by omega) a2 (SEr_get Y sa i ca a5 hca) hZ (by simpa using h)
    rcases q2 with ⟨q3, q4⟩ | ⟨q3, q4, q5⟩
    · rw [q3]
      rw [← prd_take hca] at q4
      obtain ⟨v2, r1, r2, r3⟩ := ih (i + 1) Fu v1 (by omega) (DT_fw q1 hY') (DT_fw q1 hZ) q4
      exact ⟨v2, r1, FWr_tr q1 r2, r3⟩
    · refine ⟨v1, q3, q1, Or.inr ⟨q4, ?_⟩⟩
      rw [← prd_take hca] at q5
      rw [prd_split Y Z (i + 1)]; exact OV_pre q5
