/-! the reference: stands, its contract -/
theorem rstands_spec {c : Nat → Int} {e : Nat → Nat} {N : Nat} {V : Int} {T : List (Nat × Nat × Int)} {ρ : Nat → Nat} (hT : TOK c e N) (hB : BOK c e N V T ρ) (v : Int) (hv0 : 0 ≤ v) (hv1 : v < 1000) (n : Nat) (hn : n ≤ 4000) {u : St} {x : Nat × Int} (h97 : I u 100 97 = 4000 - n) (h98 : I u 100 98 = 0) (hE : RE u c e N V T) (hO : OK c e N V T ρ 220 x) (hb1 : -2147483648 ≤ x.2) (hb2 : x.2 < 2147483648) :
    ∃ u', fX12_stands (zI v) (zI x.1) (zI x.2) u = some (zI (if (stS c e T v n [x]).1 = 0 then 0 else 1), u') ∧ I u' 100 97 = (if (stS c e T v n [x]).1 = 2 then 4001 else 4000 - ((stS c e T v n [x]).2 : Int)) ∧ I u' 100 98 = (if (stS c e T v n [x]).1 = 2 then 1 else 0) ∧ Fr PRS u u' := by
  have hN := hE.1.1
  have hpN := hO.1
  have hF : Fr PRS u (uI (uI (uI u 100 116 (zI 1)) 165 0 (zI x.1)) 166 0 (zI x.2)) := Fr_up rfl (Fr_up rfl (Fr_up rfl (Fr_rfl _ _)))
  obtain ⟨u', r1, r2, r3, r4⟩ := rstands_loop hT hB v hv0 hv1 n FU (uI (uI (uI u 100 116 (zI 1)) 165 0 (zI x.1)) 166 0 (zI x.2)) [x] hn (by unfold FU; omega) (by simp; omega) (by simp (disch := omega) only [I_uI2]; exact h97) (by simp (disch := omega) only [I_uI2]; exact h98) (by simp (disch := omega) only [I_uI1, I_uI2]; rfl) (RE_PRS hF hE) ⟨by simp (disch := omega) only [I_uI1, I_uI2, List.length_nil], by simp (disch := omega) only [I_uI1, I_uI2, List.length_nil], trivial⟩ (by intro y hy; simp at hy; subst hy; exact ⟨hO, hb1, hb2⟩)
  refine ⟨u', ?_, r2, r3, Fr_tr hF r4⟩
  unfold fX12_stands
  rw [lt_e, z_zero, show (1 : Int32) = zI 1 from rfl, st_z _ _ _ _ _ (by decide) (by decide), bd_s, st_z _ _ _ _ _ (by decide) (by decide), bd_s]
  exact r1
