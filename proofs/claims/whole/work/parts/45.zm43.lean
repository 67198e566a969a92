/-! start clauses: the next one, both sides -/
theorem ns_end {u v : St} {C : Nat} {fi ps : Nat → Nat} {nv c : Nat → Int} {e : Nat → Nat} (hS : SR u v C fi ps nv c e) (F : Nat) : fX3_nextStart_L0 (F + 1) 0 (zI C) u = some (0, u) := by
  have hC := hS.1
  have st : fX3_nextStart_L0 (F + 1) 0 (zI C) u = fX3_nextStart_L0_0 (fX3_nextStart_L0 F) (zI C) u := rfl
  rw [st]
  unfold fX3_nextStart_L0_0
  rw [gI_z, hS.2.1, if_pos (by rw [z_le (by omega) (by omega) (by omega) (by omega)]; omega)]
theorem ns_step {u v : St} {C : Nat} {fi ps : Nat → Nat} {nv c : Nat → Int} {e : Nat → Nat} (hS : SR u v C fi ps nv c e) (F k : Nat) (hk : k < C) (ht : I u 9 9 = 0) : (Ps u fi k ∧ fX3_nextStart_L0 (F + 1) 0 (zI k) u = some (1, uI u 67 0 (zI k))) ∨ (¬ Ps u fi k ∧ fX3_nextStart_L0 (F + 1) 0 (zI k) u = fX3_nextStart_L0 F 0 (zI ((k + 1 : Nat) : Int)) u) := by
  have hC := hS.1
  have st : fX3_nextStart_L0 (F + 1) 0 (zI k) u = fX3_nextStart_L0_0 (fX3_nextStart_L0 F) (zI k) u := rfl
  obtain ⟨r, r1, r2⟩ := positive_spec hS k hk
  rw [st]
  generalize fX3_nextStart_L0 F = R
  unfold fX3_nextStart_L0_0
  rw [gI_z u 2 5, hS.2.1, if_neg (by rw [z_le (by omega) (by omega) (by omega) (by omega)]; omega), r1, b2_s]
  rcases r2 with ⟨h1, h2⟩ | ⟨h1, h2⟩
  · left
    subst h1
    refine ⟨h2, ?_⟩
    rw [if_neg (by decide), gI_z, ht, st_z _ _ _ _ _ (by decide) (by decide), bd_s]
    rfl
  · right
    subst h1
    refine ⟨h2, ?_⟩
    rw [if_pos q0, lt_e, show (1 : Int32) = zI 1 from rfl, z_add, show (k : Int) + 1 = ((k + 1 : Nat) : Int) by omega]
/-- what the reference does with a start clause -/
def RW (R : Nat → Int32 → Int32 → Int32 → Int32 → St → Option (Int32 × St)) (x1 k : Int32) (r17 : Int32) (u16 : St) : Option (Int32 × St) := if r17 = 0 then R 3 x1 k 0 0 u16 else some (1, u16)
theorem rc_step {u v : St} {C : Nat} {fi ps : Nat → Nat} {nv c : Nat → Int} {e : Nat → Nat} (hS : SR u v C fi ps nv c e) (x1 : Int32) (G k : Nat) (hk : k < C) (h98 : I v 100 98 = 0) (h99 : I v 100 99 = 0) : (Ps u fi k → fX12_search_L0 (G + (fi (k + 1) - fi k) + 3) 1 x1 (zI k) 0 0 v = b2 (fX12_startWith (zI k) v) (RW (fX12_search_L0 (G + 1)) x1 (zI k))) ∧ (¬ Ps u fi k → fX12_search_L0 (G + (fi (k + 1) - fi k) + 3) 1 x1 (zI k) 0 0 v = fX12_search_L0 G 1 x1 (zI ((k + 1 : Nat) : Int)) 0 0 v) := by
  have hC := hS.1
  obtain ⟨k1, k2, k3, k4, k5, k6, k7, k8, k9⟩ := hS.2.2.2.2.2.2.1 k hk
  have st1 : fX12_search_L0 (G + (fi (k + 1) - fi k) + 3) 1 x1 (zI k) 0 0 v = fX12_search_L0 (G + 1 + (fi (k + 1) - fi k) + 1) 2 x1 (zI k) (zI 1) (zI ((0 : Nat) : Int)) v := by
    have st : fX12_search_L0 (G + (fi (k + 1) - fi k) + 3) 1 x1 (zI k) 0 0 v = fX12_search_L0_1 (fX12_search_L0 (G + (fi (k + 1) - fi k) + 2)) x1 (zI k) v := rfl
    rw [st, show G + 1 + (fi (k + 1) - fi k) + 1 = G + (fi (k + 1) - fi k) + 2 by omega]
    generalize fX12_search_L0 (G + (fi (k + 1) - fi k) + 2) = R
    unfold fX12_search_L0_1
    rw [gI_z v 100 10, hS.2.2.1, if_neg (by rw [z_le (by omega) (by omega) (by omega) (by omega)]; omega), lt_e, lt_e]
    rfl
  have st2 := rpos_loop hS x1 k hk (fi (k + 1) - fi k) (G + 1) 0 1 (by omega) (Or.inl ⟨rfl, fun i hi => by omega⟩)
  have st3 : ∀ b : Int, (b = 0 ∨ b = 1) → fX12_search_L0 (G + 1 + 1) 2 x1 (zI k) (zI b) (zI ((fi (k + 1) - fi k : Nat) : Int)) v = if b = 0 then fX12_search_L0 (G + 1) 3 x1 (zI k) 0 0 v else b2 (fX12_startWith (zI k) v) (RW (fX12_search_L0 (G + 1)) x1 (zI k)) := by
    intro b hb
    have st : fX12_search_L0 (G + 1 + 1) 2 x1 (zI k) (zI b) (zI ((fi (k + 1) - fi k : Nat) : Int)) v = fX12_search_L0_2 (fX12_search_L0 (G + 1)) x1 (zI k) (zI b) (zI ((fi (k + 1) - fi k : Nat) : Int)) v := rfl
    rw [st]
    generalize fX12_search_L0 (G + 1) = R
    unfold fX12_search_L0_2
    rw [ld_z _ _ _ _ (by omega) (by omega), bd_s, Int.toNat_natCast, k2, if_pos (by rw [z_le (by omega) (by omega) (by omega) (by omega)]; omega)]
    rcases hb with h | h <;> subst h
    · rw [if_pos q0, if_pos rfl]
    · rw [if_neg (by decide), if_neg (by decide)]; rfl
  constructor
  · intro hp
    rw [st1, st2, if_pos hp, st3 1 (Or.inr rfl), if_neg (by decide)]
  · intro hp
    rw [st1, st2, if_neg hp, st3 0 (Or.inl rfl), if_pos rfl]
    have st : fX12_search_L0 (G + 1) 3 x1 (zI k) 0 0 v = fX12_search_L0_3 (fX12_search_L0 G) x1 (zI k) v := rfl
    rw [st]
    generalize fX12_search_L0 G = R
    unfold fX12_search_L0_3
    rw [gI_z v 100 98, h98, if_pos q0, gI_z v 100 99, h99, if_pos q0, lt_e, show (1 : Int32) = zI 1 from rfl, z_add, show (k : Int) + 1 = ((k + 1 : Nat) : Int) by omega]
theorem st_scan {u v : St} {C : Nat} {fi ps : Nat → Nat} {nv c : Nat → Int} {e : Nat → Nat} (hS : SR u v C fi ps nv c e) (ht : I u 9 9 = 0) (x1 : Int32) (h98 : I v 100 98 = 0) (h99 : I v 100 99 = 0) (d : Nat) : ∀ (F G k : Nat), k + d = C → d < F →
    (fX3_nextStart_L0 F 0 (zI k) u = some (0, u) ∧ ∃ G', G ≤ G' ∧ fX12_search_L0 (G + 16 * d) 1 x1 (zI k) 0 0 v = fX12_search_L0 G' 1 x1 (zI C) 0 0 v) ∨
    (∃ k0 G', k ≤ k0 ∧ k0 < C ∧ fX3_nextStart_L0 F 0 (zI k) u = some (1, uI u 67 0 (zI k0)) ∧ G + 16 * (C - k0 - 1) ≤ G' ∧ fX12_search_L0 (G + 16 * d) 1 x1 (zI k) 0 0 v = b2 (fX12_startWith (zI k0) v) (RW (fX12_search_L0 (G' + 1)) x1 (zI k0))) := by
  induction d with
  | zero =>
    intro F G k hk hF
    obtain ⟨F', rfl⟩ : ∃ F', F = F' + 1 := ⟨F - 1, by omega⟩
    have : k = C := by omega
    subst this
    exact Or.inl ⟨ns_end hS F', G, Nat.le_refl _, rfl⟩
  | succ d ih =>
    intro F G k hk hF
    obtain ⟨F', rfl⟩ : ∃ F', F = F' + 1 := ⟨F - 1, by omega⟩
    have hkC : k < C := by omega
    obtain ⟨k1, k2, k3, k4, k5, k6, k7, k8, k9⟩ := hS.2.2.2.2.2.2.1 k hkC
    have hsplit : G + 16 * (d + 1) = (G + 16 * d + (13 - (fi (k + 1) - fi k))) + (fi (k + 1) - fi k) + 3 := by omega
    obtain ⟨rc1, rc2⟩ := rc_step hS x1 (G + 16 * d + (13 - (fi (k + 1) - fi k))) k hkC h98 h99
    rw [hsplit]
    rcases ns_step hS F' k hkC ht with ⟨hp, hn⟩ | ⟨hp, hn⟩
    · right
      refine ⟨k, G + 16 * d + (13 - (fi (k + 1) - fi k)), Nat.le_refl _, hkC, hn, ?_, rc1 hp⟩
      have : C - k - 1 = d := by omega
      rw [this]; omega
    · have hih := ih F' (G + (13 - (fi (k + 1) - fi k))) (k + 1) (by omega) (by omega)
      rw [show G + (13 - (fi (k + 1) - fi k)) + 16 * d = G + 16 * d + (13 - (fi (k + 1) - fi k)) by omega] at hih
      rcases hih with ⟨i1, G', i2, i3⟩ | ⟨k0, G', i1, i2, i3, i4, i5⟩
      · exact Or.inl ⟨hn.trans i1, G', by omega, (rc2 hp).trans i3⟩
      · exact Or.inr ⟨k0, G', by omega, i2, hn.trans i3, by omega, (rc2 hp).trans i5⟩
