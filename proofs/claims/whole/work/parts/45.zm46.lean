/-! all start clauses, at one limit -/
theorem r3_stop (G : Nat) (x1 k : Int32) (v : St) (h : I v 100 98 = 1 ∨ (I v 100 98 = 0 ∧ I v 100 99 = 1)) : ∃ v', fX12_search_L0 (G + 1) 3 x1 k 0 0 v = some (zI (if I v 100 98 = 1 then -7 else -6), v') ∧ I v' 100 105 = 0 ∧ Fr (P1 100 105) v v' := by
  have st : fX12_search_L0 (G + 1) 3 x1 k 0 0 v = fX12_search_L0_3 (fX12_search_L0 G) x1 k v := rfl
  have F1 : Fr (P1 100 105) v (uI v 100 105 (zI 0)) := Fr_up (by simp [P1]) (Fr_rfl _ _)
  refine ⟨uI v 100 105 (zI 0), ?_, I_uI1 _ _ _ _ (by decide) (by decide), F1⟩
  rw [st]
  unfold fX12_search_L0_3 fX12_search_j166
  rcases h with h | ⟨h, h2⟩
  · rw [gI_z v 100 98, h, if_neg (by decide), lt_e, show (0 : Int32) = zI 0 from rfl, gI_z, Fr_I F1 (by simp [P1]), h, if_neg (by decide), if_pos rfl]
    rfl
  · rw [gI_z v 100 98, h, if_pos q0, gI_z v 100 99, h2, if_neg (by decide), lt_e, show (0 : Int32) = zI 0 from rfl, gI_z, Fr_I F1 (by simp [P1]), h, if_pos rfl, if_neg (by decide)]
    rfl
theorem r3_next (G k : Nat) (x1 : Int32) (v : St) (h98 : I v 100 98 = 0) (h99 : I v 100 99 = 0) : fX12_search_L0 (G + 1) 3 x1 (zI k) 0 0 v = fX12_search_L0 G 1 x1 (zI ((k + 1 : Nat) : Int)) 0 0 v := by
  have st : fX12_search_L0 (G + 1) 3 x1 (zI k) 0 0 v = fX12_search_L0_3 (fX12_search_L0 G) x1 (zI k) v := rfl
  rw [st]
  generalize fX12_search_L0 G = R
  unfold fX12_search_L0_3
  rw [gI_z v 100 98, h98, if_pos q0, gI_z v 100 99, h99, if_pos q0, lt_e, show (1 : Int32) = zI 1 from rfl, z_add, show (k : Int) + 1 = ((k + 1 : Nat) : Int) by omega]
def PRe5 : Nat → Nat → Bool := PRe
/-- at one limit: a proof, or the end, or nothing -/
theorem start_loop {C : Nat} {fi ps : Nat → Nat} {nv c : Nat → Int} {e : Nat → Nat} {mst lim : Int} (X : Int32) (d : Nat) : ∀ (F G k : Nat) (x1 : Int) (u v : St), SH u v C fi ps nv c e mst lim k → k ≤ C → C - k < d → 0 ≤ x1 → x1 + 2 * (mst - I u 9 13) + 2 < 1000000 → 2 * (mst - I u 9 13) + 3 < F →
    (∃ a u' v', fX3_runLimit_L0 F 0 (zI x1) u = some (zI a, u') ∧ fX12_search_L0 (G + 16 * (C - k) + 1) 1 X (zI k) 0 0 v = some (zI a, v') ∧ SR u' v' C fi ps nv c e ∧ Cn u' v' mst lim ∧ Fr PSe u u' ∧ Fr PRe v v' ∧ ((a = 1 ∧ PRF u' v' C fi ps nv c e) ∨ ((a = -6 ∨ a = -7) ∧ I v' 100 105 = 0 ∧ ∃ T, BCs u' T))) ∨
    (∃ u' v' G', fX3_runLimit_L0 F 0 (zI x1) u = some (3, u') ∧ G ≤ G' ∧ fX12_search_L0 (G + 16 * (C - k) + 1) 1 X (zI k) 0 0 v = fX12_search_L0 G' 1 X (zI C) 0 0 v' ∧ SR u' v' C fi ps nv c e ∧ Cn u' v' mst lim ∧ Fr PSe u u' ∧ Fr PRe v v' ∧ I v' 100 98 = 0 ∧ I v' 100 99 = 0 ∧ ∃ T, BCs u' T) := by
  induction d with
  | zero => intro F G k x1 u v h hk hd; omega
  | succ d ih =>
    intro F G k x1 u v h hk hd hx0 hx hF
    have hc := h
    obtain ⟨hS, h99, h65, h66, h68, h69, h70, h67, ⟨T, hB⟩, hCn, h98, hsp⟩ := h
    have hst := hCn.2.2.2.1
    obtain ⟨u8, a1, a2, a3, a4, a5, a6⟩ := rl_head0 x1 h99 h68 h69 h70 hB hx0 (by omega)
    have e8 : ∀ k i, PH k i = false → I u8 k i = I u k i := fun k i hk => Fr_I a6 hk
    have hS8 : SR u8 v C fi ps nv c e := SR_e (PSe_PH' a6) (Fr_rfl _ _) hS
    have hsc := st_scan hS8 (by rw [e8 _ _ rfl]; exact h99) X h98 hsp (C - k) FU (G + 1) k (by omega) (by have := hS.1; unfold FU; omega)
    rw [show G + 1 + 16 * (C - k) = G + 16 * (C - k) + 1 by omega] at hsc
    rcases hsc with ⟨s1, G', s2, s3⟩ | ⟨k0, G', s1, s2, s3, s4, s5⟩
    · -- no start clause is left
      right
      obtain ⟨F', rfl⟩ : ∃ F', F = F' + 2 := ⟨F - 2, by omega⟩
      have hnc := nc_start u8 _ k 0 (by rw [e8 _ _ rfl]; exact h99) (by rw [e8 _ _ rfl]; exact h65) (by rw [e8 _ _ rfl]; exact h67) (Or.inl rfl) s1
      have hav : fX3_advance u8 = some (zI 3, u8) := av_none 999999999 u8 u8 0 (by decide) (by decide) hnc
      have hcf := ct_fail0 (fX3_runLimit_L0 (F' + 1)) x1 u8 (by rw [e8 _ _ rfl]; exact h99)
      have Fa : Fr (P1 9 9) u8 (uI u8 9 9 (zI (-1))) := Fr_up (by simp [P1]) (Fr_rfl _ _)
      have c99 : I (uI u8 9 9 (zI (-1))) 9 9 = -1 := I_uI1 _ _ _ _ (by decide) (by decide)
      generalize hu9 : uI u8 9 9 (zI (-1)) = u9 at *
      have hcls : fX3_runLimit_L0 (F' + 2) 0 (zI x1) u = some (3, u9) := by
        rw [a1 (F' + 1), hav, b2_s, hcf]; exact rl_none F' (x1 + 1) u9 (by omega) (by omega) c99
      have hPS : Fr PSe u u9 := Fr_tr (PSe_PH' a6) (PSe_P1 Fa rfl)
      refine ⟨u9, v, G', hcls, by omega, s3, SR_e hPS (Fr_rfl _ _) hS, ?_, hPS, Fr_rfl _ _, h98, hsp, [], ?_, TC_fr Fa (by simp [P1]) (fun i => by simp [P1]) a3, by simp, by simp, by simp⟩
      · exact Kp_Cn (fun i hi => by rw [Fr_I Fa (by simp [P1]; omega), e8 9 i (by simp [PH, PB])]) (fun _ _ => rfl) hCn
      · intro w hw
        rw [Fr_I Fa (by simp [P1]), Fr_I Fa (by simp [P1])]
        exact a2 w hw
    · -- a start clause
      rcases start_one x1 F k0 u8 hc hx0 hx hF s2 a1 a2 a3 a4 a5 a6 s3 with ⟨a, a', u', v', t1, t2, t3⟩ | ⟨u', v', F', x1', t1, t2, t3, t4, t5, t6, t7, t8⟩
      · left
        obtain ⟨z1, z2, z3, z4, z5⟩ := t3
        rw [t2, b2_s] at s5
        rcases z5 with ⟨y1, y2, y3, y4, y5⟩ | ⟨y1, y2, y3, y4, y5⟩ | ⟨y1, y2, y3, y4⟩
        · subst y1; subst y2
          exact ⟨1, u', v', t1, s5, z1, z2, z3, z4, Or.inl ⟨rfl, y5⟩⟩
        · subst y1; subst y2
          obtain ⟨v2, r1, r2, r3⟩ := r3_stop G' X (zI k0) v' (Or.inr ⟨y3, y4⟩)
          rw [if_neg (by rw [y3]; decide)] at r1
          have hrw : RW (fX12_search_L0 (G' + 1)) X (zI k0) (zI 0) v' = some (zI (-6), v2) := by unfold RW; rw [if_pos q0]; exact r1
          exact ⟨-6, u', v2, t1, s5.trans hrw, SR_e (Fr_rfl _ _) (PRe_P1 r3 rfl) z1, Kp_Cn (fun _ _ => rfl) (fun i hi => Fr_I r3 (by simp [P1]; omega)) z2, z3, Fr_tr z4 (PRe_P1 r3 rfl), Or.inr ⟨Or.inl rfl, r2, y5⟩⟩
        · subst y1; subst y2
          obtain ⟨v2, r1, r2, r3⟩ := r3_stop G' X (zI k0) v' (Or.inl y3)
          rw [if_pos y3] at r1
          have hrw : RW (fX12_search_L0 (G' + 1)) X (zI k0) (zI 0) v' = some (zI (-7), v2) := by unfold RW; rw [if_pos q0]; exact r1
          exact ⟨-7, u', v2, t1, s5.trans hrw, SR_e (Fr_rfl _ _) (PRe_P1 r3 rfl) z1, Kp_Cn (fun _ _ => rfl) (fun i hi => Fr_I r3 (by simp [P1]; omega)) z2, z3, Fr_tr z4 (PRe_P1 r3 rfl), Or.inr ⟨Or.inr rfl, r2, y4⟩⟩
      · rw [t2, b2_s] at s5
        have t3c := t3
        obtain ⟨z1, z2, z3, z4, z5, z6, z7, z8, z9, z10, z11, z12⟩ := t3
        have hrw : RW (fX12_search_L0 (G' + 1)) X (zI k0) (zI 0) v' = fX12_search_L0 G' 1 X (zI ((k0 + 1 : Nat) : Int)) 0 0 v' := by unfold RW; rw [if_pos q0]; exact r3_next G' k0 X v' z11 z12
        have hih := ih F' (G' - 16 * (C - (k0 + 1)) - 1) (k0 + 1) x1' u' v' t3c (by omega) (by omega) (by omega) (by omega) (by omega)
        rw [show G' - 16 * (C - (k0 + 1)) - 1 + 16 * (C - (k0 + 1)) + 1 = G' by omega] at hih
        rcases hih with ⟨a, u2, v2, w1, w2, w3, w4, w5, w6, w7⟩ | ⟨u2, v2, G2, w1, w2, w3, w4, w5, w6, w7, w8⟩
        · exact Or.inl ⟨a, u2, v2, t1.trans w1, (s5.trans hrw).trans w2, w3, w4, Fr_tr t7 w5, Fr_tr t8 w6, w7⟩
        · exact Or.inr ⟨u2, v2, G2, t1.trans w1, by omega, (s5.trans hrw).trans w3, w4, w5, Fr_tr t7 w6, Fr_tr t8 w7, w8⟩
