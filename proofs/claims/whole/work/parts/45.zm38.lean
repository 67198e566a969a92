/-! the highest frame is restored and advanced, both sides -/
def CT (R : Nat → Int32 → St → Option (Int32 × St)) (x1 : Int32) (r10 : Int32) (u9 : St) : Option (Int32 × St) :=
  if r10 = 3 then (lt (uI u9 9 9 ((gI u9 9 9) - 1)) fun u23 => lt (x1 + 1 : Int32) fun x24 => R 0 x24 u23) else if r10 = 2 then (if 0 ≤ (gI u9 9 10) then (b2 (fX8_repeats (gI u9 9 10) u9) fun r15 u14 => if r15 = 2 then (some ((-7), u14)) else if r15 = 0 then (b2 (fX3_push 2 (gI u14 9 10) (gI u14 9 10) u14) fun r20 u19 => if r20 = 0 then (some ((-7), u19)) else lt (x1 + 1 : Int32) fun x22 => R 0 x22 u19) else lt (x1 + 1 : Int32) fun x18 => R 0 x18 u14) else some (1, u9)) else some (r10, u9)
def PH : Nat → Nat → Bool := fun k i => PB k i || (k == 7 && (i == 6 || i == 7))
theorem rl_head {u v : St} {c : Nat → Int} {e : Nat → Nat} {N : Nat} {Vc : Int} {X T : List (Nat × Nat × Int)} (n : Nat) (L V x1 : Int) (hn : n < 151) (ht : I u 9 9 = n) (h68 : I u 68 n = T.length) (h69 : I u 69 n = L) (h70 : I u 70 n = V) (hU : UE u v c e N Vc (X ++ T)) (hVc : Vc ≤ 220) (hx0 : 0 ≤ x1) (hx : x1 < 1000000) : ∃ u8, (∀ F, fX3_runLimit_L0 (F + 1) 0 (zI x1) u = b2 (fX3_advance u8) (CT (fX3_runLimit_L0 F) (zI x1))) ∧ WE u8 c N Vc T ∧ TC u8 T ∧ I u8 7 6 = L ∧ I u8 7 7 = V ∧ Fr PH u u8 := by
  obtain ⟨u4, b1, b2', b3, b4⟩ := unbind_spec hVc hU.1 hU.2.1 hU.2.2.1
  have a1 := I_lo u 69 n
  have a2 := I_hi u 69 n
  have a3 := I_lo u 70 n
  have a4 := I_hi u 70 n
  rw [h69] at a1 a2
  rw [h70] at a3 a4
  have F1 : Fr (P1 7 6) u4 (uI u4 7 6 (zI L)) := Fr_up (by simp [P1]) (Fr_rfl _ _)
  have F2 : Fr (P1 7 7) (uI u4 7 6 (zI L)) (uI (uI u4 7 6 (zI L)) 7 7 (zI V)) := Fr_up (by simp [P1]) (Fr_rfl _ _)
  have g9 : I u4 9 9 = n := by rw [Fr_I b4 rfl]; exact ht
  have g69 : I u4 69 n = L := by rw [Fr_I b4 rfl]; exact h69
  have g9' : I (uI u4 7 6 (zI L)) 9 9 = n := by rw [Fr_I F1 (by simp [P1])]; exact g9
  have g70 : I (uI u4 7 6 (zI L)) 70 n = V := by rw [Fr_I F1 (by simp [P1]), Fr_I b4 rfl]; exact h70
  refine ⟨uI (uI u4 7 6 (zI L)) 7 7 (zI V), fun F => ?_, WE_fr F2 (fun i => by simp [P1]) (fun i => by simp [P1]) (fun i => by simp [P1]) (WE_fr F1 (fun i => by simp [P1]) (fun i => by simp [P1]) (fun i => by simp [P1]) b2'), TC_fr F2 (by simp [P1]) (fun i => by simp [P1]) (TC_fr F1 (by simp [P1]) (fun i => by simp [P1]) b3), ?_, ?_, ?_⟩
  · have st : fX3_runLimit_L0 (F + 1) 0 (zI x1) u = fX3_runLimit_L0_0 (fX3_runLimit_L0 F) (zI x1) u := rfl
    rw [st]
    generalize fX3_runLimit_L0 F = R
    unfold fX3_runLimit_L0_0
    rw [if_neg (by rw [z_lit, z_le (by decide) (by decide) (by omega) (by omega)]; omega), gI_z u 9 9, ht, if_neg (by rw [z_zero, z_lt (by omega) (by omega) (by decide) (by decide)]; omega), ld_z _ _ _ _ (by omega) (by omega), bd_s, Int.toNat_natCast, h68, b1, bd_s, gI_z u4 9 9, g9, ld_z _ _ _ _ (by omega) (by omega), bd_s, Int.toNat_natCast, g69, lt_e, gI_z _ 9 9, g9', ld_z _ _ _ _ (by omega) (by omega), bd_s, Int.toNat_natCast, g70, lt_e]
    rfl
  · rw [Fr_I F2 (by simp [P1]), I_uI1 _ _ _ _ a1 a2]
  · exact I_uI1 _ _ _ _ a3 a4
  · refine Fr_tr (Fr_up2 (fun k i hk => ?_) b4) (Fr_tr (Fr_up2 (fun k i hk => ?_) F1) (Fr_up2 (fun k i hk => ?_) F2))
    · simp [PH, hk]
    · simp [P1] at hk; simp [PH, hk.1, hk.2]
    · simp [P1] at hk; simp [PH, hk.1, hk.2]
theorem rt_head {v : St} (f : Nat) (v1 : St) (g : Int) (hf : f < 300) (h120 : I v 100 120 = ((f + 1 : Nat) : Int)) (hr : fX12_restore (zI f) v = some v1) (h168 : I v1 168 f = g) : fX12_tryNext v = fX12_tryNext_L1 FU 0 (zI f) (zI g) v1 := by
  unfold fX12_tryNext
  generalize FU = FF
  rw [lt_e, gI_z, h120, show (1 : Int32) = zI 1 from rfl, z_sub, show ((f + 1 : Nat) : Int) - 1 = f by omega, hr, bd_s, ld_z _ _ _ _ (by omega) (by omega), bd_s, Int.toNat_natCast, h168]
theorem PKc_PH {f L k i : Nat} (h : PH k i = true) : PKc f L k i = true := by
  unfold PH at h
  simp only [Bool.or_eq_true] at h
  rcases h with h | h
  · have : PU k i = true := by
      unfold PB at h; unfold PU
      simp only [Bool.or_eq_true] at h ⊢
      rcases h with ((h | h) | h) | h
      · exact Or.inl (Or.inl (Or.inl (Or.inr h)))
      · exact Or.inl (Or.inl (Or.inr h))
      · exact Or.inl (Or.inr h)
      · exact Or.inr h
    simp [PKc, this]
  · simp at h; simp [PKc]; omega
theorem PSe_PH {k i : Nat} (h : PH k i = true) : PSe k i = true := by
  unfold PH at h
  simp only [Bool.or_eq_true] at h
  rcases h with h | h
  · have : PU k i = true := by
      unfold PB at h; unfold PU
      simp only [Bool.or_eq_true] at h ⊢
      rcases h with ((h | h) | h) | h
      · exact Or.inl (Or.inl (Or.inl (Or.inr h)))
      · exact Or.inl (Or.inl (Or.inr h))
      · exact Or.inl (Or.inr h)
      · exact Or.inr h
    simp [PSe, this]
  · simp at h; simp [PSe]; omega
theorem Kp_PH {u u' v : St} {f L J : Nat} (h : Fr PH u u') : Kp u u' v v f L J := Kp_c h (fun _ _ hk => PKc_PH hk) (fun _ _ hk => PSe_PH hk)
theorem Kp_Cn {u u' v v' : St} {mst lim : Int} (h1 : ∀ i, (i = 11 ∨ i = 12 ∨ i = 13 ∨ i = 14) → I u' 9 i = I u 9 i) (h2 : ∀ i, (i = 100 ∨ i = 101 ∨ i = 102 ∨ i = 104) → I v' 100 i = I v 100 i) (h : Cn u v mst lim) : Cn u' v' mst lim := by
  unfold Cn
  rw [h1 11 (by simp), h1 12 (by simp), h1 13 (by simp), h1 14 (by simp), h2 100 (by simp), h2 101 (by simp), h2 102 (by simp), h2 104 (by simp)]
  exact h
/-- what stands before a turn of the loops -/
def HD (u v : St) (φ : Nat → Nat) (C : Nat) (fi ps : Nat → Nat) (nv c : Nat → Int) (e : Nat → Nat) (mst lim : Int) (n : Nat) (T : List (Nat × Nat × Int)) (L J : Nat) (V : Int) (Gd : Nat → Prop) : Prop := SR u v C fi ps nv c e ∧ FS u v φ C fi nv c e (ps (fi C)) n T L J V Gd ∧ (∃ X Vc, UE u v c e (ps (fi C)) Vc (X ++ T) ∧ V ≤ Vc ∧ Vc ≤ 210) ∧ I u 9 9 = n ∧ I v 100 120 = n ∧ Cn u v mst lim ∧ I v 100 98 = 0 ∧ I v 100 99 = 0
/-- a frame is advanced -/
theorem tn_spec {φ : Nat → Nat} {Gd : Nat → Prop} {C : Nat} {fi ps : Nat → Nat} {nv c : Nat → Int} {e : Nat → Nat} {f : Nat} {T : List (Nat × Nat × Int)} {L J : Nat} {V : Int} {mst lim : Int} {u v : St} (x1 : Int) (hx0 : 0 ≤ x1) (hx : x1 < 1000000) (hf : f < 150) (h : HD u v φ C fi ps nv c e mst lim (f + 1) T L J V Gd) :
    ∃ a a' u' v' g r, (∀ F, fX3_runLimit_L0 (F + 1) 0 (zI x1) u = CT (fX3_runLimit_L0 F) (zI x1) (zI a) u') ∧ fX12_tryNext v = some (zI a', v') ∧ AO u v u' v' a a' φ Gd C fi ps nv c e f g T L J V r mst lim := by
  obtain ⟨hS, hFS, ⟨X, Vc, hU, hVV, hVc⟩, h99, h120, hCn, h98, hsp⟩ := h
  obtain ⟨⟨g, r, hFR⟩, hK, hTB, hGT, hJL, hL, hV0, hV1, hrest⟩ := hFS
  have hFRc := hFR
  obtain ⟨f1, f2, f3, f4, f5, f6, f7, f8, f9, f10, f11, f12, f13⟩ := hFR
  obtain ⟨u8, a1, a2, a3, a4, a5, a6⟩ := rl_head (f + 1) L V x1 (by omega) h99 f4 f5 f6 hU (by omega) hx0 hx
  obtain ⟨v1, y1, y2, y3, y4, y5, y6, y7, y8⟩ := restore_spec (V' := V) f J L ((f + 1 : Nat) : Int) (by omega) (by omega : Vc ≤ 220) hVV hU.1 hU.2.2.2.1 hU.2.2.2.2 f7 f8 f9 f10 f11
  have hgJ := (hTB g f1).2.1
  have hgL := (hTB g f1).1
  have hrt := rt_head f v1 (φ g) (by omega) h120 y1 (by rw [rst_lem y8 168 f (by decide) (by omega)]; exact f3)
  have K : Kp u u8 v v1 f L J := Kp_tr (Kp_PH a6) (Kp_rst y8)
  have eu : ∀ k i, PH k i = false → I u8 k i = I u k i := fun k i hk => Fr_I a6 hk
  have ev : ∀ k i, k ≠ 154 → (k ≠ 100 ∨ (i ≠ 93 ∧ i ≠ 89 ∧ i ≠ 110 ∧ i ≠ 105 ∧ i ≠ 92)) → I v1 k i = I v k i := rst_lem y8
  have hFR' : FR u8 v1 φ Gd f g T L J V r := FR_kp hgL (fun k hk => by rcases hk with h | h | h | h <;> subst h <;> exact eu _ _ rfl) (fun k hk => by rcases hk with h | h | h | h | h | h <;> subst h <;> exact ev _ _ (by decide) (by omega)) (fun t ht => eu _ _ rfl) rfl hFRc
  have hK' : (∃ x, K2 u8 v1 φ Gd f x) ∨ ∃ m, K1 u8 v1 C fi f m := by
    rcases hK with ⟨x, k1, k2, k3, k4, k5, k6⟩ | ⟨m, k1, k2, k3, k4, k5⟩
    · left
      exact ⟨x, by rw [eu _ _ rfl]; exact k1, k2, by rw [eu _ _ rfl]; exact k3, by rw [ev _ _ (by decide) (by omega), ev _ _ (by decide) (by omega)]; exact k4, by rw [ev _ _ (by decide) (by omega)]; exact k5, by rw [ev _ _ (by decide) (by omega)]; exact k6⟩
    · right
      exact ⟨m, by rw [eu _ _ rfl]; exact k1, by rw [ev _ _ (by decide) (by omega)]; exact k2, by rw [eu _ _ rfl]; exact k3, k4, by rw [ev _ _ (by decide) (by omega), ev _ _ (by decide) (by omega)]; exact k5⟩
  have hRS : RS u8 v1 c e (ps (fi C)) f T L J V := ⟨⟨hGT, WE_V a2 (by omega), a3, y2, y3⟩, a4, a5, y4, y5, y6, y7, by rw [eu _ _ rfl]; exact h99, by rw [ev _ _ (by decide) (by omega)]; exact h120⟩
  have hCn' : Cn u8 v1 mst lim := Kp_Cn (fun i hi => by rcases hi with h | h | h | h <;> subst h <;> exact eu _ _ rfl) (fun i hi => by rcases hi with h | h | h | h <;> subst h <;> exact ev _ _ (by decide) (by omega)) hCn
  obtain ⟨a, a', u', v', d1, d2, d3⟩ := adv_spec hJL hL hV0 hV1.1 hf (Kp_S K hS) (Kp_TB K (fun _ _ => rfl) (Int.le_refl _) hTB) hFR' hK' hRS hCn' (by rw [ev _ _ (by decide) (by omega)]; exact h98) (by rw [ev _ _ (by decide) (by omega)]; exact hsp)
  refine ⟨a, a', u', v', g, r, fun F => by rw [a1 F, d1, b2_s], hrt.trans d2, AO_kp K (by rw [eu 9 13 rfl]; exact Int.le_refl _) d3⟩
