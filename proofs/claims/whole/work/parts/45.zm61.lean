/-! writing: the heads of items -/
def HDr (R : Nat → Int32 → Int32 → Int32 → Int32 → Int32 → Int32 → St → Option St) (p b : Int) (v : St) : Option St := if zI b < 0 then R 1 (zI p) (zI b) 0 0 0 0 v else bd (fX12_follow (zI p) (zI b) v) fun u8 => R 1 (gI u8 100 95) (gI u8 100 96) 0 0 0 0 u8
theorem t_item {v : St} {k : Nat} (G : Nat) (p : Nat) (b : Int) (hp : p < 100000) (st' : List (Int × Int)) (h78 : I v 100 78 = k) (hk : k ≤ 4000) (hS : SZ v (((p : Int), b) :: st')) (h81 : I v 100 81 = ((st'.length + 1 : Nat) : Int)) (hsz : st'.length < 20990) : ∃ v3, fX12_termOut_L0 (G + 1) 0 0 0 0 0 0 0 v = HDr (fX12_termOut_L0 G) p b v3 ∧ SZ v3 st' ∧ I v3 100 81 = st'.length ∧ Fr Ql v v3 := by
  have F3 : Fr Ql v (uI v 100 81 (zI st'.length)) := Fr_up rfl (Fr_rfl _ _)
  have c81 : I (uI v 100 81 (zI st'.length)) 100 81 = (st'.length : Nat) := I_uI1 _ _ _ _ (by omega) (by omega)
  have c147 : I (uI v 100 81 (zI st'.length)) 147 st'.length = (p : Int) := by rw [I_uI3 _ _ _ _ _ _ (by decide)]; exact hS.1
  have c148 : I (uI v 100 81 (zI st'.length)) 148 st'.length = b := by rw [I_uI3 _ _ _ _ _ _ (by decide)]; exact hS.2.1
  refine ⟨uI v 100 81 (zI st'.length), ?_, SZ_eq st' st'.length (Nat.le_refl _) (fun i hi => ⟨I_uI3 _ _ _ _ _ _ (by decide), I_uI3 _ _ _ _ _ _ (by decide)⟩) hS.2.2, c81, F3⟩
  have st : fX12_termOut_L0 (G + 1) 0 0 0 0 0 0 0 v = fX12_termOut_L0_0 (fX12_termOut_L0 G) v := rfl
  rw [st]
  generalize fX12_termOut_L0 G = R
  unfold fX12_termOut_L0_0 HDr
  rw [gI_z v 100 81, h81, if_neg (by rw [z_zero, z_le (by omega) (by omega) (by decide) (by decide)]; omega), gI_z v 100 78, h78, if_neg (by rw [z_lit, z_lt (by decide) (by decide) (by omega) (by omega)]; omega), show (1 : Int32) = zI 1 from rfl, z_sub, show ((st'.length + 1 : Nat) : Int) - 1 = (st'.length : Nat) by omega, lt_e, gI_z _ 100 81, c81, ld_z _ _ _ _ (by omega) (by omega), bd_s, ld_z _ _ _ _ (by omega) (by omega), bd_s, Int.toNat_natCast, c147, c148, if_pos (by rw [z_zero, z_le (by decide) (by decide) (by omega) (by omega)]; omega)]
  rfl
/-- a variable -/
theorem t_var {v v' : St} (G : Nat) (a : Nat) (b ca : Int) (ha : a < 20400) (hb1 : -2147483648 ≤ b) (hb2 : b < 2147483648) (h111 : I v 111 a = ca) (hca : ca < 0) (hv : (if 0 ≤ b then fX12_variableOut (zI (b - 1 - ca)) 0 v else fX12_variableOut (zI (-1 - ca)) 1 v) = some v') : fX12_termOut_L0 (G + 2) 1 (zI a) (zI b) 0 0 0 0 v = fX12_termOut_L0 G 0 0 0 0 0 0 0 v' := by
  have l1 := I_lo v 111 a
  rw [h111] at l1
  have st : fX12_termOut_L0 (G + 2) 1 (zI a) (zI b) 0 0 0 0 v = fX12_termOut_L0_1 (fX12_termOut_L0 (G + 1)) (zI a) (zI b) v := rfl
  have st2 : ∀ x s w, fX12_termOut_L0 (G + 1) 2 0 x 0 0 0 s w = fX12_termOut_L0_2 (fX12_termOut_L0 G) x s w := fun _ _ _ => rfl
  rw [st]
  unfold fX12_termOut_L0_1
  rw [ld_z _ _ _ _ (by omega) (by omega), bd_s, Int.toNat_natCast, h111, if_neg (by rw [z_zero, z_le (by decide) (by decide) (by omega) (by omega)]; omega)]
  by_cases h : 0 ≤ b
  · rw [if_pos h] at hv
    rw [if_pos (by rw [z_zero, z_le (by decide) (by decide) (by omega) (by omega)]; exact h), bd_s, show (1 : Int32) = zI 1 from rfl, z_sub, z_sub, st2]
    unfold fX12_termOut_L0_2
    rw [if_pos (by rw [z_zero, z_le (by decide) (by decide) (by omega) (by omega)]; exact h), hv, bd_s]
  · rw [if_neg h] at hv
    rw [if_neg (by rw [z_zero, z_le (by decide) (by decide) (by omega) (by omega)]; exact h), bd_s, show (-1 : Int32) = zI (-1) from rfl, z_sub, st2]
    unfold fX12_termOut_L0_2
    rw [if_neg (by rw [z_zero, z_le (by decide) (by decide) (by omega) (by omega)]; exact h), hv, bd_s]
/-- a symbol with no arguments -/
theorem t_sym0 {c : Nat → Int} {e : Nat → Nat} {N : Nat} {v v1 : St} (G : Nat) (a : Nat) (b s : Int) (haN : a < N) (hRT : RT v c e N) (hRT1 : RT v1 c e N) (hca : 0 ≤ c a) (har : ar c a = 0) (h111 : I v 111 a = s) (hv : fX12_nameOut (zI s) v = some v1) : fX12_termOut_L0 (G + 3) 1 (zI a) (zI b) 0 0 0 0 v = fX12_termOut_L0 G 0 0 0 0 0 0 0 v1 := by
  have hN := hRT.1
  have hs : 0 ≤ s := by rw [← h111]; exact ((hRT.2.1 a haN).2.1 hca)
  have hs2 := I_hi v 111 a
  have h113 : I v1 113 a = 0 := by rw [(hRT1.2.1 a haN).2.2.1, har]; rfl
  have st : fX12_termOut_L0 (G + 3) 1 (zI a) (zI b) 0 0 0 0 v = fX12_termOut_L0_1 (fX12_termOut_L0 (G + 2)) (zI a) (zI b) v := rfl
  have st3 : ∀ x y z w, fX12_termOut_L0 (G + 2) 3 0 x y z w 0 v1 = fX12_termOut_L0_3 (fX12_termOut_L0 (G + 1)) x y z w v1 := fun _ _ _ _ => rfl
  have st4 : ∀ x y, fX12_termOut_L0 (G + 1) 4 0 x 0 0 y 0 v1 = fX12_termOut_L0_4 (fX12_termOut_L0 G) x y v1 := fun _ _ => rfl
  rw [st]
  unfold fX12_termOut_L0_1
  rw [ld_z _ _ _ _ (by omega) (by omega), bd_s, Int.toNat_natCast, h111, if_pos (by rw [z_zero, z_le (by decide) (by decide) (by omega) (by omega)]; exact hs), bd_s, hv, bd_s, ld_z _ _ _ _ (by omega) (by omega), bd_s, Int.toNat_natCast, h113, lt_e, lt_e, st3]
  unfold fX12_termOut_L0_3
  rw [if_pos (show zI 0 ≤ 0 by decide), if_pos (show zI 0 ≤ 0 by decide), lt_e, st4]
  unfold fX12_termOut_L0_4
  rw [if_pos (by decide)]
/-- a bracket, class -/
theorem open_both {u v : St} {k : Nat} (n : Nat) (os : List Nat) (st' : List (Int × Int)) (hn : n ≤ 5) (hos : os.length < 4000) (h8 : I u 10 8 = (os.length : Nat)) (hO : OSr u os) (hD : DS u v k) (hk : k ≤ 4050) (hS : SZ v st') (h81 : I v 100 81 = st'.length) (hl : st'.length < 20980) : ∃ u' v1 v', fX1_openBracket (zI n) u = some u' ∧ fX12_put 40 v = some v1 ∧ fX12_later (-41) 0 v1 = some v' ∧ DS u' v' (k + 1) ∧ I u' 10 8 = ((os.length + 1 : Nat) : Int) ∧ OSr u' (n :: os) ∧ SZ v' ((-41, 0) :: st') ∧ I v' 100 81 = ((st'.length + 1 : Nat) : Int) ∧ Wr u u' v v' Po Ql := by
  obtain ⟨u1, v1, r1, r2, r3, r4⟩ := put_w 40 hD (by omega) NoP NoP
  have c8 : I u1 10 8 = (os.length : Nat) := by rw [Wr_I r4 hD.2.1 rfl (by decide) (by decide) (by omega)]; exact h8
  have hO1 : OSr u1 os := OSr_wr r4 hD.2.1 (fun _ => rfl) hO
  obtain ⟨v', s1, s2, s3, s4⟩ := later_spec v1 st' (-41) 0 (by omega) (by rw [Wr_V r4 rfl rfl]; exact h81) (SZ_fr r4.2.2.2 (fun _ => rfl) (fun _ => rfl) hS) (by decide) (by decide) (by decide) (by decide)
  have e8 : I (uI u1 73 os.length (zI n)) 10 8 = (os.length : Nat) := by rw [I_uI3 _ _ _ _ _ _ (by decide)]; exact c8
  have Fa : Fr Po u1 (uI (uI u1 73 os.length (zI n)) 10 8 (zI ((os.length + 1 : Nat) : Int))) := Fr_up rfl (Fr_up rfl (Fr_rfl _ _))
  refine ⟨uI (uI u1 73 os.length (zI n)) 10 8 (zI ((os.length + 1 : Nat) : Int)), v1, v', ?_, r2, s1, ?_, I_uI1 _ _ _ _ (by omega) (by omega), ⟨?_, ?_⟩, s2, s3, ?_⟩
  · unfold fX1_openBracket
    rw [r1, bd_s, gI_z u1 10 8, c8, if_neg (by rw [z_lit, z_le (by decide) (by decide) (by omega) (by omega)]; omega), st_z _ _ _ _ _ (by omega) (by omega), bd_s, Int.toNat_natCast, gI_z _ 10 8, e8, lt_e, show (1 : Int32) = zI 1 from rfl, z_add, show (os.length : Int) + 1 = ((os.length + 1 : Nat) : Int) by omega]
  · exact DS_fr Fa s4 (fun i hi => by rcases hi with h | h | h | h <;> subst h <;> rfl) (fun _ => rfl) (fun _ => rfl) rfl (fun _ => rfl) r3
  · rw [I_uI3 _ _ _ _ _ _ (by decide), I_uI1 _ _ _ _ (by omega) (by omega)]
  · exact OSr_eq os os.length (Nat.le_refl _) (fun i hi => by rw [I_uI3 _ _ _ _ _ _ (by decide), I_uI2 _ _ _ _ _ _ (by omega)]) hO1
  · exact Wr_tr (Wr_mono (fun k i hk => by simp [NoP] at hk) (fun k i hk => by simp [NoP] at hk) r4) (Wr_tr (Wr_cls Fa rfl rfl) (Wr_ref s4))
/-- a symbol with arguments, reference -/
theorem t_symn {c : Nat → Int} {e : Nat → Nat} {N : Nat} {bm : Int → Int} {v v1 : St} (hT : TOK c e N) (G : Nat) (a n : Nat) (b s : Int) (haN : a < N) (hRT : RT v c e N) (hRT1 : RT v1 c e N) (hca : 0 ≤ c a) (har : ar c a = n) (hn : 1 ≤ n) (h111 : I v 111 a = s) (hv : fX12_nameOut (zI s) v = some v1) (hb1 : -2147483648 ≤ bm b) (hb2 : bm b < 2147483648) (hG : 20 ≤ G) : ∃ v2 G', G - 16 ≤ G' ∧ Fr (fun k _ => k == 149) v1 v2 ∧ ∀ (st' : List (Int × Int)) v3 v4, fX12_put 40 v2 = some v3 → fX12_later (-41) 0 v3 = some v4 → Fr Qw v2 v3 → SZ v4 ((-41, 0) :: st') → I v4 100 81 = ((st'.length + 1 : Nat) : Int) → st'.length < 20900 → ∃ v', fX12_termOut_L0 G 1 (zI a) (zI (bm b)) 0 0 0 0 v = fX12_termOut_L0 G' 0 0 0 0 0 0 0 v' ∧ SZ v' (((a + 1 : Nat), bm b) :: (cm bm (items e (n - 1) (e (a + 1)) b) ++ (-41, 0) :: st')) ∧ I v' 100 81 = ((((a + 1 : Nat), bm b) :: (cm bm (items e (n - 1) (e (a + 1)) b) ++ (-41, 0) :: st') : List (Int × Int)).length : Nat) ∧ Fr Ql v4 v' := by
  have hN := hRT.1
  have hTa := hT a haN
  rw [har] at hTa
  obtain ⟨t1, t2, t3, t4, t5⟩ := hTa
  have hs : 0 ≤ s := by rw [← h111]; exact ((hRT.2.1 a haN).2.1 hca)
  have hs2 := I_hi v 111 a
  have h113 : I v1 113 a = n := by rw [(hRT1.2.1 a haN).2.2.1, har]
  obtain ⟨G2, rfl⟩ : ∃ G2, G = G2 + (n + 1) + 1 + n + 1 := ⟨G - (n + n + 3), by omega⟩
  obtain ⟨v2, r1, r2, r3, r4⟩ := targ_loop (zI (bm b)) n t1 n (G2 + (n + 1) + 1) (a + 1) 0 v1 (by omega) hRT1 t5
  refine ⟨v2, G2, by omega, r4, ?_⟩
  intro st' v3 v4 h3 h4 hF3 hS4 h81 hl
  have st : fX12_termOut_L0 (G2 + (n + 1) + 1 + n + 1) 1 (zI a) (zI (bm b)) 0 0 0 0 v = fX12_termOut_L0_1 (fX12_termOut_L0 (G2 + (n + 1) + 1 + n)) (zI a) (zI (bm b)) v := rfl
  have hop : fX12_termOut_L0 (G2 + (n + 1) + 1 + n + 1) 1 (zI a) (zI (bm b)) 0 0 0 0 v = fX12_termOut_L0 (G2 + (n + 1) + 1 + n) 3 0 (zI (bm b)) (zI n) (zI ((a + 1 : Nat) : Int)) (zI ((0 : Nat) : Int)) 0 v1 := by
    rw [st]
    generalize fX12_termOut_L0 (G2 + (n + 1) + 1 + n) = R
    unfold fX12_termOut_L0_1
    rw [ld_z _ _ _ _ (by omega) (by omega), bd_s, Int.toNat_natCast, h111, if_pos (by rw [z_zero, z_le (by decide) (by decide) (by omega) (by omega)]; exact hs), bd_s, hv, bd_s, ld_z _ _ _ _ (by omega) (by omega), bd_s, Int.toNat_natCast, h113, lt_e, lt_e, show (1 : Int32) = zI 1 from rfl, z_add, show (a : Int) + 1 = ((a + 1 : Nat) : Int) by omega]
    rfl
  have hop3 : fX12_termOut_L0 (G2 + (n + 1) + 1) 3 0 (zI (bm b)) (zI n) (zI (it e n (a + 1))) (zI n) 0 v2 = fX12_termOut_L0 (G2 + n + 1) 4 0 (zI (bm b)) 0 0 (zI ((n : Int) - 1)) 0 v4 := by
    have st3 : fX12_termOut_L0 (G2 + (n + 1) + 1) 3 0 (zI (bm b)) (zI n) (zI (it e n (a + 1))) (zI n) 0 v2 = fX12_termOut_L0_3 (fX12_termOut_L0 (G2 + n + 1)) (zI (bm b)) (zI n) (zI (it e n (a + 1))) (zI n) v2 := rfl
    rw [st3]
    generalize fX12_termOut_L0 (G2 + n + 1) = R
    unfold fX12_termOut_L0_3
    rw [if_pos (by rw [z_le (by omega) (by omega) (by omega) (by omega)]; omega), if_neg (by rw [z_zero, z_le (by omega) (by omega) (by decide) (by decide)]; omega), h3, bd_s, h4, bd_s, lt_e, show (1 : Int32) = zI 1 from rfl, z_sub]
  have hF4 : ∀ i, I v4 149 i = I v2 149 i := by
    intro i
    have hl4 : fX12_later (-41) 0 v3 = some v4 := h4
    have : I v4 149 i = I v3 149 i := by
      unfold fX12_later at hl4
      obtain ⟨y1, e1, hl4⟩ := g_bd hl4
      obtain ⟨y2, e2, hl4⟩ := g_bd hl4
      have f1 := (g_st e1).2
      have f2 := (g_st e2).2
      rw [lt_e] at hl4
      have f3 := Option.some.inj hl4
      rw [← f3, I_uI3 _ _ _ _ _ _ (by decide), f2, I_uI3 _ _ _ _ _ _ (by decide), f1, I_uI3 _ _ _ _ _ _ (by decide)]
    rw [this, Fr_I hF3 rfl]
  have hit : ∀ i, i < n → it e i (a + 1) < 100000 := by
    intro i hi
    obtain ⟨m, rfl⟩ : ∃ m, n = i + (m + 1) := ⟨n - i - 1, by omega⟩
    have := (sg_split i (m + 1) (a + 1) t5).2.1
    omega
  obtain ⟨v', s1, s2, s3, s4⟩ := tpush_loop e bm b (a + 1) n t1 hit hb1 hb2 ((-41, 0) :: st') n G2 v4 [] (Nat.le_refl _) (fun i hi => by rw [hF4, show I v2 149 i = it e i (a + 1) by have := r2 i hi; rw [Nat.zero_add] at this; exact this]) hS4 (by rw [h81]; simp [cm]) (by simp [cm]; omega)
  rw [if_neg (by omega)] at s2 s3
  refine ⟨v', ?_, ?_, ?_, s4⟩
  · rw [hop, r1, hop3, s1]
  · rw [List.append_nil] at s2; exact s2
  · rw [List.append_nil] at s3; exact s3
