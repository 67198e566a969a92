/-! reading: the reference's tasks -/
def IL (F : Nat) (v : St) : Option (Int32 × St) := fX12_inside_L0 F 0 0 0 0 0 v
def jr (b : Bool) : Nat := if b then 22 else 23
theorem RMk_task {P : Nat → Nat → Bool} {u0 v v' : St} {S NC NR nb : Nat} {l l' : List (Int × Int)} {vs : List Nat} {el : List (Nat × Int)} {ar : List Int} {na nf W MD : Nat} {s G : List Cs} (hF : Fr P v v') (hP : ∀ k i, P k i = true → k = 120 ∨ k = 121 ∨ (k = 100 ∧ i = 38)) (hT : TS v' l') (h : RMk u0 v S NC NR nb l vs el ar na nf W MD s G) : RMk u0 v' S NC NR nb l' vs el ar na nf W MD s G := by
  obtain ⟨a1, a2, a3, a4, a5, a6, a7, a8, a9, a10, a11, a12, a13, a14, a15, a16⟩ := h
  have q : ∀ k i, ¬ (k = 120 ∨ k = 121 ∨ (k = 100 ∧ i = 38)) → P k i = false := fun k i hk => by
    cases hp : P k i with
    | false => rfl
    | true => exact absurd (hP k i hp) hk
  have hE' : ELl u0 v' NR nb nf ar el := by
    have := ELl_mono (u0 := u0) (v := v) (v' := v') (NR := NR) (NR' := NR) (nb := nb) (nf := nf) (nf' := nf) (ar := ar) [] (fun i _ => Fr_I hF (q _ _ (by omega))) (fun i _ => Fr_I hF (q _ _ (by omega))) (Nat.le_refl _) (Nat.le_refl _) (fun y _ => Fr_J hF (q _ _ (by omega))) el el.length (Nat.le_refl _) (fun i _ => ⟨Fr_I hF (q _ _ (by omega)), Fr_I hF (q _ _ (by omega))⟩) a6
    rw [List.append_nil] at this; exact this
  have hN' : NMx u0 v' NC NR := ⟨⟨by rw [Fr_I hF (q _ _ (by omega))]; exact a7.1.1, fun y hy => by rw [Fr_J hF (q _ _ (by omega))]; exact a7.1.2.1 y hy, fun y y' hy hy' hh => a7.1.2.2 y y' hy hy' (by rw [Fr_J hF (q _ _ (by omega)), Fr_J hF (q _ _ (by omega))] at hh; exact hh)⟩, fun y hy => by rw [Fr_J hF (q _ _ (by omega))]; exact a7.2 y hy⟩
  exact ⟨hT, VS_fr hF (fun _ => q _ _ (by omega)) (q _ _ (by omega)) a2, by rw [Fr_I hF (q _ _ (by omega))]; exact a3, by rw [Fr_I hF (q _ _ (by omega))]; exact a4, by rw [Fr_I hF (q _ _ (by omega))]; exact a5, hE', hN', by rw [Fr_I hF (q _ _ (by omega))]; exact a8, RWl_eq _ _ (fun i _ _ => Fr_I hF (q _ _ (by omega))) a9, by rw [Fr_I hF (q _ _ (by omega))]; exact a10, by rw [Fr_I hF (q _ _ (by omega))]; exact a11, by rw [Fr_I hF (q _ _ (by omega))]; exact a12, by rw [Fr_I hF (q _ _ (by omega))]; exact a13, by rw [Fr_I hF (q _ _ (by omega))]; exact a14, fun g x hg => by
    have := TRg_mono (Gx := []) (v' := v') (fun i _ => Fr_I hF (q _ _ (by omega))) (Nat.le_refl _) (Nat.le_refl _) (fun k hk => Fr_I hF (q _ _ (by omega))) (fun i _ => Fr_I hF (q _ _ (by omega))) (a15 g x hg)
    rw [List.append_nil] at this; exact this, a16⟩
theorem Qts_c : ∀ k i, Qts k i = true → k = 120 ∨ k = 121 ∨ (k = 100 ∧ i = 38) := by intro k i hk; simp [Qts] at hk; omega
theorem Qts_QM : ∀ k i, Qts k i = true → QM k i = true := by intro k i hk; simp [Qts] at hk; simp [QM]; omega
theorem rmk_push {u0 v : St} {S NC NR nb : Nat} {l : List (Int × Int)} {vs : List Nat} {el : List (Nat × Int)} {ar : List Int} {na nf W MD : Nat} {s G : List Cs} (w n : Nat) (hw : w < 100) (hn : n < 2000) (hl : l.length < 6000) (h : RMk u0 v S NC NR nb l vs el ar na nf W MD s G) : ∃ v', fX12_push (zI w) (zI n) v = some v' ∧ RMk u0 v' S NC NR nb (((w : Int), (n : Int)) :: l) vs el ar na nf W MD s G ∧ Fr Qts v v' := by
  obtain ⟨v', a1, a2, a3⟩ := rpush_spec v l w n hl h.1 (by omega) (by omega) (by omega) (by omega)
  exact ⟨v', a1, RMk_task a3 Qts_c a2 h, a3⟩
/-- a task is taken -/
theorem rmk_pop {u0 v : St} {S NC NR nb : Nat} {a b : Int} {l : List (Int × Int)} {vs : List Nat} {el : List (Nat × Int)} {ar : List Int} {na nf W MD : Nat} {s G : List Cs} (hl : l.length < 6000) (h : RMk u0 v S NC NR nb ((a, b) :: l) vs el ar na nf W MD s G) : ∃ v6, (∀ F, IL (F + 1) v = if zI a = 20 then fX12_inside_L0 F 1 (zI a) 0 0 0 v6 else if zI a = 21 then fX12_inside_L0 F 1 (zI a) 0 0 0 v6 else if zI a = 22 then fX12_inside_L0 F 2 (zI a) 0 0 0 v6 else if zI a = 23 then fX12_inside_L0 F 2 (zI a) 0 0 0 v6 else lt (uI v6 100 49 ((gI v6 100 49) - 1)) fun u12 => if zI a = 24 then (lt (uI u12 100 55 ((gI u12 100 55) - 1)) fun u15 => IL F u15) else lt (uI u12 100 55 ((gI u12 100 55) - 0)) fun u14 => IL F u14) ∧ RMk u0 v6 S NC NR nb l vs el ar na nf W MD s G ∧ Fr Qts v v6 ∧ I v6 121 l.length = b := by
  have h38 : I v 100 38 = ((l.length + 1 : Nat) : Int) := h.1.1
  have h47 := h.2.2.1
  have F1 : Fr Qts v (uI v 100 38 (zI l.length)) := Fr_up rfl (Fr_rfl _ _)
  have e38 : I (uI v 100 38 (zI l.length)) 100 38 = l.length := I_uI1 _ _ _ _ (by omega) (by omega)
  have e120 : I (uI v 100 38 (zI l.length)) 120 l.length = a := by rw [I_uI3 _ _ _ _ _ _ (by decide)]; exact h.1.2.1
  have e121 : I (uI v 100 38 (zI l.length)) 121 l.length = b := by rw [I_uI3 _ _ _ _ _ _ (by decide)]; exact h.1.2.2.1
  refine ⟨uI v 100 38 (zI l.length), fun F => ?_, RMk_task F1 Qts_c ⟨e38, TKl_eq l l.length (Nat.le_refl _) (fun i _ => ⟨by rw [I_uI3 _ _ _ _ _ _ (by decide)], by rw [I_uI3 _ _ _ _ _ _ (by decide)]⟩) h.1.2.2.2⟩ h, F1, e121⟩
  have sx : IL (F + 1) v = fX12_inside_L0_0 (fX12_inside_L0 F) v := rfl
  rw [sx]
  unfold fX12_inside_L0_0
  rw [gI_z v 100 38, h38, if_neg (by rw [z_zero, z_le (by omega) (by omega) (by decide) (by decide)]; omega), gI_z v 100 47, h47, if_pos (show zI 0 = 0 from rfl), show (zI ((l.length + 1 : Nat) : Int) - 1 : Int32) = zI l.length by rw [show (1 : Int32) = zI 1 from rfl, z_sub]; congr 1; omega, lt_e, gI_z _ 100 38, e38, ld_z _ _ _ _ (by omega) (by omega), bd_s, Int.toNat_natCast, e120]
  rfl
theorem rmk_bare {u0 v : St} {S NC NR nb : Nat} {j : Nat} (b : Bool) {l : List (Int × Int)} {vs : List Nat} {el : List (Nat × Int)} {ar : List Int} {na nf W MD : Nat} {s G : List Cs} (hl : l.length < 6000) (h : RMk u0 v S NC NR nb ((((20 + sb b : Nat) : Int), (j : Int)) :: l) vs el ar na nf W MD s G) : ∃ v6, (∀ F, IL (F + 2) v = bd (fX12_goInside (zI j) (zI (sb b)) v6) fun u => IL F u) ∧ RMk u0 v6 S NC NR nb l vs el ar na nf W MD s G ∧ Fr Qts v v6 := by
  obtain ⟨v6, a1, a2, a3, a4⟩ := rmk_pop hl h
  refine ⟨v6, fun F => ?_, a2, a3⟩
  have s1 : ∀ x, fX12_inside_L0 (F + 1) 1 x 0 0 0 v6 = fX12_inside_L0_1 (fX12_inside_L0 F) x v6 := fun _ => rfl
  have h38 : I v6 100 38 = l.length := a2.1.1
  have hg : ∀ x, fX12_inside_L0_1 (fX12_inside_L0 F) x v6 = if x = 21 then (bd (fX12_goInside (zI j) 1 v6) fun u19 => IL F u19) else bd (fX12_goInside (zI j) 0 v6) fun u18 => IL F u18 := by
    intro x
    unfold fX12_inside_L0_1
    rw [gI_z v6 100 38, h38, ld_z _ _ _ _ (by omega) (by omega), bd_s, Int.toNat_natCast, a4]
    rfl
  rw [show F + 2 = (F + 1) + 1 by omega, a1]
  cases b with
  | true => rw [if_neg (by decide), if_pos (by decide), s1, hg, if_pos (by decide)]; rfl
  | false => rw [if_pos (by decide), s1, hg, if_neg (by decide)]; rfl
/-- what a task comes to: o is what it should become -/
def RX (u0 v : St) (S NC NR nb c w g0 : Nat) (o : Option EvR) (l : List (Int × Int)) (vs : List Nat) (el : List (Nat × Int)) (ar : List Int) (na nf W MDm : Nat) (s G : List Cs) : Prop := ∃ (v' : St) (N : Nat), (∀ F, IL (F + N) v = IL F v') ∧ Fr QM v v' ∧ ((∃ E na' nf' z Gx MD' NR' gz, N ≤ 3 * c ∧ o = some (E, na', nf') ∧ EZ E z Gx ∧ RMk u0 v' S NC NR' nb l (gz :: vs) el ar na' nf' (W + w) MD' (z :: s) (G ++ Gx) ∧ MD' ≤ MDm ∧ NR ≤ NR' ∧ (∀ y, y < NR → J v' 119 y = J v 119 y) ∧ W + w ≤ 3000 ∧ nf ≤ nf' ∧ nf' ≤ nf + w ∧ na ≤ na' ∧ na' ≤ na + w ∧ Gx.length + 1 ≤ 2 * w) ∨ (I v' 100 47 = 1 ∧ N ≤ 75000 * (3001 - W) + 3 * g0 + 9 ∧ (o = none ∨ 3000 < W + w)))
theorem RX_pre {u0 v v1 : St} {S NC NR nb c w g0 g1 : Nat} {o : Option EvR} {l : List (Int × Int)} {vs : List Nat} {el : List (Nat × Int)} {ar : List Int} {na nf W MDm : Nat} {s G : List Cs} (hX : ∀ F, IL (F + 2) v = IL F v1) (hF : Fr QM v v1) (hJ : ∀ y, y < NR → J v1 119 y = J v 119 y) (hg : g0 + 1 ≤ g1) (h : RX u0 v1 S NC NR nb c w g0 o l vs el ar na nf W MDm s G) : RX u0 v S NC NR nb (c + 1) w g1 o l vs el ar na nf W MDm s G := by
  obtain ⟨v', N, h1, h2, h3⟩ := h
  refine ⟨v', N + 2, fun F => by rw [← Nat.add_assoc, hX, h1], Fr_tr hF h2, ?_⟩
  rcases h3 with ⟨E, na', nf', z, Gx, MD', NR', gz, q1, q2, q3, q4, q5, q6, q7, q8⟩ | ⟨q1, q2, q3⟩
  · exact Or.inl ⟨E, na', nf', z, Gx, MD', NR', gz, by omega, q2, q3, q4, q5, q6, fun y hy => (q7 y hy).trans (hJ y hy), q8⟩
  · exact Or.inr ⟨q1, by omega, q3⟩
theorem Qj_QM : ∀ k i, (Qts k i || k == 122 || k == 130 || k == 131 || k == 132 || k == 133 || k == 134 || (k == 100 && (i == 41 || i == 47 || i == 48 || i == 56 || i == 61))) = true → QM k i = true := by intro k i hk; simp [Qts] at hk; simp [QM]; omega
/-- a join -/
theorem rmk_join {u0 v : St} {S NC NR nb : Nat} (b : Bool) {l : List (Int × Int)} {gx gy : Nat} {x y : Cs} {vs : List Nat} {el : List (Nat × Int)} {ar : List Int} {na nf W MD : Nat} {s G : List Cs} (hl : l.length < 6000) (hvs : vs.length < 2990) (hG : G.length < 6100) (h : RMk u0 v S NC NR nb ((((jr b : Nat) : Int), 0) :: l) (gy :: gx :: vs) el ar na nf W MD (y :: x :: s) G) : ∃ v', (∀ F, IL (F + 3) v = IL F v') ∧ Fr QM v v' ∧ (∀ y, J v' 119 y = J v 119 y) ∧ RMk u0 v' S NC NR nb l (G.length :: vs) el ar na nf W MD (jn b x y :: s) (G ++ [jn b x y]) := by
  obtain ⟨v6, a1, a2, a3, a4⟩ := rmk_pop hl h
  obtain ⟨c1, c2, c3, c4, c5, c6, c7, c8, c9, c10, c11, c12, c13, c14, c15, c16⟩ := a2
  obtain ⟨w1, w2, w4⟩ := c16
  have hgx := get_lt w2
  have hgy := get_lt w1
  obtain ⟨v7, g1, g2, g3⟩ := got_spec v6 (gx :: vs) gy (by simp only [List.length_cons]; omega) c2
  obtain ⟨v8, g4, g5, g6⟩ := got_spec v7 vs gx (by omega) g2
  have c13' : I v8 100 56 = G.length := by rw [Fr_I g6 rfl, Fr_I g3 rfl]; exact c13
  obtain ⟨v9, t1, t2, t3, t4, t5, t6, t7, t8⟩ := tree_spec (v := v8) (g := G.length) (if b then 9 else 10) gx gy 0 hG c13' (by cases b <;> decide) (by cases b <;> decide) (by omega) (by omega) (by omega) (by omega) (Or.inl rfl)
  have hV9 : VS v9 vs := VS_fr t8 (fun _ => by simp) (by simp) g5
  obtain ⟨v10, p1, p2, p3⟩ := give_spec v9 vs G.length (by omega) hV9 (by omega)
  have F610 : Fr (fun k i => k == 122 || k == 130 || k == 131 || k == 132 || k == 133 || k == 134 || (k == 100 && (i == 41 || i == 47 || i == 48 || i == 56 || i == 61))) v6 v10 := Fr_tr (Fr_up2 (fun k i hk => by simp at hk; simp [hk]) g3) (Fr_tr (Fr_up2 (fun k i hk => by simp at hk; simp [hk]) g6) (Fr_tr (Fr_up2 (fun k i hk => by simp at hk; simp; omega) t8) (Fr_up2 (fun k i hk => by simp [Qvs] at hk; simp; omega) p3)))
  have hgen : ∀ q i, (q = 130 ∨ q = 131 ∨ q = 132 ∨ q = 133) → I v10 q i = I v9 q i := fun q i hq => Fr_I p3 (by simp [Qvs]; omega)
  refine ⟨v10, fun F => ?_, Fr_tr (Fr_up2 Qts_QM a3) (Fr_up2 (fun k i hk => by simp at hk; simp [QM]; omega) F610), fun y => by rw [Fr_J F610 (by simp), Fr_J a3 (by simp [Qts])], RMk_tree F610 c1 c5 c6 c7 c8 c9 c10 c11 c12 c15 p2 (by rw [Fr_I p3 (by simp [Qvs]), Fr_I t8 (by simp), Fr_I g6 rfl, Fr_I g3 rfl]; exact c3) (by rw [Fr_I p3 (by simp [Qvs]), Fr_I t8 (by simp), Fr_I g6 rfl, Fr_I g3 rfl]; exact c4) (by rw [Fr_I p3 (by simp [Qvs])]; exact t2) (by rw [Fr_I p3 (by simp [Qvs]), Fr_I t8 (by simp), Fr_I g6 rfl, Fr_I g3 rfl]; exact c14) (Nat.le_refl _) (fun i _ => by rw [Fr_I p3 (by simp [Qvs]), Fr_I t8 (by simp), Fr_I g6 rfl, Fr_I g3 rfl]) (fun q i hi hq => by rw [hgen q i hq, t7 q i hi hq, Fr_I g6 (by rcases hq with h | h | h | h <;> subst h <;> rfl), Fr_I g3 (by rcases hq with h | h | h | h <;> subst h <;> rfl)]) (Or.inr ⟨b, gx, gy, x, y, by rw [hgen _ _ (by simp)]; exact t3, by rw [hgen _ _ (by simp)]; exact t4, by rw [hgen _ _ (by simp)]; exact t5, hgx, hgy, get_app w2, get_app w1, rfl⟩) w4⟩
  have s2 : ∀ z, fX12_inside_L0 (F + 2) 2 z 0 0 0 v6 = fX12_inside_L0_2 (fX12_inside_L0 (F + 1)) z v6 := fun _ => rfl
  have s3 : ∀ p q r w, fX12_inside_L0 (F + 1) 3 0 p q r w = fX12_inside_L0_3 (fX12_inside_L0 F) p q r w := fun _ _ _ _ => rfl
  have hk : ∀ z, fX12_inside_L0_2 (fX12_inside_L0 (F + 1)) z v6 = fX12_inside_L0_3 (fX12_inside_L0 F) (zI gy) (zI gx) (if z = 22 then 9 else 10) v8 := by
    intro z
    unfold fX12_inside_L0_2
    rw [g1, b2_s, g4, b2_s]
    by_cases hz : z = 22
    · rw [if_pos hz, if_pos hz, s3]
    · rw [if_neg hz, if_neg hz, s3]
  have hf : fX12_inside_L0_3 (fX12_inside_L0 F) (zI gy) (zI gx) (zI (if b then 9 else 10)) v8 = IL F v10 := by
    unfold fX12_inside_L0_3
    rw [show (0 : Int32) = zI 0 from rfl, t1, b2_s, p1, bd_s]
    rfl
  rw [show F + 3 = (F + 2) + 1 by omega, a1]
  cases b with
  | true => rw [if_neg (by decide), if_neg (by decide), if_pos (by decide), s2, hk, if_pos (by decide)]; exact hf
  | false => rw [if_neg (by decide), if_neg (by decide), if_neg (by decide), if_pos (by decide), s2, hk, if_neg (by decide)]; exact hf
/-- two parts and their join -/
theorem rseq_spec {u0 v : St} {S NC NR nb c1 c2 w1 w2 g1 g2 : Nat} {o1 : Option EvR} {o2 : Nat → Nat → Option EvR} (b : Bool) {T2 l : List (Int × Int)} {vs : List Nat} {el : List (Nat × Int)} {ar : List Int} {na nf W M1 M2 : Nat} {s G : List Cs} (hl : l.length < 6000) (hvs : vs.length < 2990) (hG : G.length ≤ 2 * W) (h3 : 3 * c1 ≤ 75000 * w1) (h1 : RX u0 v S NC NR nb c1 w1 g1 o1 (T2 ++ (((jr b : Nat) : Int), 0) :: l) vs el ar na nf W M1 s G) (h2 : ∀ na1 nf1 z G' MD NR1 gz v', RMk u0 v' S NC NR1 nb (T2 ++ (((jr b : Nat) : Int), 0) :: l) (gz :: vs) el ar na1 nf1 (W + w1) MD (z :: s) G' → MD ≤ M1 → NR ≤ NR1 → (∀ y, y < NR → J v' 119 y = J v 119 y) → W + w1 ≤ 3000 → nf ≤ nf1 → nf1 ≤ nf + w1 → na ≤ na1 → na1 ≤ na + w1 → G'.length + 1 ≤ G.length + 2 * w1 → Fr QM v v' → RX u0 v' S NC NR1 nb c2 w2 g2 (o2 na1 nf1) ((((jr b : Nat) : Int), 0) :: l) (gz :: vs) el ar na1 nf1 (W + w1) M2 (z :: s) G') : RX u0 v S NC NR nb (c1 + c2 + 1) (w1 + w2) (max g1 g2) (thn o1 fun E1 na1 nf1 => thn (o2 na1 nf1) fun E2 na2 nf2 => some (E1 ++ (E2 ++ [.inr b]), na2, nf2)) l vs el ar na nf W M2 s G := by
  have m1 := Nat.le_max_left g1 g2
  have m2 := Nat.le_max_right g1 g2
  obtain ⟨v1, N1, a2, a3, a4⟩ := h1
  rcases a4 with ⟨E1, na1, nf1, z1, G1, MD1, NR1, gz1, p0, p1, p2, p3, p4, p5, p6, p7, p8, p9, p10, p11, p12⟩ | ⟨p1, p2, p3⟩
  · obtain ⟨v2, N2, b2', b3, b4⟩ := h2 na1 nf1 z1 (G ++ G1) MD1 NR1 gz1 v1 p3 p4 p5 p6 p7 p8 p9 p10 p11 (by rw [List.length_append]; omega) a3
    rcases b4 with ⟨E2, na2, nf2, z2, G2, MD2, NR2, gz2, q0, q1, q2, q3, q4, q5, q6, q7, q8, q9, q10, q11, q12⟩ | ⟨q1, q2, q3⟩
    · obtain ⟨v3, j1, j2, j3, j4⟩ := rmk_join b hl hvs (by rw [List.length_append, List.length_append]; omega) q3
      refine ⟨v3, N1 + N2 + 3, fun F => ?_, Fr_tr a3 (Fr_tr b3 j2), Or.inl ⟨_, na2, nf2, _, _, MD2, NR2, (G ++ G1 ++ G2).length, by omega, by rw [p1, thn_s, q1, thn_s], EZ_join b p2 q2, ?_, q4, by omega, fun y hy => by rw [j3, q6 y (by omega)]; exact p6 y hy, by omega, by omega, by omega, by omega, by omega, ?_⟩⟩
      · rw [show F + (N1 + N2 + 3) = ((F + 3) + N2) + N1 by omega, a2, b2', j1]
      · rw [show G ++ (G1 ++ (G2 ++ [jn b z1 z2])) = G ++ G1 ++ G2 ++ [jn b z1 z2] by simp only [List.append_assoc], ← Nat.add_assoc]; exact j4
      · simp only [List.length_append, List.length_cons, List.length_nil]; omega
    · refine ⟨v2, N1 + N2, fun F => by rw [show F + (N1 + N2) = (F + N2) + N1 by omega, a2, b2'], Fr_tr a3 b3, Or.inr ⟨q1, by omega, ?_⟩⟩
      rcases q3 with q3 | q3
      · left; rw [p1, thn_s, q3, thn_n]
      · right; omega
  · refine ⟨v1, N1, a2, a3, Or.inr ⟨p1, by omega, ?_⟩⟩
    rcases p3 with p3 | p3
    · left; rw [p3, thn_n]
    · right; omega
