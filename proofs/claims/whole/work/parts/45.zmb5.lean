/-! reading: variables that nothing binds: tasks -/
def Qfe : Nat → Nat → Bool := fun k i => k == 119 || k == 120 || k == 121 || k == 126 || k == 127 || k == 143 || (k == 100 && (i == 35 || i == 38 || i == 49 || i == 73))
theorem Qfe_QM : ∀ k i, Qfe k i = true → QM k i = true := by intro k i hk; simp [Qfe] at hk; simp [QM]; omega
theorem Qts_Qfe : ∀ k i, Qts k i = true → Qfe k i = true := by intro k i hk; simp [Qts] at hk; simp [Qfe]; omega
def FLt (G : Nat) (v : St) : Option St := fX12_free_L0 G 0 0 v
theorem FRk_ts {u0 v v' : St} {NC NR R : Nat} {l l' : List (Int × Int)} {bs F : List Nat} (hF : Fr Qts v v') (hT : TS v' l') (h : FRk u0 v NC NR R l bs F) : FRk u0 v' NC NR R l' bs F := by
  obtain ⟨f1, f2, f3, f4, f5, f6, f7, f8, f9, f10⟩ := h
  refine ⟨hT, by rw [Fr_I hF rfl]; exact f2, fun i z hz => ?_, NMx_fr hF (fun _ => rfl) rfl f4, by rw [Fr_I hF rfl]; exact f5, fun i z hz => ?_, f7, f8, f9, f10⟩
  · obtain ⟨y', z1, z2, z3⟩ := f3 i z hz
    exact ⟨y', z1, by rw [Fr_I hF rfl]; exact z2, by rw [Fr_J hF rfl]; exact z3⟩
  · obtain ⟨y', z1, z2, z3⟩ := f6 i z hz
    exact ⟨y', z1, by rw [Fr_I hF rfl]; exact z2, by rw [Fr_J hF rfl]; exact z3⟩
theorem fr_push {u0 v : St} {NC NR R : Nat} {l : List (Int × Int)} {bs F : List Nat} (w n : Nat) (hw : w < 100) (hn : n < 2000) (hl : l.length < 6000) (h : FRk u0 v NC NR R l bs F) : ∃ v', fX12_push (zI w) (zI n) v = some v' ∧ FRk u0 v' NC NR R (((w : Int), (n : Int)) :: l) bs F ∧ Fr Qts v v' := by
  obtain ⟨v', a1, a2, a3⟩ := rpush_spec v l w n hl h.1 (by omega) (by omega) (by omega) (by omega)
  exact ⟨v', a1, FRk_ts a3 a2 h, a3⟩
/-- a task is taken: its node's kind decides -/
theorem fr_pop {u0 v : St} {NC NR R j k : Nat} {l : List (Int × Int)} {bs F : List Nat} (hl : l.length < 6000) (hj : j < 1600) (hk : I v 114 j = k) (h : FRk u0 v NC NR R ((((20 : Nat) : Int), (j : Int)) :: l) bs F) : ∃ v2, (∀ G, FLt (G + 1) v = if zI (k : Int) = 15 then (bd (fX12_freeOf (zI j) v2) fun u16 => FLt G u16) else if zI (k : Int) = 11 then fX12_free_L0 G 1 (zI j) v2 else if zI (k : Int) = 12 then fX12_free_L0 G 1 (zI j) v2 else if zI (k : Int) = 8 then fX12_free_L0 G 2 (zI j) v2 else bd (fX12_push 20 (zI (I v2 116 j)) v2) fun u15 => fX12_free_L0 G 2 (zI j) u15) ∧ FRk u0 v2 NC NR R l bs F ∧ Fr Qts v v2 := by
  have h38 : I v 100 38 = ((l.length + 1 : Nat) : Int) := h.1.1
  obtain ⟨v2, hv2⟩ : ∃ v2, uI v 100 38 (zI l.length) = v2 := ⟨_, rfl⟩
  have F1 : Fr (fun k i => k == 100 && i == 38) v v2 := by rw [← hv2]; exact Fr_up rfl (Fr_rfl _ _)
  have F2 : Fr Qts v v2 := Fr_up2 (fun k i hk => by simp at hk; simp [Qts, hk]) F1
  have e38 : I v2 100 38 = l.length := by rw [← hv2]; exact I_uI1 _ _ _ _ (by omega) (by omega)
  have e120 : I v2 120 l.length = ((20 : Nat) : Int) := by rw [Fr_I F1 rfl]; exact h.1.2.1
  have e121 : I v2 121 l.length = j := by rw [Fr_I F1 rfl]; exact h.1.2.2.1
  refine ⟨v2, fun G => ?_, FRk_ts F2 ⟨e38, TKl_eq l l.length (Nat.le_refl _) (fun i _ => ⟨Fr_I F1 rfl, Fr_I F1 rfl⟩) h.1.2.2.2⟩ h, F2⟩
  have sx : FLt (G + 1) v = fX12_free_L0_0 (fX12_free_L0 G) v := rfl
  rw [sx]
  unfold fX12_free_L0_0
  rw [gI_z v 100 38, h38, if_neg (by rw [z_zero, z_le (by omega) (by omega) (by decide) (by decide)]; omega), show (zI ((l.length + 1 : Nat) : Int) - 1 : Int32) = zI l.length by rw [show (1 : Int32) = zI 1 from rfl, z_sub]; congr 1; omega, lt_e, hv2, gI_z v2 100 38, e38, ld_z _ _ _ _ (by omega) (by omega), bd_s, ld_z _ _ _ _ (by omega) (by omega), bd_s, Int.toNat_natCast, e121, e120, if_neg (by decide), ld_z _ _ _ _ (by omega) (by omega), bd_s, bd_s, bd_s, bd_s, Int.toNat_natCast, Fr_I F1 rfl, hk, ld_z _ _ _ _ (by omega) (by omega), bd_s, Int.toNat_natCast]
  rfl
theorem fr_free {u0 v : St} {NC NR R x : Nat} {l : List (Int × Int)} {bs F : List Nat} (hl : l.length < 6000) (hbs : bs.length < 700) (h : FRk u0 v NC NR R ((((24 : Nat) : Int), ((0 : Nat) : Int)) :: l) (bs ++ [x]) F) : ∃ v2, (∀ G, FLt (G + 1) v = FLt G v2) ∧ FRk u0 v2 NC NR R l bs F ∧ Fr Qfe v v2 ∧ ∀ y, J v2 119 y = J v 119 y := by
  have h38 : I v 100 38 = ((l.length + 1 : Nat) : Int) := h.1.1
  have h49 : I v 100 49 = ((bs.length + 1 : Nat) : Int) := by have := h.2.1; rw [List.length_append] at this; exact this
  obtain ⟨va, hva⟩ : ∃ va, uI v 100 38 (zI l.length) = va := ⟨_, rfl⟩
  have F1 : Fr (fun k i => k == 100 && i == 38) v va := by rw [← hva]; exact Fr_up rfl (Fr_rfl _ _)
  have e38 : I va 100 38 = l.length := by rw [← hva]; exact I_uI1 _ _ _ _ (by omega) (by omega)
  have e120 : I va 120 l.length = ((24 : Nat) : Int) := by rw [Fr_I F1 rfl]; exact h.1.2.1
  have e121 : I va 121 l.length = ((0 : Nat) : Int) := by rw [Fr_I F1 rfl]; exact h.1.2.2.1
  obtain ⟨vb, hvb⟩ : ∃ vb, uI va 100 49 (zI bs.length) = vb := ⟨_, rfl⟩
  have F2 : Fr (fun k i => k == 100 && i == 49) va vb := by rw [← hvb]; exact Fr_up rfl (Fr_rfl _ _)
  have F3 : Fr (fun k i => k == 100 && (i == 38 || i == 49)) v vb := Fr_tr (Fr_up2 (fun k i hk => by simp at hk; simp [hk]) F1) (Fr_up2 (fun k i hk => by simp at hk; simp [hk]) F2)
  obtain ⟨f1, f2, f3, f4, f5, f6, f7, f8, f9, f10⟩ := h
  refine ⟨vb, fun G => ?_, ⟨⟨by rw [Fr_I F2 rfl]; exact e38, TKl_eq l l.length (Nat.le_refl _) (fun i _ => ⟨Fr_I F3 rfl, Fr_I F3 rfl⟩) f1.2.2.2⟩, by rw [← hvb]; exact I_uI1 _ _ _ _ (by omega) (by omega), fun i z hz => ?_, NMx_fr F3 (fun _ => rfl) rfl f4, by rw [Fr_I F3 rfl]; exact f5, fun i z hz => ?_, f7, fun z hz => f8 z (List.mem_append_left _ hz), f9, f10⟩, Fr_up2 (fun k i hk => by simp at hk; simp [Qfe]; omega) F3, fun y => Fr_J F3 rfl⟩
  · have sx : FLt (G + 1) v = fX12_free_L0_0 (fX12_free_L0 G) v := rfl
    rw [sx]
    unfold fX12_free_L0_0
    rw [gI_z v 100 38, h38, if_neg (by rw [z_zero, z_le (by omega) (by omega) (by decide) (by decide)]; omega), show (zI ((l.length + 1 : Nat) : Int) - 1 : Int32) = zI l.length by rw [show (1 : Int32) = zI 1 from rfl, z_sub]; congr 1; omega, lt_e, hva, gI_z va 100 38, e38, ld_z _ _ _ _ (by omega) (by omega), bd_s, ld_z _ _ _ _ (by omega) (by omega), bd_s, Int.toNat_natCast, e121, e120, if_pos (by decide), gI_z va 100 49, Fr_I F1 rfl, h49, show (zI ((bs.length + 1 : Nat) : Int) - 1 : Int32) = zI bs.length by rw [show (1 : Int32) = zI 1 from rfl, z_sub]; congr 1; omega, lt_e, hvb]
    rfl
  · obtain ⟨y', z1, z2, z3⟩ := f3 i z (get_app hz)
    exact ⟨y', z1, by rw [Fr_I F3 rfl]; exact z2, by rw [Fr_J F3 rfl]; exact z3⟩
  · obtain ⟨y', z1, z2, z3⟩ := f6 i z hz
    exact ⟨y', z1, by rw [Fr_I F3 rfl]; exact z2, by rw [Fr_J F3 rfl]; exact z3⟩
theorem NLr_up {u0 v v' : St} {NR NR' k : Nat} {L : List Nat} (hN : NR ≤ NR') (hI : ∀ i, i < L.length → I v' k i = I v k i) (hJ : ∀ y, y < NR → J v' 119 y = J v 119 y) (h : NLr u0 v NR k L) : NLr u0 v' NR' k L := fun i z hz => by
  obtain ⟨y, z1, z2, z3⟩ := h i z hz
  exact ⟨y, by omega, by rw [hI i (get_lt hz)]; exact z2, by rw [hJ y z1]; exact z3⟩
/-- a quantifier binds -/
theorem fr_bind {u0 v : St} {NC NR R j j1 x : Nat} {l : List (Int × Int)} {bs F : List Nat} (hj : j < 1600) (hj1 : j1 < 2000) (h115 : I v 115 j = j1) (hNC : NC ≤ 1501) (hx : x < NC) (hw : NmR (J u0 38 x) (J v 117 j)) (hl : l.length < 5900) (hbs : bs.length < 600) (h : FRk u0 v NC NR R l bs F) : ∃ (v' : St) (NR' : Nat), (∀ G, fX12_free_L0 (G + 1) 1 (zI j) v = FLt G v') ∧ FRk u0 v' NC NR' R ((((20 : Nat) : Int), (j1 : Int)) :: (((24 : Nat) : Int), ((0 : Nat) : Int)) :: l) (bs ++ [x]) F ∧ NR ≤ NR' ∧ (∀ y, y < NR → J v' 119 y = J v 119 y) ∧ Fr Qfe v v' := by
  obtain ⟨f1, f2, f3, f4, f5, f6, f7, f8, f9, f10⟩ := h
  obtain ⟨va, y, NR', b1, b2', b3, b4, b5, b6, Fa⟩ := rvar_both f4 hNC hx hw
  have hNR := names_le b2'
  obtain ⟨vb, k1, k2, k3, k4, k5, Fb⟩ := rbind_spec (v := va) (n := bs.length) (y : Int) 0 (by omega) (by rw [Fr_I Fa rfl]; exact f2) (by omega) (by omega) (by omega) (by omega)
  have hJ : ∀ i, J vb 119 i = J va 119 i := fun i => Fr_J Fb rfl
  have hFR : FRk u0 vb NC NR' R l (bs ++ [x]) F := by
    refine ⟨TS_fr Fb (fun _ => rfl) (fun _ => rfl) rfl (TS_fr Fa (fun _ => rfl) (fun _ => rfl) rfl f1), by rw [k4]; simp, fun i z hz => ?_, NMx_fr Fb (fun _ => rfl) rfl b2', by rw [Fr_I Fb rfl, Fr_I Fa rfl]; exact f5, NLr_up b4 (fun i _ => by rw [Fr_I Fb rfl, Fr_I Fa rfl]) (fun y hy => by rw [hJ]; exact b6 y hy) f6, f7, fun z hz => ?_, f9, f10⟩
    · by_cases hi : i < bs.length
      · rw [List.getElem?_append_left hi] at hz
        obtain ⟨y', z1, z2, z3⟩ := f3 i z hz
        exact ⟨y', by omega, by rw [(k5 i (by omega)).1, Fr_I Fa rfl]; exact z2, by rw [hJ, b6 y' z1]; exact z3⟩
      · have hl2 := get_lt hz
        simp only [List.length_append, List.length_cons, List.length_nil] at hl2
        have : i = bs.length := by omega
        subst this
        rw [List.getElem?_append_right (Nat.le_refl _), Nat.sub_self] at hz
        have : x = z := by simpa using hz
        subst this
        exact ⟨y, b3, k2, by rw [hJ, b5]; exact hw⟩
    · rcases List.mem_append.1 hz with h | h
      · exact f8 z h
      · simp at h; subst h; exact hx
  obtain ⟨vc, p1, p2, Fc⟩ := fr_push 24 0 (by decide) (by decide) (by omega) hFR
  obtain ⟨vd, q1, q2, Fd⟩ := fr_push 20 j1 (by decide) hj1 (by simp only [List.length_cons]; omega) p2
  refine ⟨vd, NR', fun G => ?_, q2, b4, fun y hy => by rw [Fr_J Fd rfl, Fr_J Fc rfl, hJ]; exact b6 y hy, Fr_tr (Fr_up2 (fun k i hk => by simp [Qva] at hk; simp [Qfe]; omega) Fa) (Fr_tr (Fr_up2 (fun k i hk => by simp at hk; simp [Qfe]; omega) Fb) (Fr_up2 Qts_Qfe (Fr_tr Fc Fd)))⟩
  have sx : fX12_free_L0 (G + 1) 1 (zI j) v = fX12_free_L0_1 (fX12_free_L0 G) (zI j) v := rfl
  rw [sx]
  unfold fX12_free_L0_1
  rw [ldJ_z _ _ _ _ (by omega) (by omega), bd_s, Int.toNat_natCast, b1, b2_s, show (0 : Int32) = zI 0 from rfl, k1, bd_s, show (24 : Int32) = zI ((24 : Nat) : Int) from rfl, show (zI 0 : Int32) = zI ((0 : Nat) : Int) from rfl, p1, bd_s, ld_z _ _ _ _ (by omega) (by omega), bd_s, Int.toNat_natCast, Fr_I Fc rfl, Fr_I Fb rfl, Fr_I Fa rfl, h115, show (20 : Int32) = zI ((20 : Nat) : Int) from rfl, q1, bd_s]
  rfl
def FX (u0 v : St) (NC NR R g : Nat) (l : List (Int × Int)) (bs F' : List Nat) : Prop := ∃ (v' : St) (N NR' : Nat), N ≤ 3 * (g + 1) ∧ (∀ G, FLt (G + N) v = FLt G v') ∧ Fr Qfe v v' ∧ NR ≤ NR' ∧ (∀ y, y < NR → J v' 119 y = J v 119 y) ∧ FRk u0 v' NC NR' R l bs F'
def FN (u0 v0 : St) (NC NR0 R j g q : Nat) (occ : List Nat) : Prop := ∀ (l : List (Int × Int)) (bs F : List Nat) (NR : Nat) (v : St), AGR v0 v NR0 → NR0 ≤ NR → FRk u0 v NC NR R ((((20 : Nat) : Int), (j : Int)) :: l) bs F → l.length + g + 1 ≤ 5900 → bs.length + q ≤ 600 → FX u0 v NC NR R g l bs (addF (fun y => bs.count y) F occ)
theorem FN_two {u0 v0 v : St} {NC NR NR0 R j1 j2 g1 g2 q1 q2 : Nat} {o1 o2 : List Nat} (n1 : FN u0 v0 NC NR0 R j1 g1 q1 o1) (n2 : FN u0 v0 NC NR0 R j2 g2 q2 o2) {l : List (Int × Int)} {bs F : List Nat} (hA : AGR v0 v NR0) (hN : NR0 ≤ NR) (h : FRk u0 v NC NR R ((((20 : Nat) : Int), (j1 : Int)) :: (((20 : Nat) : Int), (j2 : Int)) :: l) bs F) (hl1 : l.length + g1 + 2 ≤ 5900) (hl2 : l.length + g2 + 1 ≤ 5900) (hq1 : bs.length + q1 ≤ 600) (hq2 : bs.length + q2 ≤ 600) : ∃ (v' : St) (N NR' : Nat), N ≤ 3 * (g1 + 1) + 3 * (g2 + 1) ∧ (∀ G, FLt (G + N) v = FLt G v') ∧ Fr Qfe v v' ∧ NR ≤ NR' ∧ (∀ y, y < NR → J v' 119 y = J v 119 y) ∧ FRk u0 v' NC NR' R l bs (addF (fun y => bs.count y) F (o1 ++ o2)) := by
  obtain ⟨va, N1, NR1, a1, a2, a3, a4, a5, a6⟩ := n1 _ bs F NR v hA hN h (by simp only [List.length_cons]; omega) hq1
  obtain ⟨vb, N2, NR2, b1, b2', b3, b4, b5, b6⟩ := n2 _ bs _ NR1 va (AGR_fr hA (Fr_up2 Qfe_QM a3) hN a5) (by omega) a6 hl2 hq2
  refine ⟨vb, N1 + N2, NR2, by omega, fun G => by rw [show G + (N1 + N2) = (G + N2) + N1 by omega, a2, b2'], Fr_tr a3 b3, by omega, fun y hy => by rw [b5 y (by omega)]; exact a5 y hy, ?_⟩
  rw [addF_app]; exact b6
theorem FN_all {u0 v0 : St} {S R NC NR0 kc lo hi : Nat} (hR : R ≤ 250) (hNC : NC ≤ 1501) (hhi : hi ≤ 1501) (hS : S ≤ 811) (hNc : ∀ x x', x < NC → x' < NC → J u0 38 x = J u0 38 x' → x = x') (d : Nat) : ∀ i j w g h q c occ, IS u0 v0 S R NC NR0 kc lo hi d i j w g h q c occ → FN u0 v0 NC NR0 R j g q occ := by
  induction d with
  | zero => intro i j w g h q c occ hh; exact hh.elim
  | succ d ih =>
    intro i j w g h q c occ hh l bs F NR v hA hN hF hl hq
    obtain ⟨a1, a2, a3, a4, hh⟩ := hh
    have e114 : I v 114 j = I v0 114 j := hA.1 114 j (by simp)
    have two : ∀ (k : Nat) (j1 j2 g1 g2 q1 q2 : Nat) (o1 o2 : List Nat), (k = 9 ∨ k = 10 ∨ k = 13 ∨ k = 14) → I v0 114 j = k → I v0 115 j = j1 → I v0 116 j = j2 → j1 < 2000 → j2 < 2000 → FN u0 v0 NC NR0 R j1 g1 q1 o1 → FN u0 v0 NC NR0 R j2 g2 q2 o2 → g1 + g2 + 2 ≤ g → q1 ≤ q → q2 ≤ q → occ = o1 ++ o2 → FX u0 v NC NR R g l bs (addF (fun y => bs.count y) F occ) := by
      intro k j1 j2 g1 g2 q1 q2 o1 o2 hk x1 x2 x3 x4 x5 n1 n2 x6 x7 x8 x9
      obtain ⟨v2, p1, p2, p3⟩ := fr_pop (by omega) (show j < 1600 by omega) (by rw [e114]; exact x1) hF
      have hA2 := AGR_ts hA p3
      obtain ⟨v3, k1, k2, k3⟩ := fr_push 20 j2 (by decide) x5 (by omega) p2
      have hA3 := AGR_ts hA2 k3
      obtain ⟨v4, m1, m2, m3⟩ := fr_push 20 j1 (by decide) x4 (by simp only [List.length_cons]; omega) k2
      obtain ⟨v5, N, NR', t1, t2, t3, t4, t5, t6⟩ := FN_two n1 n2 (AGR_ts hA3 m3) hN m2 (by omega) (by omega) (by omega) (by omega)
      have hX : ∀ G, FLt (G + 2) v = FLt G v4 := by
        intro G
        have s2 : fX12_free_L0 (G + 1) 2 (zI j) v3 = fX12_free_L0_2 (fX12_free_L0 G) (zI j) v3 := rfl
        have hs2 : fX12_free_L0_2 (fX12_free_L0 G) (zI j) v3 = FLt G v4 := by
          unfold fX12_free_L0_2
          rw [ld_z _ _ _ _ (by omega) (by omega), bd_s, Int.toNat_natCast, hA3.1 115 j (by simp), x2, show (20 : Int32) = zI ((20 : Nat) : Int) from rfl, m1, bd_s]; rfl
        rw [show G + 2 = (G + 1) + 1 by omega, p1]
        have hbr : (bd (fX12_push 20 (zI (I v2 116 j)) v2) fun u15 => fX12_free_L0 (G + 1) 2 (zI j) u15) = FLt G v4 := by
          rw [hA2.1 116 j (by simp), x3, show (20 : Int32) = zI ((20 : Nat) : Int) from rfl, k1, bd_s, s2, hs2]
        rcases hk with h | h | h | h <;> subst h <;> rw [if_neg (by decide), if_neg (by decide), if_neg (by decide), if_neg (by decide)] <;> exact hbr
      refine ⟨v5, 2 + N, NR', by omega, fun G => by rw [show G + (2 + N) = (G + N) + 2 by omega, hX, t2], Fr_tr (Fr_up2 Qts_Qfe (Fr_tr p3 (Fr_tr k3 m3))) t3, t4, fun y hy => by rw [t5 y hy, Fr_J m3 rfl, Fr_J k3 rfl, Fr_J p3 rfl], by rw [x9]; exact t6⟩
    rcases hh with ⟨a, b, b1, b2, b3, b4, b5, b6, b7, b8, b9, b10, b11, b12, b13, b14, b15, b16⟩ | ⟨i1, j1, c1, g1, b1, b2, b3, b4, b5, b5g, b6⟩ | ⟨kk, i1, i2, j1, j2, w1, w2, g1, g2, h1, h2, q1, q2, c1, c2, o1, o2, b1, b2, b3, b4, b5, b6, b7, b8, b9, b10, b11, b12, b13, b14, b15⟩ | ⟨i1, i2, j1, j2, w1, w2, g1, g2, h1, h2, q1, q2, c1, c2, o1, o2, b2, b3, b4, b5, b6, b7, b8, b9, b10, b11, b12, b13, b14, b15⟩ | ⟨kk, x, i1, j1, w1, g1, q1, c1, o1, b1, b2, b3, b4, b5, b6, b7, b8, b9, b10, b11, b12, b13, b14⟩
    · obtain ⟨v2, p1, p2, p3⟩ := fr_pop (k := 15) (by omega) (show j < 1600 by omega) (by rw [e114]; exact b4) hF
      have hA2 := AGR_ts hA p3
      obtain ⟨v3, k1, k2, k3⟩ := fr_atom (S := S) (j := j) (b := b) (by omega) b2 hR (by omega) hNC hS hNc (b - a) a F v2 FU (by omega) (by unfold FU; omega) p2 (by rw [hA2.1 116 j (by simp)]; exact b8) (fun k h1 h2 => CEd_agr hA2 hN (b9.1 k h1 h2))
      have hfo : fX12_freeOf (zI j) v2 = some v3 := by
        unfold fX12_freeOf
        rw [ld_z _ _ _ _ (by omega) (by omega), bd_s, Int.toNat_natCast, hA2.1 115 j (by simp), b7, k1]
      refine ⟨v3, 1, NR, by omega, fun G => by rw [p1, if_pos (by decide), hfo, bd_s], Fr_tr (Fr_up2 Qts_Qfe p3) (Fr_up2 (fun k i hk => by simp [Qfr] at hk; simp [Qfe]; omega) k3), Nat.le_refl _, fun y hy => by rw [Fr_J k3 rfl, Fr_J p3 rfl], by rw [b12]; exact k2⟩
    · have hi1 := IS_bits b6
      obtain ⟨v2, p1, p2, p3⟩ := fr_pop (k := 8) (by omega) (show j < 1600 by omega) (by rw [e114]; exact b2) hF
      have hA2 := AGR_ts hA p3
      obtain ⟨v4, m1, m2, m3⟩ := fr_push 20 j1 (by decide) (by omega) (by omega) p2
      obtain ⟨v5, N, NR', t1, t2, t3, t4, t5, t6⟩ := ih _ _ _ _ _ _ _ _ b6 l bs F NR v4 (AGR_ts hA2 m3) hN m2 (by omega) hq
      have hX : ∀ G, FLt (G + 2) v = FLt G v4 := by
        intro G
        have s2 : fX12_free_L0 (G + 1) 2 (zI j) v2 = fX12_free_L0_2 (fX12_free_L0 G) (zI j) v2 := rfl
        rw [show G + 2 = (G + 1) + 1 by omega, p1, if_neg (by decide), if_neg (by decide), if_neg (by decide), if_pos (by decide), s2]
        unfold fX12_free_L0_2
        rw [ld_z _ _ _ _ (by omega) (by omega), bd_s, Int.toNat_natCast, hA2.1 115 j (by simp), b4, show (20 : Int32) = zI ((20 : Nat) : Int) from rfl, m1, bd_s]; rfl
      exact ⟨v5, 2 + N, NR', by omega, fun G => by rw [show G + (2 + N) = (G + N) + 2 by omega, hX, t2], Fr_tr (Fr_up2 Qts_Qfe (Fr_tr p3 m3)) t3, t4, fun y hy => by rw [t5 y hy, Fr_J m3 rfl, Fr_J p3 rfl], t6⟩
    · have m1 : q1 ≤ q ∧ q2 ≤ q := by rw [b11]; exact ⟨Nat.le_max_left _ _, Nat.le_max_right _ _⟩
      have hi1 := IS_bits b14
      have hi2 := IS_bits b15
      refine two (if kk = 2 then 9 else if kk = 3 then 10 else 13) j1 j2 g1 g2 q1 q2 o1 o2 (by rcases b1 with hk | hk | hk <;> subst hk <;> simp) (by rw [b3]; rcases b1 with hk | hk | hk <;> subst hk <;> rfl) b6 b7 (by omega) (by omega) (ih _ _ _ _ _ _ _ _ b14) (ih _ _ _ _ _ _ _ _ b15) (by omega) m1.1 m1.2 b13
    · have m1 : q1 ≤ q ∧ q2 ≤ q := by rw [b11]; exact ⟨Nat.le_max_left _ _, Nat.le_max_right _ _⟩
      have hi1 := IS_bits b14
      have hi2 := IS_bits b15
      exact two 14 j1 j2 g1 g2 q1 q2 o1 o2 (by simp) b3 b6 b7 (by omega) (by omega) (ih _ _ _ _ _ _ _ _ b14) (ih _ _ _ _ _ _ _ _ b15) (by omega) m1.1 m1.2 b13
    · have hi1 := IS_bits b14
      obtain ⟨v2, p1, p2, p3⟩ := fr_pop (k := if kk = 6 then 11 else 12) (by omega) (show j < 1600 by omega) (by rw [e114, b3]; rcases b1 with hk | hk <;> subst hk <;> rfl) hF
      have hA2 := AGR_ts hA p3
      obtain ⟨v3, NR1, k1, k2, k3, k4, k5⟩ := fr_bind (j := j) (j1 := j1) (x := x) (by omega) (by omega) (by rw [hA2.1 115 j (by simp)]; exact b8) hNC b5 (by rw [hA2.2.1 j]; exact b6) (by omega) (by omega) p2
      obtain ⟨v5, N, NR', t1, t2, t3, t4, t5, t6⟩ := ih _ _ _ _ _ _ _ _ b14 _ (bs ++ [x]) F NR1 v3 (AGR_fr hA2 (Fr_up2 Qfe_QM k5) hN k4) (by omega) k2 (by simp only [List.length_cons]; omega) (by rw [List.length_append]; simp only [List.length_cons, List.length_nil]; omega)
      obtain ⟨v6, r1, r2, r3, r4⟩ := fr_free (by omega) (by omega) t6
      have hX : ∀ G, FLt (G + 2) v = FLt G v3 := by
        intro G
        rw [show G + 2 = (G + 1) + 1 by omega, p1]
        rcases b1 with hk | hk <;> subst hk
        · rw [if_neg (by decide), if_pos (by decide), k1]
        · rw [if_neg (by decide), if_neg (by decide), if_pos (by decide), k1]
      have hadd : addF (fun y => (bs ++ [x]).count y) F o1 = addF (fun y => bs.count y) F occ := by
        rw [b13]
        exact addF_bind _ _ x (fun y => by
          show (bs ++ [x]).count y = _
          rw [List.count_append, List.count_cons, List.count_nil]
          by_cases hy : y = x
          · subst hy; simp
          · rw [if_neg hy, if_neg (by simp; exact fun h => hy h.symm)]; omega) o1 F
      refine ⟨v6, 2 + N + 1, NR', by omega, fun G => by rw [show G + (2 + N + 1) = ((G + 1) + N) + 2 by omega, hX, t2, r1], Fr_tr (Fr_up2 Qts_Qfe p3) (Fr_tr k5 (Fr_tr t3 r3)), by omega, fun y hy => by rw [r4, t5 y (by omega), k4 y hy, Fr_J p3 rfl], by rw [← hadd]; exact r2⟩
