/-! reading: all of a formula's tasks, in the reference -/
def AGR (v0 v : St) (NR0 : Nat) : Prop := (∀ k i, (k = 114 ∨ k = 115 ∨ k = 116 ∨ k = 118) → I v k i = I v0 k i) ∧ (∀ i, J v 117 i = J v0 117 i) ∧ ∀ y, y < NR0 → J v 119 y = J v0 119 y
theorem AGR_fr {v0 v v' : St} {NR0 NR : Nat} (h : AGR v0 v NR0) (hF : Fr QM v v') (hN : NR0 ≤ NR) (hJ : ∀ y, y < NR → J v' 119 y = J v 119 y) : AGR v0 v' NR0 := ⟨fun k i hk => by rw [Fr_I hF (by simp [QM]; omega)]; exact h.1 k i hk, fun i => by rw [Fr_J hF (by simp [QM])]; exact h.2.1 i, fun y hy => by rw [hJ y (by omega)]; exact h.2.2 y hy⟩
theorem AGR_ts {v0 v v' : St} {NR0 : Nat} (h : AGR v0 v NR0) (hF : Fr Qts v v') : AGR v0 v' NR0 := AGR_fr h (Fr_up2 Qts_QM hF) (Nat.le_refl _) (fun y _ => Fr_J hF rfl)
theorem IS_c {u v : St} {S R NC NR kc lo hi : Nat} (d : Nat) : ∀ i j w g h q c occ, IS u v S R NC NR kc lo hi d i j w g h q c occ → 1 ≤ w ∧ ∀ K, 2 * g + 3 ≤ K → c + 2 ≤ K * w := by
  induction d with
  | zero => intro i j w g h q c occ hh; exact hh.elim
  | succ d ih =>
    intro i j w g h q c occ hh
    obtain ⟨a1, a2, a3, a4, hh⟩ := hh
    rcases hh with ⟨a, b, b1, b2, b3, b4, b5, b6, b7, b8, b9, b10, b11, b12, b13, b14, b15, b16⟩ | ⟨i1, j1, c1, g1, b1, b2, b3, b4, b5, b5g, b6⟩ | ⟨kk, i1, i2, j1, j2, w1, w2, g1, g2, h1, h2, q1, q2, c1, c2, o1, o2, b1, b2, b3, b4, b5, b6, b7, b8, b9, b10, b11, b12, b13, b14, b15⟩ | ⟨i1, i2, j1, j2, w1, w2, g1, g2, h1, h2, q1, q2, c1, c2, o1, o2, b2, b3, b4, b5, b6, b7, b8, b9, b10, b11, b12, b13, b14, b15⟩ | ⟨kk, x, i1, j1, w1, g1, q1, c1, o1, b1, b2, b3, b4, b5, b6, b7, b8, b9, b10, b11, b12, b13, b14⟩
    · refine ⟨by omega, fun K hK => ?_⟩
      have hw : 1 ≤ w := by omega
      have := Nat.mul_le_mul_left K hw
      omega
    · obtain ⟨x1, x2⟩ := ih _ _ _ _ _ _ _ _ b6
      refine ⟨x1, fun K hK => ?_⟩
      have := x2 (K - 2) (by omega)
      obtain ⟨K', rfl⟩ : ∃ K', K = K' + 2 := ⟨K - 2, by omega⟩
      rw [Nat.add_mul]
      rw [show K' + 2 - 2 = K' by omega] at this
      omega
    · obtain ⟨x1, x2⟩ := ih _ _ _ _ _ _ _ _ b14
      obtain ⟨y1, y2⟩ := ih _ _ _ _ _ _ _ _ b15
      refine ⟨by omega, fun K hK => ?_⟩
      have z1 := x2 K (by omega)
      have z2 := y2 K (by omega)
      rw [b8, Nat.mul_add]; omega
    · obtain ⟨x1, x2⟩ := ih _ _ _ _ _ _ _ _ b14
      obtain ⟨y1, y2⟩ := ih _ _ _ _ _ _ _ _ b15
      refine ⟨by omega, fun K hK => ?_⟩
      have z1 := x2 K (by omega)
      have z2 := y2 K (by omega)
      have e : K * w = 2 * (K * w1 + K * w2) := by rw [b8, ← Nat.mul_add, Nat.mul_left_comm]
      omega
    · obtain ⟨x1, x2⟩ := ih _ _ _ _ _ _ _ _ b14
      refine ⟨by omega, fun K hK => ?_⟩
      have z1 := x2 K (by omega)
      rw [b9, Nat.mul_add, Nat.mul_one]; omega
def RN (u0 v0 : St) (S NC NR0 nb d i j w g h q c : Nat) (occ : List Nat) : Prop := ∀ (s : Bool) (ρ : Nat → Int) (ar : List Int) (na nf : Nat) (l : List (Int × Int)) (vs : List Nat) (el : List (Nat × Int)) (st G : List Cs) (MD W NR : Nat) (v : St), AGR v0 v NR0 → NR0 ≤ NR → RMk u0 v S NC NR nb ((((20 + sb s : Nat) : Int), (j : Int)) :: l) vs el ar na nf W MD st G → l.length + g + 1 ≤ 5900 → el.length + q ≤ 380 → ar.length + q ≤ 290 → vs.length + h + 1 ≤ 2900 → MD ≤ 6 * W → W ≤ 3000 → G.length ≤ 2 * W → nb ≤ nf → nf ≤ nb + W → na ≤ W → (∀ x, x ∈ occ → lkp el x = some (ρ x)) → (∀ e, e ∈ el → e.1 < NC) → (∀ z, z ∈ ar → z < 0) → RX u0 v S NC NR nb c w g (ev u0 d i s ρ ar na nf) l vs el ar na nf W (6 * (W + w)) st G
theorem RN_pair {u0 v0 : St} {S NC NR0 nb d i1 i2 j1 j2 w1 w2 g1 g2 h1 h2 q1 q2 c1 c2 : Nat} {o1 o2 : List Nat} (n1 : RN u0 v0 S NC NR0 nb d i1 j1 w1 g1 h1 q1 c1 o1) (n2 : RN u0 v0 S NC NR0 nb d i2 j2 w2 g2 h2 q2 c2 o2) (hc1 : 3 * c1 ≤ 75000 * w1) (b s1 s2 : Bool) {ρ : Nat → Int} {ar : List Int} {na nf : Nat} {l : List (Int × Int)} {vs : List Nat} {el : List (Nat × Int)} {st G : List Cs} {MD W NR : Nat} {v : St} (hA : AGR v0 v NR0) (hNR : NR0 ≤ NR) (h : RMk u0 v S NC NR nb ((((20 + sb s1 : Nat) : Int), (j1 : Int)) :: (((20 + sb s2 : Nat) : Int), (j2 : Int)) :: (((jr b : Nat) : Int), 0) :: l) vs el ar na nf W MD st G) (ht1 : l.length + g1 + 3 ≤ 5900) (ht2 : l.length + g2 + 2 ≤ 5900) (hq1 : el.length + q1 ≤ 380) (hq2 : el.length + q2 ≤ 380) (ha1 : ar.length + q1 ≤ 290) (ha2 : ar.length + q2 ≤ 290) (hs1 : vs.length + h1 + 1 ≤ 2900) (hs2 : vs.length + h2 + 2 ≤ 2900) (hMD : MD ≤ 6 * W) (hW : W ≤ 3000) (hG : G.length ≤ 2 * W) (hnf0 : nb ≤ nf) (hnf : nf ≤ nb + W) (hna : na ≤ W) (ho1 : ∀ x, x ∈ o1 → lkp el x = some (ρ x)) (ho2 : ∀ x, x ∈ o2 → lkp el x = some (ρ x)) (hen : ∀ e, e ∈ el → e.1 < NC) (har : ∀ z, z ∈ ar → z < 0) : RX u0 v S NC NR nb (c1 + c2 + 1) (w1 + w2) (max g1 g2) (thn (ev u0 d i1 s1 ρ ar na nf) fun E1 na1 nf1 => thn (ev u0 d i2 s2 ρ ar na1 nf1) fun E2 na2 nf2 => some (E1 ++ (E2 ++ [.inr b]), na2, nf2)) l vs el ar na nf W (6 * (W + w1 + w2)) st G := by
  refine rseq_spec (T2 := [(((20 + sb s2 : Nat) : Int), (j2 : Int))]) (M1 := 6 * (W + w1)) b (by omega) (by omega) hG hc1 (n1 s1 ρ ar na nf ((((20 + sb s2 : Nat) : Int), (j2 : Int)) :: (((jr b : Nat) : Int), 0) :: l) vs el st G MD W NR v hA hNR h (by simp only [List.length_cons]; omega) hq1 ha1 hs1 hMD hW hG hnf0 hnf hna ho1 hen har) ?_
  intro na1 nf1 z G' MD1 NR1 gz v' hc b1 b2' b3 b4 b5 b6 b7 b8 b9 hF
  exact n2 s2 ρ ar na1 nf1 ((((jr b : Nat) : Int), 0) :: l) (gz :: vs) el (z :: st) G' MD1 (W + w1) NR1 v' (AGR_fr hA hF hNR b3) (by omega) hc (by simp only [List.length_cons]; omega) hq2 ha2 (by simp only [List.length_cons]; omega) b1 b4 (by omega) (by omega) (by omega) (by omega) ho2 hen har
theorem RX_mono {u0 v : St} {S NC NR nb c w g0 g1 : Nat} {o : Option EvR} {l : List (Int × Int)} {vs : List Nat} {el : List (Nat × Int)} {ar : List Int} {na nf W MDm : Nat} {s G : List Cs} (hg : g0 ≤ g1) (h : RX u0 v S NC NR nb c w g0 o l vs el ar na nf W MDm s G) : RX u0 v S NC NR nb c w g1 o l vs el ar na nf W MDm s G := by
  obtain ⟨v', N, h1, h2, h3⟩ := h
  refine ⟨v', N, h1, h2, ?_⟩
  rcases h3 with h3 | ⟨q1, q2, q3⟩
  · exact Or.inl h3
  · exact Or.inr ⟨q1, by omega, q3⟩
theorem CEd_agr {u0 v0 v : St} {S NC NR0 NR i : Nat} (hA : AGR v0 v NR0) (hN : NR0 ≤ NR) (h : CEd u0 v0 S NC NR0 i) : CEd u0 v S NC NR i := by
  rcases h with ⟨s, e1, e2, e3, e4⟩ | ⟨x, y, e1, e2, e3, e4, e5⟩
  · exact Or.inl ⟨s, e1, e2, e3, by rw [hA.1 118 i (by simp)]; exact e4⟩
  · exact Or.inr ⟨x, y, e1, by omega, e3, by rw [hA.1 118 i (by simp)]; exact e4, by rw [hA.2.2 y e2]; exact e5⟩
theorem RN_all {u0 v0 : St} {S R NC NR0 kc lo hi nb : Nat} (hkc : kc ≤ 1501) (hR : R ≤ 1501) (hNC : NC ≤ 1501) (hhi : hi ≤ 1501) (hS : S ≤ 811) (hS5 : ∀ s, s < S → I u0 16 s ≤ 5) (hNc : ∀ x x', x < NC → x' < NC → J u0 38 x = J u0 38 x' → x = x') (hnb : nb ≤ 200000000) (d : Nat) : ∀ i j w g h q c occ, IS u0 v0 S R NC NR0 kc lo hi d i j w g h q c occ → RN u0 v0 S NC NR0 nb d i j w g h q c occ := by
  induction d with
  | zero => intro i j w g h q c occ hh; exact hh.elim
  | succ d ih =>
    intro i j w g h q c occ hh s ρ ar na nf l vs el st G MD W NR v hA hNR hC ht hsq haq hst hMD hW hG hnf0 hnf hna hocc hen har
    obtain ⟨a1, a2, a3, a4, hh⟩ := hh
    obtain ⟨v6, p1, p2, p3⟩ := rmk_bare s (by omega) hC
    have hA6 : AGR v0 v6 NR0 := AGR_ts hA p3
    have hJ6 : ∀ y, y < NR → J v6 119 y = J v 119 y := fun y _ => Fr_J p3 rfl
    have e114 : I v6 114 j = I v0 114 j := hA6.1 114 j (by simp)
    have e115 : I v6 115 j = I v0 115 j := hA6.1 115 j (by simp)
    have e116 : I v6 116 j = I v0 116 j := hA6.1 116 j (by simp)
    have go : ∀ (v9 : St) (o : Option EvR) (c' w' g' M : Nat), fX12_goInside (zI j) (zI (sb s)) v6 = some v9 → Fr Qts v6 v9 → g' + 1 ≤ g → RX u0 v9 S NC NR nb c' w' g' o l vs el ar na nf W M st G → RX u0 v S NC NR nb (c' + 1) w' g o l vs el ar na nf W M st G := by
      intro v9 o c' w' g' M hp hF hg hx
      exact RX_pre (fun F => by rw [p1 F, hp, bd_s]) (Fr_up2 Qts_QM (Fr_tr p3 hF)) (fun y hy => by rw [Fr_J hF rfl]; exact hJ6 y hy) hg hx
    rcases hh with ⟨a, b, b1, b2, b3, b4, b5, b6, b7, b8, b9, b10, b11, b12, b13, b14, b15, b16⟩ | ⟨i1, j1, c1, g1, b1, b2, b3, b4, b5, b5g, b6⟩ | ⟨kk, i1, i2, j1, j2, w1, w2, g1, g2, h1, h2, q1, q2, c1, c2, o1, o2, b1, b2, b3, b4, b5, b6, b7, b8, b9, b10, b11, b12, b13, b14, b15⟩ | ⟨i1, i2, j1, j2, w1, w2, g1, g2, h1, h2, q1, q2, c1, c2, o1, o2, b2, b3, b4, b5, b6, b7, b8, b9, b10, b11, b12, b13, b14, b15⟩ | ⟨kk, x, i1, j1, w1, g1, q1, c1, o1, b1, b2, b3, b4, b5, b6, b7, b8, b9, b10, b11, b12, b13, b14⟩
    · -- an atom
      have hev : ev u0 (d + 1) i s ρ ar na nf = some ([.inl (sgb s, litc u0 ρ ar (b - a) a)], na, nf) := by
        simp only [ev]
        rw [if_pos b3, b5, b6, Int.toNat_natCast, Int.toNat_natCast]
      have hK : ENk u0 ρ el a b := fun k h1 h2 hn => hocc _ (by rw [b12]; exact vocc_mem (b - a) a k h1 (by omega) hn)
      obtain ⟨v9, k1, k2, k3, k4⟩ := rlit_spec (ρ := ρ) (j := j) s (by omega) b1 (by omega) (by omega) (by omega) (by omega) hNC hS hS5 hNc har hen (by omega) hMD hW hG (by rw [e115]; exact b7) (by rw [e116]; exact b8) (fun k h1 h2 => CEd_agr hA6 hNR (b9.1 k h1 h2)) hK b9.2 b10 p2
      have hX : ∀ F, IL (F + 2) v = IL F v9 := fun F => by rw [p1 F, gin_15 s j v6 (by omega) (by rw [e114]; exact b4), k1, bd_s]
      rw [hev]
      refine ⟨v9, 2, hX, Fr_tr (Fr_up2 Qts_QM p3) k2, ?_⟩
      rcases k4 with ⟨m1, MD', m2, m3⟩ | ⟨m1, m2⟩
      · refine Or.inl ⟨_, na, nf, _, _, MD', NR, G.length, by omega, rfl, EZ_lit _, ?_, by omega, Nat.le_refl _, fun y hy => by rw [k3]; exact hJ6 y hy, by omega, by omega, by omega, by omega, by omega, ?_⟩
        · rw [b11]; exact m3
        · simp only [List.length_cons, List.length_nil]; omega
      · exact Or.inr ⟨m2, by omega, Or.inr (by omega)⟩
    · -- not
      have hi1 := IS_bits b6
      have hev : ev u0 (d + 1) i s ρ ar na nf = ev u0 d i1 (!s) ρ ar na nf := by
        simp only [ev]
        rw [if_neg (by omega), if_pos b1, b3, Int.toNat_natCast]
      obtain ⟨v9, k1, k2, k3⟩ := rmk_push (20 + sb (!s)) j1 (by cases s <;> decide) (by omega) (by omega) p2
      have hp : fX12_goInside (zI j) (zI (sb s)) v6 = some v9 := by
        rw [gin_8 s j v6 (by omega) (by rw [e114, b2]) j1 _ (by rw [e115, b4]) rfl]; exact k1
      rw [hev, b5]
      exact go v9 _ _ _ g1 _ hp k3 (by omega) (ih _ _ _ _ _ _ _ _ b6 (!s) ρ ar na nf l vs el st G MD W NR v9 (AGR_ts hA6 k3) hNR k2 (by omega) hsq haq hst hMD hW hG hnf0 hnf hna hocc hen har)
    · -- and, or, implies
      have hi1 := IS_bits b14
      have hi2 := IS_bits b15
      have m1 : q1 ≤ q ∧ q2 ≤ q := by rw [b11]; exact ⟨Nat.le_max_left _ _, Nat.le_max_right _ _⟩
      have m2 : h1 ≤ h ∧ h2 + 1 ≤ h := by rw [b10]; exact ⟨Nat.le_max_left _ _, Nat.le_max_right _ _⟩
      have m3 : max g1 g2 + 1 ≤ g := by have := Nat.max_le.2 ⟨show g1 ≤ g1 + g2 by omega, show g2 ≤ g1 + g2 by omega⟩; omega
      have hc1 := (IS_c d _ _ _ _ _ _ _ _ b14).2 12000 (by omega)
      have hev : ev u0 (d + 1) i s ρ ar na nf = thn (ev u0 d i1 (if kk = 4 then !s else s) ρ ar na nf) fun E1 na1 nf1 => thn (ev u0 d i2 s ρ ar na1 nf1) fun E2 na2 nf2 => some (E1 ++ (E2 ++ [.inr (if kk = 2 then !s else s)]), na2, nf2) := by
        simp only [ev]
        rw [if_neg (by omega), if_neg (by omega), if_pos (by omega), b4, b5, Int.toNat_natCast, Int.toNat_natCast]
        rcases b1 with hk | hk | hk <;> subst hk <;> rw [b2] <;> rfl
      obtain ⟨v9, k1, k2, k3⟩ := rmk_pair (if kk = 2 then !s else s) (if kk = 4 then !s else s) s (j1 := j1) (j2 := j2) (by omega) (by omega) (by omega) p2
      have hp : fX12_goInside (zI j) (zI (sb s)) v6 = some v9 := by
        rw [gin_b s j (if kk = 2 then 9 else if kk = 3 then 10 else 13) v6 (by omega) (by rw [e114, b3]; rcases b1 with hk | hk | hk <;> subst hk <;> rfl) (by rcases b1 with hk | hk | hk <;> subst hk <;> simp) j1 j2 (by rw [e115, b6]) (by rw [e116, b7]), ← k1]
        rcases b1 with hk | hk | hk <;> subst hk <;> rfl
      have hcx := RN_pair (ih _ _ _ _ _ _ _ _ b14) (ih _ _ _ _ _ _ _ _ b15) (by omega) (if kk = 2 then !s else s) (if kk = 4 then !s else s) s (AGR_ts hA6 k3) hNR k2 (by omega) (by omega) (by omega) (by omega) (by omega) (by omega) (by omega) (by omega) hMD hW hG hnf0 hnf hna (fun x hx => hocc x (by rw [b13]; exact List.mem_append_left _ hx)) (fun x hx => hocc x (by rw [b13]; exact List.mem_append_right _ hx)) hen har
      rw [hev, b12, b8, ← Nat.add_assoc W w1 w2]
      exact go v9 _ _ _ _ _ hp k3 m3 hcx
    · -- both ways
      have hi1 := IS_bits b14
      have hi2 := IS_bits b15
      have m1 : q1 ≤ q ∧ q2 ≤ q := by rw [b11]; exact ⟨Nat.le_max_left _ _, Nat.le_max_right _ _⟩
      have m2 : h1 + 2 ≤ h ∧ h2 + 2 ≤ h := by
        have x1 := Nat.le_max_left h1 h2
        have x2 := Nat.le_max_right h1 h2
        omega
      have hc1 := (IS_c d _ _ _ _ _ _ _ _ b14).2 12000 (by omega)
      have hc2 := (IS_c d _ _ _ _ _ _ _ _ b15).2 12000 (by omega)
      have m3 : max (max g1 g2) (max g2 g1) + 1 ≤ g := by have := Nat.max_le.2 ⟨Nat.max_le.2 ⟨show g1 ≤ g1 + g2 by omega, show g2 ≤ g1 + g2 by omega⟩, Nat.max_le.2 ⟨show g2 ≤ g1 + g2 by omega, show g1 ≤ g1 + g2 by omega⟩⟩; omega
      have hev : ev u0 (d + 1) i s ρ ar na nf = thn (thn (ev u0 d i1 (!s) ρ ar na nf) fun E1 na1 nf1 => thn (ev u0 d i2 s ρ ar na1 nf1) fun E2 na2 nf2 => some (E1 ++ (E2 ++ [.inr s]), na2, nf2)) fun E1 na1 nf1 => thn ((fun na nf => thn (ev u0 d i2 (!s) ρ ar na nf) fun E1 na1 nf1 => thn (ev u0 d i1 s ρ ar na1 nf1) fun E2 na2 nf2 => some (E1 ++ (E2 ++ [.inr s]), na2, nf2)) na1 nf1) fun E2 na2 nf2 => some (E1 ++ (E2 ++ [.inr (!s)]), na2, nf2) := by
        simp only [ev]
        rw [if_neg (by omega), if_neg (by omega), if_neg (by omega), if_pos b2, b4, b5, Int.toNat_natCast, Int.toNat_natCast]
        simp only [thn_thn, thn_s]
      obtain ⟨v9, k1, k2, k3⟩ := rmk_push (jr (!s)) 0 (by cases s <;> decide) (by decide) (by omega) p2
      obtain ⟨v10, l1, l2, l3⟩ := rmk_pair s (!s) s (j1 := j2) (j2 := j1) (by omega) (by omega) (by simp only [List.length_cons]; omega) k2
      obtain ⟨v11, m4, m5, m6⟩ := rmk_pair s (!s) s (j1 := j1) (j2 := j2) (by omega) (by omega) (by simp only [List.length_cons]; omega) l2
      have hp : fX12_goInside (zI j) (zI (sb s)) v6 = some v11 := by
        rw [gin_14 s j v6 (by omega) (by rw [e114, b3]) j1 j2 (by rw [e115, b6]) (by rw [e116, b7]), show (zI 0 : Int32) = zI (0 : Nat) from rfl, k1, bd_s, l1, bd_s, m4]
      have hF : Fr Qts v6 v11 := Fr_tr k3 (Fr_tr l3 m6)
      have o1' : ∀ x, x ∈ o1 → lkp el x = some (ρ x) := fun x hx => hocc x (by rw [b13]; exact List.mem_append_left _ hx)
      have o2' : ∀ x, x ∈ o2 → lkp el x = some (ρ x) := fun x hx => hocc x (by rw [b13]; exact List.mem_append_right _ hx)
      have hcx := rseq_spec (T2 := [(((20 + sb (!s) : Nat) : Int), (j2 : Int)), (((20 + sb s : Nat) : Int), (j1 : Int)), (((jr s : Nat) : Int), 0)]) (o2 := fun na nf => thn (ev u0 d i2 (!s) ρ ar na nf) fun E1 na1 nf1 => thn (ev u0 d i1 s ρ ar na1 nf1) fun E2 na2 nf2 => some (E1 ++ (E2 ++ [.inr s]), na2, nf2)) (c2 := c2 + c1 + 1) (w2 := w2 + w1) (M2 := 6 * (W + w1 + w2 + w2 + w1)) (!s) (by omega) (by omega) hG (by omega) (RN_pair (ih _ _ _ _ _ _ _ _ b14) (ih _ _ _ _ _ _ _ _ b15) (by omega) s (!s) s (AGR_ts hA6 hF) hNR m5 (by first | omega | (simp only [List.length_cons, List.cons_append, List.nil_append]; omega)) (by first | omega | (simp only [List.length_cons, List.cons_append, List.nil_append]; omega)) (by omega) (by omega) (by omega) (by omega) (by omega) (by omega) hMD hW hG hnf0 hnf hna o1' o2' hen har) (fun na1 nf1 z G' MD1 NR1 gz v' hc x1 x2 x3 x4 x5 x6 x7 x8 x9 hF' => by
        have hrp := RN_pair (l := (((jr (!s) : Nat) : Int), 0) :: l) (W := W + (w1 + w2)) (NR := NR1) (vs := gz :: vs) (st := z :: st) (G := G') (MD := MD1) (na := na1) (nf := nf1) (ih _ _ _ _ _ _ _ _ b15) (ih _ _ _ _ _ _ _ _ b14) (by omega) s (!s) s (AGR_fr (AGR_ts hA6 hF) hF' hNR x3) (by omega) hc (by simp only [List.length_cons]; omega) (by simp only [List.length_cons]; omega) (by omega) (by omega) (by omega) (by omega) (by simp only [List.length_cons]; omega) (by simp only [List.length_cons]; omega) (by omega) x4 (by omega) (by omega) (by omega) (by omega) o2' o1' hen har
        rw [show W + (w1 + w2) + w2 + w1 = W + w1 + w2 + w2 + w1 by omega] at hrp
        exact hrp)
      rw [hev, show c = c1 + c2 + 1 + (c2 + c1 + 1) + 1 + 1 by omega, show w = w1 + w2 + (w2 + w1) by omega, show 6 * (W + (w1 + w2 + (w2 + w1))) = 6 * (W + w1 + w2 + w2 + w1) by omega]
      exact go v11 _ _ _ _ _ hp hF m3 hcx
    · -- a quantifier
      have hi1 := IS_bits b14
      have hw117 : NmR (J u0 38 x) (J v6 117 j) := by rw [hA6.2.1 j]; exact b6
      have hgi : fX12_goInside (zI j) (zI (sb s)) v6 = fX12_quantified (zI j) (if (kk = 6) = (s = false) then 1 else 0) (zI (sb s)) v6 := by
        rw [gin_q s j (if kk = 6 then 11 else 12) v6 (by omega) (by rw [e114, b3]; rcases b1 with hk | hk <;> subst hk <;> rfl) (by rcases b1 with hk | hk <;> subst hk <;> simp)]
        rcases b1 with hk | hk <;> subst hk <;> cases s <;> rfl
      have hk6 : (I u0 33 i = 6) = (kk = 6) := by rw [b2]; apply propext; omega
      obtain ⟨v1, y, NR', f1, f2, f3⟩ := rq_pre (if (kk = 6) = (s = false) then 1 else 0) (zI (sb s)) (by omega) hNC b5 hw117 (by omega) p2
      have F1 : Fr QM v v1 := Fr_tr (Fr_up2 Qts_QM p3) (Fr_up2 Qen_QM f1)
      rcases f3 with ⟨g3, g4, g5⟩ | ⟨g3, g4, g5, g6, g7, g8⟩
      · exact ⟨v1, 2, fun F => by rw [p1 F, hgi, g4, bd_s], F1, Or.inr ⟨g5, by omega, Or.inr (by omega)⟩⟩
      · have e115' : I v1 115 j = j1 := by rw [Fr_I f1 rfl, e115]; exact b8
        -- behind the sign: the same for both
        have tail : ∀ (bu : Bool) (m : Int) (r : List Int) (na' nf' : Nat) (v9 : St), fX12_goInside (zI j) (zI (sb s)) v6 = some v9 → RMk u0 v9 S NC NR' nb ((((20 + sb s : Nat) : Int), (j1 : Int)) :: (((if bu then 24 else 25 : Nat) : Int), 0) :: l) vs ((x, m) :: el) (ar ++ r) na' nf' (W + 1) MD st G → Fr QM v1 v9 → (∀ y, J v9 119 y = J v1 119 y) → r.length = (if bu then 1 else 0) → (∀ z, z ∈ r → z < 0) → na ≤ na' → na' ≤ na + 1 → nf ≤ nf' → nf' ≤ nf + 1 → ev u0 (d + 1) i s ρ ar na nf = ev u0 d i1 s (updm ρ x m) (ar ++ r) na' nf' → RX u0 v S NC NR nb c w g (ev u0 (d + 1) i s ρ ar na nf) l vs el ar na nf W (6 * (W + w)) st G := by
          intro bu m r na' nf' v9 hp hR9 hF9 hJ9 hr hrn x1 x2 x3 x4 hev
          have hr1 : r.length ≤ 1 := by rw [hr]; cases bu <;> decide
          have hF : Fr QM v v9 := Fr_tr F1 hF9
          have hJ : ∀ y, y < NR → J v9 119 y = J v 119 y := fun y hy => by rw [hJ9, f2 y hy]; exact hJ6 y hy
          have hch := ih _ _ _ _ _ _ _ _ b14 s (updm ρ x m) (ar ++ r) na' nf' ((((if bu then 24 else 25 : Nat) : Int), 0) :: l) vs ((x, m) :: el) st G MD (W + 1) NR' v9 (AGR_fr hA hF hNR hJ) (by omega) hR9 (by simp only [List.length_cons]; omega) (by simp only [List.length_cons]; omega) (by rw [List.length_append]; omega) (by omega) (by omega) g3 (by omega) (by omega) (by omega) (by omega) (fun z hz => by
            simp only [lkp]
            by_cases hzx : x = z
            · rw [if_pos hzx]; unfold updm; rw [if_pos hzx.symm]
            · rw [if_neg hzx]; unfold updm; rw [if_neg (fun h => hzx h.symm)]; exact hocc z (by rw [b13]; exact List.mem_filter.2 ⟨hz, by simp; exact fun h => hzx h.symm⟩)) (fun e he => by
            rcases List.mem_cons.1 he with he | he
            · subst he; exact b5
            · exact hen e he) (fun z hz => by
            rcases List.mem_append.1 hz with hz | hz
            · exact har z hz
            · exact hrn z hz)
          rw [hev]
          obtain ⟨v12, N, t2, t3, t4⟩ := hch
          rcases t4 with ⟨E, na2, nf2, z, Gx, MD', NR2, gz, r0, r1, r2, r3, r4, r5, r6, r7, r8, r9, r10, r11, r12⟩ | ⟨r1, r2, r3⟩
          · obtain ⟨v13, k1, k2, k3, k4⟩ := rmk_free bu (by omega) (by omega) (by omega) hr (ELl_gv el hC.2.2.2.2.2.1) r3
            refine ⟨v13, 2 + N + 1, fun F => ?_, Fr_tr hF (Fr_tr t3 k3), Or.inl ⟨E, na2, nf2, z, Gx, MD', NR2, gz, by omega, r1, r2, ?_, by omega, by omega, fun y hy => by rw [k4, r6 y (by omega)]; exact hJ y hy, by omega, by omega, by omega, by omega, by omega, by omega⟩⟩
            · rw [show F + (2 + N + 1) = ((F + 1) + N) + 2 by omega, p1, hp, bd_s, t2, k1]
            · rw [show W + w = W + 1 + w1 by omega]; exact k2
          · refine ⟨v12, 2 + N, fun F => by rw [show F + (2 + N) = (F + N) + 2 by omega, p1, hp, bd_s, t2], Fr_tr hF t3, Or.inr ⟨r1, by omega, ?_⟩⟩
            rcases r3 with r3 | r3
            · exact Or.inl r3
            · exact Or.inr (by omega)
        by_cases hun : (kk = 6) = (s = false)
        · rw [if_pos hun, if_neg (by decide)] at g4
          obtain ⟨v9, k1, k2, k3, k4⟩ := rq_all (j := j) (j1 := j1) (x := x) (y := y) s (by omega) (by omega) e115' (by omega) (by omega) (by omega) (by omega) hNC g6 g8 g5
          refine tail true (-1 - (na : Int)) [-1 - (na : Int)] (na + 1) nf v9 (by rw [hgi, if_pos hun, g4]; exact k1) k2 k3 k4 rfl (fun z hz => by simp at hz; omega) (by omega) (by omega) (by omega) (by omega) ?_
          simp only [ev]
          rw [if_neg (by omega), if_neg (by omega), if_neg (by omega), if_neg (by omega), if_pos (by rw [hk6]; exact hun), b4, b7, Int.toNat_natCast, Int.toNat_natCast]
        · rw [if_neg hun, if_pos rfl] at g4
          have h55 : I v1 100 55 = ar.length := g5.2.2.2.2.2.2.2.1
          by_cases h5 : 5 < ar.length
          · have hev : ev u0 (d + 1) i s ρ ar na nf = none := by
              simp only [ev]
              rw [if_neg (by omega), if_neg (by omega), if_neg (by omega), if_neg (by omega), if_neg (by rw [hk6]; exact hun), if_pos h5]
            rw [gI_z v1 100 55, h55, if_neg (by rw [z_lit, z_le (by omega) (by omega) (by decide) (by decide)]; omega)] at g4
            have F5 : Fr (fun k i => k == 100 && i == 47) v1 (uI v1 100 47 1) := Fr_up rfl (Fr_rfl _ _)
            exact ⟨uI v1 100 47 1, 2, fun F => by rw [p1 F, hgi, if_neg hun, g4, bd_s], Fr_tr F1 (Fr_up2 (fun k i hk => by simp at hk; simp [QM, hk]) F5), Or.inr ⟨I_uI1 _ _ _ 1 (by decide) (by decide), by omega, Or.inl hev⟩⟩
          · rw [gI_z v1 100 55, h55, if_pos (by rw [z_lit, z_le (by omega) (by omega) (by decide) (by decide)]; omega)] at g4
            obtain ⟨v9, k1, k2, k3, k4⟩ := rq_some (j := j) (j1 := j1) (x := x) (y := y) s (by omega) (by omega) e115' (by omega) (by omega) (by omega) hnf0 (by omega) (by omega) hNC g6 g8 g5
            refine tail false (8 * (4097 + (nf : Int)) + ar.length) [] na (nf + 1) v9 (by rw [hgi, if_neg hun, g4]; exact k1) (by rw [List.append_nil]; exact k2) k3 k4 rfl (fun z hz => by simp at hz) (by omega) (by omega) (by omega) (by omega) ?_
            simp only [ev]
            rw [List.append_nil, if_neg (by omega), if_neg (by omega), if_neg (by omega), if_neg (by omega), if_neg (by rw [hk6]; exact hun), if_neg h5, b4, b7, Int.toNat_natCast, Int.toNat_natCast]
