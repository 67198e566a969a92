/-! reading: variables that nothing binds, in the reference -/
def NLr (u0 v : St) (NR k : Nat) (L : List Nat) : Prop := ∀ i x : Nat, L[i]? = some x → ∃ y : Nat, y < NR ∧ I v k i = y ∧ NmR (J u0 38 x) (J v 119 y)
theorem fr_env {u0 v : St} {NC NR x y a : Nat} (x1 : Int32) {bs : List Nat} (ha : a < 1600) (h49 : I v 100 49 = bs.length) (hbs : bs.length < 700) (hL : NLr u0 v NR 126 bs) (hbC : ∀ x, x ∈ bs → x < NC) (hNc : ∀ x x', x < NC → x' < NC → J u0 38 x = J u0 38 x' → x = x') (hN : NMx u0 v NC NR) (hNC : NC ≤ 1501) (hx : x < NC) (hy : y < NR) (hxy : NmR (J u0 38 x) (J v 119 y)) (hr : I v 118 a = -1 - (y : Int)) (d : Nat) : ∀ (i : Nat) (kn : Int) (Fu : Nat), i + d = bs.length → (kn = 0 ∨ kn = 1) → ∃ kn' : Int, (kn' = 0 ∨ kn' = 1) ∧ (kn' = 1 ↔ kn = 1 ∨ ∃ k, i ≤ k ∧ bs[k]? = some x) ∧ fX12_freeOf_L0 (Fu + (d + 1)) 1 x1 (zI a) (zI kn) (zI i) v = fX12_freeOf_L0 Fu 2 x1 (zI a) (zI kn') (zI (0 : Nat)) v := by
  have hNR := names_le hN
  induction d with
  | zero =>
    intro i kn Fu hi hkn
    refine ⟨kn, hkn, ⟨fun h => Or.inl h, fun h => ?_⟩, ?_⟩
    · rcases h with h | ⟨k, h1, h2⟩
      · exact h
      · rw [List.getElem?_eq_none (by omega)] at h2; cases h2
    · have sx : fX12_freeOf_L0 (Fu + (0 + 1)) 1 x1 (zI a) (zI kn) (zI i) v = fX12_freeOf_L0_1 (fX12_freeOf_L0 Fu) x1 (zI a) (zI kn) (zI i) v := rfl
      rw [sx]
      unfold fX12_freeOf_L0_1
      rw [gI_z v 100 49, h49, if_pos (by rw [z_le (by omega) (by omega) (by omega) (by omega)]; omega), lt_e]; rfl
  | succ d ih =>
    intro i kn Fu hi hkn
    have sx : fX12_freeOf_L0 (Fu + (d + 1 + 1)) 1 x1 (zI a) (zI kn) (zI i) v = fX12_freeOf_L0_1 (fX12_freeOf_L0 (Fu + (d + 1))) x1 (zI a) (zI kn) (zI i) v := rfl
    have hil : i < bs.length := by omega
    obtain ⟨x', hx'⟩ : ∃ x', bs[i]? = some x' := ⟨bs[i], List.getElem?_eq_getElem hil⟩
    obtain ⟨y', y1, y2, y3⟩ := hL i x' hx'
    have hx'C : x' < NC := hbC x' (List.mem_iff_getElem?.2 ⟨i, hx'⟩)
    have e1 : (zI (i : Int) + 1 : Int32) = zI ((i + 1 : Nat) : Int) := by rw [show (1 : Int32) = zI 1 from rfl, z_add]; rfl
    have pre : ∀ R : Option St, fX12_freeOf_L0_1 (fX12_freeOf_L0 (Fu + (d + 1))) x1 (zI a) (zI kn) (zI i) v = (if zI kn = 0 then (if zI (y' : Int) = zI (y : Int) then fX12_freeOf_L0 (Fu + (d + 1)) 1 x1 (zI a) (zI 1) (zI ((i + 1 : Nat) : Int)) v else fX12_freeOf_L0 (Fu + (d + 1)) 1 x1 (zI a) (zI 0) (zI ((i + 1 : Nat) : Int)) v) else fX12_freeOf_L0 (Fu + (d + 1)) 1 x1 (zI a) (zI 1) (zI ((i + 1 : Nat) : Int)) v) := by
      intro _
      unfold fX12_freeOf_L0_1
      rw [gI_z v 100 49, h49, if_neg (by rw [z_le (by omega) (by omega) (by omega) (by omega)]; omega), ld_z _ _ _ _ (by omega) (by omega), bd_s, ld_z _ _ _ _ (by omega) (by omega), bd_s, Int.toNat_natCast, Int.toNat_natCast, y2, hr, show (-1 : Int32) = zI (-1) from rfl, z_sub, show (-1 : Int) - (-1 - (y : Int)) = y by omega, e1]
      rfl
    have hyy : (y' = y) ↔ x' = x := by
      constructor
      · intro h; subst h; exact hNc x' x hx'C hx ((NmR_inj y3 hxy).2 rfl)
      · intro h; subst h; exact hN.1.2.2 y' y y1 hy ((NmR_inj y3 hxy).1 rfl)
    have fin : ∀ kn2 : Int, (kn2 = 0 ∨ kn2 = 1) → (kn2 = 1 ↔ kn = 1 ∨ x' = x) → fX12_freeOf_L0_1 (fX12_freeOf_L0 (Fu + (d + 1))) x1 (zI a) (zI kn) (zI i) v = fX12_freeOf_L0 (Fu + (d + 1)) 1 x1 (zI a) (zI kn2) (zI ((i + 1 : Nat) : Int)) v → ∃ kn' : Int, (kn' = 0 ∨ kn' = 1) ∧ (kn' = 1 ↔ kn = 1 ∨ ∃ k, i ≤ k ∧ bs[k]? = some x) ∧ fX12_freeOf_L0 (Fu + (d + 1 + 1)) 1 x1 (zI a) (zI kn) (zI i) v = fX12_freeOf_L0 Fu 2 x1 (zI a) (zI kn') (zI (0 : Nat)) v := by
      intro kn2 h1 h2 h3
      obtain ⟨kn', q1, q2, q3⟩ := ih (i + 1) kn2 Fu (by omega) h1
      refine ⟨kn', q1, ?_, by rw [sx, h3, q3]⟩
      rw [q2, h2]
      constructor
      · rintro ((h | h) | ⟨k, k1, k2⟩)
        · exact Or.inl h
        · exact Or.inr ⟨i, Nat.le_refl _, by rw [hx', h]⟩
        · exact Or.inr ⟨k, by omega, k2⟩
      · rintro (h | ⟨k, k1, k2⟩)
        · exact Or.inl (Or.inl h)
        · by_cases hk : k = i
          · subst hk
            rw [hx'] at k2
            exact Or.inl (Or.inr (Option.some.inj k2))
          · exact Or.inr ⟨k, by omega, k2⟩
    rcases hkn with hkn | hkn <;> subst hkn
    · by_cases hh : x' = x
      · refine fin 1 (Or.inr rfl) ⟨fun _ => Or.inr hh, fun _ => rfl⟩ ?_
        rw [pre none, if_pos (show zI 0 = 0 from rfl), if_pos (by rw [hyy.2 hh])]
      · refine fin 0 (Or.inl rfl) ⟨fun h => by omega, fun h => by rcases h with h | h; omega; exact absurd h hh⟩ ?_
        rw [pre none, if_pos (show zI 0 = 0 from rfl), if_neg (by rw [z_eq (by omega) (by omega) (by omega) (by omega)]; intro h; exact hh (hyy.1 (by omega)))]
    · refine fin 1 (Or.inr rfl) ⟨fun _ => Or.inl rfl, fun _ => rfl⟩ ?_
      rw [pre none, if_neg (by decide)]
theorem fr_fre {u0 v : St} {NC NR x y a : Nat} (x1 : Int32) {bs : List Nat} (ha : a < 1600) (h49 : I v 100 73 = bs.length) (hbs : bs.length < 300) (hL : NLr u0 v NR 143 bs) (hbC : ∀ x, x ∈ bs → x < NC) (hNc : ∀ x x', x < NC → x' < NC → J u0 38 x = J u0 38 x' → x = x') (hN : NMx u0 v NC NR) (hNC : NC ≤ 1501) (hx : x < NC) (hy : y < NR) (hxy : NmR (J u0 38 x) (J v 119 y)) (hr : I v 118 a = -1 - (y : Int)) (d : Nat) : ∀ (i : Nat) (kn : Int) (Fu : Nat), i + d = bs.length → (kn = 0 ∨ kn = 1) → ∃ kn' : Int, (kn' = 0 ∨ kn' = 1) ∧ (kn' = 1 ↔ kn = 1 ∨ ∃ k, i ≤ k ∧ bs[k]? = some x) ∧ fX12_freeOf_L0 (Fu + 1 + d) 2 x1 (zI a) (zI kn) (zI i) v = fX12_freeOf_L0 (Fu + 1) 2 x1 (zI a) (zI kn') (zI bs.length) v := by
  have hNR := names_le hN
  induction d with
  | zero =>
    intro i kn Fu hi hkn
    refine ⟨kn, hkn, ⟨fun h => Or.inl h, fun h => ?_⟩, ?_⟩
    · rcases h with h | ⟨k, h1, h2⟩
      · exact h
      · rw [List.getElem?_eq_none (by omega)] at h2; cases h2
    · rw [show i = bs.length by omega]
  | succ d ih =>
    intro i kn Fu hi hkn
    have sx : fX12_freeOf_L0 (Fu + 1 + (d + 1)) 2 x1 (zI a) (zI kn) (zI i) v = fX12_freeOf_L0_2 (fX12_freeOf_L0 (Fu + 1 + d)) x1 (zI a) (zI kn) (zI i) v := rfl
    have hil : i < bs.length := by omega
    obtain ⟨x', hx'⟩ : ∃ x', bs[i]? = some x' := ⟨bs[i], List.getElem?_eq_getElem hil⟩
    obtain ⟨y', y1, y2, y3⟩ := hL i x' hx'
    have hx'C : x' < NC := hbC x' (List.mem_iff_getElem?.2 ⟨i, hx'⟩)
    have e1 : (zI (i : Int) + 1 : Int32) = zI ((i + 1 : Nat) : Int) := by rw [show (1 : Int32) = zI 1 from rfl, z_add]; rfl
    have pre : ∀ R : Option St, fX12_freeOf_L0_2 (fX12_freeOf_L0 (Fu + 1 + d)) x1 (zI a) (zI kn) (zI i) v = (if zI kn = 0 then (if zI (y' : Int) = zI (y : Int) then fX12_freeOf_L0 (Fu + 1 + d) 2 x1 (zI a) (zI 1) (zI ((i + 1 : Nat) : Int)) v else fX12_freeOf_L0 (Fu + 1 + d) 2 x1 (zI a) (zI 0) (zI ((i + 1 : Nat) : Int)) v) else fX12_freeOf_L0 (Fu + 1 + d) 2 x1 (zI a) (zI 1) (zI ((i + 1 : Nat) : Int)) v) := by
      intro _
      unfold fX12_freeOf_L0_2
      rw [gI_z v 100 73, h49, if_neg (by rw [z_le (by omega) (by omega) (by omega) (by omega)]; omega), ld_z _ _ _ _ (by omega) (by omega), bd_s, ld_z _ _ _ _ (by omega) (by omega), bd_s, Int.toNat_natCast, Int.toNat_natCast, y2, hr, show (-1 : Int32) = zI (-1) from rfl, z_sub, show (-1 : Int) - (-1 - (y : Int)) = y by omega, e1]
      rfl
    have hyy : (y' = y) ↔ x' = x := by
      constructor
      · intro h; subst h; exact hNc x' x hx'C hx ((NmR_inj y3 hxy).2 rfl)
      · intro h; subst h; exact hN.1.2.2 y' y y1 hy ((NmR_inj y3 hxy).1 rfl)
    have fin : ∀ kn2 : Int, (kn2 = 0 ∨ kn2 = 1) → (kn2 = 1 ↔ kn = 1 ∨ x' = x) → fX12_freeOf_L0_2 (fX12_freeOf_L0 (Fu + 1 + d)) x1 (zI a) (zI kn) (zI i) v = fX12_freeOf_L0 (Fu + 1 + d) 2 x1 (zI a) (zI kn2) (zI ((i + 1 : Nat) : Int)) v → ∃ kn' : Int, (kn' = 0 ∨ kn' = 1) ∧ (kn' = 1 ↔ kn = 1 ∨ ∃ k, i ≤ k ∧ bs[k]? = some x) ∧ fX12_freeOf_L0 (Fu + 1 + (d + 1)) 2 x1 (zI a) (zI kn) (zI i) v = fX12_freeOf_L0 (Fu + 1) 2 x1 (zI a) (zI kn') (zI bs.length) v := by
      intro kn2 h1 h2 h3
      obtain ⟨kn', q1, q2, q3⟩ := ih (i + 1) kn2 Fu (by omega) h1
      refine ⟨kn', q1, ?_, by rw [sx, h3, q3]⟩
      rw [q2, h2]
      constructor
      · rintro ((h | h) | ⟨k, k1, k2⟩)
        · exact Or.inl h
        · exact Or.inr ⟨i, Nat.le_refl _, by rw [hx', h]⟩
        · exact Or.inr ⟨k, by omega, k2⟩
      · rintro (h | ⟨k, k1, k2⟩)
        · exact Or.inl (Or.inl h)
        · by_cases hk : k = i
          · subst hk
            rw [hx'] at k2
            exact Or.inl (Or.inr (Option.some.inj k2))
          · exact Or.inr ⟨k, by omega, k2⟩
    rcases hkn with hkn | hkn <;> subst hkn
    · by_cases hh : x' = x
      · refine fin 1 (Or.inr rfl) ⟨fun _ => Or.inr hh, fun _ => rfl⟩ ?_
        rw [pre none, if_pos (show zI 0 = 0 from rfl), if_pos (by rw [hyy.2 hh])]
      · refine fin 0 (Or.inl rfl) ⟨fun h => by omega, fun h => by rcases h with h | h; omega; exact absurd h hh⟩ ?_
        rw [pre none, if_pos (show zI 0 = 0 from rfl), if_neg (by rw [z_eq (by omega) (by omega) (by omega) (by omega)]; intro h; exact hh (hyy.1 (by omega)))]
    · refine fin 1 (Or.inr rfl) ⟨fun _ => Or.inl rfl, fun _ => rfl⟩ ?_
      rw [pre none, if_neg (by decide)]
def FRk (u0 v : St) (NC NR R : Nat) (l : List (Int × Int)) (bs F : List Nat) : Prop := TS v l ∧ I v 100 49 = bs.length ∧ NLr u0 v NR 126 bs ∧ NMx u0 v NC NR ∧ I v 100 73 = F.length ∧ NLr u0 v NR 143 F ∧ F.Nodup ∧ (∀ x, x ∈ bs → x < NC) ∧ (∀ x, x ∈ F → x < NC) ∧ ∃ ix : List Nat, F = ix.map (fun i => (-1 - I u0 37 i).toNat) ∧ ∀ i, i ∈ ix → i < R
theorem nodup_map {f : Nat → Nat} (l : List Nat) : (l.map f).Nodup → l.Nodup := by
  induction l with
  | nil => intro _; exact List.nodup_nil
  | cons x l ih =>
    intro h
    rw [List.map_cons, List.nodup_cons] at h
    exact List.nodup_cons.2 ⟨fun hx => h.1 (List.mem_map.2 ⟨x, hx, rfl⟩), ih h.2⟩
theorem FRk_len {u0 v : St} {NC NR R : Nat} {l : List (Int × Int)} {bs F : List Nat} (h : FRk u0 v NC NR R l bs F) : F.length ≤ R := by
  obtain ⟨_, _, _, _, _, _, h7, _, _, ix, h8, h9⟩ := h
  rw [h8, List.length_map]
  rw [h8] at h7
  exact ph R ix (nodup_map ix h7) h9
def Qfr : Nat → Nat → Bool := fun k i => k == 143 || (k == 100 && i == 73)
/-- the variables of an atom -/
theorem fr_atom {u0 : St} {S NC NR R b j : Nat} {l : List (Int × Int)} {bs : List Nat} (hj : j < 1600) (hb : b ≤ R) (hR : R ≤ 250) (hbs : bs.length < 700) (hNC : NC ≤ 1501) (hS : S ≤ 811) (hNc : ∀ x x', x < NC → x' < NC → J u0 38 x = J u0 38 x' → x = x') (k : Nat) : ∀ (a : Nat) (F : List Nat) (v : St) (Fu : Nat), a + k = b → 1100 * k < Fu → FRk u0 v NC NR R l bs F → I v 116 j = b → (∀ i, a ≤ i → i < b → CEd u0 v S NC NR i) → ∃ v', fX12_freeOf_L0 Fu 0 (zI j) (zI a) 0 0 v = some v' ∧ FRk u0 v' NC NR R l bs (addF (fun y => bs.count y) F (vocc u0 k a)) ∧ Fr Qfr v v' := by
  induction k with
  | zero =>
    intro a F v Fu ha hF h h116 hcd
    obtain ⟨F1, rfl⟩ : ∃ F1, Fu = F1 + 1 := ⟨Fu - 1, by omega⟩
    refine ⟨v, ?_, h, Fr_rfl _ _⟩
    have sx : fX12_freeOf_L0 (F1 + 1) 0 (zI j) (zI a) 0 0 v = fX12_freeOf_L0_0 (fX12_freeOf_L0 F1) (zI j) (zI a) v := rfl
    rw [sx]
    unfold fX12_freeOf_L0_0
    rw [ld_z _ _ _ _ (by omega) (by omega), bd_s, Int.toNat_natCast, h116, if_pos (by rw [z_le (by omega) (by omega) (by omega) (by omega)]; omega)]
  | succ k ih =>
    intro a F v Fu ha hF h h116 hcd
    have hlen := FRk_len h
    obtain ⟨F1, rfl⟩ : ∃ F1, Fu = F1 + 1 := ⟨Fu - 1, by omega⟩
    have sx : fX12_freeOf_L0 (F1 + 1) 0 (zI j) (zI a) 0 0 v = fX12_freeOf_L0_0 (fX12_freeOf_L0 F1) (zI j) (zI a) v := rfl
    have e1 : (zI (a : Int) + 1 : Int32) = zI ((a + 1 : Nat) : Int) := by rw [show (1 : Int32) = zI 1 from rfl, z_add]; rfl
    have pre : fX12_freeOf_L0_0 (fX12_freeOf_L0 F1) (zI j) (zI a) v = if zI (I v 118 a) < 0 then fX12_freeOf_L0 F1 1 (zI j) (zI a) (zI 0) (zI (0 : Nat)) v else fX12_freeOf_L0 F1 0 (zI j) (zI ((a + 1 : Nat) : Int)) 0 0 v := by
      unfold fX12_freeOf_L0_0
      rw [ld_z _ _ _ _ (by omega) (by omega), bd_s, Int.toNat_natCast, h116, if_neg (by rw [z_le (by omega) (by omega) (by omega) (by omega)]; omega), ld_z _ _ _ _ (by omega) (by omega), bd_s, Int.toNat_natCast, e1]
      rfl
    rcases hcd a (Nat.le_refl _) (by omega) with ⟨s, s1, s2, s3, s4⟩ | ⟨x, y, c1, c2, c3, c4, c5⟩
    · obtain ⟨v', q1, q2, q3⟩ := ih (a + 1) F v F1 (by omega) (by omega) h h116 (fun i h1 h2 => hcd i (by omega) h2)
      refine ⟨v', ?_, ?_, q3⟩
      · rw [sx, pre, s4, if_neg (by rw [z_zero, z_lt (by omega) (by omega) (by decide) (by decide)]; omega), q1]
      · simp only [vocc]; rw [if_neg (by omega)]; exact q2
    · obtain ⟨f1, f2, f3, f4, f5, f6, f7, f8, f9, ix, f10, f11⟩ := h
      have hNR := names_le f4
      obtain ⟨F2, rfl⟩ : ∃ F2, F1 = F2 + 1 + F.length + (bs.length + 1) := ⟨F1 - 1 - F.length - (bs.length + 1), by omega⟩
      obtain ⟨k1, g1, g2, g3⟩ := fr_env (zI j) (show a < 1600 by omega) f2 hbs f3 f8 hNc f4 hNC c1 c2 c5 c4 bs.length 0 0 (F2 + 1 + F.length) (by omega) (Or.inl rfl)
      obtain ⟨k2, g4, g5, g6⟩ := fr_fre (zI j) (show a < 1600 by omega) f5 (by omega) f6 f9 hNc f4 hNC c1 c2 c5 c4 F.length 0 k1 F2 (by omega) g1
      have hk : k2 = 1 ↔ x ∈ bs ∨ x ∈ F := by
        rw [g5, g2, List.mem_iff_getElem?, List.mem_iff_getElem?]
        constructor
        · rintro ((h | ⟨i, _, h⟩) | ⟨i, _, h⟩)
          · omega
          · exact Or.inl ⟨i, h⟩
          · exact Or.inr ⟨i, h⟩
        · rintro (⟨i, h⟩ | ⟨i, h⟩)
          · exact Or.inl (Or.inr ⟨i, Nat.zero_le _, h⟩)
          · exact Or.inr ⟨i, Nat.zero_le _, h⟩
      have hrun : fX12_freeOf_L0 (F2 + 1 + F.length + (bs.length + 1) + 1) 0 (zI j) (zI a) 0 0 v = fX12_freeOf_L0_2 (fX12_freeOf_L0 F2) (zI j) (zI a) (zI k2) (zI F.length) v := by
        rw [sx, pre, c4, if_pos (by rw [z_zero, z_lt (by omega) (by omega) (by decide) (by decide)]; omega), g3, g6]; rfl
      have hvoc : vocc u0 (k + 1) a = x :: vocc u0 k (a + 1) := by
        simp only [vocc]; rw [if_pos (by omega)]; congr 1; omega
      rw [hvoc]
      have hcnt : (bs.count x = 0) ↔ x ∉ bs := List.count_eq_zero
      by_cases hkn : x ∈ bs ∨ x ∈ F
      · have hk1 := hk.2 hkn
        obtain ⟨v', q1, q2, q3⟩ := ih (a + 1) F v F2 (by omega) (by omega) ⟨f1, f2, f3, f4, f5, f6, f7, f8, f9, ix, f10, f11⟩ h116 (fun i h1 h2 => hcd i (by omega) h2)
        refine ⟨v', ?_, ?_, q3⟩
        · rw [hrun, hk1]
          unfold fX12_freeOf_L0_2
          rw [gI_z v 100 73, f5, if_pos (by rw [z_le (by omega) (by omega) (by omega) (by omega)]; omega), if_neg (by decide), lt_e, e1, q1]
        · simp only [addF]
          rw [if_neg (fun hh => by rcases hkn with h | h; exact hcnt.1 hh.1 h; exact hh.2 h)]; exact q2
      · have hk0 : k2 = 0 := by rcases g4 with h | h; exact h; exact absurd (hk.1 h) hkn
        have hxb : x ∉ bs := fun h => hkn (Or.inl h)
        have hxF : x ∉ F := fun h => hkn (Or.inr h)
        obtain ⟨va, hva⟩ : ∃ va, uI v 143 F.length (zI (y : Int)) = va := ⟨_, rfl⟩
        have Fa : Fr (fun k _ => k == 143) v va := by rw [← hva]; exact Fr_up rfl (Fr_rfl _ _)
        obtain ⟨vb, hvb⟩ : ∃ vb, uI va 100 73 (zI ((F.length + 1 : Nat) : Int)) = vb := ⟨_, rfl⟩
        have Fb : Fr (fun k i => k == 100 && i == 73) va vb := by rw [← hvb]; exact Fr_up rfl (Fr_rfl _ _)
        have Fab : Fr Qfr v vb := Fr_tr (Fr_up2 (fun k i hk => by simp at hk; simp [Qfr, hk]) Fa) (Fr_up2 (fun k i hk => by simp at hk; simp [Qfr, hk]) Fb)
        have h143 : ∀ i, I vb 143 i = if i = F.length then (y : Int) else I v 143 i := by
          intro i
          rw [Fr_I Fb rfl, ← hva, I_uI _ _ _ _ (by omega) (by omega)]
          by_cases hi : i = F.length
          · rw [if_pos ⟨rfl, hi⟩, if_pos hi]
          · rw [if_neg (fun hh => hi hh.2), if_neg hi]
        have hFR : FRk u0 vb NC NR R l bs (F ++ [x]) := by
          refine ⟨TS_fr Fab (fun _ => rfl) (fun _ => rfl) rfl f1, by rw [Fr_I Fab rfl]; exact f2, fun i z hz => ?_, NMx_fr Fab (fun _ => rfl) rfl f4, by rw [← hvb, I_uI1 _ _ _ _ (by omega) (by omega)]; simp, fun i z hz => ?_, ?_, f8, fun z hz => ?_, ix ++ [a], ?_, fun i hi => ?_⟩
          · obtain ⟨y', z1, z2, z3⟩ := f3 i z hz
            exact ⟨y', z1, by rw [Fr_I Fab rfl]; exact z2, by rw [Fr_J Fab rfl]; exact z3⟩
          · by_cases hi : i < F.length
            · rw [List.getElem?_append_left hi] at hz
              obtain ⟨y', z1, z2, z3⟩ := f6 i z hz
              exact ⟨y', z1, by rw [h143, if_neg (by omega)]; exact z2, by rw [Fr_J Fab rfl]; exact z3⟩
            · have hl2 := get_lt hz
              simp only [List.length_append, List.length_cons, List.length_nil] at hl2
              have : i = F.length := by omega
              subst this
              rw [List.getElem?_append_right (Nat.le_refl _), Nat.sub_self] at hz
              have : x = z := by simpa using hz
              subst this
              exact ⟨y, c2, by rw [h143, if_pos rfl], by rw [Fr_J Fab rfl]; exact c5⟩
          · rw [List.nodup_append]
            refine ⟨f7, by simp, fun z hz w hw => ?_⟩
            simp at hw; subst hw
            exact fun h => hxF (h ▸ hz)
          · rcases List.mem_append.1 hz with h | h
            · exact f9 z h
            · simp at h; subst h; exact c1
          · rw [List.map_append, ← f10]
            simp only [List.map_cons, List.map_nil]
            congr 2; omega
          · rcases List.mem_append.1 hi with h | h
            · exact f11 i h
            · simp at h; omega
        have hcd' : ∀ i, a + 1 ≤ i → i < b → CEd u0 vb S NC NR i := by
          intro i h1 h2
          rcases hcd i (by omega) h2 with ⟨s, e1, e2, e3, e4⟩ | ⟨x, y, e1, e2, e3, e4, e5⟩
          · exact Or.inl ⟨s, e1, e2, e3, by rw [Fr_I Fab rfl]; exact e4⟩
          · exact Or.inr ⟨x, y, e1, e2, e3, by rw [Fr_I Fab rfl]; exact e4, by rw [Fr_J Fab rfl]; exact e5⟩
        obtain ⟨v', q1, q2, q3⟩ := ih (a + 1) (F ++ [x]) vb F2 (by omega) (by omega) hFR (by rw [Fr_I Fab rfl]; exact h116) hcd'
        refine ⟨v', ?_, ?_, Fr_tr Fab q3⟩
        · rw [hrun, hk0]
          unfold fX12_freeOf_L0_2
          rw [gI_z v 100 73, f5, if_pos (by rw [z_le (by omega) (by omega) (by omega) (by omega)]; omega), if_pos (show zI 0 = 0 from rfl), ld_z _ _ _ _ (by omega) (by omega), bd_s, Int.toNat_natCast, c4, show (-1 : Int32) = zI (-1) from rfl, z_sub, show (-1 : Int) - (-1 - (y : Int)) = y by omega, st_z _ _ _ _ _ (by omega) (by omega), bd_s, Int.toNat_natCast, hva, gI_z va 100 73, Fr_I Fa rfl, f5, show (zI (F.length : Int) + 1 : Int32) = zI ((F.length + 1 : Nat) : Int) by rw [show (1 : Int32) = zI 1 from rfl, z_add]; rfl, lt_e, hvb, lt_e, e1, q1]
        · simp only [addF]
          rw [if_pos ⟨hcnt.2 hxb, hxF⟩]; exact q2
