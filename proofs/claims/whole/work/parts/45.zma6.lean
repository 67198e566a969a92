/-! reading: all of a formula's tasks, in the class -/
def AGT (u0 u : St) : Prop := ∀ k i, (k = 33 ∨ k = 34 ∨ k = 35 ∨ k = 37) → I u k i = I u0 k i
theorem AGT_fr {u0 u u' : St} (h : AGT u0 u) (hF : Fr PM u u') : AGT u0 u' := fun k i hk => by rw [Fr_I hF (by simp [PM]; omega)]; exact h k i hk
theorem litc_agt {u0 u : St} (h : AGT u0 u) (ρ : Nat → Int) (ar : List Int) (k : Nat) : ∀ a, litc u ρ ar k a = litc u0 ρ ar k a := by
  induction k with
  | zero => intro a; rfl
  | succ k ih => intro a; simp only [litc]; rw [h 37 a (by simp), ih]
theorem thn_thn (a : Option EvR) (f g : List (Lt ⊕ Bool) → Nat → Nat → Option EvR) : thn (thn a f) g = thn a fun E n m => thn (f E n m) g := by cases a <;> rfl
def CN (u0 : St) (d i w g h q c : Nat) (occ : List Nat) : Prop := ∀ (s : Bool) (ρ : Nat → Int) (ar : List Int) (na nf : Nat) (ts : List Int) (scs : List (Nat × Int × Nat)) (st G : List Cs) (CT NL W0 : Nat) (u : St), AGT u0 u → CMk u (((8 * i + sb s : Nat) : Int) :: ts) ρ scs ar na nf st G CT NL → ts.length + g + 1 ≤ 4500 → scs.length + q ≤ 40 → ar.length + q ≤ 290 → st.length + h + 1 ≤ 400 → CT ≤ 6 * W0 → W0 + w ≤ 3000 → nf + w < 200000000 → na + w < 100000 → (∀ x, x ∈ occ → gv ar (ρ x)) → CX u c w (ev u0 d i s ρ ar na nf) ts ρ scs ar na nf st G (6 * (W0 + w))
theorem vocc_mem {u : St} (k : Nat) : ∀ a i, a ≤ i → i < a + k → I u 37 i < 0 → (-1 - I u 37 i).toNat ∈ vocc u k a := by
  induction k with
  | zero => intro a i h1 h2 _; omega
  | succ k ih =>
    intro a i h1 h2 hi
    simp only [vocc]
    by_cases ha : i = a
    · subst ha; rw [if_pos hi]; simp
    · have := ih (a + 1) i (by omega) (by omega) hi
      by_cases hn : I u 37 a < 0
      · rw [if_pos hn]; exact List.mem_cons_of_mem _ this
      · rw [if_neg hn]; exact this
theorem CN_pair {u0 : St} {d i1 i2 w1 w2 g1 g2 h1 h2 q1 q2 c1 c2 : Nat} {o1 o2 : List Nat} (n1 : CN u0 d i1 w1 g1 h1 q1 c1 o1) (n2 : CN u0 d i2 w2 g2 h2 q2 c2 o2) (b s1 s2 : Bool) {ρ : Nat → Int} {ar : List Int} {na nf : Nat} {ts : List Int} {scs : List (Nat × Int × Nat)} {st G : List Cs} {CT NL W0 : Nat} {u : St} (hA : AGT u0 u) (h : CMk u (((8 * i1 + sb s1 : Nat) : Int) :: ((8 * i2 + sb s2 : Nat) : Int) :: ((jt b : Nat) : Int) :: ts) ρ scs ar na nf st G CT NL) (ht1 : ts.length + g1 + 3 ≤ 4500) (ht2 : ts.length + g2 + 2 ≤ 4500) (hq1 : scs.length + q1 ≤ 40) (hq2 : scs.length + q2 ≤ 40) (ha1 : ar.length + q1 ≤ 290) (ha2 : ar.length + q2 ≤ 290) (hs1 : st.length + h1 + 1 ≤ 400) (hs2 : st.length + h2 + 2 ≤ 400) (hCT : CT ≤ 6 * W0) (hW : W0 + w1 + w2 ≤ 3000) (hnf : nf + w1 + w2 < 200000000) (hna : na + w1 + w2 < 100000) (ho1 : ∀ x, x ∈ o1 → gv ar (ρ x)) (ho2 : ∀ x, x ∈ o2 → gv ar (ρ x)) : CX u (c1 + c2 + 1) (w1 + w2) (thn (ev u0 d i1 s1 ρ ar na nf) fun E1 na1 nf1 => thn (ev u0 d i2 s2 ρ ar na1 nf1) fun E2 na2 nf2 => some (E1 ++ (E2 ++ [.inr b]), na2, nf2)) ts ρ scs ar na nf st G (6 * (W0 + w1 + w2)) := by
  refine seq_spec (T2 := [((8 * i2 + sb s2 : Nat) : Int)]) (M1 := 6 * (W0 + w1)) b (by omega) (by omega) (n1 s1 ρ ar na nf (((8 * i2 + sb s2 : Nat) : Int) :: ((jt b : Nat) : Int) :: ts) scs st G CT NL W0 u hA h (by simp only [List.length_cons]; omega) hq1 ha1 hs1 hCT (by omega) (by omega) (by omega) ho1) ?_
  intro na1 nf1 z G' CT1 NL1 u' hc b1 b2' b3 b4 b5 hF
  exact n2 s2 ρ ar na1 nf1 (((jt b : Nat) : Int) :: ts) scs (z :: st) G' CT1 NL1 (W0 + w1) u' (AGT_fr hA hF) hc (by simp only [List.length_cons]; omega) hq2 ha2 (by simp only [List.length_cons]; omega) b1 (by omega) (by omega) (by omega) ho2
theorem gv_mono {ar : List Int} (r : List Int) {m : Int} (h : gv ar m) : gv (ar ++ r) m := by
  rcases h with h | h
  · exact Or.inl h
  · exact Or.inr ⟨h.1, by rw [List.length_append]; omega⟩
theorem CN_all {u0 v : St} {S R NC NR kc lo hi : Nat} (hkc : kc ≤ 1501) (hR : R ≤ 1501) (hNC : NC ≤ 1501) (d : Nat) : ∀ i j w g h q c occ, IS u0 v S R NC NR kc lo hi d i j w g h q c occ → CN u0 d i w g h q c occ := by
  induction d with
  | zero => intro i j w g h q c occ hh; exact hh.elim
  | succ d ih =>
    intro i j w g h q c occ hh s ρ ar na nf ts scs st G CT NL W0 u hA hC ht hsq haq hst hCT hW hnf hna hocc
    obtain ⟨a1, a2, a3, a4, hh⟩ := hh
    obtain ⟨u8, p1, p2, p3⟩ := cmk_pop (sb_lt s) (show i < 2000 by omega) (by omega) hC
    have hA8 : AGT u0 u8 := AGT_fr hA (Fr_up2 P42_PM p3)
    have e33 : I u8 33 i = I u0 33 i := hA8 33 i (by simp)
    have e34 : I u8 34 i = I u0 34 i := hA8 34 i (by simp)
    have e35 : I u8 35 i = I u0 35 i := hA8 35 i (by simp)
    -- one step to a state where tasks are pushed
    have go : ∀ (u9 : St) (o : Option EvR) (c' w' M : Nat), fX0_perform (zI (sb s)) (zI i) u8 = some u9 → Fr PM u8 u9 → CX u9 c' w' o ts ρ scs ar na nf st G M → CX u (c' + 1) w' o ts ρ scs ar na nf st G M := by
      intro u9 o c' w' M hp hF hx
      exact CX_pre (fun F x hx => by rw [p1 F x hx, hp, bd_s]) (Fr_tr (Fr_up2 P42_PM p3) hF) hx
    rcases hh with ⟨a, b, b1, b2, b3, b4, b5, b6, b7, b8, b9, b10, b11, b12, b13, b14, b15, b16⟩ | ⟨i1, j1, c1, g1, b1, b2, b3, b4, b5, b5g, b6⟩ | ⟨kk, i1, i2, j1, j2, w1, w2, g1, g2, h1, h2, q1, q2, c1, c2, o1, o2, b1, b2, b3, b4, b5, b6, b7, b8, b9, b10, b11, b12, b13, b14, b15⟩ | ⟨i1, i2, j1, j2, w1, w2, g1, g2, h1, h2, q1, q2, c1, c2, o1, o2, b2, b3, b4, b5, b6, b7, b8, b9, b10, b11, b12, b13, b14, b15⟩ | ⟨kk, x, i1, j1, w1, g1, q1, c1, o1, b1, b2, b3, b4, b5, b6, b7, b8, b9, b10, b11, b12, b13, b14⟩
    · -- an atom
      have hev : ev u0 (d + 1) i s ρ ar na nf = some ([.inl (sgb s, litc u0 ρ ar (b - a) a)], na, nf) := by
        simp only [ev]
        rw [if_pos b3, b5, b6, Int.toNat_natCast, Int.toNat_natCast]
      have hp : fX0_perform (zI (sb s)) (zI i) u8 = fX0_literal (zI a) (zI b) (zI (sgb s)) u8 := by
        rw [vis_k s i 0 u8 (by omega) (by rw [e33, b3]; rfl) (by omega) a b (by rw [e34, b5]) (by rw [e35, b6]), if_pos rfl]
      have hO : LOK u8 ρ ar a b := by
        intro k h1 h2
        rw [hA8 37 k (by simp)]
        refine ⟨?_, fun hn => hocc _ (by rw [b12]; exact vocc_mem (b - a) a k h1 (by omega) hn)⟩
        rcases b9.1 k h1 h2 with ⟨s', s1, s2, s3, s4⟩ | ⟨x, y, x1, x2, x3, x4, x5⟩ <;> omega
      have hs01 : sgb s = 0 ∨ sgb s = 1 := by cases s <;> simp [sgb]
      obtain ⟨c1, c2, c3, c4, c5, c6, c7, c8⟩ := p2
      rw [hev]
      rcases clit_spec hs01 c8 (by omega) (by omega) (by omega) c5.2.2 (by omega) c3 c5.2.1 hO c2 with ⟨k1, u9, CT', k2, k3, k4, k5, k6⟩ | ⟨k1, u9, k2, k3, k4⟩
      · rw [litc_agt hA8] at k3
        refine ⟨u9, 1, by omega, fun F x hx => by rw [p1 F x (by omega), hp, k2, bd_s], Fr_tr (Fr_up2 P42_PM p3) (Fr_up2 Pwm_PM k6), Or.inl ⟨_, na, nf, _, _, CT', NL + 1, rfl, EZ_lit _, ⟨WK_fr k6 (fun _ => rfl) rfl c1, k5, fun x hx => by rw [Fr_I k6 rfl]; exact c3 x hx, ⟨by rw [Fr_I k6 rfl]; exact c4.1, SCl_eq _ _ (Nat.le_refl _) (fun i _ => ⟨Fr_I k6 rfl, Fr_I k6 rfl, Fr_I k6 rfl⟩) c4.2⟩, ⟨by rw [Fr_I k6 rfl]; exact c5.1, RWl_eq _ _ (fun i _ _ => Fr_I k6 rfl) c5.2.1, c5.2.2⟩, by rw [Fr_I k6 rfl]; exact c6, by rw [Fr_I k6 rfl]; exact c7, k3⟩, by omega, by omega, by omega, by omega, by omega, by omega⟩⟩
      · rw [litc_agt hA8] at k1
        exact ⟨u9, 1, by omega, fun F x hx => by rw [p1 F x (by omega), hp, k2, bd_s], Fr_tr (Fr_up2 P42_PM p3) (Fr_up2 Pwm_PM k4), Or.inr ⟨k3, Or.inr ⟨_, na, nf, rfl, k1⟩⟩⟩
    · -- not
      have hi1 := (IS_bits b6).1
      have hev : ev u0 (d + 1) i s ρ ar na nf = ev u0 d i1 (!s) ρ ar na nf := by
        simp only [ev]
        rw [if_neg (by omega), if_pos b1, b3, Int.toNat_natCast]
      obtain ⟨u9, k1, k2, k3⟩ := cmk_push (sb (!s)) i1 (sb_lt _) (by omega) (by omega) p2
      have hp : fX0_perform (zI (sb s)) (zI i) u8 = some u9 := by
        rw [vis_k s i 1 u8 (by omega) (by rw [e33, b1]; rfl) (by omega) i1 _ (by rw [e34, b3]) rfl, if_neg (by decide), if_pos rfl]; exact k1
      rw [hev, b5]
      exact go u9 _ _ _ _ hp (Fr_up2 P42_PM k3) (ih _ _ _ _ _ _ _ _ b6 (!s) ρ ar na nf ts scs st G CT NL W0 u9 (AGT_fr hA8 (Fr_up2 P42_PM k3)) k2 (by omega) hsq haq hst hCT hW hnf hna hocc)
    · -- and, or, implies
      have hi1 := (IS_bits b14).1
      have hi2 := (IS_bits b15).1
      have m1 : q1 ≤ q ∧ q2 ≤ q := by rw [b11]; exact ⟨Nat.le_max_left _ _, Nat.le_max_right _ _⟩
      have m2 : h1 ≤ h ∧ h2 + 1 ≤ h := by rw [b10]; exact ⟨Nat.le_max_left _ _, Nat.le_max_right _ _⟩
      have hev : ev u0 (d + 1) i s ρ ar na nf = thn (ev u0 d i1 (if kk = 4 then !s else s) ρ ar na nf) fun E1 na1 nf1 => thn (ev u0 d i2 s ρ ar na1 nf1) fun E2 na2 nf2 => some (E1 ++ (E2 ++ [.inr (if kk = 2 then !s else s)]), na2, nf2) := by
        simp only [ev]
        rw [if_neg (by omega), if_neg (by omega), if_pos (by omega), b4, b5, Int.toNat_natCast, Int.toNat_natCast]
        rcases b1 with hk | hk | hk <;> subst hk <;> rw [b2] <;> rfl
      obtain ⟨u9, k1, k2, k3⟩ := cmk_pair (if kk = 2 then !s else s) (if kk = 4 then !s else s) s i1 i2 (by omega) (by omega) (by omega) p2
      have hp : fX0_perform (zI (sb s)) (zI i) u8 = some u9 := by
        rw [vis_k s i kk u8 (by omega) (by rw [e33, b2]) (by omega) i1 i2 (by rw [e34, b4]) (by rw [e35, b5]), if_neg (by omega), if_neg (by omega), ← k1]
        rcases b1 with hk | hk | hk <;> subst hk <;> rfl
      have hcx := CN_pair (ih _ _ _ _ _ _ _ _ b14) (ih _ _ _ _ _ _ _ _ b15) (if kk = 2 then !s else s) (if kk = 4 then !s else s) s (W0 := W0) (AGT_fr hA8 (Fr_up2 P42_PM k3)) k2 (by omega) (by omega) (by omega) (by omega) (by omega) (by omega) (by omega) (by omega) hCT (by omega) (by omega) (by omega) (fun x hx => hocc x (by rw [b13]; exact List.mem_append_left _ hx)) (fun x hx => hocc x (by rw [b13]; exact List.mem_append_right _ hx))
      rw [hev, b12, b8, ← Nat.add_assoc W0 w1 w2]
      exact go u9 _ _ _ _ hp (Fr_up2 P42_PM k3) hcx
    · -- both ways
      have hi1 := (IS_bits b14).1
      have hi2 := (IS_bits b15).1
      have m1 : q1 ≤ q ∧ q2 ≤ q := by rw [b11]; exact ⟨Nat.le_max_left _ _, Nat.le_max_right _ _⟩
      have m2 : h1 + 2 ≤ h ∧ h2 + 2 ≤ h := by
        have x1 := Nat.le_max_left h1 h2
        have x2 := Nat.le_max_right h1 h2
        omega
      have hev : ev u0 (d + 1) i s ρ ar na nf = thn (thn (ev u0 d i1 (!s) ρ ar na nf) fun E1 na1 nf1 => thn (ev u0 d i2 s ρ ar na1 nf1) fun E2 na2 nf2 => some (E1 ++ (E2 ++ [.inr s]), na2, nf2)) fun E1 na1 nf1 => thn ((fun na nf => thn (ev u0 d i2 (!s) ρ ar na nf) fun E1 na1 nf1 => thn (ev u0 d i1 s ρ ar na1 nf1) fun E2 na2 nf2 => some (E1 ++ (E2 ++ [.inr s]), na2, nf2)) na1 nf1) fun E2 na2 nf2 => some (E1 ++ (E2 ++ [.inr (!s)]), na2, nf2) := by
        simp only [ev]
        rw [if_neg (by omega), if_neg (by omega), if_neg (by omega), if_pos b2, b4, b5, Int.toNat_natCast, Int.toNat_natCast]
        simp only [thn_thn, thn_s]
      obtain ⟨u9, k1, k2, k3⟩ := cmk_push (jt (!s)) 0 (jt_lt _) (by decide) (by omega) p2
      rw [Nat.mul_zero, Nat.zero_add] at k2
      obtain ⟨u10, l1, l2, l3⟩ := cmk_pair s (!s) s i2 i1 (by omega) (by omega) (by simp only [List.length_cons]; omega) k2
      obtain ⟨u11, m3, m4, m5⟩ := cmk_pair s (!s) s i1 i2 (by omega) (by omega) (by simp only [List.length_cons]; omega) l2
      have hp : fX0_perform (zI (sb s)) (zI i) u8 = some u11 := by
        rw [vis_k s i 5 u8 (by omega) (by rw [e33, b2]; rfl) (by omega) i1 i2 (by rw [e34, b4]) (by rw [e35, b5]), if_neg (by decide), if_neg (by decide), if_neg (by decide), if_neg (by decide), if_neg (by decide), if_pos rfl, show (zI 0 : Int32) = zI (0 : Nat) from rfl, k1, bd_s, l1, bd_s, m3]
      have hF : Fr PM u8 u11 := Fr_up2 P42_PM (Fr_tr k3 (Fr_tr l3 m5))
      have o1' : ∀ x, x ∈ o1 → gv ar (ρ x) := fun x hx => hocc x (by rw [b13]; exact List.mem_append_left _ hx)
      have o2' : ∀ x, x ∈ o2 → gv ar (ρ x) := fun x hx => hocc x (by rw [b13]; exact List.mem_append_right _ hx)
      have hcx := seq_spec (T2 := [((8 * i2 + sb (!s) : Nat) : Int), ((8 * i1 + sb s : Nat) : Int), ((jt s : Nat) : Int)]) (o2 := fun na nf => thn (ev u0 d i2 (!s) ρ ar na nf) fun E1 na1 nf1 => thn (ev u0 d i1 s ρ ar na1 nf1) fun E2 na2 nf2 => some (E1 ++ (E2 ++ [.inr s]), na2, nf2)) (c2 := c2 + c1 + 1) (w2 := w2 + w1) (M2 := 6 * (W0 + w1 + w2 + w2 + w1)) (!s) (by omega) (by omega) (CN_pair (ih _ _ _ _ _ _ _ _ b14) (ih _ _ _ _ _ _ _ _ b15) s (!s) s (W0 := W0) (AGT_fr hA8 hF) m4 (by first | omega | (simp only [List.length_cons, List.cons_append, List.nil_append]; omega)) (by first | omega | (simp only [List.length_cons, List.cons_append, List.nil_append]; omega)) (by omega) (by omega) (by omega) (by omega) (by omega) (by omega) hCT (by omega) (by omega) (by omega) o1' o2') (fun na1 nf1 z G' CT1 NL1 u' hc x1 x2 x3 x4 x5 hF' => CN_pair (ts := ((jt (!s) : Nat) : Int) :: ts) (ih _ _ _ _ _ _ _ _ b15) (ih _ _ _ _ _ _ _ _ b14) s (!s) s (W0 := W0 + w1 + w2) (AGT_fr (AGT_fr hA8 hF) hF') hc (by first | omega | (simp only [List.length_cons, List.cons_append, List.nil_append]; omega)) (by first | omega | (simp only [List.length_cons, List.cons_append, List.nil_append]; omega)) (by omega) (by omega) (by omega) (by omega) (by first | omega | (simp only [List.length_cons, List.cons_append, List.nil_append]; omega)) (by first | omega | (simp only [List.length_cons, List.cons_append, List.nil_append]; omega)) x1 (by omega) (by omega) (by omega) o2' o1')
      rw [hev, show c = c1 + c2 + 1 + (c2 + c1 + 1) + 1 + 1 by omega, show w = w1 + w2 + (w2 + w1) by omega, show 6 * (W0 + (w1 + w2 + (w2 + w1))) = 6 * (W0 + w1 + w2 + w2 + w1) by omega]
      exact go u11 _ _ _ _ hp hF hcx
    · -- a quantifier
      have hi1 := (IS_bits b14).1
      have hρx : -2147483648 ≤ ρ x ∧ ρ x < 2147483648 := by
        have h1 := I_lo u 43 x
        have h2 := I_hi u 43 x
        rw [hC.2.2.1 x (by omega)] at h1 h2; exact ⟨h1, h2⟩
      have hpk : fX0_perform (zI (sb s)) (zI i) u8 = (bd (fX0_enter (zI x) (if (kk = 6) = (s = false) then 1 else 0) u8) fun u1 => bd (fX0_push (zI 4) (zI 0) u1) fun u2 => fX0_push (zI (sb s)) (zI i1) u2) := by
        rw [vis_k s i kk u8 (by omega) (by rw [e33, b2]) (by omega) x i1 (by rw [e34, b4]) (by rw [e35, b7]), if_neg (by omega), if_neg (by omega), if_neg (by omega), if_neg (by omega), if_neg (by omega), if_neg (by omega)]
      have hk6 : (I u0 33 i = 6) = (kk = 6) := by rw [b2]; apply propext; omega
      -- behind the sign: the same for both
      have tail : ∀ (m : Int) (ar' : List Int) (na' nf' : Nat) (u9 : St), fX0_enter (zI x) (if (kk = 6) = (s = false) then 1 else 0) u8 = some u9 → Fr PM u8 u9 → CMk u9 ts (updm ρ x m) ((x, ρ x, ar.length) :: scs) ar' na' nf' st G CT NL → (∃ r, ar' = ar ++ r) → ar'.length ≤ ar.length + 1 → gv ar' m → na ≤ na' → na' ≤ na + 1 → nf ≤ nf' → nf' ≤ nf + 1 → ev u0 (d + 1) i s ρ ar na nf = ev u0 d i1 s (updm ρ x m) ar' na' nf' → CX u c w (ev u0 (d + 1) i s ρ ar na nf) ts ρ scs ar na nf st G (6 * (W0 + w)) := by
        intro m ar' na' nf' u9 hen hF9 hc9 har' hal hgm x1 x2 x3 x4 hev
        obtain ⟨u10, k1, k2, k3⟩ := cmk_push 4 0 (by decide) (by decide) (by omega) hc9
        obtain ⟨u11, l1, l2, l3⟩ := cmk_push (sb s) i1 (sb_lt s) (by omega) (by simp only [List.length_cons]; omega) k2
        have hp : fX0_perform (zI (sb s)) (zI i) u8 = some u11 := by
          rw [hpk, hen, bd_s, show (zI 4 : Int32) = zI (4 : Nat) from rfl, show (zI 0 : Int32) = zI (0 : Nat) from rfl, k1, bd_s, l1]
        have hF : Fr PM u8 u11 := Fr_tr hF9 (Fr_up2 P42_PM (Fr_tr k3 l3))
        obtain ⟨r, hr⟩ := har'
        have hch := ih _ _ _ _ _ _ _ _ b14 s (updm ρ x m) ar' na' nf' (((4 : Nat) : Int) :: ts) ((x, ρ x, ar.length) :: scs) st G CT NL W0 u11 (AGT_fr hA8 hF) l2 (by simp only [List.length_cons]; omega) (by simp only [List.length_cons]; omega) (by omega) hst hCT (by omega) (by omega) (by omega) (fun y hy => by
          unfold updm
          by_cases hyx : y = x
          · rw [if_pos hyx]; exact hgm
          · rw [if_neg hyx, hr]; exact gv_mono r (hocc y (by rw [b13]; exact List.mem_filter.2 ⟨hy, by simp [hyx]⟩)))
        rw [hev]
        obtain ⟨u12, N, f1, f2, f3, f4⟩ := hch
        have hF12 : Fr PM u u12 := Fr_tr (Fr_up2 P42_PM p3) (Fr_tr hF f3)
        rcases f4 with ⟨E, na2, nf2, z, Gx, CT', NL', t1, t2, t3, t4, t5, t6, t7, t8, t9⟩ | f4
        · obtain ⟨u13, r1, r2, r3⟩ := leave_spec (ρ := ρ) (ar := ar) (by omega) (by omega) (fun y hy => by unfold updm; rw [if_neg hy]) hρx ⟨r, hr⟩ (by omega) t3
          refine ⟨u13, 1 + N + 1, by omega, fun F y hy => ?_, Fr_tr hF12 r3, Or.inl ⟨E, na2, nf2, z, Gx, CT', NL', t1, t2, r2, by omega, by omega, by omega, by omega, by omega, by omega⟩⟩
          rw [show F + (1 + N + 1) = ((F + 1) + N) + 1 by omega, p1 _ _ (by omega), hp, bd_s, f2 _ _ (by omega), r1 _ _ (by omega), show y + 1 + N + 1 = y + (1 + N + 1) by omega]
        · refine ⟨u12, 1 + N, by omega, fun F y hy => ?_, hF12, Or.inr f4⟩
          rw [show F + (1 + N) = (F + N) + 1 by omega, p1 _ _ (by omega), hp, bd_s, f2 _ _ (by omega), show y + 1 + N = y + (1 + N) by omega]
      by_cases hun : (kk = 6) = (s = false)
      · obtain ⟨u9, k1, k2, k3⟩ := enter_all (x := x) (by omega) (by omega) (by omega) (by omega) p2
        refine tail (-1 - (na : Int)) (ar ++ [-1 - (na : Int)]) (na + 1) nf u9 (by rw [if_pos hun]; exact k1) k3 k2 ⟨_, rfl⟩ (by simp) (Or.inl (by omega)) (by omega) (by omega) (by omega) (by omega) ?_
        simp only [ev]
        rw [if_neg (by omega), if_neg (by omega), if_neg (by omega), if_neg (by omega), if_pos (by rw [hk6]; exact hun), b4, b7, Int.toNat_natCast, Int.toNat_natCast]
      · by_cases h5 : 5 < ar.length
        · have hev : ev u0 (d + 1) i s ρ ar na nf = none := by
            simp only [ev]
            rw [if_neg (by omega), if_neg (by omega), if_neg (by omega), if_neg (by omega), if_neg (by rw [hk6]; exact hun), if_pos h5]
          have hen : fX0_enter (zI x) 0 u8 = some (uI u8 5 5 (zI 1)) := enter_none (l := ar.length) (by rw [p2.2.2.2.1.1]; omega) p2.2.2.2.2.1.1 h5 (by omega)
          have F5 : Fr (fun k i => k == 5 && i == 5) u8 (uI u8 5 5 (zI 1)) := Fr_up rfl (Fr_rfl _ _)
          obtain ⟨u10, k1, k2, k3⟩ := cpush_spec 4 0 (by decide) (by decide) (by omega) (WK_fr F5 (fun _ => rfl) rfl p2.1)
          obtain ⟨u11, l1, l2, l3⟩ := cpush_spec (sb s) i1 (sb_lt s) (by omega) (by simp only [List.length_cons]; omega) k2
          have hp : fX0_perform (zI (sb s)) (zI i) u8 = some u11 := by
            rw [hpk, if_neg hun, hen, bd_s, show (zI 4 : Int32) = zI (4 : Nat) from rfl, show (zI 0 : Int32) = zI (0 : Nat) from rfl, k1, bd_s, l1]
          refine ⟨u11, 1, by omega, fun F y hy => by rw [p1 _ _ (by omega), hp, bd_s], Fr_tr (Fr_up2 P42_PM p3) (Fr_tr (Fr_up2 (fun k i hk => by simp at hk; simp [PM, hk]) F5) (Fr_up2 P42_PM (Fr_tr k3 l3))), Or.inr ⟨?_, Or.inl hev⟩⟩
          rw [Fr_I l3 rfl, Fr_I k3 rfl]; exact I_uI1 _ _ _ _ (by decide) (by decide)
        · obtain ⟨u9, k1, k2, k3⟩ := enter_some (x := x) (by omega) (by omega) (by omega) (by omega) p2
          refine tail (8 * (4097 + (nf : Int)) + ar.length) ar na (nf + 1) u9 (by rw [if_neg hun]; exact k1) k3 k2 ⟨[], by simp⟩ (by omega) (Or.inr (by omega)) (by omega) (by omega) (by omega) (by omega) ?_
          simp only [ev]
          rw [if_neg (by omega), if_neg (by omega), if_neg (by omega), if_neg (by omega), if_neg (by rw [hk6]; exact hun), if_neg h5, b4, b7, Int.toNat_natCast, Int.toNat_natCast]
