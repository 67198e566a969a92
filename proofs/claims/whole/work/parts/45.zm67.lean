/-! writing: a clause of the store -/
def RSw (c : Nat → Int) (e : Nat → Nat) (N : Nat) (S F : Nat) (u v : St) : Prop := RT v c e N ∧ NMr u v S ∧ SYr u v S F N c ∧ (∀ p, p < N → I u 32 p = c p) ∧ (∀ w, 210 ≤ w → w < 220 → I u 62 w = -1)
def WKw (c : Nat → Int) (e : Nat → Nat) (N : Nat) (E : Nat) (u : St) (L : List (Nat × Int)) : Prop := ∃ a n : Nat, I u 13 5 = 0 ∧ I u 26 0 = a ∧ I u 27 0 = 210 ∧ I u 28 0 = n ∧ sg e N n a ∧ it e n a = E ∧ L = items e n a 210 ∧ (∀ p, p < N → I u 32 p = c p)
def WAw (c : Nat → Int) (e : Nat → Nat) (N : Nat) (E : Nat) (u : St) (x : Nat × Int) (l : List (Nat × Int)) : Prop := ∃ a n : Nat, x = (a, 210) ∧ I u 13 5 = 0 ∧ I u 26 0 = a ∧ I u 27 0 = 210 ∧ I u 28 0 = (n : Int) + 1 ∧ sg e N (n + 1) a ∧ it e (n + 1) a = E ∧ l = items e n (e a) 210 ∧ (∀ p, p < N → I u 32 p = c p)
/-- m variables are numbered; what is to come is L, it ends at E -/
def INw (c : Nat → Int) (e : Nat → Nat) (N s E E2 B : Nat) (u _v : St) (K : Nat) (L : List (Nat × Int)) : Prop := ∃ m pos n : Nat, m ≤ 10 ∧ I u 10 10 = m ∧ (∀ i, i < 10 → I u 74 (210 + i) = if i < m then (i : Int) else -1) ∧ s ≤ pos ∧ sg e N n pos ∧ it e n pos = E ∧ L = items e n pos 210 ∧ (∀ q, s ≤ q → q < pos → c q < 0 → -1 - c q < m) ∧ K + 16 * (E2 - pos) ≤ B
theorem atw (u : St) (a : Nat) (ca : Int) (h5 : I u 13 5 = 0) (ha : I u 26 0 = a) (hb : I u 27 0 = 210) (haN : a < 20000) (hc : I u 32 a = ca) : fX9_symbol 2 u = some (zI ca, u) ∧ fX9_variable 2 u = some (zI (if ca < 0 then 210 - 1 - ca else -1), u) := by
  have l1 := I_lo u 32 a
  have l2 := I_hi u 32 a
  rw [hc] at l1 l2
  have e0 : (0 : Int).toNat = 0 := rfl
  refine ⟨?_, ?_⟩
  · unfold fX9_symbol
    rw [show 11 + 2 = 13 from rfl, show 20 + 3 * 2 = 26 from rfl, gI_z u 13 5, h5, ld_z _ _ _ _ (by decide) (by decide), bd_s, e0, ha, ld_z _ _ _ _ (by omega) (by omega), bd_s, Int.toNat_natCast, hc]
  · unfold fX9_variable
    rw [show 11 + 2 = 13 from rfl, show 20 + 3 * 2 = 26 from rfl, show 21 + 3 * 2 = 27 from rfl, gI_z u 13 5, h5, ld_z _ _ _ _ (by decide) (by decide), bd_s, e0, ha, ld_z _ _ _ _ (by omega) (by omega), bd_s, Int.toNat_natCast, hc]
    by_cases hca : ca < 0
    · rw [if_neg (by rw [z_zero, z_le (by decide) (by decide) (by omega) (by omega)]; omega), if_pos hca, ld_z _ _ _ _ (by decide) (by decide), bd_s, e0, hb, show (1 : Int32) = zI 1 from rfl, z_sub, z_sub]
    · rw [if_pos (by rw [z_zero, z_le (by decide) (by decide) (by omega) (by omega)]; omega), if_neg hca]; rfl
/-- a variable of a clause by its number -/
theorem var_own {u v : St} {k m i : Nat} (hi : i < 10) (him : i ≤ m) (hm : m ≤ 10) (h10 : I u 10 10 = m) (h74 : ∀ i, i < 10 → I u 74 (210 + i) = if i < m then (i : Int) else -1) (hD : DS u v k) (hk : k < 99800) : ∃ u' v' n m', fX1_putVariable (zI ((210 + i : Nat) : Int)) u = some u' ∧ fX12_variableOut (zI i) 1 v = some v' ∧ 1 ≤ n ∧ n ≤ 12 ∧ DS u' v' (k + n) ∧ m ≤ m' ∧ i < m' ∧ m' ≤ 10 ∧ I u' 10 10 = (m' : Nat) ∧ (∀ i, i < 10 → I u' 74 (210 + i) = if i < m' then (i : Int) else -1) ∧ Wr u u' v v' Pv Qv2 := by
  -- the class numbers it
  obtain ⟨ua, m', c1, c2, c3, c4, c5, c6, c7⟩ : ∃ ua m', fX1_putVariable (zI ((210 + i : Nat) : Int)) u = fX1_putVariable_j30 (zI ((210 + i : Nat) : Int)) ua ∧ Fr Pv u ua ∧ m ≤ m' ∧ i < m' ∧ m' ≤ 10 ∧ I ua 10 10 = (m' : Nat) ∧ (∀ i, i < 10 → I ua 74 (210 + i) = if i < m' then (i : Int) else -1) := by
    by_cases h : i < m
    · refine ⟨u, m, ?_, Fr_rfl _ _, Nat.le_refl _, h, hm, h10, h74⟩
      unfold fX1_putVariable
      rw [ld_z _ _ _ _ (by omega) (by omega), bd_s, Int.toNat_natCast, h74 i hi, if_pos h, if_neg (by rw [show (-1 : Int32) = zI (-1) from rfl, z_eq (by omega) (by omega) (by decide) (by decide)]; omega)]
    · have him2 : i = m := by omega
      subst him2
      have e1 : I (uI u 74 (210 + i) (zI i)) 10 10 = i := by rw [I_uI3 _ _ _ _ _ _ (by decide)]; exact h10
      refine ⟨uI (uI u 74 (210 + i) (zI i)) 10 10 (zI ((i + 1 : Nat) : Int)), i + 1, ?_, Fr_up rfl (Fr_up rfl (Fr_rfl _ _)), by omega, by omega, by omega, I_uI1 _ _ _ _ (by omega) (by omega), ?_⟩
      · unfold fX1_putVariable
        rw [ld_z _ _ _ _ (by omega) (by omega), bd_s, Int.toNat_natCast, h74 i hi, if_neg h, if_pos (show zI (-1) = -1 from rfl), gI_z u 10 10, h10, st_z _ _ _ _ _ (by omega) (by omega), bd_s, Int.toNat_natCast, gI_z _ 10 10, e1, lt_e, show (1 : Int32) = zI 1 from rfl, z_add, show (i : Int) + 1 = ((i + 1 : Nat) : Int) by omega]
      · intro j hj
        rw [I_uI3 _ _ _ _ _ _ (by decide)]
        by_cases hji : j = i
        · subst hji; rw [I_uI1 _ _ _ _ (by omega) (by omega), if_pos (by omega)]
        · rw [I_uI2 _ _ _ _ _ _ (by omega), h74 j hj]
          by_cases hjl : j < i
          · rw [if_pos hjl, if_pos (by omega)]
          · rw [if_neg hjl, if_neg (by omega)]
  have hDa : DS ua v k := DS_fr c2 (Fr_rfl (fun _ _ => false) v) (fun i hi => by rcases hi with h | h | h | h <;> subst h <;> rfl) (fun _ => rfl) (fun _ => rfl) rfl (fun _ => rfl) hD
  have hda := hDa.2.1
  obtain ⟨u1, v1, r1, r2, r3, r4⟩ := put_w 88 hDa (by omega) NoP NoP
  have d74 : ∀ x, I u1 74 x = I ua 74 x := fun x => Wr_I r4 hda rfl (by decide) (by decide) (Or.inl (by decide))
  obtain ⟨u', v', n, t1, t2, t3, t4, t5, t6⟩ := num_both i (by omega) r3 (by omega)
  refine ⟨u', v', 1 + n, m', ?_, ?_, by omega, by omega, by rw [← Nat.add_assoc]; exact t5, c3, c4, c5, ?_, ?_, ?_⟩
  · rw [c1]
    unfold fX1_putVariable_j30
    rw [r1, bd_s, ld_z _ _ _ _ (by omega) (by omega), bd_s, Int.toNat_natCast, d74, c7 i hi, if_pos c4, t1, bd_s]
  · unfold fX12_variableOut
    rw [r2, bd_s, if_neg (by decide), t2, bd_s]
  · rw [Wr_I t6 r3.2.1 rfl (by decide) (by decide) (by decide), Wr_I r4 hda rfl (by decide) (by decide) (by decide)]; exact c6
  · intro j hj
    rw [Wr_I t6 r3.2.1 rfl (by decide) (by decide) (Or.inl (by decide)), d74]; exact c7 j hj
  · exact Wr_tr (Wr_cls c2 rfl rfl) (Wr_tr (Wr_mono (fun k i hk => by simp [NoP] at hk) (fun k i hk => by simp [NoP] at hk) r4) (Wr_mono (fun k i hk => by simp at hk; simp [Pv, hk]) (fun k i hk => by simp [NoP] at hk) t6))
theorem write_mode {c : Nat → Int} {e : Nat → Nat} {N : Nat} {s E E2 B S F : Nat} (hT : TOK c e N) (hN : N ≤ 20000) (hS : S ≤ 60) (hF : F < 200000000) (hE : E ≤ E2) (hnv : ∀ q, s ≤ q → q < E → c q < 0 → -1 - c q < 10) (hVO : ∀ q, s ≤ q → q < E2 → c q < 0 → ∀ w : Int, 0 ≤ w → w < -1 - c q → ∃ q', s ≤ q' ∧ q' < q ∧ c q' = -1 - w) : LMode c e N id (fun _ => -1) (WKw c e N E) (WAw c e N E) (RSw c e N S F) (INw c e N s E E2 B) := by
  refine ⟨fun u v h => h.1, ?_, ?_, ?_, ?_, ?_, ?_, ?_, ?_, ?_, ?_, ?_⟩
  · intro u u' v v' hW hd h
    have Fu := Wr_P hW hd
    have Fv := hW.2.2.2
    exact ⟨RT_fr Fv (fun _ => rfl) (fun _ => rfl) (fun _ => rfl) h.1, NMr_fr Fu Fv (fun k i hk => by rcases hk with h | h | h <;> subst h <;> rfl) (fun k i hk => by rcases hk with h | h | h <;> subst h <;> rfl) h.2.1, SYr_fr Fu Fv (fun _ => rfl) (fun _ => rfl) h.2.2.1, fun p hp => by rw [Fr_I Fu rfl]; exact h.2.2.2.1 p hp, fun w h1 h2 => by rw [Fr_I Fu rfl]; exact h.2.2.2.2 w h1 h2⟩
  · intro u v K L hW hR hI
    obtain ⟨a, n, h1, h2, h3, h4, h5, h6, h7, h8⟩ := hW
    have hFU : fX9_more 2 u = fX9_more_L0_0 2 (fX9_more_L0 2 999999999) (zI 0) u := rfl
    cases n with
    | zero =>
      refine Or.inl ⟨h7, u, ?_, Fr_rfl _ _⟩
      rw [hFU]; exact more_end 2 (by decide) _ 0 (by decide) (by decide) u h1 h4
    | succ n =>
      refine Or.inr ⟨(a, 210), items e n (e a) 210, u, h7, ?_, ⟨a, n, rfl, h1, h2, h3, by rw [h4]; omega, h5, h6, rfl, h8⟩, Fr_rfl _ _⟩
      have haN := h5.1
      obtain ⟨m, pos, n', i1, i2, i3, i4, i5, i6, i7, i8, i9⟩ := hI
      rw [hFU]
      refine more_stop 2 (by decide) _ 0 (by decide) (by decide) u 0 a 210 (c a) n (by decide) h1 h2 h3 (by rw [h4]; omega) (by omega) (h8 a haN) (fun hc => ?_)
      have hpa : pos = a := by
        rw [h7] at i7
        cases n' with
        | zero => simp [items] at i7
        | succ n' => simp only [items, List.cons.injEq, Prod.mk.injEq] at i7; exact i7.1.1.symm
      have hlt : a < E := by
        rw [← h6]
        have := (sg_le h5.2.2).1
        have := h5.2.1
        simp only [it]; omega
      have := hnv a (by omega) hlt hc
      exact ⟨(210 - 1 - c a).toNat, by omega, by omega, hR.2.2.2.2 _ (by omega) (by omega)⟩
  · intro u x l hA
    obtain ⟨a, n, rfl, h1, h2, h3, h4, h5, h6, h7, h8⟩ := hA
    have haN := h5.1
    have hat := atw u a (c a) h1 h2 h3 (by omega) (h8 a haN)
    exact ⟨haN, haN, by show (-2147483648 : Int) ≤ -1; decide, by show (-1 : Int) < 2147483648; decide, hat.1, hat.2, by show c a < 2147483648; rw [← h8 a haN]; exact I_hi _ _ _⟩
  · intro u u' v v' L hW hd h
    obtain ⟨a, n, h1, h2, h3, h4, h5, h6, h7, h8⟩ := h
    have Fu := Wr_P hW hd
    exact ⟨a, n, by rw [Fr_I Fu rfl]; exact h1, by rw [Fr_I Fu rfl]; exact h2, by rw [Fr_I Fu rfl]; exact h3, by rw [Fr_I Fu rfl]; exact h4, h5, h6, h7, fun p hp => by rw [Fr_I Fu rfl]; exact h8 p hp⟩
  · intro u u' v v' x l hW hd h
    obtain ⟨a, n, h0, h1, h2, h3, h4, h5, h6, h7, h8⟩ := h
    have Fu := Wr_P hW hd
    exact ⟨a, n, h0, by rw [Fr_I Fu rfl]; exact h1, by rw [Fr_I Fu rfl]; exact h2, by rw [Fr_I Fu rfl]; exact h3, by rw [Fr_I Fu rfl]; exact h4, h5, h6, h7, fun p hp => by rw [Fr_I Fu rfl]; exact h8 p hp⟩
  · intro u x l hA
    obtain ⟨a, n, rfl, h1, h2, h3, h4, h5, h6, h7, h8⟩ := hA
    have haN := h5.1
    have hn := sg_count h5
    have hle := (sg_le h5).2
    obtain ⟨U, e1, e2, e3, e4, e5⟩ := enter_step 2 (by decide) u 0 a (c a) n (by decide) h1 h2 h4 (by omega) (by omega) (h8 a haN)
    have hTa := hT a haN
    refine ⟨U, e1, ⟨a + 1, ar c a + n, ?_, ?_, ?_, ?_, ?_, ?_, ?_, ?_⟩, e5⟩
    · rw [e4 _ _ (by decide) (by decide)]; exact h1
    · have := e2 0; rw [if_pos rfl] at this; rw [show (26 : Nat) = 20 + 3 * 2 from rfl, this]; omega
    · rw [e4 _ _ (by decide) (by decide)]; exact h3
    · have := e3 0; rw [if_pos rfl] at this
      rw [show (28 : Nat) = 22 + 3 * 2 from rfl, this]
      unfold ar
      by_cases hc : c a < 0
      · rw [if_pos hc, if_pos hc]; omega
      · rw [if_neg hc, if_neg hc]; omega
    · refine sg_add _ _ _ hTa.2.2.2.2 ?_
      rw [← hTa.2.2.2.1]; exact h5.2.2
    · rw [it_add, ← hTa.2.2.2.1]; exact h6
    · rw [h7, args_items hT haN]; rfl
    · intro p hp; rw [e4 _ _ (by decide) (by decide)]; exact h8 p hp
  · intro u v x l R hA hR
    refine ⟨v, ?_, Fr_rfl _ _⟩
    unfold HDr
    rw [if_pos (show zI (-1) < 0 by decide)]; rfl
  · intro u v x l k K hA hR hD hk hI hc
    obtain ⟨a, n, rfl, h1, h2, h3, h4, h5, h6, h7, h8⟩ := hA
    obtain ⟨m, pos, n', i1, i2, i3, i4, i5, i6, i7, i8, i9⟩ := hI
    have haN := h5.1
    cases n' with
    | zero => simp [items] at i7
    | succ n' =>
      simp only [items, List.cons.injEq, Prod.mk.injEq] at i7
      obtain ⟨⟨i7a, _⟩, i7b⟩ := i7
      subst i7a
      simp only [id] at hc ⊢
      have hlt : a < E := by
        rw [← h6]
        have := (sg_le h5.2.2).1
        have := h5.2.1
        simp only [it]; omega
      have hv := hnv a i4 hlt hc
      obtain ⟨i, hi⟩ : ∃ i : Nat, -1 - c a = i := ⟨(-1 - c a).toNat, by omega⟩
      have him : i ≤ m := by
        apply Classical.byContradiction
        intro hlt2
        obtain ⟨q', q1, q2, q3⟩ := hVO a i4 (by omega) hc m (by omega) (by omega)
        have := i8 q' q1 q2 (by omega)
        omega
      obtain ⟨u', v', nn, m', r1, r2, r3, r4, r5, r6, r7, r8, r9, r10, r11⟩ := var_own (i := i) (by omega) him i1 i2 i3 hD (by omega)
      have hea : e a = a + 1 := by
        have := (hT a haN).2.2.2.1
        rw [this]; unfold ar; rw [if_pos hc]; rfl
      refine ⟨by omega, by omega, u', v', nn, ?_, ?_, r3, r4, r5, fun K' hK' => ⟨m', a + 1, n', r8, r9, r10, by omega, ?_, ?_, ?_, ?_, by omega⟩, r11⟩
      · rw [show (210 : Int) - 1 - c a = ((210 + i : Nat) : Int) by omega]; exact r1
      · rw [if_neg (by decide), hi]; exact r2
      · rw [← hea]; exact i5.2.2
      · rw [← hea]; exact i6
      · rw [i7b, hea]
      · intro q q1 q2 q3
        by_cases hq : q = a
        · subst hq; omega
        · have := i8 q q1 (by omega) q3; omega
  · intro u v x l k hA hR hD hk hc
    obtain ⟨a, n, rfl, h1, h2, h3, h4, h5, h6, h7, h8⟩ := hA
    exact name_both hR.2.1 hR.2.2.1 hS hF h5.1 hc hD hk
  · intro u v x l K K' hA hI hc hK
    obtain ⟨a, n, rfl, h1, h2, h3, h4, h5, h6, h7, h8⟩ := hA
    obtain ⟨m, pos, n', i1, i2, i3, i4, i5, i6, i7, i8, i9⟩ := hI
    have haN := h5.1
    cases n' with
    | zero => simp [items] at i7
    | succ n' =>
      simp only [items, List.cons.injEq, Prod.mk.injEq] at i7
      obtain ⟨⟨i7a, _⟩, i7b⟩ := i7
      subst i7a
      simp only [id] at hc ⊢
      have hTa := hT a haN
      have hlt : a < E := by
        rw [← h6]
        have := (sg_le h5.2.2).1
        have := h5.2.1
        simp only [it]; omega
      refine ⟨m, a + 1, ar c a + n', i1, i2, i3, by omega, ?_, ?_, ?_, ?_, by omega⟩
      · refine sg_add _ _ _ hTa.2.2.2.2 ?_
        rw [← hTa.2.2.2.1]; exact i5.2.2
      · rw [it_add, ← hTa.2.2.2.1]; exact i6
      · rw [i7b, args_items hT haN]
      · intro q q1 q2 q3
        by_cases hq : q = a
        · subst hq; omega
        · exact i8 q q1 (by omega) q3
  · intro u u' v v' K L hW hd hI
    obtain ⟨m, pos, n', i1, i2, i3, i4⟩ := hI
    have Fu := Wr_P hW hd
    exact ⟨m, pos, n', i1, by rw [Fr_I Fu rfl]; exact i2, fun i hi => by rw [Fr_I Fu rfl]; exact i3 i hi, i4⟩
