/-! THE RELATION of the two states between calls -/
def TXr (u v : St) : Prop := I u 1 1 = I v 100 2 ∧ 0 ≤ I u 1 1 ∧ I u 1 1 ≤ 1500 ∧ ∀ i, I u 14 i = I v 101 i ∧ -128 ≤ I u 14 i ∧ I u 14 i ≤ 127
def PLr (u v : St) : Prop := ((I u 49 0 = 0 ∧ I u 52 0 = 0) ∧ 0 ≤ I v 100 43) ∧ 0 ≤ I v 100 21 ∧ I u 0 7 = if 0 < I v 100 21 then I v 100 22 else -1
def PGr (u v : St) : Prop := (gR u 10 2 = 71 ∨ gR u 10 2 = 72) ∧ (gR u 10 4 = 71 ∨ gR u 10 4 = 72) ∧ gR u 10 2 ≠ gR u 10 4 ∧ I u 10 3 = I v 100 76 ∧ 0 ≤ I u 10 3 ∧ I u 10 3 ≤ 4000 ∧ ∀ i : Nat, (i : Int) < I u 10 3 → I u (gR u 10 2) i = I v 144 i
/-- a name: its signs 1..63, in the class by bytes, in the reference to the base 64 -/
def ch (d : Nat) : Nat := if d < 27 then 96 + d else if d < 53 then 38 + d else if d < 63 then d - 5 else 95
def pk (b : Nat) (f : Nat → Nat) : List Nat → Nat
  | [] => 0
  | d :: l => f d + b * pk b f l
def NmR (x y : Int) : Prop := ∃ l : List Nat, l ≠ [] ∧ l.length ≤ 8 ∧ (∀ d ∈ l, 1 ≤ d ∧ d ≤ 63) ∧ x = pk 256 ch l ∧ y = pk 64 id l
def NMr (u v : St) (S : Nat) : Prop := ∀ i, i < S → NmR (J u 15 i) (J v 102 i) ∧ I u 16 i = I v 103 i ∧ -1 ≤ I u 16 i ∧ I u 16 i ≤ 5 ∧ (0 ≤ I u 16 i → (I u 17 i = 0 ∨ I u 17 i = 1) ∧ I v 104 i = 1 - I u 17 i)
def SYr (u v : St) (S F N : Nat) (c : Nat → Int) : Prop := ∀ p, p < N → 0 ≤ c p → (∃ s : Nat, s < S ∧ (0 ≤ I u 16 s ∧ I u 16 s ≤ 5) ∧ c p = 8 * s + I u 16 s ∧ I v 111 p = s) ∨ (∃ f : Nat, 1 ≤ f ∧ f ≤ F ∧ c p / 8 = 4096 + f ∧ I v 111 p = 999 + f)
def VOr (C : Nat) (fi ps : Nat → Nat) (c : Nat → Int) : Prop := ∀ k, k < C → ∀ q, ps (fi k) ≤ q → q < ps (fi (k + 1)) → c q < 0 → ∀ w : Int, 0 ≤ w → w < -1 - c q → ∃ q', ps (fi k) ≤ q' ∧ q' < q ∧ c q' = -1 - w
def STr (n : Nat) (u v : St) : Prop := ∃ C fi ps nv c e S F, SR u v C fi ps nv c e ∧ FO u v C fi ps nv c e ∧ I u 2 3 = (S : Nat) ∧ I v 100 3 = (S : Nat) ∧ S ≤ 60 ∧ I u 2 4 = (F : Nat) ∧ I v 100 7 = (F : Nat) ∧ F ≤ 375000 * n ∧ NMr u v S ∧ SYr u v S F (ps (fi C)) c ∧ VOr C fi ps c
def Re (n : Nat) (u v : St) : Prop := TXr u v ∧ PLr u v ∧ PGr u v ∧ STr n u v
theorem STr_mono {n : Nat} {u v : St} (h : STr n u v) : STr (n + 1) u v := by
  obtain ⟨C, fi, ps, nv, c, e, S, F, h1, h2, h3, h4, h5, h6, h7, h8, h9⟩ := h
  exact ⟨C, fi, ps, nv, c, e, S, F, h1, h2, h3, h4, h5, h6, h7, by omega, h9⟩
theorem Re_mono {n : Nat} {u v : St} (h : Re n u v) : Re (n + 1) u v := ⟨h.1, h.2.1, h.2.2.1, STr_mono h.2.2.2⟩
/-! what frames keep -/
theorem TXr_fr {P Q : Nat → Nat → Bool} {u u' v v' : St} (hu : Fr P u u') (hv : Fr Q v v') (h1 : P 1 1 = false) (h2 : ∀ i, P 14 i = false) (h3 : Q 100 2 = false) (h4 : ∀ i, Q 101 i = false) (h : TXr u v) : TXr u' v' := by
  unfold TXr
  rw [Fr_I hu h1, Fr_I hv h3]
  exact ⟨h.1, h.2.1, h.2.2.1, fun i => by rw [Fr_I hu (h2 i), Fr_I hv (h4 i)]; exact h.2.2.2 i⟩
theorem PLr_fr {P Q : Nat → Nat → Bool} {u u' v v' : St} (hu : Fr P u u') (hv : Fr Q v v') (h1 : P 0 7 = false) (h3 : Q 100 21 = false) (h4 : Q 100 22 = false) (h : PLr u v) (h5 : P 49 0 = false := by rfl) (h6 : P 52 0 = false := by rfl) (h7 : Q 100 43 = false := by rfl) : PLr u' v' := by
  unfold PLr
  rw [Fr_I hu h1, Fr_I hv h3, Fr_I hv h4, Fr_I hu h5, Fr_I hu h6, Fr_I hv h7]; exact h
theorem PGr_fr {P Q : Nat → Nat → Bool} {u u' v v' : St} (hu : Fr P u u') (hv : Fr Q v v') (h1 : P 10 2 = false) (h2 : P 10 3 = false) (h3 : P 10 4 = false) (h4 : ∀ i, P 71 i = false) (h5 : ∀ i, P 72 i = false) (h6 : Q 100 76 = false) (h7 : ∀ i, Q 144 i = false) (h : PGr u v) : PGr u' v' := by
  unfold PGr
  rw [Fr_R hu h1, Fr_R hu h3, Fr_I hu h2, Fr_I hv h6]
  obtain ⟨a1, a2, a3, a4, a5, a6, a7⟩ := h
  refine ⟨a1, a2, a3, a4, a5, a6, fun i hi => ?_⟩
  rw [Fr_I hv (h7 i)]
  rcases a1 with a | a
  · rw [a, Fr_I hu (h4 i), ← a]; exact a7 i hi
  · rw [a, Fr_I hu (h5 i), ← a]; exact a7 i hi
theorem NMr_fr {P Q : Nat → Nat → Bool} {u u' v v' : St} {S : Nat} (hu : Fr P u u') (hv : Fr Q v v') (h1 : ∀ k i, (k = 15 ∨ k = 16 ∨ k = 17) → P k i = false) (h2 : ∀ k i, (k = 102 ∨ k = 103 ∨ k = 104) → Q k i = false) (h : NMr u v S) : NMr u' v' S := by
  intro i hi
  rw [Fr_J hu (h1 15 i (by simp)), Fr_J hv (h2 102 i (by simp)), Fr_I hu (h1 16 i (by simp)), Fr_I hu (h1 17 i (by simp)), Fr_I hv (h2 103 i (by simp)), Fr_I hv (h2 104 i (by simp))]
  exact h i hi
theorem SYr_fr {P Q : Nat → Nat → Bool} {u u' v v' : St} {S F N : Nat} {c : Nat → Int} (hu : Fr P u u') (hv : Fr Q v v') (h1 : ∀ i, P 16 i = false) (h2 : ∀ i, Q 111 i = false) (h : SYr u v S F N c) : SYr u' v' S F N c := by
  intro p hp hc
  rcases h p hp hc with ⟨s, a1, a0, a2, a3⟩ | ⟨f, a1, a2, a3, a4⟩
  · exact Or.inl ⟨s, a1, by rw [Fr_I hu (h1 s)]; exact a0, by rw [Fr_I hu (h1 s)]; exact a2, by rw [Fr_I hv (h2 p)]; exact a3⟩
  · exact Or.inr ⟨f, a1, a2, a3, by rw [Fr_I hv (h2 p)]; exact a4⟩
theorem Re_0 {n : Nat} {u v : St} (h : Re n u v) : Re (n + 1) u (uI v 100 0 (zI 0)) := by
  have Fu : Fr (fun _ _ => false) u u := Fr_rfl _ _
  have Fv : Fr (P1 100 0) v (uI v 100 0 (zI 0)) := Fr_up (by simp [P1]) (Fr_rfl _ _)
  obtain ⟨h1, h2, h3, C, fi, ps, nv, c, e, S, F, g1, g2, g3, g4, g5, g6, g7, g8, g9, g10, g11⟩ := h
  exact ⟨TXr_fr Fu Fv rfl (fun _ => rfl) (by simp [P1]) (fun i => by simp [P1]) h1, PLr_fr Fu Fv rfl (by simp [P1]) (by simp [P1]) h2, PGr_fr Fu Fv rfl rfl rfl (fun _ => rfl) (fun _ => rfl) (by simp [P1]) (fun i => by simp [P1]) h3, C, fi, ps, nv, c, e, S, F, SR_x (Fr_rfl _ _) PRx_0 g1, FO_0 g2, g3, by rw [Fr_I Fv (by simp [P1])]; exact g4, g5, g6, by rw [Fr_I Fv (by simp [P1])]; exact g7, by omega, NMr_fr Fu Fv (fun _ _ _ => rfl) (fun k i hk => by simp [P1]; omega) g9, SYr_fr Fu Fv (fun _ => rfl) (fun i => by simp [P1]) g10, g11⟩
/-! the calls search, told, move, count, place -/
theorem SB_search {n : Nat} (a0 a1 : Int32) : StepBoth (fX11_search a0 a1) (fX12_search a0 a1) (Re n) (Re (n + 1)) := by
  intro u v h
  obtain ⟨h1, h2, h3, C, fi, ps, nv, c, e, S, F, g1, g2, g3, g4, g5, g6, g7, g8, g9, g10, g11⟩ := h
  obtain ⟨r, u1, v1, r1, r2, r3, r4, r5, r6⟩ := search_spec a0 a1 g1 g2
  exact ⟨r, u1, v1, r1, r2, TXr_fr r5 r6 rfl (fun _ => rfl) rfl (fun _ => rfl) h1, PLr_fr r5 r6 rfl rfl rfl h2, PGr_fr r5 r6 rfl rfl rfl (fun _ => rfl) (fun _ => rfl) rfl (fun _ => rfl) h3, C, fi, ps, nv, c, e, S, F, r3, r4, by rw [Fr_I r5 rfl]; exact g3, by rw [Fr_I r6 rfl]; exact g4, g5, by rw [Fr_I r5 rfl]; exact g6, by rw [Fr_I r6 rfl]; exact g7, by omega, NMr_fr r5 r6 (fun k i hk => by rcases hk with h | h | h <;> subst h <;> rfl) (fun k i hk => by rcases hk with h | h | h <;> subst h <;> rfl) g9, SYr_fr r5 r6 (fun _ => rfl) (fun _ => rfl) g10, g11⟩
theorem SB_told {n : Nat} (a0 : Int32) : StepBoth (fX11_told a0) (fX12_told a0) (Re n) (Re (n + 1)) := by
  intro u v h
  obtain ⟨C, fi, ps, nv, c, e, S, F, g1, g2, _⟩ := h.2.2.2
  obtain ⟨r, r1, r2⟩ := told_spec a0 g2
  exact ⟨r, u, _, r1, r2, Re_0 h⟩
theorem SB_move {n : Nat} (a0 a1 : Int32) : StepBoth (fX11_move a0 a1) (fX12_move a0 a1) (Re n) (Re (n + 1)) := by
  intro u v h
  obtain ⟨C, fi, ps, nv, c, e, S, F, g1, g2, _⟩ := h.2.2.2
  obtain ⟨r, r1, r2⟩ := move_spec a0 a1 g1 g2
  exact ⟨r, u, _, r1, r2, Re_0 h⟩
theorem SB_count {n : Nat} (a0 : Int32) : StepBoth (fX11_count a0) (fX12_count a0) (Re n) (Re (n + 1)) := by
  intro u v h
  have hR := Re_0 h
  obtain ⟨C, fi, ps, nv, c, e, S, F, g1, g2, g3, g4, g5, g6, g7, _⟩ := h.2.2.2
  have e0 : (0 : Int32) = zI 0 := rfl
  have f : ∀ i, i ≠ 0 → gI (uI v 100 0 0) 100 i = gI v 100 i := fun i hi => by rw [e0, gI_z, gI_z, I_uI2 _ _ _ _ _ _ (by omega)]
  have hc := g1.2.1
  have hd := g1.2.2.1
  refine ⟨(if a0 = 0 then zI C else if a0 = 1 then zI S else if a0 = 2 then zI F else -2), u, _, ?_, ?_, hR⟩
  · unfold fX11_count
    rw [gI_z u 2 5, gI_z u 2 3, gI_z u 2 4, hc, g3, g6]
    by_cases c0 : a0 = 0
    · rw [if_pos c0, if_pos c0]
    · rw [if_neg c0, if_neg c0]
      by_cases c1 : a0 = 1
      · rw [if_pos c1, if_pos c1]
      · rw [if_neg c1, if_neg c1]
        by_cases c2 : a0 = 2
        · rw [if_pos c2, if_pos c2]
        · rw [if_neg c2, if_neg c2]
  · unfold fX12_count
    rw [lt_e, f 10 (by decide), f 3 (by decide), f 7 (by decide), gI_z v 100 10, gI_z v 100 3, gI_z v 100 7, hd, g4, g7]
    by_cases c0 : a0 = 0
    · rw [if_pos c0, if_pos c0]; rfl
    · rw [if_neg c0, if_neg c0]
      by_cases c1 : a0 = 1
      · rw [if_pos c1, if_pos c1]; rfl
      · rw [if_neg c1, if_neg c1]
        by_cases c2 : a0 = 2
        · rw [if_pos c2, if_pos c2]; rfl
        · rw [if_neg c2, if_neg c2]; rfl
theorem SB_place {n : Nat} : StepBoth fX11_place fX12_place (Re n) (Re (n + 1)) := by
  intro u v h
  have hR := Re_0 h
  obtain ⟨_, p1, p2⟩ := h.2.1
  have b1 := I_hi v 100 21
  have e0 : (0 : Int32) = zI 0 := rfl
  have f : ∀ i, i ≠ 0 → gI (uI v 100 0 0) 100 i = gI v 100 i := fun i hi => by rw [e0, gI_z, gI_z, I_uI2 _ _ _ _ _ _ (by omega)]
  refine ⟨zI (I u 0 7), u, _, ?_, ?_, hR⟩
  · unfold fX11_place; rw [gI_z]
  · unfold fX12_place
    rw [lt_e, f 21 (by decide), f 22 (by decide), gI_z v 100 21, gI_z v 100 22, p2]
    by_cases c : 0 < I v 100 21
    · rw [if_neg (by rw [z_zero, z_le (by omega) (by omega) (by decide) (by decide)]; omega), if_pos c]; rfl
    · rw [if_pos (by rw [z_zero, z_le (by omega) (by omega) (by decide) (by decide)]; omega), if_neg c]; rfl
