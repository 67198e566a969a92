/-! UNIFYING, both sides step by step -/
def IO (c : Nat → Int) (e : Nat → Nat) (N : Nat) (V : Int) (x : Nat × Int) : Prop := x.1 < N ∧ Al c e (fun w => 0 ≤ w ∧ w < V) x ∧ -2147483648 ≤ x.2 ∧ x.2 < 2147483648
theorem IO_OK {c : Nat → Int} {e : Nat → Nat} {N : Nat} {V : Int} {T : List (Nat × Nat × Int)} {ρ : Nat → Nat} (hB : BOK c e N V T ρ) {x : Nat × Int} (h : IO c e N V x) : OK c e N V T ρ 220 x := Sub_OK hB [] trivial x ⟨h.1, h.2.1⟩
theorem OK_IO {c : Nat → Int} {e : Nat → Nat} {N : Nat} {V : Int} {T : List (Nat × Nat × Int)} {ρ : Nat → Nat} {r : Nat} {x : Nat × Int} (h : OK c e N V T ρ r x) (h1 : -2147483648 ≤ x.2) (h2 : x.2 < 2147483648) : IO c e N V x := ⟨h.1, Al_mono (fun _ hw => ⟨hw.1, hw.2.1⟩) h.2, h1, h2⟩
theorem IO_args {c : Nat → Int} {e : Nat → Nat} {N : Nat} {V : Int} (hT : TOK c e N) {x y : Nat × Int} (h : IO c e N V x) (hy : y ∈ args c e x) : IO c e N V y := by
  have h1 := Al_args hT h.1 h.2.1 hy
  have h2 := (items_mem (hT _ h.1).2.2.2.2 hy).2.2.2.1
  exact ⟨h1.1, h1.2, by rw [h2]; exact h.2.2⟩
theorem WOK_rng {w : Nat} {u : St} {c : Nat → Int} {e : Nat → Nat} {N : Nat} {V : Int} {T : List (Nat × Nat × Int)} {a : Nat} {b : Int} {n : Nat} {fs : List (Nat × Int × Nat)} {ws : List Nat} (h : WOK w u c e N V T (a, b, n) fs ws) : -2147483648 ≤ b ∧ b < 2147483648 := by
  have h1 : I u (21 + 3 * w) fs.length = b := h.2.1.2.1
  rw [← h1]; exact ⟨I_lo _ _ _, I_hi _ _ _⟩
theorem PRU_PRB {u u' : St} (h : Fr PRB u u') : Fr PRU u u' := Fr_mono (fun k i hk => by unfold PRU at hk; simp only [Bool.or_eq_false_iff] at hk; exact hk.1) h
theorem PRU_PAN {u u' : St} (h : Fr PAN u u') : Fr PRU u u' := Fr_mono (fun k i hk => by unfold PRU at hk; simp only [Bool.or_eq_false_iff] at hk; exact hk.2) h
theorem PRB_PRS {u u' : St} (h : Fr PRS u u') : Fr PRB u u' := Fr_mono (fun k i hk => by unfold PRB at hk; simp only [Bool.or_eq_false_iff] at hk; exact hk.1.1.1.1) h
theorem GT_none {c : Nat → Int} {T : List (Nat × Nat × Int)} {x : Nat × Int} (h : stop c T x) (hc : c x.1 < 0) : lk T (hv c x).toNat = none := h hc
/-- the reference's pop: one look, both sides followed -/
theorem rpop {c : Nat → Int} {e : Nat → Nat} {N : Nat} {V : Int} {T : List (Nat × Nat × Int)} {ρ : Nat → Nat} (hT : TOK c e N) (hB : BOK c e N V T ρ) {v : St} {x y : Nat × Int} {la lb : List (Nat × Int)} (n : Nat) (hn : n + 1 ≤ 4000) (hE : RE v c e N V T) (hx : IO c e N V x) (hy : IO c e N V y) (hll : la.length = lb.length) (hL : la.length < 20000) (h97 : I v 100 97 = 4000 - ((n + 1 : Nat) : Int)) (h98 : I v 100 98 = 0) (hA : SK 161 162 v (x :: la)) (hBB : SK 163 164 v (y :: lb)) :
    ∃ v3 v8 v13, fX12_counted (uI v 100 111 (zI la.length)) = some (zI 1, v3) ∧ I v3 100 111 = la.length ∧ I v3 161 la.length = x.1 ∧ I v3 162 la.length = x.2 ∧ fX12_follow (zI x.1) (zI x.2) v3 = some v8 ∧ I v8 100 95 = ((dr c T x).1 : Int) ∧ I v8 100 96 = (dr c T x).2 ∧ I v8 100 111 = la.length ∧ I v8 163 la.length = y.1 ∧ I v8 164 la.length = y.2 ∧ fX12_follow (zI y.1) (zI y.2) v8 = some v13 ∧ I v13 100 95 = ((dr c T y).1 : Int) ∧ I v13 100 96 = (dr c T y).2 ∧ I v13 100 97 = 4000 - (n : Int) ∧ I v13 100 98 = 0 ∧ I v13 100 111 = la.length ∧ SK 161 162 v13 la ∧ SK 163 164 v13 lb ∧ Fr (fun k i => k == 100 && (i == 95 || i == 96 || i == 97 || i == 98 || i == 111)) v v13 := by
  let P : Nat → Nat → Bool := fun k i => k == 100 && (i == 95 || i == 96 || i == 97 || i == 98 || i == 111)
  have hP : ∀ k i, k ≠ 100 → P k i = false := fun k i h => by simp [P, h]
  have f0 : Fr P v (uI v 100 111 (zI la.length)) := Fr_up rfl (Fr_rfl _ _)
  obtain ⟨v3, c1, c2, c3, c4⟩ := counted_spec (uI v 100 111 (zI la.length)) (n + 1) hn (by rw [Fr_I (P := fun k i => k == 100 && i == 111) (Fr_up rfl (Fr_rfl _ _)) rfl]; exact h97) (by rw [Fr_I (P := fun k i => k == 100 && i == 111) (Fr_up rfl (Fr_rfl _ _)) rfl]; exact h98)
  have f1 : Fr P (uI v 100 111 (zI la.length)) v3 := Fr_mono (fun k i hk => by
    unfold PCo; by_cases h1 : k = 100
    · subst h1; simp [P] at hk ⊢; omega
    · simp [h1]) c4
  have f01 := Fr_tr f0 f1
  have E3 : RE v3 c e N V T := RE_fr f01 (fun i => hP _ i (by decide)) (fun i => hP _ i (by decide)) (fun i => hP _ i (by decide)) (fun i => hP _ i (by decide)) (fun i => hP _ i (by decide)) hE
  obtain ⟨v8, d1, d2, d3, d4⟩ := follow_spec hT hB (r := 220) (x := x) (by decide) hx.2.2.1 hx.2.2.2 (IO_OK hB hx) E3
  have f2 : Fr P v3 v8 := Fr_mono (fun k i hk => by
    unfold PF; by_cases h1 : k = 100
    · subst h1; simp [P] at hk ⊢; omega
    · simp [h1]) d4
  have f02 := Fr_tr f01 f2
  have E8 : RE v8 c e N V T := RE_fr f02 (fun i => hP _ i (by decide)) (fun i => hP _ i (by decide)) (fun i => hP _ i (by decide)) (fun i => hP _ i (by decide)) (fun i => hP _ i (by decide)) hE
  obtain ⟨v13, g1, g2, g3, g4⟩ := follow_spec hT hB (r := 220) (x := y) (by decide) hy.2.2.1 hy.2.2.2 (IO_OK hB hy) E8
  have f3 : Fr P v8 v13 := Fr_mono (fun k i hk => by
    unfold PF; by_cases h1 : k = 100
    · subst h1; simp [P] at hk ⊢; omega
    · simp [h1]) g4
  have f03 := Fr_tr f02 f3
  have h111 : I v3 100 111 = la.length := by rw [Fr_I c4 rfl, I_uI1 _ _ _ _ (by omega) (by omega)]
  refine ⟨v3, v8, v13, by simpa using c1, h111, by rw [Fr_I f01 (hP _ _ (by decide))]; exact hA.1, by rw [Fr_I f01 (hP _ _ (by decide))]; exact hA.2.1, d1, d2, d3, by rw [Fr_I d4 rfl]; exact h111, by rw [Fr_I f02 (hP _ _ (by decide)), hll]; exact hBB.1, by rw [Fr_I f02 (hP _ _ (by decide)), hll]; exact hBB.2.1, g1, g2, g3, by rw [Fr_I g4 rfl, Fr_I d4 rfl, c2]; omega, by rw [Fr_I g4 rfl, Fr_I d4 rfl, c3]; simp, by rw [Fr_I g4 rfl, Fr_I d4 rfl]; exact h111, SK_fr f03 (fun i => hP _ i (by decide)) (fun i => hP _ i (by decide)) hA.2.2, SK_fr f03 (fun i => hP _ i (by decide)) (fun i => hP _ i (by decide)) hBB.2.2, f03⟩
theorem rpop_full {v : St} (L : Nat) (h97 : I v 100 97 = 4000) (h98 : I v 100 98 = 0) : ∃ v3, fX12_counted (uI v 100 111 (zI L)) = some (0, v3) ∧ I v3 100 97 = 4001 ∧ I v3 100 98 = 1 ∧ Fr (fun k i => k == 100 && (i == 95 || i == 96 || i == 97 || i == 98 || i == 111)) v v3 := by
  obtain ⟨v3, c1, c2, c3, c4⟩ := counted_spec (uI v 100 111 (zI L)) 0 (by decide) (by rw [Fr_I (P := fun k i => k == 100 && i == 111) (Fr_up rfl (Fr_rfl _ _)) rfl]; exact h97) (by rw [Fr_I (P := fun k i => k == 100 && i == 111) (Fr_up rfl (Fr_rfl _ _)) rfl]; exact h98)
  refine ⟨v3, c1, c2, c3, Fr_tr (Fr_up rfl (Fr_rfl _ _)) (Fr_mono (fun k i hk => ?_) c4)⟩
  unfold PCo; by_cases h1 : k = 100
  · subst h1; simp at hk ⊢; omega
  · simp [h1]
theorem ru_full (G : Nat) (v v3 : St) (L : Nat) (hL : L < 20100) (h111 : I v 100 111 = (L : Int) + 1) (h1 : fX12_counted (uI v 100 111 (zI L)) = some (0, v3)) : fX12_unifyAll_L0 (G + 1) 0 0 0 0 0 0 0 0 v = some (0, v3) := by
  have e1 : (L : Int) + 1 - 1 = L := by omega
  show fX12_unifyAll_L0_0 (fX12_unifyAll_L0 G) v = _
  generalize fX12_unifyAll_L0 G = R
  unfold fX12_unifyAll_L0_0
  rw [gI_z, h111, if_neg (by rw [z_zero, z_le (by omega) (by omega) (by omega) (by omega)]; omega), lt_e, show (1 : Int32) = zI 1 from rfl, z_sub, e1, h1, b2_s, if_pos rfl]
theorem ru_end (G : Nat) (v : St) (h111 : I v 100 111 = 0) : fX12_unifyAll_L0 (G + 1) 0 0 0 0 0 0 0 0 v = some (1, v) := by
  show fX12_unifyAll_L0_0 (fX12_unifyAll_L0 G) v = _
  unfold fX12_unifyAll_L0_0
  rw [gI_z, h111, if_pos (by decide)]
