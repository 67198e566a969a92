/-! advancing a frame: extensions -/
def BCs (u : St) (T : List (Nat × Nat × Int)) : Prop := BC u T ∧ TC u T ∧ (T.map (·.1)).Nodup ∧ (∀ x ∈ T.map (·.1), x < 210) ∧ T.length ≤ 220
theorem GT_keys2 {c : Nat → Int} {e : Nat → Nat} {N : Nat} {V : Int} {T : List (Nat × Nat × Int)} (hV : V ≤ 210) (h : GT c e N V T) : ∀ x ∈ T.map (·.1), x < 210 := by
  intro x hx
  obtain ⟨h0, o, h1, h2, h3⟩ := h
  cases hl : lk T x with
  | none => exact absurd hx (lk_none hl)
  | some y => have := h2 x (h3 x y hl).1; omega
theorem UE_BCs {u v : St} {c : Nat → Int} {e : Nat → Nat} {N : Nat} {V : Int} {T : List (Nat × Nat × Int)} (hV : V ≤ 210) (h : UE u v c e N V T) : BCs u T := ⟨h.2.1.2.2.2, h.2.2.1, (GT_keys (V := V) (by omega) h.1).1, GT_keys2 hV h.1, (GT_keys (V := V) (by omega) h.1).2.2⟩
def AD (u v u' v' : St) (φ : Nat → Nat) (Gd : Nat → Prop) (C : Nat) (fi ps : Nat → Nat) (nv c : Nat → Int) (e : Nat → Nat) (f g : Nat) (T : List (Nat × Nat × Int)) (L J : Nat) (V : Int) (r : Nat) : Prop := ∃ φ' Gd' T1 L' J' V' q, NR φ' Gd' (I u' 9 10) (I v' 100 130) ∧ CL u' (fun t => t < L') q (I u' 9 10) ∧ f + 1 + q ≤ L' ∧ TB u' v' φ' L' J' V' C fi nv Gd' ∧ UE u' v' c e (ps (fi C)) V' (T1 ++ T) ∧ I u' 7 6 = (L' : Nat) ∧ I u' 7 7 = V' ∧ I v' 100 92 = V' ∧ I v' 100 89 = (J' : Nat) ∧ I v' 100 110 = (L' : Nat) ∧ I v' 100 105 = ((f + 2 : Nat) : Int) ∧ I u' 9 9 = ((f + 1 : Nat) : Int) ∧ I v' 100 120 = ((f + 1 : Nat) : Int) ∧ L ≤ L' ∧ J ≤ J' ∧ V ≤ V' ∧ J' ≤ L' ∧ L' ≤ 150 ∧ V' ≤ 200 ∧ (∀ t, t < L → φ' t = φ t) ∧ (∀ t, Gd t → Gd' t) ∧ FR u' v' φ' Gd f g T L J V r ∧ ((∃ x, K2 u' v' φ' Gd f x) ∨ ∃ m, K1 u' v' C fi f m) ∧ MVg u' v' φ' C fi f L
def AO (u v u' v' : St) (a a' : Int) (φ : Nat → Nat) (Gd : Nat → Prop) (C : Nat) (fi ps : Nat → Nat) (nv c : Nat → Int) (e : Nat → Nat) (f g : Nat) (T : List (Nat × Nat × Int)) (L J : Nat) (V : Int) (r : Nat) (mst lim : Int) : Prop := Cn u' v' mst lim ∧ Kp u u' v v' f L J ∧ I u 9 13 ≤ I u' 9 13 ∧ ((a = 2 ∧ a' = 1 ∧ I v' 100 98 = 0 ∧ I v' 100 99 = 0 ∧ I u 9 13 < I u' 9 13 ∧ AD u v u' v' φ Gd C fi ps nv c e f g T L J V r) ∨ (a = 3 ∧ a' = 0 ∧ I v' 100 98 = 0 ∧ I v' 100 99 = 0 ∧ UE u' v' c e (ps (fi C)) V T ∧ I u' 9 9 = ((f + 1 : Nat) : Int) ∧ I v' 100 120 = f) ∨ (a = -6 ∧ a' = 0 ∧ I v' 100 98 = 0 ∧ I v' 100 99 = 1 ∧ ∃ T', BCs u' T') ∨ (a = -7 ∧ a' = 0 ∧ I v' 100 98 = 1 ∧ ∃ T', BCs u' T'))
theorem FR_kp {u v u' v' : St} {φ φ' : Nat → Nat} {Gd : Nat → Prop} {f g : Nat} {T : List (Nat × Nat × Int)} {L J : Nat} {V : Int} {r : Nat} (hg : g < L) (hu : ∀ k, (k = 66 ∨ k = 68 ∨ k = 69 ∨ k = 70) → I u' k (f + 1) = I u k (f + 1)) (hv : ∀ k, (k = 168 ∨ k = 172 ∨ k = 173 ∨ k = 174 ∨ k = 175 ∨ k = 176) → I v' k f = I v k f) (h61 : ∀ t, t < L → I u' 61 t = I u 61 t) (hφ : φ' g = φ g) (h : FR u v φ Gd f g T L J V r) : FR u' v' φ' Gd f g T L J V r := by
  obtain ⟨h1, h2, h3, h4, h5, h6, h7, h8, h9, h10, h11, h12, h13⟩ := h
  refine ⟨h1, by rw [hu 66 (by simp)]; exact h2, by rw [hv 168 (by simp), hφ]; exact h3, by rw [hu 68 (by simp)]; exact h4, by rw [hu 69 (by simp)]; exact h5, by rw [hu 70 (by simp)]; exact h6, by rw [hv 172 (by simp)]; exact h7, by rw [hv 173 (by simp)]; exact h8, by rw [hv 174 (by simp)]; exact h9, by rw [hv 175 (by simp)]; exact h10, by rw [hv 176 (by simp)]; exact h11, ?_, h13⟩
  rw [h61 g hg]
  exact CL_eq r _ h61 (fun _ ht => ht) h12
/-- the frame stands where it was saved -/
theorem RS_SvR {u v : St} {φ : Nat → Nat} {Gd : Nat → Prop} {c : Nat → Int} {e : Nat → Nat} {N f g : Nat} {T : List (Nat × Nat × Int)} {L J : Nat} {V : Int} {r : Nat} (hR : RS u v c e N f T L J V) (h : FR u v φ Gd f g T L J V r) : SvR v f := by
  obtain ⟨a1, a2, a3, a4, a5, a6, a7, a8, a9⟩ := hR
  obtain ⟨h1, h2, h3, h4, h5, h6, h7, h8, h9, h10, h11, h12, h13⟩ := h
  have ht := a1.2.2.2.2.1
  exact ⟨by rw [h7, ht], by rw [h8, a4], by rw [h9, a5], by rw [h10, a6], by rw [h11, a7], by rw [ht]; omega⟩
