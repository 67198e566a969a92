/-! the stack of frames -/
def ST (u v : St) (C : Nat) : Prop := I u 65 0 = 0 ∧ I u 66 0 = -1 ∧ I u 68 0 = 0 ∧ I u 69 0 = 0 ∧ I u 70 0 = 0 ∧ (∃ k : Nat, k < C ∧ I u 67 0 = k ∧ I v 158 0 = k) ∧ I v 157 0 = 0 ∧ I v 159 0 = -1 ∧ I v 160 0 = -1
def MVq (u v : St) (φ : Nat → Nat) (C : Nat) (fi : Nat → Nat) (L : Nat) : Nat → Prop
  | 0 => True
  | f + 1 => MVg u v φ C fi f L
def FS (u v : St) (φ : Nat → Nat) (C : Nat) (fi : Nat → Nat) (nv c : Nat → Int) (e : Nat → Nat) (N : Nat) : Nat → List (Nat × Nat × Int) → Nat → Nat → Int → (Nat → Prop) → Prop
  | 0, T, L, J, V, Gd => T = [] ∧ L = 0 ∧ J = 0 ∧ V = 0 ∧ (∀ t, ¬ Gd t) ∧ ST u v C
  | f + 1, T, L, J, V, Gd => (∃ g r, FR u v φ Gd f g T L J V r) ∧ ((∃ x, K2 u v φ Gd f x) ∨ ∃ m, K1 u v C fi f m) ∧ TB u v φ L J V C fi nv Gd ∧ GT c e N V T ∧ J ≤ L ∧ L ≤ 150 ∧ 0 ≤ V ∧ (V ≤ 200 ∧ ∀ k : Nat, I u 67 0 = k → nv k ≤ V) ∧ ∃ X T' L' J' V' Gd', T = X ++ T' ∧ L' ≤ L ∧ J' ≤ J ∧ V' ≤ V ∧ (∀ t, Gd' t → Gd t) ∧ MVq u v φ C fi L' f ∧ FS u v φ C fi nv c e N f T' L' J' V' Gd'
theorem MVg_pres {u v u' v' : St} {φ φ' : Nat → Nat} {C : Nat} {fi : Nat → Nat} {f L L' : Nat} (hu : ∀ k, (k = 65 ∨ k = 66 ∨ k = 67) → I u' k (f + 1) = I u k (f + 1)) (hv : ∀ k, (k = 157 ∨ k = 158 ∨ k = 159 ∨ k = 160) → I v' k (f + 1) = I v k (f + 1)) (h60 : ∀ t, t < L → I u' 60 t = I u 60 t) (hφ : ∀ g : Nat, I u 66 (f + 1) = g → φ' g = φ g) (hL : L ≤ L') (h : MVg u v φ C fi f L) : MVg u' v' φ' C fi f L' := by
  obtain ⟨g, h1, h2, h3, h4⟩ := h
  refine ⟨g, by rw [hu 66 (by simp)]; exact h1, by rw [hv 160 (by simp), hφ g h1]; exact h2, by rw [hv 157 (by simp), hu 65 (by simp)]; exact h3, ?_⟩
  rw [hu 65 (by simp), hu 67 (by simp), hv 158 (by simp), hv 159 (by simp)]
  rcases h4 with h4 | ⟨a1, a2, x, a3, a4, a5⟩
  · exact Or.inl h4
  · exact Or.inr ⟨a1, a2, x, by omega, a4, by rw [h60 x a3]; exact a5⟩
theorem FS_pres {u v u' v' : St} {φ φ' : Nat → Nat} {C : Nat} {fi : Nat → Nat} {nv c : Nat → Int} {e : Nat → Nat} {N : Nat} (n : Nat) : ∀ (T : List (Nat × Nat × Int)) (L J : Nat) (V : Int) (Gd : Nat → Prop), (∀ k i, 65 ≤ k → k ≤ 70 → i ≤ n → I u' k i = I u k i) → (∀ k i, 57 ≤ k → k ≤ 61 → i < L → I u' k i = I u k i) → (∀ k i, 168 ≤ k → k ≤ 176 → i < n → I v' k i = I v k i) → (∀ k i, 157 ≤ k → k ≤ 160 → i < n → I v' k i = I v k i) → (n = 0 → ∀ k, 157 ≤ k → k ≤ 160 → I v' k 0 = I v k 0) → (∀ k i, (k = 150 ∨ k = 151 ∨ k = 152 ∨ k = 153 ∨ k = 167) → i < J → I v' k i = I v k i) → (∀ t, t < L → φ' t = φ t) → FS u v φ C fi nv c e N n T L J V Gd → FS u' v' φ' C fi nv c e N n T L J V Gd := by
  induction n with
  | zero =>
    intro T L J V Gd h1 h2 h3 h4 h4' h5 h6 h
    obtain ⟨a1, a2, a3, a4, a5, a6⟩ := h
    refine ⟨a1, a2, a3, a4, a5, ?_⟩
    unfold ST
    rw [h1 65 0 (by omega) (by omega) (by omega), h1 66 0 (by omega) (by omega) (by omega), h1 67 0 (by omega) (by omega) (by omega), h1 68 0 (by omega) (by omega) (by omega), h1 69 0 (by omega) (by omega) (by omega), h1 70 0 (by omega) (by omega) (by omega), h4' rfl 157 (by omega) (by omega), h4' rfl 158 (by omega) (by omega), h4' rfl 159 (by omega) (by omega), h4' rfl 160 (by omega) (by omega)]
    exact a6
  | succ f ih =>
    intro T L J V Gd h1 h2 h3 h4 h4' h5 h6 h
    obtain ⟨⟨g, r, a1⟩, a2, a3, a4, a5, a6, a7, a8, X, T', L', J', V', Gd', b1, b2, b3, b4, b5, b6, b7⟩ := h
    have hgL := (a3 g a1.1).1
    refine ⟨⟨g, r, FR_kp hgL (fun k hk => h1 k _ (by omega) (by omega) (by omega)) (fun k hk => h3 k _ (by omega) (by omega) (by omega)) (fun t ht => h2 61 t (by omega) (by omega) ht) (h6 g hgL) a1⟩, ?_, TB_eq (fun k i hk hi => h2 k i (by omega) (by omega) hi) (fun k i hk hi => h5 k i hk hi) h6 (Int.le_refl _) (Nat.le_refl _) (Nat.le_refl _) a3, a4, a5, a6, a7, ⟨a8.1, fun k hk => a8.2 k (by rw [← h1 67 0 (by omega) (by omega) (by omega)]; exact hk)⟩, X, T', L', J', V', Gd', b1, b2, b3, b4, b5, ?_, ?_⟩
    · rcases a2 with ⟨x, k1, k2, k3, k4, k5, k6⟩ | ⟨m, k1, k2, k3, k4, k5⟩
      · have hx := a3 x k2
        left
        refine ⟨x, by rw [h1 65 _ (by omega) (by omega) (by omega)]; exact k1, k2, by rw [h1 67 _ (by omega) (by omega) (by omega)]; exact k3, ?_, by rw [h3 170 _ (by omega) (by omega) (by omega)]; exact k5, by rw [h3 171 _ (by omega) (by omega) (by omega)]; exact k6⟩
        rw [h3 169 _ (by omega) (by omega) (by omega), h6 x hx.1, h5 152 _ (by simp) hx.2.1]; exact k4
      · right
        refine ⟨m, by rw [h1 65 _ (by omega) (by omega) (by omega)]; exact k1, by rw [h3 169 _ (by omega) (by omega) (by omega)]; exact k2, by rw [h1 67 _ (by omega) (by omega) (by omega)]; exact k3, k4, ?_⟩
        rw [h3 170 _ (by omega) (by omega) (by omega), h3 171 _ (by omega) (by omega) (by omega)]; exact k5
    · cases f with
      | zero => trivial
      | succ f' =>
        obtain ⟨⟨g', r', c1⟩, _, c3, _⟩ := b7
        refine MVg_pres (fun k hk => h1 k _ (by omega) (by omega) (by omega)) (fun k hk => h4 k _ (by omega) (by omega) (by omega)) (fun t ht => h2 60 t (by omega) (by omega) (by omega)) (fun g'' hg'' => ?_) (Nat.le_refl _) b6
        have : g'' = g' := by have := c1.2.1; omega
        subst this
        exact h6 g'' (by have := (c3 g'' c1.1).1; omega)
    · exact ih T' L' J' V' Gd' (fun k i h h' hi => h1 k i h h' (by omega)) (fun k i h h' hi => h2 k i h h' (by omega)) (fun k i h h' hi => h3 k i h h' (by omega)) (fun k i h h' hi => h4 k i h h' (by omega)) (fun h0 k h h' => h4 k 0 h h' (by omega)) (fun k i h hi => h5 k i h (by omega)) (fun t ht => h6 t (by omega)) b7
/-- the frame below is kept by what the highest does -/
theorem FS_kp {u v u' v' : St} {φ φ' : Nat → Nat} {C : Nat} {fi : Nat → Nat} {nv c : Nat → Int} {e : Nat → Nat} {N f : Nat} {T : List (Nat × Nat × Int)} {L J L0 J0 : Nat} {V : Int} {Gd : Nat → Prop} (hK : Kp u u' v v' f L J) (hL : L0 ≤ L) (hJ : J0 ≤ J) (hφ : ∀ t, t < L → φ' t = φ t) (h : FS u v φ C fi nv c e N f T L0 J0 V Gd) : FS u' v' φ' C fi nv c e N f T L0 J0 V Gd := by
  refine FS_pres f T L0 J0 V Gd (fun k i h1 h2 hi => hK.1 k i ?_) (fun k i h1 h2 hi => hK.1 k i (PKc_tab (by omega) (by omega))) (fun k i h1 h2 hi => hK.2.1 k i ?_) (fun k i h1 h2 hi => hK.2.1 k i ?_) (fun h0 k h1 h2 => hK.2.1 k 0 ?_) (fun k i h1 hi => hK.2.1 k i (PKr_tab h1 (by omega))) (fun t ht => hφ t (by omega)) h
  · simp [PKc, PU, PW]; omega
  · simp [PKr, PRU, PRB, PRS, PAN]; omega
  · simp [PKr, PRU, PRB, PRS, PAN]; omega
  · simp [PKr, PRU, PRB, PRS, PAN]; omega
