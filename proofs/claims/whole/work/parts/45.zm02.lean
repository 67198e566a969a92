/-! TERMS: in prefix order in the cells, their ends, bindings of variables, ranks -/
def it (e : Nat → Nat) : Nat → Nat → Nat
  | 0, p => p
  | n + 1, p => it e n (e p)
def ar (c : Nat → Int) (p : Nat) : Nat := if c p < 0 then 0 else (c p % 8).toNat
def items (e : Nat → Nat) : Nat → Nat → Int → List (Nat × Int)
  | 0, _, _ => []
  | n + 1, p, b => (p, b) :: items e n (e p) b
def sg (e : Nat → Nat) (N : Nat) : Nat → Nat → Prop
  | 0, p => p ≤ N
  | n + 1, p => p < N ∧ p < e p ∧ sg e N n (e p)
def TOK (c : Nat → Int) (e : Nat → Nat) (N : Nat) : Prop := ∀ p, p < N → ar c p ≤ 5 ∧ p < e p ∧ e p ≤ p + 200 ∧ e p = it e (ar c p) (p + 1) ∧ sg e N (ar c p) (p + 1)
theorem it_add (e : Nat → Nat) (m n p : Nat) : it e (m + n) p = it e n (it e m p) := by
  induction m generalizing p with
  | zero => simp [it]
  | succ m ih => rw [Nat.succ_add]; exact ih (e p)
theorem items_add (e : Nat → Nat) (m n p : Nat) (b : Int) : items e (m + n) p b = items e m p b ++ items e n (it e m p) b := by
  induction m generalizing p with
  | zero => simp [it, items]
  | succ m ih => rw [Nat.succ_add]; simp [it, items, ih]
theorem sg_le {e : Nat → Nat} {N n p : Nat} (h : sg e N n p) : p ≤ it e n p ∧ it e n p ≤ N := by
  induction n generalizing p with
  | zero => exact ⟨Nat.le_refl _, h⟩
  | succ n ih =>
    obtain ⟨h1, h2, h3⟩ := h
    have := ih h3
    exact ⟨by simp only [it]; omega, this.2⟩
theorem items_mem {e : Nat → Nat} {N n p : Nat} {b : Int} (h : sg e N n p) {x : Nat × Int} (hx : x ∈ items e n p b) : p ≤ x.1 ∧ x.1 < N ∧ e x.1 ≤ it e n p ∧ x.2 = b ∧ x.1 < e x.1 := by
  induction n generalizing p with
  | zero => simp [items] at hx
  | succ n ih =>
    obtain ⟨h1, h2, h3⟩ := h
    simp only [items, List.mem_cons] at hx
    rcases hx with hx | hx
    · subst hx; exact ⟨Nat.le_refl _, h1, (sg_le h3).1, rfl, h2⟩
    · have := ih h3 hx
      exact ⟨by omega, this.2.1, this.2.2.1, this.2.2.2⟩
def args (c : Nat → Int) (e : Nat → Nat) (x : Nat × Int) : List (Nat × Int) := items e (ar c x.1) (x.1 + 1) x.2
/-- what holds for all variables of a term -/
def Al (c : Nat → Int) (e : Nat → Nat) (Q : Int → Prop) (x : Nat × Int) : Prop := 0 ≤ x.2 ∧ ∀ q, x.1 ≤ q → q < e x.1 → c q < 0 → Q (x.2 - 1 - c q)
theorem Al_args {c : Nat → Int} {e : Nat → Nat} {N : Nat} {Q : Int → Prop} (hT : TOK c e N) {x y : Nat × Int} (hx : x.1 < N) (h : Al c e Q x) (hy : y ∈ args c e x) : y.1 < N ∧ Al c e Q y := by
  obtain ⟨h1, h2, h3, h4, h5⟩ := hT _ hx
  obtain ⟨k1, k2, k3, k4, k5⟩ := items_mem h5 hy
  refine ⟨k2, by rw [k4]; exact h.1, ?_⟩
  intro q hq1 hq2 hq3
  rw [k4]
  exact h.2 q (by omega) (by omega) hq3
theorem args_items {c : Nat → Int} {e : Nat → Nat} {N : Nat} (hT : TOK c e N) {p : Nat} (hx : p < N) (b : Int) (n : Nat) : items e (ar c p + n) (p + 1) b = args c e (p, b) ++ items e n (e p) b := by
  rw [items_add, ← (hT _ hx).2.2.2.1]; rfl
theorem items_len (e : Nat → Nat) (n p : Nat) (b : Int) : (items e n p b).length = n := by
  induction n generalizing p with
  | zero => rfl
  | succ n ih => simp [items, ih]
/-! bindings -/
def lk : List (Nat × Nat × Int) → Nat → Option (Nat × Int)
  | [], _ => none
  | (w, y) :: t, v => if v = w then some y else lk t v
def Qv (V : Int) (T : List (Nat × Nat × Int)) (ρ : Nat → Nat) (r : Nat) (v : Int) : Prop := 0 ≤ v ∧ v < V ∧ (lk T v.toNat ≠ none → ρ v.toNat < r)
/-- an item that lies well, all its bound variables of a rank below r -/
def OK (c : Nat → Int) (e : Nat → Nat) (N : Nat) (V : Int) (T : List (Nat × Nat × Int)) (ρ : Nat → Nat) (r : Nat) (x : Nat × Int) : Prop := x.1 < N ∧ Al c e (Qv V T ρ r) x
def BOK (c : Nat → Int) (e : Nat → Nat) (N : Nat) (V : Int) (T : List (Nat × Nat × Int)) (ρ : Nat → Nat) : Prop := ∀ v y, lk T v = some y → (v : Int) < V ∧ ρ v < 220 ∧ OK c e N V T ρ (ρ v) y
theorem Al_mono {c : Nat → Int} {e : Nat → Nat} {P Q : Int → Prop} (h : ∀ v, P v → Q v) {x : Nat × Int} (hx : Al c e P x) : Al c e Q x := ⟨hx.1, fun q h1 h2 h3 => h _ (hx.2 q h1 h2 h3)⟩
theorem Qv_mono {V : Int} {T : List (Nat × Nat × Int)} {ρ : Nat → Nat} {r r' : Nat} (h : r ≤ r') {v : Int} (hv : Qv V T ρ r v) : Qv V T ρ r' v := ⟨hv.1, hv.2.1, fun k => Nat.lt_of_lt_of_le (hv.2.2 k) h⟩
theorem OK_mono {c : Nat → Int} {e : Nat → Nat} {N : Nat} {V : Int} {T : List (Nat × Nat × Int)} {ρ : Nat → Nat} {r r' : Nat} (h : r ≤ r') {x : Nat × Int} (hx : OK c e N V T ρ r x) : OK c e N V T ρ r' x := ⟨hx.1, Al_mono (fun _ => Qv_mono h) hx.2⟩
theorem OK_args {c : Nat → Int} {e : Nat → Nat} {N : Nat} {V : Int} {T : List (Nat × Nat × Int)} {ρ : Nat → Nat} {r : Nat} (hT : TOK c e N) {x y : Nat × Int} (h : OK c e N V T ρ r x) (hy : y ∈ args c e x) : OK c e N V T ρ r y := Al_args hT h.1 h.2 hy
/-- the variable at the head of an item -/
def hv (c : Nat → Int) (x : Nat × Int) : Int := x.2 - 1 - c x.1
theorem OK_head {c : Nat → Int} {e : Nat → Nat} {N : Nat} {V : Int} {T : List (Nat × Nat × Int)} {ρ : Nat → Nat} {r : Nat} (hT : TOK c e N) {x : Nat × Int} (h : OK c e N V T ρ r x) (hc : c x.1 < 0) : Qv V T ρ r (hv c x) := h.2.2 x.1 (Nat.le_refl _) (hT _ h.1).2.1 hc
def der (c : Nat → Int) (T : List (Nat × Nat × Int)) : Nat → Nat × Int → Nat × Int
  | 0, x => x
  | n + 1, x => if c x.1 < 0 then (match lk T (hv c x).toNat with | none => x | some y => der c T n y) else x
def dr (c : Nat → Int) (T : List (Nat × Nat × Int)) (x : Nat × Int) : Nat × Int := der c T 220 x
/-- stands at a symbol or at a variable that is free -/
def stop (c : Nat → Int) (T : List (Nat × Nat × Int)) (x : Nat × Int) : Prop := c x.1 < 0 → lk T (hv c x).toNat = none
theorem der_stop {c : Nat → Int} {T : List (Nat × Nat × Int)} {x : Nat × Int} (h : stop c T x) (n : Nat) : der c T n x = x := by
  cases n with
  | zero => rfl
  | succ n =>
    unfold der
    by_cases hc : c x.1 < 0
    · rw [if_pos hc, h hc]
    · rw [if_neg hc]
theorem der_go {c : Nat → Int} {T : List (Nat × Nat × Int)} {x y : Nat × Int} (hc : c x.1 < 0) (h : lk T (hv c x).toNat = some y) (n : Nat) : der c T (n + 1) x = der c T n y := by
  simp only [der, if_pos hc, h]
theorem der_spec {c : Nat → Int} {e : Nat → Nat} {N : Nat} {V : Int} {T : List (Nat × Nat × Int)} {ρ : Nat → Nat} (hT : TOK c e N) (hB : BOK c e N V T ρ) (r : Nat) : ∀ x, OK c e N V T ρ r x → stop c T (der c T r x) ∧ OK c e N V T ρ r (der c T r x) ∧ ∀ n, r ≤ n → der c T n x = der c T r x := by
  induction r with
  | zero =>
    intro x hx
    have hs : stop c T x := by
      intro hc
      have := OK_head hT hx hc
      by_cases hn : lk T (hv c x).toNat = none
      · exact hn
      · exact absurd (this.2.2 hn) (Nat.not_lt_zero _)
    exact ⟨hs, hx, fun n _ => by rw [der_stop hs, der_stop hs]⟩
  | succ r ih =>
    intro x hx
    by_cases hs : stop c T x
    · rw [der_stop hs]; exact ⟨hs, hx, fun n _ => der_stop hs n⟩
    · have hc : c x.1 < 0 := by
        apply Classical.byContradiction; intro hc; exact hs (fun h => absurd h hc)
      cases hy : lk T (hv c x).toNat with
      | none => exact absurd (fun _ => hy) hs
      | some y =>
        have h1 := OK_head hT hx hc
        have h2 := h1.2.2 (by rw [hy]; simp)
        have h3 := hB _ _ hy
        have h4 := ih y (OK_mono (by omega) h3.2.2)
        rw [der_go hc hy]
        refine ⟨h4.1, OK_mono (by omega) h4.2.1, ?_⟩
        intro n hn
        obtain ⟨m, rfl⟩ : ∃ m, n = m + 1 := ⟨n - 1, by omega⟩
        rw [der_go hc hy]
        exact h4.2.2 m (by omega)
theorem dr_stop {c : Nat → Int} {T : List (Nat × Nat × Int)} {x : Nat × Int} (h : stop c T x) : dr c T x = x := der_stop h _
theorem dr_spec {c : Nat → Int} {e : Nat → Nat} {N : Nat} {V : Int} {T : List (Nat × Nat × Int)} {ρ : Nat → Nat} {r : Nat} (hT : TOK c e N) (hB : BOK c e N V T ρ) (hr : r ≤ 220) {x : Nat × Int} (hx : OK c e N V T ρ r x) : stop c T (dr c T x) ∧ OK c e N V T ρ r (dr c T x) := by
  have h := der_spec hT hB r x hx
  unfold dr
  rw [h.2.2 220 hr]
  exact ⟨h.1, h.2.1⟩
theorem dr_go {c : Nat → Int} {e : Nat → Nat} {N : Nat} {V : Int} {T : List (Nat × Nat × Int)} {ρ : Nat → Nat} (hT : TOK c e N) (hB : BOK c e N V T ρ) {x y : Nat × Int} (hc : c x.1 < 0) (h : lk T (hv c x).toNat = some y) : dr c T x = dr c T y := by
  have h3 := hB _ _ h
  have h4 := (der_spec hT hB _ y h3.2.2).2.2
  unfold dr
  rw [der_go hc h 219, h4 219 (by omega), h4 220 (by omega)]
theorem dr_dr {c : Nat → Int} {e : Nat → Nat} {N : Nat} {V : Int} {T : List (Nat × Nat × Int)} {ρ : Nat → Nat} {r : Nat} (hT : TOK c e N) (hB : BOK c e N V T ρ) (hr : r ≤ 220) {x : Nat × Int} (hx : OK c e N V T ρ r x) : dr c T (dr c T x) = dr c T x := dr_stop (dr_spec hT hB hr hx).1
/-! does a variable stand in terms: with n looks left; 0 no, 1 yes, 2 no looks left -/
def stS (c : Nat → Int) (e : Nat → Nat) (T : List (Nat × Nat × Int)) (v : Int) : Nat → List (Nat × Int) → Int × Nat
  | n, [] => (0, n)
  | 0, _ :: _ => (2, 0)
  | n + 1, x :: l => if c (dr c T x).1 < 0 ∧ hv c (dr c T x) = v then (1, n) else stS c e T v n (args c e (dr c T x) ++ l)
theorem stS_split {c : Nat → Int} {e : Nat → Nat} {T : List (Nat × Nat × Int)} {v : Int} (n : Nat) : ∀ (l1 l2 : List (Nat × Int)) (m : Nat), stS c e T v n (l1 ++ l2) = (0, m) → ∃ k, stS c e T v n l1 = (0, k) ∧ stS c e T v k l2 = (0, m) ∧ k ≤ n := by
  induction n with
  | zero =>
    intro l1 l2 m h
    cases l1 with
    | nil => exact ⟨0, rfl, h, Nat.le_refl _⟩
    | cons x l => simp [stS] at h
  | succ n ih =>
    intro l1 l2 m h
    cases l1 with
    | nil => exact ⟨n + 1, rfl, h, Nat.le_refl _⟩
    | cons x l =>
      simp only [List.cons_append, stS] at h ⊢
      by_cases hc : c (dr c T x).1 < 0 ∧ hv c (dr c T x) = v
      · rw [if_pos hc] at h; simp at h
      · rw [if_neg hc] at h ⊢
        rw [← List.append_assoc] at h
        obtain ⟨k, h1, h2, h3⟩ := ih _ _ _ h
        exact ⟨k, h1, h2, by omega⟩
/-- a term in which v doesn't stand, all bound variables written out -/
def NoV (c : Nat → Int) (e : Nat → Nat) (T : List (Nat × Nat × Int)) (v : Int) (x : Nat × Int) : Prop := ∃ n m, stS c e T v n [x] = (0, m)
theorem NoV_mem {c : Nat → Int} {e : Nat → Nat} {T : List (Nat × Nat × Int)} {v : Int} (l : List (Nat × Int)) : ∀ n m, stS c e T v n l = (0, m) → ∀ x ∈ l, NoV c e T v x := by
  induction l with
  | nil => intro n m _ x hx; simp at hx
  | cons y l ih =>
    intro n m h x hx
    obtain ⟨k, h1, h2, _⟩ := stS_split n [y] l m h
    rcases List.mem_cons.1 hx with hx | hx
    · subst hx; exact ⟨n, k, h1⟩
    · exact ih _ _ h2 x hx
theorem NoV_args {c : Nat → Int} {e : Nat → Nat} {T : List (Nat × Nat × Int)} {v : Int} {x : Nat × Int} (h : NoV c e T v x) : ¬ (c (dr c T x).1 < 0 ∧ hv c (dr c T x) = v) ∧ ∀ y ∈ args c e (dr c T x), NoV c e T v y := by
  obtain ⟨n, m, h⟩ := h
  cases n with
  | zero => simp [stS] at h
  | succ n =>
    simp only [stS] at h
    by_cases hc : c (dr c T x).1 < 0 ∧ hv c (dr c T x) = v
    · rw [if_pos hc] at h; simp at h
    · rw [if_neg hc, List.append_nil] at h
      exact ⟨hc, NoV_mem _ _ _ h⟩
theorem NoV_dr {c : Nat → Int} {e : Nat → Nat} {T : List (Nat × Nat × Int)} {v : Int} {x y : Nat × Int} (h : dr c T x = dr c T y) (hx : NoV c e T v x) : NoV c e T v y := by
  obtain ⟨n, m, hx⟩ := hx
  refine ⟨n, m, ?_⟩
  cases n with
  | zero => simp [stS] at hx
  | succ n => simp only [stS] at hx ⊢; rw [← h]; exact hx
/-- position in a range: at its head, or in one of its arguments -/
theorem range_cases {e : Nat → Nat} {N : Nat} (n : Nat) : ∀ (p q : Nat) (b : Int), sg e N n p → p ≤ q → q < it e n p → ∃ x ∈ items e n p b, x.1 ≤ q ∧ q < e x.1 := by
  induction n with
  | zero => intro p q b h h1 h2; simp only [it] at h2; omega
  | succ n ih =>
    intro p q b h h1 h2
    obtain ⟨k1, k2, k3⟩ := h
    by_cases hq : q < e p
    · exact ⟨(p, b), by simp [items], h1, hq⟩
    · obtain ⟨x, hx, h4, h5⟩ := ih (e p) q b k3 (by omega) h2
      exact ⟨x, by simp [items, hx], h4, h5⟩
theorem NoV_raw {c : Nat → Int} {e : Nat → Nat} {N : Nat} {V : Int} {T : List (Nat × Nat × Int)} {ρ : Nat → Nat} {v : Int} (hT : TOK c e N) (hB : BOK c e N V T ρ) (s : Nat) : ∀ x r, e x.1 ≤ x.1 + s → OK c e N V T ρ r x → NoV c e T v x → ∀ q, x.1 ≤ q → q < e x.1 → c q < 0 → (lk T (x.2 - 1 - c q).toNat = none ∧ x.2 - 1 - c q ≠ v) ∨ ∃ y, lk T (x.2 - 1 - c q).toNat = some y ∧ NoV c e T v y := by
  induction s with
  | zero => intro x r hs hx _ q h1 h2; omega
  | succ s ih =>
    intro x r hs hx hn q h1 h2 hq
    by_cases hqx : q = x.1
    · subst hqx
      cases hy : lk T (x.2 - 1 - c x.1).toNat with
      | none =>
        have hst : stop c T x := fun _ => hy
        have := (NoV_args hn).1
        rw [dr_stop hst] at this
        exact Or.inl ⟨rfl, fun h => this ⟨hq, h⟩⟩
      | some y => exact Or.inr ⟨y, rfl, NoV_dr (dr_go hT hB hq hy) hn⟩
    · have hc : 0 ≤ c x.1 := by
        apply Classical.byContradiction; intro hc
        have h := (hT _ hx.1).2.2.2.1
        have ha : ar c x.1 = 0 := by unfold ar; rw [if_pos (by omega)]
        rw [ha] at h
        simp only [it] at h; omega
      have hst : stop c T x := fun h => by omega
      have h4 := (NoV_args hn).2
      rw [dr_stop hst] at h4
      obtain ⟨t1, t2, t3, t4, t5⟩ := hT _ hx.1
      obtain ⟨y, hy, k1, k2⟩ := range_cases (ar c x.1) (x.1 + 1) q x.2 t5 (by omega) (by omega)
      obtain ⟨m1, m2, m3, m4, m5⟩ := items_mem t5 hy
      have := ih y r (by omega) (OK_args hT hx hy) (h4 y hy) q k1 k2 hq
      rw [m4] at this
      exact this
