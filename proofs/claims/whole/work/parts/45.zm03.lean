/-! bindings never go round: an order of the variables -/
theorem ph (V : Nat) : ∀ l : List Nat, l.Nodup → (∀ x ∈ l, x < V) → l.length ≤ V := by
  induction V with
  | zero =>
    intro l _ h
    cases l with
    | nil => simp
    | cons x l => exact absurd (h x (by simp)) (Nat.not_lt_zero _)
  | succ V ih =>
    intro l hn h
    by_cases hV : V ∈ l
    · have h1 := ih (l.erase V) (hn.erase V) (by
        intro x hx
        have := (hn.mem_erase_iff).1 hx
        have := h x this.2
        omega)
      have h2 := List.length_erase_of_mem hV
      have h3 := List.length_pos_of_mem hV
      omega
    · have h1 := ih l hn (by
        intro x hx
        have := h x hx
        have : x ≠ V := fun h => hV (h ▸ hx)
        omega)
      omega
theorem idx_filter (p : Nat → Bool) (l : List Nat) (a b : Nat) (ha : p a = true) (hb : p b = true) (h : l.idxOf a < l.idxOf b) : (l.filter p).idxOf a < (l.filter p).idxOf b := by
  induction l with
  | nil => simp at h
  | cons x t ih =>
    rw [List.idxOf_cons, List.idxOf_cons] at h
    by_cases hxb : x = b
    · subst hxb; simp at h
    · by_cases hxa : x = a
      · subst hxa
        rw [List.filter_cons_of_pos ha, List.idxOf_cons, List.idxOf_cons]
        have e1 : (x == b) = false := by simp [hxb]
        simp [e1]
      · have e1 : (x == b) = false := by simp [hxb]
        have e2 : (x == a) = false := by simp [hxa]
        rw [e1, e2] at h
        simp only [cond_false] at h
        have h2 := ih (by omega)
        by_cases hx : p x = true
        · rw [List.filter_cons_of_pos hx, List.idxOf_cons, List.idxOf_cons, e1, e2]
          simp only [cond_false]; omega
        · rw [List.filter_cons_of_neg hx]; exact h2
def GT (c : Nat → Int) (e : Nat → Nat) (N : Nat) (V : Int) (T : List (Nat × Nat × Int)) : Prop := (T.map (·.1)).Nodup ∧ ∃ o : List Nat, o.Nodup ∧ (∀ x ∈ o, (x : Int) < V) ∧ ∀ v y, lk T v = some y → v ∈ o ∧ y.1 < N ∧ Al c e (fun w => 0 ≤ w ∧ w < V ∧ (lk T w.toNat ≠ none → o.idxOf w.toNat < o.idxOf v)) y
theorem GT_nil (c : Nat → Int) (e : Nat → Nat) (N : Nat) (V : Int) : GT c e N V [] := ⟨by simp, [], by simp, by simp, fun v y h => by simp [lk] at h⟩
theorem GT_V {c : Nat → Int} {e : Nat → Nat} {N : Nat} {V V' : Int} {T : List (Nat × Nat × Int)} (hV : V ≤ V') (h : GT c e N V T) : GT c e N V' T := by
  obtain ⟨h0, o, h1, h2, h3⟩ := h
  refine ⟨h0, o, h1, fun x hx => by have := h2 x hx; omega, fun v y hv => ?_⟩
  obtain ⟨k1, k2, k3⟩ := h3 v y hv
  exact ⟨k1, k2, Al_mono (fun w hw => ⟨hw.1, by omega, hw.2.2⟩) k3⟩
theorem GT_BOK {c : Nat → Int} {e : Nat → Nat} {N : Nat} {V : Int} {T : List (Nat × Nat × Int)} (hV : V ≤ 220) (h : GT c e N V T) : ∃ ρ, BOK c e N V T ρ := by
  obtain ⟨h0, o, h1, h2, h3⟩ := h
  refine ⟨fun v => o.idxOf v, fun v y hv => ?_⟩
  obtain ⟨k1, k2, k3⟩ := h3 v y hv
  have h4 := ph 220 o h1 (fun x hx => by have := h2 x hx; omega)
  have h5 := List.idxOf_lt_length_of_mem k1
  exact ⟨h2 v k1, by show o.idxOf v < 220; omega, k2, k3⟩
theorem lk_mem {T : List (Nat × Nat × Int)} {v : Nat} {y : Nat × Int} (h : lk T v = some y) : v ∈ T.map (·.1) := by
  induction T with
  | nil => simp [lk] at h
  | cons a T ih =>
    obtain ⟨w, z⟩ := a
    simp only [lk] at h
    by_cases hw : v = w
    · simp [hw]
    · rw [if_neg hw] at h; simp [ih h]
theorem lk_none {T : List (Nat × Nat × Int)} {v : Nat} (h : lk T v = none) : v ∉ T.map (·.1) := by
  induction T with
  | nil => simp
  | cons a T ih =>
    obtain ⟨w, z⟩ := a
    simp only [lk] at h
    by_cases hw : v = w
    · simp [hw] at h
    · rw [if_neg hw] at h
      have := ih h
      simp only [List.map_cons, List.mem_cons, not_or]
      exact ⟨hw, this⟩
theorem GT_len {c : Nat → Int} {e : Nat → Nat} {N : Nat} {V : Int} {T : List (Nat × Nat × Int)} (hV : V ≤ 220) (h : GT c e N V T) : T.length ≤ 220 := by
  obtain ⟨h0, o, h1, h2, h3⟩ := h
  have := ph 220 _ h0 (fun x hx => by
    cases hl : lk T x with
    | none => exact absurd hx (lk_none hl)
    | some y => have := h2 x (h3 x y hl).1; omega)
  simpa using this
theorem GT_bind {c : Nat → Int} {e : Nat → Nat} {N : Nat} {V : Int} {T : List (Nat × Nat × Int)} (hT : TOK c e N) (hV : V ≤ 220) (h : GT c e N V T) {v : Nat} (hv : lk T v = none) (hvV : (v : Int) < V) {y : Nat × Int} (hy : y.1 < N) (hyA : Al c e (fun w => 0 ≤ w ∧ w < V) y) (hn : NoV c e T v y) : GT c e N V ((v, y) :: T) := by
  obtain ⟨ρ, hB⟩ := GT_BOK hV h
  obtain ⟨h0, o, h1, h2, h3⟩ := h
  have hOK : ∀ z : Nat × Int, z.1 < N → Al c e (fun w => 0 ≤ w ∧ w < V) z → OK c e N V T ρ 220 z := fun z hz hA => ⟨hz, Al_mono (fun w hw => ⟨hw.1, hw.2, fun hb => by
    cases hl : lk T w.toNat with
    | none => exact absurd hl hb
    | some y' => exact (hB _ _ hl).2.1⟩) hA⟩
  let P : Nat → Prop := fun w => ∃ y', lk T w = some y' ∧ NoV c e T v y'
  let f1 : Nat → Bool := fun w => @decide (P w ∧ w ≠ v) (Classical.propDecidable _)
  let f2 : Nat → Bool := fun w => @decide (¬ P w ∧ w ≠ v) (Classical.propDecidable _)
  have hf1 : ∀ w, f1 w = true ↔ (P w ∧ w ≠ v) := fun w => @decide_eq_true_iff _ (Classical.propDecidable _)
  have hf2 : ∀ w, f2 w = true ↔ (¬ P w ∧ w ≠ v) := fun w => @decide_eq_true_iff _ (Classical.propDecidable _)
  have raw : ∀ z : Nat × Int, z.1 < N → Al c e (fun w => 0 ≤ w ∧ w < V) z → NoV c e T v z → Al c e (fun w => (lk T w.toNat = none ∧ w ≠ v) ∨ P w.toNat) z := by
    intro z hz hA hnz
    refine ⟨hA.1, ?_⟩
    intro q hq1 hq2 hq3
    exact NoV_raw hT hB (e z.1 - z.1) z 220 (by omega) (hOK z hz hA) hnz q hq1 hq2 hq3
  have v1 : v ∉ o.filter f1 := fun hm => ((hf1 v).1 (List.mem_filter.1 hm).2).2 rfl
  have v2 : v ∉ o.filter f2 := fun hm => ((hf2 v).1 (List.mem_filter.1 hm).2).2 rfl
  have iv : (o.filter f1 ++ v :: o.filter f2).idxOf v = (o.filter f1).length := by
    rw [List.idxOf_append, if_neg v1, List.idxOf_cons_self]; omega
  have i1 : ∀ w, w ∈ o → P w → w ≠ v → w ∈ o.filter f1 ∧ (o.filter f1 ++ v :: o.filter f2).idxOf w = (o.filter f1).idxOf w := by
    intro w hw hP hne
    have hm : w ∈ o.filter f1 := List.mem_filter.2 ⟨hw, (hf1 w).2 ⟨hP, hne⟩⟩
    exact ⟨hm, by rw [List.idxOf_append, if_pos hm]⟩
  have i2 : ∀ w, w ∈ o → ¬ P w → w ≠ v → w ∈ o.filter f2 ∧ (o.filter f1 ++ v :: o.filter f2).idxOf w = (o.filter f1).length + 1 + (o.filter f2).idxOf w := by
    intro w hw hP hne
    have hm : w ∈ o.filter f2 := List.mem_filter.2 ⟨hw, (hf2 w).2 ⟨hP, hne⟩⟩
    have hm1 : w ∉ o.filter f1 := fun hm => hP ((hf1 w).1 (List.mem_filter.1 hm).2).1
    refine ⟨hm, ?_⟩
    have e1 : (v == w) = false := by simp [Ne.symm hne]
    rw [List.idxOf_append, if_neg hm1, List.idxOf_cons, e1]
    simp only [cond_false]; omega
  refine ⟨by simp only [List.map_cons, List.nodup_cons]; exact ⟨lk_none hv, h0⟩, o.filter f1 ++ v :: o.filter f2, ?_, ?_, ?_⟩
  · rw [List.nodup_append]
    refine ⟨h1.sublist List.filter_sublist, ?_, ?_⟩
    · rw [List.nodup_cons]; exact ⟨v2, h1.sublist List.filter_sublist⟩
    · intro a ha b hb hab
      subst hab
      rcases List.mem_cons.1 hb with hb | hb
      · subst hb; exact v1 ha
      · exact ((hf2 a).1 (List.mem_filter.1 hb).2).1 ((hf1 a).1 (List.mem_filter.1 ha).2).1
  · intro x hx
    rcases List.mem_append.1 hx with hx | hx
    · exact h2 x (List.mem_filter.1 hx).1
    · rcases List.mem_cons.1 hx with hx | hx
      · subst hx; exact hvV
      · exact h2 x (List.mem_filter.1 hx).1
  · intro w z hz
    simp only [lk] at hz
    by_cases hwv : w = v
    · subst hwv
      rw [if_pos rfl] at hz
      cases hz
      refine ⟨by simp, hy, hyA.1, ?_⟩
      intro q q1 q2 q3
      have hw := hyA.2 q q1 q2 q3
      refine ⟨hw.1, hw.2, ?_⟩
      intro hb
      have hr := (raw y hy hyA hn).2 q q1 q2 q3
      simp only [] at hr hb ⊢
      rcases hr with hr | hr
      · exfalso; apply hb
        simp only [lk]
        rw [if_neg (by omega)]
        exact hr.1
      · have hr' := hr
        obtain ⟨y', hy', hn'⟩ := hr'
        have hne : (y.2 - 1 - c q).toNat ≠ w := fun h => by rw [h, hv] at hy'; cases hy'
        have := i1 _ (h3 _ _ hy').1 hr hne
        rw [iv, this.2]
        exact List.idxOf_lt_length_of_mem this.1
    · rw [if_neg hwv] at hz
      obtain ⟨k1, k2, k3⟩ := h3 w z hz
      have hzA : Al c e (fun w => 0 ≤ w ∧ w < V) z := Al_mono (fun w hw => ⟨hw.1, hw.2.1⟩) k3
      refine ⟨?_, k2, ?_⟩
      · by_cases hP : P w
        · exact List.mem_append.2 (Or.inl (i1 w k1 hP hwv).1)
        · exact List.mem_append.2 (Or.inr (List.mem_cons.2 (Or.inr (i2 w k1 hP hwv).1)))
      · refine ⟨k3.1, ?_⟩
        intro q q1 q2 q3
        have hw := k3.2 q q1 q2 q3
        refine ⟨hw.1, hw.2.1, ?_⟩
        intro hb
        by_cases hqv : (z.2 - 1 - c q).toNat = v
        · have hP : ¬ P w := by
            intro hP
            obtain ⟨y', hy', hn'⟩ := hP
            rw [hz] at hy'; cases hy'
            have hr := (raw z k2 hzA hn').2 q q1 q2 q3
            rcases hr with hr | hr
            · exact hr.2 (by omega)
            · obtain ⟨y', hy', _⟩ := hr
              rw [hqv, hv] at hy'; cases hy'
          rw [hqv, iv, (i2 w k1 hP hwv).2]; omega
        · have hb' : lk T (z.2 - 1 - c q).toNat ≠ none := by
            simp only [lk] at hb; rw [if_neg hqv] at hb; exact hb
          have hlt := hw.2.2 hb'
          have hmo : (z.2 - 1 - c q).toNat ∈ o := by
            cases hl : lk T (z.2 - 1 - c q).toNat with
            | none => exact absurd hl hb'
            | some y' => exact (h3 _ _ hl).1
          by_cases hP : P w
          · obtain ⟨y', hy', hn'⟩ := hP
            rw [hz] at hy'; cases hy'
            have hr := (raw z k2 hzA hn').2 q q1 q2 q3
            have hPq : P (z.2 - 1 - c q).toNat := by
              rcases hr with hr | hr
              · exact absurd hr.1 hb'
              · exact hr
            rw [(i1 _ hmo hPq hqv).2, (i1 w k1 ⟨z, hz, hn'⟩ hwv).2]
            exact idx_filter f1 o _ _ ((hf1 _).2 ⟨hPq, hqv⟩) ((hf1 _).2 ⟨⟨z, hz, hn'⟩, hwv⟩) hlt
          · rw [(i2 w k1 hP hwv).2]
            by_cases hPq : P (z.2 - 1 - c q).toNat
            · have := i1 _ hmo hPq hqv
              have h5 := List.idxOf_lt_length_of_mem this.1
              rw [this.2]; omega
            · rw [(i2 _ hmo hPq hqv).2]
              have := idx_filter f2 o _ _ ((hf2 _).2 ⟨hPq, hqv⟩) ((hf2 _).2 ⟨hP, hwv⟩) hlt
              omega
