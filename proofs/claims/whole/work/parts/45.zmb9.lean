/-! reading: what a clause on the way becomes, said without a machine -/
abbrev agn (K : List Lt) (l : Lt) : Prop := ∃ m, m ∈ K ∧ m.2 = l.2 ∧ m.1 = l.1
abbrev opp (K : List Lt) (l : Lt) : Prop := ∃ m, m ∈ K ∧ m.2 = l.2 ∧ m.1 ≠ l.1
def kst (K : List Lt × Bool) (l : Lt) : List Lt × Bool := (if agn K.1 l then K.1 else K.1 ++ [l], K.2 || decide (opp K.1 l))
def krun (K : List Lt × Bool) : List Lt → List Lt × Bool
  | [] => K
  | l :: c => krun (kst K l) c
theorem krun_true (c : List Lt) : ∀ K : List Lt × Bool, K.2 = true → (krun K c).2 = true := by
  induction c with
  | nil => intro K h; exact h
  | cons l c ih => intro K h; exact ih _ (by simp [kst, h])
def NA (K : List Lt) : Prop := ∀ (i j : Nat) (l m : Lt), K[i]? = some l → K[j]? = some m → l.2 = m.2 → i = j
theorem NA_add {K : List Lt} {l : Lt} (h : NA K) (h1 : ¬ agn K l) (h2 : ¬ opp K l) : NA (K ++ [l]) := by
  have hn : ∀ (i : Nat) (m : Lt), K[i]? = some m → m.2 ≠ l.2 := by
    intro i m hi he
    have hm : m ∈ K := List.mem_iff_getElem?.2 ⟨i, hi⟩
    by_cases hs : m.1 = l.1
    · exact h1 ⟨m, hm, he, hs⟩
    · exact h2 ⟨m, hm, he, hs⟩
  intro i j a b ha hb hab
  have hla := get_lt ha
  have hlb := get_lt hb
  simp only [List.length_append, List.length_cons, List.length_nil] at hla hlb
  by_cases hi : i < K.length
  · rw [List.getElem?_append_left hi] at ha
    by_cases hj : j < K.length
    · rw [List.getElem?_append_left hj] at hb; exact h i j a b ha hb hab
    · have : j = K.length := by omega
      subst this
      rw [List.getElem?_append_right (Nat.le_refl _), Nat.sub_self] at hb
      have : l = b := by simpa using hb
      subst this; exact absurd hab (hn i a ha)
  · have : i = K.length := by omega
    subst this
    rw [List.getElem?_append_right (Nat.le_refl _), Nat.sub_self] at ha
    have : l = a := by simpa using ha
    subst this
    by_cases hj : j < K.length
    · rw [List.getElem?_append_left hj] at hb; exact absurd hab.symm (hn j b hb)
    · omega
theorem kst_len (K : List Lt × Bool) (l : Lt) : (kst K l).1.length ≤ K.1.length + 1 ∧ K.1.length ≤ (kst K l).1.length := by
  unfold kst
  by_cases h : agn K.1 l
  · simp only [if_pos h]; omega
  · simp only [if_neg h, List.length_append, List.length_cons, List.length_nil]; omega
theorem krun_len (c : List Lt) : ∀ K : List Lt × Bool, (krun K c).1.length ≤ K.1.length + c.length := by
  induction c with
  | nil => intro K; simp [krun]
  | cons l c ih => intro K; have h1 := ih (kst K l); have h2 := kst_len K l; simp only [krun, List.length_cons]; omega
theorem krun_mem (c : List Lt) : ∀ (K : List Lt × Bool) (P : Lt → Prop), (∀ l, l ∈ K.1 → P l) → (∀ l, l ∈ c → P l) → ∀ l, l ∈ (krun K c).1 → P l := by
  induction c with
  | nil => intro K P h _ l hl; exact h l hl
  | cons a c ih =>
    intro K P h h2 l hl
    refine ih (kst K a) P (fun m hm => ?_) (fun m hm => h2 m (List.mem_cons_of_mem _ hm)) l hl
    unfold kst at hm
    by_cases hg : agn K.1 a
    · simp only [if_pos hg] at hm; exact h m hm
    · simp only [if_neg hg] at hm
      rcases List.mem_append.1 hm with hm | hm
      · exact h m hm
      · simp at hm; subst hm; exact h2 m (by simp)
/-- variables are numbered as they come first -/
def ixo : List Int → Int → Nat
  | [], _ => 0
  | a :: l, z => if a = z then 0 else ixo l z + 1
def snx (sn : List Int) (z : Int) : List Int := if 0 ≤ z then sn else if z ∈ sn then sn else sn ++ [z]
def rc1 (sn : List Int) (z : Int) : Int := if 0 ≤ z then z else -1 - (ixo sn z : Int)
def rnc (sn : List Int) : List Int → List Int
  | [] => []
  | z :: l => rc1 sn z :: rnc (snx sn z) l
def sns (sn : List Int) : List Int → List Int
  | [] => sn
  | z :: l => sns (snx sn z) l
theorem ixo_in {z : Int} (l : List Int) : z ∈ l → ixo l z < l.length ∧ l[ixo l z]? = some z := by
  induction l with
  | nil => intro h; cases h
  | cons a l ih =>
    intro h
    simp only [ixo]
    by_cases ha : a = z
    · rw [if_pos ha]; subst ha; simp
    · rw [if_neg ha]
      rcases List.mem_cons.1 h with h | h
      · exact absurd h.symm ha
      · have := ih h
        exact ⟨by simp only [List.length_cons]; omega, by simp; exact this.2⟩
theorem ixo_out {z : Int} (l : List Int) : z ∉ l → ixo l z = l.length := by
  induction l with
  | nil => intro _; rfl
  | cons a l ih =>
    intro h
    simp only [ixo, List.length_cons]
    rw [if_neg (fun ha => h (by rw [ha]; simp)), ih (fun hh => h (List.mem_cons_of_mem _ hh))]
theorem ixo_lt {z : Int} (l : List Int) : ∀ (i : Nat) (a : Int), l[i]? = some a → i < ixo l z → a ≠ z := by
  induction l with
  | nil => intro i a h; simp at h
  | cons b l ih =>
    intro i a h hi
    simp only [ixo] at hi
    by_cases hb : b = z
    · rw [if_pos hb] at hi; omega
    · rw [if_neg hb] at hi
      cases i with
      | zero => simp at h; subst h; exact hb
      | succ i => simp at h; exact ih i a h (by omega)
theorem rnc_len (l : List Int) : ∀ sn, (rnc sn l).length = l.length := by
  induction l with
  | nil => intro sn; rfl
  | cons z l ih => intro sn; simp only [rnc, List.length_cons, ih]
theorem rnc_app (l l' : List Int) : ∀ sn, rnc sn (l ++ l') = rnc sn l ++ rnc (sns sn l) l' := by
  induction l with
  | nil => intro sn; rfl
  | cons z l ih => intro sn; simp only [List.cons_append, rnc, sns, ih]
theorem sns_app (l l' : List Int) : ∀ sn, sns sn (l ++ l') = sns (sns sn l) l' := by
  induction l with
  | nil => intro sn; rfl
  | cons z l ih => intro sn; simp only [List.cons_append, sns, ih]
theorem snx_len (sn : List Int) (z : Int) : sn.length ≤ (snx sn z).length ∧ (snx sn z).length ≤ sn.length + 1 := by
  unfold snx
  by_cases h : 0 ≤ z
  · rw [if_pos h]; omega
  · rw [if_neg h]
    by_cases h2 : z ∈ sn
    · rw [if_pos h2]; omega
    · rw [if_neg h2]; simp
theorem sns_len (l : List Int) : ∀ sn, sn.length ≤ (sns sn l).length ∧ (sns sn l).length ≤ sn.length + l.length := by
  induction l with
  | nil => intro sn; simp [sns]
  | cons z l ih => intro sn; have h1 := ih (snx sn z); have h2 := snx_len sn z; simp only [sns, List.length_cons]; omega
theorem rc1_neg {sn : List Int} {z : Int} (h : rc1 sn z < 0) : z < 0 ∧ rc1 sn z = -1 - (ixo sn z : Int) ∧ ixo sn z < (snx sn z).length := by
  unfold rc1 at h ⊢
  by_cases hz : 0 ≤ z
  · rw [if_pos hz] at h; omega
  · rw [if_neg hz]
    refine ⟨by omega, rfl, ?_⟩
    unfold snx
    rw [if_neg hz]
    by_cases h2 : z ∈ sn
    · rw [if_pos h2]; exact (ixo_in sn h2).1
    · rw [if_neg h2, ixo_out sn h2]; simp
theorem rnc_nv (l : List Int) : ∀ sn y, y ∈ rnc sn l → y < 0 → -1 - y < (sns sn l).length := by
  induction l with
  | nil => intro sn y h; cases h
  | cons z l ih =>
    intro sn y h hy
    simp only [rnc, sns] at h ⊢
    rcases List.mem_cons.1 h with h | h
    · subst h
      have h1 := rc1_neg hy
      have h2 := sns_len l (snx sn z)
      omega
    · exact ih _ y h hy
theorem rnc_ord (l : List Int) : ∀ (sn pre : List Int), (∀ w : Nat, w < sn.length → (-1 - (w : Int)) ∈ pre) → ∀ (t : Nat) (y : Int), (rnc sn l)[t]? = some y → y < 0 → ∀ w : Int, 0 ≤ w → w < -1 - y → (-1 - w) ∈ pre ∨ ∃ t', t' < t ∧ (rnc sn l)[t']? = some (-1 - w) := by
  induction l with
  | nil => intro sn pre _ t y h; simp [rnc] at h
  | cons z l ih =>
    intro sn pre hp t y ht hy w hw0 hw
    simp only [rnc] at ht ⊢
    cases t with
    | zero =>
      simp at ht; subst ht
      obtain ⟨h1, h2, h3⟩ := rc1_neg hy
      left
      have hle : ixo sn z ≤ sn.length := by
        by_cases h : z ∈ sn
        · have := (ixo_in sn h).1; omega
        · rw [ixo_out sn h]; exact Nat.le_refl _
      have := hp w.toNat (by omega)
      rw [show ((w.toNat : Nat) : Int) = w by omega] at this
      exact this
    | succ t =>
      simp at ht
      have hp' : ∀ k : Nat, k < (snx sn z).length → (-1 - (k : Int)) ∈ pre ++ [rc1 sn z] := by
        intro k hk
        by_cases hks : k < sn.length
        · exact List.mem_append_left _ (hp k hks)
        · refine List.mem_append_right _ ?_
          unfold snx at hk
          by_cases hz : 0 ≤ z
          · rw [if_pos hz] at hk; omega
          · rw [if_neg hz] at hk
            by_cases h2 : z ∈ sn
            · rw [if_pos h2] at hk; omega
            · rw [if_neg h2, List.length_append] at hk
              simp only [List.length_cons, List.length_nil] at hk
              have : k = sn.length := by omega
              subst this
              simp only [rc1, if_neg hz, ixo_out sn h2, List.mem_singleton]
      rcases ih (snx sn z) (pre ++ [rc1 sn z]) hp' t y ht hy w hw0 hw with h | ⟨t', h1, h2⟩
      · rcases List.mem_append.1 h with h | h
        · exact Or.inl h
        · simp at h; exact Or.inr ⟨0, by omega, by simp; exact h.symm⟩
      · exact Or.inr ⟨t' + 1, by omega, by simpa using h2⟩
theorem rc1_pos {sn : List Int} {z : Int} (h : 0 ≤ rc1 sn z) : 0 ≤ z ∧ rc1 sn z = z := by
  unfold rc1 at h ⊢
  by_cases hz : 0 ≤ z
  · rw [if_pos hz]; exact ⟨hz, rfl⟩
  · rw [if_neg hz] at h; omega
theorem arc_rc1 (sn : List Int) (z : Int) : arc (rc1 sn z) = arc z := by
  unfold rc1 arc
  by_cases hz : 0 ≤ z
  · rw [if_pos hz]
  · rw [if_neg hz, if_pos (by omega), if_pos (by omega)]
theorem arc_rnc (l : List Int) : ∀ sn, (rnc sn l).map arc = l.map arc := by
  induction l with
  | nil => intro sn; rfl
  | cons z l ih => intro sn; simp only [rnc, List.map_cons, ih, arc_rc1]
/-- how many cells k terms take -/
def tk : List Nat → Nat → Nat
  | [], _ => 0
  | _ :: _, 0 => 0
  | a :: l, k + 1 => 1 + tk l (k + a)
theorem tk_zero (L : List Nat) : tk L 0 = 0 := by cases L <;> rfl
theorem tk_add (L : List Nat) : ∀ j k, tk L (j + k) = tk L j + tk (L.drop (tk L j)) k := by
  induction L with
  | nil => intro j k; simp [tk]
  | cons a l ih =>
    intro j k
    cases j with
    | zero => rw [tk_zero]; simp
    | succ j =>
      rw [show j + 1 + k = (j + k) + 1 by omega]
      simp only [tk]
      rw [show j + k + a = (j + a) + k by omega, ih, show 1 + tk l (j + a) = tk l (j + a) + 1 by omega, List.drop_succ_cons]
      omega
theorem WT_tk (L : List Nat) : ∀ m k, WT L m → k ≤ m → WT (L.drop (tk L k)) (m - k) := by
  induction L with
  | nil => intro m k h hk; simp only [WT] at h; subst h; simp [tk, WT]
  | cons a l ih =>
    intro m k h hk
    cases k with
    | zero => rw [tk_zero]; exact h
    | succ k =>
      simp only [tk]
      rw [show 1 + tk l (k + a) = tk l (k + a) + 1 by omega, List.drop_succ_cons]
      have := ih (m - 1 + a) (k + a) h.2 (by omega)
      rw [show m - 1 + a - (k + a) = m - (k + 1) by omega] at this
      exact this
theorem tk_le (L : List Nat) : ∀ k, tk L k ≤ L.length := by
  induction L with
  | nil => intro k; simp [tk]
  | cons a l ih =>
    intro k
    cases k with
    | zero => rw [tk_zero]; omega
    | succ k => have := ih (k + a); simp only [tk, List.length_cons]; omega
theorem tk_all (L : List Nat) : ∀ m, WT L m → tk L m = L.length := by
  induction L with
  | nil => intro m _; rfl
  | cons a l ih =>
    intro m h
    obtain ⟨m', rfl⟩ : ∃ m', m = m' + 1 := ⟨m - 1, by have := h.1; omega⟩
    simp only [tk, List.length_cons]
    have h2 := h.2
    rw [show m' + 1 - 1 + a = m' + a by omega] at h2
    rw [ih _ h2]; omega
theorem WT_ne {L : List Nat} {m : Nat} (h : WT L m) (hm : 1 ≤ m) : ∃ a l, L = a :: l := by
  cases L with
  | nil => simp only [WT] at h; omega
  | cons a l => exact ⟨a, l, rfl⟩
/-- ends of terms that are reckoned so -/
theorem it_tk {e : Nat → Nat} {s N : Nat} {A : List Nat} (hN : s + A.length ≤ N) (he : ∀ p, s ≤ p → p < s + A.length → e p = p + tk (A.drop (p - s)) 1) (k : Nat) : ∀ p m, s ≤ p → p ≤ s + A.length → WT (A.drop (p - s)) m → k ≤ m → it e k p = p + tk (A.drop (p - s)) k ∧ sg e N k p := by
  induction k with
  | zero => intro p m h1 h2 _ _; rw [tk_zero]; exact ⟨rfl, by show p ≤ N; omega⟩
  | succ k ih =>
    intro p m h1 h2 hW hk
    obtain ⟨a, l, hal⟩ := WT_ne hW (by omega)
    have hp : p < s + A.length := by
      rcases Nat.lt_or_ge p (s + A.length) with h | h
      · exact h
      · rw [List.drop_of_length_le (by omega)] at hal; cases hal
    have hep := he p h1 hp
    obtain ⟨t, ht⟩ : ∃ t, tk (A.drop (p - s)) 1 = t := ⟨_, rfl⟩
    rw [ht] at hep
    have ht1 : 1 ≤ t := by rw [← ht, hal]; simp only [tk]; omega
    have htl : t ≤ A.length - (p - s) := by rw [← ht]; have := tk_le (A.drop (p - s)) 1; rw [List.length_drop] at this; exact this
    have hd : A.drop (p + t - s) = (A.drop (p - s)).drop t := by rw [List.drop_drop]; congr 1; omega
    have hW2 : WT (A.drop (p + t - s)) (m - 1) := by rw [hd, ← ht]; exact WT_tk _ m 1 hW (by omega)
    obtain ⟨i1, i2⟩ := ih (p + t) (m - 1) (by omega) (by omega) hW2 (by omega)
    refine ⟨?_, ?_⟩
    · show it e k (e p) = _
      rw [hep, i1, show k + 1 = 1 + k by omega, tk_add, ht, hd]; omega
    · show p < N ∧ p < e p ∧ sg e N k (e p)
      rw [hep]; exact ⟨by omega, by omega, i2⟩
