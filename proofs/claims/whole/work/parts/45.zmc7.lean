/-! reading: a clause more in the store, both sides -/
def FAr (v : St) (nb N : Nat) (c : Nat → Int) : Prop := ∀ q, q < N → 0 ≤ c q → ∀ f : Nat, c q / 8 = 4096 + f → nb < f → I v 105 (f - 1 - nb) = c q % 8
def DLs (u v : St) (C S F nb : Nat) (fi ps : Nat → Nat) (nv c : Nat → Int) (e : Nat → Nat) : Prop := SR u v C fi ps nv c e ∧ SYr u v S F (ps (fi C)) c ∧ VOr C fi ps c ∧ FAr v nb (ps (fi C)) c
theorem it_eq {e e' : Nat → Nat} {b N : Nat} (hN : b ≤ N) (he : ∀ q, q < b → e' q = e q) (n : Nat) : ∀ p, sg e b n p → it e' n p = it e n p ∧ sg e' N n p := by
  induction n with
  | zero => intro p h; exact ⟨rfl, Nat.le_trans h hN⟩
  | succ n ih =>
    intro p h
    obtain ⟨h1, h2, h3⟩ := h
    have := ih (e p) h3
    refine ⟨?_, ?_⟩
    · show it e' n (e' p) = it e n (e p)
      rw [he p h1]; exact this.1
    · show p < N ∧ p < e' p ∧ sg e' N n (e' p)
      rw [he p h1]; exact ⟨by omega, h2, this.2⟩
theorem tk_pre (x : List Nat) : ∀ m y, WT x m → tk (x ++ y) m = x.length := by
  induction x with
  | nil => intro m y h; simp only [WT] at h; subst h; rw [tk_zero]; rfl
  | cons a x ih =>
    intro m y h
    obtain ⟨m', rfl⟩ : ∃ m', m = m' + 1 := ⟨m - 1, by have := h.1; omega⟩
    simp only [List.cons_append, tk, List.length_cons]
    have h2 := h.2
    rw [show m' + 1 - 1 + a = m' + a by omega] at h2
    rw [ih _ y h2]; omega
theorem fl_drop (K : List Lt) : ∀ i, (fl K).drop (cl (K.take i)) = fl (K.drop i) := by
  intro i
  have h1 : fl K = fl (K.take i) ++ fl (K.drop i) := by rw [← fl_app, List.take_append_drop]
  rw [h1, ← fl_len, List.drop_left]
theorem mem_fl (K : List Lt) : ∀ z, z ∈ fl K → ∃ l, l ∈ K ∧ z ∈ l.2 := by
  induction K with
  | nil => intro z h; cases h
  | cons a K ih =>
    intro z h
    simp only [fl] at h
    rcases List.mem_append.1 h with h | h
    · exact ⟨a, by simp, h⟩
    · obtain ⟨l, h1, h2⟩ := ih z h; exact ⟨l, List.mem_cons_of_mem _ h1, h2⟩
theorem rnc_get (l : List Int) : ∀ (sn : List Int) (i : Nat) (y : Int), (rnc sn l)[i]? = some y → ∃ z sn', l[i]? = some z ∧ y = rc1 sn' z := by
  induction l with
  | nil => intro sn i y h; simp [rnc] at h
  | cons a l ih =>
    intro sn i y h
    cases i with
    | zero => simp [rnc] at h; exact ⟨a, sn, by simp, h.symm⟩
    | succ i => simp [rnc] at h; obtain ⟨z, sn', h1, h2⟩ := ih _ i y h; exact ⟨z, sn', by simpa using h1, h2⟩
theorem ps_200 {u v : St} {C : Nat} {fi ps : Nat → Nat} {nv c : Nat → Int} {e : Nat → Nat} (h : SR u v C fi ps nv c e) : ∀ k, k ≤ C → ps (fi k) ≤ 200 * k := by
  intro k
  induction k with
  | zero => intro _; rw [h.2.2.2.1, h.2.2.2.2.1]; omega
  | succ k ih => intro hk; have := ih (by omega); have := (h.2.2.2.2.2.2.1 k (by omega)).2.2.2.2.2.2.2.2; omega
theorem add_clause {u0 u v u' v' : St} {C S F nb nf : Nat} {fi ps : Nat → Nat} {nv c : Nat → Int} {e : Nat → Nat} {K : List Lt} (hC : C < 100) (hS : S ≤ 900) (hF : nf ≤ F) (hD : DLs u v C S F nb fi ps nv c e) (hK : K.length ≤ 12) (hcl : cl K ≤ 200) (hvr : (sns [] (fl K)).length ≤ 10) (hlit : ∀ l, l ∈ K → LG l.2 ∧ (l.1 = 0 ∨ l.1 = 1) ∧ ∀ z, z ∈ l.2 → CVl u0 v S nb nf z) (hu1 : LDc u' C (fi C) (ps (fi C)) K) (hu2 : I u' 2 5 = ((C + 1 : Nat) : Int)) (hu3 : I u' 19 C = (sns [] (fl K)).length) (hu4 : I u' 18 (C + 1) = ((fi C + K.length : Nat) : Int)) (hu5 : STk u u' C (fi C) (ps (fi C))) (h16 : ∀ s, s < S → I u' 16 s = I u0 16 s) (h16b : ∀ s, s < S → I u' 16 s = I u 16 s) (hv1 : NCd v' C (fi C) (ps (fi C)) K) (hv2 : RTk v v' C (fi C) (ps (fi C))) (h105 : ∀ i, I v' 105 i = I v 105 i) : ∃ fi' ps' nv' c' e', DLs u' v' (C + 1) S F nb fi' ps' nv' c' e' ∧ fi' (C + 1) = fi C + K.length ∧ ps' (fi' (C + 1)) = ps (fi C) + cl K := by
  obtain ⟨hSR, hSY, hVO, hFA⟩ := hD
  have hfi := SR_fi hSR
  have hpsm := SR_ps hSR
  have hps200 := ps_200 hSR
  obtain ⟨h1, h2, h3, h4, h5, h6, h7, h8, h9, h10, h11, h12, h13, h14⟩ := hSR
  obtain ⟨f, hf⟩ : ∃ f, fi C = f := ⟨_, rfl⟩
  obtain ⟨b, hb⟩ : ∃ b, ps f = b := ⟨_, rfl⟩
  rw [hf, hb] at hu1 hu5 hv1 hv2
  rw [hf] at hu4
  rw [hf, hb] at hSY hFA
  rw [hf] at h8 h10 h11 h12 h13 h14 hpsm
  rw [hb] at h11 h12 h13 h14
  have hb2 : b ≤ 200 * C := by have := hps200 C (Nat.le_refl _); rw [hf, hb] at this; exact this
  have hf2 : f ≤ 12 * C := by have := hfi.2.1 C (Nat.le_refl _); rw [hf] at this; exact this
  obtain ⟨A, hA⟩ : ∃ A, (fl K).map arc = A := ⟨_, rfl⟩
  have hAl : A.length = cl K := by rw [← hA, List.length_map, fl_len]
  obtain ⟨Y, hY⟩ : ∃ Y, rnc [] (fl K) = Y := ⟨_, rfl⟩
  have hYl : Y.length = cl K := by rw [← hY, rnc_len, fl_len]
  have hYA : Y.map arc = A := by rw [← hY, arc_rnc, hA]
  have hWT : WT A K.length := by rw [← hA]; exact WT_fl K (fun l hl => (hlit l hl).1.1)
  obtain ⟨fi', hfi'⟩ : ∃ fi' : Nat → Nat, fi' = fun k => if k ≤ C then fi k else f + K.length := ⟨_, rfl⟩
  obtain ⟨ps', hps'⟩ : ∃ ps' : Nat → Nat, ps' = fun l => if l ≤ f then ps l else b + cl (K.take (l - f)) := ⟨_, rfl⟩
  obtain ⟨nv', hnv'⟩ : ∃ nv' : Nat → Int, nv' = fun k => if k < C then nv k else ((sns [] (fl K)).length : Int) := ⟨_, rfl⟩
  obtain ⟨c', hc'⟩ : ∃ c' : Nat → Int, c' = fun p => if p < b then c p else Y.getD (p - b) 0 := ⟨_, rfl⟩
  obtain ⟨e', he'⟩ : ∃ e' : Nat → Nat, e' = fun p => if p < b then e p else p + tk (A.drop (p - b)) 1 := ⟨_, rfl⟩
  have fiO : ∀ k, k ≤ C → fi' k = fi k := fun k hk => by rw [hfi']; simp only [if_pos hk]
  have fiN : fi' (C + 1) = f + K.length := by rw [hfi']; simp only [if_neg (show ¬ C + 1 ≤ C by omega)]
  have psO : ∀ l, l ≤ f → ps' l = ps l := fun l hl => by rw [hps']; simp only [if_pos hl]
  have psN : ∀ i, ps' (f + i) = b + cl (K.take i) := fun i => by
    rw [hps']
    by_cases hi : i = 0
    · subst hi; simp [cl, hb]
    · simp only [if_neg (show ¬ f + i ≤ f by omega)]; rw [show f + i - f = i by omega]
  have nvO : ∀ k, k < C → nv' k = nv k := fun k hk => by rw [hnv']; simp only [if_pos hk]
  have nvN : nv' C = ((sns [] (fl K)).length : Int) := by rw [hnv']; simp
  have cO : ∀ p, p < b → c' p = c p := fun p hp => by rw [hc']; simp only [if_pos hp]
  have cN : ∀ (i : Nat) (y : Int), Y[i]? = some y → c' (b + i) = y := fun i y hy => by
    rw [hc']; simp only [if_neg (show ¬ b + i < b by omega)]
    rw [show b + i - b = i by omega, List.getD_eq_getElem?_getD, hy]; rfl
  have cG : ∀ p, b ≤ p → p < b + cl K → ∃ y, Y[p - b]? = some y ∧ c' p = y := fun p h1 h2 => by
    have hlt : p - b < Y.length := by omega
    refine ⟨Y[p - b], List.getElem?_eq_getElem hlt, ?_⟩
    have := cN (p - b) _ (List.getElem?_eq_getElem hlt)
    rw [show b + (p - b) = p by omega] at this; exact this
  have eO : ∀ p, p < b → e' p = e p := fun p hp => by rw [he']; simp only [if_pos hp]
  have eN : ∀ p, b ≤ p → e' p = p + tk (A.drop (p - b)) 1 := fun p hp => by rw [he']; simp only [if_neg (show ¬ p < b by omega)]
  have psE : ps' (fi' (C + 1)) = b + cl K := by rw [fiN, psN, List.take_length]
  have hdA : ∀ (p : Nat) (y : Int), b ≤ p → Y[p - b]? = some y → A.drop (p - b) = arc y :: A.drop (p + 1 - b) := fun p y hp hy => by
    have hlt : p - b < A.length := by have := get_lt hy; omega
    rw [List.drop_eq_getElem_cons hlt, show p + 1 - b = p - b + 1 by omega]
    congr 1
    have h1 : A[p - b]? = some (arc y) := by rw [← hYA, List.getElem?_map, hy]; rfl
    rw [List.getElem?_eq_getElem hlt] at h1; exact Option.some.inj h1
  have ar' : ∀ p y, c' p = y → ar c' p = arc y := fun p y h => by unfold ar arc; rw [h]
  -- a cell that came
  have cv : ∀ p, b ≤ p → p < b + cl K → CVl u0 v S nb nf (c' p) ∧ I v' 111 p = rcl (c' p) ∧ I u' 32 p = c' p := fun p hp1 hp2 => by
    obtain ⟨y, y1, y2⟩ := cG p hp1 hp2
    have y1' := y1
    rw [← hY] at y1'
    obtain ⟨z, sn', z1, z2⟩ := rnc_get (fl K) [] (p - b) y y1'
    obtain ⟨l, l1, l2⟩ := mem_fl K z (List.mem_iff_getElem?.2 ⟨_, z1⟩)
    have hz := (hlit l l1).2.2 z l2
    refine ⟨?_, ?_, ?_⟩
    · rw [y2, z2]
      by_cases hneg : rc1 sn' z < 0
      · exact Or.inl hneg
      · rw [(rc1_pos (by omega)).2]; exact hz
    · have := RWl_get _ b (p - b) (rcl y) hv1.1.2.2.2.1 (by rw [List.getElem?_map, y1']; rfl)
      rw [show b + (p - b) = p by omega] at this
      rw [this, y2]
    · have := RWl_get _ b (p - b) y hu1.2.2.1 y1'
      rw [show b + (p - b) = p by omega] at this
      rw [this, y2]
  have rneg : ∀ y : Int, y < 0 → rcl y = y := fun y hy => by unfold rcl; rw [if_pos hy]
  have rpos : ∀ y : Int, 0 ≤ y → 0 ≤ rcl y := fun y hy => by unfold rcl; rw [if_neg (by omega)]; split <;> omega
  -- cells against cells
  have sy : ∀ p, p < b + cl K → 0 ≤ c' p → (∃ s : Nat, s < S ∧ (0 ≤ I u' 16 s ∧ I u' 16 s ≤ 5) ∧ c' p = 8 * s + I u' 16 s ∧ I v' 111 p = s) ∨ (∃ f : Nat, 1 ≤ f ∧ f ≤ F ∧ c' p / 8 = 4096 + f ∧ I v' 111 p = 999 + f ∧ (nb < f → I v' 105 (f - 1 - nb) = c' p % 8)) := fun p hp h0 => by
    by_cases hpb : p < b
    · rw [cO p hpb] at h0 ⊢
      rcases hSY p hpb h0 with ⟨s, s1, s0, s2, s3⟩ | ⟨g, g1, g2, g3, g4⟩
      · exact Or.inl ⟨s, s1, by rw [h16b s s1]; exact s0, by rw [h16b s s1]; exact s2, by rw [(hv2.2.2 p hpb).1]; exact s3⟩
      · exact Or.inr ⟨g, g1, g2, g3, by rw [(hv2.2.2 p hpb).1]; exact g4, fun hg => by rw [h105]; exact hFA p hpb h0 g g3 hg⟩
    · obtain ⟨k1, k2, k3⟩ := cv p (by omega) hp
      rcases k1 with k1 | ⟨s, s1, s2, s3, s4⟩ | ⟨g, g1, g2, g3, g4, g5⟩
      · omega
      · refine Or.inl ⟨s, s1, by rw [h16 s s1]; omega, by rw [h16 s s1]; exact s4, ?_⟩
        rw [k2]; unfold rcl; rw [if_neg (by omega), if_pos (by omega)]; omega
      · refine Or.inr ⟨g + 1, by omega, by omega, by omega, ?_, fun _ => ?_⟩
        · rw [k2]; unfold rcl; rw [if_neg (by omega), if_neg (by omega)]; omega
        · rw [h105, show g + 1 - 1 - nb = g - nb by omega]; exact g5
  have hnew : ∀ p, b ≤ p → p < b + cl K → 0 ≤ c' p → ∀ g : Nat, c' p / 8 = 4096 + g → 1 ≤ g → nb < g := fun p h1 h2 h3 g hg hg1 => by
    rcases (cv p h1 h2).1 with k1 | ⟨s, s1, s2, s3, s4⟩ | ⟨g', g1, g2, g3, g4, g5⟩ <;> omega
  have hRT3 : ∀ p q, p < b + cl K → q < b + cl K → 0 ≤ c' p → 0 ≤ c' q → (I v' 111 p = I v' 111 q ↔ c' p = c' q) := fun p q hp hq p0 q0 => by
    by_cases hpq : p < b ∧ q < b
    · rw [(hv2.2.2 p hpq.1).1, (hv2.2.2 q hpq.2).1, cO p hpq.1, cO q hpq.2]
      rw [cO p hpq.1] at p0
      rw [cO q hpq.2] at q0
      exact h13.2.2 p q hpq.1 hpq.2 p0 q0
    · rcases sy p hp p0 with ⟨s, s1, s0, s2, s3⟩ | ⟨g, g1, g2, g3, g4, g5⟩
      · rcases sy q hq q0 with ⟨s', t1, t0, t2, t3⟩ | ⟨g', k1, k2, k3, k4, k5⟩
        · rw [s3, t3]
          constructor
          · intro h
            have : s = s' := by omega
            subst this; omega
          · intro h; omega
        · constructor <;> intro h <;> exfalso <;> omega
      · rcases sy q hq q0 with ⟨s', t1, t0, t2, t3⟩ | ⟨g', k1, k2, k3, k4, k5⟩
        · constructor <;> intro h <;> exfalso <;> omega
        · constructor
          · intro h
            have : g = g' := by omega
            subst this
            have hgn : nb < g := by
              by_cases hpb : p < b
              · exact hnew q (by omega) hq q0 g k3 g1
              · exact hnew p (by omega) hp p0 g g3 g1
            have e1 := g5 hgn
            have e2 := k5 hgn
            omega
          · intro h; omega
  have hN' : ps' (fi' (C + 1)) = b + cl K := psE
  refine ⟨fi', ps', nv', c', e', ⟨⟨by omega, hu2, hv1.2.1, by rw [fiO 0 (by omega)]; exact h4, by rw [psO 0 (by omega)]; exact h5, fun k hk => ?_, fun k hk => ?_, fun l hl => ?_, fun k l hk hl1 hl2 => ?_, by rw [fiN]; exact hv1.1.2.1, by rw [hN']; exact hv1.1.2.2.1, fun p hp => ?_, ⟨by rw [hN']; omega, fun p hp => ?_, fun p q hp hq => ?_⟩, fun p hp => ?_⟩, fun p hp h0 => ?_, fun k hk q hq1 hq2 hq3 w hw0 hw => ?_, fun q hq h0 g hg hgn => ?_⟩, by rw [fiN, hf], by rw [hN', hf, hb]⟩
  · by_cases hkC : k ≤ C
    · rw [hu5.1 k hkC, fiO k hkC]; exact h6 k hkC
    · have : k = C + 1 := by omega
      subst this
      rw [fiN]; exact hu4
  · by_cases hkC : k < C
    · obtain ⟨k1, k2, k3, k4, k5, k6, k7, k8, k9⟩ := h7 k hkC
      have hfk := hfi.1 C (Nat.le_refl _) (k + 1) (by omega)
      rw [hf] at hfk
      rw [fiO k (by omega), fiO (k + 1) (by omega), nvO k hkC, (hv2.1 k hkC).1, (hv2.1 k hkC).2.1, (hv2.1 k hkC).2.2, hu5.2.1 k hkC, psO _ hfk, psO _ (by omega)]
      exact ⟨k1, k2, k3, k4, k5, k6, k7, k8, k9⟩
    · have : k = C := by omega
      subst this
      rw [fiO k (Nat.le_refl _), fiN, hf, nvN, psO f (Nat.le_refl _), hb, psN, List.take_length]
      exact ⟨hv1.2.2.1, by rw [hv1.2.2.2.1]; omega, by omega, by omega, hu3, hv1.2.2.2.2.1, by omega, by omega, by omega⟩
  · rw [fiN] at hl
    by_cases hlf : l ≤ f
    · rw [hu5.2.2.1 l hlf, psO l hlf]; exact h8 l hlf
    · obtain ⟨i, rfl⟩ : ∃ i, l = f + i := ⟨l - f, by omega⟩
      rw [psN]; exact hu1.2.1 i (by omega)
  · by_cases hkC : k < C
    · have hfk := hfi.1 C (Nat.le_refl _) (k + 1) (by omega)
      rw [hf] at hfk
      rw [fiO k (by omega)] at hl1
      rw [fiO (k + 1) (by omega)] at hl2
      obtain ⟨m1, m2, m3, m4, m5, m6, m7, m8⟩ := h9 k l hkC hl1 hl2
      have hpl := hpsm f (Nat.le_refl _) (l + 1) (by omega)
      rw [hb] at hpl
      rw [psO l (by omega), psO (l + 1) (by omega), (hu5.2.2.2.1 l (by omega)).1, (hu5.2.2.2.1 l (by omega)).2, (hv2.2.1 l (by omega)).1, (hv2.2.1 l (by omega)).2, cO _ (by omega), eO _ (by omega), nvO k hkC]
      exact ⟨m1, m2, m3, m4, m5, m6, m7, fun q q1 q2 q3 => by rw [cO q (by omega)] at q3 ⊢; exact m8 q q1 q2 q3⟩
    · have : k = C := by omega
      subst this
      rw [fiO k (Nat.le_refl _), hf] at hl1
      rw [fiN] at hl2
      obtain ⟨i, rfl⟩ : ∃ i, l = f + i := ⟨l - f, by omega⟩
      have hil : i < K.length := by omega
      obtain ⟨a, ha⟩ : ∃ a, K[i]? = some a := ⟨K[i], List.getElem?_eq_getElem hil⟩
      have hmem : a ∈ K := List.mem_iff_getElem?.2 ⟨i, ha⟩
      obtain ⟨hLG, h01, hCV⟩ := hlit a hmem
      obtain ⟨z, lr, hz1, hz2⟩ := hLG.2
      have hct := cl_take1 ha
      have hcle := cl_take_le K (i + 1)
      have hal1 : 1 ≤ a.2.length := by rw [hz1]; simp
      have hdrop : K.drop i = a :: K.drop (i + 1) := by
        rw [List.drop_eq_getElem_cons hil]
        congr 1
        rw [List.getElem?_eq_getElem hil] at ha; exact Option.some.inj ha
      have hfd : (fl K).drop (cl (K.take i)) = a.2 ++ fl (K.drop (i + 1)) := by rw [fl_drop, hdrop]; rfl
      have hAd : A.drop (cl (K.take i)) = a.2.map arc ++ (fl (K.drop (i + 1))).map arc := by rw [← hA, ← List.map_drop, hfd, List.map_append]
      rw [psN, show f + i + 1 = f + (i + 1) by omega, psN, nvN]
      refine ⟨(hu1.1 i a ha).2, (hv1.1.1 i a ha).2, by rw [(hu1.1 i a ha).1, (hv1.1.1 i a ha).1], by rw [(hu1.1 i a ha).1]; exact h01, ?_, by omega, ?_, fun q q1 q2 q3 => ?_⟩
      · obtain ⟨y, y1, y2⟩ := cG (b + cl (K.take i)) (by omega) (by omega)
        rw [show b + cl (K.take i) - b = cl (K.take i) by omega] at y1
        have y1' := y1
        rw [← hY] at y1'
        obtain ⟨z', sn', z1, z2⟩ := rnc_get (fl K) [] _ y y1'
        have hz' : z' = z := by
          have e1 : (fl K)[cl (K.take i)]? = ((fl K).drop (cl (K.take i)))[0]? := by rw [List.getElem?_drop]; rfl
          rw [e1, hfd, hz1] at z1
          simp at z1; exact z1.symm
        rw [y2, z2, hz']
        unfold rc1; rw [if_pos hz2]; exact hz2
      · rw [eN _ (by omega), show b + cl (K.take i) - b = cl (K.take i) by omega, hAd, tk_pre _ 1 _ hLG.1, List.length_map]; omega
      · obtain ⟨y, y1, y2⟩ := cG q (by omega) (by omega)
        rw [y2] at q3 ⊢
        have y1' := y1
        rw [← hY] at y1'
        exact rnc_nv (fl K) [] y (List.mem_iff_getElem?.2 ⟨_, y1'⟩) q3
  · rw [hN'] at hp
    by_cases hpb : p < b
    · rw [hu5.2.2.2.2 p hpb, cO p hpb]; exact h12 p hpb
    · exact (cv p (by omega) hp).2.2
  · rw [hN'] at hp
    by_cases hpb : p < b
    · have e1 : ar c' p = ar c p := by unfold ar; rw [cO p hpb]
      rw [(hv2.2.2 p hpb).1, (hv2.2.2 p hpb).2.1, (hv2.2.2 p hpb).2.2, e1, eO p hpb, cO p hpb]
      exact h13.2.1 p hpb
    · obtain ⟨y, y1, y2⟩ := cG p (by omega) hp
      obtain ⟨k1, k2, k3⟩ := cv p (by omega) hp
      refine ⟨fun h => by rw [k2, rneg _ h], fun h => by rw [k2]; exact rpos _ h, ?_, ?_⟩
      · rw [ar' p y y2]
        have y1' := y1
        rw [← hY] at y1'
        obtain ⟨z', sn', z1, z2⟩ := rnc_get (fl K) [] _ y y1'
        have := RWl_get _ b (p - b) ((arc z' : Nat) : Int) hv1.1.2.2.2.2.1 (by rw [List.getElem?_map, z1]; rfl)
        rw [show b + (p - b) = p by omega] at this
        rw [this, z2, arc_rc1]
      · rw [eN p (by omega), ← hA]; exact hv1.2.2.2.2.2 p (by omega) hp
  · rw [hN'] at hp hq; exact hRT3 p q hp hq
  · rw [hN'] at hp ⊢
    by_cases hpb : p < b
    · have e1 : ar c' p = ar c p := by unfold ar; rw [cO p hpb]
      obtain ⟨t1, t2, t3, t4, t5⟩ := h14 p hpb
      have hit := it_eq (e := e) (e' := e') (b := b) (N := b + cl K) (by omega) eO (ar c p) (p + 1) t5
      rw [e1, eO p hpb]
      exact ⟨t1, t2, t3, by rw [hit.1]; exact t4, hit.2⟩
    · obtain ⟨y, y1, y2⟩ := cG p (by omega) hp
      have hd := hdA p y (by omega) y1
      obtain ⟨m, hm⟩ := WT_drop A K.length (p - b) hWT
      rw [hd] at hm
      have hle := tk_le (A.drop (p - b)) 1
      rw [List.length_drop] at hle
      have htk : tk (A.drop (p - b)) 1 = 1 + tk (A.drop (p + 1 - b)) (arc y) := by rw [hd]; simp only [tk]; rw [Nat.zero_add]
      have hm1 := hm.1
      have hit := it_tk (e := e') (s := b) (N := b + cl K) (A := A) (by omega) (fun q h1 _ => eN q h1) (arc y) (p + 1) (m - 1 + arc y) (by omega) (by omega) hm.2 (by omega)
      rw [ar' p y y2, eN p (by omega)]
      refine ⟨?_, by omega, by omega, by rw [hit.1, htk]; omega, hit.2⟩
      rw [← y2]
      rcases (cv p (by omega) hp).1 with k1 | ⟨s, s1, s2, s3, s4⟩ | ⟨g, g1, g2, g3, g4, g5⟩
      · unfold arc; rw [if_pos k1]; omega
      · unfold arc; rw [if_neg (by omega)]; omega
      · unfold arc; rw [if_neg (by omega)]; omega
  · rw [hN'] at hp
    rcases sy p hp h0 with h | ⟨g, g1, g2, g3, g4, g5⟩
    · exact Or.inl h
    · exact Or.inr ⟨g, g1, g2, g3, g4⟩
  · by_cases hkC : k < C
    · have hfk := hfi.1 C (Nat.le_refl _) (k + 1) (by omega)
      rw [hf] at hfk
      have hpk := hpsm f (Nat.le_refl _) (fi (k + 1)) hfk
      rw [hb] at hpk
      have hff := (h7 k hkC).2.2.1
      rw [fiO k (by omega), psO _ (by omega)] at hq1
      rw [fiO (k + 1) (by omega), psO _ hfk] at hq2
      rw [cO q (by omega)] at hq3 hw
      obtain ⟨q', w1, w2, w3⟩ := hVO k hkC q hq1 hq2 hq3 w hw0 hw
      exact ⟨q', by rw [fiO k (by omega), psO _ (by omega)]; exact w1, w2, by rw [cO q' (by omega)]; exact w3⟩
    · have : k = C := by omega
      subst this
      rw [fiO k (Nat.le_refl _), hf, psO f (Nat.le_refl _), hb] at hq1 ⊢
      rw [hN'] at hq2
      obtain ⟨y, y1, y2⟩ := cG q hq1 hq2
      rw [y2] at hq3 hw
      have y1' := y1
      rw [← hY] at y1'
      rcases rnc_ord (fl K) [] [] (fun w hw => by simp at hw) (q - b) y y1' hq3 w hw0 hw with h | ⟨t', t1, t2⟩
      · cases h
      · rw [hY] at t2
        exact ⟨b + t', by omega, by omega, cN t' _ t2⟩
  · rw [hN'] at hq
    rcases sy q hq h0 with ⟨s, s1, s0, s2, s3⟩ | ⟨g', g1, g2, g3, g4, g5⟩
    · omega
    · have : g = g' := by omega
      subst this; exact g5 hgn
