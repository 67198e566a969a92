/-! reading: two formulas are joined -/
def wJ (lv w1 w2 : Nat) : Nat := if lv = 0 then 2 * (w1 + w2) else w1 + w2
def gJn (lv g1 g2 : Nat) : Nat := if lv = 0 then g1 + g2 + 6 else g1 + g2 + 2
def hJn (lv h1 h2 : Nat) : Nat := if lv = 0 then max h1 h2 + 2 else max h1 (h2 + 1)
def cJn (lv c1 c2 : Nat) : Nat := if lv = 0 then 2 * (c1 + c2) + 4 else c1 + c2 + 2
def eJn (lv e1 e2 : Nat) : Nat := if lv = 0 then max e1 e2 + 1 else max e1 e2
def kdc (lv : Nat) : Nat := 5 - lv
def nxl (lv : Nat) : Nat := if lv = 1 then 1 else lv + 1
theorem BDf_ch {o lv ch ch' w g h q c e : Nat} (h1 : ch ≤ ch') (hd : BDf o lv ch w g h q c e) : BDf o lv ch' w g h q c e := by
  obtain ⟨x1, x2, x3, x4, x5, x6, x7, x8⟩ := hd
  exact ⟨x1, by omega, by omega, x4, x5, x6, x7, p2_le h1 x8⟩
theorem BDf_lv {o lv lv' ch w g h q c e : Nat} (h1 : lv ≤ lv') (hd : BDf o lv ch w g h q c e) : BDf o lv' ch w g h q c e := by
  obtain ⟨x1, x2, x3, x4, x5, x6, x7, x8⟩ := hd
  exact ⟨x1, x2, x3, x4, by omega, x6, x7, x8⟩
theorem p2_join {a b s c1 c2 : Nat} (lv : Nat) (h1 : c1 + 2 ≤ 2 * 2 ^ a) (h2 : c2 + 2 ≤ 2 * 2 ^ b) (ha : 1 ≤ a) (hb : 1 ≤ b) (hs : a + b < s) : cJn lv c1 c2 + 2 ≤ 2 * 2 ^ s := by
  have h3 := p2_add ha hb
  have h4 : 2 ^ (a + b + 1) ≤ 2 ^ s := Nat.pow_le_pow_right (by decide) hs
  have h5 : 2 ^ (a + b + 1) = 2 * 2 ^ (a + b) := by rw [Nat.pow_succ]; omega
  unfold cJn
  by_cases h0 : lv = 0
  · rw [if_pos h0]; omega
  · rw [if_neg h0]; omega
theorem BDf_join {lv o o' t0 t1 b t2 w1 g1 h1 q1 c1 e1 w2 g2 h2 q2 c2 e2 : Nat} (hlv : lv ≤ 3) (ho : (lv ≤ 1 ∧ o' = o + 1 ∧ o < 30) ∨ (2 ≤ lv ∧ o' = o)) (ho30 : o ≤ 30) (ht0 : t0 < t1) (ht1 : t1 < b) (hb : b < t2) (hl : BDf o (lvB lv) (t1 - t0) w1 g1 h1 q1 c1 e1) (hr : BDf o' (lvB (nxl lv)) (t2 - b) w2 g2 h2 q2 c2 e2) : BDf o (lvB lv) (t2 - t0) (wJ lv w1 w2) (gJn lv g1 g2) (hJn lv h1 h2) (max q1 q2) (cJn lv c1 c2) (eJn lv e1 e2) := by
  obtain ⟨x1, x2, x3, x4, x5, x6, x7, x8⟩ := hl
  obtain ⟨y1, y2, y3, y4, y5, y6, y7, y8⟩ := hr
  have hP : cJn lv c1 c2 + 2 ≤ 2 * 2 ^ (t2 - t0) := p2_join lv x8 y8 (by omega) (by omega) (by omega)
  clear x8 y8
  have hK : (124 - 4 * o') * w2 ≤ (124 - 4 * o) * w2 := Nat.mul_le_mul_right _ (by omega)
  have hKl : (124 - 4 * o) * w1 + (124 - 4 * o) * w2 = (124 - 4 * o) * (w1 + w2) := (Nat.mul_add _ _ _).symm
  have hmax : 2 ^ max e1 e2 ≤ w1 + w2 := by
    by_cases h : e1 ≤ e2
    · rw [Nat.max_eq_right h]; omega
    · rw [Nat.max_eq_left (by omega)]; omega
  by_cases h0 : lv = 0
  · subst h0
    have hb2 : lvB (nxl 0) = 2 := rfl
    have hb0 : lvB 0 = 2 := rfl
    rw [hb2] at y5
    rw [hb0] at x5 ⊢
    have ee : 2 ^ (max e1 e2 + 1) = 2 * 2 ^ max e1 e2 := by rw [Nat.pow_succ]; omega
    have hc2 : (124 - 4 * o) * (2 * (w1 + w2)) = 2 * ((124 - 4 * o) * (w1 + w2)) := by rw [← Nat.mul_assoc, Nat.mul_comm (124 - 4 * o) 2, Nat.mul_assoc]
    unfold cJn at hP
    rw [if_pos rfl] at hP
    unfold BDf wJ gJn hJn cJn eJn
    rw [if_pos rfl, if_pos rfl, if_pos rfl, if_pos rfl, if_pos rfl, ee, hc2]
    generalize (124 - 4 * o') * w2 = A at *
    generalize (124 - 4 * o) * w2 = A2 at *
    generalize (124 - 4 * o) * w1 = A1 at *
    generalize (124 - 4 * o) * (w1 + w2) = A3 at *
    generalize 2 ^ max e1 e2 = E at *
    refine ⟨by omega, ?_, ?_, by omega, ?_, ?_, by omega, hP⟩ <;> clear hP <;> omega
  · have hb3 : lvB (nxl lv) + 1 ≤ lvB lv ∨ (lv = 1 ∧ lvB (nxl lv) = 2 ∧ lvB lv = 2) := by
      have : lv = 1 ∨ lv = 2 ∨ lv = 3 := by omega
      rcases this with h | h | h <;> subst h <;> decide
    unfold cJn at hP
    rw [if_neg h0] at hP
    unfold BDf wJ gJn hJn cJn eJn
    rw [if_neg h0, if_neg h0, if_neg h0, if_neg h0, if_neg h0]
    generalize (124 - 4 * o') * w2 = A at *
    generalize (124 - 4 * o) * w2 = A2 at *
    generalize (124 - 4 * o) * w1 = A1 at *
    generalize (124 - 4 * o) * (w1 + w2) = A3 at *
    generalize 2 ^ max e1 e2 = E at *
    refine ⟨by omega, ?_, ?_, by omega, ?_, ?_, by omega, hP⟩ <;> clear hP <;> omega
theorem joins_spec (kd : Nat) (hkd : kd < 100) (v : St) (K jr jl : Nat) (vs : List Nat) (hK : K < 1600) (h28 : I v 100 28 = K) (hV : VS v (jr :: jl :: vs)) (hvs : vs.length < 2000) (hjr : jr < 2000) (hjl : jl < 2000) : ∃ v', fX12_joins (zI kd) v = some v' ∧ I v' 100 28 = ((K + 1 : Nat) : Int) ∧ I v' 114 K = kd ∧ I v' 115 K = jl ∧ I v' 116 K = jr ∧ (∀ k i, i ≠ K → (k = 114 ∨ k = 115 ∨ k = 116) → I v' k i = I v k i) ∧ VS v' (K :: vs) ∧ Fr (fun k i => Qvs k i || k == 114 || k == 115 || k == 116 || (k == 100 && i == 28)) v v' := by
  obtain ⟨v1, a1, a2, a3⟩ := got_spec v (jl :: vs) jr (by simp only [List.length_cons]; omega) hV
  obtain ⟨v2, b1, b2', b3⟩ := got_spec v1 vs jl (by omega) a2
  have k28 : I v2 100 28 = K := by rw [Fr_I b3 rfl, Fr_I a3 rfl]; exact h28
  obtain ⟨v3, m1, m2, m3, m4, m5, m6, m7⟩ := rnode_spec v2 K kd jl jr hK k28 (by omega) (by omega) (by omega) (by omega) (by omega) (by omega)
  obtain ⟨v4, y1, y2, y3⟩ := give_spec v3 vs K (by omega) (VS_fr m7 (fun _ => by simp) (by simp) b2') (by omega)
  refine ⟨v4, ?_, by rw [Fr_I y3 rfl]; exact m2, by rw [Fr_I y3 (by simp [Qvs])]; exact m3, by rw [Fr_I y3 (by simp [Qvs])]; exact m4, by rw [Fr_I y3 (by simp [Qvs])]; exact m5, fun k i hi hk => ?_, y2, Fr_tr (Fr_up2 (fun k i hk => by simp at hk; simp [Qvs, hk]) a3) (Fr_tr (Fr_up2 (fun k i hk => by simp at hk; simp [Qvs, hk]) b3) (Fr_tr (Fr_up2 (fun k i hk => by simp at hk; simp; omega) m7) (Fr_up2 (fun k i hk => by simp [hk]) y3)))⟩
  · unfold fX12_joins
    rw [a1, b2_s, b1, b2_s, m1, b2_s, y1, bd_s]
  · have hk100 := k114 hk
    rw [Fr_I y3 (by simp [Qvs, hk100]), m6 k i hi hk, Fr_I b3 (by simp [hk100]), Fr_I a3 (by simp [hk100])]
theorem sgn_lt (lv : Nat) : sgnm lv < 100 := by
  unfold sgnm
  by_cases h0 : lv = 0
  · rw [if_pos h0]; decide
  · rw [if_neg h0]
    by_cases h1 : lv = 1
    · rw [if_pos h1]; decide
    · rw [if_neg h1]
      by_cases h2 : lv = 2
      · rw [if_pos h2]; decide
      · rw [if_neg h2]
        by_cases h3 : lv = 3
        · rw [if_pos h3]; decide
        · rw [if_neg h3]; decide
def rjn (lv : Nat) : Nat := 3 * lv + 3
/-- the task that joins -/
theorem rt_join (lv : Nat) (hlv : lv ≤ 3) (b : Int32) (v : St) : fX12_readTask (zI ((rjn lv : Nat) : Int)) b v = if lv ≤ 1 then (lt (uI v 100 37 ((gI v 100 37) - 1)) fun u14 => bd (fX12_joins (zI (sgnm lv)) u14) fun u15 => if lv = 1 then some u15 else bd (fX12_push (zI ((3 * lv + 2 : Nat) : Int)) (zI 0) u15) fun u16 => some u16) else bd (fX12_joins (zI (sgnm lv)) v) fun u15 => bd (fX12_push (zI ((3 * lv + 2 : Nat) : Int)) (zI 0) u15) fun u16 => some u16 := by
  have : lv = 0 ∨ lv = 1 ∨ lv = 2 ∨ lv = 3 := by omega
  rcases this with h | h | h | h <;> subst h
  · exact rt3 b v
  · exact rt6 b v
  · exact rt9 b v
  · exact rt12 b v
theorem cw_add (w1 w2 : Nat) : (if cw w1 + cw w2 < 1000000 then cw w1 + cw w2 else 1000000) = cw (w1 + w2) := by
  unfold cw
  by_cases x1 : w1 < 1000000
  · rw [if_pos x1]
    by_cases x2 : w2 < 1000000
    · rw [if_pos x2]
      by_cases x3 : w1 + w2 < 1000000
      · rw [if_pos (by omega), if_pos x3]; omega
      · rw [if_neg (by omega), if_neg x3]
    · rw [if_neg x2, if_neg (by omega), if_neg (by omega)]
  · rw [if_neg x1]
    by_cases x2 : w2 < 1000000
    · rw [if_pos x2, if_neg (by omega), if_neg (by omega)]
    · rw [if_neg x2, if_neg (by omega), if_neg (by omega)]
theorem cw_two (w1 w2 : Nat) : (if 2 * (cw w1 + cw w2) < 1000000 then 2 * (cw w1 + cw w2) else 1000000) = cw (2 * (w1 + w2)) := by
  unfold cw
  by_cases x1 : w1 < 1000000
  · rw [if_pos x1]
    by_cases x2 : w2 < 1000000
    · rw [if_pos x2]
      by_cases x3 : 2 * (w1 + w2) < 1000000
      · rw [if_pos (by omega), if_pos x3]; omega
      · rw [if_neg (by omega), if_neg x3]
    · rw [if_neg x2, if_neg (by omega), if_neg (by omega)]
  · rw [if_neg x1]
    by_cases x2 : w2 < 1000000
    · rw [if_pos x2, if_neg (by omega), if_neg (by omega)]
    · rw [if_neg x2, if_neg (by omega), if_neg (by omega)]
theorem cnode_join (lv : Nat) (hlv : lv ≤ 3) (ua : St) (Kc i1 i2 w1 w2 : Nat) (hK : Kc < 1501) (k4 : I ua 3 4 = Kc) (hi1 : i1 < 1501) (hi2 : i2 < 1501) (hw1 : I ua 36 i1 = cw w1) (hw2 : I ua 36 i2 = cw w2) : ∃ u', fX7_add (zI ((kdc lv : Nat) : Int)) (zI i1) (zI i2) ua = some (zI Kc, u') ∧ I u' 3 4 = ((Kc + 1 : Nat) : Int) ∧ I u' 33 Kc = ((kdc lv : Nat) : Int) ∧ I u' 34 Kc = i1 ∧ I u' 35 Kc = i2 ∧ I u' 36 Kc = cw (wJ lv w1 w2) ∧ (∀ c i, i ≠ Kc → (c = 33 ∨ c = 34 ∨ c = 35 ∨ c = 36) → I u' c i = I ua c i) ∧ Fr Pnd ua u' := by
  have hc1 := cw_rng w1
  have hc2 := cw_rng w2
  by_cases h0 : lv = 0
  · subst h0
    obtain ⟨u', m1, m2, m3, m4, m5, m6, m7, m8⟩ := cnode_gen ua Kc 5 i1 i2 (2 * (cw w1 + cw w2)) hK k4 (by decide) (by decide) (by omega) (by omega) (by omega) (by omega) (by omega) (by omega) (fun w hw => wgh_iff ua i1 i2 _ _ hi1 hi2 hw1 hw2 w hw)
    exact ⟨u', m1, m2, m3, m4, m5, by rw [m6]; exact cw_two w1 w2, m7, m8⟩
  · have hkd : kdc lv = 2 ∨ kdc lv = 3 ∨ kdc lv = 4 := by unfold kdc; omega
    obtain ⟨u', m1, m2, m3, m4, m5, m6, m7, m8⟩ := cnode_gen ua Kc ((kdc lv : Nat) : Int) i1 i2 (cw w1 + cw w2) hK k4 (by omega) (by omega) (by omega) (by omega) (by omega) (by omega) (by omega) (by omega) (fun w hw => wgh_bin ua (kdc lv) i1 i2 _ _ hkd hi1 hi2 hw1 hw2 w hw)
    refine ⟨u', m1, m2, m3, m4, m5, ?_, m7, m8⟩
    rw [m6]; unfold wJ; rw [if_neg h0]; exact cw_add w1 w2
theorem max_le3 {a b c : Nat} (h1 : a ≤ c) (h2 : b ≤ c) : max a b ≤ c := Nat.max_le.2 ⟨h1, h2⟩
def Qj : Nat → Nat → Bool := fun k i => Qts k i || Qvs k i || k == 114 || k == 115 || k == 116 || (k == 100 && (i == 28 || i == 37))
theorem qj38 : ∀ k i, (k == 100 && i == 38) = true → Qj k i = true := by intro k i hk; simp at hk; simp [Qj, Qts, hk]
theorem qj37 : ∀ k i, (k == 100 && i == 37) = true → Qj k i = true := by intro k i hk; simp at hk; simp [Qj, hk]
theorem qjm : ∀ k i, (Qvs k i || k == 114 || k == 115 || k == 116 || (k == 100 && i == 28)) = true → Qj k i = true := by intro k i hk; simp [Qvs] at hk; simp [Qj, Qvs]; omega
theorem qjt : ∀ k i, Qts k i = true → Qj k i = true := by intro k i hk; simp [Qj, hk]
theorem Qj_QAf : ∀ k i, Qj k i = true → QAf k i = true := by intro k i hk; simp [Qj, Qts, Qvs] at hk; simp [QAf, QA, QT, Qts, Qvs]; omega
theorem Qj_no : ∀ k i, ((k = 100 ∧ (i = 2 ∨ i = 3 ∨ i = 21 ∨ i = 23 ∨ i = 24 ∨ i = 25 ∨ i = 26 ∨ i = 27 ∨ i = 33 ∨ i = 35 ∨ i = 43)) ∨ k = 101 ∨ k = 102 ∨ k = 103 ∨ k = 104 ∨ k = 117 ∨ k = 118 ∨ k = 119) → Qj k i = false := by intro k i hk; simp [Qj, Qts, Qvs]; omega
theorem Qj_PZ : ∀ k i, (k = 102 ∨ k = 118 ∨ k = 119) → Qj k i = false := by intro k i hk; exact Qj_no k i (by omega)
theorem Qj_PF : ∀ k i, ((k = 100 ∧ (i = 2 ∨ i = 3 ∨ i = 21 ∨ i = 23 ∨ i = 24 ∨ i = 25 ∨ i = 26 ∨ i = 27 ∨ i = 33 ∨ i = 35 ∨ i = 43)) ∨ k = 101 ∨ k = 102 ∨ k = 103 ∨ k = 104 ∨ k = 119) → Qj k i = false := by intro k i hk; exact Qj_no k i (by omega)
theorem Pn1_PZ : ∀ k i, (k = 15 ∨ k = 16 ∨ k = 17 ∨ k = 37 ∨ k = 38) → Pn1 k i = false := by intro k i hk; exact Pn1_no k i (by omega)
theorem Pn1_PF : ∀ k i, (k = 1 ∨ k = 14 ∨ (k = 2 ∧ i = 3) ∨ k = 15 ∨ k = 16 ∨ k = 17 ∨ (k = 3 ∧ (i = 6 ∨ i = 10 ∨ i = 12)) ∨ k = 38 ∨ k = 39 ∨ k = 40 ∨ k = 41 ∨ (k = 4 ∧ i = 4)) → Pn1 k i = false := by intro k i hk; exact Pn1_no k i (by omega)
theorem qts114 {k i : Nat} (hk : k = 114 ∨ k = 115 ∨ k = 116) : Qts k i = false := by simp [Qts]; omega
theorem zsub1 {x o : Int} (h : x = o + 1) : zI x - 1 = zI o := by rw [show (1 : Int32) = zI 1 from rfl, z_sub, h]; congr 1; omega
/-- both sides join -/
theorem mk_join {n o o' lv : Nat} (hlv : lv ≤ 3) (ho : (lv ≤ 1 ∧ o' = o + 1 ∧ o < 30) ∨ (2 ≤ lv ∧ o' = o)) {u v : St} {t S R NC NR : Nat} {B : Nat → Nat} {F : List Nat} {Kc Kr lo i1 i2 j1 j2 d1 d2 w1 w2 g1 g2 h1 h2 q1 q2 c1 c2 : Nat} {o1 o2 : List Nat} {l : List (Int × Int)} {vs : List Nat} (d3 : PFo u v n t S R NC NR o' B F Kc Kr) (d4 : TS v ((((rjn lv : Nat) : Int), 0) :: l)) (d5 : VS v (j2 :: j1 :: vs)) (dl : IS u v S R NC NR Kc lo Kr d1 i1 j1 w1 g1 h1 q1 c1 o1) (dr' : IS u v S R NC NR Kc lo Kr d2 i2 j2 w2 g2 h2 q2 c2 o2) (hK : Kc + 1 ≤ t) (hK2 : Kr + 1 ≤ t) (hlo : lo ≤ Kr) (hl : l.length < 1000) (hvs : vs.length < 1000) : ∃ u' v', fX7_add (zI ((kdc lv : Nat) : Int)) (zI i1) (zI i2) (if lv ≤ 1 then uI u 4 3 (zI o) else u) = some (zI Kc, u') ∧ (lv ≤ 1 → gI u 4 3 - 1 = zI o) ∧ (∀ G, fX12_formula_L0 (G + 1) 0 v = fX12_formula_L0 G 0 v') ∧ PFo u' v' n t S R NC NR o B F (Kc + 1) (Kr + 1) ∧ TS v' (if lv = 1 then l else (((3 * lv + 2 : Nat) : Int), 0) :: l) ∧ VS v' (Kr :: vs) ∧ PY u u' v v' S R NC NR Kc Kr ∧ (Fr Pn1 u u' ∧ Fr Qj v v') ∧ IS u' v' S R NC NR (Kc + 1) lo (Kr + 1) (max d1 d2 + 1) Kc Kr (wJ lv w1 w2) (gJn lv g1 g2) (hJn lv h1 h2) (max q1 q2) (cJn lv c1 c2) (o1 ++ o2) := by
  obtain ⟨e3, e4, e5, e6, e7, hn, e8, _, _, _⟩ := PF_bits d3
  obtain ⟨hr1, hj1a, hj1b, hw1⟩ := IS_bits dl
  obtain ⟨hr2, hj2a, hj2b, hw2⟩ := IS_bits dr'
  have h34 := d3.2.1
  have h28 := d3.2.2.1
  have hr1' : i1 < 1501 := by clear ho; omega
  have hr2' : i2 < 1501 := by clear ho; omega
  have hKK : Kc < 1501 := by clear ho; omega
  have hKK2 : Kr < 1600 := by clear ho; omega
  have hjj1 : j1 < 2000 := by clear ho; omega
  have hjj2 : j2 < 2000 := by clear ho; omega
  have ho30 : o ≤ 30 := by rcases ho with hh | hh <;> omega
  have hol : lv ≤ 1 → ((o' : Nat) : Int) = (o : Int) + 1 := fun hh => by rcases ho with h | h <;> omega
  have hor : ¬ lv ≤ 1 → ((o' : Nat) : Int) = (o : Int) := fun hh => by rcases ho with h | h <;> omega
  clear ho
  have zo1 : -2147483648 ≤ (o : Int) := by clear hol hor; omega
  have zo2 : (o : Int) < 2147483648 := by clear hol hor; omega
  -- the class
  obtain ⟨ua, hua⟩ : ∃ ua, (if lv ≤ 1 then uI u 4 3 (zI o) else u) = ua := ⟨_, rfl⟩
  have Fa : Fr (fun k i => k == 4 && i == 3) u ua := by
    rw [← hua]; by_cases hh : lv ≤ 1
    · rw [if_pos hh]; exact Fr_up rfl (Fr_rfl _ _)
    · rw [if_neg hh]; exact Fr_rfl _ _
  have z43 : I ua 4 3 = o := by
    rw [← hua]; by_cases hh : lv ≤ 1
    · rw [if_pos hh, I_uI1 _ _ _ _ zo1 zo2]
    · rw [if_neg hh, e5]; exact hor hh
  have a36 : ∀ i, I ua 36 i = I u 36 i := fun i => Fr_I Fa rfl
  obtain ⟨u5, n1, n2, n3, n4, n5, n6, n7, n8⟩ := cnode_join lv hlv ua Kc i1 i2 w1 w2 hKK (by rw [Fr_I Fa rfl]; exact h34) hr1' hr2' (by rw [a36]; exact hw1) (by rw [a36]; exact hw2)
  have Fu : Fr Pn1 u u5 := Fr_tr (Fr_up2 (fun k i hk => by simp at hk; simp [Pn1, hk]) Fa) (Fr_up2 (fun k i hk => by simp [Pn1, hk]) n8)
  -- the reference
  obtain ⟨v5, f1, f2, f3⟩ := fm_pop ((rjn lv : Nat) : Int) 0 d4 (Nat.lt_trans hl (by decide)) e4
  obtain ⟨va, hva⟩ : ∃ va, (if lv ≤ 1 then uI v5 100 37 (zI o) else v5) = va := ⟨_, rfl⟩
  have Fva : Fr (fun k i => k == 100 && i == 37) v5 va := by
    rw [← hva]; by_cases hh : lv ≤ 1
    · rw [if_pos hh]; exact Fr_up rfl (Fr_rfl _ _)
    · rw [if_neg hh]; exact Fr_rfl _ _
  have z37 : I va 100 37 = o := by
    rw [← hva]; by_cases hh : lv ≤ 1
    · rw [if_pos hh, I_uI1 _ _ _ _ zo1 zo2]
    · rw [if_neg hh, Fr_I f3 rfl, e6]; exact hor hh
  have hVa : VS va (j2 :: j1 :: vs) := VS_fr Fva (fun _ => by simp) (by simp) (VS_fr f3 (fun _ => by simp) (by simp) d5)
  have hsg : sgnm lv < 100 := sgn_lt lv
  obtain ⟨v7, m1, m2, m3, m4, m5, m6, m7, m8⟩ := joins_spec (sgnm lv) hsg va Kr j2 j1 vs hKK2 (by rw [Fr_I Fva rfl, Fr_I f3 rfl]; exact h28) hVa (Nat.lt_trans hvs (by decide)) hjj2 hjj1
  have hT7 : TS v7 l := TS_fr m8 (fun _ => by simp [Qvs]) (fun _ => by simp [Qvs]) (by simp [Qvs]) (TS_fr Fva (fun _ => by simp) (fun _ => by simp) (by simp) f2)
  obtain ⟨v9, y1, y2, y3⟩ : ∃ v9, (if lv = 1 then some v7 else bd (fX12_push (zI ((3 * lv + 2 : Nat) : Int)) (zI 0) v7) fun u16 => some u16) = some v9 ∧ TS v9 (if lv = 1 then l else (((3 * lv + 2 : Nat) : Int), 0) :: l) ∧ Fr Qts v7 v9 := by
    by_cases hh : lv = 1
    · rw [if_pos hh, if_pos hh]; exact ⟨v7, rfl, hT7, Fr_rfl _ _⟩
    · obtain ⟨v9, q1, q2, q3⟩ := rpush_spec v7 l ((3 * lv + 2 : Nat) : Int) 0 (Nat.lt_trans hl (by decide)) hT7 (by clear hol hor; omega) (by clear hol hor; omega) (by decide) (by decide)
      rw [if_neg hh, if_neg hh, q1]; exact ⟨v9, rfl, q2, q3⟩
  have Fv : Fr Qj v v9 := Fr_tr (Fr_up2 qj38 f3) (Fr_tr (Fr_up2 qj37 Fva) (Fr_tr (Fr_up2 qjm m8) (Fr_up2 qjt y3)))
  have hZ : PZ u u5 v v9 S R NC NR := PZ_fr Fu Fv Pn1_PZ Qj_PZ
  have o115 : ∀ k i, i ≠ Kr → (k = 114 ∨ k = 115 ∨ k = 116) → I v9 k i = I v k i := fun k i hi hk => by
    have hk100 := k114 hk
    rw [Fr_I y3 (qts114 hk), m6 k i hi hk, Fr_I Fva (by simp [hk100]), Fr_I f3 (by simp [hk100])]
  have o117 : ∀ i, J v9 117 i = J v 117 i := fun i => Fr_J Fv (Qj_no 117 i (by simp))
  have o33 : ∀ k i, i ≠ Kc → (k = 33 ∨ k = 34 ∨ k = 35 ∨ k = 36) → I u5 k i = I u k i := fun k i hi hk => by rw [n7 k i hi hk, Fr_I Fa (by have := k33 hk; simp [this])]
  have hPF9 : PFo u5 v9 n t S R NC NR o B F (Kc + 1) (Kr + 1) := PF_gen Fu Fv Pn1_PF Qj_PF (by rw [Fr_I n8 rfl]; exact z43) (by rw [Fr_I y3 rfl, Fr_I m8 (by simp [Qvs])]; exact z37) ho30 n2 (by rw [Fr_I y3 rfl]; exact m2) hK hK2 d3
  have isl := IS_le (Nat.le_max_left d1 d2) (IS_mono (Nat.le_refl _) (Nat.le_refl _) (Nat.le_refl _) (Nat.le_refl _) (Nat.le_succ _) (Nat.le_refl _) (Nat.le_succ _) hZ (fun k i hi hk => o33 k i (Nat.ne_of_lt hi) hk) (fun k i _ hi hk => o115 k i (Nat.ne_of_lt hi) hk) (fun i _ _ => o117 i) d1 _ _ _ _ _ _ _ _ dl)
  have isr := IS_le (Nat.le_max_right d1 d2) (IS_mono (Nat.le_refl _) (Nat.le_refl _) (Nat.le_refl _) (Nat.le_refl _) (Nat.le_succ _) (Nat.le_refl _) (Nat.le_succ _) hZ (fun k i hi hk => o33 k i (Nat.ne_of_lt hi) hk) (fun k i _ hi hk => o115 k i (Nat.ne_of_lt hi) hk) (fun i _ _ => o117 i) d2 _ _ _ _ _ _ _ _ dr')
  have r114 : I v9 114 Kr = sgnm lv := by rw [Fr_I y3 (by simp [Qts])]; exact m3
  have r115 : I v9 115 Kr = j1 := by rw [Fr_I y3 (by simp [Qts])]; exact m4
  have r116 : I v9 116 Kr = j2 := by rw [Fr_I y3 (by simp [Qts])]; exact m5
  refine ⟨u5, v9, by rw [hua]; exact n1, fun hh => ?_, fun G => ?_, hPF9, y2, VS_fr y3 (fun _ => by simp [Qts]) (by simp [Qts]) m7, ⟨hZ, fun k i hi hk => o33 k i (Nat.ne_of_lt hi) hk, fun k j hj hk => o115 k j (Nat.ne_of_lt hj) hk, fun j _ => o117 j, Fr_up2 Pn1_PAf Fu, Fr_up2 Qj_QAf Fv⟩, ⟨Fu, Fv⟩, ⟨Nat.lt_succ_self _, hlo, Nat.lt_succ_self _, n6, ?_⟩⟩
  · rw [gI_z, e5]; exact zsub1 (hol hh)
  · rw [f1, rt_join lv hlv]
    by_cases hh : lv ≤ 1
    · rw [if_pos hh] at hva ⊢
      have z2 : gI v5 100 37 - 1 = zI o := by rw [gI_z, Fr_I f3 rfl, e6]; exact zsub1 (hol hh)
      rw [z2, lt_e, hva, m1, bd_s, y1, bd_s]
    · rw [if_neg hh] at hva ⊢
      have hl1 : ¬ lv = 1 := fun e => hh (by rw [e]; exact Nat.le_refl 1)
      rw [if_neg hl1] at y1
      rw [hva, m1, bd_s, y1, bd_s]
  · by_cases h0 : lv = 0
    · subst h0
      exact Or.inr (Or.inr (Or.inr (Or.inl ⟨i1, i2, j1, j2, w1, w2, g1, g2, h1, h2, q1, q2, c1, c2, o1, o2, n3, r114, n4, n5, r115, r116, rfl, rfl, rfl, rfl, rfl, rfl, isl, isr⟩)))
    · refine Or.inr (Or.inr (Or.inl ⟨kdc lv, i1, i2, j1, j2, w1, w2, g1, g2, h1, h2, q1, q2, c1, c2, o1, o2, by clear hol hor; unfold kdc; omega, n3, ?_, n4, n5, r115, r116, by unfold wJ; rw [if_neg h0], by unfold gJn; rw [if_neg h0], by unfold hJn; rw [if_neg h0], rfl, by unfold cJn; rw [if_neg h0], rfl, isl, isr⟩))
      rw [r114]
      have : lv = 1 ∨ lv = 2 ∨ lv = 3 := by clear hol hor; omega
      rcases this with h | h | h <;> subst h <;> rfl
