/-! advancing: the class's steps -/
theorem q0 : zI 0 = 0 := rfl
theorem q1 : zI 1 = 1 := rfl
theorem q2 : zI 2 = 2 := rfl
theorem nc_one (u : St) (i : Nat) (hi : i < 151) (ht : I u 9 9 = i) (hk : I u 65 i = 1) : fX3_nextChoice u = fX3_nextChoice_j59 u := by
  unfold fX3_nextChoice
  rw [gI_z, ht, ld_z _ _ _ _ (by omega) (by omega), bd_s, Int.toNat_natCast, hk, if_neg (by decide), bd_s, if_neg (by decide)]
theorem nl_open (u : St) (i m : Nat) (hi : i < 151) (ht : I u 9 9 = i) (h67 : I u 67 i = (m : Int) - 1) : fX3_nextLiteral u = fX3_nextLiteral_L0 FU 0 (zI m) u := by
  unfold fX3_nextLiteral
  rw [gI_z, ht, ld_z _ _ _ _ (by omega) (by omega), bd_s, Int.toNat_natCast, h67, lt_e, show (1 : Int32) = zI 1 from rfl, z_add, show (m : Int) - 1 + 1 = m by omega]
theorem j59_near (u u4 : St) (i g : Nat) (d lim r : Int) (hi : i < 151) (ht : I u 9 9 = i) (h66 : I u 66 i = g) (hg : g < 150) (h60 : I u 60 g = d) (h14 : I u 9 14 = lim) (hd0 : 0 ≤ d) (hd1 : d < lim) (hl : lim ≤ 20) (hr : r = 0 ∨ r = 1) (hnl : fX3_nextLiteral u = some (zI r, u4)) : fX3_nextChoice_j59 u = some (zI r, u4) := by
  unfold fX3_nextChoice_j59
  rw [gI_z, ht, ld_z _ _ _ _ (by omega) (by omega), bd_s, Int.toNat_natCast, h66, ld_z _ _ _ _ (by omega) (by omega), bd_s, Int.toNat_natCast, h60, gI_z, h14, if_pos (by rw [z_lt (by omega) (by omega) (by omega) (by omega)]; omega), hnl, b2_s, zb_z hr, bd_s]
theorem j59_far (u u4 : St) (i g : Nat) (d lim r ct : Int) (hi : i < 151) (ht : I u 9 9 = i) (h66 : I u 66 i = g) (hg : g < 150) (h60 : I u 60 g = d) (h14 : I u 9 14 = lim) (hd0 : lim ≤ d) (hd1 : d < 1000) (hl : 0 ≤ lim) (hr : r = 0 ∨ r = 1) (h12 : I u 9 12 = ct) (hct : ct = 0 ∨ ct = 1) (hnl : fX3_nextLiteral u = some (zI r, u4)) : fX3_nextChoice_j59 u = some (0, uI u4 9 12 (zI (if ct = 1 ∨ r = 1 then 1 else 0))) := by
  unfold fX3_nextChoice_j59
  rw [gI_z, ht, ld_z _ _ _ _ (by omega) (by omega), bd_s, Int.toNat_natCast, h66, ld_z _ _ _ _ (by omega) (by omega), bd_s, Int.toNat_natCast, h60, gI_z, h14, if_neg (by rw [z_lt (by omega) (by omega) (by omega) (by omega)]; omega), hnl, b2_s, gI_z, h12, z_or01 hct hr, zb_z (by by_cases h : ct = 1 ∨ r = 1 <;> simp [h]), bd_s, lt_e]
theorem av_none (G : Nat) (u u2 : St) (x1 : Int) (h0 : 0 ≤ x1) (h1 : x1 < 1000000) (hn : fX3_nextChoice u = some (0, u2)) : fX3_advance_L0 (G + 1) 0 (zI x1) 0 u = some (3, u2) := by
  have st : fX3_advance_L0 (G + 1) 0 (zI x1) 0 u = fX3_advance_L0_0 (fX3_advance_L0 G) (zI x1) u := rfl
  rw [st]
  unfold fX3_advance_L0_0
  rw [if_neg (by rw [z_lit, z_le (by decide) (by decide) (by omega) (by omega)]; omega), hn, b2_s, if_pos rfl]
theorem av_spent (G : Nat) (u u2 : St) (x1 s m : Int) (h0 : 0 ≤ x1) (h1 : x1 < 1000000) (hn : fX3_nextChoice u = some (1, u2)) (h13 : I u2 9 13 = s) (h11 : I u2 9 11 = m) (hs : m ≤ s) : fX3_advance_L0 (G + 1) 0 (zI x1) 0 u = some (zI (-6), u2) := by
  have b1 := I_hi u2 9 13
  have b2 := I_lo u2 9 11
  rw [h13] at b1
  rw [h11] at b2
  have st : fX3_advance_L0 (G + 1) 0 (zI x1) 0 u = fX3_advance_L0_0 (fX3_advance_L0 G) (zI x1) u := rfl
  rw [st]
  unfold fX3_advance_L0_0
  rw [if_neg (by rw [z_lit, z_le (by decide) (by decide) (by omega) (by omega)]; omega), hn, b2_s, if_neg (by decide), gI_z, gI_z, h13, h11, if_neg (by rw [z_lt (by omega) (by omega) (by omega) (by omega)]; omega)]
  rfl
/-- the frame's kind 1: the goal with a literal of the store -/
theorem av_ext (G : Nat) (u u2 : St) (i g m : Nat) (x1 s mst V : Int) (r : Int32) (u14 : St) (h0 : 0 ≤ x1) (h1 : x1 < 1000000) (hn : fX3_nextChoice u = some (1, u2)) (h13 : I u2 9 13 = s) (h11 : I u2 9 11 = mst) (hs : s < mst) (hs0 : 0 ≤ s) (hm : mst ≤ 20000) (hi : i < 151) (ht : I u2 9 9 = i) (hk : I u2 65 i = 1) (h66 : I u2 66 i = g) (h67 : I u2 67 i = m) (h77 : I u2 7 7 = V) (hu : fX8_unify (zI g) (zI m) (zI V) (uI u2 9 13 (zI (s + 1))) = some (r, u14)) : fX3_advance_L0 (G + 1) 0 (zI x1) 0 u = fX3_advance_L0 G 1 (zI x1) r u14 := by
  have st : fX3_advance_L0 (G + 1) 0 (zI x1) 0 u = fX3_advance_L0_0 (fX3_advance_L0 G) (zI x1) u := rfl
  have hF : Fr (fun k i => k == 9 && i == 13) u2 (uI u2 9 13 (zI (s + 1))) := Fr_up rfl (Fr_rfl _ _)
  rw [st]
  generalize fX3_advance_L0 G = R
  unfold fX3_advance_L0_0
  rw [if_neg (by rw [z_lit, z_le (by decide) (by decide) (by omega) (by omega)]; omega), hn, b2_s, if_neg (by decide), gI_z u2 9 13, gI_z u2 9 11, h13, h11, if_pos (by rw [z_lt (by omega) (by omega) (by omega) (by omega)]; omega), show (1 : Int32) = zI 1 from rfl, z_add, lt_e, lt_e, gI_z _ 9 9, Fr_I hF (show (fun k i => k == 9 && i == 13) 9 9 = false from rfl), ht, ld_z _ _ _ _ (by omega) (by omega), bd_s, Int.toNat_natCast, Fr_I hF (show (fun k i => k == 9 && i == 13) 65 i = false from rfl), hk, if_neg (by decide), bd_s, if_pos rfl, ld_z _ _ _ _ (by omega) (by omega), bd_s, ld_z _ _ _ _ (by omega) (by omega), bd_s, Int.toNat_natCast, Fr_I hF (show (fun k i => k == 9 && i == 13) 66 i = false from rfl), Fr_I hF (show (fun k i => k == 9 && i == 13) 67 i = false from rfl), h66, h67, gI_z _ 7 7, Fr_I hF (show (fun k i => k == 9 && i == 13) 7 7 = false from rfl), h77, hu, b2_s]
/-- the frame's kind 2: the goal with a literal of its path -/
theorem av_red (G : Nat) (u u2 : St) (i g p m : Nat) (x1 s mst b : Int) (r : Int32) (u14 : St) (h0 : 0 ≤ x1) (h1 : x1 < 1000000) (hn : fX3_nextChoice u = some (1, u2)) (h13 : I u2 9 13 = s) (h11 : I u2 9 11 = mst) (hs : s < mst) (hs0 : 0 ≤ s) (hm : mst ≤ 20000) (hi : i < 151) (ht : I u2 9 9 = i) (hk : I u2 65 i = 2) (h66 : I u2 66 i = g) (h67 : I u2 67 i = p) (hp : p < 150) (h57 : I u2 57 p = m) (h58 : I u2 58 p = b) (hu : fX8_unify (zI g) (zI m) (zI b) (uI u2 9 13 (zI (s + 1))) = some (r, u14)) : fX3_advance_L0 (G + 1) 0 (zI x1) 0 u = fX3_advance_L0 G 1 (zI x1) r u14 := by
  have st : fX3_advance_L0 (G + 1) 0 (zI x1) 0 u = fX3_advance_L0_0 (fX3_advance_L0 G) (zI x1) u := rfl
  have hF : Fr (fun k i => k == 9 && i == 13) u2 (uI u2 9 13 (zI (s + 1))) := Fr_up rfl (Fr_rfl _ _)
  rw [st]
  generalize fX3_advance_L0 G = R
  unfold fX3_advance_L0_0
  rw [if_neg (by rw [z_lit, z_le (by decide) (by decide) (by omega) (by omega)]; omega), hn, b2_s, if_neg (by decide), gI_z u2 9 13, gI_z u2 9 11, h13, h11, if_pos (by rw [z_lt (by omega) (by omega) (by omega) (by omega)]; omega), show (1 : Int32) = zI 1 from rfl, z_add, lt_e, lt_e, gI_z _ 9 9, Fr_I hF (show (fun k i => k == 9 && i == 13) 9 9 = false from rfl), ht, ld_z _ _ _ _ (by omega) (by omega), bd_s, Int.toNat_natCast, Fr_I hF (show (fun k i => k == 9 && i == 13) 65 i = false from rfl), hk, if_pos q2, ld_z _ _ _ _ (by omega) (by omega), bd_s, ld_z _ _ _ _ (by omega) (by omega), bd_s, Int.toNat_natCast, Fr_I hF (show (fun k i => k == 9 && i == 13) 66 i = false from rfl), Fr_I hF (show (fun k i => k == 9 && i == 13) 67 i = false from rfl), h66, h67, ld_z _ _ _ _ (by omega) (by omega), bd_s, ld_z _ _ _ _ (by omega) (by omega), bd_s, Int.toNat_natCast, Fr_I hF (show (fun k i => k == 9 && i == 13) 57 p = false from rfl), Fr_I hF (show (fun k i => k == 9 && i == 13) 58 p = false from rfl), h57, h58, hu, b2_s]
theorem av_full (G : Nat) (u : St) (x1 : Int32) : fX3_advance_L0 (G + 1) 1 x1 (zI 2) u = some (zI (-7), u) := by
  have st : fX3_advance_L0 (G + 1) 1 x1 (zI 2) u = fX3_advance_L0_1 (fX3_advance_L0 G) x1 (zI 2) u := rfl
  rw [st]
  unfold fX3_advance_L0_1
  rw [if_neg (by decide), if_pos q2]
  rfl
theorem av_no (G : Nat) (u u' : St) (i t : Nat) (x1 : Int) (hi : i < 151) (ht : I u 9 9 = i) (h68 : I u 68 i = t) (hub : fX5_unbind (zI t) u = some u') : fX3_advance_L0 (G + 1) 1 (zI x1) (zI 0) u = fX3_advance_L0 G 0 (zI (x1 + 1)) 0 u' := by
  have st : fX3_advance_L0 (G + 1) 1 (zI x1) (zI 0) u = fX3_advance_L0_1 (fX3_advance_L0 G) (zI x1) (zI 0) u := rfl
  rw [st]
  generalize fX3_advance_L0 G = R
  unfold fX3_advance_L0_1
  rw [if_neg (by decide), if_neg (by decide), gI_z, ht, ld_z _ _ _ _ (by omega) (by omega), bd_s, Int.toNat_natCast, h68, hub, bd_s, lt_e, show (1 : Int32) = zI 1 from rfl, z_add]
theorem av_yes (G : Nat) (u u' : St) (x1 : Int32) (a : Int32) (hg : fX3_grow u = some (a, u')) : fX3_advance_L0 (G + 1) 1 x1 (zI 1) u = some (a, u') := by
  have st : fX3_advance_L0 (G + 1) 1 x1 (zI 1) u = fX3_advance_L0_1 (fX3_advance_L0 G) x1 (zI 1) u := rfl
  rw [st]
  unfold fX3_advance_L0_1
  rw [if_pos q1, hg, b2_s]
theorem grow_red (u : St) (i g : Nat) (x : Int) (hi : i < 151) (ht : I u 9 9 = i) (hk : I u 65 i = 2) (h66 : I u 66 i = g) (hg : g < 150) (h61 : I u 61 g = x) : fX3_grow u = some (2, uI u 9 10 (zI x)) := by
  unfold fX3_grow
  rw [gI_z, ht, ld_z _ _ _ _ (by omega) (by omega), bd_s, Int.toNat_natCast, hk, if_pos q2, ld_z _ _ _ _ (by omega) (by omega), bd_s, Int.toNat_natCast, h66, ld_z _ _ _ _ (by omega) (by omega), bd_s, Int.toNat_natCast, h61, lt_e]
theorem grow_ext (u : St) (i m k : Nat) (fit : Int32) (x : Int32) (g : Int) (u' : St) (hi : i < 151) (ht : I u 9 9 = i) (hk : I u 65 i = 1) (h66 : I u 66 i = g) (h67 : I u 67 i = m) (hm : m < 1200) (h31 : I u 31 m = k) (hf : fX5_fits (zI k) u = some (fit, u)) (ha : fit ≠ 0 → fX5_add (zI k) (zI g) (zI m) u = some (x, u')) : fX3_grow u = if fit = 0 then some (zI (-7), u) else some (2, uI u' 9 10 x) := by
  have hr : fX3_rowOf (zI i) u = some (zI k, u) := by
    unfold fX3_rowOf
    rw [ld_z _ _ _ _ (by omega) (by omega), bd_s, Int.toNat_natCast, hk, if_neg (by decide), if_pos q1, ld_z _ _ _ _ (by omega) (by omega), bd_s, Int.toNat_natCast, h67, ld_z _ _ _ _ (by omega) (by omega), bd_s, Int.toNat_natCast, h31]
  unfold fX3_grow
  rw [gI_z, ht, ld_z _ _ _ _ (by omega) (by omega), bd_s, Int.toNat_natCast, hk, if_neg (by decide), hr, b2_s, hf, b2_s]
  by_cases h : fit = 0
  · rw [if_pos h, if_pos h]; rfl
  · rw [if_neg h, if_neg h, gI_z, ht, ld_z _ _ _ _ (by omega) (by omega), bd_s, ld_z _ _ _ _ (by omega) (by omega), bd_s, Int.toNat_natCast, h66, hk, if_neg (by decide), ld_z _ _ _ _ (by omega) (by omega), bd_s, Int.toNat_natCast, h67, ha h, b2_s, lt_e]
/-! the reference's steps -/
theorem exb_spent (v : St) (g k j : Int32) (s m : Int) (hs : I v 100 101 = s) (hm : I v 100 102 = m) (h : s = m) : fX12_extendsBy g k j v = some (0, uI v 100 99 (zI 1)) := by
  unfold fX12_extendsBy
  rw [mayStep_no v s m hs hm h, b2_s, if_pos rfl]
theorem exb_open (v v7 v13 : St) (g gl k j : Nat) (s m V nvk p q : Int) (b : Int) (r : Int32) (hs : I v 100 101 = s) (hm : I v 100 102 = m) (h0 : 0 ≤ s) (h1 : s < m) (h2 : m ≤ 20000) (h92 : I v 100 92 = V) (hk : k < 100) (h108 : I v 108 k = nvk) (hnv : fX12_newVariables (zI nvk) (uI (uI v 100 101 (zI (s + 1))) 100 97 (zI 0)) = some v7) (hg : g < 400) (h150 : I v7 150 g = gl) (hgl : gl < 1300) (h110 : I v7 110 gl = p) (h151 : I v7 151 g = b) (h106 : I v7 106 k = (q : Int)) (hq0 : 0 ≤ q) (hq : q + j < 1300) (pm : Int) (h110' : I v7 110 (q + j).toNat = pm) (hu : fX12_unifyAll (zI p) (zI b) (zI pm) (zI V) v7 = some (r, v13)) : fX12_extendsBy (zI g) (zI k) (zI j) v = if r = 0 then some (0, v13) else (b2 (fX12_tooMuch (zI k) v13) fun r17 u16 => if r17 = 0 then (bd (fX12_moved 1 (zI k) (zI j) (zI g) u16) fun u19 => bd (ld u19 167 400 (zI g)) fun v20 => b2 (fX12_comes (zI k) (zI j) (zI g) (zI V) v20 u19) fun r22 u21 => lt (uI u21 100 130 r22) fun u23 => some (1, u23)) else some (0, u16)) := by
  have g92 : I (uI v 100 101 (zI (s + 1))) 100 92 = V := by rw [I_uI2 _ _ _ _ _ _ (by omega)]; exact h92
  have hF : Fr (fun k i => k == 100 && (i == 101 || i == 97)) v (uI (uI v 100 101 (zI (s + 1))) 100 97 (zI 0)) := Fr_up rfl (Fr_up rfl (Fr_rfl _ _))
  unfold fX12_extendsBy
  rw [mayStep_yes v s m hs hm h0 h1 h2, b2_s, if_neg (by decide), lt_e, gI_z, g92, lt_e, show (0 : Int32) = zI 0 from rfl, ld_z _ _ _ _ (by omega) (by omega), bd_s, Int.toNat_natCast, Fr_I hF (show (fun k i => k == 100 && (i == 101 || i == 97)) 108 k = false from rfl), h108, hnv, bd_s, ld_z _ _ _ _ (by omega) (by omega), bd_s, Int.toNat_natCast, h150, ld_z _ _ _ _ (by omega) (by omega), bd_s, ld_z _ _ _ _ (by omega) (by omega), bd_s, ld_z _ _ _ _ (by omega) (by omega), bd_s, Int.toNat_natCast, Int.toNat_natCast, Int.toNat_natCast, h110, h151, h106, z_add, ld_z _ _ _ _ (by omega) (by omega), bd_s, h110', hu, b2_s]
theorem red_yes {u v : St} {C : Nat} {fi ps : Nat → Nat} {nv c : Nat → Int} {e : Nat → Nat} (hS : SR u v C fi ps nv c e) (g p gl pl : Nat) (s m b b2 : Int) (r : Int32) (v19 : St) (hg : g < 400) (hp : p < 400) (hgl : I v 150 g = gl) (hpl : I v 150 p = pl) (h1 : gl < fi C) (h2 : pl < fi C) (hop : Op u ps c gl pl) (hs : I v 100 101 = s) (hm : I v 100 102 = m) (hs0 : 0 ≤ s) (hsm : s < m) (hm2 : m ≤ 20000) (h151 : I v 151 g = b) (h151' : I v 151 p = b2) (hu : fX12_unifyAll (zI (ps gl)) (zI b) (zI (ps pl)) (zI b2) (uI (uI v 100 101 (zI (s + 1))) 100 97 (zI 0)) = some (r, v19)) : fX12_reduces (zI g) (zI p) v = if r = 0 then some (0, v19) else (bd (ld v19 153 400 (zI p)) fun v22 => bd (fX12_moved 2 (-1) v22 (zI g) v19) fun u23 => bd (ld u23 167 400 (zI g)) fun v24 => lt (uI u23 100 130 v24) fun u25 => some (1, u25)) := by
  have a1 := SR_lit hS h1
  have a2 := SR_lit hS h2
  have hsg := SR_sign hS h2 h1
  have hpr := SR_pred hS h2 h1
  have hF : Fr (fun k i => k == 100 && (i == 101 || i == 97)) v (uI (uI v 100 101 (zI (s + 1))) 100 97 (zI 0)) := Fr_up rfl (Fr_up rfl (Fr_rfl _ _))
  unfold fX12_reduces
  rw [ld_z _ _ _ _ (by omega) (by omega), bd_s, ld_z _ _ _ _ (by omega) (by omega), bd_s, Int.toNat_natCast, Int.toNat_natCast, hgl, hpl, ld_z _ _ _ _ (by omega) (by omega), bd_s, ld_z _ _ _ _ (by omega) (by omega), bd_s, Int.toNat_natCast, Int.toNat_natCast, if_neg (fun h => hop.1 (hsg.1 h).symm), predicate_spec hS h2, b2_s, predicate_spec hS h1, b2_s, if_pos (hpr.2 hop.2.symm), mayStep_yes v s m hs hm hs0 hsm hm2, b2_s, if_neg (by decide), lt_e, show (0 : Int32) = zI 0 from rfl, ld_z _ _ _ _ (by omega) (by omega), bd_s, ld_z _ _ _ _ (by omega) (by omega), bd_s, ld_z _ _ _ _ (by omega) (by omega), bd_s, ld_z _ _ _ _ (by omega) (by omega), bd_s, Int.toNat_natCast, Int.toNat_natCast, Int.toNat_natCast, Int.toNat_natCast, Fr_I hF (show (fun k i => k == 100 && (i == 101 || i == 97)) 110 gl = false from rfl), Fr_I hF (show (fun k i => k == 100 && (i == 101 || i == 97)) 110 pl = false from rfl), Fr_I hF (show (fun k i => k == 100 && (i == 101 || i == 97)) 151 g = false from rfl), Fr_I hF (show (fun k i => k == 100 && (i == 101 || i == 97)) 151 p = false from rfl), a1.2.1, a2.2.1, h151, h151', hu, b2_s]
theorem red_spent {u v : St} {C : Nat} {fi ps : Nat → Nat} {nv c : Nat → Int} {e : Nat → Nat} (hS : SR u v C fi ps nv c e) (g p gl pl : Nat) (s m : Int) (hg : g < 400) (hp : p < 400) (hgl : I v 150 g = gl) (hpl : I v 150 p = pl) (h1 : gl < fi C) (h2 : pl < fi C) (hop : Op u ps c gl pl) (hs : I v 100 101 = s) (hm : I v 100 102 = m) (hsm : s = m) : fX12_reduces (zI g) (zI p) v = some (0, uI v 100 99 (zI 1)) := by
  have a1 := SR_lit hS h1
  have a2 := SR_lit hS h2
  have hsg := SR_sign hS h2 h1
  have hpr := SR_pred hS h2 h1
  unfold fX12_reduces
  rw [ld_z _ _ _ _ (by omega) (by omega), bd_s, ld_z _ _ _ _ (by omega) (by omega), bd_s, Int.toNat_natCast, Int.toNat_natCast, hgl, hpl, ld_z _ _ _ _ (by omega) (by omega), bd_s, ld_z _ _ _ _ (by omega) (by omega), bd_s, Int.toNat_natCast, Int.toNat_natCast, if_neg (fun h => hop.1 (hsg.1 h).symm), predicate_spec hS h2, b2_s, predicate_spec hS h1, b2_s, if_pos (hpr.2 hop.2.symm), mayStep_no v s m hs hm hsm, b2_s, if_pos rfl]
