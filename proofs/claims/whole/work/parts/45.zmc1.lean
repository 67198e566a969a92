/-! reading: a clause comes into the store, in the class -/
theorem RWl_get {u : St} {k : Nat} (l : List Int) : ∀ (p i : Nat) (a : Int), RWl u k p l → l[i]? = some a → I u k (p + i) = a := by
  induction l with
  | nil => intro p i a _ h; simp at h
  | cons b l ih =>
    intro p i a h hi
    cases i with
    | zero => simp at hi; subst hi; exact h.1
    | succ i => simp at hi; have := ih (p + 1) i a h.2 hi; rw [show p + (i + 1) = p + 1 + i by omega]; exact this
def SNc (u : St) (sn : List Int) : Prop := I u 6 14 = sn.length ∧ RWl u 56 0 sn ∧ sn.length ≤ 10
def Psn : Nat → Nat → Bool := fun k i => k == 56 || (k == 6 && i == 14)
theorem rn_loop {u : St} {sn : List Int} {z : Int} (hz : z < 0) (hz1 : -2147483648 ≤ z) (h : SNc u sn) (d : Nat) : ∀ (i F : Nat), i + d = sn.length → d < F → i ≤ ixo sn z → ((snx sn z).length ≤ 10 ∧ ∃ u', fX10_renumbered_L0 F 0 (zI z) (zI i) u = some (zI (rc1 sn z), u') ∧ SNc u' (snx sn z) ∧ Fr Psn u u') ∨ (10 < (snx sn z).length ∧ fX10_renumbered_L0 F 0 (zI z) (zI i) u = some (zI 0, u)) := by
  obtain ⟨h1, h2, h3⟩ := h
  have hr : rc1 sn z = -1 - (ixo sn z : Int) := by unfold rc1; rw [if_neg (by omega)]
  induction d with
  | zero =>
    intro i F hi hF hx
    obtain ⟨F1, rfl⟩ : ∃ F1, F = F1 + 1 := ⟨F - 1, by omega⟩
    have hnin : z ∉ sn := fun hh => by have := (ixo_in sn hh).1; omega
    have hsn : snx sn z = sn ++ [z] := by unfold snx; rw [if_neg (by omega), if_neg hnin]
    have sx : fX10_renumbered_L0 (F1 + 1) 0 (zI z) (zI i) u = fX10_renumbered_L0_0 (fX10_renumbered_L0 F1) (zI z) (zI i) u := rfl
    rw [sx, hsn, hr, ixo_out sn hnin]
    have hl : (sn ++ [z]).length = sn.length + 1 := by simp
    unfold fX10_renumbered_L0_0
    rw [gI_z u 6 14, h1, if_pos (by rw [z_le (by omega) (by omega) (by omega) (by omega)]; omega)]
    by_cases h10 : sn.length < 10
    · left
      refine ⟨by omega, uI (uI u 56 sn.length (zI z)) 6 14 (zI ((sn.length + 1 : Nat) : Int)), ?_, ⟨by rw [I_uI1 _ _ _ _ (by omega) (by omega), hl], ?_, by omega⟩, Fr_up rfl (Fr_up rfl (Fr_rfl _ _))⟩
      · rw [if_pos (by rw [z_lit, z_lt (by omega) (by omega) (by decide) (by decide)]; omega), st_z _ _ _ _ _ (by omega) (by omega), bd_s, Int.toNat_natCast, gI_z _ 6 14, I_uI3 _ _ _ _ _ _ (by decide), h1, show (zI (sn.length : Int) + 1 : Int32) = zI ((sn.length + 1 : Nat) : Int) by rw [show (1 : Int32) = zI 1 from rfl, z_add]; rfl, lt_e, gI_z _ 6 14, I_uI1 _ _ _ _ (by omega) (by omega), z_neg, show -((sn.length + 1 : Nat) : Int) = -1 - (sn.length : Int) by omega]
      · refine RWl_app _ _ _ (RWl_eq _ _ (fun i _ hi => ?_) h2) ⟨?_, trivial⟩
        · rw [I_uI3 _ _ _ _ _ _ (by decide), I_uI2 _ _ _ _ _ _ (by omega)]
        · rw [Nat.zero_add, I_uI3 _ _ _ _ _ _ (by decide), I_uI1 _ _ _ _ hz1 (by omega)]
    · right
      refine ⟨by omega, ?_⟩
      rw [if_neg (by rw [z_lit, z_lt (by omega) (by omega) (by decide) (by decide)]; omega)]; rfl
  | succ d ih =>
    intro i F hi hF hx
    obtain ⟨F1, rfl⟩ : ∃ F1, F = F1 + 1 := ⟨F - 1, by omega⟩
    have hil : i < sn.length := by omega
    obtain ⟨a, ha⟩ : ∃ a, sn[i]? = some a := ⟨sn[i], List.getElem?_eq_getElem hil⟩
    have h56 := RWl_get sn 0 i a h2 ha
    rw [Nat.zero_add] at h56
    have a1 := I_lo u 56 i
    have a2 := I_hi u 56 i
    rw [h56] at a1 a2
    have sx : fX10_renumbered_L0 (F1 + 1) 0 (zI z) (zI i) u = fX10_renumbered_L0_0 (fX10_renumbered_L0 F1) (zI z) (zI i) u := rfl
    have pre : fX10_renumbered_L0_0 (fX10_renumbered_L0 F1) (zI z) (zI i) u = if zI a = zI z then some (zI (-1 - (i : Int)), u) else fX10_renumbered_L0 F1 0 (zI z) (zI ((i + 1 : Nat) : Int)) u := by
      unfold fX10_renumbered_L0_0
      rw [gI_z u 6 14, h1, if_neg (by rw [z_le (by omega) (by omega) (by omega) (by omega)]; omega), ld_z _ _ _ _ (by omega) (by omega), bd_s, Int.toNat_natCast, h56, lt_e, show (zI (i : Int) + 1 : Int32) = zI ((i + 1 : Nat) : Int) by rw [show (1 : Int32) = zI 1 from rfl, z_add]; rfl, show (-1 : Int32) = zI (-1) from rfl, z_sub]
    rw [sx, pre]
    by_cases haz : a = z
    · have hzin : z ∈ sn := by rw [← haz]; exact List.mem_iff_getElem?.2 ⟨i, ha⟩
      have hix : ixo sn z = i := by
        rcases Nat.lt_or_ge i (ixo sn z) with hh | hh
        · exact absurd haz (ixo_lt sn i a ha hh)
        · omega
      have hsn : snx sn z = sn := by unfold snx; rw [if_neg (by omega), if_pos hzin]
      rw [if_pos (by rw [haz]), hsn, hr, hix]
      exact Or.inl ⟨h3, u, rfl, ⟨h1, h2, h3⟩, Fr_rfl _ _⟩
    · rw [if_neg (by rw [z_eq a1 a2 hz1 (by omega)]; exact haz)]
      refine ih (i + 1) F1 (by omega) (by omega) ?_
      rcases Nat.lt_or_ge i (ixo sn z) with hh | hh
      · omega
      · exfalso
        have hix : ixo sn z = i := by omega
        by_cases hzin : z ∈ sn
        · have := (ixo_in sn hzin).2
          rw [hix, ha] at this
          exact haz (Option.some.inj this)
        · rw [ixo_out sn hzin] at hix; omega
def cl : List Lt → Nat
  | [] => 0
  | l :: K => l.2.length + cl K
theorem cl_app (x y : List Lt) : cl (x ++ y) = cl x + cl y := by
  induction x with
  | nil => simp [cl]
  | cons a x ih => simp only [List.cons_append, cl, ih]; omega
def fl : List Lt → List Int
  | [] => []
  | l :: K => l.2 ++ fl K
theorem fl_app (x y : List Lt) : fl (x ++ y) = fl x ++ fl y := by
  induction x with
  | nil => rfl
  | cons a x ih => simp only [List.cons_append, fl, ih, List.append_assoc]
theorem fl_len (x : List Lt) : (fl x).length = cl x := by
  induction x with
  | nil => rfl
  | cons a x ih => simp only [fl, cl, List.length_append, ih]
def Pdk : Nat → Nat → Bool := fun k i => k == 32 || k == 56 || (k == 6 && i == 14)
/-- the cells of a literal -/
theorem dk_in {n C lt b i m pe : Nat} (hi : i < 12) (hm : m < 600) (hpe : pe ≤ 18000) (hb : b ≤ 19800) (r : List Int) : ∀ (sn : List Int) (at' j Fu : Nat) (u : St), I u 55 i = m → I u 49 (m + 1) = pe → RWl u 48 j r → j + r.length = pe → SNc u sn → b ≤ at' → at' ≤ b + 200 → ((at' - b + r.length ≤ 200 ∧ (sns sn r).length ≤ 10) ∧ ∃ u', fX10_deliverKept_L0 (Fu + 3 * r.length) 1 (zI n) (zI C) (zI lt) (zI b) (zI at') (zI i) (zI j) 0 0 u = fX10_deliverKept_L0 Fu 1 (zI n) (zI C) (zI lt) (zI b) (zI ((at' + r.length : Nat) : Int)) (zI i) (zI pe) 0 0 u' ∧ RWl u' 32 at' (rnc sn r) ∧ SNc u' (sns sn r) ∧ (∀ q, q < at' → I u' 32 q = I u 32 q) ∧ Fr Pdk u u') ∨ ((200 < at' - b + r.length ∨ 10 < (sns sn r).length) ∧ ∃ u', fX10_deliverKept_L0 (Fu + 3 * r.length) 1 (zI n) (zI C) (zI lt) (zI b) (zI at') (zI i) (zI j) 0 0 u = some (0, u') ∧ (∀ q, q < at' → I u' 32 q = I u 32 q) ∧ Fr Pdk u u') := by
  induction r with
  | nil =>
    intro sn at' j Fu u h55 h49 hR hj hS hb1 hb2
    left
    simp only [List.length_nil, Nat.add_zero] at hj
    refine ⟨⟨by simp only [List.length_nil]; omega, hS.2.2⟩, u, by rw [← hj]; rfl, trivial, hS, fun _ _ => rfl, Fr_rfl _ _⟩
  | cons z r ih =>
    intro sn at' j Fu u h55 h49 hR hj hS hb1 hb2
    simp only [List.length_cons] at hj
    have z1 := I_lo u 48 j
    have z2 := I_hi u 48 j
    rw [hR.1] at z1 z2
    have hfu : Fu + 3 * (z :: r).length = (Fu + 3 * r.length) + 1 + 1 + 1 := by simp only [List.length_cons]; omega
    have s1 : ∀ F w x6 x8, fX10_deliverKept_L0 (F + 1) 1 (zI n) (zI C) (zI lt) (zI b) x6 (zI i) x8 0 0 w = fX10_deliverKept_L0_1 (fX10_deliverKept_L0 F) (zI n) (zI C) (zI lt) (zI b) x6 (zI i) x8 w := fun _ _ _ _ => rfl
    have s2 : ∀ F w s0, fX10_deliverKept_L0 (F + 1) 2 (zI n) (zI C) (zI lt) (zI b) (zI at') (zI i) (zI j) 0 s0 w = fX10_deliverKept_L0_2 (fX10_deliverKept_L0 F) (zI n) (zI C) (zI lt) (zI b) (zI at') (zI i) (zI j) s0 w := fun _ _ _ => rfl
    have s3 : ∀ F w x9, fX10_deliverKept_L0 (F + 1) 3 (zI n) (zI C) (zI lt) (zI b) (zI at') (zI i) (zI j) x9 0 w = fX10_deliverKept_L0_3 (fX10_deliverKept_L0 F) (zI n) (zI C) (zI lt) (zI b) (zI at') (zI i) (zI j) x9 w := fun _ _ _ => rfl
    have e1 : ∀ F, fX10_deliverKept_L0_1 (fX10_deliverKept_L0 F) (zI n) (zI C) (zI lt) (zI b) (zI at') (zI i) (zI j) u = if zI z < 0 then (b2 (fX10_renumbered (zI z) u) fun r22 u21 => fX10_deliverKept_L0 F 2 (zI n) (zI C) (zI lt) (zI b) (zI at') (zI i) (zI j) 0 r22 u21) else fX10_deliverKept_L0 F 2 (zI n) (zI C) (zI lt) (zI b) (zI at') (zI i) (zI j) 0 (zI z) u := by
      intro F
      unfold fX10_deliverKept_L0_1
      rw [ld_z _ _ _ _ (by omega) (by omega), bd_s, Int.toNat_natCast, h55, show (1 : Int32) = zI 1 from rfl, z_add, ld_z _ _ _ _ (by omega) (by omega), bd_s, show ((m : Int) + 1).toNat = m + 1 by omega, h49, if_neg (by rw [z_le (by omega) (by omega) (by omega) (by omega)]; omega), ld_z _ _ _ _ (by omega) (by omega), bd_s, bd_s, bd_s, Int.toNat_natCast, hR.1]
    -- a cell y is put, in a state w where the variables are sn'
    have put : ∀ (y : Int) (w : St) (sn' : List Int), Fr Psn u w → SNc w sn' → at' < b + 200 → -2147483648 ≤ y → y < 2147483648 → y = rc1 sn z → sn' = snx sn z → ((0 ≤ z) ∨ y < 0) → ∀ F, fX10_deliverKept_L0 (F + 1 + 1) 2 (zI n) (zI C) (zI lt) (zI b) (zI at') (zI i) (zI j) 0 (zI y) w = fX10_deliverKept_L0 F 1 (zI n) (zI C) (zI lt) (zI b) (zI ((at' + 1 : Nat) : Int)) (zI i) (zI ((j + 1 : Nat) : Int)) 0 0 (uI w 32 at' (zI y)) := by
      intro y w sn' hF hS' ha y1 y2 hy hs hzy F
      have hk : fX10_deliverKept_L0_3 (fX10_deliverKept_L0 F) (zI n) (zI C) (zI lt) (zI b) (zI at') (zI i) (zI j) (zI y) w = fX10_deliverKept_L0 F 1 (zI n) (zI C) (zI lt) (zI b) (zI ((at' + 1 : Nat) : Int)) (zI i) (zI ((j + 1 : Nat) : Int)) 0 0 (uI w 32 at' (zI y)) := by
        unfold fX10_deliverKept_L0_3
        rw [st_z _ _ _ _ _ (by omega) (by omega), bd_s, Int.toNat_natCast, lt_e, lt_e, show (1 : Int32) = zI 1 from rfl, z_add, z_add]; rfl
      rw [s2]
      unfold fX10_deliverKept_L0_2
      rw [z_sub, if_neg (by rw [z_lit, z_le (by decide) (by decide) (by omega) (by omega)]; omega), ld_z _ _ _ _ (by omega) (by omega), bd_s, Int.toNat_natCast, Fr_I hF rfl, hR.1]
      by_cases hz : 0 ≤ z
      · rw [if_pos (by rw [z_zero, z_le (by decide) (by decide) z1 z2]; exact hz), s3, hk]
      · rw [if_neg (by rw [z_zero, z_le (by decide) (by decide) z1 z2]; exact hz), if_pos (by rw [z_zero, z_lt y1 y2 (by decide) (by decide)]; omega), s3, hk]
    -- and then the rest
    have rest : ∀ (w : St), Fr Psn u w → SNc w (snx sn z) → at' < b + 200 → -2147483648 ≤ rc1 sn z → rc1 sn z < 2147483648 → (0 ≤ z ∨ rc1 sn z < 0) → fX10_deliverKept_L0 (Fu + 3 * (z :: r).length) 1 (zI n) (zI C) (zI lt) (zI b) (zI at') (zI i) (zI j) 0 0 u = fX10_deliverKept_L0 (Fu + 3 * r.length + 1 + 1) 2 (zI n) (zI C) (zI lt) (zI b) (zI at') (zI i) (zI j) 0 (zI (rc1 sn z)) w → ((at' - b + (r.length + 1) ≤ 200 ∧ (sns sn (z :: r)).length ≤ 10) ∧ ∃ u', fX10_deliverKept_L0 (Fu + 3 * (z :: r).length) 1 (zI n) (zI C) (zI lt) (zI b) (zI at') (zI i) (zI j) 0 0 u = fX10_deliverKept_L0 Fu 1 (zI n) (zI C) (zI lt) (zI b) (zI ((at' + (r.length + 1) : Nat) : Int)) (zI i) (zI pe) 0 0 u' ∧ RWl u' 32 at' (rnc sn (z :: r)) ∧ SNc u' (sns sn (z :: r)) ∧ (∀ q, q < at' → I u' 32 q = I u 32 q) ∧ Fr Pdk u u') ∨ ((200 < at' - b + (r.length + 1) ∨ 10 < (sns sn (z :: r)).length) ∧ ∃ u', fX10_deliverKept_L0 (Fu + 3 * (z :: r).length) 1 (zI n) (zI C) (zI lt) (zI b) (zI at') (zI i) (zI j) 0 0 u = some (0, u') ∧ (∀ q, q < at' → I u' 32 q = I u 32 q) ∧ Fr Pdk u u') := by
      intro w hF hS' ha y1 y2 hzy hstep
      rw [hstep, put (rc1 sn z) w (snx sn z) hF hS' ha y1 y2 rfl rfl hzy]
      have Fw : Fr (fun k _ => k == 32) w (uI w 32 at' (zI (rc1 sn z))) := Fr_up rfl (Fr_rfl _ _)
      have Fuw : Fr Pdk u (uI w 32 at' (zI (rc1 sn z))) := Fr_up rfl (Fr_up2 (fun k i hk => by simp [Psn] at hk; simp [Pdk]; omega) hF)
      have g32 : ∀ q, q < at' → I (uI w 32 at' (zI (rc1 sn z))) 32 q = I u 32 q := fun q hq => by rw [I_uI2 _ _ _ _ _ _ (by omega), Fr_I hF rfl]
      have hSw : SNc (uI w 32 at' (zI (rc1 sn z))) (snx sn z) := ⟨by rw [Fr_I Fw rfl]; exact hS'.1, RWl_eq _ _ (fun i _ _ => Fr_I Fw rfl) hS'.2.1, hS'.2.2⟩
      have key := ih (snx sn z) (at' + 1) (j + 1) Fu (uI w 32 at' (zI (rc1 sn z))) (by rw [Fr_I Fuw rfl]; exact h55) (by rw [Fr_I Fuw rfl]; exact h49) (RWl_eq _ _ (fun i _ _ => Fr_I Fuw rfl) hR.2) (by omega) hSw (by omega) (by omega)
      have e32 : I (uI w 32 at' (zI (rc1 sn z))) 32 at' = rc1 sn z := I_uI1 _ _ _ _ y1 y2
      generalize uI w 32 at' (zI (rc1 sn z)) = w2 at *
      rcases key with ⟨k1, u', k2, k3, k4, k5, k6⟩ | ⟨k1, u', k2, k3, k4⟩
      · left
        refine ⟨⟨by omega, k1.2⟩, u', ?_, ⟨?_, k3⟩, k4, fun q hq => by rw [k5 q (by omega)]; exact g32 q hq, Fr_tr Fuw k6⟩
        · rw [k2, show at' + 1 + r.length = at' + (r.length + 1) by omega]
        · rw [k5 at' (by omega)]; exact e32
      · right
        refine ⟨?_, u', k2, fun q hq => by rw [k3 q (by omega)]; exact g32 q hq, Fr_tr Fuw k4⟩
        rcases k1 with k1 | k1
        · left; omega
        · right; exact k1
    have fail2 : ∀ (w : St) (y : Int32), at' = b + 200 → fX10_deliverKept_L0 (Fu + 3 * r.length + 1 + 1) 2 (zI n) (zI C) (zI lt) (zI b) (zI at') (zI i) (zI j) 0 y w = some (0, w) := by
      intro w y ha
      rw [s2]
      unfold fX10_deliverKept_L0_2
      rw [z_sub, if_pos (by rw [z_lit, z_le (by decide) (by decide) (by omega) (by omega)]; omega)]
    simp only [List.length_cons] at rest ⊢
    by_cases hz : 0 ≤ z
    · have hsn : snx sn z = sn := by unfold snx; rw [if_pos hz]
      have hrc : rc1 sn z = z := by unfold rc1; rw [if_pos hz]
      have hst : fX10_deliverKept_L0 (Fu + 3 * (r.length + 1)) 1 (zI n) (zI C) (zI lt) (zI b) (zI at') (zI i) (zI j) 0 0 u = fX10_deliverKept_L0 (Fu + 3 * r.length + 1 + 1) 2 (zI n) (zI C) (zI lt) (zI b) (zI at') (zI i) (zI j) 0 (zI z) u := by
        rw [show Fu + 3 * (r.length + 1) = (Fu + 3 * r.length) + 1 + 1 + 1 by omega, s1, e1, if_neg (by rw [z_zero, z_lt z1 z2 (by decide) (by decide)]; omega)]
      by_cases ha : at' < b + 200
      · exact rest u (Fr_rfl _ _) (by rw [hsn]; exact hS) ha (by rw [hrc]; exact z1) (by rw [hrc]; exact z2) (Or.inl hz) (by rw [hrc]; exact hst)
      · right
        exact ⟨Or.inl (by omega), u, by rw [hst, fail2 u _ (by omega)], fun _ _ => rfl, Fr_rfl _ _⟩
    · have hF10 : FU = (FU - 12) + 12 := by unfold FU; omega
      rcases rn_loop (by omega) z1 hS sn.length 0 FU (by omega) (by have := hS.2.2; unfold FU; omega) (by omega) with ⟨g1, w, g2, g3, g4⟩ | ⟨g1, g2⟩
      · have hrn : fX10_renumbered (zI z) u = some (zI (rc1 sn z), w) := g2
        have hix : rc1 sn z = -1 - (ixo sn z : Int) := by unfold rc1; rw [if_neg hz]
        have hixl : ixo sn z ≤ sn.length := by
          by_cases h : z ∈ sn
          · have := (ixo_in sn h).1; omega
          · rw [ixo_out sn h]; exact Nat.le_refl _
        have h10 := hS.2.2
        have hst : fX10_deliverKept_L0 (Fu + 3 * (r.length + 1)) 1 (zI n) (zI C) (zI lt) (zI b) (zI at') (zI i) (zI j) 0 0 u = fX10_deliverKept_L0 (Fu + 3 * r.length + 1 + 1) 2 (zI n) (zI C) (zI lt) (zI b) (zI at') (zI i) (zI j) 0 (zI (rc1 sn z)) w := by
          rw [show Fu + 3 * (r.length + 1) = (Fu + 3 * r.length) + 1 + 1 + 1 by omega, s1, e1, if_pos (by rw [z_zero, z_lt z1 z2 (by decide) (by decide)]; omega), hrn, b2_s]
        by_cases ha : at' < b + 200
        · exact rest w g4 g3 ha (by omega) (by omega) (Or.inr (by omega)) hst
        · right
          exact ⟨Or.inl (by omega), w, by rw [hst, fail2 w _ (by omega)], fun q _ => Fr_I g4 rfl, Fr_up2 (fun k i hk => by simp [Psn] at hk; simp [Pdk]; omega) g4⟩
      · have hrn : fX10_renumbered (zI z) u = some (zI 0, u) := g2
        have hst : fX10_deliverKept_L0 (Fu + 3 * (r.length + 1)) 1 (zI n) (zI C) (zI lt) (zI b) (zI at') (zI i) (zI j) 0 0 u = fX10_deliverKept_L0 (Fu + 3 * r.length + 1 + 1) 2 (zI n) (zI C) (zI lt) (zI b) (zI at') (zI i) (zI j) 0 (zI 0) u := by
          rw [show Fu + 3 * (r.length + 1) = (Fu + 3 * r.length) + 1 + 1 + 1 by omega, s1, e1, if_pos (by rw [z_zero, z_lt z1 z2 (by decide) (by decide)]; omega), hrn, b2_s]
        right
        refine ⟨Or.inr ?_, u, ?_, fun _ _ => rfl, Fr_rfl _ _⟩
        · have := sns_len r (snx sn z)
          show 10 < (sns (snx sn z) r).length
          omega
        · by_cases ha : at' < b + 200
          · rw [hst, s2]
            unfold fX10_deliverKept_L0_2
            rw [z_sub, if_neg (by rw [z_lit, z_le (by decide) (by decide) (by omega) (by omega)]; omega), ld_z _ _ _ _ (by omega) (by omega), bd_s, Int.toNat_natCast, hR.1, if_neg (by rw [z_zero, z_le (by decide) (by decide) z1 z2]; exact hz), if_neg (by decide)]
          · rw [hst, fail2 u _ (by omega)]
