/-! reading: chains -/
theorem sig4 (lv : Nat) (hlv : lv ≤ 3) : ld4 signs4 (zI lv) = some (zI ((sgnm lv + 1 : Nat) : Int)) ∧ ld4 kinds4 (zI lv) = some (zI ((kdc lv : Nat) : Int)) := by
  have : lv = 0 ∨ lv = 1 ∨ lv = 2 ∨ lv = 3 := by omega
  rcases this with h | h | h | h <;> subst h <;> decide
theorem sgn_rng (lv : Nat) (hlv : lv ≤ 3) : 2 ≤ sgnm lv ∧ sgnm lv ≤ 14 := by
  have : lv = 0 ∨ lv = 1 ∨ lv = 2 ∨ lv = 3 := by omega
  rcases this with h | h | h | h <;> subst h <;> decide
/-- the class at a chain's sign -/
theorem ch_c0 (grp : Nat → Int32 → St → Option (Int32 × St)) (lv F i x3 : Nat) (hlv : lv ≤ 3) (hx : x3 < 1500) (u u2 : St) (r : Int) (hr1 : -2147483648 ≤ r) (hr2 : r < 2147483648) (hn : fX2_next u = some (zI r, u2)) : fX2_chain_L0 grp (F + 1) 0 (zI lv) (zI i) (zI x3) 0 0 0 u = if r = ((sgnm lv + 1 : Nat) : Int) then fX2_chain_L0 grp F 1 (zI lv) (zI i) (zI x3) 0 0 (if 1 < lv then 0 else 1) u2 else some (zI i, u2) := by
  have sx : fX2_chain_L0 grp (F + 1) 0 (zI lv) (zI i) (zI x3) 0 0 0 u = fX2_chain_L0_0 grp (fX2_chain_L0 grp F) (zI lv) (zI i) (zI x3) u := rfl
  have hs := sgn_rng lv hlv
  rw [sx]
  generalize fX2_chain_L0 grp F = Rc
  unfold fX2_chain_L0_0
  rw [if_neg (by rw [z_lit, z_le (by decide) (by decide) (by omega) (by omega)]; omega), hn, b2_s, (sig4 lv hlv).1, bd_s]
  by_cases he : r = ((sgnm lv + 1 : Nat) : Int)
  · rw [if_pos (by rw [he]), if_pos he]
    by_cases h1 : 1 < lv
    · rw [if_pos (by rw [show (1 : Int32) = zI 1 from rfl, z_lt (by decide) (by decide) (by omega) (by omega)]; omega), if_pos h1]
    · rw [if_neg (by rw [show (1 : Int32) = zI 1 from rfl, z_lt (by decide) (by decide) (by omega) (by omega)]; omega), if_neg h1]
  · rw [if_neg (by rw [z_eq hr1 hr2 (by omega) (by omega)]; exact he), if_neg he]
theorem ch_c1 (grp : Nat → Int32 → St → Option (Int32 × St)) (lv F i x3 : Nat) (hlv : lv ≤ 3) (u2 u3 : St) (h : (lv ≤ 1 ∧ fX2_opens u2 = some (1, u3)) ∨ (¬ lv ≤ 1 ∧ fX6_take u2 = some u3)) : fX2_chain_L0 grp (F + 3) 1 (zI lv) (zI i) (zI x3) 0 0 (if 1 < lv then 0 else 1) u2 = b2 (grp 0 (zI (nxl lv)) u3) fun r14 u13 => fX2_chain_L0 grp F 4 (zI lv) (zI i) (zI x3) 0 r14 0 (if lv ≤ 1 then uI u13 4 3 (gI u13 4 3 - 1) else u13) := by
  have s1 : ∀ s0 w, fX2_chain_L0 grp (F + 3) 1 (zI lv) (zI i) (zI x3) 0 0 s0 w = fX2_chain_L0_1 grp (fX2_chain_L0 grp (F + 2)) (zI lv) (zI i) (zI x3) s0 w := fun _ _ => rfl
  have s2 : ∀ x4 w, fX2_chain_L0 grp (F + 2) 2 (zI lv) (zI i) (zI x3) x4 0 0 w = fX2_chain_L0_2 grp (fX2_chain_L0 grp (F + 1)) (zI lv) (zI i) (zI x3) x4 w := fun _ _ => rfl
  have s3 : ∀ x4 s0 w, fX2_chain_L0 grp (F + 1) 3 (zI lv) (zI i) (zI x3) x4 0 s0 w = fX2_chain_L0_3 grp (fX2_chain_L0 grp F) (zI lv) (zI i) (zI x3) x4 s0 w := fun _ _ _ => rfl
  have h23 : ∀ x4 w, fX2_chain_L0_2 grp (fX2_chain_L0 grp (F + 1)) (zI lv) (zI i) (zI x3) x4 w = fX2_chain_L0_3 grp (fX2_chain_L0 grp F) (zI lv) (zI i) (zI x3) x4 (zI (nxl lv)) w := by
    intro x4 w
    unfold fX2_chain_L0_2
    by_cases h1 : lv = 1
    · subst h1; rw [if_pos (by rfl)]; rfl
    · rw [if_neg (by rw [show (1 : Int32) = zI 1 from rfl, z_eq (by omega) (by omega) (by decide) (by decide)]; omega), s3, show (1 : Int32) = zI 1 from rfl, z_add]
      unfold nxl
      rw [if_neg h1]; rfl
  rw [s1]
  rcases h with ⟨hl, ho⟩ | ⟨hl, ho⟩
  · rw [if_neg (by omega)]
    unfold fX2_chain_L0_1
    rw [if_neg (by decide), ho, b2_s, if_neg (by decide), s2, h23]
    unfold fX2_chain_L0_3
    cases grp 0 (zI (nxl lv)) u3 with
    | none => rfl
    | some p => obtain ⟨r, w⟩ := p
                rw [b2_s, b2_s, if_neg (by decide), lt_e, if_pos hl]
  · rw [if_pos (by omega)]
    unfold fX2_chain_L0_1
    rw [if_pos rfl, ho, bd_s, s2, h23]
    unfold fX2_chain_L0_3
    cases grp 0 (zI (nxl lv)) u3 with
    | none => rfl
    | some p => obtain ⟨r, w⟩ := p
                rw [b2_s, b2_s, if_pos rfl, if_neg hl]
theorem ch_c4 (grp : Nat → Int32 → St → Option (Int32 × St)) (lv F i x3 : Nat) (hlv : lv ≤ 3) (r : Int32) (u : St) : fX2_chain_L0 grp (F + 1) 4 (zI lv) (zI i) (zI x3) 0 r 0 u = b2 (fX7_add (zI ((kdc lv : Nat) : Int)) (zI i) r u) fun r19 u18 => fX2_chain_L0 grp F 0 (zI lv) r19 (zI ((x3 + 1 : Nat) : Int)) 0 0 0 u18 := by
  have sx : fX2_chain_L0 grp (F + 1) 4 (zI lv) (zI i) (zI x3) 0 r 0 u = fX2_chain_L0_4 grp (fX2_chain_L0 grp F) (zI lv) (zI i) (zI x3) r u := rfl
  rw [sx]
  unfold fX2_chain_L0_4
  rw [(sig4 lv hlv).2, bd_s, show (1 : Int32) = zI 1 from rfl, z_add, show (x3 : Int) + 1 = ((x3 + 1 : Nat) : Int) by omega]
  rfl
/-- the reference at a chain's sign -/
theorem ch_r (lv : Nat) (hlv : lv ≤ 3) (b : Int32) (v v2 : St) (k : Int32) (hk : fX12_look v = some (k, v2)) : fX12_readTask (zI ((3 * lv + 2 : Nat) : Int)) b v = if k = zI (sgnm lv) then (if lv ≤ 1 then (b2 (fX12_opens v2) fun r9 u8 => if r9 = 0 then (some u8) else bd (fX12_push (zI ((rjn lv : Nat) : Int)) (zI 0) u8) fun u11 => bd (fX12_push (zI ((3 * nxl lv + 1 : Nat) : Int)) (zI 0) u11) fun u12 => some u12) else (bd (fX12_take v2) fun u8 => bd (fX12_push (zI ((rjn lv : Nat) : Int)) (zI 0) u8) fun u11 => bd (fX12_push (zI ((3 * nxl lv + 1 : Nat) : Int)) (zI 0) u11) fun u12 => some u12)) else some v2 := by
  have : lv = 0 ∨ lv = 1 ∨ lv = 2 ∨ lv = 3 := by omega
  rcases this with h | h | h | h <;> subst h
  · exact (rt2 b v).trans (by rw [hk, b2_s]; rfl)
  · exact (rt5 b v).trans (by rw [hk, b2_s]; rfl)
  · exact (rt8 b v).trans (by rw [hk, b2_s]; rfl)
  · exact (rt11 b v).trans (by rw [hk, b2_s]; rfl)
/-- behind a fault a chain ends -/
theorem ch_flt (grp : Nat → Int32 → St → Option (Int32 × St)) (lv F i x3 : Nat) (hlv : lv ≤ 3) (hx : x3 < 1501) (u : St) (hf : I u 4 4 ≠ 0) : fX2_chain_L0 grp (F + 1) 0 (zI lv) (zI i) (zI x3) 0 0 0 u = some (zI i, u) := by
  by_cases h : x3 < 1500
  · have hs := sgn_rng lv hlv
    rw [ch_c0 grp lv F i x3 hlv h u u 1 (by decide) (by decide) (next_flt u hf), if_neg (by omega)]
  · have hx3 : x3 = 1500 := by omega
    subst hx3
    have sx : fX2_chain_L0 grp (F + 1) 0 (zI lv) (zI i) (zI (1500 : Nat)) 0 0 0 u = fX2_chain_L0_0 grp (fX2_chain_L0 grp F) (zI lv) (zI i) (zI (1500 : Nat)) u := rfl
    rw [sx]; unfold fX2_chain_L0_0
    rw [if_pos (by decide)]
/-- what is known ahead of the right part, on both sides -/
theorem ch_sign {n o lv : Nat} (hlv : lv ≤ 3) {u v : St} {s b S R NC NR : Nat} {B : Nat → Nat} {F : List Nat} {Kc Kr : Nat} {l : List (Int × Int)} {vs : List Nat} (h : PFo u v n s S R NC NR o B F Kc Kr) (hL : TLs u v n s b (sgnm lv)) (hT : TS v l) (hV : VS v vs) (hl : l.length < 1000) : (∃ (u3 v5 : St) (o' : Nat), ((lv ≤ 1 ∧ o' = o + 1 ∧ o < 30) ∨ (2 ≤ lv ∧ o' = o)) ∧ ((lv ≤ 1 ∧ fX2_opens u = some (1, u3)) ∨ (¬ lv ≤ 1 ∧ fX6_take u = some u3)) ∧ (if lv ≤ 1 then (b2 (fX12_opens v) fun r9 u8 => if r9 = 0 then (some u8) else bd (fX12_push (zI ((rjn lv : Nat) : Int)) (zI 0) u8) fun u11 => bd (fX12_push (zI ((3 * nxl lv + 1 : Nat) : Int)) (zI 0) u11) fun u12 => some u12) else (bd (fX12_take v) fun u8 => bd (fX12_push (zI ((rjn lv : Nat) : Int)) (zI 0) u8) fun u11 => bd (fX12_push (zI ((3 * nxl lv + 1 : Nat) : Int)) (zI 0) u11) fun u12 => some u12)) = some v5 ∧ PFo u3 v5 n b S R NC NR o' B F Kc Kr ∧ TS v5 ((((3 * nxl lv + 1 : Nat) : Int), 0) :: (((rjn lv : Nat) : Int), 0) :: l) ∧ VS v5 vs ∧ PY u u3 v v5 S R NC NR Kc Kr ∧ s < b ∧ b ≤ n) ∨ (∃ u3 v5, lv ≤ 1 ∧ fX2_opens u = some (0, u3) ∧ fX12_opens v = some (0, v5) ∧ FQf u u3 v v5 S) := by
  have hs := sgn_rng lv hlv
  -- what is pushed behind the sign
  have pushes : ∀ (w3 : St) (z3 : St) (o' : Nat), PFo w3 z3 n b S R NC NR o' B F Kc Kr → TS z3 l → VS z3 vs → ∃ v5, (bd (fX12_push (zI ((rjn lv : Nat) : Int)) (zI 0) z3) fun u11 => bd (fX12_push (zI ((3 * nxl lv + 1 : Nat) : Int)) (zI 0) u11) fun u12 => some u12) = some v5 ∧ PFo w3 v5 n b S R NC NR o' B F Kc Kr ∧ TS v5 ((((3 * nxl lv + 1 : Nat) : Int), 0) :: (((rjn lv : Nat) : Int), 0) :: l) ∧ VS v5 vs ∧ PY w3 w3 z3 v5 S R NC NR Kc Kr := by
    intro w3 z3 o' hp ht hv
    have hnx : nxl lv ≤ 4 := by unfold nxl; by_cases h1 : lv = 1 <;> simp [h1] <;> omega
    have hrj : rjn lv ≤ 12 := by unfold rjn; omega
    obtain ⟨v4, b1, b2', b3⟩ := rpush_spec z3 l ((rjn lv : Nat) : Int) 0 (by omega) ht (by omega) (by omega) (by decide) (by decide)
    obtain ⟨v5, c1, c2, c3⟩ := rpush_spec v4 ((((rjn lv : Nat) : Int), 0) :: l) ((3 * nxl lv + 1 : Nat) : Int) 0 (by simp only [List.length_cons]; omega) b2' (by omega) (by omega) (by decide) (by decide)
    have F35 : Fr Qts z3 v5 := Fr_tr b3 c3
    exact ⟨v5, by rw [b1, bd_s, c1, bd_s], PF_fr (Fr_rfl (fun _ _ => false) w3) F35 (fun _ _ _ => rfl) Qts_PF hp, c2, VS_fr F35 (fun _ => by simp [Qts]) (by simp [Qts]) hv, fr_PY (Fr_rfl (fun _ _ => false) w3) F35 (fun _ _ hk => by simp at hk) (fun k i hk => by simp [QAf, hk]) (fun _ _ _ => rfl) Qts_PY⟩
  by_cases hc : lv ≤ 1
  · obtain ⟨u3, v3, hh⟩ := pf_open h hL (by omega) (by omega)
    rcases hh with ⟨a0, a1, a2, a3, a4, a45, a5, a6⟩ | ⟨a1, a2, a3⟩
    · obtain ⟨v5, p1, p2, p3, p4, p5⟩ := pushes u3 v3 (o + 1) a3 (TS_fr a6 (fun _ => by simp [QK]) (fun _ => by simp [QK]) (by simp [QK]) hT) (VS_fr a6 (fun _ => by simp [QK]) (by simp [QK]) hV)
      exact Or.inl ⟨u3, v5, o + 1, Or.inl ⟨hc, rfl, a0⟩, Or.inl ⟨hc, a1⟩, by rw [if_pos hc, a2, b2_s, if_neg (by decide)]; exact p1, p2, p3, p4, PY_tr (Nat.le_refl _) (Nat.le_refl _) (Nat.le_refl _) (Nat.le_refl _) (Nat.le_refl _) (Nat.le_refl _) a5 p5, a4, a45⟩
    · exact Or.inr ⟨u3, v3, hc, a1, a2, a3⟩
  · obtain ⟨⟨m, q1⟩, q2, q3, q4, q5⟩ := h
    obtain ⟨u3, v3, t1, t2, t3, t4, t5, t6, t7, t8⟩ := px_take q1 hL (by omega)
    have hbn := hL.2.2.2.2.2.2.2.2.2.2.1
    have hPF3 : PFo u3 v3 n b S R NC NR o B F Kc Kr := ⟨⟨m, t5 (by omega)⟩, by rw [Fr_I t6 rfl]; exact q2, by rw [Fr_I t7 rfl]; exact q3, by omega, by omega⟩
    obtain ⟨v5, p1, p2, p3, p4, p5⟩ := pushes u3 v3 o hPF3 (TS_fr t7 (fun _ => by simp [QK]) (fun _ => by simp [QK]) (by simp [QK]) hT) (VS_fr t7 (fun _ => by simp [QK]) (by simp [QK]) hV)
    exact Or.inl ⟨u3, v5, o, Or.inr ⟨by omega, rfl⟩, Or.inr ⟨hc, t1⟩, by rw [if_neg hc, t2, bd_s]; exact p1, p2, p3, p4, PY_tr (Nat.le_refl _) (Nat.le_refl _) (Nat.le_refl _) (Nat.le_refl _) (Nat.le_refl _) (Nat.le_refl _) (PX_PY t8) p5, t4, hbn⟩
