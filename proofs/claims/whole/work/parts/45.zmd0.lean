/-! reading: a formula becomes clauses, both sides -/
def PMk : Nat → Nat → Bool := fun k i => PM k i || Pdv k i
def QMk : Nat → Nat → Bool := fun k i => QM k i || Pnw k i || (k == 100 && i == 8)
theorem PM_PMk : ∀ k i, PM k i = true → PMk k i = true := by intro k i h; simp [PMk, h]
theorem Pdv_PMk : ∀ k i, Pdv k i = true → PMk k i = true := by intro k i h; simp [PMk, h]
theorem QM_QMk : ∀ k i, QM k i = true → QMk k i = true := by intro k i h; simp [QMk, h]
theorem Pnw_QMk : ∀ k i, Pnw k i = true → QMk k i = true := by intro k i h; simp [QMk, h]
/-- the class's maker begins -/
theorem mk_open {u : St} {r w nf : Nat} {NC : Nat} {B : Nat → Nat} {F : List Nat} (hr : r < 1501) (hFB : FB u NC B F) (hNC : NC ≤ 1501) (hFl : F.length ≤ 250) (h36 : I u 36 r = cw w) (hR : 0 ≤ I u 3 6 ∧ I u 3 6 ≤ 250) (hw : w + F.length ≤ 3000) (h24 : I u 2 4 = nf) (h49 : I u 49 0 = 0) (h52 : I u 52 0 = 0) : ∃ (u1 : St) (ρ : Nat → Int), fX0_make (zI r) u = fX0_make_L0 FU 0 (zI (0 : Nat)) u1 ∧ CMk u1 [((8 * r + sb false : Nat) : Int)] ρ [] (rng F.length) F.length nf [] [] 0 0 ∧ (∀ k x : Nat, F[k]? = some x → ρ x = -1 - (k : Int)) ∧ Fr PM u u1 := by
  obtain ⟨f1, f2, f3, f4, f5, f6, f7⟩ := hFB
  have hcw : cw w = w := by unfold cw; rw [if_pos (by omega)]
  obtain ⟨ua, hua⟩ : ∃ ua, uI (uI (uI (uI (uI u 6 1 (zI 0)) 6 4 (zI 0)) 6 7 (zI 0)) 6 10 (zI 0)) 6 11 (zI 0) = ua := ⟨_, rfl⟩
  have Fa : Fr (fun k i => k == 6 && (i == 1 || i == 4 || i == 7 || i == 10 || i == 11)) u ua := by rw [← hua]; exact Fr_up rfl (Fr_up rfl (Fr_up rfl (Fr_up rfl (Fr_up rfl (Fr_rfl _ _)))))
  have a6 : ∀ i, (i = 1 ∨ i = 4 ∨ i = 7 ∨ i = 10 ∨ i = 11) → I ua 6 i = 0 := by
    intro i hi
    rw [← hua]
    rcases hi with h | h | h | h | h <;> subst h <;> simp (disch := omega) only [I_uI1, I_uI2]
  obtain ⟨ub, hub⟩ : ∃ ub, uI (uI (uI (uI (uI ua 5 4 (zI 0)) 5 5 (zI 0)) 5 10 (zI 0)) 5 12 (zI 0)) 5 13 (zI 0) = ub := ⟨_, rfl⟩
  have Fb : Fr (fun k i => k == 5 && (i == 4 || i == 5 || i == 10 || i == 12 || i == 13)) ua ub := by rw [← hub]; exact Fr_up rfl (Fr_up rfl (Fr_up rfl (Fr_up rfl (Fr_up rfl (Fr_rfl _ _)))))
  have b5 : ∀ i, (i = 4 ∨ i = 5 ∨ i = 10 ∨ i = 12 ∨ i = 13) → I ub 5 i = 0 := by
    intro i hi
    rw [← hub]
    rcases hi with h | h | h | h | h <;> subst h <;> simp (disch := omega) only [I_uI1, I_uI2]
  have Fab : Fr (fun k i => (k == 6 && (i == 1 || i == 4 || i == 7 || i == 10 || i == 11)) || (k == 5 && (i == 4 || i == 5 || i == 10 || i == 12 || i == 13))) u ub := Fr_tr (Fr_up2 (fun k i hk => by simp at hk; simp [hk]) Fa) (Fr_up2 (fun k i hk => by simp at hk; simp [hk]) Fb)
  obtain ⟨uc, q1, q2, q3, q4, q5, q6⟩ := mk_free (F := F) (r := r) hFl f5 (fun x hx => by
    obtain ⟨i, hi⟩ := List.mem_iff_getElem?.1 hx
    have := (f4 i x hi).2; omega) F.length 0 (FU - (F.length + 1)) ub (by omega) (by rw [Fr_I Fab rfl]; exact f3) (fun k x hk => by rw [Fr_I Fab rfl]; exact (f4 k x hk).1) (b5 13 (by simp)) (b5 12 (by simp)) trivial (fun k x hk => by omega)
  have hW : WK uc [] := ⟨by rw [Fr_I q6 rfl]; exact b5 4 (by simp), trivial⟩
  obtain ⟨ud, p1, p2, p3⟩ := cpush_spec (sb false) r (sb_lt _) (by omega) (by simp) hW
  have Fcd : Fr P42 uc ud := p3
  have FX : Fr (fun k i => (k == 6 && (i == 1 || i == 4 || i == 7 || i == 10 || i == 11)) || (k == 5 && (i == 4 || i == 5 || i == 10 || i == 12 || i == 13)) || k == 42 || k == 43 || k == 47) u ud := Fr_tr (Fr_up2 (fun k i hk => by simp at hk; simp; omega) Fab) (Fr_tr (Fr_up2 (fun k i hk => by simp [Pmf] at hk; simp; omega) q6) (Fr_up2 (fun k i hk => by simp [P42] at hk; simp; omega) Fcd))
  have e6 : ∀ i, (i = 1 ∨ i = 4 ∨ i = 7 ∨ i = 10 ∨ i = 11) → I ud 6 i = 0 := fun i hi => by rw [Fr_I p3 rfl, Fr_I q6 rfl, Fr_I Fb rfl]; exact a6 i hi
  refine ⟨ud, fun x => I ud 43 x, ?_, ⟨p2, by rw [Fr_I p3 rfl, Fr_I q6 rfl]; exact b5 5 (by simp), fun x _ => rfl, ⟨by rw [Fr_I p3 rfl, Fr_I q6 rfl]; exact b5 10 (by simp), trivial⟩, ⟨by rw [Fr_I p3 rfl, q3, rng_len], RWl_eq _ _ (fun i _ _ => Fr_I p3 rfl) q4, by rw [rng_len]; omega⟩, by rw [Fr_I p3 rfl]; exact q2, by rw [Fr_I FX rfl]; exact h24, e6 1 (by simp), e6 4 (by simp), e6 7 (by simp), e6 10 (by simp), e6 11 (by simp), by simp [tt], by simp [tt], by simp [tm], by rw [Fr_I FX rfl]; exact h49, by rw [show tt ([] : List Cs) = 0 from rfl, Fr_I FX rfl]; exact h52, by omega, trivial⟩, fun k x hk => by show I ud 43 x = _; rw [Fr_I p3 rfl]; exact q5 k x hk, Fr_up2 (fun k i hk => by simp at hk; simp [PM]; omega) FX⟩
  have q1' : fX0_make_L1 FU 0 (zI r) 0 ub = (bd (fX0_push 0 (zI r) uc) fun u14 => fX0_make_L0 FU 0 (zI (0 : Nat)) u14) := by
    rw [show FU - (F.length + 1) + (F.length + 1) = FU by unfold FU; omega] at q1; exact q1
  unfold fX0_make
  have hb : fX10_begin u = some ua := by unfold fX10_begin; rw [← hua]; rfl
  rw [gI_z u 3 6, if_neg (by rw [z_lit, z_lt (by decide) (by decide) (by omega) (by omega)]; omega), ld_z _ _ _ _ (by omega) (by omega), bd_s, Int.toNat_natCast, h36, hcw, gI_z u 3 12, f3, z_add, if_pos (by rw [z_lit, z_le (by omega) (by omega) (by decide) (by decide)]; omega), hb, bd_s, lt_e, lt_e, lt_e, lt_e, lt_e, lt_e]
  have hub' : uI (uI (uI (uI (uI ua 5 4 0) 5 5 0) 5 10 0) 5 12 0) 5 13 0 = ub := hub
  rw [hub', q1']
  have p1' : fX0_push 0 (zI r) uc = some ud := p1
  rw [p1', bd_s]
/-- what a formula needs is little -/
theorem BD_top {ch w g h q c e : Nat} (hB : BDf 0 2 ch w g h q c e) (hch : ch ≤ 1500) (hw : w ≤ 3000) : g ≤ 4497 ∧ h ≤ 120 ∧ q ≤ 30 ∧ c ≤ 372000 ∧ 1 ≤ w ∧ ∀ k, k ≤ w → 2 * k ≤ c → k ≤ 250 * ch := by
  obtain ⟨b1, b2, b3, b4, b5, b6, b7, b8⟩ := hB
  have he : e ≤ 11 := by
    rcases Nat.lt_or_ge 11 e with h1 | h1
    · have : 2 ^ 12 ≤ 2 ^ e := Nat.pow_le_pow_right (by decide) h1
      have : (2 : Nat) ^ 12 = 4096 := by decide
      omega
    · exact h1
  refine ⟨by omega, by omega, by omega, by omega, b1, fun k k1 k2 => ?_⟩
  rcases Nat.lt_or_ge ch 12 with h1 | h1
  · have : ch = 0 ∨ ch = 1 ∨ ch = 2 ∨ ch = 3 ∨ ch = 4 ∨ ch = 5 ∨ ch = 6 ∨ ch = 7 ∨ ch = 8 ∨ ch = 9 ∨ ch = 10 ∨ ch = 11 := by omega
    rcases this with h | h | h | h | h | h | h | h | h | h | h | h <;> subst h <;> simp at b8 <;> omega
  · omega
theorem mk_done {u : St} {x : Nat} (F : Nat) (h4 : I u 5 4 = 0) : fX0_make_L0 (F + 1) 0 (zI x) u = fX0_make_j178 u ∨ fX0_make_L0 (F + 1) 0 (zI x) u = fX0_make_j178 u := by
  left
  have sx : fX0_make_L0 (F + 1) 0 (zI x) u = fX0_make_L0_0 (fX0_make_L0 F) (zI x) u := rfl
  rw [sx]
  unfold fX0_make_L0_0
  rw [gI_z u 5 4, h4, if_pos (show zI 0 ≤ 0 by decide), ite_self]
theorem mk_big {u : St} {x : Nat} (F : Nat) (hx : x < 1000000) (h5 : I u 5 5 = 1) : fX0_make_L0 (F + 1) 0 (zI x) u = some (0, u) := by
  have sx : fX0_make_L0 (F + 1) 0 (zI x) u = fX0_make_L0_0 (fX0_make_L0 F) (zI x) u := rfl
  have hj : fX0_make_j178 u = some (0, u) := by
    unfold fX0_make_j178
    rw [gI_z u 5 5, h5, if_neg (by decide)]
  rw [sx]
  unfold fX0_make_L0_0
  rw [gI_z u 5 5, h5, if_neg (show ¬ zI 1 = 0 by decide), ite_self, ite_self, hj]
theorem FAr_of {u v : St} {S F nb N : Nat} {c : Nat → Int} (hS : S ≤ 900) (hF : F ≤ nb) (h : SYr u v S F N c) : FAr v nb N c := fun q hq h0 f hf hn => by
  rcases h q hq h0 with ⟨s, s1, s0, s2, s3⟩ | ⟨g, g1, g2, g3, g4⟩ <;> omega
theorem SYr_F {u v : St} {S F F' N : Nat} {c : Nat → Int} (hF : F ≤ F') (h : SYr u v S F N c) : SYr u v S F' N c := fun p hp h0 => by
  rcases h p hp h0 with h | ⟨g, g1, g2, g3⟩
  · exact Or.inl h
  · exact Or.inr ⟨g, g1, by omega, g3⟩
/-- all clauses are short enough: the class looks once more -/
theorem dv_loop {u : St} {NL CT M : Nat} (hM : M ≤ 6000) (r : Cs) : ∀ (s F : Nat), s + r.length ≤ 600 → SE u NL CT M s r → I u 54 0 = ((s + r.length : Nat) : Int) → r.length < F → ((∀ c, c ∈ r → c.length ≤ 12) → fX10_deliver_L1 F 0 (zI s) u = bd (ld u 53 400 0) fun v13 => fX10_deliver_L0 FU 0 v13 u) ∧ ((∃ c, c ∈ r ∧ 12 < c.length) → fX10_deliver_L1 F 0 (zI s) u = some (0, u)) := by
  induction r with
  | nil =>
    intro s F hs hSE h54 hF
    obtain ⟨F1, rfl⟩ : ∃ F1, F = F1 + 1 := ⟨F - 1, by omega⟩
    simp only [List.length_nil, Nat.add_zero] at h54
    refine ⟨fun _ => ?_, fun ⟨c, hc, _⟩ => by cases hc⟩
    have sx : fX10_deliver_L1 (F1 + 1) 0 (zI s) u = fX10_deliver_L1_0 (fX10_deliver_L1 F1) (zI s) u := rfl
    have h54' : ld u 54 400 0 = some (zI (s : Int)) := by rw [show (0 : Int32) = zI (0 : Nat) from rfl, ld_z _ _ _ _ (by omega) (by omega), Int.toNat_natCast, h54]
    rw [sx]
    unfold fX10_deliver_L1_0
    rw [h54', bd_s, if_pos (by rw [z_le (by omega) (by omega) (by omega) (by omega)]; omega)]
  | cons a r ih =>
    intro s F hs hSE h54 hF
    simp only [List.length_cons] at hs h54 hF
    obtain ⟨F1, rfl⟩ : ∃ F1, F = F1 + 1 := ⟨F - 1, by omega⟩
    obtain ⟨⟨q, a1, a2, a3, a4⟩, hSE2⟩ := hSE
    have sx : fX10_deliver_L1 (F1 + 1) 0 (zI s) u = fX10_deliver_L1_0 (fX10_deliver_L1 F1) (zI s) u := rfl
    have h54' : ld u 54 400 0 = some (zI ((s + (r.length + 1) : Nat) : Int)) := by rw [show (0 : Int32) = zI (0 : Nat) from rfl, ld_z _ _ _ _ (by omega) (by omega), Int.toNat_natCast, h54]
    have pre : fX10_deliver_L1_0 (fX10_deliver_L1 F1) (zI s) u = if a.length ≤ 12 then fX10_deliver_L1 F1 0 (zI ((s + 1 : Nat) : Int)) u else some (0, u) := by
      unfold fX10_deliver_L1_0
      rw [h54', bd_s, if_neg (by rw [z_le (by omega) (by omega) (by omega) (by omega)]; omega), show (zI (s : Int) + 1 : Int32) = zI ((s + 1 : Nat) : Int) by rw [show (1 : Int32) = zI 1 from rfl, z_add]; rfl, ld_z _ _ _ _ (by omega) (by omega), bd_s, ld_z _ _ _ _ (by omega) (by omega), bd_s, Int.toNat_natCast, Int.toNat_natCast, a1, a2, z_sub, lt_e]
      by_cases h12 : a.length ≤ 12
      · rw [if_pos (by rw [z_lit, z_le (by omega) (by omega) (by decide) (by decide)]; omega), if_pos h12]
      · rw [if_neg (by rw [z_lit, z_le (by omega) (by omega) (by decide) (by decide)]; omega), if_neg h12]
    have := ih (s + 1) F1 (by omega) hSE2 (by rw [h54]; congr 1; omega) (by omega)
    rw [sx, pre]
    refine ⟨fun h => ?_, fun ⟨c, hc, h12⟩ => ?_⟩
    · rw [if_pos (h a (by simp))]
      exact this.1 (fun c hc => h c (List.mem_cons_of_mem _ hc))
    · by_cases ha : a.length ≤ 12
      · rw [if_pos ha]
        rcases List.mem_cons.1 hc with hc | hc
        · subst hc; omega
        · exact this.2 ⟨c, hc, h12⟩
      · rw [if_neg ha]
