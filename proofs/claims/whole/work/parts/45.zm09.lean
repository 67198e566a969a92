/-! the reference: stands -/
def SK (ka kb : Nat) (v : St) : List (Nat × Int) → Prop
  | [] => True
  | x :: l => I v ka l.length = x.1 ∧ I v kb l.length = x.2 ∧ SK ka kb v l
theorem SK_eq {ka kb : Nat} {v v' : St} (l : List (Nat × Int)) : ∀ m, l.length ≤ m → (∀ i, i < m → I v' ka i = I v ka i ∧ I v' kb i = I v kb i) → SK ka kb v l → SK ka kb v' l := by
  induction l with
  | nil => intro _ _ _ _; trivial
  | cons x l ih =>
    intro m hm h hA
    simp only [List.length_cons] at hm
    have := h l.length (by omega)
    exact ⟨this.1.trans hA.1, this.2.trans hA.2.1, ih m (by omega) h hA.2.2⟩
theorem SK_fr {P : Nat → Nat → Bool} {ka kb : Nat} {v v' : St} {l : List (Nat × Int)} (hF : Fr P v v') (h1 : ∀ i, P ka i = false) (h2 : ∀ i, P kb i = false) (h : SK ka kb v l) : SK ka kb v' l := SK_eq l _ (Nat.le_refl _) (fun i _ => ⟨Fr_I hF (h1 i), Fr_I hF (h2 i)⟩) h
def PRS : Nat → Nat → Bool := fun k i => k == 165 || k == 166 || (k == 100 && (i == 95 || i == 96 || i == 97 || i == 98 || i == 116))
theorem rpush_step (rec : Nat → Int32 → Int32 → Int32 → Int32 → Int32 → St → Option (Int32 × St)) (x1 : Int32) (b : Int) (n r k L er : Nat) (u : St) (hk : k < n) (hL : L + n ≤ 20100) (h116 : I u 100 116 = L) (hr : r < 20000) (hb1 : -2147483648 ≤ b) (hb2 : b < 2147483648) (her : I u 112 r = er) :
    ∃ U, fX12_stands_L0_1 rec x1 (zI b) (zI n) (zI r) (zI k) u = rec 1 x1 (zI b) (zI n) (zI er) (zI ((k + 1 : Nat) : Int)) U ∧ (∀ i, I U 165 i = if i = L + n - 1 - k then (r : Int) else I u 165 i) ∧ (∀ i, I U 166 i = if i = L + n - 1 - k then b else I u 166 i) ∧ Fr (fun k _ => k == 165 || k == 166) u U := by
  have e1 : ((L : Int) + n - 1 - k).toNat = L + n - 1 - k := by omega
  have e2 : ((k + 1 : Nat) : Int) = (k : Int) + 1 := by omega
  unfold fX12_stands_L0_1
  simp (disch := omega) only [z_lit, gI_z, h116, z_le, if_neg, if_false, z_add, z_sub, st_z, bd_s, e1, I_uI2, ld_z, Int.toNat_natCast, her, lt_e, e2]
  refine ⟨_, rfl, ?_, ?_, ?_⟩
  · intro i
    by_cases h : i = L + n - 1 - k
    · subst h; simp (disch := omega) only [I_uI1, I_uI2, if_pos, if_true]
    · simp (disch := omega) only [I_uI1, I_uI2, if_neg, if_false]
  · intro i
    by_cases h : i = L + n - 1 - k
    · subst h; simp (disch := omega) only [I_uI1, I_uI2, if_pos, if_true]
    · simp (disch := omega) only [I_uI1, I_uI2, if_neg, if_false]
  · exact Fr_up rfl (Fr_up rfl (Fr_rfl _ _))
theorem rpush_end (rec : Nat → Int32 → Int32 → Int32 → Int32 → Int32 → St → Option (Int32 × St)) (x1 b : Int32) (r : Int32) (n L : Nat) (u : St) (hL : L + n ≤ 20100) (h116 : I u 100 116 = L) :
    fX12_stands_L0_1 rec x1 b (zI n) r (zI n) u = rec 0 x1 0 0 0 0 (uI u 100 116 (zI ((L + n : Nat) : Int))) := by
  have e2 : ((L + n : Nat) : Int) = (L : Int) + n := by omega
  unfold fX12_stands_L0_1
  simp (disch := omega) only [z_lit, gI_z, h116, z_le, if_pos, if_true, z_add, lt_e, e2]
theorem rpush_loop {v0 : St} {c : Nat → Int} {e : Nat → Nat} {N : Nat} (x1 : Int32) (b : Int) (hb1 : -2147483648 ≤ b) (hb2 : b < 2147483648) (l : List (Nat × Int)) (n : Nat) (hL : l.length + n ≤ 20100) (m : Nat) : ∀ (F r k : Nat) (u : St), n = k + m → RT u c e N → sg e N m r → I u 100 116 = l.length → SK 165 166 u l →
    ∃ U, fX12_stands_L0 (F + m + 1) 1 x1 (zI b) (zI n) (zI r) (zI k) u = fX12_stands_L0 F 0 x1 0 0 0 0 U ∧ I U 100 116 = ((l.length + n : Nat) : Int) ∧ SK 165 166 U (items e m r b ++ l) ∧ (∀ i, l.length + m ≤ i → I U 165 i = I u 165 i ∧ I U 166 i = I u 166 i) ∧ Fr (fun k i => k == 165 || k == 166 || (k == 100 && i == 116)) u U := by
  induction m with
  | zero =>
    intro F r k u hk hRT hsg h116 hS
    have hk' : n = k := by omega
    subst hk'
    refine ⟨_, rpush_end _ x1 (zI b) (zI r) n l.length u hL h116, I_uI1 _ _ _ _ (by omega) (by omega), ?_, ?_, Fr_up rfl (Fr_rfl _ _)⟩
    · exact SK_fr (P := fun k _ => k == 100) (Fr_up rfl (Fr_rfl _ _)) (fun _ => rfl) (fun _ => rfl) hS
    · intro i _; exact ⟨I_uI3 _ _ _ _ _ _ (by decide), I_uI3 _ _ _ _ _ _ (by decide)⟩
  | succ m ih =>
    intro F r k u hk hRT hsg h116 hS
    obtain ⟨s1, s2, s3⟩ := hsg
    have hN := hRT.1
    obtain ⟨U, u1, u2, u3, u4⟩ := rpush_step (fX12_stands_L0 (F + m + 1)) x1 b n r k l.length (e r) u (by omega) hL h116 (by omega) hb1 hb2 (hRT.2.1 r s1).2.2.2
    have hS' : SK 165 166 U l := by
      refine SK_eq l l.length (Nat.le_refl _) (fun i hi => ?_) hS
      rw [u2, u3, if_neg (by omega), if_neg (by omega)]; exact ⟨rfl, rfl⟩
    obtain ⟨U', r1, r2, r3, r4, r5⟩ := ih F (e r) (k + 1) U (by omega) (RT_fr u4 (fun _ => rfl) (fun _ => rfl) (fun _ => rfl) hRT) s3 (by rw [Fr_I u4 rfl, h116]) hS'
    refine ⟨U', u1.trans r1, r2, ?_, ?_, ?_⟩
    · have h1 := r4 (l.length + m) (by omega)
      have e1 : l.length + n - 1 - k = l.length + m := by omega
      refine ⟨?_, ?_, r3⟩
      · show I U' 165 (items e m (e r) b ++ l).length = r
        rw [List.length_append, items_len, Nat.add_comm, h1.1, u2, if_pos (by omega)]
      · show I U' 166 (items e m (e r) b ++ l).length = b
        rw [List.length_append, items_len, Nat.add_comm, h1.2, u3, if_pos (by omega)]
    · intro i hi
      have h1 := r4 i (by omega)
      rw [h1.1, h1.2, u2, u3, if_neg (by omega), if_neg (by omega)]; exact ⟨rfl, rfl⟩
    · refine Fr_tr (Fr_mono (fun k i hk => ?_) u4) r5
      simp only [Bool.or_eq_false_iff] at hk ⊢
      exact hk.1
theorem PF_PRS {u u' : St} (h : Fr PF u u') : Fr PRS u u' := Fr_mono (fun k i hk => by
  unfold PRS at hk; unfold PF
  by_cases h1 : k = 100
  · subst h1; simp at hk ⊢; omega
  · simp [h1]) h
theorem PCo_PRS {u u' : St} (h : Fr PCo u u') : Fr PRS u u' := Fr_mono (fun k i hk => by
  unfold PRS at hk; unfold PCo
  by_cases h1 : k = 100
  · subst h1; simp at hk ⊢; omega
  · simp [h1]) h
theorem RE_PRS {u u' : St} {c : Nat → Int} {e : Nat → Nat} {N : Nat} {V : Int} {T : List (Nat × Nat × Int)} (hF : Fr PRS u u') (h : RE u c e N V T) : RE u' c e N V T := RE_fr hF (fun _ => rfl) (fun _ => rfl) (fun _ => rfl) (fun _ => rfl) (fun _ => rfl) h
theorem rstands_loop {c : Nat → Int} {e : Nat → Nat} {N : Nat} {V : Int} {T : List (Nat × Nat × Int)} {ρ : Nat → Nat} (hT : TOK c e N) (hB : BOK c e N V T ρ) (v : Int) (hv0 : 0 ≤ v) (hv1 : v < 1000) (n : Nat) : ∀ (fuel : Nat) (u : St) (l : List (Nat × Int)), n ≤ 4000 → 8 * n + 8 < fuel → l.length + 4 * n ≤ 16005 → I u 100 97 = 4000 - n → I u 100 98 = 0 → I u 100 116 = l.length → RE u c e N V T → SK 165 166 u l → (∀ x ∈ l, OK c e N V T ρ 220 x ∧ -2147483648 ≤ x.2 ∧ x.2 < 2147483648) →
    ∃ u', fX12_stands_L0 fuel 0 (zI v) 0 0 0 0 u = some (zI (if (stS c e T v n l).1 = 0 then 0 else 1), u') ∧ I u' 100 97 = (if (stS c e T v n l).1 = 2 then 4001 else 4000 - ((stS c e T v n l).2 : Int)) ∧ I u' 100 98 = (if (stS c e T v n l).1 = 2 then 1 else 0) ∧ Fr PRS u u' := by
  induction n with
  | zero =>
    intro fuel u l hn hf hlen h97 h98 h116 hE hS hO
    obtain ⟨g, rfl⟩ : ∃ g, fuel = g + 1 := ⟨fuel - 1, by omega⟩
    cases l with
    | nil =>
      refine ⟨u, ?_, by simp [stS, h97], by simp [stS, h98], Fr_rfl _ _⟩
      show fX12_stands_L0_0 _ (zI v) u = _
      unfold fX12_stands_L0_0
      have h116' : I u 100 116 = 0 := h116
      simp (disch := omega) only [z_lit, gI_z, h116', z_le, if_pos, if_true, stS]
    | cons x l =>
      have hx := hO x (by simp)
      have h116' : I u 100 116 = (l.length : Int) + 1 := by simpa using h116
      simp only [List.length_cons] at hlen
      have e1 : (l.length : Int) + 1 - 1 = l.length := by omega
      have hF1 : Fr PRS u (uI u 100 116 (zI l.length)) := Fr_up rfl (Fr_rfl _ _)
      obtain ⟨u1, f1, f2, f3, f4⟩ := follow_spec hT hB (r := 220) (x := x) (by decide) hx.2.1 hx.2.2 hx.1 (RE_PRS hF1 hE)
      obtain ⟨u2, c1, c2, c3, c4⟩ := counted_spec u1 0 (by decide) (by rw [Fr_I f4 rfl, I_uI2 _ _ _ _ _ _ (by omega), h97]) (by rw [Fr_I f4 rfl, I_uI2 _ _ _ _ _ _ (by omega), h98])
      refine ⟨u2, ?_, by simpa [stS] using c2, by simpa [stS] using c3, Fr_tr (Fr_tr hF1 (PF_PRS f4)) (PCo_PRS c4)⟩
      show fX12_stands_L0_0 _ (zI v) u = _
      unfold fX12_stands_L0_0
      have s1 := hS.1
      have s2 := hS.2.1
      simp (disch := omega) only [z_lit, gI_z, h116', z_le, if_neg, if_false, lt_e, z_sub, e1, I_uI1, I_uI2, ld_z, bd_s, Int.toNat_natCast, s1, s2, f1, c1, b2_s, if_true, z_eq, if_pos, stS]
      rfl
  | succ n ih =>
    intro fuel u l hn hf hlen h97 h98 h116 hE hS hO
    obtain ⟨g, rfl⟩ : ∃ g, fuel = g + 1 := ⟨fuel - 1, by omega⟩
    cases l with
    | nil =>
      refine ⟨u, ?_, by simp [stS, h97], by simp [stS, h98], Fr_rfl _ _⟩
      show fX12_stands_L0_0 _ (zI v) u = _
      unfold fX12_stands_L0_0
      have h116' : I u 100 116 = 0 := h116
      simp (disch := omega) only [z_lit, gI_z, h116', z_le, if_pos, if_true, stS]
    | cons x l =>
      have hx := hO x (by simp)
      have h116' : I u 100 116 = (l.length : Int) + 1 := by simpa using h116
      simp only [List.length_cons] at hlen
      have e1 : (l.length : Int) + 1 - 1 = l.length := by omega
      have hF1 : Fr PRS u (uI u 100 116 (zI l.length)) := Fr_up rfl (Fr_rfl _ _)
      have hE1 := RE_PRS hF1 hE
      obtain ⟨u1, f1, f2, f3, f4⟩ := follow_spec hT hB (r := 220) (x := x) (by decide) hx.2.1 hx.2.2 hx.1 hE1
      obtain ⟨u2, c1, c2, c3, c4⟩ := counted_spec u1 (n + 1) hn (by rw [Fr_I f4 rfl, I_uI2 _ _ _ _ _ _ (by omega), h97]) (by rw [Fr_I f4 rfl, I_uI2 _ _ _ _ _ _ (by omega), h98])
      have hF2 : Fr PRS u u2 := Fr_tr (Fr_tr hF1 (PF_PRS f4)) (PCo_PRS c4)
      have hE2 := RE_PRS hF2 hE
      obtain ⟨d1, d2⟩ := dr_spec hT hB (by decide) hx.1
      have hS2 : SK 165 166 u2 l := by
        refine SK_fr (P := fun k _ => k == 100) ?_ (fun _ => rfl) (fun _ => rfl) hS.2.2
        refine Fr_tr (Fr_tr (Fr_up rfl (Fr_rfl _ _)) (Fr_mono ?_ f4)) (Fr_mono ?_ c4)
        · intro k i hk; unfold PF; simp at hk ⊢; simp [hk]
        · intro k i hk; unfold PCo; simp at hk ⊢; simp [hk]
      have h116b : I u2 100 116 = l.length := by rw [Fr_I c4 rfl, Fr_I f4 rfl, I_uI1 _ _ _ _ (by omega) (by omega)]
      have h97b : I u2 100 97 = 4000 - (n : Int) := by rw [c2]; omega
      have h98b : I u2 100 98 = 0 := by rw [c3]; simp
      have s1 := hS.1
      have s2 := hS.2.1
      have hdN := d2.1
      have hN := hE.1.1
      obtain ⟨t1, t2, t3, t4⟩ := hE2.1.2.1 _ hdN
      have b1 := I_lo u2 111 (dr c T x).1
      have b2 := I_hi u2 111 (dr c T x).1
      have hbb : -2147483648 ≤ (dr c T x).2 ∧ (dr c T x).2 < 2147483648 := by rw [← f3]; exact ⟨I_lo _ _ _, I_hi _ _ _⟩
      obtain ⟨tk1, tk2, tk3, tk4, tk5⟩ := hT _ hdN
      by_cases hc : c (dr c T x).1 < 0
      · have hq := OK_head hT d2 hc
        have hq1 : 0 ≤ (dr c T x).2 - 1 - c (dr c T x).1 := hq.1
        have hq2 : (dr c T x).2 - 1 - c (dr c T x).1 < V := hq.2.1
        have hV := hE.2.1
        have htm := t1 hc
        rw [htm] at b1 b2
        by_cases hcv : hv c (dr c T x) = v
        · have hst : stS c e T v (n + 1) (x :: l) = (1, n) := by simp only [stS]; rw [if_pos ⟨hc, hcv⟩]
          rw [hst]
          refine ⟨u2, ?_, h97b, h98b, hF2⟩
          show fX12_stands_L0_0 _ (zI v) u = _
          unfold fX12_stands_L0_0
          have hcv' : (dr c T x).2 - 1 - c (dr c T x).1 = v := hcv
          simp (disch := omega) only [z_lit, gI_z, h116', z_le, if_neg, if_false, lt_e, z_sub, e1, I_uI1, I_uI2, ld_z, bd_s, Int.toNat_natCast, s1, s2, f1, f2, f3, c1, b2_s, if_true, z_eq, if_pos, htm, hcv']
        · have hst : stS c e T v (n + 1) (x :: l) = stS c e T v n l := by
            simp only [stS]; rw [if_neg (fun h => hcv h.2)]
            have : args c e (dr c T x) = [] := by unfold args ar; rw [if_pos hc]; rfl
            rw [this, List.nil_append]
          rw [hst]
          obtain ⟨u3, m1, m2, m3, m4⟩ := ih g u2 l (by omega) (by omega) (by omega) h97b h98b h116b hE2 hS2 (fun y hy => hO y (by simp [hy]))
          refine ⟨u3, ?_, m2, m3, Fr_tr hF2 m4⟩
          rw [← m1]
          show fX12_stands_L0_0 _ (zI v) u = _
          unfold fX12_stands_L0_0
          have hcv' : ¬ (dr c T x).2 - 1 - c (dr c T x).1 = v := hcv
          simp (disch := omega) only [z_lit, gI_z, h116', z_le, if_neg, if_false, lt_e, z_sub, e1, I_uI1, I_uI2, ld_z, bd_s, Int.toNat_natCast, s1, s2, f1, f2, f3, c1, b2_s, if_true, z_eq, if_pos, htm]
      · have hst : stS c e T v (n + 1) (x :: l) = stS c e T v n (args c e (dr c T x) ++ l) := by
          simp only [stS]; rw [if_neg (fun h => hc h.1)]
        rw [hst]
        have htm := t2 (by omega)
        have e3 : g = (g - (ar c (dr c T x).1) - 1) + (ar c (dr c T x).1) + 1 := by omega
        obtain ⟨U, p1, p2, p3, p4, p5⟩ := rpush_loop (v0 := u) (c := c) (zI v) (dr c T x).2 hbb.1 hbb.2 l (ar c (dr c T x).1) (by omega) (ar c (dr c T x).1) (g - (ar c (dr c T x).1) - 1) ((dr c T x).1 + 1) 0 u2 (by omega) hE2.1 tk5 h116b hS2
        have hF3 : Fr PRS u2 U := Fr_mono (fun k i hk => by
          unfold PRS at hk
          by_cases h1 : k = 100
          · subst h1; simp at hk ⊢; omega
          · simp [h1] at hk ⊢; exact hk) p5
        obtain ⟨u3, m1, m2, m3, m4⟩ := ih (g - (ar c (dr c T x).1) - 1) U (args c e (dr c T x) ++ l) (by omega) (by omega) (by unfold args; rw [List.length_append, items_len]; omega) (by rw [Fr_I p5 rfl, h97b]) (by rw [Fr_I p5 rfl, h98b]) (by rw [p2]; unfold args; rw [List.length_append, items_len]; congr 1; omega) (RE_PRS hF3 hE2) p3 (by
          intro y hy
          rcases List.mem_append.1 hy with hy | hy
          · refine ⟨OK_args hT d2 hy, ?_⟩
            have := (items_mem tk5 hy).2.2.2.1
            rw [this]; exact hbb
          · exact hO y (by simp [hy]))
        refine ⟨u3, ?_, m2, m3, Fr_tr (Fr_tr hF2 hF3) m4⟩
        rw [← m1, ← p1]
        show fX12_stands_L0_0 _ (zI v) u = _
        unfold fX12_stands_L0_0
        rw [← e3]
        have e4 : (((dr c T x).1 + 1 : Nat) : Int) = ((dr c T x).1 : Int) + 1 := by omega
        simp (disch := omega) only [z_lit, gI_z, h116', z_le, if_neg, if_false, lt_e, z_sub, z_add, e1, e4, I_uI1, I_uI2, ld_z, bd_s, Int.toNat_natCast, s1, s2, f1, f2, f3, c1, b2_s, if_true, z_eq, if_pos, t3]
        rfl
