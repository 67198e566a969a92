/-! binding, and the heads of the unifying loops -/
def TL (k : Nat) (u : St) : List Nat → Prop
  | [] => True
  | v :: t => I u k t.length = v ∧ TL k u t
theorem TL_eq {k : Nat} {u u' : St} (l : List Nat) : ∀ m, l.length ≤ m → (∀ i, i < m → I u' k i = I u k i) → TL k u l → TL k u' l := by
  induction l with
  | nil => intro _ _ _ _; trivial
  | cons x l ih =>
    intro m hm h hA
    simp only [List.length_cons] at hm
    exact ⟨(h l.length (by omega)).trans hA.1, ih m (by omega) h hA.2⟩
theorem TL_fr {P : Nat → Nat → Bool} {k : Nat} {u u' : St} {l : List Nat} (hF : Fr P u u') (h1 : ∀ i, P k i = false) (h : TL k u l) : TL k u' l := TL_eq l _ (Nat.le_refl _) (fun i _ => Fr_I hF (h1 i)) h
def TC (u : St) (T : List (Nat × Nat × Int)) : Prop := I u 7 11 = T.length ∧ TL 64 u (T.map (·.1))
def TR (v : St) (T : List (Nat × Nat × Int)) : Prop := I v 100 93 = T.length ∧ TL 156 v (T.map (·.1))
def PB : Nat → Nat → Bool := fun k i => k == 62 || k == 63 || k == 64 || (k == 7 && i == 11)
theorem bind_step (u : St) (x p L : Nat) (b : Int) (hx : x < 220) (hL : L < 220) (h : I u 7 11 = L) (hp : p < 20000) (hb1 : -2147483648 ≤ b) (hb2 : b < 2147483648) : ∃ U, fX5_bind (zI x) (zI p) (zI b) u = some U ∧ I U 7 11 = ((L + 1 : Nat) : Int) ∧ (∀ i, I U 62 i = if i = x then (p : Int) else I u 62 i) ∧ (∀ i, I U 63 i = if i = x then b else I u 63 i) ∧ (∀ i, I U 64 i = if i = L then (x : Int) else I u 64 i) ∧ Fr PB u U := by
  unfold fX5_bind
  simp (disch := omega) only [z_lit, gI_z, h, z_le, if_neg, if_false, st_z, bd_s, Int.toNat_natCast, I_uI2, lt_e, z_add]
  refine ⟨_, rfl, ?_, ?_, ?_, ?_, ?_⟩
  · rw [I_uI1 _ _ _ _ (by omega) (by omega)]; omega
  · intro i
    by_cases h : i = x
    · subst h; simp (disch := omega) only [I_uI1, I_uI2, if_pos, if_true]
    · simp (disch := omega) only [I_uI1, I_uI2, if_neg, if_false]
  · intro i
    by_cases h : i = x
    · subst h; simp (disch := omega) only [I_uI1, I_uI2, if_pos, if_true]
    · simp (disch := omega) only [I_uI1, I_uI2, if_neg, if_false]
  · intro i
    by_cases h : i = L
    · subst h; simp (disch := omega) only [I_uI1, I_uI2, if_pos, if_true]
    · simp (disch := omega) only [I_uI1, I_uI2, if_neg, if_false]
  · exact Fr_up rfl (Fr_up rfl (Fr_up rfl (Fr_up rfl (Fr_rfl _ _))))
theorem bind_spec {u : St} {T : List (Nat × Nat × Int)} {c : Nat → Int} {N : Nat} {V : Int} (x p : Nat) (b : Int) (hx : x < 220) (hL : T.length < 220) (hp : p < 20000) (hb1 : -2147483648 ≤ b) (hb2 : b < 2147483648) (hE : WE u c N V T) (hTC : TC u T) : ∃ U, fX5_bind (zI x) (zI p) (zI b) u = some U ∧ WE U c N V ((x, p, b) :: T) ∧ TC U ((x, p, b) :: T) ∧ Fr PB u U := by
  obtain ⟨U, u1, u2, u3, u4, u5, u6⟩ := bind_step u x p T.length b hx hL hTC.1 hp hb1 hb2
  refine ⟨U, u1, ⟨fun q hq => by rw [Fr_I u6 rfl]; exact hE.1 q hq, hE.2.1, hE.2.2.1, ?_⟩, ⟨by rw [u2]; simp, ⟨?_, ?_⟩⟩, u6⟩
  · intro w hw
    rw [u3, u4]
    simp only [lk]
    by_cases h : w = x
    · subst h; simp
    · simp only [if_neg h]; exact hE.2.2.2 w hw
  · simp only [List.length_map]; rw [u5, if_pos rfl]
  · refine TL_eq _ T.length (by simp) (fun i hi => ?_) hTC.2
    rw [u5, if_neg (by omega)]
def PRB : Nat → Nat → Bool := fun k i => PRS k i || k == 154 || k == 155 || k == 156 || (k == 100 && i == 93)
theorem rbind_step (u : St) (x p L : Nat) (b : Int) (hx : x < 220) (hL : L < 220) (h : I u 100 93 = L) (hp : p < 20000) (hb1 : -2147483648 ≤ b) (hb2 : b < 2147483648) : ∃ U, (bd (st u 154 300 (zI x) (zI p)) fun u4 => bd (st u4 155 300 (zI x) (zI b)) fun u5 => bd (st u5 156 400 (gI u5 100 93) (zI x)) fun u6 => lt (uI u6 100 93 ((gI u6 100 93) + 1)) fun u7 => some ((1 : Int32), u7)) = some (1, U) ∧ I U 100 93 = ((L + 1 : Nat) : Int) ∧ (∀ i, I U 154 i = if i = x then (p : Int) else I u 154 i) ∧ (∀ i, I U 155 i = if i = x then b else I u 155 i) ∧ (∀ i, I U 156 i = if i = L then (x : Int) else I u 156 i) ∧ Fr (fun k i => k == 154 || k == 155 || k == 156 || (k == 100 && i == 93)) u U := by
  simp (disch := omega) only [z_lit, gI_z, h, st_z, bd_s, Int.toNat_natCast, I_uI2, lt_e, z_add]
  refine ⟨_, rfl, ?_, ?_, ?_, ?_, ?_⟩
  · rw [I_uI1 _ _ _ _ (by omega) (by omega)]; omega
  · intro i
    by_cases h : i = x
    · subst h; simp (disch := omega) only [I_uI1, I_uI2, if_pos, if_true]
    · simp (disch := omega) only [I_uI1, I_uI2, if_neg, if_false]
  · intro i
    by_cases h : i = x
    · subst h; simp (disch := omega) only [I_uI1, I_uI2, if_pos, if_true]
    · simp (disch := omega) only [I_uI1, I_uI2, if_neg, if_false]
  · intro i
    by_cases h : i = L
    · subst h; simp (disch := omega) only [I_uI1, I_uI2, if_pos, if_true]
    · simp (disch := omega) only [I_uI1, I_uI2, if_neg, if_false]
  · exact Fr_up rfl (Fr_up rfl (Fr_up rfl (Fr_up rfl (Fr_rfl _ _))))
/-- the reference's bound: it looks, and binds if the variable doesn't stand there -/
theorem rbound_spec {c : Nat → Int} {e : Nat → Nat} {N : Nat} {V : Int} {T : List (Nat × Nat × Int)} {ρ : Nat → Nat} (hT : TOK c e N) (hB : BOK c e N V T ρ) (x n : Nat) (hx : (x : Int) < V) (hn : n ≤ 4000) {u : St} {y : Nat × Int} (h97 : I u 100 97 = 4000 - n) (h98 : I u 100 98 = 0) (hE : RE u c e N V T) (hTR : TR u T) (hL : T.length < 220) (hO : OK c e N V T ρ 220 y) (hb1 : -2147483648 ≤ y.2) (hb2 : y.2 < 2147483648) :
    ∃ U, fX12_bound (zI x) (zI y.1) (zI y.2) u = some (if (stS c e T x n [y]).1 = 0 then 1 else 0, U) ∧ I U 100 97 = (if (stS c e T x n [y]).1 = 2 then 4001 else 4000 - ((stS c e T x n [y]).2 : Int)) ∧ I U 100 98 = (if (stS c e T x n [y]).1 = 2 then 1 else 0) ∧ RE U c e N V (if (stS c e T x n [y]).1 = 0 then (x, y) :: T else T) ∧ TR U (if (stS c e T x n [y]).1 = 0 then (x, y) :: T else T) ∧ Fr PRB u U := by
  have hV := hE.2.1
  have hN := hE.1.1
  have hy := hO.1
  obtain ⟨u1, r1, r2, r3, r4⟩ := rstands_spec hT hB x (by omega) (by omega) n hn h97 h98 hE hO hb1 hb2
  have hE1 := RE_PRS r4 hE
  have hTR1 : TR u1 T := ⟨by rw [Fr_I r4 rfl]; exact hTR.1, TL_fr r4 (fun _ => rfl) hTR.2⟩
  have hP : Fr PRB u u1 := Fr_mono (fun k i hk => by unfold PRB at hk; simp only [Bool.or_eq_false_iff] at hk; exact hk.1.1.1.1) r4
  unfold fX12_bound
  rw [r1, b2_s]
  by_cases h : (stS c e T x n [y]).1 = 0
  · obtain ⟨U, k1, k2, k3, k4, k5, k6⟩ := rbind_step u1 x y.1 T.length y.2 (by omega) hL hTR1.1 (by omega) hb1 hb2
    refine ⟨U, ?_, ?_, ?_, ?_, ?_, ?_⟩
    · rw [if_pos h, if_pos h, if_pos (show zI 0 = 0 from rfl)]; exact k1
    · rw [Fr_I k6 rfl]; exact r2
    · rw [Fr_I k6 rfl]; exact r3
    · rw [if_pos h]
      refine ⟨RT_fr k6 (fun _ => rfl) (fun _ => rfl) (fun _ => rfl) hE1.1, hV, ?_⟩
      intro w hw
      rw [k3, k4]
      simp only [lk]
      by_cases h : w = x
      · subst h; simp
      · simp only [if_neg h]; exact hE1.2.2 w hw
    · rw [if_pos h]
      refine ⟨by rw [k2]; simp, ⟨?_, ?_⟩⟩
      · simp only [List.length_map]; rw [k5, if_pos rfl]
      · refine TL_eq _ T.length (by simp) (fun i hi => ?_) hTR1.2
        rw [k5, if_neg (by omega)]
    · refine Fr_tr hP (Fr_mono (fun k i hk => ?_) k6)
      unfold PRB at hk; simp only [Bool.or_eq_false_iff] at hk ⊢
      exact ⟨⟨⟨hk.1.1.1.2, hk.1.1.2⟩, hk.1.2⟩, hk.2⟩
  · refine ⟨u1, ?_, r2, r3, by rw [if_neg h]; exact hE1, by rw [if_neg h]; exact hTR1, hP⟩
    rw [if_neg h, if_neg h, if_neg (by decide)]
