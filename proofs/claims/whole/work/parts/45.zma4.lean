/-! reading: the maker's tasks, in the class -/
def WKl (u : St) : List Int → Prop
  | [] => True
  | x :: l => I u 42 l.length = x ∧ WKl u l
def WK (u : St) (l : List Int) : Prop := I u 5 4 = l.length ∧ WKl u l
theorem WKl_eq {u u' : St} (l : List Int) : ∀ m, l.length ≤ m → (∀ i, i < m → I u' 42 i = I u 42 i) → WKl u l → WKl u' l := by
  induction l with
  | nil => intro _ _ _ _; trivial
  | cons x l ih =>
    intro m hm h hA
    simp only [List.length_cons] at hm
    exact ⟨(h l.length (by omega)).trans hA.1, ih m (by omega) h hA.2⟩
theorem WK_fr {P : Nat → Nat → Bool} {u u' : St} {l : List Int} (hF : Fr P u u') (h1 : ∀ i, P 42 i = false) (h2 : P 5 4 = false) (h : WK u l) : WK u' l := ⟨by rw [Fr_I hF h2]; exact h.1, WKl_eq l _ (Nat.le_refl _) (fun i _ => Fr_I hF (h1 i)) h.2⟩
def P42 : Nat → Nat → Bool := fun k i => k == 42 || (k == 5 && i == 4)
theorem cpush_spec {u : St} {l : List Int} (w n : Nat) (hw : w < 8) (hn : n < 2000) (hl : l.length < 4500) (h : WK u l) : ∃ u', fX0_push (zI w) (zI n) u = some u' ∧ WK u' (((8 * n + w : Nat) : Int) :: l) ∧ Fr P42 u u' := by
  have e1 : I (uI u 42 l.length (zI ((8 * n + w : Nat) : Int))) 5 4 = l.length := by rw [I_uI3 _ _ _ _ _ _ (by decide)]; exact h.1
  refine ⟨uI (uI u 42 l.length (zI ((8 * n + w : Nat) : Int))) 5 4 (zI ((l.length + 1 : Nat) : Int)), ?_, ⟨I_uI1 _ _ _ _ (by omega) (by omega), ?_, ?_⟩, Fr_up rfl (Fr_up rfl (Fr_rfl _ _))⟩
  · unfold fX0_push
    rw [gI_z u 5 4, h.1, if_pos (by rw [z_lit, z_lt (by omega) (by omega) (by decide) (by decide)]; omega), show (3 : Int32) = zI 3 from rfl, show (31 : Int32) = zI 31 from rfl, z_shl3, z_or8 _ _ (by omega) (by omega) (by omega) (by omega), show (n : Int) * 8 + (w : Int) = ((8 * n + w : Nat) : Int) by omega, st_z _ _ _ _ _ (by omega) (by omega), bd_s, Int.toNat_natCast, gI_z _ 5 4, e1, show (1 : Int32) = zI 1 from rfl, z_add, lt_e, show (l.length : Int) + 1 = ((l.length + 1 : Nat) : Int) by omega]
  · rw [I_uI3 _ _ _ _ _ _ (by decide), I_uI1 _ _ _ _ (by omega) (by omega)]
  · exact WKl_eq l l.length (Nat.le_refl _) (fun i hi => by rw [I_uI3 _ _ _ _ _ _ (by decide), I_uI2 _ _ _ _ _ _ (by omega)]) h.2
def SCl (u : St) : List (Nat × Int × Nat) → Prop
  | [] => True
  | x :: l => I u 44 l.length = x.1 ∧ I u 45 l.length = x.2.1 ∧ I u 46 l.length = x.2.2 ∧ SCl u l
theorem SCl_eq {u u' : St} (l : List (Nat × Int × Nat)) : ∀ m, l.length ≤ m → (∀ i, i < m → I u' 44 i = I u 44 i ∧ I u' 45 i = I u 45 i ∧ I u' 46 i = I u 46 i) → SCl u l → SCl u' l := by
  induction l with
  | nil => intro _ _ _ _; trivial
  | cons x l ih =>
    intro m hm h hA
    simp only [List.length_cons] at hm
    have := h l.length (by omega)
    exact ⟨this.1.trans hA.1, this.2.1.trans hA.2.1, this.2.2.trans hA.2.2.1, ih m (by omega) h hA.2.2.2⟩
def SC (u : St) (l : List (Nat × Int × Nat)) : Prop := I u 5 10 = l.length ∧ SCl u l
def ARo (u : St) (ar : List Int) : Prop := I u 5 12 = ar.length ∧ RWl u 47 0 ar ∧ ar.length ≤ 290
def CMk (u : St) (ts : List Int) (ρ : Nat → Int) (scs : List (Nat × Int × Nat)) (ar : List Int) (na nf : Nat) (s G : List Cs) (CT NL : Nat) : Prop := WK u ts ∧ I u 5 5 = 0 ∧ (∀ x, x < 1501 → I u 43 x = ρ x) ∧ SC u scs ∧ ARo u ar ∧ I u 5 13 = na ∧ I u 2 4 = nf ∧ WY u s G CT NL
def PM : Nat → Nat → Bool := fun k i => (42 ≤ k && k ≤ 54 && (i != 0 || (k != 49 && k != 52))) || k == 5 || k == 6 || (k == 2 && i == 4)
theorem WY_fr {P : Nat → Nat → Bool} {u u' : St} {s G : List Cs} {CT NL : Nat} (hF : Fr P u u') (h1 : ∀ k i, (k = 6 ∨ k = 48 ∨ k = 49 ∨ k = 50 ∨ k = 51 ∨ k = 52 ∨ k = 53 ∨ k = 54) → P k i = false) (h : WY u s G CT NL) : WY u' s G CT NL := by
  obtain ⟨w1, w2, w3, w4, w5, w6, w7, w8, w9, w10, w11, w12⟩ := h
  have q : ∀ k i, (k = 6 ∨ k = 48 ∨ k = 49 ∨ k = 50 ∨ k = 51 ∨ k = 52 ∨ k = 53 ∨ k = 54) → I u' k i = I u k i := fun k i hk => Fr_I hF (h1 k i hk)
  exact ⟨by rw [q 6 1 (by simp)]; exact w1, by rw [q 6 4 (by simp)]; exact w2, by rw [q 6 7 (by simp)]; exact w3, by rw [q 6 10 (by simp)]; exact w4, by rw [q 6 11 (by simp)]; exact w5, w6, w7, w8, by rw [q 49 _ (by simp)]; exact w9, by rw [q 52 _ (by simp)]; exact w10, w11, SKs_mono ⟨fun i _ => q 48 i (by simp), fun i _ => q 49 i (by simp), fun i _ => q 50 i (by simp), fun i _ => q 51 i (by simp), fun i _ => q 52 i (by simp)⟩ (Nat.le_refl _) (Nat.le_refl _) (Nat.le_refl _) (Nat.le_refl _) _ (fun i _ => ⟨q 53 i (by simp), q 54 i (by simp)⟩) w12⟩
/-- tasks and the mark alone change -/
theorem CMk_task {P : Nat → Nat → Bool} {u u' : St} {ts ts' : List Int} {ρ : Nat → Int} {scs : List (Nat × Int × Nat)} {ar : List Int} {na nf : Nat} {s G : List Cs} {CT NL : Nat} (hF : Fr P u u') (hP : ∀ k i, P k i = true → k = 42 ∨ (k = 5 ∧ (i = 4 ∨ i = 5))) (hW : WK u' ts') (h5 : I u' 5 5 = 0) (h : CMk u ts ρ scs ar na nf s G CT NL) : CMk u' ts' ρ scs ar na nf s G CT NL := by
  obtain ⟨c1, c2, c3, c4, c5, c6, c7, c8⟩ := h
  have q : ∀ k i, ¬ (k = 42 ∨ (k = 5 ∧ (i = 4 ∨ i = 5))) → P k i = false := fun k i hk => by
    cases hp : P k i with
    | false => rfl
    | true => exact absurd (hP k i hp) hk
  exact ⟨hW, h5, fun x hx => by rw [Fr_I hF (q _ _ (by omega))]; exact c3 x hx, ⟨by rw [Fr_I hF (q _ _ (by omega))]; exact c4.1, SCl_eq _ _ (Nat.le_refl _) (fun i _ => ⟨Fr_I hF (q _ _ (by omega)), Fr_I hF (q _ _ (by omega)), Fr_I hF (q _ _ (by omega))⟩) c4.2⟩, ⟨by rw [Fr_I hF (q _ _ (by omega))]; exact c5.1, RWl_eq _ _ (fun i _ _ => Fr_I hF (q _ _ (by omega))) c5.2.1, c5.2.2⟩, by rw [Fr_I hF (q _ _ (by omega))]; exact c6, by rw [Fr_I hF (q _ _ (by omega))]; exact c7, WY_fr hF (fun k i hk => q k i (by omega)) c8⟩
theorem P42_c : ∀ k i, P42 k i = true → k = 42 ∨ (k = 5 ∧ (i = 4 ∨ i = 5)) := by intro k i hk; simp [P42] at hk; omega
theorem P42_PM : ∀ k i, P42 k i = true → PM k i = true := by intro k i hk; simp [P42] at hk; simp [PM]; omega
theorem Pwm_PM : ∀ k i, Pwm k i = true → PM k i = true := by intro k i hk; simp [Pwm, Pwo] at hk; simp [PM]; omega
theorem cmk_push {u : St} {ts : List Int} {ρ : Nat → Int} {scs : List (Nat × Int × Nat)} {ar : List Int} {na nf : Nat} {s G : List Cs} {CT NL : Nat} (w n : Nat) (hw : w < 8) (hn : n < 2000) (hl : ts.length < 4500) (h : CMk u ts ρ scs ar na nf s G CT NL) : ∃ u', fX0_push (zI w) (zI n) u = some u' ∧ CMk u' (((8 * n + w : Nat) : Int) :: ts) ρ scs ar na nf s G CT NL ∧ Fr P42 u u' := by
  obtain ⟨u', a1, a2, a3⟩ := cpush_spec w n hw hn hl h.1
  exact ⟨u', a1, CMk_task a3 P42_c a2 (by rw [Fr_I a3 rfl]; exact h.2.1) h, a3⟩
/-- a task is taken -/
theorem cmk_pop {u : St} {w n : Nat} {ts : List Int} {ρ : Nat → Int} {scs : List (Nat × Int × Nat)} {ar : List Int} {na nf : Nat} {s G : List Cs} {CT NL : Nat} (hw : w < 8) (hn : n < 2000) (hl : ts.length < 4500) (h : CMk u (((8 * n + w : Nat) : Int) :: ts) ρ scs ar na nf s G CT NL) : ∃ u8, (∀ (F x : Nat), x < 1000000 → fX0_make_L0 (F + 1) 0 (zI x) u = bd (fX0_perform (zI w) (zI n) u8) fun u11 => fX0_make_L0 F 0 (zI ((x + 1 : Nat) : Int)) u11) ∧ CMk u8 ts ρ scs ar na nf s G CT NL ∧ Fr P42 u u8 := by
  have h4 : I u 5 4 = ((ts.length + 1 : Nat) : Int) := h.1.1
  have h5 := h.2.1
  have F1 : Fr P42 u (uI u 5 4 (zI ts.length)) := Fr_up rfl (Fr_rfl _ _)
  have e4 : I (uI u 5 4 (zI ts.length)) 5 4 = ts.length := I_uI1 _ _ _ _ (by omega) (by omega)
  have e42 : I (uI u 5 4 (zI ts.length)) 42 ts.length = ((8 * n + w : Nat) : Int) := by rw [I_uI3 _ _ _ _ _ _ (by decide)]; exact h.1.2.1
  refine ⟨uI u 5 4 (zI ts.length), fun F x hx => ?_, CMk_task F1 P42_c ⟨e4, WKl_eq ts ts.length (Nat.le_refl _) (fun i _ => by rw [I_uI3 _ _ _ _ _ _ (by decide)]) h.1.2.2⟩ (by rw [I_uI2 _ _ _ _ _ _ (by decide)]; exact h5) h, F1⟩
  have sx : fX0_make_L0 (F + 1) 0 (zI x) u = fX0_make_L0_0 (fX0_make_L0 F) (zI x) u := rfl
  rw [sx]
  unfold fX0_make_L0_0
  rw [if_neg (by rw [z_lit, z_le (by decide) (by decide) (by omega) (by omega)]; omega), gI_z u 5 4, h4, if_neg (by rw [z_zero, z_le (by omega) (by omega) (by decide) (by decide)]; omega), gI_z u 5 5, h5, if_pos (show zI 0 = 0 from rfl), show (1 : Int32) = zI 1 from rfl, z_sub, show ((ts.length + 1 : Nat) : Int) - 1 = ts.length by omega, lt_e, gI_z _ 5 4, e4, ld_z _ _ _ _ (by omega) (by omega), bd_s, bd_s, Int.toNat_natCast, e42, show (7 : Int32) = zI 7 from rfl, z_and7, show (3 : Int32) = zI 3 from rfl, show (31 : Int32) = zI 31 from rfl, z_shr3 _ (by omega) (by omega), show ((8 * n + w : Nat) : Int) % 8 = w by omega, show ((8 * n + w : Nat) : Int) / 8 = n by omega, z_add, show (x : Int) + 1 = ((x + 1 : Nat) : Int) by omega]
  rfl
/-- what a task comes to: o is what it should become -/
def CX (u : St) (c w : Nat) (o : Option EvR) (ts : List Int) (ρ : Nat → Int) (scs : List (Nat × Int × Nat)) (ar : List Int) (na nf : Nat) (s G : List Cs) (Cm : Nat) : Prop := ∃ (u' : St) (N : Nat), N ≤ c ∧ (∀ F x, x + N ≤ 1000000 → fX0_make_L0 (F + N) 0 (zI x) u = fX0_make_L0 F 0 (zI ((x + N : Nat) : Int)) u') ∧ Fr PM u u' ∧ ((∃ E na' nf' z Gx CT' NL', o = some (E, na', nf') ∧ EZ E z Gx ∧ CMk u' ts ρ scs ar na' nf' (z :: s) (G ++ Gx) CT' NL' ∧ CT' ≤ Cm ∧ nf ≤ nf' ∧ nf' ≤ nf + w ∧ 2 * nf' ≤ 2 * nf + c ∧ na ≤ na' ∧ na' ≤ na + w) ∨ (I u' 5 5 = 1 ∧ (o = none ∨ ∃ E na' nf', o = some (E, na', nf') ∧ ov (mrun (s, G) E))))
theorem CX_pre {u u1 : St} {c w : Nat} {o : Option EvR} {ts : List Int} {ρ : Nat → Int} {scs : List (Nat × Int × Nat)} {ar : List Int} {na nf : Nat} {s G : List Cs} {Cm : Nat} (hX : ∀ (F x : Nat), x < 1000000 → fX0_make_L0 (F + 1) 0 (zI x) u = fX0_make_L0 F 0 (zI ((x + 1 : Nat) : Int)) u1) (hF : Fr PM u u1) (h : CX u1 c w o ts ρ scs ar na nf s G Cm) : CX u (c + 1) w o ts ρ scs ar na nf s G Cm := by
  obtain ⟨u', N, h1, h2, h3, h4⟩ := h
  refine ⟨u', N + 1, by omega, fun F x hx => ?_, Fr_tr hF h3, ?_⟩
  · rw [← Nat.add_assoc, hX _ _ (by omega), h2 F (x + 1) (by omega), show x + 1 + N = x + (N + 1) by omega]
  · rcases h4 with ⟨E, na', nf', z, Gx, CT', NL', q1, q2, q3, q4, q5, q6, q7, q8, q9⟩ | h4
    · exact Or.inl ⟨E, na', nf', z, Gx, CT', NL', q1, q2, q3, q4, q5, q6, by omega, q8, q9⟩
    · exact Or.inr h4
def jt (b : Bool) : Nat := if b then 2 else 3
theorem jt_lt (b : Bool) : jt b < 8 := by cases b <;> decide
/-- a join -/
theorem cmk_join {u : St} (b : Bool) {x y : Cs} {ts : List Int} {ρ : Nat → Int} {scs : List (Nat × Int × Nat)} {ar : List Int} {na nf : Nat} {s G : List Cs} {CT NL : Nat} (hl : ts.length < 4500) (hs : s.length + 2 ≤ 400) (h : CMk u (((jt b : Nat) : Int) :: ts) ρ scs ar na nf (y :: x :: s) G CT NL) : ∃ u', (∀ (F x : Nat), x < 1000000 → fX0_make_L0 (F + 1) 0 (zI x) u = fX0_make_L0 F 0 (zI ((x + 1 : Nat) : Int)) u') ∧ Fr PM u u' ∧ ((¬ ov (jn b x y :: s, G ++ [jn b x y]) ∧ CMk u' ts ρ scs ar na nf (jn b x y :: s) (G ++ [jn b x y]) CT NL) ∨ (ov (jn b x y :: s, G ++ [jn b x y]) ∧ I u' 5 5 = 1)) := by
  have h' : CMk u (((8 * 0 + jt b : Nat) : Int) :: ts) ρ scs ar na nf (y :: x :: s) G CT NL := by rw [Nat.mul_zero, Nat.zero_add]; exact h
  obtain ⟨u8, a1, a2, a3⟩ := cmk_pop (jt_lt b) (show 0 < 2000 by decide) hl h'
  have hp : fX0_perform (zI (jt b)) (zI (0 : Nat)) u8 = b2 (if b then fX10_both u8 else fX10_either u8) fun r3 u2 => if r3 = 0 then (bd (zb ((gI u8 5 5) ||| 1)) fun z8 => lt (uI u2 5 5 ((gI u8 5 5) ||| 1)) fun u7 => some u7) else bd (zb ((gI u8 5 5) ||| 0)) fun z6 => lt (uI u2 5 5 ((gI u8 5 5) ||| 0)) fun u5 => some u5 := by
    cases b with
    | true => unfold fX0_perform; rw [if_pos (by decide)]; rfl
    | false => unfold fX0_perform; rw [if_neg (by decide), if_pos (by decide)]; rfl
  have h55 := a2.2.1
  obtain ⟨c1, c2, c3, c4, c5, c6, c7, c8⟩ := a2
  rcases join_spec b c8 hs with ⟨j1, u9, j2, j3, j4⟩ | ⟨j1, u9, j2, j3⟩
  · have F5 : Fr (fun k i => k == 5 && i == 5) u9 (uI u9 5 5 (zI 0)) := Fr_up rfl (Fr_rfl _ _)
    have F85 : Fr Pwm u8 (uI u9 5 5 (zI 0)) := Fr_up (by simp [Pwm]) (Fr_up2 Pwo_Pwm j4)
    refine ⟨uI u9 5 5 (zI 0), fun F x hx => ?_, Fr_tr (Fr_up2 P42_PM a3) (Fr_up2 Pwm_PM F85), Or.inl ⟨j1, WK_fr F85 (fun _ => rfl) rfl c1, I_uI1 _ _ _ _ (by decide) (by decide), fun x hx => by rw [Fr_I F85 rfl]; exact c3 x hx, ⟨by rw [Fr_I F85 rfl]; exact c4.1, SCl_eq _ _ (Nat.le_refl _) (fun i _ => ⟨Fr_I F85 rfl, Fr_I F85 rfl, Fr_I F85 rfl⟩) c4.2⟩, ⟨by rw [Fr_I F85 rfl]; exact c5.1, RWl_eq _ _ (fun i _ _ => Fr_I F85 rfl) c5.2.1, c5.2.2⟩, by rw [Fr_I F85 rfl]; exact c6, by rw [Fr_I F85 rfl]; exact c7, WY_fr F5 (fun k i hk => by simp; omega) j3⟩⟩
    rw [a1 F x hx, hp, j2, b2_s, if_neg (by decide), gI_z u8 5 5, h55]; rfl
  · have F85 : Fr Pwm u8 (uI u9 5 5 (zI 1)) := Fr_up (by simp [Pwm]) (Fr_up2 Pwo_Pwm j3)
    refine ⟨uI u9 5 5 (zI 1), fun F x hx => ?_, Fr_tr (Fr_up2 P42_PM a3) (Fr_up2 Pwm_PM F85), Or.inr ⟨j1, I_uI1 _ _ _ _ (by decide) (by decide)⟩⟩
    rw [a1 F x hx, hp, j2, b2_s, if_pos rfl, gI_z u8 5 5, h55]; rfl
/-- two parts and their join -/
theorem seq_spec {u : St} {c1 c2 w1 w2 : Nat} {o1 : Option EvR} {o2 : Nat → Nat → Option EvR} (b : Bool) {T2 ts : List Int} {ρ : Nat → Int} {scs : List (Nat × Int × Nat)} {ar : List Int} {na nf : Nat} {s G : List Cs} {M1 M2 : Nat} (hl : ts.length < 4500) (hs : s.length + 2 ≤ 400) (h1 : CX u c1 w1 o1 (T2 ++ ((jt b : Nat) : Int) :: ts) ρ scs ar na nf s G M1) (h2 : ∀ na1 nf1 z G' CT NL u', CMk u' (T2 ++ ((jt b : Nat) : Int) :: ts) ρ scs ar na1 nf1 (z :: s) G' CT NL → CT ≤ M1 → nf ≤ nf1 → nf1 ≤ nf + w1 → na ≤ na1 → na1 ≤ na + w1 → Fr PM u u' → CX u' c2 w2 (o2 na1 nf1) (((jt b : Nat) : Int) :: ts) ρ scs ar na1 nf1 (z :: s) G' M2) : CX u (c1 + c2 + 1) (w1 + w2) (thn o1 fun E1 na1 nf1 => thn (o2 na1 nf1) fun E2 na2 nf2 => some (E1 ++ (E2 ++ [.inr b]), na2, nf2)) ts ρ scs ar na nf s G M2 := by
  obtain ⟨u1, N1, a1, a2, a3, a4⟩ := h1
  rcases a4 with ⟨E1, na1, nf1, z1, G1, CT1, NL1, p1, p2, p3, p4, p5, p6, p7, p8, p9⟩ | ⟨p1, p2⟩
  · obtain ⟨u2, N2, b1, b2', b3, b4⟩ := h2 na1 nf1 z1 (G ++ G1) CT1 NL1 u1 p3 p4 p5 p6 p8 p9 a3
    rcases b4 with ⟨E2, na2, nf2, z2, G2, CT2, NL2, q1, q2, q3, q4, q5, q6, q7, q8, q9⟩ | ⟨q1, q2⟩
    · obtain ⟨u3, j1, j2, j3⟩ := cmk_join b hl hs q3
      have hX : ∀ F x, x + (N1 + N2 + 1) ≤ 1000000 → fX0_make_L0 (F + (N1 + N2 + 1)) 0 (zI x) u = fX0_make_L0 F 0 (zI ((x + (N1 + N2 + 1) : Nat) : Int)) u3 := by
        intro F x hx
        rw [show F + (N1 + N2 + 1) = ((F + 1) + N2) + N1 by omega, a2 _ _ (by omega), b2' _ _ (by omega), j1 _ _ (by omega), show x + N1 + N2 + 1 = x + (N1 + N2 + 1) by omega]
      have hE : EZ (E1 ++ (E2 ++ [.inr b])) (jn b z1 z2) (G1 ++ (G2 ++ [jn b z1 z2])) := EZ_join b p2 q2
      have ho : (thn o1 fun E1 na1 nf1 => thn (o2 na1 nf1) fun E2 na2 nf2 => some (E1 ++ (E2 ++ [.inr b]), na2, nf2)) = some (E1 ++ (E2 ++ [.inr b]), na2, nf2) := by rw [p1, thn_s, q1, thn_s]
      refine ⟨u3, N1 + N2 + 1, by omega, hX, Fr_tr a3 (Fr_tr b3 j2), ?_⟩
      rcases j3 with ⟨k1, k2⟩ | ⟨k1, k2⟩
      · refine Or.inl ⟨_, na2, nf2, _, _, CT2, NL2, ho, hE, ?_, q4, by omega, by omega, by omega, by omega, by omega⟩
        rw [show G ++ (G1 ++ (G2 ++ [jn b z1 z2])) = G ++ G1 ++ G2 ++ [jn b z1 z2] by simp only [List.append_assoc]]; exact k2
      · refine Or.inr ⟨k2, Or.inr ⟨_, na2, nf2, ho, ?_⟩⟩
        rw [hE, show G ++ (G1 ++ (G2 ++ [jn b z1 z2])) = G ++ G1 ++ G2 ++ [jn b z1 z2] by simp only [List.append_assoc]]; exact k1
    · refine ⟨u2, N1 + N2, by omega, fun F x hx => by rw [show F + (N1 + N2) = (F + N2) + N1 by omega, a2 _ _ (by omega), b2' _ _ (by omega), Nat.add_assoc], Fr_tr a3 b3, Or.inr ⟨q1, ?_⟩⟩
      rcases q2 with q2 | ⟨E2, na2, nf2, q2, q3⟩
      · left; rw [p1, thn_s, q2, thn_n]
      · right
        refine ⟨_, na2, nf2, by rw [p1, thn_s, q2, thn_s], ?_⟩
        rw [mrun_app, p2, mrun_app]
        exact ov_run _ q3
  · refine ⟨u1, N1, by omega, a2, a3, Or.inr ⟨p1, ?_⟩⟩
    rcases p2 with p2 | ⟨E1, na1, nf1, p2, p3⟩
    · left; rw [p2, thn_n]
    · cases hq : o2 na1 nf1 with
      | none => left; rw [p2, thn_s, hq, thn_n]
      | some r =>
        right
        refine ⟨_, r.2.1, r.2.2, by rw [p2, thn_s, hq, thn_s], ?_⟩
        rw [mrun_app]; exact ov_run _ p3
