/-! reading: what a formula becomes, said without a machine -/
abbrev Lt : Type := Int × List Int
abbrev Cs : Type := List (List Lt)
abbrev MS : Type := List Cs × List Cs
def prd (x y : Cs) : Cs := x.flatMap (fun a => y.map (fun b => a ++ b))
def mb : Cs → Nat
  | [] => 0
  | c :: l => c.length + mb l
def tt : List Cs → Nat
  | [] => 0
  | x :: l => x.length + tt l
def tm : List Cs → Nat
  | [] => 0
  | x :: l => mb x + tm l
theorem mb_app (x y : Cs) : mb (x ++ y) = mb x + mb y := by
  induction x with
  | nil => simp [mb]
  | cons c x ih => simp only [List.cons_append, mb, ih]; omega
theorem tt_app (x y : List Cs) : tt (x ++ y) = tt x + tt y := by
  induction x with
  | nil => simp [tt]
  | cons c x ih => simp only [List.cons_append, tt, ih]; omega
theorem tm_app (x y : List Cs) : tm (x ++ y) = tm x + tm y := by
  induction x with
  | nil => simp [tm]
  | cons c x ih => simp only [List.cons_append, tm, ih]; omega
def jn (b : Bool) (x y : Cs) : Cs := if b then x ++ y else prd x y
def mst (W : MS) : Lt ⊕ Bool → MS
  | .inl l => ([[l]] :: W.1, W.2 ++ [[[l]]])
  | .inr b => match W.1 with
    | y :: x :: s => (jn b x y :: s, W.2 ++ [jn b x y])
    | _ => W
def mrun (W : MS) : List (Lt ⊕ Bool) → MS
  | [] => W
  | e :: E => mrun (mst W e) E
theorem mrun_app (E E' : List (Lt ⊕ Bool)) : ∀ W, mrun W (E ++ E') = mrun (mrun W E) E' := by
  induction E with
  | nil => intro W; rfl
  | cons e E ih => intro W; exact ih _
def ov (W : MS) : Prop := 600 < tt W.2 ∨ 6000 < tm W.2
theorem mst_le (W : MS) (e : Lt ⊕ Bool) : tt W.2 ≤ tt (mst W e).2 ∧ tm W.2 ≤ tm (mst W e).2 := by
  cases e with
  | inl l => simp only [mst, tt_app, tm_app]; omega
  | inr b =>
    obtain ⟨s, G⟩ := W
    cases s with
    | nil => simp [mst]
    | cons y s =>
      cases s with
      | nil => simp [mst]
      | cons x s => simp only [mst, tt_app, tm_app]; omega
theorem mrun_le (E : List (Lt ⊕ Bool)) : ∀ W, tt W.2 ≤ tt (mrun W E).2 ∧ tm W.2 ≤ tm (mrun W E).2 := by
  induction E with
  | nil => intro W; exact ⟨Nat.le_refl _, Nat.le_refl _⟩
  | cons e E ih =>
    intro W
    have h1 := mst_le W e
    have h2 := ih (mst W e)
    exact ⟨Nat.le_trans h1.1 h2.1, Nat.le_trans h1.2 h2.2⟩
theorem ov_run {W : MS} (E : List (Lt ⊕ Bool)) (h : ov W) : ov (mrun W E) := by
  have := mrun_le E W
  unfold ov at *; omega
/-- the cells of a literal -/
def cof (ρ : Nat → Int) (ar : List Int) (z : Int) : List Int := if 0 ≤ z then [z] else ρ (-1 - z).toNat :: (if ρ (-1 - z).toNat < 0 then [] else ar.take (ρ (-1 - z).toNat % 8).toNat)
def litc (u : St) (ρ : Nat → Int) (ar : List Int) : Nat → Nat → List Int
  | 0, _ => []
  | k + 1, a => cof ρ ar (I u 37 a) ++ litc u ρ ar k (a + 1)
def updm (ρ : Nat → Int) (x : Nat) (m : Int) : Nat → Int := fun y => if y = x then m else ρ y
def sgb (s : Bool) : Int := if s then 1 else 0
abbrev EvR : Type := List (Lt ⊕ Bool) × Nat × Nat
def thn (a : Option EvR) (f : List (Lt ⊕ Bool) → Nat → Nat → Option EvR) : Option EvR := match a with
  | none => none
  | some q => f q.1 q.2.1 q.2.2
/-- what node i becomes: literals and joins in their order -/
def ev (u : St) : Nat → Nat → Bool → (Nat → Int) → List Int → Nat → Nat → Option EvR
  | 0 => fun _ _ _ _ _ _ => none
  | d + 1 => fun i s ρ ar na nf =>
    if I u 33 i = 0 then some ([.inl (sgb s, litc u ρ ar ((I u 35 i).toNat - (I u 34 i).toNat) (I u 34 i).toNat)], na, nf)
    else if I u 33 i = 1 then ev u d (I u 34 i).toNat (!s) ρ ar na nf
    else if I u 33 i = 2 ∨ I u 33 i = 3 ∨ I u 33 i = 4 then
      thn (ev u d (I u 34 i).toNat (if I u 33 i = 4 then !s else s) ρ ar na nf) fun E1 na1 nf1 =>
      thn (ev u d (I u 35 i).toNat s ρ ar na1 nf1) fun E2 na2 nf2 =>
      some (E1 ++ (E2 ++ [.inr (if I u 33 i = 2 then !s else s)]), na2, nf2)
    else if I u 33 i = 5 then
      thn (ev u d (I u 34 i).toNat (!s) ρ ar na nf) fun E1 na1 nf1 =>
      thn (ev u d (I u 35 i).toNat s ρ ar na1 nf1) fun E2 na2 nf2 =>
      thn (ev u d (I u 35 i).toNat (!s) ρ ar na2 nf2) fun E3 na3 nf3 =>
      thn (ev u d (I u 34 i).toNat s ρ ar na3 nf3) fun E4 na4 nf4 =>
      some ((E1 ++ (E2 ++ [.inr s])) ++ ((E3 ++ (E4 ++ [.inr s])) ++ [.inr (!s)]), na4, nf4)
    else if (I u 33 i = 6) = (s = false) then ev u d (I u 35 i).toNat s (updm ρ (I u 34 i).toNat (-1 - (na : Int))) (ar ++ [-1 - (na : Int)]) (na + 1) nf
    else if 5 < ar.length then none
    else ev u d (I u 35 i).toNat s (updm ρ (I u 34 i).toNat (8 * (4097 + (nf : Int)) + ar.length)) ar na (nf + 1)
theorem thn_s (q : EvR) (f : List (Lt ⊕ Bool) → Nat → Nat → Option EvR) : thn (some q) f = f q.1 q.2.1 q.2.2 := rfl
theorem thn_n (f : List (Lt ⊕ Bool) → Nat → Nat → Option EvR) : thn none f = none := rfl
theorem thn_i {a : Option EvR} {f : List (Lt ⊕ Bool) → Nat → Nat → Option EvR} {r : EvR} (h : thn a f = some r) : ∃ q, a = some q ∧ f q.1 q.2.1 q.2.2 = some r := by
  cases a with
  | none => cases h
  | some q => exact ⟨q, rfl, h⟩
/-- what the joined parts of a list of such are -/
def EZ (E : List (Lt ⊕ Bool)) (z : Cs) (Gx : List Cs) : Prop := ∀ s G, mrun (s, G) E = (z :: s, G ++ Gx)
theorem EZ_lit (l : Lt) : EZ [.inl l] [[l]] [[[l]]] := fun s G => rfl
theorem EZ_join {E1 E2 : List (Lt ⊕ Bool)} {z1 z2 : Cs} {G1 G2 : List Cs} (b : Bool) (h1 : EZ E1 z1 G1) (h2 : EZ E2 z2 G2) : EZ (E1 ++ (E2 ++ [.inr b])) (jn b z1 z2) (G1 ++ (G2 ++ [jn b z1 z2])) := by
  intro s G
  rw [mrun_app, h1, mrun_app, h2]
  show (jn b z1 z2 :: s, (G ++ G1 ++ G2) ++ [jn b z1 z2]) = _
  simp only [List.append_assoc]
theorem prd_ne {x y : Cs} (hx : x ≠ []) (hy : y ≠ []) : prd x y ≠ [] := by
  cases x with
  | nil => exact absurd rfl hx
  | cons a x =>
    cases y with
    | nil => exact absurd rfl hy
    | cons b y => simp [prd]
theorem jn_ne {b : Bool} {x y : Cs} (hx : x ≠ []) (hy : y ≠ []) : jn b x y ≠ [] := by
  unfold jn
  cases b with
  | true => rw [if_pos rfl]; simp [hx]
  | false => rw [if_neg (by decide)]; exact prd_ne hx hy
/-- each clause that was made lives on in a clause of z -/
def LV (z : Cs) (Gx : List Cs) : Prop := z ≠ [] ∧ ∀ x, x ∈ Gx → ∀ c, c ∈ x → ∃ c', c' ∈ z ∧ c.length ≤ c'.length
theorem LV_lit (l : Lt) : LV [[l]] [[[l]]] := ⟨by simp, fun x hx c hc => by simp at hx; subst hx; exact ⟨c, hc, Nat.le_refl _⟩⟩
theorem jn_l {b : Bool} {x y : Cs} (hy : y ≠ []) {c : List Lt} (hc : c ∈ x) : ∃ c', c' ∈ jn b x y ∧ c.length ≤ c'.length := by
  unfold jn
  cases b with
  | true => rw [if_pos rfl]; exact ⟨c, by simp [hc], Nat.le_refl _⟩
  | false =>
    rw [if_neg (by decide)]
    cases y with
    | nil => exact absurd rfl hy
    | cons d y => exact ⟨c ++ d, by unfold prd; exact List.mem_flatMap.2 ⟨c, hc, by simp⟩, by simp⟩
theorem jn_r {b : Bool} {x y : Cs} (hx : x ≠ []) {c : List Lt} (hc : c ∈ y) : ∃ c', c' ∈ jn b x y ∧ c.length ≤ c'.length := by
  unfold jn
  cases b with
  | true => rw [if_pos rfl]; exact ⟨c, by simp [hc], Nat.le_refl _⟩
  | false =>
    rw [if_neg (by decide)]
    cases x with
    | nil => exact absurd rfl hx
    | cons d x => exact ⟨d ++ c, by unfold prd; exact List.mem_flatMap.2 ⟨d, by simp, List.mem_map.2 ⟨c, hc, rfl⟩⟩, by simp⟩
theorem LV_join {z1 z2 : Cs} {G1 G2 : List Cs} (b : Bool) (h1 : LV z1 G1) (h2 : LV z2 G2) : LV (jn b z1 z2) (G1 ++ (G2 ++ [jn b z1 z2])) := by
  refine ⟨jn_ne h1.1 h2.1, fun x hx c hc => ?_⟩
  simp only [List.mem_append, List.mem_singleton] at hx
  rcases hx with hx | hx | hx
  · obtain ⟨c1, a1, a2⟩ := h1.2 x hx c hc
    obtain ⟨c2, b1, b2⟩ := jn_l (b := b) h2.1 a1
    exact ⟨c2, b1, Nat.le_trans a2 b2⟩
  · obtain ⟨c1, a1, a2⟩ := h2.2 x hx c hc
    obtain ⟨c2, b1, b2⟩ := jn_r (b := b) h1.1 a1
    exact ⟨c2, b1, Nat.le_trans a2 b2⟩
  · subst hx; exact ⟨c, hc, Nat.le_refl _⟩
theorem ev_z (u : St) (d : Nat) : ∀ i s ρ ar na nf E na' nf', ev u d i s ρ ar na nf = some (E, na', nf') → ∃ z Gx, EZ E z Gx ∧ LV z Gx := by
  induction d with
  | zero => intro i s ρ ar na nf E na' nf' h; cases h
  | succ d ih =>
    intro i s ρ ar na nf E na' nf' h
    simp only [ev] at h
    by_cases h0 : I u 33 i = 0
    · rw [if_pos h0] at h
      obtain ⟨rfl, _⟩ := Prod.mk.inj (Option.some.inj h)
      exact ⟨_, _, EZ_lit _, LV_lit _⟩
    · rw [if_neg h0] at h
      by_cases h1 : I u 33 i = 1
      · rw [if_pos h1] at h; exact ih _ _ _ _ _ _ _ _ _ h
      · rw [if_neg h1] at h
        by_cases h2 : I u 33 i = 2 ∨ I u 33 i = 3 ∨ I u 33 i = 4
        · rw [if_pos h2] at h
          obtain ⟨⟨E1, n1, f1⟩, a1, h⟩ := thn_i h
          obtain ⟨⟨E2, n2, f2⟩, a2, h⟩ := thn_i h
          obtain ⟨rfl, _⟩ := Prod.mk.inj (Option.some.inj h)
          obtain ⟨z1, G1, p1, p2⟩ := ih _ _ _ _ _ _ _ _ _ a1
          obtain ⟨z2, G2, q1, q2⟩ := ih _ _ _ _ _ _ _ _ _ a2
          exact ⟨_, _, EZ_join _ p1 q1, LV_join _ p2 q2⟩
        · rw [if_neg h2] at h
          by_cases h5 : I u 33 i = 5
          · rw [if_pos h5] at h
            obtain ⟨⟨E1, n1, f1⟩, a1, h⟩ := thn_i h
            obtain ⟨⟨E2, n2, f2⟩, a2, h⟩ := thn_i h
            obtain ⟨⟨E3, n3, f3⟩, a3, h⟩ := thn_i h
            obtain ⟨⟨E4, n4, f4⟩, a4, h⟩ := thn_i h
            obtain ⟨rfl, _⟩ := Prod.mk.inj (Option.some.inj h)
            obtain ⟨z1, G1, p1, p2⟩ := ih _ _ _ _ _ _ _ _ _ a1
            obtain ⟨z2, G2, q1, q2⟩ := ih _ _ _ _ _ _ _ _ _ a2
            obtain ⟨z3, G3, r1, r2⟩ := ih _ _ _ _ _ _ _ _ _ a3
            obtain ⟨z4, G4, t1, t2⟩ := ih _ _ _ _ _ _ _ _ _ a4
            exact ⟨_, _, EZ_join _ (EZ_join _ p1 q1) (EZ_join _ r1 t1), LV_join _ (LV_join _ p2 q2) (LV_join _ r2 t2)⟩
          · rw [if_neg h5] at h
            by_cases h6 : (I u 33 i = 6) = (s = false)
            · rw [if_pos h6] at h; exact ih _ _ _ _ _ _ _ _ _ h
            · rw [if_neg h6] at h
              by_cases h7 : 5 < ar.length
              · rw [if_pos h7] at h; cases h
              · rw [if_neg h7] at h; exact ih _ _ _ _ _ _ _ _ _ h
