/-! writing: one literal, both sides -/
def LMode (c : Nat → Int) (e : Nat → Nat) (N : Nat) (D : Nat × Int → Nat × Int) (bm : Int → Int) (WK : St → List (Nat × Int) → Prop) (WAt : St → Nat × Int → List (Nat × Int) → Prop) (RS : St → St → Prop) (Inv : St → St → Nat → List (Nat × Int) → Prop) : Prop :=
  (∀ u v, RS u v → RT v c e N) ∧
  (∀ u u' v v', Wr u u' v v' Pl Qlit → (gR u 10 4 = 71 ∨ gR u 10 4 = 72) → RS u v → RS u' v') ∧
  (∀ u v K L, WK u L → RS u v → Inv u v K L → (L = [] ∧ ∃ u', fX9_more 2 u = some (0, u') ∧ Fr (PW 2) u u') ∨ ∃ x l u', L = x :: l ∧ fX9_more 2 u = some (1, u') ∧ WAt u' x l ∧ Fr (PW 2) u u') ∧
  (∀ u x l, WAt u x l → (D x).1 < N ∧ x.1 < N ∧ -2147483648 ≤ bm (D x).2 ∧ bm (D x).2 < 2147483648 ∧ fX9_symbol 2 u = some (zI (c (D x).1), u) ∧ fX9_variable 2 u = some (zI (if c (D x).1 < 0 then (D x).2 - 1 - c (D x).1 else -1), u) ∧ c (D x).1 < 2147483648) ∧
  (∀ u u' v v' L, Wr u u' v v' Pnm Qlit → (gR u 10 4 = 71 ∨ gR u 10 4 = 72) → WK u L → WK u' L) ∧
  (∀ u u' v v' x l, Wr u u' v v' Pnm Qlit → (gR u 10 4 = 71 ∨ gR u 10 4 = 72) → WAt u x l → WAt u' x l) ∧
  (∀ u x l, WAt u x l → ∃ u', fX9_enter 2 u = some u' ∧ WK u' (args c e (D x) ++ l) ∧ Fr (PW 2) u u') ∧
  (∀ u v x l R, WAt u x l → RS u v → ∃ v', HDr R x.1 (bm x.2) v = R 1 (zI (D x).1) (zI (bm (D x).2)) 0 0 0 0 v' ∧ Fr PF v v') ∧
  (∀ u v x l k K, WAt u x l → RS u v → DS u v k → k ≤ 4000 → Inv u v K (x :: l) → c (D x).1 < 0 → 0 ≤ (D x).2 - 1 - c (D x).1 ∧ (D x).2 - 1 - c (D x).1 < 1000000 ∧ ∃ u' v' m, fX1_putVariable (zI ((D x).2 - 1 - c (D x).1)) u = some u' ∧ (if 0 ≤ bm (D x).2 then fX12_variableOut (zI (bm (D x).2 - 1 - c (D x).1)) 0 v else fX12_variableOut (zI (-1 - c (D x).1)) 1 v) = some v' ∧ 1 ≤ m ∧ m ≤ 12 ∧ DS u' v' (k + m) ∧ (∀ K', K' ≤ K + 14 → Inv u' v' K' l) ∧ Wr u u' v v' Pv Qv2) ∧
  (∀ u v x l k, WAt u x l → RS u v → DS u v k → k ≤ 4000 → 0 ≤ c (D x).1 → ∃ u' v' m, fX1_putSymbol (zI (c (D x).1 / 8)) u = some u' ∧ fX12_nameOut (zI (I v 111 (D x).1)) v = some v' ∧ 1 ≤ m ∧ m ≤ 12 ∧ DS u' v' (k + m) ∧ Wr u u' v v' (fun k _ => k == 75) NoP) ∧
  (∀ u v x l K K', WAt u x l → Inv u v K (x :: l) → 0 ≤ c (D x).1 → K' ≤ K + 14 → Inv u v K' (args c e (D x) ++ l)) ∧
  (∀ u u' v v' K L, Wr u u' v v' Pi Qi → (gR u 10 4 = 71 ∨ gR u 10 4 = 72) → Inv u v K L → Inv u' v' K L)
theorem args_len {c : Nat → Int} {e : Nat → Nat} {x : Nat × Int} : (args c e x).length = ar c x.1 := by
  unfold args; exact items_len _ _ _ _
theorem DS_6 {u v : St} {k : Nat} (h : DS u v k) (hk : k ≤ 4000) : I u 10 6 = 0 := by
  rcases h.2.2.2.2 with h | h
  · exact h.2.2.1
  · omega
theorem DS_6' {u v : St} {k : Nat} (h : DS u v k) (hk : 4000 < k) : I u 10 6 = 1 := by
  rcases h.2.2.2.2 with h | h
  · omega
  · exact h.2.2.2
theorem DS_lt {u v : St} {k : Nat} (h : DS u v k) : k < 100000 := by
  rcases h.2.2.2.2 with h | h
  · omega
  · exact h.2.1
theorem lit_over (F x3 : Nat) {u v : St} {k : Nat} (hD : DS u v k) (hk : 4000 < k) (hx : x3 ≤ 4001) : fX1_literal_L0 (F + 1) 0 (zI x3) 0 u = some u := by
  have st1 : fX1_literal_L0 (F + 1) 0 (zI x3) 0 u = fX1_literal_L0_0 (fX1_literal_L0 F) (zI x3) u := rfl
  rw [st1]
  unfold fX1_literal_L0_0
  by_cases h : 4000 < x3
  · rw [if_pos (by rw [z_lit, z_lt (by decide) (by decide) (by omega) (by omega)]; omega)]
  · rw [if_neg (by rw [z_lit, z_lt (by decide) (by decide) (by omega) (by omega)]; omega), gI_z u 10 6, DS_6' hD hk, if_neg (by decide)]
theorem term_over (G : Nat) {v : St} {k : Nat} (hD : I v 100 78 = k) (hk : 4000 < k) (hk2 : k < 100000) : fX12_termOut_L0 (G + 1) 0 0 0 0 0 0 0 v = some v := by
  have st1 : fX12_termOut_L0 (G + 1) 0 0 0 0 0 0 0 v = fX12_termOut_L0_0 (fX12_termOut_L0 G) v := rfl
  rw [st1]
  unfold fX12_termOut_L0_0
  by_cases h : gI v 100 81 ≤ 0
  · rw [if_pos h]
  · rw [if_neg h, gI_z v 100 78, hD, if_pos (by rw [z_lit, z_lt (by decide) (by decide) (by omega) (by omega)]; omega)]
theorem term_end (G : Nat) {v : St} (hD : I v 100 81 = 0) : fX12_termOut_L0 (G + 1) 0 0 0 0 0 0 0 v = some v := by
  have st1 : fX12_termOut_L0 (G + 1) 0 0 0 0 0 0 0 v = fX12_termOut_L0_0 (fX12_termOut_L0 G) v := rfl
  rw [st1]
  unfold fX12_termOut_L0_0
  rw [gI_z v 100 81, hD, if_pos (by decide)]
theorem lit_end (F x3 : Nat) {u u' : St} (h6 : I u 10 6 = 0) (hm : fX9_more 2 u = some (0, u')) (hx : x3 ≤ 4000) : fX1_literal_L0 (F + 1) 0 (zI x3) 0 u = some u' := by
  have st1 : fX1_literal_L0 (F + 1) 0 (zI x3) 0 u = fX1_literal_L0_0 (fX1_literal_L0 F) (zI x3) u := rfl
  rw [st1]
  unfold fX1_literal_L0_0
  rw [if_neg (by rw [z_lit, z_lt (by decide) (by decide) (by omega) (by omega)]; omega), gI_z u 10 6, h6, if_pos (show zI 0 = 0 from rfl), hm, b2_s, if_pos rfl]
theorem Wr_pw {u u' v : St} (h : Fr (PW 2) u u') {P Q : Nat → Nat → Bool} (hP : ∀ k i, PW 2 k i = true → P k i = true) : Wr u u' v v P Q := ⟨Fr_up2 (fun k i hk => by simp [hP k i hk]) h, Fr_R h rfl, Fr_R h rfl, Fr_rfl _ _⟩
def LSq (v : St) (bm : Int → Int) (os : List Nat) (L : List (Nat × Int)) : Prop := (L = [] ∧ os = [] ∧ I v 100 81 = 0) ∨ ∃ x l, L = x :: l ∧ l.length = osum os ∧ SZ v (((x.1 : Int), bm x.2) :: rst bm os l) ∧ I v 100 81 = (((rst bm os l).length + 1 : Nat) : Int)
def ETq (u' v' : St) (bm : Int → Int) (k k' : Nat) (os : List Nat) (L : List (Nat × Int)) : Prop := k' ≤ 4000 → ∃ os', I u' 10 8 = (os'.length : Nat) ∧ OSr u' os' ∧ (∀ n ∈ os', 1 ≤ n ∧ n ≤ 5) ∧ os'.length ≤ os.length ∧ k' + os'.length ≤ k + os.length + 1 ∧ LSq v' bm os' L
theorem et_two (bm : Int → Int) (os : List Nat) (L : List (Nat × Int)) (F G k : Nat) (u v : St) (hF : os.length < F) (hl : os.length ≤ 4000) (hk : k ≤ 4000) (h8 : I u 10 8 = (os.length : Nat)) (hO : OSr u os) (hn : ∀ n ∈ os, 1 ≤ n ∧ n ≤ 5) (hL : L.length = osum os) (hD : DS u v k) (hS : SZ v (rst bm os L)) (h81 : I v 100 81 = ((rst bm os L).length : Nat)) (hsz : (rst bm os L).length < 20980) (hG : os.length + 1 ≤ G) :
    ∃ u' v' k' G', fX1_endTerm_L0 F 0 u = some u' ∧ fX12_termOut_L0 G 0 0 0 0 0 0 0 v = fX12_termOut_L0 G' 0 0 0 0 0 0 0 v' ∧ G - os.length - 1 ≤ G' ∧ DS u' v' k' ∧ k ≤ k' ∧ k' ≤ 4001 ∧ Wr u u' v v' Po Ql ∧ k' ≤ k + os.length + 1 ∧ ETq u' v' bm k k' os L := by
  obtain ⟨u21, v6, k', G6, r1, r2, r3, r4, r5, r6, r7, r8, r9, r10, r11⟩ := et_both bm os L F (G - os.length - 1) k u v hF hl hk h8 hO hn hL hD hS h81 hsz
  have hg : G - os.length - 1 + os.length + 1 = G := by clear r11; omega
  rw [hg] at r2
  refine ⟨u21, v6, k', G6, r1, r2, r3, r4, r5, r6, r7, r10, fun hk4 => ?_⟩
  obtain ⟨os', o1, o2, o3, o4, o5, o6⟩ := r11 hk4
  refine ⟨os', o1, o2, o3, o4, o5, ?_⟩
  rcases o6 with ⟨w1, w2, w3, w4⟩ | ⟨x', l', w1, w2, w3, w4, w5⟩
  · exact Or.inl ⟨w1, w2, w4⟩
  · exact Or.inr ⟨x', l', w1, w2, w3, w4⟩
