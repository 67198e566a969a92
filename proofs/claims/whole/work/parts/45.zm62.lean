/-! writing: one turn of the class -/
theorem c_var (F x3 : Nat) (u u3 u18 u19 u21 : St) (z : Int) (hx : x3 ≤ 4000) (h6 : I u 10 6 = 0) (hm : fX9_more 2 u = some (1, u3)) (hv : fX9_variable 2 u3 = some (zI z, u3)) (hz0 : 0 ≤ z) (hz : z < 1000000) (hp : fX1_putVariable (zI z) u3 = some u18) (he : fX9_enter 2 u18 = some u19) (ht : fX1_endTerm_L0 FU 0 u19 = some u21) : fX1_literal_L0 (F + 2) 0 (zI x3) 0 u = fX1_literal_L0 F 0 (zI ((x3 + 1 : Nat) : Int)) 0 u21 := by
  have st1 : fX1_literal_L0 (F + 2) 0 (zI x3) 0 u = fX1_literal_L0_0 (fX1_literal_L0 (F + 1)) (zI x3) u := rfl
  have st2 : ∀ x4 w, fX1_literal_L0 (F + 1) 1 (zI x3) x4 w = fX1_literal_L0_1 (fX1_literal_L0 F) (zI x3) x4 w := fun _ _ => rfl
  rw [st1]
  unfold fX1_literal_L0_0
  rw [if_neg (by rw [z_lit, z_lt (by decide) (by decide) (by omega) (by omega)]; omega), gI_z u 10 6, h6, if_pos (show zI 0 = 0 from rfl), hm, b2_s, if_neg (by decide), lt_e, hv, b2_s, if_neg (by rw [z_zero, z_lt (by omega) (by omega) (by decide) (by decide)]; omega), hv, b2_s, hp, bd_s, st2]
  generalize fX1_literal_L0 F = R
  unfold fX1_literal_L0_1 fX1_endTerm
  rw [he, bd_s, if_pos (by decide), ht, bd_s, show (1 : Int32) = zI 1 from rfl, z_add, lt_e, show (x3 : Int) + 1 = ((x3 + 1 : Nat) : Int) by omega]
theorem c_sym0 (F x3 : Nat) (u u3 u12 u19 u21 : St) (z : Int) (hx : x3 ≤ 4000) (h6 : I u 10 6 = 0) (hm : fX9_more 2 u = some (1, u3)) (hv : fX9_variable 2 u3 = some (zI (-1), u3)) (hs : fX9_symbol 2 u3 = some (zI z, u3)) (hz0 : 0 ≤ z) (hz : z < 2147483648) (hz8 : z % 8 = 0) (hp : fX1_putSymbol (zI (z / 8)) u3 = some u12) (hs2 : fX9_symbol 2 u12 = some (zI z, u12)) (he : fX9_enter 2 u12 = some u19) (ht : fX1_endTerm_L0 FU 0 u19 = some u21) : fX1_literal_L0 (F + 2) 0 (zI x3) 0 u = fX1_literal_L0 F 0 (zI ((x3 + 1 : Nat) : Int)) 0 u21 := by
  have st1 : fX1_literal_L0 (F + 2) 0 (zI x3) 0 u = fX1_literal_L0_0 (fX1_literal_L0 (F + 1)) (zI x3) u := rfl
  have st2 : ∀ x4 w, fX1_literal_L0 (F + 1) 1 (zI x3) x4 w = fX1_literal_L0_1 (fX1_literal_L0 F) (zI x3) x4 w := fun _ _ => rfl
  rw [st1]
  unfold fX1_literal_L0_0
  rw [if_neg (by rw [z_lit, z_lt (by decide) (by decide) (by omega) (by omega)]; omega), gI_z u 10 6, h6, if_pos (show zI 0 = 0 from rfl), hm, b2_s, if_neg (by decide), lt_e, hv, b2_s, if_pos (by decide), hs, b2_s, show (3 : Int32) = zI 3 from rfl, show (31 : Int32) = zI 31 from rfl, z_shr3 _ (by omega) (by omega), hp, bd_s, hs2, b2_s, show (7 : Int32) = zI 7 from rfl, z_and7, hz8, lt_e, st2]
  generalize fX1_literal_L0 F = R
  unfold fX1_literal_L0_1 fX1_endTerm
  rw [he, bd_s, if_pos (by decide), ht, bd_s, show (1 : Int32) = zI 1 from rfl, z_add, lt_e, show (x3 : Int) + 1 = ((x3 + 1 : Nat) : Int) by omega]
theorem c_symn (F x3 n : Nat) (u u3 u12 u19 u23 : St) (z : Int) (hx : x3 ≤ 4000) (h6 : I u 10 6 = 0) (hm : fX9_more 2 u = some (1, u3)) (hv : fX9_variable 2 u3 = some (zI (-1), u3)) (hs : fX9_symbol 2 u3 = some (zI z, u3)) (hz0 : 0 ≤ z) (hz : z < 2147483648) (hn : 1 ≤ n) (hz8 : z % 8 = n) (hp : fX1_putSymbol (zI (z / 8)) u3 = some u12) (hs2 : fX9_symbol 2 u12 = some (zI z, u12)) (he : fX9_enter 2 u12 = some u19) (ho : fX1_openBracket (zI n) u19 = some u23) : fX1_literal_L0 (F + 2) 0 (zI x3) 0 u = fX1_literal_L0 F 0 (zI ((x3 + 1 : Nat) : Int)) 0 u23 := by
  have st1 : fX1_literal_L0 (F + 2) 0 (zI x3) 0 u = fX1_literal_L0_0 (fX1_literal_L0 (F + 1)) (zI x3) u := rfl
  have st2 : ∀ x4 w, fX1_literal_L0 (F + 1) 1 (zI x3) x4 w = fX1_literal_L0_1 (fX1_literal_L0 F) (zI x3) x4 w := fun _ _ => rfl
  rw [st1]
  unfold fX1_literal_L0_0
  rw [if_neg (by rw [z_lit, z_lt (by decide) (by decide) (by omega) (by omega)]; omega), gI_z u 10 6, h6, if_pos (show zI 0 = 0 from rfl), hm, b2_s, if_neg (by decide), lt_e, hv, b2_s, if_pos (by decide), hs, b2_s, show (3 : Int32) = zI 3 from rfl, show (31 : Int32) = zI 31 from rfl, z_shr3 _ (by omega) (by omega), hp, bd_s, hs2, b2_s, show (7 : Int32) = zI 7 from rfl, z_and7, hz8, lt_e, st2]
  generalize fX1_literal_L0 F = R
  unfold fX1_literal_L0_1
  rw [he, bd_s, if_neg (by rw [z_zero, z_le (by omega) (by omega) (by decide) (by decide)]; omega), ho, bd_s, show (1 : Int32) = zI 1 from rfl, z_add, lt_e, show (x3 : Int) + 1 = ((x3 + 1 : Nat) : Int) by omega]
theorem rst_len (bm : Int → Int) (os : List Nat) : ∀ (L : List (Nat × Int)), (∀ n ∈ os, 1 ≤ n ∧ n ≤ 5) → (rst bm os L).length ≤ 9 * os.length := by
  induction os with
  | nil => intro L _; simp [rst]
  | cons n os ih =>
    intro L hn
    have h1 := hn n (by simp)
    have h2 := ih (L.drop (n - 1)) (fun m hm => hn m (by simp [hm]))
    simp only [rst, List.length_append, List.length_cons, cm_len, List.length_take]
    omega
def Pl : Nat → Nat → Bool := fun k i => k == 73 || k == 74 || k == 75 || (k == 10 && (i == 8 || i == 10)) || PW 2 k 0
def Qlit : Nat → Nat → Bool := fun k i => Ql k i || k == 149 || PF k i || Qv2 k i
/-- what changes beside the walk: numbers are kept -/
def Pi : Nat → Nat → Bool := fun k i => k == 73 || k == 75 || (k == 10 && i == 8) || PW 2 k 0
def Qi : Nat → Nat → Bool := fun k i => Ql k i || k == 149 || PF k i
/-- what changes, the walk left alone -/
def Pnm : Nat → Nat → Bool := fun k i => k == 73 || k == 74 || k == 75 || (k == 10 && (i == 8 || i == 10))
