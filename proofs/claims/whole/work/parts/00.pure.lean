/-! THE PURE PROGRAMS: the state, and the words that the programs are made of; nothing of the machine -/
/-! the state: what the cells hold, by cell and place -/
abbrev St : Type := (Nat → Nat → Int32) × (Nat → Nat → Int64) × (Nat → Nat → Nat)
def gI (u : St) (k : Nat) : Nat → Int32 := u.1 k
def gJ (u : St) (k : Nat) : Nat → Int64 := u.2.1 k
def gR (u : St) (k i : Nat) : Nat := u.2.2 k i
def uI (u : St) (k i : Nat) (x : Int32) : St := (va_up u.1 k (va_up (u.1 k) i x), u.2.1, u.2.2)
def uJ (u : St) (k i : Nat) (x : Int64) : St := (u.1, va_up u.2.1 k (va_up (u.2.1 k) i x), u.2.2)
def uR (u : St) (k i x : Nat) : St := (u.1, u.2.1, va_up u.2.2 k (va_up (u.2.2 k) i x))
def strI : List (Nat × String) := [(30, "\t\n\r "), (38, "abcdefghijklmnopqrstuvwxyz"), (43, "ABCDEFGHIJKLMNOPQRSTUVWXYZ"), (49, "abcdefghijklmnopqrstuvwxyzABCDEFGHIJKLMNOPQRSTUVWXYZ0123456789_"), (55, "(),.:~&|!?")]
def strN : List Nat := [4, 26, 26, 63, 10]
def strB : List (List Int32) := [[9, 10, 13, 32], [97, 98, 99, 100, 101, 102, 103, 104, 105, 106, 107, 108, 109, 110, 111, 112, 113, 114, 115, 116, 117, 118, 119, 120, 121, 122], [65, 66, 67, 68, 69, 70, 71, 72, 73, 74, 75, 76, 77, 78, 79, 80, 81, 82, 83, 84, 85, 86, 87, 88, 89, 90], [97, 98, 99, 100, 101, 102, 103, 104, 105, 106, 107, 108, 109, 110, 111, 112, 113, 114, 115, 116, 117, 118, 119, 120, 121, 122, 65, 66, 67, 68, 69, 70, 71, 72, 73, 74, 75, 76, 77, 78, 79, 80, 81, 82, 83, 84, 85, 86, 87, 88, 89, 90, 48, 49, 50, 51, 52, 53, 54, 55, 56, 57, 95], [40, 41, 44, 46, 58, 126, 38, 124, 33, 63]]
def signs4 (j : Nat) : Int32 := ([15, 14, 11, 10] : List Int32).getD j 0
def kinds4 (j : Nat) : Int32 := ([5, 4, 3, 2] : List Int32).getD j 0
/-! the words of the pure programs -/
def lt {α β : Type} (e : α) (f : α → β) : β := f e
def b2 {β : Type} (o : Option (Int32 × St)) (k : Int32 → St → Option β) : Option β := match o with
  | none => none
  | some q => k q.1 q.2
def bd {α β : Type} (o : Option α) (k : α → Option β) : Option β := match o with
  | none => none
  | some q => k q
def ld (u : St) (k n : Nat) (i : Int32) : Option Int32 := if i < 0 ∨ n ≤ i.toNatClampNeg then none else some (gI u k i.toNatClampNeg)
def ldJ (u : St) (k n : Nat) (i : Int32) : Option Int64 := if i < 0 ∨ n ≤ i.toNatClampNeg then none else some (gJ u k i.toNatClampNeg)
def st (u : St) (k n : Nat) (i x : Int32) : Option St := if i < 0 ∨ n ≤ i.toNatClampNeg then none else some (uI u k i.toNatClampNeg x)
def stB (u : St) (k n : Nat) (i x : Int32) : Option St := if i < 0 ∨ n ≤ i.toNatClampNeg then none else some (uI u k i.toNatClampNeg x.toInt8.toInt32)
def stJ (u : St) (k n : Nat) (i : Int32) (x : Int64) : Option St := if i < 0 ∨ n ≤ i.toNatClampNeg then none else some (uJ u k i.toNatClampNeg x)
def zb (x : Int32) : Option Int32 := if x = 0 ∨ x = 1 then some x else none
def nz (x : Int32) : Option Int32 := if x = 0 then none else some x
theorem g_lt {α β : Type} {e : α} {f : α → β} {z : β} (h : lt e f = z) (y : α) (ey : y = e) : f y = z := by subst ey; exact h
theorem g_bd {α β : Type} {o : Option α} {k : α → Option β} {z : β} (h : bd o k = some z) : ∃ y, o = some y ∧ k y = some z := by
  cases o with
  | none => cases h
  | some y => exact ⟨y, rfl, h⟩
theorem g_b2 {β : Type} {o : Option (Int32 × St)} {k : Int32 → St → Option β} {z : β} (h : b2 o k = some z) : ∃ r u, o = some (r, u) ∧ k r u = some z := by
  cases o with
  | none => cases h
  | some y => exact ⟨y.1, y.2, rfl, h⟩
theorem g_pos {α : Type} {c : Prop} [Decidable c] {x y z : α} (h : (if c then x else y) = z) (hc : c) : x = z := by rwa [if_pos hc] at h
theorem g_neg {α : Type} {c : Prop} [Decidable c] {x y z : α} (h : (if c then x else y) = z) (hc : ¬ c) : y = z := by rwa [if_neg hc] at h
theorem g_ld {u : St} {k n : Nat} {i v : Int32} (h : ld u k n i = some v) : vp_in i n ∧ v = gI u k i.toNatClampNeg := by
  unfold ld at h
  by_cases hc : i < 0 ∨ n ≤ i.toNatClampNeg
  · rw [if_pos hc] at h; cases h
  · rw [if_neg hc] at h; exact ⟨hc, (Option.some.inj h).symm⟩
theorem g_ldJ {u : St} {k n : Nat} {i : Int32} {v : Int64} (h : ldJ u k n i = some v) : vp_in i n ∧ v = gJ u k i.toNatClampNeg := by
  unfold ldJ at h
  by_cases hc : i < 0 ∨ n ≤ i.toNatClampNeg
  · rw [if_pos hc] at h; cases h
  · rw [if_neg hc] at h; exact ⟨hc, (Option.some.inj h).symm⟩
theorem g_st {u u1 : St} {k n : Nat} {i x : Int32} (h : st u k n i x = some u1) : vp_in i n ∧ u1 = uI u k i.toNatClampNeg x := by
  unfold st at h
  by_cases hc : i < 0 ∨ n ≤ i.toNatClampNeg
  · rw [if_pos hc] at h; cases h
  · rw [if_neg hc] at h; exact ⟨hc, (Option.some.inj h).symm⟩
theorem g_stB {u u1 : St} {k n : Nat} {i x : Int32} (h : stB u k n i x = some u1) : vp_in i n ∧ u1 = uI u k i.toNatClampNeg x.toInt8.toInt32 := by
  unfold stB at h
  by_cases hc : i < 0 ∨ n ≤ i.toNatClampNeg
  · rw [if_pos hc] at h; cases h
  · rw [if_neg hc] at h; exact ⟨hc, (Option.some.inj h).symm⟩
theorem g_stJ {u u1 : St} {k n : Nat} {i : Int32} {x : Int64} (h : stJ u k n i x = some u1) : vp_in i n ∧ u1 = uJ u k i.toNatClampNeg x := by
  unfold stJ at h
  by_cases hc : i < 0 ∨ n ≤ i.toNatClampNeg
  · rw [if_pos hc] at h; cases h
  · rw [if_neg hc] at h; exact ⟨hc, (Option.some.inj h).symm⟩
theorem g_zb {x y : Int32} (h : zb x = some y) : y = x ∧ (x = 0 ∨ x = 1) := by
  unfold zb at h
  by_cases hc : x = 0 ∨ x = 1
  · rw [if_pos hc] at h; exact ⟨(Option.some.inj h).symm, hc⟩
  · rw [if_neg hc] at h; cases h
theorem g_nz {x y : Int32} (h : nz x = some y) : y = x ∧ ¬ x = 0 := by
  unfold nz at h
  by_cases hc : x = 0
  · rw [if_pos hc] at h; cases h
  · rw [if_neg hc] at h; exact ⟨(Option.some.inj h).symm, hc⟩
theorem g_no {α : Type} {y : α} {P : Prop} (h : (none : Option α) = some y) : P := by cases h
/-- the fuel of a loop: more than any loop here goes round -/
def FU : Nat := 1000000000
def pg (k : Nat) : Option Nat := if k = 71 ∨ k = 72 then some k else none
def ld4 (f : Nat → Int32) (i : Int32) : Option Int32 := if i < 0 ∨ 4 ≤ i.toNatClampNeg then none else some (f i.toNatClampNeg)
def uW (u : St) (k : Nat) (f : Nat → Int32) : St := (va_up u.1 k f, u.2.1, u.2.2)
def cpA (u : St) (k n : Nat) (sp dp z : Int32) : Option St := if sp < 0 ∨ dp < 0 ∨ z < 0 ∨ n < sp.toNatClampNeg + z.toNatClampNeg ∨ n < dp.toNatClampNeg + z.toNatClampNeg then none else some (uW u k (va_cpy (gI u k) (gI u k) sp.toNatClampNeg dp.toNatClampNeg z.toNatClampNeg))
def ldS (i : Nat) (j : Int32) : Option Int32 := if j < 0 ∨ strN.getD i 0 ≤ j.toNatClampNeg then none else some ((strB.getD i []).getD j.toNatClampNeg 0)
theorem g_ldS {i : Nat} {j v : Int32} (h : ldS i j = some v) : vp_in j (strN.getD i 0) ∧ v = (strB.getD i []).getD j.toNatClampNeg 0 := by
  unfold ldS at h
  by_cases hc : j < 0 ∨ strN.getD i 0 ≤ j.toNatClampNeg
  · rw [if_pos hc] at h; cases h
  · rw [if_neg hc] at h; exact ⟨hc, (Option.some.inj h).symm⟩
theorem g_ld4 {f : Nat → Int32} {i v : Int32} (h : ld4 f i = some v) : vp_in i 4 ∧ v = f i.toNatClampNeg := by
  unfold ld4 at h
  by_cases hc : i < 0 ∨ 4 ≤ i.toNatClampNeg
  · rw [if_pos hc] at h; cases h
  · rw [if_neg hc] at h; exact ⟨hc, (Option.some.inj h).symm⟩
def fill (i : Nat) : Nat → Int32 := fun j => if j < i then -1 else 0
