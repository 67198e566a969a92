/-! reading: signs -/
def ixf (c : Int32) : List Int32 → Nat → Int
  | [], _ => -1
  | a :: l, i => if a = c then (i : Int) else ixf c l (i + 1)
theorem ix_loop (k : Nat) (L : List Int32) (hL : strB.getD k [] = L) (hN : strN.getD k 0 = L.length) (hlen : L.length ≤ 100) (c : Int32) (u : St) (l : List Int32) : ∀ (F : Nat) (pre : List Int32), L = pre ++ l → l.length < F → fJ1_indexOfChar_4cfef_L0 k F 0 (zI L.length) c (zI pre.length) u = some (zI (ixf c l pre.length), u) := by
  induction l with
  | nil =>
    intro F pre hp hF
    obtain ⟨G, rfl⟩ : ∃ G, F = G + 1 := ⟨F - 1, by omega⟩
    have hl : L.length = pre.length := by rw [hp]; simp
    have st : fJ1_indexOfChar_4cfef_L0 k (G + 1) 0 (zI L.length) c (zI pre.length) u = fJ1_indexOfChar_4cfef_L0_0 k (fJ1_indexOfChar_4cfef_L0 k G) (zI L.length) c (zI pre.length) u := rfl
    rw [st]
    unfold fJ1_indexOfChar_4cfef_L0_0
    rw [if_pos (by rw [z_le (by omega) (by omega) (by omega) (by omega)]; omega)]
    rfl
  | cons a l ih =>
    intro F pre hp hF
    obtain ⟨G, rfl⟩ : ∃ G, F = G + 1 := ⟨F - 1, by omega⟩
    have hl : L.length = pre.length + (l.length + 1) := by rw [hp]; simp
    have hget : ldS k (zI pre.length) = some a := by
      unfold ldS
      rw [if_neg, z_clamp (by omega) (by omega), hL, hp]
      · simp
      · rw [z_clamp (by omega) (by omega), hN, not_or, Int.toNat_natCast]
        refine ⟨?_, by omega⟩
        rw [z_zero, z_lt (by omega) (by omega) (by decide) (by decide)]; omega
    have st : fJ1_indexOfChar_4cfef_L0 k (G + 1) 0 (zI L.length) c (zI pre.length) u = fJ1_indexOfChar_4cfef_L0_0 k (fJ1_indexOfChar_4cfef_L0 k G) (zI L.length) c (zI pre.length) u := rfl
    have hih := ih G (pre ++ [a]) (by rw [hp]; simp) (by simp at hF; omega)
    rw [st]
    generalize fJ1_indexOfChar_4cfef_L0 k G = R at hih ⊢
    unfold fJ1_indexOfChar_4cfef_L0_0
    rw [if_neg (by rw [z_le (by omega) (by omega) (by omega) (by omega)]; omega), hget, bd_s]
    by_cases hac : a = c
    · rw [if_pos hac]; simp [ixf, hac]
    · rw [if_neg hac, lt_e, show (1 : Int32) = zI 1 from rfl, z_add, show (pre.length : Int) + 1 = ((pre.length + 1 : Nat) : Int) by omega]
      rw [List.length_append, List.length_singleton] at hih
      rw [hih]; simp [ixf, hac]
def Ix (k c : Nat) : Int := ixf ((zI c).toInt8.toInt32) (strB.getD k []) 0
theorem ix_spec (k c : Nat) (hk : k < 5) (hc : c < 256) (u : St) : fJ0_indexOf_0f7a4 k (zI c) u = some (zI (Ix k c), u) := by
  have hN : strN.getD k 0 = (strB.getD k []).length ∧ (strB.getD k []).length ≤ 100 ∧ 0 < (strB.getD k []).length := by
    have : k = 0 ∨ k = 1 ∨ k = 2 ∨ k = 3 ∨ k = 4 := by omega
    rcases this with h | h | h | h | h <;> subst h <;> decide
  have hsh : (Int32.ofNat (strN.getD k 0)) >>> ((0 : Int32) &&& 31) = zI (strB.getD k []).length := by
    have : k = 0 ∨ k = 1 ∨ k = 2 ∨ k = 3 ∨ k = 4 := by omega
    rcases this with h | h | h | h | h <;> subst h <;> decide
  have hof : Int32.ofNat (strN.getD k 0) = zI (strB.getD k []).length := by
    have : k = 0 ∨ k = 1 ∨ k = 2 ∨ k = 3 ∨ k = 4 := by omega
    rcases this with h | h | h | h | h <;> subst h <;> decide
  have hl := ix_loop k (strB.getD k []) rfl hN.1 hN.2.1 ((zI c).toInt8.toInt32) u (strB.getD k []) FU [] rfl (by unfold FU; omega)
  unfold fJ0_indexOf_0f7a4 fJ0_indexOf_7cf53 fJ0_isLatin1_aae02 fJ0_length_8abf5 fJ0_coder_7d493 fJ1_indexOf_4cfef fJ1_canEncode_9a6ad fJ1_indexOfChar_4cfef
  rw [if_neg (by decide), if_pos rfl, b2_s, if_neg (by decide), if_neg (by decide), b2_s, b2_s, hsh, if_neg (by rw [z_zero, z_lt (by omega) (by omega) (by decide) (by decide)]; omega), if_neg (by rw [z_lit, z_lt (by decide) (by decide) (by omega) (by omega)]; omega), b2_s, if_neg (by decide), lt_e, if_neg (show ¬ ((0 : Int32) < 0) by decide), lt_e, hof, if_neg (show ¬ (zI (strB.getD k []).length < zI (strB.getD k []).length) by rw [z_lt (by omega) (by omega) (by omega) (by omega)]; omega), if_pos (by rw [z_zero, z_lt (by decide) (by decide) (by omega) (by omega)]; omega), lt_e]
  have hl2 : fJ1_indexOfChar_4cfef_L0 k FU 0 (zI (strB.getD k []).length) ((zI c).toInt8.toInt32) 0 u = some (zI (Ix k c), u) := hl
  rw [hl2, b2_s, b2_s, b2_s]
def isW (c : Nat) : Prop := (97 ≤ c ∧ c ≤ 122) ∨ (65 ≤ c ∧ c ≤ 90) ∨ (48 ≤ c ∧ c ≤ 57) ∨ c = 95
def mkI (c : Nat) : Int := if c = 40 then 0 else if c = 41 then 1 else if c = 44 then 2 else if c = 46 then 3 else if c = 58 then 4 else if c = 126 then 5 else if c = 38 then 6 else if c = 124 then 7 else if c = 33 then 8 else if c = 63 then 9 else -1
theorem Ix0 (c : Nat) (hc : c < 256) : Ix 0 c < 0 ↔ ¬ (c = 9 ∨ c = 10 ∨ c = 13 ∨ c = 32) := (show ∀ c : Fin 256, Ix 0 c.1 < 0 ↔ ¬ (c.1 = 9 ∨ c.1 = 10 ∨ c.1 = 13 ∨ c.1 = 32) by decide +kernel) ⟨c, hc⟩
theorem Ix1 (c : Nat) (hc : c < 256) : Ix 1 c < 0 ↔ ¬ (97 ≤ c ∧ c ≤ 122) := (show ∀ c : Fin 256, Ix 1 c.1 < 0 ↔ ¬ (97 ≤ c.1 ∧ c.1 ≤ 122) by decide +kernel) ⟨c, hc⟩
theorem Ix2 (c : Nat) (hc : c < 256) : Ix 2 c < 0 ↔ ¬ (65 ≤ c ∧ c ≤ 90) := (show ∀ c : Fin 256, Ix 2 c.1 < 0 ↔ ¬ (65 ≤ c.1 ∧ c.1 ≤ 90) by decide +kernel) ⟨c, hc⟩
theorem Ix3 (c : Nat) (hc : c < 256) : Ix 3 c < 0 ↔ ¬ isW c := (show ∀ c : Fin 256, Ix 3 c.1 < 0 ↔ ¬ ((97 ≤ c.1 ∧ c.1 ≤ 122) ∨ (65 ≤ c.1 ∧ c.1 ≤ 90) ∨ (48 ≤ c.1 ∧ c.1 ≤ 57) ∨ c.1 = 95) by decide +kernel) ⟨c, hc⟩
theorem Ix4 (c : Nat) (hc : c < 256) : Ix 4 c = mkI c := (show ∀ c : Fin 256, Ix 4 c.1 = mkI c.1 by decide +kernel) ⟨c, hc⟩
theorem Ixr (k c : Nat) (hk : k < 5) (hc : c < 256) : -1 ≤ Ix k c ∧ Ix k c < 100 := (show ∀ k : Fin 5, ∀ c : Fin 256, -1 ≤ Ix k.1 c.1 ∧ Ix k.1 c.1 < 100 by decide +kernel) ⟨k, hk⟩ ⟨c, hc⟩
/-- the letter's number -/
def lr (c : Nat) : Nat := if 97 ≤ c ∧ c ≤ 122 then c - 96 else if 65 ≤ c ∧ c ≤ 90 then c - 38 else if 48 ≤ c ∧ c ≤ 57 then c + 5 else if c = 95 then 63 else 0
theorem lr_ch (c : Nat) (hc : c < 256) (h : isW c) : 1 ≤ lr c ∧ lr c ≤ 63 ∧ ch (lr c) = c := (show ∀ c : Fin 256, ((97 ≤ c.1 ∧ c.1 ≤ 122) ∨ (65 ≤ c.1 ∧ c.1 ≤ 90) ∨ (48 ≤ c.1 ∧ c.1 ≤ 57) ∨ c.1 = 95) → 1 ≤ lr c.1 ∧ lr c.1 ≤ 63 ∧ ch (lr c.1) = c.1 by decide +kernel) ⟨c, hc⟩ h
theorem lr_no (c : Nat) (h : ¬ isW c) : lr c = 0 := by
  unfold isW at h; unfold lr
  rw [if_neg (by omega), if_neg (by omega), if_neg (by omega), if_neg (by omega)]
theorem letter_spec (c : Int) (h1 : -1 ≤ c) (h2 : c < 256) (v : St) : fX12_letter (zI c) v = some (zI (if c < 0 then 0 else (lr c.toNat : Int)), v) := by
  have hi : ∀ lo hi : Int, -2147483648 ≤ lo → lo < 2147483648 → -2147483648 ≤ hi → hi < 2147483648 → fX12_in (zI c) (zI lo) (zI hi) v = some (zI (if lo ≤ c ∧ c ≤ hi then 1 else 0), v) := fun lo hi a1 a2 a3 a4 => in_spec c lo hi v (by omega) (by omega) a1 a2 a3 a4
  have e1 := hi 97 122 (by decide) (by decide) (by decide) (by decide)
  have e2 := hi 65 90 (by decide) (by decide) (by decide) (by decide)
  have e3 := hi 48 57 (by decide) (by decide) (by decide) (by decide)
  have l0 : ∀ n : Int, (zI n = 0) = (zI n = zI 0) := fun _ => rfl
  unfold fX12_letter lr
  rw [show (97 : Int32) = zI 97 from rfl, show (122 : Int32) = zI 122 from rfl, show (65 : Int32) = zI 65 from rfl, show (90 : Int32) = zI 90 from rfl, show (48 : Int32) = zI 48 from rfl, show (57 : Int32) = zI 57 from rfl, show (95 : Int32) = zI 95 from rfl, show (63 : Int32) = zI 63 from rfl, show (53 : Int32) = zI 53 from rfl, show (27 : Int32) = zI 27 from rfl, e1, b2_s]
  by_cases a1 : 97 ≤ c ∧ c ≤ 122
  · rw [if_pos a1, if_neg (by decide), if_neg (by omega), if_pos (by omega), show (1 : Int32) = zI 1 from rfl, z_sub, z_add, show c - 97 + 1 = ((c.toNat - 96 : Nat) : Int) by omega]
  · rw [if_neg a1, if_pos q0, e2, b2_s]
    by_cases a2 : 65 ≤ c ∧ c ≤ 90
    · rw [if_pos a2, if_neg (by decide), if_neg (by omega), if_neg (by omega), if_pos (by omega), z_sub, z_add, show c - 65 + 27 = ((c.toNat - 38 : Nat) : Int) by omega]
    · rw [if_neg a2, if_pos q0, e3, b2_s]
      by_cases a3 : 48 ≤ c ∧ c ≤ 57
      · rw [if_pos a3, if_neg (by decide), if_neg (by omega), if_neg (by omega), if_neg (by omega), if_pos (by omega), z_sub, z_add, show c - 48 + 53 = ((c.toNat + 5 : Nat) : Int) by omega]
      · rw [if_neg a3, if_pos q0]
        by_cases a4 : c = 95
        · rw [if_pos (by rw [a4]), if_neg (by omega), if_neg (by omega), if_neg (by omega), if_neg (by omega), if_pos (by omega)]; rfl
        · rw [if_neg (by rw [z_eq (by omega) (by omega) (by decide) (by decide)]; exact a4)]
          by_cases a5 : c < 0
          · rw [if_pos a5]; rfl
          · rw [if_neg a5, if_neg (by omega), if_neg (by omega), if_neg (by omega), if_neg (by omega)]; rfl
