/-! writing: the reference's stack -/
def SZ (v : St) : List (Int × Int) → Prop
  | [] => True
  | x :: l => I v 147 l.length = x.1 ∧ I v 148 l.length = x.2 ∧ SZ v l
theorem SZ_eq {v v' : St} (l : List (Int × Int)) : ∀ m, l.length ≤ m → (∀ i, i < m → I v' 147 i = I v 147 i ∧ I v' 148 i = I v 148 i) → SZ v l → SZ v' l := by
  induction l with
  | nil => intro _ _ _ _; trivial
  | cons x l ih =>
    intro m hm h hA
    simp only [List.length_cons] at hm
    have := h l.length (by omega)
    exact ⟨this.1.trans hA.1, this.2.trans hA.2.1, ih m (by omega) h hA.2.2⟩
theorem SZ_fr {Q : Nat → Nat → Bool} {v v' : St} {l : List (Int × Int)} (hF : Fr Q v v') (h1 : ∀ i, Q 147 i = false) (h2 : ∀ i, Q 148 i = false) (h : SZ v l) : SZ v' l := SZ_eq l _ (Nat.le_refl _) (fun i _ => ⟨Fr_I hF (h1 i), Fr_I hF (h2 i)⟩) h
def Ql : Nat → Nat → Bool := fun k i => k == 147 || k == 148 || (k == 100 && i == 81)
theorem later_spec (v : St) (l : List (Int × Int)) (a b : Int) (hl : l.length < 20990) (h81 : I v 100 81 = l.length) (hS : SZ v l) (ha1 : -2147483648 ≤ a) (ha2 : a < 2147483648) (hb1 : -2147483648 ≤ b) (hb2 : b < 2147483648) : ∃ v', fX12_later (zI a) (zI b) v = some v' ∧ SZ v' ((a, b) :: l) ∧ I v' 100 81 = ((l.length + 1 : Nat) : Int) ∧ Fr Ql v v' := by
  have e1 : I (uI v 147 l.length (zI a)) 100 81 = l.length := by rw [I_uI3 _ _ _ _ _ _ (by decide)]; exact h81
  have e2 : I (uI (uI v 147 l.length (zI a)) 148 l.length (zI b)) 100 81 = l.length := by rw [I_uI3 _ _ _ _ _ _ (by decide)]; exact e1
  refine ⟨uI (uI (uI v 147 l.length (zI a)) 148 l.length (zI b)) 100 81 (zI ((l.length + 1 : Nat) : Int)), ?_, ⟨?_, ?_, ?_⟩, I_uI1 _ _ _ _ (by omega) (by omega), Fr_up rfl (Fr_up rfl (Fr_up rfl (Fr_rfl _ _)))⟩
  · unfold fX12_later
    rw [gI_z v 100 81, h81, st_z _ _ _ _ _ (by omega) (by omega), bd_s, Int.toNat_natCast, gI_z _ 100 81, e1, st_z _ _ _ _ _ (by omega) (by omega), bd_s, Int.toNat_natCast, gI_z _ 100 81, e2, lt_e, show (1 : Int32) = zI 1 from rfl, z_add, show (l.length : Int) + 1 = ((l.length + 1 : Nat) : Int) by omega]
  · show I (uI (uI (uI v 147 l.length (zI a)) 148 l.length (zI b)) 100 81 (zI ((l.length + 1 : Nat) : Int))) 147 l.length = a
    rw [I_uI3 _ _ _ _ _ _ (by decide), I_uI3 _ _ _ _ _ _ (by decide), I_uI1 _ _ _ _ ha1 ha2]
  · show I (uI (uI (uI v 147 l.length (zI a)) 148 l.length (zI b)) 100 81 (zI ((l.length + 1 : Nat) : Int))) 148 l.length = b
    rw [I_uI3 _ _ _ _ _ _ (by decide), I_uI1 _ _ _ _ hb1 hb2]
  · refine SZ_eq l l.length (Nat.le_refl _) (fun i hi => ⟨?_, ?_⟩) hS
    · rw [I_uI3 _ _ _ _ _ _ (by decide), I_uI3 _ _ _ _ _ _ (by decide), I_uI2 _ _ _ _ _ _ (by omega)]
    · rw [I_uI3 _ _ _ _ _ _ (by decide), I_uI2 _ _ _ _ _ _ (by omega), I_uI3 _ _ _ _ _ _ (by decide)]
/-- the arguments are noted -/
theorem targ_loop {c : Nat → Int} {e : Nat → Nat} {N : Nat} (x4 : Int32) (n : Nat) (hn : n ≤ 5) (m : Nat) : ∀ (F r j : Nat) (v : St), j + m = n → RT v c e N → sg e N m r → ∃ v', fX12_termOut_L0 (F + m) 3 0 x4 (zI n) (zI r) (zI j) 0 v = fX12_termOut_L0 F 3 0 x4 (zI n) (zI (it e m r)) (zI n) 0 v' ∧ (∀ i, i < m → I v' 149 (j + i) = it e i r) ∧ (∀ i, i < j → I v' 149 i = I v 149 i) ∧ Fr (fun k _ => k == 149) v v' := by
  induction m with
  | zero =>
    intro F r j v hj hRT hsg
    have : j = n := by omega
    subst this
    exact ⟨v, rfl, fun i hi => by omega, fun i hi => rfl, Fr_rfl _ _⟩
  | succ m ih =>
    intro F r j v hj hRT hsg
    obtain ⟨s1, s2, s3⟩ := hsg
    have hN := hRT.1
    have F1 : Fr (fun k _ => k == 149) v (uI v 149 j (zI r)) := Fr_up rfl (Fr_rfl _ _)
    have hRT1 := RT_fr F1 (fun _ => rfl) (fun _ => rfl) (fun _ => rfl) hRT
    have hstep : fX12_termOut_L0 (F + (m + 1)) 3 0 x4 (zI n) (zI r) (zI j) 0 v = fX12_termOut_L0 (F + m) 3 0 x4 (zI n) (zI (e r)) (zI ((j + 1 : Nat) : Int)) 0 (uI v 149 j (zI r)) := by
      have st : fX12_termOut_L0 (F + (m + 1)) 3 0 x4 (zI n) (zI r) (zI j) 0 v = fX12_termOut_L0_3 (fX12_termOut_L0 (F + m)) x4 (zI n) (zI r) (zI j) v := rfl
      rw [st]
      generalize fX12_termOut_L0 (F + m) = R
      unfold fX12_termOut_L0_3
      rw [if_neg (by rw [z_le (by omega) (by omega) (by omega) (by omega)]; omega), st_z _ _ _ _ _ (by omega) (by omega), bd_s, Int.toNat_natCast, ld_z _ _ _ _ (by omega) (by omega), bd_s, Int.toNat_natCast, (hRT1.2.1 r s1).2.2.2, lt_e, show (1 : Int32) = zI 1 from rfl, z_add, show (j : Int) + 1 = ((j + 1 : Nat) : Int) by omega]
    obtain ⟨v', r1, r2, r3, r4⟩ := ih F (e r) (j + 1) (uI v 149 j (zI r)) (by omega) hRT1 s3
    refine ⟨v', hstep.trans r1, ?_, ?_, Fr_tr F1 r4⟩
    · intro i hi
      cases i with
      | zero => rw [Nat.add_zero, r3 j (by omega), I_uI1 _ _ _ _ (by omega) (by omega)]; rfl
      | succ i => rw [show j + (i + 1) = j + 1 + i by omega, r2 i (by omega)]; rfl
    · intro i hi; rw [r3 i (by omega), I_uI2 _ _ _ _ _ _ (by omega)]
/-- commas ahead of arguments -/
def cm (bm : Int → Int) : List (Nat × Int) → List (Int × Int)
  | [] => []
  | x :: l => (-44, 0) :: (x.1, bm x.2) :: cm bm l
theorem cm_len (bm : Int → Int) (l : List (Nat × Int)) : (cm bm l).length = 2 * l.length := by
  induction l with
  | nil => rfl
  | cons x l ih => simp only [cm, List.length_cons, ih]; omega
theorem cm_append (bm : Int → Int) (l l' : List (Nat × Int)) : cm bm (l ++ l') = cm bm l ++ cm bm l' := by
  induction l with
  | nil => rfl
  | cons x l ih => simp [cm, ih]
