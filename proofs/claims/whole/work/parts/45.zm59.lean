/-! writing: the reference pushes arguments -/
theorem tpush_loop (e : Nat → Nat) (bm : Int → Int) (b : Int) (r0 : Nat) (J : Nat) (hJ : J ≤ 5) (hr : ∀ i, i < J → it e i r0 < 100000) (hb1 : -2147483648 ≤ bm b) (hb2 : bm b < 2147483648) (B : List (Int × Int)) (j : Nat) : ∀ (F : Nat) (v : St) (L : List (Nat × Int)), j ≤ J → (∀ i, i < j → I v 149 i = it e i r0) → SZ v (cm bm L ++ B) → I v 100 81 = ((cm bm L ++ B).length : Nat) → (cm bm L ++ B).length + 2 * j < 20980 → ∃ v', fX12_termOut_L0 (F + j + 1) 4 0 (zI (bm b)) 0 0 (zI ((j : Int) - 1)) 0 v = fX12_termOut_L0 F 0 0 0 0 0 0 0 v' ∧ SZ v' (if j = 0 then cm bm L ++ B else ((it e 0 r0 : Nat), bm b) :: (cm bm (items e (j - 1) (it e 1 r0) b ++ L) ++ B)) ∧ I v' 100 81 = ((if j = 0 then cm bm L ++ B else ((it e 0 r0 : Nat), bm b) :: (cm bm (items e (j - 1) (it e 1 r0) b ++ L) ++ B)).length : Nat) ∧ Fr Ql v v' := by
  induction j with
  | zero =>
    intro F v L hj hat hS h81 hl
    refine ⟨v, ?_, hS, h81, Fr_rfl _ _⟩
    have st : fX12_termOut_L0 (F + 0 + 1) 4 0 (zI (bm b)) 0 0 (zI (((0 : Nat) : Int) - 1)) 0 v = fX12_termOut_L0_4 (fX12_termOut_L0 F) (zI (bm b)) (zI (((0 : Nat) : Int) - 1)) v := rfl
    rw [st]; unfold fX12_termOut_L0_4; rw [if_pos (by decide)]
  | succ j ih =>
    intro F v L hj hat hS h81 hl
    have hrj := hr j (by omega)
    obtain ⟨v1, r1, r2, r3, r4⟩ := later_spec v (cm bm L ++ B) (it e j r0 : Nat) (bm b) (by omega) h81 hS (by omega) (by omega) hb1 hb2
    have st : fX12_termOut_L0 (F + (j + 1) + 1) 4 0 (zI (bm b)) 0 0 (zI (((j + 1 : Nat) : Int) - 1)) 0 v = fX12_termOut_L0_4 (fX12_termOut_L0 (F + j + 1)) (zI (bm b)) (zI j) v := by
      rw [show ((j + 1 : Nat) : Int) - 1 = (j : Int) by omega]; rfl
    have hopen : fX12_termOut_L0_4 (fX12_termOut_L0 (F + j + 1)) (zI (bm b)) (zI j) v = if zI j ≤ 0 then fX12_termOut_L0 (F + j + 1) 4 0 (zI (bm b)) 0 0 (zI ((j : Int) - 1)) 0 v1 else (bd (fX12_later (zI (-44)) (zI 0) v1) fun u39 => fX12_termOut_L0 (F + j + 1) 4 0 (zI (bm b)) 0 0 (zI ((j : Int) - 1)) 0 u39) := by
      generalize fX12_termOut_L0 (F + j + 1) = R
      unfold fX12_termOut_L0_4
      rw [if_neg (by rw [z_zero, z_lt (by omega) (by omega) (by decide) (by decide)]; omega), ld_z _ _ _ _ (by omega) (by omega), bd_s, Int.toNat_natCast, hat j (by omega), r1, bd_s, lt_e, show (-1 : Int32) = zI (-1) from rfl, z_add, show (j : Int) + -1 = (j : Int) - 1 by omega]
      rfl
    rw [st, hopen]
    cases j with
    | zero =>
      rw [if_pos (by decide)]
      refine ⟨v1, ?_, r2, ?_, r4⟩
      · have st2 : fX12_termOut_L0 (F + 0 + 1) 4 0 (zI (bm b)) 0 0 (zI (((0 : Nat) : Int) - 1)) 0 v1 = fX12_termOut_L0_4 (fX12_termOut_L0 F) (zI (bm b)) (zI (((0 : Nat) : Int) - 1)) v1 := rfl
        rw [st2]; unfold fX12_termOut_L0_4; rw [if_pos (by decide)]
      · rw [r3]; rfl
    | succ j =>
      rw [if_neg (by rw [z_zero, z_le (by omega) (by omega) (by decide) (by decide)]; omega)]
      obtain ⟨v2, s1, s2, s3, s4⟩ := later_spec v1 (((it e (j + 1) r0 : Nat), bm b) :: (cm bm L ++ B)) (-44) 0 (by simp only [List.length_cons]; omega) (by rw [r3]; simp only [List.length_cons]) r2 (by decide) (by decide) (by decide) (by decide)
      rw [s1, bd_s]
      have hF := Fr_tr r4 s4
      obtain ⟨v', t1, t2, t3, t4⟩ := ih F v2 ((it e (j + 1) r0, b) :: L) (by omega) (fun i hi => by rw [Fr_I hF rfl]; exact hat i (by omega)) s2 (by rw [s3]; rfl) (by simp only [cm, List.cons_append, List.length_cons]; omega)
      refine ⟨v', t1, ?_, ?_, Fr_tr hF t4⟩
      · rw [if_neg (by omega)] at t2 ⊢
        have hl2 : items e (j + 1 - 1) (it e 1 r0) b ++ (it e (j + 1) r0, b) :: L = items e (j + 1 + 1 - 1) (it e 1 r0) b ++ L := by
          rw [show j + 1 + 1 - 1 = (j + 1 - 1) + 1 by omega, items_add]
          have : it e (j + 1 - 1) (it e 1 r0) = it e (j + 1) r0 := by rw [← it_add, show 1 + (j + 1 - 1) = j + 1 by omega]
          rw [this]; simp [items]
        rw [hl2] at t2; exact t2
      · rw [if_neg (by omega)] at t3 ⊢
        have hl2 : items e (j + 1 - 1) (it e 1 r0) b ++ (it e (j + 1) r0, b) :: L = items e (j + 1 + 1 - 1) (it e 1 r0) b ++ L := by
          rw [show j + 1 + 1 - 1 = (j + 1 - 1) + 1 by omega, items_add]
          have : it e (j + 1 - 1) (it e 1 r0) = it e (j + 1) r0 := by rw [← it_add, show 1 + (j + 1 - 1) = j + 1 by omega]
          rw [this]; simp [items]
        rw [hl2] at t3; exact t3
/-- the stack behind an item: os how many arguments are open, L what is still to come -/
def rst (bm : Int → Int) : List Nat → List (Nat × Int) → List (Int × Int)
  | [], _ => []
  | n :: os, L => cm bm (L.take (n - 1)) ++ ((-41, 0) :: rst bm os (L.drop (n - 1)))
def osum : List Nat → Nat
  | [] => 0
  | n :: os => (n - 1) + osum os
theorem rst_one (bm : Int → Int) (os : List Nat) (L : List (Nat × Int)) : rst bm (1 :: os) L = (-41, 0) :: rst bm os L := by simp [rst, cm]
theorem rst_more (bm : Int → Int) (n : Nat) (os : List Nat) (x : Nat × Int) (L : List (Nat × Int)) (hn : 2 ≤ n) : rst bm (n :: os) (x :: L) = ((-44 : Int), (0 : Int)) :: ((x.1 : Int), bm x.2) :: rst bm ((n - 1) :: os) L := by
  obtain ⟨m, rfl⟩ : ∃ m, n = m + 2 := ⟨n - 2, by omega⟩
  simp [rst, cm]
theorem rst_args (bm : Int → Int) (os : List Nat) (x : Nat × Int) (A L : List (Nat × Int)) : (((x.1 : Int), bm x.2) :: (cm bm A ++ ((-41 : Int), (0 : Int)) :: rst bm os L) : List (Int × Int)) = ((x.1 : Int), bm x.2) :: rst bm ((A.length + 1) :: os) (A ++ L) := by
  simp [rst]
