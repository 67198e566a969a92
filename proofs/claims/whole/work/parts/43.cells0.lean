theorem sub_pos {D : va_G} {cl : List vw_C} {A : Nat → Prop} {H : Heap} {w1 w2 : va_W} (pos : List Nat) (h : ∀ (i : Nat) (q : Nat × va_E), w2[i]? = some q → w1[pos.getD i 0]? = some q) (hn : ∀ i, i < pos.length → ∀ j, j < pos.length → pos.getD i 0 = pos.getD j 0 → i = j) (hl : w2.length ≤ pos.length) (hP : va_P D cl w1 H) (hD : va_D A w1) : va_P D cl w2 H ∧ va_D A w2 := by
  refine ⟨fun k q hk => hP _ q (h k q hk), fun i j p q hi hj hpq => ?_, fun k q hk => hD.2 _ q (h k q hk)⟩
  have e := hD.1 _ _ p q (h i p hi) (h j q hj) hpq
  exact hn i (Nat.lt_of_lt_of_le (List.getElem?_eq_some_iff.mp hi).1 hl) j (Nat.lt_of_lt_of_le (List.getElem?_eq_some_iff.mp hj).1 hl) e
def posL : List Nat := [0, 1, 3, 13, 23, 34, 24, 41, 62, 63, 70, 50, 54, 58, 2, 4, 5, 6, 7, 8, 51, 52, 53, 55, 56, 57, 59, 60, 61, 9, 10, 11, 12, 14, 15, 16, 17, 18, 19, 20, 21, 22, 35, 36, 37, 38, 39, 40, 25, 26, 27, 28, 29, 30, 31, 32, 33, 42, 43, 44, 45, 46, 47, 48, 49, 64, 65, 66, 67, 68, 69, 71, 72, 73, 74, 75, 76, 77, 78, 79, 80, 81, 82, 83, 84, 85, 86, 87, 88, 89, 90, 91, 92, 93, 94, 95, 96, 97, 98, 99, 100, 101, 102, 103, 104, 105, 106, 107, 108, 109, 110, 111, 112, 113, 114, 115, 116, 117, 118, 119, 120, 121, 122, 123, 124, 125, 126, 127, 128, 129, 130, 131, 132, 133, 134, 135, 136, 137, 138, 139, 140, 141, 142, 143, 144, 145, 146, 147, 148, 149, 150, 151, 152]
theorem posL_len : 76 + 77 ≤ posL.length := by decide +kernel
theorem posL_inj : ∀ i, i < posL.length → ∀ j, j < posL.length → posL.getD i 0 = posL.getD j 0 → i = j := by decide +kernel
set_option maxRecDepth 100000 in
set_option maxHeartbeats 4000000 in
theorem cellR (G : Gt) : cell G v0 100 = .inr (12, [.int 0, .ref (G.1 101), .int 0, .int 0, .ref (G.1 102), .ref (G.1 103), .ref (G.1 104), .int 0, .int 0, .ref (G.1 105), .int 0, .ref (G.1 106), .ref (G.1 107), .ref (G.1 108), .int 0, .ref (G.1 109), .ref (G.1 110), .int 0, .ref (G.1 111), .ref (G.1 112), .ref (G.1 113), .int 0, .int 0, .int 0, .int 0, .int 0, .int 0, .long 0, .int 0, .ref (G.1 114), .ref (G.1 115), .ref (G.1 116), .ref (G.1 117), .int 0, .ref (G.1 118), .int 0, .ref (G.1 119), .int 0, .int 0, .ref (G.1 120), .ref (G.1 121), .int 0, .ref (G.1 122), .int 0, .ref (G.1 123), .ref (G.1 124), .ref (G.1 125), .int 0, .int 0, .int 0, .ref (G.1 126), .ref (G.1 127), .ref (G.1 128), .int 0, .ref (G.1 129), .int 0, .int 0, .ref (G.1 130), .ref (G.1 131), .ref (G.1 132), .ref (G.1 133), .int 0, .ref (G.1 134), .ref (G.1 135), .ref (G.1 136), .ref (G.1 137), .int 0, .ref (G.1 138), .ref (G.1 139), .int 0, .ref (G.1 140), .ref (G.1 141), .ref (G.1 142), .int 0, .ref (G.1 143), .ref (G.1 144), .int 0, .ref (G.1 145), .int 0, .int 0, .ref (G.1 146), .int 0, .ref (G.1 147), .ref (G.1 148), .ref (G.1 149), .ref (G.1 150), .ref (G.1 151), .ref (G.1 152), .ref (G.1 153), .int 0, .ref (G.1 154), .ref (G.1 155), .int 0, .int 0, .ref (G.1 156), .int 0, .int 0, .int 0, .int 0, .int 0, .int 0, .int 0, .int 0, .int 0, .int 0, .int 0, .ref (G.1 157), .ref (G.1 158), .ref (G.1 159), .ref (G.1 160), .int 0, .int 0, .ref (G.1 161), .ref (G.1 162), .ref (G.1 163), .ref (G.1 164), .int 0, .ref (G.1 165), .ref (G.1 166), .ref (G.1 167), .int 0, .ref (G.1 168), .ref (G.1 169), .ref (G.1 170), .ref (G.1 171), .ref (G.1 172), .ref (G.1 173), .ref (G.1 174), .ref (G.1 175), .ref (G.1 176), .int 0]) := by
  rw [cell_obj (ci := 12) (ts := objR.2) rfl]
  refine congrArg (fun z => (Sum.inr (12, z) : va_E)) ?_
  apply List.ext_getElem?
  intro n
  rw [List.getElem?_mapIdx]
  match n with
  | 0 => rfl
  | 1 => rfl
  | 2 => rfl
  | 3 => rfl
  | 4 => rfl
  | 5 => rfl
  | 6 => rfl
  | 7 => rfl
  | 8 => rfl
  | 9 => rfl
  | 10 => rfl
  | 11 => rfl
  | 12 => rfl
  | 13 => rfl
  | 14 => rfl
  | 15 => rfl
  | 16 => rfl
  | 17 => rfl
  | 18 => rfl
  | 19 => rfl
  | 20 => rfl
  | 21 => rfl
  | 22 => rfl
  | 23 => rfl
  | 24 => rfl
  | 25 => rfl
  | 26 => rfl
  | 27 => rfl
  | 28 => rfl
  | 29 => rfl
  | 30 => rfl
  | 31 => rfl
  | 32 => rfl
  | 33 => rfl
  | 34 => rfl
  | 35 => rfl
  | 36 => rfl
  | 37 => rfl
  | 38 => rfl
  | 39 => rfl
  | 40 => rfl
  | 41 => rfl
  | 42 => rfl
  | 43 => rfl
  | 44 => rfl
  | 45 => rfl
  | 46 => rfl
  | 47 => rfl
  | 48 => rfl
  | 49 => rfl
  | 50 => rfl
  | 51 => rfl
  | 52 => rfl
  | 53 => rfl
  | 54 => rfl
  | 55 => rfl
  | 56 => rfl
  | 57 => rfl
  | 58 => rfl
  | 59 => rfl
  | 60 => rfl
  | 61 => rfl
  | 62 => rfl
  | 63 => rfl
  | 64 => rfl
  | 65 => rfl
  | 66 => rfl
  | 67 => rfl
  | 68 => rfl
  | 69 => rfl
  | 70 => rfl
  | 71 => rfl
  | 72 => rfl
  | 73 => rfl
  | 74 => rfl
  | 75 => rfl
  | 76 => rfl
  | 77 => rfl
  | 78 => rfl
  | 79 => rfl
  | 80 => rfl
  | 81 => rfl
  | 82 => rfl
  | 83 => rfl
  | 84 => rfl
  | 85 => rfl
  | 86 => rfl
  | 87 => rfl
  | 88 => rfl
  | 89 => rfl
  | 90 => rfl
  | 91 => rfl
  | 92 => rfl
  | 93 => rfl
  | 94 => rfl
  | 95 => rfl
  | 96 => rfl
  | 97 => rfl
  | 98 => rfl
  | 99 => rfl
  | 100 => rfl
  | 101 => rfl
  | 102 => rfl
  | 103 => rfl
  | 104 => rfl
  | 105 => rfl
  | 106 => rfl
  | 107 => rfl
  | 108 => rfl
  | 109 => rfl
  | 110 => rfl
  | 111 => rfl
  | 112 => rfl
  | 113 => rfl
  | 114 => rfl
  | 115 => rfl
  | 116 => rfl
  | 117 => rfl
  | 118 => rfl
  | 119 => rfl
  | 120 => rfl
  | 121 => rfl
  | 122 => rfl
  | 123 => rfl
  | 124 => rfl
  | 125 => rfl
  | 126 => rfl
  | 127 => rfl
  | 128 => rfl
  | 129 => rfl
  | 130 => rfl
  | n + 131 => rfl
set_option maxRecDepth 100000 in
set_option maxHeartbeats 4000000 in
theorem sc_C {G0 : Gt} {ch0 cq1 cq2 cq3 cq4 cq5 cq6 cq7 cq8 cq9 cq10 cq11 cq12 cq13 cq14 cq15 cq16 cq17 cq18 cq19 cq20 cq21 cq22 cq23 cq25 cq26 cq27 cq28 cq29 cq30 cq31 cq32 cq33 cq34 cq24 cq35 cq36 cq37 cq38 cq39 cq40 cq41 cq42 cq43 cq44 cq45 cq46 cq47 cq48 cq49 cq50 cq51 cq52 cq53 cq54 cq55 cq56 cq57 cq58 cq59 cq60 cq61 cq63 cq62 cq64 cq65 cq66 cq67 cq68 cq69 cq70 cq71 cq72 cq73 cq74 cq75 dh0 dq1 dq2 dq3 dq4 dq5 dq6 dq7 dq8 dq9 dq10 dq11 dq12 dq13 dq14 dq15 dq16 dq17 dq18 dq19 dq20 dq21 dq22 dq23 dq24 dq25 dq26 dq27 dq28 dq29 dq30 dq31 dq32 dq33 dq34 dq35 dq36 dq37 dq38 dq39 dq40 dq41 dq42 dq43 dq44 dq45 dq46 dq47 dq48 dq49 dq50 dq51 dq52 dq53 dq54 dq55 dq56 dq57 dq58 dq59 dq60 dq61 dq62 dq63 dq64 dq65 dq66 dq67 dq68 dq69 dq70 dq71 dq72 dq73 dq74 dq75 dq76 : Nat} : ∀ i, i < 76 → ([(ch0, .inr (11, [.ref cq1, .ref cq3, .ref cq13, .ref cq23, .ref cq24, .ref cq62, .ref cq70, .int (-1)])), (cq1, .inr (6, [.ref cq2, .int 0, .int 0, .long 0, .int 0, .int 0, .int 0])), (cq2, .inl (G0.2.2.1 0, 1500, .inl (fun _ => 0))), (cq3, .inr (4, [.ref cq4, .ref cq5, .ref cq6, .int 0, .int 0, .int 0, .ref cq7, .ref cq8, .ref cq9, .ref cq10, .ref cq11, .ref cq12])), (cq4, .inl (G0.2.2.1 2, 811, .inr (.inl (fun _ => 0)))), (cq5, .inl (G0.2.2.1 1, 811, .inl (fun _ => 0))), (cq6, .inl (G0.2.2.1 3, 811, .inl (fun _ => 0))), (cq7, .inl (G0.2.2.1 1, 101, .inl (fun _ => 0))), (cq8, .inl (G0.2.2.1 1, 100, .inl (fun _ => 0))), (cq9, .inl (G0.2.2.1 1, 1201, .inl (fun _ => 0))), (cq10, .inl (G0.2.2.1 3, 1200, .inl (fun _ => 0))), (cq11, .inl (G0.2.2.1 1, 1200, .inl (fun _ => 0))), (cq12, .inl (G0.2.2.1 1, 20000, .inl (fun _ => 0))), (cq13, .inr (7, [.ref cq14, .ref cq15, .ref cq16, .ref cq17, .int 0, .ref cq18, .int 0, .ref cq19, .ref cq20, .ref cq21, .int 0, .ref cq22, .int 0])), (cq14, .inl (G0.2.2.1 1, 1501, .inl (fun _ => 0))), (cq15, .inl (G0.2.2.1 1, 1501, .inl (fun _ => 0))), (cq16, .inl (G0.2.2.1 1, 1501, .inl (fun _ => 0))), (cq17, .inl (G0.2.2.1 1, 1501, .inl (fun _ => 0))), (cq18, .inl (G0.2.2.1 1, 1501, .inl (fun _ => 0))), (cq19, .inl (G0.2.2.1 2, 1501, .inr (.inl (fun _ => 0)))), (cq20, .inl (G0.2.2.1 1, 1501, .inl (fun _ => 0))), (cq21, .inl (G0.2.2.1 3, 1501, .inl (fun _ => 0))), (cq22, .inl (G0.2.2.1 1, 1501, .inl (fun _ => 0))), (cq23, .inr (2, [.ref cq1, .ref cq3, .ref cq13, .int 0, .int 0, .int 0])), (cq25, .inr (10, [.ref cq26, .int 0, .ref cq27, .ref cq28, .int 0, .ref cq29, .ref cq30, .int 0, .ref cq31, .ref cq32, .int 0, .int 0, .ref cq33, .ref cq34, .int 0])), (cq26, .inl (G0.2.2.1 1, 18000, .inl (fun _ => 0))), (cq27, .inl (G0.2.2.1 1, 601, .inl (fun _ => 0))), (cq28, .inl (G0.2.2.1 3, 600, .inl (fun _ => 0))), (cq29, .inl (G0.2.2.1 1, 6000, .inl (fun _ => 0))), (cq30, .inl (G0.2.2.1 1, 601, .inl (fun _ => 0))), (cq31, .inl (G0.2.2.1 1, 400, .inl (fun _ => 0))), (cq32, .inl (G0.2.2.1 1, 400, .inl (fun _ => 0))), (cq33, .inl (G0.2.2.1 1, 12, .inl (fun _ => 0))), (cq34, .inl (G0.2.2.1 1, 10, .inl (fun _ => 0))), (cq24, .inr (0, [.ref cq3, .ref cq13, .ref cq25, .ref cq35, .int 0, .int 0, .ref cq36, .ref cq37, .ref cq38, .ref cq39, .int 0, .ref cq40, .int 0, .int 0])), (cq35, .inl (G0.2.2.1 1, 4500, .inl (fun _ => 0))), (cq36, .inl (G0.2.2.1 1, 1501, .inl (fun _ => 0))), (cq37, .inl (G0.2.2.1 1, 40, .inl (fun _ => 0))), (cq38, .inl (G0.2.2.1 1, 40, .inl (fun _ => 0))), (cq39, .inl (G0.2.2.1 1, 40, .inl (fun _ => 0))), (cq40, .inl (G0.2.2.1 1, 290, .inl (fun _ => 0))), (cq41, .inr (5, [.ref cq3, .ref cq42, .ref cq43, .ref cq44, .ref cq45, .ref cq46, .int 0, .int 0, .ref cq47, .ref cq48, .ref cq49, .int 0])), (cq42, .inl (G0.2.2.1 1, 150, .inl (fun _ => 0))), (cq43, .inl (G0.2.2.1 1, 150, .inl (fun _ => 0))), (cq44, .inl (G0.2.2.1 1, 150, .inl (fun _ => 0))), (cq45, .inl (G0.2.2.1 1, 150, .inl (fun _ => 0))), (cq46, .inl (G0.2.2.1 1, 150, .inl (fun _ => 0))), (cq47, .inl (G0.2.2.1 1, 220, .inl (fill 220))), (cq48, .inl (G0.2.2.1 1, 220, .inl (fun _ => 0))), (cq49, .inl (G0.2.2.1 1, 220, .inl (fun _ => 0))), (cq50, .inr (9, [.ref cq3, .ref cq41, .ref cq51, .ref cq52, .ref cq53, .int 0])), (cq51, .inl (G0.2.2.1 1, 222, .inl (fun _ => 0))), (cq52, .inl (G0.2.2.1 1, 222, .inl (fun _ => 0))), (cq53, .inl (G0.2.2.1 1, 222, .inl (fun _ => 0))), (cq54, .inr (9, [.ref cq3, .ref cq41, .ref cq55, .ref cq56, .ref cq57, .int 0])), (cq55, .inl (G0.2.2.1 1, 222, .inl (fun _ => 0))), (cq56, .inl (G0.2.2.1 1, 222, .inl (fun _ => 0))), (cq57, .inl (G0.2.2.1 1, 222, .inl (fun _ => 0))), (cq58, .inr (9, [.ref cq3, .ref cq41, .ref cq59, .ref cq60, .ref cq61, .int 0])), (cq59, .inl (G0.2.2.1 1, 222, .inl (fun _ => 0))), (cq60, .inl (G0.2.2.1 1, 222, .inl (fun _ => 0))), (cq61, .inl (G0.2.2.1 1, 222, .inl (fun _ => 0))), (cq63, .inr (8, [.ref cq3, .ref cq41, .ref cq50, .ref cq54, .ref cq58, .int 0])), (cq62, .inr (3, [.ref cq3, .ref cq41, .ref cq63, .ref cq64, .ref cq65, .ref cq66, .ref cq67, .ref cq68, .ref cq69, .int 0, .int 0, .int 0, .int 0, .int 0, .int 0, .int 0])), (cq64, .inl (G0.2.2.1 1, 151, .inl (fun _ => 0))), (cq65, .inl (G0.2.2.1 1, 151, .inl (fun _ => 0))), (cq66, .inl (G0.2.2.1 1, 151, .inl (fun _ => 0))), (cq67, .inl (G0.2.2.1 1, 151, .inl (fun _ => 0))), (cq68, .inl (G0.2.2.1 1, 151, .inl (fun _ => 0))), (cq69, .inl (G0.2.2.1 1, 151, .inl (fun _ => 0))), (cq70, .inr (1, [.ref cq3, .ref cq58, .ref cq71, .int 0, .ref cq72, .int 0, .int 0, .ref cq73, .int 0, .ref cq74, .int 0, .ref cq75])), (cq71, .inl (G0.2.2.1 0, 4000, .inl (fun _ => 0))), (cq72, .inl (G0.2.2.1 0, 4000, .inl (fun _ => 0))), (cq73, .inl (G0.2.2.1 1, 4000, .inl (fun _ => 0))), (cq74, .inl (G0.2.2.1 1, 220, .inl (fun _ => 0))), (cq75, .inl (G0.2.2.1 1, 10, .inl (fun _ => 0)))] ++ [(dh0, .inr (12, [.int 0, .ref dq1, .int 0, .int 0, .ref dq2, .ref dq3, .ref dq4, .int 0, .int 0, .ref dq5, .int 0, .ref dq6, .ref dq7, .ref dq8, .int 0, .ref dq9, .ref dq10, .int 0, .ref dq11, .ref dq12, .ref dq13, .int 0, .int 0, .int 0, .int 0, .int 0, .int 0, .long 0, .int 0, .ref dq14, .ref dq15, .ref dq16, .ref dq17, .int 0, .ref dq18, .int 0, .ref dq19, .int 0, .int 0, .ref dq20, .ref dq21, .int 0, .ref dq22, .int 0, .ref dq23, .ref dq24, .ref dq25, .int 0, .int 0, .int 0, .ref dq26, .ref dq27, .ref dq28, .int 0, .ref dq29, .int 0, .int 0, .ref dq30, .ref dq31, .ref dq32, .ref dq33, .int 0, .ref dq34, .ref dq35, .ref dq36, .ref dq37, .int 0, .ref dq38, .ref dq39, .int 0, .ref dq40, .ref dq41, .ref dq42, .int 0, .ref dq43, .ref dq44, .int 0, .ref dq45, .int 0, .int 0, .ref dq46, .int 0, .ref dq47, .ref dq48, .ref dq49, .ref dq50, .ref dq51, .ref dq52, .ref dq53, .int 0, .ref dq54, .ref dq55, .int 0, .int 0, .ref dq56, .int 0, .int 0, .int 0, .int 0, .int 0, .int 0, .int 0, .int 0, .int 0, .int 0, .int 0, .ref dq57, .ref dq58, .ref dq59, .ref dq60, .int 0, .int 0, .ref dq61, .ref dq62, .ref dq63, .ref dq64, .int 0, .ref dq65, .ref dq66, .ref dq67, .int 0, .ref dq68, .ref dq69, .ref dq70, .ref dq71, .ref dq72, .ref dq73, .ref dq74, .ref dq75, .ref dq76, .int 0])), (dq1, .inl (G0.2.2.1 0, 1500, .inl (fun _ => 0))), (dq2, .inl (G0.2.2.1 2, 820, .inr (.inl (fun _ => 0)))), (dq3, .inl (G0.2.2.1 1, 820, .inl (fun _ => 0))), (dq4, .inl (G0.2.2.1 3, 820, .inl (fun _ => 0))), (dq5, .inl (G0.2.2.1 1, 3100, .inl (fun _ => 0))), (dq6, .inl (G0.2.2.1 1, 101, .inl (fun _ => 0))), (dq7, .inl (G0.2.2.1 1, 101, .inl (fun _ => 0))), (dq8, .inl (G0.2.2.1 1, 101, .inl (fun _ => 0))), (dq9, .inl (G0.2.2.1 3, 1300, .inl (fun _ => 0))), (dq10, .inl (G0.2.2.1 1, 1300, .inl (fun _ => 0))), (dq11, .inl (G0.2.2.1 1, 20400, .inl (fun _ => 0))), (dq12, .inl (G0.2.2.1 1, 20400, .inl (fun _ => 0))), (dq13, .inl (G0.2.2.1 1, 20400, .inl (fun _ => 0))), (dq14, .inl (G0.2.2.1 1, 1600, .inl (fun _ => 0))), (dq15, .inl (G0.2.2.1 1, 1600, .inl (fun _ => 0))), (dq16, .inl (G0.2.2.1 1, 1600, .inl (fun _ => 0))), (dq17, .inl (G0.2.2.1 2, 1600, .inr (.inl (fun _ => 0)))), (dq18, .inl (G0.2.2.1 1, 1600, .inl (fun _ => 0))), (dq19, .inl (G0.2.2.1 2, 1600, .inr (.inl (fun _ => 0)))), (dq20, .inl (G0.2.2.1 1, 6000, .inl (fun _ => 0))), (dq21, .inl (G0.2.2.1 1, 6000, .inl (fun _ => 0))), (dq22, .inl (G0.2.2.1 1, 3000, .inl (fun _ => 0))), (dq23, .inl (G0.2.2.1 1, 40, .inl (fun _ => 0))), (dq24, .inl (G0.2.2.1 1, 40, .inl (fun _ => 0))), (dq25, .inl (G0.2.2.1 1, 40, .inl (fun _ => 0))), (dq26, .inl (G0.2.2.1 1, 700, .inl (fun _ => 0))), (dq27, .inl (G0.2.2.1 1, 700, .inl (fun _ => 0))), (dq28, .inl (G0.2.2.1 1, 700, .inl (fun _ => 0))), (dq29, .inl (G0.2.2.1 1, 700, .inl (fun _ => 0))), (dq30, .inl (G0.2.2.1 1, 6100, .inl (fun _ => 0))), (dq31, .inl (G0.2.2.1 1, 6100, .inl (fun _ => 0))), (dq32, .inl (G0.2.2.1 1, 6100, .inl (fun _ => 0))), (dq33, .inl (G0.2.2.1 3, 6100, .inl (fun _ => 0))), (dq34, .inl (G0.2.2.1 1, 24000, .inl (fun _ => 0))), (dq35, .inl (G0.2.2.1 1, 15500, .inl (fun _ => 0))), (dq36, .inl (G0.2.2.1 1, 6100, .inl (fun _ => 0))), (dq37, .inl (G0.2.2.1 1, 6100, .inl (fun _ => 0))), (dq38, .inl (G0.2.2.1 1, 700, .inl (fun _ => 0))), (dq39, .inl (G0.2.2.1 1, 700, .inl (fun _ => 0))), (dq40, .inl (G0.2.2.1 1, 7000, .inl (fun _ => 0))), (dq41, .inl (G0.2.2.1 1, 13, .inl (fun _ => 0))), (dq42, .inl (G0.2.2.1 1, 200, .inl (fun _ => 0))), (dq43, .inl (G0.2.2.1 1, 300, .inl (fun _ => 0))), (dq44, .inl (G0.2.2.1 0, 4100, .inl (fun _ => 0))), (dq45, .inl (G0.2.2.1 0, 4100, .inl (fun _ => 0))), (dq46, .inl (G0.2.2.1 1, 4200, .inl (fun _ => 0))), (dq47, .inl (G0.2.2.1 1, 21000, .inl (fun _ => 0))), (dq48, .inl (G0.2.2.1 1, 21000, .inl (fun _ => 0))), (dq49, .inl (G0.2.2.1 1, 5, .inl (fun _ => 0))), (dq50, .inl (G0.2.2.1 1, 400, .inl (fun _ => 0))), (dq51, .inl (G0.2.2.1 1, 400, .inl (fun _ => 0))), (dq52, .inl (G0.2.2.1 1, 400, .inl (fun _ => 0))), (dq53, .inl (G0.2.2.1 1, 400, .inl (fun _ => 0))), (dq54, .inl (G0.2.2.1 1, 300, .inl (fun _ => 0))), (dq55, .inl (G0.2.2.1 1, 300, .inl (fun _ => 0))), (dq56, .inl (G0.2.2.1 1, 400, .inl (fun _ => 0))), (dq57, .inl (G0.2.2.1 1, 400, .inl (fun _ => 0))), (dq58, .inl (G0.2.2.1 1, 400, .inl (fun _ => 0))), (dq59, .inl (G0.2.2.1 1, 400, .inl (fun _ => 0))), (dq60, .inl (G0.2.2.1 1, 400, .inl (fun _ => 0))), (dq61, .inl (G0.2.2.1 1, 20100, .inl (fun _ => 0))), (dq62, .inl (G0.2.2.1 1, 20100, .inl (fun _ => 0))), (dq63, .inl (G0.2.2.1 1, 20100, .inl (fun _ => 0))), (dq64, .inl (G0.2.2.1 1, 20100, .inl (fun _ => 0))), (dq65, .inl (G0.2.2.1 1, 20100, .inl (fun _ => 0))), (dq66, .inl (G0.2.2.1 1, 20100, .inl (fun _ => 0))), (dq67, .inl (G0.2.2.1 1, 400, .inl (fun _ => 0))), (dq68, .inl (G0.2.2.1 1, 400, .inl (fun _ => 0))), (dq69, .inl (G0.2.2.1 1, 400, .inl (fun _ => 0))), (dq70, .inl (G0.2.2.1 1, 400, .inl (fun _ => 0))), (dq71, .inl (G0.2.2.1 1, 400, .inl (fun _ => 0))), (dq72, .inl (G0.2.2.1 1, 400, .inl (fun _ => 0))), (dq73, .inl (G0.2.2.1 1, 400, .inl (fun _ => 0))), (dq74, .inl (G0.2.2.1 1, 400, .inl (fun _ => 0))), (dq75, .inl (G0.2.2.1 1, 400, .inl (fun _ => 0))), (dq76, .inl (G0.2.2.1 1, 400, .inl (fun _ => 0)))] : va_W)[posL.getD i 0]? = some (((fun k => ([ch0, cq1, cq3, cq13, cq23, cq24, cq25, cq41, cq63, cq62, cq70, cq50, cq54, cq58, cq2, cq4, cq5, cq6, cq7, cq8, cq51, cq52, cq53, cq55, cq56, cq57, cq59, cq60, cq61, cq9, cq10, cq11, cq12, cq14, cq15, cq16, cq17, cq18, cq19, cq20, cq21, cq22, cq35, cq36, cq37, cq38, cq39, cq40, cq26, cq27, cq28, cq29, cq30, cq31, cq32, cq33, cq34, cq42, cq43, cq44, cq45, cq46, cq47, cq48, cq49, cq64, cq65, cq66, cq67, cq68, cq69, cq71, cq72, cq73, cq74, cq75, 0, 0, 0, 0, 0, 0, 0, 0, 0, 0, 0, 0, 0, 0, 0, 0, 0, 0, 0, 0, 0, 0, 0, 0, dh0, dq1, dq2, dq3, dq4, dq5, dq6, dq7, dq8, dq9, dq10, dq11, dq12, dq13, dq14, dq15, dq16, dq17, dq18, dq19, dq20, dq21, dq22, dq23, dq24, dq25, dq26, dq27, dq28, dq29, dq30, dq31, dq32, dq33, dq34, dq35, dq36, dq37, dq38, dq39, dq40, dq41, dq42, dq43, dq44, dq45, dq46, dq47, dq48, dq49, dq50, dq51, dq52, dq53, dq54, dq55, dq56, dq57, dq58, dq59, dq60, dq61, dq62, dq63, dq64, dq65, dq66, dq67, dq68, dq69, dq70, dq71, dq72, dq73, dq74, dq75, dq76] : List Nat).getD k 0, G0.2) : Gt).1 (0 + i), cell (fun k => ([ch0, cq1, cq3, cq13, cq23, cq24, cq25, cq41, cq63, cq62, cq70, cq50, cq54, cq58, cq2, cq4, cq5, cq6, cq7, cq8, cq51, cq52, cq53, cq55, cq56, cq57, cq59, cq60, cq61, cq9, cq10, cq11, cq12, cq14, cq15, cq16, cq17, cq18, cq19, cq20, cq21, cq22, cq35, cq36, cq37, cq38, cq39, cq40, cq26, cq27, cq28, cq29, cq30, cq31, cq32, cq33, cq34, cq42, cq43, cq44, cq45, cq46, cq47, cq48, cq49, cq64, cq65, cq66, cq67, cq68, cq69, cq71, cq72, cq73, cq74, cq75, 0, 0, 0, 0, 0, 0, 0, 0, 0, 0, 0, 0, 0, 0, 0, 0, 0, 0, 0, 0, 0, 0, 0, 0, dh0, dq1, dq2, dq3, dq4, dq5, dq6, dq7, dq8, dq9, dq10, dq11, dq12, dq13, dq14, dq15, dq16, dq17, dq18, dq19, dq20, dq21, dq22, dq23, dq24, dq25, dq26, dq27, dq28, dq29, dq30, dq31, dq32, dq33, dq34, dq35, dq36, dq37, dq38, dq39, dq40, dq41, dq42, dq43, dq44, dq45, dq46, dq47, dq48, dq49, dq50, dq51, dq52, dq53, dq54, dq55, dq56, dq57, dq58, dq59, dq60, dq61, dq62, dq63, dq64, dq65, dq66, dq67, dq68, dq69, dq70, dq71, dq72, dq73, dq74, dq75, dq76] : List Nat).getD k 0, G0.2) u0 (0 + i)) := by
  intro i hi
  match i, hi with
  | 0, _ => rfl
  | 1, _ => rfl
  | 2, _ => rfl
  | 3, _ => rfl
  | 4, _ => rfl
  | 5, _ => rfl
  | 6, _ => rfl
  | 7, _ => rfl
  | 8, _ => rfl
  | 9, _ => rfl
  | 10, _ => rfl
  | 11, _ => rfl
  | 12, _ => rfl
  | 13, _ => rfl
  | 14, _ => rfl
  | 15, _ => rfl
  | 16, _ => rfl
  | 17, _ => rfl
  | 18, _ => rfl
  | 19, _ => rfl
  | 20, _ => rfl
  | 21, _ => rfl
  | 22, _ => rfl
  | 23, _ => rfl
  | 24, _ => rfl
  | 25, _ => rfl
  | 26, _ => rfl
  | 27, _ => rfl
  | 28, _ => rfl
  | 29, _ => rfl
  | 30, _ => rfl
  | 31, _ => rfl
  | 32, _ => rfl
  | 33, _ => rfl
  | 34, _ => rfl
  | 35, _ => rfl
  | 36, _ => rfl
  | 37, _ => rfl
  | 38, _ => rfl
  | 39, _ => rfl
  | 40, _ => rfl
  | 41, _ => rfl
  | 42, _ => rfl
  | 43, _ => rfl
  | 44, _ => rfl
  | 45, _ => rfl
  | 46, _ => rfl
  | 47, _ => rfl
  | 48, _ => rfl
  | 49, _ => rfl
  | 50, _ => rfl
  | 51, _ => rfl
  | 52, _ => rfl
  | 53, _ => rfl
  | 54, _ => rfl
  | 55, _ => rfl
  | 56, _ => rfl
  | 57, _ => rfl
  | 58, _ => rfl
  | 59, _ => rfl
  | 60, _ => rfl
  | 61, _ => rfl
  | 62, _ => rfl
  | 63, _ => rfl
  | 64, _ => rfl
  | 65, _ => rfl
  | 66, _ => rfl
  | 67, _ => rfl
  | 68, _ => rfl
  | 69, _ => rfl
  | 70, _ => rfl
  | 71, _ => rfl
  | 72, _ => rfl
  | 73, _ => rfl
  | 74, _ => rfl
  | 75, _ => rfl
  | n + 76, h => exact absurd h (by omega)
set_option maxRecDepth 100000 in
set_option maxHeartbeats 4000000 in
theorem sc_R {G0 : Gt} {ch0 cq1 cq2 cq3 cq4 cq5 cq6 cq7 cq8 cq9 cq10 cq11 cq12 cq13 cq14 cq15 cq16 cq17 cq18 cq19 cq20 cq21 cq22 cq23 cq25 cq26 cq27 cq28 cq29 cq30 cq31 cq32 cq33 cq34 cq24 cq35 cq36 cq37 cq38 cq39 cq40 cq41 cq42 cq43 cq44 cq45 cq46 cq47 cq48 cq49 cq50 cq51 cq52 cq53 cq54 cq55 cq56 cq57 cq58 cq59 cq60 cq61 cq63 cq62 cq64 cq65 cq66 cq67 cq68 cq69 cq70 cq71 cq72 cq73 cq74 cq75 dh0 dq1 dq2 dq3 dq4 dq5 dq6 dq7 dq8 dq9 dq10 dq11 dq12 dq13 dq14 dq15 dq16 dq17 dq18 dq19 dq20 dq21 dq22 dq23 dq24 dq25 dq26 dq27 dq28 dq29 dq30 dq31 dq32 dq33 dq34 dq35 dq36 dq37 dq38 dq39 dq40 dq41 dq42 dq43 dq44 dq45 dq46 dq47 dq48 dq49 dq50 dq51 dq52 dq53 dq54 dq55 dq56 dq57 dq58 dq59 dq60 dq61 dq62 dq63 dq64 dq65 dq66 dq67 dq68 dq69 dq70 dq71 dq72 dq73 dq74 dq75 dq76 : Nat} : ∀ i, i < 77 → ([(ch0, .inr (11, [.ref cq1, .ref cq3, .ref cq13, .ref cq23, .ref cq24, .ref cq62, .ref cq70, .int (-1)])), (cq1, .inr (6, [.ref cq2, .int 0, .int 0, .long 0, .int 0, .int 0, .int 0])), (cq2, .inl (G0.2.2.1 0, 1500, .inl (fun _ => 0))), (cq3, .inr (4, [.ref cq4, .ref cq5, .ref cq6, .int 0, .int 0, .int 0, .ref cq7, .ref cq8, .ref cq9, .ref cq10, .ref cq11, .ref cq12])), (cq4, .inl (G0.2.2.1 2, 811, .inr (.inl (fun _ => 0)))), (cq5, .inl (G0.2.2.1 1, 811, .inl (fun _ => 0))), (cq6, .inl (G0.2.2.1 3, 811, .inl (fun _ => 0))), (cq7, .inl (G0.2.2.1 1, 101, .inl (fun _ => 0))), (cq8, .inl (G0.2.2.1 1, 100, .inl (fun _ => 0))), (cq9, .inl (G0.2.2.1 1, 1201, .inl (fun _ => 0))), (cq10, .inl (G0.2.2.1 3, 1200, .inl (fun _ => 0))), (cq11, .inl (G0.2.2.1 1, 1200, .inl (fun _ => 0))), (cq12, .inl (G0.2.2.1 1, 20000, .inl (fun _ => 0))), (cq13, .inr (7, [.ref cq14, .ref cq15, .ref cq16, .ref cq17, .int 0, .ref cq18, .int 0, .ref cq19, .ref cq20, .ref cq21, .int 0, .ref cq22, .int 0])), (cq14, .inl (G0.2.2.1 1, 1501, .inl (fun _ => 0))), (cq15, .inl (G0.2.2.1 1, 1501, .inl (fun _ => 0))), (cq16, .inl (G0.2.2.1 1, 1501, .inl (fun _ => 0))), (cq17, .inl (G0.2.2.1 1, 1501, .inl (fun _ => 0))), (cq18, .inl (G0.2.2.1 1, 1501, .inl (fun _ => 0))), (cq19, .inl (G0.2.2.1 2, 1501, .inr (.inl (fun _ => 0)))), (cq20, .inl (G0.2.2.1 1, 1501, .inl (fun _ => 0))), (cq21, .inl (G0.2.2.1 3, 1501, .inl (fun _ => 0))), (cq22, .inl (G0.2.2.1 1, 1501, .inl (fun _ => 0))), (cq23, .inr (2, [.ref cq1, .ref cq3, .ref cq13, .int 0, .int 0, .int 0])), (cq25, .inr (10, [.ref cq26, .int 0, .ref cq27, .ref cq28, .int 0, .ref cq29, .ref cq30, .int 0, .ref cq31, .ref cq32, .int 0, .int 0, .ref cq33, .ref cq34, .int 0])), (cq26, .inl (G0.2.2.1 1, 18000, .inl (fun _ => 0))), (cq27, .inl (G0.2.2.1 1, 601, .inl (fun _ => 0))), (cq28, .inl (G0.2.2.1 3, 600, .inl (fun _ => 0))), (cq29, .inl (G0.2.2.1 1, 6000, .inl (fun _ => 0))), (cq30, .inl (G0.2.2.1 1, 601, .inl (fun _ => 0))), (cq31, .inl (G0.2.2.1 1, 400, .inl (fun _ => 0))), (cq32, .inl (G0.2.2.1 1, 400, .inl (fun _ => 0))), (cq33, .inl (G0.2.2.1 1, 12, .inl (fun _ => 0))), (cq34, .inl (G0.2.2.1 1, 10, .inl (fun _ => 0))), (cq24, .inr (0, [.ref cq3, .ref cq13, .ref cq25, .ref cq35, .int 0, .int 0, .ref cq36, .ref cq37, .ref cq38, .ref cq39, .int 0, .ref cq40, .int 0, .int 0])), (cq35, .inl (G0.2.2.1 1, 4500, .inl (fun _ => 0))), (cq36, .inl (G0.2.2.1 1, 1501, .inl (fun _ => 0))), (cq37, .inl (G0.2.2.1 1, 40, .inl (fun _ => 0))), (cq38, .inl (G0.2.2.1 1, 40, .inl (fun _ => 0))), (cq39, .inl (G0.2.2.1 1, 40, .inl (fun _ => 0))), (cq40, .inl (G0.2.2.1 1, 290, .inl (fun _ => 0))), (cq41, .inr (5, [.ref cq3, .ref cq42, .ref cq43, .ref cq44, .ref cq45, .ref cq46, .int 0, .int 0, .ref cq47, .ref cq48, .ref cq49, .int 0])), (cq42, .inl (G0.2.2.1 1, 150, .inl (fun _ => 0))), (cq43, .inl (G0.2.2.1 1, 150, .inl (fun _ => 0))), (cq44, .inl (G0.2.2.1 1, 150, .inl (fun _ => 0))), (cq45, .inl (G0.2.2.1 1, 150, .inl (fun _ => 0))), (cq46, .inl (G0.2.2.1 1, 150, .inl (fun _ => 0))), (cq47, .inl (G0.2.2.1 1, 220, .inl (fill 220))), (cq48, .inl (G0.2.2.1 1, 220, .inl (fun _ => 0))), (cq49, .inl (G0.2.2.1 1, 220, .inl (fun _ => 0))), (cq50, .inr (9, [.ref cq3, .ref cq41, .ref cq51, .ref cq52, .ref cq53, .int 0])), (cq51, .inl (G0.2.2.1 1, 222, .inl (fun _ => 0))), (cq52, .inl (G0.2.2.1 1, 222, .inl (fun _ => 0))), (cq53, .inl (G0.2.2.1 1, 222, .inl (fun _ => 0))), (cq54, .inr (9, [.ref cq3, .ref cq41, .ref cq55, .ref cq56, .ref cq57, .int 0])), (cq55, .inl (G0.2.2.1 1, 222, .inl (fun _ => 0))), (cq56, .inl (G0.2.2.1 1, 222, .inl (fun _ => 0))), (cq57, .inl (G0.2.2.1 1, 222, .inl (fun _ => 0))), (cq58, .inr (9, [.ref cq3, .ref cq41, .ref cq59, .ref cq60, .ref cq61, .int 0])), (cq59, .inl (G0.2.2.1 1, 222, .inl (fun _ => 0))), (cq60, .inl (G0.2.2.1 1, 222, .inl (fun _ => 0))), (cq61, .inl (G0.2.2.1 1, 222, .inl (fun _ => 0))), (cq63, .inr (8, [.ref cq3, .ref cq41, .ref cq50, .ref cq54, .ref cq58, .int 0])), (cq62, .inr (3, [.ref cq3, .ref cq41, .ref cq63, .ref cq64, .ref cq65, .ref cq66, .ref cq67, .ref cq68, .ref cq69, .int 0, .int 0, .int 0, .int 0, .int 0, .int 0, .int 0])), (cq64, .inl (G0.2.2.1 1, 151, .inl (fun _ => 0))), (cq65, .inl (G0.2.2.1 1, 151, .inl (fun _ => 0))), (cq66, .inl (G0.2.2.1 1, 151, .inl (fun _ => 0))), (cq67, .inl (G0.2.2.1 1, 151, .inl (fun _ => 0))), (cq68, .inl (G0.2.2.1 1, 151, .inl (fun _ => 0))), (cq69, .inl (G0.2.2.1 1, 151, .inl (fun _ => 0))), (cq70, .inr (1, [.ref cq3, .ref cq58, .ref cq71, .int 0, .ref cq72, .int 0, .int 0, .ref cq73, .int 0, .ref cq74, .int 0, .ref cq75])), (cq71, .inl (G0.2.2.1 0, 4000, .inl (fun _ => 0))), (cq72, .inl (G0.2.2.1 0, 4000, .inl (fun _ => 0))), (cq73, .inl (G0.2.2.1 1, 4000, .inl (fun _ => 0))), (cq74, .inl (G0.2.2.1 1, 220, .inl (fun _ => 0))), (cq75, .inl (G0.2.2.1 1, 10, .inl (fun _ => 0)))] ++ [(dh0, .inr (12, [.int 0, .ref dq1, .int 0, .int 0, .ref dq2, .ref dq3, .ref dq4, .int 0, .int 0, .ref dq5, .int 0, .ref dq6, .ref dq7, .ref dq8, .int 0, .ref dq9, .ref dq10, .int 0, .ref dq11, .ref dq12, .ref dq13, .int 0, .int 0, .int 0, .int 0, .int 0, .int 0, .long 0, .int 0, .ref dq14, .ref dq15, .ref dq16, .ref dq17, .int 0, .ref dq18, .int 0, .ref dq19, .int 0, .int 0, .ref dq20, .ref dq21, .int 0, .ref dq22, .int 0, .ref dq23, .ref dq24, .ref dq25, .int 0, .int 0, .int 0, .ref dq26, .ref dq27, .ref dq28, .int 0, .ref dq29, .int 0, .int 0, .ref dq30, .ref dq31, .ref dq32, .ref dq33, .int 0, .ref dq34, .ref dq35, .ref dq36, .ref dq37, .int 0, .ref dq38, .ref dq39, .int 0, .ref dq40, .ref dq41, .ref dq42, .int 0, .ref dq43, .ref dq44, .int 0, .ref dq45, .int 0, .int 0, .ref dq46, .int 0, .ref dq47, .ref dq48, .ref dq49, .ref dq50, .ref dq51, .ref dq52, .ref dq53, .int 0, .ref dq54, .ref dq55, .int 0, .int 0, .ref dq56, .int 0, .int 0, .int 0, .int 0, .int 0, .int 0, .int 0, .int 0, .int 0, .int 0, .int 0, .ref dq57, .ref dq58, .ref dq59, .ref dq60, .int 0, .int 0, .ref dq61, .ref dq62, .ref dq63, .ref dq64, .int 0, .ref dq65, .ref dq66, .ref dq67, .int 0, .ref dq68, .ref dq69, .ref dq70, .ref dq71, .ref dq72, .ref dq73, .ref dq74, .ref dq75, .ref dq76, .int 0])), (dq1, .inl (G0.2.2.1 0, 1500, .inl (fun _ => 0))), (dq2, .inl (G0.2.2.1 2, 820, .inr (.inl (fun _ => 0)))), (dq3, .inl (G0.2.2.1 1, 820, .inl (fun _ => 0))), (dq4, .inl (G0.2.2.1 3, 820, .inl (fun _ => 0))), (dq5, .inl (G0.2.2.1 1, 3100, .inl (fun _ => 0))), (dq6, .inl (G0.2.2.1 1, 101, .inl (fun _ => 0))), (dq7, .inl (G0.2.2.1 1, 101, .inl (fun _ => 0))), (dq8, .inl (G0.2.2.1 1, 101, .inl (fun _ => 0))), (dq9, .inl (G0.2.2.1 3, 1300, .inl (fun _ => 0))), (dq10, .inl (G0.2.2.1 1, 1300, .inl (fun _ => 0))), (dq11, .inl (G0.2.2.1 1, 20400, .inl (fun _ => 0))), (dq12, .inl (G0.2.2.1 1, 20400, .inl (fun _ => 0))), (dq13, .inl (G0.2.2.1 1, 20400, .inl (fun _ => 0))), (dq14, .inl (G0.2.2.1 1, 1600, .inl (fun _ => 0))), (dq15, .inl (G0.2.2.1 1, 1600, .inl (fun _ => 0))), (dq16, .inl (G0.2.2.1 1, 1600, .inl (fun _ => 0))), (dq17, .inl (G0.2.2.1 2, 1600, .inr (.inl (fun _ => 0)))), (dq18, .inl (G0.2.2.1 1, 1600, .inl (fun _ => 0))), (dq19, .inl (G0.2.2.1 2, 1600, .inr (.inl (fun _ => 0)))), (dq20, .inl (G0.2.2.1 1, 6000, .inl (fun _ => 0))), (dq21, .inl (G0.2.2.1 1, 6000, .inl (fun _ => 0))), (dq22, .inl (G0.2.2.1 1, 3000, .inl (fun _ => 0))), (dq23, .inl (G0.2.2.1 1, 40, .inl (fun _ => 0))), (dq24, .inl (G0.2.2.1 1, 40, .inl (fun _ => 0))), (dq25, .inl (G0.2.2.1 1, 40, .inl (fun _ => 0))), (dq26, .inl (G0.2.2.1 1, 700, .inl (fun _ => 0))), (dq27, .inl (G0.2.2.1 1, 700, .inl (fun _ => 0))), (dq28, .inl (G0.2.2.1 1, 700, .inl (fun _ => 0))), (dq29, .inl (G0.2.2.1 1, 700, .inl (fun _ => 0))), (dq30, .inl (G0.2.2.1 1, 6100, .inl (fun _ => 0))), (dq31, .inl (G0.2.2.1 1, 6100, .inl (fun _ => 0))), (dq32, .inl (G0.2.2.1 1, 6100, .inl (fun _ => 0))), (dq33, .inl (G0.2.2.1 3, 6100, .inl (fun _ => 0))), (dq34, .inl (G0.2.2.1 1, 24000, .inl (fun _ => 0))), (dq35, .inl (G0.2.2.1 1, 15500, .inl (fun _ => 0))), (dq36, .inl (G0.2.2.1 1, 6100, .inl (fun _ => 0))), (dq37, .inl (G0.2.2.1 1, 6100, .inl (fun _ => 0))), (dq38, .inl (G0.2.2.1 1, 700, .inl (fun _ => 0))), (dq39, .inl (G0.2.2.1 1, 700, .inl (fun _ => 0))), (dq40, .inl (G0.2.2.1 1, 7000, .inl (fun _ => 0))), (dq41, .inl (G0.2.2.1 1, 13, .inl (fun _ => 0))), (dq42, .inl (G0.2.2.1 1, 200, .inl (fun _ => 0))), (dq43, .inl (G0.2.2.1 1, 300, .inl (fun _ => 0))), (dq44, .inl (G0.2.2.1 0, 4100, .inl (fun _ => 0))), (dq45, .inl (G0.2.2.1 0, 4100, .inl (fun _ => 0))), (dq46, .inl (G0.2.2.1 1, 4200, .inl (fun _ => 0))), (dq47, .inl (G0.2.2.1 1, 21000, .inl (fun _ => 0))), (dq48, .inl (G0.2.2.1 1, 21000, .inl (fun _ => 0))), (dq49, .inl (G0.2.2.1 1, 5, .inl (fun _ => 0))), (dq50, .inl (G0.2.2.1 1, 400, .inl (fun _ => 0))), (dq51, .inl (G0.2.2.1 1, 400, .inl (fun _ => 0))), (dq52, .inl (G0.2.2.1 1, 400, .inl (fun _ => 0))), (dq53, .inl (G0.2.2.1 1, 400, .inl (fun _ => 0))), (dq54, .inl (G0.2.2.1 1, 300, .inl (fun _ => 0))), (dq55, .inl (G0.2.2.1 1, 300, .inl (fun _ => 0))), (dq56, .inl (G0.2.2.1 1, 400, .inl (fun _ => 0))), (dq57, .inl (G0.2.2.1 1, 400, .inl (fun _ => 0))), (dq58, .inl (G0.2.2.1 1, 400, .inl (fun _ => 0))), (dq59, .inl (G0.2.2.1 1, 400, .inl (fun _ => 0))), (dq60, .inl (G0.2.2.1 1, 400, .inl (fun _ => 0))), (dq61, .inl (G0.2.2.1 1, 20100, .inl (fun _ => 0))), (dq62, .inl (G0.2.2.1 1, 20100, .inl (fun _ => 0))), (dq63, .inl (G0.2.2.1 1, 20100, .inl (fun _ => 0))), (dq64, .inl (G0.2.2.1 1, 20100, .inl (fun _ => 0))), (dq65, .inl (G0.2.2.1 1, 20100, .inl (fun _ => 0))), (dq66, .inl (G0.2.2.1 1, 20100, .inl (fun _ => 0))), (dq67, .inl (G0.2.2.1 1, 400, .inl (fun _ => 0))), (dq68, .inl (G0.2.2.1 1, 400, .inl (fun _ => 0))), (dq69, .inl (G0.2.2.1 1, 400, .inl (fun _ => 0))), (dq70, .inl (G0.2.2.1 1, 400, .inl (fun _ => 0))), (dq71, .inl (G0.2.2.1 1, 400, .inl (fun _ => 0))), (dq72, .inl (G0.2.2.1 1, 400, .inl (fun _ => 0))), (dq73, .inl (G0.2.2.1 1, 400, .inl (fun _ => 0))), (dq74, .inl (G0.2.2.1 1, 400, .inl (fun _ => 0))), (dq75, .inl (G0.2.2.1 1, 400, .inl (fun _ => 0))), (dq76, .inl (G0.2.2.1 1, 400, .inl (fun _ => 0)))] : va_W)[posL.getD (76 + i) 0]? = some (((fun k => ([ch0, cq1, cq3, cq13, cq23, cq24, cq25, cq41, cq63, cq62, cq70, cq50, cq54, cq58, cq2, cq4, cq5, cq6, cq7, cq8, cq51, cq52, cq53, cq55, cq56, cq57, cq59, cq60, cq61, cq9, cq10, cq11, cq12, cq14, cq15, cq16, cq17, cq18, cq19, cq20, cq21, cq22, cq35, cq36, cq37, cq38, cq39, cq40, cq26, cq27, cq28, cq29, cq30, cq31, cq32, cq33, cq34, cq42, cq43, cq44, cq45, cq46, cq47, cq48, cq49, cq64, cq65, cq66, cq67, cq68, cq69, cq71, cq72, cq73, cq74, cq75, 0, 0, 0, 0, 0, 0, 0, 0, 0, 0, 0, 0, 0, 0, 0, 0, 0, 0, 0, 0, 0, 0, 0, 0, dh0, dq1, dq2, dq3, dq4, dq5, dq6, dq7, dq8, dq9, dq10, dq11, dq12, dq13, dq14, dq15, dq16, dq17, dq18, dq19, dq20, dq21, dq22, dq23, dq24, dq25, dq26, dq27, dq28, dq29, dq30, dq31, dq32, dq33, dq34, dq35, dq36, dq37, dq38, dq39, dq40, dq41, dq42, dq43, dq44, dq45, dq46, dq47, dq48, dq49, dq50, dq51, dq52, dq53, dq54, dq55, dq56, dq57, dq58, dq59, dq60, dq61, dq62, dq63, dq64, dq65, dq66, dq67, dq68, dq69, dq70, dq71, dq72, dq73, dq74, dq75, dq76] : List Nat).getD k 0, G0.2) : Gt).1 (100 + i), cell (fun k => ([ch0, cq1, cq3, cq13, cq23, cq24, cq25, cq41, cq63, cq62, cq70, cq50, cq54, cq58, cq2, cq4, cq5, cq6, cq7, cq8, cq51, cq52, cq53, cq55, cq56, cq57, cq59, cq60, cq61, cq9, cq10, cq11, cq12, cq14, cq15, cq16, cq17, cq18, cq19, cq20, cq21, cq22, cq35, cq36, cq37, cq38, cq39, cq40, cq26, cq27, cq28, cq29, cq30, cq31, cq32, cq33, cq34, cq42, cq43, cq44, cq45, cq46, cq47, cq48, cq49, cq64, cq65, cq66, cq67, cq68, cq69, cq71, cq72, cq73, cq74, cq75, 0, 0, 0, 0, 0, 0, 0, 0, 0, 0, 0, 0, 0, 0, 0, 0, 0, 0, 0, 0, 0, 0, 0, 0, dh0, dq1, dq2, dq3, dq4, dq5, dq6, dq7, dq8, dq9, dq10, dq11, dq12, dq13, dq14, dq15, dq16, dq17, dq18, dq19, dq20, dq21, dq22, dq23, dq24, dq25, dq26, dq27, dq28, dq29, dq30, dq31, dq32, dq33, dq34, dq35, dq36, dq37, dq38, dq39, dq40, dq41, dq42, dq43, dq44, dq45, dq46, dq47, dq48, dq49, dq50, dq51, dq52, dq53, dq54, dq55, dq56, dq57, dq58, dq59, dq60, dq61, dq62, dq63, dq64, dq65, dq66, dq67, dq68, dq69, dq70, dq71, dq72, dq73, dq74, dq75, dq76] : List Nat).getD k 0, G0.2) v0 (100 + i)) := by
  intro i hi
  match i, hi with
  | 0, _ => (rw [show (100 : Nat) + 0 = 100 from rfl, cellR]; rfl)
  | 1, _ => rfl
  | 2, _ => rfl
  | 3, _ => rfl
  | 4, _ => rfl
  | 5, _ => rfl
  | 6, _ => rfl
  | 7, _ => rfl
  | 8, _ => rfl
  | 9, _ => rfl
  | 10, _ => rfl
  | 11, _ => rfl
  | 12, _ => rfl
  | 13, _ => rfl
  | 14, _ => rfl
  | 15, _ => rfl
  | 16, _ => rfl
  | 17, _ => rfl
  | 18, _ => rfl
  | 19, _ => rfl
  | 20, _ => rfl
  | 21, _ => rfl
  | 22, _ => rfl
  | 23, _ => rfl
  | 24, _ => rfl
  | 25, _ => rfl
  | 26, _ => rfl
  | 27, _ => rfl
  | 28, _ => rfl
  | 29, _ => rfl
  | 30, _ => rfl
  | 31, _ => rfl
  | 32, _ => rfl
  | 33, _ => rfl
  | 34, _ => rfl
  | 35, _ => rfl
  | 36, _ => rfl
  | 37, _ => rfl
  | 38, _ => rfl
  | 39, _ => rfl
  | 40, _ => rfl
  | 41, _ => rfl
  | 42, _ => rfl
  | 43, _ => rfl
  | 44, _ => rfl
  | 45, _ => rfl
  | 46, _ => rfl
  | 47, _ => rfl
  | 48, _ => rfl
  | 49, _ => rfl
  | 50, _ => rfl
  | 51, _ => rfl
  | 52, _ => rfl
  | 53, _ => rfl
  | 54, _ => rfl
  | 55, _ => rfl
  | 56, _ => rfl
  | 57, _ => rfl
  | 58, _ => rfl
  | 59, _ => rfl
  | 60, _ => rfl
  | 61, _ => rfl
  | 62, _ => rfl
  | 63, _ => rfl
  | 64, _ => rfl
  | 65, _ => rfl
  | 66, _ => rfl
  | 67, _ => rfl
  | 68, _ => rfl
  | 69, _ => rfl
  | 70, _ => rfl
  | 71, _ => rfl
  | 72, _ => rfl
  | 73, _ => rfl
  | 74, _ => rfl
  | 75, _ => rfl
  | 76, _ => rfl
  | n + 77, h => exact absurd h (by omega)
theorem start_cells {G0 : Gt} {A : Nat → Prop} {s : State} {H : Heap} {locs : List Loc} (hE : ∀ h, Ev (h, G0.2) A s s.heap) {ch0 cq1 cq2 cq3 cq4 cq5 cq6 cq7 cq8 cq9 cq10 cq11 cq12 cq13 cq14 cq15 cq16 cq17 cq18 cq19 cq20 cq21 cq22 cq23 cq25 cq26 cq27 cq28 cq29 cq30 cq31 cq32 cq33 cq34 cq24 cq35 cq36 cq37 cq38 cq39 cq40 cq41 cq42 cq43 cq44 cq45 cq46 cq47 cq48 cq49 cq50 cq51 cq52 cq53 cq54 cq55 cq56 cq57 cq58 cq59 cq60 cq61 cq63 cq62 cq64 cq65 cq66 cq67 cq68 cq69 cq70 cq71 cq72 cq73 cq74 cq75 dh0 dq1 dq2 dq3 dq4 dq5 dq6 dq7 dq8 dq9 dq10 dq11 dq12 dq13 dq14 dq15 dq16 dq17 dq18 dq19 dq20 dq21 dq22 dq23 dq24 dq25 dq26 dq27 dq28 dq29 dq30 dq31 dq32 dq33 dq34 dq35 dq36 dq37 dq38 dq39 dq40 dq41 dq42 dq43 dq44 dq45 dq46 dq47 dq48 dq49 dq50 dq51 dq52 dq53 dq54 dq55 dq56 dq57 dq58 dq59 dq60 dq61 dq62 dq63 dq64 dq65 dq66 dq67 dq68 dq69 dq70 dq71 dq72 dq73 dq74 dq75 dq76 : Nat} (K : Ok0 G0 A s ([(ch0, .inr (11, [.ref cq1, .ref cq3, .ref cq13, .ref cq23, .ref cq24, .ref cq62, .ref cq70, .int (-1)])), (cq1, .inr (6, [.ref cq2, .int 0, .int 0, .long 0, .int 0, .int 0, .int 0])), (cq2, .inl (G0.2.2.1 0, 1500, .inl (fun _ => 0))), (cq3, .inr (4, [.ref cq4, .ref cq5, .ref cq6, .int 0, .int 0, .int 0, .ref cq7, .ref cq8, .ref cq9, .ref cq10, .ref cq11, .ref cq12])), (cq4, .inl (G0.2.2.1 2, 811, .inr (.inl (fun _ => 0)))), (cq5, .inl (G0.2.2.1 1, 811, .inl (fun _ => 0))), (cq6, .inl (G0.2.2.1 3, 811, .inl (fun _ => 0))), (cq7, .inl (G0.2.2.1 1, 101, .inl (fun _ => 0))), (cq8, .inl (G0.2.2.1 1, 100, .inl (fun _ => 0))), (cq9, .inl (G0.2.2.1 1, 1201, .inl (fun _ => 0))), (cq10, .inl (G0.2.2.1 3, 1200, .inl (fun _ => 0))), (cq11, .inl (G0.2.2.1 1, 1200, .inl (fun _ => 0))), (cq12, .inl (G0.2.2.1 1, 20000, .inl (fun _ => 0))), (cq13, .inr (7, [.ref cq14, .ref cq15, .ref cq16, .ref cq17, .int 0, .ref cq18, .int 0, .ref cq19, .ref cq20, .ref cq21, .int 0, .ref cq22, .int 0])), (cq14, .inl (G0.2.2.1 1, 1501, .inl (fun _ => 0))), (cq15, .inl (G0.2.2.1 1, 1501, .inl (fun _ => 0))), (cq16, .inl (G0.2.2.1 1, 1501, .inl (fun _ => 0))), (cq17, .inl (G0.2.2.1 1, 1501, .inl (fun _ => 0))), (cq18, .inl (G0.2.2.1 1, 1501, .inl (fun _ => 0))), (cq19, .inl (G0.2.2.1 2, 1501, .inr (.inl (fun _ => 0)))), (cq20, .inl (G0.2.2.1 1, 1501, .inl (fun _ => 0))), (cq21, .inl (G0.2.2.1 3, 1501, .inl (fun _ => 0))), (cq22, .inl (G0.2.2.1 1, 1501, .inl (fun _ => 0))), (cq23, .inr (2, [.ref cq1, .ref cq3, .ref cq13, .int 0, .int 0, .int 0])), (cq25, .inr (10, [.ref cq26, .int 0, .ref cq27, .ref cq28, .int 0, .ref cq29, .ref cq30, .int 0, .ref cq31, .ref cq32, .int 0, .int 0, .ref cq33, .ref cq34, .int 0])), (cq26, .inl (G0.2.2.1 1, 18000, .inl (fun _ => 0))), (cq27, .inl (G0.2.2.1 1, 601, .inl (fun _ => 0))), (cq28, .inl (G0.2.2.1 3, 600, .inl (fun _ => 0))), (cq29, .inl (G0.2.2.1 1, 6000, .inl (fun _ => 0))), (cq30, .inl (G0.2.2.1 1, 601, .inl (fun _ => 0))), (cq31, .inl (G0.2.2.1 1, 400, .inl (fun _ => 0))), (cq32, .inl (G0.2.2.1 1, 400, .inl (fun _ => 0))), (cq33, .inl (G0.2.2.1 1, 12, .inl (fun _ => 0))), (cq34, .inl (G0.2.2.1 1, 10, .inl (fun _ => 0))), (cq24, .inr (0, [.ref cq3, .ref cq13, .ref cq25, .ref cq35, .int 0, .int 0, .ref cq36, .ref cq37, .ref cq38, .ref cq39, .int 0, .ref cq40, .int 0, .int 0])), (cq35, .inl (G0.2.2.1 1, 4500, .inl (fun _ => 0))), (cq36, .inl (G0.2.2.1 1, 1501, .inl (fun _ => 0))), (cq37, .inl (G0.2.2.1 1, 40, .inl (fun _ => 0))), (cq38, .inl (G0.2.2.1 1, 40, .inl (fun _ => 0))), (cq39, .inl (G0.2.2.1 1, 40, .inl (fun _ => 0))), (cq40, .inl (G0.2.2.1 1, 290, .inl (fun _ => 0))), (cq41, .inr (5, [.ref cq3, .ref cq42, .ref cq43, .ref cq44, .ref cq45, .ref cq46, .int 0, .int 0, .ref cq47, .ref cq48, .ref cq49, .int 0])), (cq42, .inl (G0.2.2.1 1, 150, .inl (fun _ => 0))), (cq43, .inl (G0.2.2.1 1, 150, .inl (fun _ => 0))), (cq44, .inl (G0.2.2.1 1, 150, .inl (fun _ => 0))), (cq45, .inl (G0.2.2.1 1, 150, .inl (fun _ => 0))), (cq46, .inl (G0.2.2.1 1, 150, .inl (fun _ => 0))), (cq47, .inl (G0.2.2.1 1, 220, .inl (fill 220))), (cq48, .inl (G0.2.2.1 1, 220, .inl (fun _ => 0))), (cq49, .inl (G0.2.2.1 1, 220, .inl (fun _ => 0))), (cq50, .inr (9, [.ref cq3, .ref cq41, .ref cq51, .ref cq52, .ref cq53, .int 0])), (cq51, .inl (G0.2.2.1 1, 222, .inl (fun _ => 0))), (cq52, .inl (G0.2.2.1 1, 222, .inl (fun _ => 0))), (cq53, .inl (G0.2.2.1 1, 222, .inl (fun _ => 0))), (cq54, .inr (9, [.ref cq3, .ref cq41, .ref cq55, .ref cq56, .ref cq57, .int 0])), (cq55, .inl (G0.2.2.1 1, 222, .inl (fun _ => 0))), (cq56, .inl (G0.2.2.1 1, 222, .inl (fun _ => 0))), (cq57, .inl (G0.2.2.1 1, 222, .inl (fun _ => 0))), (cq58, .inr (9, [.ref cq3, .ref cq41, .ref cq59, .ref cq60, .ref cq61, .int 0])), (cq59, .inl (G0.2.2.1 1, 222, .inl (fun _ => 0))), (cq60, .inl (G0.2.2.1 1, 222, .inl (fun _ => 0))), (cq61, .inl (G0.2.2.1 1, 222, .inl (fun _ => 0))), (cq63, .inr (8, [.ref cq3, .ref cq41, .ref cq50, .ref cq54, .ref cq58, .int 0])), (cq62, .inr (3, [.ref cq3, .ref cq41, .ref cq63, .ref cq64, .ref cq65, .ref cq66, .ref cq67, .ref cq68, .ref cq69, .int 0, .int 0, .int 0, .int 0, .int 0, .int 0, .int 0])), (cq64, .inl (G0.2.2.1 1, 151, .inl (fun _ => 0))), (cq65, .inl (G0.2.2.1 1, 151, .inl (fun _ => 0))), (cq66, .inl (G0.2.2.1 1, 151, .inl (fun _ => 0))), (cq67, .inl (G0.2.2.1 1, 151, .inl (fun _ => 0))), (cq68, .inl (G0.2.2.1 1, 151, .inl (fun _ => 0))), (cq69, .inl (G0.2.2.1 1, 151, .inl (fun _ => 0))), (cq70, .inr (1, [.ref cq3, .ref cq58, .ref cq71, .int 0, .ref cq72, .int 0, .int 0, .ref cq73, .int 0, .ref cq74, .int 0, .ref cq75])), (cq71, .inl (G0.2.2.1 0, 4000, .inl (fun _ => 0))), (cq72, .inl (G0.2.2.1 0, 4000, .inl (fun _ => 0))), (cq73, .inl (G0.2.2.1 1, 4000, .inl (fun _ => 0))), (cq74, .inl (G0.2.2.1 1, 220, .inl (fun _ => 0))), (cq75, .inl (G0.2.2.1 1, 10, .inl (fun _ => 0)))] ++ [(dh0, .inr (12, [.int 0, .ref dq1, .int 0, .int 0, .ref dq2, .ref dq3, .ref dq4, .int 0, .int 0, .ref dq5, .int 0, .ref dq6, .ref dq7, .ref dq8, .int 0, .ref dq9, .ref dq10, .int 0, .ref dq11, .ref dq12, .ref dq13, .int 0, .int 0, .int 0, .int 0, .int 0, .int 0, .long 0, .int 0, .ref dq14, .ref dq15, .ref dq16, .ref dq17, .int 0, .ref dq18, .int 0, .ref dq19, .int 0, .int 0, .ref dq20, .ref dq21, .int 0, .ref dq22, .int 0, .ref dq23, .ref dq24, .ref dq25, .int 0, .int 0, .int 0, .ref dq26, .ref dq27, .ref dq28, .int 0, .ref dq29, .int 0, .int 0, .ref dq30, .ref dq31, .ref dq32, .ref dq33, .int 0, .ref dq34, .ref dq35, .ref dq36, .ref dq37, .int 0, .ref dq38, .ref dq39, .int 0, .ref dq40, .ref dq41, .ref dq42, .int 0, .ref dq43, .ref dq44, .int 0, .ref dq45, .int 0, .int 0, .ref dq46, .int 0, .ref dq47, .ref dq48, .ref dq49, .ref dq50, .ref dq51, .ref dq52, .ref dq53, .int 0, .ref dq54, .ref dq55, .int 0, .int 0, .ref dq56, .int 0, .int 0, .int 0, .int 0, .int 0, .int 0, .int 0, .int 0, .int 0, .int 0, .int 0, .ref dq57, .ref dq58, .ref dq59, .ref dq60, .int 0, .int 0, .ref dq61, .ref dq62, .ref dq63, .ref dq64, .int 0, .ref dq65, .ref dq66, .ref dq67, .int 0, .ref dq68, .ref dq69, .ref dq70, .ref dq71, .ref dq72, .ref dq73, .ref dq74, .ref dq75, .ref dq76, .int 0])), (dq1, .inl (G0.2.2.1 0, 1500, .inl (fun _ => 0))), (dq2, .inl (G0.2.2.1 2, 820, .inr (.inl (fun _ => 0)))), (dq3, .inl (G0.2.2.1 1, 820, .inl (fun _ => 0))), (dq4, .inl (G0.2.2.1 3, 820, .inl (fun _ => 0))), (dq5, .inl (G0.2.2.1 1, 3100, .inl (fun _ => 0))), (dq6, .inl (G0.2.2.1 1, 101, .inl (fun _ => 0))), (dq7, .inl (G0.2.2.1 1, 101, .inl (fun _ => 0))), (dq8, .inl (G0.2.2.1 1, 101, .inl (fun _ => 0))), (dq9, .inl (G0.2.2.1 3, 1300, .inl (fun _ => 0))), (dq10, .inl (G0.2.2.1 1, 1300, .inl (fun _ => 0))), (dq11, .inl (G0.2.2.1 1, 20400, .inl (fun _ => 0))), (dq12, .inl (G0.2.2.1 1, 20400, .inl (fun _ => 0))), (dq13, .inl (G0.2.2.1 1, 20400, .inl (fun _ => 0))), (dq14, .inl (G0.2.2.1 1, 1600, .inl (fun _ => 0))), (dq15, .inl (G0.2.2.1 1, 1600, .inl (fun _ => 0))), (dq16, .inl (G0.2.2.1 1, 1600, .inl (fun _ => 0))), (dq17, .inl (G0.2.2.1 2, 1600, .inr (.inl (fun _ => 0)))), (dq18, .inl (G0.2.2.1 1, 1600, .inl (fun _ => 0))), (dq19, .inl (G0.2.2.1 2, 1600, .inr (.inl (fun _ => 0)))), (dq20, .inl (G0.2.2.1 1, 6000, .inl (fun _ => 0))), (dq21, .inl (G0.2.2.1 1, 6000, .inl (fun _ => 0))), (dq22, .inl (G0.2.2.1 1, 3000, .inl (fun _ => 0))), (dq23, .inl (G0.2.2.1 1, 40, .inl (fun _ => 0))), (dq24, .inl (G0.2.2.1 1, 40, .inl (fun _ => 0))), (dq25, .inl (G0.2.2.1 1, 40, .inl (fun _ => 0))), (dq26, .inl (G0.2.2.1 1, 700, .inl (fun _ => 0))), (dq27, .inl (G0.2.2.1 1, 700, .inl (fun _ => 0))), (dq28, .inl (G0.2.2.1 1, 700, .inl (fun _ => 0))), (dq29, .inl (G0.2.2.1 1, 700, .inl (fun _ => 0))), (dq30, .inl (G0.2.2.1 1, 6100, .inl (fun _ => 0))), (dq31, .inl (G0.2.2.1 1, 6100, .inl (fun _ => 0))), (dq32, .inl (G0.2.2.1 1, 6100, .inl (fun _ => 0))), (dq33, .inl (G0.2.2.1 3, 6100, .inl (fun _ => 0))), (dq34, .inl (G0.2.2.1 1, 24000, .inl (fun _ => 0))), (dq35, .inl (G0.2.2.1 1, 15500, .inl (fun _ => 0))), (dq36, .inl (G0.2.2.1 1, 6100, .inl (fun _ => 0))), (dq37, .inl (G0.2.2.1 1, 6100, .inl (fun _ => 0))), (dq38, .inl (G0.2.2.1 1, 700, .inl (fun _ => 0))), (dq39, .inl (G0.2.2.1 1, 700, .inl (fun _ => 0))), (dq40, .inl (G0.2.2.1 1, 7000, .inl (fun _ => 0))), (dq41, .inl (G0.2.2.1 1, 13, .inl (fun _ => 0))), (dq42, .inl (G0.2.2.1 1, 200, .inl (fun _ => 0))), (dq43, .inl (G0.2.2.1 1, 300, .inl (fun _ => 0))), (dq44, .inl (G0.2.2.1 0, 4100, .inl (fun _ => 0))), (dq45, .inl (G0.2.2.1 0, 4100, .inl (fun _ => 0))), (dq46, .inl (G0.2.2.1 1, 4200, .inl (fun _ => 0))), (dq47, .inl (G0.2.2.1 1, 21000, .inl (fun _ => 0))), (dq48, .inl (G0.2.2.1 1, 21000, .inl (fun _ => 0))), (dq49, .inl (G0.2.2.1 1, 5, .inl (fun _ => 0))), (dq50, .inl (G0.2.2.1 1, 400, .inl (fun _ => 0))), (dq51, .inl (G0.2.2.1 1, 400, .inl (fun _ => 0))), (dq52, .inl (G0.2.2.1 1, 400, .inl (fun _ => 0))), (dq53, .inl (G0.2.2.1 1, 400, .inl (fun _ => 0))), (dq54, .inl (G0.2.2.1 1, 300, .inl (fun _ => 0))), (dq55, .inl (G0.2.2.1 1, 300, .inl (fun _ => 0))), (dq56, .inl (G0.2.2.1 1, 400, .inl (fun _ => 0))), (dq57, .inl (G0.2.2.1 1, 400, .inl (fun _ => 0))), (dq58, .inl (G0.2.2.1 1, 400, .inl (fun _ => 0))), (dq59, .inl (G0.2.2.1 1, 400, .inl (fun _ => 0))), (dq60, .inl (G0.2.2.1 1, 400, .inl (fun _ => 0))), (dq61, .inl (G0.2.2.1 1, 20100, .inl (fun _ => 0))), (dq62, .inl (G0.2.2.1 1, 20100, .inl (fun _ => 0))), (dq63, .inl (G0.2.2.1 1, 20100, .inl (fun _ => 0))), (dq64, .inl (G0.2.2.1 1, 20100, .inl (fun _ => 0))), (dq65, .inl (G0.2.2.1 1, 20100, .inl (fun _ => 0))), (dq66, .inl (G0.2.2.1 1, 20100, .inl (fun _ => 0))), (dq67, .inl (G0.2.2.1 1, 400, .inl (fun _ => 0))), (dq68, .inl (G0.2.2.1 1, 400, .inl (fun _ => 0))), (dq69, .inl (G0.2.2.1 1, 400, .inl (fun _ => 0))), (dq70, .inl (G0.2.2.1 1, 400, .inl (fun _ => 0))), (dq71, .inl (G0.2.2.1 1, 400, .inl (fun _ => 0))), (dq72, .inl (G0.2.2.1 1, 400, .inl (fun _ => 0))), (dq73, .inl (G0.2.2.1 1, 400, .inl (fun _ => 0))), (dq74, .inl (G0.2.2.1 1, 400, .inl (fun _ => 0))), (dq75, .inl (G0.2.2.1 1, 400, .inl (fun _ => 0))), (dq76, .inl (G0.2.2.1 1, 400, .inl (fun _ => 0)))] : va_W) H locs) : Ok2 (fun k => ([ch0, cq1, cq3, cq13, cq23, cq24, cq25, cq41, cq63, cq62, cq70, cq50, cq54, cq58, cq2, cq4, cq5, cq6, cq7, cq8, cq51, cq52, cq53, cq55, cq56, cq57, cq59, cq60, cq61, cq9, cq10, cq11, cq12, cq14, cq15, cq16, cq17, cq18, cq19, cq20, cq21, cq22, cq35, cq36, cq37, cq38, cq39, cq40, cq26, cq27, cq28, cq29, cq30, cq31, cq32, cq33, cq34, cq42, cq43, cq44, cq45, cq46, cq47, cq48, cq49, cq64, cq65, cq66, cq67, cq68, cq69, cq71, cq72, cq73, cq74, cq75, 0, 0, 0, 0, 0, 0, 0, 0, 0, 0, 0, 0, 0, 0, 0, 0, 0, 0, 0, 0, 0, 0, 0, 0, dh0, dq1, dq2, dq3, dq4, dq5, dq6, dq7, dq8, dq9, dq10, dq11, dq12, dq13, dq14, dq15, dq16, dq17, dq18, dq19, dq20, dq21, dq22, dq23, dq24, dq25, dq26, dq27, dq28, dq29, dq30, dq31, dq32, dq33, dq34, dq35, dq36, dq37, dq38, dq39, dq40, dq41, dq42, dq43, dq44, dq45, dq46, dq47, dq48, dq49, dq50, dq51, dq52, dq53, dq54, dq55, dq56, dq57, dq58, dq59, dq60, dq61, dq62, dq63, dq64, dq65, dq66, dq67, dq68, dq69, dq70, dq71, dq72, dq73, dq74, dq75, dq76] : List Nat).getD k 0, G0.2) A s u0 v0 H locs := by
  obtain ⟨K1, K2, K3, K4, K5⟩ := K
  obtain ⟨h1, h2⟩ := sub_pos (w2 := X 0 76 (fun k => ([ch0, cq1, cq3, cq13, cq23, cq24, cq25, cq41, cq63, cq62, cq70, cq50, cq54, cq58, cq2, cq4, cq5, cq6, cq7, cq8, cq51, cq52, cq53, cq55, cq56, cq57, cq59, cq60, cq61, cq9, cq10, cq11, cq12, cq14, cq15, cq16, cq17, cq18, cq19, cq20, cq21, cq22, cq35, cq36, cq37, cq38, cq39, cq40, cq26, cq27, cq28, cq29, cq30, cq31, cq32, cq33, cq34, cq42, cq43, cq44, cq45, cq46, cq47, cq48, cq49, cq64, cq65, cq66, cq67, cq68, cq69, cq71, cq72, cq73, cq74, cq75, 0, 0, 0, 0, 0, 0, 0, 0, 0, 0, 0, 0, 0, 0, 0, 0, 0, 0, 0, 0, 0, 0, 0, 0, dh0, dq1, dq2, dq3, dq4, dq5, dq6, dq7, dq8, dq9, dq10, dq11, dq12, dq13, dq14, dq15, dq16, dq17, dq18, dq19, dq20, dq21, dq22, dq23, dq24, dq25, dq26, dq27, dq28, dq29, dq30, dq31, dq32, dq33, dq34, dq35, dq36, dq37, dq38, dq39, dq40, dq41, dq42, dq43, dq44, dq45, dq46, dq47, dq48, dq49, dq50, dq51, dq52, dq53, dq54, dq55, dq56, dq57, dq58, dq59, dq60, dq61, dq62, dq63, dq64, dq65, dq66, dq67, dq68, dq69, dq70, dq71, dq72, dq73, dq74, dq75, dq76] : List Nat).getD k 0, G0.2) u0 ++ X 100 77 (fun k => ([ch0, cq1, cq3, cq13, cq23, cq24, cq25, cq41, cq63, cq62, cq70, cq50, cq54, cq58, cq2, cq4, cq5, cq6, cq7, cq8, cq51, cq52, cq53, cq55, cq56, cq57, cq59, cq60, cq61, cq9, cq10, cq11, cq12, cq14, cq15, cq16, cq17, cq18, cq19, cq20, cq21, cq22, cq35, cq36, cq37, cq38, cq39, cq40, cq26, cq27, cq28, cq29, cq30, cq31, cq32, cq33, cq34, cq42, cq43, cq44, cq45, cq46, cq47, cq48, cq49, cq64, cq65, cq66, cq67, cq68, cq69, cq71, cq72, cq73, cq74, cq75, 0, 0, 0, 0, 0, 0, 0, 0, 0, 0, 0, 0, 0, 0, 0, 0, 0, 0, 0, 0, 0, 0, 0, 0, dh0, dq1, dq2, dq3, dq4, dq5, dq6, dq7, dq8, dq9, dq10, dq11, dq12, dq13, dq14, dq15, dq16, dq17, dq18, dq19, dq20, dq21, dq22, dq23, dq24, dq25, dq26, dq27, dq28, dq29, dq30, dq31, dq32, dq33, dq34, dq35, dq36, dq37, dq38, dq39, dq40, dq41, dq42, dq43, dq44, dq45, dq46, dq47, dq48, dq49, dq50, dq51, dq52, dq53, dq54, dq55, dq56, dq57, dq58, dq59, dq60, dq61, dq62, dq63, dq64, dq65, dq66, dq67, dq68, dq69, dq70, dq71, dq72, dq73, dq74, dq75, dq76] : List Nat).getD k 0, G0.2) v0) posL (fun i q hi => by
    by_cases hc : i < 76
    · rw [List.getElem?_append_left (by rw [X_len]; exact hc)] at hi
      obtain ⟨h3, rfl⟩ := X_in hi
      exact sc_C i hc
    · rw [List.getElem?_append_right (by rw [X_len]; omega), X_len] at hi
      obtain ⟨h3, rfl⟩ := X_in hi
      have h4 := sc_R (G0 := G0) (ch0 := ch0) (dh0 := dh0) (cq1 := cq1) (cq2 := cq2) (cq3 := cq3) (cq4 := cq4) (cq5 := cq5) (cq6 := cq6) (cq7 := cq7) (cq8 := cq8) (cq9 := cq9) (cq10 := cq10) (cq11 := cq11) (cq12 := cq12) (cq13 := cq13) (cq14 := cq14) (cq15 := cq15) (cq16 := cq16) (cq17 := cq17) (cq18 := cq18) (cq19 := cq19) (cq20 := cq20) (cq21 := cq21) (cq22 := cq22) (cq23 := cq23) (cq25 := cq25) (cq26 := cq26) (cq27 := cq27) (cq28 := cq28) (cq29 := cq29) (cq30 := cq30) (cq31 := cq31) (cq32 := cq32) (cq33 := cq33) (cq34 := cq34) (cq24 := cq24) (cq35 := cq35) (cq36 := cq36) (cq37 := cq37) (cq38 := cq38) (cq39 := cq39) (cq40 := cq40) (cq41 := cq41) (cq42 := cq42) (cq43 := cq43) (cq44 := cq44) (cq45 := cq45) (cq46 := cq46) (cq47 := cq47) (cq48 := cq48) (cq49 := cq49) (cq50 := cq50) (cq51 := cq51) (cq52 := cq52) (cq53 := cq53) (cq54 := cq54) (cq55 := cq55) (cq56 := cq56) (cq57 := cq57) (cq58 := cq58) (cq59 := cq59) (cq60 := cq60) (cq61 := cq61) (cq63 := cq63) (cq62 := cq62) (cq64 := cq64) (cq65 := cq65) (cq66 := cq66) (cq67 := cq67) (cq68 := cq68) (cq69 := cq69) (cq70 := cq70) (cq71 := cq71) (cq72 := cq72) (cq73 := cq73) (cq74 := cq74) (cq75 := cq75) (dq1 := dq1) (dq2 := dq2) (dq3 := dq3) (dq4 := dq4) (dq5 := dq5) (dq6 := dq6) (dq7 := dq7) (dq8 := dq8) (dq9 := dq9) (dq10 := dq10) (dq11 := dq11) (dq12 := dq12) (dq13 := dq13) (dq14 := dq14) (dq15 := dq15) (dq16 := dq16) (dq17 := dq17) (dq18 := dq18) (dq19 := dq19) (dq20 := dq20) (dq21 := dq21) (dq22 := dq22) (dq23 := dq23) (dq24 := dq24) (dq25 := dq25) (dq26 := dq26) (dq27 := dq27) (dq28 := dq28) (dq29 := dq29) (dq30 := dq30) (dq31 := dq31) (dq32 := dq32) (dq33 := dq33) (dq34 := dq34) (dq35 := dq35) (dq36 := dq36) (dq37 := dq37) (dq38 := dq38) (dq39 := dq39) (dq40 := dq40) (dq41 := dq41) (dq42 := dq42) (dq43 := dq43) (dq44 := dq44) (dq45 := dq45) (dq46 := dq46) (dq47 := dq47) (dq48 := dq48) (dq49 := dq49) (dq50 := dq50) (dq51 := dq51) (dq52 := dq52) (dq53 := dq53) (dq54 := dq54) (dq55 := dq55) (dq56 := dq56) (dq57 := dq57) (dq58 := dq58) (dq59 := dq59) (dq60 := dq60) (dq61 := dq61) (dq62 := dq62) (dq63 := dq63) (dq64 := dq64) (dq65 := dq65) (dq66 := dq66) (dq67 := dq67) (dq68 := dq68) (dq69 := dq69) (dq70 := dq70) (dq71 := dq71) (dq72 := dq72) (dq73 := dq73) (dq74 := dq74) (dq75 := dq75) (dq76 := dq76) (i - 76) h3
      rw [show 76 + (i - 76) = i by omega] at h4
      exact h4) posL_inj (by rw [List.length_append, X_len, X_len]; exact posL_len) K2 K3
  exact ⟨K1, h1, h2, K4, K5, hE _⟩
