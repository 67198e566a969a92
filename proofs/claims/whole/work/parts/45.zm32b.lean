/-! frames of single steps -/
theorem Kp_P2 {u v w : St} {f L J : Nat} (h : Fr (P2 f) v w) : Kp u u v w f L J := Kp_r h (fun k i hk => by simp [P2] at hk; simp [PKr, hk.2]; omega) (fun k i hk => by simp [P2] at hk; simp [PRe]; omega)
theorem Kp_P3 {u v w : St} {f L J : Nat} (h : Fr (P3 f) v w) : Kp u u v w f L J := Kp_r h (fun k i hk => by simp [P3] at hk; simp [PKr]; omega) (fun k i hk => by simp [P3] at hk; simp [PRe]; omega)
theorem Kp_st2 {u v w : St} {f L J : Nat} (h : Fr (fun k i => k == 100 && (i == 101 || i == 97)) v w) : Kp u u v w f L J := Kp_r h (fun k i hk => by simp at hk; simp [PKr]; omega) (fun k i hk => by simp at hk; simp [PRe]; omega)
theorem Kp_nv {u v w : St} {f L J : Nat} (h : Fr (fun k i => k == 154 || (k == 100 && i == 92)) v w) : Kp u u v w f L J := Kp_r h (fun k i hk => by simp at hk; simp [PKr, PRU, PRB]; omega) (fun k i hk => by simp at hk; simp [PRe, PRU, PRB]; omega)
theorem Kp_rst {u v w : St} {f L J : Nat} (h : Fr PRst v w) : Kp u u v w f L J := Kp_r h (fun k i hk => by simp [PRst] at hk; simp [PKr, PRU, PRB]; omega) (fun k i hk => by simp [PRst] at hk; simp [PRe, PRU, PRB]; omega)
theorem Kp_67 {u u' v : St} {f L J : Nat} (h : Fr (P1 67 (f + 1)) u u') : Kp u u' v v f L J := Kp_c h (fun k i hk => by simp [P1] at hk; simp [PKc, hk.1, hk.2]) (fun k i hk => by simp [P1] at hk; simp [PSe, hk.1])
theorem Kp_65 {u u' v : St} {f L J : Nat} (h : Fr (P1 65 (f + 1)) u u') : Kp u u' v v f L J := Kp_c h (fun k i hk => by simp [P1] at hk; simp [PKc, hk.1, hk.2]) (fun k i hk => by simp [P1] at hk; simp [PSe, hk.1])
theorem Kp_913 {u u' v : St} {f L J : Nat} (h : Fr (P1 9 13) u u') : Kp u u' v v f L J := Kp_c h (fun k i hk => by simp [P1] at hk; simp [PKc, hk.1, hk.2]) (fun k i hk => by simp [P1] at hk; simp [PSe, hk.1, hk.2])
theorem Kp_910 {u u' v : St} {f L J : Nat} (h : Fr (P1 9 10) u u') : Kp u u' v v f L J := Kp_c h (fun k i hk => by simp [P1] at hk; simp [PKc, hk.1, hk.2]) (fun k i hk => by simp [P1] at hk; simp [PSe, hk.1, hk.2])
theorem Kp_912 {u u' v : St} {f L J : Nat} (h : Fr (P1 9 12) u u') : Kp u u' v v f L J := Kp_c h (fun k i hk => by simp [P1] at hk; simp [PKc, hk.1, hk.2]) (fun k i hk => by simp [P1] at hk; simp [PSe, hk.1, hk.2])
theorem Kp_169 {u v w : St} {f L J : Nat} (h : Fr (P1 169 f) v w) : Kp u u v w f L J := Kp_r h (fun k i hk => by simp [P1] at hk; simp [PKr, hk.1, hk.2]) (fun k i hk => by simp [P1] at hk; simp [PRe, hk.1])
theorem Kp_130 {u v w : St} {f L J : Nat} (h : Fr (P1 100 130) v w) : Kp u u v w f L J := Kp_r h (fun k i hk => by simp [P1] at hk; simp [PKr, hk.1, hk.2]) (fun k i hk => by simp [P1] at hk; simp [PRe, hk.1, hk.2])
theorem Kp_99 {u v w : St} {f L J : Nat} (h : Fr (P1 100 99) v w) : Kp u u v w f L J := Kp_r h (fun k i hk => by simp [P1] at hk; simp [PKr, hk.1, hk.2]) (fun k i hk => by simp [P1] at hk; simp [PRe, hk.1, hk.2])
theorem Kp_tm {u v w : St} {f L J : Nat} (h : Fr (fun k i => k == 100 && (i == 98 || i == 110)) v w) : Kp u u v w f L J := Kp_r h (fun k i hk => by simp at hk; simp [PKr]; omega) (fun k i hk => by simp at hk; simp [PRe]; omega)
theorem Kp_far {u v w : St} {f L J : Nat} (h : Fr (fun k i => k == 100 && (i == 100 || i == 120)) v w) : Kp u u v w f L J := Kp_r h (fun k i hk => by simp at hk; simp [PKr]; omega) (fun k i hk => by simp at hk; simp [PRe]; omega)
theorem Kp_mv {u v w : St} {f L J : Nat} (h : Fr (Pm (f + 1)) v w) : Kp u u v w f L J := Kp_r h (fun k i hk => by simp [Pm] at hk; simp [PKr]; omega) (fun k i hk => by simp [Pm] at hk; simp [PRe]; omega)
theorem e7_lem {v w w2 v7 : St} {f : Nat} (hw : Fr (P2 f) v w) (Fw2 : Fr (fun k i => k == 100 && (i == 101 || i == 97)) w w2) (s5 : Fr (fun k i => k == 154 || (k == 100 && i == 92)) w2 v7) : ∀ k i, k ≠ 170 → k ≠ 171 → k ≠ 154 → (k ≠ 100 ∨ (i ≠ 92 ∧ i ≠ 101 ∧ i ≠ 97)) → I v7 k i = I v k i := fun k i h h' h2 h3 => by
  rw [Fr_I s5 (by simp; omega), Fr_I Fw2 (by simp; omega), Fr_I hw (by simp [P2, h, h'])]
theorem rst_lem {v w : St} (h : Fr PRst v w) : ∀ k i, k ≠ 154 → (k ≠ 100 ∨ (i ≠ 93 ∧ i ≠ 89 ∧ i ≠ 110 ∧ i ≠ 105 ∧ i ≠ 92)) → I w k i = I v k i := fun k i h1 h2 => Fr_I h (by simp [PRst]; omega)
theorem e6_lem {u u2 u6 : St} {f : Nat} (F2 : Fr (P1 67 (f + 1)) u u2) (F6 : Fr (P1 9 13) u2 u6) : ∀ k i, k ≠ 67 → (k ≠ 9 ∨ i ≠ 13) → I u6 k i = I u k i := fun k i h h' => by
  rw [Fr_I F6 (show P1 9 13 k i = false by simp [P1]; omega), Fr_I F2 (by simp [P1, h])]
