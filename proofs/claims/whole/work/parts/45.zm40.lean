/-! behind a move: the next goal -/
def GS (u v : St) (φ : Nat → Nat) (C : Nat) (fi ps : Nat → Nat) (nv c : Nat → Int) (e : Nat → Nat) (mst lim : Int) (n : Nat) (T : List (Nat × Nat × Int)) (L J : Nat) (V : Int) (Gd : Nat → Prop) (X : List (Nat × Nat × Int)) (L' J' : Nat) (V' : Int) (Gd' : Nat → Prop) (q : Nat) (y : Int) : Prop := SR u v C fi ps nv c e ∧ FS u v φ C fi nv c e (ps (fi C)) n T L J V Gd ∧ MVq u v φ C fi L n ∧ NR φ Gd' (I u 9 10) y ∧ CL u (fun t => t < L') q (I u 9 10) ∧ n + q ≤ L' ∧ TB u v φ L' J' V' C fi nv Gd' ∧ UE u v c e (ps (fi C)) V' (X ++ T) ∧ I u 7 6 = L' ∧ I u 7 7 = V' ∧ I v 100 92 = V' ∧ I v 100 89 = J' ∧ I v 100 110 = L' ∧ I v 100 105 = ((n + 1 : Nat) : Int) ∧ I u 9 9 = n ∧ I v 100 120 = n ∧ L ≤ L' ∧ J ≤ J' ∧ V ≤ V' ∧ J' ≤ L' ∧ L' ≤ 150 ∧ 0 ≤ V' ∧ (V' ≤ 200 ∧ ∀ k : Nat, I u 67 0 = k → nv k ≤ V') ∧ (∀ t, Gd t → Gd' t) ∧ Cn u v mst lim ∧ I v 100 98 = 0 ∧ I v 100 99 = 0
/-- how the search ends -/
def SO (u v u' v' : St) (a a' : Int) (C : Nat) (fi ps : Nat → Nat) (nv c : Nat → Int) (e : Nat → Nat) (mst lim : Int) : Prop := SR u' v' C fi ps nv c e ∧ Cn u' v' mst lim ∧ Fr PSe u u' ∧ Fr PRe v v' ∧ ((a = 1 ∧ a' = 1 ∧ I v' 100 98 = 0 ∧ I v' 100 99 = 0 ∧ PRF u' v' C fi ps nv c e) ∨ (a = -6 ∧ a' = 0 ∧ I v' 100 98 = 0 ∧ I v' 100 99 = 1 ∧ ∃ T, BCs u' T) ∨ (a = -7 ∧ a' = 0 ∧ I v' 100 98 = 1 ∧ ∃ T, BCs u' T))
theorem PSe_Pp {u u' : St} {j : Nat} (h : Fr (Pp j) u u') : Fr PSe u u' := Fr_up2 (fun k i hk => by simp [Pp] at hk; simp [PSe]; omega) h
theorem PRe_Pe {u u' : St} {j : Nat} (h : Fr (Pe j) u u') : Fr PRe u u' := Fr_up2 (fun k i hk => by simp [Pe] at hk; simp [PRe]; omega) h
theorem PSe_PU {u u' : St} (h : Fr PU u u') : Fr PSe u u' := Fr_up2 (fun k i hk => by simp [PSe, hk]) h
theorem PRe_PRU {u u' : St} (h : Fr PRU u u') : Fr PRe u u' := Fr_up2 (fun k i hk => by simp [PRe, hk]) h
theorem goal_step {φ : Nat → Nat} {C : Nat} {fi ps : Nat → Nat} {nv c : Nat → Int} {e : Nat → Nat} {mst lim : Int} {n : Nat} {T : List (Nat × Nat × Int)} {L J : Nat} {V : Int} {Gd : Nat → Prop} {X : List (Nat × Nat × Int)} {L' J' : Nat} {V' : Int} {Gd' : Nat → Prop} {q : Nat} {y : Int} {u v : St} (x1 : Int) (h : GS u v φ C fi ps nv c e mst lim n T L J V Gd X L' J' V' Gd' q y) :
    (∃ a a' u' v', (∀ R, CT R (zI x1) (zI 2) u = some (zI a, u')) ∧ (∀ G, fX12_solve_L0 (G + 3) 0 (zI y) 0 v = some (zI a', v')) ∧ SO u v u' v' a a' C fi ps nv c e mst lim) ∨
    (∃ u' v' n' T' L'' J'' V'' Gd'', (∀ R, CT R (zI x1) (zI 2) u = R 0 (zI (x1 + 1)) u') ∧ (∀ G, ∃ G', G ≤ G' ∧ G' ≤ G + 3 ∧ fX12_solve_L0 (G + 3) 0 (zI y) 0 v = fX12_solve_L0 G' 1 0 0 v') ∧ HD u' v' φ C fi ps nv c e mst lim n' T' L'' J'' V'' Gd'' ∧ n' ≤ n + 1 ∧ n' ≤ 150 ∧ I u' 9 13 = I u 9 13 ∧ I u' 67 0 = I u 67 0 ∧ Fr PSe u u' ∧ Fr PRe v v') := by
  obtain ⟨hS, hFS, hMV, hNR, hCL, hnq, hTB, hU, r76, r77, r92, r89, r110, r105, r99, r120, l1, l2, l3, l4, l5, l6, l7, hGG, hCn, h98, hsp⟩ := h
  rcases hNR with ⟨x1', y1'⟩ | ⟨t, xt, yt, htG⟩
  · -- no goal is left
    left
    refine ⟨1, 1, u, v, fun R => ct_proof R _ u x1', fun G => by rw [y1']; exact rs_done _ v, hS, hCn, Fr_rfl _ _, Fr_rfl _ _, Or.inl ⟨rfl, rfl, h98, hsp, φ, Gd', X ++ T, L', J', V', n, hTB, hU, l5, l4, l6, l7, r99, by omega, r105, ?_⟩⟩
    obtain ⟨m1, m2, m3⟩ := FS_mv n T L J V Gd hFS
    refine ⟨m1, fun f hf => ⟨?_, ?_⟩⟩
    · by_cases hfn : f + 1 = n
      · subst hfn
        exact MVg_pres (fun _ _ => rfl) (fun _ _ => rfl) (fun _ _ => rfl) (fun _ _ => rfl) l1 hMV
      · exact MVg_pres (fun _ _ => rfl) (fun _ _ => rfl) (fun _ _ => rfl) (fun _ _ => rfl) l1 (m2 f (by omega))
    · obtain ⟨g, g1, g2⟩ := m3 f hf
      exact ⟨g, g1, hGG g g2⟩
  · have ht := hTB t htG
    have htL := ht.1
    have htJ := ht.2.1
    obtain ⟨r, r', u1, v1, w1, w2, w3, w4, w5, w6⟩ := repeats_spec (by omega) l5 (by omega) t htG hS hU hTB h98
    have hS1 := SR_fr w5 w6 PU_PSc PRU_PSr hS
    have hTB1 := TB_fr w5 w6 PU_tab PRU_tab hTB
    have hFS1 : FS u1 v1 φ C fi nv c e (ps (fi C)) n T L J V Gd := FS_pres n T L J V Gd (fun k i h h' _ => Fr_I w5 (by simp [PU, PW]; omega)) (fun k i h h' _ => Fr_I w5 (PU_tab k i (by omega))) (fun k i h h' _ => Fr_I w6 (by simp [PRU, PRB, PRS, PAN]; omega)) (fun k i h h' _ => Fr_I w6 (by simp [PRU, PRB, PRS, PAN]; omega)) (fun _ k h h' => Fr_I w6 (by simp [PRU, PRB, PRS, PAN]; omega)) (fun k i h _ => Fr_I w6 (PRU_tab k i h)) (fun _ _ => rfl) hFS
    have hCn1 : Cn u1 v1 mst lim := Kp_Cn (fun i hi => by rcases hi with h | h | h | h <;> subst h <;> exact Fr_I w5 rfl) (fun i hi => by rcases hi with h | h | h | h <;> subst h <;> exact Fr_I w6 rfl) hCn
    have e13 : I u1 9 13 = I u 9 13 := Fr_I w5 rfl
    have e67 : I u1 67 0 = I u 67 0 := Fr_I w5 rfl
    have e10 : I u1 9 10 = t := by rw [Fr_I w5 rfl]; exact xt
    have sp1 : I v1 100 99 = 0 := by rw [Fr_I w6 rfl]; exact hsp
    rcases w3 with ⟨o1, o2, o3⟩ | ⟨o1, o2, o3⟩ | ⟨o1, o2, o3⟩
    · -- the goal repeats
      subst o1; subst o2
      right
      refine ⟨u1, v1, n, T, L, J, V, Gd, fun R => ct_rep1 R x1 u u1 t (by omega) xt w1, fun G => ⟨G + 2, by omega, by omega, by rw [yt]; exact rs_rep (G + 2) v v1 (φ t) (by omega) w2⟩, ⟨hS1, hFS1, ⟨X, V', w4, l3, by omega⟩, by rw [Fr_I w5 rfl]; exact r99, by rw [Fr_I w6 rfl]; exact r120, hCn1, o3, sp1⟩, by omega, by omega, e13, e67, PSe_PU w5, PRe_PRU w6⟩
    · -- a new frame
      subst o1; subst o2
      right
      cases q with
      | zero => exfalso; have : I u 9 10 = -1 := hCL; omega
      | succ q =>
        obtain ⟨t', t1, t2, t3⟩ := hCL
        have htt : t' = t := by omega
        subst htt
        obtain ⟨u2, p1, p2, p3, p4, p5, p6, p7, p8, p9⟩ := push_spec u1 (n + 1) 2 t' t' (X ++ T).length L' V' (by omega) (by rw [Fr_I w5 rfl, r99]; omega) (by decide) (by decide) (by omega) (by omega) (by omega) (by omega) w4.2.2.1.1 (by rw [Fr_I w5 rfl]; exact r76) (by rw [Fr_I w5 rfl]; exact r77)
        obtain ⟨v2, s1, s2, s3, s4, s5, s6, s7, s8, s9, s10, s11, s12⟩ := enterR_spec v1 n (φ t') (I v 152 (φ t')) (X ++ T).length V' J' L' ((n + 1 : Nat) : Int) (by omega) (by rw [Fr_I w6 rfl]; exact r120) (by omega) (Fr_I w6 (PRU_tab 152 _ (by simp))) w4.2.2.2.2.1 (by rw [Fr_I w6 rfl]; exact r92) (by rw [Fr_I w6 rfl]; exact r89) (by rw [Fr_I w6 rfl]; exact r110) (by rw [Fr_I w6 rfl]; exact r105)
        have hv98 : I v2 100 98 = 0 := by rw [Fr_I s12 rfl]; exact o3
        have hv99 : I v2 100 99 = 0 := by rw [Fr_I s12 rfl]; exact sp1
        have cu : ∀ k i, ¬ (65 ≤ k ∧ k ≤ 70) → (k ≠ 9 ∨ i ≠ 9) → I u2 k i = I u1 k i := fun k i h h' => Fr_I p9 (by simp [Pp]; omega)
        have cu2 : ∀ k i, i ≠ n + 1 → k ≠ 9 → I u2 k i = I u1 k i := fun k i h h' => Fr_I p9 (by simp [Pp]; omega)
        have cv : ∀ k i, ¬ (168 ≤ k ∧ k ≤ 176) → (k ≠ 100 ∨ i ≠ 120) → I v2 k i = I v1 k i := fun k i h h' => Fr_I s12 (by simp [Pe]; omega)
        have cv2 : ∀ k i, i ≠ n → k ≠ 100 → I v2 k i = I v1 k i := fun k i h h' => Fr_I s12 (by simp [Pe]; omega)
        have hTB2 : TB u2 v2 φ L' J' V' C fi nv Gd' := TB_eq (fun k i hk _ => cu k i (by omega) (by omega)) (fun k i hk _ => cv k i (by omega) (by omega)) (fun _ _ => rfl) (Int.le_refl _) (Nat.le_refl _) (Nat.le_refl _) hTB1
        have hU2 : UE u2 v2 c e (ps (fi C)) V' (X ++ T) := ⟨w4.1, WE_fr p9 (fun i => by simp [Pp]) (fun i => by simp [Pp]) (fun i => by simp [Pp]) w4.2.1, TC_fr p9 (by simp [Pp]) (fun i => by simp [Pp]) w4.2.2.1, RE_fr s12 (fun i => by simp [Pe]) (fun i => by simp [Pe]) (fun i => by simp [Pe]) (fun i => by simp [Pe]) (fun i => by simp [Pe]) w4.2.2.2.1, TR_fr s12 (by simp [Pe]) (fun i => by simp [Pe]) w4.2.2.2.2⟩
        have hS2 : SR u2 v2 C fi ps nv c e := SR_fr p9 s12 (fun k i hk => by
          simp [PSc] at hk; simp [Pp]; omega) (fun k i hk => by simp [PSr] at hk; simp [Pe]; omega) hS1
        have hFS2 : FS u2 v2 φ C fi nv c e (ps (fi C)) n T L J V Gd := FS_pres n T L J V Gd (fun k i h h' hi => cu2 k i (by omega) (by omega)) (fun k i h h' _ => cu k i (by omega) (by omega)) (fun k i h h' hi => cv2 k i (by omega) (by omega)) (fun k i h h' _ => cv k i (by omega) (by omega)) (fun _ k h h' => cv k 0 (by omega) (by omega)) (fun k i h _ => cv k i (by omega) (by omega)) (fun _ _ => rfl) hFS1
        have hMV2 : MVq u2 v2 φ C fi L n := by
          cases n with
          | zero => trivial
          | succ n' =>
            refine MVg_pres (fun k hk => ?_) (fun k hk => ?_) (fun t _ => ?_) (fun _ _ => rfl) (Nat.le_refl _) hMV
            · rw [cu2 k _ (by omega) (by omega), Fr_I w5 (by simp [PU, PW]; omega)]
            · rw [cv k _ (by omega) (by omega), Fr_I w6 (by simp [PRU, PRB, PRS, PAN]; omega)]
            · rw [cu 60 _ (by omega) (by omega), Fr_I w5 rfl]
        refine ⟨u2, v2, n + 1, X ++ T, L', J', V', Gd', fun R => ct_rep0 R x1 u u1 u2 t' (by omega) xt w1 e10 p1, fun G => ⟨G + 3, by omega, by omega, by rw [yt]; exact rs_new (G + 2) v v1 v2 (φ t') (n + 1) (by omega) w2 s1 (by omega) (by omega) s2 hv98 hv99⟩, ⟨hS2, ⟨⟨t', q, htG, p4, s3, p6, p7, p8, s7, s8, s9, s10, s11, ?_, by omega⟩, Or.inl ⟨t', p3, htG, p5, ?_, s5, s6⟩, hTB2, w4.1, l4, l5, l6, ⟨l7.1, fun k hk => l7.2 k (by rw [← e67, ← cu2 67 0 (by omega) (by omega)]; exact hk)⟩, X, T, L, J, V, Gd, rfl, l1, l2, l3, hGG, hMV2, hFS2⟩, ⟨[], V', hU2, Int.le_refl _, by omega⟩, p2, s2, ?_, hv98, hv99⟩, by omega, by omega, ?_, ?_, Fr_tr (PSe_PU w5) (PSe_Pp p9), Fr_tr (PRe_PRU w6) (PRe_Pe s12)⟩
        · rw [cu 61 _ (by omega) (by omega), Fr_I w5 rfl]
          exact CL_eq q _ (fun t _ => by rw [cu 61 _ (by omega) (by omega), Fr_I w5 rfl]) (fun _ h => h) t3
        · rw [s4, cv 152 _ (by omega) (by omega), Fr_I w6 (PRU_tab 152 _ (by simp))]
        · exact Kp_Cn (fun i hi => cu 9 i (by omega) (by omega)) (fun i hi => cv 100 i (by omega) (by omega)) hCn1
        · rw [cu 9 13 (by omega) (by omega)]; exact e13
        · rw [cu2 67 0 (by omega) (by omega)]; exact e67
    · -- no looks left
      subst o1; subst o2
      left
      refine ⟨-7, 0, u1, v1, fun R => ct_rep2 R _ u u1 t (by omega) xt w1, fun G => by rw [yt, rs_rep (G + 2) v v1 (φ t) (by omega) w2]; exact rs_stop G v1 (Or.inr (Or.inl o3)), hS1, hCn1, PSe_PU w5, PRe_PRU w6, Or.inr (Or.inr ⟨rfl, rfl, o3, _, UE_BCs (by omega) w4⟩)⟩
