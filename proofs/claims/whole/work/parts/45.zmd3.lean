/-! reading: the reference's count of names in names is never below 0 -/
def KE (v v' : St) : Prop := gI v' 100 43 = gI v 100 43
def D1 (R : St → St → Prop) (v0 : St) (o : Option St) : Prop := ∀ v', o = some v' → R v0 v'
def D2 (R : St → St → Prop) (v0 : St) (o : Option (Int32 × St)) : Prop := ∀ r v', o = some (r, v') → R v0 v'
theorem KE_rfl (v : St) : KE v v := rfl
theorem KE_uI {v0 w : St} {k i : Nat} {x : Int32} (h : KE v0 w) (hk : ¬ (k = 100 ∧ i = 43)) : KE v0 (uI w k i x) := by
  unfold KE at h ⊢
  rw [← h]
  unfold gI uI va_up
  by_cases h1 : 100 = k
  · have h2 : ¬ 43 = i := fun hh => hk ⟨h1.symm, hh.symm⟩
    simp [h1, h2]
  · simp [h1]
theorem KE_uJ {v0 w : St} {k i : Nat} {x : Int64} (h : KE v0 w) : KE v0 (uJ w k i x) := h
theorem D1_some {R : St → St → Prop} {v0 w : St} (h : R v0 w) : D1 R v0 (some w) := fun v' e => by cases e; exact h
theorem D2_some {R : St → St → Prop} {v0 w : St} {r : Int32} (h : R v0 w) : D2 R v0 (some (r, w)) := fun r' v' e => by cases e; exact h
theorem D1_lt {α : Type} {R : St → St → Prop} {v0 : St} {e : α} {f : α → Option St} (h : D1 R v0 (f e)) : D1 R v0 (lt e f) := h
theorem D2_lt {α : Type} {R : St → St → Prop} {v0 : St} {e : α} {f : α → Option (Int32 × St)} (h : D2 R v0 (f e)) : D2 R v0 (lt e f) := h
theorem D1_ite {R : St → St → Prop} {v0 : St} {c : Prop} [Decidable c] {a b : Option St} (h1 : D1 R v0 a) (h2 : D1 R v0 b) : D1 R v0 (if c then a else b) := by
  by_cases hc : c
  · rw [if_pos hc]; exact h1
  · rw [if_neg hc]; exact h2
theorem D2_ite {R : St → St → Prop} {v0 : St} {c : Prop} [Decidable c] {a b : Option (Int32 × St)} (h1 : D2 R v0 a) (h2 : D2 R v0 b) : D2 R v0 (if c then a else b) := by
  by_cases hc : c
  · rw [if_pos hc]; exact h1
  · rw [if_neg hc]; exact h2
theorem D1_bI {R : St → St → Prop} {v0 : St} {o : Option Int32} {k : Int32 → Option St} (h : ∀ x, D1 R v0 (k x)) : D1 R v0 (bd o k) := fun v' e => by
  obtain ⟨y, _, hy⟩ := g_bd e; exact h y v' hy
theorem D2_bI {R : St → St → Prop} {v0 : St} {o : Option Int32} {k : Int32 → Option (Int32 × St)} (h : ∀ x, D2 R v0 (k x)) : D2 R v0 (bd o k) := fun r v' e => by
  obtain ⟨y, _, hy⟩ := g_bd e; exact h y r v' hy
theorem D1_bJ {R : St → St → Prop} {v0 : St} {o : Option Int64} {k : Int64 → Option St} (h : ∀ x, D1 R v0 (k x)) : D1 R v0 (bd o k) := fun v' e => by
  obtain ⟨y, _, hy⟩ := g_bd e; exact h y v' hy
theorem D2_bJ {R : St → St → Prop} {v0 : St} {o : Option Int64} {k : Int64 → Option (Int32 × St)} (h : ∀ x, D2 R v0 (k x)) : D2 R v0 (bd o k) := fun r v' e => by
  obtain ⟨y, _, hy⟩ := g_bd e; exact h y r v' hy
theorem D1_bS {R : St → St → Prop} {v0 : St} {o : Option St} {k : St → Option St} (ho : D1 R v0 o) (h : ∀ w, R v0 w → D1 R v0 (k w)) : D1 R v0 (bd o k) := fun v' e => by
  obtain ⟨y, hy1, hy⟩ := g_bd e; exact h y (ho y hy1) v' hy
theorem D2_bS {R : St → St → Prop} {v0 : St} {o : Option St} {k : St → Option (Int32 × St)} (ho : D1 R v0 o) (h : ∀ w, R v0 w → D2 R v0 (k w)) : D2 R v0 (bd o k) := fun r v' e => by
  obtain ⟨y, hy1, hy⟩ := g_bd e; exact h y (ho y hy1) r v' hy
theorem D1_b2 {R : St → St → Prop} {v0 : St} {o : Option (Int32 × St)} {k : Int32 → St → Option St} (ho : D2 R v0 o) (h : ∀ r w, R v0 w → D1 R v0 (k r w)) : D1 R v0 (b2 o k) := fun v' e => by
  obtain ⟨r, y, hy1, hy⟩ := g_b2 e; exact h r y (ho r y hy1) v' hy
theorem D2_b2 {R : St → St → Prop} {v0 : St} {o : Option (Int32 × St)} {k : Int32 → St → Option (Int32 × St)} (ho : D2 R v0 o) (h : ∀ r w, R v0 w → D2 R v0 (k r w)) : D2 R v0 (b2 o k) := fun r' v' e => by
  obtain ⟨r, y, hy1, hy⟩ := g_b2 e; exact h r y (ho r y hy1) r' v' hy
theorem D1_st {v0 w : St} {k n : Nat} {i x : Int32} (hk : k ≠ 100) (h : KE v0 w) : D1 KE v0 (st w k n i x) := fun v' e => by
  rw [(g_st e).2]; exact KE_uI h (fun hh => hk hh.1)
theorem D1_stJ {v0 w : St} {k n : Nat} {i : Int32} {x : Int64} (h : KE v0 w) : D1 KE v0 (stJ w k n i x) := fun v' e => by
  rw [(g_stJ e).2]; exact KE_uJ h
theorem K_in (a0 : Int32) (a1 : Int32) (a2 : Int32) {v0 w : St} (h : KE v0 w) : D2 KE v0 (fX12_in a0 a1 a2 w) := by
  unfold fX12_in
  exact (D2_ite (D2_some (h)) (D2_ite (D2_some (h)) (D2_some (h))))
theorem K_sign (a0 : Int32) {v0 w : St} (h : KE v0 w) : D2 KE v0 (fX12_sign a0 w) := by
  unfold fX12_sign
  exact (D2_ite (D2_some (h)) (D2_bI (fun _ => (D2_some (h)))))
theorem K_letter (a0 : Int32) {v0 w : St} (h : KE v0 w) : D2 KE v0 (fX12_letter a0 w) := by
  unfold fX12_letter
  exact (D2_b2 (K_in _ _ _ (h)) (fun _ u1 h_u1 => (D2_ite (D2_b2 (K_in _ _ _ (h_u1)) (fun _ u4 h_u4 => (D2_ite (D2_b2 (K_in _ _ _ (h_u4)) (fun _ u7 h_u7 => (D2_ite (D2_ite (D2_some (h_u7)) (D2_some (h_u7))) (D2_some (h_u7))))) (D2_some (h_u4))))) (D2_some (h_u1)))))
theorem K_fail (a0 : Int32) (a1 : Int32) {v0 w : St} (h : KE v0 w) : D1 KE v0 (fX12_fail a0 a1 w) := by
  unfold fX12_fail
  exact (D1_ite (D1_lt (D1_lt (D1_some ((KE_uI (k := 100) (i := 22) ((KE_uI (k := 100) (i := 21) (h) (by decide))) (by decide)))))) (D1_some (h)))
theorem K_take  {v0 w : St} (h : KE v0 w) : D1 KE v0 (fX12_take  w) := by
  unfold fX12_take
  exact (D1_lt (D1_some ((KE_uI (k := 100) (i := 24) (h) (by decide)))))
theorem K_look_j233 (x2_ : Int32) (s0_ : Int32) {v0 w : St} (h : KE v0 w) : D2 KE v0 (fX12_look_j233 x2_ s0_ w) := by
  unfold fX12_look_j233
  exact (D2_lt (D2_ite (D2_some ((KE_uI (k := 100) (i := 25) (h) (by decide)))) (D2_bS (K_fail _ _ ((KE_uI (k := 100) (i := 25) (h) (by decide)))) (fun u3 h_u3 => (D2_some (h_u3))))))
theorem K_look_L0 (F : Nat) : ∀ (q : Nat) (x1 : Int32) (x2 : Int32) (s0 : Int64) (v0 w : St), KE v0 w → D2 KE v0 (fX12_look_L0 F q x1 x2 s0 w) := by
  induction F with
  | zero => intro q x1 x2 s0 v0 w h; intro r v' e; cases e
  | succ F ih =>
    intro q x1 x2 s0 v0 w h
    match q with
    | 0 =>
      show D2 KE v0 (fX12_look_L0_0 (fX12_look_L0 F) x1 x2 w)
      unfold fX12_look_L0_0
      exact (D2_b2 (K_sign _ (h)) (fun _ u4 h_u4 => (D2_b2 (K_letter _ (h_u4)) (fun _ u6 h_u6 => (D2_ite (D2_b2 (K_in _ _ _ (h_u6)) (fun _ u9 h_u9 => (D2_ite (K_look_j233 _ _ (h_u9)) (K_look_j233 _ _ (h_u9))))) (D2_ite (ih _ _ _ _ _ _ (h_u6)) (D2_b2 (K_sign _ (h_u6)) (fun _ u13 h_u13 => (D2_b2 (K_letter _ (h_u13)) (fun _ u15 h_u15 => (ih _ _ _ _ _ _ (h_u15))))))))))))
    | 1 =>
      show D2 KE v0 (fX12_look_L0_1 (fX12_look_L0 F) x1 x2 s0 w)
      unfold fX12_look_L0_1
      exact (D2_lt (D2_lt (D2_lt (ih _ _ _ _ _ _ ((KE_uI (k := 100) (i := 23) ((KE_uJ (h))) (by decide)))))))
    | q + 2 => intro r v' e; cases e
theorem K_look_j436 (x2_ : Int32) (x3_ : Int32) {v0 w : St} (h : KE v0 w) : D2 KE v0 (fX12_look_j436 x2_ x3_ w) := by
  unfold fX12_look_j436
  exact (D2_ite (D2_bS (K_fail _ _ (h)) (fun u23 h_u23 => (D2_some (h_u23)))) (D2_lt (D2_lt (D2_some ((KE_uI (k := 100) (i := 25) ((KE_uI (k := 100) (i := 23) (h) (by decide))) (by decide)))))))
theorem K_look_j395 (x1_ : Int32) (x2_ : Int32) (x3_ : Int32) {v0 w : St} (h : KE v0 w) : D2 KE v0 (fX12_look_j395 x1_ x2_ x3_ w) := by
  unfold fX12_look_j395
  exact (D2_ite (D2_b2 (K_sign _ (h)) (fun _ u25 h_u25 => (D2_ite (D2_b2 (K_sign _ (h_u25)) (fun _ u28 h_u28 => (D2_ite (D2_lt (D2_lt (K_look_j436 _ _ (h_u28)))) (K_look_j436 _ _ (h_u28))))) (K_look_j436 _ _ (h_u25))))) (K_look_j436 _ _ (h)))
theorem K_look_j368 (x1_ : Int32) (x2_ : Int32) (s0_ : Int32) {v0 w : St} (h : KE v0 w) : D2 KE v0 (fX12_look_j368 x1_ x2_ s0_ w) := by
  unfold fX12_look_j368
  exact (D2_ite (D2_b2 (K_sign _ (h)) (fun _ u34 h_u34 => (D2_ite (D2_lt (D2_lt (K_look_j395 _ _ _ (h_u34)))) (K_look_j395 _ _ _ (h_u34))))) (K_look_j395 _ _ _ (h)))
theorem K_look_L1 (F : Nat) : ∀ (q : Nat)  (v0 w : St), KE v0 w → D2 KE v0 (fX12_look_L1 F q  w) := by
  induction F with
  | zero => intro q  v0 w h; intro r v' e; cases e
  | succ F ih =>
    intro q  v0 w h
    match q with
    | 0 =>
      show D2 KE v0 (fX12_look_L1_0 (fX12_look_L1 F)  w)
      unfold fX12_look_L1_0
      exact (D2_b2 (K_sign _ (h)) (fun _ u39 h_u39 => (D2_ite (ih _  _ _ (h_u39)) (D2_b2 (K_sign _ (h_u39)) (fun _ u42 h_u42 => (D2_ite (ih _  _ _ (h_u42)) (D2_b2 (K_sign _ (h_u42)) (fun _ u45 h_u45 => (D2_ite (ih _  _ _ (h_u45)) (D2_b2 (K_sign _ (h_u45)) (fun _ u48 h_u48 => (D2_ite (ih _  _ _ (h_u48)) (D2_b2 (K_sign _ (h_u48)) (fun _ u51 h_u51 => (D2_lt (D2_lt (D2_ite (D2_b2 (K_in _ _ _ ((KE_uI (k := 100) (i := 24) ((KE_uI (k := 100) (i := 26) (h_u51) (by decide))) (by decide)))) (fun _ u56 h_u56 => (D2_ite (D2_b2 (K_in _ _ _ (h_u56)) (fun _ u61 h_u61 => (D2_ite (D2_lt (D2_ite (K_look_j368 _ _ _ (h_u61)) (D2_ite (K_look_j368 _ _ _ (h_u61)) (D2_ite (K_look_j368 _ _ _ (h_u61)) (D2_ite (K_look_j368 _ _ _ (h_u61)) (D2_ite (K_look_j368 _ _ _ (h_u61)) (D2_ite (K_look_j368 _ _ _ (h_u61)) (D2_ite (K_look_j368 _ _ _ (h_u61)) (D2_ite (K_look_j368 _ _ _ (h_u61)) (D2_ite (K_look_j368 _ _ _ (h_u61)) (D2_ite (K_look_j368 _ _ _ (h_u61)) (K_look_j368 _ _ _ (h_u61))))))))))))) (D2_lt (D2_lt (K_look_L0 _ _ _ _ _ _ _ ((KE_uJ (h_u61))))))))) (D2_lt (D2_lt (K_look_L0 _ _ _ _ _ _ _ ((KE_uJ (h_u56))))))))) (D2_lt (D2_some ((KE_uI (k := 100) (i := 25) ((KE_uI (k := 100) (i := 24) ((KE_uI (k := 100) (i := 26) (h_u51) (by decide))) (by decide))) (by decide))))))))))))))))))))))
    | 1 =>
      show D2 KE v0 (fX12_look_L1_1 (fX12_look_L1 F)  w)
      unfold fX12_look_L1_1
      exact (D2_lt (ih _  _ _ ((KE_uI (k := 100) (i := 23) (h) (by decide)))))
    | q + 2 => intro r v' e; cases e
theorem K_look  {v0 w : St} (h : KE v0 w) : D2 KE v0 (fX12_look  w) := by
  unfold fX12_look
  exact (D2_ite (D2_ite (K_look_L1 _ _  _ _ (h)) (D2_some (h))) (D2_some (h)))
theorem K_symbolOf_L0 (F : Nat) : ∀ (q : Nat) (x1 : Int64) (x3 : Int32) (v0 w : St), KE v0 w → D2 KE v0 (fX12_symbolOf_L0 F q x1 x3 w) := by
  induction F with
  | zero => intro q x1 x3 v0 w h; intro r v' e; cases e
  | succ F ih =>
    intro q x1 x3 v0 w h
    match q with
    | 0 =>
      show D2 KE v0 (fX12_symbolOf_L0_0 (fX12_symbolOf_L0 F) x1 x3 w)
      unfold fX12_symbolOf_L0_0
      exact (D2_ite (D2_bS (D1_stJ (h)) (fun u2 h_u2 => (D2_bS (D1_st (by decide) (h_u2)) (fun u3 h_u3 => (D2_lt (D2_some ((KE_uI (k := 100) (i := 3) (h_u3) (by decide))))))))) (D2_bJ (fun _ => (D2_ite (D2_some (h)) (D2_lt (ih _ _ _ _ _ (h)))))))
    | q + 1 => intro r v' e; cases e
theorem K_symbolOf (a0 : Int64) {v0 w : St} (h : KE v0 w) : D2 KE v0 (fX12_symbolOf a0 w) := by
  unfold fX12_symbolOf
  exact (D2_lt (K_symbolOf_L0 _ _ _ _ _ _ (h)))
theorem K_variableOf_L0 (F : Nat) : ∀ (q : Nat) (x1 : Int64) (x3 : Int32) (v0 w : St), KE v0 w → D2 KE v0 (fX12_variableOf_L0 F q x1 x3 w) := by
  induction F with
  | zero => intro q x1 x3 v0 w h; intro r v' e; cases e
  | succ F ih =>
    intro q x1 x3 v0 w h
    match q with
    | 0 =>
      show D2 KE v0 (fX12_variableOf_L0_0 (fX12_variableOf_L0 F) x1 x3 w)
      unfold fX12_variableOf_L0_0
      exact (D2_ite (D2_bS (D1_stJ (h)) (fun u2 h_u2 => (D2_lt (D2_some ((KE_uI (k := 100) (i := 35) (h_u2) (by decide))))))) (D2_bJ (fun _ => (D2_ite (D2_some (h)) (D2_lt (ih _ _ _ _ _ (h)))))))
    | q + 1 => intro r v' e; cases e
theorem K_variableOf (a0 : Int64) {v0 w : St} (h : KE v0 w) : D2 KE v0 (fX12_variableOf a0 w) := by
  unfold fX12_variableOf
  exact (D2_lt (K_variableOf_L0 _ _ _ _ _ _ (h)))
theorem K_opens  {v0 w : St} (h : KE v0 w) : D2 KE v0 (fX12_opens  w) := by
  unfold fX12_opens
  exact (D2_ite (D2_bS (K_fail _ _ (h)) (fun u4 h_u4 => (D2_some (h_u4)))) (D2_lt (D2_bS (K_take  ((KE_uI (k := 100) (i := 37) (h) (by decide)))) (fun u3 h_u3 => (D2_some (h_u3))))))
theorem K_endName_j59 (x1_ : Int32) (x3_ : Int32) (x4_ : Int32) {v0 w : St} (h : KE v0 w) : D1 KE v0 (fX12_endName_j59 x1_ x3_ x4_ w) := by
  unfold fX12_endName_j59
  exact (D1_bS (D1_st (by decide) (h)) (fun u1 h_u1 => (D1_bI (fun _ => (D1_bS (D1_st (by decide) (h_u1)) (fun u2 h_u2 => (D1_some (h_u2))))))))
theorem K_endName_j12 (x1_ : Int32) (x2_ : Int32) (x3_ : Int32) (s0_ : Int32) {v0 w : St} (h : KE v0 w) : D1 KE v0 (fX12_endName_j12 x1_ x2_ x3_ s0_ w) := by
  unfold fX12_endName_j12
  exact (D1_ite (D1_bI (fun _ => (D1_ite (K_endName_j59 _ _ _ (h)) (D1_bI (fun _ => (D1_ite (D1_bI (fun _ => (D1_ite (K_endName_j59 _ _ _ (h)) (D1_bS (K_fail _ _ (h)) (fun u12 h_u12 => (D1_some (h_u12))))))) (D1_bS (K_fail _ _ (h)) (fun u9 h_u9 => (D1_some (h_u9)))))))))) (D1_some (h)))
theorem K_endName (a0 : Int32) (a1 : Int32) (a2 : Int32) {v0 w : St} (h : KE v0 w) : D1 KE v0 (fX12_endName a0 a1 a2 w) := by
  unfold fX12_endName
  exact (D1_ite (K_endName_j12 _ _ _ _ (h)) (K_endName_j12 _ _ _ _ (h)))
theorem K_must (a0 : Int32) {v0 w : St} (h : KE v0 w) : D2 KE v0 (fX12_must a0 w) := by
  unfold fX12_must
  exact (D2_b2 (K_look  (h)) (fun _ u1 h_u1 => (D2_ite (D2_bS (K_take  (h_u1)) (fun u4 h_u4 => (D2_some (h_u4)))) (D2_bS (K_fail _ _ (h_u1)) (fun u5 h_u5 => (D2_some (h_u5)))))))
theorem K_push (a0 : Int32) (a1 : Int32) {v0 w : St} (h : KE v0 w) : D1 KE v0 (fX12_push a0 a1 w) := by
  unfold fX12_push
  exact (D1_bS (D1_st (by decide) (h)) (fun u1 h_u1 => (D1_bS (D1_st (by decide) (h_u1)) (fun u2 h_u2 => (D1_lt (D1_some ((KE_uI (k := 100) (i := 38) (h_u2) (by decide)))))))))
theorem K_give (a0 : Int32) {v0 w : St} (h : KE v0 w) : D1 KE v0 (fX12_give a0 w) := by
  unfold fX12_give
  exact (D1_bS (D1_st (by decide) (h)) (fun u1 h_u1 => (D1_lt (D1_some ((KE_uI (k := 100) (i := 41) (h_u1) (by decide)))))))
theorem K_got  {v0 w : St} (h : KE v0 w) : D2 KE v0 (fX12_got  w) := by
  unfold fX12_got
  exact (D2_lt (D2_bI (fun _ => (D2_some ((KE_uI (k := 100) (i := 41) (h) (by decide)))))))
theorem K_node (a0 : Int32) (a1 : Int32) (a2 : Int32) {v0 w : St} (h : KE v0 w) : D2 KE v0 (fX12_node a0 a1 a2 w) := by
  unfold fX12_node
  exact (D2_lt (D2_lt (D2_bS (D1_st (by decide) ((KE_uI (k := 100) (i := 28) (h) (by decide)))) (fun u3 h_u3 => (D2_bS (D1_st (by decide) (h_u3)) (fun u4 h_u4 => (D2_bS (D1_st (by decide) (h_u4)) (fun u5 h_u5 => (D2_some (h_u5))))))))))
theorem K_joins (a0 : Int32) {v0 w : St} (h : KE v0 w) : D1 KE v0 (fX12_joins a0 w) := by
  unfold fX12_joins
  exact (D1_b2 (K_got  (h)) (fun _ u1 h_u1 => (D1_b2 (K_got  (h_u1)) (fun _ u3 h_u3 => (D1_b2 (K_node _ _ _ (h_u3)) (fun _ u5 h_u5 => (D1_bS (K_give _ (h_u5)) (fun u7 h_u7 => (D1_some (h_u7))))))))))
def NE (v v' : St) : Prop := 0 ≤ I v 100 43 → 0 ≤ I v' 100 43
theorem KN {v0 w w' : St} (h : NE v0 w) (h' : KE w w') : NE v0 w' := fun h0 => by
  have := h h0
  unfold I at this ⊢
  rw [show gI w' 100 43 = gI w 100 43 from h']; exact this
theorem D1_KN {v0 w : St} {o : Option St} (h : NE v0 w) (h' : D1 KE w o) : D1 NE v0 o := fun v' e => KN h (h' v' e)
theorem D2_KN {v0 w : St} {o : Option (Int32 × St)} (h : NE v0 w) (h' : D2 KE w o) : D2 NE v0 o := fun r v' e => KN h (h' r v' e)
theorem NE_uI {v0 w : St} {k i : Nat} {x : Int32} (h : NE v0 w) (hk : ¬ (k = 100 ∧ i = 43)) : NE v0 (uI w k i x) := KN h (KE_uI (KE_rfl _) hk)
theorem NE_rfl (v : St) : NE v v := fun h => h
theorem D1_stN {v0 w : St} {k n : Nat} {i x : Int32} (hk : k ≠ 100) (h : NE v0 w) : D1 NE v0 (st w k n i x) := D1_KN h (D1_st hk (KE_rfl _))
theorem D1_stJN {v0 w : St} {k n : Nat} {i : Int32} {x : Int64} (h : NE v0 w) : D1 NE v0 (stJ w k n i x) := D1_KN h (D1_stJ (KE_rfl _))
theorem N_inc (r4 x2 : Int32) {v0 u12 : St} (h12 : NE v0 u12) : D2 NE v0 (bd (st u12 123 40 (gI u12 100 43) r4) fun u15 => bd (st u15 124 40 (gI u15 100 43) x2) fun u16 => bd (st u16 125 40 (gI u16 100 43) 0) fun u17 => lt (uI u17 100 43 ((gI u17 100 43) + 1)) fun u18 => some (0, u18)) := by
  intro r v' e
  obtain ⟨u15, e15, e⟩ := g_bd e
  obtain ⟨u16, e16, e⟩ := g_bd e
  obtain ⟨u17, e17, e⟩ := g_bd e
  have k15 : KE u12 u15 := D1_st (by decide) (KE_rfl _) u15 e15
  have k16 : KE u15 u16 := D1_st (by decide) (KE_rfl _) u16 e16
  have k17 : KE u16 u17 := D1_st (by decide) (KE_rfl _) u17 e17
  have k : gI u17 100 43 = gI u12 100 43 := (show gI u17 100 43 = gI u16 100 43 from k17).trans ((show gI u16 100 43 = gI u15 100 43 from k16).trans k15)
  have hn : NE v0 u17 := KN (KN (KN h12 k15) k16) k17
  have he : v' = uI u17 100 43 (gI u17 100 43 + 1) := by
    have e' : some ((0 : Int32), uI u17 100 43 (gI u17 100 43 + 1)) = some (r, v') := e
    cases e'; rfl
  rw [he]
  have h1 := (g_st e15).1
  intro h0
  have h2 := hn h0
  have h3 := I_hi u17 100 43
  have h4 : ¬ 40 ≤ (gI u17 100 43).toNatClampNeg := fun hh => h1 (Or.inr (by rw [← k]; exact hh))
  rw [gI_z u17 100 43, z_clamp h2 h3] at h4
  rw [gI_z u17 100 43, show (1 : Int32) = zI 1 from rfl, z_add, I_uI1 _ _ _ _ (by omega) (by omega)]
  omega
theorem N_bt52 (a0 : Int32) {v0 w : St} (h : NE v0 w) : D2 NE v0 (fX12_beginTerm_j52 a0 w) := by
  unfold fX12_beginTerm_j52
  exact (D2_ite (D2_lt (D2_b2 (D2_KN (h) (K_symbolOf _ (KE_rfl _))) (fun _ u3 h_u3 => (D2_bS (D1_KN (h_u3) (K_take  (KE_rfl _))) (fun u5 h_u5 => (D2_bS (D1_stN (by decide) (h_u5)) (fun u6 h_u6 => (D2_lt (D2_b2 (D2_KN ((NE_uI (k := 100) (i := 33) (h_u6) (by decide))) (K_look  (KE_rfl _))) (fun _ u8 h_u8 => (D2_ite (D2_b2 (D2_KN (h_u8) (K_opens  (KE_rfl _))) (fun _ u12 h_u12 => (D2_ite (D2_some (h_u12)) (N_inc _ _ h_u12)))) (D2_bS (D1_KN (h_u8) (K_endName _ _ _ (KE_rfl _))) (fun u11 h_u11 => (D2_some (h_u11))))))))))))))) (D2_bS (D1_KN (h) (K_fail _ _ (KE_rfl _))) (fun u19 h_u19 => (D2_some (h_u19)))))
theorem N_beginTerm  {v0 w : St} (h : NE v0 w) : D2 NE v0 (fX12_beginTerm  w) := by
  unfold fX12_beginTerm
  exact (D2_b2 (D2_KN (h) (K_look  (KE_rfl _))) (fun _ u20 h_u20 => (D2_ite (N_bt52 _ (h_u20)) (D2_ite (D2_b2 (D2_KN (h_u20) (K_variableOf _ (KE_rfl _))) (fun _ u24 h_u24 => (D2_bS (D1_stN (by decide) (h_u24)) (fun u26 h_u26 => (D2_lt (D2_bS (D1_KN ((NE_uI (k := 100) (i := 33) (h_u26) (by decide))) (K_take  (KE_rfl _))) (fun u28 h_u28 => (D2_some (h_u28))))))))) (N_bt52 _ (h_u20))))))
theorem N_ra_L0 (F : Nat) : ∀ (q : Nat) (x1 : Int32) (v0 w : St), NE v0 w → D1 NE v0 (fX12_readAtom_L0 F q x1 w) := by
  induction F with
  | zero => intro q x1 v0 w h; intro v' e; cases e
  | succ F ih =>
    intro q x1 v0 w h
    match q with
    | 0 =>
      show D1 NE v0 (fX12_readAtom_L0_0 (fX12_readAtom_L0 F) x1 w)
      unfold fX12_readAtom_L0_0
      refine D1_ite ?_ (D1_some h)
      by_cases h43 : gI w 100 43 ≤ 0
      · rw [if_pos h43]; exact D1_some h
      · rw [if_neg h43]
        refine D1_lt (D1_ite (D1_b2 (N_beginTerm h) (fun r w' h' => ih _ _ _ _ h')) ?_)
        intro v' e
        obtain ⟨v5, _, e⟩ := g_bd e
        obtain ⟨u6, e6, e⟩ := g_bd e
        obtain ⟨r8, u7, e7, e⟩ := g_b2 e
        have k6 : KE w u6 := D1_st (by decide) (KE_rfl _) u6 e6
        have k7 : KE w u7 := K_look k6 r8 u7 e7
        have n7 : NE v0 u7 := KN h k7
        by_cases h5 : r8 = 5
        · rw [if_pos h5] at e
          exact (D1_bS (D1_KN n7 (K_take (KE_rfl _))) (fun u18 h18 => D1_bI (fun _ => D1_ite (D1_bI (fun _ => D1_bS (D1_KN h18 (K_fail _ _ (KE_rfl _))) (fun u24 h24 => D1_some h24))) (D1_b2 (N_beginTerm h18) (fun r22 u21 h21 => ih _ _ _ _ h21))))) v' e
        · rw [if_neg h5, lt_e] at e
          obtain ⟨r12, u11, e11, e⟩ := g_b2 e
          rw [lt_e] at e
          have k11 : KE w u11 := K_must _ (KE_uI k7 (by decide)) r12 u11 e11
          have n13 : NE v0 (uI u11 100 43 (gI u11 100 43 - 1)) := fun h0 => by
            have hw := h h0
            have hw2 := I_hi w 100 43
            have hpos : 0 < I w 100 43 := by
              rw [gI_z w 100 43, z_zero, z_le (by omega) (by omega) (by decide) (by decide)] at h43
              omega
            rw [show gI u11 100 43 = gI w 100 43 from k11, gI_z w 100 43, show (1 : Int32) = zI 1 from rfl, z_sub, I_uI1 _ _ _ _ (by omega) (by omega)]
            omega
          exact (D1_bI (fun _ => D1_bI (fun _ => D1_bI (fun _ => D1_bS (D1_KN n13 (K_endName _ _ _ (KE_rfl _))) (fun u17 h17 => ih _ _ _ _ h17))))) v' e
    | q + 1 => intro v' e; cases e
theorem N_readAtom {v0 w : St} (h : NE v0 w) : D1 NE v0 (fX12_readAtom w) := by
  unfold fX12_readAtom
  have h0 : NE v0 (uI w 100 43 0) := fun _ => by rw [show (0 : Int32) = zI 0 from rfl, I_uI1 _ _ _ _ (by decide) (by decide)]; decide
  exact D1_lt (D1_b2 (N_beginTerm h0) (fun r w' h' => N_ra_L0 _ _ _ _ _ h'))
theorem N_unary_j47 (x1_ : Int32) {v0 w : St} (h : NE v0 w) : D1 NE v0 (fX12_unary_j47 x1_ w) := by
  unfold fX12_unary_j47
  exact (D1_b2 (D2_KN (h) (K_opens  (KE_rfl _))) (fun _ u1 h_u1 => (D1_ite (D1_some (h_u1)) (D1_b2 (D2_KN (h_u1) (K_look  (KE_rfl _))) (fun _ u4 h_u4 => (D1_lt (D1_b2 (D2_KN (h_u4) (K_must _ (KE_rfl _))) (fun _ u7 h_u7 => (D1_ite (D1_some (h_u7)) (D1_b2 (D2_KN (h_u7) (K_must _ (KE_rfl _))) (fun _ u10 h_u10 => (D1_ite (D1_some (h_u10)) (D1_b2 (D2_KN (h_u10) (K_node _ _ _ (KE_rfl _))) (fun _ u13 h_u13 => (D1_bS (D1_stJN (h_u13)) (fun u15 h_u15 => (D1_bS (D1_KN (h_u15) (K_push _ _ (KE_rfl _))) (fun u16 h_u16 => (D1_bS (D1_KN (h_u16) (K_push _ _ (KE_rfl _))) (fun u17 h_u17 => (D1_some (h_u17))))))))))))))))))))))
theorem N_unary  {v0 w : St} (h : NE v0 w) : D1 NE v0 (fX12_unary  w) := by
  unfold fX12_unary
  exact (D1_b2 (D2_KN (h) (K_look  (KE_rfl _))) (fun _ u18 h_u18 => (D1_ite (D1_b2 (D2_KN (h_u18) (K_opens  (KE_rfl _))) (fun _ u36 h_u36 => (D1_ite (D1_some (h_u36)) (D1_bS (D1_KN (h_u36) (K_push _ _ (KE_rfl _))) (fun u39 h_u39 => (D1_bS (D1_KN (h_u39) (K_push _ _ (KE_rfl _))) (fun u40 h_u40 => (D1_some (h_u40))))))))) (D1_ite (N_unary_j47 _ (h_u18)) (D1_ite (N_unary_j47 _ (h_u18)) (D1_ite (D1_b2 (D2_KN (h_u18) (K_opens  (KE_rfl _))) (fun _ u31 h_u31 => (D1_ite (D1_some (h_u31)) (D1_bS (D1_KN (h_u31) (K_push _ _ (KE_rfl _))) (fun u34 h_u34 => (D1_bS (D1_KN (h_u34) (K_push _ _ (KE_rfl _))) (fun u35 h_u35 => (D1_some (h_u35))))))))) (D1_ite (D1_lt (D1_bS (N_readAtom  (h_u18)) (fun u27 h_u27 => (D1_b2 (D2_KN (h_u27) (K_node _ _ _ (KE_rfl _))) (fun _ u28 h_u28 => (D1_bS (D1_KN (h_u28) (K_give _ (KE_rfl _))) (fun u30 h_u30 => (D1_some (h_u30))))))))) (D1_bS (D1_KN (h_u18) (K_fail _ _ (KE_rfl _))) (fun u25 h_u25 => (D1_some (h_u25)))))))))))
theorem K_readTask_j422  {v0 w : St} (h : KE v0 w) : D1 KE v0 (fX12_readTask_j422  w) := by
  unfold fX12_readTask_j422
  exact (D1_some (h))
theorem N_readTask (a0 : Int32) (a1 : Int32) {v0 w : St} (h : NE v0 w) : D1 NE v0 (fX12_readTask a0 a1 w) := by
  unfold fX12_readTask
  exact (D1_ite (D1_bS (D1_KN (h) (K_push _ _ (KE_rfl _))) (fun u2 h_u2 => (D1_bS (D1_KN (h_u2) (K_push _ _ (KE_rfl _))) (fun u3 h_u3 => (D1_KN (h_u3) (K_readTask_j422  (KE_rfl _))))))) (D1_ite (D1_b2 (D2_KN (h) (K_look  (KE_rfl _))) (fun _ u5 h_u5 => (D1_ite (D1_b2 (D2_KN (h_u5) (K_opens  (KE_rfl _))) (fun _ u8 h_u8 => (D1_ite (D1_KN (h_u8) (K_readTask_j422  (KE_rfl _))) (D1_bS (D1_KN (h_u8) (K_push _ _ (KE_rfl _))) (fun u11 h_u11 => (D1_bS (D1_KN (h_u11) (K_push _ _ (KE_rfl _))) (fun u12 h_u12 => (D1_KN (h_u12) (K_readTask_j422  (KE_rfl _)))))))))) (D1_KN (h_u5) (K_readTask_j422  (KE_rfl _)))))) (D1_ite (D1_lt (D1_bS (D1_KN ((NE_uI (k := 100) (i := 37) (h) (by decide))) (K_joins _ (KE_rfl _))) (fun u15 h_u15 => (D1_bS (D1_KN (h_u15) (K_push _ _ (KE_rfl _))) (fun u16 h_u16 => (D1_KN (h_u16) (K_readTask_j422  (KE_rfl _)))))))) (D1_ite (D1_bS (D1_KN (h) (K_push _ _ (KE_rfl _))) (fun u18 h_u18 => (D1_bS (D1_KN (h_u18) (K_push _ _ (KE_rfl _))) (fun u19 h_u19 => (D1_KN (h_u19) (K_readTask_j422  (KE_rfl _))))))) (D1_ite (D1_b2 (D2_KN (h) (K_look  (KE_rfl _))) (fun _ u21 h_u21 => (D1_ite (D1_b2 (D2_KN (h_u21) (K_opens  (KE_rfl _))) (fun _ u24 h_u24 => (D1_ite (D1_KN (h_u24) (K_readTask_j422  (KE_rfl _))) (D1_bS (D1_KN (h_u24) (K_push _ _ (KE_rfl _))) (fun u27 h_u27 => (D1_bS (D1_KN (h_u27) (K_push _ _ (KE_rfl _))) (fun u28 h_u28 => (D1_KN (h_u28) (K_readTask_j422  (KE_rfl _)))))))))) (D1_KN (h_u21) (K_readTask_j422  (KE_rfl _)))))) (D1_ite (D1_lt (D1_bS (D1_KN ((NE_uI (k := 100) (i := 37) (h) (by decide))) (K_joins _ (KE_rfl _))) (fun u31 h_u31 => (D1_KN (h_u31) (K_readTask_j422  (KE_rfl _)))))) (D1_ite (D1_bS (D1_KN (h) (K_push _ _ (KE_rfl _))) (fun u33 h_u33 => (D1_bS (D1_KN (h_u33) (K_push _ _ (KE_rfl _))) (fun u34 h_u34 => (D1_KN (h_u34) (K_readTask_j422  (KE_rfl _))))))) (D1_ite (D1_b2 (D2_KN (h) (K_look  (KE_rfl _))) (fun _ u36 h_u36 => (D1_ite (D1_bS (D1_KN (h_u36) (K_take  (KE_rfl _))) (fun u39 h_u39 => (D1_bS (D1_KN (h_u39) (K_push _ _ (KE_rfl _))) (fun u40 h_u40 => (D1_bS (D1_KN (h_u40) (K_push _ _ (KE_rfl _))) (fun u41 h_u41 => (D1_KN (h_u41) (K_readTask_j422  (KE_rfl _))))))))) (D1_KN (h_u36) (K_readTask_j422  (KE_rfl _)))))) (D1_ite (D1_bS (D1_KN (h) (K_joins _ (KE_rfl _))) (fun u43 h_u43 => (D1_bS (D1_KN (h_u43) (K_push _ _ (KE_rfl _))) (fun u44 h_u44 => (D1_KN (h_u44) (K_readTask_j422  (KE_rfl _))))))) (D1_ite (D1_bS (D1_KN (h) (K_push _ _ (KE_rfl _))) (fun u46 h_u46 => (D1_bS (D1_KN (h_u46) (K_push _ _ (KE_rfl _))) (fun u47 h_u47 => (D1_KN (h_u47) (K_readTask_j422  (KE_rfl _))))))) (D1_ite (D1_b2 (D2_KN (h) (K_look  (KE_rfl _))) (fun _ u49 h_u49 => (D1_ite (D1_bS (D1_KN (h_u49) (K_take  (KE_rfl _))) (fun u52 h_u52 => (D1_bS (D1_KN (h_u52) (K_push _ _ (KE_rfl _))) (fun u53 h_u53 => (D1_bS (D1_KN (h_u53) (K_push _ _ (KE_rfl _))) (fun u54 h_u54 => (D1_KN (h_u54) (K_readTask_j422  (KE_rfl _))))))))) (D1_KN (h_u49) (K_readTask_j422  (KE_rfl _)))))) (D1_ite (D1_bS (D1_KN (h) (K_joins _ (KE_rfl _))) (fun u56 h_u56 => (D1_bS (D1_KN (h_u56) (K_push _ _ (KE_rfl _))) (fun u57 h_u57 => (D1_KN (h_u57) (K_readTask_j422  (KE_rfl _))))))) (D1_ite (D1_bS (N_unary  (h)) (fun u59 h_u59 => (D1_KN (h_u59) (K_readTask_j422  (KE_rfl _))))) (D1_ite (D1_lt (D1_b2 (D2_KN ((NE_uI (k := 100) (i := 37) (h) (by decide))) (K_got  (KE_rfl _))) (fun _ u62 h_u62 => (D1_b2 (D2_KN (h_u62) (K_node _ _ _ (KE_rfl _))) (fun _ u64 h_u64 => (D1_bS (D1_KN (h_u64) (K_give _ (KE_rfl _))) (fun u66 h_u66 => (D1_KN (h_u66) (K_readTask_j422  (KE_rfl _)))))))))) (D1_ite (D1_lt (D1_b2 (D2_KN ((NE_uI (k := 100) (i := 37) (h) (by decide))) (K_got  (KE_rfl _))) (fun _ u69 h_u69 => (D1_bS (D1_stN (by decide) (h_u69)) (fun u71 h_u71 => (D1_bS (D1_KN (h_u71) (K_give _ (KE_rfl _))) (fun u72 h_u72 => (D1_KN (h_u72) (K_readTask_j422  (KE_rfl _)))))))))) (D1_lt (D1_b2 (D2_KN ((NE_uI (k := 100) (i := 37) (h) (by decide))) (K_must _ (KE_rfl _))) (fun _ u74 h_u74 => (D1_KN (h_u74) (K_readTask_j422  (KE_rfl _)))))))))))))))))))))
theorem N_formula_j65  {v0 w : St} (h : NE v0 w) : D2 NE v0 (fX12_formula_j65  w) := by
  unfold fX12_formula_j65
  exact (D2_ite (D2_b2 (D2_KN (h) (K_got  (KE_rfl _))) (fun _ u2 h_u2 => (D2_some (h_u2)))) (D2_some (h)))
theorem N_fm_L0 (F : Nat) : ∀ (q : Nat) (v0 w : St), NE v0 w → D2 NE v0 (fX12_formula_L0 F q w) := by
  induction F with
  | zero => intro q v0 w h; intro r v' e; cases e
  | succ F ih =>
    intro q v0 w h
    match q with
    | 0 =>
      show D2 NE v0 (fX12_formula_L0_0 (fX12_formula_L0 F) w)
      unfold fX12_formula_L0_0
      exact (D2_ite (N_formula_j65  (h)) (D2_ite (D2_lt (D2_bI (fun _ => (D2_bI (fun _ => (D2_bS (N_readTask _ _ ((NE_uI (k := 100) (i := 38) (h) (by decide)))) (fun u9 h_u9 => (ih _  _ _ (h_u9))))))))) (N_formula_j65  (h))))
    | q + 1 => intro r v' e; cases e
theorem N_formula  {v0 w : St} (h : NE v0 w) : D2 NE v0 (fX12_formula  w) := by
  unfold fX12_formula
  exact (D2_lt (D2_lt (D2_bS (D1_KN ((NE_uI (k := 100) (i := 41) ((NE_uI (k := 100) (i := 38) (h) (by decide))) (by decide))) (K_push _ _ (KE_rfl _))) (fun u12 h_u12 => (N_fm_L0 _ _ _ _ h_u12)))))
