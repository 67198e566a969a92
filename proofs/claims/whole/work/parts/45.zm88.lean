/-! reading: the parser's tasks -/
theorem rt1 (b : Int32) (v : St) : fX12_readTask (zI 1) b v = bd (fX12_push 2 0 v) fun u2 => bd (fX12_push 4 0 u2) fun u3 => some u3 := by unfold fX12_readTask; rw [if_pos (by rfl)]; rfl
theorem rt2 (b : Int32) (v : St) : fX12_readTask (zI 2) b v = b2 (fX12_look v) fun r6 u5 => if r6 = 14 then (b2 (fX12_opens u5) fun r9 u8 => if r9 = 0 then (some u8) else bd (fX12_push 3 0 u8) fun u11 => bd (fX12_push 4 0 u11) fun u12 => some u12) else some u5 := by unfold fX12_readTask; rw [if_neg (by decide), if_pos (by rfl)]; rfl
theorem rt3 (b : Int32) (v : St) : fX12_readTask (zI 3) b v = lt (uI v 100 37 ((gI v 100 37) - 1)) fun u14 => bd (fX12_joins 14 u14) fun u15 => bd (fX12_push 2 0 u15) fun u16 => some u16 := by unfold fX12_readTask; rw [if_neg (by decide), if_neg (by decide), if_pos (by rfl)]; rfl
theorem rt4 (b : Int32) (v : St) : fX12_readTask (zI 4) b v = bd (fX12_push 5 0 v) fun u18 => bd (fX12_push 7 0 u18) fun u19 => some u19 := by unfold fX12_readTask; rw [if_neg (by decide), if_neg (by decide), if_neg (by decide), if_pos (by rfl)]; rfl
theorem rt5 (b : Int32) (v : St) : fX12_readTask (zI 5) b v = b2 (fX12_look v) fun r22 u21 => if r22 = 13 then (b2 (fX12_opens u21) fun r25 u24 => if r25 = 0 then (some u24) else bd (fX12_push 6 0 u24) fun u27 => bd (fX12_push 4 0 u27) fun u28 => some u28) else some u21 := by unfold fX12_readTask; rw [if_neg (by decide), if_neg (by decide), if_neg (by decide), if_neg (by decide), if_pos (by rfl)]; rfl
theorem rt6 (b : Int32) (v : St) : fX12_readTask (zI 6) b v = lt (uI v 100 37 ((gI v 100 37) - 1)) fun u30 => bd (fX12_joins 13 u30) fun u31 => some u31 := by unfold fX12_readTask; rw [if_neg (by decide), if_neg (by decide), if_neg (by decide), if_neg (by decide), if_neg (by decide), if_pos (by rfl)]; rfl
theorem rt7 (b : Int32) (v : St) : fX12_readTask (zI 7) b v = bd (fX12_push 8 0 v) fun u33 => bd (fX12_push 10 0 u33) fun u34 => some u34 := by unfold fX12_readTask; rw [if_neg (by decide), if_neg (by decide), if_neg (by decide), if_neg (by decide), if_neg (by decide), if_neg (by decide), if_pos (by rfl)]; rfl
theorem rt8 (b : Int32) (v : St) : fX12_readTask (zI 8) b v = b2 (fX12_look v) fun r37 u36 => if r37 = 10 then (bd (fX12_take u36) fun u39 => bd (fX12_push 9 0 u39) fun u40 => bd (fX12_push 10 0 u40) fun u41 => some u41) else some u36 := by unfold fX12_readTask; rw [if_neg (by decide), if_neg (by decide), if_neg (by decide), if_neg (by decide), if_neg (by decide), if_neg (by decide), if_neg (by decide), if_pos (by rfl)]; rfl
theorem rt9 (b : Int32) (v : St) : fX12_readTask (zI 9) b v = bd (fX12_joins 10 v) fun u43 => bd (fX12_push 8 0 u43) fun u44 => some u44 := by unfold fX12_readTask; rw [if_neg (by decide), if_neg (by decide), if_neg (by decide), if_neg (by decide), if_neg (by decide), if_neg (by decide), if_neg (by decide), if_neg (by decide), if_pos (by rfl)]; rfl
theorem rt10 (b : Int32) (v : St) : fX12_readTask (zI 10) b v = bd (fX12_push 11 0 v) fun u46 => bd (fX12_push 13 0 u46) fun u47 => some u47 := by unfold fX12_readTask; rw [if_neg (by decide), if_neg (by decide), if_neg (by decide), if_neg (by decide), if_neg (by decide), if_neg (by decide), if_neg (by decide), if_neg (by decide), if_neg (by decide), if_pos (by rfl)]; rfl
theorem rt11 (b : Int32) (v : St) : fX12_readTask (zI 11) b v = b2 (fX12_look v) fun r50 u49 => if r50 = 9 then (bd (fX12_take u49) fun u52 => bd (fX12_push 12 0 u52) fun u53 => bd (fX12_push 13 0 u53) fun u54 => some u54) else some u49 := by unfold fX12_readTask; rw [if_neg (by decide), if_neg (by decide), if_neg (by decide), if_neg (by decide), if_neg (by decide), if_neg (by decide), if_neg (by decide), if_neg (by decide), if_neg (by decide), if_neg (by decide), if_pos (by rfl)]; rfl
theorem rt12 (b : Int32) (v : St) : fX12_readTask (zI 12) b v = bd (fX12_joins 9 v) fun u56 => bd (fX12_push 11 0 u56) fun u57 => some u57 := by unfold fX12_readTask; rw [if_neg (by decide), if_neg (by decide), if_neg (by decide), if_neg (by decide), if_neg (by decide), if_neg (by decide), if_neg (by decide), if_neg (by decide), if_neg (by decide), if_neg (by decide), if_neg (by decide), if_pos (by rfl)]; rfl
theorem rt13 (b : Int32) (v : St) : fX12_readTask (zI 13) b v = bd (fX12_unary v) fun u59 => some u59 := by unfold fX12_readTask; rw [if_neg (by decide), if_neg (by decide), if_neg (by decide), if_neg (by decide), if_neg (by decide), if_neg (by decide), if_neg (by decide), if_neg (by decide), if_neg (by decide), if_neg (by decide), if_neg (by decide), if_neg (by decide), if_pos (by rfl)]; rfl
theorem rt14 (b : Int32) (v : St) : fX12_readTask (zI 14) b v = lt (uI v 100 37 ((gI v 100 37) - 1)) fun u61 => b2 (fX12_got u61) fun r63 u62 => b2 (fX12_node 8 r63 0 u62) fun r65 u64 => bd (fX12_give r65 u64) fun u66 => some u66 := by unfold fX12_readTask; rw [if_neg (by decide), if_neg (by decide), if_neg (by decide), if_neg (by decide), if_neg (by decide), if_neg (by decide), if_neg (by decide), if_neg (by decide), if_neg (by decide), if_neg (by decide), if_neg (by decide), if_neg (by decide), if_neg (by decide), if_pos (by rfl)]; rfl
theorem rt15 (b : Int32) (v : St) : fX12_readTask (zI 15) b v = lt (uI v 100 37 ((gI v 100 37) - 1)) fun u68 => b2 (fX12_got u68) fun r70 u69 => bd (st u69 115 1600 b r70) fun u71 => bd (fX12_give b u71) fun u72 => some u72 := by unfold fX12_readTask; rw [if_neg (by decide), if_neg (by decide), if_neg (by decide), if_neg (by decide), if_neg (by decide), if_neg (by decide), if_neg (by decide), if_neg (by decide), if_neg (by decide), if_neg (by decide), if_neg (by decide), if_neg (by decide), if_neg (by decide), if_neg (by decide), if_pos (by rfl)]; rfl
theorem rt16 (b : Int32) (v : St) : fX12_readTask (zI 16) b v = lt (uI v 100 37 ((gI v 100 37) - 1)) fun u73 => b2 (fX12_must 4 u73) fun r75 u74 => some u74 := by unfold fX12_readTask; rw [if_neg (by decide), if_neg (by decide), if_neg (by decide), if_neg (by decide), if_neg (by decide), if_neg (by decide), if_neg (by decide), if_neg (by decide), if_neg (by decide), if_neg (by decide), if_neg (by decide), if_neg (by decide), if_neg (by decide), if_neg (by decide), if_neg (by decide)]; rfl
/-- calls one level below -/
def lvB (lv : Nat) : Nat := if lv = 4 then 0 else if lv = 3 then 1 else 2
def sgnm (lv : Nat) : Nat := if lv = 0 then 14 else if lv = 1 then 13 else if lv = 2 then 10 else if lv = 3 then 9 else 0
def GU (grp : Nat → Int32 → St → Option (Int32 × St)) (n o : Nat) : Prop := ∀ u v t S R NC NR B F Kc Kr l vs, PFo u v n t S R NC NR o B F Kc Kr → (∀ x, B x ≤ o) → TS v ((13, 0) :: l) → VS v vs → l.length ≤ 10 * o + 9 → vs.length ≤ 10 * o + 9 → ∃ (u' : St) (r : Nat), grp 1 0 u = some (zI r, u') ∧ FMr u u' v r n t S R NC NR o B F Kc Kr l vs 0 0 30
def GC (grp : Nat → Int32 → St → Option (Int32 × St)) (n o lv : Nat) : Prop := ∀ u v t S R NC NR B F Kc Kr l vs, PFo u v n t S R NC NR o B F Kc Kr → (∀ x, B x ≤ o) → TS v (((3 * lv + 1 : Nat), 0) :: l) → VS v vs → l.length ≤ 10 * o + lv → vs.length ≤ 10 * o + lv → ∃ (u' : St) (r : Nat), grp 0 (zI lv) u = some (zI r, u') ∧ FMr u u' v r n t S R NC NR o B F Kc Kr l vs (lvB lv) (sgnm lv) (18 + 3 * lv)
def GP1 (grp : Nat → Int32 → St → Option (Int32 × St)) (n o : Nat) : Prop := ∀ u v t S R NC NR b B F, PQ u v n t S R NC NR o 0 B F → TLs u v n t b 1 → 2 * S ≤ 120 + t → ∃ u', grp 2 (zI 1) u = some (zI 0, u') ∧ APr u u' v n t S R NC NR o 0 B F (fun G => BJ G v) R
theorem gp1_all (n : Nat) (o d : Nat) (ho : o ≤ 30) (hd : 32 ≤ d + o) (hd2 : 1 ≤ d) : GP1 (fPar d) n o := by
  intro u v t S R NC NR b B F h hL hS
  obtain ⟨d', rfl⟩ : ∃ d', d = d' + 1 := ⟨d - 1, by omega⟩
  obtain ⟨u', r1, r2⟩ := ap_spec (grp := fPar d') (o := o) (fun hh => gpa_all n (30 - (o + 1)) (o + 1) d' (by omega) (by omega)) u v t S R NC NR 0 b B F 1 h hL hS (by omega) (by rw [if_pos rfl])
  refine ⟨u', ?_, r2⟩
  have : fPar (d' + 1) 2 (zI 1) u = bd (oX2_application (fPar d') (zI 1) u) fun u1 => some (0, u1) := rfl
  rw [this, r1, bd_s]; rfl
/-- a state of formulas that only its stacks change -/
theorem PF_fr {P Q : Nat → Nat → Bool} {u u' v v' : St} {n t S R NC NR o : Nat} {B : Nat → Nat} {F : List Nat} {Kc Kr : Nat} (f1 : Fr P u u') (f2 : Fr Q v v') (hP : ∀ k i, (k = 1 ∨ k = 14 ∨ (k = 2 ∧ i = 3) ∨ k = 15 ∨ k = 16 ∨ k = 17 ∨ (k = 3 ∧ (i = 4 ∨ i = 6 ∨ i = 10 ∨ i = 12)) ∨ k = 38 ∨ k = 39 ∨ k = 40 ∨ k = 41 ∨ k = 4) → P k i = false) (hQ : ∀ k i, ((k = 100 ∧ (i = 2 ∨ i = 3 ∨ i = 21 ∨ i = 23 ∨ i = 24 ∨ i = 25 ∨ i = 26 ∨ i = 27 ∨ i = 28 ∨ i = 33 ∨ i = 35 ∨ i = 37 ∨ i = 43)) ∨ k = 101 ∨ k = 102 ∨ k = 103 ∨ k = 104 ∨ k = 119) → Q k i = false) (h : PFo u v n t S R NC NR o B F Kc Kr) : PFo u' v' n t S R NC NR o B F Kc Kr := by
  obtain ⟨⟨m, h1⟩, h2, h3, h4⟩ := h
  exact ⟨⟨m, PQ_fr f1 f2 (fun k i hk => hP k i (by omega)) (fun k i hk => hQ k i (by omega)) h1⟩, by rw [Fr_I f1 (hP 3 4 (by simp))]; exact h2, by rw [Fr_I f2 (hQ 100 28 (by simp))]; exact h3, h4⟩
/-- the general change -/
theorem PF_gen {P Q : Nat → Nat → Bool} {u u' v v' : St} {n t S R NC NR o o' : Nat} {B : Nat → Nat} {F : List Nat} {Kc Kr Kc' Kr' : Nat} (f1 : Fr P u u') (f2 : Fr Q v v') (hP : ∀ k i, (k = 1 ∨ k = 14 ∨ (k = 2 ∧ i = 3) ∨ k = 15 ∨ k = 16 ∨ k = 17 ∨ (k = 3 ∧ (i = 6 ∨ i = 10 ∨ i = 12)) ∨ k = 38 ∨ k = 39 ∨ k = 40 ∨ k = 41 ∨ (k = 4 ∧ i = 4)) → P k i = false) (hQ : ∀ k i, ((k = 100 ∧ (i = 2 ∨ i = 3 ∨ i = 21 ∨ i = 23 ∨ i = 24 ∨ i = 25 ∨ i = 26 ∨ i = 27 ∨ i = 33 ∨ i = 35 ∨ i = 43)) ∨ k = 101 ∨ k = 102 ∨ k = 103 ∨ k = 104 ∨ k = 119) → Q k i = false) (h3 : I u' 4 3 = o') (h37 : I v' 100 37 = o') (ho : o' ≤ 30) (h4 : I u' 3 4 = Kc') (h28 : I v' 100 28 = Kr') (hKc : Kc' ≤ t) (hKr : Kr' ≤ t) (h : PFo u v n t S R NC NR o B F Kc Kr) : PFo u' v' n t S R NC NR o' B F Kc' Kr' := by
  obtain ⟨⟨m, h1⟩, _⟩ := h
  exact ⟨⟨m, PQ_om f1 f2 hP (fun k i hk => hQ k i (by omega)) h3 h37 (by rw [Fr_I f2 (hQ 100 43 (by simp))]; exact h1.2.2.2.2.2.2.2.2.2.2.2.2.2.2.2.2.1) ho h1⟩, h4, h28, hKc, hKr⟩
theorem pf_next {u v : St} {n t S R NC NR o : Nat} {B : Nat → Nat} {F : List Nat} {Kc Kr : Nat} (h : PFo u v n t S R NC NR o B F Kc Kr) : ∃ u' v', (∃ s b k : Nat, fX2_next u = some (zI ((k + 1 : Nat) : Int), u') ∧ fX12_look v = some (zI k, v') ∧ TLs u' v' n s b k ∧ (k = 1 → 2 * S ≤ 120 + s) ∧ t ≤ s ∧ PFo u' v' n s S R NC NR o B F Kc Kr ∧ PY u u' v v' S R NC NR Kc Kr ∧ Fr QA v v') ∨ (fX2_next u = some (zI 1, u') ∧ fX12_look v = some (zI (-1), v') ∧ FQf u u' v v' S) := by
  obtain ⟨⟨m, h1⟩, h2, h3, h4, h5⟩ := h
  obtain ⟨u', v', hh⟩ := px_next h1
  have htn := PQ_n h1
  refine ⟨u', v', ?_⟩
  rcases hh with ⟨s, b, k, a1, a2, a3, a4, a5, a6, a7⟩ | ⟨a1, a2, a3⟩
  · exact Or.inl ⟨s, b, k, a1, a2, a3, a4, a5, ⟨⟨m, a6⟩, by rw [Fr_I a7.2.2.2.2.2.1 (by simp [PA, PT])]; exact h2, by rw [Fr_I a7.2.2.2.2.2.2 (by simp [QA, QT])]; exact h3, by omega, by omega⟩, PX_PY a7, a7.2.2.2.2.2.2⟩
  · exact Or.inr ⟨a1, a2, FQ_FQf h2 (by omega) a3⟩
theorem PF_bits {u v : St} {n t S R NC NR o : Nat} {B : Nat → Nat} {F : List Nat} {Kc Kr : Nat} (h : PFo u v n t S R NC NR o B F Kc Kr) : I u 4 4 = 0 ∧ I v 100 21 = 0 ∧ I u 4 3 = o ∧ I v 100 37 = o ∧ o ≤ 30 ∧ n ≤ 1500 ∧ t ≤ n ∧ R ≤ t ∧ SYT u v S ∧ NC ≤ t := by
  obtain ⟨⟨m, h1⟩, _⟩ := h
  have := PQ_n h1
  obtain ⟨p1, p2, p3, p4, p5, p6, p7, p8, p9, p10, p11, p12, p13, p14, p15, _⟩ := h1
  exact ⟨p3, p4, p5, p6, p7, this.1, this.2.1, this.2.2, p8, p14⟩
/-- the token of a fault at which both sides fail -/
theorem FQf_fail {u u' v v' : St} {S Kc : Nat} (f3 : FLT u' v') (f4 : Fr (fun k i => k == 4 && (i == 4 || i == 5)) u u') (f5 : Fr (fun k i => k == 100 && (i == 21 || i == 22)) v v') (hS : SYT u v S) (h4 : I u 3 4 = Kc) (hK : Kc ≤ 1500) : FQf u u' v v' S := ⟨f3, ⟨S, Nat.le_refl _, SYT_fr f4 f5 rfl (fun k i hk => by simp; omega) rfl (fun k i hk => by simp; omega) hS⟩, SKp_fr f4 f5 (fun k i hk => by simp; omega) (fun i => by simp), by rw [Fr_I f4 rfl, h4]; omega, by rw [Fr_I f4 rfl, h4]; omega, Fr_up2 (fun k i hk => by simp at hk; simp [PAf, PA]; omega) f4, Fr_up2 (fun k i hk => by simp at hk; simp [QAf, QA, QT]; omega) f5⟩
theorem Qat_QAf : ∀ k i, (QA k i || Qvs k i || k == 114 || k == 115 || k == 116 || (k == 100 && i == 28)) = true → QAf k i = true := by
  intro k i h
  simp only [Bool.or_eq_true] at h
  simp only [QAf, Bool.or_eq_true]
  rcases h with ((((h | h) | h) | h) | h) | h <;> simp [h]
theorem Qvn_QAf : ∀ k i, (Qvs k i || k == 114 || k == 115 || k == 116 || (k == 100 && i == 28)) = true → QAf k i = true := by
  intro k i h
  simp only [Bool.or_eq_true] at h
  simp only [QAf, Bool.or_eq_true]
  rcases h with (((h | h) | h) | h) | h <;> simp [h]
/-- an atom -/
theorem un_atom {grp : Nat → Int32 → St → Option (Int32 × St)} {n o : Nat} (hG : GP1 grp n o) {u v : St} {s b S R NC NR : Nat} {B : Nat → Nat} {F : List Nat} {Kc Kr : Nat} {vs : List Nat} (h : PFo u v n s S R NC NR o B F Kc Kr) (hL : TLs u v n s b 1) (hS1 : 2 * S ≤ 120 + s) (hV : VS v vs) (hvs : vs.length < 2000) : ∃ (u' : St) (r : Nat), (lt (gI u 3 6 : Int32) fun x40 => b2 (grp 2 1 u) fun r42 u41 => b2 (fX7_add 0 x40 (gI u41 3 6) u41) fun r44 u43 => some (r44, u43)) = some (zI r, u') ∧ ((∃ (v' : St) (t' S' R' NC' NR' : Nat) (F' : List Nat) (j w : Nat) (occ : List Nat), (lt (gI v 100 33 : Int32) fun x26 => bd (fX12_readAtom v) fun u27 => b2 (fX12_node 15 x26 (gI u27 100 33) u27) fun r29 u28 => bd (fX12_give r29 u28) fun u30 => some u30) = some v' ∧ PFo u' v' n t' S' R' NC' NR' o B F' (Kc + 1) (Kr + 1) ∧ VS v' (j :: vs) ∧ PY u u' v v' S R NC NR Kc Kr ∧ Fr (fun k i => QA k i || Qvs k i || k == 114 || k == 115 || k == 116 || (k == 100 && i == 28)) v v' ∧ s < t' ∧ S ≤ S' ∧ R ≤ R' ∧ NC ≤ NC' ∧ NR ≤ NR' ∧ IS u' v' S' R' NC' NR' (Kc + 1) Kr (Kr + 1) 1 r j w 0 0 0 1 occ ∧ F' = addF B F occ ∧ 1 ≤ w) ∨ (∃ v', (lt (gI v 100 33 : Int32) fun x26 => bd (fX12_readAtom v) fun u27 => b2 (fX12_node 15 x26 (gI u27 100 33) u27) fun r29 u28 => bd (fX12_give r29 u28) fun u30 => some u30) = some v' ∧ FQf u u' v v' S ∧ r < 1501)) := by
  obtain ⟨⟨m, h1⟩, h2, h3, h4, h5⟩ := h
  have htn := PQ_n h1
  have hR : I u 3 6 = R := h1.2.2.2.2.2.2.2.2.1
  have h33 : I v 100 33 = R := h1.2.2.2.2.2.2.2.2.2.1
  have Fv : Fr (fun k i => k == 100 && i == 43) v (uI v 100 43 (zI 0)) := Fr_up rfl (Fr_rfl _ _)
  have hPQ0 : PQ u (uI v 100 43 (zI 0)) n s S R NC NR o 0 B F := PQ_om (Fr_rfl (fun _ _ => false) u) Fv (fun _ _ _ => rfl) (fun k i hk => by simp; omega) h1.2.2.2.2.1 (by rw [Fr_I Fv rfl]; exact h1.2.2.2.2.2.1) (I_uI1 _ _ _ _ (by decide) (by decide)) h1.2.2.2.2.2.2.1 h1
  have hL0 : TLs u (uI v 100 43 (zI 0)) n s b 1 := TLs_fr (Fr_rfl (fun _ _ => false) u) Fv (fun _ => rfl) (fun _ => rfl) (fun i hi => by simp; omega) hL
  obtain ⟨u1, g1, g2⟩ := hG u _ s S R NC NR b B F hPQ0 hL0 hS1
  have hrA : fX12_readAtom v = BJ FU (uI v 100 43 (zI 0)) := by
    unfold fX12_readAtom BJ fX12_beginTerm
    rw [lt_e, show (0 : Int32) = zI 0 from rfl, (next_same hL0 hPQ0.2.2.1 hPQ0.2.2.2.1).2, b2_s, gI_z _ 100 43, I_uI1 _ _ _ _ (by decide) (by decide), if_pos (by decide)]
    rfl
  rcases g2 with ⟨v1, N, t', S', R', NC', NR', F', q1, q2, q3, q4, q5, q6, q7, q8, q9, q10, q11, q12, q13⟩ | ⟨v1, N, q1, q2, q3⟩
  · have ht' := PQ_n q3
    have hBJ : BJ FU (uI v 100 43 (zI 0)) = some v1 := by
      have hq := q2 (FU - N)
      rw [show FU - N + N = FU by unfold FU; omega] at hq
      have hq2 : BJ FU (uI v 100 43 (zI 0)) = fX12_readAtom_L0 (FU - N) 0 1 v1 := hq
      rw [hq2]
      obtain ⟨G', hG'⟩ : ∃ G', FU - N = G' + 1 := ⟨FU - N - 1, by unfold FU; omega⟩
      have e43 : I v1 100 43 = ((0 : Nat) : Int) := q3.2.2.2.2.2.2.2.2.2.2.2.2.2.2.2.2.1
      have e21 := q3.2.2.2.1
      rw [hG']
      have sx : fX12_readAtom_L0 (G' + 1) 0 1 v1 = fX12_readAtom_L0_0 (fX12_readAtom_L0 G') 1 v1 := rfl
      rw [sx]
      unfold fX12_readAtom_L0_0
      rw [gI_z v1 100 21, e21, if_pos (show zI 0 = 0 from rfl), gI_z v1 100 43, e43, if_pos (by decide)]
    have k4 : I u1 3 4 = Kc := by rw [Fr_I q4.2.2.2.2.2.1 (by simp [PA, PT])]; exact h2
    have k6 : I u1 3 6 = R' := q3.2.2.2.2.2.2.2.2.1
    have k33 : I v1 100 33 = R' := q3.2.2.2.2.2.2.2.2.2.1
    have k28 : I v1 100 28 = Kr := by rw [Fr_I q4.2.2.2.2.2.2 (by simp [QA, QT]), Fr_I Fv rfl]; exact h3
    obtain ⟨u2, n1, n2, n3, n4, n5, n6, n7, n8⟩ := cnode_gen u1 Kc 0 R R' ((R' : Int) - R) (by omega) k4 (by decide) (by decide) (by omega) (by omega) (by omega) (by omega) (by omega) (by omega) (fun w _ => wgh_atom R R' w)
    obtain ⟨v2, m1, m2, m3, m4, m5, m6, m7⟩ := rnode_spec v1 Kr 15 R R' (by omega) k28 (by decide) (by decide) (by omega) (by omega) (by omega) (by omega)
    have hV2 : VS v2 vs := VS_fr m7 (fun _ => by simp) (by simp) (VS_fr q4.2.2.2.2.2.2 (fun _ => by simp [QA, QT]) (by simp [QA, QT]) (VS_fr Fv (fun _ => by simp) (by simp) hV))
    obtain ⟨v3, p1, p2, p3⟩ := give_spec v2 vs Kr (by omega) hV2 (by omega)
    have hPQ3 : PQ u2 v3 n t' S' R' NC' NR' o 0 B F' := PQ_fr (Q := fun k i => Qvs k i || k == 114 || k == 115 || k == 116 || (k == 100 && i == 28)) n8 (Fr_tr (Fr_up2 (fun k i hk => by simp at hk; simp; omega) m7) (Fr_up2 (fun k i hk => by simp [hk]) p3)) (fun k i hk => by simp [Pnd]; omega) (fun k i hk => by simp [Qvs]; omega) q3
    have hZ : PZ u1 u2 v1 v3 S' R' NC' NR' := PZ_fr (Q := fun k i => Qvs k i || k == 114 || k == 115 || k == 116 || (k == 100 && i == 28)) n8 (Fr_tr (Fr_up2 (fun k i hk => by simp at hk; simp; omega) m7) (Fr_up2 (fun k i hk => by simp [hk]) p3)) (fun k i hk => by simp [Pnd]; omega) (fun k i hk => by simp [Qvs]; omega)
    have hFv : Fr (fun k i => QA k i || Qvs k i || k == 114 || k == 115 || k == 116 || (k == 100 && i == 28)) v v3 := Fr_tr (Fr_up2 (fun k i hk => by simp at hk; simp [QA]; omega) Fv) (Fr_tr (Fr_up2 (fun k i hk => by simp [hk]) q4.2.2.2.2.2.2) (Fr_tr (Fr_up2 (fun k i hk => by simp at hk; simp; omega) m7) (Fr_up2 (fun k i hk => by simp [hk]) p3)))
    have hwc : I u2 36 Kc = cw (R' - R) := by rw [n6]; unfold cw; rw [if_pos (by omega), if_pos (by omega)]; omega
    refine ⟨u2, Kc, ?_, Or.inl ⟨v3, t', S', R', NC', NR', F', Kr, R' - R, vocc u2 (R' - R) R, ?_, ⟨⟨0, hPQ3⟩, n2, ?_, by omega, by omega⟩, p2, ⟨PZ_tr q6 (by omega) q8 q9 (PZ_tr (Nat.le_refl S) (Nat.le_refl R) (Nat.le_refl NC) (Nat.le_refl NR) (PZ_fr (Fr_rfl (fun _ _ => false) u) Fv (fun _ _ _ => rfl) (fun k i hk => by simp; omega)) (PX_PZ q4)) hZ, fun k i hi hk => ?_, fun k j hj hk => ?_, fun j hj => ?_, Fr_tr (Fr_up2 (fun k i hk => by simp [PAf, hk]) q4.2.2.2.2.2.1) (Fr_up2 (fun k i hk => by simp [PAf, hk]) n8), Fr_up2 Qat_QAf hFv⟩, hFv, q5, q6, by omega, q8, q9, ⟨by omega, Nat.le_refl _, by omega, hwc, Or.inl ⟨R, R', q7, Nat.le_refl _, n3, ?_, n4, n5, ?_, ?_, TRM_pz (Nat.le_refl _) (Nat.le_refl _) (Nat.le_refl _) (Nat.le_refl _) hZ q10, by rw [(hZ.2.1 R q7).1]; exact q12, rfl, rfl, rfl, rfl, rfl, rfl⟩⟩, ?_, by omega⟩⟩
    · rw [gI_z u 3 6, hR, lt_e, show (1 : Int32) = zI 1 from rfl, g1, b2_s, gI_z u1 3 6, k6, show (0 : Int32) = zI 0 from rfl, n1, b2_s]
    · rw [gI_z v 100 33, h33, lt_e, hrA, hBJ, bd_s, gI_z v1 100 33, k33, show (15 : Int32) = zI 15 from rfl, m1, b2_s, p1, bd_s]
    · rw [Fr_I p3 rfl]; exact m2
    · rw [n7 k i (by omega) hk, Fr_I q4.2.2.2.2.2.1 (by simp [PA, PT]; omega)]
    · rw [Fr_I p3 (by simp [Qvs]; omega), m6 k j (by omega) hk, Fr_I q4.2.2.2.2.2.2 (by simp [QA, QT]; omega), Fr_I Fv (by simp; omega)]
    · rw [Fr_J p3 (by simp [Qvs]), Fr_J m7 (by simp), Fr_J q4.2.2.2.2.2.2 (by simp [QA, QT]), Fr_J Fv (by simp)]
    · rw [Fr_I p3 (by simp [Qvs])]; exact m3
    · rw [Fr_I p3 (by simp [Qvs])]; exact m4
    · rw [Fr_I p3 (by simp [Qvs])]; exact m5
    · rw [q11]; congr 1; exact (vocc_eq _ _ (fun i h1 h2 => (hZ.2.1 i (by omega)).1)).symm
  · have hBJ : BJ FU (uI v 100 43 (zI 0)) = some v1 := by
      have := q2 (FU - N)
      rw [show FU - N + N = FU by unfold FU; omega] at this
      exact this
    have hne := FLT_ne q3.1
    have k4 : I u1 3 4 = Kc := by rw [Fr_I q3.2.2.2.1 (by simp [PA, PT])]; exact h2
    have k28 : I v1 100 28 = Kr := by rw [Fr_I q3.2.2.2.2 (by simp [QA, QT]), Fr_I Fv rfl]; exact h3
    obtain ⟨u2, r, n1, n2, n3, n4, n5⟩ := cnode_flt u1 0 (zI R) (gI u1 3 6) 0 0 (Or.inl rfl) (by omega) (by omega)
    have l33 := I_lo v1 100 33
    have h33' := I_hi v1 100 33
    obtain ⟨v2, m1, m2, m3, m4, m5, m6, m7⟩ := rnode_spec v1 Kr 15 R (I v1 100 33) (by omega) k28 (by decide) (by decide) (by omega) (by omega) l33 h33'
    have hV2 : VS v2 vs := VS_fr m7 (fun _ => by simp) (by simp) (VS_fr q3.2.2.2.2 (fun _ => by simp [QA, QT]) (by simp [QA, QT]) (VS_fr Fv (fun _ => by simp) (by simp) hV))
    obtain ⟨v3, p1, p2, p3⟩ := give_spec v2 vs Kr (by omega) hV2 (by omega)
    have F3 : Fr (fun k i => Qvs k i || k == 114 || k == 115 || k == 116 || (k == 100 && i == 28)) v1 v3 := Fr_tr (Fr_up2 (fun k i hk => by simp at hk; simp; omega) m7) (Fr_up2 (fun k i hk => by simp [hk]) p3)
    obtain ⟨⟨ff, pp, b1, b2, b3, b4, b5, b6⟩, ⟨S2, a2, a3⟩, a4, a5, a6⟩ := q3
    refine ⟨u2, r, ?_, Or.inr ⟨v3, ?_, ⟨⟨ff, pp, b1, b2, by rw [Fr_I n5 rfl]; exact b3, by rw [Fr_I F3 (by simp [Qvs])]; exact b4, by rw [Fr_I n5 rfl]; exact b5, by rw [Fr_I F3 (by simp [Qvs])]; exact b6⟩, ⟨S2, a2, SYT_fr n5 F3 rfl (fun k i hk => by simp [Pnd]; omega) (by simp [Qvs]) (fun k i hk => by simp [Qvs]; omega) a3⟩, SKp_tr (Nat.le_refl S) (SKp_tr (Nat.le_refl S) (SKp_fr (Fr_rfl (fun _ _ => false) u) Fv (fun _ _ _ => rfl) (fun _ => by simp)) a4) (SKp_fr n5 F3 (fun k i hk => by simp [Pnd]; omega) (fun _ => by simp [Qvs])), n3, n4, Fr_tr (Fr_up2 (fun k i hk => by simp [PAf, hk]) a5) (Fr_up2 (fun k i hk => by simp [PAf, hk]) n5), Fr_tr (Fr_up2 (fun k i hk => by simp at hk; simp [QAf, QA]; omega) Fv) (Fr_tr (Fr_up2 (fun k i hk => by simp [QAf, hk]) a6) (Fr_up2 Qvn_QAf F3))⟩, n2⟩⟩
    · rw [gI_z u 3 6, hR, lt_e, show (1 : Int32) = zI 1 from rfl, g1, b2_s, show (0 : Int32) = zI ((0 : Nat) : Int) from rfl, n1, b2_s]
    · rw [gI_z v 100 33, h33, lt_e, hrA, hBJ, bd_s, gI_z v1 100 33, show (15 : Int32) = zI 15 from rfl, m1, b2_s, p1, bd_s]
