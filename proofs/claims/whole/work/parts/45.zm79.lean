/-! reading: the state of the parser -/
def TKS (u v : St) (n t S : Nat) : Prop := (TNs u v n t ∧ 2 * S ≤ 121 + t ∧ (t < n → isW (byt u t) → 2 * S ≤ 120 + t)) ∨ ∃ b k, TLs u v n t b k ∧ 2 * S ≤ 121 + t ∧ (k = 1 → 2 * S ≤ 120 + t)
theorem TKS_TKp {u v : St} {n t S : Nat} (h : TKS u v n t S) : TKp u v n t := by
  rcases h with ⟨h, _⟩ | ⟨b, k, h, _⟩
  · exact Or.inl h
  · exact Or.inr ⟨b, k, h⟩
theorem TKS_le {u v : St} {n t S : Nat} (h : TKS u v n t S) : t ≤ n := by
  rcases h with ⟨h, _⟩ | ⟨b, k, h, _⟩
  · exact h.2.2.2.2
  · have := h.2.2.2.2.2.2.2.2.2; omega
theorem TNs_fr {P Q : Nat → Nat → Bool} {u u' v v' : St} {n b : Nat} (hu : Fr P u u') (hv : Fr Q v v') (h1 : ∀ i, P 1 i = false) (h2 : ∀ i, (i = 23 ∨ i = 24 ∨ i = 25 ∨ i = 26 ∨ i = 27) → Q 100 i = false) (h : TNs u v n b) : TNs u' v' n b := by
  obtain ⟨a1, a2, a3, a4, a5⟩ := h
  exact ⟨by rw [Fr_I hu (h1 6)]; exact a1, by rw [Fr_I hv (h2 24 (by simp))]; exact a2, by rw [Fr_I hu (h1 5)]; exact a3, by rw [Fr_I hv (h2 23 (by simp))]; exact a4, a5⟩
theorem TLs_fr {P Q : Nat → Nat → Bool} {u u' v v' : St} {n s b k : Nat} (hu : Fr P u u') (hv : Fr Q v v') (h1 : ∀ i, P 1 i = false) (h14 : ∀ i, P 14 i = false) (h2 : ∀ i, (i = 23 ∨ i = 24 ∨ i = 25 ∨ i = 26 ∨ i = 27) → Q 100 i = false) (h : TLs u v n s b k) : TLs u' v' n s b k := by
  obtain ⟨a1, a2, a3, a4, a5, a6, a7, a8, a9, a10, a11, a12, a13⟩ := h
  exact ⟨by rw [Fr_I hu (h1 6)]; exact a1, by rw [Fr_I hv (h2 24 (by simp))]; exact a2, by rw [Fr_I hu (h1 2)]; exact a3, by rw [Fr_I hv (h2 26 (by simp))]; exact a4, by rw [Fr_I hu (h1 5)]; exact a5, by rw [Fr_I hv (h2 23 (by simp))]; exact a6, by rw [Fr_I hu (h1 4)]; exact a7, by rw [Fr_I hv (h2 25 (by simp))]; exact a8, a9, a10, a11, a12, fun hk => by rw [Fr_J hu (h1 3), Fr_J hv (h2 27 (by simp)), byt_fr hu h14, byt_fr hu h14]; exact a13 hk⟩
theorem TKS_fr {P Q : Nat → Nat → Bool} {u u' v v' : St} {n t S : Nat} (hu : Fr P u u') (hv : Fr Q v v') (h1 : ∀ i, P 1 i = false) (h14 : ∀ i, P 14 i = false) (h2 : ∀ i, (i = 23 ∨ i = 24 ∨ i = 25 ∨ i = 26 ∨ i = 27) → Q 100 i = false) (h : TKS u v n t S) : TKS u' v' n t S := by
  rcases h with ⟨h, h', h''⟩ | ⟨b, k, h, h', h''⟩
  · exact Or.inl ⟨TNs_fr hu hv h1 h2 h, h', by rw [byt_fr hu h14]; exact h''⟩
  · exact Or.inr ⟨b, k, TLs_fr hu hv h1 h14 h2 h, h', h''⟩
/-- free variables as they come -/
def addF (B : Nat → Nat) (F : List Nat) : List Nat → List Nat
  | [] => F
  | x :: l => addF B (if B x = 0 ∧ x ∉ F then F ++ [x] else F) l
theorem addF_app (B : Nat → Nat) (l l' : List Nat) : ∀ F, addF B F (l ++ l') = addF B (addF B F l) l' := by
  induction l with
  | nil => intro F; rfl
  | cons x l ih => intro F; exact ih _
def FB (u : St) (NC : Nat) (B : Nat → Nat) (F : List Nat) : Prop := (∀ x, x < NC → I u 39 x = B x) ∧ (∀ x, NC ≤ x → B x = 0) ∧ I u 3 12 = F.length ∧ (∀ i x : Nat, F[i]? = some x → I u 41 i = x ∧ x < NC) ∧ F.Nodup ∧ (∀ x, x < NC → I u 40 x = if x ∈ F then 1 else 0) ∧ (∀ x, B x < 1000000)
theorem FB_len {u : St} {NC : Nat} {B : Nat → Nat} {F : List Nat} (h : FB u NC B F) : F.length ≤ NC := ph NC F h.2.2.2.2.1 (fun x hx => by
  obtain ⟨i, hi, e⟩ := List.getElem_of_mem hx
  exact (h.2.2.2.1 i x (by rw [List.getElem?_eq_getElem hi, e])).2)
theorem FB_fr {P : Nat → Nat → Bool} {u u' : St} {NC : Nat} {B : Nat → Nat} {F : List Nat} (hu : Fr P u u') (h1 : ∀ i, P 39 i = false) (h2 : ∀ i, P 40 i = false) (h3 : ∀ i, P 41 i = false) (h4 : P 3 12 = false) (h : FB u NC B F) : FB u' NC B F := by
  obtain ⟨a1, a2, a3, a4, a5, a6, a7⟩ := h
  exact ⟨fun x hx => by rw [Fr_I hu (h1 x)]; exact a1 x hx, a2, by rw [Fr_I hu h4]; exact a3, fun i x hx => by rw [Fr_I hu (h3 i)]; exact a4 i x hx, a5, fun x hx => by rw [Fr_I hu (h2 x)]; exact a6 x hx, a7⟩
/-- a cell of the tree, both sides -/
def CEs (u v : St) (S i : Nat) : Prop := ∃ s : Nat, s < S ∧ 0 ≤ I u 16 s ∧ I u 37 i = 8 * s + I u 16 s ∧ I v 118 i = s
def CEv (u v : St) (NC NR i : Nat) : Prop := ∃ x y : Nat, x < NC ∧ y < NR ∧ I u 37 i = -1 - (x : Int) ∧ I v 118 i = -1 - (y : Int) ∧ NmR (J u 38 x) (J v 119 y)
def CEd (u v : St) (S NC NR i : Nat) : Prop := CEs u v S i ∨ CEv u v NC NR i
def arc (z : Int) : Nat := if z < 0 then 0 else (z % 8).toNat
def arl (u : St) : Nat → Nat → List Nat
  | 0, _ => []
  | k + 1, a => arc (I u 37 a) :: arl u k (a + 1)
def vocc (u : St) : Nat → Nat → List Nat
  | 0, _ => []
  | k + 1, a => if I u 37 a < 0 then (-1 - I u 37 a).toNat :: vocc u k (a + 1) else vocc u k (a + 1)
/-- a row of arities that makes k terms -/
def WT : List Nat → Nat → Prop
  | [], k => k = 0
  | a :: l, k => 0 < k ∧ WT l (k - 1 + a)
theorem WT_app (l : List Nat) : ∀ (l' : List Nat) (k k' : Nat), WT l k → WT l' k' → WT (l ++ l') (k + k') := by
  induction l with
  | nil => intro l' k k' h h'; have : k = 0 := h; subst this; rw [Nat.zero_add]; exact h'
  | cons a l ih =>
    intro l' k k' h h'
    refine ⟨by have := h.1; omega, ?_⟩
    have := ih l' (k - 1 + a) k' h.2 h'
    rw [show k + k' - 1 + a = k - 1 + a + k' by have := h.1; omega]; exact this
theorem arl_eq {u u' : St} (k : Nat) : ∀ a, (∀ i, a ≤ i → i < a + k → I u' 37 i = I u 37 i) → arl u' k a = arl u k a := by
  induction k with
  | zero => intro a _; rfl
  | succ k ih => intro a h; simp only [arl]; rw [h a (by omega) (by omega), ih (a + 1) (fun i h1 h2 => h i (by omega) (by omega))]
theorem vocc_eq {u u' : St} (k : Nat) : ∀ a, (∀ i, a ≤ i → i < a + k → I u' 37 i = I u 37 i) → vocc u' k a = vocc u k a := by
  induction k with
  | zero => intro a _; rfl
  | succ k ih => intro a h; simp only [vocc]; rw [h a (by omega) (by omega), ih (a + 1) (fun i h1 h2 => h i (by omega) (by omega))]
theorem arl_app (u : St) (k k' : Nat) : ∀ a, arl u (k + k') a = arl u k a ++ arl u k' (a + k) := by
  induction k with
  | zero => intro a; rw [Nat.zero_add, Nat.add_zero]; rfl
  | succ k ih => intro a; rw [Nat.succ_add]; simp only [arl, List.cons_append]; rw [ih (a + 1), show a + 1 + k = a + (k + 1) by omega]
theorem vocc_app (u : St) (k k' : Nat) : ∀ a, vocc u (k + k') a = vocc u k a ++ vocc u k' (a + k) := by
  induction k with
  | zero => intro a; rw [Nat.zero_add, Nat.add_zero]; rfl
  | succ k ih =>
    intro a; rw [Nat.succ_add]; simp only [vocc]; rw [ih (a + 1), show a + 1 + k = a + (k + 1) by omega]
    by_cases h : I u 37 a < 0
    · rw [if_pos h, if_pos h]; rfl
    · rw [if_neg h, if_neg h]
def TRM (u v : St) (S NC NR a b k : Nat) : Prop := (∀ i, a ≤ i → i < b → CEd u v S NC NR i) ∧ WT (arl u (b - a) a) k
/-- the parser's state, both sides, no fault -/
def PQ (u v : St) (n t S R NC NR o m : Nat) (B : Nat → Nat) (F : List Nat) : Prop := TXs u v n ∧ TKS u v n t S ∧ I u 4 4 = 0 ∧ I v 100 21 = 0 ∧ I u 4 3 = o ∧ I v 100 37 = o ∧ o ≤ 30 ∧ SYT u v S ∧ I u 3 6 = R ∧ I v 100 33 = R ∧ NMc u NC ∧ NMf v NR ∧ R ≤ t ∧ NC ≤ t ∧ NR ≤ t ∧ FB u NC B F ∧ I v 100 43 = m ∧ ∀ y, y < NR → ∃ x, x < NC ∧ NmR (J u 38 x) (J v 119 y)
/-- what the parser of terms changes -/
def PA : Nat → Nat → Bool := fun k i => PT k i || (k == 2 && i == 3) || k == 15 || k == 16 || k == 17 || (k == 3 && (i == 6 || i == 10 || i == 12)) || k == 37 || k == 38 || k == 39 || k == 40 || k == 41 || (k == 4 && (i == 3 || i == 4 || i == 5))
def QA : Nat → Nat → Bool := fun k i => QT k i || (k == 100 && (i == 3 || i == 33 || i == 35 || i == 37 || i == 43)) || k == 102 || k == 103 || k == 104 || k == 118 || k == 119 || k == 123 || k == 124 || k == 125
def PX (u u' v v' : St) (S R NC NR m : Nat) : Prop := SKp u u' v v' S ∧ (∀ i, i < R → I u' 37 i = I u 37 i ∧ I v' 118 i = I v 118 i) ∧ (∀ x, x < NC → J u' 38 x = J u 38 x) ∧ (∀ y, y < NR → J v' 119 y = J v 119 y) ∧ (∀ i, i < m → I v' 123 i = I v 123 i ∧ I v' 124 i = I v 124 i ∧ I v' 125 i = I v 125 i) ∧ Fr PA u u' ∧ Fr QA v v'
theorem PX_rfl (u v : St) (S R NC NR m : Nat) : PX u u v v S R NC NR m := ⟨SKp_rfl _ _ _, fun _ _ => ⟨rfl, rfl⟩, fun _ _ => rfl, fun _ _ => rfl, fun _ _ => ⟨rfl, rfl, rfl⟩, Fr_rfl _ _, Fr_rfl _ _⟩
theorem PX_tr {u u' u'' v v' v'' : St} {S R NC NR m S' R' NC' NR' m' : Nat} (hS : S ≤ S') (hR : R ≤ R') (hC : NC ≤ NC') (hN : NR ≤ NR') (hm : m ≤ m') (h : PX u u' v v' S R NC NR m) (h' : PX u' u'' v' v'' S' R' NC' NR' m') : PX u u'' v v'' S R NC NR m := by
  obtain ⟨a1, a2, a3, a4, a5, a6, a7⟩ := h
  obtain ⟨b1, b2, b3, b4, b5, b6, b7⟩ := h'
  refine ⟨SKp_tr hS a1 b1, fun i hi => ⟨((b2 i (by omega)).1).trans (a2 i hi).1, ((b2 i (by omega)).2).trans (a2 i hi).2⟩, fun x hx => (b3 x (by omega)).trans (a3 x hx), fun y hy => (b4 y (by omega)).trans (a4 y hy), fun i hi => ?_, Fr_tr a6 b6, Fr_tr a7 b7⟩
  obtain ⟨c1, c2, c3⟩ := a5 i hi
  obtain ⟨d1, d2, d3⟩ := b5 i (by omega)
  exact ⟨d1.trans c1, d2.trans c2, d3.trans c3⟩
theorem PX_fr {P Q : Nat → Nat → Bool} {u u' v v' : St} {S R NC NR m : Nat} (hu : Fr P u u') (hv : Fr Q v v') (h1 : ∀ k i, P k i = true → PA k i = true) (h2 : ∀ k i, Q k i = true → QA k i = true) (h3 : ∀ k i, (k = 15 ∨ k = 16 ∨ k = 17 ∨ k = 37 ∨ k = 38) → P k i = false) (h4 : ∀ k i, (k = 102 ∨ k = 118 ∨ k = 119 ∨ k = 123 ∨ k = 124 ∨ k = 125) → Q k i = false) : PX u u' v v' S R NC NR m := ⟨SKp_fr hu hv (fun k i hk => h3 k i (by omega)) (fun i => h4 102 i (by simp)), fun i _ => ⟨Fr_I hu (h3 37 i (by simp)), Fr_I hv (h4 118 i (by simp))⟩, fun x _ => Fr_J hu (h3 38 x (by simp)), fun y _ => Fr_J hv (h4 119 y (by simp)), fun i _ => ⟨Fr_I hv (h4 123 i (by simp)), Fr_I hv (h4 124 i (by simp)), Fr_I hv (h4 125 i (by simp))⟩, Fr_up2 h1 hu, Fr_up2 h2 hv⟩
theorem CEd_px {u u' v v' : St} {S R NC NR m S' NC' NR' i : Nat} (hS : S ≤ S') (hC : NC ≤ NC') (hN : NR ≤ NR') (hi : i < R) (hX : PX u u' v v' S R NC NR m) (h : CEd u v S NC NR i) : CEd u' v' S' NC' NR' i := by
  obtain ⟨a1, a2, a3, a4, _⟩ := hX
  rcases h with ⟨s, b1, b2, b3, b4⟩ | ⟨x, y, b1, b2, b3, b4, b5⟩
  · left
    have c := (a1 s b1).2.2 b2
    exact ⟨s, by omega, by rw [c.1]; exact b2, by rw [(a2 i hi).1, c.1]; exact b3, by rw [(a2 i hi).2]; exact b4⟩
  · right
    exact ⟨x, y, by omega, by omega, by rw [(a2 i hi).1]; exact b3, by rw [(a2 i hi).2]; exact b4, by rw [a3 x b1, a4 y b2]; exact b5⟩
theorem TRM_px {u u' v v' : St} {S R NC NR m S' NC' NR' a b k : Nat} (hS : S ≤ S') (hC : NC ≤ NC') (hN : NR ≤ NR') (hb : b ≤ R) (hX : PX u u' v v' S R NC NR m) (h : TRM u v S NC NR a b k) : TRM u' v' S' NC' NR' a b k := by
  refine ⟨fun i h1 h2 => CEd_px hS hC hN (by omega) hX (h.1 i h1 h2), ?_⟩
  by_cases hab : a ≤ b
  · rw [arl_eq (b - a) a (fun i h1 h2 => (hX.2.1 i (by omega)).1)]; exact h.2
  · have e : b - a = 0 := by omega
    have := h.2
    rw [e] at this ⊢; exact this
theorem vocc_px {u u' v v' : St} {S R NC NR m a k : Nat} (hb : a + k ≤ R) (hX : PX u u' v v' S R NC NR m) : vocc u' k a = vocc u k a := vocc_eq k a (fun i h1 h2 => (hX.2.1 i (by omega)).1)
/-- a fault came -/
def FQ (u u' v v' : St) (S : Nat) : Prop := FLT u' v' ∧ (∃ S', S ≤ S' ∧ SYT u' v' S') ∧ SKp u u' v v' S ∧ Fr PA u u' ∧ Fr QA v v'
theorem FLT_ne {u v : St} (h : FLT u v) : I u 4 4 ≠ 0 ∧ ¬ I v 100 21 ≤ 0 ∧ I v 100 21 ≠ 0 := by obtain ⟨f, p, a1, a2, a3, a4, _⟩ := h; omega
theorem FQ_tr {u u' u'' v v' v'' : St} {S S' R NC NR m : Nat} (hS : S ≤ S') (hX : PX u u' v v' S R NC NR m) (h : FQ u' u'' v' v'' S') : FQ u u'' v v'' S := by
  obtain ⟨a1, ⟨S2, a2, a3⟩, a4, a5, a6⟩ := h
  exact ⟨a1, ⟨S2, by omega, a3⟩, SKp_tr hS hX.1 a4, Fr_tr hX.2.2.2.2.2.1 a5, Fr_tr hX.2.2.2.2.2.2 a6⟩
/-- the class goes on behind a fault -/
theorem FQ_cls {P : Nat → Nat → Bool} {u u' u'' v v' : St} {S : Nat} (hF : Fr P u' u'') (h1 : ∀ k i, P k i = true → PA k i = true) (h2 : ∀ k i, (k = 15 ∨ k = 16 ∨ k = 17) → P k i = false) (h3 : P 2 3 = false) (h4 : P 4 4 = false ∧ P 4 5 = false) (h : FQ u u' v v' S) : FQ u u'' v v' S := by
  obtain ⟨⟨f, p, b1, b2, b3, b4, b5, b6⟩, ⟨S2, a2, a3⟩, a4, a5, a6⟩ := h
  refine ⟨⟨f, p, b1, b2, by rw [Fr_I hF h4.1]; exact b3, b4, by rw [Fr_I hF h4.2]; exact b5, b6⟩, ⟨S2, a2, SYT_fr hF (Fr_rfl (fun _ _ => false) v') h3 h2 rfl (fun _ _ _ => rfl) a3⟩, SKp_tr (Nat.le_refl S) a4 (SKp_fr hF (Fr_rfl (fun _ _ => false) v') h2 (fun _ => rfl)), Fr_tr a5 (Fr_up2 h1 hF), a6⟩
