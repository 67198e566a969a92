/-! reading: the reference's trees -/
theorem WT_neg (r : List Int) : ∀ (l : List Nat) (k : Nat), (∀ z, z ∈ r → z < 0) → WT l k → WT (r.map arc ++ l) (k + r.length) := by
  induction r with
  | nil => intro l k _ h; exact h
  | cons z r ih =>
    intro l k hz h
    have hz0 : arc z = 0 := by unfold arc; rw [if_pos (hz z (by simp))]
    refine ⟨by simp only [List.length_cons]; omega, ?_⟩
    have := ih l k (fun y hy => hz y (List.mem_cons_of_mem _ hy)) h
    show WT (r.map arc ++ l) _
    rw [hz0, show k + (z :: r).length - 1 + 0 = k + r.length by simp only [List.length_cons]; omega]; exact this
theorem litc_wt {u0 : St} {ρ : Nat → Int} {ar : List Int} {b : Nat} (har : ∀ z, z ∈ ar → z < 0) (k : Nat) : ∀ (a n : Nat), a + k = b → LOK u0 ρ ar a b → WT (arl u0 k a) n → WT ((litc u0 ρ ar k a).map arc) n := by
  induction k with
  | zero => intro a n _ _ h; exact h
  | succ k ih =>
    intro a n ha hO h
    simp only [litc, List.map_append]
    simp only [arl] at h
    obtain ⟨h1, h2⟩ := h
    have ihh := ih (a + 1) _ (by omega) (fun i q1 q2 => hO i (by omega) q2) h2
    unfold cof
    by_cases h0 : 0 ≤ I u0 37 a
    · rw [if_pos h0]; exact ⟨h1, ihh⟩
    · rw [if_neg h0]
      have hg := (hO a (Nat.le_refl _) (by omega)).2 (by omega)
      obtain ⟨m, hm⟩ : ∃ m, ρ (-1 - I u0 37 a).toNat = m := ⟨_, rfl⟩
      rw [hm] at hg ⊢
      have ha0 : arc (I u0 37 a) = 0 := by unfold arc; rw [if_pos (by omega)]
      rw [ha0] at ihh
      by_cases hm0 : m < 0
      · rw [if_pos hm0]
        have : arc m = 0 := by unfold arc; rw [if_pos hm0]
        refine ⟨h1, ?_⟩
        rw [this]; exact ihh
      · rw [if_neg hm0]
        have hg' : m % 8 ≤ 5 ∧ m % 8 ≤ ar.length := by rcases hg with h | h <;> omega
        have hl : (ar.take (m % 8).toNat).length = (m % 8).toNat := by rw [List.length_take]; omega
        have hamm : arc m = (m % 8).toNat := by unfold arc; rw [if_neg hm0]
        refine ⟨h1, ?_⟩
        show WT ((ar.take (m % 8).toNat).map arc ++ (litc u0 ρ ar k (a + 1)).map arc) (n - 1 + arc m)
        have := WT_neg (ar.take (m % 8).toNat) _ _ (fun z hz => har z (List.mem_of_mem_take hz)) ihh
        rw [hl] at this
        rw [hamm, show n - 1 + (m % 8).toNat = n - 1 + 0 + (m % 8).toNat by omega]; exact this
/-- the row of a literal's cells is a predicate with its arguments -/
def LG (lc : List Int) : Prop := WT (lc.map arc) 1 ∧ ∃ z l, lc = z :: l ∧ 0 ≤ z
def TRg (u0 v : St) (S nb nf MD : Nat) (G : List Cs) (g : Nat) (x : Cs) : Prop := (I v 130 g = 15 ∧ ∃ (ng : Int) (lc : List Int) (p : Nat), x = [[(ng, lc)]] ∧ I v 133 g = ng ∧ (ng = 0 ∨ ng = 1) ∧ I v 131 g = p ∧ I v 132 g = ((p + lc.length : Nat) : Int) ∧ p + lc.length ≤ MD ∧ RWl v 134 p (lc.map rcl) ∧ (∀ z, z ∈ lc → CVl u0 v S nb nf z) ∧ LG lc) ∨ (∃ (b : Bool) (a c : Nat) (y z : Cs), I v 130 g = (if b then 9 else 10) ∧ I v 131 g = a ∧ I v 132 g = c ∧ a < g ∧ c < g ∧ G[a]? = some y ∧ G[c]? = some z ∧ x = jn b y z)
theorem CVl_mono {u0 v v' : St} {S nb nf nf' : Nat} {z : Int} (h1 : ∀ i, i < nf - nb → I v' 105 i = I v 105 i) (hf : nf ≤ nf') (h : CVl u0 v S nb nf z) : CVl u0 v' S nb nf' z := by
  rcases h with h | h | ⟨f, a1, a2, a3, a4, a5⟩
  · exact Or.inl h
  · exact Or.inr (Or.inl h)
  · exact Or.inr (Or.inr ⟨f, a1, by omega, a3, a4, by rw [h1 _ (by omega)]; exact a5⟩)
theorem get_app {α : Type} {G Gx : List α} {g : Nat} {x : α} (h : G[g]? = some x) : (G ++ Gx)[g]? = some x := by
  have hl : g < G.length := by
    rcases Nat.lt_or_ge g G.length with h1 | h1
    · exact h1
    · rw [List.getElem?_eq_none h1] at h; cases h
  rw [List.getElem?_append_left hl]; exact h
theorem get_lt {α : Type} {G : List α} {g : Nat} {x : α} (h : G[g]? = some x) : g < G.length := by
  rcases Nat.lt_or_ge g G.length with h1 | h1
  · exact h1
  · rw [List.getElem?_eq_none h1] at h; cases h
theorem TRg_mono {u0 v v' : St} {S nb nf nf' MD MD' : Nat} {G Gx : List Cs} {g : Nat} {x : Cs} (h1 : ∀ i, i < nf - nb → I v' 105 i = I v 105 i) (hf : nf ≤ nf') (hM : MD ≤ MD') (h2 : ∀ k, (k = 130 ∨ k = 131 ∨ k = 132 ∨ k = 133) → I v' k g = I v k g) (h3 : ∀ i, i < MD → I v' 134 i = I v 134 i) (h : TRg u0 v S nb nf MD G g x) : TRg u0 v' S nb nf' MD' (G ++ Gx) g x := by
  rcases h with ⟨a1, ng, lc, p, a2, a3, a4, a5, a6, a7, a8, a9, a10⟩ | ⟨b, a, c, y, z, a1, a2, a3, a4, a5, a6, a7, a8⟩
  · exact Or.inl ⟨by rw [h2 130 (by simp)]; exact a1, ng, lc, p, a2, by rw [h2 133 (by simp)]; exact a3, a4, by rw [h2 131 (by simp)]; exact a5, by rw [h2 132 (by simp)]; exact a6, by omega, RWl_eq _ _ (fun i q1 q2 => h3 i (by simp only [List.length_map] at q2; omega)) a8, fun z hz => CVl_mono h1 hf (a9 z hz), a10⟩
  · exact Or.inr ⟨b, a, c, y, z, by rw [h2 130 (by simp)]; exact a1, by rw [h2 131 (by simp)]; exact a2, by rw [h2 132 (by simp)]; exact a3, a4, a5, get_app a6, get_app a7, a8⟩
def VSt (G : List Cs) : List Nat → List Cs → Prop
  | [], [] => True
  | g :: vs, x :: s => G[g]? = some x ∧ VSt G vs s
  | _, _ => False
theorem VSt_app {G : List Cs} (Gx : List Cs) (vs : List Nat) : ∀ s, VSt G vs s → VSt (G ++ Gx) vs s := by
  induction vs with
  | nil => intro s h; cases s with
    | nil => trivial
    | cons x s => exact h.elim
  | cons g vs ih =>
    intro s h
    cases s with
    | nil => exact h.elim
    | cons x s => exact ⟨get_app h.1, ih s h.2⟩
theorem VSt_len {G : List Cs} (vs : List Nat) : ∀ s, VSt G vs s → vs.length = s.length := by
  induction vs with
  | nil => intro s h; cases s with
    | nil => rfl
    | cons x s => exact h.elim
  | cons g vs ih =>
    intro s h
    cases s with
    | nil => exact h.elim
    | cons x s => simp only [List.length_cons]; rw [ih s h.2]
def TGs (u0 v : St) (S nb nf MD : Nat) (G : List Cs) : Prop := ∀ g x, G[g]? = some x → TRg u0 v S nb nf MD G g x
/-- the reference on its way through a formula -/
def RMk (u0 v : St) (S NC NR nb : Nat) (l : List (Int × Int)) (vs : List Nat) (el : List (Nat × Int)) (ar : List Int) (na nf W MD : Nat) (s G : List Cs) : Prop := TS v l ∧ VS v vs ∧ I v 100 47 = 0 ∧ I v 100 48 = W ∧ I v 100 49 = el.length ∧ ELl u0 v NR nb nf ar el ∧ NMx u0 v NC NR ∧ I v 100 55 = ar.length ∧ RWl v 129 0 (ar.map (fun z => -1 - z)) ∧ I v 100 53 = na ∧ I v 100 7 = nf ∧ I v 100 8 = nb ∧ I v 100 56 = G.length ∧ I v 100 61 = MD ∧ TGs u0 v S nb nf MD G ∧ VSt G vs s
/-- a new tree -/
theorem tree_spec {v : St} {g : Nat} (k a b c : Int) (hg : g < 6100) (h56 : I v 100 56 = g) (hk1 : -2147483648 ≤ k) (hk2 : k < 2147483648) (ha1 : -2147483648 ≤ a) (ha2 : a < 2147483648) (hb1 : -2147483648 ≤ b) (hb2 : b < 2147483648) (hc : c = 0 ∨ c = 1) : ∃ v', fX12_tree (zI k) (zI a) (zI b) (zI c) v = some (zI g, v') ∧ I v' 100 56 = ((g + 1 : Nat) : Int) ∧ I v' 130 g = k ∧ I v' 131 g = a ∧ I v' 132 g = b ∧ I v' 133 g = c ∧ (∀ q i, i ≠ g → (q = 130 ∨ q = 131 ∨ q = 132 ∨ q = 133) → I v' q i = I v q i) ∧ Fr (fun k i => k == 130 || k == 131 || k == 132 || k == 133 || (k == 100 && i == 56)) v v' := by
  refine ⟨uI (uI (uI (uI (uI v 100 56 (zI ((g + 1 : Nat) : Int))) 130 g (zI k)) 131 g (zI a)) 132 g (zI b)) 133 g (zI c), ?_, ?_, ?_, ?_, ?_, I_uI1 _ _ _ _ (by omega) (by omega), fun q i hi hq => ?_, Fr_up rfl (Fr_up rfl (Fr_up rfl (Fr_up rfl (Fr_up rfl (Fr_rfl _ _)))))⟩
  · unfold fX12_tree
    rw [gI_z v 100 56, h56, if_neg (by rw [z_lit, z_eq (by omega) (by omega) (by decide) (by decide)]; omega), show (1 : Int32) = zI 1 from rfl, z_add, lt_e, lt_e, show (g : Int) + 1 = ((g + 1 : Nat) : Int) by omega, st_z _ _ _ _ _ (by omega) (by omega), bd_s, st_z _ _ _ _ _ (by omega) (by omega), bd_s, st_z _ _ _ _ _ (by omega) (by omega), bd_s, zb_z hc, bd_s, st_z _ _ _ _ _ (by omega) (by omega), bd_s, Int.toNat_natCast]
  · rw [I_uI3 _ _ _ _ _ _ (by decide), I_uI3 _ _ _ _ _ _ (by decide), I_uI3 _ _ _ _ _ _ (by decide), I_uI3 _ _ _ _ _ _ (by decide), I_uI1 _ _ _ _ (by omega) (by omega)]
  · rw [I_uI3 _ _ _ _ _ _ (by decide), I_uI3 _ _ _ _ _ _ (by decide), I_uI3 _ _ _ _ _ _ (by decide), I_uI1 _ _ _ _ hk1 hk2]
  · rw [I_uI3 _ _ _ _ _ _ (by decide), I_uI3 _ _ _ _ _ _ (by decide), I_uI1 _ _ _ _ ha1 ha2]
  · rw [I_uI3 _ _ _ _ _ _ (by decide), I_uI1 _ _ _ _ hb1 hb2]
  · rcases hq with h | h | h | h <;> subst h
    · rw [I_uI3 _ _ _ _ _ _ (by decide), I_uI3 _ _ _ _ _ _ (by decide), I_uI3 _ _ _ _ _ _ (by decide), I_uI2 _ _ _ _ _ _ (by omega), I_uI3 _ _ _ _ _ _ (by decide)]
    · rw [I_uI3 _ _ _ _ _ _ (by decide), I_uI3 _ _ _ _ _ _ (by decide), I_uI2 _ _ _ _ _ _ (by omega), I_uI3 _ _ _ _ _ _ (by decide), I_uI3 _ _ _ _ _ _ (by decide)]
    · rw [I_uI3 _ _ _ _ _ _ (by decide), I_uI2 _ _ _ _ _ _ (by omega), I_uI3 _ _ _ _ _ _ (by decide), I_uI3 _ _ _ _ _ _ (by decide), I_uI3 _ _ _ _ _ _ (by decide)]
    · rw [I_uI2 _ _ _ _ _ _ (by omega), I_uI3 _ _ _ _ _ _ (by decide), I_uI3 _ _ _ _ _ _ (by decide), I_uI3 _ _ _ _ _ _ (by decide), I_uI3 _ _ _ _ _ _ (by decide)]
def QM : Nat → Nat → Bool := fun k i => k == 105 || k == 119 || k == 120 || k == 121 || k == 122 || (126 ≤ k && k ≤ 143) || (k == 100 && (i == 7 || i == 35 || i == 38 || i == 41 || i == 47 || i == 48 || i == 49 || i == 53 || i == 55 || i == 56 || i == 61 || i == 66 || i == 69 || i == 73))
/-- a tree comes onto the stack of values -/
theorem RMk_tree {u0 v v' : St} {S NC NR nb : Nat} {l : List (Int × Int)} {vs' : List Nat} {el : List (Nat × Int)} {ar : List Int} {na nf W' MD MD' : Nat} {s' G : List Cs} {x : Cs} (hF : Fr (fun k i => k == 122 || k == 130 || k == 131 || k == 132 || k == 133 || k == 134 || (k == 100 && (i == 41 || i == 47 || i == 48 || i == 56 || i == 61))) v v') (hT : TS v l) (h49 : I v 100 49 = el.length) (hE : ELl u0 v NR nb nf ar el) (hN : NMx u0 v NC NR) (h55 : I v 100 55 = ar.length) (hR : RWl v 129 0 (ar.map (fun z => -1 - z))) (h53 : I v 100 53 = na) (h7 : I v 100 7 = nf) (h8 : I v 100 8 = nb) (hG : TGs u0 v S nb nf MD G) (hV : VS v' (G.length :: vs')) (h47 : I v' 100 47 = 0) (h48 : I v' 100 48 = W') (h56 : I v' 100 56 = ((G.length + 1 : Nat) : Int)) (h61 : I v' 100 61 = MD') (hM : MD ≤ MD') (h134 : ∀ i, i < MD → I v' 134 i = I v 134 i) (h130 : ∀ q i, i ≠ G.length → (q = 130 ∨ q = 131 ∨ q = 132 ∨ q = 133) → I v' q i = I v q i) (hnew : TRg u0 v' S nb nf MD' (G ++ [x]) G.length x) (hvs : VSt G vs' s') : RMk u0 v' S NC NR nb l (G.length :: vs') el ar na nf W' MD' (x :: s') (G ++ [x]) := by
  have hE' : ELl u0 v' NR nb nf ar el := by
    have := ELl_mono (u0 := u0) (v := v) (v' := v') (NR := NR) (NR' := NR) (nb := nb) (nf := nf) (nf' := nf) (ar := ar) [] (fun i _ => Fr_I hF (by simp)) (fun i _ => Fr_I hF (by simp)) (Nat.le_refl _) (Nat.le_refl _) (fun y _ => Fr_J hF (by simp)) el el.length (Nat.le_refl _) (fun i _ => ⟨Fr_I hF (by simp), Fr_I hF (by simp)⟩) hE
    rw [List.append_nil] at this; exact this
  have hN' : NMx u0 v' NC NR := ⟨⟨by rw [Fr_I hF (by simp)]; exact hN.1.1, fun y hy => by rw [Fr_J hF (by simp)]; exact hN.1.2.1 y hy, fun y y' hy hy' hh => hN.1.2.2 y y' hy hy' (by rw [Fr_J hF (by simp), Fr_J hF (by simp)] at hh; exact hh)⟩, fun y hy => by rw [Fr_J hF (by simp)]; exact hN.2 y hy⟩
  refine ⟨TS_fr hF (fun _ => by simp) (fun _ => by simp) (by simp) hT, hV, h47, h48, by rw [Fr_I hF (by simp)]; exact h49, hE', hN', by rw [Fr_I hF (by simp)]; exact h55, RWl_eq _ _ (fun i _ _ => Fr_I hF (by simp)) hR, by rw [Fr_I hF (by simp)]; exact h53, by rw [Fr_I hF (by simp)]; exact h7, by rw [Fr_I hF (by simp)]; exact h8, by rw [h56]; simp, h61, fun g y hg => ?_, ⟨by simp, VSt_app _ _ _ hvs⟩⟩
  by_cases hgl : g < G.length
  · rw [List.getElem?_append_left hgl] at hg
    exact TRg_mono (fun i _ => Fr_I hF (by simp)) (Nat.le_refl _) hM (fun k hk => h130 k g (by omega) hk) h134 (hG g y hg)
  · have hl := get_lt hg
    simp only [List.length_append, List.length_cons, List.length_nil] at hl
    have : g = G.length := by omega
    subst this
    rw [List.getElem?_append_right (Nat.le_refl _), Nat.sub_self] at hg
    have : x = y := by simpa using hg
    subst this; exact hnew
