/-! reading: a formula's tasks, in the reference -/
theorem bare_t (x : Int32) (u : St) : fX12_bare x 1 u = fX12_push 21 x u := by
  unfold fX12_bare; rw [if_neg (by decide)]; cases fX12_push 21 x u <;> rfl
theorem bare_f (x : Int32) (u : St) : fX12_bare x 0 u = fX12_push 20 x u := by
  unfold fX12_bare; rw [if_pos rfl]; cases fX12_push 20 x u <;> rfl
theorem join_t (u : St) : fX12_join 1 u = fX12_push 22 0 u := by
  unfold fX12_join; rw [if_neg (by decide)]; cases fX12_push 22 0 u <;> rfl
theorem join_f (u : St) : fX12_join 0 u = fX12_push 23 0 u := by
  unfold fX12_join; rw [if_pos rfl]; cases fX12_push 23 0 u <;> rfl
theorem es_t : (zI ((sb true : Nat) : Int) : Int32) = 1 := rfl
theorem es_f : (zI ((sb false : Nat) : Int) : Int32) = 0 := rfl
theorem e20t : (zI ((20 + sb true : Nat) : Int) : Int32) = 21 := rfl
theorem e20f : (zI ((20 + sb false : Nat) : Int) : Int32) = 20 := rfl
theorem ejt : (zI ((jr true : Nat) : Int) : Int32) = 22 := rfl
theorem ejf : (zI ((jr false : Nat) : Int) : Int32) = 23 := rfl
theorem ez0 : (zI 0 : Int32) = 0 := rfl
theorem bd_id (o : Option St) : (bd o fun x => some x) = o := by cases o <;> rfl
def gin2 (p a b : Nat) (x y : Int32) (v : St) : Option St := bd (fX12_push (zI p) (zI 0) v) fun v1 => bd (fX12_push (zI a) x v1) fun v2 => fX12_push (zI b) y v2
theorem gin_8 (s : Bool) (j : Nat) (v : St) (hj : j < 1600) (hk : I v 114 j = 8) (a b : Int) (ha : I v 115 j = a) (hb : I v 116 j = b) : fX12_goInside (zI j) (zI (sb s)) v = fX12_push (zI ((20 + sb (!s) : Nat) : Int)) (zI a) v := by
  unfold fX12_goInside
  rw [ld_z _ _ _ _ (by omega) (by omega), bd_s, ld_z _ _ _ _ (by omega) (by omega), bd_s, ld_z _ _ _ _ (by omega) (by omega), bd_s, Int.toNat_natCast, hk, ha, hb, if_pos (by decide)]
  cases s with
  | true => rw [es_t, if_neg (by decide), bd_id, bare_f]; rfl
  | false => rw [es_f, if_pos rfl, bd_id, bare_t]; rfl
theorem gin_b (s : Bool) (j k : Nat) (v : St) (hj : j < 1600) (hk : I v 114 j = k) (hk2 : k = 9 ∨ k = 10 ∨ k = 13) (a b : Int) (ha : I v 115 j = a) (hb : I v 116 j = b) : fX12_goInside (zI j) (zI (sb s)) v = gin2 (jr (if k = 9 then !s else s)) (20 + sb s) (20 + sb (if k = 13 then !s else s)) (zI b) (zI a) v := by
  unfold fX12_goInside
  rw [ld_z _ _ _ _ (by omega) (by omega), bd_s, ld_z _ _ _ _ (by omega) (by omega), bd_s, ld_z _ _ _ _ (by omega) (by omega), bd_s, Int.toNat_natCast, hk, ha, hb]
  unfold gin2
  rcases hk2 with h | h | h <;> subst h
  · rw [if_neg (by decide), if_pos (by decide), bd_s, if_pos (by decide)]
    unfold fX12_goInside_j98 fX12_goInside_j107
    cases s with
    | true => rw [es_t, if_pos rfl, join_f]; simp only [bare_t, bd_id]; rfl
    | false => rw [es_f, if_neg (by decide), join_t]; simp only [bare_f, bd_id]; rfl
  · rw [if_neg (by decide), if_neg (by decide), if_pos (by decide), bd_s, if_neg (by decide)]
    unfold fX12_goInside_j98 fX12_goInside_j107
    cases s with
    | true => rw [es_t, if_neg (by decide), join_t]; simp only [bare_t, bd_id]; rfl
    | false => rw [es_f, if_pos rfl, join_f]; simp only [bare_f, bd_id]; rfl
  · rw [if_neg (by decide), if_neg (by decide), if_neg (by decide), if_neg (by decide), if_neg (by decide), if_pos (by decide)]
    cases s with
    | true =>
      have h0 : ¬ ((1 : Int32) = 0) := by decide
      rw [es_t, join_t]; simp only [bare_t, bare_f, bd_id, if_neg h0]; rfl
    | false =>
      have h0 : ((0 : Int32) = 0) := rfl
      rw [es_f, join_f]; simp only [bare_t, bare_f, bd_id, if_pos h0]; rfl
theorem gin_14 (s : Bool) (j : Nat) (v : St) (hj : j < 1600) (hk : I v 114 j = 14) (a b : Int) (ha : I v 115 j = a) (hb : I v 116 j = b) : fX12_goInside (zI j) (zI (sb s)) v = bd (fX12_push (zI ((jr (!s) : Nat) : Int)) (zI 0) v) fun v1 => bd (gin2 (jr s) (20 + sb s) (20 + sb (!s)) (zI a) (zI b) v1) fun v2 => gin2 (jr s) (20 + sb s) (20 + sb (!s)) (zI b) (zI a) v2 := by
  unfold fX12_goInside
  rw [ld_z _ _ _ _ (by omega) (by omega), bd_s, ld_z _ _ _ _ (by omega) (by omega), bd_s, ld_z _ _ _ _ (by omega) (by omega), bd_s, Int.toNat_natCast, hk, ha, hb, if_neg (by decide), if_neg (by decide), if_neg (by decide), if_neg (by decide), if_neg (by decide), if_neg (by decide), if_pos (by decide)]
  have bb : ∀ (o : Option St) (f g : St → Option St), bd (bd o f) g = bd o fun x => bd (f x) g := fun o f g => by cases o <;> rfl
  unfold fX12_goInside_j165 fX12_goInside_j191 gin2
  cases s with
  | true =>
    have h0 : ¬ ((1 : Int32) = 0) := by decide
    simp only [es_t, join_t, join_f, bare_t, bare_f, bd_id, if_neg h0, bb]; rfl
  | false =>
    have h0 : ((0 : Int32) = 0) := rfl
    simp only [es_f, join_t, join_f, bare_t, bare_f, bd_id, if_pos h0, bb]; rfl
theorem gin_q (s : Bool) (j k : Nat) (v : St) (hj : j < 1600) (hk : I v 114 j = k) (hk2 : k = 11 ∨ k = 12) : fX12_goInside (zI j) (zI (sb s)) v = fX12_quantified (zI j) (if (k = 11) = (s = false) then 1 else 0) (zI (sb s)) v := by
  unfold fX12_goInside
  rw [ld_z _ _ _ _ (by omega) (by omega), bd_s, ld_z _ _ _ _ (by omega) (by omega), bd_s, ld_z _ _ _ _ (by omega) (by omega), bd_s, Int.toNat_natCast, hk]
  rcases hk2 with h | h <;> subst h
  · rw [if_neg (by decide), if_neg (by decide), if_neg (by decide), if_pos (by decide)]
    cases s with
    | true => rw [es_t, if_neg (by decide), bd_id, if_neg (by decide)]
    | false => rw [es_f, if_pos rfl, bd_id, if_pos (by decide)]
  · rw [if_neg (by decide), if_neg (by decide), if_neg (by decide), if_neg (by decide), if_pos (by decide), bd_id]
    cases s with
    | true => rw [es_t, if_pos (by decide)]
    | false => rw [es_f, if_neg (by decide)]
theorem gin_15 (s : Bool) (j : Nat) (v : St) (hj : j < 1600) (hk : I v 114 j = 15) : fX12_goInside (zI j) (zI (sb s)) v = b2 (fX12_literal (zI j) (zI (sb s)) v) fun r43 u42 => fX12_give r43 u42 := by
  unfold fX12_goInside
  rw [ld_z _ _ _ _ (by omega) (by omega), bd_s, ld_z _ _ _ _ (by omega) (by omega), bd_s, ld_z _ _ _ _ (by omega) (by omega), bd_s, Int.toNat_natCast, hk, if_neg (by decide), if_neg (by decide), if_neg (by decide), if_neg (by decide), if_neg (by decide), if_neg (by decide), if_neg (by decide)]
  simp only [bd_id]
theorem rmk_pair {u0 v : St} {S NC NR nb : Nat} (b s1 s2 : Bool) {j1 j2 : Nat} {l : List (Int × Int)} {vs : List Nat} {el : List (Nat × Int)} {ar : List Int} {na nf W MD : Nat} {s G : List Cs} (h1 : j1 < 2000) (h2 : j2 < 2000) (hl : l.length < 5990) (h : RMk u0 v S NC NR nb l vs el ar na nf W MD s G) : ∃ v', gin2 (jr b) (20 + sb s2) (20 + sb s1) (zI j2) (zI j1) v = some v' ∧ RMk u0 v' S NC NR nb ((((20 + sb s1 : Nat) : Int), (j1 : Int)) :: (((20 + sb s2 : Nat) : Int), (j2 : Int)) :: (((jr b : Nat) : Int), 0) :: l) vs el ar na nf W MD s G ∧ Fr Qts v v' := by
  obtain ⟨v1, a1, a2, a3⟩ := rmk_push (jr b) 0 (by cases b <;> decide) (by decide) (by omega) h
  obtain ⟨v2, b1, b2', b3⟩ := rmk_push (20 + sb s2) j2 (by cases s2 <;> decide) h2 (by simp only [List.length_cons]; omega) a2
  obtain ⟨v3, c1, c2, c3⟩ := rmk_push (20 + sb s1) j1 (by cases s1 <;> decide) h1 (by simp only [List.length_cons]; omega) b2'
  refine ⟨v3, ?_, c2, Fr_tr a3 (Fr_tr b3 c3)⟩
  unfold gin2
  rw [show (zI 0 : Int32) = zI (0 : Nat) from rfl, a1, bd_s, b1, bd_s, c1]
/-- a literal -/
theorem rlit_spec {u0 v : St} {ρ : Nat → Int} {S NC NR nb j a b : Nat} (sg : Bool) {l : List (Int × Int)} {vs : List Nat} {el : List (Nat × Int)} {ar : List Int} {na nf W MD : Nat} {s G : List Cs} (hj : j < 1600) (hab : a < b) (hb : b ≤ 1501) (hel : el.length ≤ 380) (hf2 : nf ≤ nb + 3000) (hf3 : nf < 1000000000) (hNC : NC ≤ 1501) (hS : S ≤ 811) (hS5 : ∀ s, s < S → I u0 16 s ≤ 5) (hNc : ∀ x x', x < NC → x' < NC → J u0 38 x = J u0 38 x' → x = x') (har : ∀ z, z ∈ ar → z < 0) (hen : ∀ e, e ∈ el → e.1 < NC) (hvs : vs.length < 2990) (hMD : MD ≤ 6 * W) (hW : W ≤ 3000) (hG : G.length ≤ 2 * W) (h115 : I v 115 j = a) (h116 : I v 116 j = b) (hcd : ∀ i, a ≤ i → i < b → CEd u0 v S NC NR i) (hK : ENk u0 ρ el a b) (hWT : WT (arl u0 (b - a) a) 1) (h0a : 0 ≤ I u0 37 a) (h : RMk u0 v S NC NR nb l vs el ar na nf W MD s G) : ∃ v', (b2 (fX12_literal (zI j) (zI (sb sg)) v) fun r43 u42 => fX12_give r43 u42) = some v' ∧ Fr QM v v' ∧ (∀ y, J v' 119 y = J v 119 y) ∧ ((W + (b - a) ≤ 3000 ∧ ∃ MD', MD' ≤ 6 * (W + (b - a)) ∧ RMk u0 v' S NC NR nb l (G.length :: vs) el ar na nf (W + (b - a)) MD' ([[(sgb sg, litc u0 ρ ar (b - a) a)]] :: s) (G ++ [[[(sgb sg, litc u0 ρ ar (b - a) a)]]])) ∨ (3000 < W + (b - a) ∧ I v' 100 47 = 1)) := by
  have hst := h
  obtain ⟨c1, c2, c3, c4, c5, c6, c7, c8, c9, c10, c11, c12, c13, c14, c15, c16⟩ := h
  have hO : LOK u0 ρ ar a b := by
    intro i h1 h2
    refine ⟨?_, fun hn => FNm_gv (lkp_fn el _ _ c6 (hK i h1 h2 hn))⟩
    rcases hcd i h1 h2 with ⟨s', s1, s2, s3, s4⟩ | ⟨x, y, x1, x2, x3, x4, x5⟩ <;> omega
  have hlen := litc_len u0 ρ ar b (b - a) a (by omega) hO
  obtain ⟨lc, hlc⟩ : ∃ lc, litc u0 ρ ar (b - a) a = lc := ⟨_, rfl⟩
  have hLG : LG lc := by
    rw [← hlc]
    refine ⟨litc_wt har (b - a) a 1 (by omega) hO hWT, ?_⟩
    obtain ⟨k, hk⟩ : ∃ k, b - a = k + 1 := ⟨b - a - 1, by omega⟩
    rw [hk]
    refine ⟨I u0 37 a, litc u0 ρ ar k (a + 1), ?_, h0a⟩
    simp only [litc, cof]
    rw [if_pos h0a]; rfl
  have hcv : ∀ z, z ∈ lc → CVl u0 v S nb nf z := by rw [← hlc]; exact litc_cv har hS5 c6 (b - a) a (by omega) hcd hK
  rw [hlc] at hlen ⊢
  have hs01 : sgb sg = 0 ∨ sgb sg = 1 := by cases sg <;> simp [sgb]
  have hsb : (zI ((sb sg : Nat) : Int) : Int32) = zI (sgb sg) := by cases sg <;> rfl
  obtain ⟨va, hva⟩ : ∃ va, uI v 100 48 (zI ((W + (b - a) : Nat) : Int)) = va := ⟨_, rfl⟩
  have Fa : Fr (fun k i => k == 100 && i == 48) v va := by rw [← hva]; exact Fr_up rfl (Fr_rfl _ _)
  have a48 : I va 100 48 = ((W + (b - a) : Nat) : Int) := by rw [← hva]; exact I_uI1 _ _ _ _ (by omega) (by omega)
  have e1 : gI v 100 48 + (zI b - zI a) = zI ((W + (b - a) : Nat) : Int) := by rw [gI_z v 100 48, c4, z_sub, z_add]; congr 1; omega
  have a47 : gI va 100 47 = zI 0 := by rw [gI_z va 100 47, Fr_I Fa rfl, c3]
  have hq : fX12_literal (zI j) (zI (sb sg)) v = if zI ((W + (b - a) : Nat) : Int) ≤ 3000 then fX12_literal_j50 (zI j) (zI (sb sg)) (zI MD) (zI 0) va else fX12_literal_j50 (zI j) (zI (sb sg)) (zI MD) (zI 1) va := by
    unfold fX12_literal
    rw [lt_e, gI_z v 100 61, c14, ld_z _ _ _ _ (by omega) (by omega), bd_s, ld_z _ _ _ _ (by omega) (by omega), bd_s, Int.toNat_natCast, h116, h115, e1, lt_e, hva, a47, if_pos (show zI 0 = 0 from rfl), gI_z va 100 48, a48]
    rfl
  have j50 : ∀ big : Int, (big = 0 ∨ big = 1) → ∃ vb, uI va 100 47 (zI big) = vb ∧ I vb 100 47 = big ∧ Fr (fun k i => k == 100 && (i == 47 || i == 48)) v vb ∧ I vb 100 48 = ((W + (b - a) : Nat) : Int) ∧ fX12_literal_j50 (zI j) (zI (sb sg)) (zI MD) (zI big) va = fX12_literal_L0 FU 0 (zI j) (zI (sb sg)) (zI MD) (zI a) 0 0 0 vb := by
    intro big hbig
    obtain ⟨vb, hvb⟩ : ∃ vb, uI va 100 47 (zI big) = vb := ⟨_, rfl⟩
    have Fb : Fr (fun k i => k == 100 && i == 47) va vb := by rw [← hvb]; exact Fr_up rfl (Fr_rfl _ _)
    have Fab : Fr (fun k i => k == 100 && (i == 47 || i == 48)) v vb := Fr_tr (Fr_up2 (fun k i hk => by simp at hk; simp [hk]) Fa) (Fr_up2 (fun k i hk => by simp at hk; simp [hk]) Fb)
    refine ⟨vb, hvb, by rw [← hvb]; exact I_uI1 _ _ _ _ (by omega) (by omega), Fab, by rw [Fr_I Fb rfl]; exact a48, ?_⟩
    unfold fX12_literal_j50
    rw [zb_z hbig, bd_s, lt_e, hvb, ld_z _ _ _ _ (by omega) (by omega), bd_s, Int.toNat_natCast, Fr_I Fab rfl, h115]
  have s0 : ∀ F x w, fX12_literal_L0 (F + 1) 0 (zI j) (zI (sb sg)) (zI MD) (zI (x : Nat)) 0 0 0 w = fX12_literal_L0_0 (fX12_literal_L0 F) (zI j) (zI (sb sg)) (zI MD) (zI x) w := fun _ _ _ => rfl
  by_cases hbg : W + (b - a) ≤ 3000
  · obtain ⟨vb, j1, j2, Fab, j4, j5⟩ := j50 0 (Or.inl rfl)
    have hcdb : ∀ i, a ≤ i → i < b → CEd u0 vb S NC NR i := by
      intro i h1 h2
      rcases hcd i h1 h2 with ⟨s, e1, e2, e3, e4⟩ | ⟨x, y, e1, e2, e3, e4, e5⟩
      · exact Or.inl ⟨s, e1, e2, e3, by rw [Fr_I Fab rfl]; exact e4⟩
      · exact Or.inr ⟨x, y, e1, e2, e3, by rw [Fr_I Fab rfl]; exact e4, by rw [Fr_J Fab rfl]; exact e5⟩
    obtain ⟨v1, F', t1, t2, t3⟩ := rlit_loop (ρ := ρ) (zI (sb sg)) (zI MD) hj hb hel hf2 hf3 hNC hS hS5 hNc har hen (b - a) a [] vb FU (by omega) (by unfold FU; omega) (show LBr vb MD [] from ⟨by rw [Fr_I Fab rfl]; exact c14, trivial⟩) (by simp only [List.length_nil]; omega) j2 (by rw [Fr_I Fab rfl]; exact h116) (by rw [Fr_I Fab rfl]; exact c5) (by rw [Fr_I Fab rfl]; exact c12) (ELl_fr Fab (fun k i hk => by rcases hk with h | h | h | h | h <;> subst h <;> rfl) c6) (NMx_fr Fab (fun _ => rfl) rfl c7) hcdb hK
    rw [hlc, List.nil_append] at t2
    have Ft : Fr (fun k i => k == 134 || (k == 100 && (i == 47 || i == 48 || i == 61))) v v1 := Fr_tr (Fr_up2 (fun k i hk => by simp at hk; simp; omega) Fab) (Fr_up2 (fun k i hk => by simp [Qlc] at hk; simp; omega) t3.1)
    obtain ⟨v2, g1, g2, g3, g4, g5, g6, g7, g8⟩ := tree_spec (v := v1) (g := G.length) 15 MD ((MD + lc.length : Nat) : Int) (sgb sg) (by omega) (by rw [Fr_I Ft rfl]; exact c13) (by decide) (by decide) (by omega) (by omega) (by omega) (by omega) hs01
    obtain ⟨v3, p1, p2, p3⟩ := give_spec v2 vs G.length (by omega) (VS_fr g8 (fun _ => by simp) (by simp) (VS_fr Ft (fun _ => rfl) rfl c2)) (by omega)
    have F3 : Fr (fun k i => k == 122 || k == 130 || k == 131 || k == 132 || k == 133 || k == 134 || (k == 100 && (i == 41 || i == 47 || i == 48 || i == 56 || i == 61))) v v3 := Fr_tr (Fr_up2 (fun k i hk => by simp at hk; simp; omega) Ft) (Fr_tr (Fr_up2 (fun k i hk => by simp at hk; simp; omega) g8) (Fr_up2 (fun k i hk => by simp [Qvs] at hk; simp; omega) p3))
    have hgen : ∀ q i, (q = 130 ∨ q = 131 ∨ q = 132 ∨ q = 133) → I v3 q i = I v2 q i := fun q i hq => Fr_I p3 (by simp [Qvs]; omega)
    have h134 : ∀ i, I v3 134 i = I v1 134 i := fun i => by rw [Fr_I p3 (by simp [Qvs]), Fr_I g8 (by simp)]
    refine ⟨v3, ?_, Fr_up2 (fun k i hk => by simp at hk; simp [QM]; omega) F3, fun y => Fr_J F3 (by simp), Or.inl ⟨hbg, MD + lc.length, by omega, RMk_tree F3 c1 c5 c6 c7 c8 c9 c10 c11 c12 c15 p2 (by rw [Fr_I p3 (by simp [Qvs]), Fr_I g8 (by simp), Fr_I t3.1 rfl]; exact j2) (by rw [Fr_I p3 (by simp [Qvs]), Fr_I g8 (by simp), Fr_I t3.1 rfl]; exact j4) (by rw [Fr_I p3 (by simp [Qvs])]; exact g2) (by rw [Fr_I p3 (by simp [Qvs]), Fr_I g8 (by simp)]; exact t2.1) (by omega) (fun i hi => by rw [h134, t3.2 i hi, Fr_I Fab rfl]) (fun q i hi hq => by rw [hgen q i hq, g7 q i hi hq, Fr_I Ft (by simp; omega)]) (Or.inl ⟨by rw [hgen _ _ (by simp)]; exact g3, sgb sg, lc, MD, rfl, by rw [hgen _ _ (by simp)]; exact g6, hs01, by rw [hgen _ _ (by simp)]; exact g4, by rw [hgen _ _ (by simp)]; exact g5, Nat.le_refl _, RWl_eq _ _ (fun i _ _ => h134 i) t2.2, fun z hz => CVl_mono (fun i _ => Fr_I F3 (by simp)) (Nat.le_refl _) (hcv z hz), hLG⟩) c16⟩⟩
    rw [hq, if_pos (by rw [z_lit, z_le (by omega) (by omega) (by decide) (by decide)]; omega), j5, t1, s0]
    unfold fX12_literal_L0_0
    rw [ld_z _ _ _ _ (by omega) (by omega), bd_s, Int.toNat_natCast, Fr_I Ft rfl, h116, if_pos (by rw [z_le (by omega) (by omega) (by omega) (by omega)]; omega)]
    unfold fX12_literal_j232
    rw [gI_z v1 100 61, t2.1, hsb, show (15 : Int32) = zI 15 from rfl, g1, b2_s, b2_s, p1]
  · obtain ⟨vb, j1, j2, Fab, j4, j5⟩ := j50 1 (Or.inr rfl)
    obtain ⟨v2, g1, g2, g3, g4, g5, g6, g7, g8⟩ := tree_spec (v := vb) (g := G.length) 15 MD (MD : Int) (sgb sg) (by omega) (by rw [Fr_I Fab rfl]; exact c13) (by decide) (by decide) (by omega) (by omega) (by omega) (by omega) hs01
    obtain ⟨v3, p1, p2, p3⟩ := give_spec v2 vs G.length (by omega) (VS_fr g8 (fun _ => by simp) (by simp) (VS_fr Fab (fun _ => rfl) rfl c2)) (by omega)
    have F3 : Fr (fun k i => k == 122 || k == 130 || k == 131 || k == 132 || k == 133 || k == 134 || (k == 100 && (i == 41 || i == 47 || i == 48 || i == 56 || i == 61))) v v3 := Fr_tr (Fr_up2 (fun k i hk => by simp at hk; simp; omega) Fab) (Fr_tr (Fr_up2 (fun k i hk => by simp at hk; simp; omega) g8) (Fr_up2 (fun k i hk => by simp [Qvs] at hk; simp; omega) p3))
    refine ⟨v3, ?_, Fr_up2 (fun k i hk => by simp at hk; simp [QM]; omega) F3, fun y => Fr_J F3 (by simp), Or.inr ⟨by omega, by rw [Fr_I p3 (by simp [Qvs]), Fr_I g8 (by simp)]; exact j2⟩⟩
    rw [hq, if_neg (by rw [z_lit, z_le (by omega) (by omega) (by decide) (by decide)]; omega), j5, show FU = 999999999 + 1 from rfl, s0]
    unfold fX12_literal_L0_0
    rw [ld_z _ _ _ _ (by omega) (by omega), bd_s, Int.toNat_natCast, Fr_I Fab rfl, h116, if_neg (by rw [z_le (by omega) (by omega) (by omega) (by omega)]; omega), gI_z vb 100 47, j2, if_neg (by decide)]
    unfold fX12_literal_j232
    rw [gI_z vb 100 61, Fr_I Fab rfl, c14, hsb, show (15 : Int32) = zI 15 from rfl, g1, b2_s, b2_s, p1]
