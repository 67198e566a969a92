/-! reading: scopes in the reference -/
def Qen : Nat → Nat → Bool := fun k i => k == 105 || k == 119 || k == 126 || k == 127 || k == 129 || k == 135 || (k == 100 && (i == 7 || i == 35 || i == 47 || i == 48 || i == 49 || i == 53 || i == 55))
theorem Qen_QM : ∀ k i, Qen k i = true → QM k i = true := by intro k i hk; simp [Qen] at hk; simp [QM]; omega
theorem RMk_env {u0 v v' : St} {S NC NR NR' nb : Nat} {l : List (Int × Int)} {vs : List Nat} {el el' : List (Nat × Int)} {ar ar' : List Int} {na na' nf nf' W W' MD : Nat} {s G : List Cs} (hF : Fr Qen v v') (h47 : I v' 100 47 = 0) (h48 : I v' 100 48 = W') (h49 : I v' 100 49 = el'.length) (hE : ELl u0 v' NR' nb nf' ar' el') (hN : NMx u0 v' NC NR') (h55 : I v' 100 55 = ar'.length) (h129 : RWl v' 129 0 (ar'.map (fun z => -1 - z))) (h53 : I v' 100 53 = na') (h7 : I v' 100 7 = nf') (h105 : ∀ i, i < nf - nb → I v' 105 i = I v 105 i) (hf : nf ≤ nf') (h : RMk u0 v S NC NR nb l vs el ar na nf W MD s G) : RMk u0 v' S NC NR' nb l vs el' ar' na' nf' W' MD s G := by
  obtain ⟨a1, a2, a3, a4, a5, a6, a7, a8, a9, a10, a11, a12, a13, a14, a15, a16⟩ := h
  exact ⟨TS_fr hF (fun _ => rfl) (fun _ => rfl) rfl a1, VS_fr hF (fun _ => rfl) rfl a2, h47, h48, h49, hE, hN, h55, h129, h53, h7, by rw [Fr_I hF rfl]; exact a12, by rw [Fr_I hF rfl]; exact a13, by rw [Fr_I hF rfl]; exact a14, fun g x hg => by
    have := TRg_mono (Gx := []) (v' := v') h105 hf (Nat.le_refl _) (fun k hk => Fr_I hF (by rcases hk with h | h | h | h <;> subst h <;> rfl)) (fun i _ => Fr_I hF rfl) (a15 g x hg)
    rw [List.append_nil] at this; exact this, a16⟩
theorem rbind_spec {v : St} {n : Nat} (a b : Int) (hn : n < 700) (h49 : I v 100 49 = n) (ha1 : -2147483648 ≤ a) (ha2 : a < 2147483648) (hb1 : -2147483648 ≤ b) (hb2 : b < 2147483648) : ∃ v', fX12_bind (zI a) (zI b) v = some v' ∧ I v' 126 n = a ∧ I v' 127 n = b ∧ I v' 100 49 = ((n + 1 : Nat) : Int) ∧ (∀ i, i ≠ n → I v' 126 i = I v 126 i ∧ I v' 127 i = I v 127 i) ∧ Fr (fun k i => k == 126 || k == 127 || (k == 100 && i == 49)) v v' := by
  refine ⟨uI (uI (uI v 126 n (zI a)) 127 n (zI b)) 100 49 (zI ((n + 1 : Nat) : Int)), ?_, ?_, ?_, I_uI1 _ _ _ _ (by omega) (by omega), fun i hi => ⟨?_, ?_⟩, Fr_up rfl (Fr_up rfl (Fr_up rfl (Fr_rfl _ _)))⟩
  · unfold fX12_bind
    rw [gI_z v 100 49, h49, st_z _ _ _ _ _ (by omega) (by omega), bd_s, Int.toNat_natCast, gI_z _ 100 49, I_uI3 _ _ _ _ _ _ (by decide), h49, st_z _ _ _ _ _ (by omega) (by omega), bd_s, Int.toNat_natCast, gI_z _ 100 49, I_uI3 _ _ _ _ _ _ (by decide), I_uI3 _ _ _ _ _ _ (by decide), h49, show (1 : Int32) = zI 1 from rfl, z_add, lt_e]
    rfl
  · rw [I_uI3 _ _ _ _ _ _ (by decide), I_uI3 _ _ _ _ _ _ (by decide), I_uI1 _ _ _ _ ha1 ha2]
  · rw [I_uI3 _ _ _ _ _ _ (by decide), I_uI1 _ _ _ _ hb1 hb2]
  · rw [I_uI3 _ _ _ _ _ _ (by decide), I_uI3 _ _ _ _ _ _ (by decide), I_uI2 _ _ _ _ _ _ (by omega)]
  · rw [I_uI3 _ _ _ _ _ _ (by decide), I_uI2 _ _ _ _ _ _ (by omega), I_uI3 _ _ _ _ _ _ (by decide)]
theorem FNm_back {v : St} {nb nf : Nat} {ar r : List Int} {m : Int} (hg : 0 ≤ m → m % 8 ≤ ar.length) (h : FNm v nb nf (ar ++ r) m) : FNm v nb nf ar m := by
  intro hm
  obtain ⟨f, a1, a2, a3, a4, a5, a6, a7⟩ := h hm
  have hgm := hg hm
  have ht : (ar ++ r).take (m % 8).toNat = ar.take (m % 8).toNat := List.take_append_of_le_length (by omega)
  exact ⟨f, a1, a2, a3, a4, hgm, a6, by rw [← ht]; exact a7⟩
theorem ELl_gv {u0 v : St} {NR nb nf : Nat} {ar : List Int} (l : List (Nat × Int)) : ELl u0 v NR nb nf ar l → ∀ e, e ∈ l → 0 ≤ e.2 → e.2 % 8 ≤ ar.length := by
  induction l with
  | nil => intro _ e he; cases he
  | cons b l ih =>
    intro hE e he h0
    rcases List.mem_cons.1 he with he | he
    · subst he
      obtain ⟨f, a1, a2, a3, a4, a5, _⟩ := hE.2.2.1 h0; exact a5
    · exact ih hE.2.2.2 e he h0
theorem ELl_back {u0 v : St} {NR nb nf : Nat} {ar r : List Int} (l : List (Nat × Int)) : (∀ e, e ∈ l → 0 ≤ e.2 → e.2 % 8 ≤ ar.length) → ELl u0 v NR nb nf (ar ++ r) l → ELl u0 v NR nb nf ar l := by
  induction l with
  | nil => intro _ _; trivial
  | cons b l ih =>
    intro hg hE
    exact ⟨hE.1, hE.2.1, FNm_back (hg b (by simp)) hE.2.2.1, ih (fun e he => hg e (List.mem_cons_of_mem _ he)) hE.2.2.2⟩
theorem NMx_fr {P : Nat → Nat → Bool} {u0 v v' : St} {NC NR : Nat} (hF : Fr P v v') (h1 : ∀ i, P 119 i = false) (h2 : P 100 35 = false) (h : NMx u0 v NC NR) : NMx u0 v' NC NR := ⟨⟨by rw [Fr_I hF h2]; exact h.1.1, fun y hy => by rw [Fr_J hF (h1 y)]; exact h.1.2.1 y hy, fun y y' hy hy' hh => h.1.2.2 y y' hy hy' (by rw [Fr_J hF (h1 y), Fr_J hF (h1 y')] at hh; exact hh)⟩, fun y hy => by rw [Fr_J hF (h1 y)]; exact h.2 y hy⟩
theorem ELl_fr {P : Nat → Nat → Bool} {u0 v v' : St} {NR nb nf : Nat} {ar : List Int} {l : List (Nat × Int)} (hF : Fr P v v') (h1 : ∀ k i, (k = 105 ∨ k = 135 ∨ k = 119 ∨ k = 126 ∨ k = 127) → P k i = false) (h : ELl u0 v NR nb nf ar l) : ELl u0 v' NR nb nf ar l := by
  have := ELl_mono (u0 := u0) (v := v) (v' := v') (NR := NR) (NR' := NR) (nb := nb) (nf := nf) (nf' := nf) (ar := ar) [] (fun i _ => Fr_I hF (h1 _ _ (by omega))) (fun i _ => Fr_I hF (h1 _ _ (by omega))) (Nat.le_refl _) (Nat.le_refl _) (fun y _ => Fr_J hF (h1 _ _ (by omega))) l l.length (Nat.le_refl _) (fun i _ => ⟨Fr_I hF (h1 _ _ (by omega)), Fr_I hF (h1 _ _ (by omega))⟩) h
  rw [List.append_nil] at this; exact this
theorem RWl_pre {u : St} {k : Nat} (l r : List Int) : ∀ p, RWl u k p (l ++ r) → RWl u k p l := by
  induction l with
  | nil => intro p _; trivial
  | cons z l ih => intro p hh; exact ⟨hh.1, ih _ hh.2⟩
/-- a scope ends -/
theorem rmk_free {u0 v : St} {S NC NR nb : Nat} (b : Bool) {l : List (Int × Int)} {vs : List Nat} {x : Nat} {m : Int} {el : List (Nat × Int)} {ar r : List Int} {na nf W MD : Nat} {s G : List Cs} (hl : l.length < 6000) (hel : el.length < 700) (har : ar.length < 700) (hr : r.length = if b then 1 else 0) (hg : ∀ e, e ∈ el → 0 ≤ e.2 → e.2 % 8 ≤ ar.length) (h : RMk u0 v S NC NR nb ((((if b then 24 else 25 : Nat) : Int), 0) :: l) vs ((x, m) :: el) (ar ++ r) na nf W MD s G) : ∃ v', (∀ F, IL (F + 1) v = IL F v') ∧ RMk u0 v' S NC NR nb l vs el ar na nf W MD s G ∧ Fr QM v v' ∧ ∀ y, J v' 119 y = J v 119 y := by
  obtain ⟨v6, a1, a2, a3, a4⟩ := rmk_pop hl h
  have h49 : I v6 100 49 = ((el.length + 1 : Nat) : Int) := a2.2.2.2.2.1
  have h55 : I v6 100 55 = ((ar ++ r).length : Nat) := a2.2.2.2.2.2.2.2.1
  rw [List.length_append] at h55
  obtain ⟨va, hva⟩ : ∃ va, uI v6 100 49 (zI el.length) = va := ⟨_, rfl⟩
  have Fa : Fr (fun k i => k == 100 && i == 49) v6 va := by rw [← hva]; exact Fr_up rfl (Fr_rfl _ _)
  obtain ⟨vb, hvb⟩ : ∃ vb, uI va 100 55 (zI ar.length) = vb := ⟨_, rfl⟩
  have Fb : Fr (fun k i => k == 100 && i == 55) va vb := by rw [← hvb]; exact Fr_up rfl (Fr_rfl _ _)
  have F : Fr (fun k i => k == 100 && (i == 49 || i == 55)) v6 vb := Fr_tr (Fr_up2 (fun k i hk => by simp at hk; simp [hk]) Fa) (Fr_up2 (fun k i hk => by simp at hk; simp [hk]) Fb)
  have FE : Fr Qen v6 vb := Fr_up2 (fun k i hk => by simp at hk; simp [Qen]; omega) F
  have e49 : I vb 100 49 = el.length := by rw [Fr_I Fb rfl, ← hva]; exact I_uI1 _ _ _ _ (by omega) (by omega)
  have e55 : I vb 100 55 = ar.length := by rw [← hvb]; exact I_uI1 _ _ _ _ (by omega) (by omega)
  have hst := a2
  obtain ⟨c1, c2, c3, c4, c5, c6, c7, c8, c9, c10, c11, c12, c13, c14, c15, c16⟩ := a2
  refine ⟨vb, fun F => ?_, RMk_env (W' := W) FE (by rw [Fr_I F rfl]; exact c3) (by rw [Fr_I F rfl]; exact c4) e49 (ELl_back el hg (ELl_fr F (fun k i hk => by rcases hk with h | h | h | h | h <;> subst h <;> rfl) c6.2.2.2)) (NMx_fr F (fun _ => rfl) rfl c7) e55 ?_ (by rw [Fr_I F rfl]; exact c10) (by rw [Fr_I F rfl]; exact c11) (fun i _ => Fr_I F rfl) (Nat.le_refl _) hst, Fr_tr (Fr_up2 Qts_QM a3) (Fr_up2 Qen_QM FE), fun y => by rw [Fr_J F rfl, Fr_J a3 rfl]⟩
  · rw [a1 F]
    have e1 : gI v6 100 49 - 1 = zI el.length := by rw [gI_z v6 100 49, h49, show (1 : Int32) = zI 1 from rfl, z_sub]; congr 1; omega
    have h55a : I va 100 55 = ((ar.length + r.length : Nat) : Int) := by rw [Fr_I Fa rfl]; exact h55
    cases b with
    | true =>
      have hr1 : r.length = 1 := hr
      have e2 : gI va 100 55 - 1 = zI ar.length := by rw [gI_z va 100 55, h55a, show (1 : Int32) = zI 1 from rfl, z_sub]; congr 1; omega
      rw [if_neg (by decide), if_neg (by decide), if_neg (by decide), if_neg (by decide), e1, lt_e, hva, if_pos (by decide), e2, lt_e, hvb]
    | false =>
      have hr1 : r.length = 0 := hr
      have e2 : gI va 100 55 - 0 = zI ar.length := by rw [gI_z va 100 55, h55a, show (0 : Int32) = zI 0 from rfl, z_sub]; congr 1; omega
      rw [if_neg (by decide), if_neg (by decide), if_neg (by decide), if_neg (by decide), e1, lt_e, hva, if_neg (by decide), e2, lt_e, hvb]
  · rw [List.map_append] at c9
    exact RWl_pre _ _ _ (RWl_eq _ _ (fun i _ _ => Fr_I F rfl) c9)
/-- behind a quantifier: its name has a number -/
theorem rq_pre {u0 v : St} {S NC NR nb j x : Nat} (x2 x3 : Int32) {l : List (Int × Int)} {vs : List Nat} {el : List (Nat × Int)} {ar : List Int} {na nf W MD : Nat} {s G : List Cs} (hj : j < 1600) (hNC : NC ≤ 1501) (hx : x < NC) (hw : NmR (J u0 38 x) (J v 117 j)) (hW : W < 100000) (h : RMk u0 v S NC NR nb l vs el ar na nf W MD s G) : ∃ (v1 : St) (y NR' : Nat), Fr Qen v v1 ∧ (∀ i, i < NR → J v1 119 i = J v 119 i) ∧ ((3000 < W + 1 ∧ fX12_quantified (zI j) x2 x3 v = some v1 ∧ I v1 100 47 = 1) ∨ (W + 1 ≤ 3000 ∧ fX12_quantified (zI j) x2 x3 v = (if x2 = 0 then (if (gI v1 100 55) ≤ 5 then (fX12_quantified_L0 FU 0 (zI j) x2 x3 (zI y) 0 v1) else some (uI v1 100 47 1)) else bd (fX12_bind (zI y) (gI v1 100 53) v1) fun u25 => bd (st u25 129 700 (gI u25 100 55) (gI u25 100 53)) fun u26 => lt (uI u26 100 53 ((gI u26 100 53) + 1)) fun u27 => lt (uI u27 100 55 ((gI u27 100 55) + 1)) fun u28 => fX12_quantified_j203 (zI j) x2 x3 u28) ∧ RMk u0 v1 S NC NR' nb l vs el ar na nf (W + 1) MD s G ∧ y < NR' ∧ NR ≤ NR' ∧ NmR (J u0 38 x) (J v1 119 y))) := by
  have hst := h
  obtain ⟨c1, c2, c3, c4, c5, c6, c7, c8, c9, c10, c11, c12, c13, c14, c15, c16⟩ := h
  obtain ⟨va, hva⟩ : ∃ va, uI v 100 48 (zI ((W + 1 : Nat) : Int)) = va := ⟨_, rfl⟩
  have Fa : Fr (fun k i => k == 100 && i == 48) v va := by rw [← hva]; exact Fr_up rfl (Fr_rfl _ _)
  have a48 : I va 100 48 = ((W + 1 : Nat) : Int) := by rw [← hva]; exact I_uI1 _ _ _ _ (by omega) (by omega)
  have e1 : gI v 100 48 + 1 = zI ((W + 1 : Nat) : Int) := by rw [gI_z v 100 48, c4, show (1 : Int32) = zI 1 from rfl, z_add]; rfl
  have a47 : gI va 100 47 = zI 0 := by rw [gI_z va 100 47, Fr_I Fa rfl, c3]
  have main : ∀ big : Int, (big = 0 ∨ big = 1) → ∃ (v1 : St) (y NR' : Nat), fX12_quantified_j33 (zI j) x2 x3 (zI big) va = (if (gI v1 100 47) = 0 then (if x2 = 0 then (if (gI v1 100 55) ≤ 5 then (fX12_quantified_L0 FU 0 (zI j) x2 x3 (zI y) 0 v1) else some (uI v1 100 47 1)) else bd (fX12_bind (zI y) (gI v1 100 53) v1) fun u25 => bd (st u25 129 700 (gI u25 100 55) (gI u25 100 53)) fun u26 => lt (uI u26 100 53 ((gI u26 100 53) + 1)) fun u27 => lt (uI u27 100 55 ((gI u27 100 55) + 1)) fun u28 => fX12_quantified_j203 (zI j) x2 x3 u28) else some v1) ∧ I v1 100 47 = big ∧ I v1 100 48 = ((W + 1 : Nat) : Int) ∧ NMx u0 v1 NC NR' ∧ y < NR' ∧ NR ≤ NR' ∧ J v1 119 y = J v 117 j ∧ (∀ i, i < NR → J v1 119 i = J v 119 i) ∧ Fr (fun k i => k == 119 || (k == 100 && (i == 35 || i == 47 || i == 48))) v v1 := by
    intro big hbig
    obtain ⟨vb, hvb⟩ : ∃ vb, uI va 100 47 (zI big) = vb := ⟨_, rfl⟩
    have Fb : Fr (fun k i => k == 100 && i == 47) va vb := by rw [← hvb]; exact Fr_up rfl (Fr_rfl _ _)
    have Fab : Fr (fun k i => k == 100 && (i == 47 || i == 48)) v vb := Fr_tr (Fr_up2 (fun k i hk => by simp at hk; simp [hk]) Fa) (Fr_up2 (fun k i hk => by simp at hk; simp [hk]) Fb)
    obtain ⟨v1, y, NR', b1, b2', b3, b4, b5, b6, b7⟩ := rvar_both (NMx_fr Fab (fun _ => rfl) rfl c7) hNC hx hw
    refine ⟨v1, y, NR', ?_, ?_, by rw [Fr_I b7 rfl, Fr_I Fb rfl]; exact a48, b2', b3, b4, b5, fun i hi => by rw [b6 i hi, Fr_J Fab rfl], Fr_tr (Fr_up2 (fun k i hk => by simp at hk; simp; omega) Fab) (Fr_up2 (fun k i hk => by simp [Qva] at hk; simp; omega) b7)⟩
    · unfold fX12_quantified_j33
      rw [zb_z hbig, bd_s, lt_e, hvb, ldJ_z _ _ _ _ (by omega) (by omega), bd_s, Int.toNat_natCast, Fr_J Fab rfl, b1, b2_s]
      rfl
    · rw [Fr_I b7 rfl, ← hvb]; exact I_uI1 _ _ _ _ (by omega) (by omega)
  have hq : fX12_quantified (zI j) x2 x3 v = if zI ((W + 1 : Nat) : Int) ≤ 3000 then fX12_quantified_j33 (zI j) x2 x3 (zI 0) va else fX12_quantified_j33 (zI j) x2 x3 (zI 1) va := by
    unfold fX12_quantified
    rw [e1, lt_e, hva, a47, if_pos (show zI 0 = 0 from rfl), gI_z va 100 48, a48]
    rfl
  by_cases hb : W + 1 ≤ 3000
  · obtain ⟨v1, y, NR', d1, d2, d2b, d3, d4, d5, d6, d7, d8⟩ := main 0 (Or.inl rfl)
    have FQ : Fr Qen v v1 := Fr_up2 (fun k i hk => by simp at hk; simp [Qen]; omega) d8
    have hE1 : ELl u0 v1 NR' nb nf ar el := by
      have := ELl_mono (u0 := u0) (v := v) (v' := v1) (NR := NR) (NR' := NR') (nb := nb) (nf := nf) (nf' := nf) (ar := ar) [] (fun i _ => Fr_I d8 rfl) (fun i _ => Fr_I d8 rfl) (Nat.le_refl _) d5 d7 el el.length (Nat.le_refl _) (fun i _ => ⟨Fr_I d8 rfl, Fr_I d8 rfl⟩) c6
      rw [List.append_nil] at this; exact this
    refine ⟨v1, y, NR', FQ, d7, Or.inr ⟨hb, ?_, RMk_env FQ d2 d2b (by rw [Fr_I d8 rfl]; exact c5) hE1 d3 (by rw [Fr_I d8 rfl]; exact c8) (RWl_eq _ _ (fun i _ _ => Fr_I d8 rfl) c9) (by rw [Fr_I d8 rfl]; exact c10) (by rw [Fr_I d8 rfl]; exact c11) (fun i _ => Fr_I d8 rfl) (Nat.le_refl _) hst, d4, d5, by rw [d6]; exact hw⟩⟩
    rw [hq, if_pos (by rw [z_lit, z_le (by omega) (by omega) (by decide) (by decide)]; omega), d1, gI_z v1 100 47, d2, if_pos (show zI 0 = 0 from rfl)]
  · obtain ⟨v1, y, NR', d1, d2, d2b, d3, d4, d5, d6, d7, d8⟩ := main 1 (Or.inr rfl)
    refine ⟨v1, y, NR', Fr_up2 (fun k i hk => by simp at hk; simp [Qen]; omega) d8, d7, Or.inl ⟨by omega, ?_, d2⟩⟩
    rw [hq, if_neg (by rw [z_lit, z_le (by omega) (by omega) (by decide) (by decide)]; omega), d1, gI_z v1 100 47, d2, if_neg (by decide)]
/-- a quantifier's tasks -/
theorem rq_tail {u0 v : St} {S NC NR nb j j1 : Nat} (b sg : Bool) (x2 : Int32) {l : List (Int × Int)} {vs : List Nat} {el : List (Nat × Int)} {ar : List Int} {na nf W MD : Nat} {s G : List Cs} (hx2 : x2 = if b then 1 else 0) (hj : j < 1600) (hj1 : j1 < 2000) (h115 : I v 115 j = j1) (hl : l.length < 5900) (h : RMk u0 v S NC NR nb l vs el ar na nf W MD s G) : ∃ v', fX12_quantified_j203 (zI j) x2 (zI (sb sg)) v = some v' ∧ RMk u0 v' S NC NR nb ((((20 + sb sg : Nat) : Int), (j1 : Int)) :: (((if b then 24 else 25 : Nat) : Int), 0) :: l) vs el ar na nf W MD s G ∧ Fr Qts v v' := by
  obtain ⟨v1, a1, a2, a3⟩ := rmk_push (if b then 24 else 25) 0 (by cases b <;> decide) (by decide) (by omega) h
  obtain ⟨v2, b1, b2', b3⟩ := rmk_push (20 + sb sg) j1 (by cases sg <;> decide) hj1 (by simp only [List.length_cons]; omega) a2
  refine ⟨v2, ?_, b2', Fr_tr a3 b3⟩
  have h1 : fX12_quantified_j203 (zI j) x2 (zI (sb sg)) v = fX12_quantified_j215 (zI j) (zI (sb sg)) (zI ((if b then 24 else 25 : Nat) : Int)) v := by
    unfold fX12_quantified_j203
    rw [hx2]
    cases b with
    | true => rw [if_neg (by decide)]; rfl
    | false => rw [if_pos (by decide)]; rfl
  rw [h1]
  unfold fX12_quantified_j215
  rw [show (0 : Int32) = zI (0 : Nat) from rfl, a1, bd_s, ld_z _ _ _ _ (by omega) (by omega), bd_s, bd_s, Int.toNat_natCast, Fr_I a3 rfl, h115]
  cases sg with
  | true => rw [if_neg (by decide)]; show (bd (fX12_push (zI ((20 + sb true : Nat) : Int)) (zI j1) v1) fun u4 => some u4) = _; rw [b1, bd_s]
  | false => rw [if_pos (by decide)]; show (bd (fX12_push (zI ((20 + sb false : Nat) : Int)) (zI j1) v1) fun u4 => some u4) = _; rw [b1, bd_s]
/-- a sign of all -/
theorem rq_all {u0 v : St} {S NC NR nb j j1 x y : Nat} (sg : Bool) {l : List (Int × Int)} {vs : List Nat} {el : List (Nat × Int)} {ar : List Int} {na nf W MD : Nat} {s G : List Cs} (hj : j < 1600) (hj1 : j1 < 2000) (h115 : I v 115 j = j1) (hl : l.length < 5900) (hel : el.length < 600) (har : ar.length < 600) (hna : na < 1000000) (hNC : NC ≤ 1501) (hy : y < NR) (hxy : NmR (J u0 38 x) (J v 119 y)) (h : RMk u0 v S NC NR nb l vs el ar na nf W MD s G) : ∃ v', (bd (fX12_bind (zI y) (gI v 100 53) v) fun u25 => bd (st u25 129 700 (gI u25 100 55) (gI u25 100 53)) fun u26 => lt (uI u26 100 53 ((gI u26 100 53) + 1)) fun u27 => lt (uI u27 100 55 ((gI u27 100 55) + 1)) fun u28 => fX12_quantified_j203 (zI j) 1 (zI (sb sg)) u28) = some v' ∧ RMk u0 v' S NC NR nb ((((20 + sb sg : Nat) : Int), (j1 : Int)) :: (((if true then 24 else 25 : Nat) : Int), 0) :: l) vs ((x, -1 - (na : Int)) :: el) (ar ++ [-1 - (na : Int)]) (na + 1) nf W MD s G ∧ Fr QM v v' ∧ (∀ y, J v' 119 y = J v 119 y) := by
  have hst := h
  obtain ⟨c1, c2, c3, c4, c5, c6, c7, c8, c9, c10, c11, c12, c13, c14, c15, c16⟩ := h
  have hNR := names_le c7
  obtain ⟨va, k1, k2, k3, k4, k5, Fa⟩ := rbind_spec (v := v) (n := el.length) (y : Int) (na : Int) (by omega) c5 (by omega) (by omega) (by omega) (by omega)
  have a55 : I va 100 55 = ar.length := by rw [Fr_I Fa rfl]; exact c8
  have a53 : I va 100 53 = na := by rw [Fr_I Fa rfl]; exact c10
  obtain ⟨vb, hvb⟩ : ∃ vb, uI va 129 ar.length (zI (na : Int)) = vb := ⟨_, rfl⟩
  have Fb : Fr (fun k _ => k == 129) va vb := by rw [← hvb]; exact Fr_up rfl (Fr_rfl _ _)
  have b53 : I vb 100 53 = na := by rw [Fr_I Fb rfl]; exact a53
  obtain ⟨vc, hvc⟩ : ∃ vc, uI vb 100 53 (zI ((na + 1 : Nat) : Int)) = vc := ⟨_, rfl⟩
  have Fc : Fr (fun k i => k == 100 && i == 53) vb vc := by rw [← hvc]; exact Fr_up rfl (Fr_rfl _ _)
  have c55 : I vc 100 55 = ar.length := by rw [Fr_I Fc rfl, Fr_I Fb rfl]; exact a55
  obtain ⟨vd, hvd⟩ : ∃ vd, uI vc 100 55 (zI ((ar.length + 1 : Nat) : Int)) = vd := ⟨_, rfl⟩
  have Fd : Fr (fun k i => k == 100 && i == 55) vc vd := by rw [← hvd]; exact Fr_up rfl (Fr_rfl _ _)
  have F : Fr (fun k i => k == 126 || k == 127 || k == 129 || (k == 100 && (i == 49 || i == 53 || i == 55))) v vd := Fr_tr (Fr_up2 (fun k i hk => by simp at hk; simp; omega) Fa) (Fr_tr (Fr_up2 (fun k i hk => by simp at hk; simp [hk]) Fb) (Fr_tr (Fr_up2 (fun k i hk => by simp at hk; simp [hk]) Fc) (Fr_up2 (fun k i hk => by simp at hk; simp [hk]) Fd)))
  have FQ : Fr Qen v vd := Fr_up2 (fun k i hk => by simp at hk; simp [Qen]; omega) F
  have Fbd : Fr (fun k i => k == 129 || (k == 100 && (i == 53 || i == 55))) va vd := Fr_tr (Fr_up2 (fun k i hk => by simp at hk; simp [hk]) Fb) (Fr_tr (Fr_up2 (fun k i hk => by simp at hk; simp [hk]) Fc) (Fr_up2 (fun k i hk => by simp at hk; simp [hk]) Fd))
  have hE : ELl u0 vd NR nb nf (ar ++ [-1 - (na : Int)]) ((x, -1 - (na : Int)) :: el) := by
    refine ⟨⟨y, hy, by rw [Fr_I Fbd rfl]; exact k2, by rw [Fr_J F rfl]; exact hxy⟩, ?_, fun hm => ?_, ELl_mono (nf := nf) [-1 - (na : Int)] (fun i _ => Fr_I F rfl) (fun i _ => Fr_I F rfl) (Nat.le_refl _) (Nat.le_refl _) (fun y _ => Fr_J F rfl) el el.length (Nat.le_refl _) (fun i hi => ⟨by rw [Fr_I Fbd rfl]; exact (k5 i (by omega)).1, by rw [Fr_I Fbd rfl]; exact (k5 i (by omega)).2⟩) c6⟩
    · rw [Fr_I Fbd rfl, k3]
      show (na : Int) = cis (-1 - (na : Int))
      unfold cis; rw [if_pos (by omega)]; omega
    · exfalso
      have : (0 : Int) ≤ -1 - (na : Int) := hm
      omega
  have h129 : ∀ i, I vd 129 i = if i = ar.length then (na : Int) else I v 129 i := by
    intro i
    rw [Fr_I Fd rfl, Fr_I Fc rfl, ← hvb, I_uI _ _ _ _ (by omega) (by omega)]
    by_cases hi : i = ar.length
    · rw [if_pos ⟨rfl, hi⟩, if_pos hi]
    · rw [if_neg (fun hh => hi hh.2), if_neg hi, Fr_I Fa rfl]
  have hR := RMk_env (W' := W) (na' := na + 1) (nf' := nf) (el' := (x, -1 - (na : Int)) :: el) FQ (by rw [Fr_I F rfl]; exact c3) (by rw [Fr_I F rfl]; exact c4) (by rw [Fr_I Fbd rfl]; exact k4) hE (NMx_fr F (fun _ => rfl) rfl c7) (by rw [← hvd, I_uI1 _ _ _ _ (by omega) (by omega)]; simp) (by
    rw [List.map_append]
    refine RWl_app _ _ _ (RWl_eq _ _ (fun i _ h2 => by simp only [List.length_map] at h2; rw [h129, if_neg (by omega)]) c9) ⟨?_, trivial⟩
    rw [h129, if_pos (by simp)]; show (na : Int) = -1 - (-1 - (na : Int)); omega) (by rw [Fr_I Fd rfl, ← hvc]; exact I_uI1 _ _ _ _ (by omega) (by omega)) (by rw [Fr_I F rfl]; exact c11) (fun i _ => Fr_I F rfl) (Nat.le_refl _) hst
  obtain ⟨v', t1, t2, t3⟩ := rq_tail (j := j) (j1 := j1) true sg 1 rfl hj hj1 (by rw [Fr_I F rfl]; exact h115) hl hR
  refine ⟨v', ?_, t2, Fr_tr (Fr_up2 Qen_QM FQ) (Fr_up2 Qts_QM t3), fun y => by rw [Fr_J t3 rfl, Fr_J F rfl]⟩
  rw [gI_z v 100 53, c10, k1, bd_s, gI_z va 100 55, a55, gI_z va 100 53, a53, st_z _ _ _ _ _ (by omega) (by omega), bd_s, Int.toNat_natCast, hvb, gI_z vb 100 53, b53, show (zI (na : Int) + 1 : Int32) = zI ((na + 1 : Nat) : Int) by rw [show (1 : Int32) = zI 1 from rfl, z_add]; rfl, lt_e, hvc, gI_z vc 100 55, c55, show (zI (ar.length : Int) + 1 : Int32) = zI ((ar.length + 1 : Nat) : Int) by rw [show (1 : Int32) = zI 1 from rfl, z_add]; rfl, lt_e, hvd, t1]
/-- the variables around are copied -/
theorem qcopy (x1 x2 x3 x4 : Int32) {nb nf k : Nat} (hf : nb ≤ nf) (hf2 : nf ≤ nb + 3000) (hf3 : nf < 1000000000) (hk : k ≤ 5) (r : List Int) : ∀ (i : Nat) (v : St) (Fu : Nat), RWl v 129 i r → i + r.length = k → I v 100 55 = k → I v 100 7 = nf → I v 100 8 = nb → ∃ v', fX12_quantified_L0 (Fu + r.length) 0 x1 x2 x3 x4 (zI i) v = fX12_quantified_L0 Fu 0 x1 x2 x3 x4 (zI k) v' ∧ RWl v' 135 (5 * (nf - nb) + i) r ∧ (∀ q, q < 5 * (nf - nb) + i → I v' 135 q = I v 135 q) ∧ Fr (fun k _ => k == 135) v v' := by
  induction r with
  | nil =>
    intro i v Fu _ hi _ _ _
    have : i = k := by simpa using hi
    subst this
    exact ⟨v, rfl, trivial, fun _ _ => rfl, Fr_rfl _ _⟩
  | cons z r ih =>
    intro i v Fu hR hi h55 h7 h8
    simp only [List.length_cons] at hi
    have hz1 := I_lo v 129 i
    have hz2 := I_hi v 129 i
    rw [hR.1] at hz1 hz2
    obtain ⟨va, hva⟩ : ∃ va, uI v 135 (5 * (nf - nb) + i) (zI z) = va := ⟨_, rfl⟩
    have Fa : Fr (fun k _ => k == 135) v va := by rw [← hva]; exact Fr_up rfl (Fr_rfl _ _)
    obtain ⟨v', a1, a2, a3, a4⟩ := ih (i + 1) va Fu (RWl_eq _ _ (fun i _ _ => Fr_I Fa rfl) hR.2) (by omega) (by rw [Fr_I Fa rfl]; exact h55) (by rw [Fr_I Fa rfl]; exact h7) (by rw [Fr_I Fa rfl]; exact h8)
    refine ⟨v', ?_, ⟨?_, by rw [← Nat.add_assoc] at a2; exact a2⟩, fun q hq => ?_, Fr_tr Fa a4⟩
    · have sx : fX12_quantified_L0 (Fu + (z :: r).length) 0 x1 x2 x3 x4 (zI i) v = fX12_quantified_L0_0 (fX12_quantified_L0 (Fu + r.length)) x1 x2 x3 x4 (zI i) v := rfl
      rw [sx]
      unfold fX12_quantified_L0_0
      rw [gI_z v 100 55, h55, if_neg (by rw [z_le (by omega) (by omega) (by omega) (by omega)]; omega), ld_z _ _ _ _ (by omega) (by omega), bd_s, Int.toNat_natCast, hR.1, gI_z v 100 7, h7, gI_z v 100 8, h8, z_sub, show (5 : Int32) = zI 5 from rfl, z_mul, z_add, st_z _ _ _ _ _ (by omega) (by omega), bd_s, show (5 * ((nf : Int) - (nb : Int)) + (i : Int)).toNat = 5 * (nf - nb) + i by omega, hva, lt_e, show (1 : Int32) = zI 1 from rfl, z_add]
      exact a1
    · rw [a3 _ (by omega), ← hva]; exact I_uI1 _ _ _ _ hz1 hz2
    · rw [a3 q (by omega), ← hva, I_uI2 _ _ _ _ _ _ (by omega)]
/-- a sign of some -/
theorem rq_some {u0 v : St} {S NC NR nb j j1 x y : Nat} (sg : Bool) {l : List (Int × Int)} {vs : List Nat} {el : List (Nat × Int)} {ar : List Int} {na nf W MD : Nat} {s G : List Cs} (hj : j < 1600) (hj1 : j1 < 2000) (h115 : I v 115 j = j1) (hl : l.length < 5900) (hel : el.length < 600) (har : ar.length ≤ 5) (hf : nb ≤ nf) (hf2 : nf ≤ nb + 3000) (hf3 : nf < 1000000000) (hNC : NC ≤ 1501) (hy : y < NR) (hxy : NmR (J u0 38 x) (J v 119 y)) (h : RMk u0 v S NC NR nb l vs el ar na nf W MD s G) : ∃ v', fX12_quantified_L0 FU 0 (zI j) 0 (zI (sb sg)) (zI y) 0 v = some v' ∧ RMk u0 v' S NC NR nb ((((20 + sb sg : Nat) : Int), (j1 : Int)) :: (((if false then 24 else 25 : Nat) : Int), 0) :: l) vs ((x, 8 * (4097 + (nf : Int)) + ar.length) :: el) ar na (nf + 1) W MD s G ∧ Fr QM v v' ∧ (∀ y, J v' 119 y = J v 119 y) := by
  have hst := h
  obtain ⟨c1, c2, c3, c4, c5, c6, c7, c8, c9, c10, c11, c12, c13, c14, c15, c16⟩ := h
  have hNR := names_le c7
  obtain ⟨va, q1, q2, q3, Fa⟩ := qcopy (zI j) 0 (zI (sb sg)) (zI y) hf hf2 hf3 har (ar.map (fun z => -1 - z)) 0 v (999999999 - ar.length + 1) c9 (by simp) c8 c11 c12
  have a55 : I va 100 55 = ar.length := by rw [Fr_I Fa rfl]; exact c8
  have a7 : I va 100 7 = nf := by rw [Fr_I Fa rfl]; exact c11
  have a8 : I va 100 8 = nb := by rw [Fr_I Fa rfl]; exact c12
  obtain ⟨vb, hvb⟩ : ∃ vb, uI va 105 (nf - nb) (zI (ar.length : Int)) = vb := ⟨_, rfl⟩
  have Fb : Fr (fun k _ => k == 105) va vb := by rw [← hvb]; exact Fr_up rfl (Fr_rfl _ _)
  have b7 : I vb 100 7 = nf := by rw [Fr_I Fb rfl]; exact a7
  obtain ⟨vc, hvc⟩ : ∃ vc, uI vb 100 7 (zI ((nf + 1 : Nat) : Int)) = vc := ⟨_, rfl⟩
  have Fc : Fr (fun k i => k == 100 && i == 7) vb vc := by rw [← hvc]; exact Fr_up rfl (Fr_rfl _ _)
  have c7' : I vc 100 7 = ((nf + 1 : Nat) : Int) := by rw [← hvc]; exact I_uI1 _ _ _ _ (by omega) (by omega)
  have c49 : I vc 100 49 = el.length := by rw [Fr_I Fc rfl, Fr_I Fb rfl, Fr_I Fa rfl]; exact c5
  obtain ⟨vd, k1, k2, k3, k4, k5, Fd⟩ := rbind_spec (v := vc) (n := el.length) (y : Int) (-((nf + 1 : Nat) : Int)) (by omega) c49 (by omega) (by omega) (by omega) (by omega)
  have F : Fr (fun k i => k == 126 || k == 127 || k == 135 || k == 105 || (k == 100 && (i == 49 || i == 7))) v vd := Fr_tr (Fr_up2 (fun k i hk => by simp at hk; simp [hk]) Fa) (Fr_tr (Fr_up2 (fun k i hk => by simp at hk; simp [hk]) Fb) (Fr_tr (Fr_up2 (fun k i hk => by simp at hk; simp [hk]) Fc) (Fr_up2 (fun k i hk => by simp at hk; simp; omega) Fd)))
  have FQ : Fr Qen v vd := Fr_up2 (fun k i hk => by simp at hk; simp [Qen]; omega) F
  have h105 : ∀ i, I vd 105 i = if i = nf - nb then (ar.length : Int) else I v 105 i := by
    intro i
    rw [Fr_I Fd rfl, Fr_I Fc rfl, ← hvb, I_uI _ _ _ _ (by omega) (by omega)]
    by_cases hi : i = nf - nb
    · rw [if_pos ⟨rfl, hi⟩, if_pos hi]
    · rw [if_neg (fun hh => hi hh.2), if_neg hi, Fr_I Fa rfl]
  have h135 : ∀ i, I vd 135 i = I va 135 i := fun i => by rw [Fr_I Fd rfl, Fr_I Fc rfl, Fr_I Fb rfl]
  have hE : ELl u0 vd NR nb (nf + 1) ar ((x, 8 * (4097 + (nf : Int)) + ar.length) :: el) := by
    refine ⟨⟨y, hy, k2, by rw [Fr_J F rfl]; exact hxy⟩, ?_, fun hm => ⟨nf, hf, by omega, ?_, ?_, ?_, ?_, ?_⟩, ?_⟩
    · rw [k3]
      show -((nf + 1 : Nat) : Int) = cis (8 * (4097 + (nf : Int)) + ar.length)
      unfold cis; rw [if_neg (by omega)]; omega
    · show (8 * (4097 + (nf : Int)) + ar.length) / 8 = 4097 + nf; omega
    · show (8 * (4097 + (nf : Int)) + ar.length) % 8 ≤ 5; omega
    · show (8 * (4097 + (nf : Int)) + ar.length) % 8 ≤ ar.length; omega
    · show I vd 105 (nf - nb) = (8 * (4097 + (nf : Int)) + ar.length) % 8
      rw [h105, if_pos rfl]; omega
    · show RWl vd 135 (5 * (nf - nb)) ((ar.take ((8 * (4097 + (nf : Int)) + ar.length) % 8).toNat).map (fun z => -1 - z))
      rw [show ((8 * (4097 + (nf : Int)) + ar.length) % 8).toNat = ar.length by omega, List.take_length]
      exact RWl_eq _ _ (fun i _ _ => h135 i) q2
    · have := ELl_mono (u0 := u0) (v := v) (v' := vd) (NR := NR) (NR' := NR) (nb := nb) (nf := nf) (nf' := nf + 1) (ar := ar) [] (fun i hi => by rw [h105, if_neg (by omega)]) (fun i hi => by rw [h135, q3 i (by omega)]) (by omega) (Nat.le_refl _) (fun y _ => Fr_J F rfl) el el.length (Nat.le_refl _) (fun i hi => ⟨by rw [(k5 i (by omega)).1, Fr_I Fc rfl, Fr_I Fb rfl, Fr_I Fa rfl], by rw [(k5 i (by omega)).2, Fr_I Fc rfl, Fr_I Fb rfl, Fr_I Fa rfl]⟩) c6
      rw [List.append_nil] at this; exact this
  have hR := RMk_env (W' := W) (na' := na) (nf' := nf + 1) (el' := (x, 8 * (4097 + (nf : Int)) + ar.length) :: el) FQ (by rw [Fr_I F rfl]; exact c3) (by rw [Fr_I F rfl]; exact c4) k4 hE (NMx_fr F (fun _ => rfl) rfl c7) (by rw [Fr_I F rfl]; exact c8) (RWl_eq _ _ (fun i _ _ => Fr_I F rfl) c9) (by rw [Fr_I F rfl]; exact c10) (by rw [Fr_I Fd rfl]; exact c7') (fun i hi => by rw [h105, if_neg (by omega)]) (by omega) hst
  obtain ⟨v', t1, t2, t3⟩ := rq_tail (j := j) (j1 := j1) false sg 0 rfl hj hj1 (by rw [Fr_I F rfl]; exact h115) hl hR
  refine ⟨v', ?_, t2, Fr_tr (Fr_up2 Qen_QM FQ) (Fr_up2 Qts_QM t3), fun y => by rw [Fr_J t3 rfl, Fr_J F rfl]⟩
  have hFU : FU = (999999999 - ar.length + 1) + (ar.map (fun z => -1 - z)).length := by rw [List.length_map]; unfold FU; omega
  have sx : ∀ F w, fX12_quantified_L0 (F + 1) 0 (zI j) 0 (zI (sb sg)) (zI y) (zI ar.length) w = fX12_quantified_L0_0 (fX12_quantified_L0 F) (zI j) 0 (zI (sb sg)) (zI y) (zI ar.length) w := fun _ _ => rfl
  have q1' : fX12_quantified_L0 FU 0 (zI j) 0 (zI (sb sg)) (zI y) 0 v = fX12_quantified_L0 (999999999 - ar.length + 1) 0 (zI j) 0 (zI (sb sg)) (zI y) (zI ar.length) va := by rw [hFU]; exact q1
  rw [q1', sx]
  unfold fX12_quantified_L0_0
  rw [gI_z va 100 55, a55, if_pos (by rw [z_le (by omega) (by omega) (by omega) (by omega)]; omega), gI_z va 100 7, a7, gI_z va 100 8, a8, z_sub, st_z _ _ _ _ _ (by omega) (by omega), bd_s, show ((nf : Int) - (nb : Int)).toNat = nf - nb by omega, hvb, gI_z vb 100 7, b7, show (zI (nf : Int) + 1 : Int32) = zI ((nf + 1 : Nat) : Int) by rw [show (1 : Int32) = zI 1 from rfl, z_add]; rfl, lt_e, hvc, gI_z vc 100 7, c7', z_neg, k1, bd_s]
  exact t1
