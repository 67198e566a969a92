/-! reading: free variables come first, both sides -/
def rng (n : Nat) : List Int := (List.range n).map (fun i : Nat => -1 - (i : Int))
theorem rng_succ (n : Nat) : rng (n + 1) = rng n ++ [-1 - (n : Int)] := by unfold rng; rw [List.range_succ, List.map_append]; rfl
theorem rng_len (n : Nat) : (rng n).length = n := by unfold rng; simp
theorem rng_neg (n : Nat) : ∀ z, z ∈ rng n → z < 0 := by
  intro z hz
  obtain ⟨i, _, hi⟩ := List.mem_map.1 hz
  omega
theorem addF_mem (B : Nat → Nat) (hB : ∀ x, B x = 0) (l : List Nat) : ∀ F x, (x ∈ F ∨ x ∈ l) → x ∈ addF B F l := by
  induction l with
  | nil => intro F x h; rcases h with h | h; exact h; cases h
  | cons a l ih =>
    intro F x h
    simp only [addF]
    refine ih _ x ?_
    by_cases ha : a ∈ F
    · rw [if_neg (fun hh => hh.2 ha)]
      rcases h with h | h
      · exact Or.inl h
      · rcases List.mem_cons.1 h with h | h
        · subst h; exact Or.inl ha
        · exact Or.inr h
    · rw [if_pos ⟨hB a, ha⟩]
      rcases h with h | h
      · exact Or.inl (List.mem_append_left _ h)
      · rcases List.mem_cons.1 h with h | h
        · subst h; exact Or.inl (by simp)
        · exact Or.inr h
def Pmf : Nat → Nat → Bool := fun k i => k == 43 || k == 47 || (k == 5 && (i == 12 || i == 13))
theorem mk_free {F : List Nat} {r : Nat} (hFl : F.length ≤ 250) (hF : F.Nodup) (hx : ∀ x, x ∈ F → x < 1501) (d : Nat) : ∀ (i Fu : Nat) (u : St), i + d = F.length → I u 3 12 = F.length → (∀ k x : Nat, F[k]? = some x → I u 41 k = x) → I u 5 13 = i → I u 5 12 = i → RWl u 47 0 (rng i) → (∀ k x : Nat, k < i → F[k]? = some x → I u 43 x = -1 - (k : Int)) → ∃ u', fX0_make_L1 (Fu + (d + 1)) 0 (zI r) (zI i) u = (bd (fX0_push 0 (zI r) u') fun u14 => fX0_make_L0 FU 0 (zI (0 : Nat)) u14) ∧ I u' 5 13 = F.length ∧ I u' 5 12 = F.length ∧ RWl u' 47 0 (rng F.length) ∧ (∀ k x : Nat, F[k]? = some x → I u' 43 x = -1 - (k : Int)) ∧ Fr Pmf u u' := by
  induction d with
  | zero =>
    intro i Fu u hi h12 h41 h13 h5 hR h43
    have : i = F.length := by omega
    subst this
    refine ⟨u, ?_, h13, h5, hR, fun k x hk => h43 k x (get_lt hk) hk, Fr_rfl _ _⟩
    have sx : fX0_make_L1 (Fu + (0 + 1)) 0 (zI r) (zI F.length) u = fX0_make_L1_0 (fX0_make_L1 Fu) (zI r) (zI F.length) u := rfl
    rw [sx]
    unfold fX0_make_L1_0
    rw [gI_z u 3 12, h12, if_pos (by rw [z_le (by omega) (by omega) (by omega) (by omega)]; omega)]
    rfl
  | succ d ih =>
    intro i Fu u hi h12 h41 h13 h5 hR h43
    obtain ⟨x, hxi⟩ : ∃ x, F[i]? = some x := ⟨F[i]'(by omega), List.getElem?_eq_getElem (by omega)⟩
    have hx1 := hx x (List.mem_iff_getElem?.2 ⟨i, hxi⟩)
    obtain ⟨ua, hua⟩ : ∃ ua, uI u 5 13 (zI ((i + 1 : Nat) : Int)) = ua := ⟨_, rfl⟩
    have Fa : Fr (fun k i => k == 5 && i == 13) u ua := by rw [← hua]; exact Fr_up rfl (Fr_rfl _ _)
    have a13 : I ua 5 13 = ((i + 1 : Nat) : Int) := by rw [← hua]; exact I_uI1 _ _ _ _ (by omega) (by omega)
    obtain ⟨ub, hub⟩ : ∃ ub, uI ua 47 i (zI (-1 - (i : Int))) = ub := ⟨_, rfl⟩
    have Fb : Fr (fun k _ => k == 47) ua ub := by rw [← hub]; exact Fr_up rfl (Fr_rfl _ _)
    obtain ⟨uc, huc⟩ : ∃ uc, uI ub 5 12 (zI ((i + 1 : Nat) : Int)) = uc := ⟨_, rfl⟩
    have Fc : Fr (fun k i => k == 5 && i == 12) ub uc := by rw [← huc]; exact Fr_up rfl (Fr_rfl _ _)
    obtain ⟨ud, hud⟩ : ∃ ud, uI uc 43 x (zI (-1 - (i : Int))) = ud := ⟨_, rfl⟩
    have Fd : Fr (fun k _ => k == 43) uc ud := by rw [← hud]; exact Fr_up rfl (Fr_rfl _ _)
    have FF : Fr Pmf u ud := Fr_tr (Fr_up2 (fun k i hk => by simp at hk; simp [Pmf, hk]) Fa) (Fr_tr (Fr_up2 (fun k i hk => by simp at hk; simp [Pmf, hk]) Fb) (Fr_tr (Fr_up2 (fun k i hk => by simp at hk; simp [Pmf, hk]) Fc) (Fr_up2 (fun k i hk => by simp at hk; simp [Pmf, hk]) Fd)))
    have hstep : fX0_make_L1 (Fu + (d + 1 + 1)) 0 (zI r) (zI i) u = fX0_make_L1 (Fu + (d + 1)) 0 (zI r) (zI ((i + 1 : Nat) : Int)) ud := by
      have sx : fX0_make_L1 (Fu + (d + 1 + 1)) 0 (zI r) (zI i) u = fX0_make_L1_0 (fX0_make_L1 (Fu + (d + 1))) (zI r) (zI i) u := rfl
      rw [sx]
      unfold fX0_make_L1_0
      rw [gI_z u 3 12, h12, if_neg (by rw [z_le (by omega) (by omega) (by omega) (by omega)]; omega), ld_z _ _ _ _ (by omega) (by omega), bd_s, Int.toNat_natCast, h41 i x hxi]
      unfold fX0_newVariable
      rw [gI_z u 5 13, h13, show (zI (i : Int) + 1 : Int32) = zI ((i + 1 : Nat) : Int) by rw [show (1 : Int32) = zI 1 from rfl, z_add]; rfl, lt_e, hua, gI_z ua 5 12, Fr_I Fa rfl, h5, if_neg (by rw [z_lit, z_le (by decide) (by decide) (by omega) (by omega)]; omega), gI_z ua 5 13, a13, z_neg, show -((i + 1 : Nat) : Int) = -1 - (i : Int) by omega, st_z _ _ _ _ _ (by omega) (by omega), bd_s, Int.toNat_natCast, hub, gI_z ub 5 12, Fr_I Fb rfl, Fr_I Fa rfl, h5, show (zI (i : Int) + 1 : Int32) = zI ((i + 1 : Nat) : Int) by rw [show (1 : Int32) = zI 1 from rfl, z_add]; rfl, lt_e, huc, gI_z uc 5 13, Fr_I Fc rfl, Fr_I Fb rfl, a13, z_neg, show -((i + 1 : Nat) : Int) = -1 - (i : Int) by omega, b2_s, st_z _ _ _ _ _ (by omega) (by omega), bd_s, Int.toNat_natCast, hud, lt_e]
    have g43 : ∀ y, I ud 43 y = if y = x then -1 - (i : Int) else I u 43 y := by
      intro y
      rw [← hud, I_uI _ _ _ _ (by omega) (by omega)]
      by_cases hy : y = x
      · rw [if_pos ⟨rfl, hy⟩, if_pos hy]
      · rw [if_neg (fun hh => hy hh.2), if_neg hy, Fr_I Fc rfl, Fr_I Fb rfl, Fr_I Fa rfl]
    have g47 : ∀ k, I ud 47 k = if k = i then -1 - (i : Int) else I u 47 k := by
      intro k
      rw [Fr_I Fd rfl, Fr_I Fc rfl, ← hub, I_uI _ _ _ _ (by omega) (by omega)]
      by_cases hk : k = i
      · rw [if_pos ⟨rfl, hk⟩, if_pos hk]
      · rw [if_neg (fun hh => hk hh.2), if_neg hk, Fr_I Fa rfl]
    obtain ⟨u', q1, q2, q3, q4, q5, q6⟩ := ih (i + 1) Fu ud (by omega) (by rw [Fr_I FF rfl]; exact h12) (fun k y hk => by rw [Fr_I FF rfl]; exact h41 k y hk) (by rw [Fr_I Fd rfl, Fr_I Fc rfl, Fr_I Fb rfl]; exact a13) (by rw [Fr_I Fd rfl, ← huc]; exact I_uI1 _ _ _ _ (by omega) (by omega)) (by
      rw [rng_succ]
      refine RWl_app _ _ _ (RWl_eq _ _ (fun k _ hk => by rw [rng_len] at hk; rw [g47, if_neg (by omega)]) hR) ⟨?_, trivial⟩
      rw [rng_len, Nat.zero_add, g47, if_pos rfl]) (fun k y hk hy => by
      by_cases hki : k = i
      · subst hki
        rw [hxi] at hy
        have := Option.some.inj hy
        subst this
        rw [g43, if_pos rfl]
      · have hyx : y ≠ x := fun hh => by
          subst hh
          have h1 := List.getElem?_eq_getElem (show k < F.length by omega)
          have h2 := List.getElem?_eq_getElem (show i < F.length by omega)
          rw [hy] at h1
          rw [hxi] at h2
          exact hki ((List.getElem_inj hF).1 ((Option.some.inj h1).symm.trans (Option.some.inj h2)))
        rw [g43, if_neg hyx]; exact h43 k y (by omega) hy)
    exact ⟨u', by rw [hstep, q1], q2, q3, q4, q5, Fr_tr FF q6⟩
/-- the reference, before a formula goes inside -/
def BLr (u0 v : St) (NC NR nb nf W i : Nat) (el : List (Nat × Int)) (F : List Nat) : Prop := I v 100 47 = 0 ∧ I v 100 48 = W ∧ I v 100 49 = el.length ∧ el.length = i ∧ ELl u0 v NR nb nf (rng i) el ∧ NMx u0 v NC NR ∧ I v 100 55 = i ∧ RWl v 129 0 ((rng i).map (fun z => -1 - z)) ∧ I v 100 53 = i ∧ I v 100 7 = nf ∧ I v 100 8 = nb ∧ I v 100 56 = 0 ∧ I v 100 61 = 0 ∧ I v 100 73 = F.length ∧ NLr u0 v NR 143 F ∧ (∀ e, e ∈ el → e.1 < NC) ∧ (∀ k x : Nat, k < i → F[k]? = some x → lkp el x = some (-1 - (k : Int)))
theorem bl_loop {u0 : St} {NC NR nb nf W : Nat} {F : List Nat} (x1 : Int32) (hNC : NC ≤ 1501) (hFl : F.length ≤ 250) (hF : F.Nodup) (hx : ∀ x, x ∈ F → x < NC) (d : Nat) : ∀ (i Fu : Nat) (v : St) (el : List (Nat × Int)), i + d = F.length → BLr u0 v NC NR nb nf W i el F → ∃ v' el', fX12_become_L1 (Fu + (d + 1)) 0 x1 (zI i) v = fX12_become_L1 (Fu + 1) 0 x1 (zI F.length) v' ∧ BLr u0 v' NC NR nb nf W F.length el' F ∧ Fr QM v v' ∧ (∀ y, J v' 119 y = J v 119 y) := by
  induction d with
  | zero =>
    intro i Fu v el hi h
    have : i = F.length := by omega
    subst this
    exact ⟨v, el, rfl, h, Fr_rfl _ _, fun _ => rfl⟩
  | succ d ih =>
    intro i Fu v el hi h
    obtain ⟨h47, h48, h49, hel, hE, hN, h55, h129, h53, h7, h8, h56, h61, h73, hNL, hen, hlk⟩ := h
    have hNR := names_le hN
    obtain ⟨x, hxi⟩ : ∃ x, F[i]? = some x := ⟨F[i]'(by omega), List.getElem?_eq_getElem (by omega)⟩
    have hx1 := hx x (List.mem_iff_getElem?.2 ⟨i, hxi⟩)
    obtain ⟨y, y1, y2, y3⟩ := hNL i x hxi
    obtain ⟨va, k1, k2, k3, k4, k5, Fa⟩ := rbind_spec (v := v) (n := el.length) (y : Int) (i : Int) (by omega) h49 (by omega) (by omega) (by omega) (by omega)
    have a55 : I va 100 55 = i := by rw [Fr_I Fa rfl]; exact h55
    have a53 : I va 100 53 = i := by rw [Fr_I Fa rfl]; exact h53
    obtain ⟨vb, hvb⟩ : ∃ vb, uI va 129 i (zI (i : Int)) = vb := ⟨_, rfl⟩
    have Fb : Fr (fun k _ => k == 129) va vb := by rw [← hvb]; exact Fr_up rfl (Fr_rfl _ _)
    have b53 : I vb 100 53 = i := by rw [Fr_I Fb rfl]; exact a53
    obtain ⟨vc, hvc⟩ : ∃ vc, uI vb 100 53 (zI ((i + 1 : Nat) : Int)) = vc := ⟨_, rfl⟩
    have Fc : Fr (fun k i => k == 100 && i == 53) vb vc := by rw [← hvc]; exact Fr_up rfl (Fr_rfl _ _)
    have c55 : I vc 100 55 = i := by rw [Fr_I Fc rfl, Fr_I Fb rfl]; exact a55
    obtain ⟨vd, hvd⟩ : ∃ vd, uI vc 100 55 (zI ((i + 1 : Nat) : Int)) = vd := ⟨_, rfl⟩
    have Fd : Fr (fun k i => k == 100 && i == 55) vc vd := by rw [← hvd]; exact Fr_up rfl (Fr_rfl _ _)
    have FF : Fr (fun k i => k == 126 || k == 127 || k == 129 || (k == 100 && (i == 49 || i == 53 || i == 55))) v vd := Fr_tr (Fr_up2 (fun k i hk => by simp at hk; simp; omega) Fa) (Fr_tr (Fr_up2 (fun k i hk => by simp at hk; simp [hk]) Fb) (Fr_tr (Fr_up2 (fun k i hk => by simp at hk; simp [hk]) Fc) (Fr_up2 (fun k i hk => by simp at hk; simp [hk]) Fd)))
    have Fbd : Fr (fun k i => k == 129 || (k == 100 && (i == 53 || i == 55))) va vd := Fr_tr (Fr_up2 (fun k i hk => by simp at hk; simp [hk]) Fb) (Fr_tr (Fr_up2 (fun k i hk => by simp at hk; simp [hk]) Fc) (Fr_up2 (fun k i hk => by simp at hk; simp [hk]) Fd))
    have g129 : ∀ k, I vd 129 k = if k = i then (i : Int) else I v 129 k := by
      intro k
      rw [Fr_I Fd rfl, Fr_I Fc rfl, ← hvb, I_uI _ _ _ _ (by omega) (by omega)]
      by_cases hk : k = i
      · rw [if_pos ⟨rfl, hk⟩, if_pos hk]
      · rw [if_neg (fun hh => hk hh.2), if_neg hk, Fr_I Fa rfl]
    have hB : BLr u0 vd NC NR nb nf W (i + 1) ((x, -1 - (i : Int)) :: el) F := by
      refine ⟨by rw [Fr_I FF rfl]; exact h47, by rw [Fr_I FF rfl]; exact h48, by rw [Fr_I Fbd rfl]; exact k4, by simp [hel], ?_, NMx_fr FF (fun _ => rfl) rfl hN, by rw [← hvd]; exact I_uI1 _ _ _ _ (by omega) (by omega), ?_, by rw [Fr_I Fd rfl, ← hvc]; exact I_uI1 _ _ _ _ (by omega) (by omega), by rw [Fr_I FF rfl]; exact h7, by rw [Fr_I FF rfl]; exact h8, by rw [Fr_I FF rfl]; exact h56, by rw [Fr_I FF rfl]; exact h61, by rw [Fr_I FF rfl]; exact h73, NLr_up (Nat.le_refl _) (fun k _ => Fr_I FF rfl) (fun y _ => Fr_J FF rfl) hNL, fun e he => ?_, fun k z hk hz => ?_⟩
      · rw [rng_succ]
        refine ⟨⟨y, y1, by rw [Fr_I Fbd rfl]; exact k2, by rw [Fr_J FF rfl]; exact y3⟩, ?_, fun hm => ?_, ELl_mono (nf := nf) [-1 - (i : Int)] (fun k _ => Fr_I FF rfl) (fun k _ => Fr_I FF rfl) (Nat.le_refl _) (Nat.le_refl _) (fun y _ => Fr_J FF rfl) el el.length (Nat.le_refl _) (fun k hk => ⟨by rw [Fr_I Fbd rfl]; exact (k5 k (by omega)).1, by rw [Fr_I Fbd rfl]; exact (k5 k (by omega)).2⟩) hE⟩
        · rw [Fr_I Fbd rfl, k3]
          show (i : Int) = cis (-1 - (i : Int))
          unfold cis; rw [if_pos (by omega)]; omega
        · exfalso
          have : (0 : Int) ≤ -1 - (i : Int) := hm
          omega
      · rw [rng_succ, List.map_append]
        refine RWl_app _ _ _ (RWl_eq _ _ (fun k _ hk => by rw [List.length_map, rng_len] at hk; rw [g129, if_neg (by omega)]) h129) ⟨?_, trivial⟩
        rw [List.length_map, rng_len, Nat.zero_add, g129, if_pos rfl]
        show (i : Int) = -1 - (-1 - (i : Int)); omega
      · rcases List.mem_cons.1 he with he | he
        · subst he; exact hx1
        · exact hen e he
      · simp only [lkp]
        by_cases hki : k = i
        · subst hki
          rw [hxi] at hz
          have := Option.some.inj hz
          subst this
          rw [if_pos rfl]
        · have hzx : x ≠ z := fun hh => by
            subst hh
            have h1 := List.getElem?_eq_getElem (show k < F.length by omega)
            have h2 := List.getElem?_eq_getElem (show i < F.length by omega)
            rw [hz] at h1
            rw [hxi] at h2
            exact hki ((List.getElem_inj hF).1 ((Option.some.inj h1).symm.trans (Option.some.inj h2)))
          rw [if_neg hzx]; exact hlk k z (by omega) hz
    have hstep : fX12_become_L1 (Fu + (d + 1 + 1)) 0 x1 (zI i) v = fX12_become_L1 (Fu + (d + 1)) 0 x1 (zI ((i + 1 : Nat) : Int)) vd := by
      have sx : fX12_become_L1 (Fu + (d + 1 + 1)) 0 x1 (zI i) v = fX12_become_L1_0 (fX12_become_L1 (Fu + (d + 1))) x1 (zI i) v := rfl
      rw [sx]
      unfold fX12_become_L1_0
      rw [gI_z v 100 73, h73, if_neg (by rw [z_le (by omega) (by omega) (by omega) (by omega)]; omega), ld_z _ _ _ _ (by omega) (by omega), bd_s, Int.toNat_natCast, y2, gI_z v 100 53, h53, k1, bd_s, gI_z va 100 55, a55, gI_z va 100 53, a53, st_z _ _ _ _ _ (by omega) (by omega), bd_s, Int.toNat_natCast, hvb, gI_z vb 100 53, b53, show (zI (i : Int) + 1 : Int32) = zI ((i + 1 : Nat) : Int) by rw [show (1 : Int32) = zI 1 from rfl, z_add]; rfl, lt_e, hvc, gI_z vc 100 55, c55, show (zI (i : Int) + 1 : Int32) = zI ((i + 1 : Nat) : Int) by rw [show (1 : Int32) = zI 1 from rfl, z_add]; rfl, lt_e, hvd, lt_e]
    obtain ⟨v', el', q1, q2, q3, q4⟩ := ih (i + 1) Fu vd _ (by omega) hB
    exact ⟨v', el', by rw [hstep, q1], q2, Fr_tr (Fr_up2 (fun k i hk => by simp at hk; simp [QM]; omega) FF) q3, fun y => by rw [q4, Fr_J FF rfl]⟩
