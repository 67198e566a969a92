/-! reading: a formula's tasks, in the class -/
def sb (s : Bool) : Nat := if s then 1 else 0
theorem sb_lt (s : Bool) : sb s < 8 := by cases s <;> decide
theorem per_vis (s : Bool) (i : Nat) (u : St) : fX0_perform (zI (sb s)) (zI i) u = bd (fX0_visit (zI i) (zI (sb s)) u) fun u19 => some u19 := by
  cases s with
  | true => unfold fX0_perform; rw [if_neg (by decide), if_neg (by decide), if_neg (by decide)]
  | false => unfold fX0_perform; rw [if_neg (by decide), if_neg (by decide), if_neg (by decide)]
theorem vis_52 (s : Bool) (i : Nat) (u : St) (hi : i < 1501) : fX0_visit (zI i) (zI (sb s)) u = fX0_visit_j52 (zI i) (zI (sb s)) (zI (I u 34 i)) (zI (I u 35 i)) (zI (sb (!s))) (zI (jt s)) (zI (jt (!s))) u := by
  unfold fX0_visit
  rw [ld_z _ _ _ _ (by omega) (by omega), bd_s, ld_z _ _ _ _ (by omega) (by omega), bd_s, Int.toNat_natCast]
  cases s with
  | true =>
    rw [if_neg (by decide)]
    unfold fX0_visit_j30
    rw [if_neg (by decide)]
    unfold fX0_visit_j41
    rw [if_neg (by decide)]
    rfl
  | false =>
    rw [if_pos (by decide)]
    unfold fX0_visit_j30
    rw [if_pos (by decide)]
    unfold fX0_visit_j41
    rw [if_pos (by decide)]
    rfl
theorem vis_k (s : Bool) (i k : Nat) (u : St) (hi : i < 1501) (hk : I u 33 i = (k : Nat)) (hk7 : k ≤ 7) (l r : Int) (hl : I u 34 i = l) (hr : I u 35 i = r) : fX0_perform (zI (sb s)) (zI i) u =
    if k = 0 then fX0_literal (zI l) (zI r) (zI (sgb s)) u
    else if k = 1 then fX0_push (zI (sb (!s))) (zI l) u
    else if k = 2 then fX0_pushPair (zI (jt (!s))) (zI (sb s)) (zI l) (zI (sb s)) (zI r) u
    else if k = 3 then fX0_pushPair (zI (jt s)) (zI (sb s)) (zI l) (zI (sb s)) (zI r) u
    else if k = 4 then fX0_pushPair (zI (jt s)) (zI (sb (!s))) (zI l) (zI (sb s)) (zI r) u
    else if k = 5 then (bd (fX0_push (zI (jt (!s))) (zI 0) u) fun u21 => bd (fX0_pushPair (zI (jt s)) (zI (sb (!s))) (zI r) (zI (sb s)) (zI l) u21) fun u22 => fX0_pushPair (zI (jt s)) (zI (sb (!s))) (zI l) (zI (sb s)) (zI r) u22)
    else (bd (fX0_enter (zI l) (if (k = 6) = (s = false) then 1 else 0) u) fun u1 => bd (fX0_push (zI 4) (zI 0) u1) fun u2 => fX0_push (zI (sb s)) (zI r) u2) := by
  have bs : ∀ o : Option St, (bd o fun x => some x) = o := fun o => by cases o <;> rfl
  rw [per_vis, bs, vis_52 s i u hi, hl, hr]
  unfold fX0_visit_j52
  rw [ld_z _ _ _ _ (by omega) (by omega), bd_s, Int.toNat_natCast, hk]
  have : k = 0 ∨ k = 1 ∨ k = 2 ∨ k = 3 ∨ k = 4 ∨ k = 5 ∨ k = 6 ∨ k = 7 := by omega
  rcases this with h | h | h | h | h | h | h | h <;> subst h
  · rw [if_pos (by decide), if_pos rfl]
    cases s with
    | true => rw [if_pos (by decide), bs]; rfl
    | false => rw [if_neg (by decide), bs]; rfl
  · rw [if_neg (by decide), if_pos (by decide), if_neg (by decide), if_pos rfl, bs]
  · rw [if_neg (by decide), if_neg (by decide), if_pos (by decide), if_neg (by decide), if_neg (by decide), if_pos rfl, bs]
  · rw [if_neg (by decide), if_neg (by decide), if_neg (by decide), if_pos (by decide), if_neg (by decide), if_neg (by decide), if_neg (by decide), if_pos rfl, bs]
  · rw [if_neg (by decide), if_neg (by decide), if_neg (by decide), if_neg (by decide), if_pos (by decide), if_neg (by decide), if_neg (by decide), if_neg (by decide), if_neg (by decide), if_pos rfl, bs]
  · rw [if_neg (by decide), if_neg (by decide), if_neg (by decide), if_neg (by decide), if_neg (by decide), if_pos (by decide), if_neg (by decide), if_neg (by decide), if_neg (by decide), if_neg (by decide), if_neg (by decide), if_pos rfl]
    show (bd (fX0_push (zI (jt (!s))) (zI 0) u) fun u21 => bd (fX0_pushPair (zI (jt s)) (zI (sb (!s))) (zI r) (zI (sb s)) (zI l) u21) fun u22 => bd (fX0_pushPair (zI (jt s)) (zI (sb (!s))) (zI l) (zI (sb s)) (zI r) u22) fun u23 => some u23) = _
    simp only [bs]
  · rw [if_neg (by decide), if_neg (by decide), if_neg (by decide), if_neg (by decide), if_neg (by decide), if_neg (by decide), if_neg (by decide), if_neg (by decide), if_neg (by decide), if_neg (by decide), if_neg (by decide), if_neg (by decide), bd_s, if_pos (by decide)]
    unfold fX0_visit_j228 fX0_visit_j245
    simp only [bs]
    cases s with
    | true => rw [if_neg (by decide), if_neg (by decide), if_neg (by decide)]; rfl
    | false => rw [if_pos (by decide), if_pos (by decide), if_pos (by decide)]; rfl
  · rw [if_neg (by decide), if_neg (by decide), if_neg (by decide), if_neg (by decide), if_neg (by decide), if_neg (by decide), if_neg (by decide), if_neg (by decide), if_neg (by decide), if_neg (by decide), if_neg (by decide), if_neg (by decide), bd_s, if_neg (by decide)]
    unfold fX0_visit_j228 fX0_visit_j245
    simp only [bs]
    cases s with
    | true => rw [if_neg (by decide), if_pos (by decide), if_pos (by decide)]; rfl
    | false => rw [if_pos (by decide), if_neg (by decide), if_neg (by decide)]; rfl
theorem cmk_pair {u : St} {ts : List Int} {ρ : Nat → Int} {scs : List (Nat × Int × Nat)} {ar : List Int} {na nf : Nat} {s G : List Cs} {CT NL : Nat} (b s1 s2 : Bool) (l r : Nat) (hl : l < 2000) (hr : r < 2000) (ht : ts.length + 2 < 4500) (h : CMk u ts ρ scs ar na nf s G CT NL) : ∃ u', fX0_pushPair (zI (jt b)) (zI (sb s1)) (zI l) (zI (sb s2)) (zI r) u = some u' ∧ CMk u' (((8 * l + sb s1 : Nat) : Int) :: ((8 * r + sb s2 : Nat) : Int) :: ((jt b : Nat) : Int) :: ts) ρ scs ar na nf s G CT NL ∧ Fr P42 u u' := by
  obtain ⟨u1, a1, a2, a3⟩ := cmk_push (jt b) 0 (jt_lt b) (by decide) (by omega) h
  obtain ⟨u2, b1, b2', b3⟩ := cmk_push (sb s2) r (sb_lt s2) hr (by simp only [List.length_cons]; omega) a2
  obtain ⟨u3, c1, c2, c3⟩ := cmk_push (sb s1) l (sb_lt s1) hl (by simp only [List.length_cons]; omega) b2'
  rw [Nat.mul_zero, Nat.zero_add] at c2
  refine ⟨u3, ?_, c2, Fr_tr a3 (Fr_tr b3 c3)⟩
  unfold fX0_pushPair
  rw [show (0 : Int32) = zI (0 : Nat) from rfl, a1, bd_s, b1, bd_s, c1, bd_s]
/-- a variable's sign of all -/
theorem enter_all {u : St} {ts : List Int} {ρ : Nat → Int} {scs : List (Nat × Int × Nat)} {ar : List Int} {na nf : Nat} {s G : List Cs} {CT NL x : Nat} (hx : x < 1501) (hsc : scs.length < 40) (har : ar.length < 290) (hna : na < 1000000) (h : CMk u ts ρ scs ar na nf s G CT NL) : ∃ u', fX0_enter (zI x) 1 u = some u' ∧ CMk u' ts (updm ρ x (-1 - (na : Int))) ((x, ρ x, ar.length) :: scs) (ar ++ [-1 - (na : Int)]) (na + 1) nf s G CT NL ∧ Fr PM u u' := by
  obtain ⟨c1, c2, c3, c4, c5, c6, c7, c8⟩ := h
  have hv := c3 x hx
  have hv1 := I_lo u 43 x
  have hv2 := I_hi u 43 x
  rw [hv] at hv1 hv2
  obtain ⟨ua, hua⟩ : ∃ ua, uI u 44 scs.length (zI x) = ua := ⟨_, rfl⟩
  have Fa : Fr (fun k _ => k == 44) u ua := by rw [← hua]; exact Fr_up rfl (Fr_rfl _ _)
  obtain ⟨ub, hub⟩ : ∃ ub, uI ua 45 scs.length (zI (ρ x)) = ub := ⟨_, rfl⟩
  have Fb : Fr (fun k _ => k == 45) ua ub := by rw [← hub]; exact Fr_up rfl (Fr_rfl _ _)
  obtain ⟨uc, huc⟩ : ∃ uc, uI ub 46 scs.length (zI ar.length) = uc := ⟨_, rfl⟩
  have Fc : Fr (fun k _ => k == 46) ub uc := by rw [← huc]; exact Fr_up rfl (Fr_rfl _ _)
  obtain ⟨ud, hud⟩ : ∃ ud, uI uc 5 10 (zI ((scs.length + 1 : Nat) : Int)) = ud := ⟨_, rfl⟩
  have Fd : Fr (fun k i => k == 5 && i == 10) uc ud := by rw [← hud]; exact Fr_up rfl (Fr_rfl _ _)
  obtain ⟨ue, hue⟩ : ∃ ue, uI ud 5 13 (zI ((na + 1 : Nat) : Int)) = ue := ⟨_, rfl⟩
  have Fe : Fr (fun k i => k == 5 && i == 13) ud ue := by rw [← hue]; exact Fr_up rfl (Fr_rfl _ _)
  obtain ⟨uf, huf⟩ : ∃ uf, uI ue 47 ar.length (zI (-1 - (na : Int))) = uf := ⟨_, rfl⟩
  have Ff : Fr (fun k _ => k == 47) ue uf := by rw [← huf]; exact Fr_up rfl (Fr_rfl _ _)
  obtain ⟨ug, hug⟩ : ∃ ug, uI uf 5 12 (zI ((ar.length + 1 : Nat) : Int)) = ug := ⟨_, rfl⟩
  have Fg : Fr (fun k i => k == 5 && i == 12) uf ug := by rw [← hug]; exact Fr_up rfl (Fr_rfl _ _)
  obtain ⟨uh, huh⟩ : ∃ uh, uI ug 43 x (zI (-1 - (na : Int))) = uh := ⟨_, rfl⟩
  have Fh : Fr (fun k _ => k == 43) ug uh := by rw [← huh]; exact Fr_up rfl (Fr_rfl _ _)
  have F1 : Fr PM u uh := Fr_tr (Fr_up2 (fun k i hk => by simp at hk; simp [PM, hk]) Fa) (Fr_tr (Fr_up2 (fun k i hk => by simp at hk; simp [PM, hk]) Fb) (Fr_tr (Fr_up2 (fun k i hk => by simp at hk; simp [PM, hk]) Fc) (Fr_tr (Fr_up2 (fun k i hk => by simp at hk; simp [PM, hk]) Fd) (Fr_tr (Fr_up2 (fun k i hk => by simp at hk; simp [PM, hk]) Fe) (Fr_tr (Fr_up2 (fun k i hk => by simp at hk; simp [PM, hk]) Ff) (Fr_tr (Fr_up2 (fun k i hk => by simp at hk; simp [PM, hk]) Fg) (Fr_up2 (fun k i hk => by simp at hk; simp [PM, hk]) Fh)))))))
  have FX : Fr (fun k i => k == 43 || k == 44 || k == 45 || k == 46 || k == 47 || (k == 5 && (i == 10 || i == 12 || i == 13))) u uh := Fr_tr (Fr_up2 (fun k i hk => by simp at hk; simp [hk]) Fa) (Fr_tr (Fr_up2 (fun k i hk => by simp at hk; simp [hk]) Fb) (Fr_tr (Fr_up2 (fun k i hk => by simp at hk; simp [hk]) Fc) (Fr_tr (Fr_up2 (fun k i hk => by simp at hk; simp [hk]) Fd) (Fr_tr (Fr_up2 (fun k i hk => by simp at hk; simp [hk]) Fe) (Fr_tr (Fr_up2 (fun k i hk => by simp at hk; simp [hk]) Ff) (Fr_tr (Fr_up2 (fun k i hk => by simp at hk; simp [hk]) Fg) (Fr_up2 (fun k i hk => by simp at hk; simp [hk]) Fh)))))))
  have i10 : ∀ w, Fr (fun k i => k == 44 || k == 45 || k == 46) u w → I w 5 10 = scs.length := fun w hw => by rw [Fr_I hw rfl]; exact c4.1
  have f10a : I ua 5 10 = scs.length := by rw [Fr_I Fa rfl]; exact c4.1
  have f10b : I ub 5 10 = scs.length := by rw [Fr_I Fb rfl]; exact f10a
  have f10c : I uc 5 10 = scs.length := by rw [Fr_I Fc rfl]; exact f10b
  have f12b : I ub 5 12 = ar.length := by rw [Fr_I Fb rfl, Fr_I Fa rfl]; exact c5.1
  have f13d : I ud 5 13 = na := by rw [Fr_I Fd rfl, Fr_I Fc rfl, Fr_I Fb rfl, Fr_I Fa rfl]; exact c6
  have f13e : I ue 5 13 = ((na + 1 : Nat) : Int) := by rw [← hue]; exact I_uI1 _ _ _ _ (by omega) (by omega)
  have f12e : I ue 5 12 = ar.length := by rw [Fr_I Fe rfl, Fr_I Fd rfl, Fr_I Fc rfl]; exact f12b
  have f12f : I uf 5 12 = ar.length := by rw [Fr_I Ff rfl]; exact f12e
  have f13g : I ug 5 13 = ((na + 1 : Nat) : Int) := by rw [Fr_I Fg rfl, Fr_I Ff rfl]; exact f13e
  refine ⟨uh, ?_, ⟨WK_fr FX (fun _ => rfl) rfl c1, by rw [Fr_I FX rfl]; exact c2, fun y hy => ?_, ⟨?_, ?_, ?_, ?_, SCl_eq scs scs.length (Nat.le_refl _) (fun i hi => ⟨?_, ?_, ?_⟩) c4.2⟩, ⟨?_, ?_, by simp only [List.length_append, List.length_cons, List.length_nil]; omega⟩, ?_, by rw [Fr_I FX rfl]; exact c7, WY_fr FX (fun k i hk => by simp; omega) c8⟩, F1⟩
  · unfold fX0_enter
    rw [gI_z u 5 10, c4.1, if_neg (by rw [z_lit, z_le (by decide) (by decide) (by omega) (by omega)]; omega), if_neg (by decide)]
    unfold fX0_enter_j26
    rw [gI_z u 5 10, c4.1, st_z _ _ _ _ _ (by omega) (by omega), bd_s, Int.toNat_natCast, hua, ld_z _ _ _ _ (by omega) (by omega), bd_s, Int.toNat_natCast, Fr_I Fa rfl, hv, gI_z ua 5 10, f10a, st_z _ _ _ _ _ (by omega) (by omega), bd_s, Int.toNat_natCast, hub, gI_z ub 5 10, f10b, gI_z ub 5 12, f12b, st_z _ _ _ _ _ (by omega) (by omega), bd_s, Int.toNat_natCast, huc, gI_z uc 5 10, f10c, show (zI (scs.length : Int) + 1 : Int32) = zI ((scs.length + 1 : Nat) : Int) by rw [show (1 : Int32) = zI 1 from rfl, z_add]; rfl, lt_e, hud, if_neg (by decide)]
    unfold fX0_newVariable
    rw [gI_z ud 5 13, f13d, show (zI (na : Int) + 1 : Int32) = zI ((na + 1 : Nat) : Int) by rw [show (1 : Int32) = zI 1 from rfl, z_add]; rfl, lt_e, hue, gI_z ue 5 12, f12e, if_neg (by rw [z_lit, z_le (by decide) (by decide) (by omega) (by omega)]; omega), gI_z ue 5 13, f13e, z_neg, show -((na + 1 : Nat) : Int) = -1 - (na : Int) by omega, st_z _ _ _ _ _ (by omega) (by omega), bd_s, Int.toNat_natCast, huf, gI_z uf 5 12, f12f, show (zI (ar.length : Int) + 1 : Int32) = zI ((ar.length + 1 : Nat) : Int) by rw [show (1 : Int32) = zI 1 from rfl, z_add]; rfl, lt_e, hug, gI_z ug 5 13, f13g, z_neg, show -((na + 1 : Nat) : Int) = -1 - (na : Int) by omega, b2_s, st_z _ _ _ _ _ (by omega) (by omega), bd_s, Int.toNat_natCast, huh]
  · rw [← huh, I_uI _ _ _ _ (by omega) (by omega)]
    unfold updm
    by_cases hyx : y = x
    · rw [if_pos ⟨rfl, hyx⟩, if_pos hyx]
    · rw [if_neg (fun hh => hyx hh.2), if_neg hyx, Fr_I Fg rfl, Fr_I Ff rfl, Fr_I Fe rfl, Fr_I Fd rfl, Fr_I Fc rfl, Fr_I Fb rfl, Fr_I Fa rfl]; exact c3 y hy
  · rw [Fr_I Fh rfl, Fr_I Fg rfl, Fr_I Ff rfl, Fr_I Fe rfl, ← hud]; exact I_uI1 _ _ _ _ (by omega) (by omega)
  · rw [Fr_I Fh rfl, Fr_I Fg rfl, Fr_I Ff rfl, Fr_I Fe rfl, Fr_I Fd rfl, Fr_I Fc rfl, Fr_I Fb rfl, ← hua]; exact I_uI1 _ _ _ _ (by omega) (by omega)
  · rw [Fr_I Fh rfl, Fr_I Fg rfl, Fr_I Ff rfl, Fr_I Fe rfl, Fr_I Fd rfl, Fr_I Fc rfl, ← hub]; exact I_uI1 _ _ _ _ hv1 hv2
  · rw [Fr_I Fh rfl, Fr_I Fg rfl, Fr_I Ff rfl, Fr_I Fe rfl, Fr_I Fd rfl, ← huc]; exact I_uI1 _ _ _ _ (by omega) (by omega)
  · rw [Fr_I Fh rfl, Fr_I Fg rfl, Fr_I Ff rfl, Fr_I Fe rfl, Fr_I Fd rfl, Fr_I Fc rfl, Fr_I Fb rfl, ← hua, I_uI2 _ _ _ _ _ _ (by omega)]
  · rw [Fr_I Fh rfl, Fr_I Fg rfl, Fr_I Ff rfl, Fr_I Fe rfl, Fr_I Fd rfl, Fr_I Fc rfl, ← hub, I_uI2 _ _ _ _ _ _ (by omega), Fr_I Fa rfl]
  · rw [Fr_I Fh rfl, Fr_I Fg rfl, Fr_I Ff rfl, Fr_I Fe rfl, Fr_I Fd rfl, ← huc, I_uI2 _ _ _ _ _ _ (by omega), Fr_I Fb rfl, Fr_I Fa rfl]
  · rw [Fr_I Fh rfl, ← hug, I_uI1 _ _ _ _ (by omega) (by omega)]; simp
  · have e47 : ∀ i, I uh 47 i = if i = ar.length then -1 - (na : Int) else I u 47 i := by
      intro i
      rw [Fr_I Fh rfl, Fr_I Fg rfl, ← huf, I_uI _ _ _ _ (by omega) (by omega)]
      by_cases hi : i = ar.length
      · rw [if_pos ⟨rfl, hi⟩, if_pos hi]
      · rw [if_neg (fun hh => hi hh.2), if_neg hi, Fr_I Fe rfl, Fr_I Fd rfl, Fr_I Fc rfl, Fr_I Fb rfl, Fr_I Fa rfl]
    exact RWl_app _ _ _ (RWl_eq _ _ (fun i _ h2 => by rw [e47, if_neg (by omega)]) c5.2.1) ⟨by rw [e47, if_pos (by omega)], trivial⟩
  · rw [Fr_I Fh rfl]; exact f13g
/-- a sign of some: a function -/
theorem enter_some {u : St} {ts : List Int} {ρ : Nat → Int} {scs : List (Nat × Int × Nat)} {ar : List Int} {na nf : Nat} {s G : List Cs} {CT NL x : Nat} (hx : x < 1501) (hsc : scs.length < 40) (har : ar.length ≤ 5) (hnf : nf < 200000000) (h : CMk u ts ρ scs ar na nf s G CT NL) : ∃ u', fX0_enter (zI x) 0 u = some u' ∧ CMk u' ts (updm ρ x (8 * (4097 + (nf : Int)) + ar.length)) ((x, ρ x, ar.length) :: scs) ar na (nf + 1) s G CT NL ∧ Fr PM u u' := by
  obtain ⟨c1, c2, c3, c4, c5, c6, c7, c8⟩ := h
  have hv := c3 x hx
  have hv1 := I_lo u 43 x
  have hv2 := I_hi u 43 x
  rw [hv] at hv1 hv2
  obtain ⟨ua, hua⟩ : ∃ ua, uI u 44 scs.length (zI x) = ua := ⟨_, rfl⟩
  have Fa : Fr (fun k _ => k == 44) u ua := by rw [← hua]; exact Fr_up rfl (Fr_rfl _ _)
  obtain ⟨ub, hub⟩ : ∃ ub, uI ua 45 scs.length (zI (ρ x)) = ub := ⟨_, rfl⟩
  have Fb : Fr (fun k _ => k == 45) ua ub := by rw [← hub]; exact Fr_up rfl (Fr_rfl _ _)
  obtain ⟨uc, huc⟩ : ∃ uc, uI ub 46 scs.length (zI ar.length) = uc := ⟨_, rfl⟩
  have Fc : Fr (fun k _ => k == 46) ub uc := by rw [← huc]; exact Fr_up rfl (Fr_rfl _ _)
  obtain ⟨ud, hud⟩ : ∃ ud, uI uc 5 10 (zI ((scs.length + 1 : Nat) : Int)) = ud := ⟨_, rfl⟩
  have Fd : Fr (fun k i => k == 5 && i == 10) uc ud := by rw [← hud]; exact Fr_up rfl (Fr_rfl _ _)
  obtain ⟨ue, hue⟩ : ∃ ue, uI ud 2 4 (zI ((nf + 1 : Nat) : Int)) = ue := ⟨_, rfl⟩
  have Fe : Fr (fun k i => k == 2 && i == 4) ud ue := by rw [← hue]; exact Fr_up rfl (Fr_rfl _ _)
  obtain ⟨uh, huh⟩ : ∃ uh, uI ue 43 x (zI (8 * (4097 + (nf : Int)) + ar.length)) = uh := ⟨_, rfl⟩
  have Fh : Fr (fun k _ => k == 43) ue uh := by rw [← huh]; exact Fr_up rfl (Fr_rfl _ _)
  have F1 : Fr PM u uh := Fr_tr (Fr_up2 (fun k i hk => by simp at hk; simp [PM, hk]) Fa) (Fr_tr (Fr_up2 (fun k i hk => by simp at hk; simp [PM, hk]) Fb) (Fr_tr (Fr_up2 (fun k i hk => by simp at hk; simp [PM, hk]) Fc) (Fr_tr (Fr_up2 (fun k i hk => by simp at hk; simp [PM, hk]) Fd) (Fr_tr (Fr_up2 (fun k i hk => by simp at hk; simp [PM, hk]) Fe) (Fr_up2 (fun k i hk => by simp at hk; simp [PM, hk]) Fh)))))
  have FX : Fr (fun k i => k == 43 || k == 44 || k == 45 || k == 46 || (k == 2 && i == 4) || (k == 5 && i == 10)) u uh := Fr_tr (Fr_up2 (fun k i hk => by simp at hk; simp [hk]) Fa) (Fr_tr (Fr_up2 (fun k i hk => by simp at hk; simp [hk]) Fb) (Fr_tr (Fr_up2 (fun k i hk => by simp at hk; simp [hk]) Fc) (Fr_tr (Fr_up2 (fun k i hk => by simp at hk; simp [hk]) Fd) (Fr_tr (Fr_up2 (fun k i hk => by simp at hk; simp [hk]) Fe) (Fr_up2 (fun k i hk => by simp at hk; simp [hk]) Fh)))))
  have f10a : I ua 5 10 = scs.length := by rw [Fr_I Fa rfl]; exact c4.1
  have f10b : I ub 5 10 = scs.length := by rw [Fr_I Fb rfl]; exact f10a
  have f10c : I uc 5 10 = scs.length := by rw [Fr_I Fc rfl]; exact f10b
  have f12b : I ub 5 12 = ar.length := by rw [Fr_I Fb rfl, Fr_I Fa rfl]; exact c5.1
  have f4d : I ud 2 4 = nf := by rw [Fr_I Fd rfl, Fr_I Fc rfl, Fr_I Fb rfl, Fr_I Fa rfl]; exact c7
  have f4e : I ue 2 4 = ((nf + 1 : Nat) : Int) := by rw [← hue]; exact I_uI1 _ _ _ _ (by omega) (by omega)
  have f12e : I ue 5 12 = ar.length := by rw [Fr_I Fe rfl, Fr_I Fd rfl, Fr_I Fc rfl]; exact f12b
  refine ⟨uh, ?_, ⟨WK_fr FX (fun _ => rfl) rfl c1, by rw [Fr_I FX rfl]; exact c2, fun y hy => ?_, ⟨?_, ?_, ?_, ?_, SCl_eq scs scs.length (Nat.le_refl _) (fun i hi => ⟨?_, ?_, ?_⟩) c4.2⟩, ⟨by rw [Fr_I FX rfl]; exact c5.1, RWl_eq _ _ (fun i _ _ => Fr_I FX rfl) c5.2.1, c5.2.2⟩, by rw [Fr_I FX rfl]; exact c6, by rw [Fr_I Fh rfl]; exact f4e, WY_fr FX (fun k i hk => by simp; omega) c8⟩, F1⟩
  · unfold fX0_enter
    rw [gI_z u 5 10, c4.1, if_neg (by rw [z_lit, z_le (by decide) (by decide) (by omega) (by omega)]; omega), if_pos rfl]
    unfold fX0_functionFits
    rw [gI_z u 5 12, c5.1, if_neg (by rw [z_lit, z_lt (by decide) (by decide) (by omega) (by omega)]; omega), gI_z u 2 4, c7, if_neg (by rw [z_lit, z_le (by decide) (by decide) (by omega) (by omega)]; omega), b2_s, if_neg (by decide)]
    unfold fX0_enter_j26
    rw [gI_z u 5 10, c4.1, st_z _ _ _ _ _ (by omega) (by omega), bd_s, Int.toNat_natCast, hua, ld_z _ _ _ _ (by omega) (by omega), bd_s, Int.toNat_natCast, Fr_I Fa rfl, hv, gI_z ua 5 10, f10a, st_z _ _ _ _ _ (by omega) (by omega), bd_s, Int.toNat_natCast, hub, gI_z ub 5 10, f10b, gI_z ub 5 12, f12b, st_z _ _ _ _ _ (by omega) (by omega), bd_s, Int.toNat_natCast, huc, gI_z uc 5 10, f10c, show (zI (scs.length : Int) + 1 : Int32) = zI ((scs.length + 1 : Nat) : Int) by rw [show (1 : Int32) = zI 1 from rfl, z_add]; rfl, lt_e, hud, if_pos rfl, gI_z ud 2 4, f4d, show (zI (nf : Int) + 1 : Int32) = zI ((nf + 1 : Nat) : Int) by rw [show (1 : Int32) = zI 1 from rfl, z_add]; rfl, lt_e, hue, lt_e, gI_z ue 2 4, f4e, show (4096 : Int32) = zI 4096 from rfl, z_add, show (3 : Int32) = zI 3 from rfl, show (31 : Int32) = zI 31 from rfl, z_shl3, gI_z ue 5 12, f12e, z_or8 _ _ (by omega) (by omega) (by omega) (by omega), st_z _ _ _ _ _ (by omega) (by omega), bd_s, Int.toNat_natCast, show (4096 + ((nf + 1 : Nat) : Int)) * 8 + (ar.length : Int) = 8 * (4097 + (nf : Int)) + ar.length by omega, huh]
  · rw [← huh, I_uI _ _ _ _ (by omega) (by omega)]
    unfold updm
    by_cases hyx : y = x
    · rw [if_pos ⟨rfl, hyx⟩, if_pos hyx]
    · rw [if_neg (fun hh => hyx hh.2), if_neg hyx, Fr_I Fe rfl, Fr_I Fd rfl, Fr_I Fc rfl, Fr_I Fb rfl, Fr_I Fa rfl]; exact c3 y hy
  · rw [Fr_I Fh rfl, Fr_I Fe rfl, ← hud]; exact I_uI1 _ _ _ _ (by omega) (by omega)
  · rw [Fr_I Fh rfl, Fr_I Fe rfl, Fr_I Fd rfl, Fr_I Fc rfl, Fr_I Fb rfl, ← hua]; exact I_uI1 _ _ _ _ (by omega) (by omega)
  · rw [Fr_I Fh rfl, Fr_I Fe rfl, Fr_I Fd rfl, Fr_I Fc rfl, ← hub]; exact I_uI1 _ _ _ _ hv1 hv2
  · rw [Fr_I Fh rfl, Fr_I Fe rfl, Fr_I Fd rfl, ← huc]; exact I_uI1 _ _ _ _ (by omega) (by omega)
  · rw [Fr_I Fh rfl, Fr_I Fe rfl, Fr_I Fd rfl, Fr_I Fc rfl, Fr_I Fb rfl, ← hua, I_uI2 _ _ _ _ _ _ (by omega)]
  · rw [Fr_I Fh rfl, Fr_I Fe rfl, Fr_I Fd rfl, Fr_I Fc rfl, ← hub, I_uI2 _ _ _ _ _ _ (by omega), Fr_I Fa rfl]
  · rw [Fr_I Fh rfl, Fr_I Fe rfl, Fr_I Fd rfl, ← huc, I_uI2 _ _ _ _ _ _ (by omega), Fr_I Fb rfl, Fr_I Fa rfl]
/-- too many variables around -/
theorem enter_none {u : St} {x : Int32} {l : Nat} (hsc : 0 ≤ I u 5 10 ∧ I u 5 10 < 40) (h12 : I u 5 12 = l) (hl : 5 < l) (hl2 : l ≤ 290) : fX0_enter x 0 u = some (uI u 5 5 (zI 1)) := by
  unfold fX0_enter
  rw [gI_z u 5 10, if_neg (by rw [z_lit, z_le (by decide) (by decide) (by omega) (by omega)]; omega), if_pos rfl]
  unfold fX0_functionFits
  rw [gI_z u 5 12, h12, if_pos (by rw [z_lit, z_lt (by decide) (by decide) (by omega) (by omega)]; omega), b2_s, if_pos rfl]
  rfl
/-- a scope ends -/
theorem leave_spec {u : St} {ts : List Int} {ρ ρ' : Nat → Int} {scs : List (Nat × Int × Nat)} {ar ar' : List Int} {na nf : Nat} {s G : List Cs} {CT NL x : Nat} (hx : x < 1501) (hsc : scs.length < 40) (hρ : ∀ y, y ≠ x → ρ' y = ρ y) (hρx : -2147483648 ≤ ρ x ∧ ρ x < 2147483648) (har : ∃ r, ar' = ar ++ r) (hl : ts.length < 4500) (h : CMk u (((4 : Nat) : Int) :: ts) ρ' ((x, ρ x, ar.length) :: scs) ar' na nf s G CT NL) : ∃ u', (∀ (F x : Nat), x < 1000000 → fX0_make_L0 (F + 1) 0 (zI x) u = fX0_make_L0 F 0 (zI ((x + 1 : Nat) : Int)) u') ∧ CMk u' ts ρ scs ar na nf s G CT NL ∧ Fr PM u u' := by
  obtain ⟨u8, a1, a2, a3⟩ := cmk_pop (w := 4) (n := 0) (by decide) (by decide) hl h
  obtain ⟨c1, c2, c3, c4, c5, c6, c7, c8⟩ := a2
  have c41 : I u8 5 10 = ((scs.length + 1 : Nat) : Int) := c4.1
  obtain ⟨c42, c43, c44, c45⟩ := c4.2
  obtain ⟨r, hr⟩ := har
  have hal : ar.length ≤ 290 := by have := c5.2.2; rw [hr, List.length_append] at this; omega
  obtain ⟨ub, hub⟩ : ∃ ub, uI u8 5 10 (zI scs.length) = ub := ⟨_, rfl⟩
  have Fb : Fr (fun k i => k == 5 && i == 10) u8 ub := by rw [← hub]; exact Fr_up rfl (Fr_rfl _ _)
  obtain ⟨uc, huc⟩ : ∃ uc, uI ub 43 x (zI (ρ x)) = uc := ⟨_, rfl⟩
  have Fc : Fr (fun k _ => k == 43) ub uc := by rw [← huc]; exact Fr_up rfl (Fr_rfl _ _)
  obtain ⟨ud, hud⟩ : ∃ ud, uI uc 5 12 (zI ar.length) = ud := ⟨_, rfl⟩
  have Fd : Fr (fun k i => k == 5 && i == 12) uc ud := by rw [← hud]; exact Fr_up rfl (Fr_rfl _ _)
  have f10 : I ub 5 10 = scs.length := by rw [← hub]; exact I_uI1 _ _ _ _ (by omega) (by omega)
  have FX : Fr (fun k i => k == 43 || (k == 5 && (i == 10 || i == 12))) u8 ud := Fr_tr (Fr_up2 (fun k i hk => by simp at hk; simp [hk]) Fb) (Fr_tr (Fr_up2 (fun k i hk => by simp at hk; simp [hk]) Fc) (Fr_up2 (fun k i hk => by simp at hk; simp [hk]) Fd))
  have hRl : ∀ (l : List Int) (p : Nat), RWl u8 47 p (l ++ r) → RWl u8 47 p l := by
    intro l
    induction l with
    | nil => intro p _; trivial
    | cons z l ih => intro p hh; exact ⟨hh.1, ih _ hh.2⟩
  refine ⟨ud, fun F x' hx' => ?_, ⟨WK_fr FX (fun _ => rfl) rfl c1, by rw [Fr_I FX rfl]; exact c2, fun y hy => ?_, ⟨by rw [Fr_I Fd rfl, Fr_I Fc rfl]; exact f10, SCl_eq scs scs.length (Nat.le_refl _) (fun i hi => ⟨Fr_I FX rfl, Fr_I FX rfl, Fr_I FX rfl⟩) c45⟩, ⟨by rw [← hud]; exact I_uI1 _ _ _ _ (by omega) (by omega), RWl_eq _ _ (fun i _ _ => Fr_I FX rfl) (hRl ar 0 (by rw [← hr]; exact c5.2.1)), hal⟩, by rw [Fr_I FX rfl]; exact c6, by rw [Fr_I FX rfl]; exact c7, WY_fr FX (fun k i hk => by simp; omega) c8⟩, Fr_tr (Fr_up2 P42_PM a3) (Fr_up2 (fun k i hk => by simp at hk; simp [PM]; omega) FX)⟩
  · rw [a1 F x' hx']
    have hp : fX0_perform (zI (4 : Nat)) (zI (0 : Nat)) u8 = some ud := by
      unfold fX0_perform
      rw [if_neg (by decide), if_neg (by decide), if_pos (by decide)]
      unfold fX0_leave
      rw [gI_z u8 5 10, c41, if_neg (by rw [z_zero, z_le (by omega) (by omega) (by decide) (by decide)]; omega), show (1 : Int32) = zI 1 from rfl, z_sub, show ((scs.length + 1 : Nat) : Int) - 1 = scs.length by omega, lt_e, hub, gI_z ub 5 10, f10, ld_z _ _ _ _ (by omega) (by omega), bd_s, ld_z _ _ _ _ (by omega) (by omega), bd_s, Int.toNat_natCast, Fr_I Fb rfl, Fr_I Fb rfl, c42, c43, st_z _ _ _ _ _ (by omega) (by omega), bd_s, Int.toNat_natCast, huc, gI_z uc 5 10, Fr_I Fc rfl, f10, ld_z _ _ _ _ (by omega) (by omega), bd_s, Int.toNat_natCast, Fr_I Fc rfl, Fr_I Fb rfl, c44, lt_e, hud, bd_s]
    rw [hp, bd_s]
  · rw [Fr_I Fd rfl, ← huc, I_uI _ _ _ _ hρx.1 hρx.2]
    by_cases hyx : y = x
    · rw [if_pos ⟨rfl, hyx⟩, hyx]
    · rw [if_neg (fun hh => hyx hh.2), Fr_I Fb rfl, c3 y hy]; exact hρ y hyx
