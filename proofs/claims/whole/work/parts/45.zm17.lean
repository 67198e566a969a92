/-! UNIFYING two literals: the contract -/
theorem begin2_spec {c : Nat → Int} {e : Nat → Nat} {N : Nat} {V : Int} {T : List (Nat × Nat × Int)} (hT : TOK c e N) {u : St} (g l p q : Nat) (b b2 : Int) (hE : WE u c N V T) (hg : g < 150) (h57 : I u 57 g = l) (hl : l < 1201) (h29 : I u 29 l = p) (h58 : I u 58 g = b) (m : Nat) (hm : m < 1201) (h29' : I u 29 m = q) (hp : IO c e N V (p, b)) (hq : IO c e N V (q, b2)) (hpq : ar c p = ar c q) (hp0 : 0 ≤ c p) :
    ∃ u', fX8_begin (zI g) (zI m) (zI b2) u = some u' ∧ WOK 0 u' c e N V T (p + 1, b, ar c p) [] [] ∧ WOK 1 u' c e N V T (q + 1, b2, ar c p) [] [] ∧ Fr (fun k _ => PW 0 k 0 || PW 1 k 0) u u' := by
  have hN := hE.2.1
  have hpN : p < N := hp.1
  have hqN : q < N := hq.1
  have hcp : I u 32 p = c p := hE.1 p hpN
  have h7 : ((ar c p : Nat) : Int) = c p % 8 := by unfold ar; rw [if_neg (by omega)]; omega
  have h5 := (hT _ hpN).1
  obtain ⟨u1, k1, k2, k3⟩ := begin_spec (c := c) (e := e) (N := N) (V := V) (T := T) 0 (by decide) u (p + 1) b (ar c p) (by omega) hp.2.2.1 hp.2.2.2 (by omega) (hT _ hpN).2.2.2.2 (fun x hx => by
    have := IO_args hT hp hx
    exact ⟨this.1, this.2.1⟩)
  obtain ⟨u2, j1, j2, j3⟩ := begin_spec (c := c) (e := e) (N := N) (V := V) (T := T) 1 (by decide) u1 (q + 1) b2 (ar c p) (by omega) hq.2.2.1 hq.2.2.2 (by omega) (by rw [hpq]; exact (hT _ hqN).2.2.2.2) (fun x hx => by
    rw [hpq] at hx
    have := IO_args hT hq hx
    exact ⟨this.1, this.2.1⟩)
  have h29'' : I u1 29 m = q := by rw [Fr_I k3 (PW_other _ (by decide) (by decide) (by decide) (by decide))]; exact h29'
  refine ⟨u2, ?_, WOK_PW (by decide) (by decide) (by decide) j3 k2, j2, Fr_tr (Fr_mono (fun k i hk => by simp only [Bool.or_eq_false_iff] at hk; exact hk.1) k3) (Fr_mono (fun k i hk => by simp only [Bool.or_eq_false_iff] at hk; exact hk.2) j3)⟩
  have e1 : (p : Int) + 1 = ((p + 1 : Nat) : Int) := by omega
  have e2 : (q : Int) + 1 = ((q + 1 : Nat) : Int) := by omega
  unfold fX8_begin
  simp (disch := omega) only [ld_z, bd_s, Int.toNat_natCast, h57, h29, hcp, lt_e, h58, z_lit, z_and7, ← h7, z_add, e1, e2, k1, h29'', j1]
def IOL (c : Nat → Int) (e : Nat → Nat) (N : Nat) (V : Int) (p : Nat) (b : Int) : Prop := IO c e N V (p, b) ∧ 0 ≤ c p
theorem unify_spec {c : Nat → Int} {e : Nat → Nat} {N : Nat} {V : Int} {T : List (Nat × Nat × Int)} (hT : TOK c e N) (hV : V ≤ 220) {u v : St} (hU : UE u v c e N V T) (g l p m q : Nat) (b b2 : Int) (hg : g < 150) (h57 : I u 57 g = l) (hl : l < 1201) (h29 : I u 29 l = p) (h58 : I u 58 g = b) (hm : m < 1201) (h29' : I u 29 m = q) (hp : IOL c e N V p b) (hq : IOL c e N V q b2) (hpq : c p = c q) (h97 : I v 100 97 = 0) (h98 : I v 100 98 = 0) :
    ∃ r r' u' v' T2, fX8_unify (zI g) (zI m) (zI b2) u = some (zI r, u') ∧ fX12_unifyAll (zI p) (zI b) (zI q) (zI b2) v = some (zI r', v') ∧ UO r r' (I v' 100 98) ∧ UE u' v' c e N V (T2 ++ T) ∧ Fr PU u u' ∧ Fr PRU v v' := by
  obtain ⟨hGT, hWE, hTC, hRE, hTR⟩ := hU
  have haar : ar c p = ar c q := by unfold ar; rw [hpq]
  obtain ⟨u1, k1, k2, k3, k4⟩ := begin2_spec hT g l p q b b2 hWE hg h57 hl h29 h58 m hm h29' hp.1 hq.1 haar hp.2
  have hF1 : Fr (fun k _ => PW 0 k 0 || PW 1 k 0 || k == 8) u (uI u1 8 5 (zI 0)) := Fr_up rfl (Fr_mono (fun k i hk => by simp only [Bool.or_eq_false_iff] at hk ⊢; exact hk.1) k4)
  have hF8 : Fr (fun k _ => k == 8) u1 (uI u1 8 5 (zI 0)) := Fr_up rfl (Fr_rfl _ _)
  have hR0 : Fr PAN v (uI v 100 111 (zI 0)) := Fr_up rfl (Fr_rfl _ _)
  have hRT0 := RT_fr hR0 (fun _ => rfl) (fun _ => rfl) (fun _ => rfl) hRE.1
  obtain ⟨v1, j1, j2, j3, j4, j5⟩ := an_spec hT (x := (p, b)) (y := (q, b2)) (la := []) (lb := []) hp.1.1 hq.1.1 haar hp.1.2.2.1 hp.1.2.2.2 hq.1.2.2.1 hq.1.2.2.2 rfl (by decide) hRT0 (I_uI1 _ _ _ _ (by decide) (by decide)) trivial trivial
  rw [List.append_nil] at j2 j3 j4
  have hRv := Fr_tr hR0 j5
  have h5 := (hT _ hp.1.1).1
  obtain ⟨r, r', u', v', T2, w1, w2, w3, w4, w5, w6⟩ := unify_loop hT hV 4000 4000 (by decide) (by decide) FU FU (uI u1 8 5 (zI 0)) v1 T (p + 1, b, ar c p) (q + 1, b2, ar c p) [] [] [] [] (args c e (p, b)) (args c e (q, b2)) ⟨hGT, WE_fr hF1 (fun _ => rfl) (fun _ => rfl) (fun _ => rfl) hWE, TC_fr hF1 rfl (fun _ => rfl) hTC, RE_fr hRv (fun _ => rfl) (fun _ => rfl) (fun _ => rfl) (fun _ => rfl) (fun _ => rfl) hRE, TR_fr hRv rfl (fun _ => rfl) hTR⟩ (WOK_fr hF8 rfl (fun _ => rfl) (fun _ => rfl) (fun _ => rfl) k2) (WOK_fr hF8 rfl (fun _ => rfl) (fun _ => rfl) (fun _ => rfl) k3) (by simp [flat, args]) (by simp [flat, args, haar]) (by unfold args; simp only [items_len]; exact haar) (by unfold args; simp only [items_len]; simp only at h5; omega) (fun z hz => IO_args hT hp.1 hz) (fun z hz => IO_args hT hq.1 hz) (I_uI1 _ _ _ _ (by decide) (by decide)) (by rw [Fr_I hRv rfl, h97]; rfl) (by rw [Fr_I hRv rfl, h98]) j2 j3 j4 (by decide) (by decide)
  refine ⟨r, r', u', v', T2, ?_, ?_, w3, w4, Fr_tr (Fr_mono (fun k i hk => by unfold PU at hk; simp only [Bool.or_eq_false_iff] at hk ⊢; exact ⟨hk.1.1.1.1.1.1, hk.1.1.1.1.2⟩) hF1) w5, Fr_tr (PRU_PAN hRv) w6⟩
  · unfold fX8_unify
    rw [k1, bd_s, lt_e]
    exact w1
  · unfold fX12_unifyAll
    rw [lt_e, show (0 : Int32) = zI 0 from rfl, j1, bd_s]
    exact w2
