/-! reading: a variable in a term -/
theorem px_var {u v : St} {n s b S R NC NR o m : Nat} {B : Nat → Nat} {F : List Nat} (h : PQ u v n s S R NC NR o m B F) (hL : TLs u v n s b 2) : ∃ (x y NC' NR' : Nat) (u1 u2 u3 v1 v4 : St), fX2_want (zI 3) u = some (1, u1) ∧ fX7_variable (gJ u1 1 3) u1 = some (zI x, u2) ∧ fX7_addVariable (zI x) u2 = some u3 ∧ fX12_variableOf (gJ v 100 27) v = some (zI y, v1) ∧ I v 100 33 = R ∧ I v1 100 33 = R ∧ fX12_take (uI (uI v1 118 R (zI (-1 - (y : Int)))) 100 33 (zI ((R + 1 : Nat) : Int))) = some v4 ∧ PQ u3 v4 n b S (R + 1) NC' NR' o m B (addF B F [x]) ∧ PX u u3 v v4 S R NC NR m ∧ NC ≤ NC' ∧ NR ≤ NR' ∧ s < b ∧ CEv u3 v4 NC' NR' R ∧ I u3 37 R = -1 - (x : Int) ∧ R ≤ 1500 := by
  obtain ⟨u1, vt, t1, t2, t3, hsb, t35, t4, t5, _⟩ := px_take h hL (by decide)
  obtain ⟨p1, p2, p3, p4, p5, p6, p7, p8, p9, p10, p11, p12, p13, p14, p15, p16, p17, p18⟩ := h
  have hn := p1.1
  have hbn := hL.2.2.2.2.2.2.2.2.2.2.1
  obtain ⟨w1, w2, w3⟩ := hL.2.2.2.2.2.2.2.2.2.2.2.2 (Or.inr rfl)
  have hwant : fX2_want (zI 3) u = some (1, u1) := by
    unfold fX2_want
    rw [(next_same hL p3 p4).1, b2_s, if_pos (by rfl), t1, bd_s]
  -- the names
  have hN1 : NMc u1 NC := ⟨by rw [Fr_I t4 rfl]; exact p11.1, fun x hx => by rw [Fr_J t4 rfl]; exact p11.2.1 x hx, fun x x' hx hx' hh => p11.2.2 x x' hx hx' (by rw [Fr_J t4 rfl, Fr_J t4 rfl] at hh; exact hh)⟩
  have hw1 : NmR (J u1 1 3) (J v 100 27) := by rw [Fr_J t4 rfl]; exact w1
  obtain ⟨u2, x, NC', c1, c2, c3, c4, c5, c6, c7, c8, c9⟩ := cvar_spec hN1 (by omega) hw1
  obtain ⟨v1, y, NR', d1, d2, d3, d4, d5, d6, d7, d8, d9⟩ := rvar_spec p12 (by omega) w1
  have hFB1 := FB_fr t4 (fun _ => rfl) (fun _ => rfl) (fun _ => rfl) rfl p16
  obtain ⟨b1, b2', b3, b4, b5, b6, b7⟩ := hFB1
  have hflen := FB_len p16
  have hR : R ≤ 1500 := by omega
  have h6 : I u2 3 6 = R := by rw [Fr_I c9 rfl, Fr_I t4 rfl]; exact p9
  have e6 : I (uI u2 37 R (zI (-1 - (x : Int)))) 3 6 = R := by rw [I_uI3 _ _ _ _ _ _ (by decide)]; exact h6
  have k6 : I (uI (uI u2 37 R (zI (-1 - (x : Int)))) 3 6 (zI ((R + 1 : Nat) : Int))) 3 6 = ((R + 1 : Nat) : Int) := I_uI1 _ _ _ _ (by omega) (by omega)
  have hx1 : x < 1501 := by omega
  have hadd : fX7_addCell ((-1) - zI x) u2 = some (zI R, uI (uI u2 37 R (zI (-1 - (x : Int)))) 3 6 (zI ((R + 1 : Nat) : Int))) := by
    unfold fX7_addCell
    rw [gI_z u2 3 6, h6, if_pos (by rw [z_lit, z_lt (by omega) (by omega) (by decide) (by decide)]; omega), show (-1 : Int32) = zI (-1) from rfl, z_sub, st_z _ _ _ _ _ (by omega) (by omega), bd_s, Int.toNat_natCast, gI_z _ 3 6, e6, show (1 : Int32) = zI 1 from rfl, z_add, lt_e, show (R : Int) + 1 = ((R + 1 : Nat) : Int) by omega, gI_z _ 3 6, k6, z_sub, show ((R + 1 : Nat) : Int) - 1 = R by omega]
  generalize hua : uI (uI u2 37 R (zI (-1 - (x : Int)))) 3 6 (zI ((R + 1 : Nat) : Int)) = ua at *
  have Fa : Fr (fun k i => k == 37 || (k == 3 && i == 6)) u2 ua := by rw [← hua]; exact Fr_up rfl (Fr_up rfl (Fr_rfl _ _))
  have a39 : ∀ z, I ua 39 z = I u2 39 z := fun z => Fr_I Fa rfl
  have a40 : ∀ z, I ua 40 z = I u2 40 z := fun z => Fr_I Fa rfl
  have hb39 : I u2 39 x = B x := by
    by_cases hx : x < NC
    · rw [(c7 x hx).2.1]; exact b1 x hx
    · rw [(c8 x (by omega) c3).1, b2' x (by omega)]; rfl
  have hb40 : I u2 40 x = if x ∈ F then 1 else 0 := by
    by_cases hx : x < NC
    · rw [(c7 x hx).2.2]; exact b6 x hx
    · rw [(c8 x (by omega) c3).2, if_neg]
      intro hm
      obtain ⟨i, hi, ei⟩ := List.getElem_of_mem hm
      have := (b4 i x (by rw [List.getElem?_eq_getElem hi, ei])).2
      omega
  have h312 : I ua 3 12 = F.length := by rw [Fr_I Fa rfl, Fr_I c9 rfl]; exact b3
  have hBx := b7 x
  -- the free variables
  obtain ⟨u3, g1, g2, g3⟩ : ∃ u3, fX7_addVariable (zI x) u2 = some u3 ∧ FB u3 NC' B (addF B F [x]) ∧ Fr (fun k i => k == 40 || k == 41 || (k == 3 && i == 12)) ua u3 := by
    have hop : fX7_addVariable (zI x) u2 = if zI (B x) = 0 then (if zI (if x ∈ F then 1 else 0) = 0 then (bd (st ua 40 1501 (zI x) 1) fun u7 => bd (st u7 41 1501 (gI u7 3 12) (zI x)) fun u8 => lt (uI u8 3 12 ((gI u8 3 12) + 1)) fun u9 => some u9) else some ua) else some ua := by
      unfold fX7_addVariable
      rw [hadd, b2_s, ld_z _ _ _ _ (by omega) (by omega), bd_s, Int.toNat_natCast, a39, hb39, ld_z _ _ _ _ (by omega) (by omega), bd_s, Int.toNat_natCast, a40, hb40]
    by_cases hc : B x = 0 ∧ x ∉ F
    · have q1 : I (uI ua 40 x (zI 1)) 3 12 = F.length := by rw [I_uI3 _ _ _ _ _ _ (by decide)]; exact h312
      have q2 : I (uI (uI ua 40 x (zI 1)) 41 F.length (zI x)) 3 12 = F.length := by rw [I_uI3 _ _ _ _ _ _ (by decide)]; exact q1
      refine ⟨uI (uI (uI ua 40 x (zI 1)) 41 F.length (zI x)) 3 12 (zI ((F.length + 1 : Nat) : Int)), ?_, ?_, Fr_up rfl (Fr_up rfl (Fr_up rfl (Fr_rfl _ _)))⟩
      · rw [hop, if_pos (by rw [hc.1]; rfl), if_neg hc.2, if_pos (show zI 0 = 0 from rfl), show (1 : Int32) = zI 1 from rfl, st_z _ _ _ _ _ (by omega) (by omega), bd_s, Int.toNat_natCast, gI_z _ 3 12, q1, st_z _ _ _ _ _ (by omega) (by omega), bd_s, Int.toNat_natCast, gI_z _ 3 12, q2, z_add, lt_e, show (F.length : Int) + 1 = ((F.length + 1 : Nat) : Int) by omega]
      · have hF' : addF B F [x] = F ++ [x] := by simp only [addF]; rw [if_pos hc]
        rw [hF']
        refine ⟨fun z hz => ?_, fun z hz => b2' z (by omega), ?_, fun i z hiz => ?_, ?_, fun z hz => ?_, b7⟩
        · rw [I_uI3 _ _ _ _ _ _ (by decide), I_uI3 _ _ _ _ _ _ (by decide), I_uI3 _ _ _ _ _ _ (by decide), a39]
          by_cases hx : z < NC
          · rw [(c7 z hx).2.1]; exact b1 z hx
          · rw [(c8 z (by omega) hz).1, b2' z (by omega)]; rfl
        · rw [I_uI1 _ _ _ _ (by omega) (by omega)]; simp
        · rw [I_uI3 _ _ _ _ _ _ (by decide)]
          by_cases hi : i < F.length
          · rw [List.getElem?_append_left hi] at hiz
            have := b4 i z hiz
            rw [I_uI2 _ _ _ _ _ _ (by omega), I_uI3 _ _ _ _ _ _ (by decide), Fr_I Fa rfl, Fr_I c9 rfl]
            exact ⟨this.1, by omega⟩
          · rw [List.getElem?_append_right (by omega)] at hiz
            have hi3 : i - F.length = 0 := by
              apply Classical.byContradiction; intro hh
              rw [List.getElem?_eq_none (by simp; omega)] at hiz; cases hiz
            rw [hi3] at hiz
            simp at hiz
            subst hiz
            rw [show i = F.length by omega, I_uI1 _ _ _ _ (by omega) (by omega)]
            exact ⟨rfl, c3⟩
        · rw [List.nodup_append]
          exact ⟨b5, by simp, fun a ha c hc' => by simp at hc'; subst hc'; exact fun h => hc.2 (h ▸ ha)⟩
        · rw [I_uI3 _ _ _ _ _ _ (by decide), I_uI3 _ _ _ _ _ _ (by decide)]
          by_cases hzx : z = x
          · subst hzx; rw [I_uI1 _ _ _ _ (by decide) (by decide), if_pos (by simp)]
          · rw [I_uI2 _ _ _ _ _ _ (by omega), a40]
            have hiff : (z ∈ F ++ [x]) ↔ z ∈ F := by simp [hzx]
            by_cases hx : z < NC
            · rw [(c7 z hx).2.2, b6 z hx]
              by_cases hzF : z ∈ F
              · rw [if_pos hzF, if_pos (hiff.2 hzF)]
              · rw [if_neg hzF, if_neg (fun h => hzF (hiff.1 h))]
            · rw [(c8 z (by omega) hz).2, if_neg]
              intro hm
              obtain ⟨i, hi, ei⟩ := List.getElem_of_mem (hiff.1 hm)
              have := (b4 i z (by rw [List.getElem?_eq_getElem hi, ei])).2
              omega
    · refine ⟨ua, ?_, ?_, Fr_rfl _ _⟩
      · rw [hop]
        by_cases hB0 : B x = 0
        · have hxF : x ∈ F := Classical.byContradiction fun hh => hc ⟨hB0, hh⟩
          rw [if_pos (by rw [hB0]; rfl), if_pos hxF, if_neg (by decide)]
        · rw [if_neg (by rw [z_zero, z_eq (by omega) (by omega) (by decide) (by decide)]; omega)]
      · have hF' : addF B F [x] = F := by simp only [addF]; rw [if_neg hc]
        rw [hF']
        refine ⟨fun z hz => ?_, fun z hz => b2' z (by omega), h312, fun i z hiz => ?_, b5, fun z hz => ?_, b7⟩
        · rw [a39]
          by_cases hx : z < NC
          · rw [(c7 z hx).2.1]; exact b1 z hx
          · rw [(c8 z (by omega) hz).1, b2' z (by omega)]; rfl
        · have := b4 i z hiz
          rw [Fr_I Fa rfl, Fr_I c9 rfl]
          exact ⟨this.1, by omega⟩
        · rw [a40]
          by_cases hx : z < NC
          · rw [(c7 z hx).2.2]; exact b6 z hx
          · rw [(c8 z (by omega) hz).2, if_neg]
            intro hm
            obtain ⟨i, hi, ei⟩ := List.getElem_of_mem hm
            have := (b4 i z (by rw [List.getElem?_eq_getElem hi, ei])).2
            omega
  -- the reference
  have v33 : I v1 100 33 = R := by rw [Fr_I d9 rfl]; exact p10
  have L4 : TLs u (uI (uI v1 118 R (zI (-1 - (y : Int)))) 100 33 (zI ((R + 1 : Nat) : Int))) n s b 2 := TLs_fr (P := fun _ _ => false) (Q := fun k i => Qva k i || k == 118 || (k == 100 && i == 33)) (Fr_rfl _ _) (Fr_up rfl (Fr_up rfl (Fr_up2 (fun k i hk => by simp [hk]) d9))) (fun _ => rfl) (fun _ => rfl) (fun i hi => by simp [Qva]; omega) hL
  obtain ⟨u1', v4, t1', t2', t3', t4', t5'⟩ := take_both L4
  have Fu : Fr (fun k i => PK k i || Pva k i || k == 37 || k == 40 || k == 41 || (k == 3 && (i == 6 || i == 12))) u u3 := Fr_tr (Fr_up2 (fun k i hk => by simp [hk]) t4) (Fr_tr (Fr_up2 (fun k i hk => by simp [hk]) c9) (Fr_tr (Fr_up2 (fun k i hk => by simp at hk; simp; omega) Fa) (Fr_up2 (fun k i hk => by simp at hk; simp; omega) g3)))
  have Fv : Fr (fun k i => QK k i || Qva k i || k == 118 || (k == 100 && i == 33)) v v4 := Fr_tr (Fr_up rfl (Fr_up rfl (Fr_up2 (fun k i hk => by simp [hk]) d9))) (Fr_up2 (fun k i hk => by simp [hk]) t5')
  have j38 : ∀ z, J u3 38 z = J u2 38 z := fun z => by rw [Fr_J g3 rfl, Fr_J Fa rfl]
  have j119 : ∀ z, J v4 119 z = J v1 119 z := fun z => by rw [Fr_J t5' rfl, J_uI, J_uI]
  have u37 : I u3 37 R = -1 - (x : Int) := by rw [Fr_I g3 rfl, ← hua, I_uI3 _ _ _ _ _ _ (by decide), I_uI1 _ _ _ _ (by omega) (by omega)]
  have v118 : I v4 118 R = -1 - (y : Int) := by rw [Fr_I t5' rfl, I_uI3 _ _ _ _ _ _ (by decide), I_uI1 _ _ _ _ (by omega) (by omega)]
  have hxy : NmR (J u3 38 x) (J v4 119 y) := by rw [j38, j119, c6, d6]; exact hw1
  have hS : 2 * S ≤ 121 + s := by
    rcases p2 with ⟨q1, q2, _⟩ | ⟨_, _, _, q2, _⟩
    · exact q2
    · exact q2
  refine ⟨x, y, NC', NR', u1, u2, u3, v1, v4, hwant, by rw [gJ_z]; exact c1, g1, by rw [gJ_z]; exact d1, p10, v33, t2', ⟨TXs_fr Fu Fv rfl (fun _ => rfl) rfl (fun _ => rfl) p1, Or.inl ⟨?_, by omega, fun _ _ => by omega⟩, by rw [Fr_I Fu rfl]; exact p3, by rw [Fr_I Fv rfl]; exact p4, by rw [Fr_I Fu rfl]; exact p5, by rw [Fr_I Fv rfl]; exact p6, p7, SYT_fr Fu Fv rfl (fun k i hk => by simp [PK, Pva]; omega) rfl (fun k i hk => by simp [QK, Qva]; omega) p8, ?_, ?_, ⟨by rw [Fr_I g3 rfl, Fr_I Fa rfl]; exact c2.1, fun z hz => by rw [j38]; exact c2.2.1 z hz, fun z z' hz hz' hh => c2.2.2 z z' hz hz' (by rw [j38, j38] at hh; exact hh)⟩, ⟨?_, fun z hz => by rw [j119]; exact d2.2.1 z hz, fun z z' hz hz' hh => d2.2.2 z z' hz hz' (by rw [j119, j119] at hh; exact hh)⟩, by omega, by omega, by omega, g2, by rw [Fr_I Fv rfl]; exact p17, fun z hz => ?_⟩, ⟨SKp_fr Fu Fv (fun k i hk => by simp [PK, Pva]; omega) (fun i => by simp [QK, Qva]), fun i hi => ⟨?_, ?_⟩, fun z hz => ?_, fun z hz => ?_, fun i _ => ⟨Fr_I Fv rfl, Fr_I Fv rfl, Fr_I Fv rfl⟩, Fr_up2 (fun k i hk => ?_) Fu, Fr_up2 (fun k i hk => ?_) Fv⟩, c4, d4, hsb, ⟨x, y, c3, d3, u37, v118, hxy⟩, u37, hR⟩
  · obtain ⟨q1, q2, q3, q4, q5⟩ := t3
    obtain ⟨r1, r2, r3, r4, r5⟩ := t3'
    exact ⟨by rw [Fr_I g3 rfl, Fr_I Fa rfl, Fr_I c9 rfl]; exact q1, r2, by rw [Fr_I g3 rfl, Fr_I Fa rfl, Fr_I c9 rfl]; exact q3, r4, r5⟩
  · rw [Fr_I g3 rfl]; exact k6
  · rw [Fr_I t5' rfl]; exact I_uI1 _ _ _ _ (by omega) (by omega)
  · rw [Fr_I t5' rfl, I_uI2 _ _ _ _ _ _ (by decide), I_uI3 _ _ _ _ _ _ (by decide)]; exact d2.1
  · by_cases hzN : z < NR
    · obtain ⟨x0, e1, e2⟩ := p18 z hzN
      exact ⟨x0, by omega, by rw [j38, j119, (c7 x0 e1).1, d7 z hzN, Fr_J t4 rfl]; exact e2⟩
    · have : z = y := by
        by_cases hy : y < NR
        · exfalso
          have hne := d8 (by omega) y hy
          rw [d7 y hy] at d6
          exact hne d6
        · omega
      subst this
      exact ⟨x, c3, hxy⟩
  · rw [Fr_I g3 rfl, ← hua, I_uI3 _ _ _ _ _ _ (by decide), I_uI2 _ _ _ _ _ _ (by omega), Fr_I c9 rfl, Fr_I t4 rfl]
  · rw [Fr_I t5' rfl, I_uI3 _ _ _ _ _ _ (by decide), I_uI2 _ _ _ _ _ _ (by omega), Fr_I d9 rfl]
  · rw [j38, (c7 z hz).1, Fr_J t4 rfl]
  · rw [j119, d7 z hz]
  · simp [PK, Pva] at hk; simp [PA, PT]; omega
  · simp [QK, Qva] at hk; simp [QA, QT]; omega
