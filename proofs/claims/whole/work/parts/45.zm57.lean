/-! writing: variables -/
def NB (u v : St) (ts : List Nat) : Prop := I u 10 10 = ts.length ∧ I v 100 79 = ts.length ∧ ts.Nodup ∧ (∀ i w : Nat, ts[i]? = some w → I v 146 i = w ∧ w < 220 ∧ I u 74 w = i) ∧ (∀ w, w < 220 → w ∉ ts → I u 74 w = -1)
theorem NB_len {u v : St} {ts : List Nat} (h : NB u v ts) : ts.length ≤ 220 := ph 220 ts h.2.2.1 (fun x hx => by
  obtain ⟨i, hi, e⟩ := List.getElem_of_mem hx
  exact (h.2.2.2.1 i x (by rw [List.getElem?_eq_getElem hi, e])).2.1)
theorem NB_fr {P Q : Nat → Nat → Bool} {u u' v v' : St} {ts : List Nat} (hu : Fr P u u') (hv : Fr Q v v') (h1 : P 10 10 = false) (h2 : ∀ i, P 74 i = false) (h3 : Q 100 79 = false) (h4 : ∀ i, Q 146 i = false) (h : NB u v ts) : NB u' v' ts := by
  obtain ⟨a1, a2, a3, a4, a5⟩ := h
  refine ⟨by rw [Fr_I hu h1]; exact a1, by rw [Fr_I hv h3]; exact a2, a3, fun i w hw => ?_, fun w hw hn => by rw [Fr_I hu (h2 w)]; exact a5 w hw hn⟩
  rw [Fr_I hv (h4 i), Fr_I hu (h2 w)]; exact a4 i w hw
theorem vo_loop (v : St) (w : Nat) (ts : List Nat) (hw : w < 220) (hn : I v 100 79 = ts.length) (hlen : ts.length ≤ 220) (hat : ∀ i x : Nat, ts[i]? = some x → I v 146 i = x ∧ x < 220) (suf : List Nat) : ∀ (F : Nat) (pre : List Nat), ts = pre ++ suf → w ∉ pre → suf.length < F → ∃ i : Nat, fX12_variableOut_L0 F 0 (zI w) (zI pre.length) v = fX12_variableOut_j42 (zI w) (zI i) v ∧ ((w ∉ ts ∧ i = ts.length) ∨ (i < ts.length ∧ ts[i]? = some w)) := by
  induction suf with
  | nil =>
    intro F pre hts hpre hF
    obtain ⟨G, rfl⟩ : ∃ G, F = G + 1 := ⟨F - 1, by omega⟩
    rw [List.append_nil] at hts
    subst hts
    refine ⟨ts.length, ?_, Or.inl ⟨hpre, rfl⟩⟩
    have st : fX12_variableOut_L0 (G + 1) 0 (zI w) (zI ts.length) v = fX12_variableOut_L0_0 (fX12_variableOut_L0 G) (zI w) (zI ts.length) v := rfl
    rw [st]
    unfold fX12_variableOut_L0_0
    rw [gI_z, hn, if_pos (by rw [z_le (by omega) (by omega) (by omega) (by omega)]; omega)]
  | cons a suf ih =>
    intro F pre hts hpre hF
    obtain ⟨G, rfl⟩ : ∃ G, F = G + 1 := ⟨F - 1, by omega⟩
    have hl : ts.length = pre.length + (suf.length + 1) := by rw [hts]; simp
    have hget : ts[pre.length]? = some a := by rw [hts]; simp
    have ha := hat _ _ hget
    have st : fX12_variableOut_L0 (G + 1) 0 (zI w) (zI pre.length) v = fX12_variableOut_L0_0 (fX12_variableOut_L0 G) (zI w) (zI pre.length) v := rfl
    by_cases hwa : a = w
    · subst hwa
      refine ⟨pre.length, ?_, Or.inr ⟨by omega, hget⟩⟩
      rw [st]
      unfold fX12_variableOut_L0_0
      rw [gI_z, hn, if_neg (by rw [z_le (by omega) (by omega) (by omega) (by omega)]; omega), ld_z _ _ _ _ (by omega) (by omega), bd_s, Int.toNat_natCast, ha.1, if_pos rfl]
    · obtain ⟨i, r1, r2⟩ := ih G (pre ++ [a]) (by rw [hts]; simp) (by simp only [List.mem_append, List.mem_singleton, not_or]; exact ⟨hpre, fun h => hwa h.symm⟩) (by simp at hF; omega)
      refine ⟨i, ?_, r2⟩
      rw [← r1, st]
      generalize fX12_variableOut_L0 G = R
      unfold fX12_variableOut_L0_0
      rw [gI_z, hn, if_neg (by rw [z_le (by omega) (by omega) (by omega) (by omega)]; omega), ld_z _ _ _ _ (by omega) (by omega), bd_s, Int.toNat_natCast, ha.1, if_neg (by rw [z_eq (by omega) (by omega) (by omega) (by omega)]; omega), lt_e, show (1 : Int32) = zI 1 from rfl, z_add, List.length_append, List.length_singleton, show (pre.length : Int) + 1 = ((pre.length + 1 : Nat) : Int) by omega]
def Pv : Nat → Nat → Bool := fun k i => k == 75 || k == 74 || (k == 10 && i == 10)
def Qv2 : Nat → Nat → Bool := fun k i => k == 146 || (k == 100 && i == 79)
theorem DS_fr {P Q : Nat → Nat → Bool} {u u' v v' : St} {k : Nat} (hu : Fr P u u') (hv : Fr Q v v') (h1 : ∀ i, (i = 2 ∨ i = 4 ∨ i = 5 ∨ i = 6) → P 10 i = false) (h2 : ∀ i, P 71 i = false) (h3 : ∀ i, P 72 i = false) (h4 : Q 100 78 = false) (h5 : ∀ i, Q 145 i = false) (h : DS u v k) : DS u' v' k := by
  obtain ⟨d1, d2, d3, d4, d5⟩ := h
  unfold DS
  rw [Fr_R hu (h1 2 (by simp)), Fr_R hu (h1 4 (by simp)), Fr_I hu (h1 5 (by simp)), Fr_I hu (h1 6 (by simp)), Fr_I hv h4]
  refine ⟨d1, d2, d3, d4, ?_⟩
  rcases d5 with ⟨a1, a2, a3, a4⟩ | a
  · refine Or.inl ⟨a1, a2, a3, fun i hi => ?_⟩
    rw [Fr_I hv (h5 i)]
    refine ⟨?_, (a4 i hi).2⟩
    rw [← (a4 i hi).1]
    rcases d2 with h | h <;> rw [h]
    · exact Fr_I hu (h2 i)
    · exact Fr_I hu (h3 i)
  · exact Or.inr a
theorem Wr_cls {P Q : Nat → Nat → Bool} {u u' v : St} (h : Fr P u u') (h2 : P 10 2 = false) (h4 : P 10 4 = false) : Wr u u' v v P Q := ⟨Fr_up2 (fun k i hk => by simp [hk]) h, Fr_R h h4, Fr_R h h2, Fr_rfl _ _⟩
theorem Wr_ref {P Q : Nat → Nat → Bool} {u v v' : St} (h : Fr Q v v') : Wr u u v v' P Q := ⟨Fr_rfl _ _, rfl, rfl, Fr_up2 (fun k i hk => by simp [hk]) h⟩
theorem Wr_I {P Q : Nat → Nat → Bool} {u u' v v' : St} (h : Wr u u' v v' P Q) (hd : gR u 10 4 = 71 ∨ gR u 10 4 = 72) {k i : Nat} (hP : P k i = false) (hk : k ≠ 71) (hk2 : k ≠ 72) (hk3 : k ≠ 10 ∨ (i ≠ 5 ∧ i ≠ 6)) : I u' k i = I u k i := Fr_I h.1 (by simp only [Bool.or_eq_false_iff]; exact ⟨hP, by simp [Pw]; omega⟩)
theorem Wr_V {P Q : Nat → Nat → Bool} {u u' v v' : St} (h : Wr u u' v v' P Q) {k i : Nat} (hQ : Q k i = false) (hk : Qw k i = false) : I v' k i = I v k i := Fr_I h.2.2.2 (by simp only [Bool.or_eq_false_iff]; exact ⟨hQ, hk⟩)
theorem NB_wr {P Q : Nat → Nat → Bool} {u u' v v' : St} {ts : List Nat} (h : Wr u u' v v' P Q) (hd : gR u 10 4 = 71 ∨ gR u 10 4 = 72) (h1 : P 10 10 = false) (h2 : ∀ i, P 74 i = false) (h3 : Q 100 79 = false) (h4 : ∀ i, Q 146 i = false) (hN : NB u v ts) : NB u' v' ts := NB_fr h.1 h.2.2.2 (by simp only [Bool.or_eq_false_iff]; exact ⟨h1, by simp [Pw]; omega⟩) (fun i => by simp only [Bool.or_eq_false_iff]; exact ⟨h2 i, by simp [Pw]; omega⟩) (by simp only [Bool.or_eq_false_iff]; exact ⟨h3, rfl⟩) (fun i => by simp only [Bool.or_eq_false_iff]; exact ⟨h4 i, rfl⟩) hN
/-- a variable, numbered as it comes first -/
theorem var_show {u v : St} {k : Nat} {ts : List Nat} (w : Nat) (hw : w < 220) (hD : DS u v k) (hN : NB u v ts) (hk : k < 99800) : ∃ u' v' m ts', fX1_putVariable (zI w) u = some u' ∧ fX12_variableOut (zI w) 0 v = some v' ∧ 1 ≤ m ∧ m ≤ 12 ∧ DS u' v' (k + m) ∧ NB u' v' ts' ∧ (ts' = ts ∨ ts' = ts ++ [w]) ∧ w ∈ ts' ∧ Wr u u' v v' Pv Qv2 := by
  have hlen := NB_len hN
  have hNc := hN
  obtain ⟨a1, a2, a3, a4, a5⟩ := hN
  have hdr := hD.2.1
  by_cases hmem : w ∈ ts
  · -- told before
    obtain ⟨i0, hi0, ei0⟩ := List.getElem_of_mem hmem
    have hget0 : ts[i0]? = some w := by rw [List.getElem?_eq_getElem hi0, ei0]
    obtain ⟨u1, v1, r1, r2, r3, r4⟩ := put_w 88 hD (by omega) NoP NoP
    have hN1 : NB u1 v1 ts := NB_wr r4 hdr rfl (fun _ => rfl) rfl (fun _ => rfl) hNc
    obtain ⟨b1, b2', b3, b4, b5⟩ := hN1
    obtain ⟨i, s1, s2⟩ := vo_loop v1 w ts hw b2' hlen (fun i x h => ⟨(b4 i x h).1, (b4 i x h).2.1⟩) ts FU [] rfl (by simp) (by unfold FU; omega)
    have hii : i < ts.length ∧ ts[i]? = some w := by
      rcases s2 with ⟨h, _⟩ | h
      · exact absurd hmem h
      · exact h
    have c74 := (b4 i w hii.2).2.2
    have c146 := (b4 i w hii.2).1
    have Fv2 : Fr (P1 146 i) v1 (uI v1 146 i (zI w)) := Fr_up (by simp [P1]) (Fr_rfl _ _)
    have hv2 : uI v1 146 i (zI w) = v1 := uI_id v1 146 i w c146
    have hv3 : uI v1 100 79 (zI ((ts.length : Int) + 0)) = v1 := uI_id v1 100 79 _ (by rw [b2']; omega)
    obtain ⟨u', v', m, t1, t2, t3, t4, t5, t6⟩ := num_both i (by omega) r3 (by omega)
    refine ⟨u', v', 1 + m, ts, ?_, ?_, by omega, by omega, by rw [← Nat.add_assoc]; exact t5, ?_, Or.inl rfl, hmem, ?_⟩
    · have c74u : I u 74 w = i0 := (a4 i0 w hget0).2.2
      unfold fX1_putVariable fX1_putVariable_j30
      rw [ld_z _ _ _ _ (by omega) (by omega), bd_s, Int.toNat_natCast, c74u, if_neg (by rw [show (-1 : Int32) = zI (-1) from rfl, z_eq (by omega) (by omega) (by decide) (by decide)]; omega), r1, bd_s, ld_z _ _ _ _ (by omega) (by omega), bd_s, Int.toNat_natCast, c74, t1, bd_s]
    · have hj : fX12_variableOut_j42 (zI w) (zI i) v1 = some v' := by
        unfold fX12_variableOut_j42
        rw [st_z _ _ _ _ _ (by omega) (by omega), bd_s, Int.toNat_natCast, hv2, gI_z v1 100 79, b2', if_neg (by rw [z_eq (by omega) (by omega) (by omega) (by omega)]; omega), show (0 : Int32) = zI 0 from rfl, z_add, hv3, lt_e, t2, bd_s]
      unfold fX12_variableOut
      rw [r2, bd_s, if_pos rfl, lt_e]
      exact s1.trans hj
    · exact NB_wr t6 r3.2.1 rfl (fun _ => rfl) rfl (fun _ => rfl) ⟨b1, b2', b3, b4, b5⟩
    · exact Wr_tr (Wr_mono (fun k i hk => by simp [NoP] at hk) (fun k i hk => by simp [NoP] at hk) r4) (Wr_mono (fun k i hk => by simp at hk; simp [Pv, hk]) (fun k i hk => by simp [NoP] at hk) t6)
  · -- a new one
    have h74 := a5 w hw hmem
    have hl2 : ts.length < 220 := by
      have := ph 220 (w :: ts) (List.nodup_cons.2 ⟨hmem, a3⟩) (fun x hx => by
        rcases List.mem_cons.1 hx with h | h
        · omega
        · obtain ⟨i, hi, e⟩ := List.getElem_of_mem h
          exact (a4 i x (by rw [List.getElem?_eq_getElem hi, e])).2.1)
      simp at this; omega
    have Fa : Fr Pv u (uI (uI u 74 w (zI ts.length)) 10 10 (zI ((ts.length + 1 : Nat) : Int))) := Fr_up rfl (Fr_up rfl (Fr_rfl _ _))
    have e1 : I (uI u 74 w (zI ts.length)) 10 10 = ts.length := by rw [I_uI3 _ _ _ _ _ _ (by decide)]; exact a1
    have ca : ∀ x, I (uI (uI u 74 w (zI ts.length)) 10 10 (zI ((ts.length + 1 : Nat) : Int))) 74 x = if x = w then (ts.length : Int) else I u 74 x := by
      intro x
      rw [I_uI3 _ _ _ _ _ _ (by decide)]
      by_cases hx : x = w
      · subst hx; rw [if_pos rfl, I_uI1 _ _ _ _ (by omega) (by omega)]
      · rw [if_neg hx, I_uI2 _ _ _ _ _ _ (by omega)]
    have c10 : I (uI (uI u 74 w (zI ts.length)) 10 10 (zI ((ts.length + 1 : Nat) : Int))) 10 10 = ((ts.length + 1 : Nat) : Int) := I_uI1 _ _ _ _ (by omega) (by omega)
    have hop : fX1_putVariable (zI w) u = fX1_putVariable_j30 (zI w) (uI (uI u 74 w (zI ts.length)) 10 10 (zI ((ts.length + 1 : Nat) : Int))) := by
      unfold fX1_putVariable
      rw [ld_z _ _ _ _ (by omega) (by omega), bd_s, Int.toNat_natCast, h74, if_pos (show zI (-1) = -1 from rfl), gI_z u 10 10, a1, st_z _ _ _ _ _ (by omega) (by omega), bd_s, Int.toNat_natCast, gI_z _ 10 10, e1, lt_e, show (1 : Int32) = zI 1 from rfl, z_add, show (ts.length : Int) + 1 = ((ts.length + 1 : Nat) : Int) by omega]
    generalize hua : uI (uI u 74 w (zI ts.length)) 10 10 (zI ((ts.length + 1 : Nat) : Int)) = ua at *
    have hDa : DS ua v k := DS_fr Fa (Fr_rfl (fun _ _ => false) v) (fun i hi => by rcases hi with h | h | h | h <;> subst h <;> rfl) (fun _ => rfl) (fun _ => rfl) rfl (fun _ => rfl) hD
    obtain ⟨u1, v1, r1, r2, r3, r4⟩ := put_w 88 hDa (by omega) NoP NoP
    have hda := hDa.2.1
    have d74 : ∀ x, I u1 74 x = I ua 74 x := fun x => Wr_I r4 hda rfl (by decide) (by decide) (Or.inl (by decide))
    have d79 : I v1 100 79 = ts.length := by rw [Wr_V r4 rfl rfl]; exact a2
    have d146 : ∀ i, I v1 146 i = I v 146 i := fun i => Wr_V r4 rfl rfl
    obtain ⟨i, s1, s2⟩ := vo_loop v1 w ts hw d79 hlen (fun i x h => ⟨by rw [d146]; exact (a4 i x h).1, (a4 i x h).2.1⟩) ts FU [] rfl (by simp) (by unfold FU; omega)
    have hii : i = ts.length := by
      rcases s2 with ⟨_, h⟩ | ⟨h1, h2⟩
      · exact h
      · exact absurd (List.mem_of_getElem? h2) hmem
    subst hii
    have Fb : Fr Qv2 v1 (uI (uI v1 146 ts.length (zI w)) 100 79 (zI ((ts.length + 1 : Nat) : Int))) := Fr_up rfl (Fr_up rfl (Fr_rfl _ _))
    have e2 : I (uI v1 146 ts.length (zI w)) 100 79 = ts.length := by rw [I_uI3 _ _ _ _ _ _ (by decide)]; exact d79
    have cb : ∀ x, I (uI (uI v1 146 ts.length (zI w)) 100 79 (zI ((ts.length + 1 : Nat) : Int))) 146 x = if x = ts.length then (w : Int) else I v1 146 x := by
      intro x
      rw [I_uI3 _ _ _ _ _ _ (by decide)]
      by_cases hx : x = ts.length
      · subst hx; rw [if_pos rfl, I_uI1 _ _ _ _ (by omega) (by omega)]
      · rw [if_neg hx, I_uI2 _ _ _ _ _ _ (by omega)]
    have c79 : I (uI (uI v1 146 ts.length (zI w)) 100 79 (zI ((ts.length + 1 : Nat) : Int))) 100 79 = ((ts.length + 1 : Nat) : Int) := I_uI1 _ _ _ _ (by omega) (by omega)
    have hj : ∀ v', fX12_decimal (zI ts.length) (uI (uI v1 146 ts.length (zI w)) 100 79 (zI ((ts.length + 1 : Nat) : Int))) = some v' → fX12_variableOut_j42 (zI w) (zI ts.length) v1 = some v' := by
      intro v' hd
      unfold fX12_variableOut_j42
      rw [st_z _ _ _ _ _ (by omega) (by omega), bd_s, Int.toNat_natCast, gI_z _ 100 79, e2, if_pos rfl, show (1 : Int32) = zI 1 from rfl, z_add, show (ts.length : Int) + 1 = ((ts.length + 1 : Nat) : Int) by omega, lt_e, hd, bd_s]
    generalize hvb : uI (uI v1 146 ts.length (zI w)) 100 79 (zI ((ts.length + 1 : Nat) : Int)) = vb at *
    have hDb : DS u1 vb (k + 1) := DS_fr (Fr_rfl (fun _ _ => false) u1) Fb (fun _ _ => rfl) (fun _ => rfl) (fun _ => rfl) rfl (fun _ => rfl) r3
    obtain ⟨u', v', m, t1, t2, t3, t4, t5, t6⟩ := num_both ts.length (by omega) hDb (by omega)
    have hNb : NB u1 vb (ts ++ [w]) := by
      refine ⟨by rw [Wr_I r4 hda rfl (by decide) (by decide) (by decide), c10]; simp, by rw [c79]; simp, ?_, ?_, ?_⟩
      · rw [List.nodup_append]
        exact ⟨a3, by simp, fun a ha b hb => by simp at hb; subst hb; exact fun h => hmem (h ▸ ha)⟩
      · intro j x hjx
        rw [cb, d74, ca]
        by_cases hj2 : j < ts.length
        · rw [List.getElem?_append_left hj2] at hjx
          have := a4 j x hjx
          have hxw : x ≠ w := fun h => hmem (h ▸ List.mem_of_getElem? hjx)
          rw [if_neg (by omega), if_neg hxw, d146]; exact this
        · rw [List.getElem?_append_right (by omega)] at hjx
          have hj3 : j - ts.length = 0 := by
            apply Classical.byContradiction; intro hh
            rw [List.getElem?_eq_none (by simp; omega)] at hjx; cases hjx
          rw [hj3] at hjx
          simp at hjx
          subst hjx
          have hj4 : j = ts.length := by omega
          rw [if_pos hj4, if_pos rfl]
          exact ⟨rfl, hw, by rw [hj4]⟩
      · intro x hx hnx
        simp only [List.mem_append, List.mem_singleton, not_or] at hnx
        rw [d74, ca, if_neg hnx.2]; exact a5 x hx hnx.1
    refine ⟨u', v', 1 + m, ts ++ [w], ?_, ?_, by omega, by omega, by rw [← Nat.add_assoc]; exact t5, ?_, Or.inr rfl, by simp, ?_⟩
    · rw [hop]
      unfold fX1_putVariable_j30
      rw [r1, bd_s, ld_z _ _ _ _ (by omega) (by omega), bd_s, Int.toNat_natCast, d74, ca, if_pos rfl, t1, bd_s]
    · unfold fX12_variableOut
      rw [r2, bd_s, if_pos rfl, lt_e]
      exact s1.trans (hj v' t2)
    · exact NB_wr t6 hDb.2.1 rfl (fun _ => rfl) rfl (fun _ => rfl) hNb
    · exact Wr_tr (Wr_cls Fa rfl rfl) (Wr_tr (Wr_mono (fun k i hk => by simp [NoP] at hk) (fun k i hk => by simp [NoP] at hk) r4) (Wr_tr (Wr_ref Fb) (Wr_mono (fun k i hk => by simp at hk; simp [Pv, hk]) (fun k i hk => by simp [NoP] at hk) t6)))
