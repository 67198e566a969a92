def NF : List Cond := flatC (Jvm.Cond.and given_1 narrow_1)
def nfB : List Nat := [23, 31, 131, 62, 164]
def tmS (i : Nat) : Term := .string "PathProver$Text" (strI.getD i (0, "")).1
theorem nf_ex : ∀ i, i < 5 → NF[nfB.getD i 0]? = some (Cond.exactly (tmS i) "java/lang/String") := by decide +kernel
theorem nf_co : ∀ i, i < 5 → NF[nfB.getD i 0 + 1]? = some (Cond.eq (.field (tmS i) "java/lang/String" "coder" "B") (.int 0)) := by decide +kernel
theorem nf_ar : ∀ i, i < 5 → NF[nfB.getD i 0 + 2]? = some (Cond.arrayOf (.field (tmS i) "java/lang/String" "value" "[B") .byte) := by decide +kernel
theorem nf_le : ∀ i, i < 5 → NF[nfB.getD i 0 + 3]? = some (Cond.eq (.length (.field (tmS i) "java/lang/String" "value" "[B")) (.int (Int32.ofNat (strN.getD i 0)))) := by decide +kernel
theorem nf_el : ∀ i, i < 5 → ∀ j, j < strN.getD i 0 → NF[nfB.getD i 0 + 4 + j]? = some (Cond.eq (.elem (.field (tmS i) "java/lang/String" "value" "[B") (.int (Int32.ofNat j))) (.int ((strB.getD i []).getD j 0))) := by decide +kernel
def nfP : List (List Nat) := [[0, 61, 161, 129, 178], [61, 0, 162, 130, 179], [161, 162, 0, 163, 181], [129, 130, 163, 0, 180], [178, 179, 181, 180, 0]]
theorem nf_ne : ∀ i, i < 5 → ∀ j, j < 5 → i ≠ j → NF[(nfP.getD i []).getD j 0]? = some (Cond.not (Cond.eq (tmS i) (tmS j))) ∨ NF[(nfP.getD i []).getD j 0]? = some (Cond.not (Cond.eq (tmS j) (tmS i))) := by decide +kernel
theorem nf_cs : NF[4]? = some (Cond.eq (.static "java/lang/String" "COMPACT_STRINGS" "Z") (.int 1)) := by decide +kernel
theorem nf_sa : NF[10]? = some (Cond.arrayOf (.static "PathProver$Parser" "SIGNS" "[I") .int) := by decide +kernel
theorem nf_sl : NF[11]? = some (Cond.eq (.length (.static "PathProver$Parser" "SIGNS" "[I")) (.int (Int32.ofNat 4))) := by decide +kernel
theorem nf_se : ∀ j, j < 4 → NF[12 + j]? = some (Cond.eq (.elem (.static "PathProver$Parser" "SIGNS" "[I") (.int (Int32.ofNat j))) (.int (signs4 j))) := by decide +kernel
theorem nf_ka : NF[17]? = some (Cond.arrayOf (.static "PathProver$Parser" "KINDS" "[I") .int) := by decide +kernel
theorem nf_kl : NF[18]? = some (Cond.eq (.length (.static "PathProver$Parser" "KINDS" "[I")) (.int (Int32.ofNat 4))) := by decide +kernel
theorem nf_ke : ∀ j, j < 4 → NF[19 + j]? = some (Cond.eq (.elem (.static "PathProver$Parser" "KINDS" "[I") (.int (Int32.ofNat j))) (.int (kinds4 j))) := by decide +kernel
theorem Ev_start {args : Array Value} {s : State} (hgv : (Jvm.Cond.and given_1 narrow_1).before args s = true) (hts : ∀ w ∈ lw_tbl, w.before args s = true) : ∃ adK adV adA : Nat → Nat, ∀ (h : Nat → Nat) (D : va_G) (cls : Nat → ClassId), Ev (h, D, cls, adK, adV, adA) (fun q => s.heap.size ≤ q) s s.heap := by
  have hs : ∀ (k : Nat) (c : Cond), NF[k]? = some c → c.before args s = true := fun k c h => flat_of_before _ hgv c (List.mem_of_getElem? h)
  have hA : ∀ a : Nat, a < s.heap.size → ¬ (fun q : Nat => s.heap.size ≤ q) a := fun a h => Nat.not_le.mpr h
  obtain ⟨adK, adV, hS, hE⟩ := vk_Sof (N := 5) (tm := tmS) (len := strN) (byt := strB) (A := fun q => s.heap.size ≤ q) (by decide) (fun i hi => hs _ _ (nf_ex i hi)) (fun i hi => hs _ _ (nf_co i hi)) (fun i hi => hs _ _ (nf_ar i hi)) (fun i hi => hs _ _ (nf_le i hi)) (fun i hi j hj => hs _ _ (nf_el i hi j hj)) (fun i j hi hj hij => (nf_ne i hi j hj hij).elim (fun h => Or.inl (hs _ _ h)) (fun h => Or.inr (hs _ _ h))) hA
  obtain ⟨t0, e0, hT0⟩ := va_Tof (f := fun j => .int (signs4 j)) (A := fun q => s.heap.size ≤ q) (by decide) (hs _ _ nf_sa) (va_eqt (hs _ _ nf_sl)) (fun j hj => va_eqt (hs _ _ (nf_se j hj))) hA
  obtain ⟨t1, e1, hT1⟩ := va_Tof (f := fun j => .int (kinds4 j)) (A := fun q => s.heap.size ≤ q) (by decide) (hs _ _ nf_ka) (va_eqt (hs _ _ nf_kl)) (fun j hj => va_eqt (hs _ _ (nf_ke j hj))) hA
  refine ⟨adK, adV, fun k => if k = 0 then t0 else t1, fun h D cls => ⟨hS, ?_, va_Zof (hts _ (List.mem_of_getElem? (i := 708) (by decide +kernel))) (hts _ (List.mem_of_getElem? (i := 127) (by decide +kernel))) (va_eqi (hs _ _ nf_cs)) hA, va_Zof (hts _ (List.mem_of_getElem? (i := 810) (by decide +kernel))) (hts _ (List.mem_of_getElem? (i := 118) (by decide +kernel))) e0 hA, hT0, va_Zof (hts _ (List.mem_of_getElem? (i := 868) (by decide +kernel))) (hts _ (List.mem_of_getElem? (i := 118) (by decide +kernel))) e1 hA, hT1⟩⟩
  intro i q hq
  match i, hq with
  | 0, hq => cases hq; exact vk_R.of (hts _ (List.mem_of_getElem? (i := 694) (by decide +kernel))) (hE 0 (by decide))
  | 1, hq => cases hq; exact vk_R.of (hts _ (List.mem_of_getElem? (i := 781) (by decide +kernel))) (hE 1 (by decide))
  | 2, hq => cases hq; exact vk_R.of (hts _ (List.mem_of_getElem? (i := 787) (by decide +kernel))) (hE 2 (by decide))
  | 3, hq => cases hq; exact vk_R.of (hts _ (List.mem_of_getElem? (i := 786) (by decide +kernel))) (hE 3 (by decide))
  | 4, hq => cases hq; exact vk_R.of (hts _ (List.mem_of_getElem? (i := 792) (by decide +kernel))) (hE 4 (by decide))
  | k + 5, hq => simp [strI] at hq
theorem K_start {args : Array Value} {s : State} (hB : ∀ w ∈ BIG, w.before args s = true) : ∃ (D : va_G) (cls : Nat → ClassId), ∀ (h : Nat → Nat) (r : (Nat → Nat) × (Nat → Nat) × (Nat → Nat)), va_K D vwCl (tysG (h, D, cls, r)) s := by
  obtain ⟨c0, i0, hK0⟩ := u_known (C := RX0) (T := TX0) (N := 14) (n := 14) hB cfX0.2.1 (hB _ inX0)
  obtain ⟨c1, i1, hK1⟩ := u_known (C := RX1) (T := TX1) (N := 12) (n := 12) hB cfX1.2.1 (hB _ inX1)
  obtain ⟨c2, i2, hK2⟩ := u_known (C := RX2) (T := TX2) (N := 6) (n := 6) hB cfX2.2.1 (hB _ inX2)
  obtain ⟨c3, i3, hK3⟩ := u_known (C := RX3) (T := TX3) (N := 16) (n := 16) hB cfX3.2.1 (hB _ inX3)
  obtain ⟨c4, i4, hK4⟩ := u_known (C := RX4) (T := TX4) (N := 12) (n := 12) hB cfX4.2.1 (hB _ inX4)
  obtain ⟨c5, i5, hK5⟩ := u_known (C := RX5) (T := TX5) (N := 12) (n := 12) hB cfX5.2.1 (hB _ inX5)
  obtain ⟨c6, i6, hK6⟩ := u_known (C := RX6) (T := TX6) (N := 7) (n := 7) hB cfX6.2.1 (hB _ inX6)
  obtain ⟨c7, i7, hK7⟩ := u_known (C := RX7) (T := TX7) (N := 13) (n := 13) hB cfX7.2.1 (hB _ inX7)
  obtain ⟨c8, i8, hK8⟩ := u_known (C := RX8) (T := TX8) (N := 6) (n := 6) hB cfX8.2.1 (hB _ inX8)
  obtain ⟨c9, i9, hK9⟩ := u_known (C := RX9) (T := TX9) (N := 6) (n := 6) hB cfX9.2.1 (hB _ inX9)
  obtain ⟨c10, i10, hK10⟩ := u_known (C := RX10) (T := TX10) (N := 15) (n := 15) hB cfX10.2.1 (hB _ inX10)
  obtain ⟨c11, i11, hK11⟩ := u_known (C := RX11) (T := TX11) (N := 8) (n := 8) hB cfX11.2.1 (hB _ inX11)
  obtain ⟨c12, i12, hK12⟩ := u_known (C := RX12) (T := TX12) (N := 131) (n := 131) hB cfX12.2.1 (hB _ inX12)
  obtain ⟨a0, kA0, co0, f0, g0, h0⟩ := Cond.arrayClass_spec (hB _ ar0)
  obtain ⟨a1, kA1, co1, f1, g1, h1⟩ := Cond.arrayClass_spec (hB _ ar1)
  obtain ⟨a2, kA2, co2, f2, g2, h2⟩ := Cond.arrayClass_spec (hB _ ar2)
  obtain ⟨a3, kA3, co3, f3, g3, h3⟩ := Cond.arrayClass_spec (hB _ ar3)
  refine ⟨(fun k => if k = 0 then c0 else if k = 1 then c1 else if k = 2 then c2 else if k = 3 then c3 else if k = 4 then c4 else if k = 5 then c5 else if k = 6 then c6 else if k = 7 then c7 else if k = 8 then c8 else if k = 9 then c9 else if k = 10 then c10 else if k = 11 then c11 else c12, fun k => if k = 0 then i0 else if k = 1 then i1 else if k = 2 then i2 else if k = 3 then i3 else if k = 4 then i4 else if k = 5 then i5 else if k = 6 then i6 else if k = 7 then i7 else if k = 8 then i8 else if k = 9 then i9 else if k = 10 then i10 else if k = 11 then i11 else i12), fun k => if k = 0 then a0 else if k = 1 then a1 else if k = 2 then a2 else a3, fun h r => ⟨?_, ?_⟩⟩
  · intro k q hq
    match k, hq with
    | 0, hq => cases hq; exact hK0
    | 1, hq => cases hq; exact hK1
    | 2, hq => cases hq; exact hK2
    | 3, hq => cases hq; exact hK3
    | 4, hq => cases hq; exact hK4
    | 5, hq => cases hq; exact hK5
    | 6, hq => cases hq; exact hK6
    | 7, hq => cases hq; exact hK7
    | 8, hq => cases hq; exact hK8
    | 9, hq => cases hq; exact hK9
    | 10, hq => cases hq; exact hK10
    | 11, hq => cases hq; exact hK11
    | 12, hq => cases hq; exact hK12
    | k + 13, hq => simp [vwCl] at hq
  · intro k q hq
    match k, hq with
    | 0, hq => cases hq; exact ⟨fun n z => ⟨fun k h => (by cases h), kA0, g0, co0, h0⟩, f0⟩
    | 1, hq => cases hq; exact ⟨fun n z => ⟨fun k h => (by cases h), kA1, g1, co1, h1⟩, f1⟩
    | 2, hq => cases hq; exact ⟨fun n z => ⟨fun k h => (by cases h), kA2, g2, co2, h2⟩, f2⟩
    | 3, hq => cases hq; exact ⟨fun n z => ⟨fun k h => (by cases h), kA3, g3, co3, h3⟩, f3⟩
    | k + 4, hq => simp [tysG] at hq
