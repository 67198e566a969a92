/-! writing: names; showing -/
theorem name_both {u v : St} {k a S F N : Nat} {c : Nat → Int} (hNM : NMr u v S) (hSY : SYr u v S F N c) (hS : S ≤ 60) (hF : F < 200000000) (ha : a < N) (hc : 0 ≤ c a) (hD : DS u v k) (hk : k ≤ 4000) : ∃ u' v' m, fX1_putSymbol (zI (c a / 8)) u = some u' ∧ fX12_nameOut (zI (I v 111 a)) v = some v' ∧ 1 ≤ m ∧ m ≤ 12 ∧ DS u' v' (k + m) ∧ Wr u u' v v' (fun k _ => k == 75) NoP := by
  rcases hSY a ha hc with ⟨s, h1, h0, h2, h3⟩ | ⟨f, h1, h2, h3, h4⟩
  · obtain ⟨n1, n2, n3, n4, n5⟩ := hNM s h1
    rw [show c a / 8 = (s : Int) by omega, h3]
    exact sym_both s (by omega) n1 hD (by omega)
  · rw [h3, h4]
    have := fun_both f h1 (by omega) hD (by omega)
    rw [show (4096 : Int) + f = ((4096 + f : Nat) : Int) by omega, show (999 : Int) + f = ((999 + f : Nat) : Int) by omega]
    exact this
theorem flat_ok {c : Nat → Int} {e : Nat → Nat} {N : Nat} {V : Int} {T : List (Nat × Nat × Int)} {ρ : Nat → Nat} (hB : BOK c e N V T ρ) {u : St} (fs : List (Nat × Int × Nat)) : ∀ (f : Nat × Int × Nat) (ws : List Nat), WA 2 u (f :: fs) → FV c e N V T (f :: fs) ws → Ch c e N V T ws → ∀ x ∈ flat e (f :: fs), OK c e N V T ρ 220 x ∧ x.2 < 2147483648 := by
  induction fs with
  | nil =>
    intro f ws hW hF hC x hx
    simp only [flat, List.append_nil] at hx
    obtain ⟨f1, f2, f3, f4⟩ := hF
    have := items_mem f2 hx
    refine ⟨OK_mono (by omega) (Sub_OK hB ws hC x (f3 x hx)), ?_⟩
    rw [this.2.2.2.1, ← hW.2.1]; exact I_hi _ _ _
  | cons g fs ih =>
    intro f ws hW hF hC x hx
    obtain ⟨f1, f2, f3, f4⟩ := hF
    rw [show flat e (f :: g :: fs) = items e f.2.2 f.1 f.2.1 ++ flat e (g :: fs) from rfl] at hx
    rcases List.mem_append.1 hx with hx | hx
    · have := items_mem f2 hx
      refine ⟨OK_mono (by omega) (Sub_OK hB ws hC x (f3 x hx)), ?_⟩
      rw [this.2.2.2.1, ← hW.2.1]; exact I_hi _ _ _
    · refine ih g ws.tail hW.2.2.2 f4 ?_ x hx
      cases ws with
      | nil => exact trivial
      | cons w ws => exact hC.2.2
def RSs (c : Nat → Int) (e : Nat → Nat) (N : Nat) (V : Int) (T : List (Nat × Nat × Int)) (S F : Nat) (u v : St) : Prop := RE v c e N V T ∧ NMr u v S ∧ SYr u v S F N c
def WKs (c : Nat → Int) (e : Nat → Nat) (N : Nat) (V : Int) (T : List (Nat × Nat × Int)) (u : St) (L : List (Nat × Int)) : Prop := ∃ f fs ws, WE u c N V T ∧ WOK 2 u c e N V T f fs ws ∧ flat e (f :: fs) = L
def WAs (c : Nat → Int) (e : Nat → Nat) (N : Nat) (V : Int) (T : List (Nat × Nat × Int)) (ρ : Nat → Nat) (u : St) (x : Nat × Int) (l : List (Nat × Int)) : Prop := ∃ a b n fs ws, WE u c N V T ∧ WOK 2 u c e N V T (a, b, n + 1) fs ws ∧ dr c T x = (a, b) ∧ items e n (e a) b ++ flat e fs = l ∧ OK c e N V T ρ 220 x ∧ x.2 < 2147483648
def INs (u v : St) (_ : Nat) (_ : List (Nat × Int)) : Prop := ∃ ts, NB u v ts
theorem Wr_P {u u' v v' : St} {P Q : Nat → Nat → Bool} (h : Wr u u' v v' P Q) (hd : gR u 10 4 = 71 ∨ gR u 10 4 = 72) : Fr (fun k i => P k i || (k == 71 || k == 72 || (k == 10 && (i == 5 || i == 6)))) u u' := Fr_up2 (fun k i hk => by
  simp only [Bool.or_eq_true] at hk ⊢
  rcases hk with hk | hk
  · exact Or.inl hk
  · refine Or.inr ?_
    simp only [Pw, Bool.or_eq_true, beq_iff_eq, Bool.and_eq_true] at hk ⊢
    omega) h.1
theorem show_mode {c : Nat → Int} {e : Nat → Nat} {N : Nat} {V : Int} {T : List (Nat × Nat × Int)} {ρ : Nat → Nat} {S F : Nat} (hT : TOK c e N) (hB : BOK c e N V T ρ) (hV : V ≤ 220) (hS : S ≤ 60) (hF : F < 200000000) : LMode c e N (dr c T) id (WKs c e N V T) (WAs c e N V T ρ) (RSs c e N V T S F) INs := by
  refine ⟨fun u v h => h.1.1, ?_, ?_, ?_, ?_, ?_, ?_, ?_, ?_, ?_, ?_, ?_⟩
  · intro u u' v v' hW hd h
    have Fu := Wr_P hW hd
    have Fv := hW.2.2.2
    exact ⟨RE_fr Fv (fun _ => rfl) (fun _ => rfl) (fun _ => rfl) (fun _ => rfl) (fun _ => rfl) h.1, NMr_fr Fu Fv (fun k i hk => by rcases hk with h | h | h <;> subst h <;> rfl) (fun k i hk => by rcases hk with h | h | h <;> subst h <;> rfl) h.2.1, SYr_fr Fu Fv (fun _ => rfl) (fun _ => rfl) h.2.2⟩
  · intro u v K L hW hR hI
    obtain ⟨f, fs, ws, h1, h2, h3⟩ := hW
    have hok := flat_ok hB fs f ws h2.2.1 h2.2.2.1 h2.2.2.2
    rcases more_spec hT hB 2 (by decide) h1 h2 with ⟨m1, u', m2, m3⟩ | ⟨x, l, m1, u', a', b', n', fs', ws', m2, m3, m4, m5, m6, m7⟩
    · exact Or.inl ⟨by rw [← h3, m1], u', m2, m3⟩
    · refine Or.inr ⟨x, l, u', by rw [← h3, m1], m2, ⟨a', b', n', fs', ws', WE_fr m7 (fun _ => rfl) (fun _ => rfl) (fun _ => rfl) h1, m3, m4.symm, m6, ?_⟩, m7⟩
      exact hok x (by rw [m1]; simp)
  · intro u x l hA
    obtain ⟨a, b, n, fs, ws, h1, h2, h3, h4, h5, h6⟩ := hA
    have ha := at_spec hT hB 2 (by decide) h1 h2
    have haN : a < N := h2.2.2.1.2.1.1
    have hdr := (dr_spec hT hB (Nat.le_refl _) h5).2
    have hb0 := hdr.2.1
    rw [h3] at hb0 ⊢
    have hb : I u 27 fs.length = b := h2.2.1.2.1
    refine ⟨haN, h5.1, by show -2147483648 ≤ b; simp only at hb0; omega, by show b < 2147483648; rw [← hb]; exact I_hi _ _ _, ha.2.1, ha.1, by rw [← h1.1 a haN]; exact I_hi _ _ _⟩
  · intro u u' v v' L hW hd h
    obtain ⟨f, fs, ws, h1, h2, h3⟩ := h
    have Fu := Wr_P hW hd
    exact ⟨f, fs, ws, WE_fr Fu (fun _ => rfl) (fun _ => rfl) (fun _ => rfl) h1, WOK_fr Fu rfl (fun _ => rfl) (fun _ => rfl) (fun _ => rfl) h2, h3⟩
  · intro u u' v v' x l hW hd h
    obtain ⟨a, b, n, fs, ws, h1, h2, h3⟩ := h
    have Fu := Wr_P hW hd
    exact ⟨a, b, n, fs, ws, WE_fr Fu (fun _ => rfl) (fun _ => rfl) (fun _ => rfl) h1, WOK_fr Fu rfl (fun _ => rfl) (fun _ => rfl) (fun _ => rfl) h2, h3⟩
  · intro u x l hA
    obtain ⟨a, b, n, fs, ws, h1, h2, h3, h4, h5, h6⟩ := hA
    have haN : a < N := h2.2.2.1.2.1.1
    obtain ⟨u', r1, r2, r3⟩ := enter_spec hT hB 2 (by decide) h1 h2
    refine ⟨u', r1, ⟨(a + 1, b, ar c a + n), fs, ws, WE_fr r3 (fun _ => rfl) (fun _ => rfl) (fun _ => rfl) h1, r2, ?_⟩, r3⟩
    rw [h3, ← h4, ← List.append_assoc, ← args_items hT haN]; rfl
  · intro u v x l R hA hR
    obtain ⟨a, b, n, fs, ws, h1, h2, h3, h4, h5, h6⟩ := hA
    have hb0 := h5.2.1
    obtain ⟨v', r1, r2, r3, r4⟩ := follow_spec hT hB (Nat.le_refl _) (by omega) h6 h5 hR.1
    refine ⟨v', ?_, r4⟩
    unfold HDr
    rw [if_neg (by rw [z_zero, z_lt (by show -2147483648 ≤ x.2; omega) (by exact h6) (by decide) (by decide)]; show ¬ x.2 < 0; omega), show zI (id x.2) = zI x.2 from rfl, r1, bd_s, gI_z, gI_z, r2, r3]
    rfl
  · intro u v x l k K hA hR hD hk hI hc
    obtain ⟨a, b, n, fs, ws, h1, h2, h3, h4, h5, h6⟩ := hA
    have hdr := (dr_spec hT hB (Nat.le_refl _) h5).2
    have hq := OK_head hT hdr hc
    have hb0 := hdr.2.1
    obtain ⟨ts, hN⟩ := hI
    unfold hv at hq
    rw [h3] at hc hq hb0 ⊢
    simp only at hc hq hb0 ⊢
    obtain ⟨q1, q2, q3⟩ := hq
    obtain ⟨w, hw⟩ : ∃ w : Nat, b - 1 - c a = w := ⟨(b - 1 - c a).toNat, by omega⟩
    rw [hw] at q1 q2 ⊢
    obtain ⟨u', v', m, ts', r1, r2, r3, r4, r5, r6, r7, r8, r9⟩ := var_show w (by omega) hD hN (by omega)
    refine ⟨by omega, by omega, u', v', m, r1, ?_, r3, r4, r5, fun K' _ => ⟨ts', r6⟩, r9⟩
    rw [if_pos (show 0 ≤ id b from hb0), show id b - 1 - c a = (w : Int) from hw]
    exact r2
  · intro u v x l k hA hR hD hk hc
    obtain ⟨a, b, n, fs, ws, h1, h2, h3, h4, h5, h6⟩ := hA
    rw [h3] at hc ⊢
    exact name_both hR.2.1 hR.2.2 hS hF h2.2.2.1.2.1.1 hc hD hk
  · intro u v x l K K' _ hI _ _
    exact hI
  · intro u u' v v' K L hW hd hI
    obtain ⟨ts, hN⟩ := hI
    exact ⟨ts, NB_wr hW hd rfl (fun _ => rfl) rfl (fun _ => rfl) hN⟩
