/-! WALKS of the class -/
def PW (w : Nat) : Nat → Nat → Bool := fun k _ => k == 11 + w || k == 20 + 3 * w || k == 21 + 3 * w || k == 22 + 3 * w
def BC (u : St) (T : List (Nat × Nat × Int)) : Prop := ∀ v : Nat, v < 220 → (lk T v = none → I u 62 v = -1) ∧ (∀ y, lk T v = some y → I u 62 v = y.1 ∧ I u 63 v = y.2)
def WE (u : St) (c : Nat → Int) (N : Nat) (V : Int) (T : List (Nat × Nat × Int)) : Prop := (∀ p, p < N → I u 32 p = c p) ∧ N ≤ 20000 ∧ V ≤ 220 ∧ BC u T
def WA (w : Nat) (u : St) : List (Nat × Int × Nat) → Prop
  | [] => True
  | f :: fs => I u (20 + 3 * w) fs.length = f.1 ∧ I u (21 + 3 * w) fs.length = f.2.1 ∧ I u (22 + 3 * w) fs.length = f.2.2 ∧ WA w u fs
def Sub (c : Nat → Int) (e : Nat → Nat) (N : Nat) (V : Int) (T : List (Nat × Nat × Int)) : List Nat → Nat × Int → Prop
  | [], x => x.1 < N ∧ Al c e (fun v => 0 ≤ v ∧ v < V) x
  | w :: _, x => x.1 < N ∧ ∃ y, lk T w = some y ∧ ∀ Q, Al c e Q y → Al c e Q x
def Ch (c : Nat → Int) (e : Nat → Nat) (N : Nat) (V : Int) (T : List (Nat × Nat × Int)) : List Nat → Prop
  | [] => True
  | w :: ws => lk T w ≠ none ∧ (∃ z, Sub c e N V T ws z ∧ ∀ Q : Int → Prop, Al c e Q z → Q w) ∧ Ch c e N V T ws
def FV (c : Nat → Int) (e : Nat → Nat) (N : Nat) (V : Int) (T : List (Nat × Nat × Int)) : List (Nat × Int × Nat) → List Nat → Prop
  | [], _ => True
  | f :: fs, ws => ws.length = fs.length ∧ sg e N f.2.2 f.1 ∧ (∀ x ∈ items e f.2.2 f.1 f.2.1, Sub c e N V T ws x) ∧ FV c e N V T fs ws.tail
def flat (e : Nat → Nat) : List (Nat × Int × Nat) → List (Nat × Int)
  | [] => []
  | f :: fs => items e f.2.2 f.1 f.2.1 ++ flat e fs
def WOK (w : Nat) (u : St) (c : Nat → Int) (e : Nat → Nat) (N : Nat) (V : Int) (T : List (Nat × Nat × Int)) (f : Nat × Int × Nat) (fs : List (Nat × Int × Nat)) (ws : List Nat) : Prop := I u (11 + w) 5 = fs.length ∧ WA w u (f :: fs) ∧ FV c e N V T (f :: fs) ws ∧ Ch c e N V T ws
theorem Sub_OK {c : Nat → Int} {e : Nat → Nat} {N : Nat} {V : Int} {T : List (Nat × Nat × Int)} {ρ : Nat → Nat} (hB : BOK c e N V T ρ) (ws : List Nat) : Ch c e N V T ws → ∀ x, Sub c e N V T ws x → OK c e N V T ρ (220 - ws.length) x := by
  induction ws with
  | nil =>
    intro _ x hx
    refine ⟨hx.1, Al_mono (fun v hv => ⟨hv.1, hv.2, fun hb => ?_⟩) hx.2⟩
    cases hl : lk T v.toNat with
    | none => exact absurd hl hb
    | some y => exact (hB _ _ hl).2.1
  | cons w ws ih =>
    intro hC x hx
    obtain ⟨h1, ⟨z, h2, h3⟩, h4⟩ := hC
    obtain ⟨k1, y, k2, k3⟩ := hx
    have h5 := ih h4 z h2
    have h6 := h3 _ h5.2
    have h7 := h6.2.2 h1
    have h8 := hB _ _ k2
    have h9 : OK c e N V T ρ (ρ w) x := ⟨k1, k3 _ h8.2.2.2⟩
    have h7' : ρ w < 220 - ws.length := h7
    exact OK_mono (by simp only [List.length_cons]; omega) h9
theorem WA_eq {w : Nat} {u u' : St} (fs : List (Nat × Int × Nat)) : ∀ m, fs.length ≤ m → (∀ i, i < m → I u' (20 + 3 * w) i = I u (20 + 3 * w) i ∧ I u' (21 + 3 * w) i = I u (21 + 3 * w) i ∧ I u' (22 + 3 * w) i = I u (22 + 3 * w) i) → WA w u fs → WA w u' fs := by
  induction fs with
  | nil => intro _ _ _ _; trivial
  | cons f fs ih =>
    intro m hm h hA
    simp only [List.length_cons] at hm
    have := h fs.length (by omega)
    exact ⟨this.1.trans hA.1, this.2.1.trans hA.2.1, this.2.2.trans hA.2.2.1, ih m (by omega) h hA.2.2.2⟩
theorem Sub_all {c : Nat → Int} {e : Nat → Nat} {N : Nat} {V : Int} {T : List (Nat × Nat × Int)} {ws : List Nat} {x z : Nat × Int} (hz : Sub c e N V T ws z) (hx : x.1 < N) (h : ∀ Q, Al c e Q z → Al c e Q x) : Sub c e N V T ws x := by
  cases ws with
  | nil => exact ⟨hx, h _ hz.2⟩
  | cons w ws =>
    obtain ⟨k1, y, k2, k3⟩ := hz
    exact ⟨hx, y, k2, fun Q hQ => h Q (k3 Q hQ)⟩
/-- what a state must still hold for a walk -/
theorem WOK_fr {P : Nat → Nat → Bool} {w : Nat} {u u' : St} {c : Nat → Int} {e : Nat → Nat} {N : Nat} {V : Int} {T : List (Nat × Nat × Int)} {f : Nat × Int × Nat} {fs : List (Nat × Int × Nat)} {ws : List Nat} (hF : Fr P u u') (h0 : P (11 + w) 5 = false) (h1 : ∀ i, P (20 + 3 * w) i = false) (h2 : ∀ i, P (21 + 3 * w) i = false) (h3 : ∀ i, P (22 + 3 * w) i = false) (h : WOK w u c e N V T f fs ws) : WOK w u' c e N V T f fs ws :=
  ⟨(Fr_I hF h0).trans h.1, WA_eq _ _ (Nat.le_refl _) (fun i _ => ⟨Fr_I hF (h1 i), Fr_I hF (h2 i), Fr_I hF (h3 i)⟩) h.2.1, h.2.2⟩
theorem WE_fr {P : Nat → Nat → Bool} {u u' : St} {c : Nat → Int} {N : Nat} {V : Int} {T : List (Nat × Nat × Int)} (hF : Fr P u u') (h1 : ∀ i, P 32 i = false) (h2 : ∀ i, P 62 i = false) (h3 : ∀ i, P 63 i = false) (h : WE u c N V T) : WE u' c N V T :=
  ⟨fun p hp => (Fr_I hF (h1 p)).trans (h.1 p hp), h.2.1, h.2.2.1, fun v hv => ⟨fun hl => (Fr_I hF (h2 v)).trans ((h.2.2.2 v hv).1 hl), fun y hy => ⟨(Fr_I hF (h2 v)).trans ((h.2.2.2 v hv).2 y hy).1, (Fr_I hF (h3 v)).trans ((h.2.2.2 v hv).2 y hy).2⟩⟩⟩
theorem PW_other {w k : Nat} (i : Nat) (h1 : k ≠ 11 + w) (h2 : k ≠ 20 + 3 * w) (h3 : k ≠ 21 + 3 * w) (h4 : k ≠ 22 + 3 * w) : PW w k i = false := by
  unfold PW; simp [h1, h2, h3, h4]
theorem more_pop (w : Nat) (hw : w < 3) (rec : Nat → Int32 → St → Option (Int32 × St)) (x1 : Int) (hx0 : 0 ≤ x1) (hx : x1 < 1000000) (u : St) (L : Nat) (hL : L < 221) (ht : I u (11 + w) 5 = (L : Int) + 1) (hn : I u (22 + 3 * w) (L + 1) ≤ 0) : ∃ U, fX9_more_L0_0 w rec (zI x1) u = rec 0 (zI (x1 + 1)) U ∧ I U (11 + w) 5 = L ∧ (∀ k i, k ≠ 11 + w → I U k i = I u k i) ∧ Fr (PW w) u U := by
  have b1 := I_lo u (22 + 3 * w) (L + 1)
  have b2 := I_hi u (22 + 3 * w) (L + 1)
  have e1 : ((L : Int) + 1).toNat = L + 1 := by omega
  unfold fX9_more_L0_0
  simp (disch := omega) only [z_lit, z_le, z_lt, z_eq, gI_z, ht, ld_z, bd_s, lt_e, z_add, z_sub, e1, if_neg]
  refine ⟨_, rfl, ?_, ?_, ?_⟩
  · rw [I_uI1 _ _ _ _ (by omega) (by omega)]; omega
  · intro k i hk; exact I_uI3 _ _ _ _ _ _ hk
  · exact Fr_up (by simp [PW]) (Fr_rfl _ _)
