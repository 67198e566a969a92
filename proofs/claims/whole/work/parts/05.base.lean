/-! the words that travel: those of the tables that hold over calls -/
def BIG : List Cond := lw_tbl.filter goodWord
theorem BIG_in {w : Cond} (i : Nat) (h : lw_tbl[i]? = some w) (g : goodWord w = true) : w ∈ BIG := List.mem_filter.mpr ⟨List.mem_of_getElem? h, g⟩
theorem BIG_good {w : Cond} (h : w ∈ BIG) : goodWord w = true := (List.mem_filter.mp h).2
theorem BIG_all (ws : List Cond) (ps : List Nat) (hp : ws = ps.filterMap (fun i => lw_tbl[i]?)) (g : ws.all goodWord = true) : ∀ w ∈ ws, w ∈ BIG := by
  intro w hw
  have h1 := List.all_eq_true.mp g w hw
  rw [hp] at hw
  obtain ⟨i, -, hi⟩ := List.mem_filterMap.mp hw
  exact BIG_in i hi h1
theorem BIG_goodIn {ws : List Cond} (h : ∀ w ∈ ws, w ∈ BIG) : GoodIn BIG ws := fun w hw => ⟨h w hw, good_of_word (BIG_good (h w hw))⟩
/-- addresses, tables, array classes (0 byte, 1 int, 2 long, 3 boolean), the String constants and their bytes, the static arrays -/
abbrev Gt : Type := (Nat → Nat) × va_G × (Nat → ClassId) × (Nat → Nat) × (Nat → Nat) × (Nat → Nat)
def tysG (G : Gt) : List (ClassId × FieldType) := [(G.2.2.1 0, .byte), (G.2.2.1 1, .int), (G.2.2.1 2, .long), (G.2.2.1 3, .boolean)]
def tyF (t : Nat) : FieldType := if t = 0 then .byte else if t = 1 then .int else if t = 2 then .long else .boolean
theorem tysG_at (G : Gt) {t : Nat} (h : t < 4) : (tysG G)[t]? = some (G.2.2.1 t, tyF t) := by
  match t, h with
  | 0, _ => rfl
  | 1, _ => rfl
  | 2, _ => rfl
  | 3, _ => rfl
