/-! what is walked: values, heap pictures, one step of a method as a condition -/
/-- a value: an int, a long, a reference (0 is null, a + 1 the heap's address a) -/
abbrev ox_V : Type := Int32 ⊕ Int64 ⊕ Nat
def ox_rf (a : Nat) : Value := if a = 0 then .null else .ref (a - 1)
def ox_val : ox_V → Value
  | .inl x => .int x
  | .inr (.inl x) => .long x
  | .inr (.inr a) => ox_rf a
theorem ox_rf0 : ox_rf 0 = .null := rfl
theorem ox_rfs {a : Nat} (h : a ≠ 0) : ox_rf a = .ref (a - 1) := by simp [ox_rf, h]
def ox_op (a : Nat) : Option Nat := if a = 0 then none else some (a - 1)
theorem ox_op_rf (a : Nat) : va_rf (ox_op a) = ox_rf a := by
  by_cases h : a = 0
  · simp [ox_op, ox_rf, va_rf, h]
  · simp [ox_op, ox_rf, va_rf, h]
/-- category 1 -/
def ox_c1 : ox_V → Bool
  | .inr (.inl _) => false
  | _ => true
def ox_cat : ox_V → Nat
  | .inr (.inl _) => 2
  | _ => 1
theorem ox_rf_cat (a : Nat) : (ox_rf a).category = 1 := by
  by_cases h : a = 0
  · simp [ox_rf, h, Value.category]
  · simp [ox_rf, h, Value.category]
theorem ox_val_cat (v : ox_V) : (ox_val v).category = ox_cat v := by
  match v with
  | .inl x => rfl
  | .inr (.inl x) => rfl
  | .inr (.inr a) => exact ox_rf_cat a
theorem ox_c1_cat {v : ox_V} (h : ox_c1 v = true) : (ox_val v).category = 1 := by
  match v, h with
  | .inl x, _ => rfl
  | .inr (.inr a), _ => exact ox_rf_cat a
/-- the locals: none where nothing is said -/
abbrev ox_L : Type := List (Option ox_V)
def ox_get : ox_L → Nat → Option ox_V
  | [], _ => none
  | o :: _, 0 => o
  | _ :: t, n + 1 => ox_get t n
def ox_set : ox_L → Nat → Option ox_V → ox_L
  | [], _, _ => []
  | _ :: t, 0, v => v :: t
  | o :: t, n + 1, v => o :: ox_set t n v
def ox_kill (L : ox_L) : Nat → ox_L
  | 0 => L
  | j + 1 => match ox_get L j with
    | some (.inr (.inl _)) => ox_set L j none
    | _ => L
def ox_st1 (L : ox_L) (i : Nat) (v : ox_V) : ox_L := ox_set (ox_kill L i) i (some v)
def ox_st2 (L : ox_L) (i : Nat) (v : ox_V) : ox_L := ox_set (ox_set (ox_kill L i) i (some v)) (i + 1) none
def ox_lh (ls : Array Slot) (nL : Nat) (L : ox_L) : Prop := ls.size = nL ∧ lv_wf ls ∧ ∀ i v, ox_get L i = some v → ls[i]? = some (.val (ox_val v))
theorem ox_get_set_ne : ∀ (L : ox_L) {i j : Nat} (v : Option ox_V), j ≠ i → ox_get (ox_set L i v) j = ox_get L j
  | [], _, _, _, _ => rfl
  | _ :: _, 0, 0, _, h => absurd rfl h
  | _ :: _, 0, _ + 1, _, _ => rfl
  | _ :: _, _ + 1, 0, _, _ => rfl
  | _ :: t, i + 1, j + 1, v, h => ox_get_set_ne t v (fun e => h (by rw [e]))
theorem ox_get_set_eq : ∀ (L : ox_L) (i : Nat) (v : Option ox_V) (x : ox_V), ox_get (ox_set L i v) i = some x → v = some x
  | [], _, _, _, h => by cases h
  | _ :: _, 0, _, _, h => h
  | _ :: t, i + 1, v, x, h => ox_get_set_eq t i v x h
theorem ox_get_lt : ∀ (L : ox_L) (i : Nat) (x : ox_V), ox_get L i = some x → i < L.length
  | [], _, _, h => by cases h
  | _ :: _, 0, _, _ => by simp
  | _ :: t, i + 1, x, h => by have := ox_get_lt t i x h; simp; omega
def ox_lv (L : ox_L) : List (Nat × Value) := (List.range L.length).filterMap (fun i => (ox_get L i).map (fun v => (i, ox_val v)))
theorem ox_lv_mem {L : ox_L} {i : Nat} {v : ox_V} (h : ox_get L i = some v) : (i, ox_val v) ∈ ox_lv L :=
  List.mem_filterMap.mpr ⟨i, List.mem_range.mpr (ox_get_lt L i v h), by rw [h]; rfl⟩
theorem ox_lv_of {L : ox_L} {q : Nat × Value} (h : q ∈ ox_lv L) : ∃ v, ox_get L q.1 = some v ∧ q.2 = ox_val v := by
  obtain ⟨i, -, hi⟩ := List.mem_filterMap.mp h
  cases hg : ox_get L i with
  | none => rw [hg] at hi; cases hi
  | some v => rw [hg] at hi; cases hi; exact ⟨v, hg, rfl⟩
theorem ox_lh.has {ls : Array Slot} {nL : Nat} {L : ox_L} (h : ox_lh ls nL L) : lv_has ls nL (ox_lv L) := ⟨h.1, h.2.1, fun q hq => by
  obtain ⟨v, h1, h2⟩ := ox_lv_of hq
  rw [h.2.2 q.1 v h1, h2]⟩
/-- what was kept ahead of a store at i: another place, and no long that reached into it -/
theorem ox_kill_get {L : ox_L} {i j : Nat} {v : ox_V} (hne : j ≠ i) (h : ox_get (ox_kill L i) j = some v) : ox_get L j = some v ∧ ¬ (j + 1 = i ∧ ox_cat v = 2) := by
  cases i with
  | zero => exact ⟨h, fun e => by omega⟩
  | succ k =>
    have h0 : ox_get (match ox_get L k with
      | some (.inr (.inl _)) => ox_set L k none
      | _ => L) j = some v := h
    clear h
    split at h0
    · rename_i z hz
      by_cases hj : j = k
      · subst hj
        exact absurd (ox_get_set_eq _ _ _ _ h0) (by simp)
      · rw [ox_get_set_ne L _ hj] at h0
        exact ⟨h0, fun e => hj (by omega)⟩
    · rename_i hz
      refine ⟨h0, fun e => ?_⟩
      have hj : j = k := by omega
      subst hj
      match v, h0, e with
      | .inr (.inl z), h1, _ => exact hz z h1
theorem ox_st1_lh {ls' : Array Slot} {nL i : Nat} {L : ox_L} {v : ox_V} {lv' : List (Nat × Value)} (hl : (i, ox_val v) :: (ox_lv L).filter (fun q => !(q.1 == i) && !(q.1 + 1 == i && q.2.category == 2)) = lv') (h : lv_has ls' nL lv') : ox_lh ls' nL (ox_st1 L i v) := by
  refine ⟨h.1, h.2.1, fun j w hw => ?_⟩
  subst hl
  by_cases hj : j = i
  · subst hj
    cases ox_get_set_eq _ _ _ _ hw
    exact h.2.2 (j, ox_val v) List.mem_cons_self
  · unfold ox_st1 at hw
    rw [ox_get_set_ne _ _ hj] at hw
    obtain ⟨h1, h2⟩ := ox_kill_get hj hw
    refine h.2.2 (j, ox_val w) (List.mem_cons_of_mem _ (List.mem_filter.mpr ⟨ox_lv_mem h1, ?_⟩))
    simp only [ox_val_cat]
    simp [hj]
    exact Classical.not_and_iff_not_or_not.mp h2
theorem ox_st2_lh {ls' : Array Slot} {nL i : Nat} {L : ox_L} {v : ox_V} {lv' : List (Nat × Value)} (hl : (i, ox_val v) :: (ox_lv L).filter (fun q => !(q.1 == i) && (!(q.1 == i + 1) && !(q.1 + 1 == i && q.2.category == 2))) = lv') (h : lv_has ls' nL lv') : ox_lh ls' nL (ox_st2 L i v) := by
  refine ⟨h.1, h.2.1, fun j w hw => ?_⟩
  subst hl
  unfold ox_st2 at hw
  by_cases hj1 : j = i + 1
  · subst hj1
    exact absurd (ox_get_set_eq _ _ _ _ hw) (by simp)
  rw [ox_get_set_ne _ _ hj1] at hw
  by_cases hj : j = i
  · subst hj
    cases ox_get_set_eq _ _ _ _ hw
    exact h.2.2 (j, ox_val v) List.mem_cons_self
  · rw [ox_get_set_ne _ _ hj] at hw
    obtain ⟨h1, h2⟩ := ox_kill_get hj hw
    refine h.2.2 (j, ox_val w) (List.mem_cons_of_mem _ (List.mem_filter.mpr ⟨ox_lv_mem h1, ?_⟩))
    simp only [ox_val_cat]
    simp [hj, hj1]
    exact Classical.not_and_iff_not_or_not.mp h2
