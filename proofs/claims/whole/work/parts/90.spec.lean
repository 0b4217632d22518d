/-! what looking at a code asks: one table of places -/
/-- arguments, locals, the stack's most, size, bytes, constants, names -/
abbrev oCd : Type := Nat × Nat × Nat × Nat × (Nat → Nat) × Nat × Nat
def cdA (κ : oCd) : Nat := κ.1
def cdL (κ : oCd) : Nat := κ.2.1
def cdM (κ : oCd) : Nat := κ.2.2.1
def cdN (κ : oCd) : Nat := κ.2.2.2.1
def cdB (κ : oCd) : Nat → Nat := κ.2.2.2.2.1
def cdK (κ : oCd) : Nat := κ.2.2.2.2.2.1
def cdW (κ : oCd) : Nat := κ.2.2.2.2.2.2
/-- bounds that reading keeps -/
def cdO (κ : oCd) : Prop := cdA κ ≤ 4 ∧ cdA κ ≤ cdL κ ∧ cdL κ ≤ 8 ∧ (1 ≤ cdM κ ∧ cdM κ ≤ 10) ∧ (2 ≤ cdN κ ∧ cdN κ ≤ 160 ∧ cdN κ % 2 = 0) ∧ (∀ p, p < cdN κ → cdB κ p < 256) ∧ (∀ p, cdN κ ≤ p → cdB κ p = 0) ∧ cdK κ ≤ 12 ∧ cdW κ ≤ 12
/-- the instruction at a place, what it is told, the place behind it -/
def dcW (κ : oCd) (p : Nat) : Nat := if cdB κ p = 144 then cdB κ (p + 2) else cdB κ p
def dcA (κ : oCd) (p : Nat) : Nat := if cdB κ p = 144 then 256 * cdB κ (p + 1) + cdB κ (p + 3) else cdB κ (p + 1)
def dcN (κ : oCd) (p : Nat) : Nat := if cdB κ p = 144 then p + 4 else p + 2
/-- how many are taken, by the instruction alone -/
def tkW (w a : Nat) : Option Nat :=
  if w = 100 ∨ w = 101 ∨ w = 124 ∨ w = 110 ∨ w = 113 ∨ w = 122 ∨ w = 87 then some 0
  else if w = 1 ∨ w = 4 ∨ w = 11 ∨ w = 12 ∨ w = 68 ∨ w = 83 ∨ w = 90 ∨ w = 92 ∨ w = 93 ∨ w = 114 ∨ w = 115 ∨ w = 125 ∨ w = 130 ∨ w = 132 then some 1
  else if w = 2 ∨ w = 20 ∨ w = 22 ∨ w = 23 ∨ w = 24 ∨ w = 25 ∨ w = 26 ∨ w = 107 then some 2
  else if w = 3 then some 3
  else if w = 102 then some a
  else if w = 131 then some (a + 1)
  else none
/-- whether what it is told is there -/
def agW (κ : oCd) (w a : Nat) : Prop :=
  (w = 100 → a < cdK κ) ∧ (w = 90 ∨ w = 101 → a < cdW κ) ∧ (w = 124 ∨ w = 125 → a < cdL κ) ∧ (w = 102 ∨ w = 92 → a ≤ 10) ∧ (w = 131 → a ≤ 4) ∧ (w = 107 → a ≤ 5 ∨ a = 10) ∧ (w = 130 → a = 1) ∧ (w = 132 → a = 0)
/-- how many are given -/
def gvW (w a : Nat) : Nat :=
  if w = 1 ∨ w = 83 ∨ w = 90 ∨ w = 125 ∨ w = 130 ∨ w = 110 ∨ w = 113 ∨ w = 114 ∨ w = 115 ∨ w = 122 ∨ w = 87 then 0
  else if w = 2 ∨ w = 4 ∨ w = 93 then 2
  else if w = 3 then 3
  else if w = 92 then a
  else 1
/-- a height and blocks (level, handler), the innermost first -/
abbrev oHB : Type := Nat × List (Nat × Nat)
def flr (b : List (Nat × Nat)) : Nat := match b with
  | [] => 0
  | q :: _ => q.1
/-- the ways on from an instruction that finds what it takes; none: it is not as it must be -/
def scR (w a nx H : Nat) (s : oHB) : Option (List (Nat × oHB)) :=
  if w = 83 then (if s.2 = [] then some [] else none)
  else if w = 87 then (match s.2 with
    | [] => none
    | _ :: r => some [(nx, H, r)])
  else if w = 93 then some [(nx + a, s.1 - 1, s.2), (nx, H, s.2)]
  else if w = 110 then some [(nx + a, H, s.2)]
  else if w = 113 then some [(a, H, s.2)]
  else if w = 114 ∨ w = 115 then some [(a, H, s.2), (nx, H, s.2)]
  else if w = 122 then (if s.2.length = 4 then none else some [(nx + a, s.1 + 1, s.2), (nx, s.1, (s.1, nx + a) :: s.2)])
  else if w = 130 then some []
  else some [(nx, H, s.2)]
def scW (w a nx : Nat) (s : oHB) : Option (List (Nat × oHB)) := match tkW w a with
  | none => none
  | some t => if s.1 < flr s.2 + t then none else scR w a nx (s.1 - t + gvW w a) s
/-- a place that may be come to -/
def plW (κ : oCd) (q : Nat) : Prop := q < cdN κ ∧ q % 2 = 0 ∧ (2 ≤ q → cdB κ (q - 2) ≠ 144)
/-- a table of places that is closed -/
def okT (κ : oCd) (T : Nat → Option oHB) : Prop := T 0 = some (0, []) ∧ ∀ p s, T p = some s → plW κ p ∧ s.1 ≤ cdM κ ∧ agW κ (dcW κ p) (dcA κ p) ∧ ∃ l, scW (dcW κ p) (dcA κ p) (dcN κ p) s = some l ∧ ∀ q ∈ l, T q.1 = some q.2
/-- blocks out of rows, the innermost first -/
def blL (lv hd : Nat → Nat) : Nat → List (Nat × Nat)
  | 0 => []
  | b + 1 => (lv b, hd b) :: blL lv hd b
theorem blL_len (lv hd : Nat → Nat) : ∀ b, (blL lv hd b).length = b
  | 0 => rfl
  | b + 1 => congrArg (· + 1) (blL_len lv hd b)
theorem blL_congr {lv hd lv' hd' : Nat → Nat} : ∀ b, (∀ i, i < b → lv i = lv' i ∧ hd i = hd' i) → blL lv hd b = blL lv' hd' b
  | 0, _ => rfl
  | b + 1, h => by
    show (lv b, hd b) :: blL lv hd b = (lv' b, hd' b) :: blL lv' hd' b
    rw [blL_congr b (fun i hi => h i (by omega)), (h b (by omega)).1, (h b (by omega)).2]
theorem blL_inj {lv hd lv' hd' : Nat → Nat} : ∀ b b', blL lv hd b = blL lv' hd' b' → b = b' ∧ ∀ i, i < b → lv i = lv' i ∧ hd i = hd' i
  | 0, 0, _ => ⟨rfl, fun i hi => absurd hi (Nat.not_lt_zero i)⟩
  | 0, b' + 1, h => by cases h
  | b + 1, 0, h => by cases h
  | b + 1, b' + 1, h => by
    have h' : (lv b, hd b) :: blL lv hd b = (lv' b', hd' b') :: blL lv' hd' b' := h
    obtain ⟨h1, h2⟩ := List.cons.inj h'
    obtain ⟨e, h3⟩ := blL_inj b b' h2
    subst e
    obtain ⟨h4, h5⟩ := Prod.mk.inj h1
    refine ⟨rfl, fun i hi => ?_⟩
    by_cases hb : i = b
    · subst hb; exact ⟨h4, h5⟩
    · exact h3 i (by omega)
theorem blL_flr (lv hd : Nat → Nat) (b : Nat) : flr (blL lv hd b) = if b = 0 then 0 else lv (b - 1) := by
  cases b with
  | zero => rfl
  | succ b => rfl
