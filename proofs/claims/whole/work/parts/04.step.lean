/-! the heap's picture -/
/-- next address; kind of an address (0: not ours); length of a row; int, reference and long fields by field and address; int, reference and long rows by address and place -/
def ox_St : Type := Nat × (Nat → Nat) × (Nat → Nat) × (Nat → Nat → Int32) × (Nat → Nat → Nat) × (Nat → Nat → Int64) × (Nat → Nat → Int32) × (Nat → Nat → Nat) × (Nat → Nat → Int64)
def ox_mk (n : Nat) (K len : Nat → Nat) (I : Nat → Nat → Int32) (R : Nat → Nat → Nat) (J : Nat → Nat → Int64) (rI : Nat → Nat → Int32) (rR : Nat → Nat → Nat) (rJ : Nat → Nat → Int64) : ox_St := (n, K, len, I, R, J, rI, rR, rJ)
def ox_St.n (S : ox_St) : Nat := S.1
def ox_St.K (S : ox_St) : Nat → Nat := S.2.1
def ox_St.len (S : ox_St) : Nat → Nat := S.2.2.1
def ox_St.I (S : ox_St) : Nat → Nat → Int32 := S.2.2.2.1
def ox_St.R (S : ox_St) : Nat → Nat → Nat := S.2.2.2.2.1
def ox_St.J (S : ox_St) : Nat → Nat → Int64 := S.2.2.2.2.2.1
def ox_St.rI (S : ox_St) : Nat → Nat → Int32 := S.2.2.2.2.2.2.1
def ox_St.rR (S : ox_St) : Nat → Nat → Nat := S.2.2.2.2.2.2.2.1
def ox_St.rJ (S : ox_St) : Nat → Nat → Int64 := S.2.2.2.2.2.2.2.2
def ox_u1 {α : Type} (f : Nat → α) (k : Nat) (v : α) : Nat → α := fun j => if j = k then v else f j
def ox_u2 {α : Type} (f : Nat → Nat → α) (k a : Nat) (v : α) : Nat → Nat → α := fun j b => if j = k ∧ b = a then v else f j b
def ox_z2 {α : Type} (f : Nat → Nat → α) (a : Nat) (v : α) : Nat → Nat → α := fun j b => if b = a then v else f j b
def ox_z1 {α : Type} (f : Nat → Nat → α) (a : Nat) (v : α) : Nat → Nat → α := fun b j => if b = a then v else f b j
def ox_St.sI (S : ox_St) (F a : Nat) (v : Int32) : ox_St := ox_mk S.n S.K S.len (ox_u2 S.I F a v) S.R S.J S.rI S.rR S.rJ
def ox_St.sR (S : ox_St) (F a : Nat) (v : Nat) : ox_St := ox_mk S.n S.K S.len S.I (ox_u2 S.R F a v) S.J S.rI S.rR S.rJ
def ox_St.sJ (S : ox_St) (F a : Nat) (v : Int64) : ox_St := ox_mk S.n S.K S.len S.I S.R (ox_u2 S.J F a v) S.rI S.rR S.rJ
def ox_St.wI (S : ox_St) (a i : Nat) (v : Int32) : ox_St := ox_mk S.n S.K S.len S.I S.R S.J (ox_u2 S.rI a i v) S.rR S.rJ
def ox_St.wR (S : ox_St) (a i : Nat) (v : Nat) : ox_St := ox_mk S.n S.K S.len S.I S.R S.J S.rI (ox_u2 S.rR a i v) S.rJ
def ox_St.wJ (S : ox_St) (a i : Nat) (v : Int64) : ox_St := ox_mk S.n S.K S.len S.I S.R S.J S.rI S.rR (ox_u2 S.rJ a i v)
/-- a new object, all its fields 0 -/
def ox_St.newO (S : ox_St) (κ : Nat) : ox_St := ox_mk (S.n + 1) (ox_u1 S.K S.n κ) S.len (ox_z2 S.I S.n 0) (ox_z2 S.R S.n 0) (ox_z2 S.J S.n 0) S.rI S.rR S.rJ
/-- a new row of N zeros -/
def ox_St.newA (S : ox_St) (κ N : Nat) : ox_St := ox_mk (S.n + 1) (ox_u1 S.K S.n κ) (ox_u1 S.len S.n N) S.I S.R S.J (ox_z1 S.rI S.n 0) (ox_z1 S.rR S.n 0) (ox_z1 S.rJ S.n 0)
def ox_fv (ty F : Nat) (S : ox_St) (a : Nat) : ox_V := match ty with
  | 0 => .inl (S.I F a)
  | 1 => .inr (.inl (S.J F a))
  | 2 => .inr (.inr (S.R F a))
  | _ => .inl (S.I F a)
/-- a putfield: what fits the field's type -/
def ox_pf (ty F : Nat) (S : ox_St) (a : Nat) (v : ox_V) (k : ox_St → Prop) : Prop := match ty with
  | 0 => match v with
    | .inl x => k (S.sI F a x)
    | _ => False
  | 1 => match v with
    | .inr (.inl x) => k (S.sJ F a x)
    | _ => False
  | 2 => match v with
    | .inr (.inr x) => k (S.sR F a x)
    | _ => False
  | _ => match v with
    | .inl x => (x = 0 ∨ x = 1) ∧ k (S.sI F a x)
    | _ => False
def ox_go (pc : Nat) (off : Int) (k : Nat → Prop) : Prop := match (pc : Int) + off with
  | .ofNat t => k t
  | .negSucc _ => False
def ox_ts (pc : Nat) (x : Int32) (dflt : Int) (k : Nat → Prop) : Int → List Int → Prop
  | _, [] => ox_go pc dflt k
  | lo, o :: os => (x.toInt = lo → ox_go pc o k) ∧ (¬ x.toInt = lo → ox_ts pc x dflt k (lo + 1) os)
def ox_lks (pc : Nat) (x : Int32) (dflt : Int) (k : Nat → Prop) : List (Int × Int) → Prop
  | [] => ox_go pc dflt k
  | q :: os => (x.toInt = q.1 → ox_go pc q.2 k) ∧ (¬ x.toInt = q.1 → ox_lks pc x dflt k os)
abbrev ox_K : Type := Nat → ox_L → List ox_V → ox_St → Nat → Nat → Prop
abbrev ox_Q : Type := Option ox_V → ox_St → Prop
abbrev ox_E : Type := Nat → List ox_V → Nat → Nat → ox_St → ox_Q → Prop
def ox_ld (L : ox_L) (i : Nat) (k : ox_V → Prop) : Prop := match ox_get L i with
  | some v => k v
  | none => False
/-- int loads take ints alone, and so on -/
def ox_ldi (L : ox_L) (i : Nat) (k : ox_V → Prop) : Prop := match ox_get L i with
  | some (.inl x) => k (.inl x)
  | _ => False
def ox_ldl (L : ox_L) (i : Nat) (k : ox_V → Prop) : Prop := match ox_get L i with
  | some (.inr (.inl x)) => k (.inr (.inl x))
  | _ => False
def ox_lda (L : ox_L) (i : Nat) (k : ox_V → Prop) : Prop := match ox_get L i with
  | some (.inr (.inr x)) => k (.inr (.inr x))
  | _ => False
