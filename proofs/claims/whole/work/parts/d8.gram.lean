/-! reading: the grammar, without pictures -/
/-- objects, the next one's number, codes, how many numbers of codes are given, the codes read to their ends -/
abbrev pH : Type := xHp × Int × (Nat → xCd) × Nat × List Nat
def pH.H (h : pH) : xHp := h.1
def pH.n (h : pH) : Int := h.2.1
def pH.C (h : pH) : Nat → xCd := h.2.2.1
def pH.c (h : pH) : Nat := h.2.2.2.1
def pH.l (h : pH) : List Nat := h.2.2.2.2
/-- where reading stands, what there is, what was read -/
abbrev pR (α : Type) : Type := oTS × pH × α
/-- a new object -/
def pH.nw (h : pH) (o : xOb) : pH := (xNew h.H h.n o, h.n + 1, h.C, h.c, h.l)
def pNew (s : oTS) (h : pH) (o : xOb) : pR Int := (s, h.nw o, h.n)
/-- so many, one behind the other -/
def rdL (f : oTS → pH → pR Int) : Nat → oTS → pH → pR (List Int)
  | 0, s, h => (s, h, [])
  | k + 1, s, h => if (f s h).1.2 = none then ((rdL f k (f s h).1 (f s h).2.1).1, (rdL f k (f s h).1 (f s h).2.1).2.1, (f s h).2.2 :: (rdL f k (f s h).1 (f s h).2.1).2.2) else ((f s h).1, (f s h).2.1, [])
section Gr
variable (b : Nat → Nat) (e : Nat)
/-- k names, the first at s -/
def nmT (s : oTS) : Nat → List Nat
  | 0 => []
  | k + 1 => nmT s k ++ [nmV b ((nmN b e s k).1 + 1) (nmL b e (nmN b e s k))]
/-- a code whose head begins at p -/
def hdK (p kc kw : Nat) : oCd := (b p, b (p + 1), b (p + 2), inL b e (p + 3, none), (fun j => if j < inL b e (p + 3, none) then b (p + 5 + j) else 0), kc, kw)
/-- the code number c, its head at p, constants l, names from q on -/
def cdAt (p : Nat) (l : List Int) (q : Nat) : xCd := (hdK b e p l.length (b q), l, nmT b e (q + 1, none) (b q))
/-- a code begins -/
def pH.bg (h : pH) : pH := (h.H, h.n, h.C, h.c + 1, h.l)
/-- a code is read to its end -/
def pH.fin (h : pH) (c : Nat) (κ : xCd) : pH := (h.H, h.n, (fun i => if i = c then κ else h.C i), h.c, h.l ++ [c])
/-- behind its constants; its head was at p, its number is c -/
def rdC2 (p c : Nat) (q : pR (List Int)) : pR Int :=
  if q.1.2 = none then (nmS b e q.1, q.2.1.fin c (cdAt b e p q.2.2 q.1.1), -1 - (c : Int)) else (q.1, q.2.1, 0)
/-- a code, behind its first byte: its number is given as it begins -/
def rdC (f : oTS → pH → pR Int) (s : oTS) (h : pH) : pR Int :=
  if (bwS b e 0 12 (hdS b e s)).2 = none then rdC2 b e s.1 h.c (rdL f (b (hdS b e s).1) (bwS b e 0 12 (hdS b e s)) h.bg) else (bwS b e 0 12 (hdS b e s), h, 0)
/-- a tuple of these -/
def pH.tp (h : pH) (l : List Int) : xOb := .inr (.inl (l, xMax h.H l + 1))
def rdT (q : pR (List Int)) : pR Int := if q.1.2 = none then pNew q.1 q.2.1 (q.2.1.tp q.2.2) else (q.1, q.2.1, 0)
/-- the number that two, four or more bytes tell -/
def lgZ (p : Nat) : Int := if 240 ≤ b p then -(dv (dgV b (p + 2)) (lgK b p) : Int) else (dv (dgV b (p + 2)) (lgK b p) : Int)
def lgS (p : Nat) : oTS := lgD b e (lgL b e p) (lgC b e p) (lgL b e p)
/-- a number, if it is there -/
def rdN (s : oTS) (h : pH) (N : Int) : pR Int := if s.2 = none then pNew s h (.inl N) else (s, h, 0)
/-- one object, by its first byte; its items are read by f -/
def rdB (f : oTS → pH → pR Int) (p : Nat) (h : pH) : pR Int :=
  if b p = 78 then ((p + 1, none), h, 0)
  else if b p = 70 then ((p + 1, none), h, 1)
  else if b p = 84 then ((p + 1, none), h, 2)
  else if b p = 105 then rdN (bwN b e (p + 1, none) 4) h (nI (ivN b (p + 1) 4)).toInt
  else if b p = 108 then rdN (lgS b e (p + 1)) h (lgZ b (p + 1))
  else if b p = 40 then (if (bwS b e 0 12 (p + 1, none)).2 = none then rdT (rdL f (b (p + 1)) (p + 2, none) h) else (bwS b e 0 12 (p + 1, none), h, 0))
  else if b p = 99 then rdC b e f (p + 1, none) h
  else ((p, some p), h, 0)
/-- one object; so many levels are left -/
def rdO : Nat → oTS → pH → pR Int
  | 0, s, h => (rfS s, h, 0)
  | k + 1, s, h => if s.2 = none ∧ s.1 < e then rdB b e (rdO k) s.1 h else (rfS s, h, 0)
/-- the whole tape -/
def rdA (h : pH) : pR Int :=
  if (bwS b e 99 99 (0, none)).2 = none then
    (if (rdC b e (rdO b e 4) (1, none) h).1.2 = none then
      (if (rdC b e (rdO b e 4) (1, none) h).1.1 < e then (rfS (rdC b e (rdO b e 4) (1, none) h).1, (rdC b e (rdO b e 4) (1, none) h).2) else rdC b e (rdO b e 4) (1, none) h)
    else rdC b e (rdO b e 4) (1, none) h)
  else (bwS b e 99 99 (0, none), h, 0)
end Gr
