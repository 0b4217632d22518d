/-! the machine itself, without pictures: values, objects, codes, frames -/
/-- values: below 0 a code (-1 - v), 0 none, 1 false, 2 true, 3 RANGE, 4 .. 10 the kinds, from 16 on objects. An object: a number; a tuple's items and how deep it is; a range; a walker: over what, its place; a function: its code -/
abbrev xOb : Type := Int ⊕ (List Int × Nat) ⊕ (Int × Int × Int) ⊕ (Int × Nat) ⊕ Nat
abbrev xHp : Type := Int → Option xOb
/-- a code, its constants, its names -/
abbrev xCd : Type := oCd × List Int × List Nat
/-- a frame: code, place, stack (the top one first), locals, blocks (level, handler; the latest first) -/
abbrev xFr : Type := Nat × Nat × List Int × (Nat → Option Int) × List (Nat × Nat)
/-- a kind that is raised, or: objects, the next one's number, names stored, frames, the value that it ended with -/
abbrev xOut : Type := Nat ⊕ (xHp × Int × List (Nat × Int) × List xFr × Option Int)
def xNew (H : xHp) (n : Int) (o : xOb) : xHp := fun v => if v = n then some o else H v
def xNum (H : xHp) (v : Int) : Option Int := if v = 1 then some 0 else if v = 2 then some 1 else match H v with
  | some (.inl n) => some n
  | _ => none
def xTup (H : xHp) (v : Int) : Option (List Int) := match H v with
  | some (.inr (.inl q)) => some q.1
  | _ => none
def xDep (H : xHp) (v : Int) : Nat := match H v with
  | some (.inr (.inl q)) => q.2
  | _ => 0
def xMax (H : xHp) : List Int → Nat
  | [] => 0
  | v :: l => max (xDep H v) (xMax H l)
def xRng (H : xHp) (v : Int) : Option (Int × Int × Int) := match H v with
  | some (.inr (.inr (.inl q))) => some q
  | _ => none
def xLen (H : xHp) (v : Int) : Option Nat := match H v with
  | some (.inr (.inl q)) => some q.1.length
  | some (.inr (.inr (.inl q))) => some (rgN q.1 q.2.1 q.2.2)
  | _ => none
/-- item k: one that is there, or a new number -/
def xItem (H : xHp) (v : Int) (k : Nat) : Int ⊕ Int := match H v with
  | some (.inr (.inl q)) => .inl (q.1.getD k 0)
  | some (.inr (.inr (.inl q))) => .inr (q.1 + k * q.2.2)
  | _ => .inl 0
def xFalse (H : xHp) (v : Int) : Bool := v == 0 || xNum H v == some 0 || xLen H v == some 0
def xEq (H : xHp) : Nat → Int → Int → Bool
  | 0, a, b => a == b
  | k + 1, a, b => a == b || match xNum H a, xNum H b with
    | some p, some q => p == q
    | _, _ => match xTup H a, xTup H b with
      | some l, some l' => l.length == l'.length && (l.zip l').all (fun z => xEq H k z.1 z.2)
      | _, _ => match xRng H a, xRng H b with
        | some r, some r' => r == r'
        | _, _ => false
/-- what an instruction finds: objects, the next one's number, names; its frame's code, locals, blocks; the frames below -/
abbrev xEn : Type := xHp × Int × List (Nat × Int) × Nat × (Nat → Option Int) × List (Nat × Nat) × List xFr
def xEn.H (e : xEn) : xHp := e.1
def xEn.n (e : xEn) : Int := e.2.1
def xEn.G (e : xEn) : List (Nat × Int) := e.2.2.1
def xEn.c (e : xEn) : Nat := e.2.2.2.1
def xEn.L (e : xEn) : Nat → Option Int := e.2.2.2.2.1
def xEn.b (e : xEn) : List (Nat × Nat) := e.2.2.2.2.2.1
def xEn.t (e : xEn) : List xFr := e.2.2.2.2.2.2
def xGo (e : xEn) (q : Nat) (st : List Int) : xOut := .inr (e.H, e.n, e.G, (e.c, q, st, e.L, e.b) :: e.t, none)
def xMk (e : xEn) (q : Nat) (r : List Int) (o : xOb) : xOut := .inr (xNew e.H e.n o, e.n + 1, e.G, (e.c, q, e.n :: r, e.L, e.b) :: e.t, none)
def xGive (e : xEn) (q : Nat) (r : List Int) (N : Int) : xOut := if N.natAbs < 32768 ^ 16 then xMk e q r (.inl N) else .inl 6
/-- a number's sign -/
def sgI (A : Int) : Int32 := if A < 0 then 1 else 0
/-- MUL, MOD, ADD, SUB, DIV of numbers -/
def xAr (e : xEn) (q w : Nat) (r : List Int) (A B : Int) : xOut :=
  if w = 20 then xGive e q r (A * B)
  else if w = 23 then xGive e q r (A + B)
  else if w = 24 then xGive e q r (A - B)
  else if B = 0 then .inl 1
  else xGive e q r (qZ (if w = 22 then 1 else 0) (sgI A) (sgI B) A.natAbs B.natAbs)
def xAri (e : xEn) (q w : Nat) (r : List Int) (a b : Int) : xOut := match xNum e.H a, xNum e.H b with
  | some A, some B => xAr e q w r A B
  | _, _ => .inl 0
def xAdd (e : xEn) (q : Nat) (r : List Int) (a b : Int) : xOut := match xTup e.H a, xTup e.H b with
  | some l, some l' => if 12 < l.length + l'.length then .inl 6 else xMk e q r (.inr (.inl (l ++ l', xMax e.H (l ++ l') + 1)))
  | _, _ => xAri e q 23 r a b
def xIt (e : xEn) (q : Nat) (r : List Int) (v i : Int) : xOut := match xLen e.H v, xNum e.H i with
  | some n, some k => if (if k < 0 then k + n else k) < 0 ∨ (n : Int) ≤ (if k < 0 then k + n else k) then .inl 2 else match xItem e.H v (if k < 0 then k + n else k).toNat with
    | .inl u => xGo e q (u :: r)
    | .inr N => xMk e q r (.inl N)
  | _, _ => .inl 0
def xIsK (v : Int) : Bool := decide (4 ≤ v) && decide (v ≤ 10)
def xCmp (e : xEn) (q a : Nat) (r : List Int) (u v : Int) : xOut :=
  if a = 2 ∨ a = 3 then xGo e q ((if xEq e.H 5 u v = (a == 2) then 2 else 1) :: r)
  else if a = 10 then (if xIsK u = true ∧ xIsK v = true then xGo e q ((if u = v then 2 else 1) :: r) else .inl 0)
  else match xNum e.H u, xNum e.H v with
  | some A, some B => xGo e q ((if (if a = 0 then decide (A < B) else if a = 1 then decide (A ≤ B) else if a = 4 then decide (B < A) else decide (B ≤ A)) = true then 2 else 1) :: r)
  | _, _ => .inl 0
def xWalk (e : xEn) (q : Nat) (r : List Int) (v : Int) : xOut := match e.H v with
  | some (.inr (.inr (.inr (.inl _)))) => xGo e q (v :: r)
  | some (.inr (.inl _)) => xMk e q r (.inr (.inr (.inr (.inl (v, 0)))))
  | some (.inr (.inr (.inl _))) => xMk e q r (.inr (.inr (.inr (.inl (v, 0)))))
  | _ => .inl 0
def xNext (e : xEn) (q a : Nat) (r : List Int) (v : Int) : xOut := match e.H v with
  | some (.inr (.inr (.inr (.inl (o, k))))) => match xLen e.H o with
    | some n => if k < n then match xItem e.H o k with
      | .inl u => .inr (xNew e.H v (.inr (.inr (.inr (.inl (o, k + 1))))), e.n, e.G, (e.c, q, u :: v :: r, e.L, e.b) :: e.t, none)
      | .inr N => .inr (xNew (xNew e.H v (.inr (.inr (.inr (.inl (o, k + 1)))))) e.n (.inl N), e.n + 1, e.G, (e.c, q, e.n :: v :: r, e.L, e.b) :: e.t, none)
      else xGo e (q + a) r
    | none => .inl 0
  | _ => .inl 0
/-- the place of a name among those stored; all of them: how many there are -/
def xFind (w : Nat) : List (Nat × Int) → Nat
  | [] => 0
  | g :: l => if g.1 = w then 0 else xFind w l + 1
def xSet (w : Nat) (v : Int) : List (Nat × Int) → List (Nat × Int)
  | [] => [(w, v)]
  | g :: l => if g.1 = w then (w, v) :: l else g :: xSet w v l
def xGet (w : Nat) : List (Nat × Int) → Option Int
  | [] => none
  | g :: l => if g.1 = w then some g.2 else xGet w l
/-- range, typ, zero, index, value, name, deep, over -/
def xBuilt (w : Nat) : Option Int :=
  if w = 491260897125 then some 3 else if w = 7633264 then some 4 else if w = 2053468783 then some 5 else if w = 452823639416 then some 6 else if w = 508440638821 then some 7 else if w = 1851878757 then some 8 else if w = 1684366704 then some 9 else if w = 1870030194 then some 10 else none
def xStore (e : xEn) (q : Nat) (w : Nat) (r : List Int) (v : Int) : xOut := if xFind w e.G = 16 then .inl 6 else .inr (e.H, e.n, xSet w v e.G, (e.c, q, r, e.L, e.b) :: e.t, none)
def xName (e : xEn) (q w : Nat) (st : List Int) : xOut := match xGet w e.G with
  | some v => xGo e q (v :: st)
  | none => match xBuilt w with
    | some v => xGo e q (v :: st)
    | none => .inl 4
def xNums (H : xHp) : List Int → Option (List Int)
  | [] => some []
  | v :: l => match xNum H v, xNums H l with
    | some N, some k => some (N :: k)
    | _, _ => none
def xFit (N : Int) : Bool := decide (-2147483648 ≤ N) && decide (N ≤ 2147483647)
/-- RANGE of these numbers, the last one first -/
def xRange (e : xEn) (q : Nat) (r l : List Int) : xOut := match l with
  | [] => .inl 0
  | b :: k => if (b :: k).all xFit = true then match k with
    | [] => xMk e q r (.inr (.inr (.inl (0, b, 1))))
    | [a] => xMk e q r (.inr (.inr (.inl (a, b, 1))))
    | [c, a] => if b = 0 then .inl 3 else xMk e q r (.inr (.inr (.inl (a, c, b))))
    | _ => .inl 0
    else .inl 6
def xCall (C : Nat → xCd) (e : xEn) (q a : Nat) (as r : List Int) (v : Int) : xOut :=
  if v = 3 then (if 3 < a then .inl 0 else match xNums e.H as with
    | some l => xRange e q r l
    | none => .inl 0)
  else match e.H v with
  | some (.inr (.inr (.inr (.inr k)))) => if cdA (C k).1 = a then (if e.t.length = 7 then .inl 5 else .inr (e.H, e.n, e.G, (k, 0, [], (fun i => as.reverse[i]?), []) :: (e.c, q, r, e.L, e.b) :: e.t, none)) else .inl 0
  | _ => .inl 0
def xRet (e : xEn) (v : Int) : xOut := match e.t with
  | [] => .inr (e.H, e.n, e.G, [], some v)
  | f :: t => .inr (e.H, e.n, e.G, (f.1, f.2.1, v :: f.2.2.1, f.2.2.2) :: t, none)
def xTp (e : xEn) (q : Nat) (as r : List Int) : xOut := if xMax e.H as = 4 then .inl 6 else xMk e q r (.inr (.inl (as.reverse, xMax e.H as + 1)))
def xSpr (e : xEn) (q a : Nat) (r : List Int) (v : Int) : xOut := match xTup e.H v with
  | some l => if l.length = a then xGo e q (l ++ r) else .inl 3
  | none => .inl 0
/-- instructions that take none -/
def x0 (C : Nat → xCd) (e : xEn) (q w a : Nat) (st : List Int) : xOut :=
  if w = 100 then xGo e q ((C e.c).2.1.getD a 0 :: st)
  else if w = 101 then xName e q ((C e.c).2.2.getD a 0) st
  else if w = 124 then (match e.L a with
    | some v => xGo e q (v :: st)
    | none => .inl 4)
  else if w = 110 then xGo e (q + a) st
  else if w = 113 then xGo e a st
  else if w = 122 then .inr (e.H, e.n, e.G, (e.c, q, st, e.L, (st.length, q + a) :: e.b) :: e.t, none)
  else if w = 87 then .inr (e.H, e.n, e.G, (e.c, q, st, e.L, e.b.tail) :: e.t, none)
  else if w = 102 then xTp e q (st.take a) (st.drop a)
  else xCall C e q a (st.take a) (st.drop (a + 1)) (st.getD a 0)
/-- instructions that take one -/
def x1 (C : Nat → xCd) (e : xEn) (q w a : Nat) (r : List Int) (v : Int) : xOut :=
  if w = 1 then xGo e q r
  else if w = 4 then xGo e q (v :: v :: r)
  else if w = 11 then (match xNum e.H v with
    | some N => xMk e q r (.inl (-N))
    | none => .inl 0)
  else if w = 12 then xGo e q ((if xFalse e.H v = true then 2 else 1) :: r)
  else if w = 68 then xWalk e q r v
  else if w = 83 then xRet e v
  else if w = 90 then xStore e q ((C e.c).2.2.getD a 0) r v
  else if w = 92 then xSpr e q a r v
  else if w = 93 then xNext e q a r v
  else if w = 114 then xGo e (if xFalse e.H v = true then a else q) r
  else if w = 115 then xGo e (if xFalse e.H v = true then q else a) r
  else if w = 125 then .inr (e.H, e.n, e.G, (e.c, q, r, (fun i => if i = a then some v else e.L i), e.b) :: e.t, none)
  else if w = 130 then .inl (if xIsK v = true then (v - 4).toNat else 0)
  else if v < 0 then xMk e q r (.inr (.inr (.inr (.inr (-1 - v).toNat)))) else .inl 0
/-- instructions that take two: u is the right one -/
def x2 (e : xEn) (q w a : Nat) (r : List Int) (v u : Int) : xOut :=
  if w = 2 then xGo e q (v :: u :: r)
  else if w = 23 then xAdd e q r v u
  else if w = 25 then xIt e q r v u
  else if w = 107 then xCmp e q a r v u
  else xAri e q w r v u
def xIns (C : Nat → xCd) (e : xEn) (q w a : Nat) (st : List Int) : xOut :=
  if w = 3 then (match st with
    | x :: y :: z :: r => xGo e q (y :: z :: x :: r)
    | _ => .inl 0)
  else if w = 100 ∨ w = 101 ∨ w = 124 ∨ w = 110 ∨ w = 113 ∨ w = 122 ∨ w = 87 ∨ w = 102 ∨ w = 131 then x0 C e q w a st
  else if w = 2 ∨ w = 20 ∨ w = 22 ∨ w = 23 ∨ w = 24 ∨ w = 25 ∨ w = 26 ∨ w = 107 then (match st with
    | u :: v :: r => x2 e q w a r v u
    | _ => .inl 0)
  else (match st with
    | v :: r => x1 C e q w a r v
    | _ => .inl 0)
/-- an exception looks for a block -/
def xUnw (k : Nat) : List xFr → List xFr
  | [] => []
  | (c, p, st, L, []) :: t => xUnw k t
  | (c, p, st, L, (l, h) :: b) :: t => (c, h, (4 + (k : Int)) :: st.drop (st.length - l), L, b) :: t
/-- under way: objects, the next one's number, names, frames; state, kind, result -/
abbrev xSt : Type := xHp × Int × List (Nat × Int) × List xFr × Nat × Int × Int
def xSt.H (s : xSt) : xHp := s.1
def xSt.n (s : xSt) : Int := s.2.1
def xSt.G (s : xSt) : List (Nat × Int) := s.2.2.1
def xSt.f (s : xSt) : List xFr := s.2.2.2.1
def xSt.s (s : xSt) : Nat := s.2.2.2.2.1
def xSt.k (s : xSt) : Int := s.2.2.2.2.2.1
def xSt.r (s : xSt) : Int := s.2.2.2.2.2.2
def xRaise (k : Nat) (H : xHp) (n : Int) (G : List (Nat × Int)) (fs : List xFr) : xSt := match xUnw k fs with
  | [] => (H, n, G, [], 3, (k : Int), 0)
  | f :: t => (H, n, G, f :: t, 1, -1, 0)
def xDone (o : xOut) (H : xHp) (n : Int) (G : List (Nat × Int)) (fs : List xFr) : xSt := match o with
  | .inl k => xRaise k H n G fs
  | .inr (H', n', G', fs', some v) => (H', n', G', fs', 2, -1, v)
  | .inr (H', n', G', fs', none) => (H', n', G', fs', 1, -1, 0)
def xStep (C : Nat → xCd) (s : xSt) : xSt := match s.f with
  | [] => s
  | (c, p, st, L, b) :: t => xDone (xIns C (s.H, s.n, s.G, c, L, b, t) (dcN (C c).1 p) (dcW (C c).1 p) (dcA (C c).1 p) st) s.H s.n s.G ((c, dcN (C c).1 p, st, L, b) :: t)
/-- at most so many instructions, and how many -/
def xWork (C : Nat → xCd) : Nat → xSt → Nat × xSt
  | 0, s => (0, s)
  | k + 1, s => if s.s = 1 then ((xWork C k (xStep C s)).1 + 1, (xWork C k (xStep C s)).2) else (0, s)
