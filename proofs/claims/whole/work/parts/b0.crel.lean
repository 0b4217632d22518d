/-! the class against the machine itself -/
/-- the class's value at a is v -/
def vC (S : ox_St) (x : Nat) (α : Int → Nat) (v : Int) (a : Nat) : Prop := a ≠ 0 ∧ a < S.n ∧ (a < x + 24 ∨ (x + 26 < a ∧ a < x + 76) ∨ x + 119 ≤ a) ∧ ((v < 0 ∧ a = α v) ∨ (0 ≤ v ∧ v ≤ 2 ∧ S.K a = 11 ∧ S.I 6 a = Int32.ofInt v) ∨ (v = 3 ∧ a = x + 17) ∨ (4 ≤ v ∧ v ≤ 10 ∧ a = x + 64 + v.toNat) ∨ (11 ≤ v ∧ a = α v))
/-- a row that running leaves alone -/
def tRw (x n t : Nat) : Prop := t < n ∧ (t = x + 19 ∨ t = x + 21 ∨ x + 119 ≤ t)
/-- the class's object of v is o -/
def cO (S : ox_St) (x : Nat) (α : Int → Nat) (C : Nat → xCd) (v : Int) (o : xOb) : Prop := x + 119 ≤ α v ∧ α v < S.n ∧ match o with
  | .inl N => ∃ t w c r, oNm S (α v) t w c r ∧ nv w c r = N ∧ S.I 6 (α v) = 3 ∧ tRw x S.n t
  | .inr (.inl q) => ∃ t, oTp S (α v) t q.1.length ∧ S.I 6 (α v) = 4 ∧ S.I 57 (α v) = nI q.2 ∧ tRw x S.n t ∧ ∀ i, i < q.1.length → vC S x α (q.1.getD i 0) (S.rR t i)
  | .inr (.inr (.inl q)) => S.K (α v) = 9 ∧ S.I 6 (α v) = 5 ∧ (S.I 53 (α v)).toInt = q.1 ∧ (S.I 54 (α v)).toInt = q.2.1 ∧ (S.I 55 (α v)).toInt = q.2.2
  | .inr (.inr (.inr (.inl q))) => S.K (α v) = 12 ∧ S.I 6 (α v) = 6 ∧ vC S x α q.1 (S.R 58 (α v)) ∧ S.J 59 (α v) = lN q.2
  | .inr (.inr (.inr (.inr c))) => S.K (α v) = 5 ∧ S.I 6 (α v) = 7 ∧ S.R 22 (α v) = α (-1 - c) ∧ S.I 7 (α v) = nI (cdA (C c).1)
/-- the class's code c -/
def cCd (S : ox_St) (x : Nat) (α : Int → Nat) (C : Nat → xCd) (c : Nat) : Prop := x + 119 ≤ α (-1 - c) ∧ α (-1 - c) < S.n ∧ cSh S (α (-1 - c)) (C c).1 ∧ S.I 6 (α (-1 - c)) = 10 ∧ (tRw x S.n (S.R 10 (α (-1 - c))) ∧ tRw x S.n (S.R 11 (α (-1 - c))) ∧ tRw x S.n (S.R 12 (α (-1 - c)))) ∧ (∀ i, i < (C c).2.1.length → vC S x α ((C c).2.1.getD i 0) (S.rR (S.R 11 (α (-1 - c))) i)) ∧ ∀ i, i < (C c).2.2.length → S.rJ (S.R 12 (α (-1 - c))) i = lN ((C c).2.2.getD i 0)
def cDm (nc : Nat) (H : xHp) (v : Int) : Prop := (-(nc : Int) ≤ v ∧ v < 0) ∨ H v ≠ none
/-- where a code lies: the class's address of it is kept behind all codes -/
def cPin (C : Nat → xCd) (c : Nat) : Nat := (C (100000 + c)).1.1
def cHp (S : ox_St) (x : Nat) (α : Int → Nat) (C : Nat → xCd) (nc : Nat) (H : xHp) : Prop := (∀ v o, H v = some o → cO S x α C v o) ∧ (∀ c, c < nc → cCd S x α C c) ∧ (∀ u v, cDm nc H u → cDm nc H v → α u = α v → u = v) ∧ ∀ c, c < nc → α (-1 - (c : Int)) = cPin C c
def cStk (S : ox_St) (x : Nat) (α : Int → Nat) (t : Nat) : List Int → Prop
  | [] => True
  | v :: r => vC S x α v (S.rR t r.length) ∧ cStk S x α t r
def cBk (S : ox_St) (F : Nat) : List (Nat × Nat) → Prop
  | [] => True
  | g :: b => S.rI (F + 3) b.length = nI g.1 ∧ S.rI (F + 4) b.length = nI g.2 ∧ cBk S F b
def cLo (S : ox_St) (x : Nat) (α : Int → Nat) (t : Nat) (L : Nat → Option Int) : Prop := ∀ i, i < 8 → match L i with
  | none => S.rR t i = 0
  | some v => vC S x α v (S.rR t i)
/-- the class's frame number f -/
def cFr (S : ox_St) (x : Nat) (α : Int → Nat) (f : Nat) (g : xFr) : Prop := S.R 18 (x + 28 + 5 * f) = α (-1 - g.1) ∧ S.I 19 (x + 28 + 5 * f) = nI g.2.1 ∧ S.I 20 (x + 28 + 5 * f) = nI g.2.2.1.length ∧ S.I 21 (x + 28 + 5 * f) = nI g.2.2.2.2.length ∧ cStk S x α (x + 28 + 5 * f + 2) g.2.2.1 ∧ cLo S x α (x + 28 + 5 * f + 1) g.2.2.2.1 ∧ cBk S (x + 28 + 5 * f) g.2.2.2.2
def cFs (S : ox_St) (x : Nat) (α : Int → Nat) : List xFr → Prop
  | [] => True
  | g :: t => cFr S x α t.length g ∧ cFs S x α t
def cGl (S : ox_St) (x : Nat) (α : Int → Nat) (G : List (Nat × Int)) : Prop := S.I 43 (x + 11) = nI G.length ∧ ∀ i, i < G.length → S.rJ (x + 13) i = lN (G.getD i (0, 0)).1 ∧ vC S x α (G.getD i (0, 0)).2 (S.rR (x + 14) i)
/-- the kinds' names, and the static row that holds them -/
def xKn : List Nat := [7633264, 2053468783, 452823639416, 508440638821, 1851878757, 1684366704, 1870030194]
def cSn (S : ox_St) (x : Nat) : Prop := S.R 143 0 < x ∧ S.K (S.R 143 0) = 22 ∧ S.len (S.R 143 0) = 7 ∧ ∀ i, i < 7 → S.rJ (S.R 143 0) i = lN (xKn.getD i 0)
def cBs (S : ox_St) (x : Nat) : Prop := oCL S x ∧ 0 < x ∧ S.K 0 = 0 ∧ x + 119 ≤ S.n ∧ cSn S x
def cR (S : ox_St) (x : Nat) (α : Int → Nat) (C : Nat → xCd) (nc : Nat) (s : xSt) : Prop := cBs S x ∧ cHp S x α C nc s.H ∧ cFs S x α s.f ∧ cGl S x α s.G ∧ S.I 35 (x + 11) = nI s.f.length ∧ S.I 37 (x + 11) = nI s.s ∧ S.I 38 (x + 11) = Int32.ofInt s.k ∧ (s.s = 2 → vC S x α s.r (S.R 40 (x + 11))) ∧ (s.s ≠ 2 → S.R 40 (x + 11) = 0)
/-! what running leaves alone: W: addresses that may change -/
def cI (x : Nat) (W : Nat → Prop) (S S' : ox_St) : Prop := oKl S S' ∧ oAg (fun a => a < S.n ∧ ¬ W a) S S' ∧ ∀ a, a < S.n → (a < x + 24 ∨ (x + 26 < a ∧ a < x + 76) ∨ x + 119 ≤ a) → (∀ G, G ≠ 18 → G ≠ 36 → G ≠ 40 → S'.R G a = S.R G a) ∧ ∀ G, G = 6 ∨ G = 7 ∨ G = 51 → S'.I G a = S.I G a
/-- the widest W -/
def cZ (x a : Nat) : Prop := (x + 24 ≤ a ∧ a ≤ x + 26) ∨ (x + 28 ≤ a ∧ a < x + 68) ∨ a = x + 11 ∨ a = x + 13 ∨ a = x + 14
/-- and the row that is told -/
def cY (x a : Nat) : Prop := cZ x a ∨ a = x ∨ (x + 75 ≤ a ∧ a < x + 119)
section CI
variable {x : Nat} {W : Nat → Prop} {S S' T : ox_St}
theorem cI.refl : cI x W S S := ⟨oKl.refl, oAg.refl, fun _ _ _ => ⟨fun _ _ _ _ => rfl, fun _ _ => rfl⟩⟩
theorem cI.mono {W' : Nat → Prop} (h : cI x W S S') (hW : ∀ a, W a → W' a) : cI x W' S S' := ⟨h.1, h.2.1.sub (fun a ha => ⟨ha.1, fun z => ha.2 (hW a z)⟩), h.2.2⟩
theorem cI.trans (h : cI x W S S') (g : cI x W S' T) : cI x W S T := ⟨h.1.trans g.1, h.2.1.trans (g.2.1.sub (fun a ha => ⟨Nat.lt_of_lt_of_le ha.1 h.1.1, ha.2⟩)), fun a ha hb => ⟨fun G g1 g2 g3 => ((g.2.2 a (Nat.lt_of_lt_of_le ha h.1.1) hb).1 G g1 g2 g3).trans ((h.2.2 a ha hb).1 G g1 g2 g3), fun G hG => ((g.2.2 a (Nat.lt_of_lt_of_le ha h.1.1) hb).2 G hG).trans ((h.2.2 a ha hb).2 G hG)⟩⟩
theorem cI.sI (h : cI x W S S') {G a : Nat} {v : Int32} (ha : S.n ≤ a ∨ (W a ∧ G ≠ 6 ∧ G ≠ 7 ∧ G ≠ 51)) : cI x W S (S'.sI G a v) := by
  refine ⟨h.1.trans oKl_sI, h.2.1.trans (oAg_sI (fun z => ?_)), fun q hq hb => ⟨(h.2.2 q hq hb).1, fun G' hG' => ?_⟩⟩
  · rcases ha with y | y
    · omega
    · exact z.2 y.1
  · rw [or_sI_I, if_neg (fun z => ?_)]
    · exact (h.2.2 q hq hb).2 G' hG'
    · rcases ha with y | y <;> omega
theorem cI.sR (h : cI x W S S') {G a v : Nat} (ha : S.n ≤ a ∨ (W a ∧ (G = 18 ∨ G = 36 ∨ G = 40))) : cI x W S (S'.sR G a v) := by
  refine ⟨h.1.trans oKl_sR, h.2.1.trans (oAg_sR (fun z => ?_)), fun q hq hb => ⟨fun G' g1 g2 g3 => ?_, (h.2.2 q hq hb).2⟩⟩
  · rcases ha with y | y
    · omega
    · exact z.2 y.1
  · rw [or_sR_R, if_neg (fun z => ?_)]
    · exact (h.2.2 q hq hb).1 G' g1 g2 g3
    · rcases ha with y | y <;> omega
theorem cI.sJ (h : cI x W S S') {G a : Nat} {v : Int64} (ha : S.n ≤ a) : cI x W S (S'.sJ G a v) :=
  ⟨h.1.trans oKl_sJ, h.2.1.trans (oAg_sJ (fun z => by omega)), h.2.2⟩
theorem cI.wI (h : cI x W S S') {a i : Nat} {v : Int32} (ha : S.n ≤ a ∨ W a) : cI x W S (S'.wI a i v) :=
  ⟨h.1.trans oKl_wI, h.2.1.trans (oAg_wI (fun z => ha.elim (fun y => by omega) z.2)), h.2.2⟩
theorem cI.wR (h : cI x W S S') {a i v : Nat} (ha : S.n ≤ a ∨ W a) : cI x W S (S'.wR a i v) :=
  ⟨h.1.trans oKl_wR, h.2.1.trans (oAg_wR (fun z => ha.elim (fun y => by omega) z.2)), h.2.2⟩
theorem cI.wJ (h : cI x W S S') {a i : Nat} {v : Int64} (ha : S.n ≤ a ∨ W a) : cI x W S (S'.wJ a i v) :=
  ⟨h.1.trans oKl_wJ, h.2.1.trans (oAg_wJ (fun z => ha.elim (fun y => by omega) z.2)), h.2.2⟩
theorem cI.newO (h : cI x W S S') {κ : Nat} : cI x W S (S'.newO κ) := by
  have hn := h.1.1
  refine ⟨h.1.trans oKl_newO, h.2.1.trans (oAg_newO (fun z => by omega)), fun q hq hb => ⟨fun G' g1 g2 g3 => ?_, fun G' hG' => ?_⟩⟩
  · exact (if_neg (by omega)).trans ((h.2.2 q hq hb).1 G' g1 g2 g3)
  · exact (if_neg (by omega)).trans ((h.2.2 q hq hb).2 G' hG')
theorem cI.newA (h : cI x W S S') {κ N : Nat} : cI x W S (S'.newA κ N) := by
  have hn := h.1.1
  exact ⟨h.1.trans oKl_newA, h.2.1.trans (oAg_newA (fun z => by omega)), h.2.2⟩
/-- a calculation -/
theorem cI.cal (h : cI x W S S') (hW : ∀ a, x + 24 ≤ a → a ≤ x + 26 → W a) (hk : oKl S' T) (ha : oAg (fun a => a < S'.n ∧ (a < x + 24 ∨ x + 26 < a)) S' T) : cI x W S T := by
  have hn := h.1.1
  refine ⟨h.1.trans hk, h.2.1.trans (ha.sub (fun a z => ⟨by omega, ?_⟩)), fun q hq hb => ?_⟩
  · by_cases y : a < x + 24 ∨ x + 26 < a
    · exact y
    · exact absurd (hW a (by omega) (by omega)) z.2
  · obtain ⟨-, -, a3, a4, -⟩ := ha q ⟨by omega, by omega⟩
    exact ⟨fun G g1 g2 g3 => (a4 G).trans ((h.2.2 q hq hb).1 G g1 g2 g3), fun G hG => (a3 G).trans ((h.2.2 q hq hb).2 G hG)⟩
/-- whatever lies below and isn't of W -/
theorem cI.at (h : cI x W S S') {a : Nat} (ha : a < S.n) (hW : ¬ W a) : (∀ F, S'.I F a = S.I F a) ∧ (∀ F, S'.R F a = S.R F a) ∧ (∀ F, S'.J F a = S.J F a) ∧ (∀ j, S'.rI a j = S.rI a j) ∧ (∀ j, S'.rR a j = S.rR a j) ∧ (∀ j, S'.rJ a j = S.rJ a j) ∧ S'.K a = S.K a ∧ S'.len a = S.len a := by
  obtain ⟨h1, h2, h3, h4, h5, h6, h7, h8⟩ := h.2.1 a ⟨ha, hW⟩
  exact ⟨h3, h4, h5, h6, h7, h8, h1, h2⟩
end CI
theorem cRt_ok2 : ∀ q ∈ cRt, q.2.1 < 24 ∨ 26 < q.2.1 := by decide
theorem cVt_ok2 : ∀ q ∈ cVt, q.1 < 24 ∨ 26 < q.1 := by decide
section CP
variable {x : Nat} {W : Nat → Prop} {S S' : ox_St} {α α' : Int → Nat} {C : Nat → xCd} {n : Int} {nc : Nat}
theorem cBs.nextY (h : cBs S x) (hI : cI x W S S') (hW : ∀ a, W a → cY x a) : cBs S' x := by
  obtain ⟨⟨g1, g2, g3, g4, g5, g6, g7, g8, g9⟩, h2, h3, h4, ⟨h5, h6, h7, h8⟩⟩ := h
  have hn : ∀ a, x ≤ a → a < x + 76 → a < S.n := fun a _ _ => by omega
  have hK : ∀ a, x ≤ a → a < x + 76 → S'.K a = S.K a ∧ S'.len a = S.len a := fun a ha hb => hI.1.2 a (hn a ha hb)
  refine ⟨⟨fun q hq => ?_, fun q hq => ?_, fun q hq => ?_, fun q hq => ?_, fun f hf => ⟨?_, ?_⟩, fun w hw => ?_, ?_, ?_, ?_⟩, h2, (hI.1.2 0 (by omega)).1.trans h3, Nat.le_trans h4 hI.1.1, ?_⟩
  · obtain ⟨⟨b1, b2, b3, b4, b5⟩, b6⟩ := cRt_ok q hq
    have b7 := cRt_ok2 q hq
    rw [(hI.2.2 _ (hn _ (by omega) (by omega)) (by omega)).1 q.1 b2 b4 b5]
    exact g1 q hq
  · have b := cKt_ok q hq
    rw [(hK _ (by omega) (by omega)).1]
    exact g2 q hq
  · have b := cLt_ok q hq
    rw [(hK _ (by omega) (by omega)).1, (hK _ (by omega) (by omega)).2]
    exact g3 q hq
  · have b := cVt_ok q hq
    have b7 := cVt_ok2 q hq
    have z := (hI.2.2 (x + q.1) (hn _ (by omega) (by omega)) (by omega)).2
    rw [z 6 (Or.inl rfl), z 7 (Or.inr (Or.inl rfl))]
    exact g4 q hq
  · obtain ⟨k1, ⟨a1, a2, a3⟩, ⟨b1, b2, b3⟩, ⟨c1, c2, c3⟩, d1, d2, d3⟩ := (g5 f hf).1
    have kk : ∀ j, j < 5 → S'.K (x + 28 + 5 * f + j) = S.K (x + 28 + 5 * f + j) ∧ S'.len (x + 28 + 5 * f + j) = S.len (x + 28 + 5 * f + j) := fun j hj => hK _ (by omega) (by omega)
    have rr : ∀ F, F = 13 ∨ F = 14 ∨ F = 15 ∨ F = 16 → S'.R F (x + 28 + 5 * f) = S.R F (x + 28 + 5 * f) := fun F hF => (hI.2.2 _ (hn _ (by omega) (by omega)) (by omega)).1 F (by omega) (by omega) (by omega)
    refine ⟨((kk 0 (by omega)).1).trans k1, ⟨(rr 13 (by omega)).trans a1, ((kk 1 (by omega)).1).trans a2, ((kk 1 (by omega)).2).trans a3⟩, ⟨(rr 14 (by omega)).trans b1, ((kk 2 (by omega)).1).trans b2, ((kk 2 (by omega)).2).trans b3⟩, ⟨(rr 15 (by omega)).trans c1, ((kk 3 (by omega)).1).trans c2, ((kk 3 (by omega)).2).trans c3⟩, (rr 16 (by omega)).trans d1, ((kk 4 (by omega)).1).trans d2, ((kk 4 (by omega)).2).trans d3⟩
  · rw [(hI.at (a := x + 12) (by omega) (fun z => by have := hW _ z; unfold cY cZ at this; omega)).2.2.2.2.1]; exact (g5 f hf).2
  · rw [(hI.at (a := x + 18) (by omega) (fun z => by have := hW _ z; unfold cY cZ at this; omega)).2.2.2.2.1]; exact g6 w hw
  · rw [(hI.2.2 (x + 20) (by omega) (by omega)).2 51 (Or.inr (Or.inr rfl))]; exact g7
  · rw [(hI.2.2 (x + 22) (by omega) (by omega)).2 51 (Or.inr (Or.inr rfl))]; exact g8
  · rw [(hI.at (a := x + 21) (by omega) (fun z => by have := hW _ z; unfold cY cZ at this; omega)).2.2.2.1]; exact g9
  · have e0 : S'.R 143 0 = S.R 143 0 := (hI.at (a := 0) (by omega) (fun z => by have := hW _ z; unfold cY cZ at this; omega)).2.1 143
    obtain ⟨-, -, -, -, -, e6, e7, e8⟩ := hI.at (a := S.R 143 0) (by omega) (fun z => by have := hW _ z; unfold cY cZ at this; omega)
    unfold cSn
    rw [e0, e7, e8]
    exact ⟨h5, h6, h7, fun i hi => (e6 i).trans (h8 i hi)⟩
theorem vC.next {v : Int} {a : Nat} (h : vC S x α v a) (hI : cI x W S S') (hα : α' v = α v) : vC S' x α' v a := by
  obtain ⟨h1, h2, h3, h4⟩ := h
  refine ⟨h1, Nat.lt_of_lt_of_le h2 hI.1.1, h3, ?_⟩
  rw [hα, (hI.1.2 a h2).1, (hI.2.2 a h2 h3).2 6 (Or.inl rfl)]
  exact h4
theorem tRw.next {m t : Nat} (h : tRw x n.toNat t) (hm : n.toNat ≤ m) : tRw x m t := ⟨Nat.lt_of_lt_of_le h.1 hm, h.2⟩
theorem tRw.mono {m k t : Nat} (h : tRw x k t) (hm : k ≤ m) : tRw x m t := ⟨Nat.lt_of_lt_of_le h.1 hm, h.2⟩
theorem tRw.nW {k t : Nat} (h : tRw x k t) (hW : ∀ a, W a → cY x a) : ¬ W t := fun z => by
  have := hW _ z
  have h2 := h.2
  unfold cY cZ at this
  omega
theorem oNm.next {a t : Nat} {w : Nat → Nat} {c : Nat} {r : Int32} (h : oNm S a t w c r) (hI : cI x W S S') (ha : a < S.n) (hb : ¬ W a) (ht : t < S.n) (htW : ¬ W t) : oNm S' a t w c r := by
  obtain ⟨h1, h2, ⟨h3, h4, h5, h6⟩, h7, h8, h9⟩ := h
  obtain ⟨a1, a2, a3, a4, a5, a6, a7, a8⟩ := hI.at ha hb
  obtain ⟨b1, b2, b3, b4, b5, b6, b7, b8⟩ := hI.at ht htW
  exact ⟨a7.trans h1, (a2 _).trans h2, ⟨b7.trans h3, b8.trans h4, h5, fun i hi => by rw [b4]; exact h6 i hi⟩, h7, (a1 _).trans h8, h9⟩
theorem cO.nextY {v : Int} {o : xOb} (h : cO S x α C v o) (hI : cI x W S S') (hW : ∀ a, W a → cY x a) (hv : α' v = α v) (hr : ∀ u ∈ xRf o, α' u = α u) (hc : ∀ c : Nat, α' (-1 - c) = α (-1 - c)) : cO S' x α' C v o := by
  obtain ⟨h1, h2, h3⟩ := h
  have hn := hI.1.1
  have hZ : ∀ t, x + 119 ≤ t → ¬ W t := fun t ht z => by have := hW _ z; unfold cY cZ at this; omega
  obtain ⟨a1, a2, a3, a4, a5, a6, a7, a8⟩ := hI.at h2 (hZ _ h1)
  refine ⟨by rw [hv]; exact h1, by rw [hv]; omega, ?_⟩
  rw [hv]
  match o, h3, hr with
  | .inl N, ⟨t, w, c, r, g1, g2, g3, g4⟩, _ => exact ⟨t, w, c, r, g1.next hI h2 (hZ _ h1) g4.1 (g4.nW hW), g2, (a1 _).trans g3, g4.mono hn⟩
  | .inr (.inl q), ⟨t, ⟨t1, t2, t3, t4, t5⟩, g2, g3, g4, g5⟩, hr =>
    obtain ⟨b1, b2, b3, b4, b5, b6, b7, b8⟩ := hI.at g4.1 (g4.nW hW)
    refine ⟨t, ⟨a7.trans t1, (a2 _).trans t2, b7.trans t3, b8.trans t4, t5⟩, (a1 _).trans g2, (a1 _).trans g3, g4.mono hn, fun i hi => ?_⟩
    rw [b5]
    refine (g5 i hi).next hI (hr _ ?_)
    show q.1.getD i 0 ∈ q.1
    rw [List.getD_eq_getElem?_getD, List.getElem?_eq_getElem hi]
    exact List.getElem_mem hi
  | .inr (.inr (.inl q)), ⟨g1, g2, g3, g4, g5⟩, _ => exact ⟨a7.trans g1, (a1 _).trans g2, by rw [a1]; exact g3, by rw [a1]; exact g4, by rw [a1]; exact g5⟩
  | .inr (.inr (.inr (.inl q))), ⟨g1, g2, g3, g4⟩, hr => exact ⟨a7.trans g1, (a1 _).trans g2, by rw [a2]; exact g3.next hI (hr _ List.mem_cons_self), (a3 _).trans g4⟩
  | .inr (.inr (.inr (.inr c))), ⟨g1, g2, g3, g4⟩, _ => exact ⟨a7.trans g1, (a1 _).trans g2, by rw [a2, hc]; exact g3, (a1 _).trans g4⟩
theorem cCd.nextY {c : Nat} (h : cCd S x α C c) (hI : cI x W S S') (hW : ∀ a, W a → cY x a) (hc : α' (-1 - c) = α (-1 - c)) (hr : ∀ u ∈ (C c).2.1, α' u = α u) : cCd S' x α' C c := by
  obtain ⟨h1, h2, ⟨s1, ⟨s2, s3, s4⟩, ⟨s5, s6, s7⟩, ⟨s8, s9⟩, ⟨s10, s11⟩, s12⟩, h4, ⟨r1, r2, r3⟩, h6, h7⟩ := h
  have hn := hI.1.1
  have hZ : ∀ t, x + 119 ≤ t → ¬ W t := fun t ht z => by have := hW _ z; unfold cY cZ at this; omega
  obtain ⟨a1, a2, a3, a4, a5, a6, a7, a8⟩ := hI.at h2 (hZ _ h1)
  obtain ⟨-, -, -, b4, -, -, b7, b8⟩ := hI.at r1.1 (r1.nW hW)
  obtain ⟨-, -, -, -, d5, -, d7, d8⟩ := hI.at r2.1 (r2.nW hW)
  obtain ⟨-, -, -, -, -, e6, e7, e8⟩ := hI.at r3.1 (r3.nW hW)
  unfold cCd cSh
  rw [hc, a7, a1, a1, a1, a1, a2, a2, a2, b7, b8, d7, d8, e7, e8]
  refine ⟨h1, by omega, ⟨s1, ⟨s2, s3, s4⟩, ⟨s5, s6, fun p hp => (b4 p).trans (s7 p hp)⟩, ⟨s8, s9⟩, ⟨s10, s11⟩, s12⟩, h4, ⟨r1.mono hn, r2.mono hn, r3.mono hn⟩, fun i hi => ?_, fun i hi => ?_⟩
  · rw [d5]
    refine (h6 i hi).next hI (hr _ ?_)
    rw [List.getD_eq_getElem?_getD, List.getElem?_eq_getElem hi]
    exact List.getElem_mem hi
  · rw [e6]; exact h7 i hi
theorem cHp.nextY {K : Nat} {H : xHp} (h : cHp S x α C nc H) (hI : cI x W S S') (hW : ∀ a, W a → cY x a) : cHp S' x α C nc H :=
  ⟨fun v o e => (h.1 v o e).nextY hI hW rfl (fun _ _ => rfl) (fun _ => rfl), fun c hc => (h.2.1 c hc).nextY hI hW rfl (fun _ _ => rfl), h.2.2⟩
theorem cStk.next {t : Nat} (hI : cI x W S S') (ht : t < S.n) (htW : ¬ W t) : ∀ (st : List Int), (∀ v ∈ st, α' v = α v) → cStk S x α t st → cStk S' x α' t st
  | [], _, _ => trivial
  | v :: r, hα, h => ⟨by rw [(hI.at ht htW).2.2.2.2.1]; exact h.1.next hI (hα v List.mem_cons_self), cStk.next hI ht htW r (fun u hu => hα u (List.mem_cons_of_mem _ hu)) h.2⟩
theorem cBk.next {F : Nat} (hI : cI x W S S') (h3 : F + 4 < S.n) (w3 : ¬ W (F + 3)) (w4 : ¬ W (F + 4)) : ∀ (b : List (Nat × Nat)), cBk S F b → cBk S' F b
  | [], _ => trivial
  | g :: b, h => ⟨by rw [(hI.at (by omega) w3).2.2.2.1]; exact h.1, by rw [(hI.at h3 w4).2.2.2.1]; exact h.2.1, cBk.next hI h3 w3 w4 b h.2.2⟩
theorem cLo.next {t : Nat} {L : Nat → Option Int} (hI : cI x W S S') (ht : t < S.n) (htW : ¬ W t) (hα : ∀ i v, L i = some v → α' v = α v) (h : cLo S x α t L) : cLo S' x α' t L := fun i hi => by
  have g := h i hi
  have e := (hI.at ht htW).2.2.2.2.1 i
  cases z : L i with
  | none => rw [z] at g; show S'.rR t i = 0; rw [e]; exact g
  | some v => rw [z] at g; show vC S' x α' v (S'.rR t i); rw [e]; exact vC.next g hI (hα i v z)
theorem cFr.next {f : Nat} {g : xFr} (h : cFr S x α f g) (hI : cI x W S S') (hn : x + 33 + 5 * f ≤ S.n) (hW : ∀ a, x + 28 + 5 * f ≤ a → a < x + 33 + 5 * f → ¬ W a) (hα : ∀ u, (u < 0 ∨ u ∈ g.2.2.1 ∨ ∃ i, g.2.2.2.1 i = some u) → α' u = α u) : cFr S' x α' f g := by
  obtain ⟨h1, h2, h3, h4, h5, h6, h7⟩ := h
  obtain ⟨a1, a2, -⟩ := hI.at (a := x + 28 + 5 * f) (by omega) (hW _ (by omega) (by omega))
  exact ⟨by rw [a2, hα _ (Or.inl (by omega))]; exact h1, (a1 _).trans h2, (a1 _).trans h3, (a1 _).trans h4, cStk.next hI (by omega) (hW _ (by omega) (by omega)) _ (fun v hv => hα v (Or.inr (Or.inl hv))) h5, cLo.next hI (by omega) (hW _ (by omega) (by omega)) (fun i v hv => hα v (Or.inr (Or.inr ⟨i, hv⟩))) h6, cBk.next hI (by omega) (hW _ (by omega) (by omega)) (hW _ (by omega) (by omega)) _ h7⟩
theorem cBs.next (h : cBs S x) (hI : cI x W S S') (hW : ∀ a, W a → cZ x a) : cBs S' x := h.nextY hI (fun a z => Or.inl (hW a z))
theorem cO.next {v : Int} {o : xOb} (h : cO S x α C v o) (hI : cI x W S S') (hW : ∀ a, W a → cZ x a) (hv : α' v = α v) (hr : ∀ u ∈ xRf o, α' u = α u) (hc : ∀ c : Nat, α' (-1 - c) = α (-1 - c)) : cO S' x α' C v o := h.nextY hI (fun a z => Or.inl (hW a z)) hv hr hc
theorem cCd.next {c : Nat} (h : cCd S x α C c) (hI : cI x W S S') (hW : ∀ a, W a → cZ x a) (hc : α' (-1 - c) = α (-1 - c)) (hr : ∀ u ∈ (C c).2.1, α' u = α u) : cCd S' x α' C c := h.nextY hI (fun a z => Or.inl (hW a z)) hc hr
theorem cHp.next {K : Nat} {H : xHp} (h : cHp S x α C nc H) (hI : cI x W S S') (hW : ∀ a, W a → cZ x a) : cHp S' x α C nc H := h.nextY (K := K) hI (fun a z => Or.inl (hW a z))
end CP
