/-! the class: take, begin, again, about -/
section CBg
variable {sp : ox_E} {d mr sr : Nat} {S S' : ox_St} {Q : ox_Q} {x : Nat} {α : Int → Nat} {C : Nat → xCd} {nc K : Nat}
/-- Frame.begin -/
theorem c_18 (hsp : ox_mono sp) (hB : cBs S x) {f k : Nat} (f7 : f ≤ 7) (hQ : ∀ V, cI x (cWf x f) S V → cFr V x α f (k, 0, [], (fun _ => none), []) → Q none V) : ox_M sp (d + 1) 18 [.inr (.inr (x + 28 + 5 * f)), .inr (.inr (α (-1 - (k : Int))))] mr sr S Q := by
  have oF' := (hB.1.fr (f := f) (by omega)).1
  refine s_begin hsp oF' ?_
  have hI0 : cI x (cWf x f) S ((((S.sR 18 (x + 28 + 5 * f) (α (-1 - (k : Int)))).sI 19 (x + 28 + 5 * f) 0).sI 20 (x + 28 + 5 * f) 0).sI 21 (x + 28 + 5 * f) 0) := (((cI.refl.sR (Or.inr ⟨cWf_F, Or.inl rfl⟩)).sI (Or.inr ⟨cWf_F, by decide, by decide, by decide⟩)).sI (Or.inr ⟨cWf_F, by decide, by decide, by decide⟩)).sI (Or.inr ⟨cWf_F, by decide, by decide, by decide⟩)
  have e18 : ((((S.sR 18 (x + 28 + 5 * f) (α (-1 - (k : Int)))).sI 19 (x + 28 + 5 * f) 0).sI 20 (x + 28 + 5 * f) 0).sI 21 (x + 28 + 5 * f) 0).R 18 (x + 28 + 5 * f) = α (-1 - (k : Int)) := by rw [or_sI_R, or_sI_R, or_sI_R, or_sR_R, if_pos ⟨rfl, rfl⟩]
  have eI0 : ∀ F, F = 19 ∨ F = 20 ∨ F = 21 → ((((S.sR 18 (x + 28 + 5 * f) (α (-1 - (k : Int)))).sI 19 (x + 28 + 5 * f) 0).sI 20 (x + 28 + 5 * f) 0).sI 21 (x + 28 + 5 * f) 0).I F (x + 28 + 5 * f) = nI 0 := fun F hF => by
    rw [or_sI_I, or_sI_I, or_sI_I]
    rcases hF with y | y | y
    · rw [if_neg (fun w => by have := w.1; omega), if_neg (fun w => by have := w.1; omega), if_pos ⟨y, rfl⟩]; rfl
    · rw [if_neg (fun w => by have := w.1; omega), if_pos ⟨y, rfl⟩]; rfl
    · rw [if_pos ⟨y, rfl⟩]; rfl
  generalize ((((S.sR 18 (x + 28 + 5 * f) (α (-1 - (k : Int)))).sI 19 (x + 28 + 5 * f) 0).sI 20 (x + 28 + 5 * f) 0).sI 21 (x + 28 + 5 * f) 0) = U at hI0 e18 eI0 ⊢
  have hI1 : cI x (cWf x f) S (oClr (x + 28 + 5 * f + 1) 0 8 U) := cI.clr (Or.inr ⟨by omega, by omega⟩) 8 0 U hI0
  have ag := oClr_ag (P := fun a => a ≠ x + 28 + 5 * f + 1) (t := x + 28 + 5 * f + 1) (fun z => z rfl) 8 0 U
  have row := oClr_row (t := x + 28 + 5 * f + 1) 8 0 U
  generalize oClr (x + 28 + 5 * f + 1) 0 8 U = V at hI1 ag row ⊢
  obtain ⟨-, -, v3, v4, -⟩ := ag (x + 28 + 5 * f) (by omega)
  refine hQ V hI1 ⟨(v4 18).trans e18, (v3 19).trans (eI0 19 (by omega)), (v3 20).trans (eI0 20 (by omega)), (v3 21).trans (eI0 21 (by omega)), trivial, fun j hj => ?_, trivial⟩
  show V.rR (x + 28 + 5 * f + 1) j = 0
  rw [row, if_pos (by omega)]
/-- a code begins -/
def xBeg (s : xSt) (c : Nat) : xSt := (s.H, s.n, s.G, [(c, 0, [], (fun _ => none), [])], 1, -1, 0)
/-- begin, with a code -/
theorem c_43 (hsp : ox_mono sp) {s : xSt} {c : Nat} (h : cR S x α C nc s) (hc : c < nc) (h36 : S.R 36 (x + 11) = α (-1 - (c : Int))) (hQ : ∀ S', cM x S S' → S'.I 39 (x + 11) = nI 0 → cR S' x α C nc (xBeg s c) → Q (some (.inl 1)) S') : ox_M sp (d + 2) 43 [.inr (.inr (x + 11))] mr sr S Q := by
  have hE : ox_mono (ox_M sp (d + 1)) := ox_M_mono hsp _
  obtain ⟨b, hp, -, g, -⟩ := id h
  have hn : x + 119 ≤ S.n := b.2.2.2.1
  have k7 : S.K (x + 11) = 7 := b.1.obj (by decide)
  have r34 : S.R 34 (x + 11) = x + 12 := b.1.ref (by decide)
  obtain ⟨k12, l12⟩ := b.1.row (o := 12) (k := 18) (n := 8) (by decide)
  obtain ⟨oF0, fr0⟩ := b.1.fr (f := 0) (by decide)
  obtain ⟨g1, g2, -⟩ := hp.2.1 c hc
  refine f_43 hsp ⟨by rw [k7]; rfl, fun _ => ⟨by rw [k7]; rfl, by rw [r34, k12]; rfl, by rw [r34, l12]; exact vp_in_nI (n := 0) (N := 8) (by decide) (by decide), by rw [k7]; rfl, ?_⟩, fun z => absurd z (by rw [h36]; omega)⟩
  rw [r34, h36, show Int32.toNatClampNeg 0 = 0 from rfl, fr0]
  refine ⟨by decide, oF0.1, by decide, 0, 0, Nat.zero_le _, Nat.zero_le _, c_18 (f := 0) hsp b (by decide) (fun V hI1 hf => f_43_22 hE ?_)⟩
  have nW : ∀ a, x ≤ a → a < x + 24 → ¬ cWf x 0 a := fun a _ _ z => by unfold cWf at z; omega
  have bV := b.next hI1 (cWf_Z (by decide))
  have hpV := hp.next (K := 0) hI1 (cWf_Z (by decide))
  obtain ⟨a1, a2, -⟩ := hI1.at (a := x + 11) (by omega) (nW _ (by omega) (by omega))
  have gV := g.keep hn hI1 (a1 43) (nW _ (by omega) (by omega)) (nW _ (by omega) (by omega))
  have hnV : x + 119 ≤ V.n := bV.2.2.2.1
  have k7V : V.K (x + 11) = 7 := bV.1.obj (by decide)
  have hI2 : cI x (cWm x) V (((((V.sI 35 (x + 11) 1).sI 37 (x + 11) 1).sI 38 (x + 11) (-1)).sI 39 (x + 11) 0).sR 40 (x + 11) 0) := (((((show cI x (cWm x) V V from cI.refl).sI (G := 35) (a := x + 11) (Or.inr ⟨rfl, by decide, by decide, by decide⟩)).sI (G := 37) (a := x + 11) (Or.inr ⟨rfl, by decide, by decide, by decide⟩)).sI (G := 38) (a := x + 11) (Or.inr ⟨rfl, by decide, by decide, by decide⟩)).sI (G := 39) (a := x + 11) (Or.inr ⟨rfl, by decide, by decide, by decide⟩)).sR (G := 40) (a := x + 11) (Or.inr ⟨rfl, Or.inr (Or.inr rfl)⟩)
  have eI2 : ∀ F, (((((V.sI 35 (x + 11) 1).sI 37 (x + 11) 1).sI 38 (x + 11) (-1)).sI 39 (x + 11) 0).sR 40 (x + 11) 0).I F (x + 11) = if F = 39 then 0 else if F = 38 then -1 else if F = 37 then 1 else if F = 35 then 1 else V.I F (x + 11) := fun F => by
    rw [or_sR_I, or_sI_I, or_sI_I, or_sI_I, or_sI_I]
    simp only [and_true]
  have eR2 : ∀ F, (((((V.sI 35 (x + 11) 1).sI 37 (x + 11) 1).sI 38 (x + 11) (-1)).sI 39 (x + 11) 0).sR 40 (x + 11) 0).R F (x + 11) = if F = 40 then 0 else V.R F (x + 11) := fun F => by
    rw [or_sR_R, or_sI_R, or_sI_R, or_sI_R, or_sI_R]
    simp only [and_true]
  refine ⟨by rw [k7V]; rfl, by rw [or_sI_K, k7V]; rfl, by rw [or_sI_K, or_sI_K, k7V]; rfl, by rw [or_sI_K, or_sI_K, or_sI_K, k7V]; rfl, by rw [or_sI_K, or_sI_K, or_sI_K, or_sI_K, k7V]; rfl, Or.inr rfl, ?_⟩
  generalize (((((V.sI 35 (x + 11) 1).sI 37 (x + 11) 1).sI 38 (x + 11) (-1)).sI 39 (x + 11) 0).sR 40 (x + 11) 0) = U at hI2 eI2 eR2 ⊢
  have hZ : ∀ a, cWm x a → cZ x a := fun a z => Or.inr (Or.inr (Or.inl z))
  refine hQ U ⟨hI1.1.trans hI2.1, (hI1.2.1.sub (fun a ha => ⟨by omega, fun z => ha.2 (cWf_Z (by decide) a z)⟩)).trans (hI2.2.1.sub (fun a ha => ⟨by omega, fun z => ha.2 (hZ a z)⟩)), by rw [eR2, if_neg (by decide)]; exact a2 36⟩ (by rw [eI2, if_pos rfl]; rfl) ?_
  refine ⟨bV.next hI2 hZ, hpV.next (K := 0) hI2 hZ, ⟨hf.next hI2 (by omega) (fun a z1 _ z => by unfold cWm at z; omega) (fun _ _ => rfl), trivial⟩, gV.keep hnV hI2 (by rw [eI2, if_neg (by decide), if_neg (by decide), if_neg (by decide), if_neg (by decide)]) (fun z => by unfold cWm at z; omega) (fun z => by unfold cWm at z; omega), ?_, ?_, ?_, fun z => ?_, fun _ => ?_⟩
  · rw [eI2, if_neg (by decide), if_neg (by decide), if_neg (by decide), if_pos rfl]; rfl
  · rw [eI2, if_neg (by decide), if_neg (by decide), if_pos rfl]; rfl
  · rw [eI2, if_neg (by decide), if_pos rfl]; rfl
  · cases z
  · rw [eR2, if_pos rfl]
/-- begin, without -/
theorem c_43_0 (hsp : ox_mono sp) {s : xSt} (h : cR S x α C nc s) (h36 : S.R 36 (x + 11) = 0) (hQ : Q (some (.inl 0)) S) : ox_M sp (d + 2) 43 [.inr (.inr (x + 11))] mr sr S Q := by
  have k7 : S.K (x + 11) = 7 := h.1.1.obj (by decide)
  exact f_43 hsp ⟨by rw [k7]; rfl, fun z => absurd h36 z, fun _ => ⟨Or.inl rfl, hQ⟩⟩
/-- another code to begin with -/
theorem cR.r36 {s : xSt} (h : cR S x α C nc s) (hl : s.f.length ≤ 8) {a : Nat} : cI x (cWm x) S (S.sR 36 (x + 11) a) ∧ cR (S.sR 36 (x + 11) a) x α C nc s := by
  have hI : cI x (cWm x) S (S.sR 36 (x + 11) a) := (show cI x (cWm x) S S from cI.refl).sR (G := 36) (a := x + 11) (Or.inr ⟨rfl, Or.inr (Or.inl rfl)⟩)
  have eI : (S.sR 36 (x + 11) a).I = S.I := or_sR_I _ _ _ _
  have eR : ∀ F, F ≠ 36 → (S.sR 36 (x + 11) a).R F (x + 11) = S.R F (x + 11) := fun F hF => by rw [or_sR_R, if_neg (fun z => hF z.1)]
  generalize S.sR 36 (x + 11) a = U at hI eI eR ⊢
  obtain ⟨b0, hp0, f0, g0, q1, q2, q3, q4, q5⟩ := id h
  exact ⟨hI, h.fld (s' := s) hI (by rw [eI]) rfl rfl f0 hl (by rw [eI]; exact q1) (by rw [eI]; exact q2) (by rw [eI]; exact q3) (fun z => by rw [eR 40 (by decide)]; exact q4 z) (fun z => by rw [eR 40 (by decide)]; exact q5 z)⟩
/-- what begin leaves alone, with another code -/
def cM0 (x : Nat) (S S' : ox_St) : Prop := oKl S S' ∧ oAg (fun a => a < x + 119 ∧ ¬ cZ x a) S S'
/-- take -/
theorem c_42 (hsp : ox_mono sp) {s : xSt} {c : Nat} (h : cR S x α C nc s) (hl : s.f.length ≤ 8) (hc : c < nc) (hQ : ∀ S', cM0 x S S' → S'.I 39 (x + 11) = nI 0 → S'.R 36 (x + 11) = α (-1 - (c : Int)) → cR S' x α C nc (xBeg s c) → Q none S') : ox_M sp (d + 3) 42 [.inr (.inr (x + 11)), .inr (.inr (α (-1 - (c : Int))))] mr sr S Q := by
  have hE : ox_mono (ox_M sp (d + 2)) := ox_M_mono hsp _
  have k7 : S.K (x + 11) = 7 := h.1.1.obj (by decide)
  have hn : x + 119 ≤ S.n := h.1.2.2.2.1
  obtain ⟨hI, h1⟩ := h.r36 hl (a := α (-1 - (c : Int)))
  have e36 : (S.sR 36 (x + 11) (α (-1 - (c : Int)))).R 36 (x + 11) = α (-1 - (c : Int)) := by rw [or_sR_R, if_pos ⟨rfl, rfl⟩]
  refine f_42 hsp ⟨by rw [k7]; rfl, ?_⟩
  generalize S.sR 36 (x + 11) (α (-1 - (c : Int))) = V at hI h1 e36 ⊢
  have k7V : V.K (x + 11) = 7 := h1.1.1.obj (by decide)
  refine ⟨by decide, k7V, by decide, 0, 0, Nat.zero_le _, Nat.zero_le _, c_43 hsp h1 hc e36 (fun S' m1 m2 m3 => f_42_9 hE ⟨rfl, hQ S' ⟨hI.1.trans m1.1, (hI.2.1.sub (fun a ha => ⟨by omega, fun z => ha.2 (Or.inr (Or.inr (Or.inl z)))⟩)).trans m1.2.1⟩ m2 (m1.2.2.trans e36) m3⟩)⟩
/-- again -/
theorem c_99 (hsp : ox_mono sp) {s : xSt} {c : Nat} (h : cR S x α C nc s) (hc : c < nc) (h36 : S.R 36 (x + 11) = α (-1 - (c : Int))) (hQ : ∀ S', cM x S S' → S'.I 39 (x + 11) = nI 0 → cR S' x α C nc (xBeg s c) → Q (some (.inl 1)) S') : ox_M sp (d + 3) 99 [.inr (.inr x)] mr sr S Q := by
  have hE : ox_mono (ox_M sp (d + 2)) := ox_M_mono hsp _
  have k0 : S.K x = 13 := h.1.1.obj (o := 0) (by decide)
  have r66 : S.R 66 x = x + 11 := h.1.1.ref (o := 0) (by decide)
  have k7 : S.K (x + 11) = 7 := h.1.1.obj (by decide)
  refine f_99 hsp ⟨by rw [k0]; rfl, by decide, by rw [r66]; exact k7, by decide, 0, 0, Nat.zero_le _, Nat.zero_le _, ?_⟩
  rw [r66]
  exact c_43 hsp h hc h36 (fun S' m1 m2 m3 => f_99_7 hE ⟨Or.inr rfl, hQ S' m1 m2 m3⟩)
theorem c_99_0 (hsp : ox_mono sp) {s : xSt} (h : cR S x α C nc s) (h36 : S.R 36 (x + 11) = 0) (hQ : Q (some (.inl 0)) S) : ox_M sp (d + 3) 99 [.inr (.inr x)] mr sr S Q := by
  have hE : ox_mono (ox_M sp (d + 2)) := ox_M_mono hsp _
  have k0 : S.K x = 13 := h.1.1.obj (o := 0) (by decide)
  have r66 : S.R 66 x = x + 11 := h.1.1.ref (o := 0) (by decide)
  have k7 : S.K (x + 11) = 7 := h.1.1.obj (by decide)
  refine f_99 hsp ⟨by rw [k0]; rfl, by decide, by rw [r66]; exact k7, by decide, 0, 0, Nat.zero_le _, Nat.zero_le _, ?_⟩
  rw [r66]
  exact c_43_0 hsp h h36 (f_99_7 hE ⟨Or.inl rfl, hQ⟩)
/-- what about tells; y: instructions done -/
def xAb (s : xSt) (y : Nat) (w : Int32) : Int32 :=
  if w = 0 then nI s.s else if w = 1 then nI s.f.length else if w = 5 then Int32.ofInt s.k else if w = 6 then nI y else if w = 7 then nI s.G.length
  else if w = 2 ∨ w = 3 ∨ w = 4 then (match s.f with
    | [] => 0
    | g :: _ => if w = 2 then nI g.2.1 else if w = 3 then nI g.2.2.1.length else nI g.2.2.2.2.length)
  else -1
theorem i24 (w : Int32) (h0 : w ≠ 2) (h1 : w ≠ 3) (h2 : w ≠ 4) (h3 : ¬ w < 2) (h4 : w ≤ 4) : False := by
  have a : ∀ k : Int, -5 < k → k < 10 → w.toInt = k → w = Int32.ofInt k := fun k k1 k2 e => by rw [← e, Int32.ofInt_toInt]
  rw [Int32.lt_iff_toInt_lt] at h3
  rw [Int32.le_iff_toInt_le] at h4
  have e2 : (2 : Int32).toInt = 2 := rfl
  have e4 : (4 : Int32).toInt = 4 := rfl
  rw [e2] at h3
  rw [e4] at h4
  have : w.toInt = 2 ∨ w.toInt = 3 ∨ w.toInt = 4 := by omega
  rcases this with z | z | z
  · exact h0 (a 2 (by omega) (by omega) z)
  · exact h1 (a 3 (by omega) (by omega) z)
  · exact h2 (a 4 (by omega) (by omega) z)
/-- aboutFrame -/
theorem c_105 (hsp : ox_mono sp) {s : xSt} {w : Int32} (h : cR S x α C nc s) (hl : s.f.length ≤ 8) (hQ : Q (some (.inl (if w = 2 ∨ w = 3 ∨ w = 4 then (match s.f with
    | [] => 0
    | g :: _ => if w = 2 then nI g.2.1 else if w = 3 then nI g.2.2.1.length else nI g.2.2.2.2.length) else -1))) S) : ox_M sp (d + 2) 105 [.inr (.inr x), .inl w] mr sr S Q := by
  have hE : ox_mono (ox_M sp (d + 1)) := ox_M_mono hsp _
  have k0 : S.K x = 13 := h.1.1.obj (o := 0) (by decide)
  have r66 : S.R 66 x = x + 11 := h.1.1.ref (o := 0) (by decide)
  have k7 : S.K (x + 11) = 7 := h.1.1.obj (by decide)
  refine f_105 hsp ⟨fun z => ⟨trivial, ?_⟩, fun z => ⟨fun y => ⟨by rw [k0]; rfl, by decide, by rw [r66]; exact k7, by decide, 0, 0, Nat.zero_le _, Nat.zero_le _, ?_⟩, fun y => ⟨trivial, ?_⟩⟩⟩
  · rw [if_neg (fun e => by rcases e with e | e | e <;> rw [e] at z <;> exact absurd z (by decide))] at hQ
    exact hQ
  · have hw : w = 2 ∨ w = 3 ∨ w = 4 := by
      by_cases a : w = 2
      · exact Or.inl a
      by_cases b : w = 3
      · exact Or.inr (Or.inl b)
      by_cases c : w = 4
      · exact Or.inr (Or.inr c)
      exact (i24 w a b c z y).elim
    rw [if_pos hw] at hQ
    rw [r66]
    refine c_44 hsp h.1 hl h.2.2.2.2.1 (f_105_19 hE ?_)
    cases hf : s.f with
    | nil =>
      rw [hf] at hQ
      exact ⟨fun a => absurd rfl a, fun _ => ⟨trivial, hQ⟩⟩
    | cons g t =>
      rw [hf] at hQ hl
      have hl' : t.length + 1 ≤ 8 := hl
      have fr : cFs S x α (g :: t) := by rw [← hf]; exact h.2.2.1
      obtain ⟨⟨f1, f2, f3, f4, -⟩, -⟩ := fr
      have k4 : S.K (x + 28 + 5 * t.length) = 4 := (h.1.1.fr (f := t.length) (by omega)).1.1
      have ea : (if (g :: t).length = 0 then 0 else x + 28 + 5 * ((g :: t).length - 1)) = x + 28 + 5 * t.length := if_neg (Nat.succ_ne_zero _)
      rw [ea]
      dsimp only at hQ
      refine ⟨fun _ => ⟨fun a => ⟨fun b => ⟨by rw [k4]; rfl, trivial, ?_⟩, fun b => ⟨by rw [k4]; rfl, trivial, ?_⟩⟩, fun a => ⟨by rw [k4]; rfl, trivial, ?_⟩⟩, fun a => absurd a (by omega)⟩
      · rw [if_neg a, if_neg b] at hQ; rw [f4]; exact hQ
      · rw [if_neg a, if_pos b] at hQ; rw [f3]; exact hQ
      · rw [if_pos a] at hQ; rw [f2]; exact hQ
  · rw [if_neg (fun e => by rcases e with e | e | e <;> rw [e] at y <;> exact y (by decide))] at hQ
    exact hQ
theorem i_toInt {w : Int32} {k : Int} (h : w.toInt = k) : w = Int32.ofInt k := by rw [← h, Int32.ofInt_toInt]
/-- about -/
theorem c_100 (hsp : ox_mono sp) {s : xSt} {y : Nat} {w : Int32} (h : cR S x α C nc s) (hl : s.f.length ≤ 8) (h39 : S.I 39 (x + 11) = nI y) (hQ : Q (some (.inl (xAb s y w))) S) : ox_M sp (d + 3) 100 [.inr (.inr x), .inl w] mr sr S Q := by
  have hE : ox_mono (ox_M sp (d + 2)) := ox_M_mono hsp _
  have k0 : S.K x = 13 := h.1.1.obj (o := 0) (by decide)
  have r66 : S.R 66 x = x + 11 := h.1.1.ref (o := 0) (by decide)
  have k7 : S.K (x + 11) = 7 := h.1.1.obj (by decide)
  obtain ⟨-, -, -, g, m1, m2, m3, -⟩ := id h
  unfold xAb at hQ
  refine f_100 hsp ⟨fun z => ⟨by rw [k0]; rfl, by rw [r66, k7]; rfl, trivial, ?_⟩, fun z0 => ⟨fun z => ⟨by rw [k0]; rfl, by rw [r66, k7]; rfl, trivial, ?_⟩, fun z1 => ⟨fun z => ⟨by decide, k0, by decide, 0, 0, Nat.zero_le _, Nat.zero_le _, c_105 hsp h hl (f_100_93 hE ⟨trivial, ?_⟩)⟩, fun z2 => ⟨fun z => ⟨by decide, k0, by decide, 0, 0, Nat.zero_le _, Nat.zero_le _, c_105 hsp h hl (f_100_93 hE ⟨trivial, ?_⟩)⟩, fun z3 => ⟨fun z => ⟨by decide, k0, by decide, 0, 0, Nat.zero_le _, Nat.zero_le _, c_105 hsp h hl (f_100_93 hE ⟨trivial, ?_⟩)⟩, fun z4 => ⟨fun z => ⟨by rw [k0]; rfl, by rw [r66, k7]; rfl, trivial, ?_⟩, fun z5 => ⟨fun z => ⟨by rw [k0]; rfl, by rw [r66, k7]; rfl, trivial, ?_⟩, fun z6 => ⟨fun z => ⟨by rw [k0]; rfl, by rw [r66, k7]; rfl, trivial, ?_⟩, fun z7 => ⟨by decide, k0, by decide, 0, 0, Nat.zero_le _, Nat.zero_le _, c_105 hsp h hl (f_100_93 hE ⟨trivial, ?_⟩)⟩⟩⟩⟩⟩⟩⟩⟩⟩
  · have e := i_toInt z; subst e; rw [r66, m2]; exact hQ
  · have e := i_toInt z; subst e; rw [r66, m1]; exact hQ
  · have e := i_toInt z; subst e; exact hQ
  · have e := i_toInt z; subst e; exact hQ
  · have e := i_toInt z; subst e; exact hQ
  · have e := i_toInt z; subst e; rw [r66, m3]; exact hQ
  · have e := i_toInt z; subst e; rw [r66, h39]; exact hQ
  · have e := i_toInt z; subst e; rw [r66, g.1]; exact hQ
  · rw [if_neg (fun e => z0 (by rw [e]; rfl)), if_neg (fun e => z1 (by rw [e]; rfl)), if_neg (fun e => z5 (by rw [e]; rfl)), if_neg (fun e => z6 (by rw [e]; rfl)), if_neg (fun e => z7 (by rw [e]; rfl))] at hQ
    exact hQ
/-- fault -/
theorem c_97 (hsp : ox_mono sp) (hB : cBs S x) (hQ : Q (some (.inl (S.I 63 x))) S) : ox_M sp (d + 1) 97 [.inr (.inr x)] mr sr S Q := by
  have k0 : S.K x = 13 := hB.1.obj (o := 0) (by decide)
  exact f_97 hsp ⟨by rw [k0]; rfl, trivial, hQ⟩
end CBg
