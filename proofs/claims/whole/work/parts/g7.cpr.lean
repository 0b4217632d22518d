/-! the class reads: what there was stays -/
/-- more addresses are known -/
def aLe (α α' : Int → Nat) : Prop := ∀ v, (v < 0 ∨ 11 ≤ v) → α v ≠ 0 → α' v = α v
theorem aLe.refl {α : Int → Nat} : aLe α α := fun _ _ _ => rfl
theorem aLe.trans {α β δ : Int → Nat} (h : aLe α β) (g : aLe β δ) : aLe α δ := fun v hv h0 => by
  have e := h v hv h0
  rw [g v hv (by rw [e]; exact h0)]
  exact e
section CPr
variable {x : Nat} {S S' : ox_St} {α α' : Int → Nat} {C C' : Nat → xCd} {nc : Nat}
theorem oCL.k20 (h : oCL S x) : ∀ a, x ≤ a → a < x + 76 → S.K a = 20 → False := fun a a1 a2 e => by
  obtain ⟨o, rfl⟩ : ∃ o, a = x + o := ⟨a - x, by omega⟩
  have hall : ∀ o : Fin 76, (cKt.any (fun q => q.1 == o.val && q.2 != 20) || cLt.any (fun q => q.1 == o.val && q.2.1 != 20) || decide (28 ≤ o.val ∧ o.val < 68)) = true := by decide
  have := hall ⟨o, by omega⟩
  simp only [Bool.or_eq_true, List.any_eq_true, Bool.and_eq_true, beq_iff_eq, bne_iff_ne, decide_eq_true_eq] at this
  rcases this with (⟨q, q1, q2, q3⟩ | ⟨q, q1, q2, q3⟩) | q
  · have := h.2.1 q q1
    rw [q2] at this
    exact q3 (this.symm.trans e)
  · have := (h.2.2.1 q q1).1
    rw [q2] at this
    exact q3 (this.symm.trans e)
  · obtain ⟨f, j, hf, hj, ho⟩ : ∃ f j, f < 8 ∧ j < 5 ∧ o = 28 + 5 * f + j := ⟨(o - 28) / 5, (o - 28) % 5, by omega, by omega, by omega⟩
    obtain ⟨k1, ⟨a1, a2, a3⟩, ⟨b1, b2, b3⟩, ⟨c1, c2, c3⟩, d1, d2, d3⟩ := (h.fr hf).1
    have e' : S.K (x + 28 + 5 * f + j) = 20 := by rw [show x + 28 + 5 * f + j = x + o by omega]; exact e
    have : j = 0 ∨ j = 1 ∨ j = 2 ∨ j = 3 ∨ j = 4 := by omega
    rcases this with rfl | rfl | rfl | rfl | rfl
    · rw [Nat.add_zero, k1] at e'; exact absurd e' (by decide)
    · rw [a2] at e'; exact absurd e' (by decide)
    · rw [b2] at e'; exact absurd e' (by decide)
    · rw [c2] at e'; exact absurd e' (by decide)
    · rw [d2] at e'; exact absurd e' (by decide)
theorem prV.at (g : prV x S S') {a : Nat} (ha : a < S.n) (h0 : a ≠ x) (h2 : a ≠ x + 2) (hk : S.K a ≠ 20) : S'.K a = S.K a ∧ S'.len a = S.len a ∧ (∀ F, S'.I F a = S.I F a) ∧ (∀ F, S'.R F a = S.R F a) ∧ (∀ F, S'.J F a = S.J F a) ∧ (∀ j, S'.rI a j = S.rI a j) ∧ (∀ j, S'.rR a j = S.rR a j) ∧ (∀ j, S'.rJ a j = S.rJ a j) := g.2.2.1 a ⟨ha, h0, h2, hk⟩
/-- as prV, but for the address z -/
def prW (z x : Nat) (S S' : ox_St) : Prop := S.n ≤ S'.n ∧ (∀ a, a < S.n → S'.K a = S.K a ∧ S'.len a = S.len a) ∧ oAg (fun a => a < S.n ∧ a ≠ x ∧ a ≠ x + 2 ∧ S.K a ≠ 20 ∧ a ≠ z) S S' ∧ (∀ F, F ≠ 62 → F ≠ 63 → S'.I F x = S.I F x) ∧ ∀ F, F ≠ 0 → F ≠ 2 → S'.I F (x + 2) = S.I F (x + 2)
/-- z is nothing that is there -/
def zOk (S : ox_St) (x : Nat) (α : Int → Nat) (z : Nat) : Prop := z = x ∨ (x + 119 ≤ z ∧ S.K z = 10 ∧ ∀ v, α v ≠ z)
theorem prV.w (g : prV x S S') : prW x x S S' := ⟨g.1, g.2.1, g.2.2.1.sub (fun a ha => ⟨ha.1, ha.2.1, ha.2.2.1, ha.2.2.2.1⟩), g.2.2.2.1, g.2.2.2.2.2.1⟩
theorem zOk.row {z t : Nat} (h : zOk S x α z) (ht : t ≠ x) (kt : S.K t ≠ 10) : t ≠ z := fun y => by
  rcases h with w | w
  · exact ht (y.trans w)
  · exact kt (by rw [y]; exact w.2.1)
theorem zOk.obj {z : Nat} {v : Int} (h : zOk S x α z) (hv : α v ≠ x) : α v ≠ z := fun y => by
  rcases h with w | w
  · exact hv (y.trans w)
  · exact w.2.2 v y
theorem prW.at {z : Nat} (g : prW z x S S') {a : Nat} (ha : a < S.n) (h0 : a ≠ x) (h2 : a ≠ x + 2) (hk : S.K a ≠ 20) (hz : a ≠ z) : S'.K a = S.K a ∧ S'.len a = S.len a ∧ (∀ F, S'.I F a = S.I F a) ∧ (∀ F, S'.R F a = S.R F a) ∧ (∀ F, S'.J F a = S.J F a) ∧ (∀ j, S'.rI a j = S.rI a j) ∧ (∀ j, S'.rR a j = S.rR a j) ∧ (∀ j, S'.rJ a j = S.rJ a j) := g.2.2.1 a ⟨ha, h0, h2, hk, hz⟩
theorem vC.pw {z : Nat} {v : Int} {a : Nat} (h : vC S x α v a) (g : prW z x S S') (hz : zOk S x α z) (hα : (v < 0 ∨ 11 ≤ v) → α v ≠ 0 → α' v = α v) : vC S' x α' v a := by
  obtain ⟨h1, h2, h3, h4⟩ := h
  refine ⟨h1, Nat.lt_of_lt_of_le h2 g.1, h3, ?_⟩
  rcases h4 with ⟨y1, y2⟩ | ⟨y1, y2, y3, y4⟩ | y | y | ⟨y1, y2⟩
  · exact Or.inl ⟨y1, by rw [hα (Or.inl y1) (by rw [← y2]; exact h1)]; exact y2⟩
  · refine Or.inr (Or.inl ⟨y1, y2, (g.2.1 a h2).1.trans y3, ?_⟩)
    by_cases e0 : a = x
    · rw [e0, g.2.2.2.1 6 (by decide) (by decide), ← e0]; exact y4
    · by_cases e2 : a = x + 2
      · rw [e2, g.2.2.2.2 6 (by decide) (by decide), ← e2]; exact y4
      · rw [(g.at h2 e0 e2 (by rw [y3]; decide) (hz.row e0 (by rw [y3]; decide))).2.2.1 6]; exact y4
  · exact Or.inr (Or.inr (Or.inl y))
  · exact Or.inr (Or.inr (Or.inr (Or.inl y)))
  · exact Or.inr (Or.inr (Or.inr (Or.inr ⟨y1, by rw [hα (Or.inr y1) (by rw [← y2]; exact h1)]; exact y2⟩)))
theorem vC.pr {v : Int} {a : Nat} (h : vC S x α v a) (g : prV x S S') (hα : (v < 0 ∨ 11 ≤ v) → α v ≠ 0 → α' v = α v) : vC S' x α' v a := h.pw g.w (Or.inl rfl) hα
theorem tRw.x02 {k t : Nat} (h : tRw x k t) : t ≠ x ∧ t ≠ x + 2 := ⟨by have := h.2; omega, by have := h.2; omega⟩
theorem oNm.pw {z a t : Nat} {w : Nat → Nat} {c : Nat} {r : Int32} (h : oNm S a t w c r) (g : prW z x S S') (ha : a < S.n) (a1 : a ≠ x) (a2 : a ≠ x + 2) (az : a ≠ z) (ht : t < S.n) (t1 : t ≠ x) (t2 : t ≠ x + 2) (tz : t ≠ z) : oNm S' a t w c r := by
  obtain ⟨h1, h2, ⟨h3, h4, h5, h6⟩, h7, h8, h9⟩ := h
  obtain ⟨p1, p2, p3, p4, p5, p6, p7, p8⟩ := g.at ha a1 a2 (by rw [h1]; decide) az
  obtain ⟨b1, b2, b3, b4, b5, b6, b7, b8⟩ := g.at ht t1 t2 (by rw [h3]; decide) tz
  exact ⟨p1.trans h1, (p4 _).trans h2, ⟨b1.trans h3, b2.trans h4, h5, fun i hi => by rw [b6]; exact h6 i hi⟩, h7, (p3 _).trans h8, h9⟩
theorem cO.pw {z : Nat} {v : Int} {o : xOb} (h : cO S x α C v o) (g : prW z x S S') (hz : zOk S x α z) (hv : α' v = α v) (hr : ∀ u ∈ xRf o, (u < 0 ∨ 11 ≤ u) → α u ≠ 0 → α' u = α u) (hf : ∀ c : Nat, o = .inr (.inr (.inr (.inr c))) → α' (-1 - (c : Int)) = α (-1 - (c : Int)) ∧ C' c = C c) : cO S' x α' C' v o := by
  obtain ⟨h1, h2, h3⟩ := h
  have hn := g.1
  refine ⟨by rw [hv]; exact h1, by rw [hv]; omega, ?_⟩
  rw [hv]
  have at' : S.K (α v) ≠ 20 → _ := fun hk => g.at h2 (by omega) (by omega) hk (hz.obj (by omega))
  match o, h3, hr, hf with
  | .inl N, ⟨t, w, c, r, g1, g2, g3, g4⟩, _, _ =>
    obtain ⟨p1, p2, p3, p4, p5, p6, p7, p8⟩ := at' (by rw [g1.1]; decide)
    exact ⟨t, w, c, r, g1.pw g h2 (by omega) (by omega) (hz.obj (by omega)) g4.1 g4.x02.1 g4.x02.2 (hz.row g4.x02.1 (by rw [g1.2.2.1.1]; decide)), g2, (p3 _).trans g3, g4.mono hn⟩
  | .inr (.inl q), ⟨t, ⟨t1, t2, t3, t4, t5⟩, g2, g3, g4, g5⟩, hr, _ =>
    obtain ⟨p1, p2, p3, p4, p5, p6, p7, p8⟩ := at' (by rw [t1]; decide)
    obtain ⟨b1, b2, b3, b4, b5, b6, b7, b8⟩ := g.at g4.1 g4.x02.1 g4.x02.2 (by rw [t3]; decide) (hz.row g4.x02.1 (by rw [t3]; decide))
    refine ⟨t, ⟨p1.trans t1, (p4 _).trans t2, b1.trans t3, b2.trans t4, t5⟩, (p3 _).trans g2, (p3 _).trans g3, g4.mono hn, fun i hi => ?_⟩
    rw [b7]
    refine (g5 i hi).pw g hz (hr _ ?_)
    show q.1.getD i 0 ∈ q.1
    rw [List.getD_eq_getElem?_getD, List.getElem?_eq_getElem hi]
    exact List.getElem_mem hi
  | .inr (.inr (.inl q)), ⟨g1, g2, g3, g4, g5⟩, _, _ =>
    obtain ⟨p1, p2, p3, p4, p5, p6, p7, p8⟩ := at' (by rw [g1]; decide)
    exact ⟨p1.trans g1, (p3 _).trans g2, by rw [p3]; exact g3, by rw [p3]; exact g4, by rw [p3]; exact g5⟩
  | .inr (.inr (.inr (.inl q))), ⟨g1, g2, g3, g4⟩, hr, _ =>
    obtain ⟨p1, p2, p3, p4, p5, p6, p7, p8⟩ := at' (by rw [g1]; decide)
    exact ⟨p1.trans g1, (p3 _).trans g2, by rw [p4]; exact g3.pw g hz (hr _ List.mem_cons_self), (p5 _).trans g4⟩
  | .inr (.inr (.inr (.inr c))), ⟨g1, g2, g3, g4⟩, _, hf =>
    obtain ⟨p1, p2, p3, p4, p5, p6, p7, p8⟩ := at' (by rw [g1]; decide)
    obtain ⟨f1, f2⟩ := hf c rfl
    exact ⟨p1.trans g1, (p3 _).trans g2, by rw [p4, f1]; exact g3, by rw [p3, f2]; exact g4⟩
theorem cO.pr {v : Int} {o : xOb} (h : cO S x α C v o) (g : prV x S S') (hv : α' v = α v) (hr : ∀ u ∈ xRf o, (u < 0 ∨ 11 ≤ u) → α u ≠ 0 → α' u = α u) (hf : ∀ c : Nat, o = .inr (.inr (.inr (.inr c))) → α' (-1 - (c : Int)) = α (-1 - (c : Int)) ∧ C' c = C c) : cO S' x α' C' v o := h.pw g.w (Or.inl rfl) hv hr hf
theorem cCd.pw {z c : Nat} (h : cCd S x α C c) (g : prW z x S S') (hz : zOk S x α z) (hc : α' (-1 - (c : Int)) = α (-1 - (c : Int))) (hC : C' c = C c) (hr : ∀ u ∈ (C c).2.1, (u < 0 ∨ 11 ≤ u) → α u ≠ 0 → α' u = α u) : cCd S' x α' C' c := by
  obtain ⟨h1, h2, ⟨s1, ⟨s2, s3, s4⟩, ⟨s5, s6, s7⟩, ⟨s8, s9⟩, ⟨s10, s11⟩, s12⟩, h4, ⟨r1, r2, r3⟩, h6, h7⟩ := h
  have hn := g.1
  obtain ⟨a1, a2, a3, a4, a5, a6, a7, a8⟩ := g.at h2 (by omega) (by omega) (by rw [s1]; decide) (hz.obj (by omega))
  obtain ⟨b1, b2, b3, b4, b5, b6, b7, b8⟩ := g.at r1.1 r1.x02.1 r1.x02.2 (by rw [s5]; decide) (hz.row r1.x02.1 (by rw [s5]; decide))
  obtain ⟨d1, d2, d3, d4, d5, d6, d7, d8⟩ := g.at r2.1 r2.x02.1 r2.x02.2 (by rw [s8]; decide) (hz.row r2.x02.1 (by rw [s8]; decide))
  obtain ⟨e1, e2, e3, e4, e5, e6, e7, e8⟩ := g.at r3.1 r3.x02.1 r3.x02.2 (by rw [s10]; decide) (hz.row r3.x02.1 (by rw [s10]; decide))
  unfold cCd cSh
  rw [hc, hC, a1, a3, a3, a3, a3, a4, a4, a4, b1, b2, d1, d2, e1, e2]
  refine ⟨h1, by omega, ⟨s1, ⟨s2, s3, s4⟩, ⟨s5, s6, fun p hp => (b6 p).trans (s7 p hp)⟩, ⟨s8, s9⟩, ⟨s10, s11⟩, s12⟩, h4, ⟨r1.mono hn, r2.mono hn, r3.mono hn⟩, fun i hi => ?_, fun i hi => ?_⟩
  · rw [d7]
    refine (h6 i hi).pw g hz (hr _ ?_)
    rw [List.getD_eq_getElem?_getD, List.getElem?_eq_getElem hi]
    exact List.getElem_mem hi
  · rw [e8]; exact h7 i hi
theorem cCd.pr {c : Nat} (h : cCd S x α C c) (g : prV x S S') (hc : α' (-1 - (c : Int)) = α (-1 - (c : Int))) (hC : C' c = C c) (hr : ∀ u ∈ (C c).2.1, (u < 0 ∨ 11 ≤ u) → α u ≠ 0 → α' u = α u) : cCd S' x α' C' c := h.pw g.w (Or.inl rfl) hc hC hr
theorem cStk.pr {t : Nat} (g : prV x S S') (ht : ∀ j, S'.rR t j = S.rR t j) : ∀ (st : List Int), (∀ v ∈ st, (v < 0 ∨ 11 ≤ v) → α v ≠ 0 → α' v = α v) → cStk S x α t st → cStk S' x α' t st
  | [], _, _ => trivial
  | v :: r, hα, h => ⟨by rw [ht]; exact h.1.pr g (hα v List.mem_cons_self), cStk.pr g ht r (fun u hu => hα u (List.mem_cons_of_mem _ hu)) h.2⟩
theorem cBk.pr {F : Nat} (h3 : ∀ j, S'.rI (F + 3) j = S.rI (F + 3) j) (h4 : ∀ j, S'.rI (F + 4) j = S.rI (F + 4) j) : ∀ (b : List (Nat × Nat)), cBk S F b → cBk S' F b
  | [], _ => trivial
  | _ :: b, h => ⟨by rw [h3]; exact h.1, by rw [h4]; exact h.2.1, cBk.pr h3 h4 b h.2.2⟩
theorem cLo.pr {t : Nat} {L : Nat → Option Int} (g : prV x S S') (ht : ∀ j, S'.rR t j = S.rR t j) (hα : ∀ i v, L i = some v → (v < 0 ∨ 11 ≤ v) → α v ≠ 0 → α' v = α v) (h : cLo S x α t L) : cLo S' x α' t L := fun i hi => by
  have k := h i hi
  cases z : L i with
  | none => rw [z] at k; show S'.rR t i = 0; rw [ht]; exact k
  | some v => rw [z] at k; show vC S' x α' v (S'.rR t i); rw [ht]; exact vC.pr k g (hα i v z)
theorem cFr.pr {f : Nat} {q : xFr} (h : cFr S x α f q) (g : prV x S S') (hC : oCL S x) (hn : x + 119 ≤ S.n) (hf : f < 8) (hc : α' (-1 - (q.1 : Int)) = α (-1 - (q.1 : Int))) (hα : ∀ u, (u ∈ q.2.2.1 ∨ ∃ i, q.2.2.2.1 i = some u) → (u < 0 ∨ 11 ≤ u) → α u ≠ 0 → α' u = α u) : cFr S' x α' f q := by
  obtain ⟨h1, h2, h3, h4, h5, h6, h7⟩ := h
  have at' : ∀ j, j < 5 → _ := fun j hj => g.at (a := x + 28 + 5 * f + j) (by omega) (by omega) (by omega) (fun z => hC.k20 _ (by omega) (by omega) z)
  obtain ⟨-, -, a1, a2, -⟩ := at' 0 (by omega)
  exact ⟨by rw [hc]; exact (a2 18).trans h1, (a1 _).trans h2, (a1 _).trans h3, (a1 _).trans h4, cStk.pr g (at' 2 (by omega)).2.2.2.2.2.2.1 _ (fun v hv => hα v (Or.inl hv)) h5, cLo.pr g (at' 1 (by omega)).2.2.2.2.2.2.1 (fun i v hv => hα v (Or.inr ⟨i, hv⟩)) h6, cBk.pr (at' 3 (by omega)).2.2.2.2.2.1 (at' 4 (by omega)).2.2.2.2.2.1 _ h7⟩
theorem cFs.pr (g : prV x S S') (hC : oCL S x) (hn : x + 119 ≤ S.n) : ∀ (t : List xFr), t.length ≤ 8 → (∀ q ∈ t, α' (-1 - (q.1 : Int)) = α (-1 - (q.1 : Int)) ∧ ∀ u, (u ∈ q.2.2.1 ∨ ∃ i, q.2.2.2.1 i = some u) → (u < 0 ∨ 11 ≤ u) → α u ≠ 0 → α' u = α u) → cFs S x α t → cFs S' x α' t
  | [], _, _, _ => trivial
  | q :: t, hl, hα, h => by
    have hl' : t.length + 1 ≤ 8 := hl
    exact ⟨h.1.pr g hC hn (by omega) (hα q List.mem_cons_self).1 (hα q List.mem_cons_self).2, cFs.pr g hC hn t (by omega) (fun q' hq' => hα q' (List.mem_cons_of_mem _ hq')) h.2⟩
theorem cGl.pr {G : List (Nat × Int)} (h : cGl S x α G) (g : prV x S S') (hC : oCL S x) (hn : x + 119 ≤ S.n) (hα : ∀ q ∈ G, (q.2 < 0 ∨ 11 ≤ q.2) → α q.2 ≠ 0 → α' q.2 = α q.2) : cGl S' x α' G := by
  have at' : ∀ j, j < 76 → j ≠ 0 → j ≠ 2 → _ := fun j hj j0 j2 => g.at (a := x + j) (by omega) (by omega) (by omega) (fun z => hC.k20 _ (by omega) (by omega) z)
  refine ⟨((at' 11 (by omega) (by omega) (by omega)).2.2.1 43).trans h.1, fun i hi => ?_⟩
  obtain ⟨g1, g2⟩ := h.2 i hi
  refine ⟨((at' 13 (by omega) (by omega) (by omega)).2.2.2.2.2.2.2 i).trans g1, ?_⟩
  rw [(at' 14 (by omega) (by omega) (by omega)).2.2.2.2.2.2.1 i]
  refine g2.pr g (hα _ ?_)
  rw [List.getD_eq_getElem?_getD, List.getElem?_eq_getElem hi]
  exact List.getElem_mem hi
theorem cBs.pr (h : cBs S x) (g : prV x S S') : cBs S' x := by
  obtain ⟨h1, h2, h3, h4, ⟨h5, h6, h7, h8⟩⟩ := h
  have e0 := g.at (a := 0) (by omega) (by omega) (by omega) (by rw [h3]; decide)
  have e1 := g.at (a := S.R 143 0) (by omega) (by omega) (by omega) (by rw [h6]; decide)
  refine ⟨h1.pv g (by omega), h2, e0.1.trans h3, Nat.le_trans h4 g.1, ?_⟩
  unfold cSn
  rw [e0.2.2.2.1 143, e1.1, e1.2.1]
  exact ⟨h5, h6, h7, fun i hi => (e1.2.2.2.2.2.2.2 i).trans (h8 i hi)⟩
/-- the machine's part stays: all but the objects and codes -/
theorem cR.pr1 {s : xSt} (h : cR S x α C nc s) (g : prV x S S') (hl : s.f.length ≤ 8) (hf : ∀ q ∈ s.f, α' (-1 - (q.1 : Int)) = α (-1 - (q.1 : Int)) ∧ ∀ u, (u ∈ q.2.2.1 ∨ ∃ i, q.2.2.2.1 i = some u) → (u < 0 ∨ 11 ≤ u) → α u ≠ 0 → α' u = α u) (hg : ∀ q ∈ s.G, (q.2 < 0 ∨ 11 ≤ q.2) → α q.2 ≠ 0 → α' q.2 = α q.2) (hr : (s.r < 0 ∨ 11 ≤ s.r) → α s.r ≠ 0 → α' s.r = α s.r) {H : xHp} {n : Int} {nc' : Nat} (hp : cHp S' x α' C' nc' H) : cR S' x α' C' nc' (H, n, s.G, s.f, s.s, s.k, s.r) := by
  obtain ⟨b, -, fs, gl, m1, m2, m3, m4, m5⟩ := h
  have hn : x + 119 ≤ S.n := b.2.2.2.1
  have e := g.at (a := x + 11) (by omega) (by omega) (by omega) (fun z => b.1.k20 _ (by omega) (by omega) z)
  refine ⟨b.pr g, hp, cFs.pr g b.1 hn _ hl hf fs, gl.pr g b.1 hn hg, (e.2.2.1 35).trans m1, (e.2.2.1 37).trans m2, (e.2.2.1 38).trans m3, fun z => ?_, fun z => ?_⟩
  · rw [e.2.2.2.1 40]; exact (m4 z).pr g hr
  · rw [e.2.2.2.1 40]; exact m5 z
theorem cR.pr {s : xSt} (h : cR S x α C nc s) (g : prV x S S') (hl : s.f.length ≤ 8) : cR S' x α C nc s :=
  h.pr1 (H := s.H) (n := s.n) g hl (fun _ _ => ⟨rfl, fun _ _ _ _ => rfl⟩) (fun _ _ _ _ => rfl) (fun _ _ => rfl) ⟨fun v o e => (h.2.1.1 v o e).pr g rfl (fun _ _ _ _ => rfl) (fun _ _ => ⟨rfl, rfl⟩), fun c hc => (h.2.1.2.1 c hc).pr g rfl rfl (fun _ _ _ _ => rfl), h.2.1.2.2⟩
/-- only what is there has an address -/
def aZ (α : Int → Nat) (nc : Nat) (H : xHp) (v : Int) : Nat := if v < 0 ∧ -(nc : Int) ≤ v then α v else match H v with
  | none => 0
  | some _ => α v
theorem aZ_ok {H : xHp} {v : Int} (h : xOk nc H v) (hv : v < 0 ∨ 11 ≤ v) : aZ α nc H v = α v := by
  unfold aZ
  by_cases c : v < 0 ∧ -(nc : Int) ≤ v
  · rw [if_pos c]
  · rw [if_neg c]
    rcases h with z | z
    · omega
    · cases e : H v with
      | none => exact absurd e z
      | some o => rfl
theorem aZ_no {H : xHp} {v : Int} (h : aZ α nc H v ≠ 0) : (v < 0 ∧ -(nc : Int) ≤ v) ∨ H v ≠ none := by
  unfold aZ at h
  by_cases c : v < 0 ∧ -(nc : Int) ≤ v
  · exact Or.inl c
  · rw [if_neg c] at h
    cases e : H v with
    | none => rw [e] at h; exact absurd rfl h
    | some o => exact Or.inr (fun z => by cases z)
theorem cR.z {s : xSt} {K : Nat} (h : cR S x α C nc s) (w : xWf C nc K s) : cR S x (aZ α nc s.H) C nc s := by
  obtain ⟨w1, w2, w3, w4, -, w6, -⟩ := w
  have cd : ∀ c : Nat, c < nc → aZ α nc s.H (-1 - (c : Int)) = α (-1 - (c : Int)) := fun c hc => aZ_ok (Or.inl ⟨by omega, by omega⟩) (by omega)
  have fk : ∀ q ∈ s.f, q.1 < nc ∧ (∀ v ∈ q.2.2.1, xOk nc s.H v) ∧ ∀ i v, q.2.2.2.1 i = some v → xOk nc s.H v := fun q hq => by
    have hx : ∃ k, xFOk C nc s.H k q := by
      have w4' := w4.2
      cases e : s.f with
      | nil => rw [e] at hq; cases hq
      | cons f t =>
        rw [e] at hq w4'
        rcases List.mem_cons.mp hq with y | y
        · exact ⟨0, by rw [y]; exact w4'.1⟩
        · exact ⟨1, w4'.2 q y⟩
    obtain ⟨k, z⟩ := hx
    exact ⟨z.1, z.2.2.2.1, fun i v e => (z.2.2.2.2 i v e).2⟩
  refine h.pr1 (H := s.H) (n := s.n) (prF.refl).v w4.1 (fun q hq => ⟨cd _ (fk q hq).1, fun u hu hv _ => aZ_ok (hu.elim (fun y => (fk q hq).2.1 u y) (fun ⟨i, y⟩ => (fk q hq).2.2 i u y)) hv⟩) (fun q hq hv _ => aZ_ok (w3.2 q hq).2 hv) (fun hv _ => aZ_ok w6 hv) ⟨fun v o e => ?_, fun c hc => ?_, fun u v hu hv e => ?_, fun c hc => (cd c hc).trans (h.2.1.2.2.2 c hc)⟩
  · obtain ⟨k1, k2, k3⟩ := w1.2 v o e
    refine (h.2.1.1 v o e).pr (prF.refl).v (aZ_ok (Or.inr (by rw [e]; exact fun z => by cases z)) (by omega)) (fun u hu hv _ => ?_) (fun c hc => ?_)
    · match o, k3, hu with
      | .inl N, _, hu => cases hu
      | .inr (.inl q), ⟨_, _, _, f⟩, hu => exact aZ_ok (f u hu) hv
      | .inr (.inr (.inl q)), _, hu => cases hu
      | .inr (.inr (.inr (.inl q))), ⟨f, _⟩, hu =>
        have hu' : u = q.1 := List.mem_singleton.mp hu
        refine aZ_ok (Or.inr (fun z => f ?_)) hv
        unfold xLen
        rw [← hu', z]
      | .inr (.inr (.inr (.inr c))), _, hu => cases hu
    · subst hc
      exact ⟨cd c k3, rfl⟩
  · exact (h.2.1.2.1 c hc).pr (prF.refl).v (cd c hc) rfl (fun u hu hv _ => aZ_ok ((w2 c hc).2.2.2.2.1 u hu) hv)
  · have ok : ∀ w, cDm nc s.H w → aZ α nc s.H w = α w := fun w hw => by
      rcases hw with z | z
      · exact aZ_ok (Or.inl ⟨z.1, by omega⟩) (Or.inl z.2)
      · have : 16 ≤ w := by
          cases e : s.H w with
          | none => exact absurd e z
          | some o => exact (w1.2 w o e).1
        exact aZ_ok (Or.inr z) (by omega)
    exact h.2.1.2.2.1 u v hu hv (by rw [← ok u hu, ← ok v hv]; exact e)
end CPr
