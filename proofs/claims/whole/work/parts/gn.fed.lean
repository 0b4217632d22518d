/-! the class is fed -/
/-- what feeding and looking leave alone -/
def gF (x : Nat) (S V : ox_St) : Prop := V.K = S.K ∧ V.len = S.len ∧ V.n = S.n ∧ V.J = S.J ∧ V.rR = S.rR ∧ V.rJ = S.rJ ∧ (∀ F a, F ≠ 29 → V.R F a = S.R F a) ∧ (∀ F a, F ≠ 28 ∧ F ≠ 32 ∧ F ≠ 33 ∧ F ≠ 61 → V.I F a = S.I F a) ∧ ∀ a, a < x + 1 ∨ x + 10 < a → V.rI a = S.rI a
section CGF
variable {x nc : Nat} {S T V : ox_St} {α : Int → Nat} {C : Nat → xCd} {s : xSt}
theorem gF.fI (f : gF x S V) {F a : Nat} (h : F ≠ 28 ∧ F ≠ 32 ∧ F ≠ 33 ∧ F ≠ 61) : V.I F a = S.I F a := f.2.2.2.2.2.2.2.1 F a h
theorem gF.fR (f : gF x S V) {F a : Nat} (h : F ≠ 29) : V.R F a = S.R F a := f.2.2.2.2.2.2.1 F a h
theorem oCL.gf (h : oCL S x) (f : gF x S V) : oCL V x := h.next (fun a _ _ => ⟨by rw [f.1], by rw [f.2.1]⟩) (fun F a n1 n2 n3 n4 n5 _ _ => f.fR n3) (fun F a hF _ _ => f.fI (by omega)) (by rw [f.2.2.2.2.1]) (by rw [f.2.2.2.2.1]) (f.2.2.2.2.2.2.2.2 (x + 21) (by omega))
theorem vC.gf {v : Int} {a : Nat} (h : vC S x α v a) (f : gF x S V) : vC V x α v a := by
  obtain ⟨h1, h2, h3, h4⟩ := h
  refine ⟨h1, by rw [f.2.2.1]; exact h2, h3, ?_⟩
  rw [f.1, f.fI (F := 6) (by decide)]
  exact h4
theorem tRw.gf {k t : Nat} (h : tRw x k t) (f : gF x S V) : V.rI t = S.rI t := f.2.2.2.2.2.2.2.2 t (by have := h.2; omega)
theorem cO.gf {v : Int} {o : xOb} (h : cO S x α C v o) (f : gF x S V) : cO V x α C v o := by
  obtain ⟨h1, h2, h3⟩ := h
  have eK : V.K = S.K := f.1
  have el : V.len = S.len := f.2.1
  have en : V.n = S.n := f.2.2.1
  refine ⟨h1, by rw [en]; exact h2, ?_⟩
  match o, h3 with
  | .inl N, ⟨t, w, c, r, ⟨n1, n2, ⟨n3, n4, n5, n6⟩, n7, n8, n9⟩, g2, g3, g4⟩ =>
    exact ⟨t, w, c, r, ⟨by rw [eK]; exact n1, by rw [f.fR (by decide)]; exact n2, ⟨by rw [eK]; exact n3, by rw [el]; exact n4, n5, fun i hi => by rw [g4.gf f]; exact n6 i hi⟩, n7, by rw [f.fI (by decide)]; exact n8, n9⟩, g2, by rw [f.fI (by decide)]; exact g3, by rw [en]; exact g4⟩
  | .inr (.inl q), ⟨t, ⟨t1, t2, t3, t4, t5⟩, g2, g3, g4, g5⟩ =>
    exact ⟨t, ⟨by rw [eK]; exact t1, by rw [f.fR (by decide)]; exact t2, by rw [eK]; exact t3, by rw [el]; exact t4, t5⟩, by rw [f.fI (by decide)]; exact g2, by rw [f.fI (by decide)]; exact g3, by rw [en]; exact g4, fun i hi => by rw [f.2.2.2.2.1]; exact (g5 i hi).gf f⟩
  | .inr (.inr (.inl q)), ⟨g1, g2, g3, g4, g5⟩ => exact ⟨by rw [eK]; exact g1, by rw [f.fI (by decide)]; exact g2, by rw [f.fI (by decide)]; exact g3, by rw [f.fI (by decide)]; exact g4, by rw [f.fI (by decide)]; exact g5⟩
  | .inr (.inr (.inr (.inl q))), ⟨g1, g2, g3, g4⟩ => exact ⟨by rw [eK]; exact g1, by rw [f.fI (by decide)]; exact g2, by rw [f.fR (by decide)]; exact g3.gf f, by rw [f.2.2.2.1]; exact g4⟩
  | .inr (.inr (.inr (.inr c))), ⟨g1, g2, g3, g4⟩ => exact ⟨by rw [eK]; exact g1, by rw [f.fI (by decide)]; exact g2, by rw [f.fR (by decide)]; exact g3, by rw [f.fI (by decide)]; exact g4⟩
theorem cCd.gf {c : Nat} (h : cCd S x α C c) (f : gF x S V) : cCd V x α C c := by
  obtain ⟨h1, h2, ⟨s1, ⟨s2, s3, s4⟩, ⟨s5, s6, s7⟩, ⟨s8, s9⟩, ⟨s10, s11⟩, s12⟩, h4, ⟨r1, r2, r3⟩, h6, h7⟩ := h
  have eR : ∀ F a, F ≠ 29 → V.R F a = S.R F a := fun F a hF => f.fR hF
  have eI : ∀ F a, (F ≠ 28 ∧ F ≠ 32 ∧ F ≠ 33 ∧ F ≠ 61) → V.I F a = S.I F a := fun F a hF => f.fI hF
  unfold cCd cSh
  rw [f.1, f.2.1, f.2.2.1, eR 10 _ (by decide), eR 11 _ (by decide), eR 12 _ (by decide), eI 6 _ (by decide), eI 7 _ (by decide), eI 8 _ (by decide), eI 9 _ (by decide), f.2.2.2.2.1, f.2.2.2.2.2.1, r1.gf f]
  exact ⟨h1, h2, ⟨s1, ⟨s2, s3, s4⟩, ⟨s5, s6, s7⟩, ⟨s8, s9⟩, ⟨s10, s11⟩, s12⟩, h4, ⟨r1, r2, r3⟩, fun i hi => (h6 i hi).gf f, h7⟩
theorem cStk.gf {t : Nat} (f : gF x S V) : ∀ (st : List Int), cStk S x α t st → cStk V x α t st
  | [], _ => trivial
  | v :: r, h => ⟨by rw [f.2.2.2.2.1]; exact h.1.gf f, cStk.gf f r h.2⟩
theorem cBk.gf {F : Nat} (f : gF x S V) (hF : x + 28 ≤ F) : ∀ (b : List (Nat × Nat)), cBk S F b → cBk V F b
  | [], _ => trivial
  | _ :: b, h => ⟨by rw [f.2.2.2.2.2.2.2.2 (F + 3) (by omega)]; exact h.1, by rw [f.2.2.2.2.2.2.2.2 (F + 4) (by omega)]; exact h.2.1, cBk.gf f hF b h.2.2⟩
theorem cFs.gf (f : gF x S V) : ∀ (t : List xFr), cFs S x α t → cFs V x α t
  | [], _ => trivial
  | g :: t, h => by
    obtain ⟨⟨h1, h2, h3, h4, h5, h6, h7⟩, h8⟩ := h
    refine ⟨⟨by rw [f.fR (by decide)]; exact h1, by rw [f.fI (by decide)]; exact h2, by rw [f.fI (by decide)]; exact h3, by rw [f.fI (by decide)]; exact h4, cStk.gf f _ h5, fun i hi => ?_, cBk.gf f (by omega) _ h7⟩, cFs.gf f t h8⟩
    have k := h6 i hi
    cases z : g.2.2.2.1 i with
    | none => rw [z] at k; show V.rR _ i = 0; rw [f.2.2.2.2.1]; exact k
    | some v => rw [z] at k; show vC V x α v (V.rR _ i); rw [f.2.2.2.2.1]; exact vC.gf k f
theorem cR.gf (h : cR S x α C nc s) (f : gF x S V) : cR V x α C nc s := by
  obtain ⟨⟨b1, b2, b3, b4, ⟨n1, n2, n3, n4⟩⟩, hp, fs, g, m1, m2, m3, m4, m5⟩ := h
  refine ⟨⟨b1.gf f, b2, by rw [f.1]; exact b3, by rw [f.2.2.1]; exact b4, ?_⟩, ⟨fun v o e => (hp.1 v o e).gf f, fun c hc => (hp.2.1 c hc).gf f, hp.2.2⟩, cFs.gf f _ fs, ⟨by rw [f.fI (by decide)]; exact g.1, fun i hi => ?_⟩, by rw [f.fI (by decide)]; exact m1, by rw [f.fI (by decide)]; exact m2, by rw [f.fI (by decide)]; exact m3, fun z => by rw [f.fR (by decide)]; exact (m4 z).gf f, fun z => by rw [f.fR (by decide)]; exact m5 z⟩
  · unfold cSn
    rw [f.fR (F := 143) (by decide), f.1, f.2.1, f.2.2.2.2.2.1]
    exact ⟨n1, n2, n3, n4⟩
  · rw [f.2.2.2.2.2.1, f.2.2.2.2.1]; exact ⟨(g.2 i hi).1, (g.2 i hi).2.gf f⟩
end CGF
