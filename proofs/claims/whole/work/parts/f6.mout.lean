/-! the reference reads: what stays outside -/
def mOu (m : Nat) (S S' : ox_St) : Prop := S'.n = S.n ∧ S'.K = S.K ∧ S'.len = S.len ∧ S'.J = S.J ∧ S'.rR = S.rR ∧ (∀ F a, a ≠ m → S'.R F a = S.R F a) ∧ (∀ F a, a ≠ m → S'.I F a = S.I F a) ∧ (∀ a, a < m ∨ m + 41 < a → S'.rI a = S.rI a) ∧ ∀ a, a < m ∨ m + 41 < a → S'.rJ a = S.rJ a
section OU
variable {S S' V : ox_St} {m ce K : Nat} {γ γ' : Int → Nat} {B B' : List Int} {T T' : Nat} {C C' : Nat → xCd} {nc nc' y Bn Kn Wn : Nat} {s : xSt}
theorem mOu.refl : mOu m S S := ⟨rfl, rfl, rfl, rfl, rfl, fun _ _ _ => rfl, fun _ _ _ => rfl, fun _ _ => rfl, fun _ _ => rfl⟩
theorem mOu.trans (h : mOu m S S') (g : mOu m S' V) : mOu m S V := by
  obtain ⟨h1, h2, h3, h4, h5, h6, h7, h8, h9⟩ := h
  obtain ⟨g1, g2, g3, g4, g5, g6, g7, g8, g9⟩ := g
  exact ⟨g1.trans h1, g2.trans h2, g3.trans h3, g4.trans h4, g5.trans h5, fun F a z => (g6 F a z).trans (h6 F a z), fun F a z => (g7 F a z).trans (h7 F a z), fun a z => (g8 a z).trans (h8 a z), fun a z => (g9 a z).trans (h9 a z)⟩
theorem mOu.sI {F : Nat} {v : Int32} (h : mOu m S S') : mOu m S (S'.sI F m v) := by
  obtain ⟨h1, h2, h3, h4, h5, h6, h7, h8, h9⟩ := h
  refine ⟨(or_sI_n _ _ _ _).trans h1, (or_sI_K _ _ _ _).trans h2, (or_sI_len _ _ _ _).trans h3, (or_sI_J _ _ _ _).trans h4, (or_sI_rR _ _ _ _).trans h5, fun G a z => ?_, fun G a z => ?_, fun a z => ?_, fun a z => ?_⟩
  · rw [or_sI_R]; exact h6 G a z
  · rw [or_sI_I, if_neg (fun y => z y.2)]; exact h7 G a z
  · rw [or_sI_rI]; exact h8 a z
  · rw [or_sI_rJ]; exact h9 a z
theorem mFx.ou (h : mFx m S S') : mOu m S S' := ⟨h.1, h.2.1, h.2.2.1, h.2.2.2.1, h.2.2.2.2.1, h.2.2.2.2.2.1, h.2.2.2.2.2.2.1, h.2.2.2.2.2.2.2.1, h.2.2.2.2.2.2.2.2.1⟩
theorem mlF.ou (h : mlF m S S') : mOu m S S' := ⟨h.2.2.1, h.1, h.2.1, h.2.2.2.2.1, h.2.2.2.2.2.1, fun F a _ => by rw [h.2.2.2.1], fun F a z => h.2.2.2.2.2.2.2.1 F a (Or.inl z), fun a z => h.2.2.2.2.2.2.2.2 a (by omega), fun a _ => by rw [h.2.2.2.2.2.2.1]⟩
theorem kR.ou {q : Nat × Nat × Nat × Nat × Nat} (hce : ce = 2 ∨ ce = 3) (h : kR S S' m ce q) : mOu m S S' := ⟨h.2.2.1, h.1, h.2.1, h.2.2.2.2.1, h.2.2.2.2.2.1, fun F a _ => by rw [h.2.2.2.1], fun F a z => h.2.2.2.2.2.2.1 F a (Or.inl z), fun a z => h.2.2.2.2.2.2.2.1 a (by unfold kRr; omega), fun a z => h.2.2.2.2.2.2.2.2.2.2.2.2.1 a (by omega)⟩
/-- fields that the picture does not see -/
def fdS (m : Nat) (S S' : ox_St) : Prop := S'.K = S.K ∧ S'.len = S.len ∧ S'.R = S.R ∧ S'.rJ = S.rJ ∧ (∀ o, o ≤ 35 → S'.rI (m + o) = S.rI (m + o)) ∧ ∀ F, F = 75 ∨ (92 ≤ F ∧ F ≤ 95) ∨ F = 97 ∨ F = 106 → S'.I F m = S.I F m
theorem fdS.refl : fdS m S S := ⟨rfl, rfl, rfl, rfl, fun _ _ => rfl, fun _ _ => rfl⟩
theorem fdS.sI {F : Nat} {v : Int32} (h : fdS m S S') (hF : ¬ (F = 75 ∨ (92 ≤ F ∧ F ≤ 95) ∨ F = 97 ∨ F = 106) := by omega) : fdS m S (S'.sI F m v) := by
  obtain ⟨h1, h2, h3, h4, h5, h6⟩ := h
  refine ⟨(or_sI_K _ _ _ _).trans h1, (or_sI_len _ _ _ _).trans h2, (or_sI_R _ _ _ _).trans h3, (or_sI_rJ _ _ _ _).trans h4, fun o ho => ?_, fun G z => ?_⟩
  · rw [or_sI_rI]; exact h5 o ho
  · rw [or_sI_I, if_neg (fun y => hF (by rw [← y.1]; exact z))]; exact h6 G z
theorem fdS.ml (h : fdS m S S') (f : mlF m S' V) : fdS m S V := by
  obtain ⟨h1, h2, h3, h4, h5, h6⟩ := h
  exact ⟨f.1.trans h1, f.2.1.trans h2, f.2.2.2.1.trans h3, f.2.2.2.2.2.2.1.trans h4, fun o ho => (f.2.2.2.2.2.2.2.2 _ (by omega)).trans (h5 o ho), fun F z => (f.2.2.2.2.2.2.2.1 F m (Or.inr (by omega))).trans (h6 F z)⟩
theorem rR.fd (h : rR S m ce γ B T C nc y s) (hl : ∀ g ∈ s.f, g.2.2.1.length ≤ 10 ∧ g.2.2.2.2.length ≤ 4) (f : fdS m S V) : rR V m ce γ B T C nc y s := by
  obtain ⟨a1, ⟨a2, a3⟩, ⟨a4, a5⟩, a6, a7, ⟨b1, b2, b3, b4, b5⟩, c1, c2, c3⟩ := h
  obtain ⟨f1, f2, f3, f4, f5, f6⟩ := f
  have hce := a1.2.2.1
  refine ⟨a1.next f1 f2 (fun F => by rw [f3]), ⟨a2.next (fun j _ => by rw [f5 _ (by omega)]), (f6 75 (by omega)).trans a3⟩, ⟨a4, fun c hc => (a5 c hc).next (fun a z1 z2 => ?_) (by rw [f4]) (fun _ _ => rfl)⟩, ?_, a7.next (f6 106 (by omega)) (by rw [f4]) (f5 25 (by omega)) (fun _ _ => rfl), ⟨(f6 92 (by omega)).trans b1, (f6 93 (by omega)).trans b2, (f6 94 (by omega)).trans b3, (f6 95 (by omega)).trans b4, (f6 97 (by omega)).trans b5⟩, c1, c2, c3⟩
  · have := f5 (a - m) (by omega)
    rw [show m + (a - m) = a by omega] at this
    exact this
  · exact rFs.next _ (fun f _ => ⟨fun o z1 z2 => by rw [f5 _ (by omega)], fun j _ => by rw [f5 _ (by omega)], fun j _ => by rw [f5 _ (by omega)], fun j _ => by rw [f5 _ (by omega), f5 _ (by omega)]; exact ⟨rfl, rfl⟩⟩) hl (fun _ _ _ _ => rfl) a6
theorem rCn.fd (h : rCn S m γ C nc Bn Kn Wn) (f : fdS m S V) (hI : ∀ F, F = 76 ∨ (86 ≤ F ∧ F ≤ 88) → V.I F m = S.I F m) : rCn V m γ C nc Bn Kn Wn := by
  obtain ⟨⟨i1, i2, i3, i4⟩, h1, h2⟩ := h
  obtain ⟨f1, f2, f3, f4, f5, f6⟩ := f
  exact ⟨⟨(hI 76 (by omega)).trans i1, (hI 86 (by omega)).trans i2, (hI 87 (by omega)).trans i3, (hI 88 (by omega)).trans i4⟩, fun c hc => (h1 c hc).next (fun o _ _ => by rw [f5 _ (by omega)]) (fun _ _ => by rw [f5 _ (by omega)]) (fun _ _ => by rw [f5 _ (by omega)]) (fun _ _ => by rw [f4]) (fun _ _ => rfl) (Nat.le_refl _) (Nat.le_refl _) (Nat.le_refl _), fun i hi => by rw [f5 9 (by omega)]; exact h2 i hi⟩
end OU
