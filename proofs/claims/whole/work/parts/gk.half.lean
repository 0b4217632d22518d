/-! both sides at once: what one does, the other doesn't see -/
section GK
variable {S S' : ox_St} {m ce nc y T e Bn Kn Wn : Nat} {γ : Int → Nat} {B : List Int} {C C' : Nat → xCd} {s : xSt} {b : Nat → Nat}
theorem mTb_le : ∀ q ∈ mTb, q.2.1 ≤ 41 := by decide
theorem oML.ag (h : oML S m ce) (ag : oAg (fun a => m ≤ a ∧ a ≤ m + 41) S S') : oML S' m ce := by
  obtain ⟨h1, h2, h3, h4, h5⟩ := h
  have a0 := ag m ⟨Nat.le_refl _, by omega⟩
  refine ⟨a0.1.trans h1, fun q hq => ?_, h3, ⟨(a0.2.2.2.1 _).trans h4.1, (a0.2.2.2.1 _).trans h4.2⟩, fun c hc => ?_⟩
  · have := mTb_le q hq
    have a1 := ag (m + q.2.1) ⟨by omega, by omega⟩
    rw [a0.2.2.2.1, a1.1, a1.2.1]
    exact h2 q hq
  · have a1 := ag (m + c) ⟨by omega, by omega⟩
    rw [a1.1, a1.2.1]
    exact h5 c hc
theorem rR.ag (h : rR S m ce γ B T C nc y s) (hl : ∀ g ∈ s.f, g.2.2.1.length ≤ 10 ∧ g.2.2.2.2.length ≤ 4) (ag : oAg (fun a => m ≤ a ∧ a ≤ m + 41) S S') : rR S' m ce γ B T C nc y s := by
  obtain ⟨a1, ⟨a2, a3⟩, ⟨a4, a5⟩, a6, a7, ⟨b1, b2, b3, b4, b5⟩, c1, c2, c3⟩ := h
  have hce := a1.2.2.1
  obtain ⟨-, -, i, -, -⟩ := ag m ⟨Nat.le_refl _, by omega⟩
  have f5 : ∀ o, o ≤ 41 → S'.rI (m + o) = S.rI (m + o) := fun o ho => funext (ag (m + o) ⟨by omega, by omega⟩).2.2.2.2.2.1
  have j5 : ∀ o, o ≤ 41 → S'.rJ (m + o) = S.rJ (m + o) := fun o ho => funext (ag (m + o) ⟨by omega, by omega⟩).2.2.2.2.2.2.2
  refine ⟨a1.ag ag, ⟨a2.next (fun j _ => by rw [f5 _ (by omega)]), (i 75).trans a3⟩, ⟨a4, fun c hc => (a5 c hc).next (fun a z1 z2 => ?_) (j5 15 (by omega)) (fun _ _ => rfl)⟩, ?_, a7.next (i 106) (j5 24 (by omega)) (f5 25 (by omega)) (fun _ _ => rfl), ⟨(i 92).trans b1, (i 93).trans b2, (i 94).trans b3, (i 95).trans b4, (i 97).trans b5⟩, c1, c2, c3⟩
  · have := f5 (a - m) (by omega)
    rw [show m + (a - m) = a by omega] at this
    exact this
  · exact rFs.next _ (fun f _ => ⟨fun o z1 z2 => by rw [f5 _ (by omega)], fun j _ => by rw [f5 _ (by omega)], fun j _ => by rw [f5 _ (by omega)], fun j _ => by rw [f5 _ (by omega), f5 _ (by omega)]; exact ⟨rfl, rfl⟩⟩) hl (fun _ _ _ _ => rfl) a6
/-- the codes and counters stay -/
theorem rCn.fx (h : rCn S m γ C nc Bn Kn Wn) (hI : ∀ F, F = 76 ∨ (86 ≤ F ∧ F ≤ 88) → S'.I F m = S.I F m) (f5 : ∀ o, 4 ≤ o → o ≤ 14 → S'.rI (m + o) = S.rI (m + o)) (j5 : S'.rJ (m + 15) = S.rJ (m + 15)) : rCn S' m γ C nc Bn Kn Wn := by
  obtain ⟨⟨i1, i2, i3, i4⟩, h1, h2⟩ := h
  exact ⟨⟨(hI 76 (by omega)).trans i1, (hI 86 (by omega)).trans i2, (hI 87 (by omega)).trans i3, (hI 88 (by omega)).trans i4⟩, fun c hc => (h1 c hc).next (fun o _ _ => by rw [f5 _ (by omega) (by omega)]) (fun _ _ => by rw [f5 _ (by omega) (by omega)]) (fun _ _ => by rw [f5 _ (by omega) (by omega)]) (fun _ _ => by rw [j5]) (fun _ _ => rfl) (Nat.le_refl _) (Nat.le_refl _) (Nat.le_refl _), fun i hi => by rw [f5 9 (by omega) (by omega)]; exact h2 i hi⟩
/-- other codes behind those that are there -/
def cEq (nc : Nat) (C C' : Nat → xCd) : Prop := ∀ i, i < nc → C' i = C i
theorem rCd.cq {c : Nat} (h : rCd S m γ C c) (hc : C' c = C c) : rCd S' m γ C' c → rCd S' m γ C' c := id
theorem xGIn.cq {A : List Int} {G : List (Nat × Int)} (h : xGIn C nc A G) (q : cEq nc C C') : xGIn C' nc A G := ⟨fun c hc v hv => h.1 c hc v (by rw [← q c hc]; exact hv), h.2⟩
theorem rR.cq (h : rR S m ce γ B T C nc y s) (q : cEq nc C C') : rR S m ce γ B T C' nc y s := by
  obtain ⟨a1, a2, ⟨a4, a5⟩, a6, a7, b, c1, c2, c3⟩ := h
  refine ⟨a1, a2, ⟨a4, fun c hc => ?_⟩, a6, a7, b, c1.cq q, c2, c3⟩
  have := a5 c hc
  unfold rCd at this ⊢
  rw [q c hc]
  exact this
theorem rCn.cq (h : rCn S m γ C nc Bn Kn Wn) (q : cEq nc C C') : rCn S m γ C' nc Bn Kn Wn := by
  obtain ⟨h0, h1, h2⟩ := h
  refine ⟨h0, fun c hc => ?_, fun i hi => ?_⟩
  · have := h1 c hc
    unfold rCw at this ⊢
    rw [q c hc]
    exact this
  · obtain ⟨c, c1, k, k1, k2, k3⟩ := h2 i hi
    exact ⟨c, c1, k, k1, k2, by rw [q c c1]; exact k3⟩
theorem xPot.cq {P : Nat} {H : xHp} {G : List (Nat × Int)} {fs : List xFr} {r : Int} (h : xPot C nc P H G fs r) (q : cEq nc C C') : xPot C' nc P H G fs r := by
  obtain ⟨A, c, h1, h2, h3⟩ := h
  exact ⟨A, c, h1, h2.cq q, h3⟩
theorem xFOk.cq {H : xHp} {x : Nat} {f : xFr} (h : xFOk C nc H x f) (q : cEq nc C C') : xFOk C' nc H x f := by
  unfold xFOk at h ⊢
  rw [q f.1 h.1]
  exact h
theorem xWf.cq {K : Nat} (h : xWf C nc K s) (q : cEq nc C C') : xWf C' nc K s := by
  obtain ⟨w1, w2, w3, w4, w5⟩ := h
  refine ⟨w1, fun c hc => by rw [q c hc]; exact w2 c hc, w3, ⟨w4.1, ?_⟩, w5⟩
  have w4' := w4.2
  cases e : s.f with
  | nil => trivial
  | cons f t =>
    rw [e] at w4'
    exact ⟨w4'.1.cq q, fun g hg => (w4'.2 g hg).cq q⟩
/-- the reference's half -/
def wM (S : ox_St) (m ce : Nat) (γ : Int → Nat) (B : List Int) (T : Nat) (C : Nat → xCd) (nc y : Nat) (s : xSt) (e : Nat) (b : Nat → Nat) (Bn Kn Wn : Nat) : Prop := rR S m ce γ B T C nc y s ∧ rCn S m γ C nc Bn Kn Wn ∧ S.I 72 m = nI e ∧ ∀ i, i < e → S.rI (m + 1) i = nI (b i)
theorem wM.ag (h : wM S m ce γ B T C nc y s e b Bn Kn Wn) (hl : ∀ g ∈ s.f, g.2.2.1.length ≤ 10 ∧ g.2.2.2.2.length ≤ 4) (ag : oAg (fun a => m ≤ a ∧ a ≤ m + 41) S S') : wM S' m ce γ B T C nc y s e b Bn Kn Wn := by
  obtain ⟨h1, h2, h3, h4⟩ := h
  obtain ⟨-, -, i, -, -⟩ := ag m ⟨Nat.le_refl _, by omega⟩
  have f5 : ∀ o, o ≤ 41 → S'.rI (m + o) = S.rI (m + o) := fun o ho => funext (ag (m + o) ⟨by omega, by omega⟩).2.2.2.2.2.1
  exact ⟨h1.ag hl ag, h2.fx (fun F _ => i F) (fun o _ _ => f5 o (by omega)) (funext (ag (m + 15) ⟨by omega, by omega⟩).2.2.2.2.2.2.2), (i 72).trans h3, fun j hj => by rw [f5 1 (by omega)]; exact h4 j hj⟩
theorem wM.s69 (h : wM S m ce γ B T C nc y s e b Bn Kn Wn) (hl : ∀ g ∈ s.f, g.2.2.1.length ≤ 10 ∧ g.2.2.2.2.length ≤ 4) {v : Int32} : wM (S.sI 69 m v) m ce γ B T C nc y s e b Bn Kn Wn := by
  obtain ⟨h1, h2, h3, h4⟩ := h
  exact ⟨h1.s69 hl, h2.fx (fun F hF => by rw [or_sI_I, if_neg (fun z => by have := z.1; omega)]) (fun _ _ _ => rfl) rfl, by rw [or_sI_I, if_neg (fun z => by cases z.1)]; exact h3, h4⟩
theorem wM.w41 (h : wM S m ce γ B T C nc y s e b Bn Kn Wn) (hl : ∀ g ∈ s.f, g.2.2.1.length ≤ 10 ∧ g.2.2.2.2.length ≤ 4) (g : w41 m S S') : wM S' m ce γ B T C nc y s e b Bn Kn Wn := by
  obtain ⟨h1, h2, h3, h4⟩ := h
  obtain ⟨g1, g2, g3, g4, g5, g6, g7, g8, g9⟩ := id g
  exact ⟨h1.w41 hl g, h2.fx (fun F _ => by rw [g8]) (fun o _ _ => g9 _ (by omega)) (by rw [g7]), by rw [g8]; exact h3, fun i hi => by rw [g9 (m + 1) (by omega)]; exact h4 i hi⟩
theorem xWf.len {K : Nat} (h : xWf C nc K s) : ∀ g ∈ s.f, g.2.2.1.length ≤ 10 ∧ g.2.2.2.2.length ≤ 4 := h.fl
end GK
