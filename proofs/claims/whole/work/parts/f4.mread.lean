/-! the reference reads: before and behind it -/
/-- the codes and what counts them -/
def rCn (S : ox_St) (m : Nat) (γ : Int → Nat) (C : Nat → xCd) (nc Bn Kn Wn : Nat) : Prop := (S.I 76 m = nI nc ∧ S.I 86 m = nI Bn ∧ S.I 87 m = nI Kn ∧ S.I 88 m = nI Wn) ∧ (∀ c, c < nc → rCw S m γ C c Bn Kn Wn) ∧ ∀ i, i < Kn → ∃ c, c < nc ∧ ∃ k, S.rI (m + 9) c = nI k ∧ k ≤ i ∧ i < k + (C c).2.1.length
section RB
variable {S S' V : ox_St} {m ce K : Nat} {γ γ' : Int → Nat} {B B' : List Int} {T T' : Nat} {C C' : Nat → xCd} {nc nc' y Bn Kn Wn : Nat} {s : xSt} {H : xHp} {n : Int}
theorem rCw.cd {c : Nat} (h : rCw S m γ C c Bn Kn Wn) (hK : Kn ≤ 2100) (hW : Wn ≤ 2100) : rCd S m γ C c := by
  obtain ⟨g, k, w, a1, -, ⟨a3, a4, a5⟩, a6, a7, a8⟩ := h
  exact ⟨g, k, w, a1, ⟨a3, by omega, a5⟩, a6, by omega, a8⟩
theorem rCn.kc (h : rCn S m γ C nc Bn Kn Wn) (hK : Kn ≤ 2100) : rKc S m C nc := ⟨Kn, h.1.2.2.1, hK, h.2.2, fun c hc => by
  obtain ⟨g, k, w, -, -, ⟨a3, a4, -⟩, -⟩ := h.2.1 c hc
  exact ⟨k, a3, a4⟩⟩
/-- counters and rows stay, the codes are there -/
theorem rCn.of (h : rCn S m γ C nc Bn Kn Wn) (hI : ∀ F, F = 76 ∨ (86 ≤ F ∧ F ≤ 88) → S'.I F m = S.I F m) (hr : ∀ p, p = 7 ∨ p = 9 ∨ p = 11 → ∀ c, c < nc → S'.rI (m + p) c = S.rI (m + p) c) (hc : ∀ c, c < nc → rCd S' m γ' C c) (hB : Bn ≤ 2100) (hK : Kn ≤ 2100) (hW : Wn ≤ 2100) : rCn S' m γ' C nc Bn Kn Wn := by
  obtain ⟨⟨i1, i2, i3, i4⟩, h1, h2⟩ := h
  refine ⟨⟨(hI 76 (by omega)).trans i1, (hI 86 (by omega)).trans i2, (hI 87 (by omega)).trans i3, (hI 88 (by omega)).trans i4⟩, fun c hc' => ?_, fun i hi => ?_⟩
  · obtain ⟨g, k, w, a1, a2, ⟨a3, a4, a5⟩, a6, a7, a8⟩ := h1 c hc'
    obtain ⟨g', k', w', b1, ⟨b3, b4, b5⟩, b6, b7, b8⟩ := hc c hc'
    have e7 : nI g' = nI g := b1.2.1.1.symm.trans ((hr 7 (by omega) c hc').trans a1.2.1.1)
    have e9 : nI k' = nI k := b3.symm.trans ((hr 9 (by omega) c hc').trans a3)
    have e11 : nI w' = nI w := b6.symm.trans ((hr 11 (by omega) c hc').trans a6)
    have l1 := b1.2.2.2.1
    have l2 := a1.2.2.2.1
    have g1 : g' = g := (nI_eq (by omega) (by omega)).mp e7
    have g2 : k' = k := (nI_eq (by omega) (by omega)).mp e9
    have g3 : w' = w := (nI_eq (by omega) (by omega)).mp e11
    subst g1 g2 g3
    exact ⟨g', k', w', b1, a2, ⟨b3, a4, b5⟩, b6, a7, b8⟩
  · obtain ⟨c, c1, k, k1, k2⟩ := h2 i hi
    exact ⟨c, c1, k, (hr 9 (by omega) c c1).trans k1, k2⟩
theorem rHp.up {a : Nat} (h : rHp S a γ B H T) (h1 : T ≤ T') (h2 : T' ≤ 1100000) : rHp S a γ B H T' := ⟨h.1, fun v hv o e => by
  obtain ⟨a1, a2, a3⟩ := h.2.1 v hv o e
  exact ⟨a1, a2, by omega⟩, h.2.2.1, by have := h.2.2.2.1; omega, h2⟩
theorem rR.mv {q : Nat × Nat × Nat × Nat × Nat} (h : rR S m ce γ B T C nc y s) (kr : kR S V m ce q) (hl : ∀ g ∈ s.f, g.2.2.1.length ≤ 10 ∧ g.2.2.2.2.length ≤ 4) (hp : rHp V (m + ce) γ' B' H T') (i75 : V.I 75 m = nI T') (hn : nc' ≤ 300) (hc : ∀ c, c < nc' → rCd V m γ' C' c) (hk : ∀ c, c < nc' → ∀ v ∈ (C' c).2.1, xIn B' v) (hg : ∀ v, xIn B v → gV γ' v = gV γ v ∧ xIn B' v) : rR V m ce γ' B' T' C' nc' y (H, n, s.G, s.f, s.s, s.k, s.r) := by
  obtain ⟨a1, a2, -, a6, a7, ⟨b1, b2, b3, b4, b5⟩, c1, c2, c3⟩ := h
  obtain ⟨k1, k2, k3, k4, k5, k6, k7, k8, k9, k10, k11, k12, k13, k14⟩ := kr
  have eI : ∀ F, (92 ≤ F ∧ F ≤ 97) ∨ F = 106 → V.I F m = S.I F m := fun F hF => k7 F m (Or.inr (by unfold kRf; omega))
  have hce := a1.2.2.1
  have er : ∀ o, 16 ≤ o → o ≤ 25 → V.rI (m + o) = S.rI (m + o) := fun o z1 z2 => k8 _ (by unfold kRr; omega)
  refine ⟨a1.next k1 k2 (fun F => by rw [k4]), ⟨hp, i75⟩, ⟨hn, hc⟩, ?_, ?_, ⟨(eI 92 (by omega)).trans b1, (eI 93 (by omega)).trans b2, (eI 94 (by omega)).trans b3, (eI 95 (by omega)).trans b4, ((eI 97 (by omega)).trans b5).trans (hg _ c2).1.symm⟩, ⟨hk, fun g hg' => (hg _ (c1.2 g hg')).2⟩, (hg _ c2).2, fun g hg' => ⟨fun v hv => (hg v ((c3 g hg').1 v hv)).2, fun i v hv => (hg v ((c3 g hg').2 i v hv)).2⟩⟩
  · refine rFs.next _ (fun f _ => ⟨fun o z1 z2 => by rw [er _ (by omega) (by omega)], fun j _ => by rw [er _ (by omega) (by omega)], fun j _ => by rw [er _ (by omega) (by omega)], fun j _ => by rw [er _ (by omega) (by omega), er _ (by omega) (by omega)]; exact ⟨rfl, rfl⟩⟩) hl (fun g hg' u hu => (hg u ?_).1) a6
    obtain ⟨w1, w2⟩ := c3 g hg'
    rcases hu with z | ⟨i, z⟩
    · exact w1 u z
    · exact w2 i u z
  · exact a7.next (eI 106 (by omega)) (k13 _ (by omega)) (er 25 (by omega) (by omega)) (fun g hg' => (hg _ (c1.2 g hg')).1)
end RB
section RB2
variable {i : rFi} {V : ox_St} {t : oTS} {γ : Int → Nat} {B : List Int} {T T0 : Nat} {h : pH} {C : Nat → xCd} {nc y Bn Kn Wn n v : Nat} {s : xSt}
/-- all of the tape was read -/
theorem rG.fin (hb : rR i.S i.m i.ce i.γ i.B T0 C nc y s) (hn : rCn i.S i.m i.γ C nc i.q.2.1 i.q.2.2.1 i.q.2.2.2.1) (eq1 : i.q.1 = nc) (hl : ∀ g ∈ s.f, g.2.2.1.length ≤ 10 ∧ g.2.2.2.2.length ≤ 4) (lm : rLm i.q i.e) (ht : t.1 ≤ i.e) (g : rG i V t γ B T h [] Bn Kn Wn n) (hC : ∀ c, c < nc → h.C c = C c) : rR V i.m i.ce γ B T h.C h.c y (h.H, h.n, s.G, s.f, s.s, s.k, s.r) ∧ rCn V i.m γ h.C h.c Bn Kn Wn ∧ h.c ≤ 300 ∧ Bn ≤ 2100 ∧ Kn ≤ 2100 ∧ Wn ≤ 2100 := by
  obtain ⟨g1, g2, ⟨g3, g3a, g3b⟩, -, ⟨⟨g5a, g5b, g5c, g5d⟩, g5e, -, -⟩, -, ⟨g7a, -, g7d, g7b⟩, g8, ⟨⟨x1, x2⟩, ⟨x3, x4⟩, ⟨x5, x6⟩, ⟨x7, x8⟩, ⟨x9, x10⟩, x11⟩⟩ := g
  obtain ⟨y1, y2, y3, y4, y5⟩ := lm
  have lK : Kn ≤ 2100 := by omega
  have lW : Wn ≤ 2100 := by omega
  have done : ∀ c, c < h.c → rCw V i.m γ h.C c Bn Kn Wn ∧ ∀ v ∈ (h.C c).2.1, xIn B v := fun c hc => g5e c hc (fun r hr => by cases hr)
  refine ⟨hb.mv g2 hl g3 g3a (by omega) (fun c hc => (done c hc).1.cd lK lW) (fun c hc => (done c hc).2) g8, ⟨⟨g5a, g5b, g5c, g5d⟩, fun c hc => (done c hc).1, fun j hj => ?_⟩, by omega, by omega, lK, lW⟩
  by_cases w : j < i.q.2.2.1
  · obtain ⟨c, c1, k, k1, k2, k3⟩ := hn.2.2 j w
    exact ⟨c, by omega, k, by rw [g2.2.2.2.2.2.2.2.2.1 9 c (by omega) (by omega) (by omega)]; exact k1, k2, by rw [hC c c1]; exact k3⟩
  · obtain ⟨c, c1, k, k1, k2, k3⟩ := g7b j (by omega) hj
    exact ⟨c, (g7a c c1).1, k, k1, k2, k3⟩
/-- a fault: what there was is there -/
theorem rF.fin {q : Nat × Nat × Nat × Nat × Nat} (hb : rR i.S i.m i.ce i.γ i.B T0 C nc y s) (hn : rCn i.S i.m i.γ C nc i.q.2.1 i.q.2.2.1 i.q.2.2.2.1) (eq1 : i.q.1 = nc) (eq5 : i.q.2.2.2.2 = T0) (hl : ∀ g ∈ s.f, g.2.2.1.length ≤ 10 ∧ g.2.2.2.2.length ≤ 4) (lm : rLm i.q i.e) (kr : kR i.S V i.m i.ce i.q) (i75 : V.I 75 i.m = nI T) (h1 : T0 ≤ T) (h2 : T ≤ 1100000) : rR V i.m i.ce i.γ i.B T C nc y (s.H, s.n, s.G, s.f, s.s, s.k, s.r) ∧ (∀ c, c < nc → rCw V i.m i.γ C c i.q.2.1 i.q.2.2.1 i.q.2.2.2.1) ∧ ∀ j, j < i.q.2.2.1 → ∃ c, c < nc ∧ ∃ k, V.rI (i.m + 9) c = nI k ∧ k ≤ j ∧ j < k + (C c).2.1.length := by
  obtain ⟨y1, y2, y3, y4, y5⟩ := lm
  have cw : ∀ c, c < nc → rCw V i.m i.γ C c i.q.2.1 i.q.2.2.1 i.q.2.2.2.1 := fun c hc => (hn.2.1 c hc).next (fun o z1 z2 => kr.2.2.2.2.2.2.2.2.1 o c z1 z2 (by omega)) kr.2.2.2.2.2.2.2.2.2.1 kr.2.2.2.2.2.2.2.2.2.2.1 kr.2.2.2.2.2.2.2.2.2.2.2.2.2 (fun _ _ => rfl) (Nat.le_refl _) (Nat.le_refl _) (Nat.le_refl _)
  have hp := hb.2.1.1
  have hp' : rHp V (i.m + i.ce) i.γ i.B s.H T0 := hp.next (fun j hj => kr.2.2.2.2.2.2.2.2.2.2.2.1 j (by omega))
  refine ⟨hb.mv kr hl (hp'.up h1 h2) i75 hb.2.2.1.1 (fun c hc => (cw c hc).cd (by omega) (by omega)) hb.2.2.2.2.2.2.1.1 (fun v hv => ⟨rfl, hv⟩), cw, fun j hj => ?_⟩
  obtain ⟨c, c1, k, k1, k2, k3⟩ := hn.2.2 j hj
  exact ⟨c, c1, k, by rw [kr.2.2.2.2.2.2.2.2.1 9 c (by omega) (by omega) (by omega)]; exact k1, k2, k3⟩
end RB2
