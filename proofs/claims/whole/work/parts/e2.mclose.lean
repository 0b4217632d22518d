/-! the reference reads: a code's constants are put down -/
def clI (F : Nat) : Prop := F ≠ 70 ∧ ¬ (87 ≤ F ∧ F ≤ 88) ∧ F ≠ 120 ∧ ¬ (122 ≤ F ∧ F ≤ 124) ∧ F ≠ 132
def clR (m a : Nat) : Prop := ¬ (m + 9 ≤ a ∧ a ≤ m + 12) ∧ a ≠ m + 14 ∧ a ≠ m + 35
/-- what closing leaves alone -/
def clF (m c Kn Wn L : Nat) (S U : ox_St) : Prop := U.K = S.K ∧ U.len = S.len ∧ U.n = S.n ∧ U.R = S.R ∧ U.J = S.J ∧ U.rR = S.rR ∧ (∀ F a, a ≠ m ∨ clI F → U.I F a = S.I F a) ∧ (∀ a, clR m a → U.rI a = S.rI a) ∧ (∀ o z, 9 ≤ o → o ≤ 12 → z ≠ c → U.rI (m + o) z = S.rI (m + o) z) ∧ (∀ z, z < Kn → U.rI (m + 14) z = S.rI (m + 14) z) ∧ (∀ z, z < L → U.rI (m + 35) z = S.rI (m + 35) z) ∧ (∀ a, a ≠ m + 15 → U.rJ a = S.rJ a) ∧ ∀ z, z < Wn → U.rJ (m + 15) z = S.rJ (m + 15) z
section CL
variable {sp : ox_E} {d mr sr : Nat} {S U V : ox_St} {Q : ox_Q} {m ce e c Kn Wn L : Nat} {b : Nat → Nat} {s : oTS}
theorem clF.refl : clF m c Kn Wn L S S := ⟨rfl, rfl, rfl, rfl, rfl, rfl, fun _ _ _ => rfl, fun _ _ => rfl, fun _ _ _ _ _ => rfl, fun _ _ => rfl, fun _ _ => rfl, fun _ _ => rfl, fun _ _ => rfl⟩
theorem clF.sI {F : Nat} {w : Int32} (h : clF m c Kn Wn L S U) (hF : ¬ clI F) : clF m c Kn Wn L S (U.sI F m w) := by
  obtain ⟨h1, h2, h3, h4, h5, h6, h7, h8, h9, ha, hb, hc, hd⟩ := h
  refine ⟨(or_sI_K _ _ _ _).trans h1, (or_sI_len _ _ _ _).trans h2, (or_sI_n _ _ _ _).trans h3, (or_sI_R _ _ _ _).trans h4, (or_sI_J _ _ _ _).trans h5, (or_sI_rR _ _ _ _).trans h6, fun G a z => ?_, ?_, ?_, ?_, ?_, ?_, ?_⟩
  · rw [or_sI_I, if_neg (fun y => z.elim (fun w => w y.2) (fun w => hF (by rw [← y.1]; exact w)))]; exact h7 G a z
  · rw [or_sI_rI]; exact h8
  · rw [or_sI_rI]; exact h9
  · rw [or_sI_rI]; exact ha
  · rw [or_sI_rI]; exact hb
  · rw [or_sI_rJ]; exact hc
  · rw [or_sI_rJ]; exact hd
theorem clF.wI {o i : Nat} {w : Int32} (h : clF m c Kn Wn L S U) (ho : (9 ≤ o ∧ o ≤ 12 ∧ i = c) ∨ (o = 14 ∧ Kn ≤ i) ∨ (o = 35 ∧ L ≤ i)) : clF m c Kn Wn L S (U.wI (m + o) i w) := by
  obtain ⟨h1, h2, h3, h4, h5, h6, h7, h8, h9, ha, hb, hc, hd⟩ := h
  refine ⟨(or_wI_K _ _ _ _).trans h1, (or_wI_len _ _ _ _).trans h2, (or_wI_n _ _ _ _).trans h3, (or_wI_R _ _ _ _).trans h4, (or_wI_J _ _ _ _).trans h5, (or_wI_rR _ _ _ _).trans h6, fun G a z => by rw [or_wI_I]; exact h7 G a z, fun a z => funext fun j => ?_, fun p z z1 z2 z3 => ?_, fun z y => ?_, fun z y => ?_, ?_, ?_⟩
  · rw [or_wI_rI, if_neg (fun y => by have := y.1; unfold clR at z; omega)]; exact congrFun (h8 a z) j
  · rw [or_wI_rI, if_neg (fun y => by have := y.1; have := y.2; omega)]; exact h9 p z z1 z2 z3
  · rw [or_wI_rI, if_neg (fun y => by have := y.1; have := y.2; omega)]; exact ha z y
  · rw [or_wI_rI, if_neg (fun y => by have := y.1; have := y.2; omega)]; exact hb z y
  · rw [or_wI_rJ]; exact hc
  · rw [or_wI_rJ]; exact hd
theorem clF.nm (h : clF m c Kn Wn L S U) (g : nmF m c Wn U V) : clF m c Kn Wn L S V := by
  obtain ⟨h1, h2, h3, h4, h5, h6, h7, h8, h9, ha, hb, hc, hd⟩ := h
  obtain ⟨g1, g2, g3, g4, g5, g6, g7, g8, g9, g10, g11⟩ := g
  exact ⟨g1.trans h1, g2.trans h2, g3.trans h3, g4.trans h4, g5.trans h5, g6.trans h6, fun F a z => (g7 F a (z.imp id (fun y => by unfold clI at y; omega))).trans (h7 F a z), fun a z => (g8 a (by unfold clR at z; omega) (by unfold clR at z; omega)).trans (h8 a z), fun o z z1 z2 z3 => (g9 _ z z3).trans (h9 o z z1 z2 z3), fun z y => by rw [g8 _ (by omega) (by omega)]; exact ha z y, fun z y => by rw [g8 _ (by omega) (by omega)]; exact hb z y, fun a z => (g10 a z).trans (hc a z), fun z y => (g11 z y).trans (hd z y)⟩
theorem clF.kR {q : Nat × Nat × Nat × Nat × Nat} (hce : ce = 2 ∨ ce = 3) (h : clF m c Kn Wn L S U) (hc : q.1 ≤ c) (hK : q.2.2.1 ≤ Kn) (hW : q.2.2.2.1 ≤ Wn) : kR S U m ce q := by
  obtain ⟨h1, h2, h3, h4, h5, h6, h7, h8, h9, ha, hb, hc', hd⟩ := h
  refine ⟨h1, h2, h3, h4, h5, h6, fun F a z => h7 F a (z.imp id (fun y => by unfold kRf at y; unfold clI; omega)), fun a z => h8 a (by unfold kRr at z; unfold clR; omega), fun o z z1 z2 z3 => ?_, fun z _ => by rw [h8 _ (by unfold clR; omega)], fun z y => ha z (by omega), fun z _ => by rw [h8 _ (by unfold clR; omega)], hc', fun z y => hd z (by omega)⟩
  by_cases w : 9 ≤ o
  · exact h9 o z w z2 (by omega)
  · rw [h8 _ (by unfold clR; omega)]
theorem mtS.cl (h : mtS S m ce b e s) (g : clF m c Kn Wn L S U) (h0 : U.I 70 m = S.I 70 m) (h1 : U.I 120 m = S.I 120 m) (h2 : U.I 132 m = S.I 132 m) : mtS U m ce b e s := by
  obtain ⟨a1, a2, a3, a4, a5, a6⟩ := h
  refine ⟨a1.next g.1 g.2.1 (fun F => by rw [g.2.2.2.1]), (g.2.2.2.2.2.2.1 121 m (Or.inr (by unfold clI; omega))).trans a2, a3, fun z => by rw [h1, h2, h0]; exact a4 z, fun v hv => by rw [h2, h0]; exact a5 v hv, fun i hi => ?_⟩
  rw [g.2.2.2.2.2.2.2.1 (m + 1) (by unfold clR; omega)]
  exact a6 i hi
theorem s_159_81 {E : ox_E} (hE : ox_mono E) {n p : Nat} (hML : oML U m ce) (hp : p + n ≤ 900) (hK : Kn + n ≤ 2100) (hQ : ∀ V mr sr, clF m c Kn Wn L U V → (∀ F, F ≠ 87 → V.I F m = U.I F m) → (∀ o, o ≠ 14 → V.rI (m + o) = U.rI (m + o)) → V.rJ = U.rJ → V.I 87 m = nI (Kn + n) → (∀ j, j < n → V.rI (m + 14) (Kn + j) = U.rI (m + 34) (p + j)) → E 156 [.inr (.inr m), .inl (nI c)] 0 0 V (k_159_126 E m (nI p) (nI n) (nI c) (nI n) mr sr Q)) : ∀ (r i mr sr : Nat) (V : ox_St), i + r = n → clF m c Kn Wn L U V → (∀ F, F ≠ 87 → V.I F m = U.I F m) → (∀ o, o ≠ 14 → V.rI (m + o) = U.rI (m + o)) → V.rJ = U.rJ → V.I 87 m = nI (Kn + i) → (∀ j, j < i → V.rI (m + 14) (Kn + j) = U.rI (m + 34) (p + j)) → c_159_81 E m (nI p) (nI n) (nI c) (nI i) V mr sr Q := by
  intro r
  induction r with
  | zero =>
    intro i mr sr V hi g1 g2 g3 g4 g5 g6
    have hi' : i = n := hi
    subst hi'
    exact f_159_81 hE ⟨fun _ => ⟨by decide, by rw [g1.1]; exact hML.1, by decide, 0, 0, Nat.zero_le _, Nat.zero_le _, hQ V (mr - 0) (sr - 0) g1 g2 g3 g4 g5 g6⟩, fun z => absurd (nI_le (Nat.le_refl _) (by omega)) z⟩
  | succ r ih =>
    intro i mr sr V hi g1 g2 g3 g4 g5 g6
    have ml : oML V m ce := hML.next g1.1 g1.2.1 (fun F => by rw [g1.2.2.2.1])
    obtain ⟨a1, a2, a3⟩ := ml.row (F := 90) (o := 14) (k := 15) (n := 2100) (by decide +kernel)
    obtain ⟨b1, b2, b3⟩ := ml.row (F := 130) (o := 34) (k := 15) (n := 900) (by decide +kernel)
    refine f_159_81 hE ⟨fun z => absurd z (nI_ge (by omega) (by omega)), fun _ => ?_⟩
    rw [ml.1, a1, a2, a3, b1, b2, b3, g5, nI_add, nI_clamp (n := Kn + i) (by omega), nI_clamp (n := p + i) (by omega), g3 34 (by decide)]
    refine ⟨rfl, rfl, rfl, rfl, vp_in_nI (by omega) (by decide), rfl, vp_in_nI (by omega) (by decide), ?_⟩
    have f1 : clF m c Kn Wn L U (V.wI (m + 14) (Kn + i) (U.rI (m + 34) (p + i))) := g1.wI (Or.inr (Or.inl ⟨rfl, by omega⟩))
    have hI : (V.wI (m + 14) (Kn + i) (U.rI (m + 34) (p + i))).I = V.I := or_wI_I _ _ _ _
    have hJ : (V.wI (m + 14) (Kn + i) (U.rI (m + 34) (p + i))).rJ = V.rJ := or_wI_rJ _ _ _ _
    have hr : ∀ a z, (V.wI (m + 14) (Kn + i) (U.rI (m + 34) (p + i))).rI a z = if a = m + 14 ∧ z = Kn + i then U.rI (m + 34) (p + i) else V.rI a z := fun a z => or_wI_rI _ _ _ _ _ _
    intro V1
    have ev : V1 = V.wI (m + 14) (Kn + i) (U.rI (m + 34) (p + i)) := rfl
    clear_value V1
    rw [← ev] at f1 hI hJ hr
    clear ev
    have ml1 : oML V1 m ce := hML.next f1.1 f1.2.1 (fun F => by rw [f1.2.2.2.1])
    rw [ml1.1, hI, g5, nI_1, nI_1]
    refine ⟨rfl, rfl, ?_⟩
    refine ih (i + 1) mr sr _ (by omega) (f1.sI (by unfold clI; omega)) (fun F hF => ?_) (fun o ho => ?_) ?_ ?_ (fun j hj => ?_)
    · rw [or_sI_I, if_neg (fun y => hF y.1), hI]; exact g2 F hF
    · rw [or_sI_rI, ← g3 o ho]
      funext z
      rw [hr, if_neg (fun y => by have := y.1; omega)]
    · rw [or_sI_rJ, hJ]; exact g4
    · rw [or_sI_I, if_pos ⟨rfl, rfl⟩]; exact congrArg nI (by omega)
    · rw [or_sI_rI, hr]
      by_cases z : j = i
      · rw [if_pos ⟨rfl, by rw [z]⟩, z]
      · rw [if_neg (fun y => by have := y.2; omega)]; exact g6 j (by omega)
end CL
