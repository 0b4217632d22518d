/-! the reference reads: a code -/
section T1
variable {sp : ox_E} {d mr sr : Nat} {Q : ox_Q} {LH : ox_St → Prop} {i : rFi} {U V : ox_St} {s s' : oTS} {γ : Int → Nat} {B : List Int} {T : Nat} {h h' : pH} {O : List rRc} {Bn Kn Wn Bn' c ph k p : Nat} {its : List Int} {cd : Option Nat} {v : Int}
theorem rRC (hsp : ox_mono sp) (lm : rLm i.q i.e) (hk : k ≤ 4) (ro : rRO sp d i LH k) (g : rG i U (p + 1, none) γ B T h O Bn Kn Wn (rVp O).length) (rm : rRm i.q p T h.c Bn Kn Wn (rVp O).length O.length h.l.length) (hO : O.length + k + 1 = 5) (h4 : i.b p = 99) {x1 x2 : Int32} (hx : x2 = 99)
    (hF : ∀ v, (rdB i.b i.e (rdO i.b i.e k) p h).1.2 = some v → ∀ V, rF i V v → LH V)
    (hD : (rdB i.b i.e (rdO i.b i.e k) p h).1.2 = none → ∀ V γ' B' T' Bn' Kn' Wn', rG i V (rdB i.b i.e (rdO i.b i.e k) p h).1 γ' B' T' (rdB i.b i.e (rdO i.b i.e k) p h).2.1 O Bn' Kn' Wn' ((rVp O).length + 1) → xIn B' (rdB i.b i.e (rdO i.b i.e k) p h).2.2 → rWd sp d i LH (gV γ' (rdB i.b i.e (rdO i.b i.e k) p h).2.2) V)
    (hQ : ∀ V, LH V → Q none V) : ox_M sp (d + 6) 155 [.inr (.inr i.m)] 0 0 U (k_160_198 (ox_M sp (d + 6)) i.m x1 x2 mr sr Q) := by
  have hE : ox_mono (ox_M sp (d + 6)) := ox_M_mono hsp _
  have c23 := g.c23
  rw [rdB_99 h4] at hF hD
  unfold rdC at hF hD
  have hb : ∀ j, j < i.e → i.b j < 256 := fun j hj => (g.1.2.2.2.2.2 j hj).2
  have hH := g.2.2.1.2.2
  have T11 := g.2.2.1.1.2.2.2.2
  have pe : p + 1 ≤ i.e := (g.1.2.2.2.1 rfl).2.2.1
  obtain ⟨⟨x1', x2'⟩, ⟨x3, x4⟩, ⟨x5, x6⟩, ⟨x7, x8⟩, ⟨x9, x10⟩, x11⟩ := rm
  obtain ⟨y1, y2, y3, y4, y5⟩ := id lm
  have c3 : h.c < 300 := by omega
  refine s_155 hsp c3 g.1 g.2.2.2.2.1.1.1 g.2.2.2.2.1.1.2.1 (fun _ => by show Bn + i.e < 2100 + (p + 1); omega) (fun S1 f1 j76 m1 fa => f_160_198 hE ⟨by decide, m1.1.1, by decide, 0, 0, Nat.zero_le _, Nat.zero_le _, ?_⟩)
  refine s_151 (lo := 0) (hi := 12) hsp m1 (by decide) (by decide) (fun S2 r f2 m2 u1 u2 => f_160_208 hE ⟨by decide, m2.1.1, by decide, 0, 0, Nat.zero_le _, Nat.zero_le _, ?_⟩)
  have fI1 : ∀ F, F ≠ 70 ∧ F ≠ 76 ∧ F ≠ 86 ∧ F ≠ 120 ∧ F ≠ 132 → S1.I F i.m = U.I F i.m := fun F hF => f1.2.2.2.2.2.2.2.1 F i.m (Or.inr hF)
  have fI2 : ∀ F, F ≠ 70 ∧ F ≠ 120 ∧ F ≠ 132 → S2.I F i.m = S1.I F i.m := fun F hF => f2.2.2.2.2.2.2.2.2 F i.m (Or.inr hF)
  refine s_154 hsp m2.1 ((fI2 122 (by decide)).trans ((fI1 122 (by decide)).trans g.2.2.2.1.1.1)) (by omega) (f_160_212 hE ?_)
  show k_160_225 (ox_M sp (d + 6)) i.m x1 x2 mr sr Q none (opW S2 i.m O.length (vp_nar .boolean 0) r (nI h.c))
  have mW := opW_mt (g := O.length) (x1 := vp_nar .boolean 0) (x2 := r) (x3 := nI h.c) m2
  obtain ⟨kW, wI, wJ, wr, wz, w30, w31, w32, w33⟩ := opW_f (S := S2) (m := i.m) (g := O.length) (ce := i.ce) (x1 := vp_nar .boolean 0) (x2 := r) (x3 := nI h.c) (q := i.q) c23
  generalize opW S2 i.m O.length (vp_nar .boolean 0) r (nI h.c) = W at mW kW wI wJ wr wz w30 w31 w32 w33 ⊢
  have kUW : kR U W i.m i.ce i.q := ((kR.cd c23 f1 x1' x3).trans (kR.tk f2)).trans kW
  have W1 : ∀ F, F ≠ 70 ∧ F ≠ 120 ∧ F ≠ 122 ∧ F ≠ 132 → W.I F i.m = S1.I F i.m := fun F hF => ((wI F i.m).trans (if_neg (fun y => by omega))).trans (fI2 F (by omega))
  have WI : ∀ F, F ≠ 70 ∧ F ≠ 76 ∧ F ≠ 86 ∧ F ≠ 120 ∧ F ≠ 122 ∧ F ≠ 132 → W.I F i.m = U.I F i.m := fun F hF => (W1 F (by omega)).trans (fI1 F (by omega))
  have er : S2.rI = S1.rI := f2.2.2.2.2.2.2.2.1
  have wr1 : ∀ o, ¬ (30 ≤ o ∧ o ≤ 33) → W.rI (i.m + o) = S1.rI (i.m + o) := fun o ho => by rw [wr _ (by omega), er]
  have s1r : ∀ o, ¬ (4 ≤ o ∧ o ≤ 8) → o ≠ 13 → S1.rI (i.m + o) = U.rI (i.m + o) := fun o z1 z2 => f1.2.2.2.2.2.2.2.2.1 _ (by omega) (by omega)
  by_cases z : (bwS i.b i.e 0 12 (hdS i.b i.e (p + 1, none))).2 = none
  · rw [if_pos z] at hF hD
    obtain ⟨n1, n2, n3, -⟩ := bwS_none z
    obtain ⟨-, k2, k3, k4, k5, -⟩ := hdS_at n1 hb
    have ur : r = nI (i.b (hdS i.b i.e (p + 1, none)).1) := u1 z
    obtain ⟨q4, q5, q6, q7, q8, q86, q13⟩ := fa n1
    have k5' : 2 ≤ i.b (p + 1 + 3) := k5.1
    have k4' : inL i.b i.e (p + 1 + 3, none) = i.b (p + 1 + 3) := k4
    have e1 : (hdS i.b i.e (p + 1, none)).1 = p + 1 + 5 + inL i.b i.e (p + 1 + 3, none) := by rw [k2]
    rw [n3] at mW hF hD
    have G : rG i W ((hdS i.b i.e (p + 1, none)).1 + 1, none) γ B T h.bg ((i.b (hdS i.b i.e (p + 1, none)).1, [], some h.c, p + 1) :: O) (Bn + inL i.b i.e (p + 1 + 3, none)) Kn Wn (rVp O).length := by
      refine g.opn (by omega) kUW mW WI ((wI _ _).trans (if_pos ⟨rfl, rfl⟩)) ((W1 76 (by decide)).trans j76) ((W1 86 (by decide)).trans q86) (fun o z1 z2 z3 => by rw [wr1 _ z3, s1r _ z1 z2]) (fun o z z1 z2 z3 => by rw [wr1 _ (by omega)]; exact f1.2.2.2.2.2.2.2.2.2.1 _ z (by omega) (by omega) (by omega)) (fun z hz => by rw [wr1 _ (by omega)]; exact f1.2.2.2.2.2.2.2.2.2.2 z hz) (fun o j z1 z2 hj => by rw [wz _ _ (by omega), er, s1r _ (by omega) (by omega)]) (by rw [w30, if_neg (fun w => by cases w)]; rfl) (by rw [w31]; exact ur) (by rw [w32]; exact (fI2 123 (by decide)).trans (fI1 123 (by decide))) (fun c hc => by cases hc; exact w33) (wJ.trans (f2.2.2.2.2.2.2.1.trans f1.2.2.2.2.2.2.1)) (Nat.le_add_right _ _) (Or.inr ⟨rfl, rfl, n1, Bn, ⟨by rw [wr1 _ (by omega)]; exact q4, by rw [wr1 _ (by omega)]; exact q5, by rw [wr1 _ (by omega)]; exact q6, by rw [wr1 _ (by omega)]; exact q7, by rw [wr1 _ (by omega)]; exact q8⟩, fun j hj => by rw [wr1 _ (by omega)]; exact q13 j hj, Nat.le_refl _⟩) ?_
      have cb : h.bg.c = h.c + 1 := rfl
      rw [cb]
      exact ⟨⟨by omega, by show _ ≤ _ + ((hdS i.b i.e (p + 1, none)).1 + 1); omega⟩, ⟨by omega, by show _ ≤ _ + ((hdS i.b i.e (p + 1, none)).1 + 1); omega⟩, ⟨x5, by show _ ≤ _ + ((hdS i.b i.e (p + 1, none)).1 + 1); omega⟩, ⟨x7, by show _ ≤ _ + ((hdS i.b i.e (p + 1, none)).1 + 1); omega⟩, ⟨x9, by show _ ≤ _ + 2 * ((hdS i.b i.e (p + 1, none)).1 + 1); omega⟩, by show _ ≤ (hdS i.b i.e (p + 1, none)).1 + 1; omega⟩
    have key := rRL hsp hk ro (by omega) (i.b (hdS i.b i.e (p + 1, none)).1) [] W ((hdS i.b i.e (p + 1, none)).1 + 1, none) γ B T h.bg (Bn + inL i.b i.e (p + 1 + 3, none)) Kn Wn G rfl n2.2.2 (fun v hv V hV => hF v (by
        have e1 : rdC2 i.b i.e (p + 1) h.c (rdL (rdO i.b i.e k) (i.b (hdS i.b i.e (p + 1, none)).1) ((hdS i.b i.e (p + 1, none)).1 + 1, none) h.bg) = ((rdL (rdO i.b i.e k) (i.b (hdS i.b i.e (p + 1, none)).1) ((hdS i.b i.e (p + 1, none)).1 + 1, none) h.bg).1, (rdL (rdO i.b i.e k) (i.b (hdS i.b i.e (p + 1, none)).1) ((hdS i.b i.e (p + 1, none)).1 + 1, none) h.bg).2.1, 0) := if_neg (by rw [hv]; exact fun w => by cases w)
        have e2 := congrArg (fun x : pR Int => x.1.2) e1
        exact e2.trans hv) V hV) (fun y V γ' B' T' Bn' Kn' Wn' gg d' mr' sr' Q' hQ' => by
        obtain ⟨a1, a2, a3, a4⟩ := rdL_G (rdO_G (K := i.K) hb k hk) (i.b (hdS i.b i.e (p + 1, none)).1) ((hdS i.b i.e (p + 1, none)).1 + 1, none) h.bg rfl n2.1 (hH.nc (Nat.le_succ _)) y
        generalize rdL (rdO i.b i.e k) (i.b (hdS i.b i.e (p + 1, none)).1) ((hdS i.b i.e (p + 1, none)).1 + 1, none) h.bg = R at y gg a1 a2 a3 a4 hD hF
        have e1 : rdC2 i.b i.e (p + 1) h.c R = (nmS i.b i.e R.1, R.2.1.fin h.c (cdAt i.b i.e (p + 1) R.2.2 R.1.1), -1 - (h.c : Int)) := if_pos y
        have hF' : ∀ v, (nmS i.b i.e R.1).2 = some v → ∀ V, rF i V v → LH V := fun v hv => hF v ((congrArg (fun x : pR Int => x.1.2) e1).trans hv)
        rw [List.append_nil] at gg
        have rr : R.2.2.reverse.reverse = R.2.2 := List.reverse_reverse _
        have n12 : i.b (hdS i.b i.e (p + 1, none)).1 ≤ 12 := n2.2.2
        refine s_159 hsp gg lm y (by rw [List.length_reverse]; omega) (fun hc => by cases hc) (fun hc => by cases hc) (fun c hc en V2 g2 => ?_) (fun v _ en V2 w hV => ?_)
        · cases hc
          rw [rr] at g2
          have hD' : (nmS i.b i.e R.1).2 = none → ∀ V γ' B' T' Bn' Kn' Wn', rG i V (nmS i.b i.e R.1) γ' B' T' (R.2.1.fin h.c (cdAt i.b i.e (p + 1) R.2.2 R.1.1)) O Bn' Kn' Wn' ((rVp O).length + 1) → xIn B' (-1 - (h.c : Int)) → rWd sp d i LH (gV γ' (-1 - (h.c : Int))) V := by
            have hD2 := hD
            change (rdC2 i.b i.e (p + 1) h.c R).1.2 = none → _ at hD2
            rw [show rdC2 i.b i.e (p + 1, (none : Option Nat)).1 h.c R = (nmS i.b i.e R.1, R.2.1.fin h.c (cdAt i.b i.e (p + 1) R.2.2 R.1.1), -1 - (h.c : Int)) from e1] at hD2
            exact hD2
          exact hQ' _ V2 g2.k (hD' en V2 _ _ _ _ _ _ g2 (Or.inl (by omega)))
        · obtain ⟨⟨p', mp⟩, -⟩ := id hV
          exact hQ' w V2 mp.1.1 (rWd_f hsp mp.1.1 (mp.2.2.2.2.1 v rfl).1 (hF' v en V2 hV)))
    exact k160_225o hsp G rfl (Or.inr hx) n2.2.2 key.1 key.2 hQ
  · rw [if_neg z] at hF
    cases en : (bwS i.b i.e 0 12 (hdS i.b i.e (p + 1, none))).2 with
    | none => exact absurd en z
    | some v =>
      have mW' : mtS W i.m i.ce i.b i.e ((bwS i.b i.e 0 12 (hdS i.b i.e (p + 1, none))).1, some v) := by rw [← en]; exact mW
      exact k160_225f hsp mW.1.1 (mW'.2.2.2.2.1 v rfl).1 (hQ W (hF v en W ⟨⟨_, mW'⟩, g.2.1.trans kUW, T, (WI 75 (by decide)).trans g.2.2.1.2.1, x9, T11⟩))
end T1
