/-! the reference reads: a tuple, a code -/
section T0
variable {sp : ox_E} {d mr sr : Nat} {Q : ox_Q} {LH : ox_St → Prop} {i : rFi} {U V : ox_St} {s s' : oTS} {γ : Int → Nat} {B : List Int} {T : Nat} {h h' : pH} {O : List rRc} {Bn Kn Wn Bn' c ph k p : Nat} {its : List Int} {cd : Option Nat} {v : Int}
theorem opW_mt {S : ox_St} {m ce e g : Nat} {b : Nat → Nat} {x1 x2 x3 : Int32} (h : mtS S m ce b e s) : mtS (opW S m g x1 x2 x3) m ce b e s := by
  have c23 := h.1.2.2.1
  obtain ⟨kr, fI, -, fr, -⟩ := opW_f (S := S) (m := m) (g := g) (ce := ce) (x1 := x1) (x2 := x2) (x3 := x3) (q := (0, 0, 0, 0, 0)) c23
  generalize opW S m g x1 x2 x3 = W at kr fI fr ⊢
  obtain ⟨a1, a2, a3, a4, a5, a6⟩ := h
  have eI : ∀ F, F ≠ 122 → W.I F m = S.I F m := fun F hF => (fI F m).trans (if_neg (fun y => hF y.1))
  exact ⟨a1.next kr.1 kr.2.1 (fun F => by rw [kr.2.2.2.1]), (eI 121 (by decide)).trans a2, a3, fun z => by rw [eI 120 (by decide), eI 132 (by decide), eI 70 (by decide)]; exact a4 z, fun v hv => by rw [eI 132 (by decide), eI 70 (by decide)]; exact a5 v hv, fun j hj => by rw [fr _ (by omega)]; exact a6 j hj⟩
theorem rdB_40 {b : Nat → Nat} {e : Nat} {f : oTS → pH → pR Int} (h4 : b p = 40) : rdB b e f p h = if (bwS b e 0 12 (p + 1, none)).2 = none then rdT (rdL f (b (p + 1)) (p + 2, none) h) else (bwS b e 0 12 (p + 1, none), h, 0) := by
  unfold rdB
  rw [if_neg (by omega), if_neg (by omega), if_neg (by omega), if_neg (by omega), if_neg (by omega), if_pos h4]
theorem rdB_99 {b : Nat → Nat} {e : Nat} {f : oTS → pH → pR Int} (h4 : b p = 99) : rdB b e f p h = rdC b e f (p + 1, none) h := by
  unfold rdB
  rw [if_neg (by omega), if_neg (by omega), if_neg (by omega), if_neg (by omega), if_neg (by omega), if_neg (by omega), if_pos h4]
theorem rRT (hsp : ox_mono sp) (lm : rLm i.q i.e) (hk : k ≤ 3) (ro : rRO sp d i LH k) (g : rG i U (p + 1, none) γ B T h O Bn Kn Wn (rVp O).length) (rm : rRm i.q p T h.c Bn Kn Wn (rVp O).length O.length h.l.length) (hO : O.length + k + 1 = 5) (h4 : i.b p = 40) {x1 x2 : Int32} (hx : x2 = 40)
    (hF : ∀ v, (rdB i.b i.e (rdO i.b i.e k) p h).1.2 = some v → ∀ V, rF i V v → LH V)
    (hD : (rdB i.b i.e (rdO i.b i.e k) p h).1.2 = none → ∀ V γ' B' T' Bn' Kn' Wn', rG i V (rdB i.b i.e (rdO i.b i.e k) p h).1 γ' B' T' (rdB i.b i.e (rdO i.b i.e k) p h).2.1 O Bn' Kn' Wn' ((rVp O).length + 1) → xIn B' (rdB i.b i.e (rdO i.b i.e k) p h).2.2 → rWd sp d i LH (gV γ' (rdB i.b i.e (rdO i.b i.e k) p h).2.2) V)
    (hQ : ∀ V, LH V → Q none V) : ox_M sp (d + 6) 151 [.inr (.inr i.m), .inl 0, .inl 12] 0 0 U (k_160_187 (ox_M sp (d + 6)) i.m x1 x2 1 i.m mr sr Q) := by
  have hE : ox_mono (ox_M sp (d + 6)) := ox_M_mono hsp _
  have c23 := g.c23
  rw [rdB_40 h4] at hF hD
  have hb : ∀ j, j < i.e → i.b j < 256 := fun j hj => (g.1.2.2.2.2.2 j hj).2
  have hH := g.2.2.1.2.2
  have x9 := rm.2.2.2.2.1.1
  have T11 := g.2.2.1.1.2.2.2.2
  refine s_151 (lo := 0) (hi := 12) hsp g.1 (by decide) (by decide) (fun S1 r f1 m1 u1 u2 => f_160_187 hE ⟨by decide, m1.1.1, by decide, 0, 0, Nat.zero_le _, Nat.zero_le _, ?_⟩)
  have fI1 : ∀ F, F ≠ 70 ∧ F ≠ 120 ∧ F ≠ 132 → S1.I F i.m = U.I F i.m := fun F hF => f1.2.2.2.2.2.2.2.2 F i.m (Or.inr hF)
  refine s_154 hsp m1.1 ((fI1 122 (by decide)).trans g.2.2.2.1.1.1) (by omega) (f_160_191 hE ?_)
  show k_160_225 (ox_M sp (d + 6)) i.m x1 x2 mr sr Q none (opW S1 i.m O.length (vp_nar .boolean 1) r 0)
  have mW := opW_mt (g := O.length) (x1 := vp_nar .boolean 1) (x2 := r) (x3 := 0) m1
  obtain ⟨kW, wI, wJ, wr, wz, w30, w31, w32, w33⟩ := opW_f (S := S1) (m := i.m) (g := O.length) (ce := i.ce) (x1 := vp_nar .boolean 1) (x2 := r) (x3 := 0) (q := i.q) c23
  generalize opW S1 i.m O.length (vp_nar .boolean 1) r 0 = W at mW kW wI wJ wr wz w30 w31 w32 w33 ⊢
  have kUW : kR U W i.m i.ce i.q := (kR.tk f1).trans kW
  have WI : ∀ F, F ≠ 70 ∧ F ≠ 120 ∧ F ≠ 122 ∧ F ≠ 132 → W.I F i.m = U.I F i.m := fun F hF => ((wI F i.m).trans (if_neg (fun y => by omega))).trans (fI1 F (by omega))
  have er : S1.rI = U.rI := f1.2.2.2.2.2.2.2.1
  by_cases z : (bwS i.b i.e 0 12 (p + 1, none)).2 = none
  · rw [if_pos z] at hF hD
    obtain ⟨-, m2, m3, -⟩ := bwS_none z
    have m2' : p + 1 < i.e ∧ 0 ≤ i.b (p + 1) ∧ i.b (p + 1) ≤ 12 := m2
    have m3' : bwS i.b i.e 0 12 (p + 1, none) = (p + 2, none) := m3
    have ur : r = nI (i.b (p + 1)) := u1 z
    rw [m3'] at mW
    have G : rG i W (p + 2, none) γ B T h ((i.b (p + 1), [], none, 0) :: O) Bn Kn Wn (rVp O).length := by
      refine g.opn (by omega) kUW mW (fun F hF => WI F (by omega)) ((wI _ _).trans (if_pos ⟨rfl, rfl⟩)) ((WI 76 (by decide)).trans g.2.2.2.2.1.1.1) ((WI 86 (by decide)).trans g.2.2.2.2.1.1.2.1) (fun o _ _ z3 => by rw [wr _ (by omega), er]) (fun o z z1 z2 _ => by rw [wr _ (by omega), er]) (fun z _ => by rw [wr _ (by omega), er]) (fun o j _ _ hj => by rw [wz _ _ (by omega), er]) (by rw [w30, if_pos rfl]; rfl) (by rw [w31]; exact ur) (by rw [w32]; exact fI1 123 (by decide)) (fun c hc => by cases hc) (wJ.trans f1.2.2.2.2.2.2.1) (Nat.le_refl _) (Or.inl ⟨rfl, rfl⟩) ?_
      obtain ⟨⟨x1, x2⟩, ⟨x3, x4⟩, ⟨x5, x6⟩, ⟨x7, x8⟩, ⟨x9, x10⟩, x11⟩ := rm
      exact ⟨⟨x1, by show _ ≤ _ + (p + 2); omega⟩, ⟨x3, by show _ ≤ _ + (p + 2); omega⟩, ⟨x5, by show _ ≤ _ + (p + 2); omega⟩, ⟨x7, by show _ ≤ _ + (p + 2); omega⟩, ⟨x9, by show _ ≤ _ + 2 * (p + 2); omega⟩, by show _ ≤ p + 2; omega⟩
    have key := rRL hsp (show k ≤ 4 by omega) ro (by omega) (i.b (p + 1)) [] W (p + 2, none) γ B T h Bn Kn Wn G rfl m2'.2.2 (fun v hv V hV => hF v (by
        have e1 : rdT (rdL (rdO i.b i.e k) (i.b (p + 1)) (p + 2, none) h) = ((rdL (rdO i.b i.e k) (i.b (p + 1)) (p + 2, none) h).1, (rdL (rdO i.b i.e k) (i.b (p + 1)) (p + 2, none) h).2.1, 0) := if_neg (by rw [hv]; exact fun w => by cases w)
        rw [e1]; exact hv) V hV) (fun y V γ' B' T' Bn' Kn' Wn' gV d' mr' sr' Q' hQ' => by
        obtain ⟨a1, a2, a3, a4⟩ := rdL_G (rdO_G (K := i.K) hb k (by omega)) (i.b (p + 1)) (p + 2, none) h rfl m2'.1 hH y
        have e1 : rdT (rdL (rdO i.b i.e k) (i.b (p + 1)) (p + 2, none) h) = pNew (rdL (rdO i.b i.e k) (i.b (p + 1)) (p + 2, none) h).1 (rdL (rdO i.b i.e k) (i.b (p + 1)) (p + 2, none) h).2.1 ((rdL (rdO i.b i.e k) (i.b (p + 1)) (p + 2, none) h).2.1.tp (rdL (rdO i.b i.e k) (i.b (p + 1)) (p + 2, none) h).2.2) := if_pos y
        rw [e1] at hD
        generalize rdL (rdO i.b i.e k) (i.b (p + 1)) (p + 2, none) h = R at y gV a1 a2 a3 a4 hD
        rw [List.append_nil] at gV
        have rr : R.2.2.reverse.reverse = R.2.2 := List.reverse_reverse _
        have mx : xMax R.2.1.H R.2.2 ≤ k := (xMax_iff _).mpr (fun v hv => (a4 v hv).2)
        refine s_159 hsp gV lm y (by rw [List.length_reverse]; omega) (fun _ => ?_) (fun _ V2 g2 => ?_) (fun c hc => by cases hc) (fun v hv => absurd rfl hv)
        · rw [rr]
          exact ⟨by show R.2.2.length ≤ 12; omega, rfl, by show xMax R.2.1.H R.2.2 + 1 ≤ 4; omega, fun v hv => (a4 v hv).1⟩
        · rw [rr] at g2
          exact hQ' _ V2 g2.k (hD y V2 _ _ _ _ _ _ g2 (Or.inr List.mem_cons_self)))
    exact k160_225o hsp G rfl (Or.inl hx) m2'.2.2 key.1 key.2 hQ
  · rw [if_neg z] at hF
    cases en : (bwS i.b i.e 0 12 (p + 1, none)).2 with
    | none => exact absurd en z
    | some v =>
      have mW' : mtS W i.m i.ce i.b i.e ((bwS i.b i.e 0 12 (p + 1, none)).1, some v) := by rw [← en]; exact mW
      exact k160_225f hsp mW.1.1 (mW'.2.2.2.2.1 v rfl).1 (hQ W (hF v en W ⟨⟨_, mW'⟩, g.2.1.trans kUW, T, (WI 75 (by decide)).trans g.2.2.1.2.1, x9, T11⟩))
end T0
