/-! the reference reads: begin; the codes, begun and done -/
/-- a code read to its end, all of it below the counters -/
def rCw (U : ox_St) (m : Nat) (γ : Int → Nat) (C : Nat → xCd) (c Bn Kn Wn : Nat) : Prop := ∃ g k w, mSh U m c g (C c).1 ∧ g + cdN (C c).1 ≤ Bn ∧ (U.rI (m + 9) c = nI k ∧ k + (C c).2.1.length ≤ Kn ∧ ∀ i, i < (C c).2.1.length → U.rI (m + 14) (k + i) = gV γ ((C c).2.1.getD i 0)) ∧ U.rI (m + 11) c = nI w ∧ w + (C c).2.2.length ≤ Wn ∧ ∀ i, i < (C c).2.2.length → U.rJ (m + 15) (w + i) = lN ((C c).2.2.getD i 0)
/-- a code begun: its head was at p -/
def hRw (b : Nat → Nat) (e : Nat) (U : ox_St) (m c p Bn : Nat) : Prop := (hdS b e (p, none)).2 = none ∧ ∃ g, (U.rI (m + 4) c = nI (b p) ∧ U.rI (m + 5) c = nI (b (p + 1)) ∧ U.rI (m + 6) c = nI (b (p + 2)) ∧ U.rI (m + 7) c = nI g ∧ U.rI (m + 8) c = nI (inL b e (p + 3, none))) ∧ (∀ j, j < inL b e (p + 3, none) → U.rI (m + 13) (g + j) = nI (b (p + 5 + j))) ∧ g + inL b e (p + 3, none) ≤ Bn
def rOc : List rRc → Prop
  | [] => True
  | r :: O => (∀ c, r.2.2.1 = some c → ∀ r' ∈ O, r'.2.2.1 ≠ some c) ∧ rOc O
/-- the codes: h as the grammar has it, O open -/
def rG5 (b : Nat → Nat) (e : Nat) (U : ox_St) (m : Nat) (γ : Int → Nat) (B : List Int) (h : pH) (O : List rRc) (Bn Kn Wn : Nat) : Prop := (U.I 76 m = nI h.c ∧ U.I 86 m = nI Bn ∧ U.I 87 m = nI Kn ∧ U.I 88 m = nI Wn) ∧ (∀ c, c < h.c → (∀ r ∈ O, r.2.2.1 ≠ some c) → rCw U m γ h.C c Bn Kn Wn ∧ ∀ v ∈ (h.C c).2.1, xIn B v) ∧ (∀ r ∈ O, ∀ c, r.2.2.1 = some c → c < h.c ∧ hRw b e U m c r.2.2.2 Bn) ∧ rOc O
/-- the codes that are to be looked at -/
def rG6 (U : ox_St) (m : Nat) (l : List Nat) : Prop := U.I 124 m = nI l.length ∧ ∀ i, i < l.length → U.rI (m + 35) i = nI (l.getD i 0)
/-- the heap -/
def rG2 (K : Nat) (U : ox_St) (m ce : Nat) (γ : Int → Nat) (B : List Int) (T : Nat) (h : pH) : Prop := rHp U (m + ce) γ B h.H T ∧ U.I 75 m = nI T ∧ xHOk h.c K h.H h.n
/-- what is open, and its values -/
def rG3 (U : ox_St) (m : Nat) (γ : Int → Nat) (B : List Int) (h : pH) (O : List rRc) : Prop := (U.I 122 m = nI O.length ∧ O.length ≤ 5 ∧ rOp U m O) ∧ U.I 123 m = nI (rVp O).length ∧ rVs U m γ (rVp O) ∧ ∀ v ∈ rVp O, xOk h.c h.H v ∧ xIn B v
section RD2
variable {sp : ox_E} {d mr sr : Nat} {S U V : ox_St} {Q : ox_Q} {m ce e K : Nat} {b : Nat → Nat} {γ γ' : Int → Nat} {B B' : List Int} {T : Nat} {C : Nat → xCd} {h : pH} {O : List rRc} {c Bn Kn Wn Bn' Kn' Wn' : Nat}
theorem s_154 (hsp : ox_mono sp) {x1 x2 x3 : Int32} {g : Nat} (h : oML S m ce) (ig : S.I 122 m = nI g) (hg : g < 8) (hQ : Q none (((((S.wI (m + 30) g (vp_nar .boolean x1)).wI (m + 31) g x2).wI (m + 32) g (S.I 123 m)).wI (m + 33) g x3).sI 122 m (nI (g + 1)))) : ox_M sp (d + 1) 154 [.inr (.inr m), .inl x1, .inl x2, .inl x3] mr sr S Q := by
  obtain ⟨a1, a2, a3⟩ := h.row (F := 126) (o := 30) (k := 17) (n := 8) (by decide)
  obtain ⟨b1, b2, b3⟩ := h.row (F := 127) (o := 31) (k := 15) (n := 8) (by decide)
  obtain ⟨c1, c2, c3⟩ := h.row (F := 128) (o := 32) (k := 15) (n := 8) (by decide)
  obtain ⟨d1, d2, d3⟩ := h.row (F := 129) (o := 33) (k := 15) (n := 8) (by decide)
  have k := h.1
  have iv : vp_in (nI g) 8 := vp_in_nI hg (by decide)
  have cl : Int32.toNatClampNeg (nI g) = g := nI_clamp (by omega)
  refine f_154 hsp ⟨by rw [k]; rfl, by rw [k]; rfl, by rw [a1]; exact a2, by rw [a1, a3, ig]; exact iv, ?_⟩
  rw [a1, ig, cl]
  refine ⟨by rw [or_wI_K, k]; rfl, by rw [or_wI_K, k]; rfl, by rw [or_wI_R, or_wI_K, b1]; exact b2, by rw [or_wI_R, or_wI_len, or_wI_I, b1, b3, ig]; exact iv, ?_⟩
  rw [or_wI_R, or_wI_I, b1, ig, cl]
  refine ⟨by rw [or_wI_K, or_wI_K, k]; rfl, by rw [or_wI_K, or_wI_K, k]; rfl, by rw [or_wI_K, or_wI_K, k]; rfl, by rw [or_wI_R, or_wI_R, or_wI_K, or_wI_K, c1]; exact c2, by rw [or_wI_R, or_wI_R, or_wI_len, or_wI_len, or_wI_I, or_wI_I, c1, c3, ig]; exact iv, ?_⟩
  rw [or_wI_R, or_wI_R, or_wI_I, or_wI_I, c1, ig, cl]
  refine ⟨by rw [or_wI_K, or_wI_K, or_wI_K, k]; rfl, by rw [or_wI_K, or_wI_K, or_wI_K, k]; rfl, by rw [or_wI_R, or_wI_R, or_wI_R, or_wI_K, or_wI_K, or_wI_K, d1]; exact d2, by rw [or_wI_R, or_wI_R, or_wI_R, or_wI_len, or_wI_len, or_wI_len, or_wI_I, or_wI_I, or_wI_I, d1, d3, ig]; exact iv, ?_⟩
  rw [or_wI_R, or_wI_R, or_wI_R, or_wI_I, or_wI_I, or_wI_I, d1, ig, cl]
  refine ⟨by rw [or_wI_K, or_wI_K, or_wI_K, or_wI_K, k]; rfl, by rw [or_wI_K, or_wI_K, or_wI_K, or_wI_K, k]; rfl, ?_⟩
  rw [or_wI_I, or_wI_I, or_wI_I, or_wI_I, ig, nI_1]
  exact ⟨rfl, hQ⟩
theorem rCw.next (h : rCw U m γ C c Bn Kn Wn) (hr : ∀ o, 4 ≤ o → o ≤ 12 → V.rI (m + o) c = U.rI (m + o) c) (h13 : ∀ z, z < Bn → V.rI (m + 13) z = U.rI (m + 13) z) (h14 : ∀ z, z < Kn → V.rI (m + 14) z = U.rI (m + 14) z) (h15 : ∀ z, z < Wn → V.rJ (m + 15) z = U.rJ (m + 15) z) (hg : ∀ v ∈ (C c).2.1, gV γ' v = gV γ v) (l1 : Bn ≤ Bn') (l2 : Kn ≤ Kn') (l3 : Wn ≤ Wn') : rCw V m γ' C c Bn' Kn' Wn' := by
  obtain ⟨g, k, w, ⟨⟨s1, s2, s3⟩, ⟨s4, s5, s6⟩, ⟨s7, s8⟩, s9⟩, a1, ⟨a2, a3, a4⟩, a5, a6, a7⟩ := h
  refine ⟨g, k, w, ⟨⟨?_, ?_, ?_⟩, ⟨?_, ?_, fun p hp => ?_⟩, ⟨?_, ?_⟩, s9⟩, by omega, ⟨?_, by omega, fun i hi => ?_⟩, ?_, by omega, fun i hi => by rw [h15 _ (by omega)]; exact a7 i hi⟩
  · rw [hr 4 (by omega) (by omega)]; exact s1
  · rw [hr 5 (by omega) (by omega)]; exact s2
  · rw [hr 6 (by omega) (by omega)]; exact s3
  · rw [hr 7 (by omega) (by omega)]; exact s4
  · rw [hr 8 (by omega) (by omega)]; exact s5
  · rw [h13 _ (by omega)]; exact s6 p hp
  · rw [hr 10 (by omega) (by omega)]; exact s7
  · rw [hr 12 (by omega) (by omega)]; exact s8
  · rw [hr 9 (by omega) (by omega)]; exact a2
  · rw [h14 _ (by omega), hg _ (by rw [List.getD_eq_getElem?_getD, List.getElem?_eq_getElem hi]; exact List.getElem_mem hi)]
    exact a4 i hi
  · rw [hr 11 (by omega) (by omega)]; exact a5
theorem hRw.next {p : Nat} (h : hRw b e U m c p Bn) (hr : ∀ o, 4 ≤ o → o ≤ 8 → V.rI (m + o) c = U.rI (m + o) c) (h13 : ∀ z, z < Bn → V.rI (m + 13) z = U.rI (m + 13) z) (l1 : Bn ≤ Bn') : hRw b e V m c p Bn' := by
  obtain ⟨h0, g, ⟨a1, a2, a3, a4, a5⟩, a6, a7⟩ := h
  exact ⟨h0, g, ⟨by rw [hr 4 (by omega) (by omega)]; exact a1, by rw [hr 5 (by omega) (by omega)]; exact a2, by rw [hr 6 (by omega) (by omega)]; exact a3, by rw [hr 7 (by omega) (by omega)]; exact a4, by rw [hr 8 (by omega) (by omega)]; exact a5⟩, fun j hj => by rw [h13 _ (by omega)]; exact a6 j hj, by omega⟩
/-- nothing of the codes changes -/
theorem rG5.next (h5 : rG5 b e U m γ B h O Bn Kn Wn) (hI : ∀ F, F = 76 ∨ (86 ≤ F ∧ F ≤ 88) → V.I F m = U.I F m) (hr : ∀ o, 4 ≤ o → o ≤ 14 → V.rI (m + o) = U.rI (m + o)) (hJ : V.rJ (m + 15) = U.rJ (m + 15)) {h' : pH} (ec : h'.c = h.c) (eC : h'.C = h.C) (hg : ∀ v, xIn B v → gV γ' v = gV γ v ∧ xIn B' v) : rG5 b e V m γ' B' h' O Bn Kn Wn := by
  obtain ⟨⟨i1, i2, i3, i4⟩, a1, a2, a3⟩ := h5
  refine ⟨⟨by rw [hI 76 (by omega), ec]; exact i1, (hI 86 (by omega)).trans i2, (hI 87 (by omega)).trans i3, (hI 88 (by omega)).trans i4⟩, fun c hc ho => ?_, fun r hr' c hc => ?_, a3⟩
  · obtain ⟨b1, b2⟩ := a1 c (by rw [← ec]; exact hc) ho
    rw [eC]
    exact ⟨b1.next (fun o z1 z2 => by rw [hr o z1 (by omega)]) (fun z _ => by rw [hr 13 (by omega) (by omega)]) (fun z _ => by rw [hr 14 (by omega) (by omega)]) (fun z _ => by rw [hJ]) (fun v hv => (hg v (b2 v hv)).1) (Nat.le_refl _) (Nat.le_refl _) (Nat.le_refl _), fun v hv => (hg v (b2 v hv)).2⟩
  · obtain ⟨b1, b2⟩ := a2 r hr' c hc
    exact ⟨by rw [ec]; exact b1, b2.next (fun o z1 z2 => by rw [hr o z1 (by omega)]) (fun z _ => by rw [hr 13 (by omega) (by omega)]) (Nat.le_refl _)⟩
theorem rG6.next {l : List Nat} (h6 : rG6 U m l) (hI : V.I 124 m = U.I 124 m) (hr : V.rI (m + 35) = U.rI (m + 35)) : rG6 V m l := ⟨hI.trans h6.1, fun i hi => by rw [hr]; exact h6.2 i hi⟩
theorem rG3.next (h3 : rG3 U m γ B h O) (hI : ∀ F, F = 122 ∨ F = 123 → V.I F m = U.I F m) (hr : ∀ o, 30 ≤ o → o ≤ 34 → V.rI (m + o) = U.rI (m + o)) {h' : pH} (hg : ∀ v, xOk h.c h.H v → xIn B v → gV γ' v = gV γ v ∧ xOk h'.c h'.H v ∧ xIn B' v) : rG3 V m γ' B' h' O := by
  obtain ⟨⟨i1, i2, i3⟩, a1, a2, a3⟩ := h3
  refine ⟨⟨(hI 122 (by omega)).trans i1, i2, i3.row _ (fun o j z1 z2 _ => by rw [hr o z1 (by omega)])⟩, (hI 123 (by omega)).trans a1, a2.row _ (fun j _ => by rw [hr 34 (by omega) (by omega)]) (fun v hv => (hg v (a3 v hv).1 (a3 v hv).2).1), fun v hv => (hg v (a3 v hv).1 (a3 v hv).2).2⟩
end RD2
