/-! the reference reads the tape: readNames, its whole -/
/-- how many names, and behind them -/
def nmC (b : Nat → Nat) (e : Nat) (s : oTS) : Nat := if (bwS b e 0 12 s).2 = none then b s.1 else 0
def nmS (b : Nat → Nat) (e : Nat) (s : oTS) : oTS := nmN b e (bwS b e 0 12 s) (nmC b e s)
theorem nmN_none {b : Nat → Nat} {e : Nat} {s : oTS} : ∀ k, (nmN b e s k).2 = none → s.2 = none ∧ s.1 + k ≤ (nmN b e s k).1
  | 0, h => ⟨h, Nat.le_refl _⟩
  | k + 1, h => by
    have h' : (bwZ b e (bwS b e 1 8 (nmN b e s k)) (nmL b e (nmN b e s k))).2 = none := h
    obtain ⟨c1, -, c3⟩ := bwZ_none _ h'
    obtain ⟨g1, -, g3, -⟩ := bwS_none c1
    obtain ⟨l1, l2⟩ := nmN_none k g1
    refine ⟨l1, ?_⟩
    show s.1 + (k + 1) ≤ (bwZ b e (bwS b e 1 8 (nmN b e s k)) (nmL b e (nmN b e s k))).1
    rw [c3]
    show s.1 + (k + 1) ≤ (bwS b e 1 8 (nmN b e s k)).1 + _
    rw [g3]
    show s.1 + (k + 1) ≤ (nmN b e s k).1 + 1 + _
    omega
theorem nmC_le {b : Nat → Nat} {e : Nat} {s : oTS} : nmC b e s ≤ 12 := by
  unfold nmC
  by_cases c : (bwS b e 0 12 s).2 = none
  · rw [if_pos c]; exact (bwS_none c).2.1.2.2
  · rw [if_neg c]; decide
section OMNn
variable {sp : ox_E} {d mr sr : Nat} {S : ox_St} {Q : ox_Q} {m ce e c D : Nat} {b : Nat → Nat} {s : oTS}
/-- names, one after the other -/
theorem s_156_27 (hsp : ox_mono sp) {S0 : ox_St} {x1 : Int32} {n : Nat} {s0 : oTS} (hn : n ≤ 12) (hD : s0.2 = none → D + e < 2100 + s0.1)
    (hQ : ∀ S', nmF m c D S0 S' → S'.rI = S0.rI → mtS S' m ce b e (nmN b e s0 n) → ((nmN b e s0 n).2 = none → S'.I 88 m = nI (D + n) ∧ ∀ j, j < n → S'.rJ (m + 15) (D + j) = lN (nmV b ((nmN b e s0 j).1 + 1) (nmL b e (nmN b e s0 j)))) → Q none S') : ∀ (r i : Nat) (S : ox_St), i + r = n → nmF m c D S0 S → S.rI = S0.rI → mtS S m ce b e (nmN b e s0 i) → ((nmN b e s0 i).2 = none → S.I 88 m = nI (D + i) ∧ ∀ j, j < i → S.rJ (m + 15) (D + j) = lN (nmV b ((nmN b e s0 j).1 + 1) (nmL b e (nmN b e s0 j)))) → c_156_27 (ox_M sp (d + 2)) m x1 (nI n) (nI i) S mr sr Q := by
  have hE : ox_mono (ox_M sp (d + 2)) := ox_M_mono hsp _
  intro r
  induction r with
  | zero =>
    intro i S hi t0 ro h hw
    obtain rfl : i = n := by omega
    exact f_156_27 hE ⟨fun _ => ⟨rfl, hQ S t0 ro h hw⟩, fun z => absurd (nI_le (Nat.le_refl i) (by omega)) z⟩
  | succ r ih =>
    intro i S hi t0 ro h hw
    have hin : i < n := by omega
    have k := h.1.1
    refine f_156_27 hE ⟨fun z => absurd z (nI_ge hin (by omega)), fun _ => ⟨by rw [k]; rfl, fun z => ⟨rfl, ?_⟩, fun z => ⟨by decide, k, by decide, 0, 0, Nat.zero_le _, Nat.zero_le _, ?_⟩⟩⟩
    · have hf : (nmN b e s0 i).2 ≠ none := fun q => z (h.2.2.2.1 q).2.1
      have hl := nmN_flt hf (n - i)
      rw [show i + (n - i) = n by omega] at hl
      exact hQ S t0 ro (by rw [hl]; exact h) (fun q => absurd (by rw [hl] at q; exact q) hf)
    · have hf : (nmN b e s0 i).2 = none := by
        cases q : (nmN b e s0 i).2 with
        | none => rfl
        | some u => exact absurd z (by rw [(h.2.2.2.2.1 u q).1]; decide)
      obtain ⟨i88, hrow⟩ := hw hf
      have hpe := (h.2.2.2.1 hf).2.2.1
      have hlt : D + i < 2100 := by
        obtain ⟨c1, c2⟩ := nmN_none i hf
        have := hD c1
        omega
      refine s_151 (lo := 1) (hi := 8) hsp h (by decide) (by decide) (fun S1 y f1 h1 y1 y2 => f_156_46 hE ?_)
      have j88 : S1.I 88 m = nI (D + i) := (f1.2.2.2.2.2.2.2.2 88 m (Or.inr (by decide))).trans i88
      obtain ⟨L, hL, rfl, hb, hnx⟩ : ∃ L, L ≤ 8 ∧ y = nI L ∧ ((bwS b e 1 8 (nmN b e s0 i)).2 = none → L = nmL b e (nmN b e s0 i)) ∧ bwZ b e (bwS b e 1 8 (nmN b e s0 i)) L = nmN b e s0 (i + 1) := by
        by_cases q : (bwS b e 1 8 (nmN b e s0 i)).2 = none
        · have hl : nmL b e (nmN b e s0 i) = b (nmN b e s0 i).1 := if_pos q
          exact ⟨nmL b e (nmN b e s0 i), nmL_le, by rw [hl]; exact y1 q, fun _ => rfl, rfl⟩
        · refine ⟨1, by decide, y2 q, fun w => absurd w q, ?_⟩
          show _ = bwZ b e (bwS b e 1 8 (nmN b e s0 i)) (nmL b e (nmN b e s0 i))
          rw [bwZ_flt q, bwZ_flt q]
      show c_156_54 (ox_M sp (d + 2)) m x1 (nI n) (nI i) (nI L) 0 (nI 0) S1 mr sr Q
      refine s_156_54 (S0 := S1) (D := D + i) (s1 := bwS b e 1 8 (nmN b e s0 i)) hsp hL j88 hlt (fun S' v q1 q2 q3 => ?_) L 0 S1 0 (Nat.zero_add _) tkF.refl h1 (fun _ => rfl)
      rw [hnx] at q2 q3
      have g : nmF m c D S' ((S'.wJ (m + 15) (D + i) v).sI 88 m (nI (D + i + 1))) := (nmF_wJ (Nat.le_add_right _ _)).trans nmF_sI
      have hI : ∀ F, F ≠ 88 → ((S'.wJ (m + 15) (D + i) v).sI 88 m (nI (D + i + 1))).I F m = S'.I F m := fun F hF => by
        rw [or_sI_I, if_neg (fun w => hF w.1)]
        rfl
      have hJ : ((S'.wJ (m + 15) (D + i) v).sI 88 m (nI (D + i + 1))).I 88 m = nI (D + (i + 1)) := by
        rw [or_sI_I, if_pos ⟨rfl, rfl⟩]
        rfl
      have hr : ∀ j, ((S'.wJ (m + 15) (D + i) v).sI 88 m (nI (D + i + 1))).rJ (m + 15) j = if j = D + i then v else S'.rJ (m + 15) j := fun j => by
        show (S'.wJ (m + 15) (D + i) v).rJ (m + 15) j = _
        rw [or_wJ_rJ]
        by_cases q : j = D + i
        · rw [if_pos ⟨rfl, q⟩, if_pos q]
        · rw [if_neg (fun w => q w.2), if_neg q]
      have hrI : ((S'.wJ (m + 15) (D + i) v).sI 88 m (nI (D + i + 1))).rI = S'.rI := rfl
      have h2 := q2.nm g (hI 70 (by decide)) (hI 120 (by decide)) (hI 132 (by decide))
      generalize (S'.wJ (m + 15) (D + i) v).sI 88 m (nI (D + i + 1)) = U at g hI hJ hr hrI h2 ⊢
      refine ih (i + 1) U (by omega) (((t0.trans f1.nm).trans q1.nm).trans g) (by rw [hrI, q1.2.2.2.2.2.2.2.1, f1.2.2.2.2.2.2.2.1]; exact ro) h2 (fun q => ⟨hJ, fun j hj => ?_⟩)
      by_cases hj2 : j = i
      · rw [hj2, hr, if_pos rfl, q3 q]
        rw [← hnx] at q
        obtain ⟨c1, -, -⟩ := bwZ_none _ q
        obtain ⟨-, -, g3, -⟩ := bwS_none c1
        rw [← hb c1]
        have e1 : (bwS b e 1 8 (nmN b e s0 i)).1 = (nmN b e s0 i).1 + 1 := by rw [g3]
        rw [e1]
      · rw [hr, if_neg (by omega), q1.2.2.2.2.2.2.1, f1.2.2.2.2.2.2.1]
        exact hrow j (by omega)
/-- readNames -/
theorem s_156 (hsp : ox_mono sp) (hc : c < 300) (h : mtS S m ce b e s) (i88 : S.I 88 m = nI D) (hD : s.2 = none → D + e < 2100 + s.1)
    (hQ : ∀ S', nmF m c D S S' → mtS S' m ce b e (nmS b e s) → ((nmS b e s).2 = none → S'.rI (m + 11) c = nI D ∧ S'.rI (m + 12) c = nI (b s.1) ∧ S'.I 88 m = nI (D + b s.1) ∧ ∀ j, j < b s.1 → S'.rJ (m + 15) (D + j) = lN (nmV b ((nmN b e (s.1 + 1, none) j).1 + 1) (nmL b e (nmN b e (s.1 + 1, none) j)))) → Q none S') : ox_M sp (d + 3) 156 [.inr (.inr m), .inl (nI c)] mr sr S Q := by
  have hE : ox_mono (ox_M sp (d + 2)) := ox_M_mono hsp _
  have k := h.1.1
  refine f_156 hsp ⟨by decide, k, by decide, 0, 0, Nat.zero_le _, Nat.zero_le _, ?_⟩
  refine s_151 (lo := 0) (hi := 12) hsp h (by decide) (by decide) (fun S1 y f1 h1 u1 u2 => f_156_7 hE ?_)
  have hy : y = nI (nmC b e s) := by
    unfold nmC
    by_cases q : (bwS b e 0 12 s).2 = none
    · rw [if_pos q]; exact u1 q
    · rw [if_neg q]; exact u2 q
  subst hy
  have k1 := h1.1.1
  have j88 : S1.I 88 m = nI D := (f1.2.2.2.2.2.2.2.2 88 m (Or.inr (by decide))).trans i88
  obtain ⟨a1, a2, a3⟩ := h1.1.row (F := 84) (o := 11) (k := 15) (n := 300) (by decide +kernel)
  unfold q_156_7
  rw [k1, a1, a2, a3, j88, nI_clamp (n := c) (by omega)]
  refine ⟨rfl, rfl, rfl, vp_in_nI hc (by decide), ?_⟩
  have g1 : nmF m c D S1 (S1.wI (m + 11) c (nI D)) := nmF_wI (Or.inl rfl)
  have hI1 : (S1.wI (m + 11) c (nI D)).I = S1.I := or_wI_I S1 (m + 11) c (nI D)
  have r1 : ∀ a z, (S1.wI (m + 11) c (nI D)).rI a z = if a = m + 11 ∧ z = c then nI D else S1.rI a z := fun a z => or_wI_rI S1 (m + 11) c (nI D) a z
  have h2 := h1.nm g1 (by rw [hI1]) (by rw [hI1]) (by rw [hI1])
  intro S2
  have G1 : nmF m c D S1 S2 := g1
  have HI : S2.I = S1.I := hI1
  have R1 : ∀ a z, S2.rI a z = if a = m + 11 ∧ z = c then nI D else S1.rI a z := r1
  have H2 : mtS S2 m ce b e (bwS b e 0 12 s) := h2
  generalize S2 = U at G1 HI R1 H2 ⊢
  have k2 := H2.1.1
  obtain ⟨a4, a5, a6⟩ := H2.1.row (F := 85) (o := 12) (k := 15) (n := 300) (by decide +kernel)
  rw [k2, a4, a5, a6]
  refine ⟨rfl, rfl, vp_in_nI hc (by decide), ?_⟩
  have g2 : nmF m c D U (U.wI (m + 12) c (nI (nmC b e s))) := nmF_wI (Or.inr rfl)
  have hI2 : (U.wI (m + 12) c (nI (nmC b e s))).I = S1.I := (or_wI_I U (m + 12) c (nI (nmC b e s))).trans HI
  have r2 : ∀ a z, (U.wI (m + 12) c (nI (nmC b e s))).rI a z = if a = m + 12 ∧ z = c then nI (nmC b e s) else U.rI a z := fun a z => or_wI_rI U (m + 12) c (nI (nmC b e s)) a z
  have h3 := H2.nm g2 (by rw [or_wI_I]) (by rw [or_wI_I]) (by rw [or_wI_I])
  show c_156_27 (ox_M sp (d + 2)) m (nI c) (nI (nmC b e s)) (nI 0) (U.wI (m + 12) c (nI (nmC b e s))) mr sr Q
  generalize U.wI (m + 12) c (nI (nmC b e s)) = V at g2 hI2 r2 h3 ⊢
  have i3 : V.I 88 m = nI D := by rw [hI2]; exact j88
  refine s_156_27 (c := c) (S0 := V) (s0 := bwS b e 0 12 s) hsp nmC_le (fun q => ?_) (fun S' q1 q2 q3 q4 => ?_) (nmC b e s) 0 V (Nat.zero_add _) nmF.refl rfl h3 (fun _ => ⟨i3, fun j hj => absurd hj (Nat.not_lt_zero j)⟩)
  · obtain ⟨v1, -, v3, -⟩ := bwS_none q
    have := hD v1
    rw [v3]
    show D + e < 2100 + (s.1 + 1)
    omega
  · refine hQ S' (((f1.nm.trans G1).trans g2).trans q1) q3 (fun q => ?_)
    obtain ⟨x1, x2⟩ := q4 q
    obtain ⟨w1, -⟩ := nmN_none _ q
    obtain ⟨-, -, v3, -⟩ := bwS_none w1
    have hC : nmC b e s = b s.1 := if_pos w1
    rw [v3, hC] at x2
    rw [hC] at x1
    refine ⟨?_, ?_, x1, x2⟩
    · rw [q2, r2, if_neg (fun w => by omega), R1, if_pos ⟨rfl, rfl⟩]
    · rw [q2, r2, if_pos ⟨rfl, rfl⟩, hC]
end OMNn
