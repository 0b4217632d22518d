/-! the reference reads the tape: readCode, its whole -/
/-- a code's head: arguments, locals, the stack's most, and then its instructions -/
def hdA (b : Nat → Nat) (e : Nat) (s : oTS) : Nat := if (bwS b e 0 4 s).2 = none then b s.1 else 0
def hd3 (b : Nat → Nat) (e : Nat) (s : oTS) : oTS := bwS b e 1 10 (bwS b e (hdA b e s) 8 (bwS b e 0 4 s))
def hdS (b : Nat → Nat) (e : Nat) (s : oTS) : oTS := inS b e (hd3 b e s)
theorem hdA_le {b : Nat → Nat} {e : Nat} {s : oTS} : hdA b e s ≤ 4 := by
  unfold hdA
  by_cases c : (bwS b e 0 4 s).2 = none
  · rw [if_pos c]; exact (bwS_none c).2.1.2.2
  · rw [if_neg c]; decide
theorem hd3_none {b : Nat → Nat} {e : Nat} {s : oTS} (h : (hd3 b e s).2 = none) : s.2 = none ∧ s.1 + 3 ≤ e ∧ hd3 b e s = (s.1 + 3, none) ∧ b s.1 ≤ 4 ∧ b s.1 ≤ b (s.1 + 1) ∧ b (s.1 + 1) ≤ 8 ∧ 1 ≤ b (s.1 + 2) ∧ b (s.1 + 2) ≤ 10 ∧ (bwS b e 0 4 s).2 = none ∧ (bwS b e (hdA b e s) 8 (bwS b e 0 4 s)).2 = none ∧ bwS b e 0 4 s = (s.1 + 1, none) ∧ bwS b e (hdA b e s) 8 (bwS b e 0 4 s) = (s.1 + 2, none) := by
  obtain ⟨g1, g2, g3, -⟩ := bwS_none h
  obtain ⟨k1, k2, k3, -⟩ := bwS_none g1
  obtain ⟨l1, l2, l3, -⟩ := bwS_none k1
  have hA : hdA b e s = b s.1 := if_pos k1
  have e1 : (bwS b e 0 4 s).1 = s.1 + 1 := by rw [l3]
  have e2 : (bwS b e (hdA b e s) 8 (bwS b e 0 4 s)).1 = s.1 + 2 := by rw [k3, e1]
  rw [e1, hA] at k2
  rw [e2] at g2 g3
  have g3' : hd3 b e s = (s.1 + 2 + 1, none) := g3
  refine ⟨l1, by have := g2.1; omega, g3', l2.2.2, k2.2.1, k2.2.2, g2.2.1, g2.2.2, k1, g1, l3, ?_⟩
  rw [k3, e1]
theorem inS_1 {b : Nat → Nat} {e : Nat} {u : oTS} (h : (bwS b e 0 0 (inB b e u)).2 ≠ none) (n : Nat) : bwN b e (bwS b e 0 0 (inB b e u)) n = inS b e u := by
  have fl : ∀ n, bwN b e (bwS b e 0 0 (inB b e u)) n = bwS b e 0 0 (inB b e u) := fun n => by
    cases q : (bwS b e 0 0 (inB b e u)).2 with
    | none => exact absurd q h
    | some v =>
      have hs' : bwN b e (bwS b e 0 0 (inB b e u)) 0 = ((bwS b e 0 0 (inB b e u)).1, some v) := by rw [← q]; rfl
      have hl := bwN_some hs' n
      rw [Nat.zero_add] at hl
      rw [hl, ← q]
  unfold inS
  rw [fl n, fl]
section OMCe
variable {sp : ox_E} {d mr sr : Nat} {S : ox_St} {Q : ox_Q} {m ce e c B : Nat} {b : Nat → Nat} {s : oTS}
/-- from the size on -/
theorem s_155_57 (hsp : ox_mono sp) {S0 : ox_St} {u : oTS} (hc : c < 300) (hB : u.2 = none → B + e < 2100 + u.1)
    (hQ : ∀ S', cdF m c B S0 S' → S'.I 76 m = S0.I 76 m → (∀ a, m + 4 ≤ a → a ≤ m + 6 → S'.rI a c = S0.rI a c) → mtS S' m ce b e (inS b e u) → ((inS b e u).2 = none → S'.rI (m + 7) c = nI B ∧ S'.rI (m + 8) c = nI (inL b e u) ∧ S'.I 86 m = nI (B + inL b e u) ∧ ∀ j, j < inL b e u → S'.rI (m + 13) (B + j) = nI (b (u.1 + 2 + j))) → Q (some (.inl (nI c))) S') (S1 : ox_St) (y : Int32) (h1 : mtS S1 m ce b e (bwS b e 2 160 u)) (t1 : cdF m c B S0 S1) (i76 : S1.I 76 m = S0.I 76 m) (i86 : S1.I 86 m = nI B) (ro : ∀ a, m + 4 ≤ a → a ≤ m + 6 → S1.rI a c = S0.rI a c) (y1 : (bwS b e 2 160 u).2 = none → y = nI (b u.1)) (y2 : (bwS b e 2 160 u).2 ≠ none → y = nI 2) : k_155_66 (ox_M sp (d + 2)) m (nI c) mr sr Q (some (.inl y)) S1 := by
  have hE : ox_mono (ox_M sp (d + 2)) := ox_M_mono hsp _
  -- y is a small number
  obtain ⟨n, hn, rfl, hnb⟩ : ∃ n, n ≤ 160 ∧ y = nI n ∧ ((bwS b e 2 160 u).2 = none → n = b u.1) := by
    by_cases q : (bwS b e 2 160 u).2 = none
    · exact ⟨b u.1, (bwS_none q).2.1.2.2, y1 q, fun _ => rfl⟩
    · exact ⟨2, by decide, y2 q, fun z => absurd z q⟩
  -- behind the parity
  have rest : ∀ S2, tkF m S1 S2 → mtS S2 m ce b e (inB b e u) → ((inB b e u).2 = none → n = inL b e u) → k_155_91 (ox_M sp (d + 2)) m (nI c) (nI n) mr sr Q none S2 := by
    intro S2 f2 h2 hnl
    have k2 := h2.1.1
    refine f_155_91 hE ⟨by decide, k2, by decide, 0, 0, Nat.zero_le _, Nat.zero_le _, ?_⟩
    refine s_151 (lo := 0) (hi := 0) hsp h2 (by decide) (by decide) (fun S3 y3 f3 h3 _ _ => f_155_97 hE ?_)
    have k3 := h3.1.1
    obtain ⟨a1, a2, a3⟩ := h3.1.row (F := 80) (o := 7) (k := 15) (n := 300) (by decide +kernel)
    obtain ⟨a4, a5, a6⟩ := h3.1.row (F := 81) (o := 8) (k := 15) (n := 300) (by decide +kernel)
    have f23 := f2.trans f3
    have j86 : S3.I 86 m = nI B := (f23.2.2.2.2.2.2.2.2 86 m (Or.inr (by decide))).trans i86
    have j76 : S3.I 76 m = S0.I 76 m := (f23.2.2.2.2.2.2.2.2 76 m (Or.inr (by decide))).trans i76
    unfold q_155_97
    rw [k3, a1, a2, a3, j86, nI_clamp (n := c) (by omega)]
    refine ⟨rfl, rfl, rfl, vp_in_nI hc (by decide), ?_⟩
    have g1 : cdF m c B S3 (S3.wI (m + 7) c (nI B)) := cdF_wI (by omega) (by omega)
    have hI1 : (S3.wI (m + 7) c (nI B)).I = S3.I := or_wI_I S3 (m + 7) c (nI B)
    have r1 : ∀ a z, (S3.wI (m + 7) c (nI B)).rI a z = if a = m + 7 ∧ z = c then nI B else S3.rI a z := fun a z => or_wI_rI S3 (m + 7) c (nI B) a z
    have h4 := h3.cd g1 (by rw [hI1]) (by rw [hI1]) (by rw [hI1])
    intro S4
    have G1 : cdF m c B S3 S4 := g1
    have HI : S4.I = S3.I := hI1
    have R1 : ∀ a z, S4.rI a z = if a = m + 7 ∧ z = c then nI B else S3.rI a z := r1
    have H4 : mtS S4 m ce b e (bwS b e 0 0 (inB b e u)) := h4
    generalize S4 = U at G1 HI R1 H4 ⊢
    rw [G1.1, G1.2.1, G1.2.2.2.1, k3, a4, a5, a6]
    refine ⟨rfl, rfl, vp_in_nI hc (by decide), ?_⟩
    have g2 : cdF m c B U (U.wI (m + 8) c (nI n)) := cdF_wI (by omega) (by omega)
    have hI2 : (U.wI (m + 8) c (nI n)).I = S3.I := (or_wI_I U (m + 8) c (nI n)).trans HI
    have r2 : ∀ a z, (U.wI (m + 8) c (nI n)).rI a z = if a = m + 8 ∧ z = c then nI n else U.rI a z := fun a z => or_wI_rI U (m + 8) c (nI n) a z
    have h5 := H4.cd g2 (by rw [or_wI_I]) (by rw [or_wI_I]) (by rw [or_wI_I])
    have t5 : cdF m c B S0 (U.wI (m + 8) c (nI n)) := (((t1.trans f23.cd).trans G1).trans g2)
    show c_155_118 (ox_M sp (d + 2)) m (nI c) (nI n) y3 (nI 0) (U.wI (m + 8) c (nI n)) mr sr Q
    generalize U.wI (m + 8) c (nI n) = V at g2 hI2 r2 h5 t5 ⊢
    refine s_155_118 (S0 := V) (s0 := bwS b e 0 0 (inB b e u)) hsp hn (fun q => ?_) (fun S' q1 q2 q3 q4 q5 => ?_) n 0 V (Nat.zero_add n) ⟨rfl, rfl, rfl, rfl, rfl, rfl, rfl, fun _ _ _ => rfl, fun _ _ _ => rfl, fun _ _ _ _ _ => rfl, fun _ _ => rfl⟩ rfl (fun _ _ _ _ => rfl) h5 (fun _ => ⟨by rw [hI2]; exact j86, fun j hj => absurd hj (Nat.not_lt_zero j)⟩)
    · obtain ⟨v1, v2, v3, -⟩ := bwS_none q
      obtain ⟨w1, w2, w3, w4, -⟩ := inB_none v1
      have e1 : (inB b e u).1 = u.1 + 1 := by rw [w4]
      have := hB w1
      have hv := v2.1
      rw [v3]
      show B + e < 2100 + ((inB b e u).1 + 1) ∧ (inB b e u).1 + 1 ≤ e
      omega
    · have hst : bwN b e (bwS b e 0 0 (inB b e u)) n = inS b e u := by
        by_cases q : (bwS b e 0 0 (inB b e u)).2 = none
        · have hq := (bwS_none q).1
          unfold inS
          rw [← hnl hq]
        · exact inS_1 q n
      rw [hst] at q4 q5
      have i76' : V.I 76 m = S0.I 76 m := by rw [hI2]; exact j76
      refine hQ S' (t5.trans q1) (q2.trans i76') (fun a z1 z2 => ?_) q4 (fun q => ?_)
      · rw [q3 a c z1 (by omega), r2, if_neg (fun w => by omega), R1, if_neg (fun w => by omega), f23.2.2.2.2.2.2.2.1]
        exact ro a z1 z2
      · obtain ⟨x1, x2⟩ := q5 q
        have q0 : (bwN b e (bwS b e 0 0 (inB b e u)) (inL b e u)).2 = none := q
        obtain ⟨c1, -, -, -⟩ := bwN_none (inL b e u) q0
        obtain ⟨v1, v2, v3, -⟩ := bwS_none c1
        obtain ⟨w1, w2, w3, w4, -⟩ := inB_none v1
        have e1 : (bwS b e 0 0 (inB b e u)).1 = u.1 + 2 := by rw [v3, w4]
        have hl := hnl v1
        rw [e1] at x2
        rw [← hl]
        refine ⟨?_, ?_, x1, x2⟩
        · rw [q3 (m + 7) c (by omega) (by omega), r2, if_neg (fun w => by omega), R1, if_pos ⟨rfl, rfl⟩]
        · rw [q3 (m + 8) c (by omega) (by omega), r2, if_pos ⟨rfl, rfl⟩]
  have k1 := h1.1.1
  have em : nI n - nI n / 2 * 2 = nI (n % 2) := pk_rem (d := 2) (by omega) (by decide) (by decide)
  refine f_155_66 hE ?_
  unfold q_155_66
  rw [k1, em]
  obtain ⟨p, f⟩ := u
  cases f with
  | some v =>
    have hb1 : S1.I 132 m = 1 := (h1.2.2.2.2.1 v rfl).1
    have hB' : inB b e (p, some v) = (p, some v) := by
      unfold inB inA
      by_cases q : (p, some v).1 < e ∧ b (p, some v).1 % 2 = 0
      · rw [if_pos q]; rfl
      · rw [if_neg q]; rfl
    refine ⟨rfl, fun _ => rest S1 tkF.refl (by rw [hB']; exact h1) (fun q => by rw [hB'] at q; cases q), fun z => absurd z (by rw [hb1]; decide)⟩
  | none =>
    by_cases ok : p < e ∧ 2 ≤ b p ∧ b p ≤ 160
    · rw [bwS_ok ok] at h1 hnb
      have hnp : n = b p := hnb rfl
      have hb0 : S1.I 132 m = 0 := (h1.2.2.2.1 rfl).2.1
      have hat : S1.I 120 m = nI (p + 1) := (h1.2.2.2.1 rfl).1
      refine ⟨rfl, fun z => absurd hb0 z, fun _ => ⟨by decide, fun z => ?_, fun z => ⟨rfl, by decide, rfl, by decide, 0, 0, Nat.zero_le _, Nat.zero_le _, ?_⟩⟩⟩
      · have ev : b p % 2 = 0 := by
          have : ¬ n % 2 = 1 := fun q => z (by rw [q]; rfl)
          omega
        have hB' : inB b e (p, none) = (p + 1, none) := by
          unfold inB
          rw [show inA b e (p, none) = (p, none) from if_pos ⟨ok.1, ev⟩, bwS_ok ok]
        have hL' : inL b e (p, none) = b p := by
          show (if (inB b e (p, none)).2 = none then b p else 0) = b p
          rw [hB']; rfl
        exact rest S1 tkF.refl (by rw [hB']; exact h1) (fun _ => by rw [hL']; exact hnp)
      · have od : b p % 2 = 1 := by
          have := (nI_eq (b := 1) (by omega) (by decide)).mp z
          omega
        have hB' : inB b e (p, none) = (p, some p) := by
          unfold inB
          rw [show inA b e (p, none) = (p, some p) from if_neg (fun q => by have : b p % 2 = 0 := q.2; omega)]
          rfl
        rw [hat, nI_pred]
        exact s_150 hsp h1 (fun S2 f2 h2 => rest S2 f2 (by rw [hB']; exact h2.any) (fun q => by rw [hB'] at q; cases q))
    · rw [bwS_no ok] at h1
      have hb1 : S1.I 132 m = 1 := (h1.2.2.2.2.1 p rfl).1
      have hB' : inB b e (p, none) = (p, some p) := by
        unfold inB
        by_cases q : p < e ∧ b p % 2 = 0
        · rw [show inA b e (p, none) = (p, none) from if_pos q, bwS_no ok]
        · rw [show inA b e (p, none) = (p, some p) from if_neg q]
          rfl
      refine ⟨rfl, fun _ => rest S1 tkF.refl (by rw [hB']; exact h1) (fun q => by rw [hB'] at q; cases q), fun z => absurd z (by rw [hb1]; decide)⟩
end OMCe
