/-! the reference reads the tape: readCode, from its first byte -/
section OMCf
variable {sp : ox_E} {d mr sr : Nat} {S : ox_St} {Q : ox_Q} {m ce e c B : Nat} {b : Nat → Nat} {s : oTS}
theorem hdW {t : Nat} {v : Int32} (h : mtS S m ce b e s) (h1 : 4 ≤ t) (h2 : t ≤ 8) : cdF m c B S (S.wI (m + t) c v) ∧ mtS (S.wI (m + t) c v) m ce b e s ∧ (S.wI (m + t) c v).I = S.I ∧ ∀ a z, (S.wI (m + t) c v).rI a z = if a = m + t ∧ z = c then v else S.rI a z := by
  have g : cdF m c B S (S.wI (m + t) c v) := cdF_wI (by omega) (by omega)
  have hI : (S.wI (m + t) c v).I = S.I := or_wI_I S (m + t) c v
  exact ⟨g, h.cd g (by rw [hI]) (by rw [hI]) (by rw [hI]), hI, fun a z => or_wI_rI S (m + t) c v a z⟩
theorem hdS_none (h : (hdS b e s).2 = none) : (hd3 b e s).2 = none ∧ s.2 = none ∧ hd3 b e s = (s.1 + 3, none) := by
  have q0 : (bwN b e (bwS b e 0 0 (inB b e (hd3 b e s))) (inL b e (hd3 b e s))).2 = none := h
  obtain ⟨c1, -, -, -⟩ := bwN_none (inL b e (hd3 b e s)) q0
  obtain ⟨v1, -, -, -⟩ := bwS_none c1
  obtain ⟨w1, -, -, -, -⟩ := inB_none v1
  obtain ⟨x1, -, x3, -⟩ := hd3_none w1
  exact ⟨w1, x1, x3⟩
/-- readCode -/
theorem s_155 (hsp : ox_mono sp) (hc : c < 300) (h : mtS S m ce b e s) (i76 : S.I 76 m = nI c) (i86 : S.I 86 m = nI B) (hB : s.2 = none → B + e < 2100 + s.1)
    (hQ : ∀ S', cdF m c B S S' → S'.I 76 m = nI (c + 1) → mtS S' m ce b e (hdS b e s) → ((hdS b e s).2 = none → S'.rI (m + 4) c = nI (b s.1) ∧ S'.rI (m + 5) c = nI (b (s.1 + 1)) ∧ S'.rI (m + 6) c = nI (b (s.1 + 2)) ∧ S'.rI (m + 7) c = nI B ∧ S'.rI (m + 8) c = nI (inL b e (s.1 + 3, none)) ∧ S'.I 86 m = nI (B + inL b e (s.1 + 3, none)) ∧ ∀ j, j < inL b e (s.1 + 3, none) → S'.rI (m + 13) (B + j) = nI (b (s.1 + 5 + j))) → Q (some (.inl (nI c))) S') : ox_M sp (d + 3) 155 [.inr (.inr m)] mr sr S Q := by
  have hE : ox_mono (ox_M sp (d + 2)) := ox_M_mono hsp _
  have k := h.1.1
  refine f_155 hsp ?_
  unfold q_155
  rw [i76, k, nI_1]
  refine ⟨rfl, ?_⟩
  intro w1
  refine ⟨rfl, rfl, ?_⟩
  have g0 : cdF m c B S (S.sI 76 m (nI (c + 1))) := cdF_sI (Or.inl rfl)
  have hI0 : ∀ F, F ≠ 76 → (S.sI 76 m (nI (c + 1))).I F m = S.I F m := fun F hF => by rw [or_sI_I, if_neg (fun w => hF w.1)]
  have hr0 : (S.sI 76 m (nI (c + 1))).rI = S.rI := rfl
  have hj0 : (S.sI 76 m (nI (c + 1))).I 76 m = nI (c + 1) := by rw [or_sI_I, if_pos ⟨rfl, rfl⟩]
  have h0 := h.cd g0 (hI0 70 (by decide)) (hI0 120 (by decide)) (hI0 132 (by decide))
  have j0 := (hI0 86 (by decide)).trans i86
  intro S2
  have G0 : cdF m c B S S2 ∧ mtS S2 m ce b e s ∧ S2.I 86 m = nI B ∧ S2.I 76 m = nI (c + 1) := ⟨g0, h0, j0, hj0⟩
  have W1 : w1 = nI c := rfl
  generalize S2 = X0 at G0 ⊢
  generalize w1 = w at W1 ⊢
  subst W1
  obtain ⟨t0, H0, a86, a76⟩ := G0
  have k0 := H0.1.1
  obtain ⟨p1, p2, p3⟩ := H0.1.row (F := 77) (o := 4) (k := 15) (n := 300) (by decide +kernel)
  rw [k0, p1]
  refine ⟨rfl, by decide, rfl, by decide, 0, 0, Nat.zero_le _, Nat.zero_le _, ?_⟩
  -- the arguments
  refine s_151 (lo := 0) (hi := 4) hsp H0 (by decide) (by decide) (fun S3 y3 f3 h3 u1 u2 => f_155_26 hE ?_)
  have hy3 : y3 = nI (hdA b e s) := by
    unfold hdA
    by_cases q : (bwS b e 0 4 s).2 = none
    · rw [if_pos q]; exact u1 q
    · rw [if_neg q]; exact u2 q
  subst hy3
  unfold q_155_26
  rw [f3.1, f3.2.1, p2, p3, nI_clamp (n := c) (by omega)]
  refine ⟨rfl, vp_in_nI hc (by decide), ?_⟩
  have W := hdW (c := c) (B := B) (t := 4) (v := nI (hdA b e s)) h3 (by decide) (by decide)
  intro S4
  have W' : cdF m c B S3 S4 ∧ mtS S4 m ce b e (bwS b e 0 4 s) ∧ S4.I = S3.I ∧ ∀ a z, S4.rI a z = if a = m + 4 ∧ z = c then nI (hdA b e s) else S3.rI a z := W
  generalize S4 = X1 at W' ⊢
  obtain ⟨t1, H1, I1, r1⟩ := W'
  have k1 := H1.1.1
  obtain ⟨p4, p5, p6⟩ := H1.1.row (F := 77) (o := 4) (k := 15) (n := 300) (by decide +kernel)
  obtain ⟨p7, p8, p9⟩ := H1.1.row (F := 78) (o := 5) (k := 15) (n := 300) (by decide +kernel)
  have rv : X1.rI (m + 4) c = nI (hdA b e s) := by rw [r1, if_pos ⟨rfl, rfl⟩]
  rw [k1, p4, p5, p6, p7, rv]
  refine ⟨rfl, rfl, rfl, vp_in_nI hc (by decide), by decide, rfl, by decide, 0, 0, Nat.zero_le _, Nat.zero_le _, ?_⟩
  -- the locals
  have hA := hdA_le (b := b) (e := e) (s := s)
  refine s_151 (lo := hdA b e s) (hi := 8) hsp H1 (by omega) (by decide) (fun S5 y5 f5 h5 u3 u4 => f_155_44 hE ?_)
  unfold q_155_44
  rw [f5.1, f5.2.1, p8, p9, nI_clamp (n := c) (by omega)]
  refine ⟨rfl, vp_in_nI hc (by decide), ?_⟩
  have W := hdW (c := c) (B := B) (t := 5) (v := y5) h5 (by decide) (by decide)
  intro S6
  have W' : cdF m c B S5 S6 ∧ mtS S6 m ce b e (bwS b e (hdA b e s) 8 (bwS b e 0 4 s)) ∧ S6.I = S5.I ∧ ∀ a z, S6.rI a z = if a = m + 5 ∧ z = c then y5 else S5.rI a z := W
  generalize S6 = X2 at W' ⊢
  obtain ⟨t2, H2, I2, r2⟩ := W'
  have k2 := H2.1.1
  obtain ⟨q1, q2, q3⟩ := H2.1.row (F := 79) (o := 6) (k := 15) (n := 300) (by decide +kernel)
  rw [k2, q1]
  refine ⟨rfl, by decide, rfl, by decide, 0, 0, Nat.zero_le _, Nat.zero_le _, ?_⟩
  -- the stack
  refine s_151 (lo := 1) (hi := 10) hsp H2 (by decide) (by decide) (fun S7 y7 f7 h7 u5 u6 => f_155_57 hE ?_)
  unfold q_155_57
  rw [f7.1, f7.2.1, q2, q3, nI_clamp (n := c) (by omega)]
  refine ⟨rfl, vp_in_nI hc (by decide), ?_⟩
  have W := hdW (c := c) (B := B) (t := 6) (v := y7) h7 (by decide) (by decide)
  intro S8
  have W' : cdF m c B S7 S8 ∧ mtS S8 m ce b e (hd3 b e s) ∧ S8.I = S7.I ∧ ∀ a z, S8.rI a z = if a = m + 6 ∧ z = c then y7 else S7.rI a z := W
  generalize S8 = X3 at W' ⊢
  obtain ⟨t3, H3, I3, r3⟩ := W'
  have k3 := H3.1.1
  rw [k3]
  refine ⟨by decide, rfl, by decide, 0, 0, Nat.zero_le _, Nat.zero_le _, ?_⟩
  -- the size and on
  have b76 : X3.I 76 m = nI (c + 1) := by
    rw [I3, f7.2.2.2.2.2.2.2.2 76 m (Or.inr (by decide)), I2, f5.2.2.2.2.2.2.2.2 76 m (Or.inr (by decide)), I1, f3.2.2.2.2.2.2.2.2 76 m (Or.inr (by decide))]
    exact a76
  have b86 : X3.I 86 m = nI B := by
    rw [I3, f7.2.2.2.2.2.2.2.2 86 m (Or.inr (by decide)), I2, f5.2.2.2.2.2.2.2.2 86 m (Or.inr (by decide)), I1, f3.2.2.2.2.2.2.2.2 86 m (Or.inr (by decide))]
    exact a86
  have tt : cdF m c B S X3 := ((((((t0.trans f3.cd).trans t1).trans f5.cd).trans t2).trans f7.cd).trans t3)
  refine s_151 (lo := 2) (hi := 160) hsp H3 (by decide) (by decide) (fun S9 y9 f9 h9 u7 u8 => ?_)
  refine s_155_57 (S0 := X3) (u := hd3 b e s) hsp hc (fun q => ?_) (fun S' z1 z2 z3 z4 z5 => ?_) S9 y9 h9 f9.cd (f9.2.2.2.2.2.2.2.2 76 m (Or.inr (by decide))) ((f9.2.2.2.2.2.2.2.2 86 m (Or.inr (by decide))).trans b86) (fun a _ _ => by rw [f9.2.2.2.2.2.2.2.1]) u7 u8
  · obtain ⟨x1, -, x3, -⟩ := hd3_none q
    have := hB x1
    rw [x3]
    show B + e < 2100 + (s.1 + 3)
    omega
  · refine hQ S' (tt.trans z1) (z2.trans b76) z4 (fun q => ?_)
    obtain ⟨v1, v2, v3⟩ := hdS_none q
    obtain ⟨-, -, -, -, -, -, -, -, n1, n2, n3, n4⟩ := hd3_none v1
    have hy5 : y5 = nI (b (s.1 + 1)) := by rw [u3 n2, n3]
    have hy7 : y7 = nI (b (s.1 + 2)) := by rw [u5 v1, n4]
    have hyA : hdA b e s = b s.1 := if_pos n1
    obtain ⟨w1, w2, w3, w4⟩ := z5 q
    rw [v3] at w2 w3 w4
    refine ⟨?_, ?_, ?_, w1, w2, w3, fun j hj => ?_⟩
    · rw [z3 (m + 4) (by omega) (by omega), r3, if_neg (fun w => by omega), f7.2.2.2.2.2.2.2.1, r2, if_neg (fun w => by omega), f5.2.2.2.2.2.2.2.1, rv, hyA]
    · rw [z3 (m + 5) (by omega) (by omega), r3, if_neg (fun w => by omega), f7.2.2.2.2.2.2.2.1, r2, if_pos ⟨rfl, rfl⟩, hy5]
    · rw [z3 (m + 6) (by omega) (by omega), r3, if_pos ⟨rfl, rfl⟩, hy7]
    · exact w4 j hj
end OMCf
