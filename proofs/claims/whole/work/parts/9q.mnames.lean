/-! the reference reads the tape: readNames -/
/-- what reading names leaves alone -/
def nmF (m c D : Nat) (S S' : ox_St) : Prop := S'.K = S.K ∧ S'.len = S.len ∧ S'.n = S.n ∧ S'.R = S.R ∧ S'.J = S.J ∧ S'.rR = S.rR ∧ (∀ F a, a ≠ m ∨ (F ≠ 70 ∧ F ≠ 88 ∧ F ≠ 120 ∧ F ≠ 132) → S'.I F a = S.I F a) ∧ (∀ a, a ≠ m + 11 → a ≠ m + 12 → S'.rI a = S.rI a) ∧ (∀ a z, z ≠ c → S'.rI a z = S.rI a z) ∧ (∀ a, a ≠ m + 15 → S'.rJ a = S.rJ a) ∧ ∀ z, z < D → S'.rJ (m + 15) z = S.rJ (m + 15) z
theorem nmF.trans {m c D : Nat} {S S' U : ox_St} (h : nmF m c D S S') (g : nmF m c D S' U) : nmF m c D S U := by
  obtain ⟨h1, h2, h3, h4, h5, h6, h7, h8, h9, h10, h11⟩ := h
  obtain ⟨g1, g2, g3, g4, g5, g6, g7, g8, g9, g10, g11⟩ := g
  exact ⟨g1.trans h1, g2.trans h2, g3.trans h3, g4.trans h4, g5.trans h5, g6.trans h6, fun F a q => (g7 F a q).trans (h7 F a q), fun a q1 q2 => (g8 a q1 q2).trans (h8 a q1 q2), fun a z q => (g9 a z q).trans (h9 a z q), fun a q => (g10 a q).trans (h10 a q), fun z q => (g11 z q).trans (h11 z q)⟩
theorem nmF.refl {m c D : Nat} {S : ox_St} : nmF m c D S S := ⟨rfl, rfl, rfl, rfl, rfl, rfl, fun _ _ _ => rfl, fun _ _ _ => rfl, fun _ _ _ => rfl, fun _ _ => rfl, fun _ _ => rfl⟩
theorem tkF.nm {m c D : Nat} {S S' : ox_St} (h : tkF m S S') : nmF m c D S S' := by
  obtain ⟨h1, h2, h3, h4, h5, h6, h7, h8, h9⟩ := h
  exact ⟨h1, h2, h3, h4, h5, h6, fun F a q => h9 F a (by omega), fun a _ _ => by rw [h8], fun a z _ => by rw [h8], fun a _ => by rw [h7], fun z _ => by rw [h7]⟩
theorem nmF_sI {m c D : Nat} {S : ox_St} {v : Int32} : nmF m c D S (S.sI 88 m v) := ⟨rfl, rfl, rfl, rfl, rfl, rfl, fun G a q => ox_u2_ne (fun e => by omega), fun _ _ _ => rfl, fun _ _ _ => rfl, fun _ _ => rfl, fun _ _ => rfl⟩
theorem nmF_wI {m c D t : Nat} {S : ox_St} {v : Int32} (h : t = m + 11 ∨ t = m + 12) : nmF m c D S (S.wI t c v) := ⟨rfl, rfl, rfl, rfl, rfl, rfl, fun _ _ _ => rfl, fun a q1 q2 => ox_u2_row _ _ (fun e => by omega), fun a z q => ox_u2_ne (fun e => q e.2), fun _ _ => rfl, fun _ _ => rfl⟩
theorem nmF_wJ {m c D i : Nat} {S : ox_St} {v : Int64} (h : D ≤ i) : nmF m c D S (S.wJ (m + 15) i v) := ⟨rfl, rfl, rfl, rfl, rfl, rfl, fun _ _ _ => rfl, fun _ _ _ => rfl, fun _ _ _ => rfl, fun a q => ox_u2_row _ _ (fun e => q e), fun z q => ox_u2_ne (fun e => by omega)⟩
section OMNm
variable {sp : ox_E} {d mr sr : Nat} {S : ox_St} {Q : ox_Q} {m ce e c D : Nat} {b : Nat → Nat} {s : oTS}
theorem mtS.nm {S' : ox_St} (h : mtS S m ce b e s) (g : nmF m c D S S') (h0 : S'.I 70 m = S.I 70 m) (h1 : S'.I 120 m = S.I 120 m) (h2 : S'.I 132 m = S.I 132 m) : mtS S' m ce b e s := by
  obtain ⟨a1, a2, a3, a4, a5, a6⟩ := h
  refine ⟨a1.next g.1 g.2.1 (fun F => by rw [g.2.2.2.1]), (g.2.2.2.2.2.2.1 121 m (Or.inr (by decide))).trans a2, a3, fun z => by rw [h1, h2, h0]; exact a4 z, fun v hv => by rw [h2, h0]; exact a5 v hv, fun i hi => ?_⟩
  rw [g.2.2.2.2.2.2.2.1 (m + 1) (by omega) (by omega)]
  exact a6 i hi
/-- a name is put down -/
def nmX (E : ox_E) (m : Nat) (x1 x2 x3 : Int32) (x5 : Int64) (S : ox_St) (mr sr : Nat) (Q : ox_Q) : Prop :=
  (ox_has (S.K m) 91 = true ∧ (ox_has (S.K m) 88 = true ∧ (S.K (S.R 91 m) = 16 ∧ vp_in (S.I 88 m) (S.len (S.R 91 m)) ∧ (let S1 := S.wJ (S.R 91 m) (Int32.toNatClampNeg (S.I 88 m)) x5
  (ox_has (S1.K m) 88 = true ∧ (ox_has (S1.K m) 88 = true ∧ (let S2 := S1.sI 88 m ((S1.I 88 m) + 1)
  c_156_27 E m x1 x2 (x3 + 1) S2 mr sr Q)))))))
theorem nmX_of {E : ox_E} {x1 x2 : Int32} {x5 : Int64} {i : Nat} (h : mtS S m ce b e s) (i88 : S.I 88 m = nI D) (hD : D < 2100) (hQ : c_156_27 E m x1 x2 (nI (i + 1)) ((S.wJ (m + 15) D x5).sI 88 m (nI (D + 1))) mr sr Q) : nmX E m x1 x2 (nI i) x5 S mr sr Q := by
  have k := h.1.1
  obtain ⟨a1, a2, a3⟩ := h.1.row (F := 91) (o := 15) (k := 16) (n := 2100) (by decide +kernel)
  unfold nmX
  rw [k, a1, a2, a3, i88, nI_clamp (n := D) (by omega), nI_1 i]
  refine ⟨rfl, rfl, rfl, vp_in_nI hD (by decide), ?_⟩
  have hK : (S.wJ (m + 15) D x5).K m = 14 := k
  have hI : (S.wJ (m + 15) D x5).I 88 m = nI D := i88
  intro S1
  have HK : S1.K m = 14 := hK
  have HI : S1.I 88 m = nI D := hI
  have HQ : c_156_27 E m x1 x2 (nI (i + 1)) (S1.sI 88 m (nI (D + 1))) mr sr Q := hQ
  generalize S1 = U at HK HI HQ ⊢
  rw [HK, HI, nI_1]
  exact ⟨rfl, rfl, HQ⟩
/-- the letters of one name -/
theorem s_156_54 (hsp : ox_mono sp) {S0 : ox_St} {x1 x2 : Int32} {L i : Nat} {s1 : oTS} (hL : L ≤ 8) (i88 : S0.I 88 m = nI D) (hD : D < 2100)
    (hQ : ∀ S' v, tkF m S0 S' → mtS S' m ce b e (bwZ b e s1 L) → ((bwZ b e s1 L).2 = none → v = lN (nmV b s1.1 L)) → c_156_27 (ox_M sp (d + 2)) m x1 x2 (nI (i + 1)) ((S'.wJ (m + 15) D v).sI 88 m (nI (D + 1))) mr sr Q) : ∀ (r j : Nat) (S : ox_St) (v : Int64), j + r = L → tkF m S0 S → mtS S m ce b e (bwZ b e s1 j) → ((bwZ b e s1 j).2 = none → v = lN (nmV b s1.1 j)) → c_156_54 (ox_M sp (d + 2)) m x1 x2 (nI i) (nI L) v (nI j) S mr sr Q := by
  have hE : ox_mono (ox_M sp (d + 2)) := ox_M_mono hsp _
  intro r
  induction r with
  | zero =>
    intro j S v hj t0 h hw
    obtain rfl : j = L := by omega
    have j88 : S.I 88 m = nI D := (t0.2.2.2.2.2.2.2.2 88 m (Or.inr (by decide))).trans i88
    exact f_156_54 hE ⟨fun _ => nmX_of h j88 hD (hQ S v t0 h hw), fun z => absurd (nI_le (Nat.le_refl _) (by omega)) z⟩
  | succ r ih =>
    intro j S v hj t0 h hw
    have j88 : S.I 88 m = nI D := (t0.2.2.2.2.2.2.2.2 88 m (Or.inr (by decide))).trans i88
    have k := h.1.1
    refine f_156_54 hE ⟨fun z => absurd z (nI_ge (by omega) (by omega)), fun _ => ⟨by rw [k]; rfl, fun z => ?_, fun z => ⟨by decide, k, by decide, 0, 0, Nat.zero_le _, Nat.zero_le _, ?_⟩⟩⟩
    · have hf : (bwZ b e s1 j).2 ≠ none := fun q => z (h.2.2.2.1 q).2.1
      have hst : bwZ b e s1 L = bwZ b e s1 j := by
        cases q : (bwZ b e s1 j).2 with
        | none => exact absurd q hf
        | some v =>
          have hs' : bwZ b e s1 j = ((bwZ b e s1 j).1, some v) := by rw [← q]
          have hl := bwZ_some hs' (L - j)
          rw [show j + (L - j) = L by omega, ← hs'] at hl
          exact hl
      exact nmX_of h j88 hD (hQ S v t0 (by rw [hst]; exact h) (fun q => absurd (by rw [hst] at q; exact q) hf))
    · refine s_151 (lo := 97) (hi := 122) hsp h (by decide) (by decide) (fun S1 y f1 h1 y1 y2 => f_156_81 hE ?_)
      unfold q_156_81
      rw [nI_1]
      refine ih (j + 1) S1 _ (by omega) (t0.trans f1) h1 (fun q => ?_)
      obtain ⟨g1, g2, g3, -⟩ := bwS_none (s := bwZ b e s1 j) q
      obtain ⟨c1, c3, c4⟩ := bwZ_none j g1
      rw [hw g1, y1 q, c4]
      rw [c4] at g2
      have e1 : b (s1.1 + j) ≤ 122 := g2.2.2
      have e0 : s1.1 + j < e := g2.1
      have hv : nmV b s1.1 j < 256 ^ 7 := Nat.lt_of_lt_of_le (nmV_lt j (fun q hq => (h.2.2.2.2.2 _ (by omega)).2)) (Nat.pow_le_pow_right (by decide) (by omega))
      show (lN (nmV b s1.1 j) <<< (Int32.toInt64 8 &&& 63)) ||| Int32.toInt64 (nI (b (s1.1 + j))) = lN (nmV b s1.1 j * 256 + b (s1.1 + j))
      rw [show Int32.toInt64 8 = (nI 8).toInt64 from rfl, wb_shl _ (by decide), nI_l (by omega)]
      exact g_or (k := 8) (p := 256) rfl (by omega) (by omega)
end OMNm
