/-! the reference reads the tape: readCode -/
/-- what reading a code's head and bytes leaves alone -/
def cdF (m c B : Nat) (S S' : ox_St) : Prop := S'.K = S.K ∧ S'.len = S.len ∧ S'.n = S.n ∧ S'.R = S.R ∧ S'.J = S.J ∧ S'.rR = S.rR ∧ S'.rJ = S.rJ ∧ (∀ F a, a ≠ m ∨ (F ≠ 70 ∧ F ≠ 76 ∧ F ≠ 86 ∧ F ≠ 120 ∧ F ≠ 132) → S'.I F a = S.I F a) ∧ (∀ a, a < m + 4 ∨ m + 8 < a → a ≠ m + 13 → S'.rI a = S.rI a) ∧ (∀ a z, m + 4 ≤ a → a ≤ m + 8 → z ≠ c → S'.rI a z = S.rI a z) ∧ ∀ z, z < B → S'.rI (m + 13) z = S.rI (m + 13) z
theorem cdF.trans {m c B : Nat} {S S' U : ox_St} (h : cdF m c B S S') (g : cdF m c B S' U) : cdF m c B S U := by
  obtain ⟨h1, h2, h3, h4, h5, h6, h7, h8, h9, h10, h11⟩ := h
  obtain ⟨g1, g2, g3, g4, g5, g6, g7, g8, g9, g10, g11⟩ := g
  exact ⟨g1.trans h1, g2.trans h2, g3.trans h3, g4.trans h4, g5.trans h5, g6.trans h6, g7.trans h7, fun F a q => (g8 F a q).trans (h8 F a q), fun a q1 q2 => (g9 a q1 q2).trans (h9 a q1 q2), fun a z q1 q2 q3 => (g10 a z q1 q2 q3).trans (h10 a z q1 q2 q3), fun z q => (g11 z q).trans (h11 z q)⟩
theorem tkF.cd {m c B : Nat} {S S' : ox_St} (h : tkF m S S') : cdF m c B S S' := by
  obtain ⟨h1, h2, h3, h4, h5, h6, h7, h8, h9⟩ := h
  exact ⟨h1, h2, h3, h4, h5, h6, h7, fun F a q => h9 F a (by omega), fun a _ _ => by rw [h8], fun a z _ _ _ => by rw [h8], fun z _ => by rw [h8]⟩
theorem cdF_sI {m c B F : Nat} {S : ox_St} {v : Int32} (h : F = 76 ∨ F = 86) : cdF m c B S (S.sI F m v) := ⟨rfl, rfl, rfl, rfl, rfl, rfl, rfl, fun G a q => ox_u2_ne (fun e => by omega), fun _ _ _ => rfl, fun _ _ _ _ _ => rfl, fun _ _ => rfl⟩
theorem cdF_wI {m c B t : Nat} {S : ox_St} {v : Int32} (h1 : m + 4 ≤ t) (h2 : t ≤ m + 8) : cdF m c B S (S.wI t c v) := ⟨rfl, rfl, rfl, rfl, rfl, rfl, rfl, fun _ _ _ => rfl, fun a q1 q2 => ox_u2_row _ _ (fun e => by omega), fun a z _ _ q => ox_u2_ne (fun e => q e.2), fun z _ => ox_u2_ne (fun e => by omega)⟩
theorem cdF_w13 {m c B i : Nat} {S : ox_St} {v : Int32} (h : B ≤ i) : cdF m c B S (S.wI (m + 13) i v) := ⟨rfl, rfl, rfl, rfl, rfl, rfl, rfl, fun _ _ _ => rfl, fun a q1 q2 => ox_u2_row _ _ (fun e => q2 e), fun a z q1 q2 _ => ox_u2_ne (fun e => by omega), fun z q => ox_u2_ne (fun e => by omega)⟩
section OMCd
variable {sp : ox_E} {d mr sr : Nat} {S : ox_St} {Q : ox_Q} {m ce e c B : Nat} {b : Nat → Nat} {s : oTS}
theorem mtS.cd {S' : ox_St} (h : mtS S m ce b e s) (g : cdF m c B S S') (h0 : S'.I 70 m = S.I 70 m) (h1 : S'.I 120 m = S.I 120 m) (h2 : S'.I 132 m = S.I 132 m) : mtS S' m ce b e s := by
  obtain ⟨a1, a2, a3, a4, a5, a6⟩ := h
  refine ⟨a1.next g.1 g.2.1 (fun F => by rw [g.2.2.2.1]), (g.2.2.2.2.2.2.2.1 121 m (Or.inr (by decide))).trans a2, a3, fun z => by rw [h1, h2, h0]; exact a4 z, fun v hv => by rw [h2, h0]; exact a5 v hv, fun i hi => ?_⟩
  rw [g.2.2.2.2.2.2.2.2.1 (m + 1) (by omega) (by omega)]
  exact a6 i hi
/-- the bytes of a code -/
theorem s_155_118 (hsp : ox_mono sp) {S0 : ox_St} {n : Nat} {x3 : Int32} {s0 : oTS} (hn : n ≤ 160) (hB : s0.2 = none → B + e < 2100 + s0.1 ∧ s0.1 ≤ e)
    (hQ : ∀ S', cdF m c B S0 S' → S'.I 76 m = S0.I 76 m → (∀ a z, m + 4 ≤ a → a ≤ m + 8 → S'.rI a z = S0.rI a z) → mtS S' m ce b e (bwN b e s0 n) → ((bwN b e s0 n).2 = none → S'.I 86 m = nI (B + n) ∧ ∀ j, j < n → S'.rI (m + 13) (B + j) = nI (b (s0.1 + j))) → Q (some (.inl (nI c))) S') : ∀ (r i : Nat) (S : ox_St), i + r = n → cdF m c B S0 S → S.I 76 m = S0.I 76 m → (∀ a z, m + 4 ≤ a → a ≤ m + 8 → S.rI a z = S0.rI a z) → mtS S m ce b e (bwN b e s0 i) → ((bwN b e s0 i).2 = none → S.I 86 m = nI (B + i) ∧ ∀ j, j < i → S.rI (m + 13) (B + j) = nI (b (s0.1 + j))) → c_155_118 (ox_M sp (d + 2)) m (nI c) (nI n) x3 (nI i) S mr sr Q := by
  have hE : ox_mono (ox_M sp (d + 2)) := ox_M_mono hsp _
  intro r
  induction r with
  | zero =>
    intro i S hi t0 i76 ro h hw
    obtain rfl : i = n := by omega
    exact f_155_118 hE ⟨fun _ => ⟨trivial, hQ S t0 i76 ro h hw⟩, fun z => absurd (nI_le (Nat.le_refl i) (by omega)) z⟩
  | succ r ih =>
    intro i S hi t0 i76 ro h hw
    have hin : i < n := by omega
    have k := h.1.1
    obtain ⟨a1, a2, a3⟩ := h.1.row (F := 89) (o := 13) (k := 15) (n := 2100) (by decide +kernel)
    refine f_155_118 hE ⟨fun z => absurd z (nI_ge hin (by omega)), fun _ => ⟨by rw [k]; rfl, fun z => ⟨trivial, ?_⟩, fun z => ⟨by rw [k]; rfl, by rw [k]; rfl, by decide, k, by decide, 0, 0, Nat.zero_le _, Nat.zero_le _, ?_⟩⟩⟩
    · have hf : (bwN b e s0 i).2 ≠ none := fun q => z (h.2.2.2.1 q).2.1
      have hst : bwN b e s0 n = bwN b e s0 i := by
        cases q : (bwN b e s0 i).2 with
        | none => exact absurd q hf
        | some v =>
          have hs' : bwN b e s0 i = ((bwN b e s0 i).1, some v) := by rw [← q]
          have hl := bwN_some hs' (n - i)
          rw [show i + (n - i) = n by omega, ← hs'] at hl
          exact hl
      exact hQ S t0 i76 ro (by rw [hst]; exact h) (fun q => absurd (by rw [hst] at q; exact q) hf)
    · have hf : (bwN b e s0 i).2 = none := by
        cases q : (bwN b e s0 i).2 with
        | none => rfl
        | some u => exact absurd z (by rw [(h.2.2.2.2.1 u q).1]; decide)
      obtain ⟨i86, hrow⟩ := hw hf
      have hlt : B + i < 2100 := by
        obtain ⟨c1, -, c3, -⟩ := bwN_none i hf
        have := hB c1
        omega
      refine s_151 (lo := 0) (hi := 255) hsp h (by decide) (by decide) (fun S1 y f1 h1 y1 y2 => f_155_147 hE ?_)
      have k1 := h1.1.1
      have j86 : S1.I 86 m = nI (B + i) := (f1.2.2.2.2.2.2.2.2 86 m (Or.inr (by decide))).trans i86
      have j76 : S1.I 76 m = S0.I 76 m := (f1.2.2.2.2.2.2.2.2 76 m (Or.inr (by decide))).trans i76
      have ek : S1.K (m + 13) = 15 := by rw [f1.1]; exact a2
      have el : S1.len (m + 13) = 2100 := by rw [f1.2.1]; exact a3
      unfold q_155_147
      rw [i86, a1, ek, el, nI_clamp (n := B + i) (by omega)]
      refine ⟨rfl, vp_in_nI (by omega) (by decide), ?_⟩
      have g1 : cdF m c B S1 (S1.wI (m + 13) (B + i) y) := cdF_w13 (by omega)
      have r13 : ∀ z, (S1.wI (m + 13) (B + i) y).rI (m + 13) z = if z = B + i then y else S1.rI (m + 13) z := fun z => by
        rw [or_wI_rI]
        by_cases q : z = B + i
        · rw [if_pos ⟨rfl, q⟩, if_pos q]
        · rw [if_neg (fun w => q w.2), if_neg q]
      have ro2 : ∀ a z, m + 4 ≤ a → a ≤ m + 8 → (S1.wI (m + 13) (B + i) y).rI a z = S1.rI a z := fun a z q1 q2 => by rw [or_wI_rI, if_neg (fun w => by omega)]
      have hI : (S1.wI (m + 13) (B + i) y).I = S1.I := or_wI_I S1 (m + 13) (B + i) y
      have hK : (S1.wI (m + 13) (B + i) y).K = S1.K := or_wI_K S1 (m + 13) (B + i) y
      have h2 := h1.cd g1 (by rw [hI]) (by rw [hI]) (by rw [hI])
      intro S2
      have G1 : cdF m c B S1 S2 := g1
      have R13 : ∀ z, S2.rI (m + 13) z = if z = B + i then y else S1.rI (m + 13) z := r13
      have RO : ∀ a z, m + 4 ≤ a → a ≤ m + 8 → S2.rI a z = S1.rI a z := ro2
      have HI : S2.I = S1.I := hI
      have HK : S2.K = S1.K := hK
      have H2 : mtS S2 m ce b e (bwN b e s0 (i + 1)) := h2
      generalize S2 = U at G1 R13 RO HI HK H2 ⊢
      rw [HK, k1, HI, j86, nI_1, nI_1]
      refine ⟨rfl, rfl, ?_⟩
      have g2 : cdF m c B U (U.sI 86 m (nI (B + i + 1))) := cdF_sI (Or.inr rfl)
      refine ih (i + 1) (U.sI 86 m (nI (B + i + 1))) (by omega) (((t0.trans f1.cd).trans G1).trans g2) ?_ (fun a z q1 q2 => ?_) (H2.cd g2 ?_ ?_ ?_) (fun q => ⟨if_pos ⟨rfl, rfl⟩, fun j hj => ?_⟩)
      · rw [or_sI_I, if_neg (fun w => by cases w.1), HI]; exact j76
      · rw [or_sI_rI, RO a z q1 q2, f1.2.2.2.2.2.2.2.1]; exact ro a z q1 q2
      · rw [or_sI_I, if_neg (fun w => by cases w.1)]
      · rw [or_sI_I, if_neg (fun w => by cases w.1)]
      · rw [or_sI_I, if_neg (fun w => by cases w.1)]
      · obtain ⟨v1, v2, v3, v4⟩ := bwS_none (s := bwN b e s0 i) q
        obtain ⟨c1, -, c3, c4⟩ := bwN_none i v1
        rw [or_sI_rI, R13]
        by_cases hj2 : j = i
        · rw [if_pos (by rw [hj2]), hj2, y1 q, c4]
        · rw [if_neg (by omega), f1.2.2.2.2.2.2.2.1]
          exact hrow j (by omega)
end OMCd
