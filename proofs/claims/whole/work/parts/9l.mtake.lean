/-! the reference reads the tape: wrong, take, readNumber -/
/-- the reference's tape, read so far as s says -/
def mtS (S : ox_St) (m ce : Nat) (b : Nat → Nat) (e : Nat) (s : oTS) : Prop := oML S m ce ∧ S.I 121 m = nI e ∧ e ≤ 800 ∧ (s.2 = none → S.I 120 m = nI s.1 ∧ S.I 132 m = 0 ∧ s.1 ≤ e ∧ S.I 70 m = -1) ∧ (∀ v, s.2 = some v → S.I 132 m = 1 ∧ S.I 70 m = nI v) ∧ ∀ i, i < e → S.rI (m + 1) i = nI (b i) ∧ b i < 256
/-- only where it stands changes -/
def tkF (m : Nat) (S S' : ox_St) : Prop := S'.K = S.K ∧ S'.len = S.len ∧ S'.n = S.n ∧ S'.R = S.R ∧ S'.J = S.J ∧ S'.rR = S.rR ∧ S'.rJ = S.rJ ∧ S'.rI = S.rI ∧ ∀ F a, a ≠ m ∨ (F ≠ 70 ∧ F ≠ 120 ∧ F ≠ 132) → S'.I F a = S.I F a
theorem tkF.refl {m : Nat} {S : ox_St} : tkF m S S := ⟨rfl, rfl, rfl, rfl, rfl, rfl, rfl, rfl, fun _ _ _ => rfl⟩
theorem tkF.trans {m : Nat} {S S' U : ox_St} (h : tkF m S S') (g : tkF m S' U) : tkF m S U := by
  obtain ⟨h1, h2, h3, h4, h5, h6, h7, h8, h9⟩ := h
  obtain ⟨g1, g2, g3, g4, g5, g6, g7, g8, g9⟩ := g
  exact ⟨g1.trans h1, g2.trans h2, g3.trans h3, g4.trans h4, g5.trans h5, g6.trans h6, g7.trans h7, g8.trans h8, fun F a q => (g9 F a q).trans (h9 F a q)⟩
theorem tkF_sI {m F : Nat} {S : ox_St} {v : Int32} (h : F = 70 ∨ F = 120 ∨ F = 132) : tkF m S (S.sI F m v) := ⟨rfl, rfl, rfl, rfl, rfl, rfl, rfl, rfl, fun G a q => ox_u2_ne (fun e => by omega)⟩
theorem oML.tk {S S' : ox_St} {m ce : Nat} (h : oML S m ce) (g : tkF m S S') : oML S' m ce := h.next g.1 g.2.1 (fun F => by rw [g.2.2.2.1])
section OMTk
variable {sp : ox_E} {d mr sr : Nat} {S : ox_St} {Q : ox_Q} {m ce e : Nat} {b : Nat → Nat} {s : oTS}
/-- a fault at place v -/
theorem mtS.bad {p v : Nat} (h : mtS S m ce b e (p, none)) {S' : ox_St} (g : tkF m S S') (h2 : S'.I 132 m = 1) (h0 : S'.I 70 m = nI v) : mtS S' m ce b e (p, some v) := by
  obtain ⟨a1, a2, a3, a4, a5, a6⟩ := h
  refine ⟨a1.tk g, (g.2.2.2.2.2.2.2.2 121 m (Or.inr (by decide))).trans a2, a3, fun z => (by cases z), fun w hw => ?_, fun i hi => by rw [g.2.2.2.2.2.2.2.1]; exact a6 i hi⟩
  rw [← Option.some.inj hw]
  exact ⟨h2, h0⟩
/-- wrong, where nothing was wrong -/
theorem s_150 (hsp : ox_mono sp) {p : Nat} (h : mtS S m ce b e (p, none)) {v : Nat} (hQ : ∀ S', tkF m S S' → mtS S' m ce b e (p, some v) → Q none S') : ox_M sp (d + 1) 150 [.inr (.inr m), .inl (nI v)] mr sr S Q := by
  have k := h.1.1
  have i2 : S.I 132 m = 0 := (h.2.2.2.1 rfl).2.1
  refine f_150 hsp ⟨by rw [k]; rfl, fun _ => ⟨by rw [k]; rfl, Or.inr rfl, ?_⟩, fun z => absurd i2 z⟩
  refine ⟨by show ox_has (S.K m) 70 = true; rw [k]; rfl, rfl, ?_⟩
  have g : tkF m S ((S.sI 132 m 1).sI 70 m (nI v)) := (tkF_sI (Or.inr (Or.inr rfl))).trans (tkF_sI (Or.inl rfl))
  exact hQ _ g (h.bad g (by rw [or_sI_I, if_neg (fun z => by cases z.1), or_sI_I, if_pos ⟨rfl, rfl⟩]) (if_pos ⟨rfl, rfl⟩))
/-- take -/
theorem s_151 (hsp : ox_mono sp) (h : mtS S m ce b e s) {lo hi : Nat} (hlo : lo ≤ 255) (hhi : hi ≤ 255) (hQ : ∀ S' r, tkF m S S' → mtS S' m ce b e (bwS b e lo hi s) → ((bwS b e lo hi s).2 = none → r = nI (b s.1)) → ((bwS b e lo hi s).2 ≠ none → r = nI lo) → Q (some (.inl r)) S') : ox_M sp (d + 2) 151 [.inr (.inr m), .inl (nI lo), .inl (nI hi)] mr sr S Q := by
  have hE : ox_mono (ox_M sp (d + 1)) := ox_M_mono hsp _
  have h' := h
  obtain ⟨a1, a2, a3, a4, a5, a6⟩ := h'
  have k := a1.1
  obtain ⟨r1, r2, r3⟩ := a1.row (F := 71) (o := 1) (k := 15) (n := 800) (by decide +kernel)
  obtain ⟨p, f⟩ := s
  cases f with
  | some v =>
    have i2 := (a5 v rfl).1
    refine f_151 hsp ⟨by rw [k]; rfl, fun z => absurd z (by rw [i2]; decide), fun _ => ⟨trivial, hQ S (nI lo) tkF.refl h (fun z => by cases z) (fun _ => rfl)⟩⟩
  | none =>
    obtain ⟨i0, i2, hpe, i7⟩ := a4 rfl
    have hpe' : p ≤ e := hpe
    have i0' : S.I 120 m = nI p := i0
    -- something was wrong
    have bad : ¬ (p < e ∧ lo ≤ b p ∧ b p ≤ hi) → ∀ S', tkF m S S' → mtS S' m ce b e (p, some p) → k_151_65 (ox_M sp (d + 1)) m (nI lo) (nI hi) mr sr Q none S' := by
      intro c S' g h1
      have k1 := h1.1.1
      have j2 := (h1.2.2.2.2.1 p rfl).1
      refine f_151_65 hE ⟨by rw [k1]; rfl, fun z => absurd z (by rw [j2]; decide), fun _ => ⟨trivial, hQ S' (nI lo) g (by rw [bwS_no c]; exact h1) (fun z => by rw [bwS_no c] at z; cases z) (fun _ => rfl)⟩⟩
    refine f_151 hsp ?_
    unfold q_151
    rw [k, i0', i2, a2, r1, r2, r3, nI_clamp (n := p) (by omega)]
    refine ⟨rfl, fun _ => ⟨rfl, rfl, fun z => ?_, fun z => ⟨rfl, by decide, rfl, by decide, 0, 0, Nat.zero_le _, Nat.zero_le _, ?_⟩⟩, fun z => absurd rfl z⟩
    · have hlt : p < e := (nI_ltI (by omega) (by omega)).mp z
      obtain ⟨c1, c2⟩ := a6 p hlt
      rw [c1]
      refine ⟨rfl, rfl, rfl, vp_in_nI (by omega) (by decide), fun w => ⟨rfl, by decide, rfl, by decide, 0, 0, Nat.zero_le _, Nat.zero_le _, ?_⟩, fun w => ⟨rfl, rfl, rfl, vp_in_nI (by omega) (by decide), fun v => ?_, fun v => ⟨rfl, by decide, rfl, by decide, 0, 0, Nat.zero_le _, Nat.zero_le _, ?_⟩⟩⟩
      · have := (nI_ltI (by omega) (by omega)).mp w
        exact s_150 hsp h (fun S' g h1 => bad (by omega) S' g h1)
      · have ok : p < e ∧ lo ≤ b p ∧ b p ≤ hi := ⟨hlt, Nat.not_lt.mp fun q => w (nI_lt q (by omega)), (nI_leI (by omega) (by omega)).mp v⟩
        refine f_151_65 hE ?_
        unfold q_151_65
        rw [k, i2, i0', nI_1]
        refine ⟨rfl, fun _ => ⟨rfl, rfl, ?_⟩, fun q => absurd rfl q⟩
        have g : tkF m S (S.sI 120 m (nI (p + 1))) := tkF_sI (Or.inr (Or.inl rfl))
        have j0 : (S.sI 120 m (nI (p + 1))).I 120 m = nI (p + 1) := if_pos ⟨rfl, rfl⟩
        have h1 : mtS (S.sI 120 m (nI (p + 1))) m ce b e (p + 1, none) := by
          refine ⟨a1.tk g, by rw [or_sI_I, if_neg (fun q => by cases q.1)]; exact a2, a3, fun _ => ⟨j0, by rw [or_sI_I, if_neg (fun q => by cases q.1)]; exact i2, hlt, by rw [or_sI_I, if_neg (fun q => by cases q.1)]; exact i7⟩, fun v hv => (by cases hv), a6⟩
        have hq := hQ (S.sI 120 m (nI (p + 1))) (nI (b p)) g (by rw [bwS_ok ok]; exact h1) (fun _ => rfl) (fun q => absurd (by rw [bwS_ok ok]) q)
        have v1 : (S.sI 120 m (nI (p + 1))).rI (m + 1) p = nI (b p) := c1
        have q2 : (S.sI 120 m (nI (p + 1))).K = S.K := rfl
        have q3 : (S.sI 120 m (nI (p + 1))).len = S.len := rfl
        have q4 : (S.sI 120 m (nI (p + 1))).R = S.R := rfl
        intro S1
        have J0 : S1.I 120 m = nI (p + 1) := j0
        have V1 : S1.rI (m + 1) p = nI (b p) := v1
        have K1 : S1.K = S.K := q2
        have L1 : S1.len = S.len := q3
        have R1 : S1.R = S.R := q4
        have HQ : Q (some (.inl (nI (b p)))) S1 := hq
        generalize S1 = T at J0 V1 K1 L1 R1 HQ ⊢
        rw [K1, L1, R1, k, r1, r2, r3, J0, nI_pred, nI_clamp (n := p) (by omega), V1]
        exact ⟨rfl, rfl, rfl, vp_in_nI (by omega) (by decide), trivial, HQ⟩
      · exact s_150 hsp h (fun S' g h1 => bad (fun c => v (nI_le c.2.2 (by omega))) S' g h1)
    · have hpe2 : p = e := by
        have : ¬ p < e := fun q => z (nI_lt q (by omega))
        omega
      have := s_150 (d := d) (mr := 0) (sr := 0) (Q := k_151_28 (ox_M sp (d + 1)) m (nI lo) (nI hi) mr sr Q) hsp h (v := p) (fun S' g h1 => f_151_28 hE (bad (by omega) S' g h1))
      rw [hpe2] at this
      exact this
theorem s_153_4 (hsp : ox_mono sp) {S0 : ox_St} {T : Nat} (hT : S0.I 75 m = nI T) (hT16 : 16 ≤ T) (hT2 : T + 19 ≤ 1100000) (hs0 : s.2 = none)
    (hQ1 : ∀ U S' w c r, tkF m S0 U → mNw m ce T U S' → S'.I 75 m = nI (T + 3 + c) → mNum S' (m + ce) T w c r → dc w c → (c = 0 → r = 0) → (bwN b e s 4).2 = none → nv w c r = (nI (ivN b s.1 4)).toInt → mtS U m ce b e (bwN b e s 4) → Q (some (.inl (nI T))) S') (hQ0 : ∀ S', tkF m S0 S' → (bwN b e s 4).2 ≠ none → mtS S' m ce b e (bwN b e s 4) → Q (some (.inl 0)) S') : ∀ (r i : Nat) (S : ox_St) (v : Int32), i + r = 4 → tkF m S0 S → mtS S m ce b e (bwN b e s i) → ((bwN b e s i).2 = none → v = nI (ivN b s.1 i)) → c_153_4 (ox_M sp (d + 3)) m v (nI i) S mr sr Q
  | 0, i, S, v, hi, t0, h, hv => by
    have hE : ox_mono (ox_M sp (d + 3)) := ox_M_mono hsp _
    obtain rfl : i = 4 := by omega
    have k := h.1.1
    refine f_153_4 hE ⟨fun _ => ⟨by rw [k]; rfl, fun z => ⟨by decide, k, by decide, 0, 0, Nat.zero_le _, Nat.zero_le _, ?_⟩, fun z => f_153_48 hE ⟨trivial, hQ0 S t0 ?_ h⟩⟩, fun z => absurd (by decide) z⟩
    · have hf : (bwN b e s 4).2 = none := by
        cases q : (bwN b e s 4).2 with
        | none => rfl
        | some u => exact absurd z (by rw [(h.2.2.2.2.1 u q).1]; decide)
      have hb := i_bd v
      have hx : (v.toInt64).toInt = v.toInt := Int32.toInt_toInt64 v
      have hTS : S.I 75 m = nI T := (t0.2.2.2.2.2.2.2.2 75 m (Or.inr (by decide))).trans hT
      by_cases hn : 0 ≤ v.toInt
      · refine s_148 (N := v.toInt.natAbs) (mn := 0) hsp h.1 hTS hT16 hT2 (Or.inl ⟨rfl, l_of (by omega) (by rw [hx]; omega)⟩) (by omega) (fun S' w c r e1 e2 e3 e4 e5 e6 => f_153_48 hE ⟨trivial, hQ1 S S' w c r t0 e1 e2 e3 e4 e5 hf ?_ h⟩)
        rw [e6, if_pos rfl, ← hv hf]
        omega
      · refine s_148 (N := v.toInt.natAbs) (mn := 1) hsp h.1 hTS hT16 hT2 (Or.inr ⟨rfl, ?_, by omega⟩) (by omega) (fun S' w c r e1 e2 e3 e4 e5 e6 => f_153_48 hE ⟨trivial, hQ1 S S' w c r t0 e1 e2 e3 e4 e5 hf ?_ h⟩)
        · refine Int64.toInt_inj.mp ?_
          rw [hx, lneg_toInt (by omega)]
          omega
        · rw [e6, if_neg (by decide), ← hv hf]
          omega
    · exact fun q => z (h.2.2.2.1 q).2.1
  | r + 1, i, S, v, hi, t0, h, hv => by
    have hE : ox_mono (ox_M sp (d + 3)) := ox_M_mono hsp _
    have k := h.1.1
    refine f_153_4 hE ⟨fun z => absurd z (nI_ge (b := 4) (by omega) (by decide)), fun _ => ⟨by decide, k, by decide, 0, 0, Nat.zero_le _, Nat.zero_le _, ?_⟩⟩
    refine s_151 (lo := 0) (hi := 255) hsp h (by decide) (by decide) (fun S' y f1 h1 y1 y2 => f_153_18 hE ?_)
    show c_153_4 (ox_M sp (d + 3)) m (v ||| (y <<< ((8 * nI i) &&& 31))) (nI i + 1) S' mr sr Q
    rw [nI_1]
    refine s_153_4 hsp hT hT16 hT2 hs0 hQ1 hQ0 r (i + 1) S' _ (by omega) (t0.trans f1) h1 (fun z => ?_)
    obtain ⟨g1, g2, g3, g4⟩ := bwS_none (s := bwN b e s i) z
    obtain ⟨j1, -, j3, j4⟩ := bwN_none i g1
    have hiv : ivN b s.1 i < 2 ^ (8 * i) := ivN_lt i (fun q hq => by
      have : s.1 + i ≤ e := by rcases j3 with j3 | j3 <;> omega
      exact (h.2.2.2.2.2 _ (by omega)).2)
    have y1' := y1 z
    rw [j4] at g2 y1'
    have hbi : b (s.1 + i) < 256 := (h.2.2.2.2.2 _ g2.1).2
    have em : (8 * nI i) &&& 31 = nI (8 * i) := by
      rw [show (8 : Int32) = nI 8 from rfl, pk_mul, pk_andN (n := 8 * i) (m := 31) (by omega) 5 (by decide), Nat.mod_eq_of_lt (show 8 * i < 2 ^ 5 by omega)]
    have h8 : 2 ^ (8 * i) ≤ 2 ^ 24 := Nat.pow_le_pow_right (by decide) (by omega)
    have hmul : b (s.1 + i) * 2 ^ (8 * i) ≤ 255 * 2 ^ 24 := Nat.mul_le_mul (by omega) h8
    have hlt : ivN b s.1 i < 2 ^ 32 := by omega
    have hmul2 : b (s.1 + i) * 2 ^ (8 * i) < 2 ^ 32 := by omega
    have y1'' : y = nI (b (s.1 + i)) := y1'
    rw [hv g1, y1'', em, pk_shlN _ (8 * i) (nI_smod (by omega)) hmul2, nI_or hlt hmul2, Nat.or_comm, Nat.mul_comm, ← Nat.two_pow_add_eq_or_of_lt hiv]
    show _ = nI (ivN b s.1 i + b (s.1 + i) * 2 ^ (8 * i))
    rw [Nat.add_comm, Nat.mul_comm]
/-- readNumber -/
theorem s_153 (hsp : ox_mono sp) {T : Nat} (h : mtS S m ce b e s) (hs0 : s.2 = none) (hT : S.I 75 m = nI T) (hT16 : 16 ≤ T) (hT2 : T + 19 ≤ 1100000)
    (hQ1 : ∀ U S' w c r, tkF m S U → mNw m ce T U S' → S'.I 75 m = nI (T + 3 + c) → mNum S' (m + ce) T w c r → dc w c → (c = 0 → r = 0) → (bwN b e s 4).2 = none → nv w c r = (nI (ivN b s.1 4)).toInt → mtS U m ce b e (bwN b e s 4) → Q (some (.inl (nI T))) S') (hQ0 : ∀ S', tkF m S S' → (bwN b e s 4).2 ≠ none → mtS S' m ce b e (bwN b e s 4) → Q (some (.inl 0)) S') : ox_M sp (d + 4) 153 [.inr (.inr m)] mr sr S Q := by
  refine f_153 hsp ?_
  show c_153_4 (ox_M sp (d + 3)) m 0 (nI 0) S mr sr Q
  exact s_153_4 hsp hT hT16 hT2 hs0 hQ1 hQ0 4 0 S 0 rfl tkF.refl h (fun _ => rfl)
end OMTk
