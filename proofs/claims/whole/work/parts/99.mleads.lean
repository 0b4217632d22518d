/-! the reference looks at a code: decode, leads -/
def mlE (S : ox_St) (m p : Nat) (o : Option oHB) : Prop := match o with
  | none => S.rI (m + 36) p = -1
  | some t => ∃ h b lv hd, t = (h, blL lv hd b) ∧ b ≤ 4 ∧ h ≤ 10 ∧ S.rI (m + 36) p = nI h ∧ S.rI (m + 37) p = nI b ∧ ∀ i, i < b → S.rI (m + 38) (4 * p + i) = nI (lv i) ∧ S.rI (m + 39) (4 * p + i) = nI (hd i) ∧ lv i < 131072 ∧ hd i < 131072
/-- what looking leaves alone -/
def mlF (m : Nat) (S S' : ox_St) : Prop := S'.K = S.K ∧ S'.len = S.len ∧ S'.n = S.n ∧ S'.R = S.R ∧ S'.J = S.J ∧ S'.rR = S.rR ∧ S'.rJ = S.rJ ∧ (∀ F a, a ≠ m ∨ F < 138 ∨ 140 < F → S'.I F a = S.I F a) ∧ ∀ a, a < m + 36 ∨ m + 40 < a → S'.rI a = S.rI a
theorem mlF.refl {m : Nat} {S : ox_St} : mlF m S S := ⟨rfl, rfl, rfl, rfl, rfl, rfl, rfl, fun _ _ _ => rfl, fun _ _ => rfl⟩
theorem mlF.trans {m : Nat} {S S' U : ox_St} (h : mlF m S S') (g : mlF m S' U) : mlF m S U := by
  obtain ⟨h1, h2, h3, h4, h5, h6, h7, h8, h9⟩ := h
  obtain ⟨g1, g2, g3, g4, g5, g6, g7, g8, g9⟩ := g
  exact ⟨g1.trans h1, g2.trans h2, g3.trans h3, g4.trans h4, g5.trans h5, g6.trans h6, g7.trans h7, fun F a q => (g8 F a q).trans (h8 F a q), fun a q => (g9 a q).trans (h9 a q)⟩
theorem mlF_sI {m F : Nat} {S : ox_St} {v : Int32} (h1 : 138 ≤ F) (h2 : F ≤ 140) : mlF m S (S.sI F m v) := ⟨rfl, rfl, rfl, rfl, rfl, rfl, rfl, fun G a q => ox_u2_ne (fun e => by omega), fun _ _ => rfl⟩
theorem mlF_wI {m t i : Nat} {S : ox_St} {v : Int32} (h1 : m + 36 ≤ t) (h2 : t ≤ m + 40) : mlF m S (S.wI t i v) := ⟨rfl, rfl, rfl, rfl, rfl, rfl, rfl, fun _ _ _ => rfl, fun a q => ox_u2_row _ _ (fun e => by omega)⟩
theorem oML.lf {S S' : ox_St} {m ce : Nat} (h : oML S m ce) (g : mlF m S S') : oML S' m ce := h.next g.1 g.2.1 (fun F => by rw [g.2.2.2.1])
theorem mSh.lf {S S' : ox_St} {m c g : Nat} {κ : oCd} (h : mSh S m c g κ) (f : mlF m S S') : mSh S' m c g κ := by
  have e : ∀ a, a < m + 36 → S'.rI a = S.rI a := fun a q => f.2.2.2.2.2.2.2.2 a (Or.inl q)
  unfold mSh
  rw [e (m + 4) (by omega), e (m + 5) (by omega), e (m + 6) (by omega), e (m + 7) (by omega), e (m + 8) (by omega), e (m + 10) (by omega), e (m + 12) (by omega), e (m + 13) (by omega)]
  exact h
/-- the table so far, the places that wait -/
def mlS (S : ox_St) (m ce c g : Nat) (κ : oCd) (P : Nat → Option oHB) (W : Nat → Bool) : Prop := oML S m ce ∧ mSh S m c g κ ∧ (∀ p, p < 160 → mlE S m p (P p)) ∧ (∀ p, P p ≠ none → p < 160) ∧ (∀ p, p < 160 → S.rI (m + 40) p = if W p then 1 else 0) ∧ ∀ p, W p = true → P p ≠ none
def upW (P : Nat → Option oHB) (W : Nat → Bool) (q : Nat) : Nat → Bool := fun z => if z = q ∧ (P q).isNone = true then true else W z
theorem nar1 : vp_nar .boolean 1 = 1 := by decide +kernel
theorem nar0 : vp_nar .boolean 0 = 0 := by decide +kernel
section OMDc
variable {sp : ox_E} {d mr sr : Nat} {S : ox_St} {Q : ox_Q} {m ce c g : Nat} {κ : oCd} {P : Nat → Option oHB} {W : Nat → Bool}
/-- decode -/
theorem s_163 (hsp : ox_mono sp) (h : oML S m ce) (hs : mSh S m c g κ) {p : Nat} (hp : p < cdN κ) (hp2 : p % 2 = 0) (hQ1 : (cdB κ p = 144 → p + 2 < cdN κ ∧ cdB κ (p + 2) ≠ 144) → ∀ S', mlF m S S' → S'.rI = S.rI → S'.I 138 m = nI (dcW κ p) → S'.I 139 m = nI (dcA κ p) → S'.I 140 m = nI (dcN κ p) → Q (some (.inl 1)) S') (hQ0 : cdB κ p = 144 → (cdN κ ≤ p + 2 ∨ cdB κ (p + 2) = 144) → ∀ S', mlF m S S' → S'.rI = S.rI → Q (some (.inl 0)) S') : ox_M sp (d + 1) 163 [.inr (.inr m), .inl (nI c), .inl (nI p)] mr sr S Q := by
  obtain ⟨⟨s1, s2, s3⟩, ⟨s4, s5, s6⟩, ⟨s7, s8⟩, s9, s10, o1, o2, o3, o4, ⟨o5, o5b, o5c⟩, o6, o7, o8, o9⟩ := hs
  obtain ⟨t1, t2, t3⟩ := h.row (F := 80) (o := 7) (k := 15) (n := 300) (by decide +kernel)
  obtain ⟨r1, r2, r3⟩ := h.row (F := 81) (o := 8) (k := 15) (n := 300) (by decide +kernel)
  obtain ⟨u1, u2, u3⟩ := h.row (F := 89) (o := 13) (k := 15) (n := 2100) (by decide +kernel)
  have hp1 : p + 1 < cdN κ := by omega
  have b0 := o6 p hp
  have b1 := o6 (p + 1) hp1
  have e0 : S.rI (m + 13) (g + p) = nI (cdB κ p) := s6 p hp
  have e1 : S.rI (m + 13) (g + p + 1) = nI (cdB κ (p + 1)) := s6 (p + 1) hp1
  have a2 : nI p + 2 = nI (p + 2) := nI_add p 2
  have a4 : nI p + 4 = nI (p + 4) := nI_add p 4
  refine f_163 hsp ?_
  unfold q_163
  rw [h.1, t1, t2, t3, u1, u2, u3, nI_clamp (n := c) (by omega), s4]
  refine ⟨rfl, rfl, vp_in_nI s10 (by decide), rfl, rfl, ?_, rfl, ?_⟩
  · rw [nI_add g p]; exact vp_in_nI (by omega) (by decide)
  rw [nI_add g p, nI_1, nI_clamp (n := g + p) (by omega), nI_clamp (n := g + p + 1) (by omega), e0, a2]
  intro S2
  have f2 : mlF m S S2 := mlF_sI (by decide) (by decide)
  have x2 : S2.rI = S.rI := rfl
  have i2 : S2.I 138 m = nI (cdB κ p) := if_pos ⟨rfl, rfl⟩
  generalize S2 = T2 at f2 x2 i2 ⊢
  rw [f2.1, f2.2.1, f2.2.2.2.1, x2, h.1, u1, u2, u3, e1]
  refine ⟨rfl, rfl, vp_in_nI (by omega) (by decide), rfl, ?_⟩
  intro S3
  have f3 : mlF m S S3 := f2.trans (mlF_sI (by decide) (by decide))
  have x3 : S3.rI = S.rI := (or_sI_rI T2 139 m (nI (cdB κ (p + 1)))).trans x2
  have i3 : S3.I 138 m = nI (cdB κ p) := by show (T2.sI 139 m (nI (cdB κ (p + 1)))).I 138 m = _; rw [or_sI_I, if_neg (fun z => by cases z.1)]; exact i2
  have j3 : S3.I 139 m = nI (cdB κ (p + 1)) := if_pos ⟨rfl, rfl⟩
  generalize S3 = T3 at f3 x3 i3 j3 ⊢
  rw [f3.1, h.1]
  refine ⟨rfl, ?_⟩
  intro S4
  have f4 : mlF m S S4 := f3.trans (mlF_sI (by decide) (by decide))
  have x4 : S4.rI = S.rI := (or_sI_rI T3 140 m (nI (p + 2))).trans x3
  have i4 : S4.I 138 m = nI (cdB κ p) := by show (T3.sI 140 m (nI (p + 2))).I 138 m = _; rw [or_sI_I, if_neg (fun z => by cases z.1)]; exact i3
  have j4 : S4.I 139 m = nI (cdB κ (p + 1)) := by show (T3.sI 140 m (nI (p + 2))).I 139 m = _; rw [or_sI_I, if_neg (fun z => by cases z.1)]; exact j3
  have l4 : S4.I 140 m = nI (p + 2) := if_pos ⟨rfl, rfl⟩
  generalize S4 = T4 at f4 x4 i4 j4 l4 ⊢
  have y2 : nI (g + p) + 2 = nI (g + p + 2) := nI_add (g + p) 2
  have y3 : nI (g + p) + 3 = nI (g + p + 3) := nI_add (g + p) 3
  rw [f4.1, f4.2.1, f4.2.2.2.1, x4, i4, h.1, r1, r2, r3, u1, u2, u3, s5, y2, y3]
  refine ⟨rfl, fun z => ⟨rfl, rfl, vp_in_nI s10 (by decide), fun y => ⟨Or.inl rfl, ?_⟩, fun y => ⟨rfl, rfl, ?_, ?_⟩⟩, fun z => ⟨Or.inr rfl, ?_⟩⟩
  · have z' : cdB κ p = 144 := (nI_eq (b := 144) (by omega) (by decide)).mp z
    exact hQ0 z' (Or.inl ((nI_leI (by omega) (by omega)).mp y)) T4 f4 x4
  · have hlt : p + 2 < cdN κ := Nat.not_le.mp fun e => y (nI_le e (by omega))
    exact vp_in_nI (by omega) (by decide)
  · have hlt : p + 2 < cdN κ := Nat.not_le.mp fun e => y (nI_le e (by omega))
    have b2 := o6 (p + 2) hlt
    have b3 := o6 (p + 3) (by omega)
    have z' : cdB κ p = 144 := (nI_eq (b := 144) (by omega) (by decide)).mp z
    have e2 : S.rI (m + 13) (g + p + 2) = nI (cdB κ (p + 2)) := s6 (p + 2) hlt
    have e3 : S.rI (m + 13) (g + p + 3) = nI (cdB κ (p + 3)) := s6 (p + 3) (by omega)
    rw [nI_clamp (n := g + p + 2) (by omega), nI_clamp (n := g + p + 3) (by omega), e2, a4]
    refine ⟨fun w => ⟨rfl, rfl, vp_in_nI (by omega) (by decide), rfl, ?_⟩, fun w => ⟨Or.inl rfl, ?_⟩⟩
    · have w' : cdB κ (p + 2) ≠ 144 := fun e => w (by rw [e]; rfl)
      intro S5
      have f5 : mlF m S S5 := f4.trans (mlF_sI (by decide) (by decide))
      have x5 : S5.rI = S.rI := (or_sI_rI T4 138 m (nI (cdB κ (p + 2)))).trans x4
      have i5 : S5.I 138 m = nI (cdB κ (p + 2)) := if_pos ⟨rfl, rfl⟩
      have j5 : S5.I 139 m = nI (cdB κ (p + 1)) := by show (T4.sI 138 m (nI (cdB κ (p + 2)))).I 139 m = _; rw [or_sI_I, if_neg (fun z => by cases z.1)]; exact j4
      generalize S5 = T5 at f5 x5 i5 j5 ⊢
      have ea : 256 * nI (cdB κ (p + 1)) + nI (cdB κ (p + 3)) = nI (256 * cdB κ (p + 1) + cdB κ (p + 3)) := by rw [show (256 : Int32) = nI 256 from rfl, pk_mul, nI_add]
      rw [f5.1, f5.2.1, f5.2.2.2.1, x5, j5, h.1, u1, u2, u3, e3, ea]
      refine ⟨rfl, rfl, rfl, vp_in_nI (by omega) (by decide), rfl, ?_⟩
      intro S6
      have f6 : mlF m S S6 := f5.trans (mlF_sI (by decide) (by decide))
      have x6 : S6.rI = S.rI := (or_sI_rI T5 139 m (nI (256 * cdB κ (p + 1) + cdB κ (p + 3)))).trans x5
      have i6 : S6.I 138 m = nI (cdB κ (p + 2)) := by show (T5.sI 139 m (nI (256 * cdB κ (p + 1) + cdB κ (p + 3)))).I 138 m = _; rw [or_sI_I, if_neg (fun z => by cases z.1)]; exact i5
      have j6 : S6.I 139 m = nI (256 * cdB κ (p + 1) + cdB κ (p + 3)) := if_pos ⟨rfl, rfl⟩
      generalize S6 = T6 at f6 x6 i6 j6 ⊢
      rw [f6.1, h.1]
      refine ⟨rfl, Or.inr rfl, hQ1 (fun _ => ⟨hlt, w'⟩) (T6.sI 140 m (nI (p + 4))) (f6.trans (mlF_sI (by decide) (by decide))) ((or_sI_rI T6 140 m (nI (p + 4))).trans x6) ?_ ?_ ?_⟩
      · rw [or_sI_I, if_neg (fun z => by cases z.1)]
        unfold dcW; rw [if_pos z']; exact i6
      · rw [or_sI_I, if_neg (fun z => by cases z.1)]
        unfold dcA; rw [if_pos z']; exact j6
      · unfold dcN; rw [if_pos z']; exact if_pos ⟨rfl, rfl⟩
    · exact hQ0 z' (Or.inr ((nI_eq (b := 144) (by omega) (by decide)).mp w)) T4 f4 x4
  · have z' : ¬ cdB κ p = 144 := fun e => z (by rw [e]; rfl)
    refine hQ1 (fun e => absurd e z') T4 f4 x4 ?_ ?_ ?_
    · unfold dcW; rw [if_neg z']; exact i4
    · unfold dcA; rw [if_neg z']; exact j4
    · unfold dcN; rw [if_neg z']; exact l4
end OMDc
