/-! the class's frames: the rest of Frame's methods, Code.byteAt -/
/-- a CODE's bytes at a row of N -/
def oBs (S : ox_St) (a t N : Nat) : Prop := S.K a = 3 ∧ S.R 10 a = t ∧ S.K t = 15 ∧ S.len t = N ∧ N < 2 ^ 31
/-- all locals of a frame nothing, from place i on -/
def oClr (t : Nat) : Nat → Nat → ox_St → ox_St
  | _, 0, S => S
  | i, k + 1, S => oClr t (i + 1) k (S.wR t i 0)
theorem oClr_ag {P : Nat → Prop} {t : Nat} (ht : ¬ P t) : ∀ (k i : Nat) (S : ox_St), oAg P S (oClr t i k S)
  | 0, _, _ => oAg.refl
  | k + 1, i, S => (oAg_wR ht).trans (oClr_ag ht k (i + 1) _)
theorem oClr_row {t : Nat} : ∀ (k i : Nat) (S : ox_St) (j : Nat), (oClr t i k S).rR t j = if i ≤ j ∧ j < i + k then 0 else S.rR t j
  | 0, i, S, j => by rw [if_neg (by omega)]; rfl
  | k + 1, i, S, j => by
    show (oClr t (i + 1) k (S.wR t i 0)).rR t j = _
    rw [oClr_row k (i + 1), or_wR_rR]
    by_cases h1 : i + 1 ≤ j ∧ j < i + 1 + k
    · rw [if_pos h1, if_pos (by omega)]
    · rw [if_neg h1]
      by_cases h2 : j = i
      · rw [if_pos ⟨rfl, h2⟩, if_pos (by omega)]
      · rw [if_neg (fun z => h2 z.2), if_neg (by omega)]
section OFR2
variable {sp : ox_E} {d mr sr : Nat} {S : ox_St} {Q : ox_Q} {f : Nat}
theorem s_byteAt (hsp : ox_mono sp) {a t N p : Nat} (h : oBs S a t N) (hp : p < 2 ^ 31) (hQ : Q (some (.inl (if p < N then S.rI t p else 0))) S) : ox_M sp (d + 1) 16 [.inr (.inr a), .inl (nI p)] mr sr S Q := by
  obtain ⟨h1, h2, h3, h4, h5⟩ := h
  refine f_16 hsp ?_
  refine ⟨fun q => absurd q (nI_pos hp), fun _ => ⟨by rw [h1]; rfl, by rw [h2, h3]; rfl, fun q => ?_, fun q => ⟨trivial, ?_⟩⟩⟩
  · rw [h2, h4] at q
    have hlt : p < N := (nI_ltI hp h5).mp q
    rw [if_pos hlt] at hQ
    refine ⟨by rw [h1]; rfl, by rw [h2, h3]; rfl, by rw [h2, h4]; exact vp_in_nI hlt h5, trivial, ?_⟩
    rw [h2, nI_clamp hp]
    exact hQ
  · rw [h2, h4] at q
    have hlt : ¬ p < N := fun z => q ((nI_ltI hp h5).mpr z)
    rw [if_neg hlt] at hQ
    exact hQ
theorem s_18_22 {E : ox_E} (hE : ox_mono E) {v : Nat} : ∀ (k i : Nat) (S : ox_St), oF S f → i + k = 8 → Q none (oClr (f + 1) i k S) → c_18_22 E f v (nI i) S mr sr Q
  | 0, i, S, h, hk, hQ => by
    obtain ⟨k1, ⟨r1, r2, r3⟩, -⟩ := h
    refine f_18_22 hE ?_
    refine ⟨by rw [k1]; rfl, by rw [r1, r2]; rfl, fun _ => ⟨rfl, hQ⟩, fun q => absurd ?_ q⟩
    rw [r1, r3]
    exact nI_le (a := 8) (by omega) (by omega)
  | k + 1, i, S, h, hk, hQ => by
    have h' := h
    obtain ⟨k1, ⟨r1, r2, r3⟩, -⟩ := h
    refine f_18_22 hE ?_
    refine ⟨by rw [k1]; rfl, by rw [r1, r2]; rfl, fun q => absurd q ?_, fun _ => ⟨by rw [k1]; rfl, by rw [r1, r2]; rfl, by rw [r1, r3]; exact vp_in_nI (by omega) (by omega), Or.inl rfl, ?_⟩⟩
    · rw [r1, r3]
      exact nI_ge (b := 8) (by omega) (by omega)
    · intro S1
      have e1 : S1 = S.wR (f + 1) i 0 := by
        show S.wR (S.R 13 f) (Int32.toNatClampNeg (nI i)) 0 = _
        rw [r1, nI_clamp (by omega)]
      rw [nI_1, e1]
      exact s_18_22 hE k (i + 1) _ h' (by omega) hQ
/-- Frame.begin -/
theorem s_begin (hsp : ox_mono sp) (h : oF S f) {v : Nat} (hQ : Q none (oClr (f + 1) 0 8 ((((S.sR 18 f v).sI 19 f 0).sI 20 f 0).sI 21 f 0))) : ox_M sp (d + 1) 18 [.inr (.inr f), .inr (.inr v)] mr sr S Q := by
  have k1 := h.1
  refine f_18 hsp ⟨by rw [k1]; rfl, by show ox_has (S.K f) 19 = true; rw [k1]; rfl, by show ox_has (S.K f) 20 = true; rw [k1]; rfl, by show ox_has (S.K f) 21 = true; rw [k1]; rfl, ?_⟩
  refine s_18_22 (ox_M_mono hsp _) 8 0 _ ?_ rfl hQ
  obtain ⟨a1, ⟨a2, a3⟩, ⟨a4, a5⟩, ⟨a6, a7⟩, a8, a9⟩ := h
  have e : ∀ F, F ≠ 18 → ((((S.sR 18 f v).sI 19 f 0).sI 20 f 0).sI 21 f 0).R F f = S.R F f := fun F hF => if_neg (fun z => hF z.1)
  exact ⟨a1, ⟨(e 13 (by decide)).trans a2, a3⟩, ⟨(e 14 (by decide)).trans a4, a5⟩, ⟨(e 15 (by decide)).trans a6, a7⟩, (e 16 (by decide)).trans a8, a9⟩
/-- Frame.setFromTop within the stack -/
theorem s_setFromTop (hsp : ox_mono sp) (h : oF S f) {i n v : Nat} (hi : i < n) (hn : n ≤ 10) (hh : S.I 20 f = nI n) (hv : v = 0 ∨ ox_isV (S.K v) = true) (hQ : Q none (S.wR (f + 2) (n - 1 - i) v)) : ox_M sp (d + 1) 22 [.inr (.inr f), .inl (nI i), .inr (.inr v)] mr sr S Q := by
  obtain ⟨k1, -, ⟨r1, r2, r3⟩, -⟩ := h
  refine f_22 hsp ⟨by rw [k1]; rfl, ?_⟩
  intro w1
  have e : w1 = nI (n - 1 - i) := by
    show S.I 20 f - 1 - nI i = _
    rw [hh, show (1 : Int32) = nI 1 from rfl, pk_sub (by omega), pk_sub (by omega)]
  have hlt : n - 1 - i < 10 := by omega
  refine ⟨fun q => absurd q (by rw [e]; exact nI_pos (by omega)), fun _ => ⟨fun q => absurd q (by rw [e]; exact nI_ge (b := 10) hlt (by omega)), fun _ => ⟨by rw [k1]; rfl, by rw [r1, r2]; rfl, by rw [e, r1, r3]; exact vp_in_nI hlt (by omega), by rw [r1, r2]; exact hv, rfl, ?_⟩⟩⟩
  rw [r1, e, nI_clamp (by omega)]
  exact hQ
/-- Frame.localAt -/
theorem s_localAt (hsp : ox_mono sp) (h : oF S f) {i : Int32} (hQ1 : (∀ k, k < 8 → i ≠ nI k) → Q (some (.inr (.inr 0))) S) (hQ2 : ∀ k, k < 8 → i = nI k → Q (some (.inr (.inr (S.rR (f + 1) k)))) S) : ox_M sp (d + 1) 24 [.inr (.inr f), .inl i] mr sr S Q := by
  obtain ⟨k1, ⟨r1, r2, r3⟩, -⟩ := h
  refine f_24 hsp ⟨fun q => ⟨rfl, hQ1 (fun k hk z => ?_)⟩, fun q1 => ⟨fun q2 => ?_, fun q2 => ⟨rfl, hQ1 (fun k hk z => ?_)⟩⟩⟩
  · rw [z] at q
    exact absurd q (nI_pos (by omega))
  · obtain ⟨k, hk, rfl⟩ := nI_of q1
    have h8 : k < 8 := (nI_ltI (b := 8) hk (by decide)).mp q2
    refine ⟨by rw [k1]; rfl, by rw [r1, r2]; rfl, by rw [r1, r3]; exact vp_in_nI h8 (by omega), rfl, ?_⟩
    rw [r1, nI_clamp hk]
    exact hQ2 k h8 rfl
  · rw [z] at q2
    exact q2 (nI_lt (b := 8) hk (by decide))
/-- Frame.setLocal at a place that is there -/
theorem s_setLocal (hsp : ox_mono sp) (h : oF S f) {i v : Nat} (hi : i < 8) (hv : v = 0 ∨ ox_isV (S.K v) = true) (hQ : Q none (S.wR (f + 1) i v)) : ox_M sp (d + 1) 25 [.inr (.inr f), .inl (nI i), .inr (.inr v)] mr sr S Q := by
  obtain ⟨k1, ⟨r1, r2, r3⟩, -⟩ := h
  refine f_25 hsp ⟨fun q => absurd q (nI_pos (by omega)), fun _ => ⟨fun q => absurd q (nI_ge (b := 8) hi (by omega)), fun _ => ⟨by rw [k1]; rfl, by rw [r1, r2]; rfl, by rw [r1, r3]; exact vp_in_nI hi (by omega), by rw [r1, r2]; exact hv, rfl, ?_⟩⟩⟩
  rw [r1, nI_clamp (by omega)]
  exact hQ
/-- Frame.addBlock where there is room -/
theorem s_addBlock (hsp : ox_mono sp) (h : oF S f) {k : Nat} {p v : Int32} (hk : k < 4) (hb : S.I 21 f = nI k) (hh : S.I 20 f = v) (hQ : Q none (((S.wI (f + 3) k v).wI (f + 4) k p).sI 21 f (nI (k + 1)))) : ox_M sp (d + 1) 26 [.inr (.inr f), .inl p] mr sr S Q := by
  obtain ⟨k1, -, -, ⟨r1, r2, r3⟩, r4, r5, r6⟩ := h
  refine f_26 hsp ⟨by rw [k1]; rfl, fun q => absurd q (by rw [hb]; exact nI_ge (b := 4) hk (by omega)), fun _ => ⟨by rw [k1]; rfl, by rw [k1]; rfl, by rw [k1]; rfl, by rw [r1]; exact r2, by rw [r1, hb, r3]; exact vp_in_nI hk (by omega), ?_⟩⟩
  intro S1
  have e1 : S1 = S.wI (f + 3) k v := by
    show S.wI (S.R 15 f) (Int32.toNatClampNeg (S.I 21 f)) (S.I 20 f) = _
    rw [r1, hb, hh, nI_clamp (by omega)]
  rw [e1]
  clear e1 S1
  refine ⟨by show ox_has (S.K f) 16 = true; rw [k1]; rfl, by show ox_has (S.K f) 21 = true; rw [k1]; rfl, by show S.K (S.R 16 f) = 15; rw [r4]; exact r5, by show vp_in (S.I 21 f) (S.len (S.R 16 f)); rw [r4, hb, r6]; exact vp_in_nI hk (by omega), ?_⟩
  intro S2
  have e2 : S2 = (S.wI (f + 3) k v).wI (f + 4) k p := by
    show (S.wI (f + 3) k v).wI (S.R 16 f) (Int32.toNatClampNeg (S.I 21 f)) p = _
    rw [r4, hb, nI_clamp (by omega)]
  rw [e2]
  clear e2 S2
  refine ⟨by show ox_has (S.K f) 21 = true; rw [k1]; rfl, by show ox_has (S.K f) 21 = true; rw [k1]; rfl, rfl, ?_⟩
  show Q none (((S.wI (f + 3) k v).wI (f + 4) k p).sI 21 f (S.I 21 f + 1))
  rw [hb, nI_1]
  exact hQ
/-- Frame.handle where no block is -/
theorem s_handle0 (hsp : ox_mono sp) (h : oF S f) (hb : S.I 21 f = nI 0) {v : Nat} (hQ : Q (some (.inl 0)) S) : ox_M sp (d + 1) 27 [.inr (.inr f), .inr (.inr v)] mr sr S Q := by
  refine f_27 hsp ⟨by rw [h.1]; rfl, fun q => absurd q (by rw [hb]; decide), fun _ => ⟨by decide, hQ⟩⟩
end OFR2
