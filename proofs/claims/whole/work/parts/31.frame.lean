/-! the class's frames: Frame's methods over the picture -/
/-- a frame at f: its four rows lie behind it -/
def oF (S : ox_St) (f : Nat) : Prop := S.K f = 4 ∧ (S.R 13 f = f + 1 ∧ S.K (f + 1) = 19 ∧ S.len (f + 1) = 8) ∧ (S.R 14 f = f + 2 ∧ S.K (f + 2) = 19 ∧ S.len (f + 2) = 10) ∧ (S.R 15 f = f + 3 ∧ S.K (f + 3) = 15 ∧ S.len (f + 3) = 4) ∧ S.R 16 f = f + 4 ∧ S.K (f + 4) = 15 ∧ S.len (f + 4) = 4
section OFR
variable {sp : ox_E} {d mr sr : Nat} {S : ox_St} {Q : ox_Q} {f : Nat}
/-- Frame.push where there is room -/
theorem s_push (hsp : ox_mono sp) (h : oF S f) {v n : Nat} (hn : n < 10) (hh : S.I 20 f = nI n) (hv : v = 0 ∨ ox_isV (S.K v) = true) (hQ : Q none ((S.wR (f + 2) n v).sI 20 f (nI (n + 1)))) : ox_M sp (d + 1) 19 [.inr (.inr f), .inr (.inr v)] mr sr S Q := by
  obtain ⟨k1, -, ⟨r1, r2, r3⟩, -⟩ := h
  refine f_19 hsp ?_
  have hc : (nI n).toNatClampNeg = n := nI_clamp (by omega)
  refine ⟨by rw [k1]; rfl, fun q => ?_, fun q => ⟨by rw [k1]; rfl, by rw [k1]; rfl, by rw [r1, r2]; rfl, by rw [hh, r1, r3]; exact vp_in_nI hn (by omega), ?_, ?_⟩⟩
  · rw [hh] at q
    exact absurd q (nI_ge (b := 10) hn (by omega))
  · rw [r1, r2]
    exact hv
  · intro S1
    refine ⟨by show ox_has (S.K f) 20 = true; rw [k1]; rfl, by show ox_has (S.K f) 20 = true; rw [k1]; rfl, ?_⟩
    intro S2
    refine ⟨rfl, ?_⟩
    have e1 : S1 = S.wR (f + 2) n v := by show S.wR _ _ v = _; rw [r1, hh, hc]
    have e2 : S2 = (S.wR (f + 2) n v).sI 20 f (nI (n + 1)) := by
      show S1.sI 20 f (S1.I 20 f + 1) = _
      rw [e1, show (S.wR (f + 2) n v).I 20 f = S.I 20 f from rfl, hh, nI_1]
    rw [e2]
    exact hQ
/-- Frame.fromTop within the stack -/
theorem s_fromTop (hsp : ox_mono sp) (h : oF S f) {i n : Nat} (hi : i < n) (hn : n ≤ 10) (hh : S.I 20 f = nI n) (hQ : Q (some (.inr (.inr (S.rR (f + 2) (n - 1 - i))))) S) : ox_M sp (d + 1) 21 [.inr (.inr f), .inl (nI i)] mr sr S Q := by
  obtain ⟨k1, -, ⟨r1, r2, r3⟩, -⟩ := h
  refine f_21 hsp ?_
  refine ⟨by rw [k1]; rfl, ?_⟩
  intro w1
  have e : w1 = nI (n - 1 - i) := by
    show S.I 20 f - 1 - nI i = _
    rw [hh, show (1 : Int32) = nI 1 from rfl, pk_sub (by omega), pk_sub (by omega)]
  have hlt : n - 1 - i < 10 := by omega
  refine ⟨fun q => absurd q (by rw [e]; exact nI_pos (by omega)), fun _ => ⟨fun _ => ⟨by rw [k1]; rfl, by rw [r1, r2]; rfl, by rw [e, r1, r3]; exact vp_in_nI hlt (by omega), rfl, ?_⟩, fun q => absurd (by rw [e]; exact nI_lt (b := 10) hlt (by omega)) q⟩⟩
  rw [r1, e, nI_clamp (by omega)]
  exact hQ
/-- Frame.drop -/
theorem s_drop (hsp : ox_mono sp) (h : S.K f = 4) {i n : Nat} (hi : i ≤ n) (hn : n ≤ 10) (hh : S.I 20 f = nI n) (hQ : Q none (S.sI 20 f (nI (n - i)))) : ox_M sp (d + 1) 23 [.inr (.inr f), .inl (nI i)] mr sr S Q := by
  refine f_23 hsp ?_
  have e1 : S.I 20 f - nI i = nI (n - i) := by rw [hh, pk_sub hi]
  have e2 : (if S.I 20 f - nI i < 0 then 0 else S.I 20 f - nI i) = nI (n - i) := by rw [e1, if_neg (nI_pos (by omega))]
  refine ⟨by rw [h]; rfl, by decide, by rw [h]; rfl, ?_⟩
  intro S1
  refine ⟨rfl, ?_⟩
  have e3 : S1 = S.sI 20 f (nI (n - i)) := by show S.sI 20 f _ = _; rw [e2]
  rw [e3]
  exact hQ
/-- Frame.pop where something is -/
theorem s_pop (hsp : ox_mono sp) (h : oF S f) {n : Nat} (h0 : 0 < n) (hn : n ≤ 10) (hh : S.I 20 f = nI n) (hQ : Q (some (.inr (.inr (S.rR (f + 2) (n - 1))))) (S.sI 20 f (nI (n - 1)))) : ox_M sp (d + 2) 20 [.inr (.inr f)] mr sr S Q := by
  refine f_20 hsp ?_
  refine ⟨by decide, h.1, by decide, 0, 0, Nat.zero_le _, Nat.zero_le _, ?_⟩
  refine s_fromTop hsp h (i := 0) h0 hn hh ?_
  refine f_20_5 (ox_M_mono hsp _) ?_
  refine ⟨by decide, h.1, by decide, 0, 0, Nat.zero_le _, Nat.zero_le _, ?_⟩
  refine s_drop hsp h.1 (i := 1) h0 hn hh ?_
  refine f_20_11 (ox_M_mono hsp _) ?_
  exact ⟨rfl, hQ⟩
end OFR
