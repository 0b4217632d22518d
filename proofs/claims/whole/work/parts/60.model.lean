/-! the reference's rows -/
/-- field, place behind the reference, kind, length -/
def mTb : List (Nat × Nat × Nat × Nat) := [(71, 1, 15, 800), (77, 4, 15, 300), (78, 5, 15, 300), (79, 6, 15, 300), (80, 7, 15, 300), (81, 8, 15, 300), (82, 9, 15, 300), (83, 10, 15, 300), (84, 11, 15, 300), (85, 12, 15, 300), (89, 13, 15, 2100), (90, 14, 15, 2100), (91, 15, 16, 2100), (98, 16, 15, 8), (99, 17, 15, 8), (100, 18, 15, 8), (101, 19, 15, 8), (102, 20, 15, 80), (103, 21, 15, 64), (104, 22, 15, 32), (105, 23, 15, 32), (107, 24, 16, 16), (108, 25, 15, 16), (109, 26, 15, 40), (110, 27, 15, 40), (111, 28, 15, 40), (112, 29, 15, 40), (126, 30, 17, 8), (127, 31, 15, 8), (128, 32, 15, 8), (129, 33, 15, 8), (130, 34, 15, 900), (131, 35, 15, 300), (133, 36, 15, 160), (134, 37, 15, 160), (135, 38, 15, 640), (136, 39, 15, 640), (137, 40, 17, 160), (141, 41, 15, 2000)]
/-- the reference at m, its cells at m + ce -/
def oML (S : ox_St) (m ce : Nat) : Prop := S.K m = 14 ∧ (∀ q ∈ mTb, S.R q.1 m = m + q.2.1 ∧ S.K (m + q.2.1) = q.2.2.1 ∧ S.len (m + q.2.1) = q.2.2.2) ∧ (ce = 2 ∨ ce = 3) ∧ (S.R 73 m = m + ce ∧ S.R 74 m = m + (5 - ce)) ∧ ∀ c, c = 2 ∨ c = 3 → S.K (m + c) = 15 ∧ S.len (m + c) = 1100000
theorem oML.row {S : ox_St} {m ce F o k n : Nat} (h : oML S m ce) (hq : mTb.contains (F, o, k, n) = true) : S.R F m = m + o ∧ S.K (m + o) = k ∧ S.len (m + o) = n := h.2.1 (F, o, k, n) (List.contains_iff_mem.mp hq)
theorem oML.cells {S : ox_St} {m ce : Nat} (h : oML S m ce) : S.R 73 m = m + ce ∧ S.K (m + ce) = 15 ∧ S.len (m + ce) = 1100000 := ⟨h.2.2.2.1.1, (h.2.2.2.2 ce h.2.2.1).1, (h.2.2.2.2 ce h.2.2.1).2⟩
/-- kinds, lengths and references alike: the rows are where they were -/
theorem oML.next {S S' : ox_St} {m ce : Nat} (h : oML S m ce) (hK : S'.K = S.K) (hl : S'.len = S.len) (hR : ∀ F, S'.R F m = S.R F m) : oML S' m ce := by
  obtain ⟨h1, h2, h3, h4, h5⟩ := h
  refine ⟨by rw [hK]; exact h1, fun q hq => ?_, h3, ⟨(hR _).trans h4.1, (hR _).trans h4.2⟩, fun c hc => by rw [hK, hl]; exact h5 c hc⟩
  rw [hK, hl, hR]
  exact h2 q hq
theorem mTb_ok : mTb.all (fun q => decide (oRR oq_280 q.1 76 = some (76 + q.2.1 + 2)) && decide (oRK oq_280 (76 + q.2.1) = some q.2.2.1) && decide (oRL oq_280 (76 + q.2.1) = some q.2.2.2)) = true := by decide +kernel
/-- at the beginning -/
theorem p_ML {S : ox_St} (hb : 0 < S.n) : oML (ap S.n oq_280 S) (S.n + 76) 2 := by
  refine ⟨ap_K rfl oq_280 (by decide +kernel), fun q hq => ?_, Or.inl rfl, ⟨ap_R (v := 80) rfl hb oq_280 (by decide +kernel), ap_R (v := 81) rfl hb oq_280 (by decide +kernel)⟩, fun c hc => ?_⟩
  · have := List.all_eq_true.mp mTb_ok q hq
    simp only [Bool.and_eq_true, decide_eq_true_eq] at this
    obtain ⟨⟨a1, a2⟩, a3⟩ := this
    refine ⟨(ap_R (b := S.n) rfl hb oq_280 a1).trans ?_, ?_, ?_⟩
    · show S.n + (76 + q.2.1) = S.n + 76 + q.2.1
      omega
    · rw [show S.n + 76 + q.2.1 = S.n + (76 + q.2.1) by omega]
      exact ap_K rfl oq_280 a2
    · rw [show S.n + 76 + q.2.1 = S.n + (76 + q.2.1) by omega]
      exact ap_len rfl oq_280 a3
  · rcases hc with rfl | rfl
    · exact ⟨ap_K (a := 78) rfl oq_280 (by decide +kernel), ap_len (a := 78) rfl oq_280 (by decide +kernel)⟩
    · exact ⟨ap_K (a := 79) rfl oq_280 (by decide +kernel), ap_len (a := 79) rfl oq_280 (by decide +kernel)⟩
section OML
variable {sp : ox_E} {d mr sr : Nat} {S : ox_St} {Q : ox_Q} {m ce : Nat}
/-- sortOf -/
def mSort (S : ox_St) (m ce : Nat) (v : Int32) : Int32 := if v < 16 then -1 else S.rI (m + ce) v.toNatClampNeg
theorem s_133 (hsp : ox_mono sp) (h : oML S m ce) {v : Int32} (hv : ¬ v < 16 → vp_in v 1100000) (hQ : Q (some (.inl (mSort S m ce v))) S) : ox_M sp (d + 1) 133 [.inr (.inr m), .inl v] mr sr S Q := by
  obtain ⟨c1, c2, c3⟩ := h.cells
  unfold mSort at hQ
  refine f_133 hsp ?_
  refine ⟨fun z => ?_, fun z => ?_⟩
  · have z' : ¬ v < 16 := Int32.not_lt.mpr z
    rw [if_neg z'] at hQ
    refine ⟨by rw [h.1]; rfl, by rw [c1, c2]; rfl, by rw [c1, c3]; exact hv z', trivial, ?_⟩
    rw [c1]
    exact hQ
  · have z' : v < 16 := Int32.not_le.mp z
    rw [if_pos z'] at hQ
    exact ⟨trivial, hQ⟩
theorem s_134 (hsp : ox_mono sp) (h : oML S m ce) {v : Int32} (hv : ¬ v < 16 → vp_in v 1100000) (hQ : Q (some (.inl (if mSort S m ce v = 4 then 1 else 0))) S) : ox_M sp (d + 2) 134 [.inr (.inr m), .inl v] mr sr S Q := by
  refine f_134 hsp ⟨by decide, h.1, by decide, 0, 0, Nat.zero_le _, Nat.zero_le _, s_133 hsp h hv ?_⟩
  refine f_134_5 (ox_M_mono hsp _) ⟨fun z => ⟨by decide, ?_⟩, fun z => ⟨by decide, ?_⟩⟩
  · rw [if_neg z] at hQ
    exact hQ
  · rw [if_pos z] at hQ
    exact hQ
end OML
