/-! OpcodeFramesModel.product(II)I -/
def k_145_6 (E : ox_E) (x0 : Nat) (x1 : Int32) (x2 : Int32) (mr sr : Nat) (Q : ox_Q) : ox_Q := fun r_ T_ => ox_C E (ox_mi 145).2.2.2.1 (ox_mc 145) (ox_cut 145) Q 6 [some (.inr (.inr (x0))), some (.inl (x1)), some (.inl (x2)), none, none, none, none] (r_.toList ++ []) T_ mr sr
def c_145_21 (E : ox_E) (x0 : Nat) (x1 : Int32) (x2 : Int32) (x3 : Int32) (S : ox_St) (mr sr : Nat) (Q : ox_Q) : Prop := ox_C E (ox_mi 145).2.2.2.1 (ox_mc 145) (ox_cut 145) Q 21 [some (.inr (.inr (x0))), some (.inl (x1)), some (.inl (x2)), some (.inl (x3)), none, none, none] [] S mr sr
def c_145_44 (E : ox_E) (x0 : Nat) (x1 : Int32) (x2 : Int32) (x3 : Int32) (S : ox_St) (mr sr : Nat) (Q : ox_Q) : Prop := ox_C E (ox_mi 145).2.2.2.1 (ox_mc 145) (ox_cut 145) Q 44 [some (.inr (.inr (x0))), some (.inl (x1)), some (.inl (x2)), some (.inl (x3)), none, none, none] [] S mr sr
def c_145_58 (E : ox_E) (x0 : Nat) (x1 : Int32) (x2 : Int32) (x3 : Int32) (x4 : Int32) (x5 : Int32) (S : ox_St) (mr sr : Nat) (Q : ox_Q) : Prop := ox_C E (ox_mi 145).2.2.2.1 (ox_mc 145) (ox_cut 145) Q 58 [some (.inr (.inr (x0))), some (.inl (x1)), some (.inl (x2)), some (.inl (x3)), some (.inl (x4)), some (.inl (x5)), none] [] S mr sr
def k_145_167 (E : ox_E) (x0 : Nat) (x1 : Int32) (x2 : Int32) (x3 : Int32) (mr sr : Nat) (Q : ox_Q) : ox_Q := fun r_ T_ => ox_C E (ox_mi 145).2.2.2.1 (ox_mc 145) (ox_cut 145) Q 167 [some (.inr (.inr (x0))), some (.inl (x1)), some (.inl (x2)), some (.inl (x3)), none, none, none] (r_.toList ++ []) T_ mr sr
set_option maxRecDepth 20000 in
def q_145_167 (E : ox_E) (x0 : Nat) (x1 : Int32) (x2 : Int32) (x3 : Int32) (y0 : Int32) (S : ox_St) (mr sr : Nat) (Q : ox_Q) : Prop :=
  (True ∧ Q (some (.inl y0)) S)
set_option maxRecDepth 20000 in
set_option maxHeartbeats 4000000 in
theorem f_145_167 {E : ox_E} (hE : ox_mono E) {mr sr : Nat} {x0 : Nat} {x1 : Int32} {x2 : Int32} {x3 : Int32} {y0 : Int32} {S : ox_St} {Q : ox_Q} (h : q_145_167 E x0 x1 x2 x3 y0 S mr sr Q) : k_145_167 E x0 x1 x2 x3 mr sr Q (some (.inl (y0))) S := ox_C_fold hE h
set_option maxRecDepth 20000 in
def q_145_58 (E : ox_E) (x0 : Nat) (x1 : Int32) (x2 : Int32) (x3 : Int32) (x4 : Int32) (x5 : Int32) (S : ox_St) (mr sr : Nat) (Q : ox_Q) : Prop :=
  (ox_has (S.K x0) 114 = true ∧ (((S.I 114 x0) < x5 → c_145_44 E x0 x1 x2 (x3 + 1) S mr sr Q) ∧ (¬ (S.I 114 x0) < x5 → (ox_has (S.K x0) 111 = true ∧ (ox_rdI (S.K (S.R 111 x0)) = true ∧ vp_in (x3 + x5) (S.len (S.R 111 x0)) ∧ (ox_has (S.K x0) 114 = true ∧ (((S.I 114 x0) ≤ x5 → (let w1 : Int32 := ((S.rI (S.R 111 x0) (Int32.toNatClampNeg (x3 + x5))) + 0) + x4
  (ox_has (S.K x0) 111 = true ∧ (S.K (S.R 111 x0) = 15 ∧ vp_in (x3 + x5) (S.len (S.R 111 x0)) ∧ (let S2 := S.wI (S.R 111 x0) (Int32.toNatClampNeg (x3 + x5)) (w1 &&& 32767)
  (let w3 : Int32 := w1 >>> (15 &&& 31)
  c_145_58 E x0 x1 x2 x3 w3 (x5 + 1) S2 mr sr Q)))))) ∧ (¬ (S.I 114 x0) ≤ x5 → (ox_has (S.K x0) 109 = true ∧ (ox_rdI (S.K (S.R 109 x0)) = true ∧ vp_in x3 (S.len (S.R 109 x0)) ∧ (ox_has (S.K x0) 110 = true ∧ (ox_rdI (S.K (S.R 110 x0)) = true ∧ vp_in x5 (S.len (S.R 110 x0)) ∧ (let w4 : Int32 := ((S.rI (S.R 111 x0) (Int32.toNatClampNeg (x3 + x5))) + ((S.rI (S.R 109 x0) (Int32.toNatClampNeg x3)) * (S.rI (S.R 110 x0) (Int32.toNatClampNeg x5)))) + x4
  (ox_has (S.K x0) 111 = true ∧ (S.K (S.R 111 x0) = 15 ∧ vp_in (x3 + x5) (S.len (S.R 111 x0)) ∧ (let S5 := S.wI (S.R 111 x0) (Int32.toNatClampNeg (x3 + x5)) (w4 &&& 32767)
  (let w6 : Int32 := w4 >>> (15 &&& 31)
  c_145_58 E x0 x1 x2 x3 w6 (x5 + 1) S5 mr sr Q)))))))))))))))))
set_option maxRecDepth 20000 in
set_option maxHeartbeats 4000000 in
theorem f_145_58 {E : ox_E} (hE : ox_mono E) {mr sr : Nat} {x0 : Nat} {x1 : Int32} {x2 : Int32} {x3 : Int32} {x4 : Int32} {x5 : Int32} {S : ox_St} {Q : ox_Q} (h : q_145_58 E x0 x1 x2 x3 x4 x5 S mr sr Q) : c_145_58 E x0 x1 x2 x3 x4 x5 S mr sr Q := ox_C_fold hE h
set_option maxRecDepth 20000 in
def q_145_44 (E : ox_E) (x0 : Nat) (x1 : Int32) (x2 : Int32) (x3 : Int32) (S : ox_St) (mr sr : Nat) (Q : ox_Q) : Prop :=
  (ox_has (S.K x0) 113 = true ∧ (((S.I 113 x0) ≤ x3 → (ox_has (S.K x0) 117 = true ∧ (ox_has (S.K x0) 118 = true ∧ (((S.I 117 x0) = (S.I 118 x0) → (ox_has (S.K x0) 119 = true ∧ (((0 : Int32) = 0 ∨ (0 : Int32) = 1) ∧ (let S1 := S.sI 119 x0 0
  (1 ≤ 1 ∧ S1.K x0 = 14 ∧ 0 ≤ 8 ∧ ∃ mc2 mk3, mc2 ≤ mr ∧ mk3 ≤ sr ∧ E 140 [.inr (.inr (x0))] mc2 mk3 S1 (k_145_167 E x0 x1 x2 x3 (mr - mc2) (sr - mk3) Q)))))) ∧ (¬ (S.I 117 x0) = (S.I 118 x0) → (ox_has (S.K x0) 119 = true ∧ (((1 : Int32) = 0 ∨ (1 : Int32) = 1) ∧ (let S4 := S.sI 119 x0 1
  (1 ≤ 1 ∧ S4.K x0 = 14 ∧ 0 ≤ 8 ∧ ∃ mc5 mk6, mc5 ≤ mr ∧ mk6 ≤ sr ∧ E 140 [.inr (.inr (x0))] mc5 mk6 S4 (k_145_167 E x0 x1 x2 x3 (mr - mc5) (sr - mk6) Q)))))))))) ∧ (¬ (S.I 113 x0) ≤ x3 → c_145_58 E x0 x1 x2 x3 0 0 S mr sr Q)))
set_option maxRecDepth 20000 in
set_option maxHeartbeats 4000000 in
theorem f_145_44 {E : ox_E} (hE : ox_mono E) {mr sr : Nat} {x0 : Nat} {x1 : Int32} {x2 : Int32} {x3 : Int32} {S : ox_St} {Q : ox_Q} (h : q_145_44 E x0 x1 x2 x3 S mr sr Q) : c_145_44 E x0 x1 x2 x3 S mr sr Q := ox_C_fold hE h
set_option maxRecDepth 20000 in
def q_145_21 (E : ox_E) (x0 : Nat) (x1 : Int32) (x2 : Int32) (x3 : Int32) (S : ox_St) (mr sr : Nat) (Q : ox_Q) : Prop :=
  (ox_has (S.K x0) 115 = true ∧ (((S.I 115 x0) ≤ x3 → c_145_44 E x0 x1 x2 0 S mr sr Q) ∧ (¬ (S.I 115 x0) ≤ x3 → (ox_has (S.K x0) 111 = true ∧ (S.K (S.R 111 x0) = 15 ∧ vp_in x3 (S.len (S.R 111 x0)) ∧ (let S1 := S.wI (S.R 111 x0) (Int32.toNatClampNeg x3) 0
  c_145_21 E x0 x1 x2 (x3 + 1) S1 mr sr Q))))))
set_option maxRecDepth 20000 in
set_option maxHeartbeats 4000000 in
theorem f_145_21 {E : ox_E} (hE : ox_mono E) {mr sr : Nat} {x0 : Nat} {x1 : Int32} {x2 : Int32} {x3 : Int32} {S : ox_St} {Q : ox_Q} (h : q_145_21 E x0 x1 x2 x3 S mr sr Q) : c_145_21 E x0 x1 x2 x3 S mr sr Q := ox_C_fold hE h
set_option maxRecDepth 20000 in
def q_145_6 (E : ox_E) (x0 : Nat) (x1 : Int32) (x2 : Int32) (S : ox_St) (mr sr : Nat) (Q : ox_Q) : Prop :=
  (ox_has (S.K x0) 113 = true ∧ (ox_has (S.K x0) 114 = true ∧ (ox_has (S.K x0) 115 = true ∧ (let S1 := S.sI 115 x0 ((S.I 113 x0) + (S.I 114 x0))
  c_145_21 E x0 x1 x2 0 S1 mr sr Q))))
set_option maxRecDepth 20000 in
set_option maxHeartbeats 4000000 in
theorem f_145_6 {E : ox_E} (hE : ox_mono E) {mr sr : Nat} {x0 : Nat} {x1 : Int32} {x2 : Int32} {S : ox_St} {Q : ox_Q} (h : q_145_6 E x0 x1 x2 S mr sr Q) : k_145_6 E x0 x1 x2 mr sr Q none S := ox_C_fold hE h
set_option maxRecDepth 20000 in
def q_145 (E : ox_E) (x0 : Nat) (x1 : Int32) (x2 : Int32) (S : ox_St) (mr sr : Nat) (Q : ox_Q) : Prop :=
  (3 ≤ 3 ∧ S.K x0 = 14 ∧ 0 ≤ 8 ∧ ∃ mc1 mk2, mc1 ≤ mr ∧ mk2 ≤ sr ∧ E 139 [.inr (.inr (x0)), .inl (x1), .inl (x2)] mc1 mk2 S (k_145_6 E x0 x1 x2 (mr - mc1) (sr - mk2) Q))
set_option maxRecDepth 20000 in
set_option maxHeartbeats 4000000 in
theorem f_145 {sp : ox_E} (hsp : ox_mono sp) {d : Nat} {mr sr : Nat} {x0 : Nat} {x1 : Int32} {x2 : Int32} {S : ox_St} {Q : ox_Q} (h : q_145 (ox_M sp d) x0 x1 x2 S mr sr Q) : ox_M sp (d + 1) 145 [.inr (.inr (x0)), .inl (x1), .inl (x2)] mr sr S Q := Or.inr ⟨Nat.le_of_ble_eq_true rfl, ox_C_fold (ox_M_mono hsp d) h⟩
/-! OpcodeFramesModel.divide()V -/
def c_146_7 (E : ox_E) (x0 : Nat) (x1 : Int32) (S : ox_St) (mr sr : Nat) (Q : ox_Q) : Prop := ox_C E (ox_mi 146).2.2.2.1 (ox_mc 146) (ox_cut 146) Q 7 [some (.inr (.inr (x0))), some (.inl (x1)), none, none, none, none] [] S mr sr
def c_146_36 (E : ox_E) (x0 : Nat) (x1 : Int32) (S : ox_St) (mr sr : Nat) (Q : ox_Q) : Prop := ox_C E (ox_mi 146).2.2.2.1 (ox_mc 146) (ox_cut 146) Q 36 [some (.inr (.inr (x0))), some (.inl (x1)), none, none, none, none] [] S mr sr
def c_146_67 (E : ox_E) (x0 : Nat) (x1 : Int32) (S : ox_St) (mr sr : Nat) (Q : ox_Q) : Prop := ox_C E (ox_mi 146).2.2.2.1 (ox_mc 146) (ox_cut 146) Q 67 [some (.inr (.inr (x0))), some (.inl (x1)), none, none, none, none] [] S mr sr
def c_146_90 (E : ox_E) (x0 : Nat) (x1 : Int32) (x2 : Int32) (x3 : Int32) (S : ox_St) (mr sr : Nat) (Q : ox_Q) : Prop := ox_C E (ox_mi 146).2.2.2.1 (ox_mc 146) (ox_cut 146) Q 90 [some (.inr (.inr (x0))), some (.inl (x1)), some (.inl (x2)), some (.inl (x3)), none, none] [] S mr sr
def c_146_138 (E : ox_E) (x0 : Nat) (x1 : Int32) (x2 : Int32) (x3 : Int32) (S : ox_St) (mr sr : Nat) (Q : ox_Q) : Prop := ox_C E (ox_mi 146).2.2.2.1 (ox_mc 146) (ox_cut 146) Q 138 [some (.inr (.inr (x0))), some (.inl (x1)), some (.inl (x2)), some (.inl (x3)), none, none] [] S mr sr
def k_146_191 (E : ox_E) (x0 : Nat) (x1 : Int32) (x2 : Int32) (x3 : Int32) (mr sr : Nat) (Q : ox_Q) : ox_Q := fun r_ T_ => ox_C E (ox_mi 146).2.2.2.1 (ox_mc 146) (ox_cut 146) Q 191 [some (.inr (.inr (x0))), some (.inl (x1)), some (.inl (x2)), some (.inl (x3)), none, none] (r_.toList ++ []) T_ mr sr
def c_146_227 (E : ox_E) (x0 : Nat) (x1 : Int32) (x2 : Int32) (x3 : Int32) (x4 : Int32) (S : ox_St) (mr sr : Nat) (Q : ox_Q) : Prop := ox_C E (ox_mi 146).2.2.2.1 (ox_mc 146) (ox_cut 146) Q 227 [some (.inr (.inr (x0))), some (.inl (x1)), some (.inl (x2)), some (.inl (x3)), some (.inl (x4)), none] [] S mr sr
def c_146_291 (E : ox_E) (x0 : Nat) (x1 : Int32) (x2 : Int32) (x3 : Int32) (x4 : Int32) (S : ox_St) (mr sr : Nat) (Q : ox_Q) : Prop := ox_C E (ox_mi 146).2.2.2.1 (ox_mc 146) (ox_cut 146) Q 291 [some (.inr (.inr (x0))), some (.inl (x1)), some (.inl (x2)), some (.inl (x3)), some (.inl (x4)), none] [] S mr sr
set_option maxRecDepth 20000 in
def q_146_291 (E : ox_E) (x0 : Nat) (x1 : Int32) (x2 : Int32) (x3 : Int32) (x4 : Int32) (S : ox_St) (mr sr : Nat) (Q : ox_Q) : Prop :=
  (ox_has (S.K x0) 116 = true ∧ (((S.I 116 x0) ≤ 0 → c_146_67 E x0 (x1 + (-1)) S mr sr Q) ∧ (¬ (S.I 116 x0) ≤ 0 → (ox_has (S.K x0) 112 = true ∧ (ox_has (S.K x0) 116 = true ∧ (ox_rdI (S.K (S.R 112 x0)) = true ∧ vp_in ((S.I 116 x0) - 1) (S.len (S.R 112 x0)) ∧ ((¬ (S.rI (S.R 112 x0) (Int32.toNatClampNeg ((S.I 116 x0) - 1))) = 0 → c_146_67 E x0 (x1 + (-1)) S mr sr Q) ∧ ((S.rI (S.R 112 x0) (Int32.toNatClampNeg ((S.I 116 x0) - 1))) = 0 → (ox_has (S.K x0) 116 = true ∧ (ox_has (S.K x0) 116 = true ∧ (let S1 := S.sI 116 x0 ((S.I 116 x0) - 1)
  c_146_291 E x0 x1 x2 x3 x4 S1 mr sr Q)))))))))))
set_option maxRecDepth 20000 in
set_option maxHeartbeats 4000000 in
theorem f_146_291 {E : ox_E} (hE : ox_mono E) {mr sr : Nat} {x0 : Nat} {x1 : Int32} {x2 : Int32} {x3 : Int32} {x4 : Int32} {S : ox_St} {Q : ox_Q} (h : q_146_291 E x0 x1 x2 x3 x4 S mr sr Q) : c_146_291 E x0 x1 x2 x3 x4 S mr sr Q := ox_C_fold hE h
set_option maxRecDepth 20000 in
def q_146_227 (E : ox_E) (x0 : Nat) (x1 : Int32) (x2 : Int32) (x3 : Int32) (x4 : Int32) (S : ox_St) (mr sr : Nat) (Q : ox_Q) : Prop :=
  (((18 : Int32) ≤ x4 → c_146_291 E x0 x1 x2 x3 x4 S mr sr Q) ∧ (¬ (18 : Int32) ≤ x4 → (ox_has (S.K x0) 112 = true ∧ (ox_rdI (S.K (S.R 112 x0)) = true ∧ vp_in x4 (S.len (S.R 112 x0)) ∧ (ox_has (S.K x0) 114 = true ∧ (((S.I 114 x0) ≤ x4 → (let w1 : Int32 := ((S.rI (S.R 112 x0) (Int32.toNatClampNeg x4)) - 0) + x3
  (ox_has (S.K x0) 112 = true ∧ (S.K (S.R 112 x0) = 15 ∧ vp_in x4 (S.len (S.R 112 x0)) ∧ (let S2 := S.wI (S.R 112 x0) (Int32.toNatClampNeg x4) (w1 &&& 32767)
  (let w3 : Int32 := w1 >>> (15 &&& 31)
  c_146_227 E x0 x1 x2 w3 (x4 + 1) S2 mr sr Q)))))) ∧ (¬ (S.I 114 x0) ≤ x4 → (ox_has (S.K x0) 110 = true ∧ (ox_rdI (S.K (S.R 110 x0)) = true ∧ vp_in x4 (S.len (S.R 110 x0)) ∧ (let w4 : Int32 := ((S.rI (S.R 112 x0) (Int32.toNatClampNeg x4)) - (S.rI (S.R 110 x0) (Int32.toNatClampNeg x4))) + x3
  (ox_has (S.K x0) 112 = true ∧ (S.K (S.R 112 x0) = 15 ∧ vp_in x4 (S.len (S.R 112 x0)) ∧ (let S5 := S.wI (S.R 112 x0) (Int32.toNatClampNeg x4) (w4 &&& 32767)
  (let w6 : Int32 := w4 >>> (15 &&& 31)
  c_146_227 E x0 x1 x2 w6 (x4 + 1) S5 mr sr Q))))))))))))))
set_option maxRecDepth 20000 in
set_option maxHeartbeats 4000000 in
theorem f_146_227 {E : ox_E} (hE : ox_mono E) {mr sr : Nat} {x0 : Nat} {x1 : Int32} {x2 : Int32} {x3 : Int32} {x4 : Int32} {S : ox_St} {Q : ox_Q} (h : q_146_227 E x0 x1 x2 x3 x4 S mr sr Q) : c_146_227 E x0 x1 x2 x3 x4 S mr sr Q := ox_C_fold hE h
set_option maxRecDepth 20000 in
def q_146_191 (E : ox_E) (x0 : Nat) (x1 : Int32) (x2 : Int32) (x3 : Int32) (y0 : Int32) (S : ox_St) (mr sr : Nat) (Q : ox_Q) : Prop :=
  (((0 : Int32) ≤ y0 → (ox_has (S.K x0) 111 = true ∧ (¬ (15 : Int32) = 0 ∧ (ox_has (S.K x0) 111 = true ∧ (¬ (15 : Int32) = 0 ∧ (ox_rdI (S.K (S.R 111 x0)) = true ∧ vp_in (x1 / 15) (S.len (S.R 111 x0)) ∧ (¬ (15 : Int32) = 0 ∧ (S.K (S.R 111 x0) = 15 ∧ vp_in (x1 / 15) (S.len (S.R 111 x0)) ∧ (let S1 := S.wI (S.R 111 x0) (Int32.toNatClampNeg (x1 / 15)) ((S.rI (S.R 111 x0) (Int32.toNatClampNeg (x1 / 15))) ||| (1 <<< ((x1 - x1 / 15 * 15) &&& 31)))
  c_146_227 E x0 x1 x2 0 0 S1 mr sr Q))))))))) ∧ (¬ (0 : Int32) ≤ y0 → c_146_67 E x0 (x1 + (-1)) S mr sr Q))
set_option maxRecDepth 20000 in
set_option maxHeartbeats 4000000 in
theorem f_146_191 {E : ox_E} (hE : ox_mono E) {mr sr : Nat} {x0 : Nat} {x1 : Int32} {x2 : Int32} {x3 : Int32} {y0 : Int32} {S : ox_St} {Q : ox_Q} (h : q_146_191 E x0 x1 x2 x3 y0 S mr sr Q) : k_146_191 E x0 x1 x2 x3 mr sr Q (some (.inl (y0))) S := ox_C_fold hE h
set_option maxRecDepth 20000 in
def q_146_138 (E : ox_E) (x0 : Nat) (x1 : Int32) (x2 : Int32) (x3 : Int32) (S : ox_St) (mr sr : Nat) (Q : ox_Q) : Prop :=
  (ox_has (S.K x0) 116 = true ∧ (((S.I 116 x0) ≤ 0 → (ox_has (S.K x0) 112 = true ∧ (ox_has (S.K x0) 116 = true ∧ (ox_has (S.K x0) 110 = true ∧ (ox_has (S.K x0) 114 = true ∧ (4 ≤ 4 ∧ 0 ≤ 8 ∧ ∃ mc1 mk2, mc1 ≤ mr ∧ mk2 ≤ sr ∧ E 141 [.inr (.inr (S.R 112 x0)), .inl (S.I 116 x0), .inr (.inr (S.R 110 x0)), .inl (S.I 114 x0)] mc1 mk2 S (k_146_191 E x0 x1 x2 x3 (mr - mc1) (sr - mk2) Q))))))) ∧ (¬ (S.I 116 x0) ≤ 0 → (ox_has (S.K x0) 112 = true ∧ (ox_has (S.K x0) 116 = true ∧ (ox_rdI (S.K (S.R 112 x0)) = true ∧ vp_in ((S.I 116 x0) - 1) (S.len (S.R 112 x0)) ∧ ((¬ (S.rI (S.R 112 x0) (Int32.toNatClampNeg ((S.I 116 x0) - 1))) = 0 → (ox_has (S.K x0) 112 = true ∧ (ox_has (S.K x0) 116 = true ∧ (ox_has (S.K x0) 110 = true ∧ (ox_has (S.K x0) 114 = true ∧ (4 ≤ 4 ∧ 0 ≤ 8 ∧ ∃ mc3 mk4, mc3 ≤ mr ∧ mk4 ≤ sr ∧ E 141 [.inr (.inr (S.R 112 x0)), .inl (S.I 116 x0), .inr (.inr (S.R 110 x0)), .inl (S.I 114 x0)] mc3 mk4 S (k_146_191 E x0 x1 x2 x3 (mr - mc3) (sr - mk4) Q))))))) ∧ ((S.rI (S.R 112 x0) (Int32.toNatClampNeg ((S.I 116 x0) - 1))) = 0 → (ox_has (S.K x0) 116 = true ∧ (ox_has (S.K x0) 116 = true ∧ (let S5 := S.sI 116 x0 ((S.I 116 x0) - 1)
  c_146_138 E x0 x1 x2 x3 S5 mr sr Q)))))))))))
set_option maxRecDepth 20000 in
set_option maxHeartbeats 4000000 in
theorem f_146_138 {E : ox_E} (hE : ox_mono E) {mr sr : Nat} {x0 : Nat} {x1 : Int32} {x2 : Int32} {x3 : Int32} {S : ox_St} {Q : ox_Q} (h : q_146_138 E x0 x1 x2 x3 S mr sr Q) : c_146_138 E x0 x1 x2 x3 S mr sr Q := ox_C_fold hE h
set_option maxRecDepth 20000 in
def q_146_90 (E : ox_E) (x0 : Nat) (x1 : Int32) (x2 : Int32) (x3 : Int32) (S : ox_St) (mr sr : Nat) (Q : ox_Q) : Prop :=
  (((18 : Int32) ≤ x3 → (ox_has (S.K x0) 116 = true ∧ (let S1 := S.sI 116 x0 18
  c_146_138 E x0 x1 x2 x3 S1 mr sr Q))) ∧ (¬ (18 : Int32) ≤ x3 → (ox_has (S.K x0) 112 = true ∧ (ox_rdI (S.K (S.R 112 x0)) = true ∧ vp_in x3 (S.len (S.R 112 x0)) ∧ (let w2 : Int32 := (2 * (S.rI (S.R 112 x0) (Int32.toNatClampNeg x3))) + x2
  (ox_has (S.K x0) 112 = true ∧ (S.K (S.R 112 x0) = 15 ∧ vp_in x3 (S.len (S.R 112 x0)) ∧ (let S3 := S.wI (S.R 112 x0) (Int32.toNatClampNeg x3) (w2 &&& 32767)
  (let w4 : Int32 := w2 >>> (15 &&& 31)
  c_146_90 E x0 x1 w4 (x3 + 1) S3 mr sr Q)))))))))
set_option maxRecDepth 20000 in
set_option maxHeartbeats 4000000 in
theorem f_146_90 {E : ox_E} (hE : ox_mono E) {mr sr : Nat} {x0 : Nat} {x1 : Int32} {x2 : Int32} {x3 : Int32} {S : ox_St} {Q : ox_Q} (h : q_146_90 E x0 x1 x2 x3 S mr sr Q) : c_146_90 E x0 x1 x2 x3 S mr sr Q := ox_C_fold hE h
set_option maxRecDepth 20000 in
def q_146_67 (E : ox_E) (x0 : Nat) (x1 : Int32) (S : ox_St) (mr sr : Nat) (Q : ox_Q) : Prop :=
  ((x1 < 0 → ((ox_mi 146).2.2.2.1 = none ∧ Q none S)) ∧ (¬ x1 < 0 → (ox_has (S.K x0) 109 = true ∧ (¬ (15 : Int32) = 0 ∧ (ox_rdI (S.K (S.R 109 x0)) = true ∧ vp_in (x1 / 15) (S.len (S.R 109 x0)) ∧ (¬ (15 : Int32) = 0 ∧ (let w1 : Int32 := ((S.rI (S.R 109 x0) (Int32.toNatClampNeg (x1 / 15))) >>> ((x1 - x1 / 15 * 15) &&& 31)) &&& 1
  c_146_90 E x0 x1 w1 0 S mr sr Q)))))))
set_option maxRecDepth 20000 in
set_option maxHeartbeats 4000000 in
theorem f_146_67 {E : ox_E} (hE : ox_mono E) {mr sr : Nat} {x0 : Nat} {x1 : Int32} {S : ox_St} {Q : ox_Q} (h : q_146_67 E x0 x1 S mr sr Q) : c_146_67 E x0 x1 S mr sr Q := ox_C_fold hE h
set_option maxRecDepth 20000 in
def q_146_36 (E : ox_E) (x0 : Nat) (x1 : Int32) (S : ox_St) (mr sr : Nat) (Q : ox_Q) : Prop :=
  (ox_has (S.K x0) 113 = true ∧ (((S.I 113 x0) ≤ x1 → (ox_has (S.K x0) 113 = true ∧ (let w1 : Int32 := (15 * (S.I 113 x0)) - 1
  c_146_67 E x0 w1 S mr sr Q))) ∧ (¬ (S.I 113 x0) ≤ x1 → (ox_has (S.K x0) 111 = true ∧ (S.K (S.R 111 x0) = 15 ∧ vp_in x1 (S.len (S.R 111 x0)) ∧ (let S2 := S.wI (S.R 111 x0) (Int32.toNatClampNeg x1) 0
  c_146_36 E x0 (x1 + 1) S2 mr sr Q))))))
set_option maxRecDepth 20000 in
set_option maxHeartbeats 4000000 in
theorem f_146_36 {E : ox_E} (hE : ox_mono E) {mr sr : Nat} {x0 : Nat} {x1 : Int32} {S : ox_St} {Q : ox_Q} (h : q_146_36 E x0 x1 S mr sr Q) : c_146_36 E x0 x1 S mr sr Q := ox_C_fold hE h
set_option maxRecDepth 20000 in
def q_146_7 (E : ox_E) (x0 : Nat) (x1 : Int32) (S : ox_St) (mr sr : Nat) (Q : ox_Q) : Prop :=
  (((18 : Int32) ≤ x1 → (ox_has (S.K x0) 113 = true ∧ (ox_has (S.K x0) 115 = true ∧ (let S1 := S.sI 115 x0 (S.I 113 x0)
  c_146_36 E x0 0 S1 mr sr Q)))) ∧ (¬ (18 : Int32) ≤ x1 → (ox_has (S.K x0) 112 = true ∧ (S.K (S.R 112 x0) = 15 ∧ vp_in x1 (S.len (S.R 112 x0)) ∧ (let S2 := S.wI (S.R 112 x0) (Int32.toNatClampNeg x1) 0
  c_146_7 E x0 (x1 + 1) S2 mr sr Q)))))
set_option maxRecDepth 20000 in
set_option maxHeartbeats 4000000 in
theorem f_146_7 {E : ox_E} (hE : ox_mono E) {mr sr : Nat} {x0 : Nat} {x1 : Int32} {S : ox_St} {Q : ox_Q} (h : q_146_7 E x0 x1 S mr sr Q) : c_146_7 E x0 x1 S mr sr Q := ox_C_fold hE h
set_option maxRecDepth 20000 in
def q_146 (E : ox_E) (x0 : Nat) (S : ox_St) (mr sr : Nat) (Q : ox_Q) : Prop :=
  (ox_has (S.K x0) 116 = true ∧ (let S1 := S.sI 116 x0 0
  c_146_7 E x0 0 S1 mr sr Q))
set_option maxRecDepth 20000 in
set_option maxHeartbeats 4000000 in
theorem f_146 {sp : ox_E} (hsp : ox_mono sp) {d : Nat} {mr sr : Nat} {x0 : Nat} {S : ox_St} {Q : ox_Q} (h : q_146 (ox_M sp d) x0 S mr sr Q) : ox_M sp (d + 1) 146 [.inr (.inr (x0))] mr sr S Q := Or.inr ⟨Nat.le_of_ble_eq_true rfl, ox_C_fold (ox_M_mono hsp d) h⟩
/-! OpcodeFramesModel.quotient(IIZ)I -/
def k_147_6 (E : ox_E) (x0 : Nat) (x1 : Int32) (x2 : Int32) (x3 : Int32) (mr sr : Nat) (Q : ox_Q) : ox_Q := fun r_ T_ => ox_C E (ox_mi 147).2.2.2.1 (ox_mc 147) (ox_cut 147) Q 6 [some (.inr (.inr (x0))), some (.inl (x1)), some (.inl (x2)), some (.inl (x3)), none, none] (r_.toList ++ []) T_ mr sr
def k_147_10 (E : ox_E) (x0 : Nat) (x1 : Int32) (x2 : Int32) (x3 : Int32) (mr sr : Nat) (Q : ox_Q) : ox_Q := fun r_ T_ => ox_C E (ox_mi 147).2.2.2.1 (ox_mc 147) (ox_cut 147) Q 10 [some (.inr (.inr (x0))), some (.inl (x1)), some (.inl (x2)), some (.inl (x3)), none, none] (r_.toList ++ []) T_ mr sr
def c_147_50 (E : ox_E) (x0 : Nat) (x1 : Int32) (x2 : Int32) (x3 : Int32) (x4 : Int32) (x5 : Int32) (S : ox_St) (mr sr : Nat) (Q : ox_Q) : Prop := ox_C E (ox_mi 147).2.2.2.1 (ox_mc 147) (ox_cut 147) Q 50 [some (.inr (.inr (x0))), some (.inl (x1)), some (.inl (x2)), some (.inl (x3)), some (.inl (x4)), some (.inl (x5))] [] S mr sr
def c_147_87 (E : ox_E) (x0 : Nat) (x1 : Int32) (x2 : Int32) (x3 : Int32) (x4 : Int32) (x5 : Int32) (S : ox_St) (mr sr : Nat) (Q : ox_Q) : Prop := ox_C E (ox_mi 147).2.2.2.1 (ox_mc 147) (ox_cut 147) Q 87 [some (.inr (.inr (x0))), some (.inl (x1)), some (.inl (x2)), some (.inl (x3)), some (.inl (x4)), some (.inl (x5))] [] S mr sr
def k_147_129 (E : ox_E) (x0 : Nat) (x1 : Int32) (x2 : Int32) (x3 : Int32) (x4 : Int32) (x5 : Int32) (mr sr : Nat) (Q : ox_Q) : ox_Q := fun r_ T_ => ox_C E (ox_mi 147).2.2.2.1 (ox_mc 147) (ox_cut 147) Q 129 [some (.inr (.inr (x0))), some (.inl (x1)), some (.inl (x2)), some (.inl (x3)), some (.inl (x4)), some (.inl (x5))] (r_.toList ++ []) T_ mr sr
def k_147_143 (E : ox_E) (x0 : Nat) (x1 : Int32) (x2 : Int32) (x3 : Int32) (x4 : Int32) (x5 : Int32) (mr sr : Nat) (Q : ox_Q) : ox_Q := fun r_ T_ => ox_C E (ox_mi 147).2.2.2.1 (ox_mc 147) (ox_cut 147) Q 143 [some (.inr (.inr (x0))), some (.inl (x1)), some (.inl (x2)), some (.inl (x3)), some (.inl (x4)), some (.inl (x5))] (r_.toList ++ []) T_ mr sr
def c_147_174 (E : ox_E) (x0 : Nat) (x1 : Int32) (x2 : Int32) (x3 : Int32) (x4 : Int32) (x5 : Int32) (S : ox_St) (mr sr : Nat) (Q : ox_Q) : Prop := ox_C E (ox_mi 147).2.2.2.1 (ox_mc 147) (ox_cut 147) Q 174 [some (.inr (.inr (x0))), some (.inl (x1)), some (.inl (x2)), some (.inl (x3)), some (.inl (x4)), some (.inl (x5))] [] S mr sr
def k_147_236 (E : ox_E) (x0 : Nat) (x1 : Int32) (x2 : Int32) (x3 : Int32) (x4 : Int32) (mr sr : Nat) (Q : ox_Q) : ox_Q := fun r_ T_ => ox_C E (ox_mi 147).2.2.2.1 (ox_mc 147) (ox_cut 147) Q 236 [some (.inr (.inr (x0))), some (.inl (x1)), some (.inl (x2)), some (.inl (x3)), some (.inl (x4)), none] (r_.toList ++ []) T_ mr sr
set_option maxRecDepth 20000 in
def q_147_236 (E : ox_E) (x0 : Nat) (x1 : Int32) (x2 : Int32) (x3 : Int32) (x4 : Int32) (y0 : Int32) (S : ox_St) (mr sr : Nat) (Q : ox_Q) : Prop :=
  (True ∧ Q (some (.inl y0)) S)
set_option maxRecDepth 20000 in
set_option maxHeartbeats 4000000 in
theorem f_147_236 {E : ox_E} (hE : ox_mono E) {mr sr : Nat} {x0 : Nat} {x1 : Int32} {x2 : Int32} {x3 : Int32} {x4 : Int32} {y0 : Int32} {S : ox_St} {Q : ox_Q} (h : q_147_236 E x0 x1 x2 x3 x4 y0 S mr sr Q) : k_147_236 E x0 x1 x2 x3 x4 mr sr Q (some (.inl (y0))) S := ox_C_fold hE h
set_option maxRecDepth 20000 in
def q_147_174 (E : ox_E) (x0 : Nat) (x1 : Int32) (x2 : Int32) (x3 : Int32) (x4 : Int32) (x5 : Int32) (S : ox_St) (mr sr : Nat) (Q : ox_Q) : Prop :=
  (ox_has (S.K x0) 111 = true ∧ (ox_rdI (S.K (S.R 111 x0)) = true ∧ vp_in x5 (S.len (S.R 111 x0)) ∧ ((¬ (S.rI (S.R 111 x0) (Int32.toNatClampNeg x5)) = 32767 → (ox_has (S.K x0) 111 = true ∧ (ox_rdI (S.K (S.R 111 x0)) = true ∧ vp_in x5 (S.len (S.R 111 x0)) ∧ (S.K (S.R 111 x0) = 15 ∧ vp_in x5 (S.len (S.R 111 x0)) ∧ (let S1 := S.wI (S.R 111 x0) (Int32.toNatClampNeg x5) ((S.rI (S.R 111 x0) (Int32.toNatClampNeg x5)) + 1)
  (ox_has (S1.K x0) 117 = true ∧ (ox_has (S1.K x0) 118 = true ∧ (((S1.I 117 x0) = (S1.I 118 x0) → (ox_has (S1.K x0) 119 = true ∧ (((0 : Int32) = 0 ∨ (0 : Int32) = 1) ∧ (let S2 := S1.sI 119 x0 0
  (1 ≤ 1 ∧ S2.K x0 = 14 ∧ 0 ≤ 8 ∧ ∃ mc3 mk4, mc3 ≤ mr ∧ mk4 ≤ sr ∧ E 140 [.inr (.inr (x0))] mc3 mk4 S2 (k_147_236 E x0 x1 x2 x3 x4 (mr - mc3) (sr - mk4) Q)))))) ∧ (¬ (S1.I 117 x0) = (S1.I 118 x0) → (ox_has (S1.K x0) 119 = true ∧ (((1 : Int32) = 0 ∨ (1 : Int32) = 1) ∧ (let S5 := S1.sI 119 x0 1
  (1 ≤ 1 ∧ S5.K x0 = 14 ∧ 0 ≤ 8 ∧ ∃ mc6 mk7, mc6 ≤ mr ∧ mk7 ≤ sr ∧ E 140 [.inr (.inr (x0))] mc6 mk7 S5 (k_147_236 E x0 x1 x2 x3 x4 (mr - mc6) (sr - mk7) Q)))))))))))))) ∧ ((S.rI (S.R 111 x0) (Int32.toNatClampNeg x5)) = 32767 → (ox_has (S.K x0) 111 = true ∧ (S.K (S.R 111 x0) = 15 ∧ vp_in x5 (S.len (S.R 111 x0)) ∧ (let S8 := S.wI (S.R 111 x0) (Int32.toNatClampNeg x5) 0
  c_147_174 E x0 x1 x2 x3 x4 (x5 + 1) S8 mr sr Q)))))))
set_option maxRecDepth 20000 in
set_option maxHeartbeats 4000000 in
theorem f_147_174 {E : ox_E} (hE : ox_mono E) {mr sr : Nat} {x0 : Nat} {x1 : Int32} {x2 : Int32} {x3 : Int32} {x4 : Int32} {x5 : Int32} {S : ox_St} {Q : ox_Q} (h : q_147_174 E x0 x1 x2 x3 x4 x5 S mr sr Q) : c_147_174 E x0 x1 x2 x3 x4 x5 S mr sr Q := ox_C_fold hE h
set_option maxRecDepth 20000 in
def q_147_143 (E : ox_E) (x0 : Nat) (x1 : Int32) (x2 : Int32) (x3 : Int32) (x4 : Int32) (x5 : Int32) (y0 : Int32) (S : ox_St) (mr sr : Nat) (Q : ox_Q) : Prop :=
  (True ∧ Q (some (.inl y0)) S)
set_option maxRecDepth 20000 in
set_option maxHeartbeats 4000000 in
theorem f_147_143 {E : ox_E} (hE : ox_mono E) {mr sr : Nat} {x0 : Nat} {x1 : Int32} {x2 : Int32} {x3 : Int32} {x4 : Int32} {x5 : Int32} {y0 : Int32} {S : ox_St} {Q : ox_Q} (h : q_147_143 E x0 x1 x2 x3 x4 x5 y0 S mr sr Q) : k_147_143 E x0 x1 x2 x3 x4 x5 mr sr Q (some (.inl (y0))) S := ox_C_fold hE h
set_option maxRecDepth 20000 in
def q_147_129 (E : ox_E) (x0 : Nat) (x1 : Int32) (x2 : Int32) (x3 : Int32) (x4 : Int32) (x5 : Int32) (y0 : Int32) (S : ox_St) (mr sr : Nat) (Q : ox_Q) : Prop :=
  (ox_has (S.K x0) 118 = true ∧ (ox_has (S.K x0) 119 = true ∧ (((S.I 118 x0 : Int32) = 0 ∨ (S.I 118 x0 : Int32) = 1) ∧ (let S1 := S.sI 119 x0 (S.I 118 x0)
  (1 ≤ 1 ∧ S1.K x0 = 14 ∧ 0 ≤ 8 ∧ ∃ mc2 mk3, mc2 ≤ mr ∧ mk3 ≤ sr ∧ E 140 [.inr (.inr (x0))] mc2 mk3 S1 (k_147_143 E x0 x1 x2 x3 x4 y0 (mr - mc2) (sr - mk3) Q))))))
set_option maxRecDepth 20000 in
set_option maxHeartbeats 4000000 in
theorem f_147_129 {E : ox_E} (hE : ox_mono E) {mr sr : Nat} {x0 : Nat} {x1 : Int32} {x2 : Int32} {x3 : Int32} {x4 : Int32} {x5 : Int32} {y0 : Int32} {S : ox_St} {Q : ox_Q} (h : q_147_129 E x0 x1 x2 x3 x4 x5 y0 S mr sr Q) : k_147_129 E x0 x1 x2 x3 x4 x5 mr sr Q (some (.inl (y0))) S := ox_C_fold hE h
set_option maxRecDepth 20000 in
def q_147_87 (E : ox_E) (x0 : Nat) (x1 : Int32) (x2 : Int32) (x3 : Int32) (x4 : Int32) (x5 : Int32) (S : ox_St) (mr sr : Nat) (Q : ox_Q) : Prop :=
  (ox_has (S.K x0) 116 = true ∧ (((S.I 116 x0) ≤ x5 → (ox_has (S.K x0) 116 = true ∧ (ox_has (S.K x0) 113 = true ∧ (let S1 := S.sI 113 x0 (S.I 116 x0)
  (2 ≤ 2 ∧ S1.K x0 = 14 ∧ 0 ≤ 8 ∧ ∃ mc2 mk3, mc2 ≤ mr ∧ mk3 ≤ sr ∧ E 143 [.inr (.inr (x0)), .inl (1)] mc2 mk3 S1 (k_147_129 E x0 x1 x2 x3 x4 x5 (mr - mc2) (sr - mk3) Q)))))) ∧ (¬ (S.I 116 x0) ≤ x5 → (ox_has (S.K x0) 109 = true ∧ (ox_has (S.K x0) 112 = true ∧ (ox_rdI (S.K (S.R 112 x0)) = true ∧ vp_in x5 (S.len (S.R 112 x0)) ∧ (S.K (S.R 109 x0) = 15 ∧ vp_in x5 (S.len (S.R 109 x0)) ∧ (let S4 := S.wI (S.R 109 x0) (Int32.toNatClampNeg x5) (S.rI (S.R 112 x0) (Int32.toNatClampNeg x5))
  c_147_87 E x0 x1 x2 x3 x4 (x5 + 1) S4 mr sr Q))))))))
set_option maxRecDepth 20000 in
set_option maxHeartbeats 4000000 in
theorem f_147_87 {E : ox_E} (hE : ox_mono E) {mr sr : Nat} {x0 : Nat} {x1 : Int32} {x2 : Int32} {x3 : Int32} {x4 : Int32} {x5 : Int32} {S : ox_St} {Q : ox_Q} (h : q_147_87 E x0 x1 x2 x3 x4 x5 S mr sr Q) : c_147_87 E x0 x1 x2 x3 x4 x5 S mr sr Q := ox_C_fold hE h
set_option maxRecDepth 20000 in
def q_147_50 (E : ox_E) (x0 : Nat) (x1 : Int32) (x2 : Int32) (x3 : Int32) (x4 : Int32) (x5 : Int32) (S : ox_St) (mr sr : Nat) (Q : ox_Q) : Prop :=
  (ox_has (S.K x0) 116 = true ∧ (((S.I 116 x0) ≤ x5 → ((x4 = 0 → (ox_has (S.K x0) 118 = true ∧ (ox_has (S.K x0) 119 = true ∧ (((S.I 118 x0 : Int32) = 0 ∨ (S.I 118 x0 : Int32) = 1) ∧ (let S1 := S.sI 119 x0 (S.I 118 x0)
  (1 ≤ 1 ∧ S1.K x0 = 14 ∧ 0 ≤ 8 ∧ ∃ mc2 mk3, mc2 ≤ mr ∧ mk3 ≤ sr ∧ E 140 [.inr (.inr (x0))] mc2 mk3 S1 (k_147_143 E x0 x1 x2 x3 x4 x5 (mr - mc2) (sr - mk3) Q))))))) ∧ (¬ x4 = 0 → c_147_87 E x0 x1 x2 x3 x4 0 S mr sr Q))) ∧ (¬ (S.I 116 x0) ≤ x5 → (ox_has (S.K x0) 111 = true ∧ (ox_has (S.K x0) 112 = true ∧ (ox_rdI (S.K (S.R 112 x0)) = true ∧ vp_in x5 (S.len (S.R 112 x0)) ∧ (S.K (S.R 111 x0) = 15 ∧ vp_in x5 (S.len (S.R 111 x0)) ∧ (let S4 := S.wI (S.R 111 x0) (Int32.toNatClampNeg x5) (S.rI (S.R 112 x0) (Int32.toNatClampNeg x5))
  c_147_50 E x0 x1 x2 x3 x4 (x5 + 1) S4 mr sr Q))))))))
set_option maxRecDepth 20000 in
set_option maxHeartbeats 4000000 in
theorem f_147_50 {E : ox_E} (hE : ox_mono E) {mr sr : Nat} {x0 : Nat} {x1 : Int32} {x2 : Int32} {x3 : Int32} {x4 : Int32} {x5 : Int32} {S : ox_St} {Q : ox_Q} (h : q_147_50 E x0 x1 x2 x3 x4 x5 S mr sr Q) : c_147_50 E x0 x1 x2 x3 x4 x5 S mr sr Q := ox_C_fold hE h
set_option maxRecDepth 20000 in
def q_147_10 (E : ox_E) (x0 : Nat) (x1 : Int32) (x2 : Int32) (x3 : Int32) (S : ox_St) (mr sr : Nat) (Q : ox_Q) : Prop :=
  (ox_has (S.K x0) 117 = true ∧ (ox_has (S.K x0) 118 = true ∧ (((S.I 117 x0) = (S.I 118 x0) → ((x3 = 0 → (((0 : Int32) = 0 → (ox_has (S.K x0) 117 = true ∧ (ox_has (S.K x0) 118 = true ∧ (((S.I 117 x0) = (S.I 118 x0) → (ox_has (S.K x0) 119 = true ∧ (((0 : Int32) = 0 ∨ (0 : Int32) = 1) ∧ (let S1 := S.sI 119 x0 0
  (1 ≤ 1 ∧ S1.K x0 = 14 ∧ 0 ≤ 8 ∧ ∃ mc2 mk3, mc2 ≤ mr ∧ mk3 ≤ sr ∧ E 140 [.inr (.inr (x0))] mc2 mk3 S1 (k_147_236 E x0 x1 x2 x3 0 (mr - mc2) (sr - mk3) Q)))))) ∧ (¬ (S.I 117 x0) = (S.I 118 x0) → (ox_has (S.K x0) 119 = true ∧ (((1 : Int32) = 0 ∨ (1 : Int32) = 1) ∧ (let S4 := S.sI 119 x0 1
  (1 ≤ 1 ∧ S4.K x0 = 14 ∧ 0 ≤ 8 ∧ ∃ mc5 mk6, mc5 ≤ mr ∧ mk6 ≤ sr ∧ E 140 [.inr (.inr (x0))] mc5 mk6 S4 (k_147_236 E x0 x1 x2 x3 0 (mr - mc5) (sr - mk6) Q)))))))))) ∧ (¬ (0 : Int32) = 0 → (ox_has (S.K x0) 115 = true ∧ (ox_has (S.K x0) 115 = true ∧ (let S7 := S.sI 115 x0 ((S.I 115 x0) + 1)
  (ox_has (S7.K x0) 111 = true ∧ (ox_has (S7.K x0) 115 = true ∧ (S7.K (S7.R 111 x0) = 15 ∧ vp_in ((S7.I 115 x0) - 1) (S7.len (S7.R 111 x0)) ∧ (let S8 := S7.wI (S7.R 111 x0) (Int32.toNatClampNeg ((S7.I 115 x0) - 1)) 0
  c_147_174 E x0 x1 x2 x3 0 0 S8 mr sr Q)))))))))) ∧ (¬ x3 = 0 → (ox_has (S.K x0) 116 = true ∧ (ox_has (S.K x0) 115 = true ∧ (let S9 := S.sI 115 x0 (S.I 116 x0)
  c_147_50 E x0 x1 x2 x3 0 0 S9 mr sr Q)))))) ∧ (¬ (S.I 117 x0) = (S.I 118 x0) → (ox_has (S.K x0) 116 = true ∧ (((S.I 116 x0) ≤ 0 → ((x3 = 0 → (((0 : Int32) = 0 → (ox_has (S.K x0) 117 = true ∧ (ox_has (S.K x0) 118 = true ∧ (((S.I 117 x0) = (S.I 118 x0) → (ox_has (S.K x0) 119 = true ∧ (((0 : Int32) = 0 ∨ (0 : Int32) = 1) ∧ (let S10 := S.sI 119 x0 0
  (1 ≤ 1 ∧ S10.K x0 = 14 ∧ 0 ≤ 8 ∧ ∃ mc11 mk12, mc11 ≤ mr ∧ mk12 ≤ sr ∧ E 140 [.inr (.inr (x0))] mc11 mk12 S10 (k_147_236 E x0 x1 x2 x3 0 (mr - mc11) (sr - mk12) Q)))))) ∧ (¬ (S.I 117 x0) = (S.I 118 x0) → (ox_has (S.K x0) 119 = true ∧ (((1 : Int32) = 0 ∨ (1 : Int32) = 1) ∧ (let S13 := S.sI 119 x0 1
  (1 ≤ 1 ∧ S13.K x0 = 14 ∧ 0 ≤ 8 ∧ ∃ mc14 mk15, mc14 ≤ mr ∧ mk15 ≤ sr ∧ E 140 [.inr (.inr (x0))] mc14 mk15 S13 (k_147_236 E x0 x1 x2 x3 0 (mr - mc14) (sr - mk15) Q)))))))))) ∧ (¬ (0 : Int32) = 0 → (ox_has (S.K x0) 115 = true ∧ (ox_has (S.K x0) 115 = true ∧ (let S16 := S.sI 115 x0 ((S.I 115 x0) + 1)
  (ox_has (S16.K x0) 111 = true ∧ (ox_has (S16.K x0) 115 = true ∧ (S16.K (S16.R 111 x0) = 15 ∧ vp_in ((S16.I 115 x0) - 1) (S16.len (S16.R 111 x0)) ∧ (let S17 := S16.wI (S16.R 111 x0) (Int32.toNatClampNeg ((S16.I 115 x0) - 1)) 0
  c_147_174 E x0 x1 x2 x3 0 0 S17 mr sr Q)))))))))) ∧ (¬ x3 = 0 → (ox_has (S.K x0) 116 = true ∧ (ox_has (S.K x0) 115 = true ∧ (let S18 := S.sI 115 x0 (S.I 116 x0)
  c_147_50 E x0 x1 x2 x3 0 0 S18 mr sr Q)))))) ∧ (¬ (S.I 116 x0) ≤ 0 → ((x3 = 0 → (((1 : Int32) = 0 → (ox_has (S.K x0) 117 = true ∧ (ox_has (S.K x0) 118 = true ∧ (((S.I 117 x0) = (S.I 118 x0) → (ox_has (S.K x0) 119 = true ∧ (((0 : Int32) = 0 ∨ (0 : Int32) = 1) ∧ (let S19 := S.sI 119 x0 0
  (1 ≤ 1 ∧ S19.K x0 = 14 ∧ 0 ≤ 8 ∧ ∃ mc20 mk21, mc20 ≤ mr ∧ mk21 ≤ sr ∧ E 140 [.inr (.inr (x0))] mc20 mk21 S19 (k_147_236 E x0 x1 x2 x3 1 (mr - mc20) (sr - mk21) Q)))))) ∧ (¬ (S.I 117 x0) = (S.I 118 x0) → (ox_has (S.K x0) 119 = true ∧ (((1 : Int32) = 0 ∨ (1 : Int32) = 1) ∧ (let S22 := S.sI 119 x0 1
  (1 ≤ 1 ∧ S22.K x0 = 14 ∧ 0 ≤ 8 ∧ ∃ mc23 mk24, mc23 ≤ mr ∧ mk24 ≤ sr ∧ E 140 [.inr (.inr (x0))] mc23 mk24 S22 (k_147_236 E x0 x1 x2 x3 1 (mr - mc23) (sr - mk24) Q)))))))))) ∧ (¬ (1 : Int32) = 0 → (ox_has (S.K x0) 115 = true ∧ (ox_has (S.K x0) 115 = true ∧ (let S25 := S.sI 115 x0 ((S.I 115 x0) + 1)
  (ox_has (S25.K x0) 111 = true ∧ (ox_has (S25.K x0) 115 = true ∧ (S25.K (S25.R 111 x0) = 15 ∧ vp_in ((S25.I 115 x0) - 1) (S25.len (S25.R 111 x0)) ∧ (let S26 := S25.wI (S25.R 111 x0) (Int32.toNatClampNeg ((S25.I 115 x0) - 1)) 0
  c_147_174 E x0 x1 x2 x3 1 0 S26 mr sr Q)))))))))) ∧ (¬ x3 = 0 → (ox_has (S.K x0) 116 = true ∧ (ox_has (S.K x0) 115 = true ∧ (let S27 := S.sI 115 x0 (S.I 116 x0)
  c_147_50 E x0 x1 x2 x3 1 0 S27 mr sr Q))))))))))))
set_option maxRecDepth 20000 in
set_option maxHeartbeats 4000000 in
theorem f_147_10 {E : ox_E} (hE : ox_mono E) {mr sr : Nat} {x0 : Nat} {x1 : Int32} {x2 : Int32} {x3 : Int32} {S : ox_St} {Q : ox_Q} (h : q_147_10 E x0 x1 x2 x3 S mr sr Q) : k_147_10 E x0 x1 x2 x3 mr sr Q none S := ox_C_fold hE h
set_option maxRecDepth 20000 in
def q_147_6 (E : ox_E) (x0 : Nat) (x1 : Int32) (x2 : Int32) (x3 : Int32) (S : ox_St) (mr sr : Nat) (Q : ox_Q) : Prop :=
  (1 ≤ 1 ∧ S.K x0 = 14 ∧ 0 ≤ 8 ∧ ∃ mc1 mk2, mc1 ≤ mr ∧ mk2 ≤ sr ∧ E 146 [.inr (.inr (x0))] mc1 mk2 S (k_147_10 E x0 x1 x2 x3 (mr - mc1) (sr - mk2) Q))
set_option maxRecDepth 20000 in
set_option maxHeartbeats 4000000 in
theorem f_147_6 {E : ox_E} (hE : ox_mono E) {mr sr : Nat} {x0 : Nat} {x1 : Int32} {x2 : Int32} {x3 : Int32} {S : ox_St} {Q : ox_Q} (h : q_147_6 E x0 x1 x2 x3 S mr sr Q) : k_147_6 E x0 x1 x2 x3 mr sr Q none S := ox_C_fold hE h
set_option maxRecDepth 20000 in
def q_147 (E : ox_E) (x0 : Nat) (x1 : Int32) (x2 : Int32) (x3 : Int32) (S : ox_St) (mr sr : Nat) (Q : ox_Q) : Prop :=
  (3 ≤ 3 ∧ S.K x0 = 14 ∧ 0 ≤ 8 ∧ ∃ mc1 mk2, mc1 ≤ mr ∧ mk2 ≤ sr ∧ E 139 [.inr (.inr (x0)), .inl (x1), .inl (x2)] mc1 mk2 S (k_147_6 E x0 x1 x2 x3 (mr - mc1) (sr - mk2) Q))
set_option maxRecDepth 20000 in
set_option maxHeartbeats 4000000 in
theorem f_147 {sp : ox_E} (hsp : ox_mono sp) {d : Nat} {mr sr : Nat} {x0 : Nat} {x1 : Int32} {x2 : Int32} {x3 : Int32} {S : ox_St} {Q : ox_Q} (h : q_147 (ox_M sp d) x0 x1 x2 x3 S mr sr Q) : ox_M sp (d + 1) 147 [.inr (.inr (x0)), .inl (x1), .inl (x2), .inl (x3)] mr sr S Q := Or.inr ⟨Nat.le_of_ble_eq_true rfl, ox_C_fold (ox_M_mono hsp d) h⟩
/-! OpcodeFramesModel.small(J)I -/
def c_148_33 (E : ox_E) (x0 : Nat) (x1 : Int64) (x3 : Int64) (S : ox_St) (mr sr : Nat) (Q : ox_Q) : Prop := ox_C E (ox_mi 148).2.2.2.1 (ox_mc 148) (ox_cut 148) Q 33 [some (.inr (.inr (x0))), some (.inr (.inl (x1))), none, some (.inr (.inl (x3))), none] [] S mr sr
def k_148_76 (E : ox_E) (x0 : Nat) (x1 : Int64) (x3 : Int64) (mr sr : Nat) (Q : ox_Q) : ox_Q := fun r_ T_ => ox_C E (ox_mi 148).2.2.2.1 (ox_mc 148) (ox_cut 148) Q 76 [some (.inr (.inr (x0))), some (.inr (.inl (x1))), none, some (.inr (.inl (x3))), none] (r_.toList ++ []) T_ mr sr
set_option maxRecDepth 20000 in
def q_148_76 (E : ox_E) (x0 : Nat) (x1 : Int64) (x3 : Int64) (y0 : Int32) (S : ox_St) (mr sr : Nat) (Q : ox_Q) : Prop :=
  (True ∧ Q (some (.inl y0)) S)
set_option maxRecDepth 20000 in
set_option maxHeartbeats 4000000 in
theorem f_148_76 {E : ox_E} (hE : ox_mono E) {mr sr : Nat} {x0 : Nat} {x1 : Int64} {x3 : Int64} {y0 : Int32} {S : ox_St} {Q : ox_Q} (h : q_148_76 E x0 x1 x3 y0 S mr sr Q) : k_148_76 E x0 x1 x3 mr sr Q (some (.inl (y0))) S := ox_C_fold hE h
set_option maxRecDepth 20000 in
def q_148_33 (E : ox_E) (x0 : Nat) (x1 : Int64) (x3 : Int64) (S : ox_St) (mr sr : Nat) (Q : ox_Q) : Prop :=
  (((lg_cmp x3 0) ≤ 0 → (1 ≤ 1 ∧ S.K x0 = 14 ∧ 0 ≤ 8 ∧ ∃ mc1 mk2, mc1 ≤ mr ∧ mk2 ≤ sr ∧ E 140 [.inr (.inr (x0))] mc1 mk2 S (k_148_76 E x0 x1 x3 (mr - mc1) (sr - mk2) Q))) ∧ (¬ (lg_cmp x3 0) ≤ 0 → (ox_has (S.K x0) 111 = true ∧ (ox_has (S.K x0) 115 = true ∧ (S.K (S.R 111 x0) = 15 ∧ vp_in (S.I 115 x0) (S.len (S.R 111 x0)) ∧ (let S3 := S.wI (S.R 111 x0) (Int32.toNatClampNeg (S.I 115 x0)) (Int64.toInt32 (x3 &&& 32767))
  (ox_has (S3.K x0) 115 = true ∧ (ox_has (S3.K x0) 115 = true ∧ (let S4 := S3.sI 115 x0 ((S3.I 115 x0) + 1)
  (let w5 : Int64 := x3 >>> (Int32.toInt64 15 &&& 63)
  c_148_33 E x0 x1 w5 S4 mr sr Q))))))))))
set_option maxRecDepth 20000 in
set_option maxHeartbeats 4000000 in
theorem f_148_33 {E : ox_E} (hE : ox_mono E) {mr sr : Nat} {x0 : Nat} {x1 : Int64} {x3 : Int64} {S : ox_St} {Q : ox_Q} (h : q_148_33 E x0 x1 x3 S mr sr Q) : c_148_33 E x0 x1 x3 S mr sr Q := ox_C_fold hE h
set_option maxRecDepth 20000 in
def q_148 (E : ox_E) (x0 : Nat) (x1 : Int64) (S : ox_St) (mr sr : Nat) (Q : ox_Q) : Prop :=
  (((0 : Int32) ≤ (lg_cmp x1 0) → (ox_has (S.K x0) 119 = true ∧ (((0 : Int32) = 0 ∨ (0 : Int32) = 1) ∧ (let S1 := S.sI 119 x0 0
  (ox_has (S1.K x0) 115 = true ∧ (let S2 := S1.sI 115 x0 0
  (((0 : Int32) ≤ (lg_cmp x1 0) → c_148_33 E x0 x1 x1 S2 mr sr Q) ∧ (¬ (0 : Int32) ≤ (lg_cmp x1 0) → (let w3 : Int64 := -x1
  c_148_33 E x0 x1 w3 S2 mr sr Q))))))))) ∧ (¬ (0 : Int32) ≤ (lg_cmp x1 0) → (ox_has (S.K x0) 119 = true ∧ (((1 : Int32) = 0 ∨ (1 : Int32) = 1) ∧ (let S4 := S.sI 119 x0 1
  (ox_has (S4.K x0) 115 = true ∧ (let S5 := S4.sI 115 x0 0
  (((0 : Int32) ≤ (lg_cmp x1 0) → c_148_33 E x0 x1 x1 S5 mr sr Q) ∧ (¬ (0 : Int32) ≤ (lg_cmp x1 0) → (let w6 : Int64 := -x1
  c_148_33 E x0 x1 w6 S5 mr sr Q))))))))))
set_option maxRecDepth 20000 in
set_option maxHeartbeats 4000000 in
theorem f_148 {sp : ox_E} (hsp : ox_mono sp) {d : Nat} {mr sr : Nat} {x0 : Nat} {x1 : Int64} {S : ox_St} {Q : ox_Q} (h : q_148 (ox_M sp d) x0 x1 S mr sr Q) : ox_M sp (d + 1) 148 [.inr (.inr (x0)), .inr (.inl (x1))] mr sr S Q := Or.inr ⟨Nat.le_of_ble_eq_true rfl, ox_C_fold (ox_M_mono hsp d) h⟩
/-! OpcodeFramesModel.plain(I)J -/
def c_149_25 (E : ox_E) (x0 : Nat) (x1 : Int32) (x2 : Int64) (x4 : Int32) (S : ox_St) (mr sr : Nat) (Q : ox_Q) : Prop := ox_C E (ox_mi 149).2.2.2.1 (ox_mc 149) (ox_cut 149) Q 25 [some (.inr (.inr (x0))), some (.inl (x1)), some (.inr (.inl (x2))), none, some (.inl (x4))] [] S mr sr
set_option maxRecDepth 20000 in
def q_149_25 (E : ox_E) (x0 : Nat) (x1 : Int32) (x2 : Int64) (x4 : Int32) (S : ox_St) (mr sr : Nat) (Q : ox_Q) : Prop :=
  ((x4 < 0 → (((lg_cmp x2 1000000000000) ≤ 0 → (ox_has (S.K x0) 73 = true ∧ (ox_rdI (S.K (S.R 73 x0)) = true ∧ vp_in (x1 + 1) (S.len (S.R 73 x0)) ∧ ((¬ (S.rI (S.R 73 x0) (Int32.toNatClampNeg (x1 + 1))) = 1 → (ox_isL (some .long) = true ∧ Q (some (.inr (.inl x2))) S)) ∧ ((S.rI (S.R 73 x0) (Int32.toNatClampNeg (x1 + 1))) = 1 → (ox_isL (some .long) = true ∧ Q (some (.inr (.inl (-x2)))) S)))))) ∧ (¬ (lg_cmp x2 1000000000000) ≤ 0 → (ox_has (S.K x0) 73 = true ∧ (ox_rdI (S.K (S.R 73 x0)) = true ∧ vp_in (x1 + 1) (S.len (S.R 73 x0)) ∧ ((¬ (S.rI (S.R 73 x0) (Int32.toNatClampNeg (x1 + 1))) = 1 → (ox_isL (some .long) = true ∧ Q (some (.inr (.inl 1000000000000))) S)) ∧ ((S.rI (S.R 73 x0) (Int32.toNatClampNeg (x1 + 1))) = 1 → (ox_isL (some .long) = true ∧ Q (some (.inr (.inl (-1000000000000)))) S)))))))) ∧ (¬ x4 < 0 → (((0 : Int32) ≤ (lg_cmp x2 1000000000000) → (((lg_cmp x2 1000000000000) ≤ 0 → (ox_has (S.K x0) 73 = true ∧ (ox_rdI (S.K (S.R 73 x0)) = true ∧ vp_in (x1 + 1) (S.len (S.R 73 x0)) ∧ ((¬ (S.rI (S.R 73 x0) (Int32.toNatClampNeg (x1 + 1))) = 1 → (ox_isL (some .long) = true ∧ Q (some (.inr (.inl x2))) S)) ∧ ((S.rI (S.R 73 x0) (Int32.toNatClampNeg (x1 + 1))) = 1 → (ox_isL (some .long) = true ∧ Q (some (.inr (.inl (-x2)))) S)))))) ∧ (¬ (lg_cmp x2 1000000000000) ≤ 0 → (ox_has (S.K x0) 73 = true ∧ (ox_rdI (S.K (S.R 73 x0)) = true ∧ vp_in (x1 + 1) (S.len (S.R 73 x0)) ∧ ((¬ (S.rI (S.R 73 x0) (Int32.toNatClampNeg (x1 + 1))) = 1 → (ox_isL (some .long) = true ∧ Q (some (.inr (.inl 1000000000000))) S)) ∧ ((S.rI (S.R 73 x0) (Int32.toNatClampNeg (x1 + 1))) = 1 → (ox_isL (some .long) = true ∧ Q (some (.inr (.inl (-1000000000000)))) S)))))))) ∧ (¬ (0 : Int32) ≤ (lg_cmp x2 1000000000000) → (ox_has (S.K x0) 73 = true ∧ (ox_rdI (S.K (S.R 73 x0)) = true ∧ vp_in ((x1 + 3) + x4) (S.len (S.R 73 x0)) ∧ (let w1 : Int64 := (32768 * x2) + (Int32.toInt64 (S.rI (S.R 73 x0) (Int32.toNatClampNeg ((x1 + 3) + x4))))
  c_149_25 E x0 x1 w1 (x4 + (-1)) S mr sr Q)))))))
set_option maxRecDepth 20000 in
set_option maxHeartbeats 4000000 in
theorem f_149_25 {E : ox_E} (hE : ox_mono E) {mr sr : Nat} {x0 : Nat} {x1 : Int32} {x2 : Int64} {x4 : Int32} {S : ox_St} {Q : ox_Q} (h : q_149_25 E x0 x1 x2 x4 S mr sr Q) : c_149_25 E x0 x1 x2 x4 S mr sr Q := ox_C_fold hE h
set_option maxRecDepth 20000 in
def q_149 (E : ox_E) (x0 : Nat) (x1 : Int32) (S : ox_St) (mr sr : Nat) (Q : ox_Q) : Prop :=
  (((16 : Int32) ≤ x1 → (ox_has (S.K x0) 73 = true ∧ (ox_rdI (S.K (S.R 73 x0)) = true ∧ vp_in (x1 + 2) (S.len (S.R 73 x0)) ∧ (let w1 : Int32 := (S.rI (S.R 73 x0) (Int32.toNatClampNeg (x1 + 2))) - 1
  c_149_25 E x0 x1 0 w1 S mr sr Q)))) ∧ (¬ (16 : Int32) ≤ x1 → (ox_isL (some .long) = true ∧ Q (some (.inr (.inl (Int32.toInt64 (x1 - 1))))) S)))
set_option maxRecDepth 20000 in
set_option maxHeartbeats 4000000 in
theorem f_149 {sp : ox_E} (hsp : ox_mono sp) {d : Nat} {mr sr : Nat} {x0 : Nat} {x1 : Int32} {S : ox_St} {Q : ox_Q} (h : q_149 (ox_M sp d) x0 x1 S mr sr Q) : ox_M sp (d + 1) 149 [.inr (.inr (x0)), .inl (x1)] mr sr S Q := Or.inr ⟨Nat.le_of_ble_eq_true rfl, ox_C_fold (ox_M_mono hsp d) h⟩
/-! OpcodeFramesModel.wrong(I)V -/
set_option maxRecDepth 20000 in
def q_150 (E : ox_E) (x0 : Nat) (x1 : Int32) (S : ox_St) (mr sr : Nat) (Q : ox_Q) : Prop :=
  (ox_has (S.K x0) 132 = true ∧ (((S.I 132 x0) = 0 → (ox_has (S.K x0) 132 = true ∧ (((1 : Int32) = 0 ∨ (1 : Int32) = 1) ∧ (let S1 := S.sI 132 x0 1
  (ox_has (S1.K x0) 70 = true ∧ (let S2 := S1.sI 70 x0 x1
  ((ox_mi 150).2.2.2.1 = none ∧ Q none S2))))))) ∧ (¬ (S.I 132 x0) = 0 → ((ox_mi 150).2.2.2.1 = none ∧ Q none S))))
set_option maxRecDepth 20000 in
set_option maxHeartbeats 4000000 in
theorem f_150 {sp : ox_E} (hsp : ox_mono sp) {d : Nat} {mr sr : Nat} {x0 : Nat} {x1 : Int32} {S : ox_St} {Q : ox_Q} (h : q_150 (ox_M sp d) x0 x1 S mr sr Q) : ox_M sp (d + 1) 150 [.inr (.inr (x0)), .inl (x1)] mr sr S Q := Or.inr ⟨Nat.le_of_ble_eq_true rfl, ox_C_fold (ox_M_mono hsp d) h⟩
/-! OpcodeFramesModel.take(II)I -/
def k_151_28 (E : ox_E) (x0 : Nat) (x1 : Int32) (x2 : Int32) (mr sr : Nat) (Q : ox_Q) : ox_Q := fun r_ T_ => ox_C E (ox_mi 151).2.2.2.1 (ox_mc 151) (ox_cut 151) Q 28 [some (.inr (.inr (x0))), some (.inl (x1)), some (.inl (x2))] (r_.toList ++ []) T_ mr sr
def k_151_65 (E : ox_E) (x0 : Nat) (x1 : Int32) (x2 : Int32) (mr sr : Nat) (Q : ox_Q) : ox_Q := fun r_ T_ => ox_C E (ox_mi 151).2.2.2.1 (ox_mc 151) (ox_cut 151) Q 65 [some (.inr (.inr (x0))), some (.inl (x1)), some (.inl (x2))] (r_.toList ++ []) T_ mr sr
set_option maxRecDepth 20000 in
def q_151_65 (E : ox_E) (x0 : Nat) (x1 : Int32) (x2 : Int32) (S : ox_St) (mr sr : Nat) (Q : ox_Q) : Prop :=
  (ox_has (S.K x0) 132 = true ∧ (((S.I 132 x0) = 0 → (ox_has (S.K x0) 120 = true ∧ (ox_has (S.K x0) 120 = true ∧ (let S1 := S.sI 120 x0 ((S.I 120 x0) + 1)
  (ox_has (S1.K x0) 71 = true ∧ (ox_has (S1.K x0) 120 = true ∧ (ox_rdI (S1.K (S1.R 71 x0)) = true ∧ vp_in ((S1.I 120 x0) - 1) (S1.len (S1.R 71 x0)) ∧ (True ∧ Q (some (.inl (S1.rI (S1.R 71 x0) (Int32.toNatClampNeg ((S1.I 120 x0) - 1))))) S1)))))))) ∧ (¬ (S.I 132 x0) = 0 → (True ∧ Q (some (.inl x1)) S))))
set_option maxRecDepth 20000 in
set_option maxHeartbeats 4000000 in
theorem f_151_65 {E : ox_E} (hE : ox_mono E) {mr sr : Nat} {x0 : Nat} {x1 : Int32} {x2 : Int32} {S : ox_St} {Q : ox_Q} (h : q_151_65 E x0 x1 x2 S mr sr Q) : k_151_65 E x0 x1 x2 mr sr Q none S := ox_C_fold hE h
set_option maxRecDepth 20000 in
def q_151_28 (E : ox_E) (x0 : Nat) (x1 : Int32) (x2 : Int32) (S : ox_St) (mr sr : Nat) (Q : ox_Q) : Prop :=
  k_151_65 E x0 x1 x2 mr sr Q none S
set_option maxRecDepth 20000 in
set_option maxHeartbeats 4000000 in
theorem f_151_28 {E : ox_E} (hE : ox_mono E) {mr sr : Nat} {x0 : Nat} {x1 : Int32} {x2 : Int32} {S : ox_St} {Q : ox_Q} (h : q_151_28 E x0 x1 x2 S mr sr Q) : k_151_28 E x0 x1 x2 mr sr Q none S := ox_C_fold hE h
set_option maxRecDepth 20000 in
def q_151 (E : ox_E) (x0 : Nat) (x1 : Int32) (x2 : Int32) (S : ox_St) (mr sr : Nat) (Q : ox_Q) : Prop :=
  (ox_has (S.K x0) 132 = true ∧ (((S.I 132 x0) = 0 → (ox_has (S.K x0) 120 = true ∧ (ox_has (S.K x0) 121 = true ∧ (((S.I 120 x0) < (S.I 121 x0) → (ox_has (S.K x0) 71 = true ∧ (ox_has (S.K x0) 120 = true ∧ (ox_rdI (S.K (S.R 71 x0)) = true ∧ vp_in (S.I 120 x0) (S.len (S.R 71 x0)) ∧ (((S.rI (S.R 71 x0) (Int32.toNatClampNeg (S.I 120 x0))) < x1 → (ox_has (S.K x0) 120 = true ∧ (2 ≤ 2 ∧ S.K x0 = 14 ∧ 0 ≤ 8 ∧ ∃ mc1 mk2, mc1 ≤ mr ∧ mk2 ≤ sr ∧ E 150 [.inr (.inr (x0)), .inl (S.I 120 x0)] mc1 mk2 S (k_151_65 E x0 x1 x2 (mr - mc1) (sr - mk2) Q)))) ∧ (¬ (S.rI (S.R 71 x0) (Int32.toNatClampNeg (S.I 120 x0))) < x1 → (ox_has (S.K x0) 71 = true ∧ (ox_has (S.K x0) 120 = true ∧ (ox_rdI (S.K (S.R 71 x0)) = true ∧ vp_in (S.I 120 x0) (S.len (S.R 71 x0)) ∧ (((S.rI (S.R 71 x0) (Int32.toNatClampNeg (S.I 120 x0))) ≤ x2 → k_151_65 E x0 x1 x2 mr sr Q none S) ∧ (¬ (S.rI (S.R 71 x0) (Int32.toNatClampNeg (S.I 120 x0))) ≤ x2 → (ox_has (S.K x0) 120 = true ∧ (2 ≤ 2 ∧ S.K x0 = 14 ∧ 0 ≤ 8 ∧ ∃ mc3 mk4, mc3 ≤ mr ∧ mk4 ≤ sr ∧ E 150 [.inr (.inr (x0)), .inl (S.I 120 x0)] mc3 mk4 S (k_151_65 E x0 x1 x2 (mr - mc3) (sr - mk4) Q)))))))))))))) ∧ (¬ (S.I 120 x0) < (S.I 121 x0) → (ox_has (S.K x0) 121 = true ∧ (2 ≤ 2 ∧ S.K x0 = 14 ∧ 0 ≤ 8 ∧ ∃ mc5 mk6, mc5 ≤ mr ∧ mk6 ≤ sr ∧ E 150 [.inr (.inr (x0)), .inl (S.I 121 x0)] mc5 mk6 S (k_151_28 E x0 x1 x2 (mr - mc5) (sr - mk6) Q)))))))) ∧ (¬ (S.I 132 x0) = 0 → (True ∧ Q (some (.inl x1)) S))))
set_option maxRecDepth 20000 in
set_option maxHeartbeats 4000000 in
theorem f_151 {sp : ox_E} (hsp : ox_mono sp) {d : Nat} {mr sr : Nat} {x0 : Nat} {x1 : Int32} {x2 : Int32} {S : ox_St} {Q : ox_Q} (h : q_151 (ox_M sp d) x0 x1 x2 S mr sr Q) : ox_M sp (d + 1) 151 [.inr (.inr (x0)), .inl (x1), .inl (x2)] mr sr S Q := Or.inr ⟨Nat.le_of_ble_eq_true rfl, ox_C_fold (ox_M_mono hsp d) h⟩
/-! OpcodeFramesModel.readLong()I -/
def k_152_8 (E : ox_E) (x0 : Nat) (mr sr : Nat) (Q : ox_Q) : ox_Q := fun r_ T_ => ox_C E (ox_mi 152).2.2.2.1 (ox_mc 152) (ox_cut 152) Q 8 [some (.inr (.inr (x0))), none, none, none, none, none] (r_.toList ++ []) T_ mr sr
def k_152_39 (E : ox_E) (x0 : Nat) (x1 : Int32) (mr sr : Nat) (Q : ox_Q) : ox_Q := fun r_ T_ => ox_C E (ox_mi 152).2.2.2.1 (ox_mc 152) (ox_cut 152) Q 39 [some (.inr (.inr (x0))), some (.inl (x1)), none, none, none, none] (r_.toList ++ []) T_ mr sr
def k_152_55 (E : ox_E) (x0 : Nat) (x1 : Int32) (mr sr : Nat) (Q : ox_Q) : ox_Q := fun r_ T_ => ox_C E (ox_mi 152).2.2.2.1 (ox_mc 152) (ox_cut 152) Q 55 [some (.inr (.inr (x0))), some (.inl (x1)), none, none, none, none] (r_.toList ++ []) T_ mr sr
def k_152_64 (E : ox_E) (x0 : Nat) (x1 : Int32) (mr sr : Nat) (Q : ox_Q) : ox_Q := fun r_ T_ => ox_C E (ox_mi 152).2.2.2.1 (ox_mc 152) (ox_cut 152) Q 64 [some (.inr (.inr (x0))), some (.inl (x1)), none, none, none, none] (r_.toList ++ []) T_ mr sr
def c_152_77 (E : ox_E) (x0 : Nat) (x1 : Int32) (x2 : Int32) (y0 : Int32) (y1 : Nat) (S : ox_St) (mr sr : Nat) (Q : ox_Q) : Prop := ox_C E (ox_mi 152).2.2.2.1 (ox_mc 152) (ox_cut 152) Q 77 [some (.inr (.inr (x0))), some (.inl (x1)), some (.inl (x2)), none, none, none] [.inl (y0), .inr (.inr (y1))] S mr sr
def c_152_108 (E : ox_E) (x0 : Nat) (x1 : Int32) (x2 : Int32) (y0 : Int32) (y1 : Nat) (S : ox_St) (mr sr : Nat) (Q : ox_Q) : Prop := ox_C E (ox_mi 152).2.2.2.1 (ox_mc 152) (ox_cut 152) Q 108 [some (.inr (.inr (x0))), some (.inl (x1)), some (.inl (x2)), none, none, none] [.inl (y0), .inr (.inr (y1))] S mr sr
def c_152_113 (E : ox_E) (x0 : Nat) (x1 : Int32) (x2 : Int32) (x3 : Int32) (S : ox_St) (mr sr : Nat) (Q : ox_Q) : Prop := ox_C E (ox_mi 152).2.2.2.1 (ox_mc 152) (ox_cut 152) Q 113 [some (.inr (.inr (x0))), some (.inl (x1)), some (.inl (x2)), some (.inl (x3)), none, none] [] S mr sr
def k_152_136 (E : ox_E) (x0 : Nat) (x1 : Int32) (x2 : Int32) (x3 : Int32) (mr sr : Nat) (Q : ox_Q) : ox_Q := fun r_ T_ => ox_C E (ox_mi 152).2.2.2.1 (ox_mc 152) (ox_cut 152) Q 136 [some (.inr (.inr (x0))), some (.inl (x1)), some (.inl (x2)), some (.inl (x3)), none, none] (r_.toList ++ []) T_ mr sr
def c_152_157 (E : ox_E) (x0 : Nat) (x1 : Int32) (x2 : Int32) (x3 : Int32) (x4 : Int32) (S : ox_St) (mr sr : Nat) (Q : ox_Q) : Prop := ox_C E (ox_mi 152).2.2.2.1 (ox_mc 152) (ox_cut 152) Q 157 [some (.inr (.inr (x0))), some (.inl (x1)), some (.inl (x2)), some (.inl (x3)), some (.inl (x4)), none] [] S mr sr
def c_152_158 (E : ox_E) (x0 : Nat) (x1 : Int32) (x2 : Int32) (x3 : Int32) (x4 : Int32) (y0 : Int32) (S : ox_St) (mr sr : Nat) (Q : ox_Q) : Prop := ox_C E (ox_mi 152).2.2.2.1 (ox_mc 152) (ox_cut 152) Q 158 [some (.inr (.inr (x0))), some (.inl (x1)), some (.inl (x2)), some (.inl (x3)), some (.inl (x4)), none] [.inl (y0)] S mr sr
def c_152_181 (E : ox_E) (x0 : Nat) (x1 : Int32) (x2 : Int32) (x3 : Int32) (x4 : Int32) (x5 : Int32) (y0 : Int32) (y1 : Nat) (y2 : Int32) (y3 : Int32) (y4 : Int32) (y5 : Nat) (S : ox_St) (mr sr : Nat) (Q : ox_Q) : Prop := ox_C E (ox_mi 152).2.2.2.1 (ox_mc 152) (ox_cut 152) Q 181 [some (.inr (.inr (x0))), some (.inl (x1)), some (.inl (x2)), some (.inl (x3)), some (.inl (x4)), some (.inl (x5))] [.inl (y0), .inr (.inr (y1)), .inl (y2), .inl (y3), .inl (y4), .inr (.inr (y5))] S mr sr
def k_152_186 (E : ox_E) (x0 : Nat) (x1 : Int32) (x2 : Int32) (x3 : Int32) (x4 : Int32) (x5 : Int32) (y1 : Int32) (y2 : Int32) (y3 : Int32) (y4 : Nat) (mr sr : Nat) (Q : ox_Q) : ox_Q := fun r_ T_ => ox_C E (ox_mi 152).2.2.2.1 (ox_mc 152) (ox_cut 152) Q 186 [some (.inr (.inr (x0))), some (.inl (x1)), some (.inl (x2)), some (.inl (x3)), some (.inl (x4)), some (.inl (x5))] (r_.toList ++ [.inl (y1), .inl (y2), .inl (y3), .inr (.inr (y4))]) T_ mr sr
def c_152_195 (E : ox_E) (x0 : Nat) (x1 : Int32) (x2 : Int32) (x3 : Int32) (S : ox_St) (mr sr : Nat) (Q : ox_Q) : Prop := ox_C E (ox_mi 152).2.2.2.1 (ox_mc 152) (ox_cut 152) Q 195 [some (.inr (.inr (x0))), some (.inl (x1)), some (.inl (x2)), some (.inl (x3)), none, none] [] S mr sr
def k_152_210 (E : ox_E) (x0 : Nat) (x1 : Int32) (x2 : Int32) (x3 : Int32) (mr sr : Nat) (Q : ox_Q) : ox_Q := fun r_ T_ => ox_C E (ox_mi 152).2.2.2.1 (ox_mc 152) (ox_cut 152) Q 210 [some (.inr (.inr (x0))), some (.inl (x1)), some (.inl (x2)), some (.inl (x3)), none, none] (r_.toList ++ []) T_ mr sr
set_option maxRecDepth 20000 in
def q_152_210 (E : ox_E) (x0 : Nat) (x1 : Int32) (x2 : Int32) (x3 : Int32) (y0 : Int32) (S : ox_St) (mr sr : Nat) (Q : ox_Q) : Prop :=
  (True ∧ Q (some (.inl y0)) S)
set_option maxRecDepth 20000 in
set_option maxHeartbeats 4000000 in
theorem f_152_210 {E : ox_E} (hE : ox_mono E) {mr sr : Nat} {x0 : Nat} {x1 : Int32} {x2 : Int32} {x3 : Int32} {y0 : Int32} {S : ox_St} {Q : ox_Q} (h : q_152_210 E x0 x1 x2 x3 y0 S mr sr Q) : k_152_210 E x0 x1 x2 x3 mr sr Q (some (.inl (y0))) S := ox_C_fold hE h
set_option maxRecDepth 20000 in
def q_152_195 (E : ox_E) (x0 : Nat) (x1 : Int32) (x2 : Int32) (x3 : Int32) (S : ox_St) (mr sr : Nat) (Q : ox_Q) : Prop :=
  (ox_has (S.K x0) 132 = true ∧ (((S.I 132 x0) = 0 → (1 ≤ 1 ∧ S.K x0 = 14 ∧ 0 ≤ 8 ∧ ∃ mc1 mk2, mc1 ≤ mr ∧ mk2 ≤ sr ∧ E 140 [.inr (.inr (x0))] mc1 mk2 S (k_152_210 E x0 x1 x2 x3 (mr - mc1) (sr - mk2) Q))) ∧ (¬ (S.I 132 x0) = 0 → k_152_210 E x0 x1 x2 x3 mr sr Q (some (.inl (0))) S)))
set_option maxRecDepth 20000 in
set_option maxHeartbeats 4000000 in
theorem f_152_195 {E : ox_E} (hE : ox_mono E) {mr sr : Nat} {x0 : Nat} {x1 : Int32} {x2 : Int32} {x3 : Int32} {S : ox_St} {Q : ox_Q} (h : q_152_195 E x0 x1 x2 x3 S mr sr Q) : c_152_195 E x0 x1 x2 x3 S mr sr Q := ox_C_fold hE h
set_option maxRecDepth 20000 in
def q_152_186 (E : ox_E) (x0 : Nat) (x1 : Int32) (x2 : Int32) (x3 : Int32) (x4 : Int32) (x5 : Int32) (y0 : Int32) (y1 : Int32) (y2 : Int32) (y3 : Int32) (y4 : Nat) (S : ox_St) (mr sr : Nat) (Q : ox_Q) : Prop :=
  (S.K y4 = 15 ∧ vp_in y3 (S.len y4) ∧ (let S1 := S.wI y4 (Int32.toNatClampNeg y3) (y2 + (y1 * y0))
  c_152_113 E x0 x1 x2 (x3 + 1) S1 mr sr Q))
set_option maxRecDepth 20000 in
set_option maxHeartbeats 4000000 in
theorem f_152_186 {E : ox_E} (hE : ox_mono E) {mr sr : Nat} {x0 : Nat} {x1 : Int32} {x2 : Int32} {x3 : Int32} {x4 : Int32} {x5 : Int32} {y0 : Int32} {y1 : Int32} {y2 : Int32} {y3 : Int32} {y4 : Nat} {S : ox_St} {Q : ox_Q} (h : q_152_186 E x0 x1 x2 x3 x4 x5 y0 y1 y2 y3 y4 S mr sr Q) : k_152_186 E x0 x1 x2 x3 x4 x5 y1 y2 y3 y4 mr sr Q (some (.inl (y0))) S := ox_C_fold hE h
set_option maxRecDepth 20000 in
def q_152_181 (E : ox_E) (x0 : Nat) (x1 : Int32) (x2 : Int32) (x3 : Int32) (x4 : Int32) (x5 : Int32) (y0 : Int32) (y1 : Nat) (y2 : Int32) (y3 : Int32) (y4 : Int32) (y5 : Nat) (S : ox_St) (mr sr : Nat) (Q : ox_Q) : Prop :=
  (3 ≤ 7 ∧ S.K y1 = 14 ∧ 4 ≤ 8 ∧ ∃ mc1 mk2, mc1 ≤ mr ∧ mk2 ≤ sr ∧ E 151 [.inr (.inr (y1)), .inl (y0), .inl (127)] mc1 mk2 S (k_152_186 E x0 x1 x2 x3 x4 x5 y2 y3 y4 y5 (mr - mc1) (sr - mk2) Q))
set_option maxRecDepth 20000 in
set_option maxHeartbeats 4000000 in
theorem f_152_181 {E : ox_E} (hE : ox_mono E) {mr sr : Nat} {x0 : Nat} {x1 : Int32} {x2 : Int32} {x3 : Int32} {x4 : Int32} {x5 : Int32} {y0 : Int32} {y1 : Nat} {y2 : Int32} {y3 : Int32} {y4 : Int32} {y5 : Nat} {S : ox_St} {Q : ox_Q} (h : q_152_181 E x0 x1 x2 x3 x4 x5 y0 y1 y2 y3 y4 y5 S mr sr Q) : c_152_181 E x0 x1 x2 x3 x4 x5 y0 y1 y2 y3 y4 y5 S mr sr Q := ox_C_fold hE h
set_option maxRecDepth 20000 in
def q_152_158 (E : ox_E) (x0 : Nat) (x1 : Int32) (x2 : Int32) (x3 : Int32) (x4 : Int32) (y0 : Int32) (S : ox_St) (mr sr : Nat) (Q : ox_Q) : Prop :=
  (ox_has (S.K x0) 111 = true ∧ ((y0 = 0 → c_152_181 E x0 x1 x2 x3 x4 y0 0 x0 256 x4 x3 (S.R 111 x0) S mr sr Q) ∧ (¬ y0 = 0 → c_152_181 E x0 x1 x2 x3 x4 y0 1 x0 256 x4 x3 (S.R 111 x0) S mr sr Q)))
set_option maxRecDepth 20000 in
set_option maxHeartbeats 4000000 in
theorem f_152_158 {E : ox_E} (hE : ox_mono E) {mr sr : Nat} {x0 : Nat} {x1 : Int32} {x2 : Int32} {x3 : Int32} {x4 : Int32} {y0 : Int32} {S : ox_St} {Q : ox_Q} (h : q_152_158 E x0 x1 x2 x3 x4 y0 S mr sr Q) : c_152_158 E x0 x1 x2 x3 x4 y0 S mr sr Q := ox_C_fold hE h
set_option maxRecDepth 20000 in
def q_152_157 (E : ox_E) (x0 : Nat) (x1 : Int32) (x2 : Int32) (x3 : Int32) (x4 : Int32) (S : ox_St) (mr sr : Nat) (Q : ox_Q) : Prop :=
  c_152_158 E x0 x1 x2 x3 x4 0 S mr sr Q
set_option maxRecDepth 20000 in
set_option maxHeartbeats 4000000 in
theorem f_152_157 {E : ox_E} (hE : ox_mono E) {mr sr : Nat} {x0 : Nat} {x1 : Int32} {x2 : Int32} {x3 : Int32} {x4 : Int32} {S : ox_St} {Q : ox_Q} (h : q_152_157 E x0 x1 x2 x3 x4 S mr sr Q) : c_152_157 E x0 x1 x2 x3 x4 S mr sr Q := ox_C_fold hE h
set_option maxRecDepth 20000 in
def q_152_136 (E : ox_E) (x0 : Nat) (x1 : Int32) (x2 : Int32) (x3 : Int32) (y0 : Int32) (S : ox_St) (mr sr : Nat) (Q : ox_Q) : Prop :=
  (ox_has (S.K x0) 115 = true ∧ ((¬ x3 = ((S.I 115 x0) - 1) → c_152_157 E x0 x1 x2 x3 y0 S mr sr Q) ∧ (x3 = ((S.I 115 x0) - 1) → ((¬ y0 = 0 → c_152_157 E x0 x1 x2 x3 y0 S mr sr Q) ∧ (y0 = 0 → c_152_158 E x0 x1 x2 x3 y0 1 S mr sr Q)))))
set_option maxRecDepth 20000 in
set_option maxHeartbeats 4000000 in
theorem f_152_136 {E : ox_E} (hE : ox_mono E) {mr sr : Nat} {x0 : Nat} {x1 : Int32} {x2 : Int32} {x3 : Int32} {y0 : Int32} {S : ox_St} {Q : ox_Q} (h : q_152_136 E x0 x1 x2 x3 y0 S mr sr Q) : k_152_136 E x0 x1 x2 x3 mr sr Q (some (.inl (y0))) S := ox_C_fold hE h
set_option maxRecDepth 20000 in
def q_152_113 (E : ox_E) (x0 : Nat) (x1 : Int32) (x2 : Int32) (x3 : Int32) (S : ox_St) (mr sr : Nat) (Q : ox_Q) : Prop :=
  (ox_has (S.K x0) 115 = true ∧ (((S.I 115 x0) ≤ x3 → c_152_195 E x0 x1 x2 x3 S mr sr Q) ∧ (¬ (S.I 115 x0) ≤ x3 → (ox_has (S.K x0) 132 = true ∧ ((¬ (S.I 132 x0) = 0 → c_152_195 E x0 x1 x2 x3 S mr sr Q) ∧ ((S.I 132 x0) = 0 → (3 ≤ 3 ∧ S.K x0 = 14 ∧ 0 ≤ 8 ∧ ∃ mc1 mk2, mc1 ≤ mr ∧ mk2 ≤ sr ∧ E 151 [.inr (.inr (x0)), .inl (0), .inl (255)] mc1 mk2 S (k_152_136 E x0 x1 x2 x3 (mr - mc1) (sr - mk2) Q))))))))
set_option maxRecDepth 20000 in
set_option maxHeartbeats 4000000 in
theorem f_152_113 {E : ox_E} (hE : ox_mono E) {mr sr : Nat} {x0 : Nat} {x1 : Int32} {x2 : Int32} {x3 : Int32} {S : ox_St} {Q : ox_Q} (h : q_152_113 E x0 x1 x2 x3 S mr sr Q) : c_152_113 E x0 x1 x2 x3 S mr sr Q := ox_C_fold hE h
set_option maxRecDepth 20000 in
def q_152_108 (E : ox_E) (x0 : Nat) (x1 : Int32) (x2 : Int32) (y0 : Int32) (y1 : Nat) (S : ox_St) (mr sr : Nat) (Q : ox_Q) : Prop :=
  (ox_has (S.K y1) 115 = true ∧ (let S1 := S.sI 115 y1 y0
  c_152_113 E x0 x1 x2 0 S1 mr sr Q))
set_option maxRecDepth 20000 in
set_option maxHeartbeats 4000000 in
theorem f_152_108 {E : ox_E} (hE : ox_mono E) {mr sr : Nat} {x0 : Nat} {x1 : Int32} {x2 : Int32} {y0 : Int32} {y1 : Nat} {S : ox_St} {Q : ox_Q} (h : q_152_108 E x0 x1 x2 y0 y1 S mr sr Q) : c_152_108 E x0 x1 x2 y0 y1 S mr sr Q := ox_C_fold hE h
set_option maxRecDepth 20000 in
def q_152_77 (E : ox_E) (x0 : Nat) (x1 : Int32) (x2 : Int32) (y0 : Int32) (y1 : Nat) (S : ox_St) (mr sr : Nat) (Q : ox_Q) : Prop :=
  (ox_has (S.K y1) 119 = true ∧ (((y0 : Int32) = 0 ∨ (y0 : Int32) = 1) ∧ (let S1 := S.sI 119 y1 y0
  (ox_has (S1.K x0) 132 = true ∧ (((S1.I 132 x0) = 0 → (ox_has (S1.K x0) 119 = true ∧ (((S1.I 119 x0) = 0 → c_152_108 E x0 x1 x2 x1 x0 S1 mr sr Q) ∧ (¬ (S1.I 119 x0) = 0 → c_152_108 E x0 x1 x2 (256 - x1) x0 S1 mr sr Q)))) ∧ (¬ (S1.I 132 x0) = 0 → c_152_108 E x0 x1 x2 0 x0 S1 mr sr Q))))))
set_option maxRecDepth 20000 in
set_option maxHeartbeats 4000000 in
theorem f_152_77 {E : ox_E} (hE : ox_mono E) {mr sr : Nat} {x0 : Nat} {x1 : Int32} {x2 : Int32} {y0 : Int32} {y1 : Nat} {S : ox_St} {Q : ox_Q} (h : q_152_77 E x0 x1 x2 y0 y1 S mr sr Q) : c_152_77 E x0 x1 x2 y0 y1 S mr sr Q := ox_C_fold hE h
set_option maxRecDepth 20000 in
def q_152_64 (E : ox_E) (x0 : Nat) (x1 : Int32) (y0 : Int32) (S : ox_St) (mr sr : Nat) (Q : ox_Q) : Prop :=
  ((x1 ≤ 16 → c_152_77 E x0 x1 y0 0 x0 S mr sr Q) ∧ (¬ x1 ≤ 16 → c_152_77 E x0 x1 y0 1 x0 S mr sr Q))
set_option maxRecDepth 20000 in
set_option maxHeartbeats 4000000 in
theorem f_152_64 {E : ox_E} (hE : ox_mono E) {mr sr : Nat} {x0 : Nat} {x1 : Int32} {y0 : Int32} {S : ox_St} {Q : ox_Q} (h : q_152_64 E x0 x1 y0 S mr sr Q) : k_152_64 E x0 x1 mr sr Q (some (.inl (y0))) S := ox_C_fold hE h
set_option maxRecDepth 20000 in
def q_152_55 (E : ox_E) (x0 : Nat) (x1 : Int32) (y0 : Int32) (S : ox_St) (mr sr : Nat) (Q : ox_Q) : Prop :=
  k_152_64 E x0 x1 mr sr Q (some (.inl (y0))) S
set_option maxRecDepth 20000 in
set_option maxHeartbeats 4000000 in
theorem f_152_55 {E : ox_E} (hE : ox_mono E) {mr sr : Nat} {x0 : Nat} {x1 : Int32} {y0 : Int32} {S : ox_St} {Q : ox_Q} (h : q_152_55 E x0 x1 y0 S mr sr Q) : k_152_55 E x0 x1 mr sr Q (some (.inl (y0))) S := ox_C_fold hE h
set_option maxRecDepth 20000 in
def q_152_39 (E : ox_E) (x0 : Nat) (x1 : Int32) (S : ox_St) (mr sr : Nat) (Q : ox_Q) : Prop :=
  ((x1 ≤ 16 → (3 ≤ 3 ∧ S.K x0 = 14 ∧ 0 ≤ 8 ∧ ∃ mc1 mk2, mc1 ≤ mr ∧ mk2 ≤ sr ∧ E 151 [.inr (.inr (x0)), .inl (0), .inl (0)] mc1 mk2 S (k_152_64 E x0 x1 (mr - mc1) (sr - mk2) Q))) ∧ (¬ x1 ≤ 16 → (3 ≤ 3 ∧ S.K x0 = 14 ∧ 0 ≤ 8 ∧ ∃ mc3 mk4, mc3 ≤ mr ∧ mk4 ≤ sr ∧ E 151 [.inr (.inr (x0)), .inl (255), .inl (255)] mc3 mk4 S (k_152_55 E x0 x1 (mr - mc3) (sr - mk4) Q))))
set_option maxRecDepth 20000 in
set_option maxHeartbeats 4000000 in
theorem f_152_39 {E : ox_E} (hE : ox_mono E) {mr sr : Nat} {x0 : Nat} {x1 : Int32} {S : ox_St} {Q : ox_Q} (h : q_152_39 E x0 x1 S mr sr Q) : k_152_39 E x0 x1 mr sr Q none S := ox_C_fold hE h
set_option maxRecDepth 20000 in
def q_152_8 (E : ox_E) (x0 : Nat) (y0 : Int32) (S : ox_St) (mr sr : Nat) (Q : ox_Q) : Prop :=
  (ox_has (S.K x0) 132 = true ∧ ((¬ (S.I 132 x0) = 0 → k_152_39 E x0 y0 mr sr Q none S) ∧ ((S.I 132 x0) = 0 → ((y0 ≤ 16 → k_152_39 E x0 y0 mr sr Q none S) ∧ (¬ y0 ≤ 16 → (((240 : Int32) ≤ y0 → k_152_39 E x0 y0 mr sr Q none S) ∧ (¬ (240 : Int32) ≤ y0 → (ox_has (S.K x0) 120 = true ∧ (2 ≤ 2 ∧ S.K x0 = 14 ∧ 0 ≤ 8 ∧ ∃ mc1 mk2, mc1 ≤ mr ∧ mk2 ≤ sr ∧ E 150 [.inr (.inr (x0)), .inl ((S.I 120 x0) - 1)] mc1 mk2 S (k_152_39 E x0 y0 (mr - mc1) (sr - mk2) Q))))))))))
set_option maxRecDepth 20000 in
set_option maxHeartbeats 4000000 in
theorem f_152_8 {E : ox_E} (hE : ox_mono E) {mr sr : Nat} {x0 : Nat} {y0 : Int32} {S : ox_St} {Q : ox_Q} (h : q_152_8 E x0 y0 S mr sr Q) : k_152_8 E x0 mr sr Q (some (.inl (y0))) S := ox_C_fold hE h
set_option maxRecDepth 20000 in
def q_152 (E : ox_E) (x0 : Nat) (S : ox_St) (mr sr : Nat) (Q : ox_Q) : Prop :=
  (3 ≤ 3 ∧ S.K x0 = 14 ∧ 0 ≤ 8 ∧ ∃ mc1 mk2, mc1 ≤ mr ∧ mk2 ≤ sr ∧ E 151 [.inr (.inr (x0)), .inl (0), .inl (255)] mc1 mk2 S (k_152_8 E x0 (mr - mc1) (sr - mk2) Q))
set_option maxRecDepth 20000 in
set_option maxHeartbeats 4000000 in
theorem f_152 {sp : ox_E} (hsp : ox_mono sp) {d : Nat} {mr sr : Nat} {x0 : Nat} {S : ox_St} {Q : ox_Q} (h : q_152 (ox_M sp d) x0 S mr sr Q) : ox_M sp (d + 1) 152 [.inr (.inr (x0))] mr sr S Q := Or.inr ⟨Nat.le_of_ble_eq_true rfl, ox_C_fold (ox_M_mono hsp d) h⟩
/-! OpcodeFramesModel.readNumber()I -/
def c_153_4 (E : ox_E) (x0 : Nat) (x1 : Int32) (x2 : Int32) (S : ox_St) (mr sr : Nat) (Q : ox_Q) : Prop := ox_C E (ox_mi 153).2.2.2.1 (ox_mc 153) (ox_cut 153) Q 4 [some (.inr (.inr (x0))), some (.inl (x1)), some (.inl (x2))] [] S mr sr
def k_153_18 (E : ox_E) (x0 : Nat) (x1 : Int32) (x2 : Int32) (y1 : Int32) (mr sr : Nat) (Q : ox_Q) : ox_Q := fun r_ T_ => ox_C E (ox_mi 153).2.2.2.1 (ox_mc 153) (ox_cut 153) Q 18 [some (.inr (.inr (x0))), some (.inl (x1)), some (.inl (x2))] (r_.toList ++ [.inl (y1)]) T_ mr sr
def k_153_48 (E : ox_E) (x0 : Nat) (x1 : Int32) (x2 : Int32) (mr sr : Nat) (Q : ox_Q) : ox_Q := fun r_ T_ => ox_C E (ox_mi 153).2.2.2.1 (ox_mc 153) (ox_cut 153) Q 48 [some (.inr (.inr (x0))), some (.inl (x1)), some (.inl (x2))] (r_.toList ++ []) T_ mr sr
set_option maxRecDepth 20000 in
def q_153_48 (E : ox_E) (x0 : Nat) (x1 : Int32) (x2 : Int32) (y0 : Int32) (S : ox_St) (mr sr : Nat) (Q : ox_Q) : Prop :=
  (True ∧ Q (some (.inl y0)) S)
set_option maxRecDepth 20000 in
set_option maxHeartbeats 4000000 in
theorem f_153_48 {E : ox_E} (hE : ox_mono E) {mr sr : Nat} {x0 : Nat} {x1 : Int32} {x2 : Int32} {y0 : Int32} {S : ox_St} {Q : ox_Q} (h : q_153_48 E x0 x1 x2 y0 S mr sr Q) : k_153_48 E x0 x1 x2 mr sr Q (some (.inl (y0))) S := ox_C_fold hE h
set_option maxRecDepth 20000 in
def q_153_18 (E : ox_E) (x0 : Nat) (x1 : Int32) (x2 : Int32) (y0 : Int32) (y1 : Int32) (S : ox_St) (mr sr : Nat) (Q : ox_Q) : Prop :=
  (let w1 : Int32 := y1 ||| (y0 <<< ((8 * x2) &&& 31))
  c_153_4 E x0 w1 (x2 + 1) S mr sr Q)
set_option maxRecDepth 20000 in
set_option maxHeartbeats 4000000 in
theorem f_153_18 {E : ox_E} (hE : ox_mono E) {mr sr : Nat} {x0 : Nat} {x1 : Int32} {x2 : Int32} {y0 : Int32} {y1 : Int32} {S : ox_St} {Q : ox_Q} (h : q_153_18 E x0 x1 x2 y0 y1 S mr sr Q) : k_153_18 E x0 x1 x2 y1 mr sr Q (some (.inl (y0))) S := ox_C_fold hE h
set_option maxRecDepth 20000 in
def q_153_4 (E : ox_E) (x0 : Nat) (x1 : Int32) (x2 : Int32) (S : ox_St) (mr sr : Nat) (Q : ox_Q) : Prop :=
  (((4 : Int32) ≤ x2 → (ox_has (S.K x0) 132 = true ∧ (((S.I 132 x0) = 0 → (2 ≤ 2 ∧ S.K x0 = 14 ∧ 0 ≤ 8 ∧ ∃ mc1 mk2, mc1 ≤ mr ∧ mk2 ≤ sr ∧ E 148 [.inr (.inr (x0)), .inr (.inl (Int32.toInt64 x1))] mc1 mk2 S (k_153_48 E x0 x1 x2 (mr - mc1) (sr - mk2) Q))) ∧ (¬ (S.I 132 x0) = 0 → k_153_48 E x0 x1 x2 mr sr Q (some (.inl (0))) S)))) ∧ (¬ (4 : Int32) ≤ x2 → (3 ≤ 4 ∧ S.K x0 = 14 ∧ 1 ≤ 8 ∧ ∃ mc3 mk4, mc3 ≤ mr ∧ mk4 ≤ sr ∧ E 151 [.inr (.inr (x0)), .inl (0), .inl (255)] mc3 mk4 S (k_153_18 E x0 x1 x2 x1 (mr - mc3) (sr - mk4) Q))))
set_option maxRecDepth 20000 in
set_option maxHeartbeats 4000000 in
theorem f_153_4 {E : ox_E} (hE : ox_mono E) {mr sr : Nat} {x0 : Nat} {x1 : Int32} {x2 : Int32} {S : ox_St} {Q : ox_Q} (h : q_153_4 E x0 x1 x2 S mr sr Q) : c_153_4 E x0 x1 x2 S mr sr Q := ox_C_fold hE h
set_option maxRecDepth 20000 in
def q_153 (E : ox_E) (x0 : Nat) (S : ox_St) (mr sr : Nat) (Q : ox_Q) : Prop :=
  c_153_4 E x0 0 0 S mr sr Q
set_option maxRecDepth 20000 in
set_option maxHeartbeats 4000000 in
theorem f_153 {sp : ox_E} (hsp : ox_mono sp) {d : Nat} {mr sr : Nat} {x0 : Nat} {S : ox_St} {Q : ox_Q} (h : q_153 (ox_M sp d) x0 S mr sr Q) : ox_M sp (d + 1) 153 [.inr (.inr (x0))] mr sr S Q := Or.inr ⟨Nat.le_of_ble_eq_true rfl, ox_C_fold (ox_M_mono hsp d) h⟩
/-! OpcodeFramesModel.begin(ZII)V -/
set_option maxRecDepth 20000 in
def q_154 (E : ox_E) (x0 : Nat) (x1 : Int32) (x2 : Int32) (x3 : Int32) (S : ox_St) (mr sr : Nat) (Q : ox_Q) : Prop :=
  (ox_has (S.K x0) 126 = true ∧ (ox_has (S.K x0) 122 = true ∧ (S.K (S.R 126 x0) = 17 ∧ vp_in (S.I 122 x0) (S.len (S.R 126 x0)) ∧ (let S1 := S.wI (S.R 126 x0) (Int32.toNatClampNeg (S.I 122 x0)) (vp_nar .boolean x1)
  (ox_has (S1.K x0) 127 = true ∧ (ox_has (S1.K x0) 122 = true ∧ (S1.K (S1.R 127 x0) = 15 ∧ vp_in (S1.I 122 x0) (S1.len (S1.R 127 x0)) ∧ (let S2 := S1.wI (S1.R 127 x0) (Int32.toNatClampNeg (S1.I 122 x0)) x2
  (ox_has (S2.K x0) 128 = true ∧ (ox_has (S2.K x0) 122 = true ∧ (ox_has (S2.K x0) 123 = true ∧ (S2.K (S2.R 128 x0) = 15 ∧ vp_in (S2.I 122 x0) (S2.len (S2.R 128 x0)) ∧ (let S3 := S2.wI (S2.R 128 x0) (Int32.toNatClampNeg (S2.I 122 x0)) (S2.I 123 x0)
  (ox_has (S3.K x0) 129 = true ∧ (ox_has (S3.K x0) 122 = true ∧ (S3.K (S3.R 129 x0) = 15 ∧ vp_in (S3.I 122 x0) (S3.len (S3.R 129 x0)) ∧ (let S4 := S3.wI (S3.R 129 x0) (Int32.toNatClampNeg (S3.I 122 x0)) x3
  (ox_has (S4.K x0) 122 = true ∧ (ox_has (S4.K x0) 122 = true ∧ (let S5 := S4.sI 122 x0 ((S4.I 122 x0) + 1)
  ((ox_mi 154).2.2.2.1 = none ∧ Q none S5)))))))))))))))))))))
set_option maxRecDepth 20000 in
set_option maxHeartbeats 4000000 in
theorem f_154 {sp : ox_E} (hsp : ox_mono sp) {d : Nat} {mr sr : Nat} {x0 : Nat} {x1 : Int32} {x2 : Int32} {x3 : Int32} {S : ox_St} {Q : ox_Q} (h : q_154 (ox_M sp d) x0 x1 x2 x3 S mr sr Q) : ox_M sp (d + 1) 154 [.inr (.inr (x0)), .inl (x1), .inl (x2), .inl (x3)] mr sr S Q := Or.inr ⟨Nat.le_of_ble_eq_true rfl, ox_C_fold (ox_M_mono hsp d) h⟩
/-! OpcodeFramesModel.readCode()I -/
def k_155_26 (E : ox_E) (x0 : Nat) (x1 : Int32) (y1 : Int32) (y2 : Nat) (mr sr : Nat) (Q : ox_Q) : ox_Q := fun r_ T_ => ox_C E (ox_mi 155).2.2.2.1 (ox_mc 155) (ox_cut 155) Q 26 [some (.inr (.inr (x0))), some (.inl (x1)), none, none, none] (r_.toList ++ [.inl (y1), .inr (.inr (y2))]) T_ mr sr
def k_155_44 (E : ox_E) (x0 : Nat) (x1 : Int32) (y1 : Int32) (y2 : Nat) (mr sr : Nat) (Q : ox_Q) : ox_Q := fun r_ T_ => ox_C E (ox_mi 155).2.2.2.1 (ox_mc 155) (ox_cut 155) Q 44 [some (.inr (.inr (x0))), some (.inl (x1)), none, none, none] (r_.toList ++ [.inl (y1), .inr (.inr (y2))]) T_ mr sr
def k_155_57 (E : ox_E) (x0 : Nat) (x1 : Int32) (y1 : Int32) (y2 : Nat) (mr sr : Nat) (Q : ox_Q) : ox_Q := fun r_ T_ => ox_C E (ox_mi 155).2.2.2.1 (ox_mc 155) (ox_cut 155) Q 57 [some (.inr (.inr (x0))), some (.inl (x1)), none, none, none] (r_.toList ++ [.inl (y1), .inr (.inr (y2))]) T_ mr sr
def k_155_66 (E : ox_E) (x0 : Nat) (x1 : Int32) (mr sr : Nat) (Q : ox_Q) : ox_Q := fun r_ T_ => ox_C E (ox_mi 155).2.2.2.1 (ox_mc 155) (ox_cut 155) Q 66 [some (.inr (.inr (x0))), some (.inl (x1)), none, none, none] (r_.toList ++ []) T_ mr sr
def k_155_91 (E : ox_E) (x0 : Nat) (x1 : Int32) (x2 : Int32) (mr sr : Nat) (Q : ox_Q) : ox_Q := fun r_ T_ => ox_C E (ox_mi 155).2.2.2.1 (ox_mc 155) (ox_cut 155) Q 91 [some (.inr (.inr (x0))), some (.inl (x1)), some (.inl (x2)), none, none] (r_.toList ++ []) T_ mr sr
def k_155_97 (E : ox_E) (x0 : Nat) (x1 : Int32) (x2 : Int32) (mr sr : Nat) (Q : ox_Q) : ox_Q := fun r_ T_ => ox_C E (ox_mi 155).2.2.2.1 (ox_mc 155) (ox_cut 155) Q 97 [some (.inr (.inr (x0))), some (.inl (x1)), some (.inl (x2)), none, none] (r_.toList ++ []) T_ mr sr
def c_155_118 (E : ox_E) (x0 : Nat) (x1 : Int32) (x2 : Int32) (x3 : Int32) (x4 : Int32) (S : ox_St) (mr sr : Nat) (Q : ox_Q) : Prop := ox_C E (ox_mi 155).2.2.2.1 (ox_mc 155) (ox_cut 155) Q 118 [some (.inr (.inr (x0))), some (.inl (x1)), some (.inl (x2)), some (.inl (x3)), some (.inl (x4))] [] S mr sr
def k_155_147 (E : ox_E) (x0 : Nat) (x1 : Int32) (x2 : Int32) (x3 : Int32) (x4 : Int32) (y1 : Int32) (y2 : Nat) (mr sr : Nat) (Q : ox_Q) : ox_Q := fun r_ T_ => ox_C E (ox_mi 155).2.2.2.1 (ox_mc 155) (ox_cut 155) Q 147 [some (.inr (.inr (x0))), some (.inl (x1)), some (.inl (x2)), some (.inl (x3)), some (.inl (x4))] (r_.toList ++ [.inl (y1), .inr (.inr (y2))]) T_ mr sr
set_option maxRecDepth 20000 in
def q_155_147 (E : ox_E) (x0 : Nat) (x1 : Int32) (x2 : Int32) (x3 : Int32) (x4 : Int32) (y0 : Int32) (y1 : Int32) (y2 : Nat) (S : ox_St) (mr sr : Nat) (Q : ox_Q) : Prop :=
  (S.K y2 = 15 ∧ vp_in y1 (S.len y2) ∧ (let S1 := S.wI y2 (Int32.toNatClampNeg y1) y0
  (ox_has (S1.K x0) 86 = true ∧ (ox_has (S1.K x0) 86 = true ∧ (let S2 := S1.sI 86 x0 ((S1.I 86 x0) + 1)
  c_155_118 E x0 x1 x2 x3 (x4 + 1) S2 mr sr Q)))))
set_option maxRecDepth 20000 in
set_option maxHeartbeats 4000000 in
theorem f_155_147 {E : ox_E} (hE : ox_mono E) {mr sr : Nat} {x0 : Nat} {x1 : Int32} {x2 : Int32} {x3 : Int32} {x4 : Int32} {y0 : Int32} {y1 : Int32} {y2 : Nat} {S : ox_St} {Q : ox_Q} (h : q_155_147 E x0 x1 x2 x3 x4 y0 y1 y2 S mr sr Q) : k_155_147 E x0 x1 x2 x3 x4 y1 y2 mr sr Q (some (.inl (y0))) S := ox_C_fold hE h
set_option maxRecDepth 20000 in
def q_155_118 (E : ox_E) (x0 : Nat) (x1 : Int32) (x2 : Int32) (x3 : Int32) (x4 : Int32) (S : ox_St) (mr sr : Nat) (Q : ox_Q) : Prop :=
  ((x2 ≤ x4 → (True ∧ Q (some (.inl x1)) S)) ∧ (¬ x2 ≤ x4 → (ox_has (S.K x0) 132 = true ∧ ((¬ (S.I 132 x0) = 0 → (True ∧ Q (some (.inl x1)) S)) ∧ ((S.I 132 x0) = 0 → (ox_has (S.K x0) 89 = true ∧ (ox_has (S.K x0) 86 = true ∧ (3 ≤ 5 ∧ S.K x0 = 14 ∧ 2 ≤ 8 ∧ ∃ mc1 mk2, mc1 ≤ mr ∧ mk2 ≤ sr ∧ E 151 [.inr (.inr (x0)), .inl (0), .inl (255)] mc1 mk2 S (k_155_147 E x0 x1 x2 x3 x4 (S.I 86 x0) (S.R 89 x0) (mr - mc1) (sr - mk2) Q)))))))))
set_option maxRecDepth 20000 in
set_option maxHeartbeats 4000000 in
theorem f_155_118 {E : ox_E} (hE : ox_mono E) {mr sr : Nat} {x0 : Nat} {x1 : Int32} {x2 : Int32} {x3 : Int32} {x4 : Int32} {S : ox_St} {Q : ox_Q} (h : q_155_118 E x0 x1 x2 x3 x4 S mr sr Q) : c_155_118 E x0 x1 x2 x3 x4 S mr sr Q := ox_C_fold hE h
set_option maxRecDepth 20000 in
def q_155_97 (E : ox_E) (x0 : Nat) (x1 : Int32) (x2 : Int32) (y0 : Int32) (S : ox_St) (mr sr : Nat) (Q : ox_Q) : Prop :=
  (ox_has (S.K x0) 80 = true ∧ (ox_has (S.K x0) 86 = true ∧ (S.K (S.R 80 x0) = 15 ∧ vp_in x1 (S.len (S.R 80 x0)) ∧ (let S1 := S.wI (S.R 80 x0) (Int32.toNatClampNeg x1) (S.I 86 x0)
  (ox_has (S1.K x0) 81 = true ∧ (S1.K (S1.R 81 x0) = 15 ∧ vp_in x1 (S1.len (S1.R 81 x0)) ∧ (let S2 := S1.wI (S1.R 81 x0) (Int32.toNatClampNeg x1) x2
  c_155_118 E x0 x1 x2 y0 0 S2 mr sr Q)))))))
set_option maxRecDepth 20000 in
set_option maxHeartbeats 4000000 in
theorem f_155_97 {E : ox_E} (hE : ox_mono E) {mr sr : Nat} {x0 : Nat} {x1 : Int32} {x2 : Int32} {y0 : Int32} {S : ox_St} {Q : ox_Q} (h : q_155_97 E x0 x1 x2 y0 S mr sr Q) : k_155_97 E x0 x1 x2 mr sr Q (some (.inl (y0))) S := ox_C_fold hE h
set_option maxRecDepth 20000 in
def q_155_91 (E : ox_E) (x0 : Nat) (x1 : Int32) (x2 : Int32) (S : ox_St) (mr sr : Nat) (Q : ox_Q) : Prop :=
  (3 ≤ 3 ∧ S.K x0 = 14 ∧ 0 ≤ 8 ∧ ∃ mc1 mk2, mc1 ≤ mr ∧ mk2 ≤ sr ∧ E 151 [.inr (.inr (x0)), .inl (0), .inl (0)] mc1 mk2 S (k_155_97 E x0 x1 x2 (mr - mc1) (sr - mk2) Q))
set_option maxRecDepth 20000 in
set_option maxHeartbeats 4000000 in
theorem f_155_91 {E : ox_E} (hE : ox_mono E) {mr sr : Nat} {x0 : Nat} {x1 : Int32} {x2 : Int32} {S : ox_St} {Q : ox_Q} (h : q_155_91 E x0 x1 x2 S mr sr Q) : k_155_91 E x0 x1 x2 mr sr Q none S := ox_C_fold hE h
set_option maxRecDepth 20000 in
def q_155_66 (E : ox_E) (x0 : Nat) (x1 : Int32) (y0 : Int32) (S : ox_St) (mr sr : Nat) (Q : ox_Q) : Prop :=
  (ox_has (S.K x0) 132 = true ∧ ((¬ (S.I 132 x0) = 0 → k_155_91 E x0 x1 y0 mr sr Q none S) ∧ ((S.I 132 x0) = 0 → (¬ (2 : Int32) = 0 ∧ ((¬ (y0 - y0 / 2 * 2) = 1 → k_155_91 E x0 x1 y0 mr sr Q none S) ∧ ((y0 - y0 / 2 * 2) = 1 → (ox_has (S.K x0) 120 = true ∧ (2 ≤ 2 ∧ S.K x0 = 14 ∧ 0 ≤ 8 ∧ ∃ mc1 mk2, mc1 ≤ mr ∧ mk2 ≤ sr ∧ E 150 [.inr (.inr (x0)), .inl ((S.I 120 x0) - 1)] mc1 mk2 S (k_155_91 E x0 x1 y0 (mr - mc1) (sr - mk2) Q)))))))))
set_option maxRecDepth 20000 in
set_option maxHeartbeats 4000000 in
theorem f_155_66 {E : ox_E} (hE : ox_mono E) {mr sr : Nat} {x0 : Nat} {x1 : Int32} {y0 : Int32} {S : ox_St} {Q : ox_Q} (h : q_155_66 E x0 x1 y0 S mr sr Q) : k_155_66 E x0 x1 mr sr Q (some (.inl (y0))) S := ox_C_fold hE h
set_option maxRecDepth 20000 in
def q_155_57 (E : ox_E) (x0 : Nat) (x1 : Int32) (y0 : Int32) (y1 : Int32) (y2 : Nat) (S : ox_St) (mr sr : Nat) (Q : ox_Q) : Prop :=
  (S.K y2 = 15 ∧ vp_in y1 (S.len y2) ∧ (let S1 := S.wI y2 (Int32.toNatClampNeg y1) y0
  (3 ≤ 3 ∧ S1.K x0 = 14 ∧ 0 ≤ 8 ∧ ∃ mc2 mk3, mc2 ≤ mr ∧ mk3 ≤ sr ∧ E 151 [.inr (.inr (x0)), .inl (2), .inl (160)] mc2 mk3 S1 (k_155_66 E x0 x1 (mr - mc2) (sr - mk3) Q))))
set_option maxRecDepth 20000 in
set_option maxHeartbeats 4000000 in
theorem f_155_57 {E : ox_E} (hE : ox_mono E) {mr sr : Nat} {x0 : Nat} {x1 : Int32} {y0 : Int32} {y1 : Int32} {y2 : Nat} {S : ox_St} {Q : ox_Q} (h : q_155_57 E x0 x1 y0 y1 y2 S mr sr Q) : k_155_57 E x0 x1 y1 y2 mr sr Q (some (.inl (y0))) S := ox_C_fold hE h
set_option maxRecDepth 20000 in
def q_155_44 (E : ox_E) (x0 : Nat) (x1 : Int32) (y0 : Int32) (y1 : Int32) (y2 : Nat) (S : ox_St) (mr sr : Nat) (Q : ox_Q) : Prop :=
  (S.K y2 = 15 ∧ vp_in y1 (S.len y2) ∧ (let S1 := S.wI y2 (Int32.toNatClampNeg y1) y0
  (ox_has (S1.K x0) 79 = true ∧ (3 ≤ 5 ∧ S1.K x0 = 14 ∧ 2 ≤ 8 ∧ ∃ mc2 mk3, mc2 ≤ mr ∧ mk3 ≤ sr ∧ E 151 [.inr (.inr (x0)), .inl (1), .inl (10)] mc2 mk3 S1 (k_155_57 E x0 x1 x1 (S1.R 79 x0) (mr - mc2) (sr - mk3) Q)))))
set_option maxRecDepth 20000 in
set_option maxHeartbeats 4000000 in
theorem f_155_44 {E : ox_E} (hE : ox_mono E) {mr sr : Nat} {x0 : Nat} {x1 : Int32} {y0 : Int32} {y1 : Int32} {y2 : Nat} {S : ox_St} {Q : ox_Q} (h : q_155_44 E x0 x1 y0 y1 y2 S mr sr Q) : k_155_44 E x0 x1 y1 y2 mr sr Q (some (.inl (y0))) S := ox_C_fold hE h
set_option maxRecDepth 20000 in
def q_155_26 (E : ox_E) (x0 : Nat) (x1 : Int32) (y0 : Int32) (y1 : Int32) (y2 : Nat) (S : ox_St) (mr sr : Nat) (Q : ox_Q) : Prop :=
  (S.K y2 = 15 ∧ vp_in y1 (S.len y2) ∧ (let S1 := S.wI y2 (Int32.toNatClampNeg y1) y0
  (ox_has (S1.K x0) 78 = true ∧ (ox_has (S1.K x0) 77 = true ∧ (ox_rdI (S1.K (S1.R 77 x0)) = true ∧ vp_in x1 (S1.len (S1.R 77 x0)) ∧ (3 ≤ 5 ∧ S1.K x0 = 14 ∧ 2 ≤ 8 ∧ ∃ mc2 mk3, mc2 ≤ mr ∧ mk3 ≤ sr ∧ E 151 [.inr (.inr (x0)), .inl (S1.rI (S1.R 77 x0) (Int32.toNatClampNeg x1)), .inl (8)] mc2 mk3 S1 (k_155_44 E x0 x1 x1 (S1.R 78 x0) (mr - mc2) (sr - mk3) Q)))))))
set_option maxRecDepth 20000 in
set_option maxHeartbeats 4000000 in
theorem f_155_26 {E : ox_E} (hE : ox_mono E) {mr sr : Nat} {x0 : Nat} {x1 : Int32} {y0 : Int32} {y1 : Int32} {y2 : Nat} {S : ox_St} {Q : ox_Q} (h : q_155_26 E x0 x1 y0 y1 y2 S mr sr Q) : k_155_26 E x0 x1 y1 y2 mr sr Q (some (.inl (y0))) S := ox_C_fold hE h
set_option maxRecDepth 20000 in
def q_155 (E : ox_E) (x0 : Nat) (S : ox_St) (mr sr : Nat) (Q : ox_Q) : Prop :=
  (ox_has (S.K x0) 76 = true ∧ (let w1 : Int32 := S.I 76 x0
  (ox_has (S.K x0) 76 = true ∧ (ox_has (S.K x0) 76 = true ∧ (let S2 := S.sI 76 x0 ((S.I 76 x0) + 1)
  (ox_has (S2.K x0) 77 = true ∧ (3 ≤ 5 ∧ S2.K x0 = 14 ∧ 2 ≤ 8 ∧ ∃ mc3 mk4, mc3 ≤ mr ∧ mk4 ≤ sr ∧ E 151 [.inr (.inr (x0)), .inl (0), .inl (4)] mc3 mk4 S2 (k_155_26 E x0 w1 w1 (S2.R 77 x0) (mr - mc3) (sr - mk4) Q))))))))
set_option maxRecDepth 20000 in
set_option maxHeartbeats 4000000 in
theorem f_155 {sp : ox_E} (hsp : ox_mono sp) {d : Nat} {mr sr : Nat} {x0 : Nat} {S : ox_St} {Q : ox_Q} (h : q_155 (ox_M sp d) x0 S mr sr Q) : ox_M sp (d + 1) 155 [.inr (.inr (x0))] mr sr S Q := Or.inr ⟨Nat.le_of_ble_eq_true rfl, ox_C_fold (ox_M_mono hsp d) h⟩
/-! OpcodeFramesModel.readNames(I)V -/
def k_156_7 (E : ox_E) (x0 : Nat) (x1 : Int32) (mr sr : Nat) (Q : ox_Q) : ox_Q := fun r_ T_ => ox_C E (ox_mi 156).2.2.2.1 (ox_mc 156) (ox_cut 156) Q 7 [some (.inr (.inr (x0))), some (.inl (x1)), none, none, none, none, none, none] (r_.toList ++ []) T_ mr sr
def c_156_27 (E : ox_E) (x0 : Nat) (x1 : Int32) (x2 : Int32) (x3 : Int32) (S : ox_St) (mr sr : Nat) (Q : ox_Q) : Prop := ox_C E (ox_mi 156).2.2.2.1 (ox_mc 156) (ox_cut 156) Q 27 [some (.inr (.inr (x0))), some (.inl (x1)), some (.inl (x2)), some (.inl (x3)), none, none, none, none] [] S mr sr
def k_156_46 (E : ox_E) (x0 : Nat) (x1 : Int32) (x2 : Int32) (x3 : Int32) (mr sr : Nat) (Q : ox_Q) : ox_Q := fun r_ T_ => ox_C E (ox_mi 156).2.2.2.1 (ox_mc 156) (ox_cut 156) Q 46 [some (.inr (.inr (x0))), some (.inl (x1)), some (.inl (x2)), some (.inl (x3)), none, none, none, none] (r_.toList ++ []) T_ mr sr
def c_156_54 (E : ox_E) (x0 : Nat) (x1 : Int32) (x2 : Int32) (x3 : Int32) (x4 : Int32) (x5 : Int64) (x7 : Int32) (S : ox_St) (mr sr : Nat) (Q : ox_Q) : Prop := ox_C E (ox_mi 156).2.2.2.1 (ox_mc 156) (ox_cut 156) Q 54 [some (.inr (.inr (x0))), some (.inl (x1)), some (.inl (x2)), some (.inl (x3)), some (.inl (x4)), some (.inr (.inl (x5))), none, some (.inl (x7))] [] S mr sr
def k_156_81 (E : ox_E) (x0 : Nat) (x1 : Int32) (x2 : Int32) (x3 : Int32) (x4 : Int32) (x5 : Int64) (x7 : Int32) (y1 : Int64) (mr sr : Nat) (Q : ox_Q) : ox_Q := fun r_ T_ => ox_C E (ox_mi 156).2.2.2.1 (ox_mc 156) (ox_cut 156) Q 81 [some (.inr (.inr (x0))), some (.inl (x1)), some (.inl (x2)), some (.inl (x3)), some (.inl (x4)), some (.inr (.inl (x5))), none, some (.inl (x7))] (r_.toList ++ [.inr (.inl (y1))]) T_ mr sr
set_option maxRecDepth 20000 in
def q_156_81 (E : ox_E) (x0 : Nat) (x1 : Int32) (x2 : Int32) (x3 : Int32) (x4 : Int32) (x5 : Int64) (x7 : Int32) (y0 : Int32) (y1 : Int64) (S : ox_St) (mr sr : Nat) (Q : ox_Q) : Prop :=
  (let w1 : Int64 := y1 ||| (Int32.toInt64 y0)
  c_156_54 E x0 x1 x2 x3 x4 w1 (x7 + 1) S mr sr Q)
set_option maxRecDepth 20000 in
set_option maxHeartbeats 4000000 in
theorem f_156_81 {E : ox_E} (hE : ox_mono E) {mr sr : Nat} {x0 : Nat} {x1 : Int32} {x2 : Int32} {x3 : Int32} {x4 : Int32} {x5 : Int64} {x7 : Int32} {y0 : Int32} {y1 : Int64} {S : ox_St} {Q : ox_Q} (h : q_156_81 E x0 x1 x2 x3 x4 x5 x7 y0 y1 S mr sr Q) : k_156_81 E x0 x1 x2 x3 x4 x5 x7 y1 mr sr Q (some (.inl (y0))) S := ox_C_fold hE h
set_option maxRecDepth 20000 in
def q_156_54 (E : ox_E) (x0 : Nat) (x1 : Int32) (x2 : Int32) (x3 : Int32) (x4 : Int32) (x5 : Int64) (x7 : Int32) (S : ox_St) (mr sr : Nat) (Q : ox_Q) : Prop :=
  ((x4 ≤ x7 → (ox_has (S.K x0) 91 = true ∧ (ox_has (S.K x0) 88 = true ∧ (S.K (S.R 91 x0) = 16 ∧ vp_in (S.I 88 x0) (S.len (S.R 91 x0)) ∧ (let S1 := S.wJ (S.R 91 x0) (Int32.toNatClampNeg (S.I 88 x0)) x5
  (ox_has (S1.K x0) 88 = true ∧ (ox_has (S1.K x0) 88 = true ∧ (let S2 := S1.sI 88 x0 ((S1.I 88 x0) + 1)
  c_156_27 E x0 x1 x2 (x3 + 1) S2 mr sr Q)))))))) ∧ (¬ x4 ≤ x7 → (ox_has (S.K x0) 132 = true ∧ ((¬ (S.I 132 x0) = 0 → (ox_has (S.K x0) 91 = true ∧ (ox_has (S.K x0) 88 = true ∧ (S.K (S.R 91 x0) = 16 ∧ vp_in (S.I 88 x0) (S.len (S.R 91 x0)) ∧ (let S3 := S.wJ (S.R 91 x0) (Int32.toNatClampNeg (S.I 88 x0)) x5
  (ox_has (S3.K x0) 88 = true ∧ (ox_has (S3.K x0) 88 = true ∧ (let S4 := S3.sI 88 x0 ((S3.I 88 x0) + 1)
  c_156_27 E x0 x1 x2 (x3 + 1) S4 mr sr Q)))))))) ∧ ((S.I 132 x0) = 0 → (3 ≤ 4 ∧ S.K x0 = 14 ∧ 2 ≤ 8 ∧ ∃ mc5 mk6, mc5 ≤ mr ∧ mk6 ≤ sr ∧ E 151 [.inr (.inr (x0)), .inl (97), .inl (122)] mc5 mk6 S (k_156_81 E x0 x1 x2 x3 x4 x5 x7 (x5 <<< (Int32.toInt64 8 &&& 63)) (mr - mc5) (sr - mk6) Q)))))))
set_option maxRecDepth 20000 in
set_option maxHeartbeats 4000000 in
theorem f_156_54 {E : ox_E} (hE : ox_mono E) {mr sr : Nat} {x0 : Nat} {x1 : Int32} {x2 : Int32} {x3 : Int32} {x4 : Int32} {x5 : Int64} {x7 : Int32} {S : ox_St} {Q : ox_Q} (h : q_156_54 E x0 x1 x2 x3 x4 x5 x7 S mr sr Q) : c_156_54 E x0 x1 x2 x3 x4 x5 x7 S mr sr Q := ox_C_fold hE h
set_option maxRecDepth 20000 in
def q_156_46 (E : ox_E) (x0 : Nat) (x1 : Int32) (x2 : Int32) (x3 : Int32) (y0 : Int32) (S : ox_St) (mr sr : Nat) (Q : ox_Q) : Prop :=
  c_156_54 E x0 x1 x2 x3 y0 0 0 S mr sr Q
set_option maxRecDepth 20000 in
set_option maxHeartbeats 4000000 in
theorem f_156_46 {E : ox_E} (hE : ox_mono E) {mr sr : Nat} {x0 : Nat} {x1 : Int32} {x2 : Int32} {x3 : Int32} {y0 : Int32} {S : ox_St} {Q : ox_Q} (h : q_156_46 E x0 x1 x2 x3 y0 S mr sr Q) : k_156_46 E x0 x1 x2 x3 mr sr Q (some (.inl (y0))) S := ox_C_fold hE h
set_option maxRecDepth 20000 in
def q_156_27 (E : ox_E) (x0 : Nat) (x1 : Int32) (x2 : Int32) (x3 : Int32) (S : ox_St) (mr sr : Nat) (Q : ox_Q) : Prop :=
  ((x2 ≤ x3 → ((ox_mi 156).2.2.2.1 = none ∧ Q none S)) ∧ (¬ x2 ≤ x3 → (ox_has (S.K x0) 132 = true ∧ ((¬ (S.I 132 x0) = 0 → ((ox_mi 156).2.2.2.1 = none ∧ Q none S)) ∧ ((S.I 132 x0) = 0 → (3 ≤ 3 ∧ S.K x0 = 14 ∧ 0 ≤ 8 ∧ ∃ mc1 mk2, mc1 ≤ mr ∧ mk2 ≤ sr ∧ E 151 [.inr (.inr (x0)), .inl (1), .inl (8)] mc1 mk2 S (k_156_46 E x0 x1 x2 x3 (mr - mc1) (sr - mk2) Q)))))))
set_option maxRecDepth 20000 in
set_option maxHeartbeats 4000000 in
theorem f_156_27 {E : ox_E} (hE : ox_mono E) {mr sr : Nat} {x0 : Nat} {x1 : Int32} {x2 : Int32} {x3 : Int32} {S : ox_St} {Q : ox_Q} (h : q_156_27 E x0 x1 x2 x3 S mr sr Q) : c_156_27 E x0 x1 x2 x3 S mr sr Q := ox_C_fold hE h
set_option maxRecDepth 20000 in
def q_156_7 (E : ox_E) (x0 : Nat) (x1 : Int32) (y0 : Int32) (S : ox_St) (mr sr : Nat) (Q : ox_Q) : Prop :=
  (ox_has (S.K x0) 84 = true ∧ (ox_has (S.K x0) 88 = true ∧ (S.K (S.R 84 x0) = 15 ∧ vp_in x1 (S.len (S.R 84 x0)) ∧ (let S1 := S.wI (S.R 84 x0) (Int32.toNatClampNeg x1) (S.I 88 x0)
  (ox_has (S1.K x0) 85 = true ∧ (S1.K (S1.R 85 x0) = 15 ∧ vp_in x1 (S1.len (S1.R 85 x0)) ∧ (let S2 := S1.wI (S1.R 85 x0) (Int32.toNatClampNeg x1) y0
  c_156_27 E x0 x1 y0 0 S2 mr sr Q)))))))
set_option maxRecDepth 20000 in
set_option maxHeartbeats 4000000 in
theorem f_156_7 {E : ox_E} (hE : ox_mono E) {mr sr : Nat} {x0 : Nat} {x1 : Int32} {y0 : Int32} {S : ox_St} {Q : ox_Q} (h : q_156_7 E x0 x1 y0 S mr sr Q) : k_156_7 E x0 x1 mr sr Q (some (.inl (y0))) S := ox_C_fold hE h
set_option maxRecDepth 20000 in
def q_156 (E : ox_E) (x0 : Nat) (x1 : Int32) (S : ox_St) (mr sr : Nat) (Q : ox_Q) : Prop :=
  (3 ≤ 3 ∧ S.K x0 = 14 ∧ 0 ≤ 8 ∧ ∃ mc1 mk2, mc1 ≤ mr ∧ mk2 ≤ sr ∧ E 151 [.inr (.inr (x0)), .inl (0), .inl (12)] mc1 mk2 S (k_156_7 E x0 x1 (mr - mc1) (sr - mk2) Q))
set_option maxRecDepth 20000 in
set_option maxHeartbeats 4000000 in
theorem f_156 {sp : ox_E} (hsp : ox_mono sp) {d : Nat} {mr sr : Nat} {x0 : Nat} {x1 : Int32} {S : ox_St} {Q : ox_Q} (h : q_156 (ox_M sp d) x0 x1 S mr sr Q) : ox_M sp (d + 1) 156 [.inr (.inr (x0)), .inl (x1)] mr sr S Q := Or.inr ⟨Nat.le_of_ble_eq_true rfl, ox_C_fold (ox_M_mono hsp d) h⟩
/-! OpcodeFramesModel.tuple(II)I -/
def c_157_5 (E : ox_E) (x0 : Nat) (x1 : Int32) (x2 : Int32) (x3 : Int32) (x4 : Int32) (S : ox_St) (mr sr : Nat) (Q : ox_Q) : Prop := ox_C E (ox_mi 157).2.2.2.1 (ox_mc 157) (ox_cut 157) Q 5 [some (.inr (.inr (x0))), some (.inl (x1)), some (.inl (x2)), some (.inl (x3)), some (.inl (x4)), none] [] S mr sr
def k_157_24 (E : ox_E) (x0 : Nat) (x1 : Int32) (x2 : Int32) (x3 : Int32) (x4 : Int32) (mr sr : Nat) (Q : ox_Q) : ox_Q := fun r_ T_ => ox_C E (ox_mi 157).2.2.2.1 (ox_mc 157) (ox_cut 157) Q 24 [some (.inr (.inr (x0))), some (.inl (x1)), some (.inl (x2)), some (.inl (x3)), some (.inl (x4)), none] (r_.toList ++ []) T_ mr sr
def k_157_41 (E : ox_E) (x0 : Nat) (x1 : Int32) (x2 : Int32) (x3 : Int32) (x4 : Int32) (mr sr : Nat) (Q : ox_Q) : ox_Q := fun r_ T_ => ox_C E (ox_mi 157).2.2.2.1 (ox_mc 157) (ox_cut 157) Q 41 [some (.inr (.inr (x0))), some (.inl (x1)), some (.inl (x2)), some (.inl (x3)), some (.inl (x4)), none] (r_.toList ++ []) T_ mr sr
def k_157_61 (E : ox_E) (x0 : Nat) (x1 : Int32) (x2 : Int32) (x3 : Int32) (x4 : Int32) (mr sr : Nat) (Q : ox_Q) : ox_Q := fun r_ T_ => ox_C E (ox_mi 157).2.2.2.1 (ox_mc 157) (ox_cut 157) Q 61 [some (.inr (.inr (x0))), some (.inl (x1)), some (.inl (x2)), some (.inl (x3)), some (.inl (x4)), none] (r_.toList ++ []) T_ mr sr
def c_157_66 (E : ox_E) (x0 : Nat) (x1 : Int32) (x2 : Int32) (x3 : Int32) (x4 : Int32) (x5 : Int32) (S : ox_St) (mr sr : Nat) (Q : ox_Q) : Prop := ox_C E (ox_mi 157).2.2.2.1 (ox_mc 157) (ox_cut 157) Q 66 [some (.inr (.inr (x0))), some (.inl (x1)), some (.inl (x2)), some (.inl (x3)), some (.inl (x4)), some (.inl (x5))] [] S mr sr
set_option maxRecDepth 20000 in
def q_157_66 (E : ox_E) (x0 : Nat) (x1 : Int32) (x2 : Int32) (x3 : Int32) (x4 : Int32) (x5 : Int32) (S : ox_St) (mr sr : Nat) (Q : ox_Q) : Prop :=
  ((x1 ≤ x5 → (ox_has (S.K x0) 75 = true ∧ (ox_has (S.K x0) 75 = true ∧ (let S1 := S.sI 75 x0 ((S.I 75 x0) + x1)
  (True ∧ Q (some (.inl x4)) S1))))) ∧ (¬ x1 ≤ x5 → (ox_has (S.K x0) 73 = true ∧ (ox_has (S.K x0) 130 = true ∧ (ox_rdI (S.K (S.R 130 x0)) = true ∧ vp_in (x2 + x5) (S.len (S.R 130 x0)) ∧ (S.K (S.R 73 x0) = 15 ∧ vp_in ((x4 + 3) + x5) (S.len (S.R 73 x0)) ∧ (let S2 := S.wI (S.R 73 x0) (Int32.toNatClampNeg ((x4 + 3) + x5)) (S.rI (S.R 130 x0) (Int32.toNatClampNeg (x2 + x5)))
  c_157_66 E x0 x1 x2 x3 x4 (x5 + 1) S2 mr sr Q)))))))
set_option maxRecDepth 20000 in
set_option maxHeartbeats 4000000 in
theorem f_157_66 {E : ox_E} (hE : ox_mono E) {mr sr : Nat} {x0 : Nat} {x1 : Int32} {x2 : Int32} {x3 : Int32} {x4 : Int32} {x5 : Int32} {S : ox_St} {Q : ox_Q} (h : q_157_66 E x0 x1 x2 x3 x4 x5 S mr sr Q) : c_157_66 E x0 x1 x2 x3 x4 x5 S mr sr Q := ox_C_fold hE h
set_option maxRecDepth 20000 in
def q_157_61 (E : ox_E) (x0 : Nat) (x1 : Int32) (x2 : Int32) (x3 : Int32) (x4 : Int32) (y0 : Int32) (S : ox_St) (mr sr : Nat) (Q : ox_Q) : Prop :=
  c_157_66 E x0 x1 x2 x3 y0 0 S mr sr Q
set_option maxRecDepth 20000 in
set_option maxHeartbeats 4000000 in
theorem f_157_61 {E : ox_E} (hE : ox_mono E) {mr sr : Nat} {x0 : Nat} {x1 : Int32} {x2 : Int32} {x3 : Int32} {x4 : Int32} {y0 : Int32} {S : ox_St} {Q : ox_Q} (h : q_157_61 E x0 x1 x2 x3 x4 y0 S mr sr Q) : k_157_61 E x0 x1 x2 x3 x4 mr sr Q (some (.inl (y0))) S := ox_C_fold hE h
set_option maxRecDepth 20000 in
def q_157_41 (E : ox_E) (x0 : Nat) (x1 : Int32) (x2 : Int32) (x3 : Int32) (x4 : Int32) (y0 : Int32) (S : ox_St) (mr sr : Nat) (Q : ox_Q) : Prop :=
  c_157_5 E x0 x1 x2 y0 (x4 + 1) S mr sr Q
set_option maxRecDepth 20000 in
set_option maxHeartbeats 4000000 in
theorem f_157_41 {E : ox_E} (hE : ox_mono E) {mr sr : Nat} {x0 : Nat} {x1 : Int32} {x2 : Int32} {x3 : Int32} {x4 : Int32} {y0 : Int32} {S : ox_St} {Q : ox_Q} (h : q_157_41 E x0 x1 x2 x3 x4 y0 S mr sr Q) : k_157_41 E x0 x1 x2 x3 x4 mr sr Q (some (.inl (y0))) S := ox_C_fold hE h
set_option maxRecDepth 20000 in
def q_157_24 (E : ox_E) (x0 : Nat) (x1 : Int32) (x2 : Int32) (x3 : Int32) (x4 : Int32) (y0 : Int32) (S : ox_St) (mr sr : Nat) (Q : ox_Q) : Prop :=
  ((y0 ≤ x3 → c_157_5 E x0 x1 x2 x3 (x4 + 1) S mr sr Q) ∧ (¬ y0 ≤ x3 → (ox_has (S.K x0) 130 = true ∧ (ox_rdI (S.K (S.R 130 x0)) = true ∧ vp_in (x2 + x4) (S.len (S.R 130 x0)) ∧ (2 ≤ 2 ∧ S.K x0 = 14 ∧ 0 ≤ 8 ∧ ∃ mc1 mk2, mc1 ≤ mr ∧ mk2 ≤ sr ∧ E 137 [.inr (.inr (x0)), .inl (S.rI (S.R 130 x0) (Int32.toNatClampNeg (x2 + x4)))] mc1 mk2 S (k_157_41 E x0 x1 x2 x3 x4 (mr - mc1) (sr - mk2) Q))))))
set_option maxRecDepth 20000 in
set_option maxHeartbeats 4000000 in
theorem f_157_24 {E : ox_E} (hE : ox_mono E) {mr sr : Nat} {x0 : Nat} {x1 : Int32} {x2 : Int32} {x3 : Int32} {x4 : Int32} {y0 : Int32} {S : ox_St} {Q : ox_Q} (h : q_157_24 E x0 x1 x2 x3 x4 y0 S mr sr Q) : k_157_24 E x0 x1 x2 x3 x4 mr sr Q (some (.inl (y0))) S := ox_C_fold hE h
set_option maxRecDepth 20000 in
def q_157_5 (E : ox_E) (x0 : Nat) (x1 : Int32) (x2 : Int32) (x3 : Int32) (x4 : Int32) (S : ox_St) (mr sr : Nat) (Q : ox_Q) : Prop :=
  ((x1 ≤ x4 → (4 ≤ 4 ∧ S.K x0 = 14 ∧ 0 ≤ 8 ∧ ∃ mc1 mk2, mc1 ≤ mr ∧ mk2 ≤ sr ∧ E 132 [.inr (.inr (x0)), .inl (4), .inl (x3 + 1), .inl (x1)] mc1 mk2 S (k_157_61 E x0 x1 x2 x3 x4 (mr - mc1) (sr - mk2) Q))) ∧ (¬ x1 ≤ x4 → (ox_has (S.K x0) 130 = true ∧ (ox_rdI (S.K (S.R 130 x0)) = true ∧ vp_in (x2 + x4) (S.len (S.R 130 x0)) ∧ (2 ≤ 2 ∧ S.K x0 = 14 ∧ 0 ≤ 8 ∧ ∃ mc3 mk4, mc3 ≤ mr ∧ mk4 ≤ sr ∧ E 137 [.inr (.inr (x0)), .inl (S.rI (S.R 130 x0) (Int32.toNatClampNeg (x2 + x4)))] mc3 mk4 S (k_157_24 E x0 x1 x2 x3 x4 (mr - mc3) (sr - mk4) Q))))))
set_option maxRecDepth 20000 in
set_option maxHeartbeats 4000000 in
theorem f_157_5 {E : ox_E} (hE : ox_mono E) {mr sr : Nat} {x0 : Nat} {x1 : Int32} {x2 : Int32} {x3 : Int32} {x4 : Int32} {S : ox_St} {Q : ox_Q} (h : q_157_5 E x0 x1 x2 x3 x4 S mr sr Q) : c_157_5 E x0 x1 x2 x3 x4 S mr sr Q := ox_C_fold hE h
set_option maxRecDepth 20000 in
def q_157 (E : ox_E) (x0 : Nat) (x1 : Int32) (x2 : Int32) (S : ox_St) (mr sr : Nat) (Q : ox_Q) : Prop :=
  c_157_5 E x0 x1 x2 0 0 S mr sr Q
set_option maxRecDepth 20000 in
set_option maxHeartbeats 4000000 in
theorem f_157 {sp : ox_E} (hsp : ox_mono sp) {d : Nat} {mr sr : Nat} {x0 : Nat} {x1 : Int32} {x2 : Int32} {S : ox_St} {Q : ox_Q} (h : q_157 (ox_M sp d) x0 x1 x2 S mr sr Q) : ox_M sp (d + 1) 157 [.inr (.inr (x0)), .inl (x1), .inl (x2)] mr sr S Q := Or.inr ⟨Nat.le_of_ble_eq_true rfl, ox_C_fold (ox_M_mono hsp d) h⟩
/-! OpcodeFramesModel.whole(I)V -/
def c_158_4 (E : ox_E) (x0 : Nat) (x1 : Int32) (x2 : Int32) (x3 : Int32) (S : ox_St) (mr sr : Nat) (Q : ox_Q) : Prop := ox_C E (ox_mi 158).2.2.2.1 (ox_mc 158) (ox_cut 158) Q 4 [some (.inr (.inr (x0))), some (.inl (x1)), some (.inl (x2)), some (.inl (x3))] [] S mr sr
def k_158_83 (E : ox_E) (x0 : Nat) (x1 : Int32) (x2 : Int32) (x3 : Int32) (mr sr : Nat) (Q : ox_Q) : ox_Q := fun r_ T_ => ox_C E (ox_mi 158).2.2.2.1 (ox_mc 158) (ox_cut 158) Q 83 [some (.inr (.inr (x0))), some (.inl (x1)), some (.inl (x2)), some (.inl (x3))] (r_.toList ++ []) T_ mr sr
set_option maxRecDepth 20000 in
def q_158_83 (E : ox_E) (x0 : Nat) (x1 : Int32) (x2 : Int32) (x3 : Int32) (y0 : Int32) (S : ox_St) (mr sr : Nat) (Q : ox_Q) : Prop :=
  c_158_4 E x0 x1 y0 1 S mr sr Q
set_option maxRecDepth 20000 in
set_option maxHeartbeats 4000000 in
theorem f_158_83 {E : ox_E} (hE : ox_mono E) {mr sr : Nat} {x0 : Nat} {x1 : Int32} {x2 : Int32} {x3 : Int32} {y0 : Int32} {S : ox_St} {Q : ox_Q} (h : q_158_83 E x0 x1 x2 x3 y0 S mr sr Q) : k_158_83 E x0 x1 x2 x3 mr sr Q (some (.inl (y0))) S := ox_C_fold hE h
set_option maxRecDepth 20000 in
def q_158_4 (E : ox_E) (x0 : Nat) (x1 : Int32) (x2 : Int32) (x3 : Int32) (S : ox_St) (mr sr : Nat) (Q : ox_Q) : Prop :=
  ((x3 = 0 → ((ox_mi 158).2.2.2.1 = none ∧ Q none S)) ∧ (¬ x3 = 0 → (ox_has (S.K x0) 132 = true ∧ ((¬ (S.I 132 x0) = 0 → ((ox_mi 158).2.2.2.1 = none ∧ Q none S)) ∧ ((S.I 132 x0) = 0 → (ox_has (S.K x0) 122 = true ∧ ((¬ (S.I 122 x0) = 0 → (ox_has (S.K x0) 130 = true ∧ (ox_has (S.K x0) 123 = true ∧ (S.K (S.R 130 x0) = 15 ∧ vp_in (S.I 123 x0) (S.len (S.R 130 x0)) ∧ (let S1 := S.wI (S.R 130 x0) (Int32.toNatClampNeg (S.I 123 x0)) x2
  (ox_has (S1.K x0) 123 = true ∧ (ox_has (S1.K x0) 123 = true ∧ (let S2 := S1.sI 123 x0 ((S1.I 123 x0) + 1)
  (ox_has (S2.K x0) 127 = true ∧ (ox_has (S2.K x0) 122 = true ∧ (ox_rdI (S2.K (S2.R 127 x0)) = true ∧ vp_in ((S2.I 122 x0) - 1) (S2.len (S2.R 127 x0)) ∧ (S2.K (S2.R 127 x0) = 15 ∧ vp_in ((S2.I 122 x0) - 1) (S2.len (S2.R 127 x0)) ∧ (let S3 := S2.wI (S2.R 127 x0) (Int32.toNatClampNeg ((S2.I 122 x0) - 1)) ((S2.rI (S2.R 127 x0) (Int32.toNatClampNeg ((S2.I 122 x0) - 1))) - 1)
  (ox_has (S3.K x0) 127 = true ∧ (ox_has (S3.K x0) 122 = true ∧ (ox_rdI (S3.K (S3.R 127 x0)) = true ∧ vp_in ((S3.I 122 x0) - 1) (S3.len (S3.R 127 x0)) ∧ ((¬ (S3.rI (S3.R 127 x0) (Int32.toNatClampNeg ((S3.I 122 x0) - 1))) = 0 → c_158_4 E x0 x1 x2 0 S3 mr sr Q) ∧ ((S3.rI (S3.R 127 x0) (Int32.toNatClampNeg ((S3.I 122 x0) - 1))) = 0 → (1 ≤ 1 ∧ S3.K x0 = 14 ∧ 0 ≤ 8 ∧ ∃ mc4 mk5, mc4 ≤ mr ∧ mk5 ≤ sr ∧ E 159 [.inr (.inr (x0))] mc4 mk5 S3 (k_158_83 E x0 x1 x2 0 (mr - mc4) (sr - mk5) Q)))))))))))))))))))) ∧ ((S.I 122 x0) = 0 → (ox_has (S.K x0) 125 = true ∧ (let S6 := S.sI 125 x0 x2
  ((ox_mi 158).2.2.2.1 = none ∧ Q none S6)))))))))))
set_option maxRecDepth 20000 in
set_option maxHeartbeats 4000000 in
theorem f_158_4 {E : ox_E} (hE : ox_mono E) {mr sr : Nat} {x0 : Nat} {x1 : Int32} {x2 : Int32} {x3 : Int32} {S : ox_St} {Q : ox_Q} (h : q_158_4 E x0 x1 x2 x3 S mr sr Q) : c_158_4 E x0 x1 x2 x3 S mr sr Q := ox_C_fold hE h
set_option maxRecDepth 20000 in
def q_158 (E : ox_E) (x0 : Nat) (x1 : Int32) (S : ox_St) (mr sr : Nat) (Q : ox_Q) : Prop :=
  c_158_4 E x0 x1 x1 1 S mr sr Q
set_option maxRecDepth 20000 in
set_option maxHeartbeats 4000000 in
theorem f_158 {sp : ox_E} (hsp : ox_mono sp) {d : Nat} {mr sr : Nat} {x0 : Nat} {x1 : Int32} {S : ox_St} {Q : ox_Q} (h : q_158 (ox_M sp d) x0 x1 S mr sr Q) : ox_M sp (d + 1) 158 [.inr (.inr (x0)), .inl (x1)] mr sr S Q := Or.inr ⟨Nat.le_of_ble_eq_true rfl, ox_C_fold (ox_M_mono hsp d) h⟩
/-! OpcodeFramesModel.close()I -/
def k_159_50 (E : ox_E) (x0 : Nat) (x1 : Int32) (x2 : Int32) (mr sr : Nat) (Q : ox_Q) : ox_Q := fun r_ T_ => ox_C E (ox_mi 159).2.2.2.1 (ox_mc 159) (ox_cut 159) Q 50 [some (.inr (.inr (x0))), some (.inl (x1)), some (.inl (x2)), none, none] (r_.toList ++ []) T_ mr sr
def c_159_81 (E : ox_E) (x0 : Nat) (x1 : Int32) (x2 : Int32) (x3 : Int32) (x4 : Int32) (S : ox_St) (mr sr : Nat) (Q : ox_Q) : Prop := ox_C E (ox_mi 159).2.2.2.1 (ox_mc 159) (ox_cut 159) Q 81 [some (.inr (.inr (x0))), some (.inl (x1)), some (.inl (x2)), some (.inl (x3)), some (.inl (x4))] [] S mr sr
def k_159_126 (E : ox_E) (x0 : Nat) (x1 : Int32) (x2 : Int32) (x3 : Int32) (x4 : Int32) (mr sr : Nat) (Q : ox_Q) : ox_Q := fun r_ T_ => ox_C E (ox_mi 159).2.2.2.1 (ox_mc 159) (ox_cut 159) Q 126 [some (.inr (.inr (x0))), some (.inl (x1)), some (.inl (x2)), some (.inl (x3)), some (.inl (x4))] (r_.toList ++ []) T_ mr sr
set_option maxRecDepth 20000 in
def q_159_126 (E : ox_E) (x0 : Nat) (x1 : Int32) (x2 : Int32) (x3 : Int32) (x4 : Int32) (S : ox_St) (mr sr : Nat) (Q : ox_Q) : Prop :=
  (ox_has (S.K x0) 131 = true ∧ (ox_has (S.K x0) 124 = true ∧ (S.K (S.R 131 x0) = 15 ∧ vp_in (S.I 124 x0) (S.len (S.R 131 x0)) ∧ (let S1 := S.wI (S.R 131 x0) (Int32.toNatClampNeg (S.I 124 x0)) x3
  (ox_has (S1.K x0) 124 = true ∧ (ox_has (S1.K x0) 124 = true ∧ (let S2 := S1.sI 124 x0 ((S1.I 124 x0) + 1)
  (True ∧ Q (some (.inl ((-1) - x3))) S2))))))))
set_option maxRecDepth 20000 in
set_option maxHeartbeats 4000000 in
theorem f_159_126 {E : ox_E} (hE : ox_mono E) {mr sr : Nat} {x0 : Nat} {x1 : Int32} {x2 : Int32} {x3 : Int32} {x4 : Int32} {S : ox_St} {Q : ox_Q} (h : q_159_126 E x0 x1 x2 x3 x4 S mr sr Q) : k_159_126 E x0 x1 x2 x3 x4 mr sr Q none S := ox_C_fold hE h
set_option maxRecDepth 20000 in
def q_159_81 (E : ox_E) (x0 : Nat) (x1 : Int32) (x2 : Int32) (x3 : Int32) (x4 : Int32) (S : ox_St) (mr sr : Nat) (Q : ox_Q) : Prop :=
  ((x2 ≤ x4 → (2 ≤ 2 ∧ S.K x0 = 14 ∧ 0 ≤ 8 ∧ ∃ mc1 mk2, mc1 ≤ mr ∧ mk2 ≤ sr ∧ E 156 [.inr (.inr (x0)), .inl (x3)] mc1 mk2 S (k_159_126 E x0 x1 x2 x3 x4 (mr - mc1) (sr - mk2) Q))) ∧ (¬ x2 ≤ x4 → (ox_has (S.K x0) 90 = true ∧ (ox_has (S.K x0) 87 = true ∧ (ox_has (S.K x0) 130 = true ∧ (ox_rdI (S.K (S.R 130 x0)) = true ∧ vp_in (x1 + x4) (S.len (S.R 130 x0)) ∧ (S.K (S.R 90 x0) = 15 ∧ vp_in (S.I 87 x0) (S.len (S.R 90 x0)) ∧ (let S3 := S.wI (S.R 90 x0) (Int32.toNatClampNeg (S.I 87 x0)) (S.rI (S.R 130 x0) (Int32.toNatClampNeg (x1 + x4)))
  (ox_has (S3.K x0) 87 = true ∧ (ox_has (S3.K x0) 87 = true ∧ (let S4 := S3.sI 87 x0 ((S3.I 87 x0) + 1)
  c_159_81 E x0 x1 x2 x3 (x4 + 1) S4 mr sr Q)))))))))))
set_option maxRecDepth 20000 in
set_option maxHeartbeats 4000000 in
theorem f_159_81 {E : ox_E} (hE : ox_mono E) {mr sr : Nat} {x0 : Nat} {x1 : Int32} {x2 : Int32} {x3 : Int32} {x4 : Int32} {S : ox_St} {Q : ox_Q} (h : q_159_81 E x0 x1 x2 x3 x4 S mr sr Q) : c_159_81 E x0 x1 x2 x3 x4 S mr sr Q := ox_C_fold hE h
set_option maxRecDepth 20000 in
def q_159_50 (E : ox_E) (x0 : Nat) (x1 : Int32) (x2 : Int32) (y0 : Int32) (S : ox_St) (mr sr : Nat) (Q : ox_Q) : Prop :=
  (True ∧ Q (some (.inl y0)) S)
set_option maxRecDepth 20000 in
set_option maxHeartbeats 4000000 in
theorem f_159_50 {E : ox_E} (hE : ox_mono E) {mr sr : Nat} {x0 : Nat} {x1 : Int32} {x2 : Int32} {y0 : Int32} {S : ox_St} {Q : ox_Q} (h : q_159_50 E x0 x1 x2 y0 S mr sr Q) : k_159_50 E x0 x1 x2 mr sr Q (some (.inl (y0))) S := ox_C_fold hE h
set_option maxRecDepth 20000 in
def q_159 (E : ox_E) (x0 : Nat) (S : ox_St) (mr sr : Nat) (Q : ox_Q) : Prop :=
  (ox_has (S.K x0) 122 = true ∧ (ox_has (S.K x0) 122 = true ∧ (let S1 := S.sI 122 x0 ((S.I 122 x0) - 1)
  (ox_has (S1.K x0) 128 = true ∧ (ox_has (S1.K x0) 122 = true ∧ (ox_rdI (S1.K (S1.R 128 x0)) = true ∧ vp_in (S1.I 122 x0) (S1.len (S1.R 128 x0)) ∧ (let w2 : Int32 := S1.rI (S1.R 128 x0) (Int32.toNatClampNeg (S1.I 122 x0))
  (ox_has (S1.K x0) 123 = true ∧ (let w3 : Int32 := (S1.I 123 x0) - w2
  (ox_has (S1.K x0) 123 = true ∧ (let S4 := S1.sI 123 x0 w2
  (ox_has (S4.K x0) 126 = true ∧ (ox_has (S4.K x0) 122 = true ∧ (S4.K (S4.R 126 x0) = 17 ∧ vp_in (S4.I 122 x0) (S4.len (S4.R 126 x0)) ∧ (((S4.rI (S4.R 126 x0) (Int32.toNatClampNeg (S4.I 122 x0))) = 0 → (ox_has (S4.K x0) 129 = true ∧ (ox_has (S4.K x0) 122 = true ∧ (ox_rdI (S4.K (S4.R 129 x0)) = true ∧ vp_in (S4.I 122 x0) (S4.len (S4.R 129 x0)) ∧ (let w5 : Int32 := S4.rI (S4.R 129 x0) (Int32.toNatClampNeg (S4.I 122 x0))
  (ox_has (S4.K x0) 82 = true ∧ (ox_has (S4.K x0) 87 = true ∧ (S4.K (S4.R 82 x0) = 15 ∧ vp_in w5 (S4.len (S4.R 82 x0)) ∧ (let S6 := S4.wI (S4.R 82 x0) (Int32.toNatClampNeg w5) (S4.I 87 x0)
  (ox_has (S6.K x0) 83 = true ∧ (S6.K (S6.R 83 x0) = 15 ∧ vp_in w5 (S6.len (S6.R 83 x0)) ∧ (let S7 := S6.wI (S6.R 83 x0) (Int32.toNatClampNeg w5) w3
  c_159_81 E x0 w2 w3 w5 0 S7 mr sr Q)))))))))))) ∧ (¬ (S4.rI (S4.R 126 x0) (Int32.toNatClampNeg (S4.I 122 x0))) = 0 → (3 ≤ 3 ∧ S4.K x0 = 14 ∧ 0 ≤ 8 ∧ ∃ mc8 mk9, mc8 ≤ mr ∧ mk9 ≤ sr ∧ E 157 [.inr (.inr (x0)), .inl (w3), .inl (w2)] mc8 mk9 S4 (k_159_50 E x0 w2 w3 (mr - mc8) (sr - mk9) Q))))))))))))))))))
set_option maxRecDepth 20000 in
set_option maxHeartbeats 4000000 in
theorem f_159 {sp : ox_E} (hsp : ox_mono sp) {d : Nat} {mr sr : Nat} {x0 : Nat} {S : ox_St} {Q : ox_Q} (h : q_159 (ox_M sp d) x0 S mr sr Q) : ox_M sp (d + 1) 159 [.inr (.inr (x0))] mr sr S Q := Or.inr ⟨Nat.le_of_ble_eq_true rfl, ox_C_fold (ox_M_mono hsp d) h⟩
