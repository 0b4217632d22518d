/-! OpcodeFramesModel.enter(II)V -/
def c_172_30 (E : ox_E) (x0 : Nat) (x1 : Int32) (x2 : Int32) (x3 : Int32) (S : ox_St) (mr sr : Nat) (Q : ox_Q) : Prop := ox_C E (ox_mi 172).2.2.2.1 (ox_mc 172) (ox_cut 172) Q 30 [some (.inr (.inr (x0))), some (.inl (x1)), some (.inl (x2)), some (.inl (x3))] [] S mr sr
set_option maxRecDepth 20000 in
def q_172_30 (E : ox_E) (x0 : Nat) (x1 : Int32) (x2 : Int32) (x3 : Int32) (S : ox_St) (mr sr : Nat) (Q : ox_Q) : Prop :=
  (((8 : Int32) ≤ x3 → ((ox_mi 172).2.2.2.1 = none ∧ Q none S)) ∧ (¬ (8 : Int32) ≤ x3 → (ox_has (S.K x0) 103 = true ∧ (S.K (S.R 103 x0) = 15 ∧ vp_in ((8 * x1) + x3) (S.len (S.R 103 x0)) ∧ (let S1 := S.wI (S.R 103 x0) (Int32.toNatClampNeg ((8 * x1) + x3)) (-1000000)
  c_172_30 E x0 x1 x2 (x3 + 1) S1 mr sr Q)))))
set_option maxRecDepth 20000 in
set_option maxHeartbeats 4000000 in
theorem f_172_30 {E : ox_E} (hE : ox_mono E) {mr sr : Nat} {x0 : Nat} {x1 : Int32} {x2 : Int32} {x3 : Int32} {S : ox_St} {Q : ox_Q} (h : q_172_30 E x0 x1 x2 x3 S mr sr Q) : c_172_30 E x0 x1 x2 x3 S mr sr Q := ox_C_fold hE h
set_option maxRecDepth 20000 in
def q_172 (E : ox_E) (x0 : Nat) (x1 : Int32) (x2 : Int32) (S : ox_St) (mr sr : Nat) (Q : ox_Q) : Prop :=
  (ox_has (S.K x0) 98 = true ∧ (S.K (S.R 98 x0) = 15 ∧ vp_in x1 (S.len (S.R 98 x0)) ∧ (let S1 := S.wI (S.R 98 x0) (Int32.toNatClampNeg x1) x2
  (ox_has (S1.K x0) 99 = true ∧ (S1.K (S1.R 99 x0) = 15 ∧ vp_in x1 (S1.len (S1.R 99 x0)) ∧ (let S2 := S1.wI (S1.R 99 x0) (Int32.toNatClampNeg x1) 0
  (ox_has (S2.K x0) 100 = true ∧ (S2.K (S2.R 100 x0) = 15 ∧ vp_in x1 (S2.len (S2.R 100 x0)) ∧ (let S3 := S2.wI (S2.R 100 x0) (Int32.toNatClampNeg x1) 0
  (ox_has (S3.K x0) 101 = true ∧ (S3.K (S3.R 101 x0) = 15 ∧ vp_in x1 (S3.len (S3.R 101 x0)) ∧ (let S4 := S3.wI (S3.R 101 x0) (Int32.toNatClampNeg x1) 0
  c_172_30 E x0 x1 x2 0 S4 mr sr Q))))))))))))
set_option maxRecDepth 20000 in
set_option maxHeartbeats 4000000 in
theorem f_172 {sp : ox_E} (hsp : ox_mono sp) {d : Nat} {mr sr : Nat} {x0 : Nat} {x1 : Int32} {x2 : Int32} {S : ox_St} {Q : ox_Q} (h : q_172 (ox_M sp d) x0 x1 x2 S mr sr Q) : ox_M sp (d + 1) 172 [.inr (.inr (x0)), .inl (x1), .inl (x2)] mr sr S Q := Or.inr ⟨Nat.le_of_ble_eq_true rfl, ox_C_fold (ox_M_mono hsp d) h⟩
/-! OpcodeFramesModel.again()Z -/
def k_173_18 (E : ox_E) (x0 : Nat) (mr sr : Nat) (Q : ox_Q) : ox_Q := fun r_ T_ => ox_C E (ox_mi 173).2.2.2.1 (ox_mc 173) (ox_cut 173) Q 18 [some (.inr (.inr (x0)))] (r_.toList ++ []) T_ mr sr
set_option maxRecDepth 20000 in
def q_173_18 (E : ox_E) (x0 : Nat) (S : ox_St) (mr sr : Nat) (Q : ox_Q) : Prop :=
  (((1 : Int32) = 0 ∨ (1 : Int32) = 1) ∧ Q (some (.inl (1 : Int32))) S)
set_option maxRecDepth 20000 in
set_option maxHeartbeats 4000000 in
theorem f_173_18 {E : ox_E} (hE : ox_mono E) {mr sr : Nat} {x0 : Nat} {S : ox_St} {Q : ox_Q} (h : q_173_18 E x0 S mr sr Q) : k_173_18 E x0 mr sr Q none S := ox_C_fold hE h
set_option maxRecDepth 20000 in
def q_173 (E : ox_E) (x0 : Nat) (S : ox_St) (mr sr : Nat) (Q : ox_Q) : Prop :=
  (ox_has (S.K x0) 69 = true ∧ (let S1 := S.sI 69 x0 0
  (ox_has (S1.K x0) 96 = true ∧ (((0 : Int32) ≤ (S1.I 96 x0) → (1 ≤ 1 ∧ S1.K x0 = 14 ∧ 0 ≤ 8 ∧ ∃ mc2 mk3, mc2 ≤ mr ∧ mk3 ≤ sr ∧ E 171 [.inr (.inr (x0))] mc2 mk3 S1 (k_173_18 E x0 (mr - mc2) (sr - mk3) Q))) ∧ (¬ (0 : Int32) ≤ (S1.I 96 x0) → (((0 : Int32) = 0 ∨ (0 : Int32) = 1) ∧ Q (some (.inl (0 : Int32))) S1))))))
set_option maxRecDepth 20000 in
set_option maxHeartbeats 4000000 in
theorem f_173 {sp : ox_E} (hsp : ox_mono sp) {d : Nat} {mr sr : Nat} {x0 : Nat} {S : ox_St} {Q : ox_Q} (h : q_173 (ox_M sp d) x0 S mr sr Q) : ox_M sp (d + 1) 173 [.inr (.inr (x0))] mr sr S Q := Or.inr ⟨Nat.le_of_ble_eq_true rfl, ox_C_fold (ox_M_mono hsp d) h⟩
/-! OpcodeFramesModel.push(I)V -/
set_option maxRecDepth 20000 in
def q_174 (E : ox_E) (x0 : Nat) (x1 : Int32) (S : ox_St) (mr sr : Nat) (Q : ox_Q) : Prop :=
  (ox_has (S.K x0) 92 = true ∧ (let w1 : Int32 := (S.I 92 x0) - 1
  (ox_has (S.K x0) 102 = true ∧ (ox_has (S.K x0) 100 = true ∧ (ox_rdI (S.K (S.R 100 x0)) = true ∧ vp_in w1 (S.len (S.R 100 x0)) ∧ (S.K (S.R 102 x0) = 15 ∧ vp_in ((10 * w1) + (S.rI (S.R 100 x0) (Int32.toNatClampNeg w1))) (S.len (S.R 102 x0)) ∧ (let S2 := S.wI (S.R 102 x0) (Int32.toNatClampNeg ((10 * w1) + (S.rI (S.R 100 x0) (Int32.toNatClampNeg w1)))) x1
  (ox_has (S2.K x0) 100 = true ∧ (ox_rdI (S2.K (S2.R 100 x0)) = true ∧ vp_in w1 (S2.len (S2.R 100 x0)) ∧ (S2.K (S2.R 100 x0) = 15 ∧ vp_in w1 (S2.len (S2.R 100 x0)) ∧ (let S3 := S2.wI (S2.R 100 x0) (Int32.toNatClampNeg w1) ((S2.rI (S2.R 100 x0) (Int32.toNatClampNeg w1)) + 1)
  ((ox_mi 174).2.2.2.1 = none ∧ Q none S3))))))))))))
set_option maxRecDepth 20000 in
set_option maxHeartbeats 4000000 in
theorem f_174 {sp : ox_E} (hsp : ox_mono sp) {d : Nat} {mr sr : Nat} {x0 : Nat} {x1 : Int32} {S : ox_St} {Q : ox_Q} (h : q_174 (ox_M sp d) x0 x1 S mr sr Q) : ox_M sp (d + 1) 174 [.inr (.inr (x0)), .inl (x1)] mr sr S Q := Or.inr ⟨Nat.le_of_ble_eq_true rfl, ox_C_fold (ox_M_mono hsp d) h⟩
/-! OpcodeFramesModel.pop()I -/
set_option maxRecDepth 20000 in
def q_175 (E : ox_E) (x0 : Nat) (S : ox_St) (mr sr : Nat) (Q : ox_Q) : Prop :=
  (ox_has (S.K x0) 92 = true ∧ (let w1 : Int32 := (S.I 92 x0) - 1
  (ox_has (S.K x0) 100 = true ∧ (ox_rdI (S.K (S.R 100 x0)) = true ∧ vp_in w1 (S.len (S.R 100 x0)) ∧ (S.K (S.R 100 x0) = 15 ∧ vp_in w1 (S.len (S.R 100 x0)) ∧ (let S2 := S.wI (S.R 100 x0) (Int32.toNatClampNeg w1) ((S.rI (S.R 100 x0) (Int32.toNatClampNeg w1)) - 1)
  (ox_has (S2.K x0) 102 = true ∧ (ox_has (S2.K x0) 100 = true ∧ (ox_rdI (S2.K (S2.R 100 x0)) = true ∧ vp_in w1 (S2.len (S2.R 100 x0)) ∧ (ox_rdI (S2.K (S2.R 102 x0)) = true ∧ vp_in ((10 * w1) + (S2.rI (S2.R 100 x0) (Int32.toNatClampNeg w1))) (S2.len (S2.R 102 x0)) ∧ (True ∧ Q (some (.inl (S2.rI (S2.R 102 x0) (Int32.toNatClampNeg ((10 * w1) + (S2.rI (S2.R 100 x0) (Int32.toNatClampNeg w1))))))) S2)))))))))))
set_option maxRecDepth 20000 in
set_option maxHeartbeats 4000000 in
theorem f_175 {sp : ox_E} (hsp : ox_mono sp) {d : Nat} {mr sr : Nat} {x0 : Nat} {S : ox_St} {Q : ox_Q} (h : q_175 (ox_M sp d) x0 S mr sr Q) : ox_M sp (d + 1) 175 [.inr (.inr (x0))] mr sr S Q := Or.inr ⟨Nat.le_of_ble_eq_true rfl, ox_C_fold (ox_M_mono hsp d) h⟩
/-! OpcodeFramesModel.peek(I)I -/
set_option maxRecDepth 20000 in
def q_176 (E : ox_E) (x0 : Nat) (x1 : Int32) (S : ox_St) (mr sr : Nat) (Q : ox_Q) : Prop :=
  (ox_has (S.K x0) 102 = true ∧ (ox_has (S.K x0) 92 = true ∧ (ox_has (S.K x0) 100 = true ∧ (ox_has (S.K x0) 92 = true ∧ (ox_rdI (S.K (S.R 100 x0)) = true ∧ vp_in ((S.I 92 x0) - 1) (S.len (S.R 100 x0)) ∧ (ox_rdI (S.K (S.R 102 x0)) = true ∧ vp_in ((((10 * ((S.I 92 x0) - 1)) + (S.rI (S.R 100 x0) (Int32.toNatClampNeg ((S.I 92 x0) - 1)))) - 1) - x1) (S.len (S.R 102 x0)) ∧ (True ∧ Q (some (.inl (S.rI (S.R 102 x0) (Int32.toNatClampNeg ((((10 * ((S.I 92 x0) - 1)) + (S.rI (S.R 100 x0) (Int32.toNatClampNeg ((S.I 92 x0) - 1)))) - 1) - x1))))) S)))))))
set_option maxRecDepth 20000 in
set_option maxHeartbeats 4000000 in
theorem f_176 {sp : ox_E} (hsp : ox_mono sp) {d : Nat} {mr sr : Nat} {x0 : Nat} {x1 : Int32} {S : ox_St} {Q : ox_Q} (h : q_176 (ox_M sp d) x0 x1 S mr sr Q) : ox_M sp (d + 1) 176 [.inr (.inr (x0)), .inl (x1)] mr sr S Q := Or.inr ⟨Nat.le_of_ble_eq_true rfl, ox_C_fold (ox_M_mono hsp d) h⟩
/-! OpcodeFramesModel.raise(I)V -/
def c_177_0 (E : ox_E) (x0 : Nat) (x1 : Int32) (x2 : Int32) (S : ox_St) (mr sr : Nat) (Q : ox_Q) : Prop := ox_C E (ox_mi 177).2.2.2.1 (ox_mc 177) (ox_cut 177) Q 0 [some (.inr (.inr (x0))), some (.inl (x1)), some (.inl (x2))] [] S mr sr
def k_177_61 (E : ox_E) (x0 : Nat) (x1 : Int32) (x2 : Int32) (mr sr : Nat) (Q : ox_Q) : ox_Q := fun r_ T_ => ox_C E (ox_mi 177).2.2.2.1 (ox_mc 177) (ox_cut 177) Q 61 [some (.inr (.inr (x0))), some (.inl (x1)), some (.inl (x2))] (r_.toList ++ []) T_ mr sr
set_option maxRecDepth 20000 in
def q_177_61 (E : ox_E) (x0 : Nat) (x1 : Int32) (x2 : Int32) (S : ox_St) (mr sr : Nat) (Q : ox_Q) : Prop :=
  (ox_has (S.K x0) 99 = true ∧ (ox_has (S.K x0) 105 = true ∧ (ox_has (S.K x0) 101 = true ∧ (ox_rdI (S.K (S.R 101 x0)) = true ∧ vp_in x2 (S.len (S.R 101 x0)) ∧ (ox_rdI (S.K (S.R 105 x0)) = true ∧ vp_in ((4 * x2) + (S.rI (S.R 101 x0) (Int32.toNatClampNeg x2))) (S.len (S.R 105 x0)) ∧ (S.K (S.R 99 x0) = 15 ∧ vp_in x2 (S.len (S.R 99 x0)) ∧ (let S1 := S.wI (S.R 99 x0) (Int32.toNatClampNeg x2) (S.rI (S.R 105 x0) (Int32.toNatClampNeg ((4 * x2) + (S.rI (S.R 101 x0) (Int32.toNatClampNeg x2)))))
  ((ox_mi 177).2.2.2.1 = none ∧ Q none S1))))))))
set_option maxRecDepth 20000 in
set_option maxHeartbeats 4000000 in
theorem f_177_61 {E : ox_E} (hE : ox_mono E) {mr sr : Nat} {x0 : Nat} {x1 : Int32} {x2 : Int32} {S : ox_St} {Q : ox_Q} (h : q_177_61 E x0 x1 x2 S mr sr Q) : k_177_61 E x0 x1 x2 mr sr Q none S := ox_C_fold hE h
set_option maxRecDepth 20000 in
def q_177_0 (E : ox_E) (x0 : Nat) (x1 : Int32) (x2 : Int32) (S : ox_St) (mr sr : Nat) (Q : ox_Q) : Prop :=
  (ox_has (S.K x0) 92 = true ∧ (((S.I 92 x0) ≤ 0 → (ox_has (S.K x0) 93 = true ∧ (let S1 := S.sI 93 x0 3
  (ox_has (S1.K x0) 94 = true ∧ (let S2 := S1.sI 94 x0 x1
  ((ox_mi 177).2.2.2.1 = none ∧ Q none S2)))))) ∧ (¬ (S.I 92 x0) ≤ 0 → (ox_has (S.K x0) 92 = true ∧ (let w3 : Int32 := (S.I 92 x0) - 1
  (ox_has (S.K x0) 101 = true ∧ (ox_rdI (S.K (S.R 101 x0)) = true ∧ vp_in w3 (S.len (S.R 101 x0)) ∧ (((S.rI (S.R 101 x0) (Int32.toNatClampNeg w3)) ≤ 0 → (ox_has (S.K x0) 92 = true ∧ (ox_has (S.K x0) 92 = true ∧ (let S4 := S.sI 92 x0 ((S.I 92 x0) - 1)
  c_177_0 E x0 x1 w3 S4 mr sr Q)))) ∧ (¬ (S.rI (S.R 101 x0) (Int32.toNatClampNeg w3)) ≤ 0 → (ox_has (S.K x0) 101 = true ∧ (ox_rdI (S.K (S.R 101 x0)) = true ∧ vp_in w3 (S.len (S.R 101 x0)) ∧ (S.K (S.R 101 x0) = 15 ∧ vp_in w3 (S.len (S.R 101 x0)) ∧ (let S5 := S.wI (S.R 101 x0) (Int32.toNatClampNeg w3) ((S.rI (S.R 101 x0) (Int32.toNatClampNeg w3)) - 1)
  (ox_has (S5.K x0) 100 = true ∧ (ox_has (S5.K x0) 104 = true ∧ (ox_has (S5.K x0) 101 = true ∧ (ox_rdI (S5.K (S5.R 101 x0)) = true ∧ vp_in w3 (S5.len (S5.R 101 x0)) ∧ (ox_rdI (S5.K (S5.R 104 x0)) = true ∧ vp_in ((4 * w3) + (S5.rI (S5.R 101 x0) (Int32.toNatClampNeg w3))) (S5.len (S5.R 104 x0)) ∧ (S5.K (S5.R 100 x0) = 15 ∧ vp_in w3 (S5.len (S5.R 100 x0)) ∧ (let S6 := S5.wI (S5.R 100 x0) (Int32.toNatClampNeg w3) (S5.rI (S5.R 104 x0) (Int32.toNatClampNeg ((4 * w3) + (S5.rI (S5.R 101 x0) (Int32.toNatClampNeg w3)))))
  (2 ≤ 2 ∧ S6.K x0 = 14 ∧ 0 ≤ 8 ∧ ∃ mc7 mk8, mc7 ≤ mr ∧ mk8 ≤ sr ∧ E 174 [.inr (.inr (x0)), .inl (4 + x1)] mc7 mk8 S6 (k_177_61 E x0 x1 w3 (mr - mc7) (sr - mk8) Q))))))))))))))))))))))
set_option maxRecDepth 20000 in
set_option maxHeartbeats 4000000 in
theorem f_177_0 {E : ox_E} (hE : ox_mono E) {mr sr : Nat} {x0 : Nat} {x1 : Int32} {x2 : Int32} {S : ox_St} {Q : ox_Q} (h : q_177_0 E x0 x1 x2 S mr sr Q) : c_177_0 E x0 x1 x2 S mr sr Q := ox_C_fold hE h
/-! OpcodeFramesModel.give(I)V -/
def k_178_11 (E : ox_E) (x0 : Nat) (x1 : Int32) (mr sr : Nat) (Q : ox_Q) : ox_Q := fun r_ T_ => ox_C E (ox_mi 178).2.2.2.1 (ox_mc 178) (ox_cut 178) Q 11 [some (.inr (.inr (x0))), some (.inl (x1))] (r_.toList ++ []) T_ mr sr
def k_178_19 (E : ox_E) (x0 : Nat) (x1 : Int32) (mr sr : Nat) (Q : ox_Q) : ox_Q := fun r_ T_ => ox_C E (ox_mi 178).2.2.2.1 (ox_mc 178) (ox_cut 178) Q 19 [some (.inr (.inr (x0))), some (.inl (x1))] (r_.toList ++ []) T_ mr sr
set_option maxRecDepth 20000 in
def q_178_19 (E : ox_E) (x0 : Nat) (x1 : Int32) (S : ox_St) (mr sr : Nat) (Q : ox_Q) : Prop :=
  ((ox_mi 178).2.2.2.1 = none ∧ Q none S)
set_option maxRecDepth 20000 in
set_option maxHeartbeats 4000000 in
theorem f_178_19 {E : ox_E} (hE : ox_mono E) {mr sr : Nat} {x0 : Nat} {x1 : Int32} {S : ox_St} {Q : ox_Q} (h : q_178_19 E x0 x1 S mr sr Q) : k_178_19 E x0 x1 mr sr Q none S := ox_C_fold hE h
set_option maxRecDepth 20000 in
def q_178_11 (E : ox_E) (x0 : Nat) (x1 : Int32) (S : ox_St) (mr sr : Nat) (Q : ox_Q) : Prop :=
  k_178_19 E x0 x1 mr sr Q none S
set_option maxRecDepth 20000 in
set_option maxHeartbeats 4000000 in
theorem f_178_11 {E : ox_E} (hE : ox_mono E) {mr sr : Nat} {x0 : Nat} {x1 : Int32} {S : ox_St} {Q : ox_Q} (h : q_178_11 E x0 x1 S mr sr Q) : k_178_11 E x0 x1 mr sr Q none S := ox_C_fold hE h
set_option maxRecDepth 20000 in
def q_178 (E : ox_E) (x0 : Nat) (x1 : Int32) (S : ox_St) (mr sr : Nat) (Q : ox_Q) : Prop :=
  ((¬ x1 = (-1) → (2 ≤ 2 ∧ S.K x0 = 14 ∧ 0 ≤ 8 ∧ ∃ mc1 mk2, mc1 ≤ mr ∧ mk2 ≤ sr ∧ E 174 [.inr (.inr (x0)), .inl (x1)] mc1 mk2 S (k_178_19 E x0 x1 (mr - mc1) (sr - mk2) Q))) ∧ (x1 = (-1) → (2 ≤ 2 ∧ S.K x0 = 14 ∧ 0 ≤ 8 ∧ ∃ mc3 mk4, mc3 ≤ mr ∧ mk4 ≤ sr ∧ E 177 [.inr (.inr (x0)), .inl (6)] mc3 mk4 S (k_178_11 E x0 x1 (mr - mc3) (sr - mk4) Q))))
set_option maxRecDepth 20000 in
set_option maxHeartbeats 4000000 in
theorem f_178 {sp : ox_E} (hsp : ox_mono sp) {d : Nat} {mr sr : Nat} {x0 : Nat} {x1 : Int32} {S : ox_St} {Q : ox_Q} (h : q_178 (ox_M sp d) x0 x1 S mr sr Q) : ox_M sp (d + 1) 178 [.inr (.inr (x0)), .inl (x1)] mr sr S Q := Or.inr ⟨Nat.le_of_ble_eq_true rfl, ox_C_fold (ox_M_mono hsp d) h⟩
/-! OpcodeFramesModel.length(JJJ)J -/
set_option maxRecDepth 20000 in
def q_179 (E : ox_E) (x0 : Int64) (x1 : Int64) (x2 : Int64) (S : ox_St) (mr sr : Nat) (Q : ox_Q) : Prop :=
  (((lg_cmp x2 0) ≤ 0 → (((lg_cmp x0 x1) ≤ 0 → (ox_isL (some .long) = true ∧ Q (some (.inr (.inl 0))) S)) ∧ (¬ (lg_cmp x0 x1) ≤ 0 → (¬ (-x2 : Int64) = 0 ∧ (ox_isL (some .long) = true ∧ Q (some (.inr (.inl ((((x0 - x1) - x2) - 1) / (-x2))))) S))))) ∧ (¬ (lg_cmp x2 0) ≤ 0 → (((0 : Int32) ≤ (lg_cmp x0 x1) → (ox_isL (some .long) = true ∧ Q (some (.inr (.inl 0))) S)) ∧ (¬ (0 : Int32) ≤ (lg_cmp x0 x1) → (¬ (x2 : Int64) = 0 ∧ (ox_isL (some .long) = true ∧ Q (some (.inr (.inl ((((x1 - x0) + x2) - 1) / x2)))) S))))))
set_option maxRecDepth 20000 in
set_option maxHeartbeats 4000000 in
theorem f_179 {sp : ox_E} (hsp : ox_mono sp) {d : Nat} {mr sr : Nat} {x0 : Int64} {x1 : Int64} {x2 : Int64} {S : ox_St} {Q : ox_Q} (h : q_179 (ox_M sp d) x0 x1 x2 S mr sr Q) : ox_M sp (d + 1) 179 [.inr (.inl (x0)), .inr (.inl (x1)), .inr (.inl (x2))] mr sr S Q := Or.inr ⟨Nat.le_of_ble_eq_true rfl, ox_C_fold (ox_M_mono hsp d) h⟩
/-! OpcodeFramesModel.lengthOf(I)J -/
def k_180_30 (E : ox_E) (x0 : Nat) (x1 : Int32) (mr sr : Nat) (Q : ox_Q) : ox_Q := fun r_ T_ => ox_C E (ox_mi 180).2.2.2.1 (ox_mc 180) (ox_cut 180) Q 30 [some (.inr (.inr (x0))), some (.inl (x1))] (r_.toList ++ []) T_ mr sr
set_option maxRecDepth 20000 in
def q_180_30 (E : ox_E) (x0 : Nat) (x1 : Int32) (y0 : Int64) (S : ox_St) (mr sr : Nat) (Q : ox_Q) : Prop :=
  (ox_isL (some .long) = true ∧ Q (some (.inr (.inl y0))) S)
set_option maxRecDepth 20000 in
set_option maxHeartbeats 4000000 in
theorem f_180_30 {E : ox_E} (hE : ox_mono E) {mr sr : Nat} {x0 : Nat} {x1 : Int32} {y0 : Int64} {S : ox_St} {Q : ox_Q} (h : q_180_30 E x0 x1 y0 S mr sr Q) : k_180_30 E x0 x1 mr sr Q (some (.inr (.inl (y0)))) S := ox_C_fold hE h
set_option maxRecDepth 20000 in
def q_180 (E : ox_E) (x0 : Nat) (x1 : Int32) (S : ox_St) (mr sr : Nat) (Q : ox_Q) : Prop :=
  (ox_has (S.K x0) 73 = true ∧ (ox_rdI (S.K (S.R 73 x0)) = true ∧ vp_in (x1 + 1) (S.len (S.R 73 x0)) ∧ (ox_has (S.K x0) 73 = true ∧ (ox_rdI (S.K (S.R 73 x0)) = true ∧ vp_in (x1 + 2) (S.len (S.R 73 x0)) ∧ (ox_has (S.K x0) 73 = true ∧ (ox_rdI (S.K (S.R 73 x0)) = true ∧ vp_in (x1 + 3) (S.len (S.R 73 x0)) ∧ (3 ≤ 3 ∧ 0 ≤ 8 ∧ ∃ mc1 mk2, mc1 ≤ mr ∧ mk2 ≤ sr ∧ E 179 [.inr (.inl (Int32.toInt64 (S.rI (S.R 73 x0) (Int32.toNatClampNeg (x1 + 1))))), .inr (.inl (Int32.toInt64 (S.rI (S.R 73 x0) (Int32.toNatClampNeg (x1 + 2))))), .inr (.inl (Int32.toInt64 (S.rI (S.R 73 x0) (Int32.toNatClampNeg (x1 + 3)))))] mc1 mk2 S (k_180_30 E x0 x1 (mr - mc1) (sr - mk2) Q))))))))
set_option maxRecDepth 20000 in
set_option maxHeartbeats 4000000 in
theorem f_180 {sp : ox_E} (hsp : ox_mono sp) {d : Nat} {mr sr : Nat} {x0 : Nat} {x1 : Int32} {S : ox_St} {Q : ox_Q} (h : q_180 (ox_M sp d) x0 x1 S mr sr Q) : ox_M sp (d + 1) 180 [.inr (.inr (x0)), .inl (x1)] mr sr S Q := Or.inr ⟨Nat.le_of_ble_eq_true rfl, ox_C_fold (ox_M_mono hsp d) h⟩
/-! OpcodeFramesModel.isFalse(I)Z -/
def k_181_67 (E : ox_E) (x0 : Nat) (x1 : Int32) (x2 : Int32) (mr sr : Nat) (Q : ox_Q) : ox_Q := fun r_ T_ => ox_C E (ox_mi 181).2.2.2.1 (ox_mc 181) (ox_cut 181) Q 67 [some (.inr (.inr (x0))), some (.inl (x1)), some (.inl (x2))] (r_.toList ++ []) T_ mr sr
set_option maxRecDepth 20000 in
def q_181_67 (E : ox_E) (x0 : Nat) (x1 : Int32) (x2 : Int32) (y0 : Int64) (S : ox_St) (mr sr : Nat) (Q : ox_Q) : Prop :=
  ((¬ (lg_cmp y0 0) = 0 → (((0 : Int32) = 0 ∨ (0 : Int32) = 1) ∧ Q (some (.inl (0 : Int32))) S)) ∧ ((lg_cmp y0 0) = 0 → (((1 : Int32) = 0 ∨ (1 : Int32) = 1) ∧ Q (some (.inl (1 : Int32))) S)))
set_option maxRecDepth 20000 in
set_option maxHeartbeats 4000000 in
theorem f_181_67 {E : ox_E} (hE : ox_mono E) {mr sr : Nat} {x0 : Nat} {x1 : Int32} {x2 : Int32} {y0 : Int64} {S : ox_St} {Q : ox_Q} (h : q_181_67 E x0 x1 x2 y0 S mr sr Q) : k_181_67 E x0 x1 x2 mr sr Q (some (.inr (.inl (y0)))) S := ox_C_fold hE h
set_option maxRecDepth 20000 in
def q_181 (E : ox_E) (x0 : Nat) (x1 : Int32) (S : ox_St) (mr sr : Nat) (Q : ox_Q) : Prop :=
  (((16 : Int32) ≤ x1 → (ox_has (S.K x0) 73 = true ∧ (ox_rdI (S.K (S.R 73 x0)) = true ∧ vp_in x1 (S.len (S.R 73 x0)) ∧ (let w1 : Int32 := S.rI (S.R 73 x0) (Int32.toNatClampNeg x1)
  ((w1 = 3 → (ox_has (S.K x0) 73 = true ∧ (ox_rdI (S.K (S.R 73 x0)) = true ∧ vp_in (x1 + 2) (S.len (S.R 73 x0)) ∧ ((¬ (S.rI (S.R 73 x0) (Int32.toNatClampNeg (x1 + 2))) = 0 → (((0 : Int32) = 0 ∨ (0 : Int32) = 1) ∧ Q (some (.inl (0 : Int32))) S)) ∧ ((S.rI (S.R 73 x0) (Int32.toNatClampNeg (x1 + 2))) = 0 → (((1 : Int32) = 0 ∨ (1 : Int32) = 1) ∧ Q (some (.inl (1 : Int32))) S)))))) ∧ (¬ w1 = 3 → ((¬ w1 = 4 → ((¬ w1 = 5 → (((0 : Int32) = 0 ∨ (0 : Int32) = 1) ∧ Q (some (.inl (0 : Int32))) S)) ∧ (w1 = 5 → (2 ≤ 2 ∧ S.K x0 = 14 ∧ 0 ≤ 8 ∧ ∃ mc2 mk3, mc2 ≤ mr ∧ mk3 ≤ sr ∧ E 180 [.inr (.inr (x0)), .inl (x1)] mc2 mk3 S (k_181_67 E x0 x1 w1 (mr - mc2) (sr - mk3) Q))))) ∧ (w1 = 4 → (ox_has (S.K x0) 73 = true ∧ (ox_rdI (S.K (S.R 73 x0)) = true ∧ vp_in (x1 + 2) (S.len (S.R 73 x0)) ∧ ((¬ (S.rI (S.R 73 x0) (Int32.toNatClampNeg (x1 + 2))) = 0 → (((0 : Int32) = 0 ∨ (0 : Int32) = 1) ∧ Q (some (.inl (0 : Int32))) S)) ∧ ((S.rI (S.R 73 x0) (Int32.toNatClampNeg (x1 + 2))) = 0 → (((1 : Int32) = 0 ∨ (1 : Int32) = 1) ∧ Q (some (.inl (1 : Int32))) S))))))))))))) ∧ (¬ (16 : Int32) ≤ x1 → ((x1 = 0 → (((1 : Int32) = 0 ∨ (1 : Int32) = 1) ∧ Q (some (.inl (1 : Int32))) S)) ∧ (¬ x1 = 0 → ((¬ x1 = 1 → (((0 : Int32) = 0 ∨ (0 : Int32) = 1) ∧ Q (some (.inl (0 : Int32))) S)) ∧ (x1 = 1 → (((1 : Int32) = 0 ∨ (1 : Int32) = 1) ∧ Q (some (.inl (1 : Int32))) S)))))))
set_option maxRecDepth 20000 in
set_option maxHeartbeats 4000000 in
theorem f_181 {sp : ox_E} (hsp : ox_mono sp) {d : Nat} {mr sr : Nat} {x0 : Nat} {x1 : Int32} {S : ox_St} {Q : ox_Q} (h : q_181 (ox_M sp d) x0 x1 S mr sr Q) : ox_M sp (d + 1) 181 [.inr (.inr (x0)), .inl (x1)] mr sr S Q := Or.inr ⟨Nat.le_of_ble_eq_true rfl, ox_C_fold (ox_M_mono hsp d) h⟩
/-! OpcodeFramesModel.areEqual(II)Z -/
def c_182_19 (E : ox_E) (x0 : Nat) (x1 : Int32) (x2 : Int32) (x3 : Int32) (x4 : Int32) (S : ox_St) (mr sr : Nat) (Q : ox_Q) : Prop := ox_C E (ox_mi 182).2.2.2.1 (ox_mc 182) (ox_cut 182) Q 19 [some (.inr (.inr (x0))), some (.inl (x1)), some (.inl (x2)), some (.inl (x3)), some (.inl (x4)), none, none, none] [] S mr sr
def k_182_65 (E : ox_E) (x0 : Nat) (x1 : Int32) (x2 : Int32) (x3 : Int32) (x4 : Int32) (x5 : Int32) (x6 : Int32) (mr sr : Nat) (Q : ox_Q) : ox_Q := fun r_ T_ => ox_C E (ox_mi 182).2.2.2.1 (ox_mc 182) (ox_cut 182) Q 65 [some (.inr (.inr (x0))), some (.inl (x1)), some (.inl (x2)), some (.inl (x3)), some (.inl (x4)), some (.inl (x5)), some (.inl (x6)), none] (r_.toList ++ []) T_ mr sr
def k_182_74 (E : ox_E) (x0 : Nat) (x1 : Int32) (x2 : Int32) (x3 : Int32) (x4 : Int32) (x5 : Int32) (x6 : Int32) (mr sr : Nat) (Q : ox_Q) : ox_Q := fun r_ T_ => ox_C E (ox_mi 182).2.2.2.1 (ox_mc 182) (ox_cut 182) Q 74 [some (.inr (.inr (x0))), some (.inl (x1)), some (.inl (x2)), some (.inl (x3)), some (.inl (x4)), some (.inl (x5)), some (.inl (x6)), none] (r_.toList ++ []) T_ mr sr
def k_182_85 (E : ox_E) (x0 : Nat) (x1 : Int32) (x2 : Int32) (x3 : Int32) (x4 : Int32) (x5 : Int32) (x6 : Int32) (mr sr : Nat) (Q : ox_Q) : ox_Q := fun r_ T_ => ox_C E (ox_mi 182).2.2.2.1 (ox_mc 182) (ox_cut 182) Q 85 [some (.inr (.inr (x0))), some (.inl (x1)), some (.inl (x2)), some (.inl (x3)), some (.inl (x4)), some (.inl (x5)), some (.inl (x6)), none] (r_.toList ++ []) T_ mr sr
def k_182_104 (E : ox_E) (x0 : Nat) (x1 : Int32) (x2 : Int32) (x3 : Int32) (x4 : Int32) (x5 : Int32) (x6 : Int32) (mr sr : Nat) (Q : ox_Q) : ox_Q := fun r_ T_ => ox_C E (ox_mi 182).2.2.2.1 (ox_mc 182) (ox_cut 182) Q 104 [some (.inr (.inr (x0))), some (.inl (x1)), some (.inl (x2)), some (.inl (x3)), some (.inl (x4)), some (.inl (x5)), some (.inl (x6)), none] (r_.toList ++ []) T_ mr sr
def k_182_113 (E : ox_E) (x0 : Nat) (x1 : Int32) (x2 : Int32) (x3 : Int32) (x4 : Int32) (x5 : Int32) (x6 : Int32) (mr sr : Nat) (Q : ox_Q) : ox_Q := fun r_ T_ => ox_C E (ox_mi 182).2.2.2.1 (ox_mc 182) (ox_cut 182) Q 113 [some (.inr (.inr (x0))), some (.inl (x1)), some (.inl (x2)), some (.inl (x3)), some (.inl (x4)), some (.inl (x5)), some (.inl (x6)), none] (r_.toList ++ []) T_ mr sr
def c_182_147 (E : ox_E) (x0 : Nat) (x1 : Int32) (x2 : Int32) (x3 : Int32) (x4 : Int32) (x5 : Int32) (x6 : Int32) (x7 : Int32) (S : ox_St) (mr sr : Nat) (Q : ox_Q) : Prop := ox_C E (ox_mi 182).2.2.2.1 (ox_mc 182) (ox_cut 182) Q 147 [some (.inr (.inr (x0))), some (.inl (x1)), some (.inl (x2)), some (.inl (x3)), some (.inl (x4)), some (.inl (x5)), some (.inl (x6)), some (.inl (x7))] [] S mr sr
def k_182_222 (E : ox_E) (x0 : Nat) (x1 : Int32) (x2 : Int32) (x3 : Int32) (x4 : Int32) (x5 : Int32) (x6 : Int32) (mr sr : Nat) (Q : ox_Q) : ox_Q := fun r_ T_ => ox_C E (ox_mi 182).2.2.2.1 (ox_mc 182) (ox_cut 182) Q 222 [some (.inr (.inr (x0))), some (.inl (x1)), some (.inl (x2)), some (.inl (x3)), some (.inl (x4)), some (.inl (x5)), some (.inl (x6)), none] (r_.toList ++ []) T_ mr sr
def k_182_232 (E : ox_E) (x0 : Nat) (x1 : Int32) (x2 : Int32) (x3 : Int32) (x4 : Int32) (x5 : Int32) (x6 : Int32) (mr sr : Nat) (Q : ox_Q) : ox_Q := fun r_ T_ => ox_C E (ox_mi 182).2.2.2.1 (ox_mc 182) (ox_cut 182) Q 232 [some (.inr (.inr (x0))), some (.inl (x1)), some (.inl (x2)), some (.inl (x3)), some (.inl (x4)), some (.inl (x5)), some (.inl (x6)), none] (r_.toList ++ []) T_ mr sr
set_option maxRecDepth 20000 in
def q_182_232 (E : ox_E) (x0 : Nat) (x1 : Int32) (x2 : Int32) (x3 : Int32) (x4 : Int32) (x5 : Int32) (x6 : Int32) (y0 : Int32) (S : ox_St) (mr sr : Nat) (Q : ox_Q) : Prop :=
  ((¬ y0 = 5 → c_182_19 E x0 x1 x2 x3 0 S mr sr Q) ∧ (y0 = 5 → (ox_has (S.K x0) 73 = true ∧ (ox_rdI (S.K (S.R 73 x0)) = true ∧ vp_in (x5 + 1) (S.len (S.R 73 x0)) ∧ (ox_has (S.K x0) 73 = true ∧ (ox_rdI (S.K (S.R 73 x0)) = true ∧ vp_in (x6 + 1) (S.len (S.R 73 x0)) ∧ ((¬ (S.rI (S.R 73 x0) (Int32.toNatClampNeg (x5 + 1))) = (S.rI (S.R 73 x0) (Int32.toNatClampNeg (x6 + 1))) → c_182_19 E x0 x1 x2 x3 0 S mr sr Q) ∧ ((S.rI (S.R 73 x0) (Int32.toNatClampNeg (x5 + 1))) = (S.rI (S.R 73 x0) (Int32.toNatClampNeg (x6 + 1))) → (ox_has (S.K x0) 73 = true ∧ (ox_rdI (S.K (S.R 73 x0)) = true ∧ vp_in (x5 + 2) (S.len (S.R 73 x0)) ∧ (ox_has (S.K x0) 73 = true ∧ (ox_rdI (S.K (S.R 73 x0)) = true ∧ vp_in (x6 + 2) (S.len (S.R 73 x0)) ∧ ((¬ (S.rI (S.R 73 x0) (Int32.toNatClampNeg (x5 + 2))) = (S.rI (S.R 73 x0) (Int32.toNatClampNeg (x6 + 2))) → c_182_19 E x0 x1 x2 x3 0 S mr sr Q) ∧ ((S.rI (S.R 73 x0) (Int32.toNatClampNeg (x5 + 2))) = (S.rI (S.R 73 x0) (Int32.toNatClampNeg (x6 + 2))) → (ox_has (S.K x0) 73 = true ∧ (ox_rdI (S.K (S.R 73 x0)) = true ∧ vp_in (x5 + 3) (S.len (S.R 73 x0)) ∧ (ox_has (S.K x0) 73 = true ∧ (ox_rdI (S.K (S.R 73 x0)) = true ∧ vp_in (x6 + 3) (S.len (S.R 73 x0)) ∧ ((¬ (S.rI (S.R 73 x0) (Int32.toNatClampNeg (x5 + 3))) = (S.rI (S.R 73 x0) (Int32.toNatClampNeg (x6 + 3))) → c_182_19 E x0 x1 x2 x3 0 S mr sr Q) ∧ ((S.rI (S.R 73 x0) (Int32.toNatClampNeg (x5 + 3))) = (S.rI (S.R 73 x0) (Int32.toNatClampNeg (x6 + 3))) → c_182_19 E x0 x1 x2 x3 1 S mr sr Q))))))))))))))))))))
set_option maxRecDepth 20000 in
set_option maxHeartbeats 4000000 in
theorem f_182_232 {E : ox_E} (hE : ox_mono E) {mr sr : Nat} {x0 : Nat} {x1 : Int32} {x2 : Int32} {x3 : Int32} {x4 : Int32} {x5 : Int32} {x6 : Int32} {y0 : Int32} {S : ox_St} {Q : ox_Q} (h : q_182_232 E x0 x1 x2 x3 x4 x5 x6 y0 S mr sr Q) : k_182_232 E x0 x1 x2 x3 x4 x5 x6 mr sr Q (some (.inl (y0))) S := ox_C_fold hE h
set_option maxRecDepth 20000 in
def q_182_222 (E : ox_E) (x0 : Nat) (x1 : Int32) (x2 : Int32) (x3 : Int32) (x4 : Int32) (x5 : Int32) (x6 : Int32) (y0 : Int32) (S : ox_St) (mr sr : Nat) (Q : ox_Q) : Prop :=
  ((¬ y0 = 5 → c_182_19 E x0 x1 x2 x3 0 S mr sr Q) ∧ (y0 = 5 → (2 ≤ 2 ∧ S.K x0 = 14 ∧ 0 ≤ 8 ∧ ∃ mc1 mk2, mc1 ≤ mr ∧ mk2 ≤ sr ∧ E 133 [.inr (.inr (x0)), .inl (x6)] mc1 mk2 S (k_182_232 E x0 x1 x2 x3 x4 x5 x6 (mr - mc1) (sr - mk2) Q))))
set_option maxRecDepth 20000 in
set_option maxHeartbeats 4000000 in
theorem f_182_222 {E : ox_E} (hE : ox_mono E) {mr sr : Nat} {x0 : Nat} {x1 : Int32} {x2 : Int32} {x3 : Int32} {x4 : Int32} {x5 : Int32} {x6 : Int32} {y0 : Int32} {S : ox_St} {Q : ox_Q} (h : q_182_222 E x0 x1 x2 x3 x4 x5 x6 y0 S mr sr Q) : k_182_222 E x0 x1 x2 x3 x4 x5 x6 mr sr Q (some (.inl (y0))) S := ox_C_fold hE h
set_option maxRecDepth 20000 in
def q_182_147 (E : ox_E) (x0 : Nat) (x1 : Int32) (x2 : Int32) (x3 : Int32) (x4 : Int32) (x5 : Int32) (x6 : Int32) (x7 : Int32) (S : ox_St) (mr sr : Nat) (Q : ox_Q) : Prop :=
  (ox_has (S.K x0) 73 = true ∧ (ox_rdI (S.K (S.R 73 x0)) = true ∧ vp_in (x5 + 2) (S.len (S.R 73 x0)) ∧ (((S.rI (S.R 73 x0) (Int32.toNatClampNeg (x5 + 2))) ≤ x7 → c_182_19 E x0 x1 x2 x3 x4 S mr sr Q) ∧ (¬ (S.rI (S.R 73 x0) (Int32.toNatClampNeg (x5 + 2))) ≤ x7 → ((x4 = 0 → c_182_19 E x0 x1 x2 x3 x4 S mr sr Q) ∧ (¬ x4 = 0 → (ox_has (S.K x0) 141 = true ∧ (ox_has (S.K x0) 73 = true ∧ (ox_rdI (S.K (S.R 73 x0)) = true ∧ vp_in ((x5 + 3) + x7) (S.len (S.R 73 x0)) ∧ (S.K (S.R 141 x0) = 15 ∧ vp_in x3 (S.len (S.R 141 x0)) ∧ (let S1 := S.wI (S.R 141 x0) (Int32.toNatClampNeg x3) (S.rI (S.R 73 x0) (Int32.toNatClampNeg ((x5 + 3) + x7)))
  (ox_has (S1.K x0) 141 = true ∧ (ox_has (S1.K x0) 73 = true ∧ (ox_rdI (S1.K (S1.R 73 x0)) = true ∧ vp_in ((x6 + 3) + x7) (S1.len (S1.R 73 x0)) ∧ (S1.K (S1.R 141 x0) = 15 ∧ vp_in (x3 + 1) (S1.len (S1.R 141 x0)) ∧ (let S2 := S1.wI (S1.R 141 x0) (Int32.toNatClampNeg (x3 + 1)) (S1.rI (S1.R 73 x0) (Int32.toNatClampNeg ((x6 + 3) + x7)))
  c_182_147 E x0 x1 x2 (x3 + 2) x4 x5 x6 (x7 + 1) S2 mr sr Q))))))))))))))))
set_option maxRecDepth 20000 in
set_option maxHeartbeats 4000000 in
theorem f_182_147 {E : ox_E} (hE : ox_mono E) {mr sr : Nat} {x0 : Nat} {x1 : Int32} {x2 : Int32} {x3 : Int32} {x4 : Int32} {x5 : Int32} {x6 : Int32} {x7 : Int32} {S : ox_St} {Q : ox_Q} (h : q_182_147 E x0 x1 x2 x3 x4 x5 x6 x7 S mr sr Q) : c_182_147 E x0 x1 x2 x3 x4 x5 x6 x7 S mr sr Q := ox_C_fold hE h
set_option maxRecDepth 20000 in
def q_182_113 (E : ox_E) (x0 : Nat) (x1 : Int32) (x2 : Int32) (x3 : Int32) (x4 : Int32) (x5 : Int32) (x6 : Int32) (y0 : Int32) (S : ox_St) (mr sr : Nat) (Q : ox_Q) : Prop :=
  ((y0 = 0 → (2 ≤ 2 ∧ S.K x0 = 14 ∧ 0 ≤ 8 ∧ ∃ mc1 mk2, mc1 ≤ mr ∧ mk2 ≤ sr ∧ E 133 [.inr (.inr (x0)), .inl (x5)] mc1 mk2 S (k_182_222 E x0 x1 x2 x3 x4 x5 x6 (mr - mc1) (sr - mk2) Q))) ∧ (¬ y0 = 0 → (ox_has (S.K x0) 73 = true ∧ (ox_rdI (S.K (S.R 73 x0)) = true ∧ vp_in (x5 + 2) (S.len (S.R 73 x0)) ∧ (ox_has (S.K x0) 73 = true ∧ (ox_rdI (S.K (S.R 73 x0)) = true ∧ vp_in (x6 + 2) (S.len (S.R 73 x0)) ∧ ((¬ (S.rI (S.R 73 x0) (Int32.toNatClampNeg (x5 + 2))) = (S.rI (S.R 73 x0) (Int32.toNatClampNeg (x6 + 2))) → c_182_147 E x0 x1 x2 x3 0 x5 x6 0 S mr sr Q) ∧ ((S.rI (S.R 73 x0) (Int32.toNatClampNeg (x5 + 2))) = (S.rI (S.R 73 x0) (Int32.toNatClampNeg (x6 + 2))) → c_182_147 E x0 x1 x2 x3 1 x5 x6 0 S mr sr Q))))))))
set_option maxRecDepth 20000 in
set_option maxHeartbeats 4000000 in
theorem f_182_113 {E : ox_E} (hE : ox_mono E) {mr sr : Nat} {x0 : Nat} {x1 : Int32} {x2 : Int32} {x3 : Int32} {x4 : Int32} {x5 : Int32} {x6 : Int32} {y0 : Int32} {S : ox_St} {Q : ox_Q} (h : q_182_113 E x0 x1 x2 x3 x4 x5 x6 y0 S mr sr Q) : k_182_113 E x0 x1 x2 x3 x4 x5 x6 mr sr Q (some (.inl (y0))) S := ox_C_fold hE h
set_option maxRecDepth 20000 in
def q_182_104 (E : ox_E) (x0 : Nat) (x1 : Int32) (x2 : Int32) (x3 : Int32) (x4 : Int32) (x5 : Int32) (x6 : Int32) (y0 : Int32) (S : ox_St) (mr sr : Nat) (Q : ox_Q) : Prop :=
  ((y0 = 0 → (2 ≤ 2 ∧ S.K x0 = 14 ∧ 0 ≤ 8 ∧ ∃ mc1 mk2, mc1 ≤ mr ∧ mk2 ≤ sr ∧ E 133 [.inr (.inr (x0)), .inl (x5)] mc1 mk2 S (k_182_222 E x0 x1 x2 x3 x4 x5 x6 (mr - mc1) (sr - mk2) Q))) ∧ (¬ y0 = 0 → (2 ≤ 2 ∧ S.K x0 = 14 ∧ 0 ≤ 8 ∧ ∃ mc3 mk4, mc3 ≤ mr ∧ mk4 ≤ sr ∧ E 134 [.inr (.inr (x0)), .inl (x6)] mc3 mk4 S (k_182_113 E x0 x1 x2 x3 x4 x5 x6 (mr - mc3) (sr - mk4) Q))))
set_option maxRecDepth 20000 in
set_option maxHeartbeats 4000000 in
theorem f_182_104 {E : ox_E} (hE : ox_mono E) {mr sr : Nat} {x0 : Nat} {x1 : Int32} {x2 : Int32} {x3 : Int32} {x4 : Int32} {x5 : Int32} {x6 : Int32} {y0 : Int32} {S : ox_St} {Q : ox_Q} (h : q_182_104 E x0 x1 x2 x3 x4 x5 x6 y0 S mr sr Q) : k_182_104 E x0 x1 x2 x3 x4 x5 x6 mr sr Q (some (.inl (y0))) S := ox_C_fold hE h
set_option maxRecDepth 20000 in
def q_182_85 (E : ox_E) (x0 : Nat) (x1 : Int32) (x2 : Int32) (x3 : Int32) (x4 : Int32) (x5 : Int32) (x6 : Int32) (y0 : Int32) (S : ox_St) (mr sr : Nat) (Q : ox_Q) : Prop :=
  ((¬ y0 = 0 → c_182_19 E x0 x1 x2 x3 0 S mr sr Q) ∧ (y0 = 0 → c_182_19 E x0 x1 x2 x3 1 S mr sr Q))
set_option maxRecDepth 20000 in
set_option maxHeartbeats 4000000 in
theorem f_182_85 {E : ox_E} (hE : ox_mono E) {mr sr : Nat} {x0 : Nat} {x1 : Int32} {x2 : Int32} {x3 : Int32} {x4 : Int32} {x5 : Int32} {x6 : Int32} {y0 : Int32} {S : ox_St} {Q : ox_Q} (h : q_182_85 E x0 x1 x2 x3 x4 x5 x6 y0 S mr sr Q) : k_182_85 E x0 x1 x2 x3 x4 x5 x6 mr sr Q (some (.inl (y0))) S := ox_C_fold hE h
set_option maxRecDepth 20000 in
def q_182_74 (E : ox_E) (x0 : Nat) (x1 : Int32) (x2 : Int32) (x3 : Int32) (x4 : Int32) (x5 : Int32) (x6 : Int32) (y0 : Int32) (S : ox_St) (mr sr : Nat) (Q : ox_Q) : Prop :=
  ((y0 = 0 → (2 ≤ 2 ∧ S.K x0 = 14 ∧ 0 ≤ 8 ∧ ∃ mc1 mk2, mc1 ≤ mr ∧ mk2 ≤ sr ∧ E 134 [.inr (.inr (x0)), .inl (x5)] mc1 mk2 S (k_182_104 E x0 x1 x2 x3 x4 x5 x6 (mr - mc1) (sr - mk2) Q))) ∧ (¬ y0 = 0 → (3 ≤ 3 ∧ S.K x0 = 14 ∧ 0 ≤ 8 ∧ ∃ mc3 mk4, mc3 ≤ mr ∧ mk4 ≤ sr ∧ E 142 [.inr (.inr (x0)), .inl (x5), .inl (x6)] mc3 mk4 S (k_182_85 E x0 x1 x2 x3 x4 x5 x6 (mr - mc3) (sr - mk4) Q))))
set_option maxRecDepth 20000 in
set_option maxHeartbeats 4000000 in
theorem f_182_74 {E : ox_E} (hE : ox_mono E) {mr sr : Nat} {x0 : Nat} {x1 : Int32} {x2 : Int32} {x3 : Int32} {x4 : Int32} {x5 : Int32} {x6 : Int32} {y0 : Int32} {S : ox_St} {Q : ox_Q} (h : q_182_74 E x0 x1 x2 x3 x4 x5 x6 y0 S mr sr Q) : k_182_74 E x0 x1 x2 x3 x4 x5 x6 mr sr Q (some (.inl (y0))) S := ox_C_fold hE h
set_option maxRecDepth 20000 in
def q_182_65 (E : ox_E) (x0 : Nat) (x1 : Int32) (x2 : Int32) (x3 : Int32) (x4 : Int32) (x5 : Int32) (x6 : Int32) (y0 : Int32) (S : ox_St) (mr sr : Nat) (Q : ox_Q) : Prop :=
  ((y0 = 0 → (2 ≤ 2 ∧ S.K x0 = 14 ∧ 0 ≤ 8 ∧ ∃ mc1 mk2, mc1 ≤ mr ∧ mk2 ≤ sr ∧ E 134 [.inr (.inr (x0)), .inl (x5)] mc1 mk2 S (k_182_104 E x0 x1 x2 x3 x4 x5 x6 (mr - mc1) (sr - mk2) Q))) ∧ (¬ y0 = 0 → (2 ≤ 2 ∧ S.K x0 = 14 ∧ 0 ≤ 8 ∧ ∃ mc3 mk4, mc3 ≤ mr ∧ mk4 ≤ sr ∧ E 135 [.inr (.inr (x0)), .inl (x6)] mc3 mk4 S (k_182_74 E x0 x1 x2 x3 x4 x5 x6 (mr - mc3) (sr - mk4) Q))))
set_option maxRecDepth 20000 in
set_option maxHeartbeats 4000000 in
theorem f_182_65 {E : ox_E} (hE : ox_mono E) {mr sr : Nat} {x0 : Nat} {x1 : Int32} {x2 : Int32} {x3 : Int32} {x4 : Int32} {x5 : Int32} {x6 : Int32} {y0 : Int32} {S : ox_St} {Q : ox_Q} (h : q_182_65 E x0 x1 x2 x3 x4 x5 x6 y0 S mr sr Q) : k_182_65 E x0 x1 x2 x3 x4 x5 x6 mr sr Q (some (.inl (y0))) S := ox_C_fold hE h
set_option maxRecDepth 20000 in
def q_182_19 (E : ox_E) (x0 : Nat) (x1 : Int32) (x2 : Int32) (x3 : Int32) (x4 : Int32) (S : ox_St) (mr sr : Nat) (Q : ox_Q) : Prop :=
  ((x3 ≤ 0 → ((x4 = 0 ∨ x4 = 1) ∧ Q (some (.inl x4)) S)) ∧ (¬ x3 ≤ 0 → ((x4 = 0 → ((x4 = 0 ∨ x4 = 1) ∧ Q (some (.inl x4)) S)) ∧ (¬ x4 = 0 → (ox_has (S.K x0) 141 = true ∧ (ox_rdI (S.K (S.R 141 x0)) = true ∧ vp_in (x3 + (-2)) (S.len (S.R 141 x0)) ∧ (let w1 : Int32 := S.rI (S.R 141 x0) (Int32.toNatClampNeg (x3 + (-2)))
  (ox_has (S.K x0) 141 = true ∧ (ox_rdI (S.K (S.R 141 x0)) = true ∧ vp_in ((x3 + (-2)) + 1) (S.len (S.R 141 x0)) ∧ (let w2 : Int32 := S.rI (S.R 141 x0) (Int32.toNatClampNeg ((x3 + (-2)) + 1))
  ((¬ w1 = w2 → (2 ≤ 2 ∧ S.K x0 = 14 ∧ 0 ≤ 8 ∧ ∃ mc3 mk4, mc3 ≤ mr ∧ mk4 ≤ sr ∧ E 135 [.inr (.inr (x0)), .inl (w1)] mc3 mk4 S (k_182_65 E x0 x1 x2 (x3 + (-2)) x4 w1 w2 (mr - mc3) (sr - mk4) Q))) ∧ (w1 = w2 → c_182_19 E x0 x1 x2 (x3 + (-2)) x4 S mr sr Q))))))))))))
set_option maxRecDepth 20000 in
set_option maxHeartbeats 4000000 in
theorem f_182_19 {E : ox_E} (hE : ox_mono E) {mr sr : Nat} {x0 : Nat} {x1 : Int32} {x2 : Int32} {x3 : Int32} {x4 : Int32} {S : ox_St} {Q : ox_Q} (h : q_182_19 E x0 x1 x2 x3 x4 S mr sr Q) : c_182_19 E x0 x1 x2 x3 x4 S mr sr Q := ox_C_fold hE h
set_option maxRecDepth 20000 in
def q_182 (E : ox_E) (x0 : Nat) (x1 : Int32) (x2 : Int32) (S : ox_St) (mr sr : Nat) (Q : ox_Q) : Prop :=
  (ox_has (S.K x0) 141 = true ∧ (S.K (S.R 141 x0) = 15 ∧ vp_in 0 (S.len (S.R 141 x0)) ∧ (let S1 := S.wI (S.R 141 x0) (Int32.toNatClampNeg 0) x1
  (ox_has (S1.K x0) 141 = true ∧ (S1.K (S1.R 141 x0) = 15 ∧ vp_in 1 (S1.len (S1.R 141 x0)) ∧ (let S2 := S1.wI (S1.R 141 x0) (Int32.toNatClampNeg 1) x2
  c_182_19 E x0 x1 x2 2 1 S2 mr sr Q))))))
set_option maxRecDepth 20000 in
set_option maxHeartbeats 4000000 in
theorem f_182 {sp : ox_E} (hsp : ox_mono sp) {d : Nat} {mr sr : Nat} {x0 : Nat} {x1 : Int32} {x2 : Int32} {S : ox_St} {Q : ox_Q} (h : q_182 (ox_M sp d) x0 x1 x2 S mr sr Q) : ox_M sp (d + 1) 182 [.inr (.inr (x0)), .inl (x1), .inl (x2)] mr sr S Q := Or.inr ⟨Nat.le_of_ble_eq_true rfl, ox_C_fold (ox_M_mono hsp d) h⟩
/-! OpcodeFramesModel.arithmetic(I)V -/
def k_183_4 (E : ox_E) (x0 : Nat) (x1 : Int32) (mr sr : Nat) (Q : ox_Q) : ox_Q := fun r_ T_ => ox_C E (ox_mi 183).2.2.2.1 (ox_mc 183) (ox_cut 183) Q 4 [some (.inr (.inr (x0))), some (.inl (x1)), none, none] (r_.toList ++ []) T_ mr sr
def k_183_9 (E : ox_E) (x0 : Nat) (x1 : Int32) (x2 : Int32) (mr sr : Nat) (Q : ox_Q) : ox_Q := fun r_ T_ => ox_C E (ox_mi 183).2.2.2.1 (ox_mc 183) (ox_cut 183) Q 9 [some (.inr (.inr (x0))), some (.inl (x1)), some (.inl (x2)), none] (r_.toList ++ []) T_ mr sr
def k_183_21 (E : ox_E) (x0 : Nat) (x1 : Int32) (x2 : Int32) (x3 : Int32) (mr sr : Nat) (Q : ox_Q) : ox_Q := fun r_ T_ => ox_C E (ox_mi 183).2.2.2.1 (ox_mc 183) (ox_cut 183) Q 21 [some (.inr (.inr (x0))), some (.inl (x1)), some (.inl (x2)), some (.inl (x3))] (r_.toList ++ []) T_ mr sr
def k_183_29 (E : ox_E) (x0 : Nat) (x1 : Int32) (x2 : Int32) (x3 : Int32) (mr sr : Nat) (Q : ox_Q) : ox_Q := fun r_ T_ => ox_C E (ox_mi 183).2.2.2.1 (ox_mc 183) (ox_cut 183) Q 29 [some (.inr (.inr (x0))), some (.inl (x1)), some (.inl (x2)), some (.inl (x3))] (r_.toList ++ []) T_ mr sr
def k_183_38 (E : ox_E) (x0 : Nat) (x1 : Int32) (x2 : Int32) (x3 : Int32) (mr sr : Nat) (Q : ox_Q) : ox_Q := fun r_ T_ => ox_C E (ox_mi 183).2.2.2.1 (ox_mc 183) (ox_cut 183) Q 38 [some (.inr (.inr (x0))), some (.inl (x1)), some (.inl (x2)), some (.inl (x3))] (r_.toList ++ []) T_ mr sr
def c_183_41 (E : ox_E) (x0 : Nat) (x1 : Int32) (x2 : Int32) (x3 : Int32) (S : ox_St) (mr sr : Nat) (Q : ox_Q) : Prop := ox_C E (ox_mi 183).2.2.2.1 (ox_mc 183) (ox_cut 183) Q 41 [some (.inr (.inr (x0))), some (.inl (x1)), some (.inl (x2)), some (.inl (x3))] [] S mr sr
def k_183_46 (E : ox_E) (x0 : Nat) (x1 : Int32) (x2 : Int32) (x3 : Int32) (mr sr : Nat) (Q : ox_Q) : ox_Q := fun r_ T_ => ox_C E (ox_mi 183).2.2.2.1 (ox_mc 183) (ox_cut 183) Q 46 [some (.inr (.inr (x0))), some (.inl (x1)), some (.inl (x2)), some (.inl (x3))] (r_.toList ++ []) T_ mr sr
def k_183_54 (E : ox_E) (x0 : Nat) (x1 : Int32) (x2 : Int32) (x3 : Int32) (mr sr : Nat) (Q : ox_Q) : ox_Q := fun r_ T_ => ox_C E (ox_mi 183).2.2.2.1 (ox_mc 183) (ox_cut 183) Q 54 [some (.inr (.inr (x0))), some (.inl (x1)), some (.inl (x2)), some (.inl (x3))] (r_.toList ++ []) T_ mr sr
def c_183_57 (E : ox_E) (x0 : Nat) (x1 : Int32) (x2 : Int32) (x3 : Int32) (S : ox_St) (mr sr : Nat) (Q : ox_Q) : Prop := ox_C E (ox_mi 183).2.2.2.1 (ox_mc 183) (ox_cut 183) Q 57 [some (.inr (.inr (x0))), some (.inl (x1)), some (.inl (x2)), some (.inl (x3))] [] S mr sr
def k_183_62 (E : ox_E) (x0 : Nat) (x1 : Int32) (x2 : Int32) (x3 : Int32) (mr sr : Nat) (Q : ox_Q) : ox_Q := fun r_ T_ => ox_C E (ox_mi 183).2.2.2.1 (ox_mc 183) (ox_cut 183) Q 62 [some (.inr (.inr (x0))), some (.inl (x1)), some (.inl (x2)), some (.inl (x3))] (r_.toList ++ []) T_ mr sr
def k_183_78 (E : ox_E) (x0 : Nat) (x1 : Int32) (x2 : Int32) (x3 : Int32) (y1 : Nat) (mr sr : Nat) (Q : ox_Q) : ox_Q := fun r_ T_ => ox_C E (ox_mi 183).2.2.2.1 (ox_mc 183) (ox_cut 183) Q 78 [some (.inr (.inr (x0))), some (.inl (x1)), some (.inl (x2)), some (.inl (x3))] (r_.toList ++ [.inr (.inr (y1))]) T_ mr sr
def k_183_81 (E : ox_E) (x0 : Nat) (x1 : Int32) (x2 : Int32) (x3 : Int32) (mr sr : Nat) (Q : ox_Q) : ox_Q := fun r_ T_ => ox_C E (ox_mi 183).2.2.2.1 (ox_mc 183) (ox_cut 183) Q 81 [some (.inr (.inr (x0))), some (.inl (x1)), some (.inl (x2)), some (.inl (x3))] (r_.toList ++ []) T_ mr sr
def c_183_96 (E : ox_E) (x0 : Nat) (x1 : Int32) (x2 : Int32) (x3 : Int32) (S : ox_St) (mr sr : Nat) (Q : ox_Q) : Prop := ox_C E (ox_mi 183).2.2.2.1 (ox_mc 183) (ox_cut 183) Q 96 [some (.inr (.inr (x0))), some (.inl (x1)), some (.inl (x2)), some (.inl (x3))] [] S mr sr
def c_183_111 (E : ox_E) (x0 : Nat) (x1 : Int32) (x2 : Int32) (x3 : Int32) (y0 : Int32) (y1 : Int32) (y2 : Int32) (y3 : Nat) (y4 : Nat) (S : ox_St) (mr sr : Nat) (Q : ox_Q) : Prop := ox_C E (ox_mi 183).2.2.2.1 (ox_mc 183) (ox_cut 183) Q 111 [some (.inr (.inr (x0))), some (.inl (x1)), some (.inl (x2)), some (.inl (x3))] [.inl (y0), .inl (y1), .inl (y2), .inr (.inr (y3)), .inr (.inr (y4))] S mr sr
def k_183_114 (E : ox_E) (x0 : Nat) (x1 : Int32) (x2 : Int32) (x3 : Int32) (y1 : Nat) (mr sr : Nat) (Q : ox_Q) : ox_Q := fun r_ T_ => ox_C E (ox_mi 183).2.2.2.1 (ox_mc 183) (ox_cut 183) Q 114 [some (.inr (.inr (x0))), some (.inl (x1)), some (.inl (x2)), some (.inl (x3))] (r_.toList ++ [.inr (.inr (y1))]) T_ mr sr
def k_183_117 (E : ox_E) (x0 : Nat) (x1 : Int32) (x2 : Int32) (x3 : Int32) (mr sr : Nat) (Q : ox_Q) : ox_Q := fun r_ T_ => ox_C E (ox_mi 183).2.2.2.1 (ox_mc 183) (ox_cut 183) Q 117 [some (.inr (.inr (x0))), some (.inl (x1)), some (.inl (x2)), some (.inl (x3))] (r_.toList ++ []) T_ mr sr
def k_183_125 (E : ox_E) (x0 : Nat) (x1 : Int32) (x2 : Int32) (x3 : Int32) (mr sr : Nat) (Q : ox_Q) : ox_Q := fun r_ T_ => ox_C E (ox_mi 183).2.2.2.1 (ox_mc 183) (ox_cut 183) Q 125 [some (.inr (.inr (x0))), some (.inl (x1)), some (.inl (x2)), some (.inl (x3))] (r_.toList ++ []) T_ mr sr
def k_183_133 (E : ox_E) (x0 : Nat) (x1 : Int32) (x2 : Int32) (x3 : Int32) (mr sr : Nat) (Q : ox_Q) : ox_Q := fun r_ T_ => ox_C E (ox_mi 183).2.2.2.1 (ox_mc 183) (ox_cut 183) Q 133 [some (.inr (.inr (x0))), some (.inl (x1)), some (.inl (x2)), some (.inl (x3))] (r_.toList ++ []) T_ mr sr
def c_183_151 (E : ox_E) (x0 : Nat) (x1 : Int32) (x2 : Int32) (x3 : Int32) (y0 : Int32) (y1 : Int32) (y2 : Int32) (y3 : Nat) (y4 : Nat) (S : ox_St) (mr sr : Nat) (Q : ox_Q) : Prop := ox_C E (ox_mi 183).2.2.2.1 (ox_mc 183) (ox_cut 183) Q 151 [some (.inr (.inr (x0))), some (.inl (x1)), some (.inl (x2)), some (.inl (x3))] [.inl (y0), .inl (y1), .inl (y2), .inr (.inr (y3)), .inr (.inr (y4))] S mr sr
def k_183_154 (E : ox_E) (x0 : Nat) (x1 : Int32) (x2 : Int32) (x3 : Int32) (y1 : Nat) (mr sr : Nat) (Q : ox_Q) : ox_Q := fun r_ T_ => ox_C E (ox_mi 183).2.2.2.1 (ox_mc 183) (ox_cut 183) Q 154 [some (.inr (.inr (x0))), some (.inl (x1)), some (.inl (x2)), some (.inl (x3))] (r_.toList ++ [.inr (.inr (y1))]) T_ mr sr
def k_183_157 (E : ox_E) (x0 : Nat) (x1 : Int32) (x2 : Int32) (x3 : Int32) (mr sr : Nat) (Q : ox_Q) : ox_Q := fun r_ T_ => ox_C E (ox_mi 183).2.2.2.1 (ox_mc 183) (ox_cut 183) Q 157 [some (.inr (.inr (x0))), some (.inl (x1)), some (.inl (x2)), some (.inl (x3))] (r_.toList ++ []) T_ mr sr
set_option maxRecDepth 20000 in
def q_183_157 (E : ox_E) (x0 : Nat) (x1 : Int32) (x2 : Int32) (x3 : Int32) (S : ox_St) (mr sr : Nat) (Q : ox_Q) : Prop :=
  ((ox_mi 183).2.2.2.1 = none ∧ Q none S)
set_option maxRecDepth 20000 in
set_option maxHeartbeats 4000000 in
theorem f_183_157 {E : ox_E} (hE : ox_mono E) {mr sr : Nat} {x0 : Nat} {x1 : Int32} {x2 : Int32} {x3 : Int32} {S : ox_St} {Q : ox_Q} (h : q_183_157 E x0 x1 x2 x3 S mr sr Q) : k_183_157 E x0 x1 x2 x3 mr sr Q none S := ox_C_fold hE h
set_option maxRecDepth 20000 in
def q_183_154 (E : ox_E) (x0 : Nat) (x1 : Int32) (x2 : Int32) (x3 : Int32) (y0 : Int32) (y1 : Nat) (S : ox_St) (mr sr : Nat) (Q : ox_Q) : Prop :=
  (2 ≤ 2 ∧ S.K y1 = 14 ∧ 0 ≤ 8 ∧ ∃ mc1 mk2, mc1 ≤ mr ∧ mk2 ≤ sr ∧ E 178 [.inr (.inr (y1)), .inl (y0)] mc1 mk2 S (k_183_157 E x0 x1 x2 x3 (mr - mc1) (sr - mk2) Q))
set_option maxRecDepth 20000 in
set_option maxHeartbeats 4000000 in
theorem f_183_154 {E : ox_E} (hE : ox_mono E) {mr sr : Nat} {x0 : Nat} {x1 : Int32} {x2 : Int32} {x3 : Int32} {y0 : Int32} {y1 : Nat} {S : ox_St} {Q : ox_Q} (h : q_183_154 E x0 x1 x2 x3 y0 y1 S mr sr Q) : k_183_154 E x0 x1 x2 x3 y1 mr sr Q (some (.inl (y0))) S := ox_C_fold hE h
set_option maxRecDepth 20000 in
def q_183_151 (E : ox_E) (x0 : Nat) (x1 : Int32) (x2 : Int32) (x3 : Int32) (y0 : Int32) (y1 : Int32) (y2 : Int32) (y3 : Nat) (y4 : Nat) (S : ox_St) (mr sr : Nat) (Q : ox_Q) : Prop :=
  (4 ≤ 5 ∧ S.K y3 = 14 ∧ 1 ≤ 8 ∧ ∃ mc1 mk2, mc1 ≤ mr ∧ mk2 ≤ sr ∧ E 147 [.inr (.inr (y3)), .inl (y2), .inl (y1), .inl (y0)] mc1 mk2 S (k_183_154 E x0 x1 x2 x3 y4 (mr - mc1) (sr - mk2) Q))
set_option maxRecDepth 20000 in
set_option maxHeartbeats 4000000 in
theorem f_183_151 {E : ox_E} (hE : ox_mono E) {mr sr : Nat} {x0 : Nat} {x1 : Int32} {x2 : Int32} {x3 : Int32} {y0 : Int32} {y1 : Int32} {y2 : Int32} {y3 : Nat} {y4 : Nat} {S : ox_St} {Q : ox_Q} (h : q_183_151 E x0 x1 x2 x3 y0 y1 y2 y3 y4 S mr sr Q) : c_183_151 E x0 x1 x2 x3 y0 y1 y2 y3 y4 S mr sr Q := ox_C_fold hE h
set_option maxRecDepth 20000 in
def q_183_133 (E : ox_E) (x0 : Nat) (x1 : Int32) (x2 : Int32) (x3 : Int32) (S : ox_St) (mr sr : Nat) (Q : ox_Q) : Prop :=
  k_183_157 E x0 x1 x2 x3 mr sr Q none S
set_option maxRecDepth 20000 in
set_option maxHeartbeats 4000000 in
theorem f_183_133 {E : ox_E} (hE : ox_mono E) {mr sr : Nat} {x0 : Nat} {x1 : Int32} {x2 : Int32} {x3 : Int32} {S : ox_St} {Q : ox_Q} (h : q_183_133 E x0 x1 x2 x3 S mr sr Q) : k_183_133 E x0 x1 x2 x3 mr sr Q none S := ox_C_fold hE h
set_option maxRecDepth 20000 in
def q_183_125 (E : ox_E) (x0 : Nat) (x1 : Int32) (x2 : Int32) (x3 : Int32) (y0 : Int32) (S : ox_St) (mr sr : Nat) (Q : ox_Q) : Prop :=
  ((y0 = 0 → ((¬ x1 = 22 → c_183_151 E x0 x1 x2 x3 0 x2 x3 x0 x0 S mr sr Q) ∧ (x1 = 22 → c_183_151 E x0 x1 x2 x3 1 x2 x3 x0 x0 S mr sr Q))) ∧ (¬ y0 = 0 → (2 ≤ 2 ∧ S.K x0 = 14 ∧ 0 ≤ 8 ∧ ∃ mc1 mk2, mc1 ≤ mr ∧ mk2 ≤ sr ∧ E 177 [.inr (.inr (x0)), .inl (1)] mc1 mk2 S (k_183_133 E x0 x1 x2 x3 (mr - mc1) (sr - mk2) Q))))
set_option maxRecDepth 20000 in
set_option maxHeartbeats 4000000 in
theorem f_183_125 {E : ox_E} (hE : ox_mono E) {mr sr : Nat} {x0 : Nat} {x1 : Int32} {x2 : Int32} {x3 : Int32} {y0 : Int32} {S : ox_St} {Q : ox_Q} (h : q_183_125 E x0 x1 x2 x3 y0 S mr sr Q) : k_183_125 E x0 x1 x2 x3 mr sr Q (some (.inl (y0))) S := ox_C_fold hE h
set_option maxRecDepth 20000 in
def q_183_117 (E : ox_E) (x0 : Nat) (x1 : Int32) (x2 : Int32) (x3 : Int32) (S : ox_St) (mr sr : Nat) (Q : ox_Q) : Prop :=
  k_183_157 E x0 x1 x2 x3 mr sr Q none S
set_option maxRecDepth 20000 in
set_option maxHeartbeats 4000000 in
theorem f_183_117 {E : ox_E} (hE : ox_mono E) {mr sr : Nat} {x0 : Nat} {x1 : Int32} {x2 : Int32} {x3 : Int32} {S : ox_St} {Q : ox_Q} (h : q_183_117 E x0 x1 x2 x3 S mr sr Q) : k_183_117 E x0 x1 x2 x3 mr sr Q none S := ox_C_fold hE h
set_option maxRecDepth 20000 in
def q_183_114 (E : ox_E) (x0 : Nat) (x1 : Int32) (x2 : Int32) (x3 : Int32) (y0 : Int32) (y1 : Nat) (S : ox_St) (mr sr : Nat) (Q : ox_Q) : Prop :=
  (2 ≤ 2 ∧ S.K y1 = 14 ∧ 0 ≤ 8 ∧ ∃ mc1 mk2, mc1 ≤ mr ∧ mk2 ≤ sr ∧ E 178 [.inr (.inr (y1)), .inl (y0)] mc1 mk2 S (k_183_117 E x0 x1 x2 x3 (mr - mc1) (sr - mk2) Q))
set_option maxRecDepth 20000 in
set_option maxHeartbeats 4000000 in
theorem f_183_114 {E : ox_E} (hE : ox_mono E) {mr sr : Nat} {x0 : Nat} {x1 : Int32} {x2 : Int32} {x3 : Int32} {y0 : Int32} {y1 : Nat} {S : ox_St} {Q : ox_Q} (h : q_183_114 E x0 x1 x2 x3 y0 y1 S mr sr Q) : k_183_114 E x0 x1 x2 x3 y1 mr sr Q (some (.inl (y0))) S := ox_C_fold hE h
set_option maxRecDepth 20000 in
def q_183_111 (E : ox_E) (x0 : Nat) (x1 : Int32) (x2 : Int32) (x3 : Int32) (y0 : Int32) (y1 : Int32) (y2 : Int32) (y3 : Nat) (y4 : Nat) (S : ox_St) (mr sr : Nat) (Q : ox_Q) : Prop :=
  (4 ≤ 5 ∧ S.K y3 = 14 ∧ 1 ≤ 8 ∧ ∃ mc1 mk2, mc1 ≤ mr ∧ mk2 ≤ sr ∧ E 144 [.inr (.inr (y3)), .inl (y2), .inl (y1), .inl (y0)] mc1 mk2 S (k_183_114 E x0 x1 x2 x3 y4 (mr - mc1) (sr - mk2) Q))
set_option maxRecDepth 20000 in
set_option maxHeartbeats 4000000 in
theorem f_183_111 {E : ox_E} (hE : ox_mono E) {mr sr : Nat} {x0 : Nat} {x1 : Int32} {x2 : Int32} {x3 : Int32} {y0 : Int32} {y1 : Int32} {y2 : Int32} {y3 : Nat} {y4 : Nat} {S : ox_St} {Q : ox_Q} (h : q_183_111 E x0 x1 x2 x3 y0 y1 y2 y3 y4 S mr sr Q) : c_183_111 E x0 x1 x2 x3 y0 y1 y2 y3 y4 S mr sr Q := ox_C_fold hE h
set_option maxRecDepth 20000 in
def q_183_96 (E : ox_E) (x0 : Nat) (x1 : Int32) (x2 : Int32) (x3 : Int32) (S : ox_St) (mr sr : Nat) (Q : ox_Q) : Prop :=
  ((¬ x1 = 24 → c_183_111 E x0 x1 x2 x3 0 x2 x3 x0 x0 S mr sr Q) ∧ (x1 = 24 → c_183_111 E x0 x1 x2 x3 1 x2 x3 x0 x0 S mr sr Q))
set_option maxRecDepth 20000 in
set_option maxHeartbeats 4000000 in
theorem f_183_96 {E : ox_E} (hE : ox_mono E) {mr sr : Nat} {x0 : Nat} {x1 : Int32} {x2 : Int32} {x3 : Int32} {S : ox_St} {Q : ox_Q} (h : q_183_96 E x0 x1 x2 x3 S mr sr Q) : c_183_96 E x0 x1 x2 x3 S mr sr Q := ox_C_fold hE h
set_option maxRecDepth 20000 in
def q_183_81 (E : ox_E) (x0 : Nat) (x1 : Int32) (x2 : Int32) (x3 : Int32) (S : ox_St) (mr sr : Nat) (Q : ox_Q) : Prop :=
  k_183_157 E x0 x1 x2 x3 mr sr Q none S
set_option maxRecDepth 20000 in
set_option maxHeartbeats 4000000 in
theorem f_183_81 {E : ox_E} (hE : ox_mono E) {mr sr : Nat} {x0 : Nat} {x1 : Int32} {x2 : Int32} {x3 : Int32} {S : ox_St} {Q : ox_Q} (h : q_183_81 E x0 x1 x2 x3 S mr sr Q) : k_183_81 E x0 x1 x2 x3 mr sr Q none S := ox_C_fold hE h
set_option maxRecDepth 20000 in
def q_183_78 (E : ox_E) (x0 : Nat) (x1 : Int32) (x2 : Int32) (x3 : Int32) (y0 : Int32) (y1 : Nat) (S : ox_St) (mr sr : Nat) (Q : ox_Q) : Prop :=
  (2 ≤ 2 ∧ S.K y1 = 14 ∧ 0 ≤ 8 ∧ ∃ mc1 mk2, mc1 ≤ mr ∧ mk2 ≤ sr ∧ E 178 [.inr (.inr (y1)), .inl (y0)] mc1 mk2 S (k_183_81 E x0 x1 x2 x3 (mr - mc1) (sr - mk2) Q))
set_option maxRecDepth 20000 in
set_option maxHeartbeats 4000000 in
theorem f_183_78 {E : ox_E} (hE : ox_mono E) {mr sr : Nat} {x0 : Nat} {x1 : Int32} {x2 : Int32} {x3 : Int32} {y0 : Int32} {y1 : Nat} {S : ox_St} {Q : ox_Q} (h : q_183_78 E x0 x1 x2 x3 y0 y1 S mr sr Q) : k_183_78 E x0 x1 x2 x3 y1 mr sr Q (some (.inl (y0))) S := ox_C_fold hE h
set_option maxRecDepth 20000 in
def q_183_62 (E : ox_E) (x0 : Nat) (x1 : Int32) (x2 : Int32) (x3 : Int32) (S : ox_St) (mr sr : Nat) (Q : ox_Q) : Prop :=
  k_183_157 E x0 x1 x2 x3 mr sr Q none S
set_option maxRecDepth 20000 in
set_option maxHeartbeats 4000000 in
theorem f_183_62 {E : ox_E} (hE : ox_mono E) {mr sr : Nat} {x0 : Nat} {x1 : Int32} {x2 : Int32} {x3 : Int32} {S : ox_St} {Q : ox_Q} (h : q_183_62 E x0 x1 x2 x3 S mr sr Q) : k_183_62 E x0 x1 x2 x3 mr sr Q none S := ox_C_fold hE h
set_option maxRecDepth 20000 in
def q_183_57 (E : ox_E) (x0 : Nat) (x1 : Int32) (x2 : Int32) (x3 : Int32) (S : ox_St) (mr sr : Nat) (Q : ox_Q) : Prop :=
  (2 ≤ 2 ∧ S.K x0 = 14 ∧ 0 ≤ 8 ∧ ∃ mc1 mk2, mc1 ≤ mr ∧ mk2 ≤ sr ∧ E 177 [.inr (.inr (x0)), .inl (0)] mc1 mk2 S (k_183_62 E x0 x1 x2 x3 (mr - mc1) (sr - mk2) Q))
set_option maxRecDepth 20000 in
set_option maxHeartbeats 4000000 in
theorem f_183_57 {E : ox_E} (hE : ox_mono E) {mr sr : Nat} {x0 : Nat} {x1 : Int32} {x2 : Int32} {x3 : Int32} {S : ox_St} {Q : ox_Q} (h : q_183_57 E x0 x1 x2 x3 S mr sr Q) : c_183_57 E x0 x1 x2 x3 S mr sr Q := ox_C_fold hE h
set_option maxRecDepth 20000 in
def q_183_54 (E : ox_E) (x0 : Nat) (x1 : Int32) (x2 : Int32) (x3 : Int32) (y0 : Int32) (S : ox_St) (mr sr : Nat) (Q : ox_Q) : Prop :=
  ((¬ y0 = 0 → ((¬ x1 = 20 → ((x1 = 23 → c_183_96 E x0 x1 x2 x3 S mr sr Q) ∧ (¬ x1 = 23 → ((¬ x1 = 24 → (2 ≤ 2 ∧ S.K x0 = 14 ∧ 0 ≤ 8 ∧ ∃ mc1 mk2, mc1 ≤ mr ∧ mk2 ≤ sr ∧ E 181 [.inr (.inr (x0)), .inl (x2)] mc1 mk2 S (k_183_125 E x0 x1 x2 x3 (mr - mc1) (sr - mk2) Q))) ∧ (x1 = 24 → c_183_96 E x0 x1 x2 x3 S mr sr Q))))) ∧ (x1 = 20 → (3 ≤ 4 ∧ S.K x0 = 14 ∧ 1 ≤ 8 ∧ ∃ mc3 mk4, mc3 ≤ mr ∧ mk4 ≤ sr ∧ E 145 [.inr (.inr (x0)), .inl (x3), .inl (x2)] mc3 mk4 S (k_183_78 E x0 x1 x2 x3 x0 (mr - mc3) (sr - mk4) Q))))) ∧ (y0 = 0 → c_183_57 E x0 x1 x2 x3 S mr sr Q))
set_option maxRecDepth 20000 in
set_option maxHeartbeats 4000000 in
theorem f_183_54 {E : ox_E} (hE : ox_mono E) {mr sr : Nat} {x0 : Nat} {x1 : Int32} {x2 : Int32} {x3 : Int32} {y0 : Int32} {S : ox_St} {Q : ox_Q} (h : q_183_54 E x0 x1 x2 x3 y0 S mr sr Q) : k_183_54 E x0 x1 x2 x3 mr sr Q (some (.inl (y0))) S := ox_C_fold hE h
set_option maxRecDepth 20000 in
def q_183_46 (E : ox_E) (x0 : Nat) (x1 : Int32) (x2 : Int32) (x3 : Int32) (y0 : Int32) (S : ox_St) (mr sr : Nat) (Q : ox_Q) : Prop :=
  ((y0 = 0 → c_183_57 E x0 x1 x2 x3 S mr sr Q) ∧ (¬ y0 = 0 → (2 ≤ 2 ∧ S.K x0 = 14 ∧ 0 ≤ 8 ∧ ∃ mc1 mk2, mc1 ≤ mr ∧ mk2 ≤ sr ∧ E 135 [.inr (.inr (x0)), .inl (x2)] mc1 mk2 S (k_183_54 E x0 x1 x2 x3 (mr - mc1) (sr - mk2) Q))))
set_option maxRecDepth 20000 in
set_option maxHeartbeats 4000000 in
theorem f_183_46 {E : ox_E} (hE : ox_mono E) {mr sr : Nat} {x0 : Nat} {x1 : Int32} {x2 : Int32} {x3 : Int32} {y0 : Int32} {S : ox_St} {Q : ox_Q} (h : q_183_46 E x0 x1 x2 x3 y0 S mr sr Q) : k_183_46 E x0 x1 x2 x3 mr sr Q (some (.inl (y0))) S := ox_C_fold hE h
set_option maxRecDepth 20000 in
def q_183_41 (E : ox_E) (x0 : Nat) (x1 : Int32) (x2 : Int32) (x3 : Int32) (S : ox_St) (mr sr : Nat) (Q : ox_Q) : Prop :=
  (2 ≤ 2 ∧ S.K x0 = 14 ∧ 0 ≤ 8 ∧ ∃ mc1 mk2, mc1 ≤ mr ∧ mk2 ≤ sr ∧ E 135 [.inr (.inr (x0)), .inl (x3)] mc1 mk2 S (k_183_46 E x0 x1 x2 x3 (mr - mc1) (sr - mk2) Q))
set_option maxRecDepth 20000 in
set_option maxHeartbeats 4000000 in
theorem f_183_41 {E : ox_E} (hE : ox_mono E) {mr sr : Nat} {x0 : Nat} {x1 : Int32} {x2 : Int32} {x3 : Int32} {S : ox_St} {Q : ox_Q} (h : q_183_41 E x0 x1 x2 x3 S mr sr Q) : c_183_41 E x0 x1 x2 x3 S mr sr Q := ox_C_fold hE h
set_option maxRecDepth 20000 in
def q_183_38 (E : ox_E) (x0 : Nat) (x1 : Int32) (x2 : Int32) (x3 : Int32) (S : ox_St) (mr sr : Nat) (Q : ox_Q) : Prop :=
  k_183_157 E x0 x1 x2 x3 mr sr Q none S
set_option maxRecDepth 20000 in
set_option maxHeartbeats 4000000 in
theorem f_183_38 {E : ox_E} (hE : ox_mono E) {mr sr : Nat} {x0 : Nat} {x1 : Int32} {x2 : Int32} {x3 : Int32} {S : ox_St} {Q : ox_Q} (h : q_183_38 E x0 x1 x2 x3 S mr sr Q) : k_183_38 E x0 x1 x2 x3 mr sr Q none S := ox_C_fold hE h
set_option maxRecDepth 20000 in
def q_183_29 (E : ox_E) (x0 : Nat) (x1 : Int32) (x2 : Int32) (x3 : Int32) (y0 : Int32) (S : ox_St) (mr sr : Nat) (Q : ox_Q) : Prop :=
  ((y0 = 0 → c_183_41 E x0 x1 x2 x3 S mr sr Q) ∧ (¬ y0 = 0 → (3 ≤ 3 ∧ S.K x0 = 14 ∧ 0 ≤ 8 ∧ ∃ mc1 mk2, mc1 ≤ mr ∧ mk2 ≤ sr ∧ E 184 [.inr (.inr (x0)), .inl (x3), .inl (x2)] mc1 mk2 S (k_183_38 E x0 x1 x2 x3 (mr - mc1) (sr - mk2) Q))))
set_option maxRecDepth 20000 in
set_option maxHeartbeats 4000000 in
theorem f_183_29 {E : ox_E} (hE : ox_mono E) {mr sr : Nat} {x0 : Nat} {x1 : Int32} {x2 : Int32} {x3 : Int32} {y0 : Int32} {S : ox_St} {Q : ox_Q} (h : q_183_29 E x0 x1 x2 x3 y0 S mr sr Q) : k_183_29 E x0 x1 x2 x3 mr sr Q (some (.inl (y0))) S := ox_C_fold hE h
set_option maxRecDepth 20000 in
def q_183_21 (E : ox_E) (x0 : Nat) (x1 : Int32) (x2 : Int32) (x3 : Int32) (y0 : Int32) (S : ox_St) (mr sr : Nat) (Q : ox_Q) : Prop :=
  ((y0 = 0 → c_183_41 E x0 x1 x2 x3 S mr sr Q) ∧ (¬ y0 = 0 → (2 ≤ 2 ∧ S.K x0 = 14 ∧ 0 ≤ 8 ∧ ∃ mc1 mk2, mc1 ≤ mr ∧ mk2 ≤ sr ∧ E 134 [.inr (.inr (x0)), .inl (x2)] mc1 mk2 S (k_183_29 E x0 x1 x2 x3 (mr - mc1) (sr - mk2) Q))))
set_option maxRecDepth 20000 in
set_option maxHeartbeats 4000000 in
theorem f_183_21 {E : ox_E} (hE : ox_mono E) {mr sr : Nat} {x0 : Nat} {x1 : Int32} {x2 : Int32} {x3 : Int32} {y0 : Int32} {S : ox_St} {Q : ox_Q} (h : q_183_21 E x0 x1 x2 x3 y0 S mr sr Q) : k_183_21 E x0 x1 x2 x3 mr sr Q (some (.inl (y0))) S := ox_C_fold hE h
set_option maxRecDepth 20000 in
def q_183_9 (E : ox_E) (x0 : Nat) (x1 : Int32) (x2 : Int32) (y0 : Int32) (S : ox_St) (mr sr : Nat) (Q : ox_Q) : Prop :=
  ((¬ x1 = 23 → c_183_41 E x0 x1 x2 y0 S mr sr Q) ∧ (x1 = 23 → (2 ≤ 2 ∧ S.K x0 = 14 ∧ 0 ≤ 8 ∧ ∃ mc1 mk2, mc1 ≤ mr ∧ mk2 ≤ sr ∧ E 134 [.inr (.inr (x0)), .inl (y0)] mc1 mk2 S (k_183_21 E x0 x1 x2 y0 (mr - mc1) (sr - mk2) Q))))
set_option maxRecDepth 20000 in
set_option maxHeartbeats 4000000 in
theorem f_183_9 {E : ox_E} (hE : ox_mono E) {mr sr : Nat} {x0 : Nat} {x1 : Int32} {x2 : Int32} {y0 : Int32} {S : ox_St} {Q : ox_Q} (h : q_183_9 E x0 x1 x2 y0 S mr sr Q) : k_183_9 E x0 x1 x2 mr sr Q (some (.inl (y0))) S := ox_C_fold hE h
set_option maxRecDepth 20000 in
def q_183_4 (E : ox_E) (x0 : Nat) (x1 : Int32) (y0 : Int32) (S : ox_St) (mr sr : Nat) (Q : ox_Q) : Prop :=
  (1 ≤ 1 ∧ S.K x0 = 14 ∧ 0 ≤ 8 ∧ ∃ mc1 mk2, mc1 ≤ mr ∧ mk2 ≤ sr ∧ E 175 [.inr (.inr (x0))] mc1 mk2 S (k_183_9 E x0 x1 y0 (mr - mc1) (sr - mk2) Q))
set_option maxRecDepth 20000 in
set_option maxHeartbeats 4000000 in
theorem f_183_4 {E : ox_E} (hE : ox_mono E) {mr sr : Nat} {x0 : Nat} {x1 : Int32} {y0 : Int32} {S : ox_St} {Q : ox_Q} (h : q_183_4 E x0 x1 y0 S mr sr Q) : k_183_4 E x0 x1 mr sr Q (some (.inl (y0))) S := ox_C_fold hE h
set_option maxRecDepth 20000 in
def q_183 (E : ox_E) (x0 : Nat) (x1 : Int32) (S : ox_St) (mr sr : Nat) (Q : ox_Q) : Prop :=
  (1 ≤ 1 ∧ S.K x0 = 14 ∧ 0 ≤ 8 ∧ ∃ mc1 mk2, mc1 ≤ mr ∧ mk2 ≤ sr ∧ E 175 [.inr (.inr (x0))] mc1 mk2 S (k_183_4 E x0 x1 (mr - mc1) (sr - mk2) Q))
set_option maxRecDepth 20000 in
set_option maxHeartbeats 4000000 in
theorem f_183 {sp : ox_E} (hsp : ox_mono sp) {d : Nat} {mr sr : Nat} {x0 : Nat} {x1 : Int32} {S : ox_St} {Q : ox_Q} (h : q_183 (ox_M sp d) x0 x1 S mr sr Q) : ox_M sp (d + 1) 183 [.inr (.inr (x0)), .inl (x1)] mr sr S Q := Or.inr ⟨Nat.le_of_ble_eq_true rfl, ox_C_fold (ox_M_mono hsp d) h⟩
/-! OpcodeFramesModel.join(II)V -/
def k_184_34 (E : ox_E) (x0 : Nat) (x1 : Int32) (x2 : Int32) (x3 : Int32) (x4 : Int32) (mr sr : Nat) (Q : ox_Q) : ox_Q := fun r_ T_ => ox_C E (ox_mi 184).2.2.2.1 (ox_mc 184) (ox_cut 184) Q 34 [some (.inr (.inr (x0))), some (.inl (x1)), some (.inl (x2)), some (.inl (x3)), some (.inl (x4)), none] (r_.toList ++ []) T_ mr sr
def c_184_38 (E : ox_E) (x0 : Nat) (x1 : Int32) (x2 : Int32) (x3 : Int32) (x4 : Int32) (x5 : Int32) (S : ox_St) (mr sr : Nat) (Q : ox_Q) : Prop := ox_C E (ox_mi 184).2.2.2.1 (ox_mc 184) (ox_cut 184) Q 38 [some (.inr (.inr (x0))), some (.inl (x1)), some (.inl (x2)), some (.inl (x3)), some (.inl (x4)), some (.inl (x5))] [] S mr sr
def k_184_103 (E : ox_E) (x0 : Nat) (x1 : Int32) (x2 : Int32) (x3 : Int32) (x4 : Int32) (x5 : Int32) (y1 : Nat) (mr sr : Nat) (Q : ox_Q) : ox_Q := fun r_ T_ => ox_C E (ox_mi 184).2.2.2.1 (ox_mc 184) (ox_cut 184) Q 103 [some (.inr (.inr (x0))), some (.inl (x1)), some (.inl (x2)), some (.inl (x3)), some (.inl (x4)), some (.inl (x5))] (r_.toList ++ [.inr (.inr (y1))]) T_ mr sr
def k_184_106 (E : ox_E) (x0 : Nat) (x1 : Int32) (x2 : Int32) (x3 : Int32) (x4 : Int32) (x5 : Int32) (mr sr : Nat) (Q : ox_Q) : ox_Q := fun r_ T_ => ox_C E (ox_mi 184).2.2.2.1 (ox_mc 184) (ox_cut 184) Q 106 [some (.inr (.inr (x0))), some (.inl (x1)), some (.inl (x2)), some (.inl (x3)), some (.inl (x4)), some (.inl (x5))] (r_.toList ++ []) T_ mr sr
set_option maxRecDepth 20000 in
def q_184_106 (E : ox_E) (x0 : Nat) (x1 : Int32) (x2 : Int32) (x3 : Int32) (x4 : Int32) (x5 : Int32) (S : ox_St) (mr sr : Nat) (Q : ox_Q) : Prop :=
  ((ox_mi 184).2.2.2.1 = none ∧ Q none S)
set_option maxRecDepth 20000 in
set_option maxHeartbeats 4000000 in
theorem f_184_106 {E : ox_E} (hE : ox_mono E) {mr sr : Nat} {x0 : Nat} {x1 : Int32} {x2 : Int32} {x3 : Int32} {x4 : Int32} {x5 : Int32} {S : ox_St} {Q : ox_Q} (h : q_184_106 E x0 x1 x2 x3 x4 x5 S mr sr Q) : k_184_106 E x0 x1 x2 x3 x4 x5 mr sr Q none S := ox_C_fold hE h
set_option maxRecDepth 20000 in
def q_184_103 (E : ox_E) (x0 : Nat) (x1 : Int32) (x2 : Int32) (x3 : Int32) (x4 : Int32) (x5 : Int32) (y0 : Int32) (y1 : Nat) (S : ox_St) (mr sr : Nat) (Q : ox_Q) : Prop :=
  (2 ≤ 2 ∧ S.K y1 = 14 ∧ 0 ≤ 8 ∧ ∃ mc1 mk2, mc1 ≤ mr ∧ mk2 ≤ sr ∧ E 174 [.inr (.inr (y1)), .inl (y0)] mc1 mk2 S (k_184_106 E x0 x1 x2 x3 x4 x5 (mr - mc1) (sr - mk2) Q))
set_option maxRecDepth 20000 in
set_option maxHeartbeats 4000000 in
theorem f_184_103 {E : ox_E} (hE : ox_mono E) {mr sr : Nat} {x0 : Nat} {x1 : Int32} {x2 : Int32} {x3 : Int32} {x4 : Int32} {x5 : Int32} {y0 : Int32} {y1 : Nat} {S : ox_St} {Q : ox_Q} (h : q_184_103 E x0 x1 x2 x3 x4 x5 y0 y1 S mr sr Q) : k_184_103 E x0 x1 x2 x3 x4 x5 y1 mr sr Q (some (.inl (y0))) S := ox_C_fold hE h
set_option maxRecDepth 20000 in
def q_184_38 (E : ox_E) (x0 : Nat) (x1 : Int32) (x2 : Int32) (x3 : Int32) (x4 : Int32) (x5 : Int32) (S : ox_St) (mr sr : Nat) (Q : ox_Q) : Prop :=
  (((x3 + x4) ≤ x5 → (3 ≤ 4 ∧ S.K x0 = 14 ∧ 1 ≤ 8 ∧ ∃ mc1 mk2, mc1 ≤ mr ∧ mk2 ≤ sr ∧ E 157 [.inr (.inr (x0)), .inl (x3 + x4), .inl (0)] mc1 mk2 S (k_184_103 E x0 x1 x2 x3 x4 x5 x0 (mr - mc1) (sr - mk2) Q))) ∧ (¬ (x3 + x4) ≤ x5 → (ox_has (S.K x0) 130 = true ∧ ((x3 ≤ x5 → (ox_has (S.K x0) 73 = true ∧ (ox_rdI (S.K (S.R 73 x0)) = true ∧ vp_in (((x2 + 3) + x5) - x3) (S.len (S.R 73 x0)) ∧ (S.K (S.R 130 x0) = 15 ∧ vp_in x5 (S.len (S.R 130 x0)) ∧ (let S3 := S.wI (S.R 130 x0) (Int32.toNatClampNeg x5) (S.rI (S.R 73 x0) (Int32.toNatClampNeg (((x2 + 3) + x5) - x3)))
  c_184_38 E x0 x1 x2 x3 x4 (x5 + 1) S3 mr sr Q))))) ∧ (¬ x3 ≤ x5 → (ox_has (S.K x0) 73 = true ∧ (ox_rdI (S.K (S.R 73 x0)) = true ∧ vp_in ((x1 + 3) + x5) (S.len (S.R 73 x0)) ∧ (S.K (S.R 130 x0) = 15 ∧ vp_in x5 (S.len (S.R 130 x0)) ∧ (let S4 := S.wI (S.R 130 x0) (Int32.toNatClampNeg x5) (S.rI (S.R 73 x0) (Int32.toNatClampNeg ((x1 + 3) + x5)))
  c_184_38 E x0 x1 x2 x3 x4 (x5 + 1) S4 mr sr Q)))))))))
set_option maxRecDepth 20000 in
set_option maxHeartbeats 4000000 in
theorem f_184_38 {E : ox_E} (hE : ox_mono E) {mr sr : Nat} {x0 : Nat} {x1 : Int32} {x2 : Int32} {x3 : Int32} {x4 : Int32} {x5 : Int32} {S : ox_St} {Q : ox_Q} (h : q_184_38 E x0 x1 x2 x3 x4 x5 S mr sr Q) : c_184_38 E x0 x1 x2 x3 x4 x5 S mr sr Q := ox_C_fold hE h
set_option maxRecDepth 20000 in
def q_184_34 (E : ox_E) (x0 : Nat) (x1 : Int32) (x2 : Int32) (x3 : Int32) (x4 : Int32) (S : ox_St) (mr sr : Nat) (Q : ox_Q) : Prop :=
  ((ox_mi 184).2.2.2.1 = none ∧ Q none S)
set_option maxRecDepth 20000 in
set_option maxHeartbeats 4000000 in
theorem f_184_34 {E : ox_E} (hE : ox_mono E) {mr sr : Nat} {x0 : Nat} {x1 : Int32} {x2 : Int32} {x3 : Int32} {x4 : Int32} {S : ox_St} {Q : ox_Q} (h : q_184_34 E x0 x1 x2 x3 x4 S mr sr Q) : k_184_34 E x0 x1 x2 x3 x4 mr sr Q none S := ox_C_fold hE h
set_option maxRecDepth 20000 in
def q_184 (E : ox_E) (x0 : Nat) (x1 : Int32) (x2 : Int32) (S : ox_St) (mr sr : Nat) (Q : ox_Q) : Prop :=
  (ox_has (S.K x0) 73 = true ∧ (ox_rdI (S.K (S.R 73 x0)) = true ∧ vp_in (x1 + 2) (S.len (S.R 73 x0)) ∧ (let w1 : Int32 := S.rI (S.R 73 x0) (Int32.toNatClampNeg (x1 + 2))
  (ox_has (S.K x0) 73 = true ∧ (ox_rdI (S.K (S.R 73 x0)) = true ∧ vp_in (x2 + 2) (S.len (S.R 73 x0)) ∧ (let w2 : Int32 := S.rI (S.R 73 x0) (Int32.toNatClampNeg (x2 + 2))
  (((w1 + w2) ≤ 12 → c_184_38 E x0 x1 x2 w1 w2 0 S mr sr Q) ∧ (¬ (w1 + w2) ≤ 12 → (2 ≤ 2 ∧ S.K x0 = 14 ∧ 0 ≤ 8 ∧ ∃ mc3 mk4, mc3 ≤ mr ∧ mk4 ≤ sr ∧ E 177 [.inr (.inr (x0)), .inl (6)] mc3 mk4 S (k_184_34 E x0 x1 x2 w1 w2 (mr - mc3) (sr - mk4) Q))))))))))
set_option maxRecDepth 20000 in
set_option maxHeartbeats 4000000 in
theorem f_184 {sp : ox_E} (hsp : ox_mono sp) {d : Nat} {mr sr : Nat} {x0 : Nat} {x1 : Int32} {x2 : Int32} {S : ox_St} {Q : ox_Q} (h : q_184 (ox_M sp d) x0 x1 x2 S mr sr Q) : ox_M sp (d + 1) 184 [.inr (.inr (x0)), .inl (x1), .inl (x2)] mr sr S Q := Or.inr ⟨Nat.le_of_ble_eq_true rfl, ox_C_fold (ox_M_mono hsp d) h⟩
