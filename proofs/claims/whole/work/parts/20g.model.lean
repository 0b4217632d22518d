/-! OpcodeFramesModel.thrown()I -/
set_option maxRecDepth 20000 in
def q_127 (E : ox_E) (x0 : Nat) (S : ox_St) (mr sr : Nat) (Q : ox_Q) : Prop :=
  (ox_has (S.K x0) 69 = true ∧ (True ∧ Q (some (.inl (S.I 69 x0))) S))
set_option maxRecDepth 20000 in
set_option maxHeartbeats 4000000 in
theorem f_127 {sp : ox_E} (hsp : ox_mono sp) {d : Nat} {mr sr : Nat} {x0 : Nat} {S : ox_St} {Q : ox_Q} (h : q_127 (ox_M sp d) x0 S mr sr Q) : ox_M sp (d + 1) 127 [.inr (.inr (x0))] mr sr S Q := Or.inr ⟨Nat.le_of_ble_eq_true rfl, ox_C_fold (ox_M_mono hsp d) h⟩
/-! OpcodeFramesModel.feed(II)I -/
def c_128_33 (E : ox_E) (x0 : Nat) (x1 : Int32) (x2 : Int32) (x3 : Int32) (S : ox_St) (mr sr : Nat) (Q : ox_Q) : Prop := ox_C E (ox_mi 128).2.2.2.1 (ox_mc 128) (ox_cut 128) Q 33 [some (.inr (.inr (x0))), some (.inl (x1)), some (.inl (x2)), some (.inl (x3))] [] S mr sr
set_option maxRecDepth 20000 in
def q_128_33 (E : ox_E) (x0 : Nat) (x1 : Int32) (x2 : Int32) (x3 : Int32) (S : ox_St) (mr sr : Nat) (Q : ox_Q) : Prop :=
  ((x3 < 0 → (ox_has (S.K x0) 72 = true ∧ (True ∧ Q (some (.inl (S.I 72 x0))) S))) ∧ (¬ x3 < 0 → (ox_has (S.K x0) 71 = true ∧ (ox_has (S.K x0) 72 = true ∧ (S.K (S.R 71 x0) = 15 ∧ vp_in (S.I 72 x0) (S.len (S.R 71 x0)) ∧ (let S1 := S.wI (S.R 71 x0) (Int32.toNatClampNeg (S.I 72 x0)) ((x1 >>> ((8 * x3) &&& 31)) &&& 255)
  (ox_has (S1.K x0) 72 = true ∧ (ox_has (S1.K x0) 72 = true ∧ (let S2 := S1.sI 72 x0 ((S1.I 72 x0) + 1)
  c_128_33 E x0 x1 x2 (x3 + (-1)) S2 mr sr Q)))))))))
set_option maxRecDepth 20000 in
set_option maxHeartbeats 4000000 in
theorem f_128_33 {E : ox_E} (hE : ox_mono E) {mr sr : Nat} {x0 : Nat} {x1 : Int32} {x2 : Int32} {x3 : Int32} {S : ox_St} {Q : ox_Q} (h : q_128_33 E x0 x1 x2 x3 S mr sr Q) : c_128_33 E x0 x1 x2 x3 S mr sr Q := ox_C_fold hE h
set_option maxRecDepth 20000 in
def q_128 (E : ox_E) (x0 : Nat) (x1 : Int32) (x2 : Int32) (S : ox_St) (mr sr : Nat) (Q : ox_Q) : Prop :=
  (ox_has (S.K x0) 69 = true ∧ (let S1 := S.sI 69 x0 0
  ((x2 < 1 → (True ∧ Q (some (.inl ((-1) : Int32))) S1)) ∧ (¬ x2 < 1 → (((4 : Int32) < x2 → (True ∧ Q (some (.inl ((-1) : Int32))) S1)) ∧ (¬ (4 : Int32) < x2 → (ox_has (S1.K x0) 72 = true ∧ ((((S1.I 72 x0) + x2) ≤ 800 → (let w2 : Int32 := x2 - 1
  c_128_33 E x0 x1 x2 w2 S1 mr sr Q)) ∧ (¬ ((S1.I 72 x0) + x2) ≤ 800 → (True ∧ Q (some (.inl ((-1) : Int32))) S1))))))))))
set_option maxRecDepth 20000 in
set_option maxHeartbeats 4000000 in
theorem f_128 {sp : ox_E} (hsp : ox_mono sp) {d : Nat} {mr sr : Nat} {x0 : Nat} {x1 : Int32} {x2 : Int32} {S : ox_St} {Q : ox_Q} (h : q_128 (ox_M sp d) x0 x1 x2 S mr sr Q) : ox_M sp (d + 1) 128 [.inr (.inr (x0)), .inl (x1), .inl (x2)] mr sr S Q := Or.inr ⟨Nat.le_of_ble_eq_true rfl, ox_C_fold (ox_M_mono hsp d) h⟩
/-! OpcodeFramesModel.size([II)I -/
set_option maxRecDepth 20000 in
def q_129 (E : ox_E) (x0 : Nat) (x1 : Int32) (S : ox_St) (mr sr : Nat) (Q : ox_Q) : Prop :=
  (ox_rdI (S.K x0) = true ∧ vp_in x1 (S.len x0) ∧ (((S.rI x0 (Int32.toNatClampNeg x1)) = 3 → (ox_rdI (S.K x0) = true ∧ vp_in (x1 + 2) (S.len x0) ∧ (True ∧ Q (some (.inl (3 + (S.rI x0 (Int32.toNatClampNeg (x1 + 2)))))) S))) ∧ (¬ (S.rI x0 (Int32.toNatClampNeg x1)) = 3 → (ox_rdI (S.K x0) = true ∧ vp_in x1 (S.len x0) ∧ ((¬ (S.rI x0 (Int32.toNatClampNeg x1)) = 4 → (ox_rdI (S.K x0) = true ∧ vp_in x1 (S.len x0) ∧ ((¬ (S.rI x0 (Int32.toNatClampNeg x1)) = 5 → (ox_rdI (S.K x0) = true ∧ vp_in x1 (S.len x0) ∧ ((¬ (S.rI x0 (Int32.toNatClampNeg x1)) = 6 → (True ∧ Q (some (.inl (2 : Int32))) S)) ∧ ((S.rI x0 (Int32.toNatClampNeg x1)) = 6 → (True ∧ Q (some (.inl (3 : Int32))) S))))) ∧ ((S.rI x0 (Int32.toNatClampNeg x1)) = 5 → (True ∧ Q (some (.inl (4 : Int32))) S))))) ∧ ((S.rI x0 (Int32.toNatClampNeg x1)) = 4 → (ox_rdI (S.K x0) = true ∧ vp_in (x1 + 2) (S.len x0) ∧ (True ∧ Q (some (.inl (3 + (S.rI x0 (Int32.toNatClampNeg (x1 + 2)))))) S))))))))
set_option maxRecDepth 20000 in
set_option maxHeartbeats 4000000 in
theorem f_129 {sp : ox_E} (hsp : ox_mono sp) {d : Nat} {mr sr : Nat} {x0 : Nat} {x1 : Int32} {S : ox_St} {Q : ox_Q} (h : q_129 (ox_M sp d) x0 x1 S mr sr Q) : ox_M sp (d + 1) 129 [.inr (.inr (x0)), .inl (x1)] mr sr S Q := Or.inr ⟨Nat.le_of_ble_eq_true rfl, ox_C_fold (ox_M_mono hsp d) h⟩
/-! OpcodeFramesModel.moved(I)I -/
def k_130_33 (E : ox_E) (x0 : Nat) (x1 : Int32) (mr sr : Nat) (Q : ox_Q) : ox_Q := fun r_ T_ => ox_C E (ox_mi 130).2.2.2.1 (ox_mc 130) (ox_cut 130) Q 33 [some (.inr (.inr (x0))), some (.inl (x1)), none, none] (r_.toList ++ []) T_ mr sr
def c_130_36 (E : ox_E) (x0 : Nat) (x1 : Int32) (x2 : Int32) (x3 : Int32) (S : ox_St) (mr sr : Nat) (Q : ox_Q) : Prop := ox_C E (ox_mi 130).2.2.2.1 (ox_mc 130) (ox_cut 130) Q 36 [some (.inr (.inr (x0))), some (.inl (x1)), some (.inl (x2)), some (.inl (x3))] [] S mr sr
set_option maxRecDepth 20000 in
def q_130_36 (E : ox_E) (x0 : Nat) (x1 : Int32) (x2 : Int32) (x3 : Int32) (S : ox_St) (mr sr : Nat) (Q : ox_Q) : Prop :=
  ((x2 ≤ x3 → (ox_has (S.K x0) 73 = true ∧ (ox_has (S.K x0) 75 = true ∧ (S.K (S.R 73 x0) = 15 ∧ vp_in x1 (S.len (S.R 73 x0)) ∧ (let S1 := S.wI (S.R 73 x0) (Int32.toNatClampNeg x1) (-(S.I 75 x0))
  (ox_has (S1.K x0) 75 = true ∧ (ox_has (S1.K x0) 75 = true ∧ (let S2 := S1.sI 75 x0 ((S1.I 75 x0) + x2)
  (ox_has (S2.K x0) 75 = true ∧ (True ∧ Q (some (.inl ((S2.I 75 x0) - x2))) S2)))))))))) ∧ (¬ x2 ≤ x3 → (ox_has (S.K x0) 74 = true ∧ (ox_has (S.K x0) 75 = true ∧ (ox_has (S.K x0) 73 = true ∧ (ox_rdI (S.K (S.R 73 x0)) = true ∧ vp_in (x1 + x3) (S.len (S.R 73 x0)) ∧ (S.K (S.R 74 x0) = 15 ∧ vp_in ((S.I 75 x0) + x3) (S.len (S.R 74 x0)) ∧ (let S3 := S.wI (S.R 74 x0) (Int32.toNatClampNeg ((S.I 75 x0) + x3)) (S.rI (S.R 73 x0) (Int32.toNatClampNeg (x1 + x3)))
  c_130_36 E x0 x1 x2 (x3 + 1) S3 mr sr Q))))))))
set_option maxRecDepth 20000 in
set_option maxHeartbeats 4000000 in
theorem f_130_36 {E : ox_E} (hE : ox_mono E) {mr sr : Nat} {x0 : Nat} {x1 : Int32} {x2 : Int32} {x3 : Int32} {S : ox_St} {Q : ox_Q} (h : q_130_36 E x0 x1 x2 x3 S mr sr Q) : c_130_36 E x0 x1 x2 x3 S mr sr Q := ox_C_fold hE h
set_option maxRecDepth 20000 in
def q_130_33 (E : ox_E) (x0 : Nat) (x1 : Int32) (y0 : Int32) (S : ox_St) (mr sr : Nat) (Q : ox_Q) : Prop :=
  c_130_36 E x0 x1 y0 0 S mr sr Q
set_option maxRecDepth 20000 in
set_option maxHeartbeats 4000000 in
theorem f_130_33 {E : ox_E} (hE : ox_mono E) {mr sr : Nat} {x0 : Nat} {x1 : Int32} {y0 : Int32} {S : ox_St} {Q : ox_Q} (h : q_130_33 E x0 x1 y0 S mr sr Q) : k_130_33 E x0 x1 mr sr Q (some (.inl (y0))) S := ox_C_fold hE h
set_option maxRecDepth 20000 in
def q_130 (E : ox_E) (x0 : Nat) (x1 : Int32) (S : ox_St) (mr sr : Nat) (Q : ox_Q) : Prop :=
  (((16 : Int32) ≤ x1 → (ox_has (S.K x0) 73 = true ∧ (ox_rdI (S.K (S.R 73 x0)) = true ∧ vp_in x1 (S.len (S.R 73 x0)) ∧ (((0 : Int32) ≤ (S.rI (S.R 73 x0) (Int32.toNatClampNeg x1)) → (ox_has (S.K x0) 73 = true ∧ (2 ≤ 2 ∧ 0 ≤ 8 ∧ ∃ mc1 mk2, mc1 ≤ mr ∧ mk2 ≤ sr ∧ E 129 [.inr (.inr (S.R 73 x0)), .inl (x1)] mc1 mk2 S (k_130_33 E x0 x1 (mr - mc1) (sr - mk2) Q)))) ∧ (¬ (0 : Int32) ≤ (S.rI (S.R 73 x0) (Int32.toNatClampNeg x1)) → (ox_has (S.K x0) 73 = true ∧ (ox_rdI (S.K (S.R 73 x0)) = true ∧ vp_in x1 (S.len (S.R 73 x0)) ∧ (True ∧ Q (some (.inl (-(S.rI (S.R 73 x0) (Int32.toNatClampNeg x1))))) S)))))))) ∧ (¬ (16 : Int32) ≤ x1 → (True ∧ Q (some (.inl x1)) S)))
set_option maxRecDepth 20000 in
set_option maxHeartbeats 4000000 in
theorem f_130 {sp : ox_E} (hsp : ox_mono sp) {d : Nat} {mr sr : Nat} {x0 : Nat} {x1 : Int32} {S : ox_St} {Q : ox_Q} (h : q_130 (ox_M sp d) x0 x1 S mr sr Q) : ox_M sp (d + 1) 130 [.inr (.inr (x0)), .inl (x1)] mr sr S Q := Or.inr ⟨Nat.le_of_ble_eq_true rfl, ox_C_fold (ox_M_mono hsp d) h⟩
/-! OpcodeFramesModel.collect()V -/
def c_131_8 (E : ox_E) (x0 : Nat) (x1 : Int32) (S : ox_St) (mr sr : Nat) (Q : ox_Q) : Prop := ox_C E (ox_mi 131).2.2.2.1 (ox_mc 131) (ox_cut 131) Q 8 [some (.inr (.inr (x0))), some (.inl (x1)), none, none] [] S mr sr
def k_131_31 (E : ox_E) (x0 : Nat) (x1 : Int32) (y1 : Int32) (y2 : Nat) (mr sr : Nat) (Q : ox_Q) : ox_Q := fun r_ T_ => ox_C E (ox_mi 131).2.2.2.1 (ox_mc 131) (ox_cut 131) Q 31 [some (.inr (.inr (x0))), some (.inl (x1)), none, none] (r_.toList ++ [.inl (y1), .inr (.inr (y2))]) T_ mr sr
def c_131_40 (E : ox_E) (x0 : Nat) (x1 : Int32) (S : ox_St) (mr sr : Nat) (Q : ox_Q) : Prop := ox_C E (ox_mi 131).2.2.2.1 (ox_mc 131) (ox_cut 131) Q 40 [some (.inr (.inr (x0))), some (.inl (x1)), none, none] [] S mr sr
def k_131_63 (E : ox_E) (x0 : Nat) (x1 : Int32) (y1 : Int32) (y2 : Nat) (mr sr : Nat) (Q : ox_Q) : ox_Q := fun r_ T_ => ox_C E (ox_mi 131).2.2.2.1 (ox_mc 131) (ox_cut 131) Q 63 [some (.inr (.inr (x0))), some (.inl (x1)), none, none] (r_.toList ++ [.inl (y1), .inr (.inr (y2))]) T_ mr sr
def c_131_72 (E : ox_E) (x0 : Nat) (x1 : Int32) (S : ox_St) (mr sr : Nat) (Q : ox_Q) : Prop := ox_C E (ox_mi 131).2.2.2.1 (ox_mc 131) (ox_cut 131) Q 72 [some (.inr (.inr (x0))), some (.inl (x1)), none, none] [] S mr sr
def c_131_82 (E : ox_E) (x0 : Nat) (x1 : Int32) (x2 : Int32) (S : ox_St) (mr sr : Nat) (Q : ox_Q) : Prop := ox_C E (ox_mi 131).2.2.2.1 (ox_mc 131) (ox_cut 131) Q 82 [some (.inr (.inr (x0))), some (.inl (x1)), some (.inl (x2)), none] [] S mr sr
def k_131_117 (E : ox_E) (x0 : Nat) (x1 : Int32) (x2 : Int32) (y1 : Int32) (y2 : Nat) (mr sr : Nat) (Q : ox_Q) : ox_Q := fun r_ T_ => ox_C E (ox_mi 131).2.2.2.1 (ox_mc 131) (ox_cut 131) Q 117 [some (.inr (.inr (x0))), some (.inl (x1)), some (.inl (x2)), none] (r_.toList ++ [.inl (y1), .inr (.inr (y2))]) T_ mr sr
def c_131_126 (E : ox_E) (x0 : Nat) (x1 : Int32) (x2 : Int32) (S : ox_St) (mr sr : Nat) (Q : ox_Q) : Prop := ox_C E (ox_mi 131).2.2.2.1 (ox_mc 131) (ox_cut 131) Q 126 [some (.inr (.inr (x0))), some (.inl (x1)), some (.inl (x2)), none] [] S mr sr
def k_131_178 (E : ox_E) (x0 : Nat) (x1 : Int32) (x2 : Int32) (y1 : Int32) (y2 : Nat) (mr sr : Nat) (Q : ox_Q) : ox_Q := fun r_ T_ => ox_C E (ox_mi 131).2.2.2.1 (ox_mc 131) (ox_cut 131) Q 178 [some (.inr (.inr (x0))), some (.inl (x1)), some (.inl (x2)), none] (r_.toList ++ [.inl (y1), .inr (.inr (y2))]) T_ mr sr
def k_131_200 (E : ox_E) (x0 : Nat) (x1 : Int32) (y1 : Nat) (mr sr : Nat) (Q : ox_Q) : ox_Q := fun r_ T_ => ox_C E (ox_mi 131).2.2.2.1 (ox_mc 131) (ox_cut 131) Q 200 [some (.inr (.inr (x0))), some (.inl (x1)), none, none] (r_.toList ++ [.inr (.inr (y1))]) T_ mr sr
def c_131_206 (E : ox_E) (x0 : Nat) (x1 : Int32) (S : ox_St) (mr sr : Nat) (Q : ox_Q) : Prop := ox_C E (ox_mi 131).2.2.2.1 (ox_mc 131) (ox_cut 131) Q 206 [some (.inr (.inr (x0))), some (.inl (x1)), none, none] [] S mr sr
def k_131_222 (E : ox_E) (x0 : Nat) (x1 : Int32) (mr sr : Nat) (Q : ox_Q) : ox_Q := fun r_ T_ => ox_C E (ox_mi 131).2.2.2.1 (ox_mc 131) (ox_cut 131) Q 222 [some (.inr (.inr (x0))), some (.inl (x1)), none, none] (r_.toList ++ []) T_ mr sr
def c_131_235 (E : ox_E) (x0 : Nat) (x1 : Int32) (x2 : Int32) (x3 : Int32) (S : ox_St) (mr sr : Nat) (Q : ox_Q) : Prop := ox_C E (ox_mi 131).2.2.2.1 (ox_mc 131) (ox_cut 131) Q 235 [some (.inr (.inr (x0))), some (.inl (x1)), some (.inl (x2)), some (.inl (x3))] [] S mr sr
def k_131_259 (E : ox_E) (x0 : Nat) (x1 : Int32) (x2 : Int32) (x3 : Int32) (y1 : Int32) (y2 : Nat) (mr sr : Nat) (Q : ox_Q) : ox_Q := fun r_ T_ => ox_C E (ox_mi 131).2.2.2.1 (ox_mc 131) (ox_cut 131) Q 259 [some (.inr (.inr (x0))), some (.inl (x1)), some (.inl (x2)), some (.inl (x3))] (r_.toList ++ [.inl (y1), .inr (.inr (y2))]) T_ mr sr
def k_131_296 (E : ox_E) (x0 : Nat) (x1 : Int32) (x2 : Int32) (y1 : Int32) (y2 : Nat) (mr sr : Nat) (Q : ox_Q) : ox_Q := fun r_ T_ => ox_C E (ox_mi 131).2.2.2.1 (ox_mc 131) (ox_cut 131) Q 296 [some (.inr (.inr (x0))), some (.inl (x1)), some (.inl (x2)), none] (r_.toList ++ [.inl (y1), .inr (.inr (y2))]) T_ mr sr
set_option maxRecDepth 20000 in
def q_131_296 (E : ox_E) (x0 : Nat) (x1 : Int32) (x2 : Int32) (y0 : Int32) (y1 : Int32) (y2 : Nat) (S : ox_St) (mr sr : Nat) (Q : ox_Q) : Prop :=
  (S.K y2 = 15 ∧ vp_in y1 (S.len y2) ∧ (let S1 := S.wI y2 (Int32.toNatClampNeg y1) y0
  (let w2 : Int32 := x1 + x2
  c_131_206 E x0 w2 S1 mr sr Q)))
set_option maxRecDepth 20000 in
set_option maxHeartbeats 4000000 in
theorem f_131_296 {E : ox_E} (hE : ox_mono E) {mr sr : Nat} {x0 : Nat} {x1 : Int32} {x2 : Int32} {y0 : Int32} {y1 : Int32} {y2 : Nat} {S : ox_St} {Q : ox_Q} (h : q_131_296 E x0 x1 x2 y0 y1 y2 S mr sr Q) : k_131_296 E x0 x1 x2 y1 y2 mr sr Q (some (.inl (y0))) S := ox_C_fold hE h
set_option maxRecDepth 20000 in
def q_131_259 (E : ox_E) (x0 : Nat) (x1 : Int32) (x2 : Int32) (x3 : Int32) (y0 : Int32) (y1 : Int32) (y2 : Nat) (S : ox_St) (mr sr : Nat) (Q : ox_Q) : Prop :=
  (S.K y2 = 15 ∧ vp_in y1 (S.len y2) ∧ (let S1 := S.wI y2 (Int32.toNatClampNeg y1) y0
  c_131_235 E x0 x1 x2 (x3 + 1) S1 mr sr Q))
set_option maxRecDepth 20000 in
set_option maxHeartbeats 4000000 in
theorem f_131_259 {E : ox_E} (hE : ox_mono E) {mr sr : Nat} {x0 : Nat} {x1 : Int32} {x2 : Int32} {x3 : Int32} {y0 : Int32} {y1 : Int32} {y2 : Nat} {S : ox_St} {Q : ox_Q} (h : q_131_259 E x0 x1 x2 x3 y0 y1 y2 S mr sr Q) : k_131_259 E x0 x1 x2 x3 y1 y2 mr sr Q (some (.inl (y0))) S := ox_C_fold hE h
set_option maxRecDepth 20000 in
def q_131_235 (E : ox_E) (x0 : Nat) (x1 : Int32) (x2 : Int32) (x3 : Int32) (S : ox_St) (mr sr : Nat) (Q : ox_Q) : Prop :=
  ((x2 ≤ x3 → (ox_has (S.K x0) 74 = true ∧ (ox_rdI (S.K (S.R 74 x0)) = true ∧ vp_in x1 (S.len (S.R 74 x0)) ∧ ((¬ (S.rI (S.R 74 x0) (Int32.toNatClampNeg x1)) = 6 → (let w1 : Int32 := x1 + x2
  c_131_206 E x0 w1 S mr sr Q)) ∧ ((S.rI (S.R 74 x0) (Int32.toNatClampNeg x1)) = 6 → (ox_has (S.K x0) 74 = true ∧ (ox_has (S.K x0) 74 = true ∧ (ox_rdI (S.K (S.R 74 x0)) = true ∧ vp_in (x1 + 1) (S.len (S.R 74 x0)) ∧ (2 ≤ 4 ∧ S.K x0 = 14 ∧ 2 ≤ 8 ∧ ∃ mc2 mk3, mc2 ≤ mr ∧ mk3 ≤ sr ∧ E 130 [.inr (.inr (x0)), .inl (S.rI (S.R 74 x0) (Int32.toNatClampNeg (x1 + 1)))] mc2 mk3 S (k_131_296 E x0 x1 x2 (x1 + 1) (S.R 74 x0) (mr - mc2) (sr - mk3) Q)))))))))) ∧ (¬ x2 ≤ x3 → (ox_has (S.K x0) 74 = true ∧ (ox_has (S.K x0) 74 = true ∧ (ox_rdI (S.K (S.R 74 x0)) = true ∧ vp_in (x1 + x3) (S.len (S.R 74 x0)) ∧ (2 ≤ 4 ∧ S.K x0 = 14 ∧ 2 ≤ 8 ∧ ∃ mc4 mk5, mc4 ≤ mr ∧ mk5 ≤ sr ∧ E 130 [.inr (.inr (x0)), .inl (S.rI (S.R 74 x0) (Int32.toNatClampNeg (x1 + x3)))] mc4 mk5 S (k_131_259 E x0 x1 x2 x3 (x1 + x3) (S.R 74 x0) (mr - mc4) (sr - mk5) Q)))))))
set_option maxRecDepth 20000 in
set_option maxHeartbeats 4000000 in
theorem f_131_235 {E : ox_E} (hE : ox_mono E) {mr sr : Nat} {x0 : Nat} {x1 : Int32} {x2 : Int32} {x3 : Int32} {S : ox_St} {Q : ox_Q} (h : q_131_235 E x0 x1 x2 x3 S mr sr Q) : c_131_235 E x0 x1 x2 x3 S mr sr Q := ox_C_fold hE h
set_option maxRecDepth 20000 in
def q_131_222 (E : ox_E) (x0 : Nat) (x1 : Int32) (y0 : Int32) (S : ox_St) (mr sr : Nat) (Q : ox_Q) : Prop :=
  (ox_has (S.K x0) 74 = true ∧ (ox_rdI (S.K (S.R 74 x0)) = true ∧ vp_in x1 (S.len (S.R 74 x0)) ∧ ((¬ (S.rI (S.R 74 x0) (Int32.toNatClampNeg x1)) = 4 → (ox_has (S.K x0) 74 = true ∧ (ox_rdI (S.K (S.R 74 x0)) = true ∧ vp_in x1 (S.len (S.R 74 x0)) ∧ ((¬ (S.rI (S.R 74 x0) (Int32.toNatClampNeg x1)) = 6 → (let w1 : Int32 := x1 + y0
  c_131_206 E x0 w1 S mr sr Q)) ∧ ((S.rI (S.R 74 x0) (Int32.toNatClampNeg x1)) = 6 → (ox_has (S.K x0) 74 = true ∧ (ox_has (S.K x0) 74 = true ∧ (ox_rdI (S.K (S.R 74 x0)) = true ∧ vp_in (x1 + 1) (S.len (S.R 74 x0)) ∧ (2 ≤ 4 ∧ S.K x0 = 14 ∧ 2 ≤ 8 ∧ ∃ mc2 mk3, mc2 ≤ mr ∧ mk3 ≤ sr ∧ E 130 [.inr (.inr (x0)), .inl (S.rI (S.R 74 x0) (Int32.toNatClampNeg (x1 + 1)))] mc2 mk3 S (k_131_296 E x0 x1 y0 (x1 + 1) (S.R 74 x0) (mr - mc2) (sr - mk3) Q)))))))))) ∧ ((S.rI (S.R 74 x0) (Int32.toNatClampNeg x1)) = 4 → c_131_235 E x0 x1 y0 3 S mr sr Q))))
set_option maxRecDepth 20000 in
set_option maxHeartbeats 4000000 in
theorem f_131_222 {E : ox_E} (hE : ox_mono E) {mr sr : Nat} {x0 : Nat} {x1 : Int32} {y0 : Int32} {S : ox_St} {Q : ox_Q} (h : q_131_222 E x0 x1 y0 S mr sr Q) : k_131_222 E x0 x1 mr sr Q (some (.inl (y0))) S := ox_C_fold hE h
set_option maxRecDepth 20000 in
def q_131_206 (E : ox_E) (x0 : Nat) (x1 : Int32) (S : ox_St) (mr sr : Nat) (Q : ox_Q) : Prop :=
  (ox_has (S.K x0) 75 = true ∧ (((S.I 75 x0) ≤ x1 → (ox_has (S.K x0) 73 = true ∧ (ox_has (S.K x0) 74 = true ∧ (ox_has (S.K x0) 73 = true ∧ (let S1 := S.sR 73 x0 (S.R 74 x0)
  (ox_has (S1.K x0) 74 = true ∧ (let S2 := S1.sR 74 x0 (S.R 73 x0)
  ((ox_mi 131).2.2.2.1 = none ∧ Q none S2)))))))) ∧ (¬ (S.I 75 x0) ≤ x1 → (ox_has (S.K x0) 74 = true ∧ (2 ≤ 2 ∧ 0 ≤ 8 ∧ ∃ mc3 mk4, mc3 ≤ mr ∧ mk4 ≤ sr ∧ E 129 [.inr (.inr (S.R 74 x0)), .inl (x1)] mc3 mk4 S (k_131_222 E x0 x1 (mr - mc3) (sr - mk4) Q))))))
set_option maxRecDepth 20000 in
set_option maxHeartbeats 4000000 in
theorem f_131_206 {E : ox_E} (hE : ox_mono E) {mr sr : Nat} {x0 : Nat} {x1 : Int32} {S : ox_St} {Q : ox_Q} (h : q_131_206 E x0 x1 S mr sr Q) : c_131_206 E x0 x1 S mr sr Q := ox_C_fold hE h
set_option maxRecDepth 20000 in
def q_131_200 (E : ox_E) (x0 : Nat) (x1 : Int32) (y0 : Int32) (y1 : Nat) (S : ox_St) (mr sr : Nat) (Q : ox_Q) : Prop :=
  (ox_has (S.K y1) 97 = true ∧ (let S1 := S.sI 97 y1 y0
  c_131_206 E x0 16 S1 mr sr Q))
set_option maxRecDepth 20000 in
set_option maxHeartbeats 4000000 in
theorem f_131_200 {E : ox_E} (hE : ox_mono E) {mr sr : Nat} {x0 : Nat} {x1 : Int32} {y0 : Int32} {y1 : Nat} {S : ox_St} {Q : ox_Q} (h : q_131_200 E x0 x1 y0 y1 S mr sr Q) : k_131_200 E x0 x1 y1 mr sr Q (some (.inl (y0))) S := ox_C_fold hE h
set_option maxRecDepth 20000 in
def q_131_178 (E : ox_E) (x0 : Nat) (x1 : Int32) (x2 : Int32) (y0 : Int32) (y1 : Int32) (y2 : Nat) (S : ox_St) (mr sr : Nat) (Q : ox_Q) : Prop :=
  (S.K y2 = 15 ∧ vp_in y1 (S.len y2) ∧ (let S1 := S.wI y2 (Int32.toNatClampNeg y1) y0
  c_131_126 E x0 x1 (x2 + 1) S1 mr sr Q))
set_option maxRecDepth 20000 in
set_option maxHeartbeats 4000000 in
theorem f_131_178 {E : ox_E} (hE : ox_mono E) {mr sr : Nat} {x0 : Nat} {x1 : Int32} {x2 : Int32} {y0 : Int32} {y1 : Int32} {y2 : Nat} {S : ox_St} {Q : ox_Q} (h : q_131_178 E x0 x1 x2 y0 y1 y2 S mr sr Q) : k_131_178 E x0 x1 x2 y1 y2 mr sr Q (some (.inl (y0))) S := ox_C_fold hE h
set_option maxRecDepth 20000 in
def q_131_126 (E : ox_E) (x0 : Nat) (x1 : Int32) (x2 : Int32) (S : ox_St) (mr sr : Nat) (Q : ox_Q) : Prop :=
  (((8 : Int32) ≤ x2 → c_131_72 E x0 (x1 + 1) S mr sr Q) ∧ (¬ (8 : Int32) ≤ x2 → (ox_has (S.K x0) 103 = true ∧ (ox_has (S.K x0) 103 = true ∧ (ox_rdI (S.K (S.R 103 x0)) = true ∧ vp_in ((8 * x1) + x2) (S.len (S.R 103 x0)) ∧ ((¬ (S.rI (S.R 103 x0) (Int32.toNatClampNeg ((8 * x1) + x2))) = (-1000000) → (ox_has (S.K x0) 103 = true ∧ (ox_rdI (S.K (S.R 103 x0)) = true ∧ vp_in ((8 * x1) + x2) (S.len (S.R 103 x0)) ∧ (2 ≤ 4 ∧ S.K x0 = 14 ∧ 2 ≤ 8 ∧ ∃ mc1 mk2, mc1 ≤ mr ∧ mk2 ≤ sr ∧ E 130 [.inr (.inr (x0)), .inl (S.rI (S.R 103 x0) (Int32.toNatClampNeg ((8 * x1) + x2)))] mc1 mk2 S (k_131_178 E x0 x1 x2 ((8 * x1) + x2) (S.R 103 x0) (mr - mc1) (sr - mk2) Q))))) ∧ ((S.rI (S.R 103 x0) (Int32.toNatClampNeg ((8 * x1) + x2))) = (-1000000) → k_131_178 E x0 x1 x2 ((8 * x1) + x2) (S.R 103 x0) mr sr Q (some (.inl (-1000000))) S)))))))
set_option maxRecDepth 20000 in
set_option maxHeartbeats 4000000 in
theorem f_131_126 {E : ox_E} (hE : ox_mono E) {mr sr : Nat} {x0 : Nat} {x1 : Int32} {x2 : Int32} {S : ox_St} {Q : ox_Q} (h : q_131_126 E x0 x1 x2 S mr sr Q) : c_131_126 E x0 x1 x2 S mr sr Q := ox_C_fold hE h
set_option maxRecDepth 20000 in
def q_131_117 (E : ox_E) (x0 : Nat) (x1 : Int32) (x2 : Int32) (y0 : Int32) (y1 : Int32) (y2 : Nat) (S : ox_St) (mr sr : Nat) (Q : ox_Q) : Prop :=
  (S.K y2 = 15 ∧ vp_in y1 (S.len y2) ∧ (let S1 := S.wI y2 (Int32.toNatClampNeg y1) y0
  c_131_82 E x0 x1 (x2 + 1) S1 mr sr Q))
set_option maxRecDepth 20000 in
set_option maxHeartbeats 4000000 in
theorem f_131_117 {E : ox_E} (hE : ox_mono E) {mr sr : Nat} {x0 : Nat} {x1 : Int32} {x2 : Int32} {y0 : Int32} {y1 : Int32} {y2 : Nat} {S : ox_St} {Q : ox_Q} (h : q_131_117 E x0 x1 x2 y0 y1 y2 S mr sr Q) : k_131_117 E x0 x1 x2 y1 y2 mr sr Q (some (.inl (y0))) S := ox_C_fold hE h
set_option maxRecDepth 20000 in
def q_131_82 (E : ox_E) (x0 : Nat) (x1 : Int32) (x2 : Int32) (S : ox_St) (mr sr : Nat) (Q : ox_Q) : Prop :=
  (ox_has (S.K x0) 100 = true ∧ (ox_rdI (S.K (S.R 100 x0)) = true ∧ vp_in x1 (S.len (S.R 100 x0)) ∧ (((S.rI (S.R 100 x0) (Int32.toNatClampNeg x1)) ≤ x2 → c_131_126 E x0 x1 0 S mr sr Q) ∧ (¬ (S.rI (S.R 100 x0) (Int32.toNatClampNeg x1)) ≤ x2 → (ox_has (S.K x0) 102 = true ∧ (ox_has (S.K x0) 102 = true ∧ (ox_rdI (S.K (S.R 102 x0)) = true ∧ vp_in ((10 * x1) + x2) (S.len (S.R 102 x0)) ∧ (2 ≤ 4 ∧ S.K x0 = 14 ∧ 2 ≤ 8 ∧ ∃ mc1 mk2, mc1 ≤ mr ∧ mk2 ≤ sr ∧ E 130 [.inr (.inr (x0)), .inl (S.rI (S.R 102 x0) (Int32.toNatClampNeg ((10 * x1) + x2)))] mc1 mk2 S (k_131_117 E x0 x1 x2 ((10 * x1) + x2) (S.R 102 x0) (mr - mc1) (sr - mk2) Q)))))))))
set_option maxRecDepth 20000 in
set_option maxHeartbeats 4000000 in
theorem f_131_82 {E : ox_E} (hE : ox_mono E) {mr sr : Nat} {x0 : Nat} {x1 : Int32} {x2 : Int32} {S : ox_St} {Q : ox_Q} (h : q_131_82 E x0 x1 x2 S mr sr Q) : c_131_82 E x0 x1 x2 S mr sr Q := ox_C_fold hE h
set_option maxRecDepth 20000 in
def q_131_72 (E : ox_E) (x0 : Nat) (x1 : Int32) (S : ox_St) (mr sr : Nat) (Q : ox_Q) : Prop :=
  (ox_has (S.K x0) 92 = true ∧ (((S.I 92 x0) ≤ x1 → (ox_has (S.K x0) 97 = true ∧ (2 ≤ 3 ∧ S.K x0 = 14 ∧ 1 ≤ 8 ∧ ∃ mc1 mk2, mc1 ≤ mr ∧ mk2 ≤ sr ∧ E 130 [.inr (.inr (x0)), .inl (S.I 97 x0)] mc1 mk2 S (k_131_200 E x0 x1 x0 (mr - mc1) (sr - mk2) Q)))) ∧ (¬ (S.I 92 x0) ≤ x1 → c_131_82 E x0 x1 0 S mr sr Q)))
set_option maxRecDepth 20000 in
set_option maxHeartbeats 4000000 in
theorem f_131_72 {E : ox_E} (hE : ox_mono E) {mr sr : Nat} {x0 : Nat} {x1 : Int32} {S : ox_St} {Q : ox_Q} (h : q_131_72 E x0 x1 S mr sr Q) : c_131_72 E x0 x1 S mr sr Q := ox_C_fold hE h
set_option maxRecDepth 20000 in
def q_131_63 (E : ox_E) (x0 : Nat) (x1 : Int32) (y0 : Int32) (y1 : Int32) (y2 : Nat) (S : ox_St) (mr sr : Nat) (Q : ox_Q) : Prop :=
  (S.K y2 = 15 ∧ vp_in y1 (S.len y2) ∧ (let S1 := S.wI y2 (Int32.toNatClampNeg y1) y0
  c_131_40 E x0 (x1 + 1) S1 mr sr Q))
set_option maxRecDepth 20000 in
set_option maxHeartbeats 4000000 in
theorem f_131_63 {E : ox_E} (hE : ox_mono E) {mr sr : Nat} {x0 : Nat} {x1 : Int32} {y0 : Int32} {y1 : Int32} {y2 : Nat} {S : ox_St} {Q : ox_Q} (h : q_131_63 E x0 x1 y0 y1 y2 S mr sr Q) : k_131_63 E x0 x1 y1 y2 mr sr Q (some (.inl (y0))) S := ox_C_fold hE h
set_option maxRecDepth 20000 in
def q_131_40 (E : ox_E) (x0 : Nat) (x1 : Int32) (S : ox_St) (mr sr : Nat) (Q : ox_Q) : Prop :=
  (ox_has (S.K x0) 106 = true ∧ (((S.I 106 x0) ≤ x1 → c_131_72 E x0 0 S mr sr Q) ∧ (¬ (S.I 106 x0) ≤ x1 → (ox_has (S.K x0) 108 = true ∧ (ox_has (S.K x0) 108 = true ∧ (ox_rdI (S.K (S.R 108 x0)) = true ∧ vp_in x1 (S.len (S.R 108 x0)) ∧ (2 ≤ 4 ∧ S.K x0 = 14 ∧ 2 ≤ 8 ∧ ∃ mc1 mk2, mc1 ≤ mr ∧ mk2 ≤ sr ∧ E 130 [.inr (.inr (x0)), .inl (S.rI (S.R 108 x0) (Int32.toNatClampNeg x1))] mc1 mk2 S (k_131_63 E x0 x1 x1 (S.R 108 x0) (mr - mc1) (sr - mk2) Q))))))))
set_option maxRecDepth 20000 in
set_option maxHeartbeats 4000000 in
theorem f_131_40 {E : ox_E} (hE : ox_mono E) {mr sr : Nat} {x0 : Nat} {x1 : Int32} {S : ox_St} {Q : ox_Q} (h : q_131_40 E x0 x1 S mr sr Q) : c_131_40 E x0 x1 S mr sr Q := ox_C_fold hE h
set_option maxRecDepth 20000 in
def q_131_31 (E : ox_E) (x0 : Nat) (x1 : Int32) (y0 : Int32) (y1 : Int32) (y2 : Nat) (S : ox_St) (mr sr : Nat) (Q : ox_Q) : Prop :=
  (S.K y2 = 15 ∧ vp_in y1 (S.len y2) ∧ (let S1 := S.wI y2 (Int32.toNatClampNeg y1) y0
  c_131_8 E x0 (x1 + 1) S1 mr sr Q))
set_option maxRecDepth 20000 in
set_option maxHeartbeats 4000000 in
theorem f_131_31 {E : ox_E} (hE : ox_mono E) {mr sr : Nat} {x0 : Nat} {x1 : Int32} {y0 : Int32} {y1 : Int32} {y2 : Nat} {S : ox_St} {Q : ox_Q} (h : q_131_31 E x0 x1 y0 y1 y2 S mr sr Q) : k_131_31 E x0 x1 y1 y2 mr sr Q (some (.inl (y0))) S := ox_C_fold hE h
set_option maxRecDepth 20000 in
def q_131_8 (E : ox_E) (x0 : Nat) (x1 : Int32) (S : ox_St) (mr sr : Nat) (Q : ox_Q) : Prop :=
  (ox_has (S.K x0) 87 = true ∧ (((S.I 87 x0) ≤ x1 → c_131_40 E x0 0 S mr sr Q) ∧ (¬ (S.I 87 x0) ≤ x1 → (ox_has (S.K x0) 90 = true ∧ (ox_has (S.K x0) 90 = true ∧ (ox_rdI (S.K (S.R 90 x0)) = true ∧ vp_in x1 (S.len (S.R 90 x0)) ∧ (2 ≤ 4 ∧ S.K x0 = 14 ∧ 2 ≤ 8 ∧ ∃ mc1 mk2, mc1 ≤ mr ∧ mk2 ≤ sr ∧ E 130 [.inr (.inr (x0)), .inl (S.rI (S.R 90 x0) (Int32.toNatClampNeg x1))] mc1 mk2 S (k_131_31 E x0 x1 x1 (S.R 90 x0) (mr - mc1) (sr - mk2) Q))))))))
set_option maxRecDepth 20000 in
set_option maxHeartbeats 4000000 in
theorem f_131_8 {E : ox_E} (hE : ox_mono E) {mr sr : Nat} {x0 : Nat} {x1 : Int32} {S : ox_St} {Q : ox_Q} (h : q_131_8 E x0 x1 S mr sr Q) : c_131_8 E x0 x1 S mr sr Q := ox_C_fold hE h
set_option maxRecDepth 20000 in
def q_131 (E : ox_E) (x0 : Nat) (S : ox_St) (mr sr : Nat) (Q : ox_Q) : Prop :=
  (ox_has (S.K x0) 75 = true ∧ (let S1 := S.sI 75 x0 16
  c_131_8 E x0 0 S1 mr sr Q))
set_option maxRecDepth 20000 in
set_option maxHeartbeats 4000000 in
theorem f_131 {sp : ox_E} (hsp : ox_mono sp) {d : Nat} {mr sr : Nat} {x0 : Nat} {S : ox_St} {Q : ox_Q} (h : q_131 (ox_M sp d) x0 S mr sr Q) : ox_M sp (d + 1) 131 [.inr (.inr (x0))] mr sr S Q := Or.inr ⟨Nat.le_of_ble_eq_true rfl, ox_C_fold (ox_M_mono hsp d) h⟩
/-! OpcodeFramesModel.put(III)I -/
set_option maxRecDepth 20000 in
def q_132 (E : ox_E) (x0 : Nat) (x1 : Int32) (x2 : Int32) (x3 : Int32) (S : ox_St) (mr sr : Nat) (Q : ox_Q) : Prop :=
  (ox_has (S.K x0) 73 = true ∧ (ox_has (S.K x0) 75 = true ∧ (S.K (S.R 73 x0) = 15 ∧ vp_in (S.I 75 x0) (S.len (S.R 73 x0)) ∧ (let S1 := S.wI (S.R 73 x0) (Int32.toNatClampNeg (S.I 75 x0)) x1
  (ox_has (S1.K x0) 73 = true ∧ (ox_has (S1.K x0) 75 = true ∧ (S1.K (S1.R 73 x0) = 15 ∧ vp_in ((S1.I 75 x0) + 1) (S1.len (S1.R 73 x0)) ∧ (let S2 := S1.wI (S1.R 73 x0) (Int32.toNatClampNeg ((S1.I 75 x0) + 1)) x2
  (ox_has (S2.K x0) 73 = true ∧ (ox_has (S2.K x0) 75 = true ∧ (S2.K (S2.R 73 x0) = 15 ∧ vp_in ((S2.I 75 x0) + 2) (S2.len (S2.R 73 x0)) ∧ (let S3 := S2.wI (S2.R 73 x0) (Int32.toNatClampNeg ((S2.I 75 x0) + 2)) x3
  (ox_has (S3.K x0) 75 = true ∧ (let w4 : Int32 := S3.I 75 x0
  (ox_has (S3.K x0) 75 = true ∧ (ox_has (S3.K x0) 75 = true ∧ (let S5 := S3.sI 75 x0 ((S3.I 75 x0) + 3)
  (True ∧ Q (some (.inl w4)) S5))))))))))))))))))
set_option maxRecDepth 20000 in
set_option maxHeartbeats 4000000 in
theorem f_132 {sp : ox_E} (hsp : ox_mono sp) {d : Nat} {mr sr : Nat} {x0 : Nat} {x1 : Int32} {x2 : Int32} {x3 : Int32} {S : ox_St} {Q : ox_Q} (h : q_132 (ox_M sp d) x0 x1 x2 x3 S mr sr Q) : ox_M sp (d + 1) 132 [.inr (.inr (x0)), .inl (x1), .inl (x2), .inl (x3)] mr sr S Q := Or.inr ⟨Nat.le_of_ble_eq_true rfl, ox_C_fold (ox_M_mono hsp d) h⟩
/-! OpcodeFramesModel.sortOf(I)I -/
set_option maxRecDepth 20000 in
def q_133 (E : ox_E) (x0 : Nat) (x1 : Int32) (S : ox_St) (mr sr : Nat) (Q : ox_Q) : Prop :=
  (((16 : Int32) ≤ x1 → (ox_has (S.K x0) 73 = true ∧ (ox_rdI (S.K (S.R 73 x0)) = true ∧ vp_in x1 (S.len (S.R 73 x0)) ∧ (True ∧ Q (some (.inl (S.rI (S.R 73 x0) (Int32.toNatClampNeg x1)))) S)))) ∧ (¬ (16 : Int32) ≤ x1 → (True ∧ Q (some (.inl ((-1) : Int32))) S)))
set_option maxRecDepth 20000 in
set_option maxHeartbeats 4000000 in
theorem f_133 {sp : ox_E} (hsp : ox_mono sp) {d : Nat} {mr sr : Nat} {x0 : Nat} {x1 : Int32} {S : ox_St} {Q : ox_Q} (h : q_133 (ox_M sp d) x0 x1 S mr sr Q) : ox_M sp (d + 1) 133 [.inr (.inr (x0)), .inl (x1)] mr sr S Q := Or.inr ⟨Nat.le_of_ble_eq_true rfl, ox_C_fold (ox_M_mono hsp d) h⟩
/-! OpcodeFramesModel.isTuple(I)Z -/
def k_134_5 (E : ox_E) (x0 : Nat) (x1 : Int32) (mr sr : Nat) (Q : ox_Q) : ox_Q := fun r_ T_ => ox_C E (ox_mi 134).2.2.2.1 (ox_mc 134) (ox_cut 134) Q 5 [some (.inr (.inr (x0))), some (.inl (x1))] (r_.toList ++ []) T_ mr sr
set_option maxRecDepth 20000 in
def q_134_5 (E : ox_E) (x0 : Nat) (x1 : Int32) (y0 : Int32) (S : ox_St) (mr sr : Nat) (Q : ox_Q) : Prop :=
  ((¬ y0 = 4 → (((0 : Int32) = 0 ∨ (0 : Int32) = 1) ∧ Q (some (.inl (0 : Int32))) S)) ∧ (y0 = 4 → (((1 : Int32) = 0 ∨ (1 : Int32) = 1) ∧ Q (some (.inl (1 : Int32))) S)))
set_option maxRecDepth 20000 in
set_option maxHeartbeats 4000000 in
theorem f_134_5 {E : ox_E} (hE : ox_mono E) {mr sr : Nat} {x0 : Nat} {x1 : Int32} {y0 : Int32} {S : ox_St} {Q : ox_Q} (h : q_134_5 E x0 x1 y0 S mr sr Q) : k_134_5 E x0 x1 mr sr Q (some (.inl (y0))) S := ox_C_fold hE h
set_option maxRecDepth 20000 in
def q_134 (E : ox_E) (x0 : Nat) (x1 : Int32) (S : ox_St) (mr sr : Nat) (Q : ox_Q) : Prop :=
  (2 ≤ 2 ∧ S.K x0 = 14 ∧ 0 ≤ 8 ∧ ∃ mc1 mk2, mc1 ≤ mr ∧ mk2 ≤ sr ∧ E 133 [.inr (.inr (x0)), .inl (x1)] mc1 mk2 S (k_134_5 E x0 x1 (mr - mc1) (sr - mk2) Q))
set_option maxRecDepth 20000 in
set_option maxHeartbeats 4000000 in
theorem f_134 {sp : ox_E} (hsp : ox_mono sp) {d : Nat} {mr sr : Nat} {x0 : Nat} {x1 : Int32} {S : ox_St} {Q : ox_Q} (h : q_134 (ox_M sp d) x0 x1 S mr sr Q) : ox_M sp (d + 1) 134 [.inr (.inr (x0)), .inl (x1)] mr sr S Q := Or.inr ⟨Nat.le_of_ble_eq_true rfl, ox_C_fold (ox_M_mono hsp d) h⟩
/-! OpcodeFramesModel.isNumber(I)Z -/
def k_135_15 (E : ox_E) (x0 : Nat) (x1 : Int32) (mr sr : Nat) (Q : ox_Q) : ox_Q := fun r_ T_ => ox_C E (ox_mi 135).2.2.2.1 (ox_mc 135) (ox_cut 135) Q 15 [some (.inr (.inr (x0))), some (.inl (x1))] (r_.toList ++ []) T_ mr sr
set_option maxRecDepth 20000 in
def q_135_15 (E : ox_E) (x0 : Nat) (x1 : Int32) (y0 : Int32) (S : ox_St) (mr sr : Nat) (Q : ox_Q) : Prop :=
  ((¬ y0 = 3 → (((0 : Int32) = 0 ∨ (0 : Int32) = 1) ∧ Q (some (.inl (0 : Int32))) S)) ∧ (y0 = 3 → (((1 : Int32) = 0 ∨ (1 : Int32) = 1) ∧ Q (some (.inl (1 : Int32))) S)))
set_option maxRecDepth 20000 in
set_option maxHeartbeats 4000000 in
theorem f_135_15 {E : ox_E} (hE : ox_mono E) {mr sr : Nat} {x0 : Nat} {x1 : Int32} {y0 : Int32} {S : ox_St} {Q : ox_Q} (h : q_135_15 E x0 x1 y0 S mr sr Q) : k_135_15 E x0 x1 mr sr Q (some (.inl (y0))) S := ox_C_fold hE h
set_option maxRecDepth 20000 in
def q_135 (E : ox_E) (x0 : Nat) (x1 : Int32) (S : ox_St) (mr sr : Nat) (Q : ox_Q) : Prop :=
  ((x1 = 1 → (((1 : Int32) = 0 ∨ (1 : Int32) = 1) ∧ Q (some (.inl (1 : Int32))) S)) ∧ (¬ x1 = 1 → ((x1 = 2 → (((1 : Int32) = 0 ∨ (1 : Int32) = 1) ∧ Q (some (.inl (1 : Int32))) S)) ∧ (¬ x1 = 2 → (2 ≤ 2 ∧ S.K x0 = 14 ∧ 0 ≤ 8 ∧ ∃ mc1 mk2, mc1 ≤ mr ∧ mk2 ≤ sr ∧ E 133 [.inr (.inr (x0)), .inl (x1)] mc1 mk2 S (k_135_15 E x0 x1 (mr - mc1) (sr - mk2) Q))))))
set_option maxRecDepth 20000 in
set_option maxHeartbeats 4000000 in
theorem f_135 {sp : ox_E} (hsp : ox_mono sp) {d : Nat} {mr sr : Nat} {x0 : Nat} {x1 : Int32} {S : ox_St} {Q : ox_Q} (h : q_135 (ox_M sp d) x0 x1 S mr sr Q) : ox_M sp (d + 1) 135 [.inr (.inr (x0)), .inl (x1)] mr sr S Q := Or.inr ⟨Nat.le_of_ble_eq_true rfl, ox_C_fold (ox_M_mono hsp d) h⟩
/-! OpcodeFramesModel.isKind(I)Z -/
set_option maxRecDepth 20000 in
def q_136 (E : ox_E) (x0 : Int32) (S : ox_St) (mr sr : Nat) (Q : ox_Q) : Prop :=
  ((x0 < 4 → (((0 : Int32) = 0 ∨ (0 : Int32) = 1) ∧ Q (some (.inl (0 : Int32))) S)) ∧ (¬ x0 < 4 → (((11 : Int32) ≤ x0 → (((0 : Int32) = 0 ∨ (0 : Int32) = 1) ∧ Q (some (.inl (0 : Int32))) S)) ∧ (¬ (11 : Int32) ≤ x0 → (((1 : Int32) = 0 ∨ (1 : Int32) = 1) ∧ Q (some (.inl (1 : Int32))) S)))))
set_option maxRecDepth 20000 in
set_option maxHeartbeats 4000000 in
theorem f_136 {sp : ox_E} (hsp : ox_mono sp) {d : Nat} {mr sr : Nat} {x0 : Int32} {S : ox_St} {Q : ox_Q} (h : q_136 (ox_M sp d) x0 S mr sr Q) : ox_M sp (d + 1) 136 [.inl (x0)] mr sr S Q := Or.inr ⟨Nat.le_of_ble_eq_true rfl, ox_C_fold (ox_M_mono hsp d) h⟩
/-! OpcodeFramesModel.deep(I)I -/
def k_137_5 (E : ox_E) (x0 : Nat) (x1 : Int32) (mr sr : Nat) (Q : ox_Q) : ox_Q := fun r_ T_ => ox_C E (ox_mi 137).2.2.2.1 (ox_mc 137) (ox_cut 137) Q 5 [some (.inr (.inr (x0))), some (.inl (x1))] (r_.toList ++ []) T_ mr sr
set_option maxRecDepth 20000 in
def q_137_5 (E : ox_E) (x0 : Nat) (x1 : Int32) (y0 : Int32) (S : ox_St) (mr sr : Nat) (Q : ox_Q) : Prop :=
  ((y0 = 0 → (True ∧ Q (some (.inl (0 : Int32))) S)) ∧ (¬ y0 = 0 → (ox_has (S.K x0) 73 = true ∧ (ox_rdI (S.K (S.R 73 x0)) = true ∧ vp_in (x1 + 1) (S.len (S.R 73 x0)) ∧ (True ∧ Q (some (.inl (S.rI (S.R 73 x0) (Int32.toNatClampNeg (x1 + 1))))) S)))))
set_option maxRecDepth 20000 in
set_option maxHeartbeats 4000000 in
theorem f_137_5 {E : ox_E} (hE : ox_mono E) {mr sr : Nat} {x0 : Nat} {x1 : Int32} {y0 : Int32} {S : ox_St} {Q : ox_Q} (h : q_137_5 E x0 x1 y0 S mr sr Q) : k_137_5 E x0 x1 mr sr Q (some (.inl (y0))) S := ox_C_fold hE h
set_option maxRecDepth 20000 in
def q_137 (E : ox_E) (x0 : Nat) (x1 : Int32) (S : ox_St) (mr sr : Nat) (Q : ox_Q) : Prop :=
  (2 ≤ 2 ∧ S.K x0 = 14 ∧ 0 ≤ 8 ∧ ∃ mc1 mk2, mc1 ≤ mr ∧ mk2 ≤ sr ∧ E 134 [.inr (.inr (x0)), .inl (x1)] mc1 mk2 S (k_137_5 E x0 x1 (mr - mc1) (sr - mk2) Q))
set_option maxRecDepth 20000 in
set_option maxHeartbeats 4000000 in
theorem f_137 {sp : ox_E} (hsp : ox_mono sp) {d : Nat} {mr sr : Nat} {x0 : Nat} {x1 : Int32} {S : ox_St} {Q : ox_Q} (h : q_137 (ox_M sp d) x0 x1 S mr sr Q) : ox_M sp (d + 1) 137 [.inr (.inr (x0)), .inl (x1)] mr sr S Q := Or.inr ⟨Nat.le_of_ble_eq_true rfl, ox_C_fold (ox_M_mono hsp d) h⟩
/-! OpcodeFramesModel.load([II)I -/
def c_138_23 (E : ox_E) (x0 : Nat) (x1 : Nat) (x2 : Int32) (x3 : Int32) (S : ox_St) (mr sr : Nat) (Q : ox_Q) : Prop := ox_C E (ox_mi 138).2.2.2.1 (ox_mc 138) (ox_cut 138) Q 23 [some (.inr (.inr (x0))), some (.inr (.inr (x1))), some (.inl (x2)), some (.inl (x3))] [] S mr sr
set_option maxRecDepth 20000 in
def q_138_23 (E : ox_E) (x0 : Nat) (x1 : Nat) (x2 : Int32) (x3 : Int32) (S : ox_St) (mr sr : Nat) (Q : ox_Q) : Prop :=
  (ox_has (S.K x0) 73 = true ∧ (ox_rdI (S.K (S.R 73 x0)) = true ∧ vp_in (x2 + 2) (S.len (S.R 73 x0)) ∧ (((S.rI (S.R 73 x0) (Int32.toNatClampNeg (x2 + 2))) ≤ x3 → (ox_has (S.K x0) 73 = true ∧ (ox_rdI (S.K (S.R 73 x0)) = true ∧ vp_in (x2 + 2) (S.len (S.R 73 x0)) ∧ (True ∧ Q (some (.inl (S.rI (S.R 73 x0) (Int32.toNatClampNeg (x2 + 2))))) S)))) ∧ (¬ (S.rI (S.R 73 x0) (Int32.toNatClampNeg (x2 + 2))) ≤ x3 → (ox_has (S.K x0) 73 = true ∧ (ox_rdI (S.K (S.R 73 x0)) = true ∧ vp_in ((x2 + 3) + x3) (S.len (S.R 73 x0)) ∧ (S.K x1 = 15 ∧ vp_in x3 (S.len x1) ∧ (let S1 := S.wI x1 (Int32.toNatClampNeg x3) (S.rI (S.R 73 x0) (Int32.toNatClampNeg ((x2 + 3) + x3)))
  c_138_23 E x0 x1 x2 (x3 + 1) S1 mr sr Q))))))))
set_option maxRecDepth 20000 in
set_option maxHeartbeats 4000000 in
theorem f_138_23 {E : ox_E} (hE : ox_mono E) {mr sr : Nat} {x0 : Nat} {x1 : Nat} {x2 : Int32} {x3 : Int32} {S : ox_St} {Q : ox_Q} (h : q_138_23 E x0 x1 x2 x3 S mr sr Q) : c_138_23 E x0 x1 x2 x3 S mr sr Q := ox_C_fold hE h
set_option maxRecDepth 20000 in
def q_138 (E : ox_E) (x0 : Nat) (x1 : Nat) (x2 : Int32) (S : ox_St) (mr sr : Nat) (Q : ox_Q) : Prop :=
  (((16 : Int32) ≤ x2 → c_138_23 E x0 x1 x2 0 S mr sr Q) ∧ (¬ (16 : Int32) ≤ x2 → (S.K x1 = 15 ∧ vp_in 0 (S.len x1) ∧ (let S1 := S.wI x1 (Int32.toNatClampNeg 0) 1
  ((¬ x2 = 2 → (True ∧ Q (some (.inl (0 : Int32))) S1)) ∧ (x2 = 2 → (True ∧ Q (some (.inl (1 : Int32))) S1)))))))
set_option maxRecDepth 20000 in
set_option maxHeartbeats 4000000 in
theorem f_138 {sp : ox_E} (hsp : ox_mono sp) {d : Nat} {mr sr : Nat} {x0 : Nat} {x1 : Nat} {x2 : Int32} {S : ox_St} {Q : ox_Q} (h : q_138 (ox_M sp d) x0 x1 x2 S mr sr Q) : ox_M sp (d + 1) 138 [.inr (.inr (x0)), .inr (.inr (x1)), .inl (x2)] mr sr S Q := Or.inr ⟨Nat.le_of_ble_eq_true rfl, ox_C_fold (ox_M_mono hsp d) h⟩
/-! OpcodeFramesModel.loadBoth(II)V -/
def k_139_10 (E : ox_E) (x0 : Nat) (x1 : Int32) (x2 : Int32) (y1 : Nat) (mr sr : Nat) (Q : ox_Q) : ox_Q := fun r_ T_ => ox_C E (ox_mi 139).2.2.2.1 (ox_mc 139) (ox_cut 139) Q 10 [some (.inr (.inr (x0))), some (.inl (x1)), some (.inl (x2))] (r_.toList ++ [.inr (.inr (y1))]) T_ mr sr
def k_139_50 (E : ox_E) (x0 : Nat) (x1 : Int32) (x2 : Int32) (y1 : Nat) (mr sr : Nat) (Q : ox_Q) : ox_Q := fun r_ T_ => ox_C E (ox_mi 139).2.2.2.1 (ox_mc 139) (ox_cut 139) Q 50 [some (.inr (.inr (x0))), some (.inl (x1)), some (.inl (x2))] (r_.toList ++ [.inr (.inr (y1))]) T_ mr sr
set_option maxRecDepth 20000 in
def q_139_50 (E : ox_E) (x0 : Nat) (x1 : Int32) (x2 : Int32) (y0 : Int32) (y1 : Nat) (S : ox_St) (mr sr : Nat) (Q : ox_Q) : Prop :=
  (ox_has (S.K y1) 114 = true ∧ (let S1 := S.sI 114 y1 y0
  ((x2 < 16 → (ox_has (S1.K x0) 118 = true ∧ (((0 : Int32) = 0 ∨ (0 : Int32) = 1) ∧ (let S2 := S1.sI 118 x0 0
  ((ox_mi 139).2.2.2.1 = none ∧ Q none S2))))) ∧ (¬ x2 < 16 → (ox_has (S1.K x0) 73 = true ∧ (ox_rdI (S1.K (S1.R 73 x0)) = true ∧ vp_in (x2 + 1) (S1.len (S1.R 73 x0)) ∧ ((¬ (S1.rI (S1.R 73 x0) (Int32.toNatClampNeg (x2 + 1))) = 1 → (ox_has (S1.K x0) 118 = true ∧ (((0 : Int32) = 0 ∨ (0 : Int32) = 1) ∧ (let S3 := S1.sI 118 x0 0
  ((ox_mi 139).2.2.2.1 = none ∧ Q none S3))))) ∧ ((S1.rI (S1.R 73 x0) (Int32.toNatClampNeg (x2 + 1))) = 1 → (ox_has (S1.K x0) 118 = true ∧ (((1 : Int32) = 0 ∨ (1 : Int32) = 1) ∧ (let S4 := S1.sI 118 x0 1
  ((ox_mi 139).2.2.2.1 = none ∧ Q none S4))))))))))))
set_option maxRecDepth 20000 in
set_option maxHeartbeats 4000000 in
theorem f_139_50 {E : ox_E} (hE : ox_mono E) {mr sr : Nat} {x0 : Nat} {x1 : Int32} {x2 : Int32} {y0 : Int32} {y1 : Nat} {S : ox_St} {Q : ox_Q} (h : q_139_50 E x0 x1 x2 y0 y1 S mr sr Q) : k_139_50 E x0 x1 x2 y1 mr sr Q (some (.inl (y0))) S := ox_C_fold hE h
set_option maxRecDepth 20000 in
def q_139_10 (E : ox_E) (x0 : Nat) (x1 : Int32) (x2 : Int32) (y0 : Int32) (y1 : Nat) (S : ox_St) (mr sr : Nat) (Q : ox_Q) : Prop :=
  (ox_has (S.K y1) 113 = true ∧ (let S1 := S.sI 113 y1 y0
  ((x1 < 16 → (ox_has (S1.K x0) 117 = true ∧ (((0 : Int32) = 0 ∨ (0 : Int32) = 1) ∧ (let S2 := S1.sI 117 x0 0
  (ox_has (S2.K x0) 110 = true ∧ (3 ≤ 4 ∧ S2.K x0 = 14 ∧ 1 ≤ 8 ∧ ∃ mc3 mk4, mc3 ≤ mr ∧ mk4 ≤ sr ∧ E 138 [.inr (.inr (x0)), .inr (.inr (S2.R 110 x0)), .inl (x2)] mc3 mk4 S2 (k_139_50 E x0 x1 x2 x0 (mr - mc3) (sr - mk4) Q))))))) ∧ (¬ x1 < 16 → (ox_has (S1.K x0) 73 = true ∧ (ox_rdI (S1.K (S1.R 73 x0)) = true ∧ vp_in (x1 + 1) (S1.len (S1.R 73 x0)) ∧ ((¬ (S1.rI (S1.R 73 x0) (Int32.toNatClampNeg (x1 + 1))) = 1 → (ox_has (S1.K x0) 117 = true ∧ (((0 : Int32) = 0 ∨ (0 : Int32) = 1) ∧ (let S5 := S1.sI 117 x0 0
  (ox_has (S5.K x0) 110 = true ∧ (3 ≤ 4 ∧ S5.K x0 = 14 ∧ 1 ≤ 8 ∧ ∃ mc6 mk7, mc6 ≤ mr ∧ mk7 ≤ sr ∧ E 138 [.inr (.inr (x0)), .inr (.inr (S5.R 110 x0)), .inl (x2)] mc6 mk7 S5 (k_139_50 E x0 x1 x2 x0 (mr - mc6) (sr - mk7) Q))))))) ∧ ((S1.rI (S1.R 73 x0) (Int32.toNatClampNeg (x1 + 1))) = 1 → (ox_has (S1.K x0) 117 = true ∧ (((1 : Int32) = 0 ∨ (1 : Int32) = 1) ∧ (let S8 := S1.sI 117 x0 1
  (ox_has (S8.K x0) 110 = true ∧ (3 ≤ 4 ∧ S8.K x0 = 14 ∧ 1 ≤ 8 ∧ ∃ mc9 mk10, mc9 ≤ mr ∧ mk10 ≤ sr ∧ E 138 [.inr (.inr (x0)), .inr (.inr (S8.R 110 x0)), .inl (x2)] mc9 mk10 S8 (k_139_50 E x0 x1 x2 x0 (mr - mc9) (sr - mk10) Q))))))))))))))
set_option maxRecDepth 20000 in
set_option maxHeartbeats 4000000 in
theorem f_139_10 {E : ox_E} (hE : ox_mono E) {mr sr : Nat} {x0 : Nat} {x1 : Int32} {x2 : Int32} {y0 : Int32} {y1 : Nat} {S : ox_St} {Q : ox_Q} (h : q_139_10 E x0 x1 x2 y0 y1 S mr sr Q) : k_139_10 E x0 x1 x2 y1 mr sr Q (some (.inl (y0))) S := ox_C_fold hE h
set_option maxRecDepth 20000 in
def q_139 (E : ox_E) (x0 : Nat) (x1 : Int32) (x2 : Int32) (S : ox_St) (mr sr : Nat) (Q : ox_Q) : Prop :=
  (ox_has (S.K x0) 109 = true ∧ (3 ≤ 4 ∧ S.K x0 = 14 ∧ 1 ≤ 8 ∧ ∃ mc1 mk2, mc1 ≤ mr ∧ mk2 ≤ sr ∧ E 138 [.inr (.inr (x0)), .inr (.inr (S.R 109 x0)), .inl (x1)] mc1 mk2 S (k_139_10 E x0 x1 x2 x0 (mr - mc1) (sr - mk2) Q)))
set_option maxRecDepth 20000 in
set_option maxHeartbeats 4000000 in
theorem f_139 {sp : ox_E} (hsp : ox_mono sp) {d : Nat} {mr sr : Nat} {x0 : Nat} {x1 : Int32} {x2 : Int32} {S : ox_St} {Q : ox_Q} (h : q_139 (ox_M sp d) x0 x1 x2 S mr sr Q) : ox_M sp (d + 1) 139 [.inr (.inr (x0)), .inl (x1), .inl (x2)] mr sr S Q := Or.inr ⟨Nat.le_of_ble_eq_true rfl, ox_C_fold (ox_M_mono hsp d) h⟩
/-! OpcodeFramesModel.number()I -/
def c_140_0 (E : ox_E) (x0 : Nat) (S : ox_St) (mr sr : Nat) (Q : ox_Q) : Prop := ox_C E (ox_mi 140).2.2.2.1 (ox_mc 140) (ox_cut 140) Q 0 [some (.inr (.inr (x0))), none, none] [] S mr sr
def k_140_73 (E : ox_E) (x0 : Nat) (mr sr : Nat) (Q : ox_Q) : ox_Q := fun r_ T_ => ox_C E (ox_mi 140).2.2.2.1 (ox_mc 140) (ox_cut 140) Q 73 [some (.inr (.inr (x0))), none, none] (r_.toList ++ []) T_ mr sr
def c_140_76 (E : ox_E) (x0 : Nat) (x1 : Int32) (x2 : Int32) (S : ox_St) (mr sr : Nat) (Q : ox_Q) : Prop := ox_C E (ox_mi 140).2.2.2.1 (ox_mc 140) (ox_cut 140) Q 76 [some (.inr (.inr (x0))), some (.inl (x1)), some (.inl (x2))] [] S mr sr
set_option maxRecDepth 20000 in
def q_140_76 (E : ox_E) (x0 : Nat) (x1 : Int32) (x2 : Int32) (S : ox_St) (mr sr : Nat) (Q : ox_Q) : Prop :=
  (ox_has (S.K x0) 115 = true ∧ (((S.I 115 x0) ≤ x2 → (ox_has (S.K x0) 75 = true ∧ (ox_has (S.K x0) 115 = true ∧ (ox_has (S.K x0) 75 = true ∧ (let S1 := S.sI 75 x0 ((S.I 75 x0) + (S.I 115 x0))
  (True ∧ Q (some (.inl x1)) S1)))))) ∧ (¬ (S.I 115 x0) ≤ x2 → (ox_has (S.K x0) 73 = true ∧ (ox_has (S.K x0) 111 = true ∧ (ox_rdI (S.K (S.R 111 x0)) = true ∧ vp_in x2 (S.len (S.R 111 x0)) ∧ (S.K (S.R 73 x0) = 15 ∧ vp_in ((x1 + 3) + x2) (S.len (S.R 73 x0)) ∧ (let S2 := S.wI (S.R 73 x0) (Int32.toNatClampNeg ((x1 + 3) + x2)) (S.rI (S.R 111 x0) (Int32.toNatClampNeg x2))
  c_140_76 E x0 x1 (x2 + 1) S2 mr sr Q))))))))
set_option maxRecDepth 20000 in
set_option maxHeartbeats 4000000 in
theorem f_140_76 {E : ox_E} (hE : ox_mono E) {mr sr : Nat} {x0 : Nat} {x1 : Int32} {x2 : Int32} {S : ox_St} {Q : ox_Q} (h : q_140_76 E x0 x1 x2 S mr sr Q) : c_140_76 E x0 x1 x2 S mr sr Q := ox_C_fold hE h
set_option maxRecDepth 20000 in
def q_140_73 (E : ox_E) (x0 : Nat) (y0 : Int32) (S : ox_St) (mr sr : Nat) (Q : ox_Q) : Prop :=
  c_140_76 E x0 y0 0 S mr sr Q
set_option maxRecDepth 20000 in
set_option maxHeartbeats 4000000 in
theorem f_140_73 {E : ox_E} (hE : ox_mono E) {mr sr : Nat} {x0 : Nat} {y0 : Int32} {S : ox_St} {Q : ox_Q} (h : q_140_73 E x0 y0 S mr sr Q) : k_140_73 E x0 mr sr Q (some (.inl (y0))) S := ox_C_fold hE h
set_option maxRecDepth 20000 in
def q_140_0 (E : ox_E) (x0 : Nat) (S : ox_St) (mr sr : Nat) (Q : ox_Q) : Prop :=
  (ox_has (S.K x0) 115 = true ∧ (((S.I 115 x0) ≤ 0 → (ox_has (S.K x0) 115 = true ∧ (((S.I 115 x0) ≤ 16 → (ox_has (S.K x0) 119 = true ∧ (((S.I 119 x0) = 0 → (ox_has (S.K x0) 115 = true ∧ (4 ≤ 4 ∧ S.K x0 = 14 ∧ 0 ≤ 8 ∧ ∃ mc1 mk2, mc1 ≤ mr ∧ mk2 ≤ sr ∧ E 132 [.inr (.inr (x0)), .inl (3), .inl (0), .inl (S.I 115 x0)] mc1 mk2 S (k_140_73 E x0 (mr - mc1) (sr - mk2) Q)))) ∧ (¬ (S.I 119 x0) = 0 → (ox_has (S.K x0) 115 = true ∧ (((S.I 115 x0) ≤ 0 → (ox_has (S.K x0) 115 = true ∧ (4 ≤ 4 ∧ S.K x0 = 14 ∧ 0 ≤ 8 ∧ ∃ mc3 mk4, mc3 ≤ mr ∧ mk4 ≤ sr ∧ E 132 [.inr (.inr (x0)), .inl (3), .inl (0), .inl (S.I 115 x0)] mc3 mk4 S (k_140_73 E x0 (mr - mc3) (sr - mk4) Q)))) ∧ (¬ (S.I 115 x0) ≤ 0 → (ox_has (S.K x0) 115 = true ∧ (4 ≤ 4 ∧ S.K x0 = 14 ∧ 0 ≤ 8 ∧ ∃ mc5 mk6, mc5 ≤ mr ∧ mk6 ≤ sr ∧ E 132 [.inr (.inr (x0)), .inl (3), .inl (1), .inl (S.I 115 x0)] mc5 mk6 S (k_140_73 E x0 (mr - mc5) (sr - mk6) Q)))))))))) ∧ (¬ (S.I 115 x0) ≤ 16 → (True ∧ Q (some (.inl ((-1) : Int32))) S))))) ∧ (¬ (S.I 115 x0) ≤ 0 → (ox_has (S.K x0) 111 = true ∧ (ox_has (S.K x0) 115 = true ∧ (ox_rdI (S.K (S.R 111 x0)) = true ∧ vp_in ((S.I 115 x0) - 1) (S.len (S.R 111 x0)) ∧ ((¬ (S.rI (S.R 111 x0) (Int32.toNatClampNeg ((S.I 115 x0) - 1))) = 0 → (ox_has (S.K x0) 115 = true ∧ (((S.I 115 x0) ≤ 16 → (ox_has (S.K x0) 119 = true ∧ (((S.I 119 x0) = 0 → (ox_has (S.K x0) 115 = true ∧ (4 ≤ 4 ∧ S.K x0 = 14 ∧ 0 ≤ 8 ∧ ∃ mc7 mk8, mc7 ≤ mr ∧ mk8 ≤ sr ∧ E 132 [.inr (.inr (x0)), .inl (3), .inl (0), .inl (S.I 115 x0)] mc7 mk8 S (k_140_73 E x0 (mr - mc7) (sr - mk8) Q)))) ∧ (¬ (S.I 119 x0) = 0 → (ox_has (S.K x0) 115 = true ∧ (((S.I 115 x0) ≤ 0 → (ox_has (S.K x0) 115 = true ∧ (4 ≤ 4 ∧ S.K x0 = 14 ∧ 0 ≤ 8 ∧ ∃ mc9 mk10, mc9 ≤ mr ∧ mk10 ≤ sr ∧ E 132 [.inr (.inr (x0)), .inl (3), .inl (0), .inl (S.I 115 x0)] mc9 mk10 S (k_140_73 E x0 (mr - mc9) (sr - mk10) Q)))) ∧ (¬ (S.I 115 x0) ≤ 0 → (ox_has (S.K x0) 115 = true ∧ (4 ≤ 4 ∧ S.K x0 = 14 ∧ 0 ≤ 8 ∧ ∃ mc11 mk12, mc11 ≤ mr ∧ mk12 ≤ sr ∧ E 132 [.inr (.inr (x0)), .inl (3), .inl (1), .inl (S.I 115 x0)] mc11 mk12 S (k_140_73 E x0 (mr - mc11) (sr - mk12) Q)))))))))) ∧ (¬ (S.I 115 x0) ≤ 16 → (True ∧ Q (some (.inl ((-1) : Int32))) S))))) ∧ ((S.rI (S.R 111 x0) (Int32.toNatClampNeg ((S.I 115 x0) - 1))) = 0 → (ox_has (S.K x0) 115 = true ∧ (ox_has (S.K x0) 115 = true ∧ (let S13 := S.sI 115 x0 ((S.I 115 x0) - 1)
  c_140_0 E x0 S13 mr sr Q)))))))))))
set_option maxRecDepth 20000 in
set_option maxHeartbeats 4000000 in
theorem f_140_0 {E : ox_E} (hE : ox_mono E) {mr sr : Nat} {x0 : Nat} {S : ox_St} {Q : ox_Q} (h : q_140_0 E x0 S mr sr Q) : c_140_0 E x0 S mr sr Q := ox_C_fold hE h
/-! OpcodeFramesModel.compare([II[II)I -/
def c_141_21 (E : ox_E) (x0 : Nat) (x1 : Int32) (x2 : Nat) (x3 : Int32) (x4 : Int32) (S : ox_St) (mr sr : Nat) (Q : ox_Q) : Prop := ox_C E (ox_mi 141).2.2.2.1 (ox_mc 141) (ox_cut 141) Q 21 [some (.inr (.inr (x0))), some (.inl (x1)), some (.inr (.inr (x2))), some (.inl (x3)), some (.inl (x4))] [] S mr sr
set_option maxRecDepth 20000 in
def q_141_21 (E : ox_E) (x0 : Nat) (x1 : Int32) (x2 : Nat) (x3 : Int32) (x4 : Int32) (S : ox_St) (mr sr : Nat) (Q : ox_Q) : Prop :=
  ((x4 < 0 → (((0 : Int32) ≤ x4 → (ox_rdI (S.K x0) = true ∧ vp_in x4 (S.len x0) ∧ (ox_rdI (S.K x2) = true ∧ vp_in x4 (S.len x2) ∧ (((S.rI x2 (Int32.toNatClampNeg x4)) ≤ (S.rI x0 (Int32.toNatClampNeg x4)) → (True ∧ Q (some (.inl (1 : Int32))) S)) ∧ (¬ (S.rI x2 (Int32.toNatClampNeg x4)) ≤ (S.rI x0 (Int32.toNatClampNeg x4)) → (True ∧ Q (some (.inl ((-1) : Int32))) S)))))) ∧ (¬ (0 : Int32) ≤ x4 → (True ∧ Q (some (.inl (0 : Int32))) S)))) ∧ (¬ x4 < 0 → (ox_rdI (S.K x0) = true ∧ vp_in x4 (S.len x0) ∧ (ox_rdI (S.K x2) = true ∧ vp_in x4 (S.len x2) ∧ ((¬ (S.rI x0 (Int32.toNatClampNeg x4)) = (S.rI x2 (Int32.toNatClampNeg x4)) → (((0 : Int32) ≤ x4 → (ox_rdI (S.K x0) = true ∧ vp_in x4 (S.len x0) ∧ (ox_rdI (S.K x2) = true ∧ vp_in x4 (S.len x2) ∧ (((S.rI x2 (Int32.toNatClampNeg x4)) ≤ (S.rI x0 (Int32.toNatClampNeg x4)) → (True ∧ Q (some (.inl (1 : Int32))) S)) ∧ (¬ (S.rI x2 (Int32.toNatClampNeg x4)) ≤ (S.rI x0 (Int32.toNatClampNeg x4)) → (True ∧ Q (some (.inl ((-1) : Int32))) S)))))) ∧ (¬ (0 : Int32) ≤ x4 → (True ∧ Q (some (.inl (0 : Int32))) S)))) ∧ ((S.rI x0 (Int32.toNatClampNeg x4)) = (S.rI x2 (Int32.toNatClampNeg x4)) → c_141_21 E x0 x1 x2 x3 (x4 + (-1)) S mr sr Q))))))
set_option maxRecDepth 20000 in
set_option maxHeartbeats 4000000 in
theorem f_141_21 {E : ox_E} (hE : ox_mono E) {mr sr : Nat} {x0 : Nat} {x1 : Int32} {x2 : Nat} {x3 : Int32} {x4 : Int32} {S : ox_St} {Q : ox_Q} (h : q_141_21 E x0 x1 x2 x3 x4 S mr sr Q) : c_141_21 E x0 x1 x2 x3 x4 S mr sr Q := ox_C_fold hE h
set_option maxRecDepth 20000 in
def q_141 (E : ox_E) (x0 : Nat) (x1 : Int32) (x2 : Nat) (x3 : Int32) (S : ox_St) (mr sr : Nat) (Q : ox_Q) : Prop :=
  ((x1 = x3 → (let w1 : Int32 := x1 - 1
  c_141_21 E x0 x1 x2 x3 w1 S mr sr Q)) ∧ (¬ x1 = x3 → ((x3 ≤ x1 → (True ∧ Q (some (.inl (1 : Int32))) S)) ∧ (¬ x3 ≤ x1 → (True ∧ Q (some (.inl ((-1) : Int32))) S)))))
set_option maxRecDepth 20000 in
set_option maxHeartbeats 4000000 in
theorem f_141 {sp : ox_E} (hsp : ox_mono sp) {d : Nat} {mr sr : Nat} {x0 : Nat} {x1 : Int32} {x2 : Nat} {x3 : Int32} {S : ox_St} {Q : ox_Q} (h : q_141 (ox_M sp d) x0 x1 x2 x3 S mr sr Q) : ox_M sp (d + 1) 141 [.inr (.inr (x0)), .inl (x1), .inr (.inr (x2)), .inl (x3)] mr sr S Q := Or.inr ⟨Nat.le_of_ble_eq_true rfl, ox_C_fold (ox_M_mono hsp d) h⟩
/-! OpcodeFramesModel.order(II)I -/
def k_142_6 (E : ox_E) (x0 : Nat) (x1 : Int32) (x2 : Int32) (mr sr : Nat) (Q : ox_Q) : ox_Q := fun r_ T_ => ox_C E (ox_mi 142).2.2.2.1 (ox_mc 142) (ox_cut 142) Q 6 [some (.inr (.inr (x0))), some (.inl (x1)), some (.inl (x2)), none] (r_.toList ++ []) T_ mr sr
def k_142_49 (E : ox_E) (x0 : Nat) (x1 : Int32) (x2 : Int32) (mr sr : Nat) (Q : ox_Q) : ox_Q := fun r_ T_ => ox_C E (ox_mi 142).2.2.2.1 (ox_mc 142) (ox_cut 142) Q 49 [some (.inr (.inr (x0))), some (.inl (x1)), some (.inl (x2)), none] (r_.toList ++ []) T_ mr sr
set_option maxRecDepth 20000 in
def q_142_49 (E : ox_E) (x0 : Nat) (x1 : Int32) (x2 : Int32) (y0 : Int32) (S : ox_St) (mr sr : Nat) (Q : ox_Q) : Prop :=
  (ox_has (S.K x0) 117 = true ∧ (((S.I 117 x0) = 0 → (True ∧ Q (some (.inl y0)) S)) ∧ (¬ (S.I 117 x0) = 0 → (True ∧ Q (some (.inl (-y0))) S))))
set_option maxRecDepth 20000 in
set_option maxHeartbeats 4000000 in
theorem f_142_49 {E : ox_E} (hE : ox_mono E) {mr sr : Nat} {x0 : Nat} {x1 : Int32} {x2 : Int32} {y0 : Int32} {S : ox_St} {Q : ox_Q} (h : q_142_49 E x0 x1 x2 y0 S mr sr Q) : k_142_49 E x0 x1 x2 mr sr Q (some (.inl (y0))) S := ox_C_fold hE h
set_option maxRecDepth 20000 in
def q_142_6 (E : ox_E) (x0 : Nat) (x1 : Int32) (x2 : Int32) (S : ox_St) (mr sr : Nat) (Q : ox_Q) : Prop :=
  (ox_has (S.K x0) 117 = true ∧ (ox_has (S.K x0) 118 = true ∧ (((S.I 117 x0) = (S.I 118 x0) → (ox_has (S.K x0) 109 = true ∧ (ox_has (S.K x0) 113 = true ∧ (ox_has (S.K x0) 110 = true ∧ (ox_has (S.K x0) 114 = true ∧ (4 ≤ 4 ∧ 0 ≤ 8 ∧ ∃ mc1 mk2, mc1 ≤ mr ∧ mk2 ≤ sr ∧ E 141 [.inr (.inr (S.R 109 x0)), .inl (S.I 113 x0), .inr (.inr (S.R 110 x0)), .inl (S.I 114 x0)] mc1 mk2 S (k_142_49 E x0 x1 x2 (mr - mc1) (sr - mk2) Q))))))) ∧ (¬ (S.I 117 x0) = (S.I 118 x0) → (ox_has (S.K x0) 117 = true ∧ (((S.I 117 x0) = 0 → (True ∧ Q (some (.inl (1 : Int32))) S)) ∧ (¬ (S.I 117 x0) = 0 → (True ∧ Q (some (.inl ((-1) : Int32))) S))))))))
set_option maxRecDepth 20000 in
set_option maxHeartbeats 4000000 in
theorem f_142_6 {E : ox_E} (hE : ox_mono E) {mr sr : Nat} {x0 : Nat} {x1 : Int32} {x2 : Int32} {S : ox_St} {Q : ox_Q} (h : q_142_6 E x0 x1 x2 S mr sr Q) : k_142_6 E x0 x1 x2 mr sr Q none S := ox_C_fold hE h
set_option maxRecDepth 20000 in
def q_142 (E : ox_E) (x0 : Nat) (x1 : Int32) (x2 : Int32) (S : ox_St) (mr sr : Nat) (Q : ox_Q) : Prop :=
  (3 ≤ 3 ∧ S.K x0 = 14 ∧ 0 ≤ 8 ∧ ∃ mc1 mk2, mc1 ≤ mr ∧ mk2 ≤ sr ∧ E 139 [.inr (.inr (x0)), .inl (x1), .inl (x2)] mc1 mk2 S (k_142_6 E x0 x1 x2 (mr - mc1) (sr - mk2) Q))
set_option maxRecDepth 20000 in
set_option maxHeartbeats 4000000 in
theorem f_142 {sp : ox_E} (hsp : ox_mono sp) {d : Nat} {mr sr : Nat} {x0 : Nat} {x1 : Int32} {x2 : Int32} {S : ox_St} {Q : ox_Q} (h : q_142 (ox_M sp d) x0 x1 x2 S mr sr Q) : ox_M sp (d + 1) 142 [.inr (.inr (x0)), .inl (x1), .inl (x2)] mr sr S Q := Or.inr ⟨Nat.le_of_ble_eq_true rfl, ox_C_fold (ox_M_mono hsp d) h⟩
/-! OpcodeFramesModel.addUp(Z)Z -/
def k_143_23 (E : ox_E) (x0 : Nat) (x1 : Int32) (mr sr : Nat) (Q : ox_Q) : ox_Q := fun r_ T_ => ox_C E (ox_mi 143).2.2.2.1 (ox_mc 143) (ox_cut 143) Q 23 [some (.inr (.inr (x0))), some (.inl (x1)), none, none, none, none, none, none] (r_.toList ++ []) T_ mr sr
def c_143_65 (E : ox_E) (x0 : Nat) (x1 : Int32) (x2 : Int32) (x3 : Int32) (x4 : Int32) (S : ox_St) (mr sr : Nat) (Q : ox_Q) : Prop := ox_C E (ox_mi 143).2.2.2.1 (ox_mc 143) (ox_cut 143) Q 65 [some (.inr (.inr (x0))), some (.inl (x1)), some (.inl (x2)), some (.inl (x3)), some (.inl (x4)), none, none, none] [] S mr sr
set_option maxRecDepth 20000 in
def q_143_65 (E : ox_E) (x0 : Nat) (x1 : Int32) (x2 : Int32) (x3 : Int32) (x4 : Int32) (S : ox_St) (mr sr : Nat) (Q : ox_Q) : Prop :=
  (ox_has (S.K x0) 115 = true ∧ (((S.I 115 x0) ≤ x4 → ((x2 = 0 ∨ x2 = 1) ∧ Q (some (.inl x2)) S)) ∧ (¬ (S.I 115 x0) ≤ x4 → (ox_has (S.K x0) 113 = true ∧ (((S.I 113 x0) ≤ x4 → (ox_has (S.K x0) 114 = true ∧ (((S.I 114 x0) ≤ x4 → ((x1 = 0 → (let w1 : Int32 := (0 + 0) + x3
  (ox_has (S.K x0) 111 = true ∧ (S.K (S.R 111 x0) = 15 ∧ vp_in x4 (S.len (S.R 111 x0)) ∧ (let S2 := S.wI (S.R 111 x0) (Int32.toNatClampNeg x4) (w1 &&& 32767)
  (let w3 : Int32 := w1 >>> (15 &&& 31)
  c_143_65 E x0 x1 x2 w3 (x4 + 1) S2 mr sr Q)))))) ∧ (¬ x1 = 0 → ((x2 = 0 → (let w4 : Int32 := (0 - 0) + x3
  (ox_has (S.K x0) 111 = true ∧ (S.K (S.R 111 x0) = 15 ∧ vp_in x4 (S.len (S.R 111 x0)) ∧ (let S5 := S.wI (S.R 111 x0) (Int32.toNatClampNeg x4) (w4 &&& 32767)
  (let w6 : Int32 := w4 >>> (15 &&& 31)
  c_143_65 E x0 x1 x2 w6 (x4 + 1) S5 mr sr Q)))))) ∧ (¬ x2 = 0 → (let w7 : Int32 := (0 - 0) + x3
  (ox_has (S.K x0) 111 = true ∧ (S.K (S.R 111 x0) = 15 ∧ vp_in x4 (S.len (S.R 111 x0)) ∧ (let S8 := S.wI (S.R 111 x0) (Int32.toNatClampNeg x4) (w7 &&& 32767)
  (let w9 : Int32 := w7 >>> (15 &&& 31)
  c_143_65 E x0 x1 x2 w9 (x4 + 1) S8 mr sr Q)))))))))) ∧ (¬ (S.I 114 x0) ≤ x4 → (ox_has (S.K x0) 110 = true ∧ (ox_rdI (S.K (S.R 110 x0)) = true ∧ vp_in x4 (S.len (S.R 110 x0)) ∧ (let w10 : Int32 := S.rI (S.R 110 x0) (Int32.toNatClampNeg x4)
  ((x1 = 0 → (let w11 : Int32 := (0 + w10) + x3
  (ox_has (S.K x0) 111 = true ∧ (S.K (S.R 111 x0) = 15 ∧ vp_in x4 (S.len (S.R 111 x0)) ∧ (let S12 := S.wI (S.R 111 x0) (Int32.toNatClampNeg x4) (w11 &&& 32767)
  (let w13 : Int32 := w11 >>> (15 &&& 31)
  c_143_65 E x0 x1 x2 w13 (x4 + 1) S12 mr sr Q)))))) ∧ (¬ x1 = 0 → ((x2 = 0 → (let w14 : Int32 := (0 - w10) + x3
  (ox_has (S.K x0) 111 = true ∧ (S.K (S.R 111 x0) = 15 ∧ vp_in x4 (S.len (S.R 111 x0)) ∧ (let S15 := S.wI (S.R 111 x0) (Int32.toNatClampNeg x4) (w14 &&& 32767)
  (let w16 : Int32 := w14 >>> (15 &&& 31)
  c_143_65 E x0 x1 x2 w16 (x4 + 1) S15 mr sr Q)))))) ∧ (¬ x2 = 0 → (let w17 : Int32 := (w10 - 0) + x3
  (ox_has (S.K x0) 111 = true ∧ (S.K (S.R 111 x0) = 15 ∧ vp_in x4 (S.len (S.R 111 x0)) ∧ (let S18 := S.wI (S.R 111 x0) (Int32.toNatClampNeg x4) (w17 &&& 32767)
  (let w19 : Int32 := w17 >>> (15 &&& 31)
  c_143_65 E x0 x1 x2 w19 (x4 + 1) S18 mr sr Q)))))))))))))))) ∧ (¬ (S.I 113 x0) ≤ x4 → (ox_has (S.K x0) 109 = true ∧ (ox_rdI (S.K (S.R 109 x0)) = true ∧ vp_in x4 (S.len (S.R 109 x0)) ∧ (let w20 : Int32 := S.rI (S.R 109 x0) (Int32.toNatClampNeg x4)
  (ox_has (S.K x0) 114 = true ∧ (((S.I 114 x0) ≤ x4 → ((x1 = 0 → (let w21 : Int32 := (w20 + 0) + x3
  (ox_has (S.K x0) 111 = true ∧ (S.K (S.R 111 x0) = 15 ∧ vp_in x4 (S.len (S.R 111 x0)) ∧ (let S22 := S.wI (S.R 111 x0) (Int32.toNatClampNeg x4) (w21 &&& 32767)
  (let w23 : Int32 := w21 >>> (15 &&& 31)
  c_143_65 E x0 x1 x2 w23 (x4 + 1) S22 mr sr Q)))))) ∧ (¬ x1 = 0 → ((x2 = 0 → (let w24 : Int32 := (w20 - 0) + x3
  (ox_has (S.K x0) 111 = true ∧ (S.K (S.R 111 x0) = 15 ∧ vp_in x4 (S.len (S.R 111 x0)) ∧ (let S25 := S.wI (S.R 111 x0) (Int32.toNatClampNeg x4) (w24 &&& 32767)
  (let w26 : Int32 := w24 >>> (15 &&& 31)
  c_143_65 E x0 x1 x2 w26 (x4 + 1) S25 mr sr Q)))))) ∧ (¬ x2 = 0 → (let w27 : Int32 := (0 - w20) + x3
  (ox_has (S.K x0) 111 = true ∧ (S.K (S.R 111 x0) = 15 ∧ vp_in x4 (S.len (S.R 111 x0)) ∧ (let S28 := S.wI (S.R 111 x0) (Int32.toNatClampNeg x4) (w27 &&& 32767)
  (let w29 : Int32 := w27 >>> (15 &&& 31)
  c_143_65 E x0 x1 x2 w29 (x4 + 1) S28 mr sr Q)))))))))) ∧ (¬ (S.I 114 x0) ≤ x4 → (ox_has (S.K x0) 110 = true ∧ (ox_rdI (S.K (S.R 110 x0)) = true ∧ vp_in x4 (S.len (S.R 110 x0)) ∧ (let w30 : Int32 := S.rI (S.R 110 x0) (Int32.toNatClampNeg x4)
  ((x1 = 0 → (let w31 : Int32 := (w20 + w30) + x3
  (ox_has (S.K x0) 111 = true ∧ (S.K (S.R 111 x0) = 15 ∧ vp_in x4 (S.len (S.R 111 x0)) ∧ (let S32 := S.wI (S.R 111 x0) (Int32.toNatClampNeg x4) (w31 &&& 32767)
  (let w33 : Int32 := w31 >>> (15 &&& 31)
  c_143_65 E x0 x1 x2 w33 (x4 + 1) S32 mr sr Q)))))) ∧ (¬ x1 = 0 → ((x2 = 0 → (let w34 : Int32 := (w20 - w30) + x3
  (ox_has (S.K x0) 111 = true ∧ (S.K (S.R 111 x0) = 15 ∧ vp_in x4 (S.len (S.R 111 x0)) ∧ (let S35 := S.wI (S.R 111 x0) (Int32.toNatClampNeg x4) (w34 &&& 32767)
  (let w36 : Int32 := w34 >>> (15 &&& 31)
  c_143_65 E x0 x1 x2 w36 (x4 + 1) S35 mr sr Q)))))) ∧ (¬ x2 = 0 → (let w37 : Int32 := (w30 - w20) + x3
  (ox_has (S.K x0) 111 = true ∧ (S.K (S.R 111 x0) = 15 ∧ vp_in x4 (S.len (S.R 111 x0)) ∧ (let S38 := S.wI (S.R 111 x0) (Int32.toNatClampNeg x4) (w37 &&& 32767)
  (let w39 : Int32 := w37 >>> (15 &&& 31)
  c_143_65 E x0 x1 x2 w39 (x4 + 1) S38 mr sr Q))))))))))))))))))))))))
set_option maxRecDepth 20000 in
set_option maxHeartbeats 4000000 in
theorem f_143_65 {E : ox_E} (hE : ox_mono E) {mr sr : Nat} {x0 : Nat} {x1 : Int32} {x2 : Int32} {x3 : Int32} {x4 : Int32} {S : ox_St} {Q : ox_Q} (h : q_143_65 E x0 x1 x2 x3 x4 S mr sr Q) : c_143_65 E x0 x1 x2 x3 x4 S mr sr Q := ox_C_fold hE h
set_option maxRecDepth 20000 in
def q_143_23 (E : ox_E) (x0 : Nat) (x1 : Int32) (y0 : Int32) (S : ox_St) (mr sr : Nat) (Q : ox_Q) : Prop :=
  (((0 : Int32) ≤ y0 → (ox_has (S.K x0) 113 = true ∧ (ox_has (S.K x0) 114 = true ∧ (((S.I 113 x0) ≤ (S.I 114 x0) → (ox_has (S.K x0) 114 = true ∧ (ox_has (S.K x0) 115 = true ∧ (let S1 := S.sI 115 x0 ((S.I 114 x0) + 1)
  c_143_65 E x0 x1 0 0 0 S1 mr sr Q)))) ∧ (¬ (S.I 113 x0) ≤ (S.I 114 x0) → (ox_has (S.K x0) 113 = true ∧ (ox_has (S.K x0) 115 = true ∧ (let S2 := S.sI 115 x0 ((S.I 113 x0) + 1)
  c_143_65 E x0 x1 0 0 0 S2 mr sr Q)))))))) ∧ (¬ (0 : Int32) ≤ y0 → (ox_has (S.K x0) 113 = true ∧ (ox_has (S.K x0) 114 = true ∧ (((S.I 113 x0) ≤ (S.I 114 x0) → (ox_has (S.K x0) 114 = true ∧ (ox_has (S.K x0) 115 = true ∧ (let S3 := S.sI 115 x0 ((S.I 114 x0) + 1)
  c_143_65 E x0 x1 1 0 0 S3 mr sr Q)))) ∧ (¬ (S.I 113 x0) ≤ (S.I 114 x0) → (ox_has (S.K x0) 113 = true ∧ (ox_has (S.K x0) 115 = true ∧ (let S4 := S.sI 115 x0 ((S.I 113 x0) + 1)
  c_143_65 E x0 x1 1 0 0 S4 mr sr Q)))))))))
set_option maxRecDepth 20000 in
set_option maxHeartbeats 4000000 in
theorem f_143_23 {E : ox_E} (hE : ox_mono E) {mr sr : Nat} {x0 : Nat} {x1 : Int32} {y0 : Int32} {S : ox_St} {Q : ox_Q} (h : q_143_23 E x0 x1 y0 S mr sr Q) : k_143_23 E x0 x1 mr sr Q (some (.inl (y0))) S := ox_C_fold hE h
set_option maxRecDepth 20000 in
def q_143 (E : ox_E) (x0 : Nat) (x1 : Int32) (S : ox_St) (mr sr : Nat) (Q : ox_Q) : Prop :=
  ((x1 = 0 → (ox_has (S.K x0) 113 = true ∧ (ox_has (S.K x0) 114 = true ∧ (((S.I 113 x0) ≤ (S.I 114 x0) → (ox_has (S.K x0) 114 = true ∧ (ox_has (S.K x0) 115 = true ∧ (let S1 := S.sI 115 x0 ((S.I 114 x0) + 1)
  c_143_65 E x0 x1 0 0 0 S1 mr sr Q)))) ∧ (¬ (S.I 113 x0) ≤ (S.I 114 x0) → (ox_has (S.K x0) 113 = true ∧ (ox_has (S.K x0) 115 = true ∧ (let S2 := S.sI 115 x0 ((S.I 113 x0) + 1)
  c_143_65 E x0 x1 0 0 0 S2 mr sr Q)))))))) ∧ (¬ x1 = 0 → (ox_has (S.K x0) 109 = true ∧ (ox_has (S.K x0) 113 = true ∧ (ox_has (S.K x0) 110 = true ∧ (ox_has (S.K x0) 114 = true ∧ (4 ≤ 4 ∧ 0 ≤ 8 ∧ ∃ mc3 mk4, mc3 ≤ mr ∧ mk4 ≤ sr ∧ E 141 [.inr (.inr (S.R 109 x0)), .inl (S.I 113 x0), .inr (.inr (S.R 110 x0)), .inl (S.I 114 x0)] mc3 mk4 S (k_143_23 E x0 x1 (mr - mc3) (sr - mk4) Q))))))))
set_option maxRecDepth 20000 in
set_option maxHeartbeats 4000000 in
theorem f_143 {sp : ox_E} (hsp : ox_mono sp) {d : Nat} {mr sr : Nat} {x0 : Nat} {x1 : Int32} {S : ox_St} {Q : ox_Q} (h : q_143 (ox_M sp d) x0 x1 S mr sr Q) : ox_M sp (d + 1) 143 [.inr (.inr (x0)), .inl (x1)] mr sr S Q := Or.inr ⟨Nat.le_of_ble_eq_true rfl, ox_C_fold (ox_M_mono hsp d) h⟩
/-! OpcodeFramesModel.sum(IIZ)I -/
def k_144_6 (E : ox_E) (x0 : Nat) (x1 : Int32) (x2 : Int32) (x3 : Int32) (mr sr : Nat) (Q : ox_Q) : ox_Q := fun r_ T_ => ox_C E (ox_mi 144).2.2.2.1 (ox_mc 144) (ox_cut 144) Q 6 [some (.inr (.inr (x0))), some (.inl (x1)), some (.inl (x2)), some (.inl (x3)), none, none] (r_.toList ++ []) T_ mr sr
def c_144_25 (E : ox_E) (x0 : Nat) (x1 : Int32) (x2 : Int32) (x3 : Int32) (S : ox_St) (mr sr : Nat) (Q : ox_Q) : Prop := ox_C E (ox_mi 144).2.2.2.1 (ox_mc 144) (ox_cut 144) Q 25 [some (.inr (.inr (x0))), some (.inl (x1)), some (.inl (x2)), some (.inl (x3)), none, none] [] S mr sr
def c_144_26 (E : ox_E) (x0 : Nat) (x1 : Int32) (x2 : Int32) (x3 : Int32) (y0 : Int32) (S : ox_St) (mr sr : Nat) (Q : ox_Q) : Prop := ox_C E (ox_mi 144).2.2.2.1 (ox_mc 144) (ox_cut 144) Q 26 [some (.inr (.inr (x0))), some (.inl (x1)), some (.inl (x2)), some (.inl (x3)), none, none] [.inl (y0)] S mr sr
def c_144_43 (E : ox_E) (x0 : Nat) (x1 : Int32) (x2 : Int32) (x3 : Int32) (x4 : Int32) (y0 : Int32) (y1 : Nat) (S : ox_St) (mr sr : Nat) (Q : ox_Q) : Prop := ox_C E (ox_mi 144).2.2.2.1 (ox_mc 144) (ox_cut 144) Q 43 [some (.inr (.inr (x0))), some (.inl (x1)), some (.inl (x2)), some (.inl (x3)), some (.inl (x4)), none] [.inl (y0), .inr (.inr (y1))] S mr sr
def k_144_46 (E : ox_E) (x0 : Nat) (x1 : Int32) (x2 : Int32) (x3 : Int32) (x4 : Int32) (mr sr : Nat) (Q : ox_Q) : ox_Q := fun r_ T_ => ox_C E (ox_mi 144).2.2.2.1 (ox_mc 144) (ox_cut 144) Q 46 [some (.inr (.inr (x0))), some (.inl (x1)), some (.inl (x2)), some (.inl (x3)), some (.inl (x4)), none] (r_.toList ++ []) T_ mr sr
def c_144_63 (E : ox_E) (x0 : Nat) (x1 : Int32) (x2 : Int32) (x3 : Int32) (x4 : Int32) (x5 : Int32) (y0 : Int32) (y1 : Nat) (S : ox_St) (mr sr : Nat) (Q : ox_Q) : Prop := ox_C E (ox_mi 144).2.2.2.1 (ox_mc 144) (ox_cut 144) Q 63 [some (.inr (.inr (x0))), some (.inl (x1)), some (.inl (x2)), some (.inl (x3)), some (.inl (x4)), some (.inl (x5))] [.inl (y0), .inr (.inr (y1))] S mr sr
def k_144_70 (E : ox_E) (x0 : Nat) (x1 : Int32) (x2 : Int32) (x3 : Int32) (x4 : Int32) (x5 : Int32) (mr sr : Nat) (Q : ox_Q) : ox_Q := fun r_ T_ => ox_C E (ox_mi 144).2.2.2.1 (ox_mc 144) (ox_cut 144) Q 70 [some (.inr (.inr (x0))), some (.inl (x1)), some (.inl (x2)), some (.inl (x3)), some (.inl (x4)), some (.inl (x5))] (r_.toList ++ []) T_ mr sr
set_option maxRecDepth 20000 in
def q_144_70 (E : ox_E) (x0 : Nat) (x1 : Int32) (x2 : Int32) (x3 : Int32) (x4 : Int32) (x5 : Int32) (y0 : Int32) (S : ox_St) (mr sr : Nat) (Q : ox_Q) : Prop :=
  (True ∧ Q (some (.inl y0)) S)
set_option maxRecDepth 20000 in
set_option maxHeartbeats 4000000 in
theorem f_144_70 {E : ox_E} (hE : ox_mono E) {mr sr : Nat} {x0 : Nat} {x1 : Int32} {x2 : Int32} {x3 : Int32} {x4 : Int32} {x5 : Int32} {y0 : Int32} {S : ox_St} {Q : ox_Q} (h : q_144_70 E x0 x1 x2 x3 x4 x5 y0 S mr sr Q) : k_144_70 E x0 x1 x2 x3 x4 x5 mr sr Q (some (.inl (y0))) S := ox_C_fold hE h
set_option maxRecDepth 20000 in
def q_144_63 (E : ox_E) (x0 : Nat) (x1 : Int32) (x2 : Int32) (x3 : Int32) (x4 : Int32) (x5 : Int32) (y0 : Int32) (y1 : Nat) (S : ox_St) (mr sr : Nat) (Q : ox_Q) : Prop :=
  (ox_has (S.K y1) 119 = true ∧ (((y0 : Int32) = 0 ∨ (y0 : Int32) = 1) ∧ (let S1 := S.sI 119 y1 y0
  (1 ≤ 1 ∧ S1.K x0 = 14 ∧ 0 ≤ 8 ∧ ∃ mc2 mk3, mc2 ≤ mr ∧ mk3 ≤ sr ∧ E 140 [.inr (.inr (x0))] mc2 mk3 S1 (k_144_70 E x0 x1 x2 x3 x4 x5 (mr - mc2) (sr - mk3) Q)))))
set_option maxRecDepth 20000 in
set_option maxHeartbeats 4000000 in
theorem f_144_63 {E : ox_E} (hE : ox_mono E) {mr sr : Nat} {x0 : Nat} {x1 : Int32} {x2 : Int32} {x3 : Int32} {x4 : Int32} {x5 : Int32} {y0 : Int32} {y1 : Nat} {S : ox_St} {Q : ox_Q} (h : q_144_63 E x0 x1 x2 x3 x4 x5 y0 y1 S mr sr Q) : c_144_63 E x0 x1 x2 x3 x4 x5 y0 y1 S mr sr Q := ox_C_fold hE h
set_option maxRecDepth 20000 in
def q_144_46 (E : ox_E) (x0 : Nat) (x1 : Int32) (x2 : Int32) (x3 : Int32) (x4 : Int32) (y0 : Int32) (S : ox_St) (mr sr : Nat) (Q : ox_Q) : Prop :=
  ((y0 = 0 → (ox_has (S.K x0) 117 = true ∧ c_144_63 E x0 x1 x2 x3 x4 y0 (S.I 117 x0) x0 S mr sr Q)) ∧ (¬ y0 = 0 → c_144_63 E x0 x1 x2 x3 x4 y0 x4 x0 S mr sr Q))
set_option maxRecDepth 20000 in
set_option maxHeartbeats 4000000 in
theorem f_144_46 {E : ox_E} (hE : ox_mono E) {mr sr : Nat} {x0 : Nat} {x1 : Int32} {x2 : Int32} {x3 : Int32} {x4 : Int32} {y0 : Int32} {S : ox_St} {Q : ox_Q} (h : q_144_46 E x0 x1 x2 x3 x4 y0 S mr sr Q) : k_144_46 E x0 x1 x2 x3 x4 mr sr Q (some (.inl (y0))) S := ox_C_fold hE h
set_option maxRecDepth 20000 in
def q_144_43 (E : ox_E) (x0 : Nat) (x1 : Int32) (x2 : Int32) (x3 : Int32) (x4 : Int32) (y0 : Int32) (y1 : Nat) (S : ox_St) (mr sr : Nat) (Q : ox_Q) : Prop :=
  (2 ≤ 2 ∧ S.K y1 = 14 ∧ 0 ≤ 8 ∧ ∃ mc1 mk2, mc1 ≤ mr ∧ mk2 ≤ sr ∧ E 143 [.inr (.inr (y1)), .inl (y0)] mc1 mk2 S (k_144_46 E x0 x1 x2 x3 x4 (mr - mc1) (sr - mk2) Q))
set_option maxRecDepth 20000 in
set_option maxHeartbeats 4000000 in
theorem f_144_43 {E : ox_E} (hE : ox_mono E) {mr sr : Nat} {x0 : Nat} {x1 : Int32} {x2 : Int32} {x3 : Int32} {x4 : Int32} {y0 : Int32} {y1 : Nat} {S : ox_St} {Q : ox_Q} (h : q_144_43 E x0 x1 x2 x3 x4 y0 y1 S mr sr Q) : c_144_43 E x0 x1 x2 x3 x4 y0 y1 S mr sr Q := ox_C_fold hE h
set_option maxRecDepth 20000 in
def q_144_26 (E : ox_E) (x0 : Nat) (x1 : Int32) (x2 : Int32) (x3 : Int32) (y0 : Int32) (S : ox_St) (mr sr : Nat) (Q : ox_Q) : Prop :=
  (ox_has (S.K x0) 117 = true ∧ (((S.I 117 x0) = y0 → c_144_43 E x0 x1 x2 x3 y0 0 x0 S mr sr Q) ∧ (¬ (S.I 117 x0) = y0 → c_144_43 E x0 x1 x2 x3 y0 1 x0 S mr sr Q)))
set_option maxRecDepth 20000 in
set_option maxHeartbeats 4000000 in
theorem f_144_26 {E : ox_E} (hE : ox_mono E) {mr sr : Nat} {x0 : Nat} {x1 : Int32} {x2 : Int32} {x3 : Int32} {y0 : Int32} {S : ox_St} {Q : ox_Q} (h : q_144_26 E x0 x1 x2 x3 y0 S mr sr Q) : c_144_26 E x0 x1 x2 x3 y0 S mr sr Q := ox_C_fold hE h
set_option maxRecDepth 20000 in
def q_144_25 (E : ox_E) (x0 : Nat) (x1 : Int32) (x2 : Int32) (x3 : Int32) (S : ox_St) (mr sr : Nat) (Q : ox_Q) : Prop :=
  c_144_26 E x0 x1 x2 x3 0 S mr sr Q
set_option maxRecDepth 20000 in
set_option maxHeartbeats 4000000 in
theorem f_144_25 {E : ox_E} (hE : ox_mono E) {mr sr : Nat} {x0 : Nat} {x1 : Int32} {x2 : Int32} {x3 : Int32} {S : ox_St} {Q : ox_Q} (h : q_144_25 E x0 x1 x2 x3 S mr sr Q) : c_144_25 E x0 x1 x2 x3 S mr sr Q := ox_C_fold hE h
set_option maxRecDepth 20000 in
def q_144_6 (E : ox_E) (x0 : Nat) (x1 : Int32) (x2 : Int32) (x3 : Int32) (S : ox_St) (mr sr : Nat) (Q : ox_Q) : Prop :=
  (ox_has (S.K x0) 114 = true ∧ (((S.I 114 x0) ≤ 0 → c_144_25 E x0 x1 x2 x3 S mr sr Q) ∧ (¬ (S.I 114 x0) ≤ 0 → (ox_has (S.K x0) 118 = true ∧ (((S.I 118 x0) = x3 → c_144_25 E x0 x1 x2 x3 S mr sr Q) ∧ (¬ (S.I 118 x0) = x3 → c_144_26 E x0 x1 x2 x3 1 S mr sr Q))))))
set_option maxRecDepth 20000 in
set_option maxHeartbeats 4000000 in
theorem f_144_6 {E : ox_E} (hE : ox_mono E) {mr sr : Nat} {x0 : Nat} {x1 : Int32} {x2 : Int32} {x3 : Int32} {S : ox_St} {Q : ox_Q} (h : q_144_6 E x0 x1 x2 x3 S mr sr Q) : k_144_6 E x0 x1 x2 x3 mr sr Q none S := ox_C_fold hE h
set_option maxRecDepth 20000 in
def q_144 (E : ox_E) (x0 : Nat) (x1 : Int32) (x2 : Int32) (x3 : Int32) (S : ox_St) (mr sr : Nat) (Q : ox_Q) : Prop :=
  (3 ≤ 3 ∧ S.K x0 = 14 ∧ 0 ≤ 8 ∧ ∃ mc1 mk2, mc1 ≤ mr ∧ mk2 ≤ sr ∧ E 139 [.inr (.inr (x0)), .inl (x1), .inl (x2)] mc1 mk2 S (k_144_6 E x0 x1 x2 x3 (mr - mc1) (sr - mk2) Q))
set_option maxRecDepth 20000 in
set_option maxHeartbeats 4000000 in
theorem f_144 {sp : ox_E} (hsp : ox_mono sp) {d : Nat} {mr sr : Nat} {x0 : Nat} {x1 : Int32} {x2 : Int32} {x3 : Int32} {S : ox_St} {Q : ox_Q} (h : q_144 (ox_M sp d) x0 x1 x2 x3 S mr sr Q) : ox_M sp (d + 1) 144 [.inr (.inr (x0)), .inl (x1), .inl (x2), .inl (x3)] mr sr S Q := Or.inr ⟨Nat.le_of_ble_eq_true rfl, ox_C_fold (ox_M_mono hsp d) h⟩
