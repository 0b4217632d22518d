/-! OpcodeFrames$Calculator.<init>()V -/
set_option maxRecDepth 20000 in
def q_0 (E : ox_E) (x0 : Nat) (S : ox_St) (mr sr : Nat) (Q : ox_Q) : Prop :=
  (x0 ≠ 0 ∧ 0 ≤ 8 ∧ (¬ (34 : Int32) < 0 ∧ (Int32.toNatClampNeg (34 : Int32)) ≤ 67108864 ∧ 1 ≤ mr ∧ (Int32.toNatClampNeg (34 : Int32)) ≤ sr ∧ (let S1 := S.newA 15 (Int32.toNatClampNeg (34 : Int32))
  (ox_has (S1.K x0) 3 = true ∧ (let S2 := S1.sR 3 x0 S.n
  (¬ (18 : Int32) < 0 ∧ (Int32.toNatClampNeg (18 : Int32)) ≤ 67108864 ∧ 1 ≤ (mr - 1) ∧ (Int32.toNatClampNeg (18 : Int32)) ≤ (sr - (Int32.toNatClampNeg (34 : Int32))) ∧ (let S3 := S2.newA 15 (Int32.toNatClampNeg (18 : Int32))
  (ox_has (S3.K x0) 4 = true ∧ (let S4 := S3.sR 4 x0 S2.n
  (¬ (18 : Int32) < 0 ∧ (Int32.toNatClampNeg (18 : Int32)) ≤ 67108864 ∧ 1 ≤ ((mr - 1) - 1) ∧ (Int32.toNatClampNeg (18 : Int32)) ≤ ((sr - (Int32.toNatClampNeg (34 : Int32))) - (Int32.toNatClampNeg (18 : Int32))) ∧ (let S5 := S4.newA 15 (Int32.toNatClampNeg (18 : Int32))
  (ox_has (S5.K x0) 5 = true ∧ (let S6 := S5.sR 5 x0 S4.n
  ((ox_mi 0).2.2.2.1 = none ∧ Q none S6))))))))))))))
set_option maxRecDepth 20000 in
set_option maxHeartbeats 4000000 in
theorem f_0 {sp : ox_E} (hsp : ox_mono sp) {d : Nat} {mr sr : Nat} {x0 : Nat} {S : ox_St} {Q : ox_Q} (h : q_0 (ox_M sp d) x0 S mr sr Q) : ox_M sp (d + 1) 0 [.inr (.inr (x0))] mr sr S Q := Or.inr ⟨Nat.le_of_ble_eq_true rfl, ox_C_fold (ox_M_mono hsp d) h⟩
/-! OpcodeFrames$Calculator.order(LOpcodeFrames$Num;LOpcodeFrames$Num;)I -/
def k_1_35 (E : ox_E) (x0 : Nat) (x1 : Nat) (mr sr : Nat) (Q : ox_Q) : ox_Q := fun r_ T_ => ox_C E (ox_mi 1).2.2.2.1 (ox_mc 1) (ox_cut 1) Q 35 [some (.inr (.inr (x0))), some (.inr (.inr (x1))), none] (r_.toList ++ []) T_ mr sr
set_option maxRecDepth 20000 in
def q_1_35 (E : ox_E) (x0 : Nat) (x1 : Nat) (y0 : Int32) (S : ox_St) (mr sr : Nat) (Q : ox_Q) : Prop :=
  (ox_has (S.K x0) 51 = true ∧ (((S.I 51 x0) = 0 → (True ∧ Q (some (.inl y0)) S)) ∧ (¬ (S.I 51 x0) = 0 → (True ∧ Q (some (.inl (-y0))) S))))
set_option maxRecDepth 20000 in
set_option maxHeartbeats 4000000 in
theorem f_1_35 {E : ox_E} (hE : ox_mono E) {mr sr : Nat} {x0 : Nat} {x1 : Nat} {y0 : Int32} {S : ox_St} {Q : ox_Q} (h : q_1_35 E x0 x1 y0 S mr sr Q) : k_1_35 E x0 x1 mr sr Q (some (.inl (y0))) S := ox_C_fold hE h
set_option maxRecDepth 20000 in
def q_1 (E : ox_E) (x0 : Nat) (x1 : Nat) (S : ox_St) (mr sr : Nat) (Q : ox_Q) : Prop :=
  (ox_has (S.K x0) 51 = true ∧ (ox_has (S.K x1) 51 = true ∧ (((S.I 51 x0) = (S.I 51 x1) → (ox_has (S.K x0) 52 = true ∧ (ox_has (S.K x1) 52 = true ∧ (2 ≤ 2 ∧ 0 ≤ 8 ∧ ∃ mc1 mk2, mc1 ≤ mr ∧ mk2 ≤ sr ∧ E 2 [.inr (.inr (S.R 52 x0)), .inr (.inr (S.R 52 x1))] mc1 mk2 S (k_1_35 E x0 x1 (mr - mc1) (sr - mk2) Q))))) ∧ (¬ (S.I 51 x0) = (S.I 51 x1) → (ox_has (S.K x0) 51 = true ∧ (((S.I 51 x0) = 0 → (True ∧ Q (some (.inl (1 : Int32))) S)) ∧ (¬ (S.I 51 x0) = 0 → (True ∧ Q (some (.inl ((-1) : Int32))) S))))))))
set_option maxRecDepth 20000 in
set_option maxHeartbeats 4000000 in
theorem f_1 {sp : ox_E} (hsp : ox_mono sp) {d : Nat} {mr sr : Nat} {x0 : Nat} {x1 : Nat} {S : ox_St} {Q : ox_Q} (h : q_1 (ox_M sp d) x0 x1 S mr sr Q) : ox_M sp (d + 1) 1 [.inr (.inr (x0)), .inr (.inr (x1))] mr sr S Q := Or.inr ⟨Nat.le_of_ble_eq_true rfl, ox_C_fold (ox_M_mono hsp d) h⟩
/-! OpcodeFrames$Calculator.orderOfSizes([I[I)I -/
def k_2_7 (E : ox_E) (x0 : Nat) (x1 : Nat) (mr sr : Nat) (Q : ox_Q) : ox_Q := fun r_ T_ => ox_C E (ox_mi 2).2.2.2.1 (ox_mc 2) (ox_cut 2) Q 7 [some (.inr (.inr (x0))), some (.inr (.inr (x1))), none, none] (r_.toList ++ []) T_ mr sr
def c_2_13 (E : ox_E) (x0 : Nat) (x1 : Nat) (x2 : Int32) (x3 : Int32) (S : ox_St) (mr sr : Nat) (Q : ox_Q) : Prop := ox_C E (ox_mi 2).2.2.2.1 (ox_mc 2) (ox_cut 2) Q 13 [some (.inr (.inr (x0))), some (.inr (.inr (x1))), some (.inl (x2)), some (.inl (x3))] [] S mr sr
def k_2_36 (E : ox_E) (x0 : Nat) (x1 : Nat) (x2 : Int32) (x3 : Int32) (mr sr : Nat) (Q : ox_Q) : ox_Q := fun r_ T_ => ox_C E (ox_mi 2).2.2.2.1 (ox_mc 2) (ox_cut 2) Q 36 [some (.inr (.inr (x0))), some (.inr (.inr (x1))), some (.inl (x2)), some (.inl (x3))] (r_.toList ++ []) T_ mr sr
set_option maxRecDepth 20000 in
def q_2_36 (E : ox_E) (x0 : Nat) (x1 : Nat) (x2 : Int32) (x3 : Int32) (y0 : Int32) (S : ox_St) (mr sr : Nat) (Q : ox_Q) : Prop :=
  c_2_13 E x0 x1 y0 (x3 + (-1)) S mr sr Q
set_option maxRecDepth 20000 in
set_option maxHeartbeats 4000000 in
theorem f_2_36 {E : ox_E} (hE : ox_mono E) {mr sr : Nat} {x0 : Nat} {x1 : Nat} {x2 : Int32} {x3 : Int32} {y0 : Int32} {S : ox_St} {Q : ox_Q} (h : q_2_36 E x0 x1 x2 x3 y0 S mr sr Q) : k_2_36 E x0 x1 x2 x3 mr sr Q (some (.inl (y0))) S := ox_C_fold hE h
set_option maxRecDepth 20000 in
def q_2_13 (E : ox_E) (x0 : Nat) (x1 : Nat) (x2 : Int32) (x3 : Int32) (S : ox_St) (mr sr : Nat) (Q : ox_Q) : Prop :=
  ((¬ x2 = 0 → (True ∧ Q (some (.inl x2)) S)) ∧ (x2 = 0 → ((x3 < 0 → (True ∧ Q (some (.inl x2)) S)) ∧ (¬ x3 < 0 → (ox_rdL (S.K x1) = true ∧ (((Int32.ofNat (S.len x1)) ≤ x3 → (True ∧ Q (some (.inl x2)) S)) ∧ (¬ (Int32.ofNat (S.len x1)) ≤ x3 → (ox_rdI (S.K x0) = true ∧ vp_in x3 (S.len x0) ∧ (ox_rdI (S.K x1) = true ∧ vp_in x3 (S.len x1) ∧ (2 ≤ 2 ∧ 0 ≤ 8 ∧ ∃ mc1 mk2, mc1 ≤ mr ∧ mk2 ≤ sr ∧ E 212 [.inl (S.rI x0 (Int32.toNatClampNeg x3)), .inl (S.rI x1 (Int32.toNatClampNeg x3))] mc1 mk2 S (k_2_36 E x0 x1 x2 x3 (mr - mc1) (sr - mk2) Q)))))))))))
set_option maxRecDepth 20000 in
set_option maxHeartbeats 4000000 in
theorem f_2_13 {E : ox_E} (hE : ox_mono E) {mr sr : Nat} {x0 : Nat} {x1 : Nat} {x2 : Int32} {x3 : Int32} {S : ox_St} {Q : ox_Q} (h : q_2_13 E x0 x1 x2 x3 S mr sr Q) : c_2_13 E x0 x1 x2 x3 S mr sr Q := ox_C_fold hE h
set_option maxRecDepth 20000 in
def q_2_7 (E : ox_E) (x0 : Nat) (x1 : Nat) (y0 : Int32) (S : ox_St) (mr sr : Nat) (Q : ox_Q) : Prop :=
  (ox_rdL (S.K x0) = true ∧ (let w1 : Int32 := (Int32.ofNat (S.len x0)) - 1
  c_2_13 E x0 x1 y0 w1 S mr sr Q))
set_option maxRecDepth 20000 in
set_option maxHeartbeats 4000000 in
theorem f_2_7 {E : ox_E} (hE : ox_mono E) {mr sr : Nat} {x0 : Nat} {x1 : Nat} {y0 : Int32} {S : ox_St} {Q : ox_Q} (h : q_2_7 E x0 x1 y0 S mr sr Q) : k_2_7 E x0 x1 mr sr Q (some (.inl (y0))) S := ox_C_fold hE h
set_option maxRecDepth 20000 in
def q_2 (E : ox_E) (x0 : Nat) (x1 : Nat) (S : ox_St) (mr sr : Nat) (Q : ox_Q) : Prop :=
  (ox_rdL (S.K x0) = true ∧ (ox_rdL (S.K x1) = true ∧ (2 ≤ 2 ∧ 0 ≤ 8 ∧ ∃ mc1 mk2, mc1 ≤ mr ∧ mk2 ≤ sr ∧ E 212 [.inl (Int32.ofNat (S.len x0)), .inl (Int32.ofNat (S.len x1))] mc1 mk2 S (k_2_7 E x0 x1 (mr - mc1) (sr - mk2) Q))))
set_option maxRecDepth 20000 in
set_option maxHeartbeats 4000000 in
theorem f_2 {sp : ox_E} (hsp : ox_mono sp) {d : Nat} {mr sr : Nat} {x0 : Nat} {x1 : Nat} {S : ox_St} {Q : ox_Q} (h : q_2 (ox_M sp d) x0 x1 S mr sr Q) : ox_M sp (d + 1) 2 [.inr (.inr (x0)), .inr (.inr (x1))] mr sr S Q := Or.inr ⟨Nat.le_of_ble_eq_true rfl, ox_C_fold (ox_M_mono hsp d) h⟩
/-! OpcodeFrames$Calculator.sum(LOpcodeFrames$Num;LOpcodeFrames$Num;Z)LOpcodeFrames$Num; -/
def k_3_36 (E : ox_E) (x0 : Nat) (x1 : Nat) (x2 : Nat) (x3 : Int32) (x4 : Int32) (mr sr : Nat) (Q : ox_Q) : ox_Q := fun r_ T_ => ox_C E (ox_mi 3).2.2.2.1 (ox_mc 3) (ox_cut 3) Q 36 [some (.inr (.inr (x0))), some (.inr (.inr (x1))), some (.inr (.inr (x2))), some (.inl (x3)), some (.inl (x4))] (r_.toList ++ []) T_ mr sr
def k_3_49 (E : ox_E) (x0 : Nat) (x1 : Nat) (x2 : Nat) (x3 : Int32) (x4 : Int32) (mr sr : Nat) (Q : ox_Q) : ox_Q := fun r_ T_ => ox_C E (ox_mi 3).2.2.2.1 (ox_mc 3) (ox_cut 3) Q 49 [some (.inr (.inr (x0))), some (.inr (.inr (x1))), some (.inr (.inr (x2))), some (.inl (x3)), some (.inl (x4))] (r_.toList ++ []) T_ mr sr
def k_3_61 (E : ox_E) (x0 : Nat) (x1 : Nat) (x2 : Nat) (x3 : Int32) (x4 : Int32) (mr sr : Nat) (Q : ox_Q) : ox_Q := fun r_ T_ => ox_C E (ox_mi 3).2.2.2.1 (ox_mc 3) (ox_cut 3) Q 61 [some (.inr (.inr (x0))), some (.inr (.inr (x1))), some (.inr (.inr (x2))), some (.inl (x3)), some (.inl (x4))] (r_.toList ++ []) T_ mr sr
def k_3_76 (E : ox_E) (x0 : Nat) (x1 : Nat) (x2 : Nat) (x3 : Int32) (x4 : Int32) (mr sr : Nat) (Q : ox_Q) : ox_Q := fun r_ T_ => ox_C E (ox_mi 3).2.2.2.1 (ox_mc 3) (ox_cut 3) Q 76 [some (.inr (.inr (x0))), some (.inr (.inr (x1))), some (.inr (.inr (x2))), some (.inl (x3)), some (.inl (x4))] (r_.toList ++ []) T_ mr sr
def k_3_89 (E : ox_E) (x0 : Nat) (x1 : Nat) (x2 : Nat) (x3 : Int32) (x4 : Int32) (mr sr : Nat) (Q : ox_Q) : ox_Q := fun r_ T_ => ox_C E (ox_mi 3).2.2.2.1 (ox_mc 3) (ox_cut 3) Q 89 [some (.inr (.inr (x0))), some (.inr (.inr (x1))), some (.inr (.inr (x2))), some (.inl (x3)), some (.inl (x4))] (r_.toList ++ []) T_ mr sr
def k_3_102 (E : ox_E) (x0 : Nat) (x1 : Nat) (x2 : Nat) (x3 : Int32) (x4 : Int32) (mr sr : Nat) (Q : ox_Q) : ox_Q := fun r_ T_ => ox_C E (ox_mi 3).2.2.2.1 (ox_mc 3) (ox_cut 3) Q 102 [some (.inr (.inr (x0))), some (.inr (.inr (x1))), some (.inr (.inr (x2))), some (.inl (x3)), some (.inl (x4))] (r_.toList ++ []) T_ mr sr
def k_3_113 (E : ox_E) (x0 : Nat) (x1 : Nat) (x2 : Nat) (x3 : Int32) (x4 : Int32) (mr sr : Nat) (Q : ox_Q) : ox_Q := fun r_ T_ => ox_C E (ox_mi 3).2.2.2.1 (ox_mc 3) (ox_cut 3) Q 113 [some (.inr (.inr (x0))), some (.inr (.inr (x1))), some (.inr (.inr (x2))), some (.inl (x3)), some (.inl (x4))] (r_.toList ++ []) T_ mr sr
set_option maxRecDepth 20000 in
def q_3_113 (E : ox_E) (x0 : Nat) (x1 : Nat) (x2 : Nat) (x3 : Int32) (x4 : Int32) (y0 : Nat) (S : ox_St) (mr sr : Nat) (Q : ox_Q) : Prop :=
  (ox_isR (ox_mi 3).2.2.2.1 = true ∧ Q (some (.inr (.inr y0))) S)
set_option maxRecDepth 20000 in
set_option maxHeartbeats 4000000 in
theorem f_3_113 {E : ox_E} (hE : ox_mono E) {mr sr : Nat} {x0 : Nat} {x1 : Nat} {x2 : Nat} {x3 : Int32} {x4 : Int32} {y0 : Nat} {S : ox_St} {Q : ox_Q} (h : q_3_113 E x0 x1 x2 x3 x4 y0 S mr sr Q) : k_3_113 E x0 x1 x2 x3 x4 mr sr Q (some (.inr (.inr (y0)))) S := ox_C_fold hE h
set_option maxRecDepth 20000 in
def q_3_102 (E : ox_E) (x0 : Nat) (x1 : Nat) (x2 : Nat) (x3 : Int32) (x4 : Int32) (S : ox_St) (mr sr : Nat) (Q : ox_Q) : Prop :=
  (ox_has (S.K x0) 3 = true ∧ (3 ≤ 3 ∧ 0 ≤ 8 ∧ ∃ mc1 mk2, mc1 ≤ mr ∧ mk2 ≤ sr ∧ E 14 [.inr (.inr (S.R 3 x0)), .inl (16), .inl (x4)] mc1 mk2 S (k_3_113 E x0 x1 x2 x3 x4 (mr - mc1) (sr - mk2) Q)))
set_option maxRecDepth 20000 in
set_option maxHeartbeats 4000000 in
theorem f_3_102 {E : ox_E} (hE : ox_mono E) {mr sr : Nat} {x0 : Nat} {x1 : Nat} {x2 : Nat} {x3 : Int32} {x4 : Int32} {S : ox_St} {Q : ox_Q} (h : q_3_102 E x0 x1 x2 x3 x4 S mr sr Q) : k_3_102 E x0 x1 x2 x3 x4 mr sr Q none S := ox_C_fold hE h
set_option maxRecDepth 20000 in
def q_3_89 (E : ox_E) (x0 : Nat) (x1 : Nat) (x2 : Nat) (x3 : Int32) (x4 : Int32) (y0 : Nat) (S : ox_St) (mr sr : Nat) (Q : ox_Q) : Prop :=
  (ox_isR (ox_mi 3).2.2.2.1 = true ∧ Q (some (.inr (.inr y0))) S)
set_option maxRecDepth 20000 in
set_option maxHeartbeats 4000000 in
theorem f_3_89 {E : ox_E} (hE : ox_mono E) {mr sr : Nat} {x0 : Nat} {x1 : Nat} {x2 : Nat} {x3 : Int32} {x4 : Int32} {y0 : Nat} {S : ox_St} {Q : ox_Q} (h : q_3_89 E x0 x1 x2 x3 x4 y0 S mr sr Q) : k_3_89 E x0 x1 x2 x3 x4 mr sr Q (some (.inr (.inr (y0)))) S := ox_C_fold hE h
set_option maxRecDepth 20000 in
def q_3_76 (E : ox_E) (x0 : Nat) (x1 : Nat) (x2 : Nat) (x3 : Int32) (x4 : Int32) (S : ox_St) (mr sr : Nat) (Q : ox_Q) : Prop :=
  (ox_has (S.K x0) 3 = true ∧ (ox_has (S.K x1) 51 = true ∧ (3 ≤ 3 ∧ 0 ≤ 8 ∧ ∃ mc1 mk2, mc1 ≤ mr ∧ mk2 ≤ sr ∧ E 14 [.inr (.inr (S.R 3 x0)), .inl (16), .inl (S.I 51 x1)] mc1 mk2 S (k_3_89 E x0 x1 x2 x3 x4 (mr - mc1) (sr - mk2) Q))))
set_option maxRecDepth 20000 in
set_option maxHeartbeats 4000000 in
theorem f_3_76 {E : ox_E} (hE : ox_mono E) {mr sr : Nat} {x0 : Nat} {x1 : Nat} {x2 : Nat} {x3 : Int32} {x4 : Int32} {S : ox_St} {Q : ox_Q} (h : q_3_76 E x0 x1 x2 x3 x4 S mr sr Q) : k_3_76 E x0 x1 x2 x3 x4 mr sr Q none S := ox_C_fold hE h
set_option maxRecDepth 20000 in
def q_3_61 (E : ox_E) (x0 : Nat) (x1 : Nat) (x2 : Nat) (x3 : Int32) (x4 : Int32) (y0 : Int32) (S : ox_St) (mr sr : Nat) (Q : ox_Q) : Prop :=
  ((y0 < 0 → (ox_has (S.K x2) 52 = true ∧ (ox_has (S.K x1) 52 = true ∧ (3 ≤ 3 ∧ S.K x0 = 2 ∧ 0 ≤ 8 ∧ ∃ mc1 mk2, mc1 ≤ mr ∧ mk2 ≤ sr ∧ E 5 [.inr (.inr (x0)), .inr (.inr (S.R 52 x2)), .inr (.inr (S.R 52 x1))] mc1 mk2 S (k_3_102 E x0 x1 x2 x3 x4 (mr - mc1) (sr - mk2) Q))))) ∧ (¬ y0 < 0 → (ox_has (S.K x1) 52 = true ∧ (ox_has (S.K x2) 52 = true ∧ (3 ≤ 3 ∧ S.K x0 = 2 ∧ 0 ≤ 8 ∧ ∃ mc3 mk4, mc3 ≤ mr ∧ mk4 ≤ sr ∧ E 5 [.inr (.inr (x0)), .inr (.inr (S.R 52 x1)), .inr (.inr (S.R 52 x2))] mc3 mk4 S (k_3_76 E x0 x1 x2 x3 x4 (mr - mc3) (sr - mk4) Q))))))
set_option maxRecDepth 20000 in
set_option maxHeartbeats 4000000 in
theorem f_3_61 {E : ox_E} (hE : ox_mono E) {mr sr : Nat} {x0 : Nat} {x1 : Nat} {x2 : Nat} {x3 : Int32} {x4 : Int32} {y0 : Int32} {S : ox_St} {Q : ox_Q} (h : q_3_61 E x0 x1 x2 x3 x4 y0 S mr sr Q) : k_3_61 E x0 x1 x2 x3 x4 mr sr Q (some (.inl (y0))) S := ox_C_fold hE h
set_option maxRecDepth 20000 in
def q_3_49 (E : ox_E) (x0 : Nat) (x1 : Nat) (x2 : Nat) (x3 : Int32) (x4 : Int32) (y0 : Nat) (S : ox_St) (mr sr : Nat) (Q : ox_Q) : Prop :=
  (ox_isR (ox_mi 3).2.2.2.1 = true ∧ Q (some (.inr (.inr y0))) S)
set_option maxRecDepth 20000 in
set_option maxHeartbeats 4000000 in
theorem f_3_49 {E : ox_E} (hE : ox_mono E) {mr sr : Nat} {x0 : Nat} {x1 : Nat} {x2 : Nat} {x3 : Int32} {x4 : Int32} {y0 : Nat} {S : ox_St} {Q : ox_Q} (h : q_3_49 E x0 x1 x2 x3 x4 y0 S mr sr Q) : k_3_49 E x0 x1 x2 x3 x4 mr sr Q (some (.inr (.inr (y0)))) S := ox_C_fold hE h
set_option maxRecDepth 20000 in
def q_3_36 (E : ox_E) (x0 : Nat) (x1 : Nat) (x2 : Nat) (x3 : Int32) (x4 : Int32) (S : ox_St) (mr sr : Nat) (Q : ox_Q) : Prop :=
  (ox_has (S.K x0) 3 = true ∧ (ox_has (S.K x1) 51 = true ∧ (3 ≤ 3 ∧ 0 ≤ 8 ∧ ∃ mc1 mk2, mc1 ≤ mr ∧ mk2 ≤ sr ∧ E 14 [.inr (.inr (S.R 3 x0)), .inl (17), .inl (S.I 51 x1)] mc1 mk2 S (k_3_49 E x0 x1 x2 x3 x4 (mr - mc1) (sr - mk2) Q))))
set_option maxRecDepth 20000 in
set_option maxHeartbeats 4000000 in
theorem f_3_36 {E : ox_E} (hE : ox_mono E) {mr sr : Nat} {x0 : Nat} {x1 : Nat} {x2 : Nat} {x3 : Int32} {x4 : Int32} {S : ox_St} {Q : ox_Q} (h : q_3_36 E x0 x1 x2 x3 x4 S mr sr Q) : k_3_36 E x0 x1 x2 x3 x4 mr sr Q none S := ox_C_fold hE h
set_option maxRecDepth 20000 in
def q_3 (E : ox_E) (x0 : Nat) (x1 : Nat) (x2 : Nat) (x3 : Int32) (S : ox_St) (mr sr : Nat) (Q : ox_Q) : Prop :=
  (ox_has (S.K x2) 51 = true ∧ (((S.I 51 x2) = x3 → (ox_has (S.K x1) 51 = true ∧ ((¬ (S.I 51 x1) = 0 → (ox_has (S.K x1) 52 = true ∧ (ox_has (S.K x2) 52 = true ∧ (2 ≤ 2 ∧ 0 ≤ 8 ∧ ∃ mc1 mk2, mc1 ≤ mr ∧ mk2 ≤ sr ∧ E 2 [.inr (.inr (S.R 52 x1)), .inr (.inr (S.R 52 x2))] mc1 mk2 S (k_3_61 E x0 x1 x2 x3 0 (mr - mc1) (sr - mk2) Q))))) ∧ ((S.I 51 x1) = 0 → (ox_has (S.K x1) 52 = true ∧ (ox_has (S.K x2) 52 = true ∧ (3 ≤ 3 ∧ S.K x0 = 2 ∧ 0 ≤ 8 ∧ ∃ mc3 mk4, mc3 ≤ mr ∧ mk4 ≤ sr ∧ E 4 [.inr (.inr (x0)), .inr (.inr (S.R 52 x1)), .inr (.inr (S.R 52 x2))] mc3 mk4 S (k_3_36 E x0 x1 x2 x3 0 (mr - mc3) (sr - mk4) Q)))))))) ∧ (¬ (S.I 51 x2) = x3 → (ox_has (S.K x1) 51 = true ∧ ((¬ (S.I 51 x1) = 1 → (ox_has (S.K x1) 52 = true ∧ (ox_has (S.K x2) 52 = true ∧ (2 ≤ 2 ∧ 0 ≤ 8 ∧ ∃ mc5 mk6, mc5 ≤ mr ∧ mk6 ≤ sr ∧ E 2 [.inr (.inr (S.R 52 x1)), .inr (.inr (S.R 52 x2))] mc5 mk6 S (k_3_61 E x0 x1 x2 x3 1 (mr - mc5) (sr - mk6) Q))))) ∧ ((S.I 51 x1) = 1 → (ox_has (S.K x1) 52 = true ∧ (ox_has (S.K x2) 52 = true ∧ (3 ≤ 3 ∧ S.K x0 = 2 ∧ 0 ≤ 8 ∧ ∃ mc7 mk8, mc7 ≤ mr ∧ mk8 ≤ sr ∧ E 4 [.inr (.inr (x0)), .inr (.inr (S.R 52 x1)), .inr (.inr (S.R 52 x2))] mc7 mk8 S (k_3_36 E x0 x1 x2 x3 1 (mr - mc7) (sr - mk8) Q))))))))))
set_option maxRecDepth 20000 in
set_option maxHeartbeats 4000000 in
theorem f_3 {sp : ox_E} (hsp : ox_mono sp) {d : Nat} {mr sr : Nat} {x0 : Nat} {x1 : Nat} {x2 : Nat} {x3 : Int32} {S : ox_St} {Q : ox_Q} (h : q_3 (ox_M sp d) x0 x1 x2 x3 S mr sr Q) : ox_M sp (d + 1) 3 [.inr (.inr (x0)), .inr (.inr (x1)), .inr (.inr (x2)), .inl (x3)] mr sr S Q := Or.inr ⟨Nat.le_of_ble_eq_true rfl, ox_C_fold (ox_M_mono hsp d) h⟩
/-! OpcodeFrames$Calculator.add([I[I)V -/
def c_4_5 (E : ox_E) (x0 : Nat) (x1 : Nat) (x2 : Nat) (x3 : Int32) (x4 : Int32) (S : ox_St) (mr sr : Nat) (Q : ox_Q) : Prop := ox_C E (ox_mi 4).2.2.2.1 (ox_mc 4) (ox_cut 4) Q 5 [some (.inr (.inr (x0))), some (.inr (.inr (x1))), some (.inr (.inr (x2))), some (.inl (x3)), some (.inl (x4)), none] [] S mr sr
def k_4_18 (E : ox_E) (x0 : Nat) (x1 : Nat) (x2 : Nat) (x3 : Int32) (x4 : Int32) (mr sr : Nat) (Q : ox_Q) : ox_Q := fun r_ T_ => ox_C E (ox_mi 4).2.2.2.1 (ox_mc 4) (ox_cut 4) Q 18 [some (.inr (.inr (x0))), some (.inr (.inr (x1))), some (.inr (.inr (x2))), some (.inl (x3)), some (.inl (x4)), none] (r_.toList ++ []) T_ mr sr
def k_4_24 (E : ox_E) (x0 : Nat) (x1 : Nat) (x2 : Nat) (x3 : Int32) (x4 : Int32) (y1 : Int32) (mr sr : Nat) (Q : ox_Q) : ox_Q := fun r_ T_ => ox_C E (ox_mi 4).2.2.2.1 (ox_mc 4) (ox_cut 4) Q 24 [some (.inr (.inr (x0))), some (.inr (.inr (x1))), some (.inr (.inr (x2))), some (.inl (x3)), some (.inl (x4)), none] (r_.toList ++ [.inl (y1)]) T_ mr sr
set_option maxRecDepth 20000 in
def q_4_24 (E : ox_E) (x0 : Nat) (x1 : Nat) (x2 : Nat) (x3 : Int32) (x4 : Int32) (y0 : Int32) (y1 : Int32) (S : ox_St) (mr sr : Nat) (Q : ox_Q) : Prop :=
  (let w1 : Int32 := (y1 + y0) + x3
  (ox_has (S.K x0) 3 = true ∧ (S.K (S.R 3 x0) = 15 ∧ vp_in x4 (S.len (S.R 3 x0)) ∧ (let S2 := S.wI (S.R 3 x0) (Int32.toNatClampNeg x4) (w1 &&& 32767)
  (let w3 : Int32 := w1 >>> (15 &&& 31)
  c_4_5 E x0 x1 x2 w3 (x4 + 1) S2 mr sr Q)))))
set_option maxRecDepth 20000 in
set_option maxHeartbeats 4000000 in
theorem f_4_24 {E : ox_E} (hE : ox_mono E) {mr sr : Nat} {x0 : Nat} {x1 : Nat} {x2 : Nat} {x3 : Int32} {x4 : Int32} {y0 : Int32} {y1 : Int32} {S : ox_St} {Q : ox_Q} (h : q_4_24 E x0 x1 x2 x3 x4 y0 y1 S mr sr Q) : k_4_24 E x0 x1 x2 x3 x4 y1 mr sr Q (some (.inl (y0))) S := ox_C_fold hE h
set_option maxRecDepth 20000 in
def q_4_18 (E : ox_E) (x0 : Nat) (x1 : Nat) (x2 : Nat) (x3 : Int32) (x4 : Int32) (y0 : Int32) (S : ox_St) (mr sr : Nat) (Q : ox_Q) : Prop :=
  (2 ≤ 3 ∧ 1 ≤ 8 ∧ ∃ mc1 mk2, mc1 ≤ mr ∧ mk2 ≤ sr ∧ E 13 [.inr (.inr (x2)), .inl (x4)] mc1 mk2 S (k_4_24 E x0 x1 x2 x3 x4 y0 (mr - mc1) (sr - mk2) Q))
set_option maxRecDepth 20000 in
set_option maxHeartbeats 4000000 in
theorem f_4_18 {E : ox_E} (hE : ox_mono E) {mr sr : Nat} {x0 : Nat} {x1 : Nat} {x2 : Nat} {x3 : Int32} {x4 : Int32} {y0 : Int32} {S : ox_St} {Q : ox_Q} (h : q_4_18 E x0 x1 x2 x3 x4 y0 S mr sr Q) : k_4_18 E x0 x1 x2 x3 x4 mr sr Q (some (.inl (y0))) S := ox_C_fold hE h
set_option maxRecDepth 20000 in
def q_4_5 (E : ox_E) (x0 : Nat) (x1 : Nat) (x2 : Nat) (x3 : Int32) (x4 : Int32) (S : ox_St) (mr sr : Nat) (Q : ox_Q) : Prop :=
  (((16 : Int32) ≤ x4 → (ox_has (S.K x0) 3 = true ∧ (S.K (S.R 3 x0) = 15 ∧ vp_in 16 (S.len (S.R 3 x0)) ∧ (let S1 := S.wI (S.R 3 x0) (Int32.toNatClampNeg 16) x3
  ((ox_mi 4).2.2.2.1 = none ∧ Q none S1))))) ∧ (¬ (16 : Int32) ≤ x4 → (2 ≤ 2 ∧ 0 ≤ 8 ∧ ∃ mc2 mk3, mc2 ≤ mr ∧ mk3 ≤ sr ∧ E 13 [.inr (.inr (x1)), .inl (x4)] mc2 mk3 S (k_4_18 E x0 x1 x2 x3 x4 (mr - mc2) (sr - mk3) Q))))
set_option maxRecDepth 20000 in
set_option maxHeartbeats 4000000 in
theorem f_4_5 {E : ox_E} (hE : ox_mono E) {mr sr : Nat} {x0 : Nat} {x1 : Nat} {x2 : Nat} {x3 : Int32} {x4 : Int32} {S : ox_St} {Q : ox_Q} (h : q_4_5 E x0 x1 x2 x3 x4 S mr sr Q) : c_4_5 E x0 x1 x2 x3 x4 S mr sr Q := ox_C_fold hE h
set_option maxRecDepth 20000 in
def q_4 (E : ox_E) (x0 : Nat) (x1 : Nat) (x2 : Nat) (S : ox_St) (mr sr : Nat) (Q : ox_Q) : Prop :=
  c_4_5 E x0 x1 x2 0 0 S mr sr Q
set_option maxRecDepth 20000 in
set_option maxHeartbeats 4000000 in
theorem f_4 {sp : ox_E} (hsp : ox_mono sp) {d : Nat} {mr sr : Nat} {x0 : Nat} {x1 : Nat} {x2 : Nat} {S : ox_St} {Q : ox_Q} (h : q_4 (ox_M sp d) x0 x1 x2 S mr sr Q) : ox_M sp (d + 1) 4 [.inr (.inr (x0)), .inr (.inr (x1)), .inr (.inr (x2))] mr sr S Q := Or.inr ⟨Nat.le_of_ble_eq_true rfl, ox_C_fold (ox_M_mono hsp d) h⟩
/-! OpcodeFrames$Calculator.lessen([I[I)V -/
def c_5_5 (E : ox_E) (x0 : Nat) (x1 : Nat) (x2 : Nat) (x3 : Int32) (x4 : Int32) (S : ox_St) (mr sr : Nat) (Q : ox_Q) : Prop := ox_C E (ox_mi 5).2.2.2.1 (ox_mc 5) (ox_cut 5) Q 5 [some (.inr (.inr (x0))), some (.inr (.inr (x1))), some (.inr (.inr (x2))), some (.inl (x3)), some (.inl (x4)), none] [] S mr sr
def k_5_18 (E : ox_E) (x0 : Nat) (x1 : Nat) (x2 : Nat) (x3 : Int32) (x4 : Int32) (mr sr : Nat) (Q : ox_Q) : ox_Q := fun r_ T_ => ox_C E (ox_mi 5).2.2.2.1 (ox_mc 5) (ox_cut 5) Q 18 [some (.inr (.inr (x0))), some (.inr (.inr (x1))), some (.inr (.inr (x2))), some (.inl (x3)), some (.inl (x4)), none] (r_.toList ++ []) T_ mr sr
def k_5_24 (E : ox_E) (x0 : Nat) (x1 : Nat) (x2 : Nat) (x3 : Int32) (x4 : Int32) (y1 : Int32) (mr sr : Nat) (Q : ox_Q) : ox_Q := fun r_ T_ => ox_C E (ox_mi 5).2.2.2.1 (ox_mc 5) (ox_cut 5) Q 24 [some (.inr (.inr (x0))), some (.inr (.inr (x1))), some (.inr (.inr (x2))), some (.inl (x3)), some (.inl (x4)), none] (r_.toList ++ [.inl (y1)]) T_ mr sr
set_option maxRecDepth 20000 in
def q_5_24 (E : ox_E) (x0 : Nat) (x1 : Nat) (x2 : Nat) (x3 : Int32) (x4 : Int32) (y0 : Int32) (y1 : Int32) (S : ox_St) (mr sr : Nat) (Q : ox_Q) : Prop :=
  (let w1 : Int32 := (y1 - y0) - x3
  (ox_has (S.K x0) 3 = true ∧ (S.K (S.R 3 x0) = 15 ∧ vp_in x4 (S.len (S.R 3 x0)) ∧ (let S2 := S.wI (S.R 3 x0) (Int32.toNatClampNeg x4) (w1 &&& 32767)
  (((0 : Int32) ≤ w1 → c_5_5 E x0 x1 x2 0 (x4 + 1) S2 mr sr Q) ∧ (¬ (0 : Int32) ≤ w1 → c_5_5 E x0 x1 x2 1 (x4 + 1) S2 mr sr Q))))))
set_option maxRecDepth 20000 in
set_option maxHeartbeats 4000000 in
theorem f_5_24 {E : ox_E} (hE : ox_mono E) {mr sr : Nat} {x0 : Nat} {x1 : Nat} {x2 : Nat} {x3 : Int32} {x4 : Int32} {y0 : Int32} {y1 : Int32} {S : ox_St} {Q : ox_Q} (h : q_5_24 E x0 x1 x2 x3 x4 y0 y1 S mr sr Q) : k_5_24 E x0 x1 x2 x3 x4 y1 mr sr Q (some (.inl (y0))) S := ox_C_fold hE h
set_option maxRecDepth 20000 in
def q_5_18 (E : ox_E) (x0 : Nat) (x1 : Nat) (x2 : Nat) (x3 : Int32) (x4 : Int32) (y0 : Int32) (S : ox_St) (mr sr : Nat) (Q : ox_Q) : Prop :=
  (2 ≤ 3 ∧ 1 ≤ 8 ∧ ∃ mc1 mk2, mc1 ≤ mr ∧ mk2 ≤ sr ∧ E 13 [.inr (.inr (x2)), .inl (x4)] mc1 mk2 S (k_5_24 E x0 x1 x2 x3 x4 y0 (mr - mc1) (sr - mk2) Q))
set_option maxRecDepth 20000 in
set_option maxHeartbeats 4000000 in
theorem f_5_18 {E : ox_E} (hE : ox_mono E) {mr sr : Nat} {x0 : Nat} {x1 : Nat} {x2 : Nat} {x3 : Int32} {x4 : Int32} {y0 : Int32} {S : ox_St} {Q : ox_Q} (h : q_5_18 E x0 x1 x2 x3 x4 y0 S mr sr Q) : k_5_18 E x0 x1 x2 x3 x4 mr sr Q (some (.inl (y0))) S := ox_C_fold hE h
set_option maxRecDepth 20000 in
def q_5_5 (E : ox_E) (x0 : Nat) (x1 : Nat) (x2 : Nat) (x3 : Int32) (x4 : Int32) (S : ox_St) (mr sr : Nat) (Q : ox_Q) : Prop :=
  (((16 : Int32) ≤ x4 → ((ox_mi 5).2.2.2.1 = none ∧ Q none S)) ∧ (¬ (16 : Int32) ≤ x4 → (2 ≤ 2 ∧ 0 ≤ 8 ∧ ∃ mc1 mk2, mc1 ≤ mr ∧ mk2 ≤ sr ∧ E 13 [.inr (.inr (x1)), .inl (x4)] mc1 mk2 S (k_5_18 E x0 x1 x2 x3 x4 (mr - mc1) (sr - mk2) Q))))
set_option maxRecDepth 20000 in
set_option maxHeartbeats 4000000 in
theorem f_5_5 {E : ox_E} (hE : ox_mono E) {mr sr : Nat} {x0 : Nat} {x1 : Nat} {x2 : Nat} {x3 : Int32} {x4 : Int32} {S : ox_St} {Q : ox_Q} (h : q_5_5 E x0 x1 x2 x3 x4 S mr sr Q) : c_5_5 E x0 x1 x2 x3 x4 S mr sr Q := ox_C_fold hE h
set_option maxRecDepth 20000 in
def q_5 (E : ox_E) (x0 : Nat) (x1 : Nat) (x2 : Nat) (S : ox_St) (mr sr : Nat) (Q : ox_Q) : Prop :=
  c_5_5 E x0 x1 x2 0 0 S mr sr Q
set_option maxRecDepth 20000 in
set_option maxHeartbeats 4000000 in
theorem f_5 {sp : ox_E} (hsp : ox_mono sp) {d : Nat} {mr sr : Nat} {x0 : Nat} {x1 : Nat} {x2 : Nat} {S : ox_St} {Q : ox_Q} (h : q_5 (ox_M sp d) x0 x1 x2 S mr sr Q) : ox_M sp (d + 1) 5 [.inr (.inr (x0)), .inr (.inr (x1)), .inr (.inr (x2))] mr sr S Q := Or.inr ⟨Nat.le_of_ble_eq_true rfl, ox_C_fold (ox_M_mono hsp d) h⟩
/-! OpcodeFrames$Calculator.product(LOpcodeFrames$Num;LOpcodeFrames$Num;)LOpcodeFrames$Num; -/
def k_6_28 (E : ox_E) (x0 : Nat) (x1 : Nat) (x2 : Nat) (x3 : Int32) (mr sr : Nat) (Q : ox_Q) : ox_Q := fun r_ T_ => ox_C E (ox_mi 6).2.2.2.1 (ox_mc 6) (ox_cut 6) Q 28 [some (.inr (.inr (x0))), some (.inr (.inr (x1))), some (.inr (.inr (x2))), some (.inl (x3)), none, none, none, none] (r_.toList ++ []) T_ mr sr
def c_6_31 (E : ox_E) (x0 : Nat) (x1 : Nat) (x2 : Nat) (x3 : Int32) (x4 : Int32) (S : ox_St) (mr sr : Nat) (Q : ox_Q) : Prop := ox_C E (ox_mi 6).2.2.2.1 (ox_mc 6) (ox_cut 6) Q 31 [some (.inr (.inr (x0))), some (.inr (.inr (x1))), some (.inr (.inr (x2))), some (.inl (x3)), some (.inl (x4)), none, none, none] [] S mr sr
def c_6_47 (E : ox_E) (x0 : Nat) (x1 : Nat) (x2 : Nat) (x3 : Int32) (x4 : Int32) (x5 : Int32) (x6 : Int32) (S : ox_St) (mr sr : Nat) (Q : ox_Q) : Prop := ox_C E (ox_mi 6).2.2.2.1 (ox_mc 6) (ox_cut 6) Q 47 [some (.inr (.inr (x0))), some (.inr (.inr (x1))), some (.inr (.inr (x2))), some (.inl (x3)), some (.inl (x4)), some (.inl (x5)), some (.inl (x6)), none] [] S mr sr
def k_6_162 (E : ox_E) (x0 : Nat) (x1 : Nat) (x2 : Nat) (x3 : Int32) (x4 : Int32) (mr sr : Nat) (Q : ox_Q) : ox_Q := fun r_ T_ => ox_C E (ox_mi 6).2.2.2.1 (ox_mc 6) (ox_cut 6) Q 162 [some (.inr (.inr (x0))), some (.inr (.inr (x1))), some (.inr (.inr (x2))), some (.inl (x3)), some (.inl (x4)), none, none, none] (r_.toList ++ []) T_ mr sr
set_option maxRecDepth 20000 in
def q_6_162 (E : ox_E) (x0 : Nat) (x1 : Nat) (x2 : Nat) (x3 : Int32) (x4 : Int32) (y0 : Nat) (S : ox_St) (mr sr : Nat) (Q : ox_Q) : Prop :=
  (ox_isR (ox_mi 6).2.2.2.1 = true ∧ Q (some (.inr (.inr y0))) S)
set_option maxRecDepth 20000 in
set_option maxHeartbeats 4000000 in
theorem f_6_162 {E : ox_E} (hE : ox_mono E) {mr sr : Nat} {x0 : Nat} {x1 : Nat} {x2 : Nat} {x3 : Int32} {x4 : Int32} {y0 : Nat} {S : ox_St} {Q : ox_Q} (h : q_6_162 E x0 x1 x2 x3 x4 y0 S mr sr Q) : k_6_162 E x0 x1 x2 x3 x4 mr sr Q (some (.inr (.inr (y0)))) S := ox_C_fold hE h
set_option maxRecDepth 20000 in
def q_6_47 (E : ox_E) (x0 : Nat) (x1 : Nat) (x2 : Nat) (x3 : Int32) (x4 : Int32) (x5 : Int32) (x6 : Int32) (S : ox_St) (mr sr : Nat) (Q : ox_Q) : Prop :=
  (ox_has (S.K x2) 52 = true ∧ (ox_rdL (S.K (S.R 52 x2)) = true ∧ (((Int32.ofNat (S.len (S.R 52 x2))) ≤ x6 → (ox_has (S.K x0) 3 = true ∧ (ox_has (S.K x2) 52 = true ∧ (ox_rdL (S.K (S.R 52 x2)) = true ∧ (S.K (S.R 3 x0) = 15 ∧ vp_in (x4 + (Int32.ofNat (S.len (S.R 52 x2)))) (S.len (S.R 3 x0)) ∧ (let S1 := S.wI (S.R 3 x0) (Int32.toNatClampNeg (x4 + (Int32.ofNat (S.len (S.R 52 x2))))) x5
  c_6_31 E x0 x1 x2 x3 (x4 + 1) S1 mr sr Q)))))) ∧ (¬ (Int32.ofNat (S.len (S.R 52 x2))) ≤ x6 → (ox_has (S.K x0) 3 = true ∧ (ox_rdI (S.K (S.R 3 x0)) = true ∧ vp_in (x4 + x6) (S.len (S.R 3 x0)) ∧ (ox_has (S.K x1) 52 = true ∧ (ox_rdI (S.K (S.R 52 x1)) = true ∧ vp_in x4 (S.len (S.R 52 x1)) ∧ (ox_has (S.K x2) 52 = true ∧ (ox_rdI (S.K (S.R 52 x2)) = true ∧ vp_in x6 (S.len (S.R 52 x2)) ∧ (let w2 : Int32 := ((S.rI (S.R 3 x0) (Int32.toNatClampNeg (x4 + x6))) + ((S.rI (S.R 52 x1) (Int32.toNatClampNeg x4)) * (S.rI (S.R 52 x2) (Int32.toNatClampNeg x6)))) + x5
  (ox_has (S.K x0) 3 = true ∧ (S.K (S.R 3 x0) = 15 ∧ vp_in (x4 + x6) (S.len (S.R 3 x0)) ∧ (let S3 := S.wI (S.R 3 x0) (Int32.toNatClampNeg (x4 + x6)) (w2 &&& 32767)
  (let w4 : Int32 := w2 >>> (15 &&& 31)
  c_6_47 E x0 x1 x2 x3 x4 w4 (x6 + 1) S3 mr sr Q)))))))))))))))
set_option maxRecDepth 20000 in
set_option maxHeartbeats 4000000 in
theorem f_6_47 {E : ox_E} (hE : ox_mono E) {mr sr : Nat} {x0 : Nat} {x1 : Nat} {x2 : Nat} {x3 : Int32} {x4 : Int32} {x5 : Int32} {x6 : Int32} {S : ox_St} {Q : ox_Q} (h : q_6_47 E x0 x1 x2 x3 x4 x5 x6 S mr sr Q) : c_6_47 E x0 x1 x2 x3 x4 x5 x6 S mr sr Q := ox_C_fold hE h
set_option maxRecDepth 20000 in
def q_6_31 (E : ox_E) (x0 : Nat) (x1 : Nat) (x2 : Nat) (x3 : Int32) (x4 : Int32) (S : ox_St) (mr sr : Nat) (Q : ox_Q) : Prop :=
  (ox_has (S.K x1) 52 = true ∧ (ox_rdL (S.K (S.R 52 x1)) = true ∧ (((Int32.ofNat (S.len (S.R 52 x1))) ≤ x4 → (ox_has (S.K x0) 3 = true ∧ (ox_has (S.K x1) 51 = true ∧ (ox_has (S.K x2) 51 = true ∧ (((S.I 51 x1) = (S.I 51 x2) → (3 ≤ 3 ∧ 0 ≤ 8 ∧ ∃ mc1 mk2, mc1 ≤ mr ∧ mk2 ≤ sr ∧ E 14 [.inr (.inr (S.R 3 x0)), .inl (x3), .inl (0)] mc1 mk2 S (k_6_162 E x0 x1 x2 x3 x4 (mr - mc1) (sr - mk2) Q))) ∧ (¬ (S.I 51 x1) = (S.I 51 x2) → (3 ≤ 3 ∧ 0 ≤ 8 ∧ ∃ mc3 mk4, mc3 ≤ mr ∧ mk4 ≤ sr ∧ E 14 [.inr (.inr (S.R 3 x0)), .inl (x3), .inl (1)] mc3 mk4 S (k_6_162 E x0 x1 x2 x3 x4 (mr - mc3) (sr - mk4) Q)))))))) ∧ (¬ (Int32.ofNat (S.len (S.R 52 x1))) ≤ x4 → c_6_47 E x0 x1 x2 x3 x4 0 0 S mr sr Q))))
set_option maxRecDepth 20000 in
set_option maxHeartbeats 4000000 in
theorem f_6_31 {E : ox_E} (hE : ox_mono E) {mr sr : Nat} {x0 : Nat} {x1 : Nat} {x2 : Nat} {x3 : Int32} {x4 : Int32} {S : ox_St} {Q : ox_Q} (h : q_6_31 E x0 x1 x2 x3 x4 S mr sr Q) : c_6_31 E x0 x1 x2 x3 x4 S mr sr Q := ox_C_fold hE h
set_option maxRecDepth 20000 in
def q_6_28 (E : ox_E) (x0 : Nat) (x1 : Nat) (x2 : Nat) (x3 : Int32) (S : ox_St) (mr sr : Nat) (Q : ox_Q) : Prop :=
  c_6_31 E x0 x1 x2 x3 0 S mr sr Q
set_option maxRecDepth 20000 in
set_option maxHeartbeats 4000000 in
theorem f_6_28 {E : ox_E} (hE : ox_mono E) {mr sr : Nat} {x0 : Nat} {x1 : Nat} {x2 : Nat} {x3 : Int32} {S : ox_St} {Q : ox_Q} (h : q_6_28 E x0 x1 x2 x3 S mr sr Q) : k_6_28 E x0 x1 x2 x3 mr sr Q none S := ox_C_fold hE h
set_option maxRecDepth 20000 in
def q_6 (E : ox_E) (x0 : Nat) (x1 : Nat) (x2 : Nat) (S : ox_St) (mr sr : Nat) (Q : ox_Q) : Prop :=
  (ox_has (S.K x1) 52 = true ∧ (ox_rdL (S.K (S.R 52 x1)) = true ∧ (ox_has (S.K x2) 52 = true ∧ (ox_rdL (S.K (S.R 52 x2)) = true ∧ (let w1 : Int32 := (Int32.ofNat (S.len (S.R 52 x1))) + (Int32.ofNat (S.len (S.R 52 x2)))
  ((w1 ≤ 17 → (ox_has (S.K x0) 3 = true ∧ (2 ≤ 2 ∧ 0 ≤ 8 ∧ ∃ mc2 mk3, mc2 ≤ mr ∧ mk3 ≤ sr ∧ E 228 [.inr (.inr (S.R 3 x0)), .inl (0)] mc2 mk3 S (k_6_28 E x0 x1 x2 w1 (mr - mc2) (sr - mk3) Q)))) ∧ (¬ w1 ≤ 17 → (ox_isR (ox_mi 6).2.2.2.1 = true ∧ Q (some (.inr (.inr 0))) S))))))))
set_option maxRecDepth 20000 in
set_option maxHeartbeats 4000000 in
theorem f_6 {sp : ox_E} (hsp : ox_mono sp) {d : Nat} {mr sr : Nat} {x0 : Nat} {x1 : Nat} {x2 : Nat} {S : ox_St} {Q : ox_Q} (h : q_6 (ox_M sp d) x0 x1 x2 S mr sr Q) : ox_M sp (d + 1) 6 [.inr (.inr (x0)), .inr (.inr (x1)), .inr (.inr (x2))] mr sr S Q := Or.inr ⟨Nat.le_of_ble_eq_true rfl, ox_C_fold (ox_M_mono hsp d) h⟩
/-! OpcodeFrames$Calculator.quotient(LOpcodeFrames$Num;LOpcodeFrames$Num;)LOpcodeFrames$Num; -/
def k_7_12 (E : ox_E) (x0 : Nat) (x1 : Nat) (x2 : Nat) (mr sr : Nat) (Q : ox_Q) : ox_Q := fun r_ T_ => ox_C E (ox_mi 7).2.2.2.1 (ox_mc 7) (ox_cut 7) Q 12 [some (.inr (.inr (x0))), some (.inr (.inr (x1))), some (.inr (.inr (x2))), none, none, none, none, none] (r_.toList ++ []) T_ mr sr
def c_7_50 (E : ox_E) (x0 : Nat) (x1 : Nat) (x2 : Nat) (x3 : Int32) (x4 : Int32) (x5 : Int32) (x6 : Int32) (S : ox_St) (mr sr : Nat) (Q : ox_Q) : Prop := ox_C E (ox_mi 7).2.2.2.1 (ox_mc 7) (ox_cut 7) Q 50 [some (.inr (.inr (x0))), some (.inr (.inr (x1))), some (.inr (.inr (x2))), some (.inl (x3)), some (.inl (x4)), some (.inl (x5)), some (.inl (x6)), none] [] S mr sr
def k_7_117 (E : ox_E) (x0 : Nat) (x1 : Nat) (x2 : Nat) (x3 : Int32) (x4 : Int32) (x5 : Int32) (x6 : Int32) (mr sr : Nat) (Q : ox_Q) : ox_Q := fun r_ T_ => ox_C E (ox_mi 7).2.2.2.1 (ox_mc 7) (ox_cut 7) Q 117 [some (.inr (.inr (x0))), some (.inr (.inr (x1))), some (.inr (.inr (x2))), some (.inl (x3)), some (.inl (x4)), some (.inl (x5)), some (.inl (x6)), none] (r_.toList ++ []) T_ mr sr
set_option maxRecDepth 20000 in
def q_7_117 (E : ox_E) (x0 : Nat) (x1 : Nat) (x2 : Nat) (x3 : Int32) (x4 : Int32) (x5 : Int32) (x6 : Int32) (y0 : Nat) (S : ox_St) (mr sr : Nat) (Q : ox_Q) : Prop :=
  (ox_isR (ox_mi 7).2.2.2.1 = true ∧ Q (some (.inr (.inr y0))) S)
set_option maxRecDepth 20000 in
set_option maxHeartbeats 4000000 in
theorem f_7_117 {E : ox_E} (hE : ox_mono E) {mr sr : Nat} {x0 : Nat} {x1 : Nat} {x2 : Nat} {x3 : Int32} {x4 : Int32} {x5 : Int32} {x6 : Int32} {y0 : Nat} {S : ox_St} {Q : ox_Q} (h : q_7_117 E x0 x1 x2 x3 x4 x5 x6 y0 S mr sr Q) : k_7_117 E x0 x1 x2 x3 x4 x5 x6 mr sr Q (some (.inr (.inr (y0)))) S := ox_C_fold hE h
set_option maxRecDepth 20000 in
def q_7_50 (E : ox_E) (x0 : Nat) (x1 : Nat) (x2 : Nat) (x3 : Int32) (x4 : Int32) (x5 : Int32) (x6 : Int32) (S : ox_St) (mr sr : Nat) (Q : ox_Q) : Prop :=
  (ox_has (S.K x0) 5 = true ∧ (ox_rdL (S.K (S.R 5 x0)) = true ∧ (((Int32.ofNat (S.len (S.R 5 x0))) ≤ x6 → (ox_has (S.K x0) 5 = true ∧ (ox_has (S.K x0) 5 = true ∧ (ox_rdL (S.K (S.R 5 x0)) = true ∧ (3 ≤ 3 ∧ 0 ≤ 8 ∧ ∃ mc1 mk2, mc1 ≤ mr ∧ mk2 ≤ sr ∧ E 14 [.inr (.inr (S.R 5 x0)), .inl (Int32.ofNat (S.len (S.R 5 x0))), .inl (x4)] mc1 mk2 S (k_7_117 E x0 x1 x2 x3 x4 x5 x6 (mr - mc1) (sr - mk2) Q)))))) ∧ (¬ (Int32.ofNat (S.len (S.R 5 x0))) ≤ x6 → ((x5 ≤ 0 → (ox_has (S.K x0) 5 = true ∧ (ox_has (S.K x0) 5 = true ∧ (ox_rdL (S.K (S.R 5 x0)) = true ∧ (3 ≤ 3 ∧ 0 ≤ 8 ∧ ∃ mc3 mk4, mc3 ≤ mr ∧ mk4 ≤ sr ∧ E 14 [.inr (.inr (S.R 5 x0)), .inl (Int32.ofNat (S.len (S.R 5 x0))), .inl (x4)] mc3 mk4 S (k_7_117 E x0 x1 x2 x3 x4 x5 x6 (mr - mc3) (sr - mk4) Q)))))) ∧ (¬ x5 ≤ 0 → (ox_has (S.K x0) 5 = true ∧ (ox_rdI (S.K (S.R 5 x0)) = true ∧ vp_in x6 (S.len (S.R 5 x0)) ∧ (let w5 : Int32 := (S.rI (S.R 5 x0) (Int32.toNatClampNeg x6)) + x5
  (ox_has (S.K x0) 5 = true ∧ (S.K (S.R 5 x0) = 15 ∧ vp_in x6 (S.len (S.R 5 x0)) ∧ (let S6 := S.wI (S.R 5 x0) (Int32.toNatClampNeg x6) (w5 &&& 32767)
  (let w7 : Int32 := w5 >>> (15 &&& 31)
  c_7_50 E x0 x1 x2 x3 x4 w7 (x6 + 1) S6 mr sr Q)))))))))))))
set_option maxRecDepth 20000 in
set_option maxHeartbeats 4000000 in
theorem f_7_50 {E : ox_E} (hE : ox_mono E) {mr sr : Nat} {x0 : Nat} {x1 : Nat} {x2 : Nat} {x3 : Int32} {x4 : Int32} {x5 : Int32} {x6 : Int32} {S : ox_St} {Q : ox_Q} (h : q_7_50 E x0 x1 x2 x3 x4 x5 x6 S mr sr Q) : c_7_50 E x0 x1 x2 x3 x4 x5 x6 S mr sr Q := ox_C_fold hE h
set_option maxRecDepth 20000 in
def q_7_12 (E : ox_E) (x0 : Nat) (x1 : Nat) (x2 : Nat) (y0 : Int32) (S : ox_St) (mr sr : Nat) (Q : ox_Q) : Prop :=
  (ox_has (S.K x1) 51 = true ∧ (ox_has (S.K x2) 51 = true ∧ (((S.I 51 x1) = (S.I 51 x2) → (((0 : Int32) = 0 → c_7_50 E x0 x1 x2 y0 0 0 0 S mr sr Q) ∧ (¬ (0 : Int32) = 0 → ((y0 = 0 → c_7_50 E x0 x1 x2 y0 0 0 0 S mr sr Q) ∧ (¬ y0 = 0 → c_7_50 E x0 x1 x2 y0 0 1 0 S mr sr Q))))) ∧ (¬ (S.I 51 x1) = (S.I 51 x2) → (((1 : Int32) = 0 → c_7_50 E x0 x1 x2 y0 1 0 0 S mr sr Q) ∧ (¬ (1 : Int32) = 0 → ((y0 = 0 → c_7_50 E x0 x1 x2 y0 1 0 0 S mr sr Q) ∧ (¬ y0 = 0 → c_7_50 E x0 x1 x2 y0 1 1 0 S mr sr Q))))))))
set_option maxRecDepth 20000 in
set_option maxHeartbeats 4000000 in
theorem f_7_12 {E : ox_E} (hE : ox_mono E) {mr sr : Nat} {x0 : Nat} {x1 : Nat} {x2 : Nat} {y0 : Int32} {S : ox_St} {Q : ox_Q} (h : q_7_12 E x0 x1 x2 y0 S mr sr Q) : k_7_12 E x0 x1 x2 mr sr Q (some (.inl (y0))) S := ox_C_fold hE h
set_option maxRecDepth 20000 in
def q_7 (E : ox_E) (x0 : Nat) (x1 : Nat) (x2 : Nat) (S : ox_St) (mr sr : Nat) (Q : ox_Q) : Prop :=
  (ox_has (S.K x1) 52 = true ∧ (ox_has (S.K x2) 52 = true ∧ (3 ≤ 3 ∧ S.K x0 = 2 ∧ 0 ≤ 8 ∧ ∃ mc1 mk2, mc1 ≤ mr ∧ mk2 ≤ sr ∧ E 9 [.inr (.inr (x0)), .inr (.inr (S.R 52 x1)), .inr (.inr (S.R 52 x2))] mc1 mk2 S (k_7_12 E x0 x1 x2 (mr - mc1) (sr - mk2) Q))))
set_option maxRecDepth 20000 in
set_option maxHeartbeats 4000000 in
theorem f_7 {sp : ox_E} (hsp : ox_mono sp) {d : Nat} {mr sr : Nat} {x0 : Nat} {x1 : Nat} {x2 : Nat} {S : ox_St} {Q : ox_Q} (h : q_7 (ox_M sp d) x0 x1 x2 S mr sr Q) : ox_M sp (d + 1) 7 [.inr (.inr (x0)), .inr (.inr (x1)), .inr (.inr (x2))] mr sr S Q := Or.inr ⟨Nat.le_of_ble_eq_true rfl, ox_C_fold (ox_M_mono hsp d) h⟩
/-! OpcodeFrames$Calculator.rest(LOpcodeFrames$Num;LOpcodeFrames$Num;)LOpcodeFrames$Num; -/
def k_8_12 (E : ox_E) (x0 : Nat) (x1 : Nat) (x2 : Nat) (mr sr : Nat) (Q : ox_Q) : ox_Q := fun r_ T_ => ox_C E (ox_mi 8).2.2.2.1 (ox_mc 8) (ox_cut 8) Q 12 [some (.inr (.inr (x0))), some (.inr (.inr (x1))), some (.inr (.inr (x2))), none, none, none, none] (r_.toList ++ []) T_ mr sr
def c_8_34 (E : ox_E) (x0 : Nat) (x1 : Nat) (x2 : Nat) (x3 : Int32) (x4 : Int32) (x5 : Int32) (S : ox_St) (mr sr : Nat) (Q : ox_Q) : Prop := ox_C E (ox_mi 8).2.2.2.1 (ox_mc 8) (ox_cut 8) Q 34 [some (.inr (.inr (x0))), some (.inr (.inr (x1))), some (.inr (.inr (x2))), some (.inl (x3)), some (.inl (x4)), some (.inl (x5)), none] [] S mr sr
def k_8_50 (E : ox_E) (x0 : Nat) (x1 : Nat) (x2 : Nat) (x3 : Int32) (x4 : Int32) (x5 : Int32) (mr sr : Nat) (Q : ox_Q) : ox_Q := fun r_ T_ => ox_C E (ox_mi 8).2.2.2.1 (ox_mc 8) (ox_cut 8) Q 50 [some (.inr (.inr (x0))), some (.inr (.inr (x1))), some (.inr (.inr (x2))), some (.inl (x3)), some (.inl (x4)), some (.inl (x5)), none] (r_.toList ++ []) T_ mr sr
def k_8_107 (E : ox_E) (x0 : Nat) (x1 : Nat) (x2 : Nat) (x3 : Int32) (mr sr : Nat) (Q : ox_Q) : ox_Q := fun r_ T_ => ox_C E (ox_mi 8).2.2.2.1 (ox_mc 8) (ox_cut 8) Q 107 [some (.inr (.inr (x0))), some (.inr (.inr (x1))), some (.inr (.inr (x2))), some (.inl (x3)), none, none, none] (r_.toList ++ []) T_ mr sr
set_option maxRecDepth 20000 in
def q_8_107 (E : ox_E) (x0 : Nat) (x1 : Nat) (x2 : Nat) (x3 : Int32) (y0 : Nat) (S : ox_St) (mr sr : Nat) (Q : ox_Q) : Prop :=
  (ox_isR (ox_mi 8).2.2.2.1 = true ∧ Q (some (.inr (.inr y0))) S)
set_option maxRecDepth 20000 in
set_option maxHeartbeats 4000000 in
theorem f_8_107 {E : ox_E} (hE : ox_mono E) {mr sr : Nat} {x0 : Nat} {x1 : Nat} {x2 : Nat} {x3 : Int32} {y0 : Nat} {S : ox_St} {Q : ox_Q} (h : q_8_107 E x0 x1 x2 x3 y0 S mr sr Q) : k_8_107 E x0 x1 x2 x3 mr sr Q (some (.inr (.inr (y0)))) S := ox_C_fold hE h
set_option maxRecDepth 20000 in
def q_8_50 (E : ox_E) (x0 : Nat) (x1 : Nat) (x2 : Nat) (x3 : Int32) (x4 : Int32) (x5 : Int32) (y0 : Int32) (S : ox_St) (mr sr : Nat) (Q : ox_Q) : Prop :=
  (ox_has (S.K x0) 3 = true ∧ (ox_rdI (S.K (S.R 3 x0)) = true ∧ vp_in x5 (S.len (S.R 3 x0)) ∧ (let w1 : Int32 := (y0 - (S.rI (S.R 3 x0) (Int32.toNatClampNeg x5))) - x4
  (ox_has (S.K x0) 3 = true ∧ (S.K (S.R 3 x0) = 15 ∧ vp_in x5 (S.len (S.R 3 x0)) ∧ (let S2 := S.wI (S.R 3 x0) (Int32.toNatClampNeg x5) (w1 &&& 32767)
  (((0 : Int32) ≤ w1 → c_8_34 E x0 x1 x2 x3 0 (x5 + 1) S2 mr sr Q) ∧ (¬ (0 : Int32) ≤ w1 → c_8_34 E x0 x1 x2 x3 1 (x5 + 1) S2 mr sr Q))))))))
set_option maxRecDepth 20000 in
set_option maxHeartbeats 4000000 in
theorem f_8_50 {E : ox_E} (hE : ox_mono E) {mr sr : Nat} {x0 : Nat} {x1 : Nat} {x2 : Nat} {x3 : Int32} {x4 : Int32} {x5 : Int32} {y0 : Int32} {S : ox_St} {Q : ox_Q} (h : q_8_50 E x0 x1 x2 x3 x4 x5 y0 S mr sr Q) : k_8_50 E x0 x1 x2 x3 x4 x5 mr sr Q (some (.inl (y0))) S := ox_C_fold hE h
set_option maxRecDepth 20000 in
def q_8_34 (E : ox_E) (x0 : Nat) (x1 : Nat) (x2 : Nat) (x3 : Int32) (x4 : Int32) (x5 : Int32) (S : ox_St) (mr sr : Nat) (Q : ox_Q) : Prop :=
  (((16 : Int32) ≤ x5 → (ox_has (S.K x0) 3 = true ∧ (ox_has (S.K x2) 51 = true ∧ (3 ≤ 3 ∧ 0 ≤ 8 ∧ ∃ mc1 mk2, mc1 ≤ mr ∧ mk2 ≤ sr ∧ E 14 [.inr (.inr (S.R 3 x0)), .inl (16), .inl (S.I 51 x2)] mc1 mk2 S (k_8_107 E x0 x1 x2 x3 (mr - mc1) (sr - mk2) Q))))) ∧ (¬ (16 : Int32) ≤ x5 → (ox_has (S.K x2) 52 = true ∧ (2 ≤ 2 ∧ 0 ≤ 8 ∧ ∃ mc3 mk4, mc3 ≤ mr ∧ mk4 ≤ sr ∧ E 13 [.inr (.inr (S.R 52 x2)), .inl (x5)] mc3 mk4 S (k_8_50 E x0 x1 x2 x3 x4 x5 (mr - mc3) (sr - mk4) Q)))))
set_option maxRecDepth 20000 in
set_option maxHeartbeats 4000000 in
theorem f_8_34 {E : ox_E} (hE : ox_mono E) {mr sr : Nat} {x0 : Nat} {x1 : Nat} {x2 : Nat} {x3 : Int32} {x4 : Int32} {x5 : Int32} {S : ox_St} {Q : ox_Q} (h : q_8_34 E x0 x1 x2 x3 x4 x5 S mr sr Q) : c_8_34 E x0 x1 x2 x3 x4 x5 S mr sr Q := ox_C_fold hE h
set_option maxRecDepth 20000 in
def q_8_12 (E : ox_E) (x0 : Nat) (x1 : Nat) (x2 : Nat) (y0 : Int32) (S : ox_St) (mr sr : Nat) (Q : ox_Q) : Prop :=
  ((y0 = 0 → (ox_has (S.K x0) 3 = true ∧ (ox_has (S.K x2) 51 = true ∧ (3 ≤ 3 ∧ 0 ≤ 8 ∧ ∃ mc1 mk2, mc1 ≤ mr ∧ mk2 ≤ sr ∧ E 14 [.inr (.inr (S.R 3 x0)), .inl (16), .inl (S.I 51 x2)] mc1 mk2 S (k_8_107 E x0 x1 x2 y0 (mr - mc1) (sr - mk2) Q))))) ∧ (¬ y0 = 0 → (ox_has (S.K x1) 51 = true ∧ (ox_has (S.K x2) 51 = true ∧ (((S.I 51 x1) = (S.I 51 x2) → (ox_has (S.K x0) 3 = true ∧ (ox_has (S.K x2) 51 = true ∧ (3 ≤ 3 ∧ 0 ≤ 8 ∧ ∃ mc3 mk4, mc3 ≤ mr ∧ mk4 ≤ sr ∧ E 14 [.inr (.inr (S.R 3 x0)), .inl (16), .inl (S.I 51 x2)] mc3 mk4 S (k_8_107 E x0 x1 x2 y0 (mr - mc3) (sr - mk4) Q))))) ∧ (¬ (S.I 51 x1) = (S.I 51 x2) → c_8_34 E x0 x1 x2 y0 0 0 S mr sr Q))))))
set_option maxRecDepth 20000 in
set_option maxHeartbeats 4000000 in
theorem f_8_12 {E : ox_E} (hE : ox_mono E) {mr sr : Nat} {x0 : Nat} {x1 : Nat} {x2 : Nat} {y0 : Int32} {S : ox_St} {Q : ox_Q} (h : q_8_12 E x0 x1 x2 y0 S mr sr Q) : k_8_12 E x0 x1 x2 mr sr Q (some (.inl (y0))) S := ox_C_fold hE h
set_option maxRecDepth 20000 in
def q_8 (E : ox_E) (x0 : Nat) (x1 : Nat) (x2 : Nat) (S : ox_St) (mr sr : Nat) (Q : ox_Q) : Prop :=
  (ox_has (S.K x1) 52 = true ∧ (ox_has (S.K x2) 52 = true ∧ (3 ≤ 3 ∧ S.K x0 = 2 ∧ 0 ≤ 8 ∧ ∃ mc1 mk2, mc1 ≤ mr ∧ mk2 ≤ sr ∧ E 9 [.inr (.inr (x0)), .inr (.inr (S.R 52 x1)), .inr (.inr (S.R 52 x2))] mc1 mk2 S (k_8_12 E x0 x1 x2 (mr - mc1) (sr - mk2) Q))))
set_option maxRecDepth 20000 in
set_option maxHeartbeats 4000000 in
theorem f_8 {sp : ox_E} (hsp : ox_mono sp) {d : Nat} {mr sr : Nat} {x0 : Nat} {x1 : Nat} {x2 : Nat} {S : ox_St} {Q : ox_Q} (h : q_8 (ox_M sp d) x0 x1 x2 S mr sr Q) : ox_M sp (d + 1) 8 [.inr (.inr (x0)), .inr (.inr (x1)), .inr (.inr (x2))] mr sr S Q := Or.inr ⟨Nat.le_of_ble_eq_true rfl, ox_C_fold (ox_M_mono hsp d) h⟩
/-! OpcodeFrames$Calculator.divide([I[I)Z -/
def k_9_8 (E : ox_E) (x0 : Nat) (x1 : Nat) (x2 : Nat) (mr sr : Nat) (Q : ox_Q) : ox_Q := fun r_ T_ => ox_C E (ox_mi 9).2.2.2.1 (ox_mc 9) (ox_cut 9) Q 8 [some (.inr (.inr (x0))), some (.inr (.inr (x1))), some (.inr (.inr (x2))), none, none, none, none] (r_.toList ++ []) T_ mr sr
def c_9_14 (E : ox_E) (x0 : Nat) (x1 : Nat) (x2 : Nat) (x3 : Int32) (x4 : Int32) (S : ox_St) (mr sr : Nat) (Q : ox_Q) : Prop := ox_C E (ox_mi 9).2.2.2.1 (ox_mc 9) (ox_cut 9) Q 14 [some (.inr (.inr (x0))), some (.inr (.inr (x1))), some (.inr (.inr (x2))), some (.inl (x3)), some (.inl (x4)), none, none] [] S mr sr
def k_9_55 (E : ox_E) (x0 : Nat) (x1 : Nat) (x2 : Nat) (x3 : Int32) (x4 : Int32) (mr sr : Nat) (Q : ox_Q) : ox_Q := fun r_ T_ => ox_C E (ox_mi 9).2.2.2.1 (ox_mc 9) (ox_cut 9) Q 55 [some (.inr (.inr (x0))), some (.inr (.inr (x1))), some (.inr (.inr (x2))), some (.inl (x3)), some (.inl (x4)), none, none] (r_.toList ++ []) T_ mr sr
def k_9_65 (E : ox_E) (x0 : Nat) (x1 : Nat) (x2 : Nat) (x3 : Int32) (x4 : Int32) (mr sr : Nat) (Q : ox_Q) : ox_Q := fun r_ T_ => ox_C E (ox_mi 9).2.2.2.1 (ox_mc 9) (ox_cut 9) Q 65 [some (.inr (.inr (x0))), some (.inr (.inr (x1))), some (.inr (.inr (x2))), some (.inl (x3)), some (.inl (x4)), none, none] (r_.toList ++ []) T_ mr sr
def c_9_71 (E : ox_E) (x0 : Nat) (x1 : Nat) (x2 : Nat) (x3 : Int32) (x4 : Int32) (x5 : Int32) (S : ox_St) (mr sr : Nat) (Q : ox_Q) : Prop := ox_C E (ox_mi 9).2.2.2.1 (ox_mc 9) (ox_cut 9) Q 71 [some (.inr (.inr (x0))), some (.inr (.inr (x1))), some (.inr (.inr (x2))), some (.inl (x3)), some (.inl (x4)), some (.inl (x5)), none] [] S mr sr
def k_9_97 (E : ox_E) (x0 : Nat) (x1 : Nat) (x2 : Nat) (x3 : Int32) (x4 : Int32) (x5 : Int32) (y1 : Int32) (y2 : Int32) (y3 : Nat) (y4 : Int32) (y5 : Nat) (mr sr : Nat) (Q : ox_Q) : ox_Q := fun r_ T_ => ox_C E (ox_mi 9).2.2.2.1 (ox_mc 9) (ox_cut 9) Q 97 [some (.inr (.inr (x0))), some (.inr (.inr (x1))), some (.inr (.inr (x2))), some (.inl (x3)), some (.inl (x4)), some (.inl (x5)), none] (r_.toList ++ [.inl (y1), .inl (y2), .inr (.inr (y3)), .inl (y4), .inr (.inr (y5))]) T_ mr sr
def k_9_100 (E : ox_E) (x0 : Nat) (x1 : Nat) (x2 : Nat) (x3 : Int32) (x4 : Int32) (x5 : Int32) (y1 : Int32) (y2 : Nat) (mr sr : Nat) (Q : ox_Q) : ox_Q := fun r_ T_ => ox_C E (ox_mi 9).2.2.2.1 (ox_mc 9) (ox_cut 9) Q 100 [some (.inr (.inr (x0))), some (.inr (.inr (x1))), some (.inr (.inr (x2))), some (.inl (x3)), some (.inl (x4)), some (.inl (x5)), none] (r_.toList ++ [.inl (y1), .inr (.inr (y2))]) T_ mr sr
def c_9_113 (E : ox_E) (x0 : Nat) (x1 : Nat) (x2 : Nat) (x3 : Int32) (x4 : Int32) (x5 : Int32) (x6 : Int32) (S : ox_St) (mr sr : Nat) (Q : ox_Q) : Prop := ox_C E (ox_mi 9).2.2.2.1 (ox_mc 9) (ox_cut 9) Q 113 [some (.inr (.inr (x0))), some (.inr (.inr (x1))), some (.inr (.inr (x2))), some (.inl (x3)), some (.inl (x4)), some (.inl (x5)), some (.inl (x6))] [] S mr sr
set_option maxRecDepth 20000 in
def q_9_113 (E : ox_E) (x0 : Nat) (x1 : Nat) (x2 : Nat) (x3 : Int32) (x4 : Int32) (x5 : Int32) (x6 : Int32) (S : ox_St) (mr sr : Nat) (Q : ox_Q) : Prop :=
  (((16 : Int32) < x6 → ((x5 = 0 ∨ x5 = 1) ∧ Q (some (.inl x5)) S)) ∧ (¬ (16 : Int32) < x6 → (ox_has (S.K x0) 3 = true ∧ (ox_has (S.K x0) 3 = true ∧ (ox_rdI (S.K (S.R 3 x0)) = true ∧ vp_in x6 (S.len (S.R 3 x0)) ∧ (ox_has (S.K x0) 3 = true ∧ (ox_rdI (S.K (S.R 3 x0)) = true ∧ vp_in (x6 + 1) (S.len (S.R 3 x0)) ∧ (S.K (S.R 3 x0) = 15 ∧ vp_in x6 (S.len (S.R 3 x0)) ∧ (let S1 := S.wI (S.R 3 x0) (Int32.toNatClampNeg x6) (((S.rI (S.R 3 x0) (Int32.toNatClampNeg x6)) >>> (x4 &&& 31)) ||| (((S.rI (S.R 3 x0) (Int32.toNatClampNeg (x6 + 1))) <<< ((15 - x4) &&& 31)) &&& 32767))
  ((¬ x5 = 0 → c_9_113 E x0 x1 x2 x3 x4 1 (x6 + 1) S1 mr sr Q) ∧ (x5 = 0 → (ox_has (S1.K x0) 3 = true ∧ (ox_rdI (S1.K (S1.R 3 x0)) = true ∧ vp_in x6 (S1.len (S1.R 3 x0)) ∧ (((S1.rI (S1.R 3 x0) (Int32.toNatClampNeg x6)) = 0 → c_9_113 E x0 x1 x2 x3 x4 0 (x6 + 1) S1 mr sr Q) ∧ (¬ (S1.rI (S1.R 3 x0) (Int32.toNatClampNeg x6)) = 0 → c_9_113 E x0 x1 x2 x3 x4 1 (x6 + 1) S1 mr sr Q)))))))))))))))
set_option maxRecDepth 20000 in
set_option maxHeartbeats 4000000 in
theorem f_9_113 {E : ox_E} (hE : ox_mono E) {mr sr : Nat} {x0 : Nat} {x1 : Nat} {x2 : Nat} {x3 : Int32} {x4 : Int32} {x5 : Int32} {x6 : Int32} {S : ox_St} {Q : ox_Q} (h : q_9_113 E x0 x1 x2 x3 x4 x5 x6 S mr sr Q) : c_9_113 E x0 x1 x2 x3 x4 x5 x6 S mr sr Q := ox_C_fold hE h
set_option maxRecDepth 20000 in
def q_9_100 (E : ox_E) (x0 : Nat) (x1 : Nat) (x2 : Nat) (x3 : Int32) (x4 : Int32) (x5 : Int32) (y0 : Int32) (y1 : Int32) (y2 : Nat) (S : ox_St) (mr sr : Nat) (Q : ox_Q) : Prop :=
  (S.K y2 = 15 ∧ vp_in y1 (S.len y2) ∧ (let S1 := S.wI y2 (Int32.toNatClampNeg y1) y0
  c_9_71 E x0 x1 x2 x3 x4 (x5 + (-1)) S1 mr sr Q))
set_option maxRecDepth 20000 in
set_option maxHeartbeats 4000000 in
theorem f_9_100 {E : ox_E} (hE : ox_mono E) {mr sr : Nat} {x0 : Nat} {x1 : Nat} {x2 : Nat} {x3 : Int32} {x4 : Int32} {x5 : Int32} {y0 : Int32} {y1 : Int32} {y2 : Nat} {S : ox_St} {Q : ox_Q} (h : q_9_100 E x0 x1 x2 x3 x4 x5 y0 y1 y2 S mr sr Q) : k_9_100 E x0 x1 x2 x3 x4 x5 y1 y2 mr sr Q (some (.inl (y0))) S := ox_C_fold hE h
set_option maxRecDepth 20000 in
def q_9_97 (E : ox_E) (x0 : Nat) (x1 : Nat) (x2 : Nat) (x3 : Int32) (x4 : Int32) (x5 : Int32) (y0 : Int64) (y1 : Int32) (y2 : Int32) (y3 : Nat) (y4 : Int32) (y5 : Nat) (S : ox_St) (mr sr : Nat) (Q : ox_Q) : Prop :=
  (4 ≤ 6 ∧ S.K y3 = 2 ∧ 2 ≤ 8 ∧ ∃ mc1 mk2, mc1 ≤ mr ∧ mk2 ≤ sr ∧ E 12 [.inr (.inr (y3)), .inl (y2), .inl (y1), .inr (.inl (y0))] mc1 mk2 S (k_9_100 E x0 x1 x2 x3 x4 x5 y4 y5 (mr - mc1) (sr - mk2) Q))
set_option maxRecDepth 20000 in
set_option maxHeartbeats 4000000 in
theorem f_9_97 {E : ox_E} (hE : ox_mono E) {mr sr : Nat} {x0 : Nat} {x1 : Nat} {x2 : Nat} {x3 : Int32} {x4 : Int32} {x5 : Int32} {y0 : Int64} {y1 : Int32} {y2 : Int32} {y3 : Nat} {y4 : Int32} {y5 : Nat} {S : ox_St} {Q : ox_Q} (h : q_9_97 E x0 x1 x2 x3 x4 x5 y0 y1 y2 y3 y4 y5 S mr sr Q) : k_9_97 E x0 x1 x2 x3 x4 x5 y1 y2 y3 y4 y5 mr sr Q (some (.inr (.inl (y0)))) S := ox_C_fold hE h
set_option maxRecDepth 20000 in
def q_9_71 (E : ox_E) (x0 : Nat) (x1 : Nat) (x2 : Nat) (x3 : Int32) (x4 : Int32) (x5 : Int32) (S : ox_St) (mr sr : Nat) (Q : ox_Q) : Prop :=
  ((x5 < 0 → c_9_113 E x0 x1 x2 x3 x4 0 0 S mr sr Q) ∧ (¬ x5 < 0 → ((x3 ≤ 0 → c_9_113 E x0 x1 x2 x3 x4 0 0 S mr sr Q) ∧ (¬ x3 ≤ 0 → (ox_has (S.K x0) 5 = true ∧ (3 ≤ 8 ∧ S.K x0 = 2 ∧ 5 ≤ 8 ∧ ∃ mc1 mk2, mc1 ≤ mr ∧ mk2 ≤ sr ∧ E 11 [.inr (.inr (x0)), .inl (x5), .inl (x3)] mc1 mk2 S (k_9_97 E x0 x1 x2 x3 x4 x5 x3 x5 x0 x5 (S.R 5 x0) (mr - mc1) (sr - mk2) Q)))))))
set_option maxRecDepth 20000 in
set_option maxHeartbeats 4000000 in
theorem f_9_71 {E : ox_E} (hE : ox_mono E) {mr sr : Nat} {x0 : Nat} {x1 : Nat} {x2 : Nat} {x3 : Int32} {x4 : Int32} {x5 : Int32} {S : ox_St} {Q : ox_Q} (h : q_9_71 E x0 x1 x2 x3 x4 x5 S mr sr Q) : c_9_71 E x0 x1 x2 x3 x4 x5 S mr sr Q := ox_C_fold hE h
set_option maxRecDepth 20000 in
def q_9_65 (E : ox_E) (x0 : Nat) (x1 : Nat) (x2 : Nat) (x3 : Int32) (x4 : Int32) (S : ox_St) (mr sr : Nat) (Q : ox_Q) : Prop :=
  (ox_rdL (S.K x1) = true ∧ (let w1 : Int32 := (Int32.ofNat (S.len x1)) - x3
  c_9_71 E x0 x1 x2 x3 x4 w1 S mr sr Q))
set_option maxRecDepth 20000 in
set_option maxHeartbeats 4000000 in
theorem f_9_65 {E : ox_E} (hE : ox_mono E) {mr sr : Nat} {x0 : Nat} {x1 : Nat} {x2 : Nat} {x3 : Int32} {x4 : Int32} {S : ox_St} {Q : ox_Q} (h : q_9_65 E x0 x1 x2 x3 x4 S mr sr Q) : k_9_65 E x0 x1 x2 x3 x4 mr sr Q none S := ox_C_fold hE h
set_option maxRecDepth 20000 in
def q_9_55 (E : ox_E) (x0 : Nat) (x1 : Nat) (x2 : Nat) (x3 : Int32) (x4 : Int32) (S : ox_St) (mr sr : Nat) (Q : ox_Q) : Prop :=
  (ox_has (S.K x0) 4 = true ∧ (3 ≤ 3 ∧ 0 ≤ 8 ∧ ∃ mc1 mk2, mc1 ≤ mr ∧ mk2 ≤ sr ∧ E 10 [.inr (.inr (x2)), .inl (x4), .inr (.inr (S.R 4 x0))] mc1 mk2 S (k_9_65 E x0 x1 x2 x3 x4 (mr - mc1) (sr - mk2) Q)))
set_option maxRecDepth 20000 in
set_option maxHeartbeats 4000000 in
theorem f_9_55 {E : ox_E} (hE : ox_mono E) {mr sr : Nat} {x0 : Nat} {x1 : Nat} {x2 : Nat} {x3 : Int32} {x4 : Int32} {S : ox_St} {Q : ox_Q} (h : q_9_55 E x0 x1 x2 x3 x4 S mr sr Q) : k_9_55 E x0 x1 x2 x3 x4 mr sr Q none S := ox_C_fold hE h
set_option maxRecDepth 20000 in
def q_9_14 (E : ox_E) (x0 : Nat) (x1 : Nat) (x2 : Nat) (x3 : Int32) (x4 : Int32) (S : ox_St) (mr sr : Nat) (Q : ox_Q) : Prop :=
  (((15 : Int32) ≤ x4 → (ox_has (S.K x0) 3 = true ∧ (3 ≤ 3 ∧ 0 ≤ 8 ∧ ∃ mc1 mk2, mc1 ≤ mr ∧ mk2 ≤ sr ∧ E 10 [.inr (.inr (x1)), .inl (x4), .inr (.inr (S.R 3 x0))] mc1 mk2 S (k_9_55 E x0 x1 x2 x3 x4 (mr - mc1) (sr - mk2) Q)))) ∧ (¬ (15 : Int32) ≤ x4 → ((x3 ≤ 0 → (ox_has (S.K x0) 3 = true ∧ (3 ≤ 3 ∧ 0 ≤ 8 ∧ ∃ mc3 mk4, mc3 ≤ mr ∧ mk4 ≤ sr ∧ E 10 [.inr (.inr (x1)), .inl (x4), .inr (.inr (S.R 3 x0))] mc3 mk4 S (k_9_55 E x0 x1 x2 x3 x4 (mr - mc3) (sr - mk4) Q)))) ∧ (¬ x3 ≤ 0 → (ox_rdI (S.K x2) = true ∧ vp_in (x3 - 1) (S.len x2) ∧ (((16384 : Int32) ≤ ((S.rI x2 (Int32.toNatClampNeg (x3 - 1))) <<< (x4 &&& 31)) → (ox_has (S.K x0) 3 = true ∧ (3 ≤ 3 ∧ 0 ≤ 8 ∧ ∃ mc5 mk6, mc5 ≤ mr ∧ mk6 ≤ sr ∧ E 10 [.inr (.inr (x1)), .inl (x4), .inr (.inr (S.R 3 x0))] mc5 mk6 S (k_9_55 E x0 x1 x2 x3 x4 (mr - mc5) (sr - mk6) Q)))) ∧ (¬ (16384 : Int32) ≤ ((S.rI x2 (Int32.toNatClampNeg (x3 - 1))) <<< (x4 &&& 31)) → c_9_14 E x0 x1 x2 x3 (x4 + 1) S mr sr Q)))))))
set_option maxRecDepth 20000 in
set_option maxHeartbeats 4000000 in
theorem f_9_14 {E : ox_E} (hE : ox_mono E) {mr sr : Nat} {x0 : Nat} {x1 : Nat} {x2 : Nat} {x3 : Int32} {x4 : Int32} {S : ox_St} {Q : ox_Q} (h : q_9_14 E x0 x1 x2 x3 x4 S mr sr Q) : c_9_14 E x0 x1 x2 x3 x4 S mr sr Q := ox_C_fold hE h
set_option maxRecDepth 20000 in
def q_9_8 (E : ox_E) (x0 : Nat) (x1 : Nat) (x2 : Nat) (S : ox_St) (mr sr : Nat) (Q : ox_Q) : Prop :=
  (ox_rdL (S.K x2) = true ∧ (let w1 : Int32 := Int32.ofNat (S.len x2)
  c_9_14 E x0 x1 x2 w1 0 S mr sr Q))
set_option maxRecDepth 20000 in
set_option maxHeartbeats 4000000 in
theorem f_9_8 {E : ox_E} (hE : ox_mono E) {mr sr : Nat} {x0 : Nat} {x1 : Nat} {x2 : Nat} {S : ox_St} {Q : ox_Q} (h : q_9_8 E x0 x1 x2 S mr sr Q) : k_9_8 E x0 x1 x2 mr sr Q none S := ox_C_fold hE h
set_option maxRecDepth 20000 in
def q_9 (E : ox_E) (x0 : Nat) (x1 : Nat) (x2 : Nat) (S : ox_St) (mr sr : Nat) (Q : ox_Q) : Prop :=
  (ox_has (S.K x0) 5 = true ∧ (2 ≤ 2 ∧ 0 ≤ 8 ∧ ∃ mc1 mk2, mc1 ≤ mr ∧ mk2 ≤ sr ∧ E 228 [.inr (.inr (S.R 5 x0)), .inl (0)] mc1 mk2 S (k_9_8 E x0 x1 x2 (mr - mc1) (sr - mk2) Q)))
set_option maxRecDepth 20000 in
set_option maxHeartbeats 4000000 in
theorem f_9 {sp : ox_E} (hsp : ox_mono sp) {d : Nat} {mr sr : Nat} {x0 : Nat} {x1 : Nat} {x2 : Nat} {S : ox_St} {Q : ox_Q} (h : q_9 (ox_M sp d) x0 x1 x2 S mr sr Q) : ox_M sp (d + 1) 9 [.inr (.inr (x0)), .inr (.inr (x1)), .inr (.inr (x2))] mr sr S Q := Or.inr ⟨Nat.le_of_ble_eq_true rfl, ox_C_fold (ox_M_mono hsp d) h⟩
/-! OpcodeFrames$Calculator.shiftUp([II[I)V -/
def k_10_5 (E : ox_E) (x0 : Nat) (x1 : Int32) (x2 : Nat) (mr sr : Nat) (Q : ox_Q) : ox_Q := fun r_ T_ => ox_C E (ox_mi 10).2.2.2.1 (ox_mc 10) (ox_cut 10) Q 5 [some (.inr (.inr (x0))), some (.inl (x1)), some (.inr (.inr (x2))), none, none, none] (r_.toList ++ []) T_ mr sr
def c_10_10 (E : ox_E) (x0 : Nat) (x1 : Int32) (x2 : Nat) (x3 : Int32) (x4 : Int32) (S : ox_St) (mr sr : Nat) (Q : ox_Q) : Prop := ox_C E (ox_mi 10).2.2.2.1 (ox_mc 10) (ox_cut 10) Q 10 [some (.inr (.inr (x0))), some (.inl (x1)), some (.inr (.inr (x2))), some (.inl (x3)), some (.inl (x4)), none] [] S mr sr
set_option maxRecDepth 20000 in
def q_10_10 (E : ox_E) (x0 : Nat) (x1 : Int32) (x2 : Nat) (x3 : Int32) (x4 : Int32) (S : ox_St) (mr sr : Nat) (Q : ox_Q) : Prop :=
  (ox_rdL (S.K x0) = true ∧ (((Int32.ofNat (S.len x0)) ≤ x4 → ((ox_mi 10).2.2.2.1 = none ∧ Q none S)) ∧ (¬ (Int32.ofNat (S.len x0)) ≤ x4 → (ox_rdL (S.K x2) = true ∧ (((Int32.ofNat (S.len x2)) ≤ (x4 + 1) → ((ox_mi 10).2.2.2.1 = none ∧ Q none S)) ∧ (¬ (Int32.ofNat (S.len x2)) ≤ (x4 + 1) → (ox_rdI (S.K x0) = true ∧ vp_in x4 (S.len x0) ∧ (let w1 : Int32 := ((S.rI x0 (Int32.toNatClampNeg x4)) <<< (x1 &&& 31)) ||| x3
  (S.K x2 = 15 ∧ vp_in x4 (S.len x2) ∧ (let S2 := S.wI x2 (Int32.toNatClampNeg x4) (w1 &&& 32767)
  (let w3 : Int32 := w1 >>> (15 &&& 31)
  (S2.K x2 = 15 ∧ vp_in (x4 + 1) (S2.len x2) ∧ (let S4 := S2.wI x2 (Int32.toNatClampNeg (x4 + 1)) w3
  c_10_10 E x0 x1 x2 w3 (x4 + 1) S4 mr sr Q)))))))))))))
set_option maxRecDepth 20000 in
set_option maxHeartbeats 4000000 in
theorem f_10_10 {E : ox_E} (hE : ox_mono E) {mr sr : Nat} {x0 : Nat} {x1 : Int32} {x2 : Nat} {x3 : Int32} {x4 : Int32} {S : ox_St} {Q : ox_Q} (h : q_10_10 E x0 x1 x2 x3 x4 S mr sr Q) : c_10_10 E x0 x1 x2 x3 x4 S mr sr Q := ox_C_fold hE h
set_option maxRecDepth 20000 in
def q_10_5 (E : ox_E) (x0 : Nat) (x1 : Int32) (x2 : Nat) (S : ox_St) (mr sr : Nat) (Q : ox_Q) : Prop :=
  c_10_10 E x0 x1 x2 0 0 S mr sr Q
set_option maxRecDepth 20000 in
set_option maxHeartbeats 4000000 in
theorem f_10_5 {E : ox_E} (hE : ox_mono E) {mr sr : Nat} {x0 : Nat} {x1 : Int32} {x2 : Nat} {S : ox_St} {Q : ox_Q} (h : q_10_5 E x0 x1 x2 S mr sr Q) : k_10_5 E x0 x1 x2 mr sr Q none S := ox_C_fold hE h
set_option maxRecDepth 20000 in
def q_10 (E : ox_E) (x0 : Nat) (x1 : Int32) (x2 : Nat) (S : ox_St) (mr sr : Nat) (Q : ox_Q) : Prop :=
  (2 ≤ 2 ∧ 0 ≤ 8 ∧ ∃ mc1 mk2, mc1 ≤ mr ∧ mk2 ≤ sr ∧ E 228 [.inr (.inr (x2)), .inl (0)] mc1 mk2 S (k_10_5 E x0 x1 x2 (mr - mc1) (sr - mk2) Q))
set_option maxRecDepth 20000 in
set_option maxHeartbeats 4000000 in
theorem f_10 {sp : ox_E} (hsp : ox_mono sp) {d : Nat} {mr sr : Nat} {x0 : Nat} {x1 : Int32} {x2 : Nat} {S : ox_St} {Q : ox_Q} (h : q_10 (ox_M sp d) x0 x1 x2 S mr sr Q) : ox_M sp (d + 1) 10 [.inr (.inr (x0)), .inl (x1), .inr (.inr (x2))] mr sr S Q := Or.inr ⟨Nat.le_of_ble_eq_true rfl, ox_C_fold (ox_M_mono hsp d) h⟩
/-! OpcodeFrames$Calculator.guess(II)J -/
def c_11_62 (E : ox_E) (x0 : Nat) (x1 : Int32) (x2 : Int32) (x3 : Int64) (x5 : Int64) (y0 : Int64) (S : ox_St) (mr sr : Nat) (Q : ox_Q) : Prop := ox_C E (ox_mi 11).2.2.2.1 (ox_mc 11) (ox_cut 11) Q 62 [some (.inr (.inr (x0))), some (.inl (x1)), some (.inl (x2)), some (.inr (.inl (x3))), none, some (.inr (.inl (x5))), none, none, none, none, none, none, none, none, none, none] [.inr (.inl (y0))] S mr sr
def c_11_84 (E : ox_E) (x0 : Nat) (x1 : Int32) (x2 : Int32) (x3 : Int64) (x5 : Int64) (x7 : Int64) (y0 : Int64) (S : ox_St) (mr sr : Nat) (Q : ox_Q) : Prop := ox_C E (ox_mi 11).2.2.2.1 (ox_mc 11) (ox_cut 11) Q 84 [some (.inr (.inr (x0))), some (.inl (x1)), some (.inl (x2)), some (.inr (.inl (x3))), none, some (.inr (.inl (x5))), none, some (.inr (.inl (x7))), none, none, none, none, none, none, none, none] [.inr (.inl (y0))] S mr sr
def c_11_101 (E : ox_E) (x0 : Nat) (x1 : Int32) (x2 : Int32) (x3 : Int64) (x5 : Int64) (x7 : Int64) (x9 : Int64) (x11 : Int64) (x13 : Int64) (x15 : Int32) (S : ox_St) (mr sr : Nat) (Q : ox_Q) : Prop := ox_C E (ox_mi 11).2.2.2.1 (ox_mc 11) (ox_cut 11) Q 101 [some (.inr (.inr (x0))), some (.inl (x1)), some (.inl (x2)), some (.inr (.inl (x3))), none, some (.inr (.inl (x5))), none, some (.inr (.inl (x7))), none, some (.inr (.inl (x9))), none, some (.inr (.inl (x11))), none, some (.inr (.inl (x13))), none, some (.inl (x15))] [] S mr sr
def c_11_142 (E : ox_E) (x0 : Nat) (x1 : Int32) (x2 : Int32) (x3 : Int64) (x5 : Int64) (x7 : Int64) (x9 : Int64) (x11 : Int64) (x13 : Int64) (x15 : Int32) (S : ox_St) (mr sr : Nat) (Q : ox_Q) : Prop := ox_C E (ox_mi 11).2.2.2.1 (ox_mc 11) (ox_cut 11) Q 142 [some (.inr (.inr (x0))), some (.inl (x1)), some (.inl (x2)), some (.inr (.inl (x3))), none, some (.inr (.inl (x5))), none, some (.inr (.inl (x7))), none, some (.inr (.inl (x9))), none, some (.inr (.inl (x11))), none, some (.inr (.inl (x13))), none, some (.inl (x15))] [] S mr sr
def c_11_154 (E : ox_E) (x0 : Nat) (x1 : Int32) (x2 : Int32) (x3 : Int64) (x5 : Int64) (x7 : Int64) (x9 : Int64) (x11 : Int64) (x13 : Int64) (x15 : Int32) (S : ox_St) (mr sr : Nat) (Q : ox_Q) : Prop := ox_C E (ox_mi 11).2.2.2.1 (ox_mc 11) (ox_cut 11) Q 154 [some (.inr (.inr (x0))), some (.inl (x1)), some (.inl (x2)), some (.inr (.inl (x3))), none, some (.inr (.inl (x5))), none, some (.inr (.inl (x7))), none, some (.inr (.inl (x9))), none, some (.inr (.inl (x11))), none, some (.inr (.inl (x13))), none, some (.inl (x15))] [] S mr sr
def c_11_160 (E : ox_E) (x0 : Nat) (x1 : Int32) (x2 : Int32) (x3 : Int64) (x5 : Int64) (x7 : Int64) (x9 : Int64) (x11 : Int64) (x13 : Int64) (x15 : Int32) (S : ox_St) (mr sr : Nat) (Q : ox_Q) : Prop := ox_C E (ox_mi 11).2.2.2.1 (ox_mc 11) (ox_cut 11) Q 160 [some (.inr (.inr (x0))), some (.inl (x1)), some (.inl (x2)), some (.inr (.inl (x3))), none, some (.inr (.inl (x5))), none, some (.inr (.inl (x7))), none, some (.inr (.inl (x9))), none, some (.inr (.inl (x11))), none, some (.inr (.inl (x13))), none, some (.inl (x15))] [] S mr sr
set_option maxRecDepth 20000 in
def q_11_160 (E : ox_E) (x0 : Nat) (x1 : Int32) (x2 : Int32) (x3 : Int64) (x5 : Int64) (x7 : Int64) (x9 : Int64) (x11 : Int64) (x13 : Int64) (x15 : Int32) (S : ox_St) (mr sr : Nat) (Q : ox_Q) : Prop :=
  (ox_isL (some .long) = true ∧ Q (some (.inr (.inl x11))) S)
set_option maxRecDepth 20000 in
set_option maxHeartbeats 4000000 in
theorem f_11_160 {E : ox_E} (hE : ox_mono E) {mr sr : Nat} {x0 : Nat} {x1 : Int32} {x2 : Int32} {x3 : Int64} {x5 : Int64} {x7 : Int64} {x9 : Int64} {x11 : Int64} {x13 : Int64} {x15 : Int32} {S : ox_St} {Q : ox_Q} (h : q_11_160 E x0 x1 x2 x3 x5 x7 x9 x11 x13 x15 S mr sr Q) : c_11_160 E x0 x1 x2 x3 x5 x7 x9 x11 x13 x15 S mr sr Q := ox_C_fold hE h
set_option maxRecDepth 20000 in
def q_11_154 (E : ox_E) (x0 : Nat) (x1 : Int32) (x2 : Int32) (x3 : Int64) (x5 : Int64) (x7 : Int64) (x9 : Int64) (x11 : Int64) (x13 : Int64) (x15 : Int32) (S : ox_St) (mr sr : Nat) (Q : ox_Q) : Prop :=
  c_11_101 E x0 x1 x2 x3 x5 x7 x9 x11 x13 (x15 + 1) S mr sr Q
set_option maxRecDepth 20000 in
set_option maxHeartbeats 4000000 in
theorem f_11_154 {E : ox_E} (hE : ox_mono E) {mr sr : Nat} {x0 : Nat} {x1 : Int32} {x2 : Int32} {x3 : Int64} {x5 : Int64} {x7 : Int64} {x9 : Int64} {x11 : Int64} {x13 : Int64} {x15 : Int32} {S : ox_St} {Q : ox_Q} (h : q_11_154 E x0 x1 x2 x3 x5 x7 x9 x11 x13 x15 S mr sr Q) : c_11_154 E x0 x1 x2 x3 x5 x7 x9 x11 x13 x15 S mr sr Q := ox_C_fold hE h
set_option maxRecDepth 20000 in
def q_11_142 (E : ox_E) (x0 : Nat) (x1 : Int32) (x2 : Int32) (x3 : Int64) (x5 : Int64) (x7 : Int64) (x9 : Int64) (x11 : Int64) (x13 : Int64) (x15 : Int32) (S : ox_St) (mr sr : Nat) (Q : ox_Q) : Prop :=
  (let w1 : Int64 := x11 - 1
  (let w2 : Int64 := x13 + x3
  c_11_154 E x0 x1 x2 x3 x5 x7 x9 w1 w2 x15 S mr sr Q))
set_option maxRecDepth 20000 in
set_option maxHeartbeats 4000000 in
theorem f_11_142 {E : ox_E} (hE : ox_mono E) {mr sr : Nat} {x0 : Nat} {x1 : Int32} {x2 : Int32} {x3 : Int64} {x5 : Int64} {x7 : Int64} {x9 : Int64} {x11 : Int64} {x13 : Int64} {x15 : Int32} {S : ox_St} {Q : ox_Q} (h : q_11_142 E x0 x1 x2 x3 x5 x7 x9 x11 x13 x15 S mr sr Q) : c_11_142 E x0 x1 x2 x3 x5 x7 x9 x11 x13 x15 S mr sr Q := ox_C_fold hE h
set_option maxRecDepth 20000 in
def q_11_101 (E : ox_E) (x0 : Nat) (x1 : Int32) (x2 : Int32) (x3 : Int64) (x5 : Int64) (x7 : Int64) (x9 : Int64) (x11 : Int64) (x13 : Int64) (x15 : Int32) (S : ox_St) (mr sr : Nat) (Q : ox_Q) : Prop :=
  (((2 : Int32) ≤ x15 → c_11_160 E x0 x1 x2 x3 x5 x7 x9 x11 x13 x15 S mr sr Q) ∧ (¬ (2 : Int32) ≤ x15 → (((0 : Int32) ≤ (lg_cmp x13 32768) → c_11_160 E x0 x1 x2 x3 x5 x7 x9 x11 x13 x15 S mr sr Q) ∧ (¬ (0 : Int32) ≤ (lg_cmp x13 32768) → (((0 : Int32) ≤ (lg_cmp x11 32768) → c_11_142 E x0 x1 x2 x3 x5 x7 x9 x11 x13 x15 S mr sr Q) ∧ (¬ (0 : Int32) ≤ (lg_cmp x11 32768) → (((lg_cmp (x11 * x7) ((x13 <<< (Int32.toInt64 15 &&& 63)) + x9)) ≤ 0 → c_11_154 E x0 x1 x2 x3 x5 x7 x9 x11 x13 x15 S mr sr Q) ∧ (¬ (lg_cmp (x11 * x7) ((x13 <<< (Int32.toInt64 15 &&& 63)) + x9)) ≤ 0 → c_11_142 E x0 x1 x2 x3 x5 x7 x9 x11 x13 x15 S mr sr Q))))))))
set_option maxRecDepth 20000 in
set_option maxHeartbeats 4000000 in
theorem f_11_101 {E : ox_E} (hE : ox_mono E) {mr sr : Nat} {x0 : Nat} {x1 : Int32} {x2 : Int32} {x3 : Int64} {x5 : Int64} {x7 : Int64} {x9 : Int64} {x11 : Int64} {x13 : Int64} {x15 : Int32} {S : ox_St} {Q : ox_Q} (h : q_11_101 E x0 x1 x2 x3 x5 x7 x9 x11 x13 x15 S mr sr Q) : c_11_101 E x0 x1 x2 x3 x5 x7 x9 x11 x13 x15 S mr sr Q := ox_C_fold hE h
set_option maxRecDepth 20000 in
def q_11_84 (E : ox_E) (x0 : Nat) (x1 : Int32) (x2 : Int32) (x3 : Int64) (x5 : Int64) (x7 : Int64) (y0 : Int64) (S : ox_St) (mr sr : Nat) (Q : ox_Q) : Prop :=
  (¬ (x3 : Int64) = 0 ∧ (let w1 : Int64 := x5 / x3
  (¬ (x3 : Int64) = 0 ∧ (let w2 : Int64 := x5 - x5 / x3 * x3
  c_11_101 E x0 x1 x2 x3 x5 x7 y0 w1 w2 0 S mr sr Q))))
set_option maxRecDepth 20000 in
set_option maxHeartbeats 4000000 in
theorem f_11_84 {E : ox_E} (hE : ox_mono E) {mr sr : Nat} {x0 : Nat} {x1 : Int32} {x2 : Int32} {x3 : Int64} {x5 : Int64} {x7 : Int64} {y0 : Int64} {S : ox_St} {Q : ox_Q} (h : q_11_84 E x0 x1 x2 x3 x5 x7 y0 S mr sr Q) : c_11_84 E x0 x1 x2 x3 x5 x7 y0 S mr sr Q := ox_C_fold hE h
set_option maxRecDepth 20000 in
def q_11_62 (E : ox_E) (x0 : Nat) (x1 : Int32) (x2 : Int32) (x3 : Int64) (x5 : Int64) (y0 : Int64) (S : ox_St) (mr sr : Nat) (Q : ox_Q) : Prop :=
  ((x2 ≤ 1 → c_11_84 E x0 x1 x2 x3 x5 y0 0 S mr sr Q) ∧ (¬ x2 ≤ 1 → (ox_has (S.K x0) 3 = true ∧ (ox_rdI (S.K (S.R 3 x0)) = true ∧ vp_in ((x1 + x2) - 2) (S.len (S.R 3 x0)) ∧ c_11_84 E x0 x1 x2 x3 x5 y0 (Int32.toInt64 (S.rI (S.R 3 x0) (Int32.toNatClampNeg ((x1 + x2) - 2)))) S mr sr Q))))
set_option maxRecDepth 20000 in
set_option maxHeartbeats 4000000 in
theorem f_11_62 {E : ox_E} (hE : ox_mono E) {mr sr : Nat} {x0 : Nat} {x1 : Int32} {x2 : Int32} {x3 : Int64} {x5 : Int64} {y0 : Int64} {S : ox_St} {Q : ox_Q} (h : q_11_62 E x0 x1 x2 x3 x5 y0 S mr sr Q) : c_11_62 E x0 x1 x2 x3 x5 y0 S mr sr Q := ox_C_fold hE h
set_option maxRecDepth 20000 in
def q_11 (E : ox_E) (x0 : Nat) (x1 : Int32) (x2 : Int32) (S : ox_St) (mr sr : Nat) (Q : ox_Q) : Prop :=
  (ox_has (S.K x0) 4 = true ∧ (ox_rdI (S.K (S.R 4 x0)) = true ∧ vp_in (x2 - 1) (S.len (S.R 4 x0)) ∧ (let w1 : Int64 := Int32.toInt64 (S.rI (S.R 4 x0) (Int32.toNatClampNeg (x2 - 1)))
  ((¬ (lg_cmp w1 0) = 0 → (ox_has (S.K x0) 3 = true ∧ (ox_rdI (S.K (S.R 3 x0)) = true ∧ vp_in (x1 + x2) (S.len (S.R 3 x0)) ∧ (ox_has (S.K x0) 3 = true ∧ (ox_rdI (S.K (S.R 3 x0)) = true ∧ vp_in ((x1 + x2) - 1) (S.len (S.R 3 x0)) ∧ (let w2 : Int64 := ((Int32.toInt64 (S.rI (S.R 3 x0) (Int32.toNatClampNeg (x1 + x2)))) <<< (Int32.toInt64 15 &&& 63)) ||| (Int32.toInt64 (S.rI (S.R 3 x0) (Int32.toNatClampNeg ((x1 + x2) - 1))))
  ((x2 ≤ 1 → c_11_62 E x0 x1 x2 w1 w2 0 S mr sr Q) ∧ (¬ x2 ≤ 1 → (ox_has (S.K x0) 4 = true ∧ (ox_rdI (S.K (S.R 4 x0)) = true ∧ vp_in (x2 - 2) (S.len (S.R 4 x0)) ∧ c_11_62 E x0 x1 x2 w1 w2 (Int32.toInt64 (S.rI (S.R 4 x0) (Int32.toNatClampNeg (x2 - 2)))) S mr sr Q)))))))))) ∧ ((lg_cmp w1 0) = 0 → (ox_isL (some .long) = true ∧ Q (some (.inr (.inl 0))) S))))))
set_option maxRecDepth 20000 in
set_option maxHeartbeats 4000000 in
theorem f_11 {sp : ox_E} (hsp : ox_mono sp) {d : Nat} {mr sr : Nat} {x0 : Nat} {x1 : Int32} {x2 : Int32} {S : ox_St} {Q : ox_Q} (h : q_11 (ox_M sp d) x0 x1 x2 S mr sr Q) : ox_M sp (d + 1) 11 [.inr (.inr (x0)), .inl (x1), .inl (x2)] mr sr S Q := Or.inr ⟨Nat.le_of_ble_eq_true rfl, ox_C_fold (ox_M_mono hsp d) h⟩
/-! OpcodeFrames$Calculator.takeOff(IIJ)I -/
def c_12_6 (E : ox_E) (x0 : Nat) (x1 : Int32) (x2 : Int32) (x3 : Int64) (x5 : Int64) (x7 : Int32) (S : ox_St) (mr sr : Nat) (Q : ox_Q) : Prop := ox_C E (ox_mi 12).2.2.2.1 (ox_mc 12) (ox_cut 12) Q 6 [some (.inr (.inr (x0))), some (.inl (x1)), some (.inl (x2)), some (.inr (.inl (x3))), none, some (.inr (.inl (x5))), none, some (.inl (x7)), none, none] [] S mr sr
def c_12_83 (E : ox_E) (x0 : Nat) (x1 : Int32) (x2 : Int32) (x3 : Int64) (x5 : Int64) (x7 : Int32) (x8 : Int32) (S : ox_St) (mr sr : Nat) (Q : ox_Q) : Prop := ox_C E (ox_mi 12).2.2.2.1 (ox_mc 12) (ox_cut 12) Q 83 [some (.inr (.inr (x0))), some (.inl (x1)), some (.inl (x2)), some (.inr (.inl (x3))), none, some (.inr (.inl (x5))), none, some (.inl (x7)), some (.inl (x8)), none] [] S mr sr
set_option maxRecDepth 20000 in
def q_12_83 (E : ox_E) (x0 : Nat) (x1 : Int32) (x2 : Int32) (x3 : Int64) (x5 : Int64) (x7 : Int32) (x8 : Int32) (S : ox_St) (mr sr : Nat) (Q : ox_Q) : Prop :=
  ((x2 < x8 → (True ∧ Q (some (.inl ((Int64.toInt32 x3) - 1))) S)) ∧ (¬ x2 < x8 → (ox_has (S.K x0) 3 = true ∧ (ox_rdI (S.K (S.R 3 x0)) = true ∧ vp_in (x1 + x8) (S.len (S.R 3 x0)) ∧ (ox_has (S.K x0) 4 = true ∧ (ox_rdI (S.K (S.R 4 x0)) = true ∧ vp_in x8 (S.len (S.R 4 x0)) ∧ (let w1 : Int32 := ((S.rI (S.R 3 x0) (Int32.toNatClampNeg (x1 + x8))) + (S.rI (S.R 4 x0) (Int32.toNatClampNeg x8))) + x7
  (ox_has (S.K x0) 3 = true ∧ (S.K (S.R 3 x0) = 15 ∧ vp_in (x1 + x8) (S.len (S.R 3 x0)) ∧ (let S2 := S.wI (S.R 3 x0) (Int32.toNatClampNeg (x1 + x8)) (w1 &&& 32767)
  (let w3 : Int32 := w1 >>> (15 &&& 31)
  c_12_83 E x0 x1 x2 x3 x5 w3 (x8 + 1) S2 mr sr Q)))))))))))
set_option maxRecDepth 20000 in
set_option maxHeartbeats 4000000 in
theorem f_12_83 {E : ox_E} (hE : ox_mono E) {mr sr : Nat} {x0 : Nat} {x1 : Int32} {x2 : Int32} {x3 : Int64} {x5 : Int64} {x7 : Int32} {x8 : Int32} {S : ox_St} {Q : ox_Q} (h : q_12_83 E x0 x1 x2 x3 x5 x7 x8 S mr sr Q) : c_12_83 E x0 x1 x2 x3 x5 x7 x8 S mr sr Q := ox_C_fold hE h
set_option maxRecDepth 20000 in
def q_12_6 (E : ox_E) (x0 : Nat) (x1 : Int32) (x2 : Int32) (x3 : Int64) (x5 : Int64) (x7 : Int32) (S : ox_St) (mr sr : Nat) (Q : ox_Q) : Prop :=
  ((x2 < x7 → (((lg_cmp x5 0) < 0 → c_12_83 E x0 x1 x2 x3 x5 0 0 S mr sr Q) ∧ (¬ (lg_cmp x5 0) < 0 → (True ∧ Q (some (.inl (Int64.toInt32 x3))) S)))) ∧ (¬ x2 < x7 → (ox_has (S.K x0) 3 = true ∧ (ox_rdI (S.K (S.R 3 x0)) = true ∧ vp_in (x1 + x7) (S.len (S.R 3 x0)) ∧ (ox_has (S.K x0) 4 = true ∧ (ox_rdI (S.K (S.R 4 x0)) = true ∧ vp_in x7 (S.len (S.R 4 x0)) ∧ (let w1 : Int64 := ((Int32.toInt64 (S.rI (S.R 3 x0) (Int32.toNatClampNeg (x1 + x7)))) - (x3 * (Int32.toInt64 (S.rI (S.R 4 x0) (Int32.toNatClampNeg x7))))) + x5
  (ox_has (S.K x0) 3 = true ∧ (S.K (S.R 3 x0) = 15 ∧ vp_in (x1 + x7) (S.len (S.R 3 x0)) ∧ (let S2 := S.wI (S.R 3 x0) (Int32.toNatClampNeg (x1 + x7)) (Int64.toInt32 (w1 &&& 32767))
  (let w3 : Int64 := w1 >>> (Int32.toInt64 15 &&& 63)
  c_12_6 E x0 x1 x2 x3 w3 (x7 + 1) S2 mr sr Q)))))))))))
set_option maxRecDepth 20000 in
set_option maxHeartbeats 4000000 in
theorem f_12_6 {E : ox_E} (hE : ox_mono E) {mr sr : Nat} {x0 : Nat} {x1 : Int32} {x2 : Int32} {x3 : Int64} {x5 : Int64} {x7 : Int32} {S : ox_St} {Q : ox_Q} (h : q_12_6 E x0 x1 x2 x3 x5 x7 S mr sr Q) : c_12_6 E x0 x1 x2 x3 x5 x7 S mr sr Q := ox_C_fold hE h
set_option maxRecDepth 20000 in
def q_12 (E : ox_E) (x0 : Nat) (x1 : Int32) (x2 : Int32) (x3 : Int64) (S : ox_St) (mr sr : Nat) (Q : ox_Q) : Prop :=
  c_12_6 E x0 x1 x2 x3 0 0 S mr sr Q
set_option maxRecDepth 20000 in
set_option maxHeartbeats 4000000 in
theorem f_12 {sp : ox_E} (hsp : ox_mono sp) {d : Nat} {mr sr : Nat} {x0 : Nat} {x1 : Int32} {x2 : Int32} {x3 : Int64} {S : ox_St} {Q : ox_Q} (h : q_12 (ox_M sp d) x0 x1 x2 x3 S mr sr Q) : ox_M sp (d + 1) 12 [.inr (.inr (x0)), .inl (x1), .inl (x2), .inr (.inl (x3))] mr sr S Q := Or.inr ⟨Nat.le_of_ble_eq_true rfl, ox_C_fold (ox_M_mono hsp d) h⟩
/-! OpcodeFrames$Calculator.digitAt([II)I -/
set_option maxRecDepth 20000 in
def q_13 (E : ox_E) (x0 : Nat) (x1 : Int32) (S : ox_St) (mr sr : Nat) (Q : ox_Q) : Prop :=
  (ox_rdL (S.K x0) = true ∧ (((Int32.ofNat (S.len x0)) ≤ x1 → (True ∧ Q (some (.inl (0 : Int32))) S)) ∧ (¬ (Int32.ofNat (S.len x0)) ≤ x1 → (ox_rdI (S.K x0) = true ∧ vp_in x1 (S.len x0) ∧ (True ∧ Q (some (.inl (S.rI x0 (Int32.toNatClampNeg x1)))) S)))))
set_option maxRecDepth 20000 in
set_option maxHeartbeats 4000000 in
theorem f_13 {sp : ox_E} (hsp : ox_mono sp) {d : Nat} {mr sr : Nat} {x0 : Nat} {x1 : Int32} {S : ox_St} {Q : ox_Q} (h : q_13 (ox_M sp d) x0 x1 S mr sr Q) : ox_M sp (d + 1) 13 [.inr (.inr (x0)), .inl (x1)] mr sr S Q := Or.inr ⟨Nat.le_of_ble_eq_true rfl, ox_C_fold (ox_M_mono hsp d) h⟩
/-! OpcodeFrames$Calculator.made([IIZ)LOpcodeFrames$Num; -/
def c_14_7 (E : ox_E) (x0 : Nat) (x1 : Int32) (x2 : Int32) (x3 : Int32) (S : ox_St) (mr sr : Nat) (Q : ox_Q) : Prop := ox_C E (ox_mi 14).2.2.2.1 (ox_mc 14) (ox_cut 14) Q 7 [some (.inr (.inr (x0))), some (.inl (x1)), some (.inl (x2)), some (.inl (x3))] [] S mr sr
def k_14_57 (E : ox_E) (x0 : Nat) (x1 : Int32) (x2 : Int32) (x3 : Int32) (y1 : Int32) (y2 : Nat) (y3 : Nat) (mr sr : Nat) (Q : ox_Q) : ox_Q := fun r_ T_ => ox_C E (ox_mi 14).2.2.2.1 (ox_mc 14) (ox_cut 14) Q 57 [some (.inr (.inr (x0))), some (.inl (x1)), some (.inl (x2)), some (.inl (x3))] (r_.toList ++ [.inl (y1), .inr (.inr (y2)), .inr (.inr (y3))]) T_ mr sr
def k_14_60 (E : ox_E) (x0 : Nat) (x1 : Int32) (x2 : Int32) (x3 : Int32) (y0 : Nat) (mr sr : Nat) (Q : ox_Q) : ox_Q := fun r_ T_ => ox_C E (ox_mi 14).2.2.2.1 (ox_mc 14) (ox_cut 14) Q 60 [some (.inr (.inr (x0))), some (.inl (x1)), some (.inl (x2)), some (.inl (x3))] (r_.toList ++ [.inr (.inr (y0))]) T_ mr sr
set_option maxRecDepth 20000 in
def q_14_60 (E : ox_E) (x0 : Nat) (x1 : Int32) (x2 : Int32) (x3 : Int32) (y0 : Nat) (S : ox_St) (mr sr : Nat) (Q : ox_Q) : Prop :=
  (ox_isR (ox_mi 14).2.2.2.1 = true ∧ Q (some (.inr (.inr y0))) S)
set_option maxRecDepth 20000 in
set_option maxHeartbeats 4000000 in
theorem f_14_60 {E : ox_E} (hE : ox_mono E) {mr sr : Nat} {x0 : Nat} {x1 : Int32} {x2 : Int32} {x3 : Int32} {y0 : Nat} {S : ox_St} {Q : ox_Q} (h : q_14_60 E x0 x1 x2 x3 y0 S mr sr Q) : k_14_60 E x0 x1 x2 x3 y0 mr sr Q none S := ox_C_fold hE h
set_option maxRecDepth 20000 in
def q_14_57 (E : ox_E) (x0 : Nat) (x1 : Int32) (x2 : Int32) (x3 : Int32) (y0 : Nat) (y1 : Int32) (y2 : Nat) (y3 : Nat) (S : ox_St) (mr sr : Nat) (Q : ox_Q) : Prop :=
  (3 ≤ 4 ∧ y2 ≠ 0 ∧ 1 ≤ 8 ∧ ∃ mc1 mk2, mc1 ≤ mr ∧ mk2 ≤ sr ∧ E 78 [.inr (.inr (y2)), .inl (y1), .inr (.inr (y0))] mc1 mk2 S (k_14_60 E x0 x1 x2 x3 y3 (mr - mc1) (sr - mk2) Q))
set_option maxRecDepth 20000 in
set_option maxHeartbeats 4000000 in
theorem f_14_57 {E : ox_E} (hE : ox_mono E) {mr sr : Nat} {x0 : Nat} {x1 : Int32} {x2 : Int32} {x3 : Int32} {y0 : Nat} {y1 : Int32} {y2 : Nat} {y3 : Nat} {S : ox_St} {Q : ox_Q} (h : q_14_57 E x0 x1 x2 x3 y0 y1 y2 y3 S mr sr Q) : k_14_57 E x0 x1 x2 x3 y1 y2 y3 mr sr Q (some (.inr (.inr (y0)))) S := ox_C_fold hE h
set_option maxRecDepth 20000 in
def q_14_7 (E : ox_E) (x0 : Nat) (x1 : Int32) (x2 : Int32) (x3 : Int32) (S : ox_St) (mr sr : Nat) (Q : ox_Q) : Prop :=
  ((x3 ≤ 0 → ((x3 ≤ 16 → (1 ≤ mr ∧ 4 ≤ sr ∧ (let S1 := S.newO 8
  ((x2 = 0 → (2 ≤ 5 ∧ 3 ≤ 8 ∧ ∃ mc2 mk3, mc2 ≤ (mr - 1) ∧ mk3 ≤ (sr - 4) ∧ E 231 [.inr (.inr (x0)), .inl (x3)] mc2 mk3 S1 (k_14_57 E x0 x1 x2 x3 0 S.n S.n ((mr - 1) - mc2) ((sr - 4) - mk3) Q))) ∧ (¬ x2 = 0 → ((x3 ≤ 0 → (2 ≤ 5 ∧ 3 ≤ 8 ∧ ∃ mc4 mk5, mc4 ≤ (mr - 1) ∧ mk5 ≤ (sr - 4) ∧ E 231 [.inr (.inr (x0)), .inl (x3)] mc4 mk5 S1 (k_14_57 E x0 x1 x2 x3 0 S.n S.n ((mr - 1) - mc4) ((sr - 4) - mk5) Q))) ∧ (¬ x3 ≤ 0 → (2 ≤ 5 ∧ 3 ≤ 8 ∧ ∃ mc6 mk7, mc6 ≤ (mr - 1) ∧ mk7 ≤ (sr - 4) ∧ E 231 [.inr (.inr (x0)), .inl (x3)] mc6 mk7 S1 (k_14_57 E x0 x1 x2 x3 1 S.n S.n ((mr - 1) - mc6) ((sr - 4) - mk7) Q))))))))) ∧ (¬ x3 ≤ 16 → k_14_60 E x0 x1 x2 x3 0 mr sr Q none S))) ∧ (¬ x3 ≤ 0 → (ox_rdI (S.K x0) = true ∧ vp_in (x3 - 1) (S.len x0) ∧ ((¬ (S.rI x0 (Int32.toNatClampNeg (x3 - 1))) = 0 → ((x3 ≤ 16 → (1 ≤ mr ∧ 4 ≤ sr ∧ (let S8 := S.newO 8
  ((x2 = 0 → (2 ≤ 5 ∧ 3 ≤ 8 ∧ ∃ mc9 mk10, mc9 ≤ (mr - 1) ∧ mk10 ≤ (sr - 4) ∧ E 231 [.inr (.inr (x0)), .inl (x3)] mc9 mk10 S8 (k_14_57 E x0 x1 x2 x3 0 S.n S.n ((mr - 1) - mc9) ((sr - 4) - mk10) Q))) ∧ (¬ x2 = 0 → ((x3 ≤ 0 → (2 ≤ 5 ∧ 3 ≤ 8 ∧ ∃ mc11 mk12, mc11 ≤ (mr - 1) ∧ mk12 ≤ (sr - 4) ∧ E 231 [.inr (.inr (x0)), .inl (x3)] mc11 mk12 S8 (k_14_57 E x0 x1 x2 x3 0 S.n S.n ((mr - 1) - mc11) ((sr - 4) - mk12) Q))) ∧ (¬ x3 ≤ 0 → (2 ≤ 5 ∧ 3 ≤ 8 ∧ ∃ mc13 mk14, mc13 ≤ (mr - 1) ∧ mk14 ≤ (sr - 4) ∧ E 231 [.inr (.inr (x0)), .inl (x3)] mc13 mk14 S8 (k_14_57 E x0 x1 x2 x3 1 S.n S.n ((mr - 1) - mc13) ((sr - 4) - mk14) Q))))))))) ∧ (¬ x3 ≤ 16 → k_14_60 E x0 x1 x2 x3 0 mr sr Q none S))) ∧ ((S.rI x0 (Int32.toNatClampNeg (x3 - 1))) = 0 → c_14_7 E x0 x1 x2 (x3 + (-1)) S mr sr Q)))))
set_option maxRecDepth 20000 in
set_option maxHeartbeats 4000000 in
theorem f_14_7 {E : ox_E} (hE : ox_mono E) {mr sr : Nat} {x0 : Nat} {x1 : Int32} {x2 : Int32} {x3 : Int32} {S : ox_St} {Q : ox_Q} (h : q_14_7 E x0 x1 x2 x3 S mr sr Q) : c_14_7 E x0 x1 x2 x3 S mr sr Q := ox_C_fold hE h
set_option maxRecDepth 20000 in
def q_14 (E : ox_E) (x0 : Nat) (x1 : Int32) (x2 : Int32) (S : ox_St) (mr sr : Nat) (Q : ox_Q) : Prop :=
  (ox_rdL (S.K x0) = true ∧ (0 ≤ 8 ∧ (let w1 : Int32 := if (Int32.ofNat (S.len x0)) < x1 then (Int32.ofNat (S.len x0)) else x1
  c_14_7 E x0 x1 x2 w1 S mr sr Q)))
set_option maxRecDepth 20000 in
set_option maxHeartbeats 4000000 in
theorem f_14 {sp : ox_E} (hsp : ox_mono sp) {d : Nat} {mr sr : Nat} {x0 : Nat} {x1 : Int32} {x2 : Int32} {S : ox_St} {Q : ox_Q} (h : q_14 (ox_M sp d) x0 x1 x2 S mr sr Q) : ox_M sp (d + 1) 14 [.inr (.inr (x0)), .inl (x1), .inl (x2)] mr sr S Q := Or.inr ⟨Nat.le_of_ble_eq_true rfl, ox_C_fold (ox_M_mono hsp d) h⟩
