/-! OpcodeFrames$Code.<init>(III[I[LOpcodeFrames$Value;[J)V -/
def k_15_7 (E : ox_E) (x0 : Nat) (x1 : Int32) (x2 : Int32) (x3 : Int32) (x4 : Nat) (x5 : Nat) (x6 : Nat) (mr sr : Nat) (Q : ox_Q) : ox_Q := fun r_ T_ => ox_C E (ox_mi 15).2.2.2.1 (ox_mc 15) (ox_cut 15) Q 7 [some (.inr (.inr (x0))), some (.inl (x1)), some (.inl (x2)), some (.inl (x3)), some (.inr (.inr (x4))), some (.inr (.inr (x5))), some (.inr (.inr (x6)))] (r_.toList ++ []) T_ mr sr
set_option maxRecDepth 20000 in
def q_15_7 (E : ox_E) (x0 : Nat) (x1 : Int32) (x2 : Int32) (x3 : Int32) (x4 : Nat) (x5 : Nat) (x6 : Nat) (S : ox_St) (mr sr : Nat) (Q : ox_Q) : Prop :=
  (ox_has (S.K x0) 8 = true ∧ (let S1 := S.sI 8 x0 x2
  (ox_has (S1.K x0) 9 = true ∧ (let S2 := S1.sI 9 x0 x3
  (ox_has (S2.K x0) 10 = true ∧ (let S3 := S2.sR 10 x0 x4
  (ox_has (S3.K x0) 11 = true ∧ (let S4 := S3.sR 11 x0 x5
  (ox_has (S4.K x0) 12 = true ∧ (let S5 := S4.sR 12 x0 x6
  ((ox_mi 15).2.2.2.1 = none ∧ Q none S5)))))))))))
set_option maxRecDepth 20000 in
set_option maxHeartbeats 4000000 in
theorem f_15_7 {E : ox_E} (hE : ox_mono E) {mr sr : Nat} {x0 : Nat} {x1 : Int32} {x2 : Int32} {x3 : Int32} {x4 : Nat} {x5 : Nat} {x6 : Nat} {S : ox_St} {Q : ox_Q} (h : q_15_7 E x0 x1 x2 x3 x4 x5 x6 S mr sr Q) : k_15_7 E x0 x1 x2 x3 x4 x5 x6 mr sr Q none S := ox_C_fold hE h
set_option maxRecDepth 20000 in
def q_15 (E : ox_E) (x0 : Nat) (x1 : Int32) (x2 : Int32) (x3 : Int32) (x4 : Nat) (x5 : Nat) (x6 : Nat) (S : ox_St) (mr sr : Nat) (Q : ox_Q) : Prop :=
  (3 ≤ 3 ∧ x0 ≠ 0 ∧ 0 ≤ 8 ∧ ∃ mc1 mk2, mc1 ≤ mr ∧ mk2 ≤ sr ∧ E 89 [.inr (.inr (x0)), .inl (10), .inl (x1)] mc1 mk2 S (k_15_7 E x0 x1 x2 x3 x4 x5 x6 (mr - mc1) (sr - mk2) Q))
set_option maxRecDepth 20000 in
set_option maxHeartbeats 4000000 in
theorem f_15 {sp : ox_E} (hsp : ox_mono sp) {d : Nat} {mr sr : Nat} {x0 : Nat} {x1 : Int32} {x2 : Int32} {x3 : Int32} {x4 : Nat} {x5 : Nat} {x6 : Nat} {S : ox_St} {Q : ox_Q} (h : q_15 (ox_M sp d) x0 x1 x2 x3 x4 x5 x6 S mr sr Q) : ox_M sp (d + 1) 15 [.inr (.inr (x0)), .inl (x1), .inl (x2), .inl (x3), .inr (.inr (x4)), .inr (.inr (x5)), .inr (.inr (x6))] mr sr S Q := Or.inr ⟨Nat.le_of_ble_eq_true rfl, ox_C_fold (ox_M_mono hsp d) h⟩
/-! OpcodeFrames$Code.byteAt(I)I -/
set_option maxRecDepth 20000 in
def q_16 (E : ox_E) (x0 : Nat) (x1 : Int32) (S : ox_St) (mr sr : Nat) (Q : ox_Q) : Prop :=
  ((x1 < 0 → (True ∧ Q (some (.inl (0 : Int32))) S)) ∧ (¬ x1 < 0 → (ox_has (S.K x0) 10 = true ∧ (ox_rdL (S.K (S.R 10 x0)) = true ∧ ((x1 < (Int32.ofNat (S.len (S.R 10 x0))) → (ox_has (S.K x0) 10 = true ∧ (ox_rdI (S.K (S.R 10 x0)) = true ∧ vp_in x1 (S.len (S.R 10 x0)) ∧ (True ∧ Q (some (.inl (S.rI (S.R 10 x0) (Int32.toNatClampNeg x1)))) S)))) ∧ (¬ x1 < (Int32.ofNat (S.len (S.R 10 x0))) → (True ∧ Q (some (.inl (0 : Int32))) S)))))))
set_option maxRecDepth 20000 in
set_option maxHeartbeats 4000000 in
theorem f_16 {sp : ox_E} (hsp : ox_mono sp) {d : Nat} {mr sr : Nat} {x0 : Nat} {x1 : Int32} {S : ox_St} {Q : ox_Q} (h : q_16 (ox_M sp d) x0 x1 S mr sr Q) : ox_M sp (d + 1) 16 [.inr (.inr (x0)), .inl (x1)] mr sr S Q := Or.inr ⟨Nat.le_of_ble_eq_true rfl, ox_C_fold (ox_M_mono hsp d) h⟩
/-! OpcodeFrames$Frame.<init>(LOpcodeFrames$Value;)V -/
set_option maxRecDepth 20000 in
def q_17 (E : ox_E) (x0 : Nat) (x1 : Nat) (S : ox_St) (mr sr : Nat) (Q : ox_Q) : Prop :=
  (x0 ≠ 0 ∧ 0 ≤ 8 ∧ (¬ (8 : Int32) < 0 ∧ (Int32.toNatClampNeg (8 : Int32)) ≤ 67108864 ∧ 1 ≤ mr ∧ (Int32.toNatClampNeg (8 : Int32)) ≤ sr ∧ (let S1 := S.newA 19 (Int32.toNatClampNeg (8 : Int32))
  (ox_has (S1.K x0) 13 = true ∧ (let S2 := S1.sR 13 x0 S.n
  (¬ (10 : Int32) < 0 ∧ (Int32.toNatClampNeg (10 : Int32)) ≤ 67108864 ∧ 1 ≤ (mr - 1) ∧ (Int32.toNatClampNeg (10 : Int32)) ≤ (sr - (Int32.toNatClampNeg (8 : Int32))) ∧ (let S3 := S2.newA 19 (Int32.toNatClampNeg (10 : Int32))
  (ox_has (S3.K x0) 14 = true ∧ (let S4 := S3.sR 14 x0 S2.n
  (¬ (4 : Int32) < 0 ∧ (Int32.toNatClampNeg (4 : Int32)) ≤ 67108864 ∧ 1 ≤ ((mr - 1) - 1) ∧ (Int32.toNatClampNeg (4 : Int32)) ≤ ((sr - (Int32.toNatClampNeg (8 : Int32))) - (Int32.toNatClampNeg (10 : Int32))) ∧ (let S5 := S4.newA 15 (Int32.toNatClampNeg (4 : Int32))
  (ox_has (S5.K x0) 15 = true ∧ (let S6 := S5.sR 15 x0 S4.n
  (¬ (4 : Int32) < 0 ∧ (Int32.toNatClampNeg (4 : Int32)) ≤ 67108864 ∧ 1 ≤ (((mr - 1) - 1) - 1) ∧ (Int32.toNatClampNeg (4 : Int32)) ≤ (((sr - (Int32.toNatClampNeg (8 : Int32))) - (Int32.toNatClampNeg (10 : Int32))) - (Int32.toNatClampNeg (4 : Int32))) ∧ (let S7 := S6.newA 15 (Int32.toNatClampNeg (4 : Int32))
  (ox_has (S7.K x0) 16 = true ∧ (let S8 := S7.sR 16 x0 S6.n
  (ox_has (S8.K x0) 17 = true ∧ (let S9 := S8.sR 17 x0 x1
  ((ox_mi 17).2.2.2.1 = none ∧ Q none S9))))))))))))))))))))
set_option maxRecDepth 20000 in
set_option maxHeartbeats 4000000 in
theorem f_17 {sp : ox_E} (hsp : ox_mono sp) {d : Nat} {mr sr : Nat} {x0 : Nat} {x1 : Nat} {S : ox_St} {Q : ox_Q} (h : q_17 (ox_M sp d) x0 x1 S mr sr Q) : ox_M sp (d + 1) 17 [.inr (.inr (x0)), .inr (.inr (x1))] mr sr S Q := Or.inr ⟨Nat.le_of_ble_eq_true rfl, ox_C_fold (ox_M_mono hsp d) h⟩
/-! OpcodeFrames$Frame.begin(LOpcodeFrames$Code;)V -/
def c_18_22 (E : ox_E) (x0 : Nat) (x1 : Nat) (x2 : Int32) (S : ox_St) (mr sr : Nat) (Q : ox_Q) : Prop := ox_C E (ox_mi 18).2.2.2.1 (ox_mc 18) (ox_cut 18) Q 22 [some (.inr (.inr (x0))), some (.inr (.inr (x1))), some (.inl (x2))] [] S mr sr
set_option maxRecDepth 20000 in
def q_18_22 (E : ox_E) (x0 : Nat) (x1 : Nat) (x2 : Int32) (S : ox_St) (mr sr : Nat) (Q : ox_Q) : Prop :=
  (ox_has (S.K x0) 13 = true ∧ (ox_rdL (S.K (S.R 13 x0)) = true ∧ (((Int32.ofNat (S.len (S.R 13 x0))) ≤ x2 → ((ox_mi 18).2.2.2.1 = none ∧ Q none S)) ∧ (¬ (Int32.ofNat (S.len (S.R 13 x0))) ≤ x2 → (ox_has (S.K x0) 13 = true ∧ (ox_rdR (S.K (S.R 13 x0)) = true ∧ vp_in x2 (S.len (S.R 13 x0)) ∧ (0 = 0 ∨ ox_asg (S.K (S.R 13 x0)) (S.K 0) = true) ∧ (let S1 := S.wR (S.R 13 x0) (Int32.toNatClampNeg x2) 0
  c_18_22 E x0 x1 (x2 + 1) S1 mr sr Q)))))))
set_option maxRecDepth 20000 in
set_option maxHeartbeats 4000000 in
theorem f_18_22 {E : ox_E} (hE : ox_mono E) {mr sr : Nat} {x0 : Nat} {x1 : Nat} {x2 : Int32} {S : ox_St} {Q : ox_Q} (h : q_18_22 E x0 x1 x2 S mr sr Q) : c_18_22 E x0 x1 x2 S mr sr Q := ox_C_fold hE h
set_option maxRecDepth 20000 in
def q_18 (E : ox_E) (x0 : Nat) (x1 : Nat) (S : ox_St) (mr sr : Nat) (Q : ox_Q) : Prop :=
  (ox_has (S.K x0) 18 = true ∧ (let S1 := S.sR 18 x0 x1
  (ox_has (S1.K x0) 19 = true ∧ (let S2 := S1.sI 19 x0 0
  (ox_has (S2.K x0) 20 = true ∧ (let S3 := S2.sI 20 x0 0
  (ox_has (S3.K x0) 21 = true ∧ (let S4 := S3.sI 21 x0 0
  c_18_22 E x0 x1 0 S4 mr sr Q))))))))
set_option maxRecDepth 20000 in
set_option maxHeartbeats 4000000 in
theorem f_18 {sp : ox_E} (hsp : ox_mono sp) {d : Nat} {mr sr : Nat} {x0 : Nat} {x1 : Nat} {S : ox_St} {Q : ox_Q} (h : q_18 (ox_M sp d) x0 x1 S mr sr Q) : ox_M sp (d + 1) 18 [.inr (.inr (x0)), .inr (.inr (x1))] mr sr S Q := Or.inr ⟨Nat.le_of_ble_eq_true rfl, ox_C_fold (ox_M_mono hsp d) h⟩
/-! OpcodeFrames$Frame.push(LOpcodeFrames$Value;)V -/
set_option maxRecDepth 20000 in
def q_19 (E : ox_E) (x0 : Nat) (x1 : Nat) (S : ox_St) (mr sr : Nat) (Q : ox_Q) : Prop :=
  (ox_has (S.K x0) 20 = true ∧ (((10 : Int32) ≤ (S.I 20 x0) → ((ox_mi 19).2.2.2.1 = none ∧ Q none S)) ∧ (¬ (10 : Int32) ≤ (S.I 20 x0) → (ox_has (S.K x0) 14 = true ∧ (ox_has (S.K x0) 20 = true ∧ (ox_rdR (S.K (S.R 14 x0)) = true ∧ vp_in (S.I 20 x0) (S.len (S.R 14 x0)) ∧ (x1 = 0 ∨ ox_asg (S.K (S.R 14 x0)) (S.K x1) = true) ∧ (let S1 := S.wR (S.R 14 x0) (Int32.toNatClampNeg (S.I 20 x0)) x1
  (ox_has (S1.K x0) 20 = true ∧ (ox_has (S1.K x0) 20 = true ∧ (let S2 := S1.sI 20 x0 ((S1.I 20 x0) + 1)
  ((ox_mi 19).2.2.2.1 = none ∧ Q none S2)))))))))))
set_option maxRecDepth 20000 in
set_option maxHeartbeats 4000000 in
theorem f_19 {sp : ox_E} (hsp : ox_mono sp) {d : Nat} {mr sr : Nat} {x0 : Nat} {x1 : Nat} {S : ox_St} {Q : ox_Q} (h : q_19 (ox_M sp d) x0 x1 S mr sr Q) : ox_M sp (d + 1) 19 [.inr (.inr (x0)), .inr (.inr (x1))] mr sr S Q := Or.inr ⟨Nat.le_of_ble_eq_true rfl, ox_C_fold (ox_M_mono hsp d) h⟩
/-! OpcodeFrames$Frame.pop()LOpcodeFrames$Value; -/
def k_20_5 (E : ox_E) (x0 : Nat) (mr sr : Nat) (Q : ox_Q) : ox_Q := fun r_ T_ => ox_C E (ox_mi 20).2.2.2.1 (ox_mc 20) (ox_cut 20) Q 5 [some (.inr (.inr (x0))), none] (r_.toList ++ []) T_ mr sr
def k_20_11 (E : ox_E) (x0 : Nat) (x1 : Nat) (mr sr : Nat) (Q : ox_Q) : ox_Q := fun r_ T_ => ox_C E (ox_mi 20).2.2.2.1 (ox_mc 20) (ox_cut 20) Q 11 [some (.inr (.inr (x0))), some (.inr (.inr (x1)))] (r_.toList ++ []) T_ mr sr
set_option maxRecDepth 20000 in
def q_20_11 (E : ox_E) (x0 : Nat) (x1 : Nat) (S : ox_St) (mr sr : Nat) (Q : ox_Q) : Prop :=
  (ox_isR (ox_mi 20).2.2.2.1 = true ∧ Q (some (.inr (.inr x1))) S)
set_option maxRecDepth 20000 in
set_option maxHeartbeats 4000000 in
theorem f_20_11 {E : ox_E} (hE : ox_mono E) {mr sr : Nat} {x0 : Nat} {x1 : Nat} {S : ox_St} {Q : ox_Q} (h : q_20_11 E x0 x1 S mr sr Q) : k_20_11 E x0 x1 mr sr Q none S := ox_C_fold hE h
set_option maxRecDepth 20000 in
def q_20_5 (E : ox_E) (x0 : Nat) (y0 : Nat) (S : ox_St) (mr sr : Nat) (Q : ox_Q) : Prop :=
  (2 ≤ 2 ∧ S.K x0 = 4 ∧ 0 ≤ 8 ∧ ∃ mc1 mk2, mc1 ≤ mr ∧ mk2 ≤ sr ∧ E 23 [.inr (.inr (x0)), .inl (1)] mc1 mk2 S (k_20_11 E x0 y0 (mr - mc1) (sr - mk2) Q))
set_option maxRecDepth 20000 in
set_option maxHeartbeats 4000000 in
theorem f_20_5 {E : ox_E} (hE : ox_mono E) {mr sr : Nat} {x0 : Nat} {y0 : Nat} {S : ox_St} {Q : ox_Q} (h : q_20_5 E x0 y0 S mr sr Q) : k_20_5 E x0 mr sr Q (some (.inr (.inr (y0)))) S := ox_C_fold hE h
set_option maxRecDepth 20000 in
def q_20 (E : ox_E) (x0 : Nat) (S : ox_St) (mr sr : Nat) (Q : ox_Q) : Prop :=
  (2 ≤ 2 ∧ S.K x0 = 4 ∧ 0 ≤ 8 ∧ ∃ mc1 mk2, mc1 ≤ mr ∧ mk2 ≤ sr ∧ E 21 [.inr (.inr (x0)), .inl (0)] mc1 mk2 S (k_20_5 E x0 (mr - mc1) (sr - mk2) Q))
set_option maxRecDepth 20000 in
set_option maxHeartbeats 4000000 in
theorem f_20 {sp : ox_E} (hsp : ox_mono sp) {d : Nat} {mr sr : Nat} {x0 : Nat} {S : ox_St} {Q : ox_Q} (h : q_20 (ox_M sp d) x0 S mr sr Q) : ox_M sp (d + 1) 20 [.inr (.inr (x0))] mr sr S Q := Or.inr ⟨Nat.le_of_ble_eq_true rfl, ox_C_fold (ox_M_mono hsp d) h⟩
/-! OpcodeFrames$Frame.fromTop(I)LOpcodeFrames$Value; -/
set_option maxRecDepth 20000 in
def q_21 (E : ox_E) (x0 : Nat) (x1 : Int32) (S : ox_St) (mr sr : Nat) (Q : ox_Q) : Prop :=
  (ox_has (S.K x0) 20 = true ∧ (let w1 : Int32 := ((S.I 20 x0) - 1) - x1
  ((w1 < 0 → (ox_has (S.K x0) 17 = true ∧ (ox_isR (ox_mi 21).2.2.2.1 = true ∧ Q (some (.inr (.inr (S.R 17 x0)))) S))) ∧ (¬ w1 < 0 → ((w1 < 10 → (ox_has (S.K x0) 14 = true ∧ (ox_rdR (S.K (S.R 14 x0)) = true ∧ vp_in w1 (S.len (S.R 14 x0)) ∧ (ox_isR (ox_mi 21).2.2.2.1 = true ∧ Q (some (.inr (.inr (S.rR (S.R 14 x0) (Int32.toNatClampNeg w1))))) S)))) ∧ (¬ w1 < 10 → (ox_has (S.K x0) 17 = true ∧ (ox_isR (ox_mi 21).2.2.2.1 = true ∧ Q (some (.inr (.inr (S.R 17 x0)))) S))))))))
set_option maxRecDepth 20000 in
set_option maxHeartbeats 4000000 in
theorem f_21 {sp : ox_E} (hsp : ox_mono sp) {d : Nat} {mr sr : Nat} {x0 : Nat} {x1 : Int32} {S : ox_St} {Q : ox_Q} (h : q_21 (ox_M sp d) x0 x1 S mr sr Q) : ox_M sp (d + 1) 21 [.inr (.inr (x0)), .inl (x1)] mr sr S Q := Or.inr ⟨Nat.le_of_ble_eq_true rfl, ox_C_fold (ox_M_mono hsp d) h⟩
/-! OpcodeFrames$Frame.setFromTop(ILOpcodeFrames$Value;)V -/
set_option maxRecDepth 20000 in
def q_22 (E : ox_E) (x0 : Nat) (x1 : Int32) (x2 : Nat) (S : ox_St) (mr sr : Nat) (Q : ox_Q) : Prop :=
  (ox_has (S.K x0) 20 = true ∧ (let w1 : Int32 := ((S.I 20 x0) - 1) - x1
  ((w1 < 0 → ((ox_mi 22).2.2.2.1 = none ∧ Q none S)) ∧ (¬ w1 < 0 → (((10 : Int32) ≤ w1 → ((ox_mi 22).2.2.2.1 = none ∧ Q none S)) ∧ (¬ (10 : Int32) ≤ w1 → (ox_has (S.K x0) 14 = true ∧ (ox_rdR (S.K (S.R 14 x0)) = true ∧ vp_in w1 (S.len (S.R 14 x0)) ∧ (x2 = 0 ∨ ox_asg (S.K (S.R 14 x0)) (S.K x2) = true) ∧ (let S2 := S.wR (S.R 14 x0) (Int32.toNatClampNeg w1) x2
  ((ox_mi 22).2.2.2.1 = none ∧ Q none S2))))))))))
set_option maxRecDepth 20000 in
set_option maxHeartbeats 4000000 in
theorem f_22 {sp : ox_E} (hsp : ox_mono sp) {d : Nat} {mr sr : Nat} {x0 : Nat} {x1 : Int32} {x2 : Nat} {S : ox_St} {Q : ox_Q} (h : q_22 (ox_M sp d) x0 x1 x2 S mr sr Q) : ox_M sp (d + 1) 22 [.inr (.inr (x0)), .inl (x1), .inr (.inr (x2))] mr sr S Q := Or.inr ⟨Nat.le_of_ble_eq_true rfl, ox_C_fold (ox_M_mono hsp d) h⟩
/-! OpcodeFrames$Frame.drop(I)V -/
set_option maxRecDepth 20000 in
def q_23 (E : ox_E) (x0 : Nat) (x1 : Int32) (S : ox_St) (mr sr : Nat) (Q : ox_Q) : Prop :=
  (ox_has (S.K x0) 20 = true ∧ (1 ≤ 8 ∧ (ox_has (S.K x0) 20 = true ∧ (let S1 := S.sI 20 x0 (if ((S.I 20 x0) - x1) < 0 then 0 else ((S.I 20 x0) - x1))
  ((ox_mi 23).2.2.2.1 = none ∧ Q none S1)))))
set_option maxRecDepth 20000 in
set_option maxHeartbeats 4000000 in
theorem f_23 {sp : ox_E} (hsp : ox_mono sp) {d : Nat} {mr sr : Nat} {x0 : Nat} {x1 : Int32} {S : ox_St} {Q : ox_Q} (h : q_23 (ox_M sp d) x0 x1 S mr sr Q) : ox_M sp (d + 1) 23 [.inr (.inr (x0)), .inl (x1)] mr sr S Q := Or.inr ⟨Nat.le_of_ble_eq_true rfl, ox_C_fold (ox_M_mono hsp d) h⟩
/-! OpcodeFrames$Frame.localAt(I)LOpcodeFrames$Value; -/
set_option maxRecDepth 20000 in
def q_24 (E : ox_E) (x0 : Nat) (x1 : Int32) (S : ox_St) (mr sr : Nat) (Q : ox_Q) : Prop :=
  ((x1 < 0 → (ox_isR (ox_mi 24).2.2.2.1 = true ∧ Q (some (.inr (.inr 0))) S)) ∧ (¬ x1 < 0 → ((x1 < 8 → (ox_has (S.K x0) 13 = true ∧ (ox_rdR (S.K (S.R 13 x0)) = true ∧ vp_in x1 (S.len (S.R 13 x0)) ∧ (ox_isR (ox_mi 24).2.2.2.1 = true ∧ Q (some (.inr (.inr (S.rR (S.R 13 x0) (Int32.toNatClampNeg x1))))) S)))) ∧ (¬ x1 < 8 → (ox_isR (ox_mi 24).2.2.2.1 = true ∧ Q (some (.inr (.inr 0))) S)))))
set_option maxRecDepth 20000 in
set_option maxHeartbeats 4000000 in
theorem f_24 {sp : ox_E} (hsp : ox_mono sp) {d : Nat} {mr sr : Nat} {x0 : Nat} {x1 : Int32} {S : ox_St} {Q : ox_Q} (h : q_24 (ox_M sp d) x0 x1 S mr sr Q) : ox_M sp (d + 1) 24 [.inr (.inr (x0)), .inl (x1)] mr sr S Q := Or.inr ⟨Nat.le_of_ble_eq_true rfl, ox_C_fold (ox_M_mono hsp d) h⟩
/-! OpcodeFrames$Frame.setLocal(ILOpcodeFrames$Value;)V -/
set_option maxRecDepth 20000 in
def q_25 (E : ox_E) (x0 : Nat) (x1 : Int32) (x2 : Nat) (S : ox_St) (mr sr : Nat) (Q : ox_Q) : Prop :=
  ((x1 < 0 → ((ox_mi 25).2.2.2.1 = none ∧ Q none S)) ∧ (¬ x1 < 0 → (((8 : Int32) ≤ x1 → ((ox_mi 25).2.2.2.1 = none ∧ Q none S)) ∧ (¬ (8 : Int32) ≤ x1 → (ox_has (S.K x0) 13 = true ∧ (ox_rdR (S.K (S.R 13 x0)) = true ∧ vp_in x1 (S.len (S.R 13 x0)) ∧ (x2 = 0 ∨ ox_asg (S.K (S.R 13 x0)) (S.K x2) = true) ∧ (let S1 := S.wR (S.R 13 x0) (Int32.toNatClampNeg x1) x2
  ((ox_mi 25).2.2.2.1 = none ∧ Q none S1))))))))
set_option maxRecDepth 20000 in
set_option maxHeartbeats 4000000 in
theorem f_25 {sp : ox_E} (hsp : ox_mono sp) {d : Nat} {mr sr : Nat} {x0 : Nat} {x1 : Int32} {x2 : Nat} {S : ox_St} {Q : ox_Q} (h : q_25 (ox_M sp d) x0 x1 x2 S mr sr Q) : ox_M sp (d + 1) 25 [.inr (.inr (x0)), .inl (x1), .inr (.inr (x2))] mr sr S Q := Or.inr ⟨Nat.le_of_ble_eq_true rfl, ox_C_fold (ox_M_mono hsp d) h⟩
/-! OpcodeFrames$Frame.addBlock(I)V -/
set_option maxRecDepth 20000 in
def q_26 (E : ox_E) (x0 : Nat) (x1 : Int32) (S : ox_St) (mr sr : Nat) (Q : ox_Q) : Prop :=
  (ox_has (S.K x0) 21 = true ∧ (((4 : Int32) ≤ (S.I 21 x0) → ((ox_mi 26).2.2.2.1 = none ∧ Q none S)) ∧ (¬ (4 : Int32) ≤ (S.I 21 x0) → (ox_has (S.K x0) 15 = true ∧ (ox_has (S.K x0) 21 = true ∧ (ox_has (S.K x0) 20 = true ∧ (S.K (S.R 15 x0) = 15 ∧ vp_in (S.I 21 x0) (S.len (S.R 15 x0)) ∧ (let S1 := S.wI (S.R 15 x0) (Int32.toNatClampNeg (S.I 21 x0)) (S.I 20 x0)
  (ox_has (S1.K x0) 16 = true ∧ (ox_has (S1.K x0) 21 = true ∧ (S1.K (S1.R 16 x0) = 15 ∧ vp_in (S1.I 21 x0) (S1.len (S1.R 16 x0)) ∧ (let S2 := S1.wI (S1.R 16 x0) (Int32.toNatClampNeg (S1.I 21 x0)) x1
  (ox_has (S2.K x0) 21 = true ∧ (ox_has (S2.K x0) 21 = true ∧ (let S3 := S2.sI 21 x0 ((S2.I 21 x0) + 1)
  ((ox_mi 26).2.2.2.1 = none ∧ Q none S3))))))))))))))))
set_option maxRecDepth 20000 in
set_option maxHeartbeats 4000000 in
theorem f_26 {sp : ox_E} (hsp : ox_mono sp) {d : Nat} {mr sr : Nat} {x0 : Nat} {x1 : Int32} {S : ox_St} {Q : ox_Q} (h : q_26 (ox_M sp d) x0 x1 S mr sr Q) : ox_M sp (d + 1) 26 [.inr (.inr (x0)), .inl (x1)] mr sr S Q := Or.inr ⟨Nat.le_of_ble_eq_true rfl, ox_C_fold (ox_M_mono hsp d) h⟩
/-! OpcodeFrames$Frame.handle(LOpcodeFrames$Value;)Z -/
def k_27_38 (E : ox_E) (x0 : Nat) (x1 : Nat) (mr sr : Nat) (Q : ox_Q) : ox_Q := fun r_ T_ => ox_C E (ox_mi 27).2.2.2.1 (ox_mc 27) (ox_cut 27) Q 38 [some (.inr (.inr (x0))), some (.inr (.inr (x1)))] (r_.toList ++ []) T_ mr sr
set_option maxRecDepth 20000 in
def q_27_38 (E : ox_E) (x0 : Nat) (x1 : Nat) (S : ox_St) (mr sr : Nat) (Q : ox_Q) : Prop :=
  (ox_has (S.K x0) 16 = true ∧ (ox_has (S.K x0) 21 = true ∧ (ox_rdI (S.K (S.R 16 x0)) = true ∧ vp_in (S.I 21 x0) (S.len (S.R 16 x0)) ∧ (ox_has (S.K x0) 19 = true ∧ (let S1 := S.sI 19 x0 (S.rI (S.R 16 x0) (Int32.toNatClampNeg (S.I 21 x0)))
  (((1 : Int32) = 0 ∨ (1 : Int32) = 1) ∧ Q (some (.inl (1 : Int32))) S1))))))
set_option maxRecDepth 20000 in
set_option maxHeartbeats 4000000 in
theorem f_27_38 {E : ox_E} (hE : ox_mono E) {mr sr : Nat} {x0 : Nat} {x1 : Nat} {S : ox_St} {Q : ox_Q} (h : q_27_38 E x0 x1 S mr sr Q) : k_27_38 E x0 x1 mr sr Q none S := ox_C_fold hE h
set_option maxRecDepth 20000 in
def q_27 (E : ox_E) (x0 : Nat) (x1 : Nat) (S : ox_St) (mr sr : Nat) (Q : ox_Q) : Prop :=
  (ox_has (S.K x0) 21 = true ∧ (((1 : Int32) ≤ (S.I 21 x0) → (ox_has (S.K x0) 21 = true ∧ (ox_has (S.K x0) 21 = true ∧ (let S1 := S.sI 21 x0 ((S.I 21 x0) - 1)
  (ox_has (S1.K x0) 15 = true ∧ (ox_has (S1.K x0) 21 = true ∧ (ox_rdI (S1.K (S1.R 15 x0)) = true ∧ vp_in (S1.I 21 x0) (S1.len (S1.R 15 x0)) ∧ (ox_has (S1.K x0) 20 = true ∧ (let S2 := S1.sI 20 x0 (S1.rI (S1.R 15 x0) (Int32.toNatClampNeg (S1.I 21 x0)))
  (2 ≤ 2 ∧ S2.K x0 = 4 ∧ 0 ≤ 8 ∧ ∃ mc3 mk4, mc3 ≤ mr ∧ mk4 ≤ sr ∧ E 19 [.inr (.inr (x0)), .inr (.inr (x1))] mc3 mk4 S2 (k_27_38 E x0 x1 (mr - mc3) (sr - mk4) Q))))))))))) ∧ (¬ (1 : Int32) ≤ (S.I 21 x0) → (((0 : Int32) = 0 ∨ (0 : Int32) = 1) ∧ Q (some (.inl (0 : Int32))) S))))
set_option maxRecDepth 20000 in
set_option maxHeartbeats 4000000 in
theorem f_27 {sp : ox_E} (hsp : ox_mono sp) {d : Nat} {mr sr : Nat} {x0 : Nat} {x1 : Nat} {S : ox_St} {Q : ox_Q} (h : q_27 (ox_M sp d) x0 x1 S mr sr Q) : ox_M sp (d + 1) 27 [.inr (.inr (x0)), .inr (.inr (x1))] mr sr S Q := Or.inr ⟨Nat.le_of_ble_eq_true rfl, ox_C_fold (ox_M_mono hsp d) h⟩
/-! OpcodeFrames$Function.<init>(LOpcodeFrames$Code;)V -/
def k_28_10 (E : ox_E) (x0 : Nat) (x1 : Nat) (mr sr : Nat) (Q : ox_Q) : ox_Q := fun r_ T_ => ox_C E (ox_mi 28).2.2.2.1 (ox_mc 28) (ox_cut 28) Q 10 [some (.inr (.inr (x0))), some (.inr (.inr (x1)))] (r_.toList ++ []) T_ mr sr
set_option maxRecDepth 20000 in
def q_28_10 (E : ox_E) (x0 : Nat) (x1 : Nat) (S : ox_St) (mr sr : Nat) (Q : ox_Q) : Prop :=
  (ox_has (S.K x0) 22 = true ∧ (let S1 := S.sR 22 x0 x1
  ((ox_mi 28).2.2.2.1 = none ∧ Q none S1)))
set_option maxRecDepth 20000 in
set_option maxHeartbeats 4000000 in
theorem f_28_10 {E : ox_E} (hE : ox_mono E) {mr sr : Nat} {x0 : Nat} {x1 : Nat} {S : ox_St} {Q : ox_Q} (h : q_28_10 E x0 x1 S mr sr Q) : k_28_10 E x0 x1 mr sr Q none S := ox_C_fold hE h
set_option maxRecDepth 20000 in
def q_28 (E : ox_E) (x0 : Nat) (x1 : Nat) (S : ox_St) (mr sr : Nat) (Q : ox_Q) : Prop :=
  (ox_has (S.K x1) 7 = true ∧ (3 ≤ 3 ∧ x0 ≠ 0 ∧ 0 ≤ 8 ∧ ∃ mc1 mk2, mc1 ≤ mr ∧ mk2 ≤ sr ∧ E 89 [.inr (.inr (x0)), .inl (7), .inl (S.I 7 x1)] mc1 mk2 S (k_28_10 E x0 x1 (mr - mc1) (sr - mk2) Q)))
set_option maxRecDepth 20000 in
set_option maxHeartbeats 4000000 in
theorem f_28 {sp : ox_E} (hsp : ox_mono sp) {d : Nat} {mr sr : Nat} {x0 : Nat} {x1 : Nat} {S : ox_St} {Q : ox_Q} (h : q_28 (ox_M sp d) x0 x1 S mr sr Q) : ox_M sp (d + 1) 28 [.inr (.inr (x0)), .inr (.inr (x1))] mr sr S Q := Or.inr ⟨Nat.le_of_ble_eq_true rfl, ox_C_fold (ox_M_mono hsp d) h⟩
/-! OpcodeFrames$Looker.<init>()V -/
set_option maxRecDepth 20000 in
def q_29 (E : ox_E) (x0 : Nat) (S : ox_St) (mr sr : Nat) (Q : ox_Q) : Prop :=
  (x0 ≠ 0 ∧ 0 ≤ 8 ∧ (¬ (80 : Int32) < 0 ∧ (Int32.toNatClampNeg (80 : Int32)) ≤ 67108864 ∧ 1 ≤ mr ∧ (Int32.toNatClampNeg (80 : Int32)) ≤ sr ∧ (let S1 := S.newA 15 (Int32.toNatClampNeg (80 : Int32))
  (ox_has (S1.K x0) 23 = true ∧ (let S2 := S1.sR 23 x0 S.n
  (¬ (80 : Int32) < 0 ∧ (Int32.toNatClampNeg (80 : Int32)) ≤ 67108864 ∧ 1 ≤ (mr - 1) ∧ (Int32.toNatClampNeg (80 : Int32)) ≤ (sr - (Int32.toNatClampNeg (80 : Int32))) ∧ (let S3 := S2.newA 15 (Int32.toNatClampNeg (80 : Int32))
  (ox_has (S3.K x0) 24 = true ∧ (let S4 := S3.sR 24 x0 S2.n
  (¬ (320 : Int32) < 0 ∧ (Int32.toNatClampNeg (320 : Int32)) ≤ 67108864 ∧ 1 ≤ ((mr - 1) - 1) ∧ (Int32.toNatClampNeg (320 : Int32)) ≤ ((sr - (Int32.toNatClampNeg (80 : Int32))) - (Int32.toNatClampNeg (80 : Int32))) ∧ (let S5 := S4.newA 15 (Int32.toNatClampNeg (320 : Int32))
  (ox_has (S5.K x0) 25 = true ∧ (let S6 := S5.sR 25 x0 S4.n
  (¬ (320 : Int32) < 0 ∧ (Int32.toNatClampNeg (320 : Int32)) ≤ 67108864 ∧ 1 ≤ (((mr - 1) - 1) - 1) ∧ (Int32.toNatClampNeg (320 : Int32)) ≤ (((sr - (Int32.toNatClampNeg (80 : Int32))) - (Int32.toNatClampNeg (80 : Int32))) - (Int32.toNatClampNeg (320 : Int32))) ∧ (let S7 := S6.newA 15 (Int32.toNatClampNeg (320 : Int32))
  (ox_has (S7.K x0) 26 = true ∧ (let S8 := S7.sR 26 x0 S6.n
  (¬ (80 : Int32) < 0 ∧ (Int32.toNatClampNeg (80 : Int32)) ≤ 67108864 ∧ 1 ≤ ((((mr - 1) - 1) - 1) - 1) ∧ (Int32.toNatClampNeg (80 : Int32)) ≤ ((((sr - (Int32.toNatClampNeg (80 : Int32))) - (Int32.toNatClampNeg (80 : Int32))) - (Int32.toNatClampNeg (320 : Int32))) - (Int32.toNatClampNeg (320 : Int32))) ∧ (let S9 := S8.newA 15 (Int32.toNatClampNeg (80 : Int32))
  (ox_has (S9.K x0) 27 = true ∧ (let S10 := S9.sR 27 x0 S8.n
  (¬ (4 : Int32) < 0 ∧ (Int32.toNatClampNeg (4 : Int32)) ≤ 67108864 ∧ 1 ≤ (((((mr - 1) - 1) - 1) - 1) - 1) ∧ (Int32.toNatClampNeg (4 : Int32)) ≤ (((((sr - (Int32.toNatClampNeg (80 : Int32))) - (Int32.toNatClampNeg (80 : Int32))) - (Int32.toNatClampNeg (320 : Int32))) - (Int32.toNatClampNeg (320 : Int32))) - (Int32.toNatClampNeg (80 : Int32))) ∧ (let S11 := S10.newA 15 (Int32.toNatClampNeg (4 : Int32))
  (ox_has (S11.K x0) 30 = true ∧ (let S12 := S11.sR 30 x0 S10.n
  (¬ (4 : Int32) < 0 ∧ (Int32.toNatClampNeg (4 : Int32)) ≤ 67108864 ∧ 1 ≤ ((((((mr - 1) - 1) - 1) - 1) - 1) - 1) ∧ (Int32.toNatClampNeg (4 : Int32)) ≤ ((((((sr - (Int32.toNatClampNeg (80 : Int32))) - (Int32.toNatClampNeg (80 : Int32))) - (Int32.toNatClampNeg (320 : Int32))) - (Int32.toNatClampNeg (320 : Int32))) - (Int32.toNatClampNeg (80 : Int32))) - (Int32.toNatClampNeg (4 : Int32))) ∧ (let S13 := S12.newA 15 (Int32.toNatClampNeg (4 : Int32))
  (ox_has (S13.K x0) 31 = true ∧ (let S14 := S13.sR 31 x0 S12.n
  ((ox_mi 29).2.2.2.1 = none ∧ Q none S14))))))))))))))))))))))))))))))
set_option maxRecDepth 20000 in
set_option maxHeartbeats 4000000 in
theorem f_29 {sp : ox_E} (hsp : ox_mono sp) {d : Nat} {mr sr : Nat} {x0 : Nat} {S : ox_St} {Q : ox_Q} (h : q_29 (ox_M sp d) x0 S mr sr Q) : ox_M sp (d + 1) 29 [.inr (.inr (x0))] mr sr S Q := Or.inr ⟨Nat.le_of_ble_eq_true rfl, ox_C_fold (ox_M_mono hsp d) h⟩
/-! OpcodeFrames$Looker.passes(LOpcodeFrames$Code;)Z -/
def k_30_18 (E : ox_E) (x0 : Nat) (x1 : Nat) (mr sr : Nat) (Q : ox_Q) : ox_Q := fun r_ T_ => ox_C E (ox_mi 30).2.2.2.1 (ox_mc 30) (ox_cut 30) Q 18 [some (.inr (.inr (x0))), some (.inr (.inr (x1))), none, none] (r_.toList ++ []) T_ mr sr
def k_30_25 (E : ox_E) (x0 : Nat) (x1 : Nat) (mr sr : Nat) (Q : ox_Q) : ox_Q := fun r_ T_ => ox_C E (ox_mi 30).2.2.2.1 (ox_mc 30) (ox_cut 30) Q 25 [some (.inr (.inr (x0))), some (.inr (.inr (x1))), none, none] (r_.toList ++ []) T_ mr sr
def c_30_28 (E : ox_E) (x0 : Nat) (x1 : Nat) (x2 : Int32) (x3 : Int32) (S : ox_St) (mr sr : Nat) (Q : ox_Q) : Prop := ox_C E (ox_mi 30).2.2.2.1 (ox_mc 30) (ox_cut 30) Q 28 [some (.inr (.inr (x0))), some (.inr (.inr (x1))), some (.inl (x2)), some (.inl (x3))] [] S mr sr
def k_30_56 (E : ox_E) (x0 : Nat) (x1 : Nat) (x2 : Int32) (x3 : Int32) (mr sr : Nat) (Q : ox_Q) : ox_Q := fun r_ T_ => ox_C E (ox_mi 30).2.2.2.1 (ox_mc 30) (ox_cut 30) Q 56 [some (.inr (.inr (x0))), some (.inr (.inr (x1))), some (.inl (x2)), some (.inl (x3))] (r_.toList ++ []) T_ mr sr
set_option maxRecDepth 20000 in
def q_30_56 (E : ox_E) (x0 : Nat) (x1 : Nat) (x2 : Int32) (x3 : Int32) (y0 : Int32) (S : ox_St) (mr sr : Nat) (Q : ox_Q) : Prop :=
  c_30_28 E x0 x1 y0 (x3 + 1) S mr sr Q
set_option maxRecDepth 20000 in
set_option maxHeartbeats 4000000 in
theorem f_30_56 {E : ox_E} (hE : ox_mono E) {mr sr : Nat} {x0 : Nat} {x1 : Nat} {x2 : Int32} {x3 : Int32} {y0 : Int32} {S : ox_St} {Q : ox_Q} (h : q_30_56 E x0 x1 x2 x3 y0 S mr sr Q) : k_30_56 E x0 x1 x2 x3 mr sr Q (some (.inl (y0))) S := ox_C_fold hE h
set_option maxRecDepth 20000 in
def q_30_28 (E : ox_E) (x0 : Nat) (x1 : Nat) (x2 : Int32) (x3 : Int32) (S : ox_St) (mr sr : Nat) (Q : ox_Q) : Prop :=
  ((x2 = 0 → ((x2 = 0 ∨ x2 = 1) ∧ Q (some (.inl x2)) S)) ∧ (¬ x2 = 0 → (ox_has (S.K x0) 28 = true ∧ (((S.I 28 x0) ≤ x3 → ((x2 = 0 ∨ x2 = 1) ∧ Q (some (.inl x2)) S)) ∧ (¬ (S.I 28 x0) ≤ x3 → (((80 : Int32) ≤ x3 → ((x2 = 0 ∨ x2 = 1) ∧ Q (some (.inl x2)) S)) ∧ (¬ (80 : Int32) ≤ x3 → (ox_has (S.K x0) 27 = true ∧ (ox_rdI (S.K (S.R 27 x0)) = true ∧ vp_in x3 (S.len (S.R 27 x0)) ∧ (2 ≤ 2 ∧ S.K x0 = 6 ∧ 0 ≤ 8 ∧ ∃ mc1 mk2, mc1 ≤ mr ∧ mk2 ≤ sr ∧ E 31 [.inr (.inr (x0)), .inl (S.rI (S.R 27 x0) (Int32.toNatClampNeg x3))] mc1 mk2 S (k_30_56 E x0 x1 x2 x3 (mr - mc1) (sr - mk2) Q)))))))))))
set_option maxRecDepth 20000 in
set_option maxHeartbeats 4000000 in
theorem f_30_28 {E : ox_E} (hE : ox_mono E) {mr sr : Nat} {x0 : Nat} {x1 : Nat} {x2 : Int32} {x3 : Int32} {S : ox_St} {Q : ox_Q} (h : q_30_28 E x0 x1 x2 x3 S mr sr Q) : c_30_28 E x0 x1 x2 x3 S mr sr Q := ox_C_fold hE h
set_option maxRecDepth 20000 in
def q_30_25 (E : ox_E) (x0 : Nat) (x1 : Nat) (y0 : Int32) (S : ox_St) (mr sr : Nat) (Q : ox_Q) : Prop :=
  c_30_28 E x0 x1 y0 0 S mr sr Q
set_option maxRecDepth 20000 in
set_option maxHeartbeats 4000000 in
theorem f_30_25 {E : ox_E} (hE : ox_mono E) {mr sr : Nat} {x0 : Nat} {x1 : Nat} {y0 : Int32} {S : ox_St} {Q : ox_Q} (h : q_30_25 E x0 x1 y0 S mr sr Q) : k_30_25 E x0 x1 mr sr Q (some (.inl (y0))) S := ox_C_fold hE h
set_option maxRecDepth 20000 in
def q_30_18 (E : ox_E) (x0 : Nat) (x1 : Nat) (S : ox_St) (mr sr : Nat) (Q : ox_Q) : Prop :=
  (4 ≤ 4 ∧ S.K x0 = 6 ∧ 0 ≤ 8 ∧ ∃ mc1 mk2, mc1 ≤ mr ∧ mk2 ≤ sr ∧ E 35 [.inr (.inr (x0)), .inl (0), .inl (0), .inl (0)] mc1 mk2 S (k_30_25 E x0 x1 (mr - mc1) (sr - mk2) Q))
set_option maxRecDepth 20000 in
set_option maxHeartbeats 4000000 in
theorem f_30_18 {E : ox_E} (hE : ox_mono E) {mr sr : Nat} {x0 : Nat} {x1 : Nat} {S : ox_St} {Q : ox_Q} (h : q_30_18 E x0 x1 S mr sr Q) : k_30_18 E x0 x1 mr sr Q none S := ox_C_fold hE h
set_option maxRecDepth 20000 in
def q_30 (E : ox_E) (x0 : Nat) (x1 : Nat) (S : ox_St) (mr sr : Nat) (Q : ox_Q) : Prop :=
  (ox_has (S.K x0) 29 = true ∧ (let S1 := S.sR 29 x0 x1
  (ox_has (S1.K x0) 28 = true ∧ (let S2 := S1.sI 28 x0 0
  (ox_has (S2.K x0) 23 = true ∧ (2 ≤ 2 ∧ 0 ≤ 8 ∧ ∃ mc3 mk4, mc3 ≤ mr ∧ mk4 ≤ sr ∧ E 228 [.inr (.inr (S2.R 23 x0)), .inl (-1)] mc3 mk4 S2 (k_30_18 E x0 x1 (mr - mc3) (sr - mk4) Q)))))))
set_option maxRecDepth 20000 in
set_option maxHeartbeats 4000000 in
theorem f_30 {sp : ox_E} (hsp : ox_mono sp) {d : Nat} {mr sr : Nat} {x0 : Nat} {x1 : Nat} {S : ox_St} {Q : ox_Q} (h : q_30 (ox_M sp d) x0 x1 S mr sr Q) : ox_M sp (d + 1) 30 [.inr (.inr (x0)), .inr (.inr (x1))] mr sr S Q := Or.inr ⟨Nat.le_of_ble_eq_true rfl, ox_C_fold (ox_M_mono hsp d) h⟩
/-! OpcodeFrames$Looker.lookAt(I)Z -/
def k_31_7 (E : ox_E) (x0 : Nat) (x1 : Int32) (mr sr : Nat) (Q : ox_Q) : ox_Q := fun r_ T_ => ox_C E (ox_mi 31).2.2.2.1 (ox_mc 31) (ox_cut 31) Q 7 [some (.inr (.inr (x0))), some (.inl (x1)), none, none, none, none, none] (r_.toList ++ []) T_ mr sr
def k_31_15 (E : ox_E) (x0 : Nat) (x1 : Int32) (mr sr : Nat) (Q : ox_Q) : ox_Q := fun r_ T_ => ox_C E (ox_mi 31).2.2.2.1 (ox_mc 31) (ox_cut 31) Q 15 [some (.inr (.inr (x0))), some (.inl (x1)), none, none, none, none, none] (r_.toList ++ []) T_ mr sr
def k_31_26 (E : ox_E) (x0 : Nat) (x1 : Int32) (x2 : Int32) (mr sr : Nat) (Q : ox_Q) : ox_Q := fun r_ T_ => ox_C E (ox_mi 31).2.2.2.1 (ox_mc 31) (ox_cut 31) Q 26 [some (.inr (.inr (x0))), some (.inl (x1)), some (.inl (x2)), none, none, none, none] (r_.toList ++ []) T_ mr sr
def k_31_48 (E : ox_E) (x0 : Nat) (x1 : Int32) (x2 : Int32) (x3 : Int32) (x4 : Int32) (mr sr : Nat) (Q : ox_Q) : ox_Q := fun r_ T_ => ox_C E (ox_mi 31).2.2.2.1 (ox_mc 31) (ox_cut 31) Q 48 [some (.inr (.inr (x0))), some (.inl (x1)), some (.inl (x2)), some (.inl (x3)), some (.inl (x4)), none, none] (r_.toList ++ []) T_ mr sr
def k_31_65 (E : ox_E) (x0 : Nat) (x1 : Int32) (x2 : Int32) (x3 : Int32) (x4 : Int32) (y1 : Int32) (mr sr : Nat) (Q : ox_Q) : ox_Q := fun r_ T_ => ox_C E (ox_mi 31).2.2.2.1 (ox_mc 31) (ox_cut 31) Q 65 [some (.inr (.inr (x0))), some (.inl (x1)), some (.inl (x2)), some (.inl (x3)), some (.inl (x4)), none, none] (r_.toList ++ [.inl (y1)]) T_ mr sr
def k_31_75 (E : ox_E) (x0 : Nat) (x1 : Int32) (x2 : Int32) (x3 : Int32) (x4 : Int32) (mr sr : Nat) (Q : ox_Q) : ox_Q := fun r_ T_ => ox_C E (ox_mi 31).2.2.2.1 (ox_mc 31) (ox_cut 31) Q 75 [some (.inr (.inr (x0))), some (.inl (x1)), some (.inl (x2)), some (.inl (x3)), some (.inl (x4)), none, none] (r_.toList ++ []) T_ mr sr
def k_31_128 (E : ox_E) (x0 : Nat) (x1 : Int32) (x2 : Int32) (x3 : Int32) (x4 : Int32) (x5 : Int32) (x6 : Int32) (mr sr : Nat) (Q : ox_Q) : ox_Q := fun r_ T_ => ox_C E (ox_mi 31).2.2.2.1 (ox_mc 31) (ox_cut 31) Q 128 [some (.inr (.inr (x0))), some (.inl (x1)), some (.inl (x2)), some (.inl (x3)), some (.inl (x4)), some (.inl (x5)), some (.inl (x6))] (r_.toList ++ []) T_ mr sr
def k_31_143 (E : ox_E) (x0 : Nat) (x1 : Int32) (x2 : Int32) (x3 : Int32) (x4 : Int32) (x5 : Int32) (x6 : Int32) (y1 : Int32) (y2 : Nat) (mr sr : Nat) (Q : ox_Q) : ox_Q := fun r_ T_ => ox_C E (ox_mi 31).2.2.2.1 (ox_mc 31) (ox_cut 31) Q 143 [some (.inr (.inr (x0))), some (.inl (x1)), some (.inl (x2)), some (.inl (x3)), some (.inl (x4)), some (.inl (x5)), some (.inl (x6))] (r_.toList ++ [.inl (y1), .inr (.inr (y2))]) T_ mr sr
def k_31_158 (E : ox_E) (x0 : Nat) (x1 : Int32) (x2 : Int32) (x3 : Int32) (x4 : Int32) (x5 : Int32) (x6 : Int32) (mr sr : Nat) (Q : ox_Q) : ox_Q := fun r_ T_ => ox_C E (ox_mi 31).2.2.2.1 (ox_mc 31) (ox_cut 31) Q 158 [some (.inr (.inr (x0))), some (.inl (x1)), some (.inl (x2)), some (.inl (x3)), some (.inl (x4)), some (.inl (x5)), some (.inl (x6))] (r_.toList ++ []) T_ mr sr
set_option maxRecDepth 20000 in
def q_31_158 (E : ox_E) (x0 : Nat) (x1 : Int32) (x2 : Int32) (x3 : Int32) (x4 : Int32) (x5 : Int32) (x6 : Int32) (y0 : Int32) (S : ox_St) (mr sr : Nat) (Q : ox_Q) : Prop :=
  ((y0 = 0 ∨ y0 = 1) ∧ Q (some (.inl y0)) S)
set_option maxRecDepth 20000 in
set_option maxHeartbeats 4000000 in
theorem f_31_158 {E : ox_E} (hE : ox_mono E) {mr sr : Nat} {x0 : Nat} {x1 : Int32} {x2 : Int32} {x3 : Int32} {x4 : Int32} {x5 : Int32} {x6 : Int32} {y0 : Int32} {S : ox_St} {Q : ox_Q} (h : q_31_158 E x0 x1 x2 x3 x4 x5 x6 y0 S mr sr Q) : k_31_158 E x0 x1 x2 x3 x4 x5 x6 mr sr Q (some (.inl (y0))) S := ox_C_fold hE h
set_option maxRecDepth 20000 in
def q_31_143 (E : ox_E) (x0 : Nat) (x1 : Int32) (x2 : Int32) (x3 : Int32) (x4 : Int32) (x5 : Int32) (x6 : Int32) (y0 : Int32) (y1 : Int32) (y2 : Nat) (S : ox_St) (mr sr : Nat) (Q : ox_Q) : Prop :=
  (ox_has (S.K y2) 32 = true ∧ (let S1 := S.sI 32 y2 (y1 + (y0 - x5))
  (4 ≤ 4 ∧ S1.K x0 = 6 ∧ 0 ≤ 8 ∧ ∃ mc2 mk3, mc2 ≤ mr ∧ mk3 ≤ sr ∧ E 33 [.inr (.inr (x0)), .inl (x2), .inl (x3), .inl (x4)] mc2 mk3 S1 (k_31_158 E x0 x1 x2 x3 x4 x5 x6 (mr - mc2) (sr - mk3) Q))))
set_option maxRecDepth 20000 in
set_option maxHeartbeats 4000000 in
theorem f_31_143 {E : ox_E} (hE : ox_mono E) {mr sr : Nat} {x0 : Nat} {x1 : Int32} {x2 : Int32} {x3 : Int32} {x4 : Int32} {x5 : Int32} {x6 : Int32} {y0 : Int32} {y1 : Int32} {y2 : Nat} {S : ox_St} {Q : ox_Q} (h : q_31_143 E x0 x1 x2 x3 x4 x5 x6 y0 y1 y2 S mr sr Q) : k_31_143 E x0 x1 x2 x3 x4 x5 x6 y1 y2 mr sr Q (some (.inl (y0))) S := ox_C_fold hE h
set_option maxRecDepth 20000 in
def q_31_128 (E : ox_E) (x0 : Nat) (x1 : Int32) (x2 : Int32) (x3 : Int32) (x4 : Int32) (x5 : Int32) (x6 : Int32) (y0 : Int32) (S : ox_St) (mr sr : Nat) (Q : ox_Q) : Prop :=
  ((¬ y0 = 0 → (ox_has (S.K x0) 32 = true ∧ (2 ≤ 4 ∧ 2 ≤ 8 ∧ ∃ mc1 mk2, mc1 ≤ mr ∧ mk2 ≤ sr ∧ E 40 [.inl (x2), .inl (x3)] mc1 mk2 S (k_31_143 E x0 x1 x2 x3 x4 x5 x6 (S.I 32 x0) x0 (mr - mc1) (sr - mk2) Q)))) ∧ (y0 = 0 → (((0 : Int32) = 0 ∨ (0 : Int32) = 1) ∧ Q (some (.inl (0 : Int32))) S)))
set_option maxRecDepth 20000 in
set_option maxHeartbeats 4000000 in
theorem f_31_128 {E : ox_E} (hE : ox_mono E) {mr sr : Nat} {x0 : Nat} {x1 : Int32} {x2 : Int32} {x3 : Int32} {x4 : Int32} {x5 : Int32} {x6 : Int32} {y0 : Int32} {S : ox_St} {Q : ox_Q} (h : q_31_128 E x0 x1 x2 x3 x4 x5 x6 y0 S mr sr Q) : k_31_128 E x0 x1 x2 x3 x4 x5 x6 mr sr Q (some (.inl (y0))) S := ox_C_fold hE h
set_option maxRecDepth 20000 in
def q_31_75 (E : ox_E) (x0 : Nat) (x1 : Int32) (x2 : Int32) (x3 : Int32) (x4 : Int32) (y0 : Int32) (S : ox_St) (mr sr : Nat) (Q : ox_Q) : Prop :=
  (ox_has (S.K x0) 33 = true ∧ (((S.I 33 x0) ≤ 0 → (ox_has (S.K x0) 32 = true ∧ (let w1 : Int32 := S.I 32 x0
  ((y0 = (-1) → (((0 : Int32) = 0 ∨ (0 : Int32) = 1) ∧ Q (some (.inl (0 : Int32))) S)) ∧ (¬ y0 = (-1) → ((w1 < y0 → (((0 : Int32) = 0 ∨ (0 : Int32) = 1) ∧ Q (some (.inl (0 : Int32))) S)) ∧ (¬ w1 < y0 → (3 ≤ 3 ∧ S.K x0 = 6 ∧ 0 ≤ 8 ∧ ∃ mc2 mk3, mc2 ≤ mr ∧ mk3 ≤ sr ∧ E 38 [.inr (.inr (x0)), .inl (x2), .inl (x3)] mc2 mk3 S (k_31_128 E x0 x1 x2 x3 x4 y0 w1 (mr - mc2) (sr - mk3) Q))))))))) ∧ (¬ (S.I 33 x0) ≤ 0 → (ox_has (S.K x0) 32 = true ∧ (ox_has (S.K x0) 30 = true ∧ (ox_has (S.K x0) 33 = true ∧ (ox_rdI (S.K (S.R 30 x0)) = true ∧ vp_in ((S.I 33 x0) - 1) (S.len (S.R 30 x0)) ∧ (let w4 : Int32 := (S.I 32 x0) - (S.rI (S.R 30 x0) (Int32.toNatClampNeg ((S.I 33 x0) - 1)))
  ((y0 = (-1) → (((0 : Int32) = 0 ∨ (0 : Int32) = 1) ∧ Q (some (.inl (0 : Int32))) S)) ∧ (¬ y0 = (-1) → ((w4 < y0 → (((0 : Int32) = 0 ∨ (0 : Int32) = 1) ∧ Q (some (.inl (0 : Int32))) S)) ∧ (¬ w4 < y0 → (3 ≤ 3 ∧ S.K x0 = 6 ∧ 0 ≤ 8 ∧ ∃ mc5 mk6, mc5 ≤ mr ∧ mk6 ≤ sr ∧ E 38 [.inr (.inr (x0)), .inl (x2), .inl (x3)] mc5 mk6 S (k_31_128 E x0 x1 x2 x3 x4 y0 w4 (mr - mc5) (sr - mk6) Q))))))))))))))
set_option maxRecDepth 20000 in
set_option maxHeartbeats 4000000 in
theorem f_31_75 {E : ox_E} (hE : ox_mono E) {mr sr : Nat} {x0 : Nat} {x1 : Int32} {x2 : Int32} {x3 : Int32} {x4 : Int32} {y0 : Int32} {S : ox_St} {Q : ox_Q} (h : q_31_75 E x0 x1 x2 x3 x4 y0 S mr sr Q) : k_31_75 E x0 x1 x2 x3 x4 mr sr Q (some (.inl (y0))) S := ox_C_fold hE h
set_option maxRecDepth 20000 in
def q_31_65 (E : ox_E) (x0 : Nat) (x1 : Int32) (x2 : Int32) (x3 : Int32) (x4 : Int32) (y0 : Int32) (y1 : Int32) (S : ox_St) (mr sr : Nat) (Q : ox_Q) : Prop :=
  (let w1 : Int32 := y1 + y0
  (2 ≤ 2 ∧ 0 ≤ 8 ∧ ∃ mc2 mk3, mc2 ≤ mr ∧ mk3 ≤ sr ∧ E 39 [.inl (x2), .inl (w1)] mc2 mk3 S (k_31_75 E x0 x1 x2 w1 (x4 + 2) (mr - mc2) (sr - mk3) Q)))
set_option maxRecDepth 20000 in
set_option maxHeartbeats 4000000 in
theorem f_31_65 {E : ox_E} (hE : ox_mono E) {mr sr : Nat} {x0 : Nat} {x1 : Int32} {x2 : Int32} {x3 : Int32} {x4 : Int32} {y0 : Int32} {y1 : Int32} {S : ox_St} {Q : ox_Q} (h : q_31_65 E x0 x1 x2 x3 x4 y0 y1 S mr sr Q) : k_31_65 E x0 x1 x2 x3 x4 y1 mr sr Q (some (.inl (y0))) S := ox_C_fold hE h
set_option maxRecDepth 20000 in
def q_31_48 (E : ox_E) (x0 : Nat) (x1 : Int32) (x2 : Int32) (x3 : Int32) (x4 : Int32) (y0 : Int32) (S : ox_St) (mr sr : Nat) (Q : ox_Q) : Prop :=
  (ox_has (S.K x0) 29 = true ∧ (2 ≤ 3 ∧ S.K (S.R 29 x0) = 3 ∧ 1 ≤ 8 ∧ ∃ mc1 mk2, mc1 ≤ mr ∧ mk2 ≤ sr ∧ E 16 [.inr (.inr (S.R 29 x0)), .inl (x4 + 1)] mc1 mk2 S (k_31_65 E x0 x1 y0 x3 x4 (256 * x3) (mr - mc1) (sr - mk2) Q)))
set_option maxRecDepth 20000 in
set_option maxHeartbeats 4000000 in
theorem f_31_48 {E : ox_E} (hE : ox_mono E) {mr sr : Nat} {x0 : Nat} {x1 : Int32} {x2 : Int32} {x3 : Int32} {x4 : Int32} {y0 : Int32} {S : ox_St} {Q : ox_Q} (h : q_31_48 E x0 x1 x2 x3 x4 y0 S mr sr Q) : k_31_48 E x0 x1 x2 x3 x4 mr sr Q (some (.inl (y0))) S := ox_C_fold hE h
set_option maxRecDepth 20000 in
def q_31_26 (E : ox_E) (x0 : Nat) (x1 : Int32) (x2 : Int32) (y0 : Int32) (S : ox_St) (mr sr : Nat) (Q : ox_Q) : Prop :=
  (let w1 : Int32 := x1 + 2
  ((¬ x2 = 144 → (2 ≤ 2 ∧ 0 ≤ 8 ∧ ∃ mc2 mk3, mc2 ≤ mr ∧ mk3 ≤ sr ∧ E 39 [.inl (x2), .inl (y0)] mc2 mk3 S (k_31_75 E x0 x1 x2 y0 w1 (mr - mc2) (sr - mk3) Q))) ∧ (x2 = 144 → (ox_has (S.K x0) 29 = true ∧ (2 ≤ 2 ∧ S.K (S.R 29 x0) = 3 ∧ 0 ≤ 8 ∧ ∃ mc4 mk5, mc4 ≤ mr ∧ mk5 ≤ sr ∧ E 16 [.inr (.inr (S.R 29 x0)), .inl (w1)] mc4 mk5 S (k_31_48 E x0 x1 x2 y0 w1 (mr - mc4) (sr - mk5) Q))))))
set_option maxRecDepth 20000 in
set_option maxHeartbeats 4000000 in
theorem f_31_26 {E : ox_E} (hE : ox_mono E) {mr sr : Nat} {x0 : Nat} {x1 : Int32} {x2 : Int32} {y0 : Int32} {S : ox_St} {Q : ox_Q} (h : q_31_26 E x0 x1 x2 y0 S mr sr Q) : k_31_26 E x0 x1 x2 mr sr Q (some (.inl (y0))) S := ox_C_fold hE h
set_option maxRecDepth 20000 in
def q_31_15 (E : ox_E) (x0 : Nat) (x1 : Int32) (y0 : Int32) (S : ox_St) (mr sr : Nat) (Q : ox_Q) : Prop :=
  (ox_has (S.K x0) 29 = true ∧ (2 ≤ 2 ∧ S.K (S.R 29 x0) = 3 ∧ 0 ≤ 8 ∧ ∃ mc1 mk2, mc1 ≤ mr ∧ mk2 ≤ sr ∧ E 16 [.inr (.inr (S.R 29 x0)), .inl (x1 + 1)] mc1 mk2 S (k_31_26 E x0 x1 y0 (mr - mc1) (sr - mk2) Q)))
set_option maxRecDepth 20000 in
set_option maxHeartbeats 4000000 in
theorem f_31_15 {E : ox_E} (hE : ox_mono E) {mr sr : Nat} {x0 : Nat} {x1 : Int32} {y0 : Int32} {S : ox_St} {Q : ox_Q} (h : q_31_15 E x0 x1 y0 S mr sr Q) : k_31_15 E x0 x1 mr sr Q (some (.inl (y0))) S := ox_C_fold hE h
set_option maxRecDepth 20000 in
def q_31_7 (E : ox_E) (x0 : Nat) (x1 : Int32) (S : ox_St) (mr sr : Nat) (Q : ox_Q) : Prop :=
  (ox_has (S.K x0) 29 = true ∧ (2 ≤ 2 ∧ S.K (S.R 29 x0) = 3 ∧ 0 ≤ 8 ∧ ∃ mc1 mk2, mc1 ≤ mr ∧ mk2 ≤ sr ∧ E 16 [.inr (.inr (S.R 29 x0)), .inl (x1)] mc1 mk2 S (k_31_15 E x0 x1 (mr - mc1) (sr - mk2) Q)))
set_option maxRecDepth 20000 in
set_option maxHeartbeats 4000000 in
theorem f_31_7 {E : ox_E} (hE : ox_mono E) {mr sr : Nat} {x0 : Nat} {x1 : Int32} {S : ox_St} {Q : ox_Q} (h : q_31_7 E x0 x1 S mr sr Q) : k_31_7 E x0 x1 mr sr Q none S := ox_C_fold hE h
set_option maxRecDepth 20000 in
def q_31 (E : ox_E) (x0 : Nat) (x1 : Int32) (S : ox_St) (mr sr : Nat) (Q : ox_Q) : Prop :=
  (¬ (2 : Int32) = 0 ∧ (2 ≤ 2 ∧ S.K x0 = 6 ∧ 0 ≤ 8 ∧ ∃ mc1 mk2, mc1 ≤ mr ∧ mk2 ≤ sr ∧ E 32 [.inr (.inr (x0)), .inl (x1 / 2)] mc1 mk2 S (k_31_7 E x0 x1 (mr - mc1) (sr - mk2) Q)))
set_option maxRecDepth 20000 in
set_option maxHeartbeats 4000000 in
theorem f_31 {sp : ox_E} (hsp : ox_mono sp) {d : Nat} {mr sr : Nat} {x0 : Nat} {x1 : Int32} {S : ox_St} {Q : ox_Q} (h : q_31 (ox_M sp d) x0 x1 S mr sr Q) : ox_M sp (d + 1) 31 [.inr (.inr (x0)), .inl (x1)] mr sr S Q := Or.inr ⟨Nat.le_of_ble_eq_true rfl, ox_C_fold (ox_M_mono hsp d) h⟩
/-! OpcodeFrames$Looker.takeUp(I)V -/
def c_32_22 (E : ox_E) (x0 : Nat) (x1 : Int32) (x2 : Int32) (S : ox_St) (mr sr : Nat) (Q : ox_Q) : Prop := ox_C E (ox_mi 32).2.2.2.1 (ox_mc 32) (ox_cut 32) Q 22 [some (.inr (.inr (x0))), some (.inl (x1)), some (.inl (x2))] [] S mr sr
set_option maxRecDepth 20000 in
def q_32_22 (E : ox_E) (x0 : Nat) (x1 : Int32) (x2 : Int32) (S : ox_St) (mr sr : Nat) (Q : ox_Q) : Prop :=
  (ox_has (S.K x0) 33 = true ∧ (((S.I 33 x0) ≤ x2 → ((ox_mi 32).2.2.2.1 = none ∧ Q none S)) ∧ (¬ (S.I 33 x0) ≤ x2 → (((4 : Int32) ≤ x2 → ((ox_mi 32).2.2.2.1 = none ∧ Q none S)) ∧ (¬ (4 : Int32) ≤ x2 → (ox_has (S.K x0) 30 = true ∧ (ox_has (S.K x0) 25 = true ∧ (ox_rdI (S.K (S.R 25 x0)) = true ∧ vp_in ((x1 * 4) + x2) (S.len (S.R 25 x0)) ∧ (S.K (S.R 30 x0) = 15 ∧ vp_in x2 (S.len (S.R 30 x0)) ∧ (let S1 := S.wI (S.R 30 x0) (Int32.toNatClampNeg x2) (S.rI (S.R 25 x0) (Int32.toNatClampNeg ((x1 * 4) + x2)))
  (ox_has (S1.K x0) 31 = true ∧ (ox_has (S1.K x0) 26 = true ∧ (ox_rdI (S1.K (S1.R 26 x0)) = true ∧ vp_in ((x1 * 4) + x2) (S1.len (S1.R 26 x0)) ∧ (S1.K (S1.R 31 x0) = 15 ∧ vp_in x2 (S1.len (S1.R 31 x0)) ∧ (let S2 := S1.wI (S1.R 31 x0) (Int32.toNatClampNeg x2) (S1.rI (S1.R 26 x0) (Int32.toNatClampNeg ((x1 * 4) + x2)))
  c_32_22 E x0 x1 (x2 + 1) S2 mr sr Q)))))))))))))))
set_option maxRecDepth 20000 in
set_option maxHeartbeats 4000000 in
theorem f_32_22 {E : ox_E} (hE : ox_mono E) {mr sr : Nat} {x0 : Nat} {x1 : Int32} {x2 : Int32} {S : ox_St} {Q : ox_Q} (h : q_32_22 E x0 x1 x2 S mr sr Q) : c_32_22 E x0 x1 x2 S mr sr Q := ox_C_fold hE h
set_option maxRecDepth 20000 in
def q_32 (E : ox_E) (x0 : Nat) (x1 : Int32) (S : ox_St) (mr sr : Nat) (Q : ox_Q) : Prop :=
  (ox_has (S.K x0) 23 = true ∧ (ox_rdI (S.K (S.R 23 x0)) = true ∧ vp_in x1 (S.len (S.R 23 x0)) ∧ (ox_has (S.K x0) 32 = true ∧ (let S1 := S.sI 32 x0 (S.rI (S.R 23 x0) (Int32.toNatClampNeg x1))
  (ox_has (S1.K x0) 24 = true ∧ (ox_rdI (S1.K (S1.R 24 x0)) = true ∧ vp_in x1 (S1.len (S1.R 24 x0)) ∧ (ox_has (S1.K x0) 33 = true ∧ (let S2 := S1.sI 33 x0 (S1.rI (S1.R 24 x0) (Int32.toNatClampNeg x1))
  c_32_22 E x0 x1 0 S2 mr sr Q))))))))
set_option maxRecDepth 20000 in
set_option maxHeartbeats 4000000 in
theorem f_32 {sp : ox_E} (hsp : ox_mono sp) {d : Nat} {mr sr : Nat} {x0 : Nat} {x1 : Int32} {S : ox_St} {Q : ox_Q} (h : q_32 (ox_M sp d) x0 x1 S mr sr Q) : ox_M sp (d + 1) 32 [.inr (.inr (x0)), .inl (x1)] mr sr S Q := Or.inr ⟨Nat.le_of_ble_eq_true rfl, ox_C_fold (ox_M_mono hsp d) h⟩
/-! OpcodeFrames$Looker.goOn(III)Z -/
def k_33_114 (E : ox_E) (x0 : Nat) (x1 : Int32) (x2 : Int32) (x3 : Int32) (mr sr : Nat) (Q : ox_Q) : ox_Q := fun r_ T_ => ox_C E (ox_mi 33).2.2.2.1 (ox_mc 33) (ox_cut 33) Q 114 [some (.inr (.inr (x0))), some (.inl (x1)), some (.inl (x2)), some (.inl (x3))] (r_.toList ++ []) T_ mr sr
def k_33_128 (E : ox_E) (x0 : Nat) (x1 : Int32) (x2 : Int32) (x3 : Int32) (mr sr : Nat) (Q : ox_Q) : ox_Q := fun r_ T_ => ox_C E (ox_mi 33).2.2.2.1 (ox_mc 33) (ox_cut 33) Q 128 [some (.inr (.inr (x0))), some (.inl (x1)), some (.inl (x2)), some (.inl (x3))] (r_.toList ++ []) T_ mr sr
def k_33_142 (E : ox_E) (x0 : Nat) (x1 : Int32) (x2 : Int32) (x3 : Int32) (mr sr : Nat) (Q : ox_Q) : ox_Q := fun r_ T_ => ox_C E (ox_mi 33).2.2.2.1 (ox_mc 33) (ox_cut 33) Q 142 [some (.inr (.inr (x0))), some (.inl (x1)), some (.inl (x2)), some (.inl (x3))] (r_.toList ++ []) T_ mr sr
def k_33_158 (E : ox_E) (x0 : Nat) (x1 : Int32) (x2 : Int32) (x3 : Int32) (mr sr : Nat) (Q : ox_Q) : ox_Q := fun r_ T_ => ox_C E (ox_mi 33).2.2.2.1 (ox_mc 33) (ox_cut 33) Q 158 [some (.inr (.inr (x0))), some (.inl (x1)), some (.inl (x2)), some (.inl (x3))] (r_.toList ++ []) T_ mr sr
def k_33_184 (E : ox_E) (x0 : Nat) (x1 : Int32) (x2 : Int32) (x3 : Int32) (mr sr : Nat) (Q : ox_Q) : ox_Q := fun r_ T_ => ox_C E (ox_mi 33).2.2.2.1 (ox_mc 33) (ox_cut 33) Q 184 [some (.inr (.inr (x0))), some (.inl (x1)), some (.inl (x2)), some (.inl (x3))] (r_.toList ++ []) T_ mr sr
def k_33_200 (E : ox_E) (x0 : Nat) (x1 : Int32) (x2 : Int32) (x3 : Int32) (mr sr : Nat) (Q : ox_Q) : ox_Q := fun r_ T_ => ox_C E (ox_mi 33).2.2.2.1 (ox_mc 33) (ox_cut 33) Q 200 [some (.inr (.inr (x0))), some (.inl (x1)), some (.inl (x2)), some (.inl (x3))] (r_.toList ++ []) T_ mr sr
def k_33_226 (E : ox_E) (x0 : Nat) (x1 : Int32) (x2 : Int32) (x3 : Int32) (mr sr : Nat) (Q : ox_Q) : ox_Q := fun r_ T_ => ox_C E (ox_mi 33).2.2.2.1 (ox_mc 33) (ox_cut 33) Q 226 [some (.inr (.inr (x0))), some (.inl (x1)), some (.inl (x2)), some (.inl (x3))] (r_.toList ++ []) T_ mr sr
def k_33_237 (E : ox_E) (x0 : Nat) (x1 : Int32) (x2 : Int32) (x3 : Int32) (mr sr : Nat) (Q : ox_Q) : ox_Q := fun r_ T_ => ox_C E (ox_mi 33).2.2.2.1 (ox_mc 33) (ox_cut 33) Q 237 [some (.inr (.inr (x0))), some (.inl (x1)), some (.inl (x2)), some (.inl (x3))] (r_.toList ++ []) T_ mr sr
def k_33_268 (E : ox_E) (x0 : Nat) (x1 : Int32) (x2 : Int32) (x3 : Int32) (mr sr : Nat) (Q : ox_Q) : ox_Q := fun r_ T_ => ox_C E (ox_mi 33).2.2.2.1 (ox_mc 33) (ox_cut 33) Q 268 [some (.inr (.inr (x0))), some (.inl (x1)), some (.inl (x2)), some (.inl (x3))] (r_.toList ++ []) T_ mr sr
def k_33_290 (E : ox_E) (x0 : Nat) (x1 : Int32) (x2 : Int32) (x3 : Int32) (mr sr : Nat) (Q : ox_Q) : ox_Q := fun r_ T_ => ox_C E (ox_mi 33).2.2.2.1 (ox_mc 33) (ox_cut 33) Q 290 [some (.inr (.inr (x0))), some (.inl (x1)), some (.inl (x2)), some (.inl (x3))] (r_.toList ++ []) T_ mr sr
set_option maxRecDepth 20000 in
def q_33_290 (E : ox_E) (x0 : Nat) (x1 : Int32) (x2 : Int32) (x3 : Int32) (y0 : Int32) (S : ox_St) (mr sr : Nat) (Q : ox_Q) : Prop :=
  ((y0 = 0 ∨ y0 = 1) ∧ Q (some (.inl y0)) S)
set_option maxRecDepth 20000 in
set_option maxHeartbeats 4000000 in
theorem f_33_290 {E : ox_E} (hE : ox_mono E) {mr sr : Nat} {x0 : Nat} {x1 : Int32} {x2 : Int32} {x3 : Int32} {y0 : Int32} {S : ox_St} {Q : ox_Q} (h : q_33_290 E x0 x1 x2 x3 y0 S mr sr Q) : k_33_290 E x0 x1 x2 x3 mr sr Q (some (.inl (y0))) S := ox_C_fold hE h
set_option maxRecDepth 20000 in
def q_33_268 (E : ox_E) (x0 : Nat) (x1 : Int32) (x2 : Int32) (x3 : Int32) (y0 : Int32) (S : ox_St) (mr sr : Nat) (Q : ox_Q) : Prop :=
  ((y0 = 0 → (((0 : Int32) = 0 ∨ (0 : Int32) = 1) ∧ Q (some (.inl (0 : Int32))) S)) ∧ (¬ y0 = 0 → (((1 : Int32) = 0 ∨ (1 : Int32) = 1) ∧ Q (some (.inl (1 : Int32))) S)))
set_option maxRecDepth 20000 in
set_option maxHeartbeats 4000000 in
theorem f_33_268 {E : ox_E} (hE : ox_mono E) {mr sr : Nat} {x0 : Nat} {x1 : Int32} {x2 : Int32} {x3 : Int32} {y0 : Int32} {S : ox_St} {Q : ox_Q} (h : q_33_268 E x0 x1 x2 x3 y0 S mr sr Q) : k_33_268 E x0 x1 x2 x3 mr sr Q (some (.inl (y0))) S := ox_C_fold hE h
set_option maxRecDepth 20000 in
def q_33_237 (E : ox_E) (x0 : Nat) (x1 : Int32) (x2 : Int32) (x3 : Int32) (y0 : Int32) (S : ox_St) (mr sr : Nat) (Q : ox_Q) : Prop :=
  ((y0 = 0 → (((0 : Int32) = 0 ∨ (0 : Int32) = 1) ∧ Q (some (.inl (0 : Int32))) S)) ∧ (¬ y0 = 0 → (((1 : Int32) = 0 ∨ (1 : Int32) = 1) ∧ Q (some (.inl (1 : Int32))) S)))
set_option maxRecDepth 20000 in
set_option maxHeartbeats 4000000 in
theorem f_33_237 {E : ox_E} (hE : ox_mono E) {mr sr : Nat} {x0 : Nat} {x1 : Int32} {x2 : Int32} {x3 : Int32} {y0 : Int32} {S : ox_St} {Q : ox_Q} (h : q_33_237 E x0 x1 x2 x3 y0 S mr sr Q) : k_33_237 E x0 x1 x2 x3 mr sr Q (some (.inl (y0))) S := ox_C_fold hE h
set_option maxRecDepth 20000 in
def q_33_226 (E : ox_E) (x0 : Nat) (x1 : Int32) (x2 : Int32) (x3 : Int32) (y0 : Int32) (S : ox_St) (mr sr : Nat) (Q : ox_Q) : Prop :=
  ((y0 = 0 → (((0 : Int32) = 0 ∨ (0 : Int32) = 1) ∧ Q (some (.inl (0 : Int32))) S)) ∧ (¬ y0 = 0 → (3 ≤ 3 ∧ S.K x0 = 6 ∧ 0 ≤ 8 ∧ ∃ mc1 mk2, mc1 ≤ mr ∧ mk2 ≤ sr ∧ E 34 [.inr (.inr (x0)), .inl (x3 + x2), .inl (x3)] mc1 mk2 S (k_33_237 E x0 x1 x2 x3 (mr - mc1) (sr - mk2) Q))))
set_option maxRecDepth 20000 in
set_option maxHeartbeats 4000000 in
theorem f_33_226 {E : ox_E} (hE : ox_mono E) {mr sr : Nat} {x0 : Nat} {x1 : Int32} {x2 : Int32} {x3 : Int32} {y0 : Int32} {S : ox_St} {Q : ox_Q} (h : q_33_226 E x0 x1 x2 x3 y0 S mr sr Q) : k_33_226 E x0 x1 x2 x3 mr sr Q (some (.inl (y0))) S := ox_C_fold hE h
set_option maxRecDepth 20000 in
def q_33_200 (E : ox_E) (x0 : Nat) (x1 : Int32) (x2 : Int32) (x3 : Int32) (y0 : Int32) (S : ox_St) (mr sr : Nat) (Q : ox_Q) : Prop :=
  ((y0 = 0 → (((0 : Int32) = 0 ∨ (0 : Int32) = 1) ∧ Q (some (.inl (0 : Int32))) S)) ∧ (¬ y0 = 0 → (((1 : Int32) = 0 ∨ (1 : Int32) = 1) ∧ Q (some (.inl (1 : Int32))) S)))
set_option maxRecDepth 20000 in
set_option maxHeartbeats 4000000 in
theorem f_33_200 {E : ox_E} (hE : ox_mono E) {mr sr : Nat} {x0 : Nat} {x1 : Int32} {x2 : Int32} {x3 : Int32} {y0 : Int32} {S : ox_St} {Q : ox_Q} (h : q_33_200 E x0 x1 x2 x3 y0 S mr sr Q) : k_33_200 E x0 x1 x2 x3 mr sr Q (some (.inl (y0))) S := ox_C_fold hE h
set_option maxRecDepth 20000 in
def q_33_184 (E : ox_E) (x0 : Nat) (x1 : Int32) (x2 : Int32) (x3 : Int32) (y0 : Int32) (S : ox_St) (mr sr : Nat) (Q : ox_Q) : Prop :=
  ((y0 = 0 → (((0 : Int32) = 0 ∨ (0 : Int32) = 1) ∧ Q (some (.inl (0 : Int32))) S)) ∧ (¬ y0 = 0 → (ox_has (S.K x0) 32 = true ∧ (ox_has (S.K x0) 33 = true ∧ (4 ≤ 4 ∧ S.K x0 = 6 ∧ 0 ≤ 8 ∧ ∃ mc1 mk2, mc1 ≤ mr ∧ mk2 ≤ sr ∧ E 35 [.inr (.inr (x0)), .inl (x3), .inl (S.I 32 x0), .inl (S.I 33 x0)] mc1 mk2 S (k_33_200 E x0 x1 x2 x3 (mr - mc1) (sr - mk2) Q))))))
set_option maxRecDepth 20000 in
set_option maxHeartbeats 4000000 in
theorem f_33_184 {E : ox_E} (hE : ox_mono E) {mr sr : Nat} {x0 : Nat} {x1 : Int32} {x2 : Int32} {x3 : Int32} {y0 : Int32} {S : ox_St} {Q : ox_Q} (h : q_33_184 E x0 x1 x2 x3 y0 S mr sr Q) : k_33_184 E x0 x1 x2 x3 mr sr Q (some (.inl (y0))) S := ox_C_fold hE h
set_option maxRecDepth 20000 in
def q_33_158 (E : ox_E) (x0 : Nat) (x1 : Int32) (x2 : Int32) (x3 : Int32) (y0 : Int32) (S : ox_St) (mr sr : Nat) (Q : ox_Q) : Prop :=
  ((y0 = 0 → (((0 : Int32) = 0 ∨ (0 : Int32) = 1) ∧ Q (some (.inl (0 : Int32))) S)) ∧ (¬ y0 = 0 → (((1 : Int32) = 0 ∨ (1 : Int32) = 1) ∧ Q (some (.inl (1 : Int32))) S)))
set_option maxRecDepth 20000 in
set_option maxHeartbeats 4000000 in
theorem f_33_158 {E : ox_E} (hE : ox_mono E) {mr sr : Nat} {x0 : Nat} {x1 : Int32} {x2 : Int32} {x3 : Int32} {y0 : Int32} {S : ox_St} {Q : ox_Q} (h : q_33_158 E x0 x1 x2 x3 y0 S mr sr Q) : k_33_158 E x0 x1 x2 x3 mr sr Q (some (.inl (y0))) S := ox_C_fold hE h
set_option maxRecDepth 20000 in
def q_33_142 (E : ox_E) (x0 : Nat) (x1 : Int32) (x2 : Int32) (x3 : Int32) (y0 : Int32) (S : ox_St) (mr sr : Nat) (Q : ox_Q) : Prop :=
  ((y0 = 0 → (((0 : Int32) = 0 ∨ (0 : Int32) = 1) ∧ Q (some (.inl (0 : Int32))) S)) ∧ (¬ y0 = 0 → (ox_has (S.K x0) 32 = true ∧ (ox_has (S.K x0) 33 = true ∧ (4 ≤ 4 ∧ S.K x0 = 6 ∧ 0 ≤ 8 ∧ ∃ mc1 mk2, mc1 ≤ mr ∧ mk2 ≤ sr ∧ E 35 [.inr (.inr (x0)), .inl (x3), .inl (S.I 32 x0), .inl (S.I 33 x0)] mc1 mk2 S (k_33_158 E x0 x1 x2 x3 (mr - mc1) (sr - mk2) Q))))))
set_option maxRecDepth 20000 in
set_option maxHeartbeats 4000000 in
theorem f_33_142 {E : ox_E} (hE : ox_mono E) {mr sr : Nat} {x0 : Nat} {x1 : Int32} {x2 : Int32} {x3 : Int32} {y0 : Int32} {S : ox_St} {Q : ox_Q} (h : q_33_142 E x0 x1 x2 x3 y0 S mr sr Q) : k_33_142 E x0 x1 x2 x3 mr sr Q (some (.inl (y0))) S := ox_C_fold hE h
set_option maxRecDepth 20000 in
def q_33_128 (E : ox_E) (x0 : Nat) (x1 : Int32) (x2 : Int32) (x3 : Int32) (y0 : Int32) (S : ox_St) (mr sr : Nat) (Q : ox_Q) : Prop :=
  ((y0 = 0 ∨ y0 = 1) ∧ Q (some (.inl y0)) S)
set_option maxRecDepth 20000 in
set_option maxHeartbeats 4000000 in
theorem f_33_128 {E : ox_E} (hE : ox_mono E) {mr sr : Nat} {x0 : Nat} {x1 : Int32} {x2 : Int32} {x3 : Int32} {y0 : Int32} {S : ox_St} {Q : ox_Q} (h : q_33_128 E x0 x1 x2 x3 y0 S mr sr Q) : k_33_128 E x0 x1 x2 x3 mr sr Q (some (.inl (y0))) S := ox_C_fold hE h
set_option maxRecDepth 20000 in
def q_33_114 (E : ox_E) (x0 : Nat) (x1 : Int32) (x2 : Int32) (x3 : Int32) (y0 : Int32) (S : ox_St) (mr sr : Nat) (Q : ox_Q) : Prop :=
  ((y0 = 0 ∨ y0 = 1) ∧ Q (some (.inl y0)) S)
set_option maxRecDepth 20000 in
set_option maxHeartbeats 4000000 in
theorem f_33_114 {E : ox_E} (hE : ox_mono E) {mr sr : Nat} {x0 : Nat} {x1 : Int32} {x2 : Int32} {x3 : Int32} {y0 : Int32} {S : ox_St} {Q : ox_Q} (h : q_33_114 E x0 x1 x2 x3 y0 S mr sr Q) : k_33_114 E x0 x1 x2 x3 mr sr Q (some (.inl (y0))) S := ox_C_fold hE h
set_option maxRecDepth 20000 in
def q_33 (E : ox_E) (x0 : Nat) (x1 : Int32) (x2 : Int32) (x3 : Int32) (S : ox_St) (mr sr : Nat) (Q : ox_Q) : Prop :=
  ((Int32.toInt x1 = 83 → (ox_has (S.K x0) 33 = true ∧ ((¬ (S.I 33 x0) = 0 → (((0 : Int32) = 0 ∨ (0 : Int32) = 1) ∧ Q (some (.inl (0 : Int32))) S)) ∧ ((S.I 33 x0) = 0 → (((1 : Int32) = 0 ∨ (1 : Int32) = 1) ∧ Q (some (.inl (1 : Int32))) S))))) ∧ (¬ Int32.toInt x1 = 83 → ((Int32.toInt x1 = 87 → (ox_has (S.K x0) 33 = true ∧ (((S.I 33 x0) ≤ 0 → (((0 : Int32) = 0 ∨ (0 : Int32) = 1) ∧ Q (some (.inl (0 : Int32))) S)) ∧ (¬ (S.I 33 x0) ≤ 0 → (ox_has (S.K x0) 32 = true ∧ (ox_has (S.K x0) 33 = true ∧ (4 ≤ 4 ∧ S.K x0 = 6 ∧ 0 ≤ 8 ∧ ∃ mc15 mk16, mc15 ≤ mr ∧ mk16 ≤ sr ∧ E 35 [.inr (.inr (x0)), .inl (x3), .inl (S.I 32 x0), .inl ((S.I 33 x0) - 1)] mc15 mk16 S (k_33_268 E x0 x1 x2 x3 (mr - mc15) (sr - mk16) Q)))))))) ∧ (¬ Int32.toInt x1 = 87 → ((Int32.toInt x1 = 93 → (ox_has (S.K x0) 32 = true ∧ (ox_has (S.K x0) 33 = true ∧ (4 ≤ 4 ∧ S.K x0 = 6 ∧ 0 ≤ 8 ∧ ∃ mc13 mk14, mc13 ≤ mr ∧ mk14 ≤ sr ∧ E 35 [.inr (.inr (x0)), .inl (x3 + x2), .inl ((S.I 32 x0) - 2), .inl (S.I 33 x0)] mc13 mk14 S (k_33_184 E x0 x1 x2 x3 (mr - mc13) (sr - mk14) Q))))) ∧ (¬ Int32.toInt x1 = 93 → ((Int32.toInt x1 = 110 → (ox_has (S.K x0) 32 = true ∧ (ox_has (S.K x0) 33 = true ∧ (4 ≤ 4 ∧ S.K x0 = 6 ∧ 0 ≤ 8 ∧ ∃ mc11 mk12, mc11 ≤ mr ∧ mk12 ≤ sr ∧ E 35 [.inr (.inr (x0)), .inl (x3 + x2), .inl (S.I 32 x0), .inl (S.I 33 x0)] mc11 mk12 S (k_33_114 E x0 x1 x2 x3 (mr - mc11) (sr - mk12) Q))))) ∧ (¬ Int32.toInt x1 = 110 → ((Int32.toInt x1 = 113 → (ox_has (S.K x0) 32 = true ∧ (ox_has (S.K x0) 33 = true ∧ (4 ≤ 4 ∧ S.K x0 = 6 ∧ 0 ≤ 8 ∧ ∃ mc9 mk10, mc9 ≤ mr ∧ mk10 ≤ sr ∧ E 35 [.inr (.inr (x0)), .inl (x2), .inl (S.I 32 x0), .inl (S.I 33 x0)] mc9 mk10 S (k_33_128 E x0 x1 x2 x3 (mr - mc9) (sr - mk10) Q))))) ∧ (¬ Int32.toInt x1 = 113 → ((Int32.toInt x1 = 114 → (ox_has (S.K x0) 32 = true ∧ (ox_has (S.K x0) 33 = true ∧ (4 ≤ 4 ∧ S.K x0 = 6 ∧ 0 ≤ 8 ∧ ∃ mc7 mk8, mc7 ≤ mr ∧ mk8 ≤ sr ∧ E 35 [.inr (.inr (x0)), .inl (x2), .inl (S.I 32 x0), .inl (S.I 33 x0)] mc7 mk8 S (k_33_142 E x0 x1 x2 x3 (mr - mc7) (sr - mk8) Q))))) ∧ (¬ Int32.toInt x1 = 114 → ((Int32.toInt x1 = 115 → (ox_has (S.K x0) 32 = true ∧ (ox_has (S.K x0) 33 = true ∧ (4 ≤ 4 ∧ S.K x0 = 6 ∧ 0 ≤ 8 ∧ ∃ mc5 mk6, mc5 ≤ mr ∧ mk6 ≤ sr ∧ E 35 [.inr (.inr (x0)), .inl (x2), .inl (S.I 32 x0), .inl (S.I 33 x0)] mc5 mk6 S (k_33_142 E x0 x1 x2 x3 (mr - mc5) (sr - mk6) Q))))) ∧ (¬ Int32.toInt x1 = 115 → ((Int32.toInt x1 = 122 → (ox_has (S.K x0) 32 = true ∧ (ox_has (S.K x0) 33 = true ∧ (4 ≤ 4 ∧ S.K x0 = 6 ∧ 0 ≤ 8 ∧ ∃ mc3 mk4, mc3 ≤ mr ∧ mk4 ≤ sr ∧ E 35 [.inr (.inr (x0)), .inl (x3 + x2), .inl ((S.I 32 x0) + 1), .inl (S.I 33 x0)] mc3 mk4 S (k_33_226 E x0 x1 x2 x3 (mr - mc3) (sr - mk4) Q))))) ∧ (¬ Int32.toInt x1 = 122 → ((Int32.toInt x1 = 130 → (((1 : Int32) = 0 ∨ (1 : Int32) = 1) ∧ Q (some (.inl (1 : Int32))) S)) ∧ (¬ Int32.toInt x1 = 130 → (ox_has (S.K x0) 32 = true ∧ (ox_has (S.K x0) 33 = true ∧ (4 ≤ 4 ∧ S.K x0 = 6 ∧ 0 ≤ 8 ∧ ∃ mc1 mk2, mc1 ≤ mr ∧ mk2 ≤ sr ∧ E 35 [.inr (.inr (x0)), .inl (x3), .inl (S.I 32 x0), .inl (S.I 33 x0)] mc1 mk2 S (k_33_290 E x0 x1 x2 x3 (mr - mc1) (sr - mk2) Q))))))))))))))))))))))
set_option maxRecDepth 20000 in
set_option maxHeartbeats 4000000 in
theorem f_33 {sp : ox_E} (hsp : ox_mono sp) {d : Nat} {mr sr : Nat} {x0 : Nat} {x1 : Int32} {x2 : Int32} {x3 : Int32} {S : ox_St} {Q : ox_Q} (h : q_33 (ox_M sp d) x0 x1 x2 x3 S mr sr Q) : ox_M sp (d + 1) 33 [.inr (.inr (x0)), .inl (x1), .inl (x2), .inl (x3)] mr sr S Q := Or.inr ⟨Nat.le_of_ble_eq_true rfl, ox_C_fold (ox_M_mono hsp d) h⟩
/-! OpcodeFrames$Looker.goOnInBlock(II)Z -/
def k_34_48 (E : ox_E) (x0 : Nat) (x1 : Int32) (x2 : Int32) (mr sr : Nat) (Q : ox_Q) : ox_Q := fun r_ T_ => ox_C E (ox_mi 34).2.2.2.1 (ox_mc 34) (ox_cut 34) Q 48 [some (.inr (.inr (x0))), some (.inl (x1)), some (.inl (x2))] (r_.toList ++ []) T_ mr sr
set_option maxRecDepth 20000 in
def q_34_48 (E : ox_E) (x0 : Nat) (x1 : Int32) (x2 : Int32) (y0 : Int32) (S : ox_St) (mr sr : Nat) (Q : ox_Q) : Prop :=
  ((y0 = 0 ∨ y0 = 1) ∧ Q (some (.inl y0)) S)
set_option maxRecDepth 20000 in
set_option maxHeartbeats 4000000 in
theorem f_34_48 {E : ox_E} (hE : ox_mono E) {mr sr : Nat} {x0 : Nat} {x1 : Int32} {x2 : Int32} {y0 : Int32} {S : ox_St} {Q : ox_Q} (h : q_34_48 E x0 x1 x2 y0 S mr sr Q) : k_34_48 E x0 x1 x2 mr sr Q (some (.inl (y0))) S := ox_C_fold hE h
set_option maxRecDepth 20000 in
def q_34 (E : ox_E) (x0 : Nat) (x1 : Int32) (x2 : Int32) (S : ox_St) (mr sr : Nat) (Q : ox_Q) : Prop :=
  (ox_has (S.K x0) 33 = true ∧ (((S.I 33 x0) < 4 → (ox_has (S.K x0) 30 = true ∧ (ox_has (S.K x0) 33 = true ∧ (ox_has (S.K x0) 32 = true ∧ (S.K (S.R 30 x0) = 15 ∧ vp_in (S.I 33 x0) (S.len (S.R 30 x0)) ∧ (let S1 := S.wI (S.R 30 x0) (Int32.toNatClampNeg (S.I 33 x0)) (S.I 32 x0)
  (ox_has (S1.K x0) 31 = true ∧ (ox_has (S1.K x0) 33 = true ∧ (S1.K (S1.R 31 x0) = 15 ∧ vp_in (S1.I 33 x0) (S1.len (S1.R 31 x0)) ∧ (let S2 := S1.wI (S1.R 31 x0) (Int32.toNatClampNeg (S1.I 33 x0)) x1
  (ox_has (S2.K x0) 32 = true ∧ (ox_has (S2.K x0) 33 = true ∧ (4 ≤ 4 ∧ S2.K x0 = 6 ∧ 0 ≤ 8 ∧ ∃ mc3 mk4, mc3 ≤ mr ∧ mk4 ≤ sr ∧ E 35 [.inr (.inr (x0)), .inl (x2), .inl (S2.I 32 x0), .inl ((S2.I 33 x0) + 1)] mc3 mk4 S2 (k_34_48 E x0 x1 x2 (mr - mc3) (sr - mk4) Q)))))))))))))) ∧ (¬ (S.I 33 x0) < 4 → (((0 : Int32) = 0 ∨ (0 : Int32) = 1) ∧ Q (some (.inl (0 : Int32))) S))))
set_option maxRecDepth 20000 in
set_option maxHeartbeats 4000000 in
theorem f_34 {sp : ox_E} (hsp : ox_mono sp) {d : Nat} {mr sr : Nat} {x0 : Nat} {x1 : Int32} {x2 : Int32} {S : ox_St} {Q : ox_Q} (h : q_34 (ox_M sp d) x0 x1 x2 S mr sr Q) : ox_M sp (d + 1) 34 [.inr (.inr (x0)), .inl (x1), .inl (x2)] mr sr S Q := Or.inr ⟨Nat.le_of_ble_eq_true rfl, ox_C_fold (ox_M_mono hsp d) h⟩
/-! OpcodeFrames$Looker.comeTo(III)Z -/
def k_35_32 (E : ox_E) (x0 : Nat) (x1 : Int32) (x2 : Int32) (x3 : Int32) (mr sr : Nat) (Q : ox_Q) : ox_Q := fun r_ T_ => ox_C E (ox_mi 35).2.2.2.1 (ox_mc 35) (ox_cut 35) Q 32 [some (.inr (.inr (x0))), some (.inl (x1)), some (.inl (x2)), some (.inl (x3)), none] (r_.toList ++ []) T_ mr sr
def k_35_84 (E : ox_E) (x0 : Nat) (x1 : Int32) (x2 : Int32) (x3 : Int32) (x4 : Int32) (mr sr : Nat) (Q : ox_Q) : ox_Q := fun r_ T_ => ox_C E (ox_mi 35).2.2.2.1 (ox_mc 35) (ox_cut 35) Q 84 [some (.inr (.inr (x0))), some (.inl (x1)), some (.inl (x2)), some (.inl (x3)), some (.inl (x4))] (r_.toList ++ []) T_ mr sr
def k_35_104 (E : ox_E) (x0 : Nat) (x1 : Int32) (x2 : Int32) (x3 : Int32) (x4 : Int32) (mr sr : Nat) (Q : ox_Q) : ox_Q := fun r_ T_ => ox_C E (ox_mi 35).2.2.2.1 (ox_mc 35) (ox_cut 35) Q 104 [some (.inr (.inr (x0))), some (.inl (x1)), some (.inl (x2)), some (.inl (x3)), some (.inl (x4))] (r_.toList ++ []) T_ mr sr
set_option maxRecDepth 20000 in
def q_35_104 (E : ox_E) (x0 : Nat) (x1 : Int32) (x2 : Int32) (x3 : Int32) (x4 : Int32) (y0 : Int32) (S : ox_St) (mr sr : Nat) (Q : ox_Q) : Prop :=
  ((y0 = 0 → (((0 : Int32) = 0 ∨ (0 : Int32) = 1) ∧ Q (some (.inl (0 : Int32))) S)) ∧ (¬ y0 = 0 → (((1 : Int32) = 0 ∨ (1 : Int32) = 1) ∧ Q (some (.inl (1 : Int32))) S)))
set_option maxRecDepth 20000 in
set_option maxHeartbeats 4000000 in
theorem f_35_104 {E : ox_E} (hE : ox_mono E) {mr sr : Nat} {x0 : Nat} {x1 : Int32} {x2 : Int32} {x3 : Int32} {x4 : Int32} {y0 : Int32} {S : ox_St} {Q : ox_Q} (h : q_35_104 E x0 x1 x2 x3 x4 y0 S mr sr Q) : k_35_104 E x0 x1 x2 x3 x4 mr sr Q (some (.inl (y0))) S := ox_C_fold hE h
set_option maxRecDepth 20000 in
def q_35_84 (E : ox_E) (x0 : Nat) (x1 : Int32) (x2 : Int32) (x3 : Int32) (x4 : Int32) (S : ox_St) (mr sr : Nat) (Q : ox_Q) : Prop :=
  (((1 : Int32) = 0 ∨ (1 : Int32) = 1) ∧ Q (some (.inl (1 : Int32))) S)
set_option maxRecDepth 20000 in
set_option maxHeartbeats 4000000 in
theorem f_35_84 {E : ox_E} (hE : ox_mono E) {mr sr : Nat} {x0 : Nat} {x1 : Int32} {x2 : Int32} {x3 : Int32} {x4 : Int32} {S : ox_St} {Q : ox_Q} (h : q_35_84 E x0 x1 x2 x3 x4 S mr sr Q) : k_35_84 E x0 x1 x2 x3 x4 mr sr Q none S := ox_C_fold hE h
set_option maxRecDepth 20000 in
def q_35_32 (E : ox_E) (x0 : Nat) (x1 : Int32) (x2 : Int32) (x3 : Int32) (y0 : Int32) (S : ox_St) (mr sr : Nat) (Q : ox_Q) : Prop :=
  ((y0 = 144 → (((0 : Int32) = 0 ∨ (0 : Int32) = 1) ∧ Q (some (.inl (0 : Int32))) S)) ∧ (¬ y0 = 144 → (ox_has (S.K x0) 29 = true ∧ (ox_has (S.K (S.R 29 x0)) 9 = true ∧ ((x2 ≤ (S.I 9 (S.R 29 x0)) → (¬ (2 : Int32) = 0 ∧ (let w1 : Int32 := x1 / 2
  ((w1 < 80 → (ox_has (S.K x0) 23 = true ∧ (ox_rdI (S.K (S.R 23 x0)) = true ∧ vp_in w1 (S.len (S.R 23 x0)) ∧ ((¬ (S.rI (S.R 23 x0) (Int32.toNatClampNeg w1)) = (-1) → (ox_has (S.K x0) 23 = true ∧ (ox_rdI (S.K (S.R 23 x0)) = true ∧ vp_in w1 (S.len (S.R 23 x0)) ∧ ((¬ (S.rI (S.R 23 x0) (Int32.toNatClampNeg w1)) = x2 → (((0 : Int32) = 0 ∨ (0 : Int32) = 1) ∧ Q (some (.inl (0 : Int32))) S)) ∧ ((S.rI (S.R 23 x0) (Int32.toNatClampNeg w1)) = x2 → (3 ≤ 3 ∧ S.K x0 = 6 ∧ 0 ≤ 8 ∧ ∃ mc2 mk3, mc2 ≤ mr ∧ mk3 ≤ sr ∧ E 37 [.inr (.inr (x0)), .inl (w1), .inl (x3)] mc2 mk3 S (k_35_104 E x0 x1 x2 x3 w1 (mr - mc2) (sr - mk3) Q))))))) ∧ ((S.rI (S.R 23 x0) (Int32.toNatClampNeg w1)) = (-1) → (4 ≤ 4 ∧ S.K x0 = 6 ∧ 0 ≤ 8 ∧ ∃ mc4 mk5, mc4 ≤ mr ∧ mk5 ≤ sr ∧ E 36 [.inr (.inr (x0)), .inl (w1), .inl (x2), .inl (x3)] mc4 mk5 S (k_35_84 E x0 x1 x2 x3 w1 (mr - mc4) (sr - mk5) Q))))))) ∧ (¬ w1 < 80 → (((0 : Int32) = 0 ∨ (0 : Int32) = 1) ∧ Q (some (.inl (0 : Int32))) S)))))) ∧ (¬ x2 ≤ (S.I 9 (S.R 29 x0)) → (((0 : Int32) = 0 ∨ (0 : Int32) = 1) ∧ Q (some (.inl (0 : Int32))) S)))))))
set_option maxRecDepth 20000 in
set_option maxHeartbeats 4000000 in
theorem f_35_32 {E : ox_E} (hE : ox_mono E) {mr sr : Nat} {x0 : Nat} {x1 : Int32} {x2 : Int32} {x3 : Int32} {y0 : Int32} {S : ox_St} {Q : ox_Q} (h : q_35_32 E x0 x1 x2 x3 y0 S mr sr Q) : k_35_32 E x0 x1 x2 x3 mr sr Q (some (.inl (y0))) S := ox_C_fold hE h
set_option maxRecDepth 20000 in
def q_35 (E : ox_E) (x0 : Nat) (x1 : Int32) (x2 : Int32) (x3 : Int32) (S : ox_St) (mr sr : Nat) (Q : ox_Q) : Prop :=
  ((x1 < 0 → (((0 : Int32) = 0 ∨ (0 : Int32) = 1) ∧ Q (some (.inl (0 : Int32))) S)) ∧ (¬ x1 < 0 → (ox_has (S.K x0) 29 = true ∧ (ox_has (S.K (S.R 29 x0)) 10 = true ∧ (ox_rdL (S.K (S.R 10 (S.R 29 x0))) = true ∧ (((Int32.ofNat (S.len (S.R 10 (S.R 29 x0)))) ≤ x1 → (((0 : Int32) = 0 ∨ (0 : Int32) = 1) ∧ Q (some (.inl (0 : Int32))) S)) ∧ (¬ (Int32.ofNat (S.len (S.R 10 (S.R 29 x0)))) ≤ x1 → (¬ (2 : Int32) = 0 ∧ ((¬ (x1 - x1 / 2 * 2) = 0 → (((0 : Int32) = 0 ∨ (0 : Int32) = 1) ∧ Q (some (.inl (0 : Int32))) S)) ∧ ((x1 - x1 / 2 * 2) = 0 → (ox_has (S.K x0) 29 = true ∧ (2 ≤ 2 ∧ S.K (S.R 29 x0) = 3 ∧ 0 ≤ 8 ∧ ∃ mc1 mk2, mc1 ≤ mr ∧ mk2 ≤ sr ∧ E 16 [.inr (.inr (S.R 29 x0)), .inl (x1 - 2)] mc1 mk2 S (k_35_32 E x0 x1 x2 x3 (mr - mc1) (sr - mk2) Q)))))))))))))
set_option maxRecDepth 20000 in
set_option maxHeartbeats 4000000 in
theorem f_35 {sp : ox_E} (hsp : ox_mono sp) {d : Nat} {mr sr : Nat} {x0 : Nat} {x1 : Int32} {x2 : Int32} {x3 : Int32} {S : ox_St} {Q : ox_Q} (h : q_35 (ox_M sp d) x0 x1 x2 x3 S mr sr Q) : ox_M sp (d + 1) 35 [.inr (.inr (x0)), .inl (x1), .inl (x2), .inl (x3)] mr sr S Q := Or.inr ⟨Nat.le_of_ble_eq_true rfl, ox_C_fold (ox_M_mono hsp d) h⟩
/-! OpcodeFrames$Looker.note(III)V -/
def c_36_17 (E : ox_E) (x0 : Nat) (x1 : Int32) (x2 : Int32) (x3 : Int32) (x4 : Int32) (S : ox_St) (mr sr : Nat) (Q : ox_Q) : Prop := ox_C E (ox_mi 36).2.2.2.1 (ox_mc 36) (ox_cut 36) Q 17 [some (.inr (.inr (x0))), some (.inl (x1)), some (.inl (x2)), some (.inl (x3)), some (.inl (x4))] [] S mr sr
set_option maxRecDepth 20000 in
def q_36_17 (E : ox_E) (x0 : Nat) (x1 : Int32) (x2 : Int32) (x3 : Int32) (x4 : Int32) (S : ox_St) (mr sr : Nat) (Q : ox_Q) : Prop :=
  ((x3 ≤ x4 → (ox_has (S.K x0) 28 = true ∧ (((80 : Int32) ≤ (S.I 28 x0) → ((ox_mi 36).2.2.2.1 = none ∧ Q none S)) ∧ (¬ (80 : Int32) ≤ (S.I 28 x0) → (ox_has (S.K x0) 27 = true ∧ (ox_has (S.K x0) 28 = true ∧ (S.K (S.R 27 x0) = 15 ∧ vp_in (S.I 28 x0) (S.len (S.R 27 x0)) ∧ (let S1 := S.wI (S.R 27 x0) (Int32.toNatClampNeg (S.I 28 x0)) (x1 * 2)
  (ox_has (S1.K x0) 28 = true ∧ (ox_has (S1.K x0) 28 = true ∧ (let S2 := S1.sI 28 x0 ((S1.I 28 x0) + 1)
  ((ox_mi 36).2.2.2.1 = none ∧ Q none S2)))))))))))) ∧ (¬ x3 ≤ x4 → (((4 : Int32) ≤ x4 → (ox_has (S.K x0) 28 = true ∧ (((80 : Int32) ≤ (S.I 28 x0) → ((ox_mi 36).2.2.2.1 = none ∧ Q none S)) ∧ (¬ (80 : Int32) ≤ (S.I 28 x0) → (ox_has (S.K x0) 27 = true ∧ (ox_has (S.K x0) 28 = true ∧ (S.K (S.R 27 x0) = 15 ∧ vp_in (S.I 28 x0) (S.len (S.R 27 x0)) ∧ (let S3 := S.wI (S.R 27 x0) (Int32.toNatClampNeg (S.I 28 x0)) (x1 * 2)
  (ox_has (S3.K x0) 28 = true ∧ (ox_has (S3.K x0) 28 = true ∧ (let S4 := S3.sI 28 x0 ((S3.I 28 x0) + 1)
  ((ox_mi 36).2.2.2.1 = none ∧ Q none S4)))))))))))) ∧ (¬ (4 : Int32) ≤ x4 → (ox_has (S.K x0) 25 = true ∧ (ox_has (S.K x0) 30 = true ∧ (ox_rdI (S.K (S.R 30 x0)) = true ∧ vp_in x4 (S.len (S.R 30 x0)) ∧ (S.K (S.R 25 x0) = 15 ∧ vp_in ((x1 * 4) + x4) (S.len (S.R 25 x0)) ∧ (let S5 := S.wI (S.R 25 x0) (Int32.toNatClampNeg ((x1 * 4) + x4)) (S.rI (S.R 30 x0) (Int32.toNatClampNeg x4))
  (ox_has (S5.K x0) 26 = true ∧ (ox_has (S5.K x0) 31 = true ∧ (ox_rdI (S5.K (S5.R 31 x0)) = true ∧ vp_in x4 (S5.len (S5.R 31 x0)) ∧ (S5.K (S5.R 26 x0) = 15 ∧ vp_in ((x1 * 4) + x4) (S5.len (S5.R 26 x0)) ∧ (let S6 := S5.wI (S5.R 26 x0) (Int32.toNatClampNeg ((x1 * 4) + x4)) (S5.rI (S5.R 31 x0) (Int32.toNatClampNeg x4))
  c_36_17 E x0 x1 x2 x3 (x4 + 1) S6 mr sr Q))))))))))))))
set_option maxRecDepth 20000 in
set_option maxHeartbeats 4000000 in
theorem f_36_17 {E : ox_E} (hE : ox_mono E) {mr sr : Nat} {x0 : Nat} {x1 : Int32} {x2 : Int32} {x3 : Int32} {x4 : Int32} {S : ox_St} {Q : ox_Q} (h : q_36_17 E x0 x1 x2 x3 x4 S mr sr Q) : c_36_17 E x0 x1 x2 x3 x4 S mr sr Q := ox_C_fold hE h
set_option maxRecDepth 20000 in
def q_36 (E : ox_E) (x0 : Nat) (x1 : Int32) (x2 : Int32) (x3 : Int32) (S : ox_St) (mr sr : Nat) (Q : ox_Q) : Prop :=
  (ox_has (S.K x0) 23 = true ∧ (S.K (S.R 23 x0) = 15 ∧ vp_in x1 (S.len (S.R 23 x0)) ∧ (let S1 := S.wI (S.R 23 x0) (Int32.toNatClampNeg x1) x2
  (ox_has (S1.K x0) 24 = true ∧ (S1.K (S1.R 24 x0) = 15 ∧ vp_in x1 (S1.len (S1.R 24 x0)) ∧ (let S2 := S1.wI (S1.R 24 x0) (Int32.toNatClampNeg x1) x3
  c_36_17 E x0 x1 x2 x3 0 S2 mr sr Q))))))
set_option maxRecDepth 20000 in
set_option maxHeartbeats 4000000 in
theorem f_36 {sp : ox_E} (hsp : ox_mono sp) {d : Nat} {mr sr : Nat} {x0 : Nat} {x1 : Int32} {x2 : Int32} {x3 : Int32} {S : ox_St} {Q : ox_Q} (h : q_36 (ox_M sp d) x0 x1 x2 x3 S mr sr Q) : ox_M sp (d + 1) 36 [.inr (.inr (x0)), .inl (x1), .inl (x2), .inl (x3)] mr sr S Q := Or.inr ⟨Nat.le_of_ble_eq_true rfl, ox_C_fold (ox_M_mono hsp d) h⟩
/-! OpcodeFrames$Looker.hasBlocks(II)Z -/
def c_37_19 (E : ox_E) (x0 : Nat) (x1 : Int32) (x2 : Int32) (x3 : Int32) (x4 : Int32) (S : ox_St) (mr sr : Nat) (Q : ox_Q) : Prop := ox_C E (ox_mi 37).2.2.2.1 (ox_mc 37) (ox_cut 37) Q 19 [some (.inr (.inr (x0))), some (.inl (x1)), some (.inl (x2)), some (.inl (x3)), some (.inl (x4))] [] S mr sr
set_option maxRecDepth 20000 in
def q_37_19 (E : ox_E) (x0 : Nat) (x1 : Int32) (x2 : Int32) (x3 : Int32) (x4 : Int32) (S : ox_St) (mr sr : Nat) (Q : ox_Q) : Prop :=
  ((x3 = 0 → ((x3 = 0 ∨ x3 = 1) ∧ Q (some (.inl x3)) S)) ∧ (¬ x3 = 0 → ((x2 ≤ x4 → ((x3 = 0 ∨ x3 = 1) ∧ Q (some (.inl x3)) S)) ∧ (¬ x2 ≤ x4 → (((4 : Int32) ≤ x4 → ((x3 = 0 ∨ x3 = 1) ∧ Q (some (.inl x3)) S)) ∧ (¬ (4 : Int32) ≤ x4 → (ox_has (S.K x0) 25 = true ∧ (ox_rdI (S.K (S.R 25 x0)) = true ∧ vp_in ((x1 * 4) + x4) (S.len (S.R 25 x0)) ∧ (ox_has (S.K x0) 30 = true ∧ (ox_rdI (S.K (S.R 30 x0)) = true ∧ vp_in x4 (S.len (S.R 30 x0)) ∧ ((¬ (S.rI (S.R 25 x0) (Int32.toNatClampNeg ((x1 * 4) + x4))) = (S.rI (S.R 30 x0) (Int32.toNatClampNeg x4)) → c_37_19 E x0 x1 x2 0 (x4 + 1) S mr sr Q) ∧ ((S.rI (S.R 25 x0) (Int32.toNatClampNeg ((x1 * 4) + x4))) = (S.rI (S.R 30 x0) (Int32.toNatClampNeg x4)) → (ox_has (S.K x0) 26 = true ∧ (ox_rdI (S.K (S.R 26 x0)) = true ∧ vp_in ((x1 * 4) + x4) (S.len (S.R 26 x0)) ∧ (ox_has (S.K x0) 31 = true ∧ (ox_rdI (S.K (S.R 31 x0)) = true ∧ vp_in x4 (S.len (S.R 31 x0)) ∧ ((¬ (S.rI (S.R 26 x0) (Int32.toNatClampNeg ((x1 * 4) + x4))) = (S.rI (S.R 31 x0) (Int32.toNatClampNeg x4)) → c_37_19 E x0 x1 x2 0 (x4 + 1) S mr sr Q) ∧ ((S.rI (S.R 26 x0) (Int32.toNatClampNeg ((x1 * 4) + x4))) = (S.rI (S.R 31 x0) (Int32.toNatClampNeg x4)) → c_37_19 E x0 x1 x2 1 (x4 + 1) S mr sr Q))))))))))))))))))
set_option maxRecDepth 20000 in
set_option maxHeartbeats 4000000 in
theorem f_37_19 {E : ox_E} (hE : ox_mono E) {mr sr : Nat} {x0 : Nat} {x1 : Int32} {x2 : Int32} {x3 : Int32} {x4 : Int32} {S : ox_St} {Q : ox_Q} (h : q_37_19 E x0 x1 x2 x3 x4 S mr sr Q) : c_37_19 E x0 x1 x2 x3 x4 S mr sr Q := ox_C_fold hE h
set_option maxRecDepth 20000 in
def q_37 (E : ox_E) (x0 : Nat) (x1 : Int32) (x2 : Int32) (S : ox_St) (mr sr : Nat) (Q : ox_Q) : Prop :=
  (ox_has (S.K x0) 24 = true ∧ (ox_rdI (S.K (S.R 24 x0)) = true ∧ vp_in x1 (S.len (S.R 24 x0)) ∧ ((¬ (S.rI (S.R 24 x0) (Int32.toNatClampNeg x1)) = x2 → c_37_19 E x0 x1 x2 0 0 S mr sr Q) ∧ ((S.rI (S.R 24 x0) (Int32.toNatClampNeg x1)) = x2 → c_37_19 E x0 x1 x2 1 0 S mr sr Q))))
set_option maxRecDepth 20000 in
set_option maxHeartbeats 4000000 in
theorem f_37 {sp : ox_E} (hsp : ox_mono sp) {d : Nat} {mr sr : Nat} {x0 : Nat} {x1 : Int32} {x2 : Int32} {S : ox_St} {Q : ox_Q} (h : q_37 (ox_M sp d) x0 x1 x2 S mr sr Q) : ox_M sp (d + 1) 37 [.inr (.inr (x0)), .inl (x1), .inl (x2)] mr sr S Q := Or.inr ⟨Nat.le_of_ble_eq_true rfl, ox_C_fold (ox_M_mono hsp d) h⟩
/-! OpcodeFrames$Looker.argumentIsThere(II)Z -/
set_option maxRecDepth 20000 in
def q_38 (E : ox_E) (x0 : Nat) (x1 : Int32) (x2 : Int32) (S : ox_St) (mr sr : Nat) (Q : ox_Q) : Prop :=
  ((Int32.toInt x1 = 90 → (ox_has (S.K x0) 29 = true ∧ (ox_has (S.K (S.R 29 x0)) 12 = true ∧ (ox_rdL (S.K (S.R 12 (S.R 29 x0))) = true ∧ (((Int32.ofNat (S.len (S.R 12 (S.R 29 x0)))) ≤ x2 → (((0 : Int32) = 0 ∨ (0 : Int32) = 1) ∧ Q (some (.inl (0 : Int32))) S)) ∧ (¬ (Int32.ofNat (S.len (S.R 12 (S.R 29 x0)))) ≤ x2 → (((1 : Int32) = 0 ∨ (1 : Int32) = 1) ∧ Q (some (.inl (1 : Int32))) S))))))) ∧ (¬ Int32.toInt x1 = 90 → ((Int32.toInt x1 = 91 → (((1 : Int32) = 0 ∨ (1 : Int32) = 1) ∧ Q (some (.inl (1 : Int32))) S)) ∧ (¬ Int32.toInt x1 = 91 → ((Int32.toInt x1 = 92 → (((10 : Int32) < x2 → (((0 : Int32) = 0 ∨ (0 : Int32) = 1) ∧ Q (some (.inl (0 : Int32))) S)) ∧ (¬ (10 : Int32) < x2 → (((1 : Int32) = 0 ∨ (1 : Int32) = 1) ∧ Q (some (.inl (1 : Int32))) S)))) ∧ (¬ Int32.toInt x1 = 92 → ((Int32.toInt x1 = 93 → (((1 : Int32) = 0 ∨ (1 : Int32) = 1) ∧ Q (some (.inl (1 : Int32))) S)) ∧ (¬ Int32.toInt x1 = 93 → ((Int32.toInt x1 = 94 → (((1 : Int32) = 0 ∨ (1 : Int32) = 1) ∧ Q (some (.inl (1 : Int32))) S)) ∧ (¬ Int32.toInt x1 = 94 → ((Int32.toInt x1 = 95 → (((1 : Int32) = 0 ∨ (1 : Int32) = 1) ∧ Q (some (.inl (1 : Int32))) S)) ∧ (¬ Int32.toInt x1 = 95 → ((Int32.toInt x1 = 96 → (((1 : Int32) = 0 ∨ (1 : Int32) = 1) ∧ Q (some (.inl (1 : Int32))) S)) ∧ (¬ Int32.toInt x1 = 96 → ((Int32.toInt x1 = 97 → (((1 : Int32) = 0 ∨ (1 : Int32) = 1) ∧ Q (some (.inl (1 : Int32))) S)) ∧ (¬ Int32.toInt x1 = 97 → ((Int32.toInt x1 = 98 → (((1 : Int32) = 0 ∨ (1 : Int32) = 1) ∧ Q (some (.inl (1 : Int32))) S)) ∧ (¬ Int32.toInt x1 = 98 → ((Int32.toInt x1 = 99 → (((1 : Int32) = 0 ∨ (1 : Int32) = 1) ∧ Q (some (.inl (1 : Int32))) S)) ∧ (¬ Int32.toInt x1 = 99 → ((Int32.toInt x1 = 100 → (ox_has (S.K x0) 29 = true ∧ (ox_has (S.K (S.R 29 x0)) 11 = true ∧ (ox_rdL (S.K (S.R 11 (S.R 29 x0))) = true ∧ (((Int32.ofNat (S.len (S.R 11 (S.R 29 x0)))) ≤ x2 → (((0 : Int32) = 0 ∨ (0 : Int32) = 1) ∧ Q (some (.inl (0 : Int32))) S)) ∧ (¬ (Int32.ofNat (S.len (S.R 11 (S.R 29 x0)))) ≤ x2 → (((1 : Int32) = 0 ∨ (1 : Int32) = 1) ∧ Q (some (.inl (1 : Int32))) S))))))) ∧ (¬ Int32.toInt x1 = 100 → ((Int32.toInt x1 = 101 → (ox_has (S.K x0) 29 = true ∧ (ox_has (S.K (S.R 29 x0)) 12 = true ∧ (ox_rdL (S.K (S.R 12 (S.R 29 x0))) = true ∧ (((Int32.ofNat (S.len (S.R 12 (S.R 29 x0)))) ≤ x2 → (((0 : Int32) = 0 ∨ (0 : Int32) = 1) ∧ Q (some (.inl (0 : Int32))) S)) ∧ (¬ (Int32.ofNat (S.len (S.R 12 (S.R 29 x0)))) ≤ x2 → (((1 : Int32) = 0 ∨ (1 : Int32) = 1) ∧ Q (some (.inl (1 : Int32))) S))))))) ∧ (¬ Int32.toInt x1 = 101 → ((Int32.toInt x1 = 102 → (((10 : Int32) < x2 → (((0 : Int32) = 0 ∨ (0 : Int32) = 1) ∧ Q (some (.inl (0 : Int32))) S)) ∧ (¬ (10 : Int32) < x2 → (((1 : Int32) = 0 ∨ (1 : Int32) = 1) ∧ Q (some (.inl (1 : Int32))) S)))) ∧ (¬ Int32.toInt x1 = 102 → ((Int32.toInt x1 = 103 → (((1 : Int32) = 0 ∨ (1 : Int32) = 1) ∧ Q (some (.inl (1 : Int32))) S)) ∧ (¬ Int32.toInt x1 = 103 → ((Int32.toInt x1 = 104 → (((1 : Int32) = 0 ∨ (1 : Int32) = 1) ∧ Q (some (.inl (1 : Int32))) S)) ∧ (¬ Int32.toInt x1 = 104 → ((Int32.toInt x1 = 105 → (((1 : Int32) = 0 ∨ (1 : Int32) = 1) ∧ Q (some (.inl (1 : Int32))) S)) ∧ (¬ Int32.toInt x1 = 105 → ((Int32.toInt x1 = 106 → (((1 : Int32) = 0 ∨ (1 : Int32) = 1) ∧ Q (some (.inl (1 : Int32))) S)) ∧ (¬ Int32.toInt x1 = 106 → ((Int32.toInt x1 = 107 → ((x2 ≤ 5 → (((1 : Int32) = 0 ∨ (1 : Int32) = 1) ∧ Q (some (.inl (1 : Int32))) S)) ∧ (¬ x2 ≤ 5 → ((¬ x2 = 10 → (((0 : Int32) = 0 ∨ (0 : Int32) = 1) ∧ Q (some (.inl (0 : Int32))) S)) ∧ (x2 = 10 → (((1 : Int32) = 0 ∨ (1 : Int32) = 1) ∧ Q (some (.inl (1 : Int32))) S)))))) ∧ (¬ Int32.toInt x1 = 107 → ((Int32.toInt x1 = 108 → (((1 : Int32) = 0 ∨ (1 : Int32) = 1) ∧ Q (some (.inl (1 : Int32))) S)) ∧ (¬ Int32.toInt x1 = 108 → ((Int32.toInt x1 = 109 → (((1 : Int32) = 0 ∨ (1 : Int32) = 1) ∧ Q (some (.inl (1 : Int32))) S)) ∧ (¬ Int32.toInt x1 = 109 → ((Int32.toInt x1 = 110 → (((1 : Int32) = 0 ∨ (1 : Int32) = 1) ∧ Q (some (.inl (1 : Int32))) S)) ∧ (¬ Int32.toInt x1 = 110 → ((Int32.toInt x1 = 111 → (((1 : Int32) = 0 ∨ (1 : Int32) = 1) ∧ Q (some (.inl (1 : Int32))) S)) ∧ (¬ Int32.toInt x1 = 111 → ((Int32.toInt x1 = 112 → (((1 : Int32) = 0 ∨ (1 : Int32) = 1) ∧ Q (some (.inl (1 : Int32))) S)) ∧ (¬ Int32.toInt x1 = 112 → ((Int32.toInt x1 = 113 → (((1 : Int32) = 0 ∨ (1 : Int32) = 1) ∧ Q (some (.inl (1 : Int32))) S)) ∧ (¬ Int32.toInt x1 = 113 → ((Int32.toInt x1 = 114 → (((1 : Int32) = 0 ∨ (1 : Int32) = 1) ∧ Q (some (.inl (1 : Int32))) S)) ∧ (¬ Int32.toInt x1 = 114 → ((Int32.toInt x1 = 115 → (((1 : Int32) = 0 ∨ (1 : Int32) = 1) ∧ Q (some (.inl (1 : Int32))) S)) ∧ (¬ Int32.toInt x1 = 115 → ((Int32.toInt x1 = 116 → (((1 : Int32) = 0 ∨ (1 : Int32) = 1) ∧ Q (some (.inl (1 : Int32))) S)) ∧ (¬ Int32.toInt x1 = 116 → ((Int32.toInt x1 = 117 → (((1 : Int32) = 0 ∨ (1 : Int32) = 1) ∧ Q (some (.inl (1 : Int32))) S)) ∧ (¬ Int32.toInt x1 = 117 → ((Int32.toInt x1 = 118 → (((1 : Int32) = 0 ∨ (1 : Int32) = 1) ∧ Q (some (.inl (1 : Int32))) S)) ∧ (¬ Int32.toInt x1 = 118 → ((Int32.toInt x1 = 119 → (((1 : Int32) = 0 ∨ (1 : Int32) = 1) ∧ Q (some (.inl (1 : Int32))) S)) ∧ (¬ Int32.toInt x1 = 119 → ((Int32.toInt x1 = 120 → (((1 : Int32) = 0 ∨ (1 : Int32) = 1) ∧ Q (some (.inl (1 : Int32))) S)) ∧ (¬ Int32.toInt x1 = 120 → ((Int32.toInt x1 = 121 → (((1 : Int32) = 0 ∨ (1 : Int32) = 1) ∧ Q (some (.inl (1 : Int32))) S)) ∧ (¬ Int32.toInt x1 = 121 → ((Int32.toInt x1 = 122 → (((1 : Int32) = 0 ∨ (1 : Int32) = 1) ∧ Q (some (.inl (1 : Int32))) S)) ∧ (¬ Int32.toInt x1 = 122 → ((Int32.toInt x1 = 123 → (((1 : Int32) = 0 ∨ (1 : Int32) = 1) ∧ Q (some (.inl (1 : Int32))) S)) ∧ (¬ Int32.toInt x1 = 123 → ((Int32.toInt x1 = 124 → (ox_has (S.K x0) 29 = true ∧ (ox_has (S.K (S.R 29 x0)) 8 = true ∧ (((S.I 8 (S.R 29 x0)) ≤ x2 → (((0 : Int32) = 0 ∨ (0 : Int32) = 1) ∧ Q (some (.inl (0 : Int32))) S)) ∧ (¬ (S.I 8 (S.R 29 x0)) ≤ x2 → (((1 : Int32) = 0 ∨ (1 : Int32) = 1) ∧ Q (some (.inl (1 : Int32))) S)))))) ∧ (¬ Int32.toInt x1 = 124 → ((Int32.toInt x1 = 125 → (ox_has (S.K x0) 29 = true ∧ (ox_has (S.K (S.R 29 x0)) 8 = true ∧ (((S.I 8 (S.R 29 x0)) ≤ x2 → (((0 : Int32) = 0 ∨ (0 : Int32) = 1) ∧ Q (some (.inl (0 : Int32))) S)) ∧ (¬ (S.I 8 (S.R 29 x0)) ≤ x2 → (((1 : Int32) = 0 ∨ (1 : Int32) = 1) ∧ Q (some (.inl (1 : Int32))) S)))))) ∧ (¬ Int32.toInt x1 = 125 → ((Int32.toInt x1 = 126 → (((1 : Int32) = 0 ∨ (1 : Int32) = 1) ∧ Q (some (.inl (1 : Int32))) S)) ∧ (¬ Int32.toInt x1 = 126 → ((Int32.toInt x1 = 127 → (((1 : Int32) = 0 ∨ (1 : Int32) = 1) ∧ Q (some (.inl (1 : Int32))) S)) ∧ (¬ Int32.toInt x1 = 127 → ((Int32.toInt x1 = 128 → (((1 : Int32) = 0 ∨ (1 : Int32) = 1) ∧ Q (some (.inl (1 : Int32))) S)) ∧ (¬ Int32.toInt x1 = 128 → ((Int32.toInt x1 = 129 → (((1 : Int32) = 0 ∨ (1 : Int32) = 1) ∧ Q (some (.inl (1 : Int32))) S)) ∧ (¬ Int32.toInt x1 = 129 → ((Int32.toInt x1 = 130 → ((¬ x2 = 1 → (((0 : Int32) = 0 ∨ (0 : Int32) = 1) ∧ Q (some (.inl (0 : Int32))) S)) ∧ (x2 = 1 → (((1 : Int32) = 0 ∨ (1 : Int32) = 1) ∧ Q (some (.inl (1 : Int32))) S)))) ∧ (¬ Int32.toInt x1 = 130 → ((Int32.toInt x1 = 131 → (((4 : Int32) < x2 → (((0 : Int32) = 0 ∨ (0 : Int32) = 1) ∧ Q (some (.inl (0 : Int32))) S)) ∧ (¬ (4 : Int32) < x2 → (((1 : Int32) = 0 ∨ (1 : Int32) = 1) ∧ Q (some (.inl (1 : Int32))) S)))) ∧ (¬ Int32.toInt x1 = 131 → ((Int32.toInt x1 = 132 → ((¬ x2 = 0 → (((0 : Int32) = 0 ∨ (0 : Int32) = 1) ∧ Q (some (.inl (0 : Int32))) S)) ∧ (x2 = 0 → (((1 : Int32) = 0 ∨ (1 : Int32) = 1) ∧ Q (some (.inl (1 : Int32))) S)))) ∧ (¬ Int32.toInt x1 = 132 → (((1 : Int32) = 0 ∨ (1 : Int32) = 1) ∧ Q (some (.inl (1 : Int32))) S)))))))))))))))))))))))))))))))))))))))))))))))))))))))))))))))))))))))))))))))))))))))
set_option maxRecDepth 20000 in
set_option maxHeartbeats 4000000 in
theorem f_38 {sp : ox_E} (hsp : ox_mono sp) {d : Nat} {mr sr : Nat} {x0 : Nat} {x1 : Int32} {x2 : Int32} {S : ox_St} {Q : ox_Q} (h : q_38 (ox_M sp d) x0 x1 x2 S mr sr Q) : ox_M sp (d + 1) 38 [.inr (.inr (x0)), .inl (x1), .inl (x2)] mr sr S Q := Or.inr ⟨Nat.le_of_ble_eq_true rfl, ox_C_fold (ox_M_mono hsp d) h⟩
/-! OpcodeFrames$Looker.takes(II)I -/
def c_39_544 (E : ox_E) (x0 : Int32) (x1 : Int32) (S : ox_St) (mr sr : Nat) (Q : ox_Q) : Prop := ox_C E (ox_mi 39).2.2.2.1 (ox_mc 39) (ox_cut 39) Q 544 [some (.inl (x0)), some (.inl (x1))] [] S mr sr
def c_39_546 (E : ox_E) (x0 : Int32) (x1 : Int32) (S : ox_St) (mr sr : Nat) (Q : ox_Q) : Prop := ox_C E (ox_mi 39).2.2.2.1 (ox_mc 39) (ox_cut 39) Q 546 [some (.inl (x0)), some (.inl (x1))] [] S mr sr
def c_39_548 (E : ox_E) (x0 : Int32) (x1 : Int32) (S : ox_St) (mr sr : Nat) (Q : ox_Q) : Prop := ox_C E (ox_mi 39).2.2.2.1 (ox_mc 39) (ox_cut 39) Q 548 [some (.inl (x0)), some (.inl (x1))] [] S mr sr
def c_39_558 (E : ox_E) (x0 : Int32) (x1 : Int32) (S : ox_St) (mr sr : Nat) (Q : ox_Q) : Prop := ox_C E (ox_mi 39).2.2.2.1 (ox_mc 39) (ox_cut 39) Q 558 [some (.inl (x0)), some (.inl (x1))] [] S mr sr
set_option maxRecDepth 20000 in
def q_39_558 (E : ox_E) (x0 : Int32) (x1 : Int32) (S : ox_St) (mr sr : Nat) (Q : ox_Q) : Prop :=
  (True ∧ Q (some (.inl ((-1) : Int32))) S)
set_option maxRecDepth 20000 in
set_option maxHeartbeats 4000000 in
theorem f_39_558 {E : ox_E} (hE : ox_mono E) {mr sr : Nat} {x0 : Int32} {x1 : Int32} {S : ox_St} {Q : ox_Q} (h : q_39_558 E x0 x1 S mr sr Q) : c_39_558 E x0 x1 S mr sr Q := ox_C_fold hE h
set_option maxRecDepth 20000 in
def q_39_548 (E : ox_E) (x0 : Int32) (x1 : Int32) (S : ox_St) (mr sr : Nat) (Q : ox_Q) : Prop :=
  (True ∧ Q (some (.inl (2 : Int32))) S)
set_option maxRecDepth 20000 in
set_option maxHeartbeats 4000000 in
theorem f_39_548 {E : ox_E} (hE : ox_mono E) {mr sr : Nat} {x0 : Int32} {x1 : Int32} {S : ox_St} {Q : ox_Q} (h : q_39_548 E x0 x1 S mr sr Q) : c_39_548 E x0 x1 S mr sr Q := ox_C_fold hE h
set_option maxRecDepth 20000 in
def q_39_546 (E : ox_E) (x0 : Int32) (x1 : Int32) (S : ox_St) (mr sr : Nat) (Q : ox_Q) : Prop :=
  (True ∧ Q (some (.inl (1 : Int32))) S)
set_option maxRecDepth 20000 in
set_option maxHeartbeats 4000000 in
theorem f_39_546 {E : ox_E} (hE : ox_mono E) {mr sr : Nat} {x0 : Int32} {x1 : Int32} {S : ox_St} {Q : ox_Q} (h : q_39_546 E x0 x1 S mr sr Q) : c_39_546 E x0 x1 S mr sr Q := ox_C_fold hE h
set_option maxRecDepth 20000 in
def q_39_544 (E : ox_E) (x0 : Int32) (x1 : Int32) (S : ox_St) (mr sr : Nat) (Q : ox_Q) : Prop :=
  (True ∧ Q (some (.inl (0 : Int32))) S)
set_option maxRecDepth 20000 in
set_option maxHeartbeats 4000000 in
theorem f_39_544 {E : ox_E} (hE : ox_mono E) {mr sr : Nat} {x0 : Int32} {x1 : Int32} {S : ox_St} {Q : ox_Q} (h : q_39_544 E x0 x1 S mr sr Q) : c_39_544 E x0 x1 S mr sr Q := ox_C_fold hE h
set_option maxRecDepth 20000 in
def q_39 (E : ox_E) (x0 : Int32) (x1 : Int32) (S : ox_St) (mr sr : Nat) (Q : ox_Q) : Prop :=
  ((Int32.toInt x0 = 1 → c_39_546 E x0 x1 S mr sr Q) ∧ (¬ Int32.toInt x0 = 1 → ((Int32.toInt x0 = 2 → c_39_548 E x0 x1 S mr sr Q) ∧ (¬ Int32.toInt x0 = 2 → ((Int32.toInt x0 = 3 → (True ∧ Q (some (.inl (3 : Int32))) S)) ∧ (¬ Int32.toInt x0 = 3 → ((Int32.toInt x0 = 4 → c_39_546 E x0 x1 S mr sr Q) ∧ (¬ Int32.toInt x0 = 4 → ((Int32.toInt x0 = 5 → c_39_558 E x0 x1 S mr sr Q) ∧ (¬ Int32.toInt x0 = 5 → ((Int32.toInt x0 = 6 → c_39_558 E x0 x1 S mr sr Q) ∧ (¬ Int32.toInt x0 = 6 → ((Int32.toInt x0 = 7 → c_39_558 E x0 x1 S mr sr Q) ∧ (¬ Int32.toInt x0 = 7 → ((Int32.toInt x0 = 8 → c_39_558 E x0 x1 S mr sr Q) ∧ (¬ Int32.toInt x0 = 8 → ((Int32.toInt x0 = 9 → c_39_558 E x0 x1 S mr sr Q) ∧ (¬ Int32.toInt x0 = 9 → ((Int32.toInt x0 = 10 → c_39_558 E x0 x1 S mr sr Q) ∧ (¬ Int32.toInt x0 = 10 → ((Int32.toInt x0 = 11 → c_39_546 E x0 x1 S mr sr Q) ∧ (¬ Int32.toInt x0 = 11 → ((Int32.toInt x0 = 12 → c_39_546 E x0 x1 S mr sr Q) ∧ (¬ Int32.toInt x0 = 12 → ((Int32.toInt x0 = 13 → c_39_558 E x0 x1 S mr sr Q) ∧ (¬ Int32.toInt x0 = 13 → ((Int32.toInt x0 = 14 → c_39_558 E x0 x1 S mr sr Q) ∧ (¬ Int32.toInt x0 = 14 → ((Int32.toInt x0 = 15 → c_39_558 E x0 x1 S mr sr Q) ∧ (¬ Int32.toInt x0 = 15 → ((Int32.toInt x0 = 16 → c_39_558 E x0 x1 S mr sr Q) ∧ (¬ Int32.toInt x0 = 16 → ((Int32.toInt x0 = 17 → c_39_558 E x0 x1 S mr sr Q) ∧ (¬ Int32.toInt x0 = 17 → ((Int32.toInt x0 = 18 → c_39_558 E x0 x1 S mr sr Q) ∧ (¬ Int32.toInt x0 = 18 → ((Int32.toInt x0 = 19 → c_39_558 E x0 x1 S mr sr Q) ∧ (¬ Int32.toInt x0 = 19 → ((Int32.toInt x0 = 20 → c_39_548 E x0 x1 S mr sr Q) ∧ (¬ Int32.toInt x0 = 20 → ((Int32.toInt x0 = 21 → c_39_558 E x0 x1 S mr sr Q) ∧ (¬ Int32.toInt x0 = 21 → ((Int32.toInt x0 = 22 → c_39_548 E x0 x1 S mr sr Q) ∧ (¬ Int32.toInt x0 = 22 → ((Int32.toInt x0 = 23 → c_39_548 E x0 x1 S mr sr Q) ∧ (¬ Int32.toInt x0 = 23 → ((Int32.toInt x0 = 24 → c_39_548 E x0 x1 S mr sr Q) ∧ (¬ Int32.toInt x0 = 24 → ((Int32.toInt x0 = 25 → c_39_548 E x0 x1 S mr sr Q) ∧ (¬ Int32.toInt x0 = 25 → ((Int32.toInt x0 = 26 → c_39_548 E x0 x1 S mr sr Q) ∧ (¬ Int32.toInt x0 = 26 → ((Int32.toInt x0 = 27 → c_39_558 E x0 x1 S mr sr Q) ∧ (¬ Int32.toInt x0 = 27 → ((Int32.toInt x0 = 28 → c_39_558 E x0 x1 S mr sr Q) ∧ (¬ Int32.toInt x0 = 28 → ((Int32.toInt x0 = 29 → c_39_558 E x0 x1 S mr sr Q) ∧ (¬ Int32.toInt x0 = 29 → ((Int32.toInt x0 = 30 → c_39_558 E x0 x1 S mr sr Q) ∧ (¬ Int32.toInt x0 = 30 → ((Int32.toInt x0 = 31 → c_39_558 E x0 x1 S mr sr Q) ∧ (¬ Int32.toInt x0 = 31 → ((Int32.toInt x0 = 32 → c_39_558 E x0 x1 S mr sr Q) ∧ (¬ Int32.toInt x0 = 32 → ((Int32.toInt x0 = 33 → c_39_558 E x0 x1 S mr sr Q) ∧ (¬ Int32.toInt x0 = 33 → ((Int32.toInt x0 = 34 → c_39_558 E x0 x1 S mr sr Q) ∧ (¬ Int32.toInt x0 = 34 → ((Int32.toInt x0 = 35 → c_39_558 E x0 x1 S mr sr Q) ∧ (¬ Int32.toInt x0 = 35 → ((Int32.toInt x0 = 36 → c_39_558 E x0 x1 S mr sr Q) ∧ (¬ Int32.toInt x0 = 36 → ((Int32.toInt x0 = 37 → c_39_558 E x0 x1 S mr sr Q) ∧ (¬ Int32.toInt x0 = 37 → ((Int32.toInt x0 = 38 → c_39_558 E x0 x1 S mr sr Q) ∧ (¬ Int32.toInt x0 = 38 → ((Int32.toInt x0 = 39 → c_39_558 E x0 x1 S mr sr Q) ∧ (¬ Int32.toInt x0 = 39 → ((Int32.toInt x0 = 40 → c_39_558 E x0 x1 S mr sr Q) ∧ (¬ Int32.toInt x0 = 40 → ((Int32.toInt x0 = 41 → c_39_558 E x0 x1 S mr sr Q) ∧ (¬ Int32.toInt x0 = 41 → ((Int32.toInt x0 = 42 → c_39_558 E x0 x1 S mr sr Q) ∧ (¬ Int32.toInt x0 = 42 → ((Int32.toInt x0 = 43 → c_39_558 E x0 x1 S mr sr Q) ∧ (¬ Int32.toInt x0 = 43 → ((Int32.toInt x0 = 44 → c_39_558 E x0 x1 S mr sr Q) ∧ (¬ Int32.toInt x0 = 44 → ((Int32.toInt x0 = 45 → c_39_558 E x0 x1 S mr sr Q) ∧ (¬ Int32.toInt x0 = 45 → ((Int32.toInt x0 = 46 → c_39_558 E x0 x1 S mr sr Q) ∧ (¬ Int32.toInt x0 = 46 → ((Int32.toInt x0 = 47 → c_39_558 E x0 x1 S mr sr Q) ∧ (¬ Int32.toInt x0 = 47 → ((Int32.toInt x0 = 48 → c_39_558 E x0 x1 S mr sr Q) ∧ (¬ Int32.toInt x0 = 48 → ((Int32.toInt x0 = 49 → c_39_558 E x0 x1 S mr sr Q) ∧ (¬ Int32.toInt x0 = 49 → ((Int32.toInt x0 = 50 → c_39_558 E x0 x1 S mr sr Q) ∧ (¬ Int32.toInt x0 = 50 → ((Int32.toInt x0 = 51 → c_39_558 E x0 x1 S mr sr Q) ∧ (¬ Int32.toInt x0 = 51 → ((Int32.toInt x0 = 52 → c_39_558 E x0 x1 S mr sr Q) ∧ (¬ Int32.toInt x0 = 52 → ((Int32.toInt x0 = 53 → c_39_558 E x0 x1 S mr sr Q) ∧ (¬ Int32.toInt x0 = 53 → ((Int32.toInt x0 = 54 → c_39_558 E x0 x1 S mr sr Q) ∧ (¬ Int32.toInt x0 = 54 → ((Int32.toInt x0 = 55 → c_39_558 E x0 x1 S mr sr Q) ∧ (¬ Int32.toInt x0 = 55 → ((Int32.toInt x0 = 56 → c_39_558 E x0 x1 S mr sr Q) ∧ (¬ Int32.toInt x0 = 56 → ((Int32.toInt x0 = 57 → c_39_558 E x0 x1 S mr sr Q) ∧ (¬ Int32.toInt x0 = 57 → ((Int32.toInt x0 = 58 → c_39_558 E x0 x1 S mr sr Q) ∧ (¬ Int32.toInt x0 = 58 → ((Int32.toInt x0 = 59 → c_39_558 E x0 x1 S mr sr Q) ∧ (¬ Int32.toInt x0 = 59 → ((Int32.toInt x0 = 60 → c_39_558 E x0 x1 S mr sr Q) ∧ (¬ Int32.toInt x0 = 60 → ((Int32.toInt x0 = 61 → c_39_558 E x0 x1 S mr sr Q) ∧ (¬ Int32.toInt x0 = 61 → ((Int32.toInt x0 = 62 → c_39_558 E x0 x1 S mr sr Q) ∧ (¬ Int32.toInt x0 = 62 → ((Int32.toInt x0 = 63 → c_39_558 E x0 x1 S mr sr Q) ∧ (¬ Int32.toInt x0 = 63 → ((Int32.toInt x0 = 64 → c_39_558 E x0 x1 S mr sr Q) ∧ (¬ Int32.toInt x0 = 64 → ((Int32.toInt x0 = 65 → c_39_558 E x0 x1 S mr sr Q) ∧ (¬ Int32.toInt x0 = 65 → ((Int32.toInt x0 = 66 → c_39_558 E x0 x1 S mr sr Q) ∧ (¬ Int32.toInt x0 = 66 → ((Int32.toInt x0 = 67 → c_39_558 E x0 x1 S mr sr Q) ∧ (¬ Int32.toInt x0 = 67 → ((Int32.toInt x0 = 68 → c_39_546 E x0 x1 S mr sr Q) ∧ (¬ Int32.toInt x0 = 68 → ((Int32.toInt x0 = 69 → c_39_558 E x0 x1 S mr sr Q) ∧ (¬ Int32.toInt x0 = 69 → ((Int32.toInt x0 = 70 → c_39_558 E x0 x1 S mr sr Q) ∧ (¬ Int32.toInt x0 = 70 → ((Int32.toInt x0 = 71 → c_39_558 E x0 x1 S mr sr Q) ∧ (¬ Int32.toInt x0 = 71 → ((Int32.toInt x0 = 72 → c_39_558 E x0 x1 S mr sr Q) ∧ (¬ Int32.toInt x0 = 72 → ((Int32.toInt x0 = 73 → c_39_558 E x0 x1 S mr sr Q) ∧ (¬ Int32.toInt x0 = 73 → ((Int32.toInt x0 = 74 → c_39_558 E x0 x1 S mr sr Q) ∧ (¬ Int32.toInt x0 = 74 → ((Int32.toInt x0 = 75 → c_39_558 E x0 x1 S mr sr Q) ∧ (¬ Int32.toInt x0 = 75 → ((Int32.toInt x0 = 76 → c_39_558 E x0 x1 S mr sr Q) ∧ (¬ Int32.toInt x0 = 76 → ((Int32.toInt x0 = 77 → c_39_558 E x0 x1 S mr sr Q) ∧ (¬ Int32.toInt x0 = 77 → ((Int32.toInt x0 = 78 → c_39_558 E x0 x1 S mr sr Q) ∧ (¬ Int32.toInt x0 = 78 → ((Int32.toInt x0 = 79 → c_39_558 E x0 x1 S mr sr Q) ∧ (¬ Int32.toInt x0 = 79 → ((Int32.toInt x0 = 80 → c_39_558 E x0 x1 S mr sr Q) ∧ (¬ Int32.toInt x0 = 80 → ((Int32.toInt x0 = 81 → c_39_558 E x0 x1 S mr sr Q) ∧ (¬ Int32.toInt x0 = 81 → ((Int32.toInt x0 = 82 → c_39_558 E x0 x1 S mr sr Q) ∧ (¬ Int32.toInt x0 = 82 → ((Int32.toInt x0 = 83 → c_39_546 E x0 x1 S mr sr Q) ∧ (¬ Int32.toInt x0 = 83 → ((Int32.toInt x0 = 84 → c_39_558 E x0 x1 S mr sr Q) ∧ (¬ Int32.toInt x0 = 84 → ((Int32.toInt x0 = 85 → c_39_558 E x0 x1 S mr sr Q) ∧ (¬ Int32.toInt x0 = 85 → ((Int32.toInt x0 = 86 → c_39_558 E x0 x1 S mr sr Q) ∧ (¬ Int32.toInt x0 = 86 → ((Int32.toInt x0 = 87 → c_39_544 E x0 x1 S mr sr Q) ∧ (¬ Int32.toInt x0 = 87 → ((Int32.toInt x0 = 88 → c_39_558 E x0 x1 S mr sr Q) ∧ (¬ Int32.toInt x0 = 88 → ((Int32.toInt x0 = 89 → c_39_558 E x0 x1 S mr sr Q) ∧ (¬ Int32.toInt x0 = 89 → ((Int32.toInt x0 = 90 → c_39_546 E x0 x1 S mr sr Q) ∧ (¬ Int32.toInt x0 = 90 → ((Int32.toInt x0 = 91 → c_39_558 E x0 x1 S mr sr Q) ∧ (¬ Int32.toInt x0 = 91 → ((Int32.toInt x0 = 92 → c_39_546 E x0 x1 S mr sr Q) ∧ (¬ Int32.toInt x0 = 92 → ((Int32.toInt x0 = 93 → c_39_546 E x0 x1 S mr sr Q) ∧ (¬ Int32.toInt x0 = 93 → ((Int32.toInt x0 = 94 → c_39_558 E x0 x1 S mr sr Q) ∧ (¬ Int32.toInt x0 = 94 → ((Int32.toInt x0 = 95 → c_39_558 E x0 x1 S mr sr Q) ∧ (¬ Int32.toInt x0 = 95 → ((Int32.toInt x0 = 96 → c_39_558 E x0 x1 S mr sr Q) ∧ (¬ Int32.toInt x0 = 96 → ((Int32.toInt x0 = 97 → c_39_558 E x0 x1 S mr sr Q) ∧ (¬ Int32.toInt x0 = 97 → ((Int32.toInt x0 = 98 → c_39_558 E x0 x1 S mr sr Q) ∧ (¬ Int32.toInt x0 = 98 → ((Int32.toInt x0 = 99 → c_39_558 E x0 x1 S mr sr Q) ∧ (¬ Int32.toInt x0 = 99 → ((Int32.toInt x0 = 100 → c_39_544 E x0 x1 S mr sr Q) ∧ (¬ Int32.toInt x0 = 100 → ((Int32.toInt x0 = 101 → c_39_544 E x0 x1 S mr sr Q) ∧ (¬ Int32.toInt x0 = 101 → ((Int32.toInt x0 = 102 → (True ∧ Q (some (.inl x1)) S)) ∧ (¬ Int32.toInt x0 = 102 → ((Int32.toInt x0 = 103 → c_39_558 E x0 x1 S mr sr Q) ∧ (¬ Int32.toInt x0 = 103 → ((Int32.toInt x0 = 104 → c_39_558 E x0 x1 S mr sr Q) ∧ (¬ Int32.toInt x0 = 104 → ((Int32.toInt x0 = 105 → c_39_558 E x0 x1 S mr sr Q) ∧ (¬ Int32.toInt x0 = 105 → ((Int32.toInt x0 = 106 → c_39_558 E x0 x1 S mr sr Q) ∧ (¬ Int32.toInt x0 = 106 → ((Int32.toInt x0 = 107 → c_39_548 E x0 x1 S mr sr Q) ∧ (¬ Int32.toInt x0 = 107 → ((Int32.toInt x0 = 108 → c_39_558 E x0 x1 S mr sr Q) ∧ (¬ Int32.toInt x0 = 108 → ((Int32.toInt x0 = 109 → c_39_558 E x0 x1 S mr sr Q) ∧ (¬ Int32.toInt x0 = 109 → ((Int32.toInt x0 = 110 → c_39_544 E x0 x1 S mr sr Q) ∧ (¬ Int32.toInt x0 = 110 → ((Int32.toInt x0 = 111 → c_39_558 E x0 x1 S mr sr Q) ∧ (¬ Int32.toInt x0 = 111 → ((Int32.toInt x0 = 112 → c_39_558 E x0 x1 S mr sr Q) ∧ (¬ Int32.toInt x0 = 112 → ((Int32.toInt x0 = 113 → c_39_544 E x0 x1 S mr sr Q) ∧ (¬ Int32.toInt x0 = 113 → ((Int32.toInt x0 = 114 → c_39_546 E x0 x1 S mr sr Q) ∧ (¬ Int32.toInt x0 = 114 → ((Int32.toInt x0 = 115 → c_39_546 E x0 x1 S mr sr Q) ∧ (¬ Int32.toInt x0 = 115 → ((Int32.toInt x0 = 116 → c_39_558 E x0 x1 S mr sr Q) ∧ (¬ Int32.toInt x0 = 116 → ((Int32.toInt x0 = 117 → c_39_558 E x0 x1 S mr sr Q) ∧ (¬ Int32.toInt x0 = 117 → ((Int32.toInt x0 = 118 → c_39_558 E x0 x1 S mr sr Q) ∧ (¬ Int32.toInt x0 = 118 → ((Int32.toInt x0 = 119 → c_39_558 E x0 x1 S mr sr Q) ∧ (¬ Int32.toInt x0 = 119 → ((Int32.toInt x0 = 120 → c_39_558 E x0 x1 S mr sr Q) ∧ (¬ Int32.toInt x0 = 120 → ((Int32.toInt x0 = 121 → c_39_558 E x0 x1 S mr sr Q) ∧ (¬ Int32.toInt x0 = 121 → ((Int32.toInt x0 = 122 → c_39_544 E x0 x1 S mr sr Q) ∧ (¬ Int32.toInt x0 = 122 → ((Int32.toInt x0 = 123 → c_39_558 E x0 x1 S mr sr Q) ∧ (¬ Int32.toInt x0 = 123 → ((Int32.toInt x0 = 124 → c_39_544 E x0 x1 S mr sr Q) ∧ (¬ Int32.toInt x0 = 124 → ((Int32.toInt x0 = 125 → c_39_546 E x0 x1 S mr sr Q) ∧ (¬ Int32.toInt x0 = 125 → ((Int32.toInt x0 = 126 → c_39_558 E x0 x1 S mr sr Q) ∧ (¬ Int32.toInt x0 = 126 → ((Int32.toInt x0 = 127 → c_39_558 E x0 x1 S mr sr Q) ∧ (¬ Int32.toInt x0 = 127 → ((Int32.toInt x0 = 128 → c_39_558 E x0 x1 S mr sr Q) ∧ (¬ Int32.toInt x0 = 128 → ((Int32.toInt x0 = 129 → c_39_558 E x0 x1 S mr sr Q) ∧ (¬ Int32.toInt x0 = 129 → ((Int32.toInt x0 = 130 → c_39_546 E x0 x1 S mr sr Q) ∧ (¬ Int32.toInt x0 = 130 → ((Int32.toInt x0 = 131 → (True ∧ Q (some (.inl (x1 + 1))) S)) ∧ (¬ Int32.toInt x0 = 131 → ((Int32.toInt x0 = 132 → c_39_546 E x0 x1 S mr sr Q) ∧ (¬ Int32.toInt x0 = 132 → c_39_558 E x0 x1 S mr sr Q))))))))))))))))))))))))))))))))))))))))))))))))))))))))))))))))))))))))))))))))))))))))))))))))))))))))))))))))))))))))))))))))))))))))))))))))))))))))))))))))))))))))))))))))))))))))))))))))))))))))))))))))))))))))))))))))))))))))))))))))))))))))))))))))))))))))
set_option maxRecDepth 20000 in
set_option maxHeartbeats 4000000 in
theorem f_39 {sp : ox_E} (hsp : ox_mono sp) {d : Nat} {mr sr : Nat} {x0 : Int32} {x1 : Int32} {S : ox_St} {Q : ox_Q} (h : q_39 (ox_M sp d) x0 x1 S mr sr Q) : ox_M sp (d + 1) 39 [.inl (x0), .inl (x1)] mr sr S Q := Or.inr ⟨Nat.le_of_ble_eq_true rfl, ox_C_fold (ox_M_mono hsp d) h⟩
/-! OpcodeFrames$Looker.gives(II)I -/
set_option maxRecDepth 20000 in
def q_40 (E : ox_E) (x0 : Int32) (x1 : Int32) (S : ox_St) (mr sr : Nat) (Q : ox_Q) : Prop :=
  ((Int32.toInt x0 = 1 → (True ∧ Q (some (.inl (0 : Int32))) S)) ∧ (¬ Int32.toInt x0 = 1 → ((Int32.toInt x0 = 2 → (True ∧ Q (some (.inl (2 : Int32))) S)) ∧ (¬ Int32.toInt x0 = 2 → ((Int32.toInt x0 = 3 → (True ∧ Q (some (.inl (3 : Int32))) S)) ∧ (¬ Int32.toInt x0 = 3 → ((Int32.toInt x0 = 4 → (True ∧ Q (some (.inl (2 : Int32))) S)) ∧ (¬ Int32.toInt x0 = 4 → ((Int32.toInt x0 = 83 → (True ∧ Q (some (.inl (0 : Int32))) S)) ∧ (¬ Int32.toInt x0 = 83 → ((Int32.toInt x0 = 87 → (True ∧ Q (some (.inl (0 : Int32))) S)) ∧ (¬ Int32.toInt x0 = 87 → ((Int32.toInt x0 = 90 → (True ∧ Q (some (.inl (0 : Int32))) S)) ∧ (¬ Int32.toInt x0 = 90 → ((Int32.toInt x0 = 92 → (True ∧ Q (some (.inl x1)) S)) ∧ (¬ Int32.toInt x0 = 92 → ((Int32.toInt x0 = 93 → (True ∧ Q (some (.inl (2 : Int32))) S)) ∧ (¬ Int32.toInt x0 = 93 → ((Int32.toInt x0 = 110 → (True ∧ Q (some (.inl (0 : Int32))) S)) ∧ (¬ Int32.toInt x0 = 110 → ((Int32.toInt x0 = 113 → (True ∧ Q (some (.inl (0 : Int32))) S)) ∧ (¬ Int32.toInt x0 = 113 → ((Int32.toInt x0 = 114 → (True ∧ Q (some (.inl (0 : Int32))) S)) ∧ (¬ Int32.toInt x0 = 114 → ((Int32.toInt x0 = 115 → (True ∧ Q (some (.inl (0 : Int32))) S)) ∧ (¬ Int32.toInt x0 = 115 → ((Int32.toInt x0 = 122 → (True ∧ Q (some (.inl (0 : Int32))) S)) ∧ (¬ Int32.toInt x0 = 122 → ((Int32.toInt x0 = 125 → (True ∧ Q (some (.inl (0 : Int32))) S)) ∧ (¬ Int32.toInt x0 = 125 → ((Int32.toInt x0 = 130 → (True ∧ Q (some (.inl (0 : Int32))) S)) ∧ (¬ Int32.toInt x0 = 130 → (True ∧ Q (some (.inl (1 : Int32))) S)))))))))))))))))))))))))))))))))
set_option maxRecDepth 20000 in
set_option maxHeartbeats 4000000 in
theorem f_40 {sp : ox_E} (hsp : ox_mono sp) {d : Nat} {mr sr : Nat} {x0 : Int32} {x1 : Int32} {S : ox_St} {Q : ox_Q} (h : q_40 (ox_M sp d) x0 x1 S mr sr Q) : ox_M sp (d + 1) 40 [.inl (x0), .inl (x1)] mr sr S Q := Or.inr ⟨Nat.le_of_ble_eq_true rfl, ox_C_fold (ox_M_mono hsp d) h⟩
