/-! OpcodeFrames$Machine.<init>()V -/
def k_41_40 (E : ox_E) (x0 : Nat) (y0 : Nat) (y1 : Nat) (mr sr : Nat) (Q : ox_Q) : ox_Q := fun r_ T_ => ox_C E (ox_mi 41).2.2.2.1 (ox_mc 41) (ox_cut 41) Q 40 [some (.inr (.inr (x0))), none, none] (r_.toList ++ [.inr (.inr (y0)), .inr (.inr (y1))]) T_ mr sr
def k_41_53 (E : ox_E) (x0 : Nat) (y0 : Nat) (y1 : Nat) (mr sr : Nat) (Q : ox_Q) : ox_Q := fun r_ T_ => ox_C E (ox_mi 41).2.2.2.1 (ox_mc 41) (ox_cut 41) Q 53 [some (.inr (.inr (x0))), none, none] (r_.toList ++ [.inr (.inr (y0)), .inr (.inr (y1))]) T_ mr sr
def k_41_67 (E : ox_E) (x0 : Nat) (y0 : Nat) (y1 : Nat) (mr sr : Nat) (Q : ox_Q) : ox_Q := fun r_ T_ => ox_C E (ox_mi 41).2.2.2.1 (ox_mc 41) (ox_cut 41) Q 67 [some (.inr (.inr (x0))), none, none] (r_.toList ++ [.inr (.inr (y0)), .inr (.inr (y1))]) T_ mr sr
def k_41_84 (E : ox_E) (x0 : Nat) (y1 : Nat) (mr sr : Nat) (Q : ox_Q) : ox_Q := fun r_ T_ => ox_C E (ox_mi 41).2.2.2.1 (ox_mc 41) (ox_cut 41) Q 84 [some (.inr (.inr (x0))), none, none] (r_.toList ++ [.inr (.inr (y1))]) T_ mr sr
def k_41_92 (E : ox_E) (x0 : Nat) (y1 : Nat) (mr sr : Nat) (Q : ox_Q) : ox_Q := fun r_ T_ => ox_C E (ox_mi 41).2.2.2.1 (ox_mc 41) (ox_cut 41) Q 92 [some (.inr (.inr (x0))), none, none] (r_.toList ++ [.inr (.inr (y1))]) T_ mr sr
def k_41_103 (E : ox_E) (x0 : Nat) (y0 : Nat) (y1 : Nat) (mr sr : Nat) (Q : ox_Q) : ox_Q := fun r_ T_ => ox_C E (ox_mi 41).2.2.2.1 (ox_mc 41) (ox_cut 41) Q 103 [some (.inr (.inr (x0))), none, none] (r_.toList ++ [.inr (.inr (y0)), .inr (.inr (y1))]) T_ mr sr
def k_41_125 (E : ox_E) (x0 : Nat) (y0 : Nat) (mr sr : Nat) (Q : ox_Q) : ox_Q := fun r_ T_ => ox_C E (ox_mi 41).2.2.2.1 (ox_mc 41) (ox_cut 41) Q 125 [some (.inr (.inr (x0))), none, none] (r_.toList ++ [.inr (.inr (y0))]) T_ mr sr
def c_41_128 (E : ox_E) (x0 : Nat) (x1 : Nat) (x2 : Int32) (S : ox_St) (mr sr : Nat) (Q : ox_Q) : Prop := ox_C E (ox_mi 41).2.2.2.1 (ox_mc 41) (ox_cut 41) Q 128 [some (.inr (.inr (x0))), some (.inr (.inr (x1))), some (.inl (x2))] [] S mr sr
def k_41_147 (E : ox_E) (x0 : Nat) (x1 : Nat) (x2 : Int32) (y0 : Nat) (y1 : Int32) (y2 : Nat) (mr sr : Nat) (Q : ox_Q) : ox_Q := fun r_ T_ => ox_C E (ox_mi 41).2.2.2.1 (ox_mc 41) (ox_cut 41) Q 147 [some (.inr (.inr (x0))), some (.inr (.inr (x1))), some (.inl (x2))] (r_.toList ++ [.inr (.inr (y0)), .inl (y1), .inr (.inr (y2))]) T_ mr sr
def c_41_156 (E : ox_E) (x0 : Nat) (x1 : Nat) (x2 : Int32) (S : ox_St) (mr sr : Nat) (Q : ox_Q) : Prop := ox_C E (ox_mi 41).2.2.2.1 (ox_mc 41) (ox_cut 41) Q 156 [some (.inr (.inr (x0))), some (.inr (.inr (x1))), some (.inl (x2))] [] S mr sr
def k_41_177 (E : ox_E) (x0 : Nat) (x1 : Nat) (x2 : Int32) (y0 : Nat) (y1 : Int32) (y2 : Nat) (mr sr : Nat) (Q : ox_Q) : ox_Q := fun r_ T_ => ox_C E (ox_mi 41).2.2.2.1 (ox_mc 41) (ox_cut 41) Q 177 [some (.inr (.inr (x0))), some (.inr (.inr (x1))), some (.inl (x2))] (r_.toList ++ [.inr (.inr (y0)), .inl (y1), .inr (.inr (y2))]) T_ mr sr
set_option maxRecDepth 20000 in
def q_41_177 (E : ox_E) (x0 : Nat) (x1 : Nat) (x2 : Int32) (y0 : Nat) (y1 : Int32) (y2 : Nat) (S : ox_St) (mr sr : Nat) (Q : ox_Q) : Prop :=
  (ox_rdR (S.K y2) = true ∧ vp_in y1 (S.len y2) ∧ (y0 = 0 ∨ ox_asg (S.K y2) (S.K y0) = true) ∧ (let S1 := S.wR y2 (Int32.toNatClampNeg y1) y0
  c_41_156 E x0 x1 (x2 + 1) S1 mr sr Q))
set_option maxRecDepth 20000 in
set_option maxHeartbeats 4000000 in
theorem f_41_177 {E : ox_E} (hE : ox_mono E) {mr sr : Nat} {x0 : Nat} {x1 : Nat} {x2 : Int32} {y0 : Nat} {y1 : Int32} {y2 : Nat} {S : ox_St} {Q : ox_Q} (h : q_41_177 E x0 x1 x2 y0 y1 y2 S mr sr Q) : k_41_177 E x0 x1 x2 y0 y1 y2 mr sr Q none S := ox_C_fold hE h
set_option maxRecDepth 20000 in
def q_41_156 (E : ox_E) (x0 : Nat) (x1 : Nat) (x2 : Int32) (S : ox_St) (mr sr : Nat) (Q : ox_Q) : Prop :=
  (((7 : Int32) ≤ x2 → ((ox_mi 41).2.2.2.1 = none ∧ Q none S)) ∧ (¬ (7 : Int32) ≤ x2 → (ox_has (S.K x0) 47 = true ∧ (1 ≤ mr ∧ 2 ≤ sr ∧ (let S1 := S.newO 11
  (3 ≤ 6 ∧ S.n ≠ 0 ∧ 3 ≤ 8 ∧ ∃ mc2 mk3, mc2 ≤ (mr - 1) ∧ mk3 ≤ (sr - 2) ∧ E 89 [.inr (.inr (S.n)), .inl (9), .inl (x2)] mc2 mk3 S1 (k_41_177 E x0 x1 x2 S.n x2 (S.R 47 x0) ((mr - 1) - mc2) ((sr - 2) - mk3) Q)))))))
set_option maxRecDepth 20000 in
set_option maxHeartbeats 4000000 in
theorem f_41_156 {E : ox_E} (hE : ox_mono E) {mr sr : Nat} {x0 : Nat} {x1 : Nat} {x2 : Int32} {S : ox_St} {Q : ox_Q} (h : q_41_156 E x0 x1 x2 S mr sr Q) : c_41_156 E x0 x1 x2 S mr sr Q := ox_C_fold hE h
set_option maxRecDepth 20000 in
def q_41_147 (E : ox_E) (x0 : Nat) (x1 : Nat) (x2 : Int32) (y0 : Nat) (y1 : Int32) (y2 : Nat) (S : ox_St) (mr sr : Nat) (Q : ox_Q) : Prop :=
  (ox_rdR (S.K y2) = true ∧ vp_in y1 (S.len y2) ∧ (y0 = 0 ∨ ox_asg (S.K y2) (S.K y0) = true) ∧ (let S1 := S.wR y2 (Int32.toNatClampNeg y1) y0
  c_41_128 E x0 x1 (x2 + 1) S1 mr sr Q))
set_option maxRecDepth 20000 in
set_option maxHeartbeats 4000000 in
theorem f_41_147 {E : ox_E} (hE : ox_mono E) {mr sr : Nat} {x0 : Nat} {x1 : Nat} {x2 : Int32} {y0 : Nat} {y1 : Int32} {y2 : Nat} {S : ox_St} {Q : ox_Q} (h : q_41_147 E x0 x1 x2 y0 y1 y2 S mr sr Q) : k_41_147 E x0 x1 x2 y0 y1 y2 mr sr Q none S := ox_C_fold hE h
set_option maxRecDepth 20000 in
def q_41_128 (E : ox_E) (x0 : Nat) (x1 : Nat) (x2 : Int32) (S : ox_St) (mr sr : Nat) (Q : ox_Q) : Prop :=
  (((8 : Int32) ≤ x2 → c_41_156 E x0 x1 0 S mr sr Q) ∧ (¬ (8 : Int32) ≤ x2 → (ox_has (S.K x0) 34 = true ∧ (1 ≤ mr ∧ 9 ≤ sr ∧ (let S1 := S.newO 4
  (2 ≤ 5 ∧ S.n ≠ 0 ∧ 3 ≤ 8 ∧ ∃ mc2 mk3, mc2 ≤ (mr - 1) ∧ mk3 ≤ (sr - 9) ∧ E 17 [.inr (.inr (S.n)), .inr (.inr (x1))] mc2 mk3 S1 (k_41_147 E x0 x1 x2 S.n x2 (S.R 34 x0) ((mr - 1) - mc2) ((sr - 9) - mk3) Q)))))))
set_option maxRecDepth 20000 in
set_option maxHeartbeats 4000000 in
theorem f_41_128 {E : ox_E} (hE : ox_mono E) {mr sr : Nat} {x0 : Nat} {x1 : Nat} {x2 : Int32} {S : ox_St} {Q : ox_Q} (h : q_41_128 E x0 x1 x2 S mr sr Q) : c_41_128 E x0 x1 x2 S mr sr Q := ox_C_fold hE h
set_option maxRecDepth 20000 in
def q_41_125 (E : ox_E) (x0 : Nat) (y0 : Nat) (S : ox_St) (mr sr : Nat) (Q : ox_Q) : Prop :=
  c_41_128 E x0 y0 0 S mr sr Q
set_option maxRecDepth 20000 in
set_option maxHeartbeats 4000000 in
theorem f_41_125 {E : ox_E} (hE : ox_mono E) {mr sr : Nat} {x0 : Nat} {y0 : Nat} {S : ox_St} {Q : ox_Q} (h : q_41_125 E x0 y0 S mr sr Q) : k_41_125 E x0 y0 mr sr Q none S := ox_C_fold hE h
set_option maxRecDepth 20000 in
def q_41_103 (E : ox_E) (x0 : Nat) (y0 : Nat) (y1 : Nat) (S : ox_St) (mr sr : Nat) (Q : ox_Q) : Prop :=
  (ox_has (S.K y1) 50 = true ∧ (let S1 := S.sR 50 y1 y0
  (ox_has (S1.K x0) 37 = true ∧ (let S2 := S1.sI 37 x0 0
  (ox_has (S2.K x0) 38 = true ∧ (let S3 := S2.sI 38 x0 (-1)
  (1 ≤ mr ∧ 2 ≤ sr ∧ (let S4 := S3.newO 11
  (3 ≤ 4 ∧ S3.n ≠ 0 ∧ 1 ≤ 8 ∧ ∃ mc5 mk6, mc5 ≤ (mr - 1) ∧ mk6 ≤ (sr - 2) ∧ E 89 [.inr (.inr (S3.n)), .inl (0), .inl (0)] mc5 mk6 S4 (k_41_125 E x0 S3.n ((mr - 1) - mc5) ((sr - 2) - mk6) Q))))))))))
set_option maxRecDepth 20000 in
set_option maxHeartbeats 4000000 in
theorem f_41_103 {E : ox_E} (hE : ox_mono E) {mr sr : Nat} {x0 : Nat} {y0 : Nat} {y1 : Nat} {S : ox_St} {Q : ox_Q} (h : q_41_103 E x0 y0 y1 S mr sr Q) : k_41_103 E x0 y0 y1 mr sr Q none S := ox_C_fold hE h
set_option maxRecDepth 20000 in
def q_41_92 (E : ox_E) (x0 : Nat) (y0 : Nat) (y1 : Nat) (S : ox_St) (mr sr : Nat) (Q : ox_Q) : Prop :=
  (ox_has (S.K y1) 49 = true ∧ (let S1 := S.sR 49 y1 y0
  (1 ≤ mr ∧ 3 ≤ sr ∧ (let S2 := S1.newO 2
  (1 ≤ 3 ∧ S1.n ≠ 0 ∧ 2 ≤ 8 ∧ ∃ mc3 mk4, mc3 ≤ (mr - 1) ∧ mk4 ≤ (sr - 3) ∧ E 0 [.inr (.inr (S1.n))] mc3 mk4 S2 (k_41_103 E x0 S1.n x0 ((mr - 1) - mc3) ((sr - 3) - mk4) Q))))))
set_option maxRecDepth 20000 in
set_option maxHeartbeats 4000000 in
theorem f_41_92 {E : ox_E} (hE : ox_mono E) {mr sr : Nat} {x0 : Nat} {y0 : Nat} {y1 : Nat} {S : ox_St} {Q : ox_Q} (h : q_41_92 E x0 y0 y1 S mr sr Q) : k_41_92 E x0 y1 mr sr Q (some (.inr (.inr (y0)))) S := ox_C_fold hE h
set_option maxRecDepth 20000 in
def q_41_84 (E : ox_E) (x0 : Nat) (y0 : Nat) (y1 : Nat) (S : ox_St) (mr sr : Nat) (Q : ox_Q) : Prop :=
  (ox_has (S.K y1) 48 = true ∧ (let S1 := S.sR 48 y1 y0
  (1 ≤ 2 ∧ 1 ≤ 8 ∧ ∃ mc2 mk3, mc2 ≤ mr ∧ mk3 ≤ sr ∧ E 79 [.inr (.inl (1))] mc2 mk3 S1 (k_41_92 E x0 x0 (mr - mc2) (sr - mk3) Q))))
set_option maxRecDepth 20000 in
set_option maxHeartbeats 4000000 in
theorem f_41_84 {E : ox_E} (hE : ox_mono E) {mr sr : Nat} {x0 : Nat} {y0 : Nat} {y1 : Nat} {S : ox_St} {Q : ox_Q} (h : q_41_84 E x0 y0 y1 S mr sr Q) : k_41_84 E x0 y1 mr sr Q (some (.inr (.inr (y0)))) S := ox_C_fold hE h
set_option maxRecDepth 20000 in
def q_41_67 (E : ox_E) (x0 : Nat) (y0 : Nat) (y1 : Nat) (S : ox_St) (mr sr : Nat) (Q : ox_Q) : Prop :=
  (ox_has (S.K y1) 46 = true ∧ (let S1 := S.sR 46 y1 y0
  (¬ (7 : Int32) < 0 ∧ (Int32.toNatClampNeg (7 : Int32)) ≤ 67108864 ∧ 1 ≤ mr ∧ (Int32.toNatClampNeg (7 : Int32)) ≤ sr ∧ (let S2 := S1.newA 19 (Int32.toNatClampNeg (7 : Int32))
  (ox_has (S2.K x0) 47 = true ∧ (let S3 := S2.sR 47 x0 S1.n
  (1 ≤ 2 ∧ 1 ≤ 8 ∧ ∃ mc4 mk5, mc4 ≤ (mr - 1) ∧ mk5 ≤ (sr - (Int32.toNatClampNeg (7 : Int32))) ∧ E 79 [.inr (.inl (0))] mc4 mk5 S3 (k_41_84 E x0 x0 ((mr - 1) - mc4) ((sr - (Int32.toNatClampNeg (7 : Int32))) - mk5) Q))))))))
set_option maxRecDepth 20000 in
set_option maxHeartbeats 4000000 in
theorem f_41_67 {E : ox_E} (hE : ox_mono E) {mr sr : Nat} {x0 : Nat} {y0 : Nat} {y1 : Nat} {S : ox_St} {Q : ox_Q} (h : q_41_67 E x0 y0 y1 S mr sr Q) : k_41_67 E x0 y0 y1 mr sr Q none S := ox_C_fold hE h
set_option maxRecDepth 20000 in
def q_41_53 (E : ox_E) (x0 : Nat) (y0 : Nat) (y1 : Nat) (S : ox_St) (mr sr : Nat) (Q : ox_Q) : Prop :=
  (ox_has (S.K y1) 45 = true ∧ (let S1 := S.sR 45 y1 y0
  (1 ≤ mr ∧ 2 ≤ sr ∧ (let S2 := S1.newO 11
  (3 ≤ 5 ∧ S1.n ≠ 0 ∧ 2 ≤ 8 ∧ ∃ mc3 mk4, mc3 ≤ (mr - 1) ∧ mk4 ≤ (sr - 2) ∧ E 89 [.inr (.inr (S1.n)), .inl (8), .inl (0)] mc3 mk4 S2 (k_41_67 E x0 S1.n x0 ((mr - 1) - mc3) ((sr - 2) - mk4) Q))))))
set_option maxRecDepth 20000 in
set_option maxHeartbeats 4000000 in
theorem f_41_53 {E : ox_E} (hE : ox_mono E) {mr sr : Nat} {x0 : Nat} {y0 : Nat} {y1 : Nat} {S : ox_St} {Q : ox_Q} (h : q_41_53 E x0 y0 y1 S mr sr Q) : k_41_53 E x0 y0 y1 mr sr Q none S := ox_C_fold hE h
set_option maxRecDepth 20000 in
def q_41_40 (E : ox_E) (x0 : Nat) (y0 : Nat) (y1 : Nat) (S : ox_St) (mr sr : Nat) (Q : ox_Q) : Prop :=
  (ox_has (S.K y1) 44 = true ∧ (let S1 := S.sR 44 y1 y0
  (1 ≤ mr ∧ 2 ≤ sr ∧ (let S2 := S1.newO 11
  (3 ≤ 5 ∧ S1.n ≠ 0 ∧ 2 ≤ 8 ∧ ∃ mc3 mk4, mc3 ≤ (mr - 1) ∧ mk4 ≤ (sr - 2) ∧ E 89 [.inr (.inr (S1.n)), .inl (2), .inl (0)] mc3 mk4 S2 (k_41_53 E x0 S1.n x0 ((mr - 1) - mc3) ((sr - 2) - mk4) Q))))))
set_option maxRecDepth 20000 in
set_option maxHeartbeats 4000000 in
theorem f_41_40 {E : ox_E} (hE : ox_mono E) {mr sr : Nat} {x0 : Nat} {y0 : Nat} {y1 : Nat} {S : ox_St} {Q : ox_Q} (h : q_41_40 E x0 y0 y1 S mr sr Q) : k_41_40 E x0 y0 y1 mr sr Q none S := ox_C_fold hE h
set_option maxRecDepth 20000 in
def q_41 (E : ox_E) (x0 : Nat) (S : ox_St) (mr sr : Nat) (Q : ox_Q) : Prop :=
  (x0 ≠ 0 ∧ 0 ≤ 8 ∧ (¬ (8 : Int32) < 0 ∧ (Int32.toNatClampNeg (8 : Int32)) ≤ 67108864 ∧ 1 ≤ mr ∧ (Int32.toNatClampNeg (8 : Int32)) ≤ sr ∧ (let S1 := S.newA 18 (Int32.toNatClampNeg (8 : Int32))
  (ox_has (S1.K x0) 34 = true ∧ (let S2 := S1.sR 34 x0 S.n
  (¬ (16 : Int32) < 0 ∧ (Int32.toNatClampNeg (16 : Int32)) ≤ 67108864 ∧ 1 ≤ (mr - 1) ∧ (Int32.toNatClampNeg (16 : Int32)) ≤ (sr - (Int32.toNatClampNeg (8 : Int32))) ∧ (let S3 := S2.newA 16 (Int32.toNatClampNeg (16 : Int32))
  (ox_has (S3.K x0) 41 = true ∧ (let S4 := S3.sR 41 x0 S2.n
  (¬ (16 : Int32) < 0 ∧ (Int32.toNatClampNeg (16 : Int32)) ≤ 67108864 ∧ 1 ≤ ((mr - 1) - 1) ∧ (Int32.toNatClampNeg (16 : Int32)) ≤ ((sr - (Int32.toNatClampNeg (8 : Int32))) - (Int32.toNatClampNeg (16 : Int32))) ∧ (let S5 := S4.newA 19 (Int32.toNatClampNeg (16 : Int32))
  (ox_has (S5.K x0) 42 = true ∧ (let S6 := S5.sR 42 x0 S4.n
  (1 ≤ (((mr - 1) - 1) - 1) ∧ 2 ≤ (((sr - (Int32.toNatClampNeg (8 : Int32))) - (Int32.toNatClampNeg (16 : Int32))) - (Int32.toNatClampNeg (16 : Int32))) ∧ (let S7 := S6.newO 11
  (3 ≤ 5 ∧ S6.n ≠ 0 ∧ 2 ≤ 8 ∧ ∃ mc8 mk9, mc8 ≤ ((((mr - 1) - 1) - 1) - 1) ∧ mk9 ≤ ((((sr - (Int32.toNatClampNeg (8 : Int32))) - (Int32.toNatClampNeg (16 : Int32))) - (Int32.toNatClampNeg (16 : Int32))) - 2) ∧ E 89 [.inr (.inr (S6.n)), .inl (1), .inl (0)] mc8 mk9 S7 (k_41_40 E x0 S6.n x0 (((((mr - 1) - 1) - 1) - 1) - mc8) (((((sr - (Int32.toNatClampNeg (8 : Int32))) - (Int32.toNatClampNeg (16 : Int32))) - (Int32.toNatClampNeg (16 : Int32))) - 2) - mk9) Q)))))))))))))))))
set_option maxRecDepth 20000 in
set_option maxHeartbeats 4000000 in
theorem f_41 {sp : ox_E} (hsp : ox_mono sp) {d : Nat} {mr sr : Nat} {x0 : Nat} {S : ox_St} {Q : ox_Q} (h : q_41 (ox_M sp d) x0 S mr sr Q) : ox_M sp (d + 1) 41 [.inr (.inr (x0))] mr sr S Q := Or.inr ⟨Nat.le_of_ble_eq_true rfl, ox_C_fold (ox_M_mono hsp d) h⟩
/-! OpcodeFrames$Machine.take(LOpcodeFrames$Code;)V -/
def k_42_9 (E : ox_E) (x0 : Nat) (x1 : Nat) (mr sr : Nat) (Q : ox_Q) : ox_Q := fun r_ T_ => ox_C E (ox_mi 42).2.2.2.1 (ox_mc 42) (ox_cut 42) Q 9 [some (.inr (.inr (x0))), some (.inr (.inr (x1)))] (r_.toList ++ []) T_ mr sr
set_option maxRecDepth 20000 in
def q_42_9 (E : ox_E) (x0 : Nat) (x1 : Nat) (y0 : Int32) (S : ox_St) (mr sr : Nat) (Q : ox_Q) : Prop :=
  ((ox_mi 42).2.2.2.1 = none ∧ Q none S)
set_option maxRecDepth 20000 in
set_option maxHeartbeats 4000000 in
theorem f_42_9 {E : ox_E} (hE : ox_mono E) {mr sr : Nat} {x0 : Nat} {x1 : Nat} {y0 : Int32} {S : ox_St} {Q : ox_Q} (h : q_42_9 E x0 x1 y0 S mr sr Q) : k_42_9 E x0 x1 mr sr Q (some (.inl (y0))) S := ox_C_fold hE h
set_option maxRecDepth 20000 in
def q_42 (E : ox_E) (x0 : Nat) (x1 : Nat) (S : ox_St) (mr sr : Nat) (Q : ox_Q) : Prop :=
  (ox_has (S.K x0) 36 = true ∧ (let S1 := S.sR 36 x0 x1
  (1 ≤ 1 ∧ S1.K x0 = 7 ∧ 0 ≤ 8 ∧ ∃ mc2 mk3, mc2 ≤ mr ∧ mk3 ≤ sr ∧ E 43 [.inr (.inr (x0))] mc2 mk3 S1 (k_42_9 E x0 x1 (mr - mc2) (sr - mk3) Q))))
set_option maxRecDepth 20000 in
set_option maxHeartbeats 4000000 in
theorem f_42 {sp : ox_E} (hsp : ox_mono sp) {d : Nat} {mr sr : Nat} {x0 : Nat} {x1 : Nat} {S : ox_St} {Q : ox_Q} (h : q_42 (ox_M sp d) x0 x1 S mr sr Q) : ox_M sp (d + 1) 42 [.inr (.inr (x0)), .inr (.inr (x1))] mr sr S Q := Or.inr ⟨Nat.le_of_ble_eq_true rfl, ox_C_fold (ox_M_mono hsp d) h⟩
/-! OpcodeFrames$Machine.begin()Z -/
def k_43_22 (E : ox_E) (x0 : Nat) (mr sr : Nat) (Q : ox_Q) : ox_Q := fun r_ T_ => ox_C E (ox_mi 43).2.2.2.1 (ox_mc 43) (ox_cut 43) Q 22 [some (.inr (.inr (x0)))] (r_.toList ++ []) T_ mr sr
set_option maxRecDepth 20000 in
def q_43_22 (E : ox_E) (x0 : Nat) (S : ox_St) (mr sr : Nat) (Q : ox_Q) : Prop :=
  (ox_has (S.K x0) 35 = true ∧ (let S1 := S.sI 35 x0 1
  (ox_has (S1.K x0) 37 = true ∧ (let S2 := S1.sI 37 x0 1
  (ox_has (S2.K x0) 38 = true ∧ (let S3 := S2.sI 38 x0 (-1)
  (ox_has (S3.K x0) 39 = true ∧ (let S4 := S3.sI 39 x0 0
  (ox_has (S4.K x0) 40 = true ∧ (let S5 := S4.sR 40 x0 0
  (((1 : Int32) = 0 ∨ (1 : Int32) = 1) ∧ Q (some (.inl (1 : Int32))) S5)))))))))))
set_option maxRecDepth 20000 in
set_option maxHeartbeats 4000000 in
theorem f_43_22 {E : ox_E} (hE : ox_mono E) {mr sr : Nat} {x0 : Nat} {S : ox_St} {Q : ox_Q} (h : q_43_22 E x0 S mr sr Q) : k_43_22 E x0 mr sr Q none S := ox_C_fold hE h
set_option maxRecDepth 20000 in
def q_43 (E : ox_E) (x0 : Nat) (S : ox_St) (mr sr : Nat) (Q : ox_Q) : Prop :=
  (ox_has (S.K x0) 36 = true ∧ ((¬ (S.R 36 x0) = 0 → (ox_has (S.K x0) 34 = true ∧ (ox_rdR (S.K (S.R 34 x0)) = true ∧ vp_in 0 (S.len (S.R 34 x0)) ∧ (ox_has (S.K x0) 36 = true ∧ (2 ≤ 2 ∧ S.K (S.rR (S.R 34 x0) (Int32.toNatClampNeg 0)) = 4 ∧ 0 ≤ 8 ∧ ∃ mc1 mk2, mc1 ≤ mr ∧ mk2 ≤ sr ∧ E 18 [.inr (.inr (S.rR (S.R 34 x0) (Int32.toNatClampNeg 0))), .inr (.inr (S.R 36 x0))] mc1 mk2 S (k_43_22 E x0 (mr - mc1) (sr - mk2) Q)))))) ∧ ((S.R 36 x0) = 0 → (((0 : Int32) = 0 ∨ (0 : Int32) = 1) ∧ Q (some (.inl (0 : Int32))) S))))
set_option maxRecDepth 20000 in
set_option maxHeartbeats 4000000 in
theorem f_43 {sp : ox_E} (hsp : ox_mono sp) {d : Nat} {mr sr : Nat} {x0 : Nat} {S : ox_St} {Q : ox_Q} (h : q_43 (ox_M sp d) x0 S mr sr Q) : ox_M sp (d + 1) 43 [.inr (.inr (x0))] mr sr S Q := Or.inr ⟨Nat.le_of_ble_eq_true rfl, ox_C_fold (ox_M_mono hsp d) h⟩
/-! OpcodeFrames$Machine.innermost()LOpcodeFrames$Frame; -/
set_option maxRecDepth 20000 in
def q_44 (E : ox_E) (x0 : Nat) (S : ox_St) (mr sr : Nat) (Q : ox_Q) : Prop :=
  (ox_has (S.K x0) 35 = true ∧ (((S.I 35 x0) < 1 → (ox_isR (ox_mi 44).2.2.2.1 = true ∧ Q (some (.inr (.inr 0))) S)) ∧ (¬ (S.I 35 x0) < 1 → (ox_has (S.K x0) 35 = true ∧ (((S.I 35 x0) ≤ 8 → (ox_has (S.K x0) 34 = true ∧ (ox_has (S.K x0) 35 = true ∧ (ox_rdR (S.K (S.R 34 x0)) = true ∧ vp_in ((S.I 35 x0) - 1) (S.len (S.R 34 x0)) ∧ (ox_isR (ox_mi 44).2.2.2.1 = true ∧ Q (some (.inr (.inr (S.rR (S.R 34 x0) (Int32.toNatClampNeg ((S.I 35 x0) - 1)))))) S))))) ∧ (¬ (S.I 35 x0) ≤ 8 → (ox_isR (ox_mi 44).2.2.2.1 = true ∧ Q (some (.inr (.inr 0))) S)))))))
set_option maxRecDepth 20000 in
set_option maxHeartbeats 4000000 in
theorem f_44 {sp : ox_E} (hsp : ox_mono sp) {d : Nat} {mr sr : Nat} {x0 : Nat} {S : ox_St} {Q : ox_Q} (h : q_44 (ox_M sp d) x0 S mr sr Q) : ox_M sp (d + 1) 44 [.inr (.inr (x0))] mr sr S Q := Or.inr ⟨Nat.le_of_ble_eq_true rfl, ox_C_fold (ox_M_mono hsp d) h⟩
/-! OpcodeFrames$Machine.storedBy(J)LOpcodeFrames$Value; -/
def k_45_5 (E : ox_E) (x0 : Nat) (x1 : Int64) (mr sr : Nat) (Q : ox_Q) : ox_Q := fun r_ T_ => ox_C E (ox_mi 45).2.2.2.1 (ox_mc 45) (ox_cut 45) Q 5 [some (.inr (.inr (x0))), some (.inr (.inl (x1))), none, none] (r_.toList ++ []) T_ mr sr
set_option maxRecDepth 20000 in
def q_45_5 (E : ox_E) (x0 : Nat) (x1 : Int64) (y0 : Int32) (S : ox_St) (mr sr : Nat) (Q : ox_Q) : Prop :=
  (ox_has (S.K x0) 43 = true ∧ (((S.I 43 x0) ≤ y0 → (ox_isR (ox_mi 45).2.2.2.1 = true ∧ Q (some (.inr (.inr 0))) S)) ∧ (¬ (S.I 43 x0) ≤ y0 → (ox_has (S.K x0) 42 = true ∧ (ox_rdR (S.K (S.R 42 x0)) = true ∧ vp_in y0 (S.len (S.R 42 x0)) ∧ (ox_isR (ox_mi 45).2.2.2.1 = true ∧ Q (some (.inr (.inr (S.rR (S.R 42 x0) (Int32.toNatClampNeg y0))))) S))))))
set_option maxRecDepth 20000 in
set_option maxHeartbeats 4000000 in
theorem f_45_5 {E : ox_E} (hE : ox_mono E) {mr sr : Nat} {x0 : Nat} {x1 : Int64} {y0 : Int32} {S : ox_St} {Q : ox_Q} (h : q_45_5 E x0 x1 y0 S mr sr Q) : k_45_5 E x0 x1 mr sr Q (some (.inl (y0))) S := ox_C_fold hE h
set_option maxRecDepth 20000 in
def q_45 (E : ox_E) (x0 : Nat) (x1 : Int64) (S : ox_St) (mr sr : Nat) (Q : ox_Q) : Prop :=
  (2 ≤ 2 ∧ S.K x0 = 7 ∧ 0 ≤ 8 ∧ ∃ mc1 mk2, mc1 ≤ mr ∧ mk2 ≤ sr ∧ E 70 [.inr (.inr (x0)), .inr (.inl (x1))] mc1 mk2 S (k_45_5 E x0 x1 (mr - mc1) (sr - mk2) Q))
set_option maxRecDepth 20000 in
set_option maxHeartbeats 4000000 in
theorem f_45 {sp : ox_E} (hsp : ox_mono sp) {d : Nat} {mr sr : Nat} {x0 : Nat} {x1 : Int64} {S : ox_St} {Q : ox_Q} (h : q_45 (ox_M sp d) x0 x1 S mr sr Q) : ox_M sp (d + 1) 45 [.inr (.inr (x0)), .inr (.inl (x1))] mr sr S Q := Or.inr ⟨Nat.le_of_ble_eq_true rfl, ox_C_fold (ox_M_mono hsp d) h⟩
/-! OpcodeFrames$Machine.step()I -/
def k_47_14 (E : ox_E) (x0 : Nat) (mr sr : Nat) (Q : ox_Q) : ox_Q := fun r_ T_ => ox_C E (ox_mi 47).2.2.2.1 (ox_mc 47) (ox_cut 47) Q 14 [some (.inr (.inr (x0))), none, none, none] (r_.toList ++ []) T_ mr sr
def k_47_32 (E : ox_E) (x0 : Nat) (x1 : Nat) (mr sr : Nat) (Q : ox_Q) : ox_Q := fun r_ T_ => ox_C E (ox_mi 47).2.2.2.1 (ox_mc 47) (ox_cut 47) Q 32 [some (.inr (.inr (x0))), some (.inr (.inr (x1))), none, none] (r_.toList ++ []) T_ mr sr
def k_47_46 (E : ox_E) (x0 : Nat) (x1 : Nat) (x2 : Int32) (mr sr : Nat) (Q : ox_Q) : ox_Q := fun r_ T_ => ox_C E (ox_mi 47).2.2.2.1 (ox_mc 47) (ox_cut 47) Q 46 [some (.inr (.inr (x0))), some (.inr (.inr (x1))), some (.inl (x2)), none] (r_.toList ++ []) T_ mr sr
def k_47_75 (E : ox_E) (x0 : Nat) (x1 : Nat) (x2 : Int32) (x3 : Int32) (mr sr : Nat) (Q : ox_Q) : ox_Q := fun r_ T_ => ox_C E (ox_mi 47).2.2.2.1 (ox_mc 47) (ox_cut 47) Q 75 [some (.inr (.inr (x0))), some (.inr (.inr (x1))), some (.inl (x2)), some (.inl (x3))] (r_.toList ++ []) T_ mr sr
def k_47_94 (E : ox_E) (x0 : Nat) (x1 : Nat) (x2 : Int32) (x3 : Int32) (y1 : Int32) (mr sr : Nat) (Q : ox_Q) : ox_Q := fun r_ T_ => ox_C E (ox_mi 47).2.2.2.1 (ox_mc 47) (ox_cut 47) Q 94 [some (.inr (.inr (x0))), some (.inr (.inr (x1))), some (.inl (x2)), some (.inl (x3))] (r_.toList ++ [.inl (y1)]) T_ mr sr
def c_47_106 (E : ox_E) (x0 : Nat) (x1 : Nat) (x2 : Int32) (x3 : Int32) (S : ox_St) (mr sr : Nat) (Q : ox_Q) : Prop := ox_C E (ox_mi 47).2.2.2.1 (ox_mc 47) (ox_cut 47) Q 106 [some (.inr (.inr (x0))), some (.inr (.inr (x1))), some (.inl (x2)), some (.inl (x3))] [] S mr sr
def c_47_648 (E : ox_E) (x0 : Nat) (x1 : Nat) (x2 : Int32) (x3 : Int32) (S : ox_St) (mr sr : Nat) (Q : ox_Q) : Prop := ox_C E (ox_mi 47).2.2.2.1 (ox_mc 47) (ox_cut 47) Q 648 [some (.inr (.inr (x0))), some (.inr (.inr (x1))), some (.inl (x2)), some (.inl (x3))] [] S mr sr
def k_47_653 (E : ox_E) (x0 : Nat) (x1 : Nat) (x2 : Int32) (x3 : Int32) (mr sr : Nat) (Q : ox_Q) : ox_Q := fun r_ T_ => ox_C E (ox_mi 47).2.2.2.1 (ox_mc 47) (ox_cut 47) Q 653 [some (.inr (.inr (x0))), some (.inr (.inr (x1))), some (.inl (x2)), some (.inl (x3))] (r_.toList ++ []) T_ mr sr
def k_47_659 (E : ox_E) (x0 : Nat) (x1 : Nat) (x2 : Int32) (x3 : Int32) (mr sr : Nat) (Q : ox_Q) : ox_Q := fun r_ T_ => ox_C E (ox_mi 47).2.2.2.1 (ox_mc 47) (ox_cut 47) Q 659 [some (.inr (.inr (x0))), some (.inr (.inr (x1))), some (.inl (x2)), some (.inl (x3))] (r_.toList ++ []) T_ mr sr
def k_47_668 (E : ox_E) (x0 : Nat) (x1 : Nat) (x2 : Int32) (x3 : Int32) (y1 : Nat) (y2 : Int32) (y3 : Nat) (mr sr : Nat) (Q : ox_Q) : ox_Q := fun r_ T_ => ox_C E (ox_mi 47).2.2.2.1 (ox_mc 47) (ox_cut 47) Q 668 [some (.inr (.inr (x0))), some (.inr (.inr (x1))), some (.inl (x2)), some (.inl (x3))] (r_.toList ++ [.inr (.inr (y1)), .inl (y2), .inr (.inr (y3))]) T_ mr sr
def k_47_671 (E : ox_E) (x0 : Nat) (x1 : Nat) (x2 : Int32) (x3 : Int32) (y1 : Nat) (y2 : Int32) (y3 : Nat) (mr sr : Nat) (Q : ox_Q) : ox_Q := fun r_ T_ => ox_C E (ox_mi 47).2.2.2.1 (ox_mc 47) (ox_cut 47) Q 671 [some (.inr (.inr (x0))), some (.inr (.inr (x1))), some (.inl (x2)), some (.inl (x3))] (r_.toList ++ [.inr (.inr (y1)), .inl (y2), .inr (.inr (y3))]) T_ mr sr
def k_47_674 (E : ox_E) (x0 : Nat) (x1 : Nat) (x2 : Int32) (x3 : Int32) (y1 : Int32) (y2 : Nat) (mr sr : Nat) (Q : ox_Q) : ox_Q := fun r_ T_ => ox_C E (ox_mi 47).2.2.2.1 (ox_mc 47) (ox_cut 47) Q 674 [some (.inr (.inr (x0))), some (.inr (.inr (x1))), some (.inl (x2)), some (.inl (x3))] (r_.toList ++ [.inl (y1), .inr (.inr (y2))]) T_ mr sr
def k_47_677 (E : ox_E) (x0 : Nat) (x1 : Nat) (x2 : Int32) (x3 : Int32) (mr sr : Nat) (Q : ox_Q) : ox_Q := fun r_ T_ => ox_C E (ox_mi 47).2.2.2.1 (ox_mc 47) (ox_cut 47) Q 677 [some (.inr (.inr (x0))), some (.inr (.inr (x1))), some (.inl (x2)), some (.inl (x3))] (r_.toList ++ []) T_ mr sr
def c_47_678 (E : ox_E) (x0 : Nat) (x1 : Nat) (x2 : Int32) (x3 : Int32) (S : ox_St) (mr sr : Nat) (Q : ox_Q) : Prop := ox_C E (ox_mi 47).2.2.2.1 (ox_mc 47) (ox_cut 47) Q 678 [some (.inr (.inr (x0))), some (.inr (.inr (x1))), some (.inl (x2)), some (.inl (x3))] [] S mr sr
def k_47_684 (E : ox_E) (x0 : Nat) (x1 : Nat) (x2 : Int32) (x3 : Int32) (mr sr : Nat) (Q : ox_Q) : ox_Q := fun r_ T_ => ox_C E (ox_mi 47).2.2.2.1 (ox_mc 47) (ox_cut 47) Q 684 [some (.inr (.inr (x0))), some (.inr (.inr (x1))), some (.inl (x2)), some (.inl (x3))] (r_.toList ++ []) T_ mr sr
def k_47_690 (E : ox_E) (x0 : Nat) (x1 : Nat) (x2 : Int32) (x3 : Int32) (mr sr : Nat) (Q : ox_Q) : ox_Q := fun r_ T_ => ox_C E (ox_mi 47).2.2.2.1 (ox_mc 47) (ox_cut 47) Q 690 [some (.inr (.inr (x0))), some (.inr (.inr (x1))), some (.inl (x2)), some (.inl (x3))] (r_.toList ++ []) T_ mr sr
def k_47_697 (E : ox_E) (x0 : Nat) (x1 : Nat) (x2 : Int32) (x3 : Int32) (mr sr : Nat) (Q : ox_Q) : ox_Q := fun r_ T_ => ox_C E (ox_mi 47).2.2.2.1 (ox_mc 47) (ox_cut 47) Q 697 [some (.inr (.inr (x0))), some (.inr (.inr (x1))), some (.inl (x2)), some (.inl (x3))] (r_.toList ++ []) T_ mr sr
def k_47_702 (E : ox_E) (x0 : Nat) (x1 : Nat) (x2 : Int32) (x3 : Int32) (mr sr : Nat) (Q : ox_Q) : ox_Q := fun r_ T_ => ox_C E (ox_mi 47).2.2.2.1 (ox_mc 47) (ox_cut 47) Q 702 [some (.inr (.inr (x0))), some (.inr (.inr (x1))), some (.inl (x2)), some (.inl (x3))] (r_.toList ++ []) T_ mr sr
def k_47_708 (E : ox_E) (x0 : Nat) (x1 : Nat) (x2 : Int32) (x3 : Int32) (mr sr : Nat) (Q : ox_Q) : ox_Q := fun r_ T_ => ox_C E (ox_mi 47).2.2.2.1 (ox_mc 47) (ox_cut 47) Q 708 [some (.inr (.inr (x0))), some (.inr (.inr (x1))), some (.inl (x2)), some (.inl (x3))] (r_.toList ++ []) T_ mr sr
def k_47_714 (E : ox_E) (x0 : Nat) (x1 : Nat) (x2 : Int32) (x3 : Int32) (mr sr : Nat) (Q : ox_Q) : ox_Q := fun r_ T_ => ox_C E (ox_mi 47).2.2.2.1 (ox_mc 47) (ox_cut 47) Q 714 [some (.inr (.inr (x0))), some (.inr (.inr (x1))), some (.inl (x2)), some (.inl (x3))] (r_.toList ++ []) T_ mr sr
def k_47_720 (E : ox_E) (x0 : Nat) (x1 : Nat) (x2 : Int32) (x3 : Int32) (mr sr : Nat) (Q : ox_Q) : ox_Q := fun r_ T_ => ox_C E (ox_mi 47).2.2.2.1 (ox_mc 47) (ox_cut 47) Q 720 [some (.inr (.inr (x0))), some (.inr (.inr (x1))), some (.inl (x2)), some (.inl (x3))] (r_.toList ++ []) T_ mr sr
def c_47_721 (E : ox_E) (x0 : Nat) (x1 : Nat) (x2 : Int32) (x3 : Int32) (S : ox_St) (mr sr : Nat) (Q : ox_Q) : Prop := ox_C E (ox_mi 47).2.2.2.1 (ox_mc 47) (ox_cut 47) Q 721 [some (.inr (.inr (x0))), some (.inr (.inr (x1))), some (.inl (x2)), some (.inl (x3))] [] S mr sr
def k_47_728 (E : ox_E) (x0 : Nat) (x1 : Nat) (x2 : Int32) (x3 : Int32) (mr sr : Nat) (Q : ox_Q) : ox_Q := fun r_ T_ => ox_C E (ox_mi 47).2.2.2.1 (ox_mc 47) (ox_cut 47) Q 728 [some (.inr (.inr (x0))), some (.inr (.inr (x1))), some (.inl (x2)), some (.inl (x3))] (r_.toList ++ []) T_ mr sr
def c_47_729 (E : ox_E) (x0 : Nat) (x1 : Nat) (x2 : Int32) (x3 : Int32) (S : ox_St) (mr sr : Nat) (Q : ox_Q) : Prop := ox_C E (ox_mi 47).2.2.2.1 (ox_mc 47) (ox_cut 47) Q 729 [some (.inr (.inr (x0))), some (.inr (.inr (x1))), some (.inl (x2)), some (.inl (x3))] [] S mr sr
def k_47_735 (E : ox_E) (x0 : Nat) (x1 : Nat) (x2 : Int32) (x3 : Int32) (mr sr : Nat) (Q : ox_Q) : ox_Q := fun r_ T_ => ox_C E (ox_mi 47).2.2.2.1 (ox_mc 47) (ox_cut 47) Q 735 [some (.inr (.inr (x0))), some (.inr (.inr (x1))), some (.inl (x2)), some (.inl (x3))] (r_.toList ++ []) T_ mr sr
def c_47_736 (E : ox_E) (x0 : Nat) (x1 : Nat) (x2 : Int32) (x3 : Int32) (S : ox_St) (mr sr : Nat) (Q : ox_Q) : Prop := ox_C E (ox_mi 47).2.2.2.1 (ox_mc 47) (ox_cut 47) Q 736 [some (.inr (.inr (x0))), some (.inr (.inr (x1))), some (.inl (x2)), some (.inl (x3))] [] S mr sr
def k_47_743 (E : ox_E) (x0 : Nat) (x1 : Nat) (x2 : Int32) (x3 : Int32) (mr sr : Nat) (Q : ox_Q) : ox_Q := fun r_ T_ => ox_C E (ox_mi 47).2.2.2.1 (ox_mc 47) (ox_cut 47) Q 743 [some (.inr (.inr (x0))), some (.inr (.inr (x1))), some (.inl (x2)), some (.inl (x3))] (r_.toList ++ []) T_ mr sr
def c_47_744 (E : ox_E) (x0 : Nat) (x1 : Nat) (x2 : Int32) (x3 : Int32) (S : ox_St) (mr sr : Nat) (Q : ox_Q) : Prop := ox_C E (ox_mi 47).2.2.2.1 (ox_mc 47) (ox_cut 47) Q 744 [some (.inr (.inr (x0))), some (.inr (.inr (x1))), some (.inl (x2)), some (.inl (x3))] [] S mr sr
def k_47_751 (E : ox_E) (x0 : Nat) (x1 : Nat) (x2 : Int32) (x3 : Int32) (mr sr : Nat) (Q : ox_Q) : ox_Q := fun r_ T_ => ox_C E (ox_mi 47).2.2.2.1 (ox_mc 47) (ox_cut 47) Q 751 [some (.inr (.inr (x0))), some (.inr (.inr (x1))), some (.inl (x2)), some (.inl (x3))] (r_.toList ++ []) T_ mr sr
def k_47_756 (E : ox_E) (x0 : Nat) (x1 : Nat) (x2 : Int32) (x3 : Int32) (mr sr : Nat) (Q : ox_Q) : ox_Q := fun r_ T_ => ox_C E (ox_mi 47).2.2.2.1 (ox_mc 47) (ox_cut 47) Q 756 [some (.inr (.inr (x0))), some (.inr (.inr (x1))), some (.inl (x2)), some (.inl (x3))] (r_.toList ++ []) T_ mr sr
def k_47_763 (E : ox_E) (x0 : Nat) (x1 : Nat) (x2 : Int32) (x3 : Int32) (mr sr : Nat) (Q : ox_Q) : ox_Q := fun r_ T_ => ox_C E (ox_mi 47).2.2.2.1 (ox_mc 47) (ox_cut 47) Q 763 [some (.inr (.inr (x0))), some (.inr (.inr (x1))), some (.inl (x2)), some (.inl (x3))] (r_.toList ++ []) T_ mr sr
def k_47_769 (E : ox_E) (x0 : Nat) (x1 : Nat) (x2 : Int32) (x3 : Int32) (mr sr : Nat) (Q : ox_Q) : ox_Q := fun r_ T_ => ox_C E (ox_mi 47).2.2.2.1 (ox_mc 47) (ox_cut 47) Q 769 [some (.inr (.inr (x0))), some (.inr (.inr (x1))), some (.inl (x2)), some (.inl (x3))] (r_.toList ++ []) T_ mr sr
def k_47_775 (E : ox_E) (x0 : Nat) (x1 : Nat) (x2 : Int32) (x3 : Int32) (mr sr : Nat) (Q : ox_Q) : ox_Q := fun r_ T_ => ox_C E (ox_mi 47).2.2.2.1 (ox_mc 47) (ox_cut 47) Q 775 [some (.inr (.inr (x0))), some (.inr (.inr (x1))), some (.inl (x2)), some (.inl (x3))] (r_.toList ++ []) T_ mr sr
def k_47_778 (E : ox_E) (x0 : Nat) (x1 : Nat) (x2 : Int32) (x3 : Int32) (mr sr : Nat) (Q : ox_Q) : ox_Q := fun r_ T_ => ox_C E (ox_mi 47).2.2.2.1 (ox_mc 47) (ox_cut 47) Q 778 [some (.inr (.inr (x0))), some (.inr (.inr (x1))), some (.inl (x2)), some (.inl (x3))] (r_.toList ++ []) T_ mr sr
def c_47_779 (E : ox_E) (x0 : Nat) (x1 : Nat) (x2 : Int32) (x3 : Int32) (S : ox_St) (mr sr : Nat) (Q : ox_Q) : Prop := ox_C E (ox_mi 47).2.2.2.1 (ox_mc 47) (ox_cut 47) Q 779 [some (.inr (.inr (x0))), some (.inr (.inr (x1))), some (.inl (x2)), some (.inl (x3))] [] S mr sr
set_option maxRecDepth 20000 in
def q_47_779 (E : ox_E) (x0 : Nat) (x1 : Nat) (x2 : Int32) (x3 : Int32) (S : ox_St) (mr sr : Nat) (Q : ox_Q) : Prop :=
  (True ∧ Q (some (.inl (0 : Int32))) S)
set_option maxRecDepth 20000 in
set_option maxHeartbeats 4000000 in
theorem f_47_779 {E : ox_E} (hE : ox_mono E) {mr sr : Nat} {x0 : Nat} {x1 : Nat} {x2 : Int32} {x3 : Int32} {S : ox_St} {Q : ox_Q} (h : q_47_779 E x0 x1 x2 x3 S mr sr Q) : c_47_779 E x0 x1 x2 x3 S mr sr Q := ox_C_fold hE h
set_option maxRecDepth 20000 in
def q_47_778 (E : ox_E) (x0 : Nat) (x1 : Nat) (x2 : Int32) (x3 : Int32) (y0 : Int32) (S : ox_St) (mr sr : Nat) (Q : ox_Q) : Prop :=
  (True ∧ Q (some (.inl y0)) S)
set_option maxRecDepth 20000 in
set_option maxHeartbeats 4000000 in
theorem f_47_778 {E : ox_E} (hE : ox_mono E) {mr sr : Nat} {x0 : Nat} {x1 : Nat} {x2 : Int32} {x3 : Int32} {y0 : Int32} {S : ox_St} {Q : ox_Q} (h : q_47_778 E x0 x1 x2 x3 y0 S mr sr Q) : k_47_778 E x0 x1 x2 x3 mr sr Q (some (.inl (y0))) S := ox_C_fold hE h
set_option maxRecDepth 20000 in
def q_47_775 (E : ox_E) (x0 : Nat) (x1 : Nat) (x2 : Int32) (x3 : Int32) (y0 : Nat) (S : ox_St) (mr sr : Nat) (Q : ox_Q) : Prop :=
  (1 ≤ 1 ∧ 0 ≤ 8 ∧ ∃ mc1 mk2, mc1 ≤ mr ∧ mk2 ≤ sr ∧ E 72 [.inr (.inr (y0))] mc1 mk2 S (k_47_778 E x0 x1 x2 x3 (mr - mc1) (sr - mk2) Q))
set_option maxRecDepth 20000 in
set_option maxHeartbeats 4000000 in
theorem f_47_775 {E : ox_E} (hE : ox_mono E) {mr sr : Nat} {x0 : Nat} {x1 : Nat} {x2 : Int32} {x3 : Int32} {y0 : Nat} {S : ox_St} {Q : ox_Q} (h : q_47_775 E x0 x1 x2 x3 y0 S mr sr Q) : k_47_775 E x0 x1 x2 x3 mr sr Q (some (.inr (.inr (y0)))) S := ox_C_fold hE h
set_option maxRecDepth 20000 in
def q_47_769 (E : ox_E) (x0 : Nat) (x1 : Nat) (x2 : Int32) (x3 : Int32) (y0 : Int32) (S : ox_St) (mr sr : Nat) (Q : ox_Q) : Prop :=
  (True ∧ Q (some (.inl y0)) S)
set_option maxRecDepth 20000 in
set_option maxHeartbeats 4000000 in
theorem f_47_769 {E : ox_E} (hE : ox_mono E) {mr sr : Nat} {x0 : Nat} {x1 : Nat} {x2 : Int32} {x3 : Int32} {y0 : Int32} {S : ox_St} {Q : ox_Q} (h : q_47_769 E x0 x1 x2 x3 y0 S mr sr Q) : k_47_769 E x0 x1 x2 x3 mr sr Q (some (.inl (y0))) S := ox_C_fold hE h
set_option maxRecDepth 20000 in
def q_47_763 (E : ox_E) (x0 : Nat) (x1 : Nat) (x2 : Int32) (x3 : Int32) (y0 : Int32) (S : ox_St) (mr sr : Nat) (Q : ox_Q) : Prop :=
  (True ∧ Q (some (.inl y0)) S)
set_option maxRecDepth 20000 in
set_option maxHeartbeats 4000000 in
theorem f_47_763 {E : ox_E} (hE : ox_mono E) {mr sr : Nat} {x0 : Nat} {x1 : Nat} {x2 : Int32} {x3 : Int32} {y0 : Int32} {S : ox_St} {Q : ox_Q} (h : q_47_763 E x0 x1 x2 x3 y0 S mr sr Q) : k_47_763 E x0 x1 x2 x3 mr sr Q (some (.inl (y0))) S := ox_C_fold hE h
set_option maxRecDepth 20000 in
def q_47_756 (E : ox_E) (x0 : Nat) (x1 : Nat) (x2 : Int32) (x3 : Int32) (y0 : Int32) (S : ox_St) (mr sr : Nat) (Q : ox_Q) : Prop :=
  (True ∧ Q (some (.inl y0)) S)
set_option maxRecDepth 20000 in
set_option maxHeartbeats 4000000 in
theorem f_47_756 {E : ox_E} (hE : ox_mono E) {mr sr : Nat} {x0 : Nat} {x1 : Nat} {x2 : Int32} {x3 : Int32} {y0 : Int32} {S : ox_St} {Q : ox_Q} (h : q_47_756 E x0 x1 x2 x3 y0 S mr sr Q) : k_47_756 E x0 x1 x2 x3 mr sr Q (some (.inl (y0))) S := ox_C_fold hE h
set_option maxRecDepth 20000 in
def q_47_751 (E : ox_E) (x0 : Nat) (x1 : Nat) (x2 : Int32) (x3 : Int32) (y0 : Int32) (S : ox_St) (mr sr : Nat) (Q : ox_Q) : Prop :=
  (True ∧ Q (some (.inl y0)) S)
set_option maxRecDepth 20000 in
set_option maxHeartbeats 4000000 in
theorem f_47_751 {E : ox_E} (hE : ox_mono E) {mr sr : Nat} {x0 : Nat} {x1 : Nat} {x2 : Int32} {x3 : Int32} {y0 : Int32} {S : ox_St} {Q : ox_Q} (h : q_47_751 E x0 x1 x2 x3 y0 S mr sr Q) : k_47_751 E x0 x1 x2 x3 mr sr Q (some (.inl (y0))) S := ox_C_fold hE h
set_option maxRecDepth 20000 in
def q_47_744 (E : ox_E) (x0 : Nat) (x1 : Nat) (x2 : Int32) (x3 : Int32) (S : ox_St) (mr sr : Nat) (Q : ox_Q) : Prop :=
  (4 ≤ 4 ∧ S.K x0 = 7 ∧ 0 ≤ 8 ∧ ∃ mc1 mk2, mc1 ≤ mr ∧ mk2 ≤ sr ∧ E 69 [.inr (.inr (x0)), .inr (.inr (x1)), .inl (x2), .inl (x3)] mc1 mk2 S (k_47_751 E x0 x1 x2 x3 (mr - mc1) (sr - mk2) Q))
set_option maxRecDepth 20000 in
set_option maxHeartbeats 4000000 in
theorem f_47_744 {E : ox_E} (hE : ox_mono E) {mr sr : Nat} {x0 : Nat} {x1 : Nat} {x2 : Int32} {x3 : Int32} {S : ox_St} {Q : ox_Q} (h : q_47_744 E x0 x1 x2 x3 S mr sr Q) : c_47_744 E x0 x1 x2 x3 S mr sr Q := ox_C_fold hE h
set_option maxRecDepth 20000 in
def q_47_743 (E : ox_E) (x0 : Nat) (x1 : Nat) (x2 : Int32) (x3 : Int32) (y0 : Int32) (S : ox_St) (mr sr : Nat) (Q : ox_Q) : Prop :=
  (True ∧ Q (some (.inl y0)) S)
set_option maxRecDepth 20000 in
set_option maxHeartbeats 4000000 in
theorem f_47_743 {E : ox_E} (hE : ox_mono E) {mr sr : Nat} {x0 : Nat} {x1 : Nat} {x2 : Int32} {x3 : Int32} {y0 : Int32} {S : ox_St} {Q : ox_Q} (h : q_47_743 E x0 x1 x2 x3 y0 S mr sr Q) : k_47_743 E x0 x1 x2 x3 mr sr Q (some (.inl (y0))) S := ox_C_fold hE h
set_option maxRecDepth 20000 in
def q_47_736 (E : ox_E) (x0 : Nat) (x1 : Nat) (x2 : Int32) (x3 : Int32) (S : ox_St) (mr sr : Nat) (Q : ox_Q) : Prop :=
  (4 ≤ 4 ∧ S.K x0 = 7 ∧ 0 ≤ 8 ∧ ∃ mc1 mk2, mc1 ≤ mr ∧ mk2 ≤ sr ∧ E 68 [.inr (.inr (x0)), .inr (.inr (x1)), .inl (x2), .inl (x3)] mc1 mk2 S (k_47_743 E x0 x1 x2 x3 (mr - mc1) (sr - mk2) Q))
set_option maxRecDepth 20000 in
set_option maxHeartbeats 4000000 in
theorem f_47_736 {E : ox_E} (hE : ox_mono E) {mr sr : Nat} {x0 : Nat} {x1 : Nat} {x2 : Int32} {x3 : Int32} {S : ox_St} {Q : ox_Q} (h : q_47_736 E x0 x1 x2 x3 S mr sr Q) : c_47_736 E x0 x1 x2 x3 S mr sr Q := ox_C_fold hE h
set_option maxRecDepth 20000 in
def q_47_735 (E : ox_E) (x0 : Nat) (x1 : Nat) (x2 : Int32) (x3 : Int32) (y0 : Int32) (S : ox_St) (mr sr : Nat) (Q : ox_Q) : Prop :=
  (True ∧ Q (some (.inl y0)) S)
set_option maxRecDepth 20000 in
set_option maxHeartbeats 4000000 in
theorem f_47_735 {E : ox_E} (hE : ox_mono E) {mr sr : Nat} {x0 : Nat} {x1 : Nat} {x2 : Int32} {x3 : Int32} {y0 : Int32} {S : ox_St} {Q : ox_Q} (h : q_47_735 E x0 x1 x2 x3 y0 S mr sr Q) : k_47_735 E x0 x1 x2 x3 mr sr Q (some (.inl (y0))) S := ox_C_fold hE h
set_option maxRecDepth 20000 in
def q_47_729 (E : ox_E) (x0 : Nat) (x1 : Nat) (x2 : Int32) (x3 : Int32) (S : ox_St) (mr sr : Nat) (Q : ox_Q) : Prop :=
  (3 ≤ 3 ∧ 0 ≤ 8 ∧ ∃ mc1 mk2, mc1 ≤ mr ∧ mk2 ≤ sr ∧ E 53 [.inr (.inr (x1)), .inl (x2), .inl (x3)] mc1 mk2 S (k_47_735 E x0 x1 x2 x3 (mr - mc1) (sr - mk2) Q))
set_option maxRecDepth 20000 in
set_option maxHeartbeats 4000000 in
theorem f_47_729 {E : ox_E} (hE : ox_mono E) {mr sr : Nat} {x0 : Nat} {x1 : Nat} {x2 : Int32} {x3 : Int32} {S : ox_St} {Q : ox_Q} (h : q_47_729 E x0 x1 x2 x3 S mr sr Q) : c_47_729 E x0 x1 x2 x3 S mr sr Q := ox_C_fold hE h
set_option maxRecDepth 20000 in
def q_47_728 (E : ox_E) (x0 : Nat) (x1 : Nat) (x2 : Int32) (x3 : Int32) (y0 : Int32) (S : ox_St) (mr sr : Nat) (Q : ox_Q) : Prop :=
  (True ∧ Q (some (.inl y0)) S)
set_option maxRecDepth 20000 in
set_option maxHeartbeats 4000000 in
theorem f_47_728 {E : ox_E} (hE : ox_mono E) {mr sr : Nat} {x0 : Nat} {x1 : Nat} {x2 : Int32} {x3 : Int32} {y0 : Int32} {S : ox_St} {Q : ox_Q} (h : q_47_728 E x0 x1 x2 x3 y0 S mr sr Q) : k_47_728 E x0 x1 x2 x3 mr sr Q (some (.inl (y0))) S := ox_C_fold hE h
set_option maxRecDepth 20000 in
def q_47_721 (E : ox_E) (x0 : Nat) (x1 : Nat) (x2 : Int32) (x3 : Int32) (S : ox_St) (mr sr : Nat) (Q : ox_Q) : Prop :=
  (4 ≤ 4 ∧ S.K x0 = 7 ∧ 0 ≤ 8 ∧ ∃ mc1 mk2, mc1 ≤ mr ∧ mk2 ≤ sr ∧ E 52 [.inr (.inr (x0)), .inr (.inr (x1)), .inl (x2), .inl (x3)] mc1 mk2 S (k_47_728 E x0 x1 x2 x3 (mr - mc1) (sr - mk2) Q))
set_option maxRecDepth 20000 in
set_option maxHeartbeats 4000000 in
theorem f_47_721 {E : ox_E} (hE : ox_mono E) {mr sr : Nat} {x0 : Nat} {x1 : Nat} {x2 : Int32} {x3 : Int32} {S : ox_St} {Q : ox_Q} (h : q_47_721 E x0 x1 x2 x3 S mr sr Q) : c_47_721 E x0 x1 x2 x3 S mr sr Q := ox_C_fold hE h
set_option maxRecDepth 20000 in
def q_47_720 (E : ox_E) (x0 : Nat) (x1 : Nat) (x2 : Int32) (x3 : Int32) (y0 : Int32) (S : ox_St) (mr sr : Nat) (Q : ox_Q) : Prop :=
  (True ∧ Q (some (.inl y0)) S)
set_option maxRecDepth 20000 in
set_option maxHeartbeats 4000000 in
theorem f_47_720 {E : ox_E} (hE : ox_mono E) {mr sr : Nat} {x0 : Nat} {x1 : Nat} {x2 : Int32} {x3 : Int32} {y0 : Int32} {S : ox_St} {Q : ox_Q} (h : q_47_720 E x0 x1 x2 x3 y0 S mr sr Q) : k_47_720 E x0 x1 x2 x3 mr sr Q (some (.inl (y0))) S := ox_C_fold hE h
set_option maxRecDepth 20000 in
def q_47_714 (E : ox_E) (x0 : Nat) (x1 : Nat) (x2 : Int32) (x3 : Int32) (y0 : Int32) (S : ox_St) (mr sr : Nat) (Q : ox_Q) : Prop :=
  (True ∧ Q (some (.inl y0)) S)
set_option maxRecDepth 20000 in
set_option maxHeartbeats 4000000 in
theorem f_47_714 {E : ox_E} (hE : ox_mono E) {mr sr : Nat} {x0 : Nat} {x1 : Nat} {x2 : Int32} {x3 : Int32} {y0 : Int32} {S : ox_St} {Q : ox_Q} (h : q_47_714 E x0 x1 x2 x3 y0 S mr sr Q) : k_47_714 E x0 x1 x2 x3 mr sr Q (some (.inl (y0))) S := ox_C_fold hE h
set_option maxRecDepth 20000 in
def q_47_708 (E : ox_E) (x0 : Nat) (x1 : Nat) (x2 : Int32) (x3 : Int32) (y0 : Int32) (S : ox_St) (mr sr : Nat) (Q : ox_Q) : Prop :=
  (True ∧ Q (some (.inl y0)) S)
set_option maxRecDepth 20000 in
set_option maxHeartbeats 4000000 in
theorem f_47_708 {E : ox_E} (hE : ox_mono E) {mr sr : Nat} {x0 : Nat} {x1 : Nat} {x2 : Int32} {x3 : Int32} {y0 : Int32} {S : ox_St} {Q : ox_Q} (h : q_47_708 E x0 x1 x2 x3 y0 S mr sr Q) : k_47_708 E x0 x1 x2 x3 mr sr Q (some (.inl (y0))) S := ox_C_fold hE h
set_option maxRecDepth 20000 in
def q_47_702 (E : ox_E) (x0 : Nat) (x1 : Nat) (x2 : Int32) (x3 : Int32) (y0 : Int32) (S : ox_St) (mr sr : Nat) (Q : ox_Q) : Prop :=
  (True ∧ Q (some (.inl y0)) S)
set_option maxRecDepth 20000 in
set_option maxHeartbeats 4000000 in
theorem f_47_702 {E : ox_E} (hE : ox_mono E) {mr sr : Nat} {x0 : Nat} {x1 : Nat} {x2 : Int32} {x3 : Int32} {y0 : Int32} {S : ox_St} {Q : ox_Q} (h : q_47_702 E x0 x1 x2 x3 y0 S mr sr Q) : k_47_702 E x0 x1 x2 x3 mr sr Q (some (.inl (y0))) S := ox_C_fold hE h
set_option maxRecDepth 20000 in
def q_47_697 (E : ox_E) (x0 : Nat) (x1 : Nat) (x2 : Int32) (x3 : Int32) (y0 : Int32) (S : ox_St) (mr sr : Nat) (Q : ox_Q) : Prop :=
  (True ∧ Q (some (.inl y0)) S)
set_option maxRecDepth 20000 in
set_option maxHeartbeats 4000000 in
theorem f_47_697 {E : ox_E} (hE : ox_mono E) {mr sr : Nat} {x0 : Nat} {x1 : Nat} {x2 : Int32} {x3 : Int32} {y0 : Int32} {S : ox_St} {Q : ox_Q} (h : q_47_697 E x0 x1 x2 x3 y0 S mr sr Q) : k_47_697 E x0 x1 x2 x3 mr sr Q (some (.inl (y0))) S := ox_C_fold hE h
set_option maxRecDepth 20000 in
def q_47_690 (E : ox_E) (x0 : Nat) (x1 : Nat) (x2 : Int32) (x3 : Int32) (y0 : Int32) (S : ox_St) (mr sr : Nat) (Q : ox_Q) : Prop :=
  (True ∧ Q (some (.inl y0)) S)
set_option maxRecDepth 20000 in
set_option maxHeartbeats 4000000 in
theorem f_47_690 {E : ox_E} (hE : ox_mono E) {mr sr : Nat} {x0 : Nat} {x1 : Nat} {x2 : Int32} {x3 : Int32} {y0 : Int32} {S : ox_St} {Q : ox_Q} (h : q_47_690 E x0 x1 x2 x3 y0 S mr sr Q) : k_47_690 E x0 x1 x2 x3 mr sr Q (some (.inl (y0))) S := ox_C_fold hE h
set_option maxRecDepth 20000 in
def q_47_684 (E : ox_E) (x0 : Nat) (x1 : Nat) (x2 : Int32) (x3 : Int32) (y0 : Int32) (S : ox_St) (mr sr : Nat) (Q : ox_Q) : Prop :=
  (True ∧ Q (some (.inl y0)) S)
set_option maxRecDepth 20000 in
set_option maxHeartbeats 4000000 in
theorem f_47_684 {E : ox_E} (hE : ox_mono E) {mr sr : Nat} {x0 : Nat} {x1 : Nat} {x2 : Int32} {x3 : Int32} {y0 : Int32} {S : ox_St} {Q : ox_Q} (h : q_47_684 E x0 x1 x2 x3 y0 S mr sr Q) : k_47_684 E x0 x1 x2 x3 mr sr Q (some (.inl (y0))) S := ox_C_fold hE h
set_option maxRecDepth 20000 in
def q_47_678 (E : ox_E) (x0 : Nat) (x1 : Nat) (x2 : Int32) (x3 : Int32) (S : ox_St) (mr sr : Nat) (Q : ox_Q) : Prop :=
  (3 ≤ 3 ∧ S.K x0 = 7 ∧ 0 ≤ 8 ∧ ∃ mc1 mk2, mc1 ≤ mr ∧ mk2 ≤ sr ∧ E 58 [.inr (.inr (x0)), .inr (.inr (x1)), .inl (x2)] mc1 mk2 S (k_47_684 E x0 x1 x2 x3 (mr - mc1) (sr - mk2) Q))
set_option maxRecDepth 20000 in
set_option maxHeartbeats 4000000 in
theorem f_47_678 {E : ox_E} (hE : ox_mono E) {mr sr : Nat} {x0 : Nat} {x1 : Nat} {x2 : Int32} {x3 : Int32} {S : ox_St} {Q : ox_Q} (h : q_47_678 E x0 x1 x2 x3 S mr sr Q) : c_47_678 E x0 x1 x2 x3 S mr sr Q := ox_C_fold hE h
set_option maxRecDepth 20000 in
def q_47_677 (E : ox_E) (x0 : Nat) (x1 : Nat) (x2 : Int32) (x3 : Int32) (y0 : Int32) (S : ox_St) (mr sr : Nat) (Q : ox_Q) : Prop :=
  (True ∧ Q (some (.inl y0)) S)
set_option maxRecDepth 20000 in
set_option maxHeartbeats 4000000 in
theorem f_47_677 {E : ox_E} (hE : ox_mono E) {mr sr : Nat} {x0 : Nat} {x1 : Nat} {x2 : Int32} {x3 : Int32} {y0 : Int32} {S : ox_St} {Q : ox_Q} (h : q_47_677 E x0 x1 x2 x3 y0 S mr sr Q) : k_47_677 E x0 x1 x2 x3 mr sr Q (some (.inl (y0))) S := ox_C_fold hE h
set_option maxRecDepth 20000 in
def q_47_674 (E : ox_E) (x0 : Nat) (x1 : Nat) (x2 : Int32) (x3 : Int32) (y0 : Nat) (y1 : Int32) (y2 : Nat) (S : ox_St) (mr sr : Nat) (Q : ox_Q) : Prop :=
  (3 ≤ 3 ∧ 0 ≤ 8 ∧ ∃ mc1 mk2, mc1 ≤ mr ∧ mk2 ≤ sr ∧ E 50 [.inr (.inr (y2)), .inl (y1), .inr (.inr (y0))] mc1 mk2 S (k_47_677 E x0 x1 x2 x3 (mr - mc1) (sr - mk2) Q))
set_option maxRecDepth 20000 in
set_option maxHeartbeats 4000000 in
theorem f_47_674 {E : ox_E} (hE : ox_mono E) {mr sr : Nat} {x0 : Nat} {x1 : Nat} {x2 : Int32} {x3 : Int32} {y0 : Nat} {y1 : Int32} {y2 : Nat} {S : ox_St} {Q : ox_Q} (h : q_47_674 E x0 x1 x2 x3 y0 y1 y2 S mr sr Q) : k_47_674 E x0 x1 x2 x3 y1 y2 mr sr Q (some (.inr (.inr (y0)))) S := ox_C_fold hE h
set_option maxRecDepth 20000 in
def q_47_671 (E : ox_E) (x0 : Nat) (x1 : Nat) (x2 : Int32) (x3 : Int32) (y0 : Int32) (y1 : Nat) (y2 : Int32) (y3 : Nat) (S : ox_St) (mr sr : Nat) (Q : ox_Q) : Prop :=
  (2 ≤ 4 ∧ S.K y1 = 7 ∧ 2 ≤ 8 ∧ ∃ mc1 mk2, mc1 ≤ mr ∧ mk2 ≤ sr ∧ E 54 [.inr (.inr (y1)), .inl (y0)] mc1 mk2 S (k_47_674 E x0 x1 x2 x3 y2 y3 (mr - mc1) (sr - mk2) Q))
set_option maxRecDepth 20000 in
set_option maxHeartbeats 4000000 in
theorem f_47_671 {E : ox_E} (hE : ox_mono E) {mr sr : Nat} {x0 : Nat} {x1 : Nat} {x2 : Int32} {x3 : Int32} {y0 : Int32} {y1 : Nat} {y2 : Int32} {y3 : Nat} {S : ox_St} {Q : ox_Q} (h : q_47_671 E x0 x1 x2 x3 y0 y1 y2 y3 S mr sr Q) : k_47_671 E x0 x1 x2 x3 y1 y2 y3 mr sr Q (some (.inl (y0))) S := ox_C_fold hE h
set_option maxRecDepth 20000 in
def q_47_668 (E : ox_E) (x0 : Nat) (x1 : Nat) (x2 : Int32) (x3 : Int32) (y0 : Nat) (y1 : Nat) (y2 : Int32) (y3 : Nat) (S : ox_St) (mr sr : Nat) (Q : ox_Q) : Prop :=
  (1 ≤ 4 ∧ 3 ≤ 8 ∧ ∃ mc1 mk2, mc1 ≤ mr ∧ mk2 ≤ sr ∧ E 55 [.inr (.inr (y0))] mc1 mk2 S (k_47_671 E x0 x1 x2 x3 y1 y2 y3 (mr - mc1) (sr - mk2) Q))
set_option maxRecDepth 20000 in
set_option maxHeartbeats 4000000 in
theorem f_47_668 {E : ox_E} (hE : ox_mono E) {mr sr : Nat} {x0 : Nat} {x1 : Nat} {x2 : Int32} {x3 : Int32} {y0 : Nat} {y1 : Nat} {y2 : Int32} {y3 : Nat} {S : ox_St} {Q : ox_Q} (h : q_47_668 E x0 x1 x2 x3 y0 y1 y2 y3 S mr sr Q) : k_47_668 E x0 x1 x2 x3 y1 y2 y3 mr sr Q (some (.inr (.inr (y0)))) S := ox_C_fold hE h
set_option maxRecDepth 20000 in
def q_47_659 (E : ox_E) (x0 : Nat) (x1 : Nat) (x2 : Int32) (x3 : Int32) (y0 : Int32) (S : ox_St) (mr sr : Nat) (Q : ox_Q) : Prop :=
  (True ∧ Q (some (.inl y0)) S)
set_option maxRecDepth 20000 in
set_option maxHeartbeats 4000000 in
theorem f_47_659 {E : ox_E} (hE : ox_mono E) {mr sr : Nat} {x0 : Nat} {x1 : Nat} {x2 : Int32} {x3 : Int32} {y0 : Int32} {S : ox_St} {Q : ox_Q} (h : q_47_659 E x0 x1 x2 x3 y0 S mr sr Q) : k_47_659 E x0 x1 x2 x3 mr sr Q (some (.inl (y0))) S := ox_C_fold hE h
set_option maxRecDepth 20000 in
def q_47_653 (E : ox_E) (x0 : Nat) (x1 : Nat) (x2 : Int32) (x3 : Int32) (y0 : Int32) (S : ox_St) (mr sr : Nat) (Q : ox_Q) : Prop :=
  (True ∧ Q (some (.inl y0)) S)
set_option maxRecDepth 20000 in
set_option maxHeartbeats 4000000 in
theorem f_47_653 {E : ox_E} (hE : ox_mono E) {mr sr : Nat} {x0 : Nat} {x1 : Nat} {x2 : Int32} {x3 : Int32} {y0 : Int32} {S : ox_St} {Q : ox_Q} (h : q_47_653 E x0 x1 x2 x3 y0 S mr sr Q) : k_47_653 E x0 x1 x2 x3 mr sr Q (some (.inl (y0))) S := ox_C_fold hE h
set_option maxRecDepth 20000 in
def q_47_648 (E : ox_E) (x0 : Nat) (x1 : Nat) (x2 : Int32) (x3 : Int32) (S : ox_St) (mr sr : Nat) (Q : ox_Q) : Prop :=
  (2 ≤ 2 ∧ 0 ≤ 8 ∧ ∃ mc1 mk2, mc1 ≤ mr ∧ mk2 ≤ sr ∧ E 51 [.inr (.inr (x1)), .inl (x2)] mc1 mk2 S (k_47_653 E x0 x1 x2 x3 (mr - mc1) (sr - mk2) Q))
set_option maxRecDepth 20000 in
set_option maxHeartbeats 4000000 in
theorem f_47_648 {E : ox_E} (hE : ox_mono E) {mr sr : Nat} {x0 : Nat} {x1 : Nat} {x2 : Int32} {x3 : Int32} {S : ox_St} {Q : ox_Q} (h : q_47_648 E x0 x1 x2 x3 S mr sr Q) : c_47_648 E x0 x1 x2 x3 S mr sr Q := ox_C_fold hE h
set_option maxRecDepth 20000 in
def q_47_106 (E : ox_E) (x0 : Nat) (x1 : Nat) (x2 : Int32) (x3 : Int32) (S : ox_St) (mr sr : Nat) (Q : ox_Q) : Prop :=
  ((Int32.toInt x2 = 1 → c_47_648 E x0 x1 x2 x3 S mr sr Q) ∧ (¬ Int32.toInt x2 = 1 → ((Int32.toInt x2 = 2 → c_47_648 E x0 x1 x2 x3 S mr sr Q) ∧ (¬ Int32.toInt x2 = 2 → ((Int32.toInt x2 = 3 → c_47_648 E x0 x1 x2 x3 S mr sr Q) ∧ (¬ Int32.toInt x2 = 3 → ((Int32.toInt x2 = 4 → c_47_648 E x0 x1 x2 x3 S mr sr Q) ∧ (¬ Int32.toInt x2 = 4 → ((Int32.toInt x2 = 5 → c_47_779 E x0 x1 x2 x3 S mr sr Q) ∧ (¬ Int32.toInt x2 = 5 → ((Int32.toInt x2 = 6 → c_47_779 E x0 x1 x2 x3 S mr sr Q) ∧ (¬ Int32.toInt x2 = 6 → ((Int32.toInt x2 = 7 → c_47_779 E x0 x1 x2 x3 S mr sr Q) ∧ (¬ Int32.toInt x2 = 7 → ((Int32.toInt x2 = 8 → c_47_779 E x0 x1 x2 x3 S mr sr Q) ∧ (¬ Int32.toInt x2 = 8 → ((Int32.toInt x2 = 9 → c_47_779 E x0 x1 x2 x3 S mr sr Q) ∧ (¬ Int32.toInt x2 = 9 → ((Int32.toInt x2 = 10 → c_47_779 E x0 x1 x2 x3 S mr sr Q) ∧ (¬ Int32.toInt x2 = 10 → ((Int32.toInt x2 = 11 → (2 ≤ 2 ∧ S.K x0 = 7 ∧ 0 ≤ 8 ∧ ∃ mc23 mk24, mc23 ≤ mr ∧ mk24 ≤ sr ∧ E 57 [.inr (.inr (x0)), .inr (.inr (x1))] mc23 mk24 S (k_47_659 E x0 x1 x2 x3 (mr - mc23) (sr - mk24) Q))) ∧ (¬ Int32.toInt x2 = 11 → ((Int32.toInt x2 = 12 → (2 ≤ 5 ∧ S.K x1 = 4 ∧ 3 ≤ 8 ∧ ∃ mc21 mk22, mc21 ≤ mr ∧ mk22 ≤ sr ∧ E 21 [.inr (.inr (x1)), .inl (0)] mc21 mk22 S (k_47_668 E x0 x1 x2 x3 x0 1 x1 (mr - mc21) (sr - mk22) Q))) ∧ (¬ Int32.toInt x2 = 12 → ((Int32.toInt x2 = 13 → c_47_779 E x0 x1 x2 x3 S mr sr Q) ∧ (¬ Int32.toInt x2 = 13 → ((Int32.toInt x2 = 14 → c_47_779 E x0 x1 x2 x3 S mr sr Q) ∧ (¬ Int32.toInt x2 = 14 → ((Int32.toInt x2 = 15 → c_47_779 E x0 x1 x2 x3 S mr sr Q) ∧ (¬ Int32.toInt x2 = 15 → ((Int32.toInt x2 = 16 → c_47_779 E x0 x1 x2 x3 S mr sr Q) ∧ (¬ Int32.toInt x2 = 16 → ((Int32.toInt x2 = 17 → c_47_779 E x0 x1 x2 x3 S mr sr Q) ∧ (¬ Int32.toInt x2 = 17 → ((Int32.toInt x2 = 18 → c_47_779 E x0 x1 x2 x3 S mr sr Q) ∧ (¬ Int32.toInt x2 = 18 → ((Int32.toInt x2 = 19 → c_47_779 E x0 x1 x2 x3 S mr sr Q) ∧ (¬ Int32.toInt x2 = 19 → ((Int32.toInt x2 = 20 → c_47_678 E x0 x1 x2 x3 S mr sr Q) ∧ (¬ Int32.toInt x2 = 20 → ((Int32.toInt x2 = 21 → c_47_779 E x0 x1 x2 x3 S mr sr Q) ∧ (¬ Int32.toInt x2 = 21 → ((Int32.toInt x2 = 22 → c_47_678 E x0 x1 x2 x3 S mr sr Q) ∧ (¬ Int32.toInt x2 = 22 → ((Int32.toInt x2 = 23 → c_47_678 E x0 x1 x2 x3 S mr sr Q) ∧ (¬ Int32.toInt x2 = 23 → ((Int32.toInt x2 = 24 → c_47_678 E x0 x1 x2 x3 S mr sr Q) ∧ (¬ Int32.toInt x2 = 24 → ((Int32.toInt x2 = 25 → (2 ≤ 2 ∧ S.K x0 = 7 ∧ 0 ≤ 8 ∧ ∃ mc19 mk20, mc19 ≤ mr ∧ mk20 ≤ sr ∧ E 60 [.inr (.inr (x0)), .inr (.inr (x1))] mc19 mk20 S (k_47_690 E x0 x1 x2 x3 (mr - mc19) (sr - mk20) Q))) ∧ (¬ Int32.toInt x2 = 25 → ((Int32.toInt x2 = 26 → c_47_678 E x0 x1 x2 x3 S mr sr Q) ∧ (¬ Int32.toInt x2 = 26 → ((Int32.toInt x2 = 27 → c_47_779 E x0 x1 x2 x3 S mr sr Q) ∧ (¬ Int32.toInt x2 = 27 → ((Int32.toInt x2 = 28 → c_47_779 E x0 x1 x2 x3 S mr sr Q) ∧ (¬ Int32.toInt x2 = 28 → ((Int32.toInt x2 = 29 → c_47_779 E x0 x1 x2 x3 S mr sr Q) ∧ (¬ Int32.toInt x2 = 29 → ((Int32.toInt x2 = 30 → c_47_779 E x0 x1 x2 x3 S mr sr Q) ∧ (¬ Int32.toInt x2 = 30 → ((Int32.toInt x2 = 31 → c_47_779 E x0 x1 x2 x3 S mr sr Q) ∧ (¬ Int32.toInt x2 = 31 → ((Int32.toInt x2 = 32 → c_47_779 E x0 x1 x2 x3 S mr sr Q) ∧ (¬ Int32.toInt x2 = 32 → ((Int32.toInt x2 = 33 → c_47_779 E x0 x1 x2 x3 S mr sr Q) ∧ (¬ Int32.toInt x2 = 33 → ((Int32.toInt x2 = 34 → c_47_779 E x0 x1 x2 x3 S mr sr Q) ∧ (¬ Int32.toInt x2 = 34 → ((Int32.toInt x2 = 35 → c_47_779 E x0 x1 x2 x3 S mr sr Q) ∧ (¬ Int32.toInt x2 = 35 → ((Int32.toInt x2 = 36 → c_47_779 E x0 x1 x2 x3 S mr sr Q) ∧ (¬ Int32.toInt x2 = 36 → ((Int32.toInt x2 = 37 → c_47_779 E x0 x1 x2 x3 S mr sr Q) ∧ (¬ Int32.toInt x2 = 37 → ((Int32.toInt x2 = 38 → c_47_779 E x0 x1 x2 x3 S mr sr Q) ∧ (¬ Int32.toInt x2 = 38 → ((Int32.toInt x2 = 39 → c_47_779 E x0 x1 x2 x3 S mr sr Q) ∧ (¬ Int32.toInt x2 = 39 → ((Int32.toInt x2 = 40 → c_47_779 E x0 x1 x2 x3 S mr sr Q) ∧ (¬ Int32.toInt x2 = 40 → ((Int32.toInt x2 = 41 → c_47_779 E x0 x1 x2 x3 S mr sr Q) ∧ (¬ Int32.toInt x2 = 41 → ((Int32.toInt x2 = 42 → c_47_779 E x0 x1 x2 x3 S mr sr Q) ∧ (¬ Int32.toInt x2 = 42 → ((Int32.toInt x2 = 43 → c_47_779 E x0 x1 x2 x3 S mr sr Q) ∧ (¬ Int32.toInt x2 = 43 → ((Int32.toInt x2 = 44 → c_47_779 E x0 x1 x2 x3 S mr sr Q) ∧ (¬ Int32.toInt x2 = 44 → ((Int32.toInt x2 = 45 → c_47_779 E x0 x1 x2 x3 S mr sr Q) ∧ (¬ Int32.toInt x2 = 45 → ((Int32.toInt x2 = 46 → c_47_779 E x0 x1 x2 x3 S mr sr Q) ∧ (¬ Int32.toInt x2 = 46 → ((Int32.toInt x2 = 47 → c_47_779 E x0 x1 x2 x3 S mr sr Q) ∧ (¬ Int32.toInt x2 = 47 → ((Int32.toInt x2 = 48 → c_47_779 E x0 x1 x2 x3 S mr sr Q) ∧ (¬ Int32.toInt x2 = 48 → ((Int32.toInt x2 = 49 → c_47_779 E x0 x1 x2 x3 S mr sr Q) ∧ (¬ Int32.toInt x2 = 49 → ((Int32.toInt x2 = 50 → c_47_779 E x0 x1 x2 x3 S mr sr Q) ∧ (¬ Int32.toInt x2 = 50 → ((Int32.toInt x2 = 51 → c_47_779 E x0 x1 x2 x3 S mr sr Q) ∧ (¬ Int32.toInt x2 = 51 → ((Int32.toInt x2 = 52 → c_47_779 E x0 x1 x2 x3 S mr sr Q) ∧ (¬ Int32.toInt x2 = 52 → ((Int32.toInt x2 = 53 → c_47_779 E x0 x1 x2 x3 S mr sr Q) ∧ (¬ Int32.toInt x2 = 53 → ((Int32.toInt x2 = 54 → c_47_779 E x0 x1 x2 x3 S mr sr Q) ∧ (¬ Int32.toInt x2 = 54 → ((Int32.toInt x2 = 55 → c_47_779 E x0 x1 x2 x3 S mr sr Q) ∧ (¬ Int32.toInt x2 = 55 → ((Int32.toInt x2 = 56 → c_47_779 E x0 x1 x2 x3 S mr sr Q) ∧ (¬ Int32.toInt x2 = 56 → ((Int32.toInt x2 = 57 → c_47_779 E x0 x1 x2 x3 S mr sr Q) ∧ (¬ Int32.toInt x2 = 57 → ((Int32.toInt x2 = 58 → c_47_779 E x0 x1 x2 x3 S mr sr Q) ∧ (¬ Int32.toInt x2 = 58 → ((Int32.toInt x2 = 59 → c_47_779 E x0 x1 x2 x3 S mr sr Q) ∧ (¬ Int32.toInt x2 = 59 → ((Int32.toInt x2 = 60 → c_47_779 E x0 x1 x2 x3 S mr sr Q) ∧ (¬ Int32.toInt x2 = 60 → ((Int32.toInt x2 = 61 → c_47_779 E x0 x1 x2 x3 S mr sr Q) ∧ (¬ Int32.toInt x2 = 61 → ((Int32.toInt x2 = 62 → c_47_779 E x0 x1 x2 x3 S mr sr Q) ∧ (¬ Int32.toInt x2 = 62 → ((Int32.toInt x2 = 63 → c_47_779 E x0 x1 x2 x3 S mr sr Q) ∧ (¬ Int32.toInt x2 = 63 → ((Int32.toInt x2 = 64 → c_47_779 E x0 x1 x2 x3 S mr sr Q) ∧ (¬ Int32.toInt x2 = 64 → ((Int32.toInt x2 = 65 → c_47_779 E x0 x1 x2 x3 S mr sr Q) ∧ (¬ Int32.toInt x2 = 65 → ((Int32.toInt x2 = 66 → c_47_779 E x0 x1 x2 x3 S mr sr Q) ∧ (¬ Int32.toInt x2 = 66 → ((Int32.toInt x2 = 67 → c_47_779 E x0 x1 x2 x3 S mr sr Q) ∧ (¬ Int32.toInt x2 = 67 → ((Int32.toInt x2 = 68 → (1 ≤ 1 ∧ 0 ≤ 8 ∧ ∃ mc17 mk18, mc17 ≤ mr ∧ mk18 ≤ sr ∧ E 66 [.inr (.inr (x1))] mc17 mk18 S (k_47_702 E x0 x1 x2 x3 (mr - mc17) (sr - mk18) Q))) ∧ (¬ Int32.toInt x2 = 68 → ((Int32.toInt x2 = 69 → c_47_779 E x0 x1 x2 x3 S mr sr Q) ∧ (¬ Int32.toInt x2 = 69 → ((Int32.toInt x2 = 70 → c_47_779 E x0 x1 x2 x3 S mr sr Q) ∧ (¬ Int32.toInt x2 = 70 → ((Int32.toInt x2 = 71 → c_47_779 E x0 x1 x2 x3 S mr sr Q) ∧ (¬ Int32.toInt x2 = 71 → ((Int32.toInt x2 = 72 → c_47_779 E x0 x1 x2 x3 S mr sr Q) ∧ (¬ Int32.toInt x2 = 72 → ((Int32.toInt x2 = 73 → c_47_779 E x0 x1 x2 x3 S mr sr Q) ∧ (¬ Int32.toInt x2 = 73 → ((Int32.toInt x2 = 74 → c_47_779 E x0 x1 x2 x3 S mr sr Q) ∧ (¬ Int32.toInt x2 = 74 → ((Int32.toInt x2 = 75 → c_47_779 E x0 x1 x2 x3 S mr sr Q) ∧ (¬ Int32.toInt x2 = 75 → ((Int32.toInt x2 = 76 → c_47_779 E x0 x1 x2 x3 S mr sr Q) ∧ (¬ Int32.toInt x2 = 76 → ((Int32.toInt x2 = 77 → c_47_779 E x0 x1 x2 x3 S mr sr Q) ∧ (¬ Int32.toInt x2 = 77 → ((Int32.toInt x2 = 78 → c_47_779 E x0 x1 x2 x3 S mr sr Q) ∧ (¬ Int32.toInt x2 = 78 → ((Int32.toInt x2 = 79 → c_47_779 E x0 x1 x2 x3 S mr sr Q) ∧ (¬ Int32.toInt x2 = 79 → ((Int32.toInt x2 = 80 → c_47_779 E x0 x1 x2 x3 S mr sr Q) ∧ (¬ Int32.toInt x2 = 80 → ((Int32.toInt x2 = 81 → c_47_779 E x0 x1 x2 x3 S mr sr Q) ∧ (¬ Int32.toInt x2 = 81 → ((Int32.toInt x2 = 82 → c_47_779 E x0 x1 x2 x3 S mr sr Q) ∧ (¬ Int32.toInt x2 = 82 → ((Int32.toInt x2 = 83 → (2 ≤ 2 ∧ S.K x0 = 7 ∧ 0 ≤ 8 ∧ ∃ mc15 mk16, mc15 ≤ mr ∧ mk16 ≤ sr ∧ E 49 [.inr (.inr (x0)), .inr (.inr (x1))] mc15 mk16 S (k_47_769 E x0 x1 x2 x3 (mr - mc15) (sr - mk16) Q))) ∧ (¬ Int32.toInt x2 = 83 → ((Int32.toInt x2 = 84 → c_47_779 E x0 x1 x2 x3 S mr sr Q) ∧ (¬ Int32.toInt x2 = 84 → ((Int32.toInt x2 = 85 → c_47_779 E x0 x1 x2 x3 S mr sr Q) ∧ (¬ Int32.toInt x2 = 85 → ((Int32.toInt x2 = 86 → c_47_779 E x0 x1 x2 x3 S mr sr Q) ∧ (¬ Int32.toInt x2 = 86 → ((Int32.toInt x2 = 87 → c_47_729 E x0 x1 x2 x3 S mr sr Q) ∧ (¬ Int32.toInt x2 = 87 → ((Int32.toInt x2 = 88 → c_47_779 E x0 x1 x2 x3 S mr sr Q) ∧ (¬ Int32.toInt x2 = 88 → ((Int32.toInt x2 = 89 → c_47_779 E x0 x1 x2 x3 S mr sr Q) ∧ (¬ Int32.toInt x2 = 89 → ((Int32.toInt x2 = 90 → c_47_744 E x0 x1 x2 x3 S mr sr Q) ∧ (¬ Int32.toInt x2 = 90 → ((Int32.toInt x2 = 91 → c_47_779 E x0 x1 x2 x3 S mr sr Q) ∧ (¬ Int32.toInt x2 = 91 → ((Int32.toInt x2 = 92 → (2 ≤ 2 ∧ 0 ≤ 8 ∧ ∃ mc13 mk14, mc13 ≤ mr ∧ mk14 ≤ sr ∧ E 65 [.inr (.inr (x1)), .inl (x3)] mc13 mk14 S (k_47_720 E x0 x1 x2 x3 (mr - mc13) (sr - mk14) Q))) ∧ (¬ Int32.toInt x2 = 92 → ((Int32.toInt x2 = 93 → (2 ≤ 2 ∧ 0 ≤ 8 ∧ ∃ mc11 mk12, mc11 ≤ mr ∧ mk12 ≤ sr ∧ E 67 [.inr (.inr (x1)), .inl (x3)] mc11 mk12 S (k_47_708 E x0 x1 x2 x3 (mr - mc11) (sr - mk12) Q))) ∧ (¬ Int32.toInt x2 = 93 → ((Int32.toInt x2 = 94 → c_47_779 E x0 x1 x2 x3 S mr sr Q) ∧ (¬ Int32.toInt x2 = 94 → ((Int32.toInt x2 = 95 → c_47_779 E x0 x1 x2 x3 S mr sr Q) ∧ (¬ Int32.toInt x2 = 95 → ((Int32.toInt x2 = 96 → c_47_779 E x0 x1 x2 x3 S mr sr Q) ∧ (¬ Int32.toInt x2 = 96 → ((Int32.toInt x2 = 97 → c_47_779 E x0 x1 x2 x3 S mr sr Q) ∧ (¬ Int32.toInt x2 = 97 → ((Int32.toInt x2 = 98 → c_47_779 E x0 x1 x2 x3 S mr sr Q) ∧ (¬ Int32.toInt x2 = 98 → ((Int32.toInt x2 = 99 → c_47_779 E x0 x1 x2 x3 S mr sr Q) ∧ (¬ Int32.toInt x2 = 99 → ((Int32.toInt x2 = 100 → c_47_736 E x0 x1 x2 x3 S mr sr Q) ∧ (¬ Int32.toInt x2 = 100 → ((Int32.toInt x2 = 101 → c_47_736 E x0 x1 x2 x3 S mr sr Q) ∧ (¬ Int32.toInt x2 = 101 → ((Int32.toInt x2 = 102 → (2 ≤ 2 ∧ 0 ≤ 8 ∧ ∃ mc9 mk10, mc9 ≤ mr ∧ mk10 ≤ sr ∧ E 64 [.inr (.inr (x1)), .inl (x3)] mc9 mk10 S (k_47_714 E x0 x1 x2 x3 (mr - mc9) (sr - mk10) Q))) ∧ (¬ Int32.toInt x2 = 102 → ((Int32.toInt x2 = 103 → c_47_779 E x0 x1 x2 x3 S mr sr Q) ∧ (¬ Int32.toInt x2 = 103 → ((Int32.toInt x2 = 104 → c_47_779 E x0 x1 x2 x3 S mr sr Q) ∧ (¬ Int32.toInt x2 = 104 → ((Int32.toInt x2 = 105 → c_47_779 E x0 x1 x2 x3 S mr sr Q) ∧ (¬ Int32.toInt x2 = 105 → ((Int32.toInt x2 = 106 → c_47_779 E x0 x1 x2 x3 S mr sr Q) ∧ (¬ Int32.toInt x2 = 106 → ((Int32.toInt x2 = 107 → (3 ≤ 3 ∧ S.K x0 = 7 ∧ 0 ≤ 8 ∧ ∃ mc7 mk8, mc7 ≤ mr ∧ mk8 ≤ sr ∧ E 61 [.inr (.inr (x0)), .inr (.inr (x1)), .inl (x3)] mc7 mk8 S (k_47_697 E x0 x1 x2 x3 (mr - mc7) (sr - mk8) Q))) ∧ (¬ Int32.toInt x2 = 107 → ((Int32.toInt x2 = 108 → c_47_779 E x0 x1 x2 x3 S mr sr Q) ∧ (¬ Int32.toInt x2 = 108 → ((Int32.toInt x2 = 109 → c_47_779 E x0 x1 x2 x3 S mr sr Q) ∧ (¬ Int32.toInt x2 = 109 → ((Int32.toInt x2 = 110 → c_47_721 E x0 x1 x2 x3 S mr sr Q) ∧ (¬ Int32.toInt x2 = 110 → ((Int32.toInt x2 = 111 → c_47_779 E x0 x1 x2 x3 S mr sr Q) ∧ (¬ Int32.toInt x2 = 111 → ((Int32.toInt x2 = 112 → c_47_779 E x0 x1 x2 x3 S mr sr Q) ∧ (¬ Int32.toInt x2 = 112 → ((Int32.toInt x2 = 113 → c_47_721 E x0 x1 x2 x3 S mr sr Q) ∧ (¬ Int32.toInt x2 = 113 → ((Int32.toInt x2 = 114 → c_47_721 E x0 x1 x2 x3 S mr sr Q) ∧ (¬ Int32.toInt x2 = 114 → ((Int32.toInt x2 = 115 → c_47_721 E x0 x1 x2 x3 S mr sr Q) ∧ (¬ Int32.toInt x2 = 115 → ((Int32.toInt x2 = 116 → c_47_779 E x0 x1 x2 x3 S mr sr Q) ∧ (¬ Int32.toInt x2 = 116 → ((Int32.toInt x2 = 117 → c_47_779 E x0 x1 x2 x3 S mr sr Q) ∧ (¬ Int32.toInt x2 = 117 → ((Int32.toInt x2 = 118 → c_47_779 E x0 x1 x2 x3 S mr sr Q) ∧ (¬ Int32.toInt x2 = 118 → ((Int32.toInt x2 = 119 → c_47_779 E x0 x1 x2 x3 S mr sr Q) ∧ (¬ Int32.toInt x2 = 119 → ((Int32.toInt x2 = 120 → c_47_779 E x0 x1 x2 x3 S mr sr Q) ∧ (¬ Int32.toInt x2 = 120 → ((Int32.toInt x2 = 121 → c_47_779 E x0 x1 x2 x3 S mr sr Q) ∧ (¬ Int32.toInt x2 = 121 → ((Int32.toInt x2 = 122 → c_47_729 E x0 x1 x2 x3 S mr sr Q) ∧ (¬ Int32.toInt x2 = 122 → ((Int32.toInt x2 = 123 → c_47_779 E x0 x1 x2 x3 S mr sr Q) ∧ (¬ Int32.toInt x2 = 123 → ((Int32.toInt x2 = 124 → c_47_736 E x0 x1 x2 x3 S mr sr Q) ∧ (¬ Int32.toInt x2 = 124 → ((Int32.toInt x2 = 125 → c_47_744 E x0 x1 x2 x3 S mr sr Q) ∧ (¬ Int32.toInt x2 = 125 → ((Int32.toInt x2 = 126 → c_47_779 E x0 x1 x2 x3 S mr sr Q) ∧ (¬ Int32.toInt x2 = 126 → ((Int32.toInt x2 = 127 → c_47_779 E x0 x1 x2 x3 S mr sr Q) ∧ (¬ Int32.toInt x2 = 127 → ((Int32.toInt x2 = 128 → c_47_779 E x0 x1 x2 x3 S mr sr Q) ∧ (¬ Int32.toInt x2 = 128 → ((Int32.toInt x2 = 129 → c_47_779 E x0 x1 x2 x3 S mr sr Q) ∧ (¬ Int32.toInt x2 = 129 → ((Int32.toInt x2 = 130 → (2 ≤ 2 ∧ S.K x1 = 4 ∧ 0 ≤ 8 ∧ ∃ mc5 mk6, mc5 ≤ mr ∧ mk6 ≤ sr ∧ E 21 [.inr (.inr (x1)), .inl (0)] mc5 mk6 S (k_47_775 E x0 x1 x2 x3 (mr - mc5) (sr - mk6) Q))) ∧ (¬ Int32.toInt x2 = 130 → ((Int32.toInt x2 = 131 → (3 ≤ 3 ∧ S.K x0 = 7 ∧ 0 ≤ 8 ∧ ∃ mc3 mk4, mc3 ≤ mr ∧ mk4 ≤ sr ∧ E 74 [.inr (.inr (x0)), .inr (.inr (x1)), .inl (x3)] mc3 mk4 S (k_47_763 E x0 x1 x2 x3 (mr - mc3) (sr - mk4) Q))) ∧ (¬ Int32.toInt x2 = 131 → ((Int32.toInt x2 = 132 → (1 ≤ 1 ∧ 0 ≤ 8 ∧ ∃ mc1 mk2, mc1 ≤ mr ∧ mk2 ≤ sr ∧ E 73 [.inr (.inr (x1))] mc1 mk2 S (k_47_756 E x0 x1 x2 x3 (mr - mc1) (sr - mk2) Q))) ∧ (¬ Int32.toInt x2 = 132 → c_47_779 E x0 x1 x2 x3 S mr sr Q))))))))))))))))))))))))))))))))))))))))))))))))))))))))))))))))))))))))))))))))))))))))))))))))))))))))))))))))))))))))))))))))))))))))))))))))))))))))))))))))))))))))))))))))))))))))))))))))))))))))))))))))))))))))))))))))))))))))))))))))))))))))))))))))))))))))
set_option maxRecDepth 20000 in
set_option maxHeartbeats 4000000 in
theorem f_47_106 {E : ox_E} (hE : ox_mono E) {mr sr : Nat} {x0 : Nat} {x1 : Nat} {x2 : Int32} {x3 : Int32} {S : ox_St} {Q : ox_Q} (h : q_47_106 E x0 x1 x2 x3 S mr sr Q) : c_47_106 E x0 x1 x2 x3 S mr sr Q := ox_C_fold hE h
set_option maxRecDepth 20000 in
def q_47_94 (E : ox_E) (x0 : Nat) (x1 : Nat) (x2 : Int32) (x3 : Int32) (y0 : Int32) (y1 : Int32) (S : ox_St) (mr sr : Nat) (Q : ox_Q) : Prop :=
  (let w1 : Int32 := y1 + y0
  (ox_has (S.K x1) 19 = true ∧ (ox_has (S.K x1) 19 = true ∧ (let S2 := S.sI 19 x1 ((S.I 19 x1) + 2)
  c_47_106 E x0 x1 x2 w1 S2 mr sr Q))))
set_option maxRecDepth 20000 in
set_option maxHeartbeats 4000000 in
theorem f_47_94 {E : ox_E} (hE : ox_mono E) {mr sr : Nat} {x0 : Nat} {x1 : Nat} {x2 : Int32} {x3 : Int32} {y0 : Int32} {y1 : Int32} {S : ox_St} {Q : ox_Q} (h : q_47_94 E x0 x1 x2 x3 y0 y1 S mr sr Q) : k_47_94 E x0 x1 x2 x3 y1 mr sr Q (some (.inl (y0))) S := ox_C_fold hE h
set_option maxRecDepth 20000 in
def q_47_75 (E : ox_E) (x0 : Nat) (x1 : Nat) (x2 : Int32) (x3 : Int32) (y0 : Int32) (S : ox_St) (mr sr : Nat) (Q : ox_Q) : Prop :=
  (ox_has (S.K x1) 18 = true ∧ (ox_has (S.K x1) 19 = true ∧ (2 ≤ 3 ∧ S.K (S.R 18 x1) = 3 ∧ 1 ≤ 8 ∧ ∃ mc1 mk2, mc1 ≤ mr ∧ mk2 ≤ sr ∧ E 16 [.inr (.inr (S.R 18 x1)), .inl ((S.I 19 x1) + 1)] mc1 mk2 S (k_47_94 E x0 x1 y0 x3 (256 * x3) (mr - mc1) (sr - mk2) Q))))
set_option maxRecDepth 20000 in
set_option maxHeartbeats 4000000 in
theorem f_47_75 {E : ox_E} (hE : ox_mono E) {mr sr : Nat} {x0 : Nat} {x1 : Nat} {x2 : Int32} {x3 : Int32} {y0 : Int32} {S : ox_St} {Q : ox_Q} (h : q_47_75 E x0 x1 x2 x3 y0 S mr sr Q) : k_47_75 E x0 x1 x2 x3 mr sr Q (some (.inl (y0))) S := ox_C_fold hE h
set_option maxRecDepth 20000 in
def q_47_46 (E : ox_E) (x0 : Nat) (x1 : Nat) (x2 : Int32) (y0 : Int32) (S : ox_St) (mr sr : Nat) (Q : ox_Q) : Prop :=
  (ox_has (S.K x1) 19 = true ∧ (ox_has (S.K x1) 19 = true ∧ (let S1 := S.sI 19 x1 ((S.I 19 x1) + 2)
  ((¬ x2 = 144 → c_47_106 E x0 x1 x2 y0 S1 mr sr Q) ∧ (x2 = 144 → (ox_has (S1.K x1) 18 = true ∧ (ox_has (S1.K x1) 19 = true ∧ (2 ≤ 2 ∧ S1.K (S1.R 18 x1) = 3 ∧ 0 ≤ 8 ∧ ∃ mc2 mk3, mc2 ≤ mr ∧ mk3 ≤ sr ∧ E 16 [.inr (.inr (S1.R 18 x1)), .inl (S1.I 19 x1)] mc2 mk3 S1 (k_47_75 E x0 x1 x2 y0 (mr - mc2) (sr - mk3) Q)))))))))
set_option maxRecDepth 20000 in
set_option maxHeartbeats 4000000 in
theorem f_47_46 {E : ox_E} (hE : ox_mono E) {mr sr : Nat} {x0 : Nat} {x1 : Nat} {x2 : Int32} {y0 : Int32} {S : ox_St} {Q : ox_Q} (h : q_47_46 E x0 x1 x2 y0 S mr sr Q) : k_47_46 E x0 x1 x2 mr sr Q (some (.inl (y0))) S := ox_C_fold hE h
set_option maxRecDepth 20000 in
def q_47_32 (E : ox_E) (x0 : Nat) (x1 : Nat) (y0 : Int32) (S : ox_St) (mr sr : Nat) (Q : ox_Q) : Prop :=
  (ox_has (S.K x1) 18 = true ∧ (ox_has (S.K x1) 19 = true ∧ (2 ≤ 2 ∧ S.K (S.R 18 x1) = 3 ∧ 0 ≤ 8 ∧ ∃ mc1 mk2, mc1 ≤ mr ∧ mk2 ≤ sr ∧ E 16 [.inr (.inr (S.R 18 x1)), .inl ((S.I 19 x1) + 1)] mc1 mk2 S (k_47_46 E x0 x1 y0 (mr - mc1) (sr - mk2) Q))))
set_option maxRecDepth 20000 in
set_option maxHeartbeats 4000000 in
theorem f_47_32 {E : ox_E} (hE : ox_mono E) {mr sr : Nat} {x0 : Nat} {x1 : Nat} {y0 : Int32} {S : ox_St} {Q : ox_Q} (h : q_47_32 E x0 x1 y0 S mr sr Q) : k_47_32 E x0 x1 mr sr Q (some (.inl (y0))) S := ox_C_fold hE h
set_option maxRecDepth 20000 in
def q_47_14 (E : ox_E) (x0 : Nat) (y0 : Nat) (S : ox_St) (mr sr : Nat) (Q : ox_Q) : Prop :=
  ((¬ y0 = 0 → (ox_has (S.K y0) 18 = true ∧ (ox_has (S.K y0) 19 = true ∧ (2 ≤ 2 ∧ S.K (S.R 18 y0) = 3 ∧ 0 ≤ 8 ∧ ∃ mc1 mk2, mc1 ≤ mr ∧ mk2 ≤ sr ∧ E 16 [.inr (.inr (S.R 18 y0)), .inl (S.I 19 y0)] mc1 mk2 S (k_47_32 E x0 y0 (mr - mc1) (sr - mk2) Q))))) ∧ (y0 = 0 → (True ∧ Q (some (.inl (0 : Int32))) S)))
set_option maxRecDepth 20000 in
set_option maxHeartbeats 4000000 in
theorem f_47_14 {E : ox_E} (hE : ox_mono E) {mr sr : Nat} {x0 : Nat} {y0 : Nat} {S : ox_St} {Q : ox_Q} (h : q_47_14 E x0 y0 S mr sr Q) : k_47_14 E x0 mr sr Q (some (.inr (.inr (y0)))) S := ox_C_fold hE h
set_option maxRecDepth 20000 in
def q_47 (E : ox_E) (x0 : Nat) (S : ox_St) (mr sr : Nat) (Q : ox_Q) : Prop :=
  (ox_has (S.K x0) 39 = true ∧ (ox_has (S.K x0) 39 = true ∧ (let S1 := S.sI 39 x0 ((S.I 39 x0) + 1)
  (1 ≤ 1 ∧ S1.K x0 = 7 ∧ 0 ≤ 8 ∧ ∃ mc2 mk3, mc2 ≤ mr ∧ mk3 ≤ sr ∧ E 44 [.inr (.inr (x0))] mc2 mk3 S1 (k_47_14 E x0 (mr - mc2) (sr - mk3) Q)))))
set_option maxRecDepth 20000 in
set_option maxHeartbeats 4000000 in
theorem f_47 {sp : ox_E} (hsp : ox_mono sp) {d : Nat} {mr sr : Nat} {x0 : Nat} {S : ox_St} {Q : ox_Q} (h : q_47 (ox_M sp d) x0 S mr sr Q) : ox_M sp (d + 1) 47 [.inr (.inr (x0))] mr sr S Q := Or.inr ⟨Nat.le_of_ble_eq_true rfl, ox_C_fold (ox_M_mono hsp d) h⟩
/-! OpcodeFrames$Machine.raise(I)V -/
def c_48_28 (E : ox_E) (x0 : Nat) (x1 : Int32) (x2 : Nat) (x3 : Int32) (S : ox_St) (mr sr : Nat) (Q : ox_Q) : Prop := ox_C E (ox_mi 48).2.2.2.1 (ox_mc 48) (ox_cut 48) Q 28 [some (.inr (.inr (x0))), some (.inl (x1)), some (.inr (.inr (x2))), some (.inl (x3)), none] [] S mr sr
def k_48_45 (E : ox_E) (x0 : Nat) (x1 : Int32) (x2 : Nat) (x3 : Int32) (mr sr : Nat) (Q : ox_Q) : ox_Q := fun r_ T_ => ox_C E (ox_mi 48).2.2.2.1 (ox_mc 48) (ox_cut 48) Q 45 [some (.inr (.inr (x0))), some (.inl (x1)), some (.inr (.inr (x2))), some (.inl (x3)), none] (r_.toList ++ []) T_ mr sr
def k_48_58 (E : ox_E) (x0 : Nat) (x1 : Int32) (x2 : Nat) (x3 : Int32) (x4 : Nat) (mr sr : Nat) (Q : ox_Q) : ox_Q := fun r_ T_ => ox_C E (ox_mi 48).2.2.2.1 (ox_mc 48) (ox_cut 48) Q 58 [some (.inr (.inr (x0))), some (.inl (x1)), some (.inr (.inr (x2))), some (.inl (x3)), some (.inr (.inr (x4)))] (r_.toList ++ []) T_ mr sr
set_option maxRecDepth 20000 in
def q_48_58 (E : ox_E) (x0 : Nat) (x1 : Int32) (x2 : Nat) (x3 : Int32) (x4 : Nat) (y0 : Int32) (S : ox_St) (mr sr : Nat) (Q : ox_Q) : Prop :=
  ((y0 = 0 → (ox_has (S.K x0) 35 = true ∧ (ox_has (S.K x0) 35 = true ∧ (let S1 := S.sI 35 x0 ((S.I 35 x0) - 1)
  c_48_28 E x0 x1 x2 (x3 + 1) S1 mr sr Q)))) ∧ (¬ y0 = 0 → ((ox_mi 48).2.2.2.1 = none ∧ Q none S)))
set_option maxRecDepth 20000 in
set_option maxHeartbeats 4000000 in
theorem f_48_58 {E : ox_E} (hE : ox_mono E) {mr sr : Nat} {x0 : Nat} {x1 : Int32} {x2 : Nat} {x3 : Int32} {x4 : Nat} {y0 : Int32} {S : ox_St} {Q : ox_Q} (h : q_48_58 E x0 x1 x2 x3 x4 y0 S mr sr Q) : k_48_58 E x0 x1 x2 x3 x4 mr sr Q (some (.inl (y0))) S := ox_C_fold hE h
set_option maxRecDepth 20000 in
def q_48_45 (E : ox_E) (x0 : Nat) (x1 : Int32) (x2 : Nat) (x3 : Int32) (y0 : Nat) (S : ox_St) (mr sr : Nat) (Q : ox_Q) : Prop :=
  ((y0 = 0 → (ox_has (S.K x0) 35 = true ∧ (ox_has (S.K x0) 35 = true ∧ (let S1 := S.sI 35 x0 ((S.I 35 x0) - 1)
  c_48_28 E x0 x1 x2 (x3 + 1) S1 mr sr Q)))) ∧ (¬ y0 = 0 → (2 ≤ 2 ∧ S.K y0 = 4 ∧ 0 ≤ 8 ∧ ∃ mc2 mk3, mc2 ≤ mr ∧ mk3 ≤ sr ∧ E 27 [.inr (.inr (y0)), .inr (.inr (x2))] mc2 mk3 S (k_48_58 E x0 x1 x2 x3 y0 (mr - mc2) (sr - mk3) Q))))
set_option maxRecDepth 20000 in
set_option maxHeartbeats 4000000 in
theorem f_48_45 {E : ox_E} (hE : ox_mono E) {mr sr : Nat} {x0 : Nat} {x1 : Int32} {x2 : Nat} {x3 : Int32} {y0 : Nat} {S : ox_St} {Q : ox_Q} (h : q_48_45 E x0 x1 x2 x3 y0 S mr sr Q) : k_48_45 E x0 x1 x2 x3 mr sr Q (some (.inr (.inr (y0)))) S := ox_C_fold hE h
set_option maxRecDepth 20000 in
def q_48_28 (E : ox_E) (x0 : Nat) (x1 : Int32) (x2 : Nat) (x3 : Int32) (S : ox_St) (mr sr : Nat) (Q : ox_Q) : Prop :=
  (((8 : Int32) ≤ x3 → (ox_has (S.K x0) 37 = true ∧ (let S1 := S.sI 37 x0 3
  (ox_has (S1.K x2) 7 = true ∧ (ox_has (S1.K x0) 38 = true ∧ (let S2 := S1.sI 38 x0 (S1.I 7 x2)
  ((ox_mi 48).2.2.2.1 = none ∧ Q none S2))))))) ∧ (¬ (8 : Int32) ≤ x3 → (ox_has (S.K x0) 35 = true ∧ (((S.I 35 x0) ≤ 0 → (ox_has (S.K x0) 37 = true ∧ (let S3 := S.sI 37 x0 3
  (ox_has (S3.K x2) 7 = true ∧ (ox_has (S3.K x0) 38 = true ∧ (let S4 := S3.sI 38 x0 (S3.I 7 x2)
  ((ox_mi 48).2.2.2.1 = none ∧ Q none S4))))))) ∧ (¬ (S.I 35 x0) ≤ 0 → (1 ≤ 1 ∧ S.K x0 = 7 ∧ 0 ≤ 8 ∧ ∃ mc5 mk6, mc5 ≤ mr ∧ mk6 ≤ sr ∧ E 44 [.inr (.inr (x0))] mc5 mk6 S (k_48_45 E x0 x1 x2 x3 (mr - mc5) (sr - mk6) Q)))))))
set_option maxRecDepth 20000 in
set_option maxHeartbeats 4000000 in
theorem f_48_28 {E : ox_E} (hE : ox_mono E) {mr sr : Nat} {x0 : Nat} {x1 : Int32} {x2 : Nat} {x3 : Int32} {S : ox_St} {Q : ox_Q} (h : q_48_28 E x0 x1 x2 x3 S mr sr Q) : c_48_28 E x0 x1 x2 x3 S mr sr Q := ox_C_fold hE h
set_option maxRecDepth 20000 in
def q_48 (E : ox_E) (x0 : Nat) (x1 : Int32) (S : ox_St) (mr sr : Nat) (Q : ox_Q) : Prop :=
  ((x1 < 0 → (ox_has (S.K x0) 47 = true ∧ (ox_rdR (S.K (S.R 47 x0)) = true ∧ vp_in 0 (S.len (S.R 47 x0)) ∧ c_48_28 E x0 x1 (S.rR (S.R 47 x0) (Int32.toNatClampNeg 0)) 0 S mr sr Q))) ∧ (¬ x1 < 0 → ((x1 < 7 → (ox_has (S.K x0) 47 = true ∧ (ox_rdR (S.K (S.R 47 x0)) = true ∧ vp_in x1 (S.len (S.R 47 x0)) ∧ c_48_28 E x0 x1 (S.rR (S.R 47 x0) (Int32.toNatClampNeg x1)) 0 S mr sr Q))) ∧ (¬ x1 < 7 → (ox_has (S.K x0) 47 = true ∧ (ox_rdR (S.K (S.R 47 x0)) = true ∧ vp_in 0 (S.len (S.R 47 x0)) ∧ c_48_28 E x0 x1 (S.rR (S.R 47 x0) (Int32.toNatClampNeg 0)) 0 S mr sr Q))))))
set_option maxRecDepth 20000 in
set_option maxHeartbeats 4000000 in
theorem f_48 {sp : ox_E} (hsp : ox_mono sp) {d : Nat} {mr sr : Nat} {x0 : Nat} {x1 : Int32} {S : ox_St} {Q : ox_Q} (h : q_48 (ox_M sp d) x0 x1 S mr sr Q) : ox_M sp (d + 1) 48 [.inr (.inr (x0)), .inl (x1)] mr sr S Q := Or.inr ⟨Nat.le_of_ble_eq_true rfl, ox_C_fold (ox_M_mono hsp d) h⟩
/-! OpcodeFrames$Machine.leave(LOpcodeFrames$Frame;)I -/
def k_49_4 (E : ox_E) (x0 : Nat) (x1 : Nat) (mr sr : Nat) (Q : ox_Q) : ox_Q := fun r_ T_ => ox_C E (ox_mi 49).2.2.2.1 (ox_mc 49) (ox_cut 49) Q 4 [some (.inr (.inr (x0))), some (.inr (.inr (x1))), none, none] (r_.toList ++ []) T_ mr sr
def k_49_19 (E : ox_E) (x0 : Nat) (x1 : Nat) (x2 : Nat) (mr sr : Nat) (Q : ox_Q) : ox_Q := fun r_ T_ => ox_C E (ox_mi 49).2.2.2.1 (ox_mc 49) (ox_cut 49) Q 19 [some (.inr (.inr (x0))), some (.inr (.inr (x1))), some (.inr (.inr (x2))), none] (r_.toList ++ []) T_ mr sr
def k_49_29 (E : ox_E) (x0 : Nat) (x1 : Nat) (x2 : Nat) (x3 : Nat) (mr sr : Nat) (Q : ox_Q) : ox_Q := fun r_ T_ => ox_C E (ox_mi 49).2.2.2.1 (ox_mc 49) (ox_cut 49) Q 29 [some (.inr (.inr (x0))), some (.inr (.inr (x1))), some (.inr (.inr (x2))), some (.inr (.inr (x3)))] (r_.toList ++ []) T_ mr sr
set_option maxRecDepth 20000 in
def q_49_29 (E : ox_E) (x0 : Nat) (x1 : Nat) (x2 : Nat) (x3 : Nat) (S : ox_St) (mr sr : Nat) (Q : ox_Q) : Prop :=
  (True ∧ Q (some (.inl ((-1) : Int32))) S)
set_option maxRecDepth 20000 in
set_option maxHeartbeats 4000000 in
theorem f_49_29 {E : ox_E} (hE : ox_mono E) {mr sr : Nat} {x0 : Nat} {x1 : Nat} {x2 : Nat} {x3 : Nat} {S : ox_St} {Q : ox_Q} (h : q_49_29 E x0 x1 x2 x3 S mr sr Q) : k_49_29 E x0 x1 x2 x3 mr sr Q none S := ox_C_fold hE h
set_option maxRecDepth 20000 in
def q_49_19 (E : ox_E) (x0 : Nat) (x1 : Nat) (x2 : Nat) (y0 : Nat) (S : ox_St) (mr sr : Nat) (Q : ox_Q) : Prop :=
  ((y0 = 0 → (ox_has (S.K x0) 37 = true ∧ (let S1 := S.sI 37 x0 2
  (ox_has (S1.K x0) 40 = true ∧ (let S2 := S1.sR 40 x0 x2
  (True ∧ Q (some (.inl ((-1) : Int32))) S2)))))) ∧ (¬ y0 = 0 → (2 ≤ 2 ∧ S.K y0 = 4 ∧ 0 ≤ 8 ∧ ∃ mc3 mk4, mc3 ≤ mr ∧ mk4 ≤ sr ∧ E 19 [.inr (.inr (y0)), .inr (.inr (x2))] mc3 mk4 S (k_49_29 E x0 x1 x2 y0 (mr - mc3) (sr - mk4) Q))))
set_option maxRecDepth 20000 in
set_option maxHeartbeats 4000000 in
theorem f_49_19 {E : ox_E} (hE : ox_mono E) {mr sr : Nat} {x0 : Nat} {x1 : Nat} {x2 : Nat} {y0 : Nat} {S : ox_St} {Q : ox_Q} (h : q_49_19 E x0 x1 x2 y0 S mr sr Q) : k_49_19 E x0 x1 x2 mr sr Q (some (.inr (.inr (y0)))) S := ox_C_fold hE h
set_option maxRecDepth 20000 in
def q_49_4 (E : ox_E) (x0 : Nat) (x1 : Nat) (y0 : Nat) (S : ox_St) (mr sr : Nat) (Q : ox_Q) : Prop :=
  (ox_has (S.K x0) 35 = true ∧ (ox_has (S.K x0) 35 = true ∧ (let S1 := S.sI 35 x0 ((S.I 35 x0) - 1)
  (1 ≤ 1 ∧ S1.K x0 = 7 ∧ 0 ≤ 8 ∧ ∃ mc2 mk3, mc2 ≤ mr ∧ mk3 ≤ sr ∧ E 44 [.inr (.inr (x0))] mc2 mk3 S1 (k_49_19 E x0 x1 y0 (mr - mc2) (sr - mk3) Q)))))
set_option maxRecDepth 20000 in
set_option maxHeartbeats 4000000 in
theorem f_49_4 {E : ox_E} (hE : ox_mono E) {mr sr : Nat} {x0 : Nat} {x1 : Nat} {y0 : Nat} {S : ox_St} {Q : ox_Q} (h : q_49_4 E x0 x1 y0 S mr sr Q) : k_49_4 E x0 x1 mr sr Q (some (.inr (.inr (y0)))) S := ox_C_fold hE h
set_option maxRecDepth 20000 in
def q_49 (E : ox_E) (x0 : Nat) (x1 : Nat) (S : ox_St) (mr sr : Nat) (Q : ox_Q) : Prop :=
  (1 ≤ 1 ∧ S.K x1 = 4 ∧ 0 ≤ 8 ∧ ∃ mc1 mk2, mc1 ≤ mr ∧ mk2 ≤ sr ∧ E 20 [.inr (.inr (x1))] mc1 mk2 S (k_49_4 E x0 x1 (mr - mc1) (sr - mk2) Q))
set_option maxRecDepth 20000 in
set_option maxHeartbeats 4000000 in
theorem f_49 {sp : ox_E} (hsp : ox_mono sp) {d : Nat} {mr sr : Nat} {x0 : Nat} {x1 : Nat} {S : ox_St} {Q : ox_Q} (h : q_49 (ox_M sp d) x0 x1 S mr sr Q) : ox_M sp (d + 1) 49 [.inr (.inr (x0)), .inr (.inr (x1))] mr sr S Q := Or.inr ⟨Nat.le_of_ble_eq_true rfl, ox_C_fold (ox_M_mono hsp d) h⟩
/-! OpcodeFrames$Machine.replace(LOpcodeFrames$Frame;ILOpcodeFrames$Value;)I -/
def k_50_5 (E : ox_E) (x0 : Nat) (x1 : Int32) (x2 : Nat) (mr sr : Nat) (Q : ox_Q) : ox_Q := fun r_ T_ => ox_C E (ox_mi 50).2.2.2.1 (ox_mc 50) (ox_cut 50) Q 5 [some (.inr (.inr (x0))), some (.inl (x1)), some (.inr (.inr (x2)))] (r_.toList ++ []) T_ mr sr
def k_50_10 (E : ox_E) (x0 : Nat) (x1 : Int32) (x2 : Nat) (mr sr : Nat) (Q : ox_Q) : ox_Q := fun r_ T_ => ox_C E (ox_mi 50).2.2.2.1 (ox_mc 50) (ox_cut 50) Q 10 [some (.inr (.inr (x0))), some (.inl (x1)), some (.inr (.inr (x2)))] (r_.toList ++ []) T_ mr sr
set_option maxRecDepth 20000 in
def q_50_10 (E : ox_E) (x0 : Nat) (x1 : Int32) (x2 : Nat) (S : ox_St) (mr sr : Nat) (Q : ox_Q) : Prop :=
  (True ∧ Q (some (.inl ((-1) : Int32))) S)
set_option maxRecDepth 20000 in
set_option maxHeartbeats 4000000 in
theorem f_50_10 {E : ox_E} (hE : ox_mono E) {mr sr : Nat} {x0 : Nat} {x1 : Int32} {x2 : Nat} {S : ox_St} {Q : ox_Q} (h : q_50_10 E x0 x1 x2 S mr sr Q) : k_50_10 E x0 x1 x2 mr sr Q none S := ox_C_fold hE h
set_option maxRecDepth 20000 in
def q_50_5 (E : ox_E) (x0 : Nat) (x1 : Int32) (x2 : Nat) (S : ox_St) (mr sr : Nat) (Q : ox_Q) : Prop :=
  (2 ≤ 2 ∧ S.K x0 = 4 ∧ 0 ≤ 8 ∧ ∃ mc1 mk2, mc1 ≤ mr ∧ mk2 ≤ sr ∧ E 19 [.inr (.inr (x0)), .inr (.inr (x2))] mc1 mk2 S (k_50_10 E x0 x1 x2 (mr - mc1) (sr - mk2) Q))
set_option maxRecDepth 20000 in
set_option maxHeartbeats 4000000 in
theorem f_50_5 {E : ox_E} (hE : ox_mono E) {mr sr : Nat} {x0 : Nat} {x1 : Int32} {x2 : Nat} {S : ox_St} {Q : ox_Q} (h : q_50_5 E x0 x1 x2 S mr sr Q) : k_50_5 E x0 x1 x2 mr sr Q none S := ox_C_fold hE h
set_option maxRecDepth 20000 in
def q_50 (E : ox_E) (x0 : Nat) (x1 : Int32) (x2 : Nat) (S : ox_St) (mr sr : Nat) (Q : ox_Q) : Prop :=
  (2 ≤ 2 ∧ S.K x0 = 4 ∧ 0 ≤ 8 ∧ ∃ mc1 mk2, mc1 ≤ mr ∧ mk2 ≤ sr ∧ E 23 [.inr (.inr (x0)), .inl (x1)] mc1 mk2 S (k_50_5 E x0 x1 x2 (mr - mc1) (sr - mk2) Q))
set_option maxRecDepth 20000 in
set_option maxHeartbeats 4000000 in
theorem f_50 {sp : ox_E} (hsp : ox_mono sp) {d : Nat} {mr sr : Nat} {x0 : Nat} {x1 : Int32} {x2 : Nat} {S : ox_St} {Q : ox_Q} (h : q_50 (ox_M sp d) x0 x1 x2 S mr sr Q) : ox_M sp (d + 1) 50 [.inr (.inr (x0)), .inl (x1), .inr (.inr (x2))] mr sr S Q := Or.inr ⟨Nat.le_of_ble_eq_true rfl, ox_C_fold (ox_M_mono hsp d) h⟩
/-! OpcodeFrames$Machine.shuffle(LOpcodeFrames$Frame;I)I -/
def k_51_5 (E : ox_E) (x0 : Nat) (x1 : Int32) (mr sr : Nat) (Q : ox_Q) : ox_Q := fun r_ T_ => ox_C E (ox_mi 51).2.2.2.1 (ox_mc 51) (ox_cut 51) Q 5 [some (.inr (.inr (x0))), some (.inl (x1)), none, none] (r_.toList ++ []) T_ mr sr
def k_51_11 (E : ox_E) (x0 : Nat) (x1 : Int32) (x2 : Nat) (mr sr : Nat) (Q : ox_Q) : ox_Q := fun r_ T_ => ox_C E (ox_mi 51).2.2.2.1 (ox_mc 51) (ox_cut 51) Q 11 [some (.inr (.inr (x0))), some (.inl (x1)), some (.inr (.inr (x2))), none] (r_.toList ++ []) T_ mr sr
def k_51_22 (E : ox_E) (x0 : Nat) (x1 : Int32) (x2 : Nat) (x3 : Nat) (mr sr : Nat) (Q : ox_Q) : ox_Q := fun r_ T_ => ox_C E (ox_mi 51).2.2.2.1 (ox_mc 51) (ox_cut 51) Q 22 [some (.inr (.inr (x0))), some (.inl (x1)), some (.inr (.inr (x2))), some (.inr (.inr (x3)))] (r_.toList ++ []) T_ mr sr
def k_51_35 (E : ox_E) (x0 : Nat) (x1 : Int32) (x2 : Nat) (x3 : Nat) (mr sr : Nat) (Q : ox_Q) : ox_Q := fun r_ T_ => ox_C E (ox_mi 51).2.2.2.1 (ox_mc 51) (ox_cut 51) Q 35 [some (.inr (.inr (x0))), some (.inl (x1)), some (.inr (.inr (x2))), some (.inr (.inr (x3)))] (r_.toList ++ []) T_ mr sr
def k_51_49 (E : ox_E) (x0 : Nat) (x1 : Int32) (x2 : Nat) (x3 : Nat) (mr sr : Nat) (Q : ox_Q) : ox_Q := fun r_ T_ => ox_C E (ox_mi 51).2.2.2.1 (ox_mc 51) (ox_cut 51) Q 49 [some (.inr (.inr (x0))), some (.inl (x1)), some (.inr (.inr (x2))), some (.inr (.inr (x3)))] (r_.toList ++ []) T_ mr sr
def k_51_55 (E : ox_E) (x0 : Nat) (x1 : Int32) (x2 : Nat) (x3 : Nat) (mr sr : Nat) (Q : ox_Q) : ox_Q := fun r_ T_ => ox_C E (ox_mi 51).2.2.2.1 (ox_mc 51) (ox_cut 51) Q 55 [some (.inr (.inr (x0))), some (.inl (x1)), some (.inr (.inr (x2))), some (.inr (.inr (x3)))] (r_.toList ++ []) T_ mr sr
def k_51_64 (E : ox_E) (x0 : Nat) (x1 : Int32) (x2 : Nat) (x3 : Nat) (mr sr : Nat) (Q : ox_Q) : ox_Q := fun r_ T_ => ox_C E (ox_mi 51).2.2.2.1 (ox_mc 51) (ox_cut 51) Q 64 [some (.inr (.inr (x0))), some (.inl (x1)), some (.inr (.inr (x2))), some (.inr (.inr (x3)))] (r_.toList ++ []) T_ mr sr
def k_51_71 (E : ox_E) (x0 : Nat) (x1 : Int32) (x2 : Nat) (x3 : Nat) (y1 : Int32) (y2 : Nat) (mr sr : Nat) (Q : ox_Q) : ox_Q := fun r_ T_ => ox_C E (ox_mi 51).2.2.2.1 (ox_mc 51) (ox_cut 51) Q 71 [some (.inr (.inr (x0))), some (.inl (x1)), some (.inr (.inr (x2))), some (.inr (.inr (x3)))] (r_.toList ++ [.inl (y1), .inr (.inr (y2))]) T_ mr sr
def k_51_74 (E : ox_E) (x0 : Nat) (x1 : Int32) (x2 : Nat) (x3 : Nat) (mr sr : Nat) (Q : ox_Q) : ox_Q := fun r_ T_ => ox_C E (ox_mi 51).2.2.2.1 (ox_mc 51) (ox_cut 51) Q 74 [some (.inr (.inr (x0))), some (.inl (x1)), some (.inr (.inr (x2))), some (.inr (.inr (x3)))] (r_.toList ++ []) T_ mr sr
def k_51_80 (E : ox_E) (x0 : Nat) (x1 : Int32) (x2 : Nat) (x3 : Nat) (mr sr : Nat) (Q : ox_Q) : ox_Q := fun r_ T_ => ox_C E (ox_mi 51).2.2.2.1 (ox_mc 51) (ox_cut 51) Q 80 [some (.inr (.inr (x0))), some (.inl (x1)), some (.inr (.inr (x2))), some (.inr (.inr (x3)))] (r_.toList ++ []) T_ mr sr
set_option maxRecDepth 20000 in
def q_51_80 (E : ox_E) (x0 : Nat) (x1 : Int32) (x2 : Nat) (x3 : Nat) (S : ox_St) (mr sr : Nat) (Q : ox_Q) : Prop :=
  (True ∧ Q (some (.inl ((-1) : Int32))) S)
set_option maxRecDepth 20000 in
set_option maxHeartbeats 4000000 in
theorem f_51_80 {E : ox_E} (hE : ox_mono E) {mr sr : Nat} {x0 : Nat} {x1 : Int32} {x2 : Nat} {x3 : Nat} {S : ox_St} {Q : ox_Q} (h : q_51_80 E x0 x1 x2 x3 S mr sr Q) : k_51_80 E x0 x1 x2 x3 mr sr Q none S := ox_C_fold hE h
set_option maxRecDepth 20000 in
def q_51_74 (E : ox_E) (x0 : Nat) (x1 : Int32) (x2 : Nat) (x3 : Nat) (S : ox_St) (mr sr : Nat) (Q : ox_Q) : Prop :=
  (3 ≤ 3 ∧ S.K x0 = 4 ∧ 0 ≤ 8 ∧ ∃ mc1 mk2, mc1 ≤ mr ∧ mk2 ≤ sr ∧ E 22 [.inr (.inr (x0)), .inl (2), .inr (.inr (x2))] mc1 mk2 S (k_51_80 E x0 x1 x2 x3 (mr - mc1) (sr - mk2) Q))
set_option maxRecDepth 20000 in
set_option maxHeartbeats 4000000 in
theorem f_51_74 {E : ox_E} (hE : ox_mono E) {mr sr : Nat} {x0 : Nat} {x1 : Int32} {x2 : Nat} {x3 : Nat} {S : ox_St} {Q : ox_Q} (h : q_51_74 E x0 x1 x2 x3 S mr sr Q) : k_51_74 E x0 x1 x2 x3 mr sr Q none S := ox_C_fold hE h
set_option maxRecDepth 20000 in
def q_51_71 (E : ox_E) (x0 : Nat) (x1 : Int32) (x2 : Nat) (x3 : Nat) (y0 : Nat) (y1 : Int32) (y2 : Nat) (S : ox_St) (mr sr : Nat) (Q : ox_Q) : Prop :=
  (3 ≤ 3 ∧ S.K y2 = 4 ∧ 0 ≤ 8 ∧ ∃ mc1 mk2, mc1 ≤ mr ∧ mk2 ≤ sr ∧ E 22 [.inr (.inr (y2)), .inl (y1), .inr (.inr (y0))] mc1 mk2 S (k_51_74 E x0 x1 x2 x3 (mr - mc1) (sr - mk2) Q))
set_option maxRecDepth 20000 in
set_option maxHeartbeats 4000000 in
theorem f_51_71 {E : ox_E} (hE : ox_mono E) {mr sr : Nat} {x0 : Nat} {x1 : Int32} {x2 : Nat} {x3 : Nat} {y0 : Nat} {y1 : Int32} {y2 : Nat} {S : ox_St} {Q : ox_Q} (h : q_51_71 E x0 x1 x2 x3 y0 y1 y2 S mr sr Q) : k_51_71 E x0 x1 x2 x3 y1 y2 mr sr Q (some (.inr (.inr (y0)))) S := ox_C_fold hE h
set_option maxRecDepth 20000 in
def q_51_64 (E : ox_E) (x0 : Nat) (x1 : Int32) (x2 : Nat) (x3 : Nat) (S : ox_St) (mr sr : Nat) (Q : ox_Q) : Prop :=
  (2 ≤ 4 ∧ S.K x0 = 4 ∧ 2 ≤ 8 ∧ ∃ mc1 mk2, mc1 ≤ mr ∧ mk2 ≤ sr ∧ E 21 [.inr (.inr (x0)), .inl (2)] mc1 mk2 S (k_51_71 E x0 x1 x2 x3 1 x0 (mr - mc1) (sr - mk2) Q))
set_option maxRecDepth 20000 in
set_option maxHeartbeats 4000000 in
theorem f_51_64 {E : ox_E} (hE : ox_mono E) {mr sr : Nat} {x0 : Nat} {x1 : Int32} {x2 : Nat} {x3 : Nat} {S : ox_St} {Q : ox_Q} (h : q_51_64 E x0 x1 x2 x3 S mr sr Q) : k_51_64 E x0 x1 x2 x3 mr sr Q none S := ox_C_fold hE h
set_option maxRecDepth 20000 in
def q_51_55 (E : ox_E) (x0 : Nat) (x1 : Int32) (x2 : Nat) (x3 : Nat) (S : ox_St) (mr sr : Nat) (Q : ox_Q) : Prop :=
  k_51_80 E x0 x1 x2 x3 mr sr Q none S
set_option maxRecDepth 20000 in
set_option maxHeartbeats 4000000 in
theorem f_51_55 {E : ox_E} (hE : ox_mono E) {mr sr : Nat} {x0 : Nat} {x1 : Int32} {x2 : Nat} {x3 : Nat} {S : ox_St} {Q : ox_Q} (h : q_51_55 E x0 x1 x2 x3 S mr sr Q) : k_51_55 E x0 x1 x2 x3 mr sr Q none S := ox_C_fold hE h
set_option maxRecDepth 20000 in
def q_51_49 (E : ox_E) (x0 : Nat) (x1 : Int32) (x2 : Nat) (x3 : Nat) (S : ox_St) (mr sr : Nat) (Q : ox_Q) : Prop :=
  (3 ≤ 3 ∧ S.K x0 = 4 ∧ 0 ≤ 8 ∧ ∃ mc1 mk2, mc1 ≤ mr ∧ mk2 ≤ sr ∧ E 22 [.inr (.inr (x0)), .inl (1), .inr (.inr (x2))] mc1 mk2 S (k_51_55 E x0 x1 x2 x3 (mr - mc1) (sr - mk2) Q))
set_option maxRecDepth 20000 in
set_option maxHeartbeats 4000000 in
theorem f_51_49 {E : ox_E} (hE : ox_mono E) {mr sr : Nat} {x0 : Nat} {x1 : Int32} {x2 : Nat} {x3 : Nat} {S : ox_St} {Q : ox_Q} (h : q_51_49 E x0 x1 x2 x3 S mr sr Q) : k_51_49 E x0 x1 x2 x3 mr sr Q none S := ox_C_fold hE h
set_option maxRecDepth 20000 in
def q_51_35 (E : ox_E) (x0 : Nat) (x1 : Int32) (x2 : Nat) (x3 : Nat) (S : ox_St) (mr sr : Nat) (Q : ox_Q) : Prop :=
  k_51_80 E x0 x1 x2 x3 mr sr Q none S
set_option maxRecDepth 20000 in
set_option maxHeartbeats 4000000 in
theorem f_51_35 {E : ox_E} (hE : ox_mono E) {mr sr : Nat} {x0 : Nat} {x1 : Int32} {x2 : Nat} {x3 : Nat} {S : ox_St} {Q : ox_Q} (h : q_51_35 E x0 x1 x2 x3 S mr sr Q) : k_51_35 E x0 x1 x2 x3 mr sr Q none S := ox_C_fold hE h
set_option maxRecDepth 20000 in
def q_51_22 (E : ox_E) (x0 : Nat) (x1 : Int32) (x2 : Nat) (x3 : Nat) (S : ox_St) (mr sr : Nat) (Q : ox_Q) : Prop :=
  k_51_80 E x0 x1 x2 x3 mr sr Q none S
set_option maxRecDepth 20000 in
set_option maxHeartbeats 4000000 in
theorem f_51_22 {E : ox_E} (hE : ox_mono E) {mr sr : Nat} {x0 : Nat} {x1 : Int32} {x2 : Nat} {x3 : Nat} {S : ox_St} {Q : ox_Q} (h : q_51_22 E x0 x1 x2 x3 S mr sr Q) : k_51_22 E x0 x1 x2 x3 mr sr Q none S := ox_C_fold hE h
set_option maxRecDepth 20000 in
def q_51_11 (E : ox_E) (x0 : Nat) (x1 : Int32) (x2 : Nat) (y0 : Nat) (S : ox_St) (mr sr : Nat) (Q : ox_Q) : Prop :=
  ((¬ x1 = 1 → ((¬ x1 = 4 → ((¬ x1 = 2 → (3 ≤ 3 ∧ S.K x0 = 4 ∧ 0 ≤ 8 ∧ ∃ mc1 mk2, mc1 ≤ mr ∧ mk2 ≤ sr ∧ E 22 [.inr (.inr (x0)), .inl (0), .inr (.inr (y0))] mc1 mk2 S (k_51_64 E x0 x1 x2 y0 (mr - mc1) (sr - mk2) Q))) ∧ (x1 = 2 → (3 ≤ 3 ∧ S.K x0 = 4 ∧ 0 ≤ 8 ∧ ∃ mc3 mk4, mc3 ≤ mr ∧ mk4 ≤ sr ∧ E 22 [.inr (.inr (x0)), .inl (0), .inr (.inr (y0))] mc3 mk4 S (k_51_49 E x0 x1 x2 y0 (mr - mc3) (sr - mk4) Q))))) ∧ (x1 = 4 → (2 ≤ 2 ∧ S.K x0 = 4 ∧ 0 ≤ 8 ∧ ∃ mc5 mk6, mc5 ≤ mr ∧ mk6 ≤ sr ∧ E 19 [.inr (.inr (x0)), .inr (.inr (x2))] mc5 mk6 S (k_51_35 E x0 x1 x2 y0 (mr - mc5) (sr - mk6) Q))))) ∧ (x1 = 1 → (2 ≤ 2 ∧ S.K x0 = 4 ∧ 0 ≤ 8 ∧ ∃ mc7 mk8, mc7 ≤ mr ∧ mk8 ≤ sr ∧ E 23 [.inr (.inr (x0)), .inl (1)] mc7 mk8 S (k_51_22 E x0 x1 x2 y0 (mr - mc7) (sr - mk8) Q))))
set_option maxRecDepth 20000 in
set_option maxHeartbeats 4000000 in
theorem f_51_11 {E : ox_E} (hE : ox_mono E) {mr sr : Nat} {x0 : Nat} {x1 : Int32} {x2 : Nat} {y0 : Nat} {S : ox_St} {Q : ox_Q} (h : q_51_11 E x0 x1 x2 y0 S mr sr Q) : k_51_11 E x0 x1 x2 mr sr Q (some (.inr (.inr (y0)))) S := ox_C_fold hE h
set_option maxRecDepth 20000 in
def q_51_5 (E : ox_E) (x0 : Nat) (x1 : Int32) (y0 : Nat) (S : ox_St) (mr sr : Nat) (Q : ox_Q) : Prop :=
  (2 ≤ 2 ∧ S.K x0 = 4 ∧ 0 ≤ 8 ∧ ∃ mc1 mk2, mc1 ≤ mr ∧ mk2 ≤ sr ∧ E 21 [.inr (.inr (x0)), .inl (1)] mc1 mk2 S (k_51_11 E x0 x1 y0 (mr - mc1) (sr - mk2) Q))
set_option maxRecDepth 20000 in
set_option maxHeartbeats 4000000 in
theorem f_51_5 {E : ox_E} (hE : ox_mono E) {mr sr : Nat} {x0 : Nat} {x1 : Int32} {y0 : Nat} {S : ox_St} {Q : ox_Q} (h : q_51_5 E x0 x1 y0 S mr sr Q) : k_51_5 E x0 x1 mr sr Q (some (.inr (.inr (y0)))) S := ox_C_fold hE h
set_option maxRecDepth 20000 in
def q_51 (E : ox_E) (x0 : Nat) (x1 : Int32) (S : ox_St) (mr sr : Nat) (Q : ox_Q) : Prop :=
  (2 ≤ 2 ∧ S.K x0 = 4 ∧ 0 ≤ 8 ∧ ∃ mc1 mk2, mc1 ≤ mr ∧ mk2 ≤ sr ∧ E 21 [.inr (.inr (x0)), .inl (0)] mc1 mk2 S (k_51_5 E x0 x1 (mr - mc1) (sr - mk2) Q))
set_option maxRecDepth 20000 in
set_option maxHeartbeats 4000000 in
theorem f_51 {sp : ox_E} (hsp : ox_mono sp) {d : Nat} {mr sr : Nat} {x0 : Nat} {x1 : Int32} {S : ox_St} {Q : ox_Q} (h : q_51 (ox_M sp d) x0 x1 S mr sr Q) : ox_M sp (d + 1) 51 [.inr (.inr (x0)), .inl (x1)] mr sr S Q := Or.inr ⟨Nat.le_of_ble_eq_true rfl, ox_C_fold (ox_M_mono hsp d) h⟩
/-! OpcodeFrames$Machine.go(LOpcodeFrames$Frame;II)I -/
def c_52_15 (E : ox_E) (x0 : Nat) (x1 : Nat) (x2 : Int32) (x3 : Int32) (x4 : Int32) (S : ox_St) (mr sr : Nat) (Q : ox_Q) : Prop := ox_C E (ox_mi 52).2.2.2.1 (ox_mc 52) (ox_cut 52) Q 15 [some (.inr (.inr (x0))), some (.inr (.inr (x1))), some (.inl (x2)), some (.inl (x3)), some (.inl (x4))] [] S mr sr
def k_52_19 (E : ox_E) (x0 : Nat) (x1 : Nat) (x2 : Int32) (x3 : Int32) (x4 : Int32) (mr sr : Nat) (Q : ox_Q) : ox_Q := fun r_ T_ => ox_C E (ox_mi 52).2.2.2.1 (ox_mc 52) (ox_cut 52) Q 19 [some (.inr (.inr (x0))), some (.inr (.inr (x1))), some (.inl (x2)), some (.inl (x3)), some (.inl (x4))] (r_.toList ++ []) T_ mr sr
def k_52_22 (E : ox_E) (x0 : Nat) (x1 : Nat) (x2 : Int32) (x3 : Int32) (x4 : Int32) (mr sr : Nat) (Q : ox_Q) : ox_Q := fun r_ T_ => ox_C E (ox_mi 52).2.2.2.1 (ox_mc 52) (ox_cut 52) Q 22 [some (.inr (.inr (x0))), some (.inr (.inr (x1))), some (.inl (x2)), some (.inl (x3)), some (.inl (x4))] (r_.toList ++ []) T_ mr sr
def c_52_33 (E : ox_E) (x0 : Nat) (x1 : Nat) (x2 : Int32) (x3 : Int32) (x4 : Int32) (y0 : Int32) (y1 : Int32) (S : ox_St) (mr sr : Nat) (Q : ox_Q) : Prop := ox_C E (ox_mi 52).2.2.2.1 (ox_mc 52) (ox_cut 52) Q 33 [some (.inr (.inr (x0))), some (.inr (.inr (x1))), some (.inl (x2)), some (.inl (x3)), some (.inl (x4))] [.inl (y0), .inl (y1)] S mr sr
def c_52_41 (E : ox_E) (x0 : Nat) (x1 : Nat) (x2 : Int32) (x3 : Int32) (x4 : Int32) (y0 : Int32) (S : ox_St) (mr sr : Nat) (Q : ox_Q) : Prop := ox_C E (ox_mi 52).2.2.2.1 (ox_mc 52) (ox_cut 52) Q 41 [some (.inr (.inr (x0))), some (.inr (.inr (x1))), some (.inl (x2)), some (.inl (x3)), some (.inl (x4))] [.inl (y0)] S mr sr
def c_52_43 (E : ox_E) (x0 : Nat) (x1 : Nat) (x2 : Int32) (x3 : Int32) (x4 : Int32) (S : ox_St) (mr sr : Nat) (Q : ox_Q) : Prop := ox_C E (ox_mi 52).2.2.2.1 (ox_mc 52) (ox_cut 52) Q 43 [some (.inr (.inr (x0))), some (.inr (.inr (x1))), some (.inl (x2)), some (.inl (x3)), some (.inl (x4))] [] S mr sr
def c_52_65 (E : ox_E) (x0 : Nat) (x1 : Nat) (x2 : Int32) (x3 : Int32) (x4 : Int32) (y0 : Int32) (y1 : Nat) (S : ox_St) (mr sr : Nat) (Q : ox_Q) : Prop := ox_C E (ox_mi 52).2.2.2.1 (ox_mc 52) (ox_cut 52) Q 65 [some (.inr (.inr (x0))), some (.inr (.inr (x1))), some (.inl (x2)), some (.inl (x3)), some (.inl (x4))] [.inl (y0), .inr (.inr (y1))] S mr sr
def c_52_68 (E : ox_E) (x0 : Nat) (x1 : Nat) (x2 : Int32) (x3 : Int32) (x4 : Int32) (S : ox_St) (mr sr : Nat) (Q : ox_Q) : Prop := ox_C E (ox_mi 52).2.2.2.1 (ox_mc 52) (ox_cut 52) Q 68 [some (.inr (.inr (x0))), some (.inr (.inr (x1))), some (.inl (x2)), some (.inl (x3)), some (.inl (x4))] [] S mr sr
set_option maxRecDepth 20000 in
def q_52_68 (E : ox_E) (x0 : Nat) (x1 : Nat) (x2 : Int32) (x3 : Int32) (x4 : Int32) (S : ox_St) (mr sr : Nat) (Q : ox_Q) : Prop :=
  (True ∧ Q (some (.inl ((-1) : Int32))) S)
set_option maxRecDepth 20000 in
set_option maxHeartbeats 4000000 in
theorem f_52_68 {E : ox_E} (hE : ox_mono E) {mr sr : Nat} {x0 : Nat} {x1 : Nat} {x2 : Int32} {x3 : Int32} {x4 : Int32} {S : ox_St} {Q : ox_Q} (h : q_52_68 E x0 x1 x2 x3 x4 S mr sr Q) : c_52_68 E x0 x1 x2 x3 x4 S mr sr Q := ox_C_fold hE h
set_option maxRecDepth 20000 in
def q_52_65 (E : ox_E) (x0 : Nat) (x1 : Nat) (x2 : Int32) (x3 : Int32) (x4 : Int32) (y0 : Int32) (y1 : Nat) (S : ox_St) (mr sr : Nat) (Q : ox_Q) : Prop :=
  (ox_has (S.K y1) 19 = true ∧ (let S1 := S.sI 19 y1 y0
  c_52_68 E x0 x1 x2 x3 x4 S1 mr sr Q))
set_option maxRecDepth 20000 in
set_option maxHeartbeats 4000000 in
theorem f_52_65 {E : ox_E} (hE : ox_mono E) {mr sr : Nat} {x0 : Nat} {x1 : Nat} {x2 : Int32} {x3 : Int32} {x4 : Int32} {y0 : Int32} {y1 : Nat} {S : ox_St} {Q : ox_Q} (h : q_52_65 E x0 x1 x2 x3 x4 y0 y1 S mr sr Q) : c_52_65 E x0 x1 x2 x3 x4 y0 y1 S mr sr Q := ox_C_fold hE h
set_option maxRecDepth 20000 in
def q_52_43 (E : ox_E) (x0 : Nat) (x1 : Nat) (x2 : Int32) (x3 : Int32) (x4 : Int32) (S : ox_St) (mr sr : Nat) (Q : ox_Q) : Prop :=
  ((x4 = 0 → c_52_68 E x0 x1 x2 x3 x4 S mr sr Q) ∧ (¬ x4 = 0 → ((¬ x2 = 110 → c_52_65 E x0 x1 x2 x3 x4 x3 x1 S mr sr Q) ∧ (x2 = 110 → (ox_has (S.K x1) 19 = true ∧ c_52_65 E x0 x1 x2 x3 x4 ((S.I 19 x1) + x3) x1 S mr sr Q)))))
set_option maxRecDepth 20000 in
set_option maxHeartbeats 4000000 in
theorem f_52_43 {E : ox_E} (hE : ox_mono E) {mr sr : Nat} {x0 : Nat} {x1 : Nat} {x2 : Int32} {x3 : Int32} {x4 : Int32} {S : ox_St} {Q : ox_Q} (h : q_52_43 E x0 x1 x2 x3 x4 S mr sr Q) : c_52_43 E x0 x1 x2 x3 x4 S mr sr Q := ox_C_fold hE h
set_option maxRecDepth 20000 in
def q_52_41 (E : ox_E) (x0 : Nat) (x1 : Nat) (x2 : Int32) (x3 : Int32) (x4 : Int32) (y0 : Int32) (S : ox_St) (mr sr : Nat) (Q : ox_Q) : Prop :=
  c_52_43 E x0 x1 x2 x3 y0 S mr sr Q
set_option maxRecDepth 20000 in
set_option maxHeartbeats 4000000 in
theorem f_52_41 {E : ox_E} (hE : ox_mono E) {mr sr : Nat} {x0 : Nat} {x1 : Nat} {x2 : Int32} {x3 : Int32} {x4 : Int32} {y0 : Int32} {S : ox_St} {Q : ox_Q} (h : q_52_41 E x0 x1 x2 x3 x4 y0 S mr sr Q) : c_52_41 E x0 x1 x2 x3 x4 y0 S mr sr Q := ox_C_fold hE h
set_option maxRecDepth 20000 in
def q_52_33 (E : ox_E) (x0 : Nat) (x1 : Nat) (x2 : Int32) (x3 : Int32) (x4 : Int32) (y0 : Int32) (y1 : Int32) (S : ox_St) (mr sr : Nat) (Q : ox_Q) : Prop :=
  ((¬ y1 = y0 → c_52_41 E x0 x1 x2 x3 x4 0 S mr sr Q) ∧ (y1 = y0 → c_52_41 E x0 x1 x2 x3 x4 1 S mr sr Q))
set_option maxRecDepth 20000 in
set_option maxHeartbeats 4000000 in
theorem f_52_33 {E : ox_E} (hE : ox_mono E) {mr sr : Nat} {x0 : Nat} {x1 : Nat} {x2 : Int32} {x3 : Int32} {x4 : Int32} {y0 : Int32} {y1 : Int32} {S : ox_St} {Q : ox_Q} (h : q_52_33 E x0 x1 x2 x3 x4 y0 y1 S mr sr Q) : c_52_33 E x0 x1 x2 x3 x4 y0 y1 S mr sr Q := ox_C_fold hE h
set_option maxRecDepth 20000 in
def q_52_22 (E : ox_E) (x0 : Nat) (x1 : Nat) (x2 : Int32) (x3 : Int32) (x4 : Int32) (y0 : Int32) (S : ox_St) (mr sr : Nat) (Q : ox_Q) : Prop :=
  ((¬ x2 = 114 → c_52_33 E x0 x1 x2 x3 x4 0 y0 S mr sr Q) ∧ (x2 = 114 → c_52_33 E x0 x1 x2 x3 x4 1 y0 S mr sr Q))
set_option maxRecDepth 20000 in
set_option maxHeartbeats 4000000 in
theorem f_52_22 {E : ox_E} (hE : ox_mono E) {mr sr : Nat} {x0 : Nat} {x1 : Nat} {x2 : Int32} {x3 : Int32} {x4 : Int32} {y0 : Int32} {S : ox_St} {Q : ox_Q} (h : q_52_22 E x0 x1 x2 x3 x4 y0 S mr sr Q) : k_52_22 E x0 x1 x2 x3 x4 mr sr Q (some (.inl (y0))) S := ox_C_fold hE h
set_option maxRecDepth 20000 in
def q_52_19 (E : ox_E) (x0 : Nat) (x1 : Nat) (x2 : Int32) (x3 : Int32) (x4 : Int32) (y0 : Nat) (S : ox_St) (mr sr : Nat) (Q : ox_Q) : Prop :=
  (1 ≤ 1 ∧ 0 ≤ 8 ∧ ∃ mc1 mk2, mc1 ≤ mr ∧ mk2 ≤ sr ∧ E 55 [.inr (.inr (y0))] mc1 mk2 S (k_52_22 E x0 x1 x2 x3 x4 (mr - mc1) (sr - mk2) Q))
set_option maxRecDepth 20000 in
set_option maxHeartbeats 4000000 in
theorem f_52_19 {E : ox_E} (hE : ox_mono E) {mr sr : Nat} {x0 : Nat} {x1 : Nat} {x2 : Int32} {x3 : Int32} {x4 : Int32} {y0 : Nat} {S : ox_St} {Q : ox_Q} (h : q_52_19 E x0 x1 x2 x3 x4 y0 S mr sr Q) : k_52_19 E x0 x1 x2 x3 x4 mr sr Q (some (.inr (.inr (y0)))) S := ox_C_fold hE h
set_option maxRecDepth 20000 in
def q_52_15 (E : ox_E) (x0 : Nat) (x1 : Nat) (x2 : Int32) (x3 : Int32) (x4 : Int32) (S : ox_St) (mr sr : Nat) (Q : ox_Q) : Prop :=
  (1 ≤ 1 ∧ S.K x1 = 4 ∧ 0 ≤ 8 ∧ ∃ mc1 mk2, mc1 ≤ mr ∧ mk2 ≤ sr ∧ E 20 [.inr (.inr (x1))] mc1 mk2 S (k_52_19 E x0 x1 x2 x3 x4 (mr - mc1) (sr - mk2) Q))
set_option maxRecDepth 20000 in
set_option maxHeartbeats 4000000 in
theorem f_52_15 {E : ox_E} (hE : ox_mono E) {mr sr : Nat} {x0 : Nat} {x1 : Nat} {x2 : Int32} {x3 : Int32} {x4 : Int32} {S : ox_St} {Q : ox_Q} (h : q_52_15 E x0 x1 x2 x3 x4 S mr sr Q) : c_52_15 E x0 x1 x2 x3 x4 S mr sr Q := ox_C_fold hE h
set_option maxRecDepth 20000 in
def q_52 (E : ox_E) (x0 : Nat) (x1 : Nat) (x2 : Int32) (x3 : Int32) (S : ox_St) (mr sr : Nat) (Q : ox_Q) : Prop :=
  ((x2 = 114 → c_52_15 E x0 x1 x2 x3 1 S mr sr Q) ∧ (¬ x2 = 114 → ((¬ x2 = 115 → c_52_43 E x0 x1 x2 x3 1 S mr sr Q) ∧ (x2 = 115 → c_52_15 E x0 x1 x2 x3 1 S mr sr Q))))
set_option maxRecDepth 20000 in
set_option maxHeartbeats 4000000 in
theorem f_52 {sp : ox_E} (hsp : ox_mono sp) {d : Nat} {mr sr : Nat} {x0 : Nat} {x1 : Nat} {x2 : Int32} {x3 : Int32} {S : ox_St} {Q : ox_Q} (h : q_52 (ox_M sp d) x0 x1 x2 x3 S mr sr Q) : ox_M sp (d + 1) 52 [.inr (.inr (x0)), .inr (.inr (x1)), .inl (x2), .inl (x3)] mr sr S Q := Or.inr ⟨Nat.le_of_ble_eq_true rfl, ox_C_fold (ox_M_mono hsp d) h⟩
/-! OpcodeFrames$Machine.block(LOpcodeFrames$Frame;II)I -/
def k_53_16 (E : ox_E) (x0 : Nat) (x1 : Int32) (x2 : Int32) (mr sr : Nat) (Q : ox_Q) : ox_Q := fun r_ T_ => ox_C E (ox_mi 53).2.2.2.1 (ox_mc 53) (ox_cut 53) Q 16 [some (.inr (.inr (x0))), some (.inl (x1)), some (.inl (x2))] (r_.toList ++ []) T_ mr sr
set_option maxRecDepth 20000 in
def q_53_16 (E : ox_E) (x0 : Nat) (x1 : Int32) (x2 : Int32) (S : ox_St) (mr sr : Nat) (Q : ox_Q) : Prop :=
  (True ∧ Q (some (.inl ((-1) : Int32))) S)
set_option maxRecDepth 20000 in
set_option maxHeartbeats 4000000 in
theorem f_53_16 {E : ox_E} (hE : ox_mono E) {mr sr : Nat} {x0 : Nat} {x1 : Int32} {x2 : Int32} {S : ox_St} {Q : ox_Q} (h : q_53_16 E x0 x1 x2 S mr sr Q) : k_53_16 E x0 x1 x2 mr sr Q none S := ox_C_fold hE h
set_option maxRecDepth 20000 in
def q_53 (E : ox_E) (x0 : Nat) (x1 : Int32) (x2 : Int32) (S : ox_St) (mr sr : Nat) (Q : ox_Q) : Prop :=
  ((¬ x1 = 122 → (ox_has (S.K x0) 21 = true ∧ (1 ≤ 8 ∧ (ox_has (S.K x0) 21 = true ∧ (let S1 := S.sI 21 x0 (if ((S.I 21 x0) - 1) < 0 then 0 else ((S.I 21 x0) - 1))
  (True ∧ Q (some (.inl ((-1) : Int32))) S1)))))) ∧ (x1 = 122 → (ox_has (S.K x0) 19 = true ∧ (2 ≤ 2 ∧ S.K x0 = 4 ∧ 0 ≤ 8 ∧ ∃ mc2 mk3, mc2 ≤ mr ∧ mk3 ≤ sr ∧ E 26 [.inr (.inr (x0)), .inl ((S.I 19 x0) + x2)] mc2 mk3 S (k_53_16 E x0 x1 x2 (mr - mc2) (sr - mk3) Q)))))
set_option maxRecDepth 20000 in
set_option maxHeartbeats 4000000 in
theorem f_53 {sp : ox_E} (hsp : ox_mono sp) {d : Nat} {mr sr : Nat} {x0 : Nat} {x1 : Int32} {x2 : Int32} {S : ox_St} {Q : ox_Q} (h : q_53 (ox_M sp d) x0 x1 x2 S mr sr Q) : ox_M sp (d + 1) 53 [.inr (.inr (x0)), .inl (x1), .inl (x2)] mr sr S Q := Or.inr ⟨Nat.le_of_ble_eq_true rfl, ox_C_fold (ox_M_mono hsp d) h⟩
/-! OpcodeFrames$Machine.truth(Z)LOpcodeFrames$Value; -/
set_option maxRecDepth 20000 in
def q_54 (E : ox_E) (x0 : Nat) (x1 : Int32) (S : ox_St) (mr sr : Nat) (Q : ox_Q) : Prop :=
  ((x1 = 0 → (ox_has (S.K x0) 44 = true ∧ (ox_isR (ox_mi 54).2.2.2.1 = true ∧ Q (some (.inr (.inr (S.R 44 x0)))) S))) ∧ (¬ x1 = 0 → (ox_has (S.K x0) 45 = true ∧ (ox_isR (ox_mi 54).2.2.2.1 = true ∧ Q (some (.inr (.inr (S.R 45 x0)))) S))))
set_option maxRecDepth 20000 in
set_option maxHeartbeats 4000000 in
theorem f_54 {sp : ox_E} (hsp : ox_mono sp) {d : Nat} {mr sr : Nat} {x0 : Nat} {x1 : Int32} {S : ox_St} {Q : ox_Q} (h : q_54 (ox_M sp d) x0 x1 S mr sr Q) : ox_M sp (d + 1) 54 [.inr (.inr (x0)), .inl (x1)] mr sr S Q := Or.inr ⟨Nat.le_of_ble_eq_true rfl, ox_C_fold (ox_M_mono hsp d) h⟩
/-! OpcodeFrames$Machine.isFalse(LOpcodeFrames$Value;)Z -/
def k_55_30 (E : ox_E) (x0 : Nat) (mr sr : Nat) (Q : ox_Q) : ox_Q := fun r_ T_ => ox_C E (ox_mi 55).2.2.2.1 (ox_mc 55) (ox_cut 55) Q 30 [some (.inr (.inr (x0))), none] (r_.toList ++ []) T_ mr sr
set_option maxRecDepth 20000 in
def q_55_30 (E : ox_E) (x0 : Nat) (y0 : Int64) (S : ox_St) (mr sr : Nat) (Q : ox_Q) : Prop :=
  (((lg_cmp y0 0) = 0 → (((1 : Int32) = 0 ∨ (1 : Int32) = 1) ∧ Q (some (.inl (1 : Int32))) S)) ∧ (¬ (lg_cmp y0 0) = 0 → (ox_has (S.K x0) 6 = true ∧ (((S.I 6 x0) = 0 → (((1 : Int32) = 0 ∨ (1 : Int32) = 1) ∧ Q (some (.inl (1 : Int32))) S)) ∧ (¬ (S.I 6 x0) = 0 → (ox_has (S.K x0) 6 = true ∧ ((¬ (S.I 6 x0) = 1 → (((0 : Int32) = 0 ∨ (0 : Int32) = 1) ∧ Q (some (.inl (0 : Int32))) S)) ∧ ((S.I 6 x0) = 1 → (((1 : Int32) = 0 ∨ (1 : Int32) = 1) ∧ Q (some (.inl (1 : Int32))) S)))))))))
set_option maxRecDepth 20000 in
set_option maxHeartbeats 4000000 in
theorem f_55_30 {E : ox_E} (hE : ox_mono E) {mr sr : Nat} {x0 : Nat} {y0 : Int64} {S : ox_St} {Q : ox_Q} (h : q_55_30 E x0 y0 S mr sr Q) : k_55_30 E x0 mr sr Q (some (.inr (.inl (y0)))) S := ox_C_fold hE h
set_option maxRecDepth 20000 in
def q_55 (E : ox_E) (x0 : Nat) (S : ox_St) (mr sr : Nat) (Q : ox_Q) : Prop :=
  ((x0 = 0 ∨ ox_isV (S.K x0) = true) ∧ (((if [8].contains (S.K x0) = true then (1 : Int32) else 0) = 0 → (1 ≤ 1 ∧ ox_pv (ox_pick (S.K x0) [11, 90, 917, 916, 131, 3, 90, 919, 916, 131, 5, 90, 920, 916, 131, 8, 90, 921, 916, 131, 9, 83, 922, 923, 152, 10, 87, 926, 927, 137, 12, 90, 929, 916, 131]) (fun j_ => 0 ≤ 8 ∧ ∃ mc1 mk2, mc1 ≤ mr ∧ mk2 ≤ sr ∧ E j_ [.inr (.inr (x0))] mc1 mk2 S (k_55_30 E x0 (mr - mc1) (sr - mk2) Q)))) ∧ (¬ (if [8].contains (S.K x0) = true then (1 : Int32) else 0) = 0 → ((x0 = 0 ∨ [8].contains (S.K x0) = true) ∧ (ox_has (S.K x0) 52 = true ∧ (ox_rdL (S.K (S.R 52 x0)) = true ∧ ((¬ (Int32.ofNat (S.len (S.R 52 x0))) = 0 → (((0 : Int32) = 0 ∨ (0 : Int32) = 1) ∧ Q (some (.inl (0 : Int32))) S)) ∧ ((Int32.ofNat (S.len (S.R 52 x0))) = 0 → (((1 : Int32) = 0 ∨ (1 : Int32) = 1) ∧ Q (some (.inl (1 : Int32))) S)))))))))
set_option maxRecDepth 20000 in
set_option maxHeartbeats 4000000 in
theorem f_55 {sp : ox_E} (hsp : ox_mono sp) {d : Nat} {mr sr : Nat} {x0 : Nat} {S : ox_St} {Q : ox_Q} (h : q_55 (ox_M sp d) x0 S mr sr Q) : ox_M sp (d + 1) 55 [.inr (.inr (x0))] mr sr S Q := Or.inr ⟨Nat.le_of_ble_eq_true rfl, ox_C_fold (ox_M_mono hsp d) h⟩
/-! OpcodeFrames$Machine.numberOf(LOpcodeFrames$Value;)LOpcodeFrames$Num; -/
set_option maxRecDepth 20000 in
def q_56 (E : ox_E) (x0 : Nat) (x1 : Nat) (S : ox_St) (mr sr : Nat) (Q : ox_Q) : Prop :=
  ((x1 = 0 ∨ ox_isV (S.K x1) = true) ∧ (((if [8].contains (S.K x1) = true then (1 : Int32) else 0) = 0 → (ox_has (S.K x1) 6 = true ∧ ((¬ (S.I 6 x1) = 1 → (ox_has (S.K x1) 6 = true ∧ ((¬ (S.I 6 x1) = 2 → (ox_isR (ox_mi 56).2.2.2.1 = true ∧ Q (some (.inr (.inr 0))) S)) ∧ ((S.I 6 x1) = 2 → (ox_has (S.K x0) 49 = true ∧ (ox_isR (ox_mi 56).2.2.2.1 = true ∧ Q (some (.inr (.inr (S.R 49 x0)))) S)))))) ∧ ((S.I 6 x1) = 1 → (ox_has (S.K x0) 48 = true ∧ (ox_isR (ox_mi 56).2.2.2.1 = true ∧ Q (some (.inr (.inr (S.R 48 x0)))) S)))))) ∧ (¬ (if [8].contains (S.K x1) = true then (1 : Int32) else 0) = 0 → ((x1 = 0 ∨ [8].contains (S.K x1) = true) ∧ (ox_isR (ox_mi 56).2.2.2.1 = true ∧ Q (some (.inr (.inr x1))) S)))))
set_option maxRecDepth 20000 in
set_option maxHeartbeats 4000000 in
theorem f_56 {sp : ox_E} (hsp : ox_mono sp) {d : Nat} {mr sr : Nat} {x0 : Nat} {x1 : Nat} {S : ox_St} {Q : ox_Q} (h : q_56 (ox_M sp d) x0 x1 S mr sr Q) : ox_M sp (d + 1) 56 [.inr (.inr (x0)), .inr (.inr (x1))] mr sr S Q := Or.inr ⟨Nat.le_of_ble_eq_true rfl, ox_C_fold (ox_M_mono hsp d) h⟩
/-! OpcodeFrames$Machine.negate(LOpcodeFrames$Frame;)I -/
def k_57_6 (E : ox_E) (x0 : Nat) (x1 : Nat) (y1 : Nat) (mr sr : Nat) (Q : ox_Q) : ox_Q := fun r_ T_ => ox_C E (ox_mi 57).2.2.2.1 (ox_mc 57) (ox_cut 57) Q 6 [some (.inr (.inr (x0))), some (.inr (.inr (x1))), none, none] (r_.toList ++ [.inr (.inr (y1))]) T_ mr sr
def k_57_9 (E : ox_E) (x0 : Nat) (x1 : Nat) (mr sr : Nat) (Q : ox_Q) : ox_Q := fun r_ T_ => ox_C E (ox_mi 57).2.2.2.1 (ox_mc 57) (ox_cut 57) Q 9 [some (.inr (.inr (x0))), some (.inr (.inr (x1))), none, none] (r_.toList ++ []) T_ mr sr
def k_57_51 (E : ox_E) (x0 : Nat) (x1 : Nat) (x2 : Nat) (x3 : Int32) (y0 : Nat) (y1 : Int32) (y2 : Nat) (mr sr : Nat) (Q : ox_Q) : ox_Q := fun r_ T_ => ox_C E (ox_mi 57).2.2.2.1 (ox_mc 57) (ox_cut 57) Q 51 [some (.inr (.inr (x0))), some (.inr (.inr (x1))), some (.inr (.inr (x2))), some (.inl (x3))] (r_.toList ++ [.inr (.inr (y0)), .inl (y1), .inr (.inr (y2))]) T_ mr sr
def k_57_54 (E : ox_E) (x0 : Nat) (x1 : Nat) (x2 : Nat) (x3 : Int32) (mr sr : Nat) (Q : ox_Q) : ox_Q := fun r_ T_ => ox_C E (ox_mi 57).2.2.2.1 (ox_mc 57) (ox_cut 57) Q 54 [some (.inr (.inr (x0))), some (.inr (.inr (x1))), some (.inr (.inr (x2))), some (.inl (x3))] (r_.toList ++ []) T_ mr sr
set_option maxRecDepth 20000 in
def q_57_54 (E : ox_E) (x0 : Nat) (x1 : Nat) (x2 : Nat) (x3 : Int32) (y0 : Int32) (S : ox_St) (mr sr : Nat) (Q : ox_Q) : Prop :=
  (True ∧ Q (some (.inl y0)) S)
set_option maxRecDepth 20000 in
set_option maxHeartbeats 4000000 in
theorem f_57_54 {E : ox_E} (hE : ox_mono E) {mr sr : Nat} {x0 : Nat} {x1 : Nat} {x2 : Nat} {x3 : Int32} {y0 : Int32} {S : ox_St} {Q : ox_Q} (h : q_57_54 E x0 x1 x2 x3 y0 S mr sr Q) : k_57_54 E x0 x1 x2 x3 mr sr Q (some (.inl (y0))) S := ox_C_fold hE h
set_option maxRecDepth 20000 in
def q_57_51 (E : ox_E) (x0 : Nat) (x1 : Nat) (x2 : Nat) (x3 : Int32) (y0 : Nat) (y1 : Int32) (y2 : Nat) (S : ox_St) (mr sr : Nat) (Q : ox_Q) : Prop :=
  (3 ≤ 3 ∧ 0 ≤ 8 ∧ ∃ mc1 mk2, mc1 ≤ mr ∧ mk2 ≤ sr ∧ E 50 [.inr (.inr (y2)), .inl (y1), .inr (.inr (y0))] mc1 mk2 S (k_57_54 E x0 x1 x2 x3 (mr - mc1) (sr - mk2) Q))
set_option maxRecDepth 20000 in
set_option maxHeartbeats 4000000 in
theorem f_57_51 {E : ox_E} (hE : ox_mono E) {mr sr : Nat} {x0 : Nat} {x1 : Nat} {x2 : Nat} {x3 : Int32} {y0 : Nat} {y1 : Int32} {y2 : Nat} {S : ox_St} {Q : ox_Q} (h : q_57_51 E x0 x1 x2 x3 y0 y1 y2 S mr sr Q) : k_57_51 E x0 x1 x2 x3 y0 y1 y2 mr sr Q none S := ox_C_fold hE h
set_option maxRecDepth 20000 in
def q_57_9 (E : ox_E) (x0 : Nat) (x1 : Nat) (y0 : Nat) (S : ox_St) (mr sr : Nat) (Q : ox_Q) : Prop :=
  ((¬ y0 = 0 → (ox_has (S.K y0) 51 = true ∧ ((¬ (S.I 51 y0) = 0 → (1 ≤ mr ∧ 4 ≤ sr ∧ (let S1 := S.newO 8
  (ox_has (S1.K y0) 52 = true ∧ (3 ≤ 6 ∧ S.n ≠ 0 ∧ 3 ≤ 8 ∧ ∃ mc2 mk3, mc2 ≤ (mr - 1) ∧ mk3 ≤ (sr - 4) ∧ E 78 [.inr (.inr (S.n)), .inl (0), .inr (.inr (S1.R 52 y0))] mc2 mk3 S1 (k_57_51 E x0 x1 y0 0 S.n 1 x1 ((mr - 1) - mc2) ((sr - 4) - mk3) Q)))))) ∧ ((S.I 51 y0) = 0 → (ox_has (S.K y0) 52 = true ∧ (ox_rdL (S.K (S.R 52 y0)) = true ∧ (((Int32.ofNat (S.len (S.R 52 y0))) ≤ 0 → (1 ≤ mr ∧ 4 ≤ sr ∧ (let S4 := S.newO 8
  (ox_has (S4.K y0) 52 = true ∧ (3 ≤ 6 ∧ S.n ≠ 0 ∧ 3 ≤ 8 ∧ ∃ mc5 mk6, mc5 ≤ (mr - 1) ∧ mk6 ≤ (sr - 4) ∧ E 78 [.inr (.inr (S.n)), .inl (0), .inr (.inr (S4.R 52 y0))] mc5 mk6 S4 (k_57_51 E x0 x1 y0 0 S.n 1 x1 ((mr - 1) - mc5) ((sr - 4) - mk6) Q)))))) ∧ (¬ (Int32.ofNat (S.len (S.R 52 y0))) ≤ 0 → (1 ≤ mr ∧ 4 ≤ sr ∧ (let S7 := S.newO 8
  (ox_has (S7.K y0) 52 = true ∧ (3 ≤ 6 ∧ S.n ≠ 0 ∧ 3 ≤ 8 ∧ ∃ mc8 mk9, mc8 ≤ (mr - 1) ∧ mk9 ≤ (sr - 4) ∧ E 78 [.inr (.inr (S.n)), .inl (1), .inr (.inr (S7.R 52 y0))] mc8 mk9 S7 (k_57_51 E x0 x1 y0 1 S.n 1 x1 ((mr - 1) - mc8) ((sr - 4) - mk9) Q))))))))))))) ∧ (y0 = 0 → (True ∧ Q (some (.inl (0 : Int32))) S)))
set_option maxRecDepth 20000 in
set_option maxHeartbeats 4000000 in
theorem f_57_9 {E : ox_E} (hE : ox_mono E) {mr sr : Nat} {x0 : Nat} {x1 : Nat} {y0 : Nat} {S : ox_St} {Q : ox_Q} (h : q_57_9 E x0 x1 y0 S mr sr Q) : k_57_9 E x0 x1 mr sr Q (some (.inr (.inr (y0)))) S := ox_C_fold hE h
set_option maxRecDepth 20000 in
def q_57_6 (E : ox_E) (x0 : Nat) (x1 : Nat) (y0 : Nat) (y1 : Nat) (S : ox_St) (mr sr : Nat) (Q : ox_Q) : Prop :=
  (2 ≤ 2 ∧ S.K y1 = 7 ∧ 0 ≤ 8 ∧ ∃ mc1 mk2, mc1 ≤ mr ∧ mk2 ≤ sr ∧ E 56 [.inr (.inr (y1)), .inr (.inr (y0))] mc1 mk2 S (k_57_9 E x0 x1 (mr - mc1) (sr - mk2) Q))
set_option maxRecDepth 20000 in
set_option maxHeartbeats 4000000 in
theorem f_57_6 {E : ox_E} (hE : ox_mono E) {mr sr : Nat} {x0 : Nat} {x1 : Nat} {y0 : Nat} {y1 : Nat} {S : ox_St} {Q : ox_Q} (h : q_57_6 E x0 x1 y0 y1 S mr sr Q) : k_57_6 E x0 x1 y1 mr sr Q (some (.inr (.inr (y0)))) S := ox_C_fold hE h
set_option maxRecDepth 20000 in
def q_57 (E : ox_E) (x0 : Nat) (x1 : Nat) (S : ox_St) (mr sr : Nat) (Q : ox_Q) : Prop :=
  (2 ≤ 3 ∧ S.K x1 = 4 ∧ 1 ≤ 8 ∧ ∃ mc1 mk2, mc1 ≤ mr ∧ mk2 ≤ sr ∧ E 21 [.inr (.inr (x1)), .inl (0)] mc1 mk2 S (k_57_6 E x0 x1 x0 (mr - mc1) (sr - mk2) Q))
set_option maxRecDepth 20000 in
set_option maxHeartbeats 4000000 in
theorem f_57 {sp : ox_E} (hsp : ox_mono sp) {d : Nat} {mr sr : Nat} {x0 : Nat} {x1 : Nat} {S : ox_St} {Q : ox_Q} (h : q_57 (ox_M sp d) x0 x1 S mr sr Q) : ox_M sp (d + 1) 57 [.inr (.inr (x0)), .inr (.inr (x1))] mr sr S Q := Or.inr ⟨Nat.le_of_ble_eq_true rfl, ox_C_fold (ox_M_mono hsp d) h⟩
/-! OpcodeFrames$Machine.calculate(LOpcodeFrames$Frame;I)I -/
def k_58_11 (E : ox_E) (x0 : Nat) (x1 : Nat) (x2 : Int32) (mr sr : Nat) (Q : ox_Q) : ox_Q := fun r_ T_ => ox_C E (ox_mi 58).2.2.2.1 (ox_mc 58) (ox_cut 58) Q 11 [some (.inr (.inr (x0))), some (.inr (.inr (x1))), some (.inl (x2)), none, none, none] (r_.toList ++ []) T_ mr sr
def k_58_32 (E : ox_E) (x0 : Nat) (x1 : Nat) (x2 : Int32) (x3 : Nat) (x5 : Nat) (mr sr : Nat) (Q : ox_Q) : ox_Q := fun r_ T_ => ox_C E (ox_mi 58).2.2.2.1 (ox_mc 58) (ox_cut 58) Q 32 [some (.inr (.inr (x0))), some (.inr (.inr (x1))), some (.inl (x2)), some (.inr (.inr (x3))), none, some (.inr (.inr (x5)))] (r_.toList ++ []) T_ mr sr
def k_58_62 (E : ox_E) (x0 : Nat) (x1 : Nat) (x2 : Int32) (x3 : Nat) (x4 : Nat) (x5 : Nat) (mr sr : Nat) (Q : ox_Q) : ox_Q := fun r_ T_ => ox_C E (ox_mi 58).2.2.2.1 (ox_mc 58) (ox_cut 58) Q 62 [some (.inr (.inr (x0))), some (.inr (.inr (x1))), some (.inl (x2)), some (.inr (.inr (x3))), some (.inr (.inr (x4))), some (.inr (.inr (x5)))] (r_.toList ++ []) T_ mr sr
def c_58_63 (E : ox_E) (x0 : Nat) (x1 : Nat) (x2 : Int32) (S : ox_St) (mr sr : Nat) (Q : ox_Q) : Prop := ox_C E (ox_mi 58).2.2.2.1 (ox_mc 58) (ox_cut 58) Q 63 [some (.inr (.inr (x0))), some (.inr (.inr (x1))), some (.inl (x2)), none, none, none] [] S mr sr
def k_58_69 (E : ox_E) (x0 : Nat) (x1 : Nat) (x2 : Int32) (y1 : Nat) (mr sr : Nat) (Q : ox_Q) : ox_Q := fun r_ T_ => ox_C E (ox_mi 58).2.2.2.1 (ox_mc 58) (ox_cut 58) Q 69 [some (.inr (.inr (x0))), some (.inr (.inr (x1))), some (.inl (x2)), none, none, none] (r_.toList ++ [.inr (.inr (y1))]) T_ mr sr
def k_58_72 (E : ox_E) (x0 : Nat) (x1 : Nat) (x2 : Int32) (mr sr : Nat) (Q : ox_Q) : ox_Q := fun r_ T_ => ox_C E (ox_mi 58).2.2.2.1 (ox_mc 58) (ox_cut 58) Q 72 [some (.inr (.inr (x0))), some (.inr (.inr (x1))), some (.inl (x2)), none, none, none] (r_.toList ++ []) T_ mr sr
def k_58_79 (E : ox_E) (x0 : Nat) (x1 : Nat) (x2 : Int32) (x3 : Nat) (y1 : Nat) (mr sr : Nat) (Q : ox_Q) : ox_Q := fun r_ T_ => ox_C E (ox_mi 58).2.2.2.1 (ox_mc 58) (ox_cut 58) Q 79 [some (.inr (.inr (x0))), some (.inr (.inr (x1))), some (.inl (x2)), some (.inr (.inr (x3))), none, none] (r_.toList ++ [.inr (.inr (y1))]) T_ mr sr
def k_58_82 (E : ox_E) (x0 : Nat) (x1 : Nat) (x2 : Int32) (x3 : Nat) (mr sr : Nat) (Q : ox_Q) : ox_Q := fun r_ T_ => ox_C E (ox_mi 58).2.2.2.1 (ox_mc 58) (ox_cut 58) Q 82 [some (.inr (.inr (x0))), some (.inr (.inr (x1))), some (.inl (x2)), some (.inr (.inr (x3))), none, none] (r_.toList ++ []) T_ mr sr
def c_58_93 (E : ox_E) (x0 : Nat) (x1 : Nat) (x2 : Int32) (x3 : Nat) (x4 : Nat) (S : ox_St) (mr sr : Nat) (Q : ox_Q) : Prop := ox_C E (ox_mi 58).2.2.2.1 (ox_mc 58) (ox_cut 58) Q 93 [some (.inr (.inr (x0))), some (.inr (.inr (x1))), some (.inl (x2)), some (.inr (.inr (x3))), some (.inr (.inr (x4))), none] [] S mr sr
def c_58_107 (E : ox_E) (x0 : Nat) (x1 : Nat) (x2 : Int32) (x3 : Nat) (x4 : Nat) (S : ox_St) (mr sr : Nat) (Q : ox_Q) : Prop := ox_C E (ox_mi 58).2.2.2.1 (ox_mc 58) (ox_cut 58) Q 107 [some (.inr (.inr (x0))), some (.inr (.inr (x1))), some (.inl (x2)), some (.inr (.inr (x3))), some (.inr (.inr (x4))), none] [] S mr sr
def c_58_118 (E : ox_E) (x0 : Nat) (x1 : Nat) (x2 : Int32) (x3 : Nat) (x4 : Nat) (S : ox_St) (mr sr : Nat) (Q : ox_Q) : Prop := ox_C E (ox_mi 58).2.2.2.1 (ox_mc 58) (ox_cut 58) Q 118 [some (.inr (.inr (x0))), some (.inr (.inr (x1))), some (.inl (x2)), some (.inr (.inr (x3))), some (.inr (.inr (x4))), none] [] S mr sr
def k_58_162 (E : ox_E) (x0 : Nat) (x1 : Nat) (x2 : Int32) (x3 : Nat) (x4 : Nat) (mr sr : Nat) (Q : ox_Q) : ox_Q := fun r_ T_ => ox_C E (ox_mi 58).2.2.2.1 (ox_mc 58) (ox_cut 58) Q 162 [some (.inr (.inr (x0))), some (.inr (.inr (x1))), some (.inl (x2)), some (.inr (.inr (x3))), some (.inr (.inr (x4))), none] (r_.toList ++ []) T_ mr sr
def k_58_177 (E : ox_E) (x0 : Nat) (x1 : Nat) (x2 : Int32) (x3 : Nat) (x4 : Nat) (mr sr : Nat) (Q : ox_Q) : ox_Q := fun r_ T_ => ox_C E (ox_mi 58).2.2.2.1 (ox_mc 58) (ox_cut 58) Q 177 [some (.inr (.inr (x0))), some (.inr (.inr (x1))), some (.inl (x2)), some (.inr (.inr (x3))), some (.inr (.inr (x4))), none] (r_.toList ++ []) T_ mr sr
def k_58_192 (E : ox_E) (x0 : Nat) (x1 : Nat) (x2 : Int32) (x3 : Nat) (x4 : Nat) (mr sr : Nat) (Q : ox_Q) : ox_Q := fun r_ T_ => ox_C E (ox_mi 58).2.2.2.1 (ox_mc 58) (ox_cut 58) Q 192 [some (.inr (.inr (x0))), some (.inr (.inr (x1))), some (.inl (x2)), some (.inr (.inr (x3))), some (.inr (.inr (x4))), none] (r_.toList ++ []) T_ mr sr
def c_58_215 (E : ox_E) (x0 : Nat) (x1 : Nat) (x2 : Int32) (x3 : Nat) (x4 : Nat) (y0 : Int32) (y1 : Nat) (y2 : Nat) (y3 : Nat) (S : ox_St) (mr sr : Nat) (Q : ox_Q) : Prop := ox_C E (ox_mi 58).2.2.2.1 (ox_mc 58) (ox_cut 58) Q 215 [some (.inr (.inr (x0))), some (.inr (.inr (x1))), some (.inl (x2)), some (.inr (.inr (x3))), some (.inr (.inr (x4))), none] [.inl (y0), .inr (.inr (y1)), .inr (.inr (y2)), .inr (.inr (y3))] S mr sr
def k_58_218 (E : ox_E) (x0 : Nat) (x1 : Nat) (x2 : Int32) (x3 : Nat) (x4 : Nat) (mr sr : Nat) (Q : ox_Q) : ox_Q := fun r_ T_ => ox_C E (ox_mi 58).2.2.2.1 (ox_mc 58) (ox_cut 58) Q 218 [some (.inr (.inr (x0))), some (.inr (.inr (x1))), some (.inl (x2)), some (.inr (.inr (x3))), some (.inr (.inr (x4))), none] (r_.toList ++ []) T_ mr sr
def c_58_220 (E : ox_E) (x0 : Nat) (x1 : Nat) (x2 : Int32) (x3 : Nat) (x4 : Nat) (x5 : Nat) (S : ox_St) (mr sr : Nat) (Q : ox_Q) : Prop := ox_C E (ox_mi 58).2.2.2.1 (ox_mc 58) (ox_cut 58) Q 220 [some (.inr (.inr (x0))), some (.inr (.inr (x1))), some (.inl (x2)), some (.inr (.inr (x3))), some (.inr (.inr (x4))), some (.inr (.inr (x5)))] [] S mr sr
def k_58_237 (E : ox_E) (x0 : Nat) (x1 : Nat) (x2 : Int32) (x3 : Nat) (x4 : Nat) (x5 : Nat) (mr sr : Nat) (Q : ox_Q) : ox_Q := fun r_ T_ => ox_C E (ox_mi 58).2.2.2.1 (ox_mc 58) (ox_cut 58) Q 237 [some (.inr (.inr (x0))), some (.inr (.inr (x1))), some (.inl (x2)), some (.inr (.inr (x3))), some (.inr (.inr (x4))), some (.inr (.inr (x5)))] (r_.toList ++ []) T_ mr sr
set_option maxRecDepth 20000 in
def q_58_237 (E : ox_E) (x0 : Nat) (x1 : Nat) (x2 : Int32) (x3 : Nat) (x4 : Nat) (x5 : Nat) (y0 : Int32) (S : ox_St) (mr sr : Nat) (Q : ox_Q) : Prop :=
  (True ∧ Q (some (.inl y0)) S)
set_option maxRecDepth 20000 in
set_option maxHeartbeats 4000000 in
theorem f_58_237 {E : ox_E} (hE : ox_mono E) {mr sr : Nat} {x0 : Nat} {x1 : Nat} {x2 : Int32} {x3 : Nat} {x4 : Nat} {x5 : Nat} {y0 : Int32} {S : ox_St} {Q : ox_Q} (h : q_58_237 E x0 x1 x2 x3 x4 x5 y0 S mr sr Q) : k_58_237 E x0 x1 x2 x3 x4 x5 mr sr Q (some (.inl (y0))) S := ox_C_fold hE h
set_option maxRecDepth 20000 in
def q_58_220 (E : ox_E) (x0 : Nat) (x1 : Nat) (x2 : Int32) (x3 : Nat) (x4 : Nat) (x5 : Nat) (S : ox_St) (mr sr : Nat) (Q : ox_Q) : Prop :=
  ((¬ x5 = 0 → (3 ≤ 3 ∧ 0 ≤ 8 ∧ ∃ mc1 mk2, mc1 ≤ mr ∧ mk2 ≤ sr ∧ E 50 [.inr (.inr (x1)), .inl (2), .inr (.inr (x5))] mc1 mk2 S (k_58_237 E x0 x1 x2 x3 x4 x5 (mr - mc1) (sr - mk2) Q))) ∧ (x5 = 0 → k_58_237 E x0 x1 x2 x3 x4 x5 mr sr Q (some (.inl (6))) S))
set_option maxRecDepth 20000 in
set_option maxHeartbeats 4000000 in
theorem f_58_220 {E : ox_E} (hE : ox_mono E) {mr sr : Nat} {x0 : Nat} {x1 : Nat} {x2 : Int32} {x3 : Nat} {x4 : Nat} {x5 : Nat} {S : ox_St} {Q : ox_Q} (h : q_58_220 E x0 x1 x2 x3 x4 x5 S mr sr Q) : c_58_220 E x0 x1 x2 x3 x4 x5 S mr sr Q := ox_C_fold hE h
set_option maxRecDepth 20000 in
def q_58_218 (E : ox_E) (x0 : Nat) (x1 : Nat) (x2 : Int32) (x3 : Nat) (x4 : Nat) (y0 : Nat) (S : ox_St) (mr sr : Nat) (Q : ox_Q) : Prop :=
  c_58_220 E x0 x1 x2 x3 x4 y0 S mr sr Q
set_option maxRecDepth 20000 in
set_option maxHeartbeats 4000000 in
theorem f_58_218 {E : ox_E} (hE : ox_mono E) {mr sr : Nat} {x0 : Nat} {x1 : Nat} {x2 : Int32} {x3 : Nat} {x4 : Nat} {y0 : Nat} {S : ox_St} {Q : ox_Q} (h : q_58_218 E x0 x1 x2 x3 x4 y0 S mr sr Q) : k_58_218 E x0 x1 x2 x3 x4 mr sr Q (some (.inr (.inr (y0)))) S := ox_C_fold hE h
set_option maxRecDepth 20000 in
def q_58_215 (E : ox_E) (x0 : Nat) (x1 : Nat) (x2 : Int32) (x3 : Nat) (x4 : Nat) (y0 : Int32) (y1 : Nat) (y2 : Nat) (y3 : Nat) (S : ox_St) (mr sr : Nat) (Q : ox_Q) : Prop :=
  (4 ≤ 4 ∧ S.K y3 = 2 ∧ 0 ≤ 8 ∧ ∃ mc1 mk2, mc1 ≤ mr ∧ mk2 ≤ sr ∧ E 3 [.inr (.inr (y3)), .inr (.inr (y2)), .inr (.inr (y1)), .inl (y0)] mc1 mk2 S (k_58_218 E x0 x1 x2 x3 x4 (mr - mc1) (sr - mk2) Q))
set_option maxRecDepth 20000 in
set_option maxHeartbeats 4000000 in
theorem f_58_215 {E : ox_E} (hE : ox_mono E) {mr sr : Nat} {x0 : Nat} {x1 : Nat} {x2 : Int32} {x3 : Nat} {x4 : Nat} {y0 : Int32} {y1 : Nat} {y2 : Nat} {y3 : Nat} {S : ox_St} {Q : ox_Q} (h : q_58_215 E x0 x1 x2 x3 x4 y0 y1 y2 y3 S mr sr Q) : c_58_215 E x0 x1 x2 x3 x4 y0 y1 y2 y3 S mr sr Q := ox_C_fold hE h
set_option maxRecDepth 20000 in
def q_58_192 (E : ox_E) (x0 : Nat) (x1 : Nat) (x2 : Int32) (x3 : Nat) (x4 : Nat) (y0 : Nat) (S : ox_St) (mr sr : Nat) (Q : ox_Q) : Prop :=
  c_58_220 E x0 x1 x2 x3 x4 y0 S mr sr Q
set_option maxRecDepth 20000 in
set_option maxHeartbeats 4000000 in
theorem f_58_192 {E : ox_E} (hE : ox_mono E) {mr sr : Nat} {x0 : Nat} {x1 : Nat} {x2 : Int32} {x3 : Nat} {x4 : Nat} {y0 : Nat} {S : ox_St} {Q : ox_Q} (h : q_58_192 E x0 x1 x2 x3 x4 y0 S mr sr Q) : k_58_192 E x0 x1 x2 x3 x4 mr sr Q (some (.inr (.inr (y0)))) S := ox_C_fold hE h
set_option maxRecDepth 20000 in
def q_58_177 (E : ox_E) (x0 : Nat) (x1 : Nat) (x2 : Int32) (x3 : Nat) (x4 : Nat) (y0 : Nat) (S : ox_St) (mr sr : Nat) (Q : ox_Q) : Prop :=
  c_58_220 E x0 x1 x2 x3 x4 y0 S mr sr Q
set_option maxRecDepth 20000 in
set_option maxHeartbeats 4000000 in
theorem f_58_177 {E : ox_E} (hE : ox_mono E) {mr sr : Nat} {x0 : Nat} {x1 : Nat} {x2 : Int32} {x3 : Nat} {x4 : Nat} {y0 : Nat} {S : ox_St} {Q : ox_Q} (h : q_58_177 E x0 x1 x2 x3 x4 y0 S mr sr Q) : k_58_177 E x0 x1 x2 x3 x4 mr sr Q (some (.inr (.inr (y0)))) S := ox_C_fold hE h
set_option maxRecDepth 20000 in
def q_58_162 (E : ox_E) (x0 : Nat) (x1 : Nat) (x2 : Int32) (x3 : Nat) (x4 : Nat) (y0 : Nat) (S : ox_St) (mr sr : Nat) (Q : ox_Q) : Prop :=
  c_58_220 E x0 x1 x2 x3 x4 y0 S mr sr Q
set_option maxRecDepth 20000 in
set_option maxHeartbeats 4000000 in
theorem f_58_162 {E : ox_E} (hE : ox_mono E) {mr sr : Nat} {x0 : Nat} {x1 : Nat} {x2 : Int32} {x3 : Nat} {x4 : Nat} {y0 : Nat} {S : ox_St} {Q : ox_Q} (h : q_58_162 E x0 x1 x2 x3 x4 y0 S mr sr Q) : k_58_162 E x0 x1 x2 x3 x4 mr sr Q (some (.inr (.inr (y0)))) S := ox_C_fold hE h
set_option maxRecDepth 20000 in
def q_58_118 (E : ox_E) (x0 : Nat) (x1 : Nat) (x2 : Int32) (x3 : Nat) (x4 : Nat) (S : ox_St) (mr sr : Nat) (Q : ox_Q) : Prop :=
  ((Int32.toInt x2 = 20 → (ox_has (S.K x0) 50 = true ∧ (3 ≤ 3 ∧ S.K (S.R 50 x0) = 2 ∧ 0 ≤ 8 ∧ ∃ mc5 mk6, mc5 ≤ mr ∧ mk6 ≤ sr ∧ E 6 [.inr (.inr (S.R 50 x0)), .inr (.inr (x3)), .inr (.inr (x4))] mc5 mk6 S (k_58_162 E x0 x1 x2 x3 x4 (mr - mc5) (sr - mk6) Q)))) ∧ (¬ Int32.toInt x2 = 20 → ((Int32.toInt x2 = 22 → (ox_has (S.K x0) 50 = true ∧ (3 ≤ 3 ∧ S.K (S.R 50 x0) = 2 ∧ 0 ≤ 8 ∧ ∃ mc3 mk4, mc3 ≤ mr ∧ mk4 ≤ sr ∧ E 8 [.inr (.inr (S.R 50 x0)), .inr (.inr (x3)), .inr (.inr (x4))] mc3 mk4 S (k_58_192 E x0 x1 x2 x3 x4 (mr - mc3) (sr - mk4) Q)))) ∧ (¬ Int32.toInt x2 = 22 → ((Int32.toInt x2 = 26 → (ox_has (S.K x0) 50 = true ∧ (3 ≤ 3 ∧ S.K (S.R 50 x0) = 2 ∧ 0 ≤ 8 ∧ ∃ mc1 mk2, mc1 ≤ mr ∧ mk2 ≤ sr ∧ E 7 [.inr (.inr (S.R 50 x0)), .inr (.inr (x3)), .inr (.inr (x4))] mc1 mk2 S (k_58_177 E x0 x1 x2 x3 x4 (mr - mc1) (sr - mk2) Q)))) ∧ (¬ Int32.toInt x2 = 26 → (ox_has (S.K x0) 50 = true ∧ ((¬ x2 = 24 → c_58_215 E x0 x1 x2 x3 x4 0 x4 x3 (S.R 50 x0) S mr sr Q) ∧ (x2 = 24 → c_58_215 E x0 x1 x2 x3 x4 1 x4 x3 (S.R 50 x0) S mr sr Q)))))))))
set_option maxRecDepth 20000 in
set_option maxHeartbeats 4000000 in
theorem f_58_118 {E : ox_E} (hE : ox_mono E) {mr sr : Nat} {x0 : Nat} {x1 : Nat} {x2 : Int32} {x3 : Nat} {x4 : Nat} {S : ox_St} {Q : ox_Q} (h : q_58_118 E x0 x1 x2 x3 x4 S mr sr Q) : c_58_118 E x0 x1 x2 x3 x4 S mr sr Q := ox_C_fold hE h
set_option maxRecDepth 20000 in
def q_58_107 (E : ox_E) (x0 : Nat) (x1 : Nat) (x2 : Int32) (x3 : Nat) (x4 : Nat) (S : ox_St) (mr sr : Nat) (Q : ox_Q) : Prop :=
  (ox_has (S.K x4) 52 = true ∧ (ox_rdL (S.K (S.R 52 x4)) = true ∧ ((¬ (Int32.ofNat (S.len (S.R 52 x4))) = 0 → c_58_118 E x0 x1 x2 x3 x4 S mr sr Q) ∧ ((Int32.ofNat (S.len (S.R 52 x4))) = 0 → (True ∧ Q (some (.inl (1 : Int32))) S)))))
set_option maxRecDepth 20000 in
set_option maxHeartbeats 4000000 in
theorem f_58_107 {E : ox_E} (hE : ox_mono E) {mr sr : Nat} {x0 : Nat} {x1 : Nat} {x2 : Int32} {x3 : Nat} {x4 : Nat} {S : ox_St} {Q : ox_Q} (h : q_58_107 E x0 x1 x2 x3 x4 S mr sr Q) : c_58_107 E x0 x1 x2 x3 x4 S mr sr Q := ox_C_fold hE h
set_option maxRecDepth 20000 in
def q_58_93 (E : ox_E) (x0 : Nat) (x1 : Nat) (x2 : Int32) (x3 : Nat) (x4 : Nat) (S : ox_St) (mr sr : Nat) (Q : ox_Q) : Prop :=
  (True ∧ Q (some (.inl (0 : Int32))) S)
set_option maxRecDepth 20000 in
set_option maxHeartbeats 4000000 in
theorem f_58_93 {E : ox_E} (hE : ox_mono E) {mr sr : Nat} {x0 : Nat} {x1 : Nat} {x2 : Int32} {x3 : Nat} {x4 : Nat} {S : ox_St} {Q : ox_Q} (h : q_58_93 E x0 x1 x2 x3 x4 S mr sr Q) : c_58_93 E x0 x1 x2 x3 x4 S mr sr Q := ox_C_fold hE h
set_option maxRecDepth 20000 in
def q_58_82 (E : ox_E) (x0 : Nat) (x1 : Nat) (x2 : Int32) (x3 : Nat) (y0 : Nat) (S : ox_St) (mr sr : Nat) (Q : ox_Q) : Prop :=
  ((x3 = 0 → c_58_93 E x0 x1 x2 x3 y0 S mr sr Q) ∧ (¬ x3 = 0 → ((¬ y0 = 0 → ((x2 = 26 → c_58_107 E x0 x1 x2 x3 y0 S mr sr Q) ∧ (¬ x2 = 26 → ((¬ x2 = 22 → c_58_118 E x0 x1 x2 x3 y0 S mr sr Q) ∧ (x2 = 22 → c_58_107 E x0 x1 x2 x3 y0 S mr sr Q))))) ∧ (y0 = 0 → c_58_93 E x0 x1 x2 x3 y0 S mr sr Q))))
set_option maxRecDepth 20000 in
set_option maxHeartbeats 4000000 in
theorem f_58_82 {E : ox_E} (hE : ox_mono E) {mr sr : Nat} {x0 : Nat} {x1 : Nat} {x2 : Int32} {x3 : Nat} {y0 : Nat} {S : ox_St} {Q : ox_Q} (h : q_58_82 E x0 x1 x2 x3 y0 S mr sr Q) : k_58_82 E x0 x1 x2 x3 mr sr Q (some (.inr (.inr (y0)))) S := ox_C_fold hE h
set_option maxRecDepth 20000 in
def q_58_79 (E : ox_E) (x0 : Nat) (x1 : Nat) (x2 : Int32) (x3 : Nat) (y0 : Nat) (y1 : Nat) (S : ox_St) (mr sr : Nat) (Q : ox_Q) : Prop :=
  (2 ≤ 2 ∧ S.K y1 = 7 ∧ 0 ≤ 8 ∧ ∃ mc1 mk2, mc1 ≤ mr ∧ mk2 ≤ sr ∧ E 56 [.inr (.inr (y1)), .inr (.inr (y0))] mc1 mk2 S (k_58_82 E x0 x1 x2 x3 (mr - mc1) (sr - mk2) Q))
set_option maxRecDepth 20000 in
set_option maxHeartbeats 4000000 in
theorem f_58_79 {E : ox_E} (hE : ox_mono E) {mr sr : Nat} {x0 : Nat} {x1 : Nat} {x2 : Int32} {x3 : Nat} {y0 : Nat} {y1 : Nat} {S : ox_St} {Q : ox_Q} (h : q_58_79 E x0 x1 x2 x3 y0 y1 S mr sr Q) : k_58_79 E x0 x1 x2 x3 y1 mr sr Q (some (.inr (.inr (y0)))) S := ox_C_fold hE h
set_option maxRecDepth 20000 in
def q_58_72 (E : ox_E) (x0 : Nat) (x1 : Nat) (x2 : Int32) (y0 : Nat) (S : ox_St) (mr sr : Nat) (Q : ox_Q) : Prop :=
  (2 ≤ 3 ∧ S.K x1 = 4 ∧ 1 ≤ 8 ∧ ∃ mc1 mk2, mc1 ≤ mr ∧ mk2 ≤ sr ∧ E 21 [.inr (.inr (x1)), .inl (0)] mc1 mk2 S (k_58_79 E x0 x1 x2 y0 x0 (mr - mc1) (sr - mk2) Q))
set_option maxRecDepth 20000 in
set_option maxHeartbeats 4000000 in
theorem f_58_72 {E : ox_E} (hE : ox_mono E) {mr sr : Nat} {x0 : Nat} {x1 : Nat} {x2 : Int32} {y0 : Nat} {S : ox_St} {Q : ox_Q} (h : q_58_72 E x0 x1 x2 y0 S mr sr Q) : k_58_72 E x0 x1 x2 mr sr Q (some (.inr (.inr (y0)))) S := ox_C_fold hE h
set_option maxRecDepth 20000 in
def q_58_69 (E : ox_E) (x0 : Nat) (x1 : Nat) (x2 : Int32) (y0 : Nat) (y1 : Nat) (S : ox_St) (mr sr : Nat) (Q : ox_Q) : Prop :=
  (2 ≤ 2 ∧ S.K y1 = 7 ∧ 0 ≤ 8 ∧ ∃ mc1 mk2, mc1 ≤ mr ∧ mk2 ≤ sr ∧ E 56 [.inr (.inr (y1)), .inr (.inr (y0))] mc1 mk2 S (k_58_72 E x0 x1 x2 (mr - mc1) (sr - mk2) Q))
set_option maxRecDepth 20000 in
set_option maxHeartbeats 4000000 in
theorem f_58_69 {E : ox_E} (hE : ox_mono E) {mr sr : Nat} {x0 : Nat} {x1 : Nat} {x2 : Int32} {y0 : Nat} {y1 : Nat} {S : ox_St} {Q : ox_Q} (h : q_58_69 E x0 x1 x2 y0 y1 S mr sr Q) : k_58_69 E x0 x1 x2 y1 mr sr Q (some (.inr (.inr (y0)))) S := ox_C_fold hE h
set_option maxRecDepth 20000 in
def q_58_63 (E : ox_E) (x0 : Nat) (x1 : Nat) (x2 : Int32) (S : ox_St) (mr sr : Nat) (Q : ox_Q) : Prop :=
  (2 ≤ 3 ∧ S.K x1 = 4 ∧ 1 ≤ 8 ∧ ∃ mc1 mk2, mc1 ≤ mr ∧ mk2 ≤ sr ∧ E 21 [.inr (.inr (x1)), .inl (1)] mc1 mk2 S (k_58_69 E x0 x1 x2 x0 (mr - mc1) (sr - mk2) Q))
set_option maxRecDepth 20000 in
set_option maxHeartbeats 4000000 in
theorem f_58_63 {E : ox_E} (hE : ox_mono E) {mr sr : Nat} {x0 : Nat} {x1 : Nat} {x2 : Int32} {S : ox_St} {Q : ox_Q} (h : q_58_63 E x0 x1 x2 S mr sr Q) : c_58_63 E x0 x1 x2 S mr sr Q := ox_C_fold hE h
set_option maxRecDepth 20000 in
def q_58_62 (E : ox_E) (x0 : Nat) (x1 : Nat) (x2 : Int32) (x3 : Nat) (x4 : Nat) (x5 : Nat) (y0 : Int32) (S : ox_St) (mr sr : Nat) (Q : ox_Q) : Prop :=
  (True ∧ Q (some (.inl y0)) S)
set_option maxRecDepth 20000 in
set_option maxHeartbeats 4000000 in
theorem f_58_62 {E : ox_E} (hE : ox_mono E) {mr sr : Nat} {x0 : Nat} {x1 : Nat} {x2 : Int32} {x3 : Nat} {x4 : Nat} {x5 : Nat} {y0 : Int32} {S : ox_St} {Q : ox_Q} (h : q_58_62 E x0 x1 x2 x3 x4 x5 y0 S mr sr Q) : k_58_62 E x0 x1 x2 x3 x4 x5 mr sr Q (some (.inl (y0))) S := ox_C_fold hE h
set_option maxRecDepth 20000 in
def q_58_32 (E : ox_E) (x0 : Nat) (x1 : Nat) (x2 : Int32) (x3 : Nat) (x5 : Nat) (y0 : Nat) (S : ox_St) (mr sr : Nat) (Q : ox_Q) : Prop :=
  ((y0 = 0 ∨ ox_isV (S.K y0) = true) ∧ (((if [10].contains (S.K y0) = true then (1 : Int32) else 0) = 0 → c_58_63 E x0 x1 x2 S mr sr Q) ∧ (¬ (if [10].contains (S.K y0) = true then (1 : Int32) else 0) = 0 → ((y0 = 0 ∨ [10].contains (S.K y0) = true) ∧ (ox_has (S.K x3) 56 = true ∧ (ox_has (S.K y0) 56 = true ∧ (3 ≤ 3 ∧ 0 ≤ 8 ∧ ∃ mc1 mk2, mc1 ≤ mr ∧ mk2 ≤ sr ∧ E 59 [.inr (.inr (x1)), .inr (.inr (S.R 56 x3)), .inr (.inr (S.R 56 y0))] mc1 mk2 S (k_58_62 E x0 x1 x2 x3 y0 y0 (mr - mc1) (sr - mk2) Q))))))))
set_option maxRecDepth 20000 in
set_option maxHeartbeats 4000000 in
theorem f_58_32 {E : ox_E} (hE : ox_mono E) {mr sr : Nat} {x0 : Nat} {x1 : Nat} {x2 : Int32} {x3 : Nat} {x5 : Nat} {y0 : Nat} {S : ox_St} {Q : ox_Q} (h : q_58_32 E x0 x1 x2 x3 x5 y0 S mr sr Q) : k_58_32 E x0 x1 x2 x3 x5 mr sr Q (some (.inr (.inr (y0)))) S := ox_C_fold hE h
set_option maxRecDepth 20000 in
def q_58_11 (E : ox_E) (x0 : Nat) (x1 : Nat) (x2 : Int32) (y0 : Nat) (S : ox_St) (mr sr : Nat) (Q : ox_Q) : Prop :=
  ((y0 = 0 ∨ ox_isV (S.K y0) = true) ∧ (((if [10].contains (S.K y0) = true then (1 : Int32) else 0) = 0 → c_58_63 E x0 x1 x2 S mr sr Q) ∧ (¬ (if [10].contains (S.K y0) = true then (1 : Int32) else 0) = 0 → ((y0 = 0 ∨ [10].contains (S.K y0) = true) ∧ (2 ≤ 2 ∧ S.K x1 = 4 ∧ 0 ≤ 8 ∧ ∃ mc1 mk2, mc1 ≤ mr ∧ mk2 ≤ sr ∧ E 21 [.inr (.inr (x1)), .inl (0)] mc1 mk2 S (k_58_32 E x0 x1 x2 y0 y0 (mr - mc1) (sr - mk2) Q))))))
set_option maxRecDepth 20000 in
set_option maxHeartbeats 4000000 in
theorem f_58_11 {E : ox_E} (hE : ox_mono E) {mr sr : Nat} {x0 : Nat} {x1 : Nat} {x2 : Int32} {y0 : Nat} {S : ox_St} {Q : ox_Q} (h : q_58_11 E x0 x1 x2 y0 S mr sr Q) : k_58_11 E x0 x1 x2 mr sr Q (some (.inr (.inr (y0)))) S := ox_C_fold hE h
set_option maxRecDepth 20000 in
def q_58 (E : ox_E) (x0 : Nat) (x1 : Nat) (x2 : Int32) (S : ox_St) (mr sr : Nat) (Q : ox_Q) : Prop :=
  ((¬ x2 = 23 → c_58_63 E x0 x1 x2 S mr sr Q) ∧ (x2 = 23 → (2 ≤ 2 ∧ S.K x1 = 4 ∧ 0 ≤ 8 ∧ ∃ mc1 mk2, mc1 ≤ mr ∧ mk2 ≤ sr ∧ E 21 [.inr (.inr (x1)), .inl (1)] mc1 mk2 S (k_58_11 E x0 x1 x2 (mr - mc1) (sr - mk2) Q))))
set_option maxRecDepth 20000 in
set_option maxHeartbeats 4000000 in
theorem f_58 {sp : ox_E} (hsp : ox_mono sp) {d : Nat} {mr sr : Nat} {x0 : Nat} {x1 : Nat} {x2 : Int32} {S : ox_St} {Q : ox_Q} (h : q_58 (ox_M sp d) x0 x1 x2 S mr sr Q) : ox_M sp (d + 1) 58 [.inr (.inr (x0)), .inr (.inr (x1)), .inl (x2)] mr sr S Q := Or.inr ⟨Nat.le_of_ble_eq_true rfl, ox_C_fold (ox_M_mono hsp d) h⟩
/-! OpcodeFrames$Machine.join(LOpcodeFrames$Frame;[LOpcodeFrames$Value;[LOpcodeFrames$Value;)I -/
def c_59_24 (E : ox_E) (x0 : Nat) (x1 : Nat) (x2 : Nat) (x3 : Int32) (x4 : Nat) (x5 : Int32) (S : ox_St) (mr sr : Nat) (Q : ox_Q) : Prop := ox_C E (ox_mi 59).2.2.2.1 (ox_mc 59) (ox_cut 59) Q 24 [some (.inr (.inr (x0))), some (.inr (.inr (x1))), some (.inr (.inr (x2))), some (.inl (x3)), some (.inr (.inr (x4))), some (.inl (x5)), none] [] S mr sr
def k_59_75 (E : ox_E) (x0 : Nat) (x1 : Nat) (x2 : Nat) (x3 : Int32) (x4 : Nat) (x5 : Int32) (y0 : Nat) (y1 : Int32) (y2 : Nat) (mr sr : Nat) (Q : ox_Q) : ox_Q := fun r_ T_ => ox_C E (ox_mi 59).2.2.2.1 (ox_mc 59) (ox_cut 59) Q 75 [some (.inr (.inr (x0))), some (.inr (.inr (x1))), some (.inr (.inr (x2))), some (.inl (x3)), some (.inr (.inr (x4))), some (.inl (x5)), none] (r_.toList ++ [.inr (.inr (y0)), .inl (y1), .inr (.inr (y2))]) T_ mr sr
def k_59_78 (E : ox_E) (x0 : Nat) (x1 : Nat) (x2 : Nat) (x3 : Int32) (x4 : Nat) (x5 : Int32) (mr sr : Nat) (Q : ox_Q) : ox_Q := fun r_ T_ => ox_C E (ox_mi 59).2.2.2.1 (ox_mc 59) (ox_cut 59) Q 78 [some (.inr (.inr (x0))), some (.inr (.inr (x1))), some (.inr (.inr (x2))), some (.inl (x3)), some (.inr (.inr (x4))), some (.inl (x5)), none] (r_.toList ++ []) T_ mr sr
set_option maxRecDepth 20000 in
def q_59_78 (E : ox_E) (x0 : Nat) (x1 : Nat) (x2 : Nat) (x3 : Int32) (x4 : Nat) (x5 : Int32) (y0 : Int32) (S : ox_St) (mr sr : Nat) (Q : ox_Q) : Prop :=
  (True ∧ Q (some (.inl y0)) S)
set_option maxRecDepth 20000 in
set_option maxHeartbeats 4000000 in
theorem f_59_78 {E : ox_E} (hE : ox_mono E) {mr sr : Nat} {x0 : Nat} {x1 : Nat} {x2 : Nat} {x3 : Int32} {x4 : Nat} {x5 : Int32} {y0 : Int32} {S : ox_St} {Q : ox_Q} (h : q_59_78 E x0 x1 x2 x3 x4 x5 y0 S mr sr Q) : k_59_78 E x0 x1 x2 x3 x4 x5 mr sr Q (some (.inl (y0))) S := ox_C_fold hE h
set_option maxRecDepth 20000 in
def q_59_75 (E : ox_E) (x0 : Nat) (x1 : Nat) (x2 : Nat) (x3 : Int32) (x4 : Nat) (x5 : Int32) (y0 : Nat) (y1 : Int32) (y2 : Nat) (S : ox_St) (mr sr : Nat) (Q : ox_Q) : Prop :=
  (3 ≤ 3 ∧ 0 ≤ 8 ∧ ∃ mc1 mk2, mc1 ≤ mr ∧ mk2 ≤ sr ∧ E 50 [.inr (.inr (y2)), .inl (y1), .inr (.inr (y0))] mc1 mk2 S (k_59_78 E x0 x1 x2 x3 x4 x5 (mr - mc1) (sr - mk2) Q))
set_option maxRecDepth 20000 in
set_option maxHeartbeats 4000000 in
theorem f_59_75 {E : ox_E} (hE : ox_mono E) {mr sr : Nat} {x0 : Nat} {x1 : Nat} {x2 : Nat} {x3 : Int32} {x4 : Nat} {x5 : Int32} {y0 : Nat} {y1 : Int32} {y2 : Nat} {S : ox_St} {Q : ox_Q} (h : q_59_75 E x0 x1 x2 x3 x4 x5 y0 y1 y2 S mr sr Q) : k_59_75 E x0 x1 x2 x3 x4 x5 y0 y1 y2 mr sr Q none S := ox_C_fold hE h
set_option maxRecDepth 20000 in
def q_59_24 (E : ox_E) (x0 : Nat) (x1 : Nat) (x2 : Nat) (x3 : Int32) (x4 : Nat) (x5 : Int32) (S : ox_St) (mr sr : Nat) (Q : ox_Q) : Prop :=
  ((x3 ≤ x5 → (1 ≤ mr ∧ 4 ≤ sr ∧ (let S1 := S.newO 10
  (2 ≤ 5 ∧ S.n ≠ 0 ∧ 3 ≤ 8 ∧ ∃ mc2 mk3, mc2 ≤ (mr - 1) ∧ mk3 ≤ (sr - 4) ∧ E 86 [.inr (.inr (S.n)), .inr (.inr (x4))] mc2 mk3 S1 (k_59_75 E x0 x1 x2 x3 x4 x5 S.n 2 x0 ((mr - 1) - mc2) ((sr - 4) - mk3) Q))))) ∧ (¬ x3 ≤ x5 → (ox_rdL (S.K x1) = true ∧ (let w4 : Int32 := x5 - (Int32.ofNat (S.len x1))
  (((0 : Int32) ≤ w4 → (ox_rdR (S.K x2) = true ∧ vp_in w4 (S.len x2) ∧ (ox_rdR (S.K x4) = true ∧ vp_in x5 (S.len x4) ∧ ((S.rR x2 (Int32.toNatClampNeg w4)) = 0 ∨ ox_asg (S.K x4) (S.K (S.rR x2 (Int32.toNatClampNeg w4))) = true) ∧ (let S5 := S.wR x4 (Int32.toNatClampNeg x5) (S.rR x2 (Int32.toNatClampNeg w4))
  c_59_24 E x0 x1 x2 x3 x4 (x5 + 1) S5 mr sr Q)))) ∧ (¬ (0 : Int32) ≤ w4 → (ox_rdR (S.K x1) = true ∧ vp_in x5 (S.len x1) ∧ (ox_rdR (S.K x4) = true ∧ vp_in x5 (S.len x4) ∧ ((S.rR x1 (Int32.toNatClampNeg x5)) = 0 ∨ ox_asg (S.K x4) (S.K (S.rR x1 (Int32.toNatClampNeg x5))) = true) ∧ (let S6 := S.wR x4 (Int32.toNatClampNeg x5) (S.rR x1 (Int32.toNatClampNeg x5))
  c_59_24 E x0 x1 x2 x3 x4 (x5 + 1) S6 mr sr Q)))))))))
set_option maxRecDepth 20000 in
set_option maxHeartbeats 4000000 in
theorem f_59_24 {E : ox_E} (hE : ox_mono E) {mr sr : Nat} {x0 : Nat} {x1 : Nat} {x2 : Nat} {x3 : Int32} {x4 : Nat} {x5 : Int32} {S : ox_St} {Q : ox_Q} (h : q_59_24 E x0 x1 x2 x3 x4 x5 S mr sr Q) : c_59_24 E x0 x1 x2 x3 x4 x5 S mr sr Q := ox_C_fold hE h
set_option maxRecDepth 20000 in
def q_59 (E : ox_E) (x0 : Nat) (x1 : Nat) (x2 : Nat) (S : ox_St) (mr sr : Nat) (Q : ox_Q) : Prop :=
  (ox_rdL (S.K x1) = true ∧ (ox_rdL (S.K x2) = true ∧ (let w1 : Int32 := (Int32.ofNat (S.len x1)) + (Int32.ofNat (S.len x2))
  ((w1 ≤ 12 → (¬ w1 < 0 ∧ (Int32.toNatClampNeg w1) ≤ 67108864 ∧ 1 ≤ mr ∧ (Int32.toNatClampNeg w1) ≤ sr ∧ (let S2 := S.newA 19 (Int32.toNatClampNeg w1)
  c_59_24 E x0 x1 x2 w1 S.n 0 S2 (mr - 1) (sr - (Int32.toNatClampNeg w1)) Q))) ∧ (¬ w1 ≤ 12 → (True ∧ Q (some (.inl (6 : Int32))) S))))))
set_option maxRecDepth 20000 in
set_option maxHeartbeats 4000000 in
theorem f_59 {sp : ox_E} (hsp : ox_mono sp) {d : Nat} {mr sr : Nat} {x0 : Nat} {x1 : Nat} {x2 : Nat} {S : ox_St} {Q : ox_Q} (h : q_59 (ox_M sp d) x0 x1 x2 S mr sr Q) : ox_M sp (d + 1) 59 [.inr (.inr (x0)), .inr (.inr (x1)), .inr (.inr (x2))] mr sr S Q := Or.inr ⟨Nat.le_of_ble_eq_true rfl, ox_C_fold (ox_M_mono hsp d) h⟩
