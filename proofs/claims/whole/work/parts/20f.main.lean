/-! OpcodeFrames.<init>()V -/
def k_94_26 (E : ox_E) (x0 : Nat) (y0 : Nat) (y1 : Nat) (mr sr : Nat) (Q : ox_Q) : ox_Q := fun r_ T_ => ox_C E (ox_mi 94).2.2.2.1 (ox_mc 94) (ox_cut 94) Q 26 [some (.inr (.inr (x0)))] (r_.toList ++ [.inr (.inr (y0)), .inr (.inr (y1))]) T_ mr sr
def k_94_37 (E : ox_E) (x0 : Nat) (y0 : Nat) (y1 : Nat) (mr sr : Nat) (Q : ox_Q) : ox_Q := fun r_ T_ => ox_C E (ox_mi 94).2.2.2.1 (ox_mc 94) (ox_cut 94) Q 37 [some (.inr (.inr (x0)))] (r_.toList ++ [.inr (.inr (y0)), .inr (.inr (y1))]) T_ mr sr
def k_94_48 (E : ox_E) (x0 : Nat) (y0 : Nat) (y1 : Nat) (mr sr : Nat) (Q : ox_Q) : ox_Q := fun r_ T_ => ox_C E (ox_mi 94).2.2.2.1 (ox_mc 94) (ox_cut 94) Q 48 [some (.inr (.inr (x0)))] (r_.toList ++ [.inr (.inr (y0)), .inr (.inr (y1))]) T_ mr sr
set_option maxRecDepth 20000 in
def q_94_48 (E : ox_E) (x0 : Nat) (y0 : Nat) (y1 : Nat) (S : ox_St) (mr sr : Nat) (Q : ox_Q) : Prop :=
  (ox_has (S.K y1) 66 = true ∧ (let S1 := S.sR 66 y1 y0
  (¬ (300 : Int32) < 0 ∧ (Int32.toNatClampNeg (300 : Int32)) ≤ 67108864 ∧ 1 ≤ mr ∧ (Int32.toNatClampNeg (300 : Int32)) ≤ sr ∧ (let S2 := S1.newA 15 (Int32.toNatClampNeg (300 : Int32))
  (ox_has (S2.K x0) 67 = true ∧ (let S3 := S2.sR 67 x0 S1.n
  ((ox_mi 94).2.2.2.1 = none ∧ Q none S3)))))))
set_option maxRecDepth 20000 in
set_option maxHeartbeats 4000000 in
theorem f_94_48 {E : ox_E} (hE : ox_mono E) {mr sr : Nat} {x0 : Nat} {y0 : Nat} {y1 : Nat} {S : ox_St} {Q : ox_Q} (h : q_94_48 E x0 y0 y1 S mr sr Q) : k_94_48 E x0 y0 y1 mr sr Q none S := ox_C_fold hE h
set_option maxRecDepth 20000 in
def q_94_37 (E : ox_E) (x0 : Nat) (y0 : Nat) (y1 : Nat) (S : ox_St) (mr sr : Nat) (Q : ox_Q) : Prop :=
  (ox_has (S.K y1) 65 = true ∧ (let S1 := S.sR 65 y1 y0
  (1 ≤ mr ∧ 17 ≤ sr ∧ (let S2 := S1.newO 7
  (1 ≤ 3 ∧ S1.n ≠ 0 ∧ 2 ≤ 8 ∧ ∃ mc3 mk4, mc3 ≤ (mr - 1) ∧ mk4 ≤ (sr - 17) ∧ E 41 [.inr (.inr (S1.n))] mc3 mk4 S2 (k_94_48 E x0 S1.n x0 ((mr - 1) - mc3) ((sr - 17) - mk4) Q))))))
set_option maxRecDepth 20000 in
set_option maxHeartbeats 4000000 in
theorem f_94_37 {E : ox_E} (hE : ox_mono E) {mr sr : Nat} {x0 : Nat} {y0 : Nat} {y1 : Nat} {S : ox_St} {Q : ox_Q} (h : q_94_37 E x0 y0 y1 S mr sr Q) : k_94_37 E x0 y0 y1 mr sr Q none S := ox_C_fold hE h
set_option maxRecDepth 20000 in
def q_94_26 (E : ox_E) (x0 : Nat) (y0 : Nat) (y1 : Nat) (S : ox_St) (mr sr : Nat) (Q : ox_Q) : Prop :=
  (ox_has (S.K y1) 64 = true ∧ (let S1 := S.sR 64 y1 y0
  (1 ≤ mr ∧ 11 ≤ sr ∧ (let S2 := S1.newO 6
  (1 ≤ 3 ∧ S1.n ≠ 0 ∧ 2 ≤ 8 ∧ ∃ mc3 mk4, mc3 ≤ (mr - 1) ∧ mk4 ≤ (sr - 11) ∧ E 29 [.inr (.inr (S1.n))] mc3 mk4 S2 (k_94_37 E x0 S1.n x0 ((mr - 1) - mc3) ((sr - 11) - mk4) Q))))))
set_option maxRecDepth 20000 in
set_option maxHeartbeats 4000000 in
theorem f_94_26 {E : ox_E} (hE : ox_mono E) {mr sr : Nat} {x0 : Nat} {y0 : Nat} {y1 : Nat} {S : ox_St} {Q : ox_Q} (h : q_94_26 E x0 y0 y1 S mr sr Q) : k_94_26 E x0 y0 y1 mr sr Q none S := ox_C_fold hE h
set_option maxRecDepth 20000 in
def q_94 (E : ox_E) (x0 : Nat) (S : ox_St) (mr sr : Nat) (Q : ox_Q) : Prop :=
  (x0 ≠ 0 ∧ 0 ≤ 8 ∧ (¬ (800 : Int32) < 0 ∧ (Int32.toNatClampNeg (800 : Int32)) ≤ 67108864 ∧ 1 ≤ mr ∧ (Int32.toNatClampNeg (800 : Int32)) ≤ sr ∧ (let S1 := S.newA 15 (Int32.toNatClampNeg (800 : Int32))
  (ox_has (S1.K x0) 60 = true ∧ (let S2 := S1.sR 60 x0 S.n
  (ox_has (S2.K x0) 63 = true ∧ (let S3 := S2.sI 63 x0 (-1)
  (1 ≤ (mr - 1) ∧ 3 ≤ (sr - (Int32.toNatClampNeg (800 : Int32))) ∧ (let S4 := S3.newO 1
  (1 ≤ 3 ∧ S3.n ≠ 0 ∧ 2 ≤ 8 ∧ ∃ mc5 mk6, mc5 ≤ ((mr - 1) - 1) ∧ mk6 ≤ ((sr - (Int32.toNatClampNeg (800 : Int32))) - 3) ∧ E 219 [.inr (.inr (S3.n))] mc5 mk6 S4 (k_94_26 E x0 S3.n x0 (((mr - 1) - 1) - mc5) (((sr - (Int32.toNatClampNeg (800 : Int32))) - 3) - mk6) Q)))))))))))
set_option maxRecDepth 20000 in
set_option maxHeartbeats 4000000 in
theorem f_94 {sp : ox_E} (hsp : ox_mono sp) {d : Nat} {mr sr : Nat} {x0 : Nat} {S : ox_St} {Q : ox_Q} (h : q_94 (ox_M sp d) x0 S mr sr Q) : ox_M sp (d + 1) 94 [.inr (.inr (x0))] mr sr S Q := Or.inr ⟨Nat.le_of_ble_eq_true rfl, ox_C_fold (ox_M_mono hsp d) h⟩
/-! OpcodeFrames.feed(II)I -/
def c_95_28 (E : ox_E) (x0 : Nat) (x1 : Int32) (x2 : Int32) (x3 : Int32) (S : ox_St) (mr sr : Nat) (Q : ox_Q) : Prop := ox_C E (ox_mi 95).2.2.2.1 (ox_mc 95) (ox_cut 95) Q 28 [some (.inr (.inr (x0))), some (.inl (x1)), some (.inl (x2)), some (.inl (x3))] [] S mr sr
set_option maxRecDepth 20000 in
def q_95_28 (E : ox_E) (x0 : Nat) (x1 : Int32) (x2 : Int32) (x3 : Int32) (S : ox_St) (mr sr : Nat) (Q : ox_Q) : Prop :=
  ((x3 < 0 → (ox_has (S.K x0) 61 = true ∧ (True ∧ Q (some (.inl (S.I 61 x0))) S))) ∧ (¬ x3 < 0 → (ox_has (S.K x0) 60 = true ∧ (ox_has (S.K x0) 61 = true ∧ (S.K (S.R 60 x0) = 15 ∧ vp_in (S.I 61 x0) (S.len (S.R 60 x0)) ∧ (let S1 := S.wI (S.R 60 x0) (Int32.toNatClampNeg (S.I 61 x0)) (((Int32.toUInt32 (x1) >>> (Int32.toUInt32 (8 * x3) &&& Int32.toUInt32 31)).toInt32) &&& 255)
  (ox_has (S1.K x0) 61 = true ∧ (ox_has (S1.K x0) 61 = true ∧ (let S2 := S1.sI 61 x0 ((S1.I 61 x0) + 1)
  c_95_28 E x0 x1 x2 (x3 + (-1)) S2 mr sr Q)))))))))
set_option maxRecDepth 20000 in
set_option maxHeartbeats 4000000 in
theorem f_95_28 {E : ox_E} (hE : ox_mono E) {mr sr : Nat} {x0 : Nat} {x1 : Int32} {x2 : Int32} {x3 : Int32} {S : ox_St} {Q : ox_Q} (h : q_95_28 E x0 x1 x2 x3 S mr sr Q) : c_95_28 E x0 x1 x2 x3 S mr sr Q := ox_C_fold hE h
set_option maxRecDepth 20000 in
def q_95 (E : ox_E) (x0 : Nat) (x1 : Int32) (x2 : Int32) (S : ox_St) (mr sr : Nat) (Q : ox_Q) : Prop :=
  ((x2 < 1 → (True ∧ Q (some (.inl ((-1) : Int32))) S)) ∧ (¬ x2 < 1 → (((4 : Int32) < x2 → (True ∧ Q (some (.inl ((-1) : Int32))) S)) ∧ (¬ (4 : Int32) < x2 → (ox_has (S.K x0) 61 = true ∧ ((((S.I 61 x0) + x2) ≤ 800 → (let w1 : Int32 := x2 - 1
  c_95_28 E x0 x1 x2 w1 S mr sr Q)) ∧ (¬ ((S.I 61 x0) + x2) ≤ 800 → (True ∧ Q (some (.inl ((-1) : Int32))) S))))))))
set_option maxRecDepth 20000 in
set_option maxHeartbeats 4000000 in
theorem f_95 {sp : ox_E} (hsp : ox_mono sp) {d : Nat} {mr sr : Nat} {x0 : Nat} {x1 : Int32} {x2 : Int32} {S : ox_St} {Q : ox_Q} (h : q_95 (ox_M sp d) x0 x1 x2 S mr sr Q) : ox_M sp (d + 1) 95 [.inr (.inr (x0)), .inl (x1), .inl (x2)] mr sr S Q := Or.inr ⟨Nat.le_of_ble_eq_true rfl, ox_C_fold (ox_M_mono hsp d) h⟩
/-! OpcodeFrames.read()V -/
def k_96_4 (E : ox_E) (x0 : Nat) (mr sr : Nat) (Q : ox_Q) : ox_Q := fun r_ T_ => ox_C E (ox_mi 96).2.2.2.1 (ox_mc 96) (ox_cut 96) Q 4 [some (.inr (.inr (x0))), none] (r_.toList ++ []) T_ mr sr
def k_96_9 (E : ox_E) (x0 : Nat) (mr sr : Nat) (Q : ox_Q) : ox_Q := fun r_ T_ => ox_C E (ox_mi 96).2.2.2.1 (ox_mc 96) (ox_cut 96) Q 9 [some (.inr (.inr (x0))), none] (r_.toList ++ []) T_ mr sr
def k_96_14 (E : ox_E) (x0 : Nat) (x1 : Nat) (mr sr : Nat) (Q : ox_Q) : ox_Q := fun r_ T_ => ox_C E (ox_mi 96).2.2.2.1 (ox_mc 96) (ox_cut 96) Q 14 [some (.inr (.inr (x0))), some (.inr (.inr (x1)))] (r_.toList ++ []) T_ mr sr
def k_96_36 (E : ox_E) (x0 : Nat) (x1 : Nat) (mr sr : Nat) (Q : ox_Q) : ox_Q := fun r_ T_ => ox_C E (ox_mi 96).2.2.2.1 (ox_mc 96) (ox_cut 96) Q 36 [some (.inr (.inr (x0))), some (.inr (.inr (x1)))] (r_.toList ++ []) T_ mr sr
def k_96_57 (E : ox_E) (x0 : Nat) (x1 : Nat) (mr sr : Nat) (Q : ox_Q) : ox_Q := fun r_ T_ => ox_C E (ox_mi 96).2.2.2.1 (ox_mc 96) (ox_cut 96) Q 57 [some (.inr (.inr (x0))), some (.inr (.inr (x1)))] (r_.toList ++ []) T_ mr sr
set_option maxRecDepth 20000 in
def q_96_57 (E : ox_E) (x0 : Nat) (x1 : Nat) (S : ox_St) (mr sr : Nat) (Q : ox_Q) : Prop :=
  ((ox_mi 96).2.2.2.1 = none ∧ Q none S)
set_option maxRecDepth 20000 in
set_option maxHeartbeats 4000000 in
theorem f_96_57 {E : ox_E} (hE : ox_mono E) {mr sr : Nat} {x0 : Nat} {x1 : Nat} {S : ox_St} {Q : ox_Q} (h : q_96_57 E x0 x1 S mr sr Q) : k_96_57 E x0 x1 mr sr Q none S := ox_C_fold hE h
set_option maxRecDepth 20000 in
def q_96_36 (E : ox_E) (x0 : Nat) (x1 : Nat) (y0 : Int32) (S : ox_St) (mr sr : Nat) (Q : ox_Q) : Prop :=
  ((¬ y0 = 0 → (ox_has (S.K x0) 66 = true ∧ (2 ≤ 2 ∧ S.K (S.R 66 x0) = 7 ∧ 0 ≤ 8 ∧ ∃ mc1 mk2, mc1 ≤ mr ∧ mk2 ≤ sr ∧ E 42 [.inr (.inr (S.R 66 x0)), .inr (.inr (x1))] mc1 mk2 S (k_96_57 E x0 x1 (mr - mc1) (sr - mk2) Q)))) ∧ (y0 = 0 → False))
set_option maxRecDepth 20000 in
set_option maxHeartbeats 4000000 in
theorem f_96_36 {E : ox_E} (hE : ox_mono E) {mr sr : Nat} {x0 : Nat} {x1 : Nat} {y0 : Int32} {S : ox_St} {Q : ox_Q} (h : q_96_36 E x0 x1 y0 S mr sr Q) : k_96_36 E x0 x1 mr sr Q (some (.inl (y0))) S := ox_C_fold hE h
set_option maxRecDepth 20000 in
def q_96_14 (E : ox_E) (x0 : Nat) (x1 : Nat) (S : ox_St) (mr sr : Nat) (Q : ox_Q) : Prop :=
  (ox_has (S.K x0) 63 = true ∧ (((S.I 63 x0) = (-1) → (1 ≤ 1 ∧ S.K x0 = 13 ∧ 0 ≤ 8 ∧ ∃ mc1 mk2, mc1 ≤ mr ∧ mk2 ≤ sr ∧ E 112 [.inr (.inr (x0))] mc1 mk2 S (k_96_36 E x0 x1 (mr - mc1) (sr - mk2) Q))) ∧ (¬ (S.I 63 x0) = (-1) → False)))
set_option maxRecDepth 20000 in
set_option maxHeartbeats 4000000 in
theorem f_96_14 {E : ox_E} (hE : ox_mono E) {mr sr : Nat} {x0 : Nat} {x1 : Nat} {S : ox_St} {Q : ox_Q} (h : q_96_14 E x0 x1 S mr sr Q) : k_96_14 E x0 x1 mr sr Q none S := ox_C_fold hE h
set_option maxRecDepth 20000 in
def q_96_9 (E : ox_E) (x0 : Nat) (y0 : Nat) (S : ox_St) (mr sr : Nat) (Q : ox_Q) : Prop :=
  (1 ≤ 1 ∧ S.K x0 = 13 ∧ 0 ≤ 8 ∧ ∃ mc1 mk2, mc1 ≤ mr ∧ mk2 ≤ sr ∧ E 93 [.inr (.inr (x0))] mc1 mk2 S (k_96_14 E x0 y0 (mr - mc1) (sr - mk2) Q))
set_option maxRecDepth 20000 in
set_option maxHeartbeats 4000000 in
theorem f_96_9 {E : ox_E} (hE : ox_mono E) {mr sr : Nat} {x0 : Nat} {y0 : Nat} {S : ox_St} {Q : ox_Q} (h : q_96_9 E x0 y0 S mr sr Q) : k_96_9 E x0 mr sr Q (some (.inr (.inr (y0)))) S := ox_C_fold hE h
set_option maxRecDepth 20000 in
def q_96_4 (E : ox_E) (x0 : Nat) (S : ox_St) (mr sr : Nat) (Q : ox_Q) : Prop :=
  (2 ≤ 2 ∧ S.K x0 = 13 ∧ 0 ≤ 8 ∧ ∃ mc1 mk2, mc1 ≤ mr ∧ mk2 ≤ sr ∧ E 123 [.inr (.inr (x0)), .inl (1)] mc1 mk2 S (k_96_9 E x0 (mr - mc1) (sr - mk2) Q))
set_option maxRecDepth 20000 in
set_option maxHeartbeats 4000000 in
theorem f_96_4 {E : ox_E} (hE : ox_mono E) {mr sr : Nat} {x0 : Nat} {S : ox_St} {Q : ox_Q} (h : q_96_4 E x0 S mr sr Q) : k_96_4 E x0 mr sr Q none S := ox_C_fold hE h
set_option maxRecDepth 20000 in
def q_96 (E : ox_E) (x0 : Nat) (S : ox_St) (mr sr : Nat) (Q : ox_Q) : Prop :=
  (1 ≤ 1 ∧ S.K x0 = 13 ∧ 0 ≤ 8 ∧ ∃ mc1 mk2, mc1 ≤ mr ∧ mk2 ≤ sr ∧ E 111 [.inr (.inr (x0))] mc1 mk2 S (k_96_4 E x0 (mr - mc1) (sr - mk2) Q))
set_option maxRecDepth 20000 in
set_option maxHeartbeats 4000000 in
theorem f_96 {sp : ox_E} (hsp : ox_mono sp) {d : Nat} {mr sr : Nat} {x0 : Nat} {S : ox_St} {Q : ox_Q} (h : q_96 (ox_M sp d) x0 S mr sr Q) : ox_M sp (d + 1) 96 [.inr (.inr (x0))] mr sr S Q := Or.inr ⟨Nat.le_of_ble_eq_true rfl, ox_C_fold (ox_M_mono hsp d) h⟩
/-! OpcodeFrames.fault()I -/
set_option maxRecDepth 20000 in
def q_97 (E : ox_E) (x0 : Nat) (S : ox_St) (mr sr : Nat) (Q : ox_Q) : Prop :=
  (ox_has (S.K x0) 63 = true ∧ (True ∧ Q (some (.inl (S.I 63 x0))) S))
set_option maxRecDepth 20000 in
set_option maxHeartbeats 4000000 in
theorem f_97 {sp : ox_E} (hsp : ox_mono sp) {d : Nat} {mr sr : Nat} {x0 : Nat} {S : ox_St} {Q : ox_Q} (h : q_97 (ox_M sp d) x0 S mr sr Q) : ox_M sp (d + 1) 97 [.inr (.inr (x0))] mr sr S Q := Or.inr ⟨Nat.le_of_ble_eq_true rfl, ox_C_fold (ox_M_mono hsp d) h⟩
/-! OpcodeFrames.run(I)I -/
def c_98_45 (E : ox_E) (x0 : Nat) (x1 : Int32) (x2 : Int32) (S : ox_St) (mr sr : Nat) (Q : ox_Q) : Prop := ox_C E (ox_mi 98).2.2.2.1 (ox_mc 98) (ox_cut 98) Q 45 [some (.inr (.inr (x0))), some (.inl (x1)), some (.inl (x2)), none] [] S mr sr
def k_98_68 (E : ox_E) (x0 : Nat) (x1 : Int32) (x2 : Int32) (mr sr : Nat) (Q : ox_Q) : ox_Q := fun r_ T_ => ox_C E (ox_mi 98).2.2.2.1 (ox_mc 98) (ox_cut 98) Q 68 [some (.inr (.inr (x0))), some (.inl (x1)), some (.inl (x2)), none] (r_.toList ++ []) T_ mr sr
def k_98_82 (E : ox_E) (x0 : Nat) (x1 : Int32) (x2 : Int32) (x3 : Int32) (mr sr : Nat) (Q : ox_Q) : ox_Q := fun r_ T_ => ox_C E (ox_mi 98).2.2.2.1 (ox_mc 98) (ox_cut 98) Q 82 [some (.inr (.inr (x0))), some (.inl (x1)), some (.inl (x2)), some (.inl (x3))] (r_.toList ++ []) T_ mr sr
set_option maxRecDepth 20000 in
def q_98_82 (E : ox_E) (x0 : Nat) (x1 : Int32) (x2 : Int32) (x3 : Int32) (S : ox_St) (mr sr : Nat) (Q : ox_Q) : Prop :=
  c_98_45 E x0 x1 (x2 + 1) S mr sr Q
set_option maxRecDepth 20000 in
set_option maxHeartbeats 4000000 in
theorem f_98_82 {E : ox_E} (hE : ox_mono E) {mr sr : Nat} {x0 : Nat} {x1 : Int32} {x2 : Int32} {x3 : Int32} {S : ox_St} {Q : ox_Q} (h : q_98_82 E x0 x1 x2 x3 S mr sr Q) : k_98_82 E x0 x1 x2 x3 mr sr Q none S := ox_C_fold hE h
set_option maxRecDepth 20000 in
def q_98_68 (E : ox_E) (x0 : Nat) (x1 : Int32) (x2 : Int32) (y0 : Int32) (S : ox_St) (mr sr : Nat) (Q : ox_Q) : Prop :=
  ((y0 = (-1) → k_98_82 E x0 x1 x2 y0 mr sr Q none S) ∧ (¬ y0 = (-1) → (ox_has (S.K x0) 66 = true ∧ (2 ≤ 2 ∧ S.K (S.R 66 x0) = 7 ∧ 0 ≤ 8 ∧ ∃ mc1 mk2, mc1 ≤ mr ∧ mk2 ≤ sr ∧ E 48 [.inr (.inr (S.R 66 x0)), .inl (y0)] mc1 mk2 S (k_98_82 E x0 x1 x2 y0 (mr - mc1) (sr - mk2) Q)))))
set_option maxRecDepth 20000 in
set_option maxHeartbeats 4000000 in
theorem f_98_68 {E : ox_E} (hE : ox_mono E) {mr sr : Nat} {x0 : Nat} {x1 : Int32} {x2 : Int32} {y0 : Int32} {S : ox_St} {Q : ox_Q} (h : q_98_68 E x0 x1 x2 y0 S mr sr Q) : k_98_68 E x0 x1 x2 mr sr Q (some (.inl (y0))) S := ox_C_fold hE h
set_option maxRecDepth 20000 in
def q_98_45 (E : ox_E) (x0 : Nat) (x1 : Int32) (x2 : Int32) (S : ox_St) (mr sr : Nat) (Q : ox_Q) : Prop :=
  ((x1 ≤ x2 → (True ∧ Q (some (.inl x2)) S)) ∧ (¬ x1 ≤ x2 → (ox_has (S.K x0) 66 = true ∧ (ox_has (S.K (S.R 66 x0)) 37 = true ∧ ((¬ (S.I 37 (S.R 66 x0)) = 1 → (True ∧ Q (some (.inl x2)) S)) ∧ ((S.I 37 (S.R 66 x0)) = 1 → (ox_has (S.K x0) 66 = true ∧ (1 ≤ 1 ∧ S.K (S.R 66 x0) = 7 ∧ 0 ≤ 8 ∧ ∃ mc1 mk2, mc1 ≤ mr ∧ mk2 ≤ sr ∧ E 47 [.inr (.inr (S.R 66 x0))] mc1 mk2 S (k_98_68 E x0 x1 x2 (mr - mc1) (sr - mk2) Q)))))))))
set_option maxRecDepth 20000 in
set_option maxHeartbeats 4000000 in
theorem f_98_45 {E : ox_E} (hE : ox_mono E) {mr sr : Nat} {x0 : Nat} {x1 : Int32} {x2 : Int32} {S : ox_St} {Q : ox_Q} (h : q_98_45 E x0 x1 x2 S mr sr Q) : c_98_45 E x0 x1 x2 S mr sr Q := ox_C_fold hE h
set_option maxRecDepth 20000 in
def q_98 (E : ox_E) (x0 : Nat) (x1 : Int32) (S : ox_St) (mr sr : Nat) (Q : ox_Q) : Prop :=
  (ox_has (S.K x0) 66 = true ∧ (ox_has (S.K (S.R 66 x0)) 37 = true ∧ (((S.I 37 (S.R 66 x0)) = 1 → ((x1 < 1 → False) ∧ (¬ x1 < 1 → ((x1 ≤ 200 → c_98_45 E x0 x1 0 S mr sr Q) ∧ (¬ x1 ≤ 200 → False))))) ∧ (¬ (S.I 37 (S.R 66 x0)) = 1 → False))))
set_option maxRecDepth 20000 in
set_option maxHeartbeats 4000000 in
theorem f_98 {sp : ox_E} (hsp : ox_mono sp) {d : Nat} {mr sr : Nat} {x0 : Nat} {x1 : Int32} {S : ox_St} {Q : ox_Q} (h : q_98 (ox_M sp d) x0 x1 S mr sr Q) : ox_M sp (d + 1) 98 [.inr (.inr (x0)), .inl (x1)] mr sr S Q := Or.inr ⟨Nat.le_of_ble_eq_true rfl, ox_C_fold (ox_M_mono hsp d) h⟩
/-! OpcodeFrames.again()Z -/
def k_99_7 (E : ox_E) (x0 : Nat) (mr sr : Nat) (Q : ox_Q) : ox_Q := fun r_ T_ => ox_C E (ox_mi 99).2.2.2.1 (ox_mc 99) (ox_cut 99) Q 7 [some (.inr (.inr (x0)))] (r_.toList ++ []) T_ mr sr
set_option maxRecDepth 20000 in
def q_99_7 (E : ox_E) (x0 : Nat) (y0 : Int32) (S : ox_St) (mr sr : Nat) (Q : ox_Q) : Prop :=
  ((y0 = 0 ∨ y0 = 1) ∧ Q (some (.inl y0)) S)
set_option maxRecDepth 20000 in
set_option maxHeartbeats 4000000 in
theorem f_99_7 {E : ox_E} (hE : ox_mono E) {mr sr : Nat} {x0 : Nat} {y0 : Int32} {S : ox_St} {Q : ox_Q} (h : q_99_7 E x0 y0 S mr sr Q) : k_99_7 E x0 mr sr Q (some (.inl (y0))) S := ox_C_fold hE h
set_option maxRecDepth 20000 in
def q_99 (E : ox_E) (x0 : Nat) (S : ox_St) (mr sr : Nat) (Q : ox_Q) : Prop :=
  (ox_has (S.K x0) 66 = true ∧ (1 ≤ 1 ∧ S.K (S.R 66 x0) = 7 ∧ 0 ≤ 8 ∧ ∃ mc1 mk2, mc1 ≤ mr ∧ mk2 ≤ sr ∧ E 43 [.inr (.inr (S.R 66 x0))] mc1 mk2 S (k_99_7 E x0 (mr - mc1) (sr - mk2) Q)))
set_option maxRecDepth 20000 in
set_option maxHeartbeats 4000000 in
theorem f_99 {sp : ox_E} (hsp : ox_mono sp) {d : Nat} {mr sr : Nat} {x0 : Nat} {S : ox_St} {Q : ox_Q} (h : q_99 (ox_M sp d) x0 S mr sr Q) : ox_M sp (d + 1) 99 [.inr (.inr (x0))] mr sr S Q := Or.inr ⟨Nat.le_of_ble_eq_true rfl, ox_C_fold (ox_M_mono hsp d) h⟩
/-! OpcodeFrames.about(I)I -/
def k_100_93 (E : ox_E) (x0 : Nat) (x1 : Int32) (mr sr : Nat) (Q : ox_Q) : ox_Q := fun r_ T_ => ox_C E (ox_mi 100).2.2.2.1 (ox_mc 100) (ox_cut 100) Q 93 [some (.inr (.inr (x0))), some (.inl (x1))] (r_.toList ++ []) T_ mr sr
set_option maxRecDepth 20000 in
def q_100_93 (E : ox_E) (x0 : Nat) (x1 : Int32) (y0 : Int32) (S : ox_St) (mr sr : Nat) (Q : ox_Q) : Prop :=
  (True ∧ Q (some (.inl y0)) S)
set_option maxRecDepth 20000 in
set_option maxHeartbeats 4000000 in
theorem f_100_93 {E : ox_E} (hE : ox_mono E) {mr sr : Nat} {x0 : Nat} {x1 : Int32} {y0 : Int32} {S : ox_St} {Q : ox_Q} (h : q_100_93 E x0 x1 y0 S mr sr Q) : k_100_93 E x0 x1 mr sr Q (some (.inl (y0))) S := ox_C_fold hE h
set_option maxRecDepth 20000 in
def q_100 (E : ox_E) (x0 : Nat) (x1 : Int32) (S : ox_St) (mr sr : Nat) (Q : ox_Q) : Prop :=
  ((Int32.toInt x1 = 0 → (ox_has (S.K x0) 66 = true ∧ (ox_has (S.K (S.R 66 x0)) 37 = true ∧ (True ∧ Q (some (.inl (S.I 37 (S.R 66 x0)))) S)))) ∧ (¬ Int32.toInt x1 = 0 → ((Int32.toInt x1 = 1 → (ox_has (S.K x0) 66 = true ∧ (ox_has (S.K (S.R 66 x0)) 35 = true ∧ (True ∧ Q (some (.inl (S.I 35 (S.R 66 x0)))) S)))) ∧ (¬ Int32.toInt x1 = 1 → ((Int32.toInt x1 = 2 → (2 ≤ 2 ∧ S.K x0 = 13 ∧ 0 ≤ 8 ∧ ∃ mc7 mk8, mc7 ≤ mr ∧ mk8 ≤ sr ∧ E 105 [.inr (.inr (x0)), .inl (x1)] mc7 mk8 S (k_100_93 E x0 x1 (mr - mc7) (sr - mk8) Q))) ∧ (¬ Int32.toInt x1 = 2 → ((Int32.toInt x1 = 3 → (2 ≤ 2 ∧ S.K x0 = 13 ∧ 0 ≤ 8 ∧ ∃ mc5 mk6, mc5 ≤ mr ∧ mk6 ≤ sr ∧ E 105 [.inr (.inr (x0)), .inl (x1)] mc5 mk6 S (k_100_93 E x0 x1 (mr - mc5) (sr - mk6) Q))) ∧ (¬ Int32.toInt x1 = 3 → ((Int32.toInt x1 = 4 → (2 ≤ 2 ∧ S.K x0 = 13 ∧ 0 ≤ 8 ∧ ∃ mc3 mk4, mc3 ≤ mr ∧ mk4 ≤ sr ∧ E 105 [.inr (.inr (x0)), .inl (x1)] mc3 mk4 S (k_100_93 E x0 x1 (mr - mc3) (sr - mk4) Q))) ∧ (¬ Int32.toInt x1 = 4 → ((Int32.toInt x1 = 5 → (ox_has (S.K x0) 66 = true ∧ (ox_has (S.K (S.R 66 x0)) 38 = true ∧ (True ∧ Q (some (.inl (S.I 38 (S.R 66 x0)))) S)))) ∧ (¬ Int32.toInt x1 = 5 → ((Int32.toInt x1 = 6 → (ox_has (S.K x0) 66 = true ∧ (ox_has (S.K (S.R 66 x0)) 39 = true ∧ (True ∧ Q (some (.inl (S.I 39 (S.R 66 x0)))) S)))) ∧ (¬ Int32.toInt x1 = 6 → ((Int32.toInt x1 = 7 → (ox_has (S.K x0) 66 = true ∧ (ox_has (S.K (S.R 66 x0)) 43 = true ∧ (True ∧ Q (some (.inl (S.I 43 (S.R 66 x0)))) S)))) ∧ (¬ Int32.toInt x1 = 7 → (2 ≤ 2 ∧ S.K x0 = 13 ∧ 0 ≤ 8 ∧ ∃ mc1 mk2, mc1 ≤ mr ∧ mk2 ≤ sr ∧ E 105 [.inr (.inr (x0)), .inl (x1)] mc1 mk2 S (k_100_93 E x0 x1 (mr - mc1) (sr - mk2) Q))))))))))))))))))
set_option maxRecDepth 20000 in
set_option maxHeartbeats 4000000 in
theorem f_100 {sp : ox_E} (hsp : ox_mono sp) {d : Nat} {mr sr : Nat} {x0 : Nat} {x1 : Int32} {S : ox_St} {Q : ox_Q} (h : q_100 (ox_M sp d) x0 x1 S mr sr Q) : ox_M sp (d + 1) 100 [.inr (.inr (x0)), .inl (x1)] mr sr S Q := Or.inr ⟨Nat.le_of_ble_eq_true rfl, ox_C_fold (ox_M_mono hsp d) h⟩
/-! OpcodeFrames.result(I)I -/
def k_101_12 (E : ox_E) (x0 : Nat) (x1 : Int32) (mr sr : Nat) (Q : ox_Q) : ox_Q := fun r_ T_ => ox_C E (ox_mi 101).2.2.2.1 (ox_mc 101) (ox_cut 101) Q 12 [some (.inr (.inr (x0))), some (.inl (x1))] (r_.toList ++ []) T_ mr sr
set_option maxRecDepth 20000 in
def q_101_12 (E : ox_E) (x0 : Nat) (x1 : Int32) (y0 : Int32) (S : ox_St) (mr sr : Nat) (Q : ox_Q) : Prop :=
  (True ∧ Q (some (.inl y0)) S)
set_option maxRecDepth 20000 in
set_option maxHeartbeats 4000000 in
theorem f_101_12 {E : ox_E} (hE : ox_mono E) {mr sr : Nat} {x0 : Nat} {x1 : Int32} {y0 : Int32} {S : ox_St} {Q : ox_Q} (h : q_101_12 E x0 x1 y0 S mr sr Q) : k_101_12 E x0 x1 mr sr Q (some (.inl (y0))) S := ox_C_fold hE h
set_option maxRecDepth 20000 in
def q_101 (E : ox_E) (x0 : Nat) (x1 : Int32) (S : ox_St) (mr sr : Nat) (Q : ox_Q) : Prop :=
  (ox_has (S.K x0) 66 = true ∧ (ox_has (S.K (S.R 66 x0)) 40 = true ∧ (3 ≤ 3 ∧ S.K x0 = 13 ∧ 0 ≤ 8 ∧ ∃ mc1 mk2, mc1 ≤ mr ∧ mk2 ≤ sr ∧ E 107 [.inr (.inr (x0)), .inr (.inr (S.R 40 (S.R 66 x0))), .inl (x1)] mc1 mk2 S (k_101_12 E x0 x1 (mr - mc1) (sr - mk2) Q))))
set_option maxRecDepth 20000 in
set_option maxHeartbeats 4000000 in
theorem f_101 {sp : ox_E} (hsp : ox_mono sp) {d : Nat} {mr sr : Nat} {x0 : Nat} {x1 : Int32} {S : ox_St} {Q : ox_Q} (h : q_101 (ox_M sp d) x0 x1 S mr sr Q) : ox_M sp (d + 1) 101 [.inr (.inr (x0)), .inl (x1)] mr sr S Q := Or.inr ⟨Nat.le_of_ble_eq_true rfl, ox_C_fold (ox_M_mono hsp d) h⟩
/-! OpcodeFrames.stack(II)I -/
def k_102_7 (E : ox_E) (x0 : Nat) (x1 : Int32) (x2 : Int32) (mr sr : Nat) (Q : ox_Q) : ox_Q := fun r_ T_ => ox_C E (ox_mi 102).2.2.2.1 (ox_mc 102) (ox_cut 102) Q 7 [some (.inr (.inr (x0))), some (.inl (x1)), some (.inl (x2)), none] (r_.toList ++ []) T_ mr sr
def k_102_32 (E : ox_E) (x0 : Nat) (x1 : Int32) (x2 : Int32) (x3 : Nat) (y1 : Nat) (mr sr : Nat) (Q : ox_Q) : ox_Q := fun r_ T_ => ox_C E (ox_mi 102).2.2.2.1 (ox_mc 102) (ox_cut 102) Q 32 [some (.inr (.inr (x0))), some (.inl (x1)), some (.inl (x2)), some (.inr (.inr (x3)))] (r_.toList ++ [.inr (.inr (y1))]) T_ mr sr
def k_102_36 (E : ox_E) (x0 : Nat) (x1 : Int32) (x2 : Int32) (x3 : Nat) (mr sr : Nat) (Q : ox_Q) : ox_Q := fun r_ T_ => ox_C E (ox_mi 102).2.2.2.1 (ox_mc 102) (ox_cut 102) Q 36 [some (.inr (.inr (x0))), some (.inl (x1)), some (.inl (x2)), some (.inr (.inr (x3)))] (r_.toList ++ []) T_ mr sr
set_option maxRecDepth 20000 in
def q_102_36 (E : ox_E) (x0 : Nat) (x1 : Int32) (x2 : Int32) (x3 : Nat) (y0 : Int32) (S : ox_St) (mr sr : Nat) (Q : ox_Q) : Prop :=
  (True ∧ Q (some (.inl y0)) S)
set_option maxRecDepth 20000 in
set_option maxHeartbeats 4000000 in
theorem f_102_36 {E : ox_E} (hE : ox_mono E) {mr sr : Nat} {x0 : Nat} {x1 : Int32} {x2 : Int32} {x3 : Nat} {y0 : Int32} {S : ox_St} {Q : ox_Q} (h : q_102_36 E x0 x1 x2 x3 y0 S mr sr Q) : k_102_36 E x0 x1 x2 x3 mr sr Q (some (.inl (y0))) S := ox_C_fold hE h
set_option maxRecDepth 20000 in
def q_102_32 (E : ox_E) (x0 : Nat) (x1 : Int32) (x2 : Int32) (x3 : Nat) (y0 : Nat) (y1 : Nat) (S : ox_St) (mr sr : Nat) (Q : ox_Q) : Prop :=
  (3 ≤ 3 ∧ S.K y1 = 13 ∧ 0 ≤ 8 ∧ ∃ mc1 mk2, mc1 ≤ mr ∧ mk2 ≤ sr ∧ E 107 [.inr (.inr (y1)), .inr (.inr (y0)), .inl (x2)] mc1 mk2 S (k_102_36 E x0 x1 x2 x3 (mr - mc1) (sr - mk2) Q))
set_option maxRecDepth 20000 in
set_option maxHeartbeats 4000000 in
theorem f_102_32 {E : ox_E} (hE : ox_mono E) {mr sr : Nat} {x0 : Nat} {x1 : Int32} {x2 : Int32} {x3 : Nat} {y0 : Nat} {y1 : Nat} {S : ox_St} {Q : ox_Q} (h : q_102_32 E x0 x1 x2 x3 y0 y1 S mr sr Q) : k_102_32 E x0 x1 x2 x3 y1 mr sr Q (some (.inr (.inr (y0)))) S := ox_C_fold hE h
set_option maxRecDepth 20000 in
def q_102_7 (E : ox_E) (x0 : Nat) (x1 : Int32) (x2 : Int32) (y0 : Nat) (S : ox_St) (mr sr : Nat) (Q : ox_Q) : Prop :=
  ((y0 = 0 → (True ∧ Q (some (.inl ((-1) : Int32))) S)) ∧ (¬ y0 = 0 → ((x1 < 0 → (True ∧ Q (some (.inl ((-1) : Int32))) S)) ∧ (¬ x1 < 0 → (ox_has (S.K y0) 20 = true ∧ ((x1 < (S.I 20 y0) → (2 ≤ 3 ∧ S.K y0 = 4 ∧ 1 ≤ 8 ∧ ∃ mc1 mk2, mc1 ≤ mr ∧ mk2 ≤ sr ∧ E 21 [.inr (.inr (y0)), .inl (x1)] mc1 mk2 S (k_102_32 E x0 x1 x2 y0 x0 (mr - mc1) (sr - mk2) Q))) ∧ (¬ x1 < (S.I 20 y0) → (True ∧ Q (some (.inl ((-1) : Int32))) S))))))))
set_option maxRecDepth 20000 in
set_option maxHeartbeats 4000000 in
theorem f_102_7 {E : ox_E} (hE : ox_mono E) {mr sr : Nat} {x0 : Nat} {x1 : Int32} {x2 : Int32} {y0 : Nat} {S : ox_St} {Q : ox_Q} (h : q_102_7 E x0 x1 x2 y0 S mr sr Q) : k_102_7 E x0 x1 x2 mr sr Q (some (.inr (.inr (y0)))) S := ox_C_fold hE h
set_option maxRecDepth 20000 in
def q_102 (E : ox_E) (x0 : Nat) (x1 : Int32) (x2 : Int32) (S : ox_St) (mr sr : Nat) (Q : ox_Q) : Prop :=
  (ox_has (S.K x0) 66 = true ∧ (1 ≤ 1 ∧ S.K (S.R 66 x0) = 7 ∧ 0 ≤ 8 ∧ ∃ mc1 mk2, mc1 ≤ mr ∧ mk2 ≤ sr ∧ E 44 [.inr (.inr (S.R 66 x0))] mc1 mk2 S (k_102_7 E x0 x1 x2 (mr - mc1) (sr - mk2) Q)))
set_option maxRecDepth 20000 in
set_option maxHeartbeats 4000000 in
theorem f_102 {sp : ox_E} (hsp : ox_mono sp) {d : Nat} {mr sr : Nat} {x0 : Nat} {x1 : Int32} {x2 : Int32} {S : ox_St} {Q : ox_Q} (h : q_102 (ox_M sp d) x0 x1 x2 S mr sr Q) : ox_M sp (d + 1) 102 [.inr (.inr (x0)), .inl (x1), .inl (x2)] mr sr S Q := Or.inr ⟨Nat.le_of_ble_eq_true rfl, ox_C_fold (ox_M_mono hsp d) h⟩
/-! OpcodeFrames.local(II)I -/
def k_103_7 (E : ox_E) (x0 : Nat) (x1 : Int32) (x2 : Int32) (mr sr : Nat) (Q : ox_Q) : ox_Q := fun r_ T_ => ox_C E (ox_mi 103).2.2.2.1 (ox_mc 103) (ox_cut 103) Q 7 [some (.inr (.inr (x0))), some (.inl (x1)), some (.inl (x2)), none] (r_.toList ++ []) T_ mr sr
def k_103_22 (E : ox_E) (x0 : Nat) (x1 : Int32) (x2 : Int32) (x3 : Nat) (y1 : Nat) (mr sr : Nat) (Q : ox_Q) : ox_Q := fun r_ T_ => ox_C E (ox_mi 103).2.2.2.1 (ox_mc 103) (ox_cut 103) Q 22 [some (.inr (.inr (x0))), some (.inl (x1)), some (.inl (x2)), some (.inr (.inr (x3)))] (r_.toList ++ [.inr (.inr (y1))]) T_ mr sr
def k_103_26 (E : ox_E) (x0 : Nat) (x1 : Int32) (x2 : Int32) (x3 : Nat) (mr sr : Nat) (Q : ox_Q) : ox_Q := fun r_ T_ => ox_C E (ox_mi 103).2.2.2.1 (ox_mc 103) (ox_cut 103) Q 26 [some (.inr (.inr (x0))), some (.inl (x1)), some (.inl (x2)), some (.inr (.inr (x3)))] (r_.toList ++ []) T_ mr sr
set_option maxRecDepth 20000 in
def q_103_26 (E : ox_E) (x0 : Nat) (x1 : Int32) (x2 : Int32) (x3 : Nat) (y0 : Int32) (S : ox_St) (mr sr : Nat) (Q : ox_Q) : Prop :=
  (True ∧ Q (some (.inl y0)) S)
set_option maxRecDepth 20000 in
set_option maxHeartbeats 4000000 in
theorem f_103_26 {E : ox_E} (hE : ox_mono E) {mr sr : Nat} {x0 : Nat} {x1 : Int32} {x2 : Int32} {x3 : Nat} {y0 : Int32} {S : ox_St} {Q : ox_Q} (h : q_103_26 E x0 x1 x2 x3 y0 S mr sr Q) : k_103_26 E x0 x1 x2 x3 mr sr Q (some (.inl (y0))) S := ox_C_fold hE h
set_option maxRecDepth 20000 in
def q_103_22 (E : ox_E) (x0 : Nat) (x1 : Int32) (x2 : Int32) (x3 : Nat) (y0 : Nat) (y1 : Nat) (S : ox_St) (mr sr : Nat) (Q : ox_Q) : Prop :=
  (3 ≤ 3 ∧ S.K y1 = 13 ∧ 0 ≤ 8 ∧ ∃ mc1 mk2, mc1 ≤ mr ∧ mk2 ≤ sr ∧ E 107 [.inr (.inr (y1)), .inr (.inr (y0)), .inl (x2)] mc1 mk2 S (k_103_26 E x0 x1 x2 x3 (mr - mc1) (sr - mk2) Q))
set_option maxRecDepth 20000 in
set_option maxHeartbeats 4000000 in
theorem f_103_22 {E : ox_E} (hE : ox_mono E) {mr sr : Nat} {x0 : Nat} {x1 : Int32} {x2 : Int32} {x3 : Nat} {y0 : Nat} {y1 : Nat} {S : ox_St} {Q : ox_Q} (h : q_103_22 E x0 x1 x2 x3 y0 y1 S mr sr Q) : k_103_22 E x0 x1 x2 x3 y1 mr sr Q (some (.inr (.inr (y0)))) S := ox_C_fold hE h
set_option maxRecDepth 20000 in
def q_103_7 (E : ox_E) (x0 : Nat) (x1 : Int32) (x2 : Int32) (y0 : Nat) (S : ox_St) (mr sr : Nat) (Q : ox_Q) : Prop :=
  ((¬ y0 = 0 → (2 ≤ 3 ∧ S.K y0 = 4 ∧ 1 ≤ 8 ∧ ∃ mc1 mk2, mc1 ≤ mr ∧ mk2 ≤ sr ∧ E 24 [.inr (.inr (y0)), .inl (x1)] mc1 mk2 S (k_103_22 E x0 x1 x2 y0 x0 (mr - mc1) (sr - mk2) Q))) ∧ (y0 = 0 → k_103_26 E x0 x1 x2 y0 mr sr Q (some (.inl (-1))) S))
set_option maxRecDepth 20000 in
set_option maxHeartbeats 4000000 in
theorem f_103_7 {E : ox_E} (hE : ox_mono E) {mr sr : Nat} {x0 : Nat} {x1 : Int32} {x2 : Int32} {y0 : Nat} {S : ox_St} {Q : ox_Q} (h : q_103_7 E x0 x1 x2 y0 S mr sr Q) : k_103_7 E x0 x1 x2 mr sr Q (some (.inr (.inr (y0)))) S := ox_C_fold hE h
set_option maxRecDepth 20000 in
def q_103 (E : ox_E) (x0 : Nat) (x1 : Int32) (x2 : Int32) (S : ox_St) (mr sr : Nat) (Q : ox_Q) : Prop :=
  (ox_has (S.K x0) 66 = true ∧ (1 ≤ 1 ∧ S.K (S.R 66 x0) = 7 ∧ 0 ≤ 8 ∧ ∃ mc1 mk2, mc1 ≤ mr ∧ mk2 ≤ sr ∧ E 44 [.inr (.inr (S.R 66 x0))] mc1 mk2 S (k_103_7 E x0 x1 x2 (mr - mc1) (sr - mk2) Q)))
set_option maxRecDepth 20000 in
set_option maxHeartbeats 4000000 in
theorem f_103 {sp : ox_E} (hsp : ox_mono sp) {d : Nat} {mr sr : Nat} {x0 : Nat} {x1 : Int32} {x2 : Int32} {S : ox_St} {Q : ox_Q} (h : q_103 (ox_M sp d) x0 x1 x2 S mr sr Q) : ox_M sp (d + 1) 103 [.inr (.inr (x0)), .inl (x1), .inl (x2)] mr sr S Q := Or.inr ⟨Nat.le_of_ble_eq_true rfl, ox_C_fold (ox_M_mono hsp d) h⟩
/-! OpcodeFrames.global(JI)I -/
def k_104_9 (E : ox_E) (x0 : Nat) (x1 : Int64) (x3 : Int32) (y1 : Nat) (y2 : Nat) (mr sr : Nat) (Q : ox_Q) : ox_Q := fun r_ T_ => ox_C E (ox_mi 104).2.2.2.1 (ox_mc 104) (ox_cut 104) Q 9 [some (.inr (.inr (x0))), some (.inr (.inl (x1))), none, some (.inl (x3))] (r_.toList ++ [.inr (.inr (y1)), .inr (.inr (y2))]) T_ mr sr
def k_104_12 (E : ox_E) (x0 : Nat) (x1 : Int64) (x3 : Int32) (y1 : Nat) (mr sr : Nat) (Q : ox_Q) : ox_Q := fun r_ T_ => ox_C E (ox_mi 104).2.2.2.1 (ox_mc 104) (ox_cut 104) Q 12 [some (.inr (.inr (x0))), some (.inr (.inl (x1))), none, some (.inl (x3))] (r_.toList ++ [.inr (.inr (y1))]) T_ mr sr
def k_104_16 (E : ox_E) (x0 : Nat) (x1 : Int64) (x3 : Int32) (mr sr : Nat) (Q : ox_Q) : ox_Q := fun r_ T_ => ox_C E (ox_mi 104).2.2.2.1 (ox_mc 104) (ox_cut 104) Q 16 [some (.inr (.inr (x0))), some (.inr (.inl (x1))), none, some (.inl (x3))] (r_.toList ++ []) T_ mr sr
set_option maxRecDepth 20000 in
def q_104_16 (E : ox_E) (x0 : Nat) (x1 : Int64) (x3 : Int32) (y0 : Int32) (S : ox_St) (mr sr : Nat) (Q : ox_Q) : Prop :=
  (True ∧ Q (some (.inl y0)) S)
set_option maxRecDepth 20000 in
set_option maxHeartbeats 4000000 in
theorem f_104_16 {E : ox_E} (hE : ox_mono E) {mr sr : Nat} {x0 : Nat} {x1 : Int64} {x3 : Int32} {y0 : Int32} {S : ox_St} {Q : ox_Q} (h : q_104_16 E x0 x1 x3 y0 S mr sr Q) : k_104_16 E x0 x1 x3 mr sr Q (some (.inl (y0))) S := ox_C_fold hE h
set_option maxRecDepth 20000 in
def q_104_12 (E : ox_E) (x0 : Nat) (x1 : Int64) (x3 : Int32) (y0 : Nat) (y1 : Nat) (S : ox_St) (mr sr : Nat) (Q : ox_Q) : Prop :=
  (3 ≤ 3 ∧ S.K y1 = 13 ∧ 0 ≤ 8 ∧ ∃ mc1 mk2, mc1 ≤ mr ∧ mk2 ≤ sr ∧ E 107 [.inr (.inr (y1)), .inr (.inr (y0)), .inl (x3)] mc1 mk2 S (k_104_16 E x0 x1 x3 (mr - mc1) (sr - mk2) Q))
set_option maxRecDepth 20000 in
set_option maxHeartbeats 4000000 in
theorem f_104_12 {E : ox_E} (hE : ox_mono E) {mr sr : Nat} {x0 : Nat} {x1 : Int64} {x3 : Int32} {y0 : Nat} {y1 : Nat} {S : ox_St} {Q : ox_Q} (h : q_104_12 E x0 x1 x3 y0 y1 S mr sr Q) : k_104_12 E x0 x1 x3 y1 mr sr Q (some (.inr (.inr (y0)))) S := ox_C_fold hE h
set_option maxRecDepth 20000 in
def q_104_9 (E : ox_E) (x0 : Nat) (x1 : Int64) (x3 : Int32) (y0 : Int64) (y1 : Nat) (y2 : Nat) (S : ox_St) (mr sr : Nat) (Q : ox_Q) : Prop :=
  (2 ≤ 3 ∧ S.K y1 = 7 ∧ 1 ≤ 8 ∧ ∃ mc1 mk2, mc1 ≤ mr ∧ mk2 ≤ sr ∧ E 45 [.inr (.inr (y1)), .inr (.inl (y0))] mc1 mk2 S (k_104_12 E x0 x1 x3 y2 (mr - mc1) (sr - mk2) Q))
set_option maxRecDepth 20000 in
set_option maxHeartbeats 4000000 in
theorem f_104_9 {E : ox_E} (hE : ox_mono E) {mr sr : Nat} {x0 : Nat} {x1 : Int64} {x3 : Int32} {y0 : Int64} {y1 : Nat} {y2 : Nat} {S : ox_St} {Q : ox_Q} (h : q_104_9 E x0 x1 x3 y0 y1 y2 S mr sr Q) : k_104_9 E x0 x1 x3 y1 y2 mr sr Q (some (.inr (.inl (y0)))) S := ox_C_fold hE h
set_option maxRecDepth 20000 in
def q_104 (E : ox_E) (x0 : Nat) (x1 : Int64) (x2 : Int32) (S : ox_St) (mr sr : Nat) (Q : ox_Q) : Prop :=
  (ox_has (S.K x0) 66 = true ∧ (1 ≤ 3 ∧ 2 ≤ 8 ∧ ∃ mc1 mk2, mc1 ≤ mr ∧ mk2 ≤ sr ∧ E 106 [.inr (.inl (x1))] mc1 mk2 S (k_104_9 E x0 x1 x2 (S.R 66 x0) x0 (mr - mc1) (sr - mk2) Q)))
set_option maxRecDepth 20000 in
set_option maxHeartbeats 4000000 in
theorem f_104 {sp : ox_E} (hsp : ox_mono sp) {d : Nat} {mr sr : Nat} {x0 : Nat} {x1 : Int64} {x2 : Int32} {S : ox_St} {Q : ox_Q} (h : q_104 (ox_M sp d) x0 x1 x2 S mr sr Q) : ox_M sp (d + 1) 104 [.inr (.inr (x0)), .inr (.inl (x1)), .inl (x2)] mr sr S Q := Or.inr ⟨Nat.le_of_ble_eq_true rfl, ox_C_fold (ox_M_mono hsp d) h⟩
/-! OpcodeFrames.aboutFrame(I)I -/
def k_105_19 (E : ox_E) (x0 : Nat) (x1 : Int32) (mr sr : Nat) (Q : ox_Q) : ox_Q := fun r_ T_ => ox_C E (ox_mi 105).2.2.2.1 (ox_mc 105) (ox_cut 105) Q 19 [some (.inr (.inr (x0))), some (.inl (x1)), none] (r_.toList ++ []) T_ mr sr
set_option maxRecDepth 20000 in
def q_105_19 (E : ox_E) (x0 : Nat) (x1 : Int32) (y0 : Nat) (S : ox_St) (mr sr : Nat) (Q : ox_Q) : Prop :=
  ((¬ y0 = 0 → ((¬ x1 = 2 → ((¬ x1 = 3 → (ox_has (S.K y0) 21 = true ∧ (True ∧ Q (some (.inl (S.I 21 y0))) S))) ∧ (x1 = 3 → (ox_has (S.K y0) 20 = true ∧ (True ∧ Q (some (.inl (S.I 20 y0))) S))))) ∧ (x1 = 2 → (ox_has (S.K y0) 19 = true ∧ (True ∧ Q (some (.inl (S.I 19 y0))) S))))) ∧ (y0 = 0 → (True ∧ Q (some (.inl (0 : Int32))) S)))
set_option maxRecDepth 20000 in
set_option maxHeartbeats 4000000 in
theorem f_105_19 {E : ox_E} (hE : ox_mono E) {mr sr : Nat} {x0 : Nat} {x1 : Int32} {y0 : Nat} {S : ox_St} {Q : ox_Q} (h : q_105_19 E x0 x1 y0 S mr sr Q) : k_105_19 E x0 x1 mr sr Q (some (.inr (.inr (y0)))) S := ox_C_fold hE h
set_option maxRecDepth 20000 in
def q_105 (E : ox_E) (x0 : Nat) (x1 : Int32) (S : ox_St) (mr sr : Nat) (Q : ox_Q) : Prop :=
  ((x1 < 2 → (True ∧ Q (some (.inl ((-1) : Int32))) S)) ∧ (¬ x1 < 2 → ((x1 ≤ 4 → (ox_has (S.K x0) 66 = true ∧ (1 ≤ 1 ∧ S.K (S.R 66 x0) = 7 ∧ 0 ≤ 8 ∧ ∃ mc1 mk2, mc1 ≤ mr ∧ mk2 ≤ sr ∧ E 44 [.inr (.inr (S.R 66 x0))] mc1 mk2 S (k_105_19 E x0 x1 (mr - mc1) (sr - mk2) Q)))) ∧ (¬ x1 ≤ 4 → (True ∧ Q (some (.inl ((-1) : Int32))) S)))))
set_option maxRecDepth 20000 in
set_option maxHeartbeats 4000000 in
theorem f_105 {sp : ox_E} (hsp : ox_mono sp) {d : Nat} {mr sr : Nat} {x0 : Nat} {x1 : Int32} {S : ox_St} {Q : ox_Q} (h : q_105 (ox_M sp d) x0 x1 S mr sr Q) : ox_M sp (d + 1) 105 [.inr (.inr (x0)), .inl (x1)] mr sr S Q := Or.inr ⟨Nat.le_of_ble_eq_true rfl, ox_C_fold (ox_M_mono hsp d) h⟩
/-! OpcodeFrames.withoutZeros(J)J -/
def c_106_6 (E : ox_E) (x0 : Int64) (x2 : Int64) (x4 : Int32) (S : ox_St) (mr sr : Nat) (Q : ox_Q) : Prop := ox_C E (ox_mi 106).2.2.2.1 (ox_mc 106) (ox_cut 106) Q 6 [some (.inr (.inl (x0))), none, some (.inr (.inl (x2))), none, some (.inl (x4)), none, none] [] S mr sr
set_option maxRecDepth 20000 in
def q_106_6 (E : ox_E) (x0 : Int64) (x2 : Int64) (x4 : Int32) (S : ox_St) (mr sr : Nat) (Q : ox_Q) : Prop :=
  ((x4 < 0 → (ox_isL (some .long) = true ∧ Q (some (.inr (.inl x2))) S)) ∧ (¬ x4 < 0 → (let w1 : Int64 := ((Int64.toUInt64 x0 >>> ((Int32.toInt64 (8 * x4)).toUInt64 &&& Int64.toUInt64 63)).toInt64) &&& 255
  (((lg_cmp w1 0) = 0 → c_106_6 E x0 x2 (x4 + (-1)) S mr sr Q) ∧ (¬ (lg_cmp w1 0) = 0 → (let w2 : Int64 := (x2 <<< (Int32.toInt64 8 &&& 63)) ||| w1
  c_106_6 E x0 w2 (x4 + (-1)) S mr sr Q))))))
set_option maxRecDepth 20000 in
set_option maxHeartbeats 4000000 in
theorem f_106_6 {E : ox_E} (hE : ox_mono E) {mr sr : Nat} {x0 : Int64} {x2 : Int64} {x4 : Int32} {S : ox_St} {Q : ox_Q} (h : q_106_6 E x0 x2 x4 S mr sr Q) : c_106_6 E x0 x2 x4 S mr sr Q := ox_C_fold hE h
set_option maxRecDepth 20000 in
def q_106 (E : ox_E) (x0 : Int64) (S : ox_St) (mr sr : Nat) (Q : ox_Q) : Prop :=
  c_106_6 E x0 0 7 S mr sr Q
set_option maxRecDepth 20000 in
set_option maxHeartbeats 4000000 in
theorem f_106 {sp : ox_E} (hsp : ox_mono sp) {d : Nat} {mr sr : Nat} {x0 : Int64} {S : ox_St} {Q : ox_Q} (h : q_106 (ox_M sp d) x0 S mr sr Q) : ox_M sp (d + 1) 106 [.inr (.inl (x0))] mr sr S Q := Or.inr ⟨Nat.le_of_ble_eq_true rfl, ox_C_fold (ox_M_mono hsp d) h⟩
/-! OpcodeFrames.numberOfRow(LOpcodeFrames$Value;I)I -/
def k_107_24 (E : ox_E) (x0 : Nat) (x1 : Nat) (x2 : Int32) (mr sr : Nat) (Q : ox_Q) : ox_Q := fun r_ T_ => ox_C E (ox_mi 107).2.2.2.1 (ox_mc 107) (ox_cut 107) Q 24 [some (.inr (.inr (x0))), some (.inr (.inr (x1))), some (.inl (x2))] (r_.toList ++ []) T_ mr sr
set_option maxRecDepth 20000 in
def q_107_24 (E : ox_E) (x0 : Nat) (x1 : Nat) (x2 : Int32) (S : ox_St) (mr sr : Nat) (Q : ox_Q) : Prop :=
  (ox_has (S.K x0) 68 = true ∧ (((S.I 68 x0) ≤ x2 → (True ∧ Q (some (.inl ((-1) : Int32))) S)) ∧ (¬ (S.I 68 x0) ≤ x2 → (ox_has (S.K x0) 67 = true ∧ (ox_rdI (S.K (S.R 67 x0)) = true ∧ vp_in x2 (S.len (S.R 67 x0)) ∧ (True ∧ Q (some (.inl (S.rI (S.R 67 x0) (Int32.toNatClampNeg x2)))) S))))))
set_option maxRecDepth 20000 in
set_option maxHeartbeats 4000000 in
theorem f_107_24 {E : ox_E} (hE : ox_mono E) {mr sr : Nat} {x0 : Nat} {x1 : Nat} {x2 : Int32} {S : ox_St} {Q : ox_Q} (h : q_107_24 E x0 x1 x2 S mr sr Q) : k_107_24 E x0 x1 x2 mr sr Q none S := ox_C_fold hE h
set_option maxRecDepth 20000 in
def q_107 (E : ox_E) (x0 : Nat) (x1 : Nat) (x2 : Int32) (S : ox_St) (mr sr : Nat) (Q : ox_Q) : Prop :=
  ((x2 < 0 → (True ∧ Q (some (.inl ((-1) : Int32))) S)) ∧ (¬ x2 < 0 → ((x2 < 300 → (ox_has (S.K x0) 68 = true ∧ (let S1 := S.sI 68 x0 0
  (3 ≤ 3 ∧ S1.K x0 = 13 ∧ 0 ≤ 8 ∧ ∃ mc2 mk3, mc2 ≤ mr ∧ mk3 ≤ sr ∧ E 108 [.inr (.inr (x0)), .inr (.inr (x1)), .inl (0)] mc2 mk3 S1 (k_107_24 E x0 x1 x2 (mr - mc2) (sr - mk3) Q))))) ∧ (¬ x2 < 300 → (True ∧ Q (some (.inl ((-1) : Int32))) S)))))
set_option maxRecDepth 20000 in
set_option maxHeartbeats 4000000 in
theorem f_107 {sp : ox_E} (hsp : ox_mono sp) {d : Nat} {mr sr : Nat} {x0 : Nat} {x1 : Nat} {x2 : Int32} {S : ox_St} {Q : ox_Q} (h : q_107 (ox_M sp d) x0 x1 x2 S mr sr Q) : ox_M sp (d + 1) 107 [.inr (.inr (x0)), .inr (.inr (x1)), .inl (x2)] mr sr S Q := Or.inr ⟨Nat.le_of_ble_eq_true rfl, ox_C_fold (ox_M_mono hsp d) h⟩
/-! OpcodeFrames.write(LOpcodeFrames$Value;I)V -/
def k_108_18 (E : ox_E) (x0 : Nat) (x1 : Nat) (x2 : Int32) (mr sr : Nat) (Q : ox_Q) : ox_Q := fun r_ T_ => ox_C E (ox_mi 108).2.2.2.1 (ox_mc 108) (ox_cut 108) Q 18 [some (.inr (.inr (x0))), some (.inr (.inr (x1))), some (.inl (x2)), none, none, none, none] (r_.toList ++ []) T_ mr sr
def k_108_35 (E : ox_E) (x0 : Nat) (x1 : Nat) (x2 : Int32) (x3 : Nat) (mr sr : Nat) (Q : ox_Q) : ox_Q := fun r_ T_ => ox_C E (ox_mi 108).2.2.2.1 (ox_mc 108) (ox_cut 108) Q 35 [some (.inr (.inr (x0))), some (.inr (.inr (x1))), some (.inl (x2)), some (.inr (.inr (x3))), none, none, none] (r_.toList ++ []) T_ mr sr
def k_108_61 (E : ox_E) (x0 : Nat) (x1 : Nat) (x2 : Int32) (x4 : Nat) (mr sr : Nat) (Q : ox_Q) : ox_Q := fun r_ T_ => ox_C E (ox_mi 108).2.2.2.1 (ox_mc 108) (ox_cut 108) Q 61 [some (.inr (.inr (x0))), some (.inr (.inr (x1))), some (.inl (x2)), none, some (.inr (.inr (x4))), none, none] (r_.toList ++ []) T_ mr sr
def c_108_64 (E : ox_E) (x0 : Nat) (x1 : Nat) (x2 : Int32) (x4 : Nat) (x6 : Int32) (S : ox_St) (mr sr : Nat) (Q : ox_Q) : Prop := ox_C E (ox_mi 108).2.2.2.1 (ox_mc 108) (ox_cut 108) Q 64 [some (.inr (.inr (x0))), some (.inr (.inr (x1))), some (.inl (x2)), none, some (.inr (.inr (x4))), none, some (.inl (x6))] [] S mr sr
def k_108_100 (E : ox_E) (x0 : Nat) (x1 : Nat) (x2 : Int32) (x4 : Nat) (x6 : Int32) (mr sr : Nat) (Q : ox_Q) : ox_Q := fun r_ T_ => ox_C E (ox_mi 108).2.2.2.1 (ox_mc 108) (ox_cut 108) Q 100 [some (.inr (.inr (x0))), some (.inr (.inr (x1))), some (.inl (x2)), none, some (.inr (.inr (x4))), none, some (.inl (x6))] (r_.toList ++ []) T_ mr sr
def k_108_131 (E : ox_E) (x0 : Nat) (x1 : Nat) (x2 : Int32) (x5 : Nat) (mr sr : Nat) (Q : ox_Q) : ox_Q := fun r_ T_ => ox_C E (ox_mi 108).2.2.2.1 (ox_mc 108) (ox_cut 108) Q 131 [some (.inr (.inr (x0))), some (.inr (.inr (x1))), some (.inl (x2)), none, none, some (.inr (.inr (x5))), none] (r_.toList ++ []) T_ mr sr
def k_108_140 (E : ox_E) (x0 : Nat) (x1 : Nat) (x2 : Int32) (x5 : Nat) (mr sr : Nat) (Q : ox_Q) : ox_Q := fun r_ T_ => ox_C E (ox_mi 108).2.2.2.1 (ox_mc 108) (ox_cut 108) Q 140 [some (.inr (.inr (x0))), some (.inr (.inr (x1))), some (.inl (x2)), none, none, some (.inr (.inr (x5))), none] (r_.toList ++ []) T_ mr sr
def k_108_149 (E : ox_E) (x0 : Nat) (x1 : Nat) (x2 : Int32) (x5 : Nat) (mr sr : Nat) (Q : ox_Q) : ox_Q := fun r_ T_ => ox_C E (ox_mi 108).2.2.2.1 (ox_mc 108) (ox_cut 108) Q 149 [some (.inr (.inr (x0))), some (.inr (.inr (x1))), some (.inl (x2)), none, none, some (.inr (.inr (x5))), none] (r_.toList ++ []) T_ mr sr
def k_108_187 (E : ox_E) (x0 : Nat) (x1 : Nat) (x2 : Int32) (mr sr : Nat) (Q : ox_Q) : ox_Q := fun r_ T_ => ox_C E (ox_mi 108).2.2.2.1 (ox_mc 108) (ox_cut 108) Q 187 [some (.inr (.inr (x0))), some (.inr (.inr (x1))), some (.inl (x2)), none, none, none, none] (r_.toList ++ []) T_ mr sr
set_option maxRecDepth 20000 in
def q_108_187 (E : ox_E) (x0 : Nat) (x1 : Nat) (x2 : Int32) (S : ox_St) (mr sr : Nat) (Q : ox_Q) : Prop :=
  ((ox_mi 108).2.2.2.1 = none ∧ Q none S)
set_option maxRecDepth 20000 in
set_option maxHeartbeats 4000000 in
theorem f_108_187 {E : ox_E} (hE : ox_mono E) {mr sr : Nat} {x0 : Nat} {x1 : Nat} {x2 : Int32} {S : ox_St} {Q : ox_Q} (h : q_108_187 E x0 x1 x2 S mr sr Q) : k_108_187 E x0 x1 x2 mr sr Q none S := ox_C_fold hE h
set_option maxRecDepth 20000 in
def q_108_149 (E : ox_E) (x0 : Nat) (x1 : Nat) (x2 : Int32) (x5 : Nat) (S : ox_St) (mr sr : Nat) (Q : ox_Q) : Prop :=
  k_108_187 E x0 x1 x2 mr sr Q none S
set_option maxRecDepth 20000 in
set_option maxHeartbeats 4000000 in
theorem f_108_149 {E : ox_E} (hE : ox_mono E) {mr sr : Nat} {x0 : Nat} {x1 : Nat} {x2 : Int32} {x5 : Nat} {S : ox_St} {Q : ox_Q} (h : q_108_149 E x0 x1 x2 x5 S mr sr Q) : k_108_149 E x0 x1 x2 x5 mr sr Q none S := ox_C_fold hE h
set_option maxRecDepth 20000 in
def q_108_140 (E : ox_E) (x0 : Nat) (x1 : Nat) (x2 : Int32) (x5 : Nat) (S : ox_St) (mr sr : Nat) (Q : ox_Q) : Prop :=
  (ox_has (S.K x5) 55 = true ∧ (2 ≤ 2 ∧ S.K x0 = 13 ∧ 0 ≤ 8 ∧ ∃ mc1 mk2, mc1 ≤ mr ∧ mk2 ≤ sr ∧ E 110 [.inr (.inr (x0)), .inl (S.I 55 x5)] mc1 mk2 S (k_108_149 E x0 x1 x2 x5 (mr - mc1) (sr - mk2) Q)))
set_option maxRecDepth 20000 in
set_option maxHeartbeats 4000000 in
theorem f_108_140 {E : ox_E} (hE : ox_mono E) {mr sr : Nat} {x0 : Nat} {x1 : Nat} {x2 : Int32} {x5 : Nat} {S : ox_St} {Q : ox_Q} (h : q_108_140 E x0 x1 x2 x5 S mr sr Q) : k_108_140 E x0 x1 x2 x5 mr sr Q none S := ox_C_fold hE h
set_option maxRecDepth 20000 in
def q_108_131 (E : ox_E) (x0 : Nat) (x1 : Nat) (x2 : Int32) (x5 : Nat) (S : ox_St) (mr sr : Nat) (Q : ox_Q) : Prop :=
  (ox_has (S.K x5) 54 = true ∧ (2 ≤ 2 ∧ S.K x0 = 13 ∧ 0 ≤ 8 ∧ ∃ mc1 mk2, mc1 ≤ mr ∧ mk2 ≤ sr ∧ E 110 [.inr (.inr (x0)), .inl (S.I 54 x5)] mc1 mk2 S (k_108_140 E x0 x1 x2 x5 (mr - mc1) (sr - mk2) Q)))
set_option maxRecDepth 20000 in
set_option maxHeartbeats 4000000 in
theorem f_108_131 {E : ox_E} (hE : ox_mono E) {mr sr : Nat} {x0 : Nat} {x1 : Nat} {x2 : Int32} {x5 : Nat} {S : ox_St} {Q : ox_Q} (h : q_108_131 E x0 x1 x2 x5 S mr sr Q) : k_108_131 E x0 x1 x2 x5 mr sr Q none S := ox_C_fold hE h
set_option maxRecDepth 20000 in
def q_108_100 (E : ox_E) (x0 : Nat) (x1 : Nat) (x2 : Int32) (x4 : Nat) (x6 : Int32) (S : ox_St) (mr sr : Nat) (Q : ox_Q) : Prop :=
  c_108_64 E x0 x1 x2 x4 (x6 + 1) S mr sr Q
set_option maxRecDepth 20000 in
set_option maxHeartbeats 4000000 in
theorem f_108_100 {E : ox_E} (hE : ox_mono E) {mr sr : Nat} {x0 : Nat} {x1 : Nat} {x2 : Int32} {x4 : Nat} {x6 : Int32} {S : ox_St} {Q : ox_Q} (h : q_108_100 E x0 x1 x2 x4 x6 S mr sr Q) : k_108_100 E x0 x1 x2 x4 x6 mr sr Q none S := ox_C_fold hE h
set_option maxRecDepth 20000 in
def q_108_64 (E : ox_E) (x0 : Nat) (x1 : Nat) (x2 : Int32) (x4 : Nat) (x6 : Int32) (S : ox_St) (mr sr : Nat) (Q : ox_Q) : Prop :=
  (ox_has (S.K x4) 56 = true ∧ (ox_rdL (S.K (S.R 56 x4)) = true ∧ (((Int32.ofNat (S.len (S.R 56 x4))) ≤ x6 → k_108_187 E x0 x1 x2 mr sr Q none S) ∧ (¬ (Int32.ofNat (S.len (S.R 56 x4))) ≤ x6 → (ox_has (S.K x0) 68 = true ∧ (((300 : Int32) ≤ (S.I 68 x0) → k_108_187 E x0 x1 x2 mr sr Q none S) ∧ (¬ (300 : Int32) ≤ (S.I 68 x0) → (ox_has (S.K x4) 56 = true ∧ (ox_rdR (S.K (S.R 56 x4)) = true ∧ vp_in x6 (S.len (S.R 56 x4)) ∧ (3 ≤ 3 ∧ S.K x0 = 13 ∧ 0 ≤ 8 ∧ ∃ mc1 mk2, mc1 ≤ mr ∧ mk2 ≤ sr ∧ E 108 [.inr (.inr (x0)), .inr (.inr (S.rR (S.R 56 x4) (Int32.toNatClampNeg x6))), .inl (x2 + 1)] mc1 mk2 S (k_108_100 E x0 x1 x2 x4 x6 (mr - mc1) (sr - mk2) Q)))))))))))
set_option maxRecDepth 20000 in
set_option maxHeartbeats 4000000 in
theorem f_108_64 {E : ox_E} (hE : ox_mono E) {mr sr : Nat} {x0 : Nat} {x1 : Nat} {x2 : Int32} {x4 : Nat} {x6 : Int32} {S : ox_St} {Q : ox_Q} (h : q_108_64 E x0 x1 x2 x4 x6 S mr sr Q) : c_108_64 E x0 x1 x2 x4 x6 S mr sr Q := ox_C_fold hE h
set_option maxRecDepth 20000 in
def q_108_61 (E : ox_E) (x0 : Nat) (x1 : Nat) (x2 : Int32) (x4 : Nat) (S : ox_St) (mr sr : Nat) (Q : ox_Q) : Prop :=
  c_108_64 E x0 x1 x2 x4 0 S mr sr Q
set_option maxRecDepth 20000 in
set_option maxHeartbeats 4000000 in
theorem f_108_61 {E : ox_E} (hE : ox_mono E) {mr sr : Nat} {x0 : Nat} {x1 : Nat} {x2 : Int32} {x4 : Nat} {S : ox_St} {Q : ox_Q} (h : q_108_61 E x0 x1 x2 x4 S mr sr Q) : k_108_61 E x0 x1 x2 x4 mr sr Q none S := ox_C_fold hE h
set_option maxRecDepth 20000 in
def q_108_35 (E : ox_E) (x0 : Nat) (x1 : Nat) (x2 : Int32) (x3 : Nat) (S : ox_St) (mr sr : Nat) (Q : ox_Q) : Prop :=
  k_108_187 E x0 x1 x2 mr sr Q none S
set_option maxRecDepth 20000 in
set_option maxHeartbeats 4000000 in
theorem f_108_35 {E : ox_E} (hE : ox_mono E) {mr sr : Nat} {x0 : Nat} {x1 : Nat} {x2 : Int32} {x3 : Nat} {S : ox_St} {Q : ox_Q} (h : q_108_35 E x0 x1 x2 x3 S mr sr Q) : k_108_35 E x0 x1 x2 x3 mr sr Q none S := ox_C_fold hE h
set_option maxRecDepth 20000 in
def q_108_18 (E : ox_E) (x0 : Nat) (x1 : Nat) (x2 : Int32) (S : ox_St) (mr sr : Nat) (Q : ox_Q) : Prop :=
  ((x1 = 0 ∨ ox_isV (S.K x1) = true) ∧ (((if [8].contains (S.K x1) = true then (1 : Int32) else 0) = 0 → ((x1 = 0 ∨ ox_isV (S.K x1) = true) ∧ (((if [10].contains (S.K x1) = true then (1 : Int32) else 0) = 0 → ((x1 = 0 ∨ ox_isV (S.K x1) = true) ∧ (((if [9].contains (S.K x1) = true then (1 : Int32) else 0) = 0 → (ox_has (S.K x1) 6 = true ∧ (((S.I 6 x1) = 7 → (ox_has (S.K x1) 7 = true ∧ (2 ≤ 2 ∧ S.K x0 = 13 ∧ 0 ≤ 8 ∧ ∃ mc1 mk2, mc1 ≤ mr ∧ mk2 ≤ sr ∧ E 110 [.inr (.inr (x0)), .inl (S.I 7 x1)] mc1 mk2 S (k_108_187 E x0 x1 x2 (mr - mc1) (sr - mk2) Q)))) ∧ (¬ (S.I 6 x1) = 7 → (ox_has (S.K x1) 6 = true ∧ (((S.I 6 x1) = 9 → (ox_has (S.K x1) 7 = true ∧ (2 ≤ 2 ∧ S.K x0 = 13 ∧ 0 ≤ 8 ∧ ∃ mc3 mk4, mc3 ≤ mr ∧ mk4 ≤ sr ∧ E 110 [.inr (.inr (x0)), .inl (S.I 7 x1)] mc3 mk4 S (k_108_187 E x0 x1 x2 (mr - mc3) (sr - mk4) Q)))) ∧ (¬ (S.I 6 x1) = 9 → (ox_has (S.K x1) 6 = true ∧ ((¬ (S.I 6 x1) = 10 → k_108_187 E x0 x1 x2 mr sr Q none S) ∧ ((S.I 6 x1) = 10 → (ox_has (S.K x1) 7 = true ∧ (2 ≤ 2 ∧ S.K x0 = 13 ∧ 0 ≤ 8 ∧ ∃ mc5 mk6, mc5 ≤ mr ∧ mk6 ≤ sr ∧ E 110 [.inr (.inr (x0)), .inl (S.I 7 x1)] mc5 mk6 S (k_108_187 E x0 x1 x2 (mr - mc5) (sr - mk6) Q))))))))))))) ∧ (¬ (if [9].contains (S.K x1) = true then (1 : Int32) else 0) = 0 → ((x1 = 0 ∨ [9].contains (S.K x1) = true) ∧ (ox_has (S.K x1) 53 = true ∧ (2 ≤ 2 ∧ S.K x0 = 13 ∧ 0 ≤ 8 ∧ ∃ mc7 mk8, mc7 ≤ mr ∧ mk8 ≤ sr ∧ E 110 [.inr (.inr (x0)), .inl (S.I 53 x1)] mc7 mk8 S (k_108_131 E x0 x1 x2 x1 (mr - mc7) (sr - mk8) Q)))))))) ∧ (¬ (if [10].contains (S.K x1) = true then (1 : Int32) else 0) = 0 → ((x1 = 0 ∨ [10].contains (S.K x1) = true) ∧ (ox_has (S.K x1) 56 = true ∧ (ox_rdL (S.K (S.R 56 x1)) = true ∧ (2 ≤ 2 ∧ S.K x0 = 13 ∧ 0 ≤ 8 ∧ ∃ mc9 mk10, mc9 ≤ mr ∧ mk10 ≤ sr ∧ E 110 [.inr (.inr (x0)), .inl (Int32.ofNat (S.len (S.R 56 x1)))] mc9 mk10 S (k_108_61 E x0 x1 x2 x1 (mr - mc9) (sr - mk10) Q))))))))) ∧ (¬ (if [8].contains (S.K x1) = true then (1 : Int32) else 0) = 0 → ((x1 = 0 ∨ [8].contains (S.K x1) = true) ∧ (2 ≤ 2 ∧ S.K x0 = 13 ∧ 0 ≤ 8 ∧ ∃ mc11 mk12, mc11 ≤ mr ∧ mk12 ≤ sr ∧ E 109 [.inr (.inr (x0)), .inr (.inr (x1))] mc11 mk12 S (k_108_35 E x0 x1 x2 x1 (mr - mc11) (sr - mk12) Q))))))
set_option maxRecDepth 20000 in
set_option maxHeartbeats 4000000 in
theorem f_108_18 {E : ox_E} (hE : ox_mono E) {mr sr : Nat} {x0 : Nat} {x1 : Nat} {x2 : Int32} {S : ox_St} {Q : ox_Q} (h : q_108_18 E x0 x1 x2 S mr sr Q) : k_108_18 E x0 x1 x2 mr sr Q none S := ox_C_fold hE h
set_option maxRecDepth 20000 in
def q_108 (E : ox_E) (x0 : Nat) (x1 : Nat) (x2 : Int32) (S : ox_St) (mr sr : Nat) (Q : ox_Q) : Prop :=
  ((x1 = 0 → ((ox_mi 108).2.2.2.1 = none ∧ Q none S)) ∧ (¬ x1 = 0 → ((x2 ≤ 4 → (ox_has (S.K x1) 6 = true ∧ (2 ≤ 2 ∧ S.K x0 = 13 ∧ 0 ≤ 8 ∧ ∃ mc1 mk2, mc1 ≤ mr ∧ mk2 ≤ sr ∧ E 110 [.inr (.inr (x0)), .inl (S.I 6 x1)] mc1 mk2 S (k_108_18 E x0 x1 x2 (mr - mc1) (sr - mk2) Q)))) ∧ (¬ x2 ≤ 4 → ((ox_mi 108).2.2.2.1 = none ∧ Q none S)))))
set_option maxRecDepth 20000 in
set_option maxHeartbeats 4000000 in
theorem f_108 {sp : ox_E} (hsp : ox_mono sp) {d : Nat} {mr sr : Nat} {x0 : Nat} {x1 : Nat} {x2 : Int32} {S : ox_St} {Q : ox_Q} (h : q_108 (ox_M sp d) x0 x1 x2 S mr sr Q) : ox_M sp (d + 1) 108 [.inr (.inr (x0)), .inr (.inr (x1)), .inl (x2)] mr sr S Q := Or.inr ⟨Nat.le_of_ble_eq_true rfl, ox_C_fold (ox_M_mono hsp d) h⟩
/-! OpcodeFrames.writeNumber(LOpcodeFrames$Num;)V -/
def k_109_16 (E : ox_E) (x0 : Nat) (x1 : Nat) (mr sr : Nat) (Q : ox_Q) : ox_Q := fun r_ T_ => ox_C E (ox_mi 109).2.2.2.1 (ox_mc 109) (ox_cut 109) Q 16 [some (.inr (.inr (x0))), some (.inr (.inr (x1))), none] (r_.toList ++ []) T_ mr sr
def k_109_25 (E : ox_E) (x0 : Nat) (x1 : Nat) (mr sr : Nat) (Q : ox_Q) : ox_Q := fun r_ T_ => ox_C E (ox_mi 109).2.2.2.1 (ox_mc 109) (ox_cut 109) Q 25 [some (.inr (.inr (x0))), some (.inr (.inr (x1))), none] (r_.toList ++ []) T_ mr sr
def c_109_27 (E : ox_E) (x0 : Nat) (x1 : Nat) (x2 : Int32) (S : ox_St) (mr sr : Nat) (Q : ox_Q) : Prop := ox_C E (ox_mi 109).2.2.2.1 (ox_mc 109) (ox_cut 109) Q 27 [some (.inr (.inr (x0))), some (.inr (.inr (x1))), some (.inl (x2))] [] S mr sr
def k_109_46 (E : ox_E) (x0 : Nat) (x1 : Nat) (x2 : Int32) (mr sr : Nat) (Q : ox_Q) : ox_Q := fun r_ T_ => ox_C E (ox_mi 109).2.2.2.1 (ox_mc 109) (ox_cut 109) Q 46 [some (.inr (.inr (x0))), some (.inr (.inr (x1))), some (.inl (x2))] (r_.toList ++ []) T_ mr sr
set_option maxRecDepth 20000 in
def q_109_46 (E : ox_E) (x0 : Nat) (x1 : Nat) (x2 : Int32) (S : ox_St) (mr sr : Nat) (Q : ox_Q) : Prop :=
  c_109_27 E x0 x1 (x2 + 1) S mr sr Q
set_option maxRecDepth 20000 in
set_option maxHeartbeats 4000000 in
theorem f_109_46 {E : ox_E} (hE : ox_mono E) {mr sr : Nat} {x0 : Nat} {x1 : Nat} {x2 : Int32} {S : ox_St} {Q : ox_Q} (h : q_109_46 E x0 x1 x2 S mr sr Q) : k_109_46 E x0 x1 x2 mr sr Q none S := ox_C_fold hE h
set_option maxRecDepth 20000 in
def q_109_27 (E : ox_E) (x0 : Nat) (x1 : Nat) (x2 : Int32) (S : ox_St) (mr sr : Nat) (Q : ox_Q) : Prop :=
  (ox_has (S.K x1) 52 = true ∧ (ox_rdL (S.K (S.R 52 x1)) = true ∧ (((Int32.ofNat (S.len (S.R 52 x1))) ≤ x2 → ((ox_mi 109).2.2.2.1 = none ∧ Q none S)) ∧ (¬ (Int32.ofNat (S.len (S.R 52 x1))) ≤ x2 → (ox_has (S.K x1) 52 = true ∧ (ox_rdI (S.K (S.R 52 x1)) = true ∧ vp_in x2 (S.len (S.R 52 x1)) ∧ (2 ≤ 2 ∧ S.K x0 = 13 ∧ 0 ≤ 8 ∧ ∃ mc1 mk2, mc1 ≤ mr ∧ mk2 ≤ sr ∧ E 110 [.inr (.inr (x0)), .inl (S.rI (S.R 52 x1) (Int32.toNatClampNeg x2))] mc1 mk2 S (k_109_46 E x0 x1 x2 (mr - mc1) (sr - mk2) Q))))))))
set_option maxRecDepth 20000 in
set_option maxHeartbeats 4000000 in
theorem f_109_27 {E : ox_E} (hE : ox_mono E) {mr sr : Nat} {x0 : Nat} {x1 : Nat} {x2 : Int32} {S : ox_St} {Q : ox_Q} (h : q_109_27 E x0 x1 x2 S mr sr Q) : c_109_27 E x0 x1 x2 S mr sr Q := ox_C_fold hE h
set_option maxRecDepth 20000 in
def q_109_25 (E : ox_E) (x0 : Nat) (x1 : Nat) (S : ox_St) (mr sr : Nat) (Q : ox_Q) : Prop :=
  c_109_27 E x0 x1 0 S mr sr Q
set_option maxRecDepth 20000 in
set_option maxHeartbeats 4000000 in
theorem f_109_25 {E : ox_E} (hE : ox_mono E) {mr sr : Nat} {x0 : Nat} {x1 : Nat} {S : ox_St} {Q : ox_Q} (h : q_109_25 E x0 x1 S mr sr Q) : k_109_25 E x0 x1 mr sr Q none S := ox_C_fold hE h
set_option maxRecDepth 20000 in
def q_109_16 (E : ox_E) (x0 : Nat) (x1 : Nat) (S : ox_St) (mr sr : Nat) (Q : ox_Q) : Prop :=
  (ox_has (S.K x1) 52 = true ∧ (ox_rdL (S.K (S.R 52 x1)) = true ∧ (2 ≤ 2 ∧ S.K x0 = 13 ∧ 0 ≤ 8 ∧ ∃ mc1 mk2, mc1 ≤ mr ∧ mk2 ≤ sr ∧ E 110 [.inr (.inr (x0)), .inl (Int32.ofNat (S.len (S.R 52 x1)))] mc1 mk2 S (k_109_25 E x0 x1 (mr - mc1) (sr - mk2) Q))))
set_option maxRecDepth 20000 in
set_option maxHeartbeats 4000000 in
theorem f_109_16 {E : ox_E} (hE : ox_mono E) {mr sr : Nat} {x0 : Nat} {x1 : Nat} {S : ox_St} {Q : ox_Q} (h : q_109_16 E x0 x1 S mr sr Q) : k_109_16 E x0 x1 mr sr Q none S := ox_C_fold hE h
set_option maxRecDepth 20000 in
def q_109 (E : ox_E) (x0 : Nat) (x1 : Nat) (S : ox_St) (mr sr : Nat) (Q : ox_Q) : Prop :=
  (ox_has (S.K x1) 51 = true ∧ (((S.I 51 x1) = 0 → (2 ≤ 2 ∧ S.K x0 = 13 ∧ 0 ≤ 8 ∧ ∃ mc1 mk2, mc1 ≤ mr ∧ mk2 ≤ sr ∧ E 110 [.inr (.inr (x0)), .inl (0)] mc1 mk2 S (k_109_16 E x0 x1 (mr - mc1) (sr - mk2) Q))) ∧ (¬ (S.I 51 x1) = 0 → (2 ≤ 2 ∧ S.K x0 = 13 ∧ 0 ≤ 8 ∧ ∃ mc3 mk4, mc3 ≤ mr ∧ mk4 ≤ sr ∧ E 110 [.inr (.inr (x0)), .inl (1)] mc3 mk4 S (k_109_16 E x0 x1 (mr - mc3) (sr - mk4) Q)))))
set_option maxRecDepth 20000 in
set_option maxHeartbeats 4000000 in
theorem f_109 {sp : ox_E} (hsp : ox_mono sp) {d : Nat} {mr sr : Nat} {x0 : Nat} {x1 : Nat} {S : ox_St} {Q : ox_Q} (h : q_109 (ox_M sp d) x0 x1 S mr sr Q) : ox_M sp (d + 1) 109 [.inr (.inr (x0)), .inr (.inr (x1))] mr sr S Q := Or.inr ⟨Nat.le_of_ble_eq_true rfl, ox_C_fold (ox_M_mono hsp d) h⟩
/-! OpcodeFrames.put(I)V -/
set_option maxRecDepth 20000 in
def q_110 (E : ox_E) (x0 : Nat) (x1 : Int32) (S : ox_St) (mr sr : Nat) (Q : ox_Q) : Prop :=
  (ox_has (S.K x0) 68 = true ∧ (((300 : Int32) ≤ (S.I 68 x0) → ((ox_mi 110).2.2.2.1 = none ∧ Q none S)) ∧ (¬ (300 : Int32) ≤ (S.I 68 x0) → (ox_has (S.K x0) 67 = true ∧ (ox_has (S.K x0) 68 = true ∧ (S.K (S.R 67 x0) = 15 ∧ vp_in (S.I 68 x0) (S.len (S.R 67 x0)) ∧ (let S1 := S.wI (S.R 67 x0) (Int32.toNatClampNeg (S.I 68 x0)) x1
  (ox_has (S1.K x0) 68 = true ∧ (ox_has (S1.K x0) 68 = true ∧ (let S2 := S1.sI 68 x0 ((S1.I 68 x0) + 1)
  ((ox_mi 110).2.2.2.1 = none ∧ Q none S2)))))))))))
set_option maxRecDepth 20000 in
set_option maxHeartbeats 4000000 in
theorem f_110 {sp : ox_E} (hsp : ox_mono sp) {d : Nat} {mr sr : Nat} {x0 : Nat} {x1 : Int32} {S : ox_St} {Q : ox_Q} (h : q_110 (ox_M sp d) x0 x1 S mr sr Q) : ox_M sp (d + 1) 110 [.inr (.inr (x0)), .inl (x1)] mr sr S Q := Or.inr ⟨Nat.le_of_ble_eq_true rfl, ox_C_fold (ox_M_mono hsp d) h⟩
/-! OpcodeFrames.beginTape()V -/
def k_111_17 (E : ox_E) (x0 : Nat) (mr sr : Nat) (Q : ox_Q) : ox_Q := fun r_ T_ => ox_C E (ox_mi 111).2.2.2.1 (ox_mc 111) (ox_cut 111) Q 17 [some (.inr (.inr (x0)))] (r_.toList ++ []) T_ mr sr
set_option maxRecDepth 20000 in
def q_111_17 (E : ox_E) (x0 : Nat) (S : ox_St) (mr sr : Nat) (Q : ox_Q) : Prop :=
  ((ox_mi 111).2.2.2.1 = none ∧ Q none S)
set_option maxRecDepth 20000 in
set_option maxHeartbeats 4000000 in
theorem f_111_17 {E : ox_E} (hE : ox_mono E) {mr sr : Nat} {x0 : Nat} {S : ox_St} {Q : ox_Q} (h : q_111_17 E x0 S mr sr Q) : k_111_17 E x0 mr sr Q none S := ox_C_fold hE h
set_option maxRecDepth 20000 in
def q_111 (E : ox_E) (x0 : Nat) (S : ox_St) (mr sr : Nat) (Q : ox_Q) : Prop :=
  (ox_has (S.K x0) 62 = true ∧ (let S1 := S.sI 62 x0 0
  (ox_has (S1.K x0) 63 = true ∧ (let S2 := S1.sI 63 x0 (-1)
  (ox_has (S2.K x0) 64 = true ∧ (1 ≤ 1 ∧ S2.K (S2.R 64 x0) = 1 ∧ 0 ≤ 8 ∧ ∃ mc3 mk4, mc3 ≤ mr ∧ mk4 ≤ sr ∧ E 227 [.inr (.inr (S2.R 64 x0))] mc3 mk4 S2 (k_111_17 E x0 (mr - mc3) (sr - mk4) Q)))))))
set_option maxRecDepth 20000 in
set_option maxHeartbeats 4000000 in
theorem f_111 {sp : ox_E} (hsp : ox_mono sp) {d : Nat} {mr sr : Nat} {x0 : Nat} {S : ox_St} {Q : ox_Q} (h : q_111 (ox_M sp d) x0 S mr sr Q) : ox_M sp (d + 1) 111 [.inr (.inr (x0))] mr sr S Q := Or.inr ⟨Nat.le_of_ble_eq_true rfl, ox_C_fold (ox_M_mono hsp d) h⟩
/-! OpcodeFrames.allAreAsTheyMustBe()Z -/
def c_112_2 (E : ox_E) (x0 : Nat) (x1 : Int32) (S : ox_St) (mr sr : Nat) (Q : ox_Q) : Prop := ox_C E (ox_mi 112).2.2.2.1 (ox_mc 112) (ox_cut 112) Q 2 [some (.inr (.inr (x0))), some (.inl (x1))] [] S mr sr
def k_112_10 (E : ox_E) (x0 : Nat) (x1 : Int32) (y1 : Int32) (mr sr : Nat) (Q : ox_Q) : ox_Q := fun r_ T_ => ox_C E (ox_mi 112).2.2.2.1 (ox_mc 112) (ox_cut 112) Q 10 [some (.inr (.inr (x0))), some (.inl (x1))] (r_.toList ++ [.inl (y1)]) T_ mr sr
def k_112_25 (E : ox_E) (x0 : Nat) (x1 : Int32) (y1 : Nat) (mr sr : Nat) (Q : ox_Q) : ox_Q := fun r_ T_ => ox_C E (ox_mi 112).2.2.2.1 (ox_mc 112) (ox_cut 112) Q 25 [some (.inr (.inr (x0))), some (.inl (x1))] (r_.toList ++ [.inr (.inr (y1))]) T_ mr sr
def k_112_31 (E : ox_E) (x0 : Nat) (x1 : Int32) (mr sr : Nat) (Q : ox_Q) : ox_Q := fun r_ T_ => ox_C E (ox_mi 112).2.2.2.1 (ox_mc 112) (ox_cut 112) Q 31 [some (.inr (.inr (x0))), some (.inl (x1))] (r_.toList ++ []) T_ mr sr
set_option maxRecDepth 20000 in
def q_112_31 (E : ox_E) (x0 : Nat) (x1 : Int32) (y0 : Int32) (S : ox_St) (mr sr : Nat) (Q : ox_Q) : Prop :=
  ((¬ y0 = 0 → c_112_2 E x0 (x1 + 1) S mr sr Q) ∧ (y0 = 0 → (ox_has (S.K x0) 63 = true ∧ (let S1 := S.sI 63 x0 (1000 * x1)
  (((0 : Int32) = 0 ∨ (0 : Int32) = 1) ∧ Q (some (.inl (0 : Int32))) S1)))))
set_option maxRecDepth 20000 in
set_option maxHeartbeats 4000000 in
theorem f_112_31 {E : ox_E} (hE : ox_mono E) {mr sr : Nat} {x0 : Nat} {x1 : Int32} {y0 : Int32} {S : ox_St} {Q : ox_Q} (h : q_112_31 E x0 x1 y0 S mr sr Q) : k_112_31 E x0 x1 mr sr Q (some (.inl (y0))) S := ox_C_fold hE h
set_option maxRecDepth 20000 in
def q_112_25 (E : ox_E) (x0 : Nat) (x1 : Int32) (y0 : Nat) (y1 : Nat) (S : ox_St) (mr sr : Nat) (Q : ox_Q) : Prop :=
  ((y0 = 0 ∨ [3].contains (S.K y0) = true) ∧ (2 ≤ 2 ∧ S.K y1 = 6 ∧ 0 ≤ 8 ∧ ∃ mc1 mk2, mc1 ≤ mr ∧ mk2 ≤ sr ∧ E 30 [.inr (.inr (y1)), .inr (.inr (y0))] mc1 mk2 S (k_112_31 E x0 x1 (mr - mc1) (sr - mk2) Q)))
set_option maxRecDepth 20000 in
set_option maxHeartbeats 4000000 in
theorem f_112_25 {E : ox_E} (hE : ox_mono E) {mr sr : Nat} {x0 : Nat} {x1 : Int32} {y0 : Nat} {y1 : Nat} {S : ox_St} {Q : ox_Q} (h : q_112_25 E x0 x1 y0 y1 S mr sr Q) : k_112_25 E x0 x1 y1 mr sr Q (some (.inr (.inr (y0)))) S := ox_C_fold hE h
set_option maxRecDepth 20000 in
def q_112_10 (E : ox_E) (x0 : Nat) (x1 : Int32) (y0 : Int32) (y1 : Int32) (S : ox_St) (mr sr : Nat) (Q : ox_Q) : Prop :=
  ((y0 ≤ y1 → (((1 : Int32) = 0 ∨ (1 : Int32) = 1) ∧ Q (some (.inl (1 : Int32))) S)) ∧ (¬ y0 ≤ y1 → (ox_has (S.K x0) 65 = true ∧ (ox_has (S.K x0) 64 = true ∧ (2 ≤ 3 ∧ S.K (S.R 64 x0) = 1 ∧ 1 ≤ 8 ∧ ∃ mc1 mk2, mc1 ≤ mr ∧ mk2 ≤ sr ∧ E 224 [.inr (.inr (S.R 64 x0)), .inl (x1)] mc1 mk2 S (k_112_25 E x0 x1 (S.R 65 x0) (mr - mc1) (sr - mk2) Q))))))
set_option maxRecDepth 20000 in
set_option maxHeartbeats 4000000 in
theorem f_112_10 {E : ox_E} (hE : ox_mono E) {mr sr : Nat} {x0 : Nat} {x1 : Int32} {y0 : Int32} {y1 : Int32} {S : ox_St} {Q : ox_Q} (h : q_112_10 E x0 x1 y0 y1 S mr sr Q) : k_112_10 E x0 x1 y1 mr sr Q (some (.inl (y0))) S := ox_C_fold hE h
set_option maxRecDepth 20000 in
def q_112_2 (E : ox_E) (x0 : Nat) (x1 : Int32) (S : ox_St) (mr sr : Nat) (Q : ox_Q) : Prop :=
  (ox_has (S.K x0) 64 = true ∧ (1 ≤ 2 ∧ S.K (S.R 64 x0) = 1 ∧ 1 ≤ 8 ∧ ∃ mc1 mk2, mc1 ≤ mr ∧ mk2 ≤ sr ∧ E 222 [.inr (.inr (S.R 64 x0))] mc1 mk2 S (k_112_10 E x0 x1 x1 (mr - mc1) (sr - mk2) Q)))
set_option maxRecDepth 20000 in
set_option maxHeartbeats 4000000 in
theorem f_112_2 {E : ox_E} (hE : ox_mono E) {mr sr : Nat} {x0 : Nat} {x1 : Int32} {S : ox_St} {Q : ox_Q} (h : q_112_2 E x0 x1 S mr sr Q) : c_112_2 E x0 x1 S mr sr Q := ox_C_fold hE h
set_option maxRecDepth 20000 in
def q_112 (E : ox_E) (x0 : Nat) (S : ox_St) (mr sr : Nat) (Q : ox_Q) : Prop :=
  c_112_2 E x0 0 S mr sr Q
set_option maxRecDepth 20000 in
set_option maxHeartbeats 4000000 in
theorem f_112 {sp : ox_E} (hsp : ox_mono sp) {d : Nat} {mr sr : Nat} {x0 : Nat} {S : ox_St} {Q : ox_Q} (h : q_112 (ox_M sp d) x0 S mr sr Q) : ox_M sp (d + 1) 112 [.inr (.inr (x0))] mr sr S Q := Or.inr ⟨Nat.le_of_ble_eq_true rfl, ox_C_fold (ox_M_mono hsp d) h⟩
/-! OpcodeFrames.refuse()V -/
set_option maxRecDepth 20000 in
def q_113 (E : ox_E) (x0 : Nat) (S : ox_St) (mr sr : Nat) (Q : ox_Q) : Prop :=
  (ox_has (S.K x0) 63 = true ∧ ((¬ (S.I 63 x0) = (-1) → ((ox_mi 113).2.2.2.1 = none ∧ Q none S)) ∧ ((S.I 63 x0) = (-1) → (ox_has (S.K x0) 62 = true ∧ (ox_has (S.K x0) 63 = true ∧ (let S1 := S.sI 63 x0 (S.I 62 x0)
  ((ox_mi 113).2.2.2.1 = none ∧ Q none S1)))))))
set_option maxRecDepth 20000 in
set_option maxHeartbeats 4000000 in
theorem f_113 {sp : ox_E} (hsp : ox_mono sp) {d : Nat} {mr sr : Nat} {x0 : Nat} {S : ox_St} {Q : ox_Q} (h : q_113 (ox_M sp d) x0 S mr sr Q) : ox_M sp (d + 1) 113 [.inr (.inr (x0))] mr sr S Q := Or.inr ⟨Nat.le_of_ble_eq_true rfl, ox_C_fold (ox_M_mono hsp d) h⟩
/-! OpcodeFrames.peek()I -/
set_option maxRecDepth 20000 in
def q_114 (E : ox_E) (x0 : Nat) (S : ox_St) (mr sr : Nat) (Q : ox_Q) : Prop :=
  (ox_has (S.K x0) 62 = true ∧ (ox_has (S.K x0) 61 = true ∧ (((S.I 61 x0) ≤ (S.I 62 x0) → (True ∧ Q (some (.inl ((-1) : Int32))) S)) ∧ (¬ (S.I 61 x0) ≤ (S.I 62 x0) → (ox_has (S.K x0) 62 = true ∧ (((800 : Int32) ≤ (S.I 62 x0) → (True ∧ Q (some (.inl ((-1) : Int32))) S)) ∧ (¬ (800 : Int32) ≤ (S.I 62 x0) → (ox_has (S.K x0) 60 = true ∧ (ox_has (S.K x0) 62 = true ∧ (ox_rdI (S.K (S.R 60 x0)) = true ∧ vp_in (S.I 62 x0) (S.len (S.R 60 x0)) ∧ (True ∧ Q (some (.inl (S.rI (S.R 60 x0) (Int32.toNatClampNeg (S.I 62 x0))))) S)))))))))))
set_option maxRecDepth 20000 in
set_option maxHeartbeats 4000000 in
theorem f_114 {sp : ox_E} (hsp : ox_mono sp) {d : Nat} {mr sr : Nat} {x0 : Nat} {S : ox_St} {Q : ox_Q} (h : q_114 (ox_M sp d) x0 S mr sr Q) : ox_M sp (d + 1) 114 [.inr (.inr (x0))] mr sr S Q := Or.inr ⟨Nat.le_of_ble_eq_true rfl, ox_C_fold (ox_M_mono hsp d) h⟩
/-! OpcodeFrames.byteWithin(II)I -/
set_option maxRecDepth 20000 in
def q_115 (E : ox_E) (x0 : Nat) (x1 : Int32) (x2 : Int32) (S : ox_St) (mr sr : Nat) (Q : ox_Q) : Prop :=
  (ox_has (S.K x0) 63 = true ∧ (((S.I 63 x0) = (-1) → (ox_has (S.K x0) 62 = true ∧ (ox_has (S.K x0) 61 = true ∧ (((S.I 61 x0) ≤ (S.I 62 x0) → (ox_has (S.K x0) 62 = true ∧ (ox_has (S.K x0) 63 = true ∧ (let S1 := S.sI 63 x0 (S.I 62 x0)
  (True ∧ Q (some (.inl ((-1) : Int32))) S1))))) ∧ (¬ (S.I 61 x0) ≤ (S.I 62 x0) → (ox_has (S.K x0) 62 = true ∧ (((800 : Int32) ≤ (S.I 62 x0) → (ox_has (S.K x0) 62 = true ∧ (ox_has (S.K x0) 63 = true ∧ (let S2 := S.sI 63 x0 (S.I 62 x0)
  (True ∧ Q (some (.inl ((-1) : Int32))) S2))))) ∧ (¬ (800 : Int32) ≤ (S.I 62 x0) → (ox_has (S.K x0) 60 = true ∧ (ox_has (S.K x0) 62 = true ∧ (ox_rdI (S.K (S.R 60 x0)) = true ∧ vp_in (S.I 62 x0) (S.len (S.R 60 x0)) ∧ (((S.rI (S.R 60 x0) (Int32.toNatClampNeg (S.I 62 x0))) < x1 → (ox_has (S.K x0) 62 = true ∧ (ox_has (S.K x0) 63 = true ∧ (let S3 := S.sI 63 x0 (S.I 62 x0)
  (True ∧ Q (some (.inl ((-1) : Int32))) S3))))) ∧ (¬ (S.rI (S.R 60 x0) (Int32.toNatClampNeg (S.I 62 x0))) < x1 → (ox_has (S.K x0) 60 = true ∧ (ox_has (S.K x0) 62 = true ∧ (ox_rdI (S.K (S.R 60 x0)) = true ∧ vp_in (S.I 62 x0) (S.len (S.R 60 x0)) ∧ (((S.rI (S.R 60 x0) (Int32.toNatClampNeg (S.I 62 x0))) ≤ x2 → (ox_has (S.K x0) 62 = true ∧ (ox_has (S.K x0) 62 = true ∧ (let S4 := S.sI 62 x0 ((S.I 62 x0) + 1)
  (ox_has (S4.K x0) 60 = true ∧ (ox_has (S4.K x0) 62 = true ∧ (ox_rdI (S4.K (S4.R 60 x0)) = true ∧ vp_in ((S4.I 62 x0) - 1) (S4.len (S4.R 60 x0)) ∧ (True ∧ Q (some (.inl (S4.rI (S4.R 60 x0) (Int32.toNatClampNeg ((S4.I 62 x0) - 1))))) S4)))))))) ∧ (¬ (S.rI (S.R 60 x0) (Int32.toNatClampNeg (S.I 62 x0))) ≤ x2 → (ox_has (S.K x0) 62 = true ∧ (ox_has (S.K x0) 63 = true ∧ (let S5 := S.sI 63 x0 (S.I 62 x0)
  (True ∧ Q (some (.inl ((-1) : Int32))) S5)))))))))))))))))))))) ∧ (¬ (S.I 63 x0) = (-1) → (True ∧ Q (some (.inl ((-1) : Int32))) S))))
set_option maxRecDepth 20000 in
set_option maxHeartbeats 4000000 in
theorem f_115 {sp : ox_E} (hsp : ox_mono sp) {d : Nat} {mr sr : Nat} {x0 : Nat} {x1 : Int32} {x2 : Int32} {S : ox_St} {Q : ox_Q} (h : q_115 (ox_M sp d) x0 x1 x2 S mr sr Q) : ox_M sp (d + 1) 115 [.inr (.inr (x0)), .inl (x1), .inl (x2)] mr sr S Q := Or.inr ⟨Nat.le_of_ble_eq_true rfl, ox_C_fold (ox_M_mono hsp d) h⟩
/-! OpcodeFrames.objectAt(I)LOpcodeFrames$Value; -/
def k_116_17 (E : ox_E) (x0 : Nat) (x1 : Int32) (mr sr : Nat) (Q : ox_Q) : ox_Q := fun r_ T_ => ox_C E (ox_mi 116).2.2.2.1 (ox_mc 116) (ox_cut 116) Q 17 [some (.inr (.inr (x0))), some (.inl (x1))] (r_.toList ++ []) T_ mr sr
def k_116_23 (E : ox_E) (x0 : Nat) (x1 : Int32) (mr sr : Nat) (Q : ox_Q) : ox_Q := fun r_ T_ => ox_C E (ox_mi 116).2.2.2.1 (ox_mc 116) (ox_cut 116) Q 23 [some (.inr (.inr (x0))), some (.inl (x1))] (r_.toList ++ []) T_ mr sr
def k_116_93 (E : ox_E) (x0 : Nat) (x1 : Int32) (mr sr : Nat) (Q : ox_Q) : ox_Q := fun r_ T_ => ox_C E (ox_mi 116).2.2.2.1 (ox_mc 116) (ox_cut 116) Q 93 [some (.inr (.inr (x0))), some (.inl (x1))] (r_.toList ++ []) T_ mr sr
def k_116_99 (E : ox_E) (x0 : Nat) (x1 : Int32) (mr sr : Nat) (Q : ox_Q) : ox_Q := fun r_ T_ => ox_C E (ox_mi 116).2.2.2.1 (ox_mc 116) (ox_cut 116) Q 99 [some (.inr (.inr (x0))), some (.inl (x1))] (r_.toList ++ []) T_ mr sr
def k_116_105 (E : ox_E) (x0 : Nat) (x1 : Int32) (mr sr : Nat) (Q : ox_Q) : ox_Q := fun r_ T_ => ox_C E (ox_mi 116).2.2.2.1 (ox_mc 116) (ox_cut 116) Q 105 [some (.inr (.inr (x0))), some (.inl (x1))] (r_.toList ++ []) T_ mr sr
def k_116_110 (E : ox_E) (x0 : Nat) (x1 : Int32) (mr sr : Nat) (Q : ox_Q) : ox_Q := fun r_ T_ => ox_C E (ox_mi 116).2.2.2.1 (ox_mc 116) (ox_cut 116) Q 110 [some (.inr (.inr (x0))), some (.inl (x1))] (r_.toList ++ []) T_ mr sr
def k_116_114 (E : ox_E) (x0 : Nat) (x1 : Int32) (mr sr : Nat) (Q : ox_Q) : ox_Q := fun r_ T_ => ox_C E (ox_mi 116).2.2.2.1 (ox_mc 116) (ox_cut 116) Q 114 [some (.inr (.inr (x0))), some (.inl (x1))] (r_.toList ++ []) T_ mr sr
def k_116_119 (E : ox_E) (x0 : Nat) (x1 : Int32) (mr sr : Nat) (Q : ox_Q) : ox_Q := fun r_ T_ => ox_C E (ox_mi 116).2.2.2.1 (ox_mc 116) (ox_cut 116) Q 119 [some (.inr (.inr (x0))), some (.inl (x1))] (r_.toList ++ []) T_ mr sr
def k_116_125 (E : ox_E) (x0 : Nat) (x1 : Int32) (mr sr : Nat) (Q : ox_Q) : ox_Q := fun r_ T_ => ox_C E (ox_mi 116).2.2.2.1 (ox_mc 116) (ox_cut 116) Q 125 [some (.inr (.inr (x0))), some (.inl (x1))] (r_.toList ++ []) T_ mr sr
def k_116_131 (E : ox_E) (x0 : Nat) (x1 : Int32) (mr sr : Nat) (Q : ox_Q) : ox_Q := fun r_ T_ => ox_C E (ox_mi 116).2.2.2.1 (ox_mc 116) (ox_cut 116) Q 131 [some (.inr (.inr (x0))), some (.inl (x1))] (r_.toList ++ []) T_ mr sr
def k_116_136 (E : ox_E) (x0 : Nat) (x1 : Int32) (mr sr : Nat) (Q : ox_Q) : ox_Q := fun r_ T_ => ox_C E (ox_mi 116).2.2.2.1 (ox_mc 116) (ox_cut 116) Q 136 [some (.inr (.inr (x0))), some (.inl (x1))] (r_.toList ++ []) T_ mr sr
set_option maxRecDepth 20000 in
def q_116_136 (E : ox_E) (x0 : Nat) (x1 : Int32) (S : ox_St) (mr sr : Nat) (Q : ox_Q) : Prop :=
  (ox_isR (ox_mi 116).2.2.2.1 = true ∧ Q (some (.inr (.inr 0))) S)
set_option maxRecDepth 20000 in
set_option maxHeartbeats 4000000 in
theorem f_116_136 {E : ox_E} (hE : ox_mono E) {mr sr : Nat} {x0 : Nat} {x1 : Int32} {S : ox_St} {Q : ox_Q} (h : q_116_136 E x0 x1 S mr sr Q) : k_116_136 E x0 x1 mr sr Q none S := ox_C_fold hE h
set_option maxRecDepth 20000 in
def q_116_131 (E : ox_E) (x0 : Nat) (x1 : Int32) (y0 : Nat) (S : ox_St) (mr sr : Nat) (Q : ox_Q) : Prop :=
  (ox_isR (ox_mi 116).2.2.2.1 = true ∧ Q (some (.inr (.inr y0))) S)
set_option maxRecDepth 20000 in
set_option maxHeartbeats 4000000 in
theorem f_116_131 {E : ox_E} (hE : ox_mono E) {mr sr : Nat} {x0 : Nat} {x1 : Int32} {y0 : Nat} {S : ox_St} {Q : ox_Q} (h : q_116_131 E x0 x1 y0 S mr sr Q) : k_116_131 E x0 x1 mr sr Q (some (.inr (.inr (y0)))) S := ox_C_fold hE h
set_option maxRecDepth 20000 in
def q_116_125 (E : ox_E) (x0 : Nat) (x1 : Int32) (y0 : Nat) (S : ox_St) (mr sr : Nat) (Q : ox_Q) : Prop :=
  (ox_isR (ox_mi 116).2.2.2.1 = true ∧ Q (some (.inr (.inr y0))) S)
set_option maxRecDepth 20000 in
set_option maxHeartbeats 4000000 in
theorem f_116_125 {E : ox_E} (hE : ox_mono E) {mr sr : Nat} {x0 : Nat} {x1 : Int32} {y0 : Nat} {S : ox_St} {Q : ox_Q} (h : q_116_125 E x0 x1 y0 S mr sr Q) : k_116_125 E x0 x1 mr sr Q (some (.inr (.inr (y0)))) S := ox_C_fold hE h
set_option maxRecDepth 20000 in
def q_116_119 (E : ox_E) (x0 : Nat) (x1 : Int32) (y0 : Nat) (S : ox_St) (mr sr : Nat) (Q : ox_Q) : Prop :=
  (ox_isR (ox_mi 116).2.2.2.1 = true ∧ Q (some (.inr (.inr y0))) S)
set_option maxRecDepth 20000 in
set_option maxHeartbeats 4000000 in
theorem f_116_119 {E : ox_E} (hE : ox_mono E) {mr sr : Nat} {x0 : Nat} {x1 : Int32} {y0 : Nat} {S : ox_St} {Q : ox_Q} (h : q_116_119 E x0 x1 y0 S mr sr Q) : k_116_119 E x0 x1 mr sr Q (some (.inr (.inr (y0)))) S := ox_C_fold hE h
set_option maxRecDepth 20000 in
def q_116_114 (E : ox_E) (x0 : Nat) (x1 : Int32) (y0 : Nat) (S : ox_St) (mr sr : Nat) (Q : ox_Q) : Prop :=
  (ox_isR (ox_mi 116).2.2.2.1 = true ∧ Q (some (.inr (.inr y0))) S)
set_option maxRecDepth 20000 in
set_option maxHeartbeats 4000000 in
theorem f_116_114 {E : ox_E} (hE : ox_mono E) {mr sr : Nat} {x0 : Nat} {x1 : Int32} {y0 : Nat} {S : ox_St} {Q : ox_Q} (h : q_116_114 E x0 x1 y0 S mr sr Q) : k_116_114 E x0 x1 mr sr Q (some (.inr (.inr (y0)))) S := ox_C_fold hE h
set_option maxRecDepth 20000 in
def q_116_110 (E : ox_E) (x0 : Nat) (x1 : Int32) (y0 : Int32) (S : ox_St) (mr sr : Nat) (Q : ox_Q) : Prop :=
  (1 ≤ 1 ∧ 0 ≤ 8 ∧ ∃ mc1 mk2, mc1 ≤ mr ∧ mk2 ≤ sr ∧ E 79 [.inr (.inl (Int32.toInt64 y0))] mc1 mk2 S (k_116_114 E x0 x1 (mr - mc1) (sr - mk2) Q))
set_option maxRecDepth 20000 in
set_option maxHeartbeats 4000000 in
theorem f_116_110 {E : ox_E} (hE : ox_mono E) {mr sr : Nat} {x0 : Nat} {x1 : Int32} {y0 : Int32} {S : ox_St} {Q : ox_Q} (h : q_116_110 E x0 x1 y0 S mr sr Q) : k_116_110 E x0 x1 mr sr Q (some (.inl (y0))) S := ox_C_fold hE h
set_option maxRecDepth 20000 in
def q_116_105 (E : ox_E) (x0 : Nat) (x1 : Int32) (y0 : Nat) (S : ox_St) (mr sr : Nat) (Q : ox_Q) : Prop :=
  (ox_isR (ox_mi 116).2.2.2.1 = true ∧ Q (some (.inr (.inr y0))) S)
set_option maxRecDepth 20000 in
set_option maxHeartbeats 4000000 in
theorem f_116_105 {E : ox_E} (hE : ox_mono E) {mr sr : Nat} {x0 : Nat} {x1 : Int32} {y0 : Nat} {S : ox_St} {Q : ox_Q} (h : q_116_105 E x0 x1 y0 S mr sr Q) : k_116_105 E x0 x1 mr sr Q (some (.inr (.inr (y0)))) S := ox_C_fold hE h
set_option maxRecDepth 20000 in
def q_116_99 (E : ox_E) (x0 : Nat) (x1 : Int32) (y0 : Nat) (S : ox_St) (mr sr : Nat) (Q : ox_Q) : Prop :=
  (ox_isR (ox_mi 116).2.2.2.1 = true ∧ Q (some (.inr (.inr y0))) S)
set_option maxRecDepth 20000 in
set_option maxHeartbeats 4000000 in
theorem f_116_99 {E : ox_E} (hE : ox_mono E) {mr sr : Nat} {x0 : Nat} {x1 : Int32} {y0 : Nat} {S : ox_St} {Q : ox_Q} (h : q_116_99 E x0 x1 y0 S mr sr Q) : k_116_99 E x0 x1 mr sr Q (some (.inr (.inr (y0)))) S := ox_C_fold hE h
set_option maxRecDepth 20000 in
def q_116_93 (E : ox_E) (x0 : Nat) (x1 : Int32) (y0 : Nat) (S : ox_St) (mr sr : Nat) (Q : ox_Q) : Prop :=
  (ox_isR (ox_mi 116).2.2.2.1 = true ∧ Q (some (.inr (.inr y0))) S)
set_option maxRecDepth 20000 in
set_option maxHeartbeats 4000000 in
theorem f_116_93 {E : ox_E} (hE : ox_mono E) {mr sr : Nat} {x0 : Nat} {x1 : Int32} {y0 : Nat} {S : ox_St} {Q : ox_Q} (h : q_116_93 E x0 x1 y0 S mr sr Q) : k_116_93 E x0 x1 mr sr Q (some (.inr (.inr (y0)))) S := ox_C_fold hE h
set_option maxRecDepth 20000 in
def q_116_23 (E : ox_E) (x0 : Nat) (x1 : Int32) (y0 : Int32) (S : ox_St) (mr sr : Nat) (Q : ox_Q) : Prop :=
  ((Int32.toInt y0 = 40 → (2 ≤ 2 ∧ S.K x0 = 13 ∧ 0 ≤ 8 ∧ ∃ mc15 mk16, mc15 ≤ mr ∧ mk16 ≤ sr ∧ E 121 [.inr (.inr (x0)), .inl (x1)] mc15 mk16 S (k_116_125 E x0 x1 (mr - mc15) (sr - mk16) Q))) ∧ (¬ Int32.toInt y0 = 40 → ((Int32.toInt y0 = 70 → (2 ≤ 2 ∧ S.K x0 = 13 ∧ 0 ≤ 8 ∧ ∃ mc13 mk14, mc13 ≤ mr ∧ mk14 ≤ sr ∧ E 117 [.inr (.inr (x0)), .inl (1)] mc13 mk14 S (k_116_99 E x0 x1 (mr - mc13) (sr - mk14) Q))) ∧ (¬ Int32.toInt y0 = 70 → ((Int32.toInt y0 = 78 → (2 ≤ 2 ∧ S.K x0 = 13 ∧ 0 ≤ 8 ∧ ∃ mc11 mk12, mc11 ≤ mr ∧ mk12 ≤ sr ∧ E 117 [.inr (.inr (x0)), .inl (0)] mc11 mk12 S (k_116_93 E x0 x1 (mr - mc11) (sr - mk12) Q))) ∧ (¬ Int32.toInt y0 = 78 → ((Int32.toInt y0 = 84 → (2 ≤ 2 ∧ S.K x0 = 13 ∧ 0 ≤ 8 ∧ ∃ mc9 mk10, mc9 ≤ mr ∧ mk10 ≤ sr ∧ E 117 [.inr (.inr (x0)), .inl (2)] mc9 mk10 S (k_116_105 E x0 x1 (mr - mc9) (sr - mk10) Q))) ∧ (¬ Int32.toInt y0 = 84 → ((Int32.toInt y0 = 99 → (2 ≤ 2 ∧ S.K x0 = 13 ∧ 0 ≤ 8 ∧ ∃ mc7 mk8, mc7 ≤ mr ∧ mk8 ≤ sr ∧ E 123 [.inr (.inr (x0)), .inl (x1)] mc7 mk8 S (k_116_131 E x0 x1 (mr - mc7) (sr - mk8) Q))) ∧ (¬ Int32.toInt y0 = 99 → ((Int32.toInt y0 = 105 → (1 ≤ 1 ∧ S.K x0 = 13 ∧ 0 ≤ 8 ∧ ∃ mc5 mk6, mc5 ≤ mr ∧ mk6 ≤ sr ∧ E 118 [.inr (.inr (x0))] mc5 mk6 S (k_116_110 E x0 x1 (mr - mc5) (sr - mk6) Q))) ∧ (¬ Int32.toInt y0 = 105 → ((Int32.toInt y0 = 108 → (1 ≤ 1 ∧ S.K x0 = 13 ∧ 0 ≤ 8 ∧ ∃ mc3 mk4, mc3 ≤ mr ∧ mk4 ≤ sr ∧ E 119 [.inr (.inr (x0))] mc3 mk4 S (k_116_119 E x0 x1 (mr - mc3) (sr - mk4) Q))) ∧ (¬ Int32.toInt y0 = 108 → (1 ≤ 1 ∧ S.K x0 = 13 ∧ 0 ≤ 8 ∧ ∃ mc1 mk2, mc1 ≤ mr ∧ mk2 ≤ sr ∧ E 113 [.inr (.inr (x0))] mc1 mk2 S (k_116_136 E x0 x1 (mr - mc1) (sr - mk2) Q))))))))))))))))
set_option maxRecDepth 20000 in
set_option maxHeartbeats 4000000 in
theorem f_116_23 {E : ox_E} (hE : ox_mono E) {mr sr : Nat} {x0 : Nat} {x1 : Int32} {y0 : Int32} {S : ox_St} {Q : ox_Q} (h : q_116_23 E x0 x1 y0 S mr sr Q) : k_116_23 E x0 x1 mr sr Q (some (.inl (y0))) S := ox_C_fold hE h
set_option maxRecDepth 20000 in
def q_116_17 (E : ox_E) (x0 : Nat) (x1 : Int32) (S : ox_St) (mr sr : Nat) (Q : ox_Q) : Prop :=
  (ox_isR (ox_mi 116).2.2.2.1 = true ∧ Q (some (.inr (.inr 0))) S)
set_option maxRecDepth 20000 in
set_option maxHeartbeats 4000000 in
theorem f_116_17 {E : ox_E} (hE : ox_mono E) {mr sr : Nat} {x0 : Nat} {x1 : Int32} {S : ox_St} {Q : ox_Q} (h : q_116_17 E x0 x1 S mr sr Q) : k_116_17 E x0 x1 mr sr Q none S := ox_C_fold hE h
set_option maxRecDepth 20000 in
def q_116 (E : ox_E) (x0 : Nat) (x1 : Int32) (S : ox_St) (mr sr : Nat) (Q : ox_Q) : Prop :=
  (ox_has (S.K x0) 63 = true ∧ ((¬ (S.I 63 x0) = (-1) → (1 ≤ 1 ∧ S.K x0 = 13 ∧ 0 ≤ 8 ∧ ∃ mc1 mk2, mc1 ≤ mr ∧ mk2 ≤ sr ∧ E 113 [.inr (.inr (x0))] mc1 mk2 S (k_116_17 E x0 x1 (mr - mc1) (sr - mk2) Q))) ∧ ((S.I 63 x0) = (-1) → ((x1 ≤ 5 → (1 ≤ 1 ∧ S.K x0 = 13 ∧ 0 ≤ 8 ∧ ∃ mc3 mk4, mc3 ≤ mr ∧ mk4 ≤ sr ∧ E 114 [.inr (.inr (x0))] mc3 mk4 S (k_116_23 E x0 x1 (mr - mc3) (sr - mk4) Q))) ∧ (¬ x1 ≤ 5 → (1 ≤ 1 ∧ S.K x0 = 13 ∧ 0 ≤ 8 ∧ ∃ mc5 mk6, mc5 ≤ mr ∧ mk6 ≤ sr ∧ E 113 [.inr (.inr (x0))] mc5 mk6 S (k_116_17 E x0 x1 (mr - mc5) (sr - mk6) Q)))))))
set_option maxRecDepth 20000 in
set_option maxHeartbeats 4000000 in
theorem f_116 {sp : ox_E} (hsp : ox_mono sp) {d : Nat} {mr sr : Nat} {x0 : Nat} {x1 : Int32} {S : ox_St} {Q : ox_Q} (h : q_116 (ox_M sp d) x0 x1 S mr sr Q) : ox_M sp (d + 1) 116 [.inr (.inr (x0)), .inl (x1)] mr sr S Q := Or.inr ⟨Nat.le_of_ble_eq_true rfl, ox_C_fold (ox_M_mono hsp d) h⟩
/-! OpcodeFrames.single(I)LOpcodeFrames$Value; -/
def k_117_19 (E : ox_E) (x0 : Nat) (x1 : Int32) (y0 : Nat) (mr sr : Nat) (Q : ox_Q) : ox_Q := fun r_ T_ => ox_C E (ox_mi 117).2.2.2.1 (ox_mc 117) (ox_cut 117) Q 19 [some (.inr (.inr (x0))), some (.inl (x1))] (r_.toList ++ [.inr (.inr (y0))]) T_ mr sr
set_option maxRecDepth 20000 in
def q_117_19 (E : ox_E) (x0 : Nat) (x1 : Int32) (y0 : Nat) (S : ox_St) (mr sr : Nat) (Q : ox_Q) : Prop :=
  (ox_isR (ox_mi 117).2.2.2.1 = true ∧ Q (some (.inr (.inr y0))) S)
set_option maxRecDepth 20000 in
set_option maxHeartbeats 4000000 in
theorem f_117_19 {E : ox_E} (hE : ox_mono E) {mr sr : Nat} {x0 : Nat} {x1 : Int32} {y0 : Nat} {S : ox_St} {Q : ox_Q} (h : q_117_19 E x0 x1 y0 S mr sr Q) : k_117_19 E x0 x1 y0 mr sr Q none S := ox_C_fold hE h
set_option maxRecDepth 20000 in
def q_117 (E : ox_E) (x0 : Nat) (x1 : Int32) (S : ox_St) (mr sr : Nat) (Q : ox_Q) : Prop :=
  (ox_has (S.K x0) 62 = true ∧ (ox_has (S.K x0) 62 = true ∧ (let S1 := S.sI 62 x0 ((S.I 62 x0) + 1)
  (1 ≤ mr ∧ 2 ≤ sr ∧ (let S2 := S1.newO 11
  (3 ≤ 4 ∧ S1.n ≠ 0 ∧ 1 ≤ 8 ∧ ∃ mc3 mk4, mc3 ≤ (mr - 1) ∧ mk4 ≤ (sr - 2) ∧ E 89 [.inr (.inr (S1.n)), .inl (x1), .inl (0)] mc3 mk4 S2 (k_117_19 E x0 x1 S1.n ((mr - 1) - mc3) ((sr - 2) - mk4) Q)))))))
set_option maxRecDepth 20000 in
set_option maxHeartbeats 4000000 in
theorem f_117 {sp : ox_E} (hsp : ox_mono sp) {d : Nat} {mr sr : Nat} {x0 : Nat} {x1 : Int32} {S : ox_St} {Q : ox_Q} (h : q_117 (ox_M sp d) x0 x1 S mr sr Q) : ox_M sp (d + 1) 117 [.inr (.inr (x0)), .inl (x1)] mr sr S Q := Or.inr ⟨Nat.le_of_ble_eq_true rfl, ox_C_fold (ox_M_mono hsp d) h⟩
/-! OpcodeFrames.fourBytes()I -/
def c_118_14 (E : ox_E) (x0 : Nat) (x1 : Int32) (x2 : Int32) (S : ox_St) (mr sr : Nat) (Q : ox_Q) : Prop := ox_C E (ox_mi 118).2.2.2.1 (ox_mc 118) (ox_cut 118) Q 14 [some (.inr (.inr (x0))), some (.inl (x1)), some (.inl (x2))] [] S mr sr
def k_118_28 (E : ox_E) (x0 : Nat) (x1 : Int32) (x2 : Int32) (y1 : Int32) (mr sr : Nat) (Q : ox_Q) : ox_Q := fun r_ T_ => ox_C E (ox_mi 118).2.2.2.1 (ox_mc 118) (ox_cut 118) Q 28 [some (.inr (.inr (x0))), some (.inl (x1)), some (.inl (x2))] (r_.toList ++ [.inl (y1)]) T_ mr sr
set_option maxRecDepth 20000 in
def q_118_28 (E : ox_E) (x0 : Nat) (x1 : Int32) (x2 : Int32) (y0 : Int32) (y1 : Int32) (S : ox_St) (mr sr : Nat) (Q : ox_Q) : Prop :=
  (let w1 : Int32 := y1 ||| (y0 <<< ((8 * x2) &&& 31))
  c_118_14 E x0 w1 (x2 + 1) S mr sr Q)
set_option maxRecDepth 20000 in
set_option maxHeartbeats 4000000 in
theorem f_118_28 {E : ox_E} (hE : ox_mono E) {mr sr : Nat} {x0 : Nat} {x1 : Int32} {x2 : Int32} {y0 : Int32} {y1 : Int32} {S : ox_St} {Q : ox_Q} (h : q_118_28 E x0 x1 x2 y0 y1 S mr sr Q) : k_118_28 E x0 x1 x2 y1 mr sr Q (some (.inl (y0))) S := ox_C_fold hE h
set_option maxRecDepth 20000 in
def q_118_14 (E : ox_E) (x0 : Nat) (x1 : Int32) (x2 : Int32) (S : ox_St) (mr sr : Nat) (Q : ox_Q) : Prop :=
  (((4 : Int32) ≤ x2 → (True ∧ Q (some (.inl x1)) S)) ∧ (¬ (4 : Int32) ≤ x2 → (3 ≤ 4 ∧ S.K x0 = 13 ∧ 1 ≤ 8 ∧ ∃ mc1 mk2, mc1 ≤ mr ∧ mk2 ≤ sr ∧ E 115 [.inr (.inr (x0)), .inl (0), .inl (255)] mc1 mk2 S (k_118_28 E x0 x1 x2 x1 (mr - mc1) (sr - mk2) Q))))
set_option maxRecDepth 20000 in
set_option maxHeartbeats 4000000 in
theorem f_118_14 {E : ox_E} (hE : ox_mono E) {mr sr : Nat} {x0 : Nat} {x1 : Int32} {x2 : Int32} {S : ox_St} {Q : ox_Q} (h : q_118_14 E x0 x1 x2 S mr sr Q) : c_118_14 E x0 x1 x2 S mr sr Q := ox_C_fold hE h
set_option maxRecDepth 20000 in
def q_118 (E : ox_E) (x0 : Nat) (S : ox_St) (mr sr : Nat) (Q : ox_Q) : Prop :=
  (ox_has (S.K x0) 62 = true ∧ (ox_has (S.K x0) 62 = true ∧ (let S1 := S.sI 62 x0 ((S.I 62 x0) + 1)
  c_118_14 E x0 0 0 S1 mr sr Q)))
set_option maxRecDepth 20000 in
set_option maxHeartbeats 4000000 in
theorem f_118 {sp : ox_E} (hsp : ox_mono sp) {d : Nat} {mr sr : Nat} {x0 : Nat} {S : ox_St} {Q : ox_Q} (h : q_118 (ox_M sp d) x0 S mr sr Q) : ox_M sp (d + 1) 118 [.inr (.inr (x0))] mr sr S Q := Or.inr ⟨Nat.le_of_ble_eq_true rfl, ox_C_fold (ox_M_mono hsp d) h⟩
/-! OpcodeFrames.longNumber()LOpcodeFrames$Value; -/
def k_119_14 (E : ox_E) (x0 : Nat) (mr sr : Nat) (Q : ox_Q) : ox_Q := fun r_ T_ => ox_C E (ox_mi 119).2.2.2.1 (ox_mc 119) (ox_cut 119) Q 14 [some (.inr (.inr (x0))), none, none, none, none, none, none] (r_.toList ++ []) T_ mr sr
def c_119_29 (E : ox_E) (x0 : Nat) (x1 : Int32) (x2 : Nat) (x3 : Int32) (S : ox_St) (mr sr : Nat) (Q : ox_Q) : Prop := ox_C E (ox_mi 119).2.2.2.1 (ox_mc 119) (ox_cut 119) Q 29 [some (.inr (.inr (x0))), some (.inl (x1)), some (.inr (.inr (x2))), some (.inl (x3)), none, none, none] [] S mr sr
def k_119_51 (E : ox_E) (x0 : Nat) (x1 : Int32) (x2 : Nat) (x3 : Int32) (mr sr : Nat) (Q : ox_Q) : ox_Q := fun r_ T_ => ox_C E (ox_mi 119).2.2.2.1 (ox_mc 119) (ox_cut 119) Q 51 [some (.inr (.inr (x0))), some (.inl (x1)), some (.inr (.inr (x2))), some (.inl (x3)), none, none, none] (r_.toList ++ []) T_ mr sr
def k_119_89 (E : ox_E) (x0 : Nat) (x1 : Int32) (x2 : Nat) (x3 : Int32) (x4 : Int32) (x5 : Int32) (mr sr : Nat) (Q : ox_Q) : ox_Q := fun r_ T_ => ox_C E (ox_mi 119).2.2.2.1 (ox_mc 119) (ox_cut 119) Q 89 [some (.inr (.inr (x0))), some (.inl (x1)), some (.inr (.inr (x2))), some (.inl (x3)), some (.inl (x4)), some (.inl (x5)), none] (r_.toList ++ []) T_ mr sr
def k_119_125 (E : ox_E) (x0 : Nat) (x1 : Int32) (x2 : Nat) (x3 : Int32) (y0 : Nat) (mr sr : Nat) (Q : ox_Q) : ox_Q := fun r_ T_ => ox_C E (ox_mi 119).2.2.2.1 (ox_mc 119) (ox_cut 119) Q 125 [some (.inr (.inr (x0))), some (.inl (x1)), some (.inr (.inr (x2))), some (.inl (x3)), none, none, none] (r_.toList ++ [.inr (.inr (y0))]) T_ mr sr
set_option maxRecDepth 20000 in
def q_119_125 (E : ox_E) (x0 : Nat) (x1 : Int32) (x2 : Nat) (x3 : Int32) (y0 : Nat) (S : ox_St) (mr sr : Nat) (Q : ox_Q) : Prop :=
  (ox_isR (ox_mi 119).2.2.2.1 = true ∧ Q (some (.inr (.inr y0))) S)
set_option maxRecDepth 20000 in
set_option maxHeartbeats 4000000 in
theorem f_119_125 {E : ox_E} (hE : ox_mono E) {mr sr : Nat} {x0 : Nat} {x1 : Int32} {x2 : Nat} {x3 : Int32} {y0 : Nat} {S : ox_St} {Q : ox_Q} (h : q_119_125 E x0 x1 x2 x3 y0 S mr sr Q) : k_119_125 E x0 x1 x2 x3 y0 mr sr Q none S := ox_C_fold hE h
set_option maxRecDepth 20000 in
def q_119_89 (E : ox_E) (x0 : Nat) (x1 : Int32) (x2 : Nat) (x3 : Int32) (x4 : Int32) (x5 : Int32) (y0 : Int32) (S : ox_St) (mr sr : Nat) (Q : ox_Q) : Prop :=
  (S.K x2 = 15 ∧ vp_in x3 (S.len x2) ∧ (let S1 := S.wI x2 (Int32.toNatClampNeg x3) ((y0 <<< (8 &&& 31)) ||| x4)
  c_119_29 E x0 x1 x2 (x3 + 1) S1 mr sr Q))
set_option maxRecDepth 20000 in
set_option maxHeartbeats 4000000 in
theorem f_119_89 {E : ox_E} (hE : ox_mono E) {mr sr : Nat} {x0 : Nat} {x1 : Int32} {x2 : Nat} {x3 : Int32} {x4 : Int32} {x5 : Int32} {y0 : Int32} {S : ox_St} {Q : ox_Q} (h : q_119_89 E x0 x1 x2 x3 x4 x5 y0 S mr sr Q) : k_119_89 E x0 x1 x2 x3 x4 x5 mr sr Q (some (.inl (y0))) S := ox_C_fold hE h
set_option maxRecDepth 20000 in
def q_119_51 (E : ox_E) (x0 : Nat) (x1 : Int32) (x2 : Nat) (x3 : Int32) (y0 : Int32) (S : ox_St) (mr sr : Nat) (Q : ox_Q) : Prop :=
  (ox_rdL (S.K x2) = true ∧ ((¬ x3 = ((Int32.ofNat (S.len x2)) - 1) → (((0 : Int32) = 0 → (3 ≤ 3 ∧ S.K x0 = 13 ∧ 0 ≤ 8 ∧ ∃ mc1 mk2, mc1 ≤ mr ∧ mk2 ≤ sr ∧ E 115 [.inr (.inr (x0)), .inl (0), .inl (127)] mc1 mk2 S (k_119_89 E x0 x1 x2 x3 y0 0 (mr - mc1) (sr - mk2) Q))) ∧ (¬ (0 : Int32) = 0 → ((¬ y0 = 0 → (3 ≤ 3 ∧ S.K x0 = 13 ∧ 0 ≤ 8 ∧ ∃ mc3 mk4, mc3 ≤ mr ∧ mk4 ≤ sr ∧ E 115 [.inr (.inr (x0)), .inl (0), .inl (127)] mc3 mk4 S (k_119_89 E x0 x1 x2 x3 y0 0 (mr - mc3) (sr - mk4) Q))) ∧ (y0 = 0 → (3 ≤ 3 ∧ S.K x0 = 13 ∧ 0 ≤ 8 ∧ ∃ mc5 mk6, mc5 ≤ mr ∧ mk6 ≤ sr ∧ E 115 [.inr (.inr (x0)), .inl (1), .inl (127)] mc5 mk6 S (k_119_89 E x0 x1 x2 x3 y0 0 (mr - mc5) (sr - mk6) Q))))))) ∧ (x3 = ((Int32.ofNat (S.len x2)) - 1) → (((1 : Int32) = 0 → (3 ≤ 3 ∧ S.K x0 = 13 ∧ 0 ≤ 8 ∧ ∃ mc7 mk8, mc7 ≤ mr ∧ mk8 ≤ sr ∧ E 115 [.inr (.inr (x0)), .inl (0), .inl (127)] mc7 mk8 S (k_119_89 E x0 x1 x2 x3 y0 1 (mr - mc7) (sr - mk8) Q))) ∧ (¬ (1 : Int32) = 0 → ((¬ y0 = 0 → (3 ≤ 3 ∧ S.K x0 = 13 ∧ 0 ≤ 8 ∧ ∃ mc9 mk10, mc9 ≤ mr ∧ mk10 ≤ sr ∧ E 115 [.inr (.inr (x0)), .inl (0), .inl (127)] mc9 mk10 S (k_119_89 E x0 x1 x2 x3 y0 1 (mr - mc9) (sr - mk10) Q))) ∧ (y0 = 0 → (3 ≤ 3 ∧ S.K x0 = 13 ∧ 0 ≤ 8 ∧ ∃ mc11 mk12, mc11 ≤ mr ∧ mk12 ≤ sr ∧ E 115 [.inr (.inr (x0)), .inl (1), .inl (127)] mc11 mk12 S (k_119_89 E x0 x1 x2 x3 y0 1 (mr - mc11) (sr - mk12) Q)))))))))
set_option maxRecDepth 20000 in
set_option maxHeartbeats 4000000 in
theorem f_119_51 {E : ox_E} (hE : ox_mono E) {mr sr : Nat} {x0 : Nat} {x1 : Int32} {x2 : Nat} {x3 : Int32} {y0 : Int32} {S : ox_St} {Q : ox_Q} (h : q_119_51 E x0 x1 x2 x3 y0 S mr sr Q) : k_119_51 E x0 x1 x2 x3 mr sr Q (some (.inl (y0))) S := ox_C_fold hE h
set_option maxRecDepth 20000 in
def q_119_29 (E : ox_E) (x0 : Nat) (x1 : Int32) (x2 : Nat) (x3 : Int32) (S : ox_St) (mr sr : Nat) (Q : ox_Q) : Prop :=
  (ox_rdL (S.K x2) = true ∧ (((Int32.ofNat (S.len x2)) ≤ x3 → (1 ≤ mr ∧ 4 ≤ sr ∧ (let S1 := S.newO 8
  (((0 : Int32) ≤ x1 → (3 ≤ 4 ∧ S.n ≠ 0 ∧ 1 ≤ 8 ∧ ∃ mc2 mk3, mc2 ≤ (mr - 1) ∧ mk3 ≤ (sr - 4) ∧ E 78 [.inr (.inr (S.n)), .inl (0), .inr (.inr (x2))] mc2 mk3 S1 (k_119_125 E x0 x1 x2 x3 S.n ((mr - 1) - mc2) ((sr - 4) - mk3) Q))) ∧ (¬ (0 : Int32) ≤ x1 → (3 ≤ 4 ∧ S.n ≠ 0 ∧ 1 ≤ 8 ∧ ∃ mc4 mk5, mc4 ≤ (mr - 1) ∧ mk5 ≤ (sr - 4) ∧ E 78 [.inr (.inr (S.n)), .inl (1), .inr (.inr (x2))] mc4 mk5 S1 (k_119_125 E x0 x1 x2 x3 S.n ((mr - 1) - mc4) ((sr - 4) - mk5) Q))))))) ∧ (¬ (Int32.ofNat (S.len x2)) ≤ x3 → (ox_has (S.K x0) 63 = true ∧ ((¬ (S.I 63 x0) = (-1) → (1 ≤ mr ∧ 4 ≤ sr ∧ (let S6 := S.newO 8
  (((0 : Int32) ≤ x1 → (3 ≤ 4 ∧ S.n ≠ 0 ∧ 1 ≤ 8 ∧ ∃ mc7 mk8, mc7 ≤ (mr - 1) ∧ mk8 ≤ (sr - 4) ∧ E 78 [.inr (.inr (S.n)), .inl (0), .inr (.inr (x2))] mc7 mk8 S6 (k_119_125 E x0 x1 x2 x3 S.n ((mr - 1) - mc7) ((sr - 4) - mk8) Q))) ∧ (¬ (0 : Int32) ≤ x1 → (3 ≤ 4 ∧ S.n ≠ 0 ∧ 1 ≤ 8 ∧ ∃ mc9 mk10, mc9 ≤ (mr - 1) ∧ mk10 ≤ (sr - 4) ∧ E 78 [.inr (.inr (S.n)), .inl (1), .inr (.inr (x2))] mc9 mk10 S6 (k_119_125 E x0 x1 x2 x3 S.n ((mr - 1) - mc9) ((sr - 4) - mk10) Q))))))) ∧ ((S.I 63 x0) = (-1) → (3 ≤ 3 ∧ S.K x0 = 13 ∧ 0 ≤ 8 ∧ ∃ mc11 mk12, mc11 ≤ mr ∧ mk12 ≤ sr ∧ E 115 [.inr (.inr (x0)), .inl (0), .inl (255)] mc11 mk12 S (k_119_51 E x0 x1 x2 x3 (mr - mc11) (sr - mk12) Q))))))))
set_option maxRecDepth 20000 in
set_option maxHeartbeats 4000000 in
theorem f_119_29 {E : ox_E} (hE : ox_mono E) {mr sr : Nat} {x0 : Nat} {x1 : Int32} {x2 : Nat} {x3 : Int32} {S : ox_St} {Q : ox_Q} (h : q_119_29 E x0 x1 x2 x3 S mr sr Q) : c_119_29 E x0 x1 x2 x3 S mr sr Q := ox_C_fold hE h
set_option maxRecDepth 20000 in
def q_119_14 (E : ox_E) (x0 : Nat) (y0 : Int32) (S : ox_St) (mr sr : Nat) (Q : ox_Q) : Prop :=
  (0 ≤ 8 ∧ (0 ≤ 8 ∧ (¬ (if (16 : Int32) < (if 0 ≤ y0 then y0 else 0 - y0) then 16 else (if 0 ≤ y0 then y0 else 0 - y0)) < 0 ∧ (Int32.toNatClampNeg (if (16 : Int32) < (if 0 ≤ y0 then y0 else 0 - y0) then 16 else (if 0 ≤ y0 then y0 else 0 - y0))) ≤ 67108864 ∧ 1 ≤ mr ∧ (Int32.toNatClampNeg (if (16 : Int32) < (if 0 ≤ y0 then y0 else 0 - y0) then 16 else (if 0 ≤ y0 then y0 else 0 - y0))) ≤ sr ∧ (let S1 := S.newA 15 (Int32.toNatClampNeg (if (16 : Int32) < (if 0 ≤ y0 then y0 else 0 - y0) then 16 else (if 0 ≤ y0 then y0 else 0 - y0)))
  c_119_29 E x0 y0 S.n 0 S1 (mr - 1) (sr - (Int32.toNatClampNeg (if (16 : Int32) < (if 0 ≤ y0 then y0 else 0 - y0) then 16 else (if 0 ≤ y0 then y0 else 0 - y0)))) Q))))
set_option maxRecDepth 20000 in
set_option maxHeartbeats 4000000 in
theorem f_119_14 {E : ox_E} (hE : ox_mono E) {mr sr : Nat} {x0 : Nat} {y0 : Int32} {S : ox_St} {Q : ox_Q} (h : q_119_14 E x0 y0 S mr sr Q) : k_119_14 E x0 mr sr Q (some (.inl (y0))) S := ox_C_fold hE h
set_option maxRecDepth 20000 in
def q_119 (E : ox_E) (x0 : Nat) (S : ox_St) (mr sr : Nat) (Q : ox_Q) : Prop :=
  (ox_has (S.K x0) 62 = true ∧ (ox_has (S.K x0) 62 = true ∧ (let S1 := S.sI 62 x0 ((S.I 62 x0) + 1)
  (1 ≤ 1 ∧ S1.K x0 = 13 ∧ 0 ≤ 8 ∧ ∃ mc2 mk3, mc2 ≤ mr ∧ mk3 ≤ sr ∧ E 120 [.inr (.inr (x0))] mc2 mk3 S1 (k_119_14 E x0 (mr - mc2) (sr - mk3) Q)))))
set_option maxRecDepth 20000 in
set_option maxHeartbeats 4000000 in
theorem f_119 {sp : ox_E} (hsp : ox_mono sp) {d : Nat} {mr sr : Nat} {x0 : Nat} {S : ox_St} {Q : ox_Q} (h : q_119 (ox_M sp d) x0 S mr sr Q) : ox_M sp (d + 1) 119 [.inr (.inr (x0))] mr sr S Q := Or.inr ⟨Nat.le_of_ble_eq_true rfl, ox_C_fold (ox_M_mono hsp d) h⟩
/-! OpcodeFrames.digitCount()I -/
def k_120_4 (E : ox_E) (x0 : Nat) (mr sr : Nat) (Q : ox_Q) : ox_Q := fun r_ T_ => ox_C E (ox_mi 120).2.2.2.1 (ox_mc 120) (ox_cut 120) Q 4 [some (.inr (.inr (x0))), none, none, none] (r_.toList ++ []) T_ mr sr
def c_120_17 (E : ox_E) (x0 : Nat) (x1 : Int32) (y0 : Int32) (S : ox_St) (mr sr : Nat) (Q : ox_Q) : Prop := ox_C E (ox_mi 120).2.2.2.1 (ox_mc 120) (ox_cut 120) Q 17 [some (.inr (.inr (x0))), some (.inl (x1)), none, none] [.inl (y0)] S mr sr
def k_120_32 (E : ox_E) (x0 : Nat) (x1 : Int32) (x2 : Int32) (mr sr : Nat) (Q : ox_Q) : ox_Q := fun r_ T_ => ox_C E (ox_mi 120).2.2.2.1 (ox_mc 120) (ox_cut 120) Q 32 [some (.inr (.inr (x0))), some (.inl (x1)), some (.inl (x2)), none] (r_.toList ++ []) T_ mr sr
def c_120_34 (E : ox_E) (x0 : Nat) (x1 : Int32) (x2 : Int32) (S : ox_St) (mr sr : Nat) (Q : ox_Q) : Prop := ox_C E (ox_mi 120).2.2.2.1 (ox_mc 120) (ox_cut 120) Q 34 [some (.inr (.inr (x0))), some (.inl (x1)), some (.inl (x2)), none] [] S mr sr
def k_120_42 (E : ox_E) (x0 : Nat) (x1 : Int32) (x2 : Int32) (mr sr : Nat) (Q : ox_Q) : ox_Q := fun r_ T_ => ox_C E (ox_mi 120).2.2.2.1 (ox_mc 120) (ox_cut 120) Q 42 [some (.inr (.inr (x0))), some (.inl (x1)), some (.inl (x2)), none] (r_.toList ++ []) T_ mr sr
def c_120_54 (E : ox_E) (x0 : Nat) (x1 : Int32) (x2 : Int32) (y0 : Int32) (S : ox_St) (mr sr : Nat) (Q : ox_Q) : Prop := ox_C E (ox_mi 120).2.2.2.1 (ox_mc 120) (ox_cut 120) Q 54 [some (.inr (.inr (x0))), some (.inl (x1)), some (.inl (x2)), none] [.inl (y0)] S mr sr
def k_120_61 (E : ox_E) (x0 : Nat) (x1 : Int32) (x2 : Int32) (x3 : Int32) (mr sr : Nat) (Q : ox_Q) : ox_Q := fun r_ T_ => ox_C E (ox_mi 120).2.2.2.1 (ox_mc 120) (ox_cut 120) Q 61 [some (.inr (.inr (x0))), some (.inl (x1)), some (.inl (x2)), some (.inl (x3))] (r_.toList ++ []) T_ mr sr
def c_120_87 (E : ox_E) (x0 : Nat) (x1 : Int32) (x2 : Int32) (x3 : Int32) (y0 : Int32) (S : ox_St) (mr sr : Nat) (Q : ox_Q) : Prop := ox_C E (ox_mi 120).2.2.2.1 (ox_mc 120) (ox_cut 120) Q 87 [some (.inr (.inr (x0))), some (.inl (x1)), some (.inl (x2)), some (.inl (x3))] [.inl (y0)] S mr sr
set_option maxRecDepth 20000 in
def q_120_87 (E : ox_E) (x0 : Nat) (x1 : Int32) (x2 : Int32) (x3 : Int32) (y0 : Int32) (S : ox_St) (mr sr : Nat) (Q : ox_Q) : Prop :=
  (True ∧ Q (some (.inl y0)) S)
set_option maxRecDepth 20000 in
set_option maxHeartbeats 4000000 in
theorem f_120_87 {E : ox_E} (hE : ox_mono E) {mr sr : Nat} {x0 : Nat} {x1 : Int32} {x2 : Int32} {x3 : Int32} {y0 : Int32} {S : ox_St} {Q : ox_Q} (h : q_120_87 E x0 x1 x2 x3 y0 S mr sr Q) : c_120_87 E x0 x1 x2 x3 y0 S mr sr Q := ox_C_fold hE h
set_option maxRecDepth 20000 in
def q_120_61 (E : ox_E) (x0 : Nat) (x1 : Int32) (x2 : Int32) (x3 : Int32) (y0 : Int32) (S : ox_St) (mr sr : Nat) (Q : ox_Q) : Prop :=
  (ox_has (S.K x0) 63 = true ∧ (((S.I 63 x0) = (-1) → ((x2 = 0 → c_120_87 E x0 x1 x2 x3 x1 S mr sr Q) ∧ (¬ x2 = 0 → c_120_87 E x0 x1 x2 x3 (x1 - 256) S mr sr Q))) ∧ (¬ (S.I 63 x0) = (-1) → c_120_87 E x0 x1 x2 x3 0 S mr sr Q)))
set_option maxRecDepth 20000 in
set_option maxHeartbeats 4000000 in
theorem f_120_61 {E : ox_E} (hE : ox_mono E) {mr sr : Nat} {x0 : Nat} {x1 : Int32} {x2 : Int32} {x3 : Int32} {y0 : Int32} {S : ox_St} {Q : ox_Q} (h : q_120_61 E x0 x1 x2 x3 y0 S mr sr Q) : k_120_61 E x0 x1 x2 x3 mr sr Q (some (.inl (y0))) S := ox_C_fold hE h
set_option maxRecDepth 20000 in
def q_120_54 (E : ox_E) (x0 : Nat) (x1 : Int32) (x2 : Int32) (y0 : Int32) (S : ox_St) (mr sr : Nat) (Q : ox_Q) : Prop :=
  (3 ≤ 3 ∧ S.K x0 = 13 ∧ 0 ≤ 8 ∧ ∃ mc1 mk2, mc1 ≤ mr ∧ mk2 ≤ sr ∧ E 115 [.inr (.inr (x0)), .inl (y0), .inl (y0)] mc1 mk2 S (k_120_61 E x0 x1 x2 y0 (mr - mc1) (sr - mk2) Q))
set_option maxRecDepth 20000 in
set_option maxHeartbeats 4000000 in
theorem f_120_54 {E : ox_E} (hE : ox_mono E) {mr sr : Nat} {x0 : Nat} {x1 : Int32} {x2 : Int32} {y0 : Int32} {S : ox_St} {Q : ox_Q} (h : q_120_54 E x0 x1 x2 y0 S mr sr Q) : c_120_54 E x0 x1 x2 y0 S mr sr Q := ox_C_fold hE h
set_option maxRecDepth 20000 in
def q_120_42 (E : ox_E) (x0 : Nat) (x1 : Int32) (x2 : Int32) (y0 : Int32) (S : ox_St) (mr sr : Nat) (Q : ox_Q) : Prop :=
  ((x2 = 0 → c_120_54 E x0 x1 x2 0 S mr sr Q) ∧ (¬ x2 = 0 → c_120_54 E x0 x1 x2 255 S mr sr Q))
set_option maxRecDepth 20000 in
set_option maxHeartbeats 4000000 in
theorem f_120_42 {E : ox_E} (hE : ox_mono E) {mr sr : Nat} {x0 : Nat} {x1 : Int32} {x2 : Int32} {y0 : Int32} {S : ox_St} {Q : ox_Q} (h : q_120_42 E x0 x1 x2 y0 S mr sr Q) : k_120_42 E x0 x1 x2 mr sr Q (some (.inl (y0))) S := ox_C_fold hE h
set_option maxRecDepth 20000 in
def q_120_34 (E : ox_E) (x0 : Nat) (x1 : Int32) (x2 : Int32) (S : ox_St) (mr sr : Nat) (Q : ox_Q) : Prop :=
  (3 ≤ 3 ∧ S.K x0 = 13 ∧ 0 ≤ 8 ∧ ∃ mc1 mk2, mc1 ≤ mr ∧ mk2 ≤ sr ∧ E 115 [.inr (.inr (x0)), .inl (0), .inl (255)] mc1 mk2 S (k_120_42 E x0 x1 x2 (mr - mc1) (sr - mk2) Q))
set_option maxRecDepth 20000 in
set_option maxHeartbeats 4000000 in
theorem f_120_34 {E : ox_E} (hE : ox_mono E) {mr sr : Nat} {x0 : Nat} {x1 : Int32} {x2 : Int32} {S : ox_St} {Q : ox_Q} (h : q_120_34 E x0 x1 x2 S mr sr Q) : c_120_34 E x0 x1 x2 S mr sr Q := ox_C_fold hE h
set_option maxRecDepth 20000 in
def q_120_32 (E : ox_E) (x0 : Nat) (x1 : Int32) (x2 : Int32) (S : ox_St) (mr sr : Nat) (Q : ox_Q) : Prop :=
  (True ∧ Q (some (.inl (0 : Int32))) S)
set_option maxRecDepth 20000 in
set_option maxHeartbeats 4000000 in
theorem f_120_32 {E : ox_E} (hE : ox_mono E) {mr sr : Nat} {x0 : Nat} {x1 : Int32} {x2 : Int32} {S : ox_St} {Q : ox_Q} (h : q_120_32 E x0 x1 x2 S mr sr Q) : k_120_32 E x0 x1 x2 mr sr Q none S := ox_C_fold hE h
set_option maxRecDepth 20000 in
def q_120_17 (E : ox_E) (x0 : Nat) (x1 : Int32) (y0 : Int32) (S : ox_St) (mr sr : Nat) (Q : ox_Q) : Prop :=
  ((x1 ≤ 16 → c_120_34 E x0 x1 y0 S mr sr Q) ∧ (¬ x1 ≤ 16 → ((¬ y0 = 0 → c_120_34 E x0 x1 y0 S mr sr Q) ∧ (y0 = 0 → (1 ≤ 1 ∧ S.K x0 = 13 ∧ 0 ≤ 8 ∧ ∃ mc1 mk2, mc1 ≤ mr ∧ mk2 ≤ sr ∧ E 113 [.inr (.inr (x0))] mc1 mk2 S (k_120_32 E x0 x1 y0 (mr - mc1) (sr - mk2) Q))))))
set_option maxRecDepth 20000 in
set_option maxHeartbeats 4000000 in
theorem f_120_17 {E : ox_E} (hE : ox_mono E) {mr sr : Nat} {x0 : Nat} {x1 : Int32} {y0 : Int32} {S : ox_St} {Q : ox_Q} (h : q_120_17 E x0 x1 y0 S mr sr Q) : c_120_17 E x0 x1 y0 S mr sr Q := ox_C_fold hE h
set_option maxRecDepth 20000 in
def q_120_4 (E : ox_E) (x0 : Nat) (y0 : Int32) (S : ox_St) (mr sr : Nat) (Q : ox_Q) : Prop :=
  ((y0 < 240 → c_120_17 E x0 y0 0 S mr sr Q) ∧ (¬ y0 < 240 → c_120_17 E x0 y0 1 S mr sr Q))
set_option maxRecDepth 20000 in
set_option maxHeartbeats 4000000 in
theorem f_120_4 {E : ox_E} (hE : ox_mono E) {mr sr : Nat} {x0 : Nat} {y0 : Int32} {S : ox_St} {Q : ox_Q} (h : q_120_4 E x0 y0 S mr sr Q) : k_120_4 E x0 mr sr Q (some (.inl (y0))) S := ox_C_fold hE h
set_option maxRecDepth 20000 in
def q_120 (E : ox_E) (x0 : Nat) (S : ox_St) (mr sr : Nat) (Q : ox_Q) : Prop :=
  (1 ≤ 1 ∧ S.K x0 = 13 ∧ 0 ≤ 8 ∧ ∃ mc1 mk2, mc1 ≤ mr ∧ mk2 ≤ sr ∧ E 114 [.inr (.inr (x0))] mc1 mk2 S (k_120_4 E x0 (mr - mc1) (sr - mk2) Q))
set_option maxRecDepth 20000 in
set_option maxHeartbeats 4000000 in
theorem f_120 {sp : ox_E} (hsp : ox_mono sp) {d : Nat} {mr sr : Nat} {x0 : Nat} {S : ox_St} {Q : ox_Q} (h : q_120 (ox_M sp d) x0 S mr sr Q) : ox_M sp (d + 1) 120 [.inr (.inr (x0))] mr sr S Q := Or.inr ⟨Nat.le_of_ble_eq_true rfl, ox_C_fold (ox_M_mono hsp d) h⟩
/-! OpcodeFrames.tupleAt(I)LOpcodeFrames$Value; -/
def k_121_22 (E : ox_E) (x0 : Nat) (x1 : Int32) (y1 : Nat) (y2 : Nat) (y3 : Nat) (mr sr : Nat) (Q : ox_Q) : ox_Q := fun r_ T_ => ox_C E (ox_mi 121).2.2.2.1 (ox_mc 121) (ox_cut 121) Q 22 [some (.inr (.inr (x0))), some (.inl (x1))] (r_.toList ++ [.inr (.inr (y1)), .inr (.inr (y2)), .inr (.inr (y3))]) T_ mr sr
def k_121_28 (E : ox_E) (x0 : Nat) (x1 : Int32) (y1 : Nat) (y2 : Nat) (mr sr : Nat) (Q : ox_Q) : ox_Q := fun r_ T_ => ox_C E (ox_mi 121).2.2.2.1 (ox_mc 121) (ox_cut 121) Q 28 [some (.inr (.inr (x0))), some (.inl (x1))] (r_.toList ++ [.inr (.inr (y1)), .inr (.inr (y2))]) T_ mr sr
def k_121_31 (E : ox_E) (x0 : Nat) (x1 : Int32) (y0 : Nat) (mr sr : Nat) (Q : ox_Q) : ox_Q := fun r_ T_ => ox_C E (ox_mi 121).2.2.2.1 (ox_mc 121) (ox_cut 121) Q 31 [some (.inr (.inr (x0))), some (.inl (x1))] (r_.toList ++ [.inr (.inr (y0))]) T_ mr sr
set_option maxRecDepth 20000 in
def q_121_31 (E : ox_E) (x0 : Nat) (x1 : Int32) (y0 : Nat) (S : ox_St) (mr sr : Nat) (Q : ox_Q) : Prop :=
  (ox_isR (ox_mi 121).2.2.2.1 = true ∧ Q (some (.inr (.inr y0))) S)
set_option maxRecDepth 20000 in
set_option maxHeartbeats 4000000 in
theorem f_121_31 {E : ox_E} (hE : ox_mono E) {mr sr : Nat} {x0 : Nat} {x1 : Int32} {y0 : Nat} {S : ox_St} {Q : ox_Q} (h : q_121_31 E x0 x1 y0 S mr sr Q) : k_121_31 E x0 x1 y0 mr sr Q none S := ox_C_fold hE h
set_option maxRecDepth 20000 in
def q_121_28 (E : ox_E) (x0 : Nat) (x1 : Int32) (y0 : Nat) (y1 : Nat) (y2 : Nat) (S : ox_St) (mr sr : Nat) (Q : ox_Q) : Prop :=
  (2 ≤ 3 ∧ y1 ≠ 0 ∧ 1 ≤ 8 ∧ ∃ mc1 mk2, mc1 ≤ mr ∧ mk2 ≤ sr ∧ E 86 [.inr (.inr (y1)), .inr (.inr (y0))] mc1 mk2 S (k_121_31 E x0 x1 y2 (mr - mc1) (sr - mk2) Q))
set_option maxRecDepth 20000 in
set_option maxHeartbeats 4000000 in
theorem f_121_28 {E : ox_E} (hE : ox_mono E) {mr sr : Nat} {x0 : Nat} {x1 : Int32} {y0 : Nat} {y1 : Nat} {y2 : Nat} {S : ox_St} {Q : ox_Q} (h : q_121_28 E x0 x1 y0 y1 y2 S mr sr Q) : k_121_28 E x0 x1 y1 y2 mr sr Q (some (.inr (.inr (y0)))) S := ox_C_fold hE h
set_option maxRecDepth 20000 in
def q_121_22 (E : ox_E) (x0 : Nat) (x1 : Int32) (y0 : Int32) (y1 : Nat) (y2 : Nat) (y3 : Nat) (S : ox_St) (mr sr : Nat) (Q : ox_Q) : Prop :=
  (3 ≤ 5 ∧ S.K y1 = 13 ∧ 2 ≤ 8 ∧ ∃ mc1 mk2, mc1 ≤ mr ∧ mk2 ≤ sr ∧ E 122 [.inr (.inr (y1)), .inl (y0), .inl (x1 + 1)] mc1 mk2 S (k_121_28 E x0 x1 y2 y3 (mr - mc1) (sr - mk2) Q))
set_option maxRecDepth 20000 in
set_option maxHeartbeats 4000000 in
theorem f_121_22 {E : ox_E} (hE : ox_mono E) {mr sr : Nat} {x0 : Nat} {x1 : Int32} {y0 : Int32} {y1 : Nat} {y2 : Nat} {y3 : Nat} {S : ox_St} {Q : ox_Q} (h : q_121_22 E x0 x1 y0 y1 y2 y3 S mr sr Q) : k_121_22 E x0 x1 y1 y2 y3 mr sr Q (some (.inl (y0))) S := ox_C_fold hE h
set_option maxRecDepth 20000 in
def q_121 (E : ox_E) (x0 : Nat) (x1 : Int32) (S : ox_St) (mr sr : Nat) (Q : ox_Q) : Prop :=
  (ox_has (S.K x0) 62 = true ∧ (ox_has (S.K x0) 62 = true ∧ (let S1 := S.sI 62 x0 ((S.I 62 x0) + 1)
  (1 ≤ mr ∧ 4 ≤ sr ∧ (let S2 := S1.newO 10
  (3 ≤ 6 ∧ S2.K x0 = 13 ∧ 3 ≤ 8 ∧ ∃ mc3 mk4, mc3 ≤ (mr - 1) ∧ mk4 ≤ (sr - 4) ∧ E 115 [.inr (.inr (x0)), .inl (0), .inl (12)] mc3 mk4 S2 (k_121_22 E x0 x1 x0 S1.n S1.n ((mr - 1) - mc3) ((sr - 4) - mk4) Q)))))))
set_option maxRecDepth 20000 in
set_option maxHeartbeats 4000000 in
theorem f_121 {sp : ox_E} (hsp : ox_mono sp) {d : Nat} {mr sr : Nat} {x0 : Nat} {x1 : Int32} {S : ox_St} {Q : ox_Q} (h : q_121 (ox_M sp d) x0 x1 S mr sr Q) : ox_M sp (d + 1) 121 [.inr (.inr (x0)), .inl (x1)] mr sr S Q := Or.inr ⟨Nat.le_of_ble_eq_true rfl, ox_C_fold (ox_M_mono hsp d) h⟩
/-! OpcodeFrames.objects(II)[LOpcodeFrames$Value; -/
def c_122_12 (E : ox_E) (x0 : Nat) (x1 : Int32) (x2 : Int32) (x3 : Nat) (x4 : Int32) (S : ox_St) (mr sr : Nat) (Q : ox_Q) : Prop := ox_C E (ox_mi 122).2.2.2.1 (ox_mc 122) (ox_cut 122) Q 12 [some (.inr (.inr (x0))), some (.inl (x1)), some (.inl (x2)), some (.inr (.inr (x3))), some (.inl (x4))] [] S mr sr
def k_122_35 (E : ox_E) (x0 : Nat) (x1 : Int32) (x2 : Int32) (x3 : Nat) (x4 : Int32) (y1 : Int32) (y2 : Nat) (mr sr : Nat) (Q : ox_Q) : ox_Q := fun r_ T_ => ox_C E (ox_mi 122).2.2.2.1 (ox_mc 122) (ox_cut 122) Q 35 [some (.inr (.inr (x0))), some (.inl (x1)), some (.inl (x2)), some (.inr (.inr (x3))), some (.inl (x4))] (r_.toList ++ [.inl (y1), .inr (.inr (y2))]) T_ mr sr
set_option maxRecDepth 20000 in
def q_122_35 (E : ox_E) (x0 : Nat) (x1 : Int32) (x2 : Int32) (x3 : Nat) (x4 : Int32) (y0 : Nat) (y1 : Int32) (y2 : Nat) (S : ox_St) (mr sr : Nat) (Q : ox_Q) : Prop :=
  (ox_rdR (S.K y2) = true ∧ vp_in y1 (S.len y2) ∧ (y0 = 0 ∨ ox_asg (S.K y2) (S.K y0) = true) ∧ (let S1 := S.wR y2 (Int32.toNatClampNeg y1) y0
  c_122_12 E x0 x1 x2 x3 (x4 + 1) S1 mr sr Q))
set_option maxRecDepth 20000 in
set_option maxHeartbeats 4000000 in
theorem f_122_35 {E : ox_E} (hE : ox_mono E) {mr sr : Nat} {x0 : Nat} {x1 : Int32} {x2 : Int32} {x3 : Nat} {x4 : Int32} {y0 : Nat} {y1 : Int32} {y2 : Nat} {S : ox_St} {Q : ox_Q} (h : q_122_35 E x0 x1 x2 x3 x4 y0 y1 y2 S mr sr Q) : k_122_35 E x0 x1 x2 x3 x4 y1 y2 mr sr Q (some (.inr (.inr (y0)))) S := ox_C_fold hE h
set_option maxRecDepth 20000 in
def q_122_12 (E : ox_E) (x0 : Nat) (x1 : Int32) (x2 : Int32) (x3 : Nat) (x4 : Int32) (S : ox_St) (mr sr : Nat) (Q : ox_Q) : Prop :=
  (ox_rdL (S.K x3) = true ∧ (((Int32.ofNat (S.len x3)) ≤ x4 → (ox_isR (ox_mi 122).2.2.2.1 = true ∧ Q (some (.inr (.inr x3))) S)) ∧ (¬ (Int32.ofNat (S.len x3)) ≤ x4 → (ox_has (S.K x0) 63 = true ∧ ((¬ (S.I 63 x0) = (-1) → (ox_isR (ox_mi 122).2.2.2.1 = true ∧ Q (some (.inr (.inr x3))) S)) ∧ ((S.I 63 x0) = (-1) → (2 ≤ 4 ∧ S.K x0 = 13 ∧ 2 ≤ 8 ∧ ∃ mc1 mk2, mc1 ≤ mr ∧ mk2 ≤ sr ∧ E 116 [.inr (.inr (x0)), .inl (x2)] mc1 mk2 S (k_122_35 E x0 x1 x2 x3 x4 x4 x3 (mr - mc1) (sr - mk2) Q))))))))
set_option maxRecDepth 20000 in
set_option maxHeartbeats 4000000 in
theorem f_122_12 {E : ox_E} (hE : ox_mono E) {mr sr : Nat} {x0 : Nat} {x1 : Int32} {x2 : Int32} {x3 : Nat} {x4 : Int32} {S : ox_St} {Q : ox_Q} (h : q_122_12 E x0 x1 x2 x3 x4 S mr sr Q) : c_122_12 E x0 x1 x2 x3 x4 S mr sr Q := ox_C_fold hE h
set_option maxRecDepth 20000 in
def q_122 (E : ox_E) (x0 : Nat) (x1 : Int32) (x2 : Int32) (S : ox_St) (mr sr : Nat) (Q : ox_Q) : Prop :=
  (0 ≤ 8 ∧ (¬ (if x1 < 0 then 0 else x1) < 0 ∧ (Int32.toNatClampNeg (if x1 < 0 then 0 else x1)) ≤ 67108864 ∧ 1 ≤ mr ∧ (Int32.toNatClampNeg (if x1 < 0 then 0 else x1)) ≤ sr ∧ (let S1 := S.newA 19 (Int32.toNatClampNeg (if x1 < 0 then 0 else x1))
  c_122_12 E x0 x1 x2 S.n 0 S1 (mr - 1) (sr - (Int32.toNatClampNeg (if x1 < 0 then 0 else x1))) Q)))
set_option maxRecDepth 20000 in
set_option maxHeartbeats 4000000 in
theorem f_122 {sp : ox_E} (hsp : ox_mono sp) {d : Nat} {mr sr : Nat} {x0 : Nat} {x1 : Int32} {x2 : Int32} {S : ox_St} {Q : ox_Q} (h : q_122 (ox_M sp d) x0 x1 x2 S mr sr Q) : ox_M sp (d + 1) 122 [.inr (.inr (x0)), .inl (x1), .inl (x2)] mr sr S Q := Or.inr ⟨Nat.le_of_ble_eq_true rfl, ox_C_fold (ox_M_mono hsp d) h⟩
/-! OpcodeFrames.codeAt(I)LOpcodeFrames$Code; -/
def k_123_8 (E : ox_E) (x0 : Nat) (x1 : Int32) (mr sr : Nat) (Q : ox_Q) : ox_Q := fun r_ T_ => ox_C E (ox_mi 123).2.2.2.1 (ox_mc 123) (ox_cut 123) Q 8 [some (.inr (.inr (x0))), some (.inl (x1)), none, none, none, none, none, none, none] (r_.toList ++ []) T_ mr sr
def k_123_15 (E : ox_E) (x0 : Nat) (x1 : Int32) (mr sr : Nat) (Q : ox_Q) : ox_Q := fun r_ T_ => ox_C E (ox_mi 123).2.2.2.1 (ox_mc 123) (ox_cut 123) Q 15 [some (.inr (.inr (x0))), some (.inl (x1)), none, none, none, none, none, none, none] (r_.toList ++ []) T_ mr sr
def k_123_27 (E : ox_E) (x0 : Nat) (x1 : Int32) (x2 : Int32) (mr sr : Nat) (Q : ox_Q) : ox_Q := fun r_ T_ => ox_C E (ox_mi 123).2.2.2.1 (ox_mc 123) (ox_cut 123) Q 27 [some (.inr (.inr (x0))), some (.inl (x1)), some (.inl (x2)), none, none, none, none, none, none] (r_.toList ++ []) T_ mr sr
def k_123_35 (E : ox_E) (x0 : Nat) (x1 : Int32) (x2 : Int32) (x3 : Int32) (mr sr : Nat) (Q : ox_Q) : ox_Q := fun r_ T_ => ox_C E (ox_mi 123).2.2.2.1 (ox_mc 123) (ox_cut 123) Q 35 [some (.inr (.inr (x0))), some (.inl (x1)), some (.inl (x2)), some (.inl (x3)), none, none, none, none, none] (r_.toList ++ []) T_ mr sr
def k_123_41 (E : ox_E) (x0 : Nat) (x1 : Int32) (x2 : Int32) (x3 : Int32) (x4 : Int32) (mr sr : Nat) (Q : ox_Q) : ox_Q := fun r_ T_ => ox_C E (ox_mi 123).2.2.2.1 (ox_mc 123) (ox_cut 123) Q 41 [some (.inr (.inr (x0))), some (.inl (x1)), some (.inl (x2)), some (.inl (x3)), some (.inl (x4)), none, none, none, none] (r_.toList ++ []) T_ mr sr
def k_123_51 (E : ox_E) (x0 : Nat) (x1 : Int32) (x2 : Int32) (x3 : Int32) (x4 : Int32) (x5 : Nat) (y1 : Nat) (mr sr : Nat) (Q : ox_Q) : ox_Q := fun r_ T_ => ox_C E (ox_mi 123).2.2.2.1 (ox_mc 123) (ox_cut 123) Q 51 [some (.inr (.inr (x0))), some (.inl (x1)), some (.inl (x2)), some (.inl (x3)), some (.inl (x4)), some (.inr (.inr (x5))), none, none, none] (r_.toList ++ [.inr (.inr (y1))]) T_ mr sr
def k_123_57 (E : ox_E) (x0 : Nat) (x1 : Int32) (x2 : Int32) (x3 : Int32) (x4 : Int32) (x5 : Nat) (mr sr : Nat) (Q : ox_Q) : ox_Q := fun r_ T_ => ox_C E (ox_mi 123).2.2.2.1 (ox_mc 123) (ox_cut 123) Q 57 [some (.inr (.inr (x0))), some (.inl (x1)), some (.inl (x2)), some (.inl (x3)), some (.inl (x4)), some (.inr (.inr (x5))), none, none, none] (r_.toList ++ []) T_ mr sr
def k_123_67 (E : ox_E) (x0 : Nat) (x1 : Int32) (x2 : Int32) (x3 : Int32) (x4 : Int32) (x5 : Nat) (x6 : Nat) (y1 : Nat) (mr sr : Nat) (Q : ox_Q) : ox_Q := fun r_ T_ => ox_C E (ox_mi 123).2.2.2.1 (ox_mc 123) (ox_cut 123) Q 67 [some (.inr (.inr (x0))), some (.inl (x1)), some (.inl (x2)), some (.inl (x3)), some (.inl (x4)), some (.inr (.inr (x5))), some (.inr (.inr (x6))), none, none] (r_.toList ++ [.inr (.inr (y1))]) T_ mr sr
def k_123_70 (E : ox_E) (x0 : Nat) (x1 : Int32) (x2 : Int32) (x3 : Int32) (x4 : Int32) (x5 : Nat) (x6 : Nat) (mr sr : Nat) (Q : ox_Q) : ox_Q := fun r_ T_ => ox_C E (ox_mi 123).2.2.2.1 (ox_mc 123) (ox_cut 123) Q 70 [some (.inr (.inr (x0))), some (.inl (x1)), some (.inl (x2)), some (.inl (x3)), some (.inl (x4)), some (.inr (.inr (x5))), some (.inr (.inr (x6))), none, none] (r_.toList ++ []) T_ mr sr
def k_123_89 (E : ox_E) (x0 : Nat) (x1 : Int32) (x2 : Int32) (x3 : Int32) (x4 : Int32) (x5 : Nat) (x6 : Nat) (x7 : Nat) (y0 : Nat) (mr sr : Nat) (Q : ox_Q) : ox_Q := fun r_ T_ => ox_C E (ox_mi 123).2.2.2.1 (ox_mc 123) (ox_cut 123) Q 89 [some (.inr (.inr (x0))), some (.inl (x1)), some (.inl (x2)), some (.inl (x3)), some (.inl (x4)), some (.inr (.inr (x5))), some (.inr (.inr (x6))), some (.inr (.inr (x7))), none] (r_.toList ++ [.inr (.inr (y0))]) T_ mr sr
def k_123_108 (E : ox_E) (x0 : Nat) (x1 : Int32) (x2 : Int32) (x3 : Int32) (x4 : Int32) (x5 : Nat) (x6 : Nat) (x7 : Nat) (x8 : Nat) (mr sr : Nat) (Q : ox_Q) : ox_Q := fun r_ T_ => ox_C E (ox_mi 123).2.2.2.1 (ox_mc 123) (ox_cut 123) Q 108 [some (.inr (.inr (x0))), some (.inl (x1)), some (.inl (x2)), some (.inl (x3)), some (.inl (x4)), some (.inr (.inr (x5))), some (.inr (.inr (x6))), some (.inr (.inr (x7))), some (.inr (.inr (x8)))] (r_.toList ++ []) T_ mr sr
set_option maxRecDepth 20000 in
def q_123_108 (E : ox_E) (x0 : Nat) (x1 : Int32) (x2 : Int32) (x3 : Int32) (x4 : Int32) (x5 : Nat) (x6 : Nat) (x7 : Nat) (x8 : Nat) (y0 : Int32) (S : ox_St) (mr sr : Nat) (Q : ox_Q) : Prop :=
  (ox_isR (ox_mi 123).2.2.2.1 = true ∧ Q (some (.inr (.inr x8))) S)
set_option maxRecDepth 20000 in
set_option maxHeartbeats 4000000 in
theorem f_123_108 {E : ox_E} (hE : ox_mono E) {mr sr : Nat} {x0 : Nat} {x1 : Int32} {x2 : Int32} {x3 : Int32} {x4 : Int32} {x5 : Nat} {x6 : Nat} {x7 : Nat} {x8 : Nat} {y0 : Int32} {S : ox_St} {Q : ox_Q} (h : q_123_108 E x0 x1 x2 x3 x4 x5 x6 x7 x8 y0 S mr sr Q) : k_123_108 E x0 x1 x2 x3 x4 x5 x6 x7 x8 mr sr Q (some (.inl (y0))) S := ox_C_fold hE h
set_option maxRecDepth 20000 in
def q_123_89 (E : ox_E) (x0 : Nat) (x1 : Int32) (x2 : Int32) (x3 : Int32) (x4 : Int32) (x5 : Nat) (x6 : Nat) (x7 : Nat) (y0 : Nat) (S : ox_St) (mr sr : Nat) (Q : ox_Q) : Prop :=
  (ox_has (S.K x0) 63 = true ∧ ((¬ (S.I 63 x0) = (-1) → (ox_isR (ox_mi 123).2.2.2.1 = true ∧ Q (some (.inr (.inr y0))) S)) ∧ ((S.I 63 x0) = (-1) → (ox_has (S.K x0) 64 = true ∧ (2 ≤ 2 ∧ S.K (S.R 64 x0) = 1 ∧ 0 ≤ 8 ∧ ∃ mc1 mk2, mc1 ≤ mr ∧ mk2 ≤ sr ∧ E 226 [.inr (.inr (S.R 64 x0)), .inr (.inr (y0))] mc1 mk2 S (k_123_108 E x0 x1 x2 x3 x4 x5 x6 x7 y0 (mr - mc1) (sr - mk2) Q))))))
set_option maxRecDepth 20000 in
set_option maxHeartbeats 4000000 in
theorem f_123_89 {E : ox_E} (hE : ox_mono E) {mr sr : Nat} {x0 : Nat} {x1 : Int32} {x2 : Int32} {x3 : Int32} {x4 : Int32} {x5 : Nat} {x6 : Nat} {x7 : Nat} {y0 : Nat} {S : ox_St} {Q : ox_Q} (h : q_123_89 E x0 x1 x2 x3 x4 x5 x6 x7 y0 S mr sr Q) : k_123_89 E x0 x1 x2 x3 x4 x5 x6 x7 y0 mr sr Q none S := ox_C_fold hE h
set_option maxRecDepth 20000 in
def q_123_70 (E : ox_E) (x0 : Nat) (x1 : Int32) (x2 : Int32) (x3 : Int32) (x4 : Int32) (x5 : Nat) (x6 : Nat) (y0 : Nat) (S : ox_St) (mr sr : Nat) (Q : ox_Q) : Prop :=
  (1 ≤ mr ∧ 7 ≤ sr ∧ (let S1 := S.newO 3
  (7 ≤ 8 ∧ S.n ≠ 0 ∧ 1 ≤ 8 ∧ ∃ mc2 mk3, mc2 ≤ (mr - 1) ∧ mk3 ≤ (sr - 7) ∧ E 15 [.inr (.inr (S.n)), .inl (x2), .inl (x3), .inl (x4), .inr (.inr (x5)), .inr (.inr (x6)), .inr (.inr (y0))] mc2 mk3 S1 (k_123_89 E x0 x1 x2 x3 x4 x5 x6 y0 S.n ((mr - 1) - mc2) ((sr - 7) - mk3) Q))))
set_option maxRecDepth 20000 in
set_option maxHeartbeats 4000000 in
theorem f_123_70 {E : ox_E} (hE : ox_mono E) {mr sr : Nat} {x0 : Nat} {x1 : Int32} {x2 : Int32} {x3 : Int32} {x4 : Int32} {x5 : Nat} {x6 : Nat} {y0 : Nat} {S : ox_St} {Q : ox_Q} (h : q_123_70 E x0 x1 x2 x3 x4 x5 x6 y0 S mr sr Q) : k_123_70 E x0 x1 x2 x3 x4 x5 x6 mr sr Q (some (.inr (.inr (y0)))) S := ox_C_fold hE h
set_option maxRecDepth 20000 in
def q_123_67 (E : ox_E) (x0 : Nat) (x1 : Int32) (x2 : Int32) (x3 : Int32) (x4 : Int32) (x5 : Nat) (x6 : Nat) (y0 : Int32) (y1 : Nat) (S : ox_St) (mr sr : Nat) (Q : ox_Q) : Prop :=
  (2 ≤ 2 ∧ S.K y1 = 13 ∧ 0 ≤ 8 ∧ ∃ mc1 mk2, mc1 ≤ mr ∧ mk2 ≤ sr ∧ E 125 [.inr (.inr (y1)), .inl (y0)] mc1 mk2 S (k_123_70 E x0 x1 x2 x3 x4 x5 x6 (mr - mc1) (sr - mk2) Q))
set_option maxRecDepth 20000 in
set_option maxHeartbeats 4000000 in
theorem f_123_67 {E : ox_E} (hE : ox_mono E) {mr sr : Nat} {x0 : Nat} {x1 : Int32} {x2 : Int32} {x3 : Int32} {x4 : Int32} {x5 : Nat} {x6 : Nat} {y0 : Int32} {y1 : Nat} {S : ox_St} {Q : ox_Q} (h : q_123_67 E x0 x1 x2 x3 x4 x5 x6 y0 y1 S mr sr Q) : k_123_67 E x0 x1 x2 x3 x4 x5 x6 y1 mr sr Q (some (.inl (y0))) S := ox_C_fold hE h
set_option maxRecDepth 20000 in
def q_123_57 (E : ox_E) (x0 : Nat) (x1 : Int32) (x2 : Int32) (x3 : Int32) (x4 : Int32) (x5 : Nat) (y0 : Nat) (S : ox_St) (mr sr : Nat) (Q : ox_Q) : Prop :=
  (3 ≤ 4 ∧ S.K x0 = 13 ∧ 1 ≤ 8 ∧ ∃ mc1 mk2, mc1 ≤ mr ∧ mk2 ≤ sr ∧ E 115 [.inr (.inr (x0)), .inl (0), .inl (12)] mc1 mk2 S (k_123_67 E x0 x1 x2 x3 x4 x5 y0 x0 (mr - mc1) (sr - mk2) Q))
set_option maxRecDepth 20000 in
set_option maxHeartbeats 4000000 in
theorem f_123_57 {E : ox_E} (hE : ox_mono E) {mr sr : Nat} {x0 : Nat} {x1 : Int32} {x2 : Int32} {x3 : Int32} {x4 : Int32} {x5 : Nat} {y0 : Nat} {S : ox_St} {Q : ox_Q} (h : q_123_57 E x0 x1 x2 x3 x4 x5 y0 S mr sr Q) : k_123_57 E x0 x1 x2 x3 x4 x5 mr sr Q (some (.inr (.inr (y0)))) S := ox_C_fold hE h
set_option maxRecDepth 20000 in
def q_123_51 (E : ox_E) (x0 : Nat) (x1 : Int32) (x2 : Int32) (x3 : Int32) (x4 : Int32) (x5 : Nat) (y0 : Int32) (y1 : Nat) (S : ox_St) (mr sr : Nat) (Q : ox_Q) : Prop :=
  (3 ≤ 3 ∧ S.K y1 = 13 ∧ 0 ≤ 8 ∧ ∃ mc1 mk2, mc1 ≤ mr ∧ mk2 ≤ sr ∧ E 122 [.inr (.inr (y1)), .inl (y0), .inl (x1 + 1)] mc1 mk2 S (k_123_57 E x0 x1 x2 x3 x4 x5 (mr - mc1) (sr - mk2) Q))
set_option maxRecDepth 20000 in
set_option maxHeartbeats 4000000 in
theorem f_123_51 {E : ox_E} (hE : ox_mono E) {mr sr : Nat} {x0 : Nat} {x1 : Int32} {x2 : Int32} {x3 : Int32} {x4 : Int32} {x5 : Nat} {y0 : Int32} {y1 : Nat} {S : ox_St} {Q : ox_Q} (h : q_123_51 E x0 x1 x2 x3 x4 x5 y0 y1 S mr sr Q) : k_123_51 E x0 x1 x2 x3 x4 x5 y1 mr sr Q (some (.inl (y0))) S := ox_C_fold hE h
set_option maxRecDepth 20000 in
def q_123_41 (E : ox_E) (x0 : Nat) (x1 : Int32) (x2 : Int32) (x3 : Int32) (x4 : Int32) (y0 : Nat) (S : ox_St) (mr sr : Nat) (Q : ox_Q) : Prop :=
  (3 ≤ 4 ∧ S.K x0 = 13 ∧ 1 ≤ 8 ∧ ∃ mc1 mk2, mc1 ≤ mr ∧ mk2 ≤ sr ∧ E 115 [.inr (.inr (x0)), .inl (0), .inl (12)] mc1 mk2 S (k_123_51 E x0 x1 x2 x3 x4 y0 x0 (mr - mc1) (sr - mk2) Q))
set_option maxRecDepth 20000 in
set_option maxHeartbeats 4000000 in
theorem f_123_41 {E : ox_E} (hE : ox_mono E) {mr sr : Nat} {x0 : Nat} {x1 : Int32} {x2 : Int32} {x3 : Int32} {x4 : Int32} {y0 : Nat} {S : ox_St} {Q : ox_Q} (h : q_123_41 E x0 x1 x2 x3 x4 y0 S mr sr Q) : k_123_41 E x0 x1 x2 x3 x4 mr sr Q (some (.inr (.inr (y0)))) S := ox_C_fold hE h
set_option maxRecDepth 20000 in
def q_123_35 (E : ox_E) (x0 : Nat) (x1 : Int32) (x2 : Int32) (x3 : Int32) (y0 : Int32) (S : ox_St) (mr sr : Nat) (Q : ox_Q) : Prop :=
  (1 ≤ 1 ∧ S.K x0 = 13 ∧ 0 ≤ 8 ∧ ∃ mc1 mk2, mc1 ≤ mr ∧ mk2 ≤ sr ∧ E 124 [.inr (.inr (x0))] mc1 mk2 S (k_123_41 E x0 x1 x2 x3 y0 (mr - mc1) (sr - mk2) Q))
set_option maxRecDepth 20000 in
set_option maxHeartbeats 4000000 in
theorem f_123_35 {E : ox_E} (hE : ox_mono E) {mr sr : Nat} {x0 : Nat} {x1 : Int32} {x2 : Int32} {x3 : Int32} {y0 : Int32} {S : ox_St} {Q : ox_Q} (h : q_123_35 E x0 x1 x2 x3 y0 S mr sr Q) : k_123_35 E x0 x1 x2 x3 mr sr Q (some (.inl (y0))) S := ox_C_fold hE h
set_option maxRecDepth 20000 in
def q_123_27 (E : ox_E) (x0 : Nat) (x1 : Int32) (x2 : Int32) (y0 : Int32) (S : ox_St) (mr sr : Nat) (Q : ox_Q) : Prop :=
  (3 ≤ 3 ∧ S.K x0 = 13 ∧ 0 ≤ 8 ∧ ∃ mc1 mk2, mc1 ≤ mr ∧ mk2 ≤ sr ∧ E 115 [.inr (.inr (x0)), .inl (1), .inl (10)] mc1 mk2 S (k_123_35 E x0 x1 x2 y0 (mr - mc1) (sr - mk2) Q))
set_option maxRecDepth 20000 in
set_option maxHeartbeats 4000000 in
theorem f_123_27 {E : ox_E} (hE : ox_mono E) {mr sr : Nat} {x0 : Nat} {x1 : Int32} {x2 : Int32} {y0 : Int32} {S : ox_St} {Q : ox_Q} (h : q_123_27 E x0 x1 x2 y0 S mr sr Q) : k_123_27 E x0 x1 x2 mr sr Q (some (.inl (y0))) S := ox_C_fold hE h
set_option maxRecDepth 20000 in
def q_123_15 (E : ox_E) (x0 : Nat) (x1 : Int32) (y0 : Int32) (S : ox_St) (mr sr : Nat) (Q : ox_Q) : Prop :=
  (1 ≤ 8 ∧ (3 ≤ 3 ∧ S.K x0 = 13 ∧ 0 ≤ 8 ∧ ∃ mc1 mk2, mc1 ≤ mr ∧ mk2 ≤ sr ∧ E 115 [.inr (.inr (x0)), .inl (if y0 < 0 then 0 else y0), .inl (8)] mc1 mk2 S (k_123_27 E x0 x1 y0 (mr - mc1) (sr - mk2) Q)))
set_option maxRecDepth 20000 in
set_option maxHeartbeats 4000000 in
theorem f_123_15 {E : ox_E} (hE : ox_mono E) {mr sr : Nat} {x0 : Nat} {x1 : Int32} {y0 : Int32} {S : ox_St} {Q : ox_Q} (h : q_123_15 E x0 x1 y0 S mr sr Q) : k_123_15 E x0 x1 mr sr Q (some (.inl (y0))) S := ox_C_fold hE h
set_option maxRecDepth 20000 in
def q_123_8 (E : ox_E) (x0 : Nat) (x1 : Int32) (y0 : Int32) (S : ox_St) (mr sr : Nat) (Q : ox_Q) : Prop :=
  (3 ≤ 3 ∧ S.K x0 = 13 ∧ 0 ≤ 8 ∧ ∃ mc1 mk2, mc1 ≤ mr ∧ mk2 ≤ sr ∧ E 115 [.inr (.inr (x0)), .inl (0), .inl (4)] mc1 mk2 S (k_123_15 E x0 x1 (mr - mc1) (sr - mk2) Q))
set_option maxRecDepth 20000 in
set_option maxHeartbeats 4000000 in
theorem f_123_8 {E : ox_E} (hE : ox_mono E) {mr sr : Nat} {x0 : Nat} {x1 : Int32} {y0 : Int32} {S : ox_St} {Q : ox_Q} (h : q_123_8 E x0 x1 y0 S mr sr Q) : k_123_8 E x0 x1 mr sr Q (some (.inl (y0))) S := ox_C_fold hE h
set_option maxRecDepth 20000 in
def q_123 (E : ox_E) (x0 : Nat) (x1 : Int32) (S : ox_St) (mr sr : Nat) (Q : ox_Q) : Prop :=
  (3 ≤ 3 ∧ S.K x0 = 13 ∧ 0 ≤ 8 ∧ ∃ mc1 mk2, mc1 ≤ mr ∧ mk2 ≤ sr ∧ E 115 [.inr (.inr (x0)), .inl (99), .inl (99)] mc1 mk2 S (k_123_8 E x0 x1 (mr - mc1) (sr - mk2) Q))
set_option maxRecDepth 20000 in
set_option maxHeartbeats 4000000 in
theorem f_123 {sp : ox_E} (hsp : ox_mono sp) {d : Nat} {mr sr : Nat} {x0 : Nat} {x1 : Int32} {S : ox_St} {Q : ox_Q} (h : q_123 (ox_M sp d) x0 x1 S mr sr Q) : ox_M sp (d + 1) 123 [.inr (.inr (x0)), .inl (x1)] mr sr S Q := Or.inr ⟨Nat.le_of_ble_eq_true rfl, ox_C_fold (ox_M_mono hsp d) h⟩
/-! OpcodeFrames.instructions()[I -/
def k_124_4 (E : ox_E) (x0 : Nat) (mr sr : Nat) (Q : ox_Q) : ox_Q := fun r_ T_ => ox_C E (ox_mi 124).2.2.2.1 (ox_mc 124) (ox_cut 124) Q 4 [some (.inr (.inr (x0))), none, none, none] (r_.toList ++ []) T_ mr sr
def k_124_13 (E : ox_E) (x0 : Nat) (mr sr : Nat) (Q : ox_Q) : ox_Q := fun r_ T_ => ox_C E (ox_mi 124).2.2.2.1 (ox_mc 124) (ox_cut 124) Q 13 [some (.inr (.inr (x0))), none, none, none] (r_.toList ++ []) T_ mr sr
def k_124_21 (E : ox_E) (x0 : Nat) (mr sr : Nat) (Q : ox_Q) : ox_Q := fun r_ T_ => ox_C E (ox_mi 124).2.2.2.1 (ox_mc 124) (ox_cut 124) Q 21 [some (.inr (.inr (x0))), none, none, none] (r_.toList ++ []) T_ mr sr
def k_124_28 (E : ox_E) (x0 : Nat) (x1 : Int32) (mr sr : Nat) (Q : ox_Q) : ox_Q := fun r_ T_ => ox_C E (ox_mi 124).2.2.2.1 (ox_mc 124) (ox_cut 124) Q 28 [some (.inr (.inr (x0))), some (.inl (x1)), none, none] (r_.toList ++ []) T_ mr sr
def c_124_39 (E : ox_E) (x0 : Nat) (x1 : Int32) (x2 : Nat) (x3 : Int32) (S : ox_St) (mr sr : Nat) (Q : ox_Q) : Prop := ox_C E (ox_mi 124).2.2.2.1 (ox_mc 124) (ox_cut 124) Q 39 [some (.inr (.inr (x0))), some (.inl (x1)), some (.inr (.inr (x2))), some (.inl (x3))] [] S mr sr
def k_124_63 (E : ox_E) (x0 : Nat) (x1 : Int32) (x2 : Nat) (x3 : Int32) (y1 : Int32) (y2 : Nat) (mr sr : Nat) (Q : ox_Q) : ox_Q := fun r_ T_ => ox_C E (ox_mi 124).2.2.2.1 (ox_mc 124) (ox_cut 124) Q 63 [some (.inr (.inr (x0))), some (.inl (x1)), some (.inr (.inr (x2))), some (.inl (x3))] (r_.toList ++ [.inl (y1), .inr (.inr (y2))]) T_ mr sr
set_option maxRecDepth 20000 in
def q_124_63 (E : ox_E) (x0 : Nat) (x1 : Int32) (x2 : Nat) (x3 : Int32) (y0 : Int32) (y1 : Int32) (y2 : Nat) (S : ox_St) (mr sr : Nat) (Q : ox_Q) : Prop :=
  (S.K y2 = 15 ∧ vp_in y1 (S.len y2) ∧ (let S1 := S.wI y2 (Int32.toNatClampNeg y1) y0
  c_124_39 E x0 x1 x2 (x3 + 1) S1 mr sr Q))
set_option maxRecDepth 20000 in
set_option maxHeartbeats 4000000 in
theorem f_124_63 {E : ox_E} (hE : ox_mono E) {mr sr : Nat} {x0 : Nat} {x1 : Int32} {x2 : Nat} {x3 : Int32} {y0 : Int32} {y1 : Int32} {y2 : Nat} {S : ox_St} {Q : ox_Q} (h : q_124_63 E x0 x1 x2 x3 y0 y1 y2 S mr sr Q) : k_124_63 E x0 x1 x2 x3 y1 y2 mr sr Q (some (.inl (y0))) S := ox_C_fold hE h
set_option maxRecDepth 20000 in
def q_124_39 (E : ox_E) (x0 : Nat) (x1 : Int32) (x2 : Nat) (x3 : Int32) (S : ox_St) (mr sr : Nat) (Q : ox_Q) : Prop :=
  (ox_rdL (S.K x2) = true ∧ (((Int32.ofNat (S.len x2)) ≤ x3 → (ox_isR (ox_mi 124).2.2.2.1 = true ∧ Q (some (.inr (.inr x2))) S)) ∧ (¬ (Int32.ofNat (S.len x2)) ≤ x3 → (ox_has (S.K x0) 63 = true ∧ ((¬ (S.I 63 x0) = (-1) → (ox_isR (ox_mi 124).2.2.2.1 = true ∧ Q (some (.inr (.inr x2))) S)) ∧ ((S.I 63 x0) = (-1) → (3 ≤ 5 ∧ S.K x0 = 13 ∧ 2 ≤ 8 ∧ ∃ mc1 mk2, mc1 ≤ mr ∧ mk2 ≤ sr ∧ E 115 [.inr (.inr (x0)), .inl (0), .inl (255)] mc1 mk2 S (k_124_63 E x0 x1 x2 x3 x3 x2 (mr - mc1) (sr - mk2) Q))))))))
set_option maxRecDepth 20000 in
set_option maxHeartbeats 4000000 in
theorem f_124_39 {E : ox_E} (hE : ox_mono E) {mr sr : Nat} {x0 : Nat} {x1 : Int32} {x2 : Nat} {x3 : Int32} {S : ox_St} {Q : ox_Q} (h : q_124_39 E x0 x1 x2 x3 S mr sr Q) : c_124_39 E x0 x1 x2 x3 S mr sr Q := ox_C_fold hE h
set_option maxRecDepth 20000 in
def q_124_28 (E : ox_E) (x0 : Nat) (x1 : Int32) (y0 : Int32) (S : ox_St) (mr sr : Nat) (Q : ox_Q) : Prop :=
  (0 ≤ 8 ∧ (¬ (if x1 < 0 then 0 else x1) < 0 ∧ (Int32.toNatClampNeg (if x1 < 0 then 0 else x1)) ≤ 67108864 ∧ 1 ≤ mr ∧ (Int32.toNatClampNeg (if x1 < 0 then 0 else x1)) ≤ sr ∧ (let S1 := S.newA 15 (Int32.toNatClampNeg (if x1 < 0 then 0 else x1))
  c_124_39 E x0 x1 S.n 0 S1 (mr - 1) (sr - (Int32.toNatClampNeg (if x1 < 0 then 0 else x1))) Q)))
set_option maxRecDepth 20000 in
set_option maxHeartbeats 4000000 in
theorem f_124_28 {E : ox_E} (hE : ox_mono E) {mr sr : Nat} {x0 : Nat} {x1 : Int32} {y0 : Int32} {S : ox_St} {Q : ox_Q} (h : q_124_28 E x0 x1 y0 S mr sr Q) : k_124_28 E x0 x1 mr sr Q (some (.inl (y0))) S := ox_C_fold hE h
set_option maxRecDepth 20000 in
def q_124_21 (E : ox_E) (x0 : Nat) (y0 : Int32) (S : ox_St) (mr sr : Nat) (Q : ox_Q) : Prop :=
  (3 ≤ 3 ∧ S.K x0 = 13 ∧ 0 ≤ 8 ∧ ∃ mc1 mk2, mc1 ≤ mr ∧ mk2 ≤ sr ∧ E 115 [.inr (.inr (x0)), .inl (0), .inl (0)] mc1 mk2 S (k_124_28 E x0 y0 (mr - mc1) (sr - mk2) Q))
set_option maxRecDepth 20000 in
set_option maxHeartbeats 4000000 in
theorem f_124_21 {E : ox_E} (hE : ox_mono E) {mr sr : Nat} {x0 : Nat} {y0 : Int32} {S : ox_St} {Q : ox_Q} (h : q_124_21 E x0 y0 S mr sr Q) : k_124_21 E x0 mr sr Q (some (.inl (y0))) S := ox_C_fold hE h
set_option maxRecDepth 20000 in
def q_124_13 (E : ox_E) (x0 : Nat) (S : ox_St) (mr sr : Nat) (Q : ox_Q) : Prop :=
  (3 ≤ 3 ∧ S.K x0 = 13 ∧ 0 ≤ 8 ∧ ∃ mc1 mk2, mc1 ≤ mr ∧ mk2 ≤ sr ∧ E 115 [.inr (.inr (x0)), .inl (2), .inl (160)] mc1 mk2 S (k_124_21 E x0 (mr - mc1) (sr - mk2) Q))
set_option maxRecDepth 20000 in
set_option maxHeartbeats 4000000 in
theorem f_124_13 {E : ox_E} (hE : ox_mono E) {mr sr : Nat} {x0 : Nat} {S : ox_St} {Q : ox_Q} (h : q_124_13 E x0 S mr sr Q) : k_124_13 E x0 mr sr Q none S := ox_C_fold hE h
set_option maxRecDepth 20000 in
def q_124_4 (E : ox_E) (x0 : Nat) (y0 : Int32) (S : ox_St) (mr sr : Nat) (Q : ox_Q) : Prop :=
  (¬ (2 : Int32) = 0 ∧ (((y0 - y0 / 2 * 2) = 0 → k_124_13 E x0 mr sr Q none S) ∧ (¬ (y0 - y0 / 2 * 2) = 0 → (1 ≤ 1 ∧ S.K x0 = 13 ∧ 0 ≤ 8 ∧ ∃ mc1 mk2, mc1 ≤ mr ∧ mk2 ≤ sr ∧ E 113 [.inr (.inr (x0))] mc1 mk2 S (k_124_13 E x0 (mr - mc1) (sr - mk2) Q)))))
set_option maxRecDepth 20000 in
set_option maxHeartbeats 4000000 in
theorem f_124_4 {E : ox_E} (hE : ox_mono E) {mr sr : Nat} {x0 : Nat} {y0 : Int32} {S : ox_St} {Q : ox_Q} (h : q_124_4 E x0 y0 S mr sr Q) : k_124_4 E x0 mr sr Q (some (.inl (y0))) S := ox_C_fold hE h
set_option maxRecDepth 20000 in
def q_124 (E : ox_E) (x0 : Nat) (S : ox_St) (mr sr : Nat) (Q : ox_Q) : Prop :=
  (1 ≤ 1 ∧ S.K x0 = 13 ∧ 0 ≤ 8 ∧ ∃ mc1 mk2, mc1 ≤ mr ∧ mk2 ≤ sr ∧ E 114 [.inr (.inr (x0))] mc1 mk2 S (k_124_4 E x0 (mr - mc1) (sr - mk2) Q))
set_option maxRecDepth 20000 in
set_option maxHeartbeats 4000000 in
theorem f_124 {sp : ox_E} (hsp : ox_mono sp) {d : Nat} {mr sr : Nat} {x0 : Nat} {S : ox_St} {Q : ox_Q} (h : q_124 (ox_M sp d) x0 S mr sr Q) : ox_M sp (d + 1) 124 [.inr (.inr (x0))] mr sr S Q := Or.inr ⟨Nat.le_of_ble_eq_true rfl, ox_C_fold (ox_M_mono hsp d) h⟩
/-! OpcodeFrames.names(I)[J -/
def c_125_10 (E : ox_E) (x0 : Nat) (x1 : Int32) (x2 : Nat) (x3 : Int32) (S : ox_St) (mr sr : Nat) (Q : ox_Q) : Prop := ox_C E (ox_mi 125).2.2.2.1 (ox_mc 125) (ox_cut 125) Q 10 [some (.inr (.inr (x0))), some (.inl (x1)), some (.inr (.inr (x2))), some (.inl (x3)), none, none] [] S mr sr
def k_125_31 (E : ox_E) (x0 : Nat) (x1 : Int32) (x2 : Nat) (x3 : Int32) (mr sr : Nat) (Q : ox_Q) : ox_Q := fun r_ T_ => ox_C E (ox_mi 125).2.2.2.1 (ox_mc 125) (ox_cut 125) Q 31 [some (.inr (.inr (x0))), some (.inl (x1)), some (.inr (.inr (x2))), some (.inl (x3)), none, none] (r_.toList ++ []) T_ mr sr
def c_125_36 (E : ox_E) (x0 : Nat) (x1 : Int32) (x2 : Nat) (x3 : Int32) (x4 : Int32) (x5 : Int32) (S : ox_St) (mr sr : Nat) (Q : ox_Q) : Prop := ox_C E (ox_mi 125).2.2.2.1 (ox_mc 125) (ox_cut 125) Q 36 [some (.inr (.inr (x0))), some (.inl (x1)), some (.inr (.inr (x2))), some (.inl (x3)), some (.inl (x4)), some (.inl (x5))] [] S mr sr
def k_125_67 (E : ox_E) (x0 : Nat) (x1 : Int32) (x2 : Nat) (x3 : Int32) (x4 : Int32) (x5 : Int32) (y1 : Int64) (y2 : Int32) (y3 : Nat) (mr sr : Nat) (Q : ox_Q) : ox_Q := fun r_ T_ => ox_C E (ox_mi 125).2.2.2.1 (ox_mc 125) (ox_cut 125) Q 67 [some (.inr (.inr (x0))), some (.inl (x1)), some (.inr (.inr (x2))), some (.inl (x3)), some (.inl (x4)), some (.inl (x5))] (r_.toList ++ [.inr (.inl (y1)), .inl (y2), .inr (.inr (y3))]) T_ mr sr
set_option maxRecDepth 20000 in
def q_125_67 (E : ox_E) (x0 : Nat) (x1 : Int32) (x2 : Nat) (x3 : Int32) (x4 : Int32) (x5 : Int32) (y0 : Int32) (y1 : Int64) (y2 : Int32) (y3 : Nat) (S : ox_St) (mr sr : Nat) (Q : ox_Q) : Prop :=
  (S.K y3 = 16 ∧ vp_in y2 (S.len y3) ∧ (let S1 := S.wJ y3 (Int32.toNatClampNeg y2) (y1 ||| (Int32.toInt64 y0))
  c_125_36 E x0 x1 x2 x3 x4 (x5 + 1) S1 mr sr Q))
set_option maxRecDepth 20000 in
set_option maxHeartbeats 4000000 in
theorem f_125_67 {E : ox_E} (hE : ox_mono E) {mr sr : Nat} {x0 : Nat} {x1 : Int32} {x2 : Nat} {x3 : Int32} {x4 : Int32} {x5 : Int32} {y0 : Int32} {y1 : Int64} {y2 : Int32} {y3 : Nat} {S : ox_St} {Q : ox_Q} (h : q_125_67 E x0 x1 x2 x3 x4 x5 y0 y1 y2 y3 S mr sr Q) : k_125_67 E x0 x1 x2 x3 x4 x5 y1 y2 y3 mr sr Q (some (.inl (y0))) S := ox_C_fold hE h
set_option maxRecDepth 20000 in
def q_125_36 (E : ox_E) (x0 : Nat) (x1 : Int32) (x2 : Nat) (x3 : Int32) (x4 : Int32) (x5 : Int32) (S : ox_St) (mr sr : Nat) (Q : ox_Q) : Prop :=
  ((x4 ≤ x5 → c_125_10 E x0 x1 x2 (x3 + 1) S mr sr Q) ∧ (¬ x4 ≤ x5 → (ox_has (S.K x0) 63 = true ∧ ((¬ (S.I 63 x0) = (-1) → c_125_10 E x0 x1 x2 (x3 + 1) S mr sr Q) ∧ ((S.I 63 x0) = (-1) → (ox_rdJ (S.K x2) = true ∧ vp_in x3 (S.len x2) ∧ (3 ≤ 6 ∧ S.K x0 = 13 ∧ 4 ≤ 8 ∧ ∃ mc1 mk2, mc1 ≤ mr ∧ mk2 ≤ sr ∧ E 115 [.inr (.inr (x0)), .inl (97), .inl (122)] mc1 mk2 S (k_125_67 E x0 x1 x2 x3 x4 x5 ((S.rJ x2 (Int32.toNatClampNeg x3)) <<< (Int32.toInt64 8 &&& 63)) x3 x2 (mr - mc1) (sr - mk2) Q))))))))
set_option maxRecDepth 20000 in
set_option maxHeartbeats 4000000 in
theorem f_125_36 {E : ox_E} (hE : ox_mono E) {mr sr : Nat} {x0 : Nat} {x1 : Int32} {x2 : Nat} {x3 : Int32} {x4 : Int32} {x5 : Int32} {S : ox_St} {Q : ox_Q} (h : q_125_36 E x0 x1 x2 x3 x4 x5 S mr sr Q) : c_125_36 E x0 x1 x2 x3 x4 x5 S mr sr Q := ox_C_fold hE h
set_option maxRecDepth 20000 in
def q_125_31 (E : ox_E) (x0 : Nat) (x1 : Int32) (x2 : Nat) (x3 : Int32) (y0 : Int32) (S : ox_St) (mr sr : Nat) (Q : ox_Q) : Prop :=
  c_125_36 E x0 x1 x2 x3 y0 0 S mr sr Q
set_option maxRecDepth 20000 in
set_option maxHeartbeats 4000000 in
theorem f_125_31 {E : ox_E} (hE : ox_mono E) {mr sr : Nat} {x0 : Nat} {x1 : Int32} {x2 : Nat} {x3 : Int32} {y0 : Int32} {S : ox_St} {Q : ox_Q} (h : q_125_31 E x0 x1 x2 x3 y0 S mr sr Q) : k_125_31 E x0 x1 x2 x3 mr sr Q (some (.inl (y0))) S := ox_C_fold hE h
set_option maxRecDepth 20000 in
def q_125_10 (E : ox_E) (x0 : Nat) (x1 : Int32) (x2 : Nat) (x3 : Int32) (S : ox_St) (mr sr : Nat) (Q : ox_Q) : Prop :=
  (ox_rdL (S.K x2) = true ∧ (((Int32.ofNat (S.len x2)) ≤ x3 → (ox_isR (ox_mi 125).2.2.2.1 = true ∧ Q (some (.inr (.inr x2))) S)) ∧ (¬ (Int32.ofNat (S.len x2)) ≤ x3 → (ox_has (S.K x0) 63 = true ∧ ((¬ (S.I 63 x0) = (-1) → (ox_isR (ox_mi 125).2.2.2.1 = true ∧ Q (some (.inr (.inr x2))) S)) ∧ ((S.I 63 x0) = (-1) → (3 ≤ 3 ∧ S.K x0 = 13 ∧ 0 ≤ 8 ∧ ∃ mc1 mk2, mc1 ≤ mr ∧ mk2 ≤ sr ∧ E 115 [.inr (.inr (x0)), .inl (1), .inl (8)] mc1 mk2 S (k_125_31 E x0 x1 x2 x3 (mr - mc1) (sr - mk2) Q))))))))
set_option maxRecDepth 20000 in
set_option maxHeartbeats 4000000 in
theorem f_125_10 {E : ox_E} (hE : ox_mono E) {mr sr : Nat} {x0 : Nat} {x1 : Int32} {x2 : Nat} {x3 : Int32} {S : ox_St} {Q : ox_Q} (h : q_125_10 E x0 x1 x2 x3 S mr sr Q) : c_125_10 E x0 x1 x2 x3 S mr sr Q := ox_C_fold hE h
set_option maxRecDepth 20000 in
def q_125 (E : ox_E) (x0 : Nat) (x1 : Int32) (S : ox_St) (mr sr : Nat) (Q : ox_Q) : Prop :=
  (0 ≤ 8 ∧ (¬ (if x1 < 0 then 0 else x1) < 0 ∧ (Int32.toNatClampNeg (if x1 < 0 then 0 else x1)) ≤ 67108864 ∧ 1 ≤ mr ∧ (Int32.toNatClampNeg (if x1 < 0 then 0 else x1)) ≤ sr ∧ (let S1 := S.newA 16 (Int32.toNatClampNeg (if x1 < 0 then 0 else x1))
  c_125_10 E x0 x1 S.n 0 S1 (mr - 1) (sr - (Int32.toNatClampNeg (if x1 < 0 then 0 else x1))) Q)))
set_option maxRecDepth 20000 in
set_option maxHeartbeats 4000000 in
theorem f_125 {sp : ox_E} (hsp : ox_mono sp) {d : Nat} {mr sr : Nat} {x0 : Nat} {x1 : Int32} {S : ox_St} {Q : ox_Q} (h : q_125 (ox_M sp d) x0 x1 S mr sr Q) : ox_M sp (d + 1) 125 [.inr (.inr (x0)), .inl (x1)] mr sr S Q := Or.inr ⟨Nat.le_of_ble_eq_true rfl, ox_C_fold (ox_M_mono hsp d) h⟩
