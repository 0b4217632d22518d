/-! OpcodeFrames$Num.<init>(Z[I)V -/
def k_78_6 (E : ox_E) (x0 : Nat) (x1 : Int32) (x2 : Nat) (mr sr : Nat) (Q : ox_Q) : ox_Q := fun r_ T_ => ox_C E (ox_mi 78).2.2.2.1 (ox_mc 78) (ox_cut 78) Q 6 [some (.inr (.inr (x0))), some (.inl (x1)), some (.inr (.inr (x2)))] (r_.toList ++ []) T_ mr sr
set_option maxRecDepth 20000 in
def q_78_6 (E : ox_E) (x0 : Nat) (x1 : Int32) (x2 : Nat) (S : ox_St) (mr sr : Nat) (Q : ox_Q) : Prop :=
  (ox_has (S.K x0) 51 = true ∧ (((x1 : Int32) = 0 ∨ (x1 : Int32) = 1) ∧ (let S1 := S.sI 51 x0 x1
  (ox_has (S1.K x0) 52 = true ∧ (let S2 := S1.sR 52 x0 x2
  ((ox_mi 78).2.2.2.1 = none ∧ Q none S2))))))
set_option maxRecDepth 20000 in
set_option maxHeartbeats 4000000 in
theorem f_78_6 {E : ox_E} (hE : ox_mono E) {mr sr : Nat} {x0 : Nat} {x1 : Int32} {x2 : Nat} {S : ox_St} {Q : ox_Q} (h : q_78_6 E x0 x1 x2 S mr sr Q) : k_78_6 E x0 x1 x2 mr sr Q none S := ox_C_fold hE h
set_option maxRecDepth 20000 in
def q_78 (E : ox_E) (x0 : Nat) (x1 : Int32) (x2 : Nat) (S : ox_St) (mr sr : Nat) (Q : ox_Q) : Prop :=
  (3 ≤ 3 ∧ x0 ≠ 0 ∧ 0 ≤ 8 ∧ ∃ mc1 mk2, mc1 ≤ mr ∧ mk2 ≤ sr ∧ E 89 [.inr (.inr (x0)), .inl (3), .inl (0)] mc1 mk2 S (k_78_6 E x0 x1 x2 (mr - mc1) (sr - mk2) Q))
set_option maxRecDepth 20000 in
set_option maxHeartbeats 4000000 in
theorem f_78 {sp : ox_E} (hsp : ox_mono sp) {d : Nat} {mr sr : Nat} {x0 : Nat} {x1 : Int32} {x2 : Nat} {S : ox_St} {Q : ox_Q} (h : q_78 (ox_M sp d) x0 x1 x2 S mr sr Q) : ox_M sp (d + 1) 78 [.inr (.inr (x0)), .inl (x1), .inr (.inr (x2))] mr sr S Q := Or.inr ⟨Nat.le_of_ble_eq_true rfl, ox_C_fold (ox_M_mono hsp d) h⟩
/-! OpcodeFrames$Num.of(J)LOpcodeFrames$Num; -/
def c_79_11 (E : ox_E) (x0 : Int64) (x2 : Int64) (x4 : Int32) (x5 : Int64) (S : ox_St) (mr sr : Nat) (Q : ox_Q) : Prop := ox_C E (ox_mi 79).2.2.2.1 (ox_mc 79) (ox_cut 79) Q 11 [some (.inr (.inl (x0))), none, some (.inr (.inl (x2))), none, some (.inl (x4)), some (.inr (.inl (x5))), none] [] S mr sr
def c_79_47 (E : ox_E) (x0 : Int64) (x2 : Int64) (x4 : Int32) (x5 : Nat) (x6 : Int32) (S : ox_St) (mr sr : Nat) (Q : ox_Q) : Prop := ox_C E (ox_mi 79).2.2.2.1 (ox_mc 79) (ox_cut 79) Q 47 [some (.inr (.inl (x0))), none, some (.inr (.inl (x2))), none, some (.inl (x4)), some (.inr (.inr (x5))), some (.inl (x6))] [] S mr sr
def k_79_97 (E : ox_E) (x0 : Int64) (x2 : Int64) (x4 : Int32) (x5 : Nat) (x6 : Int32) (y0 : Nat) (mr sr : Nat) (Q : ox_Q) : ox_Q := fun r_ T_ => ox_C E (ox_mi 79).2.2.2.1 (ox_mc 79) (ox_cut 79) Q 97 [some (.inr (.inl (x0))), none, some (.inr (.inl (x2))), none, some (.inl (x4)), some (.inr (.inr (x5))), some (.inl (x6))] (r_.toList ++ [.inr (.inr (y0))]) T_ mr sr
set_option maxRecDepth 20000 in
def q_79_97 (E : ox_E) (x0 : Int64) (x2 : Int64) (x4 : Int32) (x5 : Nat) (x6 : Int32) (y0 : Nat) (S : ox_St) (mr sr : Nat) (Q : ox_Q) : Prop :=
  (ox_isR (ox_mi 79).2.2.2.1 = true ∧ Q (some (.inr (.inr y0))) S)
set_option maxRecDepth 20000 in
set_option maxHeartbeats 4000000 in
theorem f_79_97 {E : ox_E} (hE : ox_mono E) {mr sr : Nat} {x0 : Int64} {x2 : Int64} {x4 : Int32} {x5 : Nat} {x6 : Int32} {y0 : Nat} {S : ox_St} {Q : ox_Q} (h : q_79_97 E x0 x2 x4 x5 x6 y0 S mr sr Q) : k_79_97 E x0 x2 x4 x5 x6 y0 mr sr Q none S := ox_C_fold hE h
set_option maxRecDepth 20000 in
def q_79_47 (E : ox_E) (x0 : Int64) (x2 : Int64) (x4 : Int32) (x5 : Nat) (x6 : Int32) (S : ox_St) (mr sr : Nat) (Q : ox_Q) : Prop :=
  ((x4 ≤ x6 → (1 ≤ mr ∧ 4 ≤ sr ∧ (let S1 := S.newO 8
  (((0 : Int32) ≤ (lg_cmp x0 0) → (3 ≤ 4 ∧ S.n ≠ 0 ∧ 1 ≤ 8 ∧ ∃ mc2 mk3, mc2 ≤ (mr - 1) ∧ mk3 ≤ (sr - 4) ∧ E 78 [.inr (.inr (S.n)), .inl (0), .inr (.inr (x5))] mc2 mk3 S1 (k_79_97 E x0 x2 x4 x5 x6 S.n ((mr - 1) - mc2) ((sr - 4) - mk3) Q))) ∧ (¬ (0 : Int32) ≤ (lg_cmp x0 0) → (3 ≤ 4 ∧ S.n ≠ 0 ∧ 1 ≤ 8 ∧ ∃ mc4 mk5, mc4 ≤ (mr - 1) ∧ mk5 ≤ (sr - 4) ∧ E 78 [.inr (.inr (S.n)), .inl (1), .inr (.inr (x5))] mc4 mk5 S1 (k_79_97 E x0 x2 x4 x5 x6 S.n ((mr - 1) - mc4) ((sr - 4) - mk5) Q))))))) ∧ (¬ x4 ≤ x6 → (S.K x5 = 15 ∧ vp_in x6 (S.len x5) ∧ (let S6 := S.wI x5 (Int32.toNatClampNeg x6) ((Int64.toInt32 (x2 >>> (Int32.toInt64 (15 * x6) &&& 63))) &&& 32767)
  c_79_47 E x0 x2 x4 x5 (x6 + 1) S6 mr sr Q))))
set_option maxRecDepth 20000 in
set_option maxHeartbeats 4000000 in
theorem f_79_47 {E : ox_E} (hE : ox_mono E) {mr sr : Nat} {x0 : Int64} {x2 : Int64} {x4 : Int32} {x5 : Nat} {x6 : Int32} {S : ox_St} {Q : ox_Q} (h : q_79_47 E x0 x2 x4 x5 x6 S mr sr Q) : c_79_47 E x0 x2 x4 x5 x6 S mr sr Q := ox_C_fold hE h
set_option maxRecDepth 20000 in
def q_79_11 (E : ox_E) (x0 : Int64) (x2 : Int64) (x4 : Int32) (x5 : Int64) (S : ox_St) (mr sr : Nat) (Q : ox_Q) : Prop :=
  (((lg_cmp x5 0) ≤ 0 → (¬ x4 < 0 ∧ (Int32.toNatClampNeg x4) ≤ 67108864 ∧ 1 ≤ mr ∧ (Int32.toNatClampNeg x4) ≤ sr ∧ (let S1 := S.newA 15 (Int32.toNatClampNeg x4)
  c_79_47 E x0 x2 x4 S.n 0 S1 (mr - 1) (sr - (Int32.toNatClampNeg x4)) Q))) ∧ (¬ (lg_cmp x5 0) ≤ 0 → (((16 : Int32) ≤ x4 → (¬ x4 < 0 ∧ (Int32.toNatClampNeg x4) ≤ 67108864 ∧ 1 ≤ mr ∧ (Int32.toNatClampNeg x4) ≤ sr ∧ (let S2 := S.newA 15 (Int32.toNatClampNeg x4)
  c_79_47 E x0 x2 x4 S.n 0 S2 (mr - 1) (sr - (Int32.toNatClampNeg x4)) Q))) ∧ (¬ (16 : Int32) ≤ x4 → (let w3 : Int64 := x5 >>> (Int32.toInt64 15 &&& 63)
  c_79_11 E x0 x2 (x4 + 1) w3 S mr sr Q)))))
set_option maxRecDepth 20000 in
set_option maxHeartbeats 4000000 in
theorem f_79_11 {E : ox_E} (hE : ox_mono E) {mr sr : Nat} {x0 : Int64} {x2 : Int64} {x4 : Int32} {x5 : Int64} {S : ox_St} {Q : ox_Q} (h : q_79_11 E x0 x2 x4 x5 S mr sr Q) : c_79_11 E x0 x2 x4 x5 S mr sr Q := ox_C_fold hE h
set_option maxRecDepth 20000 in
def q_79 (E : ox_E) (x0 : Int64) (S : ox_St) (mr sr : Nat) (Q : ox_Q) : Prop :=
  (0 ≤ 8 ∧ (let w1 : Int64 := if 0 < x0 then x0 else -x0
  c_79_11 E x0 w1 0 w1 S mr sr Q))
set_option maxRecDepth 20000 in
set_option maxHeartbeats 4000000 in
theorem f_79 {sp : ox_E} (hsp : ox_mono sp) {d : Nat} {mr sr : Nat} {x0 : Int64} {S : ox_St} {Q : ox_Q} (h : q_79 (ox_M sp d) x0 S mr sr Q) : ox_M sp (d + 1) 79 [.inr (.inl (x0))] mr sr S Q := Or.inr ⟨Nat.le_of_ble_eq_true rfl, ox_C_fold (ox_M_mono hsp d) h⟩
/-! OpcodeFrames$Num.small()J -/
def c_80_36 (E : ox_E) (x0 : Nat) (x1 : Int64) (x3 : Int32) (S : ox_St) (mr sr : Nat) (Q : ox_Q) : Prop := ox_C E (ox_mi 80).2.2.2.1 (ox_mc 80) (ox_cut 80) Q 36 [some (.inr (.inr (x0))), some (.inr (.inl (x1))), none, some (.inl (x3))] [] S mr sr
set_option maxRecDepth 20000 in
def q_80_36 (E : ox_E) (x0 : Nat) (x1 : Int64) (x3 : Int32) (S : ox_St) (mr sr : Nat) (Q : ox_Q) : Prop :=
  ((x3 < 0 → (ox_has (S.K x0) 51 = true ∧ (((S.I 51 x0) = 0 → (ox_isL (some .long) = true ∧ Q (some (.inr (.inl x1))) S)) ∧ (¬ (S.I 51 x0) = 0 → (ox_isL (some .long) = true ∧ Q (some (.inr (.inl (-x1)))) S))))) ∧ (¬ x3 < 0 → (ox_has (S.K x0) 52 = true ∧ (ox_rdI (S.K (S.R 52 x0)) = true ∧ vp_in x3 (S.len (S.R 52 x0)) ∧ (let w1 : Int64 := (x1 <<< (Int32.toInt64 15 &&& 63)) ||| (Int32.toInt64 (S.rI (S.R 52 x0) (Int32.toNatClampNeg x3)))
  c_80_36 E x0 w1 (x3 + (-1)) S mr sr Q)))))
set_option maxRecDepth 20000 in
set_option maxHeartbeats 4000000 in
theorem f_80_36 {E : ox_E} (hE : ox_mono E) {mr sr : Nat} {x0 : Nat} {x1 : Int64} {x3 : Int32} {S : ox_St} {Q : ox_Q} (h : q_80_36 E x0 x1 x3 S mr sr Q) : c_80_36 E x0 x1 x3 S mr sr Q := ox_C_fold hE h
set_option maxRecDepth 20000 in
def q_80 (E : ox_E) (x0 : Nat) (S : ox_St) (mr sr : Nat) (Q : ox_Q) : Prop :=
  (ox_has (S.K x0) 52 = true ∧ (ox_rdL (S.K (S.R 52 x0)) = true ∧ (((Int32.ofNat (S.len (S.R 52 x0))) ≤ 3 → (ox_has (S.K x0) 52 = true ∧ (ox_rdL (S.K (S.R 52 x0)) = true ∧ (let w1 : Int32 := (Int32.ofNat (S.len (S.R 52 x0))) - 1
  c_80_36 E x0 0 w1 S mr sr Q)))) ∧ (¬ (Int32.ofNat (S.len (S.R 52 x0))) ≤ 3 → (ox_has (S.K x0) 51 = true ∧ (((S.I 51 x0) = 0 → (ox_isL (some .long) = true ∧ Q (some (.inr (.inl 1125899906842624))) S)) ∧ (¬ (S.I 51 x0) = 0 → (ox_isL (some .long) = true ∧ Q (some (.inr (.inl (-1125899906842624)))) S))))))))
set_option maxRecDepth 20000 in
set_option maxHeartbeats 4000000 in
theorem f_80 {sp : ox_E} (hsp : ox_mono sp) {d : Nat} {mr sr : Nat} {x0 : Nat} {S : ox_St} {Q : ox_Q} (h : q_80 (ox_M sp d) x0 S mr sr Q) : ox_M sp (d + 1) 80 [.inr (.inr (x0))] mr sr S Q := Or.inr ⟨Nat.le_of_ble_eq_true rfl, ox_C_fold (ox_M_mono hsp d) h⟩
/-! OpcodeFrames$Num.isInt()Z -/
def k_81_4 (E : ox_E) (x0 : Nat) (mr sr : Nat) (Q : ox_Q) : ox_Q := fun r_ T_ => ox_C E (ox_mi 81).2.2.2.1 (ox_mc 81) (ox_cut 81) Q 4 [some (.inr (.inr (x0))), none, none] (r_.toList ++ []) T_ mr sr
set_option maxRecDepth 20000 in
def q_81_4 (E : ox_E) (x0 : Nat) (y0 : Int64) (S : ox_St) (mr sr : Nat) (Q : ox_Q) : Prop :=
  (((lg_cmp y0 (-2147483648)) < 0 → (((0 : Int32) = 0 ∨ (0 : Int32) = 1) ∧ Q (some (.inl (0 : Int32))) S)) ∧ (¬ (lg_cmp y0 (-2147483648)) < 0 → (((0 : Int32) < (lg_cmp y0 2147483647) → (((0 : Int32) = 0 ∨ (0 : Int32) = 1) ∧ Q (some (.inl (0 : Int32))) S)) ∧ (¬ (0 : Int32) < (lg_cmp y0 2147483647) → (((1 : Int32) = 0 ∨ (1 : Int32) = 1) ∧ Q (some (.inl (1 : Int32))) S)))))
set_option maxRecDepth 20000 in
set_option maxHeartbeats 4000000 in
theorem f_81_4 {E : ox_E} (hE : ox_mono E) {mr sr : Nat} {x0 : Nat} {y0 : Int64} {S : ox_St} {Q : ox_Q} (h : q_81_4 E x0 y0 S mr sr Q) : k_81_4 E x0 mr sr Q (some (.inr (.inl (y0)))) S := ox_C_fold hE h
set_option maxRecDepth 20000 in
def q_81 (E : ox_E) (x0 : Nat) (S : ox_St) (mr sr : Nat) (Q : ox_Q) : Prop :=
  (1 ≤ 1 ∧ S.K x0 = 8 ∧ 0 ≤ 8 ∧ ∃ mc1 mk2, mc1 ≤ mr ∧ mk2 ≤ sr ∧ E 80 [.inr (.inr (x0))] mc1 mk2 S (k_81_4 E x0 (mr - mc1) (sr - mk2) Q))
set_option maxRecDepth 20000 in
set_option maxHeartbeats 4000000 in
theorem f_81 {sp : ox_E} (hsp : ox_mono sp) {d : Nat} {mr sr : Nat} {x0 : Nat} {S : ox_St} {Q : ox_Q} (h : q_81 (ox_M sp d) x0 S mr sr Q) : ox_M sp (d + 1) 81 [.inr (.inr (x0))] mr sr S Q := Or.inr ⟨Nat.le_of_ble_eq_true rfl, ox_C_fold (ox_M_mono hsp d) h⟩
/-! OpcodeFrames$Range.<init>(III)V -/
def k_82_6 (E : ox_E) (x0 : Nat) (x1 : Int32) (x2 : Int32) (x3 : Int32) (mr sr : Nat) (Q : ox_Q) : ox_Q := fun r_ T_ => ox_C E (ox_mi 82).2.2.2.1 (ox_mc 82) (ox_cut 82) Q 6 [some (.inr (.inr (x0))), some (.inl (x1)), some (.inl (x2)), some (.inl (x3))] (r_.toList ++ []) T_ mr sr
set_option maxRecDepth 20000 in
def q_82_6 (E : ox_E) (x0 : Nat) (x1 : Int32) (x2 : Int32) (x3 : Int32) (S : ox_St) (mr sr : Nat) (Q : ox_Q) : Prop :=
  (ox_has (S.K x0) 53 = true ∧ (let S1 := S.sI 53 x0 x1
  (ox_has (S1.K x0) 54 = true ∧ (let S2 := S1.sI 54 x0 x2
  (ox_has (S2.K x0) 55 = true ∧ (let S3 := S2.sI 55 x0 x3
  ((ox_mi 82).2.2.2.1 = none ∧ Q none S3)))))))
set_option maxRecDepth 20000 in
set_option maxHeartbeats 4000000 in
theorem f_82_6 {E : ox_E} (hE : ox_mono E) {mr sr : Nat} {x0 : Nat} {x1 : Int32} {x2 : Int32} {x3 : Int32} {S : ox_St} {Q : ox_Q} (h : q_82_6 E x0 x1 x2 x3 S mr sr Q) : k_82_6 E x0 x1 x2 x3 mr sr Q none S := ox_C_fold hE h
set_option maxRecDepth 20000 in
def q_82 (E : ox_E) (x0 : Nat) (x1 : Int32) (x2 : Int32) (x3 : Int32) (S : ox_St) (mr sr : Nat) (Q : ox_Q) : Prop :=
  (3 ≤ 3 ∧ x0 ≠ 0 ∧ 0 ≤ 8 ∧ ∃ mc1 mk2, mc1 ≤ mr ∧ mk2 ≤ sr ∧ E 89 [.inr (.inr (x0)), .inl (5), .inl (0)] mc1 mk2 S (k_82_6 E x0 x1 x2 x3 (mr - mc1) (sr - mk2) Q))
set_option maxRecDepth 20000 in
set_option maxHeartbeats 4000000 in
theorem f_82 {sp : ox_E} (hsp : ox_mono sp) {d : Nat} {mr sr : Nat} {x0 : Nat} {x1 : Int32} {x2 : Int32} {x3 : Int32} {S : ox_St} {Q : ox_Q} (h : q_82 (ox_M sp d) x0 x1 x2 x3 S mr sr Q) : ox_M sp (d + 1) 82 [.inr (.inr (x0)), .inl (x1), .inl (x2), .inl (x3)] mr sr S Q := Or.inr ⟨Nat.le_of_ble_eq_true rfl, ox_C_fold (ox_M_mono hsp d) h⟩
/-! OpcodeFrames$Range.size()J -/
set_option maxRecDepth 20000 in
def q_83 (E : ox_E) (x0 : Nat) (S : ox_St) (mr sr : Nat) (Q : ox_Q) : Prop :=
  (ox_has (S.K x0) 55 = true ∧ (((S.I 55 x0) ≤ 0 → (ox_has (S.K x0) 53 = true ∧ (ox_has (S.K x0) 54 = true ∧ (let w1 : Int64 := (Int32.toInt64 (S.I 53 x0)) - (Int32.toInt64 (S.I 54 x0))
  (ox_has (S.K x0) 55 = true ∧ (0 ≤ 8 ∧ (let w2 : Int64 := if 0 < (Int32.toInt64 (S.I 55 x0)) then (Int32.toInt64 (S.I 55 x0)) else -(Int32.toInt64 (S.I 55 x0))
  (((lg_cmp w1 0) ≤ 0 → (ox_isL (some .long) = true ∧ Q (some (.inr (.inl 0))) S)) ∧ (¬ (lg_cmp w1 0) ≤ 0 → ((¬ (lg_cmp w2 0) = 0 → (¬ (w2 : Int64) = 0 ∧ (ox_isL (some .long) = true ∧ Q (some (.inr (.inl (((w1 - 1) / w2) + 1)))) S))) ∧ ((lg_cmp w2 0) = 0 → (ox_isL (some .long) = true ∧ Q (some (.inr (.inl 0))) S)))))))))))) ∧ (¬ (S.I 55 x0) ≤ 0 → (ox_has (S.K x0) 54 = true ∧ (ox_has (S.K x0) 53 = true ∧ (let w3 : Int64 := (Int32.toInt64 (S.I 54 x0)) - (Int32.toInt64 (S.I 53 x0))
  (ox_has (S.K x0) 55 = true ∧ (0 ≤ 8 ∧ (let w4 : Int64 := if 0 < (Int32.toInt64 (S.I 55 x0)) then (Int32.toInt64 (S.I 55 x0)) else -(Int32.toInt64 (S.I 55 x0))
  (((lg_cmp w3 0) ≤ 0 → (ox_isL (some .long) = true ∧ Q (some (.inr (.inl 0))) S)) ∧ (¬ (lg_cmp w3 0) ≤ 0 → ((¬ (lg_cmp w4 0) = 0 → (¬ (w4 : Int64) = 0 ∧ (ox_isL (some .long) = true ∧ Q (some (.inr (.inl (((w3 - 1) / w4) + 1)))) S))) ∧ ((lg_cmp w4 0) = 0 → (ox_isL (some .long) = true ∧ Q (some (.inr (.inl 0))) S))))))))))))))
set_option maxRecDepth 20000 in
set_option maxHeartbeats 4000000 in
theorem f_83 {sp : ox_E} (hsp : ox_mono sp) {d : Nat} {mr sr : Nat} {x0 : Nat} {S : ox_St} {Q : ox_Q} (h : q_83 (ox_M sp d) x0 S mr sr Q) : ox_M sp (d + 1) 83 [.inr (.inr (x0))] mr sr S Q := Or.inr ⟨Nat.le_of_ble_eq_true rfl, ox_C_fold (ox_M_mono hsp d) h⟩
/-! OpcodeFrames$Range.itemAt(J)LOpcodeFrames$Value; -/
def k_84_11 (E : ox_E) (x0 : Nat) (x1 : Int64) (y1 : Int64) (mr sr : Nat) (Q : ox_Q) : ox_Q := fun r_ T_ => ox_C E (ox_mi 84).2.2.2.1 (ox_mc 84) (ox_cut 84) Q 11 [some (.inr (.inr (x0))), some (.inr (.inl (x1))), none] (r_.toList ++ [.inr (.inl (y1))]) T_ mr sr
def k_84_35 (E : ox_E) (x0 : Nat) (x1 : Int64) (mr sr : Nat) (Q : ox_Q) : ox_Q := fun r_ T_ => ox_C E (ox_mi 84).2.2.2.1 (ox_mc 84) (ox_cut 84) Q 35 [some (.inr (.inr (x0))), some (.inr (.inl (x1))), none] (r_.toList ++ []) T_ mr sr
set_option maxRecDepth 20000 in
def q_84_35 (E : ox_E) (x0 : Nat) (x1 : Int64) (y0 : Nat) (S : ox_St) (mr sr : Nat) (Q : ox_Q) : Prop :=
  (ox_isR (ox_mi 84).2.2.2.1 = true ∧ Q (some (.inr (.inr y0))) S)
set_option maxRecDepth 20000 in
set_option maxHeartbeats 4000000 in
theorem f_84_35 {E : ox_E} (hE : ox_mono E) {mr sr : Nat} {x0 : Nat} {x1 : Int64} {y0 : Nat} {S : ox_St} {Q : ox_Q} (h : q_84_35 E x0 x1 y0 S mr sr Q) : k_84_35 E x0 x1 mr sr Q (some (.inr (.inr (y0)))) S := ox_C_fold hE h
set_option maxRecDepth 20000 in
def q_84_11 (E : ox_E) (x0 : Nat) (x1 : Int64) (y0 : Int64) (y1 : Int64) (S : ox_St) (mr sr : Nat) (Q : ox_Q) : Prop :=
  (((lg_cmp y1 y0) < 0 → (ox_has (S.K x0) 53 = true ∧ (ox_has (S.K x0) 55 = true ∧ (1 ≤ 1 ∧ 0 ≤ 8 ∧ ∃ mc1 mk2, mc1 ≤ mr ∧ mk2 ≤ sr ∧ E 79 [.inr (.inl ((Int32.toInt64 (S.I 53 x0)) + (x1 * (Int32.toInt64 (S.I 55 x0)))))] mc1 mk2 S (k_84_35 E x0 x1 (mr - mc1) (sr - mk2) Q))))) ∧ (¬ (lg_cmp y1 y0) < 0 → k_84_35 E x0 x1 mr sr Q (some (.inr (.inr (0)))) S))
set_option maxRecDepth 20000 in
set_option maxHeartbeats 4000000 in
theorem f_84_11 {E : ox_E} (hE : ox_mono E) {mr sr : Nat} {x0 : Nat} {x1 : Int64} {y0 : Int64} {y1 : Int64} {S : ox_St} {Q : ox_Q} (h : q_84_11 E x0 x1 y0 y1 S mr sr Q) : k_84_11 E x0 x1 y1 mr sr Q (some (.inr (.inl (y0)))) S := ox_C_fold hE h
set_option maxRecDepth 20000 in
def q_84 (E : ox_E) (x0 : Nat) (x1 : Int64) (S : ox_St) (mr sr : Nat) (Q : ox_Q) : Prop :=
  (((lg_cmp x1 0) < 0 → k_84_35 E x0 x1 mr sr Q (some (.inr (.inr (0)))) S) ∧ (¬ (lg_cmp x1 0) < 0 → (1 ≤ 2 ∧ S.K x0 = 9 ∧ 2 ≤ 8 ∧ ∃ mc1 mk2, mc1 ≤ mr ∧ mk2 ≤ sr ∧ E 83 [.inr (.inr (x0))] mc1 mk2 S (k_84_11 E x0 x1 x1 (mr - mc1) (sr - mk2) Q))))
set_option maxRecDepth 20000 in
set_option maxHeartbeats 4000000 in
theorem f_84 {sp : ox_E} (hsp : ox_mono sp) {d : Nat} {mr sr : Nat} {x0 : Nat} {x1 : Int64} {S : ox_St} {Q : ox_Q} (h : q_84 (ox_M sp d) x0 x1 S mr sr Q) : ox_M sp (d + 1) 84 [.inr (.inr (x0)), .inr (.inl (x1))] mr sr S Q := Or.inr ⟨Nat.le_of_ble_eq_true rfl, ox_C_fold (ox_M_mono hsp d) h⟩
/-! OpcodeFrames$Range.hasSameThree(LOpcodeFrames$Range;)Z -/
set_option maxRecDepth 20000 in
def q_85 (E : ox_E) (x0 : Nat) (x1 : Nat) (S : ox_St) (mr sr : Nat) (Q : ox_Q) : Prop :=
  (ox_has (S.K x0) 53 = true ∧ (ox_has (S.K x1) 53 = true ∧ ((¬ (S.I 53 x0) = (S.I 53 x1) → (((0 : Int32) = 0 ∨ (0 : Int32) = 1) ∧ Q (some (.inl (0 : Int32))) S)) ∧ ((S.I 53 x0) = (S.I 53 x1) → (ox_has (S.K x0) 54 = true ∧ (ox_has (S.K x1) 54 = true ∧ ((¬ (S.I 54 x0) = (S.I 54 x1) → (((0 : Int32) = 0 ∨ (0 : Int32) = 1) ∧ Q (some (.inl (0 : Int32))) S)) ∧ ((S.I 54 x0) = (S.I 54 x1) → (ox_has (S.K x0) 55 = true ∧ (ox_has (S.K x1) 55 = true ∧ ((¬ (S.I 55 x0) = (S.I 55 x1) → (((0 : Int32) = 0 ∨ (0 : Int32) = 1) ∧ Q (some (.inl (0 : Int32))) S)) ∧ ((S.I 55 x0) = (S.I 55 x1) → (((1 : Int32) = 0 ∨ (1 : Int32) = 1) ∧ Q (some (.inl (1 : Int32))) S)))))))))))))
set_option maxRecDepth 20000 in
set_option maxHeartbeats 4000000 in
theorem f_85 {sp : ox_E} (hsp : ox_mono sp) {d : Nat} {mr sr : Nat} {x0 : Nat} {x1 : Nat} {S : ox_St} {Q : ox_Q} (h : q_85 (ox_M sp d) x0 x1 S mr sr Q) : ox_M sp (d + 1) 85 [.inr (.inr (x0)), .inr (.inr (x1))] mr sr S Q := Or.inr ⟨Nat.le_of_ble_eq_true rfl, ox_C_fold (ox_M_mono hsp d) h⟩
/-! OpcodeFrames$Tuple.<init>([LOpcodeFrames$Value;)V -/
def k_86_6 (E : ox_E) (x0 : Nat) (x1 : Nat) (mr sr : Nat) (Q : ox_Q) : ox_Q := fun r_ T_ => ox_C E (ox_mi 86).2.2.2.1 (ox_mc 86) (ox_cut 86) Q 6 [some (.inr (.inr (x0))), some (.inr (.inr (x1))), none, none, none, none] (r_.toList ++ []) T_ mr sr
def c_86_15 (E : ox_E) (x0 : Nat) (x1 : Nat) (x2 : Int32) (x3 : Int32) (S : ox_St) (mr sr : Nat) (Q : ox_Q) : Prop := ox_C E (ox_mi 86).2.2.2.1 (ox_mc 86) (ox_cut 86) Q 15 [some (.inr (.inr (x0))), some (.inr (.inr (x1))), some (.inl (x2)), some (.inl (x3)), none, none] [] S mr sr
set_option maxRecDepth 20000 in
def q_86_15 (E : ox_E) (x0 : Nat) (x1 : Nat) (x2 : Int32) (x3 : Int32) (S : ox_St) (mr sr : Nat) (Q : ox_Q) : Prop :=
  (ox_rdL (S.K x1) = true ∧ (((Int32.ofNat (S.len x1)) ≤ x3 → (ox_has (S.K x0) 57 = true ∧ (let S1 := S.sI 57 x0 (x2 + 1)
  ((ox_mi 86).2.2.2.1 = none ∧ Q none S1)))) ∧ (¬ (Int32.ofNat (S.len x1)) ≤ x3 → (ox_rdR (S.K x1) = true ∧ vp_in x3 (S.len x1) ∧ (((S.rR x1 (Int32.toNatClampNeg x3)) = 0 ∨ ox_isV (S.K (S.rR x1 (Int32.toNatClampNeg x3))) = true) ∧ (((if [10].contains (S.K (S.rR x1 (Int32.toNatClampNeg x3))) = true then (1 : Int32) else 0) = 0 → c_86_15 E x0 x1 x2 (x3 + 1) S mr sr Q) ∧ (¬ (if [10].contains (S.K (S.rR x1 (Int32.toNatClampNeg x3))) = true then (1 : Int32) else 0) = 0 → (((S.rR x1 (Int32.toNatClampNeg x3)) = 0 ∨ [10].contains (S.K (S.rR x1 (Int32.toNatClampNeg x3))) = true) ∧ (ox_has (S.K (S.rR x1 (Int32.toNatClampNeg x3))) 57 = true ∧ (((S.I 57 (S.rR x1 (Int32.toNatClampNeg x3))) ≤ x2 → c_86_15 E x0 x1 x2 (x3 + 1) S mr sr Q) ∧ (¬ (S.I 57 (S.rR x1 (Int32.toNatClampNeg x3))) ≤ x2 → (ox_has (S.K (S.rR x1 (Int32.toNatClampNeg x3))) 57 = true ∧ (let w2 : Int32 := S.I 57 (S.rR x1 (Int32.toNatClampNeg x3))
  c_86_15 E x0 x1 w2 (x3 + 1) S mr sr Q)))))))))))))
set_option maxRecDepth 20000 in
set_option maxHeartbeats 4000000 in
theorem f_86_15 {E : ox_E} (hE : ox_mono E) {mr sr : Nat} {x0 : Nat} {x1 : Nat} {x2 : Int32} {x3 : Int32} {S : ox_St} {Q : ox_Q} (h : q_86_15 E x0 x1 x2 x3 S mr sr Q) : c_86_15 E x0 x1 x2 x3 S mr sr Q := ox_C_fold hE h
set_option maxRecDepth 20000 in
def q_86_6 (E : ox_E) (x0 : Nat) (x1 : Nat) (S : ox_St) (mr sr : Nat) (Q : ox_Q) : Prop :=
  (ox_has (S.K x0) 56 = true ∧ (let S1 := S.sR 56 x0 x1
  c_86_15 E x0 x1 0 0 S1 mr sr Q))
set_option maxRecDepth 20000 in
set_option maxHeartbeats 4000000 in
theorem f_86_6 {E : ox_E} (hE : ox_mono E) {mr sr : Nat} {x0 : Nat} {x1 : Nat} {S : ox_St} {Q : ox_Q} (h : q_86_6 E x0 x1 S mr sr Q) : k_86_6 E x0 x1 mr sr Q none S := ox_C_fold hE h
set_option maxRecDepth 20000 in
def q_86 (E : ox_E) (x0 : Nat) (x1 : Nat) (S : ox_St) (mr sr : Nat) (Q : ox_Q) : Prop :=
  (3 ≤ 3 ∧ x0 ≠ 0 ∧ 0 ≤ 8 ∧ ∃ mc1 mk2, mc1 ≤ mr ∧ mk2 ≤ sr ∧ E 89 [.inr (.inr (x0)), .inl (4), .inl (0)] mc1 mk2 S (k_86_6 E x0 x1 (mr - mc1) (sr - mk2) Q))
set_option maxRecDepth 20000 in
set_option maxHeartbeats 4000000 in
theorem f_86 {sp : ox_E} (hsp : ox_mono sp) {d : Nat} {mr sr : Nat} {x0 : Nat} {x1 : Nat} {S : ox_St} {Q : ox_Q} (h : q_86 (ox_M sp d) x0 x1 S mr sr Q) : ox_M sp (d + 1) 86 [.inr (.inr (x0)), .inr (.inr (x1))] mr sr S Q := Or.inr ⟨Nat.le_of_ble_eq_true rfl, ox_C_fold (ox_M_mono hsp d) h⟩
/-! OpcodeFrames$Tuple.size()J -/
set_option maxRecDepth 20000 in
def q_87 (E : ox_E) (x0 : Nat) (S : ox_St) (mr sr : Nat) (Q : ox_Q) : Prop :=
  (ox_has (S.K x0) 56 = true ∧ (ox_rdL (S.K (S.R 56 x0)) = true ∧ (ox_isL (some .long) = true ∧ Q (some (.inr (.inl (Int32.toInt64 (Int32.ofNat (S.len (S.R 56 x0))))))) S)))
set_option maxRecDepth 20000 in
set_option maxHeartbeats 4000000 in
theorem f_87 {sp : ox_E} (hsp : ox_mono sp) {d : Nat} {mr sr : Nat} {x0 : Nat} {S : ox_St} {Q : ox_Q} (h : q_87 (ox_M sp d) x0 S mr sr Q) : ox_M sp (d + 1) 87 [.inr (.inr (x0))] mr sr S Q := Or.inr ⟨Nat.le_of_ble_eq_true rfl, ox_C_fold (ox_M_mono hsp d) h⟩
/-! OpcodeFrames$Tuple.itemAt(J)LOpcodeFrames$Value; -/
set_option maxRecDepth 20000 in
def q_88 (E : ox_E) (x0 : Nat) (x1 : Int64) (S : ox_St) (mr sr : Nat) (Q : ox_Q) : Prop :=
  (((lg_cmp x1 0) < 0 → (ox_isR (ox_mi 88).2.2.2.1 = true ∧ Q (some (.inr (.inr 0))) S)) ∧ (¬ (lg_cmp x1 0) < 0 → (ox_has (S.K x0) 56 = true ∧ (ox_rdL (S.K (S.R 56 x0)) = true ∧ (((lg_cmp x1 (Int32.toInt64 (Int32.ofNat (S.len (S.R 56 x0))))) < 0 → (ox_has (S.K x0) 56 = true ∧ (ox_rdR (S.K (S.R 56 x0)) = true ∧ vp_in (Int64.toInt32 x1) (S.len (S.R 56 x0)) ∧ (ox_isR (ox_mi 88).2.2.2.1 = true ∧ Q (some (.inr (.inr (S.rR (S.R 56 x0) (Int32.toNatClampNeg (Int64.toInt32 x1)))))) S)))) ∧ (¬ (lg_cmp x1 (Int32.toInt64 (Int32.ofNat (S.len (S.R 56 x0))))) < 0 → (ox_isR (ox_mi 88).2.2.2.1 = true ∧ Q (some (.inr (.inr 0))) S)))))))
set_option maxRecDepth 20000 in
set_option maxHeartbeats 4000000 in
theorem f_88 {sp : ox_E} (hsp : ox_mono sp) {d : Nat} {mr sr : Nat} {x0 : Nat} {x1 : Int64} {S : ox_St} {Q : ox_Q} (h : q_88 (ox_M sp d) x0 x1 S mr sr Q) : ox_M sp (d + 1) 88 [.inr (.inr (x0)), .inr (.inl (x1))] mr sr S Q := Or.inr ⟨Nat.le_of_ble_eq_true rfl, ox_C_fold (ox_M_mono hsp d) h⟩
/-! OpcodeFrames$Value.<init>(II)V -/
set_option maxRecDepth 20000 in
def q_89 (E : ox_E) (x0 : Nat) (x1 : Int32) (x2 : Int32) (S : ox_St) (mr sr : Nat) (Q : ox_Q) : Prop :=
  (x0 ≠ 0 ∧ 0 ≤ 8 ∧ (ox_has (S.K x0) 6 = true ∧ (let S1 := S.sI 6 x0 x1
  (ox_has (S1.K x0) 7 = true ∧ (let S2 := S1.sI 7 x0 x2
  ((ox_mi 89).2.2.2.1 = none ∧ Q none S2))))))
set_option maxRecDepth 20000 in
set_option maxHeartbeats 4000000 in
theorem f_89 {sp : ox_E} (hsp : ox_mono sp) {d : Nat} {mr sr : Nat} {x0 : Nat} {x1 : Int32} {x2 : Int32} {S : ox_St} {Q : ox_Q} (h : q_89 (ox_M sp d) x0 x1 x2 S mr sr Q) : ox_M sp (d + 1) 89 [.inr (.inr (x0)), .inl (x1), .inl (x2)] mr sr S Q := Or.inr ⟨Nat.le_of_ble_eq_true rfl, ox_C_fold (ox_M_mono hsp d) h⟩
/-! OpcodeFrames$Value.size()J -/
set_option maxRecDepth 20000 in
def q_90 (E : ox_E) (x0 : Nat) (S : ox_St) (mr sr : Nat) (Q : ox_Q) : Prop :=
  (ox_isL (some .long) = true ∧ Q (some (.inr (.inl (-1)))) S)
set_option maxRecDepth 20000 in
set_option maxHeartbeats 4000000 in
theorem f_90 {sp : ox_E} (hsp : ox_mono sp) {d : Nat} {mr sr : Nat} {x0 : Nat} {S : ox_St} {Q : ox_Q} (h : q_90 (ox_M sp d) x0 S mr sr Q) : ox_M sp (d + 1) 90 [.inr (.inr (x0))] mr sr S Q := Or.inr ⟨Nat.le_of_ble_eq_true rfl, ox_C_fold (ox_M_mono hsp d) h⟩
/-! OpcodeFrames$Value.itemAt(J)LOpcodeFrames$Value; -/
set_option maxRecDepth 20000 in
def q_91 (E : ox_E) (x0 : Nat) (x1 : Int64) (S : ox_St) (mr sr : Nat) (Q : ox_Q) : Prop :=
  (ox_isR (ox_mi 91).2.2.2.1 = true ∧ Q (some (.inr (.inr 0))) S)
set_option maxRecDepth 20000 in
set_option maxHeartbeats 4000000 in
theorem f_91 {sp : ox_E} (hsp : ox_mono sp) {d : Nat} {mr sr : Nat} {x0 : Nat} {x1 : Int64} {S : ox_St} {Q : ox_Q} (h : q_91 (ox_M sp d) x0 x1 S mr sr Q) : ox_M sp (d + 1) 91 [.inr (.inr (x0)), .inr (.inl (x1))] mr sr S Q := Or.inr ⟨Nat.le_of_ble_eq_true rfl, ox_C_fold (ox_M_mono hsp d) h⟩
/-! OpcodeFrames$Walker.<init>(LOpcodeFrames$Value;)V -/
def k_92_7 (E : ox_E) (x0 : Nat) (x1 : Nat) (mr sr : Nat) (Q : ox_Q) : ox_Q := fun r_ T_ => ox_C E (ox_mi 92).2.2.2.1 (ox_mc 92) (ox_cut 92) Q 7 [some (.inr (.inr (x0))), some (.inr (.inr (x1)))] (r_.toList ++ []) T_ mr sr
set_option maxRecDepth 20000 in
def q_92_7 (E : ox_E) (x0 : Nat) (x1 : Nat) (S : ox_St) (mr sr : Nat) (Q : ox_Q) : Prop :=
  (ox_has (S.K x0) 58 = true ∧ (let S1 := S.sR 58 x0 x1
  ((ox_mi 92).2.2.2.1 = none ∧ Q none S1)))
set_option maxRecDepth 20000 in
set_option maxHeartbeats 4000000 in
theorem f_92_7 {E : ox_E} (hE : ox_mono E) {mr sr : Nat} {x0 : Nat} {x1 : Nat} {S : ox_St} {Q : ox_Q} (h : q_92_7 E x0 x1 S mr sr Q) : k_92_7 E x0 x1 mr sr Q none S := ox_C_fold hE h
set_option maxRecDepth 20000 in
def q_92 (E : ox_E) (x0 : Nat) (x1 : Nat) (S : ox_St) (mr sr : Nat) (Q : ox_Q) : Prop :=
  (3 ≤ 3 ∧ x0 ≠ 0 ∧ 0 ≤ 8 ∧ ∃ mc1 mk2, mc1 ≤ mr ∧ mk2 ≤ sr ∧ E 89 [.inr (.inr (x0)), .inl (6), .inl (0)] mc1 mk2 S (k_92_7 E x0 x1 (mr - mc1) (sr - mk2) Q))
set_option maxRecDepth 20000 in
set_option maxHeartbeats 4000000 in
theorem f_92 {sp : ox_E} (hsp : ox_mono sp) {d : Nat} {mr sr : Nat} {x0 : Nat} {x1 : Nat} {S : ox_St} {Q : ox_Q} (h : q_92 (ox_M sp d) x0 x1 S mr sr Q) : ox_M sp (d + 1) 92 [.inr (.inr (x0)), .inr (.inr (x1))] mr sr S Q := Or.inr ⟨Nat.le_of_ble_eq_true rfl, ox_C_fold (ox_M_mono hsp d) h⟩
/-! OpcodeFrames.endTape()V -/
def k_93_15 (E : ox_E) (x0 : Nat) (mr sr : Nat) (Q : ox_Q) : ox_Q := fun r_ T_ => ox_C E (ox_mi 93).2.2.2.1 (ox_mc 93) (ox_cut 93) Q 15 [some (.inr (.inr (x0)))] (r_.toList ++ []) T_ mr sr
set_option maxRecDepth 20000 in
def q_93_15 (E : ox_E) (x0 : Nat) (S : ox_St) (mr sr : Nat) (Q : ox_Q) : Prop :=
  (ox_has (S.K x0) 61 = true ∧ (let S1 := S.sI 61 x0 0
  ((ox_mi 93).2.2.2.1 = none ∧ Q none S1)))
set_option maxRecDepth 20000 in
set_option maxHeartbeats 4000000 in
theorem f_93_15 {E : ox_E} (hE : ox_mono E) {mr sr : Nat} {x0 : Nat} {S : ox_St} {Q : ox_Q} (h : q_93_15 E x0 S mr sr Q) : k_93_15 E x0 mr sr Q none S := ox_C_fold hE h
set_option maxRecDepth 20000 in
def q_93 (E : ox_E) (x0 : Nat) (S : ox_St) (mr sr : Nat) (Q : ox_Q) : Prop :=
  (ox_has (S.K x0) 62 = true ∧ (ox_has (S.K x0) 61 = true ∧ (((S.I 61 x0) ≤ (S.I 62 x0) → k_93_15 E x0 mr sr Q none S) ∧ (¬ (S.I 61 x0) ≤ (S.I 62 x0) → (1 ≤ 1 ∧ S.K x0 = 13 ∧ 0 ≤ 8 ∧ ∃ mc1 mk2, mc1 ≤ mr ∧ mk2 ≤ sr ∧ E 113 [.inr (.inr (x0))] mc1 mk2 S (k_93_15 E x0 (mr - mc1) (sr - mk2) Q))))))
set_option maxRecDepth 20000 in
set_option maxHeartbeats 4000000 in
theorem f_93 {sp : ox_E} (hsp : ox_mono sp) {d : Nat} {mr sr : Nat} {x0 : Nat} {S : ox_St} {Q : ox_Q} (h : q_93 (ox_M sp d) x0 S mr sr Q) : ox_M sp (d + 1) 93 [.inr (.inr (x0))] mr sr S Q := Or.inr ⟨Nat.le_of_ble_eq_true rfl, ox_C_fold (ox_M_mono hsp d) h⟩
