/-! java/util/AbstractCollection.<init>()V -/
set_option maxRecDepth 20000 in
def q_217 (E : ox_E) (x0 : Nat) (S : ox_St) (mr sr : Nat) (Q : ox_Q) : Prop :=
  (x0 ≠ 0 ∧ 0 ≤ 8 ∧ ((ox_mi 217).2.2.2.1 = none ∧ Q none S))
set_option maxRecDepth 20000 in
set_option maxHeartbeats 4000000 in
theorem f_217 {sp : ox_E} (hsp : ox_mono sp) {d : Nat} {mr sr : Nat} {x0 : Nat} {S : ox_St} {Q : ox_Q} (h : q_217 (ox_M sp d) x0 S mr sr Q) : ox_M sp (d + 1) 217 [.inr (.inr (x0))] mr sr S Q := Or.inr ⟨Nat.le_of_ble_eq_true rfl, ox_C_fold (ox_M_mono hsp d) h⟩
/-! java/util/AbstractList.<init>()V -/
def k_218_4 (E : ox_E) (x0 : Nat) (mr sr : Nat) (Q : ox_Q) : ox_Q := fun r_ T_ => ox_C E (ox_mi 218).2.2.2.1 (ox_mc 218) (ox_cut 218) Q 4 [some (.inr (.inr (x0)))] (r_.toList ++ []) T_ mr sr
set_option maxRecDepth 20000 in
def q_218_4 (E : ox_E) (x0 : Nat) (S : ox_St) (mr sr : Nat) (Q : ox_Q) : Prop :=
  (ox_has (S.K x0) 0 = true ∧ (let S1 := S.sI 0 x0 0
  ((ox_mi 218).2.2.2.1 = none ∧ Q none S1)))
set_option maxRecDepth 20000 in
set_option maxHeartbeats 4000000 in
theorem f_218_4 {E : ox_E} (hE : ox_mono E) {mr sr : Nat} {x0 : Nat} {S : ox_St} {Q : ox_Q} (h : q_218_4 E x0 S mr sr Q) : k_218_4 E x0 mr sr Q none S := ox_C_fold hE h
set_option maxRecDepth 20000 in
def q_218 (E : ox_E) (x0 : Nat) (S : ox_St) (mr sr : Nat) (Q : ox_Q) : Prop :=
  (1 ≤ 1 ∧ x0 ≠ 0 ∧ 0 ≤ 8 ∧ ∃ mc1 mk2, mc1 ≤ mr ∧ mk2 ≤ sr ∧ E 217 [.inr (.inr (x0))] mc1 mk2 S (k_218_4 E x0 (mr - mc1) (sr - mk2) Q))
set_option maxRecDepth 20000 in
set_option maxHeartbeats 4000000 in
theorem f_218 {sp : ox_E} (hsp : ox_mono sp) {d : Nat} {mr sr : Nat} {x0 : Nat} {S : ox_St} {Q : ox_Q} (h : q_218 (ox_M sp d) x0 S mr sr Q) : ox_M sp (d + 1) 218 [.inr (.inr (x0))] mr sr S Q := Or.inr ⟨Nat.le_of_ble_eq_true rfl, ox_C_fold (ox_M_mono hsp d) h⟩
/-! java/util/ArrayList.<init>()V -/
def k_219_4 (E : ox_E) (x0 : Nat) (mr sr : Nat) (Q : ox_Q) : ox_Q := fun r_ T_ => ox_C E (ox_mi 219).2.2.2.1 (ox_mc 219) (ox_cut 219) Q 4 [some (.inr (.inr (x0)))] (r_.toList ++ []) T_ mr sr
set_option maxRecDepth 20000 in
def q_219_4 (E : ox_E) (x0 : Nat) (S : ox_St) (mr sr : Nat) (Q : ox_Q) : Prop :=
  (ox_has (S.K x0) 1 = true ∧ (let S1 := S.sR 1 x0 (S.R 142 0)
  ((ox_mi 219).2.2.2.1 = none ∧ Q none S1)))
set_option maxRecDepth 20000 in
set_option maxHeartbeats 4000000 in
theorem f_219_4 {E : ox_E} (hE : ox_mono E) {mr sr : Nat} {x0 : Nat} {S : ox_St} {Q : ox_Q} (h : q_219_4 E x0 S mr sr Q) : k_219_4 E x0 mr sr Q none S := ox_C_fold hE h
set_option maxRecDepth 20000 in
def q_219 (E : ox_E) (x0 : Nat) (S : ox_St) (mr sr : Nat) (Q : ox_Q) : Prop :=
  (1 ≤ 1 ∧ x0 ≠ 0 ∧ 0 ≤ 8 ∧ ∃ mc1 mk2, mc1 ≤ mr ∧ mk2 ≤ sr ∧ E 218 [.inr (.inr (x0))] mc1 mk2 S (k_219_4 E x0 (mr - mc1) (sr - mk2) Q))
set_option maxRecDepth 20000 in
set_option maxHeartbeats 4000000 in
theorem f_219 {sp : ox_E} (hsp : ox_mono sp) {d : Nat} {mr sr : Nat} {x0 : Nat} {S : ox_St} {Q : ox_Q} (h : q_219 (ox_M sp d) x0 S mr sr Q) : ox_M sp (d + 1) 219 [.inr (.inr (x0))] mr sr S Q := Or.inr ⟨Nat.le_of_ble_eq_true rfl, ox_C_fold (ox_M_mono hsp d) h⟩
/-! java/util/ArrayList.grow(I)[Ljava/lang/Object; -/
def k_220_30 (E : ox_E) (x0 : Nat) (x1 : Int32) (x2 : Int32) (mr sr : Nat) (Q : ox_Q) : ox_Q := fun r_ T_ => ox_C E (ox_mi 220).2.2.2.1 (ox_mc 220) (ox_cut 220) Q 30 [some (.inr (.inr (x0))), some (.inl (x1)), some (.inl (x2)), none] (r_.toList ++ []) T_ mr sr
def k_220_40 (E : ox_E) (x0 : Nat) (x1 : Int32) (x2 : Int32) (x3 : Int32) (y1 : Nat) (mr sr : Nat) (Q : ox_Q) : ox_Q := fun r_ T_ => ox_C E (ox_mi 220).2.2.2.1 (ox_mc 220) (ox_cut 220) Q 40 [some (.inr (.inr (x0))), some (.inl (x1)), some (.inl (x2)), some (.inl (x3))] (r_.toList ++ [.inr (.inr (y1))]) T_ mr sr
set_option maxRecDepth 20000 in
def q_220_40 (E : ox_E) (x0 : Nat) (x1 : Int32) (x2 : Int32) (x3 : Int32) (y0 : Nat) (y1 : Nat) (S : ox_St) (mr sr : Nat) (Q : ox_Q) : Prop :=
  (ox_has (S.K y1) 1 = true ∧ (let S1 := S.sR 1 y1 y0
  (ox_isR (ox_mi 220).2.2.2.1 = true ∧ Q (some (.inr (.inr y0))) S1)))
set_option maxRecDepth 20000 in
set_option maxHeartbeats 4000000 in
theorem f_220_40 {E : ox_E} (hE : ox_mono E) {mr sr : Nat} {x0 : Nat} {x1 : Int32} {x2 : Int32} {x3 : Int32} {y0 : Nat} {y1 : Nat} {S : ox_St} {Q : ox_Q} (h : q_220_40 E x0 x1 x2 x3 y0 y1 S mr sr Q) : k_220_40 E x0 x1 x2 x3 y1 mr sr Q (some (.inr (.inr (y0)))) S := ox_C_fold hE h
set_option maxRecDepth 20000 in
def q_220_30 (E : ox_E) (x0 : Nat) (x1 : Int32) (x2 : Int32) (y0 : Int32) (S : ox_St) (mr sr : Nat) (Q : ox_Q) : Prop :=
  (ox_has (S.K x0) 1 = true ∧ (2 ≤ 3 ∧ 1 ≤ 8 ∧ ∃ mc1 mk2, mc1 ≤ mr ∧ mk2 ≤ sr ∧ E 229 [.inr (.inr (S.R 1 x0)), .inl (y0)] mc1 mk2 S (k_220_40 E x0 x1 x2 y0 x0 (mr - mc1) (sr - mk2) Q)))
set_option maxRecDepth 20000 in
set_option maxHeartbeats 4000000 in
theorem f_220_30 {E : ox_E} (hE : ox_mono E) {mr sr : Nat} {x0 : Nat} {x1 : Int32} {x2 : Int32} {y0 : Int32} {S : ox_St} {Q : ox_Q} (h : q_220_30 E x0 x1 x2 y0 S mr sr Q) : k_220_30 E x0 x1 x2 mr sr Q (some (.inl (y0))) S := ox_C_fold hE h
set_option maxRecDepth 20000 in
def q_220 (E : ox_E) (x0 : Nat) (x1 : Int32) (S : ox_St) (mr sr : Nat) (Q : ox_Q) : Prop :=
  (ox_has (S.K x0) 1 = true ∧ (ox_rdL (S.K (S.R 1 x0)) = true ∧ (let w1 : Int32 := Int32.ofNat (S.len (S.R 1 x0))
  (((0 : Int32) < w1 → (3 ≤ 3 ∧ 0 ≤ 8 ∧ ∃ mc2 mk3, mc2 ≤ mr ∧ mk3 ≤ sr ∧ E 233 [.inl (w1), .inl (x1 - w1), .inl (w1 >>> (1 &&& 31))] mc2 mk3 S (k_220_30 E x0 x1 w1 (mr - mc2) (sr - mk3) Q))) ∧ (¬ (0 : Int32) < w1 → (ox_has (S.K x0) 1 = true ∧ (((S.R 1 x0) = (S.R 142 0) → (1 ≤ 8 ∧ (¬ (if (10 : Int32) < x1 then x1 else (10 : Int32)) < 0 ∧ (Int32.toNatClampNeg (if (10 : Int32) < x1 then x1 else (10 : Int32))) ≤ 67108864 ∧ 1 ≤ mr ∧ (Int32.toNatClampNeg (if (10 : Int32) < x1 then x1 else (10 : Int32))) ≤ sr ∧ (let S4 := S.newA 20 (Int32.toNatClampNeg (if (10 : Int32) < x1 then x1 else (10 : Int32)))
  (ox_has (S4.K x0) 1 = true ∧ (let S5 := S4.sR 1 x0 S.n
  (ox_isR (ox_mi 220).2.2.2.1 = true ∧ Q (some (.inr (.inr S.n))) S5))))))) ∧ (¬ (S.R 1 x0) = (S.R 142 0) → (3 ≤ 3 ∧ 0 ≤ 8 ∧ ∃ mc6 mk7, mc6 ≤ mr ∧ mk7 ≤ sr ∧ E 233 [.inl (w1), .inl (x1 - w1), .inl (w1 >>> (1 &&& 31))] mc6 mk7 S (k_220_30 E x0 x1 w1 (mr - mc6) (sr - mk7) Q))))))))))
set_option maxRecDepth 20000 in
set_option maxHeartbeats 4000000 in
theorem f_220 {sp : ox_E} (hsp : ox_mono sp) {d : Nat} {mr sr : Nat} {x0 : Nat} {x1 : Int32} {S : ox_St} {Q : ox_Q} (h : q_220 (ox_M sp d) x0 x1 S mr sr Q) : ox_M sp (d + 1) 220 [.inr (.inr (x0)), .inl (x1)] mr sr S Q := Or.inr ⟨Nat.le_of_ble_eq_true rfl, ox_C_fold (ox_M_mono hsp d) h⟩
/-! java/util/ArrayList.grow()[Ljava/lang/Object; -/
def k_221_10 (E : ox_E) (x0 : Nat) (mr sr : Nat) (Q : ox_Q) : ox_Q := fun r_ T_ => ox_C E (ox_mi 221).2.2.2.1 (ox_mc 221) (ox_cut 221) Q 10 [some (.inr (.inr (x0)))] (r_.toList ++ []) T_ mr sr
set_option maxRecDepth 20000 in
def q_221_10 (E : ox_E) (x0 : Nat) (y0 : Nat) (S : ox_St) (mr sr : Nat) (Q : ox_Q) : Prop :=
  (ox_isR (ox_mi 221).2.2.2.1 = true ∧ Q (some (.inr (.inr y0))) S)
set_option maxRecDepth 20000 in
set_option maxHeartbeats 4000000 in
theorem f_221_10 {E : ox_E} (hE : ox_mono E) {mr sr : Nat} {x0 : Nat} {y0 : Nat} {S : ox_St} {Q : ox_Q} (h : q_221_10 E x0 y0 S mr sr Q) : k_221_10 E x0 mr sr Q (some (.inr (.inr (y0)))) S := ox_C_fold hE h
set_option maxRecDepth 20000 in
def q_221 (E : ox_E) (x0 : Nat) (S : ox_St) (mr sr : Nat) (Q : ox_Q) : Prop :=
  (ox_has (S.K x0) 2 = true ∧ (2 ≤ 2 ∧ S.K x0 = 1 ∧ 0 ≤ 8 ∧ ∃ mc1 mk2, mc1 ≤ mr ∧ mk2 ≤ sr ∧ E 220 [.inr (.inr (x0)), .inl ((S.I 2 x0) + 1)] mc1 mk2 S (k_221_10 E x0 (mr - mc1) (sr - mk2) Q)))
set_option maxRecDepth 20000 in
set_option maxHeartbeats 4000000 in
theorem f_221 {sp : ox_E} (hsp : ox_mono sp) {d : Nat} {mr sr : Nat} {x0 : Nat} {S : ox_St} {Q : ox_Q} (h : q_221 (ox_M sp d) x0 S mr sr Q) : ox_M sp (d + 1) 221 [.inr (.inr (x0))] mr sr S Q := Or.inr ⟨Nat.le_of_ble_eq_true rfl, ox_C_fold (ox_M_mono hsp d) h⟩
/-! java/util/ArrayList.size()I -/
set_option maxRecDepth 20000 in
def q_222 (E : ox_E) (x0 : Nat) (S : ox_St) (mr sr : Nat) (Q : ox_Q) : Prop :=
  (ox_has (S.K x0) 2 = true ∧ (True ∧ Q (some (.inl (S.I 2 x0))) S))
set_option maxRecDepth 20000 in
set_option maxHeartbeats 4000000 in
theorem f_222 {sp : ox_E} (hsp : ox_mono sp) {d : Nat} {mr sr : Nat} {x0 : Nat} {S : ox_St} {Q : ox_Q} (h : q_222 (ox_M sp d) x0 S mr sr Q) : ox_M sp (d + 1) 222 [.inr (.inr (x0))] mr sr S Q := Or.inr ⟨Nat.le_of_ble_eq_true rfl, ox_C_fold (ox_M_mono hsp d) h⟩
/-! java/util/ArrayList.elementData(I)Ljava/lang/Object; -/
set_option maxRecDepth 20000 in
def q_223 (E : ox_E) (x0 : Nat) (x1 : Int32) (S : ox_St) (mr sr : Nat) (Q : ox_Q) : Prop :=
  (ox_has (S.K x0) 1 = true ∧ (ox_rdR (S.K (S.R 1 x0)) = true ∧ vp_in x1 (S.len (S.R 1 x0)) ∧ (ox_isR (ox_mi 223).2.2.2.1 = true ∧ Q (some (.inr (.inr (S.rR (S.R 1 x0) (Int32.toNatClampNeg x1))))) S)))
set_option maxRecDepth 20000 in
set_option maxHeartbeats 4000000 in
theorem f_223 {sp : ox_E} (hsp : ox_mono sp) {d : Nat} {mr sr : Nat} {x0 : Nat} {x1 : Int32} {S : ox_St} {Q : ox_Q} (h : q_223 (ox_M sp d) x0 x1 S mr sr Q) : ox_M sp (d + 1) 223 [.inr (.inr (x0)), .inl (x1)] mr sr S Q := Or.inr ⟨Nat.le_of_ble_eq_true rfl, ox_C_fold (ox_M_mono hsp d) h⟩
/-! java/util/ArrayList.get(I)Ljava/lang/Object; -/
def k_224_8 (E : ox_E) (x0 : Nat) (x1 : Int32) (mr sr : Nat) (Q : ox_Q) : ox_Q := fun r_ T_ => ox_C E (ox_mi 224).2.2.2.1 (ox_mc 224) (ox_cut 224) Q 8 [some (.inr (.inr (x0))), some (.inl (x1))] (r_.toList ++ []) T_ mr sr
def k_224_14 (E : ox_E) (x0 : Nat) (x1 : Int32) (mr sr : Nat) (Q : ox_Q) : ox_Q := fun r_ T_ => ox_C E (ox_mi 224).2.2.2.1 (ox_mc 224) (ox_cut 224) Q 14 [some (.inr (.inr (x0))), some (.inl (x1))] (r_.toList ++ []) T_ mr sr
set_option maxRecDepth 20000 in
def q_224_14 (E : ox_E) (x0 : Nat) (x1 : Int32) (y0 : Nat) (S : ox_St) (mr sr : Nat) (Q : ox_Q) : Prop :=
  (ox_isR (ox_mi 224).2.2.2.1 = true ∧ Q (some (.inr (.inr y0))) S)
set_option maxRecDepth 20000 in
set_option maxHeartbeats 4000000 in
theorem f_224_14 {E : ox_E} (hE : ox_mono E) {mr sr : Nat} {x0 : Nat} {x1 : Int32} {y0 : Nat} {S : ox_St} {Q : ox_Q} (h : q_224_14 E x0 x1 y0 S mr sr Q) : k_224_14 E x0 x1 mr sr Q (some (.inr (.inr (y0)))) S := ox_C_fold hE h
set_option maxRecDepth 20000 in
def q_224_8 (E : ox_E) (x0 : Nat) (x1 : Int32) (y0 : Int32) (S : ox_St) (mr sr : Nat) (Q : ox_Q) : Prop :=
  (2 ≤ 2 ∧ S.K x0 = 1 ∧ 0 ≤ 8 ∧ ∃ mc1 mk2, mc1 ≤ mr ∧ mk2 ≤ sr ∧ E 223 [.inr (.inr (x0)), .inl (x1)] mc1 mk2 S (k_224_14 E x0 x1 (mr - mc1) (sr - mk2) Q))
set_option maxRecDepth 20000 in
set_option maxHeartbeats 4000000 in
theorem f_224_8 {E : ox_E} (hE : ox_mono E) {mr sr : Nat} {x0 : Nat} {x1 : Int32} {y0 : Int32} {S : ox_St} {Q : ox_Q} (h : q_224_8 E x0 x1 y0 S mr sr Q) : k_224_8 E x0 x1 mr sr Q (some (.inl (y0))) S := ox_C_fold hE h
set_option maxRecDepth 20000 in
def q_224 (E : ox_E) (x0 : Nat) (x1 : Int32) (S : ox_St) (mr sr : Nat) (Q : ox_Q) : Prop :=
  (ox_has (S.K x0) 2 = true ∧ (2 ≤ 2 ∧ 0 ≤ 8 ∧ ∃ mc1 mk2, mc1 ≤ mr ∧ mk2 ≤ sr ∧ E 232 [.inl (x1), .inl (S.I 2 x0)] mc1 mk2 S (k_224_8 E x0 x1 (mr - mc1) (sr - mk2) Q)))
set_option maxRecDepth 20000 in
set_option maxHeartbeats 4000000 in
theorem f_224 {sp : ox_E} (hsp : ox_mono sp) {d : Nat} {mr sr : Nat} {x0 : Nat} {x1 : Int32} {S : ox_St} {Q : ox_Q} (h : q_224 (ox_M sp d) x0 x1 S mr sr Q) : ox_M sp (d + 1) 224 [.inr (.inr (x0)), .inl (x1)] mr sr S Q := Or.inr ⟨Nat.le_of_ble_eq_true rfl, ox_C_fold (ox_M_mono hsp d) h⟩
/-! java/util/ArrayList.add(Ljava/lang/Object;[Ljava/lang/Object;I)V -/
def k_225_10 (E : ox_E) (x0 : Nat) (x1 : Nat) (x2 : Nat) (x3 : Int32) (mr sr : Nat) (Q : ox_Q) : ox_Q := fun r_ T_ => ox_C E (ox_mi 225).2.2.2.1 (ox_mc 225) (ox_cut 225) Q 10 [some (.inr (.inr (x0))), some (.inr (.inr (x1))), some (.inr (.inr (x2))), some (.inl (x3))] (r_.toList ++ []) T_ mr sr
set_option maxRecDepth 20000 in
def q_225_10 (E : ox_E) (x0 : Nat) (x1 : Nat) (x2 : Nat) (x3 : Int32) (y0 : Nat) (S : ox_St) (mr sr : Nat) (Q : ox_Q) : Prop :=
  (ox_rdR (S.K y0) = true ∧ vp_in x3 (S.len y0) ∧ (x1 = 0 ∨ ox_asg (S.K y0) (S.K x1) = true) ∧ (let S1 := S.wR y0 (Int32.toNatClampNeg x3) x1
  (ox_has (S1.K x0) 2 = true ∧ (let S2 := S1.sI 2 x0 (x3 + 1)
  ((ox_mi 225).2.2.2.1 = none ∧ Q none S2)))))
set_option maxRecDepth 20000 in
set_option maxHeartbeats 4000000 in
theorem f_225_10 {E : ox_E} (hE : ox_mono E) {mr sr : Nat} {x0 : Nat} {x1 : Nat} {x2 : Nat} {x3 : Int32} {y0 : Nat} {S : ox_St} {Q : ox_Q} (h : q_225_10 E x0 x1 x2 x3 y0 S mr sr Q) : k_225_10 E x0 x1 x2 x3 mr sr Q (some (.inr (.inr (y0)))) S := ox_C_fold hE h
set_option maxRecDepth 20000 in
def q_225 (E : ox_E) (x0 : Nat) (x1 : Nat) (x2 : Nat) (x3 : Int32) (S : ox_St) (mr sr : Nat) (Q : ox_Q) : Prop :=
  (ox_rdL (S.K x2) = true ∧ ((¬ x3 = (Int32.ofNat (S.len x2)) → (ox_rdR (S.K x2) = true ∧ vp_in x3 (S.len x2) ∧ (x1 = 0 ∨ ox_asg (S.K x2) (S.K x1) = true) ∧ (let S1 := S.wR x2 (Int32.toNatClampNeg x3) x1
  (ox_has (S1.K x0) 2 = true ∧ (let S2 := S1.sI 2 x0 (x3 + 1)
  ((ox_mi 225).2.2.2.1 = none ∧ Q none S2)))))) ∧ (x3 = (Int32.ofNat (S.len x2)) → (1 ≤ 1 ∧ S.K x0 = 1 ∧ 0 ≤ 8 ∧ ∃ mc3 mk4, mc3 ≤ mr ∧ mk4 ≤ sr ∧ E 221 [.inr (.inr (x0))] mc3 mk4 S (k_225_10 E x0 x1 x2 x3 (mr - mc3) (sr - mk4) Q)))))
set_option maxRecDepth 20000 in
set_option maxHeartbeats 4000000 in
theorem f_225 {sp : ox_E} (hsp : ox_mono sp) {d : Nat} {mr sr : Nat} {x0 : Nat} {x1 : Nat} {x2 : Nat} {x3 : Int32} {S : ox_St} {Q : ox_Q} (h : q_225 (ox_M sp d) x0 x1 x2 x3 S mr sr Q) : ox_M sp (d + 1) 225 [.inr (.inr (x0)), .inr (.inr (x1)), .inr (.inr (x2)), .inl (x3)] mr sr S Q := Or.inr ⟨Nat.le_of_ble_eq_true rfl, ox_C_fold (ox_M_mono hsp d) h⟩
/-! java/util/ArrayList.add(Ljava/lang/Object;)Z -/
def k_226_23 (E : ox_E) (x0 : Nat) (x1 : Nat) (mr sr : Nat) (Q : ox_Q) : ox_Q := fun r_ T_ => ox_C E (ox_mi 226).2.2.2.1 (ox_mc 226) (ox_cut 226) Q 23 [some (.inr (.inr (x0))), some (.inr (.inr (x1)))] (r_.toList ++ []) T_ mr sr
set_option maxRecDepth 20000 in
def q_226_23 (E : ox_E) (x0 : Nat) (x1 : Nat) (S : ox_St) (mr sr : Nat) (Q : ox_Q) : Prop :=
  (((1 : Int32) = 0 ∨ (1 : Int32) = 1) ∧ Q (some (.inl (1 : Int32))) S)
set_option maxRecDepth 20000 in
set_option maxHeartbeats 4000000 in
theorem f_226_23 {E : ox_E} (hE : ox_mono E) {mr sr : Nat} {x0 : Nat} {x1 : Nat} {S : ox_St} {Q : ox_Q} (h : q_226_23 E x0 x1 S mr sr Q) : k_226_23 E x0 x1 mr sr Q none S := ox_C_fold hE h
set_option maxRecDepth 20000 in
def q_226 (E : ox_E) (x0 : Nat) (x1 : Nat) (S : ox_St) (mr sr : Nat) (Q : ox_Q) : Prop :=
  (ox_has (S.K x0) 0 = true ∧ (ox_has (S.K x0) 0 = true ∧ (let S1 := S.sI 0 x0 ((S.I 0 x0) + 1)
  (ox_has (S1.K x0) 1 = true ∧ (ox_has (S1.K x0) 2 = true ∧ (4 ≤ 4 ∧ S1.K x0 = 1 ∧ 0 ≤ 8 ∧ ∃ mc2 mk3, mc2 ≤ mr ∧ mk3 ≤ sr ∧ E 225 [.inr (.inr (x0)), .inr (.inr (x1)), .inr (.inr (S1.R 1 x0)), .inl (S1.I 2 x0)] mc2 mk3 S1 (k_226_23 E x0 x1 (mr - mc2) (sr - mk3) Q)))))))
set_option maxRecDepth 20000 in
set_option maxHeartbeats 4000000 in
theorem f_226 {sp : ox_E} (hsp : ox_mono sp) {d : Nat} {mr sr : Nat} {x0 : Nat} {x1 : Nat} {S : ox_St} {Q : ox_Q} (h : q_226 (ox_M sp d) x0 x1 S mr sr Q) : ox_M sp (d + 1) 226 [.inr (.inr (x0)), .inr (.inr (x1))] mr sr S Q := Or.inr ⟨Nat.le_of_ble_eq_true rfl, ox_C_fold (ox_M_mono hsp d) h⟩
/-! java/util/ArrayList.clear()V -/
def c_227_27 (E : ox_E) (x0 : Nat) (x1 : Nat) (x2 : Int32) (x3 : Int32) (S : ox_St) (mr sr : Nat) (Q : ox_Q) : Prop := ox_C E (ox_mi 227).2.2.2.1 (ox_mc 227) (ox_cut 227) Q 27 [some (.inr (.inr (x0))), some (.inr (.inr (x1))), some (.inl (x2)), some (.inl (x3))] [] S mr sr
set_option maxRecDepth 20000 in
def q_227_27 (E : ox_E) (x0 : Nat) (x1 : Nat) (x2 : Int32) (x3 : Int32) (S : ox_St) (mr sr : Nat) (Q : ox_Q) : Prop :=
  ((x2 ≤ x3 → ((ox_mi 227).2.2.2.1 = none ∧ Q none S)) ∧ (¬ x2 ≤ x3 → (ox_rdR (S.K x1) = true ∧ vp_in x3 (S.len x1) ∧ (0 = 0 ∨ ox_asg (S.K x1) (S.K 0) = true) ∧ (let S1 := S.wR x1 (Int32.toNatClampNeg x3) 0
  c_227_27 E x0 x1 x2 (x3 + 1) S1 mr sr Q))))
set_option maxRecDepth 20000 in
set_option maxHeartbeats 4000000 in
theorem f_227_27 {E : ox_E} (hE : ox_mono E) {mr sr : Nat} {x0 : Nat} {x1 : Nat} {x2 : Int32} {x3 : Int32} {S : ox_St} {Q : ox_Q} (h : q_227_27 E x0 x1 x2 x3 S mr sr Q) : c_227_27 E x0 x1 x2 x3 S mr sr Q := ox_C_fold hE h
set_option maxRecDepth 20000 in
def q_227 (E : ox_E) (x0 : Nat) (S : ox_St) (mr sr : Nat) (Q : ox_Q) : Prop :=
  (ox_has (S.K x0) 0 = true ∧ (ox_has (S.K x0) 0 = true ∧ (let S1 := S.sI 0 x0 ((S.I 0 x0) + 1)
  (ox_has (S1.K x0) 1 = true ∧ (ox_has (S1.K x0) 2 = true ∧ (let w2 : Int32 := S1.I 2 x0
  (ox_has (S1.K x0) 2 = true ∧ (let S3 := S1.sI 2 x0 0
  c_227_27 E x0 (S1.R 1 x0) w2 0 S3 mr sr Q))))))))
set_option maxRecDepth 20000 in
set_option maxHeartbeats 4000000 in
theorem f_227 {sp : ox_E} (hsp : ox_mono sp) {d : Nat} {mr sr : Nat} {x0 : Nat} {S : ox_St} {Q : ox_Q} (h : q_227 (ox_M sp d) x0 S mr sr Q) : ox_M sp (d + 1) 227 [.inr (.inr (x0))] mr sr S Q := Or.inr ⟨Nat.le_of_ble_eq_true rfl, ox_C_fold (ox_M_mono hsp d) h⟩
/-! java/util/Arrays.fill([II)V -/
def c_228_5 (E : ox_E) (x0 : Nat) (x1 : Int32) (x2 : Int32) (x3 : Int32) (S : ox_St) (mr sr : Nat) (Q : ox_Q) : Prop := ox_C E (ox_mi 228).2.2.2.1 (ox_mc 228) (ox_cut 228) Q 5 [some (.inr (.inr (x0))), some (.inl (x1)), some (.inl (x2)), some (.inl (x3))] [] S mr sr
set_option maxRecDepth 20000 in
def q_228_5 (E : ox_E) (x0 : Nat) (x1 : Int32) (x2 : Int32) (x3 : Int32) (S : ox_St) (mr sr : Nat) (Q : ox_Q) : Prop :=
  ((x3 ≤ x2 → ((ox_mi 228).2.2.2.1 = none ∧ Q none S)) ∧ (¬ x3 ≤ x2 → (S.K x0 = 15 ∧ vp_in x2 (S.len x0) ∧ (let S1 := S.wI x0 (Int32.toNatClampNeg x2) x1
  c_228_5 E x0 x1 (x2 + 1) x3 S1 mr sr Q))))
set_option maxRecDepth 20000 in
set_option maxHeartbeats 4000000 in
theorem f_228_5 {E : ox_E} (hE : ox_mono E) {mr sr : Nat} {x0 : Nat} {x1 : Int32} {x2 : Int32} {x3 : Int32} {S : ox_St} {Q : ox_Q} (h : q_228_5 E x0 x1 x2 x3 S mr sr Q) : c_228_5 E x0 x1 x2 x3 S mr sr Q := ox_C_fold hE h
set_option maxRecDepth 20000 in
def q_228 (E : ox_E) (x0 : Nat) (x1 : Int32) (S : ox_St) (mr sr : Nat) (Q : ox_Q) : Prop :=
  (ox_rdL (S.K x0) = true ∧ (let w1 : Int32 := Int32.ofNat (S.len x0)
  c_228_5 E x0 x1 0 w1 S mr sr Q))
set_option maxRecDepth 20000 in
set_option maxHeartbeats 4000000 in
theorem f_228 {sp : ox_E} (hsp : ox_mono sp) {d : Nat} {mr sr : Nat} {x0 : Nat} {x1 : Int32} {S : ox_St} {Q : ox_Q} (h : q_228 (ox_M sp d) x0 x1 S mr sr Q) : ox_M sp (d + 1) 228 [.inr (.inr (x0)), .inl (x1)] mr sr S Q := Or.inr ⟨Nat.le_of_ble_eq_true rfl, ox_C_fold (ox_M_mono hsp d) h⟩
/-! java/util/Arrays.copyOf([Ljava/lang/Object;I)[Ljava/lang/Object; -/
set_option maxRecDepth 20000 in
def q_229 (E : ox_E) (x0 : Nat) (x1 : Int32) (S : ox_St) (mr sr : Nat) (Q : ox_Q) : Prop :=
  False
set_option maxRecDepth 20000 in
set_option maxHeartbeats 4000000 in
theorem f_229 {sp : ox_E} (hsp : ox_mono sp) {d : Nat} {mr sr : Nat} {x0 : Nat} {x1 : Int32} {S : ox_St} {Q : ox_Q} (h : q_229 (ox_M sp d) x0 x1 S mr sr Q) : ox_M sp (d + 1) 229 [.inr (.inr (x0)), .inl (x1)] mr sr S Q := Or.inr ⟨Nat.le_of_ble_eq_true rfl, ox_C_fold (ox_M_mono hsp d) h⟩
/-! java/util/Arrays.copyOf([Ljava/lang/Object;ILjava/lang/Class;)[Ljava/lang/Object; -/
set_option maxRecDepth 20000 in
def q_230 (E : ox_E) (x0 : Nat) (x1 : Int32) (x2 : Nat) (S : ox_St) (mr sr : Nat) (Q : ox_Q) : Prop :=
  False
set_option maxRecDepth 20000 in
set_option maxHeartbeats 4000000 in
theorem f_230 {sp : ox_E} (hsp : ox_mono sp) {d : Nat} {mr sr : Nat} {x0 : Nat} {x1 : Int32} {x2 : Nat} {S : ox_St} {Q : ox_Q} (h : q_230 (ox_M sp d) x0 x1 x2 S mr sr Q) : ox_M sp (d + 1) 230 [.inr (.inr (x0)), .inl (x1), .inr (.inr (x2))] mr sr S Q := Or.inr ⟨Nat.le_of_ble_eq_true rfl, ox_C_fold (ox_M_mono hsp d) h⟩
/-! java/util/Arrays.copyOf([II)[I -/
set_option maxRecDepth 20000 in
def q_231 (E : ox_E) (x0 : Nat) (x1 : Int32) (S : ox_St) (mr sr : Nat) (Q : ox_Q) : Prop :=
  (ox_rdL (S.K x0) = true ∧ ((¬ x1 = (Int32.ofNat (S.len x0)) → (¬ x1 < 0 ∧ (Int32.toNatClampNeg x1) ≤ 67108864 ∧ 1 ≤ mr ∧ (Int32.toNatClampNeg x1) ≤ sr ∧ (let S1 := S.newA 15 (Int32.toNatClampNeg x1)
  (ox_rdL (S1.K x0) = true ∧ (4 ≤ 8 ∧ False))))) ∧ (x1 = (Int32.ofNat (S.len x0)) → False)))
set_option maxRecDepth 20000 in
set_option maxHeartbeats 4000000 in
theorem f_231 {sp : ox_E} (hsp : ox_mono sp) {d : Nat} {mr sr : Nat} {x0 : Nat} {x1 : Int32} {S : ox_St} {Q : ox_Q} (h : q_231 (ox_M sp d) x0 x1 S mr sr Q) : ox_M sp (d + 1) 231 [.inr (.inr (x0)), .inl (x1)] mr sr S Q := Or.inr ⟨Nat.le_of_ble_eq_true rfl, ox_C_fold (ox_M_mono hsp d) h⟩
/-! java/util/Objects.checkIndex(II)I -/
def k_232_6 (E : ox_E) (x0 : Int32) (x1 : Int32) (mr sr : Nat) (Q : ox_Q) : ox_Q := fun r_ T_ => ox_C E (ox_mi 232).2.2.2.1 (ox_mc 232) (ox_cut 232) Q 6 [some (.inl (x0)), some (.inl (x1))] (r_.toList ++ []) T_ mr sr
set_option maxRecDepth 20000 in
def q_232_6 (E : ox_E) (x0 : Int32) (x1 : Int32) (y0 : Int32) (S : ox_St) (mr sr : Nat) (Q : ox_Q) : Prop :=
  (True ∧ Q (some (.inl y0)) S)
set_option maxRecDepth 20000 in
set_option maxHeartbeats 4000000 in
theorem f_232_6 {E : ox_E} (hE : ox_mono E) {mr sr : Nat} {x0 : Int32} {x1 : Int32} {y0 : Int32} {S : ox_St} {Q : ox_Q} (h : q_232_6 E x0 x1 y0 S mr sr Q) : k_232_6 E x0 x1 mr sr Q (some (.inl (y0))) S := ox_C_fold hE h
set_option maxRecDepth 20000 in
def q_232 (E : ox_E) (x0 : Int32) (x1 : Int32) (S : ox_St) (mr sr : Nat) (Q : ox_Q) : Prop :=
  (3 ≤ 3 ∧ 0 ≤ 8 ∧ ∃ mc1 mk2, mc1 ≤ mr ∧ mk2 ≤ sr ∧ E 235 [.inl (x0), .inl (x1), .inr (.inr (0))] mc1 mk2 S (k_232_6 E x0 x1 (mr - mc1) (sr - mk2) Q))
set_option maxRecDepth 20000 in
set_option maxHeartbeats 4000000 in
theorem f_232 {sp : ox_E} (hsp : ox_mono sp) {d : Nat} {mr sr : Nat} {x0 : Int32} {x1 : Int32} {S : ox_St} {Q : ox_Q} (h : q_232 (ox_M sp d) x0 x1 S mr sr Q) : ox_M sp (d + 1) 232 [.inl (x0), .inl (x1)] mr sr S Q := Or.inr ⟨Nat.le_of_ble_eq_true rfl, ox_C_fold (ox_M_mono hsp d) h⟩
/-! jdk/internal/util/ArraysSupport.newLength(III)I -/
def k_233_26 (E : ox_E) (x0 : Int32) (x1 : Int32) (x2 : Int32) (x3 : Int32) (mr sr : Nat) (Q : ox_Q) : ox_Q := fun r_ T_ => ox_C E (ox_mi 233).2.2.2.1 (ox_mc 233) (ox_cut 233) Q 26 [some (.inl (x0)), some (.inl (x1)), some (.inl (x2)), some (.inl (x3))] (r_.toList ++ []) T_ mr sr
set_option maxRecDepth 20000 in
def q_233_26 (E : ox_E) (x0 : Int32) (x1 : Int32) (x2 : Int32) (x3 : Int32) (y0 : Int32) (S : ox_St) (mr sr : Nat) (Q : ox_Q) : Prop :=
  (True ∧ Q (some (.inl y0)) S)
set_option maxRecDepth 20000 in
set_option maxHeartbeats 4000000 in
theorem f_233_26 {E : ox_E} (hE : ox_mono E) {mr sr : Nat} {x0 : Int32} {x1 : Int32} {x2 : Int32} {x3 : Int32} {y0 : Int32} {S : ox_St} {Q : ox_Q} (h : q_233_26 E x0 x1 x2 x3 y0 S mr sr Q) : k_233_26 E x0 x1 x2 x3 mr sr Q (some (.inl (y0))) S := ox_C_fold hE h
set_option maxRecDepth 20000 in
def q_233 (E : ox_E) (x0 : Int32) (x1 : Int32) (x2 : Int32) (S : ox_St) (mr sr : Nat) (Q : ox_Q) : Prop :=
  (1 ≤ 8 ∧ (let w1 : Int32 := x0 + (if x1 < x2 then x2 else x1)
  ((w1 ≤ (0 : Int32) → (2 ≤ 2 ∧ 0 ≤ 8 ∧ ∃ mc2 mk3, mc2 ≤ mr ∧ mk3 ≤ sr ∧ E 234 [.inl (x0), .inl (x1)] mc2 mk3 S (k_233_26 E x0 x1 x2 w1 (mr - mc2) (sr - mk3) Q))) ∧ (¬ w1 ≤ (0 : Int32) → (((2147483639 : Int32) < w1 → (2 ≤ 2 ∧ 0 ≤ 8 ∧ ∃ mc4 mk5, mc4 ≤ mr ∧ mk5 ≤ sr ∧ E 234 [.inl (x0), .inl (x1)] mc4 mk5 S (k_233_26 E x0 x1 x2 w1 (mr - mc4) (sr - mk5) Q))) ∧ (¬ (2147483639 : Int32) < w1 → (True ∧ Q (some (.inl w1)) S)))))))
set_option maxRecDepth 20000 in
set_option maxHeartbeats 4000000 in
theorem f_233 {sp : ox_E} (hsp : ox_mono sp) {d : Nat} {mr sr : Nat} {x0 : Int32} {x1 : Int32} {x2 : Int32} {S : ox_St} {Q : ox_Q} (h : q_233 (ox_M sp d) x0 x1 x2 S mr sr Q) : ox_M sp (d + 1) 233 [.inl (x0), .inl (x1), .inl (x2)] mr sr S Q := Or.inr ⟨Nat.le_of_ble_eq_true rfl, ox_C_fold (ox_M_mono hsp d) h⟩
/-! jdk/internal/util/ArraysSupport.hugeLength(II)I -/
set_option maxRecDepth 20000 in
def q_234 (E : ox_E) (x0 : Int32) (x1 : Int32) (S : ox_St) (mr sr : Nat) (Q : ox_Q) : Prop :=
  (let w1 : Int32 := x0 + x1
  (((0 : Int32) ≤ w1 → (((2147483639 : Int32) < w1 → (True ∧ Q (some (.inl w1)) S)) ∧ (¬ (2147483639 : Int32) < w1 → (True ∧ Q (some (.inl (2147483639 : Int32))) S)))) ∧ (¬ (0 : Int32) ≤ w1 → False)))
set_option maxRecDepth 20000 in
set_option maxHeartbeats 4000000 in
theorem f_234 {sp : ox_E} (hsp : ox_mono sp) {d : Nat} {mr sr : Nat} {x0 : Int32} {x1 : Int32} {S : ox_St} {Q : ox_Q} (h : q_234 (ox_M sp d) x0 x1 S mr sr Q) : ox_M sp (d + 1) 234 [.inl (x0), .inl (x1)] mr sr S Q := Or.inr ⟨Nat.le_of_ble_eq_true rfl, ox_C_fold (ox_M_mono hsp d) h⟩
/-! jdk/internal/util/Preconditions.checkIndex(IILjava/util/function/BiFunction;)I -/
set_option maxRecDepth 20000 in
def q_235 (E : ox_E) (x0 : Int32) (x1 : Int32) (x2 : Nat) (S : ox_St) (mr sr : Nat) (Q : ox_Q) : Prop :=
  ((x0 < 0 → False) ∧ (¬ x0 < 0 → ((x0 < x1 → (True ∧ Q (some (.inl x0)) S)) ∧ (¬ x0 < x1 → False))))
set_option maxRecDepth 20000 in
set_option maxHeartbeats 4000000 in
theorem f_235 {sp : ox_E} (hsp : ox_mono sp) {d : Nat} {mr sr : Nat} {x0 : Int32} {x1 : Int32} {x2 : Nat} {S : ox_St} {Q : ox_Q} (h : q_235 (ox_M sp d) x0 x1 x2 S mr sr Q) : ox_M sp (d + 1) 235 [.inl (x0), .inl (x1), .inr (.inr (x2))] mr sr S Q := Or.inr ⟨Nat.le_of_ble_eq_true rfl, ox_C_fold (ox_M_mono hsp d) h⟩
