/-! OpcodeFramesModel.item()V -/
def k_185_4 (E : ox_E) (x0 : Nat) (mr sr : Nat) (Q : ox_Q) : ox_Q := fun r_ T_ => ox_C E (ox_mi 185).2.2.2.1 (ox_mc 185) (ox_cut 185) Q 4 [some (.inr (.inr (x0))), none, none, none, none, none, none, none] (r_.toList ++ []) T_ mr sr
def k_185_9 (E : ox_E) (x0 : Nat) (x1 : Int32) (mr sr : Nat) (Q : ox_Q) : ox_Q := fun r_ T_ => ox_C E (ox_mi 185).2.2.2.1 (ox_mc 185) (ox_cut 185) Q 9 [some (.inr (.inr (x0))), some (.inl (x1)), none, none, none, none, none, none] (r_.toList ++ []) T_ mr sr
def k_185_15 (E : ox_E) (x0 : Nat) (x1 : Int32) (x2 : Int32) (mr sr : Nat) (Q : ox_Q) : ox_Q := fun r_ T_ => ox_C E (ox_mi 185).2.2.2.1 (ox_mc 185) (ox_cut 185) Q 15 [some (.inr (.inr (x0))), some (.inl (x1)), some (.inl (x2)), none, none, none, none, none] (r_.toList ++ []) T_ mr sr
def c_185_26 (E : ox_E) (x0 : Nat) (x1 : Int32) (x2 : Int32) (x3 : Int32) (S : ox_St) (mr sr : Nat) (Q : ox_Q) : Prop := ox_C E (ox_mi 185).2.2.2.1 (ox_mc 185) (ox_cut 185) Q 26 [some (.inr (.inr (x0))), some (.inl (x1)), some (.inl (x2)), some (.inl (x3)), none, none, none, none] [] S mr sr
def k_185_31 (E : ox_E) (x0 : Nat) (x1 : Int32) (x2 : Int32) (x3 : Int32) (mr sr : Nat) (Q : ox_Q) : ox_Q := fun r_ T_ => ox_C E (ox_mi 185).2.2.2.1 (ox_mc 185) (ox_cut 185) Q 31 [some (.inr (.inr (x0))), some (.inl (x1)), some (.inl (x2)), some (.inl (x3)), none, none, none, none] (r_.toList ++ []) T_ mr sr
def c_185_34 (E : ox_E) (x0 : Nat) (x1 : Int32) (x2 : Int32) (x3 : Int32) (S : ox_St) (mr sr : Nat) (Q : ox_Q) : Prop := ox_C E (ox_mi 185).2.2.2.1 (ox_mc 185) (ox_cut 185) Q 34 [some (.inr (.inr (x0))), some (.inl (x1)), some (.inl (x2)), some (.inl (x3)), none, none, none, none] [] S mr sr
def k_185_39 (E : ox_E) (x0 : Nat) (x1 : Int32) (x2 : Int32) (x3 : Int32) (mr sr : Nat) (Q : ox_Q) : ox_Q := fun r_ T_ => ox_C E (ox_mi 185).2.2.2.1 (ox_mc 185) (ox_cut 185) Q 39 [some (.inr (.inr (x0))), some (.inl (x1)), some (.inl (x2)), some (.inl (x3)), none, none, none, none] (r_.toList ++ []) T_ mr sr
def k_185_62 (E : ox_E) (x0 : Nat) (x1 : Int32) (x2 : Int32) (x3 : Int32) (mr sr : Nat) (Q : ox_Q) : ox_Q := fun r_ T_ => ox_C E (ox_mi 185).2.2.2.1 (ox_mc 185) (ox_cut 185) Q 62 [some (.inr (.inr (x0))), some (.inl (x1)), some (.inl (x2)), some (.inl (x3)), none, none, none, none] (r_.toList ++ []) T_ mr sr
def k_185_69 (E : ox_E) (x0 : Nat) (x1 : Int32) (x2 : Int32) (x3 : Int32) (x4 : Int64) (mr sr : Nat) (Q : ox_Q) : ox_Q := fun r_ T_ => ox_C E (ox_mi 185).2.2.2.1 (ox_mc 185) (ox_cut 185) Q 69 [some (.inr (.inr (x0))), some (.inl (x1)), some (.inl (x2)), some (.inl (x3)), some (.inr (.inl (x4))), none, none, none] (r_.toList ++ []) T_ mr sr
def c_185_88 (E : ox_E) (x0 : Nat) (x1 : Int32) (x2 : Int32) (x3 : Int32) (x4 : Int64) (x6 : Int64) (y0 : Int64) (S : ox_St) (mr sr : Nat) (Q : ox_Q) : Prop := ox_C E (ox_mi 185).2.2.2.1 (ox_mc 185) (ox_cut 185) Q 88 [some (.inr (.inr (x0))), some (.inl (x1)), some (.inl (x2)), some (.inl (x3)), some (.inr (.inl (x4))), none, some (.inr (.inl (x6))), none] [.inr (.inl (y0))] S mr sr
def c_185_105 (E : ox_E) (x0 : Nat) (x1 : Int32) (x2 : Int32) (x3 : Int32) (x4 : Int64) (x6 : Int64) (S : ox_St) (mr sr : Nat) (Q : ox_Q) : Prop := ox_C E (ox_mi 185).2.2.2.1 (ox_mc 185) (ox_cut 185) Q 105 [some (.inr (.inr (x0))), some (.inl (x1)), some (.inl (x2)), some (.inl (x3)), some (.inr (.inl (x4))), none, some (.inr (.inl (x6))), none] [] S mr sr
def k_185_110 (E : ox_E) (x0 : Nat) (x1 : Int32) (x2 : Int32) (x3 : Int32) (x4 : Int64) (x6 : Int64) (mr sr : Nat) (Q : ox_Q) : ox_Q := fun r_ T_ => ox_C E (ox_mi 185).2.2.2.1 (ox_mc 185) (ox_cut 185) Q 110 [some (.inr (.inr (x0))), some (.inl (x1)), some (.inl (x2)), some (.inl (x3)), some (.inr (.inl (x4))), none, some (.inr (.inl (x6))), none] (r_.toList ++ []) T_ mr sr
def k_185_134 (E : ox_E) (x0 : Nat) (x1 : Int32) (x2 : Int32) (x3 : Int32) (x4 : Int64) (x6 : Int64) (mr sr : Nat) (Q : ox_Q) : ox_Q := fun r_ T_ => ox_C E (ox_mi 185).2.2.2.1 (ox_mc 185) (ox_cut 185) Q 134 [some (.inr (.inr (x0))), some (.inl (x1)), some (.inl (x2)), some (.inl (x3)), some (.inr (.inl (x4))), none, some (.inr (.inl (x6))), none] (r_.toList ++ []) T_ mr sr
def k_185_164 (E : ox_E) (x0 : Nat) (x1 : Int32) (x2 : Int32) (x3 : Int32) (x4 : Int64) (x6 : Int64) (y1 : Nat) (mr sr : Nat) (Q : ox_Q) : ox_Q := fun r_ T_ => ox_C E (ox_mi 185).2.2.2.1 (ox_mc 185) (ox_cut 185) Q 164 [some (.inr (.inr (x0))), some (.inl (x1)), some (.inl (x2)), some (.inl (x3)), some (.inr (.inl (x4))), none, some (.inr (.inl (x6))), none] (r_.toList ++ [.inr (.inr (y1))]) T_ mr sr
def k_185_167 (E : ox_E) (x0 : Nat) (x1 : Int32) (x2 : Int32) (x3 : Int32) (x4 : Int64) (x6 : Int64) (mr sr : Nat) (Q : ox_Q) : ox_Q := fun r_ T_ => ox_C E (ox_mi 185).2.2.2.1 (ox_mc 185) (ox_cut 185) Q 167 [some (.inr (.inr (x0))), some (.inl (x1)), some (.inl (x2)), some (.inl (x3)), some (.inr (.inl (x4))), none, some (.inr (.inl (x6))), none] (r_.toList ++ []) T_ mr sr
set_option maxRecDepth 20000 in
def q_185_167 (E : ox_E) (x0 : Nat) (x1 : Int32) (x2 : Int32) (x3 : Int32) (x4 : Int64) (x6 : Int64) (S : ox_St) (mr sr : Nat) (Q : ox_Q) : Prop :=
  ((ox_mi 185).2.2.2.1 = none ∧ Q none S)
set_option maxRecDepth 20000 in
set_option maxHeartbeats 4000000 in
theorem f_185_167 {E : ox_E} (hE : ox_mono E) {mr sr : Nat} {x0 : Nat} {x1 : Int32} {x2 : Int32} {x3 : Int32} {x4 : Int64} {x6 : Int64} {S : ox_St} {Q : ox_Q} (h : q_185_167 E x0 x1 x2 x3 x4 x6 S mr sr Q) : k_185_167 E x0 x1 x2 x3 x4 x6 mr sr Q none S := ox_C_fold hE h
set_option maxRecDepth 20000 in
def q_185_164 (E : ox_E) (x0 : Nat) (x1 : Int32) (x2 : Int32) (x3 : Int32) (x4 : Int64) (x6 : Int64) (y0 : Int32) (y1 : Nat) (S : ox_St) (mr sr : Nat) (Q : ox_Q) : Prop :=
  (2 ≤ 2 ∧ S.K y1 = 14 ∧ 0 ≤ 8 ∧ ∃ mc1 mk2, mc1 ≤ mr ∧ mk2 ≤ sr ∧ E 174 [.inr (.inr (y1)), .inl (y0)] mc1 mk2 S (k_185_167 E x0 x1 x2 x3 x4 x6 (mr - mc1) (sr - mk2) Q))
set_option maxRecDepth 20000 in
set_option maxHeartbeats 4000000 in
theorem f_185_164 {E : ox_E} (hE : ox_mono E) {mr sr : Nat} {x0 : Nat} {x1 : Int32} {x2 : Int32} {x3 : Int32} {x4 : Int64} {x6 : Int64} {y0 : Int32} {y1 : Nat} {S : ox_St} {Q : ox_Q} (h : q_185_164 E x0 x1 x2 x3 x4 x6 y0 y1 S mr sr Q) : k_185_164 E x0 x1 x2 x3 x4 x6 y1 mr sr Q (some (.inl (y0))) S := ox_C_fold hE h
set_option maxRecDepth 20000 in
def q_185_134 (E : ox_E) (x0 : Nat) (x1 : Int32) (x2 : Int32) (x3 : Int32) (x4 : Int64) (x6 : Int64) (S : ox_St) (mr sr : Nat) (Q : ox_Q) : Prop :=
  k_185_167 E x0 x1 x2 x3 x4 x6 mr sr Q none S
set_option maxRecDepth 20000 in
set_option maxHeartbeats 4000000 in
theorem f_185_134 {E : ox_E} (hE : ox_mono E) {mr sr : Nat} {x0 : Nat} {x1 : Int32} {x2 : Int32} {x3 : Int32} {x4 : Int64} {x6 : Int64} {S : ox_St} {Q : ox_Q} (h : q_185_134 E x0 x1 x2 x3 x4 x6 S mr sr Q) : k_185_134 E x0 x1 x2 x3 x4 x6 mr sr Q none S := ox_C_fold hE h
set_option maxRecDepth 20000 in
def q_185_110 (E : ox_E) (x0 : Nat) (x1 : Int32) (x2 : Int32) (x3 : Int32) (x4 : Int64) (x6 : Int64) (S : ox_St) (mr sr : Nat) (Q : ox_Q) : Prop :=
  k_185_167 E x0 x1 x2 x3 x4 x6 mr sr Q none S
set_option maxRecDepth 20000 in
set_option maxHeartbeats 4000000 in
theorem f_185_110 {E : ox_E} (hE : ox_mono E) {mr sr : Nat} {x0 : Nat} {x1 : Int32} {x2 : Int32} {x3 : Int32} {x4 : Int64} {x6 : Int64} {S : ox_St} {Q : ox_Q} (h : q_185_110 E x0 x1 x2 x3 x4 x6 S mr sr Q) : k_185_110 E x0 x1 x2 x3 x4 x6 mr sr Q none S := ox_C_fold hE h
set_option maxRecDepth 20000 in
def q_185_105 (E : ox_E) (x0 : Nat) (x1 : Int32) (x2 : Int32) (x3 : Int32) (x4 : Int64) (x6 : Int64) (S : ox_St) (mr sr : Nat) (Q : ox_Q) : Prop :=
  (2 ≤ 2 ∧ S.K x0 = 14 ∧ 0 ≤ 8 ∧ ∃ mc1 mk2, mc1 ≤ mr ∧ mk2 ≤ sr ∧ E 177 [.inr (.inr (x0)), .inl (2)] mc1 mk2 S (k_185_110 E x0 x1 x2 x3 x4 x6 (mr - mc1) (sr - mk2) Q))
set_option maxRecDepth 20000 in
set_option maxHeartbeats 4000000 in
theorem f_185_105 {E : ox_E} (hE : ox_mono E) {mr sr : Nat} {x0 : Nat} {x1 : Int32} {x2 : Int32} {x3 : Int32} {x4 : Int64} {x6 : Int64} {S : ox_St} {Q : ox_Q} (h : q_185_105 E x0 x1 x2 x3 x4 x6 S mr sr Q) : c_185_105 E x0 x1 x2 x3 x4 x6 S mr sr Q := ox_C_fold hE h
set_option maxRecDepth 20000 in
def q_185_88 (E : ox_E) (x0 : Nat) (x1 : Int32) (x2 : Int32) (x3 : Int32) (x4 : Int64) (x6 : Int64) (y0 : Int64) (S : ox_St) (mr sr : Nat) (Q : ox_Q) : Prop :=
  (((lg_cmp y0 0) < 0 → c_185_105 E x0 x1 x2 x3 x4 y0 S mr sr Q) ∧ (¬ (lg_cmp y0 0) < 0 → (((lg_cmp y0 x4) < 0 → ((¬ x3 = 4 → (ox_has (S.K x0) 73 = true ∧ (ox_rdI (S.K (S.R 73 x0)) = true ∧ vp_in (x2 + 1) (S.len (S.R 73 x0)) ∧ (ox_has (S.K x0) 73 = true ∧ (ox_rdI (S.K (S.R 73 x0)) = true ∧ vp_in (x2 + 3) (S.len (S.R 73 x0)) ∧ (2 ≤ 3 ∧ S.K x0 = 14 ∧ 1 ≤ 8 ∧ ∃ mc1 mk2, mc1 ≤ mr ∧ mk2 ≤ sr ∧ E 148 [.inr (.inr (x0)), .inr (.inl ((Int32.toInt64 (S.rI (S.R 73 x0) (Int32.toNatClampNeg (x2 + 1)))) + (y0 * (Int32.toInt64 (S.rI (S.R 73 x0) (Int32.toNatClampNeg (x2 + 3)))))))] mc1 mk2 S (k_185_164 E x0 x1 x2 x3 x4 y0 x0 (mr - mc1) (sr - mk2) Q))))))) ∧ (x3 = 4 → (ox_has (S.K x0) 73 = true ∧ (ox_rdI (S.K (S.R 73 x0)) = true ∧ vp_in ((x2 + 3) + (Int64.toInt32 y0)) (S.len (S.R 73 x0)) ∧ (2 ≤ 2 ∧ S.K x0 = 14 ∧ 0 ≤ 8 ∧ ∃ mc3 mk4, mc3 ≤ mr ∧ mk4 ≤ sr ∧ E 174 [.inr (.inr (x0)), .inl (S.rI (S.R 73 x0) (Int32.toNatClampNeg ((x2 + 3) + (Int64.toInt32 y0))))] mc3 mk4 S (k_185_134 E x0 x1 x2 x3 x4 y0 (mr - mc3) (sr - mk4) Q))))))) ∧ (¬ (lg_cmp y0 x4) < 0 → c_185_105 E x0 x1 x2 x3 x4 y0 S mr sr Q))))
set_option maxRecDepth 20000 in
set_option maxHeartbeats 4000000 in
theorem f_185_88 {E : ox_E} (hE : ox_mono E) {mr sr : Nat} {x0 : Nat} {x1 : Int32} {x2 : Int32} {x3 : Int32} {x4 : Int64} {x6 : Int64} {y0 : Int64} {S : ox_St} {Q : ox_Q} (h : q_185_88 E x0 x1 x2 x3 x4 x6 y0 S mr sr Q) : c_185_88 E x0 x1 x2 x3 x4 x6 y0 S mr sr Q := ox_C_fold hE h
set_option maxRecDepth 20000 in
def q_185_69 (E : ox_E) (x0 : Nat) (x1 : Int32) (x2 : Int32) (x3 : Int32) (x4 : Int64) (y0 : Int64) (S : ox_St) (mr sr : Nat) (Q : ox_Q) : Prop :=
  (((0 : Int32) ≤ (lg_cmp y0 0) → c_185_88 E x0 x1 x2 x3 x4 y0 y0 S mr sr Q) ∧ (¬ (0 : Int32) ≤ (lg_cmp y0 0) → c_185_88 E x0 x1 x2 x3 x4 y0 (y0 + x4) S mr sr Q))
set_option maxRecDepth 20000 in
set_option maxHeartbeats 4000000 in
theorem f_185_69 {E : ox_E} (hE : ox_mono E) {mr sr : Nat} {x0 : Nat} {x1 : Int32} {x2 : Int32} {x3 : Int32} {x4 : Int64} {y0 : Int64} {S : ox_St} {Q : ox_Q} (h : q_185_69 E x0 x1 x2 x3 x4 y0 S mr sr Q) : k_185_69 E x0 x1 x2 x3 x4 mr sr Q (some (.inr (.inl (y0)))) S := ox_C_fold hE h
set_option maxRecDepth 20000 in
def q_185_62 (E : ox_E) (x0 : Nat) (x1 : Int32) (x2 : Int32) (x3 : Int32) (y0 : Int64) (S : ox_St) (mr sr : Nat) (Q : ox_Q) : Prop :=
  (2 ≤ 2 ∧ S.K x0 = 14 ∧ 0 ≤ 8 ∧ ∃ mc1 mk2, mc1 ≤ mr ∧ mk2 ≤ sr ∧ E 149 [.inr (.inr (x0)), .inl (x1)] mc1 mk2 S (k_185_69 E x0 x1 x2 x3 y0 (mr - mc1) (sr - mk2) Q))
set_option maxRecDepth 20000 in
set_option maxHeartbeats 4000000 in
theorem f_185_62 {E : ox_E} (hE : ox_mono E) {mr sr : Nat} {x0 : Nat} {x1 : Int32} {x2 : Int32} {x3 : Int32} {y0 : Int64} {S : ox_St} {Q : ox_Q} (h : q_185_62 E x0 x1 x2 x3 y0 S mr sr Q) : k_185_62 E x0 x1 x2 x3 mr sr Q (some (.inr (.inl (y0)))) S := ox_C_fold hE h
set_option maxRecDepth 20000 in
def q_185_39 (E : ox_E) (x0 : Nat) (x1 : Int32) (x2 : Int32) (x3 : Int32) (S : ox_St) (mr sr : Nat) (Q : ox_Q) : Prop :=
  ((ox_mi 185).2.2.2.1 = none ∧ Q none S)
set_option maxRecDepth 20000 in
set_option maxHeartbeats 4000000 in
theorem f_185_39 {E : ox_E} (hE : ox_mono E) {mr sr : Nat} {x0 : Nat} {x1 : Int32} {x2 : Int32} {x3 : Int32} {S : ox_St} {Q : ox_Q} (h : q_185_39 E x0 x1 x2 x3 S mr sr Q) : k_185_39 E x0 x1 x2 x3 mr sr Q none S := ox_C_fold hE h
set_option maxRecDepth 20000 in
def q_185_34 (E : ox_E) (x0 : Nat) (x1 : Int32) (x2 : Int32) (x3 : Int32) (S : ox_St) (mr sr : Nat) (Q : ox_Q) : Prop :=
  (2 ≤ 2 ∧ S.K x0 = 14 ∧ 0 ≤ 8 ∧ ∃ mc1 mk2, mc1 ≤ mr ∧ mk2 ≤ sr ∧ E 177 [.inr (.inr (x0)), .inl (0)] mc1 mk2 S (k_185_39 E x0 x1 x2 x3 (mr - mc1) (sr - mk2) Q))
set_option maxRecDepth 20000 in
set_option maxHeartbeats 4000000 in
theorem f_185_34 {E : ox_E} (hE : ox_mono E) {mr sr : Nat} {x0 : Nat} {x1 : Int32} {x2 : Int32} {x3 : Int32} {S : ox_St} {Q : ox_Q} (h : q_185_34 E x0 x1 x2 x3 S mr sr Q) : c_185_34 E x0 x1 x2 x3 S mr sr Q := ox_C_fold hE h
set_option maxRecDepth 20000 in
def q_185_31 (E : ox_E) (x0 : Nat) (x1 : Int32) (x2 : Int32) (x3 : Int32) (y0 : Int32) (S : ox_St) (mr sr : Nat) (Q : ox_Q) : Prop :=
  ((¬ y0 = 0 → ((¬ x3 = 4 → (2 ≤ 2 ∧ S.K x0 = 14 ∧ 0 ≤ 8 ∧ ∃ mc1 mk2, mc1 ≤ mr ∧ mk2 ≤ sr ∧ E 180 [.inr (.inr (x0)), .inl (x2)] mc1 mk2 S (k_185_62 E x0 x1 x2 x3 (mr - mc1) (sr - mk2) Q))) ∧ (x3 = 4 → (ox_has (S.K x0) 73 = true ∧ (ox_rdI (S.K (S.R 73 x0)) = true ∧ vp_in (x2 + 2) (S.len (S.R 73 x0)) ∧ k_185_62 E x0 x1 x2 x3 mr sr Q (some (.inr (.inl (Int32.toInt64 (S.rI (S.R 73 x0) (Int32.toNatClampNeg (x2 + 2))))))) S))))) ∧ (y0 = 0 → c_185_34 E x0 x1 x2 x3 S mr sr Q))
set_option maxRecDepth 20000 in
set_option maxHeartbeats 4000000 in
theorem f_185_31 {E : ox_E} (hE : ox_mono E) {mr sr : Nat} {x0 : Nat} {x1 : Int32} {x2 : Int32} {x3 : Int32} {y0 : Int32} {S : ox_St} {Q : ox_Q} (h : q_185_31 E x0 x1 x2 x3 y0 S mr sr Q) : k_185_31 E x0 x1 x2 x3 mr sr Q (some (.inl (y0))) S := ox_C_fold hE h
set_option maxRecDepth 20000 in
def q_185_26 (E : ox_E) (x0 : Nat) (x1 : Int32) (x2 : Int32) (x3 : Int32) (S : ox_St) (mr sr : Nat) (Q : ox_Q) : Prop :=
  (2 ≤ 2 ∧ S.K x0 = 14 ∧ 0 ≤ 8 ∧ ∃ mc1 mk2, mc1 ≤ mr ∧ mk2 ≤ sr ∧ E 135 [.inr (.inr (x0)), .inl (x1)] mc1 mk2 S (k_185_31 E x0 x1 x2 x3 (mr - mc1) (sr - mk2) Q))
set_option maxRecDepth 20000 in
set_option maxHeartbeats 4000000 in
theorem f_185_26 {E : ox_E} (hE : ox_mono E) {mr sr : Nat} {x0 : Nat} {x1 : Int32} {x2 : Int32} {x3 : Int32} {S : ox_St} {Q : ox_Q} (h : q_185_26 E x0 x1 x2 x3 S mr sr Q) : c_185_26 E x0 x1 x2 x3 S mr sr Q := ox_C_fold hE h
set_option maxRecDepth 20000 in
def q_185_15 (E : ox_E) (x0 : Nat) (x1 : Int32) (x2 : Int32) (y0 : Int32) (S : ox_St) (mr sr : Nat) (Q : ox_Q) : Prop :=
  ((y0 = 4 → c_185_26 E x0 x1 x2 y0 S mr sr Q) ∧ (¬ y0 = 4 → ((¬ y0 = 5 → c_185_34 E x0 x1 x2 y0 S mr sr Q) ∧ (y0 = 5 → c_185_26 E x0 x1 x2 y0 S mr sr Q))))
set_option maxRecDepth 20000 in
set_option maxHeartbeats 4000000 in
theorem f_185_15 {E : ox_E} (hE : ox_mono E) {mr sr : Nat} {x0 : Nat} {x1 : Int32} {x2 : Int32} {y0 : Int32} {S : ox_St} {Q : ox_Q} (h : q_185_15 E x0 x1 x2 y0 S mr sr Q) : k_185_15 E x0 x1 x2 mr sr Q (some (.inl (y0))) S := ox_C_fold hE h
set_option maxRecDepth 20000 in
def q_185_9 (E : ox_E) (x0 : Nat) (x1 : Int32) (y0 : Int32) (S : ox_St) (mr sr : Nat) (Q : ox_Q) : Prop :=
  (2 ≤ 2 ∧ S.K x0 = 14 ∧ 0 ≤ 8 ∧ ∃ mc1 mk2, mc1 ≤ mr ∧ mk2 ≤ sr ∧ E 133 [.inr (.inr (x0)), .inl (y0)] mc1 mk2 S (k_185_15 E x0 x1 y0 (mr - mc1) (sr - mk2) Q))
set_option maxRecDepth 20000 in
set_option maxHeartbeats 4000000 in
theorem f_185_9 {E : ox_E} (hE : ox_mono E) {mr sr : Nat} {x0 : Nat} {x1 : Int32} {y0 : Int32} {S : ox_St} {Q : ox_Q} (h : q_185_9 E x0 x1 y0 S mr sr Q) : k_185_9 E x0 x1 mr sr Q (some (.inl (y0))) S := ox_C_fold hE h
set_option maxRecDepth 20000 in
def q_185_4 (E : ox_E) (x0 : Nat) (y0 : Int32) (S : ox_St) (mr sr : Nat) (Q : ox_Q) : Prop :=
  (1 ≤ 1 ∧ S.K x0 = 14 ∧ 0 ≤ 8 ∧ ∃ mc1 mk2, mc1 ≤ mr ∧ mk2 ≤ sr ∧ E 175 [.inr (.inr (x0))] mc1 mk2 S (k_185_9 E x0 y0 (mr - mc1) (sr - mk2) Q))
set_option maxRecDepth 20000 in
set_option maxHeartbeats 4000000 in
theorem f_185_4 {E : ox_E} (hE : ox_mono E) {mr sr : Nat} {x0 : Nat} {y0 : Int32} {S : ox_St} {Q : ox_Q} (h : q_185_4 E x0 y0 S mr sr Q) : k_185_4 E x0 mr sr Q (some (.inl (y0))) S := ox_C_fold hE h
set_option maxRecDepth 20000 in
def q_185 (E : ox_E) (x0 : Nat) (S : ox_St) (mr sr : Nat) (Q : ox_Q) : Prop :=
  (1 ≤ 1 ∧ S.K x0 = 14 ∧ 0 ≤ 8 ∧ ∃ mc1 mk2, mc1 ≤ mr ∧ mk2 ≤ sr ∧ E 175 [.inr (.inr (x0))] mc1 mk2 S (k_185_4 E x0 (mr - mc1) (sr - mk2) Q))
set_option maxRecDepth 20000 in
set_option maxHeartbeats 4000000 in
theorem f_185 {sp : ox_E} (hsp : ox_mono sp) {d : Nat} {mr sr : Nat} {x0 : Nat} {S : ox_St} {Q : ox_Q} (h : q_185 (ox_M sp d) x0 S mr sr Q) : ox_M sp (d + 1) 185 [.inr (.inr (x0))] mr sr S Q := Or.inr ⟨Nat.le_of_ble_eq_true rfl, ox_C_fold (ox_M_mono hsp d) h⟩
/-! OpcodeFramesModel.weigh()V -/
def k_186_4 (E : ox_E) (x0 : Nat) (mr sr : Nat) (Q : ox_Q) : ox_Q := fun r_ T_ => ox_C E (ox_mi 186).2.2.2.1 (ox_mc 186) (ox_cut 186) Q 4 [some (.inr (.inr (x0))), none, none, none] (r_.toList ++ []) T_ mr sr
def k_186_9 (E : ox_E) (x0 : Nat) (x1 : Int32) (mr sr : Nat) (Q : ox_Q) : ox_Q := fun r_ T_ => ox_C E (ox_mi 186).2.2.2.1 (ox_mc 186) (ox_cut 186) Q 9 [some (.inr (.inr (x0))), some (.inl (x1)), none, none] (r_.toList ++ []) T_ mr sr
def k_186_33 (E : ox_E) (x0 : Nat) (x1 : Int32) (x2 : Int32) (y1 : Nat) (mr sr : Nat) (Q : ox_Q) : ox_Q := fun r_ T_ => ox_C E (ox_mi 186).2.2.2.1 (ox_mc 186) (ox_cut 186) Q 33 [some (.inr (.inr (x0))), some (.inl (x1)), some (.inl (x2)), none] (r_.toList ++ [.inr (.inr (y1))]) T_ mr sr
def k_186_57 (E : ox_E) (x0 : Nat) (x1 : Int32) (x2 : Int32) (mr sr : Nat) (Q : ox_Q) : ox_Q := fun r_ T_ => ox_C E (ox_mi 186).2.2.2.1 (ox_mc 186) (ox_cut 186) Q 57 [some (.inr (.inr (x0))), some (.inl (x1)), some (.inl (x2)), none] (r_.toList ++ []) T_ mr sr
def k_186_73 (E : ox_E) (x0 : Nat) (x1 : Int32) (x2 : Int32) (mr sr : Nat) (Q : ox_Q) : ox_Q := fun r_ T_ => ox_C E (ox_mi 186).2.2.2.1 (ox_mc 186) (ox_cut 186) Q 73 [some (.inr (.inr (x0))), some (.inl (x1)), some (.inl (x2)), none] (r_.toList ++ []) T_ mr sr
def k_186_80 (E : ox_E) (x0 : Nat) (x1 : Int32) (x2 : Int32) (mr sr : Nat) (Q : ox_Q) : ox_Q := fun r_ T_ => ox_C E (ox_mi 186).2.2.2.1 (ox_mc 186) (ox_cut 186) Q 80 [some (.inr (.inr (x0))), some (.inl (x1)), some (.inl (x2)), none] (r_.toList ++ []) T_ mr sr
def k_186_97 (E : ox_E) (x0 : Nat) (x1 : Int32) (x2 : Int32) (mr sr : Nat) (Q : ox_Q) : ox_Q := fun r_ T_ => ox_C E (ox_mi 186).2.2.2.1 (ox_mc 186) (ox_cut 186) Q 97 [some (.inr (.inr (x0))), some (.inl (x1)), some (.inl (x2)), none] (r_.toList ++ []) T_ mr sr
def k_186_105 (E : ox_E) (x0 : Nat) (x1 : Int32) (x2 : Int32) (mr sr : Nat) (Q : ox_Q) : ox_Q := fun r_ T_ => ox_C E (ox_mi 186).2.2.2.1 (ox_mc 186) (ox_cut 186) Q 105 [some (.inr (.inr (x0))), some (.inl (x1)), some (.inl (x2)), none] (r_.toList ++ []) T_ mr sr
def k_186_113 (E : ox_E) (x0 : Nat) (x1 : Int32) (x2 : Int32) (mr sr : Nat) (Q : ox_Q) : ox_Q := fun r_ T_ => ox_C E (ox_mi 186).2.2.2.1 (ox_mc 186) (ox_cut 186) Q 113 [some (.inr (.inr (x0))), some (.inl (x1)), some (.inl (x2)), none] (r_.toList ++ []) T_ mr sr
def k_186_121 (E : ox_E) (x0 : Nat) (x1 : Int32) (x2 : Int32) (mr sr : Nat) (Q : ox_Q) : ox_Q := fun r_ T_ => ox_C E (ox_mi 186).2.2.2.1 (ox_mc 186) (ox_cut 186) Q 121 [some (.inr (.inr (x0))), some (.inl (x1)), some (.inl (x2)), none] (r_.toList ++ []) T_ mr sr
def k_186_129 (E : ox_E) (x0 : Nat) (x1 : Int32) (x2 : Int32) (mr sr : Nat) (Q : ox_Q) : ox_Q := fun r_ T_ => ox_C E (ox_mi 186).2.2.2.1 (ox_mc 186) (ox_cut 186) Q 129 [some (.inr (.inr (x0))), some (.inl (x1)), some (.inl (x2)), none] (r_.toList ++ []) T_ mr sr
def k_186_138 (E : ox_E) (x0 : Nat) (x1 : Int32) (x2 : Int32) (mr sr : Nat) (Q : ox_Q) : ox_Q := fun r_ T_ => ox_C E (ox_mi 186).2.2.2.1 (ox_mc 186) (ox_cut 186) Q 138 [some (.inr (.inr (x0))), some (.inl (x1)), some (.inl (x2)), none] (r_.toList ++ []) T_ mr sr
def k_186_196 (E : ox_E) (x0 : Nat) (x1 : Int32) (x2 : Int32) (mr sr : Nat) (Q : ox_Q) : ox_Q := fun r_ T_ => ox_C E (ox_mi 186).2.2.2.1 (ox_mc 186) (ox_cut 186) Q 196 [some (.inr (.inr (x0))), some (.inl (x1)), some (.inl (x2)), none] (r_.toList ++ []) T_ mr sr
set_option maxRecDepth 20000 in
def q_186_196 (E : ox_E) (x0 : Nat) (x1 : Int32) (x2 : Int32) (S : ox_St) (mr sr : Nat) (Q : ox_Q) : Prop :=
  ((ox_mi 186).2.2.2.1 = none ∧ Q none S)
set_option maxRecDepth 20000 in
set_option maxHeartbeats 4000000 in
theorem f_186_196 {E : ox_E} (hE : ox_mono E) {mr sr : Nat} {x0 : Nat} {x1 : Int32} {x2 : Int32} {S : ox_St} {Q : ox_Q} (h : q_186_196 E x0 x1 x2 S mr sr Q) : k_186_196 E x0 x1 x2 mr sr Q none S := ox_C_fold hE h
set_option maxRecDepth 20000 in
def q_186_138 (E : ox_E) (x0 : Nat) (x1 : Int32) (x2 : Int32) (y0 : Int32) (S : ox_St) (mr sr : Nat) (Q : ox_Q) : Prop :=
  (ox_has (S.K x0) 139 = true ∧ ((¬ (S.I 139 x0) = 0 → (ox_has (S.K x0) 139 = true ∧ ((¬ (S.I 139 x0) = 1 → (ox_has (S.K x0) 139 = true ∧ ((¬ (S.I 139 x0) = 4 → ((y0 < 0 → (2 ≤ 2 ∧ S.K x0 = 14 ∧ 0 ≤ 8 ∧ ∃ mc1 mk2, mc1 ≤ mr ∧ mk2 ≤ sr ∧ E 174 [.inr (.inr (x0)), .inl (1)] mc1 mk2 S (k_186_196 E x0 x1 x2 (mr - mc1) (sr - mk2) Q))) ∧ (¬ y0 < 0 → (2 ≤ 2 ∧ S.K x0 = 14 ∧ 0 ≤ 8 ∧ ∃ mc3 mk4, mc3 ≤ mr ∧ mk4 ≤ sr ∧ E 174 [.inr (.inr (x0)), .inl (2)] mc3 mk4 S (k_186_196 E x0 x1 x2 (mr - mc3) (sr - mk4) Q))))) ∧ ((S.I 139 x0) = 4 → ((y0 ≤ 0 → (2 ≤ 2 ∧ S.K x0 = 14 ∧ 0 ≤ 8 ∧ ∃ mc5 mk6, mc5 ≤ mr ∧ mk6 ≤ sr ∧ E 174 [.inr (.inr (x0)), .inl (1)] mc5 mk6 S (k_186_196 E x0 x1 x2 (mr - mc5) (sr - mk6) Q))) ∧ (¬ y0 ≤ 0 → (2 ≤ 2 ∧ S.K x0 = 14 ∧ 0 ≤ 8 ∧ ∃ mc7 mk8, mc7 ≤ mr ∧ mk8 ≤ sr ∧ E 174 [.inr (.inr (x0)), .inl (2)] mc7 mk8 S (k_186_196 E x0 x1 x2 (mr - mc7) (sr - mk8) Q)))))))) ∧ ((S.I 139 x0) = 1 → (((0 : Int32) < y0 → (2 ≤ 2 ∧ S.K x0 = 14 ∧ 0 ≤ 8 ∧ ∃ mc9 mk10, mc9 ≤ mr ∧ mk10 ≤ sr ∧ E 174 [.inr (.inr (x0)), .inl (1)] mc9 mk10 S (k_186_196 E x0 x1 x2 (mr - mc9) (sr - mk10) Q))) ∧ (¬ (0 : Int32) < y0 → (2 ≤ 2 ∧ S.K x0 = 14 ∧ 0 ≤ 8 ∧ ∃ mc11 mk12, mc11 ≤ mr ∧ mk12 ≤ sr ∧ E 174 [.inr (.inr (x0)), .inl (2)] mc11 mk12 S (k_186_196 E x0 x1 x2 (mr - mc11) (sr - mk12) Q)))))))) ∧ ((S.I 139 x0) = 0 → (((0 : Int32) ≤ y0 → (2 ≤ 2 ∧ S.K x0 = 14 ∧ 0 ≤ 8 ∧ ∃ mc13 mk14, mc13 ≤ mr ∧ mk14 ≤ sr ∧ E 174 [.inr (.inr (x0)), .inl (1)] mc13 mk14 S (k_186_196 E x0 x1 x2 (mr - mc13) (sr - mk14) Q))) ∧ (¬ (0 : Int32) ≤ y0 → (2 ≤ 2 ∧ S.K x0 = 14 ∧ 0 ≤ 8 ∧ ∃ mc15 mk16, mc15 ≤ mr ∧ mk16 ≤ sr ∧ E 174 [.inr (.inr (x0)), .inl (2)] mc15 mk16 S (k_186_196 E x0 x1 x2 (mr - mc15) (sr - mk16) Q)))))))
set_option maxRecDepth 20000 in
set_option maxHeartbeats 4000000 in
theorem f_186_138 {E : ox_E} (hE : ox_mono E) {mr sr : Nat} {x0 : Nat} {x1 : Int32} {x2 : Int32} {y0 : Int32} {S : ox_St} {Q : ox_Q} (h : q_186_138 E x0 x1 x2 y0 S mr sr Q) : k_186_138 E x0 x1 x2 mr sr Q (some (.inl (y0))) S := ox_C_fold hE h
set_option maxRecDepth 20000 in
def q_186_129 (E : ox_E) (x0 : Nat) (x1 : Int32) (x2 : Int32) (S : ox_St) (mr sr : Nat) (Q : ox_Q) : Prop :=
  k_186_196 E x0 x1 x2 mr sr Q none S
set_option maxRecDepth 20000 in
set_option maxHeartbeats 4000000 in
theorem f_186_129 {E : ox_E} (hE : ox_mono E) {mr sr : Nat} {x0 : Nat} {x1 : Int32} {x2 : Int32} {S : ox_St} {Q : ox_Q} (h : q_186_129 E x0 x1 x2 S mr sr Q) : k_186_129 E x0 x1 x2 mr sr Q none S := ox_C_fold hE h
set_option maxRecDepth 20000 in
def q_186_121 (E : ox_E) (x0 : Nat) (x1 : Int32) (x2 : Int32) (y0 : Int32) (S : ox_St) (mr sr : Nat) (Q : ox_Q) : Prop :=
  ((¬ y0 = 0 → (3 ≤ 3 ∧ S.K x0 = 14 ∧ 0 ≤ 8 ∧ ∃ mc1 mk2, mc1 ≤ mr ∧ mk2 ≤ sr ∧ E 142 [.inr (.inr (x0)), .inl (x2), .inl (x1)] mc1 mk2 S (k_186_138 E x0 x1 x2 (mr - mc1) (sr - mk2) Q))) ∧ (y0 = 0 → (2 ≤ 2 ∧ S.K x0 = 14 ∧ 0 ≤ 8 ∧ ∃ mc3 mk4, mc3 ≤ mr ∧ mk4 ≤ sr ∧ E 177 [.inr (.inr (x0)), .inl (0)] mc3 mk4 S (k_186_129 E x0 x1 x2 (mr - mc3) (sr - mk4) Q))))
set_option maxRecDepth 20000 in
set_option maxHeartbeats 4000000 in
theorem f_186_121 {E : ox_E} (hE : ox_mono E) {mr sr : Nat} {x0 : Nat} {x1 : Int32} {x2 : Int32} {y0 : Int32} {S : ox_St} {Q : ox_Q} (h : q_186_121 E x0 x1 x2 y0 S mr sr Q) : k_186_121 E x0 x1 x2 mr sr Q (some (.inl (y0))) S := ox_C_fold hE h
set_option maxRecDepth 20000 in
def q_186_113 (E : ox_E) (x0 : Nat) (x1 : Int32) (x2 : Int32) (y0 : Int32) (S : ox_St) (mr sr : Nat) (Q : ox_Q) : Prop :=
  ((y0 = 0 → (2 ≤ 2 ∧ S.K x0 = 14 ∧ 0 ≤ 8 ∧ ∃ mc1 mk2, mc1 ≤ mr ∧ mk2 ≤ sr ∧ E 177 [.inr (.inr (x0)), .inl (0)] mc1 mk2 S (k_186_129 E x0 x1 x2 (mr - mc1) (sr - mk2) Q))) ∧ (¬ y0 = 0 → (2 ≤ 2 ∧ S.K x0 = 14 ∧ 0 ≤ 8 ∧ ∃ mc3 mk4, mc3 ≤ mr ∧ mk4 ≤ sr ∧ E 135 [.inr (.inr (x0)), .inl (x1)] mc3 mk4 S (k_186_121 E x0 x1 x2 (mr - mc3) (sr - mk4) Q))))
set_option maxRecDepth 20000 in
set_option maxHeartbeats 4000000 in
theorem f_186_113 {E : ox_E} (hE : ox_mono E) {mr sr : Nat} {x0 : Nat} {x1 : Int32} {x2 : Int32} {y0 : Int32} {S : ox_St} {Q : ox_Q} (h : q_186_113 E x0 x1 x2 y0 S mr sr Q) : k_186_113 E x0 x1 x2 mr sr Q (some (.inl (y0))) S := ox_C_fold hE h
set_option maxRecDepth 20000 in
def q_186_105 (E : ox_E) (x0 : Nat) (x1 : Int32) (x2 : Int32) (S : ox_St) (mr sr : Nat) (Q : ox_Q) : Prop :=
  k_186_196 E x0 x1 x2 mr sr Q none S
set_option maxRecDepth 20000 in
set_option maxHeartbeats 4000000 in
theorem f_186_105 {E : ox_E} (hE : ox_mono E) {mr sr : Nat} {x0 : Nat} {x1 : Int32} {x2 : Int32} {S : ox_St} {Q : ox_Q} (h : q_186_105 E x0 x1 x2 S mr sr Q) : k_186_105 E x0 x1 x2 mr sr Q none S := ox_C_fold hE h
set_option maxRecDepth 20000 in
def q_186_97 (E : ox_E) (x0 : Nat) (x1 : Int32) (x2 : Int32) (S : ox_St) (mr sr : Nat) (Q : ox_Q) : Prop :=
  k_186_196 E x0 x1 x2 mr sr Q none S
set_option maxRecDepth 20000 in
set_option maxHeartbeats 4000000 in
theorem f_186_97 {E : ox_E} (hE : ox_mono E) {mr sr : Nat} {x0 : Nat} {x1 : Int32} {x2 : Int32} {S : ox_St} {Q : ox_Q} (h : q_186_97 E x0 x1 x2 S mr sr Q) : k_186_97 E x0 x1 x2 mr sr Q none S := ox_C_fold hE h
set_option maxRecDepth 20000 in
def q_186_80 (E : ox_E) (x0 : Nat) (x1 : Int32) (x2 : Int32) (y0 : Int32) (S : ox_St) (mr sr : Nat) (Q : ox_Q) : Prop :=
  ((y0 = 0 → (2 ≤ 2 ∧ S.K x0 = 14 ∧ 0 ≤ 8 ∧ ∃ mc1 mk2, mc1 ≤ mr ∧ mk2 ≤ sr ∧ E 177 [.inr (.inr (x0)), .inl (0)] mc1 mk2 S (k_186_105 E x0 x1 x2 (mr - mc1) (sr - mk2) Q))) ∧ (¬ y0 = 0 → ((¬ x2 = x1 → (2 ≤ 2 ∧ S.K x0 = 14 ∧ 0 ≤ 8 ∧ ∃ mc3 mk4, mc3 ≤ mr ∧ mk4 ≤ sr ∧ E 174 [.inr (.inr (x0)), .inl (1)] mc3 mk4 S (k_186_97 E x0 x1 x2 (mr - mc3) (sr - mk4) Q))) ∧ (x2 = x1 → (2 ≤ 2 ∧ S.K x0 = 14 ∧ 0 ≤ 8 ∧ ∃ mc5 mk6, mc5 ≤ mr ∧ mk6 ≤ sr ∧ E 174 [.inr (.inr (x0)), .inl (2)] mc5 mk6 S (k_186_97 E x0 x1 x2 (mr - mc5) (sr - mk6) Q))))))
set_option maxRecDepth 20000 in
set_option maxHeartbeats 4000000 in
theorem f_186_80 {E : ox_E} (hE : ox_mono E) {mr sr : Nat} {x0 : Nat} {x1 : Int32} {x2 : Int32} {y0 : Int32} {S : ox_St} {Q : ox_Q} (h : q_186_80 E x0 x1 x2 y0 S mr sr Q) : k_186_80 E x0 x1 x2 mr sr Q (some (.inl (y0))) S := ox_C_fold hE h
set_option maxRecDepth 20000 in
def q_186_73 (E : ox_E) (x0 : Nat) (x1 : Int32) (x2 : Int32) (y0 : Int32) (S : ox_St) (mr sr : Nat) (Q : ox_Q) : Prop :=
  ((y0 = 0 → (2 ≤ 2 ∧ S.K x0 = 14 ∧ 0 ≤ 8 ∧ ∃ mc1 mk2, mc1 ≤ mr ∧ mk2 ≤ sr ∧ E 177 [.inr (.inr (x0)), .inl (0)] mc1 mk2 S (k_186_105 E x0 x1 x2 (mr - mc1) (sr - mk2) Q))) ∧ (¬ y0 = 0 → (1 ≤ 1 ∧ 0 ≤ 8 ∧ ∃ mc3 mk4, mc3 ≤ mr ∧ mk4 ≤ sr ∧ E 136 [.inl (x1)] mc3 mk4 S (k_186_80 E x0 x1 x2 (mr - mc3) (sr - mk4) Q))))
set_option maxRecDepth 20000 in
set_option maxHeartbeats 4000000 in
theorem f_186_73 {E : ox_E} (hE : ox_mono E) {mr sr : Nat} {x0 : Nat} {x1 : Int32} {x2 : Int32} {y0 : Int32} {S : ox_St} {Q : ox_Q} (h : q_186_73 E x0 x1 x2 y0 S mr sr Q) : k_186_73 E x0 x1 x2 mr sr Q (some (.inl (y0))) S := ox_C_fold hE h
set_option maxRecDepth 20000 in
def q_186_57 (E : ox_E) (x0 : Nat) (x1 : Int32) (x2 : Int32) (S : ox_St) (mr sr : Nat) (Q : ox_Q) : Prop :=
  k_186_196 E x0 x1 x2 mr sr Q none S
set_option maxRecDepth 20000 in
set_option maxHeartbeats 4000000 in
theorem f_186_57 {E : ox_E} (hE : ox_mono E) {mr sr : Nat} {x0 : Nat} {x1 : Int32} {x2 : Int32} {S : ox_St} {Q : ox_Q} (h : q_186_57 E x0 x1 x2 S mr sr Q) : k_186_57 E x0 x1 x2 mr sr Q none S := ox_C_fold hE h
set_option maxRecDepth 20000 in
def q_186_33 (E : ox_E) (x0 : Nat) (x1 : Int32) (x2 : Int32) (y0 : Int32) (y1 : Nat) (S : ox_St) (mr sr : Nat) (Q : ox_Q) : Prop :=
  (ox_has (S.K x0) 139 = true ∧ ((¬ (S.I 139 x0) = 2 → ((¬ y0 = 0 → (2 ≤ 2 ∧ S.K y1 = 14 ∧ 0 ≤ 8 ∧ ∃ mc1 mk2, mc1 ≤ mr ∧ mk2 ≤ sr ∧ E 174 [.inr (.inr (y1)), .inl (1)] mc1 mk2 S (k_186_57 E x0 x1 x2 (mr - mc1) (sr - mk2) Q))) ∧ (y0 = 0 → (2 ≤ 2 ∧ S.K y1 = 14 ∧ 0 ≤ 8 ∧ ∃ mc3 mk4, mc3 ≤ mr ∧ mk4 ≤ sr ∧ E 174 [.inr (.inr (y1)), .inl (2)] mc3 mk4 S (k_186_57 E x0 x1 x2 (mr - mc3) (sr - mk4) Q))))) ∧ ((S.I 139 x0) = 2 → ((¬ y0 = 1 → (2 ≤ 2 ∧ S.K y1 = 14 ∧ 0 ≤ 8 ∧ ∃ mc5 mk6, mc5 ≤ mr ∧ mk6 ≤ sr ∧ E 174 [.inr (.inr (y1)), .inl (1)] mc5 mk6 S (k_186_57 E x0 x1 x2 (mr - mc5) (sr - mk6) Q))) ∧ (y0 = 1 → (2 ≤ 2 ∧ S.K y1 = 14 ∧ 0 ≤ 8 ∧ ∃ mc7 mk8, mc7 ≤ mr ∧ mk8 ≤ sr ∧ E 174 [.inr (.inr (y1)), .inl (2)] mc7 mk8 S (k_186_57 E x0 x1 x2 (mr - mc7) (sr - mk8) Q)))))))
set_option maxRecDepth 20000 in
set_option maxHeartbeats 4000000 in
theorem f_186_33 {E : ox_E} (hE : ox_mono E) {mr sr : Nat} {x0 : Nat} {x1 : Int32} {x2 : Int32} {y0 : Int32} {y1 : Nat} {S : ox_St} {Q : ox_Q} (h : q_186_33 E x0 x1 x2 y0 y1 S mr sr Q) : k_186_33 E x0 x1 x2 y1 mr sr Q (some (.inl (y0))) S := ox_C_fold hE h
set_option maxRecDepth 20000 in
def q_186_9 (E : ox_E) (x0 : Nat) (x1 : Int32) (y0 : Int32) (S : ox_St) (mr sr : Nat) (Q : ox_Q) : Prop :=
  (ox_has (S.K x0) 139 = true ∧ (((S.I 139 x0) = 2 → (3 ≤ 4 ∧ S.K x0 = 14 ∧ 1 ≤ 8 ∧ ∃ mc1 mk2, mc1 ≤ mr ∧ mk2 ≤ sr ∧ E 182 [.inr (.inr (x0)), .inl (y0), .inl (x1)] mc1 mk2 S (k_186_33 E x0 x1 y0 x0 (mr - mc1) (sr - mk2) Q))) ∧ (¬ (S.I 139 x0) = 2 → (ox_has (S.K x0) 139 = true ∧ ((¬ (S.I 139 x0) = 3 → (ox_has (S.K x0) 139 = true ∧ ((¬ (S.I 139 x0) = 10 → (2 ≤ 2 ∧ S.K x0 = 14 ∧ 0 ≤ 8 ∧ ∃ mc3 mk4, mc3 ≤ mr ∧ mk4 ≤ sr ∧ E 135 [.inr (.inr (x0)), .inl (y0)] mc3 mk4 S (k_186_113 E x0 x1 y0 (mr - mc3) (sr - mk4) Q))) ∧ ((S.I 139 x0) = 10 → (1 ≤ 1 ∧ 0 ≤ 8 ∧ ∃ mc5 mk6, mc5 ≤ mr ∧ mk6 ≤ sr ∧ E 136 [.inl (y0)] mc5 mk6 S (k_186_73 E x0 x1 y0 (mr - mc5) (sr - mk6) Q)))))) ∧ ((S.I 139 x0) = 3 → (3 ≤ 4 ∧ S.K x0 = 14 ∧ 1 ≤ 8 ∧ ∃ mc7 mk8, mc7 ≤ mr ∧ mk8 ≤ sr ∧ E 182 [.inr (.inr (x0)), .inl (y0), .inl (x1)] mc7 mk8 S (k_186_33 E x0 x1 y0 x0 (mr - mc7) (sr - mk8) Q))))))))
set_option maxRecDepth 20000 in
set_option maxHeartbeats 4000000 in
theorem f_186_9 {E : ox_E} (hE : ox_mono E) {mr sr : Nat} {x0 : Nat} {x1 : Int32} {y0 : Int32} {S : ox_St} {Q : ox_Q} (h : q_186_9 E x0 x1 y0 S mr sr Q) : k_186_9 E x0 x1 mr sr Q (some (.inl (y0))) S := ox_C_fold hE h
set_option maxRecDepth 20000 in
def q_186_4 (E : ox_E) (x0 : Nat) (y0 : Int32) (S : ox_St) (mr sr : Nat) (Q : ox_Q) : Prop :=
  (1 ≤ 1 ∧ S.K x0 = 14 ∧ 0 ≤ 8 ∧ ∃ mc1 mk2, mc1 ≤ mr ∧ mk2 ≤ sr ∧ E 175 [.inr (.inr (x0))] mc1 mk2 S (k_186_9 E x0 y0 (mr - mc1) (sr - mk2) Q))
set_option maxRecDepth 20000 in
set_option maxHeartbeats 4000000 in
theorem f_186_4 {E : ox_E} (hE : ox_mono E) {mr sr : Nat} {x0 : Nat} {y0 : Int32} {S : ox_St} {Q : ox_Q} (h : q_186_4 E x0 y0 S mr sr Q) : k_186_4 E x0 mr sr Q (some (.inl (y0))) S := ox_C_fold hE h
set_option maxRecDepth 20000 in
def q_186 (E : ox_E) (x0 : Nat) (S : ox_St) (mr sr : Nat) (Q : ox_Q) : Prop :=
  (1 ≤ 1 ∧ S.K x0 = 14 ∧ 0 ≤ 8 ∧ ∃ mc1 mk2, mc1 ≤ mr ∧ mk2 ≤ sr ∧ E 175 [.inr (.inr (x0))] mc1 mk2 S (k_186_4 E x0 (mr - mc1) (sr - mk2) Q))
set_option maxRecDepth 20000 in
set_option maxHeartbeats 4000000 in
theorem f_186 {sp : ox_E} (hsp : ox_mono sp) {d : Nat} {mr sr : Nat} {x0 : Nat} {S : ox_St} {Q : ox_Q} (h : q_186 (ox_M sp d) x0 S mr sr Q) : ox_M sp (d + 1) 186 [.inr (.inr (x0))] mr sr S Q := Or.inr ⟨Nat.le_of_ble_eq_true rfl, ox_C_fold (ox_M_mono hsp d) h⟩
/-! OpcodeFramesModel.next(I)V -/
def k_187_12 (E : ox_E) (x0 : Nat) (x1 : Int32) (x2 : Int32) (mr sr : Nat) (Q : ox_Q) : ox_Q := fun r_ T_ => ox_C E (ox_mi 187).2.2.2.1 (ox_mc 187) (ox_cut 187) Q 12 [some (.inr (.inr (x0))), some (.inl (x1)), some (.inl (x2)), none, none, none, none, none] (r_.toList ++ []) T_ mr sr
def k_187_18 (E : ox_E) (x0 : Nat) (x1 : Int32) (x2 : Int32) (x3 : Int32) (mr sr : Nat) (Q : ox_Q) : ox_Q := fun r_ T_ => ox_C E (ox_mi 187).2.2.2.1 (ox_mc 187) (ox_cut 187) Q 18 [some (.inr (.inr (x0))), some (.inl (x1)), some (.inl (x2)), some (.inl (x3)), none, none, none, none] (r_.toList ++ []) T_ mr sr
def k_187_28 (E : ox_E) (x0 : Nat) (x1 : Int32) (x2 : Int32) (x3 : Int32) (mr sr : Nat) (Q : ox_Q) : ox_Q := fun r_ T_ => ox_C E (ox_mi 187).2.2.2.1 (ox_mc 187) (ox_cut 187) Q 28 [some (.inr (.inr (x0))), some (.inl (x1)), some (.inl (x2)), some (.inl (x3)), none, none, none, none] (r_.toList ++ []) T_ mr sr
def k_187_79 (E : ox_E) (x0 : Nat) (x1 : Int32) (x2 : Int32) (x3 : Int32) (x4 : Int32) (x5 : Int32) (mr sr : Nat) (Q : ox_Q) : ox_Q := fun r_ T_ => ox_C E (ox_mi 187).2.2.2.1 (ox_mc 187) (ox_cut 187) Q 79 [some (.inr (.inr (x0))), some (.inl (x1)), some (.inl (x2)), some (.inl (x3)), some (.inl (x4)), some (.inl (x5)), none, none] (r_.toList ++ []) T_ mr sr
def k_187_176 (E : ox_E) (x0 : Nat) (x1 : Int32) (x2 : Int32) (x3 : Int32) (x4 : Int32) (x5 : Int32) (x6 : Int64) (y1 : Nat) (mr sr : Nat) (Q : ox_Q) : ox_Q := fun r_ T_ => ox_C E (ox_mi 187).2.2.2.1 (ox_mc 187) (ox_cut 187) Q 176 [some (.inr (.inr (x0))), some (.inl (x1)), some (.inl (x2)), some (.inl (x3)), some (.inl (x4)), some (.inl (x5)), some (.inr (.inl (x6))), none] (r_.toList ++ [.inr (.inr (y1))]) T_ mr sr
def k_187_179 (E : ox_E) (x0 : Nat) (x1 : Int32) (x2 : Int32) (x3 : Int32) (x4 : Int32) (x5 : Int32) (x6 : Int64) (mr sr : Nat) (Q : ox_Q) : ox_Q := fun r_ T_ => ox_C E (ox_mi 187).2.2.2.1 (ox_mc 187) (ox_cut 187) Q 179 [some (.inr (.inr (x0))), some (.inl (x1)), some (.inl (x2)), some (.inl (x3)), some (.inl (x4)), some (.inl (x5)), some (.inr (.inl (x6))), none] (r_.toList ++ []) T_ mr sr
set_option maxRecDepth 20000 in
def q_187_179 (E : ox_E) (x0 : Nat) (x1 : Int32) (x2 : Int32) (x3 : Int32) (x4 : Int32) (x5 : Int32) (x6 : Int64) (S : ox_St) (mr sr : Nat) (Q : ox_Q) : Prop :=
  ((ox_mi 187).2.2.2.1 = none ∧ Q none S)
set_option maxRecDepth 20000 in
set_option maxHeartbeats 4000000 in
theorem f_187_179 {E : ox_E} (hE : ox_mono E) {mr sr : Nat} {x0 : Nat} {x1 : Int32} {x2 : Int32} {x3 : Int32} {x4 : Int32} {x5 : Int32} {x6 : Int64} {S : ox_St} {Q : ox_Q} (h : q_187_179 E x0 x1 x2 x3 x4 x5 x6 S mr sr Q) : k_187_179 E x0 x1 x2 x3 x4 x5 x6 mr sr Q none S := ox_C_fold hE h
set_option maxRecDepth 20000 in
def q_187_176 (E : ox_E) (x0 : Nat) (x1 : Int32) (x2 : Int32) (x3 : Int32) (x4 : Int32) (x5 : Int32) (x6 : Int64) (y0 : Int32) (y1 : Nat) (S : ox_St) (mr sr : Nat) (Q : ox_Q) : Prop :=
  (2 ≤ 2 ∧ S.K y1 = 14 ∧ 0 ≤ 8 ∧ ∃ mc1 mk2, mc1 ≤ mr ∧ mk2 ≤ sr ∧ E 174 [.inr (.inr (y1)), .inl (y0)] mc1 mk2 S (k_187_179 E x0 x1 x2 x3 x4 x5 x6 (mr - mc1) (sr - mk2) Q))
set_option maxRecDepth 20000 in
set_option maxHeartbeats 4000000 in
theorem f_187_176 {E : ox_E} (hE : ox_mono E) {mr sr : Nat} {x0 : Nat} {x1 : Int32} {x2 : Int32} {x3 : Int32} {x4 : Int32} {x5 : Int32} {x6 : Int64} {y0 : Int32} {y1 : Nat} {S : ox_St} {Q : ox_Q} (h : q_187_176 E x0 x1 x2 x3 x4 x5 x6 y0 y1 S mr sr Q) : k_187_176 E x0 x1 x2 x3 x4 x5 x6 y1 mr sr Q (some (.inl (y0))) S := ox_C_fold hE h
set_option maxRecDepth 20000 in
def q_187_79 (E : ox_E) (x0 : Nat) (x1 : Int32) (x2 : Int32) (x3 : Int32) (x4 : Int32) (x5 : Int32) (y0 : Int64) (S : ox_St) (mr sr : Nat) (Q : ox_Q) : Prop :=
  (((lg_cmp (Int32.toInt64 x5) y0) < 0 → (ox_has (S.K x0) 73 = true ∧ (S.K (S.R 73 x0) = 15 ∧ vp_in (x3 + 2) (S.len (S.R 73 x0)) ∧ (let S1 := S.wI (S.R 73 x0) (Int32.toNatClampNeg (x3 + 2)) (x5 + 1)
  (ox_has (S1.K x0) 73 = true ∧ (ox_rdI (S1.K (S1.R 73 x0)) = true ∧ vp_in x4 (S1.len (S1.R 73 x0)) ∧ ((¬ (S1.rI (S1.R 73 x0) (Int32.toNatClampNeg x4)) = 4 → (ox_has (S1.K x0) 73 = true ∧ (ox_rdI (S1.K (S1.R 73 x0)) = true ∧ vp_in (x4 + 1) (S1.len (S1.R 73 x0)) ∧ (ox_has (S1.K x0) 73 = true ∧ (ox_rdI (S1.K (S1.R 73 x0)) = true ∧ vp_in (x4 + 3) (S1.len (S1.R 73 x0)) ∧ (2 ≤ 3 ∧ S1.K x0 = 14 ∧ 1 ≤ 8 ∧ ∃ mc2 mk3, mc2 ≤ mr ∧ mk3 ≤ sr ∧ E 148 [.inr (.inr (x0)), .inr (.inl ((Int32.toInt64 (S1.rI (S1.R 73 x0) (Int32.toNatClampNeg (x4 + 1)))) + ((Int32.toInt64 x5) * (Int32.toInt64 (S1.rI (S1.R 73 x0) (Int32.toNatClampNeg (x4 + 3)))))))] mc2 mk3 S1 (k_187_176 E x0 x1 x2 x3 x4 x5 y0 x0 (mr - mc2) (sr - mk3) Q))))))) ∧ ((S1.rI (S1.R 73 x0) (Int32.toNatClampNeg x4)) = 4 → (ox_has (S1.K x0) 73 = true ∧ (ox_rdI (S1.K (S1.R 73 x0)) = true ∧ vp_in ((x4 + 3) + x5) (S1.len (S1.R 73 x0)) ∧ k_187_176 E x0 x1 x2 x3 x4 x5 y0 x0 mr sr Q (some (.inl (S1.rI (S1.R 73 x0) (Int32.toNatClampNeg ((x4 + 3) + x5))))) S1)))))))))) ∧ (¬ (lg_cmp (Int32.toInt64 x5) y0) < 0 → (ox_has (S.K x0) 100 = true ∧ (ox_rdI (S.K (S.R 100 x0)) = true ∧ vp_in x2 (S.len (S.R 100 x0)) ∧ (S.K (S.R 100 x0) = 15 ∧ vp_in x2 (S.len (S.R 100 x0)) ∧ (let S4 := S.wI (S.R 100 x0) (Int32.toNatClampNeg x2) ((S.rI (S.R 100 x0) (Int32.toNatClampNeg x2)) - 1)
  (ox_has (S4.K x0) 99 = true ∧ (S4.K (S4.R 99 x0) = 15 ∧ vp_in x2 (S4.len (S4.R 99 x0)) ∧ (let S5 := S4.wI (S4.R 99 x0) (Int32.toNatClampNeg x2) x1
  ((ox_mi 187).2.2.2.1 = none ∧ Q none S5))))))))))
set_option maxRecDepth 20000 in
set_option maxHeartbeats 4000000 in
theorem f_187_79 {E : ox_E} (hE : ox_mono E) {mr sr : Nat} {x0 : Nat} {x1 : Int32} {x2 : Int32} {x3 : Int32} {x4 : Int32} {x5 : Int32} {y0 : Int64} {S : ox_St} {Q : ox_Q} (h : q_187_79 E x0 x1 x2 x3 x4 x5 y0 S mr sr Q) : k_187_79 E x0 x1 x2 x3 x4 x5 mr sr Q (some (.inr (.inl (y0)))) S := ox_C_fold hE h
set_option maxRecDepth 20000 in
def q_187_28 (E : ox_E) (x0 : Nat) (x1 : Int32) (x2 : Int32) (x3 : Int32) (S : ox_St) (mr sr : Nat) (Q : ox_Q) : Prop :=
  ((ox_mi 187).2.2.2.1 = none ∧ Q none S)
set_option maxRecDepth 20000 in
set_option maxHeartbeats 4000000 in
theorem f_187_28 {E : ox_E} (hE : ox_mono E) {mr sr : Nat} {x0 : Nat} {x1 : Int32} {x2 : Int32} {x3 : Int32} {S : ox_St} {Q : ox_Q} (h : q_187_28 E x0 x1 x2 x3 S mr sr Q) : k_187_28 E x0 x1 x2 x3 mr sr Q none S := ox_C_fold hE h
set_option maxRecDepth 20000 in
def q_187_18 (E : ox_E) (x0 : Nat) (x1 : Int32) (x2 : Int32) (x3 : Int32) (y0 : Int32) (S : ox_St) (mr sr : Nat) (Q : ox_Q) : Prop :=
  ((y0 = 6 → (ox_has (S.K x0) 73 = true ∧ (ox_rdI (S.K (S.R 73 x0)) = true ∧ vp_in (x3 + 1) (S.len (S.R 73 x0)) ∧ (let w1 : Int32 := S.rI (S.R 73 x0) (Int32.toNatClampNeg (x3 + 1))
  (ox_has (S.K x0) 73 = true ∧ (ox_rdI (S.K (S.R 73 x0)) = true ∧ vp_in (x3 + 2) (S.len (S.R 73 x0)) ∧ (let w2 : Int32 := S.rI (S.R 73 x0) (Int32.toNatClampNeg (x3 + 2))
  (ox_has (S.K x0) 73 = true ∧ (ox_rdI (S.K (S.R 73 x0)) = true ∧ vp_in w1 (S.len (S.R 73 x0)) ∧ ((¬ (S.rI (S.R 73 x0) (Int32.toNatClampNeg w1)) = 4 → (2 ≤ 2 ∧ S.K x0 = 14 ∧ 0 ≤ 8 ∧ ∃ mc3 mk4, mc3 ≤ mr ∧ mk4 ≤ sr ∧ E 180 [.inr (.inr (x0)), .inl (w1)] mc3 mk4 S (k_187_79 E x0 x1 x2 x3 w1 w2 (mr - mc3) (sr - mk4) Q))) ∧ ((S.rI (S.R 73 x0) (Int32.toNatClampNeg w1)) = 4 → (ox_has (S.K x0) 73 = true ∧ (ox_rdI (S.K (S.R 73 x0)) = true ∧ vp_in (w1 + 2) (S.len (S.R 73 x0)) ∧ k_187_79 E x0 x1 x2 x3 w1 w2 mr sr Q (some (.inr (.inl (Int32.toInt64 (S.rI (S.R 73 x0) (Int32.toNatClampNeg (w1 + 2))))))) S))))))))))))) ∧ (¬ y0 = 6 → (2 ≤ 2 ∧ S.K x0 = 14 ∧ 0 ≤ 8 ∧ ∃ mc5 mk6, mc5 ≤ mr ∧ mk6 ≤ sr ∧ E 177 [.inr (.inr (x0)), .inl (0)] mc5 mk6 S (k_187_28 E x0 x1 x2 x3 (mr - mc5) (sr - mk6) Q))))
set_option maxRecDepth 20000 in
set_option maxHeartbeats 4000000 in
theorem f_187_18 {E : ox_E} (hE : ox_mono E) {mr sr : Nat} {x0 : Nat} {x1 : Int32} {x2 : Int32} {x3 : Int32} {y0 : Int32} {S : ox_St} {Q : ox_Q} (h : q_187_18 E x0 x1 x2 x3 y0 S mr sr Q) : k_187_18 E x0 x1 x2 x3 mr sr Q (some (.inl (y0))) S := ox_C_fold hE h
set_option maxRecDepth 20000 in
def q_187_12 (E : ox_E) (x0 : Nat) (x1 : Int32) (x2 : Int32) (y0 : Int32) (S : ox_St) (mr sr : Nat) (Q : ox_Q) : Prop :=
  (2 ≤ 2 ∧ S.K x0 = 14 ∧ 0 ≤ 8 ∧ ∃ mc1 mk2, mc1 ≤ mr ∧ mk2 ≤ sr ∧ E 133 [.inr (.inr (x0)), .inl (y0)] mc1 mk2 S (k_187_18 E x0 x1 x2 y0 (mr - mc1) (sr - mk2) Q))
set_option maxRecDepth 20000 in
set_option maxHeartbeats 4000000 in
theorem f_187_12 {E : ox_E} (hE : ox_mono E) {mr sr : Nat} {x0 : Nat} {x1 : Int32} {x2 : Int32} {y0 : Int32} {S : ox_St} {Q : ox_Q} (h : q_187_12 E x0 x1 x2 y0 S mr sr Q) : k_187_12 E x0 x1 x2 mr sr Q (some (.inl (y0))) S := ox_C_fold hE h
set_option maxRecDepth 20000 in
def q_187 (E : ox_E) (x0 : Nat) (x1 : Int32) (S : ox_St) (mr sr : Nat) (Q : ox_Q) : Prop :=
  (ox_has (S.K x0) 92 = true ∧ (let w1 : Int32 := (S.I 92 x0) - 1
  (2 ≤ 2 ∧ S.K x0 = 14 ∧ 0 ≤ 8 ∧ ∃ mc2 mk3, mc2 ≤ mr ∧ mk3 ≤ sr ∧ E 176 [.inr (.inr (x0)), .inl (0)] mc2 mk3 S (k_187_12 E x0 x1 w1 (mr - mc2) (sr - mk3) Q))))
set_option maxRecDepth 20000 in
set_option maxHeartbeats 4000000 in
theorem f_187 {sp : ox_E} (hsp : ox_mono sp) {d : Nat} {mr sr : Nat} {x0 : Nat} {x1 : Int32} {S : ox_St} {Q : ox_Q} (h : q_187 (ox_M sp d) x0 x1 S mr sr Q) : ox_M sp (d + 1) 187 [.inr (.inr (x0)), .inl (x1)] mr sr S Q := Or.inr ⟨Nat.le_of_ble_eq_true rfl, ox_C_fold (ox_M_mono hsp d) h⟩
/-! OpcodeFramesModel.find(J)I -/
def c_188_2 (E : ox_E) (x0 : Nat) (x1 : Int64) (x3 : Int32) (S : ox_St) (mr sr : Nat) (Q : ox_Q) : Prop := ox_C E (ox_mi 188).2.2.2.1 (ox_mc 188) (ox_cut 188) Q 2 [some (.inr (.inr (x0))), some (.inr (.inl (x1))), none, some (.inl (x3))] [] S mr sr
set_option maxRecDepth 20000 in
def q_188_2 (E : ox_E) (x0 : Nat) (x1 : Int64) (x3 : Int32) (S : ox_St) (mr sr : Nat) (Q : ox_Q) : Prop :=
  (ox_has (S.K x0) 106 = true ∧ (((S.I 106 x0) ≤ x3 → (ox_has (S.K x0) 106 = true ∧ (((S.I 106 x0) ≤ x3 → (True ∧ Q (some (.inl ((-1) : Int32))) S)) ∧ (¬ (S.I 106 x0) ≤ x3 → (True ∧ Q (some (.inl x3)) S))))) ∧ (¬ (S.I 106 x0) ≤ x3 → (ox_has (S.K x0) 107 = true ∧ (ox_rdJ (S.K (S.R 107 x0)) = true ∧ vp_in x3 (S.len (S.R 107 x0)) ∧ (((lg_cmp (S.rJ (S.R 107 x0) (Int32.toNatClampNeg x3)) x1) = 0 → (ox_has (S.K x0) 106 = true ∧ (((S.I 106 x0) ≤ x3 → (True ∧ Q (some (.inl ((-1) : Int32))) S)) ∧ (¬ (S.I 106 x0) ≤ x3 → (True ∧ Q (some (.inl x3)) S))))) ∧ (¬ (lg_cmp (S.rJ (S.R 107 x0) (Int32.toNatClampNeg x3)) x1) = 0 → c_188_2 E x0 x1 (x3 + 1) S mr sr Q)))))))
set_option maxRecDepth 20000 in
set_option maxHeartbeats 4000000 in
theorem f_188_2 {E : ox_E} (hE : ox_mono E) {mr sr : Nat} {x0 : Nat} {x1 : Int64} {x3 : Int32} {S : ox_St} {Q : ox_Q} (h : q_188_2 E x0 x1 x3 S mr sr Q) : c_188_2 E x0 x1 x3 S mr sr Q := ox_C_fold hE h
set_option maxRecDepth 20000 in
def q_188 (E : ox_E) (x0 : Nat) (x1 : Int64) (S : ox_St) (mr sr : Nat) (Q : ox_Q) : Prop :=
  c_188_2 E x0 x1 0 S mr sr Q
set_option maxRecDepth 20000 in
set_option maxHeartbeats 4000000 in
theorem f_188 {sp : ox_E} (hsp : ox_mono sp) {d : Nat} {mr sr : Nat} {x0 : Nat} {x1 : Int64} {S : ox_St} {Q : ox_Q} (h : q_188 (ox_M sp d) x0 x1 S mr sr Q) : ox_M sp (d + 1) 188 [.inr (.inr (x0)), .inr (.inl (x1))] mr sr S Q := Or.inr ⟨Nat.le_of_ble_eq_true rfl, ox_C_fold (ox_M_mono hsp d) h⟩
/-! OpcodeFramesModel.word(CCCCC)J -/
set_option maxRecDepth 20000 in
def q_189 (E : ox_E) (x0 : Int32) (x1 : Int32) (x2 : Int32) (x3 : Int32) (x4 : Int32) (S : ox_St) (mr sr : Nat) (Q : ox_Q) : Prop :=
  (let w1 : Int64 := ((((Int32.toInt64 x0) <<< (Int32.toInt64 8 &&& 63)) ||| (Int32.toInt64 x1)) <<< (Int32.toInt64 8 &&& 63)) ||| (Int32.toInt64 x2)
  ((¬ x3 = 0 → (let w2 : Int64 := (w1 <<< (Int32.toInt64 8 &&& 63)) ||| (Int32.toInt64 x3)
  ((¬ x4 = 0 → (ox_isL (some .long) = true ∧ Q (some (.inr (.inl ((w2 <<< (Int32.toInt64 8 &&& 63)) ||| (Int32.toInt64 x4))))) S)) ∧ (x4 = 0 → (ox_isL (some .long) = true ∧ Q (some (.inr (.inl w2))) S))))) ∧ (x3 = 0 → ((¬ x4 = 0 → (ox_isL (some .long) = true ∧ Q (some (.inr (.inl ((w1 <<< (Int32.toInt64 8 &&& 63)) ||| (Int32.toInt64 x4))))) S)) ∧ (x4 = 0 → (ox_isL (some .long) = true ∧ Q (some (.inr (.inl w1))) S))))))
set_option maxRecDepth 20000 in
set_option maxHeartbeats 4000000 in
theorem f_189 {sp : ox_E} (hsp : ox_mono sp) {d : Nat} {mr sr : Nat} {x0 : Int32} {x1 : Int32} {x2 : Int32} {x3 : Int32} {x4 : Int32} {S : ox_St} {Q : ox_Q} (h : q_189 (ox_M sp d) x0 x1 x2 x3 x4 S mr sr Q) : ox_M sp (d + 1) 189 [.inl (x0), .inl (x1), .inl (x2), .inl (x3), .inl (x4)] mr sr S Q := Or.inr ⟨Nat.le_of_ble_eq_true rfl, ox_C_fold (ox_M_mono hsp d) h⟩
/-! OpcodeFramesModel.built(J)I -/
def k_190_14 (E : ox_E) (x0 : Int64) (y1 : Int64) (mr sr : Nat) (Q : ox_Q) : ox_Q := fun r_ T_ => ox_C E (ox_mi 190).2.2.2.1 (ox_mc 190) (ox_cut 190) Q 14 [some (.inr (.inl (x0))), none] (r_.toList ++ [.inr (.inl (y1))]) T_ mr sr
def k_190_32 (E : ox_E) (x0 : Int64) (y1 : Int64) (mr sr : Nat) (Q : ox_Q) : ox_Q := fun r_ T_ => ox_C E (ox_mi 190).2.2.2.1 (ox_mc 190) (ox_cut 190) Q 32 [some (.inr (.inl (x0))), none] (r_.toList ++ [.inr (.inl (y1))]) T_ mr sr
def k_190_51 (E : ox_E) (x0 : Int64) (y1 : Int64) (mr sr : Nat) (Q : ox_Q) : ox_Q := fun r_ T_ => ox_C E (ox_mi 190).2.2.2.1 (ox_mc 190) (ox_cut 190) Q 51 [some (.inr (.inl (x0))), none] (r_.toList ++ [.inr (.inl (y1))]) T_ mr sr
def k_190_71 (E : ox_E) (x0 : Int64) (y1 : Int64) (mr sr : Nat) (Q : ox_Q) : ox_Q := fun r_ T_ => ox_C E (ox_mi 190).2.2.2.1 (ox_mc 190) (ox_cut 190) Q 71 [some (.inr (.inl (x0))), none] (r_.toList ++ [.inr (.inl (y1))]) T_ mr sr
def k_190_92 (E : ox_E) (x0 : Int64) (y1 : Int64) (mr sr : Nat) (Q : ox_Q) : ox_Q := fun r_ T_ => ox_C E (ox_mi 190).2.2.2.1 (ox_mc 190) (ox_cut 190) Q 92 [some (.inr (.inl (x0))), none] (r_.toList ++ [.inr (.inl (y1))]) T_ mr sr
def k_190_112 (E : ox_E) (x0 : Int64) (y1 : Int64) (mr sr : Nat) (Q : ox_Q) : ox_Q := fun r_ T_ => ox_C E (ox_mi 190).2.2.2.1 (ox_mc 190) (ox_cut 190) Q 112 [some (.inr (.inl (x0))), none] (r_.toList ++ [.inr (.inl (y1))]) T_ mr sr
def k_190_132 (E : ox_E) (x0 : Int64) (y1 : Int64) (mr sr : Nat) (Q : ox_Q) : ox_Q := fun r_ T_ => ox_C E (ox_mi 190).2.2.2.1 (ox_mc 190) (ox_cut 190) Q 132 [some (.inr (.inl (x0))), none] (r_.toList ++ [.inr (.inl (y1))]) T_ mr sr
def k_190_152 (E : ox_E) (x0 : Int64) (y1 : Int64) (mr sr : Nat) (Q : ox_Q) : ox_Q := fun r_ T_ => ox_C E (ox_mi 190).2.2.2.1 (ox_mc 190) (ox_cut 190) Q 152 [some (.inr (.inl (x0))), none] (r_.toList ++ [.inr (.inl (y1))]) T_ mr sr
set_option maxRecDepth 20000 in
def q_190_152 (E : ox_E) (x0 : Int64) (y0 : Int64) (y1 : Int64) (S : ox_St) (mr sr : Nat) (Q : ox_Q) : Prop :=
  ((¬ (lg_cmp y1 y0) = 0 → (True ∧ Q (some (.inl ((-1000000) : Int32))) S)) ∧ ((lg_cmp y1 y0) = 0 → (True ∧ Q (some (.inl (10 : Int32))) S)))
set_option maxRecDepth 20000 in
set_option maxHeartbeats 4000000 in
theorem f_190_152 {E : ox_E} (hE : ox_mono E) {mr sr : Nat} {x0 : Int64} {y0 : Int64} {y1 : Int64} {S : ox_St} {Q : ox_Q} (h : q_190_152 E x0 y0 y1 S mr sr Q) : k_190_152 E x0 y1 mr sr Q (some (.inr (.inl (y0)))) S := ox_C_fold hE h
set_option maxRecDepth 20000 in
def q_190_132 (E : ox_E) (x0 : Int64) (y0 : Int64) (y1 : Int64) (S : ox_St) (mr sr : Nat) (Q : ox_Q) : Prop :=
  ((¬ (lg_cmp y1 y0) = 0 → (5 ≤ 6 ∧ 2 ≤ 8 ∧ ∃ mc1 mk2, mc1 ≤ mr ∧ mk2 ≤ sr ∧ E 189 [.inl (111), .inl (118), .inl (101), .inl (114), .inl (0)] mc1 mk2 S (k_190_152 E x0 x0 (mr - mc1) (sr - mk2) Q))) ∧ ((lg_cmp y1 y0) = 0 → (True ∧ Q (some (.inl (9 : Int32))) S)))
set_option maxRecDepth 20000 in
set_option maxHeartbeats 4000000 in
theorem f_190_132 {E : ox_E} (hE : ox_mono E) {mr sr : Nat} {x0 : Int64} {y0 : Int64} {y1 : Int64} {S : ox_St} {Q : ox_Q} (h : q_190_132 E x0 y0 y1 S mr sr Q) : k_190_132 E x0 y1 mr sr Q (some (.inr (.inl (y0)))) S := ox_C_fold hE h
set_option maxRecDepth 20000 in
def q_190_112 (E : ox_E) (x0 : Int64) (y0 : Int64) (y1 : Int64) (S : ox_St) (mr sr : Nat) (Q : ox_Q) : Prop :=
  ((¬ (lg_cmp y1 y0) = 0 → (5 ≤ 6 ∧ 2 ≤ 8 ∧ ∃ mc1 mk2, mc1 ≤ mr ∧ mk2 ≤ sr ∧ E 189 [.inl (100), .inl (101), .inl (101), .inl (112), .inl (0)] mc1 mk2 S (k_190_132 E x0 x0 (mr - mc1) (sr - mk2) Q))) ∧ ((lg_cmp y1 y0) = 0 → (True ∧ Q (some (.inl (8 : Int32))) S)))
set_option maxRecDepth 20000 in
set_option maxHeartbeats 4000000 in
theorem f_190_112 {E : ox_E} (hE : ox_mono E) {mr sr : Nat} {x0 : Int64} {y0 : Int64} {y1 : Int64} {S : ox_St} {Q : ox_Q} (h : q_190_112 E x0 y0 y1 S mr sr Q) : k_190_112 E x0 y1 mr sr Q (some (.inr (.inl (y0)))) S := ox_C_fold hE h
set_option maxRecDepth 20000 in
def q_190_92 (E : ox_E) (x0 : Int64) (y0 : Int64) (y1 : Int64) (S : ox_St) (mr sr : Nat) (Q : ox_Q) : Prop :=
  ((¬ (lg_cmp y1 y0) = 0 → (5 ≤ 6 ∧ 2 ≤ 8 ∧ ∃ mc1 mk2, mc1 ≤ mr ∧ mk2 ≤ sr ∧ E 189 [.inl (110), .inl (97), .inl (109), .inl (101), .inl (0)] mc1 mk2 S (k_190_112 E x0 x0 (mr - mc1) (sr - mk2) Q))) ∧ ((lg_cmp y1 y0) = 0 → (True ∧ Q (some (.inl (7 : Int32))) S)))
set_option maxRecDepth 20000 in
set_option maxHeartbeats 4000000 in
theorem f_190_92 {E : ox_E} (hE : ox_mono E) {mr sr : Nat} {x0 : Int64} {y0 : Int64} {y1 : Int64} {S : ox_St} {Q : ox_Q} (h : q_190_92 E x0 y0 y1 S mr sr Q) : k_190_92 E x0 y1 mr sr Q (some (.inr (.inl (y0)))) S := ox_C_fold hE h
set_option maxRecDepth 20000 in
def q_190_71 (E : ox_E) (x0 : Int64) (y0 : Int64) (y1 : Int64) (S : ox_St) (mr sr : Nat) (Q : ox_Q) : Prop :=
  ((¬ (lg_cmp y1 y0) = 0 → (5 ≤ 6 ∧ 2 ≤ 8 ∧ ∃ mc1 mk2, mc1 ≤ mr ∧ mk2 ≤ sr ∧ E 189 [.inl (118), .inl (97), .inl (108), .inl (117), .inl (101)] mc1 mk2 S (k_190_92 E x0 x0 (mr - mc1) (sr - mk2) Q))) ∧ ((lg_cmp y1 y0) = 0 → (True ∧ Q (some (.inl (6 : Int32))) S)))
set_option maxRecDepth 20000 in
set_option maxHeartbeats 4000000 in
theorem f_190_71 {E : ox_E} (hE : ox_mono E) {mr sr : Nat} {x0 : Int64} {y0 : Int64} {y1 : Int64} {S : ox_St} {Q : ox_Q} (h : q_190_71 E x0 y0 y1 S mr sr Q) : k_190_71 E x0 y1 mr sr Q (some (.inr (.inl (y0)))) S := ox_C_fold hE h
set_option maxRecDepth 20000 in
def q_190_51 (E : ox_E) (x0 : Int64) (y0 : Int64) (y1 : Int64) (S : ox_St) (mr sr : Nat) (Q : ox_Q) : Prop :=
  ((¬ (lg_cmp y1 y0) = 0 → (5 ≤ 6 ∧ 2 ≤ 8 ∧ ∃ mc1 mk2, mc1 ≤ mr ∧ mk2 ≤ sr ∧ E 189 [.inl (105), .inl (110), .inl (100), .inl (101), .inl (120)] mc1 mk2 S (k_190_71 E x0 x0 (mr - mc1) (sr - mk2) Q))) ∧ ((lg_cmp y1 y0) = 0 → (True ∧ Q (some (.inl (5 : Int32))) S)))
set_option maxRecDepth 20000 in
set_option maxHeartbeats 4000000 in
theorem f_190_51 {E : ox_E} (hE : ox_mono E) {mr sr : Nat} {x0 : Int64} {y0 : Int64} {y1 : Int64} {S : ox_St} {Q : ox_Q} (h : q_190_51 E x0 y0 y1 S mr sr Q) : k_190_51 E x0 y1 mr sr Q (some (.inr (.inl (y0)))) S := ox_C_fold hE h
set_option maxRecDepth 20000 in
def q_190_32 (E : ox_E) (x0 : Int64) (y0 : Int64) (y1 : Int64) (S : ox_St) (mr sr : Nat) (Q : ox_Q) : Prop :=
  ((¬ (lg_cmp y1 y0) = 0 → (5 ≤ 6 ∧ 2 ≤ 8 ∧ ∃ mc1 mk2, mc1 ≤ mr ∧ mk2 ≤ sr ∧ E 189 [.inl (122), .inl (101), .inl (114), .inl (111), .inl (0)] mc1 mk2 S (k_190_51 E x0 x0 (mr - mc1) (sr - mk2) Q))) ∧ ((lg_cmp y1 y0) = 0 → (True ∧ Q (some (.inl (4 : Int32))) S)))
set_option maxRecDepth 20000 in
set_option maxHeartbeats 4000000 in
theorem f_190_32 {E : ox_E} (hE : ox_mono E) {mr sr : Nat} {x0 : Int64} {y0 : Int64} {y1 : Int64} {S : ox_St} {Q : ox_Q} (h : q_190_32 E x0 y0 y1 S mr sr Q) : k_190_32 E x0 y1 mr sr Q (some (.inr (.inl (y0)))) S := ox_C_fold hE h
set_option maxRecDepth 20000 in
def q_190_14 (E : ox_E) (x0 : Int64) (y0 : Int64) (y1 : Int64) (S : ox_St) (mr sr : Nat) (Q : ox_Q) : Prop :=
  ((¬ (lg_cmp y1 y0) = 0 → (5 ≤ 6 ∧ 2 ≤ 8 ∧ ∃ mc1 mk2, mc1 ≤ mr ∧ mk2 ≤ sr ∧ E 189 [.inl (116), .inl (121), .inl (112), .inl (0), .inl (0)] mc1 mk2 S (k_190_32 E x0 x0 (mr - mc1) (sr - mk2) Q))) ∧ ((lg_cmp y1 y0) = 0 → (True ∧ Q (some (.inl (3 : Int32))) S)))
set_option maxRecDepth 20000 in
set_option maxHeartbeats 4000000 in
theorem f_190_14 {E : ox_E} (hE : ox_mono E) {mr sr : Nat} {x0 : Int64} {y0 : Int64} {y1 : Int64} {S : ox_St} {Q : ox_Q} (h : q_190_14 E x0 y0 y1 S mr sr Q) : k_190_14 E x0 y1 mr sr Q (some (.inr (.inl (y0)))) S := ox_C_fold hE h
set_option maxRecDepth 20000 in
def q_190 (E : ox_E) (x0 : Int64) (S : ox_St) (mr sr : Nat) (Q : ox_Q) : Prop :=
  (5 ≤ 6 ∧ 2 ≤ 8 ∧ ∃ mc1 mk2, mc1 ≤ mr ∧ mk2 ≤ sr ∧ E 189 [.inl (114), .inl (97), .inl (110), .inl (103), .inl (101)] mc1 mk2 S (k_190_14 E x0 x0 (mr - mc1) (sr - mk2) Q))
set_option maxRecDepth 20000 in
set_option maxHeartbeats 4000000 in
theorem f_190 {sp : ox_E} (hsp : ox_mono sp) {d : Nat} {mr sr : Nat} {x0 : Int64} {S : ox_St} {Q : ox_Q} (h : q_190 (ox_M sp d) x0 S mr sr Q) : ox_M sp (d + 1) 190 [.inr (.inl (x0))] mr sr S Q := Or.inr ⟨Nat.le_of_ble_eq_true rfl, ox_C_fold (ox_M_mono hsp d) h⟩
/-! OpcodeFramesModel.store(J)V -/
def k_191_4 (E : ox_E) (x0 : Nat) (x1 : Int64) (mr sr : Nat) (Q : ox_Q) : ox_Q := fun r_ T_ => ox_C E (ox_mi 191).2.2.2.1 (ox_mc 191) (ox_cut 191) Q 4 [some (.inr (.inr (x0))), some (.inr (.inl (x1))), none, none, none] (r_.toList ++ []) T_ mr sr
def k_191_10 (E : ox_E) (x0 : Nat) (x1 : Int64) (x3 : Int32) (mr sr : Nat) (Q : ox_Q) : ox_Q := fun r_ T_ => ox_C E (ox_mi 191).2.2.2.1 (ox_mc 191) (ox_cut 191) Q 10 [some (.inr (.inr (x0))), some (.inr (.inl (x1))), none, some (.inl (x3)), none] (r_.toList ++ []) T_ mr sr
def k_191_32 (E : ox_E) (x0 : Nat) (x1 : Int64) (x3 : Int32) (x4 : Int32) (mr sr : Nat) (Q : ox_Q) : ox_Q := fun r_ T_ => ox_C E (ox_mi 191).2.2.2.1 (ox_mc 191) (ox_cut 191) Q 32 [some (.inr (.inr (x0))), some (.inr (.inl (x1))), none, some (.inl (x3)), some (.inl (x4))] (r_.toList ++ []) T_ mr sr
set_option maxRecDepth 20000 in
def q_191_32 (E : ox_E) (x0 : Nat) (x1 : Int64) (x3 : Int32) (x4 : Int32) (S : ox_St) (mr sr : Nat) (Q : ox_Q) : Prop :=
  ((ox_mi 191).2.2.2.1 = none ∧ Q none S)
set_option maxRecDepth 20000 in
set_option maxHeartbeats 4000000 in
theorem f_191_32 {E : ox_E} (hE : ox_mono E) {mr sr : Nat} {x0 : Nat} {x1 : Int64} {x3 : Int32} {x4 : Int32} {S : ox_St} {Q : ox_Q} (h : q_191_32 E x0 x1 x3 x4 S mr sr Q) : k_191_32 E x0 x1 x3 x4 mr sr Q none S := ox_C_fold hE h
set_option maxRecDepth 20000 in
def q_191_10 (E : ox_E) (x0 : Nat) (x1 : Int64) (x3 : Int32) (y0 : Int32) (S : ox_St) (mr sr : Nat) (Q : ox_Q) : Prop :=
  (((0 : Int32) ≤ y0 → (((0 : Int32) ≤ y0 → (ox_has (S.K x0) 107 = true ∧ (S.K (S.R 107 x0) = 16 ∧ vp_in y0 (S.len (S.R 107 x0)) ∧ (let S1 := S.wJ (S.R 107 x0) (Int32.toNatClampNeg y0) x1
  (ox_has (S1.K x0) 108 = true ∧ (S1.K (S1.R 108 x0) = 15 ∧ vp_in y0 (S1.len (S1.R 108 x0)) ∧ (let S2 := S1.wI (S1.R 108 x0) (Int32.toNatClampNeg y0) x3
  ((ox_mi 191).2.2.2.1 = none ∧ Q none S2)))))))) ∧ (¬ (0 : Int32) ≤ y0 → (ox_has (S.K x0) 106 = true ∧ (let w3 : Int32 := S.I 106 x0
  (ox_has (S.K x0) 106 = true ∧ (ox_has (S.K x0) 106 = true ∧ (let S4 := S.sI 106 x0 ((S.I 106 x0) + 1)
  (ox_has (S4.K x0) 107 = true ∧ (S4.K (S4.R 107 x0) = 16 ∧ vp_in w3 (S4.len (S4.R 107 x0)) ∧ (let S5 := S4.wJ (S4.R 107 x0) (Int32.toNatClampNeg w3) x1
  (ox_has (S5.K x0) 108 = true ∧ (S5.K (S5.R 108 x0) = 15 ∧ vp_in w3 (S5.len (S5.R 108 x0)) ∧ (let S6 := S5.wI (S5.R 108 x0) (Int32.toNatClampNeg w3) x3
  ((ox_mi 191).2.2.2.1 = none ∧ Q none S6))))))))))))))) ∧ (¬ (0 : Int32) ≤ y0 → (ox_has (S.K x0) 106 = true ∧ ((¬ (S.I 106 x0) = 16 → (((0 : Int32) ≤ y0 → (ox_has (S.K x0) 107 = true ∧ (S.K (S.R 107 x0) = 16 ∧ vp_in y0 (S.len (S.R 107 x0)) ∧ (let S7 := S.wJ (S.R 107 x0) (Int32.toNatClampNeg y0) x1
  (ox_has (S7.K x0) 108 = true ∧ (S7.K (S7.R 108 x0) = 15 ∧ vp_in y0 (S7.len (S7.R 108 x0)) ∧ (let S8 := S7.wI (S7.R 108 x0) (Int32.toNatClampNeg y0) x3
  ((ox_mi 191).2.2.2.1 = none ∧ Q none S8)))))))) ∧ (¬ (0 : Int32) ≤ y0 → (ox_has (S.K x0) 106 = true ∧ (let w9 : Int32 := S.I 106 x0
  (ox_has (S.K x0) 106 = true ∧ (ox_has (S.K x0) 106 = true ∧ (let S10 := S.sI 106 x0 ((S.I 106 x0) + 1)
  (ox_has (S10.K x0) 107 = true ∧ (S10.K (S10.R 107 x0) = 16 ∧ vp_in w9 (S10.len (S10.R 107 x0)) ∧ (let S11 := S10.wJ (S10.R 107 x0) (Int32.toNatClampNeg w9) x1
  (ox_has (S11.K x0) 108 = true ∧ (S11.K (S11.R 108 x0) = 15 ∧ vp_in w9 (S11.len (S11.R 108 x0)) ∧ (let S12 := S11.wI (S11.R 108 x0) (Int32.toNatClampNeg w9) x3
  ((ox_mi 191).2.2.2.1 = none ∧ Q none S12))))))))))))))) ∧ ((S.I 106 x0) = 16 → (2 ≤ 2 ∧ S.K x0 = 14 ∧ 0 ≤ 8 ∧ ∃ mc13 mk14, mc13 ≤ mr ∧ mk14 ≤ sr ∧ E 177 [.inr (.inr (x0)), .inl (6)] mc13 mk14 S (k_191_32 E x0 x1 x3 y0 (mr - mc13) (sr - mk14) Q)))))))
set_option maxRecDepth 20000 in
set_option maxHeartbeats 4000000 in
theorem f_191_10 {E : ox_E} (hE : ox_mono E) {mr sr : Nat} {x0 : Nat} {x1 : Int64} {x3 : Int32} {y0 : Int32} {S : ox_St} {Q : ox_Q} (h : q_191_10 E x0 x1 x3 y0 S mr sr Q) : k_191_10 E x0 x1 x3 mr sr Q (some (.inl (y0))) S := ox_C_fold hE h
set_option maxRecDepth 20000 in
def q_191_4 (E : ox_E) (x0 : Nat) (x1 : Int64) (y0 : Int32) (S : ox_St) (mr sr : Nat) (Q : ox_Q) : Prop :=
  (2 ≤ 2 ∧ S.K x0 = 14 ∧ 0 ≤ 8 ∧ ∃ mc1 mk2, mc1 ≤ mr ∧ mk2 ≤ sr ∧ E 188 [.inr (.inr (x0)), .inr (.inl (x1))] mc1 mk2 S (k_191_10 E x0 x1 y0 (mr - mc1) (sr - mk2) Q))
set_option maxRecDepth 20000 in
set_option maxHeartbeats 4000000 in
theorem f_191_4 {E : ox_E} (hE : ox_mono E) {mr sr : Nat} {x0 : Nat} {x1 : Int64} {y0 : Int32} {S : ox_St} {Q : ox_Q} (h : q_191_4 E x0 x1 y0 S mr sr Q) : k_191_4 E x0 x1 mr sr Q (some (.inl (y0))) S := ox_C_fold hE h
set_option maxRecDepth 20000 in
def q_191 (E : ox_E) (x0 : Nat) (x1 : Int64) (S : ox_St) (mr sr : Nat) (Q : ox_Q) : Prop :=
  (1 ≤ 1 ∧ S.K x0 = 14 ∧ 0 ≤ 8 ∧ ∃ mc1 mk2, mc1 ≤ mr ∧ mk2 ≤ sr ∧ E 175 [.inr (.inr (x0))] mc1 mk2 S (k_191_4 E x0 x1 (mr - mc1) (sr - mk2) Q))
set_option maxRecDepth 20000 in
set_option maxHeartbeats 4000000 in
theorem f_191 {sp : ox_E} (hsp : ox_mono sp) {d : Nat} {mr sr : Nat} {x0 : Nat} {x1 : Int64} {S : ox_St} {Q : ox_Q} (h : q_191 (ox_M sp d) x0 x1 S mr sr Q) : ox_M sp (d + 1) 191 [.inr (.inr (x0)), .inr (.inl (x1))] mr sr S Q := Or.inr ⟨Nat.le_of_ble_eq_true rfl, ox_C_fold (ox_M_mono hsp d) h⟩
/-! OpcodeFramesModel.fetch(J)V -/
def k_192_5 (E : ox_E) (x0 : Nat) (x1 : Int64) (mr sr : Nat) (Q : ox_Q) : ox_Q := fun r_ T_ => ox_C E (ox_mi 192).2.2.2.1 (ox_mc 192) (ox_cut 192) Q 5 [some (.inr (.inr (x0))), some (.inr (.inl (x1))), none, none, none] (r_.toList ++ []) T_ mr sr
def k_192_14 (E : ox_E) (x0 : Nat) (x1 : Int64) (x3 : Int32) (mr sr : Nat) (Q : ox_Q) : ox_Q := fun r_ T_ => ox_C E (ox_mi 192).2.2.2.1 (ox_mc 192) (ox_cut 192) Q 14 [some (.inr (.inr (x0))), some (.inr (.inl (x1))), none, some (.inl (x3)), none] (r_.toList ++ []) T_ mr sr
def k_192_37 (E : ox_E) (x0 : Nat) (x1 : Int64) (x3 : Int32) (x4 : Int32) (mr sr : Nat) (Q : ox_Q) : ox_Q := fun r_ T_ => ox_C E (ox_mi 192).2.2.2.1 (ox_mc 192) (ox_cut 192) Q 37 [some (.inr (.inr (x0))), some (.inr (.inl (x1))), none, some (.inl (x3)), some (.inl (x4))] (r_.toList ++ []) T_ mr sr
def k_192_46 (E : ox_E) (x0 : Nat) (x1 : Int64) (x3 : Int32) (x4 : Int32) (mr sr : Nat) (Q : ox_Q) : ox_Q := fun r_ T_ => ox_C E (ox_mi 192).2.2.2.1 (ox_mc 192) (ox_cut 192) Q 46 [some (.inr (.inr (x0))), some (.inr (.inl (x1))), none, some (.inl (x3)), some (.inl (x4))] (r_.toList ++ []) T_ mr sr
set_option maxRecDepth 20000 in
def q_192_46 (E : ox_E) (x0 : Nat) (x1 : Int64) (x3 : Int32) (x4 : Int32) (S : ox_St) (mr sr : Nat) (Q : ox_Q) : Prop :=
  ((ox_mi 192).2.2.2.1 = none ∧ Q none S)
set_option maxRecDepth 20000 in
set_option maxHeartbeats 4000000 in
theorem f_192_46 {E : ox_E} (hE : ox_mono E) {mr sr : Nat} {x0 : Nat} {x1 : Int64} {x3 : Int32} {x4 : Int32} {S : ox_St} {Q : ox_Q} (h : q_192_46 E x0 x1 x3 x4 S mr sr Q) : k_192_46 E x0 x1 x3 x4 mr sr Q none S := ox_C_fold hE h
set_option maxRecDepth 20000 in
def q_192_37 (E : ox_E) (x0 : Nat) (x1 : Int64) (x3 : Int32) (x4 : Int32) (S : ox_St) (mr sr : Nat) (Q : ox_Q) : Prop :=
  k_192_46 E x0 x1 x3 x4 mr sr Q none S
set_option maxRecDepth 20000 in
set_option maxHeartbeats 4000000 in
theorem f_192_37 {E : ox_E} (hE : ox_mono E) {mr sr : Nat} {x0 : Nat} {x1 : Int64} {x3 : Int32} {x4 : Int32} {S : ox_St} {Q : ox_Q} (h : q_192_37 E x0 x1 x3 x4 S mr sr Q) : k_192_37 E x0 x1 x3 x4 mr sr Q none S := ox_C_fold hE h
set_option maxRecDepth 20000 in
def q_192_14 (E : ox_E) (x0 : Nat) (x1 : Int64) (x3 : Int32) (y0 : Int32) (S : ox_St) (mr sr : Nat) (Q : ox_Q) : Prop :=
  ((¬ y0 = (-1000000) → (2 ≤ 2 ∧ S.K x0 = 14 ∧ 0 ≤ 8 ∧ ∃ mc1 mk2, mc1 ≤ mr ∧ mk2 ≤ sr ∧ E 174 [.inr (.inr (x0)), .inl (y0)] mc1 mk2 S (k_192_46 E x0 x1 x3 y0 (mr - mc1) (sr - mk2) Q))) ∧ (y0 = (-1000000) → (2 ≤ 2 ∧ S.K x0 = 14 ∧ 0 ≤ 8 ∧ ∃ mc3 mk4, mc3 ≤ mr ∧ mk4 ≤ sr ∧ E 177 [.inr (.inr (x0)), .inl (4)] mc3 mk4 S (k_192_37 E x0 x1 x3 y0 (mr - mc3) (sr - mk4) Q))))
set_option maxRecDepth 20000 in
set_option maxHeartbeats 4000000 in
theorem f_192_14 {E : ox_E} (hE : ox_mono E) {mr sr : Nat} {x0 : Nat} {x1 : Int64} {x3 : Int32} {y0 : Int32} {S : ox_St} {Q : ox_Q} (h : q_192_14 E x0 x1 x3 y0 S mr sr Q) : k_192_14 E x0 x1 x3 mr sr Q (some (.inl (y0))) S := ox_C_fold hE h
set_option maxRecDepth 20000 in
def q_192_5 (E : ox_E) (x0 : Nat) (x1 : Int64) (y0 : Int32) (S : ox_St) (mr sr : Nat) (Q : ox_Q) : Prop :=
  (((0 : Int32) ≤ y0 → (ox_has (S.K x0) 108 = true ∧ (ox_rdI (S.K (S.R 108 x0)) = true ∧ vp_in y0 (S.len (S.R 108 x0)) ∧ (let w1 : Int32 := S.rI (S.R 108 x0) (Int32.toNatClampNeg y0)
  ((¬ w1 = (-1000000) → (2 ≤ 2 ∧ S.K x0 = 14 ∧ 0 ≤ 8 ∧ ∃ mc2 mk3, mc2 ≤ mr ∧ mk3 ≤ sr ∧ E 174 [.inr (.inr (x0)), .inl (w1)] mc2 mk3 S (k_192_46 E x0 x1 y0 w1 (mr - mc2) (sr - mk3) Q))) ∧ (w1 = (-1000000) → (2 ≤ 2 ∧ S.K x0 = 14 ∧ 0 ≤ 8 ∧ ∃ mc4 mk5, mc4 ≤ mr ∧ mk5 ≤ sr ∧ E 177 [.inr (.inr (x0)), .inl (4)] mc4 mk5 S (k_192_37 E x0 x1 y0 w1 (mr - mc4) (sr - mk5) Q)))))))) ∧ (¬ (0 : Int32) ≤ y0 → (1 ≤ 1 ∧ 0 ≤ 8 ∧ ∃ mc6 mk7, mc6 ≤ mr ∧ mk7 ≤ sr ∧ E 190 [.inr (.inl (x1))] mc6 mk7 S (k_192_14 E x0 x1 y0 (mr - mc6) (sr - mk7) Q))))
set_option maxRecDepth 20000 in
set_option maxHeartbeats 4000000 in
theorem f_192_5 {E : ox_E} (hE : ox_mono E) {mr sr : Nat} {x0 : Nat} {x1 : Int64} {y0 : Int32} {S : ox_St} {Q : ox_Q} (h : q_192_5 E x0 x1 y0 S mr sr Q) : k_192_5 E x0 x1 mr sr Q (some (.inl (y0))) S := ox_C_fold hE h
set_option maxRecDepth 20000 in
def q_192 (E : ox_E) (x0 : Nat) (x1 : Int64) (S : ox_St) (mr sr : Nat) (Q : ox_Q) : Prop :=
  (2 ≤ 2 ∧ S.K x0 = 14 ∧ 0 ≤ 8 ∧ ∃ mc1 mk2, mc1 ≤ mr ∧ mk2 ≤ sr ∧ E 188 [.inr (.inr (x0)), .inr (.inl (x1))] mc1 mk2 S (k_192_5 E x0 x1 (mr - mc1) (sr - mk2) Q))
set_option maxRecDepth 20000 in
set_option maxHeartbeats 4000000 in
theorem f_192 {sp : ox_E} (hsp : ox_mono sp) {d : Nat} {mr sr : Nat} {x0 : Nat} {x1 : Int64} {S : ox_St} {Q : ox_Q} (h : q_192 (ox_M sp d) x0 x1 S mr sr Q) : ox_M sp (d + 1) 192 [.inr (.inr (x0)), .inr (.inl (x1))] mr sr S Q := Or.inr ⟨Nat.le_of_ble_eq_true rfl, ox_C_fold (ox_M_mono hsp d) h⟩
/-! OpcodeFramesModel.range(I)V -/
def c_193_18 (E : ox_E) (x0 : Nat) (x1 : Int32) (x2 : Int32) (x3 : Int32) (S : ox_St) (mr sr : Nat) (Q : ox_Q) : Prop := ox_C E (ox_mi 193).2.2.2.1 (ox_mc 193) (ox_cut 193) Q 18 [some (.inr (.inr (x0))), some (.inl (x1)), some (.inl (x2)), some (.inl (x3)), none, none, none, none, none, none, none] [] S mr sr
def k_193_33 (E : ox_E) (x0 : Nat) (x1 : Int32) (x2 : Int32) (x3 : Int32) (y1 : Nat) (mr sr : Nat) (Q : ox_Q) : ox_Q := fun r_ T_ => ox_C E (ox_mi 193).2.2.2.1 (ox_mc 193) (ox_cut 193) Q 33 [some (.inr (.inr (x0))), some (.inl (x1)), some (.inl (x2)), some (.inl (x3)), none, none, none, none, none, none, none] (r_.toList ++ [.inr (.inr (y1))]) T_ mr sr
def k_193_36 (E : ox_E) (x0 : Nat) (x1 : Int32) (x2 : Int32) (x3 : Int32) (mr sr : Nat) (Q : ox_Q) : ox_Q := fun r_ T_ => ox_C E (ox_mi 193).2.2.2.1 (ox_mc 193) (ox_cut 193) Q 36 [some (.inr (.inr (x0))), some (.inl (x1)), some (.inl (x2)), some (.inl (x3)), none, none, none, none, none, none, none] (r_.toList ++ []) T_ mr sr
def k_193_60 (E : ox_E) (x0 : Nat) (x1 : Int32) (x2 : Int32) (x3 : Int32) (mr sr : Nat) (Q : ox_Q) : ox_Q := fun r_ T_ => ox_C E (ox_mi 193).2.2.2.1 (ox_mc 193) (ox_cut 193) Q 60 [some (.inr (.inr (x0))), some (.inl (x1)), some (.inl (x2)), some (.inl (x3)), none, none, none, none, none, none, none] (r_.toList ++ []) T_ mr sr
def k_193_74 (E : ox_E) (x0 : Nat) (x1 : Int32) (x2 : Int32) (x3 : Int32) (y1 : Nat) (mr sr : Nat) (Q : ox_Q) : ox_Q := fun r_ T_ => ox_C E (ox_mi 193).2.2.2.1 (ox_mc 193) (ox_cut 193) Q 74 [some (.inr (.inr (x0))), some (.inl (x1)), some (.inl (x2)), some (.inl (x3)), none, none, none, none, none, none, none] (r_.toList ++ [.inr (.inr (y1))]) T_ mr sr
def k_193_77 (E : ox_E) (x0 : Nat) (x1 : Int32) (x2 : Int32) (x3 : Int32) (mr sr : Nat) (Q : ox_Q) : ox_Q := fun r_ T_ => ox_C E (ox_mi 193).2.2.2.1 (ox_mc 193) (ox_cut 193) Q 77 [some (.inr (.inr (x0))), some (.inl (x1)), some (.inl (x2)), some (.inl (x3)), none, none, none, none, none, none, none] (r_.toList ++ []) T_ mr sr
def k_193_95 (E : ox_E) (x0 : Nat) (x1 : Int32) (x2 : Int32) (x3 : Int64) (y1 : Nat) (mr sr : Nat) (Q : ox_Q) : ox_Q := fun r_ T_ => ox_C E (ox_mi 193).2.2.2.1 (ox_mc 193) (ox_cut 193) Q 95 [some (.inr (.inr (x0))), some (.inl (x1)), some (.inl (x2)), some (.inr (.inl (x3))), none, none, none, none, none, none, none] (r_.toList ++ [.inr (.inr (y1))]) T_ mr sr
def k_193_98 (E : ox_E) (x0 : Nat) (x1 : Int32) (x2 : Int32) (x3 : Int64) (mr sr : Nat) (Q : ox_Q) : ox_Q := fun r_ T_ => ox_C E (ox_mi 193).2.2.2.1 (ox_mc 193) (ox_cut 193) Q 98 [some (.inr (.inr (x0))), some (.inl (x1)), some (.inl (x2)), some (.inr (.inl (x3))), none, none, none, none, none, none, none] (r_.toList ++ []) T_ mr sr
def k_193_107 (E : ox_E) (x0 : Nat) (x1 : Int32) (x2 : Int32) (x3 : Int64) (y1 : Nat) (mr sr : Nat) (Q : ox_Q) : ox_Q := fun r_ T_ => ox_C E (ox_mi 193).2.2.2.1 (ox_mc 193) (ox_cut 193) Q 107 [some (.inr (.inr (x0))), some (.inl (x1)), some (.inl (x2)), some (.inr (.inl (x3))), none, none, none, none, none, none, none] (r_.toList ++ [.inr (.inr (y1))]) T_ mr sr
def k_193_110 (E : ox_E) (x0 : Nat) (x1 : Int32) (x2 : Int32) (x3 : Int64) (mr sr : Nat) (Q : ox_Q) : ox_Q := fun r_ T_ => ox_C E (ox_mi 193).2.2.2.1 (ox_mc 193) (ox_cut 193) Q 110 [some (.inr (.inr (x0))), some (.inl (x1)), some (.inl (x2)), some (.inr (.inl (x3))), none, none, none, none, none, none, none] (r_.toList ++ []) T_ mr sr
def k_193_123 (E : ox_E) (x0 : Nat) (x1 : Int32) (x2 : Int32) (x3 : Int64) (x5 : Int64) (y1 : Nat) (mr sr : Nat) (Q : ox_Q) : ox_Q := fun r_ T_ => ox_C E (ox_mi 193).2.2.2.1 (ox_mc 193) (ox_cut 193) Q 123 [some (.inr (.inr (x0))), some (.inl (x1)), some (.inl (x2)), some (.inr (.inl (x3))), none, some (.inr (.inl (x5))), none, none, none, none, none] (r_.toList ++ [.inr (.inr (y1))]) T_ mr sr
def k_193_126 (E : ox_E) (x0 : Nat) (x1 : Int32) (x2 : Int32) (x3 : Int64) (x5 : Int64) (mr sr : Nat) (Q : ox_Q) : ox_Q := fun r_ T_ => ox_C E (ox_mi 193).2.2.2.1 (ox_mc 193) (ox_cut 193) Q 126 [some (.inr (.inr (x0))), some (.inl (x1)), some (.inl (x2)), some (.inr (.inl (x3))), none, some (.inr (.inl (x5))), none, none, none, none, none] (r_.toList ++ []) T_ mr sr
def k_193_211 (E : ox_E) (x0 : Nat) (x1 : Int32) (x2 : Int32) (x3 : Int64) (x5 : Int64) (x7 : Int64) (x9 : Int32) (mr sr : Nat) (Q : ox_Q) : ox_Q := fun r_ T_ => ox_C E (ox_mi 193).2.2.2.1 (ox_mc 193) (ox_cut 193) Q 211 [some (.inr (.inr (x0))), some (.inl (x1)), some (.inl (x2)), some (.inr (.inl (x3))), none, some (.inr (.inl (x5))), none, some (.inr (.inl (x7))), none, some (.inl (x9)), none] (r_.toList ++ []) T_ mr sr
def k_193_222 (E : ox_E) (x0 : Nat) (x1 : Int32) (x2 : Int32) (x3 : Int64) (x5 : Int64) (x7 : Int64) (x9 : Int32) (mr sr : Nat) (Q : ox_Q) : ox_Q := fun r_ T_ => ox_C E (ox_mi 193).2.2.2.1 (ox_mc 193) (ox_cut 193) Q 222 [some (.inr (.inr (x0))), some (.inl (x1)), some (.inl (x2)), some (.inr (.inl (x3))), none, some (.inr (.inl (x5))), none, some (.inr (.inl (x7))), none, some (.inl (x9)), none] (r_.toList ++ []) T_ mr sr
def k_193_252 (E : ox_E) (x0 : Nat) (x1 : Int32) (x2 : Int32) (x3 : Int64) (x5 : Int64) (x7 : Int64) (x9 : Int32) (x10 : Int32) (mr sr : Nat) (Q : ox_Q) : ox_Q := fun r_ T_ => ox_C E (ox_mi 193).2.2.2.1 (ox_mc 193) (ox_cut 193) Q 252 [some (.inr (.inr (x0))), some (.inl (x1)), some (.inl (x2)), some (.inr (.inl (x3))), none, some (.inr (.inl (x5))), none, some (.inr (.inl (x7))), none, some (.inl (x9)), some (.inl (x10))] (r_.toList ++ []) T_ mr sr
set_option maxRecDepth 20000 in
def q_193_252 (E : ox_E) (x0 : Nat) (x1 : Int32) (x2 : Int32) (x3 : Int64) (x5 : Int64) (x7 : Int64) (x9 : Int32) (x10 : Int32) (S : ox_St) (mr sr : Nat) (Q : ox_Q) : Prop :=
  ((ox_mi 193).2.2.2.1 = none ∧ Q none S)
set_option maxRecDepth 20000 in
set_option maxHeartbeats 4000000 in
theorem f_193_252 {E : ox_E} (hE : ox_mono E) {mr sr : Nat} {x0 : Nat} {x1 : Int32} {x2 : Int32} {x3 : Int64} {x5 : Int64} {x7 : Int64} {x9 : Int32} {x10 : Int32} {S : ox_St} {Q : ox_Q} (h : q_193_252 E x0 x1 x2 x3 x5 x7 x9 x10 S mr sr Q) : k_193_252 E x0 x1 x2 x3 x5 x7 x9 x10 mr sr Q none S := ox_C_fold hE h
set_option maxRecDepth 20000 in
def q_193_222 (E : ox_E) (x0 : Nat) (x1 : Int32) (x2 : Int32) (x3 : Int64) (x5 : Int64) (x7 : Int64) (x9 : Int32) (y0 : Int32) (S : ox_St) (mr sr : Nat) (Q : ox_Q) : Prop :=
  (ox_has (S.K x0) 73 = true ∧ (ox_has (S.K x0) 75 = true ∧ (S.K (S.R 73 x0) = 15 ∧ vp_in (S.I 75 x0) (S.len (S.R 73 x0)) ∧ (let S1 := S.wI (S.R 73 x0) (Int32.toNatClampNeg (S.I 75 x0)) (Int64.toInt32 x7)
  (ox_has (S1.K x0) 75 = true ∧ (ox_has (S1.K x0) 75 = true ∧ (let S2 := S1.sI 75 x0 ((S1.I 75 x0) + 1)
  (2 ≤ 2 ∧ S2.K x0 = 14 ∧ 0 ≤ 8 ∧ ∃ mc3 mk4, mc3 ≤ mr ∧ mk4 ≤ sr ∧ E 174 [.inr (.inr (x0)), .inl (y0)] mc3 mk4 S2 (k_193_252 E x0 x1 x2 x3 x5 x7 x9 y0 (mr - mc3) (sr - mk4) Q)))))))))
set_option maxRecDepth 20000 in
set_option maxHeartbeats 4000000 in
theorem f_193_222 {E : ox_E} (hE : ox_mono E) {mr sr : Nat} {x0 : Nat} {x1 : Int32} {x2 : Int32} {x3 : Int64} {x5 : Int64} {x7 : Int64} {x9 : Int32} {y0 : Int32} {S : ox_St} {Q : ox_Q} (h : q_193_222 E x0 x1 x2 x3 x5 x7 x9 y0 S mr sr Q) : k_193_222 E x0 x1 x2 x3 x5 x7 x9 mr sr Q (some (.inl (y0))) S := ox_C_fold hE h
set_option maxRecDepth 20000 in
def q_193_211 (E : ox_E) (x0 : Nat) (x1 : Int32) (x2 : Int32) (x3 : Int64) (x5 : Int64) (x7 : Int64) (x9 : Int32) (S : ox_St) (mr sr : Nat) (Q : ox_Q) : Prop :=
  ((ox_mi 193).2.2.2.1 = none ∧ Q none S)
set_option maxRecDepth 20000 in
set_option maxHeartbeats 4000000 in
theorem f_193_211 {E : ox_E} (hE : ox_mono E) {mr sr : Nat} {x0 : Nat} {x1 : Int32} {x2 : Int32} {x3 : Int64} {x5 : Int64} {x7 : Int64} {x9 : Int32} {S : ox_St} {Q : ox_Q} (h : q_193_211 E x0 x1 x2 x3 x5 x7 x9 S mr sr Q) : k_193_211 E x0 x1 x2 x3 x5 x7 x9 mr sr Q none S := ox_C_fold hE h
set_option maxRecDepth 20000 in
def q_193_126 (E : ox_E) (x0 : Nat) (x1 : Int32) (x2 : Int32) (x3 : Int64) (x5 : Int64) (y0 : Int64) (S : ox_St) (mr sr : Nat) (Q : ox_Q) : Prop :=
  ((¬ (lg_cmp x3 (Int32.toInt64 (Int64.toInt32 x3))) = 0 → (ox_has (S.K x0) 100 = true ∧ (ox_has (S.K x0) 92 = true ∧ (ox_rdI (S.K (S.R 100 x0)) = true ∧ vp_in ((S.I 92 x0) - 1) (S.len (S.R 100 x0)) ∧ (S.K (S.R 100 x0) = 15 ∧ vp_in ((S.I 92 x0) - 1) (S.len (S.R 100 x0)) ∧ (let S1 := S.wI (S.R 100 x0) (Int32.toNatClampNeg ((S.I 92 x0) - 1)) ((S.rI (S.R 100 x0) (Int32.toNatClampNeg ((S.I 92 x0) - 1))) - (x1 + 1))
  ((¬ (1 : Int32) = 0 → (((1 : Int32) = 0 → (2 ≤ 2 ∧ S1.K x0 = 14 ∧ 0 ≤ 8 ∧ ∃ mc2 mk3, mc2 ≤ mr ∧ mk3 ≤ sr ∧ E 177 [.inr (.inr (x0)), .inl (3)] mc2 mk3 S1 (k_193_211 E x0 x1 x2 x3 x5 y0 1 (mr - mc2) (sr - mk3) Q))) ∧ (¬ (1 : Int32) = 0 → (2 ≤ 2 ∧ S1.K x0 = 14 ∧ 0 ≤ 8 ∧ ∃ mc4 mk5, mc4 ≤ mr ∧ mk5 ≤ sr ∧ E 177 [.inr (.inr (x0)), .inl (6)] mc4 mk5 S1 (k_193_211 E x0 x1 x2 x3 x5 y0 1 (mr - mc4) (sr - mk5) Q))))) ∧ ((1 : Int32) = 0 → ((¬ (lg_cmp y0 0) = 0 → (4 ≤ 4 ∧ S1.K x0 = 14 ∧ 0 ≤ 8 ∧ ∃ mc6 mk7, mc6 ≤ mr ∧ mk7 ≤ sr ∧ E 132 [.inr (.inr (x0)), .inl (5), .inl (Int64.toInt32 x3), .inl (Int64.toInt32 x5)] mc6 mk7 S1 (k_193_222 E x0 x1 x2 x3 x5 y0 1 (mr - mc6) (sr - mk7) Q))) ∧ ((lg_cmp y0 0) = 0 → (((1 : Int32) = 0 → (2 ≤ 2 ∧ S1.K x0 = 14 ∧ 0 ≤ 8 ∧ ∃ mc8 mk9, mc8 ≤ mr ∧ mk9 ≤ sr ∧ E 177 [.inr (.inr (x0)), .inl (3)] mc8 mk9 S1 (k_193_211 E x0 x1 x2 x3 x5 y0 1 (mr - mc8) (sr - mk9) Q))) ∧ (¬ (1 : Int32) = 0 → (2 ≤ 2 ∧ S1.K x0 = 14 ∧ 0 ≤ 8 ∧ ∃ mc10 mk11, mc10 ≤ mr ∧ mk11 ≤ sr ∧ E 177 [.inr (.inr (x0)), .inl (6)] mc10 mk11 S1 (k_193_211 E x0 x1 x2 x3 x5 y0 1 (mr - mc10) (sr - mk11) Q)))))))))))))) ∧ ((lg_cmp x3 (Int32.toInt64 (Int64.toInt32 x3))) = 0 → ((¬ (lg_cmp x5 (Int32.toInt64 (Int64.toInt32 x5))) = 0 → (ox_has (S.K x0) 100 = true ∧ (ox_has (S.K x0) 92 = true ∧ (ox_rdI (S.K (S.R 100 x0)) = true ∧ vp_in ((S.I 92 x0) - 1) (S.len (S.R 100 x0)) ∧ (S.K (S.R 100 x0) = 15 ∧ vp_in ((S.I 92 x0) - 1) (S.len (S.R 100 x0)) ∧ (let S12 := S.wI (S.R 100 x0) (Int32.toNatClampNeg ((S.I 92 x0) - 1)) ((S.rI (S.R 100 x0) (Int32.toNatClampNeg ((S.I 92 x0) - 1))) - (x1 + 1))
  ((¬ (1 : Int32) = 0 → (((1 : Int32) = 0 → (2 ≤ 2 ∧ S12.K x0 = 14 ∧ 0 ≤ 8 ∧ ∃ mc13 mk14, mc13 ≤ mr ∧ mk14 ≤ sr ∧ E 177 [.inr (.inr (x0)), .inl (3)] mc13 mk14 S12 (k_193_211 E x0 x1 x2 x3 x5 y0 1 (mr - mc13) (sr - mk14) Q))) ∧ (¬ (1 : Int32) = 0 → (2 ≤ 2 ∧ S12.K x0 = 14 ∧ 0 ≤ 8 ∧ ∃ mc15 mk16, mc15 ≤ mr ∧ mk16 ≤ sr ∧ E 177 [.inr (.inr (x0)), .inl (6)] mc15 mk16 S12 (k_193_211 E x0 x1 x2 x3 x5 y0 1 (mr - mc15) (sr - mk16) Q))))) ∧ ((1 : Int32) = 0 → ((¬ (lg_cmp y0 0) = 0 → (4 ≤ 4 ∧ S12.K x0 = 14 ∧ 0 ≤ 8 ∧ ∃ mc17 mk18, mc17 ≤ mr ∧ mk18 ≤ sr ∧ E 132 [.inr (.inr (x0)), .inl (5), .inl (Int64.toInt32 x3), .inl (Int64.toInt32 x5)] mc17 mk18 S12 (k_193_222 E x0 x1 x2 x3 x5 y0 1 (mr - mc17) (sr - mk18) Q))) ∧ ((lg_cmp y0 0) = 0 → (((1 : Int32) = 0 → (2 ≤ 2 ∧ S12.K x0 = 14 ∧ 0 ≤ 8 ∧ ∃ mc19 mk20, mc19 ≤ mr ∧ mk20 ≤ sr ∧ E 177 [.inr (.inr (x0)), .inl (3)] mc19 mk20 S12 (k_193_211 E x0 x1 x2 x3 x5 y0 1 (mr - mc19) (sr - mk20) Q))) ∧ (¬ (1 : Int32) = 0 → (2 ≤ 2 ∧ S12.K x0 = 14 ∧ 0 ≤ 8 ∧ ∃ mc21 mk22, mc21 ≤ mr ∧ mk22 ≤ sr ∧ E 177 [.inr (.inr (x0)), .inl (6)] mc21 mk22 S12 (k_193_211 E x0 x1 x2 x3 x5 y0 1 (mr - mc21) (sr - mk22) Q)))))))))))))) ∧ ((lg_cmp x5 (Int32.toInt64 (Int64.toInt32 x5))) = 0 → (((lg_cmp y0 (Int32.toInt64 (Int64.toInt32 y0))) = 0 → (ox_has (S.K x0) 100 = true ∧ (ox_has (S.K x0) 92 = true ∧ (ox_rdI (S.K (S.R 100 x0)) = true ∧ vp_in ((S.I 92 x0) - 1) (S.len (S.R 100 x0)) ∧ (S.K (S.R 100 x0) = 15 ∧ vp_in ((S.I 92 x0) - 1) (S.len (S.R 100 x0)) ∧ (let S23 := S.wI (S.R 100 x0) (Int32.toNatClampNeg ((S.I 92 x0) - 1)) ((S.rI (S.R 100 x0) (Int32.toNatClampNeg ((S.I 92 x0) - 1))) - (x1 + 1))
  ((¬ (0 : Int32) = 0 → (((0 : Int32) = 0 → (2 ≤ 2 ∧ S23.K x0 = 14 ∧ 0 ≤ 8 ∧ ∃ mc24 mk25, mc24 ≤ mr ∧ mk25 ≤ sr ∧ E 177 [.inr (.inr (x0)), .inl (3)] mc24 mk25 S23 (k_193_211 E x0 x1 x2 x3 x5 y0 0 (mr - mc24) (sr - mk25) Q))) ∧ (¬ (0 : Int32) = 0 → (2 ≤ 2 ∧ S23.K x0 = 14 ∧ 0 ≤ 8 ∧ ∃ mc26 mk27, mc26 ≤ mr ∧ mk27 ≤ sr ∧ E 177 [.inr (.inr (x0)), .inl (6)] mc26 mk27 S23 (k_193_211 E x0 x1 x2 x3 x5 y0 0 (mr - mc26) (sr - mk27) Q))))) ∧ ((0 : Int32) = 0 → ((¬ (lg_cmp y0 0) = 0 → (4 ≤ 4 ∧ S23.K x0 = 14 ∧ 0 ≤ 8 ∧ ∃ mc28 mk29, mc28 ≤ mr ∧ mk29 ≤ sr ∧ E 132 [.inr (.inr (x0)), .inl (5), .inl (Int64.toInt32 x3), .inl (Int64.toInt32 x5)] mc28 mk29 S23 (k_193_222 E x0 x1 x2 x3 x5 y0 0 (mr - mc28) (sr - mk29) Q))) ∧ ((lg_cmp y0 0) = 0 → (((0 : Int32) = 0 → (2 ≤ 2 ∧ S23.K x0 = 14 ∧ 0 ≤ 8 ∧ ∃ mc30 mk31, mc30 ≤ mr ∧ mk31 ≤ sr ∧ E 177 [.inr (.inr (x0)), .inl (3)] mc30 mk31 S23 (k_193_211 E x0 x1 x2 x3 x5 y0 0 (mr - mc30) (sr - mk31) Q))) ∧ (¬ (0 : Int32) = 0 → (2 ≤ 2 ∧ S23.K x0 = 14 ∧ 0 ≤ 8 ∧ ∃ mc32 mk33, mc32 ≤ mr ∧ mk33 ≤ sr ∧ E 177 [.inr (.inr (x0)), .inl (6)] mc32 mk33 S23 (k_193_211 E x0 x1 x2 x3 x5 y0 0 (mr - mc32) (sr - mk33) Q)))))))))))))) ∧ (¬ (lg_cmp y0 (Int32.toInt64 (Int64.toInt32 y0))) = 0 → (ox_has (S.K x0) 100 = true ∧ (ox_has (S.K x0) 92 = true ∧ (ox_rdI (S.K (S.R 100 x0)) = true ∧ vp_in ((S.I 92 x0) - 1) (S.len (S.R 100 x0)) ∧ (S.K (S.R 100 x0) = 15 ∧ vp_in ((S.I 92 x0) - 1) (S.len (S.R 100 x0)) ∧ (let S34 := S.wI (S.R 100 x0) (Int32.toNatClampNeg ((S.I 92 x0) - 1)) ((S.rI (S.R 100 x0) (Int32.toNatClampNeg ((S.I 92 x0) - 1))) - (x1 + 1))
  ((¬ (1 : Int32) = 0 → (((1 : Int32) = 0 → (2 ≤ 2 ∧ S34.K x0 = 14 ∧ 0 ≤ 8 ∧ ∃ mc35 mk36, mc35 ≤ mr ∧ mk36 ≤ sr ∧ E 177 [.inr (.inr (x0)), .inl (3)] mc35 mk36 S34 (k_193_211 E x0 x1 x2 x3 x5 y0 1 (mr - mc35) (sr - mk36) Q))) ∧ (¬ (1 : Int32) = 0 → (2 ≤ 2 ∧ S34.K x0 = 14 ∧ 0 ≤ 8 ∧ ∃ mc37 mk38, mc37 ≤ mr ∧ mk38 ≤ sr ∧ E 177 [.inr (.inr (x0)), .inl (6)] mc37 mk38 S34 (k_193_211 E x0 x1 x2 x3 x5 y0 1 (mr - mc37) (sr - mk38) Q))))) ∧ ((1 : Int32) = 0 → ((¬ (lg_cmp y0 0) = 0 → (4 ≤ 4 ∧ S34.K x0 = 14 ∧ 0 ≤ 8 ∧ ∃ mc39 mk40, mc39 ≤ mr ∧ mk40 ≤ sr ∧ E 132 [.inr (.inr (x0)), .inl (5), .inl (Int64.toInt32 x3), .inl (Int64.toInt32 x5)] mc39 mk40 S34 (k_193_222 E x0 x1 x2 x3 x5 y0 1 (mr - mc39) (sr - mk40) Q))) ∧ ((lg_cmp y0 0) = 0 → (((1 : Int32) = 0 → (2 ≤ 2 ∧ S34.K x0 = 14 ∧ 0 ≤ 8 ∧ ∃ mc41 mk42, mc41 ≤ mr ∧ mk42 ≤ sr ∧ E 177 [.inr (.inr (x0)), .inl (3)] mc41 mk42 S34 (k_193_211 E x0 x1 x2 x3 x5 y0 1 (mr - mc41) (sr - mk42) Q))) ∧ (¬ (1 : Int32) = 0 → (2 ≤ 2 ∧ S34.K x0 = 14 ∧ 0 ≤ 8 ∧ ∃ mc43 mk44, mc43 ≤ mr ∧ mk44 ≤ sr ∧ E 177 [.inr (.inr (x0)), .inl (6)] mc43 mk44 S34 (k_193_211 E x0 x1 x2 x3 x5 y0 1 (mr - mc43) (sr - mk44) Q)))))))))))))))))))
set_option maxRecDepth 20000 in
set_option maxHeartbeats 4000000 in
theorem f_193_126 {E : ox_E} (hE : ox_mono E) {mr sr : Nat} {x0 : Nat} {x1 : Int32} {x2 : Int32} {x3 : Int64} {x5 : Int64} {y0 : Int64} {S : ox_St} {Q : ox_Q} (h : q_193_126 E x0 x1 x2 x3 x5 y0 S mr sr Q) : k_193_126 E x0 x1 x2 x3 x5 mr sr Q (some (.inr (.inl (y0)))) S := ox_C_fold hE h
set_option maxRecDepth 20000 in
def q_193_123 (E : ox_E) (x0 : Nat) (x1 : Int32) (x2 : Int32) (x3 : Int64) (x5 : Int64) (y0 : Int32) (y1 : Nat) (S : ox_St) (mr sr : Nat) (Q : ox_Q) : Prop :=
  (2 ≤ 2 ∧ S.K y1 = 14 ∧ 0 ≤ 8 ∧ ∃ mc1 mk2, mc1 ≤ mr ∧ mk2 ≤ sr ∧ E 149 [.inr (.inr (y1)), .inl (y0)] mc1 mk2 S (k_193_126 E x0 x1 x2 x3 x5 (mr - mc1) (sr - mk2) Q))
set_option maxRecDepth 20000 in
set_option maxHeartbeats 4000000 in
theorem f_193_123 {E : ox_E} (hE : ox_mono E) {mr sr : Nat} {x0 : Nat} {x1 : Int32} {x2 : Int32} {x3 : Int64} {x5 : Int64} {y0 : Int32} {y1 : Nat} {S : ox_St} {Q : ox_Q} (h : q_193_123 E x0 x1 x2 x3 x5 y0 y1 S mr sr Q) : k_193_123 E x0 x1 x2 x3 x5 y1 mr sr Q (some (.inl (y0))) S := ox_C_fold hE h
set_option maxRecDepth 20000 in
def q_193_110 (E : ox_E) (x0 : Nat) (x1 : Int32) (x2 : Int32) (x3 : Int64) (y0 : Int64) (S : ox_St) (mr sr : Nat) (Q : ox_Q) : Prop :=
  ((x1 ≤ 2 → ((¬ (lg_cmp x3 (Int32.toInt64 (Int64.toInt32 x3))) = 0 → (ox_has (S.K x0) 100 = true ∧ (ox_has (S.K x0) 92 = true ∧ (ox_rdI (S.K (S.R 100 x0)) = true ∧ vp_in ((S.I 92 x0) - 1) (S.len (S.R 100 x0)) ∧ (S.K (S.R 100 x0) = 15 ∧ vp_in ((S.I 92 x0) - 1) (S.len (S.R 100 x0)) ∧ (let S1 := S.wI (S.R 100 x0) (Int32.toNatClampNeg ((S.I 92 x0) - 1)) ((S.rI (S.R 100 x0) (Int32.toNatClampNeg ((S.I 92 x0) - 1))) - (x1 + 1))
  ((¬ (1 : Int32) = 0 → (((1 : Int32) = 0 → (2 ≤ 2 ∧ S1.K x0 = 14 ∧ 0 ≤ 8 ∧ ∃ mc2 mk3, mc2 ≤ mr ∧ mk3 ≤ sr ∧ E 177 [.inr (.inr (x0)), .inl (3)] mc2 mk3 S1 (k_193_211 E x0 x1 x2 x3 y0 1 1 (mr - mc2) (sr - mk3) Q))) ∧ (¬ (1 : Int32) = 0 → (2 ≤ 2 ∧ S1.K x0 = 14 ∧ 0 ≤ 8 ∧ ∃ mc4 mk5, mc4 ≤ mr ∧ mk5 ≤ sr ∧ E 177 [.inr (.inr (x0)), .inl (6)] mc4 mk5 S1 (k_193_211 E x0 x1 x2 x3 y0 1 1 (mr - mc4) (sr - mk5) Q))))) ∧ ((1 : Int32) = 0 → ((¬ (lg_cmp 1 0) = 0 → (4 ≤ 4 ∧ S1.K x0 = 14 ∧ 0 ≤ 8 ∧ ∃ mc6 mk7, mc6 ≤ mr ∧ mk7 ≤ sr ∧ E 132 [.inr (.inr (x0)), .inl (5), .inl (Int64.toInt32 x3), .inl (Int64.toInt32 y0)] mc6 mk7 S1 (k_193_222 E x0 x1 x2 x3 y0 1 1 (mr - mc6) (sr - mk7) Q))) ∧ ((lg_cmp 1 0) = 0 → (((1 : Int32) = 0 → (2 ≤ 2 ∧ S1.K x0 = 14 ∧ 0 ≤ 8 ∧ ∃ mc8 mk9, mc8 ≤ mr ∧ mk9 ≤ sr ∧ E 177 [.inr (.inr (x0)), .inl (3)] mc8 mk9 S1 (k_193_211 E x0 x1 x2 x3 y0 1 1 (mr - mc8) (sr - mk9) Q))) ∧ (¬ (1 : Int32) = 0 → (2 ≤ 2 ∧ S1.K x0 = 14 ∧ 0 ≤ 8 ∧ ∃ mc10 mk11, mc10 ≤ mr ∧ mk11 ≤ sr ∧ E 177 [.inr (.inr (x0)), .inl (6)] mc10 mk11 S1 (k_193_211 E x0 x1 x2 x3 y0 1 1 (mr - mc10) (sr - mk11) Q)))))))))))))) ∧ ((lg_cmp x3 (Int32.toInt64 (Int64.toInt32 x3))) = 0 → ((¬ (lg_cmp y0 (Int32.toInt64 (Int64.toInt32 y0))) = 0 → (ox_has (S.K x0) 100 = true ∧ (ox_has (S.K x0) 92 = true ∧ (ox_rdI (S.K (S.R 100 x0)) = true ∧ vp_in ((S.I 92 x0) - 1) (S.len (S.R 100 x0)) ∧ (S.K (S.R 100 x0) = 15 ∧ vp_in ((S.I 92 x0) - 1) (S.len (S.R 100 x0)) ∧ (let S12 := S.wI (S.R 100 x0) (Int32.toNatClampNeg ((S.I 92 x0) - 1)) ((S.rI (S.R 100 x0) (Int32.toNatClampNeg ((S.I 92 x0) - 1))) - (x1 + 1))
  ((¬ (1 : Int32) = 0 → (((1 : Int32) = 0 → (2 ≤ 2 ∧ S12.K x0 = 14 ∧ 0 ≤ 8 ∧ ∃ mc13 mk14, mc13 ≤ mr ∧ mk14 ≤ sr ∧ E 177 [.inr (.inr (x0)), .inl (3)] mc13 mk14 S12 (k_193_211 E x0 x1 x2 x3 y0 1 1 (mr - mc13) (sr - mk14) Q))) ∧ (¬ (1 : Int32) = 0 → (2 ≤ 2 ∧ S12.K x0 = 14 ∧ 0 ≤ 8 ∧ ∃ mc15 mk16, mc15 ≤ mr ∧ mk16 ≤ sr ∧ E 177 [.inr (.inr (x0)), .inl (6)] mc15 mk16 S12 (k_193_211 E x0 x1 x2 x3 y0 1 1 (mr - mc15) (sr - mk16) Q))))) ∧ ((1 : Int32) = 0 → ((¬ (lg_cmp 1 0) = 0 → (4 ≤ 4 ∧ S12.K x0 = 14 ∧ 0 ≤ 8 ∧ ∃ mc17 mk18, mc17 ≤ mr ∧ mk18 ≤ sr ∧ E 132 [.inr (.inr (x0)), .inl (5), .inl (Int64.toInt32 x3), .inl (Int64.toInt32 y0)] mc17 mk18 S12 (k_193_222 E x0 x1 x2 x3 y0 1 1 (mr - mc17) (sr - mk18) Q))) ∧ ((lg_cmp 1 0) = 0 → (((1 : Int32) = 0 → (2 ≤ 2 ∧ S12.K x0 = 14 ∧ 0 ≤ 8 ∧ ∃ mc19 mk20, mc19 ≤ mr ∧ mk20 ≤ sr ∧ E 177 [.inr (.inr (x0)), .inl (3)] mc19 mk20 S12 (k_193_211 E x0 x1 x2 x3 y0 1 1 (mr - mc19) (sr - mk20) Q))) ∧ (¬ (1 : Int32) = 0 → (2 ≤ 2 ∧ S12.K x0 = 14 ∧ 0 ≤ 8 ∧ ∃ mc21 mk22, mc21 ≤ mr ∧ mk22 ≤ sr ∧ E 177 [.inr (.inr (x0)), .inl (6)] mc21 mk22 S12 (k_193_211 E x0 x1 x2 x3 y0 1 1 (mr - mc21) (sr - mk22) Q)))))))))))))) ∧ ((lg_cmp y0 (Int32.toInt64 (Int64.toInt32 y0))) = 0 → (((lg_cmp 1 (Int32.toInt64 (Int64.toInt32 1))) = 0 → (ox_has (S.K x0) 100 = true ∧ (ox_has (S.K x0) 92 = true ∧ (ox_rdI (S.K (S.R 100 x0)) = true ∧ vp_in ((S.I 92 x0) - 1) (S.len (S.R 100 x0)) ∧ (S.K (S.R 100 x0) = 15 ∧ vp_in ((S.I 92 x0) - 1) (S.len (S.R 100 x0)) ∧ (let S23 := S.wI (S.R 100 x0) (Int32.toNatClampNeg ((S.I 92 x0) - 1)) ((S.rI (S.R 100 x0) (Int32.toNatClampNeg ((S.I 92 x0) - 1))) - (x1 + 1))
  ((¬ (0 : Int32) = 0 → (((0 : Int32) = 0 → (2 ≤ 2 ∧ S23.K x0 = 14 ∧ 0 ≤ 8 ∧ ∃ mc24 mk25, mc24 ≤ mr ∧ mk25 ≤ sr ∧ E 177 [.inr (.inr (x0)), .inl (3)] mc24 mk25 S23 (k_193_211 E x0 x1 x2 x3 y0 1 0 (mr - mc24) (sr - mk25) Q))) ∧ (¬ (0 : Int32) = 0 → (2 ≤ 2 ∧ S23.K x0 = 14 ∧ 0 ≤ 8 ∧ ∃ mc26 mk27, mc26 ≤ mr ∧ mk27 ≤ sr ∧ E 177 [.inr (.inr (x0)), .inl (6)] mc26 mk27 S23 (k_193_211 E x0 x1 x2 x3 y0 1 0 (mr - mc26) (sr - mk27) Q))))) ∧ ((0 : Int32) = 0 → ((¬ (lg_cmp 1 0) = 0 → (4 ≤ 4 ∧ S23.K x0 = 14 ∧ 0 ≤ 8 ∧ ∃ mc28 mk29, mc28 ≤ mr ∧ mk29 ≤ sr ∧ E 132 [.inr (.inr (x0)), .inl (5), .inl (Int64.toInt32 x3), .inl (Int64.toInt32 y0)] mc28 mk29 S23 (k_193_222 E x0 x1 x2 x3 y0 1 0 (mr - mc28) (sr - mk29) Q))) ∧ ((lg_cmp 1 0) = 0 → (((0 : Int32) = 0 → (2 ≤ 2 ∧ S23.K x0 = 14 ∧ 0 ≤ 8 ∧ ∃ mc30 mk31, mc30 ≤ mr ∧ mk31 ≤ sr ∧ E 177 [.inr (.inr (x0)), .inl (3)] mc30 mk31 S23 (k_193_211 E x0 x1 x2 x3 y0 1 0 (mr - mc30) (sr - mk31) Q))) ∧ (¬ (0 : Int32) = 0 → (2 ≤ 2 ∧ S23.K x0 = 14 ∧ 0 ≤ 8 ∧ ∃ mc32 mk33, mc32 ≤ mr ∧ mk33 ≤ sr ∧ E 177 [.inr (.inr (x0)), .inl (6)] mc32 mk33 S23 (k_193_211 E x0 x1 x2 x3 y0 1 0 (mr - mc32) (sr - mk33) Q)))))))))))))) ∧ (¬ (lg_cmp 1 (Int32.toInt64 (Int64.toInt32 1))) = 0 → (ox_has (S.K x0) 100 = true ∧ (ox_has (S.K x0) 92 = true ∧ (ox_rdI (S.K (S.R 100 x0)) = true ∧ vp_in ((S.I 92 x0) - 1) (S.len (S.R 100 x0)) ∧ (S.K (S.R 100 x0) = 15 ∧ vp_in ((S.I 92 x0) - 1) (S.len (S.R 100 x0)) ∧ (let S34 := S.wI (S.R 100 x0) (Int32.toNatClampNeg ((S.I 92 x0) - 1)) ((S.rI (S.R 100 x0) (Int32.toNatClampNeg ((S.I 92 x0) - 1))) - (x1 + 1))
  ((¬ (1 : Int32) = 0 → (((1 : Int32) = 0 → (2 ≤ 2 ∧ S34.K x0 = 14 ∧ 0 ≤ 8 ∧ ∃ mc35 mk36, mc35 ≤ mr ∧ mk36 ≤ sr ∧ E 177 [.inr (.inr (x0)), .inl (3)] mc35 mk36 S34 (k_193_211 E x0 x1 x2 x3 y0 1 1 (mr - mc35) (sr - mk36) Q))) ∧ (¬ (1 : Int32) = 0 → (2 ≤ 2 ∧ S34.K x0 = 14 ∧ 0 ≤ 8 ∧ ∃ mc37 mk38, mc37 ≤ mr ∧ mk38 ≤ sr ∧ E 177 [.inr (.inr (x0)), .inl (6)] mc37 mk38 S34 (k_193_211 E x0 x1 x2 x3 y0 1 1 (mr - mc37) (sr - mk38) Q))))) ∧ ((1 : Int32) = 0 → ((¬ (lg_cmp 1 0) = 0 → (4 ≤ 4 ∧ S34.K x0 = 14 ∧ 0 ≤ 8 ∧ ∃ mc39 mk40, mc39 ≤ mr ∧ mk40 ≤ sr ∧ E 132 [.inr (.inr (x0)), .inl (5), .inl (Int64.toInt32 x3), .inl (Int64.toInt32 y0)] mc39 mk40 S34 (k_193_222 E x0 x1 x2 x3 y0 1 1 (mr - mc39) (sr - mk40) Q))) ∧ ((lg_cmp 1 0) = 0 → (((1 : Int32) = 0 → (2 ≤ 2 ∧ S34.K x0 = 14 ∧ 0 ≤ 8 ∧ ∃ mc41 mk42, mc41 ≤ mr ∧ mk42 ≤ sr ∧ E 177 [.inr (.inr (x0)), .inl (3)] mc41 mk42 S34 (k_193_211 E x0 x1 x2 x3 y0 1 1 (mr - mc41) (sr - mk42) Q))) ∧ (¬ (1 : Int32) = 0 → (2 ≤ 2 ∧ S34.K x0 = 14 ∧ 0 ≤ 8 ∧ ∃ mc43 mk44, mc43 ≤ mr ∧ mk44 ≤ sr ∧ E 177 [.inr (.inr (x0)), .inl (6)] mc43 mk44 S34 (k_193_211 E x0 x1 x2 x3 y0 1 1 (mr - mc43) (sr - mk44) Q)))))))))))))))))))) ∧ (¬ x1 ≤ 2 → (2 ≤ 3 ∧ S.K x0 = 14 ∧ 1 ≤ 8 ∧ ∃ mc45 mk46, mc45 ≤ mr ∧ mk46 ≤ sr ∧ E 176 [.inr (.inr (x0)), .inl (0)] mc45 mk46 S (k_193_123 E x0 x1 x2 x3 y0 x0 (mr - mc45) (sr - mk46) Q))))
set_option maxRecDepth 20000 in
set_option maxHeartbeats 4000000 in
theorem f_193_110 {E : ox_E} (hE : ox_mono E) {mr sr : Nat} {x0 : Nat} {x1 : Int32} {x2 : Int32} {x3 : Int64} {y0 : Int64} {S : ox_St} {Q : ox_Q} (h : q_193_110 E x0 x1 x2 x3 y0 S mr sr Q) : k_193_110 E x0 x1 x2 x3 mr sr Q (some (.inr (.inl (y0)))) S := ox_C_fold hE h
set_option maxRecDepth 20000 in
def q_193_107 (E : ox_E) (x0 : Nat) (x1 : Int32) (x2 : Int32) (x3 : Int64) (y0 : Int32) (y1 : Nat) (S : ox_St) (mr sr : Nat) (Q : ox_Q) : Prop :=
  (2 ≤ 2 ∧ S.K y1 = 14 ∧ 0 ≤ 8 ∧ ∃ mc1 mk2, mc1 ≤ mr ∧ mk2 ≤ sr ∧ E 149 [.inr (.inr (y1)), .inl (y0)] mc1 mk2 S (k_193_110 E x0 x1 x2 x3 (mr - mc1) (sr - mk2) Q))
set_option maxRecDepth 20000 in
set_option maxHeartbeats 4000000 in
theorem f_193_107 {E : ox_E} (hE : ox_mono E) {mr sr : Nat} {x0 : Nat} {x1 : Int32} {x2 : Int32} {x3 : Int64} {y0 : Int32} {y1 : Nat} {S : ox_St} {Q : ox_Q} (h : q_193_107 E x0 x1 x2 x3 y0 y1 S mr sr Q) : k_193_107 E x0 x1 x2 x3 y1 mr sr Q (some (.inl (y0))) S := ox_C_fold hE h
set_option maxRecDepth 20000 in
def q_193_98 (E : ox_E) (x0 : Nat) (x1 : Int32) (x2 : Int32) (x3 : Int64) (y0 : Int64) (S : ox_St) (mr sr : Nat) (Q : ox_Q) : Prop :=
  k_193_110 E x0 x1 x2 x3 mr sr Q (some (.inr (.inl (y0)))) S
set_option maxRecDepth 20000 in
set_option maxHeartbeats 4000000 in
theorem f_193_98 {E : ox_E} (hE : ox_mono E) {mr sr : Nat} {x0 : Nat} {x1 : Int32} {x2 : Int32} {x3 : Int64} {y0 : Int64} {S : ox_St} {Q : ox_Q} (h : q_193_98 E x0 x1 x2 x3 y0 S mr sr Q) : k_193_98 E x0 x1 x2 x3 mr sr Q (some (.inr (.inl (y0)))) S := ox_C_fold hE h
set_option maxRecDepth 20000 in
def q_193_95 (E : ox_E) (x0 : Nat) (x1 : Int32) (x2 : Int32) (x3 : Int64) (y0 : Int32) (y1 : Nat) (S : ox_St) (mr sr : Nat) (Q : ox_Q) : Prop :=
  (2 ≤ 2 ∧ S.K y1 = 14 ∧ 0 ≤ 8 ∧ ∃ mc1 mk2, mc1 ≤ mr ∧ mk2 ≤ sr ∧ E 149 [.inr (.inr (y1)), .inl (y0)] mc1 mk2 S (k_193_98 E x0 x1 x2 x3 (mr - mc1) (sr - mk2) Q))
set_option maxRecDepth 20000 in
set_option maxHeartbeats 4000000 in
theorem f_193_95 {E : ox_E} (hE : ox_mono E) {mr sr : Nat} {x0 : Nat} {x1 : Int32} {x2 : Int32} {x3 : Int64} {y0 : Int32} {y1 : Nat} {S : ox_St} {Q : ox_Q} (h : q_193_95 E x0 x1 x2 x3 y0 y1 S mr sr Q) : k_193_95 E x0 x1 x2 x3 y1 mr sr Q (some (.inl (y0))) S := ox_C_fold hE h
set_option maxRecDepth 20000 in
def q_193_77 (E : ox_E) (x0 : Nat) (x1 : Int32) (x2 : Int32) (x3 : Int32) (y0 : Int64) (S : ox_St) (mr sr : Nat) (Q : ox_Q) : Prop :=
  ((x1 ≤ 1 → (2 ≤ 3 ∧ S.K x0 = 14 ∧ 1 ≤ 8 ∧ ∃ mc1 mk2, mc1 ≤ mr ∧ mk2 ≤ sr ∧ E 176 [.inr (.inr (x0)), .inl (0)] mc1 mk2 S (k_193_107 E x0 x1 x2 y0 x0 (mr - mc1) (sr - mk2) Q))) ∧ (¬ x1 ≤ 1 → (2 ≤ 3 ∧ S.K x0 = 14 ∧ 1 ≤ 8 ∧ ∃ mc3 mk4, mc3 ≤ mr ∧ mk4 ≤ sr ∧ E 176 [.inr (.inr (x0)), .inl (x1 - 2)] mc3 mk4 S (k_193_95 E x0 x1 x2 y0 x0 (mr - mc3) (sr - mk4) Q))))
set_option maxRecDepth 20000 in
set_option maxHeartbeats 4000000 in
theorem f_193_77 {E : ox_E} (hE : ox_mono E) {mr sr : Nat} {x0 : Nat} {x1 : Int32} {x2 : Int32} {x3 : Int32} {y0 : Int64} {S : ox_St} {Q : ox_Q} (h : q_193_77 E x0 x1 x2 x3 y0 S mr sr Q) : k_193_77 E x0 x1 x2 x3 mr sr Q (some (.inr (.inl (y0)))) S := ox_C_fold hE h
set_option maxRecDepth 20000 in
def q_193_74 (E : ox_E) (x0 : Nat) (x1 : Int32) (x2 : Int32) (x3 : Int32) (y0 : Int32) (y1 : Nat) (S : ox_St) (mr sr : Nat) (Q : ox_Q) : Prop :=
  (2 ≤ 2 ∧ S.K y1 = 14 ∧ 0 ≤ 8 ∧ ∃ mc1 mk2, mc1 ≤ mr ∧ mk2 ≤ sr ∧ E 149 [.inr (.inr (y1)), .inl (y0)] mc1 mk2 S (k_193_77 E x0 x1 x2 x3 (mr - mc1) (sr - mk2) Q))
set_option maxRecDepth 20000 in
set_option maxHeartbeats 4000000 in
theorem f_193_74 {E : ox_E} (hE : ox_mono E) {mr sr : Nat} {x0 : Nat} {x1 : Int32} {x2 : Int32} {x3 : Int32} {y0 : Int32} {y1 : Nat} {S : ox_St} {Q : ox_Q} (h : q_193_74 E x0 x1 x2 x3 y0 y1 S mr sr Q) : k_193_74 E x0 x1 x2 x3 y1 mr sr Q (some (.inl (y0))) S := ox_C_fold hE h
set_option maxRecDepth 20000 in
def q_193_60 (E : ox_E) (x0 : Nat) (x1 : Int32) (x2 : Int32) (x3 : Int32) (S : ox_St) (mr sr : Nat) (Q : ox_Q) : Prop :=
  ((ox_mi 193).2.2.2.1 = none ∧ Q none S)
set_option maxRecDepth 20000 in
set_option maxHeartbeats 4000000 in
theorem f_193_60 {E : ox_E} (hE : ox_mono E) {mr sr : Nat} {x0 : Nat} {x1 : Int32} {x2 : Int32} {x3 : Int32} {S : ox_St} {Q : ox_Q} (h : q_193_60 E x0 x1 x2 x3 S mr sr Q) : k_193_60 E x0 x1 x2 x3 mr sr Q none S := ox_C_fold hE h
set_option maxRecDepth 20000 in
def q_193_36 (E : ox_E) (x0 : Nat) (x1 : Int32) (x2 : Int32) (x3 : Int32) (y0 : Int32) (S : ox_St) (mr sr : Nat) (Q : ox_Q) : Prop :=
  ((y0 = 0 → c_193_18 E x0 x1 0 (x3 + 1) S mr sr Q) ∧ (¬ y0 = 0 → c_193_18 E x0 x1 1 (x3 + 1) S mr sr Q))
set_option maxRecDepth 20000 in
set_option maxHeartbeats 4000000 in
theorem f_193_36 {E : ox_E} (hE : ox_mono E) {mr sr : Nat} {x0 : Nat} {x1 : Int32} {x2 : Int32} {x3 : Int32} {y0 : Int32} {S : ox_St} {Q : ox_Q} (h : q_193_36 E x0 x1 x2 x3 y0 S mr sr Q) : k_193_36 E x0 x1 x2 x3 mr sr Q (some (.inl (y0))) S := ox_C_fold hE h
set_option maxRecDepth 20000 in
def q_193_33 (E : ox_E) (x0 : Nat) (x1 : Int32) (x2 : Int32) (x3 : Int32) (y0 : Int32) (y1 : Nat) (S : ox_St) (mr sr : Nat) (Q : ox_Q) : Prop :=
  (2 ≤ 2 ∧ S.K y1 = 14 ∧ 0 ≤ 8 ∧ ∃ mc1 mk2, mc1 ≤ mr ∧ mk2 ≤ sr ∧ E 135 [.inr (.inr (y1)), .inl (y0)] mc1 mk2 S (k_193_36 E x0 x1 x2 x3 (mr - mc1) (sr - mk2) Q))
set_option maxRecDepth 20000 in
set_option maxHeartbeats 4000000 in
theorem f_193_33 {E : ox_E} (hE : ox_mono E) {mr sr : Nat} {x0 : Nat} {x1 : Int32} {x2 : Int32} {x3 : Int32} {y0 : Int32} {y1 : Nat} {S : ox_St} {Q : ox_Q} (h : q_193_33 E x0 x1 x2 x3 y0 y1 S mr sr Q) : k_193_33 E x0 x1 x2 x3 y1 mr sr Q (some (.inl (y0))) S := ox_C_fold hE h
set_option maxRecDepth 20000 in
def q_193_18 (E : ox_E) (x0 : Nat) (x1 : Int32) (x2 : Int32) (x3 : Int32) (S : ox_St) (mr sr : Nat) (Q : ox_Q) : Prop :=
  ((x1 ≤ x3 → ((¬ x2 = 0 → ((x1 ≤ 1 → ((x1 ≤ 1 → (2 ≤ 3 ∧ S.K x0 = 14 ∧ 1 ≤ 8 ∧ ∃ mc1 mk2, mc1 ≤ mr ∧ mk2 ≤ sr ∧ E 176 [.inr (.inr (x0)), .inl (0)] mc1 mk2 S (k_193_107 E x0 x1 x2 0 x0 (mr - mc1) (sr - mk2) Q))) ∧ (¬ x1 ≤ 1 → (2 ≤ 3 ∧ S.K x0 = 14 ∧ 1 ≤ 8 ∧ ∃ mc3 mk4, mc3 ≤ mr ∧ mk4 ≤ sr ∧ E 176 [.inr (.inr (x0)), .inl (x1 - 2)] mc3 mk4 S (k_193_95 E x0 x1 x2 0 x0 (mr - mc3) (sr - mk4) Q))))) ∧ (¬ x1 ≤ 1 → (2 ≤ 3 ∧ S.K x0 = 14 ∧ 1 ≤ 8 ∧ ∃ mc5 mk6, mc5 ≤ mr ∧ mk6 ≤ sr ∧ E 176 [.inr (.inr (x0)), .inl (x1 - 1)] mc5 mk6 S (k_193_74 E x0 x1 x2 x3 x0 (mr - mc5) (sr - mk6) Q))))) ∧ (x2 = 0 → (2 ≤ 2 ∧ S.K x0 = 14 ∧ 0 ≤ 8 ∧ ∃ mc7 mk8, mc7 ≤ mr ∧ mk8 ≤ sr ∧ E 177 [.inr (.inr (x0)), .inl (0)] mc7 mk8 S (k_193_60 E x0 x1 x2 x3 (mr - mc7) (sr - mk8) Q))))) ∧ (¬ x1 ≤ x3 → ((x2 = 0 → c_193_18 E x0 x1 0 (x3 + 1) S mr sr Q) ∧ (¬ x2 = 0 → (2 ≤ 3 ∧ S.K x0 = 14 ∧ 1 ≤ 8 ∧ ∃ mc9 mk10, mc9 ≤ mr ∧ mk10 ≤ sr ∧ E 176 [.inr (.inr (x0)), .inl (x3)] mc9 mk10 S (k_193_33 E x0 x1 x2 x3 x0 (mr - mc9) (sr - mk10) Q))))))
set_option maxRecDepth 20000 in
set_option maxHeartbeats 4000000 in
theorem f_193_18 {E : ox_E} (hE : ox_mono E) {mr sr : Nat} {x0 : Nat} {x1 : Int32} {x2 : Int32} {x3 : Int32} {S : ox_St} {Q : ox_Q} (h : q_193_18 E x0 x1 x2 x3 S mr sr Q) : c_193_18 E x0 x1 x2 x3 S mr sr Q := ox_C_fold hE h
set_option maxRecDepth 20000 in
def q_193 (E : ox_E) (x0 : Nat) (x1 : Int32) (S : ox_St) (mr sr : Nat) (Q : ox_Q) : Prop :=
  ((x1 < 1 → c_193_18 E x0 x1 0 0 S mr sr Q) ∧ (¬ x1 < 1 → (((3 : Int32) < x1 → c_193_18 E x0 x1 0 0 S mr sr Q) ∧ (¬ (3 : Int32) < x1 → c_193_18 E x0 x1 1 0 S mr sr Q))))
set_option maxRecDepth 20000 in
set_option maxHeartbeats 4000000 in
theorem f_193 {sp : ox_E} (hsp : ox_mono sp) {d : Nat} {mr sr : Nat} {x0 : Nat} {x1 : Int32} {S : ox_St} {Q : ox_Q} (h : q_193 (ox_M sp d) x0 x1 S mr sr Q) : ox_M sp (d + 1) 193 [.inr (.inr (x0)), .inl (x1)] mr sr S Q := Or.inr ⟨Nat.le_of_ble_eq_true rfl, ox_C_fold (ox_M_mono hsp d) h⟩
/-! OpcodeFramesModel.call(I)V -/
def k_194_5 (E : ox_E) (x0 : Nat) (x1 : Int32) (mr sr : Nat) (Q : ox_Q) : ox_Q := fun r_ T_ => ox_C E (ox_mi 194).2.2.2.1 (ox_mc 194) (ox_cut 194) Q 5 [some (.inr (.inr (x0))), some (.inl (x1)), none, none, none, none] (r_.toList ++ []) T_ mr sr
def k_194_16 (E : ox_E) (x0 : Nat) (x1 : Int32) (x2 : Int32) (mr sr : Nat) (Q : ox_Q) : ox_Q := fun r_ T_ => ox_C E (ox_mi 194).2.2.2.1 (ox_mc 194) (ox_cut 194) Q 16 [some (.inr (.inr (x0))), some (.inl (x1)), some (.inl (x2)), none, none, none] (r_.toList ++ []) T_ mr sr
def k_194_24 (E : ox_E) (x0 : Nat) (x1 : Int32) (x2 : Int32) (mr sr : Nat) (Q : ox_Q) : ox_Q := fun r_ T_ => ox_C E (ox_mi 194).2.2.2.1 (ox_mc 194) (ox_cut 194) Q 24 [some (.inr (.inr (x0))), some (.inl (x1)), some (.inl (x2)), none, none, none] (r_.toList ++ []) T_ mr sr
def k_194_51 (E : ox_E) (x0 : Nat) (x1 : Int32) (x2 : Int32) (mr sr : Nat) (Q : ox_Q) : ox_Q := fun r_ T_ => ox_C E (ox_mi 194).2.2.2.1 (ox_mc 194) (ox_cut 194) Q 51 [some (.inr (.inr (x0))), some (.inl (x1)), some (.inl (x2)), none, none, none] (r_.toList ++ []) T_ mr sr
def k_194_68 (E : ox_E) (x0 : Nat) (x1 : Int32) (x2 : Int32) (mr sr : Nat) (Q : ox_Q) : ox_Q := fun r_ T_ => ox_C E (ox_mi 194).2.2.2.1 (ox_mc 194) (ox_cut 194) Q 68 [some (.inr (.inr (x0))), some (.inl (x1)), some (.inl (x2)), none, none, none] (r_.toList ++ []) T_ mr sr
def k_194_108 (E : ox_E) (x0 : Nat) (x1 : Int32) (x2 : Int32) (x3 : Int32) (x4 : Int32) (mr sr : Nat) (Q : ox_Q) : ox_Q := fun r_ T_ => ox_C E (ox_mi 194).2.2.2.1 (ox_mc 194) (ox_cut 194) Q 108 [some (.inr (.inr (x0))), some (.inl (x1)), some (.inl (x2)), some (.inl (x3)), some (.inl (x4)), none] (r_.toList ++ []) T_ mr sr
def c_194_111 (E : ox_E) (x0 : Nat) (x1 : Int32) (x2 : Int32) (x3 : Int32) (x4 : Int32) (x5 : Int32) (S : ox_St) (mr sr : Nat) (Q : ox_Q) : Prop := ox_C E (ox_mi 194).2.2.2.1 (ox_mc 194) (ox_cut 194) Q 111 [some (.inr (.inr (x0))), some (.inl (x1)), some (.inl (x2)), some (.inl (x3)), some (.inl (x4)), some (.inl (x5))] [] S mr sr
set_option maxRecDepth 20000 in
def q_194_111 (E : ox_E) (x0 : Nat) (x1 : Int32) (x2 : Int32) (x3 : Int32) (x4 : Int32) (x5 : Int32) (S : ox_St) (mr sr : Nat) (Q : ox_Q) : Prop :=
  ((x1 ≤ x5 → (ox_has (S.K x0) 100 = true ∧ (ox_rdI (S.K (S.R 100 x0)) = true ∧ vp_in (x3 - 1) (S.len (S.R 100 x0)) ∧ (S.K (S.R 100 x0) = 15 ∧ vp_in (x3 - 1) (S.len (S.R 100 x0)) ∧ (let S1 := S.wI (S.R 100 x0) (Int32.toNatClampNeg (x3 - 1)) ((S.rI (S.R 100 x0) (Int32.toNatClampNeg (x3 - 1))) - (x1 + 1))
  (ox_has (S1.K x0) 92 = true ∧ (ox_has (S1.K x0) 92 = true ∧ (let S2 := S1.sI 92 x0 ((S1.I 92 x0) + 1)
  ((ox_mi 194).2.2.2.1 = none ∧ Q none S2))))))))) ∧ (¬ x1 ≤ x5 → (ox_has (S.K x0) 103 = true ∧ (ox_has (S.K x0) 102 = true ∧ (ox_rdI (S.K (S.R 102 x0)) = true ∧ vp_in (x4 + x5) (S.len (S.R 102 x0)) ∧ (S.K (S.R 103 x0) = 15 ∧ vp_in ((8 * x3) + x5) (S.len (S.R 103 x0)) ∧ (let S3 := S.wI (S.R 103 x0) (Int32.toNatClampNeg ((8 * x3) + x5)) (S.rI (S.R 102 x0) (Int32.toNatClampNeg (x4 + x5)))
  c_194_111 E x0 x1 x2 x3 x4 (x5 + 1) S3 mr sr Q)))))))
set_option maxRecDepth 20000 in
set_option maxHeartbeats 4000000 in
theorem f_194_111 {E : ox_E} (hE : ox_mono E) {mr sr : Nat} {x0 : Nat} {x1 : Int32} {x2 : Int32} {x3 : Int32} {x4 : Int32} {x5 : Int32} {S : ox_St} {Q : ox_Q} (h : q_194_111 E x0 x1 x2 x3 x4 x5 S mr sr Q) : c_194_111 E x0 x1 x2 x3 x4 x5 S mr sr Q := ox_C_fold hE h
set_option maxRecDepth 20000 in
def q_194_108 (E : ox_E) (x0 : Nat) (x1 : Int32) (x2 : Int32) (x3 : Int32) (x4 : Int32) (S : ox_St) (mr sr : Nat) (Q : ox_Q) : Prop :=
  c_194_111 E x0 x1 x2 x3 x4 0 S mr sr Q
set_option maxRecDepth 20000 in
set_option maxHeartbeats 4000000 in
theorem f_194_108 {E : ox_E} (hE : ox_mono E) {mr sr : Nat} {x0 : Nat} {x1 : Int32} {x2 : Int32} {x3 : Int32} {x4 : Int32} {S : ox_St} {Q : ox_Q} (h : q_194_108 E x0 x1 x2 x3 x4 S mr sr Q) : k_194_108 E x0 x1 x2 x3 x4 mr sr Q none S := ox_C_fold hE h
set_option maxRecDepth 20000 in
def q_194_68 (E : ox_E) (x0 : Nat) (x1 : Int32) (x2 : Int32) (S : ox_St) (mr sr : Nat) (Q : ox_Q) : Prop :=
  ((ox_mi 194).2.2.2.1 = none ∧ Q none S)
set_option maxRecDepth 20000 in
set_option maxHeartbeats 4000000 in
theorem f_194_68 {E : ox_E} (hE : ox_mono E) {mr sr : Nat} {x0 : Nat} {x1 : Int32} {x2 : Int32} {S : ox_St} {Q : ox_Q} (h : q_194_68 E x0 x1 x2 S mr sr Q) : k_194_68 E x0 x1 x2 mr sr Q none S := ox_C_fold hE h
set_option maxRecDepth 20000 in
def q_194_51 (E : ox_E) (x0 : Nat) (x1 : Int32) (x2 : Int32) (S : ox_St) (mr sr : Nat) (Q : ox_Q) : Prop :=
  ((ox_mi 194).2.2.2.1 = none ∧ Q none S)
set_option maxRecDepth 20000 in
set_option maxHeartbeats 4000000 in
theorem f_194_51 {E : ox_E} (hE : ox_mono E) {mr sr : Nat} {x0 : Nat} {x1 : Int32} {x2 : Int32} {S : ox_St} {Q : ox_Q} (h : q_194_51 E x0 x1 x2 S mr sr Q) : k_194_51 E x0 x1 x2 mr sr Q none S := ox_C_fold hE h
set_option maxRecDepth 20000 in
def q_194_24 (E : ox_E) (x0 : Nat) (x1 : Int32) (x2 : Int32) (y0 : Int32) (S : ox_St) (mr sr : Nat) (Q : ox_Q) : Prop :=
  ((¬ y0 = 7 → (2 ≤ 2 ∧ S.K x0 = 14 ∧ 0 ≤ 8 ∧ ∃ mc1 mk2, mc1 ≤ mr ∧ mk2 ≤ sr ∧ E 177 [.inr (.inr (x0)), .inl (0)] mc1 mk2 S (k_194_51 E x0 x1 x2 (mr - mc1) (sr - mk2) Q))) ∧ (y0 = 7 → (ox_has (S.K x0) 77 = true ∧ (ox_has (S.K x0) 73 = true ∧ (ox_rdI (S.K (S.R 73 x0)) = true ∧ vp_in (x2 + 1) (S.len (S.R 73 x0)) ∧ (ox_rdI (S.K (S.R 77 x0)) = true ∧ vp_in (S.rI (S.R 73 x0) (Int32.toNatClampNeg (x2 + 1))) (S.len (S.R 77 x0)) ∧ (((S.rI (S.R 77 x0) (Int32.toNatClampNeg (S.rI (S.R 73 x0) (Int32.toNatClampNeg (x2 + 1))))) = x1 → (ox_has (S.K x0) 92 = true ∧ ((¬ (S.I 92 x0) = 8 → (ox_has (S.K x0) 92 = true ∧ (let w3 : Int32 := S.I 92 x0
  (ox_has (S.K x0) 100 = true ∧ (ox_rdI (S.K (S.R 100 x0)) = true ∧ vp_in (w3 - 1) (S.len (S.R 100 x0)) ∧ (let w4 : Int32 := ((10 * (w3 - 1)) + (S.rI (S.R 100 x0) (Int32.toNatClampNeg (w3 - 1)))) - x1
  (ox_has (S.K x0) 73 = true ∧ (ox_rdI (S.K (S.R 73 x0)) = true ∧ vp_in (x2 + 1) (S.len (S.R 73 x0)) ∧ (3 ≤ 3 ∧ S.K x0 = 14 ∧ 0 ≤ 8 ∧ ∃ mc5 mk6, mc5 ≤ mr ∧ mk6 ≤ sr ∧ E 172 [.inr (.inr (x0)), .inl (w3), .inl (S.rI (S.R 73 x0) (Int32.toNatClampNeg (x2 + 1)))] mc5 mk6 S (k_194_108 E x0 x1 x2 w3 w4 (mr - mc5) (sr - mk6) Q)))))))))) ∧ ((S.I 92 x0) = 8 → (2 ≤ 2 ∧ S.K x0 = 14 ∧ 0 ≤ 8 ∧ ∃ mc7 mk8, mc7 ≤ mr ∧ mk8 ≤ sr ∧ E 177 [.inr (.inr (x0)), .inl (5)] mc7 mk8 S (k_194_68 E x0 x1 x2 (mr - mc7) (sr - mk8) Q)))))) ∧ (¬ (S.rI (S.R 77 x0) (Int32.toNatClampNeg (S.rI (S.R 73 x0) (Int32.toNatClampNeg (x2 + 1))))) = x1 → (2 ≤ 2 ∧ S.K x0 = 14 ∧ 0 ≤ 8 ∧ ∃ mc9 mk10, mc9 ≤ mr ∧ mk10 ≤ sr ∧ E 177 [.inr (.inr (x0)), .inl (0)] mc9 mk10 S (k_194_51 E x0 x1 x2 (mr - mc9) (sr - mk10) Q))))))))))
set_option maxRecDepth 20000 in
set_option maxHeartbeats 4000000 in
theorem f_194_24 {E : ox_E} (hE : ox_mono E) {mr sr : Nat} {x0 : Nat} {x1 : Int32} {x2 : Int32} {y0 : Int32} {S : ox_St} {Q : ox_Q} (h : q_194_24 E x0 x1 x2 y0 S mr sr Q) : k_194_24 E x0 x1 x2 mr sr Q (some (.inl (y0))) S := ox_C_fold hE h
set_option maxRecDepth 20000 in
def q_194_16 (E : ox_E) (x0 : Nat) (x1 : Int32) (x2 : Int32) (S : ox_St) (mr sr : Nat) (Q : ox_Q) : Prop :=
  ((ox_mi 194).2.2.2.1 = none ∧ Q none S)
set_option maxRecDepth 20000 in
set_option maxHeartbeats 4000000 in
theorem f_194_16 {E : ox_E} (hE : ox_mono E) {mr sr : Nat} {x0 : Nat} {x1 : Int32} {x2 : Int32} {S : ox_St} {Q : ox_Q} (h : q_194_16 E x0 x1 x2 S mr sr Q) : k_194_16 E x0 x1 x2 mr sr Q none S := ox_C_fold hE h
set_option maxRecDepth 20000 in
def q_194_5 (E : ox_E) (x0 : Nat) (x1 : Int32) (y0 : Int32) (S : ox_St) (mr sr : Nat) (Q : ox_Q) : Prop :=
  ((¬ y0 = 3 → (2 ≤ 2 ∧ S.K x0 = 14 ∧ 0 ≤ 8 ∧ ∃ mc1 mk2, mc1 ≤ mr ∧ mk2 ≤ sr ∧ E 133 [.inr (.inr (x0)), .inl (y0)] mc1 mk2 S (k_194_24 E x0 x1 y0 (mr - mc1) (sr - mk2) Q))) ∧ (y0 = 3 → (2 ≤ 2 ∧ S.K x0 = 14 ∧ 0 ≤ 8 ∧ ∃ mc3 mk4, mc3 ≤ mr ∧ mk4 ≤ sr ∧ E 193 [.inr (.inr (x0)), .inl (x1)] mc3 mk4 S (k_194_16 E x0 x1 y0 (mr - mc3) (sr - mk4) Q))))
set_option maxRecDepth 20000 in
set_option maxHeartbeats 4000000 in
theorem f_194_5 {E : ox_E} (hE : ox_mono E) {mr sr : Nat} {x0 : Nat} {x1 : Int32} {y0 : Int32} {S : ox_St} {Q : ox_Q} (h : q_194_5 E x0 x1 y0 S mr sr Q) : k_194_5 E x0 x1 mr sr Q (some (.inl (y0))) S := ox_C_fold hE h
set_option maxRecDepth 20000 in
def q_194 (E : ox_E) (x0 : Nat) (x1 : Int32) (S : ox_St) (mr sr : Nat) (Q : ox_Q) : Prop :=
  (2 ≤ 2 ∧ S.K x0 = 14 ∧ 0 ≤ 8 ∧ ∃ mc1 mk2, mc1 ≤ mr ∧ mk2 ≤ sr ∧ E 176 [.inr (.inr (x0)), .inl (x1)] mc1 mk2 S (k_194_5 E x0 x1 (mr - mc1) (sr - mk2) Q))
set_option maxRecDepth 20000 in
set_option maxHeartbeats 4000000 in
theorem f_194 {sp : ox_E} (hsp : ox_mono sp) {d : Nat} {mr sr : Nat} {x0 : Nat} {x1 : Int32} {S : ox_St} {Q : ox_Q} (h : q_194 (ox_M sp d) x0 x1 S mr sr Q) : ox_M sp (d + 1) 194 [.inr (.inr (x0)), .inl (x1)] mr sr S Q := Or.inr ⟨Nat.le_of_ble_eq_true rfl, ox_C_fold (ox_M_mono hsp d) h⟩
/-! OpcodeFramesModel.giveBack()V -/
def k_195_4 (E : ox_E) (x0 : Nat) (mr sr : Nat) (Q : ox_Q) : ox_Q := fun r_ T_ => ox_C E (ox_mi 195).2.2.2.1 (ox_mc 195) (ox_cut 195) Q 4 [some (.inr (.inr (x0))), none] (r_.toList ++ []) T_ mr sr
def k_195_27 (E : ox_E) (x0 : Nat) (x1 : Int32) (mr sr : Nat) (Q : ox_Q) : ox_Q := fun r_ T_ => ox_C E (ox_mi 195).2.2.2.1 (ox_mc 195) (ox_cut 195) Q 27 [some (.inr (.inr (x0))), some (.inl (x1))] (r_.toList ++ []) T_ mr sr
set_option maxRecDepth 20000 in
def q_195_27 (E : ox_E) (x0 : Nat) (x1 : Int32) (S : ox_St) (mr sr : Nat) (Q : ox_Q) : Prop :=
  ((ox_mi 195).2.2.2.1 = none ∧ Q none S)
set_option maxRecDepth 20000 in
set_option maxHeartbeats 4000000 in
theorem f_195_27 {E : ox_E} (hE : ox_mono E) {mr sr : Nat} {x0 : Nat} {x1 : Int32} {S : ox_St} {Q : ox_Q} (h : q_195_27 E x0 x1 S mr sr Q) : k_195_27 E x0 x1 mr sr Q none S := ox_C_fold hE h
set_option maxRecDepth 20000 in
def q_195_4 (E : ox_E) (x0 : Nat) (y0 : Int32) (S : ox_St) (mr sr : Nat) (Q : ox_Q) : Prop :=
  (ox_has (S.K x0) 92 = true ∧ (ox_has (S.K x0) 92 = true ∧ (let S1 := S.sI 92 x0 ((S.I 92 x0) - 1)
  (ox_has (S1.K x0) 92 = true ∧ (((S1.I 92 x0) ≤ 0 → (ox_has (S1.K x0) 93 = true ∧ (let S2 := S1.sI 93 x0 2
  (ox_has (S2.K x0) 97 = true ∧ (let S3 := S2.sI 97 x0 y0
  ((ox_mi 195).2.2.2.1 = none ∧ Q none S3)))))) ∧ (¬ (S1.I 92 x0) ≤ 0 → (2 ≤ 2 ∧ S1.K x0 = 14 ∧ 0 ≤ 8 ∧ ∃ mc4 mk5, mc4 ≤ mr ∧ mk5 ≤ sr ∧ E 174 [.inr (.inr (x0)), .inl (y0)] mc4 mk5 S1 (k_195_27 E x0 y0 (mr - mc4) (sr - mk5) Q))))))))
set_option maxRecDepth 20000 in
set_option maxHeartbeats 4000000 in
theorem f_195_4 {E : ox_E} (hE : ox_mono E) {mr sr : Nat} {x0 : Nat} {y0 : Int32} {S : ox_St} {Q : ox_Q} (h : q_195_4 E x0 y0 S mr sr Q) : k_195_4 E x0 mr sr Q (some (.inl (y0))) S := ox_C_fold hE h
set_option maxRecDepth 20000 in
def q_195 (E : ox_E) (x0 : Nat) (S : ox_St) (mr sr : Nat) (Q : ox_Q) : Prop :=
  (1 ≤ 1 ∧ S.K x0 = 14 ∧ 0 ≤ 8 ∧ ∃ mc1 mk2, mc1 ≤ mr ∧ mk2 ≤ sr ∧ E 175 [.inr (.inr (x0))] mc1 mk2 S (k_195_4 E x0 (mr - mc1) (sr - mk2) Q))
set_option maxRecDepth 20000 in
set_option maxHeartbeats 4000000 in
theorem f_195 {sp : ox_E} (hsp : ox_mono sp) {d : Nat} {mr sr : Nat} {x0 : Nat} {S : ox_St} {Q : ox_Q} (h : q_195 (ox_M sp d) x0 S mr sr Q) : ox_M sp (d + 1) 195 [.inr (.inr (x0))] mr sr S Q := Or.inr ⟨Nat.le_of_ble_eq_true rfl, ox_C_fold (ox_M_mono hsp d) h⟩
/-! OpcodeFramesModel.build(I)V -/
def c_196_2 (E : ox_E) (x0 : Nat) (x1 : Int32) (x2 : Int32) (S : ox_St) (mr sr : Nat) (Q : ox_Q) : Prop := ox_C E (ox_mi 196).2.2.2.1 (ox_mc 196) (ox_cut 196) Q 2 [some (.inr (.inr (x0))), some (.inl (x1)), some (.inl (x2)), none] [] S mr sr
def k_196_21 (E : ox_E) (x0 : Nat) (x1 : Int32) (x2 : Int32) (y1 : Int32) (y2 : Nat) (mr sr : Nat) (Q : ox_Q) : ox_Q := fun r_ T_ => ox_C E (ox_mi 196).2.2.2.1 (ox_mc 196) (ox_cut 196) Q 21 [some (.inr (.inr (x0))), some (.inl (x1)), some (.inl (x2)), none] (r_.toList ++ [.inl (y1), .inr (.inr (y2))]) T_ mr sr
def c_196_32 (E : ox_E) (x0 : Nat) (x1 : Int32) (x2 : Int32) (x3 : Int32) (S : ox_St) (mr sr : Nat) (Q : ox_Q) : Prop := ox_C E (ox_mi 196).2.2.2.1 (ox_mc 196) (ox_cut 196) Q 32 [some (.inr (.inr (x0))), some (.inl (x1)), some (.inl (x2)), some (.inl (x3))] [] S mr sr
def k_196_47 (E : ox_E) (x0 : Nat) (x1 : Int32) (x2 : Int32) (x3 : Int32) (mr sr : Nat) (Q : ox_Q) : ox_Q := fun r_ T_ => ox_C E (ox_mi 196).2.2.2.1 (ox_mc 196) (ox_cut 196) Q 47 [some (.inr (.inr (x0))), some (.inl (x1)), some (.inl (x2)), some (.inl (x3))] (r_.toList ++ []) T_ mr sr
def k_196_61 (E : ox_E) (x0 : Nat) (x1 : Int32) (x2 : Int32) (x3 : Int32) (mr sr : Nat) (Q : ox_Q) : ox_Q := fun r_ T_ => ox_C E (ox_mi 196).2.2.2.1 (ox_mc 196) (ox_cut 196) Q 61 [some (.inr (.inr (x0))), some (.inl (x1)), some (.inl (x2)), some (.inl (x3))] (r_.toList ++ []) T_ mr sr
def k_196_98 (E : ox_E) (x0 : Nat) (x1 : Int32) (x2 : Int32) (x3 : Int32) (mr sr : Nat) (Q : ox_Q) : ox_Q := fun r_ T_ => ox_C E (ox_mi 196).2.2.2.1 (ox_mc 196) (ox_cut 196) Q 98 [some (.inr (.inr (x0))), some (.inl (x1)), some (.inl (x2)), some (.inl (x3))] (r_.toList ++ []) T_ mr sr
def k_196_108 (E : ox_E) (x0 : Nat) (x1 : Int32) (x2 : Int32) (x3 : Int32) (y1 : Nat) (mr sr : Nat) (Q : ox_Q) : ox_Q := fun r_ T_ => ox_C E (ox_mi 196).2.2.2.1 (ox_mc 196) (ox_cut 196) Q 108 [some (.inr (.inr (x0))), some (.inl (x1)), some (.inl (x2)), some (.inl (x3))] (r_.toList ++ [.inr (.inr (y1))]) T_ mr sr
def k_196_111 (E : ox_E) (x0 : Nat) (x1 : Int32) (x2 : Int32) (x3 : Int32) (mr sr : Nat) (Q : ox_Q) : ox_Q := fun r_ T_ => ox_C E (ox_mi 196).2.2.2.1 (ox_mc 196) (ox_cut 196) Q 111 [some (.inr (.inr (x0))), some (.inl (x1)), some (.inl (x2)), some (.inl (x3))] (r_.toList ++ []) T_ mr sr
set_option maxRecDepth 20000 in
def q_196_111 (E : ox_E) (x0 : Nat) (x1 : Int32) (x2 : Int32) (x3 : Int32) (S : ox_St) (mr sr : Nat) (Q : ox_Q) : Prop :=
  ((ox_mi 196).2.2.2.1 = none ∧ Q none S)
set_option maxRecDepth 20000 in
set_option maxHeartbeats 4000000 in
theorem f_196_111 {E : ox_E} (hE : ox_mono E) {mr sr : Nat} {x0 : Nat} {x1 : Int32} {x2 : Int32} {x3 : Int32} {S : ox_St} {Q : ox_Q} (h : q_196_111 E x0 x1 x2 x3 S mr sr Q) : k_196_111 E x0 x1 x2 x3 mr sr Q none S := ox_C_fold hE h
set_option maxRecDepth 20000 in
def q_196_108 (E : ox_E) (x0 : Nat) (x1 : Int32) (x2 : Int32) (x3 : Int32) (y0 : Int32) (y1 : Nat) (S : ox_St) (mr sr : Nat) (Q : ox_Q) : Prop :=
  (2 ≤ 2 ∧ S.K y1 = 14 ∧ 0 ≤ 8 ∧ ∃ mc1 mk2, mc1 ≤ mr ∧ mk2 ≤ sr ∧ E 174 [.inr (.inr (y1)), .inl (y0)] mc1 mk2 S (k_196_111 E x0 x1 x2 x3 (mr - mc1) (sr - mk2) Q))
set_option maxRecDepth 20000 in
set_option maxHeartbeats 4000000 in
theorem f_196_108 {E : ox_E} (hE : ox_mono E) {mr sr : Nat} {x0 : Nat} {x1 : Int32} {x2 : Int32} {x3 : Int32} {y0 : Int32} {y1 : Nat} {S : ox_St} {Q : ox_Q} (h : q_196_108 E x0 x1 x2 x3 y0 y1 S mr sr Q) : k_196_108 E x0 x1 x2 x3 y1 mr sr Q (some (.inl (y0))) S := ox_C_fold hE h
set_option maxRecDepth 20000 in
def q_196_98 (E : ox_E) (x0 : Nat) (x1 : Int32) (x2 : Int32) (x3 : Int32) (S : ox_St) (mr sr : Nat) (Q : ox_Q) : Prop :=
  k_196_111 E x0 x1 x2 x3 mr sr Q none S
set_option maxRecDepth 20000 in
set_option maxHeartbeats 4000000 in
theorem f_196_98 {E : ox_E} (hE : ox_mono E) {mr sr : Nat} {x0 : Nat} {x1 : Int32} {x2 : Int32} {x3 : Int32} {S : ox_St} {Q : ox_Q} (h : q_196_98 E x0 x1 x2 x3 S mr sr Q) : k_196_98 E x0 x1 x2 x3 mr sr Q none S := ox_C_fold hE h
set_option maxRecDepth 20000 in
def q_196_61 (E : ox_E) (x0 : Nat) (x1 : Int32) (x2 : Int32) (x3 : Int32) (y0 : Int32) (S : ox_St) (mr sr : Nat) (Q : ox_Q) : Prop :=
  c_196_32 E x0 x1 y0 (x3 + 1) S mr sr Q
set_option maxRecDepth 20000 in
set_option maxHeartbeats 4000000 in
theorem f_196_61 {E : ox_E} (hE : ox_mono E) {mr sr : Nat} {x0 : Nat} {x1 : Int32} {x2 : Int32} {x3 : Int32} {y0 : Int32} {S : ox_St} {Q : ox_Q} (h : q_196_61 E x0 x1 x2 x3 y0 S mr sr Q) : k_196_61 E x0 x1 x2 x3 mr sr Q (some (.inl (y0))) S := ox_C_fold hE h
set_option maxRecDepth 20000 in
def q_196_47 (E : ox_E) (x0 : Nat) (x1 : Int32) (x2 : Int32) (x3 : Int32) (y0 : Int32) (S : ox_St) (mr sr : Nat) (Q : ox_Q) : Prop :=
  ((y0 ≤ x2 → c_196_32 E x0 x1 x2 (x3 + 1) S mr sr Q) ∧ (¬ y0 ≤ x2 → (ox_has (S.K x0) 130 = true ∧ (ox_rdI (S.K (S.R 130 x0)) = true ∧ vp_in x3 (S.len (S.R 130 x0)) ∧ (2 ≤ 2 ∧ S.K x0 = 14 ∧ 0 ≤ 8 ∧ ∃ mc1 mk2, mc1 ≤ mr ∧ mk2 ≤ sr ∧ E 137 [.inr (.inr (x0)), .inl (S.rI (S.R 130 x0) (Int32.toNatClampNeg x3))] mc1 mk2 S (k_196_61 E x0 x1 x2 x3 (mr - mc1) (sr - mk2) Q))))))
set_option maxRecDepth 20000 in
set_option maxHeartbeats 4000000 in
theorem f_196_47 {E : ox_E} (hE : ox_mono E) {mr sr : Nat} {x0 : Nat} {x1 : Int32} {x2 : Int32} {x3 : Int32} {y0 : Int32} {S : ox_St} {Q : ox_Q} (h : q_196_47 E x0 x1 x2 x3 y0 S mr sr Q) : k_196_47 E x0 x1 x2 x3 mr sr Q (some (.inl (y0))) S := ox_C_fold hE h
set_option maxRecDepth 20000 in
def q_196_32 (E : ox_E) (x0 : Nat) (x1 : Int32) (x2 : Int32) (x3 : Int32) (S : ox_St) (mr sr : Nat) (Q : ox_Q) : Prop :=
  ((x1 ≤ x3 → (ox_has (S.K x0) 100 = true ∧ (ox_has (S.K x0) 92 = true ∧ (ox_rdI (S.K (S.R 100 x0)) = true ∧ vp_in ((S.I 92 x0) - 1) (S.len (S.R 100 x0)) ∧ (S.K (S.R 100 x0) = 15 ∧ vp_in ((S.I 92 x0) - 1) (S.len (S.R 100 x0)) ∧ (let S1 := S.wI (S.R 100 x0) (Int32.toNatClampNeg ((S.I 92 x0) - 1)) ((S.rI (S.R 100 x0) (Int32.toNatClampNeg ((S.I 92 x0) - 1))) - x1)
  ((¬ x2 = 4 → (3 ≤ 4 ∧ S1.K x0 = 14 ∧ 1 ≤ 8 ∧ ∃ mc2 mk3, mc2 ≤ mr ∧ mk3 ≤ sr ∧ E 157 [.inr (.inr (x0)), .inl (x1), .inl (0)] mc2 mk3 S1 (k_196_108 E x0 x1 x2 x3 x0 (mr - mc2) (sr - mk3) Q))) ∧ (x2 = 4 → (2 ≤ 2 ∧ S1.K x0 = 14 ∧ 0 ≤ 8 ∧ ∃ mc4 mk5, mc4 ≤ mr ∧ mk5 ≤ sr ∧ E 177 [.inr (.inr (x0)), .inl (6)] mc4 mk5 S1 (k_196_98 E x0 x1 x2 x3 (mr - mc4) (sr - mk5) Q)))))))))) ∧ (¬ x1 ≤ x3 → (ox_has (S.K x0) 130 = true ∧ (ox_rdI (S.K (S.R 130 x0)) = true ∧ vp_in x3 (S.len (S.R 130 x0)) ∧ (2 ≤ 2 ∧ S.K x0 = 14 ∧ 0 ≤ 8 ∧ ∃ mc6 mk7, mc6 ≤ mr ∧ mk7 ≤ sr ∧ E 137 [.inr (.inr (x0)), .inl (S.rI (S.R 130 x0) (Int32.toNatClampNeg x3))] mc6 mk7 S (k_196_47 E x0 x1 x2 x3 (mr - mc6) (sr - mk7) Q))))))
set_option maxRecDepth 20000 in
set_option maxHeartbeats 4000000 in
theorem f_196_32 {E : ox_E} (hE : ox_mono E) {mr sr : Nat} {x0 : Nat} {x1 : Int32} {x2 : Int32} {x3 : Int32} {S : ox_St} {Q : ox_Q} (h : q_196_32 E x0 x1 x2 x3 S mr sr Q) : c_196_32 E x0 x1 x2 x3 S mr sr Q := ox_C_fold hE h
set_option maxRecDepth 20000 in
def q_196_21 (E : ox_E) (x0 : Nat) (x1 : Int32) (x2 : Int32) (y0 : Int32) (y1 : Int32) (y2 : Nat) (S : ox_St) (mr sr : Nat) (Q : ox_Q) : Prop :=
  (S.K y2 = 15 ∧ vp_in y1 (S.len y2) ∧ (let S1 := S.wI y2 (Int32.toNatClampNeg y1) y0
  c_196_2 E x0 x1 (x2 + 1) S1 mr sr Q))
set_option maxRecDepth 20000 in
set_option maxHeartbeats 4000000 in
theorem f_196_21 {E : ox_E} (hE : ox_mono E) {mr sr : Nat} {x0 : Nat} {x1 : Int32} {x2 : Int32} {y0 : Int32} {y1 : Int32} {y2 : Nat} {S : ox_St} {Q : ox_Q} (h : q_196_21 E x0 x1 x2 y0 y1 y2 S mr sr Q) : k_196_21 E x0 x1 x2 y1 y2 mr sr Q (some (.inl (y0))) S := ox_C_fold hE h
set_option maxRecDepth 20000 in
def q_196_2 (E : ox_E) (x0 : Nat) (x1 : Int32) (x2 : Int32) (S : ox_St) (mr sr : Nat) (Q : ox_Q) : Prop :=
  ((x1 ≤ x2 → c_196_32 E x0 x1 0 0 S mr sr Q) ∧ (¬ x1 ≤ x2 → (ox_has (S.K x0) 130 = true ∧ (2 ≤ 4 ∧ S.K x0 = 14 ∧ 2 ≤ 8 ∧ ∃ mc1 mk2, mc1 ≤ mr ∧ mk2 ≤ sr ∧ E 176 [.inr (.inr (x0)), .inl ((x1 - 1) - x2)] mc1 mk2 S (k_196_21 E x0 x1 x2 x2 (S.R 130 x0) (mr - mc1) (sr - mk2) Q)))))
set_option maxRecDepth 20000 in
set_option maxHeartbeats 4000000 in
theorem f_196_2 {E : ox_E} (hE : ox_mono E) {mr sr : Nat} {x0 : Nat} {x1 : Int32} {x2 : Int32} {S : ox_St} {Q : ox_Q} (h : q_196_2 E x0 x1 x2 S mr sr Q) : c_196_2 E x0 x1 x2 S mr sr Q := ox_C_fold hE h
set_option maxRecDepth 20000 in
def q_196 (E : ox_E) (x0 : Nat) (x1 : Int32) (S : ox_St) (mr sr : Nat) (Q : ox_Q) : Prop :=
  c_196_2 E x0 x1 0 S mr sr Q
set_option maxRecDepth 20000 in
set_option maxHeartbeats 4000000 in
theorem f_196 {sp : ox_E} (hsp : ox_mono sp) {d : Nat} {mr sr : Nat} {x0 : Nat} {x1 : Int32} {S : ox_St} {Q : ox_Q} (h : q_196 (ox_M sp d) x0 x1 S mr sr Q) : ox_M sp (d + 1) 196 [.inr (.inr (x0)), .inl (x1)] mr sr S Q := Or.inr ⟨Nat.le_of_ble_eq_true rfl, ox_C_fold (ox_M_mono hsp d) h⟩
/-! OpcodeFramesModel.spread(I)V -/
def k_197_4 (E : ox_E) (x0 : Nat) (x1 : Int32) (mr sr : Nat) (Q : ox_Q) : ox_Q := fun r_ T_ => ox_C E (ox_mi 197).2.2.2.1 (ox_mc 197) (ox_cut 197) Q 4 [some (.inr (.inr (x0))), some (.inl (x1)), none, none] (r_.toList ++ []) T_ mr sr
def k_197_10 (E : ox_E) (x0 : Nat) (x1 : Int32) (x2 : Int32) (mr sr : Nat) (Q : ox_Q) : ox_Q := fun r_ T_ => ox_C E (ox_mi 197).2.2.2.1 (ox_mc 197) (ox_cut 197) Q 10 [some (.inr (.inr (x0))), some (.inl (x1)), some (.inl (x2)), none] (r_.toList ++ []) T_ mr sr
def k_197_18 (E : ox_E) (x0 : Nat) (x1 : Int32) (x2 : Int32) (mr sr : Nat) (Q : ox_Q) : ox_Q := fun r_ T_ => ox_C E (ox_mi 197).2.2.2.1 (ox_mc 197) (ox_cut 197) Q 18 [some (.inr (.inr (x0))), some (.inl (x1)), some (.inl (x2)), none] (r_.toList ++ []) T_ mr sr
def k_197_38 (E : ox_E) (x0 : Nat) (x1 : Int32) (x2 : Int32) (mr sr : Nat) (Q : ox_Q) : ox_Q := fun r_ T_ => ox_C E (ox_mi 197).2.2.2.1 (ox_mc 197) (ox_cut 197) Q 38 [some (.inr (.inr (x0))), some (.inl (x1)), some (.inl (x2)), none] (r_.toList ++ []) T_ mr sr
def c_197_45 (E : ox_E) (x0 : Nat) (x1 : Int32) (x2 : Int32) (x3 : Int32) (S : ox_St) (mr sr : Nat) (Q : ox_Q) : Prop := ox_C E (ox_mi 197).2.2.2.1 (ox_mc 197) (ox_cut 197) Q 45 [some (.inr (.inr (x0))), some (.inl (x1)), some (.inl (x2)), some (.inl (x3))] [] S mr sr
def k_197_63 (E : ox_E) (x0 : Nat) (x1 : Int32) (x2 : Int32) (x3 : Int32) (mr sr : Nat) (Q : ox_Q) : ox_Q := fun r_ T_ => ox_C E (ox_mi 197).2.2.2.1 (ox_mc 197) (ox_cut 197) Q 63 [some (.inr (.inr (x0))), some (.inl (x1)), some (.inl (x2)), some (.inl (x3))] (r_.toList ++ []) T_ mr sr
set_option maxRecDepth 20000 in
def q_197_63 (E : ox_E) (x0 : Nat) (x1 : Int32) (x2 : Int32) (x3 : Int32) (S : ox_St) (mr sr : Nat) (Q : ox_Q) : Prop :=
  c_197_45 E x0 x1 x2 (x3 + (-1)) S mr sr Q
set_option maxRecDepth 20000 in
set_option maxHeartbeats 4000000 in
theorem f_197_63 {E : ox_E} (hE : ox_mono E) {mr sr : Nat} {x0 : Nat} {x1 : Int32} {x2 : Int32} {x3 : Int32} {S : ox_St} {Q : ox_Q} (h : q_197_63 E x0 x1 x2 x3 S mr sr Q) : k_197_63 E x0 x1 x2 x3 mr sr Q none S := ox_C_fold hE h
set_option maxRecDepth 20000 in
def q_197_45 (E : ox_E) (x0 : Nat) (x1 : Int32) (x2 : Int32) (x3 : Int32) (S : ox_St) (mr sr : Nat) (Q : ox_Q) : Prop :=
  ((x3 < 0 → ((ox_mi 197).2.2.2.1 = none ∧ Q none S)) ∧ (¬ x3 < 0 → (ox_has (S.K x0) 73 = true ∧ (ox_rdI (S.K (S.R 73 x0)) = true ∧ vp_in ((x2 + 3) + x3) (S.len (S.R 73 x0)) ∧ (2 ≤ 2 ∧ S.K x0 = 14 ∧ 0 ≤ 8 ∧ ∃ mc1 mk2, mc1 ≤ mr ∧ mk2 ≤ sr ∧ E 174 [.inr (.inr (x0)), .inl (S.rI (S.R 73 x0) (Int32.toNatClampNeg ((x2 + 3) + x3)))] mc1 mk2 S (k_197_63 E x0 x1 x2 x3 (mr - mc1) (sr - mk2) Q))))))
set_option maxRecDepth 20000 in
set_option maxHeartbeats 4000000 in
theorem f_197_45 {E : ox_E} (hE : ox_mono E) {mr sr : Nat} {x0 : Nat} {x1 : Int32} {x2 : Int32} {x3 : Int32} {S : ox_St} {Q : ox_Q} (h : q_197_45 E x0 x1 x2 x3 S mr sr Q) : c_197_45 E x0 x1 x2 x3 S mr sr Q := ox_C_fold hE h
set_option maxRecDepth 20000 in
def q_197_38 (E : ox_E) (x0 : Nat) (x1 : Int32) (x2 : Int32) (S : ox_St) (mr sr : Nat) (Q : ox_Q) : Prop :=
  ((ox_mi 197).2.2.2.1 = none ∧ Q none S)
set_option maxRecDepth 20000 in
set_option maxHeartbeats 4000000 in
theorem f_197_38 {E : ox_E} (hE : ox_mono E) {mr sr : Nat} {x0 : Nat} {x1 : Int32} {x2 : Int32} {S : ox_St} {Q : ox_Q} (h : q_197_38 E x0 x1 x2 S mr sr Q) : k_197_38 E x0 x1 x2 mr sr Q none S := ox_C_fold hE h
set_option maxRecDepth 20000 in
def q_197_18 (E : ox_E) (x0 : Nat) (x1 : Int32) (x2 : Int32) (S : ox_St) (mr sr : Nat) (Q : ox_Q) : Prop :=
  ((ox_mi 197).2.2.2.1 = none ∧ Q none S)
set_option maxRecDepth 20000 in
set_option maxHeartbeats 4000000 in
theorem f_197_18 {E : ox_E} (hE : ox_mono E) {mr sr : Nat} {x0 : Nat} {x1 : Int32} {x2 : Int32} {S : ox_St} {Q : ox_Q} (h : q_197_18 E x0 x1 x2 S mr sr Q) : k_197_18 E x0 x1 x2 mr sr Q none S := ox_C_fold hE h
set_option maxRecDepth 20000 in
def q_197_10 (E : ox_E) (x0 : Nat) (x1 : Int32) (x2 : Int32) (y0 : Int32) (S : ox_St) (mr sr : Nat) (Q : ox_Q) : Prop :=
  ((¬ y0 = 0 → (ox_has (S.K x0) 73 = true ∧ (ox_rdI (S.K (S.R 73 x0)) = true ∧ vp_in (x2 + 2) (S.len (S.R 73 x0)) ∧ (((S.rI (S.R 73 x0) (Int32.toNatClampNeg (x2 + 2))) = x1 → (let w1 : Int32 := x1 - 1
  c_197_45 E x0 x1 x2 w1 S mr sr Q)) ∧ (¬ (S.rI (S.R 73 x0) (Int32.toNatClampNeg (x2 + 2))) = x1 → (2 ≤ 2 ∧ S.K x0 = 14 ∧ 0 ≤ 8 ∧ ∃ mc2 mk3, mc2 ≤ mr ∧ mk3 ≤ sr ∧ E 177 [.inr (.inr (x0)), .inl (3)] mc2 mk3 S (k_197_38 E x0 x1 x2 (mr - mc2) (sr - mk3) Q))))))) ∧ (y0 = 0 → (2 ≤ 2 ∧ S.K x0 = 14 ∧ 0 ≤ 8 ∧ ∃ mc4 mk5, mc4 ≤ mr ∧ mk5 ≤ sr ∧ E 177 [.inr (.inr (x0)), .inl (0)] mc4 mk5 S (k_197_18 E x0 x1 x2 (mr - mc4) (sr - mk5) Q))))
set_option maxRecDepth 20000 in
set_option maxHeartbeats 4000000 in
theorem f_197_10 {E : ox_E} (hE : ox_mono E) {mr sr : Nat} {x0 : Nat} {x1 : Int32} {x2 : Int32} {y0 : Int32} {S : ox_St} {Q : ox_Q} (h : q_197_10 E x0 x1 x2 y0 S mr sr Q) : k_197_10 E x0 x1 x2 mr sr Q (some (.inl (y0))) S := ox_C_fold hE h
set_option maxRecDepth 20000 in
def q_197_4 (E : ox_E) (x0 : Nat) (x1 : Int32) (y0 : Int32) (S : ox_St) (mr sr : Nat) (Q : ox_Q) : Prop :=
  (2 ≤ 2 ∧ S.K x0 = 14 ∧ 0 ≤ 8 ∧ ∃ mc1 mk2, mc1 ≤ mr ∧ mk2 ≤ sr ∧ E 134 [.inr (.inr (x0)), .inl (y0)] mc1 mk2 S (k_197_10 E x0 x1 y0 (mr - mc1) (sr - mk2) Q))
set_option maxRecDepth 20000 in
set_option maxHeartbeats 4000000 in
theorem f_197_4 {E : ox_E} (hE : ox_mono E) {mr sr : Nat} {x0 : Nat} {x1 : Int32} {y0 : Int32} {S : ox_St} {Q : ox_Q} (h : q_197_4 E x0 x1 y0 S mr sr Q) : k_197_4 E x0 x1 mr sr Q (some (.inl (y0))) S := ox_C_fold hE h
set_option maxRecDepth 20000 in
def q_197 (E : ox_E) (x0 : Nat) (x1 : Int32) (S : ox_St) (mr sr : Nat) (Q : ox_Q) : Prop :=
  (1 ≤ 1 ∧ S.K x0 = 14 ∧ 0 ≤ 8 ∧ ∃ mc1 mk2, mc1 ≤ mr ∧ mk2 ≤ sr ∧ E 175 [.inr (.inr (x0))] mc1 mk2 S (k_197_4 E x0 x1 (mr - mc1) (sr - mk2) Q))
set_option maxRecDepth 20000 in
set_option maxHeartbeats 4000000 in
theorem f_197 {sp : ox_E} (hsp : ox_mono sp) {d : Nat} {mr sr : Nat} {x0 : Nat} {x1 : Int32} {S : ox_St} {Q : ox_Q} (h : q_197 (ox_M sp d) x0 x1 S mr sr Q) : ox_M sp (d + 1) 197 [.inr (.inr (x0)), .inl (x1)] mr sr S Q := Or.inr ⟨Nat.le_of_ble_eq_true rfl, ox_C_fold (ox_M_mono hsp d) h⟩
/-! OpcodeFramesModel.walkOver()V -/
def k_198_4 (E : ox_E) (x0 : Nat) (mr sr : Nat) (Q : ox_Q) : ox_Q := fun r_ T_ => ox_C E (ox_mi 198).2.2.2.1 (ox_mc 198) (ox_cut 198) Q 4 [some (.inr (.inr (x0))), none, none] (r_.toList ++ []) T_ mr sr
def k_198_10 (E : ox_E) (x0 : Nat) (x1 : Int32) (mr sr : Nat) (Q : ox_Q) : ox_Q := fun r_ T_ => ox_C E (ox_mi 198).2.2.2.1 (ox_mc 198) (ox_cut 198) Q 10 [some (.inr (.inr (x0))), some (.inl (x1)), none] (r_.toList ++ []) T_ mr sr
def k_198_22 (E : ox_E) (x0 : Nat) (x1 : Int32) (x2 : Int32) (mr sr : Nat) (Q : ox_Q) : ox_Q := fun r_ T_ => ox_C E (ox_mi 198).2.2.2.1 (ox_mc 198) (ox_cut 198) Q 22 [some (.inr (.inr (x0))), some (.inl (x1)), some (.inl (x2))] (r_.toList ++ []) T_ mr sr
def k_198_44 (E : ox_E) (x0 : Nat) (x1 : Int32) (x2 : Int32) (y1 : Nat) (mr sr : Nat) (Q : ox_Q) : ox_Q := fun r_ T_ => ox_C E (ox_mi 198).2.2.2.1 (ox_mc 198) (ox_cut 198) Q 44 [some (.inr (.inr (x0))), some (.inl (x1)), some (.inl (x2))] (r_.toList ++ [.inr (.inr (y1))]) T_ mr sr
def k_198_47 (E : ox_E) (x0 : Nat) (x1 : Int32) (x2 : Int32) (mr sr : Nat) (Q : ox_Q) : ox_Q := fun r_ T_ => ox_C E (ox_mi 198).2.2.2.1 (ox_mc 198) (ox_cut 198) Q 47 [some (.inr (.inr (x0))), some (.inl (x1)), some (.inl (x2))] (r_.toList ++ []) T_ mr sr
def k_198_55 (E : ox_E) (x0 : Nat) (x1 : Int32) (x2 : Int32) (mr sr : Nat) (Q : ox_Q) : ox_Q := fun r_ T_ => ox_C E (ox_mi 198).2.2.2.1 (ox_mc 198) (ox_cut 198) Q 55 [some (.inr (.inr (x0))), some (.inl (x1)), some (.inl (x2))] (r_.toList ++ []) T_ mr sr
set_option maxRecDepth 20000 in
def q_198_55 (E : ox_E) (x0 : Nat) (x1 : Int32) (x2 : Int32) (S : ox_St) (mr sr : Nat) (Q : ox_Q) : Prop :=
  ((ox_mi 198).2.2.2.1 = none ∧ Q none S)
set_option maxRecDepth 20000 in
set_option maxHeartbeats 4000000 in
theorem f_198_55 {E : ox_E} (hE : ox_mono E) {mr sr : Nat} {x0 : Nat} {x1 : Int32} {x2 : Int32} {S : ox_St} {Q : ox_Q} (h : q_198_55 E x0 x1 x2 S mr sr Q) : k_198_55 E x0 x1 x2 mr sr Q none S := ox_C_fold hE h
set_option maxRecDepth 20000 in
def q_198_47 (E : ox_E) (x0 : Nat) (x1 : Int32) (x2 : Int32) (S : ox_St) (mr sr : Nat) (Q : ox_Q) : Prop :=
  k_198_55 E x0 x1 x2 mr sr Q none S
set_option maxRecDepth 20000 in
set_option maxHeartbeats 4000000 in
theorem f_198_47 {E : ox_E} (hE : ox_mono E) {mr sr : Nat} {x0 : Nat} {x1 : Int32} {x2 : Int32} {S : ox_St} {Q : ox_Q} (h : q_198_47 E x0 x1 x2 S mr sr Q) : k_198_47 E x0 x1 x2 mr sr Q none S := ox_C_fold hE h
set_option maxRecDepth 20000 in
def q_198_44 (E : ox_E) (x0 : Nat) (x1 : Int32) (x2 : Int32) (y0 : Int32) (y1 : Nat) (S : ox_St) (mr sr : Nat) (Q : ox_Q) : Prop :=
  (2 ≤ 2 ∧ S.K y1 = 14 ∧ 0 ≤ 8 ∧ ∃ mc1 mk2, mc1 ≤ mr ∧ mk2 ≤ sr ∧ E 174 [.inr (.inr (y1)), .inl (y0)] mc1 mk2 S (k_198_47 E x0 x1 x2 (mr - mc1) (sr - mk2) Q))
set_option maxRecDepth 20000 in
set_option maxHeartbeats 4000000 in
theorem f_198_44 {E : ox_E} (hE : ox_mono E) {mr sr : Nat} {x0 : Nat} {x1 : Int32} {x2 : Int32} {y0 : Int32} {y1 : Nat} {S : ox_St} {Q : ox_Q} (h : q_198_44 E x0 x1 x2 y0 y1 S mr sr Q) : k_198_44 E x0 x1 x2 y1 mr sr Q (some (.inl (y0))) S := ox_C_fold hE h
set_option maxRecDepth 20000 in
def q_198_22 (E : ox_E) (x0 : Nat) (x1 : Int32) (x2 : Int32) (S : ox_St) (mr sr : Nat) (Q : ox_Q) : Prop :=
  k_198_55 E x0 x1 x2 mr sr Q none S
set_option maxRecDepth 20000 in
set_option maxHeartbeats 4000000 in
theorem f_198_22 {E : ox_E} (hE : ox_mono E) {mr sr : Nat} {x0 : Nat} {x1 : Int32} {x2 : Int32} {S : ox_St} {Q : ox_Q} (h : q_198_22 E x0 x1 x2 S mr sr Q) : k_198_22 E x0 x1 x2 mr sr Q none S := ox_C_fold hE h
set_option maxRecDepth 20000 in
def q_198_10 (E : ox_E) (x0 : Nat) (x1 : Int32) (y0 : Int32) (S : ox_St) (mr sr : Nat) (Q : ox_Q) : Prop :=
  ((¬ y0 = 6 → ((y0 = 4 → (4 ≤ 5 ∧ S.K x0 = 14 ∧ 1 ≤ 8 ∧ ∃ mc1 mk2, mc1 ≤ mr ∧ mk2 ≤ sr ∧ E 132 [.inr (.inr (x0)), .inl (6), .inl (x1), .inl (0)] mc1 mk2 S (k_198_44 E x0 x1 y0 x0 (mr - mc1) (sr - mk2) Q))) ∧ (¬ y0 = 4 → ((¬ y0 = 5 → (2 ≤ 2 ∧ S.K x0 = 14 ∧ 0 ≤ 8 ∧ ∃ mc3 mk4, mc3 ≤ mr ∧ mk4 ≤ sr ∧ E 177 [.inr (.inr (x0)), .inl (0)] mc3 mk4 S (k_198_55 E x0 x1 y0 (mr - mc3) (sr - mk4) Q))) ∧ (y0 = 5 → (4 ≤ 5 ∧ S.K x0 = 14 ∧ 1 ≤ 8 ∧ ∃ mc5 mk6, mc5 ≤ mr ∧ mk6 ≤ sr ∧ E 132 [.inr (.inr (x0)), .inl (6), .inl (x1), .inl (0)] mc5 mk6 S (k_198_44 E x0 x1 y0 x0 (mr - mc5) (sr - mk6) Q))))))) ∧ (y0 = 6 → (2 ≤ 2 ∧ S.K x0 = 14 ∧ 0 ≤ 8 ∧ ∃ mc7 mk8, mc7 ≤ mr ∧ mk8 ≤ sr ∧ E 174 [.inr (.inr (x0)), .inl (x1)] mc7 mk8 S (k_198_22 E x0 x1 y0 (mr - mc7) (sr - mk8) Q))))
set_option maxRecDepth 20000 in
set_option maxHeartbeats 4000000 in
theorem f_198_10 {E : ox_E} (hE : ox_mono E) {mr sr : Nat} {x0 : Nat} {x1 : Int32} {y0 : Int32} {S : ox_St} {Q : ox_Q} (h : q_198_10 E x0 x1 y0 S mr sr Q) : k_198_10 E x0 x1 mr sr Q (some (.inl (y0))) S := ox_C_fold hE h
set_option maxRecDepth 20000 in
def q_198_4 (E : ox_E) (x0 : Nat) (y0 : Int32) (S : ox_St) (mr sr : Nat) (Q : ox_Q) : Prop :=
  (2 ≤ 2 ∧ S.K x0 = 14 ∧ 0 ≤ 8 ∧ ∃ mc1 mk2, mc1 ≤ mr ∧ mk2 ≤ sr ∧ E 133 [.inr (.inr (x0)), .inl (y0)] mc1 mk2 S (k_198_10 E x0 y0 (mr - mc1) (sr - mk2) Q))
set_option maxRecDepth 20000 in
set_option maxHeartbeats 4000000 in
theorem f_198_4 {E : ox_E} (hE : ox_mono E) {mr sr : Nat} {x0 : Nat} {y0 : Int32} {S : ox_St} {Q : ox_Q} (h : q_198_4 E x0 y0 S mr sr Q) : k_198_4 E x0 mr sr Q (some (.inl (y0))) S := ox_C_fold hE h
set_option maxRecDepth 20000 in
def q_198 (E : ox_E) (x0 : Nat) (S : ox_St) (mr sr : Nat) (Q : ox_Q) : Prop :=
  (1 ≤ 1 ∧ S.K x0 = 14 ∧ 0 ≤ 8 ∧ ∃ mc1 mk2, mc1 ≤ mr ∧ mk2 ≤ sr ∧ E 175 [.inr (.inr (x0))] mc1 mk2 S (k_198_4 E x0 (mr - mc1) (sr - mk2) Q))
set_option maxRecDepth 20000 in
set_option maxHeartbeats 4000000 in
theorem f_198 {sp : ox_E} (hsp : ox_mono sp) {d : Nat} {mr sr : Nat} {x0 : Nat} {S : ox_St} {Q : ox_Q} (h : q_198 (ox_M sp d) x0 S mr sr Q) : ox_M sp (d + 1) 198 [.inr (.inr (x0))] mr sr S Q := Or.inr ⟨Nat.le_of_ble_eq_true rfl, ox_C_fold (ox_M_mono hsp d) h⟩
/-! OpcodeFramesModel.makeFunction()V -/
def k_199_4 (E : ox_E) (x0 : Nat) (mr sr : Nat) (Q : ox_Q) : ox_Q := fun r_ T_ => ox_C E (ox_mi 199).2.2.2.1 (ox_mc 199) (ox_cut 199) Q 4 [some (.inr (.inr (x0))), none] (r_.toList ++ []) T_ mr sr
def k_199_14 (E : ox_E) (x0 : Nat) (x1 : Int32) (mr sr : Nat) (Q : ox_Q) : ox_Q := fun r_ T_ => ox_C E (ox_mi 199).2.2.2.1 (ox_mc 199) (ox_cut 199) Q 14 [some (.inr (.inr (x0))), some (.inl (x1))] (r_.toList ++ []) T_ mr sr
def k_199_26 (E : ox_E) (x0 : Nat) (x1 : Int32) (y1 : Nat) (mr sr : Nat) (Q : ox_Q) : ox_Q := fun r_ T_ => ox_C E (ox_mi 199).2.2.2.1 (ox_mc 199) (ox_cut 199) Q 26 [some (.inr (.inr (x0))), some (.inl (x1))] (r_.toList ++ [.inr (.inr (y1))]) T_ mr sr
def k_199_29 (E : ox_E) (x0 : Nat) (x1 : Int32) (mr sr : Nat) (Q : ox_Q) : ox_Q := fun r_ T_ => ox_C E (ox_mi 199).2.2.2.1 (ox_mc 199) (ox_cut 199) Q 29 [some (.inr (.inr (x0))), some (.inl (x1))] (r_.toList ++ []) T_ mr sr
set_option maxRecDepth 20000 in
def q_199_29 (E : ox_E) (x0 : Nat) (x1 : Int32) (S : ox_St) (mr sr : Nat) (Q : ox_Q) : Prop :=
  (ox_has (S.K x0) 75 = true ∧ (ox_has (S.K x0) 75 = true ∧ (let S1 := S.sI 75 x0 ((S.I 75 x0) - 1)
  ((ox_mi 199).2.2.2.1 = none ∧ Q none S1))))
set_option maxRecDepth 20000 in
set_option maxHeartbeats 4000000 in
theorem f_199_29 {E : ox_E} (hE : ox_mono E) {mr sr : Nat} {x0 : Nat} {x1 : Int32} {S : ox_St} {Q : ox_Q} (h : q_199_29 E x0 x1 S mr sr Q) : k_199_29 E x0 x1 mr sr Q none S := ox_C_fold hE h
set_option maxRecDepth 20000 in
def q_199_26 (E : ox_E) (x0 : Nat) (x1 : Int32) (y0 : Int32) (y1 : Nat) (S : ox_St) (mr sr : Nat) (Q : ox_Q) : Prop :=
  (2 ≤ 2 ∧ S.K y1 = 14 ∧ 0 ≤ 8 ∧ ∃ mc1 mk2, mc1 ≤ mr ∧ mk2 ≤ sr ∧ E 174 [.inr (.inr (y1)), .inl (y0)] mc1 mk2 S (k_199_29 E x0 x1 (mr - mc1) (sr - mk2) Q))
set_option maxRecDepth 20000 in
set_option maxHeartbeats 4000000 in
theorem f_199_26 {E : ox_E} (hE : ox_mono E) {mr sr : Nat} {x0 : Nat} {x1 : Int32} {y0 : Int32} {y1 : Nat} {S : ox_St} {Q : ox_Q} (h : q_199_26 E x0 x1 y0 y1 S mr sr Q) : k_199_26 E x0 x1 y1 mr sr Q (some (.inl (y0))) S := ox_C_fold hE h
set_option maxRecDepth 20000 in
def q_199_14 (E : ox_E) (x0 : Nat) (x1 : Int32) (S : ox_St) (mr sr : Nat) (Q : ox_Q) : Prop :=
  ((ox_mi 199).2.2.2.1 = none ∧ Q none S)
set_option maxRecDepth 20000 in
set_option maxHeartbeats 4000000 in
theorem f_199_14 {E : ox_E} (hE : ox_mono E) {mr sr : Nat} {x0 : Nat} {x1 : Int32} {S : ox_St} {Q : ox_Q} (h : q_199_14 E x0 x1 S mr sr Q) : k_199_14 E x0 x1 mr sr Q none S := ox_C_fold hE h
set_option maxRecDepth 20000 in
def q_199_4 (E : ox_E) (x0 : Nat) (y0 : Int32) (S : ox_St) (mr sr : Nat) (Q : ox_Q) : Prop :=
  ((y0 < 0 → (4 ≤ 5 ∧ S.K x0 = 14 ∧ 1 ≤ 8 ∧ ∃ mc1 mk2, mc1 ≤ mr ∧ mk2 ≤ sr ∧ E 132 [.inr (.inr (x0)), .inl (7), .inl ((-1) - y0), .inl (0)] mc1 mk2 S (k_199_26 E x0 y0 x0 (mr - mc1) (sr - mk2) Q))) ∧ (¬ y0 < 0 → (2 ≤ 2 ∧ S.K x0 = 14 ∧ 0 ≤ 8 ∧ ∃ mc3 mk4, mc3 ≤ mr ∧ mk4 ≤ sr ∧ E 177 [.inr (.inr (x0)), .inl (0)] mc3 mk4 S (k_199_14 E x0 y0 (mr - mc3) (sr - mk4) Q))))
set_option maxRecDepth 20000 in
set_option maxHeartbeats 4000000 in
theorem f_199_4 {E : ox_E} (hE : ox_mono E) {mr sr : Nat} {x0 : Nat} {y0 : Int32} {S : ox_St} {Q : ox_Q} (h : q_199_4 E x0 y0 S mr sr Q) : k_199_4 E x0 mr sr Q (some (.inl (y0))) S := ox_C_fold hE h
set_option maxRecDepth 20000 in
def q_199 (E : ox_E) (x0 : Nat) (S : ox_St) (mr sr : Nat) (Q : ox_Q) : Prop :=
  (1 ≤ 1 ∧ S.K x0 = 14 ∧ 0 ≤ 8 ∧ ∃ mc1 mk2, mc1 ≤ mr ∧ mk2 ≤ sr ∧ E 175 [.inr (.inr (x0))] mc1 mk2 S (k_199_4 E x0 (mr - mc1) (sr - mk2) Q))
set_option maxRecDepth 20000 in
set_option maxHeartbeats 4000000 in
theorem f_199 {sp : ox_E} (hsp : ox_mono sp) {d : Nat} {mr sr : Nat} {x0 : Nat} {S : ox_St} {Q : ox_Q} (h : q_199 (ox_M sp d) x0 S mr sr Q) : ox_M sp (d + 1) 199 [.inr (.inr (x0))] mr sr S Q := Or.inr ⟨Nat.le_of_ble_eq_true rfl, ox_C_fold (ox_M_mono hsp d) h⟩
