/-! OpcodeFramesModel.readObject(Z)V -/
def c_160_31 (E : ox_E) (x0 : Nat) (x1 : Int32) (y0 : Int32) (y1 : Nat) (S : ox_St) (mr sr : Nat) (Q : ox_Q) : Prop := ox_C E (ox_mi 160).2.2.2.1 (ox_mc 160) (ox_cut 160) Q 31 [some (.inr (.inr (x0))), some (.inl (x1)), none, none] [.inl (y0), .inr (.inr (y1))] S mr sr
def k_160_34 (E : ox_E) (x0 : Nat) (x1 : Int32) (mr sr : Nat) (Q : ox_Q) : ox_Q := fun r_ T_ => ox_C E (ox_mi 160).2.2.2.1 (ox_mc 160) (ox_cut 160) Q 34 [some (.inr (.inr (x0))), some (.inl (x1)), none, none] (r_.toList ++ []) T_ mr sr
def k_160_46 (E : ox_E) (x0 : Nat) (x1 : Int32) (mr sr : Nat) (Q : ox_Q) : ox_Q := fun r_ T_ => ox_C E (ox_mi 160).2.2.2.1 (ox_mc 160) (ox_cut 160) Q 46 [some (.inr (.inr (x0))), some (.inl (x1)), none, none] (r_.toList ++ []) T_ mr sr
def k_160_57 (E : ox_E) (x0 : Nat) (x1 : Int32) (mr sr : Nat) (Q : ox_Q) : ox_Q := fun r_ T_ => ox_C E (ox_mi 160).2.2.2.1 (ox_mc 160) (ox_cut 160) Q 57 [some (.inr (.inr (x0))), some (.inl (x1)), none, none] (r_.toList ++ []) T_ mr sr
def k_160_137 (E : ox_E) (x0 : Nat) (x1 : Int32) (x2 : Int32) (mr sr : Nat) (Q : ox_Q) : ox_Q := fun r_ T_ => ox_C E (ox_mi 160).2.2.2.1 (ox_mc 160) (ox_cut 160) Q 137 [some (.inr (.inr (x0))), some (.inl (x1)), some (.inl (x2)), none] (r_.toList ++ []) T_ mr sr
def k_160_145 (E : ox_E) (x0 : Nat) (x1 : Int32) (x2 : Int32) (mr sr : Nat) (Q : ox_Q) : ox_Q := fun r_ T_ => ox_C E (ox_mi 160).2.2.2.1 (ox_mc 160) (ox_cut 160) Q 145 [some (.inr (.inr (x0))), some (.inl (x1)), some (.inl (x2)), none] (r_.toList ++ []) T_ mr sr
def k_160_153 (E : ox_E) (x0 : Nat) (x1 : Int32) (x2 : Int32) (mr sr : Nat) (Q : ox_Q) : ox_Q := fun r_ T_ => ox_C E (ox_mi 160).2.2.2.1 (ox_mc 160) (ox_cut 160) Q 153 [some (.inr (.inr (x0))), some (.inl (x1)), some (.inl (x2)), none] (r_.toList ++ []) T_ mr sr
def k_160_161 (E : ox_E) (x0 : Nat) (x1 : Int32) (x2 : Int32) (y1 : Nat) (mr sr : Nat) (Q : ox_Q) : ox_Q := fun r_ T_ => ox_C E (ox_mi 160).2.2.2.1 (ox_mc 160) (ox_cut 160) Q 161 [some (.inr (.inr (x0))), some (.inl (x1)), some (.inl (x2)), none] (r_.toList ++ [.inr (.inr (y1))]) T_ mr sr
def k_160_164 (E : ox_E) (x0 : Nat) (x1 : Int32) (x2 : Int32) (mr sr : Nat) (Q : ox_Q) : ox_Q := fun r_ T_ => ox_C E (ox_mi 160).2.2.2.1 (ox_mc 160) (ox_cut 160) Q 164 [some (.inr (.inr (x0))), some (.inl (x1)), some (.inl (x2)), none] (r_.toList ++ []) T_ mr sr
def k_160_172 (E : ox_E) (x0 : Nat) (x1 : Int32) (x2 : Int32) (y1 : Nat) (mr sr : Nat) (Q : ox_Q) : ox_Q := fun r_ T_ => ox_C E (ox_mi 160).2.2.2.1 (ox_mc 160) (ox_cut 160) Q 172 [some (.inr (.inr (x0))), some (.inl (x1)), some (.inl (x2)), none] (r_.toList ++ [.inr (.inr (y1))]) T_ mr sr
def k_160_175 (E : ox_E) (x0 : Nat) (x1 : Int32) (x2 : Int32) (mr sr : Nat) (Q : ox_Q) : ox_Q := fun r_ T_ => ox_C E (ox_mi 160).2.2.2.1 (ox_mc 160) (ox_cut 160) Q 175 [some (.inr (.inr (x0))), some (.inl (x1)), some (.inl (x2)), none] (r_.toList ++ []) T_ mr sr
def k_160_187 (E : ox_E) (x0 : Nat) (x1 : Int32) (x2 : Int32) (y1 : Int32) (y2 : Nat) (mr sr : Nat) (Q : ox_Q) : ox_Q := fun r_ T_ => ox_C E (ox_mi 160).2.2.2.1 (ox_mc 160) (ox_cut 160) Q 187 [some (.inr (.inr (x0))), some (.inl (x1)), some (.inl (x2)), none] (r_.toList ++ [.inl (y1), .inr (.inr (y2))]) T_ mr sr
def k_160_191 (E : ox_E) (x0 : Nat) (x1 : Int32) (x2 : Int32) (mr sr : Nat) (Q : ox_Q) : ox_Q := fun r_ T_ => ox_C E (ox_mi 160).2.2.2.1 (ox_mc 160) (ox_cut 160) Q 191 [some (.inr (.inr (x0))), some (.inl (x1)), some (.inl (x2)), none] (r_.toList ++ []) T_ mr sr
def k_160_198 (E : ox_E) (x0 : Nat) (x1 : Int32) (x2 : Int32) (mr sr : Nat) (Q : ox_Q) : ox_Q := fun r_ T_ => ox_C E (ox_mi 160).2.2.2.1 (ox_mc 160) (ox_cut 160) Q 198 [some (.inr (.inr (x0))), some (.inl (x1)), some (.inl (x2)), none] (r_.toList ++ []) T_ mr sr
def k_160_208 (E : ox_E) (x0 : Nat) (x1 : Int32) (x2 : Int32) (x3 : Int32) (y1 : Int32) (y2 : Nat) (mr sr : Nat) (Q : ox_Q) : ox_Q := fun r_ T_ => ox_C E (ox_mi 160).2.2.2.1 (ox_mc 160) (ox_cut 160) Q 208 [some (.inr (.inr (x0))), some (.inl (x1)), some (.inl (x2)), some (.inl (x3))] (r_.toList ++ [.inl (y1), .inr (.inr (y2))]) T_ mr sr
def k_160_212 (E : ox_E) (x0 : Nat) (x1 : Int32) (x2 : Int32) (x3 : Int32) (mr sr : Nat) (Q : ox_Q) : ox_Q := fun r_ T_ => ox_C E (ox_mi 160).2.2.2.1 (ox_mc 160) (ox_cut 160) Q 212 [some (.inr (.inr (x0))), some (.inl (x1)), some (.inl (x2)), some (.inl (x3))] (r_.toList ++ []) T_ mr sr
def k_160_225 (E : ox_E) (x0 : Nat) (x1 : Int32) (x2 : Int32) (mr sr : Nat) (Q : ox_Q) : ox_Q := fun r_ T_ => ox_C E (ox_mi 160).2.2.2.1 (ox_mc 160) (ox_cut 160) Q 225 [some (.inr (.inr (x0))), some (.inl (x1)), some (.inl (x2)), none] (r_.toList ++ []) T_ mr sr
def c_160_244 (E : ox_E) (x0 : Nat) (x1 : Int32) (x2 : Int32) (S : ox_St) (mr sr : Nat) (Q : ox_Q) : Prop := ox_C E (ox_mi 160).2.2.2.1 (ox_mc 160) (ox_cut 160) Q 244 [some (.inr (.inr (x0))), some (.inl (x1)), some (.inl (x2)), none] [] S mr sr
def k_160_263 (E : ox_E) (x0 : Nat) (x1 : Int32) (x2 : Int32) (y1 : Nat) (mr sr : Nat) (Q : ox_Q) : ox_Q := fun r_ T_ => ox_C E (ox_mi 160).2.2.2.1 (ox_mc 160) (ox_cut 160) Q 263 [some (.inr (.inr (x0))), some (.inl (x1)), some (.inl (x2)), none] (r_.toList ++ [.inr (.inr (y1))]) T_ mr sr
def k_160_266 (E : ox_E) (x0 : Nat) (x1 : Int32) (x2 : Int32) (mr sr : Nat) (Q : ox_Q) : ox_Q := fun r_ T_ => ox_C E (ox_mi 160).2.2.2.1 (ox_mc 160) (ox_cut 160) Q 266 [some (.inr (.inr (x0))), some (.inl (x1)), some (.inl (x2)), none] (r_.toList ++ []) T_ mr sr
set_option maxRecDepth 20000 in
def q_160_266 (E : ox_E) (x0 : Nat) (x1 : Int32) (x2 : Int32) (S : ox_St) (mr sr : Nat) (Q : ox_Q) : Prop :=
  ((ox_mi 160).2.2.2.1 = none ∧ Q none S)
set_option maxRecDepth 20000 in
set_option maxHeartbeats 4000000 in
theorem f_160_266 {E : ox_E} (hE : ox_mono E) {mr sr : Nat} {x0 : Nat} {x1 : Int32} {x2 : Int32} {S : ox_St} {Q : ox_Q} (h : q_160_266 E x0 x1 x2 S mr sr Q) : k_160_266 E x0 x1 x2 mr sr Q none S := ox_C_fold hE h
set_option maxRecDepth 20000 in
def q_160_263 (E : ox_E) (x0 : Nat) (x1 : Int32) (x2 : Int32) (y0 : Int32) (y1 : Nat) (S : ox_St) (mr sr : Nat) (Q : ox_Q) : Prop :=
  (2 ≤ 2 ∧ S.K y1 = 14 ∧ 0 ≤ 8 ∧ ∃ mc1 mk2, mc1 ≤ mr ∧ mk2 ≤ sr ∧ E 158 [.inr (.inr (y1)), .inl (y0)] mc1 mk2 S (k_160_266 E x0 x1 x2 (mr - mc1) (sr - mk2) Q))
set_option maxRecDepth 20000 in
set_option maxHeartbeats 4000000 in
theorem f_160_263 {E : ox_E} (hE : ox_mono E) {mr sr : Nat} {x0 : Nat} {x1 : Int32} {x2 : Int32} {y0 : Int32} {y1 : Nat} {S : ox_St} {Q : ox_Q} (h : q_160_263 E x0 x1 x2 y0 y1 S mr sr Q) : k_160_263 E x0 x1 x2 y1 mr sr Q (some (.inl (y0))) S := ox_C_fold hE h
set_option maxRecDepth 20000 in
def q_160_244 (E : ox_E) (x0 : Nat) (x1 : Int32) (x2 : Int32) (S : ox_St) (mr sr : Nat) (Q : ox_Q) : Prop :=
  (ox_has (S.K x0) 127 = true ∧ (ox_has (S.K x0) 122 = true ∧ (ox_rdI (S.K (S.R 127 x0)) = true ∧ vp_in ((S.I 122 x0) - 1) (S.len (S.R 127 x0)) ∧ ((¬ (S.rI (S.R 127 x0) (Int32.toNatClampNeg ((S.I 122 x0) - 1))) = 0 → k_160_266 E x0 x1 x2 mr sr Q none S) ∧ ((S.rI (S.R 127 x0) (Int32.toNatClampNeg ((S.I 122 x0) - 1))) = 0 → (1 ≤ 2 ∧ S.K x0 = 14 ∧ 1 ≤ 8 ∧ ∃ mc1 mk2, mc1 ≤ mr ∧ mk2 ≤ sr ∧ E 159 [.inr (.inr (x0))] mc1 mk2 S (k_160_263 E x0 x1 x2 x0 (mr - mc1) (sr - mk2) Q)))))))
set_option maxRecDepth 20000 in
set_option maxHeartbeats 4000000 in
theorem f_160_244 {E : ox_E} (hE : ox_mono E) {mr sr : Nat} {x0 : Nat} {x1 : Int32} {x2 : Int32} {S : ox_St} {Q : ox_Q} (h : q_160_244 E x0 x1 x2 S mr sr Q) : c_160_244 E x0 x1 x2 S mr sr Q := ox_C_fold hE h
set_option maxRecDepth 20000 in
def q_160_225 (E : ox_E) (x0 : Nat) (x1 : Int32) (x2 : Int32) (S : ox_St) (mr sr : Nat) (Q : ox_Q) : Prop :=
  (ox_has (S.K x0) 132 = true ∧ ((¬ (S.I 132 x0) = 0 → k_160_266 E x0 x1 x2 mr sr Q none S) ∧ ((S.I 132 x0) = 0 → ((x2 = 40 → c_160_244 E x0 x1 x2 S mr sr Q) ∧ (¬ x2 = 40 → ((¬ x2 = 99 → k_160_266 E x0 x1 x2 mr sr Q none S) ∧ (x2 = 99 → c_160_244 E x0 x1 x2 S mr sr Q)))))))
set_option maxRecDepth 20000 in
set_option maxHeartbeats 4000000 in
theorem f_160_225 {E : ox_E} (hE : ox_mono E) {mr sr : Nat} {x0 : Nat} {x1 : Int32} {x2 : Int32} {S : ox_St} {Q : ox_Q} (h : q_160_225 E x0 x1 x2 S mr sr Q) : k_160_225 E x0 x1 x2 mr sr Q none S := ox_C_fold hE h
set_option maxRecDepth 20000 in
def q_160_212 (E : ox_E) (x0 : Nat) (x1 : Int32) (x2 : Int32) (x3 : Int32) (S : ox_St) (mr sr : Nat) (Q : ox_Q) : Prop :=
  k_160_225 E x0 x1 x2 mr sr Q none S
set_option maxRecDepth 20000 in
set_option maxHeartbeats 4000000 in
theorem f_160_212 {E : ox_E} (hE : ox_mono E) {mr sr : Nat} {x0 : Nat} {x1 : Int32} {x2 : Int32} {x3 : Int32} {S : ox_St} {Q : ox_Q} (h : q_160_212 E x0 x1 x2 x3 S mr sr Q) : k_160_212 E x0 x1 x2 x3 mr sr Q none S := ox_C_fold hE h
set_option maxRecDepth 20000 in
def q_160_208 (E : ox_E) (x0 : Nat) (x1 : Int32) (x2 : Int32) (x3 : Int32) (y0 : Int32) (y1 : Int32) (y2 : Nat) (S : ox_St) (mr sr : Nat) (Q : ox_Q) : Prop :=
  (4 ≤ 4 ∧ S.K y2 = 14 ∧ 0 ≤ 8 ∧ ∃ mc1 mk2, mc1 ≤ mr ∧ mk2 ≤ sr ∧ E 154 [.inr (.inr (y2)), .inl (y1), .inl (y0), .inl (x3)] mc1 mk2 S (k_160_212 E x0 x1 x2 x3 (mr - mc1) (sr - mk2) Q))
set_option maxRecDepth 20000 in
set_option maxHeartbeats 4000000 in
theorem f_160_208 {E : ox_E} (hE : ox_mono E) {mr sr : Nat} {x0 : Nat} {x1 : Int32} {x2 : Int32} {x3 : Int32} {y0 : Int32} {y1 : Int32} {y2 : Nat} {S : ox_St} {Q : ox_Q} (h : q_160_208 E x0 x1 x2 x3 y0 y1 y2 S mr sr Q) : k_160_208 E x0 x1 x2 x3 y1 y2 mr sr Q (some (.inl (y0))) S := ox_C_fold hE h
set_option maxRecDepth 20000 in
def q_160_198 (E : ox_E) (x0 : Nat) (x1 : Int32) (x2 : Int32) (y0 : Int32) (S : ox_St) (mr sr : Nat) (Q : ox_Q) : Prop :=
  (3 ≤ 5 ∧ S.K x0 = 14 ∧ 2 ≤ 8 ∧ ∃ mc1 mk2, mc1 ≤ mr ∧ mk2 ≤ sr ∧ E 151 [.inr (.inr (x0)), .inl (0), .inl (12)] mc1 mk2 S (k_160_208 E x0 x1 x2 y0 0 x0 (mr - mc1) (sr - mk2) Q))
set_option maxRecDepth 20000 in
set_option maxHeartbeats 4000000 in
theorem f_160_198 {E : ox_E} (hE : ox_mono E) {mr sr : Nat} {x0 : Nat} {x1 : Int32} {x2 : Int32} {y0 : Int32} {S : ox_St} {Q : ox_Q} (h : q_160_198 E x0 x1 x2 y0 S mr sr Q) : k_160_198 E x0 x1 x2 mr sr Q (some (.inl (y0))) S := ox_C_fold hE h
set_option maxRecDepth 20000 in
def q_160_191 (E : ox_E) (x0 : Nat) (x1 : Int32) (x2 : Int32) (S : ox_St) (mr sr : Nat) (Q : ox_Q) : Prop :=
  k_160_225 E x0 x1 x2 mr sr Q none S
set_option maxRecDepth 20000 in
set_option maxHeartbeats 4000000 in
theorem f_160_191 {E : ox_E} (hE : ox_mono E) {mr sr : Nat} {x0 : Nat} {x1 : Int32} {x2 : Int32} {S : ox_St} {Q : ox_Q} (h : q_160_191 E x0 x1 x2 S mr sr Q) : k_160_191 E x0 x1 x2 mr sr Q none S := ox_C_fold hE h
set_option maxRecDepth 20000 in
def q_160_187 (E : ox_E) (x0 : Nat) (x1 : Int32) (x2 : Int32) (y0 : Int32) (y1 : Int32) (y2 : Nat) (S : ox_St) (mr sr : Nat) (Q : ox_Q) : Prop :=
  (4 ≤ 4 ∧ S.K y2 = 14 ∧ 0 ≤ 8 ∧ ∃ mc1 mk2, mc1 ≤ mr ∧ mk2 ≤ sr ∧ E 154 [.inr (.inr (y2)), .inl (y1), .inl (y0), .inl (0)] mc1 mk2 S (k_160_191 E x0 x1 x2 (mr - mc1) (sr - mk2) Q))
set_option maxRecDepth 20000 in
set_option maxHeartbeats 4000000 in
theorem f_160_187 {E : ox_E} (hE : ox_mono E) {mr sr : Nat} {x0 : Nat} {x1 : Int32} {x2 : Int32} {y0 : Int32} {y1 : Int32} {y2 : Nat} {S : ox_St} {Q : ox_Q} (h : q_160_187 E x0 x1 x2 y0 y1 y2 S mr sr Q) : k_160_187 E x0 x1 x2 y1 y2 mr sr Q (some (.inl (y0))) S := ox_C_fold hE h
set_option maxRecDepth 20000 in
def q_160_175 (E : ox_E) (x0 : Nat) (x1 : Int32) (x2 : Int32) (S : ox_St) (mr sr : Nat) (Q : ox_Q) : Prop :=
  k_160_225 E x0 x1 x2 mr sr Q none S
set_option maxRecDepth 20000 in
set_option maxHeartbeats 4000000 in
theorem f_160_175 {E : ox_E} (hE : ox_mono E) {mr sr : Nat} {x0 : Nat} {x1 : Int32} {x2 : Int32} {S : ox_St} {Q : ox_Q} (h : q_160_175 E x0 x1 x2 S mr sr Q) : k_160_175 E x0 x1 x2 mr sr Q none S := ox_C_fold hE h
set_option maxRecDepth 20000 in
def q_160_172 (E : ox_E) (x0 : Nat) (x1 : Int32) (x2 : Int32) (y0 : Int32) (y1 : Nat) (S : ox_St) (mr sr : Nat) (Q : ox_Q) : Prop :=
  (2 ≤ 2 ∧ S.K y1 = 14 ∧ 0 ≤ 8 ∧ ∃ mc1 mk2, mc1 ≤ mr ∧ mk2 ≤ sr ∧ E 158 [.inr (.inr (y1)), .inl (y0)] mc1 mk2 S (k_160_175 E x0 x1 x2 (mr - mc1) (sr - mk2) Q))
set_option maxRecDepth 20000 in
set_option maxHeartbeats 4000000 in
theorem f_160_172 {E : ox_E} (hE : ox_mono E) {mr sr : Nat} {x0 : Nat} {x1 : Int32} {x2 : Int32} {y0 : Int32} {y1 : Nat} {S : ox_St} {Q : ox_Q} (h : q_160_172 E x0 x1 x2 y0 y1 S mr sr Q) : k_160_172 E x0 x1 x2 y1 mr sr Q (some (.inl (y0))) S := ox_C_fold hE h
set_option maxRecDepth 20000 in
def q_160_164 (E : ox_E) (x0 : Nat) (x1 : Int32) (x2 : Int32) (S : ox_St) (mr sr : Nat) (Q : ox_Q) : Prop :=
  k_160_225 E x0 x1 x2 mr sr Q none S
set_option maxRecDepth 20000 in
set_option maxHeartbeats 4000000 in
theorem f_160_164 {E : ox_E} (hE : ox_mono E) {mr sr : Nat} {x0 : Nat} {x1 : Int32} {x2 : Int32} {S : ox_St} {Q : ox_Q} (h : q_160_164 E x0 x1 x2 S mr sr Q) : k_160_164 E x0 x1 x2 mr sr Q none S := ox_C_fold hE h
set_option maxRecDepth 20000 in
def q_160_161 (E : ox_E) (x0 : Nat) (x1 : Int32) (x2 : Int32) (y0 : Int32) (y1 : Nat) (S : ox_St) (mr sr : Nat) (Q : ox_Q) : Prop :=
  (2 ≤ 2 ∧ S.K y1 = 14 ∧ 0 ≤ 8 ∧ ∃ mc1 mk2, mc1 ≤ mr ∧ mk2 ≤ sr ∧ E 158 [.inr (.inr (y1)), .inl (y0)] mc1 mk2 S (k_160_164 E x0 x1 x2 (mr - mc1) (sr - mk2) Q))
set_option maxRecDepth 20000 in
set_option maxHeartbeats 4000000 in
theorem f_160_161 {E : ox_E} (hE : ox_mono E) {mr sr : Nat} {x0 : Nat} {x1 : Int32} {x2 : Int32} {y0 : Int32} {y1 : Nat} {S : ox_St} {Q : ox_Q} (h : q_160_161 E x0 x1 x2 y0 y1 S mr sr Q) : k_160_161 E x0 x1 x2 y1 mr sr Q (some (.inl (y0))) S := ox_C_fold hE h
set_option maxRecDepth 20000 in
def q_160_153 (E : ox_E) (x0 : Nat) (x1 : Int32) (x2 : Int32) (S : ox_St) (mr sr : Nat) (Q : ox_Q) : Prop :=
  k_160_225 E x0 x1 x2 mr sr Q none S
set_option maxRecDepth 20000 in
set_option maxHeartbeats 4000000 in
theorem f_160_153 {E : ox_E} (hE : ox_mono E) {mr sr : Nat} {x0 : Nat} {x1 : Int32} {x2 : Int32} {S : ox_St} {Q : ox_Q} (h : q_160_153 E x0 x1 x2 S mr sr Q) : k_160_153 E x0 x1 x2 mr sr Q none S := ox_C_fold hE h
set_option maxRecDepth 20000 in
def q_160_145 (E : ox_E) (x0 : Nat) (x1 : Int32) (x2 : Int32) (S : ox_St) (mr sr : Nat) (Q : ox_Q) : Prop :=
  k_160_225 E x0 x1 x2 mr sr Q none S
set_option maxRecDepth 20000 in
set_option maxHeartbeats 4000000 in
theorem f_160_145 {E : ox_E} (hE : ox_mono E) {mr sr : Nat} {x0 : Nat} {x1 : Int32} {x2 : Int32} {S : ox_St} {Q : ox_Q} (h : q_160_145 E x0 x1 x2 S mr sr Q) : k_160_145 E x0 x1 x2 mr sr Q none S := ox_C_fold hE h
set_option maxRecDepth 20000 in
def q_160_137 (E : ox_E) (x0 : Nat) (x1 : Int32) (x2 : Int32) (S : ox_St) (mr sr : Nat) (Q : ox_Q) : Prop :=
  k_160_225 E x0 x1 x2 mr sr Q none S
set_option maxRecDepth 20000 in
set_option maxHeartbeats 4000000 in
theorem f_160_137 {E : ox_E} (hE : ox_mono E) {mr sr : Nat} {x0 : Nat} {x1 : Int32} {x2 : Int32} {S : ox_St} {Q : ox_Q} (h : q_160_137 E x0 x1 x2 S mr sr Q) : k_160_137 E x0 x1 x2 mr sr Q none S := ox_C_fold hE h
set_option maxRecDepth 20000 in
def q_160_57 (E : ox_E) (x0 : Nat) (x1 : Int32) (y0 : Int32) (S : ox_St) (mr sr : Nat) (Q : ox_Q) : Prop :=
  (ox_has (S.K x0) 132 = true ∧ (((S.I 132 x0) = 0 → ((Int32.toInt y0 = 40 → (3 ≤ 5 ∧ S.K x0 = 14 ∧ 2 ≤ 8 ∧ ∃ mc15 mk16, mc15 ≤ mr ∧ mk16 ≤ sr ∧ E 151 [.inr (.inr (x0)), .inl (0), .inl (12)] mc15 mk16 S (k_160_187 E x0 x1 y0 1 x0 (mr - mc15) (sr - mk16) Q))) ∧ (¬ Int32.toInt y0 = 40 → ((Int32.toInt y0 = 70 → (2 ≤ 2 ∧ S.K x0 = 14 ∧ 0 ≤ 8 ∧ ∃ mc13 mk14, mc13 ≤ mr ∧ mk14 ≤ sr ∧ E 158 [.inr (.inr (x0)), .inl (1)] mc13 mk14 S (k_160_145 E x0 x1 y0 (mr - mc13) (sr - mk14) Q))) ∧ (¬ Int32.toInt y0 = 70 → ((Int32.toInt y0 = 78 → (2 ≤ 2 ∧ S.K x0 = 14 ∧ 0 ≤ 8 ∧ ∃ mc11 mk12, mc11 ≤ mr ∧ mk12 ≤ sr ∧ E 158 [.inr (.inr (x0)), .inl (0)] mc11 mk12 S (k_160_137 E x0 x1 y0 (mr - mc11) (sr - mk12) Q))) ∧ (¬ Int32.toInt y0 = 78 → ((Int32.toInt y0 = 84 → (2 ≤ 2 ∧ S.K x0 = 14 ∧ 0 ≤ 8 ∧ ∃ mc9 mk10, mc9 ≤ mr ∧ mk10 ≤ sr ∧ E 158 [.inr (.inr (x0)), .inl (2)] mc9 mk10 S (k_160_153 E x0 x1 y0 (mr - mc9) (sr - mk10) Q))) ∧ (¬ Int32.toInt y0 = 84 → ((Int32.toInt y0 = 99 → (1 ≤ 1 ∧ S.K x0 = 14 ∧ 0 ≤ 8 ∧ ∃ mc7 mk8, mc7 ≤ mr ∧ mk8 ≤ sr ∧ E 155 [.inr (.inr (x0))] mc7 mk8 S (k_160_198 E x0 x1 y0 (mr - mc7) (sr - mk8) Q))) ∧ (¬ Int32.toInt y0 = 99 → ((Int32.toInt y0 = 105 → (1 ≤ 2 ∧ S.K x0 = 14 ∧ 1 ≤ 8 ∧ ∃ mc5 mk6, mc5 ≤ mr ∧ mk6 ≤ sr ∧ E 153 [.inr (.inr (x0))] mc5 mk6 S (k_160_161 E x0 x1 y0 x0 (mr - mc5) (sr - mk6) Q))) ∧ (¬ Int32.toInt y0 = 105 → ((Int32.toInt y0 = 108 → (1 ≤ 2 ∧ S.K x0 = 14 ∧ 1 ≤ 8 ∧ ∃ mc3 mk4, mc3 ≤ mr ∧ mk4 ≤ sr ∧ E 152 [.inr (.inr (x0))] mc3 mk4 S (k_160_172 E x0 x1 y0 x0 (mr - mc3) (sr - mk4) Q))) ∧ (¬ Int32.toInt y0 = 108 → (ox_has (S.K x0) 120 = true ∧ (2 ≤ 2 ∧ S.K x0 = 14 ∧ 0 ≤ 8 ∧ ∃ mc1 mk2, mc1 ≤ mr ∧ mk2 ≤ sr ∧ E 150 [.inr (.inr (x0)), .inl ((S.I 120 x0) - 1)] mc1 mk2 S (k_160_225 E x0 x1 y0 (mr - mc1) (sr - mk2) Q)))))))))))))))))) ∧ (¬ (S.I 132 x0) = 0 → ((ox_mi 160).2.2.2.1 = none ∧ Q none S))))
set_option maxRecDepth 20000 in
set_option maxHeartbeats 4000000 in
theorem f_160_57 {E : ox_E} (hE : ox_mono E) {mr sr : Nat} {x0 : Nat} {x1 : Int32} {y0 : Int32} {S : ox_St} {Q : ox_Q} (h : q_160_57 E x0 x1 y0 S mr sr Q) : k_160_57 E x0 x1 mr sr Q (some (.inl (y0))) S := ox_C_fold hE h
set_option maxRecDepth 20000 in
def q_160_46 (E : ox_E) (x0 : Nat) (x1 : Int32) (y0 : Int32) (S : ox_St) (mr sr : Nat) (Q : ox_Q) : Prop :=
  k_160_57 E x0 x1 mr sr Q (some (.inl (y0))) S
set_option maxRecDepth 20000 in
set_option maxHeartbeats 4000000 in
theorem f_160_46 {E : ox_E} (hE : ox_mono E) {mr sr : Nat} {x0 : Nat} {x1 : Int32} {y0 : Int32} {S : ox_St} {Q : ox_Q} (h : q_160_46 E x0 x1 y0 S mr sr Q) : k_160_46 E x0 x1 mr sr Q (some (.inl (y0))) S := ox_C_fold hE h
set_option maxRecDepth 20000 in
def q_160_34 (E : ox_E) (x0 : Nat) (x1 : Int32) (S : ox_St) (mr sr : Nat) (Q : ox_Q) : Prop :=
  ((x1 = 0 → (3 ≤ 3 ∧ S.K x0 = 14 ∧ 0 ≤ 8 ∧ ∃ mc1 mk2, mc1 ≤ mr ∧ mk2 ≤ sr ∧ E 151 [.inr (.inr (x0)), .inl (0), .inl (255)] mc1 mk2 S (k_160_57 E x0 x1 (mr - mc1) (sr - mk2) Q))) ∧ (¬ x1 = 0 → (3 ≤ 3 ∧ S.K x0 = 14 ∧ 0 ≤ 8 ∧ ∃ mc3 mk4, mc3 ≤ mr ∧ mk4 ≤ sr ∧ E 151 [.inr (.inr (x0)), .inl (99), .inl (99)] mc3 mk4 S (k_160_46 E x0 x1 (mr - mc3) (sr - mk4) Q))))
set_option maxRecDepth 20000 in
set_option maxHeartbeats 4000000 in
theorem f_160_34 {E : ox_E} (hE : ox_mono E) {mr sr : Nat} {x0 : Nat} {x1 : Int32} {S : ox_St} {Q : ox_Q} (h : q_160_34 E x0 x1 S mr sr Q) : k_160_34 E x0 x1 mr sr Q none S := ox_C_fold hE h
set_option maxRecDepth 20000 in
def q_160_31 (E : ox_E) (x0 : Nat) (x1 : Int32) (y0 : Int32) (y1 : Nat) (S : ox_St) (mr sr : Nat) (Q : ox_Q) : Prop :=
  (2 ≤ 2 ∧ S.K y1 = 14 ∧ 0 ≤ 8 ∧ ∃ mc1 mk2, mc1 ≤ mr ∧ mk2 ≤ sr ∧ E 150 [.inr (.inr (y1)), .inl (y0)] mc1 mk2 S (k_160_34 E x0 x1 (mr - mc1) (sr - mk2) Q))
set_option maxRecDepth 20000 in
set_option maxHeartbeats 4000000 in
theorem f_160_31 {E : ox_E} (hE : ox_mono E) {mr sr : Nat} {x0 : Nat} {x1 : Int32} {y0 : Int32} {y1 : Nat} {S : ox_St} {Q : ox_Q} (h : q_160_31 E x0 x1 y0 y1 S mr sr Q) : c_160_31 E x0 x1 y0 y1 S mr sr Q := ox_C_fold hE h
set_option maxRecDepth 20000 in
def q_160 (E : ox_E) (x0 : Nat) (x1 : Int32) (S : ox_St) (mr sr : Nat) (Q : ox_Q) : Prop :=
  (ox_has (S.K x0) 122 = true ∧ ((¬ (S.I 122 x0) = 5 → k_160_34 E x0 x1 mr sr Q none S) ∧ ((S.I 122 x0) = 5 → (ox_has (S.K x0) 120 = true ∧ (ox_has (S.K x0) 121 = true ∧ (((S.I 121 x0) ≤ (S.I 120 x0) → (ox_has (S.K x0) 121 = true ∧ c_160_31 E x0 x1 (S.I 121 x0) x0 S mr sr Q)) ∧ (¬ (S.I 121 x0) ≤ (S.I 120 x0) → (ox_has (S.K x0) 120 = true ∧ c_160_31 E x0 x1 (S.I 120 x0) x0 S mr sr Q))))))))
set_option maxRecDepth 20000 in
set_option maxHeartbeats 4000000 in
theorem f_160 {sp : ox_E} (hsp : ox_mono sp) {d : Nat} {mr sr : Nat} {x0 : Nat} {x1 : Int32} {S : ox_St} {Q : ox_Q} (h : q_160 (ox_M sp d) x0 x1 S mr sr Q) : ox_M sp (d + 1) 160 [.inr (.inr (x0)), .inl (x1)] mr sr S Q := Or.inr ⟨Nat.le_of_ble_eq_true rfl, ox_C_fold (ox_M_mono hsp d) h⟩
/-! OpcodeFramesModel.read()V -/
def k_161_62 (E : ox_E) (x0 : Nat) (mr sr : Nat) (Q : ox_Q) : ox_Q := fun r_ T_ => ox_C E (ox_mi 161).2.2.2.1 (ox_mc 161) (ox_cut 161) Q 62 [some (.inr (.inr (x0))), none, none, none, none, none] (r_.toList ++ []) T_ mr sr
def k_161_88 (E : ox_E) (x0 : Nat) (x1 : Int32) (x2 : Int32) (x3 : Int32) (x4 : Int32) (mr sr : Nat) (Q : ox_Q) : ox_Q := fun r_ T_ => ox_C E (ox_mi 161).2.2.2.1 (ox_mc 161) (ox_cut 161) Q 88 [some (.inr (.inr (x0))), some (.inl (x1)), some (.inl (x2)), some (.inl (x3)), some (.inl (x4)), none] (r_.toList ++ []) T_ mr sr
def k_161_107 (E : ox_E) (x0 : Nat) (x1 : Int32) (x2 : Int32) (x3 : Int32) (x4 : Int32) (mr sr : Nat) (Q : ox_Q) : ox_Q := fun r_ T_ => ox_C E (ox_mi 161).2.2.2.1 (ox_mc 161) (ox_cut 161) Q 107 [some (.inr (.inr (x0))), some (.inl (x1)), some (.inl (x2)), some (.inl (x3)), some (.inl (x4)), none] (r_.toList ++ []) T_ mr sr
def k_161_136 (E : ox_E) (x0 : Nat) (x1 : Int32) (x2 : Int32) (x3 : Int32) (x4 : Int32) (mr sr : Nat) (Q : ox_Q) : ox_Q := fun r_ T_ => ox_C E (ox_mi 161).2.2.2.1 (ox_mc 161) (ox_cut 161) Q 136 [some (.inr (.inr (x0))), some (.inl (x1)), some (.inl (x2)), some (.inl (x3)), some (.inl (x4)), none] (r_.toList ++ []) T_ mr sr
def c_161_155 (E : ox_E) (x0 : Nat) (x1 : Int32) (x2 : Int32) (x3 : Int32) (x4 : Int32) (x5 : Int32) (S : ox_St) (mr sr : Nat) (Q : ox_Q) : Prop := ox_C E (ox_mi 161).2.2.2.1 (ox_mc 161) (ox_cut 161) Q 155 [some (.inr (.inr (x0))), some (.inl (x1)), some (.inl (x2)), some (.inl (x3)), some (.inl (x4)), some (.inl (x5))] [] S mr sr
def k_161_182 (E : ox_E) (x0 : Nat) (x1 : Int32) (x2 : Int32) (x3 : Int32) (x4 : Int32) (x5 : Int32) (mr sr : Nat) (Q : ox_Q) : ox_Q := fun r_ T_ => ox_C E (ox_mi 161).2.2.2.1 (ox_mc 161) (ox_cut 161) Q 182 [some (.inr (.inr (x0))), some (.inl (x1)), some (.inl (x2)), some (.inl (x3)), some (.inl (x4)), some (.inl (x5))] (r_.toList ++ []) T_ mr sr
def k_161_252 (E : ox_E) (x0 : Nat) (x1 : Int32) (x2 : Int32) (x3 : Int32) (x4 : Int32) (x5 : Int32) (mr sr : Nat) (Q : ox_Q) : ox_Q := fun r_ T_ => ox_C E (ox_mi 161).2.2.2.1 (ox_mc 161) (ox_cut 161) Q 252 [some (.inr (.inr (x0))), some (.inl (x1)), some (.inl (x2)), some (.inl (x3)), some (.inl (x4)), some (.inl (x5))] (r_.toList ++ []) T_ mr sr
set_option maxRecDepth 20000 in
def q_161_252 (E : ox_E) (x0 : Nat) (x1 : Int32) (x2 : Int32) (x3 : Int32) (x4 : Int32) (x5 : Int32) (S : ox_St) (mr sr : Nat) (Q : ox_Q) : Prop :=
  ((ox_mi 161).2.2.2.1 = none ∧ Q none S)
set_option maxRecDepth 20000 in
set_option maxHeartbeats 4000000 in
theorem f_161_252 {E : ox_E} (hE : ox_mono E) {mr sr : Nat} {x0 : Nat} {x1 : Int32} {x2 : Int32} {x3 : Int32} {x4 : Int32} {x5 : Int32} {S : ox_St} {Q : ox_Q} (h : q_161_252 E x0 x1 x2 x3 x4 x5 S mr sr Q) : k_161_252 E x0 x1 x2 x3 x4 x5 mr sr Q none S := ox_C_fold hE h
set_option maxRecDepth 20000 in
def q_161_182 (E : ox_E) (x0 : Nat) (x1 : Int32) (x2 : Int32) (x3 : Int32) (x4 : Int32) (x5 : Int32) (y0 : Int32) (S : ox_St) (mr sr : Nat) (Q : ox_Q) : Prop :=
  ((y0 = 0 → (ox_has (S.K x0) 69 = true ∧ (let S1 := S.sI 69 x0 2
  (ox_has (S1.K x0) 70 = true ∧ (let S2 := S1.sI 70 x0 (1000 * x5)
  c_161_155 E x0 x1 x2 x3 x4 (x5 + 1) S2 mr sr Q))))) ∧ (¬ y0 = 0 → c_161_155 E x0 x1 x2 x3 x4 (x5 + 1) S mr sr Q))
set_option maxRecDepth 20000 in
set_option maxHeartbeats 4000000 in
theorem f_161_182 {E : ox_E} (hE : ox_mono E) {mr sr : Nat} {x0 : Nat} {x1 : Int32} {x2 : Int32} {x3 : Int32} {x4 : Int32} {x5 : Int32} {y0 : Int32} {S : ox_St} {Q : ox_Q} (h : q_161_182 E x0 x1 x2 x3 x4 x5 y0 S mr sr Q) : k_161_182 E x0 x1 x2 x3 x4 x5 mr sr Q (some (.inl (y0))) S := ox_C_fold hE h
set_option maxRecDepth 20000 in
def q_161_155 (E : ox_E) (x0 : Nat) (x1 : Int32) (x2 : Int32) (x3 : Int32) (x4 : Int32) (x5 : Int32) (S : ox_St) (mr sr : Nat) (Q : ox_Q) : Prop :=
  (ox_has (S.K x0) 124 = true ∧ (((S.I 124 x0) ≤ x5 → (ox_has (S.K x0) 69 = true ∧ (((S.I 69 x0) ≤ 0 → (ox_has (S.K x0) 125 = true ∧ (ox_has (S.K x0) 96 = true ∧ (let S1 := S.sI 96 x0 ((-1) - (S.I 125 x0))
  (1 ≤ 1 ∧ S1.K x0 = 14 ∧ 0 ≤ 8 ∧ ∃ mc2 mk3, mc2 ≤ mr ∧ mk3 ≤ sr ∧ E 171 [.inr (.inr (x0))] mc2 mk3 S1 (k_161_252 E x0 x1 x2 x3 x4 x5 (mr - mc2) (sr - mk3) Q)))))) ∧ (¬ (S.I 69 x0) ≤ 0 → (ox_has (S.K x0) 76 = true ∧ (let S4 := S.sI 76 x0 x1
  (ox_has (S4.K x0) 86 = true ∧ (let S5 := S4.sI 86 x0 x2
  (ox_has (S5.K x0) 87 = true ∧ (let S6 := S5.sI 87 x0 x3
  (ox_has (S6.K x0) 88 = true ∧ (let S7 := S6.sI 88 x0 x4
  ((ox_mi 161).2.2.2.1 = none ∧ Q none S7))))))))))))) ∧ (¬ (S.I 124 x0) ≤ x5 → (ox_has (S.K x0) 69 = true ∧ ((¬ (S.I 69 x0) = 0 → (ox_has (S.K x0) 69 = true ∧ (((S.I 69 x0) ≤ 0 → (ox_has (S.K x0) 125 = true ∧ (ox_has (S.K x0) 96 = true ∧ (let S8 := S.sI 96 x0 ((-1) - (S.I 125 x0))
  (1 ≤ 1 ∧ S8.K x0 = 14 ∧ 0 ≤ 8 ∧ ∃ mc9 mk10, mc9 ≤ mr ∧ mk10 ≤ sr ∧ E 171 [.inr (.inr (x0))] mc9 mk10 S8 (k_161_252 E x0 x1 x2 x3 x4 x5 (mr - mc9) (sr - mk10) Q)))))) ∧ (¬ (S.I 69 x0) ≤ 0 → (ox_has (S.K x0) 76 = true ∧ (let S11 := S.sI 76 x0 x1
  (ox_has (S11.K x0) 86 = true ∧ (let S12 := S11.sI 86 x0 x2
  (ox_has (S12.K x0) 87 = true ∧ (let S13 := S12.sI 87 x0 x3
  (ox_has (S13.K x0) 88 = true ∧ (let S14 := S13.sI 88 x0 x4
  ((ox_mi 161).2.2.2.1 = none ∧ Q none S14))))))))))))) ∧ ((S.I 69 x0) = 0 → (ox_has (S.K x0) 131 = true ∧ (ox_rdI (S.K (S.R 131 x0)) = true ∧ vp_in x5 (S.len (S.R 131 x0)) ∧ (2 ≤ 2 ∧ S.K x0 = 14 ∧ 0 ≤ 8 ∧ ∃ mc15 mk16, mc15 ≤ mr ∧ mk16 ≤ sr ∧ E 170 [.inr (.inr (x0)), .inl (S.rI (S.R 131 x0) (Int32.toNatClampNeg x5))] mc15 mk16 S (k_161_182 E x0 x1 x2 x3 x4 x5 (mr - mc15) (sr - mk16) Q))))))))))
set_option maxRecDepth 20000 in
set_option maxHeartbeats 4000000 in
theorem f_161_155 {E : ox_E} (hE : ox_mono E) {mr sr : Nat} {x0 : Nat} {x1 : Int32} {x2 : Int32} {x3 : Int32} {x4 : Int32} {x5 : Int32} {S : ox_St} {Q : ox_Q} (h : q_161_155 E x0 x1 x2 x3 x4 x5 S mr sr Q) : c_161_155 E x0 x1 x2 x3 x4 x5 S mr sr Q := ox_C_fold hE h
set_option maxRecDepth 20000 in
def q_161_136 (E : ox_E) (x0 : Nat) (x1 : Int32) (x2 : Int32) (x3 : Int32) (x4 : Int32) (S : ox_St) (mr sr : Nat) (Q : ox_Q) : Prop :=
  (ox_has (S.K x0) 132 = true ∧ (((S.I 132 x0) = 0 → (ox_has (S.K x0) 69 = true ∧ (let S1 := S.sI 69 x0 0
  c_161_155 E x0 x1 x2 x3 x4 0 S1 mr sr Q))) ∧ (¬ (S.I 132 x0) = 0 → (ox_has (S.K x0) 69 = true ∧ (let S2 := S.sI 69 x0 1
  c_161_155 E x0 x1 x2 x3 x4 0 S2 mr sr Q)))))
set_option maxRecDepth 20000 in
set_option maxHeartbeats 4000000 in
theorem f_161_136 {E : ox_E} (hE : ox_mono E) {mr sr : Nat} {x0 : Nat} {x1 : Int32} {x2 : Int32} {x3 : Int32} {x4 : Int32} {S : ox_St} {Q : ox_Q} (h : q_161_136 E x0 x1 x2 x3 x4 S mr sr Q) : k_161_136 E x0 x1 x2 x3 x4 mr sr Q none S := ox_C_fold hE h
set_option maxRecDepth 20000 in
def q_161_107 (E : ox_E) (x0 : Nat) (x1 : Int32) (x2 : Int32) (x3 : Int32) (x4 : Int32) (S : ox_St) (mr sr : Nat) (Q : ox_Q) : Prop :=
  k_161_88 E x0 x1 x2 x3 x4 mr sr Q none S
set_option maxRecDepth 20000 in
set_option maxHeartbeats 4000000 in
theorem f_161_107 {E : ox_E} (hE : ox_mono E) {mr sr : Nat} {x0 : Nat} {x1 : Int32} {x2 : Int32} {x3 : Int32} {x4 : Int32} {S : ox_St} {Q : ox_Q} (h : q_161_107 E x0 x1 x2 x3 x4 S mr sr Q) : k_161_107 E x0 x1 x2 x3 x4 mr sr Q none S := ox_C_fold hE h
set_option maxRecDepth 20000 in
def q_161_88 (E : ox_E) (x0 : Nat) (x1 : Int32) (x2 : Int32) (x3 : Int32) (x4 : Int32) (S : ox_St) (mr sr : Nat) (Q : ox_Q) : Prop :=
  (ox_has (S.K x0) 132 = true ∧ ((¬ (S.I 132 x0) = 0 → (ox_has (S.K x0) 132 = true ∧ ((¬ (S.I 132 x0) = 0 → k_161_136 E x0 x1 x2 x3 x4 mr sr Q none S) ∧ ((S.I 132 x0) = 0 → (ox_has (S.K x0) 120 = true ∧ (ox_has (S.K x0) 121 = true ∧ (((S.I 121 x0) ≤ (S.I 120 x0) → k_161_136 E x0 x1 x2 x3 x4 mr sr Q none S) ∧ (¬ (S.I 121 x0) ≤ (S.I 120 x0) → (ox_has (S.K x0) 120 = true ∧ (2 ≤ 2 ∧ S.K x0 = 14 ∧ 0 ≤ 8 ∧ ∃ mc1 mk2, mc1 ≤ mr ∧ mk2 ≤ sr ∧ E 150 [.inr (.inr (x0)), .inl (S.I 120 x0)] mc1 mk2 S (k_161_136 E x0 x1 x2 x3 x4 (mr - mc1) (sr - mk2) Q))))))))))) ∧ ((S.I 132 x0) = 0 → (ox_has (S.K x0) 122 = true ∧ (((S.I 122 x0) ≤ 0 → (ox_has (S.K x0) 132 = true ∧ ((¬ (S.I 132 x0) = 0 → k_161_136 E x0 x1 x2 x3 x4 mr sr Q none S) ∧ ((S.I 132 x0) = 0 → (ox_has (S.K x0) 120 = true ∧ (ox_has (S.K x0) 121 = true ∧ (((S.I 121 x0) ≤ (S.I 120 x0) → k_161_136 E x0 x1 x2 x3 x4 mr sr Q none S) ∧ (¬ (S.I 121 x0) ≤ (S.I 120 x0) → (ox_has (S.K x0) 120 = true ∧ (2 ≤ 2 ∧ S.K x0 = 14 ∧ 0 ≤ 8 ∧ ∃ mc3 mk4, mc3 ≤ mr ∧ mk4 ≤ sr ∧ E 150 [.inr (.inr (x0)), .inl (S.I 120 x0)] mc3 mk4 S (k_161_136 E x0 x1 x2 x3 x4 (mr - mc3) (sr - mk4) Q))))))))))) ∧ (¬ (S.I 122 x0) ≤ 0 → (2 ≤ 2 ∧ S.K x0 = 14 ∧ 0 ≤ 8 ∧ ∃ mc5 mk6, mc5 ≤ mr ∧ mk6 ≤ sr ∧ E 160 [.inr (.inr (x0)), .inl (0)] mc5 mk6 S (k_161_107 E x0 x1 x2 x3 x4 (mr - mc5) (sr - mk6) Q))))))))
set_option maxRecDepth 20000 in
set_option maxHeartbeats 4000000 in
theorem f_161_88 {E : ox_E} (hE : ox_mono E) {mr sr : Nat} {x0 : Nat} {x1 : Int32} {x2 : Int32} {x3 : Int32} {x4 : Int32} {S : ox_St} {Q : ox_Q} (h : q_161_88 E x0 x1 x2 x3 x4 S mr sr Q) : k_161_88 E x0 x1 x2 x3 x4 mr sr Q none S := ox_C_fold hE h
set_option maxRecDepth 20000 in
def q_161_62 (E : ox_E) (x0 : Nat) (S : ox_St) (mr sr : Nat) (Q : ox_Q) : Prop :=
  (ox_has (S.K x0) 76 = true ∧ (let w1 : Int32 := S.I 76 x0
  (ox_has (S.K x0) 86 = true ∧ (let w2 : Int32 := S.I 86 x0
  (ox_has (S.K x0) 87 = true ∧ (let w3 : Int32 := S.I 87 x0
  (ox_has (S.K x0) 88 = true ∧ (let w4 : Int32 := S.I 88 x0
  (2 ≤ 2 ∧ S.K x0 = 14 ∧ 0 ≤ 8 ∧ ∃ mc5 mk6, mc5 ≤ mr ∧ mk6 ≤ sr ∧ E 160 [.inr (.inr (x0)), .inl (1)] mc5 mk6 S (k_161_88 E x0 w1 w2 w3 w4 (mr - mc5) (sr - mk6) Q))))))))))
set_option maxRecDepth 20000 in
set_option maxHeartbeats 4000000 in
theorem f_161_62 {E : ox_E} (hE : ox_mono E) {mr sr : Nat} {x0 : Nat} {S : ox_St} {Q : ox_Q} (h : q_161_62 E x0 S mr sr Q) : k_161_62 E x0 mr sr Q none S := ox_C_fold hE h
set_option maxRecDepth 20000 in
def q_161 (E : ox_E) (x0 : Nat) (S : ox_St) (mr sr : Nat) (Q : ox_Q) : Prop :=
  (ox_has (S.K x0) 72 = true ∧ (ox_has (S.K x0) 121 = true ∧ (let S1 := S.sI 121 x0 (S.I 72 x0)
  (ox_has (S1.K x0) 72 = true ∧ (let S2 := S1.sI 72 x0 0
  (ox_has (S2.K x0) 120 = true ∧ (let S3 := S2.sI 120 x0 0
  (ox_has (S3.K x0) 132 = true ∧ (((0 : Int32) = 0 ∨ (0 : Int32) = 1) ∧ (let S4 := S3.sI 132 x0 0
  (ox_has (S4.K x0) 70 = true ∧ (let S5 := S4.sI 70 x0 (-1)
  (ox_has (S5.K x0) 122 = true ∧ (let S6 := S5.sI 122 x0 0
  (ox_has (S6.K x0) 123 = true ∧ (let S7 := S6.sI 123 x0 0
  (ox_has (S7.K x0) 124 = true ∧ (let S8 := S7.sI 124 x0 0
  (ox_has (S8.K x0) 125 = true ∧ (let S9 := S8.sI 125 x0 0
  (ox_has (S9.K x0) 75 = true ∧ (((S9.I 75 x0) ≤ 1070000 → k_161_62 E x0 mr sr Q none S9) ∧ (¬ (S9.I 75 x0) ≤ 1070000 → (1 ≤ 1 ∧ S9.K x0 = 14 ∧ 0 ≤ 8 ∧ ∃ mc10 mk11, mc10 ≤ mr ∧ mk11 ≤ sr ∧ E 131 [.inr (.inr (x0))] mc10 mk11 S9 (k_161_62 E x0 (mr - mc10) (sr - mk11) Q)))))))))))))))))))))))))
set_option maxRecDepth 20000 in
set_option maxHeartbeats 4000000 in
theorem f_161 {sp : ox_E} (hsp : ox_mono sp) {d : Nat} {mr sr : Nat} {x0 : Nat} {S : ox_St} {Q : ox_Q} (h : q_161 (ox_M sp d) x0 S mr sr Q) : ox_M sp (d + 1) 161 [.inr (.inr (x0))] mr sr S Q := Or.inr ⟨Nat.le_of_ble_eq_true rfl, ox_C_fold (ox_M_mono hsp d) h⟩
/-! OpcodeFramesModel.fault()I -/
set_option maxRecDepth 20000 in
def q_162 (E : ox_E) (x0 : Nat) (S : ox_St) (mr sr : Nat) (Q : ox_Q) : Prop :=
  (ox_has (S.K x0) 69 = true ∧ (let S1 := S.sI 69 x0 0
  (ox_has (S1.K x0) 70 = true ∧ (True ∧ Q (some (.inl (S1.I 70 x0))) S1))))
set_option maxRecDepth 20000 in
set_option maxHeartbeats 4000000 in
theorem f_162 {sp : ox_E} (hsp : ox_mono sp) {d : Nat} {mr sr : Nat} {x0 : Nat} {S : ox_St} {Q : ox_Q} (h : q_162 (ox_M sp d) x0 S mr sr Q) : ox_M sp (d + 1) 162 [.inr (.inr (x0))] mr sr S Q := Or.inr ⟨Nat.le_of_ble_eq_true rfl, ox_C_fold (ox_M_mono hsp d) h⟩
/-! OpcodeFramesModel.decode(II)Z -/
set_option maxRecDepth 20000 in
def q_163 (E : ox_E) (x0 : Nat) (x1 : Int32) (x2 : Int32) (S : ox_St) (mr sr : Nat) (Q : ox_Q) : Prop :=
  (ox_has (S.K x0) 80 = true ∧ (ox_rdI (S.K (S.R 80 x0)) = true ∧ vp_in x1 (S.len (S.R 80 x0)) ∧ (let w1 : Int32 := S.rI (S.R 80 x0) (Int32.toNatClampNeg x1)
  (ox_has (S.K x0) 89 = true ∧ (ox_rdI (S.K (S.R 89 x0)) = true ∧ vp_in (w1 + x2) (S.len (S.R 89 x0)) ∧ (ox_has (S.K x0) 138 = true ∧ (let S2 := S.sI 138 x0 (S.rI (S.R 89 x0) (Int32.toNatClampNeg (w1 + x2)))
  (ox_has (S2.K x0) 89 = true ∧ (ox_rdI (S2.K (S2.R 89 x0)) = true ∧ vp_in ((w1 + x2) + 1) (S2.len (S2.R 89 x0)) ∧ (ox_has (S2.K x0) 139 = true ∧ (let S3 := S2.sI 139 x0 (S2.rI (S2.R 89 x0) (Int32.toNatClampNeg ((w1 + x2) + 1)))
  (ox_has (S3.K x0) 140 = true ∧ (let S4 := S3.sI 140 x0 (x2 + 2)
  (ox_has (S4.K x0) 138 = true ∧ (((S4.I 138 x0) = 144 → (ox_has (S4.K x0) 81 = true ∧ (ox_rdI (S4.K (S4.R 81 x0)) = true ∧ vp_in x1 (S4.len (S4.R 81 x0)) ∧ (((S4.rI (S4.R 81 x0) (Int32.toNatClampNeg x1)) ≤ (x2 + 2) → (((0 : Int32) = 0 ∨ (0 : Int32) = 1) ∧ Q (some (.inl (0 : Int32))) S4)) ∧ (¬ (S4.rI (S4.R 81 x0) (Int32.toNatClampNeg x1)) ≤ (x2 + 2) → (ox_has (S4.K x0) 89 = true ∧ (ox_rdI (S4.K (S4.R 89 x0)) = true ∧ vp_in ((w1 + x2) + 2) (S4.len (S4.R 89 x0)) ∧ ((¬ (S4.rI (S4.R 89 x0) (Int32.toNatClampNeg ((w1 + x2) + 2))) = 144 → (ox_has (S4.K x0) 89 = true ∧ (ox_rdI (S4.K (S4.R 89 x0)) = true ∧ vp_in ((w1 + x2) + 2) (S4.len (S4.R 89 x0)) ∧ (ox_has (S4.K x0) 138 = true ∧ (let S5 := S4.sI 138 x0 (S4.rI (S4.R 89 x0) (Int32.toNatClampNeg ((w1 + x2) + 2)))
  (ox_has (S5.K x0) 139 = true ∧ (ox_has (S5.K x0) 89 = true ∧ (ox_rdI (S5.K (S5.R 89 x0)) = true ∧ vp_in ((w1 + x2) + 3) (S5.len (S5.R 89 x0)) ∧ (ox_has (S5.K x0) 139 = true ∧ (let S6 := S5.sI 139 x0 ((256 * (S5.I 139 x0)) + (S5.rI (S5.R 89 x0) (Int32.toNatClampNeg ((w1 + x2) + 3))))
  (ox_has (S6.K x0) 140 = true ∧ (let S7 := S6.sI 140 x0 (x2 + 4)
  (((1 : Int32) = 0 ∨ (1 : Int32) = 1) ∧ Q (some (.inl (1 : Int32))) S7))))))))))))) ∧ ((S4.rI (S4.R 89 x0) (Int32.toNatClampNeg ((w1 + x2) + 2))) = 144 → (((0 : Int32) = 0 ∨ (0 : Int32) = 1) ∧ Q (some (.inl (0 : Int32))) S4)))))))))) ∧ (¬ (S4.I 138 x0) = 144 → (((1 : Int32) = 0 ∨ (1 : Int32) = 1) ∧ Q (some (.inl (1 : Int32))) S4)))))))))))))))))
set_option maxRecDepth 20000 in
set_option maxHeartbeats 4000000 in
theorem f_163 {sp : ox_E} (hsp : ox_mono sp) {d : Nat} {mr sr : Nat} {x0 : Nat} {x1 : Int32} {x2 : Int32} {S : ox_St} {Q : ox_Q} (h : q_163 (ox_M sp d) x0 x1 x2 S mr sr Q) : ox_M sp (d + 1) 163 [.inr (.inr (x0)), .inl (x1), .inl (x2)] mr sr S Q := Or.inr ⟨Nat.le_of_ble_eq_true rfl, ox_C_fold (ox_M_mono hsp d) h⟩
/-! OpcodeFramesModel.isPlace(II)Z -/
set_option maxRecDepth 20000 in
def q_164 (E : ox_E) (x0 : Nat) (x1 : Int32) (x2 : Int32) (S : ox_St) (mr sr : Nat) (Q : ox_Q) : Prop :=
  ((x2 < 0 → (((0 : Int32) = 0 ∨ (0 : Int32) = 1) ∧ Q (some (.inl (0 : Int32))) S)) ∧ (¬ x2 < 0 → (ox_has (S.K x0) 81 = true ∧ (ox_rdI (S.K (S.R 81 x0)) = true ∧ vp_in x1 (S.len (S.R 81 x0)) ∧ (((S.rI (S.R 81 x0) (Int32.toNatClampNeg x1)) ≤ x2 → (((0 : Int32) = 0 ∨ (0 : Int32) = 1) ∧ Q (some (.inl (0 : Int32))) S)) ∧ (¬ (S.rI (S.R 81 x0) (Int32.toNatClampNeg x1)) ≤ x2 → (¬ (2 : Int32) = 0 ∧ ((¬ (x2 - x2 / 2 * 2) = 0 → (((0 : Int32) = 0 ∨ (0 : Int32) = 1) ∧ Q (some (.inl (0 : Int32))) S)) ∧ ((x2 - x2 / 2 * 2) = 0 → ((x2 < 2 → (((1 : Int32) = 0 ∨ (1 : Int32) = 1) ∧ Q (some (.inl (1 : Int32))) S)) ∧ (¬ x2 < 2 → (ox_has (S.K x0) 89 = true ∧ (ox_has (S.K x0) 80 = true ∧ (ox_rdI (S.K (S.R 80 x0)) = true ∧ vp_in x1 (S.len (S.R 80 x0)) ∧ (ox_rdI (S.K (S.R 89 x0)) = true ∧ vp_in (((S.rI (S.R 80 x0) (Int32.toNatClampNeg x1)) + x2) - 2) (S.len (S.R 89 x0)) ∧ (((S.rI (S.R 89 x0) (Int32.toNatClampNeg (((S.rI (S.R 80 x0) (Int32.toNatClampNeg x1)) + x2) - 2))) = 144 → (((0 : Int32) = 0 ∨ (0 : Int32) = 1) ∧ Q (some (.inl (0 : Int32))) S)) ∧ (¬ (S.rI (S.R 89 x0) (Int32.toNatClampNeg (((S.rI (S.R 80 x0) (Int32.toNatClampNeg x1)) + x2) - 2))) = 144 → (((1 : Int32) = 0 ∨ (1 : Int32) = 1) ∧ Q (some (.inl (1 : Int32))) S))))))))))))))))))
set_option maxRecDepth 20000 in
set_option maxHeartbeats 4000000 in
theorem f_164 {sp : ox_E} (hsp : ox_mono sp) {d : Nat} {mr sr : Nat} {x0 : Nat} {x1 : Int32} {x2 : Int32} {S : ox_St} {Q : ox_Q} (h : q_164 (ox_M sp d) x0 x1 x2 S mr sr Q) : ox_M sp (d + 1) 164 [.inr (.inr (x0)), .inl (x1), .inl (x2)] mr sr S Q := Or.inr ⟨Nat.le_of_ble_eq_true rfl, ox_C_fold (ox_M_mono hsp d) h⟩
/-! OpcodeFramesModel.takes(I)I -/
def k_165_683 (E : ox_E) (x0 : Nat) (x1 : Int32) (mr sr : Nat) (Q : ox_Q) : ox_Q := fun r_ T_ => ox_C E (ox_mi 165).2.2.2.1 (ox_mc 165) (ox_cut 165) Q 683 [some (.inr (.inr (x0))), some (.inl (x1))] (r_.toList ++ []) T_ mr sr
def k_165_701 (E : ox_E) (x0 : Nat) (x1 : Int32) (mr sr : Nat) (Q : ox_Q) : ox_Q := fun r_ T_ => ox_C E (ox_mi 165).2.2.2.1 (ox_mc 165) (ox_cut 165) Q 701 [some (.inr (.inr (x0))), some (.inl (x1))] (r_.toList ++ []) T_ mr sr
def k_165_719 (E : ox_E) (x0 : Nat) (x1 : Int32) (mr sr : Nat) (Q : ox_Q) : ox_Q := fun r_ T_ => ox_C E (ox_mi 165).2.2.2.1 (ox_mc 165) (ox_cut 165) Q 719 [some (.inr (.inr (x0))), some (.inl (x1))] (r_.toList ++ []) T_ mr sr
set_option maxRecDepth 20000 in
def q_165_719 (E : ox_E) (x0 : Nat) (x1 : Int32) (y0 : Int32) (S : ox_St) (mr sr : Nat) (Q : ox_Q) : Prop :=
  ((y0 = 0 → (True ∧ Q (some (.inl ((-1) : Int32))) S)) ∧ (¬ y0 = 0 → (True ∧ Q (some (.inl (1 : Int32))) S)))
set_option maxRecDepth 20000 in
set_option maxHeartbeats 4000000 in
theorem f_165_719 {E : ox_E} (hE : ox_mono E) {mr sr : Nat} {x0 : Nat} {x1 : Int32} {y0 : Int32} {S : ox_St} {Q : ox_Q} (h : q_165_719 E x0 x1 y0 S mr sr Q) : k_165_719 E x0 x1 mr sr Q (some (.inl (y0))) S := ox_C_fold hE h
set_option maxRecDepth 20000 in
def q_165_701 (E : ox_E) (x0 : Nat) (x1 : Int32) (y0 : Int32) (S : ox_St) (mr sr : Nat) (Q : ox_Q) : Prop :=
  ((y0 = 0 → (True ∧ Q (some (.inl ((-1) : Int32))) S)) ∧ (¬ y0 = 0 → (True ∧ Q (some (.inl (0 : Int32))) S)))
set_option maxRecDepth 20000 in
set_option maxHeartbeats 4000000 in
theorem f_165_701 {E : ox_E} (hE : ox_mono E) {mr sr : Nat} {x0 : Nat} {x1 : Int32} {y0 : Int32} {S : ox_St} {Q : ox_Q} (h : q_165_701 E x0 x1 y0 S mr sr Q) : k_165_701 E x0 x1 mr sr Q (some (.inl (y0))) S := ox_C_fold hE h
set_option maxRecDepth 20000 in
def q_165_683 (E : ox_E) (x0 : Nat) (x1 : Int32) (y0 : Int32) (S : ox_St) (mr sr : Nat) (Q : ox_Q) : Prop :=
  ((y0 = 0 → (True ∧ Q (some (.inl ((-1) : Int32))) S)) ∧ (¬ y0 = 0 → (True ∧ Q (some (.inl (0 : Int32))) S)))
set_option maxRecDepth 20000 in
set_option maxHeartbeats 4000000 in
theorem f_165_683 {E : ox_E} (hE : ox_mono E) {mr sr : Nat} {x0 : Nat} {x1 : Int32} {y0 : Int32} {S : ox_St} {Q : ox_Q} (h : q_165_683 E x0 x1 y0 S mr sr Q) : k_165_683 E x0 x1 mr sr Q (some (.inl (y0))) S := ox_C_fold hE h
set_option maxRecDepth 20000 in
def q_165 (E : ox_E) (x0 : Nat) (x1 : Int32) (S : ox_St) (mr sr : Nat) (Q : ox_Q) : Prop :=
  (ox_has (S.K x0) 138 = true ∧ ((Int32.toInt (S.I 138 x0) = 1 → (True ∧ Q (some (.inl (1 : Int32))) S)) ∧ (¬ Int32.toInt (S.I 138 x0) = 1 → ((Int32.toInt (S.I 138 x0) = 2 → (True ∧ Q (some (.inl (2 : Int32))) S)) ∧ (¬ Int32.toInt (S.I 138 x0) = 2 → ((Int32.toInt (S.I 138 x0) = 3 → (True ∧ Q (some (.inl (3 : Int32))) S)) ∧ (¬ Int32.toInt (S.I 138 x0) = 3 → ((Int32.toInt (S.I 138 x0) = 4 → (True ∧ Q (some (.inl (1 : Int32))) S)) ∧ (¬ Int32.toInt (S.I 138 x0) = 4 → ((Int32.toInt (S.I 138 x0) = 5 → (True ∧ Q (some (.inl ((-1) : Int32))) S)) ∧ (¬ Int32.toInt (S.I 138 x0) = 5 → ((Int32.toInt (S.I 138 x0) = 6 → (True ∧ Q (some (.inl ((-1) : Int32))) S)) ∧ (¬ Int32.toInt (S.I 138 x0) = 6 → ((Int32.toInt (S.I 138 x0) = 7 → (True ∧ Q (some (.inl ((-1) : Int32))) S)) ∧ (¬ Int32.toInt (S.I 138 x0) = 7 → ((Int32.toInt (S.I 138 x0) = 8 → (True ∧ Q (some (.inl ((-1) : Int32))) S)) ∧ (¬ Int32.toInt (S.I 138 x0) = 8 → ((Int32.toInt (S.I 138 x0) = 9 → (True ∧ Q (some (.inl ((-1) : Int32))) S)) ∧ (¬ Int32.toInt (S.I 138 x0) = 9 → ((Int32.toInt (S.I 138 x0) = 10 → (True ∧ Q (some (.inl ((-1) : Int32))) S)) ∧ (¬ Int32.toInt (S.I 138 x0) = 10 → ((Int32.toInt (S.I 138 x0) = 11 → (True ∧ Q (some (.inl (1 : Int32))) S)) ∧ (¬ Int32.toInt (S.I 138 x0) = 11 → ((Int32.toInt (S.I 138 x0) = 12 → (True ∧ Q (some (.inl (1 : Int32))) S)) ∧ (¬ Int32.toInt (S.I 138 x0) = 12 → ((Int32.toInt (S.I 138 x0) = 13 → (True ∧ Q (some (.inl ((-1) : Int32))) S)) ∧ (¬ Int32.toInt (S.I 138 x0) = 13 → ((Int32.toInt (S.I 138 x0) = 14 → (True ∧ Q (some (.inl ((-1) : Int32))) S)) ∧ (¬ Int32.toInt (S.I 138 x0) = 14 → ((Int32.toInt (S.I 138 x0) = 15 → (True ∧ Q (some (.inl ((-1) : Int32))) S)) ∧ (¬ Int32.toInt (S.I 138 x0) = 15 → ((Int32.toInt (S.I 138 x0) = 16 → (True ∧ Q (some (.inl ((-1) : Int32))) S)) ∧ (¬ Int32.toInt (S.I 138 x0) = 16 → ((Int32.toInt (S.I 138 x0) = 17 → (True ∧ Q (some (.inl ((-1) : Int32))) S)) ∧ (¬ Int32.toInt (S.I 138 x0) = 17 → ((Int32.toInt (S.I 138 x0) = 18 → (True ∧ Q (some (.inl ((-1) : Int32))) S)) ∧ (¬ Int32.toInt (S.I 138 x0) = 18 → ((Int32.toInt (S.I 138 x0) = 19 → (True ∧ Q (some (.inl ((-1) : Int32))) S)) ∧ (¬ Int32.toInt (S.I 138 x0) = 19 → ((Int32.toInt (S.I 138 x0) = 20 → (True ∧ Q (some (.inl (2 : Int32))) S)) ∧ (¬ Int32.toInt (S.I 138 x0) = 20 → ((Int32.toInt (S.I 138 x0) = 21 → (True ∧ Q (some (.inl ((-1) : Int32))) S)) ∧ (¬ Int32.toInt (S.I 138 x0) = 21 → ((Int32.toInt (S.I 138 x0) = 22 → (True ∧ Q (some (.inl (2 : Int32))) S)) ∧ (¬ Int32.toInt (S.I 138 x0) = 22 → ((Int32.toInt (S.I 138 x0) = 23 → (True ∧ Q (some (.inl (2 : Int32))) S)) ∧ (¬ Int32.toInt (S.I 138 x0) = 23 → ((Int32.toInt (S.I 138 x0) = 24 → (True ∧ Q (some (.inl (2 : Int32))) S)) ∧ (¬ Int32.toInt (S.I 138 x0) = 24 → ((Int32.toInt (S.I 138 x0) = 25 → (True ∧ Q (some (.inl (2 : Int32))) S)) ∧ (¬ Int32.toInt (S.I 138 x0) = 25 → ((Int32.toInt (S.I 138 x0) = 26 → (True ∧ Q (some (.inl (2 : Int32))) S)) ∧ (¬ Int32.toInt (S.I 138 x0) = 26 → ((Int32.toInt (S.I 138 x0) = 27 → (True ∧ Q (some (.inl ((-1) : Int32))) S)) ∧ (¬ Int32.toInt (S.I 138 x0) = 27 → ((Int32.toInt (S.I 138 x0) = 28 → (True ∧ Q (some (.inl ((-1) : Int32))) S)) ∧ (¬ Int32.toInt (S.I 138 x0) = 28 → ((Int32.toInt (S.I 138 x0) = 29 → (True ∧ Q (some (.inl ((-1) : Int32))) S)) ∧ (¬ Int32.toInt (S.I 138 x0) = 29 → ((Int32.toInt (S.I 138 x0) = 30 → (True ∧ Q (some (.inl ((-1) : Int32))) S)) ∧ (¬ Int32.toInt (S.I 138 x0) = 30 → ((Int32.toInt (S.I 138 x0) = 31 → (True ∧ Q (some (.inl ((-1) : Int32))) S)) ∧ (¬ Int32.toInt (S.I 138 x0) = 31 → ((Int32.toInt (S.I 138 x0) = 32 → (True ∧ Q (some (.inl ((-1) : Int32))) S)) ∧ (¬ Int32.toInt (S.I 138 x0) = 32 → ((Int32.toInt (S.I 138 x0) = 33 → (True ∧ Q (some (.inl ((-1) : Int32))) S)) ∧ (¬ Int32.toInt (S.I 138 x0) = 33 → ((Int32.toInt (S.I 138 x0) = 34 → (True ∧ Q (some (.inl ((-1) : Int32))) S)) ∧ (¬ Int32.toInt (S.I 138 x0) = 34 → ((Int32.toInt (S.I 138 x0) = 35 → (True ∧ Q (some (.inl ((-1) : Int32))) S)) ∧ (¬ Int32.toInt (S.I 138 x0) = 35 → ((Int32.toInt (S.I 138 x0) = 36 → (True ∧ Q (some (.inl ((-1) : Int32))) S)) ∧ (¬ Int32.toInt (S.I 138 x0) = 36 → ((Int32.toInt (S.I 138 x0) = 37 → (True ∧ Q (some (.inl ((-1) : Int32))) S)) ∧ (¬ Int32.toInt (S.I 138 x0) = 37 → ((Int32.toInt (S.I 138 x0) = 38 → (True ∧ Q (some (.inl ((-1) : Int32))) S)) ∧ (¬ Int32.toInt (S.I 138 x0) = 38 → ((Int32.toInt (S.I 138 x0) = 39 → (True ∧ Q (some (.inl ((-1) : Int32))) S)) ∧ (¬ Int32.toInt (S.I 138 x0) = 39 → ((Int32.toInt (S.I 138 x0) = 40 → (True ∧ Q (some (.inl ((-1) : Int32))) S)) ∧ (¬ Int32.toInt (S.I 138 x0) = 40 → ((Int32.toInt (S.I 138 x0) = 41 → (True ∧ Q (some (.inl ((-1) : Int32))) S)) ∧ (¬ Int32.toInt (S.I 138 x0) = 41 → ((Int32.toInt (S.I 138 x0) = 42 → (True ∧ Q (some (.inl ((-1) : Int32))) S)) ∧ (¬ Int32.toInt (S.I 138 x0) = 42 → ((Int32.toInt (S.I 138 x0) = 43 → (True ∧ Q (some (.inl ((-1) : Int32))) S)) ∧ (¬ Int32.toInt (S.I 138 x0) = 43 → ((Int32.toInt (S.I 138 x0) = 44 → (True ∧ Q (some (.inl ((-1) : Int32))) S)) ∧ (¬ Int32.toInt (S.I 138 x0) = 44 → ((Int32.toInt (S.I 138 x0) = 45 → (True ∧ Q (some (.inl ((-1) : Int32))) S)) ∧ (¬ Int32.toInt (S.I 138 x0) = 45 → ((Int32.toInt (S.I 138 x0) = 46 → (True ∧ Q (some (.inl ((-1) : Int32))) S)) ∧ (¬ Int32.toInt (S.I 138 x0) = 46 → ((Int32.toInt (S.I 138 x0) = 47 → (True ∧ Q (some (.inl ((-1) : Int32))) S)) ∧ (¬ Int32.toInt (S.I 138 x0) = 47 → ((Int32.toInt (S.I 138 x0) = 48 → (True ∧ Q (some (.inl ((-1) : Int32))) S)) ∧ (¬ Int32.toInt (S.I 138 x0) = 48 → ((Int32.toInt (S.I 138 x0) = 49 → (True ∧ Q (some (.inl ((-1) : Int32))) S)) ∧ (¬ Int32.toInt (S.I 138 x0) = 49 → ((Int32.toInt (S.I 138 x0) = 50 → (True ∧ Q (some (.inl ((-1) : Int32))) S)) ∧ (¬ Int32.toInt (S.I 138 x0) = 50 → ((Int32.toInt (S.I 138 x0) = 51 → (True ∧ Q (some (.inl ((-1) : Int32))) S)) ∧ (¬ Int32.toInt (S.I 138 x0) = 51 → ((Int32.toInt (S.I 138 x0) = 52 → (True ∧ Q (some (.inl ((-1) : Int32))) S)) ∧ (¬ Int32.toInt (S.I 138 x0) = 52 → ((Int32.toInt (S.I 138 x0) = 53 → (True ∧ Q (some (.inl ((-1) : Int32))) S)) ∧ (¬ Int32.toInt (S.I 138 x0) = 53 → ((Int32.toInt (S.I 138 x0) = 54 → (True ∧ Q (some (.inl ((-1) : Int32))) S)) ∧ (¬ Int32.toInt (S.I 138 x0) = 54 → ((Int32.toInt (S.I 138 x0) = 55 → (True ∧ Q (some (.inl ((-1) : Int32))) S)) ∧ (¬ Int32.toInt (S.I 138 x0) = 55 → ((Int32.toInt (S.I 138 x0) = 56 → (True ∧ Q (some (.inl ((-1) : Int32))) S)) ∧ (¬ Int32.toInt (S.I 138 x0) = 56 → ((Int32.toInt (S.I 138 x0) = 57 → (True ∧ Q (some (.inl ((-1) : Int32))) S)) ∧ (¬ Int32.toInt (S.I 138 x0) = 57 → ((Int32.toInt (S.I 138 x0) = 58 → (True ∧ Q (some (.inl ((-1) : Int32))) S)) ∧ (¬ Int32.toInt (S.I 138 x0) = 58 → ((Int32.toInt (S.I 138 x0) = 59 → (True ∧ Q (some (.inl ((-1) : Int32))) S)) ∧ (¬ Int32.toInt (S.I 138 x0) = 59 → ((Int32.toInt (S.I 138 x0) = 60 → (True ∧ Q (some (.inl ((-1) : Int32))) S)) ∧ (¬ Int32.toInt (S.I 138 x0) = 60 → ((Int32.toInt (S.I 138 x0) = 61 → (True ∧ Q (some (.inl ((-1) : Int32))) S)) ∧ (¬ Int32.toInt (S.I 138 x0) = 61 → ((Int32.toInt (S.I 138 x0) = 62 → (True ∧ Q (some (.inl ((-1) : Int32))) S)) ∧ (¬ Int32.toInt (S.I 138 x0) = 62 → ((Int32.toInt (S.I 138 x0) = 63 → (True ∧ Q (some (.inl ((-1) : Int32))) S)) ∧ (¬ Int32.toInt (S.I 138 x0) = 63 → ((Int32.toInt (S.I 138 x0) = 64 → (True ∧ Q (some (.inl ((-1) : Int32))) S)) ∧ (¬ Int32.toInt (S.I 138 x0) = 64 → ((Int32.toInt (S.I 138 x0) = 65 → (True ∧ Q (some (.inl ((-1) : Int32))) S)) ∧ (¬ Int32.toInt (S.I 138 x0) = 65 → ((Int32.toInt (S.I 138 x0) = 66 → (True ∧ Q (some (.inl ((-1) : Int32))) S)) ∧ (¬ Int32.toInt (S.I 138 x0) = 66 → ((Int32.toInt (S.I 138 x0) = 67 → (True ∧ Q (some (.inl ((-1) : Int32))) S)) ∧ (¬ Int32.toInt (S.I 138 x0) = 67 → ((Int32.toInt (S.I 138 x0) = 68 → (True ∧ Q (some (.inl (1 : Int32))) S)) ∧ (¬ Int32.toInt (S.I 138 x0) = 68 → ((Int32.toInt (S.I 138 x0) = 69 → (True ∧ Q (some (.inl ((-1) : Int32))) S)) ∧ (¬ Int32.toInt (S.I 138 x0) = 69 → ((Int32.toInt (S.I 138 x0) = 70 → (True ∧ Q (some (.inl ((-1) : Int32))) S)) ∧ (¬ Int32.toInt (S.I 138 x0) = 70 → ((Int32.toInt (S.I 138 x0) = 71 → (True ∧ Q (some (.inl ((-1) : Int32))) S)) ∧ (¬ Int32.toInt (S.I 138 x0) = 71 → ((Int32.toInt (S.I 138 x0) = 72 → (True ∧ Q (some (.inl ((-1) : Int32))) S)) ∧ (¬ Int32.toInt (S.I 138 x0) = 72 → ((Int32.toInt (S.I 138 x0) = 73 → (True ∧ Q (some (.inl ((-1) : Int32))) S)) ∧ (¬ Int32.toInt (S.I 138 x0) = 73 → ((Int32.toInt (S.I 138 x0) = 74 → (True ∧ Q (some (.inl ((-1) : Int32))) S)) ∧ (¬ Int32.toInt (S.I 138 x0) = 74 → ((Int32.toInt (S.I 138 x0) = 75 → (True ∧ Q (some (.inl ((-1) : Int32))) S)) ∧ (¬ Int32.toInt (S.I 138 x0) = 75 → ((Int32.toInt (S.I 138 x0) = 76 → (True ∧ Q (some (.inl ((-1) : Int32))) S)) ∧ (¬ Int32.toInt (S.I 138 x0) = 76 → ((Int32.toInt (S.I 138 x0) = 77 → (True ∧ Q (some (.inl ((-1) : Int32))) S)) ∧ (¬ Int32.toInt (S.I 138 x0) = 77 → ((Int32.toInt (S.I 138 x0) = 78 → (True ∧ Q (some (.inl ((-1) : Int32))) S)) ∧ (¬ Int32.toInt (S.I 138 x0) = 78 → ((Int32.toInt (S.I 138 x0) = 79 → (True ∧ Q (some (.inl ((-1) : Int32))) S)) ∧ (¬ Int32.toInt (S.I 138 x0) = 79 → ((Int32.toInt (S.I 138 x0) = 80 → (True ∧ Q (some (.inl ((-1) : Int32))) S)) ∧ (¬ Int32.toInt (S.I 138 x0) = 80 → ((Int32.toInt (S.I 138 x0) = 81 → (True ∧ Q (some (.inl ((-1) : Int32))) S)) ∧ (¬ Int32.toInt (S.I 138 x0) = 81 → ((Int32.toInt (S.I 138 x0) = 82 → (True ∧ Q (some (.inl ((-1) : Int32))) S)) ∧ (¬ Int32.toInt (S.I 138 x0) = 82 → ((Int32.toInt (S.I 138 x0) = 83 → (True ∧ Q (some (.inl (1 : Int32))) S)) ∧ (¬ Int32.toInt (S.I 138 x0) = 83 → ((Int32.toInt (S.I 138 x0) = 84 → (True ∧ Q (some (.inl ((-1) : Int32))) S)) ∧ (¬ Int32.toInt (S.I 138 x0) = 84 → ((Int32.toInt (S.I 138 x0) = 85 → (True ∧ Q (some (.inl ((-1) : Int32))) S)) ∧ (¬ Int32.toInt (S.I 138 x0) = 85 → ((Int32.toInt (S.I 138 x0) = 86 → (True ∧ Q (some (.inl ((-1) : Int32))) S)) ∧ (¬ Int32.toInt (S.I 138 x0) = 86 → ((Int32.toInt (S.I 138 x0) = 87 → (True ∧ Q (some (.inl (0 : Int32))) S)) ∧ (¬ Int32.toInt (S.I 138 x0) = 87 → ((Int32.toInt (S.I 138 x0) = 88 → (True ∧ Q (some (.inl ((-1) : Int32))) S)) ∧ (¬ Int32.toInt (S.I 138 x0) = 88 → ((Int32.toInt (S.I 138 x0) = 89 → (True ∧ Q (some (.inl ((-1) : Int32))) S)) ∧ (¬ Int32.toInt (S.I 138 x0) = 89 → ((Int32.toInt (S.I 138 x0) = 90 → (ox_has (S.K x0) 139 = true ∧ (ox_has (S.K x0) 85 = true ∧ (ox_rdI (S.K (S.R 85 x0)) = true ∧ vp_in x1 (S.len (S.R 85 x0)) ∧ (((S.rI (S.R 85 x0) (Int32.toNatClampNeg x1)) ≤ (S.I 139 x0) → (True ∧ Q (some (.inl ((-1) : Int32))) S)) ∧ (¬ (S.rI (S.R 85 x0) (Int32.toNatClampNeg x1)) ≤ (S.I 139 x0) → (True ∧ Q (some (.inl (1 : Int32))) S))))))) ∧ (¬ Int32.toInt (S.I 138 x0) = 90 → ((Int32.toInt (S.I 138 x0) = 91 → (True ∧ Q (some (.inl ((-1) : Int32))) S)) ∧ (¬ Int32.toInt (S.I 138 x0) = 91 → ((Int32.toInt (S.I 138 x0) = 92 → (ox_has (S.K x0) 139 = true ∧ (((10 : Int32) < (S.I 139 x0) → (True ∧ Q (some (.inl ((-1) : Int32))) S)) ∧ (¬ (10 : Int32) < (S.I 139 x0) → (True ∧ Q (some (.inl (1 : Int32))) S))))) ∧ (¬ Int32.toInt (S.I 138 x0) = 92 → ((Int32.toInt (S.I 138 x0) = 93 → (True ∧ Q (some (.inl (1 : Int32))) S)) ∧ (¬ Int32.toInt (S.I 138 x0) = 93 → ((Int32.toInt (S.I 138 x0) = 94 → (True ∧ Q (some (.inl ((-1) : Int32))) S)) ∧ (¬ Int32.toInt (S.I 138 x0) = 94 → ((Int32.toInt (S.I 138 x0) = 95 → (True ∧ Q (some (.inl ((-1) : Int32))) S)) ∧ (¬ Int32.toInt (S.I 138 x0) = 95 → ((Int32.toInt (S.I 138 x0) = 96 → (True ∧ Q (some (.inl ((-1) : Int32))) S)) ∧ (¬ Int32.toInt (S.I 138 x0) = 96 → ((Int32.toInt (S.I 138 x0) = 97 → (True ∧ Q (some (.inl ((-1) : Int32))) S)) ∧ (¬ Int32.toInt (S.I 138 x0) = 97 → ((Int32.toInt (S.I 138 x0) = 98 → (True ∧ Q (some (.inl ((-1) : Int32))) S)) ∧ (¬ Int32.toInt (S.I 138 x0) = 98 → ((Int32.toInt (S.I 138 x0) = 99 → (True ∧ Q (some (.inl ((-1) : Int32))) S)) ∧ (¬ Int32.toInt (S.I 138 x0) = 99 → ((Int32.toInt (S.I 138 x0) = 100 → (ox_has (S.K x0) 139 = true ∧ (ox_has (S.K x0) 83 = true ∧ (ox_rdI (S.K (S.R 83 x0)) = true ∧ vp_in x1 (S.len (S.R 83 x0)) ∧ (((S.rI (S.R 83 x0) (Int32.toNatClampNeg x1)) ≤ (S.I 139 x0) → (True ∧ Q (some (.inl ((-1) : Int32))) S)) ∧ (¬ (S.rI (S.R 83 x0) (Int32.toNatClampNeg x1)) ≤ (S.I 139 x0) → (True ∧ Q (some (.inl (0 : Int32))) S))))))) ∧ (¬ Int32.toInt (S.I 138 x0) = 100 → ((Int32.toInt (S.I 138 x0) = 101 → (ox_has (S.K x0) 139 = true ∧ (ox_has (S.K x0) 85 = true ∧ (ox_rdI (S.K (S.R 85 x0)) = true ∧ vp_in x1 (S.len (S.R 85 x0)) ∧ (((S.rI (S.R 85 x0) (Int32.toNatClampNeg x1)) ≤ (S.I 139 x0) → (True ∧ Q (some (.inl ((-1) : Int32))) S)) ∧ (¬ (S.rI (S.R 85 x0) (Int32.toNatClampNeg x1)) ≤ (S.I 139 x0) → (True ∧ Q (some (.inl (0 : Int32))) S))))))) ∧ (¬ Int32.toInt (S.I 138 x0) = 101 → ((Int32.toInt (S.I 138 x0) = 102 → (ox_has (S.K x0) 139 = true ∧ (((10 : Int32) < (S.I 139 x0) → (True ∧ Q (some (.inl ((-1) : Int32))) S)) ∧ (¬ (10 : Int32) < (S.I 139 x0) → (ox_has (S.K x0) 139 = true ∧ (True ∧ Q (some (.inl (S.I 139 x0))) S)))))) ∧ (¬ Int32.toInt (S.I 138 x0) = 102 → ((Int32.toInt (S.I 138 x0) = 103 → (True ∧ Q (some (.inl ((-1) : Int32))) S)) ∧ (¬ Int32.toInt (S.I 138 x0) = 103 → ((Int32.toInt (S.I 138 x0) = 104 → (True ∧ Q (some (.inl ((-1) : Int32))) S)) ∧ (¬ Int32.toInt (S.I 138 x0) = 104 → ((Int32.toInt (S.I 138 x0) = 105 → (True ∧ Q (some (.inl ((-1) : Int32))) S)) ∧ (¬ Int32.toInt (S.I 138 x0) = 105 → ((Int32.toInt (S.I 138 x0) = 106 → (True ∧ Q (some (.inl ((-1) : Int32))) S)) ∧ (¬ Int32.toInt (S.I 138 x0) = 106 → ((Int32.toInt (S.I 138 x0) = 107 → (ox_has (S.K x0) 139 = true ∧ (((S.I 139 x0) ≤ 5 → (True ∧ Q (some (.inl (2 : Int32))) S)) ∧ (¬ (S.I 139 x0) ≤ 5 → (ox_has (S.K x0) 139 = true ∧ ((¬ (S.I 139 x0) = 10 → (True ∧ Q (some (.inl ((-1) : Int32))) S)) ∧ ((S.I 139 x0) = 10 → (True ∧ Q (some (.inl (2 : Int32))) S)))))))) ∧ (¬ Int32.toInt (S.I 138 x0) = 107 → ((Int32.toInt (S.I 138 x0) = 108 → (True ∧ Q (some (.inl ((-1) : Int32))) S)) ∧ (¬ Int32.toInt (S.I 138 x0) = 108 → ((Int32.toInt (S.I 138 x0) = 109 → (True ∧ Q (some (.inl ((-1) : Int32))) S)) ∧ (¬ Int32.toInt (S.I 138 x0) = 109 → ((Int32.toInt (S.I 138 x0) = 110 → (ox_has (S.K x0) 140 = true ∧ (ox_has (S.K x0) 139 = true ∧ (3 ≤ 3 ∧ S.K x0 = 14 ∧ 0 ≤ 8 ∧ ∃ mc9 mk10, mc9 ≤ mr ∧ mk10 ≤ sr ∧ E 164 [.inr (.inr (x0)), .inl (x1), .inl ((S.I 140 x0) + (S.I 139 x0))] mc9 mk10 S (k_165_683 E x0 x1 (mr - mc9) (sr - mk10) Q))))) ∧ (¬ Int32.toInt (S.I 138 x0) = 110 → ((Int32.toInt (S.I 138 x0) = 111 → (True ∧ Q (some (.inl ((-1) : Int32))) S)) ∧ (¬ Int32.toInt (S.I 138 x0) = 111 → ((Int32.toInt (S.I 138 x0) = 112 → (True ∧ Q (some (.inl ((-1) : Int32))) S)) ∧ (¬ Int32.toInt (S.I 138 x0) = 112 → ((Int32.toInt (S.I 138 x0) = 113 → (ox_has (S.K x0) 139 = true ∧ (3 ≤ 3 ∧ S.K x0 = 14 ∧ 0 ≤ 8 ∧ ∃ mc7 mk8, mc7 ≤ mr ∧ mk8 ≤ sr ∧ E 164 [.inr (.inr (x0)), .inl (x1), .inl (S.I 139 x0)] mc7 mk8 S (k_165_701 E x0 x1 (mr - mc7) (sr - mk8) Q)))) ∧ (¬ Int32.toInt (S.I 138 x0) = 113 → ((Int32.toInt (S.I 138 x0) = 114 → (ox_has (S.K x0) 139 = true ∧ (3 ≤ 3 ∧ S.K x0 = 14 ∧ 0 ≤ 8 ∧ ∃ mc5 mk6, mc5 ≤ mr ∧ mk6 ≤ sr ∧ E 164 [.inr (.inr (x0)), .inl (x1), .inl (S.I 139 x0)] mc5 mk6 S (k_165_719 E x0 x1 (mr - mc5) (sr - mk6) Q)))) ∧ (¬ Int32.toInt (S.I 138 x0) = 114 → ((Int32.toInt (S.I 138 x0) = 115 → (ox_has (S.K x0) 139 = true ∧ (3 ≤ 3 ∧ S.K x0 = 14 ∧ 0 ≤ 8 ∧ ∃ mc3 mk4, mc3 ≤ mr ∧ mk4 ≤ sr ∧ E 164 [.inr (.inr (x0)), .inl (x1), .inl (S.I 139 x0)] mc3 mk4 S (k_165_719 E x0 x1 (mr - mc3) (sr - mk4) Q)))) ∧ (¬ Int32.toInt (S.I 138 x0) = 115 → ((Int32.toInt (S.I 138 x0) = 116 → (True ∧ Q (some (.inl ((-1) : Int32))) S)) ∧ (¬ Int32.toInt (S.I 138 x0) = 116 → ((Int32.toInt (S.I 138 x0) = 117 → (True ∧ Q (some (.inl ((-1) : Int32))) S)) ∧ (¬ Int32.toInt (S.I 138 x0) = 117 → ((Int32.toInt (S.I 138 x0) = 118 → (True ∧ Q (some (.inl ((-1) : Int32))) S)) ∧ (¬ Int32.toInt (S.I 138 x0) = 118 → ((Int32.toInt (S.I 138 x0) = 119 → (True ∧ Q (some (.inl ((-1) : Int32))) S)) ∧ (¬ Int32.toInt (S.I 138 x0) = 119 → ((Int32.toInt (S.I 138 x0) = 120 → (True ∧ Q (some (.inl ((-1) : Int32))) S)) ∧ (¬ Int32.toInt (S.I 138 x0) = 120 → ((Int32.toInt (S.I 138 x0) = 121 → (True ∧ Q (some (.inl ((-1) : Int32))) S)) ∧ (¬ Int32.toInt (S.I 138 x0) = 121 → ((Int32.toInt (S.I 138 x0) = 122 → (ox_has (S.K x0) 140 = true ∧ (ox_has (S.K x0) 139 = true ∧ (3 ≤ 3 ∧ S.K x0 = 14 ∧ 0 ≤ 8 ∧ ∃ mc1 mk2, mc1 ≤ mr ∧ mk2 ≤ sr ∧ E 164 [.inr (.inr (x0)), .inl (x1), .inl ((S.I 140 x0) + (S.I 139 x0))] mc1 mk2 S (k_165_683 E x0 x1 (mr - mc1) (sr - mk2) Q))))) ∧ (¬ Int32.toInt (S.I 138 x0) = 122 → ((Int32.toInt (S.I 138 x0) = 123 → (True ∧ Q (some (.inl ((-1) : Int32))) S)) ∧ (¬ Int32.toInt (S.I 138 x0) = 123 → ((Int32.toInt (S.I 138 x0) = 124 → (ox_has (S.K x0) 139 = true ∧ (ox_has (S.K x0) 78 = true ∧ (ox_rdI (S.K (S.R 78 x0)) = true ∧ vp_in x1 (S.len (S.R 78 x0)) ∧ (((S.rI (S.R 78 x0) (Int32.toNatClampNeg x1)) ≤ (S.I 139 x0) → (True ∧ Q (some (.inl ((-1) : Int32))) S)) ∧ (¬ (S.rI (S.R 78 x0) (Int32.toNatClampNeg x1)) ≤ (S.I 139 x0) → (True ∧ Q (some (.inl (0 : Int32))) S))))))) ∧ (¬ Int32.toInt (S.I 138 x0) = 124 → ((Int32.toInt (S.I 138 x0) = 125 → (ox_has (S.K x0) 139 = true ∧ (ox_has (S.K x0) 78 = true ∧ (ox_rdI (S.K (S.R 78 x0)) = true ∧ vp_in x1 (S.len (S.R 78 x0)) ∧ (((S.rI (S.R 78 x0) (Int32.toNatClampNeg x1)) ≤ (S.I 139 x0) → (True ∧ Q (some (.inl ((-1) : Int32))) S)) ∧ (¬ (S.rI (S.R 78 x0) (Int32.toNatClampNeg x1)) ≤ (S.I 139 x0) → (True ∧ Q (some (.inl (1 : Int32))) S))))))) ∧ (¬ Int32.toInt (S.I 138 x0) = 125 → ((Int32.toInt (S.I 138 x0) = 126 → (True ∧ Q (some (.inl ((-1) : Int32))) S)) ∧ (¬ Int32.toInt (S.I 138 x0) = 126 → ((Int32.toInt (S.I 138 x0) = 127 → (True ∧ Q (some (.inl ((-1) : Int32))) S)) ∧ (¬ Int32.toInt (S.I 138 x0) = 127 → ((Int32.toInt (S.I 138 x0) = 128 → (True ∧ Q (some (.inl ((-1) : Int32))) S)) ∧ (¬ Int32.toInt (S.I 138 x0) = 128 → ((Int32.toInt (S.I 138 x0) = 129 → (True ∧ Q (some (.inl ((-1) : Int32))) S)) ∧ (¬ Int32.toInt (S.I 138 x0) = 129 → ((Int32.toInt (S.I 138 x0) = 130 → (ox_has (S.K x0) 139 = true ∧ ((¬ (S.I 139 x0) = 1 → (True ∧ Q (some (.inl ((-1) : Int32))) S)) ∧ ((S.I 139 x0) = 1 → (True ∧ Q (some (.inl (1 : Int32))) S))))) ∧ (¬ Int32.toInt (S.I 138 x0) = 130 → ((Int32.toInt (S.I 138 x0) = 131 → (ox_has (S.K x0) 139 = true ∧ (((4 : Int32) < (S.I 139 x0) → (True ∧ Q (some (.inl ((-1) : Int32))) S)) ∧ (¬ (4 : Int32) < (S.I 139 x0) → (ox_has (S.K x0) 139 = true ∧ (True ∧ Q (some (.inl ((S.I 139 x0) + 1))) S)))))) ∧ (¬ Int32.toInt (S.I 138 x0) = 131 → ((Int32.toInt (S.I 138 x0) = 132 → (ox_has (S.K x0) 139 = true ∧ ((¬ (S.I 139 x0) = 0 → (True ∧ Q (some (.inl ((-1) : Int32))) S)) ∧ ((S.I 139 x0) = 0 → (True ∧ Q (some (.inl (1 : Int32))) S))))) ∧ (¬ Int32.toInt (S.I 138 x0) = 132 → (True ∧ Q (some (.inl ((-1) : Int32))) S))))))))))))))))))))))))))))))))))))))))))))))))))))))))))))))))))))))))))))))))))))))))))))))))))))))))))))))))))))))))))))))))))))))))))))))))))))))))))))))))))))))))))))))))))))))))))))))))))))))))))))))))))))))))))))))))))))))))))))))))))))))))))))))))))))))))))
set_option maxRecDepth 20000 in
set_option maxHeartbeats 4000000 in
theorem f_165 {sp : ox_E} (hsp : ox_mono sp) {d : Nat} {mr sr : Nat} {x0 : Nat} {x1 : Int32} {S : ox_St} {Q : ox_Q} (h : q_165 (ox_M sp d) x0 x1 S mr sr Q) : ox_M sp (d + 1) 165 [.inr (.inr (x0)), .inl (x1)] mr sr S Q := Or.inr ⟨Nat.le_of_ble_eq_true rfl, ox_C_fold (ox_M_mono hsp d) h⟩
/-! OpcodeFramesModel.gives()I -/
set_option maxRecDepth 20000 in
def q_166 (E : ox_E) (x0 : Nat) (S : ox_St) (mr sr : Nat) (Q : ox_Q) : Prop :=
  (ox_has (S.K x0) 138 = true ∧ ((Int32.toInt (S.I 138 x0) = 2 → (True ∧ Q (some (.inl (2 : Int32))) S)) ∧ (¬ Int32.toInt (S.I 138 x0) = 2 → ((Int32.toInt (S.I 138 x0) = 3 → (True ∧ Q (some (.inl (3 : Int32))) S)) ∧ (¬ Int32.toInt (S.I 138 x0) = 3 → ((Int32.toInt (S.I 138 x0) = 4 → (True ∧ Q (some (.inl (2 : Int32))) S)) ∧ (¬ Int32.toInt (S.I 138 x0) = 4 → ((Int32.toInt (S.I 138 x0) = 11 → (True ∧ Q (some (.inl (1 : Int32))) S)) ∧ (¬ Int32.toInt (S.I 138 x0) = 11 → ((Int32.toInt (S.I 138 x0) = 12 → (True ∧ Q (some (.inl (1 : Int32))) S)) ∧ (¬ Int32.toInt (S.I 138 x0) = 12 → ((Int32.toInt (S.I 138 x0) = 20 → (True ∧ Q (some (.inl (1 : Int32))) S)) ∧ (¬ Int32.toInt (S.I 138 x0) = 20 → ((Int32.toInt (S.I 138 x0) = 22 → (True ∧ Q (some (.inl (1 : Int32))) S)) ∧ (¬ Int32.toInt (S.I 138 x0) = 22 → ((Int32.toInt (S.I 138 x0) = 23 → (True ∧ Q (some (.inl (1 : Int32))) S)) ∧ (¬ Int32.toInt (S.I 138 x0) = 23 → ((Int32.toInt (S.I 138 x0) = 24 → (True ∧ Q (some (.inl (1 : Int32))) S)) ∧ (¬ Int32.toInt (S.I 138 x0) = 24 → ((Int32.toInt (S.I 138 x0) = 25 → (True ∧ Q (some (.inl (1 : Int32))) S)) ∧ (¬ Int32.toInt (S.I 138 x0) = 25 → ((Int32.toInt (S.I 138 x0) = 26 → (True ∧ Q (some (.inl (1 : Int32))) S)) ∧ (¬ Int32.toInt (S.I 138 x0) = 26 → ((Int32.toInt (S.I 138 x0) = 68 → (True ∧ Q (some (.inl (1 : Int32))) S)) ∧ (¬ Int32.toInt (S.I 138 x0) = 68 → ((Int32.toInt (S.I 138 x0) = 92 → (ox_has (S.K x0) 139 = true ∧ (True ∧ Q (some (.inl (S.I 139 x0))) S))) ∧ (¬ Int32.toInt (S.I 138 x0) = 92 → ((Int32.toInt (S.I 138 x0) = 93 → (True ∧ Q (some (.inl (2 : Int32))) S)) ∧ (¬ Int32.toInt (S.I 138 x0) = 93 → ((Int32.toInt (S.I 138 x0) = 100 → (True ∧ Q (some (.inl (1 : Int32))) S)) ∧ (¬ Int32.toInt (S.I 138 x0) = 100 → ((Int32.toInt (S.I 138 x0) = 101 → (True ∧ Q (some (.inl (1 : Int32))) S)) ∧ (¬ Int32.toInt (S.I 138 x0) = 101 → ((Int32.toInt (S.I 138 x0) = 102 → (True ∧ Q (some (.inl (1 : Int32))) S)) ∧ (¬ Int32.toInt (S.I 138 x0) = 102 → ((Int32.toInt (S.I 138 x0) = 107 → (True ∧ Q (some (.inl (1 : Int32))) S)) ∧ (¬ Int32.toInt (S.I 138 x0) = 107 → ((Int32.toInt (S.I 138 x0) = 124 → (True ∧ Q (some (.inl (1 : Int32))) S)) ∧ (¬ Int32.toInt (S.I 138 x0) = 124 → ((Int32.toInt (S.I 138 x0) = 131 → (True ∧ Q (some (.inl (1 : Int32))) S)) ∧ (¬ Int32.toInt (S.I 138 x0) = 131 → ((Int32.toInt (S.I 138 x0) = 132 → (True ∧ Q (some (.inl (1 : Int32))) S)) ∧ (¬ Int32.toInt (S.I 138 x0) = 132 → (True ∧ Q (some (.inl (0 : Int32))) S))))))))))))))))))))))))))))))))))))))))))))
set_option maxRecDepth 20000 in
set_option maxHeartbeats 4000000 in
theorem f_166 {sp : ox_E} (hsp : ox_mono sp) {d : Nat} {mr sr : Nat} {x0 : Nat} {S : ox_St} {Q : ox_Q} (h : q_166 (ox_M sp d) x0 S mr sr Q) : ox_M sp (d + 1) 166 [.inr (.inr (x0))] mr sr S Q := Or.inr ⟨Nat.le_of_ble_eq_true rfl, ox_C_fold (ox_M_mono hsp d) h⟩
/-! OpcodeFramesModel.leads(IIIII)Z -/
def c_167_49 (E : ox_E) (x0 : Nat) (x1 : Int32) (x2 : Int32) (x3 : Int32) (x4 : Int32) (x5 : Int32) (x6 : Int32) (S : ox_St) (mr sr : Nat) (Q : ox_Q) : Prop := ox_C E (ox_mi 167).2.2.2.1 (ox_mc 167) (ox_cut 167) Q 49 [some (.inr (.inr (x0))), some (.inl (x1)), some (.inl (x2)), some (.inl (x3)), some (.inl (x4)), some (.inl (x5)), some (.inl (x6)), none] [] S mr sr
def c_167_148 (E : ox_E) (x0 : Nat) (x1 : Int32) (x2 : Int32) (x3 : Int32) (x4 : Int32) (x5 : Int32) (x6 : Int32) (x7 : Int32) (S : ox_St) (mr sr : Nat) (Q : ox_Q) : Prop := ox_C E (ox_mi 167).2.2.2.1 (ox_mc 167) (ox_cut 167) Q 148 [some (.inr (.inr (x0))), some (.inl (x1)), some (.inl (x2)), some (.inl (x3)), some (.inl (x4)), some (.inl (x5)), some (.inl (x6)), some (.inl (x7))] [] S mr sr
set_option maxRecDepth 20000 in
def q_167_148 (E : ox_E) (x0 : Nat) (x1 : Int32) (x2 : Int32) (x3 : Int32) (x4 : Int32) (x5 : Int32) (x6 : Int32) (x7 : Int32) (S : ox_St) (mr sr : Nat) (Q : ox_Q) : Prop :=
  ((x5 ≤ x7 → ((x6 = 0 ∨ x6 = 1) ∧ Q (some (.inl x6)) S)) ∧ (¬ x5 ≤ x7 → ((x6 = 0 → ((x6 = 0 ∨ x6 = 1) ∧ Q (some (.inl x6)) S)) ∧ (¬ x6 = 0 → (ox_has (S.K x0) 135 = true ∧ (ox_rdI (S.K (S.R 135 x0)) = true ∧ vp_in ((4 * x2) + x7) (S.len (S.R 135 x0)) ∧ (ox_has (S.K x0) 135 = true ∧ (ox_rdI (S.K (S.R 135 x0)) = true ∧ vp_in ((4 * x4) + x7) (S.len (S.R 135 x0)) ∧ ((¬ (S.rI (S.R 135 x0) (Int32.toNatClampNeg ((4 * x2) + x7))) = (S.rI (S.R 135 x0) (Int32.toNatClampNeg ((4 * x4) + x7))) → c_167_148 E x0 x1 x2 x3 x4 x5 0 (x7 + 1) S mr sr Q) ∧ ((S.rI (S.R 135 x0) (Int32.toNatClampNeg ((4 * x2) + x7))) = (S.rI (S.R 135 x0) (Int32.toNatClampNeg ((4 * x4) + x7))) → (ox_has (S.K x0) 136 = true ∧ (ox_rdI (S.K (S.R 136 x0)) = true ∧ vp_in ((4 * x2) + x7) (S.len (S.R 136 x0)) ∧ (ox_has (S.K x0) 136 = true ∧ (ox_rdI (S.K (S.R 136 x0)) = true ∧ vp_in ((4 * x4) + x7) (S.len (S.R 136 x0)) ∧ ((¬ (S.rI (S.R 136 x0) (Int32.toNatClampNeg ((4 * x2) + x7))) = (S.rI (S.R 136 x0) (Int32.toNatClampNeg ((4 * x4) + x7))) → c_167_148 E x0 x1 x2 x3 x4 x5 0 (x7 + 1) S mr sr Q) ∧ ((S.rI (S.R 136 x0) (Int32.toNatClampNeg ((4 * x2) + x7))) = (S.rI (S.R 136 x0) (Int32.toNatClampNeg ((4 * x4) + x7))) → c_167_148 E x0 x1 x2 x3 x4 x5 1 (x7 + 1) S mr sr Q))))))))))))))))
set_option maxRecDepth 20000 in
set_option maxHeartbeats 4000000 in
theorem f_167_148 {E : ox_E} (hE : ox_mono E) {mr sr : Nat} {x0 : Nat} {x1 : Int32} {x2 : Int32} {x3 : Int32} {x4 : Int32} {x5 : Int32} {x6 : Int32} {x7 : Int32} {S : ox_St} {Q : ox_Q} (h : q_167_148 E x0 x1 x2 x3 x4 x5 x6 x7 S mr sr Q) : c_167_148 E x0 x1 x2 x3 x4 x5 x6 x7 S mr sr Q := ox_C_fold hE h
set_option maxRecDepth 20000 in
def q_167_49 (E : ox_E) (x0 : Nat) (x1 : Int32) (x2 : Int32) (x3 : Int32) (x4 : Int32) (x5 : Int32) (x6 : Int32) (S : ox_St) (mr sr : Nat) (Q : ox_Q) : Prop :=
  ((x5 ≤ x6 → (ox_has (S.K x0) 137 = true ∧ (S.K (S.R 137 x0) = 17 ∧ vp_in x2 (S.len (S.R 137 x0)) ∧ (let S1 := S.wI (S.R 137 x0) (Int32.toNatClampNeg x2) (vp_nar .boolean 1)
  (((1 : Int32) = 0 ∨ (1 : Int32) = 1) ∧ Q (some (.inl (1 : Int32))) S1))))) ∧ (¬ x5 ≤ x6 → (ox_has (S.K x0) 135 = true ∧ (ox_has (S.K x0) 135 = true ∧ (ox_rdI (S.K (S.R 135 x0)) = true ∧ vp_in ((4 * x4) + x6) (S.len (S.R 135 x0)) ∧ (S.K (S.R 135 x0) = 15 ∧ vp_in ((4 * x2) + x6) (S.len (S.R 135 x0)) ∧ (let S2 := S.wI (S.R 135 x0) (Int32.toNatClampNeg ((4 * x2) + x6)) (S.rI (S.R 135 x0) (Int32.toNatClampNeg ((4 * x4) + x6)))
  (ox_has (S2.K x0) 136 = true ∧ (ox_has (S2.K x0) 136 = true ∧ (ox_rdI (S2.K (S2.R 136 x0)) = true ∧ vp_in ((4 * x4) + x6) (S2.len (S2.R 136 x0)) ∧ (S2.K (S2.R 136 x0) = 15 ∧ vp_in ((4 * x2) + x6) (S2.len (S2.R 136 x0)) ∧ (let S3 := S2.wI (S2.R 136 x0) (Int32.toNatClampNeg ((4 * x2) + x6)) (S2.rI (S2.R 136 x0) (Int32.toNatClampNeg ((4 * x4) + x6)))
  c_167_49 E x0 x1 x2 x3 x4 x5 (x6 + 1) S3 mr sr Q))))))))))))
set_option maxRecDepth 20000 in
set_option maxHeartbeats 4000000 in
theorem f_167_49 {E : ox_E} (hE : ox_mono E) {mr sr : Nat} {x0 : Nat} {x1 : Int32} {x2 : Int32} {x3 : Int32} {x4 : Int32} {x5 : Int32} {x6 : Int32} {S : ox_St} {Q : ox_Q} (h : q_167_49 E x0 x1 x2 x3 x4 x5 x6 S mr sr Q) : c_167_49 E x0 x1 x2 x3 x4 x5 x6 S mr sr Q := ox_C_fold hE h
set_option maxRecDepth 20000 in
def q_167 (E : ox_E) (x0 : Nat) (x1 : Int32) (x2 : Int32) (x3 : Int32) (x4 : Int32) (x5 : Int32) (S : ox_St) (mr sr : Nat) (Q : ox_Q) : Prop :=
  (ox_has (S.K x0) 81 = true ∧ (ox_rdI (S.K (S.R 81 x0)) = true ∧ vp_in x1 (S.len (S.R 81 x0)) ∧ (((S.rI (S.R 81 x0) (Int32.toNatClampNeg x1)) ≤ x2 → (((0 : Int32) = 0 ∨ (0 : Int32) = 1) ∧ Q (some (.inl (0 : Int32))) S)) ∧ (¬ (S.rI (S.R 81 x0) (Int32.toNatClampNeg x1)) ≤ x2 → (ox_has (S.K x0) 79 = true ∧ (ox_rdI (S.K (S.R 79 x0)) = true ∧ vp_in x1 (S.len (S.R 79 x0)) ∧ ((x3 ≤ (S.rI (S.R 79 x0) (Int32.toNatClampNeg x1)) → (ox_has (S.K x0) 133 = true ∧ (ox_rdI (S.K (S.R 133 x0)) = true ∧ vp_in x2 (S.len (S.R 133 x0)) ∧ (((0 : Int32) ≤ (S.rI (S.R 133 x0) (Int32.toNatClampNeg x2)) → (ox_has (S.K x0) 133 = true ∧ (ox_rdI (S.K (S.R 133 x0)) = true ∧ vp_in x2 (S.len (S.R 133 x0)) ∧ ((¬ (S.rI (S.R 133 x0) (Int32.toNatClampNeg x2)) = x3 → c_167_148 E x0 x1 x2 x3 x4 x5 0 0 S mr sr Q) ∧ ((S.rI (S.R 133 x0) (Int32.toNatClampNeg x2)) = x3 → (ox_has (S.K x0) 134 = true ∧ (ox_rdI (S.K (S.R 134 x0)) = true ∧ vp_in x2 (S.len (S.R 134 x0)) ∧ ((¬ (S.rI (S.R 134 x0) (Int32.toNatClampNeg x2)) = x5 → c_167_148 E x0 x1 x2 x3 x4 x5 0 0 S mr sr Q) ∧ ((S.rI (S.R 134 x0) (Int32.toNatClampNeg x2)) = x5 → c_167_148 E x0 x1 x2 x3 x4 x5 1 0 S mr sr Q))))))))) ∧ (¬ (0 : Int32) ≤ (S.rI (S.R 133 x0) (Int32.toNatClampNeg x2)) → (ox_has (S.K x0) 133 = true ∧ (S.K (S.R 133 x0) = 15 ∧ vp_in x2 (S.len (S.R 133 x0)) ∧ (let S1 := S.wI (S.R 133 x0) (Int32.toNatClampNeg x2) x3
  (ox_has (S1.K x0) 134 = true ∧ (S1.K (S1.R 134 x0) = 15 ∧ vp_in x2 (S1.len (S1.R 134 x0)) ∧ (let S2 := S1.wI (S1.R 134 x0) (Int32.toNatClampNeg x2) x5
  c_167_49 E x0 x1 x2 x3 x4 x5 0 S2 mr sr Q))))))))))) ∧ (¬ x3 ≤ (S.rI (S.R 79 x0) (Int32.toNatClampNeg x1)) → (((0 : Int32) = 0 ∨ (0 : Int32) = 1) ∧ Q (some (.inl (0 : Int32))) S)))))))))
set_option maxRecDepth 20000 in
set_option maxHeartbeats 4000000 in
theorem f_167 {sp : ox_E} (hsp : ox_mono sp) {d : Nat} {mr sr : Nat} {x0 : Nat} {x1 : Int32} {x2 : Int32} {x3 : Int32} {x4 : Int32} {x5 : Int32} {S : ox_St} {Q : ox_Q} (h : q_167 (ox_M sp d) x0 x1 x2 x3 x4 x5 S mr sr Q) : ox_M sp (d + 1) 167 [.inr (.inr (x0)), .inl (x1), .inl (x2), .inl (x3), .inl (x4), .inl (x5)] mr sr S Q := Or.inr ⟨Nat.le_of_ble_eq_true rfl, ox_C_fold (ox_M_mono hsp d) h⟩
/-! OpcodeFramesModel.isRightAt(II)Z -/
def k_168_6 (E : ox_E) (x0 : Nat) (x1 : Int32) (x2 : Int32) (mr sr : Nat) (Q : ox_Q) : ox_Q := fun r_ T_ => ox_C E (ox_mi 168).2.2.2.1 (ox_mc 168) (ox_cut 168) Q 6 [some (.inr (.inr (x0))), some (.inl (x1)), some (.inl (x2)), none, none, none, none, none, none] (r_.toList ++ []) T_ mr sr
def k_168_16 (E : ox_E) (x0 : Nat) (x1 : Int32) (x2 : Int32) (mr sr : Nat) (Q : ox_Q) : ox_Q := fun r_ T_ => ox_C E (ox_mi 168).2.2.2.1 (ox_mc 168) (ox_cut 168) Q 16 [some (.inr (.inr (x0))), some (.inl (x1)), some (.inl (x2)), none, none, none, none, none, none] (r_.toList ++ []) T_ mr sr
def c_168_55 (E : ox_E) (x0 : Nat) (x1 : Int32) (x2 : Int32) (x3 : Int32) (x4 : Int32) (x5 : Int32) (y0 : Int32) (S : ox_St) (mr sr : Nat) (Q : ox_Q) : Prop := ox_C E (ox_mi 168).2.2.2.1 (ox_mc 168) (ox_cut 168) Q 55 [some (.inr (.inr (x0))), some (.inl (x1)), some (.inl (x2)), some (.inl (x3)), some (.inl (x4)), some (.inl (x5)), none, none, none] [.inl (y0)] S mr sr
def c_168_71 (E : ox_E) (x0 : Nat) (x1 : Int32) (x2 : Int32) (x3 : Int32) (x4 : Int32) (x5 : Int32) (x6 : Int32) (S : ox_St) (mr sr : Nat) (Q : ox_Q) : Prop := ox_C E (ox_mi 168).2.2.2.1 (ox_mc 168) (ox_cut 168) Q 71 [some (.inr (.inr (x0))), some (.inl (x1)), some (.inl (x2)), some (.inl (x3)), some (.inl (x4)), some (.inl (x5)), some (.inl (x6)), none, none] [] S mr sr
def k_168_81 (E : ox_E) (x0 : Nat) (x1 : Int32) (x2 : Int32) (x3 : Int32) (x4 : Int32) (x5 : Int32) (x6 : Int32) (y1 : Int32) (mr sr : Nat) (Q : ox_Q) : ox_Q := fun r_ T_ => ox_C E (ox_mi 168).2.2.2.1 (ox_mc 168) (ox_cut 168) Q 81 [some (.inr (.inr (x0))), some (.inl (x1)), some (.inl (x2)), some (.inl (x3)), some (.inl (x4)), some (.inl (x5)), some (.inl (x6)), none, none] (r_.toList ++ [.inl (y1)]) T_ mr sr
def c_168_102 (E : ox_E) (x0 : Nat) (x1 : Int32) (x2 : Int32) (x3 : Int32) (x4 : Int32) (x5 : Int32) (x6 : Int32) (x7 : Int32) (S : ox_St) (mr sr : Nat) (Q : ox_Q) : Prop := ox_C E (ox_mi 168).2.2.2.1 (ox_mc 168) (ox_cut 168) Q 102 [some (.inr (.inr (x0))), some (.inl (x1)), some (.inl (x2)), some (.inl (x3)), some (.inl (x4)), some (.inl (x5)), some (.inl (x6)), some (.inl (x7)), none] [] S mr sr
def c_168_118 (E : ox_E) (x0 : Nat) (x1 : Int32) (x2 : Int32) (x3 : Int32) (x4 : Int32) (x5 : Int32) (x6 : Int32) (x7 : Int32) (y0 : Int32) (S : ox_St) (mr sr : Nat) (Q : ox_Q) : Prop := ox_C E (ox_mi 168).2.2.2.1 (ox_mc 168) (ox_cut 168) Q 118 [some (.inr (.inr (x0))), some (.inl (x1)), some (.inl (x2)), some (.inl (x3)), some (.inl (x4)), some (.inl (x5)), some (.inl (x6)), some (.inl (x7)), none] [.inl (y0)] S mr sr
def c_168_218 (E : ox_E) (x0 : Nat) (x1 : Int32) (x2 : Int32) (x3 : Int32) (x4 : Int32) (x5 : Int32) (x6 : Int32) (x7 : Int32) (x8 : Int32) (y0 : Int32) (S : ox_St) (mr sr : Nat) (Q : ox_Q) : Prop := ox_C E (ox_mi 168).2.2.2.1 (ox_mc 168) (ox_cut 168) Q 218 [some (.inr (.inr (x0))), some (.inl (x1)), some (.inl (x2)), some (.inl (x3)), some (.inl (x4)), some (.inl (x5)), some (.inl (x6)), some (.inl (x7)), some (.inl (x8))] [.inl (y0)] S mr sr
def k_168_242 (E : ox_E) (x0 : Nat) (x1 : Int32) (x2 : Int32) (x3 : Int32) (x4 : Int32) (x5 : Int32) (x6 : Int32) (x7 : Int32) (x8 : Int32) (mr sr : Nat) (Q : ox_Q) : ox_Q := fun r_ T_ => ox_C E (ox_mi 168).2.2.2.1 (ox_mc 168) (ox_cut 168) Q 242 [some (.inr (.inr (x0))), some (.inl (x1)), some (.inl (x2)), some (.inl (x3)), some (.inl (x4)), some (.inl (x5)), some (.inl (x6)), some (.inl (x7)), some (.inl (x8))] (r_.toList ++ []) T_ mr sr
def c_168_249 (E : ox_E) (x0 : Nat) (x1 : Int32) (x2 : Int32) (x3 : Int32) (x4 : Int32) (x5 : Int32) (x6 : Int32) (x7 : Int32) (x8 : Int32) (S : ox_St) (mr sr : Nat) (Q : ox_Q) : Prop := ox_C E (ox_mi 168).2.2.2.1 (ox_mc 168) (ox_cut 168) Q 249 [some (.inr (.inr (x0))), some (.inl (x1)), some (.inl (x2)), some (.inl (x3)), some (.inl (x4)), some (.inl (x5)), some (.inl (x6)), some (.inl (x7)), some (.inl (x8))] [] S mr sr
def c_168_250 (E : ox_E) (x0 : Nat) (x1 : Int32) (x2 : Int32) (x3 : Int32) (x4 : Int32) (x5 : Int32) (x6 : Int32) (x7 : Int32) (x8 : Int32) (y0 : Int32) (S : ox_St) (mr sr : Nat) (Q : ox_Q) : Prop := ox_C E (ox_mi 168).2.2.2.1 (ox_mc 168) (ox_cut 168) Q 250 [some (.inr (.inr (x0))), some (.inl (x1)), some (.inl (x2)), some (.inl (x3)), some (.inl (x4)), some (.inl (x5)), some (.inl (x6)), some (.inl (x7)), some (.inl (x8))] [.inl (y0)] S mr sr
def c_168_251 (E : ox_E) (x0 : Nat) (x1 : Int32) (x2 : Int32) (x3 : Int32) (x4 : Int32) (x5 : Int32) (x6 : Int32) (x7 : Int32) (x8 : Int32) (S : ox_St) (mr sr : Nat) (Q : ox_Q) : Prop := ox_C E (ox_mi 168).2.2.2.1 (ox_mc 168) (ox_cut 168) Q 251 [some (.inr (.inr (x0))), some (.inl (x1)), some (.inl (x2)), some (.inl (x3)), some (.inl (x4)), some (.inl (x5)), some (.inl (x6)), some (.inl (x7)), some (.inl (x8))] [] S mr sr
def k_168_263 (E : ox_E) (x0 : Nat) (x1 : Int32) (x2 : Int32) (x3 : Int32) (x4 : Int32) (x5 : Int32) (x6 : Int32) (x7 : Int32) (x8 : Int32) (mr sr : Nat) (Q : ox_Q) : ox_Q := fun r_ T_ => ox_C E (ox_mi 168).2.2.2.1 (ox_mc 168) (ox_cut 168) Q 263 [some (.inr (.inr (x0))), some (.inl (x1)), some (.inl (x2)), some (.inl (x3)), some (.inl (x4)), some (.inl (x5)), some (.inl (x6)), some (.inl (x7)), some (.inl (x8))] (r_.toList ++ []) T_ mr sr
def c_168_264 (E : ox_E) (x0 : Nat) (x1 : Int32) (x2 : Int32) (x3 : Int32) (x4 : Int32) (x5 : Int32) (x6 : Int32) (x7 : Int32) (x8 : Int32) (S : ox_St) (mr sr : Nat) (Q : ox_Q) : Prop := ox_C E (ox_mi 168).2.2.2.1 (ox_mc 168) (ox_cut 168) Q 264 [some (.inr (.inr (x0))), some (.inl (x1)), some (.inl (x2)), some (.inl (x3)), some (.inl (x4)), some (.inl (x5)), some (.inl (x6)), some (.inl (x7)), some (.inl (x8))] [] S mr sr
def k_168_278 (E : ox_E) (x0 : Nat) (x1 : Int32) (x2 : Int32) (x3 : Int32) (x4 : Int32) (x5 : Int32) (x6 : Int32) (x7 : Int32) (x8 : Int32) (mr sr : Nat) (Q : ox_Q) : ox_Q := fun r_ T_ => ox_C E (ox_mi 168).2.2.2.1 (ox_mc 168) (ox_cut 168) Q 278 [some (.inr (.inr (x0))), some (.inl (x1)), some (.inl (x2)), some (.inl (x3)), some (.inl (x4)), some (.inl (x5)), some (.inl (x6)), some (.inl (x7)), some (.inl (x8))] (r_.toList ++ []) T_ mr sr
def k_168_293 (E : ox_E) (x0 : Nat) (x1 : Int32) (x2 : Int32) (x3 : Int32) (x4 : Int32) (x5 : Int32) (x6 : Int32) (x7 : Int32) (x8 : Int32) (mr sr : Nat) (Q : ox_Q) : ox_Q := fun r_ T_ => ox_C E (ox_mi 168).2.2.2.1 (ox_mc 168) (ox_cut 168) Q 293 [some (.inr (.inr (x0))), some (.inl (x1)), some (.inl (x2)), some (.inl (x3)), some (.inl (x4)), some (.inl (x5)), some (.inl (x6)), some (.inl (x7)), some (.inl (x8))] (r_.toList ++ []) T_ mr sr
def c_168_300 (E : ox_E) (x0 : Nat) (x1 : Int32) (x2 : Int32) (x3 : Int32) (x4 : Int32) (x5 : Int32) (x6 : Int32) (x7 : Int32) (x8 : Int32) (S : ox_St) (mr sr : Nat) (Q : ox_Q) : Prop := ox_C E (ox_mi 168).2.2.2.1 (ox_mc 168) (ox_cut 168) Q 300 [some (.inr (.inr (x0))), some (.inl (x1)), some (.inl (x2)), some (.inl (x3)), some (.inl (x4)), some (.inl (x5)), some (.inl (x6)), some (.inl (x7)), some (.inl (x8))] [] S mr sr
def c_168_301 (E : ox_E) (x0 : Nat) (x1 : Int32) (x2 : Int32) (x3 : Int32) (x4 : Int32) (x5 : Int32) (x6 : Int32) (x7 : Int32) (x8 : Int32) (y0 : Int32) (S : ox_St) (mr sr : Nat) (Q : ox_Q) : Prop := ox_C E (ox_mi 168).2.2.2.1 (ox_mc 168) (ox_cut 168) Q 301 [some (.inr (.inr (x0))), some (.inl (x1)), some (.inl (x2)), some (.inl (x3)), some (.inl (x4)), some (.inl (x5)), some (.inl (x6)), some (.inl (x7)), some (.inl (x8))] [.inl (y0)] S mr sr
def k_168_309 (E : ox_E) (x0 : Nat) (x1 : Int32) (x2 : Int32) (x3 : Int32) (x4 : Int32) (x5 : Int32) (x6 : Int32) (x7 : Int32) (x8 : Int32) (mr sr : Nat) (Q : ox_Q) : ox_Q := fun r_ T_ => ox_C E (ox_mi 168).2.2.2.1 (ox_mc 168) (ox_cut 168) Q 309 [some (.inr (.inr (x0))), some (.inl (x1)), some (.inl (x2)), some (.inl (x3)), some (.inl (x4)), some (.inl (x5)), some (.inl (x6)), some (.inl (x7)), some (.inl (x8))] (r_.toList ++ []) T_ mr sr
def k_168_326 (E : ox_E) (x0 : Nat) (x1 : Int32) (x2 : Int32) (x3 : Int32) (x4 : Int32) (x5 : Int32) (x6 : Int32) (x7 : Int32) (x8 : Int32) (mr sr : Nat) (Q : ox_Q) : ox_Q := fun r_ T_ => ox_C E (ox_mi 168).2.2.2.1 (ox_mc 168) (ox_cut 168) Q 326 [some (.inr (.inr (x0))), some (.inl (x1)), some (.inl (x2)), some (.inl (x3)), some (.inl (x4)), some (.inl (x5)), some (.inl (x6)), some (.inl (x7)), some (.inl (x8))] (r_.toList ++ []) T_ mr sr
def k_168_343 (E : ox_E) (x0 : Nat) (x1 : Int32) (x2 : Int32) (x3 : Int32) (x4 : Int32) (x5 : Int32) (x6 : Int32) (x7 : Int32) (x8 : Int32) (mr sr : Nat) (Q : ox_Q) : ox_Q := fun r_ T_ => ox_C E (ox_mi 168).2.2.2.1 (ox_mc 168) (ox_cut 168) Q 343 [some (.inr (.inr (x0))), some (.inl (x1)), some (.inl (x2)), some (.inl (x3)), some (.inl (x4)), some (.inl (x5)), some (.inl (x6)), some (.inl (x7)), some (.inl (x8))] (r_.toList ++ []) T_ mr sr
def c_168_350 (E : ox_E) (x0 : Nat) (x1 : Int32) (x2 : Int32) (x3 : Int32) (x4 : Int32) (x5 : Int32) (x6 : Int32) (x7 : Int32) (x8 : Int32) (S : ox_St) (mr sr : Nat) (Q : ox_Q) : Prop := ox_C E (ox_mi 168).2.2.2.1 (ox_mc 168) (ox_cut 168) Q 350 [some (.inr (.inr (x0))), some (.inl (x1)), some (.inl (x2)), some (.inl (x3)), some (.inl (x4)), some (.inl (x5)), some (.inl (x6)), some (.inl (x7)), some (.inl (x8))] [] S mr sr
def c_168_351 (E : ox_E) (x0 : Nat) (x1 : Int32) (x2 : Int32) (x3 : Int32) (x4 : Int32) (x5 : Int32) (x6 : Int32) (x7 : Int32) (x8 : Int32) (y0 : Int32) (S : ox_St) (mr sr : Nat) (Q : ox_Q) : Prop := ox_C E (ox_mi 168).2.2.2.1 (ox_mc 168) (ox_cut 168) Q 351 [some (.inr (.inr (x0))), some (.inl (x1)), some (.inl (x2)), some (.inl (x3)), some (.inl (x4)), some (.inl (x5)), some (.inl (x6)), some (.inl (x7)), some (.inl (x8))] [.inl (y0)] S mr sr
def k_168_362 (E : ox_E) (x0 : Nat) (x1 : Int32) (x2 : Int32) (x3 : Int32) (x4 : Int32) (x5 : Int32) (x6 : Int32) (x7 : Int32) (x8 : Int32) (mr sr : Nat) (Q : ox_Q) : ox_Q := fun r_ T_ => ox_C E (ox_mi 168).2.2.2.1 (ox_mc 168) (ox_cut 168) Q 362 [some (.inr (.inr (x0))), some (.inl (x1)), some (.inl (x2)), some (.inl (x3)), some (.inl (x4)), some (.inl (x5)), some (.inl (x6)), some (.inl (x7)), some (.inl (x8))] (r_.toList ++ []) T_ mr sr
def k_168_377 (E : ox_E) (x0 : Nat) (x1 : Int32) (x2 : Int32) (x3 : Int32) (x4 : Int32) (x5 : Int32) (x6 : Int32) (x7 : Int32) (x8 : Int32) (mr sr : Nat) (Q : ox_Q) : ox_Q := fun r_ T_ => ox_C E (ox_mi 168).2.2.2.1 (ox_mc 168) (ox_cut 168) Q 377 [some (.inr (.inr (x0))), some (.inl (x1)), some (.inl (x2)), some (.inl (x3)), some (.inl (x4)), some (.inl (x5)), some (.inl (x6)), some (.inl (x7)), some (.inl (x8))] (r_.toList ++ []) T_ mr sr
set_option maxRecDepth 20000 in
def q_168_377 (E : ox_E) (x0 : Nat) (x1 : Int32) (x2 : Int32) (x3 : Int32) (x4 : Int32) (x5 : Int32) (x6 : Int32) (x7 : Int32) (x8 : Int32) (y0 : Int32) (S : ox_St) (mr sr : Nat) (Q : ox_Q) : Prop :=
  ((y0 = 0 ∨ y0 = 1) ∧ Q (some (.inl y0)) S)
set_option maxRecDepth 20000 in
set_option maxHeartbeats 4000000 in
theorem f_168_377 {E : ox_E} (hE : ox_mono E) {mr sr : Nat} {x0 : Nat} {x1 : Int32} {x2 : Int32} {x3 : Int32} {x4 : Int32} {x5 : Int32} {x6 : Int32} {x7 : Int32} {x8 : Int32} {y0 : Int32} {S : ox_St} {Q : ox_Q} (h : q_168_377 E x0 x1 x2 x3 x4 x5 x6 x7 x8 y0 S mr sr Q) : k_168_377 E x0 x1 x2 x3 x4 x5 x6 x7 x8 mr sr Q (some (.inl (y0))) S := ox_C_fold hE h
set_option maxRecDepth 20000 in
def q_168_362 (E : ox_E) (x0 : Nat) (x1 : Int32) (x2 : Int32) (x3 : Int32) (x4 : Int32) (x5 : Int32) (x6 : Int32) (x7 : Int32) (x8 : Int32) (y0 : Int32) (S : ox_St) (mr sr : Nat) (Q : ox_Q) : Prop :=
  ((y0 = 0 ∨ y0 = 1) ∧ Q (some (.inl y0)) S)
set_option maxRecDepth 20000 in
set_option maxHeartbeats 4000000 in
theorem f_168_362 {E : ox_E} (hE : ox_mono E) {mr sr : Nat} {x0 : Nat} {x1 : Int32} {x2 : Int32} {x3 : Int32} {x4 : Int32} {x5 : Int32} {x6 : Int32} {x7 : Int32} {x8 : Int32} {y0 : Int32} {S : ox_St} {Q : ox_Q} (h : q_168_362 E x0 x1 x2 x3 x4 x5 x6 x7 x8 y0 S mr sr Q) : k_168_362 E x0 x1 x2 x3 x4 x5 x6 x7 x8 mr sr Q (some (.inl (y0))) S := ox_C_fold hE h
set_option maxRecDepth 20000 in
def q_168_351 (E : ox_E) (x0 : Nat) (x1 : Int32) (x2 : Int32) (x3 : Int32) (x4 : Int32) (x5 : Int32) (x6 : Int32) (x7 : Int32) (x8 : Int32) (y0 : Int32) (S : ox_St) (mr sr : Nat) (Q : ox_Q) : Prop :=
  ((y0 = 0 ∨ y0 = 1) ∧ Q (some (.inl y0)) S)
set_option maxRecDepth 20000 in
set_option maxHeartbeats 4000000 in
theorem f_168_351 {E : ox_E} (hE : ox_mono E) {mr sr : Nat} {x0 : Nat} {x1 : Int32} {x2 : Int32} {x3 : Int32} {x4 : Int32} {x5 : Int32} {x6 : Int32} {x7 : Int32} {x8 : Int32} {y0 : Int32} {S : ox_St} {Q : ox_Q} (h : q_168_351 E x0 x1 x2 x3 x4 x5 x6 x7 x8 y0 S mr sr Q) : c_168_351 E x0 x1 x2 x3 x4 x5 x6 x7 x8 y0 S mr sr Q := ox_C_fold hE h
set_option maxRecDepth 20000 in
def q_168_350 (E : ox_E) (x0 : Nat) (x1 : Int32) (x2 : Int32) (x3 : Int32) (x4 : Int32) (x5 : Int32) (x6 : Int32) (x7 : Int32) (x8 : Int32) (S : ox_St) (mr sr : Nat) (Q : ox_Q) : Prop :=
  c_168_351 E x0 x1 x2 x3 x4 x5 x6 x7 x8 0 S mr sr Q
set_option maxRecDepth 20000 in
set_option maxHeartbeats 4000000 in
theorem f_168_350 {E : ox_E} (hE : ox_mono E) {mr sr : Nat} {x0 : Nat} {x1 : Int32} {x2 : Int32} {x3 : Int32} {x4 : Int32} {x5 : Int32} {x6 : Int32} {x7 : Int32} {x8 : Int32} {S : ox_St} {Q : ox_Q} (h : q_168_350 E x0 x1 x2 x3 x4 x5 x6 x7 x8 S mr sr Q) : c_168_350 E x0 x1 x2 x3 x4 x5 x6 x7 x8 S mr sr Q := ox_C_fold hE h
set_option maxRecDepth 20000 in
def q_168_343 (E : ox_E) (x0 : Nat) (x1 : Int32) (x2 : Int32) (x3 : Int32) (x4 : Int32) (x5 : Int32) (x6 : Int32) (x7 : Int32) (x8 : Int32) (y0 : Int32) (S : ox_St) (mr sr : Nat) (Q : ox_Q) : Prop :=
  ((y0 = 0 → c_168_350 E x0 x1 x2 x3 x4 x5 x6 x7 x8 S mr sr Q) ∧ (¬ y0 = 0 → c_168_351 E x0 x1 x2 x3 x4 x5 x6 x7 x8 1 S mr sr Q))
set_option maxRecDepth 20000 in
set_option maxHeartbeats 4000000 in
theorem f_168_343 {E : ox_E} (hE : ox_mono E) {mr sr : Nat} {x0 : Nat} {x1 : Int32} {x2 : Int32} {x3 : Int32} {x4 : Int32} {x5 : Int32} {x6 : Int32} {x7 : Int32} {x8 : Int32} {y0 : Int32} {S : ox_St} {Q : ox_Q} (h : q_168_343 E x0 x1 x2 x3 x4 x5 x6 x7 x8 y0 S mr sr Q) : k_168_343 E x0 x1 x2 x3 x4 x5 x6 x7 x8 mr sr Q (some (.inl (y0))) S := ox_C_fold hE h
set_option maxRecDepth 20000 in
def q_168_326 (E : ox_E) (x0 : Nat) (x1 : Int32) (x2 : Int32) (x3 : Int32) (x4 : Int32) (x5 : Int32) (x6 : Int32) (x7 : Int32) (x8 : Int32) (y0 : Int32) (S : ox_St) (mr sr : Nat) (Q : ox_Q) : Prop :=
  ((y0 = 0 → c_168_350 E x0 x1 x2 x3 x4 x5 x6 x7 x8 S mr sr Q) ∧ (¬ y0 = 0 → (6 ≤ 6 ∧ S.K x0 = 14 ∧ 0 ≤ 8 ∧ ∃ mc1 mk2, mc1 ≤ mr ∧ mk2 ≤ sr ∧ E 167 [.inr (.inr (x0)), .inl (x1), .inl (x8), .inl (x4 - 1), .inl (x2), .inl (x5)] mc1 mk2 S (k_168_343 E x0 x1 x2 x3 x4 x5 x6 x7 x8 (mr - mc1) (sr - mk2) Q))))
set_option maxRecDepth 20000 in
set_option maxHeartbeats 4000000 in
theorem f_168_326 {E : ox_E} (hE : ox_mono E) {mr sr : Nat} {x0 : Nat} {x1 : Int32} {x2 : Int32} {x3 : Int32} {x4 : Int32} {x5 : Int32} {x6 : Int32} {x7 : Int32} {x8 : Int32} {y0 : Int32} {S : ox_St} {Q : ox_Q} (h : q_168_326 E x0 x1 x2 x3 x4 x5 x6 x7 x8 y0 S mr sr Q) : k_168_326 E x0 x1 x2 x3 x4 x5 x6 x7 x8 mr sr Q (some (.inl (y0))) S := ox_C_fold hE h
set_option maxRecDepth 20000 in
def q_168_309 (E : ox_E) (x0 : Nat) (x1 : Int32) (x2 : Int32) (x3 : Int32) (x4 : Int32) (x5 : Int32) (x6 : Int32) (x7 : Int32) (x8 : Int32) (y0 : Int32) (S : ox_St) (mr sr : Nat) (Q : ox_Q) : Prop :=
  ((y0 = 0 → c_168_350 E x0 x1 x2 x3 x4 x5 x6 x7 x8 S mr sr Q) ∧ (¬ y0 = 0 → (ox_has (S.K x0) 140 = true ∧ (6 ≤ 6 ∧ S.K x0 = 14 ∧ 0 ≤ 8 ∧ ∃ mc1 mk2, mc1 ≤ mr ∧ mk2 ≤ sr ∧ E 167 [.inr (.inr (x0)), .inl (x1), .inl (S.I 140 x0), .inl (x7), .inl (x2), .inl (x5)] mc1 mk2 S (k_168_326 E x0 x1 x2 x3 x4 x5 x6 x7 x8 (mr - mc1) (sr - mk2) Q)))))
set_option maxRecDepth 20000 in
set_option maxHeartbeats 4000000 in
theorem f_168_309 {E : ox_E} (hE : ox_mono E) {mr sr : Nat} {x0 : Nat} {x1 : Int32} {x2 : Int32} {x3 : Int32} {x4 : Int32} {x5 : Int32} {x6 : Int32} {x7 : Int32} {x8 : Int32} {y0 : Int32} {S : ox_St} {Q : ox_Q} (h : q_168_309 E x0 x1 x2 x3 x4 x5 x6 x7 x8 y0 S mr sr Q) : k_168_309 E x0 x1 x2 x3 x4 x5 x6 x7 x8 mr sr Q (some (.inl (y0))) S := ox_C_fold hE h
set_option maxRecDepth 20000 in
def q_168_301 (E : ox_E) (x0 : Nat) (x1 : Int32) (x2 : Int32) (x3 : Int32) (x4 : Int32) (x5 : Int32) (x6 : Int32) (x7 : Int32) (x8 : Int32) (y0 : Int32) (S : ox_St) (mr sr : Nat) (Q : ox_Q) : Prop :=
  ((y0 = 0 ∨ y0 = 1) ∧ Q (some (.inl y0)) S)
set_option maxRecDepth 20000 in
set_option maxHeartbeats 4000000 in
theorem f_168_301 {E : ox_E} (hE : ox_mono E) {mr sr : Nat} {x0 : Nat} {x1 : Int32} {x2 : Int32} {x3 : Int32} {x4 : Int32} {x5 : Int32} {x6 : Int32} {x7 : Int32} {x8 : Int32} {y0 : Int32} {S : ox_St} {Q : ox_Q} (h : q_168_301 E x0 x1 x2 x3 x4 x5 x6 x7 x8 y0 S mr sr Q) : c_168_301 E x0 x1 x2 x3 x4 x5 x6 x7 x8 y0 S mr sr Q := ox_C_fold hE h
set_option maxRecDepth 20000 in
def q_168_300 (E : ox_E) (x0 : Nat) (x1 : Int32) (x2 : Int32) (x3 : Int32) (x4 : Int32) (x5 : Int32) (x6 : Int32) (x7 : Int32) (x8 : Int32) (S : ox_St) (mr sr : Nat) (Q : ox_Q) : Prop :=
  c_168_301 E x0 x1 x2 x3 x4 x5 x6 x7 x8 0 S mr sr Q
set_option maxRecDepth 20000 in
set_option maxHeartbeats 4000000 in
theorem f_168_300 {E : ox_E} (hE : ox_mono E) {mr sr : Nat} {x0 : Nat} {x1 : Int32} {x2 : Int32} {x3 : Int32} {x4 : Int32} {x5 : Int32} {x6 : Int32} {x7 : Int32} {x8 : Int32} {S : ox_St} {Q : ox_Q} (h : q_168_300 E x0 x1 x2 x3 x4 x5 x6 x7 x8 S mr sr Q) : c_168_300 E x0 x1 x2 x3 x4 x5 x6 x7 x8 S mr sr Q := ox_C_fold hE h
set_option maxRecDepth 20000 in
def q_168_293 (E : ox_E) (x0 : Nat) (x1 : Int32) (x2 : Int32) (x3 : Int32) (x4 : Int32) (x5 : Int32) (x6 : Int32) (x7 : Int32) (x8 : Int32) (y0 : Int32) (S : ox_St) (mr sr : Nat) (Q : ox_Q) : Prop :=
  ((y0 = 0 → c_168_300 E x0 x1 x2 x3 x4 x5 x6 x7 x8 S mr sr Q) ∧ (¬ y0 = 0 → c_168_301 E x0 x1 x2 x3 x4 x5 x6 x7 x8 1 S mr sr Q))
set_option maxRecDepth 20000 in
set_option maxHeartbeats 4000000 in
theorem f_168_293 {E : ox_E} (hE : ox_mono E) {mr sr : Nat} {x0 : Nat} {x1 : Int32} {x2 : Int32} {x3 : Int32} {x4 : Int32} {x5 : Int32} {x6 : Int32} {x7 : Int32} {x8 : Int32} {y0 : Int32} {S : ox_St} {Q : ox_Q} (h : q_168_293 E x0 x1 x2 x3 x4 x5 x6 x7 x8 y0 S mr sr Q) : k_168_293 E x0 x1 x2 x3 x4 x5 x6 x7 x8 mr sr Q (some (.inl (y0))) S := ox_C_fold hE h
set_option maxRecDepth 20000 in
def q_168_278 (E : ox_E) (x0 : Nat) (x1 : Int32) (x2 : Int32) (x3 : Int32) (x4 : Int32) (x5 : Int32) (x6 : Int32) (x7 : Int32) (x8 : Int32) (y0 : Int32) (S : ox_St) (mr sr : Nat) (Q : ox_Q) : Prop :=
  ((y0 = 0 → c_168_300 E x0 x1 x2 x3 x4 x5 x6 x7 x8 S mr sr Q) ∧ (¬ y0 = 0 → (6 ≤ 6 ∧ S.K x0 = 14 ∧ 0 ≤ 8 ∧ ∃ mc1 mk2, mc1 ≤ mr ∧ mk2 ≤ sr ∧ E 167 [.inr (.inr (x0)), .inl (x1), .inl (x8), .inl (x7), .inl (x2), .inl (x5)] mc1 mk2 S (k_168_293 E x0 x1 x2 x3 x4 x5 x6 x7 x8 (mr - mc1) (sr - mk2) Q))))
set_option maxRecDepth 20000 in
set_option maxHeartbeats 4000000 in
theorem f_168_278 {E : ox_E} (hE : ox_mono E) {mr sr : Nat} {x0 : Nat} {x1 : Int32} {x2 : Int32} {x3 : Int32} {x4 : Int32} {x5 : Int32} {x6 : Int32} {x7 : Int32} {x8 : Int32} {y0 : Int32} {S : ox_St} {Q : ox_Q} (h : q_168_278 E x0 x1 x2 x3 x4 x5 x6 x7 x8 y0 S mr sr Q) : k_168_278 E x0 x1 x2 x3 x4 x5 x6 x7 x8 mr sr Q (some (.inl (y0))) S := ox_C_fold hE h
set_option maxRecDepth 20000 in
def q_168_264 (E : ox_E) (x0 : Nat) (x1 : Int32) (x2 : Int32) (x3 : Int32) (x4 : Int32) (x5 : Int32) (x6 : Int32) (x7 : Int32) (x8 : Int32) (S : ox_St) (mr sr : Nat) (Q : ox_Q) : Prop :=
  (ox_has (S.K x0) 140 = true ∧ (6 ≤ 6 ∧ S.K x0 = 14 ∧ 0 ≤ 8 ∧ ∃ mc1 mk2, mc1 ≤ mr ∧ mk2 ≤ sr ∧ E 167 [.inr (.inr (x0)), .inl (x1), .inl (S.I 140 x0), .inl (x7), .inl (x2), .inl (x5)] mc1 mk2 S (k_168_278 E x0 x1 x2 x3 x4 x5 x6 x7 x8 (mr - mc1) (sr - mk2) Q)))
set_option maxRecDepth 20000 in
set_option maxHeartbeats 4000000 in
theorem f_168_264 {E : ox_E} (hE : ox_mono E) {mr sr : Nat} {x0 : Nat} {x1 : Int32} {x2 : Int32} {x3 : Int32} {x4 : Int32} {x5 : Int32} {x6 : Int32} {x7 : Int32} {x8 : Int32} {S : ox_St} {Q : ox_Q} (h : q_168_264 E x0 x1 x2 x3 x4 x5 x6 x7 x8 S mr sr Q) : c_168_264 E x0 x1 x2 x3 x4 x5 x6 x7 x8 S mr sr Q := ox_C_fold hE h
set_option maxRecDepth 20000 in
def q_168_263 (E : ox_E) (x0 : Nat) (x1 : Int32) (x2 : Int32) (x3 : Int32) (x4 : Int32) (x5 : Int32) (x6 : Int32) (x7 : Int32) (x8 : Int32) (y0 : Int32) (S : ox_St) (mr sr : Nat) (Q : ox_Q) : Prop :=
  ((y0 = 0 ∨ y0 = 1) ∧ Q (some (.inl y0)) S)
set_option maxRecDepth 20000 in
set_option maxHeartbeats 4000000 in
theorem f_168_263 {E : ox_E} (hE : ox_mono E) {mr sr : Nat} {x0 : Nat} {x1 : Int32} {x2 : Int32} {x3 : Int32} {x4 : Int32} {x5 : Int32} {x6 : Int32} {x7 : Int32} {x8 : Int32} {y0 : Int32} {S : ox_St} {Q : ox_Q} (h : q_168_263 E x0 x1 x2 x3 x4 x5 x6 x7 x8 y0 S mr sr Q) : k_168_263 E x0 x1 x2 x3 x4 x5 x6 x7 x8 mr sr Q (some (.inl (y0))) S := ox_C_fold hE h
set_option maxRecDepth 20000 in
def q_168_251 (E : ox_E) (x0 : Nat) (x1 : Int32) (x2 : Int32) (x3 : Int32) (x4 : Int32) (x5 : Int32) (x6 : Int32) (x7 : Int32) (x8 : Int32) (S : ox_St) (mr sr : Nat) (Q : ox_Q) : Prop :=
  (6 ≤ 6 ∧ S.K x0 = 14 ∧ 0 ≤ 8 ∧ ∃ mc1 mk2, mc1 ≤ mr ∧ mk2 ≤ sr ∧ E 167 [.inr (.inr (x0)), .inl (x1), .inl (x8), .inl (x7), .inl (x2), .inl (x5)] mc1 mk2 S (k_168_263 E x0 x1 x2 x3 x4 x5 x6 x7 x8 (mr - mc1) (sr - mk2) Q))
set_option maxRecDepth 20000 in
set_option maxHeartbeats 4000000 in
theorem f_168_251 {E : ox_E} (hE : ox_mono E) {mr sr : Nat} {x0 : Nat} {x1 : Int32} {x2 : Int32} {x3 : Int32} {x4 : Int32} {x5 : Int32} {x6 : Int32} {x7 : Int32} {x8 : Int32} {S : ox_St} {Q : ox_Q} (h : q_168_251 E x0 x1 x2 x3 x4 x5 x6 x7 x8 S mr sr Q) : c_168_251 E x0 x1 x2 x3 x4 x5 x6 x7 x8 S mr sr Q := ox_C_fold hE h
set_option maxRecDepth 20000 in
def q_168_250 (E : ox_E) (x0 : Nat) (x1 : Int32) (x2 : Int32) (x3 : Int32) (x4 : Int32) (x5 : Int32) (x6 : Int32) (x7 : Int32) (x8 : Int32) (y0 : Int32) (S : ox_St) (mr sr : Nat) (Q : ox_Q) : Prop :=
  ((y0 = 0 ∨ y0 = 1) ∧ Q (some (.inl y0)) S)
set_option maxRecDepth 20000 in
set_option maxHeartbeats 4000000 in
theorem f_168_250 {E : ox_E} (hE : ox_mono E) {mr sr : Nat} {x0 : Nat} {x1 : Int32} {x2 : Int32} {x3 : Int32} {x4 : Int32} {x5 : Int32} {x6 : Int32} {x7 : Int32} {x8 : Int32} {y0 : Int32} {S : ox_St} {Q : ox_Q} (h : q_168_250 E x0 x1 x2 x3 x4 x5 x6 x7 x8 y0 S mr sr Q) : c_168_250 E x0 x1 x2 x3 x4 x5 x6 x7 x8 y0 S mr sr Q := ox_C_fold hE h
set_option maxRecDepth 20000 in
def q_168_249 (E : ox_E) (x0 : Nat) (x1 : Int32) (x2 : Int32) (x3 : Int32) (x4 : Int32) (x5 : Int32) (x6 : Int32) (x7 : Int32) (x8 : Int32) (S : ox_St) (mr sr : Nat) (Q : ox_Q) : Prop :=
  c_168_250 E x0 x1 x2 x3 x4 x5 x6 x7 x8 0 S mr sr Q
set_option maxRecDepth 20000 in
set_option maxHeartbeats 4000000 in
theorem f_168_249 {E : ox_E} (hE : ox_mono E) {mr sr : Nat} {x0 : Nat} {x1 : Int32} {x2 : Int32} {x3 : Int32} {x4 : Int32} {x5 : Int32} {x6 : Int32} {x7 : Int32} {x8 : Int32} {S : ox_St} {Q : ox_Q} (h : q_168_249 E x0 x1 x2 x3 x4 x5 x6 x7 x8 S mr sr Q) : c_168_249 E x0 x1 x2 x3 x4 x5 x6 x7 x8 S mr sr Q := ox_C_fold hE h
set_option maxRecDepth 20000 in
def q_168_242 (E : ox_E) (x0 : Nat) (x1 : Int32) (x2 : Int32) (x3 : Int32) (x4 : Int32) (x5 : Int32) (x6 : Int32) (x7 : Int32) (x8 : Int32) (y0 : Int32) (S : ox_St) (mr sr : Nat) (Q : ox_Q) : Prop :=
  ((y0 = 0 → c_168_249 E x0 x1 x2 x3 x4 x5 x6 x7 x8 S mr sr Q) ∧ (¬ y0 = 0 → c_168_250 E x0 x1 x2 x3 x4 x5 x6 x7 x8 1 S mr sr Q))
set_option maxRecDepth 20000 in
set_option maxHeartbeats 4000000 in
theorem f_168_242 {E : ox_E} (hE : ox_mono E) {mr sr : Nat} {x0 : Nat} {x1 : Int32} {x2 : Int32} {x3 : Int32} {x4 : Int32} {x5 : Int32} {x6 : Int32} {x7 : Int32} {x8 : Int32} {y0 : Int32} {S : ox_St} {Q : ox_Q} (h : q_168_242 E x0 x1 x2 x3 x4 x5 x6 x7 x8 y0 S mr sr Q) : k_168_242 E x0 x1 x2 x3 x4 x5 x6 x7 x8 mr sr Q (some (.inl (y0))) S := ox_C_fold hE h
set_option maxRecDepth 20000 in
def q_168_218 (E : ox_E) (x0 : Nat) (x1 : Int32) (x2 : Int32) (x3 : Int32) (x4 : Int32) (x5 : Int32) (x6 : Int32) (x7 : Int32) (x8 : Int32) (y0 : Int32) (S : ox_St) (mr sr : Nat) (Q : ox_Q) : Prop :=
  ((y0 = 0 ∨ y0 = 1) ∧ Q (some (.inl y0)) S)
set_option maxRecDepth 20000 in
set_option maxHeartbeats 4000000 in
theorem f_168_218 {E : ox_E} (hE : ox_mono E) {mr sr : Nat} {x0 : Nat} {x1 : Int32} {x2 : Int32} {x3 : Int32} {x4 : Int32} {x5 : Int32} {x6 : Int32} {x7 : Int32} {x8 : Int32} {y0 : Int32} {S : ox_St} {Q : ox_Q} (h : q_168_218 E x0 x1 x2 x3 x4 x5 x6 x7 x8 y0 S mr sr Q) : c_168_218 E x0 x1 x2 x3 x4 x5 x6 x7 x8 y0 S mr sr Q := ox_C_fold hE h
set_option maxRecDepth 20000 in
def q_168_118 (E : ox_E) (x0 : Nat) (x1 : Int32) (x2 : Int32) (x3 : Int32) (x4 : Int32) (x5 : Int32) (x6 : Int32) (x7 : Int32) (y0 : Int32) (S : ox_St) (mr sr : Nat) (Q : ox_Q) : Prop :=
  (ox_has (S.K x0) 138 = true ∧ ((Int32.toInt (S.I 138 x0) = 83 → ((¬ x5 = 0 → c_168_218 E x0 x1 x2 x3 x4 x5 x6 x7 y0 0 S mr sr Q) ∧ (x5 = 0 → c_168_218 E x0 x1 x2 x3 x4 x5 x6 x7 y0 1 S mr sr Q))) ∧ (¬ Int32.toInt (S.I 138 x0) = 83 → ((Int32.toInt (S.I 138 x0) = 87 → ((x5 ≤ 0 → c_168_249 E x0 x1 x2 x3 x4 x5 x6 x7 y0 S mr sr Q) ∧ (¬ x5 ≤ 0 → (ox_has (S.K x0) 140 = true ∧ (6 ≤ 6 ∧ S.K x0 = 14 ∧ 0 ≤ 8 ∧ ∃ mc7 mk8, mc7 ≤ mr ∧ mk8 ≤ sr ∧ E 167 [.inr (.inr (x0)), .inl (x1), .inl (S.I 140 x0), .inl (x7), .inl (x2), .inl (x5 - 1)] mc7 mk8 S (k_168_242 E x0 x1 x2 x3 x4 x5 x6 x7 y0 (mr - mc7) (sr - mk8) Q)))))) ∧ (¬ Int32.toInt (S.I 138 x0) = 87 → ((Int32.toInt (S.I 138 x0) = 93 → (3 ≤ 3 ∧ S.K x0 = 14 ∧ 0 ≤ 8 ∧ ∃ mc5 mk6, mc5 ≤ mr ∧ mk6 ≤ sr ∧ E 164 [.inr (.inr (x0)), .inl (x1), .inl (y0)] mc5 mk6 S (k_168_309 E x0 x1 x2 x3 x4 x5 x6 x7 y0 (mr - mc5) (sr - mk6) Q))) ∧ (¬ Int32.toInt (S.I 138 x0) = 93 → ((Int32.toInt (S.I 138 x0) = 110 → c_168_251 E x0 x1 x2 x3 x4 x5 x6 x7 y0 S mr sr Q) ∧ (¬ Int32.toInt (S.I 138 x0) = 110 → ((Int32.toInt (S.I 138 x0) = 113 → c_168_251 E x0 x1 x2 x3 x4 x5 x6 x7 y0 S mr sr Q) ∧ (¬ Int32.toInt (S.I 138 x0) = 113 → ((Int32.toInt (S.I 138 x0) = 114 → c_168_264 E x0 x1 x2 x3 x4 x5 x6 x7 y0 S mr sr Q) ∧ (¬ Int32.toInt (S.I 138 x0) = 114 → ((Int32.toInt (S.I 138 x0) = 115 → c_168_264 E x0 x1 x2 x3 x4 x5 x6 x7 y0 S mr sr Q) ∧ (¬ Int32.toInt (S.I 138 x0) = 115 → ((Int32.toInt (S.I 138 x0) = 122 → (5 ≤ 5 ∧ S.K x0 = 14 ∧ 0 ≤ 8 ∧ ∃ mc3 mk4, mc3 ≤ mr ∧ mk4 ≤ sr ∧ E 169 [.inr (.inr (x0)), .inl (x1), .inl (x2), .inl (x4), .inl (x5)] mc3 mk4 S (k_168_362 E x0 x1 x2 x3 x4 x5 x6 x7 y0 (mr - mc3) (sr - mk4) Q))) ∧ (¬ Int32.toInt (S.I 138 x0) = 122 → ((Int32.toInt (S.I 138 x0) = 130 → (((1 : Int32) = 0 ∨ (1 : Int32) = 1) ∧ Q (some (.inl (1 : Int32))) S)) ∧ (¬ Int32.toInt (S.I 138 x0) = 130 → (ox_has (S.K x0) 140 = true ∧ (6 ≤ 6 ∧ S.K x0 = 14 ∧ 0 ≤ 8 ∧ ∃ mc1 mk2, mc1 ≤ mr ∧ mk2 ≤ sr ∧ E 167 [.inr (.inr (x0)), .inl (x1), .inl (S.I 140 x0), .inl (x7), .inl (x2), .inl (x5)] mc1 mk2 S (k_168_377 E x0 x1 x2 x3 x4 x5 x6 x7 y0 (mr - mc1) (sr - mk2) Q))))))))))))))))))))))
set_option maxRecDepth 20000 in
set_option maxHeartbeats 4000000 in
theorem f_168_118 {E : ox_E} (hE : ox_mono E) {mr sr : Nat} {x0 : Nat} {x1 : Int32} {x2 : Int32} {x3 : Int32} {x4 : Int32} {x5 : Int32} {x6 : Int32} {x7 : Int32} {y0 : Int32} {S : ox_St} {Q : ox_Q} (h : q_168_118 E x0 x1 x2 x3 x4 x5 x6 x7 y0 S mr sr Q) : c_168_118 E x0 x1 x2 x3 x4 x5 x6 x7 y0 S mr sr Q := ox_C_fold hE h
set_option maxRecDepth 20000 in
def q_168_102 (E : ox_E) (x0 : Nat) (x1 : Int32) (x2 : Int32) (x3 : Int32) (x4 : Int32) (x5 : Int32) (x6 : Int32) (x7 : Int32) (S : ox_St) (mr sr : Nat) (Q : ox_Q) : Prop :=
  (ox_has (S.K x0) 140 = true ∧ (ox_has (S.K x0) 139 = true ∧ c_168_118 E x0 x1 x2 x3 x4 x5 x6 x7 ((S.I 140 x0) + (S.I 139 x0)) S mr sr Q))
set_option maxRecDepth 20000 in
set_option maxHeartbeats 4000000 in
theorem f_168_102 {E : ox_E} (hE : ox_mono E) {mr sr : Nat} {x0 : Nat} {x1 : Int32} {x2 : Int32} {x3 : Int32} {x4 : Int32} {x5 : Int32} {x6 : Int32} {x7 : Int32} {S : ox_St} {Q : ox_Q} (h : q_168_102 E x0 x1 x2 x3 x4 x5 x6 x7 S mr sr Q) : c_168_102 E x0 x1 x2 x3 x4 x5 x6 x7 S mr sr Q := ox_C_fold hE h
set_option maxRecDepth 20000 in
def q_168_81 (E : ox_E) (x0 : Nat) (x1 : Int32) (x2 : Int32) (x3 : Int32) (x4 : Int32) (x5 : Int32) (x6 : Int32) (y0 : Int32) (y1 : Int32) (S : ox_St) (mr sr : Nat) (Q : ox_Q) : Prop :=
  (let w1 : Int32 := y1 + y0
  (ox_has (S.K x0) 138 = true ∧ (((S.I 138 x0) = 110 → c_168_102 E x0 x1 x2 x3 x4 x5 x6 w1 S mr sr Q) ∧ (¬ (S.I 138 x0) = 110 → (ox_has (S.K x0) 138 = true ∧ ((¬ (S.I 138 x0) = 93 → (ox_has (S.K x0) 139 = true ∧ c_168_118 E x0 x1 x2 x3 x4 x5 x6 w1 (S.I 139 x0) S mr sr Q)) ∧ ((S.I 138 x0) = 93 → c_168_102 E x0 x1 x2 x3 x4 x5 x6 w1 S mr sr Q)))))))
set_option maxRecDepth 20000 in
set_option maxHeartbeats 4000000 in
theorem f_168_81 {E : ox_E} (hE : ox_mono E) {mr sr : Nat} {x0 : Nat} {x1 : Int32} {x2 : Int32} {x3 : Int32} {x4 : Int32} {x5 : Int32} {x6 : Int32} {y0 : Int32} {y1 : Int32} {S : ox_St} {Q : ox_Q} (h : q_168_81 E x0 x1 x2 x3 x4 x5 x6 y0 y1 S mr sr Q) : k_168_81 E x0 x1 x2 x3 x4 x5 x6 y1 mr sr Q (some (.inl (y0))) S := ox_C_fold hE h
set_option maxRecDepth 20000 in
def q_168_71 (E : ox_E) (x0 : Nat) (x1 : Int32) (x2 : Int32) (x3 : Int32) (x4 : Int32) (x5 : Int32) (x6 : Int32) (S : ox_St) (mr sr : Nat) (Q : ox_Q) : Prop :=
  (((0 : Int32) = 0 ∨ (0 : Int32) = 1) ∧ Q (some (.inl (0 : Int32))) S)
set_option maxRecDepth 20000 in
set_option maxHeartbeats 4000000 in
theorem f_168_71 {E : ox_E} (hE : ox_mono E) {mr sr : Nat} {x0 : Nat} {x1 : Int32} {x2 : Int32} {x3 : Int32} {x4 : Int32} {x5 : Int32} {x6 : Int32} {S : ox_St} {Q : ox_Q} (h : q_168_71 E x0 x1 x2 x3 x4 x5 x6 S mr sr Q) : c_168_71 E x0 x1 x2 x3 x4 x5 x6 S mr sr Q := ox_C_fold hE h
set_option maxRecDepth 20000 in
def q_168_55 (E : ox_E) (x0 : Nat) (x1 : Int32) (x2 : Int32) (x3 : Int32) (x4 : Int32) (x5 : Int32) (y0 : Int32) (S : ox_St) (mr sr : Nat) (Q : ox_Q) : Prop :=
  ((x3 = (-1) → c_168_71 E x0 x1 x2 x3 x4 x5 y0 S mr sr Q) ∧ (¬ x3 = (-1) → ((y0 ≤ (x4 - x3) → (1 ≤ 2 ∧ S.K x0 = 14 ∧ 1 ≤ 8 ∧ ∃ mc1 mk2, mc1 ≤ mr ∧ mk2 ≤ sr ∧ E 166 [.inr (.inr (x0))] mc1 mk2 S (k_168_81 E x0 x1 x2 x3 x4 x5 y0 (x4 - x3) (mr - mc1) (sr - mk2) Q))) ∧ (¬ y0 ≤ (x4 - x3) → c_168_71 E x0 x1 x2 x3 x4 x5 y0 S mr sr Q))))
set_option maxRecDepth 20000 in
set_option maxHeartbeats 4000000 in
theorem f_168_55 {E : ox_E} (hE : ox_mono E) {mr sr : Nat} {x0 : Nat} {x1 : Int32} {x2 : Int32} {x3 : Int32} {x4 : Int32} {x5 : Int32} {y0 : Int32} {S : ox_St} {Q : ox_Q} (h : q_168_55 E x0 x1 x2 x3 x4 x5 y0 S mr sr Q) : c_168_55 E x0 x1 x2 x3 x4 x5 y0 S mr sr Q := ox_C_fold hE h
set_option maxRecDepth 20000 in
def q_168_16 (E : ox_E) (x0 : Nat) (x1 : Int32) (x2 : Int32) (y0 : Int32) (S : ox_St) (mr sr : Nat) (Q : ox_Q) : Prop :=
  (ox_has (S.K x0) 133 = true ∧ (ox_rdI (S.K (S.R 133 x0)) = true ∧ vp_in x2 (S.len (S.R 133 x0)) ∧ (let w1 : Int32 := S.rI (S.R 133 x0) (Int32.toNatClampNeg x2)
  (ox_has (S.K x0) 134 = true ∧ (ox_rdI (S.K (S.R 134 x0)) = true ∧ vp_in x2 (S.len (S.R 134 x0)) ∧ (let w2 : Int32 := S.rI (S.R 134 x0) (Int32.toNatClampNeg x2)
  ((w2 ≤ 0 → c_168_55 E x0 x1 x2 y0 w1 w2 0 S mr sr Q) ∧ (¬ w2 ≤ 0 → (ox_has (S.K x0) 135 = true ∧ (ox_rdI (S.K (S.R 135 x0)) = true ∧ vp_in (((4 * x2) + w2) - 1) (S.len (S.R 135 x0)) ∧ c_168_55 E x0 x1 x2 y0 w1 w2 (S.rI (S.R 135 x0) (Int32.toNatClampNeg (((4 * x2) + w2) - 1))) S mr sr Q))))))))))
set_option maxRecDepth 20000 in
set_option maxHeartbeats 4000000 in
theorem f_168_16 {E : ox_E} (hE : ox_mono E) {mr sr : Nat} {x0 : Nat} {x1 : Int32} {x2 : Int32} {y0 : Int32} {S : ox_St} {Q : ox_Q} (h : q_168_16 E x0 x1 x2 y0 S mr sr Q) : k_168_16 E x0 x1 x2 mr sr Q (some (.inl (y0))) S := ox_C_fold hE h
set_option maxRecDepth 20000 in
def q_168_6 (E : ox_E) (x0 : Nat) (x1 : Int32) (x2 : Int32) (y0 : Int32) (S : ox_St) (mr sr : Nat) (Q : ox_Q) : Prop :=
  ((¬ y0 = 0 → (2 ≤ 2 ∧ S.K x0 = 14 ∧ 0 ≤ 8 ∧ ∃ mc1 mk2, mc1 ≤ mr ∧ mk2 ≤ sr ∧ E 165 [.inr (.inr (x0)), .inl (x1)] mc1 mk2 S (k_168_16 E x0 x1 x2 (mr - mc1) (sr - mk2) Q))) ∧ (y0 = 0 → (((0 : Int32) = 0 ∨ (0 : Int32) = 1) ∧ Q (some (.inl (0 : Int32))) S)))
set_option maxRecDepth 20000 in
set_option maxHeartbeats 4000000 in
theorem f_168_6 {E : ox_E} (hE : ox_mono E) {mr sr : Nat} {x0 : Nat} {x1 : Int32} {x2 : Int32} {y0 : Int32} {S : ox_St} {Q : ox_Q} (h : q_168_6 E x0 x1 x2 y0 S mr sr Q) : k_168_6 E x0 x1 x2 mr sr Q (some (.inl (y0))) S := ox_C_fold hE h
set_option maxRecDepth 20000 in
def q_168 (E : ox_E) (x0 : Nat) (x1 : Int32) (x2 : Int32) (S : ox_St) (mr sr : Nat) (Q : ox_Q) : Prop :=
  (3 ≤ 3 ∧ S.K x0 = 14 ∧ 0 ≤ 8 ∧ ∃ mc1 mk2, mc1 ≤ mr ∧ mk2 ≤ sr ∧ E 163 [.inr (.inr (x0)), .inl (x1), .inl (x2)] mc1 mk2 S (k_168_6 E x0 x1 x2 (mr - mc1) (sr - mk2) Q))
set_option maxRecDepth 20000 in
set_option maxHeartbeats 4000000 in
theorem f_168 {sp : ox_E} (hsp : ox_mono sp) {d : Nat} {mr sr : Nat} {x0 : Nat} {x1 : Int32} {x2 : Int32} {S : ox_St} {Q : ox_Q} (h : q_168 (ox_M sp d) x0 x1 x2 S mr sr Q) : ox_M sp (d + 1) 168 [.inr (.inr (x0)), .inl (x1), .inl (x2)] mr sr S Q := Or.inr ⟨Nat.le_of_ble_eq_true rfl, ox_C_fold (ox_M_mono hsp d) h⟩
/-! OpcodeFramesModel.isBlockRight(IIII)Z -/
def k_169_32 (E : ox_E) (x0 : Nat) (x1 : Int32) (x2 : Int32) (x3 : Int32) (x4 : Int32) (x5 : Int32) (mr sr : Nat) (Q : ox_Q) : ox_Q := fun r_ T_ => ox_C E (ox_mi 169).2.2.2.1 (ox_mc 169) (ox_cut 169) Q 32 [some (.inr (.inr (x0))), some (.inl (x1)), some (.inl (x2)), some (.inl (x3)), some (.inl (x4)), some (.inl (x5))] (r_.toList ++ []) T_ mr sr
def k_169_77 (E : ox_E) (x0 : Nat) (x1 : Int32) (x2 : Int32) (x3 : Int32) (x4 : Int32) (x5 : Int32) (mr sr : Nat) (Q : ox_Q) : ox_Q := fun r_ T_ => ox_C E (ox_mi 169).2.2.2.1 (ox_mc 169) (ox_cut 169) Q 77 [some (.inr (.inr (x0))), some (.inl (x1)), some (.inl (x2)), some (.inl (x3)), some (.inl (x4)), some (.inl (x5))] (r_.toList ++ []) T_ mr sr
set_option maxRecDepth 20000 in
def q_169_77 (E : ox_E) (x0 : Nat) (x1 : Int32) (x2 : Int32) (x3 : Int32) (x4 : Int32) (x5 : Int32) (y0 : Int32) (S : ox_St) (mr sr : Nat) (Q : ox_Q) : Prop :=
  ((y0 = 0 ∨ y0 = 1) ∧ Q (some (.inl y0)) S)
set_option maxRecDepth 20000 in
set_option maxHeartbeats 4000000 in
theorem f_169_77 {E : ox_E} (hE : ox_mono E) {mr sr : Nat} {x0 : Nat} {x1 : Int32} {x2 : Int32} {x3 : Int32} {x4 : Int32} {x5 : Int32} {y0 : Int32} {S : ox_St} {Q : ox_Q} (h : q_169_77 E x0 x1 x2 x3 x4 x5 y0 S mr sr Q) : k_169_77 E x0 x1 x2 x3 x4 x5 mr sr Q (some (.inl (y0))) S := ox_C_fold hE h
set_option maxRecDepth 20000 in
def q_169_32 (E : ox_E) (x0 : Nat) (x1 : Int32) (x2 : Int32) (x3 : Int32) (x4 : Int32) (x5 : Int32) (y0 : Int32) (S : ox_St) (mr sr : Nat) (Q : ox_Q) : Prop :=
  ((¬ y0 = 0 → (ox_has (S.K x0) 135 = true ∧ (S.K (S.R 135 x0) = 15 ∧ vp_in ((4 * x2) + x4) (S.len (S.R 135 x0)) ∧ (let S1 := S.wI (S.R 135 x0) (Int32.toNatClampNeg ((4 * x2) + x4)) x3
  (ox_has (S1.K x0) 136 = true ∧ (S1.K (S1.R 136 x0) = 15 ∧ vp_in ((4 * x2) + x4) (S1.len (S1.R 136 x0)) ∧ (let S2 := S1.wI (S1.R 136 x0) (Int32.toNatClampNeg ((4 * x2) + x4)) x5
  (ox_has (S2.K x0) 140 = true ∧ (6 ≤ 6 ∧ S2.K x0 = 14 ∧ 0 ≤ 8 ∧ ∃ mc3 mk4, mc3 ≤ mr ∧ mk4 ≤ sr ∧ E 167 [.inr (.inr (x0)), .inl (x1), .inl (S2.I 140 x0), .inl (x3), .inl (x2), .inl (x4 + 1)] mc3 mk4 S2 (k_169_77 E x0 x1 x2 x3 x4 x5 (mr - mc3) (sr - mk4) Q)))))))))) ∧ (y0 = 0 → (((0 : Int32) = 0 ∨ (0 : Int32) = 1) ∧ Q (some (.inl (0 : Int32))) S)))
set_option maxRecDepth 20000 in
set_option maxHeartbeats 4000000 in
theorem f_169_32 {E : ox_E} (hE : ox_mono E) {mr sr : Nat} {x0 : Nat} {x1 : Int32} {x2 : Int32} {x3 : Int32} {x4 : Int32} {x5 : Int32} {y0 : Int32} {S : ox_St} {Q : ox_Q} (h : q_169_32 E x0 x1 x2 x3 x4 x5 y0 S mr sr Q) : k_169_32 E x0 x1 x2 x3 x4 x5 mr sr Q (some (.inl (y0))) S := ox_C_fold hE h
set_option maxRecDepth 20000 in
def q_169 (E : ox_E) (x0 : Nat) (x1 : Int32) (x2 : Int32) (x3 : Int32) (x4 : Int32) (S : ox_St) (mr sr : Nat) (Q : ox_Q) : Prop :=
  ((¬ x4 = 4 → (ox_has (S.K x0) 140 = true ∧ (ox_has (S.K x0) 139 = true ∧ (let w1 : Int32 := (S.I 140 x0) + (S.I 139 x0)
  (6 ≤ 6 ∧ S.K x0 = 14 ∧ 0 ≤ 8 ∧ ∃ mc2 mk3, mc2 ≤ mr ∧ mk3 ≤ sr ∧ E 167 [.inr (.inr (x0)), .inl (x1), .inl (w1), .inl (x3 + 1), .inl (x2), .inl (x4)] mc2 mk3 S (k_169_32 E x0 x1 x2 x3 x4 w1 (mr - mc2) (sr - mk3) Q)))))) ∧ (x4 = 4 → (((0 : Int32) = 0 ∨ (0 : Int32) = 1) ∧ Q (some (.inl (0 : Int32))) S)))
set_option maxRecDepth 20000 in
set_option maxHeartbeats 4000000 in
theorem f_169 {sp : ox_E} (hsp : ox_mono sp) {d : Nat} {mr sr : Nat} {x0 : Nat} {x1 : Int32} {x2 : Int32} {x3 : Int32} {x4 : Int32} {S : ox_St} {Q : ox_Q} (h : q_169 (ox_M sp d) x0 x1 x2 x3 x4 S mr sr Q) : ox_M sp (d + 1) 169 [.inr (.inr (x0)), .inl (x1), .inl (x2), .inl (x3), .inl (x4)] mr sr S Q := Or.inr ⟨Nat.le_of_ble_eq_true rfl, ox_C_fold (ox_M_mono hsp d) h⟩
/-! OpcodeFramesModel.isRight(I)Z -/
def c_170_2 (E : ox_E) (x0 : Nat) (x1 : Int32) (x2 : Int32) (S : ox_St) (mr sr : Nat) (Q : ox_Q) : Prop := ox_C E (ox_mi 170).2.2.2.1 (ox_mc 170) (ox_cut 170) Q 2 [some (.inr (.inr (x0))), some (.inl (x1)), some (.inl (x2)), none] [] S mr sr
def c_170_52 (E : ox_E) (x0 : Nat) (x1 : Int32) (x2 : Int32) (S : ox_St) (mr sr : Nat) (Q : ox_Q) : Prop := ox_C E (ox_mi 170).2.2.2.1 (ox_mc 170) (ox_cut 170) Q 52 [some (.inr (.inr (x0))), some (.inl (x1)), some (.inl (x2)), none] [] S mr sr
def c_170_60 (E : ox_E) (x0 : Nat) (x1 : Int32) (x2 : Int32) (x3 : Int32) (S : ox_St) (mr sr : Nat) (Q : ox_Q) : Prop := ox_C E (ox_mi 170).2.2.2.1 (ox_mc 170) (ox_cut 170) Q 60 [some (.inr (.inr (x0))), some (.inl (x1)), some (.inl (x2)), some (.inl (x3))] [] S mr sr
def k_170_97 (E : ox_E) (x0 : Nat) (x1 : Int32) (x2 : Int32) (x3 : Int32) (mr sr : Nat) (Q : ox_Q) : ox_Q := fun r_ T_ => ox_C E (ox_mi 170).2.2.2.1 (ox_mc 170) (ox_cut 170) Q 97 [some (.inr (.inr (x0))), some (.inl (x1)), some (.inl (x2)), some (.inl (x3))] (r_.toList ++ []) T_ mr sr
set_option maxRecDepth 20000 in
def q_170_97 (E : ox_E) (x0 : Nat) (x1 : Int32) (x2 : Int32) (x3 : Int32) (y0 : Int32) (S : ox_St) (mr sr : Nat) (Q : ox_Q) : Prop :=
  ((¬ y0 = 0 → c_170_60 E x0 x1 x2 (x3 + 1) S mr sr Q) ∧ (y0 = 0 → (((0 : Int32) = 0 ∨ (0 : Int32) = 1) ∧ Q (some (.inl (0 : Int32))) S)))
set_option maxRecDepth 20000 in
set_option maxHeartbeats 4000000 in
theorem f_170_97 {E : ox_E} (hE : ox_mono E) {mr sr : Nat} {x0 : Nat} {x1 : Int32} {x2 : Int32} {x3 : Int32} {y0 : Int32} {S : ox_St} {Q : ox_Q} (h : q_170_97 E x0 x1 x2 x3 y0 S mr sr Q) : k_170_97 E x0 x1 x2 x3 mr sr Q (some (.inl (y0))) S := ox_C_fold hE h
set_option maxRecDepth 20000 in
def q_170_60 (E : ox_E) (x0 : Nat) (x1 : Int32) (x2 : Int32) (x3 : Int32) (S : ox_St) (mr sr : Nat) (Q : ox_Q) : Prop :=
  (ox_has (S.K x0) 81 = true ∧ (ox_rdI (S.K (S.R 81 x0)) = true ∧ vp_in x1 (S.len (S.R 81 x0)) ∧ (((S.rI (S.R 81 x0) (Int32.toNatClampNeg x1)) ≤ x3 → c_170_52 E x0 x1 x2 S mr sr Q) ∧ (¬ (S.rI (S.R 81 x0) (Int32.toNatClampNeg x1)) ≤ x3 → (ox_has (S.K x0) 137 = true ∧ (S.K (S.R 137 x0) = 17 ∧ vp_in x3 (S.len (S.R 137 x0)) ∧ ((¬ (S.rI (S.R 137 x0) (Int32.toNatClampNeg x3)) = 0 → (ox_has (S.K x0) 137 = true ∧ (S.K (S.R 137 x0) = 17 ∧ vp_in x3 (S.len (S.R 137 x0)) ∧ (let S1 := S.wI (S.R 137 x0) (Int32.toNatClampNeg x3) (vp_nar .boolean 0)
  (3 ≤ 3 ∧ S1.K x0 = 14 ∧ 0 ≤ 8 ∧ ∃ mc2 mk3, mc2 ≤ mr ∧ mk3 ≤ sr ∧ E 168 [.inr (.inr (x0)), .inl (x1), .inl (x3)] mc2 mk3 S1 (k_170_97 E x0 x1 1 x3 (mr - mc2) (sr - mk3) Q)))))) ∧ ((S.rI (S.R 137 x0) (Int32.toNatClampNeg x3)) = 0 → c_170_60 E x0 x1 x2 (x3 + 1) S mr sr Q))))))))
set_option maxRecDepth 20000 in
set_option maxHeartbeats 4000000 in
theorem f_170_60 {E : ox_E} (hE : ox_mono E) {mr sr : Nat} {x0 : Nat} {x1 : Int32} {x2 : Int32} {x3 : Int32} {S : ox_St} {Q : ox_Q} (h : q_170_60 E x0 x1 x2 x3 S mr sr Q) : c_170_60 E x0 x1 x2 x3 S mr sr Q := ox_C_fold hE h
set_option maxRecDepth 20000 in
def q_170_52 (E : ox_E) (x0 : Nat) (x1 : Int32) (x2 : Int32) (S : ox_St) (mr sr : Nat) (Q : ox_Q) : Prop :=
  ((x2 = 0 → (((1 : Int32) = 0 ∨ (1 : Int32) = 1) ∧ Q (some (.inl (1 : Int32))) S)) ∧ (¬ x2 = 0 → c_170_60 E x0 x1 0 0 S mr sr Q))
set_option maxRecDepth 20000 in
set_option maxHeartbeats 4000000 in
theorem f_170_52 {E : ox_E} (hE : ox_mono E) {mr sr : Nat} {x0 : Nat} {x1 : Int32} {x2 : Int32} {S : ox_St} {Q : ox_Q} (h : q_170_52 E x0 x1 x2 S mr sr Q) : c_170_52 E x0 x1 x2 S mr sr Q := ox_C_fold hE h
set_option maxRecDepth 20000 in
def q_170_2 (E : ox_E) (x0 : Nat) (x1 : Int32) (x2 : Int32) (S : ox_St) (mr sr : Nat) (Q : ox_Q) : Prop :=
  (((160 : Int32) ≤ x2 → (ox_has (S.K x0) 133 = true ∧ (S.K (S.R 133 x0) = 15 ∧ vp_in 0 (S.len (S.R 133 x0)) ∧ (let S1 := S.wI (S.R 133 x0) (Int32.toNatClampNeg 0) 0
  (ox_has (S1.K x0) 134 = true ∧ (S1.K (S1.R 134 x0) = 15 ∧ vp_in 0 (S1.len (S1.R 134 x0)) ∧ (let S2 := S1.wI (S1.R 134 x0) (Int32.toNatClampNeg 0) 0
  (ox_has (S2.K x0) 137 = true ∧ (S2.K (S2.R 137 x0) = 17 ∧ vp_in 0 (S2.len (S2.R 137 x0)) ∧ (let S3 := S2.wI (S2.R 137 x0) (Int32.toNatClampNeg 0) (vp_nar .boolean 1)
  c_170_52 E x0 x1 1 S3 mr sr Q)))))))))) ∧ (¬ (160 : Int32) ≤ x2 → (ox_has (S.K x0) 133 = true ∧ (S.K (S.R 133 x0) = 15 ∧ vp_in x2 (S.len (S.R 133 x0)) ∧ (let S4 := S.wI (S.R 133 x0) (Int32.toNatClampNeg x2) (-1)
  (ox_has (S4.K x0) 137 = true ∧ (S4.K (S4.R 137 x0) = 17 ∧ vp_in x2 (S4.len (S4.R 137 x0)) ∧ (let S5 := S4.wI (S4.R 137 x0) (Int32.toNatClampNeg x2) (vp_nar .boolean 0)
  c_170_2 E x0 x1 (x2 + 1) S5 mr sr Q))))))))
set_option maxRecDepth 20000 in
set_option maxHeartbeats 4000000 in
theorem f_170_2 {E : ox_E} (hE : ox_mono E) {mr sr : Nat} {x0 : Nat} {x1 : Int32} {x2 : Int32} {S : ox_St} {Q : ox_Q} (h : q_170_2 E x0 x1 x2 S mr sr Q) : c_170_2 E x0 x1 x2 S mr sr Q := ox_C_fold hE h
set_option maxRecDepth 20000 in
def q_170 (E : ox_E) (x0 : Nat) (x1 : Int32) (S : ox_St) (mr sr : Nat) (Q : ox_Q) : Prop :=
  c_170_2 E x0 x1 0 S mr sr Q
set_option maxRecDepth 20000 in
set_option maxHeartbeats 4000000 in
theorem f_170 {sp : ox_E} (hsp : ox_mono sp) {d : Nat} {mr sr : Nat} {x0 : Nat} {x1 : Int32} {S : ox_St} {Q : ox_Q} (h : q_170 (ox_M sp d) x0 x1 S mr sr Q) : ox_M sp (d + 1) 170 [.inr (.inr (x0)), .inl (x1)] mr sr S Q := Or.inr ⟨Nat.le_of_ble_eq_true rfl, ox_C_fold (ox_M_mono hsp d) h⟩
/-! OpcodeFramesModel.start()V -/
def k_171_34 (E : ox_E) (x0 : Nat) (mr sr : Nat) (Q : ox_Q) : ox_Q := fun r_ T_ => ox_C E (ox_mi 171).2.2.2.1 (ox_mc 171) (ox_cut 171) Q 34 [some (.inr (.inr (x0)))] (r_.toList ++ []) T_ mr sr
set_option maxRecDepth 20000 in
def q_171_34 (E : ox_E) (x0 : Nat) (S : ox_St) (mr sr : Nat) (Q : ox_Q) : Prop :=
  ((ox_mi 171).2.2.2.1 = none ∧ Q none S)
set_option maxRecDepth 20000 in
set_option maxHeartbeats 4000000 in
theorem f_171_34 {E : ox_E} (hE : ox_mono E) {mr sr : Nat} {x0 : Nat} {S : ox_St} {Q : ox_Q} (h : q_171_34 E x0 S mr sr Q) : k_171_34 E x0 mr sr Q none S := ox_C_fold hE h
set_option maxRecDepth 20000 in
def q_171 (E : ox_E) (x0 : Nat) (S : ox_St) (mr sr : Nat) (Q : ox_Q) : Prop :=
  (ox_has (S.K x0) 92 = true ∧ (let S1 := S.sI 92 x0 1
  (ox_has (S1.K x0) 93 = true ∧ (let S2 := S1.sI 93 x0 1
  (ox_has (S2.K x0) 94 = true ∧ (let S3 := S2.sI 94 x0 (-1)
  (ox_has (S3.K x0) 95 = true ∧ (let S4 := S3.sI 95 x0 0
  (ox_has (S4.K x0) 97 = true ∧ (let S5 := S4.sI 97 x0 0
  (ox_has (S5.K x0) 96 = true ∧ (3 ≤ 3 ∧ S5.K x0 = 14 ∧ 0 ≤ 8 ∧ ∃ mc6 mk7, mc6 ≤ mr ∧ mk7 ≤ sr ∧ E 172 [.inr (.inr (x0)), .inl (0), .inl (S5.I 96 x0)] mc6 mk7 S5 (k_171_34 E x0 (mr - mc6) (sr - mk7) Q)))))))))))))
set_option maxRecDepth 20000 in
set_option maxHeartbeats 4000000 in
theorem f_171 {sp : ox_E} (hsp : ox_mono sp) {d : Nat} {mr sr : Nat} {x0 : Nat} {S : ox_St} {Q : ox_Q} (h : q_171 (ox_M sp d) x0 S mr sr Q) : ox_M sp (d + 1) 171 [.inr (.inr (x0))] mr sr S Q := Or.inr ⟨Nat.le_of_ble_eq_true rfl, ox_C_fold (ox_M_mono hsp d) h⟩
