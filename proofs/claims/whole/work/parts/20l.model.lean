/-! OpcodeFramesModel.work()V -/
def k_200_174 (E : ox_E) (x0 : Nat) (x1 : Int32) (x2 : Int32) (mr sr : Nat) (Q : ox_Q) : ox_Q := fun r_ T_ => ox_C E (ox_mi 200).2.2.2.1 (ox_mc 200) (ox_cut 200) Q 174 [some (.inr (.inr (x0))), some (.inl (x1)), some (.inl (x2))] (r_.toList ++ []) T_ mr sr
def k_200_182 (E : ox_E) (x0 : Nat) (x1 : Int32) (x2 : Int32) (mr sr : Nat) (Q : ox_Q) : ox_Q := fun r_ T_ => ox_C E (ox_mi 200).2.2.2.1 (ox_mc 200) (ox_cut 200) Q 182 [some (.inr (.inr (x0))), some (.inl (x1)), some (.inl (x2))] (r_.toList ++ []) T_ mr sr
def k_200_191 (E : ox_E) (x0 : Nat) (x1 : Int32) (x2 : Int32) (y1 : Nat) (mr sr : Nat) (Q : ox_Q) : ox_Q := fun r_ T_ => ox_C E (ox_mi 200).2.2.2.1 (ox_mc 200) (ox_cut 200) Q 191 [some (.inr (.inr (x0))), some (.inl (x1)), some (.inl (x2))] (r_.toList ++ [.inr (.inr (y1))]) T_ mr sr
def k_200_194 (E : ox_E) (x0 : Nat) (x1 : Int32) (x2 : Int32) (mr sr : Nat) (Q : ox_Q) : ox_Q := fun r_ T_ => ox_C E (ox_mi 200).2.2.2.1 (ox_mc 200) (ox_cut 200) Q 194 [some (.inr (.inr (x0))), some (.inl (x1)), some (.inl (x2))] (r_.toList ++ []) T_ mr sr
def k_200_201 (E : ox_E) (x0 : Nat) (x1 : Int32) (x2 : Int32) (mr sr : Nat) (Q : ox_Q) : ox_Q := fun r_ T_ => ox_C E (ox_mi 200).2.2.2.1 (ox_mc 200) (ox_cut 200) Q 201 [some (.inr (.inr (x0))), some (.inl (x1)), some (.inl (x2))] (r_.toList ++ []) T_ mr sr
def k_200_210 (E : ox_E) (x0 : Nat) (x1 : Int32) (x2 : Int32) (y1 : Nat) (y2 : Nat) (mr sr : Nat) (Q : ox_Q) : ox_Q := fun r_ T_ => ox_C E (ox_mi 200).2.2.2.1 (ox_mc 200) (ox_cut 200) Q 210 [some (.inr (.inr (x0))), some (.inl (x1)), some (.inl (x2))] (r_.toList ++ [.inr (.inr (y1)), .inr (.inr (y2))]) T_ mr sr
def k_200_213 (E : ox_E) (x0 : Nat) (x1 : Int32) (x2 : Int32) (y1 : Nat) (mr sr : Nat) (Q : ox_Q) : ox_Q := fun r_ T_ => ox_C E (ox_mi 200).2.2.2.1 (ox_mc 200) (ox_cut 200) Q 213 [some (.inr (.inr (x0))), some (.inl (x1)), some (.inl (x2))] (r_.toList ++ [.inr (.inr (y1))]) T_ mr sr
def k_200_224 (E : ox_E) (x0 : Nat) (x1 : Int32) (x2 : Int32) (mr sr : Nat) (Q : ox_Q) : ox_Q := fun r_ T_ => ox_C E (ox_mi 200).2.2.2.1 (ox_mc 200) (ox_cut 200) Q 224 [some (.inr (.inr (x0))), some (.inl (x1)), some (.inl (x2))] (r_.toList ++ []) T_ mr sr
def k_200_231 (E : ox_E) (x0 : Nat) (x1 : Int32) (x2 : Int32) (mr sr : Nat) (Q : ox_Q) : ox_Q := fun r_ T_ => ox_C E (ox_mi 200).2.2.2.1 (ox_mc 200) (ox_cut 200) Q 231 [some (.inr (.inr (x0))), some (.inl (x1)), some (.inl (x2))] (r_.toList ++ []) T_ mr sr
def k_200_238 (E : ox_E) (x0 : Nat) (x1 : Int32) (x2 : Int32) (mr sr : Nat) (Q : ox_Q) : ox_Q := fun r_ T_ => ox_C E (ox_mi 200).2.2.2.1 (ox_mc 200) (ox_cut 200) Q 238 [some (.inr (.inr (x0))), some (.inl (x1)), some (.inl (x2))] (r_.toList ++ []) T_ mr sr
def k_200_261 (E : ox_E) (x0 : Nat) (x1 : Int32) (x2 : Int32) (mr sr : Nat) (Q : ox_Q) : ox_Q := fun r_ T_ => ox_C E (ox_mi 200).2.2.2.1 (ox_mc 200) (ox_cut 200) Q 261 [some (.inr (.inr (x0))), some (.inl (x1)), some (.inl (x2))] (r_.toList ++ []) T_ mr sr
def k_200_272 (E : ox_E) (x0 : Nat) (x1 : Int32) (x2 : Int32) (mr sr : Nat) (Q : ox_Q) : ox_Q := fun r_ T_ => ox_C E (ox_mi 200).2.2.2.1 (ox_mc 200) (ox_cut 200) Q 272 [some (.inr (.inr (x0))), some (.inl (x1)), some (.inl (x2))] (r_.toList ++ []) T_ mr sr
def k_200_295 (E : ox_E) (x0 : Nat) (x1 : Int32) (x2 : Int32) (mr sr : Nat) (Q : ox_Q) : ox_Q := fun r_ T_ => ox_C E (ox_mi 200).2.2.2.1 (ox_mc 200) (ox_cut 200) Q 295 [some (.inr (.inr (x0))), some (.inl (x1)), some (.inl (x2))] (r_.toList ++ []) T_ mr sr
def k_200_318 (E : ox_E) (x0 : Nat) (x1 : Int32) (x2 : Int32) (mr sr : Nat) (Q : ox_Q) : ox_Q := fun r_ T_ => ox_C E (ox_mi 200).2.2.2.1 (ox_mc 200) (ox_cut 200) Q 318 [some (.inr (.inr (x0))), some (.inl (x1)), some (.inl (x2))] (r_.toList ++ []) T_ mr sr
def k_200_329 (E : ox_E) (x0 : Nat) (x1 : Int32) (x2 : Int32) (mr sr : Nat) (Q : ox_Q) : ox_Q := fun r_ T_ => ox_C E (ox_mi 200).2.2.2.1 (ox_mc 200) (ox_cut 200) Q 329 [some (.inr (.inr (x0))), some (.inl (x1)), some (.inl (x2))] (r_.toList ++ []) T_ mr sr
def k_200_336 (E : ox_E) (x0 : Nat) (x1 : Int32) (x2 : Int32) (mr sr : Nat) (Q : ox_Q) : ox_Q := fun r_ T_ => ox_C E (ox_mi 200).2.2.2.1 (ox_mc 200) (ox_cut 200) Q 336 [some (.inr (.inr (x0))), some (.inl (x1)), some (.inl (x2))] (r_.toList ++ []) T_ mr sr
def k_200_347 (E : ox_E) (x0 : Nat) (x1 : Int32) (x2 : Int32) (mr sr : Nat) (Q : ox_Q) : ox_Q := fun r_ T_ => ox_C E (ox_mi 200).2.2.2.1 (ox_mc 200) (ox_cut 200) Q 347 [some (.inr (.inr (x0))), some (.inl (x1)), some (.inl (x2))] (r_.toList ++ []) T_ mr sr
def k_200_354 (E : ox_E) (x0 : Nat) (x1 : Int32) (x2 : Int32) (mr sr : Nat) (Q : ox_Q) : ox_Q := fun r_ T_ => ox_C E (ox_mi 200).2.2.2.1 (ox_mc 200) (ox_cut 200) Q 354 [some (.inr (.inr (x0))), some (.inl (x1)), some (.inl (x2))] (r_.toList ++ []) T_ mr sr
def k_200_365 (E : ox_E) (x0 : Nat) (x1 : Int32) (x2 : Int32) (mr sr : Nat) (Q : ox_Q) : ox_Q := fun r_ T_ => ox_C E (ox_mi 200).2.2.2.1 (ox_mc 200) (ox_cut 200) Q 365 [some (.inr (.inr (x0))), some (.inl (x1)), some (.inl (x2))] (r_.toList ++ []) T_ mr sr
set_option maxRecDepth 20000 in
def q_200_365 (E : ox_E) (x0 : Nat) (x1 : Int32) (x2 : Int32) (S : ox_St) (mr sr : Nat) (Q : ox_Q) : Prop :=
  ((ox_mi 200).2.2.2.1 = none ∧ Q none S)
set_option maxRecDepth 20000 in
set_option maxHeartbeats 4000000 in
theorem f_200_365 {E : ox_E} (hE : ox_mono E) {mr sr : Nat} {x0 : Nat} {x1 : Int32} {x2 : Int32} {S : ox_St} {Q : ox_Q} (h : q_200_365 E x0 x1 x2 S mr sr Q) : k_200_365 E x0 x1 x2 mr sr Q none S := ox_C_fold hE h
set_option maxRecDepth 20000 in
def q_200_354 (E : ox_E) (x0 : Nat) (x1 : Int32) (x2 : Int32) (S : ox_St) (mr sr : Nat) (Q : ox_Q) : Prop :=
  k_200_365 E x0 x1 x2 mr sr Q none S
set_option maxRecDepth 20000 in
set_option maxHeartbeats 4000000 in
theorem f_200_354 {E : ox_E} (hE : ox_mono E) {mr sr : Nat} {x0 : Nat} {x1 : Int32} {x2 : Int32} {S : ox_St} {Q : ox_Q} (h : q_200_354 E x0 x1 x2 S mr sr Q) : k_200_354 E x0 x1 x2 mr sr Q none S := ox_C_fold hE h
set_option maxRecDepth 20000 in
def q_200_347 (E : ox_E) (x0 : Nat) (x1 : Int32) (x2 : Int32) (S : ox_St) (mr sr : Nat) (Q : ox_Q) : Prop :=
  k_200_365 E x0 x1 x2 mr sr Q none S
set_option maxRecDepth 20000 in
set_option maxHeartbeats 4000000 in
theorem f_200_347 {E : ox_E} (hE : ox_mono E) {mr sr : Nat} {x0 : Nat} {x1 : Int32} {x2 : Int32} {S : ox_St} {Q : ox_Q} (h : q_200_347 E x0 x1 x2 S mr sr Q) : k_200_347 E x0 x1 x2 mr sr Q none S := ox_C_fold hE h
set_option maxRecDepth 20000 in
def q_200_336 (E : ox_E) (x0 : Nat) (x1 : Int32) (x2 : Int32) (S : ox_St) (mr sr : Nat) (Q : ox_Q) : Prop :=
  k_200_365 E x0 x1 x2 mr sr Q none S
set_option maxRecDepth 20000 in
set_option maxHeartbeats 4000000 in
theorem f_200_336 {E : ox_E} (hE : ox_mono E) {mr sr : Nat} {x0 : Nat} {x1 : Int32} {x2 : Int32} {S : ox_St} {Q : ox_Q} (h : q_200_336 E x0 x1 x2 S mr sr Q) : k_200_336 E x0 x1 x2 mr sr Q none S := ox_C_fold hE h
set_option maxRecDepth 20000 in
def q_200_329 (E : ox_E) (x0 : Nat) (x1 : Int32) (x2 : Int32) (S : ox_St) (mr sr : Nat) (Q : ox_Q) : Prop :=
  k_200_365 E x0 x1 x2 mr sr Q none S
set_option maxRecDepth 20000 in
set_option maxHeartbeats 4000000 in
theorem f_200_329 {E : ox_E} (hE : ox_mono E) {mr sr : Nat} {x0 : Nat} {x1 : Int32} {x2 : Int32} {S : ox_St} {Q : ox_Q} (h : q_200_329 E x0 x1 x2 S mr sr Q) : k_200_329 E x0 x1 x2 mr sr Q none S := ox_C_fold hE h
set_option maxRecDepth 20000 in
def q_200_318 (E : ox_E) (x0 : Nat) (x1 : Int32) (x2 : Int32) (S : ox_St) (mr sr : Nat) (Q : ox_Q) : Prop :=
  k_200_365 E x0 x1 x2 mr sr Q none S
set_option maxRecDepth 20000 in
set_option maxHeartbeats 4000000 in
theorem f_200_318 {E : ox_E} (hE : ox_mono E) {mr sr : Nat} {x0 : Nat} {x1 : Int32} {x2 : Int32} {S : ox_St} {Q : ox_Q} (h : q_200_318 E x0 x1 x2 S mr sr Q) : k_200_318 E x0 x1 x2 mr sr Q none S := ox_C_fold hE h
set_option maxRecDepth 20000 in
def q_200_295 (E : ox_E) (x0 : Nat) (x1 : Int32) (x2 : Int32) (S : ox_St) (mr sr : Nat) (Q : ox_Q) : Prop :=
  k_200_365 E x0 x1 x2 mr sr Q none S
set_option maxRecDepth 20000 in
set_option maxHeartbeats 4000000 in
theorem f_200_295 {E : ox_E} (hE : ox_mono E) {mr sr : Nat} {x0 : Nat} {x1 : Int32} {x2 : Int32} {S : ox_St} {Q : ox_Q} (h : q_200_295 E x0 x1 x2 S mr sr Q) : k_200_295 E x0 x1 x2 mr sr Q none S := ox_C_fold hE h
set_option maxRecDepth 20000 in
def q_200_272 (E : ox_E) (x0 : Nat) (x1 : Int32) (x2 : Int32) (S : ox_St) (mr sr : Nat) (Q : ox_Q) : Prop :=
  k_200_365 E x0 x1 x2 mr sr Q none S
set_option maxRecDepth 20000 in
set_option maxHeartbeats 4000000 in
theorem f_200_272 {E : ox_E} (hE : ox_mono E) {mr sr : Nat} {x0 : Nat} {x1 : Int32} {x2 : Int32} {S : ox_St} {Q : ox_Q} (h : q_200_272 E x0 x1 x2 S mr sr Q) : k_200_272 E x0 x1 x2 mr sr Q none S := ox_C_fold hE h
set_option maxRecDepth 20000 in
def q_200_261 (E : ox_E) (x0 : Nat) (x1 : Int32) (x2 : Int32) (S : ox_St) (mr sr : Nat) (Q : ox_Q) : Prop :=
  k_200_365 E x0 x1 x2 mr sr Q none S
set_option maxRecDepth 20000 in
set_option maxHeartbeats 4000000 in
theorem f_200_261 {E : ox_E} (hE : ox_mono E) {mr sr : Nat} {x0 : Nat} {x1 : Int32} {x2 : Int32} {S : ox_St} {Q : ox_Q} (h : q_200_261 E x0 x1 x2 S mr sr Q) : k_200_261 E x0 x1 x2 mr sr Q none S := ox_C_fold hE h
set_option maxRecDepth 20000 in
def q_200_238 (E : ox_E) (x0 : Nat) (x1 : Int32) (x2 : Int32) (S : ox_St) (mr sr : Nat) (Q : ox_Q) : Prop :=
  k_200_365 E x0 x1 x2 mr sr Q none S
set_option maxRecDepth 20000 in
set_option maxHeartbeats 4000000 in
theorem f_200_238 {E : ox_E} (hE : ox_mono E) {mr sr : Nat} {x0 : Nat} {x1 : Int32} {x2 : Int32} {S : ox_St} {Q : ox_Q} (h : q_200_238 E x0 x1 x2 S mr sr Q) : k_200_238 E x0 x1 x2 mr sr Q none S := ox_C_fold hE h
set_option maxRecDepth 20000 in
def q_200_231 (E : ox_E) (x0 : Nat) (x1 : Int32) (x2 : Int32) (S : ox_St) (mr sr : Nat) (Q : ox_Q) : Prop :=
  k_200_365 E x0 x1 x2 mr sr Q none S
set_option maxRecDepth 20000 in
set_option maxHeartbeats 4000000 in
theorem f_200_231 {E : ox_E} (hE : ox_mono E) {mr sr : Nat} {x0 : Nat} {x1 : Int32} {x2 : Int32} {S : ox_St} {Q : ox_Q} (h : q_200_231 E x0 x1 x2 S mr sr Q) : k_200_231 E x0 x1 x2 mr sr Q none S := ox_C_fold hE h
set_option maxRecDepth 20000 in
def q_200_224 (E : ox_E) (x0 : Nat) (x1 : Int32) (x2 : Int32) (S : ox_St) (mr sr : Nat) (Q : ox_Q) : Prop :=
  k_200_365 E x0 x1 x2 mr sr Q none S
set_option maxRecDepth 20000 in
set_option maxHeartbeats 4000000 in
theorem f_200_224 {E : ox_E} (hE : ox_mono E) {mr sr : Nat} {x0 : Nat} {x1 : Int32} {x2 : Int32} {S : ox_St} {Q : ox_Q} (h : q_200_224 E x0 x1 x2 S mr sr Q) : k_200_224 E x0 x1 x2 mr sr Q none S := ox_C_fold hE h
set_option maxRecDepth 20000 in
def q_200_213 (E : ox_E) (x0 : Nat) (x1 : Int32) (x2 : Int32) (y0 : Int32) (y1 : Nat) (S : ox_St) (mr sr : Nat) (Q : ox_Q) : Prop :=
  ((y0 = 0 → (2 ≤ 2 ∧ S.K y1 = 14 ∧ 0 ≤ 8 ∧ ∃ mc1 mk2, mc1 ≤ mr ∧ mk2 ≤ sr ∧ E 174 [.inr (.inr (y1)), .inl (1)] mc1 mk2 S (k_200_224 E x0 x1 x2 (mr - mc1) (sr - mk2) Q))) ∧ (¬ y0 = 0 → (2 ≤ 2 ∧ S.K y1 = 14 ∧ 0 ≤ 8 ∧ ∃ mc3 mk4, mc3 ≤ mr ∧ mk4 ≤ sr ∧ E 174 [.inr (.inr (y1)), .inl (2)] mc3 mk4 S (k_200_224 E x0 x1 x2 (mr - mc3) (sr - mk4) Q))))
set_option maxRecDepth 20000 in
set_option maxHeartbeats 4000000 in
theorem f_200_213 {E : ox_E} (hE : ox_mono E) {mr sr : Nat} {x0 : Nat} {x1 : Int32} {x2 : Int32} {y0 : Int32} {y1 : Nat} {S : ox_St} {Q : ox_Q} (h : q_200_213 E x0 x1 x2 y0 y1 S mr sr Q) : k_200_213 E x0 x1 x2 y1 mr sr Q (some (.inl (y0))) S := ox_C_fold hE h
set_option maxRecDepth 20000 in
def q_200_210 (E : ox_E) (x0 : Nat) (x1 : Int32) (x2 : Int32) (y0 : Int32) (y1 : Nat) (y2 : Nat) (S : ox_St) (mr sr : Nat) (Q : ox_Q) : Prop :=
  (2 ≤ 3 ∧ S.K y1 = 14 ∧ 1 ≤ 8 ∧ ∃ mc1 mk2, mc1 ≤ mr ∧ mk2 ≤ sr ∧ E 181 [.inr (.inr (y1)), .inl (y0)] mc1 mk2 S (k_200_213 E x0 x1 x2 y2 (mr - mc1) (sr - mk2) Q))
set_option maxRecDepth 20000 in
set_option maxHeartbeats 4000000 in
theorem f_200_210 {E : ox_E} (hE : ox_mono E) {mr sr : Nat} {x0 : Nat} {x1 : Int32} {x2 : Int32} {y0 : Int32} {y1 : Nat} {y2 : Nat} {S : ox_St} {Q : ox_Q} (h : q_200_210 E x0 x1 x2 y0 y1 y2 S mr sr Q) : k_200_210 E x0 x1 x2 y1 y2 mr sr Q (some (.inl (y0))) S := ox_C_fold hE h
set_option maxRecDepth 20000 in
def q_200_201 (E : ox_E) (x0 : Nat) (x1 : Int32) (x2 : Int32) (S : ox_St) (mr sr : Nat) (Q : ox_Q) : Prop :=
  k_200_365 E x0 x1 x2 mr sr Q none S
set_option maxRecDepth 20000 in
set_option maxHeartbeats 4000000 in
theorem f_200_201 {E : ox_E} (hE : ox_mono E) {mr sr : Nat} {x0 : Nat} {x1 : Int32} {x2 : Int32} {S : ox_St} {Q : ox_Q} (h : q_200_201 E x0 x1 x2 S mr sr Q) : k_200_201 E x0 x1 x2 mr sr Q none S := ox_C_fold hE h
set_option maxRecDepth 20000 in
def q_200_194 (E : ox_E) (x0 : Nat) (x1 : Int32) (x2 : Int32) (S : ox_St) (mr sr : Nat) (Q : ox_Q) : Prop :=
  k_200_365 E x0 x1 x2 mr sr Q none S
set_option maxRecDepth 20000 in
set_option maxHeartbeats 4000000 in
theorem f_200_194 {E : ox_E} (hE : ox_mono E) {mr sr : Nat} {x0 : Nat} {x1 : Int32} {x2 : Int32} {S : ox_St} {Q : ox_Q} (h : q_200_194 E x0 x1 x2 S mr sr Q) : k_200_194 E x0 x1 x2 mr sr Q none S := ox_C_fold hE h
set_option maxRecDepth 20000 in
def q_200_191 (E : ox_E) (x0 : Nat) (x1 : Int32) (x2 : Int32) (y0 : Int32) (y1 : Nat) (S : ox_St) (mr sr : Nat) (Q : ox_Q) : Prop :=
  (2 ≤ 2 ∧ S.K y1 = 14 ∧ 0 ≤ 8 ∧ ∃ mc1 mk2, mc1 ≤ mr ∧ mk2 ≤ sr ∧ E 174 [.inr (.inr (y1)), .inl (y0)] mc1 mk2 S (k_200_194 E x0 x1 x2 (mr - mc1) (sr - mk2) Q))
set_option maxRecDepth 20000 in
set_option maxHeartbeats 4000000 in
theorem f_200_191 {E : ox_E} (hE : ox_mono E) {mr sr : Nat} {x0 : Nat} {x1 : Int32} {x2 : Int32} {y0 : Int32} {y1 : Nat} {S : ox_St} {Q : ox_Q} (h : q_200_191 E x0 x1 x2 y0 y1 S mr sr Q) : k_200_191 E x0 x1 x2 y1 mr sr Q (some (.inl (y0))) S := ox_C_fold hE h
set_option maxRecDepth 20000 in
def q_200_182 (E : ox_E) (x0 : Nat) (x1 : Int32) (x2 : Int32) (S : ox_St) (mr sr : Nat) (Q : ox_Q) : Prop :=
  k_200_365 E x0 x1 x2 mr sr Q none S
set_option maxRecDepth 20000 in
set_option maxHeartbeats 4000000 in
theorem f_200_182 {E : ox_E} (hE : ox_mono E) {mr sr : Nat} {x0 : Nat} {x1 : Int32} {x2 : Int32} {S : ox_St} {Q : ox_Q} (h : q_200_182 E x0 x1 x2 S mr sr Q) : k_200_182 E x0 x1 x2 mr sr Q none S := ox_C_fold hE h
set_option maxRecDepth 20000 in
def q_200_174 (E : ox_E) (x0 : Nat) (x1 : Int32) (x2 : Int32) (S : ox_St) (mr sr : Nat) (Q : ox_Q) : Prop :=
  k_200_365 E x0 x1 x2 mr sr Q none S
set_option maxRecDepth 20000 in
set_option maxHeartbeats 4000000 in
theorem f_200_174 {E : ox_E} (hE : ox_mono E) {mr sr : Nat} {x0 : Nat} {x1 : Int32} {x2 : Int32} {S : ox_St} {Q : ox_Q} (h : q_200_174 E x0 x1 x2 S mr sr Q) : k_200_174 E x0 x1 x2 mr sr Q none S := ox_C_fold hE h
set_option maxRecDepth 20000 in
def q_200 (E : ox_E) (x0 : Nat) (S : ox_St) (mr sr : Nat) (Q : ox_Q) : Prop :=
  (ox_has (S.K x0) 92 = true ∧ (let w1 : Int32 := (S.I 92 x0) - 1
  (ox_has (S.K x0) 98 = true ∧ (ox_rdI (S.K (S.R 98 x0)) = true ∧ vp_in w1 (S.len (S.R 98 x0)) ∧ (let w2 : Int32 := S.rI (S.R 98 x0) (Int32.toNatClampNeg w1)
  (ox_has (S.K x0) 138 = true ∧ ((Int32.toInt (S.I 138 x0) = 1 → (ox_has (S.K x0) 100 = true ∧ (ox_rdI (S.K (S.R 100 x0)) = true ∧ vp_in w1 (S.len (S.R 100 x0)) ∧ (S.K (S.R 100 x0) = 15 ∧ vp_in w1 (S.len (S.R 100 x0)) ∧ (let S35 := S.wI (S.R 100 x0) (Int32.toNatClampNeg w1) ((S.rI (S.R 100 x0) (Int32.toNatClampNeg w1)) - 1)
  k_200_365 E x0 w1 w2 mr sr Q none S35))))) ∧ (¬ Int32.toInt (S.I 138 x0) = 1 → ((Int32.toInt (S.I 138 x0) = 2 → (2 ≤ 2 ∧ S.K x0 = 14 ∧ 0 ≤ 8 ∧ ∃ mc33 mk34, mc33 ≤ mr ∧ mk34 ≤ sr ∧ E 201 [.inr (.inr (x0)), .inl (2)] mc33 mk34 S (k_200_174 E x0 w1 w2 (mr - mc33) (sr - mk34) Q))) ∧ (¬ Int32.toInt (S.I 138 x0) = 2 → ((Int32.toInt (S.I 138 x0) = 3 → (2 ≤ 2 ∧ S.K x0 = 14 ∧ 0 ≤ 8 ∧ ∃ mc31 mk32, mc31 ≤ mr ∧ mk32 ≤ sr ∧ E 201 [.inr (.inr (x0)), .inl (3)] mc31 mk32 S (k_200_182 E x0 w1 w2 (mr - mc31) (sr - mk32) Q))) ∧ (¬ Int32.toInt (S.I 138 x0) = 3 → ((Int32.toInt (S.I 138 x0) = 4 → (2 ≤ 3 ∧ S.K x0 = 14 ∧ 1 ≤ 8 ∧ ∃ mc29 mk30, mc29 ≤ mr ∧ mk30 ≤ sr ∧ E 176 [.inr (.inr (x0)), .inl (0)] mc29 mk30 S (k_200_191 E x0 w1 w2 x0 (mr - mc29) (sr - mk30) Q))) ∧ (¬ Int32.toInt (S.I 138 x0) = 4 → ((Int32.toInt (S.I 138 x0) = 11 → (1 ≤ 1 ∧ S.K x0 = 14 ∧ 0 ≤ 8 ∧ ∃ mc27 mk28, mc27 ≤ mr ∧ mk28 ≤ sr ∧ E 202 [.inr (.inr (x0))] mc27 mk28 S (k_200_201 E x0 w1 w2 (mr - mc27) (sr - mk28) Q))) ∧ (¬ Int32.toInt (S.I 138 x0) = 11 → ((Int32.toInt (S.I 138 x0) = 12 → (1 ≤ 3 ∧ S.K x0 = 14 ∧ 2 ≤ 8 ∧ ∃ mc25 mk26, mc25 ≤ mr ∧ mk26 ≤ sr ∧ E 175 [.inr (.inr (x0))] mc25 mk26 S (k_200_210 E x0 w1 w2 x0 x0 (mr - mc25) (sr - mk26) Q))) ∧ (¬ Int32.toInt (S.I 138 x0) = 12 → ((Int32.toInt (S.I 138 x0) = 25 → (1 ≤ 1 ∧ S.K x0 = 14 ∧ 0 ≤ 8 ∧ ∃ mc23 mk24, mc23 ≤ mr ∧ mk24 ≤ sr ∧ E 185 [.inr (.inr (x0))] mc23 mk24 S (k_200_231 E x0 w1 w2 (mr - mc23) (sr - mk24) Q))) ∧ (¬ Int32.toInt (S.I 138 x0) = 25 → ((Int32.toInt (S.I 138 x0) = 68 → (1 ≤ 1 ∧ S.K x0 = 14 ∧ 0 ≤ 8 ∧ ∃ mc21 mk22, mc21 ≤ mr ∧ mk22 ≤ sr ∧ E 198 [.inr (.inr (x0))] mc21 mk22 S (k_200_238 E x0 w1 w2 (mr - mc21) (sr - mk22) Q))) ∧ (¬ Int32.toInt (S.I 138 x0) = 68 → ((Int32.toInt (S.I 138 x0) = 90 → (ox_has (S.K x0) 91 = true ∧ (ox_has (S.K x0) 84 = true ∧ (ox_rdI (S.K (S.R 84 x0)) = true ∧ vp_in w2 (S.len (S.R 84 x0)) ∧ (ox_has (S.K x0) 139 = true ∧ (ox_rdJ (S.K (S.R 91 x0)) = true ∧ vp_in ((S.rI (S.R 84 x0) (Int32.toNatClampNeg w2)) + (S.I 139 x0)) (S.len (S.R 91 x0)) ∧ (2 ≤ 2 ∧ S.K x0 = 14 ∧ 0 ≤ 8 ∧ ∃ mc19 mk20, mc19 ≤ mr ∧ mk20 ≤ sr ∧ E 191 [.inr (.inr (x0)), .inr (.inl (S.rJ (S.R 91 x0) (Int32.toNatClampNeg ((S.rI (S.R 84 x0) (Int32.toNatClampNeg w2)) + (S.I 139 x0)))))] mc19 mk20 S (k_200_261 E x0 w1 w2 (mr - mc19) (sr - mk20) Q)))))))) ∧ (¬ Int32.toInt (S.I 138 x0) = 90 → ((Int32.toInt (S.I 138 x0) = 92 → (ox_has (S.K x0) 139 = true ∧ (2 ≤ 2 ∧ S.K x0 = 14 ∧ 0 ≤ 8 ∧ ∃ mc17 mk18, mc17 ≤ mr ∧ mk18 ≤ sr ∧ E 197 [.inr (.inr (x0)), .inl (S.I 139 x0)] mc17 mk18 S (k_200_272 E x0 w1 w2 (mr - mc17) (sr - mk18) Q)))) ∧ (¬ Int32.toInt (S.I 138 x0) = 92 → ((Int32.toInt (S.I 138 x0) = 100 → (ox_has (S.K x0) 90 = true ∧ (ox_has (S.K x0) 82 = true ∧ (ox_rdI (S.K (S.R 82 x0)) = true ∧ vp_in w2 (S.len (S.R 82 x0)) ∧ (ox_has (S.K x0) 139 = true ∧ (ox_rdI (S.K (S.R 90 x0)) = true ∧ vp_in ((S.rI (S.R 82 x0) (Int32.toNatClampNeg w2)) + (S.I 139 x0)) (S.len (S.R 90 x0)) ∧ (2 ≤ 2 ∧ S.K x0 = 14 ∧ 0 ≤ 8 ∧ ∃ mc15 mk16, mc15 ≤ mr ∧ mk16 ≤ sr ∧ E 174 [.inr (.inr (x0)), .inl (S.rI (S.R 90 x0) (Int32.toNatClampNeg ((S.rI (S.R 82 x0) (Int32.toNatClampNeg w2)) + (S.I 139 x0))))] mc15 mk16 S (k_200_295 E x0 w1 w2 (mr - mc15) (sr - mk16) Q)))))))) ∧ (¬ Int32.toInt (S.I 138 x0) = 100 → ((Int32.toInt (S.I 138 x0) = 101 → (ox_has (S.K x0) 91 = true ∧ (ox_has (S.K x0) 84 = true ∧ (ox_rdI (S.K (S.R 84 x0)) = true ∧ vp_in w2 (S.len (S.R 84 x0)) ∧ (ox_has (S.K x0) 139 = true ∧ (ox_rdJ (S.K (S.R 91 x0)) = true ∧ vp_in ((S.rI (S.R 84 x0) (Int32.toNatClampNeg w2)) + (S.I 139 x0)) (S.len (S.R 91 x0)) ∧ (2 ≤ 2 ∧ S.K x0 = 14 ∧ 0 ≤ 8 ∧ ∃ mc13 mk14, mc13 ≤ mr ∧ mk14 ≤ sr ∧ E 192 [.inr (.inr (x0)), .inr (.inl (S.rJ (S.R 91 x0) (Int32.toNatClampNeg ((S.rI (S.R 84 x0) (Int32.toNatClampNeg w2)) + (S.I 139 x0)))))] mc13 mk14 S (k_200_318 E x0 w1 w2 (mr - mc13) (sr - mk14) Q)))))))) ∧ (¬ Int32.toInt (S.I 138 x0) = 101 → ((Int32.toInt (S.I 138 x0) = 102 → (ox_has (S.K x0) 139 = true ∧ (2 ≤ 2 ∧ S.K x0 = 14 ∧ 0 ≤ 8 ∧ ∃ mc11 mk12, mc11 ≤ mr ∧ mk12 ≤ sr ∧ E 196 [.inr (.inr (x0)), .inl (S.I 139 x0)] mc11 mk12 S (k_200_329 E x0 w1 w2 (mr - mc11) (sr - mk12) Q)))) ∧ (¬ Int32.toInt (S.I 138 x0) = 102 → ((Int32.toInt (S.I 138 x0) = 107 → (1 ≤ 1 ∧ S.K x0 = 14 ∧ 0 ≤ 8 ∧ ∃ mc9 mk10, mc9 ≤ mr ∧ mk10 ≤ sr ∧ E 186 [.inr (.inr (x0))] mc9 mk10 S (k_200_336 E x0 w1 w2 (mr - mc9) (sr - mk10) Q))) ∧ (¬ Int32.toInt (S.I 138 x0) = 107 → ((Int32.toInt (S.I 138 x0) = 131 → (ox_has (S.K x0) 139 = true ∧ (2 ≤ 2 ∧ S.K x0 = 14 ∧ 0 ≤ 8 ∧ ∃ mc7 mk8, mc7 ≤ mr ∧ mk8 ≤ sr ∧ E 194 [.inr (.inr (x0)), .inl (S.I 139 x0)] mc7 mk8 S (k_200_347 E x0 w1 w2 (mr - mc7) (sr - mk8) Q)))) ∧ (¬ Int32.toInt (S.I 138 x0) = 131 → ((Int32.toInt (S.I 138 x0) = 132 → (1 ≤ 1 ∧ S.K x0 = 14 ∧ 0 ≤ 8 ∧ ∃ mc5 mk6, mc5 ≤ mr ∧ mk6 ≤ sr ∧ E 199 [.inr (.inr (x0))] mc5 mk6 S (k_200_354 E x0 w1 w2 (mr - mc5) (sr - mk6) Q))) ∧ (¬ Int32.toInt (S.I 138 x0) = 132 → (ox_has (S.K x0) 138 = true ∧ (2 ≤ 2 ∧ S.K x0 = 14 ∧ 0 ≤ 8 ∧ ∃ mc3 mk4, mc3 ≤ mr ∧ mk4 ≤ sr ∧ E 183 [.inr (.inr (x0)), .inl (S.I 138 x0)] mc3 mk4 S (k_200_365 E x0 w1 w2 (mr - mc3) (sr - mk4) Q)))))))))))))))))))))))))))))))))))))))))
set_option maxRecDepth 20000 in
set_option maxHeartbeats 4000000 in
theorem f_200 {sp : ox_E} (hsp : ox_mono sp) {d : Nat} {mr sr : Nat} {x0 : Nat} {S : ox_St} {Q : ox_Q} (h : q_200 (ox_M sp d) x0 S mr sr Q) : ox_M sp (d + 1) 200 [.inr (.inr (x0))] mr sr S Q := Or.inr ⟨Nat.le_of_ble_eq_true rfl, ox_C_fold (ox_M_mono hsp d) h⟩
/-! OpcodeFramesModel.turn(I)V -/
def c_201_34 (E : ox_E) (x0 : Nat) (x1 : Int32) (x2 : Int32) (x3 : Int32) (x4 : Int32) (S : ox_St) (mr sr : Nat) (Q : ox_Q) : Prop := ox_C E (ox_mi 201).2.2.2.1 (ox_mc 201) (ox_cut 201) Q 34 [some (.inr (.inr (x0))), some (.inl (x1)), some (.inl (x2)), some (.inl (x3)), some (.inl (x4))] [] S mr sr
set_option maxRecDepth 20000 in
def q_201_34 (E : ox_E) (x0 : Nat) (x1 : Int32) (x2 : Int32) (x3 : Int32) (x4 : Int32) (S : ox_St) (mr sr : Nat) (Q : ox_Q) : Prop :=
  (((x1 - 1) ≤ x4 → (ox_has (S.K x0) 102 = true ∧ (S.K (S.R 102 x0) = 15 ∧ vp_in ((x2 - x1) + 1) (S.len (S.R 102 x0)) ∧ (let S1 := S.wI (S.R 102 x0) (Int32.toNatClampNeg ((x2 - x1) + 1)) x3
  ((ox_mi 201).2.2.2.1 = none ∧ Q none S1))))) ∧ (¬ (x1 - 1) ≤ x4 → (ox_has (S.K x0) 102 = true ∧ (ox_has (S.K x0) 102 = true ∧ (ox_rdI (S.K (S.R 102 x0)) = true ∧ vp_in ((x2 - x4) - 1) (S.len (S.R 102 x0)) ∧ (S.K (S.R 102 x0) = 15 ∧ vp_in (x2 - x4) (S.len (S.R 102 x0)) ∧ (let S2 := S.wI (S.R 102 x0) (Int32.toNatClampNeg (x2 - x4)) (S.rI (S.R 102 x0) (Int32.toNatClampNeg ((x2 - x4) - 1)))
  c_201_34 E x0 x1 x2 x3 (x4 + 1) S2 mr sr Q)))))))
set_option maxRecDepth 20000 in
set_option maxHeartbeats 4000000 in
theorem f_201_34 {E : ox_E} (hE : ox_mono E) {mr sr : Nat} {x0 : Nat} {x1 : Int32} {x2 : Int32} {x3 : Int32} {x4 : Int32} {S : ox_St} {Q : ox_Q} (h : q_201_34 E x0 x1 x2 x3 x4 S mr sr Q) : c_201_34 E x0 x1 x2 x3 x4 S mr sr Q := ox_C_fold hE h
set_option maxRecDepth 20000 in
def q_201 (E : ox_E) (x0 : Nat) (x1 : Int32) (S : ox_St) (mr sr : Nat) (Q : ox_Q) : Prop :=
  (ox_has (S.K x0) 92 = true ∧ (ox_has (S.K x0) 100 = true ∧ (ox_has (S.K x0) 92 = true ∧ (ox_rdI (S.K (S.R 100 x0)) = true ∧ vp_in ((S.I 92 x0) - 1) (S.len (S.R 100 x0)) ∧ (let w1 : Int32 := ((10 * ((S.I 92 x0) - 1)) + (S.rI (S.R 100 x0) (Int32.toNatClampNeg ((S.I 92 x0) - 1)))) - 1
  (ox_has (S.K x0) 102 = true ∧ (ox_rdI (S.K (S.R 102 x0)) = true ∧ vp_in w1 (S.len (S.R 102 x0)) ∧ (let w2 : Int32 := S.rI (S.R 102 x0) (Int32.toNatClampNeg w1)
  c_201_34 E x0 x1 w1 w2 0 S mr sr Q))))))))
set_option maxRecDepth 20000 in
set_option maxHeartbeats 4000000 in
theorem f_201 {sp : ox_E} (hsp : ox_mono sp) {d : Nat} {mr sr : Nat} {x0 : Nat} {x1 : Int32} {S : ox_St} {Q : ox_Q} (h : q_201 (ox_M sp d) x0 x1 S mr sr Q) : ox_M sp (d + 1) 201 [.inr (.inr (x0)), .inl (x1)] mr sr S Q := Or.inr ⟨Nat.le_of_ble_eq_true rfl, ox_C_fold (ox_M_mono hsp d) h⟩
/-! OpcodeFramesModel.negate()V -/
def k_202_4 (E : ox_E) (x0 : Nat) (mr sr : Nat) (Q : ox_Q) : ox_Q := fun r_ T_ => ox_C E (ox_mi 202).2.2.2.1 (ox_mc 202) (ox_cut 202) Q 4 [some (.inr (.inr (x0))), none] (r_.toList ++ []) T_ mr sr
def k_202_10 (E : ox_E) (x0 : Nat) (x1 : Int32) (mr sr : Nat) (Q : ox_Q) : ox_Q := fun r_ T_ => ox_C E (ox_mi 202).2.2.2.1 (ox_mc 202) (ox_cut 202) Q 10 [some (.inr (.inr (x0))), some (.inl (x1))] (r_.toList ++ []) T_ mr sr
def k_202_21 (E : ox_E) (x0 : Nat) (x1 : Int32) (y1 : Nat) (mr sr : Nat) (Q : ox_Q) : ox_Q := fun r_ T_ => ox_C E (ox_mi 202).2.2.2.1 (ox_mc 202) (ox_cut 202) Q 21 [some (.inr (.inr (x0))), some (.inl (x1))] (r_.toList ++ [.inr (.inr (y1))]) T_ mr sr
def k_202_24 (E : ox_E) (x0 : Nat) (x1 : Int32) (mr sr : Nat) (Q : ox_Q) : ox_Q := fun r_ T_ => ox_C E (ox_mi 202).2.2.2.1 (ox_mc 202) (ox_cut 202) Q 24 [some (.inr (.inr (x0))), some (.inl (x1))] (r_.toList ++ []) T_ mr sr
def k_202_32 (E : ox_E) (x0 : Nat) (x1 : Int32) (mr sr : Nat) (Q : ox_Q) : ox_Q := fun r_ T_ => ox_C E (ox_mi 202).2.2.2.1 (ox_mc 202) (ox_cut 202) Q 32 [some (.inr (.inr (x0))), some (.inl (x1))] (r_.toList ++ []) T_ mr sr
set_option maxRecDepth 20000 in
def q_202_32 (E : ox_E) (x0 : Nat) (x1 : Int32) (S : ox_St) (mr sr : Nat) (Q : ox_Q) : Prop :=
  ((ox_mi 202).2.2.2.1 = none ∧ Q none S)
set_option maxRecDepth 20000 in
set_option maxHeartbeats 4000000 in
theorem f_202_32 {E : ox_E} (hE : ox_mono E) {mr sr : Nat} {x0 : Nat} {x1 : Int32} {S : ox_St} {Q : ox_Q} (h : q_202_32 E x0 x1 S mr sr Q) : k_202_32 E x0 x1 mr sr Q none S := ox_C_fold hE h
set_option maxRecDepth 20000 in
def q_202_24 (E : ox_E) (x0 : Nat) (x1 : Int32) (S : ox_St) (mr sr : Nat) (Q : ox_Q) : Prop :=
  k_202_32 E x0 x1 mr sr Q none S
set_option maxRecDepth 20000 in
set_option maxHeartbeats 4000000 in
theorem f_202_24 {E : ox_E} (hE : ox_mono E) {mr sr : Nat} {x0 : Nat} {x1 : Int32} {S : ox_St} {Q : ox_Q} (h : q_202_24 E x0 x1 S mr sr Q) : k_202_24 E x0 x1 mr sr Q none S := ox_C_fold hE h
set_option maxRecDepth 20000 in
def q_202_21 (E : ox_E) (x0 : Nat) (x1 : Int32) (y0 : Int32) (y1 : Nat) (S : ox_St) (mr sr : Nat) (Q : ox_Q) : Prop :=
  (2 ≤ 2 ∧ S.K y1 = 14 ∧ 0 ≤ 8 ∧ ∃ mc1 mk2, mc1 ≤ mr ∧ mk2 ≤ sr ∧ E 178 [.inr (.inr (y1)), .inl (y0)] mc1 mk2 S (k_202_24 E x0 x1 (mr - mc1) (sr - mk2) Q))
set_option maxRecDepth 20000 in
set_option maxHeartbeats 4000000 in
theorem f_202_21 {E : ox_E} (hE : ox_mono E) {mr sr : Nat} {x0 : Nat} {x1 : Int32} {y0 : Int32} {y1 : Nat} {S : ox_St} {Q : ox_Q} (h : q_202_21 E x0 x1 y0 y1 S mr sr Q) : k_202_21 E x0 x1 y1 mr sr Q (some (.inl (y0))) S := ox_C_fold hE h
set_option maxRecDepth 20000 in
def q_202_10 (E : ox_E) (x0 : Nat) (x1 : Int32) (y0 : Int32) (S : ox_St) (mr sr : Nat) (Q : ox_Q) : Prop :=
  ((y0 = 0 → (2 ≤ 2 ∧ S.K x0 = 14 ∧ 0 ≤ 8 ∧ ∃ mc1 mk2, mc1 ≤ mr ∧ mk2 ≤ sr ∧ E 177 [.inr (.inr (x0)), .inl (0)] mc1 mk2 S (k_202_32 E x0 x1 (mr - mc1) (sr - mk2) Q))) ∧ (¬ y0 = 0 → (4 ≤ 5 ∧ S.K x0 = 14 ∧ 1 ≤ 8 ∧ ∃ mc3 mk4, mc3 ≤ mr ∧ mk4 ≤ sr ∧ E 144 [.inr (.inr (x0)), .inl (1), .inl (x1), .inl (1)] mc3 mk4 S (k_202_21 E x0 x1 x0 (mr - mc3) (sr - mk4) Q))))
set_option maxRecDepth 20000 in
set_option maxHeartbeats 4000000 in
theorem f_202_10 {E : ox_E} (hE : ox_mono E) {mr sr : Nat} {x0 : Nat} {x1 : Int32} {y0 : Int32} {S : ox_St} {Q : ox_Q} (h : q_202_10 E x0 x1 y0 S mr sr Q) : k_202_10 E x0 x1 mr sr Q (some (.inl (y0))) S := ox_C_fold hE h
set_option maxRecDepth 20000 in
def q_202_4 (E : ox_E) (x0 : Nat) (y0 : Int32) (S : ox_St) (mr sr : Nat) (Q : ox_Q) : Prop :=
  (2 ≤ 2 ∧ S.K x0 = 14 ∧ 0 ≤ 8 ∧ ∃ mc1 mk2, mc1 ≤ mr ∧ mk2 ≤ sr ∧ E 135 [.inr (.inr (x0)), .inl (y0)] mc1 mk2 S (k_202_10 E x0 y0 (mr - mc1) (sr - mk2) Q))
set_option maxRecDepth 20000 in
set_option maxHeartbeats 4000000 in
theorem f_202_4 {E : ox_E} (hE : ox_mono E) {mr sr : Nat} {x0 : Nat} {y0 : Int32} {S : ox_St} {Q : ox_Q} (h : q_202_4 E x0 y0 S mr sr Q) : k_202_4 E x0 mr sr Q (some (.inl (y0))) S := ox_C_fold hE h
set_option maxRecDepth 20000 in
def q_202 (E : ox_E) (x0 : Nat) (S : ox_St) (mr sr : Nat) (Q : ox_Q) : Prop :=
  (1 ≤ 1 ∧ S.K x0 = 14 ∧ 0 ≤ 8 ∧ ∃ mc1 mk2, mc1 ≤ mr ∧ mk2 ≤ sr ∧ E 175 [.inr (.inr (x0))] mc1 mk2 S (k_202_4 E x0 (mr - mc1) (sr - mk2) Q))
set_option maxRecDepth 20000 in
set_option maxHeartbeats 4000000 in
theorem f_202 {sp : ox_E} (hsp : ox_mono sp) {d : Nat} {mr sr : Nat} {x0 : Nat} {S : ox_St} {Q : ox_Q} (h : q_202 (ox_M sp d) x0 S mr sr Q) : ox_M sp (d + 1) 202 [.inr (.inr (x0))] mr sr S Q := Or.inr ⟨Nat.le_of_ble_eq_true rfl, ox_C_fold (ox_M_mono hsp d) h⟩
/-! OpcodeFramesModel.one()V -/
def k_203_14 (E : ox_E) (x0 : Nat) (mr sr : Nat) (Q : ox_Q) : ox_Q := fun r_ T_ => ox_C E (ox_mi 203).2.2.2.1 (ox_mc 203) (ox_cut 203) Q 14 [some (.inr (.inr (x0))), none, none, none, none] (r_.toList ++ []) T_ mr sr
def k_203_39 (E : ox_E) (x0 : Nat) (x1 : Int32) (x2 : Int32) (mr sr : Nat) (Q : ox_Q) : ox_Q := fun r_ T_ => ox_C E (ox_mi 203).2.2.2.1 (ox_mc 203) (ox_cut 203) Q 39 [some (.inr (.inr (x0))), some (.inl (x1)), some (.inl (x2)), none, none] (r_.toList ++ []) T_ mr sr
def k_203_156 (E : ox_E) (x0 : Nat) (x1 : Int32) (x2 : Int32) (x3 : Int32) (mr sr : Nat) (Q : ox_Q) : ox_Q := fun r_ T_ => ox_C E (ox_mi 203).2.2.2.1 (ox_mc 203) (ox_cut 203) Q 156 [some (.inr (.inr (x0))), some (.inl (x1)), some (.inl (x2)), some (.inl (x3)), none] (r_.toList ++ []) T_ mr sr
def k_203_185 (E : ox_E) (x0 : Nat) (x1 : Int32) (x2 : Int32) (x3 : Int32) (mr sr : Nat) (Q : ox_Q) : ox_Q := fun r_ T_ => ox_C E (ox_mi 203).2.2.2.1 (ox_mc 203) (ox_cut 203) Q 185 [some (.inr (.inr (x0))), some (.inl (x1)), some (.inl (x2)), some (.inl (x3)), none] (r_.toList ++ []) T_ mr sr
def k_203_224 (E : ox_E) (x0 : Nat) (x1 : Int32) (x2 : Int32) (x3 : Int32) (y1 : Nat) (mr sr : Nat) (Q : ox_Q) : ox_Q := fun r_ T_ => ox_C E (ox_mi 203).2.2.2.1 (ox_mc 203) (ox_cut 203) Q 224 [some (.inr (.inr (x0))), some (.inl (x1)), some (.inl (x2)), some (.inl (x3)), none] (r_.toList ++ [.inr (.inr (y1))]) T_ mr sr
def k_203_227 (E : ox_E) (x0 : Nat) (x1 : Int32) (x2 : Int32) (x3 : Int32) (mr sr : Nat) (Q : ox_Q) : ox_Q := fun r_ T_ => ox_C E (ox_mi 203).2.2.2.1 (ox_mc 203) (ox_cut 203) Q 227 [some (.inr (.inr (x0))), some (.inl (x1)), some (.inl (x2)), some (.inl (x3)), none] (r_.toList ++ []) T_ mr sr
def k_203_339 (E : ox_E) (x0 : Nat) (x1 : Int32) (x2 : Int32) (x3 : Int32) (mr sr : Nat) (Q : ox_Q) : ox_Q := fun r_ T_ => ox_C E (ox_mi 203).2.2.2.1 (ox_mc 203) (ox_cut 203) Q 339 [some (.inr (.inr (x0))), some (.inl (x1)), some (.inl (x2)), some (.inl (x3)), none] (r_.toList ++ []) T_ mr sr
def k_203_360 (E : ox_E) (x0 : Nat) (x1 : Int32) (x2 : Int32) (x3 : Int32) (mr sr : Nat) (Q : ox_Q) : ox_Q := fun r_ T_ => ox_C E (ox_mi 203).2.2.2.1 (ox_mc 203) (ox_cut 203) Q 360 [some (.inr (.inr (x0))), some (.inl (x1)), some (.inl (x2)), some (.inl (x3)), none] (r_.toList ++ []) T_ mr sr
def k_203_380 (E : ox_E) (x0 : Nat) (x1 : Int32) (x2 : Int32) (x3 : Int32) (y1 : Int32) (y2 : Nat) (mr sr : Nat) (Q : ox_Q) : ox_Q := fun r_ T_ => ox_C E (ox_mi 203).2.2.2.1 (ox_mc 203) (ox_cut 203) Q 380 [some (.inr (.inr (x0))), some (.inl (x1)), some (.inl (x2)), some (.inl (x3)), none] (r_.toList ++ [.inl (y1), .inr (.inr (y2))]) T_ mr sr
def k_203_388 (E : ox_E) (x0 : Nat) (x1 : Int32) (x2 : Int32) (x3 : Int32) (mr sr : Nat) (Q : ox_Q) : ox_Q := fun r_ T_ => ox_C E (ox_mi 203).2.2.2.1 (ox_mc 203) (ox_cut 203) Q 388 [some (.inr (.inr (x0))), some (.inl (x1)), some (.inl (x2)), some (.inl (x3)), none] (r_.toList ++ []) T_ mr sr
def k_203_396 (E : ox_E) (x0 : Nat) (x1 : Int32) (x2 : Int32) (x3 : Int32) (x4 : Int32) (y1 : Nat) (mr sr : Nat) (Q : ox_Q) : ox_Q := fun r_ T_ => ox_C E (ox_mi 203).2.2.2.1 (ox_mc 203) (ox_cut 203) Q 396 [some (.inr (.inr (x0))), some (.inl (x1)), some (.inl (x2)), some (.inl (x3)), some (.inl (x4))] (r_.toList ++ [.inr (.inr (y1))]) T_ mr sr
def k_203_410 (E : ox_E) (x0 : Nat) (x1 : Int32) (x2 : Int32) (x3 : Int32) (x4 : Int32) (mr sr : Nat) (Q : ox_Q) : ox_Q := fun r_ T_ => ox_C E (ox_mi 203).2.2.2.1 (ox_mc 203) (ox_cut 203) Q 410 [some (.inr (.inr (x0))), some (.inl (x1)), some (.inl (x2)), some (.inl (x3)), some (.inl (x4))] (r_.toList ++ []) T_ mr sr
def k_203_417 (E : ox_E) (x0 : Nat) (x1 : Int32) (x2 : Int32) (x3 : Int32) (mr sr : Nat) (Q : ox_Q) : ox_Q := fun r_ T_ => ox_C E (ox_mi 203).2.2.2.1 (ox_mc 203) (ox_cut 203) Q 417 [some (.inr (.inr (x0))), some (.inl (x1)), some (.inl (x2)), some (.inl (x3)), none] (r_.toList ++ []) T_ mr sr
set_option maxRecDepth 20000 in
def q_203_417 (E : ox_E) (x0 : Nat) (x1 : Int32) (x2 : Int32) (x3 : Int32) (S : ox_St) (mr sr : Nat) (Q : ox_Q) : Prop :=
  ((ox_mi 203).2.2.2.1 = none ∧ Q none S)
set_option maxRecDepth 20000 in
set_option maxHeartbeats 4000000 in
theorem f_203_417 {E : ox_E} (hE : ox_mono E) {mr sr : Nat} {x0 : Nat} {x1 : Int32} {x2 : Int32} {x3 : Int32} {S : ox_St} {Q : ox_Q} (h : q_203_417 E x0 x1 x2 x3 S mr sr Q) : k_203_417 E x0 x1 x2 x3 mr sr Q none S := ox_C_fold hE h
set_option maxRecDepth 20000 in
def q_203_410 (E : ox_E) (x0 : Nat) (x1 : Int32) (x2 : Int32) (x3 : Int32) (x4 : Int32) (S : ox_St) (mr sr : Nat) (Q : ox_Q) : Prop :=
  k_203_417 E x0 x1 x2 x3 mr sr Q none S
set_option maxRecDepth 20000 in
set_option maxHeartbeats 4000000 in
theorem f_203_410 {E : ox_E} (hE : ox_mono E) {mr sr : Nat} {x0 : Nat} {x1 : Int32} {x2 : Int32} {x3 : Int32} {x4 : Int32} {S : ox_St} {Q : ox_Q} (h : q_203_410 E x0 x1 x2 x3 x4 S mr sr Q) : k_203_410 E x0 x1 x2 x3 x4 mr sr Q none S := ox_C_fold hE h
set_option maxRecDepth 20000 in
def q_203_396 (E : ox_E) (x0 : Nat) (x1 : Int32) (x2 : Int32) (x3 : Int32) (x4 : Int32) (y0 : Int32) (y1 : Nat) (S : ox_St) (mr sr : Nat) (Q : ox_Q) : Prop :=
  ((y0 = 0 → (2 ≤ 2 ∧ S.K y1 = 14 ∧ 0 ≤ 8 ∧ ∃ mc1 mk2, mc1 ≤ mr ∧ mk2 ≤ sr ∧ E 177 [.inr (.inr (y1)), .inl (0)] mc1 mk2 S (k_203_410 E x0 x1 x2 x3 x4 (mr - mc1) (sr - mk2) Q))) ∧ (¬ y0 = 0 → (2 ≤ 2 ∧ S.K y1 = 14 ∧ 0 ≤ 8 ∧ ∃ mc3 mk4, mc3 ≤ mr ∧ mk4 ≤ sr ∧ E 177 [.inr (.inr (y1)), .inl (x4 - 4)] mc3 mk4 S (k_203_410 E x0 x1 x2 x3 x4 (mr - mc3) (sr - mk4) Q))))
set_option maxRecDepth 20000 in
set_option maxHeartbeats 4000000 in
theorem f_203_396 {E : ox_E} (hE : ox_mono E) {mr sr : Nat} {x0 : Nat} {x1 : Int32} {x2 : Int32} {x3 : Int32} {x4 : Int32} {y0 : Int32} {y1 : Nat} {S : ox_St} {Q : ox_Q} (h : q_203_396 E x0 x1 x2 x3 x4 y0 y1 S mr sr Q) : k_203_396 E x0 x1 x2 x3 x4 y1 mr sr Q (some (.inl (y0))) S := ox_C_fold hE h
set_option maxRecDepth 20000 in
def q_203_388 (E : ox_E) (x0 : Nat) (x1 : Int32) (x2 : Int32) (x3 : Int32) (y0 : Int32) (S : ox_St) (mr sr : Nat) (Q : ox_Q) : Prop :=
  (1 ≤ 2 ∧ 1 ≤ 8 ∧ ∃ mc1 mk2, mc1 ≤ mr ∧ mk2 ≤ sr ∧ E 136 [.inl (y0)] mc1 mk2 S (k_203_396 E x0 x1 x2 x3 y0 x0 (mr - mc1) (sr - mk2) Q))
set_option maxRecDepth 20000 in
set_option maxHeartbeats 4000000 in
theorem f_203_388 {E : ox_E} (hE : ox_mono E) {mr sr : Nat} {x0 : Nat} {x1 : Int32} {x2 : Int32} {x3 : Int32} {y0 : Int32} {S : ox_St} {Q : ox_Q} (h : q_203_388 E x0 x1 x2 x3 y0 S mr sr Q) : k_203_388 E x0 x1 x2 x3 mr sr Q (some (.inl (y0))) S := ox_C_fold hE h
set_option maxRecDepth 20000 in
def q_203_380 (E : ox_E) (x0 : Nat) (x1 : Int32) (x2 : Int32) (x3 : Int32) (y0 : Int32) (y1 : Int32) (y2 : Nat) (S : ox_St) (mr sr : Nat) (Q : ox_Q) : Prop :=
  (S.K y2 = 15 ∧ vp_in y1 (S.len y2) ∧ (let S1 := S.wI y2 (Int32.toNatClampNeg y1) y0
  k_203_417 E x0 x1 x2 x3 mr sr Q none S1))
set_option maxRecDepth 20000 in
set_option maxHeartbeats 4000000 in
theorem f_203_380 {E : ox_E} (hE : ox_mono E) {mr sr : Nat} {x0 : Nat} {x1 : Int32} {x2 : Int32} {x3 : Int32} {y0 : Int32} {y1 : Int32} {y2 : Nat} {S : ox_St} {Q : ox_Q} (h : q_203_380 E x0 x1 x2 x3 y0 y1 y2 S mr sr Q) : k_203_380 E x0 x1 x2 x3 y1 y2 mr sr Q (some (.inl (y0))) S := ox_C_fold hE h
set_option maxRecDepth 20000 in
def q_203_360 (E : ox_E) (x0 : Nat) (x1 : Int32) (x2 : Int32) (x3 : Int32) (S : ox_St) (mr sr : Nat) (Q : ox_Q) : Prop :=
  k_203_417 E x0 x1 x2 x3 mr sr Q none S
set_option maxRecDepth 20000 in
set_option maxHeartbeats 4000000 in
theorem f_203_360 {E : ox_E} (hE : ox_mono E) {mr sr : Nat} {x0 : Nat} {x1 : Int32} {x2 : Int32} {x3 : Int32} {S : ox_St} {Q : ox_Q} (h : q_203_360 E x0 x1 x2 x3 S mr sr Q) : k_203_360 E x0 x1 x2 x3 mr sr Q none S := ox_C_fold hE h
set_option maxRecDepth 20000 in
def q_203_339 (E : ox_E) (x0 : Nat) (x1 : Int32) (x2 : Int32) (x3 : Int32) (S : ox_St) (mr sr : Nat) (Q : ox_Q) : Prop :=
  k_203_417 E x0 x1 x2 x3 mr sr Q none S
set_option maxRecDepth 20000 in
set_option maxHeartbeats 4000000 in
theorem f_203_339 {E : ox_E} (hE : ox_mono E) {mr sr : Nat} {x0 : Nat} {x1 : Int32} {x2 : Int32} {x3 : Int32} {S : ox_St} {Q : ox_Q} (h : q_203_339 E x0 x1 x2 x3 S mr sr Q) : k_203_339 E x0 x1 x2 x3 mr sr Q none S := ox_C_fold hE h
set_option maxRecDepth 20000 in
def q_203_227 (E : ox_E) (x0 : Nat) (x1 : Int32) (x2 : Int32) (x3 : Int32) (y0 : Int32) (S : ox_St) (mr sr : Nat) (Q : ox_Q) : Prop :=
  (ox_has (S.K x0) 138 = true ∧ ((¬ (S.I 138 x0) = 114 → ((¬ y0 = 0 → k_203_417 E x0 x1 x2 x3 mr sr Q none S) ∧ (y0 = 0 → (ox_has (S.K x0) 99 = true ∧ (ox_has (S.K x0) 139 = true ∧ (S.K (S.R 99 x0) = 15 ∧ vp_in x1 (S.len (S.R 99 x0)) ∧ (let S1 := S.wI (S.R 99 x0) (Int32.toNatClampNeg x1) (S.I 139 x0)
  k_203_417 E x0 x1 x2 x3 mr sr Q none S1))))))) ∧ ((S.I 138 x0) = 114 → ((¬ y0 = 1 → k_203_417 E x0 x1 x2 x3 mr sr Q none S) ∧ (y0 = 1 → (ox_has (S.K x0) 99 = true ∧ (ox_has (S.K x0) 139 = true ∧ (S.K (S.R 99 x0) = 15 ∧ vp_in x1 (S.len (S.R 99 x0)) ∧ (let S2 := S.wI (S.R 99 x0) (Int32.toNatClampNeg x1) (S.I 139 x0)
  k_203_417 E x0 x1 x2 x3 mr sr Q none S2)))))))))
set_option maxRecDepth 20000 in
set_option maxHeartbeats 4000000 in
theorem f_203_227 {E : ox_E} (hE : ox_mono E) {mr sr : Nat} {x0 : Nat} {x1 : Int32} {x2 : Int32} {x3 : Int32} {y0 : Int32} {S : ox_St} {Q : ox_Q} (h : q_203_227 E x0 x1 x2 x3 y0 S mr sr Q) : k_203_227 E x0 x1 x2 x3 mr sr Q (some (.inl (y0))) S := ox_C_fold hE h
set_option maxRecDepth 20000 in
def q_203_224 (E : ox_E) (x0 : Nat) (x1 : Int32) (x2 : Int32) (x3 : Int32) (y0 : Int32) (y1 : Nat) (S : ox_St) (mr sr : Nat) (Q : ox_Q) : Prop :=
  (2 ≤ 2 ∧ S.K y1 = 14 ∧ 0 ≤ 8 ∧ ∃ mc1 mk2, mc1 ≤ mr ∧ mk2 ≤ sr ∧ E 181 [.inr (.inr (y1)), .inl (y0)] mc1 mk2 S (k_203_227 E x0 x1 x2 x3 (mr - mc1) (sr - mk2) Q))
set_option maxRecDepth 20000 in
set_option maxHeartbeats 4000000 in
theorem f_203_224 {E : ox_E} (hE : ox_mono E) {mr sr : Nat} {x0 : Nat} {x1 : Int32} {x2 : Int32} {x3 : Int32} {y0 : Int32} {y1 : Nat} {S : ox_St} {Q : ox_Q} (h : q_203_224 E x0 x1 x2 x3 y0 y1 S mr sr Q) : k_203_224 E x0 x1 x2 x3 y1 mr sr Q (some (.inl (y0))) S := ox_C_fold hE h
set_option maxRecDepth 20000 in
def q_203_185 (E : ox_E) (x0 : Nat) (x1 : Int32) (x2 : Int32) (x3 : Int32) (S : ox_St) (mr sr : Nat) (Q : ox_Q) : Prop :=
  k_203_417 E x0 x1 x2 x3 mr sr Q none S
set_option maxRecDepth 20000 in
set_option maxHeartbeats 4000000 in
theorem f_203_185 {E : ox_E} (hE : ox_mono E) {mr sr : Nat} {x0 : Nat} {x1 : Int32} {x2 : Int32} {x3 : Int32} {S : ox_St} {Q : ox_Q} (h : q_203_185 E x0 x1 x2 x3 S mr sr Q) : k_203_185 E x0 x1 x2 x3 mr sr Q none S := ox_C_fold hE h
set_option maxRecDepth 20000 in
def q_203_156 (E : ox_E) (x0 : Nat) (x1 : Int32) (x2 : Int32) (x3 : Int32) (S : ox_St) (mr sr : Nat) (Q : ox_Q) : Prop :=
  k_203_417 E x0 x1 x2 x3 mr sr Q none S
set_option maxRecDepth 20000 in
set_option maxHeartbeats 4000000 in
theorem f_203_156 {E : ox_E} (hE : ox_mono E) {mr sr : Nat} {x0 : Nat} {x1 : Int32} {x2 : Int32} {x3 : Int32} {S : ox_St} {Q : ox_Q} (h : q_203_156 E x0 x1 x2 x3 S mr sr Q) : k_203_156 E x0 x1 x2 x3 mr sr Q none S := ox_C_fold hE h
set_option maxRecDepth 20000 in
def q_203_39 (E : ox_E) (x0 : Nat) (x1 : Int32) (x2 : Int32) (y0 : Int32) (S : ox_St) (mr sr : Nat) (Q : ox_Q) : Prop :=
  (ox_has (S.K x0) 99 = true ∧ (ox_has (S.K x0) 140 = true ∧ (S.K (S.R 99 x0) = 15 ∧ vp_in x1 (S.len (S.R 99 x0)) ∧ (let S1 := S.wI (S.R 99 x0) (Int32.toNatClampNeg x1) (S.I 140 x0)
  (ox_has (S1.K x0) 138 = true ∧ ((Int32.toInt (S1.I 138 x0) = 83 → (1 ≤ 1 ∧ S1.K x0 = 14 ∧ 0 ≤ 8 ∧ ∃ mc24 mk25, mc24 ≤ mr ∧ mk25 ≤ sr ∧ E 195 [.inr (.inr (x0))] mc24 mk25 S1 (k_203_156 E x0 x1 x2 y0 (mr - mc24) (sr - mk25) Q))) ∧ (¬ Int32.toInt (S1.I 138 x0) = 83 → ((Int32.toInt (S1.I 138 x0) = 87 → (ox_has (S1.K x0) 101 = true ∧ (ox_rdI (S1.K (S1.R 101 x0)) = true ∧ vp_in x1 (S1.len (S1.R 101 x0)) ∧ (S1.K (S1.R 101 x0) = 15 ∧ vp_in x1 (S1.len (S1.R 101 x0)) ∧ (let S23 := S1.wI (S1.R 101 x0) (Int32.toNatClampNeg x1) ((S1.rI (S1.R 101 x0) (Int32.toNatClampNeg x1)) - 1)
  k_203_417 E x0 x1 x2 y0 mr sr Q none S23))))) ∧ (¬ Int32.toInt (S1.I 138 x0) = 87 → ((Int32.toInt (S1.I 138 x0) = 93 → (ox_has (S1.K x0) 140 = true ∧ (ox_has (S1.K x0) 139 = true ∧ (2 ≤ 2 ∧ S1.K x0 = 14 ∧ 0 ≤ 8 ∧ ∃ mc21 mk22, mc21 ≤ mr ∧ mk22 ≤ sr ∧ E 187 [.inr (.inr (x0)), .inl ((S1.I 140 x0) + (S1.I 139 x0))] mc21 mk22 S1 (k_203_185 E x0 x1 x2 y0 (mr - mc21) (sr - mk22) Q))))) ∧ (¬ Int32.toInt (S1.I 138 x0) = 93 → ((Int32.toInt (S1.I 138 x0) = 110 → (ox_has (S1.K x0) 99 = true ∧ (ox_has (S1.K x0) 140 = true ∧ (ox_has (S1.K x0) 139 = true ∧ (S1.K (S1.R 99 x0) = 15 ∧ vp_in x1 (S1.len (S1.R 99 x0)) ∧ (let S20 := S1.wI (S1.R 99 x0) (Int32.toNatClampNeg x1) ((S1.I 140 x0) + (S1.I 139 x0))
  k_203_417 E x0 x1 x2 y0 mr sr Q none S20)))))) ∧ (¬ Int32.toInt (S1.I 138 x0) = 110 → ((Int32.toInt (S1.I 138 x0) = 113 → (ox_has (S1.K x0) 99 = true ∧ (ox_has (S1.K x0) 139 = true ∧ (S1.K (S1.R 99 x0) = 15 ∧ vp_in x1 (S1.len (S1.R 99 x0)) ∧ (let S19 := S1.wI (S1.R 99 x0) (Int32.toNatClampNeg x1) (S1.I 139 x0)
  k_203_417 E x0 x1 x2 y0 mr sr Q none S19))))) ∧ (¬ Int32.toInt (S1.I 138 x0) = 113 → ((Int32.toInt (S1.I 138 x0) = 114 → (1 ≤ 2 ∧ S1.K x0 = 14 ∧ 1 ≤ 8 ∧ ∃ mc17 mk18, mc17 ≤ mr ∧ mk18 ≤ sr ∧ E 175 [.inr (.inr (x0))] mc17 mk18 S1 (k_203_224 E x0 x1 x2 y0 x0 (mr - mc17) (sr - mk18) Q))) ∧ (¬ Int32.toInt (S1.I 138 x0) = 114 → ((Int32.toInt (S1.I 138 x0) = 115 → (1 ≤ 2 ∧ S1.K x0 = 14 ∧ 1 ≤ 8 ∧ ∃ mc15 mk16, mc15 ≤ mr ∧ mk16 ≤ sr ∧ E 175 [.inr (.inr (x0))] mc15 mk16 S1 (k_203_224 E x0 x1 x2 y0 x0 (mr - mc15) (sr - mk16) Q))) ∧ (¬ Int32.toInt (S1.I 138 x0) = 115 → ((Int32.toInt (S1.I 138 x0) = 122 → (ox_has (S1.K x0) 104 = true ∧ (ox_has (S1.K x0) 101 = true ∧ (ox_rdI (S1.K (S1.R 101 x0)) = true ∧ vp_in x1 (S1.len (S1.R 101 x0)) ∧ (ox_has (S1.K x0) 100 = true ∧ (ox_rdI (S1.K (S1.R 100 x0)) = true ∧ vp_in x1 (S1.len (S1.R 100 x0)) ∧ (S1.K (S1.R 104 x0) = 15 ∧ vp_in ((4 * x1) + (S1.rI (S1.R 101 x0) (Int32.toNatClampNeg x1))) (S1.len (S1.R 104 x0)) ∧ (let S12 := S1.wI (S1.R 104 x0) (Int32.toNatClampNeg ((4 * x1) + (S1.rI (S1.R 101 x0) (Int32.toNatClampNeg x1)))) (S1.rI (S1.R 100 x0) (Int32.toNatClampNeg x1))
  (ox_has (S12.K x0) 105 = true ∧ (ox_has (S12.K x0) 101 = true ∧ (ox_rdI (S12.K (S12.R 101 x0)) = true ∧ vp_in x1 (S12.len (S12.R 101 x0)) ∧ (ox_has (S12.K x0) 140 = true ∧ (ox_has (S12.K x0) 139 = true ∧ (S12.K (S12.R 105 x0) = 15 ∧ vp_in ((4 * x1) + (S12.rI (S12.R 101 x0) (Int32.toNatClampNeg x1))) (S12.len (S12.R 105 x0)) ∧ (let S13 := S12.wI (S12.R 105 x0) (Int32.toNatClampNeg ((4 * x1) + (S12.rI (S12.R 101 x0) (Int32.toNatClampNeg x1)))) ((S12.I 140 x0) + (S12.I 139 x0))
  (ox_has (S13.K x0) 101 = true ∧ (ox_rdI (S13.K (S13.R 101 x0)) = true ∧ vp_in x1 (S13.len (S13.R 101 x0)) ∧ (S13.K (S13.R 101 x0) = 15 ∧ vp_in x1 (S13.len (S13.R 101 x0)) ∧ (let S14 := S13.wI (S13.R 101 x0) (Int32.toNatClampNeg x1) ((S13.rI (S13.R 101 x0) (Int32.toNatClampNeg x1)) + 1)
  k_203_417 E x0 x1 x2 y0 mr sr Q none S14))))))))))))))))))) ∧ (¬ Int32.toInt (S1.I 138 x0) = 122 → ((Int32.toInt (S1.I 138 x0) = 124 → (ox_has (S1.K x0) 103 = true ∧ (ox_has (S1.K x0) 139 = true ∧ (ox_rdI (S1.K (S1.R 103 x0)) = true ∧ vp_in ((8 * x1) + (S1.I 139 x0)) (S1.len (S1.R 103 x0)) ∧ ((¬ (S1.rI (S1.R 103 x0) (Int32.toNatClampNeg ((8 * x1) + (S1.I 139 x0)))) = (-1000000) → (ox_has (S1.K x0) 103 = true ∧ (ox_has (S1.K x0) 139 = true ∧ (ox_rdI (S1.K (S1.R 103 x0)) = true ∧ vp_in ((8 * x1) + (S1.I 139 x0)) (S1.len (S1.R 103 x0)) ∧ (2 ≤ 2 ∧ S1.K x0 = 14 ∧ 0 ≤ 8 ∧ ∃ mc8 mk9, mc8 ≤ mr ∧ mk9 ≤ sr ∧ E 174 [.inr (.inr (x0)), .inl (S1.rI (S1.R 103 x0) (Int32.toNatClampNeg ((8 * x1) + (S1.I 139 x0))))] mc8 mk9 S1 (k_203_360 E x0 x1 x2 y0 (mr - mc8) (sr - mk9) Q)))))) ∧ ((S1.rI (S1.R 103 x0) (Int32.toNatClampNeg ((8 * x1) + (S1.I 139 x0)))) = (-1000000) → (2 ≤ 2 ∧ S1.K x0 = 14 ∧ 0 ≤ 8 ∧ ∃ mc10 mk11, mc10 ≤ mr ∧ mk11 ≤ sr ∧ E 177 [.inr (.inr (x0)), .inl (4)] mc10 mk11 S1 (k_203_339 E x0 x1 x2 y0 (mr - mc10) (sr - mk11) Q)))))))) ∧ (¬ Int32.toInt (S1.I 138 x0) = 124 → ((Int32.toInt (S1.I 138 x0) = 125 → (ox_has (S1.K x0) 103 = true ∧ (ox_has (S1.K x0) 139 = true ∧ (1 ≤ 3 ∧ S1.K x0 = 14 ∧ 2 ≤ 8 ∧ ∃ mc6 mk7, mc6 ≤ mr ∧ mk7 ≤ sr ∧ E 175 [.inr (.inr (x0))] mc6 mk7 S1 (k_203_380 E x0 x1 x2 y0 ((8 * x1) + (S1.I 139 x0)) (S1.R 103 x0) (mr - mc6) (sr - mk7) Q))))) ∧ (¬ Int32.toInt (S1.I 138 x0) = 125 → ((Int32.toInt (S1.I 138 x0) = 130 → (1 ≤ 1 ∧ S1.K x0 = 14 ∧ 0 ≤ 8 ∧ ∃ mc4 mk5, mc4 ≤ mr ∧ mk5 ≤ sr ∧ E 175 [.inr (.inr (x0))] mc4 mk5 S1 (k_203_388 E x0 x1 x2 y0 (mr - mc4) (sr - mk5) Q))) ∧ (¬ Int32.toInt (S1.I 138 x0) = 130 → (1 ≤ 1 ∧ S1.K x0 = 14 ∧ 0 ≤ 8 ∧ ∃ mc2 mk3, mc2 ≤ mr ∧ mk3 ≤ sr ∧ E 200 [.inr (.inr (x0))] mc2 mk3 S1 (k_203_417 E x0 x1 x2 y0 (mr - mc2) (sr - mk3) Q)))))))))))))))))))))))))))))
set_option maxRecDepth 20000 in
set_option maxHeartbeats 4000000 in
theorem f_203_39 {E : ox_E} (hE : ox_mono E) {mr sr : Nat} {x0 : Nat} {x1 : Int32} {x2 : Int32} {y0 : Int32} {S : ox_St} {Q : ox_Q} (h : q_203_39 E x0 x1 x2 y0 S mr sr Q) : k_203_39 E x0 x1 x2 mr sr Q (some (.inl (y0))) S := ox_C_fold hE h
set_option maxRecDepth 20000 in
def q_203_14 (E : ox_E) (x0 : Nat) (S : ox_St) (mr sr : Nat) (Q : ox_Q) : Prop :=
  (ox_has (S.K x0) 92 = true ∧ (let w1 : Int32 := (S.I 92 x0) - 1
  (ox_has (S.K x0) 98 = true ∧ (ox_rdI (S.K (S.R 98 x0)) = true ∧ vp_in w1 (S.len (S.R 98 x0)) ∧ (let w2 : Int32 := S.rI (S.R 98 x0) (Int32.toNatClampNeg w1)
  (ox_has (S.K x0) 99 = true ∧ (ox_rdI (S.K (S.R 99 x0)) = true ∧ vp_in w1 (S.len (S.R 99 x0)) ∧ (3 ≤ 3 ∧ S.K x0 = 14 ∧ 0 ≤ 8 ∧ ∃ mc3 mk4, mc3 ≤ mr ∧ mk4 ≤ sr ∧ E 163 [.inr (.inr (x0)), .inl (w2), .inl (S.rI (S.R 99 x0) (Int32.toNatClampNeg w1))] mc3 mk4 S (k_203_39 E x0 w1 w2 (mr - mc3) (sr - mk4) Q)))))))))
set_option maxRecDepth 20000 in
set_option maxHeartbeats 4000000 in
theorem f_203_14 {E : ox_E} (hE : ox_mono E) {mr sr : Nat} {x0 : Nat} {S : ox_St} {Q : ox_Q} (h : q_203_14 E x0 S mr sr Q) : k_203_14 E x0 mr sr Q none S := ox_C_fold hE h
set_option maxRecDepth 20000 in
def q_203 (E : ox_E) (x0 : Nat) (S : ox_St) (mr sr : Nat) (Q : ox_Q) : Prop :=
  (ox_has (S.K x0) 75 = true ∧ (((S.I 75 x0) ≤ 1099600 → k_203_14 E x0 mr sr Q none S) ∧ (¬ (S.I 75 x0) ≤ 1099600 → (1 ≤ 1 ∧ S.K x0 = 14 ∧ 0 ≤ 8 ∧ ∃ mc1 mk2, mc1 ≤ mr ∧ mk2 ≤ sr ∧ E 131 [.inr (.inr (x0))] mc1 mk2 S (k_203_14 E x0 (mr - mc1) (sr - mk2) Q)))))
set_option maxRecDepth 20000 in
set_option maxHeartbeats 4000000 in
theorem f_203 {sp : ox_E} (hsp : ox_mono sp) {d : Nat} {mr sr : Nat} {x0 : Nat} {S : ox_St} {Q : ox_Q} (h : q_203 (ox_M sp d) x0 S mr sr Q) : ox_M sp (d + 1) 203 [.inr (.inr (x0))] mr sr S Q := Or.inr ⟨Nat.le_of_ble_eq_true rfl, ox_C_fold (ox_M_mono hsp d) h⟩
/-! OpcodeFramesModel.run(I)I -/
def c_204_44 (E : ox_E) (x0 : Nat) (x1 : Int32) (x2 : Int32) (S : ox_St) (mr sr : Nat) (Q : ox_Q) : Prop := ox_C E (ox_mi 204).2.2.2.1 (ox_mc 204) (ox_cut 204) Q 44 [some (.inr (.inr (x0))), some (.inl (x1)), some (.inl (x2))] [] S mr sr
def k_204_61 (E : ox_E) (x0 : Nat) (x1 : Int32) (x2 : Int32) (mr sr : Nat) (Q : ox_Q) : ox_Q := fun r_ T_ => ox_C E (ox_mi 204).2.2.2.1 (ox_mc 204) (ox_cut 204) Q 61 [some (.inr (.inr (x0))), some (.inl (x1)), some (.inl (x2))] (r_.toList ++ []) T_ mr sr
set_option maxRecDepth 20000 in
def q_204_61 (E : ox_E) (x0 : Nat) (x1 : Int32) (x2 : Int32) (S : ox_St) (mr sr : Nat) (Q : ox_Q) : Prop :=
  c_204_44 E x0 x1 (x2 + 1) S mr sr Q
set_option maxRecDepth 20000 in
set_option maxHeartbeats 4000000 in
theorem f_204_61 {E : ox_E} (hE : ox_mono E) {mr sr : Nat} {x0 : Nat} {x1 : Int32} {x2 : Int32} {S : ox_St} {Q : ox_Q} (h : q_204_61 E x0 x1 x2 S mr sr Q) : k_204_61 E x0 x1 x2 mr sr Q none S := ox_C_fold hE h
set_option maxRecDepth 20000 in
def q_204_44 (E : ox_E) (x0 : Nat) (x1 : Int32) (x2 : Int32) (S : ox_St) (mr sr : Nat) (Q : ox_Q) : Prop :=
  ((x1 ≤ x2 → (ox_has (S.K x0) 95 = true ∧ (ox_has (S.K x0) 95 = true ∧ (let S1 := S.sI 95 x0 ((S.I 95 x0) + x2)
  (True ∧ Q (some (.inl x2)) S1))))) ∧ (¬ x1 ≤ x2 → (ox_has (S.K x0) 93 = true ∧ ((¬ (S.I 93 x0) = 1 → (ox_has (S.K x0) 95 = true ∧ (ox_has (S.K x0) 95 = true ∧ (let S2 := S.sI 95 x0 ((S.I 95 x0) + x2)
  (True ∧ Q (some (.inl x2)) S2))))) ∧ ((S.I 93 x0) = 1 → (1 ≤ 1 ∧ S.K x0 = 14 ∧ 0 ≤ 8 ∧ ∃ mc3 mk4, mc3 ≤ mr ∧ mk4 ≤ sr ∧ E 203 [.inr (.inr (x0))] mc3 mk4 S (k_204_61 E x0 x1 x2 (mr - mc3) (sr - mk4) Q)))))))
set_option maxRecDepth 20000 in
set_option maxHeartbeats 4000000 in
theorem f_204_44 {E : ox_E} (hE : ox_mono E) {mr sr : Nat} {x0 : Nat} {x1 : Int32} {x2 : Int32} {S : ox_St} {Q : ox_Q} (h : q_204_44 E x0 x1 x2 S mr sr Q) : c_204_44 E x0 x1 x2 S mr sr Q := ox_C_fold hE h
set_option maxRecDepth 20000 in
def q_204 (E : ox_E) (x0 : Nat) (x1 : Int32) (S : ox_St) (mr sr : Nat) (Q : ox_Q) : Prop :=
  (ox_has (S.K x0) 93 = true ∧ (((S.I 93 x0) = 1 → ((x1 < 1 → (ox_has (S.K x0) 69 = true ∧ (let S1 := S.sI 69 x0 2
  (ox_has (S1.K x0) 69 = true ∧ (((S1.I 69 x0) ≤ 0 → c_204_44 E x0 x1 0 S1 mr sr Q) ∧ (¬ (S1.I 69 x0) ≤ 0 → (True ∧ Q (some (.inl (0 : Int32))) S1))))))) ∧ (¬ x1 < 1 → ((x1 ≤ 200 → (ox_has (S.K x0) 69 = true ∧ (let S2 := S.sI 69 x0 0
  (ox_has (S2.K x0) 69 = true ∧ (((S2.I 69 x0) ≤ 0 → c_204_44 E x0 x1 0 S2 mr sr Q) ∧ (¬ (S2.I 69 x0) ≤ 0 → (True ∧ Q (some (.inl (0 : Int32))) S2))))))) ∧ (¬ x1 ≤ 200 → (ox_has (S.K x0) 69 = true ∧ (let S3 := S.sI 69 x0 2
  (ox_has (S3.K x0) 69 = true ∧ (((S3.I 69 x0) ≤ 0 → c_204_44 E x0 x1 0 S3 mr sr Q) ∧ (¬ (S3.I 69 x0) ≤ 0 → (True ∧ Q (some (.inl (0 : Int32))) S3))))))))))) ∧ (¬ (S.I 93 x0) = 1 → (ox_has (S.K x0) 69 = true ∧ (let S4 := S.sI 69 x0 1
  (ox_has (S4.K x0) 69 = true ∧ (((S4.I 69 x0) ≤ 0 → c_204_44 E x0 x1 0 S4 mr sr Q) ∧ (¬ (S4.I 69 x0) ≤ 0 → (True ∧ Q (some (.inl (0 : Int32))) S4)))))))))
set_option maxRecDepth 20000 in
set_option maxHeartbeats 4000000 in
theorem f_204 {sp : ox_E} (hsp : ox_mono sp) {d : Nat} {mr sr : Nat} {x0 : Nat} {x1 : Int32} {S : ox_St} {Q : ox_Q} (h : q_204 (ox_M sp d) x0 x1 S mr sr Q) : ox_M sp (d + 1) 204 [.inr (.inr (x0)), .inl (x1)] mr sr S Q := Or.inr ⟨Nat.le_of_ble_eq_true rfl, ox_C_fold (ox_M_mono hsp d) h⟩
/-! OpcodeFramesModel.about(I)I -/
set_option maxRecDepth 20000 in
def q_205 (E : ox_E) (x0 : Nat) (x1 : Int32) (S : ox_St) (mr sr : Nat) (Q : ox_Q) : Prop :=
  (ox_has (S.K x0) 69 = true ∧ (let S1 := S.sI 69 x0 0
  (ox_has (S1.K x0) 92 = true ∧ (let w2 : Int32 := (S1.I 92 x0) - 1
  (ox_has (S1.K x0) 93 = true ∧ ((¬ (S1.I 93 x0) = 1 → ((Int32.toInt x1 = 0 → (ox_has (S1.K x0) 93 = true ∧ (True ∧ Q (some (.inl (S1.I 93 x0))) S1))) ∧ (¬ Int32.toInt x1 = 0 → ((Int32.toInt x1 = 1 → (((0 : Int32) = 0 → (True ∧ Q (some (.inl (0 : Int32))) S1)) ∧ (¬ (0 : Int32) = 0 → (ox_has (S1.K x0) 92 = true ∧ (True ∧ Q (some (.inl (S1.I 92 x0))) S1))))) ∧ (¬ Int32.toInt x1 = 1 → ((Int32.toInt x1 = 2 → (((0 : Int32) = 0 → (True ∧ Q (some (.inl (0 : Int32))) S1)) ∧ (¬ (0 : Int32) = 0 → (ox_has (S1.K x0) 99 = true ∧ (ox_rdI (S1.K (S1.R 99 x0)) = true ∧ vp_in w2 (S1.len (S1.R 99 x0)) ∧ (True ∧ Q (some (.inl (S1.rI (S1.R 99 x0) (Int32.toNatClampNeg w2)))) S1)))))) ∧ (¬ Int32.toInt x1 = 2 → ((Int32.toInt x1 = 3 → (((0 : Int32) = 0 → (True ∧ Q (some (.inl (0 : Int32))) S1)) ∧ (¬ (0 : Int32) = 0 → (ox_has (S1.K x0) 100 = true ∧ (ox_rdI (S1.K (S1.R 100 x0)) = true ∧ vp_in w2 (S1.len (S1.R 100 x0)) ∧ (True ∧ Q (some (.inl (S1.rI (S1.R 100 x0) (Int32.toNatClampNeg w2)))) S1)))))) ∧ (¬ Int32.toInt x1 = 3 → ((Int32.toInt x1 = 4 → (((0 : Int32) = 0 → (True ∧ Q (some (.inl (0 : Int32))) S1)) ∧ (¬ (0 : Int32) = 0 → (ox_has (S1.K x0) 101 = true ∧ (ox_rdI (S1.K (S1.R 101 x0)) = true ∧ vp_in w2 (S1.len (S1.R 101 x0)) ∧ (True ∧ Q (some (.inl (S1.rI (S1.R 101 x0) (Int32.toNatClampNeg w2)))) S1)))))) ∧ (¬ Int32.toInt x1 = 4 → ((Int32.toInt x1 = 5 → (ox_has (S1.K x0) 93 = true ∧ ((¬ (S1.I 93 x0) = 3 → (True ∧ Q (some (.inl ((-1) : Int32))) S1)) ∧ ((S1.I 93 x0) = 3 → (ox_has (S1.K x0) 94 = true ∧ (True ∧ Q (some (.inl (S1.I 94 x0))) S1)))))) ∧ (¬ Int32.toInt x1 = 5 → ((Int32.toInt x1 = 6 → (ox_has (S1.K x0) 95 = true ∧ (True ∧ Q (some (.inl (S1.I 95 x0))) S1))) ∧ (¬ Int32.toInt x1 = 6 → ((Int32.toInt x1 = 7 → (ox_has (S1.K x0) 106 = true ∧ (True ∧ Q (some (.inl (S1.I 106 x0))) S1))) ∧ (¬ Int32.toInt x1 = 7 → (True ∧ Q (some (.inl ((-1) : Int32))) S1)))))))))))))))))) ∧ ((S1.I 93 x0) = 1 → ((Int32.toInt x1 = 0 → (ox_has (S1.K x0) 93 = true ∧ (True ∧ Q (some (.inl (S1.I 93 x0))) S1))) ∧ (¬ Int32.toInt x1 = 0 → ((Int32.toInt x1 = 1 → (((1 : Int32) = 0 → (True ∧ Q (some (.inl (0 : Int32))) S1)) ∧ (¬ (1 : Int32) = 0 → (ox_has (S1.K x0) 92 = true ∧ (True ∧ Q (some (.inl (S1.I 92 x0))) S1))))) ∧ (¬ Int32.toInt x1 = 1 → ((Int32.toInt x1 = 2 → (((1 : Int32) = 0 → (True ∧ Q (some (.inl (0 : Int32))) S1)) ∧ (¬ (1 : Int32) = 0 → (ox_has (S1.K x0) 99 = true ∧ (ox_rdI (S1.K (S1.R 99 x0)) = true ∧ vp_in w2 (S1.len (S1.R 99 x0)) ∧ (True ∧ Q (some (.inl (S1.rI (S1.R 99 x0) (Int32.toNatClampNeg w2)))) S1)))))) ∧ (¬ Int32.toInt x1 = 2 → ((Int32.toInt x1 = 3 → (((1 : Int32) = 0 → (True ∧ Q (some (.inl (0 : Int32))) S1)) ∧ (¬ (1 : Int32) = 0 → (ox_has (S1.K x0) 100 = true ∧ (ox_rdI (S1.K (S1.R 100 x0)) = true ∧ vp_in w2 (S1.len (S1.R 100 x0)) ∧ (True ∧ Q (some (.inl (S1.rI (S1.R 100 x0) (Int32.toNatClampNeg w2)))) S1)))))) ∧ (¬ Int32.toInt x1 = 3 → ((Int32.toInt x1 = 4 → (((1 : Int32) = 0 → (True ∧ Q (some (.inl (0 : Int32))) S1)) ∧ (¬ (1 : Int32) = 0 → (ox_has (S1.K x0) 101 = true ∧ (ox_rdI (S1.K (S1.R 101 x0)) = true ∧ vp_in w2 (S1.len (S1.R 101 x0)) ∧ (True ∧ Q (some (.inl (S1.rI (S1.R 101 x0) (Int32.toNatClampNeg w2)))) S1)))))) ∧ (¬ Int32.toInt x1 = 4 → ((Int32.toInt x1 = 5 → (ox_has (S1.K x0) 93 = true ∧ ((¬ (S1.I 93 x0) = 3 → (True ∧ Q (some (.inl ((-1) : Int32))) S1)) ∧ ((S1.I 93 x0) = 3 → (ox_has (S1.K x0) 94 = true ∧ (True ∧ Q (some (.inl (S1.I 94 x0))) S1)))))) ∧ (¬ Int32.toInt x1 = 5 → ((Int32.toInt x1 = 6 → (ox_has (S1.K x0) 95 = true ∧ (True ∧ Q (some (.inl (S1.I 95 x0))) S1))) ∧ (¬ Int32.toInt x1 = 6 → ((Int32.toInt x1 = 7 → (ox_has (S1.K x0) 106 = true ∧ (True ∧ Q (some (.inl (S1.I 106 x0))) S1))) ∧ (¬ Int32.toInt x1 = 7 → (True ∧ Q (some (.inl ((-1) : Int32))) S1))))))))))))))))))))))))
set_option maxRecDepth 20000 in
set_option maxHeartbeats 4000000 in
theorem f_205 {sp : ox_E} (hsp : ox_mono sp) {d : Nat} {mr sr : Nat} {x0 : Nat} {x1 : Int32} {S : ox_St} {Q : ox_Q} (h : q_205 (ox_M sp d) x0 x1 S mr sr Q) : ox_M sp (d + 1) 205 [.inr (.inr (x0)), .inl (x1)] mr sr S Q := Or.inr ⟨Nat.le_of_ble_eq_true rfl, ox_C_fold (ox_M_mono hsp d) h⟩
/-! OpcodeFramesModel.row(II)I -/
def c_206_25 (E : ox_E) (x0 : Nat) (x1 : Int32) (x2 : Int32) (x3 : Int32) (x4 : Int32) (S : ox_St) (mr sr : Nat) (Q : ox_Q) : Prop := ox_C E (ox_mi 206).2.2.2.1 (ox_mc 206) (ox_cut 206) Q 25 [some (.inr (.inr (x0))), some (.inl (x1)), some (.inl (x2)), some (.inl (x3)), some (.inl (x4)), none, none, none, none] [] S mr sr
def k_206_46 (E : ox_E) (x0 : Nat) (x1 : Int32) (x2 : Int32) (x3 : Int32) (x4 : Int32) (x5 : Int32) (mr sr : Nat) (Q : ox_Q) : ox_Q := fun r_ T_ => ox_C E (ox_mi 206).2.2.2.1 (ox_mc 206) (ox_cut 206) Q 46 [some (.inr (.inr (x0))), some (.inl (x1)), some (.inl (x2)), some (.inl (x3)), some (.inl (x4)), some (.inl (x5)), none, none, none] (r_.toList ++ []) T_ mr sr
def k_206_65 (E : ox_E) (x0 : Nat) (x1 : Int32) (x2 : Int32) (x3 : Int32) (x4 : Int32) (x5 : Int32) (x6 : Int32) (mr sr : Nat) (Q : ox_Q) : ox_Q := fun r_ T_ => ox_C E (ox_mi 206).2.2.2.1 (ox_mc 206) (ox_cut 206) Q 65 [some (.inr (.inr (x0))), some (.inl (x1)), some (.inl (x2)), some (.inl (x3)), some (.inl (x4)), some (.inl (x5)), some (.inl (x6)), none, none] (r_.toList ++ []) T_ mr sr
def k_206_132 (E : ox_E) (x0 : Nat) (x1 : Int32) (x2 : Int32) (x3 : Int32) (x4 : Int32) (x5 : Int32) (x6 : Int32) (x7 : Int32) (mr sr : Nat) (Q : ox_Q) : ox_Q := fun r_ T_ => ox_C E (ox_mi 206).2.2.2.1 (ox_mc 206) (ox_cut 206) Q 132 [some (.inr (.inr (x0))), some (.inl (x1)), some (.inl (x2)), some (.inl (x3)), some (.inl (x4)), some (.inl (x5)), some (.inl (x6)), some (.inl (x7)), none] (r_.toList ++ []) T_ mr sr
def c_206_159 (E : ox_E) (x0 : Nat) (x1 : Int32) (x2 : Int32) (x3 : Int32) (x4 : Int32) (x5 : Int32) (x6 : Int32) (x7 : Int32) (x8 : Int32) (S : ox_St) (mr sr : Nat) (Q : ox_Q) : Prop := ox_C E (ox_mi 206).2.2.2.1 (ox_mc 206) (ox_cut 206) Q 159 [some (.inr (.inr (x0))), some (.inl (x1)), some (.inl (x2)), some (.inl (x3)), some (.inl (x4)), some (.inl (x5)), some (.inl (x6)), some (.inl (x7)), some (.inl (x8))] [] S mr sr
set_option maxRecDepth 20000 in
def q_206_159 (E : ox_E) (x0 : Nat) (x1 : Int32) (x2 : Int32) (x3 : Int32) (x4 : Int32) (x5 : Int32) (x6 : Int32) (x7 : Int32) (x8 : Int32) (S : ox_St) (mr sr : Nat) (Q : ox_Q) : Prop :=
  ((x8 < 0 → c_206_25 E x0 x1 x2 x3 x4 S mr sr Q) ∧ (¬ x8 < 0 → (ox_has (S.K x0) 141 = true ∧ (ox_has (S.K x0) 73 = true ∧ (ox_rdI (S.K (S.R 73 x0)) = true ∧ vp_in ((x5 + 3) + x8) (S.len (S.R 73 x0)) ∧ (S.K (S.R 141 x0) = 15 ∧ vp_in x3 (S.len (S.R 141 x0)) ∧ (let S1 := S.wI (S.R 141 x0) (Int32.toNatClampNeg x3) (S.rI (S.R 73 x0) (Int32.toNatClampNeg ((x5 + 3) + x8)))
  c_206_159 E x0 x1 x2 (x3 + 1) x4 x5 x6 x7 (x8 + (-1)) S1 mr sr Q)))))))
set_option maxRecDepth 20000 in
set_option maxHeartbeats 4000000 in
theorem f_206_159 {E : ox_E} (hE : ox_mono E) {mr sr : Nat} {x0 : Nat} {x1 : Int32} {x2 : Int32} {x3 : Int32} {x4 : Int32} {x5 : Int32} {x6 : Int32} {x7 : Int32} {x8 : Int32} {S : ox_St} {Q : ox_Q} (h : q_206_159 E x0 x1 x2 x3 x4 x5 x6 x7 x8 S mr sr Q) : c_206_159 E x0 x1 x2 x3 x4 x5 x6 x7 x8 S mr sr Q := ox_C_fold hE h
set_option maxRecDepth 20000 in
def q_206_132 (E : ox_E) (x0 : Nat) (x1 : Int32) (x2 : Int32) (x3 : Int32) (x4 : Int32) (x5 : Int32) (x6 : Int32) (x7 : Int32) (y0 : Int32) (S : ox_St) (mr sr : Nat) (Q : ox_Q) : Prop :=
  (True ∧ Q (some (.inl y0)) S)
set_option maxRecDepth 20000 in
set_option maxHeartbeats 4000000 in
theorem f_206_132 {E : ox_E} (hE : ox_mono E) {mr sr : Nat} {x0 : Nat} {x1 : Int32} {x2 : Int32} {x3 : Int32} {x4 : Int32} {x5 : Int32} {x6 : Int32} {x7 : Int32} {y0 : Int32} {S : ox_St} {Q : ox_Q} (h : q_206_132 E x0 x1 x2 x3 x4 x5 x6 x7 y0 S mr sr Q) : k_206_132 E x0 x1 x2 x3 x4 x5 x6 x7 mr sr Q (some (.inl (y0))) S := ox_C_fold hE h
set_option maxRecDepth 20000 in
def q_206_65 (E : ox_E) (x0 : Nat) (x1 : Int32) (x2 : Int32) (x3 : Int32) (x4 : Int32) (x5 : Int32) (x6 : Int32) (y0 : Int32) (S : ox_St) (mr sr : Nat) (Q : ox_Q) : Prop :=
  ((y0 = 0 → ((¬ x6 = 3 → ((¬ x6 = 4 → ((¬ x6 = 5 → (((1 : Int32) ≤ x4 → (let w1 : Int32 := x4 - 1
  ((¬ x6 = 4 → c_206_25 E x0 x1 x2 x3 w1 S mr sr Q) ∧ (x6 = 4 → (ox_has (S.K x0) 73 = true ∧ (ox_rdI (S.K (S.R 73 x0)) = true ∧ vp_in (x5 + 2) (S.len (S.R 73 x0)) ∧ (let w2 : Int32 := (S.rI (S.R 73 x0) (Int32.toNatClampNeg (x5 + 2))) - 1
  c_206_159 E x0 x1 x2 x3 w1 x5 x6 1 w2 S mr sr Q))))))) ∧ (¬ (1 : Int32) ≤ x4 → (4 ≤ 4 ∧ S.K x0 = 14 ∧ 0 ≤ 8 ∧ ∃ mc3 mk4, mc3 ≤ mr ∧ mk4 ≤ sr ∧ E 207 [.inr (.inr (x0)), .inl (x5), .inl (x6), .inl (x4)] mc3 mk4 S (k_206_132 E x0 x1 x2 x3 x4 x5 x6 1 (mr - mc3) (sr - mk4) Q))))) ∧ (x6 = 5 → (((4 : Int32) ≤ x4 → (let w5 : Int32 := x4 - 4
  ((¬ x6 = 4 → c_206_25 E x0 x1 x2 x3 w5 S mr sr Q) ∧ (x6 = 4 → (ox_has (S.K x0) 73 = true ∧ (ox_rdI (S.K (S.R 73 x0)) = true ∧ vp_in (x5 + 2) (S.len (S.R 73 x0)) ∧ (let w6 : Int32 := (S.rI (S.R 73 x0) (Int32.toNatClampNeg (x5 + 2))) - 1
  c_206_159 E x0 x1 x2 x3 w5 x5 x6 4 w6 S mr sr Q))))))) ∧ (¬ (4 : Int32) ≤ x4 → (4 ≤ 4 ∧ S.K x0 = 14 ∧ 0 ≤ 8 ∧ ∃ mc7 mk8, mc7 ≤ mr ∧ mk8 ≤ sr ∧ E 207 [.inr (.inr (x0)), .inl (x5), .inl (x6), .inl (x4)] mc7 mk8 S (k_206_132 E x0 x1 x2 x3 x4 x5 x6 4 (mr - mc7) (sr - mk8) Q))))))) ∧ (x6 = 4 → (((2 : Int32) ≤ x4 → (let w9 : Int32 := x4 - 2
  ((¬ x6 = 4 → c_206_25 E x0 x1 x2 x3 w9 S mr sr Q) ∧ (x6 = 4 → (ox_has (S.K x0) 73 = true ∧ (ox_rdI (S.K (S.R 73 x0)) = true ∧ vp_in (x5 + 2) (S.len (S.R 73 x0)) ∧ (let w10 : Int32 := (S.rI (S.R 73 x0) (Int32.toNatClampNeg (x5 + 2))) - 1
  c_206_159 E x0 x1 x2 x3 w9 x5 x6 2 w10 S mr sr Q))))))) ∧ (¬ (2 : Int32) ≤ x4 → (4 ≤ 4 ∧ S.K x0 = 14 ∧ 0 ≤ 8 ∧ ∃ mc11 mk12, mc11 ≤ mr ∧ mk12 ≤ sr ∧ E 207 [.inr (.inr (x0)), .inl (x5), .inl (x6), .inl (x4)] mc11 mk12 S (k_206_132 E x0 x1 x2 x3 x4 x5 x6 2 (mr - mc11) (sr - mk12) Q))))))) ∧ (x6 = 3 → (ox_has (S.K x0) 73 = true ∧ (ox_rdI (S.K (S.R 73 x0)) = true ∧ vp_in (x5 + 2) (S.len (S.R 73 x0)) ∧ (let w13 : Int32 := 3 + (S.rI (S.R 73 x0) (Int32.toNatClampNeg (x5 + 2)))
  ((w13 ≤ x4 → (let w14 : Int32 := x4 - w13
  ((¬ x6 = 4 → c_206_25 E x0 x1 x2 x3 w14 S mr sr Q) ∧ (x6 = 4 → (ox_has (S.K x0) 73 = true ∧ (ox_rdI (S.K (S.R 73 x0)) = true ∧ vp_in (x5 + 2) (S.len (S.R 73 x0)) ∧ (let w15 : Int32 := (S.rI (S.R 73 x0) (Int32.toNatClampNeg (x5 + 2))) - 1
  c_206_159 E x0 x1 x2 x3 w14 x5 x6 w13 w15 S mr sr Q))))))) ∧ (¬ w13 ≤ x4 → (4 ≤ 4 ∧ S.K x0 = 14 ∧ 0 ≤ 8 ∧ ∃ mc16 mk17, mc16 ≤ mr ∧ mk17 ≤ sr ∧ E 207 [.inr (.inr (x0)), .inl (x5), .inl (x6), .inl (x4)] mc16 mk17 S (k_206_132 E x0 x1 x2 x3 x4 x5 x6 w13 (mr - mc16) (sr - mk17) Q)))))))))) ∧ (¬ y0 = 0 → (((2 : Int32) ≤ x4 → (let w18 : Int32 := x4 - 2
  ((¬ x6 = 4 → c_206_25 E x0 x1 x2 x3 w18 S mr sr Q) ∧ (x6 = 4 → (ox_has (S.K x0) 73 = true ∧ (ox_rdI (S.K (S.R 73 x0)) = true ∧ vp_in (x5 + 2) (S.len (S.R 73 x0)) ∧ (let w19 : Int32 := (S.rI (S.R 73 x0) (Int32.toNatClampNeg (x5 + 2))) - 1
  c_206_159 E x0 x1 x2 x3 w18 x5 x6 2 w19 S mr sr Q))))))) ∧ (¬ (2 : Int32) ≤ x4 → (4 ≤ 4 ∧ S.K x0 = 14 ∧ 0 ≤ 8 ∧ ∃ mc20 mk21, mc20 ≤ mr ∧ mk21 ≤ sr ∧ E 207 [.inr (.inr (x0)), .inl (x5), .inl (x6), .inl (x4)] mc20 mk21 S (k_206_132 E x0 x1 x2 x3 x4 x5 x6 2 (mr - mc20) (sr - mk21) Q))))))
set_option maxRecDepth 20000 in
set_option maxHeartbeats 4000000 in
theorem f_206_65 {E : ox_E} (hE : ox_mono E) {mr sr : Nat} {x0 : Nat} {x1 : Int32} {x2 : Int32} {x3 : Int32} {x4 : Int32} {x5 : Int32} {x6 : Int32} {y0 : Int32} {S : ox_St} {Q : ox_Q} (h : q_206_65 E x0 x1 x2 x3 x4 x5 x6 y0 S mr sr Q) : k_206_65 E x0 x1 x2 x3 x4 x5 x6 mr sr Q (some (.inl (y0))) S := ox_C_fold hE h
set_option maxRecDepth 20000 in
def q_206_46 (E : ox_E) (x0 : Nat) (x1 : Int32) (x2 : Int32) (x3 : Int32) (x4 : Int32) (x5 : Int32) (y0 : Int32) (S : ox_St) (mr sr : Nat) (Q : ox_Q) : Prop :=
  ((x5 < 0 → (((2 : Int32) ≤ x4 → (let w1 : Int32 := x4 - 2
  ((¬ y0 = 4 → c_206_25 E x0 x1 x2 x3 w1 S mr sr Q) ∧ (y0 = 4 → (ox_has (S.K x0) 73 = true ∧ (ox_rdI (S.K (S.R 73 x0)) = true ∧ vp_in (x5 + 2) (S.len (S.R 73 x0)) ∧ (let w2 : Int32 := (S.rI (S.R 73 x0) (Int32.toNatClampNeg (x5 + 2))) - 1
  c_206_159 E x0 x1 x2 x3 w1 x5 y0 2 w2 S mr sr Q))))))) ∧ (¬ (2 : Int32) ≤ x4 → (4 ≤ 4 ∧ S.K x0 = 14 ∧ 0 ≤ 8 ∧ ∃ mc3 mk4, mc3 ≤ mr ∧ mk4 ≤ sr ∧ E 207 [.inr (.inr (x0)), .inl (x5), .inl (y0), .inl (x4)] mc3 mk4 S (k_206_132 E x0 x1 x2 x3 x4 x5 y0 2 (mr - mc3) (sr - mk4) Q))))) ∧ (¬ x5 < 0 → ((y0 = 7 → (((2 : Int32) ≤ x4 → (let w5 : Int32 := x4 - 2
  ((¬ y0 = 4 → c_206_25 E x0 x1 x2 x3 w5 S mr sr Q) ∧ (y0 = 4 → (ox_has (S.K x0) 73 = true ∧ (ox_rdI (S.K (S.R 73 x0)) = true ∧ vp_in (x5 + 2) (S.len (S.R 73 x0)) ∧ (let w6 : Int32 := (S.rI (S.R 73 x0) (Int32.toNatClampNeg (x5 + 2))) - 1
  c_206_159 E x0 x1 x2 x3 w5 x5 y0 2 w6 S mr sr Q))))))) ∧ (¬ (2 : Int32) ≤ x4 → (4 ≤ 4 ∧ S.K x0 = 14 ∧ 0 ≤ 8 ∧ ∃ mc7 mk8, mc7 ≤ mr ∧ mk8 ≤ sr ∧ E 207 [.inr (.inr (x0)), .inl (x5), .inl (y0), .inl (x4)] mc7 mk8 S (k_206_132 E x0 x1 x2 x3 x4 x5 y0 2 (mr - mc7) (sr - mk8) Q))))) ∧ (¬ y0 = 7 → (1 ≤ 1 ∧ 0 ≤ 8 ∧ ∃ mc9 mk10, mc9 ≤ mr ∧ mk10 ≤ sr ∧ E 136 [.inl (x5)] mc9 mk10 S (k_206_65 E x0 x1 x2 x3 x4 x5 y0 (mr - mc9) (sr - mk10) Q))))))
set_option maxRecDepth 20000 in
set_option maxHeartbeats 4000000 in
theorem f_206_46 {E : ox_E} (hE : ox_mono E) {mr sr : Nat} {x0 : Nat} {x1 : Int32} {x2 : Int32} {x3 : Int32} {x4 : Int32} {x5 : Int32} {y0 : Int32} {S : ox_St} {Q : ox_Q} (h : q_206_46 E x0 x1 x2 x3 x4 x5 y0 S mr sr Q) : k_206_46 E x0 x1 x2 x3 x4 x5 mr sr Q (some (.inl (y0))) S := ox_C_fold hE h
set_option maxRecDepth 20000 in
def q_206_25 (E : ox_E) (x0 : Nat) (x1 : Int32) (x2 : Int32) (x3 : Int32) (x4 : Int32) (S : ox_St) (mr sr : Nat) (Q : ox_Q) : Prop :=
  ((x3 ≤ 0 → (True ∧ Q (some (.inl ((-1) : Int32))) S)) ∧ (¬ x3 ≤ 0 → (ox_has (S.K x0) 141 = true ∧ (ox_rdI (S.K (S.R 141 x0)) = true ∧ vp_in (x3 + (-1)) (S.len (S.R 141 x0)) ∧ (let w1 : Int32 := S.rI (S.R 141 x0) (Int32.toNatClampNeg (x3 + (-1)))
  (2 ≤ 2 ∧ S.K x0 = 14 ∧ 0 ≤ 8 ∧ ∃ mc2 mk3, mc2 ≤ mr ∧ mk3 ≤ sr ∧ E 133 [.inr (.inr (x0)), .inl (w1)] mc2 mk3 S (k_206_46 E x0 x1 x2 (x3 + (-1)) x4 w1 (mr - mc2) (sr - mk3) Q)))))))
set_option maxRecDepth 20000 in
set_option maxHeartbeats 4000000 in
theorem f_206_25 {E : ox_E} (hE : ox_mono E) {mr sr : Nat} {x0 : Nat} {x1 : Int32} {x2 : Int32} {x3 : Int32} {x4 : Int32} {S : ox_St} {Q : ox_Q} (h : q_206_25 E x0 x1 x2 x3 x4 S mr sr Q) : c_206_25 E x0 x1 x2 x3 x4 S mr sr Q := ox_C_fold hE h
set_option maxRecDepth 20000 in
def q_206 (E : ox_E) (x0 : Nat) (x1 : Int32) (x2 : Int32) (S : ox_St) (mr sr : Nat) (Q : ox_Q) : Prop :=
  ((x2 < 0 → (True ∧ Q (some (.inl ((-1) : Int32))) S)) ∧ (¬ x2 < 0 → ((x2 ≤ 299 → (ox_has (S.K x0) 141 = true ∧ (S.K (S.R 141 x0) = 15 ∧ vp_in 0 (S.len (S.R 141 x0)) ∧ (let S1 := S.wI (S.R 141 x0) (Int32.toNatClampNeg 0) x1
  c_206_25 E x0 x1 x2 1 x2 S1 mr sr Q)))) ∧ (¬ x2 ≤ 299 → (True ∧ Q (some (.inl ((-1) : Int32))) S)))))
set_option maxRecDepth 20000 in
set_option maxHeartbeats 4000000 in
theorem f_206 {sp : ox_E} (hsp : ox_mono sp) {d : Nat} {mr sr : Nat} {x0 : Nat} {x1 : Int32} {x2 : Int32} {S : ox_St} {Q : ox_Q} (h : q_206 (ox_M sp d) x0 x1 x2 S mr sr Q) : ox_M sp (d + 1) 206 [.inr (.inr (x0)), .inl (x1), .inl (x2)] mr sr S Q := Or.inr ⟨Nat.le_of_ble_eq_true rfl, ox_C_fold (ox_M_mono hsp d) h⟩
/-! OpcodeFramesModel.told(III)I -/
def k_207_41 (E : ox_E) (x0 : Nat) (x1 : Int32) (x2 : Int32) (x3 : Int32) (mr sr : Nat) (Q : ox_Q) : ox_Q := fun r_ T_ => ox_C E (ox_mi 207).2.2.2.1 (ox_mc 207) (ox_cut 207) Q 41 [some (.inr (.inr (x0))), some (.inl (x1)), some (.inl (x2)), some (.inl (x3))] (r_.toList ++ []) T_ mr sr
set_option maxRecDepth 20000 in
def q_207_41 (E : ox_E) (x0 : Nat) (x1 : Int32) (x2 : Int32) (x3 : Int32) (y0 : Int32) (S : ox_St) (mr sr : Nat) (Q : ox_Q) : Prop :=
  ((y0 = 0 → ((¬ x2 = 7 → ((¬ x2 = 6 → ((¬ x2 = 5 → ((¬ x3 = 0 → ((¬ x2 = 4 → (ox_has (S.K x0) 73 = true ∧ (ox_rdI (S.K (S.R 73 x0)) = true ∧ vp_in (x1 + x3) (S.len (S.R 73 x0)) ∧ (True ∧ Q (some (.inl (S.rI (S.R 73 x0) (Int32.toNatClampNeg (x1 + x3))))) S)))) ∧ (x2 = 4 → (ox_has (S.K x0) 73 = true ∧ (ox_rdI (S.K (S.R 73 x0)) = true ∧ vp_in (x1 + 2) (S.len (S.R 73 x0)) ∧ (True ∧ Q (some (.inl (S.rI (S.R 73 x0) (Int32.toNatClampNeg (x1 + 2))))) S)))))) ∧ (x3 = 0 → ((¬ x2 = 3 → (True ∧ Q (some (.inl (4 : Int32))) S)) ∧ (x2 = 3 → (True ∧ Q (some (.inl (3 : Int32))) S)))))) ∧ (x2 = 5 → ((¬ x3 = 0 → (ox_has (S.K x0) 73 = true ∧ (ox_rdI (S.K (S.R 73 x0)) = true ∧ vp_in (x1 + x3) (S.len (S.R 73 x0)) ∧ (True ∧ Q (some (.inl (S.rI (S.R 73 x0) (Int32.toNatClampNeg (x1 + x3))))) S)))) ∧ (x3 = 0 → (True ∧ Q (some (.inl (5 : Int32))) S)))))) ∧ (x2 = 6 → (True ∧ Q (some (.inl (6 : Int32))) S)))) ∧ (x2 = 7 → ((¬ x3 = 0 → (ox_has (S.K x0) 77 = true ∧ (ox_has (S.K x0) 73 = true ∧ (ox_rdI (S.K (S.R 73 x0)) = true ∧ vp_in (x1 + 1) (S.len (S.R 73 x0)) ∧ (ox_rdI (S.K (S.R 77 x0)) = true ∧ vp_in (S.rI (S.R 73 x0) (Int32.toNatClampNeg (x1 + 1))) (S.len (S.R 77 x0)) ∧ (True ∧ Q (some (.inl (S.rI (S.R 77 x0) (Int32.toNatClampNeg (S.rI (S.R 73 x0) (Int32.toNatClampNeg (x1 + 1))))))) S)))))) ∧ (x3 = 0 → (True ∧ Q (some (.inl (7 : Int32))) S)))))) ∧ (¬ y0 = 0 → ((¬ x3 = 0 → (True ∧ Q (some (.inl (x1 - 4))) S)) ∧ (x3 = 0 → (True ∧ Q (some (.inl (9 : Int32))) S)))))
set_option maxRecDepth 20000 in
set_option maxHeartbeats 4000000 in
theorem f_207_41 {E : ox_E} (hE : ox_mono E) {mr sr : Nat} {x0 : Nat} {x1 : Int32} {x2 : Int32} {x3 : Int32} {y0 : Int32} {S : ox_St} {Q : ox_Q} (h : q_207_41 E x0 x1 x2 x3 y0 S mr sr Q) : k_207_41 E x0 x1 x2 x3 mr sr Q (some (.inl (y0))) S := ox_C_fold hE h
set_option maxRecDepth 20000 in
def q_207 (E : ox_E) (x0 : Nat) (x1 : Int32) (x2 : Int32) (x3 : Int32) (S : ox_St) (mr sr : Nat) (Q : ox_Q) : Prop :=
  (((0 : Int32) ≤ x1 → (((3 : Int32) ≤ x1 → ((¬ x1 = 3 → (1 ≤ 1 ∧ 0 ≤ 8 ∧ ∃ mc1 mk2, mc1 ≤ mr ∧ mk2 ≤ sr ∧ E 136 [.inl (x1)] mc1 mk2 S (k_207_41 E x0 x1 x2 x3 (mr - mc1) (sr - mk2) Q))) ∧ (x1 = 3 → (True ∧ Q (some (.inl (8 : Int32))) S)))) ∧ (¬ (3 : Int32) ≤ x1 → (True ∧ Q (some (.inl x1)) S)))) ∧ (¬ (0 : Int32) ≤ x1 → ((¬ x3 = 0 → (ox_has (S.K x0) 77 = true ∧ (ox_rdI (S.K (S.R 77 x0)) = true ∧ vp_in ((-1) - x1) (S.len (S.R 77 x0)) ∧ (True ∧ Q (some (.inl (S.rI (S.R 77 x0) (Int32.toNatClampNeg ((-1) - x1))))) S)))) ∧ (x3 = 0 → (True ∧ Q (some (.inl (10 : Int32))) S)))))
set_option maxRecDepth 20000 in
set_option maxHeartbeats 4000000 in
theorem f_207 {sp : ox_E} (hsp : ox_mono sp) {d : Nat} {mr sr : Nat} {x0 : Nat} {x1 : Int32} {x2 : Int32} {x3 : Int32} {S : ox_St} {Q : ox_Q} (h : q_207 (ox_M sp d) x0 x1 x2 x3 S mr sr Q) : ox_M sp (d + 1) 207 [.inr (.inr (x0)), .inl (x1), .inl (x2), .inl (x3)] mr sr S Q := Or.inr ⟨Nat.le_of_ble_eq_true rfl, ox_C_fold (ox_M_mono hsp d) h⟩
/-! OpcodeFramesModel.result(I)I -/
def k_208_22 (E : ox_E) (x0 : Nat) (x1 : Int32) (mr sr : Nat) (Q : ox_Q) : ox_Q := fun r_ T_ => ox_C E (ox_mi 208).2.2.2.1 (ox_mc 208) (ox_cut 208) Q 22 [some (.inr (.inr (x0))), some (.inl (x1))] (r_.toList ++ []) T_ mr sr
set_option maxRecDepth 20000 in
def q_208_22 (E : ox_E) (x0 : Nat) (x1 : Int32) (y0 : Int32) (S : ox_St) (mr sr : Nat) (Q : ox_Q) : Prop :=
  (True ∧ Q (some (.inl y0)) S)
set_option maxRecDepth 20000 in
set_option maxHeartbeats 4000000 in
theorem f_208_22 {E : ox_E} (hE : ox_mono E) {mr sr : Nat} {x0 : Nat} {x1 : Int32} {y0 : Int32} {S : ox_St} {Q : ox_Q} (h : q_208_22 E x0 x1 y0 S mr sr Q) : k_208_22 E x0 x1 mr sr Q (some (.inl (y0))) S := ox_C_fold hE h
set_option maxRecDepth 20000 in
def q_208 (E : ox_E) (x0 : Nat) (x1 : Int32) (S : ox_St) (mr sr : Nat) (Q : ox_Q) : Prop :=
  (ox_has (S.K x0) 69 = true ∧ (let S1 := S.sI 69 x0 0
  (ox_has (S1.K x0) 93 = true ∧ ((¬ (S1.I 93 x0) = 2 → (True ∧ Q (some (.inl ((-1) : Int32))) S1)) ∧ ((S1.I 93 x0) = 2 → (ox_has (S1.K x0) 97 = true ∧ (3 ≤ 3 ∧ S1.K x0 = 14 ∧ 0 ≤ 8 ∧ ∃ mc2 mk3, mc2 ≤ mr ∧ mk3 ≤ sr ∧ E 206 [.inr (.inr (x0)), .inl (S1.I 97 x0), .inl (x1)] mc2 mk3 S1 (k_208_22 E x0 x1 (mr - mc2) (sr - mk3) Q))))))))
set_option maxRecDepth 20000 in
set_option maxHeartbeats 4000000 in
theorem f_208 {sp : ox_E} (hsp : ox_mono sp) {d : Nat} {mr sr : Nat} {x0 : Nat} {x1 : Int32} {S : ox_St} {Q : ox_Q} (h : q_208 (ox_M sp d) x0 x1 S mr sr Q) : ox_M sp (d + 1) 208 [.inr (.inr (x0)), .inl (x1)] mr sr S Q := Or.inr ⟨Nat.le_of_ble_eq_true rfl, ox_C_fold (ox_M_mono hsp d) h⟩
/-! OpcodeFramesModel.stack(II)I -/
def k_209_42 (E : ox_E) (x0 : Nat) (x1 : Int32) (x2 : Int32) (y1 : Nat) (mr sr : Nat) (Q : ox_Q) : ox_Q := fun r_ T_ => ox_C E (ox_mi 209).2.2.2.1 (ox_mc 209) (ox_cut 209) Q 42 [some (.inr (.inr (x0))), some (.inl (x1)), some (.inl (x2))] (r_.toList ++ [.inr (.inr (y1))]) T_ mr sr
def k_209_46 (E : ox_E) (x0 : Nat) (x1 : Int32) (x2 : Int32) (mr sr : Nat) (Q : ox_Q) : ox_Q := fun r_ T_ => ox_C E (ox_mi 209).2.2.2.1 (ox_mc 209) (ox_cut 209) Q 46 [some (.inr (.inr (x0))), some (.inl (x1)), some (.inl (x2))] (r_.toList ++ []) T_ mr sr
set_option maxRecDepth 20000 in
def q_209_46 (E : ox_E) (x0 : Nat) (x1 : Int32) (x2 : Int32) (y0 : Int32) (S : ox_St) (mr sr : Nat) (Q : ox_Q) : Prop :=
  (True ∧ Q (some (.inl y0)) S)
set_option maxRecDepth 20000 in
set_option maxHeartbeats 4000000 in
theorem f_209_46 {E : ox_E} (hE : ox_mono E) {mr sr : Nat} {x0 : Nat} {x1 : Int32} {x2 : Int32} {y0 : Int32} {S : ox_St} {Q : ox_Q} (h : q_209_46 E x0 x1 x2 y0 S mr sr Q) : k_209_46 E x0 x1 x2 mr sr Q (some (.inl (y0))) S := ox_C_fold hE h
set_option maxRecDepth 20000 in
def q_209_42 (E : ox_E) (x0 : Nat) (x1 : Int32) (x2 : Int32) (y0 : Int32) (y1 : Nat) (S : ox_St) (mr sr : Nat) (Q : ox_Q) : Prop :=
  (3 ≤ 3 ∧ S.K y1 = 14 ∧ 0 ≤ 8 ∧ ∃ mc1 mk2, mc1 ≤ mr ∧ mk2 ≤ sr ∧ E 206 [.inr (.inr (y1)), .inl (y0), .inl (x2)] mc1 mk2 S (k_209_46 E x0 x1 x2 (mr - mc1) (sr - mk2) Q))
set_option maxRecDepth 20000 in
set_option maxHeartbeats 4000000 in
theorem f_209_42 {E : ox_E} (hE : ox_mono E) {mr sr : Nat} {x0 : Nat} {x1 : Int32} {x2 : Int32} {y0 : Int32} {y1 : Nat} {S : ox_St} {Q : ox_Q} (h : q_209_42 E x0 x1 x2 y0 y1 S mr sr Q) : k_209_42 E x0 x1 x2 y1 mr sr Q (some (.inl (y0))) S := ox_C_fold hE h
set_option maxRecDepth 20000 in
def q_209 (E : ox_E) (x0 : Nat) (x1 : Int32) (x2 : Int32) (S : ox_St) (mr sr : Nat) (Q : ox_Q) : Prop :=
  (ox_has (S.K x0) 69 = true ∧ (let S1 := S.sI 69 x0 0
  (ox_has (S1.K x0) 93 = true ∧ ((¬ (S1.I 93 x0) = 1 → k_209_46 E x0 x1 x2 mr sr Q (some (.inl (-1))) S1) ∧ ((S1.I 93 x0) = 1 → ((x1 < 0 → k_209_46 E x0 x1 x2 mr sr Q (some (.inl (-1))) S1) ∧ (¬ x1 < 0 → (ox_has (S1.K x0) 100 = true ∧ (ox_has (S1.K x0) 92 = true ∧ (ox_rdI (S1.K (S1.R 100 x0)) = true ∧ vp_in ((S1.I 92 x0) - 1) (S1.len (S1.R 100 x0)) ∧ ((x1 < (S1.rI (S1.R 100 x0) (Int32.toNatClampNeg ((S1.I 92 x0) - 1))) → (2 ≤ 3 ∧ S1.K x0 = 14 ∧ 1 ≤ 8 ∧ ∃ mc2 mk3, mc2 ≤ mr ∧ mk3 ≤ sr ∧ E 176 [.inr (.inr (x0)), .inl (x1)] mc2 mk3 S1 (k_209_42 E x0 x1 x2 x0 (mr - mc2) (sr - mk3) Q))) ∧ (¬ x1 < (S1.rI (S1.R 100 x0) (Int32.toNatClampNeg ((S1.I 92 x0) - 1))) → k_209_46 E x0 x1 x2 mr sr Q (some (.inl (-1))) S1))))))))))))
set_option maxRecDepth 20000 in
set_option maxHeartbeats 4000000 in
theorem f_209 {sp : ox_E} (hsp : ox_mono sp) {d : Nat} {mr sr : Nat} {x0 : Nat} {x1 : Int32} {x2 : Int32} {S : ox_St} {Q : ox_Q} (h : q_209 (ox_M sp d) x0 x1 x2 S mr sr Q) : ox_M sp (d + 1) 209 [.inr (.inr (x0)), .inl (x1), .inl (x2)] mr sr S Q := Or.inr ⟨Nat.le_of_ble_eq_true rfl, ox_C_fold (ox_M_mono hsp d) h⟩
/-! OpcodeFramesModel.local(II)I -/
def k_210_72 (E : ox_E) (x0 : Nat) (x1 : Int32) (x2 : Int32) (x3 : Int32) (mr sr : Nat) (Q : ox_Q) : ox_Q := fun r_ T_ => ox_C E (ox_mi 210).2.2.2.1 (ox_mc 210) (ox_cut 210) Q 72 [some (.inr (.inr (x0))), some (.inl (x1)), some (.inl (x2)), some (.inl (x3))] (r_.toList ++ []) T_ mr sr
set_option maxRecDepth 20000 in
def q_210_72 (E : ox_E) (x0 : Nat) (x1 : Int32) (x2 : Int32) (x3 : Int32) (y0 : Int32) (S : ox_St) (mr sr : Nat) (Q : ox_Q) : Prop :=
  (True ∧ Q (some (.inl y0)) S)
set_option maxRecDepth 20000 in
set_option maxHeartbeats 4000000 in
theorem f_210_72 {E : ox_E} (hE : ox_mono E) {mr sr : Nat} {x0 : Nat} {x1 : Int32} {x2 : Int32} {x3 : Int32} {y0 : Int32} {S : ox_St} {Q : ox_Q} (h : q_210_72 E x0 x1 x2 x3 y0 S mr sr Q) : k_210_72 E x0 x1 x2 x3 mr sr Q (some (.inl (y0))) S := ox_C_fold hE h
set_option maxRecDepth 20000 in
def q_210 (E : ox_E) (x0 : Nat) (x1 : Int32) (x2 : Int32) (S : ox_St) (mr sr : Nat) (Q : ox_Q) : Prop :=
  (ox_has (S.K x0) 69 = true ∧ (let S1 := S.sI 69 x0 0
  (ox_has (S1.K x0) 93 = true ∧ ((¬ (S1.I 93 x0) = 1 → (True ∧ Q (some (.inl ((-1) : Int32))) S1)) ∧ ((S1.I 93 x0) = 1 → ((x1 < 0 → (True ∧ Q (some (.inl ((-1) : Int32))) S1)) ∧ (¬ x1 < 0 → (ox_has (S1.K x0) 78 = true ∧ (ox_has (S1.K x0) 98 = true ∧ (ox_has (S1.K x0) 92 = true ∧ (ox_rdI (S1.K (S1.R 98 x0)) = true ∧ vp_in ((S1.I 92 x0) - 1) (S1.len (S1.R 98 x0)) ∧ (ox_rdI (S1.K (S1.R 78 x0)) = true ∧ vp_in (S1.rI (S1.R 98 x0) (Int32.toNatClampNeg ((S1.I 92 x0) - 1))) (S1.len (S1.R 78 x0)) ∧ ((x1 < (S1.rI (S1.R 78 x0) (Int32.toNatClampNeg (S1.rI (S1.R 98 x0) (Int32.toNatClampNeg ((S1.I 92 x0) - 1))))) → (ox_has (S1.K x0) 103 = true ∧ (ox_has (S1.K x0) 92 = true ∧ (ox_rdI (S1.K (S1.R 103 x0)) = true ∧ vp_in ((8 * ((S1.I 92 x0) - 1)) + x1) (S1.len (S1.R 103 x0)) ∧ (let w2 : Int32 := S1.rI (S1.R 103 x0) (Int32.toNatClampNeg ((8 * ((S1.I 92 x0) - 1)) + x1))
  ((¬ w2 = (-1000000) → (3 ≤ 3 ∧ S1.K x0 = 14 ∧ 0 ≤ 8 ∧ ∃ mc3 mk4, mc3 ≤ mr ∧ mk4 ≤ sr ∧ E 206 [.inr (.inr (x0)), .inl (w2), .inl (x2)] mc3 mk4 S1 (k_210_72 E x0 x1 x2 w2 (mr - mc3) (sr - mk4) Q))) ∧ (w2 = (-1000000) → k_210_72 E x0 x1 x2 w2 mr sr Q (some (.inl (-1))) S1))))))) ∧ (¬ x1 < (S1.rI (S1.R 78 x0) (Int32.toNatClampNeg (S1.rI (S1.R 98 x0) (Int32.toNatClampNeg ((S1.I 92 x0) - 1))))) → (True ∧ Q (some (.inl ((-1) : Int32))) S1)))))))))))))))
set_option maxRecDepth 20000 in
set_option maxHeartbeats 4000000 in
theorem f_210 {sp : ox_E} (hsp : ox_mono sp) {d : Nat} {mr sr : Nat} {x0 : Nat} {x1 : Int32} {x2 : Int32} {S : ox_St} {Q : ox_Q} (h : q_210 (ox_M sp d) x0 x1 x2 S mr sr Q) : ox_M sp (d + 1) 210 [.inr (.inr (x0)), .inl (x1), .inl (x2)] mr sr S Q := Or.inr ⟨Nat.le_of_ble_eq_true rfl, ox_C_fold (ox_M_mono hsp d) h⟩
/-! OpcodeFramesModel.global(JI)I -/
def c_211_12 (E : ox_E) (x0 : Nat) (x1 : Int64) (x3 : Int32) (x4 : Int64) (x6 : Int32) (S : ox_St) (mr sr : Nat) (Q : ox_Q) : Prop := ox_C E (ox_mi 211).2.2.2.1 (ox_mc 211) (ox_cut 211) Q 12 [some (.inr (.inr (x0))), some (.inr (.inl (x1))), none, some (.inl (x3)), some (.inr (.inl (x4))), none, some (.inl (x6))] [] S mr sr
def k_211_63 (E : ox_E) (x0 : Nat) (x1 : Int64) (x3 : Int32) (x4 : Int64) (x6 : Int32) (mr sr : Nat) (Q : ox_Q) : ox_Q := fun r_ T_ => ox_C E (ox_mi 211).2.2.2.1 (ox_mc 211) (ox_cut 211) Q 63 [some (.inr (.inr (x0))), some (.inr (.inl (x1))), none, some (.inl (x3)), some (.inr (.inl (x4))), none, some (.inl (x6))] (r_.toList ++ []) T_ mr sr
def k_211_86 (E : ox_E) (x0 : Nat) (x1 : Int64) (x3 : Int32) (x4 : Int64) (x6 : Int32) (mr sr : Nat) (Q : ox_Q) : ox_Q := fun r_ T_ => ox_C E (ox_mi 211).2.2.2.1 (ox_mc 211) (ox_cut 211) Q 86 [some (.inr (.inr (x0))), some (.inr (.inl (x1))), none, some (.inl (x3)), some (.inr (.inl (x4))), none, some (.inl (x6))] (r_.toList ++ []) T_ mr sr
set_option maxRecDepth 20000 in
def q_211_86 (E : ox_E) (x0 : Nat) (x1 : Int64) (x3 : Int32) (x4 : Int64) (x6 : Int32) (y0 : Int32) (S : ox_St) (mr sr : Nat) (Q : ox_Q) : Prop :=
  (True ∧ Q (some (.inl y0)) S)
set_option maxRecDepth 20000 in
set_option maxHeartbeats 4000000 in
theorem f_211_86 {E : ox_E} (hE : ox_mono E) {mr sr : Nat} {x0 : Nat} {x1 : Int64} {x3 : Int32} {x4 : Int64} {x6 : Int32} {y0 : Int32} {S : ox_St} {Q : ox_Q} (h : q_211_86 E x0 x1 x3 x4 x6 y0 S mr sr Q) : k_211_86 E x0 x1 x3 x4 x6 mr sr Q (some (.inl (y0))) S := ox_C_fold hE h
set_option maxRecDepth 20000 in
def q_211_63 (E : ox_E) (x0 : Nat) (x1 : Int64) (x3 : Int32) (x4 : Int64) (x6 : Int32) (y0 : Int32) (S : ox_St) (mr sr : Nat) (Q : ox_Q) : Prop :=
  (((0 : Int32) ≤ y0 → (ox_has (S.K x0) 108 = true ∧ (ox_rdI (S.K (S.R 108 x0)) = true ∧ vp_in y0 (S.len (S.R 108 x0)) ∧ (3 ≤ 3 ∧ S.K x0 = 14 ∧ 0 ≤ 8 ∧ ∃ mc1 mk2, mc1 ≤ mr ∧ mk2 ≤ sr ∧ E 206 [.inr (.inr (x0)), .inl (S.rI (S.R 108 x0) (Int32.toNatClampNeg y0)), .inl (x3)] mc1 mk2 S (k_211_86 E x0 x1 x3 x4 y0 (mr - mc1) (sr - mk2) Q))))) ∧ (¬ (0 : Int32) ≤ y0 → k_211_86 E x0 x1 x3 x4 y0 mr sr Q (some (.inl (-1))) S))
set_option maxRecDepth 20000 in
set_option maxHeartbeats 4000000 in
theorem f_211_63 {E : ox_E} (hE : ox_mono E) {mr sr : Nat} {x0 : Nat} {x1 : Int64} {x3 : Int32} {x4 : Int64} {x6 : Int32} {y0 : Int32} {S : ox_St} {Q : ox_Q} (h : q_211_63 E x0 x1 x3 x4 x6 y0 S mr sr Q) : k_211_63 E x0 x1 x3 x4 x6 mr sr Q (some (.inl (y0))) S := ox_C_fold hE h
set_option maxRecDepth 20000 in
def q_211_12 (E : ox_E) (x0 : Nat) (x1 : Int64) (x3 : Int32) (x4 : Int64) (x6 : Int32) (S : ox_St) (mr sr : Nat) (Q : ox_Q) : Prop :=
  ((x6 < 0 → (2 ≤ 2 ∧ S.K x0 = 14 ∧ 0 ≤ 8 ∧ ∃ mc1 mk2, mc1 ≤ mr ∧ mk2 ≤ sr ∧ E 188 [.inr (.inr (x0)), .inr (.inl (x4))] mc1 mk2 S (k_211_63 E x0 x1 x3 x4 x6 (mr - mc1) (sr - mk2) Q))) ∧ (¬ x6 < 0 → ((¬ (lg_cmp ((x1 >>> (Int32.toInt64 x6 &&& 63)) &&& 255) 0) = 0 → (let w3 : Int64 := (x4 <<< (Int32.toInt64 8 &&& 63)) ||| ((x1 >>> (Int32.toInt64 x6 &&& 63)) &&& 255)
  c_211_12 E x0 x1 x3 w3 (x6 + (-8)) S mr sr Q)) ∧ ((lg_cmp ((x1 >>> (Int32.toInt64 x6 &&& 63)) &&& 255) 0) = 0 → c_211_12 E x0 x1 x3 x4 (x6 + (-8)) S mr sr Q))))
set_option maxRecDepth 20000 in
set_option maxHeartbeats 4000000 in
theorem f_211_12 {E : ox_E} (hE : ox_mono E) {mr sr : Nat} {x0 : Nat} {x1 : Int64} {x3 : Int32} {x4 : Int64} {x6 : Int32} {S : ox_St} {Q : ox_Q} (h : q_211_12 E x0 x1 x3 x4 x6 S mr sr Q) : c_211_12 E x0 x1 x3 x4 x6 S mr sr Q := ox_C_fold hE h
set_option maxRecDepth 20000 in
def q_211 (E : ox_E) (x0 : Nat) (x1 : Int64) (x2 : Int32) (S : ox_St) (mr sr : Nat) (Q : ox_Q) : Prop :=
  (ox_has (S.K x0) 69 = true ∧ (let S1 := S.sI 69 x0 0
  c_211_12 E x0 x1 x2 0 56 S1 mr sr Q))
set_option maxRecDepth 20000 in
set_option maxHeartbeats 4000000 in
theorem f_211 {sp : ox_E} (hsp : ox_mono sp) {d : Nat} {mr sr : Nat} {x0 : Nat} {x1 : Int64} {x2 : Int32} {S : ox_St} {Q : ox_Q} (h : q_211 (ox_M sp d) x0 x1 x2 S mr sr Q) : ox_M sp (d + 1) 211 [.inr (.inr (x0)), .inr (.inl (x1)), .inl (x2)] mr sr S Q := Or.inr ⟨Nat.le_of_ble_eq_true rfl, ox_C_fold (ox_M_mono hsp d) h⟩
/-! java/lang/Integer.compare(II)I -/
set_option maxRecDepth 20000 in
def q_212 (E : ox_E) (x0 : Int32) (x1 : Int32) (S : ox_St) (mr sr : Nat) (Q : ox_Q) : Prop :=
  ((x1 ≤ x0 → ((¬ x0 = x1 → (True ∧ Q (some (.inl (1 : Int32))) S)) ∧ (x0 = x1 → (True ∧ Q (some (.inl (0 : Int32))) S)))) ∧ (¬ x1 ≤ x0 → (True ∧ Q (some (.inl ((-1) : Int32))) S)))
set_option maxRecDepth 20000 in
set_option maxHeartbeats 4000000 in
theorem f_212 {sp : ox_E} (hsp : ox_mono sp) {d : Nat} {mr sr : Nat} {x0 : Int32} {x1 : Int32} {S : ox_St} {Q : ox_Q} (h : q_212 (ox_M sp d) x0 x1 S mr sr Q) : ox_M sp (d + 1) 212 [.inl (x0), .inl (x1)] mr sr S Q := Or.inr ⟨Nat.le_of_ble_eq_true rfl, ox_C_fold (ox_M_mono hsp d) h⟩
