/-! OpcodeFramesLaw.law([I)Z -/
def k_238_7 (E : ox_E) (x0 : Nat) (y0 : Nat) (mr sr : Nat) (Q : ox_Q) : ox_Q := fun r_ T_ => ox_C E (some .boolean) lw_cx lw_cut Q 7 [some (.inr (.inr (x0))), none, none, none, none, none, none] (r_.toList ++ [.inr (.inr (y0))]) T_ mr sr
def k_238_15 (E : ox_E) (x0 : Nat) (x1 : Nat) (y0 : Nat) (mr sr : Nat) (Q : ox_Q) : ox_Q := fun r_ T_ => ox_C E (some .boolean) lw_cx lw_cut Q 15 [some (.inr (.inr (x0))), some (.inr (.inr (x1))), none, none, none, none, none] (r_.toList ++ [.inr (.inr (y0))]) T_ mr sr
def c_238_23 (E : ox_E) (x0 : Nat) (x1 : Nat) (x2 : Nat) (x3 : Nat) (x4 : Int32) (S : ox_St) (mr sr : Nat) (Q : ox_Q) : Prop := ox_C E (some .boolean) lw_cx lw_cut Q 23 [some (.inr (.inr (x0))), some (.inr (.inr (x1))), some (.inr (.inr (x2))), some (.inr (.inr (x3))), some (.inl (x4)), none, none] [] S mr sr
def k_238_108 (E : ox_E) (x0 : Nat) (x1 : Nat) (x2 : Nat) (x3 : Nat) (x4 : Int32) (mr sr : Nat) (Q : ox_Q) : ox_Q := fun r_ T_ => ox_C E (some .boolean) lw_cx lw_cut Q 108 [some (.inr (.inr (x0))), some (.inr (.inr (x1))), some (.inr (.inr (x2))), some (.inr (.inr (x3))), some (.inl (x4)), none, none] (r_.toList ++ []) T_ mr sr
def k_238_124 (E : ox_E) (x0 : Nat) (x1 : Nat) (x2 : Nat) (x3 : Nat) (x4 : Int32) (y1 : Int32) (mr sr : Nat) (Q : ox_Q) : ox_Q := fun r_ T_ => ox_C E (some .boolean) lw_cx lw_cut Q 124 [some (.inr (.inr (x0))), some (.inr (.inr (x1))), some (.inr (.inr (x2))), some (.inr (.inr (x3))), some (.inl (x4)), none, none] (r_.toList ++ [.inl (y1)]) T_ mr sr
def k_238_133 (E : ox_E) (x0 : Nat) (x1 : Nat) (x2 : Nat) (x3 : Nat) (x4 : Int32) (mr sr : Nat) (Q : ox_Q) : ox_Q := fun r_ T_ => ox_C E (some .boolean) lw_cx lw_cut Q 133 [some (.inr (.inr (x0))), some (.inr (.inr (x1))), some (.inr (.inr (x2))), some (.inr (.inr (x3))), some (.inl (x4)), none, none] (r_.toList ++ []) T_ mr sr
def k_238_139 (E : ox_E) (x0 : Nat) (x1 : Nat) (x2 : Nat) (x3 : Nat) (x4 : Int32) (x5 : Int32) (mr sr : Nat) (Q : ox_Q) : ox_Q := fun r_ T_ => ox_C E (some .boolean) lw_cx lw_cut Q 139 [some (.inr (.inr (x0))), some (.inr (.inr (x1))), some (.inr (.inr (x2))), some (.inr (.inr (x3))), some (.inl (x4)), some (.inl (x5)), none] (r_.toList ++ []) T_ mr sr
def k_238_143 (E : ox_E) (x0 : Nat) (x1 : Nat) (x2 : Nat) (x3 : Nat) (x4 : Int32) (x5 : Int32) (mr sr : Nat) (Q : ox_Q) : ox_Q := fun r_ T_ => ox_C E (some .boolean) lw_cx lw_cut Q 143 [some (.inr (.inr (x0))), some (.inr (.inr (x1))), some (.inr (.inr (x2))), some (.inr (.inr (x3))), some (.inl (x4)), some (.inl (x5)), none] (r_.toList ++ []) T_ mr sr
def k_238_157 (E : ox_E) (x0 : Nat) (x1 : Nat) (x2 : Nat) (x3 : Nat) (x4 : Int32) (mr sr : Nat) (Q : ox_Q) : ox_Q := fun r_ T_ => ox_C E (some .boolean) lw_cx lw_cut Q 157 [some (.inr (.inr (x0))), some (.inr (.inr (x1))), some (.inr (.inr (x2))), some (.inr (.inr (x3))), some (.inl (x4)), none, none] (r_.toList ++ []) T_ mr sr
def k_238_161 (E : ox_E) (x0 : Nat) (x1 : Nat) (x2 : Nat) (x3 : Nat) (x4 : Int32) (y1 : Int32) (mr sr : Nat) (Q : ox_Q) : ox_Q := fun r_ T_ => ox_C E (some .boolean) lw_cx lw_cut Q 161 [some (.inr (.inr (x0))), some (.inr (.inr (x1))), some (.inr (.inr (x2))), some (.inr (.inr (x3))), some (.inl (x4)), none, none] (r_.toList ++ [.inl (y1)]) T_ mr sr
def k_238_177 (E : ox_E) (x0 : Nat) (x1 : Nat) (x2 : Nat) (x3 : Nat) (x4 : Int32) (mr sr : Nat) (Q : ox_Q) : ox_Q := fun r_ T_ => ox_C E (some .boolean) lw_cx lw_cut Q 177 [some (.inr (.inr (x0))), some (.inr (.inr (x1))), some (.inr (.inr (x2))), some (.inr (.inr (x3))), some (.inl (x4)), none, none] (r_.toList ++ []) T_ mr sr
def k_238_189 (E : ox_E) (x0 : Nat) (x1 : Nat) (x2 : Nat) (x3 : Nat) (x4 : Int32) (x5 : Int32) (mr sr : Nat) (Q : ox_Q) : ox_Q := fun r_ T_ => ox_C E (some .boolean) lw_cx lw_cut Q 189 [some (.inr (.inr (x0))), some (.inr (.inr (x1))), some (.inr (.inr (x2))), some (.inr (.inr (x3))), some (.inl (x4)), some (.inl (x5)), none] (r_.toList ++ []) T_ mr sr
def k_238_195 (E : ox_E) (x0 : Nat) (x1 : Nat) (x2 : Nat) (x3 : Nat) (x4 : Int32) (x5 : Int32) (x6 : Int32) (mr sr : Nat) (Q : ox_Q) : ox_Q := fun r_ T_ => ox_C E (some .boolean) lw_cx lw_cut Q 195 [some (.inr (.inr (x0))), some (.inr (.inr (x1))), some (.inr (.inr (x2))), some (.inr (.inr (x3))), some (.inl (x4)), some (.inl (x5)), some (.inl (x6))] (r_.toList ++ []) T_ mr sr
def k_238_226 (E : ox_E) (x0 : Nat) (x1 : Nat) (x2 : Nat) (x3 : Nat) (x4 : Int32) (mr sr : Nat) (Q : ox_Q) : ox_Q := fun r_ T_ => ox_C E (some .boolean) lw_cx lw_cut Q 226 [some (.inr (.inr (x0))), some (.inr (.inr (x1))), some (.inr (.inr (x2))), some (.inr (.inr (x3))), some (.inl (x4)), none, none] (r_.toList ++ []) T_ mr sr
def k_238_230 (E : ox_E) (x0 : Nat) (x1 : Nat) (x2 : Nat) (x3 : Nat) (x4 : Int32) (y1 : Int32) (mr sr : Nat) (Q : ox_Q) : ox_Q := fun r_ T_ => ox_C E (some .boolean) lw_cx lw_cut Q 230 [some (.inr (.inr (x0))), some (.inr (.inr (x1))), some (.inr (.inr (x2))), some (.inr (.inr (x3))), some (.inl (x4)), none, none] (r_.toList ++ [.inl (y1)]) T_ mr sr
def k_238_245 (E : ox_E) (x0 : Nat) (x1 : Nat) (x2 : Nat) (x3 : Nat) (x4 : Int32) (mr sr : Nat) (Q : ox_Q) : ox_Q := fun r_ T_ => ox_C E (some .boolean) lw_cx lw_cut Q 245 [some (.inr (.inr (x0))), some (.inr (.inr (x1))), some (.inr (.inr (x2))), some (.inr (.inr (x3))), some (.inl (x4)), none, none] (r_.toList ++ []) T_ mr sr
def k_238_255 (E : ox_E) (x0 : Nat) (x1 : Nat) (x2 : Nat) (x3 : Nat) (x4 : Int32) (y1 : Int32) (mr sr : Nat) (Q : ox_Q) : ox_Q := fun r_ T_ => ox_C E (some .boolean) lw_cx lw_cut Q 255 [some (.inr (.inr (x0))), some (.inr (.inr (x1))), some (.inr (.inr (x2))), some (.inr (.inr (x3))), some (.inl (x4)), none, none] (r_.toList ++ [.inl (y1)]) T_ mr sr
def k_238_270 (E : ox_E) (x0 : Nat) (x1 : Nat) (x2 : Nat) (x3 : Nat) (x4 : Int32) (mr sr : Nat) (Q : ox_Q) : ox_Q := fun r_ T_ => ox_C E (some .boolean) lw_cx lw_cut Q 270 [some (.inr (.inr (x0))), some (.inr (.inr (x1))), some (.inr (.inr (x2))), some (.inr (.inr (x3))), some (.inl (x4)), none, none] (r_.toList ++ []) T_ mr sr
def k_238_280 (E : ox_E) (x0 : Nat) (x1 : Nat) (x2 : Nat) (x3 : Nat) (x4 : Int32) (y1 : Int32) (mr sr : Nat) (Q : ox_Q) : ox_Q := fun r_ T_ => ox_C E (some .boolean) lw_cx lw_cut Q 280 [some (.inr (.inr (x0))), some (.inr (.inr (x1))), some (.inr (.inr (x2))), some (.inr (.inr (x3))), some (.inl (x4)), none, none] (r_.toList ++ [.inl (y1)]) T_ mr sr
def k_238_301 (E : ox_E) (x0 : Nat) (x1 : Nat) (x2 : Nat) (x3 : Nat) (x4 : Int32) (mr sr : Nat) (Q : ox_Q) : ox_Q := fun r_ T_ => ox_C E (some .boolean) lw_cx lw_cut Q 301 [some (.inr (.inr (x0))), some (.inr (.inr (x1))), some (.inr (.inr (x2))), some (.inr (.inr (x3))), some (.inl (x4)), none, none] (r_.toList ++ []) T_ mr sr
def k_238_317 (E : ox_E) (x0 : Nat) (x1 : Nat) (x2 : Nat) (x3 : Nat) (x4 : Int32) (y1 : Int32) (mr sr : Nat) (Q : ox_Q) : ox_Q := fun r_ T_ => ox_C E (some .boolean) lw_cx lw_cut Q 317 [some (.inr (.inr (x0))), some (.inr (.inr (x1))), some (.inr (.inr (x2))), some (.inr (.inr (x3))), some (.inl (x4)), none, none] (r_.toList ++ [.inl (y1)]) T_ mr sr
def k_238_338 (E : ox_E) (x0 : Nat) (x1 : Nat) (x2 : Nat) (x3 : Nat) (x4 : Int32) (mr sr : Nat) (Q : ox_Q) : ox_Q := fun r_ T_ => ox_C E (some .boolean) lw_cx lw_cut Q 338 [some (.inr (.inr (x0))), some (.inr (.inr (x1))), some (.inr (.inr (x2))), some (.inr (.inr (x3))), some (.inl (x4)), none, none] (r_.toList ++ []) T_ mr sr
def k_238_354 (E : ox_E) (x0 : Nat) (x1 : Nat) (x2 : Nat) (x3 : Nat) (x4 : Int32) (y1 : Int32) (mr sr : Nat) (Q : ox_Q) : ox_Q := fun r_ T_ => ox_C E (some .boolean) lw_cx lw_cut Q 354 [some (.inr (.inr (x0))), some (.inr (.inr (x1))), some (.inr (.inr (x2))), some (.inr (.inr (x3))), some (.inl (x4)), none, none] (r_.toList ++ [.inl (y1)]) T_ mr sr
def k_238_391 (E : ox_E) (x0 : Nat) (x1 : Nat) (x2 : Nat) (x3 : Nat) (x4 : Int32) (mr sr : Nat) (Q : ox_Q) : ox_Q := fun r_ T_ => ox_C E (some .boolean) lw_cx lw_cut Q 391 [some (.inr (.inr (x0))), some (.inr (.inr (x1))), some (.inr (.inr (x2))), some (.inr (.inr (x3))), some (.inl (x4)), none, none] (r_.toList ++ []) T_ mr sr
def k_238_423 (E : ox_E) (x0 : Nat) (x1 : Nat) (x2 : Nat) (x3 : Nat) (x4 : Int32) (y1 : Int32) (mr sr : Nat) (Q : ox_Q) : ox_Q := fun r_ T_ => ox_C E (some .boolean) lw_cx lw_cut Q 423 [some (.inr (.inr (x0))), some (.inr (.inr (x1))), some (.inr (.inr (x2))), some (.inr (.inr (x3))), some (.inl (x4)), none, none] (r_.toList ++ [.inl (y1)]) T_ mr sr
set_option maxRecDepth 20000 in
def q_238_423 (E : ox_E) (x0 : Nat) (x1 : Nat) (x2 : Nat) (x3 : Nat) (x4 : Int32) (y0 : Int32) (y1 : Int32) (S : ox_St) (mr sr : Nat) (Q : ox_Q) : Prop :=
  ((y1 = y0 → c_238_23 E x0 x1 x2 x3 (x4 + 4) S mr sr Q) ∧ (¬ y1 = y0 → (((0 : Int32) = 0 ∨ (0 : Int32) = 1) ∧ Q (some (.inl (0 : Int32))) S)))
set_option maxRecDepth 20000 in
set_option maxHeartbeats 4000000 in
theorem f_238_423 {E : ox_E} (hE : ox_mono E) {mr sr : Nat} {x0 : Nat} {x1 : Nat} {x2 : Nat} {x3 : Nat} {x4 : Int32} {y0 : Int32} {y1 : Int32} {S : ox_St} {Q : ox_Q} (h : q_238_423 E x0 x1 x2 x3 x4 y0 y1 S mr sr Q) : k_238_423 E x0 x1 x2 x3 x4 y1 mr sr Q (some (.inl (y0))) S := ox_C_fold hE h
set_option maxRecDepth 20000 in
def q_238_391 (E : ox_E) (x0 : Nat) (x1 : Nat) (x2 : Nat) (x3 : Nat) (x4 : Int32) (y0 : Int32) (S : ox_St) (mr sr : Nat) (Q : ox_Q) : Prop :=
  (ox_rdI (S.K x0) = true ∧ vp_in (x4 + 1) (S.len x0) ∧ (ox_rdI (S.K x0) = true ∧ vp_in (x4 + 2) (S.len x0) ∧ (ox_rdI (S.K x0) = true ∧ vp_in (x4 + 3) (S.len x0) ∧ (3 ≤ 4 ∧ S.K x2 = 14 ∧ 1 ≤ 8 ∧ ∃ mc1 mk2, mc1 ≤ mr ∧ mk2 ≤ sr ∧ E 211 [.inr (.inr (x2)), .inr (.inl (((Int32.toInt64 (S.rI x0 (Int32.toNatClampNeg (x4 + 1)))) <<< (Int32.toInt64 32 &&& 63)) ||| ((Int32.toInt64 (S.rI x0 (Int32.toNatClampNeg (x4 + 2)))) &&& 4294967295))), .inl (S.rI x0 (Int32.toNatClampNeg (x4 + 3)))] mc1 mk2 S (k_238_423 E x0 x1 x2 x3 x4 y0 (mr - mc1) (sr - mk2) Q)))))
set_option maxRecDepth 20000 in
set_option maxHeartbeats 4000000 in
theorem f_238_391 {E : ox_E} (hE : ox_mono E) {mr sr : Nat} {x0 : Nat} {x1 : Nat} {x2 : Nat} {x3 : Nat} {x4 : Int32} {y0 : Int32} {S : ox_St} {Q : ox_Q} (h : q_238_391 E x0 x1 x2 x3 x4 y0 S mr sr Q) : k_238_391 E x0 x1 x2 x3 x4 mr sr Q (some (.inl (y0))) S := ox_C_fold hE h
set_option maxRecDepth 20000 in
def q_238_354 (E : ox_E) (x0 : Nat) (x1 : Nat) (x2 : Nat) (x3 : Nat) (x4 : Int32) (y0 : Int32) (y1 : Int32) (S : ox_St) (mr sr : Nat) (Q : ox_Q) : Prop :=
  ((y1 = y0 → c_238_23 E x0 x1 x2 x3 (x4 + 4) S mr sr Q) ∧ (¬ y1 = y0 → (((0 : Int32) = 0 ∨ (0 : Int32) = 1) ∧ Q (some (.inl (0 : Int32))) S)))
set_option maxRecDepth 20000 in
set_option maxHeartbeats 4000000 in
theorem f_238_354 {E : ox_E} (hE : ox_mono E) {mr sr : Nat} {x0 : Nat} {x1 : Nat} {x2 : Nat} {x3 : Nat} {x4 : Int32} {y0 : Int32} {y1 : Int32} {S : ox_St} {Q : ox_Q} (h : q_238_354 E x0 x1 x2 x3 x4 y0 y1 S mr sr Q) : k_238_354 E x0 x1 x2 x3 x4 y1 mr sr Q (some (.inl (y0))) S := ox_C_fold hE h
set_option maxRecDepth 20000 in
def q_238_338 (E : ox_E) (x0 : Nat) (x1 : Nat) (x2 : Nat) (x3 : Nat) (x4 : Int32) (y0 : Int32) (S : ox_St) (mr sr : Nat) (Q : ox_Q) : Prop :=
  (ox_rdI (S.K x0) = true ∧ vp_in (x4 + 1) (S.len x0) ∧ (ox_rdI (S.K x0) = true ∧ vp_in (x4 + 2) (S.len x0) ∧ (3 ≤ 4 ∧ S.K x2 = 14 ∧ 1 ≤ 8 ∧ ∃ mc1 mk2, mc1 ≤ mr ∧ mk2 ≤ sr ∧ E 210 [.inr (.inr (x2)), .inl (S.rI x0 (Int32.toNatClampNeg (x4 + 1))), .inl (S.rI x0 (Int32.toNatClampNeg (x4 + 2)))] mc1 mk2 S (k_238_354 E x0 x1 x2 x3 x4 y0 (mr - mc1) (sr - mk2) Q))))
set_option maxRecDepth 20000 in
set_option maxHeartbeats 4000000 in
theorem f_238_338 {E : ox_E} (hE : ox_mono E) {mr sr : Nat} {x0 : Nat} {x1 : Nat} {x2 : Nat} {x3 : Nat} {x4 : Int32} {y0 : Int32} {S : ox_St} {Q : ox_Q} (h : q_238_338 E x0 x1 x2 x3 x4 y0 S mr sr Q) : k_238_338 E x0 x1 x2 x3 x4 mr sr Q (some (.inl (y0))) S := ox_C_fold hE h
set_option maxRecDepth 20000 in
def q_238_317 (E : ox_E) (x0 : Nat) (x1 : Nat) (x2 : Nat) (x3 : Nat) (x4 : Int32) (y0 : Int32) (y1 : Int32) (S : ox_St) (mr sr : Nat) (Q : ox_Q) : Prop :=
  ((y1 = y0 → c_238_23 E x0 x1 x2 x3 (x4 + 4) S mr sr Q) ∧ (¬ y1 = y0 → (((0 : Int32) = 0 ∨ (0 : Int32) = 1) ∧ Q (some (.inl (0 : Int32))) S)))
set_option maxRecDepth 20000 in
set_option maxHeartbeats 4000000 in
theorem f_238_317 {E : ox_E} (hE : ox_mono E) {mr sr : Nat} {x0 : Nat} {x1 : Nat} {x2 : Nat} {x3 : Nat} {x4 : Int32} {y0 : Int32} {y1 : Int32} {S : ox_St} {Q : ox_Q} (h : q_238_317 E x0 x1 x2 x3 x4 y0 y1 S mr sr Q) : k_238_317 E x0 x1 x2 x3 x4 y1 mr sr Q (some (.inl (y0))) S := ox_C_fold hE h
set_option maxRecDepth 20000 in
def q_238_301 (E : ox_E) (x0 : Nat) (x1 : Nat) (x2 : Nat) (x3 : Nat) (x4 : Int32) (y0 : Int32) (S : ox_St) (mr sr : Nat) (Q : ox_Q) : Prop :=
  (ox_rdI (S.K x0) = true ∧ vp_in (x4 + 1) (S.len x0) ∧ (ox_rdI (S.K x0) = true ∧ vp_in (x4 + 2) (S.len x0) ∧ (3 ≤ 4 ∧ S.K x2 = 14 ∧ 1 ≤ 8 ∧ ∃ mc1 mk2, mc1 ≤ mr ∧ mk2 ≤ sr ∧ E 209 [.inr (.inr (x2)), .inl (S.rI x0 (Int32.toNatClampNeg (x4 + 1))), .inl (S.rI x0 (Int32.toNatClampNeg (x4 + 2)))] mc1 mk2 S (k_238_317 E x0 x1 x2 x3 x4 y0 (mr - mc1) (sr - mk2) Q))))
set_option maxRecDepth 20000 in
set_option maxHeartbeats 4000000 in
theorem f_238_301 {E : ox_E} (hE : ox_mono E) {mr sr : Nat} {x0 : Nat} {x1 : Nat} {x2 : Nat} {x3 : Nat} {x4 : Int32} {y0 : Int32} {S : ox_St} {Q : ox_Q} (h : q_238_301 E x0 x1 x2 x3 x4 y0 S mr sr Q) : k_238_301 E x0 x1 x2 x3 x4 mr sr Q (some (.inl (y0))) S := ox_C_fold hE h
set_option maxRecDepth 20000 in
def q_238_280 (E : ox_E) (x0 : Nat) (x1 : Nat) (x2 : Nat) (x3 : Nat) (x4 : Int32) (y0 : Int32) (y1 : Int32) (S : ox_St) (mr sr : Nat) (Q : ox_Q) : Prop :=
  ((y1 = y0 → c_238_23 E x0 x1 x2 x3 (x4 + 4) S mr sr Q) ∧ (¬ y1 = y0 → (((0 : Int32) = 0 ∨ (0 : Int32) = 1) ∧ Q (some (.inl (0 : Int32))) S)))
set_option maxRecDepth 20000 in
set_option maxHeartbeats 4000000 in
theorem f_238_280 {E : ox_E} (hE : ox_mono E) {mr sr : Nat} {x0 : Nat} {x1 : Nat} {x2 : Nat} {x3 : Nat} {x4 : Int32} {y0 : Int32} {y1 : Int32} {S : ox_St} {Q : ox_Q} (h : q_238_280 E x0 x1 x2 x3 x4 y0 y1 S mr sr Q) : k_238_280 E x0 x1 x2 x3 x4 y1 mr sr Q (some (.inl (y0))) S := ox_C_fold hE h
set_option maxRecDepth 20000 in
def q_238_270 (E : ox_E) (x0 : Nat) (x1 : Nat) (x2 : Nat) (x3 : Nat) (x4 : Int32) (y0 : Int32) (S : ox_St) (mr sr : Nat) (Q : ox_Q) : Prop :=
  (ox_rdI (S.K x0) = true ∧ vp_in (x4 + 1) (S.len x0) ∧ (2 ≤ 3 ∧ S.K x2 = 14 ∧ 1 ≤ 8 ∧ ∃ mc1 mk2, mc1 ≤ mr ∧ mk2 ≤ sr ∧ E 208 [.inr (.inr (x2)), .inl (S.rI x0 (Int32.toNatClampNeg (x4 + 1)))] mc1 mk2 S (k_238_280 E x0 x1 x2 x3 x4 y0 (mr - mc1) (sr - mk2) Q)))
set_option maxRecDepth 20000 in
set_option maxHeartbeats 4000000 in
theorem f_238_270 {E : ox_E} (hE : ox_mono E) {mr sr : Nat} {x0 : Nat} {x1 : Nat} {x2 : Nat} {x3 : Nat} {x4 : Int32} {y0 : Int32} {S : ox_St} {Q : ox_Q} (h : q_238_270 E x0 x1 x2 x3 x4 y0 S mr sr Q) : k_238_270 E x0 x1 x2 x3 x4 mr sr Q (some (.inl (y0))) S := ox_C_fold hE h
set_option maxRecDepth 20000 in
def q_238_255 (E : ox_E) (x0 : Nat) (x1 : Nat) (x2 : Nat) (x3 : Nat) (x4 : Int32) (y0 : Int32) (y1 : Int32) (S : ox_St) (mr sr : Nat) (Q : ox_Q) : Prop :=
  ((y1 = y0 → c_238_23 E x0 x1 x2 x3 (x4 + 4) S mr sr Q) ∧ (¬ y1 = y0 → (((0 : Int32) = 0 ∨ (0 : Int32) = 1) ∧ Q (some (.inl (0 : Int32))) S)))
set_option maxRecDepth 20000 in
set_option maxHeartbeats 4000000 in
theorem f_238_255 {E : ox_E} (hE : ox_mono E) {mr sr : Nat} {x0 : Nat} {x1 : Nat} {x2 : Nat} {x3 : Nat} {x4 : Int32} {y0 : Int32} {y1 : Int32} {S : ox_St} {Q : ox_Q} (h : q_238_255 E x0 x1 x2 x3 x4 y0 y1 S mr sr Q) : k_238_255 E x0 x1 x2 x3 x4 y1 mr sr Q (some (.inl (y0))) S := ox_C_fold hE h
set_option maxRecDepth 20000 in
def q_238_245 (E : ox_E) (x0 : Nat) (x1 : Nat) (x2 : Nat) (x3 : Nat) (x4 : Int32) (y0 : Int32) (S : ox_St) (mr sr : Nat) (Q : ox_Q) : Prop :=
  (ox_rdI (S.K x0) = true ∧ vp_in (x4 + 1) (S.len x0) ∧ (2 ≤ 3 ∧ S.K x2 = 14 ∧ 1 ≤ 8 ∧ ∃ mc1 mk2, mc1 ≤ mr ∧ mk2 ≤ sr ∧ E 205 [.inr (.inr (x2)), .inl (S.rI x0 (Int32.toNatClampNeg (x4 + 1)))] mc1 mk2 S (k_238_255 E x0 x1 x2 x3 x4 y0 (mr - mc1) (sr - mk2) Q)))
set_option maxRecDepth 20000 in
set_option maxHeartbeats 4000000 in
theorem f_238_245 {E : ox_E} (hE : ox_mono E) {mr sr : Nat} {x0 : Nat} {x1 : Nat} {x2 : Nat} {x3 : Nat} {x4 : Int32} {y0 : Int32} {S : ox_St} {Q : ox_Q} (h : q_238_245 E x0 x1 x2 x3 x4 y0 S mr sr Q) : k_238_245 E x0 x1 x2 x3 x4 mr sr Q (some (.inl (y0))) S := ox_C_fold hE h
set_option maxRecDepth 20000 in
def q_238_230 (E : ox_E) (x0 : Nat) (x1 : Nat) (x2 : Nat) (x3 : Nat) (x4 : Int32) (y0 : Int32) (y1 : Int32) (S : ox_St) (mr sr : Nat) (Q : ox_Q) : Prop :=
  ((y1 = y0 → c_238_23 E x0 x1 x2 x3 (x4 + 4) S mr sr Q) ∧ (¬ y1 = y0 → (((0 : Int32) = 0 ∨ (0 : Int32) = 1) ∧ Q (some (.inl (0 : Int32))) S)))
set_option maxRecDepth 20000 in
set_option maxHeartbeats 4000000 in
theorem f_238_230 {E : ox_E} (hE : ox_mono E) {mr sr : Nat} {x0 : Nat} {x1 : Nat} {x2 : Nat} {x3 : Nat} {x4 : Int32} {y0 : Int32} {y1 : Int32} {S : ox_St} {Q : ox_Q} (h : q_238_230 E x0 x1 x2 x3 x4 y0 y1 S mr sr Q) : k_238_230 E x0 x1 x2 x3 x4 y1 mr sr Q (some (.inl (y0))) S := ox_C_fold hE h
set_option maxRecDepth 20000 in
def q_238_226 (E : ox_E) (x0 : Nat) (x1 : Nat) (x2 : Nat) (x3 : Nat) (x4 : Int32) (y0 : Int32) (S : ox_St) (mr sr : Nat) (Q : ox_Q) : Prop :=
  (1 ≤ 2 ∧ S.K x2 = 14 ∧ 1 ≤ 8 ∧ ∃ mc1 mk2, mc1 ≤ mr ∧ mk2 ≤ sr ∧ E 173 [.inr (.inr (x2))] mc1 mk2 S (k_238_230 E x0 x1 x2 x3 x4 y0 (mr - mc1) (sr - mk2) Q))
set_option maxRecDepth 20000 in
set_option maxHeartbeats 4000000 in
theorem f_238_226 {E : ox_E} (hE : ox_mono E) {mr sr : Nat} {x0 : Nat} {x1 : Nat} {x2 : Nat} {x3 : Nat} {x4 : Int32} {y0 : Int32} {S : ox_St} {Q : ox_Q} (h : q_238_226 E x0 x1 x2 x3 x4 y0 S mr sr Q) : k_238_226 E x0 x1 x2 x3 x4 mr sr Q (some (.inl (y0))) S := ox_C_fold hE h
set_option maxRecDepth 20000 in
def q_238_195 (E : ox_E) (x0 : Nat) (x1 : Nat) (x2 : Nat) (x3 : Nat) (x4 : Int32) (x5 : Int32) (x6 : Int32) (y0 : Int32) (S : ox_St) (mr sr : Nat) (Q : ox_Q) : Prop :=
  ((y0 = x5 → ((¬ x5 = 0 → c_238_23 E x0 x1 x2 x3 (x4 + 4) S mr sr Q) ∧ (x5 = 0 → (ox_rdJ (S.K x3) = true ∧ vp_in 0 (S.len x3) ∧ (((lg_cmp (S.rJ x3 (Int32.toNatClampNeg 0)) (Int32.toInt64 x6)) = 0 → c_238_23 E x0 x1 x2 x3 (x4 + 4) S mr sr Q) ∧ (¬ (lg_cmp (S.rJ x3 (Int32.toNatClampNeg 0)) (Int32.toInt64 x6)) = 0 → (((0 : Int32) = 0 ∨ (0 : Int32) = 1) ∧ Q (some (.inl (0 : Int32))) S))))))) ∧ (¬ y0 = x5 → (((0 : Int32) = 0 ∨ (0 : Int32) = 1) ∧ Q (some (.inl (0 : Int32))) S)))
set_option maxRecDepth 20000 in
set_option maxHeartbeats 4000000 in
theorem f_238_195 {E : ox_E} (hE : ox_mono E) {mr sr : Nat} {x0 : Nat} {x1 : Nat} {x2 : Nat} {x3 : Nat} {x4 : Int32} {x5 : Int32} {x6 : Int32} {y0 : Int32} {S : ox_St} {Q : ox_Q} (h : q_238_195 E x0 x1 x2 x3 x4 x5 x6 y0 S mr sr Q) : k_238_195 E x0 x1 x2 x3 x4 x5 x6 mr sr Q (some (.inl (y0))) S := ox_C_fold hE h
set_option maxRecDepth 20000 in
def q_238_189 (E : ox_E) (x0 : Nat) (x1 : Nat) (x2 : Nat) (x3 : Nat) (x4 : Int32) (x5 : Int32) (y0 : Int32) (S : ox_St) (mr sr : Nat) (Q : ox_Q) : Prop :=
  (1 ≤ 1 ∧ S.K x2 = 14 ∧ 0 ≤ 8 ∧ ∃ mc1 mk2, mc1 ≤ mr ∧ mk2 ≤ sr ∧ E 127 [.inr (.inr (x2))] mc1 mk2 S (k_238_195 E x0 x1 x2 x3 x4 x5 y0 (mr - mc1) (sr - mk2) Q))
set_option maxRecDepth 20000 in
set_option maxHeartbeats 4000000 in
theorem f_238_189 {E : ox_E} (hE : ox_mono E) {mr sr : Nat} {x0 : Nat} {x1 : Nat} {x2 : Nat} {x3 : Nat} {x4 : Int32} {x5 : Int32} {y0 : Int32} {S : ox_St} {Q : ox_Q} (h : q_238_189 E x0 x1 x2 x3 x4 x5 y0 S mr sr Q) : k_238_189 E x0 x1 x2 x3 x4 x5 mr sr Q (some (.inl (y0))) S := ox_C_fold hE h
set_option maxRecDepth 20000 in
def q_238_177 (E : ox_E) (x0 : Nat) (x1 : Nat) (x2 : Nat) (x3 : Nat) (x4 : Int32) (y0 : Int32) (S : ox_St) (mr sr : Nat) (Q : ox_Q) : Prop :=
  (ox_rdI (S.K x0) = true ∧ vp_in (x4 + 1) (S.len x0) ∧ (2 ≤ 2 ∧ S.K x2 = 14 ∧ 0 ≤ 8 ∧ ∃ mc1 mk2, mc1 ≤ mr ∧ mk2 ≤ sr ∧ E 204 [.inr (.inr (x2)), .inl (S.rI x0 (Int32.toNatClampNeg (x4 + 1)))] mc1 mk2 S (k_238_189 E x0 x1 x2 x3 x4 y0 (mr - mc1) (sr - mk2) Q)))
set_option maxRecDepth 20000 in
set_option maxHeartbeats 4000000 in
theorem f_238_177 {E : ox_E} (hE : ox_mono E) {mr sr : Nat} {x0 : Nat} {x1 : Nat} {x2 : Nat} {x3 : Nat} {x4 : Int32} {y0 : Int32} {S : ox_St} {Q : ox_Q} (h : q_238_177 E x0 x1 x2 x3 x4 y0 S mr sr Q) : k_238_177 E x0 x1 x2 x3 x4 mr sr Q (some (.inl (y0))) S := ox_C_fold hE h
set_option maxRecDepth 20000 in
def q_238_161 (E : ox_E) (x0 : Nat) (x1 : Nat) (x2 : Nat) (x3 : Nat) (x4 : Int32) (y0 : Int32) (y1 : Int32) (S : ox_St) (mr sr : Nat) (Q : ox_Q) : Prop :=
  ((y1 = y0 → c_238_23 E x0 x1 x2 x3 (x4 + 4) S mr sr Q) ∧ (¬ y1 = y0 → (((0 : Int32) = 0 ∨ (0 : Int32) = 1) ∧ Q (some (.inl (0 : Int32))) S)))
set_option maxRecDepth 20000 in
set_option maxHeartbeats 4000000 in
theorem f_238_161 {E : ox_E} (hE : ox_mono E) {mr sr : Nat} {x0 : Nat} {x1 : Nat} {x2 : Nat} {x3 : Nat} {x4 : Int32} {y0 : Int32} {y1 : Int32} {S : ox_St} {Q : ox_Q} (h : q_238_161 E x0 x1 x2 x3 x4 y0 y1 S mr sr Q) : k_238_161 E x0 x1 x2 x3 x4 y1 mr sr Q (some (.inl (y0))) S := ox_C_fold hE h
set_option maxRecDepth 20000 in
def q_238_157 (E : ox_E) (x0 : Nat) (x1 : Nat) (x2 : Nat) (x3 : Nat) (x4 : Int32) (y0 : Int32) (S : ox_St) (mr sr : Nat) (Q : ox_Q) : Prop :=
  (1 ≤ 2 ∧ S.K x2 = 14 ∧ 1 ≤ 8 ∧ ∃ mc1 mk2, mc1 ≤ mr ∧ mk2 ≤ sr ∧ E 162 [.inr (.inr (x2))] mc1 mk2 S (k_238_161 E x0 x1 x2 x3 x4 y0 (mr - mc1) (sr - mk2) Q))
set_option maxRecDepth 20000 in
set_option maxHeartbeats 4000000 in
theorem f_238_157 {E : ox_E} (hE : ox_mono E) {mr sr : Nat} {x0 : Nat} {x1 : Nat} {x2 : Nat} {x3 : Nat} {x4 : Int32} {y0 : Int32} {S : ox_St} {Q : ox_Q} (h : q_238_157 E x0 x1 x2 x3 x4 y0 S mr sr Q) : k_238_157 E x0 x1 x2 x3 x4 mr sr Q (some (.inl (y0))) S := ox_C_fold hE h
set_option maxRecDepth 20000 in
def q_238_143 (E : ox_E) (x0 : Nat) (x1 : Nat) (x2 : Nat) (x3 : Nat) (x4 : Int32) (x5 : Int32) (y0 : Int32) (S : ox_St) (mr sr : Nat) (Q : ox_Q) : Prop :=
  ((y0 = x5 → c_238_23 E x0 x1 x2 x3 (x4 + 4) S mr sr Q) ∧ (¬ y0 = x5 → (((0 : Int32) = 0 ∨ (0 : Int32) = 1) ∧ Q (some (.inl (0 : Int32))) S)))
set_option maxRecDepth 20000 in
set_option maxHeartbeats 4000000 in
theorem f_238_143 {E : ox_E} (hE : ox_mono E) {mr sr : Nat} {x0 : Nat} {x1 : Nat} {x2 : Nat} {x3 : Nat} {x4 : Int32} {x5 : Int32} {y0 : Int32} {S : ox_St} {Q : ox_Q} (h : q_238_143 E x0 x1 x2 x3 x4 x5 y0 S mr sr Q) : k_238_143 E x0 x1 x2 x3 x4 x5 mr sr Q (some (.inl (y0))) S := ox_C_fold hE h
set_option maxRecDepth 20000 in
def q_238_139 (E : ox_E) (x0 : Nat) (x1 : Nat) (x2 : Nat) (x3 : Nat) (x4 : Int32) (x5 : Int32) (S : ox_St) (mr sr : Nat) (Q : ox_Q) : Prop :=
  (1 ≤ 1 ∧ S.K x2 = 14 ∧ 0 ≤ 8 ∧ ∃ mc1 mk2, mc1 ≤ mr ∧ mk2 ≤ sr ∧ E 127 [.inr (.inr (x2))] mc1 mk2 S (k_238_143 E x0 x1 x2 x3 x4 x5 (mr - mc1) (sr - mk2) Q))
set_option maxRecDepth 20000 in
set_option maxHeartbeats 4000000 in
theorem f_238_139 {E : ox_E} (hE : ox_mono E) {mr sr : Nat} {x0 : Nat} {x1 : Nat} {x2 : Nat} {x3 : Nat} {x4 : Int32} {x5 : Int32} {S : ox_St} {Q : ox_Q} (h : q_238_139 E x0 x1 x2 x3 x4 x5 S mr sr Q) : k_238_139 E x0 x1 x2 x3 x4 x5 mr sr Q none S := ox_C_fold hE h
set_option maxRecDepth 20000 in
def q_238_133 (E : ox_E) (x0 : Nat) (x1 : Nat) (x2 : Nat) (x3 : Nat) (x4 : Int32) (y0 : Int32) (S : ox_St) (mr sr : Nat) (Q : ox_Q) : Prop :=
  (1 ≤ 1 ∧ S.K x2 = 14 ∧ 0 ≤ 8 ∧ ∃ mc1 mk2, mc1 ≤ mr ∧ mk2 ≤ sr ∧ E 161 [.inr (.inr (x2))] mc1 mk2 S (k_238_139 E x0 x1 x2 x3 x4 y0 (mr - mc1) (sr - mk2) Q))
set_option maxRecDepth 20000 in
set_option maxHeartbeats 4000000 in
theorem f_238_133 {E : ox_E} (hE : ox_mono E) {mr sr : Nat} {x0 : Nat} {x1 : Nat} {x2 : Nat} {x3 : Nat} {x4 : Int32} {y0 : Int32} {S : ox_St} {Q : ox_Q} (h : q_238_133 E x0 x1 x2 x3 x4 y0 S mr sr Q) : k_238_133 E x0 x1 x2 x3 x4 mr sr Q (some (.inl (y0))) S := ox_C_fold hE h
set_option maxRecDepth 20000 in
def q_238_124 (E : ox_E) (x0 : Nat) (x1 : Nat) (x2 : Nat) (x3 : Nat) (x4 : Int32) (y0 : Int32) (y1 : Int32) (S : ox_St) (mr sr : Nat) (Q : ox_Q) : Prop :=
  ((y1 = y0 → c_238_23 E x0 x1 x2 x3 (x4 + 4) S mr sr Q) ∧ (¬ y1 = y0 → (((0 : Int32) = 0 ∨ (0 : Int32) = 1) ∧ Q (some (.inl (0 : Int32))) S)))
set_option maxRecDepth 20000 in
set_option maxHeartbeats 4000000 in
theorem f_238_124 {E : ox_E} (hE : ox_mono E) {mr sr : Nat} {x0 : Nat} {x1 : Nat} {x2 : Nat} {x3 : Nat} {x4 : Int32} {y0 : Int32} {y1 : Int32} {S : ox_St} {Q : ox_Q} (h : q_238_124 E x0 x1 x2 x3 x4 y0 y1 S mr sr Q) : k_238_124 E x0 x1 x2 x3 x4 y1 mr sr Q (some (.inl (y0))) S := ox_C_fold hE h
set_option maxRecDepth 20000 in
def q_238_108 (E : ox_E) (x0 : Nat) (x1 : Nat) (x2 : Nat) (x3 : Nat) (x4 : Int32) (y0 : Int32) (S : ox_St) (mr sr : Nat) (Q : ox_Q) : Prop :=
  (ox_rdI (S.K x0) = true ∧ vp_in (x4 + 1) (S.len x0) ∧ (ox_rdI (S.K x0) = true ∧ vp_in (x4 + 2) (S.len x0) ∧ (3 ≤ 4 ∧ S.K x2 = 14 ∧ 1 ≤ 8 ∧ ∃ mc1 mk2, mc1 ≤ mr ∧ mk2 ≤ sr ∧ E 128 [.inr (.inr (x2)), .inl (S.rI x0 (Int32.toNatClampNeg (x4 + 1))), .inl (S.rI x0 (Int32.toNatClampNeg (x4 + 2)))] mc1 mk2 S (k_238_124 E x0 x1 x2 x3 x4 y0 (mr - mc1) (sr - mk2) Q))))
set_option maxRecDepth 20000 in
set_option maxHeartbeats 4000000 in
theorem f_238_108 {E : ox_E} (hE : ox_mono E) {mr sr : Nat} {x0 : Nat} {x1 : Nat} {x2 : Nat} {x3 : Nat} {x4 : Int32} {y0 : Int32} {S : ox_St} {Q : ox_Q} (h : q_238_108 E x0 x1 x2 x3 x4 y0 S mr sr Q) : k_238_108 E x0 x1 x2 x3 x4 mr sr Q (some (.inl (y0))) S := ox_C_fold hE h
set_option maxRecDepth 20000 in
def q_238_23 (E : ox_E) (x0 : Nat) (x1 : Nat) (x2 : Nat) (x3 : Nat) (x4 : Int32) (S : ox_St) (mr sr : Nat) (Q : ox_Q) : Prop :=
  (ox_rdL (S.K x0) = true ∧ ((((Int32.ofNat (S.len x0)) - 4) < x4 → (((1 : Int32) = 0 ∨ (1 : Int32) = 1) ∧ Q (some (.inl (1 : Int32))) S)) ∧ (¬ ((Int32.ofNat (S.len x0)) - 4) < x4 → (ox_rdI (S.K x0) = true ∧ vp_in x4 (S.len x0) ∧ ((Int32.toInt ((S.rI x0 (Int32.toNatClampNeg x4)) &&& 15) = 0 → (ox_rdI (S.K x0) = true ∧ vp_in (x4 + 1) (S.len x0) ∧ (ox_rdI (S.K x0) = true ∧ vp_in (x4 + 2) (S.len x0) ∧ (3 ≤ 3 ∧ S.K x1 = 13 ∧ 0 ≤ 8 ∧ ∃ mc19 mk20, mc19 ≤ mr ∧ mk20 ≤ sr ∧ E 95 [.inr (.inr (x1)), .inl (S.rI x0 (Int32.toNatClampNeg (x4 + 1))), .inl (S.rI x0 (Int32.toNatClampNeg (x4 + 2)))] mc19 mk20 S (k_238_108 E x0 x1 x2 x3 x4 (mr - mc19) (sr - mk20) Q))))) ∧ (¬ Int32.toInt ((S.rI x0 (Int32.toNatClampNeg x4)) &&& 15) = 0 → ((Int32.toInt ((S.rI x0 (Int32.toNatClampNeg x4)) &&& 15) = 1 → (1 ≤ 1 ∧ 0 ≤ 8 ∧ ∃ mc17 mk18, mc17 ≤ mr ∧ mk18 ≤ sr ∧ E 236 [.inr (.inr (x1))] mc17 mk18 S (k_238_133 E x0 x1 x2 x3 x4 (mr - mc17) (sr - mk18) Q))) ∧ (¬ Int32.toInt ((S.rI x0 (Int32.toNatClampNeg x4)) &&& 15) = 1 → ((Int32.toInt ((S.rI x0 (Int32.toNatClampNeg x4)) &&& 15) = 2 → (1 ≤ 1 ∧ S.K x1 = 13 ∧ 0 ≤ 8 ∧ ∃ mc15 mk16, mc15 ≤ mr ∧ mk16 ≤ sr ∧ E 97 [.inr (.inr (x1))] mc15 mk16 S (k_238_157 E x0 x1 x2 x3 x4 (mr - mc15) (sr - mk16) Q))) ∧ (¬ Int32.toInt ((S.rI x0 (Int32.toNatClampNeg x4)) &&& 15) = 2 → ((Int32.toInt ((S.rI x0 (Int32.toNatClampNeg x4)) &&& 15) = 3 → (ox_rdI (S.K x0) = true ∧ vp_in (x4 + 1) (S.len x0) ∧ (3 ≤ 3 ∧ 0 ≤ 8 ∧ ∃ mc13 mk14, mc13 ≤ mr ∧ mk14 ≤ sr ∧ E 237 [.inr (.inr (x1)), .inl (S.rI x0 (Int32.toNatClampNeg (x4 + 1))), .inr (.inr (x3))] mc13 mk14 S (k_238_177 E x0 x1 x2 x3 x4 (mr - mc13) (sr - mk14) Q)))) ∧ (¬ Int32.toInt ((S.rI x0 (Int32.toNatClampNeg x4)) &&& 15) = 3 → ((Int32.toInt ((S.rI x0 (Int32.toNatClampNeg x4)) &&& 15) = 4 → (1 ≤ 1 ∧ S.K x1 = 13 ∧ 0 ≤ 8 ∧ ∃ mc11 mk12, mc11 ≤ mr ∧ mk12 ≤ sr ∧ E 99 [.inr (.inr (x1))] mc11 mk12 S (k_238_226 E x0 x1 x2 x3 x4 (mr - mc11) (sr - mk12) Q))) ∧ (¬ Int32.toInt ((S.rI x0 (Int32.toNatClampNeg x4)) &&& 15) = 4 → ((Int32.toInt ((S.rI x0 (Int32.toNatClampNeg x4)) &&& 15) = 5 → (ox_rdI (S.K x0) = true ∧ vp_in (x4 + 1) (S.len x0) ∧ (2 ≤ 2 ∧ S.K x1 = 13 ∧ 0 ≤ 8 ∧ ∃ mc9 mk10, mc9 ≤ mr ∧ mk10 ≤ sr ∧ E 100 [.inr (.inr (x1)), .inl (S.rI x0 (Int32.toNatClampNeg (x4 + 1)))] mc9 mk10 S (k_238_245 E x0 x1 x2 x3 x4 (mr - mc9) (sr - mk10) Q)))) ∧ (¬ Int32.toInt ((S.rI x0 (Int32.toNatClampNeg x4)) &&& 15) = 5 → ((Int32.toInt ((S.rI x0 (Int32.toNatClampNeg x4)) &&& 15) = 6 → (ox_rdI (S.K x0) = true ∧ vp_in (x4 + 1) (S.len x0) ∧ (2 ≤ 2 ∧ S.K x1 = 13 ∧ 0 ≤ 8 ∧ ∃ mc7 mk8, mc7 ≤ mr ∧ mk8 ≤ sr ∧ E 101 [.inr (.inr (x1)), .inl (S.rI x0 (Int32.toNatClampNeg (x4 + 1)))] mc7 mk8 S (k_238_270 E x0 x1 x2 x3 x4 (mr - mc7) (sr - mk8) Q)))) ∧ (¬ Int32.toInt ((S.rI x0 (Int32.toNatClampNeg x4)) &&& 15) = 6 → ((Int32.toInt ((S.rI x0 (Int32.toNatClampNeg x4)) &&& 15) = 7 → (ox_rdI (S.K x0) = true ∧ vp_in (x4 + 1) (S.len x0) ∧ (ox_rdI (S.K x0) = true ∧ vp_in (x4 + 2) (S.len x0) ∧ (3 ≤ 3 ∧ S.K x1 = 13 ∧ 0 ≤ 8 ∧ ∃ mc5 mk6, mc5 ≤ mr ∧ mk6 ≤ sr ∧ E 102 [.inr (.inr (x1)), .inl (S.rI x0 (Int32.toNatClampNeg (x4 + 1))), .inl (S.rI x0 (Int32.toNatClampNeg (x4 + 2)))] mc5 mk6 S (k_238_301 E x0 x1 x2 x3 x4 (mr - mc5) (sr - mk6) Q))))) ∧ (¬ Int32.toInt ((S.rI x0 (Int32.toNatClampNeg x4)) &&& 15) = 7 → ((Int32.toInt ((S.rI x0 (Int32.toNatClampNeg x4)) &&& 15) = 8 → (ox_rdI (S.K x0) = true ∧ vp_in (x4 + 1) (S.len x0) ∧ (ox_rdI (S.K x0) = true ∧ vp_in (x4 + 2) (S.len x0) ∧ (3 ≤ 3 ∧ S.K x1 = 13 ∧ 0 ≤ 8 ∧ ∃ mc3 mk4, mc3 ≤ mr ∧ mk4 ≤ sr ∧ E 103 [.inr (.inr (x1)), .inl (S.rI x0 (Int32.toNatClampNeg (x4 + 1))), .inl (S.rI x0 (Int32.toNatClampNeg (x4 + 2)))] mc3 mk4 S (k_238_338 E x0 x1 x2 x3 x4 (mr - mc3) (sr - mk4) Q))))) ∧ (¬ Int32.toInt ((S.rI x0 (Int32.toNatClampNeg x4)) &&& 15) = 8 → ((Int32.toInt ((S.rI x0 (Int32.toNatClampNeg x4)) &&& 15) = 9 → (ox_rdI (S.K x0) = true ∧ vp_in (x4 + 1) (S.len x0) ∧ (ox_rdI (S.K x0) = true ∧ vp_in (x4 + 2) (S.len x0) ∧ (ox_rdI (S.K x0) = true ∧ vp_in (x4 + 3) (S.len x0) ∧ (3 ≤ 3 ∧ S.K x1 = 13 ∧ 0 ≤ 8 ∧ ∃ mc1 mk2, mc1 ≤ mr ∧ mk2 ≤ sr ∧ E 104 [.inr (.inr (x1)), .inr (.inl (((Int32.toInt64 (S.rI x0 (Int32.toNatClampNeg (x4 + 1)))) <<< (Int32.toInt64 32 &&& 63)) ||| ((Int32.toInt64 (S.rI x0 (Int32.toNatClampNeg (x4 + 2)))) &&& 4294967295))), .inl (S.rI x0 (Int32.toNatClampNeg (x4 + 3)))] mc1 mk2 S (k_238_391 E x0 x1 x2 x3 x4 (mr - mc1) (sr - mk2) Q)))))) ∧ (¬ Int32.toInt ((S.rI x0 (Int32.toNatClampNeg x4)) &&& 15) = 9 → c_238_23 E x0 x1 x2 x3 (x4 + 4) S mr sr Q))))))))))))))))))))))))
set_option maxRecDepth 20000 in
set_option maxHeartbeats 4000000 in
theorem f_238_23 {E : ox_E} (hE : ox_mono E) {mr sr : Nat} {x0 : Nat} {x1 : Nat} {x2 : Nat} {x3 : Nat} {x4 : Int32} {S : ox_St} {Q : ox_Q} (h : q_238_23 E x0 x1 x2 x3 x4 S mr sr Q) : c_238_23 E x0 x1 x2 x3 x4 S mr sr Q := ox_C_fold hE h
set_option maxRecDepth 20000 in
def q_238_15 (E : ox_E) (x0 : Nat) (x1 : Nat) (y0 : Nat) (S : ox_St) (mr sr : Nat) (Q : ox_Q) : Prop :=
  (¬ (1 : Int32) < 0 ∧ (Int32.toNatClampNeg (1 : Int32)) ≤ 67108864 ∧ 1 ≤ mr ∧ (Int32.toNatClampNeg (1 : Int32)) ≤ sr ∧ (let S1 := S.newA 16 (Int32.toNatClampNeg (1 : Int32))
  c_238_23 E x0 x1 y0 S.n 0 S1 (mr - 1) (sr - (Int32.toNatClampNeg (1 : Int32))) Q))
set_option maxRecDepth 20000 in
set_option maxHeartbeats 4000000 in
theorem f_238_15 {E : ox_E} (hE : ox_mono E) {mr sr : Nat} {x0 : Nat} {x1 : Nat} {y0 : Nat} {S : ox_St} {Q : ox_Q} (h : q_238_15 E x0 x1 y0 S mr sr Q) : k_238_15 E x0 x1 y0 mr sr Q none S := ox_C_fold hE h
set_option maxRecDepth 20000 in
def q_238_7 (E : ox_E) (x0 : Nat) (y0 : Nat) (S : ox_St) (mr sr : Nat) (Q : ox_Q) : Prop :=
  (1 ≤ mr ∧ 73 ≤ sr ∧ (let S1 := S.newO 14
  (1 ≤ 2 ∧ S.n ≠ 0 ∧ 1 ≤ 8 ∧ ∃ mc2 mk3, mc2 ≤ (mr - 1) ∧ mk3 ≤ (sr - 73) ∧ E 126 [.inr (.inr (S.n))] mc2 mk3 S1 (k_238_15 E x0 y0 S.n ((mr - 1) - mc2) ((sr - 73) - mk3) Q))))
set_option maxRecDepth 20000 in
set_option maxHeartbeats 4000000 in
theorem f_238_7 {E : ox_E} (hE : ox_mono E) {mr sr : Nat} {x0 : Nat} {y0 : Nat} {S : ox_St} {Q : ox_Q} (h : q_238_7 E x0 y0 S mr sr Q) : k_238_7 E x0 y0 mr sr Q none S := ox_C_fold hE h
set_option maxRecDepth 20000 in
def q_238 (E : ox_E) (x0 : Nat) (S : ox_St) (mr sr : Nat) (Q : ox_Q) : Prop :=
  (1 ≤ mr ∧ 9 ≤ sr ∧ (let S1 := S.newO 13
  (1 ≤ 2 ∧ S.n ≠ 0 ∧ 1 ≤ 8 ∧ ∃ mc2 mk3, mc2 ≤ (mr - 1) ∧ mk3 ≤ (sr - 9) ∧ E 94 [.inr (.inr (S.n))] mc2 mk3 S1 (k_238_7 E x0 S.n ((mr - 1) - mc2) ((sr - 9) - mk3) Q))))
set_option maxRecDepth 20000 in
set_option maxHeartbeats 4000000 in
theorem f_238 {E : ox_E} (hE : ox_mono E) {mr sr : Nat} {x0 : Nat} {S : ox_St} {Q : ox_Q} (h : q_238 E x0 S mr sr Q) : ox_C E (some .boolean) lw_cx lw_cut Q 0 (ox_loc 7 [.inr (.inr x0)]) [] S mr sr := ox_C_fold hE h
