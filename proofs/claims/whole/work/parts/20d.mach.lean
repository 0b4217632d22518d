/-! OpcodeFrames$Machine.item(LOpcodeFrames$Frame;)I -/
def k_60_5 (E : ox_E) (x0 : Nat) (x1 : Nat) (mr sr : Nat) (Q : ox_Q) : ox_Q := fun r_ T_ => ox_C E (ox_mi 60).2.2.2.1 (ox_mc 60) (ox_cut 60) Q 5 [some (.inr (.inr (x0))), some (.inr (.inr (x1))), none, none, none, none, none, none, none] (r_.toList ++ []) T_ mr sr
def k_60_12 (E : ox_E) (x0 : Nat) (x1 : Nat) (x2 : Nat) (y1 : Nat) (mr sr : Nat) (Q : ox_Q) : ox_Q := fun r_ T_ => ox_C E (ox_mi 60).2.2.2.1 (ox_mc 60) (ox_cut 60) Q 12 [some (.inr (.inr (x0))), some (.inr (.inr (x1))), some (.inr (.inr (x2))), none, none, none, none, none, none] (r_.toList ++ [.inr (.inr (y1))]) T_ mr sr
def k_60_15 (E : ox_E) (x0 : Nat) (x1 : Nat) (x2 : Nat) (mr sr : Nat) (Q : ox_Q) : ox_Q := fun r_ T_ => ox_C E (ox_mi 60).2.2.2.1 (ox_mc 60) (ox_cut 60) Q 15 [some (.inr (.inr (x0))), some (.inr (.inr (x1))), some (.inr (.inr (x2))), none, none, none, none, none, none] (r_.toList ++ []) T_ mr sr
def k_60_20 (E : ox_E) (x0 : Nat) (x1 : Nat) (x2 : Nat) (x3 : Nat) (mr sr : Nat) (Q : ox_Q) : ox_Q := fun r_ T_ => ox_C E (ox_mi 60).2.2.2.1 (ox_mc 60) (ox_cut 60) Q 20 [some (.inr (.inr (x0))), some (.inr (.inr (x1))), some (.inr (.inr (x2))), some (.inr (.inr (x3))), none, none, none, none, none] (r_.toList ++ []) T_ mr sr
def k_60_41 (E : ox_E) (x0 : Nat) (x1 : Nat) (x2 : Nat) (x3 : Nat) (x4 : Int64) (mr sr : Nat) (Q : ox_Q) : ox_Q := fun r_ T_ => ox_C E (ox_mi 60).2.2.2.1 (ox_mc 60) (ox_cut 60) Q 41 [some (.inr (.inr (x0))), some (.inr (.inr (x1))), some (.inr (.inr (x2))), some (.inr (.inr (x3))), some (.inr (.inl (x4))), none, none, none, none] (r_.toList ++ []) T_ mr sr
def k_60_64 (E : ox_E) (x0 : Nat) (x1 : Nat) (x2 : Nat) (x3 : Nat) (x4 : Int64) (x6 : Int64) (mr sr : Nat) (Q : ox_Q) : ox_Q := fun r_ T_ => ox_C E (ox_mi 60).2.2.2.1 (ox_mc 60) (ox_cut 60) Q 64 [some (.inr (.inr (x0))), some (.inr (.inr (x1))), some (.inr (.inr (x2))), some (.inr (.inr (x3))), some (.inr (.inl (x4))), none, some (.inr (.inl (x6))), none, none] (r_.toList ++ []) T_ mr sr
def k_60_82 (E : ox_E) (x0 : Nat) (x1 : Nat) (x2 : Nat) (x3 : Nat) (x4 : Int64) (x6 : Int64) (x8 : Nat) (mr sr : Nat) (Q : ox_Q) : ox_Q := fun r_ T_ => ox_C E (ox_mi 60).2.2.2.1 (ox_mc 60) (ox_cut 60) Q 82 [some (.inr (.inr (x0))), some (.inr (.inr (x1))), some (.inr (.inr (x2))), some (.inr (.inr (x3))), some (.inr (.inl (x4))), none, some (.inr (.inl (x6))), none, some (.inr (.inr (x8)))] (r_.toList ++ []) T_ mr sr
set_option maxRecDepth 20000 in
def q_60_82 (E : ox_E) (x0 : Nat) (x1 : Nat) (x2 : Nat) (x3 : Nat) (x4 : Int64) (x6 : Int64) (x8 : Nat) (y0 : Int32) (S : ox_St) (mr sr : Nat) (Q : ox_Q) : Prop :=
  (True ∧ Q (some (.inl y0)) S)
set_option maxRecDepth 20000 in
set_option maxHeartbeats 4000000 in
theorem f_60_82 {E : ox_E} (hE : ox_mono E) {mr sr : Nat} {x0 : Nat} {x1 : Nat} {x2 : Nat} {x3 : Nat} {x4 : Int64} {x6 : Int64} {x8 : Nat} {y0 : Int32} {S : ox_St} {Q : ox_Q} (h : q_60_82 E x0 x1 x2 x3 x4 x6 x8 y0 S mr sr Q) : k_60_82 E x0 x1 x2 x3 x4 x6 x8 mr sr Q (some (.inl (y0))) S := ox_C_fold hE h
set_option maxRecDepth 20000 in
def q_60_64 (E : ox_E) (x0 : Nat) (x1 : Nat) (x2 : Nat) (x3 : Nat) (x4 : Int64) (x6 : Int64) (y0 : Nat) (S : ox_St) (mr sr : Nat) (Q : ox_Q) : Prop :=
  ((¬ y0 = 0 → (3 ≤ 3 ∧ 0 ≤ 8 ∧ ∃ mc1 mk2, mc1 ≤ mr ∧ mk2 ≤ sr ∧ E 50 [.inr (.inr (x1)), .inl (2), .inr (.inr (y0))] mc1 mk2 S (k_60_82 E x0 x1 x2 x3 x4 x6 y0 (mr - mc1) (sr - mk2) Q))) ∧ (y0 = 0 → k_60_82 E x0 x1 x2 x3 x4 x6 y0 mr sr Q (some (.inl (2))) S))
set_option maxRecDepth 20000 in
set_option maxHeartbeats 4000000 in
theorem f_60_64 {E : ox_E} (hE : ox_mono E) {mr sr : Nat} {x0 : Nat} {x1 : Nat} {x2 : Nat} {x3 : Nat} {x4 : Int64} {x6 : Int64} {y0 : Nat} {S : ox_St} {Q : ox_Q} (h : q_60_64 E x0 x1 x2 x3 x4 x6 y0 S mr sr Q) : k_60_64 E x0 x1 x2 x3 x4 x6 mr sr Q (some (.inr (.inr (y0)))) S := ox_C_fold hE h
set_option maxRecDepth 20000 in
def q_60_41 (E : ox_E) (x0 : Nat) (x1 : Nat) (x2 : Nat) (x3 : Nat) (x4 : Int64) (y0 : Int64) (S : ox_St) (mr sr : Nat) (Q : ox_Q) : Prop :=
  (((0 : Int32) ≤ (lg_cmp y0 0) → (2 ≤ 2 ∧ ox_pv (ox_pick (S.K x2) [11, 91, 1025, 1024, 131, 3, 91, 1027, 1024, 131, 5, 91, 1028, 1024, 131, 8, 91, 1029, 1024, 131, 9, 84, 1030, 1031, 152, 10, 88, 1035, 1036, 137, 12, 91, 1038, 1024, 131]) (fun j_ => 0 ≤ 8 ∧ ∃ mc1 mk2, mc1 ≤ mr ∧ mk2 ≤ sr ∧ E j_ [.inr (.inr (x2)), .inr (.inl (y0))] mc1 mk2 S (k_60_64 E x0 x1 x2 x3 x4 y0 (mr - mc1) (sr - mk2) Q)))) ∧ (¬ (0 : Int32) ≤ (lg_cmp y0 0) → (2 ≤ 2 ∧ ox_pv (ox_pick (S.K x2) [11, 91, 1025, 1024, 131, 3, 91, 1027, 1024, 131, 5, 91, 1028, 1024, 131, 8, 91, 1029, 1024, 131, 9, 84, 1030, 1031, 152, 10, 88, 1035, 1036, 137, 12, 91, 1038, 1024, 131]) (fun j_ => 0 ≤ 8 ∧ ∃ mc3 mk4, mc3 ≤ mr ∧ mk4 ≤ sr ∧ E j_ [.inr (.inr (x2)), .inr (.inl (y0 + x4))] mc3 mk4 S (k_60_64 E x0 x1 x2 x3 x4 y0 (mr - mc3) (sr - mk4) Q)))))
set_option maxRecDepth 20000 in
set_option maxHeartbeats 4000000 in
theorem f_60_41 {E : ox_E} (hE : ox_mono E) {mr sr : Nat} {x0 : Nat} {x1 : Nat} {x2 : Nat} {x3 : Nat} {x4 : Int64} {y0 : Int64} {S : ox_St} {Q : ox_Q} (h : q_60_41 E x0 x1 x2 x3 x4 y0 S mr sr Q) : k_60_41 E x0 x1 x2 x3 x4 mr sr Q (some (.inr (.inl (y0)))) S := ox_C_fold hE h
set_option maxRecDepth 20000 in
def q_60_20 (E : ox_E) (x0 : Nat) (x1 : Nat) (x2 : Nat) (x3 : Nat) (y0 : Int64) (S : ox_St) (mr sr : Nat) (Q : ox_Q) : Prop :=
  (((lg_cmp y0 (-1)) = 0 → (True ∧ Q (some (.inl (0 : Int32))) S)) ∧ (¬ (lg_cmp y0 (-1)) = 0 → ((¬ x3 = 0 → (1 ≤ 1 ∧ S.K x3 = 8 ∧ 0 ≤ 8 ∧ ∃ mc1 mk2, mc1 ≤ mr ∧ mk2 ≤ sr ∧ E 80 [.inr (.inr (x3))] mc1 mk2 S (k_60_41 E x0 x1 x2 x3 y0 (mr - mc1) (sr - mk2) Q))) ∧ (x3 = 0 → (True ∧ Q (some (.inl (0 : Int32))) S)))))
set_option maxRecDepth 20000 in
set_option maxHeartbeats 4000000 in
theorem f_60_20 {E : ox_E} (hE : ox_mono E) {mr sr : Nat} {x0 : Nat} {x1 : Nat} {x2 : Nat} {x3 : Nat} {y0 : Int64} {S : ox_St} {Q : ox_Q} (h : q_60_20 E x0 x1 x2 x3 y0 S mr sr Q) : k_60_20 E x0 x1 x2 x3 mr sr Q (some (.inr (.inl (y0)))) S := ox_C_fold hE h
set_option maxRecDepth 20000 in
def q_60_15 (E : ox_E) (x0 : Nat) (x1 : Nat) (x2 : Nat) (y0 : Nat) (S : ox_St) (mr sr : Nat) (Q : ox_Q) : Prop :=
  (1 ≤ 1 ∧ ox_pv (ox_pick (S.K x2) [11, 90, 917, 916, 131, 3, 90, 919, 916, 131, 5, 90, 920, 916, 131, 8, 90, 921, 916, 131, 9, 83, 922, 923, 152, 10, 87, 926, 927, 137, 12, 90, 929, 916, 131]) (fun j_ => 0 ≤ 8 ∧ ∃ mc1 mk2, mc1 ≤ mr ∧ mk2 ≤ sr ∧ E j_ [.inr (.inr (x2))] mc1 mk2 S (k_60_20 E x0 x1 x2 y0 (mr - mc1) (sr - mk2) Q)))
set_option maxRecDepth 20000 in
set_option maxHeartbeats 4000000 in
theorem f_60_15 {E : ox_E} (hE : ox_mono E) {mr sr : Nat} {x0 : Nat} {x1 : Nat} {x2 : Nat} {y0 : Nat} {S : ox_St} {Q : ox_Q} (h : q_60_15 E x0 x1 x2 y0 S mr sr Q) : k_60_15 E x0 x1 x2 mr sr Q (some (.inr (.inr (y0)))) S := ox_C_fold hE h
set_option maxRecDepth 20000 in
def q_60_12 (E : ox_E) (x0 : Nat) (x1 : Nat) (x2 : Nat) (y0 : Nat) (y1 : Nat) (S : ox_St) (mr sr : Nat) (Q : ox_Q) : Prop :=
  (2 ≤ 2 ∧ S.K y1 = 7 ∧ 0 ≤ 8 ∧ ∃ mc1 mk2, mc1 ≤ mr ∧ mk2 ≤ sr ∧ E 56 [.inr (.inr (y1)), .inr (.inr (y0))] mc1 mk2 S (k_60_15 E x0 x1 x2 (mr - mc1) (sr - mk2) Q))
set_option maxRecDepth 20000 in
set_option maxHeartbeats 4000000 in
theorem f_60_12 {E : ox_E} (hE : ox_mono E) {mr sr : Nat} {x0 : Nat} {x1 : Nat} {x2 : Nat} {y0 : Nat} {y1 : Nat} {S : ox_St} {Q : ox_Q} (h : q_60_12 E x0 x1 x2 y0 y1 S mr sr Q) : k_60_12 E x0 x1 x2 y1 mr sr Q (some (.inr (.inr (y0)))) S := ox_C_fold hE h
set_option maxRecDepth 20000 in
def q_60_5 (E : ox_E) (x0 : Nat) (x1 : Nat) (y0 : Nat) (S : ox_St) (mr sr : Nat) (Q : ox_Q) : Prop :=
  (2 ≤ 3 ∧ S.K x1 = 4 ∧ 1 ≤ 8 ∧ ∃ mc1 mk2, mc1 ≤ mr ∧ mk2 ≤ sr ∧ E 21 [.inr (.inr (x1)), .inl (0)] mc1 mk2 S (k_60_12 E x0 x1 y0 x0 (mr - mc1) (sr - mk2) Q))
set_option maxRecDepth 20000 in
set_option maxHeartbeats 4000000 in
theorem f_60_5 {E : ox_E} (hE : ox_mono E) {mr sr : Nat} {x0 : Nat} {x1 : Nat} {y0 : Nat} {S : ox_St} {Q : ox_Q} (h : q_60_5 E x0 x1 y0 S mr sr Q) : k_60_5 E x0 x1 mr sr Q (some (.inr (.inr (y0)))) S := ox_C_fold hE h
set_option maxRecDepth 20000 in
def q_60 (E : ox_E) (x0 : Nat) (x1 : Nat) (S : ox_St) (mr sr : Nat) (Q : ox_Q) : Prop :=
  (2 ≤ 2 ∧ S.K x1 = 4 ∧ 0 ≤ 8 ∧ ∃ mc1 mk2, mc1 ≤ mr ∧ mk2 ≤ sr ∧ E 21 [.inr (.inr (x1)), .inl (1)] mc1 mk2 S (k_60_5 E x0 x1 (mr - mc1) (sr - mk2) Q))
set_option maxRecDepth 20000 in
set_option maxHeartbeats 4000000 in
theorem f_60 {sp : ox_E} (hsp : ox_mono sp) {d : Nat} {mr sr : Nat} {x0 : Nat} {x1 : Nat} {S : ox_St} {Q : ox_Q} (h : q_60 (ox_M sp d) x0 x1 S mr sr Q) : ox_M sp (d + 1) 60 [.inr (.inr (x0)), .inr (.inr (x1))] mr sr S Q := Or.inr ⟨Nat.le_of_ble_eq_true rfl, ox_C_fold (ox_M_mono hsp d) h⟩
/-! OpcodeFrames$Machine.compare(LOpcodeFrames$Frame;I)I -/
def k_61_5 (E : ox_E) (x0 : Nat) (x1 : Nat) (x2 : Int32) (mr sr : Nat) (Q : ox_Q) : ox_Q := fun r_ T_ => ox_C E (ox_mi 61).2.2.2.1 (ox_mc 61) (ox_cut 61) Q 5 [some (.inr (.inr (x0))), some (.inr (.inr (x1))), some (.inl (x2)), none, none, none, none, none, none] (r_.toList ++ []) T_ mr sr
def k_61_11 (E : ox_E) (x0 : Nat) (x1 : Nat) (x2 : Int32) (x3 : Nat) (mr sr : Nat) (Q : ox_Q) : ox_Q := fun r_ T_ => ox_C E (ox_mi 61).2.2.2.1 (ox_mc 61) (ox_cut 61) Q 11 [some (.inr (.inr (x0))), some (.inr (.inr (x1))), some (.inl (x2)), some (.inr (.inr (x3))), none, none, none, none, none] (r_.toList ++ []) T_ mr sr
def k_61_31 (E : ox_E) (x0 : Nat) (x1 : Nat) (x2 : Int32) (x3 : Nat) (x4 : Nat) (mr sr : Nat) (Q : ox_Q) : ox_Q := fun r_ T_ => ox_C E (ox_mi 61).2.2.2.1 (ox_mc 61) (ox_cut 61) Q 31 [some (.inr (.inr (x0))), some (.inr (.inr (x1))), some (.inl (x2)), some (.inr (.inr (x3))), some (.inr (.inr (x4))), none, none, none, none] (r_.toList ++ []) T_ mr sr
def k_61_108 (E : ox_E) (x0 : Nat) (x1 : Nat) (x2 : Int32) (x3 : Nat) (x4 : Nat) (mr sr : Nat) (Q : ox_Q) : ox_Q := fun r_ T_ => ox_C E (ox_mi 61).2.2.2.1 (ox_mc 61) (ox_cut 61) Q 108 [some (.inr (.inr (x0))), some (.inr (.inr (x1))), some (.inl (x2)), some (.inr (.inr (x3))), some (.inr (.inr (x4))), none, none, none, none] (r_.toList ++ []) T_ mr sr
def k_61_116 (E : ox_E) (x0 : Nat) (x1 : Nat) (x2 : Int32) (x3 : Nat) (x4 : Nat) (x6 : Nat) (mr sr : Nat) (Q : ox_Q) : ox_Q := fun r_ T_ => ox_C E (ox_mi 61).2.2.2.1 (ox_mc 61) (ox_cut 61) Q 116 [some (.inr (.inr (x0))), some (.inr (.inr (x1))), some (.inl (x2)), some (.inr (.inr (x3))), some (.inr (.inr (x4))), none, some (.inr (.inr (x6))), none, none] (r_.toList ++ []) T_ mr sr
def k_61_137 (E : ox_E) (x0 : Nat) (x1 : Nat) (x2 : Int32) (x3 : Nat) (x4 : Nat) (x6 : Nat) (x7 : Nat) (mr sr : Nat) (Q : ox_Q) : ox_Q := fun r_ T_ => ox_C E (ox_mi 61).2.2.2.1 (ox_mc 61) (ox_cut 61) Q 137 [some (.inr (.inr (x0))), some (.inr (.inr (x1))), some (.inl (x2)), some (.inr (.inr (x3))), some (.inr (.inr (x4))), none, some (.inr (.inr (x6))), some (.inr (.inr (x7))), none] (r_.toList ++ []) T_ mr sr
def k_61_212 (E : ox_E) (x0 : Nat) (x1 : Nat) (x2 : Int32) (x3 : Nat) (x4 : Nat) (x5 : Int32) (y1 : Int32) (y2 : Nat) (mr sr : Nat) (Q : ox_Q) : ox_Q := fun r_ T_ => ox_C E (ox_mi 61).2.2.2.1 (ox_mc 61) (ox_cut 61) Q 212 [some (.inr (.inr (x0))), some (.inr (.inr (x1))), some (.inl (x2)), some (.inr (.inr (x3))), some (.inr (.inr (x4))), some (.inl (x5)), none, none, none] (r_.toList ++ [.inl (y1), .inr (.inr (y2))]) T_ mr sr
def k_61_215 (E : ox_E) (x0 : Nat) (x1 : Nat) (x2 : Int32) (x3 : Nat) (x4 : Nat) (x5 : Int32) (mr sr : Nat) (Q : ox_Q) : ox_Q := fun r_ T_ => ox_C E (ox_mi 61).2.2.2.1 (ox_mc 61) (ox_cut 61) Q 215 [some (.inr (.inr (x0))), some (.inr (.inr (x1))), some (.inl (x2)), some (.inr (.inr (x3))), some (.inr (.inr (x4))), some (.inl (x5)), none, none, none] (r_.toList ++ []) T_ mr sr
set_option maxRecDepth 20000 in
def q_61_215 (E : ox_E) (x0 : Nat) (x1 : Nat) (x2 : Int32) (x3 : Nat) (x4 : Nat) (x5 : Int32) (y0 : Int32) (S : ox_St) (mr sr : Nat) (Q : ox_Q) : Prop :=
  (True ∧ Q (some (.inl y0)) S)
set_option maxRecDepth 20000 in
set_option maxHeartbeats 4000000 in
theorem f_61_215 {E : ox_E} (hE : ox_mono E) {mr sr : Nat} {x0 : Nat} {x1 : Nat} {x2 : Int32} {x3 : Nat} {x4 : Nat} {x5 : Int32} {y0 : Int32} {S : ox_St} {Q : ox_Q} (h : q_61_215 E x0 x1 x2 x3 x4 x5 y0 S mr sr Q) : k_61_215 E x0 x1 x2 x3 x4 x5 mr sr Q (some (.inl (y0))) S := ox_C_fold hE h
set_option maxRecDepth 20000 in
def q_61_212 (E : ox_E) (x0 : Nat) (x1 : Nat) (x2 : Int32) (x3 : Nat) (x4 : Nat) (x5 : Int32) (y0 : Nat) (y1 : Int32) (y2 : Nat) (S : ox_St) (mr sr : Nat) (Q : ox_Q) : Prop :=
  (3 ≤ 3 ∧ 0 ≤ 8 ∧ ∃ mc1 mk2, mc1 ≤ mr ∧ mk2 ≤ sr ∧ E 50 [.inr (.inr (y2)), .inl (y1), .inr (.inr (y0))] mc1 mk2 S (k_61_215 E x0 x1 x2 x3 x4 x5 (mr - mc1) (sr - mk2) Q))
set_option maxRecDepth 20000 in
set_option maxHeartbeats 4000000 in
theorem f_61_212 {E : ox_E} (hE : ox_mono E) {mr sr : Nat} {x0 : Nat} {x1 : Nat} {x2 : Int32} {x3 : Nat} {x4 : Nat} {x5 : Int32} {y0 : Nat} {y1 : Int32} {y2 : Nat} {S : ox_St} {Q : ox_Q} (h : q_61_212 E x0 x1 x2 x3 x4 x5 y0 y1 y2 S mr sr Q) : k_61_212 E x0 x1 x2 x3 x4 x5 y1 y2 mr sr Q (some (.inr (.inr (y0)))) S := ox_C_fold hE h
set_option maxRecDepth 20000 in
def q_61_137 (E : ox_E) (x0 : Nat) (x1 : Nat) (x2 : Int32) (x3 : Nat) (x4 : Nat) (x6 : Nat) (x7 : Nat) (y0 : Int32) (S : ox_St) (mr sr : Nat) (Q : ox_Q) : Prop :=
  ((¬ x2 = 0 → ((¬ x2 = 1 → ((¬ x2 = 4 → ((y0 < 0 → (2 ≤ 4 ∧ S.K x0 = 7 ∧ 2 ≤ 8 ∧ ∃ mc1 mk2, mc1 ≤ mr ∧ mk2 ≤ sr ∧ E 54 [.inr (.inr (x0)), .inl (0)] mc1 mk2 S (k_61_212 E x0 x1 x2 x3 x4 0 2 x1 (mr - mc1) (sr - mk2) Q))) ∧ (¬ y0 < 0 → (2 ≤ 4 ∧ S.K x0 = 7 ∧ 2 ≤ 8 ∧ ∃ mc3 mk4, mc3 ≤ mr ∧ mk4 ≤ sr ∧ E 54 [.inr (.inr (x0)), .inl (1)] mc3 mk4 S (k_61_212 E x0 x1 x2 x3 x4 1 2 x1 (mr - mc3) (sr - mk4) Q))))) ∧ (x2 = 4 → ((y0 ≤ 0 → (2 ≤ 4 ∧ S.K x0 = 7 ∧ 2 ≤ 8 ∧ ∃ mc5 mk6, mc5 ≤ mr ∧ mk6 ≤ sr ∧ E 54 [.inr (.inr (x0)), .inl (0)] mc5 mk6 S (k_61_212 E x0 x1 x2 x3 x4 0 2 x1 (mr - mc5) (sr - mk6) Q))) ∧ (¬ y0 ≤ 0 → (2 ≤ 4 ∧ S.K x0 = 7 ∧ 2 ≤ 8 ∧ ∃ mc7 mk8, mc7 ≤ mr ∧ mk8 ≤ sr ∧ E 54 [.inr (.inr (x0)), .inl (1)] mc7 mk8 S (k_61_212 E x0 x1 x2 x3 x4 1 2 x1 (mr - mc7) (sr - mk8) Q))))))) ∧ (x2 = 1 → (((0 : Int32) < y0 → (2 ≤ 4 ∧ S.K x0 = 7 ∧ 2 ≤ 8 ∧ ∃ mc9 mk10, mc9 ≤ mr ∧ mk10 ≤ sr ∧ E 54 [.inr (.inr (x0)), .inl (0)] mc9 mk10 S (k_61_212 E x0 x1 x2 x3 x4 0 2 x1 (mr - mc9) (sr - mk10) Q))) ∧ (¬ (0 : Int32) < y0 → (2 ≤ 4 ∧ S.K x0 = 7 ∧ 2 ≤ 8 ∧ ∃ mc11 mk12, mc11 ≤ mr ∧ mk12 ≤ sr ∧ E 54 [.inr (.inr (x0)), .inl (1)] mc11 mk12 S (k_61_212 E x0 x1 x2 x3 x4 1 2 x1 (mr - mc11) (sr - mk12) Q))))))) ∧ (x2 = 0 → (((0 : Int32) ≤ y0 → (2 ≤ 4 ∧ S.K x0 = 7 ∧ 2 ≤ 8 ∧ ∃ mc13 mk14, mc13 ≤ mr ∧ mk14 ≤ sr ∧ E 54 [.inr (.inr (x0)), .inl (0)] mc13 mk14 S (k_61_212 E x0 x1 x2 x3 x4 0 2 x1 (mr - mc13) (sr - mk14) Q))) ∧ (¬ (0 : Int32) ≤ y0 → (2 ≤ 4 ∧ S.K x0 = 7 ∧ 2 ≤ 8 ∧ ∃ mc15 mk16, mc15 ≤ mr ∧ mk16 ≤ sr ∧ E 54 [.inr (.inr (x0)), .inl (1)] mc15 mk16 S (k_61_212 E x0 x1 x2 x3 x4 1 2 x1 (mr - mc15) (sr - mk16) Q))))))
set_option maxRecDepth 20000 in
set_option maxHeartbeats 4000000 in
theorem f_61_137 {E : ox_E} (hE : ox_mono E) {mr sr : Nat} {x0 : Nat} {x1 : Nat} {x2 : Int32} {x3 : Nat} {x4 : Nat} {x6 : Nat} {x7 : Nat} {y0 : Int32} {S : ox_St} {Q : ox_Q} (h : q_61_137 E x0 x1 x2 x3 x4 x6 x7 y0 S mr sr Q) : k_61_137 E x0 x1 x2 x3 x4 x6 x7 mr sr Q (some (.inl (y0))) S := ox_C_fold hE h
set_option maxRecDepth 20000 in
def q_61_116 (E : ox_E) (x0 : Nat) (x1 : Nat) (x2 : Int32) (x3 : Nat) (x4 : Nat) (x6 : Nat) (y0 : Nat) (S : ox_St) (mr sr : Nat) (Q : ox_Q) : Prop :=
  ((x6 = 0 → (True ∧ Q (some (.inl (0 : Int32))) S)) ∧ (¬ x6 = 0 → ((¬ y0 = 0 → (2 ≤ 2 ∧ 0 ≤ 8 ∧ ∃ mc1 mk2, mc1 ≤ mr ∧ mk2 ≤ sr ∧ E 1 [.inr (.inr (x6)), .inr (.inr (y0))] mc1 mk2 S (k_61_137 E x0 x1 x2 x3 x4 x6 y0 (mr - mc1) (sr - mk2) Q))) ∧ (y0 = 0 → (True ∧ Q (some (.inl (0 : Int32))) S)))))
set_option maxRecDepth 20000 in
set_option maxHeartbeats 4000000 in
theorem f_61_116 {E : ox_E} (hE : ox_mono E) {mr sr : Nat} {x0 : Nat} {x1 : Nat} {x2 : Int32} {x3 : Nat} {x4 : Nat} {x6 : Nat} {y0 : Nat} {S : ox_St} {Q : ox_Q} (h : q_61_116 E x0 x1 x2 x3 x4 x6 y0 S mr sr Q) : k_61_116 E x0 x1 x2 x3 x4 x6 mr sr Q (some (.inr (.inr (y0)))) S := ox_C_fold hE h
set_option maxRecDepth 20000 in
def q_61_108 (E : ox_E) (x0 : Nat) (x1 : Nat) (x2 : Int32) (x3 : Nat) (x4 : Nat) (y0 : Nat) (S : ox_St) (mr sr : Nat) (Q : ox_Q) : Prop :=
  (2 ≤ 2 ∧ S.K x0 = 7 ∧ 0 ≤ 8 ∧ ∃ mc1 mk2, mc1 ≤ mr ∧ mk2 ≤ sr ∧ E 56 [.inr (.inr (x0)), .inr (.inr (x4))] mc1 mk2 S (k_61_116 E x0 x1 x2 x3 x4 y0 (mr - mc1) (sr - mk2) Q))
set_option maxRecDepth 20000 in
set_option maxHeartbeats 4000000 in
theorem f_61_108 {E : ox_E} (hE : ox_mono E) {mr sr : Nat} {x0 : Nat} {x1 : Nat} {x2 : Int32} {x3 : Nat} {x4 : Nat} {y0 : Nat} {S : ox_St} {Q : ox_Q} (h : q_61_108 E x0 x1 x2 x3 x4 y0 S mr sr Q) : k_61_108 E x0 x1 x2 x3 x4 mr sr Q (some (.inr (.inr (y0)))) S := ox_C_fold hE h
set_option maxRecDepth 20000 in
def q_61_31 (E : ox_E) (x0 : Nat) (x1 : Nat) (x2 : Int32) (x3 : Nat) (x4 : Nat) (y0 : Int32) (S : ox_St) (mr sr : Nat) (Q : ox_Q) : Prop :=
  ((¬ x2 = 2 → ((¬ y0 = 0 → (2 ≤ 4 ∧ S.K x0 = 7 ∧ 2 ≤ 8 ∧ ∃ mc1 mk2, mc1 ≤ mr ∧ mk2 ≤ sr ∧ E 54 [.inr (.inr (x0)), .inl (0)] mc1 mk2 S (k_61_212 E x0 x1 x2 x3 x4 0 2 x1 (mr - mc1) (sr - mk2) Q))) ∧ (y0 = 0 → (2 ≤ 4 ∧ S.K x0 = 7 ∧ 2 ≤ 8 ∧ ∃ mc3 mk4, mc3 ≤ mr ∧ mk4 ≤ sr ∧ E 54 [.inr (.inr (x0)), .inl (1)] mc3 mk4 S (k_61_212 E x0 x1 x2 x3 x4 1 2 x1 (mr - mc3) (sr - mk4) Q))))) ∧ (x2 = 2 → ((¬ y0 = 1 → (2 ≤ 4 ∧ S.K x0 = 7 ∧ 2 ≤ 8 ∧ ∃ mc5 mk6, mc5 ≤ mr ∧ mk6 ≤ sr ∧ E 54 [.inr (.inr (x0)), .inl (0)] mc5 mk6 S (k_61_212 E x0 x1 x2 x3 x4 0 2 x1 (mr - mc5) (sr - mk6) Q))) ∧ (y0 = 1 → (2 ≤ 4 ∧ S.K x0 = 7 ∧ 2 ≤ 8 ∧ ∃ mc7 mk8, mc7 ≤ mr ∧ mk8 ≤ sr ∧ E 54 [.inr (.inr (x0)), .inl (1)] mc7 mk8 S (k_61_212 E x0 x1 x2 x3 x4 1 2 x1 (mr - mc7) (sr - mk8) Q))))))
set_option maxRecDepth 20000 in
set_option maxHeartbeats 4000000 in
theorem f_61_31 {E : ox_E} (hE : ox_mono E) {mr sr : Nat} {x0 : Nat} {x1 : Nat} {x2 : Int32} {x3 : Nat} {x4 : Nat} {y0 : Int32} {S : ox_St} {Q : ox_Q} (h : q_61_31 E x0 x1 x2 x3 x4 y0 S mr sr Q) : k_61_31 E x0 x1 x2 x3 x4 mr sr Q (some (.inl (y0))) S := ox_C_fold hE h
set_option maxRecDepth 20000 in
def q_61_11 (E : ox_E) (x0 : Nat) (x1 : Nat) (x2 : Int32) (x3 : Nat) (y0 : Nat) (S : ox_St) (mr sr : Nat) (Q : ox_Q) : Prop :=
  ((x2 = 2 → (4 ≤ 4 ∧ S.K x0 = 7 ∧ 0 ≤ 8 ∧ ∃ mc1 mk2, mc1 ≤ mr ∧ mk2 ≤ sr ∧ E 62 [.inr (.inr (x0)), .inr (.inr (x3)), .inr (.inr (y0)), .inl (0)] mc1 mk2 S (k_61_31 E x0 x1 x2 x3 y0 (mr - mc1) (sr - mk2) Q))) ∧ (¬ x2 = 2 → ((¬ x2 = 3 → ((¬ x2 = 10 → (2 ≤ 2 ∧ S.K x0 = 7 ∧ 0 ≤ 8 ∧ ∃ mc3 mk4, mc3 ≤ mr ∧ mk4 ≤ sr ∧ E 56 [.inr (.inr (x0)), .inr (.inr (x3))] mc3 mk4 S (k_61_108 E x0 x1 x2 x3 y0 (mr - mc3) (sr - mk4) Q))) ∧ (x2 = 10 → (ox_has (S.K x3) 6 = true ∧ ((¬ (S.I 6 x3) = 9 → (True ∧ Q (some (.inl (0 : Int32))) S)) ∧ ((S.I 6 x3) = 9 → (ox_has (S.K y0) 6 = true ∧ (((S.I 6 y0) = 9 → (ox_has (S.K x3) 7 = true ∧ (ox_has (S.K y0) 7 = true ∧ ((¬ (S.I 7 x3) = (S.I 7 y0) → (2 ≤ 4 ∧ S.K x0 = 7 ∧ 2 ≤ 8 ∧ ∃ mc5 mk6, mc5 ≤ mr ∧ mk6 ≤ sr ∧ E 54 [.inr (.inr (x0)), .inl (0)] mc5 mk6 S (k_61_212 E x0 x1 x2 x3 y0 0 2 x1 (mr - mc5) (sr - mk6) Q))) ∧ ((S.I 7 x3) = (S.I 7 y0) → (2 ≤ 4 ∧ S.K x0 = 7 ∧ 2 ≤ 8 ∧ ∃ mc7 mk8, mc7 ≤ mr ∧ mk8 ≤ sr ∧ E 54 [.inr (.inr (x0)), .inl (1)] mc7 mk8 S (k_61_212 E x0 x1 x2 x3 y0 1 2 x1 (mr - mc7) (sr - mk8) Q))))))) ∧ (¬ (S.I 6 y0) = 9 → (True ∧ Q (some (.inl (0 : Int32))) S)))))))))) ∧ (x2 = 3 → (4 ≤ 4 ∧ S.K x0 = 7 ∧ 0 ≤ 8 ∧ ∃ mc9 mk10, mc9 ≤ mr ∧ mk10 ≤ sr ∧ E 62 [.inr (.inr (x0)), .inr (.inr (x3)), .inr (.inr (y0)), .inl (0)] mc9 mk10 S (k_61_31 E x0 x1 x2 x3 y0 (mr - mc9) (sr - mk10) Q))))))
set_option maxRecDepth 20000 in
set_option maxHeartbeats 4000000 in
theorem f_61_11 {E : ox_E} (hE : ox_mono E) {mr sr : Nat} {x0 : Nat} {x1 : Nat} {x2 : Int32} {x3 : Nat} {y0 : Nat} {S : ox_St} {Q : ox_Q} (h : q_61_11 E x0 x1 x2 x3 y0 S mr sr Q) : k_61_11 E x0 x1 x2 x3 mr sr Q (some (.inr (.inr (y0)))) S := ox_C_fold hE h
set_option maxRecDepth 20000 in
def q_61_5 (E : ox_E) (x0 : Nat) (x1 : Nat) (x2 : Int32) (y0 : Nat) (S : ox_St) (mr sr : Nat) (Q : ox_Q) : Prop :=
  (2 ≤ 2 ∧ S.K x1 = 4 ∧ 0 ≤ 8 ∧ ∃ mc1 mk2, mc1 ≤ mr ∧ mk2 ≤ sr ∧ E 21 [.inr (.inr (x1)), .inl (0)] mc1 mk2 S (k_61_11 E x0 x1 x2 y0 (mr - mc1) (sr - mk2) Q))
set_option maxRecDepth 20000 in
set_option maxHeartbeats 4000000 in
theorem f_61_5 {E : ox_E} (hE : ox_mono E) {mr sr : Nat} {x0 : Nat} {x1 : Nat} {x2 : Int32} {y0 : Nat} {S : ox_St} {Q : ox_Q} (h : q_61_5 E x0 x1 x2 y0 S mr sr Q) : k_61_5 E x0 x1 x2 mr sr Q (some (.inr (.inr (y0)))) S := ox_C_fold hE h
set_option maxRecDepth 20000 in
def q_61 (E : ox_E) (x0 : Nat) (x1 : Nat) (x2 : Int32) (S : ox_St) (mr sr : Nat) (Q : ox_Q) : Prop :=
  (2 ≤ 2 ∧ S.K x1 = 4 ∧ 0 ≤ 8 ∧ ∃ mc1 mk2, mc1 ≤ mr ∧ mk2 ≤ sr ∧ E 21 [.inr (.inr (x1)), .inl (1)] mc1 mk2 S (k_61_5 E x0 x1 x2 (mr - mc1) (sr - mk2) Q))
set_option maxRecDepth 20000 in
set_option maxHeartbeats 4000000 in
theorem f_61 {sp : ox_E} (hsp : ox_mono sp) {d : Nat} {mr sr : Nat} {x0 : Nat} {x1 : Nat} {x2 : Int32} {S : ox_St} {Q : ox_Q} (h : q_61 (ox_M sp d) x0 x1 x2 S mr sr Q) : ox_M sp (d + 1) 61 [.inr (.inr (x0)), .inr (.inr (x1)), .inl (x2)] mr sr S Q := Or.inr ⟨Nat.le_of_ble_eq_true rfl, ox_C_fold (ox_M_mono hsp d) h⟩
/-! OpcodeFrames$Machine.areEqual(LOpcodeFrames$Value;LOpcodeFrames$Value;I)Z -/
def c_62_20 (E : ox_E) (x0 : Nat) (x1 : Nat) (x2 : Nat) (x3 : Int32) (S : ox_St) (mr sr : Nat) (Q : ox_Q) : Prop := ox_C E (ox_mi 62).2.2.2.1 (ox_mc 62) (ox_cut 62) Q 20 [some (.inr (.inr (x0))), some (.inr (.inr (x1))), some (.inr (.inr (x2))), some (.inl (x3)), none, none, none, none] [] S mr sr
def k_62_27 (E : ox_E) (x0 : Nat) (x1 : Nat) (x2 : Nat) (x3 : Int32) (mr sr : Nat) (Q : ox_Q) : ox_Q := fun r_ T_ => ox_C E (ox_mi 62).2.2.2.1 (ox_mc 62) (ox_cut 62) Q 27 [some (.inr (.inr (x0))), some (.inr (.inr (x1))), some (.inr (.inr (x2))), some (.inl (x3)), none, none, none, none] (r_.toList ++ []) T_ mr sr
def k_62_34 (E : ox_E) (x0 : Nat) (x1 : Nat) (x2 : Nat) (x3 : Int32) (x4 : Nat) (mr sr : Nat) (Q : ox_Q) : ox_Q := fun r_ T_ => ox_C E (ox_mi 62).2.2.2.1 (ox_mc 62) (ox_cut 62) Q 34 [some (.inr (.inr (x0))), some (.inr (.inr (x1))), some (.inr (.inr (x2))), some (.inl (x3)), some (.inr (.inr (x4))), none, none, none] (r_.toList ++ []) T_ mr sr
def k_62_53 (E : ox_E) (x0 : Nat) (x1 : Nat) (x2 : Nat) (x3 : Int32) (x4 : Nat) (x5 : Nat) (mr sr : Nat) (Q : ox_Q) : ox_Q := fun r_ T_ => ox_C E (ox_mi 62).2.2.2.1 (ox_mc 62) (ox_cut 62) Q 53 [some (.inr (.inr (x0))), some (.inr (.inr (x1))), some (.inr (.inr (x2))), some (.inl (x3)), some (.inr (.inr (x4))), some (.inr (.inr (x5))), none, none] (r_.toList ++ []) T_ mr sr
def c_62_61 (E : ox_E) (x0 : Nat) (x1 : Nat) (x2 : Nat) (x3 : Int32) (x4 : Nat) (x5 : Nat) (y0 : Int32) (S : ox_St) (mr sr : Nat) (Q : ox_Q) : Prop := ox_C E (ox_mi 62).2.2.2.1 (ox_mc 62) (ox_cut 62) Q 61 [some (.inr (.inr (x0))), some (.inr (.inr (x1))), some (.inr (.inr (x2))), some (.inl (x3)), some (.inr (.inr (x4))), some (.inr (.inr (x5))), none, none] [.inl (y0)] S mr sr
def c_62_62 (E : ox_E) (x0 : Nat) (x1 : Nat) (x2 : Nat) (x3 : Int32) (x4 : Nat) (x5 : Nat) (S : ox_St) (mr sr : Nat) (Q : ox_Q) : Prop := ox_C E (ox_mi 62).2.2.2.1 (ox_mc 62) (ox_cut 62) Q 62 [some (.inr (.inr (x0))), some (.inr (.inr (x1))), some (.inr (.inr (x2))), some (.inl (x3)), some (.inr (.inr (x4))), some (.inr (.inr (x5))), none, none] [] S mr sr
def k_62_95 (E : ox_E) (x0 : Nat) (x1 : Nat) (x2 : Nat) (x3 : Int32) (x4 : Nat) (x5 : Nat) (x6 : Nat) (x7 : Nat) (mr sr : Nat) (Q : ox_Q) : ox_Q := fun r_ T_ => ox_C E (ox_mi 62).2.2.2.1 (ox_mc 62) (ox_cut 62) Q 95 [some (.inr (.inr (x0))), some (.inr (.inr (x1))), some (.inr (.inr (x2))), some (.inl (x3)), some (.inr (.inr (x4))), some (.inr (.inr (x5))), some (.inr (.inr (x6))), some (.inr (.inr (x7)))] (r_.toList ++ []) T_ mr sr
def c_62_96 (E : ox_E) (x0 : Nat) (x1 : Nat) (x2 : Nat) (x3 : Int32) (x4 : Nat) (x5 : Nat) (S : ox_St) (mr sr : Nat) (Q : ox_Q) : Prop := ox_C E (ox_mi 62).2.2.2.1 (ox_mc 62) (ox_cut 62) Q 96 [some (.inr (.inr (x0))), some (.inr (.inr (x1))), some (.inr (.inr (x2))), some (.inl (x3)), some (.inr (.inr (x4))), some (.inr (.inr (x5))), none, none] [] S mr sr
def k_62_139 (E : ox_E) (x0 : Nat) (x1 : Nat) (x2 : Nat) (x3 : Int32) (x4 : Nat) (x5 : Nat) (x6 : Nat) (x7 : Nat) (mr sr : Nat) (Q : ox_Q) : ox_Q := fun r_ T_ => ox_C E (ox_mi 62).2.2.2.1 (ox_mc 62) (ox_cut 62) Q 139 [some (.inr (.inr (x0))), some (.inr (.inr (x1))), some (.inr (.inr (x2))), some (.inl (x3)), some (.inr (.inr (x4))), some (.inr (.inr (x5))), some (.inr (.inr (x6))), some (.inr (.inr (x7)))] (r_.toList ++ []) T_ mr sr
def c_62_140 (E : ox_E) (x0 : Nat) (x1 : Nat) (x2 : Nat) (x3 : Int32) (x4 : Nat) (x5 : Nat) (S : ox_St) (mr sr : Nat) (Q : ox_Q) : Prop := ox_C E (ox_mi 62).2.2.2.1 (ox_mc 62) (ox_cut 62) Q 140 [some (.inr (.inr (x0))), some (.inr (.inr (x1))), some (.inr (.inr (x2))), some (.inl (x3)), some (.inr (.inr (x4))), some (.inr (.inr (x5))), none, none] [] S mr sr
def c_62_158 (E : ox_E) (x0 : Nat) (x1 : Nat) (x2 : Nat) (x3 : Int32) (x4 : Nat) (x5 : Nat) (S : ox_St) (mr sr : Nat) (Q : ox_Q) : Prop := ox_C E (ox_mi 62).2.2.2.1 (ox_mc 62) (ox_cut 62) Q 158 [some (.inr (.inr (x0))), some (.inr (.inr (x1))), some (.inr (.inr (x2))), some (.inl (x3)), some (.inr (.inr (x4))), some (.inr (.inr (x5))), none, none] [] S mr sr
def c_62_159 (E : ox_E) (x0 : Nat) (x1 : Nat) (x2 : Nat) (x3 : Int32) (x4 : Nat) (x5 : Nat) (y0 : Int32) (S : ox_St) (mr sr : Nat) (Q : ox_Q) : Prop := ox_C E (ox_mi 62).2.2.2.1 (ox_mc 62) (ox_cut 62) Q 159 [some (.inr (.inr (x0))), some (.inr (.inr (x1))), some (.inr (.inr (x2))), some (.inl (x3)), some (.inr (.inr (x4))), some (.inr (.inr (x5))), none, none] [.inl (y0)] S mr sr
set_option maxRecDepth 20000 in
def q_62_159 (E : ox_E) (x0 : Nat) (x1 : Nat) (x2 : Nat) (x3 : Int32) (x4 : Nat) (x5 : Nat) (y0 : Int32) (S : ox_St) (mr sr : Nat) (Q : ox_Q) : Prop :=
  ((y0 = 0 ∨ y0 = 1) ∧ Q (some (.inl y0)) S)
set_option maxRecDepth 20000 in
set_option maxHeartbeats 4000000 in
theorem f_62_159 {E : ox_E} (hE : ox_mono E) {mr sr : Nat} {x0 : Nat} {x1 : Nat} {x2 : Nat} {x3 : Int32} {x4 : Nat} {x5 : Nat} {y0 : Int32} {S : ox_St} {Q : ox_Q} (h : q_62_159 E x0 x1 x2 x3 x4 x5 y0 S mr sr Q) : c_62_159 E x0 x1 x2 x3 x4 x5 y0 S mr sr Q := ox_C_fold hE h
set_option maxRecDepth 20000 in
def q_62_158 (E : ox_E) (x0 : Nat) (x1 : Nat) (x2 : Nat) (x3 : Int32) (x4 : Nat) (x5 : Nat) (S : ox_St) (mr sr : Nat) (Q : ox_Q) : Prop :=
  c_62_159 E x0 x1 x2 x3 x4 x5 0 S mr sr Q
set_option maxRecDepth 20000 in
set_option maxHeartbeats 4000000 in
theorem f_62_158 {E : ox_E} (hE : ox_mono E) {mr sr : Nat} {x0 : Nat} {x1 : Nat} {x2 : Nat} {x3 : Int32} {x4 : Nat} {x5 : Nat} {S : ox_St} {Q : ox_Q} (h : q_62_158 E x0 x1 x2 x3 x4 x5 S mr sr Q) : c_62_158 E x0 x1 x2 x3 x4 x5 S mr sr Q := ox_C_fold hE h
set_option maxRecDepth 20000 in
def q_62_140 (E : ox_E) (x0 : Nat) (x1 : Nat) (x2 : Nat) (x3 : Int32) (x4 : Nat) (x5 : Nat) (S : ox_St) (mr sr : Nat) (Q : ox_Q) : Prop :=
  (ox_has (S.K x1) 6 = true ∧ ((¬ (S.I 6 x1) = 0 → c_62_158 E x0 x1 x2 x3 x4 x5 S mr sr Q) ∧ ((S.I 6 x1) = 0 → (ox_has (S.K x2) 6 = true ∧ ((¬ (S.I 6 x2) = 0 → c_62_158 E x0 x1 x2 x3 x4 x5 S mr sr Q) ∧ ((S.I 6 x2) = 0 → c_62_159 E x0 x1 x2 x3 x4 x5 1 S mr sr Q))))))
set_option maxRecDepth 20000 in
set_option maxHeartbeats 4000000 in
theorem f_62_140 {E : ox_E} (hE : ox_mono E) {mr sr : Nat} {x0 : Nat} {x1 : Nat} {x2 : Nat} {x3 : Int32} {x4 : Nat} {x5 : Nat} {S : ox_St} {Q : ox_Q} (h : q_62_140 E x0 x1 x2 x3 x4 x5 S mr sr Q) : c_62_140 E x0 x1 x2 x3 x4 x5 S mr sr Q := ox_C_fold hE h
set_option maxRecDepth 20000 in
def q_62_139 (E : ox_E) (x0 : Nat) (x1 : Nat) (x2 : Nat) (x3 : Int32) (x4 : Nat) (x5 : Nat) (x6 : Nat) (x7 : Nat) (y0 : Int32) (S : ox_St) (mr sr : Nat) (Q : ox_Q) : Prop :=
  ((y0 = 0 ∨ y0 = 1) ∧ Q (some (.inl y0)) S)
set_option maxRecDepth 20000 in
set_option maxHeartbeats 4000000 in
theorem f_62_139 {E : ox_E} (hE : ox_mono E) {mr sr : Nat} {x0 : Nat} {x1 : Nat} {x2 : Nat} {x3 : Int32} {x4 : Nat} {x5 : Nat} {x6 : Nat} {x7 : Nat} {y0 : Int32} {S : ox_St} {Q : ox_Q} (h : q_62_139 E x0 x1 x2 x3 x4 x5 x6 x7 y0 S mr sr Q) : k_62_139 E x0 x1 x2 x3 x4 x5 x6 x7 mr sr Q (some (.inl (y0))) S := ox_C_fold hE h
set_option maxRecDepth 20000 in
def q_62_96 (E : ox_E) (x0 : Nat) (x1 : Nat) (x2 : Nat) (x3 : Int32) (x4 : Nat) (x5 : Nat) (S : ox_St) (mr sr : Nat) (Q : ox_Q) : Prop :=
  ((x1 = 0 ∨ ox_isV (S.K x1) = true) ∧ (((if [10].contains (S.K x1) = true then (1 : Int32) else 0) = 0 → c_62_140 E x0 x1 x2 x3 x4 x5 S mr sr Q) ∧ (¬ (if [10].contains (S.K x1) = true then (1 : Int32) else 0) = 0 → ((x1 = 0 ∨ [10].contains (S.K x1) = true) ∧ ((x2 = 0 ∨ ox_isV (S.K x2) = true) ∧ (((if [10].contains (S.K x2) = true then (1 : Int32) else 0) = 0 → c_62_140 E x0 x1 x2 x3 x4 x5 S mr sr Q) ∧ (¬ (if [10].contains (S.K x2) = true then (1 : Int32) else 0) = 0 → ((x2 = 0 ∨ [10].contains (S.K x2) = true) ∧ (ox_has (S.K x1) 56 = true ∧ (ox_has (S.K x2) 56 = true ∧ (4 ≤ 4 ∧ S.K x0 = 7 ∧ 0 ≤ 8 ∧ ∃ mc1 mk2, mc1 ≤ mr ∧ mk2 ≤ sr ∧ E 63 [.inr (.inr (x0)), .inr (.inr (S.R 56 x1)), .inr (.inr (S.R 56 x2)), .inl (x3 + 1)] mc1 mk2 S (k_62_139 E x0 x1 x2 x3 x4 x5 x1 x2 (mr - mc1) (sr - mk2) Q))))))))))))
set_option maxRecDepth 20000 in
set_option maxHeartbeats 4000000 in
theorem f_62_96 {E : ox_E} (hE : ox_mono E) {mr sr : Nat} {x0 : Nat} {x1 : Nat} {x2 : Nat} {x3 : Int32} {x4 : Nat} {x5 : Nat} {S : ox_St} {Q : ox_Q} (h : q_62_96 E x0 x1 x2 x3 x4 x5 S mr sr Q) : c_62_96 E x0 x1 x2 x3 x4 x5 S mr sr Q := ox_C_fold hE h
set_option maxRecDepth 20000 in
def q_62_95 (E : ox_E) (x0 : Nat) (x1 : Nat) (x2 : Nat) (x3 : Int32) (x4 : Nat) (x5 : Nat) (x6 : Nat) (x7 : Nat) (y0 : Int32) (S : ox_St) (mr sr : Nat) (Q : ox_Q) : Prop :=
  ((y0 = 0 ∨ y0 = 1) ∧ Q (some (.inl y0)) S)
set_option maxRecDepth 20000 in
set_option maxHeartbeats 4000000 in
theorem f_62_95 {E : ox_E} (hE : ox_mono E) {mr sr : Nat} {x0 : Nat} {x1 : Nat} {x2 : Nat} {x3 : Int32} {x4 : Nat} {x5 : Nat} {x6 : Nat} {x7 : Nat} {y0 : Int32} {S : ox_St} {Q : ox_Q} (h : q_62_95 E x0 x1 x2 x3 x4 x5 x6 x7 y0 S mr sr Q) : k_62_95 E x0 x1 x2 x3 x4 x5 x6 x7 mr sr Q (some (.inl (y0))) S := ox_C_fold hE h
set_option maxRecDepth 20000 in
def q_62_62 (E : ox_E) (x0 : Nat) (x1 : Nat) (x2 : Nat) (x3 : Int32) (x4 : Nat) (x5 : Nat) (S : ox_St) (mr sr : Nat) (Q : ox_Q) : Prop :=
  ((x1 = 0 ∨ ox_isV (S.K x1) = true) ∧ (((if [9].contains (S.K x1) = true then (1 : Int32) else 0) = 0 → c_62_96 E x0 x1 x2 x3 x4 x5 S mr sr Q) ∧ (¬ (if [9].contains (S.K x1) = true then (1 : Int32) else 0) = 0 → ((x1 = 0 ∨ [9].contains (S.K x1) = true) ∧ ((x2 = 0 ∨ ox_isV (S.K x2) = true) ∧ (((if [9].contains (S.K x2) = true then (1 : Int32) else 0) = 0 → c_62_96 E x0 x1 x2 x3 x4 x5 S mr sr Q) ∧ (¬ (if [9].contains (S.K x2) = true then (1 : Int32) else 0) = 0 → ((x2 = 0 ∨ [9].contains (S.K x2) = true) ∧ (2 ≤ 2 ∧ S.K x1 = 9 ∧ 0 ≤ 8 ∧ ∃ mc1 mk2, mc1 ≤ mr ∧ mk2 ≤ sr ∧ E 85 [.inr (.inr (x1)), .inr (.inr (x2))] mc1 mk2 S (k_62_95 E x0 x1 x2 x3 x4 x5 x1 x2 (mr - mc1) (sr - mk2) Q))))))))))
set_option maxRecDepth 20000 in
set_option maxHeartbeats 4000000 in
theorem f_62_62 {E : ox_E} (hE : ox_mono E) {mr sr : Nat} {x0 : Nat} {x1 : Nat} {x2 : Nat} {x3 : Int32} {x4 : Nat} {x5 : Nat} {S : ox_St} {Q : ox_Q} (h : q_62_62 E x0 x1 x2 x3 x4 x5 S mr sr Q) : c_62_62 E x0 x1 x2 x3 x4 x5 S mr sr Q := ox_C_fold hE h
set_option maxRecDepth 20000 in
def q_62_61 (E : ox_E) (x0 : Nat) (x1 : Nat) (x2 : Nat) (x3 : Int32) (x4 : Nat) (x5 : Nat) (y0 : Int32) (S : ox_St) (mr sr : Nat) (Q : ox_Q) : Prop :=
  ((y0 = 0 ∨ y0 = 1) ∧ Q (some (.inl y0)) S)
set_option maxRecDepth 20000 in
set_option maxHeartbeats 4000000 in
theorem f_62_61 {E : ox_E} (hE : ox_mono E) {mr sr : Nat} {x0 : Nat} {x1 : Nat} {x2 : Nat} {x3 : Int32} {x4 : Nat} {x5 : Nat} {y0 : Int32} {S : ox_St} {Q : ox_Q} (h : q_62_61 E x0 x1 x2 x3 x4 x5 y0 S mr sr Q) : c_62_61 E x0 x1 x2 x3 x4 x5 y0 S mr sr Q := ox_C_fold hE h
set_option maxRecDepth 20000 in
def q_62_53 (E : ox_E) (x0 : Nat) (x1 : Nat) (x2 : Nat) (x3 : Int32) (x4 : Nat) (x5 : Nat) (y0 : Int32) (S : ox_St) (mr sr : Nat) (Q : ox_Q) : Prop :=
  ((¬ y0 = 0 → c_62_61 E x0 x1 x2 x3 x4 x5 0 S mr sr Q) ∧ (y0 = 0 → c_62_61 E x0 x1 x2 x3 x4 x5 1 S mr sr Q))
set_option maxRecDepth 20000 in
set_option maxHeartbeats 4000000 in
theorem f_62_53 {E : ox_E} (hE : ox_mono E) {mr sr : Nat} {x0 : Nat} {x1 : Nat} {x2 : Nat} {x3 : Int32} {x4 : Nat} {x5 : Nat} {y0 : Int32} {S : ox_St} {Q : ox_Q} (h : q_62_53 E x0 x1 x2 x3 x4 x5 y0 S mr sr Q) : k_62_53 E x0 x1 x2 x3 x4 x5 mr sr Q (some (.inl (y0))) S := ox_C_fold hE h
set_option maxRecDepth 20000 in
def q_62_34 (E : ox_E) (x0 : Nat) (x1 : Nat) (x2 : Nat) (x3 : Int32) (x4 : Nat) (y0 : Nat) (S : ox_St) (mr sr : Nat) (Q : ox_Q) : Prop :=
  ((x4 = 0 → c_62_62 E x0 x1 x2 x3 x4 y0 S mr sr Q) ∧ (¬ x4 = 0 → ((y0 = 0 → c_62_62 E x0 x1 x2 x3 x4 y0 S mr sr Q) ∧ (¬ y0 = 0 → (2 ≤ 2 ∧ 0 ≤ 8 ∧ ∃ mc1 mk2, mc1 ≤ mr ∧ mk2 ≤ sr ∧ E 1 [.inr (.inr (x4)), .inr (.inr (y0))] mc1 mk2 S (k_62_53 E x0 x1 x2 x3 x4 y0 (mr - mc1) (sr - mk2) Q))))))
set_option maxRecDepth 20000 in
set_option maxHeartbeats 4000000 in
theorem f_62_34 {E : ox_E} (hE : ox_mono E) {mr sr : Nat} {x0 : Nat} {x1 : Nat} {x2 : Nat} {x3 : Int32} {x4 : Nat} {y0 : Nat} {S : ox_St} {Q : ox_Q} (h : q_62_34 E x0 x1 x2 x3 x4 y0 S mr sr Q) : k_62_34 E x0 x1 x2 x3 x4 mr sr Q (some (.inr (.inr (y0)))) S := ox_C_fold hE h
set_option maxRecDepth 20000 in
def q_62_27 (E : ox_E) (x0 : Nat) (x1 : Nat) (x2 : Nat) (x3 : Int32) (y0 : Nat) (S : ox_St) (mr sr : Nat) (Q : ox_Q) : Prop :=
  (2 ≤ 2 ∧ S.K x0 = 7 ∧ 0 ≤ 8 ∧ ∃ mc1 mk2, mc1 ≤ mr ∧ mk2 ≤ sr ∧ E 56 [.inr (.inr (x0)), .inr (.inr (x2))] mc1 mk2 S (k_62_34 E x0 x1 x2 x3 y0 (mr - mc1) (sr - mk2) Q))
set_option maxRecDepth 20000 in
set_option maxHeartbeats 4000000 in
theorem f_62_27 {E : ox_E} (hE : ox_mono E) {mr sr : Nat} {x0 : Nat} {x1 : Nat} {x2 : Nat} {x3 : Int32} {y0 : Nat} {S : ox_St} {Q : ox_Q} (h : q_62_27 E x0 x1 x2 x3 y0 S mr sr Q) : k_62_27 E x0 x1 x2 x3 mr sr Q (some (.inr (.inr (y0)))) S := ox_C_fold hE h
set_option maxRecDepth 20000 in
def q_62_20 (E : ox_E) (x0 : Nat) (x1 : Nat) (x2 : Nat) (x3 : Int32) (S : ox_St) (mr sr : Nat) (Q : ox_Q) : Prop :=
  (((0 : Int32) = 0 ∨ (0 : Int32) = 1) ∧ Q (some (.inl (0 : Int32))) S)
set_option maxRecDepth 20000 in
set_option maxHeartbeats 4000000 in
theorem f_62_20 {E : ox_E} (hE : ox_mono E) {mr sr : Nat} {x0 : Nat} {x1 : Nat} {x2 : Nat} {x3 : Int32} {S : ox_St} {Q : ox_Q} (h : q_62_20 E x0 x1 x2 x3 S mr sr Q) : c_62_20 E x0 x1 x2 x3 S mr sr Q := ox_C_fold hE h
set_option maxRecDepth 20000 in
def q_62 (E : ox_E) (x0 : Nat) (x1 : Nat) (x2 : Nat) (x3 : Int32) (S : ox_St) (mr sr : Nat) (Q : ox_Q) : Prop :=
  ((¬ x1 = x2 → ((x1 = 0 → c_62_20 E x0 x1 x2 x3 S mr sr Q) ∧ (¬ x1 = 0 → ((x2 = 0 → c_62_20 E x0 x1 x2 x3 S mr sr Q) ∧ (¬ x2 = 0 → ((x3 ≤ 4 → (2 ≤ 2 ∧ S.K x0 = 7 ∧ 0 ≤ 8 ∧ ∃ mc1 mk2, mc1 ≤ mr ∧ mk2 ≤ sr ∧ E 56 [.inr (.inr (x0)), .inr (.inr (x1))] mc1 mk2 S (k_62_27 E x0 x1 x2 x3 (mr - mc1) (sr - mk2) Q))) ∧ (¬ x3 ≤ 4 → c_62_20 E x0 x1 x2 x3 S mr sr Q))))))) ∧ (x1 = x2 → (((1 : Int32) = 0 ∨ (1 : Int32) = 1) ∧ Q (some (.inl (1 : Int32))) S)))
set_option maxRecDepth 20000 in
set_option maxHeartbeats 4000000 in
theorem f_62 {sp : ox_E} (hsp : ox_mono sp) {d : Nat} {mr sr : Nat} {x0 : Nat} {x1 : Nat} {x2 : Nat} {x3 : Int32} {S : ox_St} {Q : ox_Q} (h : q_62 (ox_M sp d) x0 x1 x2 x3 S mr sr Q) : ox_M sp (d + 1) 62 [.inr (.inr (x0)), .inr (.inr (x1)), .inr (.inr (x2)), .inl (x3)] mr sr S Q := Or.inr ⟨Nat.le_of_ble_eq_true rfl, ox_C_fold (ox_M_mono hsp d) h⟩
/-! OpcodeFrames$Machine.haveEqualItems([LOpcodeFrames$Value;[LOpcodeFrames$Value;I)Z -/
def c_63_17 (E : ox_E) (x0 : Nat) (x1 : Nat) (x2 : Nat) (x3 : Int32) (x4 : Int32) (x5 : Int32) (S : ox_St) (mr sr : Nat) (Q : ox_Q) : Prop := ox_C E (ox_mi 63).2.2.2.1 (ox_mc 63) (ox_cut 63) Q 17 [some (.inr (.inr (x0))), some (.inr (.inr (x1))), some (.inr (.inr (x2))), some (.inl (x3)), some (.inl (x4)), some (.inl (x5))] [] S mr sr
def k_63_49 (E : ox_E) (x0 : Nat) (x1 : Nat) (x2 : Nat) (x3 : Int32) (x4 : Int32) (x5 : Int32) (mr sr : Nat) (Q : ox_Q) : ox_Q := fun r_ T_ => ox_C E (ox_mi 63).2.2.2.1 (ox_mc 63) (ox_cut 63) Q 49 [some (.inr (.inr (x0))), some (.inr (.inr (x1))), some (.inr (.inr (x2))), some (.inl (x3)), some (.inl (x4)), some (.inl (x5))] (r_.toList ++ []) T_ mr sr
set_option maxRecDepth 20000 in
def q_63_49 (E : ox_E) (x0 : Nat) (x1 : Nat) (x2 : Nat) (x3 : Int32) (x4 : Int32) (x5 : Int32) (y0 : Int32) (S : ox_St) (mr sr : Nat) (Q : ox_Q) : Prop :=
  c_63_17 E x0 x1 x2 x3 y0 (x5 + 1) S mr sr Q
set_option maxRecDepth 20000 in
set_option maxHeartbeats 4000000 in
theorem f_63_49 {E : ox_E} (hE : ox_mono E) {mr sr : Nat} {x0 : Nat} {x1 : Nat} {x2 : Nat} {x3 : Int32} {x4 : Int32} {x5 : Int32} {y0 : Int32} {S : ox_St} {Q : ox_Q} (h : q_63_49 E x0 x1 x2 x3 x4 x5 y0 S mr sr Q) : k_63_49 E x0 x1 x2 x3 x4 x5 mr sr Q (some (.inl (y0))) S := ox_C_fold hE h
set_option maxRecDepth 20000 in
def q_63_17 (E : ox_E) (x0 : Nat) (x1 : Nat) (x2 : Nat) (x3 : Int32) (x4 : Int32) (x5 : Int32) (S : ox_St) (mr sr : Nat) (Q : ox_Q) : Prop :=
  ((x4 = 0 → ((x4 = 0 ∨ x4 = 1) ∧ Q (some (.inl x4)) S)) ∧ (¬ x4 = 0 → (ox_rdL (S.K x1) = true ∧ (((Int32.ofNat (S.len x1)) ≤ x5 → ((x4 = 0 ∨ x4 = 1) ∧ Q (some (.inl x4)) S)) ∧ (¬ (Int32.ofNat (S.len x1)) ≤ x5 → (ox_rdL (S.K x2) = true ∧ (((Int32.ofNat (S.len x2)) ≤ x5 → ((x4 = 0 ∨ x4 = 1) ∧ Q (some (.inl x4)) S)) ∧ (¬ (Int32.ofNat (S.len x2)) ≤ x5 → (ox_rdR (S.K x1) = true ∧ vp_in x5 (S.len x1) ∧ (ox_rdR (S.K x2) = true ∧ vp_in x5 (S.len x2) ∧ (4 ≤ 4 ∧ S.K x0 = 7 ∧ 0 ≤ 8 ∧ ∃ mc1 mk2, mc1 ≤ mr ∧ mk2 ≤ sr ∧ E 62 [.inr (.inr (x0)), .inr (.inr (S.rR x1 (Int32.toNatClampNeg x5))), .inr (.inr (S.rR x2 (Int32.toNatClampNeg x5))), .inl (x3)] mc1 mk2 S (k_63_49 E x0 x1 x2 x3 x4 x5 (mr - mc1) (sr - mk2) Q))))))))))))
set_option maxRecDepth 20000 in
set_option maxHeartbeats 4000000 in
theorem f_63_17 {E : ox_E} (hE : ox_mono E) {mr sr : Nat} {x0 : Nat} {x1 : Nat} {x2 : Nat} {x3 : Int32} {x4 : Int32} {x5 : Int32} {S : ox_St} {Q : ox_Q} (h : q_63_17 E x0 x1 x2 x3 x4 x5 S mr sr Q) : c_63_17 E x0 x1 x2 x3 x4 x5 S mr sr Q := ox_C_fold hE h
set_option maxRecDepth 20000 in
def q_63 (E : ox_E) (x0 : Nat) (x1 : Nat) (x2 : Nat) (x3 : Int32) (S : ox_St) (mr sr : Nat) (Q : ox_Q) : Prop :=
  (ox_rdL (S.K x1) = true ∧ (ox_rdL (S.K x2) = true ∧ ((¬ (Int32.ofNat (S.len x1)) = (Int32.ofNat (S.len x2)) → c_63_17 E x0 x1 x2 x3 0 0 S mr sr Q) ∧ ((Int32.ofNat (S.len x1)) = (Int32.ofNat (S.len x2)) → c_63_17 E x0 x1 x2 x3 1 0 S mr sr Q))))
set_option maxRecDepth 20000 in
set_option maxHeartbeats 4000000 in
theorem f_63 {sp : ox_E} (hsp : ox_mono sp) {d : Nat} {mr sr : Nat} {x0 : Nat} {x1 : Nat} {x2 : Nat} {x3 : Int32} {S : ox_St} {Q : ox_Q} (h : q_63 (ox_M sp d) x0 x1 x2 x3 S mr sr Q) : ox_M sp (d + 1) 63 [.inr (.inr (x0)), .inr (.inr (x1)), .inr (.inr (x2)), .inl (x3)] mr sr S Q := Or.inr ⟨Nat.le_of_ble_eq_true rfl, ox_C_fold (ox_M_mono hsp d) h⟩
/-! OpcodeFrames$Machine.tuple(LOpcodeFrames$Frame;I)I -/
def c_64_20 (E : ox_E) (x0 : Nat) (x1 : Int32) (x2 : Nat) (x3 : Int32) (S : ox_St) (mr sr : Nat) (Q : ox_Q) : Prop := ox_C E (ox_mi 64).2.2.2.1 (ox_mc 64) (ox_cut 64) Q 20 [some (.inr (.inr (x0))), some (.inl (x1)), some (.inr (.inr (x2))), some (.inl (x3))] [] S mr sr
def k_64_36 (E : ox_E) (x0 : Nat) (x1 : Int32) (x2 : Nat) (x3 : Int32) (y1 : Int32) (y2 : Nat) (mr sr : Nat) (Q : ox_Q) : ox_Q := fun r_ T_ => ox_C E (ox_mi 64).2.2.2.1 (ox_mc 64) (ox_cut 64) Q 36 [some (.inr (.inr (x0))), some (.inl (x1)), some (.inr (.inr (x2))), some (.inl (x3))] (r_.toList ++ [.inl (y1), .inr (.inr (y2))]) T_ mr sr
def k_64_51 (E : ox_E) (x0 : Nat) (x1 : Int32) (x2 : Nat) (x3 : Int32) (y0 : Nat) (mr sr : Nat) (Q : ox_Q) : ox_Q := fun r_ T_ => ox_C E (ox_mi 64).2.2.2.1 (ox_mc 64) (ox_cut 64) Q 51 [some (.inr (.inr (x0))), some (.inl (x1)), some (.inr (.inr (x2))), some (.inl (x3))] (r_.toList ++ [.inr (.inr (y0))]) T_ mr sr
def k_64_71 (E : ox_E) (x0 : Nat) (x1 : Int32) (x2 : Nat) (x3 : Nat) (mr sr : Nat) (Q : ox_Q) : ox_Q := fun r_ T_ => ox_C E (ox_mi 64).2.2.2.1 (ox_mc 64) (ox_cut 64) Q 71 [some (.inr (.inr (x0))), some (.inl (x1)), some (.inr (.inr (x2))), some (.inr (.inr (x3)))] (r_.toList ++ []) T_ mr sr
set_option maxRecDepth 20000 in
def q_64_71 (E : ox_E) (x0 : Nat) (x1 : Int32) (x2 : Nat) (x3 : Nat) (y0 : Int32) (S : ox_St) (mr sr : Nat) (Q : ox_Q) : Prop :=
  (True ∧ Q (some (.inl y0)) S)
set_option maxRecDepth 20000 in
set_option maxHeartbeats 4000000 in
theorem f_64_71 {E : ox_E} (hE : ox_mono E) {mr sr : Nat} {x0 : Nat} {x1 : Int32} {x2 : Nat} {x3 : Nat} {y0 : Int32} {S : ox_St} {Q : ox_Q} (h : q_64_71 E x0 x1 x2 x3 y0 S mr sr Q) : k_64_71 E x0 x1 x2 x3 mr sr Q (some (.inl (y0))) S := ox_C_fold hE h
set_option maxRecDepth 20000 in
def q_64_51 (E : ox_E) (x0 : Nat) (x1 : Int32) (x2 : Nat) (x3 : Int32) (y0 : Nat) (S : ox_St) (mr sr : Nat) (Q : ox_Q) : Prop :=
  (ox_has (S.K y0) 57 = true ∧ (((S.I 57 y0) ≤ 4 → (3 ≤ 3 ∧ 0 ≤ 8 ∧ ∃ mc1 mk2, mc1 ≤ mr ∧ mk2 ≤ sr ∧ E 50 [.inr (.inr (x0)), .inl (x1), .inr (.inr (y0))] mc1 mk2 S (k_64_71 E x0 x1 x2 y0 (mr - mc1) (sr - mk2) Q))) ∧ (¬ (S.I 57 y0) ≤ 4 → k_64_71 E x0 x1 x2 y0 mr sr Q (some (.inl (6))) S)))
set_option maxRecDepth 20000 in
set_option maxHeartbeats 4000000 in
theorem f_64_51 {E : ox_E} (hE : ox_mono E) {mr sr : Nat} {x0 : Nat} {x1 : Int32} {x2 : Nat} {x3 : Int32} {y0 : Nat} {S : ox_St} {Q : ox_Q} (h : q_64_51 E x0 x1 x2 x3 y0 S mr sr Q) : k_64_51 E x0 x1 x2 x3 y0 mr sr Q none S := ox_C_fold hE h
set_option maxRecDepth 20000 in
def q_64_36 (E : ox_E) (x0 : Nat) (x1 : Int32) (x2 : Nat) (x3 : Int32) (y0 : Nat) (y1 : Int32) (y2 : Nat) (S : ox_St) (mr sr : Nat) (Q : ox_Q) : Prop :=
  (ox_rdR (S.K y2) = true ∧ vp_in y1 (S.len y2) ∧ (y0 = 0 ∨ ox_asg (S.K y2) (S.K y0) = true) ∧ (let S1 := S.wR y2 (Int32.toNatClampNeg y1) y0
  c_64_20 E x0 x1 x2 (x3 + 1) S1 mr sr Q))
set_option maxRecDepth 20000 in
set_option maxHeartbeats 4000000 in
theorem f_64_36 {E : ox_E} (hE : ox_mono E) {mr sr : Nat} {x0 : Nat} {x1 : Int32} {x2 : Nat} {x3 : Int32} {y0 : Nat} {y1 : Int32} {y2 : Nat} {S : ox_St} {Q : ox_Q} (h : q_64_36 E x0 x1 x2 x3 y0 y1 y2 S mr sr Q) : k_64_36 E x0 x1 x2 x3 y1 y2 mr sr Q (some (.inr (.inr (y0)))) S := ox_C_fold hE h
set_option maxRecDepth 20000 in
def q_64_20 (E : ox_E) (x0 : Nat) (x1 : Int32) (x2 : Nat) (x3 : Int32) (S : ox_St) (mr sr : Nat) (Q : ox_Q) : Prop :=
  ((x1 ≤ x3 → (1 ≤ mr ∧ 4 ≤ sr ∧ (let S1 := S.newO 10
  (2 ≤ 3 ∧ S.n ≠ 0 ∧ 1 ≤ 8 ∧ ∃ mc2 mk3, mc2 ≤ (mr - 1) ∧ mk3 ≤ (sr - 4) ∧ E 86 [.inr (.inr (S.n)), .inr (.inr (x2))] mc2 mk3 S1 (k_64_51 E x0 x1 x2 x3 S.n ((mr - 1) - mc2) ((sr - 4) - mk3) Q))))) ∧ (¬ x1 ≤ x3 → (2 ≤ 4 ∧ S.K x0 = 4 ∧ 2 ≤ 8 ∧ ∃ mc4 mk5, mc4 ≤ mr ∧ mk5 ≤ sr ∧ E 21 [.inr (.inr (x0)), .inl ((x1 - 1) - x3)] mc4 mk5 S (k_64_36 E x0 x1 x2 x3 x3 x2 (mr - mc4) (sr - mk5) Q))))
set_option maxRecDepth 20000 in
set_option maxHeartbeats 4000000 in
theorem f_64_20 {E : ox_E} (hE : ox_mono E) {mr sr : Nat} {x0 : Nat} {x1 : Int32} {x2 : Nat} {x3 : Int32} {S : ox_St} {Q : ox_Q} (h : q_64_20 E x0 x1 x2 x3 S mr sr Q) : c_64_20 E x0 x1 x2 x3 S mr sr Q := ox_C_fold hE h
set_option maxRecDepth 20000 in
def q_64 (E : ox_E) (x0 : Nat) (x1 : Int32) (S : ox_St) (mr sr : Nat) (Q : ox_Q) : Prop :=
  ((x1 < 0 → (True ∧ Q (some (.inl (6 : Int32))) S)) ∧ (¬ x1 < 0 → ((x1 ≤ 12 → (¬ x1 < 0 ∧ (Int32.toNatClampNeg x1) ≤ 67108864 ∧ 1 ≤ mr ∧ (Int32.toNatClampNeg x1) ≤ sr ∧ (let S1 := S.newA 19 (Int32.toNatClampNeg x1)
  c_64_20 E x0 x1 S.n 0 S1 (mr - 1) (sr - (Int32.toNatClampNeg x1)) Q))) ∧ (¬ x1 ≤ 12 → (True ∧ Q (some (.inl (6 : Int32))) S)))))
set_option maxRecDepth 20000 in
set_option maxHeartbeats 4000000 in
theorem f_64 {sp : ox_E} (hsp : ox_mono sp) {d : Nat} {mr sr : Nat} {x0 : Nat} {x1 : Int32} {S : ox_St} {Q : ox_Q} (h : q_64 (ox_M sp d) x0 x1 S mr sr Q) : ox_M sp (d + 1) 64 [.inr (.inr (x0)), .inl (x1)] mr sr S Q := Or.inr ⟨Nat.le_of_ble_eq_true rfl, ox_C_fold (ox_M_mono hsp d) h⟩
/-! OpcodeFrames$Machine.spread(LOpcodeFrames$Frame;I)I -/
def k_65_5 (E : ox_E) (x0 : Nat) (x1 : Int32) (mr sr : Nat) (Q : ox_Q) : ox_Q := fun r_ T_ => ox_C E (ox_mi 65).2.2.2.1 (ox_mc 65) (ox_cut 65) Q 5 [some (.inr (.inr (x0))), some (.inl (x1)), none, none] (r_.toList ++ []) T_ mr sr
def k_65_34 (E : ox_E) (x0 : Nat) (x1 : Int32) (x2 : Nat) (x3 : Nat) (mr sr : Nat) (Q : ox_Q) : ox_Q := fun r_ T_ => ox_C E (ox_mi 65).2.2.2.1 (ox_mc 65) (ox_cut 65) Q 34 [some (.inr (.inr (x0))), some (.inl (x1)), some (.inr (.inr (x2))), some (.inr (.inr (x3)))] (r_.toList ++ []) T_ mr sr
def c_65_42 (E : ox_E) (x0 : Nat) (x1 : Int32) (x2 : Nat) (x3 : Int32) (S : ox_St) (mr sr : Nat) (Q : ox_Q) : Prop := ox_C E (ox_mi 65).2.2.2.1 (ox_mc 65) (ox_cut 65) Q 42 [some (.inr (.inr (x0))), some (.inl (x1)), some (.inr (.inr (x2))), some (.inl (x3))] [] S mr sr
def k_65_56 (E : ox_E) (x0 : Nat) (x1 : Int32) (x2 : Nat) (x3 : Int32) (mr sr : Nat) (Q : ox_Q) : ox_Q := fun r_ T_ => ox_C E (ox_mi 65).2.2.2.1 (ox_mc 65) (ox_cut 65) Q 56 [some (.inr (.inr (x0))), some (.inl (x1)), some (.inr (.inr (x2))), some (.inl (x3))] (r_.toList ++ []) T_ mr sr
set_option maxRecDepth 20000 in
def q_65_56 (E : ox_E) (x0 : Nat) (x1 : Int32) (x2 : Nat) (x3 : Int32) (S : ox_St) (mr sr : Nat) (Q : ox_Q) : Prop :=
  c_65_42 E x0 x1 x2 (x3 + (-1)) S mr sr Q
set_option maxRecDepth 20000 in
set_option maxHeartbeats 4000000 in
theorem f_65_56 {E : ox_E} (hE : ox_mono E) {mr sr : Nat} {x0 : Nat} {x1 : Int32} {x2 : Nat} {x3 : Int32} {S : ox_St} {Q : ox_Q} (h : q_65_56 E x0 x1 x2 x3 S mr sr Q) : k_65_56 E x0 x1 x2 x3 mr sr Q none S := ox_C_fold hE h
set_option maxRecDepth 20000 in
def q_65_42 (E : ox_E) (x0 : Nat) (x1 : Int32) (x2 : Nat) (x3 : Int32) (S : ox_St) (mr sr : Nat) (Q : ox_Q) : Prop :=
  ((x3 < 0 → (True ∧ Q (some (.inl ((-1) : Int32))) S)) ∧ (¬ x3 < 0 → (ox_has (S.K x2) 56 = true ∧ (ox_rdR (S.K (S.R 56 x2)) = true ∧ vp_in x3 (S.len (S.R 56 x2)) ∧ (2 ≤ 2 ∧ S.K x0 = 4 ∧ 0 ≤ 8 ∧ ∃ mc1 mk2, mc1 ≤ mr ∧ mk2 ≤ sr ∧ E 19 [.inr (.inr (x0)), .inr (.inr (S.rR (S.R 56 x2) (Int32.toNatClampNeg x3)))] mc1 mk2 S (k_65_56 E x0 x1 x2 x3 (mr - mc1) (sr - mk2) Q))))))
set_option maxRecDepth 20000 in
set_option maxHeartbeats 4000000 in
theorem f_65_42 {E : ox_E} (hE : ox_mono E) {mr sr : Nat} {x0 : Nat} {x1 : Int32} {x2 : Nat} {x3 : Int32} {S : ox_St} {Q : ox_Q} (h : q_65_42 E x0 x1 x2 x3 S mr sr Q) : c_65_42 E x0 x1 x2 x3 S mr sr Q := ox_C_fold hE h
set_option maxRecDepth 20000 in
def q_65_34 (E : ox_E) (x0 : Nat) (x1 : Int32) (x2 : Nat) (x3 : Nat) (S : ox_St) (mr sr : Nat) (Q : ox_Q) : Prop :=
  (ox_has (S.K x2) 56 = true ∧ (ox_rdL (S.K (S.R 56 x2)) = true ∧ (let w1 : Int32 := (Int32.ofNat (S.len (S.R 56 x2))) - 1
  c_65_42 E x0 x1 x2 w1 S mr sr Q)))
set_option maxRecDepth 20000 in
set_option maxHeartbeats 4000000 in
theorem f_65_34 {E : ox_E} (hE : ox_mono E) {mr sr : Nat} {x0 : Nat} {x1 : Int32} {x2 : Nat} {x3 : Nat} {S : ox_St} {Q : ox_Q} (h : q_65_34 E x0 x1 x2 x3 S mr sr Q) : k_65_34 E x0 x1 x2 x3 mr sr Q none S := ox_C_fold hE h
set_option maxRecDepth 20000 in
def q_65_5 (E : ox_E) (x0 : Nat) (x1 : Int32) (y0 : Nat) (S : ox_St) (mr sr : Nat) (Q : ox_Q) : Prop :=
  ((y0 = 0 ∨ ox_isV (S.K y0) = true) ∧ (((if [10].contains (S.K y0) = true then (1 : Int32) else 0) = 0 → (True ∧ Q (some (.inl (0 : Int32))) S)) ∧ (¬ (if [10].contains (S.K y0) = true then (1 : Int32) else 0) = 0 → ((y0 = 0 ∨ [10].contains (S.K y0) = true) ∧ (ox_has (S.K y0) 56 = true ∧ (ox_rdL (S.K (S.R 56 y0)) = true ∧ (((Int32.ofNat (S.len (S.R 56 y0))) = x1 → (2 ≤ 2 ∧ S.K x0 = 4 ∧ 0 ≤ 8 ∧ ∃ mc1 mk2, mc1 ≤ mr ∧ mk2 ≤ sr ∧ E 23 [.inr (.inr (x0)), .inl (1)] mc1 mk2 S (k_65_34 E x0 x1 y0 y0 (mr - mc1) (sr - mk2) Q))) ∧ (¬ (Int32.ofNat (S.len (S.R 56 y0))) = x1 → (True ∧ Q (some (.inl (3 : Int32))) S)))))))))
set_option maxRecDepth 20000 in
set_option maxHeartbeats 4000000 in
theorem f_65_5 {E : ox_E} (hE : ox_mono E) {mr sr : Nat} {x0 : Nat} {x1 : Int32} {y0 : Nat} {S : ox_St} {Q : ox_Q} (h : q_65_5 E x0 x1 y0 S mr sr Q) : k_65_5 E x0 x1 mr sr Q (some (.inr (.inr (y0)))) S := ox_C_fold hE h
set_option maxRecDepth 20000 in
def q_65 (E : ox_E) (x0 : Nat) (x1 : Int32) (S : ox_St) (mr sr : Nat) (Q : ox_Q) : Prop :=
  (2 ≤ 2 ∧ S.K x0 = 4 ∧ 0 ≤ 8 ∧ ∃ mc1 mk2, mc1 ≤ mr ∧ mk2 ≤ sr ∧ E 21 [.inr (.inr (x0)), .inl (0)] mc1 mk2 S (k_65_5 E x0 x1 (mr - mc1) (sr - mk2) Q))
set_option maxRecDepth 20000 in
set_option maxHeartbeats 4000000 in
theorem f_65 {sp : ox_E} (hsp : ox_mono sp) {d : Nat} {mr sr : Nat} {x0 : Nat} {x1 : Int32} {S : ox_St} {Q : ox_Q} (h : q_65 (ox_M sp d) x0 x1 S mr sr Q) : ox_M sp (d + 1) 65 [.inr (.inr (x0)), .inl (x1)] mr sr S Q := Or.inr ⟨Nat.le_of_ble_eq_true rfl, ox_C_fold (ox_M_mono hsp d) h⟩
/-! OpcodeFrames$Machine.walk(LOpcodeFrames$Frame;)I -/
def k_66_5 (E : ox_E) (x0 : Nat) (mr sr : Nat) (Q : ox_Q) : ox_Q := fun r_ T_ => ox_C E (ox_mi 66).2.2.2.1 (ox_mc 66) (ox_cut 66) Q 5 [some (.inr (.inr (x0))), none] (r_.toList ++ []) T_ mr sr
def k_66_19 (E : ox_E) (x0 : Nat) (x1 : Nat) (mr sr : Nat) (Q : ox_Q) : ox_Q := fun r_ T_ => ox_C E (ox_mi 66).2.2.2.1 (ox_mc 66) (ox_cut 66) Q 19 [some (.inr (.inr (x0))), some (.inr (.inr (x1)))] (r_.toList ++ []) T_ mr sr
def k_66_40 (E : ox_E) (x0 : Nat) (x1 : Nat) (y0 : Nat) (y1 : Int32) (y2 : Nat) (mr sr : Nat) (Q : ox_Q) : ox_Q := fun r_ T_ => ox_C E (ox_mi 66).2.2.2.1 (ox_mc 66) (ox_cut 66) Q 40 [some (.inr (.inr (x0))), some (.inr (.inr (x1)))] (r_.toList ++ [.inr (.inr (y0)), .inl (y1), .inr (.inr (y2))]) T_ mr sr
def k_66_43 (E : ox_E) (x0 : Nat) (x1 : Nat) (mr sr : Nat) (Q : ox_Q) : ox_Q := fun r_ T_ => ox_C E (ox_mi 66).2.2.2.1 (ox_mc 66) (ox_cut 66) Q 43 [some (.inr (.inr (x0))), some (.inr (.inr (x1)))] (r_.toList ++ []) T_ mr sr
set_option maxRecDepth 20000 in
def q_66_43 (E : ox_E) (x0 : Nat) (x1 : Nat) (y0 : Int32) (S : ox_St) (mr sr : Nat) (Q : ox_Q) : Prop :=
  (True ∧ Q (some (.inl y0)) S)
set_option maxRecDepth 20000 in
set_option maxHeartbeats 4000000 in
theorem f_66_43 {E : ox_E} (hE : ox_mono E) {mr sr : Nat} {x0 : Nat} {x1 : Nat} {y0 : Int32} {S : ox_St} {Q : ox_Q} (h : q_66_43 E x0 x1 y0 S mr sr Q) : k_66_43 E x0 x1 mr sr Q (some (.inl (y0))) S := ox_C_fold hE h
set_option maxRecDepth 20000 in
def q_66_40 (E : ox_E) (x0 : Nat) (x1 : Nat) (y0 : Nat) (y1 : Int32) (y2 : Nat) (S : ox_St) (mr sr : Nat) (Q : ox_Q) : Prop :=
  (3 ≤ 3 ∧ 0 ≤ 8 ∧ ∃ mc1 mk2, mc1 ≤ mr ∧ mk2 ≤ sr ∧ E 50 [.inr (.inr (y2)), .inl (y1), .inr (.inr (y0))] mc1 mk2 S (k_66_43 E x0 x1 (mr - mc1) (sr - mk2) Q))
set_option maxRecDepth 20000 in
set_option maxHeartbeats 4000000 in
theorem f_66_40 {E : ox_E} (hE : ox_mono E) {mr sr : Nat} {x0 : Nat} {x1 : Nat} {y0 : Nat} {y1 : Int32} {y2 : Nat} {S : ox_St} {Q : ox_Q} (h : q_66_40 E x0 x1 y0 y1 y2 S mr sr Q) : k_66_40 E x0 x1 y0 y1 y2 mr sr Q none S := ox_C_fold hE h
set_option maxRecDepth 20000 in
def q_66_19 (E : ox_E) (x0 : Nat) (x1 : Nat) (y0 : Int64) (S : ox_St) (mr sr : Nat) (Q : ox_Q) : Prop :=
  ((¬ (lg_cmp y0 (-1)) = 0 → (1 ≤ mr ∧ 4 ≤ sr ∧ (let S1 := S.newO 12
  (2 ≤ 5 ∧ S.n ≠ 0 ∧ 3 ≤ 8 ∧ ∃ mc2 mk3, mc2 ≤ (mr - 1) ∧ mk3 ≤ (sr - 4) ∧ E 92 [.inr (.inr (S.n)), .inr (.inr (x1))] mc2 mk3 S1 (k_66_40 E x0 x1 S.n 1 x0 ((mr - 1) - mc2) ((sr - 4) - mk3) Q))))) ∧ ((lg_cmp y0 (-1)) = 0 → k_66_43 E x0 x1 mr sr Q (some (.inl (0))) S))
set_option maxRecDepth 20000 in
set_option maxHeartbeats 4000000 in
theorem f_66_19 {E : ox_E} (hE : ox_mono E) {mr sr : Nat} {x0 : Nat} {x1 : Nat} {y0 : Int64} {S : ox_St} {Q : ox_Q} (h : q_66_19 E x0 x1 y0 S mr sr Q) : k_66_19 E x0 x1 mr sr Q (some (.inr (.inl (y0)))) S := ox_C_fold hE h
set_option maxRecDepth 20000 in
def q_66_5 (E : ox_E) (x0 : Nat) (y0 : Nat) (S : ox_St) (mr sr : Nat) (Q : ox_Q) : Prop :=
  ((y0 = 0 ∨ ox_isV (S.K y0) = true) ∧ (((if [12].contains (S.K y0) = true then (1 : Int32) else 0) = 0 → (1 ≤ 1 ∧ ox_pv (ox_pick (S.K y0) [11, 90, 917, 916, 131, 3, 90, 919, 916, 131, 5, 90, 920, 916, 131, 8, 90, 921, 916, 131, 9, 83, 922, 923, 152, 10, 87, 926, 927, 137, 12, 90, 929, 916, 131]) (fun j_ => 0 ≤ 8 ∧ ∃ mc1 mk2, mc1 ≤ mr ∧ mk2 ≤ sr ∧ E j_ [.inr (.inr (y0))] mc1 mk2 S (k_66_19 E x0 y0 (mr - mc1) (sr - mk2) Q)))) ∧ (¬ (if [12].contains (S.K y0) = true then (1 : Int32) else 0) = 0 → (True ∧ Q (some (.inl ((-1) : Int32))) S))))
set_option maxRecDepth 20000 in
set_option maxHeartbeats 4000000 in
theorem f_66_5 {E : ox_E} (hE : ox_mono E) {mr sr : Nat} {x0 : Nat} {y0 : Nat} {S : ox_St} {Q : ox_Q} (h : q_66_5 E x0 y0 S mr sr Q) : k_66_5 E x0 mr sr Q (some (.inr (.inr (y0)))) S := ox_C_fold hE h
set_option maxRecDepth 20000 in
def q_66 (E : ox_E) (x0 : Nat) (S : ox_St) (mr sr : Nat) (Q : ox_Q) : Prop :=
  (2 ≤ 2 ∧ S.K x0 = 4 ∧ 0 ≤ 8 ∧ ∃ mc1 mk2, mc1 ≤ mr ∧ mk2 ≤ sr ∧ E 21 [.inr (.inr (x0)), .inl (0)] mc1 mk2 S (k_66_5 E x0 (mr - mc1) (sr - mk2) Q))
set_option maxRecDepth 20000 in
set_option maxHeartbeats 4000000 in
theorem f_66 {sp : ox_E} (hsp : ox_mono sp) {d : Nat} {mr sr : Nat} {x0 : Nat} {S : ox_St} {Q : ox_Q} (h : q_66 (ox_M sp d) x0 S mr sr Q) : ox_M sp (d + 1) 66 [.inr (.inr (x0))] mr sr S Q := Or.inr ⟨Nat.le_of_ble_eq_true rfl, ox_C_fold (ox_M_mono hsp d) h⟩
/-! OpcodeFrames$Machine.next(LOpcodeFrames$Frame;I)I -/
def k_67_5 (E : ox_E) (x0 : Nat) (x1 : Int32) (mr sr : Nat) (Q : ox_Q) : ox_Q := fun r_ T_ => ox_C E (ox_mi 67).2.2.2.1 (ox_mc 67) (ox_cut 67) Q 5 [some (.inr (.inr (x0))), some (.inl (x1)), none, none] (r_.toList ++ []) T_ mr sr
def k_67_29 (E : ox_E) (x0 : Nat) (x1 : Int32) (x2 : Nat) (x3 : Nat) (mr sr : Nat) (Q : ox_Q) : ox_Q := fun r_ T_ => ox_C E (ox_mi 67).2.2.2.1 (ox_mc 67) (ox_cut 67) Q 29 [some (.inr (.inr (x0))), some (.inl (x1)), some (.inr (.inr (x2))), some (.inr (.inr (x3)))] (r_.toList ++ []) T_ mr sr
def k_67_49 (E : ox_E) (x0 : Nat) (x1 : Int32) (x2 : Nat) (x3 : Nat) (mr sr : Nat) (Q : ox_Q) : ox_Q := fun r_ T_ => ox_C E (ox_mi 67).2.2.2.1 (ox_mc 67) (ox_cut 67) Q 49 [some (.inr (.inr (x0))), some (.inl (x1)), some (.inr (.inr (x2))), some (.inr (.inr (x3)))] (r_.toList ++ []) T_ mr sr
def k_67_57 (E : ox_E) (x0 : Nat) (x1 : Int32) (x2 : Nat) (x3 : Nat) (mr sr : Nat) (Q : ox_Q) : ox_Q := fun r_ T_ => ox_C E (ox_mi 67).2.2.2.1 (ox_mc 67) (ox_cut 67) Q 57 [some (.inr (.inr (x0))), some (.inl (x1)), some (.inr (.inr (x2))), some (.inr (.inr (x3)))] (r_.toList ++ []) T_ mr sr
set_option maxRecDepth 20000 in
def q_67_57 (E : ox_E) (x0 : Nat) (x1 : Int32) (x2 : Nat) (x3 : Nat) (S : ox_St) (mr sr : Nat) (Q : ox_Q) : Prop :=
  (ox_has (S.K x0) 19 = true ∧ (ox_has (S.K x0) 19 = true ∧ (let S1 := S.sI 19 x0 ((S.I 19 x0) + x1)
  (True ∧ Q (some (.inl ((-1) : Int32))) S1))))
set_option maxRecDepth 20000 in
set_option maxHeartbeats 4000000 in
theorem f_67_57 {E : ox_E} (hE : ox_mono E) {mr sr : Nat} {x0 : Nat} {x1 : Int32} {x2 : Nat} {x3 : Nat} {S : ox_St} {Q : ox_Q} (h : q_67_57 E x0 x1 x2 x3 S mr sr Q) : k_67_57 E x0 x1 x2 x3 mr sr Q none S := ox_C_fold hE h
set_option maxRecDepth 20000 in
def q_67_49 (E : ox_E) (x0 : Nat) (x1 : Int32) (x2 : Nat) (x3 : Nat) (S : ox_St) (mr sr : Nat) (Q : ox_Q) : Prop :=
  (True ∧ Q (some (.inl ((-1) : Int32))) S)
set_option maxRecDepth 20000 in
set_option maxHeartbeats 4000000 in
theorem f_67_49 {E : ox_E} (hE : ox_mono E) {mr sr : Nat} {x0 : Nat} {x1 : Int32} {x2 : Nat} {x3 : Nat} {S : ox_St} {Q : ox_Q} (h : q_67_49 E x0 x1 x2 x3 S mr sr Q) : k_67_49 E x0 x1 x2 x3 mr sr Q none S := ox_C_fold hE h
set_option maxRecDepth 20000 in
def q_67_29 (E : ox_E) (x0 : Nat) (x1 : Int32) (x2 : Nat) (x3 : Nat) (y0 : Nat) (S : ox_St) (mr sr : Nat) (Q : ox_Q) : Prop :=
  ((y0 = 0 → (2 ≤ 2 ∧ S.K x0 = 4 ∧ 0 ≤ 8 ∧ ∃ mc1 mk2, mc1 ≤ mr ∧ mk2 ≤ sr ∧ E 23 [.inr (.inr (x0)), .inl (1)] mc1 mk2 S (k_67_57 E x0 x1 x2 y0 (mr - mc1) (sr - mk2) Q))) ∧ (¬ y0 = 0 → (ox_has (S.K x2) 59 = true ∧ (ox_has (S.K x2) 59 = true ∧ (let S3 := S.sJ 59 x2 ((S.J 59 x2) + 1)
  (2 ≤ 2 ∧ S3.K x0 = 4 ∧ 0 ≤ 8 ∧ ∃ mc4 mk5, mc4 ≤ mr ∧ mk5 ≤ sr ∧ E 19 [.inr (.inr (x0)), .inr (.inr (y0))] mc4 mk5 S3 (k_67_49 E x0 x1 x2 y0 (mr - mc4) (sr - mk5) Q)))))))
set_option maxRecDepth 20000 in
set_option maxHeartbeats 4000000 in
theorem f_67_29 {E : ox_E} (hE : ox_mono E) {mr sr : Nat} {x0 : Nat} {x1 : Int32} {x2 : Nat} {x3 : Nat} {y0 : Nat} {S : ox_St} {Q : ox_Q} (h : q_67_29 E x0 x1 x2 x3 y0 S mr sr Q) : k_67_29 E x0 x1 x2 x3 mr sr Q (some (.inr (.inr (y0)))) S := ox_C_fold hE h
set_option maxRecDepth 20000 in
def q_67_5 (E : ox_E) (x0 : Nat) (x1 : Int32) (y0 : Nat) (S : ox_St) (mr sr : Nat) (Q : ox_Q) : Prop :=
  ((y0 = 0 ∨ ox_isV (S.K y0) = true) ∧ (((if [12].contains (S.K y0) = true then (1 : Int32) else 0) = 0 → (True ∧ Q (some (.inl (0 : Int32))) S)) ∧ (¬ (if [12].contains (S.K y0) = true then (1 : Int32) else 0) = 0 → ((y0 = 0 ∨ [12].contains (S.K y0) = true) ∧ (ox_has (S.K y0) 58 = true ∧ (ox_has (S.K y0) 59 = true ∧ (2 ≤ 2 ∧ ox_pv (ox_pick (S.K (S.R 58 y0)) [11, 91, 1025, 1024, 131, 3, 91, 1027, 1024, 131, 5, 91, 1028, 1024, 131, 8, 91, 1029, 1024, 131, 9, 84, 1030, 1031, 152, 10, 88, 1035, 1036, 137, 12, 91, 1038, 1024, 131]) (fun j_ => 0 ≤ 8 ∧ ∃ mc1 mk2, mc1 ≤ mr ∧ mk2 ≤ sr ∧ E j_ [.inr (.inr (S.R 58 y0)), .inr (.inl (S.J 59 y0))] mc1 mk2 S (k_67_29 E x0 x1 y0 y0 (mr - mc1) (sr - mk2) Q)))))))))
set_option maxRecDepth 20000 in
set_option maxHeartbeats 4000000 in
theorem f_67_5 {E : ox_E} (hE : ox_mono E) {mr sr : Nat} {x0 : Nat} {x1 : Int32} {y0 : Nat} {S : ox_St} {Q : ox_Q} (h : q_67_5 E x0 x1 y0 S mr sr Q) : k_67_5 E x0 x1 mr sr Q (some (.inr (.inr (y0)))) S := ox_C_fold hE h
set_option maxRecDepth 20000 in
def q_67 (E : ox_E) (x0 : Nat) (x1 : Int32) (S : ox_St) (mr sr : Nat) (Q : ox_Q) : Prop :=
  (2 ≤ 2 ∧ S.K x0 = 4 ∧ 0 ≤ 8 ∧ ∃ mc1 mk2, mc1 ≤ mr ∧ mk2 ≤ sr ∧ E 21 [.inr (.inr (x0)), .inl (0)] mc1 mk2 S (k_67_5 E x0 x1 (mr - mc1) (sr - mk2) Q))
set_option maxRecDepth 20000 in
set_option maxHeartbeats 4000000 in
theorem f_67 {sp : ox_E} (hsp : ox_mono sp) {d : Nat} {mr sr : Nat} {x0 : Nat} {x1 : Int32} {S : ox_St} {Q : ox_Q} (h : q_67 (ox_M sp d) x0 x1 S mr sr Q) : ox_M sp (d + 1) 67 [.inr (.inr (x0)), .inl (x1)] mr sr S Q := Or.inr ⟨Nat.le_of_ble_eq_true rfl, ox_C_fold (ox_M_mono hsp d) h⟩
/-! OpcodeFrames$Machine.fetch(LOpcodeFrames$Frame;II)I -/
def k_68_67 (E : ox_E) (x0 : Nat) (x1 : Nat) (x2 : Int32) (x3 : Int32) (mr sr : Nat) (Q : ox_Q) : ox_Q := fun r_ T_ => ox_C E (ox_mi 68).2.2.2.1 (ox_mc 68) (ox_cut 68) Q 67 [some (.inr (.inr (x0))), some (.inr (.inr (x1))), some (.inl (x2)), some (.inl (x3)), none] (r_.toList ++ []) T_ mr sr
def k_68_81 (E : ox_E) (x0 : Nat) (x1 : Nat) (x2 : Int32) (x3 : Int32) (mr sr : Nat) (Q : ox_Q) : ox_Q := fun r_ T_ => ox_C E (ox_mi 68).2.2.2.1 (ox_mc 68) (ox_cut 68) Q 81 [some (.inr (.inr (x0))), some (.inr (.inr (x1))), some (.inl (x2)), some (.inl (x3)), none] (r_.toList ++ []) T_ mr sr
def k_68_96 (E : ox_E) (x0 : Nat) (x1 : Nat) (x2 : Int32) (x3 : Int32) (x4 : Nat) (mr sr : Nat) (Q : ox_Q) : ox_Q := fun r_ T_ => ox_C E (ox_mi 68).2.2.2.1 (ox_mc 68) (ox_cut 68) Q 96 [some (.inr (.inr (x0))), some (.inr (.inr (x1))), some (.inl (x2)), some (.inl (x3)), some (.inr (.inr (x4)))] (r_.toList ++ []) T_ mr sr
set_option maxRecDepth 20000 in
def q_68_96 (E : ox_E) (x0 : Nat) (x1 : Nat) (x2 : Int32) (x3 : Int32) (x4 : Nat) (S : ox_St) (mr sr : Nat) (Q : ox_Q) : Prop :=
  (True ∧ Q (some (.inl ((-1) : Int32))) S)
set_option maxRecDepth 20000 in
set_option maxHeartbeats 4000000 in
theorem f_68_96 {E : ox_E} (hE : ox_mono E) {mr sr : Nat} {x0 : Nat} {x1 : Nat} {x2 : Int32} {x3 : Int32} {x4 : Nat} {S : ox_St} {Q : ox_Q} (h : q_68_96 E x0 x1 x2 x3 x4 S mr sr Q) : k_68_96 E x0 x1 x2 x3 x4 mr sr Q none S := ox_C_fold hE h
set_option maxRecDepth 20000 in
def q_68_81 (E : ox_E) (x0 : Nat) (x1 : Nat) (x2 : Int32) (x3 : Int32) (y0 : Nat) (S : ox_St) (mr sr : Nat) (Q : ox_Q) : Prop :=
  ((¬ y0 = 0 → (2 ≤ 2 ∧ S.K x1 = 4 ∧ 0 ≤ 8 ∧ ∃ mc1 mk2, mc1 ≤ mr ∧ mk2 ≤ sr ∧ E 19 [.inr (.inr (x1)), .inr (.inr (y0))] mc1 mk2 S (k_68_96 E x0 x1 x2 x3 y0 (mr - mc1) (sr - mk2) Q))) ∧ (y0 = 0 → (True ∧ Q (some (.inl (4 : Int32))) S)))
set_option maxRecDepth 20000 in
set_option maxHeartbeats 4000000 in
theorem f_68_81 {E : ox_E} (hE : ox_mono E) {mr sr : Nat} {x0 : Nat} {x1 : Nat} {x2 : Int32} {x3 : Int32} {y0 : Nat} {S : ox_St} {Q : ox_Q} (h : q_68_81 E x0 x1 x2 x3 y0 S mr sr Q) : k_68_81 E x0 x1 x2 x3 mr sr Q (some (.inr (.inr (y0)))) S := ox_C_fold hE h
set_option maxRecDepth 20000 in
def q_68_67 (E : ox_E) (x0 : Nat) (x1 : Nat) (x2 : Int32) (x3 : Int32) (y0 : Nat) (S : ox_St) (mr sr : Nat) (Q : ox_Q) : Prop :=
  ((¬ y0 = 0 → (2 ≤ 2 ∧ S.K x1 = 4 ∧ 0 ≤ 8 ∧ ∃ mc1 mk2, mc1 ≤ mr ∧ mk2 ≤ sr ∧ E 19 [.inr (.inr (x1)), .inr (.inr (y0))] mc1 mk2 S (k_68_96 E x0 x1 x2 x3 y0 (mr - mc1) (sr - mk2) Q))) ∧ (y0 = 0 → (True ∧ Q (some (.inl (4 : Int32))) S)))
set_option maxRecDepth 20000 in
set_option maxHeartbeats 4000000 in
theorem f_68_67 {E : ox_E} (hE : ox_mono E) {mr sr : Nat} {x0 : Nat} {x1 : Nat} {x2 : Int32} {x3 : Int32} {y0 : Nat} {S : ox_St} {Q : ox_Q} (h : q_68_67 E x0 x1 x2 x3 y0 S mr sr Q) : k_68_67 E x0 x1 x2 x3 mr sr Q (some (.inr (.inr (y0)))) S := ox_C_fold hE h
set_option maxRecDepth 20000 in
def q_68 (E : ox_E) (x0 : Nat) (x1 : Nat) (x2 : Int32) (x3 : Int32) (S : ox_St) (mr sr : Nat) (Q : ox_Q) : Prop :=
  ((¬ x2 = 100 → ((¬ x2 = 101 → (2 ≤ 2 ∧ S.K x1 = 4 ∧ 0 ≤ 8 ∧ ∃ mc1 mk2, mc1 ≤ mr ∧ mk2 ≤ sr ∧ E 24 [.inr (.inr (x1)), .inl (x3)] mc1 mk2 S (k_68_81 E x0 x1 x2 x3 (mr - mc1) (sr - mk2) Q))) ∧ (x2 = 101 → (ox_has (S.K x1) 18 = true ∧ (ox_has (S.K (S.R 18 x1)) 12 = true ∧ (ox_rdL (S.K (S.R 12 (S.R 18 x1))) = true ∧ (((Int32.ofNat (S.len (S.R 12 (S.R 18 x1)))) ≤ x3 → ((¬ (0 : Nat) = 0 → (2 ≤ 2 ∧ S.K x1 = 4 ∧ 0 ≤ 8 ∧ ∃ mc3 mk4, mc3 ≤ mr ∧ mk4 ≤ sr ∧ E 19 [.inr (.inr (x1)), .inr (.inr (0))] mc3 mk4 S (k_68_96 E x0 x1 x2 x3 0 (mr - mc3) (sr - mk4) Q))) ∧ ((0 : Nat) = 0 → (True ∧ Q (some (.inl (4 : Int32))) S)))) ∧ (¬ (Int32.ofNat (S.len (S.R 12 (S.R 18 x1)))) ≤ x3 → (ox_has (S.K x1) 18 = true ∧ (ox_has (S.K (S.R 18 x1)) 12 = true ∧ (ox_rdJ (S.K (S.R 12 (S.R 18 x1))) = true ∧ vp_in x3 (S.len (S.R 12 (S.R 18 x1))) ∧ (2 ≤ 2 ∧ S.K x0 = 7 ∧ 0 ≤ 8 ∧ ∃ mc5 mk6, mc5 ≤ mr ∧ mk6 ≤ sr ∧ E 71 [.inr (.inr (x0)), .inr (.inl (S.rJ (S.R 12 (S.R 18 x1)) (Int32.toNatClampNeg x3)))] mc5 mk6 S (k_68_67 E x0 x1 x2 x3 (mr - mc5) (sr - mk6) Q))))))))))))) ∧ (x2 = 100 → (ox_has (S.K x1) 18 = true ∧ (ox_has (S.K (S.R 18 x1)) 11 = true ∧ (ox_rdL (S.K (S.R 11 (S.R 18 x1))) = true ∧ (((Int32.ofNat (S.len (S.R 11 (S.R 18 x1)))) ≤ x3 → ((¬ (0 : Nat) = 0 → (2 ≤ 2 ∧ S.K x1 = 4 ∧ 0 ≤ 8 ∧ ∃ mc7 mk8, mc7 ≤ mr ∧ mk8 ≤ sr ∧ E 19 [.inr (.inr (x1)), .inr (.inr (0))] mc7 mk8 S (k_68_96 E x0 x1 x2 x3 0 (mr - mc7) (sr - mk8) Q))) ∧ ((0 : Nat) = 0 → (True ∧ Q (some (.inl (4 : Int32))) S)))) ∧ (¬ (Int32.ofNat (S.len (S.R 11 (S.R 18 x1)))) ≤ x3 → (ox_has (S.K x1) 18 = true ∧ (ox_has (S.K (S.R 18 x1)) 11 = true ∧ (ox_rdR (S.K (S.R 11 (S.R 18 x1))) = true ∧ vp_in x3 (S.len (S.R 11 (S.R 18 x1))) ∧ ((¬ (S.rR (S.R 11 (S.R 18 x1)) (Int32.toNatClampNeg x3)) = 0 → (2 ≤ 2 ∧ S.K x1 = 4 ∧ 0 ≤ 8 ∧ ∃ mc9 mk10, mc9 ≤ mr ∧ mk10 ≤ sr ∧ E 19 [.inr (.inr (x1)), .inr (.inr (S.rR (S.R 11 (S.R 18 x1)) (Int32.toNatClampNeg x3)))] mc9 mk10 S (k_68_96 E x0 x1 x2 x3 (S.rR (S.R 11 (S.R 18 x1)) (Int32.toNatClampNeg x3)) (mr - mc9) (sr - mk10) Q))) ∧ ((S.rR (S.R 11 (S.R 18 x1)) (Int32.toNatClampNeg x3)) = 0 → (True ∧ Q (some (.inl (4 : Int32))) S)))))))))))))
set_option maxRecDepth 20000 in
set_option maxHeartbeats 4000000 in
theorem f_68 {sp : ox_E} (hsp : ox_mono sp) {d : Nat} {mr sr : Nat} {x0 : Nat} {x1 : Nat} {x2 : Int32} {x3 : Int32} {S : ox_St} {Q : ox_Q} (h : q_68 (ox_M sp d) x0 x1 x2 x3 S mr sr Q) : ox_M sp (d + 1) 68 [.inr (.inr (x0)), .inr (.inr (x1)), .inl (x2), .inl (x3)] mr sr S Q := Or.inr ⟨Nat.le_of_ble_eq_true rfl, ox_C_fold (ox_M_mono hsp d) h⟩
/-! OpcodeFrames$Machine.keep(LOpcodeFrames$Frame;II)I -/
def k_69_12 (E : ox_E) (x0 : Nat) (x1 : Nat) (x2 : Int32) (x3 : Int32) (y1 : Int32) (y2 : Nat) (mr sr : Nat) (Q : ox_Q) : ox_Q := fun r_ T_ => ox_C E (ox_mi 69).2.2.2.1 (ox_mc 69) (ox_cut 69) Q 12 [some (.inr (.inr (x0))), some (.inr (.inr (x1))), some (.inl (x2)), some (.inl (x3)), none, none, none] (r_.toList ++ [.inl (y1), .inr (.inr (y2))]) T_ mr sr
def k_69_15 (E : ox_E) (x0 : Nat) (x1 : Nat) (x2 : Int32) (x3 : Int32) (mr sr : Nat) (Q : ox_Q) : ox_Q := fun r_ T_ => ox_C E (ox_mi 69).2.2.2.1 (ox_mc 69) (ox_cut 69) Q 15 [some (.inr (.inr (x0))), some (.inr (.inr (x1))), some (.inl (x2)), some (.inl (x3)), none, none, none] (r_.toList ++ []) T_ mr sr
def k_69_50 (E : ox_E) (x0 : Nat) (x1 : Nat) (x2 : Int32) (x3 : Int32) (x4 : Int64) (mr sr : Nat) (Q : ox_Q) : ox_Q := fun r_ T_ => ox_C E (ox_mi 69).2.2.2.1 (ox_mc 69) (ox_cut 69) Q 50 [some (.inr (.inr (x0))), some (.inr (.inr (x1))), some (.inl (x2)), some (.inl (x3)), some (.inr (.inl (x4))), none, none] (r_.toList ++ []) T_ mr sr
def k_69_100 (E : ox_E) (x0 : Nat) (x1 : Nat) (x2 : Int32) (x3 : Int32) (x4 : Int64) (x6 : Int32) (y1 : Int32) (y2 : Nat) (mr sr : Nat) (Q : ox_Q) : ox_Q := fun r_ T_ => ox_C E (ox_mi 69).2.2.2.1 (ox_mc 69) (ox_cut 69) Q 100 [some (.inr (.inr (x0))), some (.inr (.inr (x1))), some (.inl (x2)), some (.inl (x3)), some (.inr (.inl (x4))), none, some (.inl (x6))] (r_.toList ++ [.inl (y1), .inr (.inr (y2))]) T_ mr sr
set_option maxRecDepth 20000 in
def q_69_100 (E : ox_E) (x0 : Nat) (x1 : Nat) (x2 : Int32) (x3 : Int32) (x4 : Int64) (x6 : Int32) (y0 : Nat) (y1 : Int32) (y2 : Nat) (S : ox_St) (mr sr : Nat) (Q : ox_Q) : Prop :=
  (ox_rdR (S.K y2) = true ∧ vp_in y1 (S.len y2) ∧ (y0 = 0 ∨ ox_asg (S.K y2) (S.K y0) = true) ∧ (let S1 := S.wR y2 (Int32.toNatClampNeg y1) y0
  (True ∧ Q (some (.inl ((-1) : Int32))) S1)))
set_option maxRecDepth 20000 in
set_option maxHeartbeats 4000000 in
theorem f_69_100 {E : ox_E} (hE : ox_mono E) {mr sr : Nat} {x0 : Nat} {x1 : Nat} {x2 : Int32} {x3 : Int32} {x4 : Int64} {x6 : Int32} {y0 : Nat} {y1 : Int32} {y2 : Nat} {S : ox_St} {Q : ox_Q} (h : q_69_100 E x0 x1 x2 x3 x4 x6 y0 y1 y2 S mr sr Q) : k_69_100 E x0 x1 x2 x3 x4 x6 y1 y2 mr sr Q (some (.inr (.inr (y0)))) S := ox_C_fold hE h
set_option maxRecDepth 20000 in
def q_69_50 (E : ox_E) (x0 : Nat) (x1 : Nat) (x2 : Int32) (x3 : Int32) (x4 : Int64) (y0 : Int32) (S : ox_St) (mr sr : Nat) (Q : ox_Q) : Prop :=
  ((y0 < 16 → (ox_has (S.K x0) 43 = true ∧ ((¬ y0 = (S.I 43 x0) → (ox_has (S.K x0) 42 = true ∧ (1 ≤ 3 ∧ S.K x1 = 4 ∧ 2 ≤ 8 ∧ ∃ mc1 mk2, mc1 ≤ mr ∧ mk2 ≤ sr ∧ E 20 [.inr (.inr (x1))] mc1 mk2 S (k_69_100 E x0 x1 x2 x3 x4 y0 y0 (S.R 42 x0) (mr - mc1) (sr - mk2) Q)))) ∧ (y0 = (S.I 43 x0) → (ox_has (S.K x0) 41 = true ∧ (S.K (S.R 41 x0) = 16 ∧ vp_in y0 (S.len (S.R 41 x0)) ∧ (let S3 := S.wJ (S.R 41 x0) (Int32.toNatClampNeg y0) x4
  (ox_has (S3.K x0) 43 = true ∧ (ox_has (S3.K x0) 43 = true ∧ (let S4 := S3.sI 43 x0 ((S3.I 43 x0) + 1)
  (ox_has (S4.K x0) 42 = true ∧ (1 ≤ 3 ∧ S4.K x1 = 4 ∧ 2 ≤ 8 ∧ ∃ mc5 mk6, mc5 ≤ mr ∧ mk6 ≤ sr ∧ E 20 [.inr (.inr (x1))] mc5 mk6 S4 (k_69_100 E x0 x1 x2 x3 x4 y0 y0 (S4.R 42 x0) (mr - mc5) (sr - mk6) Q))))))))))))) ∧ (¬ y0 < 16 → (True ∧ Q (some (.inl (6 : Int32))) S)))
set_option maxRecDepth 20000 in
set_option maxHeartbeats 4000000 in
theorem f_69_50 {E : ox_E} (hE : ox_mono E) {mr sr : Nat} {x0 : Nat} {x1 : Nat} {x2 : Int32} {x3 : Int32} {x4 : Int64} {y0 : Int32} {S : ox_St} {Q : ox_Q} (h : q_69_50 E x0 x1 x2 x3 x4 y0 S mr sr Q) : k_69_50 E x0 x1 x2 x3 x4 mr sr Q (some (.inl (y0))) S := ox_C_fold hE h
set_option maxRecDepth 20000 in
def q_69_15 (E : ox_E) (x0 : Nat) (x1 : Nat) (x2 : Int32) (x3 : Int32) (S : ox_St) (mr sr : Nat) (Q : ox_Q) : Prop :=
  (True ∧ Q (some (.inl ((-1) : Int32))) S)
set_option maxRecDepth 20000 in
set_option maxHeartbeats 4000000 in
theorem f_69_15 {E : ox_E} (hE : ox_mono E) {mr sr : Nat} {x0 : Nat} {x1 : Nat} {x2 : Int32} {x3 : Int32} {S : ox_St} {Q : ox_Q} (h : q_69_15 E x0 x1 x2 x3 S mr sr Q) : k_69_15 E x0 x1 x2 x3 mr sr Q none S := ox_C_fold hE h
set_option maxRecDepth 20000 in
def q_69_12 (E : ox_E) (x0 : Nat) (x1 : Nat) (x2 : Int32) (x3 : Int32) (y0 : Nat) (y1 : Int32) (y2 : Nat) (S : ox_St) (mr sr : Nat) (Q : ox_Q) : Prop :=
  (3 ≤ 3 ∧ S.K y2 = 4 ∧ 0 ≤ 8 ∧ ∃ mc1 mk2, mc1 ≤ mr ∧ mk2 ≤ sr ∧ E 25 [.inr (.inr (y2)), .inl (y1), .inr (.inr (y0))] mc1 mk2 S (k_69_15 E x0 x1 x2 x3 (mr - mc1) (sr - mk2) Q))
set_option maxRecDepth 20000 in
set_option maxHeartbeats 4000000 in
theorem f_69_12 {E : ox_E} (hE : ox_mono E) {mr sr : Nat} {x0 : Nat} {x1 : Nat} {x2 : Int32} {x3 : Int32} {y0 : Nat} {y1 : Int32} {y2 : Nat} {S : ox_St} {Q : ox_Q} (h : q_69_12 E x0 x1 x2 x3 y0 y1 y2 S mr sr Q) : k_69_12 E x0 x1 x2 x3 y1 y2 mr sr Q (some (.inr (.inr (y0)))) S := ox_C_fold hE h
set_option maxRecDepth 20000 in
def q_69 (E : ox_E) (x0 : Nat) (x1 : Nat) (x2 : Int32) (x3 : Int32) (S : ox_St) (mr sr : Nat) (Q : ox_Q) : Prop :=
  ((¬ x2 = 125 → (ox_has (S.K x1) 18 = true ∧ (ox_has (S.K (S.R 18 x1)) 12 = true ∧ (ox_rdL (S.K (S.R 12 (S.R 18 x1))) = true ∧ (((Int32.ofNat (S.len (S.R 12 (S.R 18 x1)))) ≤ x3 → (2 ≤ 2 ∧ S.K x0 = 7 ∧ 0 ≤ 8 ∧ ∃ mc1 mk2, mc1 ≤ mr ∧ mk2 ≤ sr ∧ E 70 [.inr (.inr (x0)), .inr (.inl (0))] mc1 mk2 S (k_69_50 E x0 x1 x2 x3 0 (mr - mc1) (sr - mk2) Q))) ∧ (¬ (Int32.ofNat (S.len (S.R 12 (S.R 18 x1)))) ≤ x3 → (ox_has (S.K x1) 18 = true ∧ (ox_has (S.K (S.R 18 x1)) 12 = true ∧ (ox_rdJ (S.K (S.R 12 (S.R 18 x1))) = true ∧ vp_in x3 (S.len (S.R 12 (S.R 18 x1))) ∧ (let w3 : Int64 := S.rJ (S.R 12 (S.R 18 x1)) (Int32.toNatClampNeg x3)
  (2 ≤ 2 ∧ S.K x0 = 7 ∧ 0 ≤ 8 ∧ ∃ mc4 mk5, mc4 ≤ mr ∧ mk5 ≤ sr ∧ E 70 [.inr (.inr (x0)), .inr (.inl (w3))] mc4 mk5 S (k_69_50 E x0 x1 x2 x3 w3 (mr - mc4) (sr - mk5) Q)))))))))))) ∧ (x2 = 125 → (1 ≤ 3 ∧ S.K x1 = 4 ∧ 2 ≤ 8 ∧ ∃ mc6 mk7, mc6 ≤ mr ∧ mk7 ≤ sr ∧ E 20 [.inr (.inr (x1))] mc6 mk7 S (k_69_12 E x0 x1 x2 x3 x3 x1 (mr - mc6) (sr - mk7) Q))))
set_option maxRecDepth 20000 in
set_option maxHeartbeats 4000000 in
theorem f_69 {sp : ox_E} (hsp : ox_mono sp) {d : Nat} {mr sr : Nat} {x0 : Nat} {x1 : Nat} {x2 : Int32} {x3 : Int32} {S : ox_St} {Q : ox_Q} (h : q_69 (ox_M sp d) x0 x1 x2 x3 S mr sr Q) : ox_M sp (d + 1) 69 [.inr (.inr (x0)), .inr (.inr (x1)), .inl (x2), .inl (x3)] mr sr S Q := Or.inr ⟨Nat.le_of_ble_eq_true rfl, ox_C_fold (ox_M_mono hsp d) h⟩
/-! OpcodeFrames$Machine.slotOf(J)I -/
def c_70_2 (E : ox_E) (x0 : Nat) (x1 : Int64) (x3 : Int32) (S : ox_St) (mr sr : Nat) (Q : ox_Q) : Prop := ox_C E (ox_mi 70).2.2.2.1 (ox_mc 70) (ox_cut 70) Q 2 [some (.inr (.inr (x0))), some (.inr (.inl (x1))), none, some (.inl (x3))] [] S mr sr
set_option maxRecDepth 20000 in
def q_70_2 (E : ox_E) (x0 : Nat) (x1 : Int64) (x3 : Int32) (S : ox_St) (mr sr : Nat) (Q : ox_Q) : Prop :=
  (ox_has (S.K x0) 43 = true ∧ (((S.I 43 x0) ≤ x3 → (True ∧ Q (some (.inl x3)) S)) ∧ (¬ (S.I 43 x0) ≤ x3 → (((16 : Int32) ≤ x3 → (True ∧ Q (some (.inl x3)) S)) ∧ (¬ (16 : Int32) ≤ x3 → (ox_has (S.K x0) 41 = true ∧ (ox_rdJ (S.K (S.R 41 x0)) = true ∧ vp_in x3 (S.len (S.R 41 x0)) ∧ (((lg_cmp (S.rJ (S.R 41 x0) (Int32.toNatClampNeg x3)) x1) = 0 → (True ∧ Q (some (.inl x3)) S)) ∧ (¬ (lg_cmp (S.rJ (S.R 41 x0) (Int32.toNatClampNeg x3)) x1) = 0 → c_70_2 E x0 x1 (x3 + 1) S mr sr Q)))))))))
set_option maxRecDepth 20000 in
set_option maxHeartbeats 4000000 in
theorem f_70_2 {E : ox_E} (hE : ox_mono E) {mr sr : Nat} {x0 : Nat} {x1 : Int64} {x3 : Int32} {S : ox_St} {Q : ox_Q} (h : q_70_2 E x0 x1 x3 S mr sr Q) : c_70_2 E x0 x1 x3 S mr sr Q := ox_C_fold hE h
set_option maxRecDepth 20000 in
def q_70 (E : ox_E) (x0 : Nat) (x1 : Int64) (S : ox_St) (mr sr : Nat) (Q : ox_Q) : Prop :=
  c_70_2 E x0 x1 0 S mr sr Q
set_option maxRecDepth 20000 in
set_option maxHeartbeats 4000000 in
theorem f_70 {sp : ox_E} (hsp : ox_mono sp) {d : Nat} {mr sr : Nat} {x0 : Nat} {x1 : Int64} {S : ox_St} {Q : ox_Q} (h : q_70 (ox_M sp d) x0 x1 S mr sr Q) : ox_M sp (d + 1) 70 [.inr (.inr (x0)), .inr (.inl (x1))] mr sr S Q := Or.inr ⟨Nat.le_of_ble_eq_true rfl, ox_C_fold (ox_M_mono hsp d) h⟩
/-! OpcodeFrames$Machine.namedBy(J)LOpcodeFrames$Value; -/
def k_71_5 (E : ox_E) (x0 : Nat) (x1 : Int64) (mr sr : Nat) (Q : ox_Q) : ox_Q := fun r_ T_ => ox_C E (ox_mi 71).2.2.2.1 (ox_mc 71) (ox_cut 71) Q 5 [some (.inr (.inr (x0))), some (.inr (.inl (x1))), none, none, none] (r_.toList ++ []) T_ mr sr
def c_71_26 (E : ox_E) (x0 : Nat) (x1 : Int64) (x3 : Nat) (x4 : Int32) (S : ox_St) (mr sr : Nat) (Q : ox_Q) : Prop := ox_C E (ox_mi 71).2.2.2.1 (ox_mc 71) (ox_cut 71) Q 26 [some (.inr (.inr (x0))), some (.inr (.inl (x1))), none, some (.inr (.inr (x3))), some (.inl (x4))] [] S mr sr
set_option maxRecDepth 20000 in
def q_71_26 (E : ox_E) (x0 : Nat) (x1 : Int64) (x3 : Nat) (x4 : Int32) (S : ox_St) (mr sr : Nat) (Q : ox_Q) : Prop :=
  ((¬ x3 = 0 → (ox_isR (ox_mi 71).2.2.2.1 = true ∧ Q (some (.inr (.inr x3))) S)) ∧ (x3 = 0 → (((7 : Int32) ≤ x4 → (ox_isR (ox_mi 71).2.2.2.1 = true ∧ Q (some (.inr (.inr x3))) S)) ∧ (¬ (7 : Int32) ≤ x4 → (ox_rdJ (S.K (S.R 143 0)) = true ∧ vp_in x4 (S.len (S.R 143 0)) ∧ ((¬ (lg_cmp x1 (S.rJ (S.R 143 0) (Int32.toNatClampNeg x4))) = 0 → c_71_26 E x0 x1 x3 (x4 + 1) S mr sr Q) ∧ ((lg_cmp x1 (S.rJ (S.R 143 0) (Int32.toNatClampNeg x4))) = 0 → (ox_has (S.K x0) 47 = true ∧ (ox_rdR (S.K (S.R 47 x0)) = true ∧ vp_in x4 (S.len (S.R 47 x0)) ∧ c_71_26 E x0 x1 (S.rR (S.R 47 x0) (Int32.toNatClampNeg x4)) (x4 + 1) S mr sr Q)))))))))
set_option maxRecDepth 20000 in
set_option maxHeartbeats 4000000 in
theorem f_71_26 {E : ox_E} (hE : ox_mono E) {mr sr : Nat} {x0 : Nat} {x1 : Int64} {x3 : Nat} {x4 : Int32} {S : ox_St} {Q : ox_Q} (h : q_71_26 E x0 x1 x3 x4 S mr sr Q) : c_71_26 E x0 x1 x3 x4 S mr sr Q := ox_C_fold hE h
set_option maxRecDepth 20000 in
def q_71_5 (E : ox_E) (x0 : Nat) (x1 : Int64) (y0 : Nat) (S : ox_St) (mr sr : Nat) (Q : ox_Q) : Prop :=
  ((¬ y0 = 0 → c_71_26 E x0 x1 y0 0 S mr sr Q) ∧ (y0 = 0 → ((¬ (lg_cmp x1 491260897125) = 0 → c_71_26 E x0 x1 y0 0 S mr sr Q) ∧ ((lg_cmp x1 491260897125) = 0 → (ox_has (S.K x0) 46 = true ∧ (ox_isR (ox_mi 71).2.2.2.1 = true ∧ Q (some (.inr (.inr (S.R 46 x0)))) S))))))
set_option maxRecDepth 20000 in
set_option maxHeartbeats 4000000 in
theorem f_71_5 {E : ox_E} (hE : ox_mono E) {mr sr : Nat} {x0 : Nat} {x1 : Int64} {y0 : Nat} {S : ox_St} {Q : ox_Q} (h : q_71_5 E x0 x1 y0 S mr sr Q) : k_71_5 E x0 x1 mr sr Q (some (.inr (.inr (y0)))) S := ox_C_fold hE h
set_option maxRecDepth 20000 in
def q_71 (E : ox_E) (x0 : Nat) (x1 : Int64) (S : ox_St) (mr sr : Nat) (Q : ox_Q) : Prop :=
  (2 ≤ 2 ∧ S.K x0 = 7 ∧ 0 ≤ 8 ∧ ∃ mc1 mk2, mc1 ≤ mr ∧ mk2 ≤ sr ∧ E 45 [.inr (.inr (x0)), .inr (.inl (x1))] mc1 mk2 S (k_71_5 E x0 x1 (mr - mc1) (sr - mk2) Q))
set_option maxRecDepth 20000 in
set_option maxHeartbeats 4000000 in
theorem f_71 {sp : ox_E} (hsp : ox_mono sp) {d : Nat} {mr sr : Nat} {x0 : Nat} {x1 : Int64} {S : ox_St} {Q : ox_Q} (h : q_71 (ox_M sp d) x0 x1 S mr sr Q) : ox_M sp (d + 1) 71 [.inr (.inr (x0)), .inr (.inl (x1))] mr sr S Q := Or.inr ⟨Nat.le_of_ble_eq_true rfl, ox_C_fold (ox_M_mono hsp d) h⟩
/-! OpcodeFrames$Machine.kindOf(LOpcodeFrames$Value;)I -/
set_option maxRecDepth 20000 in
def q_72 (E : ox_E) (x0 : Nat) (S : ox_St) (mr sr : Nat) (Q : ox_Q) : Prop :=
  (ox_has (S.K x0) 6 = true ∧ ((¬ (S.I 6 x0) = 9 → (True ∧ Q (some (.inl (0 : Int32))) S)) ∧ ((S.I 6 x0) = 9 → (ox_has (S.K x0) 7 = true ∧ (True ∧ Q (some (.inl (S.I 7 x0))) S)))))
set_option maxRecDepth 20000 in
set_option maxHeartbeats 4000000 in
theorem f_72 {sp : ox_E} (hsp : ox_mono sp) {d : Nat} {mr sr : Nat} {x0 : Nat} {S : ox_St} {Q : ox_Q} (h : q_72 (ox_M sp d) x0 S mr sr Q) : ox_M sp (d + 1) 72 [.inr (.inr (x0))] mr sr S Q := Or.inr ⟨Nat.le_of_ble_eq_true rfl, ox_C_fold (ox_M_mono hsp d) h⟩
/-! OpcodeFrames$Machine.function(LOpcodeFrames$Frame;)I -/
def k_73_5 (E : ox_E) (x0 : Nat) (mr sr : Nat) (Q : ox_Q) : ox_Q := fun r_ T_ => ox_C E (ox_mi 73).2.2.2.1 (ox_mc 73) (ox_cut 73) Q 5 [some (.inr (.inr (x0))), none, none] (r_.toList ++ []) T_ mr sr
def k_73_28 (E : ox_E) (x0 : Nat) (x1 : Nat) (x2 : Nat) (y0 : Nat) (y1 : Int32) (y2 : Nat) (mr sr : Nat) (Q : ox_Q) : ox_Q := fun r_ T_ => ox_C E (ox_mi 73).2.2.2.1 (ox_mc 73) (ox_cut 73) Q 28 [some (.inr (.inr (x0))), some (.inr (.inr (x1))), some (.inr (.inr (x2)))] (r_.toList ++ [.inr (.inr (y0)), .inl (y1), .inr (.inr (y2))]) T_ mr sr
def k_73_31 (E : ox_E) (x0 : Nat) (x1 : Nat) (x2 : Nat) (mr sr : Nat) (Q : ox_Q) : ox_Q := fun r_ T_ => ox_C E (ox_mi 73).2.2.2.1 (ox_mc 73) (ox_cut 73) Q 31 [some (.inr (.inr (x0))), some (.inr (.inr (x1))), some (.inr (.inr (x2)))] (r_.toList ++ []) T_ mr sr
set_option maxRecDepth 20000 in
def q_73_31 (E : ox_E) (x0 : Nat) (x1 : Nat) (x2 : Nat) (y0 : Int32) (S : ox_St) (mr sr : Nat) (Q : ox_Q) : Prop :=
  (True ∧ Q (some (.inl y0)) S)
set_option maxRecDepth 20000 in
set_option maxHeartbeats 4000000 in
theorem f_73_31 {E : ox_E} (hE : ox_mono E) {mr sr : Nat} {x0 : Nat} {x1 : Nat} {x2 : Nat} {y0 : Int32} {S : ox_St} {Q : ox_Q} (h : q_73_31 E x0 x1 x2 y0 S mr sr Q) : k_73_31 E x0 x1 x2 mr sr Q (some (.inl (y0))) S := ox_C_fold hE h
set_option maxRecDepth 20000 in
def q_73_28 (E : ox_E) (x0 : Nat) (x1 : Nat) (x2 : Nat) (y0 : Nat) (y1 : Int32) (y2 : Nat) (S : ox_St) (mr sr : Nat) (Q : ox_Q) : Prop :=
  (3 ≤ 3 ∧ 0 ≤ 8 ∧ ∃ mc1 mk2, mc1 ≤ mr ∧ mk2 ≤ sr ∧ E 50 [.inr (.inr (y2)), .inl (y1), .inr (.inr (y0))] mc1 mk2 S (k_73_31 E x0 x1 x2 (mr - mc1) (sr - mk2) Q))
set_option maxRecDepth 20000 in
set_option maxHeartbeats 4000000 in
theorem f_73_28 {E : ox_E} (hE : ox_mono E) {mr sr : Nat} {x0 : Nat} {x1 : Nat} {x2 : Nat} {y0 : Nat} {y1 : Int32} {y2 : Nat} {S : ox_St} {Q : ox_Q} (h : q_73_28 E x0 x1 x2 y0 y1 y2 S mr sr Q) : k_73_28 E x0 x1 x2 y0 y1 y2 mr sr Q none S := ox_C_fold hE h
set_option maxRecDepth 20000 in
def q_73_5 (E : ox_E) (x0 : Nat) (y0 : Nat) (S : ox_St) (mr sr : Nat) (Q : ox_Q) : Prop :=
  ((y0 = 0 ∨ ox_isV (S.K y0) = true) ∧ (((if [3].contains (S.K y0) = true then (1 : Int32) else 0) = 0 → (True ∧ Q (some (.inl (0 : Int32))) S)) ∧ (¬ (if [3].contains (S.K y0) = true then (1 : Int32) else 0) = 0 → ((y0 = 0 ∨ [3].contains (S.K y0) = true) ∧ (1 ≤ mr ∧ 3 ≤ sr ∧ (let S1 := S.newO 5
  (2 ≤ 5 ∧ S.n ≠ 0 ∧ 3 ≤ 8 ∧ ∃ mc2 mk3, mc2 ≤ (mr - 1) ∧ mk3 ≤ (sr - 3) ∧ E 28 [.inr (.inr (S.n)), .inr (.inr (y0))] mc2 mk3 S1 (k_73_28 E x0 y0 y0 S.n 1 x0 ((mr - 1) - mc2) ((sr - 3) - mk3) Q))))))))
set_option maxRecDepth 20000 in
set_option maxHeartbeats 4000000 in
theorem f_73_5 {E : ox_E} (hE : ox_mono E) {mr sr : Nat} {x0 : Nat} {y0 : Nat} {S : ox_St} {Q : ox_Q} (h : q_73_5 E x0 y0 S mr sr Q) : k_73_5 E x0 mr sr Q (some (.inr (.inr (y0)))) S := ox_C_fold hE h
set_option maxRecDepth 20000 in
def q_73 (E : ox_E) (x0 : Nat) (S : ox_St) (mr sr : Nat) (Q : ox_Q) : Prop :=
  (2 ≤ 2 ∧ S.K x0 = 4 ∧ 0 ≤ 8 ∧ ∃ mc1 mk2, mc1 ≤ mr ∧ mk2 ≤ sr ∧ E 21 [.inr (.inr (x0)), .inl (0)] mc1 mk2 S (k_73_5 E x0 (mr - mc1) (sr - mk2) Q))
set_option maxRecDepth 20000 in
set_option maxHeartbeats 4000000 in
theorem f_73 {sp : ox_E} (hsp : ox_mono sp) {d : Nat} {mr sr : Nat} {x0 : Nat} {S : ox_St} {Q : ox_Q} (h : q_73 (ox_M sp d) x0 S mr sr Q) : ox_M sp (d + 1) 73 [.inr (.inr (x0))] mr sr S Q := Or.inr ⟨Nat.le_of_ble_eq_true rfl, ox_C_fold (ox_M_mono hsp d) h⟩
/-! OpcodeFrames$Machine.call(LOpcodeFrames$Frame;I)I -/
def k_74_5 (E : ox_E) (x0 : Nat) (x1 : Nat) (x2 : Int32) (mr sr : Nat) (Q : ox_Q) : ox_Q := fun r_ T_ => ox_C E (ox_mi 74).2.2.2.1 (ox_mc 74) (ox_cut 74) Q 5 [some (.inr (.inr (x0))), some (.inr (.inr (x1))), some (.inl (x2)), none, none] (r_.toList ++ []) T_ mr sr
def k_74_30 (E : ox_E) (x0 : Nat) (x1 : Nat) (x2 : Int32) (x3 : Nat) (x4 : Nat) (mr sr : Nat) (Q : ox_Q) : ox_Q := fun r_ T_ => ox_C E (ox_mi 74).2.2.2.1 (ox_mc 74) (ox_cut 74) Q 30 [some (.inr (.inr (x0))), some (.inr (.inr (x1))), some (.inl (x2)), some (.inr (.inr (x3))), some (.inr (.inr (x4)))] (r_.toList ++ []) T_ mr sr
def k_74_46 (E : ox_E) (x0 : Nat) (x1 : Nat) (x2 : Int32) (x3 : Nat) (mr sr : Nat) (Q : ox_Q) : ox_Q := fun r_ T_ => ox_C E (ox_mi 74).2.2.2.1 (ox_mc 74) (ox_cut 74) Q 46 [some (.inr (.inr (x0))), some (.inr (.inr (x1))), some (.inl (x2)), some (.inr (.inr (x3))), none] (r_.toList ++ []) T_ mr sr
set_option maxRecDepth 20000 in
def q_74_46 (E : ox_E) (x0 : Nat) (x1 : Nat) (x2 : Int32) (x3 : Nat) (y0 : Int32) (S : ox_St) (mr sr : Nat) (Q : ox_Q) : Prop :=
  (True ∧ Q (some (.inl y0)) S)
set_option maxRecDepth 20000 in
set_option maxHeartbeats 4000000 in
theorem f_74_46 {E : ox_E} (hE : ox_mono E) {mr sr : Nat} {x0 : Nat} {x1 : Nat} {x2 : Int32} {x3 : Nat} {y0 : Int32} {S : ox_St} {Q : ox_Q} (h : q_74_46 E x0 x1 x2 x3 y0 S mr sr Q) : k_74_46 E x0 x1 x2 x3 mr sr Q (some (.inl (y0))) S := ox_C_fold hE h
set_option maxRecDepth 20000 in
def q_74_30 (E : ox_E) (x0 : Nat) (x1 : Nat) (x2 : Int32) (x3 : Nat) (x4 : Nat) (y0 : Int32) (S : ox_St) (mr sr : Nat) (Q : ox_Q) : Prop :=
  (True ∧ Q (some (.inl y0)) S)
set_option maxRecDepth 20000 in
set_option maxHeartbeats 4000000 in
theorem f_74_30 {E : ox_E} (hE : ox_mono E) {mr sr : Nat} {x0 : Nat} {x1 : Nat} {x2 : Int32} {x3 : Nat} {x4 : Nat} {y0 : Int32} {S : ox_St} {Q : ox_Q} (h : q_74_30 E x0 x1 x2 x3 x4 y0 S mr sr Q) : k_74_30 E x0 x1 x2 x3 x4 mr sr Q (some (.inl (y0))) S := ox_C_fold hE h
set_option maxRecDepth 20000 in
def q_74_5 (E : ox_E) (x0 : Nat) (x1 : Nat) (x2 : Int32) (y0 : Nat) (S : ox_St) (mr sr : Nat) (Q : ox_Q) : Prop :=
  ((y0 = 0 ∨ ox_isV (S.K y0) = true) ∧ (((if [5].contains (S.K y0) = true then (1 : Int32) else 0) = 0 → (ox_has (S.K y0) 6 = true ∧ ((¬ (S.I 6 y0) = 8 → (True ∧ Q (some (.inl (0 : Int32))) S)) ∧ ((S.I 6 y0) = 8 → (3 ≤ 3 ∧ S.K x0 = 7 ∧ 0 ≤ 8 ∧ ∃ mc1 mk2, mc1 ≤ mr ∧ mk2 ≤ sr ∧ E 76 [.inr (.inr (x0)), .inr (.inr (x1)), .inl (x2)] mc1 mk2 S (k_74_46 E x0 x1 x2 y0 (mr - mc1) (sr - mk2) Q)))))) ∧ (¬ (if [5].contains (S.K y0) = true then (1 : Int32) else 0) = 0 → ((y0 = 0 ∨ [5].contains (S.K y0) = true) ∧ (ox_has (S.K y0) 22 = true ∧ (4 ≤ 4 ∧ S.K x0 = 7 ∧ 0 ≤ 8 ∧ ∃ mc3 mk4, mc3 ≤ mr ∧ mk4 ≤ sr ∧ E 75 [.inr (.inr (x0)), .inr (.inr (x1)), .inr (.inr (S.R 22 y0)), .inl (x2)] mc3 mk4 S (k_74_30 E x0 x1 x2 y0 y0 (mr - mc3) (sr - mk4) Q)))))))
set_option maxRecDepth 20000 in
set_option maxHeartbeats 4000000 in
theorem f_74_5 {E : ox_E} (hE : ox_mono E) {mr sr : Nat} {x0 : Nat} {x1 : Nat} {x2 : Int32} {y0 : Nat} {S : ox_St} {Q : ox_Q} (h : q_74_5 E x0 x1 x2 y0 S mr sr Q) : k_74_5 E x0 x1 x2 mr sr Q (some (.inr (.inr (y0)))) S := ox_C_fold hE h
set_option maxRecDepth 20000 in
def q_74 (E : ox_E) (x0 : Nat) (x1 : Nat) (x2 : Int32) (S : ox_St) (mr sr : Nat) (Q : ox_Q) : Prop :=
  (2 ≤ 2 ∧ S.K x1 = 4 ∧ 0 ≤ 8 ∧ ∃ mc1 mk2, mc1 ≤ mr ∧ mk2 ≤ sr ∧ E 21 [.inr (.inr (x1)), .inl (x2)] mc1 mk2 S (k_74_5 E x0 x1 x2 (mr - mc1) (sr - mk2) Q))
set_option maxRecDepth 20000 in
set_option maxHeartbeats 4000000 in
theorem f_74 {sp : ox_E} (hsp : ox_mono sp) {d : Nat} {mr sr : Nat} {x0 : Nat} {x1 : Nat} {x2 : Int32} {S : ox_St} {Q : ox_Q} (h : q_74 (ox_M sp d) x0 x1 x2 S mr sr Q) : ox_M sp (d + 1) 74 [.inr (.inr (x0)), .inr (.inr (x1)), .inl (x2)] mr sr S Q := Or.inr ⟨Nat.le_of_ble_eq_true rfl, ox_C_fold (ox_M_mono hsp d) h⟩
/-! OpcodeFrames$Machine.enter(LOpcodeFrames$Frame;LOpcodeFrames$Code;I)I -/
def k_75_38 (E : ox_E) (x0 : Nat) (x1 : Nat) (x2 : Nat) (x3 : Int32) (x4 : Nat) (mr sr : Nat) (Q : ox_Q) : ox_Q := fun r_ T_ => ox_C E (ox_mi 75).2.2.2.1 (ox_mc 75) (ox_cut 75) Q 38 [some (.inr (.inr (x0))), some (.inr (.inr (x1))), some (.inr (.inr (x2))), some (.inl (x3)), some (.inr (.inr (x4))), none] (r_.toList ++ []) T_ mr sr
def c_75_41 (E : ox_E) (x0 : Nat) (x1 : Nat) (x2 : Nat) (x3 : Int32) (x4 : Nat) (x5 : Int32) (S : ox_St) (mr sr : Nat) (Q : ox_Q) : Prop := ox_C E (ox_mi 75).2.2.2.1 (ox_mc 75) (ox_cut 75) Q 41 [some (.inr (.inr (x0))), some (.inr (.inr (x1))), some (.inr (.inr (x2))), some (.inl (x3)), some (.inr (.inr (x4))), some (.inl (x5))] [] S mr sr
def k_75_61 (E : ox_E) (x0 : Nat) (x1 : Nat) (x2 : Nat) (x3 : Int32) (x4 : Nat) (x5 : Int32) (y1 : Int32) (y2 : Nat) (mr sr : Nat) (Q : ox_Q) : ox_Q := fun r_ T_ => ox_C E (ox_mi 75).2.2.2.1 (ox_mc 75) (ox_cut 75) Q 61 [some (.inr (.inr (x0))), some (.inr (.inr (x1))), some (.inr (.inr (x2))), some (.inl (x3)), some (.inr (.inr (x4))), some (.inl (x5))] (r_.toList ++ [.inl (y1), .inr (.inr (y2))]) T_ mr sr
def k_75_64 (E : ox_E) (x0 : Nat) (x1 : Nat) (x2 : Nat) (x3 : Int32) (x4 : Nat) (x5 : Int32) (mr sr : Nat) (Q : ox_Q) : ox_Q := fun r_ T_ => ox_C E (ox_mi 75).2.2.2.1 (ox_mc 75) (ox_cut 75) Q 64 [some (.inr (.inr (x0))), some (.inr (.inr (x1))), some (.inr (.inr (x2))), some (.inl (x3)), some (.inr (.inr (x4))), some (.inl (x5))] (r_.toList ++ []) T_ mr sr
def k_75_77 (E : ox_E) (x0 : Nat) (x1 : Nat) (x2 : Nat) (x3 : Int32) (x4 : Nat) (x5 : Int32) (mr sr : Nat) (Q : ox_Q) : ox_Q := fun r_ T_ => ox_C E (ox_mi 75).2.2.2.1 (ox_mc 75) (ox_cut 75) Q 77 [some (.inr (.inr (x0))), some (.inr (.inr (x1))), some (.inr (.inr (x2))), some (.inl (x3)), some (.inr (.inr (x4))), some (.inl (x5))] (r_.toList ++ []) T_ mr sr
set_option maxRecDepth 20000 in
def q_75_77 (E : ox_E) (x0 : Nat) (x1 : Nat) (x2 : Nat) (x3 : Int32) (x4 : Nat) (x5 : Int32) (S : ox_St) (mr sr : Nat) (Q : ox_Q) : Prop :=
  (ox_has (S.K x0) 35 = true ∧ (ox_has (S.K x0) 35 = true ∧ (let S1 := S.sI 35 x0 ((S.I 35 x0) + 1)
  (True ∧ Q (some (.inl ((-1) : Int32))) S1))))
set_option maxRecDepth 20000 in
set_option maxHeartbeats 4000000 in
theorem f_75_77 {E : ox_E} (hE : ox_mono E) {mr sr : Nat} {x0 : Nat} {x1 : Nat} {x2 : Nat} {x3 : Int32} {x4 : Nat} {x5 : Int32} {S : ox_St} {Q : ox_Q} (h : q_75_77 E x0 x1 x2 x3 x4 x5 S mr sr Q) : k_75_77 E x0 x1 x2 x3 x4 x5 mr sr Q none S := ox_C_fold hE h
set_option maxRecDepth 20000 in
def q_75_64 (E : ox_E) (x0 : Nat) (x1 : Nat) (x2 : Nat) (x3 : Int32) (x4 : Nat) (x5 : Int32) (S : ox_St) (mr sr : Nat) (Q : ox_Q) : Prop :=
  c_75_41 E x0 x1 x2 x3 x4 (x5 + 1) S mr sr Q
set_option maxRecDepth 20000 in
set_option maxHeartbeats 4000000 in
theorem f_75_64 {E : ox_E} (hE : ox_mono E) {mr sr : Nat} {x0 : Nat} {x1 : Nat} {x2 : Nat} {x3 : Int32} {x4 : Nat} {x5 : Int32} {S : ox_St} {Q : ox_Q} (h : q_75_64 E x0 x1 x2 x3 x4 x5 S mr sr Q) : k_75_64 E x0 x1 x2 x3 x4 x5 mr sr Q none S := ox_C_fold hE h
set_option maxRecDepth 20000 in
def q_75_61 (E : ox_E) (x0 : Nat) (x1 : Nat) (x2 : Nat) (x3 : Int32) (x4 : Nat) (x5 : Int32) (y0 : Nat) (y1 : Int32) (y2 : Nat) (S : ox_St) (mr sr : Nat) (Q : ox_Q) : Prop :=
  (3 ≤ 3 ∧ S.K y2 = 4 ∧ 0 ≤ 8 ∧ ∃ mc1 mk2, mc1 ≤ mr ∧ mk2 ≤ sr ∧ E 25 [.inr (.inr (y2)), .inl (y1), .inr (.inr (y0))] mc1 mk2 S (k_75_64 E x0 x1 x2 x3 x4 x5 (mr - mc1) (sr - mk2) Q))
set_option maxRecDepth 20000 in
set_option maxHeartbeats 4000000 in
theorem f_75_61 {E : ox_E} (hE : ox_mono E) {mr sr : Nat} {x0 : Nat} {x1 : Nat} {x2 : Nat} {x3 : Int32} {x4 : Nat} {x5 : Int32} {y0 : Nat} {y1 : Int32} {y2 : Nat} {S : ox_St} {Q : ox_Q} (h : q_75_61 E x0 x1 x2 x3 x4 x5 y0 y1 y2 S mr sr Q) : k_75_61 E x0 x1 x2 x3 x4 x5 y1 y2 mr sr Q (some (.inr (.inr (y0)))) S := ox_C_fold hE h
set_option maxRecDepth 20000 in
def q_75_41 (E : ox_E) (x0 : Nat) (x1 : Nat) (x2 : Nat) (x3 : Int32) (x4 : Nat) (x5 : Int32) (S : ox_St) (mr sr : Nat) (Q : ox_Q) : Prop :=
  ((x3 ≤ x5 → (2 ≤ 2 ∧ S.K x1 = 4 ∧ 0 ≤ 8 ∧ ∃ mc1 mk2, mc1 ≤ mr ∧ mk2 ≤ sr ∧ E 23 [.inr (.inr (x1)), .inl (x3 + 1)] mc1 mk2 S (k_75_77 E x0 x1 x2 x3 x4 x5 (mr - mc1) (sr - mk2) Q))) ∧ (¬ x3 ≤ x5 → (2 ≤ 4 ∧ S.K x1 = 4 ∧ 2 ≤ 8 ∧ ∃ mc3 mk4, mc3 ≤ mr ∧ mk4 ≤ sr ∧ E 21 [.inr (.inr (x1)), .inl ((x3 - 1) - x5)] mc3 mk4 S (k_75_61 E x0 x1 x2 x3 x4 x5 x5 x4 (mr - mc3) (sr - mk4) Q))))
set_option maxRecDepth 20000 in
set_option maxHeartbeats 4000000 in
theorem f_75_41 {E : ox_E} (hE : ox_mono E) {mr sr : Nat} {x0 : Nat} {x1 : Nat} {x2 : Nat} {x3 : Int32} {x4 : Nat} {x5 : Int32} {S : ox_St} {Q : ox_Q} (h : q_75_41 E x0 x1 x2 x3 x4 x5 S mr sr Q) : c_75_41 E x0 x1 x2 x3 x4 x5 S mr sr Q := ox_C_fold hE h
set_option maxRecDepth 20000 in
def q_75_38 (E : ox_E) (x0 : Nat) (x1 : Nat) (x2 : Nat) (x3 : Int32) (x4 : Nat) (S : ox_St) (mr sr : Nat) (Q : ox_Q) : Prop :=
  c_75_41 E x0 x1 x2 x3 x4 0 S mr sr Q
set_option maxRecDepth 20000 in
set_option maxHeartbeats 4000000 in
theorem f_75_38 {E : ox_E} (hE : ox_mono E) {mr sr : Nat} {x0 : Nat} {x1 : Nat} {x2 : Nat} {x3 : Int32} {x4 : Nat} {S : ox_St} {Q : ox_Q} (h : q_75_38 E x0 x1 x2 x3 x4 S mr sr Q) : k_75_38 E x0 x1 x2 x3 x4 mr sr Q none S := ox_C_fold hE h
set_option maxRecDepth 20000 in
def q_75 (E : ox_E) (x0 : Nat) (x1 : Nat) (x2 : Nat) (x3 : Int32) (S : ox_St) (mr sr : Nat) (Q : ox_Q) : Prop :=
  (ox_has (S.K x2) 7 = true ∧ ((x3 = (S.I 7 x2) → (ox_has (S.K x0) 35 = true ∧ (((S.I 35 x0) < 8 → (ox_has (S.K x0) 34 = true ∧ (ox_has (S.K x0) 35 = true ∧ (ox_rdR (S.K (S.R 34 x0)) = true ∧ vp_in (S.I 35 x0) (S.len (S.R 34 x0)) ∧ (2 ≤ 2 ∧ S.K (S.rR (S.R 34 x0) (Int32.toNatClampNeg (S.I 35 x0))) = 4 ∧ 0 ≤ 8 ∧ ∃ mc1 mk2, mc1 ≤ mr ∧ mk2 ≤ sr ∧ E 18 [.inr (.inr (S.rR (S.R 34 x0) (Int32.toNatClampNeg (S.I 35 x0)))), .inr (.inr (x2))] mc1 mk2 S (k_75_38 E x0 x1 x2 x3 (S.rR (S.R 34 x0) (Int32.toNatClampNeg (S.I 35 x0))) (mr - mc1) (sr - mk2) Q)))))) ∧ (¬ (S.I 35 x0) < 8 → (True ∧ Q (some (.inl (5 : Int32))) S))))) ∧ (¬ x3 = (S.I 7 x2) → (True ∧ Q (some (.inl (0 : Int32))) S))))
set_option maxRecDepth 20000 in
set_option maxHeartbeats 4000000 in
theorem f_75 {sp : ox_E} (hsp : ox_mono sp) {d : Nat} {mr sr : Nat} {x0 : Nat} {x1 : Nat} {x2 : Nat} {x3 : Int32} {S : ox_St} {Q : ox_Q} (h : q_75 (ox_M sp d) x0 x1 x2 x3 S mr sr Q) : ox_M sp (d + 1) 75 [.inr (.inr (x0)), .inr (.inr (x1)), .inr (.inr (x2)), .inl (x3)] mr sr S Q := Or.inr ⟨Nat.le_of_ble_eq_true rfl, ox_C_fold (ox_M_mono hsp d) h⟩
/-! OpcodeFrames$Machine.makeRange(LOpcodeFrames$Frame;I)I -/
def c_76_17 (E : ox_E) (x0 : Nat) (x1 : Nat) (x2 : Int32) (x3 : Int32) (x4 : Int32) (S : ox_St) (mr sr : Nat) (Q : ox_Q) : Prop := ox_C E (ox_mi 76).2.2.2.1 (ox_mc 76) (ox_cut 76) Q 17 [some (.inr (.inr (x0))), some (.inr (.inr (x1))), some (.inl (x2)), some (.inl (x3)), some (.inl (x4)), none, none] [] S mr sr
def k_76_30 (E : ox_E) (x0 : Nat) (x1 : Nat) (x2 : Int32) (x3 : Int32) (x4 : Int32) (y1 : Nat) (mr sr : Nat) (Q : ox_Q) : ox_Q := fun r_ T_ => ox_C E (ox_mi 76).2.2.2.1 (ox_mc 76) (ox_cut 76) Q 30 [some (.inr (.inr (x0))), some (.inr (.inr (x1))), some (.inl (x2)), some (.inl (x3)), some (.inl (x4)), none, none] (r_.toList ++ [.inr (.inr (y1))]) T_ mr sr
def k_76_33 (E : ox_E) (x0 : Nat) (x1 : Nat) (x2 : Int32) (x3 : Int32) (x4 : Int32) (mr sr : Nat) (Q : ox_Q) : ox_Q := fun r_ T_ => ox_C E (ox_mi 76).2.2.2.1 (ox_mc 76) (ox_cut 76) Q 33 [some (.inr (.inr (x0))), some (.inr (.inr (x1))), some (.inl (x2)), some (.inl (x3)), some (.inl (x4)), none, none] (r_.toList ++ []) T_ mr sr
def k_76_51 (E : ox_E) (x0 : Nat) (x1 : Nat) (x2 : Int32) (x3 : Int32) (x4 : Int32) (x5 : Nat) (mr sr : Nat) (Q : ox_Q) : ox_Q := fun r_ T_ => ox_C E (ox_mi 76).2.2.2.1 (ox_mc 76) (ox_cut 76) Q 51 [some (.inr (.inr (x0))), some (.inr (.inr (x1))), some (.inl (x2)), some (.inl (x3)), some (.inl (x4)), some (.inr (.inr (x5))), none] (r_.toList ++ []) T_ mr sr
def k_76_90 (E : ox_E) (x0 : Nat) (x1 : Nat) (x2 : Int32) (x3 : Int32) (x4 : Int32) (mr sr : Nat) (Q : ox_Q) : ox_Q := fun r_ T_ => ox_C E (ox_mi 76).2.2.2.1 (ox_mc 76) (ox_cut 76) Q 90 [some (.inr (.inr (x0))), some (.inr (.inr (x1))), some (.inl (x2)), some (.inl (x3)), some (.inl (x4)), none, none] (r_.toList ++ []) T_ mr sr
def k_76_107 (E : ox_E) (x0 : Nat) (x1 : Nat) (x2 : Int32) (x3 : Int32) (x4 : Int32) (mr sr : Nat) (Q : ox_Q) : ox_Q := fun r_ T_ => ox_C E (ox_mi 76).2.2.2.1 (ox_mc 76) (ox_cut 76) Q 107 [some (.inr (.inr (x0))), some (.inr (.inr (x1))), some (.inl (x2)), some (.inl (x3)), some (.inl (x4)), none, none] (r_.toList ++ []) T_ mr sr
def k_76_120 (E : ox_E) (x0 : Nat) (x1 : Nat) (x2 : Int32) (x3 : Int32) (x4 : Int32) (x5 : Int32) (mr sr : Nat) (Q : ox_Q) : ox_Q := fun r_ T_ => ox_C E (ox_mi 76).2.2.2.1 (ox_mc 76) (ox_cut 76) Q 120 [some (.inr (.inr (x0))), some (.inr (.inr (x1))), some (.inl (x2)), some (.inl (x3)), some (.inl (x4)), some (.inl (x5)), none] (r_.toList ++ []) T_ mr sr
def k_76_152 (E : ox_E) (x0 : Nat) (x1 : Nat) (x2 : Int32) (x3 : Int32) (x4 : Int32) (x5 : Int32) (x6 : Int32) (y0 : Nat) (y1 : Int32) (y2 : Nat) (mr sr : Nat) (Q : ox_Q) : ox_Q := fun r_ T_ => ox_C E (ox_mi 76).2.2.2.1 (ox_mc 76) (ox_cut 76) Q 152 [some (.inr (.inr (x0))), some (.inr (.inr (x1))), some (.inl (x2)), some (.inl (x3)), some (.inl (x4)), some (.inl (x5)), some (.inl (x6))] (r_.toList ++ [.inr (.inr (y0)), .inl (y1), .inr (.inr (y2))]) T_ mr sr
def k_76_155 (E : ox_E) (x0 : Nat) (x1 : Nat) (x2 : Int32) (x3 : Int32) (x4 : Int32) (x5 : Int32) (x6 : Int32) (mr sr : Nat) (Q : ox_Q) : ox_Q := fun r_ T_ => ox_C E (ox_mi 76).2.2.2.1 (ox_mc 76) (ox_cut 76) Q 155 [some (.inr (.inr (x0))), some (.inr (.inr (x1))), some (.inl (x2)), some (.inl (x3)), some (.inl (x4)), some (.inl (x5)), some (.inl (x6))] (r_.toList ++ []) T_ mr sr
set_option maxRecDepth 20000 in
def q_76_155 (E : ox_E) (x0 : Nat) (x1 : Nat) (x2 : Int32) (x3 : Int32) (x4 : Int32) (x5 : Int32) (x6 : Int32) (y0 : Int32) (S : ox_St) (mr sr : Nat) (Q : ox_Q) : Prop :=
  (True ∧ Q (some (.inl y0)) S)
set_option maxRecDepth 20000 in
set_option maxHeartbeats 4000000 in
theorem f_76_155 {E : ox_E} (hE : ox_mono E) {mr sr : Nat} {x0 : Nat} {x1 : Nat} {x2 : Int32} {x3 : Int32} {x4 : Int32} {x5 : Int32} {x6 : Int32} {y0 : Int32} {S : ox_St} {Q : ox_Q} (h : q_76_155 E x0 x1 x2 x3 x4 x5 x6 y0 S mr sr Q) : k_76_155 E x0 x1 x2 x3 x4 x5 x6 mr sr Q (some (.inl (y0))) S := ox_C_fold hE h
set_option maxRecDepth 20000 in
def q_76_152 (E : ox_E) (x0 : Nat) (x1 : Nat) (x2 : Int32) (x3 : Int32) (x4 : Int32) (x5 : Int32) (x6 : Int32) (y0 : Nat) (y1 : Int32) (y2 : Nat) (S : ox_St) (mr sr : Nat) (Q : ox_Q) : Prop :=
  (3 ≤ 3 ∧ 0 ≤ 8 ∧ ∃ mc1 mk2, mc1 ≤ mr ∧ mk2 ≤ sr ∧ E 50 [.inr (.inr (y2)), .inl (y1), .inr (.inr (y0))] mc1 mk2 S (k_76_155 E x0 x1 x2 x3 x4 x5 x6 (mr - mc1) (sr - mk2) Q))
set_option maxRecDepth 20000 in
set_option maxHeartbeats 4000000 in
theorem f_76_152 {E : ox_E} (hE : ox_mono E) {mr sr : Nat} {x0 : Nat} {x1 : Nat} {x2 : Int32} {x3 : Int32} {x4 : Int32} {x5 : Int32} {x6 : Int32} {y0 : Nat} {y1 : Int32} {y2 : Nat} {S : ox_St} {Q : ox_Q} (h : q_76_152 E x0 x1 x2 x3 x4 x5 x6 y0 y1 y2 S mr sr Q) : k_76_152 E x0 x1 x2 x3 x4 x5 x6 y0 y1 y2 mr sr Q none S := ox_C_fold hE h
set_option maxRecDepth 20000 in
def q_76_120 (E : ox_E) (x0 : Nat) (x1 : Nat) (x2 : Int32) (x3 : Int32) (x4 : Int32) (x5 : Int32) (y0 : Int32) (S : ox_St) (mr sr : Nat) (Q : ox_Q) : Prop :=
  ((¬ y0 = 0 → (1 ≤ mr ∧ 5 ≤ sr ∧ (let S1 := S.newO 9
  (4 ≤ 7 ∧ S.n ≠ 0 ∧ 3 ≤ 8 ∧ ∃ mc2 mk3, mc2 ≤ (mr - 1) ∧ mk3 ≤ (sr - 5) ∧ E 82 [.inr (.inr (S.n)), .inl (x4), .inl (x5), .inl (y0)] mc2 mk3 S1 (k_76_152 E x0 x1 x2 x3 x4 x5 y0 S.n (x2 + 1) x1 ((mr - 1) - mc2) ((sr - 5) - mk3) Q))))) ∧ (y0 = 0 → k_76_155 E x0 x1 x2 x3 x4 x5 y0 mr sr Q (some (.inl (3))) S))
set_option maxRecDepth 20000 in
set_option maxHeartbeats 4000000 in
theorem f_76_120 {E : ox_E} (hE : ox_mono E) {mr sr : Nat} {x0 : Nat} {x1 : Nat} {x2 : Int32} {x3 : Int32} {x4 : Int32} {x5 : Int32} {y0 : Int32} {S : ox_St} {Q : ox_Q} (h : q_76_120 E x0 x1 x2 x3 x4 x5 y0 S mr sr Q) : k_76_120 E x0 x1 x2 x3 x4 x5 mr sr Q (some (.inl (y0))) S := ox_C_fold hE h
set_option maxRecDepth 20000 in
def q_76_107 (E : ox_E) (x0 : Nat) (x1 : Nat) (x2 : Int32) (x3 : Int32) (x4 : Int32) (y0 : Int32) (S : ox_St) (mr sr : Nat) (Q : ox_Q) : Prop :=
  ((¬ x2 = 3 → ((¬ (1 : Int32) = 0 → (1 ≤ mr ∧ 5 ≤ sr ∧ (let S1 := S.newO 9
  (4 ≤ 7 ∧ S.n ≠ 0 ∧ 3 ≤ 8 ∧ ∃ mc2 mk3, mc2 ≤ (mr - 1) ∧ mk3 ≤ (sr - 5) ∧ E 82 [.inr (.inr (S.n)), .inl (x4), .inl (y0), .inl (1)] mc2 mk3 S1 (k_76_152 E x0 x1 x2 x3 x4 y0 1 S.n (x2 + 1) x1 ((mr - 1) - mc2) ((sr - 5) - mk3) Q))))) ∧ ((1 : Int32) = 0 → k_76_155 E x0 x1 x2 x3 x4 y0 1 mr sr Q (some (.inl (3))) S))) ∧ (x2 = 3 → (3 ≤ 3 ∧ S.K x0 = 7 ∧ 0 ≤ 8 ∧ ∃ mc4 mk5, mc4 ≤ mr ∧ mk5 ≤ sr ∧ E 77 [.inr (.inr (x0)), .inr (.inr (x1)), .inl (0)] mc4 mk5 S (k_76_120 E x0 x1 x2 x3 x4 y0 (mr - mc4) (sr - mk5) Q))))
set_option maxRecDepth 20000 in
set_option maxHeartbeats 4000000 in
theorem f_76_107 {E : ox_E} (hE : ox_mono E) {mr sr : Nat} {x0 : Nat} {x1 : Nat} {x2 : Int32} {x3 : Int32} {x4 : Int32} {y0 : Int32} {S : ox_St} {Q : ox_Q} (h : q_76_107 E x0 x1 x2 x3 x4 y0 S mr sr Q) : k_76_107 E x0 x1 x2 x3 x4 mr sr Q (some (.inl (y0))) S := ox_C_fold hE h
set_option maxRecDepth 20000 in
def q_76_90 (E : ox_E) (x0 : Nat) (x1 : Nat) (x2 : Int32) (x3 : Int32) (x4 : Int32) (y0 : Int32) (S : ox_St) (mr sr : Nat) (Q : ox_Q) : Prop :=
  ((¬ x2 = 3 → (3 ≤ 3 ∧ S.K x0 = 7 ∧ 0 ≤ 8 ∧ ∃ mc1 mk2, mc1 ≤ mr ∧ mk2 ≤ sr ∧ E 77 [.inr (.inr (x0)), .inr (.inr (x1)), .inl (0)] mc1 mk2 S (k_76_107 E x0 x1 x2 x3 y0 (mr - mc1) (sr - mk2) Q))) ∧ (x2 = 3 → (3 ≤ 3 ∧ S.K x0 = 7 ∧ 0 ≤ 8 ∧ ∃ mc3 mk4, mc3 ≤ mr ∧ mk4 ≤ sr ∧ E 77 [.inr (.inr (x0)), .inr (.inr (x1)), .inl (1)] mc3 mk4 S (k_76_107 E x0 x1 x2 x3 y0 (mr - mc3) (sr - mk4) Q))))
set_option maxRecDepth 20000 in
set_option maxHeartbeats 4000000 in
theorem f_76_90 {E : ox_E} (hE : ox_mono E) {mr sr : Nat} {x0 : Nat} {x1 : Nat} {x2 : Int32} {x3 : Int32} {x4 : Int32} {y0 : Int32} {S : ox_St} {Q : ox_Q} (h : q_76_90 E x0 x1 x2 x3 x4 y0 S mr sr Q) : k_76_90 E x0 x1 x2 x3 x4 mr sr Q (some (.inl (y0))) S := ox_C_fold hE h
set_option maxRecDepth 20000 in
def q_76_51 (E : ox_E) (x0 : Nat) (x1 : Nat) (x2 : Int32) (x3 : Int32) (x4 : Int32) (x5 : Nat) (y0 : Int32) (S : ox_St) (mr sr : Nat) (Q : ox_Q) : Prop :=
  ((y0 = 0 → c_76_17 E x0 x1 x2 0 (x4 + 1) S mr sr Q) ∧ (¬ y0 = 0 → c_76_17 E x0 x1 x2 1 (x4 + 1) S mr sr Q))
set_option maxRecDepth 20000 in
set_option maxHeartbeats 4000000 in
theorem f_76_51 {E : ox_E} (hE : ox_mono E) {mr sr : Nat} {x0 : Nat} {x1 : Nat} {x2 : Int32} {x3 : Int32} {x4 : Int32} {x5 : Nat} {y0 : Int32} {S : ox_St} {Q : ox_Q} (h : q_76_51 E x0 x1 x2 x3 x4 x5 y0 S mr sr Q) : k_76_51 E x0 x1 x2 x3 x4 x5 mr sr Q (some (.inl (y0))) S := ox_C_fold hE h
set_option maxRecDepth 20000 in
def q_76_33 (E : ox_E) (x0 : Nat) (x1 : Nat) (x2 : Int32) (x3 : Int32) (x4 : Int32) (y0 : Nat) (S : ox_St) (mr sr : Nat) (Q : ox_Q) : Prop :=
  ((¬ y0 = 0 → ((x3 = 0 → c_76_17 E x0 x1 x2 0 (x4 + 1) S mr sr Q) ∧ (¬ x3 = 0 → (1 ≤ 1 ∧ S.K y0 = 8 ∧ 0 ≤ 8 ∧ ∃ mc1 mk2, mc1 ≤ mr ∧ mk2 ≤ sr ∧ E 81 [.inr (.inr (y0))] mc1 mk2 S (k_76_51 E x0 x1 x2 x3 x4 y0 (mr - mc1) (sr - mk2) Q))))) ∧ (y0 = 0 → (True ∧ Q (some (.inl (0 : Int32))) S)))
set_option maxRecDepth 20000 in
set_option maxHeartbeats 4000000 in
theorem f_76_33 {E : ox_E} (hE : ox_mono E) {mr sr : Nat} {x0 : Nat} {x1 : Nat} {x2 : Int32} {x3 : Int32} {x4 : Int32} {y0 : Nat} {S : ox_St} {Q : ox_Q} (h : q_76_33 E x0 x1 x2 x3 x4 y0 S mr sr Q) : k_76_33 E x0 x1 x2 x3 x4 mr sr Q (some (.inr (.inr (y0)))) S := ox_C_fold hE h
set_option maxRecDepth 20000 in
def q_76_30 (E : ox_E) (x0 : Nat) (x1 : Nat) (x2 : Int32) (x3 : Int32) (x4 : Int32) (y0 : Nat) (y1 : Nat) (S : ox_St) (mr sr : Nat) (Q : ox_Q) : Prop :=
  (2 ≤ 2 ∧ S.K y1 = 7 ∧ 0 ≤ 8 ∧ ∃ mc1 mk2, mc1 ≤ mr ∧ mk2 ≤ sr ∧ E 56 [.inr (.inr (y1)), .inr (.inr (y0))] mc1 mk2 S (k_76_33 E x0 x1 x2 x3 x4 (mr - mc1) (sr - mk2) Q))
set_option maxRecDepth 20000 in
set_option maxHeartbeats 4000000 in
theorem f_76_30 {E : ox_E} (hE : ox_mono E) {mr sr : Nat} {x0 : Nat} {x1 : Nat} {x2 : Int32} {x3 : Int32} {x4 : Int32} {y0 : Nat} {y1 : Nat} {S : ox_St} {Q : ox_Q} (h : q_76_30 E x0 x1 x2 x3 x4 y0 y1 S mr sr Q) : k_76_30 E x0 x1 x2 x3 x4 y1 mr sr Q (some (.inr (.inr (y0)))) S := ox_C_fold hE h
set_option maxRecDepth 20000 in
def q_76_17 (E : ox_E) (x0 : Nat) (x1 : Nat) (x2 : Int32) (x3 : Int32) (x4 : Int32) (S : ox_St) (mr sr : Nat) (Q : ox_Q) : Prop :=
  ((x2 ≤ x4 → ((¬ x3 = 0 → ((¬ x2 = 1 → (3 ≤ 3 ∧ S.K x0 = 7 ∧ 0 ≤ 8 ∧ ∃ mc1 mk2, mc1 ≤ mr ∧ mk2 ≤ sr ∧ E 77 [.inr (.inr (x0)), .inr (.inr (x1)), .inl (x2 - 1)] mc1 mk2 S (k_76_90 E x0 x1 x2 x3 x4 (mr - mc1) (sr - mk2) Q))) ∧ (x2 = 1 → k_76_90 E x0 x1 x2 x3 x4 mr sr Q (some (.inl (0))) S))) ∧ (x3 = 0 → (True ∧ Q (some (.inl (6 : Int32))) S)))) ∧ (¬ x2 ≤ x4 → (2 ≤ 3 ∧ S.K x1 = 4 ∧ 1 ≤ 8 ∧ ∃ mc3 mk4, mc3 ≤ mr ∧ mk4 ≤ sr ∧ E 21 [.inr (.inr (x1)), .inl (x4)] mc3 mk4 S (k_76_30 E x0 x1 x2 x3 x4 x0 (mr - mc3) (sr - mk4) Q))))
set_option maxRecDepth 20000 in
set_option maxHeartbeats 4000000 in
theorem f_76_17 {E : ox_E} (hE : ox_mono E) {mr sr : Nat} {x0 : Nat} {x1 : Nat} {x2 : Int32} {x3 : Int32} {x4 : Int32} {S : ox_St} {Q : ox_Q} (h : q_76_17 E x0 x1 x2 x3 x4 S mr sr Q) : c_76_17 E x0 x1 x2 x3 x4 S mr sr Q := ox_C_fold hE h
set_option maxRecDepth 20000 in
def q_76 (E : ox_E) (x0 : Nat) (x1 : Nat) (x2 : Int32) (S : ox_St) (mr sr : Nat) (Q : ox_Q) : Prop :=
  ((x2 < 1 → (True ∧ Q (some (.inl (0 : Int32))) S)) ∧ (¬ x2 < 1 → ((x2 ≤ 3 → c_76_17 E x0 x1 x2 1 0 S mr sr Q) ∧ (¬ x2 ≤ 3 → (True ∧ Q (some (.inl (0 : Int32))) S)))))
set_option maxRecDepth 20000 in
set_option maxHeartbeats 4000000 in
theorem f_76 {sp : ox_E} (hsp : ox_mono sp) {d : Nat} {mr sr : Nat} {x0 : Nat} {x1 : Nat} {x2 : Int32} {S : ox_St} {Q : ox_Q} (h : q_76 (ox_M sp d) x0 x1 x2 S mr sr Q) : ox_M sp (d + 1) 76 [.inr (.inr (x0)), .inr (.inr (x1)), .inl (x2)] mr sr S Q := Or.inr ⟨Nat.le_of_ble_eq_true rfl, ox_C_fold (ox_M_mono hsp d) h⟩
/-! OpcodeFrames$Machine.intFromTop(LOpcodeFrames$Frame;I)I -/
def k_77_6 (E : ox_E) (x0 : Nat) (x1 : Nat) (x2 : Int32) (y1 : Nat) (mr sr : Nat) (Q : ox_Q) : ox_Q := fun r_ T_ => ox_C E (ox_mi 77).2.2.2.1 (ox_mc 77) (ox_cut 77) Q 6 [some (.inr (.inr (x0))), some (.inr (.inr (x1))), some (.inl (x2)), none] (r_.toList ++ [.inr (.inr (y1))]) T_ mr sr
def k_77_9 (E : ox_E) (x0 : Nat) (x1 : Nat) (x2 : Int32) (mr sr : Nat) (Q : ox_Q) : ox_Q := fun r_ T_ => ox_C E (ox_mi 77).2.2.2.1 (ox_mc 77) (ox_cut 77) Q 9 [some (.inr (.inr (x0))), some (.inr (.inr (x1))), some (.inl (x2)), none] (r_.toList ++ []) T_ mr sr
def k_77_22 (E : ox_E) (x0 : Nat) (x1 : Nat) (x2 : Int32) (x3 : Nat) (mr sr : Nat) (Q : ox_Q) : ox_Q := fun r_ T_ => ox_C E (ox_mi 77).2.2.2.1 (ox_mc 77) (ox_cut 77) Q 22 [some (.inr (.inr (x0))), some (.inr (.inr (x1))), some (.inl (x2)), some (.inr (.inr (x3)))] (r_.toList ++ []) T_ mr sr
set_option maxRecDepth 20000 in
def q_77_22 (E : ox_E) (x0 : Nat) (x1 : Nat) (x2 : Int32) (x3 : Nat) (y0 : Int64) (S : ox_St) (mr sr : Nat) (Q : ox_Q) : Prop :=
  (True ∧ Q (some (.inl (Int64.toInt32 y0))) S)
set_option maxRecDepth 20000 in
set_option maxHeartbeats 4000000 in
theorem f_77_22 {E : ox_E} (hE : ox_mono E) {mr sr : Nat} {x0 : Nat} {x1 : Nat} {x2 : Int32} {x3 : Nat} {y0 : Int64} {S : ox_St} {Q : ox_Q} (h : q_77_22 E x0 x1 x2 x3 y0 S mr sr Q) : k_77_22 E x0 x1 x2 x3 mr sr Q (some (.inr (.inl (y0)))) S := ox_C_fold hE h
set_option maxRecDepth 20000 in
def q_77_9 (E : ox_E) (x0 : Nat) (x1 : Nat) (x2 : Int32) (y0 : Nat) (S : ox_St) (mr sr : Nat) (Q : ox_Q) : Prop :=
  ((¬ y0 = 0 → (1 ≤ 1 ∧ S.K y0 = 8 ∧ 0 ≤ 8 ∧ ∃ mc1 mk2, mc1 ≤ mr ∧ mk2 ≤ sr ∧ E 80 [.inr (.inr (y0))] mc1 mk2 S (k_77_22 E x0 x1 x2 y0 (mr - mc1) (sr - mk2) Q))) ∧ (y0 = 0 → (True ∧ Q (some (.inl (0 : Int32))) S)))
set_option maxRecDepth 20000 in
set_option maxHeartbeats 4000000 in
theorem f_77_9 {E : ox_E} (hE : ox_mono E) {mr sr : Nat} {x0 : Nat} {x1 : Nat} {x2 : Int32} {y0 : Nat} {S : ox_St} {Q : ox_Q} (h : q_77_9 E x0 x1 x2 y0 S mr sr Q) : k_77_9 E x0 x1 x2 mr sr Q (some (.inr (.inr (y0)))) S := ox_C_fold hE h
set_option maxRecDepth 20000 in
def q_77_6 (E : ox_E) (x0 : Nat) (x1 : Nat) (x2 : Int32) (y0 : Nat) (y1 : Nat) (S : ox_St) (mr sr : Nat) (Q : ox_Q) : Prop :=
  (2 ≤ 2 ∧ S.K y1 = 7 ∧ 0 ≤ 8 ∧ ∃ mc1 mk2, mc1 ≤ mr ∧ mk2 ≤ sr ∧ E 56 [.inr (.inr (y1)), .inr (.inr (y0))] mc1 mk2 S (k_77_9 E x0 x1 x2 (mr - mc1) (sr - mk2) Q))
set_option maxRecDepth 20000 in
set_option maxHeartbeats 4000000 in
theorem f_77_6 {E : ox_E} (hE : ox_mono E) {mr sr : Nat} {x0 : Nat} {x1 : Nat} {x2 : Int32} {y0 : Nat} {y1 : Nat} {S : ox_St} {Q : ox_Q} (h : q_77_6 E x0 x1 x2 y0 y1 S mr sr Q) : k_77_6 E x0 x1 x2 y1 mr sr Q (some (.inr (.inr (y0)))) S := ox_C_fold hE h
set_option maxRecDepth 20000 in
def q_77 (E : ox_E) (x0 : Nat) (x1 : Nat) (x2 : Int32) (S : ox_St) (mr sr : Nat) (Q : ox_Q) : Prop :=
  (2 ≤ 3 ∧ S.K x1 = 4 ∧ 1 ≤ 8 ∧ ∃ mc1 mk2, mc1 ≤ mr ∧ mk2 ≤ sr ∧ E 21 [.inr (.inr (x1)), .inl (x2)] mc1 mk2 S (k_77_6 E x0 x1 x2 x0 (mr - mc1) (sr - mk2) Q))
set_option maxRecDepth 20000 in
set_option maxHeartbeats 4000000 in
theorem f_77 {sp : ox_E} (hsp : ox_mono sp) {d : Nat} {mr sr : Nat} {x0 : Nat} {x1 : Nat} {x2 : Int32} {S : ox_St} {Q : ox_Q} (h : q_77 (ox_M sp d) x0 x1 x2 S mr sr Q) : ox_M sp (d + 1) 77 [.inr (.inr (x0)), .inr (.inr (x1)), .inl (x2)] mr sr S Q := Or.inr ⟨Nat.le_of_ble_eq_true rfl, ox_C_fold (ox_M_mono hsp d) h⟩
