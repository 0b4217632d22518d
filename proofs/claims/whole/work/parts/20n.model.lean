/-! OpcodeFramesModel.<init>()V -/
def c_126_34 (E : ox_E) (x0 : Nat) (S : ox_St) (mr sr : Nat) (Q : ox_Q) : Prop := ox_C E (ox_mi 126).2.2.2.1 (ox_mc 126) (ox_cut 126) Q 34 [some (.inr (.inr (x0)))] [] S mr sr
def c_126_67 (E : ox_E) (x0 : Nat) (S : ox_St) (mr sr : Nat) (Q : ox_Q) : Prop := ox_C E (ox_mi 126).2.2.2.1 (ox_mc 126) (ox_cut 126) Q 67 [some (.inr (.inr (x0)))] [] S mr sr
def c_126_103 (E : ox_E) (x0 : Nat) (S : ox_St) (mr sr : Nat) (Q : ox_Q) : Prop := ox_C E (ox_mi 126).2.2.2.1 (ox_mc 126) (ox_cut 126) Q 103 [some (.inr (.inr (x0)))] [] S mr sr
def c_126_139 (E : ox_E) (x0 : Nat) (S : ox_St) (mr sr : Nat) (Q : ox_Q) : Prop := ox_C E (ox_mi 126).2.2.2.1 (ox_mc 126) (ox_cut 126) Q 139 [some (.inr (.inr (x0)))] [] S mr sr
def c_126_166 (E : ox_E) (x0 : Nat) (S : ox_St) (mr sr : Nat) (Q : ox_Q) : Prop := ox_C E (ox_mi 126).2.2.2.1 (ox_mc 126) (ox_cut 126) Q 166 [some (.inr (.inr (x0)))] [] S mr sr
def c_126_198 (E : ox_E) (x0 : Nat) (S : ox_St) (mr sr : Nat) (Q : ox_Q) : Prop := ox_C E (ox_mi 126).2.2.2.1 (ox_mc 126) (ox_cut 126) Q 198 [some (.inr (.inr (x0)))] [] S mr sr
def c_126_230 (E : ox_E) (x0 : Nat) (S : ox_St) (mr sr : Nat) (Q : ox_Q) : Prop := ox_C E (ox_mi 126).2.2.2.1 (ox_mc 126) (ox_cut 126) Q 230 [some (.inr (.inr (x0)))] [] S mr sr
def c_126_262 (E : ox_E) (x0 : Nat) (S : ox_St) (mr sr : Nat) (Q : ox_Q) : Prop := ox_C E (ox_mi 126).2.2.2.1 (ox_mc 126) (ox_cut 126) Q 262 [some (.inr (.inr (x0)))] [] S mr sr
def c_126_294 (E : ox_E) (x0 : Nat) (S : ox_St) (mr sr : Nat) (Q : ox_Q) : Prop := ox_C E (ox_mi 126).2.2.2.1 (ox_mc 126) (ox_cut 126) Q 294 [some (.inr (.inr (x0)))] [] S mr sr
def c_126_329 (E : ox_E) (x0 : Nat) (S : ox_St) (mr sr : Nat) (Q : ox_Q) : Prop := ox_C E (ox_mi 126).2.2.2.1 (ox_mc 126) (ox_cut 126) Q 329 [some (.inr (.inr (x0)))] [] S mr sr
def c_126_365 (E : ox_E) (x0 : Nat) (S : ox_St) (mr sr : Nat) (Q : ox_Q) : Prop := ox_C E (ox_mi 126).2.2.2.1 (ox_mc 126) (ox_cut 126) Q 365 [some (.inr (.inr (x0)))] [] S mr sr
set_option maxRecDepth 20000 in
def q_126_365 (E : ox_E) (x0 : Nat) (S : ox_St) (mr sr : Nat) (Q : ox_Q) : Prop :=
  (¬ (2000 : Int32) < 0 ∧ (Int32.toNatClampNeg (2000 : Int32)) ≤ 67108864 ∧ 1 ≤ mr ∧ (Int32.toNatClampNeg (2000 : Int32)) ≤ sr ∧ (let S1 := S.newA 15 (Int32.toNatClampNeg (2000 : Int32))
  (ox_has (S1.K x0) 141 = true ∧ (let S2 := S1.sR 141 x0 S.n
  ((ox_mi 126).2.2.2.1 = none ∧ Q none S2)))))
set_option maxRecDepth 20000 in
set_option maxHeartbeats 4000000 in
theorem f_126_365 {E : ox_E} (hE : ox_mono E) {mr sr : Nat} {x0 : Nat} {S : ox_St} {Q : ox_Q} (h : q_126_365 E x0 S mr sr Q) : c_126_365 E x0 S mr sr Q := ox_C_fold hE h
set_option maxRecDepth 20000 in
def q_126_329 (E : ox_E) (x0 : Nat) (S : ox_St) (mr sr : Nat) (Q : ox_Q) : Prop :=
  (¬ (160 : Int32) < 0 ∧ (Int32.toNatClampNeg (160 : Int32)) ≤ 67108864 ∧ 1 ≤ mr ∧ (Int32.toNatClampNeg (160 : Int32)) ≤ sr ∧ (let S1 := S.newA 15 (Int32.toNatClampNeg (160 : Int32))
  (ox_has (S1.K x0) 134 = true ∧ (let S2 := S1.sR 134 x0 S.n
  (¬ (640 : Int32) < 0 ∧ (Int32.toNatClampNeg (640 : Int32)) ≤ 67108864 ∧ 1 ≤ (mr - 1) ∧ (Int32.toNatClampNeg (640 : Int32)) ≤ (sr - (Int32.toNatClampNeg (160 : Int32))) ∧ (let S3 := S2.newA 15 (Int32.toNatClampNeg (640 : Int32))
  (ox_has (S3.K x0) 135 = true ∧ (let S4 := S3.sR 135 x0 S2.n
  (¬ (640 : Int32) < 0 ∧ (Int32.toNatClampNeg (640 : Int32)) ≤ 67108864 ∧ 1 ≤ ((mr - 1) - 1) ∧ (Int32.toNatClampNeg (640 : Int32)) ≤ ((sr - (Int32.toNatClampNeg (160 : Int32))) - (Int32.toNatClampNeg (640 : Int32))) ∧ (let S5 := S4.newA 15 (Int32.toNatClampNeg (640 : Int32))
  (ox_has (S5.K x0) 136 = true ∧ (let S6 := S5.sR 136 x0 S4.n
  (¬ (160 : Int32) < 0 ∧ (Int32.toNatClampNeg (160 : Int32)) ≤ 67108864 ∧ 1 ≤ (((mr - 1) - 1) - 1) ∧ (Int32.toNatClampNeg (160 : Int32)) ≤ (((sr - (Int32.toNatClampNeg (160 : Int32))) - (Int32.toNatClampNeg (640 : Int32))) - (Int32.toNatClampNeg (640 : Int32))) ∧ (let S7 := S6.newA 17 (Int32.toNatClampNeg (160 : Int32))
  (ox_has (S7.K x0) 137 = true ∧ (let S8 := S7.sR 137 x0 S6.n
  c_126_365 E x0 S8 ((((mr - 1) - 1) - 1) - 1) ((((sr - (Int32.toNatClampNeg (160 : Int32))) - (Int32.toNatClampNeg (640 : Int32))) - (Int32.toNatClampNeg (640 : Int32))) - (Int32.toNatClampNeg (160 : Int32))) Q))))))))))))))))
set_option maxRecDepth 20000 in
set_option maxHeartbeats 4000000 in
theorem f_126_329 {E : ox_E} (hE : ox_mono E) {mr sr : Nat} {x0 : Nat} {S : ox_St} {Q : ox_Q} (h : q_126_329 E x0 S mr sr Q) : c_126_329 E x0 S mr sr Q := ox_C_fold hE h
set_option maxRecDepth 20000 in
def q_126_294 (E : ox_E) (x0 : Nat) (S : ox_St) (mr sr : Nat) (Q : ox_Q) : Prop :=
  (¬ (8 : Int32) < 0 ∧ (Int32.toNatClampNeg (8 : Int32)) ≤ 67108864 ∧ 1 ≤ mr ∧ (Int32.toNatClampNeg (8 : Int32)) ≤ sr ∧ (let S1 := S.newA 15 (Int32.toNatClampNeg (8 : Int32))
  (ox_has (S1.K x0) 129 = true ∧ (let S2 := S1.sR 129 x0 S.n
  (¬ (900 : Int32) < 0 ∧ (Int32.toNatClampNeg (900 : Int32)) ≤ 67108864 ∧ 1 ≤ (mr - 1) ∧ (Int32.toNatClampNeg (900 : Int32)) ≤ (sr - (Int32.toNatClampNeg (8 : Int32))) ∧ (let S3 := S2.newA 15 (Int32.toNatClampNeg (900 : Int32))
  (ox_has (S3.K x0) 130 = true ∧ (let S4 := S3.sR 130 x0 S2.n
  (¬ (300 : Int32) < 0 ∧ (Int32.toNatClampNeg (300 : Int32)) ≤ 67108864 ∧ 1 ≤ ((mr - 1) - 1) ∧ (Int32.toNatClampNeg (300 : Int32)) ≤ ((sr - (Int32.toNatClampNeg (8 : Int32))) - (Int32.toNatClampNeg (900 : Int32))) ∧ (let S5 := S4.newA 15 (Int32.toNatClampNeg (300 : Int32))
  (ox_has (S5.K x0) 131 = true ∧ (let S6 := S5.sR 131 x0 S4.n
  (¬ (160 : Int32) < 0 ∧ (Int32.toNatClampNeg (160 : Int32)) ≤ 67108864 ∧ 1 ≤ (((mr - 1) - 1) - 1) ∧ (Int32.toNatClampNeg (160 : Int32)) ≤ (((sr - (Int32.toNatClampNeg (8 : Int32))) - (Int32.toNatClampNeg (900 : Int32))) - (Int32.toNatClampNeg (300 : Int32))) ∧ (let S7 := S6.newA 15 (Int32.toNatClampNeg (160 : Int32))
  (ox_has (S7.K x0) 133 = true ∧ (let S8 := S7.sR 133 x0 S6.n
  c_126_329 E x0 S8 ((((mr - 1) - 1) - 1) - 1) ((((sr - (Int32.toNatClampNeg (8 : Int32))) - (Int32.toNatClampNeg (900 : Int32))) - (Int32.toNatClampNeg (300 : Int32))) - (Int32.toNatClampNeg (160 : Int32))) Q))))))))))))))))
set_option maxRecDepth 20000 in
set_option maxHeartbeats 4000000 in
theorem f_126_294 {E : ox_E} (hE : ox_mono E) {mr sr : Nat} {x0 : Nat} {S : ox_St} {Q : ox_Q} (h : q_126_294 E x0 S mr sr Q) : c_126_294 E x0 S mr sr Q := ox_C_fold hE h
set_option maxRecDepth 20000 in
def q_126_262 (E : ox_E) (x0 : Nat) (S : ox_St) (mr sr : Nat) (Q : ox_Q) : Prop :=
  (¬ (40 : Int32) < 0 ∧ (Int32.toNatClampNeg (40 : Int32)) ≤ 67108864 ∧ 1 ≤ mr ∧ (Int32.toNatClampNeg (40 : Int32)) ≤ sr ∧ (let S1 := S.newA 15 (Int32.toNatClampNeg (40 : Int32))
  (ox_has (S1.K x0) 112 = true ∧ (let S2 := S1.sR 112 x0 S.n
  (¬ (8 : Int32) < 0 ∧ (Int32.toNatClampNeg (8 : Int32)) ≤ 67108864 ∧ 1 ≤ (mr - 1) ∧ (Int32.toNatClampNeg (8 : Int32)) ≤ (sr - (Int32.toNatClampNeg (40 : Int32))) ∧ (let S3 := S2.newA 17 (Int32.toNatClampNeg (8 : Int32))
  (ox_has (S3.K x0) 126 = true ∧ (let S4 := S3.sR 126 x0 S2.n
  (¬ (8 : Int32) < 0 ∧ (Int32.toNatClampNeg (8 : Int32)) ≤ 67108864 ∧ 1 ≤ ((mr - 1) - 1) ∧ (Int32.toNatClampNeg (8 : Int32)) ≤ ((sr - (Int32.toNatClampNeg (40 : Int32))) - (Int32.toNatClampNeg (8 : Int32))) ∧ (let S5 := S4.newA 15 (Int32.toNatClampNeg (8 : Int32))
  (ox_has (S5.K x0) 127 = true ∧ (let S6 := S5.sR 127 x0 S4.n
  (¬ (8 : Int32) < 0 ∧ (Int32.toNatClampNeg (8 : Int32)) ≤ 67108864 ∧ 1 ≤ (((mr - 1) - 1) - 1) ∧ (Int32.toNatClampNeg (8 : Int32)) ≤ (((sr - (Int32.toNatClampNeg (40 : Int32))) - (Int32.toNatClampNeg (8 : Int32))) - (Int32.toNatClampNeg (8 : Int32))) ∧ (let S7 := S6.newA 15 (Int32.toNatClampNeg (8 : Int32))
  (ox_has (S7.K x0) 128 = true ∧ (let S8 := S7.sR 128 x0 S6.n
  c_126_294 E x0 S8 ((((mr - 1) - 1) - 1) - 1) ((((sr - (Int32.toNatClampNeg (40 : Int32))) - (Int32.toNatClampNeg (8 : Int32))) - (Int32.toNatClampNeg (8 : Int32))) - (Int32.toNatClampNeg (8 : Int32))) Q))))))))))))))))
set_option maxRecDepth 20000 in
set_option maxHeartbeats 4000000 in
theorem f_126_262 {E : ox_E} (hE : ox_mono E) {mr sr : Nat} {x0 : Nat} {S : ox_St} {Q : ox_Q} (h : q_126_262 E x0 S mr sr Q) : c_126_262 E x0 S mr sr Q := ox_C_fold hE h
set_option maxRecDepth 20000 in
def q_126_230 (E : ox_E) (x0 : Nat) (S : ox_St) (mr sr : Nat) (Q : ox_Q) : Prop :=
  (¬ (16 : Int32) < 0 ∧ (Int32.toNatClampNeg (16 : Int32)) ≤ 67108864 ∧ 1 ≤ mr ∧ (Int32.toNatClampNeg (16 : Int32)) ≤ sr ∧ (let S1 := S.newA 15 (Int32.toNatClampNeg (16 : Int32))
  (ox_has (S1.K x0) 108 = true ∧ (let S2 := S1.sR 108 x0 S.n
  (¬ (40 : Int32) < 0 ∧ (Int32.toNatClampNeg (40 : Int32)) ≤ 67108864 ∧ 1 ≤ (mr - 1) ∧ (Int32.toNatClampNeg (40 : Int32)) ≤ (sr - (Int32.toNatClampNeg (16 : Int32))) ∧ (let S3 := S2.newA 15 (Int32.toNatClampNeg (40 : Int32))
  (ox_has (S3.K x0) 109 = true ∧ (let S4 := S3.sR 109 x0 S2.n
  (¬ (40 : Int32) < 0 ∧ (Int32.toNatClampNeg (40 : Int32)) ≤ 67108864 ∧ 1 ≤ ((mr - 1) - 1) ∧ (Int32.toNatClampNeg (40 : Int32)) ≤ ((sr - (Int32.toNatClampNeg (16 : Int32))) - (Int32.toNatClampNeg (40 : Int32))) ∧ (let S5 := S4.newA 15 (Int32.toNatClampNeg (40 : Int32))
  (ox_has (S5.K x0) 110 = true ∧ (let S6 := S5.sR 110 x0 S4.n
  (¬ (40 : Int32) < 0 ∧ (Int32.toNatClampNeg (40 : Int32)) ≤ 67108864 ∧ 1 ≤ (((mr - 1) - 1) - 1) ∧ (Int32.toNatClampNeg (40 : Int32)) ≤ (((sr - (Int32.toNatClampNeg (16 : Int32))) - (Int32.toNatClampNeg (40 : Int32))) - (Int32.toNatClampNeg (40 : Int32))) ∧ (let S7 := S6.newA 15 (Int32.toNatClampNeg (40 : Int32))
  (ox_has (S7.K x0) 111 = true ∧ (let S8 := S7.sR 111 x0 S6.n
  c_126_262 E x0 S8 ((((mr - 1) - 1) - 1) - 1) ((((sr - (Int32.toNatClampNeg (16 : Int32))) - (Int32.toNatClampNeg (40 : Int32))) - (Int32.toNatClampNeg (40 : Int32))) - (Int32.toNatClampNeg (40 : Int32))) Q))))))))))))))))
set_option maxRecDepth 20000 in
set_option maxHeartbeats 4000000 in
theorem f_126_230 {E : ox_E} (hE : ox_mono E) {mr sr : Nat} {x0 : Nat} {S : ox_St} {Q : ox_Q} (h : q_126_230 E x0 S mr sr Q) : c_126_230 E x0 S mr sr Q := ox_C_fold hE h
set_option maxRecDepth 20000 in
def q_126_198 (E : ox_E) (x0 : Nat) (S : ox_St) (mr sr : Nat) (Q : ox_Q) : Prop :=
  (¬ (64 : Int32) < 0 ∧ (Int32.toNatClampNeg (64 : Int32)) ≤ 67108864 ∧ 1 ≤ mr ∧ (Int32.toNatClampNeg (64 : Int32)) ≤ sr ∧ (let S1 := S.newA 15 (Int32.toNatClampNeg (64 : Int32))
  (ox_has (S1.K x0) 103 = true ∧ (let S2 := S1.sR 103 x0 S.n
  (¬ (32 : Int32) < 0 ∧ (Int32.toNatClampNeg (32 : Int32)) ≤ 67108864 ∧ 1 ≤ (mr - 1) ∧ (Int32.toNatClampNeg (32 : Int32)) ≤ (sr - (Int32.toNatClampNeg (64 : Int32))) ∧ (let S3 := S2.newA 15 (Int32.toNatClampNeg (32 : Int32))
  (ox_has (S3.K x0) 104 = true ∧ (let S4 := S3.sR 104 x0 S2.n
  (¬ (32 : Int32) < 0 ∧ (Int32.toNatClampNeg (32 : Int32)) ≤ 67108864 ∧ 1 ≤ ((mr - 1) - 1) ∧ (Int32.toNatClampNeg (32 : Int32)) ≤ ((sr - (Int32.toNatClampNeg (64 : Int32))) - (Int32.toNatClampNeg (32 : Int32))) ∧ (let S5 := S4.newA 15 (Int32.toNatClampNeg (32 : Int32))
  (ox_has (S5.K x0) 105 = true ∧ (let S6 := S5.sR 105 x0 S4.n
  (¬ (16 : Int32) < 0 ∧ (Int32.toNatClampNeg (16 : Int32)) ≤ 67108864 ∧ 1 ≤ (((mr - 1) - 1) - 1) ∧ (Int32.toNatClampNeg (16 : Int32)) ≤ (((sr - (Int32.toNatClampNeg (64 : Int32))) - (Int32.toNatClampNeg (32 : Int32))) - (Int32.toNatClampNeg (32 : Int32))) ∧ (let S7 := S6.newA 16 (Int32.toNatClampNeg (16 : Int32))
  (ox_has (S7.K x0) 107 = true ∧ (let S8 := S7.sR 107 x0 S6.n
  c_126_230 E x0 S8 ((((mr - 1) - 1) - 1) - 1) ((((sr - (Int32.toNatClampNeg (64 : Int32))) - (Int32.toNatClampNeg (32 : Int32))) - (Int32.toNatClampNeg (32 : Int32))) - (Int32.toNatClampNeg (16 : Int32))) Q))))))))))))))))
set_option maxRecDepth 20000 in
set_option maxHeartbeats 4000000 in
theorem f_126_198 {E : ox_E} (hE : ox_mono E) {mr sr : Nat} {x0 : Nat} {S : ox_St} {Q : ox_Q} (h : q_126_198 E x0 S mr sr Q) : c_126_198 E x0 S mr sr Q := ox_C_fold hE h
set_option maxRecDepth 20000 in
def q_126_166 (E : ox_E) (x0 : Nat) (S : ox_St) (mr sr : Nat) (Q : ox_Q) : Prop :=
  (¬ (8 : Int32) < 0 ∧ (Int32.toNatClampNeg (8 : Int32)) ≤ 67108864 ∧ 1 ≤ mr ∧ (Int32.toNatClampNeg (8 : Int32)) ≤ sr ∧ (let S1 := S.newA 15 (Int32.toNatClampNeg (8 : Int32))
  (ox_has (S1.K x0) 99 = true ∧ (let S2 := S1.sR 99 x0 S.n
  (¬ (8 : Int32) < 0 ∧ (Int32.toNatClampNeg (8 : Int32)) ≤ 67108864 ∧ 1 ≤ (mr - 1) ∧ (Int32.toNatClampNeg (8 : Int32)) ≤ (sr - (Int32.toNatClampNeg (8 : Int32))) ∧ (let S3 := S2.newA 15 (Int32.toNatClampNeg (8 : Int32))
  (ox_has (S3.K x0) 100 = true ∧ (let S4 := S3.sR 100 x0 S2.n
  (¬ (8 : Int32) < 0 ∧ (Int32.toNatClampNeg (8 : Int32)) ≤ 67108864 ∧ 1 ≤ ((mr - 1) - 1) ∧ (Int32.toNatClampNeg (8 : Int32)) ≤ ((sr - (Int32.toNatClampNeg (8 : Int32))) - (Int32.toNatClampNeg (8 : Int32))) ∧ (let S5 := S4.newA 15 (Int32.toNatClampNeg (8 : Int32))
  (ox_has (S5.K x0) 101 = true ∧ (let S6 := S5.sR 101 x0 S4.n
  (¬ (80 : Int32) < 0 ∧ (Int32.toNatClampNeg (80 : Int32)) ≤ 67108864 ∧ 1 ≤ (((mr - 1) - 1) - 1) ∧ (Int32.toNatClampNeg (80 : Int32)) ≤ (((sr - (Int32.toNatClampNeg (8 : Int32))) - (Int32.toNatClampNeg (8 : Int32))) - (Int32.toNatClampNeg (8 : Int32))) ∧ (let S7 := S6.newA 15 (Int32.toNatClampNeg (80 : Int32))
  (ox_has (S7.K x0) 102 = true ∧ (let S8 := S7.sR 102 x0 S6.n
  c_126_198 E x0 S8 ((((mr - 1) - 1) - 1) - 1) ((((sr - (Int32.toNatClampNeg (8 : Int32))) - (Int32.toNatClampNeg (8 : Int32))) - (Int32.toNatClampNeg (8 : Int32))) - (Int32.toNatClampNeg (80 : Int32))) Q))))))))))))))))
set_option maxRecDepth 20000 in
set_option maxHeartbeats 4000000 in
theorem f_126_166 {E : ox_E} (hE : ox_mono E) {mr sr : Nat} {x0 : Nat} {S : ox_St} {Q : ox_Q} (h : q_126_166 E x0 S mr sr Q) : c_126_166 E x0 S mr sr Q := ox_C_fold hE h
set_option maxRecDepth 20000 in
def q_126_139 (E : ox_E) (x0 : Nat) (S : ox_St) (mr sr : Nat) (Q : ox_Q) : Prop :=
  (¬ (2100 : Int32) < 0 ∧ (Int32.toNatClampNeg (2100 : Int32)) ≤ 67108864 ∧ 1 ≤ mr ∧ (Int32.toNatClampNeg (2100 : Int32)) ≤ sr ∧ (let S1 := S.newA 16 (Int32.toNatClampNeg (2100 : Int32))
  (ox_has (S1.K x0) 91 = true ∧ (let S2 := S1.sR 91 x0 S.n
  (ox_has (S2.K x0) 94 = true ∧ (let S3 := S2.sI 94 x0 (-1)
  (ox_has (S3.K x0) 96 = true ∧ (let S4 := S3.sI 96 x0 (-1)
  (¬ (8 : Int32) < 0 ∧ (Int32.toNatClampNeg (8 : Int32)) ≤ 67108864 ∧ 1 ≤ (mr - 1) ∧ (Int32.toNatClampNeg (8 : Int32)) ≤ (sr - (Int32.toNatClampNeg (2100 : Int32))) ∧ (let S5 := S4.newA 15 (Int32.toNatClampNeg (8 : Int32))
  (ox_has (S5.K x0) 98 = true ∧ (let S6 := S5.sR 98 x0 S4.n
  c_126_166 E x0 S6 ((mr - 1) - 1) ((sr - (Int32.toNatClampNeg (2100 : Int32))) - (Int32.toNatClampNeg (8 : Int32))) Q))))))))))))
set_option maxRecDepth 20000 in
set_option maxHeartbeats 4000000 in
theorem f_126_139 {E : ox_E} (hE : ox_mono E) {mr sr : Nat} {x0 : Nat} {S : ox_St} {Q : ox_Q} (h : q_126_139 E x0 S mr sr Q) : c_126_139 E x0 S mr sr Q := ox_C_fold hE h
set_option maxRecDepth 20000 in
def q_126_103 (E : ox_E) (x0 : Nat) (S : ox_St) (mr sr : Nat) (Q : ox_Q) : Prop :=
  (¬ (300 : Int32) < 0 ∧ (Int32.toNatClampNeg (300 : Int32)) ≤ 67108864 ∧ 1 ≤ mr ∧ (Int32.toNatClampNeg (300 : Int32)) ≤ sr ∧ (let S1 := S.newA 15 (Int32.toNatClampNeg (300 : Int32))
  (ox_has (S1.K x0) 84 = true ∧ (let S2 := S1.sR 84 x0 S.n
  (¬ (300 : Int32) < 0 ∧ (Int32.toNatClampNeg (300 : Int32)) ≤ 67108864 ∧ 1 ≤ (mr - 1) ∧ (Int32.toNatClampNeg (300 : Int32)) ≤ (sr - (Int32.toNatClampNeg (300 : Int32))) ∧ (let S3 := S2.newA 15 (Int32.toNatClampNeg (300 : Int32))
  (ox_has (S3.K x0) 85 = true ∧ (let S4 := S3.sR 85 x0 S2.n
  (¬ (2100 : Int32) < 0 ∧ (Int32.toNatClampNeg (2100 : Int32)) ≤ 67108864 ∧ 1 ≤ ((mr - 1) - 1) ∧ (Int32.toNatClampNeg (2100 : Int32)) ≤ ((sr - (Int32.toNatClampNeg (300 : Int32))) - (Int32.toNatClampNeg (300 : Int32))) ∧ (let S5 := S4.newA 15 (Int32.toNatClampNeg (2100 : Int32))
  (ox_has (S5.K x0) 89 = true ∧ (let S6 := S5.sR 89 x0 S4.n
  (¬ (2100 : Int32) < 0 ∧ (Int32.toNatClampNeg (2100 : Int32)) ≤ 67108864 ∧ 1 ≤ (((mr - 1) - 1) - 1) ∧ (Int32.toNatClampNeg (2100 : Int32)) ≤ (((sr - (Int32.toNatClampNeg (300 : Int32))) - (Int32.toNatClampNeg (300 : Int32))) - (Int32.toNatClampNeg (2100 : Int32))) ∧ (let S7 := S6.newA 15 (Int32.toNatClampNeg (2100 : Int32))
  (ox_has (S7.K x0) 90 = true ∧ (let S8 := S7.sR 90 x0 S6.n
  c_126_139 E x0 S8 ((((mr - 1) - 1) - 1) - 1) ((((sr - (Int32.toNatClampNeg (300 : Int32))) - (Int32.toNatClampNeg (300 : Int32))) - (Int32.toNatClampNeg (2100 : Int32))) - (Int32.toNatClampNeg (2100 : Int32))) Q))))))))))))))))
set_option maxRecDepth 20000 in
set_option maxHeartbeats 4000000 in
theorem f_126_103 {E : ox_E} (hE : ox_mono E) {mr sr : Nat} {x0 : Nat} {S : ox_St} {Q : ox_Q} (h : q_126_103 E x0 S mr sr Q) : c_126_103 E x0 S mr sr Q := ox_C_fold hE h
set_option maxRecDepth 20000 in
def q_126_67 (E : ox_E) (x0 : Nat) (S : ox_St) (mr sr : Nat) (Q : ox_Q) : Prop :=
  (¬ (300 : Int32) < 0 ∧ (Int32.toNatClampNeg (300 : Int32)) ≤ 67108864 ∧ 1 ≤ mr ∧ (Int32.toNatClampNeg (300 : Int32)) ≤ sr ∧ (let S1 := S.newA 15 (Int32.toNatClampNeg (300 : Int32))
  (ox_has (S1.K x0) 80 = true ∧ (let S2 := S1.sR 80 x0 S.n
  (¬ (300 : Int32) < 0 ∧ (Int32.toNatClampNeg (300 : Int32)) ≤ 67108864 ∧ 1 ≤ (mr - 1) ∧ (Int32.toNatClampNeg (300 : Int32)) ≤ (sr - (Int32.toNatClampNeg (300 : Int32))) ∧ (let S3 := S2.newA 15 (Int32.toNatClampNeg (300 : Int32))
  (ox_has (S3.K x0) 81 = true ∧ (let S4 := S3.sR 81 x0 S2.n
  (¬ (300 : Int32) < 0 ∧ (Int32.toNatClampNeg (300 : Int32)) ≤ 67108864 ∧ 1 ≤ ((mr - 1) - 1) ∧ (Int32.toNatClampNeg (300 : Int32)) ≤ ((sr - (Int32.toNatClampNeg (300 : Int32))) - (Int32.toNatClampNeg (300 : Int32))) ∧ (let S5 := S4.newA 15 (Int32.toNatClampNeg (300 : Int32))
  (ox_has (S5.K x0) 82 = true ∧ (let S6 := S5.sR 82 x0 S4.n
  (¬ (300 : Int32) < 0 ∧ (Int32.toNatClampNeg (300 : Int32)) ≤ 67108864 ∧ 1 ≤ (((mr - 1) - 1) - 1) ∧ (Int32.toNatClampNeg (300 : Int32)) ≤ (((sr - (Int32.toNatClampNeg (300 : Int32))) - (Int32.toNatClampNeg (300 : Int32))) - (Int32.toNatClampNeg (300 : Int32))) ∧ (let S7 := S6.newA 15 (Int32.toNatClampNeg (300 : Int32))
  (ox_has (S7.K x0) 83 = true ∧ (let S8 := S7.sR 83 x0 S6.n
  c_126_103 E x0 S8 ((((mr - 1) - 1) - 1) - 1) ((((sr - (Int32.toNatClampNeg (300 : Int32))) - (Int32.toNatClampNeg (300 : Int32))) - (Int32.toNatClampNeg (300 : Int32))) - (Int32.toNatClampNeg (300 : Int32))) Q))))))))))))))))
set_option maxRecDepth 20000 in
set_option maxHeartbeats 4000000 in
theorem f_126_67 {E : ox_E} (hE : ox_mono E) {mr sr : Nat} {x0 : Nat} {S : ox_St} {Q : ox_Q} (h : q_126_67 E x0 S mr sr Q) : c_126_67 E x0 S mr sr Q := ox_C_fold hE h
set_option maxRecDepth 20000 in
def q_126_34 (E : ox_E) (x0 : Nat) (S : ox_St) (mr sr : Nat) (Q : ox_Q) : Prop :=
  (ox_has (S.K x0) 75 = true ∧ (let S1 := S.sI 75 x0 16
  (¬ (300 : Int32) < 0 ∧ (Int32.toNatClampNeg (300 : Int32)) ≤ 67108864 ∧ 1 ≤ mr ∧ (Int32.toNatClampNeg (300 : Int32)) ≤ sr ∧ (let S2 := S1.newA 15 (Int32.toNatClampNeg (300 : Int32))
  (ox_has (S2.K x0) 77 = true ∧ (let S3 := S2.sR 77 x0 S1.n
  (¬ (300 : Int32) < 0 ∧ (Int32.toNatClampNeg (300 : Int32)) ≤ 67108864 ∧ 1 ≤ (mr - 1) ∧ (Int32.toNatClampNeg (300 : Int32)) ≤ (sr - (Int32.toNatClampNeg (300 : Int32))) ∧ (let S4 := S3.newA 15 (Int32.toNatClampNeg (300 : Int32))
  (ox_has (S4.K x0) 78 = true ∧ (let S5 := S4.sR 78 x0 S3.n
  (¬ (300 : Int32) < 0 ∧ (Int32.toNatClampNeg (300 : Int32)) ≤ 67108864 ∧ 1 ≤ ((mr - 1) - 1) ∧ (Int32.toNatClampNeg (300 : Int32)) ≤ ((sr - (Int32.toNatClampNeg (300 : Int32))) - (Int32.toNatClampNeg (300 : Int32))) ∧ (let S6 := S5.newA 15 (Int32.toNatClampNeg (300 : Int32))
  (ox_has (S6.K x0) 79 = true ∧ (let S7 := S6.sR 79 x0 S5.n
  c_126_67 E x0 S7 (((mr - 1) - 1) - 1) (((sr - (Int32.toNatClampNeg (300 : Int32))) - (Int32.toNatClampNeg (300 : Int32))) - (Int32.toNatClampNeg (300 : Int32))) Q))))))))))))))
set_option maxRecDepth 20000 in
set_option maxHeartbeats 4000000 in
theorem f_126_34 {E : ox_E} (hE : ox_mono E) {mr sr : Nat} {x0 : Nat} {S : ox_St} {Q : ox_Q} (h : q_126_34 E x0 S mr sr Q) : c_126_34 E x0 S mr sr Q := ox_C_fold hE h
set_option maxRecDepth 20000 in
def q_126 (E : ox_E) (x0 : Nat) (S : ox_St) (mr sr : Nat) (Q : ox_Q) : Prop :=
  (x0 ≠ 0 ∧ 0 ≤ 8 ∧ (ox_has (S.K x0) 70 = true ∧ (let S1 := S.sI 70 x0 (-1)
  (¬ (800 : Int32) < 0 ∧ (Int32.toNatClampNeg (800 : Int32)) ≤ 67108864 ∧ 1 ≤ mr ∧ (Int32.toNatClampNeg (800 : Int32)) ≤ sr ∧ (let S2 := S1.newA 15 (Int32.toNatClampNeg (800 : Int32))
  (ox_has (S2.K x0) 71 = true ∧ (let S3 := S2.sR 71 x0 S1.n
  (¬ (1100000 : Int32) < 0 ∧ (Int32.toNatClampNeg (1100000 : Int32)) ≤ 67108864 ∧ 1 ≤ (mr - 1) ∧ (Int32.toNatClampNeg (1100000 : Int32)) ≤ (sr - (Int32.toNatClampNeg (800 : Int32))) ∧ (let S4 := S3.newA 15 (Int32.toNatClampNeg (1100000 : Int32))
  (ox_has (S4.K x0) 73 = true ∧ (let S5 := S4.sR 73 x0 S3.n
  (¬ (1100000 : Int32) < 0 ∧ (Int32.toNatClampNeg (1100000 : Int32)) ≤ 67108864 ∧ 1 ≤ ((mr - 1) - 1) ∧ (Int32.toNatClampNeg (1100000 : Int32)) ≤ ((sr - (Int32.toNatClampNeg (800 : Int32))) - (Int32.toNatClampNeg (1100000 : Int32))) ∧ (let S6 := S5.newA 15 (Int32.toNatClampNeg (1100000 : Int32))
  (ox_has (S6.K x0) 74 = true ∧ (let S7 := S6.sR 74 x0 S5.n
  c_126_34 E x0 S7 (((mr - 1) - 1) - 1) (((sr - (Int32.toNatClampNeg (800 : Int32))) - (Int32.toNatClampNeg (1100000 : Int32))) - (Int32.toNatClampNeg (1100000 : Int32))) Q)))))))))))))))
set_option maxRecDepth 20000 in
set_option maxHeartbeats 4000000 in
theorem f_126 {sp : ox_E} (hsp : ox_mono sp) {d : Nat} {mr sr : Nat} {x0 : Nat} {S : ox_St} {Q : ox_Q} (h : q_126 (ox_M sp d) x0 S mr sr Q) : ox_M sp (d + 1) 126 [.inr (.inr (x0))] mr sr S Q := Or.inr ⟨Nat.le_of_ble_eq_true rfl, ox_C_fold (ox_M_mono hsp d) h⟩
