/-! one instruction as a condition: k says what is to hold at the next one, r at the method's end; mr, sr: cells and slots that may still be made -/
abbrev ox_I : Type := Nat × ClassFile.Instr × Nat × List Nat
def ox_b1 (st : List ox_V) (k : Int32 → List ox_V → Prop) : Prop := match st with
  | .inl x :: t => k x t
  | _ => False
def ox_b2 (st : List ox_V) (k : Int32 → Int32 → List ox_V → Prop) : Prop := match st with
  | .inl y :: .inl x :: t => k x y t
  | _ => False
def ox_l1 (st : List ox_V) (k : Int64 → List ox_V → Prop) : Prop := match st with
  | .inr (.inl x) :: t => k x t
  | _ => False
def ox_l2 (st : List ox_V) (k : Int64 → Int64 → List ox_V → Prop) : Prop := match st with
  | .inr (.inl y) :: .inr (.inl x) :: t => k x y t
  | _ => False
def ox_li (st : List ox_V) (k : Int64 → Int32 → List ox_V → Prop) : Prop := match st with
  | .inl y :: .inr (.inl x) :: t => k x y t
  | _ => False
def ox_r1 (st : List ox_V) (k : Nat → List ox_V → Prop) : Prop := match st with
  | .inr (.inr a) :: t => k a t
  | _ => False
def ox_r2 (st : List ox_V) (k : Nat → Nat → List ox_V → Prop) : Prop := match st with
  | .inr (.inr b) :: .inr (.inr a) :: t => k a b t
  | _ => False
/-- an array and a place -/
def ox_ai (st : List ox_V) (k : Nat → Int32 → List ox_V → Prop) : Prop := match st with
  | .inl i :: .inr (.inr a) :: t => k a i t
  | _ => False
def ox_aii (st : List ox_V) (k : Nat → Int32 → Int32 → List ox_V → Prop) : Prop := match st with
  | .inl x :: .inl i :: .inr (.inr a) :: t => k a i x t
  | _ => False
def ox_ail (st : List ox_V) (k : Nat → Int32 → Int64 → List ox_V → Prop) : Prop := match st with
  | .inr (.inl x) :: .inl i :: .inr (.inr a) :: t => k a i x t
  | _ => False
def ox_aia (st : List ox_V) (k : Nat → Int32 → Nat → List ox_V → Prop) : Prop := match st with
  | .inr (.inr x) :: .inl i :: .inr (.inr a) :: t => k a i x t
  | _ => False
def ox_sti (st : List ox_V) (k : ox_V → List ox_V → Prop) : Prop := match st with
  | .inl x :: t => k (.inl x) t
  | _ => False
def ox_stl (st : List ox_V) (k : ox_V → List ox_V → Prop) : Prop := match st with
  | .inr (.inl x) :: t => k (.inr (.inl x)) t
  | _ => False
def ox_sta (st : List ox_V) (k : ox_V → List ox_V → Prop) : Prop := match st with
  | .inr (.inr x) :: t => k (.inr (.inr x)) t
  | _ => False
/-- a value of one word -/
def ox_w1 (st : List ox_V) (k : ox_V → List ox_V → Prop) : Prop := match st with
  | .inl x :: t => k (.inl x) t
  | .inr (.inr x) :: t => k (.inr (.inr x)) t
  | _ => False
def ox_ic (c : ClassFile.Cond) (x y : Int32) : Prop := match c with
  | .eq => x = y
  | .ne => ¬ x = y
  | .lt => x < y
  | .ge => y ≤ x
  | .gt => y < x
  | .le => x ≤ y
def ox_icN (c : ClassFile.Cond) (x y : Int32) : Prop := match c with
  | .eq => ¬ x = y
  | .ne => x = y
  | .lt => ¬ x < y
  | .ge => ¬ y ≤ x
  | .gt => ¬ y < x
  | .le => ¬ x ≤ y
def ox_ac (c : ClassFile.ACond) (x y : Nat) : Prop := match c with
  | .eq => x = y
  | .ne => ¬ x = y
def ox_acN (c : ClassFile.ACond) (x y : Nat) : Prop := match c with
  | .eq => ¬ x = y
  | .ne => x = y
/-- the kinds that are values; what a row of references takes -/
def ox_isV (κ : Nat) : Bool := [3, 5, 8, 9, 10, 11, 12].contains κ
def ox_asg (κ v : Nat) : Bool := if κ = 18 then v == 4 else if κ = 19 then ox_isV v else v == 3
/-- which kinds are rows of ints, of longs, of references, rows at all (21, 22, 23: rows of ints, longs, references that are only read) -/
def ox_rdI (κ : Nat) : Bool := κ == 15 || κ == 21
def ox_rdJ (κ : Nat) : Bool := κ == 16 || κ == 22
def ox_rdR (κ : Nat) : Bool := κ == 18 || κ == 19 || κ == 20
def ox_rdL (κ : Nat) : Bool := κ == 15 || κ == 16 || κ == 17 || κ == 18 || κ == 19 || κ == 20 || κ == 21 || κ == 22 || κ == 23
def ox_p (ps : List Nat) (i : Nat) : Nat := ps.getD i 0
def ox_nar (rt : Option FieldType) (x : Int32) : Prop := match rt with
  | some .int => True
  | some .boolean => x = 0 ∨ x = 1
  | _ => False
def ox_isR : Option FieldType → Bool
  | some (.object _) => true
  | some (.array _) => true
  | _ => false
def ox_isL : Option FieldType → Bool
  | some .long => true
  | _ => false
/-- a call of method j with these arguments -/
def ox_cv (E : ox_E) (j : Nat) (as rest : List ox_V) (S : ox_St) (mr sr : Nat) (k : List ox_V → ox_St → Nat → Nat → Prop) : Prop :=
  (rest.map ox_cat).sum ≤ 8 ∧ ∃ mc ms, mc ≤ mr ∧ ms ≤ sr ∧ E j as mc ms S (fun r S' => k (r.toList ++ rest) S' (mr - mc) (sr - ms))
/-- a virtual call: the receiver's kind picks the method: kind, method, then places of words (5 numbers a kind) -/
def ox_pick (κ : Nat) : List Nat → Option Nat
  | q :: j :: _ :: _ :: _ :: t => if κ = q then some j else ox_pick κ t
  | _ => none
def ox_pv (o : Option Nat) (k : Nat → Prop) : Prop := match o with
  | some j => k j
  | none => False
def ox_recv (as : List ox_V) (k : Nat → Prop) : Prop := match as with
  | .inr (.inr a) :: _ => k a
  | _ => False
def ox_inv (E : ox_E) (ps : List Nat) (st : List ox_V) (S : ox_St) (mr sr : Nat) (k : List ox_V → ox_St → Nat → Nat → Prop) : Prop := match ps with
  | 0 :: n :: j :: _ => n ≤ st.length ∧ ox_cv E j (st.take n).reverse (st.drop n) S mr sr k
  | 1 :: n :: j :: _ => n ≤ st.length ∧ ox_recv (st.take n).reverse (fun a => a ≠ 0) ∧ ox_cv E j (st.take n).reverse (st.drop n) S mr sr k
  | 2 :: n :: j :: κ :: _ => n ≤ st.length ∧ ox_recv (st.take n).reverse (fun a => S.K a = κ) ∧ ox_cv E j (st.take n).reverse (st.drop n) S mr sr k
  | 3 :: n :: j :: _ => n ≤ st.length ∧ ox_recv (st.take n).reverse (fun a => a ≠ 0) ∧ ox_cv E j (st.take n).reverse (st.drop n) S mr sr k
  | 4 :: n :: _ :: _ :: _ :: _ :: t => n ≤ st.length ∧ ox_recv (st.take n).reverse (fun a => ox_pv (ox_pick (S.K a) t) (fun j => ox_cv E j (st.take n).reverse (st.drop n) S mr sr k))
  | 5 :: _ => ox_r1 st (fun a t => a ≠ 0 ∧ (t.map ox_cat).sum ≤ 8 ∧ k t S mr sr)
  | 6 :: 0 :: _ => ox_b2 st (fun x y t => (t.map ox_cat).sum ≤ 8 ∧ k (.inl (if x < y then y else x) :: t) S mr sr)
  | 6 :: 1 :: _ => ox_b2 st (fun x y t => (t.map ox_cat).sum ≤ 8 ∧ k (.inl (if y < x then y else x) :: t) S mr sr)
  | 6 :: 2 :: _ => ox_b1 st (fun x t => (t.map ox_cat).sum ≤ 8 ∧ k (.inl (if 0 ≤ x then x else 0 - x) :: t) S mr sr)
  | 6 :: 3 :: _ => ox_l1 st (fun x t => (t.map ox_cat).sum ≤ 8 ∧ k (.inr (.inl (if 0 < x then x else -x)) :: t) S mr sr)
  | _ => False
def ox_step (E : ox_E) (rt : Option FieldType) (i : ClassFile.Instr) (ps : List Nat) (pc : Nat) (L : ox_L) (st : List ox_V) (S : ox_St) (mr sr : Nat) (k : ox_K) (r : ox_Q) : Prop := match i with
  | .iconst n => k (pc + 1) L (.inl (Int32.ofInt n) :: st) S mr sr
  | .bipush n => k (pc + 2) L (.inl (Int8.ofInt n).toInt32 :: st) S mr sr
  | .sipush n => k (pc + 3) L (.inl (Int16.ofInt n).toInt32 :: st) S mr sr
  | .lconst n => k (pc + 1) L (.inr (.inl (Int64.ofNat n)) :: st) S mr sr
  | .ldc _ => k (pc + 2) L (.inl (Int32.ofNat (ox_p ps 1)) :: st) S mr sr
  | .ldc_w _ => k (pc + 3) L (.inl (Int32.ofNat (ox_p ps 1)) :: st) S mr sr
  | .ldc2_w _ => k (pc + 3) L (.inr (.inl (Int64.ofNat (ox_p ps 1))) :: st) S mr sr
  | .aconst_null => k (pc + 1) L (.inr (.inr 0) :: st) S mr sr
  | .iload j => ox_ldi L j (fun v => k (pc + 2) L (v :: st) S mr sr)
  | .iload_n j => ox_ldi L j (fun v => k (pc + 1) L (v :: st) S mr sr)
  | .lload j => ox_ldl L j (fun v => k (pc + 2) L (v :: st) S mr sr)
  | .lload_n j => ox_ldl L j (fun v => k (pc + 1) L (v :: st) S mr sr)
  | .aload j => ox_lda L j (fun v => k (pc + 2) L (v :: st) S mr sr)
  | .aload_n j => ox_lda L j (fun v => k (pc + 1) L (v :: st) S mr sr)
  | .istore j => ox_sti st (fun v t => k (pc + 2) (ox_st1 L j v) t S mr sr)
  | .istore_n j => ox_sti st (fun v t => k (pc + 1) (ox_st1 L j v) t S mr sr)
  | .lstore j => ox_stl st (fun v t => k (pc + 2) (ox_st2 L j v) t S mr sr)
  | .lstore_n j => ox_stl st (fun v t => k (pc + 1) (ox_st2 L j v) t S mr sr)
  | .astore j => ox_sta st (fun v t => k (pc + 2) (ox_st1 L j v) t S mr sr)
  | .astore_n j => ox_sta st (fun v t => k (pc + 1) (ox_st1 L j v) t S mr sr)
  | .iinc j n => match ox_get L j with
    | some (.inl x) => k (pc + 3) (ox_st1 L j (.inl (x + Int32.ofInt n))) st S mr sr
    | _ => False
  | .iadd => ox_b2 st (fun x y t => k (pc + 1) L (.inl (x + y) :: t) S mr sr)
  | .isub => ox_b2 st (fun x y t => k (pc + 1) L (.inl (x - y) :: t) S mr sr)
  | .imul => ox_b2 st (fun x y t => k (pc + 1) L (.inl (x * y) :: t) S mr sr)
  | .idiv => ox_b2 st (fun x y t => ¬ y = 0 ∧ k (pc + 1) L (.inl (x / y) :: t) S mr sr)
  | .irem => ox_b2 st (fun x y t => ¬ y = 0 ∧ k (pc + 1) L (.inl (x - x / y * y) :: t) S mr sr)
  | .ineg => ox_b1 st (fun x t => k (pc + 1) L (.inl (-x) :: t) S mr sr)
  | .ishl => ox_b2 st (fun x y t => k (pc + 1) L (.inl (x <<< (y &&& 31)) :: t) S mr sr)
  | .ishr => ox_b2 st (fun x y t => k (pc + 1) L (.inl (x >>> (y &&& 31)) :: t) S mr sr)
  | .iushr => ox_b2 st (fun x y t => k (pc + 1) L (.inl (x.toUInt32 >>> (y.toUInt32 &&& Int32.toUInt32 31)).toInt32 :: t) S mr sr)
  | .iand => ox_b2 st (fun x y t => k (pc + 1) L (.inl (x &&& y) :: t) S mr sr)
  | .ior => ox_b2 st (fun x y t => k (pc + 1) L (.inl (x ||| y) :: t) S mr sr)
  | .ladd => ox_l2 st (fun x y t => k (pc + 1) L (.inr (.inl (x + y)) :: t) S mr sr)
  | .lsub => ox_l2 st (fun x y t => k (pc + 1) L (.inr (.inl (x - y)) :: t) S mr sr)
  | .lmul => ox_l2 st (fun x y t => k (pc + 1) L (.inr (.inl (x * y)) :: t) S mr sr)
  | .ldiv => ox_l2 st (fun x y t => ¬ y = 0 ∧ k (pc + 1) L (.inr (.inl (x / y)) :: t) S mr sr)
  | .lrem => ox_l2 st (fun x y t => ¬ y = 0 ∧ k (pc + 1) L (.inr (.inl (x - x / y * y)) :: t) S mr sr)
  | .land => ox_l2 st (fun x y t => k (pc + 1) L (.inr (.inl (x &&& y)) :: t) S mr sr)
  | .lor => ox_l2 st (fun x y t => k (pc + 1) L (.inr (.inl (x ||| y)) :: t) S mr sr)
  | .lneg => ox_l1 st (fun x t => k (pc + 1) L (.inr (.inl (-x)) :: t) S mr sr)
  | .lcmp => ox_l2 st (fun x y t => k (pc + 1) L (.inl (lg_cmp x y) :: t) S mr sr)
  | .lshl => ox_li st (fun x y t => k (pc + 1) L (.inr (.inl (x <<< (y.toInt64 &&& 63))) :: t) S mr sr)
  | .lshr => ox_li st (fun x y t => k (pc + 1) L (.inr (.inl (x >>> (y.toInt64 &&& 63))) :: t) S mr sr)
  | .lushr => ox_li st (fun x y t => k (pc + 1) L (.inr (.inl (x.toUInt64 >>> (y.toInt64.toUInt64 &&& Int64.toUInt64 63)).toInt64) :: t) S mr sr)
  | .i2l => ox_b1 st (fun x t => k (pc + 1) L (.inr (.inl x.toInt64) :: t) S mr sr)
  | .l2i => ox_l1 st (fun x t => k (pc + 1) L (.inl x.toInt32 :: t) S mr sr)
  | .i2c => ox_b1 st (fun x t => k (pc + 1) L (.inl (x.toUInt32 % 65536).toInt32 :: t) S mr sr)
  | .dup => ox_w1 st (fun v t => k (pc + 1) L (v :: v :: t) S mr sr)
  | .pop => ox_w1 st (fun _ t => k (pc + 1) L t S mr sr)
  | .dup_x1 => ox_w1 st (fun v t => ox_r1 t (fun a u => k (pc + 1) L (v :: .inr (.inr a) :: v :: u) S mr sr))
  | .dup2 => ox_ai st (fun a i t => k (pc + 1) L (.inl i :: .inr (.inr a) :: .inl i :: .inr (.inr a) :: t) S mr sr)
  | .goto off => ox_go pc off (fun t => k t L st S mr sr)
  | .ifCond c off => ox_b1 st (fun x t => ox_go pc off (fun q => (ox_ic c x 0 → k q L t S mr sr) ∧ (ox_icN c x 0 → k (pc + 3) L t S mr sr)))
  | .if_icmp c off => ox_b2 st (fun x y t => ox_go pc off (fun q => (ox_ic c x y → k q L t S mr sr) ∧ (ox_icN c x y → k (pc + 3) L t S mr sr)))
  | .if_acmp c off => ox_r2 st (fun x y t => ox_go pc off (fun q => (ox_ac c x y → k q L t S mr sr) ∧ (ox_acN c x y → k (pc + 3) L t S mr sr)))
  | .ifnull off => ox_r1 st (fun a t => ox_go pc off (fun q => (a = 0 → k q L t S mr sr) ∧ (¬ a = 0 → k (pc + 3) L t S mr sr)))
  | .ifnonnull off => ox_r1 st (fun a t => ox_go pc off (fun q => (¬ a = 0 → k q L t S mr sr) ∧ (a = 0 → k (pc + 3) L t S mr sr)))
  | .tableswitch d lo _ offs => ox_b1 st (fun x t => ox_ts pc x d (fun q => k q L t S mr sr) lo offs.toList)
  | .lookupswitch d qs => ox_b1 st (fun x t => ox_lks pc x d (fun q => k q L t S mr sr) qs.toList)
  | .getstatic _ => k (pc + 3) L (.inr (.inr (S.R (ox_p ps 0) 0)) :: st) S mr sr
  | .getfield _ => ox_r1 st (fun a t => ox_has (S.K a) (ox_p ps 0) = true ∧ k (pc + 3) L (ox_fv (ox_p ps 1) (ox_p ps 0) S a :: t) S mr sr)
  | .putfield _ => match st with
    | v :: .inr (.inr a) :: t => ox_has (S.K a) (ox_p ps 0) = true ∧ ox_pf (ox_p ps 1) (ox_p ps 0) S a v (fun S' => k (pc + 3) L t S' mr sr)
    | _ => False
  | .iaload => ox_ai st (fun a i t => ox_rdI (S.K a) = true ∧ vp_in i (S.len a) ∧ k (pc + 1) L (.inl (S.rI a i.toNatClampNeg) :: t) S mr sr)
  | .baload => ox_ai st (fun a i t => S.K a = 17 ∧ vp_in i (S.len a) ∧ k (pc + 1) L (.inl (S.rI a i.toNatClampNeg) :: t) S mr sr)
  | .laload => ox_ai st (fun a i t => ox_rdJ (S.K a) = true ∧ vp_in i (S.len a) ∧ k (pc + 1) L (.inr (.inl (S.rJ a i.toNatClampNeg)) :: t) S mr sr)
  | .aaload => ox_ai st (fun a i t => ox_rdR (S.K a) = true ∧ vp_in i (S.len a) ∧ k (pc + 1) L (.inr (.inr (S.rR a i.toNatClampNeg)) :: t) S mr sr)
  | .iastore => ox_aii st (fun a i x t => S.K a = 15 ∧ vp_in i (S.len a) ∧ k (pc + 1) L t (S.wI a i.toNatClampNeg x) mr sr)
  | .bastore => ox_aii st (fun a i x t => S.K a = 17 ∧ vp_in i (S.len a) ∧ k (pc + 1) L t (S.wI a i.toNatClampNeg (vp_nar .boolean x)) mr sr)
  | .lastore => ox_ail st (fun a i x t => S.K a = 16 ∧ vp_in i (S.len a) ∧ k (pc + 1) L t (S.wJ a i.toNatClampNeg x) mr sr)
  | .aastore => ox_aia st (fun a i x t => ox_rdR (S.K a) = true ∧ vp_in i (S.len a) ∧ (x = 0 ∨ ox_asg (S.K a) (S.K x) = true) ∧ k (pc + 1) L t (S.wR a i.toNatClampNeg x) mr sr)
  | .arraylength => ox_r1 st (fun a t => ox_rdL (S.K a) = true ∧ k (pc + 1) L (.inl (Int32.ofNat (S.len a)) :: t) S mr sr)
  | .new _ => 1 ≤ mr ∧ (ox_kf (ox_p ps 0)).length ≤ sr ∧ k (pc + 3) L (.inr (.inr S.n) :: st) (S.newO (ox_p ps 0)) (mr - 1) (sr - (ox_kf (ox_p ps 0)).length)
  | .newarray _ => ox_b1 st (fun n t => ¬ n < 0 ∧ n.toNatClampNeg ≤ 67108864 ∧ 1 ≤ mr ∧ n.toNatClampNeg ≤ sr ∧ k (pc + 2) L (.inr (.inr S.n) :: t) (S.newA (ox_p ps 0) n.toNatClampNeg) (mr - 1) (sr - n.toNatClampNeg))
  | .anewarray _ => ox_b1 st (fun n t => ¬ n < 0 ∧ n.toNatClampNeg ≤ 67108864 ∧ 1 ≤ mr ∧ n.toNatClampNeg ≤ sr ∧ k (pc + 3) L (.inr (.inr S.n) :: t) (S.newA (ox_p ps 0) n.toNatClampNeg) (mr - 1) (sr - n.toNatClampNeg))
  | .instanceof _ => ox_r1 st (fun a t => (a = 0 ∨ ox_isV (S.K a) = true) ∧ k (pc + 3) L (.inl (if (ps.drop 1).contains (S.K a) = true then 1 else 0) :: t) S mr sr)
  | .checkcast _ => ox_r1 st (fun a t => (a = 0 ∨ (ps.drop 1).contains (S.K a) = true) ∧ k (pc + 3) L (.inr (.inr a) :: t) S mr sr)
  | .invokestatic _ => ox_inv E ps st S mr sr (fun t S' mr' sr' => k (pc + 3) L t S' mr' sr')
  | .invokevirtual _ => ox_inv E ps st S mr sr (fun t S' mr' sr' => k (pc + 3) L t S' mr' sr')
  | .invokespecial _ => ox_inv E ps st S mr sr (fun t S' mr' sr' => k (pc + 3) L t S' mr' sr')
  | .ireturn => match st with
    | [.inl x] => ox_nar rt x ∧ r (some (.inl x)) S
    | _ => False
  | .lreturn => match st with
    | [.inr (.inl x)] => ox_isL rt = true ∧ r (some (.inr (.inl x))) S
    | _ => False
  | .areturn => match st with
    | [.inr (.inr x)] => ox_isR rt = true ∧ r (some (.inr (.inr x))) S
    | _ => False
  | .return_ => match st with
    | [] => rt = none ∧ r none S
    | _ => False
  | _ => False
