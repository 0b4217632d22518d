/-! a walk's condition grows with what is asked at its end -/
def ox_mono (E : ox_E) : Prop := ∀ j as mc ms S (Q Q' : ox_Q), (∀ v S, Q v S → Q' v S) → E j as mc ms S Q → E j as mc ms S Q'
def ox_q0 (v : Option ox_V) (k : Prop) : Prop := match v with
  | none => k
  | _ => False
theorem ox_b1_m {st : List ox_V} {f g : Int32 → List ox_V → Prop} (h : ∀ x t, f x t → g x t) (q : ox_b1 st f) : ox_b1 st g := by
  unfold ox_b1 at q ⊢
  split at q <;> first | exact h _ _  q | exact q.elim
theorem ox_b2_m {st : List ox_V} {f g : Int32 → Int32 → List ox_V → Prop} (h : ∀ x y t, f x y t → g x y t) (q : ox_b2 st f) : ox_b2 st g := by
  unfold ox_b2 at q ⊢
  split at q <;> first | exact h _ _ _  q | exact q.elim
theorem ox_l1_m {st : List ox_V} {f g : Int64 → List ox_V → Prop} (h : ∀ x t, f x t → g x t) (q : ox_l1 st f) : ox_l1 st g := by
  unfold ox_l1 at q ⊢
  split at q <;> first | exact h _ _  q | exact q.elim
theorem ox_l2_m {st : List ox_V} {f g : Int64 → Int64 → List ox_V → Prop} (h : ∀ x y t, f x y t → g x y t) (q : ox_l2 st f) : ox_l2 st g := by
  unfold ox_l2 at q ⊢
  split at q <;> first | exact h _ _ _  q | exact q.elim
theorem ox_li_m {st : List ox_V} {f g : Int64 → Int32 → List ox_V → Prop} (h : ∀ x y t, f x y t → g x y t) (q : ox_li st f) : ox_li st g := by
  unfold ox_li at q ⊢
  split at q <;> first | exact h _ _ _  q | exact q.elim
theorem ox_r1_m {st : List ox_V} {f g : Nat → List ox_V → Prop} (h : ∀ x t, f x t → g x t) (q : ox_r1 st f) : ox_r1 st g := by
  unfold ox_r1 at q ⊢
  split at q <;> first | exact h _ _  q | exact q.elim
theorem ox_r2_m {st : List ox_V} {f g : Nat → Nat → List ox_V → Prop} (h : ∀ x y t, f x y t → g x y t) (q : ox_r2 st f) : ox_r2 st g := by
  unfold ox_r2 at q ⊢
  split at q <;> first | exact h _ _ _  q | exact q.elim
theorem ox_ai_m {st : List ox_V} {f g : Nat → Int32 → List ox_V → Prop} (h : ∀ x y t, f x y t → g x y t) (q : ox_ai st f) : ox_ai st g := by
  unfold ox_ai at q ⊢
  split at q <;> first | exact h _ _ _  q | exact q.elim
theorem ox_aii_m {st : List ox_V} {f g : Nat → Int32 → Int32 → List ox_V → Prop} (h : ∀ x y z t, f x y z t → g x y z t) (q : ox_aii st f) : ox_aii st g := by
  unfold ox_aii at q ⊢
  split at q <;> first | exact h _ _ _ _  q | exact q.elim
theorem ox_ail_m {st : List ox_V} {f g : Nat → Int32 → Int64 → List ox_V → Prop} (h : ∀ x y z t, f x y z t → g x y z t) (q : ox_ail st f) : ox_ail st g := by
  unfold ox_ail at q ⊢
  split at q <;> first | exact h _ _ _ _  q | exact q.elim
theorem ox_aia_m {st : List ox_V} {f g : Nat → Int32 → Nat → List ox_V → Prop} (h : ∀ x y z t, f x y z t → g x y z t) (q : ox_aia st f) : ox_aia st g := by
  unfold ox_aia at q ⊢
  split at q <;> first | exact h _ _ _ _  q | exact q.elim
theorem ox_sti_m {st : List ox_V} {f g : ox_V → List ox_V → Prop} (h : ∀ x t, f x t → g x t) (q : ox_sti st f) : ox_sti st g := by
  unfold ox_sti at q ⊢
  split at q <;> first | exact h _ _  q | exact q.elim
theorem ox_stl_m {st : List ox_V} {f g : ox_V → List ox_V → Prop} (h : ∀ x t, f x t → g x t) (q : ox_stl st f) : ox_stl st g := by
  unfold ox_stl at q ⊢
  split at q <;> first | exact h _ _  q | exact q.elim
theorem ox_sta_m {st : List ox_V} {f g : ox_V → List ox_V → Prop} (h : ∀ x t, f x t → g x t) (q : ox_sta st f) : ox_sta st g := by
  unfold ox_sta at q ⊢
  split at q <;> first | exact h _ _  q | exact q.elim
theorem ox_w1_m {st : List ox_V} {f g : ox_V → List ox_V → Prop} (h : ∀ x t, f x t → g x t) (q : ox_w1 st f) : ox_w1 st g := by
  unfold ox_w1 at q ⊢
  split at q <;> first | exact h _ _  q | exact q.elim
theorem ox_ldi_m {L : ox_L} {j : Nat} {f g : ox_V → Prop} (h : ∀ x, f x → g x) (q : ox_ldi L j f) : ox_ldi L j g := by
  unfold ox_ldi at q ⊢
  split at q <;> first | exact h _ q | exact q.elim
theorem ox_ldl_m {L : ox_L} {j : Nat} {f g : ox_V → Prop} (h : ∀ x, f x → g x) (q : ox_ldl L j f) : ox_ldl L j g := by
  unfold ox_ldl at q ⊢
  split at q <;> first | exact h _ q | exact q.elim
theorem ox_lda_m {L : ox_L} {j : Nat} {f g : ox_V → Prop} (h : ∀ x, f x → g x) (q : ox_lda L j f) : ox_lda L j g := by
  unfold ox_lda at q ⊢
  split at q <;> first | exact h _ q | exact q.elim
theorem ox_go_m {pc : Nat} {off : Int} {f g : Nat → Prop} (h : ∀ t, f t → g t) (q : ox_go pc off f) : ox_go pc off g := by
  unfold ox_go at q ⊢
  split at q
  · exact h _ q
  · exact q.elim
theorem ox_pf_m {ty F : Nat} {S : ox_St} {a : Nat} {v : ox_V} {f g : ox_St → Prop} (h : ∀ S, f S → g S) (q : ox_pf ty F S a v f) : ox_pf ty F S a v g := by
  unfold ox_pf at q ⊢
  split at q
  · split at q <;> first | exact h _ q | exact q.elim
  · split at q <;> first | exact h _ q | exact q.elim
  · split at q <;> first | exact h _ q | exact q.elim
  · split at q <;> first | exact ⟨q.1, h _ q.2⟩ | exact q.elim
theorem ox_ts_m {pc : Nat} {x : Int32} {d : Int} {f g : Nat → Prop} (h : ∀ t, f t → g t) : ∀ (os : List Int) (lo : Int), ox_ts pc x d f lo os → ox_ts pc x d g lo os
  | [], _, q => ox_go_m h q
  | _ :: os, lo, q => ⟨fun e => ox_go_m h (q.1 e), fun e => ox_ts_m h os (lo + 1) (q.2 e)⟩
theorem ox_lks_m {pc : Nat} {x : Int32} {d : Int} {f g : Nat → Prop} (h : ∀ t, f t → g t) : ∀ (os : List (Int × Int)), ox_lks pc x d f os → ox_lks pc x d g os
  | [], q => ox_go_m h q
  | _ :: os, q => ⟨fun e => ox_go_m h (q.1 e), fun e => ox_lks_m h os (q.2 e)⟩
theorem ox_cv_m {E : ox_E} (hE : ox_mono E) {j : Nat} {as rest : List ox_V} {S : ox_St} {mr sr : Nat} {f g : List ox_V → ox_St → Nat → Nat → Prop} (h : ∀ t S a b, f t S a b → g t S a b) (q : ox_cv E j as rest S mr sr f) : ox_cv E j as rest S mr sr g := by
  obtain ⟨q1, mc, ms, q2, q3, q4⟩ := q
  exact ⟨q1, mc, ms, q2, q3, hE _ _ _ _ _ _ _ (fun v S' z => h _ _ _ _ z) q4⟩
theorem ox_recv_m {as : List ox_V} {f g : Nat → Prop} (h : ∀ a, f a → g a) (q : ox_recv as f) : ox_recv as g := by
  unfold ox_recv at q ⊢
  split at q
  · exact h _ q
  · exact q.elim
theorem ox_pv_m {o : Option Nat} {f g : Nat → Prop} (h : ∀ j, f j → g j) (q : ox_pv o f) : ox_pv o g := by
  unfold ox_pv at q ⊢
  split at q
  · exact h _ q
  · exact q.elim
theorem ox_inv_m {E : ox_E} (hE : ox_mono E) {ps : List Nat} {st : List ox_V} {S : ox_St} {mr sr : Nat} {f g : List ox_V → ox_St → Nat → Nat → Prop} (h : ∀ t S a b, f t S a b → g t S a b) (q : ox_inv E ps st S mr sr f) : ox_inv E ps st S mr sr g := by
  unfold ox_inv at q ⊢
  split at q
  · exact ⟨q.1, ox_cv_m hE h q.2⟩
  · exact ⟨q.1, q.2.1, ox_cv_m hE h q.2.2⟩
  · exact ⟨q.1, q.2.1, ox_cv_m hE h q.2.2⟩
  · exact ⟨q.1, q.2.1, ox_cv_m hE h q.2.2⟩
  · refine ⟨q.1, ox_recv_m (fun a z => ?_) q.2⟩
    exact ox_pv_m (fun _ z => ox_cv_m hE h z) z
  · exact ox_r1_m (fun a t z => ⟨z.1, z.2.1, h _ _ _ _ z.2.2⟩) q
  · exact ox_b2_m (fun _ _ _ z => ⟨z.1, h _ _ _ _ z.2⟩) q
  · exact ox_b2_m (fun _ _ _ z => ⟨z.1, h _ _ _ _ z.2⟩) q
  · exact ox_b1_m (fun _ _ z => ⟨z.1, h _ _ _ _ z.2⟩) q
  · exact ox_l1_m (fun _ _ z => ⟨z.1, h _ _ _ _ z.2⟩) q
  · exact q.elim
theorem ox_step_m {E : ox_E} (hE : ox_mono E) {rt : Option FieldType} {ps : List Nat} {pc : Nat} {L : ox_L} {st : List ox_V} {S : ox_St} {mr sr : Nat} {k k' : ox_K} {r r' : ox_Q} (hk : ∀ pc L st S mr sr, k pc L st S mr sr → k' pc L st S mr sr) (hr : ∀ v S, r v S → r' v S) (i : ClassFile.Instr) (q : ox_step E rt i ps pc L st S mr sr k r) : ox_step E rt i ps pc L st S mr sr k' r' := by
  cases i
  case aaload =>
    simp only [ox_step] at q ⊢
    refine ox_ai_m ?_ q
    intro _ _ _ z
    exact ⟨z.1, z.2.1, hk _ _ _ _ _ _ z.2.2⟩
  case aastore =>
    simp only [ox_step] at q ⊢
    refine ox_aia_m ?_ q
    intro _ _ _ _ z
    exact ⟨z.1, z.2.1, z.2.2.1, hk _ _ _ _ _ _ z.2.2.2⟩
  case aconst_null =>
    exact hk _ _ _ _ _ _ q
  case aload z1 =>
    simp only [ox_step] at q ⊢
    refine ox_lda_m ?_ q
    intro _ z
    exact hk _ _ _ _ _ _ z
  case aload_n z1 =>
    simp only [ox_step] at q ⊢
    refine ox_lda_m ?_ q
    intro _ z
    exact hk _ _ _ _ _ _ z
  case anewarray z1 =>
    simp only [ox_step] at q ⊢
    refine ox_b1_m ?_ q
    intro _ _ z
    exact ⟨z.1, z.2.1, z.2.2.1, z.2.2.2.1, hk _ _ _ _ _ _ z.2.2.2.2⟩
  case areturn =>
    simp only [ox_step] at q ⊢
    split at q
    · exact ⟨q.1, hr _ _ q.2⟩
    · exact q.elim
  case arraylength =>
    simp only [ox_step] at q ⊢
    refine ox_r1_m ?_ q
    intro _ _ z
    exact ⟨z.1, hk _ _ _ _ _ _ z.2⟩
  case astore z1 =>
    simp only [ox_step] at q ⊢
    refine ox_sta_m ?_ q
    intro _ _ z
    exact hk _ _ _ _ _ _ z
  case astore_n z1 =>
    simp only [ox_step] at q ⊢
    refine ox_sta_m ?_ q
    intro _ _ z
    exact hk _ _ _ _ _ _ z
  case athrow =>
    exact q.elim
  case baload =>
    simp only [ox_step] at q ⊢
    refine ox_ai_m ?_ q
    intro _ _ _ z
    exact ⟨z.1, z.2.1, hk _ _ _ _ _ _ z.2.2⟩
  case bastore =>
    simp only [ox_step] at q ⊢
    refine ox_aii_m ?_ q
    intro _ _ _ _ z
    exact ⟨z.1, z.2.1, hk _ _ _ _ _ _ z.2.2⟩
  case bipush z1 =>
    exact hk _ _ _ _ _ _ q
  case caload =>
    exact q.elim
  case castore =>
    exact q.elim
  case checkcast z1 =>
    simp only [ox_step] at q ⊢
    refine ox_r1_m ?_ q
    intro _ _ z
    exact ⟨z.1, hk _ _ _ _ _ _ z.2⟩
  case d2f =>
    exact q.elim
  case d2i =>
    exact q.elim
  case d2l =>
    exact q.elim
  case dadd =>
    exact q.elim
  case daload =>
    exact q.elim
  case dastore =>
    exact q.elim
  case dcmp z1 =>
    exact q.elim
  case dconst z1 =>
    exact q.elim
  case ddiv =>
    exact q.elim
  case dload z1 =>
    exact q.elim
  case dload_n z1 =>
    exact q.elim
  case dmul =>
    exact q.elim
  case dneg =>
    exact q.elim
  case drem =>
    exact q.elim
  case dreturn =>
    exact q.elim
  case dstore z1 =>
    exact q.elim
  case dstore_n z1 =>
    exact q.elim
  case dsub =>
    exact q.elim
  case dup =>
    simp only [ox_step] at q ⊢
    refine ox_w1_m ?_ q
    intro _ _ z
    exact hk _ _ _ _ _ _ z
  case dup_x1 =>
    simp only [ox_step] at q ⊢
    refine ox_w1_m ?_ q
    intro _ _ z
    refine ox_r1_m ?_ z
    intro _ _ z
    exact hk _ _ _ _ _ _ z
  case dup_x2 =>
    exact q.elim
  case dup2 =>
    simp only [ox_step] at q ⊢
    refine ox_ai_m ?_ q
    intro _ _ _ z
    exact hk _ _ _ _ _ _ z
  case dup2_x1 =>
    exact q.elim
  case dup2_x2 =>
    exact q.elim
  case f2d =>
    exact q.elim
  case f2i =>
    exact q.elim
  case f2l =>
    exact q.elim
  case fadd =>
    exact q.elim
  case faload =>
    exact q.elim
  case fastore =>
    exact q.elim
  case fcmp z1 =>
    exact q.elim
  case fconst z1 =>
    exact q.elim
  case fdiv =>
    exact q.elim
  case fload z1 =>
    exact q.elim
  case fload_n z1 =>
    exact q.elim
  case fmul =>
    exact q.elim
  case fneg =>
    exact q.elim
  case frem =>
    exact q.elim
  case freturn =>
    exact q.elim
  case fstore z1 =>
    exact q.elim
  case fstore_n z1 =>
    exact q.elim
  case fsub =>
    exact q.elim
  case getfield z1 =>
    simp only [ox_step] at q ⊢
    refine ox_r1_m ?_ q
    intro _ _ z
    exact ⟨z.1, hk _ _ _ _ _ _ z.2⟩
  case getstatic z1 =>
    exact hk _ _ _ _ _ _ q
  case goto z1 =>
    simp only [ox_step] at q ⊢
    refine ox_go_m ?_ q
    intro _ z
    exact hk _ _ _ _ _ _ z
  case goto_w z1 =>
    exact q.elim
  case i2b =>
    exact q.elim
  case i2c =>
    simp only [ox_step] at q ⊢
    refine ox_b1_m ?_ q
    intro _ _ z
    exact hk _ _ _ _ _ _ z
  case i2d =>
    exact q.elim
  case i2f =>
    exact q.elim
  case i2l =>
    simp only [ox_step] at q ⊢
    refine ox_b1_m ?_ q
    intro _ _ z
    exact hk _ _ _ _ _ _ z
  case i2s =>
    exact q.elim
  case iadd =>
    simp only [ox_step] at q ⊢
    refine ox_b2_m ?_ q
    intro _ _ _ z
    exact hk _ _ _ _ _ _ z
  case iaload =>
    simp only [ox_step] at q ⊢
    refine ox_ai_m ?_ q
    intro _ _ _ z
    exact ⟨z.1, z.2.1, hk _ _ _ _ _ _ z.2.2⟩
  case iand =>
    simp only [ox_step] at q ⊢
    refine ox_b2_m ?_ q
    intro _ _ _ z
    exact hk _ _ _ _ _ _ z
  case iastore =>
    simp only [ox_step] at q ⊢
    refine ox_aii_m ?_ q
    intro _ _ _ _ z
    exact ⟨z.1, z.2.1, hk _ _ _ _ _ _ z.2.2⟩
  case iconst z1 =>
    exact hk _ _ _ _ _ _ q
  case idiv =>
    simp only [ox_step] at q ⊢
    refine ox_b2_m ?_ q
    intro _ _ _ z
    exact ⟨z.1, hk _ _ _ _ _ _ z.2⟩
  case if_acmp z1 z2 =>
    simp only [ox_step] at q ⊢
    refine ox_r2_m ?_ q
    intro _ _ _ z
    refine ox_go_m ?_ z
    intro _ z
    exact ⟨fun e => hk _ _ _ _ _ _ (z.1 e), fun e => hk _ _ _ _ _ _ (z.2 e)⟩
  case if_icmp z1 z2 =>
    simp only [ox_step] at q ⊢
    refine ox_b2_m ?_ q
    intro _ _ _ z
    refine ox_go_m ?_ z
    intro _ z
    exact ⟨fun e => hk _ _ _ _ _ _ (z.1 e), fun e => hk _ _ _ _ _ _ (z.2 e)⟩
  case ifCond z1 z2 =>
    simp only [ox_step] at q ⊢
    refine ox_b1_m ?_ q
    intro _ _ z
    refine ox_go_m ?_ z
    intro _ z
    exact ⟨fun e => hk _ _ _ _ _ _ (z.1 e), fun e => hk _ _ _ _ _ _ (z.2 e)⟩
  case ifnonnull z1 =>
    simp only [ox_step] at q ⊢
    refine ox_r1_m ?_ q
    intro _ _ z
    refine ox_go_m ?_ z
    intro _ z
    exact ⟨fun e => hk _ _ _ _ _ _ (z.1 e), fun e => hk _ _ _ _ _ _ (z.2 e)⟩
  case ifnull z1 =>
    simp only [ox_step] at q ⊢
    refine ox_r1_m ?_ q
    intro _ _ z
    refine ox_go_m ?_ z
    intro _ z
    exact ⟨fun e => hk _ _ _ _ _ _ (z.1 e), fun e => hk _ _ _ _ _ _ (z.2 e)⟩
  case iinc z1 z2 =>
    simp only [ox_step] at q ⊢
    split at q
    · exact hk _ _ _ _ _ _ q
    · exact q.elim
  case iload z1 =>
    simp only [ox_step] at q ⊢
    refine ox_ldi_m ?_ q
    intro _ z
    exact hk _ _ _ _ _ _ z
  case iload_n z1 =>
    simp only [ox_step] at q ⊢
    refine ox_ldi_m ?_ q
    intro _ z
    exact hk _ _ _ _ _ _ z
  case imul =>
    simp only [ox_step] at q ⊢
    refine ox_b2_m ?_ q
    intro _ _ _ z
    exact hk _ _ _ _ _ _ z
  case ineg =>
    simp only [ox_step] at q ⊢
    refine ox_b1_m ?_ q
    intro _ _ z
    exact hk _ _ _ _ _ _ z
  case instanceof z1 =>
    simp only [ox_step] at q ⊢
    refine ox_r1_m ?_ q
    intro _ _ z
    exact ⟨z.1, hk _ _ _ _ _ _ z.2⟩
  case invokedynamic z1 =>
    exact q.elim
  case invokeinterface z1 z2 =>
    exact q.elim
  case invokespecial z1 =>
    simp only [ox_step] at q ⊢
    refine ox_inv_m hE ?_ q
    intro _ _ _ _ z
    exact hk _ _ _ _ _ _ z
  case invokestatic z1 =>
    simp only [ox_step] at q ⊢
    refine ox_inv_m hE ?_ q
    intro _ _ _ _ z
    exact hk _ _ _ _ _ _ z
  case invokevirtual z1 =>
    simp only [ox_step] at q ⊢
    refine ox_inv_m hE ?_ q
    intro _ _ _ _ z
    exact hk _ _ _ _ _ _ z
  case ior =>
    simp only [ox_step] at q ⊢
    refine ox_b2_m ?_ q
    intro _ _ _ z
    exact hk _ _ _ _ _ _ z
  case irem =>
    simp only [ox_step] at q ⊢
    refine ox_b2_m ?_ q
    intro _ _ _ z
    exact ⟨z.1, hk _ _ _ _ _ _ z.2⟩
  case ireturn =>
    simp only [ox_step] at q ⊢
    split at q
    · exact ⟨q.1, hr _ _ q.2⟩
    · exact q.elim
  case ishl =>
    simp only [ox_step] at q ⊢
    refine ox_b2_m ?_ q
    intro _ _ _ z
    exact hk _ _ _ _ _ _ z
  case ishr =>
    simp only [ox_step] at q ⊢
    refine ox_b2_m ?_ q
    intro _ _ _ z
    exact hk _ _ _ _ _ _ z
  case istore z1 =>
    simp only [ox_step] at q ⊢
    refine ox_sti_m ?_ q
    intro _ _ z
    exact hk _ _ _ _ _ _ z
  case istore_n z1 =>
    simp only [ox_step] at q ⊢
    refine ox_sti_m ?_ q
    intro _ _ z
    exact hk _ _ _ _ _ _ z
  case isub =>
    simp only [ox_step] at q ⊢
    refine ox_b2_m ?_ q
    intro _ _ _ z
    exact hk _ _ _ _ _ _ z
  case iushr =>
    simp only [ox_step] at q ⊢
    refine ox_b2_m ?_ q
    intro _ _ _ z
    exact hk _ _ _ _ _ _ z
  case ixor =>
    exact q.elim
  case jsr z1 =>
    exact q.elim
  case jsr_w z1 =>
    exact q.elim
  case l2d =>
    exact q.elim
  case l2f =>
    exact q.elim
  case l2i =>
    simp only [ox_step] at q ⊢
    refine ox_l1_m ?_ q
    intro _ _ z
    exact hk _ _ _ _ _ _ z
  case ladd =>
    simp only [ox_step] at q ⊢
    refine ox_l2_m ?_ q
    intro _ _ _ z
    exact hk _ _ _ _ _ _ z
  case laload =>
    simp only [ox_step] at q ⊢
    refine ox_ai_m ?_ q
    intro _ _ _ z
    exact ⟨z.1, z.2.1, hk _ _ _ _ _ _ z.2.2⟩
  case land =>
    simp only [ox_step] at q ⊢
    refine ox_l2_m ?_ q
    intro _ _ _ z
    exact hk _ _ _ _ _ _ z
  case lastore =>
    simp only [ox_step] at q ⊢
    refine ox_ail_m ?_ q
    intro _ _ _ _ z
    exact ⟨z.1, z.2.1, hk _ _ _ _ _ _ z.2.2⟩
  case lcmp =>
    simp only [ox_step] at q ⊢
    refine ox_l2_m ?_ q
    intro _ _ _ z
    exact hk _ _ _ _ _ _ z
  case lconst z1 =>
    exact hk _ _ _ _ _ _ q
  case ldc z1 =>
    exact hk _ _ _ _ _ _ q
  case ldc_w z1 =>
    exact hk _ _ _ _ _ _ q
  case ldc2_w z1 =>
    exact hk _ _ _ _ _ _ q
  case ldiv =>
    simp only [ox_step] at q ⊢
    refine ox_l2_m ?_ q
    intro _ _ _ z
    exact ⟨z.1, hk _ _ _ _ _ _ z.2⟩
  case lload z1 =>
    simp only [ox_step] at q ⊢
    refine ox_ldl_m ?_ q
    intro _ z
    exact hk _ _ _ _ _ _ z
  case lload_n z1 =>
    simp only [ox_step] at q ⊢
    refine ox_ldl_m ?_ q
    intro _ z
    exact hk _ _ _ _ _ _ z
  case lmul =>
    simp only [ox_step] at q ⊢
    refine ox_l2_m ?_ q
    intro _ _ _ z
    exact hk _ _ _ _ _ _ z
  case lneg =>
    simp only [ox_step] at q ⊢
    refine ox_l1_m ?_ q
    intro _ _ z
    exact hk _ _ _ _ _ _ z
  case lookupswitch z1 z2 =>
    simp only [ox_step] at q ⊢
    refine ox_b1_m ?_ q
    intro _ _ z
    refine ox_lks_m ?_ _ z
    intro _ z
    exact hk _ _ _ _ _ _ z
  case lor =>
    simp only [ox_step] at q ⊢
    refine ox_l2_m ?_ q
    intro _ _ _ z
    exact hk _ _ _ _ _ _ z
  case lrem =>
    simp only [ox_step] at q ⊢
    refine ox_l2_m ?_ q
    intro _ _ _ z
    exact ⟨z.1, hk _ _ _ _ _ _ z.2⟩
  case lreturn =>
    simp only [ox_step] at q ⊢
    split at q
    · exact ⟨q.1, hr _ _ q.2⟩
    · exact q.elim
  case lshl =>
    simp only [ox_step] at q ⊢
    refine ox_li_m ?_ q
    intro _ _ _ z
    exact hk _ _ _ _ _ _ z
  case lshr =>
    simp only [ox_step] at q ⊢
    refine ox_li_m ?_ q
    intro _ _ _ z
    exact hk _ _ _ _ _ _ z
  case lstore z1 =>
    simp only [ox_step] at q ⊢
    refine ox_stl_m ?_ q
    intro _ _ z
    exact hk _ _ _ _ _ _ z
  case lstore_n z1 =>
    simp only [ox_step] at q ⊢
    refine ox_stl_m ?_ q
    intro _ _ z
    exact hk _ _ _ _ _ _ z
  case lsub =>
    simp only [ox_step] at q ⊢
    refine ox_l2_m ?_ q
    intro _ _ _ z
    exact hk _ _ _ _ _ _ z
  case lushr =>
    simp only [ox_step] at q ⊢
    refine ox_li_m ?_ q
    intro _ _ _ z
    exact hk _ _ _ _ _ _ z
  case lxor =>
    exact q.elim
  case monitorenter =>
    exact q.elim
  case monitorexit =>
    exact q.elim
  case multianewarray z1 z2 =>
    exact q.elim
  case new z1 =>
    exact ⟨q.1, q.2.1, hk _ _ _ _ _ _ q.2.2⟩
  case newarray z1 =>
    simp only [ox_step] at q ⊢
    refine ox_b1_m ?_ q
    intro _ _ z
    exact ⟨z.1, z.2.1, z.2.2.1, z.2.2.2.1, hk _ _ _ _ _ _ z.2.2.2.2⟩
  case nop =>
    exact q.elim
  case pop =>
    simp only [ox_step] at q ⊢
    refine ox_w1_m ?_ q
    intro _ _ z
    exact hk _ _ _ _ _ _ z
  case pop2 =>
    exact q.elim
  case putfield z1 =>
    simp only [ox_step] at q ⊢
    split at q
    · exact ⟨q.1, ox_pf_m (fun _ z => hk _ _ _ _ _ _ z) q.2⟩
    · exact q.elim
  case putstatic z1 =>
    exact q.elim
  case ret z1 =>
    exact q.elim
  case return_ =>
    simp only [ox_step] at q ⊢
    split at q
    · exact ⟨q.1, hr _ _ q.2⟩
    · exact q.elim
  case saload =>
    exact q.elim
  case sastore =>
    exact q.elim
  case sipush z1 =>
    exact hk _ _ _ _ _ _ q
  case swap =>
    exact q.elim
  case tableswitch z1 z2 z3 z4 =>
    simp only [ox_step] at q ⊢
    refine ox_b1_m ?_ q
    intro _ _ z
    refine ox_ts_m ?_ _ _ z
    intro _ z
    exact hk _ _ _ _ _ _ z
theorem ox_seg_m {E : ox_E} (hE : ox_mono E) {rt : Option FieldType} {code : List ox_I} {cut : List (Nat × List Nat)} {k k' : ox_K} {r r' : ox_Q} (hk : ∀ pc L st S mr sr, k pc L st S mr sr → k' pc L st S mr sr) (hr : ∀ v S, r v S → r' v S) : ∀ (n pc : Nat) (L : ox_L) (st : List ox_V) (S : ox_St) (mr sr : Nat), ox_seg E rt code cut k r n pc L st S mr sr → ox_seg E rt code cut k' r' n pc L st S mr sr := by
  intro n
  induction n with
  | zero => intro pc L st S mr sr q; exact q.elim
  | succ n ih =>
    intro pc L st S mr sr q
    unfold ox_seg at q ⊢
    split at q
    · refine ox_step_m hE (fun pc' L' st' S' mr' sr' z => ?_) hr _ q
      unfold ox_at_cut at z ⊢
      split at z
      · exact hk _ _ _ _ _ _ z
      · exact ih _ _ _ _ _ _ z
    · exact q.elim
theorem ox_C_fold {E : ox_E} (hE : ox_mono E) {rt : Option FieldType} {code : List ox_I} {cut : List (Nat × List Nat)} {r : ox_Q} {pc : Nat} {L : ox_L} {st : List ox_V} {S : ox_St} {mr sr : Nat} (h : ox_seg E rt code cut (ox_C E rt code cut r) r 400 pc L st S mr sr) : ox_C E rt code cut r pc L st S mr sr :=
  fun X hX => hX _ _ _ _ _ _ (ox_seg_m hE (fun _ _ _ _ _ _ z => z X hX) (fun _ _ z => z) _ _ _ _ _ _ _ h)
theorem ox_C_m {E : ox_E} (hE : ox_mono E) {rt : Option FieldType} {code : List ox_I} {cut : List (Nat × List Nat)} {r r' : ox_Q} (hr : ∀ v S, r v S → r' v S) {pc : Nat} {L : ox_L} {st : List ox_V} {S : ox_St} {mr sr : Nat} (h : ox_C E rt code cut r pc L st S mr sr) : ox_C E rt code cut r' pc L st S mr sr :=
  h _ (fun _ _ _ _ _ _ z => ox_C_fold hE (ox_seg_m hE (fun _ _ _ _ _ _ z => z) hr _ _ _ _ _ _ _ z))
theorem ox_M_mono {sp : ox_E} (hsp : ox_mono sp) : ∀ d, ox_mono (ox_M sp d)
  | 0 => fun _ _ _ _ _ _ _ _ h => h.elim
  | d + 1 => fun j as mc ms S Q Q' hQ h => h.elim (fun z => Or.inl ⟨z.1, hsp _ _ _ _ _ _ _ hQ z.2⟩) (fun z => Or.inr ⟨z.1, ox_C_m (ox_M_mono hsp d) hQ z.2⟩)
def ox_qi (v : Option ox_V) (k : Int32 → Prop) : Prop := match v with
  | some (.inl x) => k x
  | _ => False
def ox_ql (v : Option ox_V) (k : Int64 → Prop) : Prop := match v with
  | some (.inr (.inl x)) => k x
  | _ => False
def ox_qa (v : Option ox_V) (k : Nat → Prop) : Prop := match v with
  | some (.inr (.inr x)) => k x
  | _ => False
