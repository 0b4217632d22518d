/-! printed by gen/ga6.py: kinds and lengths stay, whatever a method does; and specials may be more -/
def oKl (S S' : ox_St) : Prop := S.n ≤ S'.n ∧ ∀ a, a < S.n → S'.K a = S.K a ∧ S'.len a = S.len a
theorem oKl.refl {S : ox_St} : oKl S S := ⟨Nat.le_refl _, fun _ _ => ⟨rfl, rfl⟩⟩
theorem oKl.trans {S S' T : ox_St} (h : oKl S S') (g : oKl S' T) : oKl S T := ⟨Nat.le_trans h.1 g.1, fun a ha => ⟨(g.2 a (Nat.lt_of_lt_of_le ha h.1)).1.trans (h.2 a ha).1, (g.2 a (Nat.lt_of_lt_of_le ha h.1)).2.trans (h.2 a ha).2⟩⟩
theorem oKl_of {S S' : ox_St} (h1 : S'.n = S.n) (h2 : S'.K = S.K) (h3 : S'.len = S.len) : oKl S S' := ⟨Nat.le_of_eq h1.symm, fun _ _ => ⟨by rw [h2], by rw [h3]⟩⟩
theorem oKl_newO {S : ox_St} {κ : Nat} : oKl S (S.newO κ) := ⟨Nat.le_succ _, fun a ha => ⟨if_neg (Nat.ne_of_lt ha), rfl⟩⟩
theorem oKl_newA {S : ox_St} {κ N : Nat} : oKl S (S.newA κ N) := ⟨Nat.le_succ _, fun a ha => ⟨if_neg (Nat.ne_of_lt ha), if_neg (Nat.ne_of_lt ha)⟩⟩
theorem oKl_wI {S : ox_St} {a i : Nat} {v : Int32} : oKl S (S.wI a i v) := ⟨Nat.le_refl _, fun _ _ => ⟨rfl, rfl⟩⟩
theorem oKl_wR {S : ox_St} {a i v : Nat} : oKl S (S.wR a i v) := ⟨Nat.le_refl _, fun _ _ => ⟨rfl, rfl⟩⟩
theorem oKl_wJ {S : ox_St} {a i : Nat} {v : Int64} : oKl S (S.wJ a i v) := ⟨Nat.le_refl _, fun _ _ => ⟨rfl, rfl⟩⟩
theorem oKl_sI {S : ox_St} {a i : Nat} {v : Int32} : oKl S (S.sI a i v) := ⟨Nat.le_refl _, fun _ _ => ⟨rfl, rfl⟩⟩
theorem oKl_sR {S : ox_St} {a i v : Nat} : oKl S (S.sR a i v) := ⟨Nat.le_refl _, fun _ _ => ⟨rfl, rfl⟩⟩
theorem oKl_sJ {S : ox_St} {a i : Nat} {v : Int64} : oKl S (S.sJ a i v) := ⟨Nat.le_refl _, fun _ _ => ⟨rfl, rfl⟩⟩
/-- every method of E does as one of E', and kinds and lengths stay -/
def ox_kp (E E' : ox_E) : Prop := ∀ j as mc ms S (Q Q' : ox_Q), (∀ v S', oKl S S' → Q v S' → Q' v S') → E j as mc ms S Q → E' j as mc ms S Q'
theorem ox_pf_k {ty F : Nat} {S : ox_St} {a : Nat} {v : ox_V} {f g : ox_St → Prop} (h : ∀ S', oKl S S' → f S' → g S') (q : ox_pf ty F S a v f) : ox_pf ty F S a v g := by
  unfold ox_pf at q ⊢
  split at q
  · split at q <;> first | exact h _ oKl_sI q | exact q.elim
  · split at q <;> first | exact h _ oKl_sJ q | exact q.elim
  · split at q <;> first | exact h _ oKl_sR q | exact q.elim
  · split at q <;> first | exact ⟨q.1, h _ oKl_sI q.2⟩ | exact q.elim
theorem ox_cv_k {E E' : ox_E} (hE : ox_kp E E') {j : Nat} {as rest : List ox_V} {S : ox_St} {mr sr : Nat} {f g : List ox_V → ox_St → Nat → Nat → Prop} (h : ∀ t S' a b, oKl S S' → f t S' a b → g t S' a b) (q : ox_cv E j as rest S mr sr f) : ox_cv E' j as rest S mr sr g := by
  obtain ⟨q1, mc, ms, q2, q3, q4⟩ := q
  exact ⟨q1, mc, ms, q2, q3, hE _ _ _ _ _ _ _ (fun v S' w z => h _ _ _ _ w z) q4⟩
theorem ox_inv_k {E E' : ox_E} (hE : ox_kp E E') {ps : List Nat} {st : List ox_V} {S : ox_St} {mr sr : Nat} {f g : List ox_V → ox_St → Nat → Nat → Prop} (h : ∀ t S' a b, oKl S S' → f t S' a b → g t S' a b) (q : ox_inv E ps st S mr sr f) : ox_inv E' ps st S mr sr g := by
  unfold ox_inv at q ⊢
  split at q
  · exact ⟨q.1, ox_cv_k hE h q.2⟩
  · exact ⟨q.1, q.2.1, ox_cv_k hE h q.2.2⟩
  · exact ⟨q.1, q.2.1, ox_cv_k hE h q.2.2⟩
  · exact ⟨q.1, q.2.1, ox_cv_k hE h q.2.2⟩
  · refine ⟨q.1, ox_recv_m (fun a z => ?_) q.2⟩
    exact ox_pv_m (fun _ z => ox_cv_k hE h z) z
  · exact ox_r1_m (fun a t z => ⟨z.1, z.2.1, h _ _ _ _ oKl.refl z.2.2⟩) q
  · exact ox_b2_m (fun _ _ _ z => ⟨z.1, h _ _ _ _ oKl.refl z.2⟩) q
  · exact ox_b2_m (fun _ _ _ z => ⟨z.1, h _ _ _ _ oKl.refl z.2⟩) q
  · exact ox_b1_m (fun _ _ z => ⟨z.1, h _ _ _ _ oKl.refl z.2⟩) q
  · exact ox_l1_m (fun _ _ z => ⟨z.1, h _ _ _ _ oKl.refl z.2⟩) q
  · exact q.elim
set_option maxHeartbeats 4000000 in
theorem ox_step_k {E E' : ox_E} (hE : ox_kp E E') {rt : Option FieldType} {ps : List Nat} {pc : Nat} {L : ox_L} {st : List ox_V} {S : ox_St} {mr sr : Nat} {k k' : ox_K} {r r' : ox_Q} (hk : ∀ pc L st S' mr sr, oKl S S' → k pc L st S' mr sr → k' pc L st S' mr sr) (hr : ∀ v S', oKl S S' → r v S' → r' v S') (i : ClassFile.Instr) (q : ox_step E rt i ps pc L st S mr sr k r) : ox_step E' rt i ps pc L st S mr sr k' r' := by
  cases i
  case aaload =>
    simp only [ox_step] at q ⊢
    refine ox_ai_m ?_ q
    intro _ _ _ z
    exact ⟨z.1, z.2.1, hk _ _ _ _ _ _ oKl.refl z.2.2⟩
  case aastore =>
    simp only [ox_step] at q ⊢
    refine ox_aia_m ?_ q
    intro _ _ _ _ z
    exact ⟨z.1, z.2.1, z.2.2.1, hk _ _ _ _ _ _ oKl_wR z.2.2.2⟩
  case aconst_null =>
    exact hk _ _ _ _ _ _ oKl.refl q
  case aload z1 =>
    simp only [ox_step] at q ⊢
    refine ox_lda_m ?_ q
    intro _ z
    exact hk _ _ _ _ _ _ oKl.refl z
  case aload_n z1 =>
    simp only [ox_step] at q ⊢
    refine ox_lda_m ?_ q
    intro _ z
    exact hk _ _ _ _ _ _ oKl.refl z
  case anewarray z1 =>
    simp only [ox_step] at q ⊢
    refine ox_b1_m ?_ q
    intro _ _ z
    exact ⟨z.1, z.2.1, z.2.2.1, z.2.2.2.1, hk _ _ _ _ _ _ oKl_newA z.2.2.2.2⟩
  case areturn =>
    simp only [ox_step] at q ⊢
    split at q
    · exact ⟨q.1, hr _ _ oKl.refl q.2⟩
    · exact q.elim
  case arraylength =>
    simp only [ox_step] at q ⊢
    refine ox_r1_m ?_ q
    intro _ _ z
    exact ⟨z.1, hk _ _ _ _ _ _ oKl.refl z.2⟩
  case astore z1 =>
    simp only [ox_step] at q ⊢
    refine ox_sta_m ?_ q
    intro _ _ z
    exact hk _ _ _ _ _ _ oKl.refl z
  case astore_n z1 =>
    simp only [ox_step] at q ⊢
    refine ox_sta_m ?_ q
    intro _ _ z
    exact hk _ _ _ _ _ _ oKl.refl z
  case athrow =>
    exact q.elim
  case baload =>
    simp only [ox_step] at q ⊢
    refine ox_ai_m ?_ q
    intro _ _ _ z
    exact ⟨z.1, z.2.1, hk _ _ _ _ _ _ oKl.refl z.2.2⟩
  case bastore =>
    simp only [ox_step] at q ⊢
    refine ox_aii_m ?_ q
    intro _ _ _ _ z
    exact ⟨z.1, z.2.1, hk _ _ _ _ _ _ oKl_wI z.2.2⟩
  case bipush z1 =>
    exact hk _ _ _ _ _ _ oKl.refl q
  case caload =>
    exact q.elim
  case castore =>
    exact q.elim
  case checkcast z1 =>
    simp only [ox_step] at q ⊢
    refine ox_r1_m ?_ q
    intro _ _ z
    exact ⟨z.1, hk _ _ _ _ _ _ oKl.refl z.2⟩
  case d2f =>
    exact q.elim
  case d2i =>
    exact q.elim
  case d2l =>
    exact q.elim
  case dadd =>
    exact q.elim
  case daload =>
    exact q.elim
  case dastore =>
    exact q.elim
  case dcmp z1 =>
    exact q.elim
  case dconst z1 =>
    exact q.elim
  case ddiv =>
    exact q.elim
  case dload z1 =>
    exact q.elim
  case dload_n z1 =>
    exact q.elim
  case dmul =>
    exact q.elim
  case dneg =>
    exact q.elim
  case drem =>
    exact q.elim
  case dreturn =>
    exact q.elim
  case dstore z1 =>
    exact q.elim
  case dstore_n z1 =>
    exact q.elim
  case dsub =>
    exact q.elim
  case dup =>
    simp only [ox_step] at q ⊢
    refine ox_w1_m ?_ q
    intro _ _ z
    exact hk _ _ _ _ _ _ oKl.refl z
  case dup_x1 =>
    simp only [ox_step] at q ⊢
    refine ox_w1_m ?_ q
    intro _ _ z
    refine ox_r1_m ?_ z
    intro _ _ z
    exact hk _ _ _ _ _ _ oKl.refl z
  case dup_x2 =>
    exact q.elim
  case dup2 =>
    simp only [ox_step] at q ⊢
    refine ox_ai_m ?_ q
    intro _ _ _ z
    exact hk _ _ _ _ _ _ oKl.refl z
  case dup2_x1 =>
    exact q.elim
  case dup2_x2 =>
    exact q.elim
  case f2d =>
    exact q.elim
  case f2i =>
    exact q.elim
  case f2l =>
    exact q.elim
  case fadd =>
    exact q.elim
  case faload =>
    exact q.elim
  case fastore =>
    exact q.elim
  case fcmp z1 =>
    exact q.elim
  case fconst z1 =>
    exact q.elim
  case fdiv =>
    exact q.elim
  case fload z1 =>
    exact q.elim
  case fload_n z1 =>
    exact q.elim
  case fmul =>
    exact q.elim
  case fneg =>
    exact q.elim
  case frem =>
    exact q.elim
  case freturn =>
    exact q.elim
  case fstore z1 =>
    exact q.elim
  case fstore_n z1 =>
    exact q.elim
  case fsub =>
    exact q.elim
  case getfield z1 =>
    simp only [ox_step] at q ⊢
    refine ox_r1_m ?_ q
    intro _ _ z
    exact ⟨z.1, hk _ _ _ _ _ _ oKl.refl z.2⟩
  case getstatic z1 =>
    exact hk _ _ _ _ _ _ oKl.refl q
  case goto z1 =>
    simp only [ox_step] at q ⊢
    refine ox_go_m ?_ q
    intro _ z
    exact hk _ _ _ _ _ _ oKl.refl z
  case goto_w z1 =>
    exact q.elim
  case i2b =>
    exact q.elim
  case i2c =>
    simp only [ox_step] at q ⊢
    refine ox_b1_m ?_ q
    intro _ _ z
    exact hk _ _ _ _ _ _ oKl.refl z
  case i2d =>
    exact q.elim
  case i2f =>
    exact q.elim
  case i2l =>
    simp only [ox_step] at q ⊢
    refine ox_b1_m ?_ q
    intro _ _ z
    exact hk _ _ _ _ _ _ oKl.refl z
  case i2s =>
    exact q.elim
  case iadd =>
    simp only [ox_step] at q ⊢
    refine ox_b2_m ?_ q
    intro _ _ _ z
    exact hk _ _ _ _ _ _ oKl.refl z
  case iaload =>
    simp only [ox_step] at q ⊢
    refine ox_ai_m ?_ q
    intro _ _ _ z
    exact ⟨z.1, z.2.1, hk _ _ _ _ _ _ oKl.refl z.2.2⟩
  case iand =>
    simp only [ox_step] at q ⊢
    refine ox_b2_m ?_ q
    intro _ _ _ z
    exact hk _ _ _ _ _ _ oKl.refl z
  case iastore =>
    simp only [ox_step] at q ⊢
    refine ox_aii_m ?_ q
    intro _ _ _ _ z
    exact ⟨z.1, z.2.1, hk _ _ _ _ _ _ oKl_wI z.2.2⟩
  case iconst z1 =>
    exact hk _ _ _ _ _ _ oKl.refl q
  case idiv =>
    simp only [ox_step] at q ⊢
    refine ox_b2_m ?_ q
    intro _ _ _ z
    exact ⟨z.1, hk _ _ _ _ _ _ oKl.refl z.2⟩
  case if_acmp z1 z2 =>
    simp only [ox_step] at q ⊢
    refine ox_r2_m ?_ q
    intro _ _ _ z
    refine ox_go_m ?_ z
    intro _ z
    exact ⟨fun e => hk _ _ _ _ _ _ oKl.refl (z.1 e), fun e => hk _ _ _ _ _ _ oKl.refl (z.2 e)⟩
  case if_icmp z1 z2 =>
    simp only [ox_step] at q ⊢
    refine ox_b2_m ?_ q
    intro _ _ _ z
    refine ox_go_m ?_ z
    intro _ z
    exact ⟨fun e => hk _ _ _ _ _ _ oKl.refl (z.1 e), fun e => hk _ _ _ _ _ _ oKl.refl (z.2 e)⟩
  case ifCond z1 z2 =>
    simp only [ox_step] at q ⊢
    refine ox_b1_m ?_ q
    intro _ _ z
    refine ox_go_m ?_ z
    intro _ z
    exact ⟨fun e => hk _ _ _ _ _ _ oKl.refl (z.1 e), fun e => hk _ _ _ _ _ _ oKl.refl (z.2 e)⟩
  case ifnonnull z1 =>
    simp only [ox_step] at q ⊢
    refine ox_r1_m ?_ q
    intro _ _ z
    refine ox_go_m ?_ z
    intro _ z
    exact ⟨fun e => hk _ _ _ _ _ _ oKl.refl (z.1 e), fun e => hk _ _ _ _ _ _ oKl.refl (z.2 e)⟩
  case ifnull z1 =>
    simp only [ox_step] at q ⊢
    refine ox_r1_m ?_ q
    intro _ _ z
    refine ox_go_m ?_ z
    intro _ z
    exact ⟨fun e => hk _ _ _ _ _ _ oKl.refl (z.1 e), fun e => hk _ _ _ _ _ _ oKl.refl (z.2 e)⟩
  case iinc z1 z2 =>
    simp only [ox_step] at q ⊢
    split at q
    · exact hk _ _ _ _ _ _ oKl.refl q
    · exact q.elim
  case iload z1 =>
    simp only [ox_step] at q ⊢
    refine ox_ldi_m ?_ q
    intro _ z
    exact hk _ _ _ _ _ _ oKl.refl z
  case iload_n z1 =>
    simp only [ox_step] at q ⊢
    refine ox_ldi_m ?_ q
    intro _ z
    exact hk _ _ _ _ _ _ oKl.refl z
  case imul =>
    simp only [ox_step] at q ⊢
    refine ox_b2_m ?_ q
    intro _ _ _ z
    exact hk _ _ _ _ _ _ oKl.refl z
  case ineg =>
    simp only [ox_step] at q ⊢
    refine ox_b1_m ?_ q
    intro _ _ z
    exact hk _ _ _ _ _ _ oKl.refl z
  case instanceof z1 =>
    simp only [ox_step] at q ⊢
    refine ox_r1_m ?_ q
    intro _ _ z
    exact ⟨z.1, hk _ _ _ _ _ _ oKl.refl z.2⟩
  case invokedynamic z1 =>
    exact q.elim
  case invokeinterface z1 z2 =>
    exact q.elim
  case invokespecial z1 =>
    simp only [ox_step] at q ⊢
    refine ox_inv_k hE ?_ q
    intro _ _ _ _ w z
    exact hk _ _ _ _ _ _ w z
  case invokestatic z1 =>
    simp only [ox_step] at q ⊢
    refine ox_inv_k hE ?_ q
    intro _ _ _ _ w z
    exact hk _ _ _ _ _ _ w z
  case invokevirtual z1 =>
    simp only [ox_step] at q ⊢
    refine ox_inv_k hE ?_ q
    intro _ _ _ _ w z
    exact hk _ _ _ _ _ _ w z
  case ior =>
    simp only [ox_step] at q ⊢
    refine ox_b2_m ?_ q
    intro _ _ _ z
    exact hk _ _ _ _ _ _ oKl.refl z
  case irem =>
    simp only [ox_step] at q ⊢
    refine ox_b2_m ?_ q
    intro _ _ _ z
    exact ⟨z.1, hk _ _ _ _ _ _ oKl.refl z.2⟩
  case ireturn =>
    simp only [ox_step] at q ⊢
    split at q
    · exact ⟨q.1, hr _ _ oKl.refl q.2⟩
    · exact q.elim
  case ishl =>
    simp only [ox_step] at q ⊢
    refine ox_b2_m ?_ q
    intro _ _ _ z
    exact hk _ _ _ _ _ _ oKl.refl z
  case ishr =>
    simp only [ox_step] at q ⊢
    refine ox_b2_m ?_ q
    intro _ _ _ z
    exact hk _ _ _ _ _ _ oKl.refl z
  case istore z1 =>
    simp only [ox_step] at q ⊢
    refine ox_sti_m ?_ q
    intro _ _ z
    exact hk _ _ _ _ _ _ oKl.refl z
  case istore_n z1 =>
    simp only [ox_step] at q ⊢
    refine ox_sti_m ?_ q
    intro _ _ z
    exact hk _ _ _ _ _ _ oKl.refl z
  case isub =>
    simp only [ox_step] at q ⊢
    refine ox_b2_m ?_ q
    intro _ _ _ z
    exact hk _ _ _ _ _ _ oKl.refl z
  case iushr =>
    simp only [ox_step] at q ⊢
    refine ox_b2_m ?_ q
    intro _ _ _ z
    exact hk _ _ _ _ _ _ oKl.refl z
  case ixor =>
    exact q.elim
  case jsr z1 =>
    exact q.elim
  case jsr_w z1 =>
    exact q.elim
  case l2d =>
    exact q.elim
  case l2f =>
    exact q.elim
  case l2i =>
    simp only [ox_step] at q ⊢
    refine ox_l1_m ?_ q
    intro _ _ z
    exact hk _ _ _ _ _ _ oKl.refl z
  case ladd =>
    simp only [ox_step] at q ⊢
    refine ox_l2_m ?_ q
    intro _ _ _ z
    exact hk _ _ _ _ _ _ oKl.refl z
  case laload =>
    simp only [ox_step] at q ⊢
    refine ox_ai_m ?_ q
    intro _ _ _ z
    exact ⟨z.1, z.2.1, hk _ _ _ _ _ _ oKl.refl z.2.2⟩
  case land =>
    simp only [ox_step] at q ⊢
    refine ox_l2_m ?_ q
    intro _ _ _ z
    exact hk _ _ _ _ _ _ oKl.refl z
  case lastore =>
    simp only [ox_step] at q ⊢
    refine ox_ail_m ?_ q
    intro _ _ _ _ z
    exact ⟨z.1, z.2.1, hk _ _ _ _ _ _ oKl_wJ z.2.2⟩
  case lcmp =>
    simp only [ox_step] at q ⊢
    refine ox_l2_m ?_ q
    intro _ _ _ z
    exact hk _ _ _ _ _ _ oKl.refl z
  case lconst z1 =>
    exact hk _ _ _ _ _ _ oKl.refl q
  case ldc z1 =>
    exact hk _ _ _ _ _ _ oKl.refl q
  case ldc_w z1 =>
    exact hk _ _ _ _ _ _ oKl.refl q
  case ldc2_w z1 =>
    exact hk _ _ _ _ _ _ oKl.refl q
  case ldiv =>
    simp only [ox_step] at q ⊢
    refine ox_l2_m ?_ q
    intro _ _ _ z
    exact ⟨z.1, hk _ _ _ _ _ _ oKl.refl z.2⟩
  case lload z1 =>
    simp only [ox_step] at q ⊢
    refine ox_ldl_m ?_ q
    intro _ z
    exact hk _ _ _ _ _ _ oKl.refl z
  case lload_n z1 =>
    simp only [ox_step] at q ⊢
    refine ox_ldl_m ?_ q
    intro _ z
    exact hk _ _ _ _ _ _ oKl.refl z
  case lmul =>
    simp only [ox_step] at q ⊢
    refine ox_l2_m ?_ q
    intro _ _ _ z
    exact hk _ _ _ _ _ _ oKl.refl z
  case lneg =>
    simp only [ox_step] at q ⊢
    refine ox_l1_m ?_ q
    intro _ _ z
    exact hk _ _ _ _ _ _ oKl.refl z
  case lookupswitch z1 z2 =>
    simp only [ox_step] at q ⊢
    refine ox_b1_m ?_ q
    intro _ _ z
    refine ox_lks_m ?_ _ z
    intro _ z
    exact hk _ _ _ _ _ _ oKl.refl z
  case lor =>
    simp only [ox_step] at q ⊢
    refine ox_l2_m ?_ q
    intro _ _ _ z
    exact hk _ _ _ _ _ _ oKl.refl z
  case lrem =>
    simp only [ox_step] at q ⊢
    refine ox_l2_m ?_ q
    intro _ _ _ z
    exact ⟨z.1, hk _ _ _ _ _ _ oKl.refl z.2⟩
  case lreturn =>
    simp only [ox_step] at q ⊢
    split at q
    · exact ⟨q.1, hr _ _ oKl.refl q.2⟩
    · exact q.elim
  case lshl =>
    simp only [ox_step] at q ⊢
    refine ox_li_m ?_ q
    intro _ _ _ z
    exact hk _ _ _ _ _ _ oKl.refl z
  case lshr =>
    simp only [ox_step] at q ⊢
    refine ox_li_m ?_ q
    intro _ _ _ z
    exact hk _ _ _ _ _ _ oKl.refl z
  case lstore z1 =>
    simp only [ox_step] at q ⊢
    refine ox_stl_m ?_ q
    intro _ _ z
    exact hk _ _ _ _ _ _ oKl.refl z
  case lstore_n z1 =>
    simp only [ox_step] at q ⊢
    refine ox_stl_m ?_ q
    intro _ _ z
    exact hk _ _ _ _ _ _ oKl.refl z
  case lsub =>
    simp only [ox_step] at q ⊢
    refine ox_l2_m ?_ q
    intro _ _ _ z
    exact hk _ _ _ _ _ _ oKl.refl z
  case lushr =>
    simp only [ox_step] at q ⊢
    refine ox_li_m ?_ q
    intro _ _ _ z
    exact hk _ _ _ _ _ _ oKl.refl z
  case lxor =>
    exact q.elim
  case monitorenter =>
    exact q.elim
  case monitorexit =>
    exact q.elim
  case multianewarray z1 z2 =>
    exact q.elim
  case new z1 =>
    exact ⟨q.1, q.2.1, hk _ _ _ _ _ _ oKl_newO q.2.2⟩
  case newarray z1 =>
    simp only [ox_step] at q ⊢
    refine ox_b1_m ?_ q
    intro _ _ z
    exact ⟨z.1, z.2.1, z.2.2.1, z.2.2.2.1, hk _ _ _ _ _ _ oKl_newA z.2.2.2.2⟩
  case nop =>
    exact q.elim
  case pop =>
    simp only [ox_step] at q ⊢
    refine ox_w1_m ?_ q
    intro _ _ z
    exact hk _ _ _ _ _ _ oKl.refl z
  case pop2 =>
    exact q.elim
  case putfield z1 =>
    simp only [ox_step] at q ⊢
    split at q
    · exact ⟨q.1, ox_pf_k (fun _ w z => hk _ _ _ _ _ _ w z) q.2⟩
    · exact q.elim
  case putstatic z1 =>
    exact q.elim
  case ret z1 =>
    exact q.elim
  case return_ =>
    simp only [ox_step] at q ⊢
    split at q
    · exact ⟨q.1, hr _ _ oKl.refl q.2⟩
    · exact q.elim
  case saload =>
    exact q.elim
  case sastore =>
    exact q.elim
  case sipush z1 =>
    exact hk _ _ _ _ _ _ oKl.refl q
  case swap =>
    exact q.elim
  case tableswitch z1 z2 z3 z4 =>
    simp only [ox_step] at q ⊢
    refine ox_b1_m ?_ q
    intro _ _ z
    refine ox_ts_m ?_ _ _ z
    intro _ z
    exact hk _ _ _ _ _ _ oKl.refl z
theorem ox_seg_k {E E' : ox_E} (hE : ox_kp E E') {rt : Option FieldType} {code : List ox_I} {cut : List (Nat × List Nat)} {k k' : ox_K} {r r' : ox_Q} {S0 : ox_St} (hk : ∀ pc L st S mr sr, oKl S0 S → k pc L st S mr sr → k' pc L st S mr sr) (hr : ∀ v S, oKl S0 S → r v S → r' v S) : ∀ (n pc : Nat) (L : ox_L) (st : List ox_V) (S : ox_St) (mr sr : Nat), oKl S0 S → ox_seg E rt code cut k r n pc L st S mr sr → ox_seg E' rt code cut k' r' n pc L st S mr sr := by
  intro n
  induction n with
  | zero => intro pc L st S mr sr _ q; exact q.elim
  | succ n ih =>
    intro pc L st S mr sr h0 q
    unfold ox_seg at q ⊢
    split at q
    · refine ox_step_k hE (fun pc' L' st' S' mr' sr' w z => ?_) (fun v S' w z => hr v S' (h0.trans w) z) _ q
      unfold ox_at_cut at z ⊢
      split at z
      · exact hk _ _ _ _ _ _ (h0.trans w) z
      · exact ih _ _ _ _ _ _ (h0.trans w) z
    · exact q.elim
theorem ox_C_k {E E' : ox_E} (hE : ox_kp E E') (hm : ox_mono E') {rt : Option FieldType} {code : List ox_I} {cut : List (Nat × List Nat)} {r r' : ox_Q} {S0 : ox_St} (hr : ∀ v S, oKl S0 S → r v S → r' v S) {pc : Nat} {L : ox_L} {st : List ox_V} {S : ox_St} {mr sr : Nat} (h : ox_C E rt code cut r pc L st S mr sr) (h0 : oKl S0 S) : ox_C E' rt code cut r' pc L st S mr sr :=
  h (fun pc L st S mr sr => oKl S0 S → ox_C E' rt code cut r' pc L st S mr sr) (fun _ _ _ _ _ _ z w => ox_C_fold hm (ox_seg_k hE (fun _ _ _ _ _ _ w z => z w) hr _ _ _ _ _ _ _ w z)) h0
theorem ox_M_kp {sp sp' : ox_E} (hsp : ox_kp sp sp') (hm : ox_mono sp') : ∀ d, ox_kp (ox_M sp d) (ox_M sp' d)
  | 0 => fun _ _ _ _ _ _ _ _ h => h.elim
  | d + 1 => fun j as mc ms S Q Q' hQ h => h.elim (fun z => Or.inl ⟨z.1, hsp _ _ _ _ _ _ _ hQ z.2⟩) (fun z => Or.inr ⟨z.1, ox_C_k (ox_M_kp hsp hm d) (ox_M_mono hm d) (S0 := S) hQ z.2 oKl.refl⟩)
theorem oCpy_kl {S : ox_St} {a n : Nat} : oKl S (oCpy S a n) := ⟨Nat.le_succ _, fun q hq => ⟨if_neg (Nat.ne_of_lt hq), if_neg (Nat.ne_of_lt hq)⟩⟩
theorem oCpr_kl {S : ox_St} {a n : Nat} : oKl S (oCpr S a n) := ⟨Nat.le_succ _, fun z hz => ⟨if_neg (Nat.ne_of_lt hz), if_neg (Nat.ne_of_lt hz)⟩⟩
theorem lw_sp_kp : ox_kp lw_sp lw_sp := fun j as mc ms S Q Q' hQ h => by
  rcases h with ⟨h1, a, n, h2, h3, h4, h5, h6, h7, h8, h9, h10⟩ | ⟨h1, a, n, h2, h3, h4, h5, h6, h7, h8, h9, h10⟩
  · exact Or.inl ⟨h1, a, n, h2, h3, h4, h5, h6, h7, h8, h9, hQ _ _ oCpy_kl h10⟩
  · exact Or.inr ⟨h1, a, n, h2, h3, h4, h5, h6, h7, h8, h9, hQ _ _ oCpr_kl h10⟩
/-- kinds and lengths stay -/
theorem lw_kept {d j mc ms : Nat} {as : List ox_V} {S : ox_St} {Q : ox_Q} (h : ox_M lw_sp d j as mc ms S (fun v S' => oKl S S' → Q v S')) : ox_M lw_sp d j as mc ms S Q := ox_M_kp lw_sp_kp lw_sp_mono d j as mc ms S _ _ (fun _ _ w z => z w) h
