/-! a whole method: its checked code, its walk as a least condition, and that the walk is the machine's -/
def ox_il : ClassFile.Instr → Nat
  | .iconst _ => 1
  | .iaload => 1
  | .iastore => 1
  | .iadd => 1
  | .isub => 1
  | .imul => 1
  | .idiv => 1
  | .irem => 1
  | .ineg => 1
  | .ishl => 1
  | .ishr => 1
  | .iushr => 1
  | .iand => 1
  | .ior => 1
  | .ladd => 1
  | .lsub => 1
  | .lmul => 1
  | .ldiv => 1
  | .lrem => 1
  | .land => 1
  | .lor => 1
  | .lneg => 1
  | .lcmp => 1
  | .lshl => 1
  | .lshr => 1
  | .lushr => 1
  | .i2l => 1
  | .l2i => 1
  | .i2c => 1
  | .dup => 1
  | .pop => 1
  | .dup_x1 => 1
  | .dup2 => 1
  | .aconst_null => 1
  | .arraylength => 1
  | .laload => 1
  | .baload => 1
  | .aaload => 1
  | .lastore => 1
  | .bastore => 1
  | .aastore => 1
  | .ireturn => 1
  | .lreturn => 1
  | .areturn => 1
  | .return_ => 1
  | .lconst _ => 1
  | .iload_n _ => 1
  | .lload_n _ => 1
  | .aload_n _ => 1
  | .istore_n _ => 1
  | .lstore_n _ => 1
  | .astore_n _ => 1
  | .bipush _ => 2
  | .iload _ => 2
  | .lload _ => 2
  | .aload _ => 2
  | .istore _ => 2
  | .lstore _ => 2
  | .astore _ => 2
  | .ldc _ => 2
  | .newarray _ => 2
  | .sipush _ => 3
  | .ldc_w _ => 3
  | .ldc2_w _ => 3
  | .iinc _ _ => 3
  | .goto _ => 3
  | .ifCond _ _ => 3
  | .if_icmp _ _ => 3
  | .if_acmp _ _ => 3
  | .ifnull _ => 3
  | .ifnonnull _ => 3
  | .getstatic _ => 3
  | .getfield _ => 3
  | .putfield _ => 3
  | .new _ => 3
  | .anewarray _ => 3
  | .instanceof _ => 3
  | .checkcast _ => 3
  | .invokestatic _ => 3
  | .invokevirtual _ => 3
  | .invokespecial _ => 3
  | _ => 0
def ox_isw : ClassFile.Instr → Bool
  | .tableswitch .. => true
  | .lookupswitch .. => true
  | _ => false
/-- what is checked of an instruction beside its decoding -/
def ox_vE (own : String) (ini : Bool) (nL : Nat) (i : ClassFile.Instr) (ps : List Nat) : Bool := match i with
  | .getfield idx => ox_vF own idx ps
  | .getstatic idx => ox_vS own idx ps
  | .putfield idx => ox_vF own idx ps && ox_vP own ini ps
  | .new idx => ox_vN own idx ps
  | .newarray t => ox_vA t ps
  | .anewarray idx => ox_vQ own idx ps
  | .instanceof idx => ox_vI own idx ps
  | .checkcast idx => ox_vI own idx ps
  | .ldc idx => ox_vC own idx ps
  | .ldc_w idx => ox_vC own idx ps
  | .ldc2_w idx => ox_vD own idx ps
  | .invokestatic _ => ox_vJ own i ps
  | .invokevirtual _ => ox_vJ own i ps
  | .invokespecial _ => ox_vJ own i ps
  | .istore j => decide (j < nL)
  | .istore_n j => decide (j.val < nL)
  | .astore j => decide (j < nL)
  | .astore_n j => decide (j.val < nL)
  | .lstore j => decide (j + 1 < nL)
  | .lstore_n j => decide (j.val + 1 < nL)
  | .iinc j _ => decide (j < nL)
  | .tableswitch _ lo hi offs => decide (hi + 1 = lo + offs.toList.length)
  | .lookupswitch _ qs => (qs.toList.zip (qs.toList.drop 1)).all (fun (a, next) => a.1 < next.1)
  | _ => true
def ox_vL (own : String) (ini : Bool) (nL : Nat) (cc : ByteArray) (q : ox_I) : Bool := decide (decode cc q.1 = .ok (q.2.1, q.2.2.1)) && (ox_isw q.2.1 || ox_il q.2.1 == q.2.2.1) && ox_vE own ini nL q.2.1 q.2.2.2
section OXK
variable {p : Program} {l : Launch} {e : Env} {R : Room} {s : State} {m : MethodId} {args : Array Value} {below : List Frame} {meth : Method} {c : Code} {D : va_G} {y : Nat → ClassId} {b nL : Nat} {ro : ox_St} {cc : ByteArray}
variable {pc mr sr : Nat} {L : ox_L} {st : List ox_V} {S : ox_St} {k : ox_K} {own : String} {ps : List Nat} {d : Nat} {E : ox_E} {r : ox_Q} {rt : Option FieldType}
theorem ox_step_ok (hx : p.tables.exec = Jvm.exec) (hb : c.code = cc) (hml : c.maxLocals = nL) (hr : meth.sig.returnType = rt) (hlocks : meth.locks = false) (hown : s.vm.findClass own = some m.cls) (hts : ∀ w ∈ ox_T0, w.before args s = true) (hK : ox_KX D y b ro s) (hR : ox_Rd R d) (hE : ∀ j as mc ms S Q, E j as mc ms S Q → ox_Met l D y b ro d j as mc ms S Q) {ini : Bool} (hini : ini = true → meth.name = "<init>")
    (K : ∀ pc L st S mr sr, k pc L st S mr sr → ox_X p l e R s m args below meth c (MQ below (ox_Qc D y b ro r) args s R.cells R.slots (fun q => b ≤ q)) D y b ro nL pc L st S mr sr)
    {i : ClassFile.Instr} {len : Nat} (hv : ox_vE own ini nL i ps = true) (hlen : ox_isw i = true ∨ ox_il i = len) (hd : decode cc pc = .ok (i, len)) (h : ox_step E rt i ps pc L st S mr sr k r) : ox_X p l e R s m args below meth c (MQ below (ox_Qc D y b ro r) args s R.cells R.slots (fun q => b ≤ q)) D y b ro nL pc L st S mr sr := by
  have ret : ∀ {H : Heap} {locs : List Loc}, ox_W D y b ro S H → va_S (fun q => b ≤ q) s.heap H locs → ∀ (v : Option ox_V), r v S → ∀ t : State, t.heap = H → s.WarmedH t.vm → ox_Qc D y b ro r args s (.returned (v.map ox_val)) t := fun hW hS v hv t ht hWm => ⟨⟨v, S, rfl, hv, by rw [ht]; exact hW⟩, hS.F ht⟩
  cases i
  case aaload =>
    obtain rfl : 1 = len := by first | exact hlen.resolve_left (by decide) | (rcases hlen with q | q; exact absurd q (by simp [ox_isw]); exact q)
    exact ox_o_aaload hx hb K hK hd h
  case aastore =>
    obtain rfl : 1 = len := by first | exact hlen.resolve_left (by decide) | (rcases hlen with q | q; exact absurd q (by simp [ox_isw]); exact q)
    exact ox_o_aastore hx hb K hK hd h
  case aconst_null =>
    obtain rfl : 1 = len := by first | exact hlen.resolve_left (by decide) | (rcases hlen with q | q; exact absurd q (by simp [ox_isw]); exact q)
    exact ox_o_null hx hb K hd h
  case aload z1 =>
    obtain rfl : 2 = len := by first | exact hlen.resolve_left (by decide) | (rcases hlen with q | q; exact absurd q (by simp [ox_isw]); exact q)
    exact ox_o_aload hx hb K hd h
  case aload_n z1 =>
    obtain rfl : 1 = len := by first | exact hlen.resolve_left (by decide) | (rcases hlen with q | q; exact absurd q (by simp [ox_isw]); exact q)
    exact ox_o_aload_n hx hb K hd h
  case anewarray z1 =>
    obtain rfl : 3 = len := by first | exact hlen.resolve_left (by decide) | (rcases hlen with q | q; exact absurd q (by simp [ox_isw]); exact q)
    exact ox_o_anewarray hx hb K hown hts hK hv hd h
  case areturn =>
    obtain rfl : 1 = len := by first | exact hlen.resolve_left (by decide) | (rcases hlen with q | q; exact absurd q (by simp [ox_isw]); exact q)
    intro H locs cells slots ls hW hS hl h1 h2
    simp only [ox_step] at h
    split at h
    · rename_i x
      obtain ⟨hn, h⟩ := h
      refine W.widen (k := R.cells) (n := R.slots) (by omega) (by omega) ?_
      have hx2 : ox_val (.inr (.inr x)) = .null ∨ ∃ a, ox_val (.inr (.inr x)) = .ref a := by
        by_cases hz : x = 0
        · subst hz; exact Or.inl rfl
        · exact Or.inr ⟨x - 1, ox_rfs hz⟩
      unfold ox_isR at hn
      split at hn
      · exact W.aret hx hb hr (Or.inl ⟨_, rfl⟩) hx2 (ret hW hS (some (.inr (.inr x))) h) hS.2.2 hd hlocks
      · exact W.aret hx hb hr (Or.inr ⟨_, rfl⟩) hx2 (ret hW hS (some (.inr (.inr x))) h) hS.2.2 hd hlocks
      · cases hn
    · exact h.elim
  case arraylength =>
    obtain rfl : 1 = len := by first | exact hlen.resolve_left (by decide) | (rcases hlen with q | q; exact absurd q (by simp [ox_isw]); exact q)
    exact ox_o_arraylength hx hb K hK hd h
  case astore z1 =>
    obtain rfl : 2 = len := by first | exact hlen.resolve_left (by decide) | (rcases hlen with q | q; exact absurd q (by simp [ox_isw]); exact q)
    exact ox_o_astore hx hb K (of_decide_eq_true hv) hd h
  case astore_n z1 =>
    obtain rfl : 1 = len := by first | exact hlen.resolve_left (by decide) | (rcases hlen with q | q; exact absurd q (by simp [ox_isw]); exact q)
    exact ox_o_astore_n hx hb K (of_decide_eq_true hv) hd h
  case athrow =>
    exact h.elim
  case baload =>
    obtain rfl : 1 = len := by first | exact hlen.resolve_left (by decide) | (rcases hlen with q | q; exact absurd q (by simp [ox_isw]); exact q)
    exact ox_o_baload hx hb K hK hd h
  case bastore =>
    obtain rfl : 1 = len := by first | exact hlen.resolve_left (by decide) | (rcases hlen with q | q; exact absurd q (by simp [ox_isw]); exact q)
    exact ox_o_bastore hx hb K hK hd h
  case bipush z1 =>
    obtain rfl : 2 = len := by first | exact hlen.resolve_left (by decide) | (rcases hlen with q | q; exact absurd q (by simp [ox_isw]); exact q)
    exact ox_o_bipush hx hb K hd h
  case caload =>
    exact h.elim
  case castore =>
    exact h.elim
  case checkcast z1 =>
    obtain rfl : 3 = len := by first | exact hlen.resolve_left (by decide) | (rcases hlen with q | q; exact absurd q (by simp [ox_isw]); exact q)
    exact ox_o_checkcast hx hb K hown hts hK hv hd h
  case d2f =>
    exact h.elim
  case d2i =>
    exact h.elim
  case d2l =>
    exact h.elim
  case dadd =>
    exact h.elim
  case daload =>
    exact h.elim
  case dastore =>
    exact h.elim
  case dcmp z1 =>
    exact h.elim
  case dconst z1 =>
    exact h.elim
  case ddiv =>
    exact h.elim
  case dload z1 =>
    exact h.elim
  case dload_n z1 =>
    exact h.elim
  case dmul =>
    exact h.elim
  case dneg =>
    exact h.elim
  case drem =>
    exact h.elim
  case dreturn =>
    exact h.elim
  case dstore z1 =>
    exact h.elim
  case dstore_n z1 =>
    exact h.elim
  case dsub =>
    exact h.elim
  case dup =>
    obtain rfl : 1 = len := by first | exact hlen.resolve_left (by decide) | (rcases hlen with q | q; exact absurd q (by simp [ox_isw]); exact q)
    exact ox_o_dup hx hb K hd h
  case dup_x1 =>
    obtain rfl : 1 = len := by first | exact hlen.resolve_left (by decide) | (rcases hlen with q | q; exact absurd q (by simp [ox_isw]); exact q)
    exact ox_o_dup_x1 hx hb K hd h
  case dup_x2 =>
    exact h.elim
  case dup2 =>
    obtain rfl : 1 = len := by first | exact hlen.resolve_left (by decide) | (rcases hlen with q | q; exact absurd q (by simp [ox_isw]); exact q)
    exact ox_o_dup2 hx hb K hd h
  case dup2_x1 =>
    exact h.elim
  case dup2_x2 =>
    exact h.elim
  case f2d =>
    exact h.elim
  case f2i =>
    exact h.elim
  case f2l =>
    exact h.elim
  case fadd =>
    exact h.elim
  case faload =>
    exact h.elim
  case fastore =>
    exact h.elim
  case fcmp z1 =>
    exact h.elim
  case fconst z1 =>
    exact h.elim
  case fdiv =>
    exact h.elim
  case fload z1 =>
    exact h.elim
  case fload_n z1 =>
    exact h.elim
  case fmul =>
    exact h.elim
  case fneg =>
    exact h.elim
  case frem =>
    exact h.elim
  case freturn =>
    exact h.elim
  case fstore z1 =>
    exact h.elim
  case fstore_n z1 =>
    exact h.elim
  case fsub =>
    exact h.elim
  case getfield z1 =>
    obtain rfl : 3 = len := by first | exact hlen.resolve_left (by decide) | (rcases hlen with q | q; exact absurd q (by simp [ox_isw]); exact q)
    exact ox_o_getfield hx hb K hown hts hK hv hd h
  case getstatic z1 =>
    obtain rfl : 3 = len := by first | exact hlen.resolve_left (by decide) | (rcases hlen with q | q; exact absurd q (by simp [ox_isw]); exact q)
    exact ox_o_getstatic hx hb K hown hts hK hv hd h
  case goto z1 =>
    obtain rfl : 3 = len := by first | exact hlen.resolve_left (by decide) | (rcases hlen with q | q; exact absurd q (by simp [ox_isw]); exact q)
    exact ox_o_goto hx hb K hd h
  case goto_w z1 =>
    exact h.elim
  case i2b =>
    exact h.elim
  case i2c =>
    obtain rfl : 1 = len := by first | exact hlen.resolve_left (by decide) | (rcases hlen with q | q; exact absurd q (by simp [ox_isw]); exact q)
    exact ox_o_i2c hx hb K hd h
  case i2d =>
    exact h.elim
  case i2f =>
    exact h.elim
  case i2l =>
    obtain rfl : 1 = len := by first | exact hlen.resolve_left (by decide) | (rcases hlen with q | q; exact absurd q (by simp [ox_isw]); exact q)
    exact ox_o_i2l hx hb K hd h
  case i2s =>
    exact h.elim
  case iadd =>
    obtain rfl : 1 = len := by first | exact hlen.resolve_left (by decide) | (rcases hlen with q | q; exact absurd q (by simp [ox_isw]); exact q)
    exact ox_o_iadd hx hb K hd h
  case iaload =>
    obtain rfl : 1 = len := by first | exact hlen.resolve_left (by decide) | (rcases hlen with q | q; exact absurd q (by simp [ox_isw]); exact q)
    exact ox_o_iaload hx hb K hK hd h
  case iand =>
    obtain rfl : 1 = len := by first | exact hlen.resolve_left (by decide) | (rcases hlen with q | q; exact absurd q (by simp [ox_isw]); exact q)
    exact ox_o_iand hx hb K hd h
  case iastore =>
    obtain rfl : 1 = len := by first | exact hlen.resolve_left (by decide) | (rcases hlen with q | q; exact absurd q (by simp [ox_isw]); exact q)
    exact ox_o_iastore hx hb K hK hd h
  case iconst z1 =>
    obtain rfl : 1 = len := by first | exact hlen.resolve_left (by decide) | (rcases hlen with q | q; exact absurd q (by simp [ox_isw]); exact q)
    exact ox_o_iconst hx hb K hd h
  case idiv =>
    obtain rfl : 1 = len := by first | exact hlen.resolve_left (by decide) | (rcases hlen with q | q; exact absurd q (by simp [ox_isw]); exact q)
    exact ox_o_idiv hx hb K hd h
  case if_acmp z1 z2 =>
    obtain rfl : 3 = len := by first | exact hlen.resolve_left (by decide) | (rcases hlen with q | q; exact absurd q (by simp [ox_isw]); exact q)
    exact ox_o_if_acmp hx hb K hd h
  case if_icmp z1 z2 =>
    obtain rfl : 3 = len := by first | exact hlen.resolve_left (by decide) | (rcases hlen with q | q; exact absurd q (by simp [ox_isw]); exact q)
    exact ox_o_if_icmp hx hb K hd h
  case ifCond z1 z2 =>
    obtain rfl : 3 = len := by first | exact hlen.resolve_left (by decide) | (rcases hlen with q | q; exact absurd q (by simp [ox_isw]); exact q)
    exact ox_o_ifCond hx hb K hd h
  case ifnonnull z1 =>
    obtain rfl : 3 = len := by first | exact hlen.resolve_left (by decide) | (rcases hlen with q | q; exact absurd q (by simp [ox_isw]); exact q)
    exact ox_o_ifnonnull hx hb K hd h
  case ifnull z1 =>
    obtain rfl : 3 = len := by first | exact hlen.resolve_left (by decide) | (rcases hlen with q | q; exact absurd q (by simp [ox_isw]); exact q)
    exact ox_o_ifnull hx hb K hd h
  case iinc z1 z2 =>
    obtain rfl : 3 = len := by first | exact hlen.resolve_left (by decide) | (rcases hlen with q | q; exact absurd q (by simp [ox_isw]); exact q)
    exact ox_o_iinc hx hb K (of_decide_eq_true hv) hd h
  case iload z1 =>
    obtain rfl : 2 = len := by first | exact hlen.resolve_left (by decide) | (rcases hlen with q | q; exact absurd q (by simp [ox_isw]); exact q)
    exact ox_o_iload hx hb K hd h
  case iload_n z1 =>
    obtain rfl : 1 = len := by first | exact hlen.resolve_left (by decide) | (rcases hlen with q | q; exact absurd q (by simp [ox_isw]); exact q)
    exact ox_o_iload_n hx hb K hd h
  case imul =>
    obtain rfl : 1 = len := by first | exact hlen.resolve_left (by decide) | (rcases hlen with q | q; exact absurd q (by simp [ox_isw]); exact q)
    exact ox_o_imul hx hb K hd h
  case ineg =>
    obtain rfl : 1 = len := by first | exact hlen.resolve_left (by decide) | (rcases hlen with q | q; exact absurd q (by simp [ox_isw]); exact q)
    exact ox_o_ineg hx hb K hd h
  case instanceof z1 =>
    obtain rfl : 3 = len := by first | exact hlen.resolve_left (by decide) | (rcases hlen with q | q; exact absurd q (by simp [ox_isw]); exact q)
    exact ox_o_instanceof hx hb K hown hts hK hv hd h
  case invokedynamic z1 =>
    exact h.elim
  case invokeinterface z1 z2 =>
    exact h.elim
  case invokespecial z1 =>
    obtain rfl : 3 = len := by first | exact hlen.resolve_left (by decide) | (rcases hlen with q | q; exact absurd q (by simp [ox_isw]); exact q)
    exact ox_o_inv (i := .invokespecial z1) hx hb hml K hown hts hK hR hE hv hd h
  case invokestatic z1 =>
    obtain rfl : 3 = len := by first | exact hlen.resolve_left (by decide) | (rcases hlen with q | q; exact absurd q (by simp [ox_isw]); exact q)
    exact ox_o_inv (i := .invokestatic z1) hx hb hml K hown hts hK hR hE hv hd h
  case invokevirtual z1 =>
    obtain rfl : 3 = len := by first | exact hlen.resolve_left (by decide) | (rcases hlen with q | q; exact absurd q (by simp [ox_isw]); exact q)
    exact ox_o_inv (i := .invokevirtual z1) hx hb hml K hown hts hK hR hE hv hd h
  case ior =>
    obtain rfl : 1 = len := by first | exact hlen.resolve_left (by decide) | (rcases hlen with q | q; exact absurd q (by simp [ox_isw]); exact q)
    exact ox_o_ior hx hb K hd h
  case irem =>
    obtain rfl : 1 = len := by first | exact hlen.resolve_left (by decide) | (rcases hlen with q | q; exact absurd q (by simp [ox_isw]); exact q)
    exact ox_o_irem hx hb K hd h
  case ireturn =>
    obtain rfl : 1 = len := by first | exact hlen.resolve_left (by decide) | (rcases hlen with q | q; exact absurd q (by simp [ox_isw]); exact q)
    intro H locs cells slots ls hW hS hl h1 h2
    simp only [ox_step] at h
    split at h
    · rename_i x
      obtain ⟨hn, h⟩ := h
      refine W.widen (k := R.cells) (n := R.slots) (by omega) (by omega) ?_
      unfold ox_nar at hn
      split at hn
      · exact W.zret hx hb hr rfl (ret hW hS (some (.inl x)) h) hS.2.2 hd hlocks
      · exact W.zret hx hb hr (by rcases hn with rfl | rfl <;> rfl) (ret hW hS (some (.inl x)) h) hS.2.2 hd hlocks
      · exact hn.elim
    · exact h.elim
  case ishl =>
    obtain rfl : 1 = len := by first | exact hlen.resolve_left (by decide) | (rcases hlen with q | q; exact absurd q (by simp [ox_isw]); exact q)
    exact ox_o_ishl hx hb K hd h
  case ishr =>
    obtain rfl : 1 = len := by first | exact hlen.resolve_left (by decide) | (rcases hlen with q | q; exact absurd q (by simp [ox_isw]); exact q)
    exact ox_o_ishr hx hb K hd h
  case istore z1 =>
    obtain rfl : 2 = len := by first | exact hlen.resolve_left (by decide) | (rcases hlen with q | q; exact absurd q (by simp [ox_isw]); exact q)
    exact ox_o_istore hx hb K (of_decide_eq_true hv) hd h
  case istore_n z1 =>
    obtain rfl : 1 = len := by first | exact hlen.resolve_left (by decide) | (rcases hlen with q | q; exact absurd q (by simp [ox_isw]); exact q)
    exact ox_o_istore_n hx hb K (of_decide_eq_true hv) hd h
  case isub =>
    obtain rfl : 1 = len := by first | exact hlen.resolve_left (by decide) | (rcases hlen with q | q; exact absurd q (by simp [ox_isw]); exact q)
    exact ox_o_isub hx hb K hd h
  case iushr =>
    obtain rfl : 1 = len := by first | exact hlen.resolve_left (by decide) | (rcases hlen with q | q; exact absurd q (by simp [ox_isw]); exact q)
    exact ox_o_iushr hx hb K hd h
  case ixor =>
    exact h.elim
  case jsr z1 =>
    exact h.elim
  case jsr_w z1 =>
    exact h.elim
  case l2d =>
    exact h.elim
  case l2f =>
    exact h.elim
  case l2i =>
    obtain rfl : 1 = len := by first | exact hlen.resolve_left (by decide) | (rcases hlen with q | q; exact absurd q (by simp [ox_isw]); exact q)
    exact ox_o_l2i hx hb K hd h
  case ladd =>
    obtain rfl : 1 = len := by first | exact hlen.resolve_left (by decide) | (rcases hlen with q | q; exact absurd q (by simp [ox_isw]); exact q)
    exact ox_o_ladd hx hb K hd h
  case laload =>
    obtain rfl : 1 = len := by first | exact hlen.resolve_left (by decide) | (rcases hlen with q | q; exact absurd q (by simp [ox_isw]); exact q)
    exact ox_o_laload hx hb K hK hd h
  case land =>
    obtain rfl : 1 = len := by first | exact hlen.resolve_left (by decide) | (rcases hlen with q | q; exact absurd q (by simp [ox_isw]); exact q)
    exact ox_o_land hx hb K hd h
  case lastore =>
    obtain rfl : 1 = len := by first | exact hlen.resolve_left (by decide) | (rcases hlen with q | q; exact absurd q (by simp [ox_isw]); exact q)
    exact ox_o_lastore hx hb K hK hd h
  case lcmp =>
    obtain rfl : 1 = len := by first | exact hlen.resolve_left (by decide) | (rcases hlen with q | q; exact absurd q (by simp [ox_isw]); exact q)
    exact ox_o_lcmp hx hb K hd h
  case lconst z1 =>
    obtain rfl : 1 = len := by first | exact hlen.resolve_left (by decide) | (rcases hlen with q | q; exact absurd q (by simp [ox_isw]); exact q)
    exact ox_o_lconst hx hb K hd h
  case ldc z1 =>
    obtain rfl : 2 = len := by first | exact hlen.resolve_left (by decide) | (rcases hlen with q | q; exact absurd q (by simp [ox_isw]); exact q)
    exact ox_o_ldc hx hb K hown hts hK hv hd h
  case ldc_w z1 =>
    obtain rfl : 3 = len := by first | exact hlen.resolve_left (by decide) | (rcases hlen with q | q; exact absurd q (by simp [ox_isw]); exact q)
    exact ox_o_ldc_w hx hb K hown hts hK hv hd h
  case ldc2_w z1 =>
    obtain rfl : 3 = len := by first | exact hlen.resolve_left (by decide) | (rcases hlen with q | q; exact absurd q (by simp [ox_isw]); exact q)
    exact ox_o_ldc2 hx hb K hown hts hK hv hd h
  case ldiv =>
    obtain rfl : 1 = len := by first | exact hlen.resolve_left (by decide) | (rcases hlen with q | q; exact absurd q (by simp [ox_isw]); exact q)
    exact ox_o_ldiv hx hb K hd h
  case lload z1 =>
    obtain rfl : 2 = len := by first | exact hlen.resolve_left (by decide) | (rcases hlen with q | q; exact absurd q (by simp [ox_isw]); exact q)
    exact ox_o_lload hx hb K hd h
  case lload_n z1 =>
    obtain rfl : 1 = len := by first | exact hlen.resolve_left (by decide) | (rcases hlen with q | q; exact absurd q (by simp [ox_isw]); exact q)
    exact ox_o_lload_n hx hb K hd h
  case lmul =>
    obtain rfl : 1 = len := by first | exact hlen.resolve_left (by decide) | (rcases hlen with q | q; exact absurd q (by simp [ox_isw]); exact q)
    exact ox_o_lmul hx hb K hd h
  case lneg =>
    obtain rfl : 1 = len := by first | exact hlen.resolve_left (by decide) | (rcases hlen with q | q; exact absurd q (by simp [ox_isw]); exact q)
    exact ox_o_lneg hx hb K hd h
  case lookupswitch z1 z2 =>
    exact ox_o_lookupswitch hx hb K hv hd h
  case lor =>
    obtain rfl : 1 = len := by first | exact hlen.resolve_left (by decide) | (rcases hlen with q | q; exact absurd q (by simp [ox_isw]); exact q)
    exact ox_o_lor hx hb K hd h
  case lrem =>
    obtain rfl : 1 = len := by first | exact hlen.resolve_left (by decide) | (rcases hlen with q | q; exact absurd q (by simp [ox_isw]); exact q)
    exact ox_o_lrem hx hb K hd h
  case lreturn =>
    obtain rfl : 1 = len := by first | exact hlen.resolve_left (by decide) | (rcases hlen with q | q; exact absurd q (by simp [ox_isw]); exact q)
    intro H locs cells slots ls hW hS hl h1 h2
    simp only [ox_step] at h
    split at h
    · rename_i x
      obtain ⟨hn, h⟩ := h
      refine W.widen (k := R.cells) (n := R.slots) (by omega) (by omega) ?_
      unfold ox_isL at hn
      split at hn
      · exact W.lret hx hb hr (ret hW hS (some (.inr (.inl x))) h) hS.2.2 hd hlocks
      · cases hn
    · exact h.elim
  case lshl =>
    obtain rfl : 1 = len := by first | exact hlen.resolve_left (by decide) | (rcases hlen with q | q; exact absurd q (by simp [ox_isw]); exact q)
    exact ox_o_lshl hx hb K hd h
  case lshr =>
    obtain rfl : 1 = len := by first | exact hlen.resolve_left (by decide) | (rcases hlen with q | q; exact absurd q (by simp [ox_isw]); exact q)
    exact ox_o_lshr hx hb K hd h
  case lstore z1 =>
    obtain rfl : 2 = len := by first | exact hlen.resolve_left (by decide) | (rcases hlen with q | q; exact absurd q (by simp [ox_isw]); exact q)
    exact ox_o_lstore hx hb K (of_decide_eq_true hv) hd h
  case lstore_n z1 =>
    obtain rfl : 1 = len := by first | exact hlen.resolve_left (by decide) | (rcases hlen with q | q; exact absurd q (by simp [ox_isw]); exact q)
    exact ox_o_lstore_n hx hb K (of_decide_eq_true hv) hd h
  case lsub =>
    obtain rfl : 1 = len := by first | exact hlen.resolve_left (by decide) | (rcases hlen with q | q; exact absurd q (by simp [ox_isw]); exact q)
    exact ox_o_lsub hx hb K hd h
  case lushr =>
    obtain rfl : 1 = len := by first | exact hlen.resolve_left (by decide) | (rcases hlen with q | q; exact absurd q (by simp [ox_isw]); exact q)
    exact ox_o_lushr hx hb K hd h
  case lxor =>
    exact h.elim
  case monitorenter =>
    exact h.elim
  case monitorexit =>
    exact h.elim
  case multianewarray z1 z2 =>
    exact h.elim
  case new z1 =>
    obtain rfl : 3 = len := by first | exact hlen.resolve_left (by decide) | (rcases hlen with q | q; exact absurd q (by simp [ox_isw]); exact q)
    exact ox_o_new hx hb K hown hts hK hv hd h
  case newarray z1 =>
    obtain rfl : 2 = len := by first | exact hlen.resolve_left (by decide) | (rcases hlen with q | q; exact absurd q (by simp [ox_isw]); exact q)
    exact ox_o_newarray hx hb K hts hK hv hd h
  case nop =>
    exact h.elim
  case pop =>
    obtain rfl : 1 = len := by first | exact hlen.resolve_left (by decide) | (rcases hlen with q | q; exact absurd q (by simp [ox_isw]); exact q)
    exact ox_o_pop hx hb K hd h
  case pop2 =>
    exact h.elim
  case putfield z1 =>
    obtain rfl : 3 = len := by first | exact hlen.resolve_left (by decide) | (rcases hlen with q | q; exact absurd q (by simp [ox_isw]); exact q)
    have hv2 : ox_vF own z1 ps = true ∧ ox_vP own ini ps = true := by simpa [ox_vE] using hv
    exact ox_o_putfield hx hb K hown hts hK hini hv2.1 hv2.2 hd h
  case putstatic z1 =>
    exact h.elim
  case ret z1 =>
    exact h.elim
  case return_ =>
    obtain rfl : 1 = len := by first | exact hlen.resolve_left (by decide) | (rcases hlen with q | q; exact absurd q (by simp [ox_isw]); exact q)
    intro H locs cells slots ls hW hS hl h1 h2
    simp only [ox_step] at h
    split at h
    · obtain ⟨hn, h⟩ := h
      refine W.widen (k := R.cells) (n := R.slots) (by omega) (by omega) ?_
      exact W.vret hx hb (hr.trans hn) (ret hW hS none h) hS.2.2 hd hlocks
    · exact h.elim
  case saload =>
    exact h.elim
  case sastore =>
    exact h.elim
  case sipush z1 =>
    obtain rfl : 3 = len := by first | exact hlen.resolve_left (by decide) | (rcases hlen with q | q; exact absurd q (by simp [ox_isw]); exact q)
    exact ox_o_sipush hx hb K hd h
  case swap =>
    exact h.elim
  case tableswitch z1 z2 z3 z4 =>
    exact ox_o_tableswitch hx hb K (of_decide_eq_true hv) hd h
end OXK
