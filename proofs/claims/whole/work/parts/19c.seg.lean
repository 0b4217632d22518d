/-! one instruction, for any end: returns are left out (printed by gen/g19.py out of 14) -/
def oz_nr : ClassFile.Instr → Bool
  | .areturn => false
  | .ireturn => false
  | .lreturn => false
  | .return_ => false
  | _ => true
section OZK
variable {p : Program} {l : Launch} {e : Env} {R : Room} {s : State} {m : MethodId} {args : Array Value} {below : List Frame} {meth : Method} {c : Code} {D : va_G} {y : Nat → ClassId} {b nL : Nat} {ro : ox_St} {cc : ByteArray}
variable {pc mr sr : Nat} {L : ox_L} {st : List ox_V} {S : ox_St} {k : ox_K} {own : String} {ps : List Nat} {d : Nat} {E : ox_E} {rt : Option FieldType} {Q : State → Prop}
theorem oz_step_ok (hx : p.tables.exec = Jvm.exec) (hb : c.code = cc) (hml : c.maxLocals = nL) (hown : s.vm.findClass own = some m.cls) (hts : ∀ w ∈ ox_T0, w.before args s = true) (hK : ox_KX D y b ro s) (hR : ox_Rd R d) (hE : ∀ j as mc ms S Q, E j as mc ms S Q → ox_Met l D y b ro d j as mc ms S Q) {ini : Bool} (hini : ini = true → meth.name = "<init>")
    (K : ∀ pc L st S mr sr, k pc L st S mr sr → ox_X p l e R s m args below meth c Q D y b ro nL pc L st S mr sr)
    {i : ClassFile.Instr} {len : Nat} (hi : oz_nr i = true) (hv : ox_vE own ini nL i ps = true) (hlen : ox_isw i = true ∨ ox_il i = len) (hd : decode cc pc = .ok (i, len)) (h : ox_step E rt i ps pc L st S mr sr k (fun _ _ => False)) : ox_X p l e R s m args below meth c Q D y b ro nL pc L st S mr sr := by
  cases i
  case aaload =>
    obtain rfl : 1 = len := by first | exact hlen.resolve_left (by decide) | (rcases hlen with q | q; exact absurd q (by simp [ox_isw]); exact q)
    exact ox_o_aaload hx hb K hK hd h
  case aastore =>
    obtain rfl : 1 = len := by first | exact hlen.resolve_left (by decide) | (rcases hlen with q | q; exact absurd q (by simp [ox_isw]); exact q)
    exact ox_o_aastore hx hb K hK hd h
  case aconst_null =>
    obtain rfl : 1 = len := by first | exact hlen.resolve_left (by decide) | (rcases hlen with q | q; exact absurd q (by simp [ox_isw]); exact q)
    exact ox_o_null hx hb K hd h
  case aload z1 =>
    obtain rfl : 2 = len := by first | exact hlen.resolve_left (by decide) | (rcases hlen with q | q; exact absurd q (by simp [ox_isw]); exact q)
    exact ox_o_aload hx hb K hd h
  case aload_n z1 =>
    obtain rfl : 1 = len := by first | exact hlen.resolve_left (by decide) | (rcases hlen with q | q; exact absurd q (by simp [ox_isw]); exact q)
    exact ox_o_aload_n hx hb K hd h
  case anewarray z1 =>
    obtain rfl : 3 = len := by first | exact hlen.resolve_left (by decide) | (rcases hlen with q | q; exact absurd q (by simp [ox_isw]); exact q)
    exact ox_o_anewarray hx hb K hown hts hK hv hd h
  case areturn =>
    cases hi
  case arraylength =>
    obtain rfl : 1 = len := by first | exact hlen.resolve_left (by decide) | (rcases hlen with q | q; exact absurd q (by simp [ox_isw]); exact q)
    exact ox_o_arraylength hx hb K hK hd h
  case astore z1 =>
    obtain rfl : 2 = len := by first | exact hlen.resolve_left (by decide) | (rcases hlen with q | q; exact absurd q (by simp [ox_isw]); exact q)
    exact ox_o_astore hx hb K (of_decide_eq_true hv) hd h
  case astore_n z1 =>
    obtain rfl : 1 = len := by first | exact hlen.resolve_left (by decide) | (rcases hlen with q | q; exact absurd q (by simp [ox_isw]); exact q)
    exact ox_o_astore_n hx hb K (of_decide_eq_true hv) hd h
  case athrow =>
    exact h.elim
  case baload =>
    obtain rfl : 1 = len := by first | exact hlen.resolve_left (by decide) | (rcases hlen with q | q; exact absurd q (by simp [ox_isw]); exact q)
    exact ox_o_baload hx hb K hK hd h
  case bastore =>
    obtain rfl : 1 = len := by first | exact hlen.resolve_left (by decide) | (rcases hlen with q | q; exact absurd q (by simp [ox_isw]); exact q)
    exact ox_o_bastore hx hb K hK hd h
  case bipush z1 =>
    obtain rfl : 2 = len := by first | exact hlen.resolve_left (by decide) | (rcases hlen with q | q; exact absurd q (by simp [ox_isw]); exact q)
    exact ox_o_bipush hx hb K hd h
  case caload =>
    exact h.elim
  case castore =>
    exact h.elim
  case checkcast z1 =>
    obtain rfl : 3 = len := by first | exact hlen.resolve_left (by decide) | (rcases hlen with q | q; exact absurd q (by simp [ox_isw]); exact q)
    exact ox_o_checkcast hx hb K hown hts hK hv hd h
  case d2f =>
    exact h.elim
  case d2i =>
    exact h.elim
  case d2l =>
    exact h.elim
  case dadd =>
    exact h.elim
  case daload =>
    exact h.elim
  case dastore =>
    exact h.elim
  case dcmp z1 =>
    exact h.elim
  case dconst z1 =>
    exact h.elim
  case ddiv =>
    exact h.elim
  case dload z1 =>
    exact h.elim
  case dload_n z1 =>
    exact h.elim
  case dmul =>
    exact h.elim
  case dneg =>
    exact h.elim
  case drem =>
    exact h.elim
  case dreturn =>
    exact h.elim
  case dstore z1 =>
    exact h.elim
  case dstore_n z1 =>
    exact h.elim
  case dsub =>
    exact h.elim
  case dup =>
    obtain rfl : 1 = len := by first | exact hlen.resolve_left (by decide) | (rcases hlen with q | q; exact absurd q (by simp [ox_isw]); exact q)
    exact ox_o_dup hx hb K hd h
  case dup_x1 =>
    obtain rfl : 1 = len := by first | exact hlen.resolve_left (by decide) | (rcases hlen with q | q; exact absurd q (by simp [ox_isw]); exact q)
    exact ox_o_dup_x1 hx hb K hd h
  case dup_x2 =>
    exact h.elim
  case dup2 =>
    obtain rfl : 1 = len := by first | exact hlen.resolve_left (by decide) | (rcases hlen with q | q; exact absurd q (by simp [ox_isw]); exact q)
    exact ox_o_dup2 hx hb K hd h
  case dup2_x1 =>
    exact h.elim
  case dup2_x2 =>
    exact h.elim
  case f2d =>
    exact h.elim
  case f2i =>
    exact h.elim
  case f2l =>
    exact h.elim
  case fadd =>
    exact h.elim
  case faload =>
    exact h.elim
  case fastore =>
    exact h.elim
  case fcmp z1 =>
    exact h.elim
  case fconst z1 =>
    exact h.elim
  case fdiv =>
    exact h.elim
  case fload z1 =>
    exact h.elim
  case fload_n z1 =>
    exact h.elim
  case fmul =>
    exact h.elim
  case fneg =>
    exact h.elim
  case frem =>
    exact h.elim
  case freturn =>
    exact h.elim
  case fstore z1 =>
    exact h.elim
  case fstore_n z1 =>
    exact h.elim
  case fsub =>
    exact h.elim
  case getfield z1 =>
    obtain rfl : 3 = len := by first | exact hlen.resolve_left (by decide) | (rcases hlen with q | q; exact absurd q (by simp [ox_isw]); exact q)
    exact ox_o_getfield hx hb K hown hts hK hv hd h
  case getstatic z1 =>
    obtain rfl : 3 = len := by first | exact hlen.resolve_left (by decide) | (rcases hlen with q | q; exact absurd q (by simp [ox_isw]); exact q)
    exact ox_o_getstatic hx hb K hown hts hK hv hd h
  case goto z1 =>
    obtain rfl : 3 = len := by first | exact hlen.resolve_left (by decide) | (rcases hlen with q | q; exact absurd q (by simp [ox_isw]); exact q)
    exact ox_o_goto hx hb K hd h
  case goto_w z1 =>
    exact h.elim
  case i2b =>
    exact h.elim
  case i2c =>
    obtain rfl : 1 = len := by first | exact hlen.resolve_left (by decide) | (rcases hlen with q | q; exact absurd q (by simp [ox_isw]); exact q)
    exact ox_o_i2c hx hb K hd h
  case i2d =>
    exact h.elim
  case i2f =>
    exact h.elim
  case i2l =>
    obtain rfl : 1 = len := by first | exact hlen.resolve_left (by decide) | (rcases hlen with q | q; exact absurd q (by simp [ox_isw]); exact q)
    exact ox_o_i2l hx hb K hd h
  case i2s =>
    exact h.elim
  case iadd =>
    obtain rfl : 1 = len := by first | exact hlen.resolve_left (by decide) | (rcases hlen with q | q; exact absurd q (by simp [ox_isw]); exact q)
    exact ox_o_iadd hx hb K hd h
  case iaload =>
    obtain rfl : 1 = len := by first | exact hlen.resolve_left (by decide) | (rcases hlen with q | q; exact absurd q (by simp [ox_isw]); exact q)
    exact ox_o_iaload hx hb K hK hd h
  case iand =>
    obtain rfl : 1 = len := by first | exact hlen.resolve_left (by decide) | (rcases hlen with q | q; exact absurd q (by simp [ox_isw]); exact q)
    exact ox_o_iand hx hb K hd h
  case iastore =>
    obtain rfl : 1 = len := by first | exact hlen.resolve_left (by decide) | (rcases hlen with q | q; exact absurd q (by simp [ox_isw]); exact q)
    exact ox_o_iastore hx hb K hK hd h
  case iconst z1 =>
    obtain rfl : 1 = len := by first | exact hlen.resolve_left (by decide) | (rcases hlen with q | q; exact absurd q (by simp [ox_isw]); exact q)
    exact ox_o_iconst hx hb K hd h
  case idiv =>
    obtain rfl : 1 = len := by first | exact hlen.resolve_left (by decide) | (rcases hlen with q | q; exact absurd q (by simp [ox_isw]); exact q)
    exact ox_o_idiv hx hb K hd h
  case if_acmp z1 z2 =>
    obtain rfl : 3 = len := by first | exact hlen.resolve_left (by decide) | (rcases hlen with q | q; exact absurd q (by simp [ox_isw]); exact q)
    exact ox_o_if_acmp hx hb K hd h
  case if_icmp z1 z2 =>
    obtain rfl : 3 = len := by first | exact hlen.resolve_left (by decide) | (rcases hlen with q | q; exact absurd q (by simp [ox_isw]); exact q)
    exact ox_o_if_icmp hx hb K hd h
  case ifCond z1 z2 =>
    obtain rfl : 3 = len := by first | exact hlen.resolve_left (by decide) | (rcases hlen with q | q; exact absurd q (by simp [ox_isw]); exact q)
    exact ox_o_ifCond hx hb K hd h
  case ifnonnull z1 =>
    obtain rfl : 3 = len := by first | exact hlen.resolve_left (by decide) | (rcases hlen with q | q; exact absurd q (by simp [ox_isw]); exact q)
    exact ox_o_ifnonnull hx hb K hd h
  case ifnull z1 =>
    obtain rfl : 3 = len := by first | exact hlen.resolve_left (by decide) | (rcases hlen with q | q; exact absurd q (by simp [ox_isw]); exact q)
    exact ox_o_ifnull hx hb K hd h
  case iinc z1 z2 =>
    obtain rfl : 3 = len := by first | exact hlen.resolve_left (by decide) | (rcases hlen with q | q; exact absurd q (by simp [ox_isw]); exact q)
    exact ox_o_iinc hx hb K (of_decide_eq_true hv) hd h
  case iload z1 =>
    obtain rfl : 2 = len := by first | exact hlen.resolve_left (by decide) | (rcases hlen with q | q; exact absurd q (by simp [ox_isw]); exact q)
    exact ox_o_iload hx hb K hd h
  case iload_n z1 =>
    obtain rfl : 1 = len := by first | exact hlen.resolve_left (by decide) | (rcases hlen with q | q; exact absurd q (by simp [ox_isw]); exact q)
    exact ox_o_iload_n hx hb K hd h
  case imul =>
    obtain rfl : 1 = len := by first | exact hlen.resolve_left (by decide) | (rcases hlen with q | q; exact absurd q (by simp [ox_isw]); exact q)
    exact ox_o_imul hx hb K hd h
  case ineg =>
    obtain rfl : 1 = len := by first | exact hlen.resolve_left (by decide) | (rcases hlen with q | q; exact absurd q (by simp [ox_isw]); exact q)
    exact ox_o_ineg hx hb K hd h
  case instanceof z1 =>
    obtain rfl : 3 = len := by first | exact hlen.resolve_left (by decide) | (rcases hlen with q | q; exact absurd q (by simp [ox_isw]); exact q)
    exact ox_o_instanceof hx hb K hown hts hK hv hd h
  case invokedynamic z1 =>
    exact h.elim
  case invokeinterface z1 z2 =>
    exact h.elim
  case invokespecial z1 =>
    obtain rfl : 3 = len := by first | exact hlen.resolve_left (by decide) | (rcases hlen with q | q; exact absurd q (by simp [ox_isw]); exact q)
    exact ox_o_inv (i := .invokespecial z1) hx hb hml K hown hts hK hR hE hv hd h
  case invokestatic z1 =>
    obtain rfl : 3 = len := by first | exact hlen.resolve_left (by decide) | (rcases hlen with q | q; exact absurd q (by simp [ox_isw]); exact q)
    exact ox_o_inv (i := .invokestatic z1) hx hb hml K hown hts hK hR hE hv hd h
  case invokevirtual z1 =>
    obtain rfl : 3 = len := by first | exact hlen.resolve_left (by decide) | (rcases hlen with q | q; exact absurd q (by simp [ox_isw]); exact q)
    exact ox_o_inv (i := .invokevirtual z1) hx hb hml K hown hts hK hR hE hv hd h
  case ior =>
    obtain rfl : 1 = len := by first | exact hlen.resolve_left (by decide) | (rcases hlen with q | q; exact absurd q (by simp [ox_isw]); exact q)
    exact ox_o_ior hx hb K hd h
  case irem =>
    obtain rfl : 1 = len := by first | exact hlen.resolve_left (by decide) | (rcases hlen with q | q; exact absurd q (by simp [ox_isw]); exact q)
    exact ox_o_irem hx hb K hd h
  case ireturn =>
    cases hi
  case ishl =>
    obtain rfl : 1 = len := by first | exact hlen.resolve_left (by decide) | (rcases hlen with q | q; exact absurd q (by simp [ox_isw]); exact q)
    exact ox_o_ishl hx hb K hd h
  case ishr =>
    obtain rfl : 1 = len := by first | exact hlen.resolve_left (by decide) | (rcases hlen with q | q; exact absurd q (by simp [ox_isw]); exact q)
    exact ox_o_ishr hx hb K hd h
  case istore z1 =>
    obtain rfl : 2 = len := by first | exact hlen.resolve_left (by decide) | (rcases hlen with q | q; exact absurd q (by simp [ox_isw]); exact q)
    exact ox_o_istore hx hb K (of_decide_eq_true hv) hd h
  case istore_n z1 =>
    obtain rfl : 1 = len := by first | exact hlen.resolve_left (by decide) | (rcases hlen with q | q; exact absurd q (by simp [ox_isw]); exact q)
    exact ox_o_istore_n hx hb K (of_decide_eq_true hv) hd h
  case isub =>
    obtain rfl : 1 = len := by first | exact hlen.resolve_left (by decide) | (rcases hlen with q | q; exact absurd q (by simp [ox_isw]); exact q)
    exact ox_o_isub hx hb K hd h
  case iushr =>
    obtain rfl : 1 = len := by first | exact hlen.resolve_left (by decide) | (rcases hlen with q | q; exact absurd q (by simp [ox_isw]); exact q)
    exact ox_o_iushr hx hb K hd h
  case ixor =>
    exact h.elim
  case jsr z1 =>
    exact h.elim
  case jsr_w z1 =>
    exact h.elim
  case l2d =>
    exact h.elim
  case l2f =>
    exact h.elim
  case l2i =>
    obtain rfl : 1 = len := by first | exact hlen.resolve_left (by decide) | (rcases hlen with q | q; exact absurd q (by simp [ox_isw]); exact q)
    exact ox_o_l2i hx hb K hd h
  case ladd =>
    obtain rfl : 1 = len := by first | exact hlen.resolve_left (by decide) | (rcases hlen with q | q; exact absurd q (by simp [ox_isw]); exact q)
    exact ox_o_ladd hx hb K hd h
  case laload =>
    obtain rfl : 1 = len := by first | exact hlen.resolve_left (by decide) | (rcases hlen with q | q; exact absurd q (by simp [ox_isw]); exact q)
    exact ox_o_laload hx hb K hK hd h
  case land =>
    obtain rfl : 1 = len := by first | exact hlen.resolve_left (by decide) | (rcases hlen with q | q; exact absurd q (by simp [ox_isw]); exact q)
    exact ox_o_land hx hb K hd h
  case lastore =>
    obtain rfl : 1 = len := by first | exact hlen.resolve_left (by decide) | (rcases hlen with q | q; exact absurd q (by simp [ox_isw]); exact q)
    exact ox_o_lastore hx hb K hK hd h
  case lcmp =>
    obtain rfl : 1 = len := by first | exact hlen.resolve_left (by decide) | (rcases hlen with q | q; exact absurd q (by simp [ox_isw]); exact q)
    exact ox_o_lcmp hx hb K hd h
  case lconst z1 =>
    obtain rfl : 1 = len := by first | exact hlen.resolve_left (by decide) | (rcases hlen with q | q; exact absurd q (by simp [ox_isw]); exact q)
    exact ox_o_lconst hx hb K hd h
  case ldc z1 =>
    obtain rfl : 2 = len := by first | exact hlen.resolve_left (by decide) | (rcases hlen with q | q; exact absurd q (by simp [ox_isw]); exact q)
    exact ox_o_ldc hx hb K hown hts hK hv hd h
  case ldc_w z1 =>
    obtain rfl : 3 = len := by first | exact hlen.resolve_left (by decide) | (rcases hlen with q | q; exact absurd q (by simp [ox_isw]); exact q)
    exact ox_o_ldc_w hx hb K hown hts hK hv hd h
  case ldc2_w z1 =>
    obtain rfl : 3 = len := by first | exact hlen.resolve_left (by decide) | (rcases hlen with q | q; exact absurd q (by simp [ox_isw]); exact q)
    exact ox_o_ldc2 hx hb K hown hts hK hv hd h
  case ldiv =>
    obtain rfl : 1 = len := by first | exact hlen.resolve_left (by decide) | (rcases hlen with q | q; exact absurd q (by simp [ox_isw]); exact q)
    exact ox_o_ldiv hx hb K hd h
  case lload z1 =>
    obtain rfl : 2 = len := by first | exact hlen.resolve_left (by decide) | (rcases hlen with q | q; exact absurd q (by simp [ox_isw]); exact q)
    exact ox_o_lload hx hb K hd h
  case lload_n z1 =>
    obtain rfl : 1 = len := by first | exact hlen.resolve_left (by decide) | (rcases hlen with q | q; exact absurd q (by simp [ox_isw]); exact q)
    exact ox_o_lload_n hx hb K hd h
  case lmul =>
    obtain rfl : 1 = len := by first | exact hlen.resolve_left (by decide) | (rcases hlen with q | q; exact absurd q (by simp [ox_isw]); exact q)
    exact ox_o_lmul hx hb K hd h
  case lneg =>
    obtain rfl : 1 = len := by first | exact hlen.resolve_left (by decide) | (rcases hlen with q | q; exact absurd q (by simp [ox_isw]); exact q)
    exact ox_o_lneg hx hb K hd h
  case lookupswitch z1 z2 =>
    exact ox_o_lookupswitch hx hb K hv hd h
  case lor =>
    obtain rfl : 1 = len := by first | exact hlen.resolve_left (by decide) | (rcases hlen with q | q; exact absurd q (by simp [ox_isw]); exact q)
    exact ox_o_lor hx hb K hd h
  case lrem =>
    obtain rfl : 1 = len := by first | exact hlen.resolve_left (by decide) | (rcases hlen with q | q; exact absurd q (by simp [ox_isw]); exact q)
    exact ox_o_lrem hx hb K hd h
  case lreturn =>
    cases hi
  case lshl =>
    obtain rfl : 1 = len := by first | exact hlen.resolve_left (by decide) | (rcases hlen with q | q; exact absurd q (by simp [ox_isw]); exact q)
    exact ox_o_lshl hx hb K hd h
  case lshr =>
    obtain rfl : 1 = len := by first | exact hlen.resolve_left (by decide) | (rcases hlen with q | q; exact absurd q (by simp [ox_isw]); exact q)
    exact ox_o_lshr hx hb K hd h
  case lstore z1 =>
    obtain rfl : 2 = len := by first | exact hlen.resolve_left (by decide) | (rcases hlen with q | q; exact absurd q (by simp [ox_isw]); exact q)
    exact ox_o_lstore hx hb K (of_decide_eq_true hv) hd h
  case lstore_n z1 =>
    obtain rfl : 1 = len := by first | exact hlen.resolve_left (by decide) | (rcases hlen with q | q; exact absurd q (by simp [ox_isw]); exact q)
    exact ox_o_lstore_n hx hb K (of_decide_eq_true hv) hd h
  case lsub =>
    obtain rfl : 1 = len := by first | exact hlen.resolve_left (by decide) | (rcases hlen with q | q; exact absurd q (by simp [ox_isw]); exact q)
    exact ox_o_lsub hx hb K hd h
  case lushr =>
    obtain rfl : 1 = len := by first | exact hlen.resolve_left (by decide) | (rcases hlen with q | q; exact absurd q (by simp [ox_isw]); exact q)
    exact ox_o_lushr hx hb K hd h
  case lxor =>
    exact h.elim
  case monitorenter =>
    exact h.elim
  case monitorexit =>
    exact h.elim
  case multianewarray z1 z2 =>
    exact h.elim
  case new z1 =>
    obtain rfl : 3 = len := by first | exact hlen.resolve_left (by decide) | (rcases hlen with q | q; exact absurd q (by simp [ox_isw]); exact q)
    exact ox_o_new hx hb K hown hts hK hv hd h
  case newarray z1 =>
    obtain rfl : 2 = len := by first | exact hlen.resolve_left (by decide) | (rcases hlen with q | q; exact absurd q (by simp [ox_isw]); exact q)
    exact ox_o_newarray hx hb K hts hK hv hd h
  case nop =>
    exact h.elim
  case pop =>
    obtain rfl : 1 = len := by first | exact hlen.resolve_left (by decide) | (rcases hlen with q | q; exact absurd q (by simp [ox_isw]); exact q)
    exact ox_o_pop hx hb K hd h
  case pop2 =>
    exact h.elim
  case putfield z1 =>
    obtain rfl : 3 = len := by first | exact hlen.resolve_left (by decide) | (rcases hlen with q | q; exact absurd q (by simp [ox_isw]); exact q)
    have hv2 : ox_vF own z1 ps = true ∧ ox_vP own ini ps = true := by simpa [ox_vE] using hv
    exact ox_o_putfield hx hb K hown hts hK hini hv2.1 hv2.2 hd h
  case putstatic z1 =>
    exact h.elim
  case ret z1 =>
    exact h.elim
  case return_ =>
    cases hi
  case saload =>
    exact h.elim
  case sastore =>
    exact h.elim
  case sipush z1 =>
    obtain rfl : 3 = len := by first | exact hlen.resolve_left (by decide) | (rcases hlen with q | q; exact absurd q (by simp [ox_isw]); exact q)
    exact ox_o_sipush hx hb K hd h
  case swap =>
    exact h.elim
  case tableswitch z1 z2 z3 z4 =>
    exact ox_o_tableswitch hx hb K (of_decide_eq_true hv) hd h
def oz_at (b : Bool) (a z : Prop) : Prop := match b with
  | true => a
  | false => z
/-- a stretch of code up to the places where k says what is to hold -/
def oz_seg (E : ox_E) (code : List ox_I) (stop : List Nat) (k : ox_K) : Nat → ox_K
  | 0 => fun _ _ _ _ _ _ => False
  | n + 1 => fun pc L st S mr sr => match ox_look code pc with
    | some q => ox_step E none q.2.1 q.2.2.2 pc L st S mr sr (fun pc' L' st' S' mr' sr' => oz_at (stop.contains pc') (k pc' L' st' S' mr' sr') (oz_seg E code stop k n pc' L' st' S' mr' sr')) (fun _ _ => False)
    | none => False
def oz_vL (own : String) (nL : Nat) (cc : ByteArray) (q : ox_I) : Bool := oz_nr q.2.1 && ox_vL own false nL cc q
theorem oz_seg_ok (hx : p.tables.exec = Jvm.exec) (hb : c.code = cc) (hml : c.maxLocals = nL) (hown : s.vm.findClass own = some m.cls) (hts : ∀ w ∈ ox_T0, w.before args s = true) (hK : ox_KX D y b ro s) (hR : ox_Rd R d) (hE : ∀ j as mc ms S Q, E j as mc ms S Q → ox_Met l D y b ro d j as mc ms S Q)
    {code : List ox_I} (hcode : code.all (oz_vL own nL cc) = true) {stop : List Nat} (K : ∀ pc L st S mr sr, k pc L st S mr sr → ox_X p l e R s m args below meth c Q D y b ro nL pc L st S mr sr) : ∀ (n pc : Nat) L st S mr sr, oz_seg E code stop k n pc L st S mr sr → ox_X p l e R s m args below meth c Q D y b ro nL pc L st S mr sr := by
  intro n
  induction n with
  | zero => intro pc L st S mr sr hs; exact hs.elim
  | succ n ihn =>
    intro pc L st S mr sr hs
    unfold oz_seg at hs
    split at hs
    · rename_i q hq
      obtain ⟨hq1, hq2⟩ := ox_look_in hq
      have hv1 := List.all_eq_true.mp hcode q hq1
      simp only [oz_vL, ox_vL, Bool.and_eq_true, Bool.or_eq_true, beq_iff_eq, decide_eq_true_eq] at hv1
      obtain ⟨hnr, ⟨hd, hlen⟩, hve⟩ := hv1
      rw [hq2] at hd
      refine oz_step_ok (d := d) hx hb hml hown hts hK hR hE (fun h => by cases h) ?_ hnr hve hlen hd hs
      intro pc' L' st' S' mr' sr' hk'
      cases hst : stop.contains pc' with
      | true => rw [hst] at hk'; exact K _ _ _ _ _ _ hk'
      | false => rw [hst] at hk'; exact ihn _ _ _ _ _ _ hk'
    · exact hs.elim
end OZK
