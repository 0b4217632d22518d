/-! methods that throw, over the picture -/
def ox_St.nn (S : ox_St) (n' : Nat) : ox_St := ox_mk n' S.K S.len S.I S.R S.J S.rI S.rR S.rJ
theorem ox_W.nn {D : va_G} {y : Nat → ClassId} {b : Nat} {ro S : ox_St} {H H' : Heap} (hW : ox_W D y b ro S H) (hz : H.size ≤ H'.size) (ho : ∀ q, q < H.size → H'[q]? = H[q]?) : ox_W D y b ro (S.nn (H'.size + 1)) H' := by
  have hnz : ∀ q, S.K q ≠ 0 → q ≠ 0 := fun q h => hW.nz h
  obtain ⟨h1, h2, h3, h4, h5, h6, h7⟩ := hW
  refine ⟨rfl, h2, (by show b + 1 ≤ H'.size + 1; omega), fun a ha ha2 => ?_, h5, h6, h7⟩
  have ha0 := hnz a ha
  obtain ⟨g1, g2, g3⟩ := h4 a ha ha2
  have e : ox_ent y (S.nn (H'.size + 1)) a = ox_ent y S a := by
    unfold ox_ent
    rfl
  refine ⟨g1, (by show a < H'.size + 1; omega), ?_⟩
  rw [e]
  exact g3.kept (ho (a - 1) (by omega))
def oz_XC (D : va_G) (y : Nat → ClassId) (b : Nat) (ro : ox_St) (QX : String → ox_St → Prop) : String → State → State → Prop := fun E st t => (∃ S', QX E S' ∧ ox_W D y b ro S' t.heap) ∧ va_F (fun q => b ≤ q) st t
def oz_dec : Cond → Bool
  | .declares _ => true
  | .castable _ _ => true
  | _ => false
/-- what the throwing of an exception needs beside the words -/
def oz_Z (b : Nat) (U : State) : Prop := vx_Zq Bundle.tN "UNASSIGNED_STACK" Bundle.steD (fun q => b ≤ q) U U.heap ∧ vx_Zq Bundle.tN "SUPPRESSED_SENTINEL" Bundle.listD (fun q => b ≤ q) U U.heap ∧
  (∃ a, vk_R "OpcodeFrames" 56 "the tape holds no CODE" a U) ∧ (∃ a, vk_R "OpcodeFrames" 67 "a CODE is not as it must be" a U) ∧ (∃ a, vk_R "OpcodeFrames" 77 "there is no CODE under way" a U) ∧ (∃ a, vk_R "OpcodeFrames" 79 "n is not 1 .. 200" a U) ∧
  (∀ w ∈ lw_tbl, oz_dec w = true → va_Nw w U)
theorem oz_Z.next {b : Nat} {s U : State} (h : oz_Z b s) (hW : s.WarmedH U.vm) (hq : ∀ q : Nat, q < s.heap.size → ¬ b ≤ q → U.heap[q]? = s.heap[q]?) : oz_Z b U := by
  obtain ⟨h1, h2, ⟨a3, h3⟩, ⟨a4, h4⟩, ⟨a5, h5⟩, ⟨a6, h6⟩, h7⟩ := h
  refine ⟨(vx_Zq.moved hW.alike h1).kept hq, (vx_Zq.moved hW.alike h2).kept hq, ⟨a3, h3.warm hW⟩, ⟨a4, h4.warm hW⟩, ⟨a5, h5.warm hW⟩, ⟨a6, h6.warm hW⟩, fun w hw hd => ?_⟩
  have h9 := h7 w hw hd
  cases w <;> first | exact va_Nw.warmD hW h9 | exact va_Nw.warmC hW h9 | cases hd
theorem oz_Z.same {b : Nat} {s U : State} (h : oz_Z b s) (e : s.vm = U.vm) (e2 : s.heap = U.heap) : oz_Z b U := by
  obtain ⟨h1, h2, ⟨a3, h3⟩, ⟨a4, h4⟩, ⟨a5, h5⟩, ⟨a6, h6⟩, h7⟩ := h
  have hA : s.vm.Alike U.vm := by rw [← e]; exact Vm.Alike.refl _
  have hq : ∀ q : Nat, q < s.heap.size → ¬ b ≤ q → U.heap[q]? = s.heap[q]? := fun q _ _ => by rw [e2]
  refine ⟨(vx_Zq.moved hA h1).kept hq, (vx_Zq.moved hA h2).kept hq, ⟨a3, h3.same e.symm⟩, ⟨a4, h4.same e.symm⟩, ⟨a5, h5.same e.symm⟩, ⟨a6, h6.same e.symm⟩, fun w hw hd => va_Nw.same (by cases w <;> first | rfl | cases hd) e (h7 w hw hd)⟩
def oz_Pc (D : va_G) (y : Nat → ClassId) (b : Nat) (ro : ox_St) (as : List ox_V) (S : ox_St) : Array Value → State → Prop := fun a U => ox_Pc D y b ro as S a U ∧ oz_Z b U
theorem oz_blind {D : va_G} {y : Nat → ClassId} {b : Nat} {ro : ox_St} {as : List ox_V} {S : ox_St} : FrameBlind (oz_Pc D y b ro as S) := fun a U g mk q => ⟨ox_blind a U g mk q.1, q.2.same rfl rfl⟩
def oz_tn : List String := ["java/lang/RuntimeException", "java/lang/Exception"]
def oz_vT (cls : String) (ik ic : Nat) : Bool := Bundle.fit cls && oz_tn.all Bundle.fit && (Cond.classLink "OpcodeFrames" ik cls :: Cond.initialized cls :: vx_atS "OpcodeFrames" ic cls oz_tn).all (fun w => lw_tbl.contains w && vx_ot w && (goodWord w || oz_dec w))
set_option maxRecDepth 100000 in
set_option maxHeartbeats 4000000 in
theorem oz_vT1 : oz_vT "java/lang/IllegalArgumentException" 54 58 = true := by decide +kernel
set_option maxRecDepth 100000 in
set_option maxHeartbeats 4000000 in
theorem oz_vT2 : oz_vT "java/lang/IllegalStateException" 65 69 = true := by decide +kernel
section OZT
variable {p : Program} {l : Launch} {e : Env} {R : Room} {s : State} {m : MethodId} {args : Array Value} {below : List Frame} {meth : Method} {c : Code} {D : va_G} {y : Nat → ClassId} {b nL : Nat} {ro : ox_St} {cc : ByteArray}
variable {pc mr sr : Nat} {L : ox_L} {S : ox_St} {Q : State → Prop}
theorem oz_throw (hx : p.tables.exec = Jvm.exec) (hb : c.code = cc) (hml : c.maxLocals = nL) (hl : l.stackTraces = false) (hown : s.vm.findClass "OpcodeFrames" = some m.cls) (hts : ∀ w ∈ ox_T0, w.before args s = true) (hZ : oz_Z b s) (hlocks : meth.locks = false) (htab : ∀ x ∈ c.exceptionTable.toList, False) {cls text : String} {ik is ic : Nat} (hv : oz_vT cls ik ic = true) (hstr : ∃ a, vk_R "OpcodeFrames" is text a s) (hR : 5 < R.frames ∧ 82 ≤ R.locals)
    (d0 : decode cc pc = .ok (.new ik, 3)) (d3 : decode cc (pc + 3) = .ok (.dup, 1)) (d4 : decode cc (pc + 4) = .ok (.ldc is, 2)) (d6 : decode cc (pc + 6) = .ok (.invokespecial ic, 3)) (d9 : decode cc (pc + 9) = .ok (.athrow, 1))
    {Qc : Array Value → State → Outcome → State → Prop} {QX : String → ox_St → Prop} (h : 1 ≤ mr ∧ 6 ≤ sr ∧ ∀ n', S.n ≤ n' → QX cls (S.nn n')) :
    ox_X p l e R s m args below meth c (vx_MQ below Qc (oz_XC D y b ro QX) args s R.cells R.slots (fun q => b ≤ q)) D y b ro nL pc L [] S mr sr := by
  intro H locs cells slots ls hW hS hlh h1 h2
  simp only [oz_vT, Bool.and_eq_true, List.all_eq_true] at hv
  obtain ⟨⟨hf1, hf2⟩, hv⟩ := hv
  obtain ⟨sa, hsa⟩ := hstr
  have hw : ∀ w ∈ Cond.classLink "OpcodeFrames" ik cls :: Cond.initialized cls :: vx_atS "OpcodeFrames" ic cls oz_tn, w.before args s = true ∧ vx_ot w = true := by
    intro w hw
    have := hv w hw
    simp only [Bool.and_eq_true, Bool.or_eq_true, List.contains_iff_mem] at this
    obtain ⟨⟨g1, g2⟩, g3⟩ := this
    refine ⟨?_, g2⟩
    rcases g3 with g3 | g3
    · exact hts w (List.mem_filter.mpr ⟨g1, g3⟩)
    · exact va_Nw.use (by cases w <;> first | rfl | cases g3) (hZ.2.2.2.2.2.2 w g1 g3)
  refine vx_throwS (cls := cls) (names := oz_tn) (ik := ik) (is := is) (ic := ic) (sa := sa) (text := text) hx hb hl hown hf1 hf2 (hw _ List.mem_cons_self).1 (hw _ (List.mem_cons_of_mem _ List.mem_cons_self)).1 hsa (fun w hq => (hw w (List.mem_cons_of_mem _ (List.mem_cons_of_mem _ hq))).1) (fun w hq => (hw w hq).2) hZ.1 hZ.2.1 hS (hlh.1.trans hml.symm) d0 d3 d4 d6 d9 (fun x hx => (htab x hx).elim) hR.1 ?_ (by omega) (by omega) hlocks ?_ hS.2.2 (by omega) (by omega)
  · exact hR.2
  · intro t _ hz ho
    refine ⟨⟨S.nn (t.heap.size + 1), h.2.2 _ (by rw [← hW.1]; exact Nat.succ_le_succ hz), hW.nn hz ho⟩, Nat.le_trans hS.1 hz, fun q hq hA => ?_⟩
    rw [ho q (Nat.lt_of_lt_of_le hq hS.1)]
    exact hS.2.1 q hq hA
end OZT
