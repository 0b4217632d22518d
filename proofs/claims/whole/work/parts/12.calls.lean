/-! contracts of methods over the picture, calls -/
def ox_Pc (D : va_G) (y : Nat → ClassId) (b : Nat) (ro : ox_St) (as : List ox_V) (S : ox_St) : Array Value → State → Prop := va_Pc (as.map ox_val) (fun U => ox_W D y b ro S U.heap ∧ ox_KX D y b ro U)
def ox_Qc (D : va_G) (y : Nat → ClassId) (b : Nat) (ro : ox_St) (Q : ox_Q) : Array Value → State → Outcome → State → Prop := fun _ st oc t =>
  (∃ (r : Option ox_V) (S' : ox_St), oc = .returned (r.map ox_val) ∧ Q r S' ∧ ox_W D y b ro S' t.heap) ∧ va_F (fun q => b ≤ q) st t
def ox_rm (d mc ms : Nat) : Room := { frames := d, cells := mc, slots := ms, locals := 64 * d }
def ox_Met (l : Launch) (D : va_G) (y : Nat → ClassId) (b : Nat) (ro : ox_St) (d j : Nat) (as : List ox_V) (mc ms : Nat) (S : ox_St) (Q : ox_Q) : Prop :=
  Met l (ox_mi j).1 (.code (ox_mi j).1 (ox_mi j).2.1 (ox_mi j).2.2.1 (ox_mi j).2.2.2.1 :: ox_T0) (ox_rm d mc ms) (ox_Pc D y b ro as S) (ox_Qc D y b ro Q) mc ms (fun q => b ≤ q)
theorem ox_KX.same {D : va_G} {y : Nat → ClassId} {b : Nat} {ro : ox_St} {u U : State} (h : ox_KX D y b ro u) (e : u.vm = U.vm) (e2 : u.heap = U.heap) : ox_KX D y b ro U := by
  obtain ⟨h1, h2, h3, h4, h5⟩ := h
  have hA : u.vm.Alike U.vm := by rw [← e]; exact Vm.Alike.refl _
  exact ⟨va_K.moved hA h1, fun w hw hn => va_Nw.same (by cases w <;> first | rfl | cases hn) e (h2 w hw hn), fun q hq => va_Nc.moved hA (h3 q hq), fun κ a1 a2 => ⟨va_AO.moved hA (h4 κ a1 a2).1, (h4 κ a1 a2).2.moved hA⟩, h5.next hA (fun q _ _ => by rw [e2])⟩
theorem ox_KX.next {D : va_G} {y : Nat → ClassId} {b : Nat} {ro : ox_St} {u U : State} (h : ox_KX D y b ro u) (hW : u.WarmedH U.vm) (hq : ∀ q : Nat, q < u.heap.size → ¬ b ≤ q → U.heap[q]? = u.heap[q]?) : ox_KX D y b ro U := by
  obtain ⟨h1, h2, h3, h4, h9⟩ := h
  refine ⟨va_K.moved hW.alike h1, fun w hw hn => ?_, fun q hq => va_Nc.moved hW.alike (h3 q hq), fun κ a1 a2 => ⟨va_AO.moved hW.alike (h4 κ a1 a2).1, (h4 κ a1 a2).2.moved hW.alike⟩, h9.next hW.alike hq⟩
  have h5 := h2 w hw hn
  cases w <;> first | exact va_Nw.warmF hW h5 | exact va_Nw.warmM hW h5 | exact va_Nw.warmC hW h5 | cases hn
theorem ox_blind {D : va_G} {y : Nat → ClassId} {b : Nat} {ro : ox_St} {as : List ox_V} {S : ox_St} : FrameBlind (ox_Pc D y b ro as S) := fun a U g mk q => ⟨q.1, q.2.1, q.2.2.same rfl rfl⟩
theorem ox_pay {s : State} {args : Array Value} (hts : ∀ w ∈ ox_T0, w.before args s = true) {w0 : Cond} (h0 : w0 ∈ ox_T0) : ∀ w ∈ w0 :: ox_T0, ∀ (a' : Array Value) (U : State), s.WarmedH U.vm → w.before a' U = true := by
  intro w hw a' U hW
  have hm : w ∈ ox_T0 := by
    rcases List.mem_cons.mp hw with rfl | h
    · exact h0
    · exact h
  exact word_at hW (good_of_word (List.mem_filter.mp hm).2) (hts w hm)
section OXH
variable {p : Program} {l : Launch} {e : Env} {R : Room} {s : State} {m : MethodId} {args : Array Value} {below : List Frame} {meth : Method} {c : Code} {Q : State → Prop} {D : va_G} {y : Nat → ClassId} {b nL : Nat} {ro : ox_St} {cc : ByteArray}
variable {pc mr sr : Nat} {L : ox_L} {st : List ox_V} {S : ox_St} {k : ox_K} {own : String} {ps : List Nat} {idx d : Nat} {H : Heap} {locs : List Loc} {cells slots : Nat} {ls : Array Slot}
theorem ox_callK {Qq : ox_Q} {mc ms : Nat} {st0 rest : List Value} {a : Array Value} (hr : va_Run p l e R s m args below meth c H locs cells slots mc ms (F0 m pc ls st0) rest (ox_Qc D y b ro Qq a) (fun q => b ≤ q)) (hS : va_S (fun q => b ≤ q) s.heap H locs)
    (kk : ∀ (r : Option ox_V) (S' : ox_St) (H1 : Heap) (locs1 : List Loc), Qq r S' → ox_W D y b ro S' H1 → va_S (fun q => b ≤ q) s.heap H1 locs1 → W p l e R s m args below meth c H1 locs1 (cells + mc) (slots + ms) Q (F0 m (pc + 3) ls ((r.map ox_val).toList ++ rest))) : W p l e R s m args below meth c H locs cells slots Q (F0 m pc ls st0) := by
  intro T hT X
  obtain ⟨v, st₀, t, T', L, h0, X', hL, e1, e2, ⟨⟨r, S', hv, hq, hW⟩, hz, hk⟩, st⟩ := hr T hT X
  cases hv
  rw [h0] at hz hk
  obtain ⟨t2, a1, b1⟩ := kk r S' T'.heap (locs ++ L) hq (by rw [e1]; exact hW)
    ⟨Nat.le_trans hS.1 (by rw [e1]; exact hz), fun q h1 h2 => by rw [e1, hk q (Nat.lt_of_lt_of_le h1 hS.1) h2]; exact hS.2.1 q h1 h2, fun q hq => by
      rcases List.mem_append.mp hq with h | h
      · exact hS.2.2 q h
      · exact hL q h⟩ T' rfl X'
  exact ⟨t2, st t2 a1, b1⟩
/-- the parts of a callee's row -/
theorem ox_vM_at {j : Nat} (h : ox_vM j) : Cond.code (ox_mi j).1 (ox_mi j).2.1 (ox_mi j).2.2.1 (ox_mi j).2.2.2.1 ∈ ox_T0 ∧ plainName (ox_mi j).1.cls = true ∧ (ox_mi j).2.2.1 ≤ 45 ∧ ((ox_mi j).1.cls ≠ "java/lang/invoke/MethodHandle" ∧ (ox_mi j).1.cls ≠ "java/lang/invoke/VarHandle") := by
  obtain ⟨h1, h2⟩ := h
  simp only [ox_vN0, Bool.and_eq_true, decide_eq_true_eq] at h2
  exact ⟨ox_in h1 rfl, h2.1.1, h2.1.2, h2.2⟩
theorem ox_np_at {x : MethodName} {n : Nat} (h : ox_np x = some n) : ∀ sig, parseMethodDescriptor x.desc = some sig → n = sig.parameters.length := by
  intro sig hs
  rw [ox_np, hs] at h
  exact (Option.some.inj h).symm
/-- what a call asks of the caller's room -/
def ox_Rd (R : Room) (d : Nat) : Prop := d + 1 ≤ R.frames ∧ 64 * (d + 1) ≤ R.locals
theorem ox_callB (hR : ox_Rd R d) (hts : ∀ w ∈ ox_T0, w.before args s = true) {j mc ms n : Nat} (hj : ox_vM j) (hini : Cond.initialized (ox_mi j).1.cls ∈ ox_T0) (hl : Cond.methodLink own idx (ox_mi j).1 ∈ ox_T0) (hn : ox_np (ox_mi j).1 = some n) :
    CallB R s args own idx (ox_mi j).1 (ox_mi j).2.1 (ox_mi j).2.2.1 (ox_mi j).2.2.2.1 (.code (ox_mi j).1 (ox_mi j).2.1 (ox_mi j).2.2.1 (ox_mi j).2.2.2.1 :: ox_T0) (ox_rm d mc ms) mc ms n := by
  obtain ⟨h1, h2, h3, h4⟩ := ox_vM_at hj
  exact ⟨rfl, rfl, hR.1, by show 8 + ((ox_mi j).2.2.1 + 11) + 64 * d ≤ R.locals; have := hR.2; omega, ox_pay hts h1, List.mem_cons_self, hts _ h1, hts _ hini, h4, ox_np_at hn, hts _ hl⟩
theorem ox_room {t : List ox_V} (h : (t.map ox_cat).sum ≤ 8) (g : JFrame) (hg : g.monitorRoom = 0) : 2 * g.monitorRoom + ((t.map ox_val).map fun v => v.category).sum ≤ 8 := by
  rw [hg, List.map_map]
  have : (t.map ((fun v => v.category) ∘ ox_val)) = t.map ox_cat := List.map_congr_left (fun v _ => ox_val_cat v)
  rw [this]
  omega
end OXH
