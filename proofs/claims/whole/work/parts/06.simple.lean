/-! the picture against the heap, and the steps that leave the heap alone -/
def ox_ent (y : Nat → ClassId) (S : ox_St) (a : Nat) : va_E :=
  if S.K a < 15 then .inr (S.K a - 1, (ox_kf (S.K a)).map (fun F => ox_val (ox_fv (ox_ft F) F S a)))
  else if S.K a = 15 then .inl (y 0, S.len a, .inl (S.rI a))
  else if S.K a = 16 then .inl (y 1, S.len a, .inr (.inl (S.rJ a)))
  else if S.K a = 17 then .inl (y 2, S.len a, .inl (S.rI a))
  else .inl (y (S.K a - 15), S.len a, .inr (.inr (.inr (.inr (fun j => ox_op (S.rR a j))))))
/-- the picture is the heap's: cells from b on as they are; the rows that are only read as ro has them; two statics' values at 142, 143 -/
def ox_W (D : va_G) (y : Nat → ClassId) (b : Nat) (ro S : ox_St) (H : Heap) : Prop := H.size + 1 = S.n ∧ 0 < b ∧ b + 1 ≤ S.n ∧ (∀ a, S.K a ≠ 0 → S.K a ≤ 20 → b ≤ a - 1 ∧ a < S.n ∧ va_at D ox_cl (a - 1, ox_ent y S a) H) ∧ (∀ a, 20 < S.K a → S.K a = ro.K a ∧ S.len a = ro.len a ∧ S.rI a = ro.rI a ∧ S.rJ a = ro.rJ a) ∧ (S.R 142 0 = ro.R 142 0 ∧ S.R 143 0 = ro.R 143 0) ∧ S.K 0 = 0
theorem ox_W.nz {D : va_G} {y : Nat → ClassId} {b : Nat} {ro S : ox_St} {H : Heap} (h : ox_W D y b ro S H) {a : Nat} (ha : S.K a ≠ 0) : a ≠ 0 := fun e => ha (by rw [e]; exact h.2.2.2.2.2.2)
def ox_X (p : Program) (l : Launch) (e : Env) (R : Room) (s : State) (m : MethodId) (args : Array Value) (below : List Frame) (meth : Method) (c : Code) (Q : State → Prop) (D : va_G) (y : Nat → ClassId) (b : Nat) (ro : ox_St) (nL : Nat) : ox_K := fun pc L st S mr sr =>
  ∀ (H : Heap) (locs : List Loc) (cells slots : Nat) (ls : Array Slot), ox_W D y b ro S H → va_S (fun q => b ≤ q) s.heap H locs → ox_lh ls nL L → cells + mr ≤ R.cells → slots + sr ≤ R.slots →
    W p l e R s m args below meth c H locs cells slots Q (F0 m pc ls (st.map ox_val))
section OXA
variable {p : Program} {l : Launch} {e : Env} {R : Room} {s : State} {m : MethodId} {args : Array Value} {below : List Frame} {meth : Method} {c : Code} {Q : State → Prop} {D : va_G} {y : Nat → ClassId} {b nL : Nat} {ro : ox_St} {cc : ByteArray}
variable {pc mr sr : Nat} {L : ox_L} {st : List ox_V} {S : ox_St} {k : ox_K}
theorem ox_o_iconst (hx : p.tables.exec = Jvm.exec) (hb : c.code = cc) (K : ∀ pc L st S mr sr, k pc L st S mr sr → ox_X p l e R s m args below meth c Q D y b ro nL pc L st S mr sr) {n : Int} (hd : decode cc pc = .ok (.iconst n, 1)) (h : k (pc + 1) L (.inl (Int32.ofInt n) :: st) S mr sr) : ox_X p l e R s m args below meth c Q D y b ro nL pc L st S mr sr := by
  intro H locs cells slots ls hW hS hl h1 h2
  exact lv_iconst hx hb hd rfl (K _ _ _ _ _ _ h H locs cells slots ls hW hS hl h1 h2)
theorem ox_o_bipush (hx : p.tables.exec = Jvm.exec) (hb : c.code = cc) (K : ∀ pc L st S mr sr, k pc L st S mr sr → ox_X p l e R s m args below meth c Q D y b ro nL pc L st S mr sr) {n : Int} (hd : decode cc pc = .ok (.bipush n, 2)) (h : k (pc + 2) L (.inl (Int8.ofInt n).toInt32 :: st) S mr sr) : ox_X p l e R s m args below meth c Q D y b ro nL pc L st S mr sr := by
  intro H locs cells slots ls hW hS hl h1 h2
  exact lv_bipush hx hb hd rfl (K _ _ _ _ _ _ h H locs cells slots ls hW hS hl h1 h2)
theorem ox_o_sipush (hx : p.tables.exec = Jvm.exec) (hb : c.code = cc) (K : ∀ pc L st S mr sr, k pc L st S mr sr → ox_X p l e R s m args below meth c Q D y b ro nL pc L st S mr sr) {n : Int} (hd : decode cc pc = .ok (.sipush n, 3)) (h : k (pc + 3) L (.inl (Int16.ofInt n).toInt32 :: st) S mr sr) : ox_X p l e R s m args below meth c Q D y b ro nL pc L st S mr sr := by
  intro H locs cells slots ls hW hS hl h1 h2
  exact lv_sipush hx hb hd rfl (K _ _ _ _ _ _ h H locs cells slots ls hW hS hl h1 h2)
theorem ox_o_lconst (hx : p.tables.exec = Jvm.exec) (hb : c.code = cc) (K : ∀ pc L st S mr sr, k pc L st S mr sr → ox_X p l e R s m args below meth c Q D y b ro nL pc L st S mr sr) {n : Fin 2} (hd : decode cc pc = .ok (.lconst n, 1)) (h : k (pc + 1) L (.inr (.inl (Int64.ofNat n)) :: st) S mr sr) : ox_X p l e R s m args below meth c Q D y b ro nL pc L st S mr sr := by
  intro H locs cells slots ls hW hS hl h1 h2
  exact lv_lconst hx hb hd rfl (K _ _ _ _ _ _ h H locs cells slots ls hW hS hl h1 h2)
theorem ox_o_null (hx : p.tables.exec = Jvm.exec) (hb : c.code = cc) (K : ∀ pc L st S mr sr, k pc L st S mr sr → ox_X p l e R s m args below meth c Q D y b ro nL pc L st S mr sr) (hd : decode cc pc = .ok (.aconst_null, 1)) (h : k (pc + 1) L (.inr (.inr 0) :: st) S mr sr) : ox_X p l e R s m args below meth c Q D y b ro nL pc L st S mr sr := by
  intro H locs cells slots ls hW hS hl h1 h2
  exact lv_null hx hb hd (K _ _ _ _ _ _ h H locs cells slots ls hW hS hl h1 h2)
theorem ox_o_iload (hx : p.tables.exec = Jvm.exec) (hb : c.code = cc) (K : ∀ pc L st S mr sr, k pc L st S mr sr → ox_X p l e R s m args below meth c Q D y b ro nL pc L st S mr sr) {j : Nat} (hd : decode cc pc = .ok (.iload j, 2)) (h : ox_ldi L j (fun v => k (pc + 2) L (v :: st) S mr sr)) : ox_X p l e R s m args below meth c Q D y b ro nL pc L st S mr sr := by
  intro H locs cells slots ls hW hS hl h1 h2
  unfold ox_ldi at h
  split at h
  · rename_i x hg
    exact lv_iload hx hb hd (hl.2.2 _ _ hg) (K _ _ _ _ _ _ h H locs cells slots ls hW hS hl h1 h2)
  · exact h.elim
theorem ox_o_iload_n (hx : p.tables.exec = Jvm.exec) (hb : c.code = cc) (K : ∀ pc L st S mr sr, k pc L st S mr sr → ox_X p l e R s m args below meth c Q D y b ro nL pc L st S mr sr) {j : Fin 4} (hd : decode cc pc = .ok (.iload_n j, 1)) (h : ox_ldi L j (fun v => k (pc + 1) L (v :: st) S mr sr)) : ox_X p l e R s m args below meth c Q D y b ro nL pc L st S mr sr := by
  intro H locs cells slots ls hW hS hl h1 h2
  unfold ox_ldi at h
  split at h
  · rename_i x hg
    exact lv_iload_n hx hb hd rfl (hl.2.2 _ _ hg) (K _ _ _ _ _ _ h H locs cells slots ls hW hS hl h1 h2)
  · exact h.elim
theorem ox_o_lload (hx : p.tables.exec = Jvm.exec) (hb : c.code = cc) (K : ∀ pc L st S mr sr, k pc L st S mr sr → ox_X p l e R s m args below meth c Q D y b ro nL pc L st S mr sr) {j : Nat} (hd : decode cc pc = .ok (.lload j, 2)) (h : ox_ldl L j (fun v => k (pc + 2) L (v :: st) S mr sr)) : ox_X p l e R s m args below meth c Q D y b ro nL pc L st S mr sr := by
  intro H locs cells slots ls hW hS hl h1 h2
  unfold ox_ldl at h
  split at h
  · rename_i x hg
    exact lv_lload hx hb hd (hl.2.2 _ _ hg) (K _ _ _ _ _ _ h H locs cells slots ls hW hS hl h1 h2)
  · exact h.elim
theorem ox_o_lload_n (hx : p.tables.exec = Jvm.exec) (hb : c.code = cc) (K : ∀ pc L st S mr sr, k pc L st S mr sr → ox_X p l e R s m args below meth c Q D y b ro nL pc L st S mr sr) {j : Fin 4} (hd : decode cc pc = .ok (.lload_n j, 1)) (h : ox_ldl L j (fun v => k (pc + 1) L (v :: st) S mr sr)) : ox_X p l e R s m args below meth c Q D y b ro nL pc L st S mr sr := by
  intro H locs cells slots ls hW hS hl h1 h2
  unfold ox_ldl at h
  split at h
  · rename_i x hg
    exact lv_lload_n hx hb hd rfl (hl.2.2 _ _ hg) (K _ _ _ _ _ _ h H locs cells slots ls hW hS hl h1 h2)
  · exact h.elim
theorem ox_o_aload (hx : p.tables.exec = Jvm.exec) (hb : c.code = cc) (K : ∀ pc L st S mr sr, k pc L st S mr sr → ox_X p l e R s m args below meth c Q D y b ro nL pc L st S mr sr) {j : Nat} (hd : decode cc pc = .ok (.aload j, 2)) (h : ox_lda L j (fun v => k (pc + 2) L (v :: st) S mr sr)) : ox_X p l e R s m args below meth c Q D y b ro nL pc L st S mr sr := by
  intro H locs cells slots ls hW hS hl h1 h2
  unfold ox_lda at h
  split at h
  · rename_i x hg
    have h3 := K _ _ _ _ _ _ h H locs cells slots ls hW hS hl h1 h2
    have h4 := hl.2.2 _ _ hg
    by_cases hz : x = 0
    · subst hz
      exact lv_aloadN hx hb hd h4 h3
    · have e1 : ox_val (.inr (.inr x)) = .ref (x - 1) := ox_rfs hz
      rw [e1] at h4
      rw [List.map_cons, e1] at h3
      exact lv_aload hx hb hd h4 h3
  · exact h.elim
theorem ox_o_aload_n (hx : p.tables.exec = Jvm.exec) (hb : c.code = cc) (K : ∀ pc L st S mr sr, k pc L st S mr sr → ox_X p l e R s m args below meth c Q D y b ro nL pc L st S mr sr) {j : Fin 4} (hd : decode cc pc = .ok (.aload_n j, 1)) (h : ox_lda L j (fun v => k (pc + 1) L (v :: st) S mr sr)) : ox_X p l e R s m args below meth c Q D y b ro nL pc L st S mr sr := by
  intro H locs cells slots ls hW hS hl h1 h2
  unfold ox_lda at h
  split at h
  · rename_i x hg
    have h3 := K _ _ _ _ _ _ h H locs cells slots ls hW hS hl h1 h2
    have h4 := hl.2.2 _ _ hg
    by_cases hz : x = 0
    · subst hz
      exact lv_aload_nN hx hb hd rfl h4 h3
    · have e1 : ox_val (.inr (.inr x)) = .ref (x - 1) := ox_rfs hz
      rw [e1] at h4
      rw [List.map_cons, e1] at h3
      exact lv_aload_n hx hb hd rfl h4 h3
  · exact h.elim
theorem ox_o_istore (hx : p.tables.exec = Jvm.exec) (hb : c.code = cc) (K : ∀ pc L st S mr sr, k pc L st S mr sr → ox_X p l e R s m args below meth c Q D y b ro nL pc L st S mr sr) {j : Nat} (hj : (j : Nat) < nL) (hd : decode cc pc = .ok (.istore j, 2)) (h : ox_sti st (fun v t => k (pc + 2) (ox_st1 L j v) t S mr sr)) : ox_X p l e R s m args below meth c Q D y b ro nL pc L st S mr sr := by
  intro H locs cells slots ls hW hS hl h1 h2
  unfold ox_sti at h
  split at h
  · rename_i x t
    exact lv_istore hx hb hd hl.has hj rfl (fun ls' hl' => K _ _ _ _ _ _ h H locs cells slots ls' hW hS (ox_st1_lh rfl hl') h1 h2)
  · exact h.elim
theorem ox_o_istore_n (hx : p.tables.exec = Jvm.exec) (hb : c.code = cc) (K : ∀ pc L st S mr sr, k pc L st S mr sr → ox_X p l e R s m args below meth c Q D y b ro nL pc L st S mr sr) {j : Fin 4} (hj : (j : Nat) < nL) (hd : decode cc pc = .ok (.istore_n j, 1)) (h : ox_sti st (fun v t => k (pc + 1) (ox_st1 L j v) t S mr sr)) : ox_X p l e R s m args below meth c Q D y b ro nL pc L st S mr sr := by
  intro H locs cells slots ls hW hS hl h1 h2
  unfold ox_sti at h
  split at h
  · rename_i x t
    exact lv_istore_n hx hb hd rfl hl.has hj rfl (fun ls' hl' => K _ _ _ _ _ _ h H locs cells slots ls' hW hS (ox_st1_lh rfl hl') h1 h2)
  · exact h.elim
theorem ox_o_lstore (hx : p.tables.exec = Jvm.exec) (hb : c.code = cc) (K : ∀ pc L st S mr sr, k pc L st S mr sr → ox_X p l e R s m args below meth c Q D y b ro nL pc L st S mr sr) {j : Nat} (hj : (j : Nat) + 1 < nL) (hd : decode cc pc = .ok (.lstore j, 2)) (h : ox_stl st (fun v t => k (pc + 2) (ox_st2 L j v) t S mr sr)) : ox_X p l e R s m args below meth c Q D y b ro nL pc L st S mr sr := by
  intro H locs cells slots ls hW hS hl h1 h2
  unfold ox_stl at h
  split at h
  · rename_i x t
    exact lv_lstore hx hb hd hl.has hj rfl (fun ls' hl' => K _ _ _ _ _ _ h H locs cells slots ls' hW hS (ox_st2_lh rfl hl') h1 h2)
  · exact h.elim
theorem ox_o_lstore_n (hx : p.tables.exec = Jvm.exec) (hb : c.code = cc) (K : ∀ pc L st S mr sr, k pc L st S mr sr → ox_X p l e R s m args below meth c Q D y b ro nL pc L st S mr sr) {j : Fin 4} (hj : (j : Nat) + 1 < nL) (hd : decode cc pc = .ok (.lstore_n j, 1)) (h : ox_stl st (fun v t => k (pc + 1) (ox_st2 L j v) t S mr sr)) : ox_X p l e R s m args below meth c Q D y b ro nL pc L st S mr sr := by
  intro H locs cells slots ls hW hS hl h1 h2
  unfold ox_stl at h
  split at h
  · rename_i x t
    exact lv_lstore_n hx hb hd rfl hl.has hj rfl (fun ls' hl' => K _ _ _ _ _ _ h H locs cells slots ls' hW hS (ox_st2_lh rfl hl') h1 h2)
  · exact h.elim
theorem ox_o_astore (hx : p.tables.exec = Jvm.exec) (hb : c.code = cc) (K : ∀ pc L st S mr sr, k pc L st S mr sr → ox_X p l e R s m args below meth c Q D y b ro nL pc L st S mr sr) {j : Nat} (hj : (j : Nat) < nL) (hd : decode cc pc = .ok (.astore j, 2)) (h : ox_sta st (fun v t => k (pc + 2) (ox_st1 L j v) t S mr sr)) : ox_X p l e R s m args below meth c Q D y b ro nL pc L st S mr sr := by
  intro H locs cells slots ls hW hS hl h1 h2
  unfold ox_sta at h
  split at h
  · rename_i x t
    rw [List.map_cons]
    by_cases hz : x = 0
    · subst hz
      exact lv_astoreN hx hb hd hl.has hj rfl (fun ls' hl' => K _ _ _ _ _ _ h H locs cells slots ls' hW hS (ox_st1_lh rfl hl') h1 h2)
    · have e1 : ox_val (.inr (.inr x)) = .ref (x - 1) := ox_rfs hz
      rw [e1]
      exact lv_astore hx hb hd hl.has hj rfl (fun ls' hl' => K _ _ _ _ _ _ h H locs cells slots ls' hW hS (ox_st1_lh (v := .inr (.inr x)) (by rw [e1]) hl') h1 h2)
  · exact h.elim
theorem ox_o_astore_n (hx : p.tables.exec = Jvm.exec) (hb : c.code = cc) (K : ∀ pc L st S mr sr, k pc L st S mr sr → ox_X p l e R s m args below meth c Q D y b ro nL pc L st S mr sr) {j : Fin 4} (hj : (j : Nat) < nL) (hd : decode cc pc = .ok (.astore_n j, 1)) (h : ox_sta st (fun v t => k (pc + 1) (ox_st1 L j v) t S mr sr)) : ox_X p l e R s m args below meth c Q D y b ro nL pc L st S mr sr := by
  intro H locs cells slots ls hW hS hl h1 h2
  unfold ox_sta at h
  split at h
  · rename_i x t
    rw [List.map_cons]
    by_cases hz : x = 0
    · subst hz
      exact lv_astore_nN hx hb hd rfl hl.has hj rfl (fun ls' hl' => K _ _ _ _ _ _ h H locs cells slots ls' hW hS (ox_st1_lh rfl hl') h1 h2)
    · have e1 : ox_val (.inr (.inr x)) = .ref (x - 1) := ox_rfs hz
      rw [e1]
      exact lv_astore_n hx hb hd rfl hl.has hj rfl (fun ls' hl' => K _ _ _ _ _ _ h H locs cells slots ls' hW hS (ox_st1_lh (v := .inr (.inr x)) (by rw [e1]) hl') h1 h2)
  · exact h.elim
theorem ox_lv_at {L : ox_L} {j : Nat} {v : ox_V} (h : ox_get L j = some v) : ∃ q : Nat, (ox_lv L)[q]? = some (j, ox_val v) := List.getElem?_of_mem (ox_lv_mem h)
theorem ox_o_iinc (hx : p.tables.exec = Jvm.exec) (hb : c.code = cc) (K : ∀ pc L st S mr sr, k pc L st S mr sr → ox_X p l e R s m args below meth c Q D y b ro nL pc L st S mr sr) {j : Nat} {n : Int} (hj : j < nL) (hd : decode cc pc = .ok (.iinc j n, 3)) (h : match ox_get L j with
    | some (.inl x) => k (pc + 3) (ox_st1 L j (.inl (x + Int32.ofInt n))) st S mr sr
    | _ => False) : ox_X p l e R s m args below meth c Q D y b ro nL pc L st S mr sr := by
  intro H locs cells slots ls hW hS hl h1 h2
  split at h
  · rename_i x hg
    obtain ⟨q, hq⟩ := ox_lv_at hg
    exact lv_iinc hx hb hd hl.has hq rfl hj rfl (fun ls' hl' => K _ _ _ _ _ _ h H locs cells slots ls' hW hS (ox_st1_lh (v := .inl (x + Int32.ofInt n)) rfl hl') h1 h2)
  · exact h.elim
theorem ox_o_iadd (hx : p.tables.exec = Jvm.exec) (hb : c.code = cc) (K : ∀ pc L st S mr sr, k pc L st S mr sr → ox_X p l e R s m args below meth c Q D y b ro nL pc L st S mr sr) (hd : decode cc pc = .ok (.iadd, 1)) (h : ox_b2 st (fun x y t => k (pc + 1) L (.inl (x + y) :: t) S mr sr)) : ox_X p l e R s m args below meth c Q D y b ro nL pc L st S mr sr := by
  intro H locs cells slots ls hW hS hl h1 h2
  unfold ox_b2 at h
  split at h
  · exact lv_iadd hx hb hd (K _ _ _ _ _ _ h H locs cells slots ls hW hS hl h1 h2)
  · exact h.elim
theorem ox_o_isub (hx : p.tables.exec = Jvm.exec) (hb : c.code = cc) (K : ∀ pc L st S mr sr, k pc L st S mr sr → ox_X p l e R s m args below meth c Q D y b ro nL pc L st S mr sr) (hd : decode cc pc = .ok (.isub, 1)) (h : ox_b2 st (fun x y t => k (pc + 1) L (.inl (x - y) :: t) S mr sr)) : ox_X p l e R s m args below meth c Q D y b ro nL pc L st S mr sr := by
  intro H locs cells slots ls hW hS hl h1 h2
  unfold ox_b2 at h
  split at h
  · exact lv_isub hx hb hd (K _ _ _ _ _ _ h H locs cells slots ls hW hS hl h1 h2)
  · exact h.elim
theorem ox_o_imul (hx : p.tables.exec = Jvm.exec) (hb : c.code = cc) (K : ∀ pc L st S mr sr, k pc L st S mr sr → ox_X p l e R s m args below meth c Q D y b ro nL pc L st S mr sr) (hd : decode cc pc = .ok (.imul, 1)) (h : ox_b2 st (fun x y t => k (pc + 1) L (.inl (x * y) :: t) S mr sr)) : ox_X p l e R s m args below meth c Q D y b ro nL pc L st S mr sr := by
  intro H locs cells slots ls hW hS hl h1 h2
  unfold ox_b2 at h
  split at h
  · exact lv_imul hx hb hd (K _ _ _ _ _ _ h H locs cells slots ls hW hS hl h1 h2)
  · exact h.elim
theorem ox_o_ishl (hx : p.tables.exec = Jvm.exec) (hb : c.code = cc) (K : ∀ pc L st S mr sr, k pc L st S mr sr → ox_X p l e R s m args below meth c Q D y b ro nL pc L st S mr sr) (hd : decode cc pc = .ok (.ishl, 1)) (h : ox_b2 st (fun x y t => k (pc + 1) L (.inl (x <<< (y &&& 31)) :: t) S mr sr)) : ox_X p l e R s m args below meth c Q D y b ro nL pc L st S mr sr := by
  intro H locs cells slots ls hW hS hl h1 h2
  unfold ox_b2 at h
  split at h
  · exact lv_ishl hx hb hd (K _ _ _ _ _ _ h H locs cells slots ls hW hS hl h1 h2)
  · exact h.elim
theorem ox_o_ishr (hx : p.tables.exec = Jvm.exec) (hb : c.code = cc) (K : ∀ pc L st S mr sr, k pc L st S mr sr → ox_X p l e R s m args below meth c Q D y b ro nL pc L st S mr sr) (hd : decode cc pc = .ok (.ishr, 1)) (h : ox_b2 st (fun x y t => k (pc + 1) L (.inl (x >>> (y &&& 31)) :: t) S mr sr)) : ox_X p l e R s m args below meth c Q D y b ro nL pc L st S mr sr := by
  intro H locs cells slots ls hW hS hl h1 h2
  unfold ox_b2 at h
  split at h
  · exact lv_ishr hx hb hd (K _ _ _ _ _ _ h H locs cells slots ls hW hS hl h1 h2)
  · exact h.elim
theorem ox_o_iand (hx : p.tables.exec = Jvm.exec) (hb : c.code = cc) (K : ∀ pc L st S mr sr, k pc L st S mr sr → ox_X p l e R s m args below meth c Q D y b ro nL pc L st S mr sr) (hd : decode cc pc = .ok (.iand, 1)) (h : ox_b2 st (fun x y t => k (pc + 1) L (.inl (x &&& y) :: t) S mr sr)) : ox_X p l e R s m args below meth c Q D y b ro nL pc L st S mr sr := by
  intro H locs cells slots ls hW hS hl h1 h2
  unfold ox_b2 at h
  split at h
  · exact lv_iand hx hb hd (K _ _ _ _ _ _ h H locs cells slots ls hW hS hl h1 h2)
  · exact h.elim
theorem ox_o_ior (hx : p.tables.exec = Jvm.exec) (hb : c.code = cc) (K : ∀ pc L st S mr sr, k pc L st S mr sr → ox_X p l e R s m args below meth c Q D y b ro nL pc L st S mr sr) (hd : decode cc pc = .ok (.ior, 1)) (h : ox_b2 st (fun x y t => k (pc + 1) L (.inl (x ||| y) :: t) S mr sr)) : ox_X p l e R s m args below meth c Q D y b ro nL pc L st S mr sr := by
  intro H locs cells slots ls hW hS hl h1 h2
  unfold ox_b2 at h
  split at h
  · exact lv_ior hx hb hd (K _ _ _ _ _ _ h H locs cells slots ls hW hS hl h1 h2)
  · exact h.elim
theorem ox_o_idiv (hx : p.tables.exec = Jvm.exec) (hb : c.code = cc) (K : ∀ pc L st S mr sr, k pc L st S mr sr → ox_X p l e R s m args below meth c Q D y b ro nL pc L st S mr sr) (hd : decode cc pc = .ok (.idiv, 1)) (h : ox_b2 st (fun x y t => ¬ y = 0 ∧ k (pc + 1) L (.inl (x / y) :: t) S mr sr)) : ox_X p l e R s m args below meth c Q D y b ro nL pc L st S mr sr := by
  intro H locs cells slots ls hW hS hl h1 h2
  unfold ox_b2 at h
  split at h
  · exact lv_idiv hx hb hd h.1 (K _ _ _ _ _ _ h.2 H locs cells slots ls hW hS hl h1 h2)
  · exact h.elim
theorem ox_o_irem (hx : p.tables.exec = Jvm.exec) (hb : c.code = cc) (K : ∀ pc L st S mr sr, k pc L st S mr sr → ox_X p l e R s m args below meth c Q D y b ro nL pc L st S mr sr) (hd : decode cc pc = .ok (.irem, 1)) (h : ox_b2 st (fun x y t => ¬ y = 0 ∧ k (pc + 1) L (.inl (x - x / y * y) :: t) S mr sr)) : ox_X p l e R s m args below meth c Q D y b ro nL pc L st S mr sr := by
  intro H locs cells slots ls hW hS hl h1 h2
  unfold ox_b2 at h
  split at h
  · exact lv_irem hx hb hd h.1 (K _ _ _ _ _ _ h.2 H locs cells slots ls hW hS hl h1 h2)
  · exact h.elim
theorem ox_o_iushr (hx : p.tables.exec = Jvm.exec) (hb : c.code = cc) (K : ∀ pc L st S mr sr, k pc L st S mr sr → ox_X p l e R s m args below meth c Q D y b ro nL pc L st S mr sr) (hd : decode cc pc = .ok (.iushr, 1)) (h : ox_b2 st (fun x y t => k (pc + 1) L (.inl (x.toUInt32 >>> (y.toUInt32 &&& Int32.toUInt32 31)).toInt32 :: t) S mr sr)) : ox_X p l e R s m args below meth c Q D y b ro nL pc L st S mr sr := by
  intro H locs cells slots ls hW hS hl h1 h2
  unfold ox_b2 at h
  split at h
  · exact lv_iushr hx hb hd rfl (K _ _ _ _ _ _ h H locs cells slots ls hW hS hl h1 h2)
  · exact h.elim
theorem ox_o_ineg (hx : p.tables.exec = Jvm.exec) (hb : c.code = cc) (K : ∀ pc L st S mr sr, k pc L st S mr sr → ox_X p l e R s m args below meth c Q D y b ro nL pc L st S mr sr) (hd : decode cc pc = .ok (.ineg, 1)) (h : ox_b1 st (fun x t => k (pc + 1) L (.inl (-x) :: t) S mr sr)) : ox_X p l e R s m args below meth c Q D y b ro nL pc L st S mr sr := by
  intro H locs cells slots ls hW hS hl h1 h2
  unfold ox_b1 at h
  split at h
  · exact lv_ineg hx hb hd (K _ _ _ _ _ _ h H locs cells slots ls hW hS hl h1 h2)
  · exact h.elim
theorem ox_o_i2l (hx : p.tables.exec = Jvm.exec) (hb : c.code = cc) (K : ∀ pc L st S mr sr, k pc L st S mr sr → ox_X p l e R s m args below meth c Q D y b ro nL pc L st S mr sr) (hd : decode cc pc = .ok (.i2l, 1)) (h : ox_b1 st (fun x t => k (pc + 1) L (.inr (.inl x.toInt64) :: t) S mr sr)) : ox_X p l e R s m args below meth c Q D y b ro nL pc L st S mr sr := by
  intro H locs cells slots ls hW hS hl h1 h2
  unfold ox_b1 at h
  split at h
  · exact lv_i2l hx hb hd rfl (K _ _ _ _ _ _ h H locs cells slots ls hW hS hl h1 h2)
  · exact h.elim
theorem ox_o_i2c (hx : p.tables.exec = Jvm.exec) (hb : c.code = cc) (K : ∀ pc L st S mr sr, k pc L st S mr sr → ox_X p l e R s m args below meth c Q D y b ro nL pc L st S mr sr) (hd : decode cc pc = .ok (.i2c, 1)) (h : ox_b1 st (fun x t => k (pc + 1) L (.inl (x.toUInt32 % 65536).toInt32 :: t) S mr sr)) : ox_X p l e R s m args below meth c Q D y b ro nL pc L st S mr sr := by
  intro H locs cells slots ls hW hS hl h1 h2
  unfold ox_b1 at h
  split at h
  · exact lv_i2c hx hb hd rfl (K _ _ _ _ _ _ h H locs cells slots ls hW hS hl h1 h2)
  · exact h.elim
theorem ox_o_l2i (hx : p.tables.exec = Jvm.exec) (hb : c.code = cc) (K : ∀ pc L st S mr sr, k pc L st S mr sr → ox_X p l e R s m args below meth c Q D y b ro nL pc L st S mr sr) (hd : decode cc pc = .ok (.l2i, 1)) (h : ox_l1 st (fun x t => k (pc + 1) L (.inl x.toInt32 :: t) S mr sr)) : ox_X p l e R s m args below meth c Q D y b ro nL pc L st S mr sr := by
  intro H locs cells slots ls hW hS hl h1 h2
  unfold ox_l1 at h
  split at h
  · exact lv_l2i hx hb hd rfl (K _ _ _ _ _ _ h H locs cells slots ls hW hS hl h1 h2)
  · exact h.elim
theorem ox_o_lneg (hx : p.tables.exec = Jvm.exec) (hb : c.code = cc) (K : ∀ pc L st S mr sr, k pc L st S mr sr → ox_X p l e R s m args below meth c Q D y b ro nL pc L st S mr sr) (hd : decode cc pc = .ok (.lneg, 1)) (h : ox_l1 st (fun x t => k (pc + 1) L (.inr (.inl (-x)) :: t) S mr sr)) : ox_X p l e R s m args below meth c Q D y b ro nL pc L st S mr sr := by
  intro H locs cells slots ls hW hS hl h1 h2
  unfold ox_l1 at h
  split at h
  · exact lv_lneg hx hb hd (K _ _ _ _ _ _ h H locs cells slots ls hW hS hl h1 h2)
  · exact h.elim
theorem ox_o_ladd (hx : p.tables.exec = Jvm.exec) (hb : c.code = cc) (K : ∀ pc L st S mr sr, k pc L st S mr sr → ox_X p l e R s m args below meth c Q D y b ro nL pc L st S mr sr) (hd : decode cc pc = .ok (.ladd, 1)) (h : ox_l2 st (fun x y t => k (pc + 1) L (.inr (.inl (x + y)) :: t) S mr sr)) : ox_X p l e R s m args below meth c Q D y b ro nL pc L st S mr sr := by
  intro H locs cells slots ls hW hS hl h1 h2
  unfold ox_l2 at h
  split at h
  · exact lv_ladd hx hb hd (K _ _ _ _ _ _ h H locs cells slots ls hW hS hl h1 h2)
  · exact h.elim
theorem ox_o_lsub (hx : p.tables.exec = Jvm.exec) (hb : c.code = cc) (K : ∀ pc L st S mr sr, k pc L st S mr sr → ox_X p l e R s m args below meth c Q D y b ro nL pc L st S mr sr) (hd : decode cc pc = .ok (.lsub, 1)) (h : ox_l2 st (fun x y t => k (pc + 1) L (.inr (.inl (x - y)) :: t) S mr sr)) : ox_X p l e R s m args below meth c Q D y b ro nL pc L st S mr sr := by
  intro H locs cells slots ls hW hS hl h1 h2
  unfold ox_l2 at h
  split at h
  · exact lv_lsub hx hb hd (K _ _ _ _ _ _ h H locs cells slots ls hW hS hl h1 h2)
  · exact h.elim
theorem ox_o_lmul (hx : p.tables.exec = Jvm.exec) (hb : c.code = cc) (K : ∀ pc L st S mr sr, k pc L st S mr sr → ox_X p l e R s m args below meth c Q D y b ro nL pc L st S mr sr) (hd : decode cc pc = .ok (.lmul, 1)) (h : ox_l2 st (fun x y t => k (pc + 1) L (.inr (.inl (x * y)) :: t) S mr sr)) : ox_X p l e R s m args below meth c Q D y b ro nL pc L st S mr sr := by
  intro H locs cells slots ls hW hS hl h1 h2
  unfold ox_l2 at h
  split at h
  · exact lv_lmul hx hb hd (K _ _ _ _ _ _ h H locs cells slots ls hW hS hl h1 h2)
  · exact h.elim
theorem ox_o_land (hx : p.tables.exec = Jvm.exec) (hb : c.code = cc) (K : ∀ pc L st S mr sr, k pc L st S mr sr → ox_X p l e R s m args below meth c Q D y b ro nL pc L st S mr sr) (hd : decode cc pc = .ok (.land, 1)) (h : ox_l2 st (fun x y t => k (pc + 1) L (.inr (.inl (x &&& y)) :: t) S mr sr)) : ox_X p l e R s m args below meth c Q D y b ro nL pc L st S mr sr := by
  intro H locs cells slots ls hW hS hl h1 h2
  unfold ox_l2 at h
  split at h
  · exact lv_land hx hb hd (K _ _ _ _ _ _ h H locs cells slots ls hW hS hl h1 h2)
  · exact h.elim
theorem ox_o_lor (hx : p.tables.exec = Jvm.exec) (hb : c.code = cc) (K : ∀ pc L st S mr sr, k pc L st S mr sr → ox_X p l e R s m args below meth c Q D y b ro nL pc L st S mr sr) (hd : decode cc pc = .ok (.lor, 1)) (h : ox_l2 st (fun x y t => k (pc + 1) L (.inr (.inl (x ||| y)) :: t) S mr sr)) : ox_X p l e R s m args below meth c Q D y b ro nL pc L st S mr sr := by
  intro H locs cells slots ls hW hS hl h1 h2
  unfold ox_l2 at h
  split at h
  · exact lv_lor hx hb hd (K _ _ _ _ _ _ h H locs cells slots ls hW hS hl h1 h2)
  · exact h.elim
theorem ox_o_ldiv (hx : p.tables.exec = Jvm.exec) (hb : c.code = cc) (K : ∀ pc L st S mr sr, k pc L st S mr sr → ox_X p l e R s m args below meth c Q D y b ro nL pc L st S mr sr) (hd : decode cc pc = .ok (.ldiv, 1)) (h : ox_l2 st (fun x y t => ¬ y = 0 ∧ k (pc + 1) L (.inr (.inl (x / y)) :: t) S mr sr)) : ox_X p l e R s m args below meth c Q D y b ro nL pc L st S mr sr := by
  intro H locs cells slots ls hW hS hl h1 h2
  unfold ox_l2 at h
  split at h
  · exact lv_ldiv hx hb hd h.1 (K _ _ _ _ _ _ h.2 H locs cells slots ls hW hS hl h1 h2)
  · exact h.elim
theorem ox_o_lrem (hx : p.tables.exec = Jvm.exec) (hb : c.code = cc) (K : ∀ pc L st S mr sr, k pc L st S mr sr → ox_X p l e R s m args below meth c Q D y b ro nL pc L st S mr sr) (hd : decode cc pc = .ok (.lrem, 1)) (h : ox_l2 st (fun x y t => ¬ y = 0 ∧ k (pc + 1) L (.inr (.inl (x - x / y * y)) :: t) S mr sr)) : ox_X p l e R s m args below meth c Q D y b ro nL pc L st S mr sr := by
  intro H locs cells slots ls hW hS hl h1 h2
  unfold ox_l2 at h
  split at h
  · exact lv_lrem hx hb hd h.1 (K _ _ _ _ _ _ h.2 H locs cells slots ls hW hS hl h1 h2)
  · exact h.elim
theorem ox_o_lcmp (hx : p.tables.exec = Jvm.exec) (hb : c.code = cc) (K : ∀ pc L st S mr sr, k pc L st S mr sr → ox_X p l e R s m args below meth c Q D y b ro nL pc L st S mr sr) (hd : decode cc pc = .ok (.lcmp, 1)) (h : ox_l2 st (fun x y t => k (pc + 1) L (.inl (lg_cmp x y) :: t) S mr sr)) : ox_X p l e R s m args below meth c Q D y b ro nL pc L st S mr sr := by
  intro H locs cells slots ls hW hS hl h1 h2
  unfold ox_l2 at h
  split at h
  · exact W.lcmp hx hb hd (K _ _ _ _ _ _ h H locs cells slots ls hW hS hl h1 h2)
  · exact h.elim
theorem ox_o_lshl (hx : p.tables.exec = Jvm.exec) (hb : c.code = cc) (K : ∀ pc L st S mr sr, k pc L st S mr sr → ox_X p l e R s m args below meth c Q D y b ro nL pc L st S mr sr) (hd : decode cc pc = .ok (.lshl, 1)) (h : ox_li st (fun x y t => k (pc + 1) L (.inr (.inl (x <<< (y.toInt64 &&& 63))) :: t) S mr sr)) : ox_X p l e R s m args below meth c Q D y b ro nL pc L st S mr sr := by
  intro H locs cells slots ls hW hS hl h1 h2
  unfold ox_li at h
  split at h
  · exact lv_lshl hx hb hd rfl (K _ _ _ _ _ _ h H locs cells slots ls hW hS hl h1 h2)
  · exact h.elim
theorem ox_o_lshr (hx : p.tables.exec = Jvm.exec) (hb : c.code = cc) (K : ∀ pc L st S mr sr, k pc L st S mr sr → ox_X p l e R s m args below meth c Q D y b ro nL pc L st S mr sr) (hd : decode cc pc = .ok (.lshr, 1)) (h : ox_li st (fun x y t => k (pc + 1) L (.inr (.inl (x >>> (y.toInt64 &&& 63))) :: t) S mr sr)) : ox_X p l e R s m args below meth c Q D y b ro nL pc L st S mr sr := by
  intro H locs cells slots ls hW hS hl h1 h2
  unfold ox_li at h
  split at h
  · exact lv_lshr hx hb hd rfl (K _ _ _ _ _ _ h H locs cells slots ls hW hS hl h1 h2)
  · exact h.elim
theorem ox_o_lushr (hx : p.tables.exec = Jvm.exec) (hb : c.code = cc) (K : ∀ pc L st S mr sr, k pc L st S mr sr → ox_X p l e R s m args below meth c Q D y b ro nL pc L st S mr sr) (hd : decode cc pc = .ok (.lushr, 1)) (h : ox_li st (fun x y t => k (pc + 1) L (.inr (.inl (x.toUInt64 >>> (y.toInt64.toUInt64 &&& Int64.toUInt64 63)).toInt64) :: t) S mr sr)) : ox_X p l e R s m args below meth c Q D y b ro nL pc L st S mr sr := by
  intro H locs cells slots ls hW hS hl h1 h2
  unfold ox_li at h
  split at h
  · exact lv_lushr hx hb hd rfl (K _ _ _ _ _ _ h H locs cells slots ls hW hS hl h1 h2)
  · exact h.elim
theorem ox_o_dup (hx : p.tables.exec = Jvm.exec) (hb : c.code = cc) (K : ∀ pc L st S mr sr, k pc L st S mr sr → ox_X p l e R s m args below meth c Q D y b ro nL pc L st S mr sr) (hd : decode cc pc = .ok (.dup, 1)) (h : ox_w1 st (fun v t => k (pc + 1) L (v :: v :: t) S mr sr)) : ox_X p l e R s m args below meth c Q D y b ro nL pc L st S mr sr := by
  intro H locs cells slots ls hW hS hl h1 h2
  unfold ox_w1 at h
  split at h
  · exact lv_dup hx hb hd rfl (K _ _ _ _ _ _ h H locs cells slots ls hW hS hl h1 h2)
  · exact lv_dup hx hb hd (ox_rf_cat _) (K _ _ _ _ _ _ h H locs cells slots ls hW hS hl h1 h2)
  · exact h.elim
theorem ox_o_pop (hx : p.tables.exec = Jvm.exec) (hb : c.code = cc) (K : ∀ pc L st S mr sr, k pc L st S mr sr → ox_X p l e R s m args below meth c Q D y b ro nL pc L st S mr sr) (hd : decode cc pc = .ok (.pop, 1)) (h : ox_w1 st (fun _ t => k (pc + 1) L t S mr sr)) : ox_X p l e R s m args below meth c Q D y b ro nL pc L st S mr sr := by
  intro H locs cells slots ls hW hS hl h1 h2
  unfold ox_w1 at h
  split at h
  · exact lv_pop hx hb hd rfl (K _ _ _ _ _ _ h H locs cells slots ls hW hS hl h1 h2)
  · exact lv_pop hx hb hd (ox_rf_cat _) (K _ _ _ _ _ _ h H locs cells slots ls hW hS hl h1 h2)
  · exact h.elim
theorem ox_o_dup_x1 (hx : p.tables.exec = Jvm.exec) (hb : c.code = cc) (K : ∀ pc L st S mr sr, k pc L st S mr sr → ox_X p l e R s m args below meth c Q D y b ro nL pc L st S mr sr) (hd : decode cc pc = .ok (.dup_x1, 1)) (h : ox_w1 st (fun v t => ox_r1 t (fun a u => k (pc + 1) L (v :: .inr (.inr a) :: v :: u) S mr sr))) : ox_X p l e R s m args below meth c Q D y b ro nL pc L st S mr sr := by
  intro H locs cells slots ls hW hS hl h1 h2
  unfold ox_w1 at h
  split at h
  · unfold ox_r1 at h
    split at h
    · exact lv_dup_x1 hx hb hd rfl (ox_rf_cat _) (K _ _ _ _ _ _ h H locs cells slots ls hW hS hl h1 h2)
    · exact h.elim
  · unfold ox_r1 at h
    split at h
    · exact lv_dup_x1 hx hb hd (ox_rf_cat _) (ox_rf_cat _) (K _ _ _ _ _ _ h H locs cells slots ls hW hS hl h1 h2)
    · exact h.elim
  · exact h.elim
theorem ox_o_dup2 (hx : p.tables.exec = Jvm.exec) (hb : c.code = cc) (K : ∀ pc L st S mr sr, k pc L st S mr sr → ox_X p l e R s m args below meth c Q D y b ro nL pc L st S mr sr) (hd : decode cc pc = .ok (.dup2, 1)) (h : ox_ai st (fun a i t => k (pc + 1) L (.inl i :: .inr (.inr a) :: .inl i :: .inr (.inr a) :: t) S mr sr)) : ox_X p l e R s m args below meth c Q D y b ro nL pc L st S mr sr := by
  intro H locs cells slots ls hW hS hl h1 h2
  unfold ox_ai at h
  split at h
  · exact lv_dup2_11 hx hb hd rfl (ox_rf_cat _) (K _ _ _ _ _ _ h H locs cells slots ls hW hS hl h1 h2)
  · exact h.elim
theorem ox_go_at {pc : Nat} {off : Int} {k : Nat → Prop} (h : ox_go pc off k) : ∃ t : Nat, (pc : Int) + off = (t : Int) ∧ k t := by
  unfold ox_go at h
  split at h
  · rename_i t ht
    exact ⟨t, ht, h⟩
  · exact h.elim
theorem ox_o_goto (hx : p.tables.exec = Jvm.exec) (hb : c.code = cc) (K : ∀ pc L st S mr sr, k pc L st S mr sr → ox_X p l e R s m args below meth c Q D y b ro nL pc L st S mr sr) {off : Int} (hd : decode cc pc = .ok (.goto off, 3)) (h : ox_go pc off (fun t => k t L st S mr sr)) : ox_X p l e R s m args below meth c Q D y b ro nL pc L st S mr sr := by
  intro H locs cells slots ls hW hS hl h1 h2
  obtain ⟨t, ht, h⟩ := ox_go_at h
  exact lv_goto hx hb hd ht (K _ _ _ _ _ _ h H locs cells slots ls hW hS hl h1 h2)
theorem ox_o_ifCond (hx : p.tables.exec = Jvm.exec) (hb : c.code = cc) (K : ∀ pc L st S mr sr, k pc L st S mr sr → ox_X p l e R s m args below meth c Q D y b ro nL pc L st S mr sr) {cd : ClassFile.Cond} {off : Int} (hd : decode cc pc = .ok (.ifCond cd off, 3)) (h : ox_b1 st (fun x t => ox_go pc off (fun q => (ox_ic cd x 0 → k q L t S mr sr) ∧ (ox_icN cd x 0 → k (pc + 3) L t S mr sr)))) : ox_X p l e R s m args below meth c Q D y b ro nL pc L st S mr sr := by
  intro H locs cells slots ls hW hS hl h1 h2
  unfold ox_b1 at h
  split at h
  · obtain ⟨tg, ht, ha, hc⟩ := ox_go_at h
    cases cd
    · exact lv_if_eq hx hb hd ht (fun q => K _ _ _ _ _ _ (ha q) H locs cells slots ls hW hS hl h1 h2) (fun q => K _ _ _ _ _ _ (hc q) H locs cells slots ls hW hS hl h1 h2)
    · exact lv_if_ne hx hb hd ht (fun q => K _ _ _ _ _ _ (ha q) H locs cells slots ls hW hS hl h1 h2) (fun q => K _ _ _ _ _ _ (hc q) H locs cells slots ls hW hS hl h1 h2)
    · exact lv_if_lt hx hb hd ht (fun q => K _ _ _ _ _ _ (ha q) H locs cells slots ls hW hS hl h1 h2) (fun q => K _ _ _ _ _ _ (hc q) H locs cells slots ls hW hS hl h1 h2)
    · exact lv_if_ge hx hb hd ht (fun q => K _ _ _ _ _ _ (ha q) H locs cells slots ls hW hS hl h1 h2) (fun q => K _ _ _ _ _ _ (hc q) H locs cells slots ls hW hS hl h1 h2)
    · exact lv_if_gt hx hb hd ht (fun q => K _ _ _ _ _ _ (ha q) H locs cells slots ls hW hS hl h1 h2) (fun q => K _ _ _ _ _ _ (hc q) H locs cells slots ls hW hS hl h1 h2)
    · exact lv_if_le hx hb hd ht (fun q => K _ _ _ _ _ _ (ha q) H locs cells slots ls hW hS hl h1 h2) (fun q => K _ _ _ _ _ _ (hc q) H locs cells slots ls hW hS hl h1 h2)
  · exact h.elim
theorem ox_o_if_icmp (hx : p.tables.exec = Jvm.exec) (hb : c.code = cc) (K : ∀ pc L st S mr sr, k pc L st S mr sr → ox_X p l e R s m args below meth c Q D y b ro nL pc L st S mr sr) {cd : ClassFile.Cond} {off : Int} (hd : decode cc pc = .ok (.if_icmp cd off, 3)) (h : ox_b2 st (fun x y t => ox_go pc off (fun q => (ox_ic cd x y → k q L t S mr sr) ∧ (ox_icN cd x y → k (pc + 3) L t S mr sr)))) : ox_X p l e R s m args below meth c Q D y b ro nL pc L st S mr sr := by
  intro H locs cells slots ls hW hS hl h1 h2
  unfold ox_b2 at h
  split at h
  · obtain ⟨tg, ht, ha, hc⟩ := ox_go_at h
    cases cd
    · exact lv_icmp_eq hx hb hd ht (fun q => K _ _ _ _ _ _ (ha q) H locs cells slots ls hW hS hl h1 h2) (fun q => K _ _ _ _ _ _ (hc q) H locs cells slots ls hW hS hl h1 h2)
    · exact lv_icmp_ne hx hb hd ht (fun q => K _ _ _ _ _ _ (ha q) H locs cells slots ls hW hS hl h1 h2) (fun q => K _ _ _ _ _ _ (hc q) H locs cells slots ls hW hS hl h1 h2)
    · exact lv_icmp_lt hx hb hd ht (fun q => K _ _ _ _ _ _ (ha q) H locs cells slots ls hW hS hl h1 h2) (fun q => K _ _ _ _ _ _ (hc q) H locs cells slots ls hW hS hl h1 h2)
    · exact lv_icmp_ge hx hb hd ht (fun q => K _ _ _ _ _ _ (ha q) H locs cells slots ls hW hS hl h1 h2) (fun q => K _ _ _ _ _ _ (hc q) H locs cells slots ls hW hS hl h1 h2)
    · exact lv_icmp_gt hx hb hd ht (fun q => K _ _ _ _ _ _ (ha q) H locs cells slots ls hW hS hl h1 h2) (fun q => K _ _ _ _ _ _ (hc q) H locs cells slots ls hW hS hl h1 h2)
    · exact lv_icmp_le hx hb hd ht (fun q => K _ _ _ _ _ _ (ha q) H locs cells slots ls hW hS hl h1 h2) (fun q => K _ _ _ _ _ _ (hc q) H locs cells slots ls hW hS hl h1 h2)
  · exact h.elim
theorem ox_op_inj {a b : Nat} : ox_op a = ox_op b ↔ a = b := by
  unfold ox_op
  by_cases ha : a = 0 <;> by_cases hb : b = 0 <;> simp [ha, hb]
  · exact fun e => hb e.symm
  · omega
theorem ox_o_if_acmp (hx : p.tables.exec = Jvm.exec) (hb : c.code = cc) (K : ∀ pc L st S mr sr, k pc L st S mr sr → ox_X p l e R s m args below meth c Q D y b ro nL pc L st S mr sr) {cd : ClassFile.ACond} {off : Int} (hd : decode cc pc = .ok (.if_acmp cd off, 3)) (h : ox_r2 st (fun x y t => ox_go pc off (fun q => (ox_ac cd x y → k q L t S mr sr) ∧ (ox_acN cd x y → k (pc + 3) L t S mr sr)))) : ox_X p l e R s m args below meth c Q D y b ro nL pc L st S mr sr := by
  intro H locs cells slots ls hW hS hl h1 h2
  unfold ox_r2 at h
  split at h
  · rename_i q2 q1 t
    obtain ⟨tg, ht, ha, hc⟩ := ox_go_at h
    rw [List.map_cons, List.map_cons, show ox_val (.inr (.inr q2)) = va_rf (ox_op q2) from (ox_op_rf q2).symm, show ox_val (.inr (.inr q1)) = va_rf (ox_op q1) from (ox_op_rf q1).symm]
    cases cd
    · exact lv_acmp_eq hx hb hd ht (fun q => K _ _ _ _ _ _ (ha (ox_op_inj.mp q)) H locs cells slots ls hW hS hl h1 h2) (fun q => K _ _ _ _ _ _ (hc (fun z => q (ox_op_inj.mpr z))) H locs cells slots ls hW hS hl h1 h2)
    · exact lv_acmp_ne hx hb hd ht (fun q => K _ _ _ _ _ _ (ha (fun z => q (ox_op_inj.mpr z))) H locs cells slots ls hW hS hl h1 h2) (fun q => K _ _ _ _ _ _ (hc (ox_op_inj.mp q)) H locs cells slots ls hW hS hl h1 h2)
  · exact h.elim
theorem ox_o_ifnull (hx : p.tables.exec = Jvm.exec) (hb : c.code = cc) (K : ∀ pc L st S mr sr, k pc L st S mr sr → ox_X p l e R s m args below meth c Q D y b ro nL pc L st S mr sr) {off : Int} (hd : decode cc pc = .ok (.ifnull off, 3)) (h : ox_r1 st (fun a t => ox_go pc off (fun q => (a = 0 → k q L t S mr sr) ∧ (¬ a = 0 → k (pc + 3) L t S mr sr)))) : ox_X p l e R s m args below meth c Q D y b ro nL pc L st S mr sr := by
  intro H locs cells slots ls hW hS hl h1 h2
  unfold ox_r1 at h
  split at h
  · rename_i a t
    obtain ⟨tg, ht, ha, hc⟩ := ox_go_at h
    rw [List.map_cons]
    by_cases hz : a = 0
    · subst hz
      exact lv_ifnullN hx hb hd ht (K _ _ _ _ _ _ (ha rfl) H locs cells slots ls hW hS hl h1 h2)
    · rw [show ox_val (.inr (.inr a)) = .ref (a - 1) from ox_rfs hz]
      exact lv_ifnull hx hb hd (K _ _ _ _ _ _ (hc hz) H locs cells slots ls hW hS hl h1 h2)
  · exact h.elim
theorem ox_o_ifnonnull (hx : p.tables.exec = Jvm.exec) (hb : c.code = cc) (K : ∀ pc L st S mr sr, k pc L st S mr sr → ox_X p l e R s m args below meth c Q D y b ro nL pc L st S mr sr) {off : Int} (hd : decode cc pc = .ok (.ifnonnull off, 3)) (h : ox_r1 st (fun a t => ox_go pc off (fun q => (¬ a = 0 → k q L t S mr sr) ∧ (a = 0 → k (pc + 3) L t S mr sr)))) : ox_X p l e R s m args below meth c Q D y b ro nL pc L st S mr sr := by
  intro H locs cells slots ls hW hS hl h1 h2
  unfold ox_r1 at h
  split at h
  · rename_i a t
    obtain ⟨tg, ht, ha, hc⟩ := ox_go_at h
    rw [List.map_cons]
    by_cases hz : a = 0
    · subst hz
      exact lv_ifnonnullN hx hb hd (K _ _ _ _ _ _ (hc rfl) H locs cells slots ls hW hS hl h1 h2)
    · rw [show ox_val (.inr (.inr a)) = .ref (a - 1) from ox_rfs hz]
      exact lv_ifnonnull hx hb hd ht (K _ _ _ _ _ _ (ha hz) H locs cells slots ls hW hS hl h1 h2)
  · exact h.elim
theorem ox_ts_at {x : Int32} {d : Int} {kk : Nat → Prop} : ∀ (os : List Int) (lo : Int), ox_ts pc x d kk lo os → (∃ (o : Int) (t : Nat), ¬ x.toInt < lo ∧ x.toInt < lo + os.length ∧ os[(x.toInt - lo).toNat]? = some o ∧ (pc : Int) + o = (t : Int) ∧ kk t) ∨ ((x.toInt < lo ∨ lo + os.length ≤ x.toInt) ∧ ∃ t : Nat, (pc : Int) + d = (t : Int) ∧ kk t)
  | [], lo, h => by
    obtain ⟨t, ht, hk⟩ := ox_go_at h
    exact Or.inr ⟨by simp; omega, t, ht, hk⟩
  | o :: os, lo, h => by
    by_cases hq : x.toInt = lo
    · obtain ⟨t, ht, hk⟩ := ox_go_at (h.1 hq)
      exact Or.inl ⟨o, t, by omega, by simp; omega, by rw [hq]; simp, ht, hk⟩
    · rcases ox_ts_at os (lo + 1) (h.2 hq) with ⟨o1, t, g1, g2, g3, g4, g5⟩ | ⟨g1, g2⟩
      · refine Or.inl ⟨o1, t, by omega, by simp; omega, ?_, g4, g5⟩
        rw [show (x.toInt - lo).toNat = (x.toInt - (lo + 1)).toNat + 1 by omega]
        exact g3
      · exact Or.inr ⟨by simp; omega, g2⟩
theorem ox_o_tableswitch (hx : p.tables.exec = Jvm.exec) (hb : c.code = cc) (K : ∀ pc L st S mr sr, k pc L st S mr sr → ox_X p l e R s m args below meth c Q D y b ro nL pc L st S mr sr) {d lo hi : Int} {offs : Array Int} {len : Nat} (hh : hi + 1 = lo + offs.toList.length) (hd : decode cc pc = .ok (.tableswitch d lo hi offs, len)) (h : ox_b1 st (fun x t => ox_ts pc x d (fun q => k q L t S mr sr) lo offs.toList)) : ox_X p l e R s m args below meth c Q D y b ro nL pc L st S mr sr := by
  intro H locs cells slots ls hW hS hl h1 h2
  unfold ox_b1 at h
  split at h
  · rename_i x t
    rcases ox_ts_at _ _ h with ⟨o, tg, g1, g2, g3, g4, g5⟩ | ⟨g1, tg, g2, g3⟩
    · exact lv_tableIn hx hb hd g1 (by omega) (by rw [← Array.getElem?_toList]; exact g3) g4 (K _ _ _ _ _ _ g5 H locs cells slots ls hW hS hl h1 h2)
    · exact lv_tableOut hx hb hd (by omega) g2 (K _ _ _ _ _ _ g3 H locs cells slots ls hW hS hl h1 h2)
  · exact h.elim
theorem ox_lks_at {x : Int32} {d : Int} {kk : Nat → Prop} : ∀ (qs : List (Int × Int)), ox_lks pc x d kk qs → ∃ t : Nat, (pc : Int) + Op.lookupswitch.offset qs d x.toInt = (t : Int) ∧ kk t
  | [], h => by
    obtain ⟨t, ht, hk⟩ := ox_go_at h
    exact ⟨t, ht, hk⟩
  | q :: qs, h => by
    by_cases hq : x.toInt = q.1
    · obtain ⟨t, ht, hk⟩ := ox_go_at (h.1 hq)
      exact ⟨t, by simp [Op.lookupswitch.offset, hq]; exact ht, hk⟩
    · obtain ⟨t, ht, hk⟩ := ox_lks_at qs (h.2 hq)
      refine ⟨t, ?_, hk⟩
      rw [← ht]
      have : ¬ q.1 = x.toInt := fun e => hq e.symm
      simp [Op.lookupswitch.offset, this]
theorem ox_o_lookupswitch (hx : p.tables.exec = Jvm.exec) (hb : c.code = cc) (K : ∀ pc L st S mr sr, k pc L st S mr sr → ox_X p l e R s m args below meth c Q D y b ro nL pc L st S mr sr) {d : Int} {qs : Array (Int × Int)} {len : Nat} (hh : (qs.toList.zip (qs.toList.drop 1)).all (fun (a, next) => a.1 < next.1) = true) (hd : decode cc pc = .ok (.lookupswitch d qs, len)) (h : ox_b1 st (fun x t => ox_lks pc x d (fun q => k q L t S mr sr) qs.toList)) : ox_X p l e R s m args below meth c Q D y b ro nL pc L st S mr sr := by
  intro H locs cells slots ls hW hS hl h1 h2
  unfold ox_b1 at h
  split at h
  · obtain ⟨tg, g1, g2⟩ := ox_lks_at _ h
    exact lv_lookup hx hb hd hh rfl g1 (K _ _ _ _ _ _ g2 H locs cells slots ls hW hS hl h1 h2)
  · exact h.elim
end OXA
