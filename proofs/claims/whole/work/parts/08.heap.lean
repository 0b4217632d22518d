/-! the picture's fields, rows and new cells against the heap -/
theorem ox_KD_len : ox_KD.length = 14 := by decide
theorem ox_kf_lt {κ F : Nat} (h : ox_has κ F = true) : κ ≠ 0 ∧ κ < 15 := by
  have hz : ∀ q, ox_kf q = [] → κ ≠ q := by
    intro q hq e
    subst e
    rw [ox_has, hq] at h
    cases h
  refine ⟨hz 0 rfl, Nat.lt_of_not_le fun hle => ?_⟩
  obtain ⟨k, rfl⟩ : ∃ k, κ = k + 1 := ⟨κ - 1, by omega⟩
  refine hz (k + 1) ?_ rfl
  show (ox_KD.getD k ("", [])).2 = []
  have h1 : ox_KD.length ≤ k := by rw [ox_KD_len]; omega
  rw [List.getD_eq_getElem?_getD, List.getElem?_eq_none h1]
  rfl
theorem ox_has_at {κ F : Nat} (h : ox_has κ F = true) : ∃ k, k < (ox_kf κ).length ∧ (ox_kf κ).getD k 0 = F ∧ (ox_kf κ)[k]? = some F := by
  have hm : F ∈ ox_kf κ := by simpa [ox_has] using h
  obtain ⟨k, hk⟩ := List.getElem?_of_mem hm
  exact ⟨k, (List.getElem?_eq_some_iff.mp hk).1, by rw [List.getD_eq_getElem?_getD, hk]; rfl, hk⟩
def ox_fs (S : ox_St) (a : Nat) : List Value := (ox_kf (S.K a)).map (fun F => ox_val (ox_fv (ox_ft F) F S a))
theorem ox_ent_o {y : Nat → ClassId} {S : ox_St} {a : Nat} (h : S.K a < 15) : ox_ent y S a = .inr (S.K a - 1, ox_fs S a) := by simp [ox_ent, h, ox_fs]
theorem ox_ent_i {y : Nat → ClassId} {S : ox_St} {a : Nat} (h : S.K a = 15) : ox_ent y S a = .inl (y 0, S.len a, .inl (S.rI a)) := by simp [ox_ent, h]
theorem ox_ent_j {y : Nat → ClassId} {S : ox_St} {a : Nat} (h : S.K a = 16) : ox_ent y S a = .inl (y 1, S.len a, .inr (.inl (S.rJ a))) := by simp [ox_ent, h]
theorem ox_ent_z {y : Nat → ClassId} {S : ox_St} {a : Nat} (h : S.K a = 17) : ox_ent y S a = .inl (y 2, S.len a, .inl (S.rI a)) := by simp [ox_ent, h]
theorem ox_ent_r {y : Nat → ClassId} {S : ox_St} {a : Nat} (h : 18 ≤ S.K a) : ox_ent y S a = .inl (y (S.K a - 15), S.len a, .inr (.inr (.inr (.inr (fun j => ox_op (S.rR a j)))))) := by
  unfold ox_ent
  rw [if_neg (by omega), if_neg (by omega), if_neg (by omega), if_neg (by omega)]
def ox_tys (y : Nat → ClassId) : List (ClassId × FieldType) := [(y 0, .int), (y 1, .long), (y 2, .boolean), (y 3, .object "OpcodeFrames$Frame"), (y 4, .object "OpcodeFrames$Value"), (y 5, .object "java/lang/Object")]
def ox_rc (κ : Nat) : String := if κ = 18 then "OpcodeFrames$Frame" else if κ = 19 then "OpcodeFrames$Value" else "java/lang/Object"
theorem ox_tys_r {y : Nat → ClassId} {κ : Nat} (h1 : 18 ≤ κ) (h2 : κ ≤ 20) : (ox_tys y)[κ - 15]? = some (y (κ - 15), .object (ox_rc κ)) := by
  rcases (show κ = 18 ∨ κ = 19 ∨ κ = 20 by omega) with rfl | rfl | rfl <;> rfl
/-- what is known of the machine's tables beside the words -/
def ox_nest : Cond → Bool
  | .fieldLinkNest .. => true
  | .methodLinkNest .. => true
  | .castable .. => true
  | _ => false
def ox_vks : List String := ["OpcodeFrames$Code", "OpcodeFrames$Function", "OpcodeFrames$Num", "OpcodeFrames$Range", "OpcodeFrames$Tuple", "OpcodeFrames$Value", "OpcodeFrames$Walker"]
def ox_nc (q : String × String) : Bool := ox_vks.contains q.1 && ox_vks.contains q.2 && !(q.1 == q.2) && !(q.2 == "OpcodeFrames$Value")
/-- the rows that are only read lie below b, as ro has them; the statics -/
def ox_rty (κ : Nat) : FieldType := if κ = 21 then .int else if κ = 22 then .long else .object "java/lang/Object"
def ox_rov (ro : ox_St) (a j : Nat) : Value := if ro.K a = 21 then .int (ro.rI a j) else if ro.K a = 22 then .long (ro.rJ a j) else .null
def ox_RO (b : Nat) (ro : ox_St) (U : State) : Prop := (∀ a, 20 < ro.K a → ro.K a ≤ 23 ∧ a - 1 < b ∧ ∃ cell : Cell, U.heap[a - 1]? = some cell ∧ U.isArrayOf cell (ox_rty (ro.K a)) ∧ cell.vm ≠ .unknown ∧ cell.slots.size = ro.len a ∧ ∀ j, j < ro.len a → cell.slots[j]? = some (ox_rov ro a j)) ∧
  va_Z "java/util/ArrayList" "DEFAULTCAPACITY_EMPTY_ELEMENTDATA" "[Ljava/lang/Object;" (ox_rf (ro.R 142 0)) (fun q => b ≤ q) U U.heap ∧ va_Z "OpcodeFrames" "NAMES_OF_KINDS" "[J" (ox_rf (ro.R 143 0)) (fun q => b ≤ q) U U.heap
theorem ox_RO.next {b : Nat} {ro : ox_St} {s U : State} (h : ox_RO b ro s) (hvm : s.vm.Alike U.vm) (hq : ∀ q : Nat, q < s.heap.size → ¬ b ≤ q → U.heap[q]? = s.heap[q]?) : ox_RO b ro U := by
  obtain ⟨h1, h2, h3⟩ := h
  refine ⟨fun a ha => ?_, va_Z.moved hvm (va_Z.kept h2 hq), va_Z.moved hvm (va_Z.kept h3 hq)⟩
  obtain ⟨g1, g2, cell, g3, g4, g5⟩ := h1 a ha
  exact ⟨g1, g2, cell, by rw [hq (a - 1) (Array.getElem?_eq_some_iff.mp g3).1 (Nat.not_le.mpr g2)]; exact g3, State.isArrayOf_alike hvm g4, g5⟩
/-- class objects, as the machine's tables have them -/
def va_Ob (D : va_G) (U : State) : Prop := va_Mi "[Ljava/lang/Object;" (D.2 20 0) U ∧ va_Dc U
theorem va_Ob.moved {D : va_G} {u U : State} (hvm : u.vm.Alike U.vm) (h : va_Ob D u) : va_Ob D U := ⟨va_Mi.moved hvm h.1, va_Dc.moved hvm h.2⟩
def ox_KX (D : va_G) (y : Nat → ClassId) (b : Nat) (ro : ox_St) (U : State) : Prop := va_K D ox_cl (ox_tys y) U ∧ (∀ w ∈ lw_tbl, ox_nest w = true → va_Nw w U) ∧ (∀ q, ox_nc q = true → va_Nc q.1 q.2 U) ∧ (∀ κ, 18 ≤ κ → κ ≤ 20 → va_AO (ox_rc κ) U ∧ va_Ob D U) ∧ ox_RO b ro U
section OXB
variable {D : va_G} {y : Nat → ClassId} {b : Nat} {ro S S' : ox_St} {H H' : Heap} {a : Nat}
theorem ox_W.at0 (hW : ox_W D y b ro S H) (h0 : S.K a ≠ 0) (h20 : S.K a ≤ 20) : b ≤ a - 1 ∧ a < S.n ∧ va_at D ox_cl (a - 1, ox_ent y S a) H := hW.2.2.2.1 a h0 h20
theorem ox_W.put (hW : ox_W D y b ro S H) (hk0 : S.K a ≠ 0) (h20 : S.K a ≤ 20) (hn : S'.n = S.n) (hK : S'.K = S.K) (hsz : H'.size = H.size) (ho : ∀ q, q ≠ a - 1 → H'[q]? = H[q]?) (he : ∀ q, q ≠ a → ox_ent y S' q = ox_ent y S q) (hr : ∀ q, q ≠ a → S'.len q = S.len q ∧ S'.rI q = S.rI q ∧ S'.rJ q = S.rJ q) (hst : ∀ F, S'.R F 0 = S.R F 0) (ha : va_at D ox_cl (a - 1, ox_ent y S' a) H') : ox_W D y b ro S' H' := by
  have hz : ∀ q, S.K q ≠ 0 → q ≠ 0 := fun q h => hW.nz h
  obtain ⟨h1, h2, h3, h4, h5, ⟨h6, h7⟩, h8⟩ := hW
  refine ⟨by rw [hsz, h1, hn], h2, by rw [hn]; exact h3, fun q hq hq2 => ?_, fun q hq => ?_, ⟨by rw [hst]; exact h6, by rw [hst]; exact h7⟩, by rw [hK]; exact h8⟩
  · rw [hK] at hq hq2
    rw [hn]
    obtain ⟨g1, g2, g4⟩ := h4 q hq hq2
    refine ⟨g1, g2, ?_⟩
    by_cases hqa : q = a
    · subst hqa; exact ha
    · rw [he q hqa]
      exact g4.kept (ho (q - 1) (by have := hz q hq; have := hz a hk0; omega))
  · rw [hK] at hq ⊢
    obtain ⟨r1, r2, r3⟩ := hr q (fun e => by rw [e] at hq; omega)
    rw [r1, r2, r3]
    exact h5 q hq
theorem ox_W.new (hW : ox_W D y b ro S H) (hn : S'.n = S.n + 1) (hK : ∀ q, q ≠ S.n → S'.K q = S.K q) (hK2 : S'.K S.n ≤ 20) (hsz : H'.size = H.size + 1) (ho : ∀ q, q < H.size → H'[q]? = H[q]?) (he : ∀ q, q ≠ S.n → ox_ent y S' q = ox_ent y S q) (hr : ∀ q, q ≠ S.n → S'.len q = S.len q ∧ S'.rI q = S.rI q ∧ S'.rJ q = S.rJ q) (hst : ∀ F, S'.R F 0 = S.R F 0) (ha : va_at D ox_cl (S.n - 1, ox_ent y S' S.n) H') : ox_W D y b ro S' H' := by
  have hz : ∀ q, S.K q ≠ 0 → q ≠ 0 := fun q h => hW.nz h
  obtain ⟨h1, h2, h3, h4, h5, ⟨h6, h7⟩, h8⟩ := hW
  refine ⟨by rw [hsz, h1, hn], h2, by rw [hn]; omega, fun q hq hq2 => ?_, fun q hq => ?_, ⟨by rw [hst]; exact h6, by rw [hst]; exact h7⟩, by rw [hK 0 (by omega)]; exact h8⟩
  · by_cases hqn : q = S.n
    · subst hqn
      exact ⟨by omega, by rw [hn]; omega, ha⟩
    · rw [hK q hqn] at hq hq2
      obtain ⟨g1, g2, g4⟩ := h4 q hq hq2
      refine ⟨g1, by rw [hn]; omega, ?_⟩
      rw [he q hqn]
      exact g4.kept (ho (q - 1) (by have := hz q hq; omega))
  · have hqn : q ≠ S.n := fun e => by rw [e] at hq; omega
    rw [hK q hqn] at hq ⊢
    obtain ⟨r1, r2, r3⟩ := hr q hqn
    rw [r1, r2, r3]
    exact h5 q hq
theorem ox_W.obj (hW : ox_W D y b ro S H) (h0 : S.K a ≠ 0) (h : S.K a < 15) : va_P D ox_cl [(a - 1, .inr (S.K a - 1, ox_fs S a))] H := by
  intro k q hq
  have hz : k < 1 := (List.getElem?_eq_some_iff.mp hq).1
  rw [show k = 0 by omega] at hq
  cases hq
  have := (hW.at0 h0 (by omega)).2.2
  rw [ox_ent_o h] at this
  exact this
theorem ox_W.at' (hW : ox_W D y b ro S H) (h0 : S.K a ≠ 0) (h20 : S.K a ≤ 20) : va_P D ox_cl [(a - 1, ox_ent y S a)] H := by
  intro k q hq
  have hz : k < 1 := (List.getElem?_eq_some_iff.mp hq).1
  rw [show k = 0 by omega] at hq
  cases hq
  exact (hW.at0 h0 h20).2.2
end OXB
/-- the field's place in its object -/
theorem ox_fs_at {S : ox_St} {a F k : Nat} (hk : (ox_kf (S.K a))[k]? = some F) : (ox_fs S a)[k]? = some (ox_val (ox_fv (ox_ft F) F S a)) := by
  rw [ox_fs, List.getElem?_map, hk]; rfl
theorem ox_T_at {κ F k : Nat} (h : (ox_kf κ).getD k 0 = F) : ox_T κ k = ((ox_fd F).1, (ox_fd F).2.1, (ox_fd F).2.2.1, (ox_fd F).2.2.2.1) := by
  show ((ox_fd ((ox_kf κ).getD k 0)).1, _, _, _) = _
  rw [h]
theorem ox_hin {κ : Nat} (h : κ < 15) : ∀ w ∈ u_ws (ox_kn κ) (ox_T κ) (ox_kf κ).length, w ∈ ox_T0 := by
  intro w hw
  obtain ⟨k, hk, rfl⟩ := List.mem_map.mp hw
  obtain ⟨h1, h2⟩ := ox_lays κ h k (List.mem_range.mp hk)
  exact List.mem_filter.mpr ⟨h1, h2⟩
def ox_ty0 (κ k : Nat) : FieldType := (parseFieldDescriptor (ox_T κ k).2.2.1).getD .int
theorem ox_hty {κ : Nat} (h : κ < 15) : ∀ k, k < (ox_kf κ).length → parseFieldDescriptor (ox_T κ k).2.2.1 = some (ox_ty0 κ k) := by
  intro k hk
  have h1 := ox_fty _ (ox_kfF κ h k hk)
  show parseFieldDescriptor (ox_fd ((ox_kf κ).getD k 0)).2.2.1 = some ((parseFieldDescriptor (ox_fd ((ox_kf κ).getD k 0)).2.2.1).getD .int)
  cases hp : parseFieldDescriptor (ox_fd ((ox_kf κ).getD k 0)).2.2.1 with
  | none => rw [hp] at h1; cases h1
  | some T => rfl
/-! the link of a field's instruction: field, sort, place of the word, nest, class that is named (a kind), place of the word that it is the same field -/
/-- the class that a field's instruction names: the declarer (0), or a kind's -/
def ox_ref (ps : List Nat) : String := if ox_p ps 4 = 0 then (ox_fd (ox_p ps 0)).1 else ox_kn (ox_p ps 4)
def ox_vF (own : String) (idx : Nat) (ps : List Nat) : Bool := ox_p ps 1 == ox_ft (ox_p ps 0) &&
  (if ox_p ps 3 = 0 then decide (lw_tbl[ox_p ps 2]? = some (.fieldLink own idx (ox_ref ps) (ox_fd (ox_p ps 0)).2.1 (ox_fd (ox_p ps 0)).2.2.1))
    else decide (lw_tbl[ox_p ps 2]? = some (.fieldLinkNest own idx (ox_ref ps) (ox_fd (ox_p ps 0)).2.1 (ox_fd (ox_p ps 0)).2.2.1 "OpcodeFrames"))) &&
  (decide (ox_ref ps = (ox_fd (ox_p ps 0)).1) || decide (lw_tbl[ox_p ps 5]? = some (.sameField (ox_ref ps) (ox_fd (ox_p ps 0)).1 (ox_fd (ox_p ps 0)).2.1 (ox_fd (ox_p ps 0)).2.2.1)))
section OXC
variable {p : Program} {l : Launch} {e : Env} {R : Room} {s : State} {m : MethodId} {args : Array Value} {below : List Frame} {meth : Method} {c : Code} {Q : State → Prop} {D : va_G} {y : Nat → ClassId} {b nL : Nat} {ro : ox_St} {cc : ByteArray}
variable {pc mr sr : Nat} {L : ox_L} {st : List ox_V} {S : ox_St} {k : ox_K} {own : String} {ps : List Nat} {idx : Nat}
theorem ox_same (hts : ∀ w ∈ ox_T0, w.before args s = true) (hv : ox_vF own idx ps = true) : ∀ x, s.fieldFound? (ox_fd (ox_p ps 0)).1 (ox_fd (ox_p ps 0)).2.1 (ox_fd (ox_p ps 0)).2.2.1 = some x → s.fieldFound? (ox_ref ps) (ox_fd (ox_p ps 0)).2.1 (ox_fd (ox_p ps 0)).2.2.1 = some x := by
  intro x hx
  simp only [ox_vF, Bool.and_eq_true, Bool.or_eq_true, decide_eq_true_eq] at hv
  rcases hv.2 with h | h
  · rw [h]; exact hx
  · exact u_same (hts _ (ox_in h rfl)) x hx
theorem ox_o_getfield (hx : p.tables.exec = Jvm.exec) (hb : c.code = cc) (K : ∀ pc L st S mr sr, k pc L st S mr sr → ox_X p l e R s m args below meth c Q D y b ro nL pc L st S mr sr) (hown : s.vm.findClass own = some m.cls) (hts : ∀ w ∈ ox_T0, w.before args s = true) (hK : ox_KX D y b ro s) (hv : ox_vF own idx ps = true) (hd : decode cc pc = .ok (.getfield idx, 3))
    (h : ox_r1 st (fun a t => ox_has (S.K a) (ox_p ps 0) = true ∧ k (pc + 3) L (ox_fv (ox_p ps 1) (ox_p ps 0) S a :: t) S mr sr)) : ox_X p l e R s m args below meth c Q D y b ro nL pc L st S mr sr := by
  intro H locs cells slots ls hW hS hl h1 h2
  unfold ox_r1 at h
  split at h
  · rename_i a t
    obtain ⟨hh, hk⟩ := h
    obtain ⟨hk0, hk15⟩ := ox_kf_lt hh
    obtain ⟨j, hj, hj2, hj3⟩ := ox_has_at hh
    have hT := ox_T_at hj2
    have hsame := ox_same hts hv
    have hty : ox_p ps 1 = ox_ft (ox_p ps 0) := by
      simp only [ox_vF, Bool.and_eq_true, beq_iff_eq] at hv
      exact hv.1.1
    rw [List.map_cons, show ox_val (.inr (.inr a)) = .ref (a - 1) from ox_rfs (hW.nz hk0)]
    have h3 := K _ _ _ _ _ _ hk H locs cells slots ls hW hS hl h1 h2
    have hval := ox_fs_at (S := S) hj3
    rw [hty] at h3
    by_cases hn : ox_p ps 3 = 0
    · have hlink : lw_tbl[ox_p ps 2]? = some (.fieldLink own idx (ox_ref ps) (ox_fd (ox_p ps 0)).2.1 (ox_fd (ox_p ps 0)).2.2.1) := by
        simp only [ox_vF, Bool.and_eq_true, hn, if_true, decide_eq_true_eq] at hv
        exact hv.1.2
      exact va_get (D := D) (ci := S.K a - 1) (ref := ox_ref ps) (C := ox_kn (S.K a)) (T := ox_T (S.K a)) (N := (ox_kf (S.K a)).length) hx hb hts (ox_hin hk15) hown hK.1 (hW.obj hk0 hk15) 0 rfl (ox_cl_at hk0 hk15) j hj (by rw [hT]; exact hts _ (ox_in hlink rfl)) (by rw [hT]; exact hsame) hval hd h3
    · have hlink : lw_tbl[ox_p ps 2]? = some (.fieldLinkNest own idx (ox_ref ps) (ox_fd (ox_p ps 0)).2.1 (ox_fd (ox_p ps 0)).2.2.1 "OpcodeFrames") := by
        simp only [ox_vF, Bool.and_eq_true, if_neg hn, decide_eq_true_eq] at hv
        exact hv.1.2
      exact va_getN (D := D) (ci := S.K a - 1) (ref := ox_ref ps) (host := "OpcodeFrames") (C := ox_kn (S.K a)) (T := ox_T (S.K a)) (N := (ox_kf (S.K a)).length) hx hb hts (ox_hin hk15) hown hK.1 (hW.obj hk0 hk15) 0 rfl (ox_cl_at hk0 hk15) j hj (by rw [hT]; exact va_Nw.use rfl (hK.2.1 _ (List.mem_of_getElem? hlink) rfl)) (by rw [hT]; exact hsame) hval hd h3
  · exact h.elim
end OXC
