/-! rows (arrays), new cells -/
theorem ox_upd_u2 {α : Type} (f : Nat → Nat → α) (a i : Nat) (v : α) : ox_u2 f a i v a = fun j => if j = i then v else f a j := by
  funext j
  simp [ox_u2]
theorem ox_u2_row {α : Type} (f : Nat → Nat → α) {a i q : Nat} (v : α) (h : q ≠ a) : ox_u2 f a i v q = f q := by
  funext j
  simp [ox_u2, h]
theorem ox_z1_row {α : Type} (f : Nat → Nat → α) {a q : Nat} (v : α) (h : q ≠ a) : ox_z1 f a v q = f q := by
  funext j
  simp [ox_z1, h]
theorem ox_ent_wI {y : Nat → ClassId} {S : ox_St} {a i : Nat} {x : Int32} {q : Nat} (h : q ≠ a) : ox_ent y (S.wI a i x) q = ox_ent y S q := by
  have e1 : (S.wI a i x).rI q = S.rI q := ox_u2_row _ _ h
  unfold ox_ent
  rw [e1]
  rfl
theorem ox_ent_wJ {y : Nat → ClassId} {S : ox_St} {a i : Nat} {x : Int64} {q : Nat} (h : q ≠ a) : ox_ent y (S.wJ a i x) q = ox_ent y S q := by
  have e1 : (S.wJ a i x).rJ q = S.rJ q := ox_u2_row _ _ h
  unfold ox_ent
  rw [e1]
  rfl
theorem ox_ent_wR {y : Nat → ClassId} {S : ox_St} {a i : Nat} {x : Nat} {q : Nat} (h : q ≠ a) : ox_ent y (S.wR a i x) q = ox_ent y S q := by
  have e1 : (S.wR a i x).rR q = S.rR q := ox_u2_row _ _ h
  unfold ox_ent
  rw [e1]
  rfl
theorem ox_vpin {i : Int32} {n : Nat} (h : vp_in i n) : ¬ i < 0 ∧ i.toNatClampNeg < n := ⟨fun q => h (Or.inl q), Nat.not_le.mp fun q => h (Or.inr q)⟩
theorem ox_rdR_at {κ : Nat} (h : ox_rdR κ = true) : 18 ≤ κ ∧ κ ≤ 20 := by
  simp only [ox_rdR, Bool.or_eq_true, beq_iff_eq] at h
  omega
section OXF
variable {p : Program} {l : Launch} {e : Env} {R : Room} {s : State} {m : MethodId} {args : Array Value} {below : List Frame} {meth : Method} {c : Code} {Q : State → Prop} {D : va_G} {y : Nat → ClassId} {b nL : Nat} {ro : ox_St} {cc : ByteArray}
variable {pc mr sr : Nat} {L : ox_L} {st : List ox_V} {S : ox_St} {k : ox_K} {own : String} {ps : List Nat} {idx : Nat}
theorem ox_ro_at (hK : ox_KX D y b ro s) {H : Heap} {locs : List Loc} (hW : ox_W D y b ro S H) (hS : va_S (fun q => b ≤ q) s.heap H locs) {a : Nat} (h : 20 < S.K a) : S.K a ≤ 23 ∧ ∃ cell : Cell, H[a - 1]? = some cell ∧ s.isArrayOf cell (ox_rty (S.K a)) ∧ cell.vm ≠ .unknown ∧ cell.slots.size = S.len a ∧ ∀ j, j < S.len a → cell.slots[j]? = some (ox_rov ro a j) := by
  obtain ⟨r1, r2, -, -⟩ := hW.2.2.2.2.1 a h
  rw [r1] at h
  obtain ⟨g1, g2, cell, g3, g4, g5, g6, g7⟩ := hK.2.2.2.2.1 a h
  rw [r1, r2]
  exact ⟨g1, cell, by rw [hS.2.1 (a - 1) (Array.getElem?_eq_some_iff.mp g3).1 (Nat.not_le.mpr g2)]; exact g3, g4, g5, g6, g7⟩
theorem ox_o_iaload (hx : p.tables.exec = Jvm.exec) (hb : c.code = cc) (K : ∀ pc L st S mr sr, k pc L st S mr sr → ox_X p l e R s m args below meth c Q D y b ro nL pc L st S mr sr) (hK : ox_KX D y b ro s) (hd : decode cc pc = .ok (.iaload, 1))
    (h : ox_ai st (fun a i t => ox_rdI (S.K a) = true ∧ vp_in i (S.len a) ∧ k (pc + 1) L (.inl (S.rI a i.toNatClampNeg) :: t) S mr sr)) : ox_X p l e R s m args below meth c Q D y b ro nL pc L st S mr sr := by
  intro H locs cells slots ls hW hS hl h1 h2
  unfold ox_ai at h
  split at h
  · rename_i i a t
    obtain ⟨hk, hin, h⟩ := h
    have h3 := K _ _ _ _ _ _ h H locs cells slots ls hW hS hl h1 h2
    rw [List.map_cons] at h3
    rw [List.map_cons, List.map_cons]
    have hk : S.K a = 15 ∨ S.K a = 21 := by simpa [ox_rdI] using hk
    have h0 : S.K a ≠ 0 := by omega
    rw [show ox_val (.inr (.inr a)) = .ref (a - 1) from ox_rfs (hW.nz h0)]
    rcases hk with hk | hk
    · have hP := hW.at' h0 (by omega)
      rw [ox_ent_i hk] at hP
      exact va_iald hx hb hK.1 hP 0 0 rfl rfl hin hd h3
    · obtain ⟨-, cell, c1, c2, c3, c4, c5⟩ := ox_ro_at hK hW hS (show 20 < S.K a by omega)
      obtain ⟨r1, -, r3, r4⟩ := hW.2.2.2.2.1 a (by omega)
      have ht : ox_rty (S.K a) = .int := by rw [hk]; rfl
      rw [ht] at c2
      obtain ⟨n0, nlt⟩ := ox_vpin hin
      refine W.iald hx hb c1 c2 c3 (by rw [c4]; exact hin) (c5 _ nlt) rfl rfl hd ?_
      have ev : ox_rov ro a i.toNatClampNeg = .int (S.rI a i.toNatClampNeg) := by
        rw [ox_rov, ← r1, hk, r3]
        rfl
      rw [ev]
      exact h3
  · exact h.elim
theorem ox_o_baload (hx : p.tables.exec = Jvm.exec) (hb : c.code = cc) (K : ∀ pc L st S mr sr, k pc L st S mr sr → ox_X p l e R s m args below meth c Q D y b ro nL pc L st S mr sr) (hK : ox_KX D y b ro s) (hd : decode cc pc = .ok (.baload, 1))
    (h : ox_ai st (fun a i t => S.K a = 17 ∧ vp_in i (S.len a) ∧ k (pc + 1) L (.inl (S.rI a i.toNatClampNeg) :: t) S mr sr)) : ox_X p l e R s m args below meth c Q D y b ro nL pc L st S mr sr := by
  intro H locs cells slots ls hW hS hl h1 h2
  unfold ox_ai at h
  split at h
  · rename_i i a t
    obtain ⟨hk, hin, h⟩ := h
    have h0 : S.K a ≠ 0 := by omega
    rw [List.map_cons, List.map_cons, show ox_val (.inr (.inr a)) = .ref (a - 1) from ox_rfs (hW.nz h0)]
    have hP := hW.at' h0 (by omega)
    rw [ox_ent_z hk] at hP
    exact va_zald hx hb hK.1 hP 0 2 rfl rfl hin hd (K _ _ _ _ _ _ h H locs cells slots ls hW hS hl h1 h2)
  · exact h.elim
theorem ox_o_laload (hx : p.tables.exec = Jvm.exec) (hb : c.code = cc) (K : ∀ pc L st S mr sr, k pc L st S mr sr → ox_X p l e R s m args below meth c Q D y b ro nL pc L st S mr sr) (hK : ox_KX D y b ro s) (hd : decode cc pc = .ok (.laload, 1))
    (h : ox_ai st (fun a i t => ox_rdJ (S.K a) = true ∧ vp_in i (S.len a) ∧ k (pc + 1) L (.inr (.inl (S.rJ a i.toNatClampNeg)) :: t) S mr sr)) : ox_X p l e R s m args below meth c Q D y b ro nL pc L st S mr sr := by
  intro H locs cells slots ls hW hS hl h1 h2
  unfold ox_ai at h
  split at h
  · rename_i i a t
    obtain ⟨hk, hin, h⟩ := h
    have h3 := K _ _ _ _ _ _ h H locs cells slots ls hW hS hl h1 h2
    rw [List.map_cons] at h3
    rw [List.map_cons, List.map_cons]
    have hk : S.K a = 16 ∨ S.K a = 22 := by simpa [ox_rdJ] using hk
    have h0 : S.K a ≠ 0 := by omega
    rw [show ox_val (.inr (.inr a)) = .ref (a - 1) from ox_rfs (hW.nz h0)]
    rcases hk with hk | hk
    · have hP := hW.at' h0 (by omega)
      rw [ox_ent_j hk] at hP
      exact va_lald hx hb hK.1 hP 0 1 rfl rfl hin hd h3
    · obtain ⟨-, cell, c1, c2, c3, c4, c5⟩ := ox_ro_at hK hW hS (show 20 < S.K a by omega)
      obtain ⟨r1, -, r3, r4⟩ := hW.2.2.2.2.1 a (by omega)
      have ht : ox_rty (S.K a) = .long := by rw [hk]; rfl
      rw [ht] at c2
      obtain ⟨n0, nlt⟩ := ox_vpin hin
      refine W.lald hx hb c1 c2 c3 (by rw [c4]; exact hin) (c5 _ nlt) rfl rfl hd ?_
      have ev : ox_rov ro a i.toNatClampNeg = .long (S.rJ a i.toNatClampNeg) := by
        rw [ox_rov, ← r1, hk, r4]
        rfl
      rw [ev]
      exact h3
  · exact h.elim
theorem ox_o_aaload (hx : p.tables.exec = Jvm.exec) (hb : c.code = cc) (K : ∀ pc L st S mr sr, k pc L st S mr sr → ox_X p l e R s m args below meth c Q D y b ro nL pc L st S mr sr) (hK : ox_KX D y b ro s) (hd : decode cc pc = .ok (.aaload, 1))
    (h : ox_ai st (fun a i t => ox_rdR (S.K a) = true ∧ vp_in i (S.len a) ∧ k (pc + 1) L (.inr (.inr (S.rR a i.toNatClampNeg)) :: t) S mr sr)) : ox_X p l e R s m args below meth c Q D y b ro nL pc L st S mr sr := by
  intro H locs cells slots ls hW hS hl h1 h2
  unfold ox_ai at h
  split at h
  · rename_i i a t
    obtain ⟨hk, hin, h⟩ := h
    obtain ⟨hk, h20⟩ := ox_rdR_at hk
    have h0 : S.K a ≠ 0 := by omega
    rw [List.map_cons, List.map_cons, show ox_val (.inr (.inr a)) = .ref (a - 1) from ox_rfs (hW.nz h0)]
    have hP := hW.at' h0 h20
    rw [ox_ent_r hk] at hP
    refine va_aldq hx hb hK.1 hP 0 (S.K a - 15) rfl (ox_tys_r hk h20) hin hd ?_
    rw [ox_op_rf]
    exact K _ _ _ _ _ _ h H locs cells slots ls hW hS hl h1 h2
  · exact h.elim
theorem ox_o_arraylength (hx : p.tables.exec = Jvm.exec) (hb : c.code = cc) (K : ∀ pc L st S mr sr, k pc L st S mr sr → ox_X p l e R s m args below meth c Q D y b ro nL pc L st S mr sr) (hK : ox_KX D y b ro s) (hd : decode cc pc = .ok (.arraylength, 1))
    (h : ox_r1 st (fun a t => ox_rdL (S.K a) = true ∧ k (pc + 1) L (.inl (Int32.ofNat (S.len a)) :: t) S mr sr)) : ox_X p l e R s m args below meth c Q D y b ro nL pc L st S mr sr := by
  intro H locs cells slots ls hW hS hl h1 h2
  unfold ox_r1 at h
  split at h
  · rename_i a t
    obtain ⟨hk, h⟩ := h
    have hk : 15 ≤ S.K a ∧ S.K a ≤ 23 := by
      simp only [ox_rdL, Bool.or_eq_true, beq_iff_eq] at hk
      omega
    have h0 : S.K a ≠ 0 := by omega
    rw [List.map_cons, show ox_val (.inr (.inr a)) = .ref (a - 1) from ox_rfs (hW.nz h0)]
    have h3 := K _ _ _ _ _ _ h H locs cells slots ls hW hS hl h1 h2
    by_cases h20 : S.K a ≤ 20
    · have hP := hW.at' h0 h20
      rcases (show S.K a = 15 ∨ S.K a = 16 ∨ S.K a = 17 ∨ 18 ≤ S.K a by omega) with q | q | q | q
      · rw [ox_ent_i q] at hP
        exact va_alen hx hb hK.1 hP 0 0 rfl rfl rfl hd h3
      · rw [ox_ent_j q] at hP
        exact va_alen hx hb hK.1 hP 0 1 rfl rfl rfl hd h3
      · rw [ox_ent_z q] at hP
        exact va_alen hx hb hK.1 hP 0 2 rfl rfl rfl hd h3
      · rw [ox_ent_r q] at hP
        exact va_alen hx hb hK.1 hP 0 (S.K a - 15) rfl (ox_tys_r q h20) rfl hd h3
    · obtain ⟨-, cell, c1, c2, c3, c4, c5⟩ := ox_ro_at hK hW hS (show 20 < S.K a by omega)
      exact W.alen (n := Int32.ofNat (S.len a)) hx hb c1 c2 (by rw [c4]) rfl rfl hd h3
  · exact h.elim
theorem ox_o_iastore (hx : p.tables.exec = Jvm.exec) (hb : c.code = cc) (K : ∀ pc L st S mr sr, k pc L st S mr sr → ox_X p l e R s m args below meth c Q D y b ro nL pc L st S mr sr) (hK : ox_KX D y b ro s) (hd : decode cc pc = .ok (.iastore, 1))
    (h : ox_aii st (fun a i x t => S.K a = 15 ∧ vp_in i (S.len a) ∧ k (pc + 1) L t (S.wI a i.toNatClampNeg x) mr sr)) : ox_X p l e R s m args below meth c Q D y b ro nL pc L st S mr sr := by
  intro H locs cells slots ls hW hS hl h1 h2
  unfold ox_aii at h
  split at h
  · rename_i x i a t
    obtain ⟨hk, hin, h⟩ := h
    have h0 : S.K a ≠ 0 := by omega
    rw [List.map_cons, List.map_cons, List.map_cons, show ox_val (.inr (.inr a)) = .ref (a - 1) from ox_rfs (hW.nz h0)]
    have hP := hW.at' h0 (by omega)
    rw [ox_ent_i hk] at hP
    refine W.iast hx hb (hP 0 _ rfl) ((hK.1.2 0 _ rfl).1 _ _) (fun h => by cases h) (by show ¬ (i < 0 ∨ (arrV _ _ _).slots.size ≤ _); rw [arrV_size]; exact hin) rfl rfl hd fun H1 e1 e2 e3 => ?_
    refine K _ _ _ _ _ _ h H1 _ cells slots ls (hW.put (S' := S.wI a i.toNatClampNeg x) (a := a) h0 (by omega) rfl rfl e2 e3 (fun q hq => ox_ent_wI hq) (fun q hq => ⟨rfl, ox_u2_row _ _ hq, rfl⟩) (fun _ => rfl) ?_) (hS.put e2 e3 (hW.at0 h0 (by omega)).1) hl h1 h2
    rw [ox_ent_i (show (S.wI a i.toNatClampNeg x).K a = 15 from hk)]
    show H1[a - 1]? = some (vp_cell _ _)
    rw [e1]
    show some ((vp_cell _ _).setSlot _ _) = _
    rw [vp_cell_i, vp_cell_i, arrV_store]
    show some (arrV (y 0) (S.len a) _) = some (arrV (y 0) (S.len a) _)
    congr 2
    funext q
    show updV _ _ _ q = Value.int (ox_u2 S.rI a i.toNatClampNeg x a q)
    by_cases hq : q = i.toNatClampNeg
    · subst hq
      simp [updV, ox_u2]
    · simp [updV, ox_u2, hq]
  · exact h.elim
end OXF
