/-! stores in rows, new cells, casts, constants -/
set_option maxRecDepth 100000 in
theorem ox_cs : ∀ κ, κ < 15 → ox_isV κ = true → κ ≠ 11 → (Cond.castable (ox_kn κ) "OpcodeFrames$Value") ∈ lw_tbl := by decide +kernel
set_option maxRecDepth 100000 in
theorem ox_cs3 : (Cond.castable "OpcodeFrames$Code" "java/lang/Object") ∈ lw_tbl := by decide +kernel
theorem ox_isV_lt {κ : Nat} (h : ox_isV κ = true) : κ ≠ 0 ∧ κ < 15 := by
  have : κ ∈ [3, 5, 8, 9, 10, 11, 12] := by simpa [ox_isV] using h
  simp at this
  omega
def ox_vN (own : String) (idx : Nat) (ps : List Nat) : Bool := decide (ox_p ps 0 ≠ 0 ∧ ox_p ps 0 < 15) && decide (lw_tbl[ox_p ps 1]? = some (.classLink own idx (ox_kn (ox_p ps 0)))) && decide (lw_tbl[ox_p ps 2]? = some (.instantiable (ox_kn (ox_p ps 0)) (ox_kf (ox_p ps 0)).length)) && decide (lw_tbl[ox_p ps 3]? = some (.initialized (ox_kn (ox_p ps 0))))
def ox_at : ClassFile.ArrayType → Nat
  | .int => 15
  | .long => 16
  | .boolean => 17
  | _ => 0
def ox_vA (t : ClassFile.ArrayType) (ps : List Nat) : Bool := decide (ox_at t = ox_p ps 0 ∧ ox_p ps 0 ≠ 0) && decide (lw_tbl[ox_p ps 1]? = some (.arrayClass (newarray.typeOf t)))
def ox_vQ (own : String) (idx : Nat) (ps : List Nat) : Bool := decide (18 ≤ ox_p ps 0 ∧ ox_p ps 0 ≤ 20) && decide (lw_tbl[ox_p ps 1]? = some (.classLink own idx (ox_rc (ox_p ps 0))))
def ox_vI (own : String) (idx : Nat) (ps : List Nat) : Bool := decide (ps.drop 1 = [ox_p ps 1]) && ox_isV (ox_p ps 1) && decide (ox_p ps 1 ≠ 11) && decide (lw_tbl[ox_p ps 0]? = some (.classLink own idx (ox_kn (ox_p ps 1))))
def ox_vC (own : String) (idx : Nat) (ps : List Nat) : Bool := decide (lw_tbl[ox_p ps 0]? = some (.constant own idx (Int32.ofNat (ox_p ps 1))))
def ox_vD (own : String) (idx : Nat) (ps : List Nat) : Bool := decide (lw_tbl[ox_p ps 0]? = some (.constantLong own idx (Int64.ofNat (ox_p ps 1))))
set_option maxRecDepth 100000 in
theorem ox_ncd0 : ∀ κ ∈ List.range 15, ∀ j ∈ List.range 15, (!(ox_isV κ && ox_isV j && !(κ == j) && !(j == 11)) || ox_nc (ox_kn κ, ox_kn j)) = true := by decide +kernel
theorem ox_ncd (κ : Nat) (h1 : κ < 15) (j : Nat) (h2 : j < 15) (h3 : ox_isV κ = true) (h4 : ox_isV j = true) (h5 : ¬ κ = j) (h6 : j ≠ 11) : ox_nc (ox_kn κ, ox_kn j) = true := by
  have h7 := ox_ncd0 κ (List.mem_range.mpr h1) j (List.mem_range.mpr h2)
  simpa [h3, h4, h5, h6] using h7
section OXG
variable {p : Program} {l : Launch} {e : Env} {R : Room} {s : State} {m : MethodId} {args : Array Value} {below : List Frame} {meth : Method} {c : Code} {Q : State → Prop} {D : va_G} {y : Nat → ClassId} {b nL : Nat} {ro : ox_St} {cc : ByteArray}
variable {pc mr sr : Nat} {L : ox_L} {st : List ox_V} {S : ox_St} {k : ox_K} {own : String} {ps : List Nat} {idx : Nat}
theorem ox_assign (hK : ox_KX D y b ro s) {κ v : Nat} (h1 : 18 ≤ κ) (h2 : κ ≤ 20) (h : ox_asg κ v = true) {comp : ClassId} (hc : s.vm.findClass (ox_rc κ) = some comp) : v ≠ 0 ∧ v < 15 ∧ s.vm.assignable (D.1 (v - 1)) comp = true := by
  have same : ∀ v, v ≠ 0 → v < 15 → ox_kn v = ox_rc κ → s.vm.assignable (D.1 (v - 1)) comp = true := by
    intro v a1 a2 a3
    have hcl : ClassAt s (ox_kn v) (D.1 (v - 1)) := (hK.1.1 (v - 1) _ (ox_cl_at a1 a2)).2
    have e1 : D.1 (v - 1) = comp := by
      have := hcl.1
      rw [a3, hc] at this
      exact (Option.some.inj this).symm
    rw [← e1]
    exact va_assign hcl
  have cast : ∀ v, v ≠ 0 → v < 15 → (Cond.castable (ox_kn v) (ox_rc κ)) ∈ lw_tbl → s.vm.assignable (D.1 (v - 1)) comp = true := by
    intro v a1 a2 a3
    have hcl : ClassAt s (ox_kn v) (D.1 (v - 1)) := (hK.1.1 (v - 1) _ (ox_cl_at a1 a2)).2
    obtain ⟨c0, t1, f1, f2, f3⟩ := Cond.castable_spec (va_Nw.use (A := #[]) rfl (hK.2.1 _ a3 rfl))
    cases hcl.1.symm.trans f1
    cases hc.symm.trans f2
    exact f3
  rcases (show κ = 18 ∨ κ = 19 ∨ κ = 20 by omega) with rfl | rfl | rfl
  · have hv : v = 4 := by simpa [ox_asg] using h
    subst hv
    exact ⟨by decide, by decide, same 4 (by decide) (by decide) rfl⟩
  · have hv : ox_isV v = true := by simpa [ox_asg] using h
    obtain ⟨a1, a2⟩ := ox_isV_lt hv
    refine ⟨a1, a2, ?_⟩
    by_cases h11 : v = 11
    · subst h11
      exact same 11 (by decide) (by decide) rfl
    · exact cast v a1 a2 (ox_cs v a2 hv h11)
  · have hv : v = 3 := by simpa [ox_asg] using h
    subst hv
    exact ⟨by decide, by decide, cast 3 (by decide) (by decide) ox_cs3⟩
theorem ox_o_bastore (hx : p.tables.exec = Jvm.exec) (hb : c.code = cc) (K : ∀ pc L st S mr sr, k pc L st S mr sr → ox_X p l e R s m args below meth c Q D y b ro nL pc L st S mr sr) (hK : ox_KX D y b ro s) (hd : decode cc pc = .ok (.bastore, 1)) (h : ox_aii st (fun a i x t => S.K a = 17 ∧ vp_in i (S.len a) ∧ k (pc + 1) L t (S.wI a i.toNatClampNeg (vp_nar .boolean x)) mr sr)) : ox_X p l e R s m args below meth c Q D y b ro nL pc L st S mr sr := by
  intro H locs cells slots ls hW hS hl h1 h2
  unfold ox_aii at h
  split at h
  · rename_i x i a t
    obtain ⟨hk, hin, h⟩ := h
    have h0 : S.K a ≠ 0 := by omega
    rw [List.map_cons, List.map_cons, List.map_cons, show ox_val (.inr (.inr a)) = .ref (a - 1) from ox_rfs (hW.nz h0)]
    have hP := hW.at' h0 (by omega)
    rw [ox_ent_z hk] at hP
    refine W.zast hx hb (hP 0 _ rfl) ((hK.1.2 2 _ rfl).1 _ _) (fun h => by cases h) (by show ¬ (i < 0 ∨ (arrV _ _ _).slots.size ≤ _); rw [arrV_size]; exact hin) rfl rfl hd fun H1 e1 e2 e3 => ?_
    refine K _ _ _ _ _ _ h H1 _ cells slots ls (hW.put (S' := S.wI a i.toNatClampNeg (vp_nar .boolean x)) (a := a) h0 (by omega) rfl rfl e2 e3 (fun q hq => ox_ent_wI hq) (fun q hq => ⟨rfl, ox_u2_row _ _ hq, rfl⟩) (fun _ => rfl) ?_) (hS.put e2 e3 (hW.at0 h0 (by omega)).1) hl h1 h2
    rw [ox_ent_z (show (S.wI a i.toNatClampNeg (vp_nar .boolean x)).K a = 17 from hk)]
    show H1[a - 1]? = some (vp_cell _ _)
    rw [e1]
    show some ((vp_cell _ _).setSlot _ _) = _
    rw [vp_cell_i, vp_cell_i, arrV_store]
    show some (arrV (y 2) (S.len a) _) = some (arrV (y 2) (S.len a) _)
    congr 2
    funext q
    show updV _ _ _ q = Value.int (ox_u2 S.rI a i.toNatClampNeg (vp_nar .boolean x) a q)
    by_cases hq : q = i.toNatClampNeg
    · subst hq
      simp [updV, ox_u2]
      rfl
    · simp [updV, ox_u2, hq]
  · exact h.elim
theorem ox_o_lastore (hx : p.tables.exec = Jvm.exec) (hb : c.code = cc) (K : ∀ pc L st S mr sr, k pc L st S mr sr → ox_X p l e R s m args below meth c Q D y b ro nL pc L st S mr sr) (hK : ox_KX D y b ro s) (hd : decode cc pc = .ok (.lastore, 1)) (h : ox_ail st (fun a i x t => S.K a = 16 ∧ vp_in i (S.len a) ∧ k (pc + 1) L t (S.wJ a i.toNatClampNeg (x)) mr sr)) : ox_X p l e R s m args below meth c Q D y b ro nL pc L st S mr sr := by
  intro H locs cells slots ls hW hS hl h1 h2
  unfold ox_ail at h
  split at h
  · rename_i x i a t
    obtain ⟨hk, hin, h⟩ := h
    have h0 : S.K a ≠ 0 := by omega
    rw [List.map_cons, List.map_cons, List.map_cons, show ox_val (.inr (.inr a)) = .ref (a - 1) from ox_rfs (hW.nz h0)]
    have hP := hW.at' h0 (by omega)
    rw [ox_ent_j hk] at hP
    refine W.last hx hb (hP 0 _ rfl) ((hK.1.2 1 _ rfl).1 _ _) (fun h => by cases h) (by show ¬ (i < 0 ∨ (arrV _ _ _).slots.size ≤ _); rw [arrV_size]; exact hin) rfl rfl hd fun H1 e1 e2 e3 => ?_
    refine K _ _ _ _ _ _ h H1 _ cells slots ls (hW.put (S' := S.wJ a i.toNatClampNeg (x)) (a := a) h0 (by omega) rfl rfl e2 e3 (fun q hq => ox_ent_wJ hq) (fun q hq => ⟨rfl, rfl, ox_u2_row _ _ hq⟩) (fun _ => rfl) ?_) (hS.put e2 e3 (hW.at0 h0 (by omega)).1) hl h1 h2
    rw [ox_ent_j (show (S.wJ a i.toNatClampNeg (x)).K a = 16 from hk)]
    show H1[a - 1]? = some (vp_cell _ _)
    rw [e1]
    show some ((vp_cell _ _).setSlot _ _) = _
    rw [vp_cell_l, vp_cell_l, arrV_store]
    show some (arrV (y 1) (S.len a) _) = some (arrV (y 1) (S.len a) _)
    congr 2
    funext q
    show updV _ _ _ q = Value.long (ox_u2 S.rJ a i.toNatClampNeg (x) a q)
    by_cases hq : q = i.toNatClampNeg
    · subst hq
      simp [updV, ox_u2]
    · simp [updV, ox_u2, hq]
  · exact h.elim
theorem ox_o_aastore (hx : p.tables.exec = Jvm.exec) (hb : c.code = cc) (K : ∀ pc L st S mr sr, k pc L st S mr sr → ox_X p l e R s m args below meth c Q D y b ro nL pc L st S mr sr) (hK : ox_KX D y b ro s) (hd : decode cc pc = .ok (.aastore, 1)) (h : ox_aia st (fun a i x t => ox_rdR (S.K a) = true ∧ vp_in i (S.len a) ∧ (x = 0 ∨ ox_asg (S.K a) (S.K x) = true) ∧ k (pc + 1) L t (S.wR a i.toNatClampNeg x) mr sr)) : ox_X p l e R s m args below meth c Q D y b ro nL pc L st S mr sr := by
  intro H locs cells slots ls hW hS hl h1 h2
  unfold ox_aia at h
  split at h
  · rename_i x i a t
    obtain ⟨hk, hin, hasg, h⟩ := h
    obtain ⟨hk, h20⟩ := ox_rdR_at hk
    have h0 : S.K a ≠ 0 := by omega
    rw [List.map_cons, List.map_cons, List.map_cons, show ox_val (.inr (.inr a)) = .ref (a - 1) from ox_rfs (hW.nz h0)]
    have hP := hW.at' h0 h20
    rw [ox_ent_r hk] at hP
    have ht := ox_tys_r (y := y) hk h20
    have fin : ∀ H1 : Heap, H1[a - 1]? = some ((arrV (y (S.K a - 15)) (S.len a) (fun j => va_rf (ox_op (S.rR a j)))).setSlot i.toNatClampNeg (ox_rf x)) → H1.size = H.size → (∀ q, q ≠ a - 1 → H1[q]? = H[q]?) → W p l e R s m args below meth c H1 (locs ++ [⟨a - 1, i.toNatClampNeg⟩]) cells slots Q (F0 m (pc + 1) ls (t.map ox_val)) := by
      intro H1 e1 e2 e3
      refine K _ _ _ _ _ _ h H1 _ cells slots ls (hW.put (S' := S.wR a i.toNatClampNeg x) (a := a) h0 h20 rfl rfl e2 e3 (fun q hq => ox_ent_wR hq) (fun q hq => ⟨rfl, rfl, rfl⟩) (fun _ => rfl) ?_) (hS.put e2 e3 (hW.at0 h0 (by omega)).1) hl h1 h2
      rw [ox_ent_r (show 18 ≤ (S.wR a i.toNatClampNeg x).K a from hk)]
      show H1[a - 1]? = some (vp_cell _ _)
      rw [e1, vp_cell_q, arrV_store]
      show some (arrV (y (S.K a - 15)) (S.len a) _) = some (arrV (y (S.K a - 15)) (S.len a) _)
      congr 2
      funext q
      show updV _ _ _ q = va_rf (ox_op (ox_u2 S.rR a i.toNatClampNeg x a q))
      by_cases hq : q = i.toNatClampNeg
      · subst hq
        simp [updV, ox_u2, ox_op_rf]
      · simp [updV, ox_u2, hq]
    by_cases hz : x = 0
    · subst hz
      exact va_WaastN hx hb (hP 0 _ rfl) ((hK.1.2 _ _ ht).1 _ _) (fun h => by cases h) (by show ¬ (i < 0 ∨ (arrV _ _ _).slots.size ≤ _); rw [arrV_size]; exact hin) rfl rfl hd fun H1 e1 e2 e3 => fin H1 e1 e2 e3
    · rw [show ox_val (.inr (.inr x)) = .ref (x - 1) from ox_rfs hz]
      obtain ⟨kA, comp, k1, k2, k3, -⟩ := (hK.1.2 _ _ ht).2
      obtain ⟨kE, hkE, -⟩ := Vm.findClass_spec k3
      obtain ⟨a1, a2, a3⟩ := ox_assign hK hk h20 (hasg.resolve_left hz) k3
      obtain ⟨r', hr', cellV, g1, g2, g3, -⟩ := hW.obj a1 a2 0 _ rfl
      obtain ⟨kC, hkC, -⟩ := (hK.1.1 _ _ (ox_cl_at a1 a2)).2.2
      obtain ⟨n0, nlt⟩ := ox_vpin hin
      exact W.aast hx hb (hP 0 _ rfl) (fun q h => by cases h) (fun h => by cases h) k1 k2 rfl hkE ⟨n0, by show _ < (arrV _ _ _).slots.size; rw [arrV_size]; exact nlt⟩ g1 (fun q h => by rw [g3] at h; cases h) (by rw [g2]; exact hkC) (by rw [g2]; exact a3) rfl rfl hd fun H1 e1 e2 e3 => fin H1 (by rw [ox_rfs hz]; exact e1) e2 e3
  · exact h.elim
theorem ox_ent_newO {y : Nat → ClassId} {S : ox_St} {κ q : Nat} (h : q ≠ S.n) : ox_ent y (S.newO κ) q = ox_ent y S q := by
  have e1 : (S.newO κ).K q = S.K q := if_neg h
  unfold ox_ent
  rw [e1]
  have e2 : (fun F => ox_val (ox_fv (ox_ft F) F (S.newO κ) q)) = fun F => ox_val (ox_fv (ox_ft F) F S q) := by
    funext F
    have i1 : (S.newO κ).I F q = S.I F q := if_neg h
    have i2 : (S.newO κ).R F q = S.R F q := if_neg h
    have i3 : (S.newO κ).J F q = S.J F q := if_neg h
    unfold ox_fv
    rw [i1, i2, i3]
  rw [e2]
  rfl
theorem ox_ent_newA {y : Nat → ClassId} {S : ox_St} {κ N q : Nat} (h : q ≠ S.n) : ox_ent y (S.newA κ N) q = ox_ent y S q := by
  have e1 : (S.newA κ N).K q = S.K q := if_neg h
  have e2 : (S.newA κ N).len q = S.len q := if_neg h
  have e3 : (S.newA κ N).rI q = S.rI q := ox_z1_row _ _ h
  have e4 : (S.newA κ N).rJ q = S.rJ q := ox_z1_row _ _ h
  have e5 : (S.newA κ N).rR q = S.rR q := ox_z1_row _ _ h
  unfold ox_ent
  rw [e1, e2, e3, e4, e5]
  rfl
theorem ox_dv {κ : Nat} (h : κ < 15) {S : ox_St} (hk : S.K S.n = 0 ∨ True) : ∀ j, j < (ox_kf κ).length → defaultValue (ox_ty0 κ j) = vp_V ((ox_kf κ).map (fun F => ox_val (ox_fv (ox_ft F) F (S.newO κ) S.n))) j := by
  intro j hj
  have hF := ox_kfF κ h j hj
  have h1 := ox_fty _ hF
  have h3 := ox_ft3 _ hF
  have h2 := ox_hty h j hj
  have hT : (ox_T κ j).2.2.1 = (ox_fd ((ox_kf κ).getD j 0)).2.2.1 := rfl
  rw [← hT, h2] at h1
  have h4 : ox_ftk (ox_ty0 κ j) = ox_ft ((ox_kf κ).getD j 0) := Option.some.inj h1
  have hg : (ox_kf κ)[j]? = some ((ox_kf κ).getD j 0) := by rw [List.getD_eq_getElem?_getD, List.getElem?_eq_getElem hj]; rfl
  have hv : vp_V ((ox_kf κ).map (fun F => ox_val (ox_fv (ox_ft F) F (S.newO κ) S.n))) j = ox_val (ox_fv (ox_ft ((ox_kf κ).getD j 0)) ((ox_kf κ).getD j 0) (S.newO κ) S.n) := by
    rw [vp_V, List.getD_eq_getElem?_getD, List.getElem?_map, hg]
    rfl
  rw [hv, ← h4]
  rw [← h4] at h3
  generalize (ox_kf κ).getD j 0 = F
  have i1 : (S.newO κ).I F S.n = 0 := if_pos rfl
  have i2 : (S.newO κ).R F S.n = 0 := if_pos rfl
  have i3 : (S.newO κ).J F S.n = 0 := if_pos rfl
  generalize ox_ty0 κ j = T at h3 ⊢
  cases T <;> simp [ox_ftk] at h3 <;> simp [ox_ftk, ox_fv, i1, i2, i3, ox_val, ox_rf, defaultValue]
theorem ox_o_new (hx : p.tables.exec = Jvm.exec) (hb : c.code = cc) (K : ∀ pc L st S mr sr, k pc L st S mr sr → ox_X p l e R s m args below meth c Q D y b ro nL pc L st S mr sr) (hown : s.vm.findClass own = some m.cls) (hts : ∀ w ∈ ox_T0, w.before args s = true) (hK : ox_KX D y b ro s) (hv : ox_vN own idx ps = true) (hd : decode cc pc = .ok (.new idx, 3)) (h : 1 ≤ mr ∧ (ox_kf (ox_p ps 0)).length ≤ sr ∧ k (pc + 3) L (.inr (.inr S.n) :: st) (S.newO (ox_p ps 0)) (mr - 1) (sr - (ox_kf (ox_p ps 0)).length)) : ox_X p l e R s m args below meth c Q D y b ro nL pc L st S mr sr := by
  intro H locs cells slots ls hW hS hl h1 h2
  obtain ⟨hm, hs, h⟩ := h
  simp only [ox_vN, Bool.and_eq_true, decide_eq_true_eq] at hv
  obtain ⟨⟨⟨⟨k0, k15⟩, w1⟩, w2⟩, w3⟩ := hv
  have hc := ox_cl_at k0 k15
  have hKn := hK.1.1 _ _ hc
  have hn0 : S.n ≠ 0 := by have h9 := hW.2.1; have h8 := hW.2.2.1; omega
  have hN : H.size = S.n - 1 := by have := hW.1; omega
  refine W.newcK hx hb hown (hts _ (ox_in w1 rfl)) (hts _ (ox_in w2 rfl)) (hts _ (ox_in w3 rfl)) rfl hd (by omega) (by omega) hKn.2.1 hN fun H1 kC hkC e1 z1 o1 => ?_
  have z1' : H1.size = H.size + 1 := by omega
  have h3 := K _ _ _ _ _ _ h H1 locs (cells + 1) (slots + (ox_kf (ox_p ps 0)).length) ls ?_ ?_ hl (by omega) (by omega)
  · rw [List.map_cons, show ox_val (.inr (.inr S.n)) = .ref (S.n - 1) from ox_rfs hn0] at h3
    exact h3
  · refine hW.new (S' := S.newO (ox_p ps 0)) rfl (fun q hq => if_neg hq) (by show ox_u1 S.K S.n _ S.n ≤ 20; rw [show ox_u1 S.K S.n (ox_p ps 0) S.n = ox_p ps 0 from if_pos rfl]; omega) z1' (fun q hq => o1 q (by rw [← hN]; exact hq)) (fun q hq => ox_ent_newO hq) (fun q _ => ⟨rfl, rfl, rfl⟩) (fun F => if_neg (fun e => hn0 e.symm)) ?_
    have ek : (S.newO (ox_p ps 0)).K S.n = ox_p ps 0 := if_pos rfl
    rw [ox_ent_o (by rw [ek]; exact k15), ox_fs, ek]
    exact ⟨_, hc, (u_born (ox_ty0 (ox_p ps 0)) hts (ox_hin k15) hKn hkC e1 (ox_hty k15)).to (ox_dv k15 (Or.inr trivial))⟩
  · have hs1 := hW.1
    exact ⟨Nat.le_trans hS.1 (by omega), fun q g1 g2 => (o1 q (by have := hS.1; omega)).trans (hS.2.1 q g1 g2), hS.2.2⟩
theorem ox_o_newarray (hx : p.tables.exec = Jvm.exec) (hb : c.code = cc) (K : ∀ pc L st S mr sr, k pc L st S mr sr → ox_X p l e R s m args below meth c Q D y b ro nL pc L st S mr sr) (hts : ∀ w ∈ ox_T0, w.before args s = true) (hK : ox_KX D y b ro s) {at_ : ClassFile.ArrayType} (hv : ox_vA at_ ps = true) (hd : decode cc pc = .ok (.newarray at_, 2)) (h : ox_b1 st (fun n t => ¬ n < 0 ∧ n.toNatClampNeg ≤ 67108864 ∧ 1 ≤ mr ∧ n.toNatClampNeg ≤ sr ∧ k (pc + 2) L (.inr (.inr S.n) :: t) (S.newA (ox_p ps 0) n.toNatClampNeg) (mr - 1) (sr - n.toNatClampNeg))) : ox_X p l e R s m args below meth c Q D y b ro nL pc L st S mr sr := by
  intro H locs cells slots ls hW hS hl h1 h2
  unfold ox_b1 at h
  split at h
  · rename_i n t
    obtain ⟨hn, hbig, hm, hs, h⟩ := h
    simp only [ox_vA, Bool.and_eq_true, decide_eq_true_eq] at hv
    obtain ⟨⟨k0, k1⟩, w1⟩ := hv
    have hn0 : S.n ≠ 0 := by have h9 := hW.2.1; have h8 := hW.2.2.1; omega
    have hN : H.size = S.n - 1 := by have := hW.1; omega
    have hbytes : n.toNatClampNeg * componentBytes (newarray.typeOf at_) ≤ 536870912 := by
      cases at_ <;> simp [newarray.typeOf, componentBytes] <;> omega
    refine va_newaK hx hb (hts _ (ox_in w1 rfl)) rfl hd rfl hn rfl hbytes (by omega) (by omega) hN fun H1 cA e1 z1 o1 hAr hNm => ?_
    have z1' : H1.size = H.size + 1 := by omega
    have h3 := K _ _ _ _ _ _ h H1 locs (cells + 1) (slots + n.toNatClampNeg) ls ?_ ?_ hl (by omega) (by omega)
    · rw [List.map_cons, show ox_val (.inr (.inr S.n)) = .ref (S.n - 1) from ox_rfs hn0] at h3
      exact h3
    · have ek : (S.newA (ox_p ps 0) n.toNatClampNeg).K S.n = ox_p ps 0 := if_pos rfl
      have el : (S.newA (ox_p ps 0) n.toNatClampNeg).len S.n = n.toNatClampNeg := if_pos rfl
      have e3 : (S.newA (ox_p ps 0) n.toNatClampNeg).rI S.n = fun _ => 0 := by funext j; exact if_pos rfl
      have e4 : (S.newA (ox_p ps 0) n.toNatClampNeg).rJ S.n = fun _ => 0 := by funext j; exact if_pos rfl
      refine hW.new (S' := S.newA (ox_p ps 0) n.toNatClampNeg) rfl (fun q hq => if_neg hq) (by rw [ek, ← k0]; cases at_ <;> decide) z1' (fun q hq => o1 q (by rw [← hN]; exact hq)) (fun q hq => ox_ent_newA hq) (fun q hq => ⟨if_neg hq, ox_z1_row _ _ hq, ox_z1_row _ _ hq⟩) (fun F => rfl) ?_
      cases at_ <;> simp [ox_at] at k0 <;> first | (exact absurd k0.symm k1) | skip
      · rw [ox_ent_z (by rw [ek, ← k0]), el, e3]
        have : cA = y 2 := Option.some.inj (hNm.symm.trans (hK.1.2 2 _ rfl).2)
        subst this
        exact e1
      · rw [ox_ent_i (by rw [ek, ← k0]), el, e3]
        have : cA = y 0 := Option.some.inj (hNm.symm.trans (hK.1.2 0 _ rfl).2)
        subst this
        exact e1
      · rw [ox_ent_j (by rw [ek, ← k0]), el, e4]
        have : cA = y 1 := Option.some.inj (hNm.symm.trans (hK.1.2 1 _ rfl).2)
        subst this
        exact e1
    · have hs1 := hW.1
      exact ⟨Nat.le_trans hS.1 (by omega), fun q g1 g2 => (o1 q (by have := hS.1; omega)).trans (hS.2.1 q g1 g2), hS.2.2⟩
  · exact h.elim
theorem ox_o_anewarray (hx : p.tables.exec = Jvm.exec) (hb : c.code = cc) (K : ∀ pc L st S mr sr, k pc L st S mr sr → ox_X p l e R s m args below meth c Q D y b ro nL pc L st S mr sr) (hown : s.vm.findClass own = some m.cls) (hts : ∀ w ∈ ox_T0, w.before args s = true) (hK : ox_KX D y b ro s) (hv : ox_vQ own idx ps = true) (hd : decode cc pc = .ok (.anewarray idx, 3)) (h : ox_b1 st (fun n t => ¬ n < 0 ∧ n.toNatClampNeg ≤ 67108864 ∧ 1 ≤ mr ∧ n.toNatClampNeg ≤ sr ∧ k (pc + 3) L (.inr (.inr S.n) :: t) (S.newA (ox_p ps 0) n.toNatClampNeg) (mr - 1) (sr - n.toNatClampNeg))) : ox_X p l e R s m args below meth c Q D y b ro nL pc L st S mr sr := by
  intro H locs cells slots ls hW hS hl h1 h2
  unfold ox_b1 at h
  split at h
  · rename_i n t
    obtain ⟨hn, hbig, hm, hs, h⟩ := h
    simp only [ox_vQ, Bool.and_eq_true, decide_eq_true_eq] at hv
    obtain ⟨⟨k0, k1⟩, w1⟩ := hv
    have hn0 : S.n ≠ 0 := by have h9 := hW.2.1; have h8 := hW.2.2.1; omega
    have hN : H.size = S.n - 1 := by have := hW.1; omega
    refine W.anew hx hb hown (hts _ (ox_in w1 rfl)) (va_AO.use (hK.2.2.2.1 _ k0 k1).1) rfl hd rfl hn (by omega) (by omega) (by omega) fun cA kA comp f1 f2 f3 f4 => ?_
    generalize hH1 : H.push ({ cls := cA, slots := Array.replicate n.toNatClampNeg .null, vm := .none } : Cell) = H1
    have z1 : H1.size = H.size + 1 := by rw [← hH1, Array.size_push]
    have e1 : H1[H.size]? = some (arrV cA n.toNatClampNeg (fun _ => .null)) := by rw [← hH1, Array.getElem?_push_size, ← arrV_new]
    have o1 : ∀ q : Nat, q < H.size → H1[q]? = H[q]? := fun q hq => by rw [← hH1, Array.getElem?_push, if_neg (Nat.ne_of_lt hq)]
    have h3 := K _ _ _ _ _ _ h H1 locs (cells + 1) (slots + n.toNatClampNeg) ls ?_ ?_ hl (by omega) (by omega)
    · rw [List.map_cons, show ox_val (.inr (.inr S.n)) = .ref (S.n - 1) from ox_rfs hn0, ← hN] at h3
      exact h3
    · have ek : (S.newA (ox_p ps 0) n.toNatClampNeg).K S.n = ox_p ps 0 := if_pos rfl
      have el : (S.newA (ox_p ps 0) n.toNatClampNeg).len S.n = n.toNatClampNeg := if_pos rfl
      have e5 : (fun j => ox_op ((S.newA (ox_p ps 0) n.toNatClampNeg).rR S.n j)) = fun _ => none := by
        funext j
        rw [show (S.newA (ox_p ps 0) n.toNatClampNeg).rR S.n j = 0 from if_pos rfl]
        rfl
      refine hW.new (S' := S.newA (ox_p ps 0) n.toNatClampNeg) rfl (fun q hq => if_neg hq) (by rw [ek]; exact k1) z1 o1 (fun q hq => ox_ent_newA hq) (fun q hq => ⟨if_neg hq, ox_z1_row _ _ hq, ox_z1_row _ _ hq⟩) (fun F => rfl) ?_
      rw [ox_ent_r (by rw [ek]; exact k0), ek, el, e5]
      have hcA : cA = y (ox_p ps 0 - 15) := by
        obtain ⟨kA', comp', q1, q2, q3, q4⟩ := (hK.1.2 _ _ (ox_tys_r (y := y) k0 k1)).2
        exact Option.some.inj (f1.symm.trans q4)
      subst hcA
      show H1[S.n - 1]? = some (vp_cell _ _)
      rw [vp_cell_q, ← hN]
      exact e1
    · exact ⟨Nat.le_trans hS.1 (by omega), fun q g1 g2 => (o1 q (by have := hS.1; omega)).trans (hS.2.1 q g1 g2), hS.2.2⟩
  · exact h.elim
theorem ox_o_instanceof (hx : p.tables.exec = Jvm.exec) (hb : c.code = cc) (K : ∀ pc L st S mr sr, k pc L st S mr sr → ox_X p l e R s m args below meth c Q D y b ro nL pc L st S mr sr) (hown : s.vm.findClass own = some m.cls) (hts : ∀ w ∈ ox_T0, w.before args s = true) (hK : ox_KX D y b ro s) (hv : ox_vI own idx ps = true) (hd : decode cc pc = .ok (.instanceof idx, 3)) (h : ox_r1 st (fun a t => (a = 0 ∨ ox_isV (S.K a) = true) ∧ k (pc + 3) L (.inl (if (ps.drop 1).contains (S.K a) = true then 1 else 0) :: t) S mr sr)) : ox_X p l e R s m args below meth c Q D y b ro nL pc L st S mr sr := by
  intro H locs cells slots ls hW hS hl h1 h2
  unfold ox_r1 at h
  split at h
  · rename_i a t
    obtain ⟨ha, h⟩ := h
    simp only [ox_vI, Bool.and_eq_true, decide_eq_true_eq] at hv
    obtain ⟨⟨⟨d1, v1⟩, n11⟩, w1⟩ := hv
    rw [d1] at h
    obtain ⟨j0, j15⟩ := ox_isV_lt v1
    have h3 := K _ _ _ _ _ _ h H locs cells slots ls hW hS hl h1 h2
    rw [List.map_cons] at h3 ⊢
    by_cases hz : a = 0
    · subst hz
      have hk0 : S.K 0 = 0 := hW.2.2.2.2.2.2
      have hc0 : ¬ ([ox_p ps 1].contains (S.K 0) = true) := by
        rw [hk0]; simp; omega
      rw [if_neg hc0] at h3
      exact lv_instN hx hb hd h3
    · have hva := ha.resolve_left hz
      obtain ⟨k0, k15⟩ := ox_isV_lt hva
      rw [show ox_val (.inr (.inr a)) = .ref (a - 1) from ox_rfs hz]
      have hr := va_recv hK.1 (hW.obj k0 k15) (ox_cl_at k0 k15) (q0 := 0) rfl
      by_cases hj : S.K a = ox_p ps 1
      · have hc1 : [ox_p ps 1].contains (S.K a) = true := by simp [hj]
        rw [if_pos hc1] at h3
        rw [← hj] at w1
        exact va_instS hx hb hown (hts _ (ox_in w1 rfl)) (hK.1.1 _ _ (ox_cl_at k0 k15)).2 hr hd h3
      · have hc1 : ¬ ([ox_p ps 1].contains (S.K a) = true) := by simp [hj]
        rw [if_neg hc1] at h3
        exact va_instNo hx hb hown (hts _ (ox_in w1 rfl)) (hK.2.2.1 (ox_kn (S.K a), ox_kn (ox_p ps 1)) (ox_ncd _ k15 _ j15 hva v1 hj n11)) hr hd h3
  · exact h.elim
theorem ox_o_checkcast (hx : p.tables.exec = Jvm.exec) (hb : c.code = cc) (K : ∀ pc L st S mr sr, k pc L st S mr sr → ox_X p l e R s m args below meth c Q D y b ro nL pc L st S mr sr) (hown : s.vm.findClass own = some m.cls) (hts : ∀ w ∈ ox_T0, w.before args s = true) (hK : ox_KX D y b ro s) (hv : ox_vI own idx ps = true) (hd : decode cc pc = .ok (.checkcast idx, 3)) (h : ox_r1 st (fun a t => (a = 0 ∨ (ps.drop 1).contains (S.K a) = true) ∧ k (pc + 3) L (.inr (.inr a) :: t) S mr sr)) : ox_X p l e R s m args below meth c Q D y b ro nL pc L st S mr sr := by
  intro H locs cells slots ls hW hS hl h1 h2
  unfold ox_r1 at h
  split at h
  · rename_i a t
    obtain ⟨ha, h⟩ := h
    simp only [ox_vI, Bool.and_eq_true, decide_eq_true_eq] at hv
    obtain ⟨⟨⟨d1, v1⟩, n11⟩, w1⟩ := hv
    rw [d1] at ha
    obtain ⟨j0, j15⟩ := ox_isV_lt v1
    have h3 := K _ _ _ _ _ _ h H locs cells slots ls hW hS hl h1 h2
    rw [List.map_cons] at h3 ⊢
    by_cases hz : a = 0
    · subst hz
      exact lv_castN hx hb hd h3
    · have hj : S.K a = ox_p ps 1 := by simpa using ha.resolve_left hz
      rw [show ox_val (.inr (.inr a)) = .ref (a - 1) from ox_rfs hz] at h3 ⊢
      rw [← hj] at w1 j0 j15
      have hr := va_recv hK.1 (hW.obj j0 j15) (ox_cl_at j0 j15) (q0 := 0) rfl
      exact va_castS hx hb hown (hts _ (ox_in w1 rfl)) (hK.1.1 _ _ (ox_cl_at j0 j15)).2 hr hd h3
  · exact h.elim
theorem ox_o_ldc (hx : p.tables.exec = Jvm.exec) (hb : c.code = cc) (K : ∀ pc L st S mr sr, k pc L st S mr sr → ox_X p l e R s m args below meth c Q D y b ro nL pc L st S mr sr) (hown : s.vm.findClass own = some m.cls) (hts : ∀ w ∈ ox_T0, w.before args s = true) (hK : ox_KX D y b ro s) (hv : ox_vC own idx ps = true) (hd : decode cc pc = .ok (.ldc idx, 2)) (h : k (pc + 2) L (.inl (Int32.ofNat (ox_p ps 1)) :: st) S mr sr) : ox_X p l e R s m args below meth c Q D y b ro nL pc L st S mr sr := by
  intro H locs cells slots ls hW hS hl h1 h2
  have hv := of_decide_eq_true hv
  exact lv_ldc hx hb hown (hts _ (ox_in hv rfl)) hd (K _ _ _ _ _ _ h H locs cells slots ls hW hS hl h1 h2)
theorem ox_o_ldc_w (hx : p.tables.exec = Jvm.exec) (hb : c.code = cc) (K : ∀ pc L st S mr sr, k pc L st S mr sr → ox_X p l e R s m args below meth c Q D y b ro nL pc L st S mr sr) (hown : s.vm.findClass own = some m.cls) (hts : ∀ w ∈ ox_T0, w.before args s = true) (hK : ox_KX D y b ro s) (hv : ox_vC own idx ps = true) (hd : decode cc pc = .ok (.ldc_w idx, 3)) (h : k (pc + 3) L (.inl (Int32.ofNat (ox_p ps 1)) :: st) S mr sr) : ox_X p l e R s m args below meth c Q D y b ro nL pc L st S mr sr := by
  intro H locs cells slots ls hW hS hl h1 h2
  have hv := of_decide_eq_true hv
  exact lv_ldcw hx hb hown (hts _ (ox_in hv rfl)) hd (K _ _ _ _ _ _ h H locs cells slots ls hW hS hl h1 h2)
theorem ox_o_ldc2 (hx : p.tables.exec = Jvm.exec) (hb : c.code = cc) (K : ∀ pc L st S mr sr, k pc L st S mr sr → ox_X p l e R s m args below meth c Q D y b ro nL pc L st S mr sr) (hown : s.vm.findClass own = some m.cls) (hts : ∀ w ∈ ox_T0, w.before args s = true) (hK : ox_KX D y b ro s) (hv : ox_vD own idx ps = true) (hd : decode cc pc = .ok (.ldc2_w idx, 3)) (h : k (pc + 3) L (.inr (.inl (Int64.ofNat (ox_p ps 1))) :: st) S mr sr) : ox_X p l e R s m args below meth c Q D y b ro nL pc L st S mr sr := by
  intro H locs cells slots ls hW hS hl h1 h2
  have hv := of_decide_eq_true hv
  exact lv_ldc2 hx hb hown (hts _ (ox_in hv rfl)) hd (K _ _ _ _ _ _ h H locs cells slots ls hW hS hl h1 h2)
/-- a static's value: 142, 143 -/
def ox_vS (own : String) (idx : Nat) (ps : List Nat) : Bool := (decide (ox_p ps 0 = 142) && decide (lw_tbl[ox_p ps 1]? = some (.fieldLink own idx "java/util/ArrayList" "DEFAULTCAPACITY_EMPTY_ELEMENTDATA" "[Ljava/lang/Object;"))) || (decide (ox_p ps 0 = 143) && decide (lw_tbl[ox_p ps 1]? = some (.fieldLinkNest own idx "OpcodeFrames" "NAMES_OF_KINDS" "[J" "OpcodeFrames")))
theorem ox_o_getstatic (hx : p.tables.exec = Jvm.exec) (hb : c.code = cc) (K : ∀ pc L st S mr sr, k pc L st S mr sr → ox_X p l e R s m args below meth c Q D y b ro nL pc L st S mr sr) (hown : s.vm.findClass own = some m.cls) (hts : ∀ w ∈ ox_T0, w.before args s = true) (hK : ox_KX D y b ro s) (hv : ox_vS own idx ps = true) (hd : decode cc pc = .ok (.getstatic idx, 3)) (h : k (pc + 3) L (.inr (.inr (S.R (ox_p ps 0) 0)) :: st) S mr sr) : ox_X p l e R s m args below meth c Q D y b ro nL pc L st S mr sr := by
  intro H locs cells slots ls hW hS hl h1 h2
  have h3 := K _ _ _ _ _ _ h H locs cells slots ls hW hS hl h1 h2
  rw [List.map_cons] at h3
  simp only [ox_vS, Bool.or_eq_true, Bool.and_eq_true, decide_eq_true_eq] at hv
  rcases hv with ⟨v1, v2⟩ | ⟨v1, v2⟩
  · rw [v1, show ox_val (.inr (.inr (S.R 142 0))) = ox_rf (ro.R 142 0) from congrArg ox_rf hW.2.2.2.2.2.1.1] at h3
    exact va_gets hx hb hK.2.2.2.2.2.1 hS hown (hts _ (ox_in v2 rfl)) (fun _ z => z) hd h3
  · rw [v1, show ox_val (.inr (.inr (S.R 143 0))) = ox_rf (ro.R 143 0) from congrArg ox_rf hW.2.2.2.2.2.1.2] at h3
    exact va_getsN (host := "OpcodeFrames") hx hb hK.2.2.2.2.2.2 hS hown (va_Nw.use rfl (hK.2.1 _ (List.mem_of_getElem? v2) rfl)) (fun _ z => z) hd h3
end OXG
