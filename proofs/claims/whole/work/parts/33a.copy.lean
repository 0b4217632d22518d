/-! Arrays.copyOf of objects, to more than there are -/
def ox_St.rowR (S : ox_St) (a : Nat) (f : Nat → Nat) : ox_St := ox_mk S.n S.K S.len S.I S.R S.J S.rI (fun q j => if q = a then f j else S.rR q j) S.rJ
theorem ox_ent_rowR {y : Nat → ClassId} {S : ox_St} {a q : Nat} {f : Nat → Nat} (h : q ≠ a) : ox_ent y (S.rowR a f) q = ox_ent y S q := by
  have e1 : (S.rowR a f).rR q = S.rR q := by
    funext j
    exact if_neg h
  unfold ox_ent
  rw [e1]
  rfl
theorem oc_cpyR {f : Nat → Nat} {n : Nat} : va_cpy (fun j => ox_op (f j)) (fun _ => none) 0 0 n = fun j => ox_op (va_cpy f (fun _ => 0) 0 0 n j) := by
  funext j
  unfold va_cpy
  by_cases z : 0 ≤ j ∧ j < 0 + n
  · rw [if_pos z, if_pos z]
  · rw [if_neg z, if_neg z]; rfl
section OCR
variable {p : Program} {l : Launch} {e : Env} {R : Room} {s : State} {m : MethodId} {args : Array Value} {below : List Frame} {meth : Method} {c : Code} {Q : State → Prop} {D : va_G} {y : Nat → ClassId} {b nL : Nat} {ro : ox_St} {cc : ByteArray}
variable {pc mr sr : Nat} {L : ox_L} {st : List ox_V} {S : ox_St} {own : String}
/-- System.arraycopy between rows of objects -/
theorem oc_copyR (hx : p.tables.exec = Jvm.exec) (hb : c.code = cc) (hml : c.maxLocals = nL) (hown : s.vm.findClass own = some m.cls) (hts : ∀ w ∈ ox_T0, w.before args s = true) (hK : ox_KX D y b ro s) {ix src dst n : Nat} (w1 : Cond.methodLink own ix arraycopyName ∈ ox_T0) (w2 : Cond.native arraycopyName ∈ ox_T0) (w3 : Cond.static arraycopyName ∈ ox_T0) (w4 : Cond.initialized "java/lang/System" ∈ ox_T0)
    (hd : decode cc pc = .ok (.invokestatic ix, 3)) (ks : S.K src = 20) (kd : S.K dst = 20) (h4 : n ≤ S.len src) (h5 : n ≤ S.len dst) (hb3 : n < 2 ^ 31) (el : ∀ i, i < n → S.K (S.rR src i) = 3) (hfr : 1 ≤ R.frames) (hlo : (st.map ox_cat).sum + (nativeFrameWords "java/lang/System" "arraycopy" 5 + 11) ≤ R.locals) (hz : ∀ j, S.rR dst j = 0)
    (K : ox_X p l e R s m args below meth c Q D y b ro nL (pc + 3) L st (S.rowR dst (va_cpy (S.rR src) (fun _ => 0) 0 0 n)) mr sr) : ox_X p l e R s m args below meth c Q D y b ro nL pc L (.inl (nI n) :: .inl (nI 0) :: .inr (.inr dst) :: .inl (nI 0) :: .inr (.inr src) :: st) S mr sr := by
  intro H locs cells slots ls hW hS hl h1 h2
  have zs : S.K src ≠ 0 := by omega
  have zd : S.K dst ≠ 0 := by omega
  have es : ox_val (.inr (.inr src)) = .ref (src - 1) := ox_rfs (hW.nz zs)
  have ed : ox_val (.inr (.inr dst)) = .ref (dst - 1) := ox_rfs (hW.nz zd)
  rw [List.map_cons, List.map_cons, List.map_cons, List.map_cons, List.map_cons, es, ed]
  have hc0 := (hW.at0 zs (by omega)).2.2
  obtain ⟨hA, -, hc1⟩ := hW.at0 zd (by omega)
  rw [ox_ent_r (by omega), ks] at hc0
  rw [ox_ent_r (by omega), kd] at hc1
  replace hc0 : H[src - 1]? = some (vp_cell (y 5) (S.len src, .inr (.inr (.inr (.inr (fun j => ox_op (S.rR src j))))))) := hc0
  have ez : (fun j => ox_op (S.rR dst j)) = fun _ => none := funext fun j => by rw [hz j]; rfl
  replace hc1 : H[dst - 1]? = some (vp_cell (y 5) (S.len dst, .inr (.inr (.inr (.inr (fun j => ox_op (S.rR dst j))))))) := hc1
  rw [ez] at hc1
  have c1 : (nI 0).toNatClampNeg = 0 := nI_clamp (by decide)
  have c3 : (nI n).toNatClampNeg = n := nI_clamp hb3
  intro T hT X
  have ty : (ox_tys y)[5]? = some (y 5, .object "java/lang/Object") := rfl
  obtain ⟨-, k0, hk0, cm0, hkk0⟩ := (hK.1.2 5 _ ty).1 (S.len src) (fun j => va_rf (ox_op (S.rR src j)))
  obtain ⟨vm', X', step⟩ := X.arraycopy hx hown (hts _ w1) (hts _ w2) (hts _ w3) (hts _ w4) (src := src - 1) (dst := dst - 1) (cs := vp_cell (y 5) (S.len src, .inr (.inr (.inr (.inr (fun j => ox_op (S.rR src j))))))) (cd := vp_cell (y 5) (S.len dst, .inr (.inr (.inr (.inr (fun _ => none)))))) (srcPos := nI 0) (destPos := nI 0) (n := nI n) (by rw [hT]; exact hc0) (by rw [hT]; exact hc1)
    (fun _ h => by cases h) (fun _ h => by cases h) (fun h => by cases h) (fun h => by cases h) hk0 hk0 hkk0 hkk0 rfl (nI_pos (by decide)) (nI_pos (by decide)) (nI_pos hb3)
    (by rw [nI_toInt (by decide), nI_toInt hb3]; show ¬ _ > ((arrV (y 5) (S.len src) (fun j => va_rf (ox_op (S.rR src j)))).slots.size : Int); rw [arrV_size]; omega)
    (by rw [nI_toInt (by decide), nI_toInt hb3]; show ¬ _ > ((arrV (y 5) (S.len dst) (fun _ => va_rf none)).slots.size : Int); rw [arrV_size]; omega)
    (fun vm₁ hal i hi => by
      rw [c3] at hi
      have ev : (vp_cell (y 5) (S.len src, .inr (.inr (.inr (.inr (fun j => ox_op (S.rR src j))))))).slots.getD ((nI 0).toNatClampNeg + i) .null = va_rf (ox_op (S.rR src i)) := by
        rw [c1, Nat.zero_add]
        show (arrV (y 5) (S.len src) (fun j => va_rf (ox_op (S.rR src j)))).slots.getD _ _ = _
        rw [Array.getD_eq_getD_getElem?, arrV_read _ _ (by omega)]
        rfl
      rw [ev]
      have k3 := el i hi
      have x0 : S.rR src i ≠ 0 := hW.nz (by rw [k3]; decide)
      have eo : ox_op (S.rR src i) = some (S.rR src i - 1) := if_neg x0
      rw [eo]
      obtain ⟨kA, comp, r1, r2, r3, -⟩ := (hK.1.2 5 _ ty).2
      cases hk0.symm.trans r1
      cases hkk0.symm.trans r2
      obtain ⟨a1, a2, a3⟩ := ox_assign hK (κ := 20) (v := 3) (by decide) (by decide) (by decide) r3
      have k3n : S.K (S.rR src i) ≠ 0 := by rw [k3]; decide
      have k3l : S.K (S.rR src i) < 15 := by rw [k3]; decide
      obtain ⟨r', hr', cellV, g1, g2, g3, -⟩ := hW.obj k3n k3l 0 _ rfl
      obtain ⟨kC, hkC, -⟩ := (hK.1.1 _ _ (ox_cl_at k3n k3l)).2.2
      obtain ⟨kE, hkE, -⟩ := Vm.findClass_spec r3
      obtain ⟨kC', hkC', -⟩ := hal.2.2 _ _ hkC
      obtain ⟨kE', hkE', -⟩ := hal.2.2 _ _ hkE
      refine ⟨rfl, cellV, (show T.heap[S.rR src i - 1]? = some cellV by rw [hT]; exact g1), (fun q h => by rw [g3] at h; cases h), ⟨kC', by rw [g2]; exact hkC'⟩, ⟨kE', hkE'⟩, ?_⟩
      show vm₁.assignable _ _ = true
      rw [hal.assignable, g2, k3]
      exact a3)
    (g := F0 m pc ls (.int (nI n) :: .int (nI 0) :: .ref (dst - 1) :: .int (nI 0) :: .ref (src - 1) :: st.map ox_val)) rfl (by rw [hml]; exact hl.1) (rest := st.map ox_val) rfl (by rw [hb]; exact hd) hfr (by
      have e3 : ((st.map ox_val).map fun v => v.category) = st.map ox_cat := by
        rw [List.map_map]
        exact List.map_congr_left (fun v _ => ox_val_cat v)
      show 2 * 0 + ((st.map ox_val).map fun v => v.category).sum + _ ≤ _
      rw [e3]
      omega)
  have e1 : copied (vp_cell (y 5) (S.len src, .inr (.inr (.inr (.inr (fun j => ox_op (S.rR src j))))))) (vp_cell (y 5) (S.len dst, .inr (.inr (.inr (.inr (fun _ => none)))))) (nI 0) (nI 0) (nI n) = vp_cell (y 5) (S.len dst, .inr (.inr (.inr (.inr (fun j => ox_op (va_cpy (S.rR src) (fun _ => 0) 0 0 n j)))))) := by
    rw [← oc_cpyR]
    rw [vp_cell_q, vp_cell_q, vp_cell_q]
    have h9 : copied (arrV (y 5) (S.len src) fun j => va_rf (ox_op (S.rR src j))) (arrV (y 5) (S.len dst) fun _ => va_rf none) (nI 0) (nI 0) (nI n) = arrV (y 5) (S.len dst) fun j => va_rf (va_cpy (fun j => ox_op (S.rR src j)) (fun _ => none) (nI 0).toNatClampNeg (nI 0).toNatClampNeg (nI n).toNatClampNeg j) := va_copied (fun z => va_rf z) (y 5) (y 5) (n1 := S.len dst) (n0 := S.len src) (fun j => ox_op (S.rR src j)) (fun _ => none) (by rw [c1, c3]; omega)
    rw [c1, c3] at h9
    exact h9
  rw [e1] at X' step
  have hlt : dst - 1 < H.size := (Array.getElem?_eq_some_iff.mp hc1).1
  have hheap : ((T.setVm vm').setCell (dst - 1) (vp_cell (y 5) (S.len dst, .inr (.inr (.inr (.inr (fun j => ox_op (va_cpy (S.rR src) (fun _ => 0) 0 0 n j)))))))).heap = H.setIfInBounds (dst - 1) (vp_cell (y 5) (S.len dst, .inr (.inr (.inr (.inr (fun j => ox_op (va_cpy (S.rR src) (fun _ => 0) 0 0 n j))))))) := by rw [← hT]; rfl
  have oq : ∀ q : Nat, q ≠ dst - 1 → (H.setIfInBounds (dst - 1) (vp_cell (y 5) (S.len dst, .inr (.inr (.inr (.inr (fun j => ox_op (va_cpy (S.rR src) (fun _ => 0) 0 0 n j))))))))[q]? = H[q]? := fun q hq => by simp [Array.getElem?_setIfInBounds, Ne.symm hq]
  obtain ⟨t, a1, b1⟩ := K _ _ cells slots ls (hW.put (S' := S.rowR dst (va_cpy (S.rR src) (fun _ => 0) 0 0 n)) (a := dst) zd (by omega) rfl rfl (by simp) oq (fun q hq => ox_ent_rowR hq) (fun q hq => ⟨rfl, rfl, rfl⟩) (fun _ => rfl) (by
      rw [ox_ent_r (show 18 ≤ (S.rowR dst (va_cpy (S.rR src) (fun _ => 0) 0 0 n)).K dst by show 18 ≤ S.K dst; omega)]
      have er : (S.rowR dst (va_cpy (S.rR src) (fun _ => 0) 0 0 n)).rR dst = va_cpy (S.rR src) (fun _ => 0) 0 0 n := by
        funext j
        exact if_pos rfl
      rw [er, show (S.rowR dst (va_cpy (S.rR src) (fun _ => 0) 0 0 n)).K dst = 20 from kd]
      show (H.setIfInBounds (dst - 1) _)[dst - 1]? = some _
      simp [Array.getElem?_setIfInBounds, hlt]
      rfl))
    ⟨by simp; exact hS.1, fun q g1 g2 => by
      rw [oq q (fun z => g2 (by rw [z]; exact hA))]
      exact hS.2.1 q g1 g2, fun q hq => by
      rcases List.mem_append.mp hq with h | h
      · exact hS.2.2 q h
      · obtain ⟨z, -, hz⟩ := List.mem_map.mp h
        rw [← hz]
        exact hA⟩ hl h1 h2 _ hheap X'
  exact ⟨t, step t a1, b1⟩
end OCR
