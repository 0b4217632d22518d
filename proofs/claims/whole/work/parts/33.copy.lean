/-! Arrays.copyOf of ints, to fewer than there are -/
def ox_St.rowI (S : ox_St) (a : Nat) (f : Nat → Int32) : ox_St := ox_mk S.n S.K S.len S.I S.R S.J (fun q j => if q = a then f j else S.rI q j) S.rR S.rJ
theorem ox_ent_rowI {y : Nat → ClassId} {S : ox_St} {a q : Nat} {f : Nat → Int32} (h : q ≠ a) : ox_ent y (S.rowI a f) q = ox_ent y S q := by
  have e1 : (S.rowI a f).rI q = S.rI q := by
    funext j
    exact if_neg h
  unfold ox_ent
  rw [e1]
  rfl
section OCP
variable {p : Program} {l : Launch} {e : Env} {R : Room} {s : State} {m : MethodId} {args : Array Value} {below : List Frame} {meth : Method} {c : Code} {Q : State → Prop} {D : va_G} {y : Nat → ClassId} {b nL : Nat} {ro : ox_St} {cc : ByteArray}
variable {pc mr sr : Nat} {L : ox_L} {st : List ox_V} {S : ox_St} {own : String}
/-- System.arraycopy between rows of ints -/
theorem oc_copyI (hx : p.tables.exec = Jvm.exec) (hb : c.code = cc) (hml : c.maxLocals = nL) (hown : s.vm.findClass own = some m.cls) (hts : ∀ w ∈ ox_T0, w.before args s = true) (hK : ox_KX D y b ro s) {ix src dst sp dp n : Nat} (w1 : Cond.methodLink own ix arraycopyName ∈ ox_T0) (w2 : Cond.native arraycopyName ∈ ox_T0) (w3 : Cond.static arraycopyName ∈ ox_T0) (w4 : Cond.initialized "java/lang/System" ∈ ox_T0)
    (hd : decode cc pc = .ok (.invokestatic ix, 3)) (ks : S.K src = 15) (kd : S.K dst = 15) (h4 : sp + n ≤ S.len src) (h5 : dp + n ≤ S.len dst) (hb1 : sp < 2 ^ 31) (hb2 : dp < 2 ^ 31) (hb3 : n < 2 ^ 31) (hfr : 1 ≤ R.frames) (hlo : (st.map ox_cat).sum + (nativeFrameWords "java/lang/System" "arraycopy" 5 + 11) ≤ R.locals)
    (K : ox_X p l e R s m args below meth c Q D y b ro nL (pc + 3) L st (S.rowI dst (va_cpy (S.rI src) (S.rI dst) sp dp n)) mr sr) : ox_X p l e R s m args below meth c Q D y b ro nL pc L (.inl (nI n) :: .inl (nI dp) :: .inr (.inr dst) :: .inl (nI sp) :: .inr (.inr src) :: st) S mr sr := by
  intro H locs cells slots ls hW hS hl h1 h2
  have zs : S.K src ≠ 0 := by omega
  have zd : S.K dst ≠ 0 := by omega
  have es : ox_val (.inr (.inr src)) = .ref (src - 1) := ox_rfs (hW.nz zs)
  have ed : ox_val (.inr (.inr dst)) = .ref (dst - 1) := ox_rfs (hW.nz zd)
  rw [List.map_cons, List.map_cons, List.map_cons, List.map_cons, List.map_cons, es, ed]
  have hc0 := (hW.at0 zs (by omega)).2.2
  obtain ⟨hA, -, hc1⟩ := hW.at0 zd (by omega)
  rw [ox_ent_i ks] at hc0
  rw [ox_ent_i kd] at hc1
  replace hc0 : H[src - 1]? = some (vp_cell (y 0) (S.len src, .inl (S.rI src))) := hc0
  replace hc1 : H[dst - 1]? = some (vp_cell (y 0) (S.len dst, .inl (S.rI dst))) := hc1
  have c1 : (nI sp).toNatClampNeg = sp := nI_clamp hb1
  have c2 : (nI dp).toNatClampNeg = dp := nI_clamp hb2
  have c3 : (nI n).toNatClampNeg = n := nI_clamp hb3
  intro T hT X
  obtain ⟨-, k0, hk0, cm0, hkk0⟩ := (hK.1.2 0 _ rfl).1 (S.len src) (fun j => .int (S.rI src j))
  obtain ⟨vm', X', step⟩ := X.arraycopy hx hown (hts _ w1) (hts _ w2) (hts _ w3) (hts _ w4) (src := src - 1) (dst := dst - 1) (cs := vp_cell (y 0) (S.len src, .inl (S.rI src))) (cd := vp_cell (y 0) (S.len dst, .inl (S.rI dst))) (srcPos := nI sp) (destPos := nI dp) (n := nI n) (by rw [hT]; exact hc0) (by rw [hT]; exact hc1)
    (fun _ h => by cases h) (fun _ h => by cases h) (fun h => by cases h) (fun h => by cases h) hk0 hk0 hkk0 hkk0 rfl (nI_pos hb1) (nI_pos hb2) (nI_pos hb3)
    (by rw [nI_toInt hb1, nI_toInt hb3]; show ¬ _ > ((arrV (y 0) (S.len src) (fun j => .int (S.rI src j))).slots.size : Int); rw [arrV_size]; omega)
    (by rw [nI_toInt hb2, nI_toInt hb3]; show ¬ _ > ((arrV (y 0) (S.len dst) (fun j => .int (S.rI dst j))).slots.size : Int); rw [arrV_size]; omega)
    (fun vm₁ _ i hi => by
      rw [c3] at hi
      have ev : (vp_cell (y 0) (S.len src, .inl (S.rI src))).slots.getD ((nI sp).toNatClampNeg + i) .null = .int (S.rI src (sp + i)) := by
        rw [c1]
        show (arrV (y 0) (S.len src) (fun j => .int (S.rI src j))).slots.getD _ _ = _
        rw [Array.getD_eq_getD_getElem?, arrV_read _ _ (by omega)]
        rfl
      rw [ev]
      exact ⟨rfl, trivial⟩)
    (g := F0 m pc ls (.int (nI n) :: .int (nI dp) :: .ref (dst - 1) :: .int (nI sp) :: .ref (src - 1) :: st.map ox_val)) rfl (by rw [hml]; exact hl.1) (rest := st.map ox_val) rfl (by rw [hb]; exact hd) hfr (by
      have e3 : ((st.map ox_val).map fun v => v.category) = st.map ox_cat := by
        rw [List.map_map]
        exact List.map_congr_left (fun v _ => ox_val_cat v)
      show 2 * 0 + ((st.map ox_val).map fun v => v.category).sum + _ ≤ _
      rw [e3]
      omega)
  have e1 : copied (vp_cell (y 0) (S.len src, .inl (S.rI src))) (vp_cell (y 0) (S.len dst, .inl (S.rI dst))) (nI sp) (nI dp) (nI n) = vp_cell (y 0) (S.len dst, .inl (va_cpy (S.rI src) (S.rI dst) sp dp n)) := by
    have h9 : copied (vp_cell (y 0) (S.len src, .inl (S.rI src))) (vp_cell (y 0) (S.len dst, .inl (S.rI dst))) (nI sp) (nI dp) (nI n) = vp_cell (y 0) (S.len dst, .inl (va_cpy (S.rI src) (S.rI dst) (nI sp).toNatClampNeg (nI dp).toNatClampNeg (nI n).toNatClampNeg)) := va_copied (fun z => Value.int z) (y 0) (y 0) (S.rI src) (S.rI dst) (by rw [c1, c3]; exact h4)
    rw [c1, c2, c3] at h9
    exact h9
  rw [e1] at X' step
  have hlt : dst - 1 < H.size := (Array.getElem?_eq_some_iff.mp hc1).1
  have hheap : ((T.setVm vm').setCell (dst - 1) (vp_cell (y 0) (S.len dst, .inl (va_cpy (S.rI src) (S.rI dst) sp dp n)))).heap = H.setIfInBounds (dst - 1) (vp_cell (y 0) (S.len dst, .inl (va_cpy (S.rI src) (S.rI dst) sp dp n))) := by rw [← hT]; rfl
  have oq : ∀ q : Nat, q ≠ dst - 1 → (H.setIfInBounds (dst - 1) (vp_cell (y 0) (S.len dst, .inl (va_cpy (S.rI src) (S.rI dst) sp dp n))))[q]? = H[q]? := fun q hq => by simp [Array.getElem?_setIfInBounds, Ne.symm hq]
  obtain ⟨t, a1, b1⟩ := K _ _ cells slots ls (hW.put (S' := S.rowI dst (va_cpy (S.rI src) (S.rI dst) sp dp n)) (a := dst) zd (by omega) rfl rfl (by simp) oq (fun q hq => ox_ent_rowI hq) (fun q hq => ⟨rfl, funext (fun j => if_neg hq), rfl⟩) (fun _ => rfl) (by
      rw [ox_ent_i (show (S.rowI dst (va_cpy (S.rI src) (S.rI dst) sp dp n)).K dst = 15 from kd)]
      have er : (S.rowI dst (va_cpy (S.rI src) (S.rI dst) sp dp n)).rI dst = va_cpy (S.rI src) (S.rI dst) sp dp n := by
        funext j
        exact if_pos rfl
      rw [er]
      show (H.setIfInBounds (dst - 1) _)[dst - 1]? = some _
      simp [Array.getElem?_setIfInBounds, hlt]
      rfl))
    ⟨by simp; exact hS.1, fun q g1 g2 => by
      rw [oq q (fun z => g2 (by rw [z]; exact hA))]
      exact hS.2.1 q g1 g2, fun q hq => by
      rcases List.mem_append.mp hq with h | h
      · exact hS.2.2 q h
      · obtain ⟨z, -, hz⟩ := List.mem_map.mp h
        rw [← hz]
        exact hA⟩ hl h1 h2 _ hheap X'
  exact ⟨t, step t a1, b1⟩
end OCP
def oc_c231 : List ox_I := [(0, .iload_n 1, 1, []), (1, .aload_n 0, 1, []), (2, .arraylength, 1, []), (3, .if_icmp .ne 11, 3, []), (6, .aload_n 0, 1, []), (14, .iload_n 1, 1, []), (15, .newarray .int, 2, [15, 187]), (17, .astore_n 2, 1, []), (18, .aload_n 0, 1, []), (19, .iconst 0, 1, []), (20, .aload_n 2, 1, []), (21, .iconst 0, 1, []), (22, .aload_n 0, 1, []), (23, .arraylength, 1, []), (24, .iload_n 1, 1, []), (25, .invokestatic 304, 3, [6, 1, 698, 585, 133, 586]), (31, .aload_n 2, 1, [])]
theorem oc_w1 : Cond.methodLink "java/util/Arrays" 150 arraycopyName ∈ ox_T0 := oz_in_c (by decide +kernel)
theorem oc_w2 : Cond.native arraycopyName ∈ ox_T0 := oz_in_c (by decide +kernel)
theorem oc_w3 : Cond.static arraycopyName ∈ ox_T0 := oz_in_c (by decide +kernel)
theorem oc_w4 : Cond.initialized "java/lang/System" ∈ ox_T0 := oz_in_c (by decide +kernel)
/-- the picture behind it -/
def oCpy (S : ox_St) (a n : Nat) : ox_St := (S.newA 15 n).rowI S.n (va_cpy (S.rI a) (fun _ => 0) 0 0 n)
set_option maxRecDepth 20000 in
set_option maxHeartbeats 4000000 in
theorem oc_m231 {l : Launch} {D : va_G} {y : Nat → ClassId} {b : Nat} {ro : ox_St} {d mc ms a n : Nat} {S : ox_St} {Q : ox_Q} (hK15 : S.K a = 15) (haS : a ≠ S.n) (hn : n < S.len a) (hlen : S.len a < 2 ^ 31) (hbig : n ≤ 67108864) (hmc : 1 ≤ mc) (hms : n ≤ ms) (hQ : Q (some (.inr (.inr S.n))) (oCpy S a n)) : ox_Met l D y b ro (d + 4) 231 [.inr (.inr a), .inl (nI n)] mc ms S Q := by
  obtain ⟨m1, m2, m3, m4⟩ := ox_vM_at (ox_vMs (j := 231) (by decide +kernel))
  refine Met.ofW (cc := (ox_mi 231).2.1) (maxL := 3) (ret := (ox_mi 231).2.2.2.1) m2 rfl ?_
  intro p e s m args below meth c s₁ B hml hv
  obtain ⟨rfl, hW, hK⟩ := hv
  have hts0 := atoms_spec B.pre
  have hts : ∀ w ∈ ox_T0, w.before ([Sum.inr (Sum.inr a), .inl (nI n)].map ox_val).toArray s = true := fun w hw => hts0 w (List.mem_cons_of_mem _ hw)
  have hown : s.vm.findClass "java/util/Arrays" = some m.cls := findClass_of_methodNamed B.named
  have seg := fun (stop : List Nat) => oz_seg_ok (E := oz_E0) (meth := meth) (l := l) (e := e) (below := below) (R := ox_rm (d + 4) mc ms) (Q := MQ below (ox_Qc D y b ro Q) ([Sum.inr (Sum.inr a), .inl (nI n)].map ox_val).toArray s mc ms (fun q => b ≤ q)) (d := d + 3) B.exec B.bytes hml hown hts hK ⟨Nat.le_refl _, Nat.le_refl _⟩ oz_E0_ok (code := oc_c231) (by decide +kernel) (stop := stop) (fun _ _ _ _ _ _ h => h)
  rw [lg_entry_eq]
  have hent := lv_entry ([Sum.inr (Sum.inr a), .inl (nI n)].map ox_val) (n := 3) (by rw [ox_sl_len]; exact (show 1 + (1 + 0) ≤ 3 by decide))
  generalize (lg_sl ([Sum.inr (Sum.inr a), .inl (nI n)].map ox_val) ++ List.replicate (3 - (lg_sl ([Sum.inr (Sum.inr a), .inl (nI n)].map ox_val)).length) Slot.unset).toArray = ls at hent ⊢
  have hl : ox_lh ls 3 (ox_loc 3 [.inr (.inr a), .inl (nI n)]) := by
    refine ⟨hent.1, hent.2.1, fun i v hi => ?_⟩
    have := ox_get_args [.inr (.inr a), .inl (nI n)] _ 0 i v hi
    rw [Nat.zero_add] at this
    exact hent.2.2 _ this
  suffices main : ox_X p l e (ox_rm (d + 4) mc ms) s m ([Sum.inr (Sum.inr a), .inl (nI n)].map ox_val).toArray below meth c (MQ below (ox_Qc D y b ro Q) ([Sum.inr (Sum.inr a), .inl (nI n)].map ox_val).toArray s mc ms (fun q => b ≤ q)) D y b ro 3 0 (ox_loc 3 [.inr (.inr a), .inl (nI n)]) [] S mc ms from
    main s.heap [] 0 0 ls hW va_S.rf hl (Nat.le_of_eq (Nat.zero_add mc)) (Nat.le_of_eq (Nat.zero_add ms))
  have cn : (nI n).toNatClampNeg = n := nI_clamp (by omega)
  have hmin : (if nI n < Int32.ofNat (S.len a) then nI n else Int32.ofNat (S.len a)) = nI n := if_pos (nI_lt (b := S.len a) hn hlen)
  have hKa : (S.newA 15 n).K a = 15 := (if_neg haS).trans hK15
  have hLa : (S.newA 15 n).len a = S.len a := if_neg haS
  have stop28 : ox_X p l e (ox_rm (d + 4) mc ms) s m ([Sum.inr (Sum.inr a), .inl (nI n)].map ox_val).toArray below meth c (MQ below (ox_Qc D y b ro Q) ([Sum.inr (Sum.inr a), .inl (nI n)].map ox_val).toArray s mc ms (fun q => b ≤ q)) D y b ro 3 28 [some (.inr (.inr a)), some (.inl (nI n)), some (.inr (.inr S.n))] [.inl (nI n), .inl (nI 0), .inr (.inr S.n), .inl (nI 0), .inr (.inr a)] (S.newA 15 n) (mc - 1) (ms - n) := by
    refine oc_copyI (ix := 150) B.exec B.bytes hml hown hts hK oc_w1 oc_w2 oc_w3 oc_w4 (by decide +kernel) hKa (if_pos rfl) (by rw [hLa]; omega) (by rw [show (S.newA 15 n).len S.n = n from if_pos rfl]; omega) (by decide) (by decide) (by omega) (show 1 ≤ d + 4 by omega) (show 0 + (nativeFrameWords "java/lang/System" "arraycopy" 5 + 11) ≤ 64 * (d + 4) from Nat.le_trans (show 0 + (nativeFrameWords "java/lang/System" "arraycopy" 5 + 11) ≤ 256 by decide) (by omega)) ?_
    have er : va_cpy ((S.newA 15 n).rI a) ((S.newA 15 n).rI S.n) 0 0 n = va_cpy (S.rI a) (fun _ => 0) 0 0 n := by
      rw [show (S.newA 15 n).rI a = S.rI a from ox_z1_row _ _ haS, show (S.newA 15 n).rI S.n = fun _ => 0 from funext (fun j => if_pos rfl)]
    rw [er]
    refine seg [32] 4 31 _ _ _ _ _ ?_
    intro H locs cells slots ls hW hS hl h1 h2
    refine W.widen (k := mc) (n := ms) (by show cells ≤ mc; have : cells + (mc - 1) ≤ mc := h1; omega) (by show slots ≤ ms; have : slots + (ms - n) ≤ ms := h2; omega) ?_
    have hx2 : ox_val (.inr (.inr S.n)) = .null ∨ ∃ q, ox_val (.inr (.inr S.n)) = .ref q := by
      by_cases hz : S.n = 0
      · rw [hz]; exact Or.inl rfl
      · exact Or.inr ⟨S.n - 1, ox_rfs hz⟩
    exact W.aret B.exec B.bytes B.returns (Or.inr ⟨_, rfl⟩) hx2 (fun t ht hWm => ⟨⟨some (.inr (.inr S.n)), _, rfl, hQ, by rw [ht]; exact hW⟩, hS.F ht⟩) hS.2.2 (by decide +kernel) B.notSynchronized
  refine seg [28] 20 0 _ _ _ _ _ ?_
  refine ⟨by rw [hK15]; rfl, fun _ => ⟨nI_pos (by omega), by rw [cn]; exact hbig, hmc, by rw [cn]; exact hms, ?_⟩, fun z => ?_⟩
  · rw [cn]
    refine ⟨by show ox_rdL ((S.newA 15 n).K a) = true; rw [hKa]; rfl, (show 1 + (1 + (1 + (1 + 0))) ≤ 8 by decide), ?_⟩
    show ox_X p l e (ox_rm (d + 4) mc ms) s m ([Sum.inr (Sum.inr a), .inl (nI n)].map ox_val).toArray below meth c (MQ below (ox_Qc D y b ro Q) ([Sum.inr (Sum.inr a), .inl (nI n)].map ox_val).toArray s mc ms (fun q => b ≤ q)) D y b ro 3 28 [some (.inr (.inr a)), some (.inl (nI n)), some (.inr (.inr S.n))] [.inl (if nI n < Int32.ofNat ((S.newA 15 n).len a) then nI n else Int32.ofNat ((S.newA 15 n).len a)), .inl (nI 0), .inr (.inr S.n), .inl (nI 0), .inr (.inr a)] (S.newA 15 n) (mc - 1) (ms - n)
    rw [hLa, hmin]
    exact stop28
  · exfalso
    have h9 : nI n = nI (S.len a) := z
    exact absurd ((nI_eq (by omega) hlen).mp h9) (by omega)
