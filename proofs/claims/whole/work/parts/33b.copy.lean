/-! Arrays.copyOf of objects: its contracts -/
/-- the picture behind it -/
def oCpr (S : ox_St) (a n : Nat) : ox_St := (S.newA 20 n).rowR S.n (va_cpy (S.rR a) (fun _ => 0) 0 0 (S.len a))
def oc_c230 : List ox_I := [(0, .aload_n 2, 1, []), (3, .if_acmp .ne 10, 3, []), (6, .iload_n 1, 1, []), (7, .anewarray 2, 3, [20, 697]), (10, .goto 14, 3, []), (24, .astore_n 3, 1, []), (25, .aload_n 0, 1, []), (26, .iconst 0, 1, []), (27, .aload_n 3, 1, []), (28, .iconst 0, 1, []), (29, .aload_n 0, 1, []), (30, .arraylength, 1, []), (31, .iload_n 1, 1, []), (32, .invokestatic 304, 3, [6, 1, 698, 585, 133, 586]), (38, .aload_n 3, 1, [])]
def oc_c229 : List ox_I := [(0, .aload_n 0, 1, []), (1, .iload_n 1, 1, []), (2, .aload_n 0, 1, []), (6, .invokestatic 300, 3, [0, 3, 230, 692, 693, 140])]
theorem oc_w5 : Cond.classLink "java/util/Arrays" 110 "[Ljava/lang/Object;" ∈ ox_T0 := oz_in_c (by decide +kernel)
theorem oc_w6 : Cond.methodLink "java/util/Arrays" 86 ⟨"java/lang/Object", "getClass", "()Ljava/lang/Class;"⟩ ∈ ox_T0 := oz_in_c (by decide +kernel)
theorem oc_w7 : Cond.selects "[Ljava/lang/Object;" ⟨"java/lang/Object", "getClass", "()Ljava/lang/Class;"⟩ ⟨"java/lang/Object", "getClass", "()Ljava/lang/Class;"⟩ ∈ ox_T0 := oz_in_c (by decide +kernel)
theorem oc_w8 : Cond.instanceMethod ⟨"java/lang/Object", "getClass", "()Ljava/lang/Class;"⟩ ∈ ox_T0 := oz_in_c (by decide +kernel)
theorem oc_w9 : Cond.native ⟨"java/lang/Object", "getClass", "()Ljava/lang/Class;"⟩ ∈ ox_T0 := oz_in_c (by decide +kernel)
set_option maxRecDepth 20000 in
set_option maxHeartbeats 4000000 in
theorem oc_m230 {l : Launch} {D : va_G} {y : Nat → ClassId} {b : Nat} {ro : ox_St} (hOb : ∀ U, ox_KX D y b ro U → va_Ob D U) {d mc ms a n : Nat} {S : ox_St} {Q : ox_Q} (hK20 : S.K a = 20) (haS : a ≠ S.n) (hn : S.len a < n) (hbig : n ≤ 67108864) (el : ∀ j, j < S.len a → S.K (S.rR a j) = 3 ∧ S.rR a j < S.n) (hmc : 1 ≤ mc) (hms : n ≤ ms) (hQ : Q (some (.inr (.inr S.n))) (oCpr S a n)) : ox_Met l D y b ro (d + 3) 230 [.inr (.inr a), .inl (nI n), .inr (.inr (D.2 20 0 + 1))] mc ms S Q := by
  obtain ⟨m1, m2, m3, m4⟩ := ox_vM_at (ox_vMs (j := 230) (by decide +kernel))
  refine Met.ofW (cc := (ox_mi 230).2.1) (maxL := 4) (ret := (ox_mi 230).2.2.2.1) m2 rfl ?_
  intro p e s m args below meth c s₁ B hml hv
  obtain ⟨rfl, hW, hK⟩ := hv
  obtain ⟨hM, -⟩ := hOb _ hK
  have hts0 := atoms_spec B.pre
  have hts : ∀ w ∈ ox_T0, w.before ([Sum.inr (Sum.inr a), .inl (nI n), .inr (.inr (D.2 20 0 + 1))].map ox_val).toArray s = true := fun w hw => hts0 w (List.mem_cons_of_mem _ hw)
  have hown : s.vm.findClass "java/util/Arrays" = some m.cls := findClass_of_methodNamed B.named
  have seg := fun (stop : List Nat) => oz_seg_ok (E := oz_E0) (meth := meth) (l := l) (e := e) (below := below) (R := ox_rm (d + 3) mc ms) (Q := MQ below (ox_Qc D y b ro Q) ([Sum.inr (Sum.inr a), .inl (nI n), .inr (.inr (D.2 20 0 + 1))].map ox_val).toArray s mc ms (fun q => b ≤ q)) (d := d + 2) B.exec B.bytes hml hown hts hK ⟨Nat.le_refl _, Nat.le_refl _⟩ oz_E0_ok (code := oc_c230) (by decide +kernel) (stop := stop) (fun _ _ _ _ _ _ h => h)
  rw [lg_entry_eq]
  have hent := lv_entry ([Sum.inr (Sum.inr a), .inl (nI n), .inr (.inr (D.2 20 0 + 1))].map ox_val) (n := 4) (by rw [ox_sl_len]; exact (show 1 + (1 + (1 + 0)) ≤ 4 by decide))
  generalize (lg_sl ([Sum.inr (Sum.inr a), .inl (nI n), .inr (.inr (D.2 20 0 + 1))].map ox_val) ++ List.replicate (4 - (lg_sl ([Sum.inr (Sum.inr a), .inl (nI n), .inr (.inr (D.2 20 0 + 1))].map ox_val)).length) Slot.unset).toArray = ls at hent ⊢
  have hl : ox_lh ls 4 (ox_loc 4 [.inr (.inr a), .inl (nI n), .inr (.inr (D.2 20 0 + 1))]) := by
    refine ⟨hent.1, hent.2.1, fun i v hi => ?_⟩
    have := ox_get_args [.inr (.inr a), .inl (nI n), .inr (.inr (D.2 20 0 + 1))] _ 0 i v hi
    rw [Nat.zero_add] at this
    exact hent.2.2 _ this
  suffices main : ox_X p l e (ox_rm (d + 3) mc ms) s m ([Sum.inr (Sum.inr a), .inl (nI n), .inr (.inr (D.2 20 0 + 1))].map ox_val).toArray below meth c (MQ below (ox_Qc D y b ro Q) ([Sum.inr (Sum.inr a), .inl (nI n), .inr (.inr (D.2 20 0 + 1))].map ox_val).toArray s mc ms (fun q => b ≤ q)) D y b ro 4 0 (ox_loc 4 [.inr (.inr a), .inl (nI n), .inr (.inr (D.2 20 0 + 1))]) [] S mc ms from
    main s.heap [] 0 0 ls hW va_S.rf hl (Nat.le_of_eq (Nat.zero_add mc)) (Nat.le_of_eq (Nat.zero_add ms))
  have cn : (nI n).toNatClampNeg = n := nI_clamp (by omega)
  have hmin : (if nI n < Int32.ofNat (S.len a) then nI n else Int32.ofNat (S.len a)) = nI (S.len a) := if_neg (fun z => by
    have z' : nI n < nI (S.len a) := z
    have := (nI_ltI (by omega) (by omega)).mp z'
    omega)
  have hKa : (S.newA 20 n).K a = 20 := (if_neg haS).trans hK20
  have hLa : (S.newA 20 n).len a = S.len a := if_neg haS
  have era : (S.newA 20 n).rR a = S.rR a := funext fun j => if_neg haS
  have stop35 : ox_X p l e (ox_rm (d + 3) mc ms) s m ([Sum.inr (Sum.inr a), .inl (nI n), .inr (.inr (D.2 20 0 + 1))].map ox_val).toArray below meth c (MQ below (ox_Qc D y b ro Q) ([Sum.inr (Sum.inr a), .inl (nI n), .inr (.inr (D.2 20 0 + 1))].map ox_val).toArray s mc ms (fun q => b ≤ q)) D y b ro 4 35 [some (.inr (.inr a)), some (.inl (nI n)), some (.inr (.inr (D.2 20 0 + 1))), some (.inr (.inr S.n))] [.inl (nI (S.len a)), .inl (nI 0), .inr (.inr S.n), .inl (nI 0), .inr (.inr a)] (S.newA 20 n) (mc - 1) (ms - n) := by
    refine oc_copyR (ix := 150) B.exec B.bytes hml hown hts hK oc_w1 oc_w2 oc_w3 oc_w4 (by decide +kernel) hKa (if_pos rfl) (by rw [hLa]; exact Nat.le_refl _) (by rw [show (S.newA 20 n).len S.n = n from if_pos rfl]; omega) (by omega) (fun i hi => by rw [era]; exact (if_neg (by have := (el i hi).2; omega)).trans (el i hi).1) (show 1 ≤ d + 3 by omega) (show 0 + (nativeFrameWords "java/lang/System" "arraycopy" 5 + 11) ≤ 64 * (d + 3) from Nat.le_trans (show 0 + (nativeFrameWords "java/lang/System" "arraycopy" 5 + 11) ≤ 192 by decide) (by omega)) (fun j => if_pos rfl) ?_
    rw [era]
    refine seg [39] 4 38 _ _ _ _ _ ?_
    intro H locs cells slots ls hW hS hl h1 h2
    refine W.widen (k := mc) (n := ms) (by show cells ≤ mc; have : cells + (mc - 1) ≤ mc := h1; omega) (by show slots ≤ ms; have : slots + (ms - n) ≤ ms := h2; omega) ?_
    have hx2 : ox_val (.inr (.inr S.n)) = .null ∨ ∃ q, ox_val (.inr (.inr S.n)) = .ref q := by
      by_cases hz : S.n = 0
      · rw [hz]; exact Or.inl rfl
      · exact Or.inr ⟨S.n - 1, ox_rfs hz⟩
    exact W.aret B.exec B.bytes B.returns (Or.inr ⟨_, rfl⟩) hx2 (fun t ht hWm => ⟨⟨some (.inr (.inr S.n)), _, rfl, hQ, by rw [ht]; exact hW⟩, hS.F ht⟩) hS.2.2 (by decide +kernel) B.notSynchronized
  refine seg [1] 20 0 _ _ _ _ _ ?_
  -- the class constant
  show ox_X p l e (ox_rm (d + 3) mc ms) s m ([Sum.inr (Sum.inr a), .inl (nI n), .inr (.inr (D.2 20 0 + 1))].map ox_val).toArray below meth c (MQ below (ox_Qc D y b ro Q) ([Sum.inr (Sum.inr a), .inl (nI n), .inr (.inr (D.2 20 0 + 1))].map ox_val).toArray s mc ms (fun q => b ≤ q)) D y b ro 4 1 [some (.inr (.inr a)), some (.inl (nI n)), some (.inr (.inr (D.2 20 0 + 1))), none] [.inr (.inr (D.2 20 0 + 1))] S mc ms
  have after : ox_X p l e (ox_rm (d + 3) mc ms) s m ([Sum.inr (Sum.inr a), .inl (nI n), .inr (.inr (D.2 20 0 + 1))].map ox_val).toArray below meth c (MQ below (ox_Qc D y b ro Q) ([Sum.inr (Sum.inr a), .inl (nI n), .inr (.inr (D.2 20 0 + 1))].map ox_val).toArray s mc ms (fun q => b ≤ q)) D y b ro 4 3 [some (.inr (.inr a)), some (.inl (nI n)), some (.inr (.inr (D.2 20 0 + 1))), none] [.inr (.inr (D.2 20 0 + 1)), .inr (.inr (D.2 20 0 + 1))] S mc ms := by
    refine seg [35] 20 3 _ _ _ _ _ ?_
    refine ⟨fun z => absurd rfl z, fun _ => ⟨nI_pos (by omega), by rw [cn]; exact hbig, hmc, by rw [cn]; exact hms, ?_⟩⟩
    rw [cn]
    refine ⟨by show ox_rdL ((S.newA 20 n).K a) = true; rw [hKa]; rfl, (show 1 + (1 + (1 + (1 + 0))) ≤ 8 by decide), ?_⟩
    show ox_X p l e (ox_rm (d + 3) mc ms) s m ([Sum.inr (Sum.inr a), .inl (nI n), .inr (.inr (D.2 20 0 + 1))].map ox_val).toArray below meth c (MQ below (ox_Qc D y b ro Q) ([Sum.inr (Sum.inr a), .inl (nI n), .inr (.inr (D.2 20 0 + 1))].map ox_val).toArray s mc ms (fun q => b ≤ q)) D y b ro 4 35 [some (.inr (.inr a)), some (.inl (nI n)), some (.inr (.inr (D.2 20 0 + 1))), some (.inr (.inr S.n))] [.inl (if nI n < Int32.ofNat ((S.newA 20 n).len a) then nI n else Int32.ofNat ((S.newA 20 n).len a)), .inl (nI 0), .inr (.inr S.n), .inl (nI 0), .inr (.inr a)] (S.newA 20 n) (mc - 1) (ms - n)
    rw [hLa, hmin]
    exact stop35
  intro H locs cells slots ls hW hS hl h1 h2
  have ev : ox_val (.inr (.inr (D.2 20 0 + 1))) = .ref (D.2 20 0) := ox_rfs (Nat.succ_ne_zero _)
  have k := after H locs cells slots ls hW hS hl h1 h2
  have w5 := hts _ oc_w5
  have bx := B.exec
  have bb := B.bytes
  clear seg after stop35 hts hts0 B hW hK hent
  generalize ([Sum.inr (Sum.inr a), .inl (nI n), .inr (.inr (D.2 20 0 + 1))].map ox_val).toArray = arr at k w5 ⊢
  rw [List.map_cons, List.map_cons, ev] at k
  rw [List.map_cons, ev]
  exact va_ldcM bx bb hown w5 hM (by decide +kernel) k
