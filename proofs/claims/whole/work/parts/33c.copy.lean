/-! Arrays.copyOf of objects: the outer method -/
def oc_E (m : Nat) : ox_E := fun j as mc ms S Q => j = 230 ∧ ∃ a n, as = [.inr (.inr a), .inl (nI n), .inr (.inr (m + 1))] ∧ S.K a = 20 ∧ a ≠ S.n ∧ S.len a < n ∧ n ≤ 67108864 ∧ (∀ j, j < S.len a → S.K (S.rR a j) = 3 ∧ S.rR a j < S.n) ∧ 1 ≤ mc ∧ n ≤ ms ∧ Q (some (.inr (.inr S.n))) (oCpr S a n)
set_option maxRecDepth 20000 in
set_option maxHeartbeats 4000000 in
theorem oc_m229 {l : Launch} {D : va_G} {y : Nat → ClassId} {b : Nat} {ro : ox_St} (hOb : ∀ U, ox_KX D y b ro U → va_Ob D U) {d mc ms a n : Nat} {S : ox_St} {Q : ox_Q} (hK20 : S.K a = 20) (haS : a ≠ S.n) (hn : S.len a < n) (hbig : n ≤ 67108864) (el : ∀ j, j < S.len a → S.K (S.rR a j) = 3 ∧ S.rR a j < S.n) (hmc : 1 ≤ mc) (hms : n ≤ ms) (hQ : Q (some (.inr (.inr S.n))) (oCpr S a n)) : ox_Met l D y b ro (d + 4) 229 [.inr (.inr a), .inl (nI n)] mc ms S Q := by
  obtain ⟨m1, m2, m3, m4⟩ := ox_vM_at (ox_vMs (j := 229) (by decide +kernel))
  refine Met.ofW (cc := (ox_mi 229).2.1) (maxL := 2) (ret := (ox_mi 229).2.2.2.1) m2 rfl ?_
  intro p e s m args below meth c s₁ B hml hv
  obtain ⟨rfl, hW, hK⟩ := hv
  obtain ⟨hM, hDc⟩ := hOb _ hK
  have hts0 := atoms_spec B.pre
  have hts : ∀ w ∈ ox_T0, w.before ([Sum.inr (Sum.inr a), .inl (nI n)].map ox_val).toArray s = true := fun w hw => hts0 w (List.mem_cons_of_mem _ hw)
  have hown : s.vm.findClass "java/util/Arrays" = some m.cls := findClass_of_methodNamed B.named
  have hE : ∀ j as mc ms S Q, oc_E (D.2 20 0) j as mc ms S Q → ox_Met l D y b ro (d + 3) j as mc ms S Q := by
    rintro j as mc ms S Q ⟨rfl, a, n, rfl, h1, h2, h3, h4, h5, h6, h7, h8⟩
    exact oc_m230 hOb h1 h2 h3 h4 h5 h6 h7 h8
  have seg := fun (stop : List Nat) => oz_seg_ok (E := oc_E (D.2 20 0)) (meth := meth) (l := l) (e := e) (below := below) (R := ox_rm (d + 4) mc ms) (Q := MQ below (ox_Qc D y b ro Q) ([Sum.inr (Sum.inr a), .inl (nI n)].map ox_val).toArray s mc ms (fun q => b ≤ q)) (d := d + 3) B.exec B.bytes hml hown hts hK ⟨Nat.le_refl _, Nat.le_refl _⟩ hE (code := oc_c229) (by decide +kernel) (stop := stop) (fun _ _ _ _ _ _ h => h)
  rw [lg_entry_eq]
  have hent := lv_entry ([Sum.inr (Sum.inr a), .inl (nI n)].map ox_val) (n := 2) (by rw [ox_sl_len]; exact (show 1 + (1 + 0) ≤ 2 by decide))
  generalize (lg_sl ([Sum.inr (Sum.inr a), .inl (nI n)].map ox_val) ++ List.replicate (2 - (lg_sl ([Sum.inr (Sum.inr a), .inl (nI n)].map ox_val)).length) Slot.unset).toArray = ls at hent ⊢
  have hl : ox_lh ls 2 (ox_loc 2 [.inr (.inr a), .inl (nI n)]) := by
    refine ⟨hent.1, hent.2.1, fun i v hi => ?_⟩
    have := ox_get_args [.inr (.inr a), .inl (nI n)] _ 0 i v hi
    rw [Nat.zero_add] at this
    exact hent.2.2 _ this
  suffices main : ox_X p l e (ox_rm (d + 4) mc ms) s m ([Sum.inr (Sum.inr a), .inl (nI n)].map ox_val).toArray below meth c (MQ below (ox_Qc D y b ro Q) ([Sum.inr (Sum.inr a), .inl (nI n)].map ox_val).toArray s mc ms (fun q => b ≤ q)) D y b ro 2 0 (ox_loc 2 [.inr (.inr a), .inl (nI n)]) [] S mc ms from
    main s.heap [] 0 0 ls hW va_S.rf hl (Nat.le_of_eq (Nat.zero_add mc)) (Nat.le_of_eq (Nat.zero_add ms))
  have after : ox_X p l e (ox_rm (d + 4) mc ms) s m ([Sum.inr (Sum.inr a), .inl (nI n)].map ox_val).toArray below meth c (MQ below (ox_Qc D y b ro Q) ([Sum.inr (Sum.inr a), .inl (nI n)].map ox_val).toArray s mc ms (fun q => b ≤ q)) D y b ro 2 6 [some (.inr (.inr a)), some (.inl (nI n))] [.inr (.inr (D.2 20 0 + 1)), .inl (nI n), .inr (.inr a)] S mc ms := by
    refine seg [9] 4 6 _ _ _ _ _ ?_
    refine ⟨(show 3 ≤ 3 by decide), (show 0 ≤ 8 by decide), mc, ms, Nat.le_refl _, Nat.le_refl _, rfl, a, n, rfl, hK20, haS, hn, hbig, el, hmc, hms, ?_⟩
    intro H locs cells slots ls hW hS hl h1 h2
    refine W.widen (k := mc) (n := ms) (by show cells ≤ mc; have : cells + (mc - mc) ≤ mc := h1; omega) (by show slots ≤ ms; have : slots + (ms - ms) ≤ ms := h2; omega) ?_
    have hx2 : ox_val (.inr (.inr S.n)) = .null ∨ ∃ q, ox_val (.inr (.inr S.n)) = .ref q := by
      by_cases hz : S.n = 0
      · rw [hz]; exact Or.inl rfl
      · exact Or.inr ⟨S.n - 1, ox_rfs hz⟩
    exact W.aret B.exec B.bytes B.returns (Or.inr ⟨_, rfl⟩) hx2 (fun t ht hWm => ⟨⟨some (.inr (.inr S.n)), _, rfl, hQ, by rw [ht]; exact hW⟩, hS.F ht⟩) hS.2.2 (by decide +kernel) B.notSynchronized
  refine seg [3] 20 0 _ _ _ _ _ ?_
  show ox_X p l e (ox_rm (d + 4) mc ms) s m ([Sum.inr (Sum.inr a), .inl (nI n)].map ox_val).toArray below meth c (MQ below (ox_Qc D y b ro Q) ([Sum.inr (Sum.inr a), .inl (nI n)].map ox_val).toArray s mc ms (fun q => b ≤ q)) D y b ro 2 3 [some (.inr (.inr a)), some (.inl (nI n))] [.inr (.inr a), .inl (nI n), .inr (.inr a)] S mc ms
  intro H locs cells slots ls hW hS hl h1 h2
  have z0 : S.K a ≠ 0 := by omega
  have ea : ox_val (.inr (.inr a)) = .ref (a - 1) := ox_rfs (hW.nz z0)
  have ev : ox_val (.inr (.inr (D.2 20 0 + 1))) = .ref (D.2 20 0) := ox_rfs (Nat.succ_ne_zero _)
  have hc0 := (hW.at0 z0 (by omega)).2.2
  rw [ox_ent_r (by omega), hK20] at hc0
  replace hc0 : H[a - 1]? = some (vp_cell (y 5) (S.len a, .inr (.inr (.inr (.inr (fun j => ox_op (S.rR a j))))))) := hc0
  have ty : (ox_tys y)[5]? = some (y 5, .object "java/lang/Object") := rfl
  have fc : s.vm.findClass "[Ljava/lang/Object;" = some (y 5) := va_nmO (hK.1.2 5 _ ty).2 (by decide)
  have k := after H locs cells slots ls hW hS hl h1 h2
  have w6 := hts _ oc_w6
  have w7 := hts _ oc_w7
  have w8 := hts _ oc_w8
  have w9 := hts _ oc_w9
  have wd : (Cond.declares ⟨"java/lang/Object", "getClass", "()Ljava/lang/Class;"⟩).before ([Sum.inr (Sum.inr a), .inl (nI n)].map ox_val).toArray s = true := hDc.use
  have bx := B.exec
  have bb := B.bytes
  clear seg after hts hts0 B hW hK hent hE
  generalize ([Sum.inr (Sum.inr a), .inl (nI n)].map ox_val).toArray = arr at k w6 w7 w8 w9 wd ⊢
  rw [List.map_cons, List.map_cons, List.map_cons, ev, ea] at k
  rw [List.map_cons, List.map_cons, List.map_cons, ea]
  exact va_getC bx bb (by rw [hml]; exact hl.1.symm) hown w6 wd w7 w8 w9 hM ⟨_, hc0, rfl, fc⟩ (show 1 ≤ d + 4 by omega) (by
    show _ + 14 ≤ 64 * (d + 4)
    have : (([ox_val (.inl (nI n)), Value.ref (a - 1)] : List Value).map fun v => v.category).sum = 2 := rfl
    have h2' : ((ox_val (.inl (nI n)) :: Value.ref (a - 1) :: List.map ox_val []).map fun v => v.category).sum = 2 := rfl
    rw [h2']
    omega) (by decide +kernel) k
