/-! the start: what the law's entry gives of the machine -/
theorem lw_len {args : Array Value} {s : State} {tm : Term} {N : Nat} (hN : N < 2 ^ 31) (h : (Cond.eq (.length tm) (.int (Int32.ofNat N))).before args s = true) : ∃ (t : Nat) (cell : Cell), tm.eval args s none [] s = some (.ref t) ∧ s.arrayAt? t = some cell ∧ cell.slots.size = N := by
  simp only [Cond.before, Cond.holds, Cond.value, Term.eval] at h
  cases ht : tm.eval args s none [] s with
  | none => simp [ht] at h
  | some v =>
    cases v with
    | ref t =>
      cases hc : s.arrayAt? t with
      | none => simp [ht, hc] at h
      | some cell =>
        refine ⟨t, cell, rfl, hc, ?_⟩
        by_cases hs : cell.slots.size < 2 ^ 31
        · simp [ht, hc] at h
          rw [if_pos (by simpa using hs)] at h
          have h2 : Int32.ofNat cell.slots.size = Int32.ofNat N := by simpa using h
          have h3 := congrArg Int32.toNatClampNeg h2
          rw [Int32.toNatClampNeg_ofNat_of_lt hs, Int32.toNatClampNeg_ofNat_of_lt hN] at h3
          exact h3
        · simp [ht, hc] at h
          rw [if_neg (by simpa using hs)] at h
          simp at h
    | _ => simp [ht] at h
theorem lw_elem {args : Array Value} {s : State} {tm : Term} {t j : Nat} {x : Int64} {cell : Cell} (hj : j < 2 ^ 31) (ht : tm.eval args s none [] s = some (.ref t)) (hc : s.arrayAt? t = some cell) (h : (Cond.eq (.elem tm (.int (Int32.ofNat j))) (.long x)).before args s = true) : cell.slots[j]? = some (.long x) := by
  cases hv : (Term.elem tm (.int (Int32.ofNat j))).eval args s none [] s with
  | none =>
    simp only [Cond.before, Cond.holds, Cond.value, hv] at h
    simp at h
  | some v =>
    have hx : v = .long x := by
      have e2 : (Term.long x).eval args s none [] s = some (.long x) := rfl
      simp only [Cond.before, Cond.holds, Cond.value, hv, e2] at h
      cases v <;> simp at h
      rw [h]
    subst hx
    obtain ⟨a, i, cell2, h1, h2, h3, h4, h5⟩ := Term.elem_spec hv
    cases ht.symm.trans h1
    cases hc.symm.trans h3
    have hi : i = Int32.ofNat j := by
      have e : (Term.int (Int32.ofNat j)).eval args s none [] s = some (.int (Int32.ofNat j)) := rfl
      cases h2.symm.trans e
      rfl
    rw [hi, Int32.toNatClampNeg_ofNat_of_lt hj] at h5
    exact h5
/-- places of the classes' words, by kind -/
def lw_inst : List (Nat × Nat) := [(162, 3), (286, 3), (615, 7), (301, 9), (1132, 3), (189, 11), (229, 17), (265, 4), (1167, 5), (592, 4), (238, 2), (1064, 4), (154, 9), (1204, 73)]
set_option maxRecDepth 100000 in
theorem lw_inst_ok : ∀ κ, κ < 14 → lw_tbl[(lw_inst.getD κ (0, 0)).1]? = some (.instantiable (ox_kn (κ + 1)) (lw_inst.getD κ (0, 0)).2) := by decide +kernel
theorem lw_D {args : Array Value} {s : State} (hts : ∀ w ∈ lw_tbl, w.before args s = true) : ∃ D : va_G, ∀ (c : Nat) (q : vw_C), ox_cl[c]? = some q → u_Kn s q.1 q.2.1 q.2.2 (D.1 c) (D.2 c) := by
  have h : ∀ c : Nat, ∃ x : ClassId × (Nat → Nat), c < 14 → u_Kn s (ox_kn (c + 1)) (ox_T (c + 1)) (ox_kf (c + 1)).length x.1 x.2 := by
    intro c
    by_cases hc : c < 14
    · obtain ⟨cC, iS, hk⟩ := u_known (ws := lw_tbl) (n := (lw_inst.getD c (0, 0)).2) (C := ox_kn (c + 1)) (T := ox_T (c + 1)) (N := (ox_kf (c + 1)).length) hts (fun w hw => (List.mem_filter.mp (ox_hin (show c + 1 < 15 by omega) w hw)).1) (hts _ (List.mem_of_getElem? (lw_inst_ok c hc)))
      exact ⟨(cC, iS), fun _ => hk⟩
    · exact ⟨(0, fun _ => 0), fun q => absurd q hc⟩
  refine ⟨(fun c => (Classical.choose (h c)).1, fun c => (Classical.choose (h c)).2), fun c q hq => ?_⟩
  have hc : c < 14 := by
    have := (List.getElem?_eq_some_iff.mp hq).1
    simpa [ox_cl] using this
  have e := ox_cl_at (κ := c + 1) (by omega) (by omega)
  rw [show c + 1 - 1 = c by omega] at e
  cases e.symm.trans hq
  exact Classical.choose_spec (h c) hc
theorem lw_arrT {s : State} {cA comp : ClassId} {k : Class} {ty : FieldType} (h1 : s.vm.classes[cA]? = some k) (h2 : k.kind = .array comp ty) : ArrOfT s cA ty := fun n z => ⟨fun k h => (by cases h), k, h1, comp, h2⟩
set_option maxRecDepth 100000 in
theorem lw_aw : lw_tbl[187]? = some (.arrayClass .int) ∧ lw_tbl[257]? = some (.arrayClass .long) ∧ lw_tbl[1430]? = some (.arrayClass .boolean) ∧ lw_tbl[235]? = some (.arrayOver (.object "OpcodeFrames$Frame")) ∧ lw_tbl[237]? = some (.arrayOver (.object "OpcodeFrames$Value")) ∧ lw_tbl[696]? = some (.arrayOver (.object "java/lang/Object")) := by decide +kernel
theorem lw_y {args : Array Value} {s : State} (hts : ∀ w ∈ lw_tbl, w.before args s = true) : ∃ y : Nat → ClassId, ∀ (k : Nat) (q : ClassId × FieldType), (ox_tys y)[k]? = some q → ArrOfT s q.1 q.2 ∧ va_RA s q.1 q.2 := by
  obtain ⟨w1, w2, w3, w4, w5, w6⟩ := lw_aw
  obtain ⟨c1, k1, p1, f1, g1, h1⟩ := Cond.arrayClass_spec (hts _ (List.mem_of_getElem? w1))
  obtain ⟨c2, k2, p2, f2, g2, h2⟩ := Cond.arrayClass_spec (hts _ (List.mem_of_getElem? w2))
  obtain ⟨c3, k3, p3, f3, g3, h3⟩ := Cond.arrayClass_spec (hts _ (List.mem_of_getElem? w3))
  obtain ⟨p4, c4, k4, e4, -, g4, h4, f4⟩ := Cond.arrayOver_spec (hts _ (List.mem_of_getElem? w4))
  obtain ⟨p5, c5, k5, e5, -, g5, h5, f5⟩ := Cond.arrayOver_spec (hts _ (List.mem_of_getElem? w5))
  obtain ⟨p6, c6, k6, e6, -, g6, h6, f6⟩ := Cond.arrayOver_spec (hts _ (List.mem_of_getElem? w6))
  refine ⟨fun n => match n with
    | 0 => c1
    | 1 => c2
    | 2 => c3
    | 3 => c4
    | 4 => c5
    | _ => c6, fun k q hq => ?_⟩
  match k, hq with
  | 0, hq => cases hq; exact ⟨lw_arrT g1 h1, f1⟩
  | 1, hq => cases hq; exact ⟨lw_arrT g2 h2, f2⟩
  | 2, hq => cases hq; exact ⟨lw_arrT g3 h3, f3⟩
  | 3, hq => cases hq; exact ⟨lw_arrT g4 h4, k4, p4, g4, h4, e4, f4⟩
  | 4, hq => cases hq; exact ⟨lw_arrT g5 h5, k5, p5, g5, h5, e5, f5⟩
  | 5, hq => cases hq; exact ⟨lw_arrT g6 h6, k6, p6, g6, h6, e6, f6⟩
  | _ + 6, hq => cases hq
abbrev lw_gv : Cond := Jvm.Cond.and given_1 narrow_1
set_option maxRecDepth 100000 in
set_option maxHeartbeats 4000000 in
theorem lw_ncs : ∀ a ∈ ox_vks, ∀ b ∈ ox_vks, ox_nc (a, b) = true → (flatC lw_gv).contains (.not (.castable a b)) = true := by decide +kernel
set_option maxRecDepth 100000 in
set_option maxHeartbeats 4000000 in
theorem lw_ncx : (flatC lw_gv).contains (.not (.castable oz_IA oz_IS)) = true ∧ (flatC lw_gv).contains (.not (.castable oz_IS oz_IA)) = true := by decide +kernel
abbrev lw_tE : Term := .static "java/util/ArrayList" "DEFAULTCAPACITY_EMPTY_ELEMENTDATA" "[Ljava/lang/Object;"
abbrev lw_tN : Term := .static "OpcodeFrames" "NAMES_OF_KINDS" "[J"
def lw_nm : List Int64 := [7633264, 2053468783, 452823639416, 508440638821, 1851878757, 1684366704, 1870030194]
set_option maxRecDepth 100000 in
set_option maxHeartbeats 4000000 in
theorem lw_gvs : ((flatC lw_gv).contains (.arrayOf lw_tE (.object "java/lang/Object")) && (flatC lw_gv).contains (.eq (.length lw_tE) (.int (Int32.ofNat 0))) && (flatC lw_gv).contains (.arrayOf lw_tN .long) && (flatC lw_gv).contains (.eq (.length lw_tN) (.int (Int32.ofNat 7))) && (List.range 7).all (fun j => (flatC lw_gv).contains (.eq (.elem lw_tN (.int (Int32.ofNat j))) (.long (lw_nm.getD j 0)))) && (flatC lw_gv).contains (.isRef (.static Bundle.tN "UNASSIGNED_STACK" Bundle.steD)) && (flatC lw_gv).contains (.isRef (.static Bundle.tN "SUPPRESSED_SENTINEL" Bundle.listD))) = true := by decide +kernel
set_option maxRecDepth 100000 in
set_option maxHeartbeats 4000000 in
theorem lw_sws : ([.laysStatic "java/util/ArrayList" "DEFAULTCAPACITY_EMPTY_ELEMENTDATA" "[Ljava/lang/Object;", .initialized "java/util/ArrayList", .laysStatic "OpcodeFrames" "NAMES_OF_KINDS" "[J", .initialized "OpcodeFrames", .laysStatic Bundle.tN "UNASSIGNED_STACK" Bundle.steD, .initialized Bundle.tN, .laysStatic Bundle.tN "SUPPRESSED_SENTINEL" Bundle.listD, .stringRef "OpcodeFrames" 56 "the tape holds no CODE", .stringRef "OpcodeFrames" 67 "a CODE is not as it must be", .stringRef "OpcodeFrames" 77 "there is no CODE under way", .stringRef "OpcodeFrames" 79 "n is not 1 .. 200"] : List Cond).all (fun w => lw_tbl.contains w) = true := by decide +kernel
/-- the picture at the start: the script, the names, the empty row -/
def lw_S0 (n bs t1 t2 L : Nat) (xs : Nat → Int32) : ox_St := ox_mk n (fun a => if a = bs + 1 then 21 else if a = t1 + 1 then 22 else if a = t2 + 1 then 23 else 0) (fun a => if a = bs + 1 then L else if a = t1 + 1 then 7 else 0) (fun _ _ => 0) (fun F a => if F = 142 ∧ a = 0 then t2 + 1 else if F = 143 ∧ a = 0 then t1 + 1 else 0) (fun _ _ => 0) (fun a j => if a = bs + 1 then xs j else 0) (fun _ _ => 0) (fun a j => if a = t1 + 1 then lw_nm.getD j 0 else 0)
theorem lw_arr1 {s : State} {c : Cell} {ty ty' : FieldType} (h1 : s.isArrayOf c ty) (h2 : s.isArrayOf c ty') : ty = ty' := by
  obtain ⟨-, k, hk, p, e⟩ := h1
  obtain ⟨-, k', hk', p', e'⟩ := h2
  cases hk.symm.trans hk'
  rw [e] at e'
  cases e'
  rfl
theorem lw_strR {args : Array Value} {s : State} {own text : String} {k : Nat} {cur : ClassId} (hc : s.vm.findClass own = some cur) (h : (Cond.stringRef own k text).before args s = true) : ∃ a, vk_R own k text a s := by
  obtain ⟨k', cf, i, a, -, -, -, -, -, h9⟩ := Cond.stringRef_spec hc h
  exact ⟨a, vk_R.of h h9⟩
theorem lw_mir : (flatC lw_gv).contains (.isRef (.mirror "[Ljava/lang/Object;")) = true := by decide +kernel
theorem lw_dcl : lw_tbl.contains (.declares ⟨"java/lang/Object", "getClass", "()Ljava/lang/Class;"⟩) = true := by decide +kernel
theorem lw_D2 {args : Array Value} {s : State} (hts : ∀ w ∈ lw_tbl, w.before args s = true) (mi : Nat) : ∃ D : va_G, (∀ (c : Nat) (q : vw_C), ox_cl[c]? = some q → u_Kn s q.1 q.2.1 q.2.2 (D.1 c) (D.2 c)) ∧ D.2 20 0 = mi := by
  obtain ⟨D, hD⟩ := lw_D hts
  refine ⟨(D.1, fun c => if c = 20 then (fun _ => mi) else D.2 c), fun c q hq => ?_, rfl⟩
  have hc : c < 14 := by
    have := (List.getElem?_eq_some_iff.mp hq).1
    simpa [ox_cl] using this
  have e : (if c = 20 then (fun _ => mi) else D.2 c) = D.2 c := if_neg (by omega)
  show u_Kn s q.1 q.2.1 q.2.2 (D.1 c) (if c = 20 then (fun _ => mi) else D.2 c)
  rw [e]
  exact hD c q hq
def lw_W0 (s : State) (bs L : Nat) (xs : Nat → Int32) (D : va_G) (y : Nat → ClassId) (t1 t2 : Nat) : Prop := (bs ≠ t1 ∧ bs ≠ t2 ∧ t1 ≠ t2) ∧ ox_KX D y s.heap.size (lw_S0 (s.heap.size + 1) bs t1 t2 L xs) s ∧ oz_Z s.heap.size s ∧ oz_N s ∧ ox_W D y s.heap.size (lw_S0 (s.heap.size + 1) bs t1 t2 L xs) (lw_S0 (s.heap.size + 1) bs t1 t2 L xs) s.heap ∧ t1 < s.heap.size ∧ t2 < s.heap.size
set_option maxHeartbeats 4000000 in
theorem lw_start0 {args : Array Value} {s : State} {bs L : Nat} {xs : Nat → Int32} (hts : ∀ w ∈ lw_tbl, w.before args s = true) (hX : va_X bs L xs s s.heap) (hgv : lw_gv.before args s = true) : ∃ D y t1 t2, lw_W0 s bs L xs D y t1 t2 := by
  have hfl := flat_of_before _ hgv
  have hf : ∀ {w : Cond}, (flatC lw_gv).contains w = true → w.before args s = true := fun h => hfl _ (List.contains_iff_mem.mp h)
  obtain ⟨mi, hmi⟩ := va_Mi.of (hf lw_mir)
  obtain ⟨D, hD, hDm⟩ := lw_D2 hts mi
  have hob : va_Ob D s := ⟨by rw [hDm]; exact hmi, va_Dc.of (hts _ (List.contains_iff_mem.mp lw_dcl))⟩
  obtain ⟨y, hy⟩ := lw_y hts
  have hg := lw_gvs
  simp only [Bool.and_eq_true, List.all_eq_true] at hg
  obtain ⟨⟨⟨⟨⟨⟨q1, q2⟩, q3⟩, q4⟩, q5⟩, q6⟩, q7⟩ := hg
  have hs := lw_sws
  rw [List.all_eq_true] at hs
  have hw : ∀ {w : Cond}, w ∈ ([.laysStatic "java/util/ArrayList" "DEFAULTCAPACITY_EMPTY_ELEMENTDATA" "[Ljava/lang/Object;", .initialized "java/util/ArrayList", .laysStatic "OpcodeFrames" "NAMES_OF_KINDS" "[J", .initialized "OpcodeFrames", .laysStatic Bundle.tN "UNASSIGNED_STACK" Bundle.steD, .initialized Bundle.tN, .laysStatic Bundle.tN "SUPPRESSED_SENTINEL" Bundle.listD, .stringRef "OpcodeFrames" 56 "the tape holds no CODE", .stringRef "OpcodeFrames" 67 "a CODE is not as it must be", .stringRef "OpcodeFrames" 77 "there is no CODE under way", .stringRef "OpcodeFrames" 79 "n is not 1 .. 200"] : List Cond) → w.before args s = true := fun h => hts _ (List.contains_iff_mem.mp (hs _ h))
  obtain ⟨t2, c2, e2, a2, z2⟩ := lw_len (by decide) (hf q2)
  obtain ⟨t1, c1, e1, a1, z1⟩ := lw_len (by decide) (hf q4)
  obtain ⟨b2, u2, -, -⟩ := State.arrayAt?_spec a2
  obtain ⟨b1, u1, -, -⟩ := State.arrayAt?_spec a1
  obtain ⟨o2, -⟩ := Cond.arrayOf_spec (hf q1) e2 b2
  obtain ⟨o1, -⟩ := Cond.arrayOf_spec (hf q3) e1 b1
  obtain ⟨cs, bS, oS, uS, zS, vS⟩ := hX
  have lS : bs < s.heap.size := (Array.getElem?_eq_some_iff.mp bS).1
  have l1 : t1 < s.heap.size := (Array.getElem?_eq_some_iff.mp b1).1
  have l2 : t2 < s.heap.size := (Array.getElem?_eq_some_iff.mp b2).1
  have n1 : bs ≠ t1 := fun e => by
    subst e
    cases bS.symm.trans b1
    cases lw_arr1 oS o1
  have n2 : bs ≠ t2 := fun e => by
    subst e
    cases bS.symm.trans b2
    cases lw_arr1 oS o2
  have n3 : t1 ≠ t2 := fun e => by
    subst e
    cases b1.symm.trans b2
    cases lw_arr1 o1 o2
  have hlow : ∀ a : Nat, a < s.heap.size → ¬ s.heap.size ≤ a := fun a h => Nat.not_le.mpr h
  have kcl : ∃ c, s.vm.findClass "OpcodeFrames" = some c := by
    have := hD 12 _ rfl
    exact ⟨_, this.2.1⟩
  obtain ⟨cof, hof⟩ := kcl
  refine ⟨D, y, t1, t2, ⟨n1, n2, n3⟩, ⟨⟨hD, hy⟩, ?_, ?_, ?_, ?_, ?_, ?_⟩, ⟨?_, ?_, ?_, ?_, ?_, ?_, ?_⟩, ⟨va_Nc.of (hf lw_ncx.1), va_Nc.of (hf lw_ncx.2)⟩, ?_, l1, l2⟩
  · exact fun w hw hn => va_Nw.of (by cases w <;> first | rfl | cases hn) (hts w hw)
  · intro q hq
    have h2 := hq
    simp only [ox_nc, Bool.and_eq_true, List.contains_iff_mem] at h2
    exact va_Nc.of (hf (lw_ncs q.1 h2.1.1.1 q.2 h2.1.1.2 hq))
  · intro κ h1 h2
    refine ⟨?_, hob⟩
    obtain ⟨-, -, -, w4, w5, w6⟩ := lw_aw
    rcases (show κ = 18 ∨ κ = 19 ∨ κ = 20 by omega) with rfl | rfl | rfl
    · exact va_AO.of (hts _ (List.mem_of_getElem? w4))
    · exact va_AO.of (hts _ (List.mem_of_getElem? w5))
    · exact va_AO.of (hts _ (List.mem_of_getElem? w6))
  · intro a ha
    have hk : (lw_S0 (s.heap.size + 1) bs t1 t2 L xs).K a = if a = bs + 1 then 21 else if a = t1 + 1 then 22 else if a = t2 + 1 then 23 else 0 := rfl
    have hl : (lw_S0 (s.heap.size + 1) bs t1 t2 L xs).len a = if a = bs + 1 then L else if a = t1 + 1 then 7 else 0 := rfl
    by_cases h1 : a = bs + 1
    · have ek : (lw_S0 (s.heap.size + 1) bs t1 t2 L xs).K a = 21 := by rw [hk, if_pos h1]
      rw [ek, hl, if_pos h1]
      refine ⟨by decide, by omega, cs, by rw [show a - 1 = bs by omega]; exact bS, oS, uS, zS, fun j hj => ?_⟩
      rw [vS j hj, ox_rov, ek, if_pos rfl]
      show some (Value.int (xs j)) = some (Value.int (if a = bs + 1 then xs j else 0))
      rw [if_pos h1]
    · by_cases h2 : a = t1 + 1
      · have ek : (lw_S0 (s.heap.size + 1) bs t1 t2 L xs).K a = 22 := by rw [hk, if_neg h1, if_pos h2]
        rw [ek, hl, if_neg h1, if_pos h2]
        refine ⟨by decide, by omega, c1, by rw [show a - 1 = t1 by omega]; exact b1, o1, u1, z1, fun j hj => ?_⟩
        rw [lw_elem (show j < 2 ^ 31 by omega) e1 a1 (hf (q5 j (List.mem_range.mpr hj))), ox_rov, ek, if_neg (by decide), if_pos rfl]
        show some (Value.long (lw_nm.getD j 0)) = some (Value.long (if a = t1 + 1 then lw_nm.getD j 0 else 0))
        rw [if_pos h2]
      · by_cases h3 : a = t2 + 1
        · have ek : (lw_S0 (s.heap.size + 1) bs t1 t2 L xs).K a = 23 := by rw [hk, if_neg h1, if_neg h2, if_pos h3]
          rw [ek, hl, if_neg h1, if_neg h2]
          exact ⟨by decide, by omega, c2, by rw [show a - 1 = t2 by omega]; exact b2, o2, u2, z2, fun j hj => absurd hj (Nat.not_lt_zero j)⟩
        · rw [hk, if_neg h1, if_neg h2, if_neg h3] at ha
          omega
  · have e5 : ox_rf ((lw_S0 (s.heap.size + 1) bs t1 t2 L xs).R 142 0) = .ref t2 := ox_rfs (a := t2 + 1) (by omega)
    rw [e5]
    exact va_Zof (hw (by simp)) (hw (by simp)) e2 hlow
  · have e5 : ox_rf ((lw_S0 (s.heap.size + 1) bs t1 t2 L xs).R 143 0) = .ref t1 := ox_rfs (a := t1 + 1) (by omega)
    rw [e5]
    exact va_Zof (hw (by simp)) (hw (by simp)) e1 hlow
  · exact vx_Zqof (hw (by simp)) (hw (by simp)) (hf q6) hlow
  · exact vx_Zqof (hw (by simp)) (hw (by simp)) (hf q7) hlow
  · exact lw_strR hof (hw (by simp))
  · exact lw_strR hof (hw (by simp))
  · exact lw_strR hof (hw (by simp))
  · exact lw_strR hof (hw (by simp))
  · exact fun w hw hn => va_Nw.of (by cases w <;> first | rfl | cases hn) (hts w hw)
  · refine ⟨rfl, by omega, Nat.le_refl _, fun a h0 h20 => ?_, fun a _ => ⟨rfl, rfl, rfl, rfl⟩, ⟨rfl, rfl⟩, ?_⟩
    · exfalso
      have hk : (lw_S0 (s.heap.size + 1) bs t1 t2 L xs).K a = if a = bs + 1 then 21 else if a = t1 + 1 then 22 else if a = t2 + 1 then 23 else 0 := rfl
      rw [hk] at h0 h20
      split at h20
      · omega
      · split at h20
        · omega
        · split at h20
          · omega
          · simp_all
    · show (if (0 : Nat) = bs + 1 then 21 else if (0 : Nat) = t1 + 1 then 22 else if (0 : Nat) = t2 + 1 then 23 else 0) = 0
      rw [if_neg (by omega), if_neg (by omega), if_neg (by omega)]
