/-! calls: the words that each needs, and its step -/
def ox_iw (w : Cond) (i : Nat) : Bool := decide (lw_tbl[i]? = some w) && goodWord w
theorem ox_iw_in {w : Cond} {i : Nat} (h : ox_iw w i = true) : w ∈ ox_T0 := by
  simp only [ox_iw, Bool.and_eq_true, decide_eq_true_eq] at h
  exact ox_in h.1 h.2
/-- kinds of a virtual call: kind, method, places of 'selects', 'instanceMethod', 'initialized' -/
def ox_vK (x : MethodName) (n : Nat) : List Nat → Bool
  | q :: j :: p1 :: p2 :: p3 :: t => decide (q ≠ 0 ∧ q < 15) && ox_jok j && ox_iw (.selects (ox_kn q) x (ox_mi j).1) p1 && ox_iw (.instanceMethod (ox_mi j).1) p2 && ox_iw (.initialized (ox_mi j).1.cls) p3 && ox_vK x n t
  | [] => true
  | _ => false
def ox_vJ (own : String) (i : ClassFile.Instr) (ps : List Nat) : Bool := match ps with
  | [0, n, j, p1, p2, p3] => (match i with
    | .invokestatic idx => ox_jok j && ox_iw (.methodLink own idx (ox_mi j).1) p1 && ox_iw (.static (ox_mi j).1) p2 && ox_iw (.initialized (ox_mi j).1.cls) p3 && decide (ox_np (ox_mi j).1 = some n)
    | _ => false)
  | [1, n, j, p1, p2, p3] => (match i with
    | .invokespecial idx => ox_jok j && ox_iw (.methodLink own idx (ox_mi j).1) p1 && ox_iw (.instanceMethod (ox_mi j).1) p2 && ox_iw (.initialized (ox_mi j).1.cls) p3 && decide ((ox_np (ox_mi j).1).map (· + 1) = some n) && decide ((ox_mi j).1.name = "<init>" ∧ (ox_mi j).2.2.2.1 = none)
    | _ => false)
  | [2, n, j, q, p1, p2, p3, p4] => (match i with
    | .invokevirtual idx => decide (q ≠ 0 ∧ q < 15) && ox_jok j && ox_iw (.methodLink own idx (ox_mi j).1) p1 && ox_iw (.instanceMethod (ox_mi j).1) p2 && ox_iw (.selects (ox_kn q) (ox_mi j).1 (ox_mi j).1) p3 && ox_iw (.initialized (ox_mi j).1.cls) p4 && decide ((ox_np (ox_mi j).1).map (· + 1) = some n)
    | _ => false)
  | [3, n, j, p1, p2, p3] => (match i with
    | .invokespecial idx => ox_jok j && decide (lw_tbl[p1]? = some (.methodLinkNest own idx (ox_mi j).1 "OpcodeFrames")) && ox_iw (.instanceMethod (ox_mi j).1) p2 && ox_iw (.initialized (ox_mi j).1.cls) p3 && decide ((ox_np (ox_mi j).1).map (· + 1) = some n) && decide ((ox_mi j).1.name = "<init>" ∧ (ox_mi j).2.2.2.1 = none)
    | _ => false)
  | 4 :: n :: jx :: p1 :: p2 :: p3 :: t => (match i with
    | .invokevirtual idx => ox_jok jx && ox_iw (.methodLink own idx (ox_mi jx).1) p1 && ox_iw (.sameMethod (ox_mi jx).1.cls (ox_mi jx).1.cls (ox_mi jx).1.name (ox_mi jx).1.desc) p2 && ox_iw (.instanceMethod (ox_mi jx).1) p3 && decide ((ox_np (ox_mi jx).1).map (· + 1) = some n) && ox_vK (ox_mi jx).1 n t
    | _ => false)
  | [5, p1, p2, p3] => (match i with
    | .invokespecial idx => ox_iw (.methodLink own idx objectInit) p1 && ox_iw (.instanceMethod objectInit) p2 && ox_iw (.code objectInit ⟨#[0xb1]⟩ 1 none) p3
    | _ => false)
  | [6, o, p1, p2, p3, p4] => (match i with
    | .invokestatic idx => ox_iw (.initialized "java/lang/Math") p3 && (match o with
      | 0 => ox_iw (.methodLink own idx Lib.Math.max.name) p1 && ox_iw (.static Lib.Math.max.name) p2 && ox_iw (.code Lib.Math.max.name Lib.Math.max.code 2 (some .int)) p4
      | 1 => ox_iw (.methodLink own idx Lib.Math.min.name) p1 && ox_iw (.static Lib.Math.min.name) p2 && ox_iw (.code Lib.Math.min.name Lib.Math.min.code 2 (some .int)) p4
      | 2 => ox_iw (.methodLink own idx Lib.Math.abs.name) p1 && ox_iw (.static Lib.Math.abs.name) p2 && ox_iw (.code Lib.Math.abs.name Lib.Math.abs.code 1 (some .int)) p4
      | 3 => ox_iw (.methodLink own idx Lib.MathLoose.abs_long.x) p1 && ox_iw (.static Lib.MathLoose.abs_long.x) p2 && ox_iw (.code Lib.MathLoose.abs_long.x Lib.MathLoose.abs_long.code 2 (some .long)) p4
      | _ => false)
    | _ => false)
  | _ => false
theorem ox_np1 {x : MethodName} {n : Nat} (h : (ox_np x).map (· + 1) = some n) : ∃ k, ox_np x = some k ∧ n = k + 1 := by
  cases hx : ox_np x with
  | none => rw [hx] at h; cases h
  | some k => rw [hx] at h; exact ⟨k, rfl, (Option.some.inj h).symm⟩
section OXJ
variable {p : Program} {l : Launch} {e : Env} {R : Room} {s : State} {m : MethodId} {args : Array Value} {below : List Frame} {meth : Method} {c : Code} {Q : State → Prop} {D : va_G} {y : Nat → ClassId} {b nL : Nat} {ro : ox_St} {cc : ByteArray}
variable {pc mr sr : Nat} {L : ox_L} {st : List ox_V} {S : ox_St} {k : ox_K} {own : String} {ps : List Nat} {idx d : Nat} {E : ox_E}
/-- the arguments of a call, and what lies below -/
theorem ox_split {n : Nat} (st : List ox_V) : st.map ox_val = (((st.take n).reverse.map ox_val).reverse) ++ (st.drop n).map ox_val := by
  rw [← List.map_reverse, List.reverse_reverse, ← List.map_append, List.take_append_drop]
theorem ox_recv_at {as : List ox_V} {q : Nat → Prop} (h : ox_recv as q) : ∃ a t, as = .inr (.inr a) :: t ∧ q a := by
  unfold ox_recv at h
  split at h
  · exact ⟨_, _, rfl, h⟩
  · exact h.elim
/-- behind a call -/
theorem ox_behind (K : ∀ pc L st S mr sr, k pc L st S mr sr → ox_X p l e R s m args below meth c Q D y b ro nL pc L st S mr sr) {H : Heap} {locs : List Loc} {cells slots mc ms : Nat} {ls : Array Slot} {rest : List ox_V} {st0 : List Value} {a : Array Value} (hl : ox_lh ls nL L) (h1 : cells + mr ≤ R.cells) (h2 : slots + sr ≤ R.slots) (hmc : mc ≤ mr) (hms : ms ≤ sr) (hS : va_S (fun q => b ≤ q) s.heap H locs)
    (hr : va_Run p l e R s m args below meth c H locs cells slots mc ms (F0 m pc ls st0) (rest.map ox_val) (ox_Qc D y b ro (fun r S' => k (pc + 3) L (r.toList ++ rest) S' (mr - mc) (sr - ms)) a) (fun q => b ≤ q)) : W p l e R s m args below meth c H locs cells slots Q (F0 m pc ls st0) := by
  refine ox_callK hr hS (fun r S' H1 locs1 hq hW1 hS1 => ?_)
  have h3 := K _ _ _ _ _ _ hq H1 locs1 (cells + mc) (slots + ms) ls hW1 hS1 hl (by omega) (by omega)
  rw [List.map_append] at h3
  have e1 : (r.map ox_val).toList = r.toList.map ox_val := by cases r <;> rfl
  rw [e1]
  exact h3
theorem ox_o_inv (hx : p.tables.exec = Jvm.exec) (hb : c.code = cc) (hml : c.maxLocals = nL) (K : ∀ pc L st S mr sr, k pc L st S mr sr → ox_X p l e R s m args below meth c Q D y b ro nL pc L st S mr sr) (hown : s.vm.findClass own = some m.cls) (hts : ∀ w ∈ ox_T0, w.before args s = true) (hK : ox_KX D y b ro s) (hR : ox_Rd R d) (hE : ∀ j as mc ms S Q, E j as mc ms S Q → ox_Met l D y b ro d j as mc ms S Q)
    {i : ClassFile.Instr} (hv : ox_vJ own i ps = true) (hd : decode cc pc = .ok (i, 3))
    (h : ox_inv E ps st S mr sr (fun t S' mr' sr' => k (pc + 3) L t S' mr' sr')) : ox_X p l e R s m args below meth c Q D y b ro nL pc L st S mr sr := by
  intro H locs cells slots ls hW hS hl h1 h2
  have pre : ∀ (as : List ox_V), ∀ U : State, U.heap = H → s.WarmedH U.vm → ox_Pc D y b ro as S (as.map ox_val).toArray U := fun as U hU hWm => ⟨rfl, by rw [hU]; exact hW, hK.next hWm (fun q h1 h2 => by rw [hU]; exact hS.2.1 q h1 h2)⟩
  unfold ox_vJ at hv
  split at hv
  · rename_i n j p1 p2 p3
    cases i <;> first | cases hv | skip
    rename_i ix
    simp only [Bool.and_eq_true, decide_eq_true_eq] at hv
    obtain ⟨⟨⟨⟨v1, v2⟩, v3⟩, v4⟩, v5⟩ := hv
    obtain ⟨hn, hc, mc, ms, g1, g2, g3⟩ := h
    refine ox_behind K hl h1 h2 g1 g2 hS (va_runS (As := (st.take n).reverse.map ox_val) (rest := (st.drop n).map ox_val) ⟨hx, hb, hml, hown, hts⟩ (hE _ _ _ _ _ _ g3) ⟨ox_callB hR hts (ox_vMs v1) (ox_iw_in v4) (ox_iw_in v2) v5, hts _ (ox_iw_in v3)⟩ ⟨ox_blind, pre _⟩ rfl ?_ hl.1 (ox_split st) (ox_room hc _ rfl) hd ⟨by omega, by omega⟩)
    rw [List.length_map, List.length_reverse, List.length_take]
    omega
  · rename_i n j p1 p2 p3
    cases i <;> first | cases hv | skip
    rename_i ix
    simp only [Bool.and_eq_true, decide_eq_true_eq] at hv
    obtain ⟨⟨⟨⟨⟨v1, v2⟩, v3⟩, v4⟩, v5⟩, v6, v7⟩ := hv
    obtain ⟨np, hnp, hn1⟩ := ox_np1 v5
    obtain ⟨hn, hrc, hc, mc, ms, g1, g2, g3⟩ := h
    obtain ⟨a, as, has, ha0⟩ := ox_recv_at hrc
    have hM := hE _ _ _ _ _ _ g3
    have hsp := ox_split (n := n) st
    have hlen : (st.take n).reverse.length = n := by rw [List.length_reverse, List.length_take]; omega
    rw [has] at hM hsp hlen
    have ev : ox_val (.inr (.inr a)) = .ref (a - 1) := ox_rfs ha0
    refine ox_behind K hl h1 h2 g1 g2 hS (va_runI (As := as.map ox_val) (rest := (st.drop n).map ox_val) (b := a - 1) ⟨hx, hb, hml, hown, hts⟩ hM ⟨by have := ox_callB (own := own) (idx := ix) (mc := mc) (ms := ms) hR hts (ox_vMs v1) (ox_iw_in v4) (ox_iw_in v2) hnp; rw [v7] at this ⊢; exact this, v6, hts _ (ox_iw_in v3)⟩ ⟨ox_blind, fun U hU hWm => by have := pre (.inr (.inr a) :: as) U hU hWm; rw [List.map_cons, ev] at this; exact this⟩ rfl ?_ hl.1 ?_ (ox_room hc _ rfl) hd ⟨by omega, by omega⟩)
    · rw [List.length_map]; rw [List.length_cons] at hlen; omega
    · show st.map ox_val = _
      rw [hsp, List.map_cons, ev, List.reverse_cons, List.append_assoc]
      rfl
  · rename_i n j q p1 p2 p3 p4
    cases i <;> first | cases hv | skip
    rename_i ix
    simp only [Bool.and_eq_true, decide_eq_true_eq] at hv
    obtain ⟨⟨⟨⟨⟨⟨⟨q0, q15⟩, v1⟩, v2⟩, v3⟩, v4⟩, v5⟩, v6⟩ := hv
    obtain ⟨np, hnp, hn1⟩ := ox_np1 v6
    obtain ⟨hn, hrc, hc, mc, ms, g1, g2, g3⟩ := h
    obtain ⟨a, as, has, haK⟩ := ox_recv_at hrc
    have hM := hE _ _ _ _ _ _ g3
    have hsp := ox_split (n := n) st
    have hlen : (st.take n).reverse.length = n := by rw [List.length_reverse, List.length_take]; omega
    rw [has] at hM hsp hlen
    have hk0 : S.K a ≠ 0 := by rw [haK]; exact q0
    have hk15 : S.K a < 15 := by rw [haK]; exact q15
    have ev : ox_val (.inr (.inr a)) = .ref (a - 1) := ox_rfs (hW.nz hk0)
    have hrv := va_recv hK.1 (hW.obj hk0 hk15) (ox_cl_at hk0 hk15) (q0 := 0) rfl
    rw [haK] at hrv
    refine ox_behind K hl h1 h2 g1 g2 hS (va_runV (As := as.map ox_val) (rest := (st.drop n).map ox_val) (b := a - 1) (C := ox_kn q) ⟨hx, hb, hml, hown, hts⟩ hM ⟨ox_callB hR hts (ox_vMs v1) (ox_iw_in v5) (ox_iw_in v2) hnp, hts _ (ox_iw_in v3), hts _ (ox_iw_in v4)⟩ ⟨ox_blind, hrv, fun U hU hWm => by have := pre (.inr (.inr a) :: as) U hU hWm; rw [List.map_cons, ev] at this; exact this⟩ rfl ?_ hl.1 ?_ (ox_room hc _ rfl) hd ⟨by omega, by omega⟩)
    · rw [List.length_map]; rw [List.length_cons] at hlen; omega
    · show st.map ox_val = _
      rw [hsp, List.map_cons, ev, List.reverse_cons, List.append_assoc]
      rfl
  · rename_i n j p1 p2 p3
    cases i <;> first | cases hv | skip
    rename_i ix
    simp only [Bool.and_eq_true, decide_eq_true_eq] at hv
    obtain ⟨⟨⟨⟨⟨v1, v2⟩, v3⟩, v4⟩, v5⟩, v6, v7⟩ := hv
    obtain ⟨np, hnp, hn1⟩ := ox_np1 v5
    obtain ⟨hn, hrc, hc, mc, ms, g1, g2, g3⟩ := h
    obtain ⟨a, as, has, ha0⟩ := ox_recv_at hrc
    have hM := hE _ _ _ _ _ _ g3
    have hsp := ox_split (n := n) st
    have hlen : (st.take n).reverse.length = n := by rw [List.length_reverse, List.length_take]; omega
    rw [has] at hM hsp hlen
    have ev : ox_val (.inr (.inr a)) = .ref (a - 1) := ox_rfs ha0
    obtain ⟨m1, m2, m3, m4⟩ := ox_vM_at (ox_vMs v1)
    have hM' := hM
    unfold ox_Met at hM'
    rw [v7] at hM' m1
    refine ox_behind K hl h1 h2 g1 g2 hS (va_runIN (As := as.map ox_val) (rest := (st.drop n).map ox_val) (b := a - 1) (host := "OpcodeFrames") (n := np) ⟨hx, hb, hml, hown, hts⟩ hM' ⟨⟨⟨rfl, rfl, hR.1, by show 8 + ((ox_mi j).2.2.1 + 11) + 64 * d ≤ R.locals; have := hR.2; omega, ox_pay hts m1, List.mem_cons_self⟩, hts _ m1, hts _ (ox_iw_in v4), m4, ox_np_at hnp, va_Nw.use rfl (hK.2.1 _ (List.mem_of_getElem? v2) rfl)⟩, v6, hts _ (ox_iw_in v3)⟩ ⟨ox_blind, fun U hU hWm => by have := pre (.inr (.inr a) :: as) U hU hWm; rw [List.map_cons, ev] at this; exact this⟩ rfl ?_ hl.1 ?_ (ox_room hc _ rfl) hd ⟨by omega, by omega⟩)
    · rw [List.length_map]; rw [List.length_cons] at hlen; omega
    · show st.map ox_val = _
      rw [hsp, List.map_cons, ev, List.reverse_cons, List.append_assoc]
      rfl
  · rename_i n jx p1 p2 p3 t
    cases i <;> first | cases hv | skip
    rename_i ix
    simp only [Bool.and_eq_true, decide_eq_true_eq] at hv
    obtain ⟨⟨⟨⟨⟨v1, v2⟩, v3⟩, v4⟩, v5⟩, v6⟩ := hv
    obtain ⟨np, hnp, hn1⟩ := ox_np1 v5
    obtain ⟨hn, hrc⟩ := h
    obtain ⟨a, as, has, hrc⟩ := ox_recv_at hrc
    have hpk : ∀ t : List Nat, ox_vK (ox_mi jx).1 n t = true → ∀ j, ox_pick (S.K a) t = some j → (S.K a ≠ 0 ∧ S.K a < 15) ∧ ox_jok j = true ∧ Cond.selects (ox_kn (S.K a)) (ox_mi jx).1 (ox_mi j).1 ∈ ox_T0 ∧ Cond.instanceMethod (ox_mi j).1 ∈ ox_T0 ∧ Cond.initialized (ox_mi j).1.cls ∈ ox_T0 := by
      intro t
      induction t using ox_pick.induct (κ := S.K a) with
      | case1 j x1 x2 x3 t =>
        intro hv j' hj'
        simp only [ox_vK, Bool.and_eq_true, decide_eq_true_eq] at hv
        rw [ox_pick, if_pos rfl] at hj'
        cases hj'
        exact ⟨hv.1.1.1.1.1, hv.1.1.1.1.2, ox_iw_in hv.1.1.1.2, ox_iw_in hv.1.1.2, ox_iw_in hv.1.2⟩
      | case2 q j x1 x2 x3 t hne ih =>
        intro hv j' hj'
        simp only [ox_vK, Bool.and_eq_true, decide_eq_true_eq] at hv
        rw [ox_pick, if_neg hne] at hj'
        exact ih hv.2 j' hj'
      | case3 t hne =>
        intro hv j' hj'
        unfold ox_pick at hj'
        split at hj'
        · exact absurd rfl (hne _ _ _ _ _ _)
        · cases hj'
    unfold ox_pv at hrc
    split at hrc
    · rename_i j hj
      obtain ⟨⟨k0, k15⟩, w1, w2, w3, w4⟩ := hpk t v6 j hj
      obtain ⟨hc, mc, ms, g1, g2, g3⟩ := hrc
      have hM := hE _ _ _ _ _ _ g3
      have hsp := ox_split (n := n) st
      have hlen : (st.take n).reverse.length = n := by rw [List.length_reverse, List.length_take]; omega
      rw [has] at hM hsp hlen
      have ev : ox_val (.inr (.inr a)) = .ref (a - 1) := ox_rfs (hW.nz k0)
      have hrv := va_recv hK.1 (hW.obj k0 k15) (ox_cl_at k0 k15) (q0 := 0) rfl
      obtain ⟨m1, m2, m3, m4⟩ := ox_vM_at (ox_vMs w1)
      obtain ⟨x1, x2, x3, x4⟩ := ox_vM_at (ox_vMs v1)
      refine ox_behind K hl h1 h2 g1 g2 hS (va_runU (As := as.map ox_val) (rest := (st.drop n).map ox_val) (b := a - 1) (C := ox_kn (S.K a)) (owner := (ox_mi jx).1.cls) (x := (ox_mi jx).1) (n := np) ⟨hx, hb, hml, hown, hts⟩ hM ⟨⟨rfl, rfl, hR.1, by show 8 + ((ox_mi j).2.2.1 + 11) + 64 * d ≤ R.locals; have := hR.2; omega, ox_pay hts m1, List.mem_cons_self⟩, hts _ m1, hts _ w4, x4, ox_np_at hnp, hts _ (ox_iw_in v2), hts _ (ox_iw_in v3), va_Decl.of (hts _ (ox_iw_in v4)) (hts _ x1), hts _ w2, hts _ w3⟩ ⟨ox_blind, hrv, fun U hU hWm => by have := pre (.inr (.inr a) :: as) U hU hWm; rw [List.map_cons, ev] at this; exact this⟩ rfl ?_ hl.1 ?_ (ox_room hc _ rfl) hd ⟨by omega, by omega⟩)
      · rw [List.length_map]; rw [List.length_cons] at hlen; omega
      · show st.map ox_val = _
        rw [hsp, List.map_cons, ev, List.reverse_cons, List.append_assoc]
        rfl
    · exact hrc.elim
  · rename_i p1 p2 p3
    cases i <;> first | cases hv | skip
    rename_i ix
    simp only [Bool.and_eq_true] at hv
    obtain ⟨⟨v1, v2⟩, v3⟩ := hv
    replace h : ox_r1 st (fun a t => a ≠ 0 ∧ (t.map ox_cat).sum ≤ 8 ∧ k (pc + 3) L t S mr sr) := h
    unfold ox_r1 at h
    split at h
    · rename_i a t
      obtain ⟨ha, hc, hk⟩ := h
      rw [List.map_cons, show ox_val (.inr (.inr a)) = .ref (a - 1) from ox_rfs ha]
      refine W.objInit hx hb hown (hts _ (ox_iw_in v1)) (hts _ (ox_iw_in v2)) (hts _ (ox_iw_in v3)) rfl (by rw [hml]; exact hl.1) rfl hd (by have := hR.1; omega) ?_ ?_
      · have h9 := ox_room hc (F0 m pc ls (.ref (a - 1) :: t.map ox_val)) rfl
        have h8 := hR.2
        omega
      · exact K _ _ _ _ _ _ hk H locs cells slots ls hW hS hl h1 h2
    · exact h.elim
  · rename_i o p1 p2 p3 p4
    cases i <;> first | cases hv | skip
    rename_i ix
    have hro : ∀ t : List ox_V, (t.map ox_cat).sum ≤ 8 → ((t.map ox_val).map fun v => v.category).sum + 13 ≤ R.locals := by
      intro t ht
      have h9 := ox_room ht (F0 m pc ls []) rfl
      have h8 := hR.2
      omega
    have hfr : 1 ≤ R.frames := by have := hR.1; omega
    simp only [Bool.and_eq_true] at hv
    obtain ⟨v0, hv⟩ := hv
    split at hv
    · simp only [Bool.and_eq_true] at hv
      obtain ⟨⟨v1, v2⟩, v3⟩ := hv
      replace h : ox_b2 st (fun x y t => (t.map ox_cat).sum ≤ 8 ∧ k (pc + 3) L (.inl (if x < y then y else x) :: t) S mr sr) := h
      unfold ox_b2 at h
      split at h
      · exact va_mmax hx hb (hml.trans hl.1.symm) hown (hts _ (ox_iw_in v1)) (hts _ (ox_iw_in v2)) (hts _ (ox_iw_in v0)) (hts _ (ox_iw_in v3)) hfr (hro _ h.1) (by omega) (by omega) hd (K _ _ _ _ _ _ h.2 H locs cells slots ls hW hS hl h1 h2)
      · exact h.elim
    · simp only [Bool.and_eq_true] at hv
      obtain ⟨⟨v1, v2⟩, v3⟩ := hv
      replace h : ox_b2 st (fun x y t => (t.map ox_cat).sum ≤ 8 ∧ k (pc + 3) L (.inl (if y < x then y else x) :: t) S mr sr) := h
      unfold ox_b2 at h
      split at h
      · exact va_mmin hx hb (hml.trans hl.1.symm) hown (hts _ (ox_iw_in v1)) (hts _ (ox_iw_in v2)) (hts _ (ox_iw_in v0)) (hts _ (ox_iw_in v3)) hfr (hro _ h.1) (by omega) (by omega) hd (K _ _ _ _ _ _ h.2 H locs cells slots ls hW hS hl h1 h2)
      · exact h.elim
    · simp only [Bool.and_eq_true] at hv
      obtain ⟨⟨v1, v2⟩, v3⟩ := hv
      replace h : ox_b1 st (fun x t => (t.map ox_cat).sum ≤ 8 ∧ k (pc + 3) L (.inl (if 0 ≤ x then x else 0 - x) :: t) S mr sr) := h
      unfold ox_b1 at h
      split at h
      · exact va_mabs hx hb (hml.trans hl.1.symm) hown (hts _ (ox_iw_in v1)) (hts _ (ox_iw_in v2)) (hts _ (ox_iw_in v0)) (hts _ (ox_iw_in v3)) hfr (hro _ h.1) (by omega) (by omega) hd (K _ _ _ _ _ _ h.2 H locs cells slots ls hW hS hl h1 h2)
      · exact h.elim
    · simp only [Bool.and_eq_true] at hv
      obtain ⟨⟨v1, v2⟩, v3⟩ := hv
      replace h : ox_l1 st (fun x t => (t.map ox_cat).sum ≤ 8 ∧ k (pc + 3) L (.inr (.inl (if 0 < x then x else -x)) :: t) S mr sr) := h
      unfold ox_l1 at h
      split at h
      · exact va_mabs_long hx hb (hml.trans hl.1.symm) hown (hts _ (ox_iw_in v1)) (hts _ (ox_iw_in v2)) (hts _ (ox_iw_in v0)) (hts _ (ox_iw_in v3)) hfr (hro _ h.1) (by omega) (by omega) hd (K _ _ _ _ _ _ h.2 H locs cells slots ls hW hS hl h1 h2)
      · exact h.elim
    · cases hv
  · cases hv
end OXJ
