/-! a method's walk: from cut to cut, the least condition that is closed under it; methods by the depth of their calls -/
def ox_look : List ox_I → Nat → Option ox_I
  | [], _ => none
  | q :: t, pc => if q.1 = pc then some q else ox_look t pc
/-- a cut: its place, the locals that are forgotten there -/
def ox_ctl : List (Nat × List Nat) → Nat → Option (List Nat)
  | [], _ => none
  | q :: t, pc => if q.1 = pc then some q.2 else ox_ctl t pc
def ox_frg (L : ox_L) : List Nat → ox_L
  | [] => L
  | i :: t => ox_frg (ox_set L i none) t
theorem ox_frg_get : ∀ (fs : List Nat) (L : ox_L) (i : Nat) (v : ox_V), ox_get (ox_frg L fs) i = some v → ox_get L i = some v
  | [], _, _, _, h => h
  | j :: t, L, i, v, h => by
    have h1 := ox_frg_get t (ox_set L j none) i v h
    by_cases hij : i = j
    · subst hij
      exact absurd (ox_get_set_eq _ _ _ _ h1) (by simp)
    · rw [ox_get_set_ne L none hij] at h1
      exact h1
def ox_at_cut (o : Option (List Nat)) (a : List Nat → Prop) (z : Prop) : Prop := match o with
  | some fs => a fs
  | none => z
def ox_seg (E : ox_E) (rt : Option FieldType) (code : List ox_I) (cut : List (Nat × List Nat)) (k : ox_K) (r : ox_Q) : Nat → ox_K
  | 0 => fun _ _ _ _ _ _ => False
  | n + 1 => fun pc L st S mr sr => match ox_look code pc with
    | some q => ox_step E rt q.2.1 q.2.2.2 pc L st S mr sr (fun pc' L' st' S' mr' sr' => ox_at_cut (ox_ctl cut pc') (fun fs => k pc' (ox_frg L' fs) st' S' mr' sr') (ox_seg E rt code cut k r n pc' L' st' S' mr' sr')) r
    | none => False
def ox_C (E : ox_E) (rt : Option FieldType) (code : List ox_I) (cut : List (Nat × List Nat)) (r : ox_Q) : ox_K := fun pc L st S mr sr =>
  ∀ X : ox_K, (∀ pc L st S mr sr, ox_seg E rt code cut X r 400 pc L st S mr sr → X pc L st S mr sr) → X pc L st S mr sr
def ox_arg : List ox_V → ox_L
  | [] => []
  | v :: t => match v with
    | .inr (.inl x) => some (.inr (.inl x)) :: none :: ox_arg t
    | w => some w :: ox_arg t
def ox_loc (nL : Nat) (as : List ox_V) : ox_L := ox_arg as ++ List.replicate (nL - (as.map ox_cat).sum) none
def ox_M (sp : ox_E) : Nat → ox_E
  | 0 => fun _ _ _ _ _ _ => False
  | d + 1 => fun j as mc ms S Q => (3 ≤ d ∧ sp j as mc ms S Q) ∨ ((as.map ox_cat).sum ≤ (ox_mi j).2.2.1 ∧ ox_C (ox_M sp d) (ox_mi j).2.2.2.1 (ox_mc j) (ox_cut j) Q 0 (ox_loc (ox_mi j).2.2.1 as) [] S mc ms)
/-- a method's code, checked -/
def ox_vW (j : Nat) : Bool := ox_jok j && (ox_mc j).all (ox_vL (ox_mi j).1.cls (decide ((ox_mi j).1.name = "<init>")) (ox_mi j).2.2.1 (ox_mi j).2.1)
theorem ox_look_in {code : List ox_I} {pc : Nat} {q : ox_I} (h : ox_look code pc = some q) : q ∈ code ∧ q.1 = pc := by
  induction code with
  | nil => cases h
  | cons z t ih =>
    unfold ox_look at h
    split at h
    · rename_i hz
      cases h
      exact ⟨List.mem_cons_self, hz⟩
    · exact ⟨List.mem_cons_of_mem _ (ih h).1, (ih h).2⟩
theorem ox_get_rep : ∀ (n i : Nat) (v : ox_V), ox_get (List.replicate n none) i ≠ some v
  | 0, _, _, h => by cases h
  | _ + 1, 0, _, h => by cases h
  | n + 1, i + 1, v, h => ox_get_rep n i v h
theorem ox_get_args : ∀ (as : List ox_V) (n o i : Nat) (v : ox_V), ox_get (ox_arg as ++ List.replicate n none) i = some v → (o + i, ox_val v) ∈ lv_args o (as.map ox_val)
  | [], n, o, i, v, h => absurd h (ox_get_rep n i v)
  | .inl x :: t, n, o, 0, v, h => by cases h; exact List.mem_cons_self
  | .inl x :: t, n, o, i + 1, v, h => by
    have := ox_get_args t n (o + 1) i v h
    rw [List.map_cons, lv_args, if_neg (by rw [ox_val_cat]; exact fun h => by cases h)]
    rw [show o + (i + 1) = o + 1 + i by omega]
    exact List.mem_cons_of_mem _ this
  | .inr (.inr x) :: t, n, o, 0, v, h => by cases h; exact List.mem_cons_self
  | .inr (.inr x) :: t, n, o, i + 1, v, h => by
    have := ox_get_args t n (o + 1) i v h
    rw [List.map_cons, lv_args, if_neg (by rw [ox_val_cat]; exact fun h => by cases h)]
    rw [show o + (i + 1) = o + 1 + i by omega]
    exact List.mem_cons_of_mem _ this
  | .inr (.inl x) :: t, n, o, 0, v, h => by cases h; exact List.mem_cons_self
  | .inr (.inl x) :: t, n, o, 1, v, h => by cases h
  | .inr (.inl x) :: t, n, o, i + 2, v, h => by
    have := ox_get_args t n (o + 2) i v h
    rw [List.map_cons, lv_args, if_pos (by rw [ox_val_cat]; rfl)]
    rw [show o + (i + 2) = o + 2 + i by omega]
    exact List.mem_cons_of_mem _ this
theorem ox_sl_len (as : List ox_V) : (lg_sl (as.map ox_val)).length = (as.map ox_cat).sum := by
  induction as with
  | nil => rfl
  | cons v t ih =>
    have e1 : lg_sl ((v :: t).map ox_val) = (if (ox_val v).category = 2 then [Slot.val (ox_val v), Slot.second] else [Slot.val (ox_val v)]) ++ lg_sl (t.map ox_val) := by simp [lg_sl]
    rw [e1, List.length_append, ih, ox_val_cat]
    match v with
    | .inl x => simp [ox_cat]
    | .inr (.inl x) => simp [ox_cat]
    | .inr (.inr x) => simp [ox_cat]
set_option maxHeartbeats 4000000 in
theorem ox_sound {l : Launch} {D : va_G} {y : Nat → ClassId} {b : Nat} {ro : ox_St} {sp : ox_E} (hsp : ∀ d j as mc ms S Q, sp j as mc ms S Q → ox_Met l D y b ro (d + 4) j as mc ms S Q) (hok : ∀ j, (ox_mc j).isEmpty = false → ox_vW j = true) : ∀ d j as mc ms S Q, ox_M sp d j as mc ms S Q → ox_Met l D y b ro d j as mc ms S Q := by
  intro d
  induction d with
  | zero => intro j as mc ms S Q h; exact h.elim
  | succ d ih =>
    intro j as mc ms S Q h
    rcases h with ⟨h3, h⟩ | ⟨hfit, h⟩
    · obtain ⟨d', rfl⟩ : ∃ d', d = d' + 3 := ⟨d - 3, by omega⟩
      exact hsp d' j as mc ms S Q h
    · by_cases hemp : (ox_mc j).isEmpty = true
      · have he : ox_mc j = [] := List.isEmpty_iff.mp hemp
        have := h (fun _ _ _ _ _ _ => False) (by
          intro pc L st S mr sr hs
          rw [he] at hs
          exact hs)
        exact this.elim
      · have hvw := hok j (by simpa using hemp)
        simp only [ox_vW, Bool.and_eq_true, List.all_eq_true] at hvw
        obtain ⟨hvm, hvl⟩ := hvw
        obtain ⟨m1, m2, m3, m4⟩ := ox_vM_at (ox_vMs hvm)
        refine Met.ofW (cc := (ox_mi j).2.1) (maxL := (ox_mi j).2.2.1) (ret := (ox_mi j).2.2.2.1) m2 rfl ?_
        intro p e s m args below meth c s₁ B hml hv
        obtain ⟨rfl, hW, hK⟩ := hv
        have hx := B.exec
        have hb := B.bytes
        have hr := B.returns
        have hts0 := atoms_spec B.pre
        have hts : ∀ w ∈ ox_T0, w.before (as.map ox_val).toArray s = true := fun w hw => hts0 w (List.mem_cons_of_mem _ hw)
        have hown := findClass_of_methodNamed B.named
        have hnm : meth.name = (ox_mi j).1.name := (name_of_methodNamed B.named B.method).1
        rw [lg_entry_eq]
        have hent := lv_entry (as.map ox_val) (n := (ox_mi j).2.2.1) (by rw [ox_sl_len]; exact hfit)
        generalize (lg_sl (as.map ox_val) ++ List.replicate ((ox_mi j).2.2.1 - (lg_sl (as.map ox_val)).length) Slot.unset).toArray = ls at hent ⊢
        have hl : ox_lh ls (ox_mi j).2.2.1 (ox_loc (ox_mi j).2.2.1 as) := by
          refine ⟨hent.1, hent.2.1, fun i v hi => ?_⟩
          have := ox_get_args as _ 0 i v hi
          rw [Nat.zero_add] at this
          exact hent.2.2 _ this
        have main : ox_X p l e (headSpec (Cond.code (ox_mi j).1 (ox_mi j).2.1 (ox_mi j).2.2.1 (ox_mi j).2.2.2.1 :: ox_T0) (ox_rm (d + 1) mc ms)).room s m (as.map ox_val).toArray below meth c (MQ below (ox_Qc D y b ro Q) (as.map ox_val).toArray s mc ms (fun q => b ≤ q)) D y b ro (ox_mi j).2.2.1 0 (ox_loc (ox_mi j).2.2.1 as) [] S mc ms := by
          refine h _ ?_
          have : ∀ (n : Nat) pc L st S mr sr, ox_seg (ox_M sp d) (ox_mi j).2.2.2.1 (ox_mc j) (ox_cut j) (ox_X p l e (headSpec (Cond.code (ox_mi j).1 (ox_mi j).2.1 (ox_mi j).2.2.1 (ox_mi j).2.2.2.1 :: ox_T0) (ox_rm (d + 1) mc ms)).room s m (as.map ox_val).toArray below meth c (MQ below (ox_Qc D y b ro Q) (as.map ox_val).toArray s mc ms (fun q => b ≤ q)) D y b ro (ox_mi j).2.2.1) Q n pc L st S mr sr → ox_X p l e (headSpec (Cond.code (ox_mi j).1 (ox_mi j).2.1 (ox_mi j).2.2.1 (ox_mi j).2.2.2.1 :: ox_T0) (ox_rm (d + 1) mc ms)).room s m (as.map ox_val).toArray below meth c (MQ below (ox_Qc D y b ro Q) (as.map ox_val).toArray s mc ms (fun q => b ≤ q)) D y b ro (ox_mi j).2.2.1 pc L st S mr sr := by
            intro n
            induction n with
            | zero => intro pc L st S mr sr hs; exact hs.elim
            | succ n ihn =>
              intro pc L st S mr sr hs
              unfold ox_seg at hs
              split at hs
              · rename_i q hq
                obtain ⟨hq1, hq2⟩ := ox_look_in hq
                have hv1 := hvl q hq1
                simp only [ox_vL, Bool.and_eq_true, Bool.or_eq_true, beq_iff_eq, decide_eq_true_eq] at hv1
                obtain ⟨⟨hd, hlen⟩, hve⟩ := hv1
                rw [hq2] at hd
                refine ox_step_ok (d := d) hx hb hml hr B.notSynchronized hown hts hK ⟨Nat.le_refl _, Nat.le_refl _⟩ ih (fun hini => by rw [hnm]; exact of_decide_eq_true hini) ?_ hve hlen hd hs
                intro pc' L' st' S' mr' sr' hk'
                unfold ox_at_cut at hk'
                split at hk'
                · rename_i fs hfs
                  intro H locs cells slots ls g1 g2 g3 g4 g5
                  exact hk' H locs cells slots ls g1 g2 ⟨g3.1, g3.2.1, fun i v hi => g3.2.2 i v (ox_frg_get fs L' i v hi)⟩ g4 g5
                · exact ihn pc' L' st' S' mr' sr' hk'
              · exact hs.elim
          exact fun pc L st S mr sr hs => this 400 pc L st S mr sr hs
        exact main s.heap [] 0 0 ls hW va_S.rf hl (Nat.le_of_eq (Nat.zero_add mc)) (Nat.le_of_eq (Nat.zero_add ms))
