/-! stores -/
def ox_pfS (F : Nat) (S : ox_St) (a : Nat) : ox_V → ox_St
  | .inl x => S.sI F a x
  | .inr (.inl x) => S.sJ F a x
  | .inr (.inr x) => S.sR F a x
def ox_fit (ty : Nat) (v : ox_V) : Prop := match v with
  | .inl x => ty = 0 ∨ (ty ≠ 0 ∧ ty ≠ 1 ∧ ty ≠ 2 ∧ (x = 0 ∨ x = 1))
  | .inr (.inl _) => ty = 1
  | .inr (.inr _) => ty = 2
theorem ox_pf_at {ty F : Nat} {S : ox_St} {a : Nat} {v : ox_V} {k : ox_St → Prop} (h : ox_pf ty F S a v k) : ox_fit ty v ∧ k (ox_pfS F S a v) := by
  unfold ox_pf at h
  split at h
  · split at h
    · exact ⟨Or.inl rfl, h⟩
    · exact h.elim
  · split at h
    · exact ⟨rfl, h⟩
    · exact h.elim
  · split at h
    · exact ⟨rfl, h⟩
    · exact h.elim
  · rename_i h0 h1 h2
    split at h
    · exact ⟨Or.inr ⟨h0, h1, h2, h.1⟩, h.2⟩
    · exact h.elim
theorem ox_pfS_K {F : Nat} {S : ox_St} {a : Nat} (v : ox_V) : (ox_pfS F S a v).K = S.K := by
  match v with
  | .inl x => rfl
  | .inr (.inl x) => rfl
  | .inr (.inr x) => rfl
theorem ox_pfS_n {F : Nat} {S : ox_St} {a : Nat} (v : ox_V) : (ox_pfS F S a v).n = S.n := by
  match v with
  | .inl x => rfl
  | .inr (.inl x) => rfl
  | .inr (.inr x) => rfl
theorem ox_pfS_ro {F : Nat} {S : ox_St} {a : Nat} (v : ox_V) (q : Nat) : (ox_pfS F S a v).len q = S.len q ∧ (ox_pfS F S a v).rI q = S.rI q ∧ (ox_pfS F S a v).rJ q = S.rJ q := by
  match v with
  | .inl x => exact ⟨rfl, rfl, rfl⟩
  | .inr (.inl x) => exact ⟨rfl, rfl, rfl⟩
  | .inr (.inr x) => exact ⟨rfl, rfl, rfl⟩
theorem ox_pfS_st {F : Nat} {S : ox_St} {a : Nat} (v : ox_V) (ha : a ≠ 0) (G : Nat) : (ox_pfS F S a v).R G 0 = S.R G 0 := by
  match v with
  | .inl x => rfl
  | .inr (.inl x) => rfl
  | .inr (.inr x) => exact if_neg (fun e => ha e.2.symm)
theorem ox_u2_ne {α : Type} {f : Nat → Nat → α} {k a j q : Nat} {v : α} (h : ¬ (j = k ∧ q = a)) : ox_u2 f k a v j q = f j q := if_neg h
theorem ox_u2_eq {α : Type} {f : Nat → Nat → α} {k a : Nat} {v : α} : ox_u2 f k a v k a = v := if_pos ⟨rfl, rfl⟩
theorem ox_pfS_fv {F : Nat} {S : ox_St} {a : Nat} (v : ox_V) {ty G q : Nat} (h : ¬ (G = F ∧ q = a)) : ox_fv ty G (ox_pfS F S a v) q = ox_fv ty G S q := by
  match v with
  | .inl x => unfold ox_fv; split <;> first | rfl | exact congrArg Sum.inl (ox_u2_ne h)
  | .inr (.inl x) => unfold ox_fv; split <;> first | rfl | exact congrArg (fun z => Sum.inr (Sum.inl z)) (ox_u2_ne h)
  | .inr (.inr x) => unfold ox_fv; split <;> first | rfl | exact congrArg (fun z => Sum.inr (Sum.inr z)) (ox_u2_ne h)
theorem ox_pfS_self {F : Nat} {S : ox_St} {a : Nat} {v : ox_V} {ty : Nat} (h : ox_fit ty v) : ox_fv ty F (ox_pfS F S a v) a = v := by
  match v, h with
  | .inl x, h =>
    rcases h with rfl | ⟨h0, h1, h2, -⟩
    · exact congrArg Sum.inl ox_u2_eq
    · unfold ox_fv
      split
      · exact absurd rfl h0
      · exact absurd rfl h1
      · exact absurd rfl h2
      · exact congrArg Sum.inl ox_u2_eq
  | .inr (.inl x), h => cases h; exact congrArg (fun z => Sum.inr (Sum.inl z)) ox_u2_eq
  | .inr (.inr x), h => cases h; exact congrArg (fun z => Sum.inr (Sum.inr z)) ox_u2_eq
theorem ox_ent_pf {y : Nat → ClassId} {F : Nat} {S : ox_St} {a : Nat} (v : ox_V) {q : Nat} (h : q ≠ a) : ox_ent y (ox_pfS F S a v) q = ox_ent y S q := by
  unfold ox_ent
  rw [ox_pfS_K]
  have e1 : (fun G => ox_val (ox_fv (ox_ft G) G (ox_pfS F S a v) q)) = (fun G => ox_val (ox_fv (ox_ft G) G S q)) := by
    funext G
    rw [ox_pfS_fv v (fun e => h e.2)]
  rw [e1]
  match v with
  | .inl x => rfl
  | .inr (.inl x) => rfl
  | .inr (.inr x) => rfl
theorem ox_fs_pf {F : Nat} {S : ox_St} {a : Nat} {v : ox_V} {j : Nat} (h15 : S.K a < 15) (hj : j < (ox_kf (S.K a)).length) (hj3 : (ox_kf (S.K a)).getD j 0 = F) (hf : ox_fit (ox_ft F) v) : ox_fs (ox_pfS F S a v) a = (ox_fs S a).set j (ox_val v) := by
  apply List.ext_getElem?
  intro i
  rw [List.getElem?_set]
  have hlen : (ox_fs S a).length = (ox_kf (S.K a)).length := by rw [ox_fs, List.length_map]
  unfold ox_fs
  rw [ox_pfS_K, List.getElem?_map, List.getElem?_map]
  by_cases hij : j = i
  · subst hij
    have hg : (ox_kf (S.K a))[j]? = some F := by
      rw [List.getElem?_eq_getElem hj, ← hj3, List.getD_eq_getElem?_getD, List.getElem?_eq_getElem hj]; rfl
    rw [if_pos rfl, if_pos (by rw [List.length_map]; exact hj), hg]
    show some (ox_val (ox_fv (ox_ft F) F (ox_pfS F S a v) a)) = some _
    rw [ox_pfS_self hf]
  · rw [if_neg hij]
    cases hi : (ox_kf (S.K a))[i]? with
    | none => rfl
    | some G =>
      show some (ox_val (ox_fv (ox_ft G) G (ox_pfS F S a v) a)) = some (ox_val (ox_fv (ox_ft G) G S a))
      have hil := (List.getElem?_eq_some_iff.mp hi).1
      have hne : G ≠ F := by
        have := ox_nd _ h15 j hj i hil hij
        rw [hj3, List.getD_eq_getElem?_getD, hi] at this
        exact fun e => this e.symm
      rw [ox_pfS_fv v (fun e => hne e.1)]
set_option maxRecDepth 100000 in
theorem ox_ft3 : ∀ F, F < 142 → ox_ft F < 4 := by decide +kernel
/-- a field's type, and what it takes -/
theorem ox_fit_ty {F : Nat} (hF : F < 142) {v : ox_V} (hf : ox_fit (ox_ft F) v) : ∃ T, parseFieldDescriptor (ox_fd F).2.2.1 = some T ∧ narrow T (ox_val v) = ox_val v ∧ fits T (ox_val v) = true := by
  have h1 := ox_fty F hF
  cases hp : parseFieldDescriptor (ox_fd F).2.2.1 with
  | none => rw [hp] at h1; cases h1
  | some T =>
    rw [hp] at h1
    have h2 : ox_ftk T = ox_ft F := Option.some.inj h1
    rw [← h2] at hf
    refine ⟨T, rfl, ?_⟩
    have h3 := ox_ft3 F hF
    rw [← h2] at h3
    match v, hf with
    | .inl x, hf =>
      cases T <;> simp [ox_ftk, ox_fit] at hf h3 <;> first | exact ⟨rfl, rfl⟩ | (rcases hf with rfl | rfl <;> exact ⟨rfl, rfl⟩)
    | .inr (.inl x), hf =>
      cases T <;> simp [ox_ftk, ox_fit] at hf
      exact ⟨rfl, rfl⟩
    | .inr (.inr x), hf =>
      by_cases hz : x = 0
      · subst hz
        cases T <;> simp [ox_ftk, ox_fit] at hf
        · exact ⟨rfl, rfl⟩
        · exact ⟨rfl, rfl⟩
      · have e1 : ox_val (.inr (.inr x)) = .ref (x - 1) := ox_rfs hz
        rw [e1]
        cases T <;> simp [ox_ftk, ox_fit] at hf
        · exact ⟨rfl, rfl⟩
        · exact ⟨rfl, rfl⟩

/-- a field's store: not a final one, or in its own class's constructor -/
def ox_vP (own : String) (ini : Bool) (ps : List Nat) : Bool := !(ox_fd (ox_p ps 0)).2.2.2.1 || (ini && decide ((ox_fd (ox_p ps 0)).1 = own) && ox_p ps 3 == 0)
section OXD
variable {p : Program} {l : Launch} {e : Env} {R : Room} {s : State} {m : MethodId} {args : Array Value} {below : List Frame} {meth : Method} {c : Code} {Q : State → Prop} {D : va_G} {y : Nat → ClassId} {b nL : Nat} {ro : ox_St} {cc : ByteArray}
variable {pc mr sr : Nat} {L : ox_L} {st : List ox_V} {S : ox_St} {k : ox_K} {own : String} {ps : List Nat} {idx : Nat}
theorem ox_o_putfield (hx : p.tables.exec = Jvm.exec) (hb : c.code = cc) (K : ∀ pc L st S mr sr, k pc L st S mr sr → ox_X p l e R s m args below meth c Q D y b ro nL pc L st S mr sr) (hown : s.vm.findClass own = some m.cls) (hts : ∀ w ∈ ox_T0, w.before args s = true) (hK : ox_KX D y b ro s) {ini : Bool} (hini : ini = true → meth.name = "<init>") (hv : ox_vF own idx ps = true) (hv2 : ox_vP own ini ps = true) (hd : decode cc pc = .ok (.putfield idx, 3))
    (h : match st with
    | v :: .inr (.inr a) :: t => ox_has (S.K a) (ox_p ps 0) = true ∧ ox_pf (ox_p ps 1) (ox_p ps 0) S a v (fun S' => k (pc + 3) L t S' mr sr)
    | _ => False) : ox_X p l e R s m args below meth c Q D y b ro nL pc L st S mr sr := by
  intro H locs cells slots ls hW hS hl h1 h2
  split at h
  · rename_i v a t
    obtain ⟨hh, hk⟩ := h
    obtain ⟨hfit, hk⟩ := ox_pf_at hk
    obtain ⟨hk0, hk15⟩ := ox_kf_lt hh
    obtain ⟨j, hj, hj2, hj3⟩ := ox_has_at hh
    have hT := ox_T_at hj2
    have hsame := ox_same hts hv
    have hty : ox_p ps 1 = ox_ft (ox_p ps 0) := by
      simp only [ox_vF, Bool.and_eq_true, beq_iff_eq] at hv
      exact hv.1.1
    rw [hty] at hfit
    have hF : ox_p ps 0 < 142 := by rw [← hj2]; exact ox_kfF _ hk15 j hj
    obtain ⟨T, hd2, hn2, hf2⟩ := ox_fit_ty hF hfit
    rw [List.map_cons, List.map_cons, show ox_val (.inr (.inr a)) = .ref (a - 1) from ox_rfs (hW.nz hk0)]
    have hA : b ≤ a - 1 := (hW.at0 hk0 (by omega)).1
    have fin : ∀ (H' : Heap) (sl : Nat), va_at D ox_cl (a - 1, .inr (S.K a - 1, (ox_fs S a).set j (ox_val v))) H' → H'.size = H.size → (∀ q, q ≠ a - 1 → H'[q]? = H[q]?) → W p l e R s m args below meth c H' (locs ++ [⟨a - 1, sl⟩]) cells slots Q (F0 m (pc + 3) ls (t.map ox_val)) := by
      intro H' sl e1 e2 e3
      refine K _ _ _ _ _ _ hk H' _ cells slots ls (hW.put (a := a) hk0 (by omega) (ox_pfS_n v) (ox_pfS_K v) e2 e3 (fun q hq => ox_ent_pf v hq) (fun q _ => ox_pfS_ro v q) (fun F => ox_pfS_st v (hW.nz hk0) F) ?_) (hS.put e2 e3 hA) hl h1 h2
      rw [ox_ent_o (by rw [ox_pfS_K]; exact hk15), ox_fs_pf hk15 hj hj2 hfit, ox_pfS_K]
      exact e1
    have hP := hW.obj hk0 hk15
    have hc := ox_cl_at hk0 hk15
    have hap := va_apart (own := own) (s := s) (args := args) hts (ox_hin hk15) (ox_ty0 (S.K a)) (ox_hty hk15) (ox_nm _ hk15) hK.1 hc
    obtain ⟨r, g1, cell, q1, q2, q3, q4⟩ := hP 0 _ rfl
    have hr : r = (ox_kn (S.K a), ox_T (S.K a), (ox_kf (S.K a)).length) := Option.some.inj (g1.symm.trans hc)
    subst hr
    obtain ⟨hSl, hfc, kC, hkC, hkind⟩ := hK.1.1 (S.K a - 1) _ hc
    obtain ⟨cf, kf, fi, f, hi, hsl⟩ := hSl j hj
    have hst := (u_facts hfc hkC (u_lays hts (ox_hin hk15) hj) hi).1
    have hlen : j < (ox_fs S a).length := by rw [ox_fs, List.length_map]; exact hj
    have hlay := hts _ (ox_hin hk15 _ (u_in_lay hj))
    unfold u_lay at hlay
    have hat : ∀ H' : Heap, H'[a - 1]? = some (cell.setSlot (D.2 (S.K a - 1) j) (ox_val v)) → va_at D ox_cl (a - 1, .inr (S.K a - 1, (ox_fs S a).set j (ox_val v))) H' := fun H' e1 =>
      ⟨_, hc, t_OB.to (V := updV (vp_V (ox_fs S a)) j (ox_val v)) ⟨_, e1, q2, q3, t_set q4 hap hj (ox_val v)⟩ (fun i _ => vp_updV_set hlen (ox_val v) i)⟩
    have hi : s.fieldFound? (ox_T (S.K a) j).1 (ox_T (S.K a) j).2.1 (ox_T (S.K a) j).2.2.1 = some (cf, kf, fi, f) := hi
    rw [hT] at hi hlay
    by_cases hfin : (ox_fd (ox_p ps 0)).2.2.2.1 = true
    · have hv3 : (ini = true ∧ (ox_fd (ox_p ps 0)).1 = own) ∧ ox_p ps 3 = 0 := by simpa [ox_vP, hfin] using hv2
      have hlink : lw_tbl[ox_p ps 2]? = some (.fieldLink own idx (ox_ref ps) (ox_fd (ox_p ps 0)).2.1 (ox_fd (ox_p ps 0)).2.2.1) := by
        simp only [ox_vF, Bool.and_eq_true, hv3.2, if_true, decide_eq_true_eq] at hv
        exact hv.1.2
      rw [if_pos hfin] at hlay
      have hcf : m.cls = cf := by
        obtain ⟨_, _, c', _, _, _, -, -, hf', -, -, -, hown2, -⟩ := Cond.laysFinal_spec hlay
        have e1 : c' = cf := by have := hi.symm.trans hf'; simp at this; exact this.1.symm
        rw [hv3.1.2] at hown2
        rw [← e1]; exact Option.some.inj (hown.symm.trans hown2)
      have h6 := u_fits hfc hkC hkind (Or.inr hlay) hi hd2 hn2 hf2
      refine W.putFinK hx hb hown (hts _ (ox_in hlink rfl)) (hsame _ hi) hst hcf (hini hv3.1.1) (by rw [q2]; exact h6) q1 q3 (by rw [hsl]; exact k2_hasslot (q4 j hj)) rfl rfl hd fun H' e1 e2 e3 => ?_
      rw [hsl] at e1 ⊢
      exact fin H' _ (hat H' e1) e2 e3
    · rw [if_neg hfin] at hlay
      have h6 := u_store hfc hkC hkind hlay hi hd2 hn2 hf2
      by_cases hn : ox_p ps 3 = 0
      · have hlink : lw_tbl[ox_p ps 2]? = some (.fieldLink own idx (ox_ref ps) (ox_fd (ox_p ps 0)).2.1 (ox_fd (ox_p ps 0)).2.2.1) := by
          simp only [ox_vF, Bool.and_eq_true, hn, if_true, decide_eq_true_eq] at hv
          exact hv.1.2
        refine W.putK hx hb (f := f) ⟨hown, hts _ (ox_in hlink rfl), ⟨_, _, _, hsame _ hi⟩, hst⟩ (by rw [q2]; exact h6) q1 q3 (by rw [hsl]; exact k2_hasslot (q4 j hj)) rfl rfl hd fun H' e1 e2 e3 => ?_
        rw [hsl] at e1 ⊢
        exact fin H' _ (hat H' e1) e2 e3
      · have hlink : lw_tbl[ox_p ps 2]? = some (.fieldLinkNest own idx (ox_ref ps) (ox_fd (ox_p ps 0)).2.1 (ox_fd (ox_p ps 0)).2.2.1 "OpcodeFrames") := by
          simp only [ox_vF, Bool.and_eq_true, if_neg hn, decide_eq_true_eq] at hv
          exact hv.1.2
        refine va_WputK hx hb (f := f) hown (va_Nw.use rfl (hK.2.1 _ (List.mem_of_getElem? hlink) rfl)) (hsame _ hi) hst (by rw [q2]; exact h6) q1 q3 (by rw [hsl]; exact k2_hasslot (q4 j hj)) rfl rfl hd fun H' e1 e2 e3 => ?_
        rw [hsl] at e1 ⊢
        exact fin H' _ (hat H' e1) e2 e3
  · exact h.elim
end OXD
