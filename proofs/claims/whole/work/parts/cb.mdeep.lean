/-! the reference: depths -/
theorem mxD_le {D : Nat → Nat} {k : Nat} : ∀ i, mxD D i ≤ k ↔ ∀ j, j < i → D j ≤ k
  | 0 => ⟨fun _ j hj => absurd hj (Nat.not_lt_zero _), fun _ => Nat.zero_le _⟩
  | i + 1 => by
    have ih := mxD_le (D := D) (k := k) i
    show max (mxD D i) (D i) ≤ k ↔ _
    constructor
    · intro h j hj
      by_cases z : j = i
      · subst z; omega
      · exact ih.mp (by omega) j (by omega)
    · intro h
      have a := ih.mpr (fun j hj => h j (by omega))
      have b := h i (Nat.lt_succ_self _)
      omega
theorem xMax_iff {H : xHp} {k : Nat} : ∀ L : List Int, xMax H L ≤ k ↔ ∀ v ∈ L, xDep H v ≤ k
  | [] => ⟨fun _ v hv => (by cases hv), fun _ => Nat.zero_le _⟩
  | v :: l => by
    have ih := xMax_iff (H := H) (k := k) l
    show max (xDep H v) (xMax H l) ≤ k ↔ _
    constructor
    · intro h u hu
      rcases List.mem_cons.mp hu with z | z
      · rw [z]; omega
      · exact ih.mp (by omega) u z
    · intro h
      have a := ih.mpr (fun u hu => h u (List.mem_cons_of_mem _ hu))
      have b := h v List.mem_cons_self
      omega
theorem mxD_max {H : xHp} (L : List Int) : mxD (fun j => xDep H (L.getD j 0)) L.length = xMax H L := by
  refine Nat.le_antisymm ((mxD_le _).mpr fun j hj => ?_) ((xMax_iff _).mpr fun v hv => ?_)
  · refine (xMax_iff L).mp (Nat.le_refl _) _ ?_
    rw [List.getD_eq_getElem?_getD, List.getElem?_eq_getElem hj]
    exact List.getElem_mem hj
  · obtain ⟨j, hj, e⟩ := List.getElem_of_mem hv
    have := (mxD_le (D := fun j => xDep H (L.getD j 0)) L.length).mp (Nat.le_refl _) j hj
    have e2 : L.getD j 0 = v := by rw [List.getD_eq_getElem?_getD, List.getElem?_eq_getElem hj]; exact e
    have this' : xDep H (L.getD j 0) ≤ mxD (fun j => xDep H (L.getD j 0)) L.length := this
    rw [e2] at this'
    exact this'
section RDp
variable {sp : ox_E} {d mr sr : Nat} {S S' S2 : ox_St} {Q : ox_Q} {m ce a : Nat} {γ : Int → Nat} {B : List Int} {T : Nat} {C : Nat → xCd} {nc K y : Nat} {e : xEn} {q j i : Nat} {st r : List Int} {v u n : Int} {H : xHp} {o : xOb}
theorem rE.deep (h : rE S m ce γ B T C nc y e q st) (hx : xEs1 C nc K e st) (ok : xOk nc e.H v) (hB : xIn B v) : mDeep S m ce (gV γ v) (xDep e.H v) := by
  obtain ⟨h1, h2⟩ := h.sort hx ok hB
  have hH := hx.1.1
  refine ⟨h1, fun z => ?_, fun z => ?_, ?_⟩
  · rw [h2] at z
    by_cases v16 : v < 16
    · rw [if_pos v16] at z; exact absurd z (by decide)
    · rw [if_neg v16] at z
      obtain ⟨o, e1, r1, r2, eg⟩ := h.hi hB v16
      have g16 := r1.1
      have sz := xSz_2 o
      rw [xTg_o (by omega) e1] at z
      match o, e1, r1, r2, z with
      | .inl _, _, _, _, z => exact absurd (show Int32.ofInt 3 = 4 from z) (by decide)
      | .inr (.inl p), e1, ⟨_, r1⟩, r2, _ =>
        have n1 : nI (γ v) + 1 = nI (γ v + 1) := nI_1 _
        have ed : xDep e.H v = p.2 := by unfold xDep; rw [e1]
        have sz3 : xSz (.inr (.inl p)) = 3 + p.1.length := rfl
        rw [eg, n1, nI_clamp (by omega), ed]
        exact ⟨vp_in_nI (by omega) (by decide), r1.2.1⟩
      | .inr (.inr (.inl _)), _, _, _, z => exact absurd (show Int32.ofInt 5 = 4 from z) (by decide)
      | .inr (.inr (.inr (.inl _))), _, _, _, z => exact absurd (show Int32.ofInt 6 = 4 from z) (by decide)
      | .inr (.inr (.inr (.inr _))), _, _, _, z => exact absurd (show Int32.ofInt 7 = 4 from z) (by decide)
  · unfold xDep
    cases e1 : e.H v with
    | none => rfl
    | some o =>
      have h16 := (hH.2 v o e1).1
      rw [h2, if_neg (by omega), xTg_o h16 e1] at z
      match o, z with
      | .inl _, _ => rfl
      | .inr (.inl p), z => exact absurd rfl z
      | .inr (.inr (.inl _)), _ => rfl
      | .inr (.inr (.inr (.inl _))), _ => rfl
      | .inr (.inr (.inr (.inr _))), _ => rfl
  · unfold xDep
    cases e1 : e.H v with
    | none => exact (by decide : 0 < 2 ^ 31)
    | some o =>
      have ob := (hH.2 v o e1).2.2
      match o, ob with
      | .inl _, _ => exact (by decide : 0 < 2 ^ 31)
      | .inr (.inl p), ob => have := ob.2.2.1; show p.2 < 2 ^ 31; omega
      | .inr (.inr (.inl _)), _ => exact (by decide : 0 < 2 ^ 31)
      | .inr (.inr (.inr (.inl _))), _ => exact (by decide : 0 < 2 ^ 31)
      | .inr (.inr (.inr (.inr _))), _ => exact (by decide : 0 < 2 ^ 31)
/-- nothing that matters changes -/
theorem rE.same (h : rE S m ce γ B T C nc y e q st) (hx : xEs1 C nc K e st) (ch : rCh m ce T e.t.length S S') (kp : rKp m e.t.length S S') : rE S' m ce γ B T C nc y e q st := h.fr hx ch (rFr.next h.2.2.2.1.1 kp hx.2.2.1 hx.2.2.2 (fun _ _ => rfl)) h.in.1 h.in.2
/-- a row behind the frames' is written -/
theorem rE.wO (h : rE S m ce γ B T C nc y e q st) (hx : xEs1 C nc K e st) {k : Nat} {w : Int32} (ho : 26 ≤ k ∧ k ≤ 41) : rE (S.wI (m + k) i w) m ce γ B T C nc y e q st ∧ mFx m S (S.wI (m + k) i w) ∧ (S.wI (m + k) i w).R = S.R := by
  have hce := h.c23
  have er : ∀ a j, a ≠ m + k → (S.wI (m + k) i w).rI a j = S.rI a j := fun a j z => by rw [or_wI_rI, if_neg (fun y => z y.1)]
  have fx : mFx m S (S.wI (m + k) i w) := mFx.refl.wI ho.2
  have kp : ∀ f, rKp m f S (S.wI (m + k) i w) := fun f => ⟨fun o z1 z2 => er _ _ (by omega), fun j _ => er _ _ (by omega), fun j _ => er _ _ (by omega), fun j _ => ⟨er _ _ (by omega), er _ _ (by omega)⟩⟩
  have ch : rCh m ce T e.t.length S (S.wI (m + k) i w) := ⟨fx, or_wI_R _ _ _ _, fun F _ => by rw [or_wI_I], fun a z => funext fun j => er a j (by omega), fun j _ => er _ _ (by omega), or_wI_rJ _ _ _ _, fun f _ => kp f⟩
  exact ⟨h.same hx ch (kp _), fx, or_wI_R _ _ _ _⟩
/-- a tuple more -/
theorem rE.tup1 (h : rE S m ce γ B T C nc y e q st) (hx : xEs1 C nc K e st) (hw : mNw m ce T S S') {L : List Int} (h75 : S'.I 75 m = nI (T + 3 + L.length)) (ht : mTpl S' (m + ce) T L.length (xMax e.H L + 1) (fun j => gV γ (L.getD j 0)) L.length) (hB : ∀ v ∈ L, xIn B v) (hT : T + 3 + L.length ≤ 1100000) : rE S' m ce (upA γ e.n T) (e.n :: B) (T + xSz (.inr (.inl (L, xMax e.H L + 1)))) C nc y (e.nw (.inr (.inl (L, xMax e.H L + 1)))) q st ∧ mFx m S S' ∧ S'.R = S.R := by
  obtain ⟨k1, k2, k3, k4, k5, k6, k7, k8, k9, k10⟩ := hw
  have T16 : 16 ≤ T := h.2.1.1.2.2.2.1
  have hce := h.c23
  have sz : xSz (.inr (.inl (L, xMax e.H L + 1))) = 3 + L.length := rfl
  have fx : mFx m S S' := ⟨k3, k1, k2, k5, k6, fun F a _ => by rw [k4], fun F a z => k8 F a (Or.inl z), fun a z => k9 a (by omega) (by omega), fun a _ => by rw [k7], fun F z => k8 F m (Or.inr (by omega)), fun p z => k9 (m + p) (by omega) (by omega), by rw [k7]⟩
  have en : upA γ e.n T e.n = T := if_pos rfl
  obtain ⟨t1, t2, t3, t4⟩ := ht
  refine ⟨h.ext hx fx k4 (fun F z => k8 F m (Or.inr (by omega))) (by rw [sz, h75]; exact congrArg nI (by omega)) (fun a z1 z2 => k9 a (by omega) (by omega)) k7 k10 ⟨by rw [en]; exact T16, ?_⟩ hB (by rw [sz]; omega), fx, k4⟩
  rw [en]
  refine ⟨t1, t2, t3, fun i hi => ?_⟩
  have hi' : i < L.length := hi
  show S'.rI (m + ce) (T + 3 + i) = gV (upA γ e.n T) (L.getD i 0)
  rw [gV_new (h.2.1.1.lt hx.1.1 (hB _ (by rw [List.getD_eq_getElem?_getD, List.getElem?_eq_getElem hi']; exact List.getElem_mem hi')))]
  exact t4 i hi'
end RDp
