/-! the reference: ADD -/
section RJn
variable {sp : ox_E} {d mr sr : Nat} {S S' S2 : ox_St} {Q : ox_Q} {m ce a : Nat} {γ : Int → Nat} {B : List Int} {T : Nat} {C : Nat → xCd} {nc K y : Nat} {e : xEn} {q j i : Nat} {st r : List Int} {v u n : Int} {H : xHp} {o : xOb}
theorem rE.tupc (h : rE S m ce γ B T C nc y e q st) (hx : xEs1 C nc K e st) (hB : xIn B v) {l : List Int} {k : Nat} (hv : e.H v = some (.inr (.inl (l, k)))) : gV γ v = nI (γ v) ∧ γ v + 3 + l.length ≤ 1100000 ∧ S.rI (m + ce) (γ v + 2) = nI l.length ∧ (∀ i, i < l.length → S.rI (m + ce) (γ v + 3 + i) = gV γ (l.getD i 0)) ∧ (∀ z ∈ l, xIn B z) ∧ xObOk nc K e.H (.inr (.inl (l, k))) := by
  have h16 := (hx.1.1.2 v _ hv).1
  obtain ⟨o, e1, ⟨r0, r1⟩, r2, eg⟩ := h.hi hB (by omega)
  rw [hv] at e1
  cases e1
  have sz : xSz (.inr (.inl (l, k))) = 3 + l.length := rfl
  have vB : v ∈ B := hB.resolve_left (by omega)
  obtain ⟨o2, e2, cl⟩ := h.2.1.1.1.2 v vB
  have e2' : e.H v = some o2 := e2
  rw [hv] at e2'
  cases e2'
  exact ⟨eg, by omega, r1.2.2.1, r1.2.2.2, cl, (hx.1.1.2 v _ hv).2.2⟩
theorem r_184 (hsp : ox_mono sp) (hin : rIn C nc K e (u :: v :: r) 2) (h : rE S m ce γ B T C nc y e q r) (hBu : xIn B u) (hBv : xIn B v) (hT : T + 19 ≤ 1100000) {lv lu : List Int} {kv ku : Nat} (hv : e.H v = some (.inr (.inl (lv, kv)))) (hu : e.H u = some (.inr (.inl (lu, ku)))) (hQ : ∀ S', mFx m S S' → S'.R = S.R → rX S' m ce T C nc y e q (u :: v :: r) (if 12 < lv.length + lu.length then .inl 6 else xMk e q r (.inr (.inl (lv ++ lu, xMax e.H (lv ++ lu) + 1)))) → Q none S') : ox_M sp (d + 5) 184 [.inr (.inr m), .inl (gV γ v), .inl (gV γ u)] mr sr S Q := by
  have hE : ox_mono (ox_M sp (d + 4)) := ox_M_mono hsp _
  have hx0 := hin.1
  have hx := hx0.tail.tail
  have s10 : r.length + 2 ≤ 10 := hx0.2.2.1
  obtain ⟨c1, c2, c3⟩ := h.ml.cells
  obtain ⟨v1, v2, v3, v4, v5, v6⟩ := h.tupc hx hBv hv
  obtain ⟨u1, u2, u3, u4, u5, u6⟩ := h.tupc hx hBu hu
  have a1 : nI (γ v) + 2 = nI (γ v + 2) := nI_add _ 2
  have a2 : nI (γ u) + 2 = nI (γ u + 2) := nI_add _ 2
  have lv12 : lv.length ≤ 12 := v6.1
  have lu12 : lu.length ≤ 12 := u6.1
  rw [v1, u1]
  refine f_184 hsp ⟨by rw [h.k]; rfl, by rw [c1, c2]; rfl, by rw [c1, c3, a1]; exact vp_in_nI (by omega) (by decide), ?_⟩
  rw [c1, c2, c3, a1, a2, h.k, nI_clamp (show γ v + 2 < 2 ^ 31 by omega), nI_clamp (show γ u + 2 < 2 ^ 31 by omega), v3, u3]
  intro w1
  have ew1 : w1 = nI lv.length := rfl
  clear_value w1
  subst ew1
  refine ⟨rfl, rfl, vp_in_nI (by omega) (by decide), ?_⟩
  intro w2
  have ew2 : w2 = nI lu.length := rfl
  clear_value w2
  subst ew2
  rw [nI_add]
  refine ⟨fun z => ?_, fun z => ⟨by decide, rfl, by decide, 0, 0, Nat.zero_le _, Nat.zero_le _, ?_⟩⟩
  · have le : lv.length + lu.length ≤ 12 := (nI_leI (b := 12) (by omega) (by decide)).mp z
    rw [if_neg (by omega)] at hQ
    have lL : (lv ++ lu).length = lv.length + lu.length := List.length_append
    have inL : ∀ z ∈ lv ++ lu, xIn B z := fun z hz => (List.mem_append.mp hz).elim (v5 z) (u5 z)
    have okL : ∀ z ∈ lv ++ lu, xOk nc e.H z := fun z hz => (List.mem_append.mp hz).elim (v6.2.2.2 z) (u6.2.2.2 z)
    have loop : ∀ (k i mr sr : Nat) (U : ox_St), i + k = (lv ++ lu).length → rE U m ce γ B T C nc y e q r → mFx m S U → U.R = S.R → (∀ j, j < i → U.rI (m + 34) j = gV γ ((lv ++ lu).getD j 0)) → c_184_38 (ox_M sp (d + 4)) m (nI (γ v)) (nI (γ u)) (nI lv.length) (nI lu.length) (nI i) U mr sr Q := by
      intro k
      induction k with
      | zero =>
        intro i mr sr U hi hU fx eR hr
        have hi' : i = lv.length + lu.length := by omega
        refine f_184_38 hE ⟨fun _ => ⟨by decide, hU.k, by decide, 0, 0, Nat.zero_le _, Nat.zero_le _, ?_⟩, fun w => absurd (by rw [nI_add, hi']; exact nI_le (Nat.le_refl _) (by omega)) w⟩
        rw [nI_add, ← lL]
        show ox_M sp (d + 4) 157 [.inr (.inr m), .inl (nI (lv ++ lu).length), .inl (nI 0)] 0 0 U _
        refine s_157 hsp hU.ml (b := 0) (W := fun j => gV γ ((lv ++ lu).getD j 0)) (D := fun j => xDep e.H ((lv ++ lu).getD j 0)) hU.2.1.2 (by omega) (by omega) (fun j hj => ?_) (fun U2 n1 n2 n3 => f_184_103 hE ⟨by decide, by rw [n1.1]; exact hU.k, by decide, 0, 0, Nat.zero_le _, Nat.zero_le _, ?_⟩)
        · have mem : (lv ++ lu).getD j 0 ∈ lv ++ lu := by rw [List.getD_eq_getElem?_getD, List.getElem?_eq_getElem hj]; exact List.getElem_mem hj
          exact ⟨by rw [Nat.zero_add]; exact hr j (by omega), hU.deep hx (okL _ mem) (inL _ mem)⟩
        · rw [mxD_max] at n3
          obtain ⟨m1, m2, m3⟩ := hU.tup1 hx n1 n2 n3 inL (by omega)
          have eg : gV (upA γ e.n T) e.n = nI T := by
            unfold gV
            rw [if_neg (by have := hx.1.1.1; omega), show upA γ e.n T e.n = T from if_pos rfl]
          have sz : xSz (.inr (.inl (lv ++ lu, xMax e.H (lv ++ lu) + 1))) = 3 + (lv ++ lu).length := rfl
          have dep : xMax e.H (lv ++ lu) + 1 ≤ 4 := by
            rw [xMax_append]
            have d1 := v6.2.1
            have d2 := v6.2.2.1
            have d3 := u6.2.1
            have d4 := u6.2.2.1
            have d1' : kv = xMax e.H lv + 1 := d1
            have d3' : ku = xMax e.H lu + 1 := d3
            have d2' : kv ≤ 4 := d2
            have d4' : ku ≤ 4 := d4
            omega
          rw [← eg]
          exact r_give (o := .inr (.inl (lv ++ lu, xMax e.H (lv ++ lu) + 1))) (st := u :: v :: r) hsp hx (by omega) ⟨by show (lv ++ lu).length ≤ 12; omega, rfl, dep, okL⟩ (by rw [sz]; omega) m1 (fun S' b1 b2 b3 => f_184_106 hE ⟨rfl, hQ S' (fx.trans (m2.trans b1)) (b2.trans (m3.trans eR)) b3⟩)
      | succ k ih =>
        intro i mr sr U hi hU fx eR hr
        have il : i < (lv ++ lu).length := by omega
        obtain ⟨C1, C2, C3⟩ := hU.ml.cells
        obtain ⟨P1, P2, P3⟩ := hU.ml.row (F := 130) (o := 34) (k := 15) (n := 900) (by decide)
        obtain ⟨-, x2, -, x4, -⟩ := hU.tupc hx hBv hv
        obtain ⟨-, y2, -, y4, -⟩ := hU.tupc hx hBu hu
        have next : ∀ (mr sr : Nat) (w : Int32), w = gV γ ((lv ++ lu).getD i 0) → c_184_38 (ox_M sp (d + 4)) m (nI (γ v)) (nI (γ u)) (nI lv.length) (nI lu.length) (nI i + 1) (U.wI (m + 34) i w) mr sr Q := fun mr sr w ew => by
          obtain ⟨q1, q2, q3⟩ := hU.wO hx (i := i) (k := 34) (w := w) ⟨by omega, by omega⟩
          rw [nI_1]
          refine ih (i + 1) mr sr _ (by omega) q1 (fx.trans q2) (q3.trans eR) (fun j hj => ?_)
          by_cases z : j = i
          · subst z; rw [or_wI_rI, if_pos ⟨rfl, rfl⟩]; exact ew
          · rw [or_wI_rI, if_neg (fun y => z y.2)]; exact hr j (by omega)
        refine f_184_38 hE ⟨fun w => absurd w (by rw [nI_add]; exact nI_ge (by omega) (by omega)), fun _ => ⟨by rw [hU.k]; rfl, fun w => ?_, fun w => ?_⟩⟩
        · have ge : lv.length ≤ i := (nI_leI (by omega) (by omega)).mp w
          have n3 : nI (γ u) + 3 + nI i - nI lv.length = nI (γ u + 3 + (i - lv.length)) := by
            rw [show (3 : Int32) = nI 3 from rfl, nI_add, nI_add, pk_sub (by omega)]
            exact congrArg nI (by omega)
          refine ⟨by rw [hU.k]; rfl, by rw [C1, C2]; rfl, by rw [C1, C3, n3]; exact vp_in_nI (by omega) (by decide), by rw [P1]; exact P2, by rw [P1, P3]; exact vp_in_nI (by omega) (by decide), ?_⟩
          rw [C1, P1, n3, nI_clamp (show γ u + 3 + (i - lv.length) < 2 ^ 31 by omega), nI_clamp (show i < 2 ^ 31 by omega)]
          refine next _ _ _ ?_
          rw [y4 _ (by omega), List.getD_eq_getElem?_getD, List.getD_eq_getElem?_getD, List.getElem?_append_right ge]
        · have lt : i < lv.length := Nat.not_le.mp fun x => w (nI_le x (by omega))
          have n3 : nI (γ v) + 3 + nI i = nI (γ v + 3 + i) := by rw [show (3 : Int32) = nI 3 from rfl, nI_add, nI_add]
          refine ⟨by rw [hU.k]; rfl, by rw [C1, C2]; rfl, by rw [C1, C3, n3]; exact vp_in_nI (by omega) (by decide), by rw [P1]; exact P2, by rw [P1, P3]; exact vp_in_nI (by omega) (by decide), ?_⟩
          rw [C1, P1, n3, nI_clamp (show γ v + 3 + i < 2 ^ 31 by omega), nI_clamp (show i < 2 ^ 31 by omega)]
          refine next _ _ _ ?_
          rw [x4 _ lt, List.getD_eq_getElem?_getD, List.getD_eq_getElem?_getD, List.getElem?_append_left lt]
    exact loop (lv ++ lu).length 0 _ _ S (by omega) h mFx.refl rfl (fun j hj => absurd hj (Nat.not_lt_zero _))
  · have gt : 12 < lv.length + lu.length := Nat.not_le.mp fun x => z (nI_le (b := 12) x (by decide))
    rw [if_pos gt] at hQ
    exact r_raise hsp (k := 6) (i := 2) (by decide) hin (Nat.le_refl _) h (fun S' b1 b2 b3 => f_184_34 hE ⟨rfl, hQ S' b1 b2 (rX_k b3)⟩)
end RJn
