/-! the reference: SPREAD -/
section RSp
variable {sp : ox_E} {d mr sr : Nat} {S S' S2 : ox_St} {Q : ox_Q} {m ce a : Nat} {γ : Int → Nat} {B : List Int} {T : Nat} {C : Nat → xCd} {nc K y : Nat} {e : xEn} {q j i : Nat} {st r : List Int} {v u n : Int} {H : xHp} {o : xOb}
theorem r_197 (hsp : ox_mono sp) {b : Nat} (b10 : b ≤ 10) (hl : b + r.length ≤ 10) (hin : rIn C nc K e (v :: r) 1) (h : rE S m ce γ B T C nc y e q (v :: r)) (hQ : ∀ S', mFx m S S' → S'.R = S.R → rX S' m ce T C nc y e q (v :: r) (xSpr e q b r v) → Q none S') : ox_M sp (d + 3) 197 [.inr (.inr m), .inl (nI b)] mr sr S Q := by
  have hE : ox_mono (ox_M sp (d + 2)) := ox_M_mono hsp _
  have hx := hin.1
  refine f_197 hsp ⟨by decide, h.k, by decide, 0, 0, Nat.zero_le _, Nat.zero_le _, r_175 hsp h hx (fun S1 a1 a2 hB => f_197_4 hE ⟨by decide, a2.k, by decide, 0, 0, Nat.zero_le _, Nat.zero_le _, r_134 hsp a2 hx.tail hx.head hB (fun l k el => f_197_10 hE ?_) (fun n0 => f_197_10 hE ?_)⟩)⟩
  · obtain ⟨v1, v2, v3, v4, v5, v6⟩ := a2.tupc hx.tail hB el
    obtain ⟨c1, c2, c3⟩ := a2.ml.cells
    have l12 : l.length ≤ 12 := v6.1
    have n2 : nI (γ v) + 2 = nI (γ v + 2) := nI_add _ 2
    have es : xSpr e q b r v = if l.length = b then xGo e q (l ++ r) else .inl 3 := by
      unfold xSpr xTup
      rw [el]
    rw [es] at hQ
    refine ⟨fun _ => ⟨by rw [a2.k]; rfl, by rw [c1, c2]; rfl, by rw [v1, c1, c3, n2]; exact vp_in_nI (by omega) (by decide), ?_⟩, fun z => absurd z (by decide)⟩
    rw [v1, c1, n2, nI_clamp (show γ v + 2 < 2 ^ 31 by omega), v3]
    refine ⟨fun z => ?_, fun z => ⟨by decide, a2.k, by decide, 0, 0, Nat.zero_le _, Nat.zero_le _, ?_⟩⟩
    · have lb : l.length = b := (nI_eq (by omega) (by omega)).mp z
      subst lb
      rw [if_pos rfl] at hQ
      have loop : ∀ (i mr sr : Nat) (U : ox_St), i ≤ l.length → rE U m ce γ B T C nc y e q (l.drop i ++ r) → mFx m S U → U.R = S.R → c_197_45 (ox_M sp (d + 2)) m (nI l.length) (nI (γ v)) (nI i - 1) U mr sr Q := by
        intro i
        induction i with
        | zero =>
          intro mr sr U _ hU fx eR
          exact f_197_45 hE ⟨fun _ => ⟨rfl, hQ U fx eR (rX_go hU)⟩, fun z => absurd (by decide) z⟩
        | succ i ih =>
          intro mr sr U hi hU fx eR
          rw [nI_pred]
          have hxU : xEs1 C nc K e (l.drop (i + 1) ++ r) := ⟨hx.1, fun w hw => (List.mem_append.mp hw).elim (fun z => v6.2.2.2 w (List.mem_of_mem_drop z)) (fun z => hx.tail.2.1 w z), by rw [List.length_append, List.length_drop]; omega, hx.2.2.2⟩
          obtain ⟨-, w2, -, w4, -⟩ := hU.tupc hxU hB el
          obtain ⟨C1, C2, C3⟩ := hU.ml.cells
          have n3 : nI (γ v) + 3 + nI i = nI (γ v + 3 + i) := by rw [show (3 : Int32) = nI 3 from rfl, nI_add, nI_add]
          have hil : i < l.length := hi
          have mem : l.getD i 0 ∈ l := by rw [List.getD_eq_getElem?_getD, List.getElem?_eq_getElem hil]; exact List.getElem_mem hil
          have e1 : nI i + (-1) = nI i - 1 := by rw [Int32.sub_eq_add_neg]
          refine f_197_45 hE ⟨fun z => absurd z (nI_pos (by omega)), fun _ => ⟨by rw [hU.k]; rfl, by rw [C1, C2]; rfl, by rw [C1, C3, n3]; exact vp_in_nI (by omega) (by decide), by decide, hU.k, by decide, 0, 0, Nat.zero_le _, Nat.zero_le _, ?_⟩⟩
          rw [C1, n3, nI_clamp (show γ v + 3 + i < 2 ^ 31 by omega), w4 i hil]
          refine r_174 hsp hU hxU (by rw [List.length_append, List.length_drop]; omega) (v5 _ mem) (fun U2 n1 n2 => f_197_63 hE ?_)
          show c_197_45 (ox_M sp (d + 2)) m (nI l.length) (nI (γ v)) (nI i + (-1)) U2 _ _ Q
          rw [e1]
          refine ih _ _ U2 (by omega) ?_ (fx.trans n1.1) (n1.2.1.trans eR)
          have ed : l.drop i = l.getD i 0 :: l.drop (i + 1) := by
            rw [List.getD_eq_getElem?_getD, List.getElem?_eq_getElem hil]
            exact List.drop_eq_getElem_cons hil
          rw [ed]
          exact n2
      show c_197_45 (ox_M sp (d + 2)) m (nI l.length) (nI (γ v)) (nI l.length - 1) S1 _ _ Q
      refine loop l.length _ _ S1 (Nat.le_refl _) ?_ a1.1 a1.2.1
      rw [List.drop_length]
      exact a2
    · have lb : ¬ l.length = b := fun w => z (by rw [w])
      rw [if_neg lb] at hQ
      exact r_raise hsp (k := 3) (i := 1) (by decide) hin (Nat.le_refl _) a2 (fun S' b1 b2 b3 => f_197_38 hE ⟨rfl, hQ S' (a1.1.trans b1) (b2.trans a1.2.1) (rX_k b3)⟩)
  · have es : xSpr e q b r v = .inl 0 := by unfold xSpr; rw [n0]
    rw [es] at hQ
    exact ⟨fun z => absurd rfl z, fun _ => ⟨by decide, a2.k, by decide, 0, 0, Nat.zero_le _, Nat.zero_le _, r_raise hsp (k := 0) (i := 1) (by decide) hin (Nat.le_refl _) a2 (fun S' b1 b2 b3 => f_197_18 hE ⟨rfl, hQ S' (a1.1.trans b1) (b2.trans a1.2.1) (rX_k b3)⟩)⟩⟩
end RSp
