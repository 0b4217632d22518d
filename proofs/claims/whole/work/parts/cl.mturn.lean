/-! the reference: ROT_TWO, ROT_THREE -/
section RTn
variable {sp : ox_E} {d mr sr : Nat} {S S' S2 : ox_St} {Q : ox_Q} {m ce a : Nat} {γ : Int → Nat} {B : List Int} {T : Nat} {C : Nat → xCd} {nc K y : Nat} {e : xEn} {q j i : Nat} {st st' r : List Int} {v u n : Int} {H : xHp} {o : xOb}
/-- the stack's row alone changes -/
theorem rE.stk (h : rE S m ce γ B T C nc y e q st) (hx : xEs1 C nc K e st) (ch : rCh m ce T e.t.length S S') (er : ∀ a j, a ≠ m + 20 → S'.rI a j = S.rI a j) (hl : st'.length = st.length) (hs : rStk S' m γ e.t.length st') (hB : ∀ v ∈ st', xIn B v) : rE S' m ce γ B T C nc y e q st' := by
  obtain ⟨f1, f2, f3, f4, f5, f6, f7⟩ := h.2.2.2.1.1
  exact h.fr hx ch (f' := (e.c, q, st', e.L, e.b)) ⟨(er _ _ (by omega)).trans f1, (er _ _ (by omega)).trans f2, (er _ _ (by omega)).trans (f3.trans (by show nI st.length = nI st'.length; rw [hl])), (er _ _ (by omega)).trans f4, hs, rLo.row (fun j _ => er _ _ (by omega)) (fun _ _ _ => rfl) f6, rBk.row _ (fun j _ => ⟨er _ _ (by omega), er _ _ (by omega)⟩) f7⟩ hB h.in.2
theorem i_m21 (x : Int32) : x - 2 + 1 = x - 1 := by
  rw [Int32.sub_eq_add_neg, Int32.add_assoc, Int32.sub_eq_add_neg]
  rfl
theorem i_m31 (x : Int32) : x - 3 + 1 = x - 2 := by
  rw [Int32.sub_eq_add_neg, Int32.add_assoc, Int32.sub_eq_add_neg]
  rfl
theorem r_201_2 (hsp : ox_mono sp) (h : rE S m ce γ B T C nc y e q (u :: v :: r)) (hx : xEs1 C nc K e (u :: v :: r)) (hQ : ∀ S', mFx m S S' → S'.R = S.R → rE S' m ce γ B T C nc y e q (v :: u :: r) → Q none S') : ox_M sp (d + 1) 201 [.inr (.inr m), .inl 2] mr sr S Q := by
  have hE : ox_mono (ox_M sp d) := ox_M_mono hsp _
  have t7 := hx.t7
  have k14 := h.k
  have s10 : r.length + 2 ≤ 10 := hx.2.2.1
  obtain ⟨a1, a2, a3⟩ := h.ml.row (F := 102) (o := 20) (k := 15) (n := 80) (by decide)
  obtain ⟨b1, b2, b3⟩ := h.ml.row (F := 100) (o := 18) (k := 15) (n := 8) (by decide)
  have ht : S.rI (m + 18) e.t.length = nI (r.length + 2) := h.ht
  have e10 : (10 : Int32) * nI e.t.length + nI (r.length + 2) - 1 = nI (10 * e.t.length + (r.length + 1)) := by
    rw [show (10 : Int32) = nI 10 from rfl, pk_mul, nI_add, show (1 : Int32) = nI 1 from rfl, pk_sub (by omega)]
    exact congrArg nI (by omega)
  have h1 : S.rI (m + 20) (10 * e.t.length + (r.length + 1)) = gV γ u := h.sk.1
  have h2 : S.rI (m + 20) (10 * e.t.length + r.length) = gV γ v := h.sk.2.1
  have i1 : nI (10 * e.t.length + (r.length + 1)) - nI 0 = nI (10 * e.t.length + (r.length + 1)) := pk_sub (Nat.zero_le _)
  have i2 : nI (10 * e.t.length + (r.length + 1)) - 1 = nI (10 * e.t.length + r.length) := nI_pred (10 * e.t.length + r.length)
  refine f_201 hsp ⟨by rw [k14]; rfl, by rw [k14]; rfl, by rw [k14]; rfl, by rw [b1, b2]; rfl, by rw [b1, b3, h.f92, nI_pred]; exact vp_in_nI (by omega) (by decide), ?_⟩
  rw [h.f92, nI_pred, b1, nI_clamp (show e.t.length < 2 ^ 31 by omega), ht, e10]
  intro w1
  have ew : w1 = nI (10 * e.t.length + (r.length + 1)) := rfl
  clear_value w1
  subst ew
  refine ⟨by rw [k14]; rfl, by rw [a1, a2]; rfl, by rw [a1, a3]; exact vp_in_nI (by omega) (by decide), ?_⟩
  rw [a1, nI_clamp (show 10 * e.t.length + (r.length + 1) < 2 ^ 31 by omega), h1]
  show c_201_34 (ox_M sp d) m 2 (nI (10 * e.t.length + (r.length + 1))) (gV γ u) (nI 0) S mr sr Q
  refine f_201_34 hE ⟨fun z => absurd z (by decide), fun _ => ⟨by rw [k14]; rfl, by rw [k14]; rfl, by rw [a1, a2]; rfl, by rw [a1, a3, i1, i2]; exact vp_in_nI (by omega) (by decide), by rw [a1]; exact a2, by rw [a1, a3, i1]; exact vp_in_nI (by omega) (by decide), ?_⟩⟩
  rw [a1, i1, i2, nI_clamp (show 10 * e.t.length + (r.length + 1) < 2 ^ 31 by omega), nI_clamp (show 10 * e.t.length + r.length < 2 ^ 31 by omega), h2]
  have ch1 : rCh m ce T e.t.length S (S.wI (m + 20) (10 * e.t.length + (r.length + 1)) (gV γ v)) := rCh.refl.wI h.c23 (Or.inr (Or.inl ⟨rfl, by omega⟩))
  have eK : (S.wI (m + 20) (10 * e.t.length + (r.length + 1)) (gV γ v)).K = S.K := or_wI_K _ _ _ _
  have el : (S.wI (m + 20) (10 * e.t.length + (r.length + 1)) (gV γ v)).len = S.len := or_wI_len _ _ _ _
  have eR : (S.wI (m + 20) (10 * e.t.length + (r.length + 1)) (gV γ v)).R = S.R := or_wI_R _ _ _ _
  have er : ∀ a j, (S.wI (m + 20) (10 * e.t.length + (r.length + 1)) (gV γ v)).rI a j = if a = m + 20 ∧ j = 10 * e.t.length + (r.length + 1) then gV γ v else S.rI a j := fun a j => or_wI_rI _ _ _ _ _ _
  generalize S.wI (m + 20) (10 * e.t.length + (r.length + 1)) (gV γ v) = U at ch1 eK el eR er ⊢
  refine f_201_34 hE ⟨fun _ => ⟨by rw [eK, k14]; rfl, by rw [eR, eK, a1]; exact a2, by rw [eR, el, a1, a3, i_m21, i2]; exact vp_in_nI (by omega) (by decide), ?_⟩, fun z => absurd (by decide) z⟩
  rw [eR, a1, i_m21, i2, nI_clamp (show 10 * e.t.length + r.length < 2 ^ 31 by omega)]
  have ch2 : rCh m ce T e.t.length S (U.wI (m + 20) (10 * e.t.length + r.length) (gV γ u)) := ch1.wI h.c23 (Or.inr (Or.inl ⟨rfl, by omega⟩))
  have er2 : ∀ a j, (U.wI (m + 20) (10 * e.t.length + r.length) (gV γ u)).rI a j = if a = m + 20 ∧ j = 10 * e.t.length + r.length then gV γ u else if a = m + 20 ∧ j = 10 * e.t.length + (r.length + 1) then gV γ v else S.rI a j := fun a j => by rw [or_wI_rI, er]
  generalize U.wI (m + 20) (10 * e.t.length + r.length) (gV γ u) = V at ch2 er2 ⊢
  have hB := h.in.1
  refine ⟨rfl, hQ V ch2.1 ch2.2.1 (h.stk hx ch2 (fun a j z => by rw [er2, if_neg (fun y => z y.1), if_neg (fun y => z y.1)]) rfl ⟨?_, ?_, ?_⟩ (fun w hw => hB w ?_))⟩
  · show V.rI (m + 20) (10 * e.t.length + (r.length + 1)) = gV γ v
    rw [er2, if_neg (fun y => by have := y.2; omega), if_pos ⟨rfl, rfl⟩]
  · rw [er2, if_pos ⟨rfl, rfl⟩]
  · exact rStk.row _ (fun j hj => by rw [er2, if_neg (fun y => by have := y.2; omega), if_neg (fun y => by have := y.2; omega)]) (fun _ _ => rfl) h.sk.2.2
  · simp only [List.mem_cons] at hw ⊢
    rcases hw with z | z | z
    · exact Or.inr (Or.inl z)
    · exact Or.inl z
    · exact Or.inr (Or.inr z)
theorem r_201_3 (hsp : ox_mono sp) {w : Int} (h : rE S m ce γ B T C nc y e q (u :: v :: w :: r)) (hx : xEs1 C nc K e (u :: v :: w :: r)) (hQ : ∀ S', mFx m S S' → S'.R = S.R → rE S' m ce γ B T C nc y e q (v :: w :: u :: r) → Q none S') : ox_M sp (d + 1) 201 [.inr (.inr m), .inl 3] mr sr S Q := by
  have hE : ox_mono (ox_M sp d) := ox_M_mono hsp _
  have t7 := hx.t7
  have k14 := h.k
  have s10 : r.length + 3 ≤ 10 := hx.2.2.1
  obtain ⟨a1, a2, a3⟩ := h.ml.row (F := 102) (o := 20) (k := 15) (n := 80) (by decide)
  obtain ⟨b1, b2, b3⟩ := h.ml.row (F := 100) (o := 18) (k := 15) (n := 8) (by decide)
  have ht : S.rI (m + 18) e.t.length = nI (r.length + 3) := h.ht
  have e10 : (10 : Int32) * nI e.t.length + nI (r.length + 3) - 1 = nI (10 * e.t.length + (r.length + 2)) := by
    rw [show (10 : Int32) = nI 10 from rfl, pk_mul, nI_add, show (1 : Int32) = nI 1 from rfl, pk_sub (by omega)]
    exact congrArg nI (by omega)
  have h1 : S.rI (m + 20) (10 * e.t.length + (r.length + 2)) = gV γ u := h.sk.1
  have h2 : S.rI (m + 20) (10 * e.t.length + (r.length + 1)) = gV γ v := h.sk.2.1
  have h3 : S.rI (m + 20) (10 * e.t.length + r.length) = gV γ w := h.sk.2.2.1
  have i1 : nI (10 * e.t.length + (r.length + 2)) - nI 0 = nI (10 * e.t.length + (r.length + 2)) := pk_sub (Nat.zero_le _)
  have i2 : nI (10 * e.t.length + (r.length + 2)) - 1 = nI (10 * e.t.length + (r.length + 1)) := nI_pred (10 * e.t.length + (r.length + 1))
  have i3 : nI (10 * e.t.length + (r.length + 2)) - nI 1 = nI (10 * e.t.length + (r.length + 1)) := nI_pred (10 * e.t.length + (r.length + 1))
  have i4 : nI (10 * e.t.length + (r.length + 1)) - 1 = nI (10 * e.t.length + r.length) := nI_pred (10 * e.t.length + r.length)
  have i5 : nI (10 * e.t.length + (r.length + 2)) - 2 = nI (10 * e.t.length + r.length) := by
    rw [show (2 : Int32) = nI 2 from rfl, pk_sub (by omega)]
    exact congrArg nI (by omega)
  refine f_201 hsp ⟨by rw [k14]; rfl, by rw [k14]; rfl, by rw [k14]; rfl, by rw [b1, b2]; rfl, by rw [b1, b3, h.f92, nI_pred]; exact vp_in_nI (by omega) (by decide), ?_⟩
  rw [h.f92, nI_pred, b1, nI_clamp (show e.t.length < 2 ^ 31 by omega), ht, e10]
  intro w1
  have ew : w1 = nI (10 * e.t.length + (r.length + 2)) := rfl
  clear_value w1
  subst ew
  refine ⟨by rw [k14]; rfl, by rw [a1, a2]; rfl, by rw [a1, a3]; exact vp_in_nI (by omega) (by decide), ?_⟩
  rw [a1, nI_clamp (show 10 * e.t.length + (r.length + 2) < 2 ^ 31 by omega), h1]
  show c_201_34 (ox_M sp d) m 3 (nI (10 * e.t.length + (r.length + 2))) (gV γ u) (nI 0) S mr sr Q
  refine f_201_34 hE ⟨fun z => absurd z (by decide), fun _ => ⟨by rw [k14]; rfl, by rw [k14]; rfl, by rw [a1, a2]; rfl, by rw [a1, a3, i1, i2]; exact vp_in_nI (by omega) (by decide), by rw [a1]; exact a2, by rw [a1, a3, i1]; exact vp_in_nI (by omega) (by decide), ?_⟩⟩
  rw [a1, i1, i2, nI_clamp (show 10 * e.t.length + (r.length + 2) < 2 ^ 31 by omega), nI_clamp (show 10 * e.t.length + (r.length + 1) < 2 ^ 31 by omega), h2]
  have ch1 : rCh m ce T e.t.length S (S.wI (m + 20) (10 * e.t.length + (r.length + 2)) (gV γ v)) := rCh.refl.wI h.c23 (Or.inr (Or.inl ⟨rfl, by omega⟩))
  have eK : (S.wI (m + 20) (10 * e.t.length + (r.length + 2)) (gV γ v)).K = S.K := or_wI_K _ _ _ _
  have el : (S.wI (m + 20) (10 * e.t.length + (r.length + 2)) (gV γ v)).len = S.len := or_wI_len _ _ _ _
  have eR : (S.wI (m + 20) (10 * e.t.length + (r.length + 2)) (gV γ v)).R = S.R := or_wI_R _ _ _ _
  have er : ∀ a j, (S.wI (m + 20) (10 * e.t.length + (r.length + 2)) (gV γ v)).rI a j = if a = m + 20 ∧ j = 10 * e.t.length + (r.length + 2) then gV γ v else S.rI a j := fun a j => or_wI_rI _ _ _ _ _ _
  generalize S.wI (m + 20) (10 * e.t.length + (r.length + 2)) (gV γ v) = U at ch1 eK el eR er ⊢
  show c_201_34 (ox_M sp d) m 3 (nI (10 * e.t.length + (r.length + 2))) (gV γ u) (nI 1) U mr sr Q
  refine f_201_34 hE ⟨fun z => absurd z (by decide), fun _ => ⟨by rw [eK, k14]; rfl, by rw [eK, k14]; rfl, by rw [eR, eK, a1, a2]; rfl, by rw [eR, el, a1, a3, i3, i4]; exact vp_in_nI (by omega) (by decide), by rw [eR, eK, a1]; exact a2, by rw [eR, el, a1, a3, i3]; exact vp_in_nI (by omega) (by decide), ?_⟩⟩
  rw [eR, a1, i3, i4, nI_clamp (show 10 * e.t.length + (r.length + 1) < 2 ^ 31 by omega), nI_clamp (show 10 * e.t.length + r.length < 2 ^ 31 by omega), er, if_neg (fun y => by have := y.2; omega), h3]
  have ch2 : rCh m ce T e.t.length S (U.wI (m + 20) (10 * e.t.length + (r.length + 1)) (gV γ w)) := ch1.wI h.c23 (Or.inr (Or.inl ⟨rfl, by omega⟩))
  have eK2 : (U.wI (m + 20) (10 * e.t.length + (r.length + 1)) (gV γ w)).K = S.K := (or_wI_K _ _ _ _).trans eK
  have el2 : (U.wI (m + 20) (10 * e.t.length + (r.length + 1)) (gV γ w)).len = S.len := (or_wI_len _ _ _ _).trans el
  have eR2 : (U.wI (m + 20) (10 * e.t.length + (r.length + 1)) (gV γ w)).R = S.R := (or_wI_R _ _ _ _).trans eR
  have er2 : ∀ a j, (U.wI (m + 20) (10 * e.t.length + (r.length + 1)) (gV γ w)).rI a j = if a = m + 20 ∧ j = 10 * e.t.length + (r.length + 1) then gV γ w else if a = m + 20 ∧ j = 10 * e.t.length + (r.length + 2) then gV γ v else S.rI a j := fun a j => by rw [or_wI_rI, er]
  generalize U.wI (m + 20) (10 * e.t.length + (r.length + 1)) (gV γ w) = V at ch2 eK2 el2 eR2 er2 ⊢
  show c_201_34 (ox_M sp d) m 3 (nI (10 * e.t.length + (r.length + 2))) (gV γ u) (nI 2) V mr sr Q
  refine f_201_34 hE ⟨fun _ => ⟨by rw [eK2, k14]; rfl, by rw [eR2, eK2, a1]; exact a2, by rw [eR2, el2, a1, a3, i_m31, i5]; exact vp_in_nI (by omega) (by decide), ?_⟩, fun z => absurd (by decide) z⟩
  rw [eR2, a1, i_m31, i5, nI_clamp (show 10 * e.t.length + r.length < 2 ^ 31 by omega)]
  have ch3 : rCh m ce T e.t.length S (V.wI (m + 20) (10 * e.t.length + r.length) (gV γ u)) := ch2.wI h.c23 (Or.inr (Or.inl ⟨rfl, by omega⟩))
  have er3 : ∀ a j, (V.wI (m + 20) (10 * e.t.length + r.length) (gV γ u)).rI a j = if a = m + 20 ∧ j = 10 * e.t.length + r.length then gV γ u else if a = m + 20 ∧ j = 10 * e.t.length + (r.length + 1) then gV γ w else if a = m + 20 ∧ j = 10 * e.t.length + (r.length + 2) then gV γ v else S.rI a j := fun a j => by rw [or_wI_rI, er2]
  generalize V.wI (m + 20) (10 * e.t.length + r.length) (gV γ u) = W at ch3 er3 ⊢
  have hB := h.in.1
  refine ⟨rfl, hQ W ch3.1 ch3.2.1 (h.stk hx ch3 (fun a j z => by rw [er3, if_neg (fun y => z y.1), if_neg (fun y => z y.1), if_neg (fun y => z y.1)]) rfl ⟨?_, ?_, ?_, ?_⟩ (fun z hz => hB z ?_))⟩
  · show W.rI (m + 20) (10 * e.t.length + (r.length + 2)) = gV γ v
    rw [er3, if_neg (fun y => by have := y.2; omega), if_neg (fun y => by have := y.2; omega), if_pos ⟨rfl, rfl⟩]
  · show W.rI (m + 20) (10 * e.t.length + (r.length + 1)) = gV γ w
    rw [er3, if_neg (fun y => by have := y.2; omega), if_pos ⟨rfl, rfl⟩]
  · rw [er3, if_pos ⟨rfl, rfl⟩]
  · exact rStk.row _ (fun j hj => by rw [er3, if_neg (fun y => by have := y.2; omega), if_neg (fun y => by have := y.2; omega), if_neg (fun y => by have := y.2; omega)]) (fun _ _ => rfl) h.sk.2.2.2
  · simp only [List.mem_cons] at hz ⊢
    rcases hz with z | z | z | z
    · exact Or.inr (Or.inl z)
    · exact Or.inr (Or.inr (Or.inl z))
    · exact Or.inl z
    · exact Or.inr (Or.inr (Or.inr z))
end RTn
