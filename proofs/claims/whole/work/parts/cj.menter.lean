/-! the reference: a frame begins -/
section REn
variable {sp : ox_E} {d mr sr : Nat} {S : ox_St} {Q : ox_Q} {m ce T f c : Nat} {γ : Int → Nat}
theorem r_172_l {E : ox_E} (hE : ox_mono E) (f7 : f ≤ 7) {x2 : Int32} (hQ : ∀ S', rCh m ce T f S S' → rFr S' m γ f (c, 0, [], (fun _ => none), []) → Q none S') : ∀ (k i mr sr : Nat) (U : ox_St), i + k = 8 → oML U m ce → rCh m ce T f S U → (U.rI (m + 16) f = nI c ∧ U.rI (m + 17) f = nI 0 ∧ U.rI (m + 18) f = nI 0 ∧ U.rI (m + 19) f = nI 0) → (∀ j, j < i → U.rI (m + 21) (8 * f + j) = -1000000) → c_172_30 E m (nI f) x2 (nI i) U mr sr Q := by
  intro k
  induction k with
  | zero =>
    intro i mr sr U hi h ch hr hl
    have hi' : i = 8 := hi
    subst hi'
    refine f_172_30 hE ⟨fun _ => ⟨rfl, hQ U ch ⟨hr.1, hr.2.1, hr.2.2.1, hr.2.2.2, trivial, fun j hj => hl j hj, trivial⟩⟩, fun z => absurd (by decide) z⟩
  | succ k ih =>
    intro i mr sr U hi h ch hr hl
    obtain ⟨a1, a2, a3⟩ := h.row (F := 103) (o := 21) (k := 15) (n := 64) (by decide)
    have e8 : (8 : Int32) * nI f + nI i = nI (8 * f + i) := by rw [show (8 : Int32) = nI 8 from rfl, pk_mul, nI_add]
    refine f_172_30 hE ⟨fun z => absurd z (nI_ge (b := 8) (by omega) (by decide)), fun _ => ⟨by rw [h.1]; rfl, by rw [a1]; exact a2, by rw [a1, a3, e8]; exact vp_in_nI (by omega) (by decide), ?_⟩⟩
    rw [a1, e8, nI_clamp (show 8 * f + i < 2 ^ 31 by omega), nI_1]
    have ch2 : rCh m ce T f S (U.wI (m + 21) (8 * f + i) (-1000000)) := ch.wI h.2.2.1 (Or.inr (Or.inr (Or.inl ⟨rfl, by omega⟩)))
    have er : ∀ a j, a ≠ m + 21 → (U.wI (m + 21) (8 * f + i) (-1000000)).rI a j = U.rI a j := fun a j z => by rw [or_wI_rI, if_neg (fun y => z y.1)]
    refine ih (i + 1) mr sr _ (by omega) (h.next (or_wI_K _ _ _ _) (or_wI_len _ _ _ _) (fun F => by rw [or_wI_R])) ch2 ⟨(er _ _ (by omega)).trans hr.1, (er _ _ (by omega)).trans hr.2.1, (er _ _ (by omega)).trans hr.2.2.1, (er _ _ (by omega)).trans hr.2.2.2⟩ (fun j hj => ?_)
    by_cases z : j = i
    · subst z; rw [or_wI_rI, if_pos ⟨rfl, rfl⟩]
    · rw [or_wI_rI, if_neg (fun y => by have := y.2; omega)]; exact hl j (by omega)
theorem r_172 (hsp : ox_mono sp) (h : oML S m ce) (f7 : f ≤ 7) (hQ : ∀ S', rCh m ce T f S S' → rFr S' m γ f (c, 0, [], (fun _ => none), []) → Q none S') : ox_M sp (d + 1) 172 [.inr (.inr m), .inl (nI f), .inl (nI c)] mr sr S Q := by
  have hE : ox_mono (ox_M sp d) := ox_M_mono hsp _
  have hce := h.2.2.1
  obtain ⟨a1, a2, a3⟩ := h.row (F := 98) (o := 16) (k := 15) (n := 8) (by decide)
  obtain ⟨b1, b2, b3⟩ := h.row (F := 99) (o := 17) (k := 15) (n := 8) (by decide)
  obtain ⟨c1, c2, c3⟩ := h.row (F := 100) (o := 18) (k := 15) (n := 8) (by decide)
  obtain ⟨d1, d2, d3⟩ := h.row (F := 101) (o := 19) (k := 15) (n := 8) (by decide)
  refine f_172 hsp ⟨by rw [h.1]; rfl, by rw [a1]; exact a2, by rw [a1, a3]; exact vp_in_nI (by omega) (by decide), ?_⟩
  rw [a1, nI_clamp (show f < 2 ^ 31 by omega)]
  refine ⟨by rw [or_wI_K, h.1]; rfl, by rw [or_wI_R, or_wI_K, b1]; exact b2, by rw [or_wI_R, or_wI_len, b1, b3]; exact vp_in_nI (by omega) (by decide), ?_⟩
  rw [or_wI_R, b1]
  refine ⟨by rw [or_wI_K, or_wI_K, h.1]; rfl, by rw [or_wI_R, or_wI_R, or_wI_K, or_wI_K, c1]; exact c2, by rw [or_wI_R, or_wI_R, or_wI_len, or_wI_len, c1, c3]; exact vp_in_nI (by omega) (by decide), ?_⟩
  rw [or_wI_R, or_wI_R, c1]
  refine ⟨by rw [or_wI_K, or_wI_K, or_wI_K, h.1]; rfl, by rw [or_wI_R, or_wI_R, or_wI_R, or_wI_K, or_wI_K, or_wI_K, d1]; exact d2, by rw [or_wI_R, or_wI_R, or_wI_R, or_wI_len, or_wI_len, or_wI_len, d1, d3]; exact vp_in_nI (by omega) (by decide), ?_⟩
  rw [or_wI_R, or_wI_R, or_wI_R, d1]
  have ch : rCh m ce T f S ((((S.wI (m + 16) f (nI c)).wI (m + 17) f 0).wI (m + 18) f 0).wI (m + 19) f 0) := (((rCh.refl.wI hce (Or.inl ⟨by omega, by omega, rfl⟩)).wI hce (Or.inl ⟨by omega, by omega, rfl⟩)).wI hce (Or.inl ⟨by omega, by omega, rfl⟩)).wI hce (Or.inl ⟨by omega, by omega, rfl⟩)
  have eK : ((((S.wI (m + 16) f (nI c)).wI (m + 17) f 0).wI (m + 18) f 0).wI (m + 19) f 0).K = S.K := by rw [or_wI_K, or_wI_K, or_wI_K, or_wI_K]
  have el : ((((S.wI (m + 16) f (nI c)).wI (m + 17) f 0).wI (m + 18) f 0).wI (m + 19) f 0).len = S.len := by rw [or_wI_len, or_wI_len, or_wI_len, or_wI_len]
  have er : ∀ a, ((((S.wI (m + 16) f (nI c)).wI (m + 17) f 0).wI (m + 18) f 0).wI (m + 19) f 0).rI a f = if a = m + 19 then 0 else if a = m + 18 then 0 else if a = m + 17 then 0 else if a = m + 16 then nI c else S.rI a f := fun a => by
    rw [or_wI_rI, or_wI_rI, or_wI_rI, or_wI_rI]
    simp only [and_true]
  show c_172_30 (ox_M sp d) m (nI f) (nI c) (nI 0) ((((S.wI (m + 16) f (nI c)).wI (m + 17) f 0).wI (m + 18) f 0).wI (m + 19) f 0) mr sr Q
  generalize (((S.wI (m + 16) f (nI c)).wI (m + 17) f 0).wI (m + 18) f 0).wI (m + 19) f 0 = U at ch eK el er ⊢
  refine r_172_l hE f7 hQ 8 0 mr sr U (by omega) (h.next eK el (fun F => by rw [ch.2.1])) ch ⟨?_, ?_, ?_, ?_⟩ (fun j hj => absurd hj (Nat.not_lt_zero _))
  · rw [er, if_neg (by omega), if_neg (by omega), if_neg (by omega), if_pos rfl]
  · rw [er, if_neg (by omega), if_neg (by omega), if_pos rfl]; rfl
  · rw [er, if_neg (by omega), if_pos rfl]; rfl
  · rw [er, if_pos rfl]; rfl
end REn
