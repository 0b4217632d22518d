/-! the class's instructions: the stack, places, blocks -/
section C51
variable {sp : ox_E} {d mr sr : Nat} {S S' : ox_St} {Q : ox_Q} {x : Nat} {α : Int → Nat} {C : Nat → xCd} {nc K : Nat} {e : xEn} {q : Nat} {st r : List Int} {v u : Int} {a : Nat}
/-- below a lonely one -/
theorem c_sec1 (hsp : ox_mono sp) (h : cE S x α C nc e q [v]) (hx : xEs1 C nc K e [v]) (hQ : Q (some (.inr (.inr (S.R 17 (x + 28 + 5 * e.t.length))))) S) : ox_M sp (d + 1) 21 [.inr (.inr (x + 28 + 5 * e.t.length)), .inl (nI 1)] mr sr S Q := by
  have k1 := (h.oF hx).1
  refine f_21 hsp ⟨by rw [k1]; rfl, ?_⟩
  intro w1
  have e1 : w1 = -1 := by
    show S.I 20 (x + 28 + 5 * e.t.length) - 1 - nI 1 = _
    rw [h.ht]
    show nI 1 - 1 - nI 1 = -1
    decide
  exact ⟨fun _ => ⟨by rw [k1]; rfl, rfl, hQ⟩, fun z => absurd (by rw [e1]; decide) z⟩
theorem c_sec2 (hsp : ox_mono sp) (h : cE S x α C nc e q (v :: r)) (hx : xEs1 C nc K e (v :: r)) (hQ : ∀ b, Q (some (.inr (.inr b))) S) : ox_M sp (d + 1) 21 [.inr (.inr (x + 28 + 5 * e.t.length)), .inl (nI 1)] mr sr S Q := by
  match r, h, hx with
  | [], h, hx => exact c_sec1 hsp h hx (hQ _)
  | u :: r, h, hx => exact c_sec hsp h hx (fun _ => hQ _)
theorem c_51_1 (hsp : ox_mono sp) (h : cE S x α C nc e q (v :: r)) (hx : xEs1 C nc K e (v :: r)) (hQ : ∀ S', cN x S S' → cE S' x α C nc e q r → Q (some (.inl (-1))) S') : ox_M sp (d + 2) 51 [.inr (.inr (x + 28 + 5 * e.t.length)), .inl 1] mr sr S Q := by
  have hE : ox_mono (ox_M sp (d + 1)) := ox_M_mono hsp _
  have k := (h.oF hx).1
  refine f_51 hsp ⟨by decide, k, by decide, 0, 0, Nat.zero_le _, Nat.zero_le _, c_top hsp h hx (fun hv => f_51_5 hE ⟨by decide, k, by decide, 0, 0, Nat.zero_le _, Nat.zero_le _, c_sec2 hsp h hx (fun b => f_51_11 hE ⟨fun z => absurd rfl z, fun _ => ⟨by decide, k, by decide, 0, 0, Nat.zero_le _, Nat.zero_le _, ?_⟩⟩)⟩)⟩
  exact c_drop (i := 1) hsp h hx (Nat.succ_le_succ (Nat.zero_le _)) (fun S' g1 g2 => f_51_22 hE (f_51_80 hE ⟨trivial, hQ S' g1 g2⟩))
theorem c_51_4 (hsp : ox_mono sp) (h : cE S x α C nc e q (v :: r)) (hx : xEs1 C nc K e (v :: r)) (hl : r.length + 1 < 10) (hQ : ∀ S', cN x S S' → cE S' x α C nc e q (v :: v :: r) → Q (some (.inl (-1))) S') : ox_M sp (d + 2) 51 [.inr (.inr (x + 28 + 5 * e.t.length)), .inl 4] mr sr S Q := by
  have hE : ox_mono (ox_M sp (d + 1)) := ox_M_mono hsp _
  have k := (h.oF hx).1
  refine f_51 hsp ⟨by decide, k, by decide, 0, 0, Nat.zero_le _, Nat.zero_le _, c_top hsp h hx (fun hv => f_51_5 hE ⟨by decide, k, by decide, 0, 0, Nat.zero_le _, Nat.zero_le _, c_sec2 hsp h hx (fun b => f_51_11 hE ⟨fun _ => ⟨fun z => absurd rfl z, fun _ => ⟨by decide, k, by decide, 0, 0, Nat.zero_le _, Nat.zero_le _, ?_⟩⟩, fun z => absurd z (by decide)⟩)⟩)⟩
  exact c_push hsp h hx hl hv hx.head (fun S' g1 g2 => f_51_35 hE (f_51_80 hE ⟨trivial, hQ S' g1 g2⟩))
theorem c_51_2 (hsp : ox_mono sp) (h : cE S x α C nc e q (u :: v :: r)) (hx : xEs1 C nc K e (u :: v :: r)) (hQ : ∀ S', cN x S S' → cE S' x α C nc e q (v :: u :: r) → Q (some (.inl (-1))) S') : ox_M sp (d + 2) 51 [.inr (.inr (x + 28 + 5 * e.t.length)), .inl 2] mr sr S Q := by
  have hE : ox_mono (ox_M sp (d + 1)) := ox_M_mono hsp _
  have k := (h.oF hx).1
  have l10 : r.length + 2 ≤ 10 := hx.2.2.1
  refine f_51 hsp ⟨by decide, k, by decide, 0, 0, Nat.zero_le _, Nat.zero_le _, c_top hsp h hx (fun hv => f_51_5 hE ⟨by decide, k, by decide, 0, 0, Nat.zero_le _, Nat.zero_le _, c_sec hsp h hx (fun hu => f_51_11 hE ⟨fun _ => ⟨fun _ => ⟨fun z => absurd rfl z, fun _ => ⟨by decide, k, by decide, 0, 0, Nat.zero_le _, Nat.zero_le _, ?_⟩⟩, fun z => absurd z (by decide)⟩, fun z => absurd z (by decide)⟩)⟩)⟩
  generalize S.rR (x + 28 + 5 * e.t.length + 2) (v :: r).length = A at hv ⊢
  generalize S.rR (x + 28 + 5 * e.t.length + 2) r.length = B at hu ⊢
  have ok1 := hx.head
  have ok2 := hx.tail.head
  refine s_setFromTop hsp (h.oF hx) (i := 0) (n := r.length + 2) (by omega) l10 h.ht (hu.isV h hx ok2) ?_
  have hI1 : cI x (fun a => cZ x a) S (S.wR (x + 28 + 5 * e.t.length + 2) (r.length + 2 - 1 - 0) B) := (cI.refl (W := cWf x e.t.length)).wR (Or.inr cWf_2) |>.mono (cWf_Z hx.t7)
  have hr1 : ∀ j, (S.wR (x + 28 + 5 * e.t.length + 2) (r.length + 2 - 1 - 0) B).rR (x + 28 + 5 * e.t.length + 2) j = if j = r.length + 1 then B else S.rR (x + 28 + 5 * e.t.length + 2) j := fun j => by
    rw [or_wR_rR]
    by_cases z : j = r.length + 1
    · rw [if_pos ⟨rfl, by omega⟩, if_pos z]
    · rw [if_neg (fun y => by omega), if_neg z]
  obtain ⟨g1, g2⟩ := h.set hx (i := r.length + 2 - 1 - 0) (a := B) (st' := v :: v :: r) rfl ⟨by rw [hr1, if_pos (by simp)]; exact hu.next hI1 rfl, by rw [hr1, if_neg (by omega)]; exact h.sk.2.1.next hI1 rfl, cStk.row hI1 r (fun j hj => by rw [hr1, if_neg (by omega)]) (fun _ _ => rfl) h.sk.2.2⟩
  have hv1 := hv.next (α' := α) hI1 rfl
  generalize S.wR (x + 28 + 5 * e.t.length + 2) (r.length + 2 - 1 - 0) B = U at g1 g2 hv1
  have hxU : xEs1 C nc K e (v :: v :: r) := ⟨hx.1, fun z hz => by
    rcases List.mem_cons.mp hz with y | y
    · rw [y]; exact ok2
    · exact hx.2.1 z (List.mem_cons_of_mem _ y), hx.2.2.1, hx.2.2.2⟩
  have kU := (g2.oF hxU).1
  refine f_51_49 hE ⟨by decide, kU, by decide, 0, 0, Nat.zero_le _, Nat.zero_le _, ?_⟩
  refine s_setFromTop hsp (g2.oF hxU) (i := 1) (n := r.length + 2) (by omega) l10 g2.ht (hv1.isV g2 hxU ok1) ?_
  have hI2 : cI x (fun a => cZ x a) U (U.wR (x + 28 + 5 * e.t.length + 2) (r.length + 2 - 1 - 1) A) := (cI.refl (W := cWf x e.t.length)).wR (Or.inr cWf_2) |>.mono (cWf_Z hx.t7)
  have hr2 : ∀ j, (U.wR (x + 28 + 5 * e.t.length + 2) (r.length + 2 - 1 - 1) A).rR (x + 28 + 5 * e.t.length + 2) j = if j = r.length then A else U.rR (x + 28 + 5 * e.t.length + 2) j := fun j => by
    rw [or_wR_rR]
    by_cases z : j = r.length
    · rw [if_pos ⟨rfl, by omega⟩, if_pos z]
    · rw [if_neg (fun y => by omega), if_neg z]
  obtain ⟨m1, m2⟩ := g2.set hxU (i := r.length + 2 - 1 - 1) (a := A) (st' := v :: u :: r) rfl ⟨by rw [hr2, if_neg (by simp only [List.length_cons]; omega)]; exact g2.sk.1.next hI2 rfl, by rw [hr2, if_pos rfl]; exact hv1.next hI2 rfl, cStk.row hI2 r (fun j hj => by rw [hr2, if_neg (by omega)]) (fun _ _ => rfl) g2.sk.2.2⟩
  exact f_51_55 hE (f_51_80 hE ⟨trivial, hQ _ (g1.trans m1) m2⟩)
theorem c_51_3 (hsp : ox_mono sp) {w : Int} (h : cE S x α C nc e q (u :: v :: w :: r)) (hx : xEs1 C nc K e (u :: v :: w :: r)) (hQ : ∀ S', cN x S S' → cE S' x α C nc e q (v :: w :: u :: r) → Q (some (.inl (-1))) S') : ox_M sp (d + 2) 51 [.inr (.inr (x + 28 + 5 * e.t.length)), .inl 3] mr sr S Q := by
  have hE : ox_mono (ox_M sp (d + 1)) := ox_M_mono hsp _
  have k := (h.oF hx).1
  have l10 : r.length + 3 ≤ 10 := hx.2.2.1
  refine f_51 hsp ⟨by decide, k, by decide, 0, 0, Nat.zero_le _, Nat.zero_le _, c_top hsp h hx (fun hv => f_51_5 hE ⟨by decide, k, by decide, 0, 0, Nat.zero_le _, Nat.zero_le _, c_sec hsp h hx (fun hu => f_51_11 hE ⟨fun _ => ⟨fun _ => ⟨fun _ => ⟨by decide, k, by decide, 0, 0, Nat.zero_le _, Nat.zero_le _, ?_⟩, fun z => absurd z (by decide)⟩, fun z => absurd z (by decide)⟩, fun z => absurd z (by decide)⟩)⟩)⟩
  have ok1 := hx.head
  have ok2 := hx.tail.head
  have ok3 := hx.tail.tail.head
  generalize S.rR (x + 28 + 5 * e.t.length + 2) (v :: w :: r).length = A at hv ⊢
  generalize S.rR (x + 28 + 5 * e.t.length + 2) (w :: r).length = B at hu ⊢
  refine s_setFromTop hsp (h.oF hx) (i := 0) (n := r.length + 3) (by omega) l10 h.ht (hu.isV h hx ok2) ?_
  have hI1 : cI x (fun a => cZ x a) S (S.wR (x + 28 + 5 * e.t.length + 2) (r.length + 3 - 1 - 0) B) := (cI.refl (W := cWf x e.t.length)).wR (Or.inr cWf_2) |>.mono (cWf_Z hx.t7)
  have hr1 : ∀ j, (S.wR (x + 28 + 5 * e.t.length + 2) (r.length + 3 - 1 - 0) B).rR (x + 28 + 5 * e.t.length + 2) j = if j = r.length + 2 then B else S.rR (x + 28 + 5 * e.t.length + 2) j := fun j => by
    rw [or_wR_rR]
    by_cases z : j = r.length + 2
    · rw [if_pos ⟨rfl, by omega⟩, if_pos z]
    · rw [if_neg (fun y => by omega), if_neg z]
  obtain ⟨g1, g2⟩ := h.set hx (i := r.length + 3 - 1 - 0) (a := B) (st' := v :: v :: w :: r) rfl ⟨by rw [hr1, if_pos (by simp)]; exact hu.next hI1 rfl, by rw [hr1, if_neg (by simp only [List.length_cons]; omega)]; exact h.sk.2.1.next hI1 rfl, cStk.row hI1 (w :: r) (fun j hj => by simp only [List.length_cons] at hj; rw [hr1, if_neg (by omega)]) (fun _ _ => rfl) h.sk.2.2⟩
  have hv1 := hv.next (α' := α) hI1 rfl
  generalize S.wR (x + 28 + 5 * e.t.length + 2) (r.length + 3 - 1 - 0) B = U at g1 g2 hv1
  have hxU : xEs1 C nc K e (v :: v :: w :: r) := ⟨hx.1, fun z hz => by
    rcases List.mem_cons.mp hz with y | y
    · rw [y]; exact ok2
    · exact hx.2.1 z (List.mem_cons_of_mem _ y), hx.2.2.1, hx.2.2.2⟩
  have kU := (g2.oF hxU).1
  refine f_51_64 hE ⟨by decide, kU, by decide, 0, 0, Nat.zero_le _, Nat.zero_le _, ?_⟩
  refine s_fromTop hsp (g2.oF hxU) (i := 2) (n := r.length + 3) (by omega) l10 g2.ht ?_
  refine f_51_71 hE ⟨by decide, kU, by decide, 0, 0, Nat.zero_le _, Nat.zero_le _, ?_⟩
  have hw1 : vC U x α w (U.rR (x + 28 + 5 * e.t.length + 2) (r.length + 3 - 1 - 2)) := g2.sk.2.2.1
  generalize U.rR (x + 28 + 5 * e.t.length + 2) (r.length + 3 - 1 - 2) = D at hw1 ⊢
  refine s_setFromTop hsp (g2.oF hxU) (i := 1) (n := r.length + 3) (by omega) l10 g2.ht (hw1.isV g2 hxU ok3) ?_
  have hI2 : cI x (fun a => cZ x a) U (U.wR (x + 28 + 5 * e.t.length + 2) (r.length + 3 - 1 - 1) D) := (cI.refl (W := cWf x e.t.length)).wR (Or.inr cWf_2) |>.mono (cWf_Z hx.t7)
  have hr2 : ∀ j, (U.wR (x + 28 + 5 * e.t.length + 2) (r.length + 3 - 1 - 1) D).rR (x + 28 + 5 * e.t.length + 2) j = if j = r.length + 1 then D else U.rR (x + 28 + 5 * e.t.length + 2) j := fun j => by
    rw [or_wR_rR]
    by_cases z : j = r.length + 1
    · rw [if_pos ⟨rfl, by omega⟩, if_pos z]
    · rw [if_neg (fun y => by omega), if_neg z]
  obtain ⟨m1, m2⟩ := g2.set hxU (i := r.length + 3 - 1 - 1) (a := D) (st' := v :: w :: w :: r) rfl ⟨by rw [hr2, if_neg (by simp only [List.length_cons]; omega)]; exact g2.sk.1.next hI2 rfl, by rw [hr2, if_pos (by simp)]; exact hw1.next hI2 rfl, cStk.row hI2 (w :: r) (fun j hj => by simp only [List.length_cons] at hj; rw [hr2, if_neg (by omega)]) (fun _ _ => rfl) g2.sk.2.2⟩
  have hv2 := hv1.next (α' := α) hI2 rfl
  generalize U.wR (x + 28 + 5 * e.t.length + 2) (r.length + 3 - 1 - 1) D = V at m1 m2 hv2
  have hxV : xEs1 C nc K e (v :: w :: w :: r) := ⟨hx.1, fun z hz => by
    simp only [List.mem_cons] at hz
    rcases hz with y | y | y | y
    · rw [y]; exact ok2
    · rw [y]; exact ok3
    · rw [y]; exact ok3
    · exact hx.2.1 z (List.mem_cons_of_mem _ (List.mem_cons_of_mem _ (List.mem_cons_of_mem _ y))), hx.2.2.1, hx.2.2.2⟩
  have kV := (m2.oF hxV).1
  refine f_51_74 hE ⟨by decide, kV, by decide, 0, 0, Nat.zero_le _, Nat.zero_le _, ?_⟩
  refine s_setFromTop hsp (m2.oF hxV) (i := 2) (n := r.length + 3) (by omega) l10 m2.ht (hv2.isV m2 hxV ok1) ?_
  have hI3 : cI x (fun a => cZ x a) V (V.wR (x + 28 + 5 * e.t.length + 2) (r.length + 3 - 1 - 2) A) := (cI.refl (W := cWf x e.t.length)).wR (Or.inr cWf_2) |>.mono (cWf_Z hx.t7)
  have hr3 : ∀ j, (V.wR (x + 28 + 5 * e.t.length + 2) (r.length + 3 - 1 - 2) A).rR (x + 28 + 5 * e.t.length + 2) j = if j = r.length then A else V.rR (x + 28 + 5 * e.t.length + 2) j := fun j => by
    rw [or_wR_rR]
    by_cases z : j = r.length
    · rw [if_pos ⟨rfl, by omega⟩, if_pos z]
    · rw [if_neg (fun y => by omega), if_neg z]
  obtain ⟨n1, n2⟩ := m2.set hxV (i := r.length + 3 - 1 - 2) (a := A) (st' := v :: w :: u :: r) rfl ⟨by rw [hr3, if_neg (by simp only [List.length_cons]; omega)]; exact m2.sk.1.next hI3 rfl, by rw [hr3, if_neg (by simp only [List.length_cons]; omega)]; exact m2.sk.2.1.next hI3 rfl, by rw [hr3, if_pos rfl]; exact hv2.next hI3 rfl, cStk.row hI3 r (fun j hj => by rw [hr3, if_neg (by omega)]) (fun _ _ => rfl) m2.sk.2.2.2⟩
  exact f_51_80 hE ⟨trivial, hQ _ ((g1.trans m1).trans n1) n2⟩
end C51
