/-! the reference: fault, about -/
section RAb
variable {sp : ox_E} {d mr sr : Nat} {S S' : ox_St} {Q : ox_Q} {m ce : Nat} {γ : Int → Nat} {B : List Int} {T : Nat} {C : Nat → xCd} {nc K y : Nat} {s : xSt}
theorem r_162 (hsp : ox_mono sp) (h : S.K m = 14) (hQ : Q (some (.inl (S.I 70 m))) (S.sI 69 m 0)) : ox_M sp (d + 1) 162 [.inr (.inr m)] mr sr S Q := by
  refine f_162 hsp ⟨by rw [h]; rfl, by rw [or_sI_K, h]; rfl, trivial, ?_⟩
  rw [or_sI_I, if_neg (fun z => by cases z.1)]
  exact hQ
theorem r_205 (hsp : ox_mono sp) {x : Int32} (h : rR S m ce γ B T C nc y s) (hw : xWf C nc K s) (hQ : Q (some (.inl (xAb s y x))) (S.sI 69 m 0)) : ox_M sp (d + 1) 205 [.inr (.inr m), .inl x] mr sr S Q := by
  have k14 : S.K m = 14 := h.1.1
  have n1 := h.s69 hw.fl (v := 0)
  refine f_205 hsp ⟨by rw [k14]; rfl, ?_⟩
  generalize S.sI 69 m 0 = U at n1 hQ ⊢
  have kU : U.K m = 14 := n1.1.1
  obtain ⟨-, -, -, w4, w5, -, w7, w8, -, -⟩ := id hw
  obtain ⟨b1, b2, b3, b4, -⟩ := n1.2.2.2.2.2.1
  have b6 : U.I 106 m = nI s.G.length := n1.2.2.2.2.1.1
  have val : ∀ v, xAb s y x = v → Q (some (.inl v)) U := fun v e => by rw [← e]; exact hQ
  have ti : ∀ (k : Int32) (i : Int), k.toInt = i → (x.toInt = i ↔ x = k) := fun k i e => by rw [← e]; exact Int32.toInt_inj
  have t0 := ti 0 0 rfl
  have t1 := ti 1 1 rfl
  have t2 := ti 2 2 rfl
  have t3 := ti 3 3 rfl
  have t4 := ti 4 4 rfl
  have t5 := ti 5 5 rfl
  have t6 := ti 6 6 rfl
  have t7 := ti 7 7 rfl
  have a0 : x = 0 → xAb s y x = nI s.s := fun z => by unfold xAb; rw [if_pos z]
  have a1 : x = 1 → xAb s y x = nI s.f.length := fun z => by unfold xAb; rw [z, if_neg (by decide), if_pos rfl]
  have a5 : x = 5 → xAb s y x = Int32.ofInt s.k := fun z => by unfold xAb; rw [z, if_neg (by decide), if_neg (by decide), if_pos rfl]
  have a6 : x = 6 → xAb s y x = nI y := fun z => by unfold xAb; rw [z, if_neg (by decide), if_neg (by decide), if_neg (by decide), if_pos rfl]
  have a7 : x = 7 → xAb s y x = nI s.G.length := fun z => by unfold xAb; rw [z, if_neg (by decide), if_neg (by decide), if_neg (by decide), if_neg (by decide), if_pos rfl]
  have a8 : x ≠ 0 → x ≠ 1 → x ≠ 2 → x ≠ 3 → x ≠ 4 → x ≠ 5 → x ≠ 6 → x ≠ 7 → xAb s y x = -1 := fun z0 z1 z2 z3 z4 z5 z6 z7 => by
    unfold xAb
    rw [if_neg z0, if_neg z1, if_neg z5, if_neg z6, if_neg z7, if_neg (fun w => w.elim z2 (fun w => w.elim z3 z4))]
  have k5 : ∀ z : x = 5, (¬ U.I 93 m = 3 → Q (some (.inl (-1))) U) ∧ (U.I 93 m = 3 → Q (some (.inl (U.I 94 m))) U) := fun z => by
    refine ⟨fun w => val _ ?_, fun w => val _ ?_⟩
    · have : s.s ≠ 3 := fun y => w (by rw [b2, y]; rfl)
      rw [a5 z, w8 this]
      rfl
    · rw [a5 z]; exact b3.symm
  refine ⟨by rw [kU]; rfl, by rw [kU]; rfl, fun zr => ?_, fun zr => ?_⟩
  · have f0 : s.f = [] := by
      cases e : s.f with
      | nil => rfl
      | cons g t => exact absurd (by rw [b2, w5.mpr (by rw [e]; exact fun z => by cases z)]; rfl) zr
    have a2 : x = 2 ∨ x = 3 ∨ x = 4 → xAb s y x = 0 := fun z => by
      unfold xAb
      rw [f0]
      rcases z with z | z | z
      · rw [z]; rfl
      · rw [z]; rfl
      · rw [z]; rfl
    exact ⟨fun z => ⟨by rw [kU]; rfl, trivial, val _ (by rw [b2]; exact a0 (t0.mp z))⟩, fun z0 => ⟨fun z => ⟨fun _ => ⟨trivial, val _ (by rw [a1 (t1.mp z), f0]; rfl)⟩, fun w => absurd rfl w⟩, fun z1 => ⟨fun z => ⟨fun _ => ⟨trivial, val _ (a2 (Or.inl (t2.mp z)))⟩, fun w => absurd rfl w⟩, fun z2 => ⟨fun z => ⟨fun _ => ⟨trivial, val _ (a2 (Or.inr (Or.inl (t3.mp z))))⟩, fun w => absurd rfl w⟩, fun z3 => ⟨fun z => ⟨fun _ => ⟨trivial, val _ (a2 (Or.inr (Or.inr (t4.mp z))))⟩, fun w => absurd rfl w⟩, fun z4 => ⟨fun z => ⟨by rw [kU]; rfl, fun w => ⟨trivial, (k5 (t5.mp z)).1 w⟩, fun w => ⟨by rw [kU]; rfl, trivial, (k5 (t5.mp z)).2 w⟩⟩, fun z5 => ⟨fun z => ⟨by rw [kU]; rfl, trivial, val _ (by rw [b4]; exact a6 (t6.mp z))⟩, fun z6 => ⟨fun z => ⟨by rw [kU]; rfl, trivial, val _ (by rw [b6]; exact a7 (t7.mp z))⟩, fun z7 => ⟨trivial, val _ (a8 (fun w => z0 (t0.mpr w)) (fun w => z1 (t1.mpr w)) (fun w => z2 (t2.mpr w)) (fun w => z3 (t3.mpr w)) (fun w => z4 (t4.mpr w)) (fun w => z5 (t5.mpr w)) (fun w => z6 (t6.mpr w)) (fun w => z7 (t7.mpr w)))⟩⟩⟩⟩⟩⟩⟩⟩⟩
  · have s1 : s.s = 1 := (nI_eq (b := 1) (by omega) (by decide)).mp (b2.symm.trans zr)
    have hne := w5.mp s1
    match hf : s.f, hne with
    | g :: t, _ =>
      have f8 : s.f.length ≤ 8 := w4.1
      rw [hf] at f8 b1
      have f8' : t.length + 1 ≤ 8 := f8
      have b1' : U.I 92 m = nI (t.length + 1) := b1
      have fr := n1.2.2.2.1
      rw [hf] at fr
      obtain ⟨g1, g2, g3, g4, -⟩ := fr.1
      obtain ⟨A1, A2, A3⟩ := n1.1.row (F := 99) (o := 17) (k := 15) (n := 8) (by decide)
      obtain ⟨B1, B2, B3⟩ := n1.1.row (F := 100) (o := 18) (k := 15) (n := 8) (by decide)
      obtain ⟨C1, C2, C3⟩ := n1.1.row (F := 101) (o := 19) (k := 15) (n := 8) (by decide)
      have a2 : x = 2 → xAb s y x = nI g.2.1 := fun z => by unfold xAb; rw [hf, z]; rfl
      have a3 : x = 3 → xAb s y x = nI g.2.2.1.length := fun z => by unfold xAb; rw [hf, z]; rfl
      have a4 : x = 4 → xAb s y x = nI g.2.2.2.2.length := fun z => by unfold xAb; rw [hf, z]; rfl
      rw [b1', nI_pred, A1, A2, A3, B1, B2, B3, C1, C2, C3, nI_clamp (show t.length < 2 ^ 31 by omega), g2, g3, g4]
      have iv : vp_in (nI t.length) 8 := vp_in_nI (by omega) (by decide)
      exact ⟨fun z => ⟨by rw [kU]; rfl, trivial, val _ (by rw [b2]; exact a0 (t0.mp z))⟩, fun z0 => ⟨fun z => ⟨fun w => absurd w (by decide), fun _ => ⟨by rw [kU]; rfl, trivial, val _ (by rw [a1 (t1.mp z), hf]; rfl)⟩⟩, fun z1 => ⟨fun z => ⟨fun w => absurd w (by decide), fun _ => ⟨by rw [kU]; rfl, rfl, iv, trivial, val _ (a2 (t2.mp z))⟩⟩, fun z2 => ⟨fun z => ⟨fun w => absurd w (by decide), fun _ => ⟨by rw [kU]; rfl, rfl, iv, trivial, val _ (a3 (t3.mp z))⟩⟩, fun z3 => ⟨fun z => ⟨fun w => absurd w (by decide), fun _ => ⟨by rw [kU]; rfl, rfl, iv, trivial, val _ (a4 (t4.mp z))⟩⟩, fun z4 => ⟨fun z => ⟨by rw [kU]; rfl, fun w => ⟨trivial, (k5 (t5.mp z)).1 w⟩, fun w => ⟨by rw [kU]; rfl, trivial, (k5 (t5.mp z)).2 w⟩⟩, fun z5 => ⟨fun z => ⟨by rw [kU]; rfl, trivial, val _ (by rw [b4]; exact a6 (t6.mp z))⟩, fun z6 => ⟨fun z => ⟨by rw [kU]; rfl, trivial, val _ (by rw [b6]; exact a7 (t7.mp z))⟩, fun z7 => ⟨trivial, val _ (a8 (fun w => z0 (t0.mpr w)) (fun w => z1 (t1.mpr w)) (fun w => z2 (t2.mpr w)) (fun w => z3 (t3.mpr w)) (fun w => z4 (t4.mpr w)) (fun w => z5 (t5.mpr w)) (fun w => z6 (t6.mpr w)) (fun w => z7 (t7.mpr w)))⟩⟩⟩⟩⟩⟩⟩⟩⟩
end RAb
