/-! the reference: numbers are reckoned with -/
theorem xFalse_num {nc K : Nat} {H : xHp} {n v N : Int} (hH : xHOk nc K H n) (h : xNum H v = some N) : xFalse H v = true ↔ N = 0 := by
  have h0 : v ≠ 0 := fun z => by
    subst z
    unfold xNum at h
    rw [if_neg (by decide), if_neg (by decide), hH.low (by decide)] at h
    cases h
  have nb : (v == 0) = false := by rw [beq_eq_false_iff_ne]; exact h0
  have hl : xLen H v = none := by
    unfold xLen
    cases e : H v with
    | none => rfl
    | some o =>
      have h16 := (hH.2 v o e).1
      rw [xNum_o h16 e] at h
      match o, h with
      | .inl N, _ => rfl
  unfold xFalse
  rw [nb, h, hl]
  simp
section RAr
variable {sp : ox_E} {d mr sr : Nat} {S S' S2 : ox_St} {Q : ox_Q} {m ce a : Nat} {γ : Int → Nat} {B : List Int} {T : Nat} {C : Nat → xCd} {nc K y : Nat} {e : xEn} {q j i : Nat} {st r : List Int} {v u n : Int} {H : xHp} {o : xOb}
/-- of two numbers -/
theorem r_183_41 (hsp : ox_mono sp) {w : Nat} (hw : w = 20 ∨ w = 22 ∨ w = 23 ∨ w = 24 ∨ w = 26) (hin : rIn C nc K e (u :: v :: r) 2) (h : rE S m ce γ B T C nc y e q r) (hBu : xIn B u) (hBv : xIn B v) (hT : T + 19 ≤ 1100000) (hQ : ∀ S', mFx m S S' → S'.R = S.R → rX S' m ce T C nc y e q (u :: v :: r) (xAri e q w r v u) → Q none S') : c_183_41 (ox_M sp (d + 4)) m (nI w) (gV γ u) (gV γ v) S mr sr Q := by
  have hE : ox_mono (ox_M sp (d + 4)) := ox_M_mono hsp _
  have hx0 := hin.1
  have hx := hx0.tail.tail
  have okv : xOk nc e.H v := hx0.tail.head
  have oku : xOk nc e.H u := hx0.head
  have s10 : r.length + 2 ≤ 10 := hx0.2.2.1
  have T16 : 16 ≤ T := h.2.1.1.2.2.2.1
  have bad : ∀ mr sr, xAri e q w r v u = .inl 0 → c_183_57 (ox_M sp (d + 4)) m (nI w) (gV γ u) (gV γ v) S mr sr Q := fun mr sr e0 => by
    rw [e0] at hQ
    exact f_183_57 hE ⟨by decide, h.k, by decide, 0, 0, Nat.zero_le _, Nat.zero_le _, r_raise hsp (k := 0) (i := 2) (by decide) hin (Nat.le_refl _) h (fun S' b1 b2 b3 => f_183_62 hE (f_183_157 hE ⟨rfl, hQ S' b1 b2 (rX_k b3)⟩))⟩
  have na : ∀ k : Nat, k < 100 → (nI w = nI k ↔ w = k) := fun k hk => nI_eq (by omega) (by omega)
  refine f_183_41 hE ⟨by decide, h.k, by decide, 0, 0, Nat.zero_le _, Nat.zero_le _, r_135 hsp h hx okv hBv (f_183_46 hE ⟨fun z => bad _ _ ?_, fun z => ⟨by decide, h.k, by decide, 0, 0, Nat.zero_le _, Nat.zero_le _, r_135 hsp h hx oku hBu (f_183_54 hE ⟨fun z2 => ?_, fun z2 => bad _ _ ?_⟩)⟩⟩)⟩
  · have nv0 : xNum e.H v = none := by
      cases g : xNum e.H v with
      | none => rfl
      | some N => rw [g, if_neg (fun w => by cases w)] at z; exact absurd z (by decide)
    unfold xAri
    rw [nv0]
  · have iv : ∃ N, xNum e.H v = some N := by
      cases g : xNum e.H v with
      | none => rw [g, if_pos rfl] at z; exact absurd rfl z
      | some N => exact ⟨N, rfl⟩
    have iu : ∃ N, xNum e.H u = some N := by
      cases g : xNum e.H u with
      | none => rw [g, if_pos rfl] at z2; exact absurd rfl z2
      | some N => exact ⟨N, rfl⟩
    obtain ⟨A, hA⟩ := iv
    obtain ⟨M, hM⟩ := iu
    obtain ⟨ua, f, n1, p1, g1, g2, g3, g4, g5⟩ := h.num hx hBv hA
    obtain ⟨ub, g, n2, p2, k1, k2, k3, k4, k5⟩ := h.num hx hBu hM
    have pA := g2.sg
    have pM := k2.sg
    have er : xAri e q w r v u = xAr e q w r A M := by unfold xAri; rw [hA, hM]
    rw [er] at hQ
    unfold xAr at hQ
    have sums : ∀ (b : Int32) (N : Int) mr sr, b = 0 ∨ b = 1 → N = (if b = 0 then A + M else A - M) → (∀ S', mFx m S S' → S'.R = S.R → rX S' m ce T C nc y e q (u :: v :: r) (xGive e q r N) → Q none S') → c_183_111 (ox_M sp (d + 4)) m (nI w) (gV γ u) (gV γ v) b (gV γ u) (gV γ v) m m S mr sr Q := by
      intro b N mr sr hb hN hQ'
      refine f_183_111 hE ⟨by decide, h.k, by decide, 0, 0, Nat.zero_le _, Nat.zero_le _, ?_⟩
      rw [g1, k1]
      have val : nv f n1 p1 + (if p2 = b then (dv g n2 : Int) else -(dv g n2 : Int)) = N := by
        rw [g5, hN]
        have k5' := k5
        unfold nv at k5'
        rcases hb with rfl | rfl
        · rw [show (if (0 : Int32) = 0 then A + M else A - M) = A + M from if_pos rfl]
          by_cases c : p2 = 0
          · rw [if_pos c] at k5' ⊢; omega
          · rw [if_neg c] at k5' ⊢; omega
        · rw [show (if (1 : Int32) = 0 then A + M else A - M) = A - M from if_neg (by decide)]
          rcases pM with c | c
          · rw [if_pos c] at k5'; rw [if_neg (by rw [c]; decide)]; omega
          · rw [if_neg (by rw [c]; decide)] at k5'; rw [if_pos c]; omega
      refine s_144 hsp (T := T) h.ml h.2.1.2 T16 hT g2 k2 g3 k3 hb (fun S2 ww c p e1 e2 e3 e4 e5 e6 => f_183_114 hE ⟨by decide, by rw [e1.1]; exact h.k, by decide, 0, 0, Nat.zero_le _, Nat.zero_le _, ?_⟩) (fun S2 t1 z => f_183_114 hE ⟨by decide, by rw [t1.1]; exact h.k, by decide, 0, 0, Nat.zero_le _, Nat.zero_le _, ?_⟩)
      · exact r_178a (st := u :: v :: r) hsp h hx (by omega) hT e1 e2 e3 e4 e5 (e6.trans val) (fun S' b1 b2 b3 => f_183_117 hE (f_183_157 hE ⟨rfl, hQ' S' b1 b2 b3⟩))
      · rw [val] at z
        exact r_178b hsp hin (i := 2) (Nat.le_refl _) h t1 z (fun S' b1 b2 b3 => f_183_117 hE (f_183_157 hE ⟨rfl, hQ' S' b1 b2 b3⟩))
    have s96 : ∀ mr sr, w = 23 ∨ w = 24 → c_183_96 (ox_M sp (d + 4)) m (nI w) (gV γ u) (gV γ v) S mr sr Q := fun mr sr hw' => by
      refine f_183_96 hE ⟨fun c => sums 0 (A + M) _ _ (Or.inl rfl) rfl ?_, fun c => sums 1 (A - M) _ _ (Or.inr rfl) rfl ?_⟩
      · have w24 : ¬ w = 24 := fun x => c (by rw [x]; rfl)
        rw [if_neg (by omega), if_pos (by omega)] at hQ
        exact hQ
      · have w24 : w = 24 := (na 24 (by decide)).mp c
        rw [if_neg (by omega), if_neg (by omega), if_pos w24] at hQ
        exact hQ
    refine ⟨fun c => ⟨fun c1 => s96 _ _ (Or.inl ((na 23 (by decide)).mp c1)), fun c1 => ⟨fun c2 => ⟨by decide, h.k, by decide, 0, 0, Nat.zero_le _, Nat.zero_le _, ?_⟩, fun c2 => s96 _ _ (Or.inr ((na 24 (by decide)).mp c2))⟩⟩, fun c => ⟨by decide, h.k, by decide, 0, 0, Nat.zero_le _, Nat.zero_le _, ?_⟩⟩
    · have w20 : ¬ w = 20 := fun x => c (by rw [x]; rfl)
      have w23 : ¬ w = 23 := fun x => c1 (by rw [x]; rfl)
      have w24 : ¬ w = 24 := fun x => c2 (by rw [x]; rfl)
      rw [if_neg w20, if_neg w23, if_neg w24] at hQ
      have iff := xFalse_num hx.1.1 hM
      refine r_181 hsp h hx oku hBu (f_183_125 hE ⟨fun c3 => ?_, fun c3 => ⟨by decide, h.k, by decide, 0, 0, Nat.zero_le _, Nat.zero_le _, ?_⟩⟩)
      · have M0 : M ≠ 0 := fun x => by rw [if_pos (iff.mpr x)] at c3; exact absurd c3 (by decide)
        rw [if_neg M0] at hQ
        have k0 : n2 ≠ 0 := fun x => M0 (by rw [← k5]; subst x; unfold nv; have : dv g 0 = 0 := rfl; rw [this]; split <;> rfl)
        have div : ∀ (b : Int32) mr sr, b = (if w = 22 then 1 else 0) → c_183_151 (ox_M sp (d + 4)) m (nI w) (gV γ u) (gV γ v) b (gV γ u) (gV γ v) m m S mr sr Q := fun b mr sr hb => by
          refine f_183_151 hE ⟨by decide, h.k, by decide, 0, 0, Nat.zero_le _, Nat.zero_le _, ?_⟩
          rw [g1, k1]
          refine s_147 hsp (T := T) h.ml h.2.1.2 T16 hT g2 k2 k3 k0 (fun S2 ww c p e1 e2 e3 e4 e5 e6 => f_183_154 hE ⟨by decide, by rw [e1.1]; exact h.k, by decide, 0, 0, Nat.zero_le _, Nat.zero_le _, ?_⟩)
          refine r_178a (st := u :: v :: r) hsp h hx (by omega) hT e1 e2 e3 e4 e5 e6 (fun S' b1 b2 b3 => f_183_157 hE ⟨rfl, hQ S' b1 b2 ?_⟩)
          rw [hb, ← g2.sgI g3 g4 g5, ← k2.sgI k3 k4 k5, ← nv_abs g5, ← nv_abs k5] at b3
          exact b3
        exact ⟨fun c4 => div 0 _ _ (by rw [if_neg (fun x => c4 (by rw [x]; rfl))]), fun c4 => div 1 _ _ (by rw [if_pos ((na 22 (by decide)).mp c4)])⟩
      · have M0 : M = 0 := iff.mp (by
          cases x : xFalse e.H u with
          | true => rfl
          | false => rw [x, if_neg (by decide)] at c3; exact absurd rfl c3)
        rw [if_pos M0] at hQ
        exact r_raise hsp (k := 1) (i := 2) (by decide) hin (Nat.le_refl _) h (fun S' b1 b2 b3 => f_183_133 hE (f_183_157 hE ⟨rfl, hQ S' b1 b2 (rX_k b3)⟩))
    · have w20 : w = 20 := (na 20 (by decide)).mp c
      rw [if_pos w20] at hQ
      rw [g1, k1]
      have val : (if p1 = p2 then ((dv f n1 * dv g n2 : Nat) : Int) else -((dv f n1 * dv g n2 : Nat) : Int)) = A * M := by
        rw [← g5, ← k5]
        unfold nv
        rcases pA with a1 | a1 <;> rcases pM with a2 | a2
        · rw [if_pos (a1.trans a2.symm), if_pos a1, if_pos a2, Int.natCast_mul]
        · rw [if_neg (by rw [a1, a2]; decide), if_pos a1, if_neg (by rw [a2]; decide), Int.natCast_mul, Int.mul_neg]
        · rw [if_neg (by rw [a1, a2]; decide), if_neg (by rw [a1]; decide), if_pos a2, Int.natCast_mul, Int.neg_mul]
        · rw [if_pos (a1.trans a2.symm), if_neg (by rw [a1]; decide), if_neg (by rw [a2]; decide), Int.natCast_mul, Int.neg_mul_neg]
      have abs : (A * M).natAbs = dv f n1 * dv g n2 := by rw [Int.natAbs_mul, nv_abs g5, nv_abs k5]
      refine s_145 hsp (T := T) h.ml h.2.1.2 T16 hT g2 k2 (fun S2 ww c p e1 e2 e3 e4 e5 e6 => f_183_78 hE ⟨by decide, by rw [e1.1]; exact h.k, by decide, 0, 0, Nat.zero_le _, Nat.zero_le _, ?_⟩) (fun S2 t1 z => f_183_78 hE ⟨by decide, by rw [t1.1]; exact h.k, by decide, 0, 0, Nat.zero_le _, Nat.zero_le _, ?_⟩)
      · exact r_178a (st := u :: v :: r) hsp h hx (by omega) hT e1 e2 e3 e4 e5 (e6.trans val) (fun S' b1 b2 b3 => f_183_81 hE (f_183_157 hE ⟨rfl, hQ S' b1 b2 b3⟩))
      · exact r_178b hsp hin (i := 2) (Nat.le_refl _) h t1 (by rw [abs]; exact z) (fun S' b1 b2 b3 => f_183_81 hE (f_183_157 hE ⟨rfl, hQ S' b1 b2 b3⟩))
  · have nv0 : xNum e.H u = none := by
      cases g : xNum e.H u with
      | none => rfl
      | some N => rw [g, if_neg (fun w => by cases w)] at z2; exact absurd z2 (by decide)
    unfold xAri
    rw [nv0]
    cases xNum e.H v <;> rfl
end RAr
