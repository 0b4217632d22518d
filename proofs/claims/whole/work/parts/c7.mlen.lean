/-! the reference: how long a range is; isFalse -/
theorem rg_alt {X t : Int64} {W T : Int} (h1 : X.toInt = W + T - 1) (h2 : t.toInt = T) (hW : 0 < W) (hW2 : W < 8589934592) (hT : 0 < T) : X / t = lN ((W - 1) / T + 1).toNat := by
  have e2 : (X / t).toInt = (W + T - 1) / T := by rw [lg_ldiv_nonneg (by omega) (by omega), h1, h2]
  have e3 : (W + T - 1) / T = (W - 1) / T + 1 := by
    rw [show W + T - 1 = (W - 1) + 1 * T by omega, Int.add_mul_ediv_right _ _ (by omega)]
  have b1 : 0 ≤ (W - 1) / T := Int.ediv_nonneg (by omega) (by omega)
  have b2 : (W - 1) / T ≤ W - 1 := Int.ediv_le_self _ (by omega)
  refine l_of (by omega) ?_
  rw [e2, e3]
  omega
section RLn
variable {sp : ox_E} {d mr sr : Nat} {S S' S2 : ox_St} {Q : ox_Q} {m ce a : Nat} {γ : Int → Nat} {B : List Int} {T : Nat} {C : Nat → xCd} {nc K y : Nat} {e : xEn} {q j i : Nat} {st r : List Int} {v u n : Int} {H : xHp} {o : xOb}
theorem s_179 (hsp : ox_mono sp) {p s t : Int64} {u v w : Int} (hp : p.toInt = u) (hs : s.toInt = v) (ht : t.toInt = w) (bu : -2147483648 ≤ u ∧ u < 2147483648) (bv : -2147483648 ≤ v ∧ v < 2147483648) (bw : -2147483648 ≤ w ∧ w < 2147483648) (hw : w ≠ 0) (hQ : Q (some (.inr (.inl (lN (rgN u v w))))) S) : ox_M sp (d + 1) 179 [.inr (.inl p), .inr (.inl s), .inr (.inl t)] mr sr S Q := by
  have z0 : (0 : Int64).toInt = 0 := rfl
  have o1 : (1 : Int64).toInt = 1 := rfl
  have hle : ∀ y : Int64, lg_cmp y 0 ≤ 0 ↔ y.toInt ≤ 0 := fun y => by rw [lg_cmp_le, Int64.le_iff_toInt_le, z0]
  have hne : ∀ y : Int64, y.toInt ≠ 0 → ¬ y = 0 := fun y hy z => hy (by rw [z]; rfl)
  have en : (-t).toInt = -w := by rw [l_neg (by omega), ht]
  unfold rgN at hQ
  refine f_179 hsp ⟨fun z => ?_, fun z => ?_⟩
  · have z' := (hle t).mp z
    rw [if_neg (by omega)] at hQ
    refine ⟨fun y => ⟨rfl, ?_⟩, fun y => ⟨hne _ (by rw [en]; omega), rfl, ?_⟩⟩
    · rw [lg_cmp_le, Int64.le_iff_toInt_le, hp, hs] at y
      rw [if_neg (by omega)] at hQ
      exact hQ
    · rw [lg_cmp_le, Int64.le_iff_toInt_le, hp, hs] at y
      rw [if_pos (by omega)] at hQ
      have e1 : (p - s).toInt = u - v := by rw [l_sub (by omega) (by omega), hp, hs]
      have e2 : (p - s - t).toInt = u - v - w := by rw [l_sub (by omega) (by omega), e1, ht]
      have e3 : (p - s - t - 1).toInt = (u - v) + (-w) - 1 := by rw [l_sub (by omega) (by omega), e2, o1]; omega
      rw [rg_alt e3 en (by omega) (by omega) (by omega)]
      exact hQ
  · have z' : 0 < w := Int.not_le.mp fun y => z ((hle t).mpr (by omega))
    rw [if_pos z'] at hQ
    refine ⟨fun y => ⟨rfl, ?_⟩, fun y => ⟨hne _ (by rw [ht]; omega), rfl, ?_⟩⟩
    · rw [lg_cmp_ge, Int64.le_iff_toInt_le, hp, hs] at y
      rw [if_neg (by omega)] at hQ
      exact hQ
    · rw [lg_cmp_ge, Int64.le_iff_toInt_le, hp, hs] at y
      rw [if_pos (by omega)] at hQ
      have e1 : (s - p).toInt = v - u := by rw [l_sub (by omega) (by omega), hp, hs]
      have e2 : (s - p + t).toInt = v - u + w := by rw [l_add (by omega) (by omega), e1, ht]
      have e3 : (s - p + t - 1).toInt = (v - u) + w - 1 := by rw [l_sub (by omega) (by omega), e2, o1]
      rw [rg_alt e3 ht (by omega) (by omega) (by omega)]
      exact hQ
/-- lengthOf -/
theorem s_180 (hsp : ox_mono sp) (h : oML S m ce) {c : Nat} (hc : c + 4 ≤ 1100000) {u v w : Int} (h1 : (S.rI (m + ce) (c + 1)).toInt = u) (h2 : (S.rI (m + ce) (c + 2)).toInt = v) (h3 : (S.rI (m + ce) (c + 3)).toInt = w) (hw : w ≠ 0) (hQ : Q (some (.inr (.inl (lN (rgN u v w))))) S) : ox_M sp (d + 2) 180 [.inr (.inr m), .inl (nI c)] mr sr S Q := by
  have hE : ox_mono (ox_M sp (d + 1)) := ox_M_mono hsp _
  obtain ⟨c1, c2, c3⟩ := h.cells
  have n1 : nI c + 1 = nI (c + 1) := nI_1 c
  have n2 : nI c + 2 = nI (c + 2) := nI_add c 2
  have n3 : nI c + 3 = nI (c + 3) := nI_add c 3
  refine f_180 hsp ?_
  unfold q_180
  rw [h.1, c1, c2, c3, n1, n2, n3, nI_clamp (show c + 1 < 2 ^ 31 by omega), nI_clamp (show c + 2 < 2 ^ 31 by omega), nI_clamp (show c + 3 < 2 ^ 31 by omega)]
  have b1 := i_bd (S.rI (m + ce) (c + 1))
  have b2 := i_bd (S.rI (m + ce) (c + 2))
  have b3 := i_bd (S.rI (m + ce) (c + 3))
  rw [h1] at b1
  rw [h2] at b2
  rw [h3] at b3
  refine ⟨rfl, rfl, vp_in_nI (by omega) (by decide), rfl, rfl, vp_in_nI (by omega) (by decide), rfl, rfl, vp_in_nI (by omega) (by decide), by decide, by decide, 0, 0, Nat.zero_le _, Nat.zero_le _, s_179 hsp (by rw [Int32.toInt_toInt64]; exact h1) (by rw [Int32.toInt_toInt64]; exact h2) (by rw [Int32.toInt_toInt64]; exact h3) (by omega) (by omega) (by omega) hw (f_180_30 hE ⟨rfl, hQ⟩)⟩
end RLn
