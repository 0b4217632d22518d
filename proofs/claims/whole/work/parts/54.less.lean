/-! the class's calculator: lessened, the order of sizes -/
section OLS
variable {d mr sr : Nat} {S : ox_St} {Q : ox_Q} {x t1 t2 n1 n2 : Nat} {f g : Nat → Nat}
theorem s_5 (hC : oCal S x) (h1 : oDs S t1 f n1) (h2 : oDs S t2 g n2) (k1 : t1 ≠ x + 1) (k2 : t2 ≠ x + 1) (hQ : Q none (oFl (x + 1) (fun i => nI (wD (dg f n1) (dg g n2) i)) 0 16 S)) : ox_M lw_sp (d + 6) 5 [.inr (.inr x), .inr (.inr t1), .inr (.inr t2)] mr sr S Q := by
  have hE : ox_mono (ox_M lw_sp (d + 5)) := ox_M_mono lw_sp_mono _
  have hF : ∀ i, dg f n1 i < 32768 := fun i => dg_lt (fun j hj => (h1.2.2.2 j hj).2)
  have hG : ∀ i, dg g n2 i < 32768 := fun i => dg_lt (fun j hj => (h2.2.2.2 j hj).2)
  generalize hFF : dg f n1 = F at hF hQ
  generalize hGG : dg g n2 = G at hG hQ
  have loop : ∀ k i : Nat, i + k = 16 → c_5_5 (ox_M lw_sp (d + 5)) x t1 t2 (nI (cD F G i)) (nI i) (oFl (x + 1) (fun i => nI (wD F G i)) 0 i S) mr sr Q := by
    intro k
    induction k with
    | zero =>
      intro i hi
      have hi : i = 16 := by omega
      subst hi
      exact f_5_5 hE ⟨fun _ => ⟨rfl, hQ⟩, fun z => absurd (by decide) z⟩
    | succ k ih =>
      intro i hi
      have hC' := hC.fl (k := i) (g := fun i => nI (wD F G i))
      have d1 := oFl_Ds (g := fun i => nI (wD F G i)) (k := i) k1 h1
      have d2 := oFl_Ds (g := fun i => nI (wD F G i)) (k := i) k2 h2
      have hcd := cD_le (f := F) (g := G) i
      have hf := hF i
      have hg := hG i
      refine f_5_5 hE ⟨fun q => absurd q (nI_ge (b := 16) (by omega) (by omega)), fun _ => ⟨by decide, by decide, 0, 0, Nat.zero_le _, Nat.zero_le _, s_13 (d := d + 4) lw_sp_mono d1 (by omega) ?_⟩⟩
      rw [hFF]
      refine f_5_18 hE ⟨by decide, by decide, 0, 0, Nat.zero_le _, Nat.zero_le _, s_13 (d := d + 4) lw_sp_mono d2 (by omega) ?_⟩
      rw [hGG]
      refine f_5_24 hE ?_
      show ox_has _ 3 = true ∧ _
      rw [dig_sub hf hg hcd]
      refine ⟨by rw [hC'.1]; rfl, by rw [hC'.2.1.1]; exact hC'.2.1.2.1, by rw [hC'.2.1.1, hC'.2.1.2.2]; exact vp_in_nI (by omega) (by omega), ?_⟩
      rw [hC'.2.1.1, nI_clamp (by omega), nI_1]
      have es : (oFl (x + 1) (fun i => nI (wD F G i)) 0 i S).wI (x + 1) i (nI (if G i + cD F G i ≤ F i then F i - (G i + cD F G i) else F i + 32768 - (G i + cD F G i))) = oFl (x + 1) (fun i => nI (wD F G i)) 0 (i + 1) S := by
        have := oFl_snoc (t := x + 1) (g := fun i => nI (wD F G i)) i 0 S
        rw [Nat.zero_add] at this
        rw [← this]
        rfl
      rw [es]
      have ih' := ih (i + 1) (by omega)
      refine ⟨fun q => ?_, fun q => ?_⟩
      · have hle := (dig_neg hf hg hcd).mp q
        rw [show cD F G (i + 1) = 0 from if_pos hle] at ih'
        exact ih'
      · have hle : ¬ G i + cD F G i ≤ F i := fun z => q ((dig_neg hf hg hcd).mpr z)
        rw [show cD F G (i + 1) = 1 from if_neg hle] at ih'
        exact ih'
  exact f_5 (d := d + 5) lw_sp_mono (loop 16 0 rfl)
end OLS
/-- the first place from above where they differ decides -/
theorem dv_top {f g : Nat → Nat} {i : Nat} : ∀ n, i < n → (∀ j, i < j → j < n → f j = g j) → f i < g i → (∀ j, j < n → f j < 32768) → dv f n < dv g n
  | 0, hi, _, _, _ => absurd hi (Nat.not_lt_zero _)
  | n + 1, hi, he, hlt, hf => by
    by_cases h : i = n
    · subst h
      have h1 := dv_lt (f := f) i (fun j hj => hf j (by omega))
      have h2 : (f i + 1) * 32768 ^ i ≤ g i * 32768 ^ i := Nat.mul_le_mul_right _ hlt
      rw [Nat.add_mul, Nat.one_mul] at h2
      show dv f i + f i * 32768 ^ i < dv g i + g i * 32768 ^ i
      omega
    · have ih := dv_top (f := f) (g := g) (i := i) n (by omega) (fun j h1 h2 => he j h1 (by omega)) hlt (fun j hj => hf j (by omega))
      show dv f n + f n * 32768 ^ n < dv g n + g n * 32768 ^ n
      rw [he n (by omega) (by omega)]
      omega
def cmpN (a b : Nat) : Int32 := if a < b then -1 else if a = b then 0 else 1
section OOS
variable {sp : ox_E} {d mr sr : Nat} {S : ox_St} {Q : ox_Q} {t1 t2 n1 n2 : Nat} {f g : Nat → Nat}
theorem s_212 (hsp : ox_mono sp) {a b : Nat} (ha : a < 2 ^ 31) (hb : b < 2 ^ 31) (hQ : Q (some (.inl (cmpN a b))) S) : ox_M sp (d + 1) 212 [.inl (nI a), .inl (nI b)] mr sr S Q := by
  unfold cmpN at hQ
  refine f_212 hsp ⟨fun q => ⟨fun z => ⟨trivial, ?_⟩, fun z => ⟨trivial, ?_⟩⟩, fun q => ⟨trivial, ?_⟩⟩
  · have h1 := (nI_leI hb ha).mp q
    have h2 : ¬ a = b := fun e => z (by rw [e])
    rw [if_neg (by omega), if_neg h2] at hQ
    exact hQ
  · have h2 := (nI_eq ha hb).mp z
    rw [if_neg (by omega), if_pos h2] at hQ
    exact hQ
  · have h1 : a < b := Nat.not_le.mp fun h => q ((nI_leI hb ha).mpr h)
    rw [if_pos h1] at hQ
    exact hQ
theorem s_2_13 (hsp : ox_mono sp) {n : Nat} (h1 : oDs S t1 f n) (h2 : oDs S t2 g n) (hQ : Q (some (.inl (cmpN (dv f n) (dv g n)))) S) : ∀ i, i ≤ n → (∀ j, i ≤ j → j < n → f j = g j) → c_2_13 (ox_M sp (d + 1)) t1 t2 0 (nI i - 1) S mr sr Q
  | 0, _, he => by
    have e : dv f n = dv g n := dv_congr n (fun i hi => he i (by omega) hi)
    rw [show cmpN (dv f n) (dv g n) = 0 from by unfold cmpN; rw [if_neg (by omega), if_pos e]] at hQ
    exact f_2_13 (ox_M_mono hsp _) ⟨fun z => absurd rfl z, fun _ => ⟨fun _ => ⟨trivial, hQ⟩, fun z => absurd (by decide) z⟩⟩
  | i + 1, hi, he => by
    have hn := h1.2.2.1
    rw [nI_pred]
    refine f_2_13 (ox_M_mono hsp _) ⟨fun z => absurd rfl z, fun _ => ⟨fun z => absurd z (nI_pos (by omega)), fun _ => ⟨by rw [h2.1]; rfl, fun z => ?_, fun _ => ⟨by rw [h1.1]; rfl, by rw [h1.2.1]; exact vp_in_nI (by omega) (by omega), by rw [h2.1]; rfl, by rw [h2.2.1]; exact vp_in_nI (by omega) (by omega), by decide, by decide, 0, 0, Nat.zero_le _, Nat.zero_le _, ?_⟩⟩⟩⟩
    · rw [h2.2.1] at z
      exact absurd z (nI_ge (b := n) (by omega) (by omega))
    · rw [nI_clamp (by omega), (h1.2.2.2 i (by omega)).1, (h2.2.2.2 i (by omega)).1]
      have bf := (h1.2.2.2 i (by omega)).2
      have bg := (h2.2.2.2 i (by omega)).2
      refine s_212 hsp (by omega) (by omega) ?_
      refine f_2_36 (ox_M_mono hsp _) ?_
      unfold q_2_36
      rw [show nI i + (-1) = nI i - 1 from by rw [Int32.sub_eq_add_neg]]
      by_cases hfg : f i = g i
      · rw [show cmpN (f i) (g i) = 0 from by unfold cmpN; rw [if_neg (by omega), if_pos hfg]]
        refine s_2_13 hsp h1 h2 hQ i (by omega) (fun j hj1 hj2 => ?_)
        by_cases hj : j = i
        · rw [hj]; exact hfg
        · exact he j (by omega) hj2
      · by_cases hlt : f i < g i
        · have hv := dv_top (f := f) (g := g) (i := i) n (by omega) (fun j hj1 hj2 => he j (by omega) hj2) hlt (fun j hj => (h1.2.2.2 j hj).2)
          rw [show cmpN (dv f n) (dv g n) = -1 from if_pos hv] at hQ
          rw [show cmpN (f i) (g i) = -1 from if_pos hlt]
          exact f_2_13 (ox_M_mono hsp _) ⟨fun _ => ⟨trivial, hQ⟩, fun z => absurd z (by decide)⟩
        · have hv := dv_top (f := g) (g := f) (i := i) n (by omega) (fun j hj1 hj2 => (he j (by omega) hj2).symm) (by omega) (fun j hj => (h2.2.2.2 j hj).2)
          rw [show cmpN (dv f n) (dv g n) = 1 from by unfold cmpN; rw [if_neg (by omega), if_neg (by omega)]] at hQ
          rw [show cmpN (f i) (g i) = 1 from by unfold cmpN; rw [if_neg hlt, if_neg hfg]]
          exact f_2_13 (ox_M_mono hsp _) ⟨fun _ => ⟨trivial, hQ⟩, fun z => absurd z (by decide)⟩
/-- orderOfSizes -/
theorem s_2 (hsp : ox_mono sp) (h1 : oDs S t1 f n1) (h2 : oDs S t2 g n2) (c1 : dc f n1) (c2 : dc g n2) (hQ : Q (some (.inl (cmpN (dv f n1) (dv g n2)))) S) : ox_M sp (d + 2) 2 [.inr (.inr t1), .inr (.inr t2)] mr sr S Q := by
  have hn1 := h1.2.2.1
  have hn2 := h2.2.2.1
  refine f_2 hsp ⟨by rw [h1.1]; rfl, by rw [h2.1]; rfl, by decide, by decide, 0, 0, Nat.zero_le _, Nat.zero_le _, ?_⟩
  rw [h1.2.1, h2.2.1]
  refine s_212 (a := n1) (b := n2) hsp (by omega) (by omega) ?_
  refine f_2_7 (ox_M_mono hsp _) ⟨by rw [h1.1]; rfl, ?_⟩
  rw [h1.2.1]
  show c_2_13 _ _ _ _ (nI n1 - 1) _ _ _ _
  by_cases hn : n1 = n2
  · subst hn
    rw [show cmpN n1 n1 = 0 from by unfold cmpN; rw [if_neg (by omega), if_pos rfl]]
    exact s_2_13 hsp h1 h2 hQ n1 (Nat.le_refl _) (fun j hj1 hj2 => by omega)
  · by_cases hlt : n1 < n2
    · have hv : dv f n1 < dv g n2 := Nat.not_le.mp fun z => absurd (dc_size c2 c1 z) (by omega)
      rw [show cmpN (dv f n1) (dv g n2) = -1 from if_pos hv] at hQ
      rw [show cmpN n1 n2 = -1 from if_pos hlt]
      exact f_2_13 (ox_M_mono hsp _) ⟨fun _ => ⟨trivial, hQ⟩, fun z => absurd z (by decide)⟩
    · have hv : dv g n2 < dv f n1 := Nat.not_le.mp fun z => absurd (dc_size c1 c2 z) (by omega)
      rw [show cmpN (dv f n1) (dv g n2) = 1 from by unfold cmpN; rw [if_neg (by omega), if_neg (by omega)]] at hQ
      rw [show cmpN n1 n2 = 1 from by unfold cmpN; rw [if_neg hlt, if_neg hn]]
      exact f_2_13 (ox_M_mono hsp _) ⟨fun _ => ⟨trivial, hQ⟩, fun z => absurd z (by decide)⟩
end OOS
