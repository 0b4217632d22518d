/-! Calculator.sum, order -/
theorem nv_made {w : Nat → Nat} {c : Nat} {p : Int32} (hp : p = 0 ∨ p = 1) : nv w c (if p = 0 ∨ c = 0 then 0 else 1) = if p = 0 then (dv w c : Int) else -(dv w c : Int) := by
  unfold nv
  by_cases h0 : p = 0
  · rw [if_pos (Or.inl h0), if_pos rfl, if_pos h0]
  · rw [if_neg h0]
    by_cases hc : c = 0
    · rw [if_pos (Or.inr hc), if_pos rfl, hc]
      rfl
    · have e : (if p = 0 ∨ c = 0 then (0 : Int32) else 1) = 1 := if_neg (fun z => z.elim h0 hc)
      rw [e]
      exact if_neg (by decide)
theorem oNm.fl {S : ox_St} {x a t n k : Nat} {f : Nat → Nat} {g : Nat → Int32} {neg : Int32} (h : oNm S a t f n neg) (ha : a ≠ x) (ht : t ≠ x) : oNm (oFl x g 0 k S) a t f n neg := by
  obtain ⟨h1, h2, h3, h4, h5, h6⟩ := h
  obtain ⟨g1, g2, g3, g4, -⟩ := oFl_ag (P := fun q => q = a) (t := x) (g := g) (fun e => ha e.symm) k 0 S a rfl
  exact ⟨g1.trans h1, (g4 _).trans h2, oFl_Ds ht h3, h4, (g3 _).trans h5, h6⟩
theorem oMade_6 {T : ox_St} {t k : Nat} {neg : Int32} : (oMade T t k neg).I 6 T.n = 3 := by
  show (((oV0 (oCpy (T.newO 8) t k) T.n 3 0).sI 51 T.n (if neg = 0 ∨ k = 0 then 0 else 1)).sR 52 T.n (T.n + 1)).I 6 T.n = _
  rw [or_sR_I, or_sI_I, if_neg (fun z => by cases z.1)]
  show (((oCpy (T.newO 8) t k).sI 6 T.n 3).sI 7 T.n 0).I 6 T.n = 3
  rw [or_sI_I, if_neg (fun z => by cases z.1), or_sI_I, if_pos ⟨rfl, rfl⟩]
section OS3
variable {d mr sr : Nat} {S : ox_St} {Q : ox_Q} {x a ta n b tb k : Nat} {f g : Nat → Nat} {p q : Int32}
/-- a Num made of added sizes -/
theorem s_4v (hC : oCal S x) (h1 : oDs S ta f n) (h2 : oDs S tb g k) (hxn : x + 1 < S.n) (hp : p = 0 ∨ p = 1) (hm : 2 ≤ mr) (hs : 20 ≤ sr)
    (hQ1 : ∀ S' w c r, S'.n = S.n + 2 → oAg (oKp S.n (x + 1)) S S' → oNm S' S.n (S.n + 1) w c r ∧ S'.I 6 S.n = 3 → nv w c r = (if p = 0 then ((dv f n + dv g k : Nat) : Int) else -((dv f n + dv g k : Nat) : Int)) → Q (some (.inr (.inr S.n))) S') (hQ2 : ∀ S', S'.n = S.n → oAg (oKp S.n (x + 1)) S S' → 32768 ^ 16 ≤ dv f n + dv g k → Q (some (.inr (.inr 0))) S') : ox_M lw_sp (d + 5) 14 [.inr (.inr (x + 1)), .inl 17, .inl p] mr sr (oFl (x + 1) (fun i => nI (oWs (dg f n) (dg g k) i)) 0 17 S) Q := by
  have hF : ∀ i, dg f n i < 32768 := fun i => dg_lt (fun j hj => (h1.2.2.2 j hj).2)
  have hG : ∀ i, dg g k i < 32768 := fun i => dg_lt (fun j hj => (h2.2.2.2 j hj).2)
  have hdv : dv (oWs (dg f n) (dg g k)) 17 = dv f n + dv g k := by rw [oWs_dv, dv_dg h1.2.2.1, dv_dg h2.2.2.1]
  have hlt : ∀ i, i < 17 → oWs (dg f n) (dg g k) i < 32768 := by
    intro i hi
    unfold oWs
    by_cases h : i = 16
    · rw [if_pos h]
      have := cS_le hF hG 16
      omega
    · rw [if_neg h]
      exact Nat.mod_lt _ (by decide)
  have en : (oFl (x + 1) (fun i => nI (oWs (dg f n) (dg g k) i)) 0 17 S).n = S.n := oFl_n 17 0 S
  have hA : oAg (oKp S.n (x + 1)) S (oFl (x + 1) (fun i => nI (oWs (dg f n) (dg g k) i)) 0 17 S) := oFl_ag (fun z => z.2 rfl) 17 0 S
  have hC7 := hC.fl (k := 17) (g := fun i => nI (oWs (dg f n) (dg g k) i))
  refine s_14 (d := d) (Ln := 34) (n := 17) (w := oWs (dg f n) (dg g k)) hC7.2.1.2.1 hC7.2.1.2.2 (by decide) (by decide) (by rw [en]; omega) (by rw [en]; omega) hp hm hs (by decide) (fun i hi => ⟨oFl_at hi, by have := hlt i hi; omega⟩) (fun z => ?_) (fun z => hQ2 _ en hA ?_)
  · rw [en]
    obtain ⟨m1, m2, m3⟩ := oMade_nm (T := oFl (x + 1) (fun i => nI (oWs (dg f n) (dg g k) i)) 0 17 S) (t := x + 1) (n := 17) (w := oWs (dg f n) (dg g k)) (neg := p) (fun i hi => ⟨oFl_at hi, hlt i hi⟩) (by rw [en]; exact hxn) rfl z hp
    rw [en] at m1 m3
    refine hQ1 _ _ _ _ m3 (hA.trans (oMade_ag.sub (fun y hy => by rw [en]; exact hy.1))) ⟨m1, by rw [← en]; exact oMade_6⟩ ?_
    rw [nv_made hp, m2, hdv]
  · have e : dct (oWs (dg f n) (dg g k)) 17 = 17 := by
      have := dct_le (oWs (dg f n) (dg g k)) 17
      omega
    have hne := (dct_spec (oWs (dg f n) (dg g k)) 17).2 (by omega)
    rw [e] at hne
    rw [← hdv]
    show 32768 ^ 16 ≤ dv (oWs (dg f n) (dg g k)) 16 + oWs (dg f n) (dg g k) 16 * 32768 ^ 16
    exact Nat.le_trans (Nat.le_trans (Nat.le_of_eq (Nat.one_mul _).symm) (Nat.mul_le_mul_right _ (Nat.one_le_iff_ne_zero.mpr hne))) (Nat.le_add_left _ _)
theorem s_5v (hC : oCal S x) (h1 : oDs S ta f n) (h2 : oDs S tb g k) (hxn : x + 1 < S.n) (hp : p = 0 ∨ p = 1) (hm : 2 ≤ mr) (hs : 20 ≤ sr) (hle : dv g k ≤ dv f n)
    (hQ1 : ∀ S' w c r, S'.n = S.n + 2 → oAg (oKp S.n (x + 1)) S S' → oNm S' S.n (S.n + 1) w c r ∧ S'.I 6 S.n = 3 → nv w c r = (if p = 0 then ((dv f n - dv g k : Nat) : Int) else -((dv f n - dv g k : Nat) : Int)) → Q (some (.inr (.inr S.n))) S') : ox_M lw_sp (d + 5) 14 [.inr (.inr (x + 1)), .inl 16, .inl p] mr sr (oFl (x + 1) (fun i => nI (wD (dg f n) (dg g k) i)) 0 16 S) Q := by
  have hF : ∀ i, dg f n i < 32768 := fun i => dg_lt (fun j hj => (h1.2.2.2 j hj).2)
  have hG : ∀ i, dg g k i < 32768 := fun i => dg_lt (fun j hj => (h2.2.2.2 j hj).2)
  have hdv : dv (wD (dg f n) (dg g k)) 16 = dv f n - dv g k := by rw [wD_dv hF hG (by rw [dv_dg h1.2.2.1, dv_dg h2.2.2.1]; exact hle), dv_dg h1.2.2.1, dv_dg h2.2.2.1]
  have hlt : ∀ i, i < 16 → wD (dg f n) (dg g k) i < 32768 := by
    intro i _
    have q1 := hF i
    have q2 := hG i
    have q3 := cD_le (f := dg f n) (g := dg g k) i
    unfold wD
    by_cases hc : dg g k i + cD (dg f n) (dg g k) i ≤ dg f n i
    · rw [if_pos hc]; omega
    · rw [if_neg hc]; omega
  have en : (oFl (x + 1) (fun i => nI (wD (dg f n) (dg g k) i)) 0 16 S).n = S.n := oFl_n 16 0 S
  have hA : oAg (oKp S.n (x + 1)) S (oFl (x + 1) (fun i => nI (wD (dg f n) (dg g k) i)) 0 16 S) := oFl_ag (fun z => z.2 rfl) 16 0 S
  have hC7 := hC.fl (k := 16) (g := fun i => nI (wD (dg f n) (dg g k) i))
  refine s_14 (d := d) (Ln := 34) (n := 16) (w := wD (dg f n) (dg g k)) hC7.2.1.2.1 hC7.2.1.2.2 (by decide) (by decide) (by rw [en]; omega) (by rw [en]; omega) hp hm hs (by decide) (fun i hi => ⟨oFl_at hi, by have := hlt i hi; omega⟩) (fun z => ?_) (fun z => absurd (dct_le (wD (dg f n) (dg g k)) 16) (by omega))
  rw [en]
  obtain ⟨m1, m2, m3⟩ := oMade_nm (T := oFl (x + 1) (fun i => nI (wD (dg f n) (dg g k) i)) 0 16 S) (t := x + 1) (n := 16) (w := wD (dg f n) (dg g k)) (neg := p) (fun i hi => ⟨oFl_at hi, hlt i hi⟩) (by rw [en]; exact hxn) rfl (dct_le _ 16) hp
  rw [en] at m1 m3
  refine hQ1 _ _ _ _ m3 (hA.trans (oMade_ag.sub (fun y hy => by rw [en]; exact hy.1))) ⟨m1, by rw [← en]; exact oMade_6⟩ ?_
  rw [nv_made hp, m2, hdv]
theorem cmpN_neg {a b : Nat} : cmpN a b < 0 ↔ a < b := by
  unfold cmpN
  by_cases h : a < b
  · rw [if_pos h]; exact ⟨fun _ => h, fun _ => by decide⟩
  · rw [if_neg h]
    by_cases h2 : a = b
    · rw [if_pos h2]; exact ⟨fun z => absurd z (by decide), fun z => absurd z h⟩
    · rw [if_neg h2]; exact ⟨fun z => absurd z (by decide), fun z => absurd z h⟩
/-- sum: with mn the right one's sign is turned -/
theorem s_3 (hC : oCal S x) (ha : oNm S a ta f n p) (hb : oNm S b tb g k q) (k1 : ta ≠ x + 1) (k2 : tb ≠ x + 1) (hxn : x + 1 < S.n) (hm : 2 ≤ mr) (hs : 20 ≤ sr) {mn : Int32} (hmn : mn = 0 ∨ mn = 1)
    (hQ1 : ∀ S' w c r, S'.n = S.n + 2 → oAg (oKp S.n (x + 1)) S S' → oNm S' S.n (S.n + 1) w c r ∧ S'.I 6 S.n = 3 → nv w c r = nv f n p + (if q = mn then (dv g k : Int) else -(dv g k : Int)) → Q (some (.inr (.inr S.n))) S') (hQ2 : ∀ S', S'.n = S.n → oAg (oKp S.n (x + 1)) S S' → 32768 ^ 16 ≤ (nv f n p + (if q = mn then (dv g k : Int) else -(dv g k : Int))).natAbs → Q (some (.inr (.inr 0))) S') : ox_M lw_sp (d + 7) 3 [.inr (.inr x), .inr (.inr a), .inr (.inr b), .inl mn] mr sr S Q := by
  have hE : ox_mono (ox_M lw_sp (d + 6)) := ox_M_mono lw_sp_mono _
  obtain ⟨a1, a2, a3, a4, a5, a6, a7⟩ := ha
  obtain ⟨b1, b2, b3, b4, b5, b6, b7⟩ := hb
  have hax : a ≠ x + 1 := fun e => by
    have h15 := hC.2.1.2.1
    rw [← e, a1] at h15
    cases h15
  have less : ∀ x4 : Int32, (x4 = 0 ∨ x4 = 1) → ¬ p = x4 → (x4 = if q = mn then 0 else 1) → 2 ≤ 2 ∧ 0 ≤ 8 ∧ ∃ mc mk, mc ≤ mr ∧ mk ≤ sr ∧ ox_M lw_sp (d + 6) 2 [.inr (.inr ta), .inr (.inr tb)] mc mk S (k_3_61 (ox_M lw_sp (d + 6)) x a b mn x4 (mr - mc) (sr - mk) Q) := by
    intro x4 hx4 hne hx
    refine ⟨by decide, by decide, 0, 0, Nat.zero_le _, Nat.zero_le _, s_2 (d := d + 4) lw_sp_mono a3 b3 a4 b4 ?_⟩
    refine f_3_61 hE ⟨fun z => ?_, fun z => ?_⟩
    · have hlt := cmpN_neg.mp z
      refine ⟨by rw [b1]; rfl, by rw [a1]; rfl, by decide, hC.1, by decide, 0, 0, Nat.zero_le _, Nat.zero_le _, ?_⟩
      rw [a2, b2]
      refine s_5 (d := d) hC b3 a3 k2 k1 ?_
      have hC7 := hC.fl (k := 16) (g := fun i => nI (wD (dg g k) (dg f n) i))
      refine f_3_102 hE ⟨by rw [hC7.1]; rfl, by decide, by decide, 2, 20, by omega, by omega, ?_⟩
      rw [hC7.2.1.1]
      refine s_5v (d := d + 1) hC b3 a3 hxn hx4 (by decide) (by decide) (Nat.le_of_lt hlt) (fun S' w c r e1 e2 e3 e4 => f_3_113 hE ⟨rfl, hQ1 S' w c r e1 e2 e3 ?_⟩)
      rw [e4]
      unfold nv
      by_cases hq : q = mn
      · rw [if_pos hq] at hx
        rw [if_pos hx, if_pos hq, if_neg (fun z => hne (z.trans hx.symm))]
        omega
      · rw [if_neg hq] at hx
        have hp0 : p = 0 := a6.resolve_right (fun z => hne (z.trans hx.symm))
        rw [if_neg (by rw [hx]; decide), if_neg hq, if_pos hp0]
        omega
    · have hge : dv g k ≤ dv f n := Nat.not_lt.mp fun h => z (cmpN_neg.mpr h)
      refine ⟨by rw [a1]; rfl, by rw [b1]; rfl, by decide, hC.1, by decide, 0, 0, Nat.zero_le _, Nat.zero_le _, ?_⟩
      rw [a2, b2]
      refine s_5 (d := d) hC a3 b3 k1 k2 ?_
      have hC7 := hC.fl (k := 16) (g := fun i => nI (wD (dg f n) (dg g k) i))
      obtain ⟨j1, -, j3, -⟩ := oFl_ag (P := fun u => u = a) (t := x + 1) (g := fun i => nI (wD (dg f n) (dg g k) i)) (fun e => hax e.symm) 16 0 S a rfl
      refine f_3_76 hE ⟨by rw [hC7.1]; rfl, by rw [j1, a1]; rfl, by decide, by decide, 2, 20, by omega, by omega, ?_⟩
      rw [hC7.2.1.1, j3, a5]
      refine s_5v (d := d + 1) hC a3 b3 hxn a6 (by decide) (by decide) hge (fun S' w c r e1 e2 e3 e4 => f_3_89 hE ⟨rfl, hQ1 S' w c r e1 e2 e3 ?_⟩)
      rw [e4]
      unfold nv
      by_cases hq : q = mn
      · rw [if_pos hq] at hx
        have hp1 : ¬ p = 0 := fun z => hne (z.trans hx.symm)
        rw [if_neg hp1, if_pos hq, if_neg hp1]
        omega
      · rw [if_neg hq] at hx
        have hp0 : p = 0 := a6.resolve_right (fun z => hne (z.trans hx.symm))
        rw [if_pos hp0, if_neg hq, if_pos hp0]
        omega
  have more : ∀ x4 : Int32, p = x4 → (x4 = if q = mn then 0 else 1) → 3 ≤ 3 ∧ S.K x = 2 ∧ 0 ≤ 8 ∧ ∃ mc mk, mc ≤ mr ∧ mk ≤ sr ∧ ox_M lw_sp (d + 6) 4 [.inr (.inr x), .inr (.inr ta), .inr (.inr tb)] mc mk S (k_3_36 (ox_M lw_sp (d + 6)) x a b mn x4 (mr - mc) (sr - mk) Q) := by
    intro x4 he hx
    refine ⟨by decide, hC.1, by decide, 0, 0, Nat.zero_le _, Nat.zero_le _, s_4 (d := d) hC a3 b3 k1 k2 ?_⟩
    have hC7 := hC.fl (k := 17) (g := fun i => nI (oWs (dg f n) (dg g k) i))
    obtain ⟨j1, -, j3, -⟩ := oFl_ag (P := fun u => u = a) (t := x + 1) (g := fun i => nI (oWs (dg f n) (dg g k) i)) (fun e => hax e.symm) 17 0 S a rfl
    refine f_3_36 hE ⟨by rw [hC7.1]; rfl, by rw [j1, a1]; rfl, by decide, by decide, 2, 20, by omega, by omega, ?_⟩
    rw [hC7.2.1.1, j3, a5]
    refine s_4v (d := d + 1) hC a3 b3 hxn a6 (by decide) (by decide) (fun S' w c r e1 e2 e3 e4 => f_3_49 hE ⟨rfl, hQ1 S' w c r e1 e2 e3 ?_⟩) (fun S' e1 e2 e3 => f_3_49 hE ⟨rfl, hQ2 S' e1 e2 ?_⟩)
    · rw [e4]
      unfold nv
      by_cases hq : q = mn
      · rw [if_pos hq] at hx
        rw [if_pos (he.trans hx), if_pos (he.trans hx), if_pos hq]
        omega
      · rw [if_neg hq] at hx
        have hp1 : ¬ p = 0 := by rw [he, hx]; decide
        rw [if_neg hp1, if_neg hp1, if_neg hq]
        omega
    · unfold nv
      by_cases hq : q = mn
      · rw [if_pos hq] at hx
        rw [if_pos (he.trans hx), if_pos hq]
        omega
      · rw [if_neg hq] at hx
        have hp1 : ¬ p = 0 := by rw [he, hx]; decide
        rw [if_neg hp1, if_neg hq]
        omega
  refine f_3 (d := d + 6) lw_sp_mono ⟨by rw [b1]; rfl, fun z => ⟨by rw [a1]; rfl, fun y => ?_, fun y => ⟨by rw [a1]; rfl, by rw [b1]; rfl, ?_⟩⟩, fun z => ⟨by rw [a1]; rfl, fun y => ?_, fun y => ⟨by rw [a1]; rfl, by rw [b1]; rfl, ?_⟩⟩⟩
  · rw [b5] at z
    rw [a5] at y
    refine ⟨by rw [a1]; rfl, by rw [b1]; rfl, ?_⟩
    rw [a2, b2]
    exact less 0 (Or.inl rfl) y (by rw [if_pos z])
  · rw [b5] at z
    rw [a5] at y
    rw [a2, b2]
    exact more 0 y (by rw [if_pos z])
  · rw [b5] at z
    rw [a5] at y
    refine ⟨by rw [a1]; rfl, by rw [b1]; rfl, ?_⟩
    rw [a2, b2]
    exact less 1 (Or.inr rfl) y (by rw [if_neg z])
  · rw [b5] at z
    rw [a5] at y
    rw [a2, b2]
    exact more 1 y (by rw [if_neg z])
end OS3
