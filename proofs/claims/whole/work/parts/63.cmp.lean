/-! the reference's calculations: compare, put -/
section OCM
variable {sp : ox_E} {d mr sr : Nat} {S : ox_St} {Q : ox_Q}
theorem s_141_21 {E : ox_E} (hE : ox_mono E) {t1 t2 n N1 N2 : Nat} {f g : Nat → Nat} {x1 x3 : Int32} (k1 : S.K t1 = 15) (k2 : S.K t2 = 15) (l1 : S.len t1 = N1) (l2 : S.len t2 = N2) (hN1 : n ≤ N1 ∧ N1 < 2 ^ 31) (hN2 : n ≤ N2 ∧ N2 < 2 ^ 31) (hf : ∀ i, i < n → S.rI t1 i = nI (f i) ∧ f i < 32768) (hg : ∀ i, i < n → S.rI t2 i = nI (g i) ∧ g i < 32768) (hQ : Q (some (.inl (cmpN (dv f n) (dv g n)))) S) : ∀ i, i ≤ n → (∀ j, i ≤ j → j < n → f j = g j) → c_141_21 E t1 x1 t2 x3 (nI i - 1) S mr sr Q
  | 0, _, he => by
    have e : dv f n = dv g n := dv_congr n (fun i hi => he i (by omega) hi)
    rw [show cmpN (dv f n) (dv g n) = 0 from by unfold cmpN; rw [if_neg (by omega), if_pos e]] at hQ
    exact f_141_21 hE ⟨fun _ => ⟨fun z => absurd z (by decide), fun _ => ⟨trivial, hQ⟩⟩, fun z => absurd (by decide) z⟩
  | i + 1, hi, he => by
    rw [nI_pred]
    have c : Int32.toNatClampNeg (nI i) = i := nI_clamp (by omega)
    obtain ⟨r1, bf⟩ := hf i (by omega)
    obtain ⟨r2, bg⟩ := hg i (by omega)
    have v1 : vp_in (nI i) N1 := vp_in_nI (by omega) hN1.2
    have v2 : vp_in (nI i) N2 := vp_in_nI (by omega) hN2.2
    refine f_141_21 hE ?_
    unfold q_141_21
    rw [k1, k2, l1, l2, c, r1, r2]
    refine ⟨fun z => absurd z (nI_pos (by omega)), fun _ => ⟨rfl, v1, rfl, v2, fun z => ⟨fun _ => ⟨rfl, v1, rfl, v2, fun y => ⟨trivial, ?_⟩, fun y => ⟨trivial, ?_⟩⟩, fun y => absurd (nI_pos' (by omega)) y⟩, fun z => ?_⟩⟩
    · have hle : g i ≤ f i := (nI_leI (by omega) (by omega)).mp y
      have hne : f i ≠ g i := fun e => z (by rw [e])
      have hv := dv_top (f := g) (g := f) (i := i) n (by omega) (fun j hj1 hj2 => (he j (by omega) hj2).symm) (by omega) (fun j hj => (hg j hj).2)
      rw [show cmpN (dv f n) (dv g n) = 1 from by unfold cmpN; rw [if_neg (by omega), if_neg (by omega)]] at hQ
      exact hQ
    · have hlt : f i < g i := Nat.not_le.mp fun h => y ((nI_leI (by omega) (by omega)).mpr h)
      have hv := dv_top (f := f) (g := g) (i := i) n (by omega) (fun j hj1 hj2 => he j (by omega) hj2) hlt (fun j hj => (hf j hj).2)
      rw [show cmpN (dv f n) (dv g n) = -1 from if_pos hv] at hQ
      exact hQ
    · rw [show nI i + (-1) = nI i - 1 from by rw [Int32.sub_eq_add_neg]]
      refine s_141_21 hE k1 k2 l1 l2 hN1 hN2 hf hg hQ i (by omega) (fun j hj1 hj2 => ?_)
      by_cases hj : j = i
      · rw [hj]
        exact (nI_eq (by omega) (by omega)).mp z
      · exact he j (by omega) hj2
/-- compare of two sizes -/
theorem s_141 (hsp : ox_mono sp) {t1 t2 n k N1 N2 : Nat} {f g : Nat → Nat} (k1 : S.K t1 = 15) (k2 : S.K t2 = 15) (l1 : S.len t1 = N1) (l2 : S.len t2 = N2) (hN1 : n ≤ N1 ∧ N1 < 2 ^ 31) (hN2 : k ≤ N2 ∧ N2 < 2 ^ 31) (hf : ∀ i, i < n → S.rI t1 i = nI (f i)) (hg : ∀ i, i < k → S.rI t2 i = nI (g i)) (cf : dc f n) (cg : dc g k) (hQ : Q (some (.inl (cmpN (dv f n) (dv g k)))) S) : ox_M sp (d + 1) 141 [.inr (.inr t1), .inl (nI n), .inr (.inr t2), .inl (nI k)] mr sr S Q := by
  refine f_141 hsp ⟨fun z => ?_, fun z => ⟨fun y => ⟨trivial, ?_⟩, fun y => ⟨trivial, ?_⟩⟩⟩
  · obtain rfl : n = k := (nI_eq (by omega) (by omega)).mp z
    exact s_141_21 (ox_M_mono hsp _) k1 k2 l1 l2 hN1 hN2 (fun i hi => ⟨hf i hi, cf.1 i hi⟩) (fun i hi => ⟨hg i hi, cg.1 i hi⟩) hQ n (Nat.le_refl _) (fun j h1 h2 => by omega)
  · have hle : k ≤ n := (nI_leI (by omega) (by omega)).mp y
    have hne : n ≠ k := fun e => z (by rw [e])
    have hv : dv g k < dv f n := Nat.not_le.mp fun h => absurd (dc_size cf cg h) (by omega)
    rw [show cmpN (dv f n) (dv g k) = 1 from by unfold cmpN; rw [if_neg (by omega), if_neg (by omega)]] at hQ
    exact hQ
  · have hlt : n < k := Nat.not_le.mp fun h => y ((nI_leI (by omega) (by omega)).mpr h)
    have hv : dv f n < dv g k := Nat.not_le.mp fun h => absurd (dc_size cg cf h) (by omega)
    rw [show cmpN (dv f n) (dv g k) = -1 from if_pos hv] at hQ
    exact hQ
/-- put: three cells at the top -/
def mPut (S : ox_St) (m c T : Nat) (u v w : Int32) : ox_St := (((S.wI c T u).wI c (T + 1) v).wI c (T + 2) w).sI 75 m (nI (T + 3))
theorem s_132 (hsp : ox_mono sp) {m ce T : Nat} (h : oML S m ce) (hT : S.I 75 m = nI T) (hT2 : T + 3 ≤ 1100000) {u v w : Int32} (hQ : Q (some (.inl (nI T))) (mPut S m (m + ce) T u v w)) : ox_M sp (d + 1) 132 [.inr (.inr m), .inl u, .inl v, .inl w] mr sr S Q := by
  obtain ⟨c1, c2, c3⟩ := h.cells
  have e1 : nI T + 1 = nI (T + 1) := nI_1 T
  have e2 : nI T + 2 = nI (T + 2) := nI_add T 2
  have e3 : nI T + 3 = nI (T + 3) := nI_add T 3
  refine f_132 hsp ?_
  unfold q_132
  simp only [or_wI_K, or_wI_R, or_wI_len, or_wI_I]
  rw [h.1, c1, c2, c3, hT, e1, e2, e3, nI_clamp (by omega), nI_clamp (by omega), nI_clamp (by omega)]
  exact ⟨rfl, rfl, rfl, vp_in_nI (by omega) (by decide), rfl, rfl, rfl, vp_in_nI (by omega) (by decide), rfl, rfl, rfl, vp_in_nI (by omega) (by decide), rfl, rfl, rfl, trivial, hQ⟩
end OCM
