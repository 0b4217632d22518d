/-! the class's values: numbers out of longs, ranges, tuples, walkers -/
theorem l_add {x y : Int64} (h1 : -9223372036854775808 ≤ x.toInt + y.toInt) (h2 : x.toInt + y.toInt < 9223372036854775808) : (x + y).toInt = x.toInt + y.toInt := by
  rw [Int64.toInt_add]
  exact Int.bmod_eq_of_le (by omega) (by omega)
theorem l_sub {x y : Int64} (h1 : -9223372036854775808 ≤ x.toInt - y.toInt) (h2 : x.toInt - y.toInt < 9223372036854775808) : (x - y).toInt = x.toInt - y.toInt := by
  rw [Int64.toInt_sub]
  exact Int.bmod_eq_of_le (by omega) (by omega)
theorem l_mul {x y : Int64} (h1 : -9223372036854775808 ≤ x.toInt * y.toInt) (h2 : x.toInt * y.toInt < 9223372036854775808) : (x * y).toInt = x.toInt * y.toInt := by
  rw [Int64.toInt_mul]
  exact Int.bmod_eq_of_le (by omega) (by omega)
theorem l_neg {x : Int64} (h1 : -9223372036854775808 < x.toInt) : (-x).toInt = -x.toInt := by
  have := x.toInt_lt
  rw [Int64.toInt_neg]
  exact Int.bmod_eq_of_le (by omega) (by omega)
theorem l_of {x : Int64} {N : Nat} (hN : N < 2 ^ 63) (h : x.toInt = (N : Int)) : x = lN N := Int64.toInt_inj.mp (h.trans (pf_lI hN).symm)
theorem dl_hi : ∀ k N, N < 32768 ^ k → N < 32768 ^ dl k N
  | 0, N, h => h
  | k + 1, N, h => by
    unfold dl
    by_cases hN : N = 0
    · rw [if_pos hN, hN]; exact Nat.pow_pos (by decide)
    · rw [if_neg hN, Nat.pow_succ]
      have h2 : N / 32768 < 32768 ^ k := Nat.div_lt_of_lt_mul (by rw [Nat.mul_comm, ← Nat.pow_succ]; exact h)
      exact (Nat.div_lt_iff_lt_mul (by decide)).mp (dl_hi k _ h2)
theorem dl_lo : ∀ k N, 0 < dl k N → 32768 ^ (dl k N - 1) ≤ N
  | 0, N, h => absurd h (Nat.lt_irrefl 0)
  | k + 1, N, h => by
    unfold dl at h ⊢
    by_cases hN : N = 0
    · rw [if_pos hN] at h; exact absurd h (Nat.lt_irrefl 0)
    · rw [if_neg hN, Nat.add_sub_cancel]
      by_cases h0 : dl k (N / 32768) = 0
      · rw [h0, Nat.pow_zero]; omega
      · have := dl_lo k (N / 32768) (Nat.pos_of_ne_zero h0)
        obtain ⟨c, hc⟩ : ∃ c, dl k (N / 32768) = c + 1 := ⟨dl k (N / 32768) - 1, by omega⟩
        rw [hc] at this ⊢
        rw [Nat.add_sub_cancel] at this
        rw [Nat.pow_succ]
        exact (Nat.le_div_iff_mul_le (by decide)).mp this
theorem dl_dc {N : Nat} (h : N < 32768 ^ 16) : dc (fun i => N / 32768 ^ i % 32768) (dl 16 N) ∧ dv (fun i => N / 32768 ^ i % 32768) (dl 16 N) = N := by
  have h1 := dl_hi 16 N h
  refine ⟨⟨fun i _ => Nat.mod_lt _ (by decide), fun h0 => ?_⟩, by rw [dv_dig, Nat.mod_eq_of_lt h1]⟩
  have h2 := dl_lo 16 N h0
  generalize dl 16 N = c at h0 h1 h2
  obtain ⟨e, rfl⟩ : ∃ e, c = e + 1 := ⟨c - 1, by omega⟩
  rw [Nat.add_sub_cancel] at h2 ⊢
  show N / 32768 ^ e % 32768 ≠ 0
  have h3 : N / 32768 ^ e < 32768 := Nat.div_lt_of_lt_mul (by rw [← Nat.pow_succ]; exact h1)
  have h4 : 0 < N / 32768 ^ e := Nat.div_pos h2 (Nat.pow_pos (by decide))
  rw [Nat.mod_eq_of_lt h3]
  omega
theorem oNumOf_nm {S : ox_St} {N : Nat} {neg : Int32} (hN : N < 32768 ^ 16) (hneg : neg = 0 ∨ neg = 1) (h0 : N = 0 → neg = 0) : (oNumOf S neg N).n = S.n + 2 ∧ oAg (fun a => a < S.n) S (oNumOf S neg N) ∧ oNm (oNumOf S neg N) (S.n + 1) S.n (fun i => N / 32768 ^ i % 32768) (dl 16 N) neg ∧ (oNumOf S neg N).I 6 (S.n + 1) = 3 := by
  have en : (oFl S.n (oDg N) 0 (dl 16 N) (S.newA 15 (dl 16 N))).n = S.n + 1 := oFl_n (dl 16 N) 0 (S.newA 15 (dl 16 N))
  have eK : (oFl S.n (oDg N) 0 (dl 16 N) (S.newA 15 (dl 16 N))).K = (S.newA 15 (dl 16 N)).K := oFl_K (dl 16 N) 0 (S.newA 15 (dl 16 N))
  have eL : (oFl S.n (oDg N) 0 (dl 16 N) (S.newA 15 (dl 16 N))).len = (S.newA 15 (dl 16 N)).len := oFl_len (dl 16 N) 0 (S.newA 15 (dl 16 N))
  have eR : ∀ i, i < dl 16 N → (oFl S.n (oDg N) 0 (dl 16 N) (S.newA 15 (dl 16 N))).rI S.n i = nI (N / 32768 ^ i % 32768) := fun i hi => oFl_at hi
  have eA : oAg (fun a => a < S.n) S (oFl S.n (oDg N) 0 (dl 16 N) (S.newA 15 (dl 16 N))) := (oAg_newA (P := fun a => a < S.n) (Nat.lt_irrefl _)).trans (oFl_ag (P := fun a => a < S.n) (Nat.lt_irrefl _) (dl 16 N) 0 _)
  have hle := dl_le 16 N
  obtain ⟨d1, d2⟩ := dl_dc hN
  unfold oNumOf
  generalize oFl S.n (oDg N) 0 (dl 16 N) (S.newA 15 (dl 16 N)) = T at en eK eL eR eA
  have hP : ¬ (S.n + 1 < S.n) := by omega
  refine ⟨?_, ?_, ⟨?_, ?_, ⟨?_, ?_, hle, fun i hi => ⟨?_, Nat.mod_lt _ (by decide)⟩⟩, d1, ?_, hneg, fun z => h0 ?_⟩, ?_⟩
  · show T.n + 1 = S.n + 2
    rw [en]
  · have s1 : ∀ (T' : ox_St) (F : Nat) (v : Int32), oAg (fun a => a < S.n) T' (T'.sI F (S.n + 1) v) := fun T' F v => oAg_sI (P := fun a => a < S.n) hP
    refine eA.trans (((((oAg_newO (P := fun a => a < S.n) (by rw [en]; exact hP)).trans (s1 _ 6 _)).trans (s1 _ 7 _)).trans (s1 _ 51 _)).trans (oAg_sR (P := fun a => a < S.n) hP))
  · show (if S.n + 1 = T.n then 8 else T.K (S.n + 1)) = 8
    rw [en, if_pos rfl]
  · exact if_pos ⟨rfl, rfl⟩
  · show (if S.n = T.n then 8 else T.K S.n) = 15
    rw [en, if_neg (by omega), eK]
    exact if_pos rfl
  · show T.len S.n = _
    rw [eL]
    exact if_pos rfl
  · exact eR i hi
  · show (((oV0 (T.newO 8) (S.n + 1) 3 0).sI 51 (S.n + 1) neg).sR 52 (S.n + 1) S.n).I 51 (S.n + 1) = _
    rw [or_sR_I, or_sI_I, if_pos ⟨rfl, rfl⟩]
  · rw [z] at d2; exact d2.symm
  · show (((oV0 (T.newO 8) (S.n + 1) 3 0).sI 51 (S.n + 1) neg).sR 52 (S.n + 1) S.n).I 6 (S.n + 1) = _
    rw [or_sR_I, or_sI_I, if_neg (fun z => by cases z.1)]
    show (((T.newO 8).sI 6 (S.n + 1) 3).sI 7 (S.n + 1) 0).I 6 (S.n + 1) = 3
    rw [or_sI_I, if_neg (fun z => by cases z.1), or_sI_I, if_pos ⟨rfl, rfl⟩]
/-- how many a range holds -/
def rgN (u v w : Int) : Nat := if 0 < w then (if u < v then ((v - u - 1) / w + 1).toNat else 0) else (if v < u then ((u - v - 1) / (-w) + 1).toNat else 0)
theorem rg_half {way stride : Int64} {W T : Int} (h1 : way.toInt = W) (h2 : stride.toInt = T) (hW : 0 < W) (hW2 : W < 8589934592) (hT : 0 < T) : (way - 1) / stride + 1 = lN ((W - 1) / T + 1).toNat := by
  have o1 : (1 : Int64).toInt = 1 := rfl
  have e1 : (way - 1).toInt = W - 1 := by rw [l_sub (by omega) (by omega), h1, o1]
  have e2 : ((way - 1) / stride).toInt = (W - 1) / T := by rw [lg_ldiv_nonneg (by omega) (by omega), e1, h2]
  have b1 : 0 ≤ (W - 1) / T := Int.ediv_nonneg (by omega) (by omega)
  have b2 : (W - 1) / T ≤ W - 1 := Int.ediv_le_self _ (by omega)
  refine l_of (by omega) ?_
  rw [l_add (by omega) (by omega), e2, o1]
  omega
theorem rg_item {u v w : Int} {k : Nat} (h : k < rgN u v w) : (u ≤ u + k * w ∧ u + k * w < v) ∨ (v < u + k * w ∧ u + k * w ≤ u) := by
  unfold rgN at h
  by_cases hw : 0 < w
  · rw [if_pos hw] at h
    by_cases huv : u < v
    · rw [if_pos huv] at h
      have h1 : (k : Int) ≤ (v - u - 1) / w := by omega
      have h2 := (Int.le_ediv_iff_mul_le hw).mp h1
      have h3 : 0 ≤ (k : Int) * w := Int.mul_nonneg (by omega) (by omega)
      left; omega
    · rw [if_neg huv] at h; omega
  · rw [if_neg hw] at h
    by_cases huv : v < u
    · rw [if_pos huv] at h
      by_cases hw0 : w = 0
      · subst hw0; right; rw [Int.mul_zero]; omega
      · have h1 : (k : Int) ≤ (u - v - 1) / (-w) := by omega
        have h2 := (Int.le_ediv_iff_mul_le (by omega)).mp h1
        have h3 : 0 ≤ (k : Int) * (-w) := Int.mul_nonneg (by omega) (by omega)
        rw [Int.mul_neg] at h2 h3
        right; omega
    · rw [if_neg huv] at h; omega
theorem rgN_le {u v w : Int} (hu : -2147483648 ≤ u ∧ u < 2147483648) (hv : -2147483648 ≤ v ∧ v < 2147483648) (hw : w ≠ 0) : rgN u v w ≤ 4294967296 := by
  unfold rgN
  by_cases h1 : 0 < w
  · rw [if_pos h1]
    by_cases h2 : u < v
    · rw [if_pos h2]
      have b2 : (v - u - 1) / w ≤ v - u - 1 := Int.ediv_le_self _ (by omega)
      omega
    · rw [if_neg h2]; omega
  · rw [if_neg h1]
    by_cases h2 : v < u
    · rw [if_pos h2]
      have b2 : (u - v - 1) / (-w) ≤ u - v - 1 := Int.ediv_le_self _ (by omega)
      omega
    · rw [if_neg h2]; omega
theorem i_bd (x : Int32) : -2147483648 ≤ x.toInt ∧ x.toInt < 2147483648 := ⟨x.le_toInt, x.toInt_lt⟩
section OVL
variable {sp : ox_E} {d mr sr : Nat} {S : ox_St} {Q : ox_Q} {a : Nat}
/-- Num.of, by its value -/
theorem s_79v (hsp : ox_mono sp) {V : Int} {x0 : Int64} (hx : x0.toInt = V) (hV : V.natAbs < 2 ^ 62) (h3 : 0 < S.n) (hm : 2 ≤ mr) (hs : 9 ≤ sr) (hQ : ∀ S' w c r, S'.n = S.n + 2 → oAg (fun a => a < S.n) S S' → oNm S' (S.n + 1) S.n w c r ∧ S'.I 6 (S.n + 1) = 3 → nv w c r = V → Q (some (.inr (.inr (S.n + 1)))) S') : ox_M sp (d + 3) 79 [.inr (.inl x0)] mr sr S Q := by
  have z0 : (0 : Int64).toInt = 0 := rfl
  have hlt : (0 < x0) ↔ 0 < V := by rw [Int64.lt_iff_toInt_lt, hx, z0]
  have hle : (0 ≤ lg_cmp x0 0) ↔ 0 ≤ V := by rw [lg_cmp_ge, Int64.le_iff_toInt_le, hx, z0]
  have hdl : dl 16 V.natAbs ≤ 5 := dl_lt 16 _ 5 (Nat.lt_trans hV (by decide))
  have hN16 : V.natAbs < 32768 ^ 16 := Nat.lt_trans hV (by decide)
  have hsz : (if 0 < x0 then x0 else -x0) = lN V.natAbs := by
    by_cases h : 0 < V
    · rw [if_pos (hlt.mpr h)]
      exact l_of (by omega) (by rw [hx]; omega)
    · rw [if_neg (fun z => h (hlt.mp z))]
      exact l_of (by omega) (by rw [l_neg (by omega), hx]; omega)
  by_cases h : 0 ≤ V
  · obtain ⟨m1, m2, m3, m4⟩ := oNumOf_nm (S := S) (N := V.natAbs) (neg := 0) hN16 (Or.inl rfl) (fun _ => rfl)
    refine s_79 hsp (neg := 0) hsz ⟨fun _ => rfl, fun z => absurd (hle.mpr h) z⟩ hV h3 hm (by omega) (hQ _ _ _ _ m1 m2 ⟨m3, m4⟩ ?_)
    unfold nv
    rw [if_pos rfl, (dl_dc hN16).2]
    omega
  · obtain ⟨m1, m2, m3, m4⟩ := oNumOf_nm (S := S) (N := V.natAbs) (neg := 1) hN16 (Or.inr rfl) (fun z => by omega)
    refine s_79 hsp (neg := 1) hsz ⟨fun z => absurd (hle.mp z) h, fun _ => rfl⟩ hV h3 hm (by omega) (hQ _ _ _ _ m1 m2 ⟨m3, m4⟩ ?_)
    unfold nv
    rw [if_neg (by decide), (dl_dc hN16).2]
    omega
/-- Range.size -/
theorem s_83 (hsp : ox_mono sp) (hK : S.K a = 9) (hw : (S.I 55 a).toInt ≠ 0) (hQ : Q (some (.inr (.inl (lN (rgN (S.I 53 a).toInt (S.I 54 a).toInt (S.I 55 a).toInt))))) S) : ox_M sp (d + 1) 83 [.inr (.inr a)] mr sr S Q := by
  obtain ⟨u1, u2⟩ := i_bd (S.I 53 a)
  obtain ⟨v1, v2⟩ := i_bd (S.I 54 a)
  obtain ⟨w1, w2⟩ := i_bd (S.I 55 a)
  have z0 : (0 : Int64).toInt = 0 := rfl
  have zi : (0 : Int32).toInt = 0 := rfl
  have ew : (Int32.toInt64 (S.I 55 a)).toInt = (S.I 55 a).toInt := Int32.toInt_toInt64 _
  have en : (-(Int32.toInt64 (S.I 55 a))).toInt = -(S.I 55 a).toInt := by rw [l_neg (by omega), ew]
  have g1 := lg_i2l_sub (S.I 53 a) (S.I 54 a)
  have g2 := lg_i2l_sub (S.I 54 a) (S.I 53 a)
  have hpos : (0 < Int32.toInt64 (S.I 55 a)) ↔ 0 < (S.I 55 a).toInt := by rw [Int64.lt_iff_toInt_lt, ew, z0]
  have hle : ∀ y : Int64, lg_cmp y 0 ≤ 0 ↔ y.toInt ≤ 0 := fun y => by rw [lg_cmp_le, Int64.le_iff_toInt_le, z0]
  have heq : ∀ y : Int64, y.toInt ≠ 0 → ¬ lg_cmp y 0 = 0 ∧ ¬ y = 0 := fun y hy => ⟨fun z => hy (by rw [(lg_cmp_eq _ _).mp z]; rfl), fun z => hy (by rw [z]; rfl)⟩
  have hst : (S.I 55 a ≤ 0) ↔ (S.I 55 a).toInt ≤ 0 := by rw [Int32.le_iff_toInt_le, zi]
  unfold rgN at hQ
  refine f_83 hsp ?_
  unfold q_83
  rw [hK]
  refine ⟨rfl, fun z => ⟨rfl, rfl, rfl, by decide, ?_⟩, fun z => ⟨rfl, rfl, rfl, by decide, ?_⟩⟩
  · have z' := hst.mp z
    rw [if_neg (by omega)] at hQ
    rw [if_neg (fun y => by have := hpos.mp y; omega)]
    refine ⟨fun y => ⟨rfl, ?_⟩, fun y => ⟨fun q => ⟨(heq _ (by rw [en]; omega)).2, rfl, ?_⟩, fun q => absurd q (heq _ (by rw [en]; omega)).1⟩⟩
    · have := (hle _).mp y
      rw [if_neg (by omega)] at hQ
      exact hQ
    · have hu : (S.I 54 a).toInt < (S.I 53 a).toInt := Int.not_le.mp fun w => y ((hle _).mpr (by omega))
      rw [if_pos hu] at hQ
      rw [rg_half g1 en (by omega) (by omega) (by omega)]
      exact hQ
  · have z' : 0 < (S.I 55 a).toInt := Int.not_le.mp fun w => z (hst.mpr w)
    rw [if_pos z'] at hQ
    rw [if_pos (hpos.mpr z')]
    refine ⟨fun y => ⟨rfl, ?_⟩, fun y => ⟨fun q => ⟨(heq _ (by rw [ew]; omega)).2, rfl, ?_⟩, fun q => absurd q (heq _ (by rw [ew]; omega)).1⟩⟩
    · have := (hle _).mp y
      rw [if_neg (by omega)] at hQ
      exact hQ
    · have hu : (S.I 53 a).toInt < (S.I 54 a).toInt := Int.not_le.mp fun w => y ((hle _).mpr (by omega))
      rw [if_pos hu] at hQ
      rw [rg_half g2 ew (by omega) (by omega) (by omega)]
      exact hQ
/-- Range.itemAt -/
theorem s_84 (hsp : ox_mono sp) (hK : S.K a = 9) (hw : (S.I 55 a).toInt ≠ 0) {i : Int64} (h3 : 0 < S.n) (hm : 2 ≤ mr) (hs : 9 ≤ sr) (hQ0 : (i.toInt < 0 ∨ (rgN (S.I 53 a).toInt (S.I 54 a).toInt (S.I 55 a).toInt : Int) ≤ i.toInt) → Q (some (.inr (.inr 0))) S)
    (hQ1 : ∀ k : Nat, i = lN k → k < rgN (S.I 53 a).toInt (S.I 54 a).toInt (S.I 55 a).toInt → ∀ S' w c r, S'.n = S.n + 2 → oAg (fun a => a < S.n) S S' → oNm S' (S.n + 1) S.n w c r ∧ S'.I 6 (S.n + 1) = 3 → nv w c r = (S.I 53 a).toInt + k * (S.I 55 a).toInt → Q (some (.inr (.inr (S.n + 1)))) S') : ox_M sp (d + 4) 84 [.inr (.inr a), .inr (.inl i)] mr sr S Q := by
  have hE : ox_mono (ox_M sp (d + 3)) := ox_M_mono hsp _
  obtain ⟨u1, u2⟩ := i_bd (S.I 53 a)
  obtain ⟨v1, v2⟩ := i_bd (S.I 54 a)
  obtain ⟨w1, w2⟩ := i_bd (S.I 55 a)
  have z0 : (0 : Int64).toInt = 0 := rfl
  have hlt : lg_cmp i 0 < 0 ↔ i.toInt < 0 := by rw [lg_cmp_lt, Int64.lt_iff_toInt_lt, z0]
  have hsz := rgN_le (u := (S.I 53 a).toInt) (v := (S.I 54 a).toInt) (w := (S.I 55 a).toInt) ⟨u1, u2⟩ ⟨v1, v2⟩ hw
  have nul : Q (some (.inr (.inr 0))) S → k_84_35 (ox_M sp (d + 3)) a i mr sr Q (some (.inr (.inr 0))) S := fun h => f_84_35 hE ⟨rfl, h⟩
  refine f_84 hsp ⟨fun z => nul (hQ0 (Or.inl (hlt.mp z))), fun z => ⟨by decide, hK, by decide, 0, 0, Nat.zero_le _, Nat.zero_le _, s_83 (d := d + 2) hsp hK hw (f_84_11 hE ?_)⟩⟩
  have z' : 0 ≤ i.toInt := Int.not_lt.mp fun w => z (hlt.mpr w)
  have h2 : lg_cmp i (lN (rgN (S.I 53 a).toInt (S.I 54 a).toInt (S.I 55 a).toInt)) < 0 ↔ i.toInt < (rgN (S.I 53 a).toInt (S.I 54 a).toInt (S.I 55 a).toInt : Int) := by rw [lg_cmp_lt, Int64.lt_iff_toInt_lt, pf_lI (by omega)]
  refine ⟨fun y => ?_, fun y => nul (hQ0 (Or.inr (Int.not_lt.mp fun w => y (h2.mpr w))))⟩
  have y' := h2.mp y
  obtain ⟨k, hk⟩ : ∃ k : Nat, i.toInt = k := ⟨i.toInt.toNat, by omega⟩
  have hki : i = lN k := l_of (by omega) hk
  have hkl : k < rgN (S.I 53 a).toInt (S.I 54 a).toInt (S.I 55 a).toInt := by omega
  have hit := rg_item hkl
  have ew : (Int32.toInt64 (S.I 55 a)).toInt = (S.I 55 a).toInt := Int32.toInt_toInt64 _
  have eu : (Int32.toInt64 (S.I 53 a)).toInt = (S.I 53 a).toInt := Int32.toInt_toInt64 _
  have em : (i * Int32.toInt64 (S.I 55 a)).toInt = k * (S.I 55 a).toInt := by
    rw [l_mul (by rw [hk, ew]; omega) (by rw [hk, ew]; omega), hk, ew]
  have es : (Int32.toInt64 (S.I 53 a) + i * Int32.toInt64 (S.I 55 a)).toInt = (S.I 53 a).toInt + k * (S.I 55 a).toInt := by
    rw [l_add (by rw [em, eu]; omega) (by rw [em, eu]; omega), em, eu]
  refine ⟨by rw [hK]; rfl, by rw [hK]; rfl, by decide, by decide, 2, 9, by omega, by omega, ?_⟩
  exact s_79v (d := d) hsp es (by omega) h3 (by decide) (by decide) (fun S' w c r e1 e2 e3 e4 => f_84_35 hE ⟨rfl, hQ1 k hki hkl S' w c r e1 e2 e3 e4⟩)
/-- Range.hasSameThree -/
theorem s_85 (hsp : ox_mono sp) {b : Nat} (ha : S.K a = 9) (hb : S.K b = 9) (hQ : Q (some (.inl (if S.I 53 a = S.I 53 b ∧ S.I 54 a = S.I 54 b ∧ S.I 55 a = S.I 55 b then 1 else 0))) S) : ox_M sp (d + 1) 85 [.inr (.inr a), .inr (.inr b)] mr sr S Q := by
  refine f_85 hsp ?_
  unfold q_85
  rw [ha, hb]
  refine ⟨rfl, rfl, fun z => ⟨Or.inl rfl, ?_⟩, fun z => ⟨rfl, rfl, fun y => ⟨Or.inl rfl, ?_⟩, fun y => ⟨rfl, rfl, fun w => ⟨Or.inl rfl, ?_⟩, fun w => ⟨Or.inr rfl, ?_⟩⟩⟩⟩
  · rw [if_neg (fun q => z q.1)] at hQ; exact hQ
  · rw [if_neg (fun q => y q.2.1)] at hQ; exact hQ
  · rw [if_neg (fun q => w q.2.2)] at hQ; exact hQ
  · rw [if_pos ⟨z, y, w⟩] at hQ; exact hQ
/-- a tuple: its row, how many, the items -/
def oTp (S : ox_St) (a t n : Nat) : Prop := S.K a = 10 ∧ S.R 56 a = t ∧ S.K t = 19 ∧ S.len t = n ∧ n ≤ 12
/-- Tuple.size -/
theorem s_87 (hsp : ox_mono sp) {t n : Nat} (h : oTp S a t n) (hQ : Q (some (.inr (.inl (lN n)))) S) : ox_M sp (d + 1) 87 [.inr (.inr a)] mr sr S Q := by
  obtain ⟨h1, h2, h3, h4, h5⟩ := h
  refine f_87 hsp ?_
  unfold q_87
  rw [h1, h2, h3, h4, show Int32.ofNat n = nI n from rfl, nI_l (by omega)]
  exact ⟨rfl, rfl, rfl, hQ⟩
/-- Tuple.itemAt -/
theorem s_88 (hsp : ox_mono sp) {t n : Nat} (h : oTp S a t n) {i : Int64} (hQ0 : (i.toInt < 0 ∨ (n : Int) ≤ i.toInt) → Q (some (.inr (.inr 0))) S) (hQ1 : ∀ k : Nat, i = lN k → k < n → Q (some (.inr (.inr (S.rR t k)))) S) : ox_M sp (d + 1) 88 [.inr (.inr a), .inr (.inl i)] mr sr S Q := by
  obtain ⟨h1, h2, h3, h4, h5⟩ := h
  have z0 : (0 : Int64).toInt = 0 := rfl
  have hlt : lg_cmp i 0 < 0 ↔ i.toInt < 0 := by rw [lg_cmp_lt, Int64.lt_iff_toInt_lt, z0]
  have hl2 : lg_cmp i (lN n) < 0 ↔ i.toInt < (n : Int) := by rw [lg_cmp_lt, Int64.lt_iff_toInt_lt, pf_lI (by omega)]
  refine f_88 hsp ?_
  unfold q_88
  rw [h1, h2, h3, h4, show Int32.ofNat n = nI n from rfl, nI_l (by omega)]
  refine ⟨fun z => ⟨rfl, hQ0 (Or.inl (hlt.mp z))⟩, fun z => ⟨rfl, rfl, fun y => ?_, fun y => ⟨rfl, hQ0 (Or.inr (Int.not_lt.mp fun w => y (hl2.mpr w)))⟩⟩⟩
  have z' : 0 ≤ i.toInt := Int.not_lt.mp fun w => z (hlt.mpr w)
  have y' := hl2.mp y
  obtain ⟨k, hk⟩ : ∃ k : Nat, i.toInt = k := ⟨i.toInt.toNat, by omega⟩
  have hki : i = lN k := l_of (by omega) hk
  have hkn : k < n := by omega
  subst hki
  rw [lN_i, nI_clamp (by omega)]
  exact ⟨rfl, rfl, vp_in_nI hkn (by omega), rfl, hQ1 k rfl hkn⟩
theorem s_90 (hsp : ox_mono sp) (hQ : Q (some (.inr (.inl (-1)))) S) : ox_M sp (d + 1) 90 [.inr (.inr a)] mr sr S Q := f_90 hsp ⟨rfl, hQ⟩
/-- numberOf -/
theorem s_56 (hsp : ox_mono sp) {x b : Nat} (hC : oCL S x) (hb : ox_isV (S.K b) = true) (hQ8 : S.K b = 8 → Q (some (.inr (.inr b))) S) (hQ1 : S.K b ≠ 8 → S.I 6 b = 1 → Q (some (.inr (.inr (x + 20)))) S) (hQ2 : S.K b ≠ 8 → S.I 6 b = 2 → Q (some (.inr (.inr (x + 22)))) S) (hQ0 : S.K b ≠ 8 → S.I 6 b ≠ 1 → S.I 6 b ≠ 2 → Q (some (.inr (.inr 0))) S) : ox_M sp (d + 1) 56 [.inr (.inr (x + 11)), .inr (.inr b)] mr sr S Q := by
  have hx := hC.obj (o := 11) (k := 7) (by decide)
  have r8 : S.R 48 (x + 11) = x + 20 := hC.ref (by decide)
  have r9 : S.R 49 (x + 11) = x + 22 := hC.ref (by decide)
  have h6 := (isV_has hb).1
  refine f_56 hsp ?_
  unfold q_56
  rw [hx, r8, r9, h6]
  refine ⟨Or.inr hb, fun z => ?_, fun z => ?_⟩
  · have h8 : S.K b ≠ 8 := fun e => by rw [e] at z; exact absurd z (by decide)
    refine ⟨rfl, fun y1 => ⟨rfl, fun y2 => ⟨rfl, hQ0 h8 y1 y2⟩, fun y2 => ⟨rfl, rfl, hQ2 h8 y2⟩⟩, fun y1 => ⟨rfl, rfl, hQ1 h8 y1⟩⟩
  · have h8 : S.K b = 8 := by
      by_cases e : S.K b = 8
      · exact e
      · rw [if_neg (by simp [e])] at z; exact absurd rfl z
    exact ⟨Or.inr (by rw [h8]; rfl), rfl, hQ8 h8⟩
/-- kindOf, truth -/
theorem s_72 (hsp : ox_mono sp) (hb : ox_isV (S.K a) = true) (hQ : Q (some (.inl (if S.I 6 a = 9 then S.I 7 a else 0))) S) : ox_M sp (d + 1) 72 [.inr (.inr a)] mr sr S Q := by
  have h := isV_has hb
  refine f_72 hsp ⟨h.1, fun z => ⟨trivial, ?_⟩, fun z => ⟨h.2, trivial, ?_⟩⟩
  · rw [if_neg z] at hQ; exact hQ
  · rw [if_pos z] at hQ; exact hQ
theorem s_54 (hsp : ox_mono sp) {x : Nat} (hC : oCL S x) {b : Int32} (hQ : Q (some (.inr (.inr (if b = 0 then x + 15 else x + 16)))) S) : ox_M sp (d + 1) 54 [.inr (.inr (x + 11)), .inl b] mr sr S Q := by
  have hx := hC.obj (o := 11) (k := 7) (by decide)
  have r4 : S.R 44 (x + 11) = x + 15 := hC.ref (by decide)
  have r5 : S.R 45 (x + 11) = x + 16 := hC.ref (by decide)
  refine f_54 hsp ?_
  unfold q_54
  rw [hx, r4, r5]
  refine ⟨fun z => ⟨rfl, rfl, ?_⟩, fun z => ⟨rfl, rfl, ?_⟩⟩
  · rw [if_pos z] at hQ; exact hQ
  · rw [if_neg z] at hQ; exact hQ
/-- replace -/
theorem s_50 (hsp : ox_mono sp) {f i n v : Nat} (h : oF S f) (hi : i ≤ n) (hn : n ≤ 10) (h10 : n - i < 10) (hh : S.I 20 f = nI n) (hv : v = 0 ∨ ox_isV (S.K v) = true) (hQ : Q (some (.inl (-1))) (((S.sI 20 f (nI (n - i))).wR (f + 2) (n - i) v).sI 20 f (nI (n - i + 1)))) : ox_M sp (d + 2) 50 [.inr (.inr f), .inl (nI i), .inr (.inr v)] mr sr S Q := by
  have hE : ox_mono (ox_M sp (d + 1)) := ox_M_mono hsp _
  refine f_50 hsp ⟨by decide, h.1, by decide, 0, 0, Nat.zero_le _, Nat.zero_le _, s_drop hsp h.1 hi hn hh (f_50_5 hE ⟨by decide, h.1, by decide, 0, 0, Nat.zero_le _, Nat.zero_le _, ?_⟩)⟩
  exact s_push (S := S.sI 20 f (nI (n - i))) hsp h h10 (if_pos ⟨rfl, rfl⟩) hv (f_50_10 hE ⟨trivial, hQ⟩)
end OVL
