/-! the class's numbers as longs: small, isInt; rows shifted up -/
/-- what small tells of a size with n digits -/
def smN (n X : Nat) : Nat := if n ≤ 3 then X else 1125899906842624
/-- a long with a sign -/
def lS (p : Int32) (N : Nat) : Int64 := if p = 0 then lN N else -lN N
theorem lneg_toInt {N : Nat} (h : N < 2 ^ 63) : (-lN N).toInt = -(N : Int) := by
  have h2 := pf_lI (a := N) h
  rw [Int64.toInt_neg, h2]
  exact Int.bmod_eq_of_le (by omega) (by omega)
theorem lS_toInt {p : Int32} {N : Nat} (h : N < 2 ^ 63) : (lS p N).toInt = if p = 0 then (N : Int) else -(N : Int) := by
  unfold lS
  by_cases e : p = 0
  · rw [if_pos e, if_pos e, pf_lI h]
  · rw [if_neg e, if_neg e, lneg_toInt h]
/-- fits into an int -/
abbrev inI (V : Int) : Prop := -2147483648 ≤ V ∧ V ≤ 2147483647
section OSMC
variable {sp : ox_E} {d mr sr : Nat} {S : ox_St} {Q : ox_Q} {a ta n : Nat} {f : Nat → Nat} {p : Int32}
theorem s_80_36 {E : ox_E} (hE : ox_mono E) (ha : oNm S a ta f n p) (hn : n ≤ 3) (hQ : Q (some (.inr (.inl (lS p (dv f n))))) S) : ∀ (i r : Nat), i + r = n → c_80_36 E a (lN (dv (fun j => f (i + j)) r)) (nI i - 1) S mr sr Q
  | 0, r, hr => by
    obtain ⟨a1, a2, a3, a4, a5, a6, a7⟩ := ha
    have e : dv (fun j => f (0 + j)) r = dv f n := by
      rw [show r = n by omega]
      exact dv_congr n (fun i _ => by rw [Nat.zero_add])
    unfold lS at hQ
    refine f_80_36 hE ⟨fun _ => ⟨by rw [a1]; rfl, fun z => ⟨rfl, ?_⟩, fun z => ⟨rfl, ?_⟩⟩, fun z => absurd (by decide) z⟩
    · rw [a5] at z
      rw [if_pos z] at hQ
      rw [e]; exact hQ
    · rw [a5] at z
      rw [if_neg z] at hQ
      rw [e]; exact hQ
  | i + 1, r, hr => by
    have ha' := ha
    obtain ⟨a1, a2, a3, a4, a5, a6, a7⟩ := ha'
    have hi : i < n := by omega
    have hfi := a4.1 i hi
    have hX : dv (fun j => f (i + 1 + j)) r < 32768 ^ 3 := Nat.lt_of_lt_of_le (dv_lt r (fun j hj => a4.1 _ (by omega))) (Nat.pow_le_pow_right (by decide) (by omega))
    have e : (lN (dv (fun j => f (i + 1 + j)) r) <<< (Int32.toInt64 15 &&& 63)) ||| Int32.toInt64 (nI (f i)) = lN (dv (fun j => f (i + j)) (r + 1)) := by
      rw [show Int32.toInt64 15 = (nI 15).toInt64 from rfl, wb_shl _ (by decide), nI_l (by omega), g_or (k := 15) (p := 2 ^ 15) rfl hfi (by omega), dv_cons]
      rw [show (fun j => f (i + 1 + j)) = (fun j => f (i + (j + 1))) from funext fun j => by rw [Nat.add_assoc, Nat.add_comm 1 j]]
      show lN (_ * 32768 + f i) = lN (f i + 32768 * _)
      rw [Nat.mul_comm, Nat.add_comm]
    rw [nI_pred]
    refine f_80_36 hE ?_
    unfold q_80_36
    rw [a1, a2, a3.1, a3.2.1, nI_clamp (n := i) (by omega), (a3.2.2.2 i hi).1, e]
    refine ⟨fun z => absurd z (nI_pos (by omega)), fun _ => ⟨rfl, rfl, vp_in_nI (by omega) (by omega), ?_⟩⟩
    show c_80_36 E a (lN (dv (fun j => f (i + j)) (r + 1))) (nI i + -1) S mr sr Q
    rw [← Int32.sub_eq_add_neg]
    exact s_80_36 hE ha hn hQ i (r + 1) (by omega)
/-- small -/
theorem s_80 (hsp : ox_mono sp) (ha : oNm S a ta f n p) (hQ : Q (some (.inr (.inl (lS p (smN n (dv f n)))))) S) : ox_M sp (d + 1) 80 [.inr (.inr a)] mr sr S Q := by
  have hE : ox_mono (ox_M sp d) := ox_M_mono hsp _
  have ha' := ha
  obtain ⟨a1, a2, a3, a4, a5, a6, a7⟩ := ha'
  have hn := a3.2.2.1
  refine f_80 hsp ?_
  unfold q_80
  rw [a1, a2, a3.1, a3.2.1, a5, show Int32.ofNat n = nI n from rfl]
  unfold smN at hQ
  refine ⟨rfl, rfl, fun z => ⟨rfl, rfl, ?_⟩, fun z => ⟨rfl, fun y => ⟨rfl, ?_⟩, fun y => ⟨rfl, ?_⟩⟩⟩
  · have hn3 : n ≤ 3 := (nI_leI (b := 3) (by omega) (by decide)).mp z
    rw [if_pos hn3] at hQ
    have := s_80_36 (mr := mr) (sr := sr) hE ha hn3 hQ n 0 rfl
    rw [show lN (dv (fun j => f (n + j)) 0) = 0 from rfl] at this
    exact this
  · have hn3 : ¬ n ≤ 3 := fun y => z ((nI_leI (b := 3) (by omega) (by decide)).mpr y)
    unfold lS at hQ
    rw [if_neg hn3, if_pos y] at hQ
    exact hQ
  · have hn3 : ¬ n ≤ 3 := fun y => z ((nI_leI (b := 3) (by omega) (by decide)).mpr y)
    unfold lS at hQ
    rw [if_neg hn3, if_neg y] at hQ
    exact hQ
theorem smN_big {n : Nat} (ha : dc f n) (h : 3 < n) : 32768 ^ 3 ≤ dv f n := Nat.le_trans (Nat.pow_le_pow_right (by decide) (by omega)) (dc_low ha (by omega))
theorem smN_lt {n : Nat} (ha : dc f n) : smN n (dv f n) < 2 ^ 62 := by
  unfold smN
  by_cases h : n ≤ 3
  · rw [if_pos h]
    exact Nat.lt_of_lt_of_le (dv_lt n ha.1) (Nat.le_trans (Nat.pow_le_pow_right (by decide) h) (by decide))
  · rw [if_neg h]; decide
theorem smN_in {n : Nat} (ha : dc f n) : inI (if p = 0 then (smN n (dv f n) : Int) else -(smN n (dv f n) : Int)) ↔ inI (nv f n p) := by
  unfold smN nv
  by_cases h : n ≤ 3
  · rw [if_pos h]
  · have hb := smN_big ha (Nat.not_le.mp h)
    rw [if_neg h]
    unfold inI
    by_cases e : p = 0
    · rw [if_pos e, if_pos e]; omega
    · rw [if_neg e, if_neg e]; omega
/-- isInt -/
theorem s_81 (hsp : ox_mono sp) (ha : oNm S a ta f n p) (hQ : Q (some (.inl (if inI (nv f n p) then 1 else 0))) S) : ox_M sp (d + 2) 81 [.inr (.inr a)] mr sr S Q := by
  have hE : ox_mono (ox_M sp (d + 1)) := ox_M_mono hsp _
  have hlt := smN_lt (f := f) ha.2.2.2.1
  have hin := smN_in (p := p) ha.2.2.2.1
  have ht := lS_toInt (p := p) (N := smN n (dv f n)) (by omega)
  refine f_81 hsp ⟨by decide, ha.1, by decide, 0, 0, Nat.zero_le _, Nat.zero_le _, s_80 hsp ha (f_81_4 hE ?_)⟩
  have c1 : lg_cmp (lS p (smN n (dv f n))) (-2147483648) < 0 ↔ (lS p (smN n (dv f n))).toInt < -2147483648 := by
    rw [lg_cmp_lt, Int64.lt_iff_toInt_lt, show (-2147483648 : Int64).toInt = -2147483648 from by decide +kernel]
  have c2 : (0 : Int32) < lg_cmp (lS p (smN n (dv f n))) 2147483647 ↔ 2147483647 < (lS p (smN n (dv f n))).toInt := by
    rw [lg_cmp_gt, Int64.lt_iff_toInt_lt, show (2147483647 : Int64).toInt = 2147483647 from by decide +kernel]
  rw [ht] at c1 c2
  generalize (if p = 0 then (smN n (dv f n) : Int) else -(smN n (dv f n) : Int)) = V at c1 c2 hin
  refine ⟨fun z => ⟨Or.inl rfl, ?_⟩, fun z => ⟨fun y => ⟨Or.inl rfl, ?_⟩, fun y => ⟨Or.inr rfl, ?_⟩⟩⟩
  · rw [if_neg (fun w => by have := (hin.mpr w).1; have := c1.mp z; omega)] at hQ; exact hQ
  · rw [if_neg (fun w => by have := (hin.mpr w).2; have := c2.mp y; omega)] at hQ; exact hQ
  · rw [if_pos (hin.mp ⟨Int.not_lt.mp fun w => z (c1.mpr w), Int.not_lt.mp fun w => y (c2.mpr w)⟩)] at hQ; exact hQ
end OSMC
/-- digits shifted up: carries and what stays -/
def cU (s : Nat) (f : Nat → Nat) : Nat → Nat
  | 0 => 0
  | i + 1 => (f i * 2 ^ s + cU s f i) / 32768
def wU (s : Nat) (f : Nat → Nat) (i : Nat) : Nat := (f i * 2 ^ s + cU s f i) % 32768
theorem cU_lt {s : Nat} {f : Nat → Nat} : ∀ i, (∀ j, j < i → f j < 32768) → cU s f i < 2 ^ s
  | 0, _ => Nat.pow_pos (by decide)
  | i + 1, h => by
    have h1 := cU_lt (s := s) i (fun j hj => h j (by omega))
    have h2 : f i * 2 ^ s ≤ 32767 * 2 ^ s := Nat.mul_le_mul_right _ (Nat.le_of_lt_succ (h i (by omega)))
    refine Nat.div_lt_of_lt_mul ?_
    omega
/-- the row that shiftUp leaves -/
def uU (s : Nat) (f : Nat → Nat) (n z : Nat) : Nat := if z < n then wU s f z else if z = n then cU s f n else 0
theorem uU_lt {s : Nat} {f : Nat → Nat} {n : Nat} (hs : s ≤ 14) (hf : ∀ j, j < n → f j < 32768) (z : Nat) : uU s f n z < 32768 := by
  unfold uU
  by_cases h : z < n
  · rw [if_pos h]; exact Nat.mod_lt _ (by decide)
  · rw [if_neg h]
    by_cases h2 : z = n
    · rw [if_pos h2]
      exact Nat.lt_of_lt_of_le (cU_lt n hf) (Nat.le_trans (Nat.pow_le_pow_right (by decide) hs) (by decide))
    · rw [if_neg h2]; decide
theorem uU_dv {s : Nat} {f : Nat → Nat} {n : Nat} (r : Nat) : dv (uU s f n) (n + 1 + r) = 2 ^ s * dv f n := by
  rw [dv_zero r (fun i q1 q2 => by unfold uU; rw [if_neg (by omega), if_neg (by omega)])]
  have e := dv_row0 (f := f) (w := wU s f) (c := cU s f) (a := 2 ^ s) n (fun i _ => by
    show 2 ^ s * f i + cU s f i = (f i * 2 ^ s + cU s f i) % 32768 + 32768 * ((f i * 2 ^ s + cU s f i) / 32768)
    rw [Nat.mod_add_div, Nat.mul_comm])
  show dv (uU s f n) n + uU s f n n * 32768 ^ n = _
  rw [dv_congr (g := wU s f) n (fun i hi => by unfold uU; rw [if_pos hi]), show uU s f n n = cU s f n by unfold uU; rw [if_neg (by omega), if_pos rfl], e]
  exact Nat.add_zero _
section OSU
variable {sp : ox_E} {d mr sr : Nat} {S : ox_St} {Q : ox_Q} {t u n s L : Nat} {f : Nat → Nat}
theorem s_10_10 {E : ox_E} (hE : ox_mono E) (hs : s ≤ 14) (htu : t ≠ u) (hL : 18 ≤ L) (hL2 : L ≤ 34) : ∀ (r i : Nat) (S : ox_St), i + r = n → oDs S t f n → S.K u = 15 → S.len u = L → (∀ z, z < L → S.rI u z = nI (uU s f i z)) → (∀ S', oBut u S S' → (∀ z, z < L → S'.rI u z = nI (uU s f n z)) → Q none S') → c_10_10 E t (nI s) u (nI (cU s f i)) (nI i) S mr sr Q
  | 0, i, S, hi, hd, hK, hl, hw, hQ => by
    obtain ⟨d1, d2, d3, d4⟩ := hd
    obtain rfl : i = n := by omega
    refine f_10_10 hE ?_
    unfold q_10_10
    rw [d1, d2]
    exact ⟨rfl, fun _ => ⟨rfl, hQ S ⟨oAg.refl, rfl, rfl, rfl, rfl, rfl, rfl, rfl, rfl⟩ hw⟩, fun z => absurd (nI_le (Nat.le_refl i) (by omega)) z⟩
  | r + 1, i, S, hi, hd, hK, hl, hw, hQ => by
    have hd' := hd
    obtain ⟨d1, d2, d3, d4⟩ := hd'
    have hin : i < n := by omega
    obtain ⟨e1, e2⟩ := d4 i hin
    have hc := cU_lt (s := s) (f := f) i (fun j hj => (d4 j (by omega)).2)
    have h2s : 2 ^ s ≤ 16384 := Nat.le_trans (Nat.pow_le_pow_right (by decide) hs) (by decide)
    have hfm : f i * 2 ^ s ≤ 32767 * 16384 := Nat.mul_le_mul (by omega) h2s
    have ed : (nI (f i) <<< (nI s &&& 31)) ||| nI (cU s f i) = nI (f i * 2 ^ s + cU s f i) := by
      rw [pk_andN (n := s) (m := 31) (by omega) 5 (by decide), Nat.mod_eq_of_lt (show s < 2 ^ 5 by omega), pk_shlN _ s (nI_smod (by omega)) (by omega), nI_or (by omega) (by omega), Nat.mul_comm, Nat.two_pow_add_eq_or_of_lt hc]
    have e3 : nI (f i * 2 ^ s + cU s f i) &&& 32767 = nI (wU s f i) := and_nI _
    have e4 : nI (f i * 2 ^ s + cU s f i) >>> (15 &&& 31) = nI (cU s f (i + 1)) := pk_shrN (by omega) _ 15 (by decide)
    refine f_10_10 hE ?_
    unfold q_10_10
    rw [d1, d2, hK, hl, show Int32.ofNat n = nI n from rfl, show Int32.ofNat L = nI L from rfl, nI_1, nI_clamp (n := i) (by omega), nI_clamp (n := i + 1) (by omega), e1, ed]
    refine ⟨rfl, fun z => absurd z (nI_ge hin (by omega)), fun _ => ⟨rfl, fun z => absurd z (nI_ge (by omega) (by omega)), fun _ => ⟨rfl, vp_in_nI (by omega) (by omega), rfl, vp_in_nI (by omega) (by omega), ?_⟩⟩⟩
    rw [e3, e4]
    show S.K u = 15 ∧ vp_in (nI (i + 1)) (S.len u) ∧ c_10_10 E t (nI s) u (nI (cU s f (i + 1))) (nI (i + 1)) ((S.wI u i (nI (wU s f i))).wI u (i + 1) (nI (cU s f (i + 1)))) mr sr Q
    refine ⟨hK, by rw [hl]; exact vp_in_nI (by omega) (by omega), s_10_10 hE hs htu hL hL2 r (i + 1) _ (by omega) ?_ hK hl (fun z hz => ?_) (fun S' q1 q2 => hQ S' ?_ q2)⟩
    · refine ⟨d1, d2, d3, fun j hj => ?_⟩
      rw [or_wI_rI, if_neg (fun y => htu y.1), or_wI_rI, if_neg (fun y => htu y.1)]
      exact d4 j hj
    · rw [or_wI_rI]
      unfold uU
      by_cases z1 : z = i + 1
      · rw [if_pos ⟨rfl, z1⟩, if_neg (by omega), if_pos z1]
      · rw [if_neg (fun y => z1 y.2), or_wI_rI]
        by_cases z2 : z = i
        · rw [if_pos ⟨rfl, z2⟩, if_pos (by omega), z2]
        · rw [if_neg (fun y => z2 y.2), hw z hz]
          unfold uU
          by_cases z3 : z < i
          · rw [if_pos z3, if_pos (by omega)]
          · rw [if_neg z3, if_neg z2, if_neg (by omega), if_neg z1]
    · obtain ⟨b1, b2, b3, b4, b5, b6, b7, b8, b9⟩ := q1
      exact ⟨((oAg_wI (fun z => z rfl)).trans (oAg_wI (fun z => z rfl))).trans b1, b2, b3, b4, b5, b6, b7, b8, b9⟩
/-- shiftUp -/
theorem s_10 (hsp : ox_mono sp) (hs : s ≤ 14) (htu : t ≠ u) (hL : 18 ≤ L) (hL2 : L ≤ 34) (hd : oDs S t f n) (hK : S.K u = 15) (hl : S.len u = L) (hQ : ∀ S', oBut u S S' → (∀ z, z < L → S'.rI u z = nI (uU s f n z)) → Q none S') : ox_M sp (d + 2) 10 [.inr (.inr t), .inl (nI s), .inr (.inr u)] mr sr S Q := by
  have hE : ox_mono (ox_M sp (d + 1)) := ox_M_mono hsp _
  refine f_10 hsp ⟨by decide, by decide, 0, 0, Nat.zero_le _, Nat.zero_le _, s_228 hsp (N := L) (by omega) hK hl (fun S1 e1 e2 => f_10_5 hE ?_)⟩
  obtain ⟨b1, b2, b3, b4, b5, b6, b7, b8, b9⟩ := e1
  have hd1 : oDs S1 t f n := by
    obtain ⟨d1, d2, d3, d4⟩ := hd
    obtain ⟨-, -, -, -, -, g6, -⟩ := b1 t htu
    exact ⟨by rw [b2]; exact d1, by rw [b3]; exact d2, d3, fun j hj => by rw [g6 j]; exact d4 j hj⟩
  refine s_10_10 (f := f) hE hs htu hL hL2 n 0 S1 (Nat.zero_add n) hd1 (by rw [b2]; exact hK) (by rw [b3]; exact hl) (fun z hz => ?_) (fun S' q1 q2 => hQ S' ?_ q2)
  · rw [e2 z hz]
    unfold uU
    rw [if_neg (Nat.not_lt_zero z)]
    by_cases z0 : z = 0
    · rw [if_pos z0]; rfl
    · rw [if_neg z0]; rfl
  · obtain ⟨h1, h2, h3, h4, h5, h6, h7, h8, h9⟩ := q1
    exact ⟨b1.trans h1, h2.trans b2, h3.trans b3, h4.trans b4, h5.trans b5, h6.trans b6, h7.trans b7, h8.trans b8, h9.trans b9⟩
end OSU
