/-! a multiple of the divisor is taken off -/
theorem dv_mul {v : Nat → Nat} {y : Nat} : ∀ n, dv (fun j => y * v j) n = y * dv v n
  | 0 => rfl
  | n + 1 => by
    show dv (fun j => y * v j) n + y * v n * 32768 ^ n = y * (dv v n + v n * 32768 ^ n)
    rw [dv_mul n, Nat.mul_add, Nat.mul_assoc]
/-- what is borrowed, and what stays -/
def cT (y : Nat) (u v : Nat → Nat) : Nat → Nat
  | 0 => 0
  | j + 1 => (y * v j + cT y u v j + (32767 - u j)) / 32768
def wT (y : Nat) (u v : Nat → Nat) (j : Nat) : Nat := u j + 32768 * cT y u v (j + 1) - (y * v j + cT y u v j)
theorem yv_le {y a : Nat} (hy : y ≤ 32768) (ha : a < 32768) : y * a ≤ 1073709056 := Nat.mul_le_mul hy (Nat.le_of_lt_succ ha)
theorem cT_le {y : Nat} {u v : Nat → Nat} (hy : y ≤ 32768) (hv : ∀ j, v j < 32768) : ∀ j, cT y u v j ≤ 32768
  | 0 => by show 0 ≤ 32768; decide
  | j + 1 => by
    have h1 := cT_le (u := u) hy hv j
    have h2 := yv_le hy (hv j)
    show (y * v j + cT y u v j + (32767 - u j)) / 32768 ≤ 32768
    omega
theorem wT_eq {y : Nat} {u v : Nat → Nat} (hu : ∀ j, u j < 32768) (j : Nat) : u j + 32768 * cT y u v (j + 1) = y * v j + cT y u v j + wT y u v j ∧ wT y u v j < 32768 := by
  have h1 := hu j
  unfold wT
  show u j + 32768 * ((y * v j + cT y u v j + (32767 - u j)) / 32768) = y * v j + cT y u v j + (u j + 32768 * ((y * v j + cT y u v j + (32767 - u j)) / 32768) - (y * v j + cT y u v j)) ∧ u j + 32768 * ((y * v j + cT y u v j + (32767 - u j)) / 32768) - (y * v j + cT y u v j) < 32768
  omega
theorem wT_dv {y : Nat} {u v : Nat → Nat} (hu : ∀ j, u j < 32768) (n : Nat) : dv u n + cT y u v n * 32768 ^ n = y * dv v n + dv (wT y u v) n := by
  rw [← dv_mul]
  exact dv_sub (d := cT y u v) rfl n (fun i _ => (wT_eq hu i).1)
theorem lN_wrap (a : Nat) : lN (a + 2 ^ 64) = lN a := by
  rw [wb_mod (a + 2 ^ 64), Nat.add_mod_right, ← wb_mod]
theorem and_lN (m : Nat) : lN m &&& 32767 = lN (m % 32768) := by
  rw [wb_mod m, show (32767 : Int64) = lN (2 ^ 15 - 1) from rfl, wb_mask (Nat.mod_lt _ (by decide)) (by decide), Nat.mod_mod_of_dvd m (by decide : 2 ^ 15 ∣ 2 ^ 64)]
theorem l_shr (x D : Int64) {d : Nat} (hD : (D.toBitVec.smod 64).toNat = d) : (x >>> D).toInt = x.toInt >>> d := by
  rw [← Int64.toInt_toBitVec, Int64.toBitVec_shiftRight, BitVec.sshiftRight_eq', hD, BitVec.toInt_sshiftRight, Int64.toInt_toBitVec]
theorem l_dig {u b M : Nat} (hb : b ≤ 32768) (hM : M ≤ 1073709056) : (lN u - lN M) + -lN b = lN (u + 2 ^ 64 - (M + b)) := by
  rw [← lN_wrap u, lN_sub (by omega), ← Int64.sub_eq_add_neg, lN_sub (by omega), Nat.sub_sub]
theorem l_dig_toInt {u b M : Nat} (hu : u < 32768) (hb : b ≤ 32768) (hM : M ≤ 1073709056) : ((lN u - lN M) + -lN b).toInt = (u : Int) - M - b := by
  have h1 : (lN u - lN M).toInt = (u : Int) - M := by
    rw [Int64.toInt_sub, pf_lI (by omega), pf_lI (by omega)]
    exact Int.bmod_eq_of_le (by omega) (by omega)
  rw [Int64.toInt_add, h1, lneg_toInt (by omega)]
  rw [Int.bmod_eq_of_le (by omega) (by omega)]
  omega
theorem l_and {u b M w c : Nat} (hb : b ≤ 32768) (hM : M ≤ 1073709056) (e : u + 32768 * c = M + b + w) (hw : w < 32768) : Int64.toInt32 (((lN u - lN M) + -lN b) &&& 32767) = nI w := by
  rw [l_dig hb hM, and_lN, lN_i]
  congr 1
  omega
theorem l_sh {u b M w c : Nat} (hu : u < 32768) (hb : b ≤ 32768) (hM : M ≤ 1073709056) (hc : c ≤ 32768) (e : u + 32768 * c = M + b + w) (hw : w < 32768) : ((lN u - lN M) + -lN b) >>> (Int32.toInt64 15 &&& 63) = -lN c := by
  refine Int64.toInt_inj.mp ?_
  rw [l_shr _ _ (d := 15) (by decide +kernel), l_dig_toInt hu hb hM, lneg_toInt (by omega), Int.shiftRight_eq_div_pow]
  show ((u : Int) - M - b) / 32768 = -(c : Int)
  omega
/-- the row after digits i .. i + k are new -/
def sgN (D w : Nat → Nat) (i j z : Nat) : Nat := if i ≤ z ∧ z < i + j then w (z - i) else D z
theorem sgN_lt {D w : Nat → Nat} {i j : Nat} (hD : ∀ z, D z < 32768) (hw : ∀ z, w z < 32768) (z : Nat) : sgN D w i j z < 32768 := by
  unfold sgN
  by_cases h : i ≤ z ∧ z < i + j
  · rw [if_pos h]; exact hw _
  · rw [if_neg h]; exact hD z
theorem sgN_step {D w : Nat → Nat} {i j z : Nat} : sgN D w i (j + 1) z = if z = i + j then w j else sgN D w i j z := by
  unfold sgN
  by_cases h : z = i + j
  · rw [if_pos h, if_pos (by omega), h, Nat.add_sub_cancel_left]
  · rw [if_neg h]
    by_cases h2 : i ≤ z ∧ z < i + j
    · rw [if_pos h2, if_pos (by omega)]
    · rw [if_neg h2, if_neg (by omega)]
theorem sgN_0 {D w : Nat → Nat} {i z : Nat} : sgN D w i 0 z = D z := if_neg (by omega)
theorem sgN_sg {D w w2 : Nat → Nat} {i j k z : Nat} (h : j ≤ k) : sgN (sgN D w i k) w2 i j z = if i ≤ z ∧ z < i + j then w2 (z - i) else sgN D w i k z := rfl
section OTO
variable {sp : ox_E} {d mr sr : Nat} {S : ox_St} {Q : ox_Q} {x : Nat}
theorem s_12_83 {E : ox_E} (hE : ox_mono E) {x3 x5 : Int64} {D v : Nat → Nat} {i k : Nat} (hk2 : k ≤ 16) (hi : i + k < 34) : ∀ (r j : Nat) (S : ox_St), j + r = k + 1 → oCal S x → (∀ z, D z < 32768) → (∀ z, v z < 32768) → (∀ z, z < 18 → S.rI (x + 2) z = nI (v z)) → (∀ z, z < 34 → S.rI (x + 1) z = nI (sgN D (wS (fun z => D (i + z)) v) i j z)) → (∀ S', oBut (x + 1) S S' → (∀ z, z < 34 → S'.rI (x + 1) z = nI (sgN D (wS (fun z => D (i + z)) v) i (k + 1) z)) → Q (some (.inl (Int64.toInt32 x3 - 1))) S') → c_12_83 E x (nI i) (nI k) x3 x5 (nI (cS (fun z => D (i + z)) v j)) (nI j) S mr sr Q
  | 0, j, S, hj, hC, hD, hv, h2, h1, hQ => by
    obtain rfl : j = k + 1 := by omega
    exact f_12_83 hE ⟨fun _ => ⟨trivial, hQ S ⟨oAg.refl, rfl, rfl, rfl, rfl, rfl, rfl, rfl, rfl⟩ h1⟩, fun z => absurd (nI_lt (Nat.lt_succ_self k) (by omega)) z⟩
  | r + 1, j, S, hj, hC, hD, hv, h2, h1, hQ => by
    have hC' := hC
    obtain ⟨C1, ⟨C2, C3, C4⟩, ⟨C5, C6, C7⟩, -⟩ := hC'
    have hc := cS_le (f := fun z => D (i + z)) (g := v) (fun z => hD _) hv j
    have hDj : D (i + j) < 32768 := hD _
    have hvj := hv j
    have er : S.rI (x + 1) (i + j) = nI (D (i + j)) := by
      rw [h1 _ (by omega)]
      unfold sgN
      rw [if_neg (by omega)]
    have e3 : nI (D (i + j) + v j + cS (fun z => D (i + z)) v j) &&& 32767 = nI (wS (fun z => D (i + z)) v j) := and_nI _
    have e4 : nI (D (i + j) + v j + cS (fun z => D (i + z)) v j) >>> (15 &&& 31) = nI (cS (fun z => D (i + z)) v (j + 1)) := pk_shrN (by omega) _ 15 (by decide)
    refine f_12_83 hE ?_
    unfold q_12_83
    rw [C1, C2, C3, C4, C5, C6, C7, nI_add i j, nI_clamp (n := i + j) (by omega), nI_clamp (n := j) (by omega), er, h2 j (by omega), nI_add, nI_add, nI_1]
    refine ⟨fun z => absurd z (nI_nlt (by omega) (by omega)), fun _ => ⟨rfl, rfl, vp_in_nI (by omega) (by decide), rfl, rfl, vp_in_nI (by omega) (by decide), rfl, rfl, vp_in_nI (by omega) (by decide), ?_⟩⟩
    rw [e3, e4]
    show c_12_83 E x (nI i) (nI k) x3 x5 (nI (cS (fun z => D (i + z)) v (j + 1))) (nI (j + 1)) (S.wI (x + 1) (i + j) (nI (wS (fun z => D (i + z)) v j))) mr sr Q
    refine s_12_83 hE hk2 hi r (j + 1) _ (by omega) hC hD hv (fun z hz => ?_) (fun z hz => ?_) (fun S' q1 q2 => hQ S' ?_ q2)
    · rw [or_wI_rI, if_neg (fun y => by omega)]; exact h2 z hz
    · rw [or_wI_rI, sgN_step]
      by_cases z1 : z = i + j
      · rw [if_pos ⟨rfl, z1⟩, if_pos z1]
      · rw [if_neg (fun y => z1 y.2), if_neg z1]; exact h1 z hz
    · obtain ⟨b1, b2, b3, b4, b5, b6, b7, b8, b9⟩ := q1
      exact ⟨(oAg_wI (fun z => z rfl)).trans b1, b2, b3, b4, b5, b6, b7, b8, b9⟩
theorem s_12_6 {E : ox_E} (hE : ox_mono E) {D v : Nat → Nat} {i k y : Nat} (hk2 : k ≤ 16) (hi : i + k < 34) (hy : y ≤ 32768) : ∀ (r j : Nat) (S : ox_St), j + r = k + 1 → oCal S x → (∀ z, D z < 32768) → (∀ z, v z < 32768) → (∀ z, z < 18 → S.rI (x + 2) z = nI (v z)) → (∀ z, z < 34 → S.rI (x + 1) z = nI (sgN D (wT y (fun z => D (i + z)) v) i j z)) → (∀ S', oBut (x + 1) S S' → (∀ z, z < 34 → S'.rI (x + 1) z = nI (sgN D (wT y (fun z => D (i + z)) v) i (k + 1) z)) → (cT y (fun z => D (i + z)) v (k + 1) = 0 → Q (some (.inl (nI y))) S') ∧ (¬ cT y (fun z => D (i + z)) v (k + 1) = 0 → ∀ x5, c_12_83 E x (nI i) (nI k) (lN y) x5 0 0 S' mr sr Q)) → c_12_6 E x (nI i) (nI k) (lN y) (-lN (cT y (fun z => D (i + z)) v j)) (nI j) S mr sr Q
  | 0, j, S, hj, hC, hD, hv, h2, h1, hQ => by
    obtain rfl : j = k + 1 := by omega
    have hc := cT_le (u := fun z => D (i + z)) hy hv (k + 1)
    obtain ⟨g1, g2⟩ := hQ S ⟨oAg.refl, rfl, rfl, rfl, rfl, rfl, rfl, rfl, rfl⟩ h1
    have eq : lg_cmp (-lN (cT y (fun z => D (i + z)) v (k + 1))) 0 < 0 ↔ ¬ cT y (fun z => D (i + z)) v (k + 1) = 0 := by
      rw [lg_cmp_lt, Int64.lt_iff_toInt_lt, lneg_toInt (by omega), show (0 : Int64).toInt = 0 from rfl]
      omega
    refine f_12_6 hE ⟨fun _ => ⟨fun z => g2 (eq.mp z) _, fun z => ⟨trivial, ?_⟩⟩, fun z => absurd (nI_lt (Nat.lt_succ_self k) (by omega)) z⟩
    rw [lN_i]
    exact g1 (Decidable.not_not.mp fun w => z (eq.mpr w))
  | r + 1, j, S, hj, hC, hD, hv, h2, h1, hQ => by
    have hC' := hC
    obtain ⟨C1, ⟨C2, C3, C4⟩, ⟨C5, C6, C7⟩, -⟩ := hC'
    have hb := cT_le (u := fun z => D (i + z)) hy hv j
    have hb1 := cT_le (u := fun z => D (i + z)) hy hv (j + 1)
    have hDj : D (i + j) < 32768 := hD _
    have hvj := hv j
    have hM := yv_le hy hvj
    obtain ⟨w1, w2⟩ := wT_eq (y := y) (u := fun z => D (i + z)) (v := v) (fun z => hD _) j
    have er : S.rI (x + 1) (i + j) = nI (D (i + j)) := by
      rw [h1 _ (by omega)]
      unfold sgN
      rw [if_neg (by omega)]
    have e3 := l_and (u := D (i + j)) hb hM w1 w2
    have e4 := l_sh (u := D (i + j)) hDj hb hM hb1 w1 w2
    refine f_12_6 hE ?_
    unfold q_12_6
    rw [C1, C2, C3, C4, C5, C6, C7, nI_add i j, nI_clamp (n := i + j) (by omega), nI_clamp (n := j) (by omega), er, h2 j (by omega), nI_l (n := D (i + j)) (by omega), nI_l (n := v j) (by omega), lN_mul, nI_1]
    refine ⟨fun z => absurd z (nI_nlt (by omega) (by omega)), fun _ => ⟨rfl, rfl, vp_in_nI (by omega) (by decide), rfl, rfl, vp_in_nI (by omega) (by decide), rfl, rfl, vp_in_nI (by omega) (by decide), ?_⟩⟩
    rw [e3, e4]
    show c_12_6 E x (nI i) (nI k) (lN y) (-lN (cT y (fun z => D (i + z)) v (j + 1))) (nI (j + 1)) (S.wI (x + 1) (i + j) (nI (wT y (fun z => D (i + z)) v j))) mr sr Q
    refine s_12_6 hE hk2 hi hy r (j + 1) _ (by omega) hC hD hv (fun z hz => ?_) (fun z hz => ?_) (fun S' q1 q2 => hQ S' ?_ q2)
    · rw [or_wI_rI, if_neg (fun y => by omega)]; exact h2 z hz
    · rw [or_wI_rI, sgN_step]
      by_cases z1 : z = i + j
      · rw [if_pos ⟨rfl, z1⟩, if_pos z1]
      · rw [if_neg (fun y => z1 y.2), if_neg z1]; exact h1 z hz
    · obtain ⟨b1, b2, b3, b4, b5, b6, b7, b8, b9⟩ := q1
      exact ⟨(oAg_wI (fun z => z rfl)).trans b1, b2, b3, b4, b5, b6, b7, b8, b9⟩
theorem wT_lt {y : Nat} {u v : Nat → Nat} (hu : ∀ j, u j < 32768) (j : Nat) : wT y u v j < 32768 := (wT_eq hu j).2
theorem wS_lt (f g : Nat → Nat) (j : Nat) : wS f g j < 32768 := Nat.mod_lt _ (by decide)
theorem wS_dva {f g : Nat → Nat} (n : Nat) : dv (wS f g) n + cS f g n * 32768 ^ n = dv f n + dv g n := dv_add (c := cS f g) rfl n (fun i _ => (Nat.mod_add_div _ _).symm)
/-- takeOff -/
theorem s_12 (hsp : ox_mono sp) {D v : Nat → Nat} {i k y : Nat} (hC : oCal S x) (hr : oDv S x D v) (hk2 : k ≤ 16) (hi : i + k < 34) (hvk : v k = 0) (hV : 0 < dv v k) (hW : dv (fun z => D (i + z)) (k + 1) < dv v k * 32768) (hy1 : dv (fun z => D (i + z)) (k + 1) / dv v k ≤ y) (hy2 : y ≤ dv (fun z => D (i + z)) (k + 1) / dv v k + 1)
    (hQ : ∀ S' w, oBut (x + 1) S S' → (∀ z, w z < 32768) → dv w (k + 1) = dv (fun z => D (i + z)) (k + 1) % dv v k → (∀ z, z < 34 → S'.rI (x + 1) z = nI (sgN D w i (k + 1) z)) → Q (some (.inl (nI (dv (fun z => D (i + z)) (k + 1) / dv v k)))) S') : ox_M sp (d + 1) 12 [.inr (.inr x), .inl (nI i), .inl (nI k), .inr (.inl (lN y))] mr sr S Q := by
  have hE : ox_mono (ox_M sp d) := ox_M_mono hsp _
  obtain ⟨r1, r2, r3, r4⟩ := hr
  have hu : ∀ z, (fun z => D (i + z)) z < 32768 := fun z => r2 _
  have hq : dv (fun z => D (i + z)) (k + 1) / dv v k < 32768 := Nat.div_lt_of_lt_mul hW
  have eV : dv v (k + 1) = dv v k := by
    show dv v k + v k * 32768 ^ k = dv v k
    rw [hvk, Nat.zero_mul, Nat.add_zero]
  have hVlt : dv v k < 32768 ^ (k + 1) := by rw [← eV]; exact dv_lt (k + 1) (fun _ _ => r4 _)
  have eT := wT_dv (y := y) (v := v) hu (k + 1)
  have hwl : dv (wT y (fun z => D (i + z)) v) (k + 1) < 32768 ^ (k + 1) := dv_lt (k + 1) (fun _ _ => wT_lt hu _)
  rw [eV] at eT
  have hdm := Nat.div_add_mod (dv (fun z => D (i + z)) (k + 1)) (dv v k)
  have hmd := Nat.mod_lt (dv (fun z => D (i + z)) (k + 1)) hV
  refine f_12 hsp ?_
  suffices hh : c_12_6 (ox_M sp d) x (nI i) (nI k) (lN y) (-lN (cT y (fun z => D (i + z)) v 0)) (nI 0) S mr sr Q by
    have e0 : (-lN (cT y (fun z => D (i + z)) v 0) : Int64) = 0 := by show (-lN 0 : Int64) = 0; decide
    rw [e0] at hh
    exact hh
  refine s_12_6 hE hk2 hi (by omega) (k + 1) 0 S (Nat.zero_add _) hC r2 r4 r3 (fun z hz => by rw [sgN_0]; exact r1 z hz) (fun S1 b1 w1 => ⟨fun h0 => ?_, fun h0 x5 => ?_⟩)
  · -- nothing is borrowed: the guess is right
    rw [h0, Nat.zero_mul, Nat.add_zero] at eT
    have hyq : y = dv (fun z => D (i + z)) (k + 1) / dv v k := Nat.le_antisymm ((Nat.le_div_iff_mul_le hV).mpr (by omega)) hy1
    have := hQ S1 _ b1 (wT_lt hu) ?_ w1
    · rw [← hyq] at this; exact this
    · rw [← hyq, Nat.mul_comm] at hdm
      omega
  · -- one too much: the divisor is added again
    have hyq : y = dv (fun z => D (i + z)) (k + 1) / dv v k + 1 := by
      refine Nat.le_antisymm hy2 (Nat.not_le.mp fun hle => ?_)
      have e1 : y * dv v k ≤ dv (fun z => D (i + z)) (k + 1) := Nat.le_trans (Nat.mul_le_mul_right _ hle) (Nat.div_mul_le_self _ _)
      have e2 : 32768 ^ (k + 1) ≤ cT y (fun z => D (i + z)) v (k + 1) * 32768 ^ (k + 1) := Nat.le_mul_of_pos_left _ (Nat.pos_of_ne_zero h0)
      omega
    have hyV : y * dv v k = dv v k * (dv (fun z => D (i + z)) (k + 1) / dv v k) + dv v k := by
      rw [hyq, Nat.add_mul, Nat.one_mul, Nat.mul_comm]
    have hc1 : cT y (fun z => D (i + z)) v (k + 1) = 1 := by
      refine Nat.le_antisymm (Nat.le_of_lt_succ (Nat.not_le.mp fun hle => ?_)) (Nat.pos_of_ne_zero h0)
      have e2 : 2 * 32768 ^ (k + 1) ≤ cT y (fun z => D (i + z)) v (k + 1) * 32768 ^ (k + 1) := Nat.mul_le_mul_right _ hle
      omega
    rw [hc1, Nat.one_mul] at eT
    have hd' : ∀ z, sgN D (wT y (fun z => D (i + z)) v) i (k + 1) z < 32768 := sgN_lt r2 (wT_lt hu)
    have hC1 : oCal S1 x := hC.cw (oCw_but (x := x) b1 (Nat.le_refl _) (by omega))
    have r3' : ∀ z, z < 18 → S1.rI (x + 2) z = nI (v z) := fun z hz => by
      obtain ⟨-, -, -, -, -, g6, -⟩ := b1.1 (x + 2) (by omega)
      rw [g6 z]; exact r3 z hz
    have eseg : dv (fun z => sgN D (wT y (fun z => D (i + z)) v) i (k + 1) (i + z)) (k + 1) = dv (wT y (fun z => D (i + z)) v) (k + 1) := dv_congr _ (fun j hj => by
      show sgN D (wT y (fun z => D (i + z)) v) i (k + 1) (i + j) = _
      unfold sgN
      rw [if_pos (by omega), Nat.add_sub_cancel_left])
    have eA := wS_dva (f := fun z => sgN D (wT y (fun z => D (i + z)) v) i (k + 1) (i + z)) (g := v) (k + 1)
    have hwl2 : dv (wS (fun z => sgN D (wT y (fun z => D (i + z)) v) i (k + 1) (i + z)) v) (k + 1) < 32768 ^ (k + 1) := dv_lt (k + 1) (fun _ _ => wS_lt _ _ _)
    rw [eseg, eV] at eA
    show c_12_83 (ox_M sp d) x (nI i) (nI k) (lN y) x5 (nI (cS (fun z => sgN D (wT y (fun z => D (i + z)) v) i (k + 1) (i + z)) v 0)) (nI 0) S1 mr sr Q
    refine s_12_83 hE hk2 hi (D := sgN D (wT y (fun z => D (i + z)) v) i (k + 1)) (k + 1) 0 S1 (Nat.zero_add _) hC1 hd' r4 r3' (fun z hz => by rw [sgN_0]; exact w1 z hz) (fun S2 b2 w2 => ?_)
    have hb : oBut (x + 1) S S2 := by
      obtain ⟨p1, p2, p3, p4, p5, p6, p7, p8, p9⟩ := b1
      obtain ⟨h1, h2, h3, h4, h5, h6, h7, h8, h9⟩ := b2
      exact ⟨p1.trans h1, h2.trans p2, h3.trans p3, h4.trans p4, h5.trans p5, h6.trans p6, h7.trans p7, h8.trans p8, h9.trans p9⟩
    have eq : Int64.toInt32 (lN y) - 1 = nI (dv (fun z => D (i + z)) (k + 1) / dv v k) := by
      rw [lN_i, hyq, nI_pred]
    rw [eq]
    refine hQ S2 (wS (fun z => sgN D (wT y (fun z => D (i + z)) v) i (k + 1) (i + z)) v) hb (wS_lt _ _) ?_ (fun z hz => ?_)
    · have hle : cS (fun z => sgN D (wT y (fun z => D (i + z)) v) i (k + 1) (i + z)) v (k + 1) ≤ 1 := cS_le (fun z => hd' _) r4 _
      rcases Nat.le_one_iff_eq_zero_or_eq_one.mp hle with hc | hc
      · rw [hc, Nat.zero_mul, Nat.add_zero] at eA
        omega
      · rw [hc, Nat.one_mul] at eA
        omega
    · rw [w2 z hz]
      congr 1
      unfold sgN
      by_cases hz2 : i ≤ z ∧ z < i + (k + 1)
      · rw [if_pos hz2, if_pos hz2]
      · rw [if_neg hz2, if_neg hz2, if_neg hz2]
end OTO
