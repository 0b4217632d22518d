/-! the quotient's digits are guessed by the highest digits -/
/-- the guess: never too small, at most one too large -/
theorem gs_lo {W V P L vl hd t h s q D R : Nat} (eW : W = L + P * (t + 32768 * hd)) (hL : L < P) (eV : V = vl + P * (s + 32768 * h)) (hq : q * V ≤ W) (e : D * h + R = hd) (hc : R * 32768 + t < D * s) : q < D := by
  refine Nat.not_le.mp fun hle => ?_
  have h1 : D * V ≤ W := Nat.le_trans (Nat.mul_le_mul_right _ hle) hq
  have h2 : D * (P * (s + 32768 * h)) ≤ D * V := Nat.mul_le_mul_left _ (by omega)
  have h3 : D * (P * (s + 32768 * h)) = P * (D * s + 32768 * (D * h)) := by
    rw [Nat.mul_left_comm, Nat.mul_add, Nat.mul_left_comm D 32768 h]
  have h4 : P * (t + 1 + 32768 * hd) ≤ P * (D * s + 32768 * (D * h)) := Nat.mul_le_mul_left _ (by omega)
  have h5 : P * (t + 1 + 32768 * hd) = P * (t + 32768 * hd) + P := by
    rw [show t + 1 + 32768 * hd = (t + 32768 * hd) + 1 by omega, Nat.mul_add, Nat.mul_one]
  omega
theorem gs_hi {W V P L vl hd t h s D R : Nat} (eW : W = L + P * (t + 32768 * hd)) (eV : V = vl + P * (s + 32768 * h)) (hv : vl < P) (h0 : 0 < h) (e : D * h + R = hd) (hD : D ≤ 32768) (hc : D * s ≤ R * 32768 + t) : D ≤ W / V + 1 := by
  have hP : 0 < P := by omega
  have hV0 : 0 < V := by
    rw [eV]
    have : 0 < P * (s + 32768 * h) := Nat.mul_pos hP (by omega)
    omega
  have h3 : D * (P * (s + 32768 * h)) = P * (D * s + 32768 * (D * h)) := by
    rw [Nat.mul_left_comm, Nat.mul_add, Nat.mul_left_comm D 32768 h]
  have h4 : P * (D * s + 32768 * (D * h)) ≤ P * (t + 32768 * hd) := Nat.mul_le_mul_left _ (by omega)
  have h5 : D * V = D * vl + D * (P * (s + 32768 * h)) := by rw [eV, Nat.mul_add]
  have h6 : D * vl ≤ 32768 * P := Nat.mul_le_mul hD (Nat.le_of_lt hv)
  have h7 : P * 32768 ≤ P * (s + 32768 * h) := Nat.mul_le_mul_left _ (by omega)
  have h8 : D * V ≤ W + V := by omega
  by_cases hD0 : D = 0
  · rw [hD0]; exact Nat.zero_le _
  · have h9 : (D - 1) * V ≤ W := by
      rw [Nat.sub_mul, Nat.one_mul]
      omega
    have := (Nat.le_div_iff_mul_le hV0).mpr h9
    omega
/-- the first guess -/
theorem gs_one {W V P L vl hd t h s : Nat} (eW : W = L + P * (t + 32768 * hd)) (hL : L < P) (ht : t < 32768) (eV : V = vl + P * (s + 32768 * h)) (hv : vl < P) (hs : s < 32768) (hh : 16384 ≤ h) (hWV : W < V * 32768) : W / V ≤ hd / h ∧ hd / h ≤ 32769 := by
  have hP : 0 < P := by omega
  refine ⟨(Nat.le_div_iff_mul_le (by omega)).mpr (Nat.not_lt.mp fun hlt => ?_), ?_⟩
  · have h1 := Nat.div_mul_le_self W V
    generalize W / V = q at h1 hlt
    have h2 : q * (P * (s + 32768 * h)) ≤ q * V := Nat.mul_le_mul_left _ (by omega)
    have h3 : q * (P * (s + 32768 * h)) = P * (q * s + 32768 * (q * h)) := by
      rw [Nat.mul_left_comm, Nat.mul_add, Nat.mul_left_comm q 32768 h]
    have h4 : P * (t + 1 + 32768 * hd) ≤ P * (q * s + 32768 * (q * h)) := Nat.mul_le_mul_left _ (by omega)
    have h5 : P * (t + 1 + 32768 * hd) = P * (t + 32768 * hd) + P := by
      rw [show t + 1 + 32768 * hd = (t + 32768 * hd) + 1 by omega, Nat.mul_add, Nat.mul_one]
    omega
  · refine Nat.le_of_lt_succ (Nat.div_lt_of_lt_mul ?_)
    have h1 : V ≤ P * (s + 1 + 32768 * h) := by
      rw [show s + 1 + 32768 * h = (s + 32768 * h) + 1 by omega, Nat.mul_add, Nat.mul_one]
      omega
    have h2 : P * (32768 * hd) ≤ W := by
      rw [eW, Nat.mul_add]
      omega
    have h3 : P * (32768 * hd) < P * (32768 * (s + 1 + 32768 * h)) := by
      refine Nat.lt_of_le_of_lt h2 (Nat.lt_of_lt_of_le hWV ?_)
      rw [Nat.mul_left_comm, Nat.mul_comm]
      exact Nat.mul_le_mul_left _ h1
    have h4 : 32768 * hd < 32768 * (s + 1 + 32768 * h) := Nat.lt_of_mul_lt_mul_left h3
    have h5 : h * 32770 = 32768 * h + 2 * h := by omega
    show hd < h * 32770
    omega
section OGS
variable {sp : ox_E} {d mr sr : Nat} {S : ox_St} {Q : ox_Q} {x : Nat}
/-- one turn of the guess -/
theorem s_11_st {E : ox_E} (hE : ox_mono E) {x1 x2 : Int32} {x5 : Int64} {h s t D R j : Nat} (hh : h < 32768) (hs : s < 32768) (ht : t < 32768) (hD : D ≤ 32769) (hR : R < 131072) (hj : j < 2) (hf : 32768 ≤ R → c_11_160 E x x1 x2 (lN h) x5 (lN s) (lN t) (lN D) (lN R) (nI j) S mr sr Q)
    (hd : R < 32768 → (32768 ≤ D ∨ R * 32768 + t < D * s) → c_11_101 E x x1 x2 (lN h) x5 (lN s) (lN t) (lN (D - 1)) (lN (R + h)) (nI (j + 1)) S mr sr Q) (he : R < 32768 → D < 32768 → D * s ≤ R * 32768 + t → c_11_101 E x x1 x2 (lN h) x5 (lN s) (lN t) (lN D) (lN R) (nI (j + 1)) S mr sr Q) : c_11_101 E x x1 x2 (lN h) x5 (lN s) (lN t) (lN D) (lN R) (nI j) S mr sr Q := by
  have hDs : D * s ≤ 32769 * 32768 := Nat.mul_le_mul hD (by omega)
  have g1 : ∀ y : Nat, y < 2 ^ 63 → ((0 : Int32) ≤ lg_cmp (lN y) 32768 ↔ 32768 ≤ y) := fun y hy => by
    rw [lg_cmp_ge, show (32768 : Int64) = lN 32768 from rfl, pk_lLE (by decide) hy]
  have g2 : lg_cmp (lN D * lN s) ((lN R <<< (Int32.toInt64 15 &&& 63)) + lN t) ≤ 0 ↔ D * s ≤ R * 32768 + t := by
    rw [lg_cmp_le, show Int32.toInt64 15 = (nI 15).toInt64 from rfl, wb_shl _ (by decide), lN_mul, lN_add, pk_lLE (by omega) (by omega)]
  have dec : R < 32768 → (32768 ≤ D ∨ R * 32768 + t < D * s) → c_11_142 E x x1 x2 (lN h) x5 (lN s) (lN t) (lN D) (lN R) (nI j) S mr sr Q := by
    intro z1 z2
    have hD1 : 1 ≤ D := by
      rcases z2 with z2 | z2
      · omega
      · refine Nat.pos_of_ne_zero fun e => ?_
        rw [e, Nat.zero_mul] at z2
        omega
    have := hd z1 z2
    refine f_11_142 hE ?_
    show c_11_154 E x x1 x2 (lN h) x5 (lN s) (lN t) (lN D - 1) (lN R + lN h) (nI j) S mr sr Q
    rw [show (1 : Int64) = lN 1 from rfl, lN_sub hD1, lN_add]
    refine f_11_154 hE ?_
    show c_11_101 E x x1 x2 (lN h) x5 (lN s) (lN t) (lN (D - 1)) (lN (R + h)) (nI j + 1) S mr sr Q
    rw [nI_1]
    exact this
  refine f_11_101 hE ⟨fun z => absurd z (nI_ge (b := 2) hj (by decide)), fun _ => ⟨fun z => hf ((g1 R (by omega)).mp z), fun z => ?_⟩⟩
  have z' : R < 32768 := Nat.not_le.mp fun y => z ((g1 R (by omega)).mpr y)
  refine ⟨fun y => dec z' (Or.inl ((g1 D (by omega)).mp y)), fun y => ?_⟩
  have y' : D < 32768 := Nat.not_le.mp fun w => y ((g1 D (by omega)).mpr w)
  refine ⟨fun w => f_11_154 hE ?_, fun w => dec z' (Or.inr (Nat.not_le.mp fun v => w (g2.mpr v)))⟩
  show c_11_101 E x x1 x2 (lN h) x5 (lN s) (lN t) (lN D) (lN R) (nI j + 1) S mr sr Q
  rw [nI_1]
  exact he z' y' (g2.mp w)
/-- the guess, by its two bounds -/
theorem s_11_84 {E : ox_E} (hE : ox_mono E) {x1 x2 : Int32} {h s t hd q : Nat} (hh0 : 16384 ≤ h) (hh : h < 32768) (hs : s < 32768) (ht : t < 32768) (hhd : hd < 1073741824) (h0 : q ≤ hd / h ∧ hd / h ≤ 32769)
    (H1 : ∀ D R, D * h + R = hd → (32768 ≤ D ∨ R * 32768 + t < D * s) → q < D) (H2 : ∀ D R, D * h + R = hd → D ≤ 32768 → D * s ≤ R * 32768 + t → D ≤ q + 1) (hQ : ∀ y, q ≤ y → y ≤ q + 1 → Q (some (.inr (.inl (lN y)))) S) : c_11_84 E x x1 x2 (lN h) (lN hd) (lN s) (lN t) S mr sr Q := by
  have fin : ∀ D R (x15 : Int32), D * h + R = hd → q ≤ D → D ≤ 32768 → D * s ≤ R * 32768 + t → c_11_160 E x x1 x2 (lN h) (lN hd) (lN s) (lN t) (lN D) (lN R) x15 S mr sr Q :=
    fun D R x15 e1 e2 e3 e4 => f_11_160 hE ⟨rfl, hQ D e2 (H2 D R e1 e3 e4)⟩
  have big : ∀ D R, D ≤ 32768 → 32768 ≤ R → D * s ≤ R * 32768 + t := fun D R e1 e2 => by
    have : D * s ≤ 32768 * 32768 := Nat.mul_le_mul e1 (by omega)
    omega
  have sub1 : ∀ D R, 1 ≤ D → D * h + R = hd → (D - 1) * h + (R + h) = hd := fun D R e1 e2 => by
    have : D * h = (D - 1) * h + h := by
      obtain ⟨c, rfl⟩ : ∃ c, D = c + 1 := ⟨D - 1, by omega⟩
      rw [Nat.add_sub_cancel, Nat.add_mul, Nat.one_mul]
    omega
  -- the end of the loop
  have two : ∀ D R, D * h + R = hd → q ≤ D → D ≤ 32768 → D * s ≤ R * 32768 + t → c_11_101 E x x1 x2 (lN h) (lN hd) (lN s) (lN t) (lN D) (lN R) (nI 2) S mr sr Q :=
    fun D R e1 e2 e3 e4 => f_11_101 hE ⟨fun _ => fin D R _ e1 e2 e3 e4, fun z => absurd (by decide) z⟩
  have one : ∀ D R, D * h + R = hd → q ≤ D → D ≤ 32768 → R < 65536 → (D < 32768 ∧ D * s ≤ R * 32768 + t ∨ h ≤ R) → c_11_101 E x x1 x2 (lN h) (lN hd) (lN s) (lN t) (lN D) (lN R) (nI 1) S mr sr Q := by
    intro D R e1 e2 e3 e4 e5
    refine s_11_st hE hh hs ht (by omega) (by omega) (by decide) (fun z => fin D R _ e1 e2 e3 (big D R e3 z)) (fun z1 z2 => ?_) (fun _ z2 z3 => two D R e1 e2 e3 z3)
    have hq := H1 D R e1 z2
    have hR : h ≤ R := e5.resolve_left (fun w => by omega)
    exact two (D - 1) (R + h) (sub1 D R (by omega) e1) (by omega) (by omega) (big _ _ (by omega) (by omega))
  have e0 : hd / h * h + hd % h = hd := by rw [Nat.mul_comm]; exact Nat.div_add_mod hd h
  have hr : hd % h < h := Nat.mod_lt _ (by omega)
  refine f_11_84 hE ?_
  unfold q_11_84
  have en : ¬ lN h = 0 := fun e => by
    rw [show (0 : Int64) = lN 0 from rfl, pk_lEQ (by omega) (by decide)] at e
    omega
  refine ⟨en, en, ?_⟩
  show c_11_101 E x x1 x2 (lN h) (lN hd) (lN s) (lN t) (lN hd / lN h) (lN hd - lN hd / lN h * lN h) (nI 0) S mr sr Q
  rw [pk_lRem (by omega) (by omega) (by omega), pk_lDiv (by omega) (by omega) (by omega)]
  generalize hd / h = D at h0 e0
  generalize hd % h = R at hr e0
  refine s_11_st hE hh hs ht h0.2 (by omega) (by decide) (fun z => absurd z (by omega)) (fun z1 z2 => ?_) (fun z1 z2 z3 => one D R e0 h0.1 (by omega) (by omega) (Or.inl ⟨z2, z3⟩))
  have hq := H1 D R e0 z2
  exact one (D - 1) (R + h) (sub1 D R (by omega) e0) (by omega) (by omega) (by omega) (Or.inr (by omega))
/-- the rows of a division: the upper one, the lower one -/
def oDv (S : ox_St) (x : Nat) (D v : Nat → Nat) : Prop := (∀ z, z < 34 → S.rI (x + 1) z = nI (D z)) ∧ (∀ z, D z < 32768) ∧ (∀ z, z < 18 → S.rI (x + 2) z = nI (v z)) ∧ ∀ z, v z < 32768
/-- guess -/
theorem s_11 (hsp : ox_mono sp) {D v : Nat → Nat} {i k : Nat} (hC : oCal S x) (hr : oDv S x D v) (hk : 1 ≤ k) (hk2 : k ≤ 16) (hi : i + k < 34) (hv : 16384 ≤ v (k - 1)) (hW : dv (fun z => D (i + z)) (k + 1) < dv v k * 32768)
    (hQ : ∀ y, dv (fun z => D (i + z)) (k + 1) / dv v k ≤ y → y ≤ dv (fun z => D (i + z)) (k + 1) / dv v k + 1 → Q (some (.inr (.inl (lN y)))) S) : ox_M sp (d + 1) 11 [.inr (.inr x), .inl (nI i), .inl (nI k)] mr sr S Q := by
  have hE : ox_mono (ox_M sp d) := ox_M_mono hsp _
  obtain ⟨C1, ⟨C2, C3, C4⟩, ⟨C5, C6, C7⟩, -⟩ := hC
  obtain ⟨r1, r2, r3, r4⟩ := hr
  have hb1 := r2 (i + k)
  have hb2 := r2 (i + k - 1)
  have hhv := r4 (k - 1)
  have ek1 : nI k - 1 = nI (k - 1) := pk_sub (b := 1) hk
  have ek2 : nI (i + k) - 1 = nI (i + k - 1) := pk_sub (b := 1) (by omega)
  have ew : (Int32.toInt64 (nI (D (i + k))) <<< (Int32.toInt64 15 &&& 63)) ||| Int32.toInt64 (nI (D (i + k - 1))) = lN (D (i + k) * 32768 + D (i + k - 1)) := by
    rw [nI_l (by omega), nI_l (by omega), show Int32.toInt64 15 = (nI 15).toInt64 from rfl, wb_shl _ (by decide)]
    exact g_or (k := 15) (p := 32768) rfl hb2 (by omega)
  refine f_11 hsp ?_
  unfold q_11
  rw [C1, C2, C3, C4, C5, C6, C7, nI_add i k, ek1, ek2, nI_clamp (n := k - 1) (by omega), nI_clamp (n := i + k) (by omega), nI_clamp (n := i + k - 1) (by omega), r1 _ hi, r1 (i + k - 1) (by omega), r3 (k - 1) (by omega), ew, nI_l (n := v (k - 1)) (by omega)]
  have en : ¬ lg_cmp (lN (v (k - 1))) 0 = 0 := fun e => by
    rw [lg_cmp_eq, show (0 : Int64) = lN 0 from rfl, pk_lEQ (by omega) (by decide)] at e
    omega
  refine ⟨rfl, rfl, vp_in_nI (by omega) (by decide), fun _ => ⟨rfl, rfl, vp_in_nI (by omega) (by decide), rfl, rfl, vp_in_nI (by omega) (by decide), fun z => ?_, fun z => ?_⟩, fun z => absurd z en⟩
  · have k1 : k = 1 := Nat.le_antisymm ((nI_leI (b := 1) (by omega) (by decide)).mp z) hk
    subst k1
    have eV : dv v 1 = v 0 := by show 0 + v 0 * 1 = v 0; omega
    have eW : dv (fun z => D (i + z)) 2 = D (i + 1) * 32768 + D i := by
      show 0 + D (i + 0) * 1 + D (i + 1) * 32768 ^ 1 = _
      rw [Nat.add_zero, Nat.pow_one]
      omega
    rw [eV, show (1 : Nat) + 1 = 2 from rfl, eW] at hQ hW
    rw [show i + 1 - 1 = i from rfl] at *
    have hv' : 16384 ≤ v 0 := hv
    have hhv' : v 0 < 32768 := hhv
    have hq : (D (i + 1) * 32768 + D i) / v 0 < 32768 := Nat.div_lt_of_lt_mul hW
    refine f_11_62 hE ⟨fun _ => ?_, fun y => absurd z y⟩
    refine s_11_84 hE (h := v 0) (s := 0) (t := 0) (hd := D (i + 1) * 32768 + D i) (q := (D (i + 1) * 32768 + D i) / v 0) hv' hhv' (by decide) (by decide) (by omega) ⟨Nat.le_refl _, by omega⟩ (fun D' R e1 e2 => ?_) (fun D' R e1 e2 e3 => ?_) hQ
    · rcases e2 with e2 | e2
      · omega
      · rw [Nat.mul_zero] at e2; omega
    · exact Nat.le_succ_of_le ((Nat.le_div_iff_mul_le (by omega)).mpr (by omega))
  · have k2 : 2 ≤ k := Nat.not_lt.mp fun y => z (nI_le (a := k) (b := 1) (by omega) (by decide))
    obtain ⟨c, rfl⟩ : ∃ c, k = c + 2 := ⟨k - 2, by omega⟩
    rw [show c + 2 - 1 = c + 1 from rfl, show i + (c + 2) - 1 = i + (c + 1) from rfl] at *
    have es : nI (c + 2) - 2 = nI c := pk_sub (b := 2) (by omega)
    have et : nI (i + (c + 2)) - 2 = nI (i + c) := pk_sub (b := 2) (by omega)
    have hsv := r4 c
    have htv := r2 (i + c)
    refine ⟨rfl, rfl, by rw [es]; exact vp_in_nI (by omega) (by decide), ?_⟩
    rw [es, nI_clamp (n := c) (by omega), r3 c (by omega), nI_l (by omega)]
    refine f_11_62 hE ⟨fun y => absurd y z, fun _ => ⟨by rw [C1]; rfl, by rw [C2, C3]; rfl, ?_, ?_⟩⟩
    · rw [C2, C4, nI_add, et]; exact vp_in_nI (by omega) (by decide)
    · rw [C2, nI_add, et, nI_clamp (n := i + c) (by omega), r1 (i + c) (by omega), nI_l (by omega)]
      have eV : dv v (c + 2) = dv v c + 32768 ^ c * (v c + 32768 * v (c + 1)) := by
        show dv v c + v c * 32768 ^ c + v (c + 1) * 32768 ^ (c + 1) = _
        rw [Nat.mul_add, Nat.pow_succ, Nat.mul_comm (v c), Nat.mul_comm (v (c + 1)), Nat.mul_assoc, Nat.add_assoc]
      have eW : dv (fun z => D (i + z)) (c + 2 + 1) = dv (fun z => D (i + z)) c + 32768 ^ c * (D (i + c) + 32768 * (D (i + (c + 2)) * 32768 + D (i + (c + 1)))) := by
        show dv (fun z => D (i + z)) c + D (i + c) * 32768 ^ c + D (i + (c + 1)) * 32768 ^ (c + 1) + D (i + (c + 2)) * 32768 ^ (c + 2) = _
        have p2 : (32768 : Nat) ^ (c + 2) = 32768 ^ c * (32768 * 32768) := by rw [show c + 2 = c + 1 + 1 from rfl, Nat.pow_succ, Nat.pow_succ, Nat.mul_assoc]
        rw [p2, Nat.pow_succ]
        generalize (32768 : Nat) ^ c = P
        rw [Nat.mul_add, Nat.mul_add 32768, Nat.mul_add, Nat.mul_comm (D (i + c)), Nat.mul_comm (D (i + (c + 1))), Nat.mul_assoc P 32768, Nat.mul_comm (D (i + (c + 2))) (P * (32768 * 32768)), Nat.mul_assoc P, Nat.mul_assoc 32768, Nat.mul_comm (D (i + (c + 2))) 32768]
        omega
      have hL : dv (fun z => D (i + z)) c < 32768 ^ c := dv_lt c (fun _ _ => r2 _)
      have hvl : dv v c < 32768 ^ c := dv_lt c (fun _ _ => r4 _)
      have hg := gs_one eW hL htv eV hvl hsv hv hW
      have hq : dv (fun z => D (i + z)) (c + 2 + 1) / dv v (c + 2) < 32768 := Nat.div_lt_of_lt_mul hW
      refine s_11_84 hE hv hhv hsv htv (by omega) hg (fun D' R e1 e2 => ?_) (fun D' R e1 e2 e3 => gs_hi eW eV hvl (by omega) e1 e2 e3) hQ
      rcases e2 with e2 | e2
      · omega
      · exact gs_lo eW hL eV (Nat.div_mul_le_self _ _) e1 e2
end OGS
