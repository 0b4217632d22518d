/-! the reference's calculations: divide, bit by bit -/
theorem dv_row0 {f w c : Nat → Nat} {a : Nat} : ∀ n, (∀ i, i < n → a * f i + c i = w i + 32768 * c (i + 1)) → dv w n + c n * 32768 ^ n = a * dv f n + c 0
  | 0, _ => by
    show 0 + c 0 * 1 = a * 0 + c 0
    omega
  | n + 1, h => by
    have ih := dv_row0 (f := f) (w := w) (c := c) (a := a) n (fun i hi => h i (by omega))
    have e := h n (by omega)
    show dv w n + w n * 32768 ^ n + c (n + 1) * 32768 ^ (n + 1) = a * (dv f n + f n * 32768 ^ n) + c 0
    have e2 : (a * f n + c n) * 32768 ^ n = w n * 32768 ^ n + c (n + 1) * 32768 ^ (n + 1) := by
      rw [e, Nat.add_mul, Nat.pow_succ, Nat.mul_comm 32768 (c (n + 1)), Nat.mul_assoc, Nat.mul_comm 32768]
    rw [Nat.mul_add, ← Nat.mul_assoc, Nat.add_assoc, ← e2, Nat.add_mul]
    omega
/-- doubling with a bit behind -/
def cB (R : Nat → Nat) (b : Nat) : Nat → Nat
  | 0 => b
  | j + 1 => (2 * R j + cB R b j) / 32768
def wB (R : Nat → Nat) (b j : Nat) : Nat := (2 * R j + cB R b j) % 32768
theorem cB_le {R : Nat → Nat} {b : Nat} (hb : b ≤ 1) : ∀ j, (∀ i, i < j → R i < 32768) → cB R b j ≤ 1
  | 0, _ => hb
  | j + 1, h => by
    have h1 := cB_le hb j (fun i hi => h i (by omega))
    have h2 := h j (by omega)
    show (2 * R j + cB R b j) / 32768 ≤ 1
    omega
theorem wB_dv {R : Nat → Nat} {b n : Nat} (h : 2 * dv R n + b < 32768 ^ n) : dv (wB R b) n = 2 * dv R n + b := by
  have e := dv_row0 (f := R) (w := wB R b) (c := cB R b) (a := 2) n (fun i _ => (Nat.mod_add_div _ _).symm)
  have e1 : cB R b 0 = b := rfl
  rw [e1] at e
  have h0 : cB R b n = 0 := by
    refine Nat.eq_zero_of_not_pos fun hp => ?_
    have : 32768 ^ n ≤ cB R b n * 32768 ^ n := Nat.le_mul_of_pos_left _ hp
    omega
  rw [h0, Nat.zero_mul] at e
  omega
theorem dv_small {f : Nat → Nat} {k : Nat} : ∀ n, dv f n < 32768 ^ k → ∀ i, k ≤ i → i < n → f i = 0
  | 0, _, i, _, hi => absurd hi (Nat.not_lt_zero i)
  | n + 1, h, i, h1, h2 => by
    have hs : dv f n + f n * 32768 ^ n < 32768 ^ k := h
    by_cases hin : i = n
    · subst hin
      refine Nat.eq_zero_of_not_pos fun hp => ?_
      have a1 : 32768 ^ i ≤ f i * 32768 ^ i := Nat.le_mul_of_pos_left _ hp
      have a2 : 32768 ^ k ≤ 32768 ^ i := Nat.pow_le_pow_right (by decide) h1
      omega
    · exact dv_small n (by omega) i h1 (by omega)
theorem dv_upd {f f' : Nat → Nat} {z e : Nat} : ∀ n, z < n → f' z = f z + e → (∀ i, i < n → i ≠ z → f' i = f i) → dv f' n = dv f n + e * 32768 ^ z
  | 0, h, _, _ => absurd h (Nat.not_lt_zero z)
  | n + 1, h, h1, h2 => by
    show dv f' n + f' n * 32768 ^ n = dv f n + f n * 32768 ^ n + e * 32768 ^ z
    by_cases hz : z = n
    · subst hz
      rw [h1, dv_congr (f := f') (g := f) z (fun i hi => h2 i (by omega) (by omega)), Nat.add_mul]
      omega
    · rw [dv_upd n (by omega) h1 (fun i hi => h2 i (by omega)), h2 n (by omega) (fun e => hz e.symm)]
      omega
/-- a bit of a number, taken out of its digit -/
theorem dv_bit {f : Nat → Nat} {n z r : Nat} (hf : ∀ i, i < n → f i < 32768) (hz : z < n) (hr : r < 15) : f z / 2 ^ r % 2 = dv f n / 2 ^ (15 * z + r) % 2 := by
  obtain ⟨k, rfl⟩ : ∃ k, n = z + (k + 1) := ⟨n - z - 1, by omega⟩
  have e1 := dv_app (f := f) (n := z) (k + 1)
  rw [dv_cons] at e1
  generalize dv (fun i => f (z + (i + 1))) k = B at e1
  have hlt : dv f z < 32768 ^ z := dv_lt z (fun i hi => hf i (by omega))
  have e2 : dv f (z + (k + 1)) / 32768 ^ z = f z + 32768 * B := by
    rw [e1, Nat.add_mul_div_left _ _ (Nat.pow_pos (by decide)), Nat.div_eq_of_lt hlt, Nat.zero_add]
    rfl
  have e3 : (2 : Nat) ^ (15 * z + r) = 32768 ^ z * 2 ^ r := by rw [Nat.pow_add, Nat.pow_mul]
  rw [e3, ← Nat.div_div_eq_div_mul, e2]
  have e4 : 32768 * B = 2 ^ r * (2 * (2 ^ (14 - r) * B)) := by
    have : (32768 : Nat) = 2 ^ r * (2 * 2 ^ (14 - r)) := by
      rw [← Nat.pow_succ', ← Nat.pow_add, show r + (14 - r).succ = 15 by omega]
    rw [← Nat.mul_assoc 2, ← Nat.mul_assoc, ← this]
  rw [e4, Nat.add_mul_div_left _ _ (Nat.pow_pos (by decide)), Nat.add_mul_mod_self_left]
/-- one bit more of a quotient and its rest -/
theorem div_bit {L V t bt : Nat} (hV : 0 < V) (hb : bt = L / 2 ^ t % 2) : L / 2 ^ t = 2 * (L / 2 ^ (t + 1)) + bt ∧ (2 * (L / 2 ^ (t + 1) % V) + bt < V → L / 2 ^ t % V = 2 * (L / 2 ^ (t + 1) % V) + bt ∧ L / 2 ^ t / V = 2 * (L / 2 ^ (t + 1) / V)) ∧ (V ≤ 2 * (L / 2 ^ (t + 1) % V) + bt → L / 2 ^ t % V = 2 * (L / 2 ^ (t + 1) % V) + bt - V ∧ L / 2 ^ t / V = 2 * (L / 2 ^ (t + 1) / V) + 1) := by
  have e : L / 2 ^ (t + 1) = L / 2 ^ t / 2 := by rw [Nat.pow_succ, Nat.div_div_eq_div_mul]
  have e1 : L / 2 ^ t = 2 * (L / 2 ^ (t + 1)) + bt := by rw [hb, e]; omega
  have hbt : bt ≤ 1 := by rw [hb]; omega
  generalize L / 2 ^ (t + 1) = X at e1
  generalize L / 2 ^ t = Y at e1
  have h1 := Nat.div_add_mod X V
  have h2 := Nat.mod_lt X hV
  have e2 : Y = V * (2 * (X / V)) + (2 * (X % V) + bt) := by
    rw [e1, ← Nat.mul_assoc, Nat.mul_comm V 2, Nat.mul_assoc]
    omega
  refine ⟨e1, fun h => ?_, fun h => ?_⟩
  · rw [e2]
    refine ⟨?_, ?_⟩
    · rw [Nat.mul_add_mod, Nat.mod_eq_of_lt h]
    · rw [Nat.mul_add_div hV, Nat.div_eq_of_lt h, Nat.add_zero]
  · have e3 : Y = V * (2 * (X / V) + 1) + (2 * (X % V) + bt - V) := by
      rw [e2, Nat.mul_add, Nat.mul_one]
      omega
    have h3 : 2 * (X % V) + bt - V < V := by omega
    rw [e3]
    refine ⟨?_, ?_⟩
    · rw [Nat.mul_add_mod, Nat.mod_eq_of_lt h3]
    · rw [Nat.mul_add_div hV, Nat.div_eq_of_lt h3, Nat.add_zero]
/-- only the row of the rest and its size change -/
def mRs (m : Nat) (S S' : ox_St) : Prop := mTmp m S S' ∧ (∀ F, F ≠ 116 → S'.I F m = S.I F m) ∧ (∀ a, a ≠ m + 29 → S'.rI a = S.rI a)
theorem mRs.refl {m : Nat} {S : ox_St} : mRs m S S := ⟨mTmp.refl, fun _ _ => rfl, fun _ _ => rfl⟩
theorem mRs.trans {m : Nat} {S S' U : ox_St} (h : mRs m S S') (g : mRs m S' U) : mRs m S U := ⟨h.1.trans g.1, fun F z => (g.2.1 F z).trans (h.2.1 F z), fun a z => (g.2.2 a z).trans (h.2.2 a z)⟩
theorem mRs_sI {m : Nat} {S : ox_St} {v : Int32} : mRs m S (S.sI 116 m v) := ⟨mTmp_sI (by decide) (by decide), fun F z => by rw [or_sI_I, if_neg (fun y => z y.1)], fun _ _ => rfl⟩
theorem mRs_wI {m i : Nat} {S : ox_St} {v : Int32} : mRs m S (S.wI (m + 29) i v) := ⟨mTmp_wI (by omega) (by omega), fun _ _ => rfl, fun a z => ox_u2_row _ _ z⟩
theorem mBoth.rs {S S' : ox_St} {m n k : Nat} {f g : Nat → Nat} {p q : Int32} (h : mBoth S m f n p g k q) (r : mRs m S S') : mBoth S' m f n p g k q := by
  obtain ⟨h1, h2, h3, h4, h5, h6⟩ := h
  obtain ⟨-, r2, r3⟩ := r
  exact ⟨fun j hj => by rw [r3 _ (by omega)]; exact h1 j hj, (r2 113 (by decide)).trans h2, (r2 117 (by decide)).trans h3, fun j hj => by rw [r3 _ (by omega)]; exact h4 j hj, (r2 114 (by decide)).trans h5, (r2 118 (by decide)).trans h6⟩
section OMD
variable {sp : ox_E} {d mr sr : Nat} {S : ox_St} {Q : ox_Q} {m ce : Nat} {f g : Nat → Nat} {n k u v : Nat} {p q : Int32}
theorem s_146_90 {E : ox_E} (hE : ox_mono E) {x1 : Int32} {R : Nat → Nat} {b : Nat} (hb : b ≤ 1) (hR : ∀ z, z < 18 → R z < 32768) : ∀ (r j : Nat) (S : ox_St), j + r = 18 → oML S m ce → (∀ z, z < 18 → S.rI (m + 29) z = nI (if z < j then wB R b z else R z)) → (∀ S' x2 x3, mRs m S S' → S'.I 116 m = nI 18 → (∀ z, z < 18 → S'.rI (m + 29) z = nI (wB R b z)) → c_146_138 E m x1 x2 x3 S' mr sr Q) → c_146_90 E m x1 (nI (cB R b j)) (nI j) S mr sr Q
  | 0, j, S, hj, h, hw, hQ => by
    refine f_146_90 hE ⟨fun _ => ⟨by rw [h.1]; rfl, hQ _ _ _ mRs_sI (if_pos ⟨rfl, rfl⟩) (fun z hz => ?_)⟩, fun z => absurd (nI_le (a := 18) (by omega) (by omega)) z⟩
    have := hw z hz
    rw [if_pos (by omega)] at this
    exact this
  | r + 1, j, S, hj, h, hw, hQ => by
    obtain ⟨d1, d2, d3⟩ := h.row (F := 112) (o := 29) (k := 15) (n := 40) (by decide +kernel)
    have hc := cB_le hb j (fun i hi => hR i (by omega))
    have hRj := hR j (by omega)
    have er : S.rI (m + 29) j = nI (R j) := by rw [hw j (by omega), if_neg (by omega)]
    have e2 : 2 * nI (R j) + nI (cB R b j) = nI (2 * R j + cB R b j) := by rw [show (2 : Int32) = nI 2 from rfl, pk_mul, nI_add]
    refine f_146_90 hE ?_
    unfold q_146_90
    rw [h.1, d1, d2, d3, nI_1, nI_clamp (n := j) (by omega), er, e2]
    refine ⟨fun z => absurd z (nI_ge (b := 18) (by omega) (by omega)), fun _ => ⟨rfl, rfl, vp_in_nI (by omega) (by decide), rfl, rfl, vp_in_nI (by omega) (by decide), ?_⟩⟩
    intro S1 w4
    have s1 : nI (2 * R j + cB R b j) &&& 32767 = nI (wB R b j) := and_nI _
    have s2 : w4 = nI (cB R b (j + 1)) := pk_shrN (by omega) _ 15 (by decide)
    have g' : mRs m S S1 := mRs_wI
    rw [s2]
    refine s_146_90 hE hb hR r (j + 1) S1 (by omega) (h.tmp g'.1) (fun z hz => ?_) (fun S' x2 x3 e1 e3 e4 => hQ S' x2 x3 (g'.trans e1) e3 e4)
    show (S.wI (m + 29) j (nI (2 * R j + cB R b j) &&& 32767)).rI (m + 29) z = _
    rw [or_wI_rI, s1]
    by_cases hz2 : z = j
    · rw [if_pos ⟨rfl, hz2⟩, if_pos (by omega), hz2]
    · rw [if_neg (fun y => hz2 y.2), hw z hz]
      by_cases hc2 : z < j
      · rw [if_pos hc2, if_pos (by omega)]
      · rw [if_neg hc2, if_neg (by omega)]
theorem s_146_227 {E : ox_E} (hE : ox_mono E) {x1 x2 : Int32} {R : Nat → Nat} (hR : ∀ z, z < 18 → R z < 32768) (hg : ∀ z, z < k → g z < 32768) (hk : k ≤ 16) : ∀ (r j : Nat) (S : ox_St), j + r = 18 → oML S m ce → mBoth S m f n p g k q → (∀ z, z < 18 → S.rI (m + 29) z = nI (if z < j then wD R (dg g k) z else R z)) → (∀ S' x3 x4, mRs m S S' → S'.I 116 m = S.I 116 m → (∀ z, z < 18 → S'.rI (m + 29) z = nI (wD R (dg g k) z)) → c_146_291 E m x1 x2 x3 x4 S' mr sr Q) → c_146_227 E m x1 x2 (0 - nI (cD R (dg g k) j)) (nI j) S mr sr Q
  | 0, j, S, hj, h, hb, hw, hQ => by
    refine f_146_227 hE ⟨fun _ => hQ _ _ _ mRs.refl rfl (fun z hz => ?_), fun z => absurd (nI_le (a := 18) (by omega) (by omega)) z⟩
    have := hw z hz
    rw [if_pos (by omega)] at this
    exact this
  | r + 1, j, S, hj, h, hb, hw, hQ => by
    obtain ⟨d1, d2, d3⟩ := h.row (F := 112) (o := 29) (k := 15) (n := 40) (by decide +kernel)
    obtain ⟨r1, r2, r3⟩ := h.row (F := 110) (o := 27) (k := 15) (n := 40) (by decide +kernel)
    have hb' := hb
    obtain ⟨b1, b2, b3, b4, b5, b6⟩ := hb'
    have hc := cD_le (f := R) (g := dg g k) j
    have hRj := hR j (by omega)
    have hGj : dg g k j < 32768 := dg_lt hg
    have er : S.rI (m + 29) j = nI (R j) := by rw [hw j (by omega), if_neg (by omega)]
    have leaf : ∀ w : Int32, w = nI (R j) - nI (dg g k j) - nI (cD R (dg g k) j) → ox_has 14 112 = true ∧ 15 = 15 ∧ vp_in (nI j) 40 ∧ c_146_227 E m x1 x2 (w >>> (15 &&& 31)) (nI (j + 1)) (S.wI (m + 29) j (w &&& 32767)) mr sr Q := by
      intro w hw2
      have s1 : w &&& 32767 = nI (wD R (dg g k) j) := by rw [hw2]; exact dig_sub hRj hGj hc
      have s2 : w >>> (15 &&& 31) = 0 - nI (cD R (dg g k) (j + 1)) := by rw [hw2]; exact dig_shr hRj hGj hc
      rw [s1, s2]
      have g' : mRs m S (S.wI (m + 29) j (nI (wD R (dg g k) j))) := mRs_wI
      refine ⟨rfl, rfl, vp_in_nI (by omega) (by decide), s_146_227 hE hR hg hk r (j + 1) _ (by omega) (h.tmp g'.1) (hb.rs g') (fun z hz => ?_) (fun S' x3 x4 e1 e3 e4 => hQ S' x3 x4 (g'.trans e1) e3 e4)⟩
      rw [or_wI_rI]
      by_cases hz2 : z = j
      · rw [if_pos ⟨rfl, hz2⟩, if_pos (by omega), hz2]
      · rw [if_neg (fun y => hz2 y.2), hw z hz]
        by_cases hc2 : z < j
        · rw [if_pos hc2, if_pos (by omega)]
        · rw [if_neg hc2, if_neg (by omega)]
    have e0 : ∀ x : Int32, x + (0 - nI (cD R (dg g k) j)) = x - nI (cD R (dg g k) j) := fun x => by rw [Int32.zero_sub, ← Int32.sub_eq_add_neg]
    refine f_146_227 hE ?_
    unfold q_146_227
    rw [h.1, b5, d1, d2, d3, r1, r2, r3, nI_1, nI_clamp (n := j) (by omega), er]
    refine ⟨fun z => absurd z (nI_ge (b := 18) (by omega) (by omega)), fun _ => ⟨rfl, rfl, vp_in_nI (by omega) (by decide), rfl, fun z => leaf _ ?_, fun z => ⟨rfl, rfl, vp_in_nI (by omega) (by decide), leaf _ ?_⟩⟩⟩
    · have hjk : k ≤ j := (nI_leI (by omega) (by omega)).mp z
      rw [e0, show dg g k j = 0 from if_neg (by omega)]
      rfl
    · have hjk : j < k := Nat.not_le.mp fun y => z (nI_le y (by omega))
      rw [e0, b4 j hjk, show dg g k j = g j from if_pos hjk]
theorem s_146_291 {E : ox_E} (hE : ox_mono E) {x1 x2 x3 x4 : Int32} {R : Nat → Nat} : ∀ (N : Nat) (S : ox_St), N ≤ 18 → oML S m ce → S.I 116 m = nI N → (∀ z, z < 18 → S.rI (m + 29) z = nI (R z) ∧ R z < 32768) → (∀ S', mRs m S S' → S'.I 116 m = nI (dct R N) → S'.rI (m + 29) = S.rI (m + 29) → c_146_67 E m (x1 + (-1)) S' mr sr Q) → c_146_291 E m x1 x2 x3 x4 S mr sr Q
  | 0, S, hN, h, h1, hw, hQ => by
    refine f_146_291 hE ?_
    unfold q_146_291
    rw [h.1, h1]
    exact ⟨rfl, fun _ => hQ S mRs.refl h1 rfl, fun z => absurd (by decide) z⟩
  | N + 1, S, hN, h, h1, hw, hQ => by
    obtain ⟨d1, d2, d3⟩ := h.row (F := 112) (o := 29) (k := 15) (n := 40) (by decide +kernel)
    obtain ⟨w1, w2⟩ := hw N (by omega)
    refine f_146_291 hE ?_
    unfold q_146_291
    rw [h.1, h1, d1, d2, d3, nI_pred, nI_clamp (n := N) (by omega), w1]
    refine ⟨rfl, fun z => absurd z (nI_nle (by omega) (by omega)), fun _ => ⟨rfl, rfl, rfl, vp_in_nI (by omega) (by decide), fun z => ?_, fun z => ⟨rfl, rfl, ?_⟩⟩⟩
    · have hne : ¬ R N = 0 := fun e => z (by rw [e]; decide)
      refine hQ S mRs.refl ?_ rfl
      rw [h1, show dct R (N + 1) = N + 1 from if_neg hne]
    · have he : R N = 0 := (nI_eq (b := 0) (by omega) (by decide)).mp z
      have e : dct R (N + 1) = dct R N := if_pos he
      rw [e] at hQ
      exact s_146_291 hE N (S.sI 116 m (nI N)) (by omega) (h.tmp mRs_sI.1) (if_pos ⟨rfl, rfl⟩) hw (fun S' e1 e2 e3 => hQ S' (mRs_sI.trans e1) e2 e3)
theorem s_146_138 {E : ox_E} (hE : ox_mono E) {x1 x2 x3 : Int32} {R : Nat → Nat} : ∀ (N : Nat) (S : ox_St), N ≤ 18 → oML S m ce → mBoth S m f n p g k q → S.I 116 m = nI N → (∀ z, z < 18 → S.rI (m + 29) z = nI (R z) ∧ R z < 32768) → (∀ S', mRs m S S' → S'.I 116 m = nI (dct R N) → S'.rI (m + 29) = S.rI (m + 29) → 4 ≤ 4 ∧ 0 ≤ 8 ∧ ∃ mc mk, mc ≤ mr ∧ mk ≤ sr ∧ E 141 [.inr (.inr (m + 29)), .inl (nI (dct R N)), .inr (.inr (m + 27)), .inl (nI k)] mc mk S' (k_146_191 E m x1 x2 x3 (mr - mc) (sr - mk) Q)) → c_146_138 E m x1 x2 x3 S mr sr Q
  | 0, S, hN, h, hb, h1, hw, hQ => by
    obtain ⟨d1, d2, d3⟩ := h.row (F := 112) (o := 29) (k := 15) (n := 40) (by decide +kernel)
    obtain ⟨r1, r2, r3⟩ := h.row (F := 110) (o := 27) (k := 15) (n := 40) (by decide +kernel)
    refine f_146_138 hE ?_
    unfold q_146_138
    rw [h.1, h1, d1, r1, hb.2.2.2.2.1]
    exact ⟨rfl, fun _ => ⟨rfl, rfl, rfl, rfl, hQ S mRs.refl h1 rfl⟩, fun z => absurd (by decide) z⟩
  | N + 1, S, hN, h, hb, h1, hw, hQ => by
    obtain ⟨d1, d2, d3⟩ := h.row (F := 112) (o := 29) (k := 15) (n := 40) (by decide +kernel)
    obtain ⟨r1, r2, r3⟩ := h.row (F := 110) (o := 27) (k := 15) (n := 40) (by decide +kernel)
    obtain ⟨w1, w2⟩ := hw N (by omega)
    refine f_146_138 hE ?_
    unfold q_146_138
    rw [h.1, h1, d1, d2, d3, r1, hb.2.2.2.2.1, nI_pred, nI_clamp (n := N) (by omega), w1]
    refine ⟨rfl, fun z => absurd z (nI_nle (by omega) (by omega)), fun _ => ⟨rfl, rfl, rfl, vp_in_nI (by omega) (by decide), fun z => ⟨rfl, rfl, rfl, rfl, ?_⟩, fun z => ⟨rfl, rfl, ?_⟩⟩⟩
    · have hne : ¬ R N = 0 := fun e => z (by rw [e]; decide)
      rw [show dct R (N + 1) = N + 1 from if_neg hne] at hQ
      exact hQ S mRs.refl h1 rfl
    · have he : R N = 0 := (nI_eq (b := 0) (by omega) (by decide)).mp z
      have e : dct R (N + 1) = dct R N := if_pos he
      rw [e] at hQ
      exact s_146_138 hE N (S.sI 116 m (nI N)) (by omega) (h.tmp mRs_sI.1) (hb.rs mRs_sI) (if_pos ⟨rfl, rfl⟩) hw (fun S' e1 e2 e3 => hQ S' (mRs_sI.trans e1) e2 e3)
end OMD
