/-! the class's calculations: order, product -/
/-- all but the calculator's three rows is as before -/
def oCw (x : Nat) (S S' : ox_St) : Prop := S'.K = S.K ∧ S'.len = S.len ∧ S'.n = S.n ∧ S'.I = S.I ∧ S'.R = S.R ∧ S'.J = S.J ∧ S'.rR = S.rR ∧ S'.rJ = S.rJ ∧ ∀ a, (a < x + 1 ∨ x + 3 < a) → S'.rI a = S.rI a
theorem oCw.refl {x : Nat} {S : ox_St} : oCw x S S := ⟨rfl, rfl, rfl, rfl, rfl, rfl, rfl, rfl, fun _ _ => rfl⟩
theorem oCw.trans {x : Nat} {S S' U : ox_St} (h : oCw x S S') (g : oCw x S' U) : oCw x S U := by
  obtain ⟨h1, h2, h3, h4, h5, h6, h7, h8, h9⟩ := h
  obtain ⟨g1, g2, g3, g4, g5, g6, g7, g8, g9⟩ := g
  exact ⟨g1.trans h1, g2.trans h2, g3.trans h3, g4.trans h4, g5.trans h5, g6.trans h6, g7.trans h7, g8.trans h8, fun a q => (g9 a q).trans (h9 a q)⟩
theorem oCw_wI {x t i : Nat} {S : ox_St} {v : Int32} (h1 : x + 1 ≤ t) (h2 : t ≤ x + 3) : oCw x S (S.wI t i v) := ⟨rfl, rfl, rfl, rfl, rfl, rfl, rfl, rfl, fun a q => ox_u2_row _ _ (fun e => by omega)⟩
theorem oCw_but {x t : Nat} {S S' : ox_St} (h : oBut t S S') (h1 : x + 1 ≤ t) (h2 : t ≤ x + 3) : oCw x S S' := by
  obtain ⟨b1, b2, b3, b4, b5, b6, b7, b8, b9⟩ := h
  refine ⟨b2, b3, b4, b5, b6, b7, b8, b9, fun a q => ?_⟩
  obtain ⟨-, -, -, -, -, g6, -⟩ := b1 a (fun e => by omega)
  exact funext g6
theorem oCw.ag {x : Nat} {S S' : ox_St} (h : oCw x S S') : oAg (fun a => a < x + 1 ∨ x + 3 < a) S S' := by
  obtain ⟨h1, h2, h3, h4, h5, h6, h7, h8, h9⟩ := h
  intro a ha
  exact ⟨by rw [h1], by rw [h2], fun F => by rw [h4], fun F => by rw [h5], fun F => by rw [h6], fun j => by rw [h9 a ha], fun j => by rw [h7], fun j => by rw [h8]⟩
theorem oCal.cw {S S' : ox_St} {x : Nat} (h : oCal S x) (g : oCw x S S') : oCal S' x := by
  unfold oCal
  rw [g.1, g.2.1, g.2.2.2.2.1]
  exact h
theorem oDs.cw {S S' : ox_St} {x t n : Nat} {f : Nat → Nat} (h : oDs S t f n) (g : oCw x S S') (ht : t < x + 1 ∨ x + 3 < t) : oDs S' t f n := by
  unfold oDs
  rw [g.1, g.2.1, g.2.2.2.2.2.2.2.2 t ht]
  exact h
theorem oNm.cw {S S' : ox_St} {x a t n : Nat} {f : Nat → Nat} {p : Int32} (h : oNm S a t f n p) (g : oCw x S S') (ht : t < x + 1 ∨ x + 3 < t) : oNm S' a t f n p := by
  obtain ⟨h1, h2, h3, h4, h5, h6⟩ := h
  exact ⟨by rw [g.1]; exact h1, by rw [g.2.2.2.2.1]; exact h2, h3.cw g ht, h4, by rw [g.2.2.2.1]; exact h5, h6⟩
/-- below b, but for the calculator's rows -/
def oKq (b x : Nat) (a : Nat) : Prop := a < b ∧ (a < x + 1 ∨ x + 3 < a)
section OCP
variable {sp : ox_E} {d mr sr : Nat} {S : ox_St} {Q : ox_Q} {x a ta n b tb k : Nat} {f g : Nat → Nat} {p q : Int32}
/-- order of two numbers -/
theorem s_1 (hsp : ox_mono sp) (ha : oNm S a ta f n p) (hb : oNm S b tb g k q) (hQ : Q (some (.inl (cmpZ (nv f n p) (nv g k q)))) S) : ox_M sp (d + 3) 1 [.inr (.inr a), .inr (.inr b)] mr sr S Q := by
  have hE : ox_mono (ox_M sp (d + 2)) := ox_M_mono hsp _
  obtain ⟨a1, a2, a3, a4, a5, a6, a7⟩ := ha
  obtain ⟨b1, b2, b3, b4, b5, b6, b7⟩ := hb
  refine f_1 hsp ?_
  unfold q_1
  rw [a1, b1, a2, b2, a5, b5]
  refine ⟨rfl, rfl, fun z => ⟨rfl, rfl, by decide, by decide, 0, 0, Nat.zero_le _, Nat.zero_le _, ?_⟩, fun z => ⟨rfl, fun y => ⟨trivial, ?_⟩, fun y => ⟨trivial, ?_⟩⟩⟩
  · refine s_2 hsp a3 b3 a4 b4 (f_1_35 hE ?_)
    unfold q_1_35
    rw [a1, a5]
    refine ⟨rfl, fun y => ⟨trivial, ?_⟩, fun y => ⟨trivial, ?_⟩⟩
    · unfold nv at hQ
      rw [if_pos y, if_pos (z.symm.trans y), ← cmpZ_pp] at hQ
      exact hQ
    · unfold nv at hQ
      rw [if_neg y, if_neg (fun e => y (z.trans e)), ← cmpZ_nn] at hQ
      rw [cmpN_flip]
      exact hQ
  · have q1 : ¬ q = 0 := fun e => z (y.trans e.symm)
    have hk0 : k ≠ 0 := fun e => q1 (b7 e)
    have := dc_pos b4 hk0
    unfold nv at hQ
    rw [if_pos y, if_neg q1, show cmpZ (dv f n : Int) (-(dv g k : Int)) = 1 from by unfold cmpZ; rw [if_neg (by omega), if_neg (by omega)]] at hQ
    exact hQ
  · have q0 : q = 0 := b6.resolve_right (fun e => z ((a6.resolve_left y).trans e.symm))
    have hn0 : n ≠ 0 := fun e => y (a7 e)
    have := dc_pos a4 hn0
    unfold nv at hQ
    rw [if_neg y, if_pos q0, show cmpZ (-(dv f n : Int)) (dv g k : Int) = -1 from by unfold cmpZ; rw [if_pos (by omega)]] at hQ
    exact hQ
theorem s_228_5 {E : ox_E} (hE : ox_mono E) {t N : Nat} {v : Int32} (hN : N < 2 ^ 31) : ∀ (r i : Nat) (S : ox_St), i + r = N → S.K t = 15 → S.len t = N → (∀ S', oBut t S S' → (∀ z, z < N → S'.rI t z = if i ≤ z then v else S.rI t z) → Q none S') → c_228_5 E t v (nI i) (nI N) S mr sr Q
  | 0, i, S, hi, hK, hl, hQ => f_228_5 hE ⟨fun _ => ⟨rfl, hQ S ⟨oAg.refl, rfl, rfl, rfl, rfl, rfl, rfl, rfl, rfl⟩ (fun z hz => by rw [if_neg (by omega)])⟩, fun z => absurd (nI_le (by omega) (by omega)) z⟩
  | r + 1, i, S, hi, hK, hl, hQ => by
    refine f_228_5 hE ?_
    unfold q_228_5
    rw [hK, hl, nI_1, nI_clamp (n := i) (by omega)]
    refine ⟨fun z => absurd z (nI_ge (by omega) hN), fun _ => ⟨rfl, vp_in_nI (by omega) hN, s_228_5 hE hN r (i + 1) _ (by omega) hK hl (fun S' e1 e2 => ?_)⟩⟩
    obtain ⟨q1, q2, q3, q4, q5, q6, q7, q8, q9⟩ := e1
    refine hQ S' ⟨(oAg_wI (fun z => z rfl)).trans q1, q2, q3, q4, q5, q6, q7, q8, q9⟩ (fun z hz => ?_)
    rw [e2 z hz, or_wI_rI]
    by_cases h1 : i + 1 ≤ z
    · rw [if_pos h1, if_pos (by omega)]
    · rw [if_neg h1]
      by_cases h2 : z = i
      · rw [if_pos ⟨rfl, h2⟩, if_pos (by omega)]
      · rw [if_neg (fun y => h2 y.2), if_neg (by omega)]
/-- Arrays.fill -/
theorem s_228 (hsp : ox_mono sp) {t N : Nat} {v : Int32} (hN : N < 2 ^ 31) (hK : S.K t = 15) (hl : S.len t = N) (hQ : ∀ S', oBut t S S' → (∀ z, z < N → S'.rI t z = v) → Q none S') : ox_M sp (d + 1) 228 [.inr (.inr t), .inl v] mr sr S Q := by
  refine f_228 hsp ⟨by rw [hK]; rfl, ?_⟩
  rw [hl]
  refine s_228_5 (ox_M_mono hsp _) hN N 0 S (Nat.zero_add N) hK hl (fun S' e1 e2 => hQ S' e1 (fun z hz => ?_))
  rw [e2 z hz, if_pos (Nat.zero_le z)]
/-- made, by values -/
theorem s_14v {t Ln : Nat} {w : Nat → Nat} {neg : Int32} (hK : S.K t = 15) (hlen : S.len t = Ln) (hLn : Ln < 2 ^ 31) (h18 : 18 ≤ Ln) (htn : t < S.n) (hneg : neg = 0 ∨ neg = 1) (hm : 2 ≤ mr) (hs : 20 ≤ sr) (hn : n ≤ Ln) (hw : ∀ i, i < n → S.rI t i = nI (w i) ∧ w i < 32768)
    (hQ1 : ∀ S' w' c r, S'.n = S.n + 2 → oAg (fun a => a < S.n) S S' → oNm S' S.n (S.n + 1) w' c r ∧ S'.I 6 S.n = 3 → nv w' c r = (if neg = 0 then (dv w n : Int) else -(dv w n : Int)) → Q (some (.inr (.inr S.n))) S') (hQ2 : 32768 ^ 16 ≤ dv w n → Q (some (.inr (.inr 0))) S) : ox_M lw_sp (d + 5) 14 [.inr (.inr t), .inl (nI n), .inl neg] mr sr S Q := by
  obtain ⟨c1, c2⟩ := dct_dv (w := w) (N := n) (fun i hi => (hw i hi).2)
  refine s_14 (w := w) hK hlen hLn h18 ⟨by omega, htn⟩ (by omega) hneg hm hs hn (fun i hi => ⟨(hw i hi).1, Nat.lt_trans (hw i hi).2 (by decide)⟩) (fun z => ?_) (fun z => hQ2 ?_)
  · obtain ⟨m1, m2, m3⟩ := oMade_nm (T := S) (t := t) (n := n) (w := w) (neg := neg) hw htn rfl z hneg
    refine hQ1 _ _ _ _ m3 oMade_ag ⟨m1, oMade_6⟩ ?_
    rw [nv_made hneg, m2]
  · rw [← c2]
    have h16 : 16 ≤ dct w n - 1 := Nat.le_sub_one_of_lt z
    exact Nat.le_trans (Nat.pow_le_pow_right (by decide) h16) (dc_low c1 (Nat.lt_of_le_of_lt (Nat.zero_le _) z))
theorem s_6_47 {E : ox_E} (hE : ox_mono E) {x3 : Int32} {D : Nat → Nat} {i : Nat} (hta : ta < x + 1 ∨ x + 3 < ta) (htb : tb < x + 1 ∨ x + 3 < tb) (hnk : n + k ≤ 17) (hi : i < n) (hD : ∀ z, z < n + k → D z < 32768) (hD0 : D (i + k) = 0) : ∀ (r j : Nat) (S : ox_St), j + r = k → oCal S x → oNm S a ta f n p → oNm S b tb g k q → (∀ z, z < n + k → S.rI (x + 1) z = nI (if i ≤ z ∧ z < i + j then wP (f i) (fun j => D (i + j)) (dg g k) (z - i) else D z)) → (∀ S', oCw x S S' → (∀ z, z < n + k → S'.rI (x + 1) z = nI (mRw D i k (f i) (dg g k) z)) → c_6_31 E x a b x3 (nI (i + 1)) S' mr sr Q) → c_6_47 E x a b x3 (nI i) (nI (cP (f i) (fun j => D (i + j)) (dg g k) j)) (nI j) S mr sr Q
  | 0, j, S, hj, hC, ha, hb, hw, hQ => by
    obtain ⟨C1, ⟨C2, C3, C4⟩, -⟩ := hC
    obtain ⟨b1, b2, b3, b4, b5, b6, b7⟩ := hb
    obtain ⟨a1, a2, a3, a4, a5, a6, a7⟩ := ha
    have hG : ∀ j, dg g k j < 32768 := fun j => dg_lt b4.1
    have hcP := cP_lt (h := fun j => D (i + j)) (g := dg g k) (a4.1 i hi) j (fun z hz => hD (i + z) (by omega)) (fun z _ => hG z)
    obtain rfl : j = k := by omega
    refine f_6_47 hE ?_
    unfold q_6_47
    rw [C1, b1, b2, b3.1, b3.2.1, C2, C3, C4, show Int32.ofNat j = nI j from rfl, nI_add, nI_1, nI_clamp (n := i + j) (by omega)]
    refine ⟨rfl, rfl, fun _ => ⟨rfl, rfl, rfl, rfl, vp_in_nI (by omega) (by decide), hQ _ (oCw_wI (by omega) (by omega)) (fun z hz => ?_)⟩, fun z => absurd (nI_le (Nat.le_refl j) (by omega)) z⟩
    rw [or_wI_rI]
    unfold mRw
    by_cases hz2 : z = i + j
    · rw [if_pos ⟨rfl, hz2⟩, if_pos (by omega), hz2, Nat.add_sub_cancel_left]
      show _ = nI ((D (i + j) + f i * dg g j j + cP (f i) (fun j => D (i + j)) (dg g j) j) % 32768)
      rw [hD0, show dg g j j = 0 from if_neg (by omega), Nat.mul_zero, Nat.zero_add, Nat.mod_eq_of_lt hcP]
    · rw [if_neg (fun y => hz2 y.2), hw z hz]
      by_cases hc : i ≤ z ∧ z < i + j
      · rw [if_pos hc, if_pos (by omega)]
      · rw [if_neg hc, if_neg (by omega)]
  | r + 1, j, S, hj, hC, ha, hb, hw, hQ => by
    have hC' := hC
    have ha' := ha
    have hb' := hb
    obtain ⟨C1, ⟨C2, C3, C4⟩, -⟩ := hC'
    obtain ⟨a1, a2, a3, a4, a5, a6, a7⟩ := ha'
    obtain ⟨b1, b2, b3, b4, b5, b6, b7⟩ := hb'
    have hfi := a4.1 i hi
    have hG : ∀ j, dg g k j < 32768 := fun j => dg_lt b4.1
    have hDz := hD (i + j) (by omega)
    have hcP := cP_lt (h := fun j => D (i + j)) (g := dg g k) hfi j (fun z hz => hD (i + z) (by omega)) (fun z _ => hG z)
    have hml := mul_le_dig hfi (hG j)
    have er : S.rI (x + 1) (i + j) = nI (D (i + j)) := by rw [hw (i + j) (by omega), if_neg (by omega)]
    have ef := (a3.2.2.2 i hi).1
    have eg := (b3.2.2.2 j (by omega)).1
    have egd : dg g k j = g j := if_pos (by omega)
    refine f_6_47 hE ?_
    unfold q_6_47
    rw [C1, a1, a2, a3.1, a3.2.1, b1, b2, b3.1, b3.2.1, C2, C3, C4, show Int32.ofNat k = nI k from rfl, nI_add i k, nI_add i j, nI_1, nI_1, nI_clamp (n := i + j) (by omega), nI_clamp (n := i) (by omega), nI_clamp (n := j) (by omega), er, ef, eg, pk_mul, nI_add, nI_add]
    refine ⟨rfl, rfl, fun z => absurd z (nI_ge (by omega) (by omega)), fun _ => ⟨rfl, rfl, vp_in_nI (by omega) (by decide), rfl, rfl, vp_in_nI (by omega) (by omega), rfl, rfl, vp_in_nI (by omega) (by omega), rfl, rfl, vp_in_nI (by omega) (by decide), ?_⟩⟩
    have s1 : nI (D (i + j) + f i * g j + cP (f i) (fun j => D (i + j)) (dg g k) j) &&& 32767 = nI (wP (f i) (fun j => D (i + j)) (dg g k) j) := by
      rw [← egd]
      exact and_nI _
    have s2 : nI (D (i + j) + f i * g j + cP (f i) (fun j => D (i + j)) (dg g k) j) >>> (15 &&& 31) = nI (cP (f i) (fun j => D (i + j)) (dg g k) (j + 1)) := by
      rw [← egd]
      exact pk_shrN (by omega) _ 15 (by decide)
    rw [s1, s2]
    have g' : oCw x S (S.wI (x + 1) (i + j) (nI (wP (f i) (fun j => D (i + j)) (dg g k) j))) := oCw_wI (by omega) (by omega)
    refine s_6_47 hE hta htb hnk hi hD hD0 r (j + 1) _ (by omega) (hC.cw g') (ha.cw g' hta) (hb.cw g' htb) (fun z hz => ?_) (fun S' e1 e2 => hQ S' (g'.trans e1) e2)
    rw [or_wI_rI]
    by_cases hz2 : z = i + j
    · rw [if_pos ⟨rfl, hz2⟩, if_pos (by omega), hz2, Nat.add_sub_cancel_left]
    · rw [if_neg (fun y => hz2 y.2), hw z hz]
      by_cases hc : i ≤ z ∧ z < i + j
      · rw [if_pos hc, if_pos (by omega)]
      · rw [if_neg hc, if_neg (by omega)]
theorem s_6_31 {S0 : ox_St} (hta : ta < x + 1 ∨ x + 3 < ta) (htb : tb < x + 1 ∨ x + 3 < tb) (hnk : n + k ≤ 17) (hxn : x + 3 < S0.n) (hm : 2 ≤ mr) (hs : 20 ≤ sr)
    (hQ1 : ∀ S' w c r, S'.n = S0.n + 2 → oAg (oKq S0.n x) S0 S' → oNm S' S0.n (S0.n + 1) w c r ∧ S'.I 6 S0.n = 3 → nv w c r = (if p = q then ((dv f n * dv g k : Nat) : Int) else -((dv f n * dv g k : Nat) : Int)) → Q (some (.inr (.inr S0.n))) S') (hQ2 : ∀ S', oCw x S0 S' → 32768 ^ 16 ≤ dv f n * dv g k → Q (some (.inr (.inr 0))) S') : ∀ (r i : Nat) (S : ox_St) (D : Nat → Nat), i + r = n → oCw x S0 S → oCal S x → oNm S a ta f n p → oNm S b tb g k q → (∀ z, z < n + k → S.rI (x + 1) z = nI (D z) ∧ D z < 32768) → (∀ z, i + k ≤ z → z < n + k → D z = 0) → dv D (n + k) = dv f i * dv g k → c_6_31 (ox_M lw_sp (d + 5)) x a b (nI (n + k)) (nI i) S mr sr Q
  | 0, i, S, D, hi, t0, hC, ha, hb, hD, hz, hv => by
    have hE : ox_mono (ox_M lw_sp (d + 5)) := ox_M_mono lw_sp_mono _
    obtain rfl : i = n := by omega
    have en : S.n = S0.n := t0.2.2.1
    obtain ⟨C1, ⟨C2, C3, C4⟩, -⟩ := hC
    obtain ⟨a1, a2, a3, a4, a5, a6, a7⟩ := ha
    obtain ⟨b1, b2, b3, b4, b5, b6, b7⟩ := hb
    have fin : ∀ mn : Int32, (mn = if p = q then 0 else 1) → 3 ≤ 3 ∧ 0 ≤ 8 ∧ ∃ mc mk, mc ≤ mr ∧ mk ≤ sr ∧ ox_M lw_sp (d + 5) 14 [.inr (.inr (x + 1)), .inl (nI (i + k)), .inl mn] mc mk S (k_6_162 (ox_M lw_sp (d + 5)) x a b (nI (i + k)) (nI i) (mr - mc) (sr - mk) Q) := by
      intro mn hm'
      have hmn : mn = 0 ∨ mn = 1 := by
        by_cases e : p = q
        · rw [if_pos e] at hm'; exact Or.inl hm'
        · rw [if_neg e] at hm'; exact Or.inr hm'
      refine ⟨by decide, by decide, 2, 20, hm, hs, ?_⟩
      refine s_14v (d := d) (Ln := 34) (n := i + k) (w := D) C3 C4 (by decide) (by decide) (by rw [en]; omega) hmn (by decide) (by decide) (by omega) hD (fun S' w' c r e1 e2 e3 e4 => ?_) (fun e1 => f_6_162 hE ⟨rfl, hQ2 S t0 ?_⟩)
      · rw [en] at e1 e2 e3 ⊢
        refine f_6_162 hE ⟨rfl, hQ1 S' w' c r e1 ((t0.ag.sub (fun y hy => hy.2)).trans (e2.sub (fun y hy => hy.1))) e3 ?_⟩
        rw [e4, hv, hm']
        by_cases e : p = q
        · rw [if_pos e, if_pos rfl, if_pos e]
        · rw [if_neg e, if_neg (by decide), if_neg e]
      · rw [← hv]; exact e1
    refine f_6_31 hE ?_
    unfold q_6_31
    rw [a1, a2, a3.1, a3.2.1, C1, C2, a5, b1, b5, show Int32.ofNat i = nI i from rfl]
    exact ⟨rfl, rfl, fun _ => ⟨rfl, rfl, rfl, fun z => fin 0 (by rw [if_pos z]), fun z => fin 1 (by rw [if_neg z])⟩, fun z => absurd (nI_le (Nat.le_refl i) (by omega)) z⟩
  | r + 1, i, S, D, hi, t0, hC, ha, hb, hD, hz, hv => by
    have hE : ox_mono (ox_M lw_sp (d + 5)) := ox_M_mono lw_sp_mono _
    have ha' := ha
    obtain ⟨a1, a2, a3, a4, a5, a6, a7⟩ := ha'
    have hG : ∀ j, dg g k j < 32768 := fun j => dg_lt hb.2.2.2.1.1
    obtain ⟨m1, m2, m3⟩ := mRw_dv (D := D) (g := dg g k) (i := i) (k := k) (a := f i) (N := n + k) (a4.1 i (by omega)) (fun z hz => (hD z hz).2) hz hG (if_neg (by omega)) (by omega)
    refine f_6_31 hE ?_
    unfold q_6_31
    rw [a1, a2, a3.1, a3.2.1, show Int32.ofNat n = nI n from rfl]
    refine ⟨rfl, rfl, fun z => absurd z (nI_ge (by omega) (by omega)), fun _ => ?_⟩
    refine s_6_47 hE (D := D) (i := i) hta htb hnk (by omega) (fun z hz => (hD z hz).2) (hz (i + k) (Nat.le_refl _) (by omega)) k 0 S (Nat.zero_add k) hC ha hb (fun z hz => ?_) (fun S' e1 e2 => ?_)
    · rw [if_neg (by omega)]
      exact (hD z hz).1
    · refine s_6_31 hta htb hnk hxn hm hs hQ1 hQ2 r (i + 1) S' _ (by omega) (t0.trans e1) (hC.cw e1) (ha.cw e1 hta) (hb.cw e1 htb) (fun z hz => ⟨e2 z hz, m2 z hz⟩) m3 ?_
      rw [m1, hv, dv_dgN (Nat.le_refl k)]
      show dv f i * dv g k + f i * dv g k * 32768 ^ i = (dv f i + f i * 32768 ^ i) * dv g k
      rw [Nat.add_mul, Nat.mul_right_comm]
/-- product -/
theorem s_6 (hC : oCal S x) (ha : oNm S a ta f n p) (hb : oNm S b tb g k q) (hta : ta < x + 1 ∨ x + 3 < ta) (htb : tb < x + 1 ∨ x + 3 < tb) (hxn : x + 3 < S.n) (hm : 2 ≤ mr) (hs : 20 ≤ sr)
    (hQ1 : ∀ S' w c r, S'.n = S.n + 2 → oAg (oKq S.n x) S S' → oNm S' S.n (S.n + 1) w c r ∧ S'.I 6 S.n = 3 → nv w c r = (if p = q then ((dv f n * dv g k : Nat) : Int) else -((dv f n * dv g k : Nat) : Int)) → Q (some (.inr (.inr S.n))) S') (hQ2 : ∀ S', oCw x S S' → 32768 ^ 16 ≤ dv f n * dv g k → Q (some (.inr (.inr 0))) S') : ox_M lw_sp (d + 6) 6 [.inr (.inr x), .inr (.inr a), .inr (.inr b)] mr sr S Q := by
  have hE : ox_mono (ox_M lw_sp (d + 5)) := ox_M_mono lw_sp_mono _
  have hC' := hC
  have ha' := ha
  have hb' := hb
  obtain ⟨C1, ⟨C2, C3, C4⟩, -⟩ := hC'
  obtain ⟨a1, a2, a3, a4, a5, a6, a7⟩ := ha'
  obtain ⟨b1, b2, b3, b4, b5, b6, b7⟩ := hb'
  have hn := a3.2.2.1
  have hk := b3.2.2.1
  refine f_6 lw_sp_mono ?_
  unfold q_6
  rw [a1, a2, a3.1, a3.2.1, b1, b2, b3.1, b3.2.1, C1, C2, show Int32.ofNat n = nI n from rfl, show Int32.ofNat k = nI k from rfl, nI_add]
  refine ⟨rfl, rfl, rfl, rfl, fun z => ⟨rfl, by decide, by decide, 0, 0, Nat.zero_le _, Nat.zero_le _, ?_⟩, fun z => ⟨rfl, hQ2 S oCw.refl ?_⟩⟩
  · have hnk : n + k ≤ 17 := (nI_leI (b := 17) (by omega) (by decide)).mp z
    refine s_228 lw_sp_mono (N := 34) (by decide) C3 C4 (fun S1 e1 e2 => f_6_28 hE ?_)
    have t1 := oCw_but (x := x) e1 (Nat.le_refl _) (by omega)
    refine s_6_31 hta htb hnk hxn hm hs hQ1 hQ2 n 0 S1 (fun _ => 0) (Nat.zero_add n) t1 (hC.cw t1) (ha.cw t1 hta) (hb.cw t1 htb) (fun z hz => ⟨e2 z (by omega), by decide⟩) (fun _ _ _ => rfl) ?_
    have hzn : dv (fun _ => 0) (n + k) = 0 := by
      have := dv_zero (f := fun _ => 0) (n := 0) (n + k) (fun _ _ _ => rfl)
      rw [Nat.zero_add] at this
      exact this
    rw [hzn, show dv f 0 = 0 from rfl, Nat.zero_mul]
  · have hnk : 17 < n + k := Nat.not_le.mp fun y => z ((nI_leI (b := 17) (by omega) (by decide)).mpr y)
    have l1 := dc_low a4 (by omega)
    have l2 := dc_low b4 (by omega)
    refine Nat.le_trans ?_ (Nat.mul_le_mul l1 l2)
    rw [← Nat.pow_add]
    exact Nat.pow_le_pow_right (by decide) (by omega)
end OCP
