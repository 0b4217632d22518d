/-! the class's division -/
/-- rows shifted down -/
def wV (s : Nat) (D : Nat → Nat) (z : Nat) : Nat := D z / 2 ^ s + D (z + 1) % 2 ^ s * 2 ^ (15 - s)
theorem p15 {s : Nat} (hs : s ≤ 15) : 2 ^ s * 2 ^ (15 - s) = 32768 := by
  rw [← Nat.pow_add, show s + (15 - s) = 15 by omega]
theorem wV_a {s : Nat} {D : Nat → Nat} (hs : s ≤ 15) (hD : ∀ z, D z < 32768) (z : Nat) : D z / 2 ^ s < 2 ^ (15 - s) := Nat.div_lt_of_lt_mul (by rw [p15 hs]; exact hD z)
theorem wV_lt {s : Nat} {D : Nat → Nat} (hs : s ≤ 15) (hD : ∀ z, D z < 32768) (z : Nat) : wV s D z < 32768 := by
  have h1 := wV_a hs hD z
  have h2 : D (z + 1) % 2 ^ s + 1 ≤ 2 ^ s := Nat.mod_lt _ (Nat.pow_pos (by decide))
  have h3 := Nat.mul_le_mul_right (2 ^ (15 - s)) h2
  rw [p15 hs, Nat.add_mul, Nat.one_mul] at h3
  unfold wV
  omega
theorem wV_dv {s : Nat} {D : Nat → Nat} (hs : s ≤ 15) (n : Nat) : dv D n + D n % 2 ^ s * 32768 ^ n = 2 ^ s * dv (wV s D) n + D 0 % 2 ^ s := by
  refine dv_row0 (f := wV s D) (w := D) (c := fun z => D z % 2 ^ s) (a := 2 ^ s) n (fun i _ => ?_)
  show 2 ^ s * (D i / 2 ^ s + D (i + 1) % 2 ^ s * 2 ^ (15 - s)) + D i % 2 ^ s = D i + 32768 * (D (i + 1) % 2 ^ s)
  have h1 := Nat.div_add_mod (D i) (2 ^ s)
  have h2 : 2 ^ s * (D (i + 1) % 2 ^ s * 2 ^ (15 - s)) = 32768 * (D (i + 1) % 2 ^ s) := by
    rw [Nat.mul_left_comm, p15 hs, Nat.mul_comm]
  rw [Nat.mul_add, h2]
  omega
theorem wV_nI {s : Nat} {D : Nat → Nat} (hs : s ≤ 14) (hD : ∀ z, D z < 32768) (z : Nat) : (nI (D z) >>> (nI s &&& 31)) ||| ((nI (D (z + 1)) <<< ((15 - nI s) &&& 31)) &&& 32767) = nI (wV s D z) := by
  have h0 := hD z
  have h1 := hD (z + 1)
  have h2 : 2 ^ (15 - s) ≤ 32768 := Nat.le_trans (Nat.pow_le_pow_right (by decide) (by omega)) (show 2 ^ 15 ≤ 32768 by decide)
  have h3 : D (z + 1) * 2 ^ (15 - s) ≤ 32767 * 32768 := Nat.mul_le_mul (by omega) h2
  have ha := wV_a (s := s) (by omega) hD z
  have hm : D (z + 1) * 2 ^ (15 - s) % 32768 = D (z + 1) % 2 ^ s * 2 ^ (15 - s) := by
    rw [← p15 (s := s) (by omega), Nat.mul_mod_mul_right]
  have hlt : D (z + 1) * 2 ^ (15 - s) % 32768 < 32768 := Nat.mod_lt _ (by decide)
  rw [show (15 : Int32) = nI 15 from rfl, pk_sub (show s ≤ 15 by omega), pk_andN (n := s) (m := 31) (by omega) 5 (by decide), Nat.mod_eq_of_lt (show s < 2 ^ 5 by omega), pk_andN (n := 15 - s) (m := 31) (by omega) 5 (by decide), Nat.mod_eq_of_lt (show 15 - s < 2 ^ 5 by omega), pk_shrN (by omega) _ s (nI_smod (by omega)), pk_shlN _ (15 - s) (nI_smod (by omega)) (by omega), and_nI, nI_or (by omega) (by omega), hm, Nat.or_comm, Nat.mul_comm (D (z + 1) % 2 ^ s), ← Nat.two_pow_add_eq_or_of_lt ha]
  unfold wV
  rw [Nat.add_comm, Nat.mul_comm]
section OCD
variable {sp : ox_E} {d mr sr : Nat} {S : ox_St} {Q : ox_Q} {x t1 t2 n k : Nat} {f g : Nat → Nat}
theorem s_9_113 {E : ox_E} (hE : ox_mono E) {x3 : Int32} {s : Nat} {D : Nat → Nat} (hs : s ≤ 14) (hD : ∀ z, D z < 32768) : ∀ (r i : Nat) (S : ox_St), i + r = 17 → oCal S x → (∀ z, z < 34 → S.rI (x + 1) z = nI (if z < i then wV s D z else D z)) → (∀ S', oBut (x + 1) S S' → (∀ z, z < 17 → S'.rI (x + 1) z = nI (wV s D z)) → Q (some (.inl (if dv (wV s D) 17 = 0 then 0 else 1))) S') → c_9_113 E x t1 t2 x3 (nI s) (if dv (wV s D) i = 0 then 0 else 1) (nI i) S mr sr Q
  | 0, i, S, hi, hC, h1, hQ => by
    obtain rfl : i = 17 := by omega
    refine f_9_113 hE ⟨fun _ => ⟨?_, hQ S ⟨oAg.refl, rfl, rfl, rfl, rfl, rfl, rfl, rfl, rfl⟩ (fun z hz => ?_)⟩, fun z => absurd (by decide) z⟩
    · by_cases e : dv (wV s D) 17 = 0
      · rw [if_pos e]; exact Or.inl rfl
      · rw [if_neg e]; exact Or.inr rfl
    · rw [h1 z (by omega), if_pos hz]
  | r + 1, i, S, hi, hC, h1, hQ => by
    have hC' := hC
    obtain ⟨C1, ⟨C2, C3, C4⟩, -⟩ := hC'
    have hwl := wV_lt (s := s) (by omega) hD i
    have er : S.rI (x + 1) i = nI (D i) := by rw [h1 i (by omega), if_neg (by omega)]
    have er1 : S.rI (x + 1) (i + 1) = nI (D (i + 1)) := by rw [h1 (i + 1) (by omega), if_neg (by omega)]
    have hnext : c_9_113 E x t1 t2 x3 (nI s) (if dv (wV s D) (i + 1) = 0 then 0 else 1) (nI (i + 1)) (S.wI (x + 1) i (nI (wV s D i))) mr sr Q := by
      refine s_9_113 hE hs hD r (i + 1) _ (by omega) hC (fun z hz => ?_) (fun S' q1 q2 => hQ S' ?_ q2)
      · rw [or_wI_rI]
        by_cases z1 : z = i
        · rw [if_pos ⟨rfl, z1⟩, if_pos (by omega), z1]
        · rw [if_neg (fun y => z1 y.2), h1 z hz]
          by_cases z2 : z < i
          · rw [if_pos z2, if_pos (by omega)]
          · rw [if_neg z2, if_neg (by omega)]
      · obtain ⟨b1, b2, b3, b4, b5, b6, b7, b8, b9⟩ := q1
        exact ⟨(oAg_wI (fun z => z rfl)).trans b1, b2, b3, b4, b5, b6, b7, b8, b9⟩
    have edv : dv (wV s D) (i + 1) = dv (wV s D) i + wV s D i * 32768 ^ i := rfl
    have hP : 0 < 32768 ^ i := Nat.pow_pos (by decide)
    refine f_9_113 hE ?_
    unfold q_9_113
    rw [C1, C2, C3, C4, nI_1, nI_clamp (n := i) (by omega), nI_clamp (n := i + 1) (by omega), er, er1, wV_nI hs hD]
    refine ⟨fun z => absurd z (nI_nlt (a := 16) (by omega) (by decide)), fun _ => ⟨rfl, rfl, rfl, vp_in_nI (by omega) (by decide), rfl, rfl, vp_in_nI (by omega) (by decide), rfl, vp_in_nI (by omega) (by decide), fun z => ?_, fun z => ?_⟩⟩
    · by_cases e : dv (wV s D) i = 0
      · rw [if_pos e] at z; exact absurd rfl z
      · rw [if_neg (by rw [edv]; omega)] at hnext
        exact hnext
    · have e : dv (wV s D) i = 0 := Decidable.not_not.mp fun e => by rw [if_neg e] at z; exact absurd z (by decide)
      have ew : (S.wI (x + 1) i (nI (wV s D i))).rI (x + 1) i = nI (wV s D i) := by rw [or_wI_rI, if_pos ⟨rfl, rfl⟩]
      show ox_has (S.K x) 3 = true ∧ ox_rdI (S.K (S.R 3 x)) = true ∧ vp_in (nI i) (S.len (S.R 3 x)) ∧ ((S.wI (x + 1) i (nI (wV s D i))).rI (S.R 3 x) i = 0 → c_9_113 E x t1 t2 x3 (nI s) 0 (nI (i + 1)) (S.wI (x + 1) i (nI (wV s D i))) mr sr Q) ∧ (¬ (S.wI (x + 1) i (nI (wV s D i))).rI (S.R 3 x) i = 0 → c_9_113 E x t1 t2 x3 (nI s) 1 (nI (i + 1)) (S.wI (x + 1) i (nI (wV s D i))) mr sr Q)
      rw [C1, C2, C3, C4, ew]
      refine ⟨rfl, rfl, vp_in_nI (by omega) (by decide), fun y => ?_, fun y => ?_⟩
      · have y0 : wV s D i = 0 := (nI_eq (b := 0) (by omega) (by decide)).mp y
        rw [if_pos (by rw [edv, e, y0, Nat.zero_mul])] at hnext
        exact hnext
      · have y0 : wV s D i ≠ 0 := fun w => y (by rw [w]; rfl)
        have : 0 < wV s D i * 32768 ^ i := Nat.mul_pos (Nat.pos_of_ne_zero y0) hP
        rw [if_neg (by rw [edv]; omega)] at hnext
        exact hnext
/-- one digit after the other -/
theorem s_9_71 (hsp : ox_mono sp) {S0 : ox_St} {s U : Nat} {v : Nat → Nat} (hk : 1 ≤ k) (hk2 : k ≤ 16) (hvk : v k = 0) (hv : 16384 ≤ v (k - 1)) (hVl : dv v k < 32768 ^ k)
    (hQ : ∀ S D e, oCw x S0 S → oCal S x → (∀ z, D z < 32768) → (∀ z, z < 34 → S.rI (x + 1) z = nI (D z)) → (∀ z, z < 18 → S.rI (x + 3) z = nI (e z) ∧ e z < 32768) → dv D 34 < dv v k → dv e 18 * dv v k + dv D 34 = U → c_9_113 (ox_M sp (d + 2)) x t1 t2 (nI k) (nI s) 0 0 S mr sr Q) : ∀ (i : Nat) (S : ox_St) (D e : Nat → Nat), i + k ≤ 17 → oCw x S0 S → oCal S x → oDv S x D v → (∀ z, z < 18 → S.rI (x + 3) z = nI (e z) ∧ e z < 32768) → (∀ z, z < i → e z = 0) → dv D 34 < dv v k * 32768 ^ i → dv e 18 * dv v k + dv D 34 = U → c_9_71 (ox_M sp (d + 2)) x t1 t2 (nI k) (nI s) (nI i - 1) S mr sr Q
  | 0, S, D, e, hi, t0, hC, hr, he, he0, hR, hU => by
    refine f_9_71 (ox_M_mono hsp _) ⟨fun _ => hQ S D e t0 hC hr.2.1 hr.1 he (by rw [Nat.pow_zero, Nat.mul_one] at hR; exact hR) hU, fun z => absurd (by decide) z⟩
  | i + 1, S, D, e, hi, t0, hC, hr, he, he0, hR, hU => by
    have hE : ox_mono (ox_M sp (d + 2)) := ox_M_mono hsp _
    have hC' := hC
    have hr' := hr
    obtain ⟨C1, ⟨C2, C3, C4⟩, ⟨C5, C6, C7⟩, C8, C9, C10⟩ := hC'
    obtain ⟨r1, r2, r3, r4⟩ := hr'
    have hP : 0 < 32768 ^ i := Nat.pow_pos (by decide)
    have hV : 0 < dv v k := by
      obtain ⟨c, rfl⟩ : ∃ c, k = c + 1 := ⟨k - 1, by omega⟩
      have h1 : 0 < v c * 32768 ^ c := Nat.mul_pos (by have : c + 1 - 1 = c := rfl; rw [this] at hv; omega) (Nat.pow_pos (by decide))
      show 0 < dv v c + v c * 32768 ^ c
      omega
    have hRb : dv D 34 < 32768 ^ (i + (k + 1)) := by
      refine Nat.lt_of_lt_of_le hR ?_
      rw [show i + (k + 1) = k + (i + 1) by omega, Nat.pow_add 32768 k (i + 1)]
      exact Nat.mul_le_mul_right _ (Nat.le_of_lt hVl)
    have hz : ∀ z, i + (k + 1) ≤ z → z < 34 → D z = 0 := dv_small 34 hRb
    obtain ⟨rr, hrr⟩ : ∃ rr, i + (k + 1) + rr = 34 := ⟨34 - (i + (k + 1)), by omega⟩
    have eR : dv D 34 = dv D i + 32768 ^ i * dv (fun z => D (i + z)) (k + 1) := by
      rw [← hrr, dv_zero rr (fun z q1 q2 => hz z q1 (by omega)), dv_app]
    have hW : dv (fun z => D (i + z)) (k + 1) < dv v k * 32768 := by
      have : 32768 ^ i * dv (fun z => D (i + z)) (k + 1) < 32768 ^ i * (dv v k * 32768) := by
        rw [Nat.pow_succ, ← Nat.mul_assoc, Nat.mul_right_comm, Nat.mul_comm (dv v k * 32768)] at hR
        omega
      exact Nat.lt_of_mul_lt_mul_left this
    have hdm := Nat.div_add_mod (dv (fun z => D (i + z)) (k + 1)) (dv v k)
    have hmd := Nat.mod_lt (dv (fun z => D (i + z)) (k + 1)) hV
    have hq : dv (fun z => D (i + z)) (k + 1) / dv v k < 32768 := Nat.div_lt_of_lt_mul hW
    have hlow : dv D i < 32768 ^ i := dv_lt i (fun _ _ => r2 _)
    rw [nI_pred]
    refine f_9_71 hE ⟨fun z => absurd z (nI_pos (by omega)), fun _ => ⟨fun z => absurd z (nI_nle hk (by omega)), fun _ => ⟨by rw [C1]; rfl, by decide, C1, by decide, 0, 0, Nat.zero_le _, Nat.zero_le _, ?_⟩⟩⟩
    refine s_11 hsp hC hr hk hk2 (by omega) hv hW (fun y y1 y2 => f_9_97 hE ⟨by decide, C1, by decide, 0, 0, Nat.zero_le _, Nat.zero_le _, ?_⟩)
    refine s_12 hsp hC hr hk2 (by omega) hvk hV hW y1 y2 (fun S1 w b1 hw vw w1 => f_9_100 hE ?_)
    have g1 := oCw_but (x := x) b1 (Nat.le_refl _) (by omega)
    have hC1 := hC.cw g1
    have hK3 : S1.K (x + 3) = 15 := hC1.2.2.2.2.1
    have hL3 : S1.len (x + 3) = 18 := hC1.2.2.2.2.2
    have ag1 := b1.1
    unfold q_9_100
    rw [C8, hK3, hL3, nI_clamp (n := i) (by omega), ← Int32.sub_eq_add_neg]
    refine ⟨rfl, vp_in_nI (by omega) (by decide), ?_⟩
    have g2 : oCw x S1 (S1.wI (x + 3) i (nI (dv (fun z => D (i + z)) (k + 1) / dv v k))) := oCw_wI (by omega) (by omega)
    refine s_9_71 hsp hk hk2 hvk hv hVl hQ i _ (sgN D w i (k + 1)) (fun z => if z = i then dv (fun z => D (i + z)) (k + 1) / dv v k else e z) (by omega) ((t0.trans g1).trans g2) (hC1.cw g2) ⟨fun z hz => ?_, sgN_lt r2 hw, fun z hz => ?_, r4⟩ (fun z hz => ⟨?_, ?_⟩) (fun z hz => ?_) ?_ ?_
    · rw [or_wI_rI, if_neg (fun y => by omega)]; exact w1 z hz
    · rw [or_wI_rI, if_neg (fun y => by omega)]
      obtain ⟨-, -, -, -, -, g6, -⟩ := ag1 (x + 2) (by omega)
      rw [g6 z]; exact r3 z hz
    · rw [or_wI_rI]
      by_cases z1 : z = i
      · rw [if_pos ⟨rfl, z1⟩]
        show _ = nI (if z = i then _ else _)
        rw [if_pos z1]
      · rw [if_neg (fun y => z1 y.2)]
        obtain ⟨-, -, -, -, -, g6, -⟩ := ag1 (x + 3) (by omega)
        show _ = nI (if z = i then _ else _)
        rw [g6 z, if_neg z1]; exact (he z hz).1
    · show (if z = i then _ else _) < 32768
      by_cases z1 : z = i
      · rw [if_pos z1]; exact hq
      · rw [if_neg z1]; exact (he z hz).2
    · show (if z = i then _ else _) = 0
      rw [if_neg (by omega)]; exact he0 z (by omega)
    · have eD : dv (sgN D w i (k + 1)) 34 = dv D i + 32768 ^ i * (dv (fun z => D (i + z)) (k + 1) % dv v k) := by
        rw [← hrr, dv_zero rr (fun z q1 q2 => by unfold sgN; rw [if_neg (by omega)]; exact hz z q1 (by omega)), dv_app, ← vw]
        rw [dv_congr (f := sgN D w i (k + 1)) (g := D) i (fun z hz => by unfold sgN; rw [if_neg (by omega)]), dv_congr (f := fun z => sgN D w i (k + 1) (i + z)) (g := w) (k + 1) (fun z hz => by show sgN D w i (k + 1) (i + z) = w z; unfold sgN; rw [if_pos (by omega), Nat.add_sub_cancel_left])]
      rw [eD]
      have h5 : 32768 ^ i * (dv (fun z => D (i + z)) (k + 1) % dv v k + 1) ≤ 32768 ^ i * dv v k := Nat.mul_le_mul_left _ hmd
      rw [Nat.mul_add, Nat.mul_one] at h5
      rw [Nat.mul_comm (dv v k)]
      omega
    · have eD : dv (sgN D w i (k + 1)) 34 = dv D i + 32768 ^ i * (dv (fun z => D (i + z)) (k + 1) % dv v k) := by
        rw [← hrr, dv_zero rr (fun z q1 q2 => by unfold sgN; rw [if_neg (by omega)]; exact hz z q1 (by omega)), dv_app, ← vw]
        rw [dv_congr (f := sgN D w i (k + 1)) (g := D) i (fun z hz => by unfold sgN; rw [if_neg (by omega)]), dv_congr (f := fun z => sgN D w i (k + 1) (i + z)) (g := w) (k + 1) (fun z hz => by show sgN D w i (k + 1) (i + z) = w z; unfold sgN; rw [if_pos (by omega), Nat.add_sub_cancel_left])]
      have eE : dv (fun z => if z = i then dv (fun z => D (i + z)) (k + 1) / dv v k else e z) 18 = dv e 18 + dv (fun z => D (i + z)) (k + 1) / dv v k * 32768 ^ i := by
        refine dv_upd (f := e) 18 (by omega) ?_ (fun z _ hz => if_neg hz)
        show (if i = i then _ else _) = _
        rw [if_pos rfl, he0 i (Nat.lt_succ_self i), Nat.zero_add]
      rw [eD, eE, ← hU, eR, Nat.add_mul]
      have h6 : 32768 ^ i * dv (fun z => D (i + z)) (k + 1) = dv (fun z => D (i + z)) (k + 1) / dv v k * 32768 ^ i * dv v k + 32768 ^ i * (dv (fun z => D (i + z)) (k + 1) % dv v k) := by
        rw [Nat.mul_right_comm, Nat.mul_comm _ (32768 ^ i), ← Nat.mul_add, Nat.mul_comm _ (dv v k), hdm]
      omega
/-- the divisor's highest digit is brought up -/
theorem s_9_14 {E : ox_E} (hE : ox_mono E) (hC : oCal S x) (hd : oDs S t2 g k) (hk : 1 ≤ k) (hg : g (k - 1) ≠ 0) (hQ : ∀ s, s ≤ 14 → g (k - 1) < 2 ^ (15 - s) → 16384 ≤ g (k - 1) * 2 ^ s → ∃ mc mk, mc ≤ mr ∧ mk ≤ sr ∧ E 10 [.inr (.inr t1), .inl (nI s), .inr (.inr (x + 1))] mc mk S (k_9_55 E x t1 t2 (nI k) (nI s) (mr - mc) (sr - mk) Q)) : ∀ (r s : Nat), s + r = 15 → g (k - 1) < 2 ^ (15 - s) → c_9_14 E x t1 t2 (nI k) (nI s) S mr sr Q
  | 0, s, hs, h => by
    have : 15 - s = 0 := by omega
    rw [this, Nat.pow_zero] at h
    exact absurd (Nat.lt_one_iff.mp h) hg
  | r + 1, s, hs, h => by
    have hC' := hC
    obtain ⟨C1, ⟨C2, C3, C4⟩, -⟩ := hC'
    have hd' := hd
    obtain ⟨d1, d2, d3, d4⟩ := hd'
    obtain ⟨e1, e2⟩ := d4 (k - 1) (by omega)
    have h2s : 2 ^ s ≤ 16384 := Nat.le_trans (Nat.pow_le_pow_right (by decide) (show s ≤ 14 by omega)) (by decide)
    have hgm : g (k - 1) * 2 ^ s ≤ 32767 * 16384 := Nat.mul_le_mul (by omega) h2s
    have ek1 : nI k - 1 = nI (k - 1) := pk_sub (b := 1) hk
    have es : nI (g (k - 1)) <<< (nI s &&& 31) = nI (g (k - 1) * 2 ^ s) := by
      rw [pk_andN (n := s) (m := 31) (by omega) 5 (by decide), Nat.mod_eq_of_lt (show s < 2 ^ 5 by omega), pk_shlN _ s (nI_smod (by omega)) (by omega)]
    refine f_9_14 hE ?_
    unfold q_9_14
    rw [C1, C2, d1, d2, ek1, nI_clamp (n := k - 1) (by omega), e1, es, nI_1]
    refine ⟨fun z => absurd z (nI_ge (b := 15) (by omega) (by decide)), fun _ => ⟨fun z => absurd z (nI_nle hk (by omega)), fun _ => ⟨rfl, vp_in_nI (by omega) (by omega), fun z => ⟨rfl, by decide, by decide, ?_⟩, fun z => ?_⟩⟩⟩
    · exact hQ s (by omega) h ((nI_leI (a := 16384) (by decide) (by omega)).mp z)
    · refine s_9_14 hE hC hd hk hg hQ r (s + 1) (by omega) ?_
      have hlt : g (k - 1) * 2 ^ s < 2 ^ (15 - (s + 1)) * 2 ^ s := by
        rw [← Nat.pow_add, show 15 - (s + 1) + s = 14 by omega]
        exact Nat.not_le.mp fun y => z (nI_le (a := 16384) y (by omega))
      exact Nat.lt_of_mul_lt_mul_right hlt
/-- divide -/
theorem s_9 (hsp : ox_mono sp) (hC : oCal S x) (h1 : oDs S t1 f n) (h2 : oDs S t2 g k) (cf : dc f n) (cg : dc g k) (hk : 1 ≤ k) (ht1 : t1 < x + 1 ∨ x + 3 < t1) (ht2 : t2 < x + 1 ∨ x + 3 < t2)
    (hQ : ∀ S' w e, oCw x S S' → (∀ z, z < 17 → S'.rI (x + 1) z = nI (w z)) → (∀ z, w z < 32768) → dv w 17 = dv f n % dv g k → (∀ z, z < 18 → S'.rI (x + 3) z = nI (e z) ∧ e z < 32768) → dv e 18 = dv f n / dv g k → Q (some (.inl (if dv f n % dv g k = 0 then 0 else 1))) S') : ox_M sp (d + 3) 9 [.inr (.inr x), .inr (.inr t1), .inr (.inr t2)] mr sr S Q := by
  have hE : ox_mono (ox_M sp (d + 2)) := ox_M_mono hsp _
  have hC' := hC
  obtain ⟨C1, ⟨C2, C3, C4⟩, ⟨C5, C6, C7⟩, C8, C9, C10⟩ := hC'
  have hn16 := h1.2.2.1
  have hk16 := h2.2.2.1
  have hg0 := cg.2 hk
  have hG := dc_pos cg (by omega)
  refine f_9 hsp ⟨by rw [C1]; rfl, by decide, by decide, 0, 0, Nat.zero_le _, Nat.zero_le _, ?_⟩
  rw [C8]
  refine s_228 hsp (N := 18) (by decide) C9 C10 (fun S1 b1 z1 => f_9_8 hE ?_)
  have g1 := oCw_but (x := x) b1 (by omega) (by omega)
  have hC1 := hC.cw g1
  have h11 := h1.cw g1 ht1
  have h21 := h2.cw g1 ht2
  unfold q_9_8
  rw [h21.1, h21.2.1]
  refine ⟨rfl, ?_⟩
  show c_9_14 (ox_M sp (d + 2)) x t1 t2 (nI k) (nI 0) S1 mr sr Q
  refine s_9_14 hE hC1 h21 hk hg0 (fun s hs hgs hgb => ⟨0, 0, Nat.zero_le _, Nat.zero_le _, ?_⟩) 15 0 rfl (cg.1 _ (by omega))
  refine s_10 hsp hs (by omega) (by decide) (by decide) h11 hC1.2.1.2.1 hC1.2.1.2.2 (fun S2 b2 u2 => f_9_55 hE ?_)
  have g2 := oCw_but (x := x) b2 (Nat.le_refl _) (by omega)
  have hC2 := hC1.cw g2
  have h12 := h11.cw g2 ht1
  have h22 := h21.cw g2 ht2
  obtain ⟨D1, ⟨D2, D3, D4⟩, ⟨D5, D6, D7⟩, D8, D9, D10⟩ := hC2
  refine ⟨by rw [D1]; rfl, by decide, by decide, 0, 0, Nat.zero_le _, Nat.zero_le _, ?_⟩
  rw [D5]
  refine s_10 hsp hs (by omega) (by decide) (by decide) h22 D6 D7 (fun S3 b3 u3 => f_9_65 hE ?_)
  have g3 := oCw_but (x := x) b3 (by omega) (by omega)
  have hC3 := (hC1.cw g2).cw g3
  have h13 := h12.cw g3 ht1
  have g123 := (g1.trans g2).trans g3
  -- the rows and their values
  have hwork : ∀ z, z < 34 → S3.rI (x + 1) z = nI (uU s f n z) := fun z hz => by
    obtain ⟨-, -, -, -, -, g6, -⟩ := b3.1 (x + 1) (by omega)
    rw [g6 z]; exact u2 z hz
  have hrat : ∀ z, z < 18 → S3.rI (x + 3) z = nI 0 := fun z hz => by
    obtain ⟨-, -, -, -, -, g6, -⟩ := b3.1 (x + 3) (by omega)
    obtain ⟨-, -, -, -, -, g7, -⟩ := b2.1 (x + 3) (by omega)
    rw [g6 z, g7 z]; exact z1 z hz
  have vU : dv (uU s f n) 34 = 2 ^ s * dv f n := by
    have := uU_dv (s := s) (f := f) (n := n) (33 - n)
    rw [show n + 1 + (33 - n) = 34 by omega] at this
    exact this
  have h2p : 0 < 2 ^ s := Nat.pow_pos (by decide)
  have hGl : 2 ^ s * dv g k < 32768 ^ k := by
    obtain ⟨c, rfl⟩ : ∃ c, k = c + 1 := ⟨k - 1, by omega⟩
    rw [show c + 1 - 1 = c from rfl] at hgs
    have e1 : dv g c < 32768 ^ c := dv_lt c (fun j hj => cg.1 j (by omega))
    have e2 : (g c + 1) * 2 ^ s ≤ 2 ^ (15 - s) * 2 ^ s := Nat.mul_le_mul_right _ hgs
    rw [Nat.mul_comm (2 ^ (15 - s)), p15 (by omega)] at e2
    have e3 : dv g (c + 1) < (g c + 1) * 32768 ^ c := by
      show dv g c + g c * 32768 ^ c < _
      rw [Nat.add_mul, Nat.one_mul]; omega
    have e4 : 2 ^ s * dv g (c + 1) < 2 ^ s * ((g c + 1) * 32768 ^ c) := Nat.mul_lt_mul_of_pos_left e3 h2p
    have e5 : 2 ^ s * ((g c + 1) * 32768 ^ c) ≤ 32768 * 32768 ^ c := by
      rw [← Nat.mul_assoc, Nat.mul_comm (2 ^ s)]
      exact Nat.mul_le_mul_right _ e2
    rw [Nat.pow_succ, Nat.mul_comm (32768 ^ c)]
    omega
  have vV1 : dv (uU s g k) (k + 1) = 2 ^ s * dv g k := uU_dv (s := s) (f := g) (n := k) 0
  have hvk : uU s g k k = 0 := dv_small (k + 1) (by rw [vV1]; exact hGl) k (Nat.le_refl k) (Nat.lt_succ_self k)
  have vV : dv (uU s g k) k = 2 ^ s * dv g k := by
    rw [← vV1]
    show _ = dv (uU s g k) k + uU s g k k * 32768 ^ k
    rw [hvk, Nat.zero_mul, Nat.add_zero]
  have hvh : 16384 ≤ uU s g k (k - 1) := by
    have hc := cU_lt (s := s) (f := g) (k - 1) (fun j hj => cg.1 j (by omega))
    have e2 : (g (k - 1) + 1) * 2 ^ s ≤ 2 ^ (15 - s) * 2 ^ s := Nat.mul_le_mul_right _ hgs
    rw [Nat.mul_comm (2 ^ (15 - s)), p15 (by omega), Nat.add_mul, Nat.one_mul] at e2
    unfold uU wU
    rw [if_pos (by omega), Nat.mod_eq_of_lt (by omega)]
    omega
  -- the end
  have fin : ∀ S D e, oCw x S1 S → oCal S x → (∀ z, D z < 32768) → (∀ z, z < 34 → S.rI (x + 1) z = nI (D z)) → (∀ z, z < 18 → S.rI (x + 3) z = nI (e z) ∧ e z < 32768) → dv D 34 < dv (uU s g k) k → dv e 18 * dv (uU s g k) k + dv D 34 = 2 ^ s * dv f n → c_9_113 (ox_M sp (d + 2)) x t1 t2 (nI k) (nI s) 0 0 S mr sr Q := by
    intro S4 D e t4 hC4 hD hw4 he4 hlt hU
    rw [vV] at hlt hU
    have hdiv : dv e 18 = dv f n / dv g k ∧ dv D 34 = 2 ^ s * (dv f n % dv g k) := by
      have hp : 0 < 2 ^ s * dv g k := Nat.mul_pos h2p hG
      have e1 : (2 ^ s * dv f n) / (2 ^ s * dv g k) = dv e 18 := by
        rw [← hU, Nat.mul_comm (dv e 18), Nat.mul_add_div hp, Nat.div_eq_of_lt hlt, Nat.add_zero]
      have e2 : (2 ^ s * dv f n) % (2 ^ s * dv g k) = dv D 34 := by
        rw [← hU, Nat.mul_comm (dv e 18), Nat.mul_add_mod, Nat.mod_eq_of_lt hlt]
      rw [Nat.mul_div_mul_left _ _ h2p] at e1
      rw [Nat.mul_mod_mul_left] at e2
      exact ⟨e1.symm, e2.symm⟩
    have hD34 : dv D 34 < 32768 ^ 16 := Nat.lt_of_lt_of_le (Nat.lt_trans hlt hGl) (Nat.pow_le_pow_right (by decide) hk16)
    have hz := dv_small 34 hD34
    have h17 : dv D 17 = dv D 34 := (dv_zero (f := D) (n := 17) 17 (fun z q1 q2 => hz z (by omega) (by omega))).symm
    have hlowd : D 0 % 2 ^ s = 0 := by
      have e0 : dv D 34 = D 0 + 32768 * dv (fun z => D (z + 1)) 33 := dv_cons D 33
      rw [hdiv.2] at e0
      have e1 : 32768 = 2 ^ s * 2 ^ (15 - s) := (p15 (by omega)).symm
      have e2 : 2 ^ s ∣ D 0 + 32768 * dv (fun z => D (z + 1)) 33 := by rw [← e0]; exact Nat.dvd_mul_right _ _
      have e3 : 2 ^ s ∣ 32768 * dv (fun z => D (z + 1)) 33 := Nat.dvd_trans ⟨2 ^ (15 - s), e1⟩ (Nat.dvd_mul_right _ _)
      exact Nat.mod_eq_zero_of_dvd ((Nat.dvd_add_left e3).mp e2)
    have hv17 : dv (wV s D) 17 = dv f n % dv g k := by
      have e0 := wV_dv (s := s) (D := D) (by omega) 17
      rw [hlowd, hz 17 (by omega) (by omega), Nat.zero_mod, Nat.zero_mul, Nat.add_zero, Nat.add_zero, h17, hdiv.2] at e0
      exact (Nat.mul_left_cancel h2p e0).symm
    show c_9_113 (ox_M sp (d + 2)) x t1 t2 (nI k) (nI s) (if dv (wV s D) 0 = 0 then 0 else 1) (nI 0) S4 mr sr Q
    refine s_9_113 hE hs hD 17 0 S4 rfl hC4 (fun z hz => by rw [if_neg (Nat.not_lt_zero z)]; exact hw4 z hz) (fun S5 b5 w5 => ?_)
    rw [hv17]
    refine hQ S5 (wV s D) e ((g1.trans t4).trans (oCw_but (x := x) b5 (Nat.le_refl _) (by omega))) w5 (wV_lt (by omega) hD) hv17 (fun z hz => ?_) hdiv.1
    obtain ⟨-, -, -, -, -, g6, -⟩ := b5.1 (x + 3) (by omega)
    rw [g6 z]; exact he4 z hz
  have hb1 : ∀ z, uU s f n z < 32768 := uU_lt hs cf.1
  have hb2 : ∀ z, uU s g k z < 32768 := uU_lt hs cg.1
  have e00 : dv (fun _ => 0) 18 = 0 := by decide
  unfold q_9_65
  rw [h13.1, h13.2.1]
  refine ⟨rfl, ?_⟩
  show c_9_71 (ox_M sp (d + 2)) x t1 t2 (nI k) (nI s) (nI n - nI k) S3 mr sr Q
  by_cases hnk : k ≤ n
  · rw [pk_sub hnk, ← nI_pred (n - k)]
    refine s_9_71 hsp (S0 := S1) (U := 2 ^ s * dv f n) (v := uU s g k) hk hk16 hvk hvh (by rw [vV]; exact hGl) fin (n - k + 1) S3 (uU s f n) (fun _ => 0) (by omega) (g2.trans g3) hC3 ⟨hwork, hb1, u3, hb2⟩ (fun z hz => ⟨hrat z hz, by decide⟩) (fun _ _ => rfl) ?_ (by rw [e00, Nat.zero_mul, Nat.zero_add, vU])
    rw [vU, vV, Nat.mul_assoc]
    refine Nat.mul_lt_mul_of_pos_left ?_ h2p
    refine Nat.lt_of_lt_of_le (dv_lt n cf.1) ?_
    have := Nat.mul_le_mul_right (32768 ^ (n - k + 1)) (dc_low cg hk)
    rw [← Nat.pow_add, show k - 1 + (n - k + 1) = n by omega] at this
    exact this
  · have hlt : nI n - nI k < 0 := by
      rw [Int32.lt_iff_toInt_lt, pk_sub_toInt (by omega) (by omega), show (0 : Int32).toInt = 0 from rfl]
      omega
    refine f_9_71 hE ⟨fun _ => fin S3 (uU s f n) (fun _ => 0) (g2.trans g3) hC3 hb1 hwork (fun z hz => ⟨hrat z hz, by decide⟩) ?_ (by rw [e00, Nat.zero_mul, Nat.zero_add, vU]), fun z => absurd hlt z⟩
    rw [vU, vV]
    refine Nat.mul_lt_mul_of_pos_left ?_ h2p
    exact Nat.lt_of_lt_of_le (dv_lt n cf.1) (Nat.le_trans (Nat.pow_le_pow_right (by decide) (by omega)) (dc_low cg hk))
end OCD
