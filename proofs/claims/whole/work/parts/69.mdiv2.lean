/-! the reference's calculations: divide, its whole -/
theorem nI_or {a b : Nat} (ha : a < 2 ^ 32) (hb : b < 2 ^ 32) : nI a ||| nI b = nI (a ||| b) := by
  refine Int32.toBitVec_inj.mp (BitVec.eq_of_toNat_eq ?_)
  rw [Int32.toBitVec_or, BitVec.toNat_or, pk_tn ha, pk_tn hb, pk_tn (Nat.or_lt_two_pow ha hb)]
theorem nI_sm : ∀ r : Fin 32, ((nI r.val).toBitVec.smod 32).toNat = r.val := by decide +kernel
theorem nI_smod {r : Nat} (h : r < 32) : ((nI r).toBitVec.smod 32).toNat = r := nI_sm ⟨r, h⟩
/-- a bit that isn't set yet -/
theorem or_bit {a r : Nat} (h : 2 ^ (r + 1) ∣ a) : a ||| 2 ^ r = a + 2 ^ r := by
  obtain ⟨c, rfl⟩ := h
  exact (Nat.two_pow_add_eq_or_of_lt (Nat.pow_lt_pow_right (by decide) (Nat.lt_succ_self r)) c).symm
section OMD2
variable {sp : ox_E} {d mr sr : Nat} {S : ox_St} {Q : ox_Q} {m ce : Nat} {f g : Nat → Nat} {n k u v : Nat} {p q : Int32}
theorem s_146_67 (hsp : ox_mono sp) {S0 : ox_St} (hn : n ≤ 16) (hk : k ≤ 16) (hf : ∀ j, j < n → f j < 32768) (cg : dc g k) (hV : 0 < dv g k)
    (hQ : ∀ S' R rs D, mTmp m S0 S' → mBoth S' m f n p g k q → S'.I 115 m = nI n → S'.I 116 m = nI rs → rs ≤ 18 → dc R rs → (∀ z, z < 18 → S'.rI (m + 29) z = nI (R z) ∧ R z < 32768) → dv R rs = dv f n % dv g k → (∀ z, z < n → S'.rI (m + 28) z = nI (D z) ∧ D z < 32768) → dv D n = dv f n / dv g k → Q none S') : ∀ (b : Nat) (S : ox_St) (R D : Nat → Nat) (rs : Nat), b ≤ 15 * n → mTmp m S0 S → oML S m ce → mBoth S m f n p g k q → S.I 115 m = nI n → (∀ z, z < 18 → S.rI (m + 29) z = nI (R z) ∧ R z < 32768) → dv R 18 = dv f n / 2 ^ b % dv g k → (∀ z, z < n → S.rI (m + 28) z = nI (D z) ∧ D z < 32768 ∧ 2 ^ (b - 15 * z) ∣ D z) → dv D n = dv f n / 2 ^ b / dv g k * 2 ^ b → rs ≤ 18 → S.I 116 m = nI rs → dc R rs → dv R rs = dv R 18 → c_146_67 (ox_M sp (d + 1)) m (nI b - 1) S mr sr Q
  | 0, S, R, D, rs, hb, t0, h, hB, h115, hR, vR, hD, vD, hrs, h116, cR, eR => by
    have hE : ox_mono (ox_M sp (d + 1)) := ox_M_mono hsp _
    refine f_146_67 hE ⟨fun _ => ⟨rfl, hQ S R rs D t0 hB h115 h116 hrs cR hR ?_ (fun z hz => ⟨(hD z hz).1, (hD z hz).2.1⟩) ?_⟩, fun z => absurd (by decide) z⟩
    · rw [eR, vR, Nat.pow_zero, Nat.div_one]
    · rw [vD, Nat.pow_zero, Nat.div_one, Nat.mul_one]
  | b + 1, S, R, D, rs, hb, t0, h, hB, h115, hR, vR, hD, vD, hrs, h116, cR, eR => by
    have hE : ox_mono (ox_M sp (d + 1)) := ox_M_mono hsp _
    obtain ⟨l1, l2, l3⟩ := h.row (F := 109) (o := 26) (k := 15) (n := 40) (by decide +kernel)
    have hz : b / 15 < n := Nat.div_lt_of_lt_mul (by omega)
    have hr : b % 15 < 15 := Nat.mod_lt _ (by decide)
    have hzr : 15 * (b / 15) + b % 15 = b := Nat.div_add_mod b 15
    have hfz := hf _ hz
    have hV16 : dv g k < 32768 ^ 16 := Nat.lt_of_lt_of_le (dv_lt k cg.1) (Nat.pow_le_pow_right (by decide) hk)
    -- the bit
    have hbit : f (b / 15) / 2 ^ (b % 15) % 2 = dv f n / 2 ^ b % 2 := by rw [dv_bit hf hz hr, hzr]
    obtain ⟨-, hlow, hhigh⟩ := div_bit (L := dv f n) (V := dv g k) (t := b) hV hbit
    have ebit : (nI (f (b / 15)) >>> (nI (b % 15) &&& 31)) &&& 1 = nI (f (b / 15) / 2 ^ (b % 15) % 2) := by
      rw [pk_andN (n := b % 15) (m := 31) (by omega) 5 (by decide), Nat.mod_eq_of_lt (show b % 15 < 2 ^ 5 by omega), pk_shrN (by omega) _ (b % 15) (nI_smod (by omega))]
      have := Nat.div_le_self (f (b / 15)) (2 ^ (b % 15))
      rw [pk_andN (m := 1) (by omega) 1 (by decide)]
    have hb1 : f (b / 15) / 2 ^ (b % 15) % 2 ≤ 1 := Nat.le_of_lt_succ (Nat.mod_lt _ (by decide))
    generalize f (b / 15) / 2 ^ (b % 15) % 2 = bt at hbit hlow hhigh ebit hb1
    rw [nI_pred]
    refine f_146_67 hE ?_
    unfold q_146_67
    have ed : nI b / 15 = nI (b / 15) := pk_div (d := 15) (by omega) (by decide) (by decide)
    have em : nI b - nI b / 15 * 15 = nI (b % 15) := pk_rem (d := 15) (by omega) (by decide) (by decide)
    rw [h.1, l1, l2, l3, em, ed, nI_clamp (n := b / 15) (by omega), hB.1 _ hz, ebit]
    refine ⟨fun z => absurd z (nI_pos (by omega)), fun _ => ⟨rfl, by decide, rfl, vp_in_nI (by omega) (by decide), by decide, ?_⟩⟩
    have vR2 : dv R 18 < dv g k := by rw [vR]; exact Nat.mod_lt _ hV
    have hbig : 2 * dv R 18 + bt < 32768 ^ 18 := by
      have : (32768 : Nat) ^ 18 = 32768 ^ 16 * 1073741824 := by rw [show (1073741824 : Nat) = 32768 ^ 2 by decide, ← Nat.pow_add]
      omega
    have vW := wB_dv (R := R) (b := bt) (n := 18) hbig
    refine s_146_90 hE (b := bt) (R := R) hb1 (fun z hz => (hR z hz).2) 18 0 S rfl h (fun z hz => by rw [if_neg (Nat.not_lt_zero z)]; exact (hR z hz).1) (fun S1 x2 x3 r1 i1 w1 => ?_)
    have M1 := h.tmp r1.1
    have B1 := hB.rs r1
    have hW : ∀ z, z < 18 → S1.rI (m + 29) z = nI (wB R bt z) ∧ wB R bt z < 32768 := fun z hz => ⟨w1 z hz, Nat.mod_lt _ (by decide)⟩
    refine s_146_138 hE (R := wB R bt) 18 S1 (by decide) M1 B1 i1 hW (fun S2 r2 i2 w2 => ?_)
    have M2 := M1.tmp r2.1
    have B2 := B1.rs r2
    have r12 := r1.trans r2
    have hW2 : ∀ z, z < 18 → S2.rI (m + 29) z = nI (wB R bt z) ∧ wB R bt z < 32768 := fun z hz => by rw [w2]; exact hW z hz
    obtain ⟨cW, eW⟩ := dct_dv (w := wB R bt) (N := 18) (fun i hi => (hW i hi).2)
    have hrs1 := dct_le (wB R bt) 18
    obtain ⟨d1, d2, d3⟩ := M2.row (F := 112) (o := 29) (k := 15) (n := 40) (by decide +kernel)
    obtain ⟨e1, e2, e3⟩ := M2.row (F := 110) (o := 27) (k := 15) (n := 40) (by decide +kernel)
    obtain ⟨g1, g2, g3⟩ := M2.row (F := 111) (o := 28) (k := 15) (n := 40) (by decide +kernel)
    have i115 : S2.I 115 m = nI n := (r12.2.1 115 (by decide)).trans h115
    have dig2 : S2.rI (m + 28) = S.rI (m + 28) := r12.2.2 _ (by omega)
    refine ⟨by decide, by decide, 0, 0, Nat.zero_le _, Nat.zero_le _, ?_⟩
    refine s_141 hsp d2 e2 d3 e3 ⟨by omega, by decide⟩ ⟨by omega, by decide⟩ (fun i hi => (hW2 i (by omega)).1) B2.2.2.2.1 cW cg ?_
    rw [eW, vW, vR]
    refine f_146_191 hE ⟨fun z => ?_, fun z => ?_⟩
    · have hge : dv g k ≤ 2 * (dv f n / 2 ^ (b + 1) % dv g k) + bt := Nat.not_lt.mp fun y => absurd (cmpN_neg.mpr y) (Int32.not_lt.mpr z)
      obtain ⟨u1, u2⟩ := hhigh hge
      obtain ⟨D1, D2, D3⟩ := hD _ hz
      have hdvd : 2 ^ (b % 15 + 1) ∣ D (b / 15) := by rw [show b % 15 + 1 = b + 1 - 15 * (b / 15) by omega]; exact D3
      have h2r : 2 ^ (b % 15) < 32768 := Nat.lt_of_lt_of_le (Nat.pow_lt_pow_right (by decide) hr) (by decide)
      have hlt : D (b / 15) + 2 ^ (b % 15) < 32768 := by
        rw [← or_bit hdvd]
        exact Nat.or_lt_two_pow (n := 15) D2 h2r
      have ed2 : S2.rI (m + 28) (b / 15) ||| (1 <<< (nI (b % 15) &&& 31)) = nI (D (b / 15) + 2 ^ (b % 15)) := by
        rw [dig2, D1, pk_andN (n := b % 15) (m := 31) (by omega) 5 (by decide), Nat.mod_eq_of_lt (show b % 15 < 2 ^ 5 by omega), show (1 : Int32) = nI 1 from rfl, pk_shlN (n := 1) _ (b % 15) (nI_smod (by omega)) (by omega), Nat.one_mul, nI_or (by omega) (by omega), or_bit hdvd]
      show ox_has (S2.K m) 111 = true ∧ _
      rw [M2.1, g1, g2, g3, em, ed, nI_clamp (n := b / 15) (by omega), ed2]
      refine ⟨rfl, by decide, rfl, by decide, rfl, vp_in_nI (by omega) (by decide), by decide, rfl, vp_in_nI (by omega) (by decide), ?_⟩
      have t3 : mTmp m S2 (S2.wI (m + 28) (b / 15) (nI (D (b / 15) + 2 ^ (b % 15)))) := mTmp_wI (by omega) (by omega)
      have B3 := B2.wI (i := b / 15) (v := nI (D (b / 15) + 2 ^ (b % 15)))
      have M3 := M2.tmp t3
      have dig3 : ∀ z, z < n → (S2.wI (m + 28) (b / 15) (nI (D (b / 15) + 2 ^ (b % 15)))).rI (m + 28) z = nI (if z = b / 15 then D (b / 15) + 2 ^ (b % 15) else D z) := by
        intro z hz2
        rw [or_wI_rI]
        by_cases hzz : z = b / 15
        · rw [if_pos ⟨rfl, hzz⟩, if_pos hzz]
        · rw [if_neg (fun y => hzz y.2), if_neg hzz, dig2]
          exact (hD z hz2).1
      have hW3 : ∀ z, z < 18 → (S2.wI (m + 28) (b / 15) (nI (D (b / 15) + 2 ^ (b % 15)))).rI (m + 29) z = nI (wB R bt z) := fun z hz2 => by
        rw [or_wI_rI, if_neg (fun y => by omega)]
        exact (hW2 z hz2).1
      have i3 : (S2.wI (m + 28) (b / 15) (nI (D (b / 15) + 2 ^ (b % 15)))).I 115 m = nI n := i115
      have i3b : (S2.wI (m + 28) (b / 15) (nI (D (b / 15) + 2 ^ (b % 15)))).I 116 m = nI (dct (wB R bt) 18) := i2
      generalize S2.wI (m + 28) (b / 15) (nI (D (b / 15) + 2 ^ (b % 15))) = S3 at t3 B3 M3 dig3 hW3 i3 i3b
      suffices hh : c_146_227 (ox_M sp (d + 1)) m (nI b) x2 (0 - nI (cD (wB R bt) (dg g k) 0)) (nI 0) S3 (mr - 0) (sr - 0) Q by
        have e0 : (0 - nI (cD (wB R bt) (dg g k) 0) : Int32) = 0 := by show (0 - nI 0 : Int32) = 0; decide
        rw [e0] at hh
        exact hh
      refine s_146_227 hE (R := wB R bt) (fun z hz => (hW z hz).2) cg.1 hk 18 0 S3 rfl M3 B3 (fun z hz => by rw [if_neg (Nat.not_lt_zero z)]; exact hW3 z hz) (fun S4 x3 x4 r4 i4 w4 => ?_)
      have M4 := M3.tmp r4.1
      have B4 := B3.rs r4
      have hF : ∀ i, i < 18 → wB R bt i < 32768 := fun i _ => Nat.mod_lt _ (by decide)
      have hF' : ∀ i, wB R bt i < 32768 := fun i => Nat.mod_lt _ (by decide)
      have hG : ∀ i, dg g k i < 32768 := fun i => dg_lt cg.1
      have vG : dv (dg g k) 18 = dv g k := dv_dgN (by omega)
      have vD4 : dv (wD (wB R bt) (dg g k)) 18 = dv (wB R bt) 18 - dv g k := by
        rw [wD_dvN hF' hG (by rw [vG, vW, vR]; exact hge), vG]
      have hR4 : ∀ z, z < 18 → S4.rI (m + 29) z = nI (wD (wB R bt) (dg g k) z) ∧ wD (wB R bt) (dg g k) z < 32768 := fun z hz => ⟨w4 z hz, wD_lt hF' hG z⟩
      refine s_146_291 hE (R := wD (wB R bt) (dg g k)) (dct (wB R bt) 18) S4 hrs1 M4 (i4.trans i3b) hR4 (fun S5 r5 i5 w5 => ?_)
      rw [← Int32.sub_eq_add_neg]
      have r45 := r4.trans r5
      obtain ⟨c5, e5⟩ := dct_dv (w := wD (wB R bt) (dg g k)) (N := dct (wB R bt) 18) (fun i hi => wD_lt hF' hG i)
      have hsm : dv (wD (wB R bt) (dg g k)) 18 < 32768 ^ dct (wB R bt) 18 := by
        have := dv_lt (dct (wB R bt) 18) cW.1
        omega
      have e6 : dv (wD (wB R bt) (dg g k)) (dct (wB R bt) 18) = dv (wD (wB R bt) (dg g k)) 18 := by
        obtain ⟨r, hr18⟩ := Nat.le.dest hrs1
        have := dv_zero (f := wD (wB R bt) (dg g k)) (n := dct (wB R bt) 18) r (fun i q1 q2 => dv_small 18 hsm i q1 (by omega))
        rw [hr18] at this
        exact this.symm
      have hle5 := dct_le (wD (wB R bt) (dg g k)) (dct (wB R bt) 18)
      refine s_146_67 hsp hn hk hf cg hV hQ b S5 (wD (wB R bt) (dg g k)) (fun z => if z = b / 15 then D (b / 15) + 2 ^ (b % 15) else D z) _ (by omega) (((t0.trans r12.1).trans t3).trans r45.1) (M3.tmp r45.1) (B3.rs r45) ((r45.2.1 115 (by decide)).trans i3) (fun z hz => by rw [w5]; exact hR4 z hz) ?_ (fun z hz2 => ⟨?_, ?_, ?_⟩) ?_ (Nat.le_trans hle5 hrs1) i5 c5 (e5.trans e6)
      · rw [vD4, vW, vR, u1]
      · rw [r45.2.2 _ (by omega)]
        exact dig3 z hz2
      · show (if z = b / 15 then D (b / 15) + 2 ^ (b % 15) else D z) < 32768
        by_cases hzz : z = b / 15
        · rw [if_pos hzz]; exact hlt
        · rw [if_neg hzz]; exact (hD z hz2).2.1
      · show 2 ^ (b - 15 * z) ∣ (if z = b / 15 then D (b / 15) + 2 ^ (b % 15) else D z)
        by_cases hzz : z = b / 15
        · rw [if_pos hzz, hzz, show b - 15 * (b / 15) = b % 15 by omega]
          exact Nat.dvd_add (Nat.dvd_trans (Nat.pow_dvd_pow 2 (Nat.le_succ _)) hdvd) (Nat.dvd_refl _)
        · rw [if_neg hzz]
          exact Nat.dvd_trans (Nat.pow_dvd_pow 2 (by omega)) (hD z hz2).2.2
      · rw [dv_upd (f := D) (f' := fun z => if z = b / 15 then D (b / 15) + 2 ^ (b % 15) else D z) (z := b / 15) (e := 2 ^ (b % 15)) n hz (if_pos rfl) (fun i _ hi => if_neg hi), vD, u2]
        have e7 : 2 ^ (b % 15) * 32768 ^ (b / 15) = 2 ^ b := by
          rw [show (32768 : Nat) = 2 ^ 15 by decide, ← Nat.pow_mul, ← Nat.pow_add, show b % 15 + 15 * (b / 15) = b by omega]
        rw [e7, Nat.add_mul, Nat.one_mul]
        generalize dv f n / 2 ^ (b + 1) / dv g k = X
        rw [Nat.pow_succ, Nat.mul_comm 2 X, Nat.mul_assoc, Nat.mul_comm (2 ^ b) 2]
    · have hlt : 2 * (dv f n / 2 ^ (b + 1) % dv g k) + bt < dv g k := cmpN_neg.mp (Int32.not_le.mp z)
      obtain ⟨u1, u2⟩ := hlow hlt
      rw [← Int32.sub_eq_add_neg]
      refine s_146_67 hsp hn hk hf cg hV hQ b S2 (wB R bt) D _ (by omega) (t0.trans r12.1) M2 B2 i115 hW2 ?_ (fun z hz2 => ⟨?_, (hD z hz2).2.1, ?_⟩) ?_ hrs1 i2 cW eW
      · rw [vW, vR, u1]
      · rw [dig2]; exact (hD z hz2).1
      · exact Nat.dvd_trans (Nat.pow_dvd_pow 2 (by omega)) (hD z hz2).2.2
      · rw [vD, u2]
        generalize dv f n / 2 ^ (b + 1) / dv g k = X
        rw [Nat.pow_succ, Nat.mul_comm 2 X, Nat.mul_assoc, Nat.mul_comm (2 ^ b) 2]
theorem s_146_36 (hsp : ox_mono sp) {E : ox_E} (hE : ox_mono E) (hn : n ≤ 16) : ∀ (r i : Nat) (S : ox_St), i + r = n → oML S m ce → mBoth S m f n p g k q → (∀ z, z < i → S.rI (m + 28) z = 0) → (∀ S', mTmp m S S' → mBoth S' m f n p g k q → S'.I 115 m = S.I 115 m → S'.I 116 m = S.I 116 m → S'.rI (m + 29) = S.rI (m + 29) → (∀ z, z < n → S'.rI (m + 28) z = 0) → c_146_67 E m (nI (15 * n) - 1) S' mr sr Q) → c_146_36 E m (nI i) S mr sr Q
  | 0, i, S, hi, h, hb, hz, hQ => by
    refine f_146_36 hE ?_
    unfold q_146_36
    rw [h.1, hb.2.1, show (15 : Int32) * nI n = nI (15 * n) from pk_mul 15 n]
    exact ⟨rfl, fun _ => ⟨rfl, hQ S mTmp.refl hb rfl rfl rfl (fun z hz2 => hz z (by omega))⟩, fun z => absurd (nI_le (by omega) (by omega)) z⟩
  | r + 1, i, S, hi, h, hb, hz, hQ => by
    obtain ⟨d1, d2, d3⟩ := h.row (F := 111) (o := 28) (k := 15) (n := 40) (by decide +kernel)
    refine f_146_36 hE ?_
    unfold q_146_36
    rw [h.1, hb.2.1, d1, d2, d3, nI_1, nI_clamp (n := i) (by omega)]
    have g' : mTmp m S (S.wI (m + 28) i 0) := mTmp_wI (by omega) (by omega)
    refine ⟨rfl, fun z => absurd z (nI_ge (by omega) (by omega)), fun _ => ⟨rfl, rfl, vp_in_nI (by omega) (by decide), s_146_36 hsp hE hn r (i + 1) _ (by omega) (h.tmp g') hb.wI (fun z hz2 => ?_) (fun S' e1 e2 e3 e4 e5 e6 => hQ S' (g'.trans e1) e2 e3 e4 (e5.trans (ox_u2_row _ _ (fun y => by omega))) e6)⟩⟩
    rw [or_wI_rI]
    by_cases hzi : z = i
    · rw [if_pos ⟨rfl, hzi⟩]
    · rw [if_neg (fun y => hzi y.2)]; exact hz z (by omega)
theorem s_146_7 {E : ox_E} (hE : ox_mono E) : ∀ (r i : Nat) (S : ox_St), i + r = 18 → oML S m ce → mBoth S m f n p g k q → (∀ z, z < i → S.rI (m + 29) z = 0) → (∀ S', mTmp m S S' → mBoth S' m f n p g k q → S'.I 115 m = nI n → S'.I 116 m = S.I 116 m → (∀ z, z < 18 → S'.rI (m + 29) z = 0) → c_146_36 E m 0 S' mr sr Q) → c_146_7 E m (nI i) S mr sr Q
  | 0, i, S, hi, h, hb, hz, hQ => by
    refine f_146_7 hE ?_
    unfold q_146_7
    rw [h.1, hb.2.1]
    refine ⟨fun _ => ⟨rfl, rfl, hQ _ (mTmp_sI (by decide) (by decide)) (hb.sI (by decide)) (if_pos ⟨rfl, rfl⟩) ?_ (fun z hz2 => hz z (by omega))⟩, fun z => absurd (nI_le (a := 18) (by omega) (by omega)) z⟩
    rw [or_sI_I, if_neg (fun z => by cases z.1)]
  | r + 1, i, S, hi, h, hb, hz, hQ => by
    obtain ⟨d1, d2, d3⟩ := h.row (F := 112) (o := 29) (k := 15) (n := 40) (by decide +kernel)
    refine f_146_7 hE ?_
    unfold q_146_7
    rw [h.1, d1, d2, d3, nI_1, nI_clamp (n := i) (by omega)]
    have g' : mRs m S (S.wI (m + 29) i 0) := mRs_wI
    refine ⟨fun z => absurd z (nI_ge (b := 18) (by omega) (by omega)), fun _ => ⟨rfl, rfl, vp_in_nI (by omega) (by decide), s_146_7 hE r (i + 1) _ (by omega) (h.tmp g'.1) (hb.rs g') (fun z hz2 => ?_) (fun S' e1 e2 e3 e4 e5 => hQ S' (g'.1.trans e1) e2 e3 e4 e5)⟩⟩
    rw [or_wI_rI]
    by_cases hzi : z = i
    · rw [if_pos ⟨rfl, hzi⟩]
    · rw [if_neg (fun y => hzi y.2)]; exact hz z (by omega)
/-- divide: quotient and rest of the sizes -/
theorem s_146 (hsp : ox_mono sp) (h : oML S m ce) (hB : mBoth S m f n p g k q) (hn : n ≤ 16) (hk : k ≤ 16) (hf : ∀ j, j < n → f j < 32768) (cg : dc g k) (hk0 : k ≠ 0)
    (hQ : ∀ S' R rs D, mTmp m S S' → mBoth S' m f n p g k q → S'.I 115 m = nI n → S'.I 116 m = nI rs → rs ≤ 18 → dc R rs → (∀ z, z < 18 → S'.rI (m + 29) z = nI (R z) ∧ R z < 32768) → dv R rs = dv f n % dv g k → (∀ z, z < n → S'.rI (m + 28) z = nI (D z) ∧ D z < 32768) → dv D n = dv f n / dv g k → Q none S') : ox_M sp (d + 2) 146 [.inr (.inr m)] mr sr S Q := by
  have hE : ox_mono (ox_M sp (d + 1)) := ox_M_mono hsp _
  have hV : 0 < dv g k := dc_pos cg hk0
  have t1 : mTmp m S (S.sI 116 m 0) := mTmp_sI (by decide) (by decide)
  refine f_146 hsp ⟨by rw [h.1]; rfl, ?_⟩
  refine s_146_7 hE 18 0 (S.sI 116 m 0) rfl (h.tmp t1) (hB.sI (by decide)) (fun z hz => absurd hz (Nat.not_lt_zero z)) (fun S2 t2 B2 i1 i2 w2 => ?_)
  refine s_146_36 hsp hE hn n 0 S2 (Nat.zero_add n) ((h.tmp t1).tmp t2) B2 (fun z hz => absurd hz (Nat.not_lt_zero z)) (fun S3 t3 B3 i3 i4 w3 w4 => ?_)
  have hL : dv f n < 2 ^ (15 * n) := by
    rw [Nat.pow_mul]
    exact dv_lt n hf
  have hz18 : dv (fun _ => 0) 18 = 0 := by
    have := dv_zero (f := fun _ => 0) (n := 0) 18 (fun _ _ _ => rfl)
    rw [Nat.zero_add] at this
    exact this
  have hzn : dv (fun _ => 0) n = 0 := by
    have := dv_zero (f := fun _ => 0) (n := 0) n (fun _ _ _ => rfl)
    rw [Nat.zero_add] at this
    exact this
  refine s_146_67 hsp hn hk hf cg hV hQ (15 * n) S3 (fun _ => 0) (fun _ => 0) 0 (Nat.le_refl _) ((t1.trans t2).trans t3) (((h.tmp t1).tmp t2).tmp t3) B3 (i3.trans i1) (fun z hz => ⟨by rw [w3]; exact w2 z hz, by decide⟩) ?_ (fun z hz => ⟨w4 z hz, by decide, Nat.dvd_zero _⟩) ?_ (Nat.zero_le _) ?_ ⟨fun i hi => absurd hi (Nat.not_lt_zero i), fun z => absurd z (Nat.lt_irrefl 0)⟩ ?_
  · rw [hz18, Nat.div_eq_of_lt hL, Nat.zero_mod]
  · rw [hzn, Nat.div_eq_of_lt hL, Nat.zero_div, Nat.zero_mul]
  · rw [i4, i2]
    exact if_pos ⟨rfl, rfl⟩
  · rw [hz18]
    rfl
end OMD2
