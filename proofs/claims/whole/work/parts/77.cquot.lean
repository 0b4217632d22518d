/-! the class's quotient and rest -/
section OCQ
variable {d mr sr : Nat} {S : ox_St} {Q : ox_Q} {x a ta n b tb k : Nat} {f g : Nat → Nat} {p q : Int32}
/-- the quotient's end -/
theorem s_7f {S0 : ox_St} {x3 x5 x6 mn : Int32} {e : Nat → Nat} {X : Nat} (hxn : x + 3 < S0.n) (hm : 2 ≤ mr) (hs : 20 ≤ sr) (hX : X < 32768 ^ 16) (hmn : mn = if p = q then 0 else 1)
    (hQ1 : ∀ S' w c r, S'.n = S0.n + 2 → oAg (oKq S0.n x) S0 S' → oNm S' S0.n (S0.n + 1) w c r ∧ S'.I 6 S0.n = 3 → nv w c r = (if p = q then (X : Int) else -(X : Int)) → Q (some (.inr (.inr S0.n))) S') (t0 : oCw x S0 S) (hC : oCal S x) (he : ∀ z, z < 18 → S.rI (x + 3) z = nI (e z) ∧ e z < 32768) (hv : dv e 18 = X) : ox_M lw_sp (d + 5) 14 [.inr (.inr (x + 3)), .inl (nI 18), .inl mn] 2 20 S (k_7_117 (ox_M lw_sp (d + 5)) x a b x3 mn x5 x6 (mr - 2) (sr - 20) Q) := by
  have hE : ox_mono (ox_M lw_sp (d + 5)) := ox_M_mono lw_sp_mono _
  have en : S.n = S0.n := t0.2.2.1
  obtain ⟨C1, -, -, C8, C9, C10⟩ := hC
  have hmn2 : mn = 0 ∨ mn = 1 := by
    by_cases z : p = q
    · rw [if_pos z] at hmn; exact Or.inl hmn
    · rw [if_neg z] at hmn; exact Or.inr hmn
  refine s_14v (d := d) (Ln := 18) (n := 18) (w := e) C9 C10 (by decide) (by decide) (by rw [en]; omega) hmn2 (by decide) (by decide) (by decide) he (fun S' w' c r e1 e2 e3 e4 => ?_) (fun e1 => absurd hX (by rw [← hv]; exact Nat.not_lt.mpr e1))
  rw [en] at e1 e2 e3 ⊢
  refine f_7_117 hE ⟨rfl, hQ1 S' w' c r e1 ((t0.ag.sub (fun y hy => hy.2)).trans (e2.sub (fun y hy => hy.1))) e3 ?_⟩
  rw [e4, hv, hmn]
  by_cases z : p = q
  · rw [if_pos z, if_pos rfl, if_pos z]
  · rw [if_neg z, if_neg (by decide), if_neg z]
/-- nothing more is carried -/
theorem s_7_50a {S0 : ox_St} {x3 x6 mn : Int32} {e : Nat → Nat} {X : Nat} (hxn : x + 3 < S0.n) (hm : 2 ≤ mr) (hs : 20 ≤ sr) (hX : X < 32768 ^ 16) (hmn : mn = if p = q then 0 else 1)
    (hQ1 : ∀ S' w c r, S'.n = S0.n + 2 → oAg (oKq S0.n x) S0 S' → oNm S' S0.n (S0.n + 1) w c r ∧ S'.I 6 S0.n = 3 → nv w c r = (if p = q then (X : Int) else -(X : Int)) → Q (some (.inr (.inr S0.n))) S') (t0 : oCw x S0 S) (hC : oCal S x) (he : ∀ z, z < 18 → S.rI (x + 3) z = nI (e z) ∧ e z < 32768) (hv : dv e 18 = X) : c_7_50 (ox_M lw_sp (d + 5)) x a b x3 mn 0 x6 S mr sr Q := by
  have hE : ox_mono (ox_M lw_sp (d + 5)) := ox_M_mono lw_sp_mono _
  have hC' := hC
  obtain ⟨C1, -, -, C8, C9, C10⟩ := hC'
  refine f_7_50 hE ?_
  unfold q_7_50
  rw [C1, C8, C9, C10]
  exact ⟨rfl, rfl, fun _ => ⟨rfl, rfl, rfl, by decide, by decide, 2, 20, hm, hs, s_7f hxn hm hs hX hmn hQ1 t0 hC he hv⟩, fun _ => ⟨fun _ => ⟨rfl, rfl, rfl, by decide, by decide, 2, 20, hm, hs, s_7f hxn hm hs hX hmn hQ1 t0 hC he hv⟩, fun z => absurd (by decide) z⟩⟩
/-- one more is carried -/
theorem s_7_50b {S0 : ox_St} {x3 mn : Int32} {X : Nat} (hxn : x + 3 < S0.n) (hm : 2 ≤ mr) (hs : 20 ≤ sr) (hX : X < 32768 ^ 16) (hmn : mn = if p = q then 0 else 1)
    (hQ1 : ∀ S' w c r, S'.n = S0.n + 2 → oAg (oKq S0.n x) S0 S' → oNm S' S0.n (S0.n + 1) w c r ∧ S'.I 6 S0.n = 3 → nv w c r = (if p = q then (X : Int) else -(X : Int)) → Q (some (.inr (.inr S0.n))) S') : ∀ (r j : Nat) (S : ox_St) (e : Nat → Nat), j + r = 17 → oCw x S0 S → oCal S x → (∀ z, z < 18 → S.rI (x + 3) z = nI (e z) ∧ e z < 32768) → dv e 18 + 32768 ^ j = X → c_7_50 (ox_M lw_sp (d + 5)) x a b x3 mn 1 (nI j) S mr sr Q
  | 0, j, S, e, hj, t0, hC, he, hv => by
    have : 32768 ^ 16 ≤ 32768 ^ j := Nat.pow_le_pow_right (by decide) (by omega)
    omega
  | r + 1, j, S, e, hj, t0, hC, he, hv => by
    have hE : ox_mono (ox_M lw_sp (d + 5)) := ox_M_mono lw_sp_mono _
    have hC' := hC
    obtain ⟨C1, -, -, C8, C9, C10⟩ := hC'
    obtain ⟨e1, e2⟩ := he j (by omega)
    have e3 : nI (e j + 1) &&& 32767 = nI ((e j + 1) % 32768) := and_nI _
    have e4 : nI (e j + 1) >>> (15 &&& 31) = nI ((e j + 1) / 2 ^ 15) := pk_shrN (by omega) _ 15 (by decide)
    refine f_7_50 hE ?_
    unfold q_7_50
    rw [C1, C8, C9, C10, show Int32.ofNat 18 = nI 18 from rfl, nI_clamp (n := j) (by omega), e1, nI_1, nI_1]
    refine ⟨rfl, rfl, fun z => absurd z (nI_ge (by omega) (by decide)), fun _ => ⟨fun z => absurd z (by decide), fun _ => ⟨rfl, rfl, vp_in_nI (by omega) (by decide), rfl, rfl, vp_in_nI (by omega) (by decide), ?_⟩⟩⟩
    rw [e3, e4]
    show c_7_50 (ox_M lw_sp (d + 5)) x a b x3 mn (nI ((e j + 1) / 2 ^ 15)) (nI (j + 1)) (S.wI (x + 3) j (nI ((e j + 1) % 32768))) mr sr Q
    have g1 : oCw x S (S.wI (x + 3) j (nI ((e j + 1) % 32768))) := oCw_wI (by omega) (by omega)
    have he' : ∀ z, z < 18 → (S.wI (x + 3) j (nI ((e j + 1) % 32768))).rI (x + 3) z = nI (if z = j then (e j + 1) % 32768 else e z) ∧ (if z = j then (e j + 1) % 32768 else e z) < 32768 := by
      intro z hz
      rw [or_wI_rI]
      by_cases z1 : z = j
      · rw [if_pos ⟨rfl, z1⟩, if_pos z1]; exact ⟨rfl, Nat.mod_lt _ (by decide)⟩
      · rw [if_neg (fun y => z1 y.2), if_neg z1]; exact he z hz
    by_cases hc : e j + 1 < 32768
    · have hd0 : (e j + 1) / 2 ^ 15 = 0 := Nat.div_eq_of_lt hc
      rw [hd0]
      refine s_7_50a hxn hm hs hX hmn hQ1 (t0.trans g1) (hC.cw g1) he' ?_
      rw [dv_upd (f := e) (e := 1) 18 (show j < 18 by omega) (by show (if j = j then _ else _) = _; rw [if_pos rfl, Nat.mod_eq_of_lt hc]) (fun z _ hz => if_neg hz), Nat.one_mul]
      exact hv
    · have hd1 : (e j + 1) / 2 ^ 15 = 1 := by omega
      rw [hd1]
      refine s_7_50b hxn hm hs hX hmn hQ1 r (j + 1) _ _ (by omega) (t0.trans g1) (hC.cw g1) he' ?_
      have := dv_upd (f := fun z => if z = j then (e j + 1) % 32768 else e z) (f' := e) (z := j) (e := 32767) 18 (by omega) (by show e j = (if j = j then _ else _) + _; rw [if_pos rfl]; omega) (fun z _ hz => (if_neg hz).symm)
      rw [Nat.pow_succ]
      omega
/-- quotient -/
theorem s_7 (hC : oCal S x) (ha : oNm S a ta f n p) (hb : oNm S b tb g k q) (hk : k ≠ 0) (hta : ta < x + 1 ∨ x + 3 < ta) (htb : tb < x + 1 ∨ x + 3 < tb) (hxn : x + 3 < S.n) (hm : 2 ≤ mr) (hs : 20 ≤ sr)
    (hQ1 : ∀ S' w c r, S'.n = S.n + 2 → oAg (oKq S.n x) S S' → oNm S' S.n (S.n + 1) w c r ∧ S'.I 6 S.n = 3 → nv w c r = qZ 0 p q (dv f n) (dv g k) → Q (some (.inr (.inr S.n))) S') : ox_M lw_sp (d + 6) 7 [.inr (.inr x), .inr (.inr a), .inr (.inr b)] mr sr S Q := by
  have hE : ox_mono (ox_M lw_sp (d + 5)) := ox_M_mono lw_sp_mono _
  have ha' := ha
  have hb' := hb
  obtain ⟨a1, a2, a3, a4, a5, a6, a7⟩ := ha'
  obtain ⟨b1, b2, b3, b4, b5, b6, b7⟩ := hb'
  have hG := dc_pos b4 hk
  have hF : dv f n < 32768 ^ 16 := Nat.lt_of_lt_of_le (dv_lt n a4.1) (Nat.pow_le_pow_right (by decide) a3.2.2.1)
  have hX := qN_lt (p := p) (q := q) hF hG
  have hQ2 : ∀ S' w c r, S'.n = S.n + 2 → oAg (oKq S.n x) S S' → oNm S' S.n (S.n + 1) w c r ∧ S'.I 6 S.n = 3 → nv w c r = (if p = q then (qN p q (dv f n) (dv g k) : Int) else -(qN p q (dv f n) (dv g k) : Int)) → Q (some (.inr (.inr S.n))) S' :=
    fun S' w c r e1 e2 e3 e4 => hQ1 S' w c r e1 e2 e3 (by unfold qZ; rw [if_pos rfl]; exact e4)
  refine f_7 lw_sp_mono ?_
  unfold q_7
  rw [a1, a2, b1, b2, hC.1]
  refine ⟨rfl, rfl, by decide, rfl, by decide, 0, 0, Nat.zero_le _, Nat.zero_le _, ?_⟩
  refine s_9 (d := d + 2) lw_sp_mono hC a3 b3 a4 b4 (Nat.pos_of_ne_zero hk) hta htb (fun S1 w e t1 w1 wl vw e1 ve => f_7_12 hE ?_)
  have hC1 := hC.cw t1
  have ha1 := ha.cw t1 hta
  have hb1 := hb.cw t1 htb
  unfold q_7_12
  rw [ha1.1, hb1.1, ha1.2.2.2.2.1, hb1.2.2.2.2.1]
  refine ⟨rfl, rfl, fun z => ⟨fun _ => ?_, fun y => absurd rfl y⟩, fun z => ⟨fun y => absurd y (by decide), fun _ => ⟨fun y => ?_, fun y => ?_⟩⟩⟩
  · refine s_7_50a hxn hm hs hX (by rw [if_pos z]) hQ2 t1 hC1 e1 ?_
    rw [ve]; unfold qN; rw [if_pos z]
  · have y0 : dv f n % dv g k = 0 := Decidable.not_not.mp fun w => by rw [if_neg w] at y; exact absurd y (by decide)
    refine s_7_50a hxn hm hs hX (by rw [if_neg z]) hQ2 t1 hC1 e1 ?_
    rw [ve]; unfold qN; rw [if_neg z, if_pos y0]
  · have y0 : ¬ dv f n % dv g k = 0 := fun w => by rw [if_pos w] at y; exact absurd rfl y
    refine s_7_50b hxn hm hs hX (by rw [if_neg z]) hQ2 17 0 S1 e rfl t1 hC1 e1 ?_
    rw [ve, Nat.pow_zero]; unfold qN; rw [if_neg z, if_neg y0]
/-- the rest's end -/
theorem s_8f {S0 : ox_St} {x3 : Int32} {w : Nat → Nat} {X : Nat} (hxn : x + 3 < S0.n) (hm : 2 ≤ mr) (hs : 20 ≤ sr) (hX : X < 32768 ^ 16) (hq : q = 0 ∨ q = 1)
    (hQ1 : ∀ S' w c r, S'.n = S0.n + 2 → oAg (oKq S0.n x) S0 S' → oNm S' S0.n (S0.n + 1) w c r ∧ S'.I 6 S0.n = 3 → nv w c r = (if q = 0 then (X : Int) else -(X : Int)) → Q (some (.inr (.inr S0.n))) S') (t0 : oCw x S0 S) (hC : oCal S x) (hw : ∀ z, z < 16 → S.rI (x + 1) z = nI (w z) ∧ w z < 32768) (hv : dv w 16 = X) : ox_M lw_sp (d + 5) 14 [.inr (.inr (x + 1)), .inl 16, .inl q] 2 20 S (k_8_107 (ox_M lw_sp (d + 5)) x a b x3 (mr - 2) (sr - 20) Q) := by
  have hE : ox_mono (ox_M lw_sp (d + 5)) := ox_M_mono lw_sp_mono _
  have en : S.n = S0.n := t0.2.2.1
  obtain ⟨C1, ⟨C2, C3, C4⟩, -⟩ := hC
  refine s_14v (d := d) (Ln := 34) (n := 16) (w := w) C3 C4 (by decide) (by decide) (by rw [en]; omega) hq (by decide) (by decide) (by decide) hw (fun S' w' c r e1 e2 e3 e4 => ?_) (fun e1 => absurd hX (by rw [← hv]; exact Nat.not_lt.mpr e1))
  rw [en] at e1 e2 e3 ⊢
  refine f_8_107 hE ⟨rfl, hQ1 S' w' c r e1 ((t0.ag.sub (fun y hy => hy.2)).trans (e2.sub (fun y hy => hy.1))) e3 ?_⟩
  rw [e4, hv]
theorem s_8_34 {S0 : ox_St} {x3 : Int32} {w : Nat → Nat} {X : Nat} (htb : tb < x + 1 ∨ x + 3 < tb) (hxn : x + 3 < S0.n) (hm : 2 ≤ mr) (hs : 20 ≤ sr) (hX : X < 32768 ^ 16)
    (hQ1 : ∀ S' w c r, S'.n = S0.n + 2 → oAg (oKq S0.n x) S0 S' → oNm S' S0.n (S0.n + 1) w c r ∧ S'.I 6 S0.n = 3 → nv w c r = (if q = 0 then (X : Int) else -(X : Int)) → Q (some (.inr (.inr S0.n))) S') (wl : ∀ z, w z < 32768) (hv : dv (wD (dg g k) w) 16 = X) : ∀ (r i : Nat) (S : ox_St), i + r = 16 → oCw x S0 S → oCal S x → oNm S b tb g k q → (∀ z, z < 16 → S.rI (x + 1) z = nI (if z < i then wD (dg g k) w z else w z)) → c_8_34 (ox_M lw_sp (d + 5)) x a b x3 (nI (cD (dg g k) w i)) (nI i) S mr sr Q
  | 0, i, S, hi, t0, hC, hb, hw => by
    have hE : ox_mono (ox_M lw_sp (d + 5)) := ox_M_mono lw_sp_mono _
    obtain rfl : i = 16 := by omega
    have hC' := hC
    obtain ⟨C1, ⟨C2, C3, C4⟩, -⟩ := hC'
    obtain ⟨b1, b2, b3, b4, b5, b6, b7⟩ := hb
    refine f_8_34 hE ⟨fun _ => ⟨by rw [C1]; rfl, by rw [b1]; rfl, by decide, by decide, 2, 20, hm, hs, ?_⟩, fun z => absurd (by decide) z⟩
    rw [C2, b5]
    refine s_8f (w := wD (dg g k) w) hxn hm hs hX b6 hQ1 t0 hC (fun z hz => ⟨?_, wD_lt (fun i => dg_lt b4.1) wl z⟩) hv
    rw [hw z hz, if_pos hz]
  | r + 1, i, S, hi, t0, hC, hb, hw => by
    have hE : ox_mono (ox_M lw_sp (d + 5)) := ox_M_mono lw_sp_mono _
    have hC' := hC
    have hb' := hb
    obtain ⟨C1, ⟨C2, C3, C4⟩, -⟩ := hC'
    obtain ⟨b1, b2, b3, b4, b5, b6, b7⟩ := hb'
    have hGi : dg g k i < 32768 := dg_lt b4.1
    have hwi := wl i
    have hci := cD_le (f := dg g k) (g := w) i
    have er : S.rI (x + 1) i = nI (w i) := by rw [hw i (by omega), if_neg (by omega)]
    refine f_8_34 hE ⟨fun z => absurd z (nI_ge (b := 16) (by omega) (by decide)), fun _ => ⟨by rw [b1]; rfl, by decide, by decide, 0, 0, Nat.zero_le _, Nat.zero_le _, ?_⟩⟩
    rw [b2]
    refine s_13 lw_sp_mono b3 (by omega) (f_8_50 hE ?_)
    unfold q_8_50
    rw [C1, C2, C3, C4, nI_clamp (n := i) (by omega), er, nI_1]
    refine ⟨rfl, rfl, vp_in_nI (by omega) (by decide), rfl, rfl, vp_in_nI (by omega) (by decide), fun z => ?_, fun z => ?_⟩
    all_goals
      rw [dig_sub hGi hwi hci]
      have g1 : oCw x S (S.wI (x + 1) i (nI (wD (dg g k) w i))) := oCw_wI (by omega) (by omega)
      have hn : c_8_34 (ox_M lw_sp (d + 5)) x a b x3 (nI (cD (dg g k) w (i + 1))) (nI (i + 1)) (S.wI (x + 1) i (nI (wD (dg g k) w i))) mr sr Q := s_8_34 htb hxn hm hs hX hQ1 wl hv r (i + 1) (S.wI (x + 1) i (nI (wD (dg g k) w i))) (by omega) (t0.trans g1) (hC.cw g1) (hb.cw g1 htb) (fun z hz => by
        rw [or_wI_rI]
        by_cases z1 : z = i
        · rw [if_pos ⟨rfl, z1⟩, if_pos (by omega), z1]
        · rw [if_neg (fun y => z1 y.2), hw z hz]
          by_cases z2 : z < i
          · rw [if_pos z2, if_pos (by omega)]
          · rw [if_neg z2, if_neg (by omega)])
      have z' := z
      rw [dig_neg hGi hwi hci] at z'
      have ec : cD (dg g k) w (i + 1) = if w i + cD (dg g k) w i ≤ dg g k i then 0 else 1 := rfl
      rw [ec] at hn
      first
        | rw [if_pos z'] at hn; exact hn
        | rw [if_neg z'] at hn; exact hn
/-- rest -/
theorem s_8 (hC : oCal S x) (ha : oNm S a ta f n p) (hb : oNm S b tb g k q) (hk : k ≠ 0) (hta : ta < x + 1 ∨ x + 3 < ta) (htb : tb < x + 1 ∨ x + 3 < tb) (hxn : x + 3 < S.n) (hm : 2 ≤ mr) (hs : 20 ≤ sr)
    (hQ1 : ∀ S' w c r, S'.n = S.n + 2 → oAg (oKq S.n x) S S' → oNm S' S.n (S.n + 1) w c r ∧ S'.I 6 S.n = 3 → nv w c r = qZ 1 p q (dv f n) (dv g k) → Q (some (.inr (.inr S.n))) S') : ox_M lw_sp (d + 6) 8 [.inr (.inr x), .inr (.inr a), .inr (.inr b)] mr sr S Q := by
  have hE : ox_mono (ox_M lw_sp (d + 5)) := ox_M_mono lw_sp_mono _
  have ha' := ha
  have hb' := hb
  obtain ⟨a1, a2, a3, a4, a5, a6, a7⟩ := ha'
  obtain ⟨b1, b2, b3, b4, b5, b6, b7⟩ := hb'
  have hG := dc_pos b4 hk
  have hG16 : dv g k < 32768 ^ 16 := Nat.lt_of_lt_of_le (dv_lt k b4.1) (Nat.pow_le_pow_right (by decide) b3.2.2.1)
  have hX : rN p q (dv f n) (dv g k) < 32768 ^ 16 := Nat.lt_trans (rN_lt hG) hG16
  have hmd := Nat.mod_lt (dv f n) hG
  have hQ2 : ∀ S' w c r, S'.n = S.n + 2 → oAg (oKq S.n x) S S' → oNm S' S.n (S.n + 1) w c r ∧ S'.I 6 S.n = 3 → nv w c r = (if q = 0 then (rN p q (dv f n) (dv g k) : Int) else -(rN p q (dv f n) (dv g k) : Int)) → Q (some (.inr (.inr S.n))) S' :=
    fun S' w c r e1 e2 e3 e4 => hQ1 S' w c r e1 e2 e3 (by unfold qZ; rw [if_neg (by decide)]; exact e4)
  refine f_8 lw_sp_mono ?_
  unfold q_8
  rw [a1, a2, b1, b2, hC.1]
  refine ⟨rfl, rfl, by decide, rfl, by decide, 0, 0, Nat.zero_le _, Nat.zero_le _, ?_⟩
  refine s_9 (d := d + 2) lw_sp_mono hC a3 b3 a4 b4 (Nat.pos_of_ne_zero hk) hta htb (fun S1 w e t1 w1 wl vw e1 ve => f_8_12 hE ?_)
  have hC1 := hC.cw t1
  have ha1 := ha.cw t1 hta
  have hb1 := hb.cw t1 htb
  have hw16 : w 16 = 0 := dv_small 17 (by rw [vw]; exact Nat.lt_trans hmd hG16) 16 (Nat.le_refl _) (by decide)
  have vw16 : dv w 16 = dv f n % dv g k := by
    rw [← vw]
    show _ = dv w 16 + w 16 * 32768 ^ 16
    rw [hw16, Nat.zero_mul, Nat.add_zero]
  have hww : ∀ z, z < 16 → S1.rI (x + 1) z = nI (w z) ∧ w z < 32768 := fun z hz => ⟨w1 z (by omega), wl z⟩
  unfold q_8_12
  rw [ha1.1, hb1.1, ha1.2.2.2.2.1, hb1.2.2.2.2.1, hC1.1, hC1.2.1.1]
  refine ⟨fun y => ⟨rfl, rfl, by decide, by decide, 2, 20, hm, hs, ?_⟩, fun y => ⟨rfl, rfl, fun z => ⟨rfl, rfl, by decide, by decide, 2, 20, hm, hs, ?_⟩, fun z => ?_⟩⟩
  · have y0 : dv f n % dv g k = 0 := Decidable.not_not.mp fun w => by rw [if_neg w] at y; exact absurd y (by decide)
    refine s_8f (w := w) hxn hm hs hX b6 hQ2 t1 hC1 hww ?_
    rw [vw16]
    unfold rN
    by_cases z : p = q
    · rw [if_pos z]
    · rw [if_neg z, if_pos y0, y0]
  · refine s_8f (w := w) hxn hm hs hX b6 hQ2 t1 hC1 hww ?_
    rw [vw16]
    unfold rN
    rw [if_pos z]
  · have y0 : ¬ dv f n % dv g k = 0 := fun w => by rw [if_pos w] at y; exact absurd rfl y
    show c_8_34 (ox_M lw_sp (d + 5)) x a b (if dv f n % dv g k = 0 then 0 else 1) (nI (cD (dg g k) w 0)) (nI 0) S1 mr sr Q
    refine s_8_34 (w := w) htb hxn hm hs hX hQ2 wl ?_ 16 0 S1 rfl t1 hC1 hb1 (fun z hz => by rw [if_neg (Nat.not_lt_zero z)]; exact w1 z (by omega))
    have vG : dv (dg g k) 16 = dv g k := dv_dgN b3.2.2.1
    rw [wD_dvN (fun i => dg_lt b4.1) wl (by rw [vG, vw16]; omega), vG, vw16]
    unfold rN
    rw [if_neg z, if_neg y0]
end OCQ
