/-! the reference's calculations: quotient and rest -/
/-- sizes of a quotient that is cut downwards, and of its rest -/
def qN (p q : Int32) (F G : Nat) : Nat := if p = q then F / G else if F % G = 0 then F / G else F / G + 1
def rN (p q : Int32) (F G : Nat) : Nat := if p = q then F % G else if F % G = 0 then 0 else G - F % G
/-- what is asked for: the quotient (o = 0) or the rest -/
def qZ (o p q : Int32) (F G : Nat) : Int := if o = 0 then (if p = q then (qN p q F G : Int) else -(qN p q F G : Int)) else if q = 0 then (rN p q F G : Int) else -(rN p q F G : Int)
theorem qN_lt {p q : Int32} {F G : Nat} (hF : F < 32768 ^ 16) (hG : 0 < G) : qN p q F G < 32768 ^ 16 := by
  have h1 := Nat.div_le_self F G
  unfold qN
  by_cases e : p = q
  · rw [if_pos e]; omega
  · rw [if_neg e]
    by_cases e2 : F % G = 0
    · rw [if_pos e2]; omega
    · rw [if_neg e2]
      have h2 : 2 ≤ G := by
        refine Nat.not_lt.mp fun h => e2 ?_
        rw [show G = 1 by omega, Nat.mod_one]
      have h3 : F / G ≤ F / 2 := Nat.div_le_div_left h2 (by decide)
      omega
theorem rN_lt {p q : Int32} {F G : Nat} (hG : 0 < G) : rN p q F G < G := by
  have h1 := Nat.mod_lt F hG
  unfold rN
  by_cases e : p = q
  · rw [if_pos e]; exact h1
  · rw [if_neg e]
    by_cases e2 : F % G = 0
    · rw [if_pos e2]; exact hG
    · rw [if_neg e2]; omega
section OMQ
variable {sp : ox_E} {d mr sr : Nat} {S : ox_St} {Q : ox_Q} {m ce : Nat} {f g : Nat → Nat} {n k u v : Nat} {p q : Int32}
/-- the end: digits are a number, its sign is told -/
theorem s_147n (hsp : ox_mono sp) {T N : Nat} {S0 : ox_St} {W : Nat → Nat} {mn : Int32} {V : Int} {R : ox_Q} (hmn : mn = 0 ∨ mn = 1) (hT16 : 16 ≤ T) (hT2 : T + 19 ≤ 1100000) (hT0 : S0.I 75 m = nI T) (hN : N ≤ 40) (t0 : mTmp m S0 S) (h : oML S m ce) (i1 : S.I 115 m = nI N) (hW : ∀ z, z < N → S.rI (m + 28) z = nI (W z) ∧ W z < 32768) (hv : V = if mn = 0 then (dv W N : Int) else -(dv W N : Int)) (hlt : dv W N < 32768 ^ 16)
    (hQ1 : ∀ S' w c r, mNw m ce T S0 S' → S'.I 75 m = nI (T + 3 + c) → mNum S' (m + ce) T w c r → dc w c → (c = 0 → r = 0) → nv w c r = V → R (some (.inl (nI T))) S') : ox_M sp (d + 2) 140 [.inr (.inr m)] mr sr (S.sI 119 m mn) R := by
  have hce := h.2.2.1
  have t3 : mTmp m S (S.sI 119 m mn) := mTmp_sI (by decide) (by decide)
  refine s_140v hsp (T := T) (N := N) (w := W) (mn := mn) hmn hT2 hT16 hN (h.tmp t3) ?_ (if_pos ⟨rfl, rfl⟩) ?_ hW (fun S' w' c r e1 e2 e3 e4 e5 e6 => hQ1 S' w' c r (((t0.trans t3).nw hce).trans e1) e2 e3 e4 e5 (e6.trans hv.symm)) (fun S' e1 e2 => absurd hlt (Nat.not_lt.mpr e2))
  · rw [or_sI_I, if_neg (fun z => by cases z.1)]; exact i1
  · rw [or_sI_I, if_neg (fun z => by cases z.1)]
    exact (t0.2.2.2.2.2.2.2.1 75 m (Or.inr (Or.inl (by decide)))).trans hT0
/-- one more: the nines go over -/
theorem s_147_174 (hsp : ox_mono sp) {T N : Nat} {S0 : ox_St} {x1 x2 x3 x4 : Int32} {V : Int} {X : Nat} (hT16 : 16 ≤ T) (hT2 : T + 19 ≤ 1100000) (hT0 : S0.I 75 m = nI T) (hN : N < 40) (hpq : ¬ p = q) (hX : X < 32768 ^ 16) (hV : V = -(X : Int))
    (hQ1 : ∀ S' w c r, mNw m ce T S0 S' → S'.I 75 m = nI (T + 3 + c) → mNum S' (m + ce) T w c r → dc w c → (c = 0 → r = 0) → nv w c r = V → Q (some (.inl (nI T))) S') : ∀ (r j : Nat) (S : ox_St) (D : Nat → Nat), j + r = N → mTmp m S0 S → oML S m ce → mBoth S m f n p g k q → S.I 115 m = nI (N + 1) → (∀ z, z < N + 1 → S.rI (m + 28) z = nI (D z) ∧ D z < 32768) → D N = 0 → dv D (N + 1) + 32768 ^ j = X → c_147_174 (ox_M sp (d + 2)) m x1 x2 x3 x4 (nI j) S mr sr Q := by
  have hE : ox_mono (ox_M sp (d + 2)) := ox_M_mono hsp _
  have stop : ∀ (j : Nat) (S : ox_St) (D : Nat → Nat), j ≤ N → mTmp m S0 S → oML S m ce → mBoth S m f n p g k q → S.I 115 m = nI (N + 1) → (∀ z, z < N + 1 → S.rI (m + 28) z = nI (D z) ∧ D z < 32768) → dv D (N + 1) + 32768 ^ j = X → D j < 32767 → ox_has 14 111 = true ∧ true = true ∧ vp_in (nI j) 40 ∧ 15 = 15 ∧ vp_in (nI j) 40 ∧ (let S1 := S.wI (m + 28) j (nI (D j) + 1)
  (ox_has (S1.K m) 117 = true ∧ (ox_has (S1.K m) 118 = true ∧ (((S1.I 117 m) = (S1.I 118 m) → (ox_has (S1.K m) 119 = true ∧ (((0 : Int32) = 0 ∨ (0 : Int32) = 1) ∧ (let S2 := S1.sI 119 m 0
  (1 ≤ 1 ∧ S2.K m = 14 ∧ 0 ≤ 8 ∧ ∃ mc3 mk4, mc3 ≤ mr ∧ mk4 ≤ sr ∧ ox_M sp (d + 2) 140 [.inr (.inr m)] mc3 mk4 S2 (k_147_236 (ox_M sp (d + 2)) m x1 x2 x3 x4 (mr - mc3) (sr - mk4) Q)))))) ∧ (¬ (S1.I 117 m) = (S1.I 118 m) → (ox_has (S1.K m) 119 = true ∧ (((1 : Int32) = 0 ∨ (1 : Int32) = 1) ∧ (let S5 := S1.sI 119 m 1
  (1 ≤ 1 ∧ S5.K m = 14 ∧ 0 ≤ 8 ∧ ∃ mc6 mk7, mc6 ≤ mr ∧ mk7 ≤ sr ∧ ox_M sp (d + 2) 140 [.inr (.inr m)] mc6 mk7 S5 (k_147_236 (ox_M sp (d + 2)) m x1 x2 x3 x4 (mr - mc6) (sr - mk7) Q)))))))))) := by
    intro j S D hj t0 h hb i1 hD hv hlt
    refine ⟨rfl, rfl, vp_in_nI (by omega) (by decide), rfl, vp_in_nI (by omega) (by decide), ?_⟩
    intro S1
    have t1 : mTmp m S S1 := mTmp_wI (by omega) (by omega)
    have M1 := h.tmp t1
    have B1 : mBoth S1 m f n p g k q := hb.wI
    have i1' : S1.I 115 m = nI (N + 1) := i1
    have hW : ∀ z, z < N + 1 → S1.rI (m + 28) z = nI (if z = j then D j + 1 else D z) ∧ (if z = j then D j + 1 else D z) < 32768 := by
      intro z hz
      refine ⟨?_, ?_⟩
      · show (S.wI (m + 28) j (nI (D j) + 1)).rI (m + 28) z = _
        rw [or_wI_rI, nI_1]
        by_cases hzj : z = j
        · rw [if_pos ⟨rfl, hzj⟩, if_pos hzj]
        · rw [if_neg (fun y => hzj y.2), if_neg hzj]; exact (hD z hz).1
      · by_cases hzj : z = j
        · rw [if_pos hzj]; omega
        · rw [if_neg hzj]; exact (hD z hz).2
    have vW : dv (fun z => if z = j then D j + 1 else D z) (N + 1) = X := by
      rw [dv_upd (f := D) (f' := fun z => if z = j then D j + 1 else D z) (z := j) (e := 1) (N + 1) (by omega) (if_pos rfl) (fun i _ hi => if_neg hi), Nat.one_mul]
      exact hv
    generalize S1 = S1 at t1 M1 B1 i1' hW
    rw [B1.2.2.1, B1.2.2.2.2.2]
    refine ⟨by rw [M1.1]; rfl, by rw [M1.1]; rfl, fun z => absurd z hpq, fun _ => ⟨by rw [M1.1]; rfl, Or.inr rfl, ?_⟩⟩
    refine ⟨by decide, M1.1, by decide, 0, 0, Nat.zero_le _, Nat.zero_le _, ?_⟩
    exact s_147n hsp (Or.inr rfl) hT16 hT2 hT0 (by omega) (t0.trans t1) M1 i1' hW (by rw [if_neg (by decide), vW, hV]) (by rw [vW]; exact hX) (fun S' w c r e1 e2 e3 e4 e5 e6 => f_147_236 hE ⟨trivial, hQ1 S' w c r e1 e2 e3 e4 e5 e6⟩)
  intro r
  induction r with
  | zero =>
    intro j S D hj t0 h hb i1 hD hDN hv
    obtain ⟨d1, d2, d3⟩ := h.row (F := 111) (o := 28) (k := 15) (n := 40) (by decide +kernel)
    obtain rfl : j = N := by omega
    refine f_147_174 hE ?_
    unfold q_147_174
    rw [show S.K m = 14 from h.1, d1, d2, d3, nI_clamp (n := j) (by omega), (hD j (by omega)).1]
    refine ⟨rfl, rfl, vp_in_nI (by omega) (by decide), fun _ => stop j S D (Nat.le_refl j) t0 h hb i1 hD hv (by rw [hDN]; decide), fun z => absurd z ?_⟩
    rw [hDN]
    decide
  | succ r ih =>
    intro j S D hj t0 h hb i1 hD hDN hv
    obtain ⟨d1, d2, d3⟩ := h.row (F := 111) (o := 28) (k := 15) (n := 40) (by decide +kernel)
    obtain ⟨D1, D2⟩ := hD j (by omega)
    refine f_147_174 hE ?_
    unfold q_147_174
    rw [show S.K m = 14 from h.1, d1, d2, d3, nI_1, nI_clamp (n := j) (by omega), D1]
    refine ⟨rfl, rfl, vp_in_nI (by omega) (by decide), fun z => stop j S D (by omega) t0 h hb i1 hD hv ?_, fun z => ⟨rfl, rfl, vp_in_nI (by omega) (by decide), ?_⟩⟩
    · have : D j ≠ 32767 := fun e => z (by rw [e]; decide)
      omega
    · have e9 : D j = 32767 := (nI_eq (b := 32767) (by omega) (by decide)).mp z
      have t1 : mTmp m S (S.wI (m + 28) j 0) := mTmp_wI (by omega) (by omega)
      refine ih (j + 1) _ (fun z => if z = j then 0 else D z) (by omega) (t0.trans t1) (h.tmp t1) hb.wI i1 (fun z hz => ⟨?_, ?_⟩) ?_ ?_
      · rw [or_wI_rI]
        by_cases hzj : z = j
        · rw [if_pos ⟨rfl, hzj⟩, if_pos hzj]; rfl
        · rw [if_neg (fun y => hzj y.2), if_neg hzj]; exact (hD z hz).1
      · show (if z = j then 0 else D z) < 32768
        by_cases hzj : z = j
        · rw [if_pos hzj]; decide
        · rw [if_neg hzj]; exact (hD z hz).2
      · show (if N = j then 0 else D N) = 0
        rw [if_neg (by omega)]; exact hDN
      · have e10 := dv_upd (f := fun z => if z = j then 0 else D z) (f' := D) (z := j) (e := 32767) (N + 1) (by omega) (by rw [if_pos rfl]; exact e9) (fun i _ hi => (if_neg hi).symm)
        rw [e10] at hv
        rw [Nat.pow_succ]
        omega
theorem s_147_87 {E : ox_E} (hE : ox_mono E) {x1 x2 x3 x4 : Int32} {R : Nat → Nat} {rs : Nat} (hrs : rs ≤ 18) : ∀ (r i : Nat) (S : ox_St), i + r = rs → oML S m ce → S.I 116 m = nI rs → (∀ z, z < rs → S.rI (m + 29) z = nI (R z)) → (∀ z, z < i → S.rI (m + 26) z = nI (R z)) → (∀ z, z < k → S.rI (m + 27) z = nI (g z)) → S.I 114 m = nI k → S.I 117 m = p → S.I 118 m = q → (∀ S' x5, mTmp m S S' → mBoth S' m R rs p g k q → 2 ≤ 2 ∧ S'.K m = 14 ∧ 0 ≤ 8 ∧ ∃ mc mk, mc ≤ mr ∧ mk ≤ sr ∧ E 143 [.inr (.inr m), .inl 1] mc mk S' (k_147_129 E m x1 x2 x3 x4 x5 (mr - mc) (sr - mk) Q)) → c_147_87 E m x1 x2 x3 x4 (nI i) S mr sr Q
  | 0, i, S, hi, h, h1, hR, hL, hG, i4, i7, i8, hQ => by
    refine f_147_87 hE ?_
    unfold q_147_87
    rw [h.1, h1]
    refine ⟨rfl, fun _ => ⟨rfl, rfl, hQ _ _ (mTmp_sI (by decide) (by decide)) ⟨fun j hj => hL j (by omega), if_pos ⟨rfl, rfl⟩, ?_, hG, ?_, ?_⟩⟩, fun z => absurd (nI_le (by omega) (by omega)) z⟩
    · rw [or_sI_I, if_neg (fun z => by cases z.1)]; exact i7
    · rw [or_sI_I, if_neg (fun z => by cases z.1)]; exact i4
    · rw [or_sI_I, if_neg (fun z => by cases z.1)]; exact i8
  | r + 1, i, S, hi, h, h1, hR, hL, hG, i4, i7, i8, hQ => by
    obtain ⟨d1, d2, d3⟩ := h.row (F := 112) (o := 29) (k := 15) (n := 40) (by decide +kernel)
    obtain ⟨l1, l2, l3⟩ := h.row (F := 109) (o := 26) (k := 15) (n := 40) (by decide +kernel)
    refine f_147_87 hE ?_
    unfold q_147_87
    rw [h.1, h1, d1, d2, d3, l1, l2, l3, nI_1, nI_clamp (n := i) (by omega), hR i (by omega)]
    have g' : mTmp m S (S.wI (m + 26) i (nI (R i))) := mTmp_wI (by omega) (by omega)
    refine ⟨rfl, fun z => absurd z (nI_ge (by omega) (by omega)), fun _ => ⟨rfl, rfl, rfl, vp_in_nI (by omega) (by decide), rfl, vp_in_nI (by omega) (by decide), s_147_87 hE hrs r (i + 1) _ (by omega) (h.tmp g') h1 (fun z hz => ?_) (fun z hz => ?_) (fun z hz => ?_) i4 i7 i8 (fun S' x5 e1 e2 => hQ S' x5 (g'.trans e1) e2)⟩⟩
    · rw [or_wI_rI, if_neg (fun y => by omega)]; exact hR z hz
    · rw [or_wI_rI]
      by_cases hzi : z = i
      · rw [if_pos ⟨rfl, hzi⟩, hzi]
      · rw [if_neg (fun y => hzi y.2)]; exact hL z (by omega)
    · rw [or_wI_rI, if_neg (fun y => by omega)]; exact hG z hz
theorem s_147_50 {E : ox_E} (hE : ox_mono E) {x1 x2 x3 x4 : Int32} {R : Nat → Nat} {rs : Nat} (hrs : rs ≤ 18) : ∀ (r i : Nat) (S : ox_St), i + r = rs → oML S m ce → mBoth S m f n p g k q → S.I 116 m = nI rs → S.I 115 m = nI rs → (∀ z, z < rs → S.rI (m + 29) z = nI (R z)) → (∀ z, z < i → S.rI (m + 28) z = nI (R z)) → (∀ S' x5, mTmp m S S' → mBoth S' m f n p g k q → S'.I 116 m = nI rs → S'.I 115 m = nI rs → (∀ z, z < rs → S'.rI (m + 29) z = nI (R z)) → (∀ z, z < rs → S'.rI (m + 28) z = nI (R z)) → ((x4 = 0 → (1 ≤ 1 ∧ (S'.sI 119 m q).K m = 14 ∧ 0 ≤ 8 ∧ ∃ mc mk, mc ≤ mr ∧ mk ≤ sr ∧ E 140 [.inr (.inr m)] mc mk (S'.sI 119 m q) (k_147_143 E m x1 x2 x3 x4 x5 (mr - mc) (sr - mk) Q))) ∧ (¬ x4 = 0 → c_147_87 E m x1 x2 x3 x4 0 S' mr sr Q))) → (q = 0 ∨ q = 1) → c_147_50 E m x1 x2 x3 x4 (nI i) S mr sr Q
  | 0, i, S, hi, h, hb, h1, h2, hR, hW, hQ, hq => by
    have hx := hQ S (nI i) mTmp.refl hb h1 h2 hR (fun z hz => hW z (by omega))
    refine f_147_50 hE ?_
    unfold q_147_50
    rw [h.1, h1, hb.2.2.2.2.2]
    exact ⟨rfl, fun _ => ⟨fun z => ⟨rfl, rfl, hq, hx.1 z⟩, hx.2⟩, fun z => absurd (nI_le (by omega) (by omega)) z⟩
  | r + 1, i, S, hi, h, hb, h1, h2, hR, hW, hQ, hq => by
    obtain ⟨d1, d2, d3⟩ := h.row (F := 112) (o := 29) (k := 15) (n := 40) (by decide +kernel)
    obtain ⟨l1, l2, l3⟩ := h.row (F := 111) (o := 28) (k := 15) (n := 40) (by decide +kernel)
    refine f_147_50 hE ?_
    unfold q_147_50
    rw [h.1, h1, d1, d2, d3, l1, l2, l3, nI_1, nI_clamp (n := i) (by omega), hR i (by omega)]
    have g' : mTmp m S (S.wI (m + 28) i (nI (R i))) := mTmp_wI (by omega) (by omega)
    refine ⟨rfl, fun z => absurd z (nI_ge (by omega) (by omega)), fun _ => ⟨rfl, rfl, rfl, vp_in_nI (by omega) (by decide), rfl, vp_in_nI (by omega) (by decide), s_147_50 hE hrs r (i + 1) _ (by omega) (h.tmp g') hb.wI h1 h2 (fun z hz => ?_) (fun z hz => ?_) (fun S' x5 e1 e2 e3 e4 e5 e6 => hQ S' x5 (g'.trans e1) e2 e3 e4 e5 e6) hq⟩⟩
    · rw [or_wI_rI, if_neg (fun y => by omega)]; exact hR z hz
    · rw [or_wI_rI]
      by_cases hzi : z = i
      · rw [if_pos ⟨rfl, hzi⟩, hzi]
      · rw [if_neg (fun y => hzi y.2)]; exact hW z (by omega)
/-- quotient: DIV (o = 0) and MOD -/
theorem s_147 (hsp : ox_mono sp) {T : Nat} {o : Int32} (h : oML S m ce) (hT : S.I 75 m = nI T) (hT16 : 16 ≤ T) (hT2 : T + 19 ≤ 1100000) (hu : mNum S (m + ce) u f n p) (hv : mNum S (m + ce) v g k q) (cg : dc g k) (hk0 : k ≠ 0)
    (hQ1 : ∀ S' w c r, mNw m ce T S S' → S'.I 75 m = nI (T + 3 + c) → mNum S' (m + ce) T w c r → dc w c → (c = 0 → r = 0) → nv w c r = qZ o p q (dv f n) (dv g k) → Q (some (.inl (nI T))) S') : ox_M sp (d + 4) 147 [.inr (.inr m), .inl (nI u), .inl (nI v), .inl o] mr sr S Q := by
  have hE : ox_mono (ox_M sp (d + 3)) := ox_M_mono hsp _
  have hn := hu.2.1
  have hk := hv.2.1
  have hp := hu.neg
  have hq := hv.neg
  have hG0 : 0 < dv g k := dc_pos cg hk0
  have hF16 : dv f n < 32768 ^ 16 := Nat.lt_of_lt_of_le (dv_lt n hu.1) (Nat.pow_le_pow_right (by decide) hn)
  have hG16 : dv g k < 32768 ^ 16 := Nat.lt_of_lt_of_le (dv_lt k cg.1) (Nat.pow_le_pow_right (by decide) hk)
  have hqn := qN_lt (p := p) (q := q) hF16 hG0
  have hrn := rN_lt (p := p) (q := q) (F := dv f n) hG0
  refine f_147 hsp ⟨by decide, h.1, by decide, 0, 0, Nat.zero_le _, Nat.zero_le _, s_139 hsp h hu hv (fun S1 t1 B1 => ?_)⟩
  have M1 := h.tmp t1
  refine f_147_6 hE ⟨by decide, M1.1, by decide, 0, 0, Nat.zero_le _, Nat.zero_le _, s_146 hsp M1 B1 hn hk hu.1 cg hk0 (fun S2 R rs D t2' B2 i115 i116 hrs cR hR vR hD vD => ?_)⟩
  have t2 := t1.trans t2'
  have M2 := M1.tmp t2'
  obtain ⟨l1, l2, l3⟩ := M2.row (F := 111) (o := 28) (k := 15) (n := 40) (by decide +kernel)
  have hR0 : dv R rs < 32768 ^ 16 := by
    rw [vR]
    exact Nat.lt_trans (Nat.mod_lt _ hG0) hG16
  -- where nothing goes downwards
  have quo : ∀ x4 mn : Int32, (mn = if p = q then 0 else 1) → (p = q ∨ dv f n % dv g k = 0) → o = 0 → 1 ≤ 1 ∧ (S2.sI 119 m mn).K m = 14 ∧ 0 ≤ 8 ∧ ∃ mc mk, mc ≤ mr - 0 - 0 ∧ mk ≤ sr - 0 - 0 ∧ ox_M sp (d + 3) 140 [.inr (.inr m)] mc mk (S2.sI 119 m mn) (k_147_236 (ox_M sp (d + 3)) m (nI u) (nI v) o x4 (mr - 0 - 0 - mc) (sr - 0 - 0 - mk) Q) := by
    intro x4 mn hm hpq ho
    have hqe : qN p q (dv f n) (dv g k) = dv f n / dv g k := by
      unfold qN
      by_cases e : p = q
      · rw [if_pos e]
      · rw [if_neg e, if_pos (hpq.resolve_left e)]
    refine ⟨by decide, M2.1, by decide, 0, 0, Nat.zero_le _, Nat.zero_le _, ?_⟩
    refine s_147n (d := d + 1) hsp (T := T) (N := n) (W := D) (mn := mn) (V := qZ o p q (dv f n) (dv g k)) ?_ hT16 hT2 hT (by omega) t2 M2 i115 hD ?_ (by rw [vD, ← hqe]; exact hqn) (fun S' w c r e1 e2 e3 e4 e5 e6 => f_147_236 hE ⟨trivial, hQ1 S' w c r e1 e2 e3 e4 e5 e6⟩)
    · by_cases e : p = q
      · rw [if_pos e] at hm; exact Or.inl hm
      · rw [if_neg e] at hm; exact Or.inr hm
    · unfold qZ
      rw [if_pos ho, hqe, vD, hm]
      by_cases e : p = q
      · rw [if_pos e, if_pos e, if_pos rfl]
      · rw [if_neg e, if_neg e, if_neg (by decide)]
  have two : ∀ x4 : Int32, (p = q ∨ dv f n % dv g k = 0) → o = 0 → ox_has 14 117 = true ∧ ox_has 14 118 = true ∧ (p = q → ox_has 14 119 = true ∧ ((0 : Int32) = 0 ∨ (0 : Int32) = 1) ∧ (let S1 := S2.sI 119 m 0
      1 ≤ 1 ∧ S1.K m = 14 ∧ 0 ≤ 8 ∧ ∃ mc mk, mc ≤ mr - 0 - 0 ∧ mk ≤ sr - 0 - 0 ∧ ox_M sp (d + 3) 140 [.inr (.inr m)] mc mk S1 (k_147_236 (ox_M sp (d + 3)) m (nI u) (nI v) o x4 (mr - 0 - 0 - mc) (sr - 0 - 0 - mk) Q))) ∧ (¬ p = q → ox_has 14 119 = true ∧ ((1 : Int32) = 0 ∨ (1 : Int32) = 1) ∧ (let S1 := S2.sI 119 m 1
      1 ≤ 1 ∧ S1.K m = 14 ∧ 0 ≤ 8 ∧ ∃ mc mk, mc ≤ mr - 0 - 0 ∧ mk ≤ sr - 0 - 0 ∧ ox_M sp (d + 3) 140 [.inr (.inr m)] mc mk S1 (k_147_236 (ox_M sp (d + 3)) m (nI u) (nI v) o x4 (mr - 0 - 0 - mc) (sr - 0 - 0 - mk) Q))) := by
    intro x4 hpq ho
    exact ⟨rfl, rfl, fun e => ⟨rfl, Or.inl rfl, quo x4 0 (by rw [if_pos e]) hpq ho⟩, fun e => ⟨rfl, Or.inr rfl, quo x4 1 (by rw [if_neg e]) hpq ho⟩⟩
  -- the rest
  have res : ∀ x4 : Int32, (x4 = 0 ∧ (p = q ∨ dv f n % dv g k = 0) ∨ x4 = 1 ∧ ¬ p = q ∧ ¬ dv f n % dv g k = 0) → ¬ o = 0 → c_147_50 (ox_M sp (d + 3)) m (nI u) (nI v) o x4 0 (S2.sI 115 m (nI rs)) (mr - 0 - 0) (sr - 0 - 0) Q := by
    intro x4 hx4 ho
    have t3 : mTmp m S2 (S2.sI 115 m (nI rs)) := mTmp_sI (by decide) (by decide)
    refine s_147_50 hE (R := R) hrs rs 0 _ (Nat.zero_add rs) (M2.tmp t3) (B2.sI (by decide)) ?_ (if_pos ⟨rfl, rfl⟩) (fun z hz => (hR z (by omega)).1) (fun z hz => absurd hz (Nat.not_lt_zero z)) (fun S4 x5 t4 B4 i6 i5 w9 w8 => ⟨fun z => ?_, fun z => ?_⟩) hq
    · rw [or_sI_I, if_neg (fun z => by cases z.1)]; exact i116
    · have hx := hx4.resolve_right (fun y => absurd (y.1.symm.trans z) (by decide))
      have hre : rN p q (dv f n) (dv g k) = dv R rs := by
        rw [vR]
        unfold rN
        by_cases e : p = q
        · rw [if_pos e]
        · rw [if_neg e, if_pos (hx.2.resolve_left e), hx.2.resolve_left e]
      refine ⟨by decide, ((M2.tmp t3).tmp t4).1, by decide, 0, 0, Nat.zero_le _, Nat.zero_le _, ?_⟩
      refine s_147n (d := d + 1) hsp (T := T) (N := rs) (W := R) (mn := q) (V := qZ o p q (dv f n) (dv g k)) hq hT16 hT2 hT (by omega) ((t2.trans t3).trans t4) ((M2.tmp t3).tmp t4) i5 (fun z hz => ⟨w8 z hz, cR.1 z hz⟩) ?_ hR0 (fun S' w c r e1 e2 e3 e4 e5 e6 => f_147_143 hE ⟨trivial, hQ1 S' w c r e1 e2 e3 e4 e5 e6⟩)
      unfold qZ
      rw [if_neg ho, hre]
    · have hx := hx4.resolve_left (fun y => z y.1)
      refine s_147_87 hE (R := R) (p := p) (q := q) (g := g) (k := k) hrs rs 0 S4 (Nat.zero_add rs) ((M2.tmp t3).tmp t4) i6 w9 (fun z hz => absurd hz (Nat.not_lt_zero z)) B4.2.2.2.1 B4.2.2.2.2.1 B4.2.2.1 B4.2.2.2.2.2 (fun S5 x5 t5 B5 => ⟨by decide, (((M2.tmp t3).tmp t4).tmp t5).1, by decide, 0, 0, Nat.zero_le _, Nat.zero_le _, ?_⟩)
      refine s_143b hsp (((M2.tmp t3).tmp t4).tmp t5) B5 cR cg (by omega) (by omega) (fun S6 N W t t6 B6 j1 hN hN2 hW hVV => ?_)
      have hlt : dv R rs < dv g k := by rw [vR]; exact Nat.mod_lt _ hG0
      obtain ⟨-, -, hVV⟩ := hVV.resolve_left (fun y => absurd y.2.1 (Nat.not_le.mpr hlt))
      have M6 := (((M2.tmp t3).tmp t4).tmp t5).tmp t6
      have hre : rN p q (dv f n) (dv g k) = dv W N := by
        rw [hVV, vR]
        unfold rN
        rw [if_neg hx.2.1, if_neg hx.2.2]
      refine f_147_129 hE ⟨by rw [M6.1]; rfl, by rw [M6.1]; rfl, by rw [B6.2.2.2.2.2]; exact hq, ?_⟩
      rw [B6.2.2.2.2.2]
      refine ⟨by decide, M6.1, by decide, 0, 0, Nat.zero_le _, Nat.zero_le _, ?_⟩
      refine s_147n (d := d + 1) hsp (T := T) (N := N) (W := W) (mn := q) (V := qZ o p q (dv f n) (dv g k)) hq hT16 hT2 hT hN ((((t2.trans t3).trans t4).trans t5).trans t6) M6 j1 hW ?_ (by rw [← hre]; exact Nat.lt_trans hrn hG16) (fun S' w c r e1 e2 e3 e4 e5 e6 => f_147_143 hE ⟨trivial, hQ1 S' w c r e1 e2 e3 e4 e5 e6⟩)
      unfold qZ
      rw [if_neg ho, hre]
  have hrs0 : rs = 0 ↔ dv f n % dv g k = 0 := by
    rw [← vR]
    refine ⟨fun e => by rw [e]; rfl, fun e => ?_⟩
    by_cases e2 : rs = 0
    · exact e2
    · exact absurd e (Nat.ne_of_gt (dc_pos cR e2))
  refine f_147_10 hE ?_
  unfold q_147_10
  rw [M2.1, B2.2.2.1, B2.2.2.2.2.2, i115, i116, nI_1]
  refine ⟨rfl, rfl, fun e => ⟨fun ho => ⟨fun _ => two 0 (Or.inl e) ho, fun y => absurd rfl y⟩, fun ho => ⟨rfl, rfl, res 0 (Or.inl ⟨rfl, Or.inl e⟩) ho⟩⟩, fun e => ⟨rfl, fun y => ?_, fun y => ?_⟩⟩
  · have e0 : dv f n % dv g k = 0 := hrs0.mp (by have := (nI_leI (b := 0) (by omega) (by decide)).mp y; omega)
    exact ⟨fun ho => ⟨fun _ => two 0 (Or.inr e0) ho, fun y => absurd rfl y⟩, fun ho => ⟨rfl, rfl, res 0 (Or.inl ⟨rfl, Or.inr e0⟩) ho⟩⟩
  · have e0 : ¬ dv f n % dv g k = 0 := fun z => y (by rw [hrs0.mpr z]; decide)
    refine ⟨fun ho => ⟨fun y => absurd y (by decide), fun _ => ⟨rfl, rfl, ?_⟩⟩, fun ho => ⟨rfl, rfl, res 1 (Or.inr ⟨rfl, e, e0⟩) ho⟩⟩
    have t3 : mTmp m S2 (S2.sI 115 m (nI (n + 1))) := mTmp_sI (by decide) (by decide)
    have M3 := M2.tmp t3
    have B3 : mBoth (S2.sI 115 m (nI (n + 1))) m f n p g k q := B2.sI (by decide)
    have i3 : (S2.sI 115 m (nI (n + 1))).I 115 m = nI (n + 1) := if_pos ⟨rfl, rfl⟩
    have w3 : (S2.sI 115 m (nI (n + 1))).rI = S2.rI := or_sI_rI _ _ _ _
    have r3 := M3.row (F := 111) (o := 28) (k := 15) (n := 40) (by decide +kernel)
    have K3 := M3.1
    have w3' : ∀ z, (S2.sI 115 m (nI (n + 1))).rI (m + 28) z = S2.rI (m + 28) z := fun z => by rw [w3]
    generalize S2.sI 115 m (nI (n + 1)) = S3 at t3 M3 B3 i3 r3 K3 w3'
    show ox_has (S3.K m) 111 = true ∧ ox_has (S3.K m) 115 = true ∧ S3.K (S3.R 111 m) = 15 ∧ vp_in (S3.I 115 m - 1) (S3.len (S3.R 111 m)) ∧ c_147_174 (ox_M sp (d + 3)) m (nI u) (nI v) o 1 0 (S3.wI (S3.R 111 m) (Int32.toNatClampNeg (S3.I 115 m - 1)) 0) (mr - 0 - 0) (sr - 0 - 0) Q
    rw [K3, r3.1, r3.2.1, r3.2.2, i3, nI_pred, nI_clamp (n := n) (by omega)]
    refine ⟨rfl, rfl, rfl, vp_in_nI (by omega) (by decide), ?_⟩
    have t4 : mTmp m S3 (S3.wI (m + 28) n 0) := mTmp_wI (by omega) (by omega)
    have vn : dv (fun z => if z = n then 0 else D z) (n + 1) = dv f n / dv g k := by
      rw [← vD]
      show dv (fun z => if z = n then 0 else D z) n + (if n = n then 0 else D n) * 32768 ^ n = dv D n
      rw [if_pos rfl, Nat.zero_mul, Nat.add_zero]
      exact dv_congr n (fun i hi => if_neg (by omega))
    refine s_147_174 (d := d + 1) hsp (T := T) (N := n) (V := qZ o p q (dv f n) (dv g k)) (X := qN p q (dv f n) (dv g k)) hT16 hT2 hT (by omega) e hqn ?_ hQ1 n 0 _ (fun z => if z = n then 0 else D z) (Nat.zero_add n) ((t2.trans t3).trans t4) (M3.tmp t4) B3.wI i3 (fun z hz => ⟨?_, ?_⟩) (if_pos rfl) ?_
    · unfold qZ
      rw [if_pos ho, if_neg e]
    · rw [or_wI_rI]
      by_cases hzn : z = n
      · rw [if_pos ⟨rfl, hzn⟩, if_pos hzn]; rfl
      · rw [if_neg (fun y => hzn y.2), if_neg hzn, w3']
        exact (hD z (by omega)).1
    · show (if z = n then 0 else D z) < 32768
      by_cases hzn : z = n
      · rw [if_pos hzn]; decide
      · rw [if_neg hzn]; exact (hD z (by omega)).2
    · rw [vn]
      unfold qN
      rw [if_neg e, if_neg e0]
end OMQ
