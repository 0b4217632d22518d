/-! the reference's calculations: sum, order -/
theorem dct_dv {w : Nat → Nat} {N : Nat} (hw : ∀ i, i < N → w i < 32768) : dc w (dct w N) ∧ dv w (dct w N) = dv w N := dc_cut hw (dct_le w N) (dct_spec w N).1 (dct_spec w N).2
section OMS
variable {sp : ox_E} {d mr sr : Nat} {S : ox_St} {Q : ox_Q} {m ce : Nat} {f g : Nat → Nat} {n k u v : Nat} {p q : Int32}
/-- number, by values -/
theorem s_140v (hsp : ox_mono sp) {T N : Nat} {w : Nat → Nat} {mn : Int32} (hmn : mn = 0 ∨ mn = 1) (hT : T + 19 ≤ 1100000) (hT16 : 16 ≤ T) (hN : N ≤ 40) (h : oML S m ce) (h1 : S.I 115 m = nI N) (h2 : S.I 119 m = mn) (h3 : S.I 75 m = nI T) (hw : ∀ j, j < N → S.rI (m + 28) j = nI (w j) ∧ w j < 32768) (hQ1 : ∀ S' w' c r, mNw m ce T S S' → S'.I 75 m = nI (T + 3 + c) → mNum S' (m + ce) T w' c r → dc w' c → (c = 0 → r = 0) → nv w' c r = (if mn = 0 then (dv w N : Int) else -(dv w N : Int)) → Q (some (.inl (nI T))) S') (hQ2 : ∀ S', mTmp m S S' → 32768 ^ 16 ≤ dv w N → Q (some (.inl (-1))) S') : ox_M sp (d + 2) 140 [.inr (.inr m)] mr sr S Q := by
  obtain ⟨c1, c2⟩ := dct_dv (w := w) (N := N) (fun i hi => (hw i hi).2)
  refine s_140 hsp hT hT16 hN h h1 h2 h3 hw (fun S' e1 e2 e3 e4 => hQ1 S' w _ _ e1 e3 e4 c1 (fun z => if_pos (Or.inr z)) ?_) (fun S' e1 e2 => hQ2 S' e1 ?_)
  · rw [nv_made hmn, c2]
  · rw [← c2]
    have h16 : 16 ≤ dct w N - 1 := Nat.le_sub_one_of_lt e2
    exact Nat.le_trans (Nat.pow_le_pow_right (by decide) h16) (dc_low c1 (Nat.lt_of_le_of_lt (Nat.zero_le _) e2))
/-- sum of two numbers; with b the right one's sign is turned -/
theorem s_144 (hsp : ox_mono sp) {T : Nat} (h : oML S m ce) (hT : S.I 75 m = nI T) (hT16 : 16 ≤ T) (hT2 : T + 19 ≤ 1100000) (hu : mNum S (m + ce) u f n p) (hv : mNum S (m + ce) v g k q) (cf : dc f n) (cg : dc g k) {b : Int32} (hb : b = 0 ∨ b = 1)
    (hQ1 : ∀ S' w c r, mNw m ce T S S' → S'.I 75 m = nI (T + 3 + c) → mNum S' (m + ce) T w c r → dc w c → (c = 0 → r = 0) → nv w c r = nv f n p + (if q = b then (dv g k : Int) else -(dv g k : Int)) → Q (some (.inl (nI T))) S') (hQ2 : ∀ S', mTmp m S S' → 32768 ^ 16 ≤ (nv f n p + (if q = b then (dv g k : Int) else -(dv g k : Int))).natAbs → Q (some (.inl (-1))) S') : ox_M sp (d + 3) 144 [.inr (.inr m), .inl (nI u), .inl (nI v), .inl b] mr sr S Q := by
  have hE : ox_mono (ox_M sp (d + 2)) := ox_M_mono hsp _
  have hce := h.2.2.1
  have hn := hu.2.1
  have hk := hv.2.1
  have hp := hu.neg
  have hq := hv.neg
  refine f_144 hsp ⟨by decide, h.1, by decide, 0, 0, Nat.zero_le _, Nat.zero_le _, s_139 hsp h hu hv (fun S1 t1 B1 => ?_)⟩
  have M1 := h.tmp t1
  have T1 : S1.I 75 m = nI T := (t1.2.2.2.2.2.2.2.1 75 m (Or.inr (Or.inl (by decide)))).trans hT
  have B1' := B1
  obtain ⟨b1, b2, b3, b4, b5, b6⟩ := B1'
  -- behind addUp
  have fin : ∀ (om t mn : Int32) (S2 : ox_St) (N : Nat) (W : Nat → Nat), (mn = 0 ∨ mn = 1) → mTmp m S1 S2 → S2.I 115 m = nI N → N ≤ 40 → (∀ z, z < N → S2.rI (m + 28) z = nI (W z) ∧ W z < 32768) → (if mn = 0 then (dv W N : Int) else -(dv W N : Int)) = nv f n p + (if q = b then (dv g k : Int) else -(dv g k : Int)) → c_144_63 (ox_M sp (d + 2)) m (nI u) (nI v) b om t mn m S2 (mr - 0 - 0) (sr - 0 - 0) Q := by
    intro om t mn S2 N W hmn t2 i1 hN hW hv2
    have M2 := M1.tmp t2
    have t3 : mTmp m S2 (S2.sI 119 m mn) := mTmp_sI (by decide) (by decide)
    refine f_144_63 hE ⟨by rw [M2.1]; rfl, hmn, by decide, M2.1, by decide, 0, 0, Nat.zero_le _, Nat.zero_le _, ?_⟩
    refine s_140v hsp (T := T) (N := N) (w := W) (mn := mn) hmn hT2 hT16 hN (M2.tmp t3) ?_ (if_pos ⟨rfl, rfl⟩) ?_ hW (fun S' w' c r e1 e2 e3 e4 e5 e6 => f_144_70 hE ⟨trivial, hQ1 S' w' c r ((((t1.trans t2).trans t3).nw hce).trans e1) e2 e3 e4 e5 ?_⟩) (fun S' e1 e2 => f_144_70 hE ⟨trivial, hQ2 S' (((t1.trans t2).trans t3).trans e1) ?_⟩)
    · rw [or_sI_I, if_neg (fun z => by cases z.1)]; exact i1
    · rw [or_sI_I, if_neg (fun z => by cases z.1)]
      exact (t2.2.2.2.2.2.2.2.1 75 m (Or.inr (Or.inl (by decide)))).trans T1
    · rw [e6, hv2]
    · rw [← hv2]
      by_cases h0 : mn = 0
      · rw [if_pos h0]; omega
      · rw [if_neg h0]; omega
  -- the right one's sign, as it is added
  have mid : ∀ om : Int32, (om = 0 ∧ (if q = b then (dv g k : Int) else -(dv g k : Int)) = (dv g k : Int) ∨ om = 1 ∧ (if q = b then (dv g k : Int) else -(dv g k : Int)) = -(dv g k : Int)) → c_144_26 (ox_M sp (d + 2)) m (nI u) (nI v) b om S1 (mr - 0) (sr - 0) Q := by
    intro om hom
    refine f_144_26 hE ⟨by rw [M1.1]; rfl, fun z => ?_, fun z => ?_⟩
    · rw [b3] at z
      refine f_144_43 hE ⟨by decide, M1.1, by decide, 0, 0, Nat.zero_le _, Nat.zero_le _, ?_⟩
      refine s_143a hsp M1 B1 cf.1 cg.1 (by omega) (by omega) (fun S2 N W t2 B2 i1 hN _ hW hV => ?_)
      refine f_144_46 hE ⟨fun _ => ⟨by rw [t2.1, M1.1]; rfl, ?_⟩, fun y => absurd rfl y⟩
      rw [B2.2.2.1]
      refine fin om 0 p S2 N W hp t2 i1 hN hW ?_
      rw [hV]
      unfold nv
      rcases hom with ⟨e1, e2⟩ | ⟨e1, e2⟩
      · rw [e2, if_pos (z.trans e1), if_pos (z.trans e1)]; omega
      · have : ¬ p = 0 := by rw [z, e1]; decide
        rw [e2, if_neg this, if_neg this]; omega
    · rw [b3] at z
      refine f_144_43 hE ⟨by decide, M1.1, by decide, 0, 0, Nat.zero_le _, Nat.zero_le _, ?_⟩
      refine s_143b hsp M1 B1 cf cg (by omega) (by omega) (fun S2 N W t t2 B2 i1 hN _ hW hV => ?_)
      rcases hV with ⟨rfl, hle, hV⟩ | ⟨rfl, hlt, hV⟩
      · refine f_144_46 hE ⟨fun _ => ⟨by rw [t2.1, M1.1]; rfl, ?_⟩, fun y => absurd rfl y⟩
        rw [B2.2.2.1]
        refine fin om 0 p S2 N W hp t2 i1 hN hW ?_
        rw [hV]
        unfold nv
        rcases hom with ⟨e1, e2⟩ | ⟨e1, e2⟩
        · have : ¬ p = 0 := fun y => z (y.trans e1.symm)
          rw [e2, if_neg this, if_neg this]; omega
        · have : p = 0 := hp.resolve_right (fun y => z (y.trans e1.symm))
          rw [e2, if_pos this, if_pos this]; omega
      · refine f_144_46 hE ⟨fun y => absurd y (by decide), fun _ => ?_⟩
        refine fin om 1 om S2 N W (hom.imp And.left And.left) t2 i1 hN hW ?_
        rw [hV]
        unfold nv
        rcases hom with ⟨e1, e2⟩ | ⟨e1, e2⟩
        · have : ¬ p = 0 := fun y => z (y.trans e1.symm)
          rw [e2, if_neg this, if_pos e1]; omega
        · have : p = 0 := hp.resolve_right (fun y => z (y.trans e1.symm))
          rw [e2, if_pos this, if_neg (by rw [e1]; decide)]; omega
  refine f_144_6 hE ?_
  unfold q_144_6
  rw [M1.1, b5, b6]
  refine ⟨rfl, fun z => f_144_25 hE (mid 0 (Or.inl ⟨rfl, ?_⟩)), fun z => ⟨rfl, fun y => f_144_25 hE (mid 0 (Or.inl ⟨rfl, if_pos y⟩)), fun y => mid 1 (Or.inr ⟨rfl, if_neg y⟩)⟩⟩
  have : k = 0 := by
    have := (nI_leI (b := 0) (by omega) (by decide)).mp z
    omega
  rw [this, show dv g 0 = 0 from rfl]
  by_cases hqb : q = b
  · rw [if_pos hqb]
  · rw [if_neg hqb]; rfl
theorem cmpN_flip {a b : Nat} : -cmpN a b = cmpN b a := by
  unfold cmpN
  by_cases h1 : a < b
  · rw [if_pos h1, if_neg (by omega), if_neg (by omega)]; decide
  · by_cases h2 : a = b
    · rw [if_neg h1, if_pos h2, if_neg (by omega), if_pos h2.symm]; decide
    · rw [if_neg h1, if_neg h2, if_pos (by omega)]
/-- how two whole numbers lie -/
def cmpZ (a b : Int) : Int32 := if a < b then -1 else if a = b then 0 else 1
theorem cmpZ_pp {a b : Nat} : cmpN a b = cmpZ (a : Int) (b : Int) := by
  unfold cmpN cmpZ
  by_cases h1 : a < b
  · have e1 : (a : Int) < (b : Int) := by omega
    rw [if_pos h1, if_pos e1]
  · have e1 : ¬ (a : Int) < (b : Int) := by omega
    rw [if_neg h1, if_neg e1]
    by_cases h2 : a = b
    · have e2 : (a : Int) = (b : Int) := by omega
      rw [if_pos h2, if_pos e2]
    · have e2 : ¬ (a : Int) = (b : Int) := by omega
      rw [if_neg h2, if_neg e2]
theorem cmpZ_nn {a b : Nat} : cmpN b a = cmpZ (-(a : Int)) (-(b : Int)) := by
  unfold cmpN cmpZ
  by_cases h1 : b < a
  · have e1 : -(a : Int) < -(b : Int) := by omega
    rw [if_pos h1, if_pos e1]
  · have e1 : ¬ -(a : Int) < -(b : Int) := by omega
    rw [if_neg h1, if_neg e1]
    by_cases h2 : b = a
    · have e2 : -(a : Int) = -(b : Int) := by omega
      rw [if_pos h2, if_pos e2]
    · have e2 : ¬ -(a : Int) = -(b : Int) := by omega
      rw [if_neg h2, if_neg e2]
/-- a number below 0 isn't 0 -/
theorem dc_pos (h : dc f n) (h0 : n ≠ 0) : 0 < dv f n := Nat.lt_of_lt_of_le (Nat.pow_pos (by decide)) (dc_low h (Nat.pos_of_ne_zero h0))
theorem s_142 (hsp : ox_mono sp) (h : oML S m ce) (hu : mNum S (m + ce) u f n p) (hv : mNum S (m + ce) v g k q) (cf : dc f n) (cg : dc g k) (zf : n = 0 → p = 0) (zg : k = 0 → q = 0) (hQ : ∀ S', mTmp m S S' → Q (some (.inl (cmpZ (nv f n p) (nv g k q)))) S') : ox_M sp (d + 3) 142 [.inr (.inr m), .inl (nI u), .inl (nI v)] mr sr S Q := by
  have hE : ox_mono (ox_M sp (d + 2)) := ox_M_mono hsp _
  have hn := hu.2.1
  have hk := hv.2.1
  have hp := hu.neg
  have hq := hv.neg
  refine f_142 hsp ⟨by decide, h.1, by decide, 0, 0, Nat.zero_le _, Nat.zero_le _, s_139 hsp h hu hv (fun S1 t1 B1 => ?_)⟩
  have M1 := h.tmp t1
  obtain ⟨b1, b2, b3, b4, b5, b6⟩ := B1
  obtain ⟨l1, l2, l3⟩ := M1.row (F := 109) (o := 26) (k := 15) (n := 40) (by decide +kernel)
  obtain ⟨r1, r2, r3⟩ := M1.row (F := 110) (o := 27) (k := 15) (n := 40) (by decide +kernel)
  have hQ1 := hQ S1 t1
  refine f_142_6 hE ?_
  unfold q_142_6
  rw [M1.1, b2, b3, b5, b6, l1, r1]
  refine ⟨rfl, rfl, fun z => ⟨rfl, rfl, rfl, rfl, by decide, by decide, 0, 0, Nat.zero_le _, Nat.zero_le _, ?_⟩, fun z => ⟨rfl, fun y => ⟨trivial, ?_⟩, fun y => ⟨trivial, ?_⟩⟩⟩
  · refine s_141 hsp l2 r2 l3 r3 ⟨by omega, by decide⟩ ⟨by omega, by decide⟩ b1 b4 cf cg ?_
    refine f_142_49 hE ?_
    unfold q_142_49
    rw [M1.1, b3]
    refine ⟨rfl, fun y => ⟨trivial, ?_⟩, fun y => ⟨trivial, ?_⟩⟩
    · unfold nv at hQ1
      rw [if_pos y, if_pos (z.symm.trans y), ← cmpZ_pp] at hQ1
      exact hQ1
    · unfold nv at hQ1
      rw [if_neg y, if_neg (fun e => y (z.trans e)), ← cmpZ_nn] at hQ1
      rw [cmpN_flip]
      exact hQ1
  · have q1 : ¬ q = 0 := fun e => z (y.trans e.symm)
    have hk0 : k ≠ 0 := fun e => q1 (zg e)
    have := dc_pos cg hk0
    unfold nv at hQ1
    rw [if_pos y, if_neg q1, show cmpZ (dv f n : Int) (-(dv g k : Int)) = 1 from by unfold cmpZ; rw [if_neg (by omega), if_neg (by omega)]] at hQ1
    exact hQ1
  · have q0 : q = 0 := hq.resolve_right (fun e => z ((hp.resolve_left y).trans e.symm))
    have hn0 : n ≠ 0 := fun e => y (zf e)
    have := dc_pos cf hn0
    unfold nv at hQ1
    rw [if_neg y, if_pos q0, show cmpZ (-(dv f n : Int)) (dv g k : Int) = -1 from by unfold cmpZ; rw [if_pos (by omega)]] at hQ1
    exact hQ1
end OMS
