/-! printed by gen/gcw.py: one instruction of the reference -/
section ROn
variable {sp : ox_E} {d mr sr : Nat} {S : ox_St} {Q : ox_Q} {m ce : Nat} {γ : Int → Nat} {B : List Int} {T : Nat} {C : Nat → xCd} {nc K y : Nat} {e : xEn} {q p : Nat} {st : List Int}
theorem r_200 {w a t : Nat} (hsp : ox_mono sp) (hin : rIn C nc K e st t) (h : rE S m ce γ B T C nc y e q st) (hT : T + 19 ≤ 1100000) (hw : w ≠ 83 ∧ w ≠ 87 ∧ w ≠ 93 ∧ w ≠ 110 ∧ w ≠ 113 ∧ w ≠ 114 ∧ w ≠ 115 ∧ w ≠ 122 ∧ w ≠ 124 ∧ w ≠ 125 ∧ w ≠ 130) (h138 : S.I 138 m = nI w) (h139 : S.I 139 m = nI a) (htk : tkW w a = some t) (hg : st.length - t + gvW w a ≤ 10) (hag : agW (C e.c).1 w a) (hQ : ∀ S', mFx m S S' → S'.R = S.R → rX S' m ce T C nc y e q st (xIns C e q w a st) → Q none S') : ox_M sp (d + 7) 200 [.inr (.inr m)] mr sr S Q := by
  by_cases z1 : w = 1
  · subst z1; exact r_200_1 hsp hin h hT h138 h139 htk hg hag hQ
  by_cases z2 : w = 2
  · subst z2; exact r_200_2 hsp hin h hT h138 h139 htk hg hag hQ
  by_cases z3 : w = 3
  · subst z3; exact r_200_3 hsp hin h hT h138 h139 htk hg hag hQ
  by_cases z4 : w = 4
  · subst z4; exact r_200_4 hsp hin h hT h138 h139 htk hg hag hQ
  by_cases z11 : w = 11
  · subst z11; exact r_200_11 hsp hin h hT h138 h139 htk hg hag hQ
  by_cases z12 : w = 12
  · subst z12; exact r_200_12 hsp hin h hT h138 h139 htk hg hag hQ
  by_cases z25 : w = 25
  · subst z25; exact r_200_25 hsp hin h hT h138 h139 htk hg hag hQ
  by_cases z68 : w = 68
  · subst z68; exact r_200_68 hsp hin h hT h138 h139 htk hg hag hQ
  by_cases z90 : w = 90
  · subst z90; exact r_200_90 hsp hin h hT h138 h139 htk hg hag hQ
  by_cases z92 : w = 92
  · subst z92; exact r_200_92 hsp hin h hT h138 h139 htk hg hag hQ
  by_cases z100 : w = 100
  · subst z100; exact r_200_100 hsp hin h hT h138 h139 htk hg hag hQ
  by_cases z101 : w = 101
  · subst z101; exact r_200_101 hsp hin h hT h138 h139 htk hg hag hQ
  by_cases z102 : w = 102
  · subst z102; exact r_200_102 hsp hin h hT h138 h139 htk hg hag hQ
  by_cases z107 : w = 107
  · subst z107; exact r_200_107 hsp hin h hT h138 h139 htk hg hag hQ
  by_cases z131 : w = 131
  · subst z131; exact r_200_131 hsp hin h hT h138 h139 htk hg hag hQ
  by_cases z132 : w = 132
  · subst z132; exact r_200_132 hsp hin h hT h138 h139 htk hg hag hQ
  by_cases z20 : w = 20
  · subst z20; exact r_200_20 hsp hin h hT h138 h139 htk hg hag hQ
  by_cases z22 : w = 22
  · subst z22; exact r_200_22 hsp hin h hT h138 h139 htk hg hag hQ
  by_cases z24 : w = 24
  · subst z24; exact r_200_24 hsp hin h hT h138 h139 htk hg hag hQ
  by_cases z26 : w = 26
  · subst z26; exact r_200_26 hsp hin h hT h138 h139 htk hg hag hQ
  by_cases z23 : w = 23
  · subst z23; exact r_200_23 hsp hin h hT h138 h139 htk hg hag hQ
  exfalso
  unfold tkW at htk
  rw [if_neg (by omega), if_neg (by omega), if_neg (by omega), if_neg (by omega), if_neg (by omega), if_neg (by omega)] at htk
  cases htk
set_option maxHeartbeats 1000000 in
theorem r_203_83 {a t : Nat} {y0 : Int32} (hsp : ox_mono sp) (hK : K < 2 ^ 30) (hin : rIn C nc K e st t) (h : rE S m ce γ B T C nc y e p st) (hT : T + 19 ≤ 1100000) (h138 : S.I 138 m = nI 83) (h139 : S.I 139 m = nI a) (h140 : S.I 140 m = nI q) (htk : tkW 83 a = some t) (hg : st.length - t + gvW 83 a ≤ 10) (hag : agW (C e.c).1 83 a) (hb : 83 = 122 → e.b.length < 4) (hb2 : 83 = 87 → e.b ≠ []) (hQ : ∀ S', mFx m S S' → S'.R = S.R → rX S' m ce T C nc y e q st (xIns C e q 83 a st) → Q none S') : q_203_39 (ox_M sp (d + 7)) m (nI e.t.length) (nI e.c) y0 S mr sr Q := by
  have hE : ox_mono (ox_M sp (d + 7)) := ox_M_mono hsp _
  have et : 1 = t := Option.some.inj (show some 1 = some t from htk)
  have hg1 : st.length - t + 0 ≤ 10 := hg
  have hl : t ≤ st.length := by have := hin.2.2; omega
  subst et
  have s10 := hin.1.2.2.1
  obtain ⟨v, r, rfl⟩ := ls1 (st := st) hl
  simp only [List.length_cons] at hg1 hl s10
  have hQ1 : ∀ S', mFx m S S' → S'.R = S.R → rX S' m ce T C nc y e q (v :: r) (xRet e v) → Q none S' := hQ
  have hx := hin.1
  have k14 := h.k
  have t7 := hx.t7
  have c8 : cdL (C e.c).1 ≤ 8 := (hx.1.2.1 e.c hx.1.2.2.2.1).1.2.2.1
  obtain ⟨z1, z2, z3⟩ := h.ml.row (F := 99) (o := 17) (k := 15) (n := 8) (by decide)
  obtain ⟨ch0, h2⟩ := h.place hx q
  have fV := ch0.1
  have rV := ch0.2.1
  have iV : (S.wI (m + 17) e.t.length (nI q)).I = S.I := or_wI_I _ _ _ _
  refine ⟨by rw [k14]; rfl, by rw [k14]; rfl, by rw [z1]; exact z2, by rw [z1, z3]; exact vp_in_nI (by omega) (by decide), ?_⟩
  rw [z1, nI_clamp (show e.t.length < 2 ^ 31 by omega), h140]
  generalize S.wI (m + 17) e.t.length (nI q) = V at ch0 h2 fV rV iV ⊢
  have kV := h2.k
  have i138 : V.I 138 m = nI 83 := by rw [iV]; exact h138
  have i139 : V.I 139 m = nI a := by rw [iV]; exact h139
  have i140 : V.I 140 m = nI q := by rw [iV]; exact h140
  refine ⟨by rw [kV]; rfl, ?_⟩
  rw [i138, nI_toInt (show 83 < 2 ^ 31 by decide)]
  refine ⟨fun _ => ?_, fun z => absurd rfl z⟩
  exact ⟨by decide, kV, by decide, 0, 0, Nat.zero_le _, Nat.zero_le _, r_195 hsp h2 hx (fun S' n1 n2 n3 => f_203_156 hE (f_203_417 hE ⟨rfl, hQ1 S' (fV.trans n1) (n2.trans rV) n3⟩))⟩
set_option maxHeartbeats 1000000 in
theorem r_203_87 {a t : Nat} {y0 : Int32} (hsp : ox_mono sp) (hK : K < 2 ^ 30) (hin : rIn C nc K e st t) (h : rE S m ce γ B T C nc y e p st) (hT : T + 19 ≤ 1100000) (h138 : S.I 138 m = nI 87) (h139 : S.I 139 m = nI a) (h140 : S.I 140 m = nI q) (htk : tkW 87 a = some t) (hg : st.length - t + gvW 87 a ≤ 10) (hag : agW (C e.c).1 87 a) (hb : 87 = 122 → e.b.length < 4) (hb2 : 87 = 87 → e.b ≠ []) (hQ : ∀ S', mFx m S S' → S'.R = S.R → rX S' m ce T C nc y e q st (xIns C e q 87 a st) → Q none S') : q_203_39 (ox_M sp (d + 7)) m (nI e.t.length) (nI e.c) y0 S mr sr Q := by
  have hE : ox_mono (ox_M sp (d + 7)) := ox_M_mono hsp _
  have et : 0 = t := Option.some.inj (show some 0 = some t from htk)
  have hg1 : st.length - t + 0 ≤ 10 := hg
  have hl : t ≤ st.length := by have := hin.2.2; omega
  subst et
  have s10 := hin.1.2.2.1
  have hQ1 : ∀ S', mFx m S S' → S'.R = S.R → rX S' m ce T C nc y e q st (.inr (e.H, e.n, e.G, (e.c, q, st, e.L, e.b.tail) :: e.t, none)) → Q none S' := hQ
  have hx := hin.1
  have k14 := h.k
  have t7 := hx.t7
  have c8 : cdL (C e.c).1 ≤ 8 := (hx.1.2.1 e.c hx.1.2.2.2.1).1.2.2.1
  obtain ⟨z1, z2, z3⟩ := h.ml.row (F := 99) (o := 17) (k := 15) (n := 8) (by decide)
  obtain ⟨ch0, h2⟩ := h.place hx q
  have fV := ch0.1
  have rV := ch0.2.1
  have iV : (S.wI (m + 17) e.t.length (nI q)).I = S.I := or_wI_I _ _ _ _
  refine ⟨by rw [k14]; rfl, by rw [k14]; rfl, by rw [z1]; exact z2, by rw [z1, z3]; exact vp_in_nI (by omega) (by decide), ?_⟩
  rw [z1, nI_clamp (show e.t.length < 2 ^ 31 by omega), h140]
  generalize S.wI (m + 17) e.t.length (nI q) = V at ch0 h2 fV rV iV ⊢
  have kV := h2.k
  have i138 : V.I 138 m = nI 87 := by rw [iV]; exact h138
  have i139 : V.I 139 m = nI a := by rw [iV]; exact h139
  have i140 : V.I 140 m = nI q := by rw [iV]; exact h140
  refine ⟨by rw [kV]; rfl, ?_⟩
  rw [i138, nI_toInt (show 87 < 2 ^ 31 by decide)]
  refine ⟨fun z => absurd z (by decide), fun _ => ?_⟩
  refine ⟨fun _ => ?_, fun z => absurd rfl z⟩
  obtain ⟨b1, b2, b3⟩ := h2.ml.row (F := 101) (o := 19) (k := 15) (n := 8) (by decide)
  obtain ⟨f1, f2, f3, f4, f5, f6, f7⟩ := h2.2.2.2.1.1
  cases eb : e.b with
  | nil => exact absurd eb (hb2 rfl)
  | cons g b =>
    rw [eb] at hQ1
    have f4' : V.rI (m + 19) e.t.length = nI (b.length + 1) := by rw [eb] at f4; exact f4
    have f7' : rBk V m e.t.length (g :: b) := by rw [eb] at f7; exact f7
    refine ⟨by rw [kV]; rfl, by rw [b1, b2]; rfl, by rw [b1, b3]; exact vp_in_nI (by omega) (by decide), by rw [b1]; exact b2, by rw [b1, b3]; exact vp_in_nI (by omega) (by decide), ?_⟩
    rw [b1, f4', nI_pred]
    have ch : rCh m ce T e.t.length V (V.wI (m + 19) e.t.length (nI b.length)) := rCh.refl.wI h2.c23 (Or.inl ⟨by omega, by omega, rfl⟩)
    have er : ∀ a j, a ≠ m + 19 → (V.wI (m + 19) e.t.length (nI b.length)).rI a j = V.rI a j := fun a j z => by rw [or_wI_rI, if_neg (fun y => z y.1)]
    have e19 : (V.wI (m + 19) e.t.length (nI b.length)).rI (m + 19) e.t.length = nI b.length := by rw [or_wI_rI, if_pos ⟨rfl, rfl⟩]
    show k_203_417 (ox_M sp (d + 7)) m (nI e.t.length) (nI e.c) y0 mr sr Q none (V.wI (m + 19) e.t.length (nI b.length))
    generalize V.wI (m + 19) e.t.length (nI b.length) = W at ch er e19 ⊢
    refine f_203_417 hE ⟨rfl, hQ1 W (fV.trans ch.1) (ch.2.1.trans rV) ⟨γ, B, T, Nat.le_add_right _ _, ?_⟩⟩
    exact h2.fr hx ch (f' := (e.c, q, st, e.L, b)) ⟨(er _ _ (by omega)).trans f1, (er _ _ (by omega)).trans f2, (er _ _ (by omega)).trans f3, e19, rStk.row _ (fun j _ => er _ _ (by omega)) (fun _ _ => rfl) f5, rLo.row (fun j _ => er _ _ (by omega)) (fun _ _ _ => rfl) f6, rBk.row _ (fun j _ => ⟨er _ _ (by omega), er _ _ (by omega)⟩) f7'.2.2⟩ h2.in.1 h2.in.2
set_option maxHeartbeats 1000000 in
theorem r_203_93 {a t : Nat} {y0 : Int32} (hsp : ox_mono sp) (hK : K < 2 ^ 30) (hin : rIn C nc K e st t) (h : rE S m ce γ B T C nc y e p st) (hT : T + 19 ≤ 1100000) (h138 : S.I 138 m = nI 93) (h139 : S.I 139 m = nI a) (h140 : S.I 140 m = nI q) (htk : tkW 93 a = some t) (hg : st.length - t + gvW 93 a ≤ 10) (hag : agW (C e.c).1 93 a) (hb : 93 = 122 → e.b.length < 4) (hb2 : 93 = 87 → e.b ≠ []) (hQ : ∀ S', mFx m S S' → S'.R = S.R → rX S' m ce T C nc y e q st (xIns C e q 93 a st) → Q none S') : q_203_39 (ox_M sp (d + 7)) m (nI e.t.length) (nI e.c) y0 S mr sr Q := by
  have hE : ox_mono (ox_M sp (d + 7)) := ox_M_mono hsp _
  have et : 1 = t := Option.some.inj (show some 1 = some t from htk)
  have hg1 : st.length - t + 2 ≤ 10 := hg
  have hl : t ≤ st.length := by have := hin.2.2; omega
  subst et
  have s10 := hin.1.2.2.1
  obtain ⟨v, r, rfl⟩ := ls1 (st := st) hl
  simp only [List.length_cons] at hg1 hl s10
  have hQ1 : ∀ S', mFx m S S' → S'.R = S.R → rX S' m ce T C nc y e q (v :: r) (xNext e q a r v) → Q none S' := hQ
  have hx := hin.1
  have k14 := h.k
  have t7 := hx.t7
  have c8 : cdL (C e.c).1 ≤ 8 := (hx.1.2.1 e.c hx.1.2.2.2.1).1.2.2.1
  obtain ⟨z1, z2, z3⟩ := h.ml.row (F := 99) (o := 17) (k := 15) (n := 8) (by decide)
  obtain ⟨ch0, h2⟩ := h.place hx q
  have fV := ch0.1
  have rV := ch0.2.1
  have iV : (S.wI (m + 17) e.t.length (nI q)).I = S.I := or_wI_I _ _ _ _
  refine ⟨by rw [k14]; rfl, by rw [k14]; rfl, by rw [z1]; exact z2, by rw [z1, z3]; exact vp_in_nI (by omega) (by decide), ?_⟩
  rw [z1, nI_clamp (show e.t.length < 2 ^ 31 by omega), h140]
  generalize S.wI (m + 17) e.t.length (nI q) = V at ch0 h2 fV rV iV ⊢
  have kV := h2.k
  have i138 : V.I 138 m = nI 93 := by rw [iV]; exact h138
  have i139 : V.I 139 m = nI a := by rw [iV]; exact h139
  have i140 : V.I 140 m = nI q := by rw [iV]; exact h140
  refine ⟨by rw [kV]; rfl, ?_⟩
  rw [i138, nI_toInt (show 93 < 2 ^ 31 by decide)]
  refine ⟨fun z => absurd z (by decide), fun _ => ?_⟩
  refine ⟨fun z => absurd z (by decide), fun _ => ?_⟩
  refine ⟨fun _ => ?_, fun z => absurd rfl z⟩
  rw [i140, i139, nI_add]
  exact ⟨by rw [kV]; rfl, by rw [kV]; rfl, by decide, kV, by decide, 0, 0, Nat.zero_le _, Nat.zero_le _, r_187 hsp hK hin h2 hT (by omega) (fun S' n1 n2 n3 => f_203_185 hE (f_203_417 hE ⟨rfl, hQ1 S' (fV.trans n1) (n2.trans rV) n3⟩))⟩
set_option maxHeartbeats 1000000 in
theorem r_203_110 {a t : Nat} {y0 : Int32} (hsp : ox_mono sp) (hK : K < 2 ^ 30) (hin : rIn C nc K e st t) (h : rE S m ce γ B T C nc y e p st) (hT : T + 19 ≤ 1100000) (h138 : S.I 138 m = nI 110) (h139 : S.I 139 m = nI a) (h140 : S.I 140 m = nI q) (htk : tkW 110 a = some t) (hg : st.length - t + gvW 110 a ≤ 10) (hag : agW (C e.c).1 110 a) (hb : 110 = 122 → e.b.length < 4) (hb2 : 110 = 87 → e.b ≠ []) (hQ : ∀ S', mFx m S S' → S'.R = S.R → rX S' m ce T C nc y e q st (xIns C e q 110 a st) → Q none S') : q_203_39 (ox_M sp (d + 7)) m (nI e.t.length) (nI e.c) y0 S mr sr Q := by
  have hE : ox_mono (ox_M sp (d + 7)) := ox_M_mono hsp _
  have et : 0 = t := Option.some.inj (show some 0 = some t from htk)
  have hg1 : st.length - t + 0 ≤ 10 := hg
  have hl : t ≤ st.length := by have := hin.2.2; omega
  subst et
  have s10 := hin.1.2.2.1
  have hQ1 : ∀ S', mFx m S S' → S'.R = S.R → rX S' m ce T C nc y e q st (xGo e (q + a) st) → Q none S' := hQ
  have hx := hin.1
  have k14 := h.k
  have t7 := hx.t7
  have c8 : cdL (C e.c).1 ≤ 8 := (hx.1.2.1 e.c hx.1.2.2.2.1).1.2.2.1
  obtain ⟨z1, z2, z3⟩ := h.ml.row (F := 99) (o := 17) (k := 15) (n := 8) (by decide)
  obtain ⟨ch0, h2⟩ := h.place hx q
  have fV := ch0.1
  have rV := ch0.2.1
  have iV : (S.wI (m + 17) e.t.length (nI q)).I = S.I := or_wI_I _ _ _ _
  refine ⟨by rw [k14]; rfl, by rw [k14]; rfl, by rw [z1]; exact z2, by rw [z1, z3]; exact vp_in_nI (by omega) (by decide), ?_⟩
  rw [z1, nI_clamp (show e.t.length < 2 ^ 31 by omega), h140]
  generalize S.wI (m + 17) e.t.length (nI q) = V at ch0 h2 fV rV iV ⊢
  have kV := h2.k
  have i138 : V.I 138 m = nI 110 := by rw [iV]; exact h138
  have i139 : V.I 139 m = nI a := by rw [iV]; exact h139
  have i140 : V.I 140 m = nI q := by rw [iV]; exact h140
  refine ⟨by rw [kV]; rfl, ?_⟩
  rw [i138, nI_toInt (show 110 < 2 ^ 31 by decide)]
  refine ⟨fun z => absurd z (by decide), fun _ => ?_⟩
  refine ⟨fun z => absurd z (by decide), fun _ => ?_⟩
  refine ⟨fun z => absurd z (by decide), fun _ => ?_⟩
  refine ⟨fun _ => ?_, fun z => absurd rfl z⟩
  obtain ⟨b1, b2, b3⟩ := h2.ml.row (F := 99) (o := 17) (k := 15) (n := 8) (by decide)
  obtain ⟨p1, p2⟩ := h2.place hx (q + a)
  rw [i140, i139, nI_add]
  refine ⟨by rw [kV]; rfl, by rw [kV]; rfl, by rw [kV]; rfl, by rw [b1]; exact b2, by rw [b1, b3]; exact vp_in_nI (by omega) (by decide), ?_⟩
  rw [b1]
  exact f_203_417 hE ⟨rfl, hQ1 _ (fV.trans p1.1) (p1.2.1.trans rV) (rX_go p2)⟩
set_option maxHeartbeats 1000000 in
theorem r_203_113 {a t : Nat} {y0 : Int32} (hsp : ox_mono sp) (hK : K < 2 ^ 30) (hin : rIn C nc K e st t) (h : rE S m ce γ B T C nc y e p st) (hT : T + 19 ≤ 1100000) (h138 : S.I 138 m = nI 113) (h139 : S.I 139 m = nI a) (h140 : S.I 140 m = nI q) (htk : tkW 113 a = some t) (hg : st.length - t + gvW 113 a ≤ 10) (hag : agW (C e.c).1 113 a) (hb : 113 = 122 → e.b.length < 4) (hb2 : 113 = 87 → e.b ≠ []) (hQ : ∀ S', mFx m S S' → S'.R = S.R → rX S' m ce T C nc y e q st (xIns C e q 113 a st) → Q none S') : q_203_39 (ox_M sp (d + 7)) m (nI e.t.length) (nI e.c) y0 S mr sr Q := by
  have hE : ox_mono (ox_M sp (d + 7)) := ox_M_mono hsp _
  have et : 0 = t := Option.some.inj (show some 0 = some t from htk)
  have hg1 : st.length - t + 0 ≤ 10 := hg
  have hl : t ≤ st.length := by have := hin.2.2; omega
  subst et
  have s10 := hin.1.2.2.1
  have hQ1 : ∀ S', mFx m S S' → S'.R = S.R → rX S' m ce T C nc y e q st (xGo e a st) → Q none S' := hQ
  have hx := hin.1
  have k14 := h.k
  have t7 := hx.t7
  have c8 : cdL (C e.c).1 ≤ 8 := (hx.1.2.1 e.c hx.1.2.2.2.1).1.2.2.1
  obtain ⟨z1, z2, z3⟩ := h.ml.row (F := 99) (o := 17) (k := 15) (n := 8) (by decide)
  obtain ⟨ch0, h2⟩ := h.place hx q
  have fV := ch0.1
  have rV := ch0.2.1
  have iV : (S.wI (m + 17) e.t.length (nI q)).I = S.I := or_wI_I _ _ _ _
  refine ⟨by rw [k14]; rfl, by rw [k14]; rfl, by rw [z1]; exact z2, by rw [z1, z3]; exact vp_in_nI (by omega) (by decide), ?_⟩
  rw [z1, nI_clamp (show e.t.length < 2 ^ 31 by omega), h140]
  generalize S.wI (m + 17) e.t.length (nI q) = V at ch0 h2 fV rV iV ⊢
  have kV := h2.k
  have i138 : V.I 138 m = nI 113 := by rw [iV]; exact h138
  have i139 : V.I 139 m = nI a := by rw [iV]; exact h139
  have i140 : V.I 140 m = nI q := by rw [iV]; exact h140
  refine ⟨by rw [kV]; rfl, ?_⟩
  rw [i138, nI_toInt (show 113 < 2 ^ 31 by decide)]
  refine ⟨fun z => absurd z (by decide), fun _ => ?_⟩
  refine ⟨fun z => absurd z (by decide), fun _ => ?_⟩
  refine ⟨fun z => absurd z (by decide), fun _ => ?_⟩
  refine ⟨fun z => absurd z (by decide), fun _ => ?_⟩
  refine ⟨fun _ => ?_, fun z => absurd rfl z⟩
  obtain ⟨b1, b2, b3⟩ := h2.ml.row (F := 99) (o := 17) (k := 15) (n := 8) (by decide)
  obtain ⟨p1, p2⟩ := h2.place hx (a)
  rw [i139]
  refine ⟨by rw [kV]; rfl, by rw [kV]; rfl, by rw [b1]; exact b2, by rw [b1, b3]; exact vp_in_nI (by omega) (by decide), ?_⟩
  rw [b1]
  exact f_203_417 hE ⟨rfl, hQ1 _ (fV.trans p1.1) (p1.2.1.trans rV) (rX_go p2)⟩
set_option maxHeartbeats 1000000 in
theorem r_203_114 {a t : Nat} {y0 : Int32} (hsp : ox_mono sp) (hK : K < 2 ^ 30) (hin : rIn C nc K e st t) (h : rE S m ce γ B T C nc y e p st) (hT : T + 19 ≤ 1100000) (h138 : S.I 138 m = nI 114) (h139 : S.I 139 m = nI a) (h140 : S.I 140 m = nI q) (htk : tkW 114 a = some t) (hg : st.length - t + gvW 114 a ≤ 10) (hag : agW (C e.c).1 114 a) (hb : 114 = 122 → e.b.length < 4) (hb2 : 114 = 87 → e.b ≠ []) (hQ : ∀ S', mFx m S S' → S'.R = S.R → rX S' m ce T C nc y e q st (xIns C e q 114 a st) → Q none S') : q_203_39 (ox_M sp (d + 7)) m (nI e.t.length) (nI e.c) y0 S mr sr Q := by
  have hE : ox_mono (ox_M sp (d + 7)) := ox_M_mono hsp _
  have et : 1 = t := Option.some.inj (show some 1 = some t from htk)
  have hg1 : st.length - t + 0 ≤ 10 := hg
  have hl : t ≤ st.length := by have := hin.2.2; omega
  subst et
  have s10 := hin.1.2.2.1
  obtain ⟨v, r, rfl⟩ := ls1 (st := st) hl
  simp only [List.length_cons] at hg1 hl s10
  have hQ1 : ∀ S', mFx m S S' → S'.R = S.R → rX S' m ce T C nc y e q (v :: r) (xGo e (if xFalse e.H v = true then a else q) r) → Q none S' := hQ
  have hx := hin.1
  have k14 := h.k
  have t7 := hx.t7
  have c8 : cdL (C e.c).1 ≤ 8 := (hx.1.2.1 e.c hx.1.2.2.2.1).1.2.2.1
  obtain ⟨z1, z2, z3⟩ := h.ml.row (F := 99) (o := 17) (k := 15) (n := 8) (by decide)
  obtain ⟨ch0, h2⟩ := h.place hx q
  have fV := ch0.1
  have rV := ch0.2.1
  have iV : (S.wI (m + 17) e.t.length (nI q)).I = S.I := or_wI_I _ _ _ _
  refine ⟨by rw [k14]; rfl, by rw [k14]; rfl, by rw [z1]; exact z2, by rw [z1, z3]; exact vp_in_nI (by omega) (by decide), ?_⟩
  rw [z1, nI_clamp (show e.t.length < 2 ^ 31 by omega), h140]
  generalize S.wI (m + 17) e.t.length (nI q) = V at ch0 h2 fV rV iV ⊢
  have kV := h2.k
  have i138 : V.I 138 m = nI 114 := by rw [iV]; exact h138
  have i139 : V.I 139 m = nI a := by rw [iV]; exact h139
  have i140 : V.I 140 m = nI q := by rw [iV]; exact h140
  refine ⟨by rw [kV]; rfl, ?_⟩
  rw [i138, nI_toInt (show 114 < 2 ^ 31 by decide)]
  refine ⟨fun z => absurd z (by decide), fun _ => ?_⟩
  refine ⟨fun z => absurd z (by decide), fun _ => ?_⟩
  refine ⟨fun z => absurd z (by decide), fun _ => ?_⟩
  refine ⟨fun z => absurd z (by decide), fun _ => ?_⟩
  refine ⟨fun z => absurd z (by decide), fun _ => ?_⟩
  refine ⟨fun _ => ?_, fun z => absurd rfl z⟩
  refine ⟨by decide, kV, by decide, 0, 0, Nat.zero_le _, Nat.zero_le _, r_175i hsp h2 hx (fun S1 c1 j1 c2 hB => f_203_224 hE ⟨by decide, c2.k, by decide, 0, 0, Nat.zero_le _, Nat.zero_le _, r_181 hsp c2 hx.tail hx.head hB (f_203_227 hE ?_)⟩)⟩
  have k1 := c2.k
  have j138 : S1.I 138 m = nI 114 := by rw [j1]; exact i138
  have j139 : S1.I 139 m = nI a := by rw [j1]; exact i139
  obtain ⟨b1, b2, b3⟩ := c2.ml.row (F := 99) (o := 17) (k := 15) (n := 8) (by decide)
  obtain ⟨p1, p2⟩ := c2.place hx.tail a
  unfold q_203_227
  rw [j138, j139]
  by_cases zf : xFalse e.H v = true
  · rw [if_pos zf] at hQ1 ⊢
    refine ⟨by rw [k1]; rfl, fun w => absurd (show nI 114 = 114 by decide) w, fun _ => ⟨fun w => absurd rfl w, fun _ => ⟨by rw [k1]; rfl, by rw [k1]; rfl, by rw [b1]; exact b2, by rw [b1, b3]; exact vp_in_nI (by omega) (by decide), ?_⟩⟩⟩
    rw [b1, nI_clamp (show e.t.length < 2 ^ 31 by omega)]
    exact f_203_417 hE ⟨rfl, hQ1 _ (fV.trans (c1.1.trans p1.1)) (p1.2.1.trans (c1.2.1.trans rV)) (rX_go p2)⟩
  · rw [if_neg zf] at hQ1 ⊢
    exact ⟨by rw [k1]; rfl, fun w => absurd (show nI 114 = 114 by decide) w, fun _ => ⟨fun _ => f_203_417 hE ⟨rfl, hQ1 S1 (fV.trans c1.1) (c1.2.1.trans rV) (rX_go c2)⟩, fun w => absurd w (by decide)⟩⟩
set_option maxHeartbeats 1000000 in
theorem r_203_115 {a t : Nat} {y0 : Int32} (hsp : ox_mono sp) (hK : K < 2 ^ 30) (hin : rIn C nc K e st t) (h : rE S m ce γ B T C nc y e p st) (hT : T + 19 ≤ 1100000) (h138 : S.I 138 m = nI 115) (h139 : S.I 139 m = nI a) (h140 : S.I 140 m = nI q) (htk : tkW 115 a = some t) (hg : st.length - t + gvW 115 a ≤ 10) (hag : agW (C e.c).1 115 a) (hb : 115 = 122 → e.b.length < 4) (hb2 : 115 = 87 → e.b ≠ []) (hQ : ∀ S', mFx m S S' → S'.R = S.R → rX S' m ce T C nc y e q st (xIns C e q 115 a st) → Q none S') : q_203_39 (ox_M sp (d + 7)) m (nI e.t.length) (nI e.c) y0 S mr sr Q := by
  have hE : ox_mono (ox_M sp (d + 7)) := ox_M_mono hsp _
  have et : 1 = t := Option.some.inj (show some 1 = some t from htk)
  have hg1 : st.length - t + 0 ≤ 10 := hg
  have hl : t ≤ st.length := by have := hin.2.2; omega
  subst et
  have s10 := hin.1.2.2.1
  obtain ⟨v, r, rfl⟩ := ls1 (st := st) hl
  simp only [List.length_cons] at hg1 hl s10
  have hQ1 : ∀ S', mFx m S S' → S'.R = S.R → rX S' m ce T C nc y e q (v :: r) (xGo e (if xFalse e.H v = true then q else a) r) → Q none S' := hQ
  have hx := hin.1
  have k14 := h.k
  have t7 := hx.t7
  have c8 : cdL (C e.c).1 ≤ 8 := (hx.1.2.1 e.c hx.1.2.2.2.1).1.2.2.1
  obtain ⟨z1, z2, z3⟩ := h.ml.row (F := 99) (o := 17) (k := 15) (n := 8) (by decide)
  obtain ⟨ch0, h2⟩ := h.place hx q
  have fV := ch0.1
  have rV := ch0.2.1
  have iV : (S.wI (m + 17) e.t.length (nI q)).I = S.I := or_wI_I _ _ _ _
  refine ⟨by rw [k14]; rfl, by rw [k14]; rfl, by rw [z1]; exact z2, by rw [z1, z3]; exact vp_in_nI (by omega) (by decide), ?_⟩
  rw [z1, nI_clamp (show e.t.length < 2 ^ 31 by omega), h140]
  generalize S.wI (m + 17) e.t.length (nI q) = V at ch0 h2 fV rV iV ⊢
  have kV := h2.k
  have i138 : V.I 138 m = nI 115 := by rw [iV]; exact h138
  have i139 : V.I 139 m = nI a := by rw [iV]; exact h139
  have i140 : V.I 140 m = nI q := by rw [iV]; exact h140
  refine ⟨by rw [kV]; rfl, ?_⟩
  rw [i138, nI_toInt (show 115 < 2 ^ 31 by decide)]
  refine ⟨fun z => absurd z (by decide), fun _ => ?_⟩
  refine ⟨fun z => absurd z (by decide), fun _ => ?_⟩
  refine ⟨fun z => absurd z (by decide), fun _ => ?_⟩
  refine ⟨fun z => absurd z (by decide), fun _ => ?_⟩
  refine ⟨fun z => absurd z (by decide), fun _ => ?_⟩
  refine ⟨fun z => absurd z (by decide), fun _ => ?_⟩
  refine ⟨fun _ => ?_, fun z => absurd rfl z⟩
  refine ⟨by decide, kV, by decide, 0, 0, Nat.zero_le _, Nat.zero_le _, r_175i hsp h2 hx (fun S1 c1 j1 c2 hB => f_203_224 hE ⟨by decide, c2.k, by decide, 0, 0, Nat.zero_le _, Nat.zero_le _, r_181 hsp c2 hx.tail hx.head hB (f_203_227 hE ?_)⟩)⟩
  have k1 := c2.k
  have j138 : S1.I 138 m = nI 115 := by rw [j1]; exact i138
  have j139 : S1.I 139 m = nI a := by rw [j1]; exact i139
  obtain ⟨b1, b2, b3⟩ := c2.ml.row (F := 99) (o := 17) (k := 15) (n := 8) (by decide)
  obtain ⟨p1, p2⟩ := c2.place hx.tail a
  unfold q_203_227
  rw [j138, j139]
  by_cases zf : xFalse e.H v = true
  · rw [if_pos zf] at hQ1 ⊢
    exact ⟨by rw [k1]; rfl, fun _ => ⟨fun _ => f_203_417 hE ⟨rfl, hQ1 S1 (fV.trans c1.1) (c1.2.1.trans rV) (rX_go c2)⟩, fun w => absurd w (by decide)⟩, fun w => absurd w (show ¬ nI 115 = 114 by decide)⟩
  · rw [if_neg zf] at hQ1 ⊢
    refine ⟨by rw [k1]; rfl, fun _ => ⟨fun w => absurd rfl w, fun _ => ⟨by rw [k1]; rfl, by rw [k1]; rfl, by rw [b1]; exact b2, by rw [b1, b3]; exact vp_in_nI (by omega) (by decide), ?_⟩⟩, fun w => absurd w (show ¬ nI 115 = 114 by decide)⟩
    rw [b1, nI_clamp (show e.t.length < 2 ^ 31 by omega)]
    exact f_203_417 hE ⟨rfl, hQ1 _ (fV.trans (c1.1.trans p1.1)) (p1.2.1.trans (c1.2.1.trans rV)) (rX_go p2)⟩
set_option maxHeartbeats 1000000 in
theorem r_203_122 {a t : Nat} {y0 : Int32} (hsp : ox_mono sp) (hK : K < 2 ^ 30) (hin : rIn C nc K e st t) (h : rE S m ce γ B T C nc y e p st) (hT : T + 19 ≤ 1100000) (h138 : S.I 138 m = nI 122) (h139 : S.I 139 m = nI a) (h140 : S.I 140 m = nI q) (htk : tkW 122 a = some t) (hg : st.length - t + gvW 122 a ≤ 10) (hag : agW (C e.c).1 122 a) (hb : 122 = 122 → e.b.length < 4) (hb2 : 122 = 87 → e.b ≠ []) (hQ : ∀ S', mFx m S S' → S'.R = S.R → rX S' m ce T C nc y e q st (xIns C e q 122 a st) → Q none S') : q_203_39 (ox_M sp (d + 7)) m (nI e.t.length) (nI e.c) y0 S mr sr Q := by
  have hE : ox_mono (ox_M sp (d + 7)) := ox_M_mono hsp _
  have et : 0 = t := Option.some.inj (show some 0 = some t from htk)
  have hg1 : st.length - t + 0 ≤ 10 := hg
  have hl : t ≤ st.length := by have := hin.2.2; omega
  subst et
  have s10 := hin.1.2.2.1
  have hQ1 : ∀ S', mFx m S S' → S'.R = S.R → rX S' m ce T C nc y e q st (.inr (e.H, e.n, e.G, (e.c, q, st, e.L, (st.length, q + a) :: e.b) :: e.t, none)) → Q none S' := hQ
  have hx := hin.1
  have k14 := h.k
  have t7 := hx.t7
  have c8 : cdL (C e.c).1 ≤ 8 := (hx.1.2.1 e.c hx.1.2.2.2.1).1.2.2.1
  obtain ⟨z1, z2, z3⟩ := h.ml.row (F := 99) (o := 17) (k := 15) (n := 8) (by decide)
  obtain ⟨ch0, h2⟩ := h.place hx q
  have fV := ch0.1
  have rV := ch0.2.1
  have iV : (S.wI (m + 17) e.t.length (nI q)).I = S.I := or_wI_I _ _ _ _
  refine ⟨by rw [k14]; rfl, by rw [k14]; rfl, by rw [z1]; exact z2, by rw [z1, z3]; exact vp_in_nI (by omega) (by decide), ?_⟩
  rw [z1, nI_clamp (show e.t.length < 2 ^ 31 by omega), h140]
  generalize S.wI (m + 17) e.t.length (nI q) = V at ch0 h2 fV rV iV ⊢
  have kV := h2.k
  have i138 : V.I 138 m = nI 122 := by rw [iV]; exact h138
  have i139 : V.I 139 m = nI a := by rw [iV]; exact h139
  have i140 : V.I 140 m = nI q := by rw [iV]; exact h140
  refine ⟨by rw [kV]; rfl, ?_⟩
  rw [i138, nI_toInt (show 122 < 2 ^ 31 by decide)]
  refine ⟨fun z => absurd z (by decide), fun _ => ?_⟩
  refine ⟨fun z => absurd z (by decide), fun _ => ?_⟩
  refine ⟨fun z => absurd z (by decide), fun _ => ?_⟩
  refine ⟨fun z => absurd z (by decide), fun _ => ?_⟩
  refine ⟨fun z => absurd z (by decide), fun _ => ?_⟩
  refine ⟨fun z => absurd z (by decide), fun _ => ?_⟩
  refine ⟨fun z => absurd z (by decide), fun _ => ?_⟩
  refine ⟨fun _ => ?_, fun z => absurd rfl z⟩
  have b4 : e.b.length < 4 := hb rfl
  obtain ⟨f1, f2, f3, f4, f5, f6, f7⟩ := h2.2.2.2.1.1
  have f3' : V.rI (m + 18) e.t.length = nI st.length := f3
  have f4' : V.rI (m + 19) e.t.length = nI e.b.length := f4
  obtain ⟨A1, A2, A3⟩ := h2.ml.row (F := 104) (o := 22) (k := 15) (n := 32) (by decide)
  obtain ⟨B1, B2, B3⟩ := h2.ml.row (F := 101) (o := 19) (k := 15) (n := 8) (by decide)
  obtain ⟨C1, C2, C3⟩ := h2.ml.row (F := 100) (o := 18) (k := 15) (n := 8) (by decide)
  obtain ⟨D1, D2, D3⟩ := h2.ml.row (F := 105) (o := 23) (k := 15) (n := 32) (by decide)
  have n4 : (4 : Int32) * nI e.t.length + nI e.b.length = nI (4 * e.t.length + e.b.length) := by rw [show (4 : Int32) = nI 4 from rfl, pk_mul, nI_add]
  have il : 4 * e.t.length + e.b.length < 2 ^ 31 := by omega
  refine ⟨by rw [kV]; rfl, by rw [kV]; rfl, by rw [B1, B2]; rfl, by rw [B1, B3]; exact vp_in_nI (by omega) (by decide), by rw [kV]; rfl, by rw [C1, C2]; rfl, by rw [C1, C3]; exact vp_in_nI (by omega) (by decide), by rw [A1]; exact A2, by rw [A1, A3, B1, f4', n4]; exact vp_in_nI (by omega) (by decide), ?_⟩
  rw [A1, B1, C1, f4', f3', n4, nI_clamp il]
  have ch1 : rCh m ce T e.t.length V (V.wI (m + 22) (4 * e.t.length + e.b.length) (nI st.length)) := rCh.refl.wI h2.c23 (Or.inr (Or.inr (Or.inr (Or.inl ⟨rfl, by omega⟩))))
  have er1 : ∀ a j, (V.wI (m + 22) (4 * e.t.length + e.b.length) (nI st.length)).rI a j = if a = m + 22 ∧ j = 4 * e.t.length + e.b.length then nI st.length else V.rI a j := fun a j => or_wI_rI _ _ _ _ _ _
  have eI1 : (V.wI (m + 22) (4 * e.t.length + e.b.length) (nI st.length)).I = V.I := or_wI_I _ _ _ _
  have eK1 : (V.wI (m + 22) (4 * e.t.length + e.b.length) (nI st.length)).K = V.K := or_wI_K _ _ _ _
  have el1 : (V.wI (m + 22) (4 * e.t.length + e.b.length) (nI st.length)).len = V.len := or_wI_len _ _ _ _
  have eR1 : (V.wI (m + 22) (4 * e.t.length + e.b.length) (nI st.length)).R = V.R := or_wI_R _ _ _ _
  generalize V.wI (m + 22) (4 * e.t.length + e.b.length) (nI st.length) = W at ch1 er1 eI1 eK1 el1 eR1 ⊢
  have r19 : W.rI (m + 19) e.t.length = nI e.b.length := by rw [er1, if_neg (fun y => by have := y.1; omega)]; exact f4'
  refine ⟨by rw [eK1, kV]; rfl, by rw [eK1, kV]; rfl, by rw [eR1, eK1, B1, B2]; rfl, by rw [eR1, el1, B1, B3]; exact vp_in_nI (by omega) (by decide), by rw [eK1, kV]; rfl, by rw [eK1, kV]; rfl, by rw [eR1, eK1, D1]; exact D2, by rw [eR1, el1, D1, D3, B1, r19, n4]; exact vp_in_nI (by omega) (by decide), ?_⟩
  rw [eR1, eI1, D1, B1, r19, n4, nI_clamp il, i140, i139, nI_add]
  have ch2 : rCh m ce T e.t.length V (W.wI (m + 23) (4 * e.t.length + e.b.length) (nI (q + a))) := ch1.wI h2.c23 (Or.inr (Or.inr (Or.inr (Or.inr ⟨rfl, by omega⟩))))
  have er2 : ∀ a' j, (W.wI (m + 23) (4 * e.t.length + e.b.length) (nI (q + a))).rI a' j = if a' = m + 23 ∧ j = 4 * e.t.length + e.b.length then nI (q + a) else if a' = m + 22 ∧ j = 4 * e.t.length + e.b.length then nI st.length else V.rI a' j := fun a' j => by rw [or_wI_rI, er1]
  have eK2 : (W.wI (m + 23) (4 * e.t.length + e.b.length) (nI (q + a))).K = V.K := (or_wI_K _ _ _ _).trans eK1
  have el2 : (W.wI (m + 23) (4 * e.t.length + e.b.length) (nI (q + a))).len = V.len := (or_wI_len _ _ _ _).trans el1
  have eR2 : (W.wI (m + 23) (4 * e.t.length + e.b.length) (nI (q + a))).R = V.R := (or_wI_R _ _ _ _).trans eR1
  generalize W.wI (m + 23) (4 * e.t.length + e.b.length) (nI (q + a)) = X at ch2 er2 eK2 el2 eR2 ⊢
  have r19' : X.rI (m + 19) e.t.length = nI e.b.length := by rw [er2, if_neg (fun y => by have := y.1; omega), if_neg (fun y => by have := y.1; omega)]; exact f4'
  refine ⟨by rw [eK2, kV]; rfl, by rw [eR2, eK2, B1, B2]; rfl, by rw [eR2, el2, B1, B3]; exact vp_in_nI (by omega) (by decide), by rw [eR2, eK2, B1]; exact B2, by rw [eR2, el2, B1, B3]; exact vp_in_nI (by omega) (by decide), ?_⟩
  rw [eR2, B1, r19', nI_1]
  have ch3 : rCh m ce T e.t.length V (X.wI (m + 19) e.t.length (nI (e.b.length + 1))) := ch2.wI h2.c23 (Or.inl ⟨by omega, by omega, rfl⟩)
  have er3 : ∀ a' j, (X.wI (m + 19) e.t.length (nI (e.b.length + 1))).rI a' j = if a' = m + 19 ∧ j = e.t.length then nI (e.b.length + 1) else if a' = m + 23 ∧ j = 4 * e.t.length + e.b.length then nI (q + a) else if a' = m + 22 ∧ j = 4 * e.t.length + e.b.length then nI st.length else V.rI a' j := fun a' j => by rw [or_wI_rI, er2]
  show k_203_417 (ox_M sp (d + 7)) m (nI e.t.length) (nI e.c) y0 mr sr Q none (X.wI (m + 19) e.t.length (nI (e.b.length + 1)))
  generalize X.wI (m + 19) e.t.length (nI (e.b.length + 1)) = Y at ch3 er3 ⊢
  have ne : ∀ a' j, a' ≠ m + 19 → a' ≠ m + 22 → a' ≠ m + 23 → Y.rI a' j = V.rI a' j := fun a' j z1 z2 z3 => by rw [er3, if_neg (fun y => z1 y.1), if_neg (fun y => z3 y.1), if_neg (fun y => z2 y.1)]
  refine f_203_417 hE ⟨rfl, hQ1 Y (fV.trans ch3.1) (ch3.2.1.trans rV) ⟨γ, B, T, Nat.le_add_right _ _, ?_⟩⟩
  refine h2.fr hx ch3 (f' := (e.c, q, st, e.L, (st.length, q + a) :: e.b)) ⟨(ne _ _ (by omega) (by omega) (by omega)).trans f1, (ne _ _ (by omega) (by omega) (by omega)).trans f2, (ne _ _ (by omega) (by omega) (by omega)).trans f3, ?_, rStk.row _ (fun j _ => ne _ _ (by omega) (by omega) (by omega)) (fun _ _ => rfl) f5, rLo.row (fun j _ => ne _ _ (by omega) (by omega) (by omega)) (fun _ _ _ => rfl) f6, ?_, ?_, rBk.row _ (fun j hj => ⟨?_, ?_⟩) f7⟩ h2.in.1 h2.in.2
  · rw [er3, if_pos ⟨rfl, rfl⟩]; rfl
  · rw [er3, if_neg (fun y => by have := y.1; omega), if_neg (fun y => by have := y.1; omega), if_pos ⟨rfl, rfl⟩]
  · rw [er3, if_neg (fun y => by have := y.1; omega), if_pos ⟨rfl, rfl⟩]
  · rw [er3, if_neg (fun y => by have := y.1; omega), if_neg (fun y => by have := y.1; omega), if_neg (fun y => by have := y.2; omega)]
  · rw [er3, if_neg (fun y => by have := y.1; omega), if_neg (fun y => by have := y.2; omega), if_neg (fun y => by have := y.1; omega)]
set_option maxHeartbeats 1000000 in
theorem r_203_124 {a t : Nat} {y0 : Int32} (hsp : ox_mono sp) (hK : K < 2 ^ 30) (hin : rIn C nc K e st t) (h : rE S m ce γ B T C nc y e p st) (hT : T + 19 ≤ 1100000) (h138 : S.I 138 m = nI 124) (h139 : S.I 139 m = nI a) (h140 : S.I 140 m = nI q) (htk : tkW 124 a = some t) (hg : st.length - t + gvW 124 a ≤ 10) (hag : agW (C e.c).1 124 a) (hb : 124 = 122 → e.b.length < 4) (hb2 : 124 = 87 → e.b ≠ []) (hQ : ∀ S', mFx m S S' → S'.R = S.R → rX S' m ce T C nc y e q st (xIns C e q 124 a st) → Q none S') : q_203_39 (ox_M sp (d + 7)) m (nI e.t.length) (nI e.c) y0 S mr sr Q := by
  have hE : ox_mono (ox_M sp (d + 7)) := ox_M_mono hsp _
  have et : 0 = t := Option.some.inj (show some 0 = some t from htk)
  have hg1 : st.length - t + 1 ≤ 10 := hg
  have hl : t ≤ st.length := by have := hin.2.2; omega
  subst et
  have s10 := hin.1.2.2.1
  have hQ1 : ∀ S', mFx m S S' → S'.R = S.R → rX S' m ce T C nc y e q st ((match e.L a with
      | some v => xGo e q (v :: st)
      | none => .inl 4)) → Q none S' := hQ
  have hx := hin.1
  have k14 := h.k
  have t7 := hx.t7
  have c8 : cdL (C e.c).1 ≤ 8 := (hx.1.2.1 e.c hx.1.2.2.2.1).1.2.2.1
  obtain ⟨z1, z2, z3⟩ := h.ml.row (F := 99) (o := 17) (k := 15) (n := 8) (by decide)
  obtain ⟨ch0, h2⟩ := h.place hx q
  have fV := ch0.1
  have rV := ch0.2.1
  have iV : (S.wI (m + 17) e.t.length (nI q)).I = S.I := or_wI_I _ _ _ _
  refine ⟨by rw [k14]; rfl, by rw [k14]; rfl, by rw [z1]; exact z2, by rw [z1, z3]; exact vp_in_nI (by omega) (by decide), ?_⟩
  rw [z1, nI_clamp (show e.t.length < 2 ^ 31 by omega), h140]
  generalize S.wI (m + 17) e.t.length (nI q) = V at ch0 h2 fV rV iV ⊢
  have kV := h2.k
  have i138 : V.I 138 m = nI 124 := by rw [iV]; exact h138
  have i139 : V.I 139 m = nI a := by rw [iV]; exact h139
  have i140 : V.I 140 m = nI q := by rw [iV]; exact h140
  refine ⟨by rw [kV]; rfl, ?_⟩
  rw [i138, nI_toInt (show 124 < 2 ^ 31 by decide)]
  refine ⟨fun z => absurd z (by decide), fun _ => ?_⟩
  refine ⟨fun z => absurd z (by decide), fun _ => ?_⟩
  refine ⟨fun z => absurd z (by decide), fun _ => ?_⟩
  refine ⟨fun z => absurd z (by decide), fun _ => ?_⟩
  refine ⟨fun z => absurd z (by decide), fun _ => ?_⟩
  refine ⟨fun z => absurd z (by decide), fun _ => ?_⟩
  refine ⟨fun z => absurd z (by decide), fun _ => ?_⟩
  refine ⟨fun z => absurd z (by decide), fun _ => ?_⟩
  refine ⟨fun _ => ?_, fun z => absurd rfl z⟩
  have a8 : a < 8 := by have := hag.2.2.1 (Or.inl rfl); omega
  obtain ⟨b1, b2, b3⟩ := h2.ml.row (F := 103) (o := 21) (k := 15) (n := 64) (by decide)
  have n8 : (8 : Int32) * nI e.t.length + nI a = nI (8 * e.t.length + a) := by rw [show (8 : Int32) = nI 8 from rfl, pk_mul, nI_add]
  have lo := h2.2.2.2.1.1.2.2.2.2.2.1 a a8
  rw [i139, n8, b1, b2, b3, nI_clamp (show 8 * e.t.length + a < 2 ^ 31 by omega), kV]
  have lo' : (match e.L a with
    | none => V.rI (m + 21) (8 * e.t.length + a) = -1000000
    | some v => V.rI (m + 21) (8 * e.t.length + a) = gV γ v) := lo
  cases el : e.L a with
  | none =>
    rw [el] at hQ1 lo'
    dsimp only at hQ1 lo'
    rw [lo']
    exact ⟨rfl, rfl, rfl, vp_in_nI (by omega) (by decide), fun w => absurd rfl w, fun _ => ⟨by decide, rfl, by decide, 0, 0, Nat.zero_le _, Nat.zero_le _, r_raise hsp (k := 4) (i := 0) (by decide) hin (Nat.zero_le _) h2 (fun S' n1 n2 n3 => f_203_339 hE (f_203_417 hE ⟨rfl, hQ1 S' (fV.trans n1) (n2.trans rV) (rX_k n3)⟩))⟩⟩
  | some v =>
    rw [el] at hQ1 lo'
    dsimp only at hQ1 lo'
    rw [lo']
    have hB : xIn B v := h2.in.2 a v el
    have ok : xOk nc e.H v := (hx.1.2.2.2.2.2.1 a v el).2
    exact ⟨rfl, rfl, rfl, vp_in_nI (by omega) (by decide), fun _ => ⟨rfl, rfl, rfl, vp_in_nI (by omega) (by decide), by decide, rfl, by decide, 0, 0, Nat.zero_le _, Nat.zero_le _, r_174 hsp h2 hx (by omega) hB (fun S' n1 n2 => f_203_360 hE (f_203_417 hE ⟨rfl, hQ1 S' (fV.trans n1.1) (n1.2.1.trans rV) (rX_go n2)⟩))⟩, fun w => absurd w (h2.neU hx ok hB)⟩
set_option maxHeartbeats 1000000 in
theorem r_203_125 {a t : Nat} {y0 : Int32} (hsp : ox_mono sp) (hK : K < 2 ^ 30) (hin : rIn C nc K e st t) (h : rE S m ce γ B T C nc y e p st) (hT : T + 19 ≤ 1100000) (h138 : S.I 138 m = nI 125) (h139 : S.I 139 m = nI a) (h140 : S.I 140 m = nI q) (htk : tkW 125 a = some t) (hg : st.length - t + gvW 125 a ≤ 10) (hag : agW (C e.c).1 125 a) (hb : 125 = 122 → e.b.length < 4) (hb2 : 125 = 87 → e.b ≠ []) (hQ : ∀ S', mFx m S S' → S'.R = S.R → rX S' m ce T C nc y e q st (xIns C e q 125 a st) → Q none S') : q_203_39 (ox_M sp (d + 7)) m (nI e.t.length) (nI e.c) y0 S mr sr Q := by
  have hE : ox_mono (ox_M sp (d + 7)) := ox_M_mono hsp _
  have et : 1 = t := Option.some.inj (show some 1 = some t from htk)
  have hg1 : st.length - t + 0 ≤ 10 := hg
  have hl : t ≤ st.length := by have := hin.2.2; omega
  subst et
  have s10 := hin.1.2.2.1
  obtain ⟨v, r, rfl⟩ := ls1 (st := st) hl
  simp only [List.length_cons] at hg1 hl s10
  have hQ1 : ∀ S', mFx m S S' → S'.R = S.R → rX S' m ce T C nc y e q (v :: r) (.inr (e.H, e.n, e.G, (e.c, q, r, (fun i => if i = a then some v else e.L i), e.b) :: e.t, none)) → Q none S' := hQ
  have hx := hin.1
  have k14 := h.k
  have t7 := hx.t7
  have c8 : cdL (C e.c).1 ≤ 8 := (hx.1.2.1 e.c hx.1.2.2.2.1).1.2.2.1
  obtain ⟨z1, z2, z3⟩ := h.ml.row (F := 99) (o := 17) (k := 15) (n := 8) (by decide)
  obtain ⟨ch0, h2⟩ := h.place hx q
  have fV := ch0.1
  have rV := ch0.2.1
  have iV : (S.wI (m + 17) e.t.length (nI q)).I = S.I := or_wI_I _ _ _ _
  refine ⟨by rw [k14]; rfl, by rw [k14]; rfl, by rw [z1]; exact z2, by rw [z1, z3]; exact vp_in_nI (by omega) (by decide), ?_⟩
  rw [z1, nI_clamp (show e.t.length < 2 ^ 31 by omega), h140]
  generalize S.wI (m + 17) e.t.length (nI q) = V at ch0 h2 fV rV iV ⊢
  have kV := h2.k
  have i138 : V.I 138 m = nI 125 := by rw [iV]; exact h138
  have i139 : V.I 139 m = nI a := by rw [iV]; exact h139
  have i140 : V.I 140 m = nI q := by rw [iV]; exact h140
  refine ⟨by rw [kV]; rfl, ?_⟩
  rw [i138, nI_toInt (show 125 < 2 ^ 31 by decide)]
  refine ⟨fun z => absurd z (by decide), fun _ => ?_⟩
  refine ⟨fun z => absurd z (by decide), fun _ => ?_⟩
  refine ⟨fun z => absurd z (by decide), fun _ => ?_⟩
  refine ⟨fun z => absurd z (by decide), fun _ => ?_⟩
  refine ⟨fun z => absurd z (by decide), fun _ => ?_⟩
  refine ⟨fun z => absurd z (by decide), fun _ => ?_⟩
  refine ⟨fun z => absurd z (by decide), fun _ => ?_⟩
  refine ⟨fun z => absurd z (by decide), fun _ => ?_⟩
  refine ⟨fun z => absurd z (by decide), fun _ => ?_⟩
  refine ⟨fun _ => ?_, fun z => absurd rfl z⟩
  have a8 : a < 8 := by have := hag.2.2.1 (Or.inr rfl); omega
  obtain ⟨b1, b2, b3⟩ := h2.ml.row (F := 103) (o := 21) (k := 15) (n := 64) (by decide)
  have n8 : (8 : Int32) * nI e.t.length + nI a = nI (8 * e.t.length + a) := by rw [show (8 : Int32) = nI 8 from rfl, pk_mul, nI_add]
  rw [i139, n8, b1]
  refine ⟨by rw [kV]; rfl, by rw [kV]; rfl, by decide, kV, by decide, 0, 0, Nat.zero_le _, Nat.zero_le _, r_175i hsp h2 hx (fun S1 c1 j1 c2 hB => f_203_380 hE ?_)⟩
  obtain ⟨d1, d2, d3⟩ := c2.ml.row (F := 103) (o := 21) (k := 15) (n := 64) (by decide)
  refine ⟨d2, by rw [d3]; exact vp_in_nI (by omega) (by decide), ?_⟩
  rw [nI_clamp (show 8 * e.t.length + a < 2 ^ 31 by omega)]
  obtain ⟨f1, f2, f3, f4, f5, f6, f7⟩ := c2.2.2.2.1.1
  have ch : rCh m ce T e.t.length S1 (S1.wI (m + 21) (8 * e.t.length + a) (gV γ v)) := rCh.refl.wI c2.c23 (Or.inr (Or.inr (Or.inl ⟨rfl, by omega⟩)))
  have er : ∀ a' j, (S1.wI (m + 21) (8 * e.t.length + a) (gV γ v)).rI a' j = if a' = m + 21 ∧ j = 8 * e.t.length + a then gV γ v else S1.rI a' j := fun a' j => or_wI_rI _ _ _ _ _ _
  show k_203_417 (ox_M sp (d + 7)) m (nI e.t.length) (nI e.c) y0 _ _ Q none (S1.wI (m + 21) (8 * e.t.length + a) (gV γ v))
  generalize S1.wI (m + 21) (8 * e.t.length + a) (gV γ v) = W at ch er ⊢
  have ne : ∀ a' j, a' ≠ m + 21 → W.rI a' j = S1.rI a' j := fun a' j z => by rw [er, if_neg (fun y => z y.1)]
  refine f_203_417 hE ⟨rfl, hQ1 W (fV.trans (c1.1.trans ch.1)) (ch.2.1.trans (c1.2.1.trans rV)) ⟨γ, B, T, Nat.le_add_right _ _, ?_⟩⟩
  refine c2.fr hx.tail ch (f' := (e.c, q, r, (fun i => if i = a then some v else e.L i), e.b)) ⟨(ne _ _ (by omega)).trans f1, (ne _ _ (by omega)).trans f2, (ne _ _ (by omega)).trans f3, (ne _ _ (by omega)).trans f4, rStk.row _ (fun j _ => ne _ _ (by omega)) (fun _ _ => rfl) f5, fun j hj => ?_, rBk.row _ (fun j _ => ⟨ne _ _ (by omega), ne _ _ (by omega)⟩) f7⟩ c2.in.1 (fun j w hw => ?_)
  · have g' : (match e.L j with
      | none => S1.rI (m + 21) (8 * e.t.length + j) = -1000000
      | some v => S1.rI (m + 21) (8 * e.t.length + j) = gV γ v) := f6 j hj
    show (match (if j = a then some v else e.L j) with
      | none => W.rI (m + 21) (8 * e.t.length + j) = -1000000
      | some v => W.rI (m + 21) (8 * e.t.length + j) = gV γ v)
    rw [er]
    by_cases z : j = a
    · subst z
      rw [if_pos rfl, if_pos ⟨rfl, rfl⟩]
    · rw [if_neg z, if_neg (fun y => z (by have := y.2; omega))]
      exact g'
  · have hw' : (if j = a then some v else e.L j) = some w := hw
    by_cases z : j = a
    · rw [if_pos z] at hw'
      cases hw'
      exact hB
    · rw [if_neg z] at hw'
      exact c2.in.2 j w hw'
set_option maxHeartbeats 1000000 in
theorem r_203_130 {a t : Nat} {y0 : Int32} (hsp : ox_mono sp) (hK : K < 2 ^ 30) (hin : rIn C nc K e st t) (h : rE S m ce γ B T C nc y e p st) (hT : T + 19 ≤ 1100000) (h138 : S.I 138 m = nI 130) (h139 : S.I 139 m = nI a) (h140 : S.I 140 m = nI q) (htk : tkW 130 a = some t) (hg : st.length - t + gvW 130 a ≤ 10) (hag : agW (C e.c).1 130 a) (hb : 130 = 122 → e.b.length < 4) (hb2 : 130 = 87 → e.b ≠ []) (hQ : ∀ S', mFx m S S' → S'.R = S.R → rX S' m ce T C nc y e q st (xIns C e q 130 a st) → Q none S') : q_203_39 (ox_M sp (d + 7)) m (nI e.t.length) (nI e.c) y0 S mr sr Q := by
  have hE : ox_mono (ox_M sp (d + 7)) := ox_M_mono hsp _
  have et : 1 = t := Option.some.inj (show some 1 = some t from htk)
  have hg1 : st.length - t + 0 ≤ 10 := hg
  have hl : t ≤ st.length := by have := hin.2.2; omega
  subst et
  have s10 := hin.1.2.2.1
  obtain ⟨v, r, rfl⟩ := ls1 (st := st) hl
  simp only [List.length_cons] at hg1 hl s10
  have hQ1 : ∀ S', mFx m S S' → S'.R = S.R → rX S' m ce T C nc y e q (v :: r) (.inl (if xIsK v = true then (v - 4).toNat else 0)) → Q none S' := hQ
  have hx := hin.1
  have k14 := h.k
  have t7 := hx.t7
  have c8 : cdL (C e.c).1 ≤ 8 := (hx.1.2.1 e.c hx.1.2.2.2.1).1.2.2.1
  obtain ⟨z1, z2, z3⟩ := h.ml.row (F := 99) (o := 17) (k := 15) (n := 8) (by decide)
  obtain ⟨ch0, h2⟩ := h.place hx q
  have fV := ch0.1
  have rV := ch0.2.1
  have iV : (S.wI (m + 17) e.t.length (nI q)).I = S.I := or_wI_I _ _ _ _
  refine ⟨by rw [k14]; rfl, by rw [k14]; rfl, by rw [z1]; exact z2, by rw [z1, z3]; exact vp_in_nI (by omega) (by decide), ?_⟩
  rw [z1, nI_clamp (show e.t.length < 2 ^ 31 by omega), h140]
  generalize S.wI (m + 17) e.t.length (nI q) = V at ch0 h2 fV rV iV ⊢
  have kV := h2.k
  have i138 : V.I 138 m = nI 130 := by rw [iV]; exact h138
  have i139 : V.I 139 m = nI a := by rw [iV]; exact h139
  have i140 : V.I 140 m = nI q := by rw [iV]; exact h140
  refine ⟨by rw [kV]; rfl, ?_⟩
  rw [i138, nI_toInt (show 130 < 2 ^ 31 by decide)]
  refine ⟨fun z => absurd z (by decide), fun _ => ?_⟩
  refine ⟨fun z => absurd z (by decide), fun _ => ?_⟩
  refine ⟨fun z => absurd z (by decide), fun _ => ?_⟩
  refine ⟨fun z => absurd z (by decide), fun _ => ?_⟩
  refine ⟨fun z => absurd z (by decide), fun _ => ?_⟩
  refine ⟨fun z => absurd z (by decide), fun _ => ?_⟩
  refine ⟨fun z => absurd z (by decide), fun _ => ?_⟩
  refine ⟨fun z => absurd z (by decide), fun _ => ?_⟩
  refine ⟨fun z => absurd z (by decide), fun _ => ?_⟩
  refine ⟨fun z => absurd z (by decide), fun _ => ?_⟩
  refine ⟨fun _ => ?_, fun z => absurd rfl z⟩
  refine ⟨by decide, kV, by decide, 0, 0, Nat.zero_le _, Nat.zero_le _, r_175i hsp h2 hx (fun S1 c1 j1 c2 hB => f_203_388 hE ⟨by decide, by decide, 0, 0, Nat.zero_le _, Nat.zero_le _, r_136 hsp c2 hx.tail hx.head hB (f_203_396 hE ?_)⟩)⟩
  have k1 := c2.k
  by_cases zk : xIsK v = true
  · rw [if_pos zk] at hQ1 ⊢
    have v4 : 4 ≤ v ∧ v ≤ 10 := by
      unfold xIsK at zk
      rw [Bool.and_eq_true, decide_eq_true_iff, decide_eq_true_iff] at zk
      exact zk
    have ev : gV γ v - 4 = nI (v - 4).toNat := by
      have eg : gV γ v = nI v.toNat := by
        unfold gV
        rw [if_pos (by omega)]
        refine Int32.toInt_inj.mp ?_
        rw [Int32.toInt_ofInt_of_le (by omega) (by omega), nI_toInt (by omega)]
        omega
      rw [eg, show (4 : Int32) = nI 4 from rfl, pk_sub (by omega)]
      exact congrArg nI (by omega)
    refine ⟨fun w => absurd w (by decide), fun _ => ⟨by decide, k1, by decide, 0, 0, Nat.zero_le _, Nat.zero_le _, ?_⟩⟩
    rw [ev]
    exact r_raise hsp (k := (v - 4).toNat) (i := 1) (by omega) hin (Nat.le_refl _) c2 (fun S' n1 n2 n3 => f_203_410 hE (f_203_417 hE ⟨rfl, hQ1 S' (fV.trans (c1.1.trans n1)) (n2.trans (c1.2.1.trans rV)) (rX_k n3)⟩))
  · rw [if_neg zk] at hQ1 ⊢
    exact ⟨fun _ => ⟨by decide, k1, by decide, 0, 0, Nat.zero_le _, Nat.zero_le _, r_raise hsp (k := 0) (i := 1) (by decide) hin (Nat.le_refl _) c2 (fun S' n1 n2 n3 => f_203_410 hE (f_203_417 hE ⟨rfl, hQ1 S' (fV.trans (c1.1.trans n1)) (n2.trans (c1.2.1.trans rV)) (rX_k n3)⟩))⟩, fun w => absurd rfl w⟩
theorem r_203_w {w a t : Nat} {y0 : Int32} (hsp : ox_mono sp) (hw : w ≠ 83 ∧ w ≠ 87 ∧ w ≠ 93 ∧ w ≠ 110 ∧ w ≠ 113 ∧ w ≠ 114 ∧ w ≠ 115 ∧ w ≠ 122 ∧ w ≠ 124 ∧ w ≠ 125 ∧ w ≠ 130) (w31 : w < 2 ^ 31) (hK : K < 2 ^ 30) (hin : rIn C nc K e st t) (h : rE S m ce γ B T C nc y e p st) (hT : T + 19 ≤ 1100000) (h138 : S.I 138 m = nI w) (h139 : S.I 139 m = nI a) (h140 : S.I 140 m = nI q) (htk : tkW w a = some t) (hg : st.length - t + gvW w a ≤ 10) (hag : agW (C e.c).1 w a) (hb : w = 122 → e.b.length < 4) (hb2 : w = 87 → e.b ≠ []) (hQ : ∀ S', mFx m S S' → S'.R = S.R → rX S' m ce T C nc y e q st (xIns C e q w a st) → Q none S') : q_203_39 (ox_M sp (d + 7)) m (nI e.t.length) (nI e.c) y0 S mr sr Q := by
  have hE : ox_mono (ox_M sp (d + 7)) := ox_M_mono hsp _
  have hx := hin.1
  have k14 := h.k
  have t7 := hx.t7
  have c8 : cdL (C e.c).1 ≤ 8 := (hx.1.2.1 e.c hx.1.2.2.2.1).1.2.2.1
  obtain ⟨z1, z2, z3⟩ := h.ml.row (F := 99) (o := 17) (k := 15) (n := 8) (by decide)
  obtain ⟨ch0, h2⟩ := h.place hx q
  have fV := ch0.1
  have rV := ch0.2.1
  have iV : (S.wI (m + 17) e.t.length (nI q)).I = S.I := or_wI_I _ _ _ _
  refine ⟨by rw [k14]; rfl, by rw [k14]; rfl, by rw [z1]; exact z2, by rw [z1, z3]; exact vp_in_nI (by omega) (by decide), ?_⟩
  rw [z1, nI_clamp (show e.t.length < 2 ^ 31 by omega), h140]
  generalize S.wI (m + 17) e.t.length (nI q) = V at ch0 h2 fV rV iV ⊢
  have kV := h2.k
  have i138 : V.I 138 m = nI w := by rw [iV]; exact h138
  have i139 : V.I 139 m = nI a := by rw [iV]; exact h139
  have i140 : V.I 140 m = nI q := by rw [iV]; exact h140
  refine ⟨by rw [kV]; rfl, ?_⟩
  rw [i138, nI_toInt (show w < 2 ^ 31 by omega)]
  refine ⟨fun z => absurd z (by omega), fun _ => ?_⟩
  refine ⟨fun z => absurd z (by omega), fun _ => ?_⟩
  refine ⟨fun z => absurd z (by omega), fun _ => ?_⟩
  refine ⟨fun z => absurd z (by omega), fun _ => ?_⟩
  refine ⟨fun z => absurd z (by omega), fun _ => ?_⟩
  refine ⟨fun z => absurd z (by omega), fun _ => ?_⟩
  refine ⟨fun z => absurd z (by omega), fun _ => ?_⟩
  refine ⟨fun z => absurd z (by omega), fun _ => ?_⟩
  refine ⟨fun z => absurd z (by omega), fun _ => ?_⟩
  refine ⟨fun z => absurd z (by omega), fun _ => ?_⟩
  refine ⟨fun z => absurd z (by omega), fun _ => ?_⟩
  exact ⟨by decide, kV, by decide, 0, 0, Nat.zero_le _, Nat.zero_le _, r_200 hsp hin h2 hT hw i138 i139 htk hg hag (fun S' n1 n2 n3 => f_203_417 hE ⟨rfl, hQ S' (fV.trans n1) (n2.trans rV) n3⟩)⟩
theorem r_203_39 {w a t : Nat} {y0 : Int32} (hsp : ox_mono sp) (w31 : w < 2 ^ 31) (hK : K < 2 ^ 30) (hin : rIn C nc K e st t) (h : rE S m ce γ B T C nc y e p st) (hT : T + 19 ≤ 1100000) (h138 : S.I 138 m = nI w) (h139 : S.I 139 m = nI a) (h140 : S.I 140 m = nI q) (htk : tkW w a = some t) (hg : st.length - t + gvW w a ≤ 10) (hag : agW (C e.c).1 w a) (hb : w = 122 → e.b.length < 4) (hb2 : w = 87 → e.b ≠ []) (hQ : ∀ S', mFx m S S' → S'.R = S.R → rX S' m ce T C nc y e q st (xIns C e q w a st) → Q none S') : q_203_39 (ox_M sp (d + 7)) m (nI e.t.length) (nI e.c) y0 S mr sr Q := by
  by_cases z83 : w = 83
  · subst z83; exact r_203_83 hsp hK hin h hT h138 h139 h140 htk hg hag hb hb2 hQ
  by_cases z87 : w = 87
  · subst z87; exact r_203_87 hsp hK hin h hT h138 h139 h140 htk hg hag hb hb2 hQ
  by_cases z93 : w = 93
  · subst z93; exact r_203_93 hsp hK hin h hT h138 h139 h140 htk hg hag hb hb2 hQ
  by_cases z110 : w = 110
  · subst z110; exact r_203_110 hsp hK hin h hT h138 h139 h140 htk hg hag hb hb2 hQ
  by_cases z113 : w = 113
  · subst z113; exact r_203_113 hsp hK hin h hT h138 h139 h140 htk hg hag hb hb2 hQ
  by_cases z114 : w = 114
  · subst z114; exact r_203_114 hsp hK hin h hT h138 h139 h140 htk hg hag hb hb2 hQ
  by_cases z115 : w = 115
  · subst z115; exact r_203_115 hsp hK hin h hT h138 h139 h140 htk hg hag hb hb2 hQ
  by_cases z122 : w = 122
  · subst z122; exact r_203_122 hsp hK hin h hT h138 h139 h140 htk hg hag hb hb2 hQ
  by_cases z124 : w = 124
  · subst z124; exact r_203_124 hsp hK hin h hT h138 h139 h140 htk hg hag hb hb2 hQ
  by_cases z125 : w = 125
  · subst z125; exact r_203_125 hsp hK hin h hT h138 h139 h140 htk hg hag hb hb2 hQ
  by_cases z130 : w = 130
  · subst z130; exact r_203_130 hsp hK hin h hT h138 h139 h140 htk hg hag hb hb2 hQ
  exact r_203_w hsp ⟨z83, z87, z93, z110, z113, z114, z115, z122, z124, z125, z130⟩ w31 hK hin h hT h138 h139 h140 htk hg hag hb hb2 hQ
end ROn
