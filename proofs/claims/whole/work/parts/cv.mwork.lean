/-! printed by gen/gcv.py: the reference's work -/
section RWk2
variable {sp : ox_E} {d mr sr : Nat} {S : ox_St} {Q : ox_Q} {m ce : Nat} {γ : Int → Nat} {B : List Int} {T : Nat} {C : Nat → xCd} {nc K y : Nat} {e : xEn} {q : Nat} {st : List Int}
theorem r_200_1 {a t : Nat} (hsp : ox_mono sp) (hin : rIn C nc K e st t) (h : rE S m ce γ B T C nc y e q st) (hT : T + 19 ≤ 1100000) (h138 : S.I 138 m = nI 1) (h139 : S.I 139 m = nI a) (htk : tkW 1 a = some t) (hg : st.length - t + gvW 1 a ≤ 10) (hag : agW (C e.c).1 1 a) (hQ : ∀ S', mFx m S S' → S'.R = S.R → rX S' m ce T C nc y e q st (xIns C e q 1 a st) → Q none S') : ox_M sp (d + 7) 200 [.inr (.inr m)] mr sr S Q := by
  have hE : ox_mono (ox_M sp (d + 6)) := ox_M_mono hsp _
  have et : 1 = t := Option.some.inj (show some 1 = some t from htk)
  have hg1 : st.length - t + 0 ≤ 10 := hg
  have hl : t ≤ st.length := by have := hin.2.2; omega
  subst et
  have s10 := hin.1.2.2.1
  obtain ⟨v, r, rfl⟩ := ls1 (st := st) hl
  simp only [List.length_cons] at hg1 hl s10
  have hx := hin.1
  have k14 := h.k
  have t7 := hx.t7
  have hc : e.c < nc := hx.1.2.2.2.1
  have hQ1 : ∀ S', mFx m S S' → S'.R = S.R → rX S' m ce T C nc y e q (v :: r) (xGo e q r) → Q none S' := hQ
  obtain ⟨a1, a2, a3⟩ := h.ml.row (F := 98) (o := 16) (k := 15) (n := 8) (by decide)
  have fc : S.rI (m + 16) e.t.length = nI e.c := h.2.2.2.1.1.1
  refine f_200 hsp ⟨by rw [k14]; rfl, ?_⟩
  rw [h.f92, nI_pred]
  intro w1
  have ew : w1 = nI e.t.length := rfl
  clear_value w1
  subst ew
  refine ⟨by rw [k14]; rfl, by rw [a1, a2]; rfl, by rw [a1, a3]; exact vp_in_nI (by omega) (by decide), ?_⟩
  rw [a1, nI_clamp (show e.t.length < 2 ^ 31 by omega), fc]
  intro w2
  have ew : w2 = nI e.c := rfl
  clear_value w2
  subst ew
  refine ⟨by rw [k14]; rfl, ?_⟩
  rw [h138, nI_toInt (show 1 < 2 ^ 31 by decide)]
  refine ⟨fun _ => ?_, fun z => absurd rfl z⟩
  obtain ⟨b1, b2, b3⟩ := h.ml.row (F := 100) (o := 18) (k := 15) (n := 8) (by decide)
  have ht : S.rI (m + 18) e.t.length = nI (r.length + 1) := h.ht
  obtain ⟨l1, l2⟩ := h.low hx 1
  have l1' : rCh m ce T e.t.length S (S.wI (m + 18) e.t.length (nI r.length)) := l1
  have l2' : rE (S.wI (m + 18) e.t.length (nI r.length)) m ce γ B T C nc y e q r := l2
  refine ⟨by rw [k14]; rfl, by rw [b1, b2]; rfl, by rw [b1, b3]; exact vp_in_nI (by omega) (by decide), by rw [b1]; exact b2, by rw [b1, b3]; exact vp_in_nI (by omega) (by decide), ?_⟩
  rw [b1, ht, nI_pred]
  exact f_200_365 hE ⟨rfl, hQ1 _ l1'.1 l1'.2.1 (rX_go l2')⟩
theorem r_200_2 {a t : Nat} (hsp : ox_mono sp) (hin : rIn C nc K e st t) (h : rE S m ce γ B T C nc y e q st) (hT : T + 19 ≤ 1100000) (h138 : S.I 138 m = nI 2) (h139 : S.I 139 m = nI a) (htk : tkW 2 a = some t) (hg : st.length - t + gvW 2 a ≤ 10) (hag : agW (C e.c).1 2 a) (hQ : ∀ S', mFx m S S' → S'.R = S.R → rX S' m ce T C nc y e q st (xIns C e q 2 a st) → Q none S') : ox_M sp (d + 7) 200 [.inr (.inr m)] mr sr S Q := by
  have hE : ox_mono (ox_M sp (d + 6)) := ox_M_mono hsp _
  have et : 2 = t := Option.some.inj (show some 2 = some t from htk)
  have hg1 : st.length - t + 2 ≤ 10 := hg
  have hl : t ≤ st.length := by have := hin.2.2; omega
  subst et
  have s10 := hin.1.2.2.1
  obtain ⟨u, v, r, rfl⟩ := ls2 (st := st) hl
  simp only [List.length_cons] at hg1 hl s10
  have hx := hin.1
  have k14 := h.k
  have t7 := hx.t7
  have hc : e.c < nc := hx.1.2.2.2.1
  have hQ1 : ∀ S', mFx m S S' → S'.R = S.R → rX S' m ce T C nc y e q (u :: v :: r) (xGo e q (v :: u :: r)) → Q none S' := hQ
  obtain ⟨a1, a2, a3⟩ := h.ml.row (F := 98) (o := 16) (k := 15) (n := 8) (by decide)
  have fc : S.rI (m + 16) e.t.length = nI e.c := h.2.2.2.1.1.1
  refine f_200 hsp ⟨by rw [k14]; rfl, ?_⟩
  rw [h.f92, nI_pred]
  intro w1
  have ew : w1 = nI e.t.length := rfl
  clear_value w1
  subst ew
  refine ⟨by rw [k14]; rfl, by rw [a1, a2]; rfl, by rw [a1, a3]; exact vp_in_nI (by omega) (by decide), ?_⟩
  rw [a1, nI_clamp (show e.t.length < 2 ^ 31 by omega), fc]
  intro w2
  have ew : w2 = nI e.c := rfl
  clear_value w2
  subst ew
  refine ⟨by rw [k14]; rfl, ?_⟩
  rw [h138, nI_toInt (show 2 < 2 ^ 31 by decide)]
  refine ⟨fun z => absurd z (by decide), fun _ => ?_⟩
  refine ⟨fun _ => ?_, fun z => absurd rfl z⟩
  exact ⟨by decide, k14, by decide, 0, 0, Nat.zero_le _, Nat.zero_le _, r_201_2 hsp h hx (fun S' n1 n2 n3 => f_200_174 hE (f_200_365 hE ⟨rfl, hQ1 S' n1 n2 (rX_go n3)⟩))⟩
theorem r_200_3 {a t : Nat} (hsp : ox_mono sp) (hin : rIn C nc K e st t) (h : rE S m ce γ B T C nc y e q st) (hT : T + 19 ≤ 1100000) (h138 : S.I 138 m = nI 3) (h139 : S.I 139 m = nI a) (htk : tkW 3 a = some t) (hg : st.length - t + gvW 3 a ≤ 10) (hag : agW (C e.c).1 3 a) (hQ : ∀ S', mFx m S S' → S'.R = S.R → rX S' m ce T C nc y e q st (xIns C e q 3 a st) → Q none S') : ox_M sp (d + 7) 200 [.inr (.inr m)] mr sr S Q := by
  have hE : ox_mono (ox_M sp (d + 6)) := ox_M_mono hsp _
  have et : 3 = t := Option.some.inj (show some 3 = some t from htk)
  have hg1 : st.length - t + 3 ≤ 10 := hg
  have hl : t ≤ st.length := by have := hin.2.2; omega
  subst et
  have s10 := hin.1.2.2.1
  obtain ⟨u, v, z, r, rfl⟩ := ls3 (st := st) hl
  simp only [List.length_cons] at hg1 hl s10
  have hx := hin.1
  have k14 := h.k
  have t7 := hx.t7
  have hc : e.c < nc := hx.1.2.2.2.1
  have hQ1 : ∀ S', mFx m S S' → S'.R = S.R → rX S' m ce T C nc y e q (u :: v :: z :: r) (xGo e q (v :: z :: u :: r)) → Q none S' := hQ
  obtain ⟨a1, a2, a3⟩ := h.ml.row (F := 98) (o := 16) (k := 15) (n := 8) (by decide)
  have fc : S.rI (m + 16) e.t.length = nI e.c := h.2.2.2.1.1.1
  refine f_200 hsp ⟨by rw [k14]; rfl, ?_⟩
  rw [h.f92, nI_pred]
  intro w1
  have ew : w1 = nI e.t.length := rfl
  clear_value w1
  subst ew
  refine ⟨by rw [k14]; rfl, by rw [a1, a2]; rfl, by rw [a1, a3]; exact vp_in_nI (by omega) (by decide), ?_⟩
  rw [a1, nI_clamp (show e.t.length < 2 ^ 31 by omega), fc]
  intro w2
  have ew : w2 = nI e.c := rfl
  clear_value w2
  subst ew
  refine ⟨by rw [k14]; rfl, ?_⟩
  rw [h138, nI_toInt (show 3 < 2 ^ 31 by decide)]
  refine ⟨fun z => absurd z (by decide), fun _ => ?_⟩
  refine ⟨fun z => absurd z (by decide), fun _ => ?_⟩
  refine ⟨fun _ => ?_, fun z => absurd rfl z⟩
  exact ⟨by decide, k14, by decide, 0, 0, Nat.zero_le _, Nat.zero_le _, r_201_3 hsp h hx (fun S' n1 n2 n3 => f_200_182 hE (f_200_365 hE ⟨rfl, hQ1 S' n1 n2 (rX_go n3)⟩))⟩
theorem r_200_4 {a t : Nat} (hsp : ox_mono sp) (hin : rIn C nc K e st t) (h : rE S m ce γ B T C nc y e q st) (hT : T + 19 ≤ 1100000) (h138 : S.I 138 m = nI 4) (h139 : S.I 139 m = nI a) (htk : tkW 4 a = some t) (hg : st.length - t + gvW 4 a ≤ 10) (hag : agW (C e.c).1 4 a) (hQ : ∀ S', mFx m S S' → S'.R = S.R → rX S' m ce T C nc y e q st (xIns C e q 4 a st) → Q none S') : ox_M sp (d + 7) 200 [.inr (.inr m)] mr sr S Q := by
  have hE : ox_mono (ox_M sp (d + 6)) := ox_M_mono hsp _
  have et : 1 = t := Option.some.inj (show some 1 = some t from htk)
  have hg1 : st.length - t + 2 ≤ 10 := hg
  have hl : t ≤ st.length := by have := hin.2.2; omega
  subst et
  have s10 := hin.1.2.2.1
  obtain ⟨v, r, rfl⟩ := ls1 (st := st) hl
  simp only [List.length_cons] at hg1 hl s10
  have hx := hin.1
  have k14 := h.k
  have t7 := hx.t7
  have hc : e.c < nc := hx.1.2.2.2.1
  have hQ1 : ∀ S', mFx m S S' → S'.R = S.R → rX S' m ce T C nc y e q (v :: r) (xGo e q (v :: v :: r)) → Q none S' := hQ
  obtain ⟨a1, a2, a3⟩ := h.ml.row (F := 98) (o := 16) (k := 15) (n := 8) (by decide)
  have fc : S.rI (m + 16) e.t.length = nI e.c := h.2.2.2.1.1.1
  refine f_200 hsp ⟨by rw [k14]; rfl, ?_⟩
  rw [h.f92, nI_pred]
  intro w1
  have ew : w1 = nI e.t.length := rfl
  clear_value w1
  subst ew
  refine ⟨by rw [k14]; rfl, by rw [a1, a2]; rfl, by rw [a1, a3]; exact vp_in_nI (by omega) (by decide), ?_⟩
  rw [a1, nI_clamp (show e.t.length < 2 ^ 31 by omega), fc]
  intro w2
  have ew : w2 = nI e.c := rfl
  clear_value w2
  subst ew
  refine ⟨by rw [k14]; rfl, ?_⟩
  rw [h138, nI_toInt (show 4 < 2 ^ 31 by decide)]
  refine ⟨fun z => absurd z (by decide), fun _ => ?_⟩
  refine ⟨fun z => absurd z (by decide), fun _ => ?_⟩
  refine ⟨fun z => absurd z (by decide), fun _ => ?_⟩
  refine ⟨fun _ => ?_, fun z => absurd rfl z⟩
  refine ⟨by decide, k14, by decide, 0, 0, Nat.zero_le _, Nat.zero_le _, ?_⟩
  show ox_M sp (d + 6) 176 [.inr (.inr m), .inl (nI 0)] 0 0 S _
  refine r_176 hsp h hx (i := 0) (Nat.succ_pos _) (fun hB' => ?_)
  have hB : xIn B v := hB'
  exact f_200_191 (y0 := gV γ v) hE ⟨by decide, k14, by decide, 0, 0, Nat.zero_le _, Nat.zero_le _, r_174 hsp h hx (by simp only [List.length_cons]; omega) hB (fun S' n1 n2 => f_200_194 hE (f_200_365 hE ⟨rfl, hQ1 S' n1.1 n1.2.1 (rX_go n2)⟩))⟩
theorem r_200_11 {a t : Nat} (hsp : ox_mono sp) (hin : rIn C nc K e st t) (h : rE S m ce γ B T C nc y e q st) (hT : T + 19 ≤ 1100000) (h138 : S.I 138 m = nI 11) (h139 : S.I 139 m = nI a) (htk : tkW 11 a = some t) (hg : st.length - t + gvW 11 a ≤ 10) (hag : agW (C e.c).1 11 a) (hQ : ∀ S', mFx m S S' → S'.R = S.R → rX S' m ce T C nc y e q st (xIns C e q 11 a st) → Q none S') : ox_M sp (d + 7) 200 [.inr (.inr m)] mr sr S Q := by
  have hE : ox_mono (ox_M sp (d + 6)) := ox_M_mono hsp _
  have et : 1 = t := Option.some.inj (show some 1 = some t from htk)
  have hg1 : st.length - t + 1 ≤ 10 := hg
  have hl : t ≤ st.length := by have := hin.2.2; omega
  subst et
  have s10 := hin.1.2.2.1
  obtain ⟨v, r, rfl⟩ := ls1 (st := st) hl
  simp only [List.length_cons] at hg1 hl s10
  have hx := hin.1
  have k14 := h.k
  have t7 := hx.t7
  have hc : e.c < nc := hx.1.2.2.2.1
  have hQ1 : ∀ S', mFx m S S' → S'.R = S.R → rX S' m ce T C nc y e q (v :: r) ((match xNum e.H v with
      | some N => xMk e q r (.inl (-N))
      | none => .inl 0)) → Q none S' := hQ
  obtain ⟨a1, a2, a3⟩ := h.ml.row (F := 98) (o := 16) (k := 15) (n := 8) (by decide)
  have fc : S.rI (m + 16) e.t.length = nI e.c := h.2.2.2.1.1.1
  refine f_200 hsp ⟨by rw [k14]; rfl, ?_⟩
  rw [h.f92, nI_pred]
  intro w1
  have ew : w1 = nI e.t.length := rfl
  clear_value w1
  subst ew
  refine ⟨by rw [k14]; rfl, by rw [a1, a2]; rfl, by rw [a1, a3]; exact vp_in_nI (by omega) (by decide), ?_⟩
  rw [a1, nI_clamp (show e.t.length < 2 ^ 31 by omega), fc]
  intro w2
  have ew : w2 = nI e.c := rfl
  clear_value w2
  subst ew
  refine ⟨by rw [k14]; rfl, ?_⟩
  rw [h138, nI_toInt (show 11 < 2 ^ 31 by decide)]
  refine ⟨fun z => absurd z (by decide), fun _ => ?_⟩
  refine ⟨fun z => absurd z (by decide), fun _ => ?_⟩
  refine ⟨fun z => absurd z (by decide), fun _ => ?_⟩
  refine ⟨fun z => absurd z (by decide), fun _ => ?_⟩
  refine ⟨fun _ => ?_, fun z => absurd rfl z⟩
  exact ⟨by decide, k14, by decide, 0, 0, Nat.zero_le _, Nat.zero_le _, r_202 hsp hin h hT (fun S' n1 n2 n3 => f_200_201 hE (f_200_365 hE ⟨rfl, hQ1 S' n1 n2 n3⟩))⟩
theorem r_200_12 {a t : Nat} (hsp : ox_mono sp) (hin : rIn C nc K e st t) (h : rE S m ce γ B T C nc y e q st) (hT : T + 19 ≤ 1100000) (h138 : S.I 138 m = nI 12) (h139 : S.I 139 m = nI a) (htk : tkW 12 a = some t) (hg : st.length - t + gvW 12 a ≤ 10) (hag : agW (C e.c).1 12 a) (hQ : ∀ S', mFx m S S' → S'.R = S.R → rX S' m ce T C nc y e q st (xIns C e q 12 a st) → Q none S') : ox_M sp (d + 7) 200 [.inr (.inr m)] mr sr S Q := by
  have hE : ox_mono (ox_M sp (d + 6)) := ox_M_mono hsp _
  have et : 1 = t := Option.some.inj (show some 1 = some t from htk)
  have hg1 : st.length - t + 1 ≤ 10 := hg
  have hl : t ≤ st.length := by have := hin.2.2; omega
  subst et
  have s10 := hin.1.2.2.1
  obtain ⟨v, r, rfl⟩ := ls1 (st := st) hl
  simp only [List.length_cons] at hg1 hl s10
  have hx := hin.1
  have k14 := h.k
  have t7 := hx.t7
  have hc : e.c < nc := hx.1.2.2.2.1
  have hQ1 : ∀ S', mFx m S S' → S'.R = S.R → rX S' m ce T C nc y e q (v :: r) (xGo e q ((if xFalse e.H v = true then 2 else 1) :: r)) → Q none S' := hQ
  obtain ⟨a1, a2, a3⟩ := h.ml.row (F := 98) (o := 16) (k := 15) (n := 8) (by decide)
  have fc : S.rI (m + 16) e.t.length = nI e.c := h.2.2.2.1.1.1
  refine f_200 hsp ⟨by rw [k14]; rfl, ?_⟩
  rw [h.f92, nI_pred]
  intro w1
  have ew : w1 = nI e.t.length := rfl
  clear_value w1
  subst ew
  refine ⟨by rw [k14]; rfl, by rw [a1, a2]; rfl, by rw [a1, a3]; exact vp_in_nI (by omega) (by decide), ?_⟩
  rw [a1, nI_clamp (show e.t.length < 2 ^ 31 by omega), fc]
  intro w2
  have ew : w2 = nI e.c := rfl
  clear_value w2
  subst ew
  refine ⟨by rw [k14]; rfl, ?_⟩
  rw [h138, nI_toInt (show 12 < 2 ^ 31 by decide)]
  refine ⟨fun z => absurd z (by decide), fun _ => ?_⟩
  refine ⟨fun z => absurd z (by decide), fun _ => ?_⟩
  refine ⟨fun z => absurd z (by decide), fun _ => ?_⟩
  refine ⟨fun z => absurd z (by decide), fun _ => ?_⟩
  refine ⟨fun z => absurd z (by decide), fun _ => ?_⟩
  refine ⟨fun _ => ?_, fun z => absurd rfl z⟩
  refine ⟨by decide, k14, by decide, 0, 0, Nat.zero_le _, Nat.zero_le _, r_175 hsp h hx (fun S1 c1 c2 hB => f_200_210 hE ⟨by decide, c2.k, by decide, 0, 0, Nat.zero_le _, Nat.zero_le _, r_181 hsp c2 hx.tail hx.head hB (f_200_213 hE ?_)⟩)⟩
  by_cases zf : xFalse e.H v = true
  · rw [if_pos zf] at hQ1 ⊢
    refine ⟨fun w => absurd w (by decide), fun _ => ⟨by decide, c2.k, by decide, 0, 0, Nat.zero_le _, Nat.zero_le _, ?_⟩⟩
    show ox_M sp (d + 6) 174 [.inr (.inr m), .inl (gV γ 2)] 0 0 S1 _
    exact r_174 hsp c2 hx.tail (by omega) (Or.inl (by decide)) (fun S' n1 n2 => f_200_224 hE (f_200_365 hE ⟨rfl, hQ1 S' (c1.1.trans n1.1) (n1.2.1.trans c1.2.1) (rX_go n2)⟩))
  · rw [if_neg zf] at hQ1 ⊢
    refine ⟨fun _ => ⟨by decide, c2.k, by decide, 0, 0, Nat.zero_le _, Nat.zero_le _, ?_⟩, fun w => absurd rfl w⟩
    show ox_M sp (d + 6) 174 [.inr (.inr m), .inl (gV γ 1)] 0 0 S1 _
    exact r_174 hsp c2 hx.tail (by omega) (Or.inl (by decide)) (fun S' n1 n2 => f_200_224 hE (f_200_365 hE ⟨rfl, hQ1 S' (c1.1.trans n1.1) (n1.2.1.trans c1.2.1) (rX_go n2)⟩))
theorem r_200_25 {a t : Nat} (hsp : ox_mono sp) (hin : rIn C nc K e st t) (h : rE S m ce γ B T C nc y e q st) (hT : T + 19 ≤ 1100000) (h138 : S.I 138 m = nI 25) (h139 : S.I 139 m = nI a) (htk : tkW 25 a = some t) (hg : st.length - t + gvW 25 a ≤ 10) (hag : agW (C e.c).1 25 a) (hQ : ∀ S', mFx m S S' → S'.R = S.R → rX S' m ce T C nc y e q st (xIns C e q 25 a st) → Q none S') : ox_M sp (d + 7) 200 [.inr (.inr m)] mr sr S Q := by
  have hE : ox_mono (ox_M sp (d + 6)) := ox_M_mono hsp _
  have et : 2 = t := Option.some.inj (show some 2 = some t from htk)
  have hg1 : st.length - t + 1 ≤ 10 := hg
  have hl : t ≤ st.length := by have := hin.2.2; omega
  subst et
  have s10 := hin.1.2.2.1
  obtain ⟨u, v, r, rfl⟩ := ls2 (st := st) hl
  simp only [List.length_cons] at hg1 hl s10
  have hx := hin.1
  have k14 := h.k
  have t7 := hx.t7
  have hc : e.c < nc := hx.1.2.2.2.1
  have hQ1 : ∀ S', mFx m S S' → S'.R = S.R → rX S' m ce T C nc y e q (u :: v :: r) (xIt e q r v u) → Q none S' := hQ
  obtain ⟨a1, a2, a3⟩ := h.ml.row (F := 98) (o := 16) (k := 15) (n := 8) (by decide)
  have fc : S.rI (m + 16) e.t.length = nI e.c := h.2.2.2.1.1.1
  refine f_200 hsp ⟨by rw [k14]; rfl, ?_⟩
  rw [h.f92, nI_pred]
  intro w1
  have ew : w1 = nI e.t.length := rfl
  clear_value w1
  subst ew
  refine ⟨by rw [k14]; rfl, by rw [a1, a2]; rfl, by rw [a1, a3]; exact vp_in_nI (by omega) (by decide), ?_⟩
  rw [a1, nI_clamp (show e.t.length < 2 ^ 31 by omega), fc]
  intro w2
  have ew : w2 = nI e.c := rfl
  clear_value w2
  subst ew
  refine ⟨by rw [k14]; rfl, ?_⟩
  rw [h138, nI_toInt (show 25 < 2 ^ 31 by decide)]
  refine ⟨fun z => absurd z (by decide), fun _ => ?_⟩
  refine ⟨fun z => absurd z (by decide), fun _ => ?_⟩
  refine ⟨fun z => absurd z (by decide), fun _ => ?_⟩
  refine ⟨fun z => absurd z (by decide), fun _ => ?_⟩
  refine ⟨fun z => absurd z (by decide), fun _ => ?_⟩
  refine ⟨fun z => absurd z (by decide), fun _ => ?_⟩
  refine ⟨fun _ => ?_, fun z => absurd rfl z⟩
  exact ⟨by decide, k14, by decide, 0, 0, Nat.zero_le _, Nat.zero_le _, r_185 hsp hin h hT (fun S' n1 n2 n3 => f_200_231 hE (f_200_365 hE ⟨rfl, hQ1 S' n1 n2 n3⟩))⟩
theorem r_200_68 {a t : Nat} (hsp : ox_mono sp) (hin : rIn C nc K e st t) (h : rE S m ce γ B T C nc y e q st) (hT : T + 19 ≤ 1100000) (h138 : S.I 138 m = nI 68) (h139 : S.I 139 m = nI a) (htk : tkW 68 a = some t) (hg : st.length - t + gvW 68 a ≤ 10) (hag : agW (C e.c).1 68 a) (hQ : ∀ S', mFx m S S' → S'.R = S.R → rX S' m ce T C nc y e q st (xIns C e q 68 a st) → Q none S') : ox_M sp (d + 7) 200 [.inr (.inr m)] mr sr S Q := by
  have hE : ox_mono (ox_M sp (d + 6)) := ox_M_mono hsp _
  have et : 1 = t := Option.some.inj (show some 1 = some t from htk)
  have hg1 : st.length - t + 1 ≤ 10 := hg
  have hl : t ≤ st.length := by have := hin.2.2; omega
  subst et
  have s10 := hin.1.2.2.1
  obtain ⟨v, r, rfl⟩ := ls1 (st := st) hl
  simp only [List.length_cons] at hg1 hl s10
  have hx := hin.1
  have k14 := h.k
  have t7 := hx.t7
  have hc : e.c < nc := hx.1.2.2.2.1
  have hQ1 : ∀ S', mFx m S S' → S'.R = S.R → rX S' m ce T C nc y e q (v :: r) (xWalk e q r v) → Q none S' := hQ
  obtain ⟨a1, a2, a3⟩ := h.ml.row (F := 98) (o := 16) (k := 15) (n := 8) (by decide)
  have fc : S.rI (m + 16) e.t.length = nI e.c := h.2.2.2.1.1.1
  refine f_200 hsp ⟨by rw [k14]; rfl, ?_⟩
  rw [h.f92, nI_pred]
  intro w1
  have ew : w1 = nI e.t.length := rfl
  clear_value w1
  subst ew
  refine ⟨by rw [k14]; rfl, by rw [a1, a2]; rfl, by rw [a1, a3]; exact vp_in_nI (by omega) (by decide), ?_⟩
  rw [a1, nI_clamp (show e.t.length < 2 ^ 31 by omega), fc]
  intro w2
  have ew : w2 = nI e.c := rfl
  clear_value w2
  subst ew
  refine ⟨by rw [k14]; rfl, ?_⟩
  rw [h138, nI_toInt (show 68 < 2 ^ 31 by decide)]
  refine ⟨fun z => absurd z (by decide), fun _ => ?_⟩
  refine ⟨fun z => absurd z (by decide), fun _ => ?_⟩
  refine ⟨fun z => absurd z (by decide), fun _ => ?_⟩
  refine ⟨fun z => absurd z (by decide), fun _ => ?_⟩
  refine ⟨fun z => absurd z (by decide), fun _ => ?_⟩
  refine ⟨fun z => absurd z (by decide), fun _ => ?_⟩
  refine ⟨fun z => absurd z (by decide), fun _ => ?_⟩
  refine ⟨fun _ => ?_, fun z => absurd rfl z⟩
  exact ⟨by decide, k14, by decide, 0, 0, Nat.zero_le _, Nat.zero_le _, r_198 hsp hin h hT (fun S' n1 n2 n3 => f_200_238 hE (f_200_365 hE ⟨rfl, hQ1 S' n1 n2 n3⟩))⟩
theorem r_200_90 {a t : Nat} (hsp : ox_mono sp) (hin : rIn C nc K e st t) (h : rE S m ce γ B T C nc y e q st) (hT : T + 19 ≤ 1100000) (h138 : S.I 138 m = nI 90) (h139 : S.I 139 m = nI a) (htk : tkW 90 a = some t) (hg : st.length - t + gvW 90 a ≤ 10) (hag : agW (C e.c).1 90 a) (hQ : ∀ S', mFx m S S' → S'.R = S.R → rX S' m ce T C nc y e q st (xIns C e q 90 a st) → Q none S') : ox_M sp (d + 7) 200 [.inr (.inr m)] mr sr S Q := by
  have hE : ox_mono (ox_M sp (d + 6)) := ox_M_mono hsp _
  have et : 1 = t := Option.some.inj (show some 1 = some t from htk)
  have hg1 : st.length - t + 0 ≤ 10 := hg
  have hl : t ≤ st.length := by have := hin.2.2; omega
  subst et
  have s10 := hin.1.2.2.1
  obtain ⟨v, r, rfl⟩ := ls1 (st := st) hl
  simp only [List.length_cons] at hg1 hl s10
  have hx := hin.1
  have k14 := h.k
  have t7 := hx.t7
  have hc : e.c < nc := hx.1.2.2.2.1
  obtain ⟨-, -, cK, cW, -, cN⟩ := hx.1.2.1 e.c hc
  have hQ1 : ∀ S', mFx m S S' → S'.R = S.R → rX S' m ce T C nc y e q (v :: r) (xStore e q ((C e.c).2.2.getD a 0) r v) → Q none S' := hQ
  obtain ⟨a1, a2, a3⟩ := h.ml.row (F := 98) (o := 16) (k := 15) (n := 8) (by decide)
  have fc : S.rI (m + 16) e.t.length = nI e.c := h.2.2.2.1.1.1
  refine f_200 hsp ⟨by rw [k14]; rfl, ?_⟩
  rw [h.f92, nI_pred]
  intro w1
  have ew : w1 = nI e.t.length := rfl
  clear_value w1
  subst ew
  refine ⟨by rw [k14]; rfl, by rw [a1, a2]; rfl, by rw [a1, a3]; exact vp_in_nI (by omega) (by decide), ?_⟩
  rw [a1, nI_clamp (show e.t.length < 2 ^ 31 by omega), fc]
  intro w2
  have ew : w2 = nI e.c := rfl
  clear_value w2
  subst ew
  refine ⟨by rw [k14]; rfl, ?_⟩
  rw [h138, nI_toInt (show 90 < 2 ^ 31 by decide)]
  refine ⟨fun z => absurd z (by decide), fun _ => ?_⟩
  refine ⟨fun z => absurd z (by decide), fun _ => ?_⟩
  refine ⟨fun z => absurd z (by decide), fun _ => ?_⟩
  refine ⟨fun z => absurd z (by decide), fun _ => ?_⟩
  refine ⟨fun z => absurd z (by decide), fun _ => ?_⟩
  refine ⟨fun z => absurd z (by decide), fun _ => ?_⟩
  refine ⟨fun z => absurd z (by decide), fun _ => ?_⟩
  refine ⟨fun z => absurd z (by decide), fun _ => ?_⟩
  refine ⟨fun _ => ?_, fun z => absurd rfl z⟩
  obtain ⟨g, k', w, -, -, nw, nw2, nw3⟩ := h.2.2.1.2 e.c hc
  obtain ⟨e1, e2, e3⟩ := h.ml.row (F := 84) (o := 11) (k := 15) (n := 300) (by decide)
  obtain ⟨g1, g2, g3⟩ := h.ml.row (F := 91) (o := 15) (k := 16) (n := 2100) (by decide)
  have an : a < (C e.c).2.2.length := by rw [cW]; exact hag.2.1 (Or.inl rfl)
  have wl : (C e.c).2.2.getD a 0 < 2 ^ 63 := cN _ (by rw [List.getD_eq_getElem?_getD, List.getElem?_eq_getElem an]; exact List.getElem_mem an)
  have nc3 : nc ≤ 300 := h.2.2.1.1
  rw [e1, e2, e3, g1, g2, g3, nI_clamp (show e.c < 2 ^ 31 by omega), nw, h139, nI_add, nI_clamp (show w + a < 2 ^ 31 by omega), nw3 a an, k14]
  refine ⟨rfl, rfl, rfl, vp_in_nI (by omega) (by decide), rfl, rfl, vp_in_nI (by omega) (by decide), by decide, rfl, by decide, 0, 0, Nat.zero_le _, Nat.zero_le _, ?_⟩
  exact r_191 hsp hin h wl (fun S' n1 n2 n3 => f_200_261 hE (f_200_365 hE ⟨rfl, hQ1 S' n1 n2 n3⟩))
theorem r_200_92 {a t : Nat} (hsp : ox_mono sp) (hin : rIn C nc K e st t) (h : rE S m ce γ B T C nc y e q st) (hT : T + 19 ≤ 1100000) (h138 : S.I 138 m = nI 92) (h139 : S.I 139 m = nI a) (htk : tkW 92 a = some t) (hg : st.length - t + gvW 92 a ≤ 10) (hag : agW (C e.c).1 92 a) (hQ : ∀ S', mFx m S S' → S'.R = S.R → rX S' m ce T C nc y e q st (xIns C e q 92 a st) → Q none S') : ox_M sp (d + 7) 200 [.inr (.inr m)] mr sr S Q := by
  have hE : ox_mono (ox_M sp (d + 6)) := ox_M_mono hsp _
  have et : 1 = t := Option.some.inj (show some 1 = some t from htk)
  have hg1 : st.length - t + a ≤ 10 := hg
  have hl : t ≤ st.length := by have := hin.2.2; omega
  subst et
  have s10 := hin.1.2.2.1
  obtain ⟨v, r, rfl⟩ := ls1 (st := st) hl
  simp only [List.length_cons] at hg1 hl s10
  have hx := hin.1
  have k14 := h.k
  have t7 := hx.t7
  have hc : e.c < nc := hx.1.2.2.2.1
  have hQ1 : ∀ S', mFx m S S' → S'.R = S.R → rX S' m ce T C nc y e q (v :: r) (xSpr e q a r v) → Q none S' := hQ
  obtain ⟨a1, a2, a3⟩ := h.ml.row (F := 98) (o := 16) (k := 15) (n := 8) (by decide)
  have fc : S.rI (m + 16) e.t.length = nI e.c := h.2.2.2.1.1.1
  refine f_200 hsp ⟨by rw [k14]; rfl, ?_⟩
  rw [h.f92, nI_pred]
  intro w1
  have ew : w1 = nI e.t.length := rfl
  clear_value w1
  subst ew
  refine ⟨by rw [k14]; rfl, by rw [a1, a2]; rfl, by rw [a1, a3]; exact vp_in_nI (by omega) (by decide), ?_⟩
  rw [a1, nI_clamp (show e.t.length < 2 ^ 31 by omega), fc]
  intro w2
  have ew : w2 = nI e.c := rfl
  clear_value w2
  subst ew
  refine ⟨by rw [k14]; rfl, ?_⟩
  rw [h138, nI_toInt (show 92 < 2 ^ 31 by decide)]
  refine ⟨fun z => absurd z (by decide), fun _ => ?_⟩
  refine ⟨fun z => absurd z (by decide), fun _ => ?_⟩
  refine ⟨fun z => absurd z (by decide), fun _ => ?_⟩
  refine ⟨fun z => absurd z (by decide), fun _ => ?_⟩
  refine ⟨fun z => absurd z (by decide), fun _ => ?_⟩
  refine ⟨fun z => absurd z (by decide), fun _ => ?_⟩
  refine ⟨fun z => absurd z (by decide), fun _ => ?_⟩
  refine ⟨fun z => absurd z (by decide), fun _ => ?_⟩
  refine ⟨fun z => absurd z (by decide), fun _ => ?_⟩
  refine ⟨fun _ => ?_, fun z => absurd rfl z⟩
  rw [h139]
  exact ⟨by rw [k14]; rfl, by decide, k14, by decide, 0, 0, Nat.zero_le _, Nat.zero_le _, r_197 hsp (hag.2.2.2.1 (Or.inr rfl)) (by omega) hin h (fun S' n1 n2 n3 => f_200_272 hE (f_200_365 hE ⟨rfl, hQ1 S' n1 n2 n3⟩))⟩
theorem r_200_100 {a t : Nat} (hsp : ox_mono sp) (hin : rIn C nc K e st t) (h : rE S m ce γ B T C nc y e q st) (hT : T + 19 ≤ 1100000) (h138 : S.I 138 m = nI 100) (h139 : S.I 139 m = nI a) (htk : tkW 100 a = some t) (hg : st.length - t + gvW 100 a ≤ 10) (hag : agW (C e.c).1 100 a) (hQ : ∀ S', mFx m S S' → S'.R = S.R → rX S' m ce T C nc y e q st (xIns C e q 100 a st) → Q none S') : ox_M sp (d + 7) 200 [.inr (.inr m)] mr sr S Q := by
  have hE : ox_mono (ox_M sp (d + 6)) := ox_M_mono hsp _
  have et : 0 = t := Option.some.inj (show some 0 = some t from htk)
  have hg1 : st.length - t + 1 ≤ 10 := hg
  have hl : t ≤ st.length := by have := hin.2.2; omega
  subst et
  have s10 := hin.1.2.2.1
  have hx := hin.1
  have k14 := h.k
  have t7 := hx.t7
  have hc : e.c < nc := hx.1.2.2.2.1
  obtain ⟨-, -, cK, cW, -, cN⟩ := hx.1.2.1 e.c hc
  have hQ1 : ∀ S', mFx m S S' → S'.R = S.R → rX S' m ce T C nc y e q st (xGo e q ((C e.c).2.1.getD a 0 :: st)) → Q none S' := hQ
  obtain ⟨a1, a2, a3⟩ := h.ml.row (F := 98) (o := 16) (k := 15) (n := 8) (by decide)
  have fc : S.rI (m + 16) e.t.length = nI e.c := h.2.2.2.1.1.1
  refine f_200 hsp ⟨by rw [k14]; rfl, ?_⟩
  rw [h.f92, nI_pred]
  intro w1
  have ew : w1 = nI e.t.length := rfl
  clear_value w1
  subst ew
  refine ⟨by rw [k14]; rfl, by rw [a1, a2]; rfl, by rw [a1, a3]; exact vp_in_nI (by omega) (by decide), ?_⟩
  rw [a1, nI_clamp (show e.t.length < 2 ^ 31 by omega), fc]
  intro w2
  have ew : w2 = nI e.c := rfl
  clear_value w2
  subst ew
  refine ⟨by rw [k14]; rfl, ?_⟩
  rw [h138, nI_toInt (show 100 < 2 ^ 31 by decide)]
  refine ⟨fun z => absurd z (by decide), fun _ => ?_⟩
  refine ⟨fun z => absurd z (by decide), fun _ => ?_⟩
  refine ⟨fun z => absurd z (by decide), fun _ => ?_⟩
  refine ⟨fun z => absurd z (by decide), fun _ => ?_⟩
  refine ⟨fun z => absurd z (by decide), fun _ => ?_⟩
  refine ⟨fun z => absurd z (by decide), fun _ => ?_⟩
  refine ⟨fun z => absurd z (by decide), fun _ => ?_⟩
  refine ⟨fun z => absurd z (by decide), fun _ => ?_⟩
  refine ⟨fun z => absurd z (by decide), fun _ => ?_⟩
  refine ⟨fun z => absurd z (by decide), fun _ => ?_⟩
  refine ⟨fun _ => ?_, fun z => absurd rfl z⟩
  obtain ⟨g, k', w, -, ⟨nw, nw2, nw3⟩, -⟩ := h.2.2.1.2 e.c hc
  obtain ⟨e1, e2, e3⟩ := h.ml.row (F := 82) (o := 9) (k := 15) (n := 300) (by decide)
  obtain ⟨g1, g2, g3⟩ := h.ml.row (F := 90) (o := 14) (k := 15) (n := 2100) (by decide)
  have an : a < (C e.c).2.1.length := by rw [cK]; exact hag.1 rfl
  have mem : (C e.c).2.1.getD a 0 ∈ (C e.c).2.1 := by rw [List.getD_eq_getElem?_getD, List.getElem?_eq_getElem an]; exact List.getElem_mem an
  have nc3 : nc ≤ 300 := h.2.2.1.1
  have hB : xIn B ((C e.c).2.1.getD a 0) := h.2.2.2.2.2.2.1.1 e.c hc _ mem
  rw [e1, e2, e3, g1, g2, g3, nI_clamp (show e.c < 2 ^ 31 by omega), nw, h139, nI_add, nI_clamp (show k' + a < 2 ^ 31 by omega), nw3 a an, k14]
  refine ⟨rfl, rfl, rfl, vp_in_nI (by omega) (by decide), rfl, rfl, vp_in_nI (by omega) (by decide), by decide, rfl, by decide, 0, 0, Nat.zero_le _, Nat.zero_le _, ?_⟩
  exact r_174 hsp h hx (by omega) hB (fun S' n1 n2 => f_200_295 hE (f_200_365 hE ⟨rfl, hQ1 S' n1.1 n1.2.1 (rX_go n2)⟩))
theorem r_200_101 {a t : Nat} (hsp : ox_mono sp) (hin : rIn C nc K e st t) (h : rE S m ce γ B T C nc y e q st) (hT : T + 19 ≤ 1100000) (h138 : S.I 138 m = nI 101) (h139 : S.I 139 m = nI a) (htk : tkW 101 a = some t) (hg : st.length - t + gvW 101 a ≤ 10) (hag : agW (C e.c).1 101 a) (hQ : ∀ S', mFx m S S' → S'.R = S.R → rX S' m ce T C nc y e q st (xIns C e q 101 a st) → Q none S') : ox_M sp (d + 7) 200 [.inr (.inr m)] mr sr S Q := by
  have hE : ox_mono (ox_M sp (d + 6)) := ox_M_mono hsp _
  have et : 0 = t := Option.some.inj (show some 0 = some t from htk)
  have hg1 : st.length - t + 1 ≤ 10 := hg
  have hl : t ≤ st.length := by have := hin.2.2; omega
  subst et
  have s10 := hin.1.2.2.1
  have hx := hin.1
  have k14 := h.k
  have t7 := hx.t7
  have hc : e.c < nc := hx.1.2.2.2.1
  obtain ⟨-, -, cK, cW, -, cN⟩ := hx.1.2.1 e.c hc
  have hQ1 : ∀ S', mFx m S S' → S'.R = S.R → rX S' m ce T C nc y e q st (xName e q ((C e.c).2.2.getD a 0) st) → Q none S' := hQ
  obtain ⟨a1, a2, a3⟩ := h.ml.row (F := 98) (o := 16) (k := 15) (n := 8) (by decide)
  have fc : S.rI (m + 16) e.t.length = nI e.c := h.2.2.2.1.1.1
  refine f_200 hsp ⟨by rw [k14]; rfl, ?_⟩
  rw [h.f92, nI_pred]
  intro w1
  have ew : w1 = nI e.t.length := rfl
  clear_value w1
  subst ew
  refine ⟨by rw [k14]; rfl, by rw [a1, a2]; rfl, by rw [a1, a3]; exact vp_in_nI (by omega) (by decide), ?_⟩
  rw [a1, nI_clamp (show e.t.length < 2 ^ 31 by omega), fc]
  intro w2
  have ew : w2 = nI e.c := rfl
  clear_value w2
  subst ew
  refine ⟨by rw [k14]; rfl, ?_⟩
  rw [h138, nI_toInt (show 101 < 2 ^ 31 by decide)]
  refine ⟨fun z => absurd z (by decide), fun _ => ?_⟩
  refine ⟨fun z => absurd z (by decide), fun _ => ?_⟩
  refine ⟨fun z => absurd z (by decide), fun _ => ?_⟩
  refine ⟨fun z => absurd z (by decide), fun _ => ?_⟩
  refine ⟨fun z => absurd z (by decide), fun _ => ?_⟩
  refine ⟨fun z => absurd z (by decide), fun _ => ?_⟩
  refine ⟨fun z => absurd z (by decide), fun _ => ?_⟩
  refine ⟨fun z => absurd z (by decide), fun _ => ?_⟩
  refine ⟨fun z => absurd z (by decide), fun _ => ?_⟩
  refine ⟨fun z => absurd z (by decide), fun _ => ?_⟩
  refine ⟨fun z => absurd z (by decide), fun _ => ?_⟩
  refine ⟨fun _ => ?_, fun z => absurd rfl z⟩
  obtain ⟨g, k', w, -, -, nw, nw2, nw3⟩ := h.2.2.1.2 e.c hc
  obtain ⟨e1, e2, e3⟩ := h.ml.row (F := 84) (o := 11) (k := 15) (n := 300) (by decide)
  obtain ⟨g1, g2, g3⟩ := h.ml.row (F := 91) (o := 15) (k := 16) (n := 2100) (by decide)
  have an : a < (C e.c).2.2.length := by rw [cW]; exact hag.2.1 (Or.inr rfl)
  have wl : (C e.c).2.2.getD a 0 < 2 ^ 63 := cN _ (by rw [List.getD_eq_getElem?_getD, List.getElem?_eq_getElem an]; exact List.getElem_mem an)
  have nc3 : nc ≤ 300 := h.2.2.1.1
  rw [e1, e2, e3, g1, g2, g3, nI_clamp (show e.c < 2 ^ 31 by omega), nw, h139, nI_add, nI_clamp (show w + a < 2 ^ 31 by omega), nw3 a an, k14]
  refine ⟨rfl, rfl, rfl, vp_in_nI (by omega) (by decide), rfl, rfl, vp_in_nI (by omega) (by decide), by decide, rfl, by decide, 0, 0, Nat.zero_le _, Nat.zero_le _, ?_⟩
  exact r_192 hsp hin h (by omega) wl (fun S' n1 n2 n3 => f_200_318 hE (f_200_365 hE ⟨rfl, hQ1 S' n1 n2 n3⟩))
theorem r_200_102 {a t : Nat} (hsp : ox_mono sp) (hin : rIn C nc K e st t) (h : rE S m ce γ B T C nc y e q st) (hT : T + 19 ≤ 1100000) (h138 : S.I 138 m = nI 102) (h139 : S.I 139 m = nI a) (htk : tkW 102 a = some t) (hg : st.length - t + gvW 102 a ≤ 10) (hag : agW (C e.c).1 102 a) (hQ : ∀ S', mFx m S S' → S'.R = S.R → rX S' m ce T C nc y e q st (xIns C e q 102 a st) → Q none S') : ox_M sp (d + 7) 200 [.inr (.inr m)] mr sr S Q := by
  have hE : ox_mono (ox_M sp (d + 6)) := ox_M_mono hsp _
  have et : a = t := Option.some.inj (show some a = some t from htk)
  have hg1 : st.length - t + 1 ≤ 10 := hg
  have hl : t ≤ st.length := by have := hin.2.2; omega
  subst et
  have s10 := hin.1.2.2.1
  have hx := hin.1
  have k14 := h.k
  have t7 := hx.t7
  have hc : e.c < nc := hx.1.2.2.2.1
  have hQ1 : ∀ S', mFx m S S' → S'.R = S.R → rX S' m ce T C nc y e q st (xTp e q (st.take a) (st.drop a)) → Q none S' := hQ
  obtain ⟨a1, a2, a3⟩ := h.ml.row (F := 98) (o := 16) (k := 15) (n := 8) (by decide)
  have fc : S.rI (m + 16) e.t.length = nI e.c := h.2.2.2.1.1.1
  refine f_200 hsp ⟨by rw [k14]; rfl, ?_⟩
  rw [h.f92, nI_pred]
  intro w1
  have ew : w1 = nI e.t.length := rfl
  clear_value w1
  subst ew
  refine ⟨by rw [k14]; rfl, by rw [a1, a2]; rfl, by rw [a1, a3]; exact vp_in_nI (by omega) (by decide), ?_⟩
  rw [a1, nI_clamp (show e.t.length < 2 ^ 31 by omega), fc]
  intro w2
  have ew : w2 = nI e.c := rfl
  clear_value w2
  subst ew
  refine ⟨by rw [k14]; rfl, ?_⟩
  rw [h138, nI_toInt (show 102 < 2 ^ 31 by decide)]
  refine ⟨fun z => absurd z (by decide), fun _ => ?_⟩
  refine ⟨fun z => absurd z (by decide), fun _ => ?_⟩
  refine ⟨fun z => absurd z (by decide), fun _ => ?_⟩
  refine ⟨fun z => absurd z (by decide), fun _ => ?_⟩
  refine ⟨fun z => absurd z (by decide), fun _ => ?_⟩
  refine ⟨fun z => absurd z (by decide), fun _ => ?_⟩
  refine ⟨fun z => absurd z (by decide), fun _ => ?_⟩
  refine ⟨fun z => absurd z (by decide), fun _ => ?_⟩
  refine ⟨fun z => absurd z (by decide), fun _ => ?_⟩
  refine ⟨fun z => absurd z (by decide), fun _ => ?_⟩
  refine ⟨fun z => absurd z (by decide), fun _ => ?_⟩
  refine ⟨fun z => absurd z (by decide), fun _ => ?_⟩
  refine ⟨fun _ => ?_, fun z => absurd rfl z⟩
  rw [h139]
  exact ⟨by rw [k14]; rfl, by decide, k14, by decide, 0, 0, Nat.zero_le _, Nat.zero_le _, r_196 hsp hin h hT (by rw [List.length_drop]; omega) (fun S' n1 n2 n3 => f_200_329 hE (f_200_365 hE ⟨rfl, hQ1 S' n1 n2 n3⟩))⟩
theorem r_200_107 {a t : Nat} (hsp : ox_mono sp) (hin : rIn C nc K e st t) (h : rE S m ce γ B T C nc y e q st) (hT : T + 19 ≤ 1100000) (h138 : S.I 138 m = nI 107) (h139 : S.I 139 m = nI a) (htk : tkW 107 a = some t) (hg : st.length - t + gvW 107 a ≤ 10) (hag : agW (C e.c).1 107 a) (hQ : ∀ S', mFx m S S' → S'.R = S.R → rX S' m ce T C nc y e q st (xIns C e q 107 a st) → Q none S') : ox_M sp (d + 7) 200 [.inr (.inr m)] mr sr S Q := by
  have hE : ox_mono (ox_M sp (d + 6)) := ox_M_mono hsp _
  have et : 2 = t := Option.some.inj (show some 2 = some t from htk)
  have hg1 : st.length - t + 1 ≤ 10 := hg
  have hl : t ≤ st.length := by have := hin.2.2; omega
  subst et
  have s10 := hin.1.2.2.1
  obtain ⟨u, v, r, rfl⟩ := ls2 (st := st) hl
  simp only [List.length_cons] at hg1 hl s10
  have hx := hin.1
  have k14 := h.k
  have t7 := hx.t7
  have hc : e.c < nc := hx.1.2.2.2.1
  have hQ1 : ∀ S', mFx m S S' → S'.R = S.R → rX S' m ce T C nc y e q (u :: v :: r) (xCmp e q a r v u) → Q none S' := hQ
  obtain ⟨a1, a2, a3⟩ := h.ml.row (F := 98) (o := 16) (k := 15) (n := 8) (by decide)
  have fc : S.rI (m + 16) e.t.length = nI e.c := h.2.2.2.1.1.1
  refine f_200 hsp ⟨by rw [k14]; rfl, ?_⟩
  rw [h.f92, nI_pred]
  intro w1
  have ew : w1 = nI e.t.length := rfl
  clear_value w1
  subst ew
  refine ⟨by rw [k14]; rfl, by rw [a1, a2]; rfl, by rw [a1, a3]; exact vp_in_nI (by omega) (by decide), ?_⟩
  rw [a1, nI_clamp (show e.t.length < 2 ^ 31 by omega), fc]
  intro w2
  have ew : w2 = nI e.c := rfl
  clear_value w2
  subst ew
  refine ⟨by rw [k14]; rfl, ?_⟩
  rw [h138, nI_toInt (show 107 < 2 ^ 31 by decide)]
  refine ⟨fun z => absurd z (by decide), fun _ => ?_⟩
  refine ⟨fun z => absurd z (by decide), fun _ => ?_⟩
  refine ⟨fun z => absurd z (by decide), fun _ => ?_⟩
  refine ⟨fun z => absurd z (by decide), fun _ => ?_⟩
  refine ⟨fun z => absurd z (by decide), fun _ => ?_⟩
  refine ⟨fun z => absurd z (by decide), fun _ => ?_⟩
  refine ⟨fun z => absurd z (by decide), fun _ => ?_⟩
  refine ⟨fun z => absurd z (by decide), fun _ => ?_⟩
  refine ⟨fun z => absurd z (by decide), fun _ => ?_⟩
  refine ⟨fun z => absurd z (by decide), fun _ => ?_⟩
  refine ⟨fun z => absurd z (by decide), fun _ => ?_⟩
  refine ⟨fun z => absurd z (by decide), fun _ => ?_⟩
  refine ⟨fun z => absurd z (by decide), fun _ => ?_⟩
  refine ⟨fun _ => ?_, fun z => absurd rfl z⟩
  have a10 := hag.2.2.2.2.2.1 rfl
  exact ⟨by decide, k14, by decide, 0, 0, Nat.zero_le _, Nat.zero_le _, r_186 hsp hin h (by omega) h139 (fun S' n1 n2 n3 => f_200_336 hE (f_200_365 hE ⟨rfl, hQ1 S' n1 n2 n3⟩))⟩
theorem r_200_131 {a t : Nat} (hsp : ox_mono sp) (hin : rIn C nc K e st t) (h : rE S m ce γ B T C nc y e q st) (hT : T + 19 ≤ 1100000) (h138 : S.I 138 m = nI 131) (h139 : S.I 139 m = nI a) (htk : tkW 131 a = some t) (hg : st.length - t + gvW 131 a ≤ 10) (hag : agW (C e.c).1 131 a) (hQ : ∀ S', mFx m S S' → S'.R = S.R → rX S' m ce T C nc y e q st (xIns C e q 131 a st) → Q none S') : ox_M sp (d + 7) 200 [.inr (.inr m)] mr sr S Q := by
  have hE : ox_mono (ox_M sp (d + 6)) := ox_M_mono hsp _
  have et : (a + 1) = t := Option.some.inj (show some (a + 1) = some t from htk)
  have hg1 : st.length - t + 1 ≤ 10 := hg
  have hl : t ≤ st.length := by have := hin.2.2; omega
  subst et
  have s10 := hin.1.2.2.1
  have hx := hin.1
  have k14 := h.k
  have t7 := hx.t7
  have hc : e.c < nc := hx.1.2.2.2.1
  have hQ1 : ∀ S', mFx m S S' → S'.R = S.R → rX S' m ce T C nc y e q st (xCall C e q a (st.take a) (st.drop (a + 1)) (st.getD a 0)) → Q none S' := hQ
  obtain ⟨a1, a2, a3⟩ := h.ml.row (F := 98) (o := 16) (k := 15) (n := 8) (by decide)
  have fc : S.rI (m + 16) e.t.length = nI e.c := h.2.2.2.1.1.1
  refine f_200 hsp ⟨by rw [k14]; rfl, ?_⟩
  rw [h.f92, nI_pred]
  intro w1
  have ew : w1 = nI e.t.length := rfl
  clear_value w1
  subst ew
  refine ⟨by rw [k14]; rfl, by rw [a1, a2]; rfl, by rw [a1, a3]; exact vp_in_nI (by omega) (by decide), ?_⟩
  rw [a1, nI_clamp (show e.t.length < 2 ^ 31 by omega), fc]
  intro w2
  have ew : w2 = nI e.c := rfl
  clear_value w2
  subst ew
  refine ⟨by rw [k14]; rfl, ?_⟩
  rw [h138, nI_toInt (show 131 < 2 ^ 31 by decide)]
  refine ⟨fun z => absurd z (by decide), fun _ => ?_⟩
  refine ⟨fun z => absurd z (by decide), fun _ => ?_⟩
  refine ⟨fun z => absurd z (by decide), fun _ => ?_⟩
  refine ⟨fun z => absurd z (by decide), fun _ => ?_⟩
  refine ⟨fun z => absurd z (by decide), fun _ => ?_⟩
  refine ⟨fun z => absurd z (by decide), fun _ => ?_⟩
  refine ⟨fun z => absurd z (by decide), fun _ => ?_⟩
  refine ⟨fun z => absurd z (by decide), fun _ => ?_⟩
  refine ⟨fun z => absurd z (by decide), fun _ => ?_⟩
  refine ⟨fun z => absurd z (by decide), fun _ => ?_⟩
  refine ⟨fun z => absurd z (by decide), fun _ => ?_⟩
  refine ⟨fun z => absurd z (by decide), fun _ => ?_⟩
  refine ⟨fun z => absurd z (by decide), fun _ => ?_⟩
  refine ⟨fun z => absurd z (by decide), fun _ => ?_⟩
  refine ⟨fun _ => ?_, fun z => absurd rfl z⟩
  rw [h139]
  exact ⟨by rw [k14]; rfl, by decide, k14, by decide, 0, 0, Nat.zero_le _, Nat.zero_le _, r_194 hsp hin h hT (fun S' n1 n2 n3 => f_200_347 hE (f_200_365 hE ⟨rfl, hQ1 S' n1 n2 n3⟩))⟩
theorem r_200_132 {a t : Nat} (hsp : ox_mono sp) (hin : rIn C nc K e st t) (h : rE S m ce γ B T C nc y e q st) (hT : T + 19 ≤ 1100000) (h138 : S.I 138 m = nI 132) (h139 : S.I 139 m = nI a) (htk : tkW 132 a = some t) (hg : st.length - t + gvW 132 a ≤ 10) (hag : agW (C e.c).1 132 a) (hQ : ∀ S', mFx m S S' → S'.R = S.R → rX S' m ce T C nc y e q st (xIns C e q 132 a st) → Q none S') : ox_M sp (d + 7) 200 [.inr (.inr m)] mr sr S Q := by
  have hE : ox_mono (ox_M sp (d + 6)) := ox_M_mono hsp _
  have et : 1 = t := Option.some.inj (show some 1 = some t from htk)
  have hg1 : st.length - t + 1 ≤ 10 := hg
  have hl : t ≤ st.length := by have := hin.2.2; omega
  subst et
  have s10 := hin.1.2.2.1
  obtain ⟨v, r, rfl⟩ := ls1 (st := st) hl
  simp only [List.length_cons] at hg1 hl s10
  have hx := hin.1
  have k14 := h.k
  have t7 := hx.t7
  have hc : e.c < nc := hx.1.2.2.2.1
  have hQ1 : ∀ S', mFx m S S' → S'.R = S.R → rX S' m ce T C nc y e q (v :: r) ((if v < 0 then xMk e q r (.inr (.inr (.inr (.inr (-1 - v).toNat)))) else .inl 0)) → Q none S' := hQ
  obtain ⟨a1, a2, a3⟩ := h.ml.row (F := 98) (o := 16) (k := 15) (n := 8) (by decide)
  have fc : S.rI (m + 16) e.t.length = nI e.c := h.2.2.2.1.1.1
  refine f_200 hsp ⟨by rw [k14]; rfl, ?_⟩
  rw [h.f92, nI_pred]
  intro w1
  have ew : w1 = nI e.t.length := rfl
  clear_value w1
  subst ew
  refine ⟨by rw [k14]; rfl, by rw [a1, a2]; rfl, by rw [a1, a3]; exact vp_in_nI (by omega) (by decide), ?_⟩
  rw [a1, nI_clamp (show e.t.length < 2 ^ 31 by omega), fc]
  intro w2
  have ew : w2 = nI e.c := rfl
  clear_value w2
  subst ew
  refine ⟨by rw [k14]; rfl, ?_⟩
  rw [h138, nI_toInt (show 132 < 2 ^ 31 by decide)]
  refine ⟨fun z => absurd z (by decide), fun _ => ?_⟩
  refine ⟨fun z => absurd z (by decide), fun _ => ?_⟩
  refine ⟨fun z => absurd z (by decide), fun _ => ?_⟩
  refine ⟨fun z => absurd z (by decide), fun _ => ?_⟩
  refine ⟨fun z => absurd z (by decide), fun _ => ?_⟩
  refine ⟨fun z => absurd z (by decide), fun _ => ?_⟩
  refine ⟨fun z => absurd z (by decide), fun _ => ?_⟩
  refine ⟨fun z => absurd z (by decide), fun _ => ?_⟩
  refine ⟨fun z => absurd z (by decide), fun _ => ?_⟩
  refine ⟨fun z => absurd z (by decide), fun _ => ?_⟩
  refine ⟨fun z => absurd z (by decide), fun _ => ?_⟩
  refine ⟨fun z => absurd z (by decide), fun _ => ?_⟩
  refine ⟨fun z => absurd z (by decide), fun _ => ?_⟩
  refine ⟨fun z => absurd z (by decide), fun _ => ?_⟩
  refine ⟨fun z => absurd z (by decide), fun _ => ?_⟩
  refine ⟨fun _ => ?_, fun z => absurd rfl z⟩
  exact ⟨by decide, k14, by decide, 0, 0, Nat.zero_le _, Nat.zero_le _, r_199 hsp hin h hT (fun S' n1 n2 n3 => f_200_354 hE (f_200_365 hE ⟨rfl, hQ1 S' n1 n2 n3⟩))⟩
theorem r_200_20 {a t : Nat} (hsp : ox_mono sp) (hin : rIn C nc K e st t) (h : rE S m ce γ B T C nc y e q st) (hT : T + 19 ≤ 1100000) (h138 : S.I 138 m = nI 20) (h139 : S.I 139 m = nI a) (htk : tkW 20 a = some t) (hg : st.length - t + gvW 20 a ≤ 10) (hag : agW (C e.c).1 20 a) (hQ : ∀ S', mFx m S S' → S'.R = S.R → rX S' m ce T C nc y e q st (xIns C e q 20 a st) → Q none S') : ox_M sp (d + 7) 200 [.inr (.inr m)] mr sr S Q := by
  have hE : ox_mono (ox_M sp (d + 6)) := ox_M_mono hsp _
  have et : 2 = t := Option.some.inj (show some 2 = some t from htk)
  have hg1 : st.length - t + 1 ≤ 10 := hg
  have hl : t ≤ st.length := by have := hin.2.2; omega
  subst et
  have s10 := hin.1.2.2.1
  obtain ⟨u, v, r, rfl⟩ := ls2 (st := st) hl
  simp only [List.length_cons] at hg1 hl s10
  have hx := hin.1
  have k14 := h.k
  have t7 := hx.t7
  have hc : e.c < nc := hx.1.2.2.2.1
  have hQ1 : ∀ S', mFx m S S' → S'.R = S.R → rX S' m ce T C nc y e q (u :: v :: r) (xAri e q 20 r v u) → Q none S' := hQ
  obtain ⟨a1, a2, a3⟩ := h.ml.row (F := 98) (o := 16) (k := 15) (n := 8) (by decide)
  have fc : S.rI (m + 16) e.t.length = nI e.c := h.2.2.2.1.1.1
  refine f_200 hsp ⟨by rw [k14]; rfl, ?_⟩
  rw [h.f92, nI_pred]
  intro w1
  have ew : w1 = nI e.t.length := rfl
  clear_value w1
  subst ew
  refine ⟨by rw [k14]; rfl, by rw [a1, a2]; rfl, by rw [a1, a3]; exact vp_in_nI (by omega) (by decide), ?_⟩
  rw [a1, nI_clamp (show e.t.length < 2 ^ 31 by omega), fc]
  intro w2
  have ew : w2 = nI e.c := rfl
  clear_value w2
  subst ew
  refine ⟨by rw [k14]; rfl, ?_⟩
  rw [h138, nI_toInt (show 20 < 2 ^ 31 by decide)]
  refine ⟨fun z => absurd z (by decide), fun _ => ?_⟩
  refine ⟨fun z => absurd z (by decide), fun _ => ?_⟩
  refine ⟨fun z => absurd z (by decide), fun _ => ?_⟩
  refine ⟨fun z => absurd z (by decide), fun _ => ?_⟩
  refine ⟨fun z => absurd z (by decide), fun _ => ?_⟩
  refine ⟨fun z => absurd z (by decide), fun _ => ?_⟩
  refine ⟨fun z => absurd z (by decide), fun _ => ?_⟩
  refine ⟨fun z => absurd z (by decide), fun _ => ?_⟩
  refine ⟨fun z => absurd z (by decide), fun _ => ?_⟩
  refine ⟨fun z => absurd z (by decide), fun _ => ?_⟩
  refine ⟨fun z => absurd z (by decide), fun _ => ?_⟩
  refine ⟨fun z => absurd z (by decide), fun _ => ?_⟩
  refine ⟨fun z => absurd z (by decide), fun _ => ?_⟩
  refine ⟨fun z => absurd z (by decide), fun _ => ?_⟩
  refine ⟨fun z => absurd z (by decide), fun _ => ?_⟩
  refine ⟨fun z => absurd z (by decide), fun _ => ?_⟩
  exact ⟨by rw [k14]; rfl, by decide, k14, by decide, 0, 0, Nat.zero_le _, Nat.zero_le _, r_183 hsp (w := 20) (by decide) hin h hT (fun S' n1 n2 n3 => f_200_365 hE ⟨rfl, hQ1 S' n1 n2 n3⟩)⟩
theorem r_200_22 {a t : Nat} (hsp : ox_mono sp) (hin : rIn C nc K e st t) (h : rE S m ce γ B T C nc y e q st) (hT : T + 19 ≤ 1100000) (h138 : S.I 138 m = nI 22) (h139 : S.I 139 m = nI a) (htk : tkW 22 a = some t) (hg : st.length - t + gvW 22 a ≤ 10) (hag : agW (C e.c).1 22 a) (hQ : ∀ S', mFx m S S' → S'.R = S.R → rX S' m ce T C nc y e q st (xIns C e q 22 a st) → Q none S') : ox_M sp (d + 7) 200 [.inr (.inr m)] mr sr S Q := by
  have hE : ox_mono (ox_M sp (d + 6)) := ox_M_mono hsp _
  have et : 2 = t := Option.some.inj (show some 2 = some t from htk)
  have hg1 : st.length - t + 1 ≤ 10 := hg
  have hl : t ≤ st.length := by have := hin.2.2; omega
  subst et
  have s10 := hin.1.2.2.1
  obtain ⟨u, v, r, rfl⟩ := ls2 (st := st) hl
  simp only [List.length_cons] at hg1 hl s10
  have hx := hin.1
  have k14 := h.k
  have t7 := hx.t7
  have hc : e.c < nc := hx.1.2.2.2.1
  have hQ1 : ∀ S', mFx m S S' → S'.R = S.R → rX S' m ce T C nc y e q (u :: v :: r) (xAri e q 22 r v u) → Q none S' := hQ
  obtain ⟨a1, a2, a3⟩ := h.ml.row (F := 98) (o := 16) (k := 15) (n := 8) (by decide)
  have fc : S.rI (m + 16) e.t.length = nI e.c := h.2.2.2.1.1.1
  refine f_200 hsp ⟨by rw [k14]; rfl, ?_⟩
  rw [h.f92, nI_pred]
  intro w1
  have ew : w1 = nI e.t.length := rfl
  clear_value w1
  subst ew
  refine ⟨by rw [k14]; rfl, by rw [a1, a2]; rfl, by rw [a1, a3]; exact vp_in_nI (by omega) (by decide), ?_⟩
  rw [a1, nI_clamp (show e.t.length < 2 ^ 31 by omega), fc]
  intro w2
  have ew : w2 = nI e.c := rfl
  clear_value w2
  subst ew
  refine ⟨by rw [k14]; rfl, ?_⟩
  rw [h138, nI_toInt (show 22 < 2 ^ 31 by decide)]
  refine ⟨fun z => absurd z (by decide), fun _ => ?_⟩
  refine ⟨fun z => absurd z (by decide), fun _ => ?_⟩
  refine ⟨fun z => absurd z (by decide), fun _ => ?_⟩
  refine ⟨fun z => absurd z (by decide), fun _ => ?_⟩
  refine ⟨fun z => absurd z (by decide), fun _ => ?_⟩
  refine ⟨fun z => absurd z (by decide), fun _ => ?_⟩
  refine ⟨fun z => absurd z (by decide), fun _ => ?_⟩
  refine ⟨fun z => absurd z (by decide), fun _ => ?_⟩
  refine ⟨fun z => absurd z (by decide), fun _ => ?_⟩
  refine ⟨fun z => absurd z (by decide), fun _ => ?_⟩
  refine ⟨fun z => absurd z (by decide), fun _ => ?_⟩
  refine ⟨fun z => absurd z (by decide), fun _ => ?_⟩
  refine ⟨fun z => absurd z (by decide), fun _ => ?_⟩
  refine ⟨fun z => absurd z (by decide), fun _ => ?_⟩
  refine ⟨fun z => absurd z (by decide), fun _ => ?_⟩
  refine ⟨fun z => absurd z (by decide), fun _ => ?_⟩
  exact ⟨by rw [k14]; rfl, by decide, k14, by decide, 0, 0, Nat.zero_le _, Nat.zero_le _, r_183 hsp (w := 22) (by decide) hin h hT (fun S' n1 n2 n3 => f_200_365 hE ⟨rfl, hQ1 S' n1 n2 n3⟩)⟩
theorem r_200_24 {a t : Nat} (hsp : ox_mono sp) (hin : rIn C nc K e st t) (h : rE S m ce γ B T C nc y e q st) (hT : T + 19 ≤ 1100000) (h138 : S.I 138 m = nI 24) (h139 : S.I 139 m = nI a) (htk : tkW 24 a = some t) (hg : st.length - t + gvW 24 a ≤ 10) (hag : agW (C e.c).1 24 a) (hQ : ∀ S', mFx m S S' → S'.R = S.R → rX S' m ce T C nc y e q st (xIns C e q 24 a st) → Q none S') : ox_M sp (d + 7) 200 [.inr (.inr m)] mr sr S Q := by
  have hE : ox_mono (ox_M sp (d + 6)) := ox_M_mono hsp _
  have et : 2 = t := Option.some.inj (show some 2 = some t from htk)
  have hg1 : st.length - t + 1 ≤ 10 := hg
  have hl : t ≤ st.length := by have := hin.2.2; omega
  subst et
  have s10 := hin.1.2.2.1
  obtain ⟨u, v, r, rfl⟩ := ls2 (st := st) hl
  simp only [List.length_cons] at hg1 hl s10
  have hx := hin.1
  have k14 := h.k
  have t7 := hx.t7
  have hc : e.c < nc := hx.1.2.2.2.1
  have hQ1 : ∀ S', mFx m S S' → S'.R = S.R → rX S' m ce T C nc y e q (u :: v :: r) (xAri e q 24 r v u) → Q none S' := hQ
  obtain ⟨a1, a2, a3⟩ := h.ml.row (F := 98) (o := 16) (k := 15) (n := 8) (by decide)
  have fc : S.rI (m + 16) e.t.length = nI e.c := h.2.2.2.1.1.1
  refine f_200 hsp ⟨by rw [k14]; rfl, ?_⟩
  rw [h.f92, nI_pred]
  intro w1
  have ew : w1 = nI e.t.length := rfl
  clear_value w1
  subst ew
  refine ⟨by rw [k14]; rfl, by rw [a1, a2]; rfl, by rw [a1, a3]; exact vp_in_nI (by omega) (by decide), ?_⟩
  rw [a1, nI_clamp (show e.t.length < 2 ^ 31 by omega), fc]
  intro w2
  have ew : w2 = nI e.c := rfl
  clear_value w2
  subst ew
  refine ⟨by rw [k14]; rfl, ?_⟩
  rw [h138, nI_toInt (show 24 < 2 ^ 31 by decide)]
  refine ⟨fun z => absurd z (by decide), fun _ => ?_⟩
  refine ⟨fun z => absurd z (by decide), fun _ => ?_⟩
  refine ⟨fun z => absurd z (by decide), fun _ => ?_⟩
  refine ⟨fun z => absurd z (by decide), fun _ => ?_⟩
  refine ⟨fun z => absurd z (by decide), fun _ => ?_⟩
  refine ⟨fun z => absurd z (by decide), fun _ => ?_⟩
  refine ⟨fun z => absurd z (by decide), fun _ => ?_⟩
  refine ⟨fun z => absurd z (by decide), fun _ => ?_⟩
  refine ⟨fun z => absurd z (by decide), fun _ => ?_⟩
  refine ⟨fun z => absurd z (by decide), fun _ => ?_⟩
  refine ⟨fun z => absurd z (by decide), fun _ => ?_⟩
  refine ⟨fun z => absurd z (by decide), fun _ => ?_⟩
  refine ⟨fun z => absurd z (by decide), fun _ => ?_⟩
  refine ⟨fun z => absurd z (by decide), fun _ => ?_⟩
  refine ⟨fun z => absurd z (by decide), fun _ => ?_⟩
  refine ⟨fun z => absurd z (by decide), fun _ => ?_⟩
  exact ⟨by rw [k14]; rfl, by decide, k14, by decide, 0, 0, Nat.zero_le _, Nat.zero_le _, r_183 hsp (w := 24) (by decide) hin h hT (fun S' n1 n2 n3 => f_200_365 hE ⟨rfl, hQ1 S' n1 n2 n3⟩)⟩
theorem r_200_26 {a t : Nat} (hsp : ox_mono sp) (hin : rIn C nc K e st t) (h : rE S m ce γ B T C nc y e q st) (hT : T + 19 ≤ 1100000) (h138 : S.I 138 m = nI 26) (h139 : S.I 139 m = nI a) (htk : tkW 26 a = some t) (hg : st.length - t + gvW 26 a ≤ 10) (hag : agW (C e.c).1 26 a) (hQ : ∀ S', mFx m S S' → S'.R = S.R → rX S' m ce T C nc y e q st (xIns C e q 26 a st) → Q none S') : ox_M sp (d + 7) 200 [.inr (.inr m)] mr sr S Q := by
  have hE : ox_mono (ox_M sp (d + 6)) := ox_M_mono hsp _
  have et : 2 = t := Option.some.inj (show some 2 = some t from htk)
  have hg1 : st.length - t + 1 ≤ 10 := hg
  have hl : t ≤ st.length := by have := hin.2.2; omega
  subst et
  have s10 := hin.1.2.2.1
  obtain ⟨u, v, r, rfl⟩ := ls2 (st := st) hl
  simp only [List.length_cons] at hg1 hl s10
  have hx := hin.1
  have k14 := h.k
  have t7 := hx.t7
  have hc : e.c < nc := hx.1.2.2.2.1
  have hQ1 : ∀ S', mFx m S S' → S'.R = S.R → rX S' m ce T C nc y e q (u :: v :: r) (xAri e q 26 r v u) → Q none S' := hQ
  obtain ⟨a1, a2, a3⟩ := h.ml.row (F := 98) (o := 16) (k := 15) (n := 8) (by decide)
  have fc : S.rI (m + 16) e.t.length = nI e.c := h.2.2.2.1.1.1
  refine f_200 hsp ⟨by rw [k14]; rfl, ?_⟩
  rw [h.f92, nI_pred]
  intro w1
  have ew : w1 = nI e.t.length := rfl
  clear_value w1
  subst ew
  refine ⟨by rw [k14]; rfl, by rw [a1, a2]; rfl, by rw [a1, a3]; exact vp_in_nI (by omega) (by decide), ?_⟩
  rw [a1, nI_clamp (show e.t.length < 2 ^ 31 by omega), fc]
  intro w2
  have ew : w2 = nI e.c := rfl
  clear_value w2
  subst ew
  refine ⟨by rw [k14]; rfl, ?_⟩
  rw [h138, nI_toInt (show 26 < 2 ^ 31 by decide)]
  refine ⟨fun z => absurd z (by decide), fun _ => ?_⟩
  refine ⟨fun z => absurd z (by decide), fun _ => ?_⟩
  refine ⟨fun z => absurd z (by decide), fun _ => ?_⟩
  refine ⟨fun z => absurd z (by decide), fun _ => ?_⟩
  refine ⟨fun z => absurd z (by decide), fun _ => ?_⟩
  refine ⟨fun z => absurd z (by decide), fun _ => ?_⟩
  refine ⟨fun z => absurd z (by decide), fun _ => ?_⟩
  refine ⟨fun z => absurd z (by decide), fun _ => ?_⟩
  refine ⟨fun z => absurd z (by decide), fun _ => ?_⟩
  refine ⟨fun z => absurd z (by decide), fun _ => ?_⟩
  refine ⟨fun z => absurd z (by decide), fun _ => ?_⟩
  refine ⟨fun z => absurd z (by decide), fun _ => ?_⟩
  refine ⟨fun z => absurd z (by decide), fun _ => ?_⟩
  refine ⟨fun z => absurd z (by decide), fun _ => ?_⟩
  refine ⟨fun z => absurd z (by decide), fun _ => ?_⟩
  refine ⟨fun z => absurd z (by decide), fun _ => ?_⟩
  exact ⟨by rw [k14]; rfl, by decide, k14, by decide, 0, 0, Nat.zero_le _, Nat.zero_le _, r_183 hsp (w := 26) (by decide) hin h hT (fun S' n1 n2 n3 => f_200_365 hE ⟨rfl, hQ1 S' n1 n2 n3⟩)⟩
theorem r_200_23 {a t : Nat} (hsp : ox_mono sp) (hin : rIn C nc K e st t) (h : rE S m ce γ B T C nc y e q st) (hT : T + 19 ≤ 1100000) (h138 : S.I 138 m = nI 23) (h139 : S.I 139 m = nI a) (htk : tkW 23 a = some t) (hg : st.length - t + gvW 23 a ≤ 10) (hag : agW (C e.c).1 23 a) (hQ : ∀ S', mFx m S S' → S'.R = S.R → rX S' m ce T C nc y e q st (xIns C e q 23 a st) → Q none S') : ox_M sp (d + 7) 200 [.inr (.inr m)] mr sr S Q := by
  have hE : ox_mono (ox_M sp (d + 6)) := ox_M_mono hsp _
  have et : 2 = t := Option.some.inj (show some 2 = some t from htk)
  have hg1 : st.length - t + 1 ≤ 10 := hg
  have hl : t ≤ st.length := by have := hin.2.2; omega
  subst et
  have s10 := hin.1.2.2.1
  obtain ⟨u, v, r, rfl⟩ := ls2 (st := st) hl
  simp only [List.length_cons] at hg1 hl s10
  have hx := hin.1
  have k14 := h.k
  have t7 := hx.t7
  have hc : e.c < nc := hx.1.2.2.2.1
  have hQ1 : ∀ S', mFx m S S' → S'.R = S.R → rX S' m ce T C nc y e q (u :: v :: r) (xAdd e q r v u) → Q none S' := hQ
  obtain ⟨a1, a2, a3⟩ := h.ml.row (F := 98) (o := 16) (k := 15) (n := 8) (by decide)
  have fc : S.rI (m + 16) e.t.length = nI e.c := h.2.2.2.1.1.1
  refine f_200 hsp ⟨by rw [k14]; rfl, ?_⟩
  rw [h.f92, nI_pred]
  intro w1
  have ew : w1 = nI e.t.length := rfl
  clear_value w1
  subst ew
  refine ⟨by rw [k14]; rfl, by rw [a1, a2]; rfl, by rw [a1, a3]; exact vp_in_nI (by omega) (by decide), ?_⟩
  rw [a1, nI_clamp (show e.t.length < 2 ^ 31 by omega), fc]
  intro w2
  have ew : w2 = nI e.c := rfl
  clear_value w2
  subst ew
  refine ⟨by rw [k14]; rfl, ?_⟩
  rw [h138, nI_toInt (show 23 < 2 ^ 31 by decide)]
  refine ⟨fun z => absurd z (by decide), fun _ => ?_⟩
  refine ⟨fun z => absurd z (by decide), fun _ => ?_⟩
  refine ⟨fun z => absurd z (by decide), fun _ => ?_⟩
  refine ⟨fun z => absurd z (by decide), fun _ => ?_⟩
  refine ⟨fun z => absurd z (by decide), fun _ => ?_⟩
  refine ⟨fun z => absurd z (by decide), fun _ => ?_⟩
  refine ⟨fun z => absurd z (by decide), fun _ => ?_⟩
  refine ⟨fun z => absurd z (by decide), fun _ => ?_⟩
  refine ⟨fun z => absurd z (by decide), fun _ => ?_⟩
  refine ⟨fun z => absurd z (by decide), fun _ => ?_⟩
  refine ⟨fun z => absurd z (by decide), fun _ => ?_⟩
  refine ⟨fun z => absurd z (by decide), fun _ => ?_⟩
  refine ⟨fun z => absurd z (by decide), fun _ => ?_⟩
  refine ⟨fun z => absurd z (by decide), fun _ => ?_⟩
  refine ⟨fun z => absurd z (by decide), fun _ => ?_⟩
  refine ⟨fun z => absurd z (by decide), fun _ => ?_⟩
  exact ⟨by rw [k14]; rfl, by decide, k14, by decide, 0, 0, Nat.zero_le _, Nat.zero_le _, r_183 hsp (w := 23) (by decide) hin h hT (fun S' n1 n2 n3 => f_200_365 hE ⟨rfl, hQ1 S' n1 n2 n3⟩)⟩
end RWk2
