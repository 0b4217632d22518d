/-! the reference: COMPARE -/
section RWg
variable {sp : ox_E} {d mr sr : Nat} {S S' S2 : ox_St} {Q : ox_Q} {m ce a : Nat} {γ : Int → Nat} {B : List Int} {T : Nat} {C : Nat → xCd} {nc K y : Nat} {e : xEn} {q j i : Nat} {st r : List Int} {v u n : Int} {H : xHp} {o : xOb}
/-- pop; no field changes -/
theorem r_175i (hsp : ox_mono sp) (h : rE S m ce γ B T C nc y e q (v :: r)) (hx : xEs1 C nc K e (v :: r)) (hQ : ∀ S', rCh m ce T e.t.length S S' → S'.I = S.I → rE S' m ce γ B T C nc y e q r → xIn B v → Q (some (.inl (gV γ v))) S') : ox_M sp (d + 1) 175 [.inr (.inr m)] mr sr S Q := by
  have t7 := hx.t7
  have s10 : r.length + 1 ≤ 10 := hx.2.2.1
  obtain ⟨a1, a2, a3⟩ := h.ml.row (F := 102) (o := 20) (k := 15) (n := 80) (by decide)
  obtain ⟨b1, b2, b3⟩ := h.ml.row (F := 100) (o := 18) (k := 15) (n := 8) (by decide)
  have e10 : (10 : Int32) * nI e.t.length + nI r.length = nI (10 * e.t.length + r.length) := by rw [show (10 : Int32) = nI 10 from rfl, pk_mul, nI_add]
  have ht : S.rI (m + 18) e.t.length = nI (r.length + 1) := h.ht
  have h20 := h.sk.1
  obtain ⟨c1, c2⟩ := h.low hx 1
  have c1' : rCh m ce T e.t.length S (S.wI (m + 18) e.t.length (nI r.length)) := c1
  have c2' : rE (S.wI (m + 18) e.t.length (nI r.length)) m ce γ B T C nc y e q r := c2
  have eI : (S.wI (m + 18) e.t.length (nI r.length)).I = S.I := or_wI_I _ _ _ _
  have eK : (S.wI (m + 18) e.t.length (nI r.length)).K = S.K := or_wI_K _ _ _ _
  have el : (S.wI (m + 18) e.t.length (nI r.length)).len = S.len := or_wI_len _ _ _ _
  have eR : (S.wI (m + 18) e.t.length (nI r.length)).R = S.R := or_wI_R _ _ _ _
  have er : (S.wI (m + 18) e.t.length (nI r.length)).rI (m + 18) e.t.length = nI r.length := by rw [or_wI_rI, if_pos ⟨rfl, rfl⟩]
  have er2 : ∀ j, (S.wI (m + 18) e.t.length (nI r.length)).rI (m + 20) j = S.rI (m + 20) j := fun j => by rw [or_wI_rI, if_neg (fun z => by have := z.1; omega)]
  refine f_175 hsp ⟨by rw [h.k]; rfl, ?_⟩
  rw [h.f92, nI_pred]
  intro w1
  have ew : w1 = nI e.t.length := rfl
  clear_value w1
  subst ew
  rw [b1, b2, b3, h.k, nI_clamp (show e.t.length < 2 ^ 31 by omega), ht, nI_pred]
  refine ⟨rfl, rfl, vp_in_nI (by omega) (by decide), rfl, vp_in_nI (by omega) (by decide), ?_⟩
  generalize S.wI (m + 18) e.t.length (nI r.length) = U at c1' c2' eI eK el eR er er2 ⊢
  refine ⟨by rw [eK, h.k]; rfl, by rw [eK, h.k]; rfl, by rw [eR, eK, b1, b2]; rfl, by rw [eR, el, b1, b3]; exact vp_in_nI (by omega) (by decide), by rw [eR, eK, a1, a2]; rfl, ?_, trivial, ?_⟩
  · rw [eR, el, b1, a1, a3, er, e10]
    exact vp_in_nI (by omega) (by decide)
  · rw [eR, b1, a1, er, e10, nI_clamp (by omega), er2, h20]
    exact hQ U c1' eI c2' (h.in.1 v List.mem_cons_self)
/-- isKind -/
theorem r_136 (hsp : ox_mono sp) (h : rE S m ce γ B T C nc y e q st) (hx : xEs1 C nc K e st) (ok : xOk nc e.H v) (hB : xIn B v) (hQ : Q (some (.inl (if xIsK v = true then 1 else 0))) S) : ox_M sp (d + 1) 136 [.inl (gV γ v)] mr sr S Q := by
  have iff : xIsK v = true ↔ 4 ≤ v ∧ v ≤ 10 := by
    unfold xIsK
    rw [Bool.and_eq_true, decide_eq_true_iff, decide_eq_true_iff]
  have val : ∃ w : Int, (gV γ v).toInt = w ∧ (4 ≤ w ∧ w ≤ 10 ↔ 4 ≤ v ∧ v ≤ 10) := by
    by_cases z : v < 16
    · obtain ⟨lo, -, eg⟩ := h.lo hx ok z
      exact ⟨v, by rw [eg, Int32.toInt_ofInt_of_le (by omega) (by omega)], Iff.rfl⟩
    · obtain ⟨o, e1, h1, h2, eg⟩ := h.hi hB z
      have g16 := h1.1
      have sz := xSz_2 o
      exact ⟨(γ v : Int), by rw [eg, nI_toInt (by omega)], by omega⟩
  obtain ⟨w, w1, w2⟩ := val
  refine f_136 hsp ⟨fun z => ⟨Or.inl rfl, ?_⟩, fun z => ⟨fun z2 => ⟨Or.inl rfl, ?_⟩, fun z2 => ⟨Or.inr rfl, ?_⟩⟩⟩
  · rw [Int32.lt_iff_toInt_lt, w1, show (4 : Int32).toInt = 4 from by decide] at z
    rw [if_neg (fun y => by have := w2.mpr (iff.mp y); omega)] at hQ
    exact hQ
  · rw [Int32.le_iff_toInt_le, w1, show (11 : Int32).toInt = 11 from by decide] at z2
    rw [if_neg (fun y => by have := w2.mpr (iff.mp y); omega)] at hQ
    exact hQ
  · rw [Int32.lt_iff_toInt_lt, w1, show (4 : Int32).toInt = 4 from by decide] at z
    rw [Int32.le_iff_toInt_le, w1, show (11 : Int32).toInt = 11 from by decide] at z2
    rw [if_pos (iff.mpr (w2.mp (by omega)))] at hQ
    exact hQ
set_option maxHeartbeats 1000000 in
theorem r_186 (hsp : ox_mono sp) (hin : rIn C nc K e (u :: v :: r) 2) (h : rE S m ce γ B T C nc y e q (u :: v :: r)) (ha : a < 2 ^ 31) (h139 : S.I 139 m = nI a) (hQ : ∀ S', mFx m S S' → S'.R = S.R → rX S' m ce T C nc y e q (u :: v :: r) (xCmp e q a r v u) → Q none S') : ox_M sp (d + 5) 186 [.inr (.inr m)] mr sr S Q := by
  have hE : ox_mono (ox_M sp (d + 4)) := ox_M_mono hsp _
  have hx0 := hin.1
  have hx := hx0.tail.tail
  have oku := hx0.head
  have okv := hx0.tail.head
  have s10 : r.length + 2 ≤ 10 := hx0.2.2.1
  refine f_186 hsp ⟨by decide, h.k, by decide, 0, 0, Nat.zero_le _, Nat.zero_le _, r_175i hsp h hx0 (fun S1 a1 i1 a2 hBu => f_186_4 hE ⟨by decide, a2.k, by decide, 0, 0, Nat.zero_le _, Nat.zero_le _, r_175i hsp a2 hx0.tail (fun S2 b1 i2 b2 hBv => f_186_9 hE ?_)⟩)⟩
  have fx : mFx m S S2 := a1.1.trans b1.1
  have eR : S2.R = S.R := b1.2.1.trans a1.2.1
  have k14 := b2.k
  have g139 : S2.I 139 m = nI a := by rw [i2, i1]; exact h139
  have eqa : ∀ k : Nat, k < 2 ^ 31 → (nI a = nI k ↔ a = k) := fun k hk => nI_eq ha hk
  have psh : ∀ (V : ox_St) (w : Int), w = 1 ∨ w = 2 → rE V m ce γ B T C nc y e q r → mFx m S V → V.R = S.R → xCmp e q a r v u = xGo e q (w :: r) → ∀ mr sr, ox_M sp (d + 4) 174 [.inr (.inr m), .inl (Int32.ofInt w)] 0 0 V (k_186_196 (ox_M sp (d + 4)) m (gV γ u) (gV γ v) mr sr Q) := fun V w hw hV fV rV ex mr sr => by
    rw [ex] at hQ
    rw [← (if_pos (by omega) : gV γ w = Int32.ofInt w)]
    exact r_174 hsp hV hx (by omega) (Or.inl (by omega)) (fun S' n1 n2 => f_186_196 hE ⟨rfl, hQ S' (fV.trans n1.1) (n1.2.1.trans rV) (rX_go n2)⟩)
  have bad : xCmp e q a r v u = .inl 0 → ∀ mr sr, ox_M sp (d + 4) 177 [.inr (.inr m), .inl 0] 0 0 S2 (k_186_196 (ox_M sp (d + 4)) m (gV γ u) (gV γ v) mr sr Q) := fun ex mr sr => by
    rw [ex] at hQ
    exact r_raise hsp (k := 0) (i := 2) (by decide) hin (Nat.le_refl _) b2 (fun S' n1 n2 n3 => f_186_196 hE ⟨rfl, hQ S' (fx.trans n1) (n2.trans eR) (rX_k n3)⟩)
  -- EQ, NE
  have equ : a = 2 ∨ a = 3 → ∀ mr sr, ox_M sp (d + 4) 182 [.inr (.inr m), .inl (gV γ v), .inl (gV γ u)] 0 0 S2 (k_186_33 (ox_M sp (d + 4)) m (gV γ u) (gV γ v) m mr sr Q) := fun a23 mr sr => by
    have ex : xCmp e q a r v u = xGo e q ((if xEq e.H 5 v u = (a == 2) then 2 else 1) :: r) := by unfold xCmp; rw [if_pos a23]
    refine r_182 hsp b2 hx okv oku hBv hBu (fun V hV => f_186_33 hE ?_)
    obtain ⟨v1, v2, v3, v4⟩ := hV
    have kV := v1.k
    have psV := fun w hw ex mr sr => psh V w hw v1 (fx.trans v2) (v3.trans eR) ex mr sr
    have fin : ∀ (w : Int) (mr sr : Nat), (w = 1 ∨ w = 2) → xCmp e q a r v u = xGo e q (w :: r) → ox_M sp (d + 4) 174 [.inr (.inr m), .inl (Int32.ofInt w)] 0 0 V (k_186_57 (ox_M sp (d + 4)) m (gV γ u) (gV γ v) mr sr Q) := fun w mr sr hw ex => by
      rw [ex] at hQ
      rw [← (if_pos (by omega) : gV γ w = Int32.ofInt w)]
      exact r_174 hsp v1 hx (by omega) (Or.inl (by omega)) (fun S' n1 n2 => f_186_57 hE (f_186_196 hE ⟨rfl, hQ S' ((fx.trans v2).trans n1.1) (n1.2.1.trans (v3.trans eR)) (rX_go n2)⟩))
    unfold q_186_33
    rw [v4, g139]
    refine ⟨by rw [kV]; rfl, fun z => ?_, fun z => ?_⟩
    · have a3 : a = 3 := by
        rcases a23 with w | w
        · exact absurd (show nI a = nI 2 by rw [w]) z
        · exact w
      have ab : (a == 2) = false := by rw [a3]; rfl
      rw [ab] at ex
      cases xe : xEq e.H 5 v u with
      | true =>
        rw [xe, if_neg (by decide)] at ex
        rw [if_pos rfl]
        exact ⟨fun _ => ⟨by decide, kV, by decide, 0, 0, Nat.zero_le _, Nat.zero_le _, fin 1 _ _ (Or.inl rfl) ex⟩, fun w => absurd w (by decide)⟩
      | false =>
        rw [xe, if_pos rfl] at ex
        rw [if_neg (by decide)]
        exact ⟨fun w => absurd rfl w, fun _ => ⟨by decide, kV, by decide, 0, 0, Nat.zero_le _, Nat.zero_le _, fin 2 _ _ (Or.inr rfl) ex⟩⟩
    · have a2' : a = 2 := (eqa 2 (by decide)).mp z
      have ab : (a == 2) = true := by rw [a2']; rfl
      rw [ab] at ex
      cases xe : xEq e.H 5 v u with
      | true =>
        rw [xe, if_pos rfl] at ex
        rw [if_pos rfl]
        exact ⟨fun w => absurd rfl w, fun _ => ⟨by decide, kV, by decide, 0, 0, Nat.zero_le _, Nat.zero_le _, fin 2 _ _ (Or.inr rfl) ex⟩⟩
      | false =>
        rw [xe, if_neg (by decide)] at ex
        rw [if_neg (by decide)]
        exact ⟨fun _ => ⟨by decide, kV, by decide, 0, 0, Nat.zero_le _, Nat.zero_le _, fin 1 _ _ (Or.inl rfl) ex⟩, fun w => absurd w (by decide)⟩
  unfold q_186_9
  rw [g139]
  refine ⟨by rw [k14]; rfl, fun z => ⟨by decide, k14, by decide, 0, 0, Nat.zero_le _, Nat.zero_le _, equ (Or.inl ((eqa 2 (by decide)).mp z)) _ _⟩, fun z2 => ⟨by rw [k14]; rfl, fun z3 => ⟨by rw [k14]; rfl, fun z10 => ⟨by decide, k14, by decide, 0, 0, Nat.zero_le _, Nat.zero_le _, ?_⟩, fun z10 => ⟨by decide, by decide, 0, 0, Nat.zero_le _, Nat.zero_le _, ?_⟩⟩, fun z => ⟨by decide, k14, by decide, 0, 0, Nat.zero_le _, Nat.zero_le _, equ (Or.inr ((eqa 3 (by decide)).mp z)) _ _⟩⟩⟩
  · -- numbers
    have n2 : ¬ (a = 2 ∨ a = 3) := fun w => w.elim (fun w => z2 ((eqa 2 (by decide)).mpr w)) (fun w => z3 ((eqa 3 (by decide)).mpr w))
    have n10 : ¬ a = 10 := fun w => z10 ((eqa 10 (by decide)).mpr w)
    have ex0 : xCmp e q a r v u = (match xNum e.H v, xNum e.H u with
      | some A, some B => xGo e q ((if (if a = 0 then decide (A < B) else if a = 1 then decide (A ≤ B) else if a = 4 then decide (B < A) else decide (B ≤ A)) = true then 2 else 1) :: r)
      | _, _ => .inl 0) := by unfold xCmp; rw [if_neg n2, if_neg n10]; rfl
    have no : xNum e.H v = none ∨ xNum e.H u = none → xCmp e q a r v u = .inl 0 := fun w => by
      rw [ex0]
      rcases w with w | w
      · rw [w]
      · rw [w]
        cases xNum e.H v with
        | none => rfl
        | some N => rfl
    have bad' : xCmp e q a r v u = .inl 0 → ∀ mr sr, ox_M sp (d + 4) 177 [.inr (.inr m), .inl 0] 0 0 S2 (k_186_129 (ox_M sp (d + 4)) m (gV γ u) (gV γ v) mr sr Q) := fun ex mr sr => by
      rw [ex] at hQ
      exact r_raise hsp (k := 0) (i := 2) (by decide) hin (Nat.le_refl _) b2 (fun S' n1 n2 n3 => f_186_129 hE (f_186_196 hE ⟨rfl, hQ S' (fx.trans n1) (n2.trans eR) (rX_k n3)⟩))
    refine r_135s hsp b2 hx okv hBv (fun A nA => f_186_113 hE ⟨fun w => absurd w (by decide), fun _ => ⟨by decide, k14, by decide, 0, 0, Nat.zero_le _, Nat.zero_le _, ?_⟩⟩) (fun nA => f_186_113 hE ⟨fun _ => ⟨by decide, k14, by decide, 0, 0, Nat.zero_le _, Nat.zero_le _, bad' (no (Or.inl nA)) _ _⟩, fun w => absurd rfl w⟩)
    refine r_135s hsp b2 hx oku hBu (fun D nD => f_186_121 hE ⟨fun _ => ⟨by decide, k14, by decide, 0, 0, Nat.zero_le _, Nat.zero_le _, ?_⟩, fun w => absurd w (by decide)⟩) (fun nD => f_186_121 hE ⟨fun w => absurd rfl w, fun _ => ⟨by decide, k14, by decide, 0, 0, Nat.zero_le _, Nat.zero_le _, bad' (no (Or.inr nD)) _ _⟩⟩)
    have ex : xCmp e q a r v u = xGo e q ((if (if a = 0 then decide (A < D) else if a = 1 then decide (A ≤ D) else if a = 4 then decide (D < A) else decide (D ≤ A)) = true then 2 else 1) :: r) := by rw [ex0, nA, nD]
    obtain ⟨ua, fa, ja, sa, ga1, ga2, ga3, ga4, ga5⟩ := b2.num hx hBv nA
    obtain ⟨ub, fb, jb, sb, gb1, gb2, gb3, gb4, gb5⟩ := b2.num hx hBu nD
    have goal : ∀ mr sr V, mTmp m S2 V → k_186_138 (ox_M sp (d + 4)) m (gV γ u) (gV γ v) mr sr Q (some (.inl (cmpZ (nv fa ja sa) (nv fb jb sb)))) V := fun mr sr V hV => by
      obtain ⟨v1, v2, v3⟩ := b2.tmp hx hV
      have kV := v1.k
      have i139 : V.I 139 m = nI a := (hV.2.2.2.2.2.2.2.1 139 m (Or.inr (by omega))).trans g139
      obtain ⟨y1, y2, y3, y4⟩ := cmpZ_s (a := A) (b := D)
      rw [ga5, gb5]
      have p1 : ∀ mr sr, xCmp e q a r v u = xGo e q (1 :: r) → ox_M sp (d + 4) 174 [.inr (.inr m), .inl 1] 0 0 V (k_186_196 (ox_M sp (d + 4)) m (gV γ u) (gV γ v) mr sr Q) := fun mr sr ex => psh V 1 (Or.inl rfl) v1 (fx.trans v2) (v3.trans eR) ex mr sr
      have p2 : ∀ mr sr, xCmp e q a r v u = xGo e q (2 :: r) → ox_M sp (d + 4) 174 [.inr (.inr m), .inl 2] 0 0 V (k_186_196 (ox_M sp (d + 4)) m (gV γ u) (gV γ v) mr sr Q) := fun mr sr ex => psh V 2 (Or.inr rfl) v1 (fx.trans v2) (v3.trans eR) ex mr sr
      refine f_186_138 hE ?_
      unfold q_186_138
      rw [i139]
      refine ⟨by rw [kV]; rfl, fun w0 => ⟨by rw [kV]; rfl, fun w1 => ⟨by rw [kV]; rfl, fun w4 => ⟨fun c => ⟨by decide, kV, by decide, 0, 0, Nat.zero_le _, Nat.zero_le _, p1 _ _ ?_⟩, fun c => ⟨by decide, kV, by decide, 0, 0, Nat.zero_le _, Nat.zero_le _, p2 _ _ ?_⟩⟩, fun w4 => ⟨fun c => ⟨by decide, kV, by decide, 0, 0, Nat.zero_le _, Nat.zero_le _, p1 _ _ ?_⟩, fun c => ⟨by decide, kV, by decide, 0, 0, Nat.zero_le _, Nat.zero_le _, p2 _ _ ?_⟩⟩⟩, fun w1 => ⟨fun c => ⟨by decide, kV, by decide, 0, 0, Nat.zero_le _, Nat.zero_le _, p1 _ _ ?_⟩, fun c => ⟨by decide, kV, by decide, 0, 0, Nat.zero_le _, Nat.zero_le _, p2 _ _ ?_⟩⟩⟩, fun w0 => ⟨fun c => ⟨by decide, kV, by decide, 0, 0, Nat.zero_le _, Nat.zero_le _, p1 _ _ ?_⟩, fun c => ⟨by decide, kV, by decide, 0, 0, Nat.zero_le _, Nat.zero_le _, p2 _ _ ?_⟩⟩⟩
      · rw [ex, if_neg (fun w => w0 ((eqa 0 (by decide)).mpr w)), if_neg (fun w => w1 ((eqa 1 (by decide)).mpr w)), if_neg (fun w => w4 ((eqa 4 (by decide)).mpr w)), if_neg]
        rw [decide_eq_true_iff]
        have := y1.mp c
        omega
      · rw [ex, if_neg (fun w => w0 ((eqa 0 (by decide)).mpr w)), if_neg (fun w => w1 ((eqa 1 (by decide)).mpr w)), if_neg (fun w => w4 ((eqa 4 (by decide)).mpr w)), if_pos]
        rw [decide_eq_true_iff]
        exact Int.not_lt.mp fun x => c (y1.mpr x)
      · rw [ex, if_neg (fun w => w0 ((eqa 0 (by decide)).mpr w)), if_neg (fun w => w1 ((eqa 1 (by decide)).mpr w)), if_pos ((eqa 4 (by decide)).mp w4), if_neg]
        rw [decide_eq_true_iff]
        have := y4.mp c
        omega
      · rw [ex, if_neg (fun w => w0 ((eqa 0 (by decide)).mpr w)), if_neg (fun w => w1 ((eqa 1 (by decide)).mpr w)), if_pos ((eqa 4 (by decide)).mp w4), if_pos]
        rw [decide_eq_true_iff]
        exact Int.not_le.mp fun x => c (y4.mpr x)
      · rw [ex, if_neg (fun w => w0 ((eqa 0 (by decide)).mpr w)), if_pos ((eqa 1 (by decide)).mp w1), if_neg]
        rw [decide_eq_true_iff]
        have := y2.mp c
        omega
      · rw [ex, if_neg (fun w => w0 ((eqa 0 (by decide)).mpr w)), if_pos ((eqa 1 (by decide)).mp w1), if_pos]
        rw [decide_eq_true_iff]
        exact Int.not_lt.mp fun x => c (y2.mpr x)
      · rw [ex, if_pos ((eqa 0 (by decide)).mp w0), if_neg]
        rw [decide_eq_true_iff]
        have := y3.mp c
        omega
      · rw [ex, if_pos ((eqa 0 (by decide)).mp w0), if_pos]
        rw [decide_eq_true_iff]
        exact Int.not_le.mp fun x => c (y3.mpr x)
    have goal' := goal (mr - 0 - 0 - 0 - 0) (sr - 0 - 0 - 0 - 0)
    show ox_M sp (d + 4) 142 [.inr (.inr m), .inl (gV γ v), .inl (gV γ u)] 0 0 S2 (k_186_138 (ox_M sp (d + 4)) m (gV γ u) (gV γ v) _ _ Q)
    rw [ga1, gb1] at goal' ⊢
    exact s_142 hsp b2.ml ga2 gb2 ga3 gb3 ga4 gb4 goal'
  · -- EXC_MATCH
    have a10 : a = 10 := (eqa 10 (by decide)).mp z10
    have ex0 : xCmp e q a r v u = (if xIsK v = true ∧ xIsK u = true then xGo e q ((if v = u then 2 else 1) :: r) else .inl 0) := by
      unfold xCmp
      rw [if_neg (by omega), if_pos a10]
    have bad' : xCmp e q a r v u = .inl 0 → ∀ mr sr, ox_M sp (d + 4) 177 [.inr (.inr m), .inl 0] 0 0 S2 (k_186_105 (ox_M sp (d + 4)) m (gV γ u) (gV γ v) mr sr Q) := fun ex mr sr => by
      rw [ex] at hQ
      exact r_raise hsp (k := 0) (i := 2) (by decide) hin (Nat.le_refl _) b2 (fun S' n1 n2 n3 => f_186_105 hE (f_186_196 hE ⟨rfl, hQ S' (fx.trans n1) (n2.trans eR) (rX_k n3)⟩))
    have fin : ∀ (w : Int) (mr sr : Nat), (w = 1 ∨ w = 2) → xCmp e q a r v u = xGo e q (w :: r) → ox_M sp (d + 4) 174 [.inr (.inr m), .inl (Int32.ofInt w)] 0 0 S2 (k_186_97 (ox_M sp (d + 4)) m (gV γ u) (gV γ v) mr sr Q) := fun w mr sr hw ex => by
      rw [ex] at hQ
      rw [← (if_pos (by omega) : gV γ w = Int32.ofInt w)]
      exact r_174 hsp b2 hx (by omega) (Or.inl (by omega)) (fun S' n1 n2 => f_186_97 hE (f_186_196 hE ⟨rfl, hQ S' (fx.trans n1.1) (n1.2.1.trans eR) (rX_go n2)⟩))
    refine r_136 hsp b2 hx okv hBv (f_186_73 hE ?_)
    by_cases kv : xIsK v = true
    · rw [if_pos kv]
      refine ⟨fun w => absurd w (by decide), fun _ => ⟨by decide, by decide, 0, 0, Nat.zero_le _, Nat.zero_le _, r_136 hsp b2 hx oku hBu (f_186_80 hE ?_)⟩⟩
      by_cases ku : xIsK u = true
      · rw [if_pos ku]
        have inj := b2.inj hx okv oku hBv hBu
        rw [if_pos ⟨kv, ku⟩] at ex0
        refine ⟨fun w => absurd w (by decide), fun _ => ⟨fun w => ⟨by decide, k14, by decide, 0, 0, Nat.zero_le _, Nat.zero_le _, fin 1 _ _ (Or.inl rfl) ?_⟩, fun w => ⟨by decide, k14, by decide, 0, 0, Nat.zero_le _, Nat.zero_le _, fin 2 _ _ (Or.inr rfl) ?_⟩⟩⟩
        · rw [ex0, if_neg (fun x => w (inj.mpr x))]
        · rw [ex0, if_pos (inj.mp w)]
      · rw [if_neg ku]
        exact ⟨fun _ => ⟨by decide, k14, by decide, 0, 0, Nat.zero_le _, Nat.zero_le _, bad' (by rw [ex0, if_neg (fun x => ku x.2)]) _ _⟩, fun w => absurd rfl w⟩
    · rw [if_neg kv]
      exact ⟨fun _ => ⟨by decide, k14, by decide, 0, 0, Nat.zero_le _, Nat.zero_le _, bad' (by rw [ex0, if_neg (fun x => kv x.1)]) _ _⟩, fun w => absurd rfl w⟩
end RWg
