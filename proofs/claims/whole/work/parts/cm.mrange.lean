/-! the reference: RANGE -/
/-- what plain tells of a number -/
def plZ (N : Int) : Int64 := if sgI N = 0 then lN (plN N.natAbs) else -lN (plN N.natAbs)
theorem plZ_i (N : Int) : (plZ N).toInt = if N.natAbs ≤ 1000000000000 then N else if N < 0 then -1000000000000 else 1000000000000 := by
  have pl : plN N.natAbs ≤ 1000000000000 := by
    unfold plN
    by_cases z : N.natAbs ≤ 1000000000000
    · rw [if_pos z]; exact z
    · rw [if_neg z]; exact Nat.le_refl _
  have e1 : (lN (plN N.natAbs)).toInt = (plN N.natAbs : Int) := pf_lI (by omega)
  have e2 : (plN N.natAbs : Int) = if N.natAbs ≤ 1000000000000 then (N.natAbs : Int) else 1000000000000 := by
    unfold plN
    by_cases z : N.natAbs ≤ 1000000000000
    · rw [if_pos z, if_pos z]
    · rw [if_neg z, if_neg z]; rfl
  unfold plZ sgI
  by_cases n0 : N < 0
  · rw [if_pos n0, if_neg (by decide), l_neg (by rw [e1]; omega), e1, e2, if_pos n0]
    by_cases z : N.natAbs ≤ 1000000000000
    · rw [if_pos z, if_pos z]; omega
    · rw [if_neg z, if_neg z]
  · rw [if_neg n0, if_pos rfl, e1, e2, if_neg n0]
    by_cases z : N.natAbs ≤ 1000000000000
    · rw [if_pos z, if_pos z]; omega
    · rw [if_neg z, if_neg z]
theorem lg_fit (x : Int64) : lg_cmp x (Int32.toInt64 (Int64.toInt32 x)) = 0 ↔ -2147483648 ≤ x.toInt ∧ x.toInt ≤ 2147483647 := by
  rw [lg_cmp_eq, ← Int64.toInt_inj, Int32.toInt_toInt64]
  have b := i_bd (Int64.toInt32 x)
  constructor
  · intro h
    rw [← h] at b
    omega
  · intro h
    rw [Int64.toInt_toInt32]
    exact (Int.bmod_eq_of_le (by omega) (by omega)).symm
theorem xFit_iff (N : Int) : xFit N = true ↔ -2147483648 ≤ N ∧ N ≤ 2147483647 := by
  unfold xFit
  rw [Bool.and_eq_true, decide_eq_true_iff, decide_eq_true_iff]
theorem plZ_fit (N : Int) : lg_cmp (plZ N) (Int32.toInt64 (Int64.toInt32 (plZ N))) = 0 ↔ xFit N = true := by
  rw [lg_fit, xFit_iff, plZ_i]
  by_cases z : N.natAbs ≤ 1000000000000
  · rw [if_pos z]
  · rw [if_neg z]
    by_cases n0 : N < 0
    · rw [if_pos n0]; omega
    · rw [if_neg n0]; omega
theorem plZ_32 {N : Int} (h : xFit N = true) : (Int64.toInt32 (plZ N)).toInt = N := by
  have h' := (xFit_iff N).mp h
  rw [Int64.toInt_toInt32, plZ_i, if_pos (by omega)]
  exact Int.bmod_eq_of_le (by omega) (by omega)
theorem plZ_0 (N : Int) : lg_cmp (plZ N) 0 = 0 ↔ N = 0 := by
  rw [lg_cmp_eq, ← Int64.toInt_inj, plZ_i, show (0 : Int64).toInt = 0 from rfl]
  by_cases z : N.natAbs ≤ 1000000000000
  · rw [if_pos z]
  · rw [if_neg z]
    by_cases n0 : N < 0
    · rw [if_pos n0]; omega
    · rw [if_neg n0]; omega
theorem xNums_none {H : xHp} : ∀ (l : List Int) (j : Nat), j < l.length → xNum H (l.getD j 0) = none → xNums H l = none
  | v :: l, 0, _, h => by
    have h' : xNum H v = none := h
    unfold xNums
    rw [h']
  | v :: l, j + 1, hj, h => by
    have := xNums_none l j (Nat.lt_of_succ_lt_succ hj) h
    unfold xNums
    rw [this]
    cases xNum H v with
    | none => rfl
    | some N => rfl
def xRg (e : xEn) (q a : Nat) (st : List Int) : xOut := if 3 < a then .inl 0 else match xNums e.H (st.take a) with
  | some l => xRange e q (st.drop (a + 1)) l
  | none => .inl 0
section RRg
variable {sp : ox_E} {d mr sr : Nat} {S S' S2 : ox_St} {Q : ox_Q} {m ce a : Nat} {γ : Int → Nat} {B : List Int} {T : Nat} {C : Nat → xCd} {nc K y : Nat} {e : xEn} {q j i : Nat} {st r : List Int} {v u n : Int} {H : xHp} {o : xOb}
theorem xRg_bad (ha : a ≤ st.length) (hj : j < a) (h : xNum e.H (st.getD j 0) = none) : xRg e q a st = .inl 0 := by
  unfold xRg
  by_cases z : 3 < a
  · rw [if_pos z]
  · rw [if_neg z, xNums_none (st.take a) j (by rw [List.length_take]; omega) (by rw [List.getD_eq_getElem?_getD, List.getElem?_take, if_pos hj, ← List.getD_eq_getElem?_getD]; exact h)]
/-- plain, of a number -/
theorem r_149 (hsp : ox_mono sp) (h : rE S m ce γ B T C nc y e q st) (hx : xEs1 C nc K e st) (hB : xIn B v) {N : Int} (hN : xNum e.H v = some N) (hQ : Q (some (.inr (.inl (plZ N)))) S) : ox_M sp (d + 1) 149 [.inr (.inr m), .inl (gV γ v)] mr sr S Q := by
  obtain ⟨u, f, n, p, g1, g2, g3, g4, g5⟩ := h.num hx hB hN
  rw [g1]
  refine s_149 hsp h.ml g2 ?_
  have e1 : sgI N = p := g2.sgI g3 g4 g5
  have e2 : N.natAbs = dv f n := nv_abs g5
  unfold plZ at hQ
  rw [e1, e2] at hQ
  exact hQ
theorem xEs1.drop (hx : xEs1 C nc K e st) (i : Nat) : xEs1 C nc K e (st.drop i) := ⟨hx.1, fun u hu => hx.2.1 u (List.mem_of_mem_drop hu), by rw [List.length_drop]; have := hx.2.2.1; omega, hx.2.2.2⟩
/-- a range's cells are put -/
theorem rE.rng1 (h : rE S m ce γ B T C nc y e q st) (hx : xEs1 C nc K e st) {A' B' D' : Int32} (hT : T + 19 ≤ 1100000) : rE (((mPut S m (m + ce) T 5 A' B').wI (m + ce) (T + 3) D').sI 75 m (nI (T + 4))) m ce (upA γ e.n T) (e.n :: B) (T + 4) C nc y (e.nw (.inr (.inr (.inl (A'.toInt, B'.toInt, D'.toInt))))) q st ∧ mFx m S (((mPut S m (m + ce) T 5 A' B').wI (m + ce) (T + 3) D').sI 75 m (nI (T + 4))) ∧ (((mPut S m (m + ce) T 5 A' B').wI (m + ce) (T + 3) D').sI 75 m (nI (T + 4))).R = S.R := by
  have nw : mNw m ce T S (((mPut S m (m + ce) T 5 A' B').wI (m + ce) (T + 3) D').sI 75 m (nI (T + 4))) := (mNw_put.trans (mNw_wI (by omega))).trans mNw_top
  have h75 : (((mPut S m (m + ce) T 5 A' B').wI (m + ce) (T + 3) D').sI 75 m (nI (T + 4))).I 75 m = nI (T + 4) := by rw [or_sI_I, if_pos ⟨rfl, rfl⟩]
  have row : ∀ j, (((mPut S m (m + ce) T 5 A' B').wI (m + ce) (T + 3) D').sI 75 m (nI (T + 4))).rI (m + ce) j = if j = T + 3 then D' else if j = T + 2 then B' else if j = T + 1 then A' else if j = T then 5 else S.rI (m + ce) j := fun j => by
    rw [or_sI_rI, or_wI_rI, mPut_row]
    simp only [true_and]
  generalize ((mPut S m (m + ce) T 5 A' B').wI (m + ce) (T + 3) D').sI 75 m (nI (T + 4)) = U at nw h75 row ⊢
  obtain ⟨k1, k2, k3, k4, k5, k6, k7, k8, k9, k10⟩ := nw
  have T16 : 16 ≤ T := h.2.1.1.2.2.2.1
  have hce := h.c23
  have fx : mFx m S U := ⟨k3, k1, k2, k5, k6, fun F a _ => by rw [k4], fun F a z => k8 F a (Or.inl z), fun a z => k9 a (by omega) (by omega), fun a _ => by rw [k7], fun F z => k8 F m (Or.inr (by omega)), fun p z => k9 (m + p) (by omega) (by omega), by rw [k7]⟩
  have en : upA γ e.n T e.n = T := if_pos rfl
  have := h.ext (o := .inr (.inr (.inl (A'.toInt, B'.toInt, D'.toInt)))) hx fx k4 (fun F z => k8 F m (Or.inr (by omega))) h75 (fun a z1 z2 => k9 a (by omega) (by omega)) k7 k10 ⟨by rw [en]; exact T16, by
    rw [en]
    refine ⟨?_, ?_, ?_, ?_⟩
    · rw [row, if_neg (by omega), if_neg (by omega), if_neg (by omega), if_pos rfl]
    · rw [row, if_neg (by omega), if_neg (by omega), if_pos rfl]
    · rw [row, if_neg (by omega), if_pos rfl]
    · rw [row, if_pos rfl]⟩ (fun u hu => by cases hu) (show T + 4 ≤ 1100000 by omega)
  exact ⟨this, fx, k4⟩
set_option maxHeartbeats 1000000 in
theorem r_193_t (hsp : ox_mono sp) (hin : rIn C nc K e st (a + 1)) (h : rE S m ce γ B T C nc y e q st) (hT : T + 19 ≤ 1100000) {A B' D : Int} {o : xOut} (h6 : ¬ (xFit A = true ∧ xFit B' = true ∧ xFit D = true) → o = .inl 6) (h3 : xFit A = true ∧ xFit B' = true ∧ xFit D = true → D = 0 → o = .inl 3) (hk : xFit A = true ∧ xFit B' = true ∧ xFit D = true → D ≠ 0 → o = xMk e q (st.drop (a + 1)) (.inr (.inr (.inl (A, B', D))))) (hQ : ∀ S', mFx m S S' → S'.R = S.R → rX S' m ce T C nc y e q st o → Q none S') : q_193_126 (ox_M sp (d + 2)) m (nI a) 1 (plZ A) (plZ B') (plZ D) S mr sr Q := by
  have hE : ox_mono (ox_M sp (d + 2)) := ox_M_mono hsp _
  have hx := hin.1
  have t7 := hx.t7
  have s10 := hx.2.2.1
  have al : a + 1 ≤ st.length := by have := hin.2.2; omega
  obtain ⟨b1, b2, b3⟩ := h.ml.row (F := 100) (o := 18) (k := 15) (n := 8) (by decide)
  obtain ⟨c1, c2⟩ := h.low hx (a + 1)
  have sub : nI st.length - (nI a + 1) = nI (st.length - (a + 1)) := by rw [nI_1, pk_sub al]
  have hxd := hx.drop (a + 1)
  have dl : (st.drop (a + 1)).length < 10 := by rw [List.length_drop]; omega
  have far : ∀ (x9 : Int32) mr sr (U : ox_St), rCh m ce T e.t.length S U → rE U m ce γ B T C nc y e q (st.drop (a + 1)) → o = .inl 6 → ox_M sp (d + 2) 177 [.inr (.inr m), .inl 6] 0 0 U (k_193_211 (ox_M sp (d + 2)) m (nI a) 1 (plZ A) (plZ B') (plZ D) x9 mr sr Q) := fun x9 mr sr U f1 f2 f3 => r_raise hsp (k := 6) (i := a + 1) (by decide) hin (Nat.le_refl _) f2 (fun S' g1 g2 g3 => f_193_211 hE ⟨rfl, hQ S' (f1.1.trans g1) (g2.trans f1.2.1) (by rw [f3]; exact rX_k g3)⟩)
  unfold q_193_126
  rw [h.f92, nI_pred, h.k, b1, b2, b3, nI_clamp (show e.t.length < 2 ^ 31 by omega), h.ht, sub]
  refine ⟨fun z => ?_, fun z1 => ⟨fun z => ?_, fun z2 => ⟨fun z3 => ?_, fun z => ?_⟩⟩⟩
  · refine ⟨rfl, rfl, rfl, vp_in_nI (by omega) (by decide), rfl, vp_in_nI (by omega) (by decide), ?_⟩
    have o6 := h6 (fun y => z ((plZ_fit A).mpr y.1))
    intro S1
    have e5 : S.wI (m + 18) e.t.length (nI (st.length - (a + 1))) = S1 := rfl
    rw [e5] at c1 c2
    clear_value S1
    exact ⟨fun _ => ⟨fun z => absurd z (by decide), fun _ => ⟨by decide, c2.k, by decide, 0, 0, Nat.zero_le _, Nat.zero_le _, far _ _ _ S1 c1 c2 o6⟩⟩, fun z => absurd z (by decide)⟩
  · refine ⟨rfl, rfl, rfl, vp_in_nI (by omega) (by decide), rfl, vp_in_nI (by omega) (by decide), ?_⟩
    have o6 := h6 (fun y => z ((plZ_fit B').mpr y.2.1))
    intro S1
    have e5 : S.wI (m + 18) e.t.length (nI (st.length - (a + 1))) = S1 := rfl
    rw [e5] at c1 c2
    clear_value S1
    exact ⟨fun _ => ⟨fun z => absurd z (by decide), fun _ => ⟨by decide, c2.k, by decide, 0, 0, Nat.zero_le _, Nat.zero_le _, far _ _ _ S1 c1 c2 o6⟩⟩, fun z => absurd z (by decide)⟩
  · refine ⟨rfl, rfl, rfl, vp_in_nI (by omega) (by decide), rfl, vp_in_nI (by omega) (by decide), ?_⟩
    have fA := (plZ_fit A).mp z1
    have fB := (plZ_fit B').mp z2
    have fD := (plZ_fit D).mp z3
    intro S1
    have e5 : S.wI (m + 18) e.t.length (nI (st.length - (a + 1))) = S1 := rfl
    rw [e5] at c1 c2
    clear_value S1
    have rs : D = 0 → ∀ (x9 : Int32) mr sr, ox_M sp (d + 2) 177 [.inr (.inr m), .inl 3] 0 0 S1 (k_193_211 (ox_M sp (d + 2)) m (nI a) 1 (plZ A) (plZ B') (plZ D) x9 mr sr Q) := fun D0 x9 mr sr => r_raise hsp (k := 3) (i := a + 1) (by decide) hin (Nat.le_refl _) c2 (fun S' g1 g2 g3 => f_193_211 hE ⟨rfl, hQ S' (c1.1.trans g1) (g2.trans c1.2.1) (by rw [h3 ⟨fA, fB, fD⟩ D0]; exact rX_k g3)⟩)
    refine ⟨fun z => absurd rfl z, fun _ => ⟨fun zD => ⟨by decide, c2.k, by decide, 0, 0, Nat.zero_le _, Nat.zero_le _, ?_⟩, fun zD => ⟨fun _ => ⟨by decide, c2.k, by decide, 0, 0, Nat.zero_le _, Nat.zero_le _, rs ((plZ_0 D).mp zD) _ _ _⟩, fun z => absurd rfl z⟩⟩⟩
    have D0 : D ≠ 0 := fun w => zD ((plZ_0 D).mpr w)
    rw [hk ⟨fA, fB, fD⟩ D0] at hQ
    refine s_132 hsp c2.ml c2.2.1.2 (by omega) (f_193_222 hE ?_)
    obtain ⟨p1, p2, p3⟩ := c2.rng1 hxd (A' := Int64.toInt32 (plZ A)) (B' := Int64.toInt32 (plZ B')) (D' := Int64.toInt32 (plZ D)) hT
    rw [plZ_32 fA, plZ_32 fB, plZ_32 fD] at p1
    have nw : mNw m ce T S1 (mPut S1 m (m + ce) T 5 (Int64.toInt32 (plZ A)) (Int64.toInt32 (plZ B'))) := mNw_put
    have h75 : (mPut S1 m (m + ce) T 5 (Int64.toInt32 (plZ A)) (Int64.toInt32 (plZ B'))).I 75 m = nI (T + 3) := mPut_75
    have mlP := c2.ml.nw nw
    generalize mPut S1 m (m + ce) T 5 (Int64.toInt32 (plZ A)) (Int64.toInt32 (plZ B')) = P at p1 p2 p3 h75 mlP ⊢
    obtain ⟨d1, d2, d3⟩ := mlP.cells
    have kP := mlP.1
    refine ⟨by rw [kP]; rfl, by rw [kP]; rfl, by rw [d1]; exact d2, by rw [d1, d3, h75]; exact vp_in_nI (by omega) (by decide), ?_⟩
    rw [d1, h75, nI_clamp (show T + 3 < 2 ^ 31 by omega)]
    refine ⟨by rw [or_wI_K, kP]; rfl, by rw [or_wI_K, kP]; rfl, ?_⟩
    rw [or_wI_I, h75, nI_1]
    intro S2
    have e6 : (P.wI (m + ce) (T + 3) (Int64.toInt32 (plZ D))).sI 75 m (nI (T + 4)) = S2 := rfl
    rw [e6] at p1 p2 p3
    clear_value S2
    have eg : gV (upA γ e.n T) e.n = nI T := by
      unfold gV
      rw [if_neg (by have := hx.1.1.1; omega), show upA γ e.n T e.n = T from if_pos rfl]
    refine ⟨by decide, p1.k, by decide, 0, 0, Nat.zero_le _, Nat.zero_le _, ?_⟩
    rw [← eg]
    exact r_give (o := .inr (.inr (.inl (A, B', D)))) (st := st) hsp hxd dl ⟨fA, fB, fD, D0⟩ (show T + 4 ≤ T + 19 by omega) p1 (fun S' g1 g2 g3 => f_193_252 hE ⟨rfl, hQ S' (c1.1.trans (p2.trans g1)) (g2.trans (p3.trans c1.2.1)) g3⟩)
  · refine ⟨rfl, rfl, rfl, vp_in_nI (by omega) (by decide), rfl, vp_in_nI (by omega) (by decide), ?_⟩
    have o6 := h6 (fun y => z ((plZ_fit D).mpr y.2.2))
    intro S1
    have e5 : S.wI (m + 18) e.t.length (nI (st.length - (a + 1))) = S1 := rfl
    rw [e5] at c1 c2
    clear_value S1
    exact ⟨fun _ => ⟨fun z => absurd z (by decide), fun _ => ⟨by decide, c2.k, by decide, 0, 0, Nat.zero_le _, Nat.zero_le _, far _ _ _ S1 c1 c2 o6⟩⟩, fun z => absurd z (by decide)⟩
/-- not good -/
theorem r_193_b (hsp : ox_mono sp) (hin : rIn C nc K e st (a + 1)) (h : rE S m ce γ B T C nc y e q st) {o : xOut} (ho : o = .inl 0) (hQ : ∀ S', mFx m S S' → S'.R = S.R → rX S' m ce T C nc y e q st o → Q none S') : ∀ (k i mr sr : Nat), i + k = a → c_193_18 (ox_M sp (d + 2)) m (nI a) 0 (nI i) S mr sr Q := by
  have hE : ox_mono (ox_M sp (d + 2)) := ox_M_mono hsp _
  have al : a + 1 ≤ st.length := by have := hin.2.2; omega
  have s10 := hin.1.2.2.1
  intro k
  induction k with
  | zero =>
    intro i mr sr hi
    have hi' : i = a := hi
    subst hi'
    refine f_193_18 hE ⟨fun _ => ⟨fun z => absurd rfl z, fun _ => ⟨by decide, h.k, by decide, 0, 0, Nat.zero_le _, Nat.zero_le _, ?_⟩⟩, fun z => absurd (nI_le (Nat.le_refl _) (by omega)) z⟩
    exact r_raise hsp (k := 0) (i := 0) (by decide) hin (Nat.zero_le _) h (fun S' g1 g2 g3 => f_193_60 hE ⟨rfl, hQ S' g1 g2 (by rw [ho]; exact rX_k g3)⟩)
  | succ k ih =>
    intro i mr sr hi
    refine f_193_18 hE ⟨fun z => absurd z (nI_ge (by omega) (by omega)), fun _ => ⟨fun _ => ?_, fun z => absurd rfl z⟩⟩
    rw [nI_1]
    exact ih (i + 1) mr sr (by omega)
theorem r_193_l (hsp : ox_mono sp) (hin : rIn C nc K e st (a + 1)) (h : rE S m ce γ B T C nc y e q st) {o : xOut} (hb : (∃ j, j < a ∧ xNum e.H (st.getD j 0) = none) → o = .inl 0) (hQ : ∀ S', mFx m S S' → S'.R = S.R → rX S' m ce T C nc y e q st o → Q none S') (h1 : 1 ≤ a) (hn1 : a = 1 → (∀ j, j < a → xNum e.H (st.getD j 0) ≠ none) → ∀ mr sr, k_193_107 (ox_M sp (d + 2)) m (nI a) 1 0 m mr sr Q (some (.inl (gV γ (st.getD 0 0)))) S) (hn2 : 1 < a → (∀ j, j < a → xNum e.H (st.getD j 0) ≠ none) → ∀ mr sr x3, k_193_74 (ox_M sp (d + 2)) m (nI a) 1 x3 m mr sr Q (some (.inl (gV γ (st.getD (a - 1) 0)))) S) : ∀ (k i mr sr : Nat), i + k = a → (∀ j, j < i → xNum e.H (st.getD j 0) ≠ none) → c_193_18 (ox_M sp (d + 2)) m (nI a) 1 (nI i) S mr sr Q := by
  have hE : ox_mono (ox_M sp (d + 2)) := ox_M_mono hsp _
  have hx := hin.1
  have al : a + 1 ≤ st.length := by have := hin.2.2; omega
  have s10 := hin.1.2.2.1
  intro k
  induction k with
  | zero =>
    intro i mr sr hi hall
    have hi' : i = a := hi
    subst hi'
    refine f_193_18 hE ⟨fun _ => ⟨fun _ => ⟨fun z => ⟨fun _ => ⟨by decide, h.k, by decide, 0, 0, Nat.zero_le _, Nat.zero_le _, ?_⟩, fun w => absurd z w⟩, fun z => ⟨by decide, h.k, by decide, 0, 0, Nat.zero_le _, Nat.zero_le _, ?_⟩⟩, fun z => absurd z (by decide)⟩, fun z => absurd (nI_le (Nat.le_refl _) (by omega)) z⟩
    · have z' := (nI_leI (b := 1) (by omega) (by decide)).mp z
      exact r_176 hsp h hx (i := 0) (by omega) (fun _ => hn1 (by omega) hall _ _)
    · have z' : ¬ i ≤ 1 := fun w => z (nI_le (b := 1) w (by decide))
      rw [show (1 : Int32) = nI 1 from rfl, pk_sub (by omega)]
      exact r_176 hsp h hx (i := i - 1) (by omega) (fun _ => hn2 (by omega) hall _ _ _)
  | succ k ih =>
    intro i mr sr hi hall
    refine f_193_18 hE ⟨fun z => absurd z (nI_ge (by omega) (by omega)), fun _ => ⟨fun z => absurd z (by decide), fun _ => ⟨by decide, h.k, by decide, 0, 0, Nat.zero_le _, Nat.zero_le _, ?_⟩⟩⟩
    have mem : st.getD i 0 ∈ st := by rw [List.getD_eq_getElem?_getD, List.getElem?_eq_getElem (by omega)]; exact List.getElem_mem _
    refine r_176 hsp h hx (i := i) (by omega) (fun hB => f_193_33 hE ⟨by decide, h.k, by decide, 0, 0, Nat.zero_le _, Nat.zero_le _, r_135 hsp h hx (hx.2.1 _ mem) hB (f_193_36 hE ?_)⟩)
    unfold q_193_36
    rw [nI_1]
    by_cases z : xNum e.H (st.getD i 0) = none
    · rw [if_pos z]
      exact ⟨fun _ => r_193_b hsp hin h (hb ⟨i, by omega, z⟩) hQ k (i + 1) _ _ (by omega), fun w => absurd rfl w⟩
    · rw [if_neg z]
      refine ⟨fun w => absurd w (by decide), fun _ => ih (i + 1) _ _ (by omega) (fun j hj => ?_)⟩
      by_cases w : j = i
      · rw [w]; exact z
      · exact hall j (by omega)
set_option maxHeartbeats 1000000 in
theorem r_193 (hsp : ox_mono sp) (hin : rIn C nc K e st (a + 1)) (h : rE S m ce γ B T C nc y e q st) (hT : T + 19 ≤ 1100000) (hQ : ∀ S', mFx m S S' → S'.R = S.R → rX S' m ce T C nc y e q st (xRg e q a st) → Q none S') : ox_M sp (d + 3) 193 [.inr (.inr m), .inl (nI a)] mr sr S Q := by
  have hE : ox_mono (ox_M sp (d + 2)) := ox_M_mono hsp _
  have hx := hin.1
  have al : a + 1 ≤ st.length := by have := hin.2.2; omega
  have s10 := hin.1.2.2.1
  have p0 : plZ 0 = 0 := by decide
  have p1 : plZ 1 = 1 := by decide
  have fit1 : xFit 1 = true := by decide
  have fit0 : xFit 0 = true := by decide
  have inB : ∀ i, i < st.length → xIn B (st.getD i 0) := fun i hi => h.in.1 _ (by rw [List.getD_eq_getElem?_getD, List.getElem?_eq_getElem hi]; exact List.getElem_mem hi)
  have nn : ∀ i, xNum e.H (st.getD i 0) ≠ none → ∃ N, xNum e.H (st.getD i 0) = some N := fun i hi => by
    cases z : xNum e.H (st.getD i 0) with
    | none => exact absurd z hi
    | some N => exact ⟨N, rfl⟩
  have hb : (∃ j, j < a ∧ xNum e.H (st.getD j 0) = none) → xRg e q a st = .inl 0 := fun ⟨j, hj, z⟩ => xRg_bad (by omega) hj z
  have t0 : st.take 0 = [] := rfl
  refine f_193 hsp ⟨fun z => ?_, fun z => ⟨fun z3 => ?_, fun z3 => ?_⟩⟩
  · have a0 : a = 0 := by have := (nI_ltI (b := 1) (by omega) (by decide)).mp z; omega
    refine r_193_b hsp hin h ?_ hQ a 0 mr sr (by omega)
    rw [a0]; rfl
  · have a3 : 3 < a := (nI_ltI (a := 3) (by decide) (by omega)).mp z3
    refine r_193_b hsp hin h ?_ hQ a 0 mr sr (by omega)
    unfold xRg; rw [if_pos a3]
  · have a1 : 1 ≤ a := Nat.not_lt.mp fun w => z (nI_lt (b := 1) w (by decide))
    have a3 : a ≤ 3 := Nat.not_lt.mp fun w => z3 (nI_lt (a := 3) w (by omega))
    refine r_193_l hsp hin h hb hQ a1 (fun e1 hall mr sr => ?_) (fun e1 hall mr sr x3 => ?_) a 0 mr sr (by omega) (fun j hj => absurd hj (Nat.not_lt_zero _))
    · subst e1
      obtain ⟨N0, n0⟩ := nn 0 (hall 0 (by decide))
      have ex : xRg e q 1 st = if [N0].all xFit = true then xMk e q (st.drop 2) (.inr (.inr (.inl (0, N0, 1)))) else .inl 6 := by
        match st, al, n0 with
        | s0 :: r, _, n0 =>
          have n0' : xNum e.H s0 = some N0 := n0
          have : xNums e.H ((s0 :: r).take 1) = some [N0] := by
            show xNums e.H [s0] = some [N0]
            simp only [xNums, n0']
          unfold xRg
          rw [if_neg (by decide), this]
          rfl
      have al1 : [N0].all xFit = true ↔ xFit N0 = true := by simp
      refine f_193_107 hE ⟨by decide, h.k, by decide, 0, 0, Nat.zero_le _, Nat.zero_le _, r_149 hsp h hx (inB 0 (by omega)) n0 (f_193_110 hE ⟨fun _ => ?_, fun w => absurd (show nI 1 ≤ 2 by decide) w⟩)⟩
      have := r_193_t (d := d) (mr := mr - 0 - 0) (sr := sr - 0 - 0) hsp hin h hT (A := 0) (B' := N0) (D := 1) (o := xRg e q 1 st) (fun w => by rw [ex, if_neg (fun w2 => w ⟨fit0, al1.mp w2, fit1⟩)]) (fun _ w => absurd w (by decide)) (fun w _ => by rw [ex, if_pos (al1.mpr w.2.1)]) hQ
      rw [p0, p1] at this
      exact this
    · obtain ⟨N0, n0⟩ := nn 0 (hall 0 (by omega))
      obtain ⟨N1, n1⟩ := nn 1 (hall 1 (by omega))
      have a23 : a = 2 ∨ a = 3 := by omega
      rcases a23 with e2 | e2
      · subst e2
        have ex : xRg e q 2 st = if [N0, N1].all xFit = true then xMk e q (st.drop 3) (.inr (.inr (.inl (N1, N0, 1)))) else .inl 6 := by
          match st, al, n0, n1 with
          | s0 :: s1 :: r, _, n0, n1 =>
            have n0' : xNum e.H s0 = some N0 := n0
            have n1' : xNum e.H s1 = some N1 := n1
            have : xNums e.H ((s0 :: s1 :: r).take 2) = some [N0, N1] := by
              show xNums e.H [s0, s1] = some [N0, N1]
              simp only [xNums, n0', n1']
            unfold xRg
            rw [if_neg (by decide), this]
            rfl
        have al1 : [N0, N1].all xFit = true ↔ xFit N0 = true ∧ xFit N1 = true := by simp
        refine f_193_74 hE ⟨by decide, h.k, by decide, 0, 0, Nat.zero_le _, Nat.zero_le _, r_149 hsp h hx (inB 1 (by omega)) n1 (f_193_77 hE ⟨fun w => absurd w (show ¬ nI 2 ≤ 1 by decide), fun _ => ⟨by decide, h.k, by decide, 0, 0, Nat.zero_le _, Nat.zero_le _, ?_⟩⟩)⟩
        show ox_M sp (d + 2) 176 [.inr (.inr m), .inl (nI 0)] 0 0 S _
        refine r_176 hsp h hx (i := 0) (by omega) (fun _ => f_193_95 hE ⟨by decide, h.k, by decide, 0, 0, Nat.zero_le _, Nat.zero_le _, r_149 hsp h hx (inB 0 (by omega)) n0 (f_193_98 hE (f_193_110 hE ⟨fun _ => ?_, fun w => absurd (show nI 2 ≤ 2 by decide) w⟩))⟩)
        have := r_193_t (d := d) (mr := mr - 0 - 0 - 0 - 0) (sr := sr - 0 - 0 - 0 - 0) hsp hin h hT (A := N1) (B' := N0) (D := 1) (o := xRg e q 2 st) (fun w => by rw [ex, if_neg (fun w2 => w ⟨(al1.mp w2).2, (al1.mp w2).1, fit1⟩)]) (fun _ w => absurd w (by decide)) (fun w _ => by rw [ex, if_pos (al1.mpr ⟨w.2.1, w.1⟩)]) hQ
        rw [p1] at this
        exact this
      · subst e2
        obtain ⟨N2, n2⟩ := nn 2 (hall 2 (by omega))
        have ex : xRg e q 3 st = if [N0, N1, N2].all xFit = true then (if N0 = 0 then .inl 3 else xMk e q (st.drop 4) (.inr (.inr (.inl (N2, N1, N0))))) else .inl 6 := by
          match st, al, n0, n1, n2 with
          | s0 :: s1 :: s2 :: r, _, n0, n1, n2 =>
            have n0' : xNum e.H s0 = some N0 := n0
            have n1' : xNum e.H s1 = some N1 := n1
            have n2' : xNum e.H s2 = some N2 := n2
            have : xNums e.H ((s0 :: s1 :: s2 :: r).take 3) = some [N0, N1, N2] := by
              show xNums e.H [s0, s1, s2] = some [N0, N1, N2]
              simp only [xNums, n0', n1', n2']
            unfold xRg
            rw [if_neg (by decide), this]
            rfl
        have al1 : [N0, N1, N2].all xFit = true ↔ xFit N0 = true ∧ xFit N1 = true ∧ xFit N2 = true := by simp
        refine f_193_74 hE ⟨by decide, h.k, by decide, 0, 0, Nat.zero_le _, Nat.zero_le _, r_149 hsp h hx (inB 2 (by omega)) n2 (f_193_77 hE ⟨fun w => absurd w (show ¬ nI 3 ≤ 1 by decide), fun _ => ⟨by decide, h.k, by decide, 0, 0, Nat.zero_le _, Nat.zero_le _, ?_⟩⟩)⟩
        show ox_M sp (d + 2) 176 [.inr (.inr m), .inl (nI 1)] 0 0 S _
        refine r_176 hsp h hx (i := 1) (by omega) (fun _ => f_193_95 hE ⟨by decide, h.k, by decide, 0, 0, Nat.zero_le _, Nat.zero_le _, r_149 hsp h hx (inB 1 (by omega)) n1 (f_193_98 hE (f_193_110 hE ⟨fun w => absurd w (show ¬ nI 3 ≤ 2 by decide), fun _ => ⟨by decide, h.k, by decide, 0, 0, Nat.zero_le _, Nat.zero_le _, ?_⟩⟩))⟩)
        show ox_M sp (d + 2) 176 [.inr (.inr m), .inl (nI 0)] 0 0 S _
        refine r_176 hsp h hx (i := 0) (by omega) (fun _ => f_193_123 hE ⟨by decide, h.k, by decide, 0, 0, Nat.zero_le _, Nat.zero_le _, r_149 hsp h hx (inB 0 (by omega)) n0 (f_193_126 hE ?_)⟩)
        exact r_193_t hsp hin h hT (A := N2) (B' := N1) (D := N0) (o := xRg e q 3 st) (fun w => by rw [ex, if_neg (fun w2 => w ⟨(al1.mp w2).2.2, (al1.mp w2).2.1, (al1.mp w2).1⟩)]) (fun w w0 => by rw [ex, if_pos (al1.mpr ⟨w.2.2, w.2.1, w.1⟩), if_pos w0]) (fun w w0 => by rw [ex, if_pos (al1.mpr ⟨w.2.2, w.2.1, w.1⟩), if_neg w0]) hQ
end RRg
