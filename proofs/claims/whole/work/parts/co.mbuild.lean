/-! the reference: BUILD_TUPLE -/
section RBd
variable {sp : ox_E} {d mr sr : Nat} {S S' S2 : ox_St} {Q : ox_Q} {m ce a : Nat} {γ : Int → Nat} {B : List Int} {T : Nat} {C : Nat → xCd} {nc K y : Nat} {e : xEn} {q j i : Nat} {st r : List Int} {v u n : Int} {H : xHp} {o : xOb}
theorem rev_getD (ha : a ≤ st.length) (hj : j < a) : (st.take a).reverse.getD j 0 = st.getD (a - 1 - j) 0 := by
  have := congrFun (xLc_all (st := st) ha) j
  unfold xLc at this
  rw [if_pos hj] at this
  rw [List.getD_eq_getElem?_getD, ← this]
  rfl
theorem r_196_2 (hsp : ox_mono sp) (hin : rIn C nc K e st a) (h : rE S m ce γ B T C nc y e q st) (hE : ox_mono (ox_M sp (d + 1))) (hQ : ∀ S' mr sr, mFx m S S' → S'.R = S.R → rE S' m ce γ B T C nc y e q st → (∀ j, j < a → S'.rI (m + 34) j = gV γ ((st.take a).reverse.getD j 0)) → c_196_32 (ox_M sp (d + 1)) m (nI a) (nI 0) (nI 0) S' mr sr Q) : ∀ (k i mr sr : Nat) (U : ox_St), i + k = a → rE U m ce γ B T C nc y e q st → mFx m S U → U.R = S.R → (∀ j, j < i → U.rI (m + 34) j = gV γ ((st.take a).reverse.getD j 0)) → c_196_2 (ox_M sp (d + 1)) m (nI a) (nI i) U mr sr Q := by
  have hx := hin.1
  have al : a ≤ st.length := by have := hin.2.2; omega
  have s10 := hin.1.2.2.1
  intro k
  induction k with
  | zero =>
    intro i mr sr U hi hU fx eR hr
    have hi' : i = a := hi
    subst hi'
    exact f_196_2 hE ⟨fun _ => hQ U mr sr fx eR hU hr, fun z => absurd (nI_le (Nat.le_refl _) (by omega)) z⟩
  | succ k ih =>
    intro i mr sr U hi hU fx eR hr
    obtain ⟨P1, P2, P3⟩ := hU.ml.row (F := 130) (o := 34) (k := 15) (n := 900) (by decide)
    have n1 : nI a - 1 - nI i = nI (a - 1 - i) := by rw [show (1 : Int32) = nI 1 from rfl, pk_sub (by omega), pk_sub (by omega)]
    refine f_196_2 hE ⟨fun z => absurd z (nI_ge (by omega) (by omega)), fun _ => ⟨by rw [hU.k]; rfl, by decide, hU.k, by decide, 0, 0, Nat.zero_le _, Nat.zero_le _, ?_⟩⟩
    rw [n1, P1]
    refine r_176 hsp hU hx (i := a - 1 - i) (by omega) (fun _ => f_196_21 hE ⟨P2, by rw [P3]; exact vp_in_nI (by omega) (by decide), ?_⟩)
    rw [nI_clamp (show i < 2 ^ 31 by omega), nI_1]
    obtain ⟨q1, q2, q3⟩ := hU.wO hx (i := i) (k := 34) (w := gV γ (st.getD (a - 1 - i) 0)) ⟨by omega, by omega⟩
    refine ih (i + 1) _ _ _ (by omega) q1 (fx.trans q2) (q3.trans eR) (fun j hj => ?_)
    by_cases z : j = i
    · subst z; rw [or_wI_rI, if_pos ⟨rfl, rfl⟩, rev_getD al (by omega)]
    · rw [or_wI_rI, if_neg (fun y => z y.2)]; exact hr j (by omega)
set_option maxHeartbeats 1000000 in
theorem r_196_32 (hsp : ox_mono sp) (hin : rIn C nc K e st a) (h : rE S m ce γ B T C nc y e q st) (hT : T + 19 ≤ 1100000) (hlt : (st.drop a).length < 10) (hr : ∀ j, j < a → S.rI (m + 34) j = gV γ ((st.take a).reverse.getD j 0)) (hQ : ∀ S', mFx m S S' → S'.R = S.R → rX S' m ce T C nc y e q st (xTp e q (st.take a) (st.drop a)) → Q none S') : ∀ (k i mr sr : Nat), i + k = a → c_196_32 (ox_M sp (d + 4)) m (nI a) (nI (mxD (fun j => xDep e.H ((st.take a).reverse.getD j 0)) i)) (nI i) S mr sr Q := by
  have hE : ox_mono (ox_M sp (d + 4)) := ox_M_mono hsp _
  have hx := hin.1
  have k14 := h.k
  have t7 := hx.t7
  have al : a ≤ st.length := by have := hin.2.2; omega
  have s10 := hin.1.2.2.1
  have tl : (st.take a).reverse.length = a := by rw [List.length_reverse, List.length_take]; omega
  have memL : ∀ z ∈ (st.take a).reverse, z ∈ st := fun z hz => List.mem_of_mem_take (List.mem_reverse.mp hz)
  have okL : ∀ z ∈ (st.take a).reverse, xOk nc e.H z := fun z hz => hx.2.1 z (memL z hz)
  have inL : ∀ z ∈ (st.take a).reverse, xIn B z := fun z hz => h.in.1 z (memL z hz)
  have memj : ∀ j, j < a → (st.take a).reverse.getD j 0 ∈ (st.take a).reverse := fun j hj => by rw [List.getD_eq_getElem?_getD, List.getElem?_eq_getElem (by omega)]; exact List.getElem_mem _
  obtain ⟨P1, P2, P3⟩ := h.ml.row (F := 130) (o := 34) (k := 15) (n := 900) (by decide)
  have dj : ∀ j, j < a → mDeep S m ce (gV γ ((st.take a).reverse.getD j 0)) (xDep e.H ((st.take a).reverse.getD j 0)) := fun j hj => h.deep hx (okL _ (memj j hj)) (inL _ (memj j hj))
  have mx : mxD (fun j => xDep e.H ((st.take a).reverse.getD j 0)) a = xMax e.H (st.take a) := by
    have := mxD_max (H := e.H) (st.take a).reverse
    rw [tl, xMax_reverse] at this
    exact this
  have mx4 : xMax e.H (st.take a) ≤ 4 := xMax_le hx.1.1 _
  intro k
  induction k with
  | zero =>
    intro i mr sr hi
    have hi' : i = a := hi
    subst hi'
    obtain ⟨b1, b2, b3⟩ := h.ml.row (F := 100) (o := 18) (k := 15) (n := 8) (by decide)
    obtain ⟨c1, c2⟩ := h.low hx i
    have sub : nI st.length - nI i = nI (st.length - i) := pk_sub al
    rw [mx]
    refine f_196_32 hE ⟨fun _ => ?_, fun z => absurd (nI_le (Nat.le_refl _) (by omega)) z⟩
    rw [h.f92, nI_pred, k14, b1, b2, b3, nI_clamp (show e.t.length < 2 ^ 31 by omega), h.ht, sub]
    refine ⟨rfl, rfl, rfl, vp_in_nI (by omega) (by decide), rfl, vp_in_nI (by omega) (by decide), ?_⟩
    have er34 : (S.wI (m + 18) e.t.length (nI (st.length - i))).rI (m + 34) = S.rI (m + 34) := funext fun j => by rw [or_wI_rI, if_neg (fun y => by have := y.1; omega)]
    generalize S.wI (m + 18) e.t.length (nI (st.length - i)) = U at c1 c2 er34 ⊢
    have hxd := hx.drop i
    refine ⟨fun z => ⟨by decide, c2.k, by decide, 0, 0, Nat.zero_le _, Nat.zero_le _, ?_⟩, fun z => ⟨by decide, c2.k, by decide, 0, 0, Nat.zero_le _, Nat.zero_le _, ?_⟩⟩
    · have n4 : ¬ xMax e.H (st.take i) = 4 := fun w => z (by rw [w]; rfl)
      have ex : xTp e q (st.take i) (st.drop i) = xMk e q (st.drop i) (.inr (.inl ((st.take i).reverse, xMax e.H (st.take i).reverse + 1))) := by unfold xTp; rw [if_neg n4, xMax_reverse]
      rw [ex] at hQ
      have lL : nI i = nI (st.take i).reverse.length := by rw [tl]
      rw [lL]
      show ox_M sp (d + 4) 157 [.inr (.inr m), .inl (nI (st.take i).reverse.length), .inl (nI 0)] 0 0 U _
      refine s_157 hsp c2.ml (b := 0) (W := fun j => gV γ ((st.take i).reverse.getD j 0)) (D := fun j => xDep e.H ((st.take i).reverse.getD j 0)) c2.2.1.2 (by omega) (by omega) (fun j hj => ?_) (fun U2 n1 n2 n3 => ?_)
      · exact ⟨by rw [Nat.zero_add, er34]; exact hr j (by omega), c2.deep hxd (okL _ (memj j (by omega))) (inL _ (memj j (by omega)))⟩
      · rw [← lL]
        refine f_196_108 hE ⟨by decide, by rw [n1.1]; exact c2.k, by decide, 0, 0, Nat.zero_le _, Nat.zero_le _, ?_⟩
        rw [mxD_max] at n3
        obtain ⟨m1, m2, m3⟩ := c2.tup1 hxd n1 n2 n3 inL (by omega)
        have eg : gV (upA γ e.n T) e.n = nI T := by
          unfold gV
          rw [if_neg (by have := hx.1.1.1; omega), show upA γ e.n T e.n = T from if_pos rfl]
        have sz : xSz (.inr (.inl ((st.take i).reverse, xMax e.H (st.take i).reverse + 1))) = 3 + (st.take i).reverse.length := rfl
        have dep : xMax e.H (st.take i).reverse + 1 ≤ 4 := by rw [xMax_reverse]; omega
        have i10 : T + xSz (.inr (.inl ((st.take i).reverse, xMax e.H (st.take i).reverse + 1))) ≤ T + 19 := by rw [sz]; omega
        rw [← eg]
        exact r_give (o := .inr (.inl ((st.take i).reverse, xMax e.H (st.take i).reverse + 1))) (st := st) hsp hxd hlt ⟨by show (st.take i).reverse.length ≤ 12; omega, rfl, dep, okL⟩ i10 m1 (fun S' b1 b2 b3 => f_196_111 hE ⟨rfl, hQ S' (c1.1.trans (m2.trans b1)) (b2.trans (m3.trans c1.2.1)) b3⟩)
    · have y4 : xMax e.H (st.take i) = 4 := (nI_eq (b := 4) (by omega) (by decide)).mp z
      have ex : xTp e q (st.take i) (st.drop i) = .inl 6 := by unfold xTp; rw [if_pos y4]
      rw [ex] at hQ
      exact r_raise hsp (k := 6) (i := i) (by decide) hin (Nat.le_refl _) c2 (fun S' g1 g2 g3 => f_196_98 hE (f_196_111 hE ⟨rfl, hQ S' (c1.1.trans g1) (g2.trans c1.2.1) (rX_k g3)⟩))
  | succ k ih =>
    intro i mr sr hi
    have dl' := (dj i (by omega)).2.2.2
    have mxl : mxD (fun j => xDep e.H ((st.take a).reverse.getD j 0)) i < 2 ^ 31 := mxD_lt (by decide) i (fun j hj => (dj j (by omega)).2.2.2)
    refine f_196_32 hE ⟨fun z => absurd z (nI_ge (by omega) (by omega)), fun _ => ⟨by rw [k14]; rfl, by rw [P1, P2]; rfl, by rw [P1, P3]; exact vp_in_nI (by omega) (by decide), by decide, k14, by decide, 0, 0, Nat.zero_le _, Nat.zero_le _, ?_⟩⟩
    rw [P1, nI_clamp (show i < 2 ^ 31 by omega), hr i (by omega)]
    refine s_137 hsp h.ml (dj i (by omega)) (f_196_47 hE ⟨fun z => ?_, fun z => ⟨by rw [k14]; rfl, by rw [P1, P2]; rfl, by rw [P1, P3]; exact vp_in_nI (by omega) (by decide), by decide, k14, by decide, 0, 0, Nat.zero_le _, Nat.zero_le _, ?_⟩⟩)
    · have := (nI_leI dl' mxl).mp z
      have ee : mxD (fun j => xDep e.H ((st.take a).reverse.getD j 0)) (i + 1) = mxD (fun j => xDep e.H ((st.take a).reverse.getD j 0)) i := by show max (mxD (fun j => xDep e.H ((st.take a).reverse.getD j 0)) i) (xDep e.H ((st.take a).reverse.getD i 0)) = _; omega
      rw [nI_1]
      have g := ih (i + 1) (mr - 0) (sr - 0) (by omega)
      rw [ee] at g
      exact g
    · rw [P1, nI_clamp (show i < 2 ^ 31 by omega), hr i (by omega)]
      refine s_137 hsp h.ml (dj i (by omega)) (f_196_61 hE ?_)
      have nle : ¬ xDep e.H ((st.take a).reverse.getD i 0) ≤ mxD (fun j => xDep e.H ((st.take a).reverse.getD j 0)) i := fun y => z (nI_le y mxl)
      have ee : mxD (fun j => xDep e.H ((st.take a).reverse.getD j 0)) (i + 1) = xDep e.H ((st.take a).reverse.getD i 0) := by show max (mxD (fun j => xDep e.H ((st.take a).reverse.getD j 0)) i) (xDep e.H ((st.take a).reverse.getD i 0)) = _; omega
      show c_196_32 (ox_M sp (d + 4)) m (nI a) (nI (xDep e.H ((st.take a).reverse.getD i 0))) (nI i + 1) S _ _ Q
      rw [nI_1]
      have g := ih (i + 1) (mr - 0 - 0) (sr - 0 - 0) (by omega)
      rw [ee] at g
      exact g
theorem r_196 (hsp : ox_mono sp) (hin : rIn C nc K e st a) (h : rE S m ce γ B T C nc y e q st) (hT : T + 19 ≤ 1100000) (hlt : (st.drop a).length < 10) (hQ : ∀ S', mFx m S S' → S'.R = S.R → rX S' m ce T C nc y e q st (xTp e q (st.take a) (st.drop a)) → Q none S') : ox_M sp (d + 5) 196 [.inr (.inr m), .inl (nI a)] mr sr S Q := by
  have hE : ox_mono (ox_M sp (d + 4)) := ox_M_mono hsp _
  refine f_196 hsp ?_
  show c_196_2 (ox_M sp (d + 4)) m (nI a) (nI 0) S mr sr Q
  refine r_196_2 (d := d + 3) hsp hin h hE (fun S' mr sr fx eR hU hr => ?_) a 0 mr sr S (by omega) h mFx.refl rfl (fun j hj => absurd hj (Nat.not_lt_zero _))
  exact r_196_32 hsp hin hU hT hlt hr (fun S2 g1 g2 g3 => hQ S2 (fx.trans g1) (g2.trans eR) g3) a 0 mr sr (by omega)
end RBd
