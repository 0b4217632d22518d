/-! the reference: CALL -/
section RCl
variable {sp : ox_E} {d mr sr : Nat} {S S' S2 : ox_St} {Q : ox_Q} {m ce a : Nat} {γ : Int → Nat} {B : List Int} {T : Nat} {C : Nat → xCd} {nc K y : Nat} {e : xEn} {q j i : Nat} {st r : List Int} {v u n : Int} {H : xHp} {o : xOb}
/-- a value that has no cells -/
theorem rE.eqk (h : rE S m ce γ B T C nc y e q st) (hx : xEs1 C nc K e st) (ok : xOk nc e.H v) (hB : xIn B v) {k : Int} (k0 : -1000 ≤ k) (k1 : k < 16) : gV γ v = Int32.ofInt k ↔ v = k := by
  by_cases z : v < 16
  · obtain ⟨lo, -, eg⟩ := h.lo hx ok z
    rw [eg]
    exact ofI_eq (by omega) (by omega) (by omega) (by omega)
  · obtain ⟨o, e1, h1, h2, eg⟩ := h.hi hB z
    have g16 := h1.1
    have sz := xSz_2 o
    refine ⟨fun w => ?_, fun w => by omega⟩
    rw [eg] at w
    have := congrArg Int32.toInt w
    rw [nI_toInt (by omega), Int32.toInt_ofInt_of_le (by omega) (by omega)] at this
    omega
theorem rFr.loc {f c : Nat} (h : rFr S m γ f (c, 0, [], xLc st a i, [])) : rFr (S.wI (m + 21) (8 * f + i) (gV γ (st.getD (a - 1 - i) 0))) m γ f (c, 0, [], xLc st a (i + 1), []) := by
  obtain ⟨f1, f2, f3, f4, f5, f6, f7⟩ := h
  have er : ∀ a' j, (S.wI (m + 21) (8 * f + i) (gV γ (st.getD (a - 1 - i) 0))).rI a' j = if a' = m + 21 ∧ j = 8 * f + i then gV γ (st.getD (a - 1 - i) 0) else S.rI a' j := fun a' j => or_wI_rI _ _ _ _ _ _
  generalize S.wI (m + 21) (8 * f + i) (gV γ (st.getD (a - 1 - i) 0)) = U at er ⊢
  have ne : ∀ a' j, a' ≠ m + 21 → U.rI a' j = S.rI a' j := fun a' j z => by rw [er, if_neg (fun y => z y.1)]
  refine ⟨(ne _ _ (by omega)).trans f1, (ne _ _ (by omega)).trans f2, (ne _ _ (by omega)).trans f3, (ne _ _ (by omega)).trans f4, trivial, fun j hj => ?_, trivial⟩
  have g' : (match xLc st a i j with
    | none => S.rI (m + 21) (8 * f + j) = -1000000
    | some v => S.rI (m + 21) (8 * f + j) = gV γ v) := f6 j hj
  show (match xLc st a (i + 1) j with
    | none => U.rI (m + 21) (8 * f + j) = -1000000
    | some v => U.rI (m + 21) (8 * f + j) = gV γ v)
  rw [er]
  unfold xLc at g' ⊢
  by_cases z : j = i
  · subst z
    rw [if_pos (Nat.lt_succ_self _), if_pos ⟨rfl, rfl⟩]
  · rw [if_neg (show ¬ (m + 21 = m + 21 ∧ 8 * f + j = 8 * f + i) from fun y => z (by have := y.2; omega))]
    by_cases y : j < i
    · rw [if_pos (by omega)]
      rw [if_pos y] at g'
      exact g'
    · rw [if_neg (by omega)]
      rw [if_neg y] at g'
      exact g'
theorem rCh.less {f g : Nat} (h : rCh m ce T f S S') (hg : g ≤ f) : rCh m ce T g S S' := ⟨h.1, h.2.1, h.2.2.1, h.2.2.2.1, h.2.2.2.2.1, h.2.2.2.2.2.1, fun k hk => h.2.2.2.2.2.2 k (by omega)⟩
set_option maxHeartbeats 1000000 in
theorem r_194_l {E : ox_E} (hE : ox_mono E) {c : Nat} (hin : rIn C nc K e st (a + 1)) (t6 : e.t.length < 7) (a4 : a ≤ 4) (h : rE S m ce γ B T C nc y e q st) {x2 : Int32} (hQ : ∀ S', mFx m S S' → S'.R = S.R → rR S' m ce γ B T C nc y (e.H, e.n, e.G, (c, 0, [], xLc st a a, []) :: (e.c, q, st.drop (a + 1), e.L, e.b) :: e.t, 1, -1, 0) → Q none S') : ∀ (k i mr sr : Nat) (U : ox_St), i + k = a → rCh m ce T (e.t.length + 1) S U → rFr U m γ (e.t.length + 1) (c, 0, [], xLc st a i, []) → c_194_111 E m (nI a) x2 (nI (e.t.length + 1)) (nI (10 * e.t.length + (st.length - a))) (nI i) U mr sr Q := by
  have hx := hin.1
  have al : a + 1 ≤ st.length := by have := hin.2.2; omega
  have s10 := hin.1.2.2.1
  have inB : ∀ i, i < st.length → xIn B (st.getD i 0) := fun i hi => h.in.1 _ (by rw [List.getD_eq_getElem?_getD, List.getElem?_eq_getElem hi]; exact List.getElem_mem hi)
  intro k
  induction k with
  | zero =>
    intro i mr sr U hi ch hf
    have hi' : i = a := hi
    subst hi'
    have hU : rE U m ce γ B T C nc y e q st := h.same hx (ch.less (by omega)) (ch.2.2.2.2.2.2 _ (Nat.lt_succ_self _))
    obtain ⟨b1, b2, b3⟩ := hU.ml.row (F := 100) (o := 18) (k := 15) (n := 8) (by decide)
    have k14 := hU.k
    obtain ⟨l1, l2⟩ := hU.low hx (i + 1)
    have sub : nI st.length - (nI i + 1) = nI (st.length - (i + 1)) := by rw [nI_1, pk_sub al]
    refine f_194_111 hE ⟨fun _ => ⟨by rw [k14]; rfl, by rw [b1, b2]; rfl, by rw [b1, b3, nI_pred]; exact vp_in_nI (by omega) (by decide), by rw [b1]; exact b2, by rw [b1, b3, nI_pred]; exact vp_in_nI (by omega) (by decide), ?_⟩, fun z => absurd (nI_le (Nat.le_refl _) (by omega)) z⟩
    rw [b1, nI_pred, nI_clamp (show e.t.length < 2 ^ 31 by omega), hU.ht, sub]
    have kp1 : rKp m (e.t.length + 1) U (U.wI (m + 18) e.t.length (nI (st.length - (i + 1)))) := ⟨fun o z1 z2 => by rw [or_wI_rI, if_neg (fun y => by have := y.2; omega)], fun j hj => by rw [or_wI_rI, if_neg (fun y => by have := y.1; omega)], fun j hj => by rw [or_wI_rI, if_neg (fun y => by have := y.1; omega)], fun j hj => by rw [or_wI_rI, or_wI_rI, if_neg (fun y => by have := y.1; omega), if_neg (fun y => by have := y.1; omega)]; exact ⟨rfl, rfl⟩⟩
    have hf1 := hf.next (γ' := γ) kp1 (Nat.zero_le _) (Nat.zero_le _) (fun _ _ => rfl)
    generalize U.wI (m + 18) e.t.length (nI (st.length - (i + 1))) = V at l1 l2 hf1 ⊢
    have kV := l2.k
    refine ⟨by rw [kV]; rfl, by rw [kV]; rfl, ?_⟩
    rw [l2.f92, nI_1]
    have fx : mFx m V (V.sI 92 m (nI (e.t.length + 2))) := mFx.refl.sI
    have eI : ∀ F, F ≠ 92 → (V.sI 92 m (nI (e.t.length + 2))).I F m = V.I F m := fun F hF => by rw [or_sI_I, if_neg (fun z => hF z.1)]
    have e92 : (V.sI 92 m (nI (e.t.length + 2))).I 92 m = nI (e.t.length + 2) := by rw [or_sI_I, if_pos ⟨rfl, rfl⟩]
    have eR : (V.sI 92 m (nI (e.t.length + 2))).R = V.R := or_sI_R _ _ _ _
    have er : (V.sI 92 m (nI (e.t.length + 2))).rI = V.rI := or_sI_rI _ _ _ _
    have eJ : (V.sI 92 m (nI (e.t.length + 2))).rJ = V.rJ := or_sI_rJ _ _ _ _
    show _ ∧ Q none (V.sI 92 m (nI (e.t.length + 2)))
    generalize V.sI 92 m (nI (e.t.length + 2)) = W at fx eI e92 eR er eJ ⊢
    obtain ⟨i1, i2, i3, i4, i5⟩ := l2.2.2.2.2.2.1
    have x7 := hx.1.2.2.2.2.2.2
    have x2 := hx.1.2.1
    refine ⟨rfl, hQ W (ch.1.trans (l1.1.trans fx)) (eR.trans (l1.2.1.trans ch.2.1)) ?_⟩
    refine rR.fld (s := (e.H, e.n, e.G, (e.c, q, st.drop (i + 1), e.L, e.b) :: e.t, 1, -1, 0)) (s' := (e.H, e.n, e.G, (c, 0, [], xLc st i i, []) :: (e.c, q, st.drop (i + 1), e.L, e.b) :: e.t, 1, -1, 0)) l2 fx eR er eJ (eI 75 (by decide)) (eI 106 (by decide)) rfl rfl ⟨hf1, l2.2.2.2.1⟩ (fun g hg => ?_) e92 ((eI 93 (by decide)).trans i2) ((eI 94 (by decide)).trans i3) ((eI 95 (by decide)).trans i4) ((eI 97 (by decide)).trans i5) l2.2.2.2.2.2.2.2.1 (fun g hg => ?_)
    · rcases List.mem_cons.mp hg with z | z
      · rw [z]; exact ⟨Nat.zero_le _, Nat.zero_le _⟩
      · rcases List.mem_cons.mp z with z | z
        · rw [z]; exact ⟨(hx.drop (i + 1)).2.2.1, hx.2.2.2⟩
        · exact xFOk.r10 x2 (p := g.2.1) (x7 g z)
    · rcases List.mem_cons.mp hg with z | z
      · rw [z]
        refine ⟨fun v hv => (by cases hv), fun j v hv => ?_⟩
        have hv' : (if j < i then some (st.getD (i - 1 - j) 0) else none) = some v := hv
        by_cases w : j < i
        · rw [if_pos w] at hv'
          cases hv'
          exact inB _ (by omega)
        · rw [if_neg w] at hv'
          cases hv'
      · exact l2.2.2.2.2.2.2.2.2 g z
  | succ k ih =>
    intro i mr sr U hi ch hf
    have hU : rE U m ce γ B T C nc y e q st := h.same hx (ch.less (by omega)) (ch.2.2.2.2.2.2 _ (Nat.lt_succ_self _))
    obtain ⟨a1, a2, a3⟩ := hU.ml.row (F := 102) (o := 20) (k := 15) (n := 80) (by decide)
    obtain ⟨b1, b2, b3⟩ := hU.ml.row (F := 103) (o := 21) (k := 15) (n := 64) (by decide)
    have k14 := hU.k
    have n1 : nI (10 * e.t.length + (st.length - a)) + nI i = nI (10 * e.t.length + (st.length - 1 - (a - 1 - i))) := by rw [nI_add]; exact congrArg nI (by omega)
    have n2 : (8 : Int32) * nI (e.t.length + 1) + nI i = nI (8 * (e.t.length + 1) + i) := by rw [show (8 : Int32) = nI 8 from rfl, pk_mul, nI_add]
    refine f_194_111 hE ⟨fun z => absurd z (nI_ge (by omega) (by omega)), fun _ => ⟨by rw [k14]; rfl, by rw [k14]; rfl, by rw [a1, a2]; rfl, by rw [a1, a3, n1]; exact vp_in_nI (by omega) (by decide), by rw [b1]; exact b2, by rw [b1, b3, n2]; exact vp_in_nI (by omega) (by decide), ?_⟩⟩
    rw [a1, b1, n1, n2, nI_clamp (show 10 * e.t.length + (st.length - 1 - (a - 1 - i)) < 2 ^ 31 by omega), nI_clamp (show 8 * (e.t.length + 1) + i < 2 ^ 31 by omega), rStk.at st (a - 1 - i) (by omega) hU.sk, nI_1]
    exact ih (i + 1) mr sr _ (by omega) (ch.wI h.c23 (Or.inr (Or.inr (Or.inl ⟨rfl, by omega⟩)))) hf.loc
set_option maxHeartbeats 1000000 in
theorem r_194 (hsp : ox_mono sp) (hin : rIn C nc K e st (a + 1)) (h : rE S m ce γ B T C nc y e q st) (hT : T + 19 ≤ 1100000) (hQ : ∀ S', mFx m S S' → S'.R = S.R → rX S' m ce T C nc y e q st (xCall C e q a (st.take a) (st.drop (a + 1)) (st.getD a 0)) → Q none S') : ox_M sp (d + 4) 194 [.inr (.inr m), .inl (nI a)] mr sr S Q := by
  have hE : ox_mono (ox_M sp (d + 3)) := ox_M_mono hsp _
  have hx := hin.1
  have k14 := h.k
  have t7 := hx.t7
  have al : a + 1 ≤ st.length := by have := hin.2.2; omega
  have s10 := hin.1.2.2.1
  have ok : xOk nc e.H (st.getD a 0) := hx.2.1 _ (by rw [List.getD_eq_getElem?_getD, List.getElem?_eq_getElem (by omega)]; exact List.getElem_mem _)
  refine f_194 hsp ⟨by decide, k14, by decide, 0, 0, Nat.zero_le _, Nat.zero_le _, r_176 hsp h hx (i := a) (by omega) (fun hB => ?_)⟩
  generalize ev : st.getD a 0 = v at ok hB hQ ⊢
  have v3 := h.eqk hx ok hB (k := 3) (by decide) (by decide)
  refine f_194_5 hE ⟨fun z => ?_, fun z => ?_⟩
  · have n3 : ¬ v = 3 := fun w => z (v3.mpr w)
    have bad : xCall C e q a (st.take a) (st.drop (a + 1)) v = .inl 0 → ∀ x2 mr sr, ox_M sp (d + 3) 177 [.inr (.inr m), .inl 0] 0 0 S (k_194_51 (ox_M sp (d + 3)) m (nI a) x2 mr sr Q) := fun e0 x2 mr sr => by
      rw [e0] at hQ
      exact r_raise hsp (k := 0) (i := 0) (by decide) hin (Nat.zero_le _) h (fun S' g1 g2 g3 => f_194_51 hE ⟨rfl, hQ S' g1 g2 (rX_k g3)⟩)
    refine ⟨by decide, k14, by decide, 0, 0, Nat.zero_le _, Nat.zero_le _, r_133 hsp h hx ok hB (f_194_24 hE ?_)⟩
    by_cases v16 : v < 16
    · obtain ⟨-, e0, -⟩ := h.lo hx ok v16
      rw [if_pos v16]
      exact ⟨fun _ => ⟨by decide, k14, by decide, 0, 0, Nat.zero_le _, Nat.zero_le _, bad (by unfold xCall; rw [if_neg n3, e0]) _ _ _⟩, fun w => absurd w (by decide)⟩
    · obtain ⟨o, e1, r1, r2, eg⟩ := h.hi hB v16
      rw [if_neg v16, xTg_o (by omega) e1]
      match o, e1, r1, r2 with
      | .inl _, e1, _, _ => exact ⟨fun _ => ⟨by decide, k14, by decide, 0, 0, Nat.zero_le _, Nat.zero_le _, bad (by unfold xCall; rw [if_neg n3, e1]) _ _ _⟩, fun z => absurd z (show ¬ Int32.ofInt 3 = 7 by decide)⟩
      | .inr (.inl _), e1, _, _ => exact ⟨fun _ => ⟨by decide, k14, by decide, 0, 0, Nat.zero_le _, Nat.zero_le _, bad (by unfold xCall; rw [if_neg n3, e1]) _ _ _⟩, fun z => absurd z (show ¬ Int32.ofInt 4 = 7 by decide)⟩
      | .inr (.inr (.inl _)), e1, _, _ => exact ⟨fun _ => ⟨by decide, k14, by decide, 0, 0, Nat.zero_le _, Nat.zero_le _, bad (by unfold xCall; rw [if_neg n3, e1]) _ _ _⟩, fun z => absurd z (show ¬ Int32.ofInt 5 = 7 by decide)⟩
      | .inr (.inr (.inr (.inl _))), e1, _, _ => exact ⟨fun _ => ⟨by decide, k14, by decide, 0, 0, Nat.zero_le _, Nat.zero_le _, bad (by unfold xCall; rw [if_neg n3, e1]) _ _ _⟩, fun z => absurd z (show ¬ Int32.ofInt 6 = 7 by decide)⟩
      | .inr (.inr (.inr (.inr k))), e1, ⟨r0, r1⟩, r2 =>
        have sz : xSz (.inr (.inr (.inr (.inr k)))) = 2 := rfl
        have hk : k < nc := (hx.1.1.2 v _ e1).2.2
        have nc3 : nc ≤ 300 := h.2.2.1.1
        obtain ⟨g, k', w, sh, -⟩ := h.2.2.1.2 k hk
        have A1 : S.rI (m + 4) k = nI (cdA (C k).1) := sh.1.1
        have A4 : cdA (C k).1 ≤ 4 := (hx.1.2.1 k hk).1.1
        obtain ⟨c1, c2, c3⟩ := h.ml.cells
        obtain ⟨a1, a2, a3⟩ := h.ml.row (F := 77) (o := 4) (k := 15) (n := 300) (by decide)
        obtain ⟨b1, b2, b3⟩ := h.ml.row (F := 100) (o := 18) (k := 15) (n := 8) (by decide)
        have n1 : nI (γ v) + 1 = nI (γ v + 1) := nI_1 _
        have r1' : S.rI (m + ce) (γ v + 1) = nI k := r1.2
        refine ⟨fun z => absurd (show Int32.ofInt 7 = 7 by decide) z, fun _ => ?_⟩
        rw [eg, c1, c2, c3, a1, a2, a3, k14, n1, nI_clamp (show γ v + 1 < 2 ^ 31 by omega), r1', nI_clamp (show k < 2 ^ 31 by omega), A1, h.f92]
        have ex : xCall C e q a (st.take a) (st.drop (a + 1)) v = if cdA (C k).1 = a then (if e.t.length = 7 then .inl 5 else .inr (e.H, e.n, e.G, (k, 0, [], (fun i => (st.take a).reverse[i]?), []) :: (e.c, q, st.drop (a + 1), e.L, e.b) :: e.t, none)) else .inl 0 := by unfold xCall; rw [if_neg n3, e1]
        refine ⟨rfl, rfl, rfl, vp_in_nI (by omega) (by decide), rfl, vp_in_nI (by omega) (by decide), fun z => ?_, fun z => ⟨by decide, rfl, by decide, 0, 0, Nat.zero_le _, Nat.zero_le _, bad (by rw [ex, if_neg (fun w => z (by rw [w]))]) _ _ _⟩⟩
        have za : cdA (C k).1 = a := (nI_eq (by omega) (by omega)).mp z
        rw [if_pos za] at ex
        refine ⟨rfl, fun z7 => ?_, fun z7 => ⟨by decide, rfl, by decide, 0, 0, Nat.zero_le _, Nat.zero_le _, ?_⟩⟩
        · have t6 : e.t.length < 7 := by
            rcases Nat.lt_or_ge e.t.length 7 with w | w
            · exact w
            · exact absurd (show nI (e.t.length + 1) = 8 by rw [show e.t.length = 7 by omega]; rfl) z7
          rw [if_neg (by omega)] at ex
          refine ⟨rfl, ?_⟩
          intro w3
          have ew : w3 = nI (e.t.length + 1) := rfl
          clear_value w3
          subst ew
          rw [nI_pred, b1, b2, b3, nI_clamp (show e.t.length < 2 ^ 31 by omega), h.ht]
          have n4 : (10 : Int32) * nI e.t.length + nI st.length - nI a = nI (10 * e.t.length + (st.length - a)) := by
            rw [show (10 : Int32) = nI 10 from rfl, pk_mul, nI_add, pk_sub (by omega)]
            exact congrArg nI (by omega)
          rw [n4]
          refine ⟨rfl, rfl, vp_in_nI (by omega) (by decide), ?_⟩
          intro w4
          have ew : w4 = nI (10 * e.t.length + (st.length - a)) := rfl
          clear_value w4
          subst ew
          refine ⟨rfl, rfl, vp_in_nI (by omega) (by decide), by decide, rfl, by decide, 0, 0, Nat.zero_le _, Nat.zero_le _, ?_⟩
          rw [ex] at hQ
          refine r_172 (ce := ce) (T := T) (γ := γ) hsp h.ml (by omega) (fun U ch hf => f_194_108 hE ?_)
          show c_194_111 (ox_M sp (d + 3)) m (nI a) (nI (γ v)) (nI (e.t.length + 1)) (nI (10 * e.t.length + (st.length - a))) (nI 0) U _ _ Q
          refine r_194_l hE (c := k) hin t6 (by omega) h (fun S' g1 g2 g3 => hQ S' g1 g2 ⟨γ, B, T, Nat.le_add_right _ _, ?_⟩) a 0 _ _ U (by omega) ch (by rw [show xLc st a 0 = fun _ => none from funext fun j => if_neg (Nat.not_lt_zero _)]; exact hf)
          rw [xLc_all (by omega)] at g3
          exact g3
        · have t7' : e.t.length = 7 := by
            have := (nI_eq (b := 8) (by omega) (by decide)).mp z7
            omega
          rw [if_pos t7'] at ex
          rw [ex] at hQ
          exact r_raise hsp (k := 5) (i := 0) (by decide) hin (Nat.zero_le _) h (fun S' g1 g2 g3 => f_194_68 hE ⟨rfl, hQ S' g1 g2 (rX_k g3)⟩)
  · have z' := v3.mp z
    have ex : xCall C e q a (st.take a) (st.drop (a + 1)) v = xRg e q a st := by unfold xCall xRg; rw [if_pos z']; rfl
    rw [ex] at hQ
    exact ⟨by decide, k14, by decide, 0, 0, Nat.zero_le _, Nat.zero_le _, r_193 hsp hin h hT (fun S' g1 g2 g3 => f_194_16 hE ⟨rfl, hQ S' g1 g2 g3⟩)⟩
end RCl
