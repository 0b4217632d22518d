/-! the class: CALL -/
theorem cI.clr {x : Nat} {W : Nat → Prop} {S : ox_St} {t : Nat} (ht : W t) : ∀ (k i : Nat) (S' : ox_St), cI x W S S' → cI x W S (oClr t i k S')
  | 0, _, _, h => h
  | k + 1, i, _, h => cI.clr ht k (i + 1) _ (h.wR (Or.inr ht))
section CCl
variable {sp : ox_E} {d mr sr : Nat} {S S0 S' T : ox_St} {Q : ox_Q} {x : Nat} {α : Int → Nat} {C : Nat → xCd} {nc K : Nat} {e : xEn} {q : Nat} {st r : List Int} {v u : Int} {a : Nat}
/-- a frame above all of them changes -/
theorem cR.abv {s : xSt} (h : cR S x α C nc s) {f : Nat} (hf : s.f.length ≤ f) (f7 : f ≤ 7) (hI : cI x (cWf x f) S S') : cR S' x α C nc s := by
  obtain ⟨b, hp, fs, g, m1, m2, m3, m4, m5⟩ := h
  have hn : x + 119 ≤ S.n := b.2.2.2.1
  have hZ := cWf_Z (x := x) f7
  have nW : ∀ a, x ≤ a → a < x + 24 → ¬ cWf x f a := fun a _ _ z => by unfold cWf at z; omega
  obtain ⟨a1, a2, -⟩ := hI.at (a := x + 11) (by omega) (nW _ (by omega) (by omega))
  exact ⟨b.next hI hZ, hp.next (K := 0) hI hZ, cFs.keep hn hI _ (by omega) (fun a z1 z2 z => by unfold cWf at z; omega) fs, g.keep hn hI (a1 _) (nW _ (by omega) (by omega)) (nW _ (by omega) (by omega)), (a1 _).trans m1, (a1 _).trans m2, (a1 _).trans m3, fun z => by rw [a2]; exact (m4 z).next hI rfl, fun z => by rw [a2]; exact m5 z⟩
/-- the new frame's locals -/
def xLc (st : List Int) (a i : Nat) : Nat → Option Int := fun j => if j < i then some (st.getD (a - 1 - j) 0) else none
theorem xLc_all {a : Nat} (ha : a ≤ st.length) : xLc st a a = fun i => (st.take a).reverse[i]? := by
  funext i
  unfold xLc
  have hl : (st.take a).length = a := by rw [List.length_take]; omega
  by_cases z : i < a
  · rw [if_pos z, List.getElem?_reverse (by omega), hl, List.getElem?_take, if_pos (by omega), List.getD_eq_getElem?_getD, List.getElem?_eq_getElem (by omega)]
    rfl
  · rw [if_neg z, List.getElem?_eq_none (by rw [List.length_reverse]; omega)]
theorem cFr.loc {f k i a b : Nat} {w : Int} (hn : x + 119 ≤ S.n) (f7 : f ≤ 7) (h : cFr S x α f (k, 0, [], xLc st a i, [])) (hw : st.getD (a - 1 - i) 0 = w) (hv : vC S x α w b) : cI x (cWf x f) S (S.wR (x + 28 + 5 * f + 1) i b) ∧ cFr (S.wR (x + 28 + 5 * f + 1) i b) x α f (k, 0, [], xLc st a (i + 1), []) := by
  have hI : cI x (cWf x f) S (S.wR (x + 28 + 5 * f + 1) i b) := cI.refl.wR (Or.inr (Or.inr ⟨by omega, by omega⟩))
  have hr : ∀ t j, (S.wR (x + 28 + 5 * f + 1) i b).rR t j = if t = x + 28 + 5 * f + 1 ∧ j = i then b else S.rR t j := fun t j => or_wR_rR _ _ _ _ _ _
  have eI : (S.wR (x + 28 + 5 * f + 1) i b).I = S.I := or_wR_I _ _ _ _
  have eR : (S.wR (x + 28 + 5 * f + 1) i b).R = S.R := or_wR_R _ _ _ _
  generalize S.wR (x + 28 + 5 * f + 1) i b = U at hI hr eI eR ⊢
  obtain ⟨f1, f2, f3, f4, f5, f6, f7'⟩ := h
  refine ⟨hI, by rw [eR]; exact f1, by rw [eI]; exact f2, by rw [eI]; exact f3, by rw [eI]; exact f4, trivial, fun j hj => ?_, trivial⟩
  have g' : (match xLc st a i j with
    | none => S.rR (x + 28 + 5 * f + 1) j = 0
    | some v => vC S x α v (S.rR (x + 28 + 5 * f + 1) j)) := f6 j hj
  show (match xLc st a (i + 1) j with
    | none => U.rR (x + 28 + 5 * f + 1) j = 0
    | some v => vC U x α v (U.rR (x + 28 + 5 * f + 1) j))
  rw [hr]
  unfold xLc at g' ⊢
  by_cases z : j = i
  · subst z
    rw [if_pos (Nat.lt_succ_self _), if_pos ⟨rfl, rfl⟩, hw]
    exact hv.next hI rfl
  · rw [if_neg (show ¬ (x + 28 + 5 * f + 1 = x + 28 + 5 * f + 1 ∧ j = i) from fun y => z y.2)]
    by_cases y : j < i
    · rw [if_pos (by omega)]
      rw [if_pos y] at g'
      exact vC.next g' hI rfl
    · rw [if_neg (by omega)]
      rw [if_neg y] at g'
      exact g'
theorem cE.cst (h : cE S x α C nc e q st) (hx : xEs1 C nc K e st) (hI : cI x (cWf x (e.t.length + 1)) S S') (t6 : e.t.length < 7) : cE S' x α C nc e q st := cR.abv (s := (e.H, e.n, e.G, (e.c, q, st, e.L, e.b) :: e.t, 1, -1, 0)) h (f := e.t.length + 1) (Nat.le_refl _) t6 hI
/-- enter's loop -/
theorem c_75_l (hsp : ox_mono sp) {k κ : Nat} (t6 : e.t.length < 7) (a4 : a ≤ 4) (ha : a + 1 ≤ st.length) (hx : xEs1 C nc K e st) (hQ : ∀ S', cN x S S' → cR S' x α C nc (e.H, e.n, e.G, (k, 0, [], xLc st a a, []) :: (e.c, q, st.drop (a + 1), e.L, e.b) :: e.t, 1, -1, 0) → Q (some (.inl (-1))) S') : ∀ (m i mr sr : Nat) (T : ox_St), i + m = a → cN x S T → cE T x α C nc e q st → cFr T x α (e.t.length + 1) (k, 0, [], xLc st a i, []) → c_75_41 (ox_M sp (d + 1)) (x + 11) (x + 28 + 5 * e.t.length) κ (nI a) (x + 28 + 5 * (e.t.length + 1)) (nI i) T mr sr Q := by
  have hE : ox_mono (ox_M sp (d + 1)) := ox_M_mono hsp _
  intro m
  induction m with
  | zero =>
    intro i mr sr T hi hN h hf
    have hi' : i = a := hi
    subst hi'
    have kF := (h.oF hx).1
    have hn := h.n
    refine f_75_41 hE ⟨fun _ => ⟨by decide, kF, by decide, 0, 0, Nat.zero_le _, Nat.zero_le _, ?_⟩, fun z => absurd (by simp) z⟩
    rw [nI_1]
    refine s_drop hsp kF ha hx.2.2.1 h.ht (f_75_77 hE ?_)
    obtain ⟨d1, d2⟩ := h.drop hx (i + 1)
    have hI1 : cI x (cWf x e.t.length) T (T.sI 20 (x + 28 + 5 * e.t.length) (nI (st.length - (i + 1)))) := cI.refl.sI (Or.inr ⟨cWf_F, by decide, by decide, by decide⟩)
    have hf1 := hf.next (α' := α) hI1 (by omega) (fun a z1 z2 z => by unfold cWf at z; omega) (fun _ _ => rfl)
    generalize T.sI 20 (x + 28 + 5 * e.t.length) (nI (st.length - (i + 1))) = U at d1 d2 hI1 hf1 ⊢
    have k7 := d2.k7
    have hnU := d2.n
    have m1 : U.I 35 (x + 11) = nI (e.t.length + 1) := d2.2.2.2.2.1
    refine ⟨by rw [k7]; rfl, by rw [k7]; rfl, ?_⟩
    rw [m1]
    intro S1
    have hI : cI x (cWm x) U S1 := cI.refl.sI (Or.inr ⟨rfl, by decide, by decide, by decide⟩)
    have eI : ∀ F, F ≠ 35 → S1.I F (x + 11) = U.I F (x + 11) := fun F hF => (or_sI_I _ _ _ _ _ _).trans (if_neg (fun z => hF z.1))
    have e35 : S1.I 35 (x + 11) = nI (e.t.length + 2) := ((or_sI_I _ _ _ _ _ _).trans (if_pos (And.intro rfl rfl))).trans (nI_1 _)
    have eR : S1.R = U.R := or_sI_R _ _ _ _
    generalize S1 = V at hI eI e35 eR ⊢
    obtain ⟨b0, hp0, f0, g0, q1, q2, q3, q4, q5⟩ := id d2
    refine ⟨trivial, hQ V (hN.trans (d1.trans (cWm_N hnU hI (by rw [eR]) (eI 39 (by decide))))) ?_⟩
    exact cR.fld (s := (e.H, e.n, e.G, (e.c, q, st.drop (i + 1), e.L, e.b) :: e.t, 1, -1, 0)) (s' := (e.H, e.n, e.G, (k, 0, [], xLc st i i, []) :: (e.c, q, st.drop (i + 1), e.L, e.b) :: e.t, 1, -1, 0)) d2 hI (eI 43 (by decide)) rfl rfl ⟨hf1, f0⟩ (by show e.t.length + 2 ≤ 8; omega) e35 ((eI 37 (by decide)).trans q2) ((eI 38 (by decide)).trans q3) (fun z => by cases z) (fun _ => by rw [eR]; exact q5 (show (1 : Nat) ≠ 2 by decide))
  | succ m ih =>
    intro i mr sr T hi hN h hf
    have kF := (h.oF hx).1
    have hn := h.n
    refine f_75_41 hE ⟨fun z => absurd z (nI_ge (by omega) (by omega)), fun _ => ⟨by decide, kF, by decide, 0, 0, Nat.zero_le _, Nat.zero_le _, ?_⟩⟩
    rw [show (1 : Int32) = nI 1 from rfl, pk_sub (by omega), pk_sub (by omega)]
    have hlt : a - 1 - i < st.length := by omega
    have ok : xOk nc e.H (st.getD (a - 1 - i) 0) := hx.2.1 _ (by
      rw [List.getD_eq_getElem?_getD, List.getElem?_eq_getElem hlt]
      exact List.getElem_mem _)
    refine c_fromTop hsp h hx hlt (fun hv => f_75_61 hE ?_)
    generalize T.rR (x + 28 + 5 * e.t.length + 2) (st.length - 1 - (a - 1 - i)) = b at hv ⊢
    have oF' : oF T (x + 28 + 5 * (e.t.length + 1)) := (h.1.1.fr (f := e.t.length + 1) (by omega)).1
    obtain ⟨l1, l2⟩ := hf.loc hn t6 rfl hv
    refine ⟨by decide, oF'.1, by decide, 0, 0, Nat.zero_le _, Nat.zero_le _, s_setLocal hsp oF' (i := i) (by omega) (hv.isV h hx ok) (f_75_64 hE ?_)⟩
    show c_75_41 (ox_M sp (d + 1)) (x + 11) (x + 28 + 5 * e.t.length) κ (nI a) (x + 28 + 5 * (e.t.length + 1)) (nI i + 1) _ _ _ Q
    rw [nI_1]
    exact ih (i + 1) _ _ _ (by omega) (hN.trans (l1.cN hn t6)) (h.cst hx l1 t6) l2
/-- enter -/
theorem c_75 (hsp : ox_mono sp) {k : Nat} (a4 : a ≤ 4) (ha : a + 1 ≤ st.length) (h : cE S x α C nc e q st) (hx : xEs1 C nc K e st) (hk : k < nc) (hQ : ∀ S' y, cN x S S' → cX S' x α C nc e q st (if cdA (C k).1 = a then (if e.t.length = 7 then .inl 5 else .inr (e.H, e.n, e.G, (k, 0, [], (fun i => (st.take a).reverse[i]?), []) :: (e.c, q, st.drop (a + 1), e.L, e.b) :: e.t, none)) else .inl 0) y → Q (some (.inl y)) S') : ox_M sp (d + 2) 75 [.inr (.inr (x + 11)), .inr (.inr (x + 28 + 5 * e.t.length)), .inr (.inr (α (-1 - (k : Int)))), .inl (nI a)] mr sr S Q := by
  have hE : ox_mono (ox_M sp (d + 1)) := ox_M_mono hsp _
  have k7 := h.k7
  have hn := h.n
  have t7 := hx.t7
  have hc := h.hp.2.1 k hk
  obtain ⟨g1, g2, g3, -⟩ := hc
  have c4 := (hx.1.2.1 k hk).1.1
  have m1 : S.I 35 (x + 11) = nI (e.t.length + 1) := h.2.2.2.2.1
  refine f_75 hsp ⟨by rw [g3.1]; rfl, fun z => ?_, fun z => ⟨trivial, ?_⟩⟩
  · rw [g3.2.1.1] at z
    have ea : cdA (C k).1 = a := ((nI_eq (by omega) (by omega)).mp z).symm
    rw [if_pos ea] at hQ
    refine ⟨by rw [k7]; rfl, fun y => ?_, fun y => ⟨trivial, ?_⟩⟩
    · rw [m1] at y
      have y' := (nI_ltI (b := 8) (by omega) (by decide)).mp y
      have t6 : e.t.length < 7 := by omega
      rw [if_neg (by omega)] at hQ
      have r34 : S.R 34 (x + 11) = x + 12 := h.1.1.ref (by decide)
      obtain ⟨k12, l12⟩ := h.1.1.row (o := 12) (k := 18) (n := 8) (by decide)
      obtain ⟨oF', fr'⟩ := h.1.1.fr (f := e.t.length + 1) (by omega)
      refine ⟨by rw [k7]; rfl, by rw [k7]; rfl, by rw [r34, k12]; rfl, by rw [r34, l12, m1]; exact vp_in_nI (by omega) (by decide), ?_⟩
      rw [r34, m1, nI_clamp (by omega), fr']
      refine ⟨by decide, oF'.1, by decide, 0, 0, Nat.zero_le _, Nat.zero_le _, s_begin hsp oF' (f_75_38 hE ?_)⟩
      have hI0 : cI x (cWf x (e.t.length + 1)) S ((((S.sR 18 (x + 28 + 5 * (e.t.length + 1)) (α (-1 - (k : Int)))).sI 19 (x + 28 + 5 * (e.t.length + 1)) 0).sI 20 (x + 28 + 5 * (e.t.length + 1)) 0).sI 21 (x + 28 + 5 * (e.t.length + 1)) 0) := (((cI.refl.sR (Or.inr ⟨cWf_F, Or.inl rfl⟩)).sI (Or.inr ⟨cWf_F, by decide, by decide, by decide⟩)).sI (Or.inr ⟨cWf_F, by decide, by decide, by decide⟩)).sI (Or.inr ⟨cWf_F, by decide, by decide, by decide⟩)
      have e18 : ((((S.sR 18 (x + 28 + 5 * (e.t.length + 1)) (α (-1 - (k : Int)))).sI 19 (x + 28 + 5 * (e.t.length + 1)) 0).sI 20 (x + 28 + 5 * (e.t.length + 1)) 0).sI 21 (x + 28 + 5 * (e.t.length + 1)) 0).R 18 (x + 28 + 5 * (e.t.length + 1)) = α (-1 - (k : Int)) := by rw [or_sI_R, or_sI_R, or_sI_R, or_sR_R, if_pos ⟨rfl, rfl⟩]
      have eI0 : ∀ F, F = 19 ∨ F = 20 ∨ F = 21 → ((((S.sR 18 (x + 28 + 5 * (e.t.length + 1)) (α (-1 - (k : Int)))).sI 19 (x + 28 + 5 * (e.t.length + 1)) 0).sI 20 (x + 28 + 5 * (e.t.length + 1)) 0).sI 21 (x + 28 + 5 * (e.t.length + 1)) 0).I F (x + 28 + 5 * (e.t.length + 1)) = nI 0 := fun F hF => by
        rw [or_sI_I, or_sI_I, or_sI_I]
        rcases hF with y | y | y
        · rw [if_neg (fun w => by have := w.1; omega), if_neg (fun w => by have := w.1; omega), if_pos ⟨y, rfl⟩]; rfl
        · rw [if_neg (fun w => by have := w.1; omega), if_pos ⟨y, rfl⟩]; rfl
        · rw [if_pos ⟨y, rfl⟩]; rfl
      generalize ((((S.sR 18 (x + 28 + 5 * (e.t.length + 1)) (α (-1 - (k : Int)))).sI 19 (x + 28 + 5 * (e.t.length + 1)) 0).sI 20 (x + 28 + 5 * (e.t.length + 1)) 0).sI 21 (x + 28 + 5 * (e.t.length + 1)) 0) = U at hI0 e18 eI0 ⊢
      have hI1 : cI x (cWf x (e.t.length + 1)) S (oClr (x + 28 + 5 * (e.t.length + 1) + 1) 0 8 U) := cI.clr (Or.inr ⟨by omega, by omega⟩) 8 0 U hI0
      have ag := oClr_ag (P := fun a => a ≠ x + 28 + 5 * (e.t.length + 1) + 1) (t := x + 28 + 5 * (e.t.length + 1) + 1) (fun z => z rfl) 8 0 U
      have row := oClr_row (t := x + 28 + 5 * (e.t.length + 1) + 1) 8 0 U
      generalize oClr (x + 28 + 5 * (e.t.length + 1) + 1) 0 8 U = V at hI1 ag row ⊢
      obtain ⟨-, -, v3, v4, -⟩ := ag (x + 28 + 5 * (e.t.length + 1)) (by omega)
      have hfr : cFr V x α (e.t.length + 1) (k, 0, [], xLc st a 0, []) := by
        refine ⟨(v4 18).trans e18, (v3 19).trans (eI0 19 (by omega)), (v3 20).trans (eI0 20 (by omega)), (v3 21).trans (eI0 21 (by omega)), trivial, fun j hj => ?_, trivial⟩
        show (match xLc st a 0 j with
          | none => V.rR (x + 28 + 5 * (e.t.length + 1) + 1) j = 0
          | some v => vC V x α v (V.rR (x + 28 + 5 * (e.t.length + 1) + 1) j))
        unfold xLc
        rw [if_neg (Nat.not_lt_zero _), row, if_pos (by omega)]
      show c_75_41 (ox_M sp (d + 1)) (x + 11) (x + 28 + 5 * e.t.length) (α (-1 - (k : Int))) (nI a) (x + 28 + 5 * (e.t.length + 1)) (nI 0) V _ _ Q
      refine c_75_l (S := S) (K := K) hsp t6 a4 ha hx (fun S' n1 n2 => hQ S' (-1) n1 ⟨rfl, ?_⟩) a 0 _ _ V (by omega) (hI1.cN hn t6) (h.cst hx hI1 t6) hfr
      rw [← xLc_all (by omega)]
      exact n2
    · have t7' : e.t.length = 7 := by
        have : ¬ e.t.length + 1 < 8 := fun w => y (by rw [m1]; exact nI_lt (b := 8) w (by decide))
        omega
      rw [if_pos t7'] at hQ
      exact hQ S 5 cN.refl ⟨rfl, h⟩
  · rw [g3.2.1.1] at z
    rw [if_neg (fun w => z (by rw [w]))] at hQ
    exact hQ S 0 cN.refl ⟨rfl, h⟩
/-- CALL -/
theorem c_74 (a4 : a ≤ 4) (ha : a + 1 ≤ st.length) (h : cE S x α C nc e q st) (hx : xEs1 C nc K e st) (hm : 2 ≤ mr) (hs : 20 ≤ sr) (hQ : ∀ S' α' y, cN x S S' → cX S' x α' C nc e q st (xCall C e q a (st.take a) (st.drop (a + 1)) (st.getD a 0)) y → Q (some (.inl y)) S') : ox_M lw_sp (d + 6) 74 [.inr (.inr (x + 11)), .inr (.inr (x + 28 + 5 * e.t.length)), .inl (nI a)] mr sr S Q := by
  have hsp := lw_sp_mono
  have hE : ox_mono (ox_M lw_sp (d + 5)) := ox_M_mono hsp _
  have k7 := h.k7
  have hH := hx.1.1
  have hlt : a < st.length := by omega
  have ok : xOk nc e.H (st.getD a 0) := hx.2.1 _ (by
    rw [List.getD_eq_getElem?_getD, List.getElem?_eq_getElem hlt]
    exact List.getElem_mem _)
  refine f_74 hsp ⟨by decide, (h.oF hx).1, by decide, 0, 0, Nat.zero_le _, Nat.zero_le _, c_fromTop hsp h hx hlt (fun hv => f_74_5 hE ?_)⟩
  generalize S.rR (x + 28 + 5 * e.t.length + 2) (st.length - 1 - a) = b at hv ⊢
  generalize st.getD a 0 = v at hQ ok hv
  obtain ⟨k1, k2, k3⟩ := h.kv hx hv ok
  unfold xCall at hQ
  refine ⟨Or.inr k3, fun z => ⟨(isV_has k3).1, fun y => ⟨trivial, ?_⟩, fun y => ⟨by decide, k7, by decide, 2, 20, hm, hs, ?_⟩⟩, fun z => ?_⟩
  · have n5 := if_10 z
    have v3 : v ≠ 3 := fun w => y (by rw [k2, w]; rfl)
    rw [if_neg v3] at hQ
    refine hQ S α 0 cN.refl ?_
    cases g : e.H v with
    | none => exact ⟨rfl, h⟩
    | some o =>
      match o, g with
      | .inl N, g => exact ⟨rfl, h⟩
      | .inr (.inl N), g => exact ⟨rfl, h⟩
      | .inr (.inr (.inl N)), g => exact ⟨rfl, h⟩
      | .inr (.inr (.inr (.inl N))), g => exact ⟨rfl, h⟩
      | .inr (.inr (.inr (.inr N))), g => exact absurd (k1.trans ((xKd_5 hH).mpr ⟨_, g⟩)) n5
  · have v3 : v = 3 := by
      rw [k2] at y
      have tg : 0 ≤ xTg e.H v ∧ xTg e.H v ≤ 10 := by
        unfold xTg
        repeat' split
        all_goals omega
      have y2 := congrArg Int32.toInt y
      rw [Int32.toInt_ofInt_of_le (by omega) (by omega)] at y2
      have y3 : xTg e.H v = 8 := y2
      unfold xTg at y3
      repeat' split at y3
      all_goals omega
    rw [if_pos v3] at hQ
    exact c_76 h hx a4 ha (Nat.le_refl _) (Nat.le_refl _) (fun S' α' y n1 n2 => f_74_46 hE ⟨trivial, hQ S' α' y n1 n2⟩)
  · have h5 := if_11 z
    obtain ⟨k, hk⟩ := (xKd_5 hH).mp (k1.symm.trans h5)
    have hv16 := (hH.2 v _ hk)
    have v3 : v ≠ 3 := by have := hv16.1; omega
    rw [if_neg v3, hk] at hQ
    have eb := hv.obj (by have := hv16.1; omega)
    obtain ⟨o1, o2, o3, o4, o5, o6⟩ := h.hp.1 v _ hk
    have hkn : k < nc := hv16.2.2
    refine ⟨Or.inr (by rw [h5]; rfl), by rw [h5]; rfl, by decide, k7, by decide, 0, 0, Nat.zero_le _, Nat.zero_le _, ?_⟩
    rw [eb, o5]
    exact c_75 hsp a4 ha h hx hkn (fun S' y n1 n2 => f_74_30 hE ⟨trivial, hQ S' α y n1 n2⟩)
end CCl
