/-! the class's instructions: NEXT -/
section CX2
variable {d mr sr : Nat} {S S0 S' T : ox_St} {Q : ox_Q} {x : Nat} {α : Int → Nat} {C : Nat → xCd} {nc K : Nat} {e : xEn} {q : Nat} {st r : List Int} {v u : Int} {a : Nat} {W : Nat → Prop}
/-- a new object is pushed -/
theorem c_pushn {sp : ox_E} (hsp : ox_mono sp) (h : cE S0 x α C nc e q st) (hx : xEs1 C nc K e st) (hI : cI x (cW0 x) S0 S) {o : xOb} (hl : st.length < 10) (ha : S0.n ≤ a) (ho : cO S x (upA α e.n a) C e.n o) (hr : xObOk nc K e.H o) (hv : ox_isV (S.K a) = true) (hQ : ∀ S', cN x S0 S' → cX S' x (upA α e.n a) C nc e q st (xMk e q st o) (-1) → Q none S') : ox_M sp (d + 1) 19 [.inr (.inr (x + 28 + 5 * e.t.length)), .inr (.inr a)] mr sr S Q := by
  have hS := h.same hx hI
  refine s_push hsp (hS.oF hx) hl hS.ht (Or.inr hv) ?_
  have t7 := hx.t7
  have hn := h.n
  have h16 := hx.1.1.1
  have hIf := hI.mono (W' := cWf x e.t.length) cW0_f
  have hI2 : cI x (cWf x e.t.length) S0 ((S.wR (x + 28 + 5 * e.t.length + 2) st.length a).sI 20 (x + 28 + 5 * e.t.length) (nI (st.length + 1))) := (hIf.wR (Or.inr cWf_2)).sI (Or.inr ⟨cWf_F, by decide, by decide, by decide⟩)
  have hI3 : cI x (cWf x e.t.length) S ((S.wR (x + 28 + 5 * e.t.length + 2) st.length a).sI 20 (x + 28 + 5 * e.t.length) (nI (st.length + 1))) := (cI.refl.wR (Or.inr cWf_2)).sI (Or.inr ⟨cWf_F, by decide, by decide, by decide⟩)
  have nW : ∀ b, x + 28 ≤ b → b < x + 68 → ¬ cW0 x b := fun b _ _ z => by unfold cW0 at z; omega
  obtain ⟨a1, a2, -⟩ := hI.at (a := x + 28 + 5 * e.t.length) (by omega) (nW _ (by omega) (by omega))
  have eI : ∀ G, G ≠ 20 → ((S.wR (x + 28 + 5 * e.t.length + 2) st.length a).sI 20 (x + 28 + 5 * e.t.length) (nI (st.length + 1))).I G (x + 28 + 5 * e.t.length) = S0.I G (x + 28 + 5 * e.t.length) := fun G hG => by
    rw [or_sI_I, if_neg (fun z => hG z.1), or_wR_I]
    exact a1 G
  have eR : ∀ t j, ((S.wR (x + 28 + 5 * e.t.length + 2) st.length a).sI 20 (x + 28 + 5 * e.t.length) (nI (st.length + 1))).rR t j = if t = x + 28 + 5 * e.t.length + 2 ∧ j = st.length then a else S.rR t j := fun t j => by rw [or_sI_rR, or_wR_rR]
  have e18 : ((S.wR (x + 28 + 5 * e.t.length + 2) st.length a).sI 20 (x + 28 + 5 * e.t.length) (nI (st.length + 1))).R 18 (x + 28 + 5 * e.t.length) = S0.R 18 (x + 28 + 5 * e.t.length) := by
    rw [or_sI_R, or_wR_R]; exact a2 18
  have erI : ∀ t j, ((S.wR (x + 28 + 5 * e.t.length + 2) st.length a).sI 20 (x + 28 + 5 * e.t.length) (nI (st.length + 1))).rI t j = S.rI t j := fun t j => by rw [or_sI_rI, or_wR_rI]
  have e20 : ((S.wR (x + 28 + 5 * e.t.length + 2) st.length a).sI 20 (x + 28 + 5 * e.t.length) (nI (st.length + 1))).I 20 (x + 28 + 5 * e.t.length) = nI (st.length + 1) := by rw [or_sI_I, if_pos ⟨rfl, rfl⟩]
  generalize ((S.wR (x + 28 + 5 * e.t.length + 2) st.length a).sI 20 (x + 28 + 5 * e.t.length) (nI (st.length + 1))) = U at hI2 hI3 eI eR e18 erI e20 ⊢
  refine hQ U (hI2.cN hn t7) ?_
  refine h.mk hx hI2 ⟨e18, eI 21 (by decide), fun j => ?_, fun j => ?_, fun j => ?_⟩ ha (ho.next hI3 (cWf_Z t7) rfl (fun _ _ => rfl) (fun _ => rfl)) hr ((eI 19 (by decide)).trans h.pl) e20 ⟨?_, ?_⟩
  · rw [eR, if_neg (by omega)]
    exact (hI.at (by omega) (nW _ (by omega) (by omega))).2.2.2.2.1 j
  · rw [erI]; exact (hI.at (by omega) (nW _ (by omega) (by omega))).2.2.2.1 j
  · rw [erI]; exact (hI.at (by omega) (nW _ (by omega) (by omega))).2.2.2.1 j
  · rw [eR, if_pos ⟨rfl, rfl⟩]
    have haS : a < S.n := by have := ho.2.1; rw [show upA α e.n a e.n = a from if_pos rfl] at this; exact this
    exact ⟨by omega, Nat.lt_of_lt_of_le haS hI3.1.1, by omega, Or.inr (Or.inr (Or.inr (Or.inr ⟨by omega, (if_pos rfl).symm⟩)))⟩
  · refine cStk.row (S := S0) (α := α) (hI2.mono (cWf_Z t7)) _ (fun j hj => ?_) (fun u hu => if_neg ?_) h.sk
    · rw [eR, if_neg (by omega)]
      exact (hI.at (by omega) (nW _ (by omega) (by omega))).2.2.2.2.1 j
    · have := hx.1.1.lt (hx.2.1 u hu)
      omega
theorem xEs1.wk {o : Int} {k : Nat} (hx : xEs1 C nc K e st) (hq : e.H v = some (.inr (.inr (.inr (.inl (o, k)))))) : xEs1 C nc (K + 1) (e.wH (xNew e.H v (.inr (.inr (.inr (.inl (o, k + 1))))))) st := by
  obtain ⟨⟨h1, h2, h3, h4, h5, h6, h7⟩, g1, g2, g3⟩ := hx
  have hk : k ≤ K := (h1.2 v _ hq).2.2.2
  have h1' := h1.mono (Nat.le_succ K)
  have hle := xWk_le (k' := k + 1) h1' hq
  exact ⟨⟨xWk_ok h1' hq (by omega), h2.mono hle, h3.mono hle, h4, h5, fun i w hw => ⟨(h6 i w hw).1, hle.ok (h6 i w hw).2⟩, fun g hg => (h7 g hg).mono hle⟩, fun w hw => hle.ok (g1 w hw), g2, g3⟩
/-- NEXT -/
theorem c_67 {a : Nat} (hK : K < 2 ^ 31) (h : cE S x α C nc e q (v :: r)) (hx : xEs1 C nc K e (v :: r)) (hl : r.length + 1 < 10) (hm : 2 ≤ mr) (hs : 20 ≤ sr) (hQ : ∀ S' α' y, cN x S S' → cX S' x α' C nc e q (v :: r) (xNext e q a r v) y → Q (some (.inl y)) S') : ox_M lw_sp (d + 6) 67 [.inr (.inr (x + 28 + 5 * e.t.length)), .inl (nI a)] mr sr S Q := by
  have hsp := lw_sp_mono
  have hE : ox_mono (ox_M lw_sp (d + 5)) := ox_M_mono hsp _
  have k := (h.oF hx).1
  have hn := h.n
  have hH := hx.1.1
  refine f_67 hsp ⟨by decide, k, by decide, 0, 0, Nat.zero_le _, Nat.zero_le _, c_top hsp h hx (fun hv => ?_)⟩
  obtain ⟨k1, k2, k3⟩ := h.kv hx hv hx.head
  refine f_67_5 hE ⟨Or.inr k3, fun z => ⟨trivial, ?_⟩, fun z => ?_⟩
  · have n12 := if_10 z
    refine hQ S α 0 cN.refl ?_
    have hw : xNext e q a r v = .inl 0 := by
      unfold xNext
      cases y : e.H v with
      | none => rfl
      | some o =>
        match o, y with
        | .inl _, _ => rfl
        | .inr (.inl _), _ => rfl
        | .inr (.inr (.inl _)), _ => rfl
        | .inr (.inr (.inr (.inl p))), y => exact absurd (k1.trans ((xKd_12 hH).mpr ⟨p, y⟩)) n12
        | .inr (.inr (.inr (.inr _))), _ => rfl
    rw [hw]
    exact ⟨rfl, h⟩
  · have h12 := if_11 z
    obtain ⟨⟨o, kk⟩, hq⟩ := (xKd_12 hH).mp (k1.symm.trans h12)
    have h16 := (hH.2 v _ hq).1
    have ha := hv.obj (by omega)
    obtain ⟨wl, wk⟩ := (hH.2 v _ hq).2.2
    have wk' : kk ≤ K := wk
    obtain ⟨n, hnl⟩ : ∃ n, xLen e.H o = some n := by
      cases y : xLen e.H o with
      | none => exact absurd y wl
      | some n => exact ⟨n, rfl⟩
    have oko : xOk nc e.H o := Or.inr (xLen_ne wl)
    obtain ⟨w1, w2, w3, w4, w5, w6⟩ := h.hp.1 v _ hq
    have w3' : S.K (α v) = 12 := w3
    have w5' : vC S x α o (S.R 58 (α v)) := w5
    have w6' : S.J 59 (α v) = lN kk := w6
    have hres : xNext e q a r v = if kk < n then (match xItem e.H o kk with
      | .inl u => .inr (xNew e.H v (.inr (.inr (.inr (.inl (o, kk + 1))))), e.n, e.G, (e.c, q, u :: v :: r, e.L, e.b) :: e.t, none)
      | .inr N => .inr (xNew (xNew e.H v (.inr (.inr (.inr (.inl (o, kk + 1)))))) e.n (.inl N), e.n + 1, e.G, (e.c, q, e.n :: v :: r, e.L, e.b) :: e.t, none)) else xGo e (q + a) r := by
      unfold xNext
      rw [hq]
      dsimp only
      rw [hnl]
      rfl
    rw [ha]
    have tk : (lN kk).toInt = kk := pf_lI (by omega)
    have hI0 : ∀ k', cI x (fun b => b = α v) S (S.sJ 59 (α v) (lN k')) := fun k' => cI.refl.sJw (Or.inr rfl)
    have hJ0 : ∀ k', (S.sJ 59 (α v) (lN k')).J 59 (α v) = lN k' := fun k' => by rw [or_sJ_J, if_pos ⟨rfl, rfl⟩]
    have cN0 : cN x S (S.sJ 59 (α v) (lN (kk + 1))) := ⟨oKl_sJ, oAg_sJ (fun y => by omega), rfl, rfl⟩
    have hb := h.wk hx hq (hI0 (kk + 1)) (hJ0 (kk + 1))
    have hxb := hx.wk hq
    refine ⟨Or.inr (by rw [w3']; rfl), by rw [w3']; rfl, by rw [w3']; rfl, by decide, ?_⟩
    rw [w6']
    refine c_item (d := d + 1) (k := fun m s => k_67_29 (ox_M lw_sp (d + 5)) (x + 28 + 5 * e.t.length) (nI a) (α v) (α v) m s Q) hsp h hx w5' oko hnl (by omega) (by omega) (fun _ _ _ _ y => f_67_29 hE ⟨fun _ => ⟨by decide, k, by decide, 0, 0, Nat.zero_le _, Nat.zero_le _, ?_⟩, fun y => absurd rfl y⟩) (fun j w b _ _ ej jn ei vw okw => f_67_29 hE ⟨fun y => absurd y vw.1, fun _ => ⟨by rw [w3']; rfl, by rw [w3']; rfl, by decide, ?_, by decide, 0, 0, Nat.zero_le _, Nat.zero_le _, ?_⟩⟩) (fun j N S1 wd c p _ _ ej jn ei g1 g2 g3 g4 => f_67_29 hE ⟨fun y => absurd y (by omega), fun _ => ?_⟩)
    · rw [tk] at y
      have nk : ¬ kk < n := by omega
      rw [hres, if_neg nk] at hQ
      refine c_drop (i := 1) hsp h hx (by simp) (fun S2 m1 m2 => f_67_57 hE ?_)
      have k2' := (m2.oF hx.tail).1
      refine ⟨by rw [k2']; rfl, by rw [k2']; rfl, ?_⟩
      rw [m2.pl, nI_add]
      exact ⟨trivial, hQ _ α (-1) (m1.trans (m2.place hx.tail (q + a)).1) (cX_go (m2.place hx.tail (q + a)).2)⟩
    · rw [w6', lN_1, or_sJ_K]; exact k
    · rw [tk] at ej
      obtain rfl : j = kk := by omega
      rw [hres, if_pos jn, ei] at hQ
      rw [w6', lN_1]
      refine c_push (e := e.wH (xNew e.H v (.inr (.inr (.inr (.inl (o, j + 1))))))) (st := v :: r) (C := C) (nc := nc) (q := q) hsp hb hxb hl (vw.next (hI0 (j + 1)) rfl) ((xWk_le (k' := j + 1) hH hq).ok okw) (fun S2 m1 m2 => f_67_49 hE ⟨trivial, hQ S2 α (-1) (cN0.trans m1) ⟨rfl, m2⟩⟩)
    · rw [tk] at ej
      obtain rfl : j = kk := by omega
      rw [hres, if_pos jn, ei] at hQ
      have hk1 : oKl S S1 := ⟨by omega, fun b hb => ⟨(g2 b hb).1, (g2 b hb).2.1⟩⟩
      have k1v : S1.K (α v) = 12 := ((g2 _ w2).1).trans w3'
      have j1 : S1.J 59 (α v) = lN j := ((g2 _ w2).2.2.2.2.1 59).trans w6'
      refine ⟨by rw [k1v]; rfl, by rw [k1v]; rfl, ?_⟩
      rw [j1, lN_1]
      have eJ0 : ∀ F b, (S.sJ 59 (α v) (lN (j + 1))).J F b = if F = 59 ∧ b = α v then lN (j + 1) else S.J F b := fun F b => or_sJ_J _ _ _ _ _ _
      have eJ1 : ∀ F b, (S1.sJ 59 (α v) (lN (j + 1))).J F b = if F = 59 ∧ b = α v then lN (j + 1) else S1.J F b := fun F b => or_sJ_J _ _ _ _ _ _
      have agr : oAg (fun b => b < (S.sJ 59 (α v) (lN (j + 1))).n) (S.sJ 59 (α v) (lN (j + 1))) (S1.sJ 59 (α v) (lN (j + 1))) := fun b hb => by
        rw [or_sJ_n] at hb
        obtain ⟨m1, m2, m3, m4, m5, m6, m7, m8⟩ := g2 b hb
        rw [or_sJ_K, or_sJ_K, or_sJ_len, or_sJ_len, or_sJ_I, or_sJ_I, or_sJ_R, or_sJ_R, or_sJ_rI, or_sJ_rI, or_sJ_rR, or_sJ_rR, or_sJ_rJ, or_sJ_rJ]
        exact ⟨m1, m2, m3, m4, fun F => by rw [eJ0, eJ1, m5], m6, m7, m8⟩
      have hkk : oKl (S.sJ 59 (α v) (lN (j + 1))) (S1.sJ 59 (α v) (lN (j + 1))) := ⟨by rw [or_sJ_n, or_sJ_n]; exact hk1.1, fun b hb => ⟨(agr b hb).1, (agr b hb).2.1⟩⟩
      have hIc : cI x (cW0 x) (S.sJ 59 (α v) (lN (j + 1))) (S1.sJ 59 (α v) (lN (j + 1))) := ag_I hkk agr
      have g3' : oNm (S1.sJ 59 (α v) (lN (j + 1))) (S.n + 1) S.n wd c p ∧ (S1.sJ 59 (α v) (lN (j + 1))).I 6 (S.n + 1) = 3 := by
        obtain ⟨⟨m1, m2, ⟨m3, m4, m5, m6⟩, m7⟩, m8⟩ := g3
        unfold oNm oDs
        rw [or_sJ_K, or_sJ_R, or_sJ_len, or_sJ_rI, or_sJ_I]
        exact ⟨⟨m1, m2, ⟨m3, m4, m5, m6⟩, m7⟩, m8⟩
      have hNl : N.natAbs < 32768 ^ 16 := by rw [← g4]; exact nv_lt g3.1.2.2.2.1 g3.1.2.2.1.2.2.1
      have n1 : (S1.sJ 59 (α v) (lN (j + 1))).n = (S.sJ 59 (α v) (lN (j + 1))).n + 2 := by rw [or_sJ_n, or_sJ_n]; exact g1
      have kF1 : (S1.sJ 59 (α v) (lN (j + 1))).K (x + 28 + 5 * e.t.length) = 4 := by
        rw [or_sJ_K, (g2 _ (by have := hx.t7; omega)).1]; exact k
      have kN : (S1.sJ 59 (α v) (lN (j + 1))).K (S.n + 1) = 8 := g3'.1.1
      refine ⟨by decide, kF1, by decide, 0, 0, Nat.zero_le _, Nat.zero_le _, ?_⟩
      have hoc : cO (S1.sJ 59 (α v) (lN (j + 1))) x (upA α e.n (S.n + 1)) C e.n (.inl N) := num_at (S := S.sJ 59 (α v) (lN (j + 1))) hb n1 g3' g4
      generalize S1.sJ 59 (α v) (lN (j + 1)) = U1 at hIc hoc kN ⊢
      have hS0 : (S.sJ 59 (α v) (lN (j + 1))).n = S.n := or_sJ_n _ _ _ _
      generalize S.sJ 59 (α v) (lN (j + 1)) = U0 at cN0 hb hIc hS0 ⊢
      exact c_pushn (e := e.wH (xNew e.H v (.inr (.inr (.inr (.inl (o, j + 1))))))) (st := v :: r) (q := q) (o := .inl N) hsp hb hxb hIc hl (by omega) hoc hNl (by rw [kN]; rfl) (fun S2 m1 m2 => f_67_49 hE ⟨trivial, hQ S2 _ (-1) (cN0.trans m1) m2⟩)
end CX2
