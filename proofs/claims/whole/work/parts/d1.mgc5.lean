/-! the reference: collecting, whole -/
/-- the constants' row is made of the codes' -/
def rKc (S : ox_St) (m : Nat) (C : Nat → xCd) (nc : Nat) : Prop := ∃ N, S.I 87 m = nI N ∧ N ≤ 2100 ∧ (∀ i, i < N → ∃ c, c < nc ∧ ∃ k, S.rI (m + 9) c = nI k ∧ k ≤ i ∧ i < k + (C c).2.1.length) ∧ ∀ c, c < nc → ∃ k, S.rI (m + 9) c = nI k ∧ k + (C c).2.1.length ≤ N
section GC5
variable {sp : ox_E} {d mr sr : Nat} {S S0 S' U : ox_St} {Q : ox_Q} {m ce : Nat} {γ : Int → Nat} {A B M : List Int} {T : Nat} {C : Nat → xCd} {nc K y : Nat} {u v n : Int} {H : xHp} {s : xSt}
theorem rKc.fx (h : rKc S m C nc) (fx : mFx m S S') : rKc S' m C nc := by
  obtain ⟨-, -, -, -, -, -, -, -, -, ha, hb, -⟩ := fx
  obtain ⟨N, h1, h2, h3, h4⟩ := h
  have e9 := hb 9 (by omega)
  exact ⟨N, by rw [ha 87 (by omega)]; exact h1, h2, by rw [e9]; exact h3, by rw [e9]; exact h4⟩
theorem rStk_of {f : Nat} : ∀ (st : List Int), (∀ k, k < st.length → S.rI (m + 20) (10 * f + k) = gV γ (st.getD (st.length - 1 - k) 0)) → rStk S m γ f st
  | [], _ => trivial
  | v :: r, h => by
    refine ⟨?_, rStk_of r (fun k hk => ?_)⟩
    · have := h r.length (Nat.lt_succ_self _)
      rw [List.length_cons, show r.length + 1 - 1 - r.length = 0 by omega] at this
      exact this
    · have := h k (Nat.lt_succ_of_lt hk)
      rw [List.length_cons, show r.length + 1 - 1 - k = (r.length - 1 - k) + 1 by omega] at this
      exact this
def xF0 : xFr := (0, 0, [], (fun _ => none), [])
theorem fr_at {g : xFr} {t : List xFr} {f : Nat} : (g :: t).reverse.getD f xF0 = if f < t.length then t.reverse.getD f xF0 else if f = t.length then g else xF0 := by
  rw [List.reverse_cons, List.getD_eq_getElem?_getD, List.getElem?_append, List.length_reverse]
  by_cases z : f < t.length
  · rw [if_pos z, if_pos z, List.getD_eq_getElem?_getD]
  · rw [if_neg z, if_neg z]
    by_cases w : f = t.length
    · rw [if_pos w, w, Nat.sub_self]; rfl
    · rw [if_neg w, List.getElem?_eq_none (by rw [List.length_singleton]; omega)]; rfl
theorem rFs_iff : ∀ (fs : List xFr), rFs S m γ fs ↔ ∀ f, f < fs.length → rFr S m γ f (fs.reverse.getD f xF0)
  | [] => ⟨fun _ f hf => absurd hf (Nat.not_lt_zero _), fun _ => trivial⟩
  | g :: t => by
    have ih := rFs_iff t
    constructor
    · intro h f hf
      rw [fr_at]
      by_cases z : f < t.length
      · rw [if_pos z]; exact ih.mp h.2 f z
      · have hf' : f < t.length + 1 := hf
        have w : f = t.length := by omega
        rw [if_neg z, if_pos w, w]
        exact h.1
    · intro h
      refine ⟨?_, ih.mpr (fun f hf => ?_)⟩
      · have := h t.length (Nat.lt_succ_self _)
        rw [fr_at, if_neg (Nat.lt_irrefl _), if_pos rfl] at this
        exact this
      · have := h f (Nat.lt_succ_of_lt hf)
        rw [fr_at, if_pos hf] at this
        exact this
theorem fr_mem {fs : List xFr} {f : Nat} (hf : f < fs.length) : fs.reverse.getD f xF0 ∈ fs := by
  rw [List.getD_eq_getElem?_getD, List.getElem?_eq_getElem (by rw [List.length_reverse]; exact hf)]
  exact List.mem_reverse.mp (List.getElem_mem _)
theorem rHp.inj (h : rHp S m γ B H T) (hH : xHOk nc K H n) (hnc : nc ≤ 300) (oku : xOk nc H u) (okv : xOk nc H v) (hu : xIn B u) (hv : xIn B v) (z : gV γ u = gV γ v) : u = v := by
  have lo : ∀ w : Int, xOk nc H w → w < 16 → -300 ≤ w := fun w hw w16 => by
    rcases hw with y | y
    · omega
    · cases e1 : H w with
      | none => exact absurd e1 y
      | some o => have := (hH.2 w o e1).1; omega
  have hi : ∀ w : Int, xIn B w → ¬ w < 16 → ∃ o, H w = some o ∧ 16 ≤ γ w ∧ γ w + 2 ≤ 1100000 ∧ w ∈ B := fun w hw w16 => by
    obtain ⟨o, e1, r1, r2, r3⟩ := h.cell hw (by omega)
    have := xSz_2 o
    exact ⟨o, e1, r1.1, by omega, hw.resolve_left w16⟩
  unfold gV at z
  by_cases u16 : u < 16
  · have l1 := lo u oku u16
    rw [if_pos u16] at z
    by_cases v16 : v < 16
    · have l2 := lo v okv v16
      rw [if_pos v16] at z
      exact (ofI_eq (by omega) (by omega) (by omega) (by omega)).mp z
    · obtain ⟨o, e1, a1, a2, -⟩ := hi v hv v16
      rw [if_neg v16] at z
      have := congrArg Int32.toInt z
      rw [nI_toInt (by omega), Int32.toInt_ofInt_of_le (by omega) (by omega)] at this
      omega
  · obtain ⟨o, e1, a1, a2, uB⟩ := hi u hu u16
    rw [if_neg u16] at z
    by_cases v16 : v < 16
    · have l2 := lo v okv v16
      rw [if_pos v16] at z
      have := congrArg Int32.toInt z
      rw [nI_toInt (by omega), Int32.toInt_ofInt_of_le (by omega) (by omega)] at this
      omega
    · obtain ⟨p, e2, b1, b2, vB⟩ := hi v hv v16
      rw [if_neg v16] at z
      have z' := (nI_eq (by omega) (by omega)).mp z
      refine Decidable.byContradiction fun ne => ?_
      have := h.2.2.1 u uB v vB ne o p e1 e2
      have := xSz_2 o
      have := xSz_2 p
      omega
theorem mTb_n : ∀ q ∈ mTb, q.1 ≠ 73 ∧ q.1 ≠ 74 := by decide
set_option maxHeartbeats 1000000 in
theorem r_131k (hsp : ox_mono sp) (h : rR S m ce γ B T C nc y s) (hw : xWf C nc K s) (hk : rKc S m C nc) (hC : xClo s.H A) (hAG : xGIn C nc A s.G) (hAr : xIn A s.r) (hAt : xTIn A s.f) (hA : 16 + xSzA s.H A ≤ 1100000) (hQ : ∀ S' γ' B' T', mFx m S S' → (∀ F, F ≠ 75 → F ≠ 97 → S'.I F m = S.I F m) → rKc S' m C nc → T' ≤ 16 + xSzA s.H A → rR S' m (5 - ce) γ' B' T' C nc y s → Q none S') : ox_M sp (d + 3) 131 [.inr (.inr m)] mr sr S Q := by
  have hE : ox_mono (ox_M sp (d + 2)) := ox_M_mono hsp _
  obtain ⟨a1, ⟨a2, a3⟩, ⟨a4, a5⟩, a6, ⟨a7, a8⟩, ⟨b1, b2, b3, b4, b5⟩, c1, c2, c3⟩ := id h
  obtain ⟨w1, w2, w3, w4, w5, w6, w7, -⟩ := id hw
  have hce := a1.2.2.1
  obtain ⟨N, k1, k2, k3, k4⟩ := id hk
  have fl : ∀ g ∈ s.f, g.2.2.1.length ≤ 10 ∧ (∀ v ∈ g.2.2.1, xOk nc s.H v) ∧ ∀ i v, g.2.2.2.1 i = some v → xOk nc s.H v ∧ i < 8 := fun g hg => by
    obtain ⟨f1, f2⟩ := w4
    match hs : s.f, hg with
    | f :: t, hg =>
      rw [hs] at f2
      rcases List.mem_cons.mp hg with z | z
      · rw [z]
        have hf := f2.1
        have := hf.len w2
        have l8 := (w2 _ hf.1).1.2.2.1
        exact ⟨by omega, hf.2.2.2.1, fun i v e => ⟨(hf.2.2.2.2 i v e).2, Nat.lt_of_lt_of_le (hf.2.2.2.2 i v e).1 l8⟩⟩
      · have hf := f2.2 g z
        have := hf.len w2
        have l8 := (w2 _ hf.1).1.2.2.1
        exact ⟨by omega, hf.2.2.2.1, fun i v e => ⟨(hf.2.2.2.2 i v e).2, Nat.lt_of_lt_of_le (hf.2.2.2.2 i v e).1 l8⟩⟩
  have f8 : s.f.length ≤ 8 := w4.1
  have g16 : s.G.length ≤ 16 := w3.1
  -- the constants
  have cst : ∀ i, i < N → ∃ u, gVl nc s.H A B u ∧ S.rI (m + 14) i = gV γ u := fun i hi => by
    obtain ⟨c, hc, k, e9, l1, l2⟩ := k3 i hi
    obtain ⟨g, k', w, -, ⟨h1, h2, h3⟩, -⟩ := a5 c hc
    have ek : k' = k := (nI_eq (by omega) (by omega)).mp (h1.symm.trans e9)
    have mem : (C c).2.1.getD (i - k) 0 ∈ (C c).2.1 := by rw [List.getD_eq_getElem?_getD, List.getElem?_eq_getElem (by omega)]; exact List.getElem_mem _
    refine ⟨(C c).2.1.getD (i - k) 0, ⟨(w2 c hc).2.2.2.2.1 _ mem, c1.1 c hc _ mem, hAG.1 c hc _ mem⟩, ?_⟩
    have := h3 (i - k) (by omega)
    rw [ek, show k + (i - k) = i by omega] at this
    exact this
  let kv : Nat → Int := fun i => if z : i < N then (cst i z).choose else 0
  have hkv : ∀ i, i < N → gVl nc s.H A B (kv i) ∧ S.rI (m + 14) i = gV γ (kv i) := fun i hi => by
    have e : kv i = (cst i hi).choose := dif_pos hi
    rw [e]
    exact (cst i hi).choose_spec
  clear_value kv
  refine f_131 hsp ⟨by rw [a1.1]; rfl, ?_⟩
  have e0I : ∀ F, F ≠ 75 → (S.sI 75 m 16).I F m = S.I F m := fun F hF => by rw [or_sI_I, if_neg (fun z => hF z.1)]
  have fx0 : mFx m S (S.sI 75 m 16) := mFx.refl.sI
  have er0 : (S.sI 75 m 16).rI = S.rI := or_sI_rI _ _ _ _
  have eR0 : (S.sI 75 m 16).R = S.R := or_sI_R _ _ _ _
  have eJ0 : (S.sI 75 m 16).rJ = S.rJ := or_sI_rJ _ _ _ _
  have e75 : (S.sI 75 m 16).I 75 m = nI (16 + xSzA s.H []) := by rw [or_sI_I, if_pos ⟨rfl, rfl⟩]; rfl
  show c_131_8 (ox_M sp (d + 2)) m (nI 0) (S.sI 75 m 16) mr sr Q
  generalize S.sI 75 m 16 = S1 at e0I fx0 er0 eR0 eJ0 e75 ⊢
  have ml1 : oML S1 m ce := a1.next fx0.2.1 fx0.2.2.1 (fun F => by rw [eR0])
  have G0 : gG S1 S1 m ce γ B s.H A [] := ⟨⟨ml1, ⟨List.nodup_nil, fun v hv => (by cases hv)⟩, e75, fun v hv => (by cases hv), fun _ _ => rfl⟩, fun v hv => (by cases hv), fun v hv => (by cases hv)⟩
  have h0 : rHp S1 (m + ce) γ B s.H T := a2.next (fun j _ => by rw [er0])
  refine r_131_8 (S0 := S1) (S1 := S1) (M1 := []) hsp h0 w1 a4 hA k2 (fun i hi => (hkv i hi).1) (fun i hi => by rw [er0]; exact (hkv i hi).2) (by rw [e0I 87 (by decide)]; exact k1) (fun S2 M2 mr sr gx2 hG2 ph2 d2 => ?_) N 0 mr sr S1 [] (by omega) (gX.refl List.nodup_nil) G0 gPh.refl (fun j hj => absurd hj (Nat.not_lt_zero _)) (fun _ _ => rfl)
  have r2 : ∀ o, 16 ≤ o → o ≤ 25 → S2.rI (m + o) = S.rI (m + o) := fun o z1 z2 => by rw [ph2.2.2.2.2.2.2.2.2 (m + o) (by omega) (by omega) (fun r z => by omega), er0]
  have i2 : ∀ F, F ≠ 75 → S2.I F m = S.I F m := fun F hF => (ph2.2.2.2.2.2.2.2.1 F m (Or.inr hF)).trans (e0I F hF)
  refine r_131_40 (S0 := S1) (S1 := S2) (M1 := M2) (kv := fun i => (s.G.getD i (0, 0)).2) hsp h0 w1 a4 hA g16 (fun i hi => ?_) (fun i hi => by rw [r2 25 (by omega) (by omega)]; exact (a8 i hi).2) (by rw [i2 106 (by decide)]; exact a7) (fun S3 M3 mr sr gx3 hG3 ph3 d3 => ?_) s.G.length 0 mr sr S2 M2 (by omega) (gX.refl hG2.1.2.1.1) hG2 gPh.refl (fun j hj => absurd hj (Nat.not_lt_zero _)) (fun _ _ => rfl)
  · have mem : s.G.getD i (0, 0) ∈ s.G := by rw [List.getD_eq_getElem?_getD, List.getElem?_eq_getElem hi]; exact List.getElem_mem hi
    exact ⟨(w3.2 _ mem).2, c1.2 _ mem, hAG.2 _ mem⟩
  have r3 : ∀ o, 16 ≤ o → o ≤ 24 → S3.rI (m + o) = S.rI (m + o) := fun o z1 z2 => by rw [ph3.2.2.2.2.2.2.2.2 (m + o) (by omega) (by omega) (fun r z => by omega), r2 o z1 (by omega)]
  have i3 : ∀ F, F ≠ 75 → S3.I F m = S.I F m := fun F hF => (ph3.2.2.2.2.2.2.2.1 F m (Or.inr hF)).trans (i2 F hF)
  have frs := (rFs_iff s.f).mp a6
  have gF : gFr nc s.H A B s.f.length (fun f => s.f.reverse.getD f xF0) S3 m := by
    refine ⟨f8, by rw [i3 92 (by decide)]; exact b1, fun g hg => ?_⟩
    have mem := fr_mem hg
    obtain ⟨l10, o1, o2⟩ := fl _ mem
    obtain ⟨x1, x2⟩ := c3 _ mem
    obtain ⟨y1, y2⟩ := hAt _ mem
    exact ⟨l10, by rw [r3 18 (by omega) (by omega)]; exact (frs g hg).2.2.1, fun u hu => ⟨o1 u hu, x1 u hu, y1 u hu⟩, fun j w hw => ⟨(o2 j w hw).1, x2 j w hw, y2 j w hw⟩⟩
  refine r_131_72 (S0 := S1) (S1 := S3) (M1 := M3) (w := s.r) hsp h0 w1 a4 hA gF ⟨w6, c2, hAr⟩ (by rw [i3 97 (by decide)]; exact b5) (fun S4 M4 mr sr gx4 hr4 hG4 ph4 s4 l4 => ?_) s.f.length 0 mr sr S3 M3 (by omega) (gX.refl hG3.1.2.1.1) hG3 gPh.refl (fun g hg j hj => ⟨fun z => absurd z (by omega), fun _ => ?_⟩) (fun g hg j hj => ?_)
  · have sz97 : ∀ a j, (S4.sI 97 m (gV (gD s.H M4) s.r)).rI a j = S4.rI a j := fun a j => by rw [or_sI_rI]
    have i97 : ∀ F, (S4.sI 97 m (gV (gD s.H M4) s.r)).I F m = if F = 97 then gV (gD s.H M4) s.r else S4.I F m := fun F => by
      rw [or_sI_I]
      simp only [and_true]
    have fx97 : mFx m S4 (S4.sI 97 m (gV (gD s.H M4) s.r)) := mFx.refl.sI
    have eR97 : (S4.sI 97 m (gV (gD s.H M4) s.r)).R = S4.R := or_sI_R _ _ _ _
    have eJ97 : (S4.sI 97 m (gV (gD s.H M4) s.r)).rJ = S4.rJ := or_sI_rJ _ _ _ _
    generalize S4.sI 97 m (gV (gD s.H M4) s.r) = S5 at sz97 i97 fx97 eR97 eJ97 ⊢
    have ml5 : oML S5 m ce := hG4.1.1.next fx97.2.1 fx97.2.2.1 (fun F => by rw [eR97])
    have Z5 : gZ S1 S5 m ce γ B s.H A M4 [] [] := by
      obtain ⟨⟨g1, g2, g3, g4, g5⟩, g6, g7⟩ := hG4
      exact ⟨⟨ml5, g2, by rw [i97, if_neg (by decide)]; exact g3, fun v hv => by rw [sz97]; exact g4 v hv, fun j hj => by rw [sz97]; exact g5 j hj⟩, g7, fun v hv _ k hk => by rw [sz97]; exact g6 v hv k hk, fun v hv => (by cases hv)⟩
    refine r_131_206 (S0 := S1) (S1 := S5) (M1 := M4) hsp h0 w1 a4 hA hC (fun U M gx hZ ph => ?_) A.length M4 [] M4 mr sr S5 (by simp) (by simp) (gX.refl hG4.1.2.1.1) Z5 gPh.refl
    have le := (xSzA_sub (H := s.H) hZ.1.2.1.1 hZ.2.1).1
    -- what is left, all in all
    have rU : ∀ a j, a ≠ m + ce → a ≠ m + (5 - ce) → ((U.sR 73 m (m + (5 - ce))).sR 74 m (m + ce)).rI a j = S4.rI a j := fun a j z1 z2 => by rw [or_sR_rI, or_sR_rI, ph.2.2.2.2.2.2.2.2 a z1 z2 (fun r z => z.elim), sz97]
    have rC : ∀ j, ((U.sR 73 m (m + (5 - ce))).sR 74 m (m + ce)).rI (m + (5 - ce)) j = U.rI (m + (5 - ce)) j := fun j => by rw [or_sR_rI, or_sR_rI]
    have iU : ∀ F, F ≠ 75 → ((U.sR 73 m (m + (5 - ce))).sR 74 m (m + ce)).I F m = if F = 97 then gV (gD s.H M4) s.r else S.I F m := fun F hF => by
      rw [or_sR_I, or_sR_I, ph.2.2.2.2.2.2.2.1 F m (Or.inr hF), i97]
      by_cases z : F = 97
      · rw [if_pos z, if_pos z]
      · rw [if_neg z, if_neg z, ph4.2.2.2.2.2.2.2.1 F m (Or.inr hF)]
        exact i3 F hF
    have i75 : ((U.sR 73 m (m + (5 - ce))).sR 74 m (m + ce)).I 75 m = nI (16 + xSzA s.H M) := by rw [or_sR_I, or_sR_I]; exact hZ.1.2.2.1
    have eK : ((U.sR 73 m (m + (5 - ce))).sR 74 m (m + ce)).K = S.K := by rw [or_sR_K, or_sR_K, ph.1, fx97.2.1, ph4.1, ph3.1, ph2.1, fx0.2.1]
    have eL : ((U.sR 73 m (m + (5 - ce))).sR 74 m (m + ce)).len = S.len := by rw [or_sR_len, or_sR_len, ph.2.1, fx97.2.2.1, ph4.2.1, ph3.2.1, ph2.2.1, fx0.2.2.1]
    have eN : ((U.sR 73 m (m + (5 - ce))).sR 74 m (m + ce)).n = S.n := by rw [or_sR_n, or_sR_n, ph.2.2.1, fx97.1, ph4.2.2.1, ph3.2.2.1, ph2.2.2.1, fx0.1]
    have eJf : ((U.sR 73 m (m + (5 - ce))).sR 74 m (m + ce)).J = S.J := by rw [or_sR_J, or_sR_J, ph.2.2.2.2.1, fx97.2.2.2.1, ph4.2.2.2.2.1, ph3.2.2.2.2.1, ph2.2.2.2.2.1, fx0.2.2.2.1]
    have erR : ((U.sR 73 m (m + (5 - ce))).sR 74 m (m + ce)).rR = S.rR := by rw [or_sR_rR, or_sR_rR, ph.2.2.2.2.2.1, fx97.2.2.2.2.1, ph4.2.2.2.2.2.1, ph3.2.2.2.2.2.1, ph2.2.2.2.2.2.1, fx0.2.2.2.2.1]
    have eRJ : ((U.sR 73 m (m + (5 - ce))).sR 74 m (m + ce)).rJ = S.rJ := by rw [or_sR_rJ, or_sR_rJ, ph.2.2.2.2.2.2.1, eJ97, ph4.2.2.2.2.2.2.1, ph3.2.2.2.2.2.2.1, ph2.2.2.2.2.2.2.1, eJ0]
    have eRS : U.R = S.R := by rw [ph.2.2.2.1, eR97, ph4.2.2.2.1, ph3.2.2.2.1, ph2.2.2.2.1, eR0]
    have eR : ∀ F a, ((U.sR 73 m (m + (5 - ce))).sR 74 m (m + ce)).R F a = if F = 74 ∧ a = m then m + ce else if F = 73 ∧ a = m then m + (5 - ce) else S.R F a := fun F a => by rw [or_sR_R, or_sR_R, eRS]
    have iA : ∀ F a, a ≠ m → ((U.sR 73 m (m + (5 - ce))).sR 74 m (m + ce)).I F a = S.I F a := fun F a z => by rw [or_sR_I, or_sR_I, ph.2.2.2.2.2.2.2.1 F a (Or.inl z), fx97.2.2.2.2.2.2.1 F a z, ph4.2.2.2.2.2.2.2.1 F a (Or.inl z), ph3.2.2.2.2.2.2.2.1 F a (Or.inl z), ph2.2.2.2.2.2.2.2.1 F a (Or.inl z), fx0.2.2.2.2.2.2.1 F a z]
    generalize (U.sR 73 m (m + (5 - ce))).sR 74 m (m + ce) = V at rU rC iU i75 eK eL eN eJf erR eRJ eR iA ⊢
    -- rows that stay
    have r4 : ∀ a, a ≠ m + ce → a ≠ m + (5 - ce) → a ≠ m + 14 → a ≠ m + 20 → a ≠ m + 21 → a ≠ m + 25 → V.rI a = S.rI a := fun a z1 z2 z3 z4 z5 z6 => funext fun j => by
      rw [rU a j z1 z2, ph4.2.2.2.2.2.2.2.2 a z1 z2 (fun r z => by rcases z with z | z <;> rw [z] <;> assumption), ph3.2.2.2.2.2.2.2.2 a z1 z2 (fun r z => by rw [z]; exact z6), ph2.2.2.2.2.2.2.2.2 a z1 z2 (fun r z => by rw [z]; exact z3), er0]
    have fx : mFx m S V := ⟨eN, eK, eL, eJf, erR, fun F a z => by rw [eR, if_neg (fun y => z y.2), if_neg (fun y => z y.2)], iA, fun a z => r4 a (by omega) (by omega) (by omega) (by omega) (by omega) (by omega), fun a _ => by rw [eRJ], fun F z => by rw [iU F (by omega), if_neg (by omega)], fun p z => r4 _ (by omega) (by omega) (by omega) (by omega) (by omega) (by omega), by rw [eRJ]⟩
    have mlV : oML V m (5 - ce) := by
      obtain ⟨x1, x2, x3, x4, x5⟩ := a1
      refine ⟨by rw [eK]; exact x1, fun q hq => ?_, by omega, ⟨?_, ?_⟩, fun c hc => by rw [eK, eL]; exact x5 c hc⟩
      · obtain ⟨q1, q2, q3⟩ := x2 q hq
        have nq : q.1 ≠ 73 ∧ q.1 ≠ 74 := mTb_n q hq
        rw [eR, if_neg (fun y => nq.2 y.1), if_neg (fun y => nq.1 y.1), eK, eL]
        exact ⟨q1, q2, q3⟩
      · rw [eR, if_neg (fun y => by cases y.1), if_pos ⟨rfl, rfl⟩]
      · rw [eR, if_pos ⟨rfl, rfl⟩]
        exact congrArg (m + ·) (by omega)
    have to4 : ∀ {v}, xIn M4 v → xIn M v ∧ gV (gD s.H M) v = gV (gD s.H M4) v := fun hv => gx.in hv
    have hpV : rHp V (m + (5 - ce)) (gD s.H M) M s.H (16 + xSzA s.H M) := by
      refine ⟨⟨hZ.1.2.1.1, fun v hv => ?_⟩, fun v hv o e => ?_, fun u hu v hv ne o p e1 e2 => ?_, Nat.le_add_right _ _, by omega⟩
      · obtain ⟨-, ob, e1, -, r2⟩ := hZ.2.2.2 v hv
        exact ⟨ob, e1, r2⟩
      · obtain ⟨-, ob, e1, r1, -⟩ := hZ.2.2.2 v hv
        rw [e] at e1
        cases e1
        have g2 := (gD_mem (H := s.H) hv).2
        have so : xSo (s.H v) = xSz o := by rw [e]; rfl
        rw [so] at g2
        exact ⟨(w1.2 v o e).1, r1.next (fun j _ _ => rC j) rfl (fun _ _ => rfl), g2⟩
      · have := gD_dis (H := s.H) hZ.1.2.1.1 hu hv ne
        rw [e1, e2] at this
        exact this
    have d2' : ∀ i, i < N → V.rI (m + 14) i = gV (gD s.H M) (kv i) ∧ xIn M (kv i) := fun i hi => by
      obtain ⟨x1, x2⟩ := d2 i hi
      obtain ⟨x3, x4⟩ := (gx3.trans gx4).in (H := s.H) x2
      obtain ⟨x5, x6⟩ := to4 x3
      refine ⟨?_, x5⟩
      rw [rU _ _ (by omega) (by omega), ph4.2.2.2.2.2.2.2.2 (m + 14) (by omega) (by omega) (fun r z => by omega), ph3.2.2.2.2.2.2.2.2 (m + 14) (by omega) (by omega) (fun r z => by omega), x1, x6, x4]
    have cin : ∀ c, c < nc → ∀ i, i < (C c).2.1.length → ∃ k, S.rI (m + 9) c = nI k ∧ k + (C c).2.1.length ≤ 2100 ∧ V.rI (m + 14) (k + i) = gV (gD s.H M) ((C c).2.1.getD i 0) ∧ xIn M ((C c).2.1.getD i 0) := fun c hc i hi => by
      obtain ⟨g, k', w, -, ⟨h1, h2, h3⟩, -⟩ := a5 c hc
      obtain ⟨k, e9, kl⟩ := k4 c hc
      have ek : k' = k := (nI_eq (by omega) (by omega)).mp (h1.symm.trans e9)
      have mem : (C c).2.1.getD i 0 ∈ (C c).2.1 := by rw [List.getD_eq_getElem?_getD, List.getElem?_eq_getElem hi]; exact List.getElem_mem hi
      obtain ⟨v1, v2⟩ := hkv (k + i) (by omega)
      have hi3 := h3 i hi
      rw [ek] at hi3
      have eq : kv (k + i) = (C c).2.1.getD i 0 := a2.inj w1 a4 v1.1 ((w2 c hc).2.2.2.2.1 _ mem) v1.2.1 (c1.1 c hc _ mem) (v2.symm.trans hi3)
      obtain ⟨x1, x2⟩ := d2' (k + i) (by omega)
      rw [eq] at x1 x2
      exact ⟨k, e9, by omega, x1, x2⟩
    refine hQ V (gD s.H M) M (16 + xSzA s.H M) fx (fun F z1 z2 => (iU F z1).trans (if_neg z2)) (hk.fx fx) (by omega) ⟨mlV, ⟨hpV, i75⟩, ⟨a4, fun c hc => ?_⟩, (rFs_iff s.f).mpr (fun f hf => ?_), ⟨?_, fun i hi => ?_⟩, ⟨?_, ?_, ?_, ?_, ?_⟩, ⟨fun c hc v hv => ?_, fun g hg => ?_⟩, (to4 hr4).1, fun g hg => ?_⟩
    · obtain ⟨g, k', w, sh, ⟨h1, h2, h3⟩, h4, h5, h6⟩ := a5 c hc
      have rr : ∀ o, 4 ≤ o → o ≤ 13 → V.rI (m + o) = S.rI (m + o) := fun o z1 z2 => r4 _ (by omega) (by omega) (by omega) (by omega) (by omega) (by omega)
      obtain ⟨⟨s1, s2, s3⟩, ⟨s4, s5, s6⟩, ⟨s7, s8⟩, s9⟩ := sh
      refine ⟨g, k', w, ⟨⟨by rw [rr 4 (by omega) (by omega)]; exact s1, by rw [rr 5 (by omega) (by omega)]; exact s2, by rw [rr 6 (by omega) (by omega)]; exact s3⟩, ⟨by rw [rr 7 (by omega) (by omega)]; exact s4, by rw [rr 8 (by omega) (by omega)]; exact s5, fun p hp => by rw [rr 13 (by omega) (by omega)]; exact s6 p hp⟩, ⟨by rw [rr 10 (by omega) (by omega)]; exact s7, by rw [rr 12 (by omega) (by omega)]; exact s8⟩, s9⟩, ⟨by rw [rr 9 (by omega) (by omega)]; exact h1, h2, fun i hi => ?_⟩, by rw [rr 11 (by omega) (by omega)]; exact h4, h5, fun i hi => by rw [eRJ]; exact h6 i hi⟩
      obtain ⟨k, e9, kl, x1, -⟩ := cin c hc i hi
      have ek : k' = k := (nI_eq (by omega) (by omega)).mp (h1.symm.trans e9)
      rw [ek]; exact x1
    · obtain ⟨f1, f2, f3, f4, f5, f6, f7⟩ := frs f hf
      have mem := fr_mem hf
      have rr : ∀ o, 16 ≤ o → o ≤ 23 → o ≠ 20 → o ≠ 21 → V.rI (m + o) = S.rI (m + o) := fun o z1 z2 z3 z4 => r4 _ (by omega) (by omega) (by omega) (by omega) (by omega) (by omega)
      refine ⟨by rw [rr 16 (by omega) (by omega) (by omega) (by omega)]; exact f1, by rw [rr 17 (by omega) (by omega) (by omega) (by omega)]; exact f2, by rw [rr 18 (by omega) (by omega) (by omega) (by omega)]; exact f3, by rw [rr 19 (by omega) (by omega) (by omega) (by omega)]; exact f4, rStk_of _ (fun k hk => ?_), fun j hj => ?_, rBk.row _ (fun j _ => by rw [rr 22 (by omega) (by omega) (by omega) (by omega), rr 23 (by omega) (by omega) (by omega) (by omega)]; exact ⟨rfl, rfl⟩) f7⟩
      · obtain ⟨x1, x2⟩ := (s4 f hf k hk).1 (Or.inl hf)
        rw [rU _ _ (by omega) (by omega), x1, (to4 x2).2]
      · obtain ⟨x1, x2⟩ := l4 f hf j hj
        show (match (s.f.reverse.getD f xF0).2.2.2.1 j with
          | none => V.rI (m + 21) (8 * f + j) = -1000000
          | some v => V.rI (m + 21) (8 * f + j) = gV (gD s.H M) v)
        cases el : (s.f.reverse.getD f xF0).2.2.2.1 j with
        | none =>
          show V.rI (m + 21) (8 * f + j) = -1000000
          rw [rU _ _ (by omega) (by omega)]
          exact x1 el
        | some v =>
          obtain ⟨x3, x4⟩ := (x2 v el).1 (Or.inl hf)
          show V.rI (m + 21) (8 * f + j) = gV (gD s.H M) v
          rw [rU _ _ (by omega) (by omega), x3, (to4 x4).2]
    · rw [iU 106 (by decide), if_neg (by decide)]; exact a7
    · obtain ⟨x1, x2⟩ := d3 i hi
      obtain ⟨x3, x4⟩ := gx4.in (H := s.H) x2
      refine ⟨by rw [eRJ]; exact (a8 i hi).1, ?_⟩
      rw [rU _ _ (by omega) (by omega), ph4.2.2.2.2.2.2.2.2 (m + 25) (by omega) (by omega) (fun r z => by omega), x1, (to4 x3).2, x4]
    · rw [iU 92 (by decide), if_neg (by decide)]; exact b1
    · rw [iU 93 (by decide), if_neg (by decide)]; exact b2
    · rw [iU 94 (by decide), if_neg (by decide)]; exact b3
    · rw [iU 95 (by decide), if_neg (by decide)]; exact b4
    · rw [iU 97 (by decide), if_pos rfl, (to4 hr4).2]
    · obtain ⟨i, hi, e⟩ := List.getElem_of_mem hv
      obtain ⟨-, -, -, -, x2⟩ := cin c hc i hi
      rw [List.getD_eq_getElem?_getD, List.getElem?_eq_getElem hi] at x2
      rw [← e]; exact x2
    · obtain ⟨i, hi, e⟩ := List.getElem_of_mem hg
      have x2 := (to4 (gx4.in (H := s.H) (d3 i hi).2).1).1
      rw [List.getD_eq_getElem?_getD, List.getElem?_eq_getElem hi] at x2
      rw [← e]; exact x2
    · obtain ⟨i, hi, e⟩ := List.getElem_of_mem (List.mem_reverse.mpr hg)
      have hf : i < s.f.length := by rw [List.length_reverse] at hi; exact hi
      have eg : s.f.reverse.getD i xF0 = g := by rw [List.getD_eq_getElem?_getD, List.getElem?_eq_getElem hi]; exact e
      refine ⟨fun v hv => ?_, fun j v hv => ?_⟩
      · obtain ⟨j, hj, e'⟩ := List.getElem_of_mem hv
        have hj' : g.2.2.1.length - 1 - j < (s.f.reverse.getD i xF0).2.2.1.length := by rw [eg]; omega
        have := (s4 i hf (g.2.2.1.length - 1 - j) hj').1 (Or.inl hf)
        dsimp only at this
        rw [eg, show g.2.2.1.length - 1 - (g.2.2.1.length - 1 - j) = j by omega, List.getD_eq_getElem?_getD, List.getElem?_eq_getElem hj] at this
        rw [← e']; exact (to4 this.2).1
      · have j8 := ((fl g hg).2.2 j v hv).2
        have := ((l4 i hf j j8).2 v (by show (s.f.reverse.getD i xF0).2.2.2.1 j = some v; rw [eg]; exact hv)).1 (Or.inl hf)
        exact (to4 this.2).1
  · have := rStk.at ((fun f => s.f.reverse.getD f xF0) g).2.2.1 ((s.f.reverse.getD g xF0).2.2.1.length - 1 - j) (by show (s.f.reverse.getD g xF0).2.2.1.length - 1 - j < (s.f.reverse.getD g xF0).2.2.1.length; have hj' : j < (s.f.reverse.getD g xF0).2.2.1.length := hj; omega) (frs g hg).2.2.2.2.1
    have hj' : j < (s.f.reverse.getD g xF0).2.2.1.length := hj
    rw [r3 20 (by omega) (by omega)]
    rw [show ((fun f => s.f.reverse.getD f xF0) g).2.2.1.length - 1 - ((s.f.reverse.getD g xF0).2.2.1.length - 1 - j) = j by show (s.f.reverse.getD g xF0).2.2.1.length - 1 - ((s.f.reverse.getD g xF0).2.2.1.length - 1 - j) = j; omega] at this
    exact this
  · have lo := (frs g hg).2.2.2.2.2.1 j hj
    have lo' : (match (s.f.reverse.getD g xF0).2.2.2.1 j with
      | none => S.rI (m + 21) (8 * g + j) = -1000000
      | some v => S.rI (m + 21) (8 * g + j) = gV γ v) := lo
    rw [r3 21 (by omega) (by omega)]
    refine ⟨fun z => ?_, fun w hw => ⟨fun z => absurd z (by omega), fun _ => ?_⟩⟩
    · rw [show (s.f.reverse.getD g xF0).2.2.2.1 j = none from z] at lo'
      exact lo'
    · rw [show (s.f.reverse.getD g xF0).2.2.2.1 j = some w from hw] at lo'
      exact lo'
theorem r_131 (hsp : ox_mono sp) (h : rR S m ce γ B T C nc y s) (hw : xWf C nc K s) (hk : rKc S m C nc) (hC : xClo s.H A) (hAG : xGIn C nc A s.G) (hAr : xIn A s.r) (hAt : xTIn A s.f) (hA : 16 + xSzA s.H A ≤ 1100000) (hQ : ∀ S' γ' B' T', mFx m S S' → rKc S' m C nc → T' ≤ 16 + xSzA s.H A → rR S' m (5 - ce) γ' B' T' C nc y s → Q none S') : ox_M sp (d + 3) 131 [.inr (.inr m)] mr sr S Q := r_131k hsp h hw hk hC hAG hAr hAt hA (fun S' γ' B' T' f1 _ f2 f3 f4 => hQ S' γ' B' T' f1 f2 f3 f4)
end GC5
