/-! the class's instructions: TUPLE, SPREAD, WALK, FUNCTION -/
section CY
variable {d mr sr : Nat} {S S' T : ox_St} {Q : ox_Q} {x : Nat} {α : Int → Nat} {C : Nat → xCd} {nc K : Nat} {e : xEn} {q : Nat} {st r : List Int} {v u : Int} {a : Nat}
/-- TUPLE -/
theorem c_64 (h : cE S x α C nc e q st) (hx : xEs1 C nc K e st) {a : Nat} (ha : a ≤ st.length) (hl : st.length - a < 10) (a10 : a ≤ 10) (hm : 2 ≤ mr) (hs : 20 ≤ sr) (hQ : ∀ S' α' y, cN x S S' → cX S' x α' C nc e q st (xTp e q (st.take a) (st.drop a)) y → Q (some (.inl y)) S') : ox_M lw_sp (d + 4) 64 [.inr (.inr (x + 28 + 5 * e.t.length)), .inl (nI a)] mr sr S Q := by
  have hE : ox_mono (ox_M lw_sp (d + 3)) := ox_M_mono lw_sp_mono _
  have cl : Int32.toNatClampNeg (nI a) = a := nI_clamp (by omega)
  refine f_64 lw_sp_mono ⟨fun z => absurd z (nI_pos (by omega)), fun _ => ⟨fun _ => ⟨nI_pos (by omega), by rw [cl]; omega, by omega, by rw [cl]; omega, ?_⟩, fun z => absurd (nI_le (b := 12) (by omega) (by omega)) z⟩⟩
  rw [cl]
  exact c_64_l h hx ha hl a10 (by omega) (by omega) hQ a 0 (S.newA 19 a) (Nat.zero_add _) cI.refl.newA rfl (by rw [or_newA_K, if_pos rfl]) (by rw [or_newA_len, if_pos rfl]) (fun j hj => absurd hj (Nat.not_lt_zero j))
/-- a new walker -/
theorem wlk_new (h : cE S x α C nc e q st) (hx : xEs1 C nc K e st) {o : Nat} (hv : vC S x α v o) (ok : xOk nc e.H v) : cO (oMkWalker (S.newO 12) S.n o) x (upA α e.n S.n) C e.n (.inr (.inr (.inr (.inl (v, 0))))) ∧ cI x (cW0 x) S (oMkWalker (S.newO 12) S.n o) ∧ (oMkWalker (S.newO 12) S.n o).K S.n = 12 := by
  have hn := h.n
  have hself : upA α e.n S.n e.n = S.n := if_pos rfl
  have hI : cI x (cW0 x) S (oMkWalker (S.newO 12) S.n o) := (((cI.refl.newO).sI (Or.inl (Nat.le_refl _))).sI (Or.inl (Nat.le_refl _))).sR (Or.inl (Nat.le_refl _))
  have eK : (oMkWalker (S.newO 12) S.n o).K S.n = 12 := by unfold oMkWalker oV0; rw [or_sR_K, or_sI_K, or_sI_K, or_newO_K, if_pos rfl]
  have en : (oMkWalker (S.newO 12) S.n o).n = S.n + 1 := by unfold oMkWalker oV0; rw [or_sR_n, or_sI_n, or_sI_n, or_newO_n]
  have e58 : (oMkWalker (S.newO 12) S.n o).R 58 S.n = o := by unfold oMkWalker; rw [or_sR_R, if_pos ⟨rfl, rfl⟩]
  have e6 : (oMkWalker (S.newO 12) S.n o).I 6 S.n = 6 := by
    unfold oMkWalker oV0
    rw [or_sR_I, or_sI_I, if_neg (fun z => by cases z.1), or_sI_I, if_pos ⟨rfl, rfl⟩]
  have e59 : (oMkWalker (S.newO 12) S.n o).J 59 S.n = lN 0 := by
    unfold oMkWalker oV0
    rw [or_sR_J, or_sI_J, or_sI_J, or_newO_J, if_pos rfl]; rfl
  generalize oMkWalker (S.newO 12) S.n o = U at hI eK en e58 e6 e59 ⊢
  refine ⟨⟨by rw [hself]; omega, by rw [hself, en]; omega, ?_⟩, hI, eK⟩
  rw [hself]
  refine ⟨eK, e6, ?_, e59⟩
  rw [e58]
  exact hv.next hI (if_neg (by show ¬ v = e.n; have := hx.1.1.lt ok; omega))
/-- WALK -/
theorem c_66 (h : cE S x α C nc e q (v :: r)) (hx : xEs1 C nc K e (v :: r)) (hm : 2 ≤ mr) (hs : 20 ≤ sr) (hQ : ∀ S' α' y, cN x S S' → cX S' x α' C nc e q (v :: r) (xWalk e q r v) y → Q (some (.inl y)) S') : ox_M lw_sp (d + 3) 66 [.inr (.inr (x + 28 + 5 * e.t.length))] mr sr S Q := by
  have hsp := lw_sp_mono
  have hE : ox_mono (ox_M lw_sp (d + 2)) := ox_M_mono hsp _
  have k := (h.oF hx).1
  have hn := h.n
  have hH := hx.1.1
  have l10 : r.length + 1 ≤ 10 := hx.2.2.1
  refine f_66 hsp ⟨by decide, k, by decide, 0, 0, Nat.zero_le _, Nat.zero_le _, c_top hsp h hx (fun hv => ?_)⟩
  obtain ⟨k1, k2, k3⟩ := h.kv hx hv hx.head
  refine f_66_5 hE ⟨Or.inr k3, fun z => ⟨by decide, ?_⟩, fun z => ⟨trivial, ?_⟩⟩
  · have n12 := if_10 z
    refine c_size (d := d + 1) (k := fun m s => k_66_19 (ox_M lw_sp (d + 2)) (x + 28 + 5 * e.t.length) (S.rR (x + 28 + 5 * e.t.length + 2) r.length) m s Q) hsp h hx hv hx.head (f_66_19 hE ⟨fun y => ?_, fun y => f_66_43 hE ⟨trivial, ?_⟩⟩)
    · cases hl : xLen e.H v with
      | none =>
        exfalso
        rw [hl] at y
        exact y rfl
      | some m =>
        have hw : xWalk e q r v = xMk e q r (.inr (.inr (.inr (.inl (v, 0))))) := by
          unfold xWalk
          unfold xLen at hl
          cases z : e.H v with
          | none => rw [z] at hl; cases hl
          | some o =>
            rw [z] at hl
            match o, hl with
            | .inl _, hl => cases hl
            | .inr (.inl _), _ => rfl
            | .inr (.inr (.inl _)), _ => rfl
            | .inr (.inr (.inr _)), hl => cases hl
        rw [hw] at hQ
        obtain ⟨w1, w2, w3⟩ := wlk_new h hx hv hx.head
        refine ⟨by omega, by omega, by decide, by omega, by decide, 0, 0, Nat.zero_le _, Nat.zero_le _, s_92 hsp (by omega) (by rw [or_newO_K, if_pos rfl]) (f_66_40 hE ⟨by decide, by decide, 0, 0, Nat.zero_le _, Nat.zero_le _, ?_⟩)⟩
        exact c_new hsp h hx w2 (i := 1) (o := .inr (.inr (.inr (.inl (v, 0))))) (by simp) (by simp only [List.length_cons]; omega) (Nat.le_refl _) w1 ⟨by show xLen e.H v ≠ none; rw [hl]; exact fun z => (by cases z), Nat.zero_le _⟩ (by rw [w3]; rfl) (fun S' g1 g2 => f_66_43 hE ⟨trivial, hQ S' _ (-1) g1 g2⟩)
    · refine hQ S α 0 cN.refl ?_
      have hw : xWalk e q r v = .inl 0 := by
        unfold xWalk
        cases z : e.H v with
        | none => rfl
        | some o =>
          match o, z with
          | .inl _, _ => rfl
          | .inr (.inl p), z =>
            exfalso
            have hl : xLen e.H v = some p.1.length := by unfold xLen; rw [z]
            rw [hl] at y
            have := congrArg Int64.toInt ((lg_cmp_eq _ _).mp y)
            have hb := xLen_le hH hl
            have hm1 : (-1 : Int64).toInt = -1 := rfl
            rw [pf_lI (by omega), hm1] at this
            omega
          | .inr (.inr (.inl p)), z =>
            exfalso
            have hl : xLen e.H v = some (rgN p.1 p.2.1 p.2.2) := by unfold xLen; rw [z]
            rw [hl] at y
            have := congrArg Int64.toInt ((lg_cmp_eq _ _).mp y)
            have hb := xLen_le hH hl
            have hm1 : (-1 : Int64).toInt = -1 := rfl
            rw [pf_lI (by omega), hm1] at this
            omega
          | .inr (.inr (.inr (.inl p))), z => exact absurd (k1.trans ((xKd_12 hH).mpr ⟨p, z⟩)) n12
          | .inr (.inr (.inr (.inr _))), _ => rfl
      rw [hw]
      exact ⟨rfl, h⟩
  · have h12 := if_11 z
    obtain ⟨p, hp⟩ := (xKd_12 hH).mp (k1.symm.trans h12)
    refine hQ S α (-1) cN.refl ?_
    have hw : xWalk e q r v = xGo e q (v :: r) := by unfold xWalk; rw [hp]
    rw [hw]
    exact cX_go h
/-- a new function -/
theorem fun_new (h : cE S x α C nc e q st) (hx : xEs1 C nc K e st) {c : Nat} (hc : c < nc) : cO (oMkFunction (S.newO 5) S.n (α (-1 - c))) x (upA α e.n S.n) C e.n (.inr (.inr (.inr (.inr c)))) ∧ cI x (cW0 x) S (oMkFunction (S.newO 5) S.n (α (-1 - c))) ∧ (oMkFunction (S.newO 5) S.n (α (-1 - c))).K S.n = 5 := by
  have hn := h.n
  obtain ⟨c1, c2, c3, -⟩ := h.hp.2.1 c hc
  have hI : cI x (cW0 x) S (oMkFunction (S.newO 5) S.n (α (-1 - c))) := (((cI.refl.newO).sI (Or.inl (Nat.le_refl _))).sI (Or.inl (Nat.le_refl _))).sR (Or.inl (Nat.le_refl _))
  have eK : (oMkFunction (S.newO 5) S.n (α (-1 - c))).K S.n = 5 := by unfold oMkFunction oV0; rw [or_sR_K, or_sI_K, or_sI_K, or_newO_K, if_pos rfl]
  have en : (oMkFunction (S.newO 5) S.n (α (-1 - c))).n = S.n + 1 := by unfold oMkFunction oV0; rw [or_sR_n, or_sI_n, or_sI_n, or_newO_n]
  have e22 : (oMkFunction (S.newO 5) S.n (α (-1 - c))).R 22 S.n = α (-1 - c) := by unfold oMkFunction; rw [or_sR_R, if_pos ⟨rfl, rfl⟩]
  have e6 : (oMkFunction (S.newO 5) S.n (α (-1 - c))).I 6 S.n = 7 := by
    unfold oMkFunction oV0
    rw [or_sR_I, or_sI_I, if_neg (fun z => by cases z.1), or_sI_I, if_pos ⟨rfl, rfl⟩]
  have e7 : (oMkFunction (S.newO 5) S.n (α (-1 - c))).I 7 S.n = nI (cdA (C c).1) := by
    unfold oMkFunction oV0
    rw [or_sR_I, or_sI_I, if_pos ⟨rfl, rfl⟩, or_newO_I, if_neg (by omega)]
    exact c3.2.1.1
  generalize oMkFunction (S.newO 5) S.n (α (-1 - c)) = U at hI eK en e22 e6 e7 ⊢
  have hself : upA α e.n S.n e.n = S.n := if_pos rfl
  have h16 := hx.1.1.1
  refine ⟨⟨by rw [hself]; omega, by rw [hself, en]; omega, ?_⟩, hI, eK⟩
  rw [hself]
  exact ⟨eK, e6, e22.trans (if_neg (by show ¬ (-1 - (c : Int)) = e.n; omega)).symm, e7⟩
/-- FUNCTION -/
theorem c_73 (h : cE S x α C nc e q (v :: r)) (hx : xEs1 C nc K e (v :: r)) (hm : 2 ≤ mr) (hs : 20 ≤ sr) (hQ : ∀ S' α' y, cN x S S' → cX S' x α' C nc e q (v :: r) (if v < 0 then xMk e q r (.inr (.inr (.inr (.inr (-1 - v).toNat)))) else .inl 0) y → Q (some (.inl y)) S') : ox_M lw_sp (d + 3) 73 [.inr (.inr (x + 28 + 5 * e.t.length))] mr sr S Q := by
  have hsp := lw_sp_mono
  have hE : ox_mono (ox_M lw_sp (d + 2)) := ox_M_mono hsp _
  have k := (h.oF hx).1
  have hn := h.n
  have hH := hx.1.1
  have l10 : r.length + 1 ≤ 10 := hx.2.2.1
  refine f_73 hsp ⟨by decide, k, by decide, 0, 0, Nat.zero_le _, Nat.zero_le _, c_top hsp h hx (fun hv => ?_)⟩
  obtain ⟨k1, k2, k3⟩ := h.kv hx hv hx.head
  refine f_73_5 hE ⟨Or.inr k3, fun z => ⟨trivial, ?_⟩, fun z => ?_⟩
  · have n3 := if_10 z
    refine hQ S α 0 cN.refl ?_
    rw [if_neg (fun y => n3 (k1.trans ((xKd_3 hH).mpr y)))]
    exact ⟨rfl, h⟩
  · have h3 := if_11 z
    have v0 : v < 0 := (xKd_3 hH).mp (k1.symm.trans h3)
    rw [if_pos v0] at hQ
    have hc : (-1 - v).toNat < nc := by
      rcases hx.head with y | y
      · omega
      · exact absurd (hH.low (by omega)) y
    have ev : -1 - ((-1 - v).toNat : Int) = v := by omega
    have ha : S.rR (x + 28 + 5 * e.t.length + 2) r.length = α (-1 - ((-1 - v).toNat : Int)) := by
      rw [ev]
      obtain ⟨-, -, -, y⟩ := hv
      rcases y with y | y | y | y | y <;> first | exact y.2 | omega
    obtain ⟨w1, w2, w3⟩ := fun_new h hx hc
    refine ⟨Or.inr (by rw [h3]; rfl), by omega, by omega, by decide, by omega, by decide, 0, 0, Nat.zero_le _, Nat.zero_le _, s_28 hsp (by omega) (by rw [or_newO_K, if_pos rfl]) (by rw [or_newO_K, if_neg (by have := hv.2.1; omega)]; exact h3) (f_73_28 hE ⟨by decide, by decide, 0, 0, Nat.zero_le _, Nat.zero_le _, ?_⟩)⟩
    rw [ha]
    exact c_new hsp h hx w2 (i := 1) (o := .inr (.inr (.inr (.inr (-1 - v).toNat)))) (by simp) (by simp only [List.length_cons]; omega) (Nat.le_refl _) w1 hc (by rw [w3]; rfl) (fun S' g1 g2 => f_73_31 hE ⟨trivial, hQ S' _ (-1) g1 g2⟩)
/-- SPREAD: the items, the last one first -/
theorem c_65_l {sp : ox_E} (hsp : ox_mono sp) {dd : Nat} {l : List Int} {w1 : Int32} (hq : e.H v = some (.inr (.inl (l, dd)))) (hQ : ∀ S', cN x S S' → cE S' x α C nc e q (l ++ r) → Q (some (.inl (-1))) S') (ok : ∀ v ∈ l, xOk nc e.H v) (okr : ∀ v ∈ r, xOk nc e.H v) (hx0 : xEs1 C nc K e []) (l10 : l.length + r.length ≤ 10) : ∀ (j : Nat) (T : ox_St), j ≤ l.length → cN x S T → cE T x α C nc e q (l.drop j ++ r) → c_65_42 (ox_M sp (d + 1)) (x + 28 + 5 * e.t.length) w1 (α v) (nI j - 1) T mr sr Q := by
  have hE : ox_mono (ox_M sp (d + 1)) := ox_M_mono hsp _
  intro j
  induction j with
  | zero =>
    intro T hj hT h
    exact f_65_42 hE ⟨fun _ => ⟨trivial, hQ T hT h⟩, fun z => absurd (by decide) z⟩
  | succ j ih =>
    intro T hj hT h
    obtain ⟨-, -, t, ⟨t1, t2, t3, t4, t5⟩, -, -, -, vl⟩ := h.hp.1 v _ hq
    have hd : l.drop j = l[j] :: l.drop (j + 1) := List.drop_eq_getElem_cons (by omega)
    have hg : l.getD j 0 = l[j] := by rw [List.getD_eq_getElem?_getD, List.getElem?_eq_getElem (by omega)]; rfl
    have hxT : xEs1 C nc K e (l.drop (j + 1) ++ r) := ⟨hx0.1, fun u hu => by
      rcases List.mem_append.mp hu with z | z
      · exact ok u (List.mem_of_mem_drop z)
      · exact okr u z, by rw [List.length_append, List.length_drop]; omega, hx0.2.2.2⟩
    have kF := (h.oF hxT).1
    have t5' : l.length ≤ 12 := t5
    rw [nI_pred]
    refine f_65_42 hE ⟨fun z => absurd z (nI_pos (by omega)), fun _ => ⟨by rw [t1]; rfl, by rw [t2, t3]; rfl, by rw [t2, t4]; exact vp_in_nI hj (by show l.length < 2 ^ 31; omega), by decide, kF, by decide, 0, 0, Nat.zero_le _, Nat.zero_le _, ?_⟩⟩
    rw [t2, nI_clamp (by omega)]
    have hv : vC T x α (l.getD j 0) (T.rR t j) := vl j hj
    rw [hg] at hv
    refine c_push hsp h hxT (by rw [List.length_append, List.length_drop]; omega) hv (ok _ (List.getElem_mem _)) (fun S2 g1 g2 => f_65_56 hE ?_)
    have e2 : nI j + (-1) = nI j - 1 := by
      cases j with
      | zero => decide
      | succ j => rw [pk_m1, nI_pred]
    show c_65_42 (ox_M sp (d + 1)) (x + 28 + 5 * e.t.length) w1 (α v) (nI j + (-1)) S2 (mr - 0) (sr - 0) Q
    rw [e2]
    refine ih S2 (by omega) (hT.trans g1) ?_
    rw [hd]
    exact g2
theorem c_65 {sp : ox_E} (hsp : ox_mono sp) {a : Nat} (h : cE S x α C nc e q (v :: r)) (hx : xEs1 C nc K e (v :: r)) (a10 : a ≤ 10) (hl : a + r.length ≤ 10) (hQ : ∀ S' α' y, cN x S S' → cX S' x α' C nc e q (v :: r) (xSpr e q a r v) y → Q (some (.inl y)) S') : ox_M sp (d + 2) 65 [.inr (.inr (x + 28 + 5 * e.t.length)), .inl (nI a)] mr sr S Q := by
  have hE : ox_mono (ox_M sp (d + 1)) := ox_M_mono hsp _
  have k := (h.oF hx).1
  have hn := h.n
  have hH := hx.1.1
  refine f_65 hsp ⟨by decide, k, by decide, 0, 0, Nat.zero_le _, Nat.zero_le _, c_top hsp h hx (fun hv => ?_)⟩
  obtain ⟨k1, k2, k3⟩ := h.kv hx hv hx.head
  refine f_65_5 hE ⟨Or.inr k3, fun z => ⟨trivial, ?_⟩, fun z => ?_⟩
  · have n10 := if_10 z
    refine hQ S α 0 cN.refl ?_
    have : xTup e.H v = none := by
      cases y : xTup e.H v with
      | none => rfl
      | some l =>
        obtain ⟨dd, hd⟩ := xTup_some y
        exact absurd (k1.trans ((xKd_10 hH).mpr ⟨_, hd⟩)) n10
    unfold xSpr
    rw [this]
    exact ⟨rfl, h⟩
  · have h10 := if_11 z
    obtain ⟨⟨l, dd⟩, hq⟩ := (xKd_10 hH).mp (k1.symm.trans h10)
    have h16 := (hH.2 v _ hq).1
    have ha := hv.obj (by omega)
    have hxt : xTup e.H v = some l := by unfold xTup; rw [hq]
    obtain ⟨-, -, t, ⟨t1, t2, t3, t4, t5⟩, -, -, -, vl⟩ := h.hp.1 v _ hq
    have t5' : l.length ≤ 12 := t5
    have t4' : S.len t = l.length := t4
    unfold xSpr at hQ
    rw [hxt] at hQ
    dsimp only at hQ
    rw [ha]
    refine ⟨Or.inr (by rw [t1]; rfl), by rw [t1]; rfl, by rw [t2, t3]; rfl, fun y => ⟨by decide, k, by decide, 0, 0, Nat.zero_le _, Nat.zero_le _, ?_⟩, fun y => ⟨trivial, ?_⟩⟩
    · rw [t2, t4'] at y
      have ea : l.length = a := (nI_eq (by omega) (by omega)).mp y
      rw [if_pos ea] at hQ
      refine c_drop (i := 1) hsp h hx (by simp) (fun S2 g1 g2 => ?_)
      obtain ⟨-, -, t', ⟨u1, u2, u3, u4, u5⟩, -⟩ := g2.hp.1 v _ hq
      have u4' : S2.len t' = l.length := u4
      refine f_65_34 hE ⟨by rw [u1]; rfl, by rw [u2, u3]; rfl, ?_⟩
      rw [u2, u4']
      show c_65_42 (ox_M sp (d + 1)) (x + 28 + 5 * e.t.length) (nI a) (α v) (nI l.length - 1) S2 _ _ Q
      refine c_65_l hsp hq (fun S3 m1 m2 => hQ S3 α (-1) m1 (cX_go m2)) ((hH.2 v _ hq).2.2.2.2.2) (fun u hu => hx.2.1 u (List.mem_cons_of_mem _ hu)) ⟨hx.1, (fun u hu => by cases hu), Nat.zero_le _, hx.2.2.2⟩ (by omega) l.length S2 (Nat.le_refl _) g1 ?_
      rw [List.drop_length]
      exact g2
    · rw [t2, t4'] at y
      have ea : l.length ≠ a := fun z => y (by rw [z]; rfl)
      rw [if_neg ea] at hQ
      exact hQ S α 3 cN.refl ⟨rfl, h⟩
end CY
