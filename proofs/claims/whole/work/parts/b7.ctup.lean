/-! the class's instructions: tuples -/
section CT
variable {d mr sr : Nat} {S S' T : ox_St} {Q : ox_Q} {x : Nat} {α : Int → Nat} {C : Nat → xCd} {nc K : Nat} {e : xEn} {q : Nat} {st r : List Int} {v u : Int} {a : Nat}
theorem xMax_snoc {H : xHp} (l : List Int) (v : Int) : xMax H (l ++ [v]) = max (xMax H l) (xDep H v) := by
  rw [xMax_append]
  show Max.max (xMax H l) (Max.max (xDep H v) 0) = _
  rw [Nat.max_eq_left (Nat.zero_le (xDep H v))]
/-- how deep a row of values is -/
theorem oDp_max {H : xHp} {n : Int} (hB : cBs T x) (hp : cHp T x α C nc H) (hH : xHOk nc K H n) {t : Nat} {l : List Int} (hl : ∀ i, i < l.length → vC T x α (l.getD i 0) (T.rR t i)) (ok : ∀ v ∈ l, xOk nc H v) : ∀ i, i ≤ l.length → oDp T t i = nI (xMax H (l.take i))
  | 0, _ => rfl
  | i + 1, hi => by
    have ih := oDp_max hB hp hH hl ok i (by omega)
    have hi' : i < l.length := by omega
    have hg : l.getD i 0 = l[i] := by rw [List.getD_eq_getElem?_getD, List.getElem?_eq_getElem hi']; rfl
    have ht : l.take (i + 1) = l.take i ++ [l[i]] := (List.take_append_getElem hi').symm
    have okv : xOk nc H l[i] := ok _ (List.getElem_mem hi')
    have hv := hl i hi'
    rw [hg] at hv
    obtain ⟨k1, -, -⟩ := cV hB hp hH hv okv
    have b1 := xMax_le hH (l.take i)
    have b2 := xDep_le hH l[i]
    rw [ht, xMax_snoc]
    show (if T.K (T.rR t i) = 10 ∧ ¬ T.I 57 (T.rR t i) ≤ oDp T t i then T.I 57 (T.rR t i) else oDp T t i) = _
    rw [ih]
    by_cases z : T.K (T.rR t i) = 10
    · obtain ⟨qt, hq⟩ := (xKd_10 hH).mp (k1.symm.trans z)
      have ha : T.rR t i = α l[i] := by
        obtain ⟨-, -, -, y⟩ := hv
        have := (hH.2 _ _ hq).1
        rcases y with y | y | y | y | y <;> first | exact y.2 | omega
      obtain ⟨-, -, tt, o1, o2, o3, -⟩ := hp.1 _ _ hq
      have hd : xDep H l[i] = qt.2 := by unfold xDep; rw [hq]
      rw [← ha, ← hd] at o3
      rw [o3]
      by_cases y : xDep H l[i] ≤ xMax H (l.take i)
      · rw [if_neg (fun m => m.2 ((nI_leI (by omega) (by omega)).mpr y)), Nat.max_eq_left y]
      · rw [if_pos ⟨z, fun m => y ((nI_leI (by omega) (by omega)).mp m)⟩, Nat.max_eq_right (by omega)]
    · have hd : xDep H l[i] = 0 := by
        unfold xDep
        cases m : H l[i] with
        | none => rfl
        | some o =>
          match o, m with
          | .inl _, _ => rfl
          | .inr (.inl p), m => exact absurd (k1.trans ((xKd_10 hH).mpr ⟨p, m⟩)) z
          | .inr (.inr _), _ => rfl
      rw [if_neg (fun m => z m.1), hd, Nat.max_eq_left (Nat.zero_le _)]
/-- a new tuple of a new row -/
theorem tup_new (h : cE S x α C nc e q st) (hx : xEs1 C nc K e st) (hI : cI x (cW0 x) S T) {t : Nat} {l : List Int} (ht : S.n ≤ t) (htn : t < T.n) (kt : T.K t = 19) (lt : T.len t = l.length) (l12 : l.length ≤ 12) (hl : ∀ i, i < l.length → vC T x α (l.getD i 0) (T.rR t i)) (ok : ∀ v ∈ l, xOk nc e.H v) : cO (oMkTuple (T.newO 10) T.n t) x (upA α e.n T.n) C e.n (.inr (.inl (l, xMax e.H l + 1))) ∧ cI x (cW0 x) S (oMkTuple (T.newO 10) T.n t) ∧ (oMkTuple (T.newO 10) T.n t).n = T.n + 1 ∧ (oMkTuple (T.newO 10) T.n t).K T.n = 10 ∧ (oMkTuple (T.newO 10) T.n t).I 57 T.n = nI (xMax e.H l + 1) := by
  have hn := h.n
  have hT := h.same hx hI
  have hSn := hI.1.1
  have hself : upA α e.n T.n e.n = T.n := if_pos rfl
  have hI1 : cI x (cW0 x) T (T.newO 10) := cI.refl.newO
  have hT1 := hT.same hx hI1
  have vl1 : ∀ i, i < l.length → vC (T.newO 10) x α (l.getD i 0) ((T.newO 10).rR t i) := fun i hi => (hl i hi).next hI1 rfl
  have hdp : oDp (T.newO 10) t l.length = nI (xMax e.H l) := by
    have := oDp_max hT1.1 hT1.hp hx.1.1 vl1 ok l.length (Nat.le_refl _)
    rw [List.take_length] at this
    exact this
  have k10 : (T.newO 10).K T.n = 10 := by rw [or_newO_K, if_pos rfl]
  have hI2 : cI x (cW0 x) T (oMkTuple (T.newO 10) T.n t) := ((((cI.refl.newO).sI (Or.inl (Nat.le_refl _))).sI (Or.inl (Nat.le_refl _))).sR (Or.inl (Nat.le_refl _))).sI (Or.inl (Nat.le_refl _))
  have eK : (oMkTuple (T.newO 10) T.n t).K = (T.newO 10).K := by unfold oMkTuple oV0; rw [or_sI_K, or_sR_K, or_sI_K, or_sI_K]
  have el : (oMkTuple (T.newO 10) T.n t).len = T.len := by unfold oMkTuple oV0; rw [or_sI_len, or_sR_len, or_sI_len, or_sI_len, or_newO_len]
  have er : (oMkTuple (T.newO 10) T.n t).rR = T.rR := by unfold oMkTuple oV0; rw [or_sI_rR, or_sR_rR, or_sI_rR, or_sI_rR, or_newO_rR]
  have en : (oMkTuple (T.newO 10) T.n t).n = T.n + 1 := by unfold oMkTuple oV0; rw [or_sI_n, or_sR_n, or_sI_n, or_sI_n, or_newO_n]
  have i57 : (oMkTuple (T.newO 10) T.n t).I 57 T.n = nI (xMax e.H l + 1) := by
    unfold oMkTuple
    rw [or_sI_I, if_pos ⟨rfl, rfl⟩, or_newO_len, lt, hdp, nI_1]
  have e56 : (oMkTuple (T.newO 10) T.n t).R 56 T.n = t := by unfold oMkTuple; rw [or_sI_R, or_sR_R, if_pos ⟨rfl, rfl⟩]
  have e6 : (oMkTuple (T.newO 10) T.n t).I 6 T.n = 4 := by
    unfold oMkTuple oV0
    rw [or_sI_I, if_neg (fun z => by cases z.1), or_sR_I, or_sI_I, if_neg (fun z => by cases z.1), or_sI_I, if_pos ⟨rfl, rfl⟩]
  have k10' : (oMkTuple (T.newO 10) T.n t).K T.n = 10 := by rw [eK]; exact k10
  have kt' : (oMkTuple (T.newO 10) T.n t).K t = 19 := by rw [eK, or_newO_K, if_neg (by omega)]; exact kt
  generalize oMkTuple (T.newO 10) T.n t = U at hI2 eK el er en i57 e56 e6 k10' kt' ⊢
  refine ⟨⟨by rw [hself]; omega, by rw [hself, en]; exact Nat.lt_succ_self _, ?_⟩, hI.trans hI2, en, k10', i57⟩
  rw [hself]
  refine ⟨t, ⟨k10', e56, kt', by rw [el]; exact lt, l12⟩, e6, i57, ⟨by rw [en]; exact Nat.lt_succ_of_lt htn, Or.inr (Or.inr (by omega))⟩, fun i hi => ?_⟩
  have hm : l.getD i 0 ∈ l := by
    rw [List.getD_eq_getElem?_getD, List.getElem?_eq_getElem hi]
    exact List.getElem_mem hi
  have hlt := hx.1.1.lt (ok _ hm)
  rw [er]
  exact (hl i hi).next hI2 (if_neg (by show ¬ l.getD i 0 = e.n; omega))
/-- the items of TUPLE -/
theorem take_rev {st : List Int} {a j : Nat} (ha : a ≤ st.length) (hj : j < a) : (st.take a).reverse.getD j 0 = st.getD (a - 1 - j) 0 := by
  rw [List.getD_eq_getElem?_getD, List.getD_eq_getElem?_getD, List.getElem?_reverse (by rw [List.length_take]; omega), List.length_take, Nat.min_eq_left ha, List.getElem?_take, if_pos (by omega)]
theorem c_64_l (h : cE S x α C nc e q st) (hx : xEs1 C nc K e st) {a : Nat} (ha : a ≤ st.length) (hl : st.length - a < 10) (a10 : a ≤ 10) (hm : 1 ≤ mr) (hs : 4 ≤ sr) (hQ : ∀ S' α' y, cN x S S' → cX S' x α' C nc e q st (xTp e q (st.take a) (st.drop a)) y → Q (some (.inl y)) S') : ∀ (k i : Nat) (T : ox_St), i + k = a → cI x (cW0 x) S T → T.n = S.n + 1 → T.K S.n = 19 → T.len S.n = a → (∀ j, j < i → T.rR S.n j = S.rR (x + 28 + 5 * e.t.length + 2) (st.length - a + j)) → c_64_20 (ox_M lw_sp (d + 3)) (x + 28 + 5 * e.t.length) (nI a) S.n (nI i) T mr sr Q := by
  have hsp := lw_sp_mono
  have hE : ox_mono (ox_M lw_sp (d + 3)) := ox_M_mono hsp _
  have hn := h.n
  intro k
  induction k with
  | zero =>
    intro i T hi hI tn tk tl hr
    obtain rfl : i = a := by omega
    have hT := h.same hx hI
    have hlen : (st.take i).reverse.length = i := by rw [List.length_reverse, List.length_take]; omega
    have vl : ∀ j, j < (st.take i).reverse.length → vC T x α ((st.take i).reverse.getD j 0) (T.rR S.n j) := fun j hj => by
      rw [hlen] at hj
      rw [hr j hj, take_rev ha hj]
      have := (cStk.at st (i - 1 - j) (by omega) h.sk).next (α' := α) hI rfl
      rw [show st.length - 1 - (i - 1 - j) = st.length - i + j by omega] at this
      exact this
    have okl : ∀ v ∈ (st.take i).reverse, xOk nc e.H v := fun v hv => hx.2.1 v (List.mem_of_mem_take (List.mem_reverse.mp hv))
    obtain ⟨t1, t2, t3, t4, t5⟩ := tup_new h hx hI (t := S.n) (l := (st.take i).reverse) (Nat.le_refl _) (by omega) tk (by rw [hlen]; exact tl) (by omega) vl okl
    have k0 : (T.newO 10).K 0 = 0 := by rw [or_newO_K, if_neg (by omega)]; exact hT.1.2.2.1
    have mx := xMax_le hx.1.1 (st.take i)
    rw [xMax_reverse] at t1 t5
    refine f_64_20 hE ⟨fun _ => ⟨hm, hs, by decide, by omega, by decide, 0, 0, Nat.zero_le _, Nat.zero_le _, s_86 (n := i) hsp (by omega) (by rw [or_newO_K, if_pos rfl]) (by rw [or_newO_K, if_neg (by omega)]; exact tk) tl (by omega) (fun j hj => Or.inr ?_) k0 (f_64_51 hE ⟨by rw [t4]; rfl, fun z => ⟨by decide, by decide, 0, 0, Nat.zero_le _, Nat.zero_le _, ?_⟩, fun z => f_64_71 hE ⟨trivial, ?_⟩⟩)⟩, fun z => absurd (nI_le (Nat.le_refl i) (by omega)) z⟩
    · have hv := vl j (by rw [hlen]; exact hj)
      have hm2 : (st.take i).reverse.getD j 0 ∈ (st.take i).reverse := by
        rw [List.getD_eq_getElem?_getD, List.getElem?_eq_getElem (by rw [hlen]; exact hj)]
        exact List.getElem_mem _
      have := (hT.kv hx hv (okl _ hm2)).2.2
      show ox_isV ((T.newO 10).K (T.rR S.n j)) = true
      rw [or_newO_K, if_neg (by have := hv.2.1; omega)]
      exact this
    · rw [t5] at z
      have z' := (nI_leI (b := 4) (by omega) (by decide)).mp z
      have n4 : xMax e.H (st.take i) ≠ 4 := by omega
      have hr2 : xTp e q (st.take i) (st.drop i) = xMk e q (st.drop i) (.inr (.inl ((st.take i).reverse, xMax e.H (st.take i) + 1))) := by unfold xTp; rw [if_neg n4]
      rw [hr2] at hQ
      rw [tn] at t1 t2 t4 ⊢
      refine c_new hsp h hx t2 (i := i) (o := .inr (.inl ((st.take i).reverse, xMax e.H (st.take i) + 1))) ha ?_ (Nat.le_succ _) t1 ⟨by rw [hlen]; omega, by show _ = xMax e.H (st.take i).reverse + 1; rw [xMax_reverse], z', okl⟩ (by rw [t4]; rfl) (fun S' g1 g2 => f_64_71 hE ⟨trivial, hQ S' _ (-1) g1 g2⟩)
      exact hl
    · rw [t5] at z
      have z' : ¬ xMax e.H (st.take i) + 1 ≤ 4 := fun y => z ((nI_leI (b := 4) (by omega) (by decide)).mpr y)
      have n4 : xMax e.H (st.take i) = 4 := by omega
      have hr2 : xTp e q (st.take i) (st.drop i) = .inl 6 := by unfold xTp; rw [if_pos n4]
      rw [hr2] at hQ
      exact hQ _ α 6 ((t2.mono (W' := cWf x e.t.length) cW0_f).cN hn hx.t7) ⟨rfl, h.same hx t2⟩
  | succ k ih =>
    intro i T hi hI tn tk tl hr
    have hT := h.same hx hI
    have hia : i < a := by omega
    have kF := (hT.oF hx).1
    have ei : nI a - 1 - nI i = nI (a - 1 - i) := by rw [show (1 : Int32) = nI 1 from rfl, pk_sub (by omega), pk_sub (by omega)]
    refine f_64_20 hE ⟨fun z => absurd z (nI_ge hia (by omega)), fun _ => ⟨by decide, kF, by decide, 0, 0, Nat.zero_le _, Nat.zero_le _, ?_⟩⟩
    rw [ei]
    refine c_fromTop hsp hT hx (i := a - 1 - i) (by omega) (fun hv => f_64_36 hE ⟨by rw [tk]; rfl, by rw [tl]; exact vp_in_nI hia (by omega), Or.inr ?_, ?_⟩)
    · rw [tk]
      have okv : xOk nc e.H (st.getD (a - 1 - i) 0) := hx.2.1 _ (by
        rw [List.getD_eq_getElem?_getD, List.getElem?_eq_getElem (by omega)]
        exact List.getElem_mem _)
      exact (hT.kv hx hv okv).2.2
    · rw [nI_clamp (by omega), nI_1]
      have hrow : T.rR (x + 28 + 5 * e.t.length + 2) (st.length - 1 - (a - 1 - i)) = S.rR (x + 28 + 5 * e.t.length + 2) (st.length - a + i) := by
        rw [show st.length - 1 - (a - 1 - i) = st.length - a + i by omega]
        exact (hI.at (a := x + 28 + 5 * e.t.length + 2) (by have := hx.t7; omega) (fun z => by unfold cW0 at z; omega)).2.2.2.2.1 _
      refine ih (i + 1) _ (by omega) (hI.wR (Or.inl (Nat.le_refl _))) tn tk tl (fun j hj => ?_)
      show (T.wR S.n i _).rR S.n j = _
      rw [or_wR_rR]
      by_cases z : j = i
      · rw [if_pos ⟨rfl, z⟩, hrow, z]
      · rw [if_neg (fun y => z y.2)]
        exact hr j (by omega)
end CT
