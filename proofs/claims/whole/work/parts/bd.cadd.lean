/-! the class's instructions: ADD -/
section CAd
variable {d mr sr : Nat} {S S0 S' T : ox_St} {Q : ox_Q} {x : Nat} {α : Int → Nat} {C : Nat → xCd} {nc K : Nat} {e : xEn} {q : Nat} {st r : List Int} {v u : Int} {a : Nat}
theorem getD_app {l l' : List Int} {j : Nat} : (l ++ l').getD j 0 = if j < l.length then l.getD j 0 else l'.getD (j - l.length) 0 := by
  rw [List.getD_eq_getElem?_getD, List.getElem?_append]
  by_cases z : j < l.length
  · rw [if_pos z, if_pos z, List.getD_eq_getElem?_getD]
  · rw [if_neg z, if_neg z, List.getD_eq_getElem?_getD]
theorem c_59_l {tL tR : Nat} (h : cE S x α C nc e q (u :: v :: r)) (hx : xEs1 C nc K e (u :: v :: r)) {l l' : List Int} {dl dr : Nat} (hql : e.H v = some (.inr (.inl (l, dl)))) (hqr : e.H u = some (.inr (.inl (l', dr)))) (h12 : l.length + l'.length ≤ 12) (hm : 1 ≤ mr) (hs : 4 ≤ sr) (hQ : ∀ S' α' y, cN x S S' → cX S' x α' C nc e q (u :: v :: r) (xMk e q r (.inr (.inl (l ++ l', xMax e.H (l ++ l') + 1)))) y → Q (some (.inl y)) S') : ∀ (k i : Nat) (T : ox_St), i + k = l.length + l'.length → cI x (cW0 x) S T → T.n = S.n + 1 → T.K S.n = 19 → T.len S.n = l.length + l'.length → (∀ j, j < i → vC T x α ((l ++ l').getD j 0) (T.rR S.n j)) → T.R 56 (α v) = tL → T.R 56 (α u) = tR → c_59_24 (ox_M lw_sp (d + 3)) (x + 28 + 5 * e.t.length) tL tR (nI (l.length + l'.length)) S.n (nI i) T mr sr Q := by
  have hsp := lw_sp_mono
  have hE : ox_mono (ox_M lw_sp (d + 3)) := ox_M_mono hsp _
  have hn := h.n
  have hH := hx.1.1
  have l10 : r.length + 1 + 1 ≤ 10 := hx.2.2.1
  obtain ⟨-, p2, p3, p4⟩ := (hH.2 v _ hql).2.2
  obtain ⟨-, r2, r3, r4⟩ := (hH.2 u _ hqr).2.2
  have okl : ∀ w ∈ l ++ l', xOk nc e.H w := fun w hw => by
    rcases List.mem_append.mp hw with z | z
    · exact p4 w z
    · exact r4 w z
  have hlen : (l ++ l').length = l.length + l'.length := List.length_append
  have hmem : ∀ j, j < l.length + l'.length → (l ++ l').getD j 0 ∈ l ++ l' := fun j hj => by
    rw [List.getD_eq_getElem?_getD, List.getElem?_eq_getElem (by rw [hlen]; exact hj)]
    exact List.getElem_mem _
  intro k
  induction k with
  | zero =>
    intro i T hi hI tn tk tl hr hL hR
    obtain rfl : i = l.length + l'.length := by omega
    have hT := h.same hx hI
    obtain ⟨t1, t2, t3, t4, t5⟩ := tup_new h hx hI (t := S.n) (l := l ++ l') (Nat.le_refl _) (by omega) tk (by rw [hlen]; exact tl) (by omega) (fun j hj => hr j (by rw [hlen] at hj; exact hj)) okl
    have k0 : (T.newO 10).K 0 = 0 := by rw [or_newO_K, if_neg (by omega)]; exact hT.1.2.2.1
    refine f_59_24 hE ⟨fun _ => ⟨hm, hs, by decide, by omega, by decide, 0, 0, Nat.zero_le _, Nat.zero_le _, s_86 (n := l.length + l'.length) hsp (by omega) (by rw [or_newO_K, if_pos rfl]) (by rw [or_newO_K, if_neg (by omega)]; exact tk) tl (by omega) (fun j hj => Or.inr ?_) k0 (f_59_75 hE ⟨by decide, by decide, 0, 0, Nat.zero_le _, Nat.zero_le _, ?_⟩)⟩, fun z => absurd (nI_le (Nat.le_refl _) (by omega)) z⟩
    · have hv := hr j hj
      have := (hT.kv hx hv (okl _ (hmem j hj))).2.2
      show ox_isV ((T.newO 10).K (T.rR S.n j)) = true
      rw [or_newO_K, if_neg (by have := hv.2.1; omega)]
      exact this
    · have mx : xMax e.H (l ++ l') + 1 ≤ 4 := by
        rw [xMax_append]
        have p2' : dl = xMax e.H l + 1 := p2
        have r2' : dr = xMax e.H l' + 1 := r2
        have p3' : dl ≤ 4 := p3
        have r3' : dr ≤ 4 := r3
        have : Max.max (xMax e.H l) (xMax e.H l') ≤ 3 := Nat.max_le.mpr ⟨by omega, by omega⟩
        omega
      rw [tn] at t1 t2 t4 ⊢
      exact c_new hsp h hx t2 (i := 2) (o := .inr (.inl (l ++ l', xMax e.H (l ++ l') + 1))) (by simp) (by simp only [List.length_cons]; omega) (Nat.le_succ _) t1 ⟨by show (l ++ l').length ≤ 12; omega, rfl, mx, okl⟩ (by rw [t4]; rfl) (fun S' g1 g2 => f_59_78 hE ⟨trivial, hQ S' _ (-1) g1 g2⟩)
  | succ k ih =>
    intro i T hi hI tn tk tl hr hL hR
    have hT := h.same hx hI
    have hia : i < l.length + l'.length := by omega
    obtain ⟨-, -, tL', ⟨a1, a2, a3, a4, a5⟩, -, -, -, aV⟩ := hT.hp.1 v _ hql
    obtain ⟨-, -, tR', ⟨b1, b2, b3, b4, b5⟩, -, -, -, bV⟩ := hT.hp.1 u _ hqr
    rw [show tL' = tL from a2.symm.trans hL] at a3 a4 aV
    rw [show tR' = tR from b2.symm.trans hR] at b3 b4 bV
    have a4' : T.len tL = l.length := a4
    have b4' : T.len tR = l'.length := b4
    have hv0 : (l ++ l').getD i 0 ∈ l ++ l' := hmem i hia
    have step : ∀ b, vC T x α ((l ++ l').getD i 0) b → c_59_24 (ox_M lw_sp (d + 3)) (x + 28 + 5 * e.t.length) tL tR (nI (l.length + l'.length)) S.n (nI (i + 1)) (T.wR S.n i b) mr sr Q := fun b hb => by
      have hIw : cI x (cW0 x) S (T.wR S.n i b) := hI.wR (Or.inl (Nat.le_refl _))
      have hIt : cI x (fun a => a = S.n) T (T.wR S.n i b) := cI.refl.wR (Or.inr rfl)
      refine ih (i + 1) _ (by omega) hIw (by rw [or_wR_n]; exact tn) (by rw [or_wR_K]; exact tk) (by rw [or_wR_len]; exact tl) (fun j hj => ?_) hL hR
      rw [or_wR_rR]
      by_cases z : j = i
      · rw [if_pos ⟨rfl, z⟩, z]; exact hb.next hIt rfl
      · rw [if_neg (fun y => z y.2)]
        exact (hr j (by omega)).next hIt rfl
    have asg : ∀ b, vC T x α ((l ++ l').getD i 0) b → b = 0 ∨ ox_asg (T.K S.n) (T.K b) = true := fun b hb => Or.inr (by rw [tk]; exact (hT.kv hx hb (okl _ hv0)).2.2)
    refine f_59_24 hE ⟨fun z => absurd z (nI_ge hia (by omega)), fun _ => ⟨by rw [a3]; rfl, ?_⟩⟩
    intro w4
    have ew : w4 = nI i - nI l.length := by
      show nI i - Int32.ofNat (T.len tL) = _
      rw [a4']; rfl
    refine ⟨fun z => ?_, fun z => ?_⟩
    · have hle : l.length ≤ i := by
        by_cases y : l.length ≤ i
        · exact y
        · exfalso
          rw [ew] at z
          exact (Int32.not_lt.mpr z) (pk_sneg (by omega) (by omega))
      have ew2 : w4 = nI (i - l.length) := by rw [ew, pk_sub hle]
      have hb := bV (i - l.length) (by show i - l.length < l'.length; omega)
      have hb' : vC T x α ((l ++ l').getD i 0) (T.rR tR (i - l.length)) := by
        rw [getD_app, if_neg (by omega)]; exact hb
      refine ⟨by rw [b3]; rfl, by rw [b4', ew2]; exact vp_in_nI (by omega) (by omega), by rw [tk]; rfl, by rw [tl]; exact vp_in_nI hia (by omega), ?_, ?_⟩
      · rw [ew2, nI_clamp (by omega)]; exact asg _ hb'
      · rw [ew2, nI_clamp (n := i) (by omega), nI_clamp (n := i - l.length) (by omega), nI_1]; exact step _ hb'
    · have hlt : i < l.length := by
        by_cases y : i < l.length
        · exact y
        · exfalso
          rw [ew, pk_sub (by omega)] at z
          exact z (nI_pos' (by omega))
      have hb := aV i hlt
      have hb' : vC T x α ((l ++ l').getD i 0) (T.rR tL i) := by
        rw [getD_app, if_pos hlt]; exact hb
      refine ⟨by rw [a3]; rfl, by rw [a4']; exact vp_in_nI hlt (by omega), by rw [tk]; rfl, by rw [tl]; exact vp_in_nI hia (by omega), ?_, ?_⟩
      · rw [nI_clamp (by omega)]; exact asg _ hb'
      · rw [nI_clamp (by omega), nI_1]; exact step _ hb'
/-- two tuples are joined -/
theorem c_59 (h : cE S x α C nc e q (u :: v :: r)) (hx : xEs1 C nc K e (u :: v :: r)) {l l' : List Int} {dl dr : Nat} (hql : e.H v = some (.inr (.inl (l, dl)))) (hqr : e.H u = some (.inr (.inl (l', dr)))) (hm : 2 ≤ mr) (hs : 20 ≤ sr) (hQ : ∀ S' α' y, cN x S S' → cX S' x α' C nc e q (u :: v :: r) (xAdd e q r v u) y → Q (some (.inl y)) S') : ox_M lw_sp (d + 4) 59 [.inr (.inr (x + 28 + 5 * e.t.length)), .inr (.inr (S.R 56 (α v))), .inr (.inr (S.R 56 (α u)))] mr sr S Q := by
  have hsp := lw_sp_mono
  obtain ⟨-, -, tL, ⟨a1, a2, a3, a4, a5⟩, -⟩ := h.hp.1 v _ hql
  obtain ⟨-, -, tR, ⟨b1, b2, b3, b4, b5⟩, -⟩ := h.hp.1 u _ hqr
  have a4' : S.len tL = l.length := a4
  have b4' : S.len tR = l'.length := b4
  have a5' : l.length ≤ 12 := a5
  have b5' : l'.length ≤ 12 := b5
  have x1 : xTup e.H v = some l := by unfold xTup; rw [hql]
  have x2 : xTup e.H u = some l' := by unfold xTup; rw [hqr]
  unfold xAdd at hQ
  rw [x1, x2] at hQ
  dsimp only at hQ
  have es : Int32.ofNat (S.len tL) + Int32.ofNat (S.len tR) = nI (l.length + l'.length) := by
    rw [a4', b4']
    exact nI_add _ _
  rw [a2, b2]
  refine f_59 hsp ⟨by rw [a3]; rfl, by rw [b3]; rfl, ?_⟩
  rw [es]
  intro w1
  have e1 : w1 = nI (l.length + l'.length) := rfl
  rw [e1, nI_clamp (by omega)]
  refine ⟨fun y => ⟨nI_pos (by omega), by omega, by omega, by have := (nI_leI (b := 12) (by omega) (by decide)).mp y; omega, ?_⟩, fun y => ⟨trivial, ?_⟩⟩
  · have y' := (nI_leI (b := 12) (by omega) (by decide)).mp y
    rw [if_neg (by omega)] at hQ
    exact c_59_l (d := d) h hx hql hqr y' (by omega) (by omega) hQ (l.length + l'.length) 0 (S.newA 19 (l.length + l'.length)) (Nat.zero_add _) cI.refl.newA rfl (by rw [or_newA_K, if_pos rfl]) (by rw [or_newA_len, if_pos rfl]) (fun j hj => absurd hj (Nat.not_lt_zero j)) a2 b2
  · have y' : ¬ l.length + l'.length ≤ 12 := fun w => y ((nI_leI (b := 12) (by omega) (by decide)).mpr w)
    rw [if_pos (by omega)] at hQ
    exact hQ S α 6 cN.refl ⟨rfl, h⟩
/-- ADD -/
theorem c_58_23 (h : cE S x α C nc e q (u :: v :: r)) (hx : xEs1 C nc K e (u :: v :: r)) (hm : 2 ≤ mr) (hs : 20 ≤ sr) (hQ : ∀ S' α' y, cN x S S' → cX S' x α' C nc e q (u :: v :: r) (xAdd e q r v u) y → Q (some (.inl y)) S') : ox_M lw_sp (d + 8) 58 [.inr (.inr (x + 11)), .inr (.inr (x + 28 + 5 * e.t.length)), .inl (nI 23)] mr sr S Q := by
  have hsp := lw_sp_mono
  have hE : ox_mono (ox_M lw_sp (d + 7)) := ox_M_mono hsp _
  have k := (h.oF hx).1
  have hH := hx.1.1
  have num : ∀ {m1 s1 : Nat}, (xTup e.H v = none ∨ xTup e.H u = none) → 2 ≤ m1 → 20 ≤ s1 → c_58_63 (ox_M lw_sp (d + 7)) (x + 11) (x + 28 + 5 * e.t.length) (nI 23) S m1 s1 Q := fun {m1 s1} hz h1 h2 => c_58_n (d := d) (w := 23) (by decide) h hx h1 h2 (fun S' α' y g1 g2 => hQ S' α' y g1 (by
    have : xAdd e q r v u = xAri e q 23 r v u := by
      unfold xAdd
      rcases hz with z | z
      · rw [z]
      · rw [z]
        cases xTup e.H v <;> rfl
    rw [this]
    exact g2))
  refine f_58 hsp ⟨fun z => absurd rfl z, fun _ => ⟨by decide, k, by decide, 0, 0, Nat.zero_le _, Nat.zero_le _, c_sec hsp h hx (fun hv => ?_)⟩⟩
  obtain ⟨k1, k2, k3⟩ := h.kv hx hv hx.tail.head
  refine f_58_11 hE ⟨Or.inr k3, fun z => num (Or.inl ?_) (by omega) (by omega), fun z => ?_⟩
  · have n10 := if_10 z
    cases y : xTup e.H v with
    | none => rfl
    | some l =>
      obtain ⟨dd, hd⟩ := xTup_some y
      exact absurd (k1.trans ((xKd_10 hH).mpr ⟨_, hd⟩)) n10
  · have h10 := if_11 z
    obtain ⟨⟨l, dl⟩, hql⟩ := (xKd_10 hH).mp (k1.symm.trans h10)
    have ha := hv.obj (by have := (hH.2 v _ hql).1; omega)
    refine ⟨Or.inr (by rw [h10]; rfl), by decide, k, by decide, 0, 0, Nat.zero_le _, Nat.zero_le _, c_top hsp h hx (fun hu => ?_)⟩
    obtain ⟨j1, j2, j3⟩ := h.kv hx hu hx.head
    refine f_58_32 hE ⟨Or.inr j3, fun z => num (Or.inr ?_) (by omega) (by omega), fun z => ?_⟩
    · have n10 := if_10 z
      cases y : xTup e.H u with
      | none => rfl
      | some l =>
        obtain ⟨dd, hd⟩ := xTup_some y
        exact absurd (j1.trans ((xKd_10 hH).mpr ⟨_, hd⟩)) n10
    · have g10 := if_11 z
      obtain ⟨⟨l', dr⟩, hqr⟩ := (xKd_10 hH).mp (j1.symm.trans g10)
      have hb := hu.obj (by have := (hH.2 u _ hqr).1; omega)
      obtain ⟨-, -, tL, ⟨a1, -⟩, -⟩ := h.hp.1 v _ hql
      obtain ⟨-, -, tR, ⟨b1, -⟩, -⟩ := h.hp.1 u _ hqr
      rw [ha, hb]
      exact ⟨Or.inr (by rw [b1]; rfl), by rw [a1]; rfl, by rw [b1]; rfl, by decide, by decide, 2, 20, by omega, by omega, c_59 (d := d + 3) h hx hql hqr (by decide) (by decide) (fun S' α' y g1 g2 => f_58_62 hE ⟨trivial, hQ S' α' y g1 g2⟩)⟩
end CAd
