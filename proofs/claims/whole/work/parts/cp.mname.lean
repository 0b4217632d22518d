/-! the reference: names -/
def wd (x0 x1 x2 x3 x4 : Int32) : Int64 :=
  if x3 = 0 then (if x4 = 0 then ((((Int32.toInt64 x0) <<< (Int32.toInt64 8 &&& 63)) ||| (Int32.toInt64 x1)) <<< (Int32.toInt64 8 &&& 63)) ||| (Int32.toInt64 x2) else ((((((Int32.toInt64 x0) <<< (Int32.toInt64 8 &&& 63)) ||| (Int32.toInt64 x1)) <<< (Int32.toInt64 8 &&& 63)) ||| (Int32.toInt64 x2)) <<< (Int32.toInt64 8 &&& 63)) ||| (Int32.toInt64 x4))
  else (if x4 = 0 then ((((((Int32.toInt64 x0) <<< (Int32.toInt64 8 &&& 63)) ||| (Int32.toInt64 x1)) <<< (Int32.toInt64 8 &&& 63)) ||| (Int32.toInt64 x2)) <<< (Int32.toInt64 8 &&& 63)) ||| (Int32.toInt64 x3) else ((((((((Int32.toInt64 x0) <<< (Int32.toInt64 8 &&& 63)) ||| (Int32.toInt64 x1)) <<< (Int32.toInt64 8 &&& 63)) ||| (Int32.toInt64 x2)) <<< (Int32.toInt64 8 &&& 63)) ||| (Int32.toInt64 x3)) <<< (Int32.toInt64 8 &&& 63)) ||| (Int32.toInt64 x4))
/-- what built tells of a name -/
def bV (w : Nat) : Int32 := match xBuilt w with
  | some v => Int32.ofInt v
  | none => -1000000
section RNm
variable {sp : ox_E} {d mr sr : Nat} {S S' S2 : ox_St} {Q : ox_Q} {m ce a : Nat} {γ : Int → Nat} {B : List Int} {T : Nat} {C : Nat → xCd} {nc K y : Nat} {e : xEn} {q j i w : Nat} {st r : List Int} {v u n : Int} {H : xHp} {o : xOb}
theorem s_189 (hsp : ox_mono sp) {x0 x1 x2 x3 x4 : Int32} (hQ : Q (some (.inr (.inl (wd x0 x1 x2 x3 x4)))) S) : ox_M sp (d + 1) 189 [.inl x0, .inl x1, .inl x2, .inl x3, .inl x4] mr sr S Q := by
  unfold wd at hQ
  refine f_189 hsp ⟨fun z3 => ⟨fun z4 => ⟨rfl, ?_⟩, fun z4 => ⟨rfl, ?_⟩⟩, fun z3 => ⟨fun z4 => ⟨rfl, ?_⟩, fun z4 => ⟨rfl, ?_⟩⟩⟩
  · rw [if_neg z3, if_neg z4] at hQ; exact hQ
  · rw [if_neg z3, if_pos z4] at hQ; exact hQ
  · rw [if_pos z3, if_neg z4] at hQ; exact hQ
  · rw [if_pos z3, if_pos z4] at hQ; exact hQ
theorem wd_range : wd 114 97 110 103 101 = lN 491260897125 := by decide
theorem wd_typ : wd 116 121 112 0 0 = lN 7633264 := by decide
theorem wd_zero : wd 122 101 114 111 0 = lN 2053468783 := by decide
theorem wd_index : wd 105 110 100 101 120 = lN 452823639416 := by decide
theorem wd_value : wd 118 97 108 117 101 = lN 508440638821 := by decide
theorem wd_name : wd 110 97 109 101 0 = lN 1851878757 := by decide
theorem wd_deep : wd 100 101 101 112 0 = lN 1684366704 := by decide
theorem wd_over : wd 111 118 101 114 0 = lN 1870030194 := by decide
/-- built -/
theorem s_190 (hsp : ox_mono sp) (hw : w < 2 ^ 63) (hQ : Q (some (.inl (bV w))) S) : ox_M sp (d + 2) 190 [.inr (.inl (lN w))] mr sr S Q := by
  have hE : ox_mono (ox_M sp (d + 1)) := ox_M_mono hsp _
  have ne : ∀ c : Nat, c < 2 ^ 63 → (lg_cmp (lN w) (lN c) = 0 ↔ w = c) := fun c hc => by rw [lg_cmp_eq, pk_lEQ hw hc]
  unfold bV xBuilt at hQ
  refine f_190 hsp ⟨by decide, by decide, 0, 0, Nat.zero_le _, Nat.zero_le _, s_189 hsp ?_⟩
  rw [wd_range]
  refine f_190_14 hE ⟨fun z0 => ?_, fun z0 => ⟨trivial, ?_⟩⟩
  rotate_left
  · rw [if_pos ((ne 491260897125 (by decide)).mp z0)] at hQ
    exact hQ
  refine ⟨by decide, by decide, 0, 0, Nat.zero_le _, Nat.zero_le _, s_189 hsp ?_⟩
  rw [wd_typ]
  refine f_190_32 hE ⟨fun z1 => ?_, fun z1 => ⟨trivial, ?_⟩⟩
  rotate_left
  · rw [if_neg (fun y => z0 ((ne 491260897125 (by decide)).mpr y)), if_pos ((ne 7633264 (by decide)).mp z1)] at hQ
    exact hQ
  refine ⟨by decide, by decide, 0, 0, Nat.zero_le _, Nat.zero_le _, s_189 hsp ?_⟩
  rw [wd_zero]
  refine f_190_51 hE ⟨fun z2 => ?_, fun z2 => ⟨trivial, ?_⟩⟩
  rotate_left
  · rw [if_neg (fun y => z0 ((ne 491260897125 (by decide)).mpr y)), if_neg (fun y => z1 ((ne 7633264 (by decide)).mpr y)), if_pos ((ne 2053468783 (by decide)).mp z2)] at hQ
    exact hQ
  refine ⟨by decide, by decide, 0, 0, Nat.zero_le _, Nat.zero_le _, s_189 hsp ?_⟩
  rw [wd_index]
  refine f_190_71 hE ⟨fun z3 => ?_, fun z3 => ⟨trivial, ?_⟩⟩
  rotate_left
  · rw [if_neg (fun y => z0 ((ne 491260897125 (by decide)).mpr y)), if_neg (fun y => z1 ((ne 7633264 (by decide)).mpr y)), if_neg (fun y => z2 ((ne 2053468783 (by decide)).mpr y)), if_pos ((ne 452823639416 (by decide)).mp z3)] at hQ
    exact hQ
  refine ⟨by decide, by decide, 0, 0, Nat.zero_le _, Nat.zero_le _, s_189 hsp ?_⟩
  rw [wd_value]
  refine f_190_92 hE ⟨fun z4 => ?_, fun z4 => ⟨trivial, ?_⟩⟩
  rotate_left
  · rw [if_neg (fun y => z0 ((ne 491260897125 (by decide)).mpr y)), if_neg (fun y => z1 ((ne 7633264 (by decide)).mpr y)), if_neg (fun y => z2 ((ne 2053468783 (by decide)).mpr y)), if_neg (fun y => z3 ((ne 452823639416 (by decide)).mpr y)), if_pos ((ne 508440638821 (by decide)).mp z4)] at hQ
    exact hQ
  refine ⟨by decide, by decide, 0, 0, Nat.zero_le _, Nat.zero_le _, s_189 hsp ?_⟩
  rw [wd_name]
  refine f_190_112 hE ⟨fun z5 => ?_, fun z5 => ⟨trivial, ?_⟩⟩
  rotate_left
  · rw [if_neg (fun y => z0 ((ne 491260897125 (by decide)).mpr y)), if_neg (fun y => z1 ((ne 7633264 (by decide)).mpr y)), if_neg (fun y => z2 ((ne 2053468783 (by decide)).mpr y)), if_neg (fun y => z3 ((ne 452823639416 (by decide)).mpr y)), if_neg (fun y => z4 ((ne 508440638821 (by decide)).mpr y)), if_pos ((ne 1851878757 (by decide)).mp z5)] at hQ
    exact hQ
  refine ⟨by decide, by decide, 0, 0, Nat.zero_le _, Nat.zero_le _, s_189 hsp ?_⟩
  rw [wd_deep]
  refine f_190_132 hE ⟨fun z6 => ?_, fun z6 => ⟨trivial, ?_⟩⟩
  rotate_left
  · rw [if_neg (fun y => z0 ((ne 491260897125 (by decide)).mpr y)), if_neg (fun y => z1 ((ne 7633264 (by decide)).mpr y)), if_neg (fun y => z2 ((ne 2053468783 (by decide)).mpr y)), if_neg (fun y => z3 ((ne 452823639416 (by decide)).mpr y)), if_neg (fun y => z4 ((ne 508440638821 (by decide)).mpr y)), if_neg (fun y => z5 ((ne 1851878757 (by decide)).mpr y)), if_pos ((ne 1684366704 (by decide)).mp z6)] at hQ
    exact hQ
  refine ⟨by decide, by decide, 0, 0, Nat.zero_le _, Nat.zero_le _, s_189 hsp ?_⟩
  rw [wd_over]
  refine f_190_152 hE ⟨fun z7 => ?_, fun z7 => ⟨trivial, ?_⟩⟩
  rotate_left
  · rw [if_neg (fun y => z0 ((ne 491260897125 (by decide)).mpr y)), if_neg (fun y => z1 ((ne 7633264 (by decide)).mpr y)), if_neg (fun y => z2 ((ne 2053468783 (by decide)).mpr y)), if_neg (fun y => z3 ((ne 452823639416 (by decide)).mpr y)), if_neg (fun y => z4 ((ne 508440638821 (by decide)).mpr y)), if_neg (fun y => z5 ((ne 1851878757 (by decide)).mpr y)), if_neg (fun y => z6 ((ne 1684366704 (by decide)).mpr y)), if_pos ((ne 1870030194 (by decide)).mp z7)] at hQ
    exact hQ
  rw [if_neg (fun y => z0 ((ne 491260897125 (by decide)).mpr y)), if_neg (fun y => z1 ((ne 7633264 (by decide)).mpr y)), if_neg (fun y => z2 ((ne 2053468783 (by decide)).mpr y)), if_neg (fun y => z3 ((ne 452823639416 (by decide)).mpr y)), if_neg (fun y => z4 ((ne 508440638821 (by decide)).mpr y)), if_neg (fun y => z5 ((ne 1851878757 (by decide)).mpr y)), if_neg (fun y => z6 ((ne 1684366704 (by decide)).mpr y)), if_neg (fun y => z7 ((ne 1870030194 (by decide)).mpr y))] at hQ
  exact ⟨trivial, hQ⟩
theorem mFx.wJ {o : Nat} {v : Int64} (h : mFx m S S') (ho : o ≤ 41) (hk : o ≠ 15 := by omega) : mFx m S (S'.wJ (m + o) i v) := by
  obtain ⟨h1, h2, h3, h4, h5, h6, h7, h8, h9, ha, hb, hc⟩ := h
  refine ⟨(or_wJ_n _ _ _ _).trans h1, (or_wJ_K _ _ _ _).trans h2, (or_wJ_len _ _ _ _).trans h3, (or_wJ_J _ _ _ _).trans h4, (or_wJ_rR _ _ _ _).trans h5, fun G a z => ?_, fun G a z => ?_, fun a z => ?_, fun a z => ?_, fun G z => ?_, fun p z => ?_, ?_⟩
  · rw [or_wJ_R]; exact h6 G a z
  · rw [or_wJ_I]; exact h7 G a z
  · rw [or_wJ_rI]; exact h8 a z
  · funext j
    rw [or_wJ_rJ, if_neg (fun y => by have := y.1; omega)]
    exact congrFun (h9 a z) j
  · rw [or_wJ_I]; exact ha G z
  · rw [or_wJ_rI]; exact hb p z
  · funext j
    rw [or_wJ_rJ, if_neg (fun y => by have := y.1; omega)]
    exact congrFun hc j
/-- other names are stored -/
theorem rE.glb (h : rE S m ce γ B T C nc y e q st) (hx : xEs1 C nc K e st) {G' : List (Nat × Int)} (fx : mFx m S S') (hR : S'.R = S.R) (hI : ∀ F, F = 75 ∨ (92 ≤ F ∧ F ≤ 97) → S'.I F m = S.I F m) (hr : ∀ a, a ≠ m + 25 → S'.rI a = S.rI a) (hJ : ∀ a, a ≠ m + 24 → S'.rJ a = S.rJ a) (hG : rGl S' m γ G') (hB : ∀ g ∈ G', xIn B g.2) : rR S' m ce γ B T C nc y (e.H, e.n, G', (e.c, q, st, e.L, e.b) :: e.t, 1, -1, 0) := by
  obtain ⟨a1, ⟨a2, a3⟩, ⟨a4, a5⟩, a6, a7, ⟨b1, b2, b3, b4, b5⟩, c1, c2, c3⟩ := id h
  obtain ⟨⟨x1, x2, x3, x4, x5, x6, x7⟩, y2, y3, y4⟩ := id hx
  have hce := h.c23
  refine ⟨a1.next fx.2.1 fx.2.2.1 (fun F => by rw [hR]), ⟨a2.next (fun j _ => by rw [hr _ (by omega)]), (hI 75 (by omega)).trans a3⟩, ⟨a4, fun c hc => (a5 c hc).next (fun a z1 z2 => hr a (by omega)) (hJ _ (by omega)) (fun _ _ => rfl)⟩, ?_, hG, ⟨(hI 92 (by omega)).trans b1, (hI 93 (by omega)).trans b2, (hI 94 (by omega)).trans b3, (hI 95 (by omega)).trans b4, (hI 97 (by omega)).trans b5⟩, ⟨c1.1, hB⟩, c2, c3⟩
  refine rFs.next _ (fun f _ => ⟨fun o z1 z2 => by rw [hr _ (by omega)], fun j _ => by rw [hr _ (by omega)], fun j _ => by rw [hr _ (by omega)], fun j _ => by rw [hr _ (by omega), hr _ (by omega)]; exact ⟨rfl, rfl⟩⟩) (fun g hg => ?_) (fun _ _ _ _ => rfl) a6
  rcases List.mem_cons.mp hg with z | z
  · rw [z]; exact ⟨y3, y4⟩
  · exact ⟨by have := (x7 g z).len x2; omega, ((x7 g z).blk x2).1⟩
/-- no value is the mark of an unset local -/
theorem rE.neU (h : rE S m ce γ B T C nc y e q st) (hx : xEs1 C nc K e st) (ok : xOk nc e.H v) (hB : xIn B v) : ¬ gV γ v = -1000000 := fun z => by
  by_cases w : v < 16
  · obtain ⟨lo, -, eg⟩ := h.lo hx ok w
    rw [eg] at z
    have := congrArg Int32.toInt z
    rw [Int32.toInt_ofInt_of_le (by omega) (by omega), show (-1000000 : Int32).toInt = -1000000 from by decide] at this
    omega
  · obtain ⟨o, e1, h1, h2, eg⟩ := h.hi hB w
    have sz := xSz_2 o
    rw [eg] at z
    have := congrArg Int32.toInt z
    rw [nI_toInt (by omega), show (-1000000 : Int32).toInt = -1000000 from by decide] at this
    omega
/-- LOAD_NAME -/
theorem r_192 (hsp : ox_mono sp) (hin : rIn C nc K e st 0) (h : rE S m ce γ B T C nc y e q st) (hl : st.length < 10) (hw : w < 2 ^ 63) (hQ : ∀ S', mFx m S S' → S'.R = S.R → rX S' m ce T C nc y e q st (xName e q w st) → Q none S') : ox_M sp (d + 3) 192 [.inr (.inr m), .inr (.inl (lN w))] mr sr S Q := by
  have hE : ox_mono (ox_M sp (d + 2)) := ox_M_mono hsp _
  have hx := hin.1
  have k14 := h.k
  have hG : rGl S m γ e.G := h.2.2.2.2.1
  have gok := hx.1.2.2.1
  have g16 : e.G.length ≤ 16 := gok.1
  obtain ⟨f1, f2⟩ := xFindL_eq hw e.G (fun g hg => (gok.2 g hg).1)
  have fg := xGetL_find (w := lN w) e.G
  rw [f1, f2] at fg
  obtain ⟨b1, b2, b3⟩ := h.ml.row (F := 108) (o := 25) (k := 15) (n := 16) (by decide)
  refine f_192 hsp ⟨by decide, k14, by decide, 0, 0, Nat.zero_le _, Nat.zero_le _, r_188 hsp h.ml hG g16 ?_⟩
  rw [f1]
  by_cases z : xFind w e.G < e.G.length
  · rw [if_pos z] at fg ⊢
    have mem : e.G.getD (xFind w e.G) (0, 0) ∈ e.G := by rw [List.getD_eq_getElem?_getD, List.getElem?_eq_getElem z]; exact List.getElem_mem z
    have ok := (gok.2 _ mem).2
    have hB : xIn B (e.G.getD (xFind w e.G) (0, 0)).2 := h.2.2.2.2.2.2.1.2 _ mem
    have row := (hG.2 _ z).2
    have ex : xName e q w st = xGo e q ((e.G.getD (xFind w e.G) (0, 0)).2 :: st) := by unfold xName; rw [fg]
    rw [ex] at hQ
    refine f_192_5 hE ⟨fun _ => ⟨by rw [k14]; rfl, by rw [b1, b2]; rfl, by rw [b1, b3]; exact vp_in_nI (by omega) (by decide), ?_⟩, fun y => absurd (nI_le (a := 0) (Nat.zero_le _) (by omega)) y⟩
    rw [b1, nI_clamp (show xFind w e.G < 2 ^ 31 by omega), row]
    exact ⟨fun _ => ⟨by decide, k14, by decide, 0, 0, Nat.zero_le _, Nat.zero_le _, r_174 hsp h hx hl hB (fun S' n1 n2 => f_192_46 hE ⟨rfl, hQ S' n1.1 n1.2.1 (rX_go n2)⟩)⟩, fun y => absurd y (h.neU hx ok hB)⟩
  · rw [if_neg z] at fg ⊢
    have ex : xName e q w st = (match xBuilt w with
      | some v => xGo e q (v :: st)
      | none => .inl 4) := by unfold xName; rw [fg]; rfl
    rw [ex] at hQ
    refine f_192_5 hE ⟨fun y => absurd y (by decide), fun _ => ⟨by decide, by decide, 0, 0, Nat.zero_le _, Nat.zero_le _, s_190 hsp hw (f_192_14 hE ?_)⟩⟩
    unfold bV
    cases eb : xBuilt w with
    | none =>
      rw [eb] at hQ
      exact ⟨fun y => absurd rfl y, fun _ => ⟨by decide, k14, by decide, 0, 0, Nat.zero_le _, Nat.zero_le _, r_raise hsp (k := 4) (i := 0) (by decide) hin (Nat.le_refl _) h (fun S' g1 g2 g3 => f_192_37 hE (f_192_46 hE ⟨rfl, hQ S' g1 g2 (rX_k g3)⟩))⟩⟩
    | some b =>
      rw [eb] at hQ
      have b310 : 3 ≤ b ∧ b ≤ 10 := by
        unfold xBuilt at eb
        repeat' split at eb
        all_goals first | cases eb; decide | cases eb
      have eg : gV γ b = Int32.ofInt b := if_pos (by omega)
      have hB : xIn B b := Or.inl (by omega)
      have ok : xOk nc e.H b := Or.inl ⟨by omega, b310.2⟩
      have nu := h.neU hx ok hB
      rw [eg] at nu
      refine ⟨fun _ => ⟨by decide, k14, by decide, 0, 0, Nat.zero_le _, Nat.zero_le _, ?_⟩, fun y => absurd y nu⟩
      show ox_M sp (d + 2) 174 [.inr (.inr m), .inl (Int32.ofInt b)] 0 0 S _
      rw [← eg]
      exact r_174 hsp h hx hl hB (fun S' n1 n2 => f_192_46 hE ⟨rfl, hQ S' n1.1 n1.2.1 (rX_go n2)⟩)
/-- STORE_NAME -/
theorem r_191 (hsp : ox_mono sp) (hin : rIn C nc K e (v :: r) 1) (h : rE S m ce γ B T C nc y e q (v :: r)) (hw : w < 2 ^ 63) (hQ : ∀ S', mFx m S S' → S'.R = S.R → rX S' m ce T C nc y e q (v :: r) (xStore e q w r v) → Q none S') : ox_M sp (d + 3) 191 [.inr (.inr m), .inr (.inl (lN w))] mr sr S Q := by
  have hE : ox_mono (ox_M sp (d + 2)) := ox_M_mono hsp _
  have hx := hin.1
  have gok := hx.1.2.2.1
  have g16 : e.G.length ≤ 16 := gok.1
  obtain ⟨f1, f2⟩ := xFindL_eq hw e.G (fun g hg => (gok.2 g hg).1)
  obtain ⟨s1, s2, s3⟩ := xSet_at (w := w) (v := v) e.G
  refine f_191 hsp ⟨by decide, h.k, by decide, 0, 0, Nat.zero_le _, Nat.zero_le _, r_175 hsp h hx (fun S1 a1 a2 hB => f_191_4 hE ?_)⟩
  have k14 := a2.k
  have hce := a2.c23
  have hG : rGl S1 m γ e.G := a2.2.2.2.2.1
  have h106 := hG.1
  have gB : ∀ g ∈ xSet w v e.G, xIn B g.2 := xSet_in hB a2.2.2.2.2.2.2.1.2
  obtain ⟨b1, b2, b3⟩ := a2.ml.row (F := 108) (o := 25) (k := 15) (n := 16) (by decide)
  obtain ⟨c1, c2, c3⟩ := a2.ml.row (F := 107) (o := 24) (k := 16) (n := 16) (by decide)
  refine ⟨by decide, k14, by decide, 0, 0, Nat.zero_le _, Nat.zero_le _, r_188 hsp a2.ml hG g16 ?_⟩
  rw [f1]
  by_cases z : xFind w e.G < e.G.length
  · rw [if_pos z] at s1 ⊢
    have ex : xStore e q w r v = .inr (e.H, e.n, xSet w v e.G, (e.c, q, r, e.L, e.b) :: e.t, none) := by unfold xStore; rw [if_neg (by omega)]
    rw [ex] at hQ
    have nn : (0 : Int32) ≤ nI (xFind w e.G) := nI_le (a := 0) (Nat.zero_le _) (by omega)
    refine f_191_10 hE ⟨fun _ => ⟨fun _ => ⟨by rw [k14]; rfl, by rw [c1]; exact c2, by rw [c1, c3]; exact vp_in_nI (by omega) (by decide), ?_⟩, fun y => absurd nn y⟩, fun y => absurd nn y⟩
    rw [c1, nI_clamp (show xFind w e.G < 2 ^ 31 by omega)]
    refine ⟨by rw [or_wJ_K, k14]; rfl, by rw [or_wJ_R, or_wJ_K, b1]; exact b2, by rw [or_wJ_R, or_wJ_len, b1, b3]; exact vp_in_nI (by omega) (by decide), ?_⟩
    rw [or_wJ_R, b1]
    have fx : mFx m S1 ((S1.wJ (m + 24) (xFind w e.G) (lN w)).wI (m + 25) (xFind w e.G) (gV γ v)) := (mFx.refl.wJ (by omega)).wI (by omega)
    have eR : ((S1.wJ (m + 24) (xFind w e.G) (lN w)).wI (m + 25) (xFind w e.G) (gV γ v)).R = S1.R := by rw [or_wI_R, or_wJ_R]
    have eI : ((S1.wJ (m + 24) (xFind w e.G) (lN w)).wI (m + 25) (xFind w e.G) (gV γ v)).I = S1.I := by rw [or_wI_I, or_wJ_I]
    have er : ∀ a j, ((S1.wJ (m + 24) (xFind w e.G) (lN w)).wI (m + 25) (xFind w e.G) (gV γ v)).rI a j = if a = m + 25 ∧ j = xFind w e.G then gV γ v else S1.rI a j := fun a j => by rw [or_wI_rI, or_wJ_rI]
    have eJ : ∀ a j, ((S1.wJ (m + 24) (xFind w e.G) (lN w)).wI (m + 25) (xFind w e.G) (gV γ v)).rJ a j = if a = m + 24 ∧ j = xFind w e.G then lN w else S1.rJ a j := fun a j => by rw [or_wI_rJ, or_wJ_rJ]
    show _ ∧ Q none ((S1.wJ (m + 24) (xFind w e.G) (lN w)).wI (m + 25) (xFind w e.G) (gV γ v))
    generalize (S1.wJ (m + 24) (xFind w e.G) (lN w)).wI (m + 25) (xFind w e.G) (gV γ v) = V at fx eR eI er eJ ⊢
    refine ⟨rfl, hQ V (a1.1.trans fx) (eR.trans a1.2.1) ⟨γ, B, T, Nat.le_add_right _ _, ?_⟩⟩
    refine a2.glb hx.tail fx eR (fun F _ => by rw [eI]) (fun a y => funext fun j => by rw [er, if_neg (fun x => y x.1)]) (fun a y => funext fun j => by rw [eJ, if_neg (fun x => y x.1)]) ⟨by rw [eI, s1]; exact h106, fun i hi => ?_⟩ gB
    rw [s3 i hi]
    by_cases y : i = xFind w e.G
    · rw [if_pos y]
      exact ⟨by rw [eJ, if_pos ⟨rfl, y⟩], by rw [er, if_pos ⟨rfl, y⟩]⟩
    · rw [if_neg y]
      exact ⟨by rw [eJ, if_neg (fun x => y x.2)]; exact (hG.2 i (by omega)).1, by rw [er, if_neg (fun x => y x.2)]; exact (hG.2 i (by omega)).2⟩
  · rw [if_neg z] at s1 ⊢
    have el : xFind w e.G = e.G.length := by omega
    have nn : ¬ (0 : Int32) ≤ -1 := by decide
    by_cases g15 : e.G.length = 16
    · have ex : xStore e q w r v = .inl 6 := by unfold xStore; rw [if_pos (by omega)]
      rw [ex] at hQ
      refine f_191_10 hE ⟨fun y => absurd y nn, fun _ => ⟨by rw [k14]; rfl, fun y => absurd (by rw [h106, g15]; rfl) y, fun _ => ⟨by decide, k14, by decide, 0, 0, Nat.zero_le _, Nat.zero_le _, ?_⟩⟩⟩
      exact r_raise hsp (k := 6) (i := 1) (by decide) hin (Nat.le_refl _) a2 (fun S' g1 g2 g3 => f_191_32 hE ⟨rfl, hQ S' (a1.1.trans g1) (g2.trans a1.2.1) (rX_k g3)⟩)
    · have ex : xStore e q w r v = .inr (e.H, e.n, xSet w v e.G, (e.c, q, r, e.L, e.b) :: e.t, none) := by unfold xStore; rw [if_neg (by omega)]
      rw [ex] at hQ
      rw [el] at s3
      refine f_191_10 hE ⟨fun y => absurd y nn, fun _ => ⟨by rw [k14]; rfl, fun _ => ⟨fun y => absurd y nn, fun _ => ⟨by rw [k14]; rfl, ?_⟩⟩, fun y => absurd ((nI_eq (b := 16) (by omega) (by decide)).mp (h106.symm.trans y)) g15⟩⟩
      rw [h106]
      intro w9
      have ew : w9 = nI e.G.length := rfl
      clear_value w9
      subst ew
      refine ⟨by rw [k14]; rfl, by rw [k14]; rfl, ?_⟩
      rw [nI_1]
      refine ⟨by rw [or_sI_K, k14]; rfl, by rw [or_sI_R, or_sI_K, c1]; exact c2, by rw [or_sI_R, or_sI_len, c1, c3]; exact vp_in_nI (by omega) (by decide), ?_⟩
      rw [or_sI_R, c1, nI_clamp (show e.G.length < 2 ^ 31 by omega)]
      refine ⟨by rw [or_wJ_K, or_sI_K, k14]; rfl, by rw [or_wJ_R, or_wJ_K, or_sI_R, or_sI_K, b1]; exact b2, by rw [or_wJ_R, or_wJ_len, or_sI_R, or_sI_len, b1, b3]; exact vp_in_nI (by omega) (by decide), ?_⟩
      rw [or_wJ_R, or_sI_R, b1]
      have fx : mFx m S1 (((S1.sI 106 m (nI (e.G.length + 1))).wJ (m + 24) e.G.length (lN w)).wI (m + 25) e.G.length (gV γ v)) := ((mFx.refl.sI).wJ (by omega)).wI (by omega)
      have eR : (((S1.sI 106 m (nI (e.G.length + 1))).wJ (m + 24) e.G.length (lN w)).wI (m + 25) e.G.length (gV γ v)).R = S1.R := by rw [or_wI_R, or_wJ_R, or_sI_R]
      have eI : ∀ F, (((S1.sI 106 m (nI (e.G.length + 1))).wJ (m + 24) e.G.length (lN w)).wI (m + 25) e.G.length (gV γ v)).I F m = if F = 106 then nI (e.G.length + 1) else S1.I F m := fun F => by
        rw [or_wI_I, or_wJ_I, or_sI_I]
        simp only [and_true]
      have er : ∀ a j, (((S1.sI 106 m (nI (e.G.length + 1))).wJ (m + 24) e.G.length (lN w)).wI (m + 25) e.G.length (gV γ v)).rI a j = if a = m + 25 ∧ j = e.G.length then gV γ v else S1.rI a j := fun a j => by rw [or_wI_rI, or_wJ_rI, or_sI_rI]
      have eJ : ∀ a j, (((S1.sI 106 m (nI (e.G.length + 1))).wJ (m + 24) e.G.length (lN w)).wI (m + 25) e.G.length (gV γ v)).rJ a j = if a = m + 24 ∧ j = e.G.length then lN w else S1.rJ a j := fun a j => by rw [or_wI_rJ, or_wJ_rJ, or_sI_rJ]
      show _ ∧ Q none (((S1.sI 106 m (nI (e.G.length + 1))).wJ (m + 24) e.G.length (lN w)).wI (m + 25) e.G.length (gV γ v))
      generalize ((S1.sI 106 m (nI (e.G.length + 1))).wJ (m + 24) e.G.length (lN w)).wI (m + 25) e.G.length (gV γ v) = V at fx eR eI er eJ ⊢
      refine ⟨rfl, hQ V (a1.1.trans fx) (eR.trans a1.2.1) ⟨γ, B, T, Nat.le_add_right _ _, ?_⟩⟩
      refine a2.glb hx.tail fx eR (fun F y => by rw [eI, if_neg (by omega)]) (fun a y => funext fun j => by rw [er, if_neg (fun x => y x.1)]) (fun a y => funext fun j => by rw [eJ, if_neg (fun x => y x.1)]) ⟨by rw [eI, s1, if_pos rfl], fun i hi => ?_⟩ gB
      rw [s3 i hi]
      by_cases y : i = e.G.length
      · rw [if_pos y]
        exact ⟨by rw [eJ, if_pos ⟨rfl, y⟩], by rw [er, if_pos ⟨rfl, y⟩]⟩
      · rw [if_neg y]
        exact ⟨by rw [eJ, if_neg (fun x => y x.2)]; exact (hG.2 i (by omega)).1, by rw [er, if_neg (fun x => y x.2)]; exact (hG.2 i (by omega)).2⟩
end RNm
