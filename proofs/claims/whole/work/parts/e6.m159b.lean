/-! the reference reads: close, its steps -/
section C9b
variable {sp : ox_E} {d mr sr : Nat} {Q : ox_Q} {i : rFi} {U Y A : ox_St} {s s' : oTS} {γ : Int → Nat} {B : List Int} {T : Nat} {h : pH} {O : List rRc} {Bn Kn Wn c ph : Nat} {its : List Int} {cd : Option Nat}
theorem s_159 (hsp : ox_mono sp) (g : rG i U s γ B T h ((0, its, cd, ph) :: O) Bn Kn Wn (rVp ((0, its, cd, ph) :: O)).length) (lm : rLm i.q i.e) (hs : s.2 = none) (h12 : its.length ≤ 12) (hok : cd = none → xObOk h.c i.K h.H (h.tp its.reverse))
    (hT : cd = none → ∀ V, rG i V s (upA γ h.n T) (h.n :: B) (T + xSz (h.tp its.reverse)) (h.nw (h.tp its.reverse)) O Bn Kn Wn ((rVp O).length + 1) → Q (some (.inl (gV (upA γ h.n T) h.n))) V)
    (hC : ∀ c, cd = some c → (nmS i.b i.e s).2 = none → ∀ V, rG i V (nmS i.b i.e s) γ B T (h.fin c (cdAt i.b i.e ph its.reverse s.1)) O Bn (Kn + its.length) (Wn + i.b s.1) ((rVp O).length + 1) → Q (some (.inl (gV γ (-1 - (c : Int))))) V)
    (hF : ∀ v, cd ≠ none → (nmS i.b i.e s).2 = some v → ∀ V y, rF i V v → Q (some (.inl y)) V) : ox_M sp (d + 5) 159 [.inr (.inr i.m)] mr sr U Q := by
  have hE : ox_mono (ox_M sp (d + 4)) := ox_M_mono hsp _
  have k14 := g.k
  have c23 := g.c23
  have top := g.top
  obtain ⟨g1, g2, ⟨g3, g3a, g3b⟩, ⟨⟨g4a, g4b, g4c⟩, g4d, g4e, g4f⟩, ⟨⟨g5a, g5b, g5c, g5d⟩, g5e, g5f, g5g⟩, ⟨g6a, g6b⟩, ⟨g7a, g7c, g7d, g7b⟩, g8, g9⟩ := id g
  have ev : rVp ((0, its, cd, ph) :: O) = its ++ rVp O := rfl
  have el : (its ++ rVp O).length = its.length + (rVp O).length := List.length_append
  have eo : ((0, its, cd, ph) :: O : List rRc).length = O.length + 1 := rfl
  rw [ev, el] at g9 g4d
  rw [eo] at g9 g4a g4b
  obtain ⟨r30, r31, r32, r33, -⟩ := g4c
  have pe : s.1 ≤ i.e := (g1.2.2.2.1 hs).2.2.1
  have e800 := g1.2.2.1
  obtain ⟨⟨x1, x2⟩, ⟨x3, x4⟩, ⟨x5, x6⟩, ⟨x7, x8⟩, ⟨x9, x10⟩, x11⟩ := id g9
  obtain ⟨y1, y2, y3, y4, y5⟩ := id lm
  have cl8 : Int32.toNatClampNeg (nI O.length) = O.length := nI_clamp (by omega)
  refine f_159 hsp ?_
  unfold q_159
  rw [k14, g4a, nI_pred]
  refine ⟨rfl, rfl, ?_⟩
  have a1I : ∀ F a, (U.sI 122 i.m (nI O.length)).I F a = if F = 122 ∧ a = i.m then nI O.length else U.I F a := fun F a => or_sI_I _ _ _ _ _ _
  have a1f : (U.sI 122 i.m (nI O.length)).K = U.K ∧ (U.sI 122 i.m (nI O.length)).len = U.len ∧ (U.sI 122 i.m (nI O.length)).n = U.n ∧ (U.sI 122 i.m (nI O.length)).R = U.R ∧ (U.sI 122 i.m (nI O.length)).J = U.J ∧ (U.sI 122 i.m (nI O.length)).rR = U.rR ∧ (U.sI 122 i.m (nI O.length)).rI = U.rI ∧ (U.sI 122 i.m (nI O.length)).rJ = U.rJ := ⟨or_sI_K _ _ _ _, or_sI_len _ _ _ _, or_sI_n _ _ _ _, or_sI_R _ _ _ _, or_sI_J _ _ _ _, or_sI_rR _ _ _ _, or_sI_rI _ _ _ _, or_sI_rJ _ _ _ _⟩
  intro S1
  have e1 : S1 = U.sI 122 i.m (nI O.length) := rfl
  clear_value S1
  rw [← e1] at a1I a1f
  clear e1
  obtain ⟨f1, f2, f3, f4, f5, f6, f7, f8⟩ := a1f
  have ml1 : oML S1 i.m i.ce := g1.1.next f1 f2 (fun F => by rw [f4])
  obtain ⟨b1, b2, b3⟩ := ml1.row (F := 128) (o := 32) (k := 15) (n := 8) (by decide +kernel)
  have j122 : S1.I 122 i.m = nI O.length := (a1I _ _).trans (if_pos ⟨rfl, rfl⟩)
  have j123 : S1.I 123 i.m = nI (its.length + (rVp O).length) := ((a1I _ _).trans (if_neg (fun y => absurd y.1 (by decide)))).trans g4d
  rw [ml1.1, b1, b2, b3, j122, j123, cl8, f7, r32]
  refine ⟨rfl, rfl, rfl, vp_in_nI (by omega) (by decide), ?_⟩
  intro w2
  have ew2 : w2 = nI (rVp O).length := rfl
  clear_value w2
  subst ew2
  refine ⟨rfl, ?_⟩
  rw [pk_sub (show (rVp O).length ≤ its.length + (rVp O).length by omega), Nat.add_sub_cancel]
  intro w3
  have ew3 : w3 = nI its.length := rfl
  clear_value w3
  subst ew3
  refine ⟨rfl, ?_⟩
  have a4I : ∀ F a, (S1.sI 123 i.m (nI (rVp O).length)).I F a = if F = 123 ∧ a = i.m then nI (rVp O).length else S1.I F a := fun F a => or_sI_I _ _ _ _ _ _
  have a4f : (S1.sI 123 i.m (nI (rVp O).length)).K = U.K ∧ (S1.sI 123 i.m (nI (rVp O).length)).len = U.len ∧ (S1.sI 123 i.m (nI (rVp O).length)).n = U.n ∧ (S1.sI 123 i.m (nI (rVp O).length)).R = U.R ∧ (S1.sI 123 i.m (nI (rVp O).length)).J = U.J ∧ (S1.sI 123 i.m (nI (rVp O).length)).rR = U.rR ∧ (S1.sI 123 i.m (nI (rVp O).length)).rI = U.rI ∧ (S1.sI 123 i.m (nI (rVp O).length)).rJ = U.rJ := ⟨(or_sI_K _ _ _ _).trans f1, (or_sI_len _ _ _ _).trans f2, (or_sI_n _ _ _ _).trans f3, (or_sI_R _ _ _ _).trans f4, (or_sI_J _ _ _ _).trans f5, (or_sI_rR _ _ _ _).trans f6, (or_sI_rI _ _ _ _).trans f7, (or_sI_rJ _ _ _ _).trans f8⟩
  intro A
  have e4 : A = S1.sI 123 i.m (nI (rVp O).length) := rfl
  clear_value A
  rw [← e4] at a4I a4f
  clear e4
  obtain ⟨h1, h2, h3, h4, h5, h6, h7, h8⟩ := a4f
  have ml4 : oML A i.m i.ce := g1.1.next h1 h2 (fun F => by rw [h4])
  have AI : ∀ F a, (a ≠ i.m ∨ (F ≠ 122 ∧ F ≠ 123)) → A.I F a = U.I F a := fun F a z => by
    rw [a4I, if_neg (fun y => by omega), a1I, if_neg (fun y => by omega)]
  have A122 : A.I 122 i.m = nI O.length := (a4I _ _).trans ((if_neg (fun y => absurd y.1 (by decide))).trans j122)
  have A123 : A.I 123 i.m = nI (rVp O).length := (a4I _ _).trans (if_pos ⟨rfl, rfl⟩)
  obtain ⟨c1, c2, c3⟩ := ml4.row (F := 126) (o := 30) (k := 17) (n := 8) (by decide +kernel)
  rw [ml4.1, c1, c2, c3, A122, cl8, h7, r30]
  refine ⟨rfl, rfl, rfl, vp_in_nI (by omega) (by decide), fun z => ?_, fun z => ?_⟩
  · cases cd with
    | none =>
      have z' : (1 : Int32) = 0 := z
      exact absurd z' (by decide)
    | some c =>
      obtain ⟨cc, -⟩ := g5f _ List.mem_cons_self c rfl
      have c0 : i.q.1 ≤ c := g7c _ List.mem_cons_self c rfl
      obtain ⟨d1, d2, d3⟩ := ml4.row (F := 129) (o := 33) (k := 15) (n := 8) (by decide +kernel)
      rw [d1, d2, d3, r33 c rfl]
      refine ⟨rfl, rfl, rfl, vp_in_nI (by omega) (by decide), ?_⟩
      intro w5
      have ew5 : w5 = nI c := rfl
      clear_value w5
      subst ew5
      have clA : clF i.m c Kn Wn h.l.length U A := ⟨h1, h2, h3, h4, h5, h6, fun F a z => AI F a (z.imp id (fun y => by unfold clI at y; omega)), fun a _ => by rw [h7], fun _ _ _ _ _ => by rw [h7], fun _ _ => by rw [h7], fun _ _ => by rw [h7], fun a _ => by rw [h8], fun _ _ => by rw [h8]⟩
      obtain ⟨p1, p2, p3⟩ := ml4.row (F := 82) (o := 9) (k := 15) (n := 300) (by decide +kernel)
      have A87 : A.I 87 i.m = nI Kn := (AI 87 i.m (Or.inr (by decide))).trans g5c
      rw [p1, p2, p3, A87, nI_clamp (n := c) (by omega)]
      refine ⟨rfl, rfl, rfl, vp_in_nI (by omega) (by decide), ?_⟩
      have cl6 : clF i.m c Kn Wn h.l.length U (A.wI (i.m + 9) c (nI Kn)) := clA.wI (Or.inl ⟨by omega, by omega, rfl⟩)
      have I6 : (A.wI (i.m + 9) c (nI Kn)).I = A.I := or_wI_I _ _ _ _
      have J6 : (A.wI (i.m + 9) c (nI Kn)).rJ = A.rJ := or_wI_rJ _ _ _ _
      have R6 : ∀ a z, (A.wI (i.m + 9) c (nI Kn)).rI a z = if a = i.m + 9 ∧ z = c then nI Kn else A.rI a z := fun a z => or_wI_rI _ _ _ _ _ _
      intro S6
      have e6 : S6 = A.wI (i.m + 9) c (nI Kn) := rfl
      clear_value S6
      rw [← e6] at cl6 I6 J6 R6
      clear e6
      have ml6 : oML S6 i.m i.ce := g1.1.next cl6.1 cl6.2.1 (fun F => by rw [cl6.2.2.2.1])
      obtain ⟨p4, p5, p6⟩ := ml6.row (F := 83) (o := 10) (k := 15) (n := 300) (by decide +kernel)
      rw [ml6.1, p4, p5, p6]
      refine ⟨rfl, rfl, vp_in_nI (by omega) (by decide), ?_⟩
      have cl7 : clF i.m c Kn Wn h.l.length U (S6.wI (i.m + 10) c (nI its.length)) := cl6.wI (Or.inl ⟨by omega, by omega, rfl⟩)
      have I7 : (S6.wI (i.m + 10) c (nI its.length)).I = A.I := (or_wI_I _ _ _ _).trans I6
      have J7 : (S6.wI (i.m + 10) c (nI its.length)).rJ = A.rJ := (or_wI_rJ _ _ _ _).trans J6
      have R7 : ∀ a z, (S6.wI (i.m + 10) c (nI its.length)).rI a z = if a = i.m + 10 ∧ z = c then nI its.length else S6.rI a z := fun a z => or_wI_rI _ _ _ _ _ _
      intro S7
      have e7 : S7 = S6.wI (i.m + 10) c (nI its.length) := rfl
      clear_value S7
      rw [← e7] at cl7 I7 J7 R7
      clear e7
      have ml7 : oML S7 i.m i.ce := g1.1.next cl7.1 cl7.2.1 (fun F => by rw [cl7.2.2.2.1])
      have q9 : S7.rI (i.m + 9) c = nI Kn := by rw [R7, if_neg (fun y => by have := y.1; omega), R6, if_pos ⟨rfl, rfl⟩]
      have q10 : S7.rI (i.m + 10) c = nI its.length := by rw [R7, if_pos ⟨rfl, rfl⟩]
      have q34 : S7.rI (i.m + 34) = U.rI (i.m + 34) := cl7.2.2.2.2.2.2.2.1 _ (by unfold clR; omega)
      show c_159_81 (ox_M sp (d + 4)) i.m (nI (rVp O).length) (nI its.length) (nI c) (nI 0) S7 mr sr Q
      refine s_159_81 hE (L := h.l.length) (Wn := Wn) (Kn := Kn) (n := its.length) (p := (rVp O).length) ml7 (by omega) (by omega) (fun V mr sr v1 v2 v3 v4 v5 v6 => ?_) its.length 0 mr sr S7 (Nat.zero_add _) clF.refl (fun _ _ => rfl) (fun _ _ => rfl) rfl ?_ (fun j hj => absurd hj (Nat.not_lt_zero _))
      · have clV := cl7.trans v1
        have VI : ∀ F, F ≠ 87 ∧ F ≠ 122 ∧ F ≠ 123 → V.I F i.m = U.I F i.m := fun F hF => (v2 F hF.1).trans (by rw [I7]; exact AI F i.m (Or.inr hF.2))
        have mtV : mtS V i.m i.ce i.b i.e s := g1.cl clV (VI 70 (by decide)) (VI 120 (by decide)) (VI 132 (by decide))
        refine s_156 hsp (by omega) mtV ((VI 88 (by decide)).trans g5d) (fun _ => by omega) (fun X nf mX fa => f_159_126 hE ?_)
        have clX := clV.nm nf
        have mlX := mX.1
        obtain ⟨t1, t2, t3⟩ := mlX.row (F := 131) (o := 35) (k := 15) (n := 300) (by decide +kernel)
        have XI : ∀ F, F ≠ 70 ∧ F ≠ 88 ∧ F ≠ 120 ∧ F ≠ 132 → X.I F i.m = V.I F i.m := fun F hF => nf.2.2.2.2.2.2.1 F i.m (Or.inr hF)
        have X124 : X.I 124 i.m = nI h.l.length := (XI 124 (by decide)).trans ((VI 124 (by decide)).trans g6a)
        unfold q_159_126
        rw [mlX.1, t1, t2, t3, X124, nI_clamp (n := h.l.length) (by omega)]
        refine ⟨rfl, rfl, rfl, vp_in_nI (by omega) (by decide), ?_⟩
        have clZ : clF i.m c Kn Wn h.l.length U (X.wI (i.m + 35) h.l.length (nI c)) := clX.wI (Or.inr (Or.inr ⟨rfl, Nat.le_refl _⟩))
        have IZ : (X.wI (i.m + 35) h.l.length (nI c)).I = X.I := or_wI_I _ _ _ _
        have JZ : (X.wI (i.m + 35) h.l.length (nI c)).rJ = X.rJ := or_wI_rJ _ _ _ _
        have RZ : ∀ a z, (X.wI (i.m + 35) h.l.length (nI c)).rI a z = if a = i.m + 35 ∧ z = h.l.length then nI c else X.rI a z := fun a z => or_wI_rI _ _ _ _ _ _
        intro Z
        have eZ : Z = X.wI (i.m + 35) h.l.length (nI c) := rfl
        clear_value Z
        rw [← eZ] at clZ IZ JZ RZ
        clear eZ
        rw [clZ.1, k14, IZ, X124, nI_1]
        refine ⟨rfl, rfl, ?_⟩
        have clY : clF i.m c Kn Wn h.l.length U (Z.sI 124 i.m (nI (h.l.length + 1))) := clZ.sI (by unfold clI; omega)
        have IY : ∀ F a, (Z.sI 124 i.m (nI (h.l.length + 1))).I F a = if F = 124 ∧ a = i.m then nI (h.l.length + 1) else X.I F a := fun F a => by rw [or_sI_I, IZ]
        have JY : (Z.sI 124 i.m (nI (h.l.length + 1))).rJ = X.rJ := (or_sI_rJ _ _ _ _).trans JZ
        have RY : ∀ a z, (Z.sI 124 i.m (nI (h.l.length + 1))).rI a z = if a = i.m + 35 ∧ z = h.l.length then nI c else X.rI a z := fun a z => by rw [or_sI_rI, RZ]
        intro Y
        have eY : Y = Z.sI 124 i.m (nI (h.l.length + 1)) := rfl
        clear_value Y
        rw [← eY] at clY IY JY RY
        clear eY
        have YI : ∀ F, F ≠ 124 → Y.I F i.m = X.I F i.m := fun F hF => (IY F i.m).trans (if_neg (fun y => hF y.1))
        have mY : mtS Y i.m i.ce i.b i.e (nmS i.b i.e s) := by
          obtain ⟨z1, z2, z3, z4, z5, z6⟩ := mX
          refine ⟨g1.1.next clY.1 clY.2.1 (fun F => by rw [clY.2.2.2.1]), (YI 121 (by decide)).trans z2, z3, fun w => by rw [YI 120 (by decide), YI 132 (by decide), YI 70 (by decide)]; exact z4 w, fun v hv => by rw [YI 132 (by decide), YI 70 (by decide)]; exact z5 v hv, fun j hj => ?_⟩
          rw [RY, if_neg (fun y => by have := y.1; omega)]
          exact z6 j hj
        refine ⟨trivial, ?_⟩
        cases en : (nmS i.b i.e s).2 with
        | some v =>
          refine hF v (fun w => by cases w) en Y _ ⟨⟨(nmS i.b i.e s).1, ?_⟩, g2.trans (clY.kR c23 c0 x5 x7), T, ?_, x9, by omega⟩
          · rw [← en]; exact mY
          · exact (clY.2.2.2.2.2.2.1 75 i.m (Or.inr (by unfold clI; omega))).trans g3a
        | none =>
          obtain ⟨u1, u2, u3, u4⟩ := fa en
          have en' : (nmN i.b i.e (bwS i.b i.e 0 12 s) (nmC i.b i.e s)).2 = none := en
          obtain ⟨n1, n2⟩ := nmN_none _ en'
          obtain ⟨-, m2, m3, -⟩ := bwS_none n1
          have eC : nmC i.b i.e s = i.b s.1 := if_pos n1
          rw [m3, eC] at n2
          have eS : nmS i.b i.e s = nmN i.b i.e (s.1 + 1, none) (i.b s.1) := by
            show nmN i.b i.e (bwS i.b i.e 0 12 s) (nmC i.b i.e s) = _
            rw [m3, eC]
          have Xr : ∀ a, a ≠ i.m + 11 → a ≠ i.m + 12 → X.rI a = V.rI a := nf.2.2.2.2.2.2.2.1
          have Yr : ∀ o z, o ≠ 35 → Y.rI (i.m + o) z = X.rI (i.m + o) z := fun o z ho => (RY _ _).trans (if_neg (fun y => by have := y.1; omega))
          rw [← gV_cd (γ := γ) c]
          refine hC c rfl en Y (g.code lm hs clY mY ?_ ?_ ?_ ?_ ?_ ?_ ?_ ?_ ?_ (fun j hj => ?_) ?_ (fun j hj => ?_) h12 m2.2.2 (by rw [eS]; exact n2))
          · rw [YI 122 (by decide), XI 122 (by decide), v2 122 (by decide), I7]; exact A122
          · rw [YI 123 (by decide), XI 123 (by decide), v2 123 (by decide), I7]; exact A123
          · rw [YI 87 (by decide), XI 87 (by decide)]; exact v5
          · rw [YI 88 (by decide)]; exact u3
          · exact (IY _ _).trans (if_pos ⟨rfl, rfl⟩)
          · rw [Yr 9 c (by decide), Xr _ (by omega) (by omega), v3 9 (by decide)]; exact q9
          · rw [Yr 10 c (by decide), Xr _ (by omega) (by omega), v3 10 (by decide)]; exact q10
          · rw [Yr 11 c (by decide)]; exact u1
          · rw [Yr 12 c (by decide)]; exact u2
          · rw [Yr 14 _ (by decide), Xr _ (by omega) (by omega), v6 j hj, q34]; exact (top j hj).1
          · exact (RY _ _).trans (if_pos ⟨rfl, rfl⟩)
          · rw [JY]; exact u4 j hj
      · rw [I7]; exact A87
  · cases cd with
    | some c => exact absurd rfl z
    | none =>
      have gA := g.pop (A := A) h1 h2 h3 h4 h5 h6 h7 h8 AI A122 A123
      have lr : its.reverse.length = its.length := List.length_reverse
      refine ⟨by decide, rfl, by decide, 0, 0, Nat.zero_le _, Nat.zero_le _, ?_⟩
      rw [← lr]
      have nc3 : h.c ≤ 300 := by omega
      refine s_157 hsp ml4 (W := fun j => gV γ (its.reverse.getD j 0)) (D := fun j => xDep h.H (its.reverse.getD j 0)) gA.2.2.1.2.1 (by omega) (by omega) (fun j hj => ?_) (fun V n1 n2 n3 => f_159_50 hE ⟨trivial, ?_⟩)
      · obtain ⟨w1, w2, w3⟩ := top j (by omega)
        exact ⟨by rw [h7]; exact w1, gA.2.2.1.1.deep g3b nc3 w2 w3⟩
      · rw [mxD_max] at n3
        have r := g.tup gA (hok rfl) n1 n2 n3 lm hs
        have eg : gV (upA γ h.n T) h.n = nI T := by
          unfold gV
          rw [if_neg (by have := g3b.1; omega), show upA γ h.n T h.n = T from if_pos rfl]
        rw [← eg]
        exact hT rfl V r
end C9b
