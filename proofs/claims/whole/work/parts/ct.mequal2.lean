/-! the reference: areEqual, whole -/
section REr
variable {sp : ox_E} {d mr sr : Nat} {S S' S2 : ox_St} {Q : ox_Q} {m ce a : Nat} {γ : Int → Nat} {B : List Int} {T : Nat} {C : Nat → xCd} {nc K y : Nat} {e : xEn} {q j i : Nat} {st r : List Int} {v u n : Int} {H : xHp} {o : xOb}
theorem r_135s (hsp : ox_mono sp) (h : rE S m ce γ B T C nc y e q st) (hx : xEs1 C nc K e st) (ok : xOk nc e.H v) (hB : xIn B v) (hQ1 : ∀ N, xNum e.H v = some N → Q (some (.inl 1)) S) (hQ0 : xNum e.H v = none → Q (some (.inl 0)) S) : ox_M sp (d + 2) 135 [.inr (.inr m), .inl (gV γ v)] mr sr S Q := by
  refine r_135 hsp h hx ok hB ?_
  cases z : xNum e.H v with
  | none => rw [if_pos rfl]; exact hQ0 z
  | some N => rw [if_neg (fun w => by cases w)]; exact hQ1 N z
theorem r_133s (hsp : ox_mono sp) (h : rE S m ce γ B T C nc y e q st) (hx : xEs1 C nc K e st) (ok : xOk nc e.H v) (hB : xIn B v) (hQ1 : ∀ p, e.H v = some (.inr (.inr (.inl p))) → Q (some (.inl 5)) S) (hQ0 : xRng e.H v = none → ∀ w : Int32, ¬ w = 5 → Q (some (.inl w)) S) : ox_M sp (d + 1) 133 [.inr (.inr m), .inl (gV γ v)] mr sr S Q := by
  refine r_133 hsp h hx ok hB ?_
  by_cases v16 : v < 16
  · obtain ⟨-, e0, -⟩ := h.lo hx ok v16
    rw [if_pos v16]
    exact hQ0 (by unfold xRng; rw [e0]) _ (by decide)
  · obtain ⟨o, e1, -⟩ := h.hi hB v16
    rw [if_neg v16, xTg_o (by omega) e1]
    match o, e1 with
    | .inl _, e1 => exact hQ0 (by unfold xRng; rw [e1]) _ (show ¬ Int32.ofInt 3 = 5 by decide)
    | .inr (.inl _), e1 => exact hQ0 (by unfold xRng; rw [e1]) _ (show ¬ Int32.ofInt 4 = 5 by decide)
    | .inr (.inr (.inl p)), e1 => exact hQ1 p e1
    | .inr (.inr (.inr (.inl _))), e1 => exact hQ0 (by unfold xRng; rw [e1]) _ (show ¬ Int32.ofInt 6 = 5 by decide)
    | .inr (.inr (.inr (.inr _))), e1 => exact hQ0 (by unfold xRng; rw [e1]) _ (show ¬ Int32.ofInt 7 = 5 by decide)
set_option maxHeartbeats 2000000 in
theorem r_182_l (hsp : ox_mono sp) (hx : xEs1 C nc K e st) {x1 x2 : Int32} : ∀ (N : Nat) (P : List (Int × Int)) (mr sr : Nat) (U : ox_St), pM e.H P ≤ N → rEqI S U m ce γ B T C nc y e q st → rPl U m γ P → pB e.H P → (∀ p ∈ P, (xOk nc e.H p.1 ∧ xIn B p.1) ∧ xOk nc e.H p.2 ∧ xIn B p.2) → (∀ S', rEqI S S' m ce γ B T C nc y e q st → Q (some (.inl (if P.all (fun p => xEq e.H 5 p.1 p.2) = true then 1 else 0))) S') → c_182_19 (ox_M sp (d + 3)) m x1 x2 (nI (2 * P.length)) 1 U mr sr Q := by
  have hE : ox_mono (ox_M sp (d + 3)) := ox_M_mono hsp _
  have hH := hx.1.1
  have nil : ∀ (mr sr : Nat) (U : ox_St), rEqI S U m ce γ B T C nc y e q st → (∀ S', rEqI S S' m ce γ B T C nc y e q st → Q (some (.inl (if ([] : List (Int × Int)).all (fun p => xEq e.H 5 p.1 p.2) = true then 1 else 0))) S') → c_182_19 (ox_M sp (d + 3)) m x1 x2 (nI (2 * ([] : List (Int × Int)).length)) 1 U mr sr Q := fun mr sr U hI hQ => f_182_19 hE ⟨fun _ => ⟨Or.inr rfl, hQ U hI⟩, fun z => absurd (show nI 0 ≤ 0 by decide) z⟩
  intro N
  induction N with
  | zero =>
    intro P mr sr U hM hI hp hb hO hQ
    match P, hM, hp, hb, hO, hQ with
    | [], _, _, _, _, hQ => exact nil mr sr U hI hQ
    | p :: P, hM, _, _, _, _ =>
      have h1 : 13 ^ xDep e.H p.1 + pM e.H P ≤ 0 := hM
      have h2 : 0 < 13 ^ xDep e.H p.1 := Nat.pow_pos (by decide)
      omega
  | succ N ih =>
    intro P mr sr U hM hI hp hb hO hQ
    match P, hM, hp, hb, hO, hQ with
    | [], _, _, _, _, hQ => exact nil mr sr U hI hQ
    | (av, bv) :: P, hM, ⟨r1, r2, r3⟩, ⟨b1, b2⟩, hO, hQ =>
      have hM' : 13 ^ xDep e.H av + pM e.H P ≤ N + 1 := hM
      have r1' : U.rI (m + 41) (2 * P.length) = gV γ av := r1
      have r2' : U.rI (m + 41) (2 * P.length + 1) = gV γ bv := r2
      have b1' : P.length + 1 + 11 * xDep e.H av ≤ 45 := b1
      have p13 : 0 < 13 ^ xDep e.H av := Nat.pow_pos (by decide)
      obtain ⟨⟨oka, hBa⟩, okb, hBb⟩ := hO (av, bv) List.mem_cons_self
      have oka' : xOk nc e.H av := oka
      have okb' : xOk nc e.H bv := okb
      have hBa' : xIn B av := hBa
      have hBb' : xIn B bv := hBb
      have hOP : ∀ p ∈ P, (xOk nc e.H p.1 ∧ xIn B p.1) ∧ xOk nc e.H p.2 ∧ xIn B p.2 := fun p hp => hO p (List.mem_cons_of_mem _ hp)
      have hU := hI.1
      have k14 := hU.k
      obtain ⟨p1, p2, p3⟩ := hU.ml.row (F := 141) (o := 41) (k := 15) (n := 2000) (by decide)
      obtain ⟨c1, c2, c3⟩ := hU.ml.cells
      have n0 : nI (2 * ((av, bv) :: P).length) + (-2) = nI (2 * P.length) := by
        rw [← Int32.sub_eq_add_neg, show (2 : Int32) = nI 2 from rfl, List.length_cons, pk_sub (by omega)]
        exact congrArg nI (by omega)
      have n1 : nI (2 * P.length) + 1 = nI (2 * P.length + 1) := nI_1 _
      have nle : ¬ nI (2 * ((av, bv) :: P).length) ≤ 0 := by rw [List.length_cons]; exact nI_nle (by omega) (by omega)
      have al : ((av, bv) :: P).all (fun p => xEq e.H 5 p.1 p.2) = (xEq e.H 5 av bv && P.all (fun p => xEq e.H 5 p.1 p.2)) := List.all_cons
      have rest : ∀ mr sr (V : ox_St), rEqI S V m ce γ B T C nc y e q st → rPl V m γ P → xEq e.H 5 av bv = true → c_182_19 (ox_M sp (d + 3)) m x1 x2 (nI (2 * P.length)) 1 V mr sr Q := fun mr sr V hV hpV xe => ih P mr sr V (by omega) hV hpV b2 hOP (fun S' hS => by
        have := hQ S' hS
        rw [al, xe, Bool.true_and] at this
        exact this)
      have fal : ∀ mr sr (V : ox_St) (x3 : Int32), rEqI S V m ce γ B T C nc y e q st → xEq e.H 5 av bv = false → c_182_19 (ox_M sp (d + 3)) m x1 x2 x3 0 V mr sr Q := fun mr sr V x3 hV xe => by
        have := hQ V hV
        rw [al, xe, Bool.false_and, if_neg (by decide)] at this
        exact f_182_19 hE ⟨fun _ => ⟨Or.inl rfl, this⟩, fun _ => ⟨fun _ => ⟨Or.inl rfl, this⟩, fun z => absurd rfl z⟩⟩
      refine f_182_19 hE ⟨fun z => absurd z nle, fun _ => ⟨fun z => absurd z (by decide), fun _ => ⟨by rw [k14]; rfl, by rw [p1, p2]; rfl, by rw [p1, p3, n0]; exact vp_in_nI (by omega) (by decide), ?_⟩⟩⟩
      rw [p1, p2, p3, n0, n1, k14, nI_clamp (show 2 * P.length < 2 ^ 31 by omega), nI_clamp (show 2 * P.length + 1 < 2 ^ 31 by omega), r1', r2']
      intro w1
      have ew : w1 = gV γ av := rfl
      clear_value w1
      subst ew
      refine ⟨rfl, rfl, vp_in_nI (by omega) (by decide), ?_⟩
      intro w2
      have ew : w2 = gV γ bv := rfl
      clear_value w2
      subst ew
      have inj := hU.inj hx oka' okb' hBa' hBb'
      refine ⟨fun z => ⟨by decide, rfl, by decide, 0, 0, Nat.zero_le _, Nat.zero_le _, ?_⟩, fun z => rest _ _ U hI r3 (by rw [inj.mp z]; exact xEq_self 5 bv)⟩
      have ne : av ≠ bv := fun w => z (inj.mpr w)
      obtain ⟨s1, s2⟩ := xEq_5 hH ne
      -- neither numbers nor tuples
      have span : (xNum e.H av = none ∨ xNum e.H bv = none) → (xTup e.H av = none ∨ xTup e.H bv = none) → ∀ mr sr, ox_M sp (d + 3) 133 [.inr (.inr m), .inl (gV γ av)] 0 0 U (k_182_222 (ox_M sp (d + 3)) m x1 x2 (nI (2 * P.length)) 1 (gV γ av) (gV γ bv) mr sr Q) := fun hn ht mr sr => by
        obtain ⟨s4, s5⟩ := (s2 hn).2 ht
        refine r_133s hsp hU hx oka' hBa' (fun p ep => f_182_222 hE ⟨fun w => absurd rfl w, fun _ => ⟨by decide, k14, by decide, 0, 0, Nat.zero_le _, Nat.zero_le _, ?_⟩⟩) (fun er w hw => f_182_222 hE ⟨fun _ => fal _ _ U _ hI (s5 (Or.inl er)), fun x => absurd x hw⟩)
        refine r_133s hsp hU hx okb' hBb' (fun p' ep' => f_182_232 hE ⟨fun w => absurd rfl w, fun _ => ?_⟩) (fun er w hw => f_182_232 hE ⟨fun _ => fal _ _ U _ hI (s5 (Or.inr er)), fun x => absurd x hw⟩)
        obtain ⟨t1, t2, t3, t4, t5, -⟩ := hU.rngc hx hBa' ep
        obtain ⟨u1, u2, u3, u4, u5, -⟩ := hU.rngc hx hBb' ep'
        have xa : xRng e.H av = some p := by unfold xRng; rw [ep]
        have xb : xRng e.H bv = some p' := by unfold xRng; rw [ep']
        have xe := s4 p p' xa xb
        have i1 : ∀ o, nI (γ av) + nI o = nI (γ av + o) := fun o => nI_add _ _
        have i2 : ∀ o, nI (γ bv) + nI o = nI (γ bv + o) := fun o => nI_add _ _
        have e1 : nI (γ av) + 1 = nI (γ av + 1) := i1 1
        have e2 : nI (γ av) + 2 = nI (γ av + 2) := i1 2
        have e3 : nI (γ av) + 3 = nI (γ av + 3) := i1 3
        have g1 : nI (γ bv) + 1 = nI (γ bv + 1) := i2 1
        have g2 : nI (γ bv) + 2 = nI (γ bv + 2) := i2 2
        have g3 : nI (γ bv) + 3 = nI (γ bv + 3) := i2 3
        have f0 : p ≠ p' → xEq e.H 5 av bv = false := fun w => by rw [xe, beq_eq_false_iff_ne]; exact w
        have f1 : p = p' → xEq e.H 5 av bv = true := fun w => by rw [xe, w, beq_self_eq_true]
        rw [c1, c2, c3, k14, t1, u1, e1, e2, e3, g1, g2, g3, nI_clamp (show γ av + 1 < 2 ^ 31 by omega), nI_clamp (show γ av + 2 < 2 ^ 31 by omega), nI_clamp (show γ av + 3 < 2 ^ 31 by omega), nI_clamp (show γ bv + 1 < 2 ^ 31 by omega), nI_clamp (show γ bv + 2 < 2 ^ 31 by omega), nI_clamp (show γ bv + 3 < 2 ^ 31 by omega)]
        refine ⟨rfl, rfl, vp_in_nI (by omega) (by decide), rfl, rfl, vp_in_nI (by omega) (by decide), fun w => fal _ _ U _ hI (f0 ?_), fun w => ⟨rfl, rfl, vp_in_nI (by omega) (by decide), rfl, rfl, vp_in_nI (by omega) (by decide), fun w2 => fal _ _ U _ hI (f0 ?_), fun w2 => ⟨rfl, rfl, vp_in_nI (by omega) (by decide), rfl, rfl, vp_in_nI (by omega) (by decide), fun w3 => fal _ _ U _ hI (f0 ?_), fun w3 => rest _ _ U hI r3 (f1 ?_)⟩⟩⟩
        · exact fun x => w (Int32.toInt_inj.mp (by rw [t3, u3, x]))
        · exact fun x => w2 (Int32.toInt_inj.mp (by rw [t4, u4, x]))
        · exact fun x => w3 (Int32.toInt_inj.mp (by rw [t5, u5, x]))
        · have h1 := congrArg Int32.toInt w
          have h2 := congrArg Int32.toInt w2
          have h3 := congrArg Int32.toInt w3
          rw [t3, u3] at h1
          rw [t4, u4] at h2
          rw [t5, u5] at h3
          exact Prod.ext h1 (Prod.ext h2 h3)
      -- not both numbers
      have tupl : (xNum e.H av = none ∨ xNum e.H bv = none) → ∀ mr sr, ox_M sp (d + 3) 134 [.inr (.inr m), .inl (gV γ av)] 0 0 U (k_182_104 (ox_M sp (d + 3)) m x1 x2 (nI (2 * P.length)) 1 (gV γ av) (gV γ bv) mr sr Q) := fun hn mr sr => by
        refine r_134 hsp hU hx oka' hBa' (fun l ka ea => f_182_104 hE ⟨fun w => absurd w (by decide), fun _ => ⟨by decide, k14, by decide, 0, 0, Nat.zero_le _, Nat.zero_le _, ?_⟩⟩) (fun et => f_182_104 hE ⟨fun _ => ⟨by decide, k14, by decide, 0, 0, Nat.zero_le _, Nat.zero_le _, span hn (Or.inl et) _ _⟩, fun w => absurd rfl w⟩)
        refine r_134 hsp hU hx okb' hBb' (fun l' kb eb => f_182_113 hE ⟨fun w => absurd w (by decide), fun _ => ?_⟩) (fun et => f_182_113 hE ⟨fun _ => ⟨by decide, k14, by decide, 0, 0, Nat.zero_le _, Nat.zero_le _, span hn (Or.inr et) _ _⟩, fun w => absurd rfl w⟩)
        obtain ⟨t1, t2, t3, t4, t5, t6⟩ := hU.tupc hx hBa' ea
        obtain ⟨u1, u2, u3, u4, u5, u6⟩ := hU.tupc hx hBb' eb
        have l12 : l.length ≤ 12 := t6.1
        have l12' : l'.length ≤ 12 := u6.1
        have xa : xTup e.H av = some l := by unfold xTup; rw [ea]
        have xb : xTup e.H bv = some l' := by unfold xTup; rw [eb]
        have xe := (s2 hn).1 l l' xa xb
        obtain ⟨d1, -, d3⟩ := xDep_tup hH ea
        have e2 : nI (γ av) + 2 = nI (γ av + 2) := nI_add _ 2
        have g2 : nI (γ bv) + 2 = nI (γ bv + 2) := nI_add _ 2
        rw [c1, c2, c3, k14, t1, u1, e2, g2, nI_clamp (show γ av + 2 < 2 ^ 31 by omega), nI_clamp (show γ bv + 2 < 2 ^ 31 by omega), t3, u3]
        refine ⟨rfl, rfl, vp_in_nI (by omega) (by decide), rfl, rfl, vp_in_nI (by omega) (by decide), fun w => ?_, fun w => ?_⟩
        · have nl : l.length ≠ l'.length := fun x => w (by rw [x])
          have xf : xEq e.H 5 av bv = false := by
            rw [xe, show (l.length == l'.length) = false from by rw [beq_eq_false_iff_ne]; exact nl]
            rfl
          refine f_182_147 hE ⟨by rw [k14]; rfl, by rw [c1, c2]; rfl, by rw [c1, c3, e2]; exact vp_in_nI (by omega) (by decide), fun _ => fal _ _ U _ hI xf, fun _ => ⟨fun _ => fal _ _ U _ hI xf, fun x => absurd rfl x⟩⟩
        · have yl : l.length = l'.length := (nI_eq (by omega) (by omega)).mp w
          have xt : xEq e.H 5 av bv = (l.zip l').all (fun z => xEq e.H 5 z.1 z.2) := by
            rw [xe, yl, beq_self_eq_true, Bool.true_and]
          have zl : (l.zip l').length = l.length := by rw [List.length_zip]; omega
          have dz : ∀ p ∈ (l.zip l').reverse, xDep e.H p.1 ≤ xMax e.H l := fun p hp => (xMax_iff (H := e.H) l).mp (Nat.le_refl _) p.1 (List.of_mem_zip (List.mem_reverse.mp hp)).1
          show c_182_147 (ox_M sp (d + 3)) m x1 x2 (nI (2 * P.length)) 1 (nI (γ av)) (nI (γ bv)) (nI 0) U _ _ Q
          have go := r_182_147 (x1 := x1) (x2 := x2) (Q := Q) (S := S) hE hx hBa' hBb' ea eb yl (P := P) (by omega) (fun V mr sr hV hpV => ih ((l.zip l').reverse ++ P) mr sr V ?_ hV hpV (pB_app b2 b1' _ (fun p hp => by have := dz p hp; omega) (by rw [List.length_reverse]; omega)) (fun p hp => ?_) (fun S' hS => ?_)) l.length 0 mr sr U (by omega) hI r3
          · rw [Nat.zero_add] at go
            exact go
          · have := pM_app (P := P) (l.zip l').reverse dz
            rw [List.length_reverse, zl] at this
            rw [d1, Nat.pow_succ] at hM'
            have p3' : 0 < 13 ^ xMax e.H l := Nat.pow_pos (by decide)
            have le : l.length * 13 ^ xMax e.H l ≤ 12 * 13 ^ xMax e.H l := Nat.mul_le_mul_right _ l12
            omega
          · rcases List.mem_append.mp hp with x | x
            · have mz := List.of_mem_zip (List.mem_reverse.mp x)
              exact ⟨⟨t6.2.2.2 _ mz.1, t5 _ mz.1⟩, u6.2.2.2 _ mz.2, u5 _ mz.2⟩
            · exact hOP p x
          · have := hQ S' hS
            rw [al, xt] at this
            rw [List.all_append, List.all_reverse]
            exact this
      refine r_135s hsp hU hx oka' hBa' (fun Na na => f_182_65 hE ⟨fun w => absurd w (by decide), fun _ => ⟨by decide, k14, by decide, 0, 0, Nat.zero_le _, Nat.zero_le _, ?_⟩⟩) (fun na => f_182_65 hE ⟨fun _ => ⟨by decide, k14, by decide, 0, 0, Nat.zero_le _, Nat.zero_le _, tupl (Or.inl na) _ _⟩, fun w => absurd rfl w⟩)
      refine r_135s hsp hU hx okb' hBb' (fun Nb nb => f_182_74 hE ⟨fun w => absurd w (by decide), fun _ => ⟨by decide, k14, by decide, 0, 0, Nat.zero_le _, Nat.zero_le _, ?_⟩⟩) (fun nb => f_182_74 hE ⟨fun _ => ⟨by decide, k14, by decide, 0, 0, Nat.zero_le _, Nat.zero_le _, tupl (Or.inr nb) _ _⟩, fun w => absurd rfl w⟩)
      obtain ⟨ua, fa, ja, sa, ga1, ga2, ga3, ga4, ga5⟩ := hU.num hx hBa' na
      obtain ⟨ub, fb, jb, sb, gb1, gb2, gb3, gb4, gb5⟩ := hU.num hx hBb' nb
      have xe := s1 Na Nb na nb
      show ox_M sp (d + 3) 142 [.inr (.inr m), .inl (gV γ av), .inl (gV γ bv)] 0 0 U (k_182_85 (ox_M sp (d + 3)) m x1 x2 (nI (2 * P.length)) 1 (gV γ av) (gV γ bv) _ _ Q)
      have goal : ∀ V, mTmp m U V → k_182_85 (ox_M sp (d + 3)) m x1 x2 (nI (2 * P.length)) 1 (gV γ av) (gV γ bv) (mr - 0 - 0 - 0) (sr - 0 - 0 - 0) Q (some (.inl (cmpZ (nv fa ja sa) (nv fb jb sb)))) V := fun V hV => by
        obtain ⟨v1, v2, v3⟩ := hU.tmp hx hV
        have hIV : rEqI S V m ce γ B T C nc y e q st := ⟨v1, hI.2.1.trans v2, v3.trans hI.2.2.1, (hV.2.2.2.2.2.2.2.1 139 m (Or.inr (by omega))).trans hI.2.2.2⟩
        have row : V.rI (m + 41) = U.rI (m + 41) := hV.2.2.2.2.2.2.2.2 (m + 41) (by omega)
        rw [ga5, gb5]
        refine f_182_85 hE ⟨fun w => fal _ _ V _ hIV ?_, fun w => rest _ _ V hIV (r3.row _ (fun j _ => by rw [row])) ?_⟩
        · rw [xe, beq_eq_false_iff_ne]; exact fun x => w (cmpZ_0.mpr x)
        · rw [xe, cmpZ_0.mp w, beq_self_eq_true]
      rw [ga1, gb1] at goal ⊢
      exact s_142 hsp hU.ml ga2 gb2 ga3 gb3 ga4 gb4 goal
/-- areEqual -/
theorem r_182 (hsp : ox_mono sp) (h : rE S m ce γ B T C nc y e q st) (hx : xEs1 C nc K e st) (oku : xOk nc e.H u) (okv : xOk nc e.H v) (hBu : xIn B u) (hBv : xIn B v) (hQ : ∀ S', rEqI S S' m ce γ B T C nc y e q st → Q (some (.inl (if xEq e.H 5 u v = true then 1 else 0))) S') : ox_M sp (d + 4) 182 [.inr (.inr m), .inl (gV γ u), .inl (gV γ v)] mr sr S Q := by
  have k14 := h.k
  obtain ⟨p1, p2, p3⟩ := h.ml.row (F := 141) (o := 41) (k := 15) (n := 2000) (by decide)
  have i0 : rEqI S S m ce γ B T C nc y e q st := ⟨h, mFx.refl, rfl, rfl⟩
  have i1 := i0.wO hx (i := 0) (w := gV γ u)
  refine f_182 hsp ⟨by rw [k14]; rfl, by rw [p1]; exact p2, by rw [p1, p3]; exact (vp_in_nI (by decide) (by decide) : vp_in (nI 0) 2000), ?_⟩
  rw [p1, show Int32.toNatClampNeg 0 = 0 from rfl, show Int32.toNatClampNeg 1 = 1 from rfl]
  show ox_has ((S.wI (m + 41) 0 (gV γ u)).K m) 141 = true ∧ _
  have er1 : ∀ a j, (S.wI (m + 41) 0 (gV γ u)).rI a j = if a = m + 41 ∧ j = 0 then gV γ u else S.rI a j := fun a j => or_wI_rI _ _ _ _ _ _
  have e1 : (S.wI (m + 41) 0 (gV γ u)).R 141 m = m + 41 ∧ (S.wI (m + 41) 0 (gV γ u)).K (m + 41) = 15 ∧ (S.wI (m + 41) 0 (gV γ u)).len (m + 41) = 2000 := i1.1.ml.row (F := 141) (o := 41) (k := 15) (n := 2000) (by decide)
  refine ⟨by rw [or_wI_K, k14]; rfl, by rw [e1.1]; exact e1.2.1, by rw [e1.1, e1.2.2]; exact (vp_in_nI (by decide) (by decide) : vp_in (nI 1) 2000), ?_⟩
  rw [e1.1]
  generalize S.wI (m + 41) 0 (gV γ u) = V at i1 er1 ⊢
  have i2 := i1.wO hx (i := 1) (w := gV γ v)
  show c_182_19 (ox_M sp (d + 3)) m (gV γ u) (gV γ v) (nI (2 * [(u, v)].length)) 1 (V.wI (m + 41) 1 (gV γ v)) mr sr Q
  have er2 : ∀ a j, (V.wI (m + 41) 1 (gV γ v)).rI a j = if a = m + 41 ∧ j = 1 then gV γ v else if a = m + 41 ∧ j = 0 then gV γ u else S.rI a j := fun a j => by rw [or_wI_rI, er1]
  generalize V.wI (m + 41) 1 (gV γ v) = W at i2 er2 ⊢
  have dp := xDep_le hx.1.1 u
  refine r_182_l hsp hx (pM e.H [(u, v)]) [(u, v)] mr sr W (Nat.le_refl _) i2 ⟨?_, ?_, trivial⟩ ⟨?_, trivial⟩ (fun p hp => ?_) (fun S' hS => ?_)
  · show W.rI (m + 41) 0 = gV γ u
    rw [er2, if_neg (fun y => by have := y.2; omega), if_pos ⟨rfl, rfl⟩]
  · show W.rI (m + 41) 1 = gV γ v
    rw [er2, if_pos ⟨rfl, rfl⟩]
  · show 0 + 1 + 11 * xDep e.H u ≤ 45
    omega
  · rcases List.mem_cons.mp hp with z | z
    · rw [z]; exact ⟨⟨oku, hBu⟩, okv, hBv⟩
    · cases z
  · have := hQ S' hS
    rw [List.all_cons, List.all_nil, Bool.and_true]
    exact this
end REr
