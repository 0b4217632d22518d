/-! the reference: a row's number -/
/-- the pile alone changes -/
def w41 (m : Nat) (S S' : ox_St) : Prop := S'.K = S.K ∧ S'.len = S.len ∧ S'.n = S.n ∧ S'.R = S.R ∧ S'.J = S.J ∧ S'.rR = S.rR ∧ S'.rJ = S.rJ ∧ S'.I = S.I ∧ ∀ a, a ≠ m + 41 → S'.rI a = S.rI a
/-- the values of the pile, the top one first -/
def rPi (S : ox_St) (m : Nat) (γ : Int → Nat) : List Int → Prop
  | [] => True
  | v :: P => S.rI (m + 41) P.length = gV γ v ∧ rPi S m γ P
theorem rPi.row {S S' : ox_St} {m : Nat} {γ : Int → Nat} : ∀ (P : List Int), (∀ j, j < P.length → S'.rI (m + 41) j = S.rI (m + 41) j) → rPi S m γ P → rPi S' m γ P
  | [], _, _ => trivial
  | v :: P, hr, h => ⟨(hr _ (Nat.lt_succ_self _)).trans h.1, rPi.row P (fun j hj => hr j (Nat.lt_succ_of_lt hj)) h.2⟩
def vpr (v : Int) : Int × Int := (v, v)
section RRw
variable {sp : ox_E} {d mr sr : Nat} {S S' U : ox_St} {Q : ox_Q} {m ce : Nat} {γ : Int → Nat} {B : List Int} {T : Nat} {C : Nat → xCd} {nc K y : Nat} {s : xSt} {H : xHp} {n v : Int} {o : xOb}
theorem w41.refl : w41 m S S := ⟨rfl, rfl, rfl, rfl, rfl, rfl, rfl, rfl, fun _ _ => rfl⟩
theorem w41.wI {i : Nat} {w : Int32} (h : w41 m S S') : w41 m S (S'.wI (m + 41) i w) := by
  obtain ⟨h1, h2, h3, h4, h5, h6, h7, h8, h9⟩ := h
  exact ⟨(or_wI_K _ _ _ _).trans h1, (or_wI_len _ _ _ _).trans h2, (or_wI_n _ _ _ _).trans h3, (or_wI_R _ _ _ _).trans h4, (or_wI_J _ _ _ _).trans h5, (or_wI_rR _ _ _ _).trans h6, (or_wI_rJ _ _ _ _).trans h7, (or_wI_I _ _ _ _).trans h8, fun a z => funext fun j => by
    rw [or_wI_rI, if_neg (fun y => z y.1)]
    exact congrFun (h9 a z) j⟩
theorem rV.w41 (h : rV S m ce γ B T C nc H) (g : w41 m S S') : rV S' m ce γ B T C nc H := by
  obtain ⟨h1, h2, h3, h4⟩ := h
  have hce := h1.2.2.1
  exact ⟨h1.next g.1 g.2.1 (fun F => by rw [g.2.2.2.1]), h2.next (fun j _ => by rw [g.2.2.2.2.2.2.2.2 _ (by omega)]), h3, fun c hc => by rw [g.2.2.2.2.2.2.2.2 _ (by omega)]; exact h4 c hc⟩
theorem w41.fx (g : w41 m S S') : mFx m S S' := by
  obtain ⟨h1, h2, h3, h4, h5, h6, h7, h8, h9⟩ := g
  exact ⟨h3, h1, h2, h5, h6, fun F a _ => by rw [h4], fun F a _ => by rw [h8], fun a z => h9 a (by omega), fun a _ => by rw [h7], fun F _ => by rw [h8], fun p z => h9 _ (by omega), by rw [h7]⟩
theorem rR.w41 (h : rR S m ce γ B T C nc y s) (hl : ∀ g ∈ s.f, g.2.2.1.length ≤ 10 ∧ g.2.2.2.2.length ≤ 4) (g : w41 m S S') : rR S' m ce γ B T C nc y s := by
  obtain ⟨a1, ⟨a2, a3⟩, ⟨a4, a5⟩, a6, a7, b, c1, c2, c3⟩ := h
  obtain ⟨h1, h2, h3, h4, h5, h6, h7, h8, h9⟩ := g
  have hce := a1.2.2.1
  have er : ∀ o, o ≤ 40 → S'.rI (m + o) = S.rI (m + o) := fun o z => h9 _ (by omega)
  exact ⟨a1.next h1 h2 (fun F => by rw [h4]), ⟨a2.next (fun j _ => by rw [er _ (by omega)]), by rw [h8]; exact a3⟩, ⟨a4, fun c hc => (a5 c hc).next (fun a z1 z2 => h9 a (by omega)) (by rw [h7]) (fun _ _ => rfl)⟩, rFs.next _ (fun f _ => ⟨fun o z1 z2 => by rw [er _ (by omega)], fun _ _ => by rw [er _ (by omega)], fun _ _ => by rw [er _ (by omega)], fun _ _ => by rw [er _ (by omega), er _ (by omega)]; exact ⟨rfl, rfl⟩⟩) hl (fun _ _ _ _ => rfl) a6, a7.next (by rw [h8]) (by rw [h7]) (er _ (by omega)) (fun _ _ => rfl), by rw [h8]; exact b, c1, c2, c3⟩
theorem getD_ap2 {A R : List Int32} {k : Nat} : (A ++ R).getD k (-1) = if k < A.length then A.getD k (-1) else R.getD (k - A.length) (-1) := by
  rw [List.getD_eq_getElem?_getD, List.getElem?_append]
  by_cases z : k < A.length
  · rw [if_pos z, if_pos z, List.getD_eq_getElem?_getD]
  · rw [if_neg z, if_neg z, List.getD_eq_getElem?_getD]
/-- a tuple's items are piled up, the last one first -/
theorem r_206_159 {E : ox_E} (hE : ox_mono E) (h : rV S m ce γ B T C nc H) {l : List Int} {dp : Nat} (e1 : H v = some (.inr (.inl (l, dp)))) (r1 : rO S (m + ce) γ v (.inr (.inl (l, dp)))) (r2 : γ v + (3 + l.length) ≤ 1100000) (l12 : l.length ≤ 12) {P : List Int} (hP : P.length ≤ 100) {x1 x2 x4 x6 x7 : Int32} (hQ : ∀ U mr sr, w41 m S U → rPi U m γ (l ++ P) → c_206_25 E m x1 x2 (nI (l ++ P).length) x4 U mr sr Q) : ∀ (i mr sr : Nat) (U : ox_St), i ≤ l.length → w41 m S U → rPi U m γ (l.drop i ++ P) → c_206_159 E m x1 x2 (nI (l.drop i ++ P).length) x4 (nI (γ v)) x6 x7 (nI i - 1) U mr sr Q := by
  obtain ⟨-, t1, t2, t3, t4⟩ := r1
  intro i
  induction i with
  | zero =>
    intro mr sr U hi hw hp
    exact f_206_159 hE ⟨fun _ => hQ U mr sr hw hp, fun z => absurd (show nI 0 - 1 < 0 by decide) z⟩
  | succ i ih =>
    intro mr sr U hi hw hp
    have hV := h.w41 hw
    have k14 : U.K m = 14 := hV.1.1
    have hce := hV.1.2.2.1
    obtain ⟨c1, c2, c3⟩ := hV.1.cells
    obtain ⟨p1, p2, p3⟩ := hV.1.row (F := 141) (o := 41) (k := 15) (n := 2000) (by decide)
    have ln : (l.drop (i + 1) ++ P).length = l.length - (i + 1) + P.length := by rw [List.length_append, List.length_drop]
    have n3 : nI (γ v) + 3 + nI i = nI (γ v + 3 + i) := by rw [show (3 : Int32) = nI 3 from rfl, nI_add, nI_add]
    have em : nI i + (-1) = nI i - 1 := by rw [Int32.sub_eq_add_neg]
    have t4' : U.rI (m + ce) (γ v + 3 + i) = gV γ (l.getD i 0) := by rw [hw.2.2.2.2.2.2.2.2 _ (by omega)]; exact t4 i hi
    rw [nI_pred]
    refine f_206_159 hE ⟨fun z => absurd z (nI_pos (by omega)), fun _ => ⟨by rw [k14]; rfl, by rw [k14]; rfl, by rw [c1, c2]; rfl, by rw [c1, c3, n3]; exact vp_in_nI (by omega) (by decide), by rw [p1]; exact p2, by rw [p1, p3, ln]; exact vp_in_nI (by omega) (by decide), ?_⟩⟩
    rw [c1, p1, n3, nI_clamp (show γ v + 3 + i < 2 ^ 31 by omega), nI_clamp (show (l.drop (i + 1) ++ P).length < 2 ^ 31 by omega), t4', nI_1, em]
    have ed : l.drop i ++ P = l.getD i 0 :: (l.drop (i + 1) ++ P) := by
      rw [List.drop_eq_getElem_cons (show i < l.length by omega), List.getD_eq_getElem?_getD, List.getElem?_eq_getElem (show i < l.length by omega)]
      rfl
    have el : (l.drop (i + 1) ++ P).length + 1 = (l.drop i ++ P).length := by rw [ed, List.length_cons]
    rw [el]
    refine ih mr sr _ (by omega) hw.wI ?_
    rw [ed]
    refine ⟨by rw [or_wI_rI, if_pos ⟨rfl, rfl⟩], hp.row _ (fun j hj => ?_)⟩
    rw [or_wI_rI, if_neg (fun y => by have := y.2; omega)]
set_option maxHeartbeats 1000000 in
theorem r_206_l (hsp : ox_mono sp) (h : rV S m ce γ B T C nc H) (hH : xHOk nc K H n) {x1 x2 : Int32} : ∀ (N : Nat) (P : List Int) (k mr sr : Nat) (U : ox_St), pM H (P.map vpr) ≤ N → w41 m S U → rPi U m γ P → pB H (P.map vpr) → (∀ v ∈ P, xOk nc H v ∧ xIn B v) → k < 2 ^ 31 → (∀ S', w41 m S S' → Q (some (.inl ((P.flatMap (xRow C H 5)).getD k (-1)))) S') → c_206_25 (ox_M sp (d + 2)) m x1 x2 (nI P.length) (nI k) U mr sr Q := by
  have hE : ox_mono (ox_M sp (d + 2)) := ox_M_mono hsp _
  have nil : ∀ (k mr sr : Nat) (U : ox_St), w41 m S U → (∀ S', w41 m S S' → Q (some (.inl ((([] : List Int).flatMap (xRow C H 5)).getD k (-1)))) S') → c_206_25 (ox_M sp (d + 2)) m x1 x2 (nI ([] : List Int).length) (nI k) U mr sr Q := fun k mr sr U hw hQ => f_206_25 hE ⟨fun _ => ⟨trivial, by have := hQ U hw; rw [List.flatMap_nil, List.getD_nil] at this; exact this⟩, fun z => absurd (show nI 0 ≤ 0 by decide) z⟩
  intro N
  induction N with
  | zero =>
    intro P k mr sr U hM hw hp hb hO hk hQ
    match P, hM, hp, hb, hO, hQ with
    | [], _, _, _, _, hQ => exact nil k mr sr U hw hQ
    | v :: P, hM, _, _, _, _ =>
      have h1 : 13 ^ xDep H v + pM H (P.map vpr) ≤ 0 := hM
      have h2 : 0 < 13 ^ xDep H v := Nat.pow_pos (by decide)
      omega
  | succ N ih =>
    intro P k mr sr U hM hw hp hb hO hk hQ
    match P, hM, hp, hb, hO, hQ with
    | [], _, _, _, _, hQ => exact nil k mr sr U hw hQ
    | v :: P, hM, ⟨r1, r2⟩, ⟨b1, b2⟩, hO, hQ =>
      have hM' : 13 ^ xDep H v + pM H (P.map vpr) ≤ N + 1 := hM
      have b1' : (P.map vpr).length + 1 + 11 * xDep H v ≤ 45 := b1
      rw [List.length_map] at b1'
      have p13 : 0 < 13 ^ xDep H v := Nat.pow_pos (by decide)
      obtain ⟨ok, hB⟩ := hO v List.mem_cons_self
      have hV := h.w41 hw
      have kU : U.K m = 14 := hV.1.1
      have hce := hV.1.2.2.1
      obtain ⟨p1, p2, p3⟩ := hV.1.row (F := 141) (o := 41) (k := 15) (n := 2000) (by decide)
      obtain ⟨c1, c2, c3⟩ := hV.1.cells
      have n0 : nI (v :: P).length + (-1) = nI P.length := by rw [← Int32.sub_eq_add_neg, List.length_cons]; exact nI_pred _
      have nle : ¬ nI (v :: P).length ≤ 0 := by rw [List.length_cons]; exact nI_nle (by omega) (by omega)
      have fm : (v :: P).flatMap (xRow C H 5) = xOwn C H v ++ (xKid H v ++ P).flatMap (xRow C H 5) := by rw [List.flatMap_cons, xRow_5 hH, List.flatMap_append, List.append_assoc]
      have ret : k < (xOwn C H v).length → ∀ x7 mr sr, ox_M sp (d + 2) 207 [.inr (.inr m), .inl (gV γ v), .inl (srt H v), .inl (nI k)] 0 0 U (k_206_132 (ox_M sp (d + 2)) m x1 x2 (nI P.length) (nI k) (gV γ v) (srt H v) x7 mr sr Q) := fun hl x7 mr sr => by
        refine r_207 hsp hV hH ok hB hl hk (f_206_132 hE ⟨trivial, ?_⟩)
        have := hQ U hw
        rw [fm, getD_ap2, if_pos hl] at this
        exact this
      have gos : ∀ s : Nat, (xOwn C H v).length = s → s ≤ k → xKid H v = [] → ∀ (w : Int32) mr sr, w = nI (k - s) → c_206_25 (ox_M sp (d + 2)) m x1 x2 (nI P.length) w U mr sr Q := fun s hs hl hkd w mr sr ew => by
        rw [ew]
        refine ih P (k - s) mr sr U (by omega) hw r2 b2 (fun u hu => hO u (List.mem_cons_of_mem _ hu)) (by omega) (fun S' hS => ?_)
        have := hQ S' hS
        rw [fm, getD_ap2, if_neg (by omega), hkd, List.nil_append, hs] at this
        exact this
      have le : ∀ s : Nat, s < 2 ^ 31 → (nI s ≤ nI k ↔ s ≤ k) := fun s hs => nI_leI hs hk
      have sb : ∀ s : Nat, s ≤ k → nI k - nI s = nI (k - s) := fun s hs => pk_sub hs
      refine f_206_25 hE ⟨fun z => absurd z nle, fun _ => ⟨by rw [kU]; rfl, by rw [p1, p2]; rfl, by rw [p1, p3, n0]; exact vp_in_nI (by omega) (by decide), ?_⟩⟩
      rw [p1, n0, nI_clamp (show P.length < 2 ^ 31 by omega), r1]
      refine ⟨by decide, kU, by decide, 0, 0, Nat.zero_le _, Nat.zero_le _, hV.sort hsp hH ok hB (f_206_46 hE ?_)⟩
      by_cases v16 : v < 16
      · obtain ⟨l1, l2, e0, eg, hc⟩ := hV.lo hH ok v16
        have es : srt H v = -1 := if_pos v16
        have n4 : ¬ srt H v = 4 := by rw [es]; decide
        have n7 : ¬ srt H v = 7 := by rw [es]; decide
        have n3 : ¬ srt H v = 3 := by rw [es]; decide
        have n5 : ¬ srt H v = 5 := by rw [es]; decide
        have kd : xKid H v = [] := by unfold xKid; rw [e0]
        have neg : gV γ v < 0 ↔ v < 0 := by
          rw [eg, Int32.lt_iff_toInt_lt, Int32.toInt_ofInt_of_le (by omega) (by omega)]
          exact Iff.rfl
        by_cases z0 : v < 0
        · have ow : (xOwn C H v).length = 2 := by unfold xOwn; rw [if_pos z0]; rfl
          exact ⟨fun _ => ⟨fun z => ⟨fun _ => gos 2 ow ((le 2 (by decide)).mp z) kd _ _ _ (sb 2 ((le 2 (by decide)).mp z)), fun y => absurd y n4⟩, fun z => ⟨by decide, kU, by decide, 0, 0, Nat.zero_le _, Nat.zero_le _, ret (by rw [ow]; exact Nat.not_le.mp fun y => z ((le 2 (by decide)).mpr y)) _ _ _⟩⟩, fun z => absurd (neg.mpr z0) z⟩
        · refine ⟨fun z => absurd (neg.mp z) z0, fun _ => ⟨fun y => absurd y n7, fun _ => ⟨by decide, by decide, 0, 0, Nat.zero_le _, Nat.zero_le _, hV.kind hsp hH ok hB (f_206_65 hE ?_)⟩⟩⟩
          by_cases z3 : v ≤ 3
          · have ow : (xOwn C H v).length = 1 := by unfold xOwn; rw [if_neg z0, if_pos z3]; rfl
            have nk : ¬ xIsK v = true := fun w => by
              unfold xIsK at w
              rw [Bool.and_eq_true, decide_eq_true_iff, decide_eq_true_iff] at w
              omega
            rw [if_neg nk]
            exact ⟨fun _ => ⟨fun _ => ⟨fun _ => ⟨fun _ => ⟨fun z => ⟨fun _ => gos 1 ow ((le 1 (by decide)).mp z) kd _ _ _ (sb 1 ((le 1 (by decide)).mp z)), fun y => absurd y n4⟩, fun z => ⟨by decide, kU, by decide, 0, 0, Nat.zero_le _, Nat.zero_le _, ret (by rw [ow]; exact Nat.not_le.mp fun y => z ((le 1 (by decide)).mpr y)) _ _ _⟩⟩, fun y => absurd y n5⟩, fun y => absurd y n4⟩, fun y => absurd y n3⟩, fun y => absurd rfl y⟩
          · have ow : (xOwn C H v).length = 2 := by unfold xOwn; rw [if_neg z0, if_neg z3, if_pos l2]; rfl
            have yk : xIsK v = true := by
              unfold xIsK
              rw [Bool.and_eq_true, decide_eq_true_iff, decide_eq_true_iff]
              omega
            rw [if_pos yk]
            exact ⟨fun y => absurd y (by decide), fun _ => ⟨fun z => ⟨fun _ => gos 2 ow ((le 2 (by decide)).mp z) kd _ _ _ (sb 2 ((le 2 (by decide)).mp z)), fun y => absurd y n4⟩, fun z => ⟨by decide, kU, by decide, 0, 0, Nat.zero_le _, Nat.zero_le _, ret (by rw [ow]; exact Nat.not_le.mp fun y => z ((le 2 (by decide)).mpr y)) _ _ _⟩⟩⟩
      · obtain ⟨o, e1, q1, q2, eg⟩ := hV.hi hB v16
        have g16 := q1.1
        have sz := xSz_2 o
        have nneg : ¬ gV γ v < 0 := by rw [eg]; exact nI_pos (by omega)
        have nk : ¬ xIsK v = true := fun w => by
          unfold xIsK at w
          rw [Bool.and_eq_true, decide_eq_true_iff, decide_eq_true_iff] at w
          omega
        have es : srt H v = Int32.ofInt (xTo o) := by unfold srt; rw [if_neg v16, xTg_o (by omega) e1]
        have n2 : nI (γ v) + 2 = nI (γ v + 2) := nI_add _ 2
        match o, e1, q1, q2, es with
        | .inl M, e1, ⟨_, f, c, sg, mn, hd, h0, hN, hc⟩, q2, es =>
          have es' : srt H v = 3 := es
          have n4 : ¬ srt H v = 4 := by rw [es']; decide
          have n7 : ¬ srt H v = 7 := by rw [es']; decide
          have kd : xKid H v = [] := by unfold xKid; rw [e1]
          have ow : (xOwn C H v).length = 3 + c := by
            rw [own_num (C := C) (by omega) e1 hd mn.2.1 (mn.sgI hd h0 hN) (nv_abs hN), List.length_cons, List.length_cons, List.length_cons, List.length_map, List.length_range]
            omega
          have c16 := mn.2.1
          have sz3 : xSz (.inl M) = 3 + c := by show 3 + dl 16 M.natAbs = _; rw [hc]
          have q2' : γ v + (3 + c) ≤ 1100000 := by rw [← sz3]; exact q2
          have cn : U.rI (m + ce) (γ v + 2) = nI c := by
            rcases mn.2.2 with w | w
            · omega
            · exact w.2.2.2.2.2.1
          have e3 : (3 : Int32) + nI c = nI (3 + c) := by rw [show (3 : Int32) = nI 3 from rfl, nI_add]
          refine ⟨fun z => absurd z nneg, fun _ => ⟨fun y => absurd y n7, fun _ => ⟨by decide, by decide, 0, 0, Nat.zero_le _, Nat.zero_le _, hV.kind hsp hH ok hB (f_206_65 hE ?_)⟩⟩⟩
          rw [if_neg nk]
          refine ⟨fun _ => ⟨fun y => absurd es' y, fun _ => ⟨by rw [kU]; rfl, by rw [c1, c2]; rfl, by rw [c1, c3, eg, n2]; exact vp_in_nI (by omega) (by decide), ?_⟩⟩, fun y => absurd rfl y⟩
          have ex : (3 : Int32) + U.rI (U.R 73 m) (Int32.toNatClampNeg (gV γ v + 2)) = nI (3 + c) := by rw [c1, eg, n2, nI_clamp (show γ v + 2 < 2 ^ 31 by omega), cn, e3]
          rw [ex]
          exact ⟨fun z => ⟨fun _ => gos (3 + c) ow ((le (3 + c) (by omega)).mp z) kd _ _ _ (sb (3 + c) ((le (3 + c) (by omega)).mp z)), fun y => absurd y n4⟩, fun z => ⟨by decide, kU, by decide, 0, 0, Nat.zero_le _, Nat.zero_le _, ret (by rw [ow]; exact Nat.not_le.mp fun y => z ((le (3 + c) (by omega)).mpr y)) _ _ _⟩⟩
        | .inr (.inr (.inl q)), e1, q1, q2, es =>
          have es' : srt H v = 5 := es
          have n4 : ¬ srt H v = 4 := by rw [es']; decide
          have n3 : ¬ srt H v = 3 := by rw [es']; decide
          have n7 : ¬ srt H v = 7 := by rw [es']; decide
          have kd : xKid H v = [] := by unfold xKid; rw [e1]
          have ow : (xOwn C H v).length = 4 := by unfold xOwn; rw [if_neg (by omega), if_neg (by omega), if_neg (by omega), e1]; rfl
          refine ⟨fun z => absurd z nneg, fun _ => ⟨fun y => absurd y n7, fun _ => ⟨by decide, by decide, 0, 0, Nat.zero_le _, Nat.zero_le _, hV.kind hsp hH ok hB (f_206_65 hE ?_)⟩⟩⟩
          rw [if_neg nk]
          exact ⟨fun _ => ⟨fun _ => ⟨fun _ => ⟨fun y => absurd es' y, fun _ => ⟨fun z => ⟨fun _ => gos 4 ow ((le 4 (by decide)).mp z) kd _ _ _ (sb 4 ((le 4 (by decide)).mp z)), fun y => absurd y n4⟩, fun z => ⟨by decide, kU, by decide, 0, 0, Nat.zero_le _, Nat.zero_le _, ret (by rw [ow]; exact Nat.not_le.mp fun y => z ((le 4 (by decide)).mpr y)) _ _ _⟩⟩⟩, fun y => absurd y n4⟩, fun y => absurd y n3⟩, fun y => absurd rfl y⟩
        | .inr (.inr (.inr (.inl q))), e1, q1, q2, es =>
          have es' : srt H v = 6 := es
          have n4 : ¬ srt H v = 4 := by rw [es']; decide
          have n3 : ¬ srt H v = 3 := by rw [es']; decide
          have n5 : ¬ srt H v = 5 := by rw [es']; decide
          have n7 : ¬ srt H v = 7 := by rw [es']; decide
          have kd : xKid H v = [] := by unfold xKid; rw [e1]
          have ow : (xOwn C H v).length = 1 := by unfold xOwn; rw [if_neg (by omega), if_neg (by omega), if_neg (by omega), e1]; rfl
          refine ⟨fun z => absurd z nneg, fun _ => ⟨fun y => absurd y n7, fun _ => ⟨by decide, by decide, 0, 0, Nat.zero_le _, Nat.zero_le _, hV.kind hsp hH ok hB (f_206_65 hE ?_)⟩⟩⟩
          rw [if_neg nk]
          exact ⟨fun _ => ⟨fun _ => ⟨fun _ => ⟨fun _ => ⟨fun z => ⟨fun _ => gos 1 ow ((le 1 (by decide)).mp z) kd _ _ _ (sb 1 ((le 1 (by decide)).mp z)), fun y => absurd y n4⟩, fun z => ⟨by decide, kU, by decide, 0, 0, Nat.zero_le _, Nat.zero_le _, ret (by rw [ow]; exact Nat.not_le.mp fun y => z ((le 1 (by decide)).mpr y)) _ _ _⟩⟩, fun y => absurd y n5⟩, fun y => absurd y n4⟩, fun y => absurd y n3⟩, fun y => absurd rfl y⟩
        | .inr (.inr (.inr (.inr c))), e1, q1, q2, es =>
          have es' : srt H v = 7 := es
          have n4 : ¬ srt H v = 4 := by rw [es']; decide
          have kd : xKid H v = [] := by unfold xKid; rw [e1]
          have ow : (xOwn C H v).length = 2 := by unfold xOwn; rw [if_neg (by omega), if_neg (by omega), if_neg (by omega), e1]; rfl
          exact ⟨fun z => absurd z nneg, fun _ => ⟨fun _ => ⟨fun z => ⟨fun _ => gos 2 ow ((le 2 (by decide)).mp z) kd _ _ _ (sb 2 ((le 2 (by decide)).mp z)), fun y => absurd y n4⟩, fun z => ⟨by decide, kU, by decide, 0, 0, Nat.zero_le _, Nat.zero_le _, ret (by rw [ow]; exact Nat.not_le.mp fun y => z ((le 2 (by decide)).mpr y)) _ _ _⟩⟩, fun y => absurd es' y⟩⟩
        | .inr (.inl (l, dp)), e1, q1, q2, es =>
          have es' : srt H v = 4 := es
          have n3 : ¬ srt H v = 3 := by rw [es']; decide
          have n7 : ¬ srt H v = 7 := by rw [es']; decide
          have kd : xKid H v = l := by unfold xKid; rw [e1]
          have ow : (xOwn C H v).length = 2 := by unfold xOwn; rw [if_neg (by omega), if_neg (by omega), if_neg (by omega), e1]; rfl
          have q2' : γ v + (3 + l.length) ≤ 1100000 := q2
          obtain ⟨d1, l12, d3⟩ := xDep_tup hH e1
          have cn : U.rI (m + ce) (γ v + 2) = nI l.length := q1.2.2.2.1
          obtain ⟨oo1, oo2, oo3, oo4⟩ := (hH.2 v _ e1).2.2
          have lB : ∀ u ∈ l, xIn B u := by
            have vB : v ∈ B := hB.resolve_left v16
            obtain ⟨o2, e2, cl⟩ := hV.2.1.1.2 v vB
            rw [e1] at e2
            cases e2
            exact cl
          refine ⟨fun z => absurd z nneg, fun _ => ⟨fun y => absurd y n7, fun _ => ⟨by decide, by decide, 0, 0, Nat.zero_le _, Nat.zero_le _, hV.kind hsp hH ok hB (f_206_65 hE ?_)⟩⟩⟩
          rw [if_neg nk]
          refine ⟨fun _ => ⟨fun _ => ⟨fun y => absurd es' y, fun _ => ⟨fun z => ⟨fun y => absurd es' y, fun _ => ⟨by rw [kU]; rfl, by rw [c1, c2]; rfl, by rw [c1, c3, eg, n2]; exact vp_in_nI (by omega) (by decide), ?_⟩⟩, fun z => ⟨by decide, kU, by decide, 0, 0, Nat.zero_le _, Nat.zero_le _, ret (by rw [ow]; exact Nat.not_le.mp fun y => z ((le 2 (by decide)).mpr y)) _ _ _⟩⟩⟩, fun y => absurd y n3⟩, fun y => absurd rfl y⟩
          have k2 := (le 2 (by decide)).mp z
          have es2 : nI k - 2 = nI (k - 2) := sb 2 k2
          rw [c1, eg, n2, nI_clamp (show γ v + 2 < 2 ^ 31 by omega), cn, es2]
          have dz : ∀ p ∈ l.map vpr, xDep H p.1 ≤ xMax H l := fun p hp => by
            obtain ⟨u, hu, e⟩ := List.mem_map.mp hp
            rw [← e]
            exact (xMax_iff (H := H) l).mp (Nat.le_refl _) u hu
          have hS : rO U (m + ce) γ v (.inr (.inl (l, dp))) := q1
          have go := r_206_159 (S := U) (m := m) (x1 := x1) (x2 := x2) (x4 := nI (k - 2)) (x6 := srt H v) (x7 := 2) (Q := Q) hE hV e1 hS q2' l12 (P := P) (by omega) (fun V mr sr hw2 hp2 => by
            have hSV : w41 m S V := by
              obtain ⟨h1, h2, h3, h4, h5, h6, h7, h8, h9⟩ := hw
              obtain ⟨j1, j2, j3, j4, j5, j6, j7, j8, j9⟩ := hw2
              exact ⟨j1.trans h1, j2.trans h2, j3.trans h3, j4.trans h4, j5.trans h5, j6.trans h6, j7.trans h7, j8.trans h8, fun a z => (j9 a z).trans (h9 a z)⟩
            refine ih (l ++ P) (k - 2) mr sr V ?_ hSV hp2 ?_ (fun u hu => ?_) (by omega) (fun S' hS' => ?_)
            · rw [List.map_append]
              have := pM_app (P := P.map vpr) (l.map vpr) dz
              rw [List.length_map] at this
              rw [d1, Nat.pow_succ] at hM'
              have p3' : 0 < 13 ^ xMax H l := Nat.pow_pos (by decide)
              have le : l.length * 13 ^ xMax H l ≤ 12 * 13 ^ xMax H l := Nat.mul_le_mul_right _ l12
              omega
            · rw [List.map_append]
              exact pB_app b2 (d := xDep H v) (by rw [List.length_map]; omega) _ (fun p hp => by have := dz p hp; omega) (by rw [List.length_map]; omega)
            · rcases List.mem_append.mp hu with z | z
              · exact ⟨oo4 u z, lB u z⟩
              · exact hO u (List.mem_cons_of_mem _ z)
            · have := hQ S' hS'
              rw [fm, getD_ap2, if_neg (by omega), kd, ow] at this
              exact this) l.length (mr - 0 - 0) (sr - 0 - 0) U (Nat.le_refl _) w41.refl (by rw [List.drop_length]; exact r2)
          rw [List.drop_length, List.nil_append] at go
          exact go
/-- row -/
theorem r_206 (hsp : ox_mono sp) (h : rV S m ce γ B T C nc H) (hH : xHOk nc K H n) (ok : xOk nc H v) (hB : xIn B v) {w : Int32} (hQ : ∀ S', w41 m S S' → Q (some (.inl (xTell (xRow C H 5 v) w))) S') : ox_M sp (d + 3) 206 [.inr (.inr m), .inl (gV γ v), .inl w] mr sr S Q := by
  have k14 : S.K m = 14 := h.1.1
  obtain ⟨p1, p2, p3⟩ := h.1.row (F := 141) (o := 41) (k := 15) (n := 2000) (by decide)
  unfold xTell at hQ
  refine f_206 hsp ⟨fun z => ⟨trivial, ?_⟩, fun z => ⟨fun z2 => ⟨by rw [k14]; rfl, by rw [p1]; exact p2, by rw [p1, p3]; exact (vp_in_nI (by decide) (by decide) : vp_in (nI 0) 2000), ?_⟩, fun z2 => ⟨trivial, ?_⟩⟩⟩
  · have := hQ S w41.refl
    rw [if_pos z] at this
    exact this
  · have wi : 0 ≤ w.toInt ∧ w.toInt ≤ 299 := by
      rw [Int32.lt_iff_toInt_lt] at z
      rw [Int32.le_iff_toInt_le, show (299 : Int32).toInt = 299 from by decide] at z2
      have : (0 : Int32).toInt = 0 := rfl
      omega
    have ew : w = nI w.toInt.toNat := Int32.toInt_inj.mp (by rw [nI_toInt (by omega)]; omega)
    have w300 : w < 300 := by
      rw [Int32.lt_iff_toInt_lt, show (300 : Int32).toInt = 300 from by decide]
      omega
    rw [p1, show Int32.toNatClampNeg 0 = 0 from rfl]
    have er : (S.wI (m + 41) 0 (gV γ v)).rI (m + 41) 0 = gV γ v := by rw [or_wI_rI, if_pos ⟨rfl, rfl⟩]
    have hw1 : w41 m S (S.wI (m + 41) 0 (gV γ v)) := w41.refl.wI
    have hQ' : ∀ S', w41 m S S' → Q (some (.inl ((xRow C H 5 v).getD w.toInt.toNat (-1)))) S' := fun S' hS => by
      have := hQ S' hS
      rw [if_neg z, if_pos w300, show w.toNatClampNeg = w.toInt.toNat from by rw [ew, nI_clamp (by omega), nI_toInt (by omega)]; rfl] at this
      exact this
    show c_206_25 (ox_M sp (d + 2)) m (gV γ v) w (nI [v].length) w (S.wI (m + 41) 0 (gV γ v)) mr sr Q
    have key := r_206_l (x1 := gV γ v) (x2 := w) (Q := Q) (d := d) hsp h hH (pM H ([v].map vpr)) [v] w.toInt.toNat mr sr (S.wI (m + 41) 0 (gV γ v)) (Nat.le_refl _) hw1 ⟨er, trivial⟩ ⟨by show 0 + 1 + 11 * xDep H v ≤ 45; have := xDep_le hH v; omega, trivial⟩ (fun u hu => by
      have e : u = v := List.mem_singleton.mp hu
      rw [e]; exact ⟨ok, hB⟩) (by omega) (fun S' hS => by
      have := hQ' S' hS
      rw [List.flatMap_cons, List.flatMap_nil, List.append_nil]
      exact this)
    rw [← ew] at key
    exact key
  · have := hQ S w41.refl
    have n300 : ¬ w < 300 := fun y => z2 (by
      rw [Int32.lt_iff_toInt_lt, show (300 : Int32).toInt = 300 from by decide] at y
      rw [Int32.le_iff_toInt_le, show (299 : Int32).toInt = 299 from by decide]
      omega)
    rw [if_neg z, if_neg n300] at this
    exact this
end RRw
