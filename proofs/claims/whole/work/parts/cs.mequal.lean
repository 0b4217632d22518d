/-! the reference: areEqual -/
section XEq
variable {nc K : Nat} {H : xHp} {n : Int}
theorem xDep_tup (hH : xHOk nc K H n) {v : Int} {l : List Int} {k : Nat} (e : H v = some (.inr (.inl (l, k)))) : xDep H v = xMax H l + 1 ∧ l.length ≤ 12 ∧ xMax H l ≤ 3 := by
  obtain ⟨o1, o2, o3, -⟩ := (hH.2 v _ e).2.2
  have o2' : k = xMax H l + 1 := o2
  have o3' : k ≤ 4 := o3
  have ed : xDep H v = k := by unfold xDep; rw [e]
  exact ⟨by omega, o1, by omega⟩
theorem xEq_st (hH : xHOk nc K H n) : ∀ (k : Nat) (u v : Int), xDep H u < k → xEq H (k + 1) u v = xEq H k u v
  | 0, _, _, h => absurd h (Nat.not_lt_zero _)
  | k + 1, u, v, h => by
    have ih := xEq_st hH k
    show (u == v || match xNum H u, xNum H v with
      | some p, some q => p == q
      | _, _ => match xTup H u, xTup H v with
        | some l, some l' => l.length == l'.length && (l.zip l').all (fun z => xEq H (k + 1) z.1 z.2)
        | _, _ => match xRng H u, xRng H v with
          | some r, some r' => r == r'
          | _, _ => false) = (u == v || match xNum H u, xNum H v with
      | some p, some q => p == q
      | _, _ => match xTup H u, xTup H v with
        | some l, some l' => l.length == l'.length && (l.zip l').all (fun z => xEq H k z.1 z.2)
        | _, _ => match xRng H u, xRng H v with
          | some r, some r' => r == r'
          | _, _ => false)
    have key : ∀ l l', xTup H u = some l → (l.zip l').all (fun z => xEq H (k + 1) z.1 z.2) = (l.zip l').all (fun z => xEq H k z.1 z.2) := fun l l' hl => by
      obtain ⟨kk, e1⟩ := xTup_some hl
      obtain ⟨d1, -, -⟩ := xDep_tup hH e1
      have all : ∀ z ∈ l.zip l', xEq H (k + 1) z.1 z.2 = xEq H k z.1 z.2 := fun z hz => ih z.1 z.2 (by
        have := (xMax_iff (H := H) l).mp (Nat.le_refl _) z.1 (List.of_mem_zip hz).1
        omega)
      generalize l.zip l' = L at all
      induction L with
      | nil => rfl
      | cons z L ihL =>
        rw [List.all_cons, List.all_cons, all z List.mem_cons_self, ihL (fun w hw => all w (List.mem_cons_of_mem _ hw))]
    cases t1 : xTup H u with
    | none => rfl
    | some l =>
      cases t2 : xTup H v with
      | none => rfl
      | some l' =>
        dsimp only
        rw [key l l' t1]
/-- equality, spelled out -/
theorem xEq_5 (hH : xHOk nc K H n) {a b : Int} (ne : a ≠ b) : (∀ p q, xNum H a = some p → xNum H b = some q → xEq H 5 a b = (p == q)) ∧ (xNum H a = none ∨ xNum H b = none → (∀ l l', xTup H a = some l → xTup H b = some l' → xEq H 5 a b = (l.length == l'.length && (l.zip l').all (fun z => xEq H 5 z.1 z.2))) ∧ (xTup H a = none ∨ xTup H b = none → (∀ r r', xRng H a = some r → xRng H b = some r' → xEq H 5 a b = (r == r')) ∧ (xRng H a = none ∨ xRng H b = none → xEq H 5 a b = false))) := by
  have nb : (a == b) = false := by rw [beq_eq_false_iff_ne]; exact ne
  have e0 : xEq H 5 a b = (match xNum H a, xNum H b with
      | some p, some q => p == q
      | _, _ => match xTup H a, xTup H b with
        | some l, some l' => l.length == l'.length && (l.zip l').all (fun z => xEq H 4 z.1 z.2)
        | _, _ => match xRng H a, xRng H b with
          | some r, some r' => r == r'
          | _, _ => false) := by
    show (a == b || _) = _
    rw [nb]
    rfl
  refine ⟨fun p q h1 h2 => by rw [e0, h1, h2], fun hn => ?_⟩
  have e1 : xEq H 5 a b = (match xTup H a, xTup H b with
        | some l, some l' => l.length == l'.length && (l.zip l').all (fun z => xEq H 4 z.1 z.2)
        | _, _ => match xRng H a, xRng H b with
          | some r, some r' => r == r'
          | _, _ => false) := by
    rw [e0]
    rcases hn with z | z
    · rw [z]
    · rw [z]
      cases xNum H a with
      | none => rfl
      | some p => rfl
  refine ⟨fun l l' h1 h2 => ?_, fun ht => ?_⟩
  · rw [e1, h1, h2]
    dsimp only
    obtain ⟨kk, e2⟩ := xTup_some h1
    obtain ⟨-, -, d3⟩ := xDep_tup hH e2
    have all : ∀ z ∈ l.zip l', xEq H 4 z.1 z.2 = xEq H 5 z.1 z.2 := fun z hz => (xEq_st hH 4 z.1 z.2 (by
      have := (xMax_iff (H := H) l).mp (Nat.le_refl _) z.1 (List.of_mem_zip hz).1
      omega)).symm
    congr 1
    generalize l.zip l' = L at all
    induction L with
    | nil => rfl
    | cons z L ihL =>
      rw [List.all_cons, List.all_cons, all z List.mem_cons_self, ihL (fun w hw => all w (List.mem_cons_of_mem _ hw))]
  · have e3 : xEq H 5 a b = (match xRng H a, xRng H b with
          | some r, some r' => r == r'
          | _, _ => false) := by
      rw [e1]
      rcases ht with z | z
      · rw [z]
      · rw [z]
        cases xTup H a with
        | none => rfl
        | some p => rfl
    refine ⟨fun r r' h1 h2 => by rw [e3, h1, h2], fun hr => ?_⟩
    rw [e3]
    rcases hr with z | z
    · rw [z]
    · rw [z]
      cases xRng H a with
      | none => rfl
      | some p => rfl
theorem xEq_self (k : Nat) (a : Int) : xEq H k a a = true := by
  cases k with
  | zero => show (a == a) = true; rw [beq_self_eq_true]
  | succ k => show (a == a || _) = true; rw [beq_self_eq_true, Bool.true_or]
end XEq
/-- the pile's pairs, the top one first -/
def rPl (S : ox_St) (m : Nat) (γ : Int → Nat) : List (Int × Int) → Prop
  | [] => True
  | p :: P => S.rI (m + 41) (2 * P.length) = gV γ p.1 ∧ S.rI (m + 41) (2 * P.length + 1) = gV γ p.2 ∧ rPl S m γ P
def pB (H : xHp) : List (Int × Int) → Prop
  | [] => True
  | p :: P => P.length + 1 + 11 * xDep H p.1 ≤ 45 ∧ pB H P
def pM (H : xHp) : List (Int × Int) → Nat
  | [] => 0
  | p :: P => 13 ^ xDep H p.1 + pM H P
theorem rPl.row {S S' : ox_St} {m : Nat} {γ : Int → Nat} : ∀ (P : List (Int × Int)), (∀ j, j < 2 * P.length → S'.rI (m + 41) j = S.rI (m + 41) j) → rPl S m γ P → rPl S' m γ P
  | [], _, _ => trivial
  | p :: P, hr, h => ⟨(hr _ (by rw [List.length_cons]; omega)).trans h.1, (hr _ (by rw [List.length_cons]; omega)).trans h.2.1, rPl.row P (fun j hj => hr j (by rw [List.length_cons]; omega)) h.2.2⟩
theorem pB_app {H : xHp} {P : List (Int × Int)} {d : Nat} (hP : pB H P) (hd : P.length + 1 + 11 * d ≤ 45) : ∀ L : List (Int × Int), (∀ p ∈ L, xDep H p.1 + 1 ≤ d) → L.length ≤ 12 → pB H (L ++ P)
  | [], _, _ => hP
  | p :: L, h, hl => by
    have h1 := h p List.mem_cons_self
    have hl' : L.length + 1 ≤ 12 := hl
    refine ⟨?_, pB_app hP hd L (fun z hz => h z (List.mem_cons_of_mem _ hz)) (by omega)⟩
    have la : (L ++ P).length = L.length + P.length := List.length_append
    show (L ++ P).length + 1 + 11 * xDep H p.1 ≤ 45
    omega
theorem pM_app {H : xHp} {P : List (Int × Int)} {D : Nat} : ∀ L : List (Int × Int), (∀ p ∈ L, xDep H p.1 ≤ D) → pM H (L ++ P) ≤ L.length * 13 ^ D + pM H P
  | [], _ => by rw [List.nil_append, List.length_nil, Nat.zero_mul, Nat.zero_add]; exact Nat.le_refl _
  | p :: L, h => by
    have ih := pM_app (P := P) L (fun z hz => h z (List.mem_cons_of_mem _ hz))
    have h1 : 13 ^ xDep H p.1 ≤ 13 ^ D := Nat.pow_le_pow_right (by decide) (h p List.mem_cons_self)
    show 13 ^ xDep H p.1 + pM H (L ++ P) ≤ (L.length + 1) * 13 ^ D + pM H P
    rw [Nat.add_mul, Nat.one_mul]
    omega
section REq
variable {sp : ox_E} {d mr sr : Nat} {S S' S2 : ox_St} {Q : ox_Q} {m ce a : Nat} {γ : Int → Nat} {B : List Int} {T : Nat} {C : Nat → xCd} {nc K y : Nat} {e : xEn} {q j i : Nat} {st r : List Int} {v u n : Int} {H : xHp} {o : xOb}
/-- no two values look alike -/
theorem rE.inj (h : rE S m ce γ B T C nc y e q st) (hx : xEs1 C nc K e st) (oku : xOk nc e.H u) (okv : xOk nc e.H v) (hu : xIn B u) (hv : xIn B v) : gV γ u = gV γ v ↔ u = v := by
  constructor
  · intro z
    by_cases v16 : v < 16
    · obtain ⟨lo, -, eg⟩ := h.lo hx okv v16
      rw [eg] at z
      exact (h.eqk hx oku hu (by omega) v16).mp z
    · by_cases u16 : u < 16
      · obtain ⟨lo, -, eg⟩ := h.lo hx oku u16
        rw [eg] at z
        exact ((h.eqk hx okv hv (by omega) u16).mp z.symm).symm
      · obtain ⟨ou, eu, ru, su, gu⟩ := h.hi hu u16
        obtain ⟨ov, ev, rv, sv, gv⟩ := h.hi hv v16
        have s1 := xSz_2 ou
        have s2 := xSz_2 ov
        rw [gu, gv] at z
        have z' := (nI_eq (by omega) (by omega)).mp z
        refine Decidable.byContradiction fun ne => ?_
        have := h.2.1.1.2.2.1 u (hu.resolve_left u16) v (hv.resolve_left v16) ne ou ov eu ev
        omega
  · intro z; rw [z]
/-- what the loop keeps -/
def rEqI (S U : ox_St) (m ce : Nat) (γ : Int → Nat) (B : List Int) (T : Nat) (C : Nat → xCd) (nc y : Nat) (e : xEn) (q : Nat) (st : List Int) : Prop := rE U m ce γ B T C nc y e q st ∧ mFx m S U ∧ U.R = S.R ∧ U.I 139 m = S.I 139 m
theorem rEqI.wO {U : ox_St} (h : rEqI S U m ce γ B T C nc y e q st) (hx : xEs1 C nc K e st) {w : Int32} : rEqI S (U.wI (m + 41) i w) m ce γ B T C nc y e q st := by
  obtain ⟨q1, q2, q3⟩ := h.1.wO hx (i := i) (k := 41) (w := w) ⟨by omega, by omega⟩
  exact ⟨q1, h.2.1.trans q2, q3.trans h.2.2.1, by rw [or_wI_I]; exact h.2.2.2⟩
/-- the items of two tuples are piled up -/
theorem r_182_147 {E : ox_E} (hE : ox_mono E) (hx : xEs1 C nc K e st) {x1 x2 : Int32} {av bv : Int} (hBa : xIn B av) (hBb : xIn B bv) {l l' : List Int} {ka kb : Nat} (ha : e.H av = some (.inr (.inl (l, ka)))) (hb : e.H bv = some (.inr (.inl (l', kb)))) (hl : l.length = l'.length) {P : List (Int × Int)} (hP : P.length + 12 ≤ 900) (hQ : ∀ U mr sr, rEqI S U m ce γ B T C nc y e q st → rPl U m γ ((l.zip l').reverse ++ P) → c_182_19 E m x1 x2 (nI (2 * ((l.zip l').reverse ++ P).length)) 1 U mr sr Q) : ∀ (k i mr sr : Nat) (U : ox_St), i + k = l.length → rEqI S U m ce γ B T C nc y e q st → rPl U m γ (((l.zip l').take i).reverse ++ P) → c_182_147 E m x1 x2 (nI (2 * (i + P.length))) 1 (nI (γ av)) (nI (γ bv)) (nI i) U mr sr Q := by
  have zl : (l.zip l').length = l.length := by rw [List.length_zip]; omega
  intro k
  induction k with
  | zero =>
    intro i mr sr U hi hI hp
    have hi' : i = l.length := hi
    obtain ⟨t1, t2, t3, t4, t5, t6⟩ := hI.1.tupc hx hBa ha
    obtain ⟨c1, c2, c3⟩ := hI.1.ml.cells
    have l12 : l.length ≤ 12 := t6.1
    have n2 : nI (γ av) + 2 = nI (γ av + 2) := nI_add _ 2
    refine f_182_147 hE ⟨by rw [hI.1.k]; rfl, by rw [c1, c2]; rfl, by rw [c1, c3, n2]; exact vp_in_nI (by omega) (by decide), fun _ => ?_, fun z => absurd (by rw [c1, n2, nI_clamp (show γ av + 2 < 2 ^ 31 by omega), t3, hi']; exact nI_le (Nat.le_refl _) (by omega)) z⟩
    rw [hi', ← zl, List.take_length] at hp
    have := hQ U mr sr hI hp
    rw [List.length_append, List.length_reverse, zl, ← hi'] at this
    exact this
  | succ k ih =>
    intro i mr sr U hi hI hp
    have il : i < l.length := by omega
    obtain ⟨t1, t2, t3, t4, t5, t6⟩ := hI.1.tupc hx hBa ha
    obtain ⟨u1, u2, u3, u4, u5, u6⟩ := hI.1.tupc hx hBb hb
    obtain ⟨c1, c2, c3⟩ := hI.1.ml.cells
    obtain ⟨p1, p2, p3⟩ := hI.1.ml.row (F := 141) (o := 41) (k := 15) (n := 2000) (by decide)
    have l12 : l.length ≤ 12 := t6.1
    have hce := hI.1.c23
    have k14 := hI.1.k
    have n2 : nI (γ av) + 2 = nI (γ av + 2) := nI_add _ 2
    have n3 : nI (γ av) + 3 + nI i = nI (γ av + 3 + i) := by rw [show (3 : Int32) = nI 3 from rfl, nI_add, nI_add]
    have n4 : nI (γ bv) + 3 + nI i = nI (γ bv + 3 + i) := by rw [show (3 : Int32) = nI 3 from rfl, nI_add, nI_add]
    have n5 : nI (2 * (i + P.length)) + 1 = nI (2 * (i + P.length) + 1) := nI_1 _
    have n6 : nI (2 * (i + P.length)) + 2 = nI (2 * (i + 1 + P.length)) := by
      rw [show (2 : Int32) = nI 2 from rfl, nI_add]
      exact congrArg nI (by omega)
    refine f_182_147 hE ⟨by rw [k14]; rfl, by rw [c1, c2]; rfl, by rw [c1, c3, n2]; exact vp_in_nI (by omega) (by decide), fun z => absurd z (by rw [c1, n2, nI_clamp (show γ av + 2 < 2 ^ 31 by omega), t3]; exact nI_ge il (by omega)), fun _ => ⟨fun z => absurd z (by decide), fun _ => ⟨by rw [k14]; rfl, by rw [k14]; rfl, by rw [c1, c2]; rfl, by rw [c1, c3, n3]; exact vp_in_nI (by omega) (by decide), by rw [p1]; exact p2, by rw [p1, p3]; exact vp_in_nI (by omega) (by decide), ?_⟩⟩⟩
    rw [c1, p1, n3, nI_clamp (show γ av + 3 + i < 2 ^ 31 by omega), nI_clamp (show 2 * (i + P.length) < 2 ^ 31 by omega), t4 i il]
    have hI1 := hI.wO hx (i := 2 * (i + P.length)) (w := gV γ (l.getD i 0))
    have er1 : ∀ a j, (U.wI (m + 41) (2 * (i + P.length)) (gV γ (l.getD i 0))).rI a j = if a = m + 41 ∧ j = 2 * (i + P.length) then gV γ (l.getD i 0) else U.rI a j := fun a j => or_wI_rI _ _ _ _ _ _
    generalize U.wI (m + 41) (2 * (i + P.length)) (gV γ (l.getD i 0)) = V at hI1 er1 ⊢
    obtain ⟨C1, C2, C3⟩ := hI1.1.ml.cells
    obtain ⟨P1, P2, P3⟩ := hI1.1.ml.row (F := 141) (o := 41) (k := 15) (n := 2000) (by decide)
    have kV := hI1.1.k
    refine ⟨by rw [kV]; rfl, by rw [kV]; rfl, by rw [C1, C2]; rfl, by rw [C1, C3, n4]; exact vp_in_nI (by omega) (by decide), by rw [P1]; exact P2, by rw [P1, P3, n5]; exact vp_in_nI (by omega) (by decide), ?_⟩
    rw [C1, P1, n4, n5, n6, nI_clamp (show γ bv + 3 + i < 2 ^ 31 by omega), nI_clamp (show 2 * (i + P.length) + 1 < 2 ^ 31 by omega), er1, if_neg (fun y => by have := y.1; omega), u4 i (by omega), nI_1]
    have hI2 := hI1.wO hx (i := 2 * (i + P.length) + 1) (w := gV γ (l'.getD i 0))
    have er2 : ∀ a j, (V.wI (m + 41) (2 * (i + P.length) + 1) (gV γ (l'.getD i 0))).rI a j = if a = m + 41 ∧ j = 2 * (i + P.length) + 1 then gV γ (l'.getD i 0) else if a = m + 41 ∧ j = 2 * (i + P.length) then gV γ (l.getD i 0) else U.rI a j := fun a j => by rw [or_wI_rI, er1]
    generalize V.wI (m + 41) (2 * (i + P.length) + 1) (gV γ (l'.getD i 0)) = W at hI2 er2 ⊢
    refine ih (i + 1) mr sr W (by omega) hI2 ?_
    have tk : (l.zip l').take (i + 1) = (l.zip l').take i ++ [(l.getD i 0, l'.getD i 0)] := by
      rw [List.take_succ, List.getElem?_eq_getElem (by omega), List.getElem_zip]
      rw [List.getD_eq_getElem?_getD, List.getElem?_eq_getElem il, List.getD_eq_getElem?_getD, List.getElem?_eq_getElem (show i < l'.length by omega)]
      rfl
    have ln : (((l.zip l').take i).reverse ++ P).length = i + P.length := by rw [List.length_append, List.length_reverse, List.length_take]; omega
    rw [tk, List.reverse_append]
    show rPl W m γ ((l.getD i 0, l'.getD i 0) :: (((l.zip l').take i).reverse ++ P))
    refine ⟨?_, ?_, hp.row _ (fun j hj => ?_)⟩
    · rw [ln, er2, if_neg (fun y => by have := y.2; omega), if_pos ⟨rfl, rfl⟩]
    · rw [ln, er2, if_pos ⟨rfl, rfl⟩]
    · rw [ln] at hj
      rw [er2, if_neg (fun y => by have := y.2; omega), if_neg (fun y => by have := y.2; omega)]
end REq
