/-! the class's instructions: whether values are equal -/
section CEq
variable {sp : ox_E} {S S0 S' T : ox_St} {x : Nat} {α : Int → Nat} {C : Nat → xCd} {nc K : Nat} {e : xEn} {q : Nat} {st r : List Int} {v u : Int} {a : Nat}
/-- one address, one value -/
theorem vC.one (h : cE S x α C nc e q st) (hx : xEs1 C nc K e st) (hu : vC S x α u a) (hv : vC S x α v a) (oku : xOk nc e.H u) (okv : xOk nc e.H v) : u = v := by
  obtain ⟨k1, k2, -⟩ := h.kv hx hu oku
  obtain ⟨j1, j2, -⟩ := h.kv hx hv okv
  have hH := hx.1.1
  have kk : xKd e.H u = xKd e.H v := k1.symm.trans j1
  have dm : ∀ {w}, xOk nc e.H w → (w < 0 ∨ 11 ≤ w) → cDm nc e.H w := fun {w} hw hz => by
    rcases hw with y | y
    · rcases hz with z | z
      · exact Or.inl ⟨y.1, z⟩
      · omega
    · exact Or.inr y
  have k11 : ∀ {w}, 0 ≤ w → w ≤ 10 → xKd e.H w = 11 := fun {w} h1 h2 => by unfold xKd; rw [if_neg (by omega), if_pos h2]
  have kn : ∀ {w}, 11 ≤ w → xKd e.H w ≠ 11 ∧ xKd e.H w ≠ 3 := fun {w} h1 => by
    unfold xKd
    rw [if_neg (by omega), if_neg (by omega)]
    split <;> decide
  have tin : ∀ {w : Int}, 0 ≤ w → w ≤ 10 → (Int32.ofInt w).toInt = w := fun h1 h2 => Int32.toInt_ofInt_of_le (by omega) (by omega)
  obtain ⟨-, -, -, pu⟩ := hu
  obtain ⟨-, -, -, pv⟩ := hv
  by_cases u0 : u < 0
  · have k3 := (xKd_3 (v := u) hH).mpr u0
    have v0 : v < 0 := (xKd_3 hH).mp (kk.symm.trans k3)
    have e1 : a = α u := by rcases pu with y | y | y | y | y <;> first | exact y.2 | omega
    have e2 : a = α v := by rcases pv with y | y | y | y | y <;> first | exact y.2 | omega
    exact h.hp.2.2.1 u v (dm oku (Or.inl u0)) (dm okv (Or.inl v0)) (e1.symm.trans e2)
  · by_cases u1 : u ≤ 10
    · have ku := k11 (Int.not_lt.mp u0) u1
      rw [ku] at kk
      have v1 : v ≤ 10 := by
        by_cases z : v ≤ 10
        · exact z
        · exact absurd kk.symm (kn (by omega)).1
      have v0 : ¬ v < 0 := fun z => by rw [(xKd_3 hH).mpr z] at kk; cases kk
      have tt : xTg e.H u = xTg e.H v := by
        have := k2.symm.trans j2
        have b : ∀ {w}, 0 ≤ w → w ≤ 10 → 0 ≤ xTg e.H w ∧ xTg e.H w ≤ 10 := fun {w} h1 h2 => by
          unfold xTg
          rw [if_neg (by omega)]
          split
          · omega
          · split
            · decide
            · first | decide | (rw [if_pos h2]; decide)
        have b1 := b (w := u) (by omega) u1
        have b2 := b (w := v) (by omega) v1
        have := congrArg Int32.toInt this
        rw [tin b1.1 b1.2, tin b2.1 b2.2] at this
        exact this
      unfold xTg at tt
      rw [if_neg u0, if_neg v0] at tt
      by_cases u2 : u ≤ 2
      · rw [if_pos u2] at tt
        by_cases v2 : v ≤ 2
        · rw [if_pos v2] at tt; exact tt
        · rw [if_neg v2] at tt
          by_cases v3 : v = 3
          · rw [if_pos v3] at tt; omega
          · rw [if_neg v3, if_pos v1] at tt; omega
      · rw [if_neg u2] at tt
        by_cases v2 : v ≤ 2
        · rw [if_pos v2] at tt
          by_cases u3 : u = 3
          · rw [if_pos u3] at tt; omega
          · rw [if_neg u3, if_pos u1] at tt; omega
        · have e1 : a = x + 64 + u.toNat ∨ (u = 3 ∧ a = x + 17) := by rcases pu with y | y | y | y | y <;> first | exact Or.inr y | exact Or.inl y.2.2 | omega
          have e2 : a = x + 64 + v.toNat ∨ (v = 3 ∧ a = x + 17) := by rcases pv with y | y | y | y | y <;> first | exact Or.inr y | exact Or.inl y.2.2 | omega
          omega
    · have v1 : 11 ≤ v := by
        by_cases z : v < 0
        · rw [(xKd_3 (v := v) hH).mpr z] at kk
          exact absurd kk (kn (by omega)).2
        · by_cases y : v ≤ 10
          · rw [k11 (by omega) y] at kk
            exact absurd kk (kn (by omega)).1
          · omega
      have e1 : a = α u := by rcases pu with y | y | y | y | y <;> first | exact y.2 | omega
      have e2 : a = α v := by rcases pv with y | y | y | y | y <;> first | exact y.2 | omega
      exact h.hp.2.2.1 u v (dm oku (Or.inr (by omega))) (dm okv (Or.inr v1)) (e1.symm.trans e2)
theorem cmpZ_0 {a b : Int} : cmpZ a b = 0 ↔ a = b := by
  unfold cmpZ
  by_cases h1 : a < b
  · rw [if_pos h1]; exact ⟨fun z => absurd z (by decide), fun z => by omega⟩
  · rw [if_neg h1]
    by_cases h2 : a = b
    · rw [if_pos h2]; exact ⟨fun _ => h2, fun _ => rfl⟩
    · rw [if_neg h2]; exact ⟨fun z => absurd z (by decide), fun z => absurd z h2⟩
/-- items, one by one -/
theorem c_63_l {d k : Nat} {Q : ox_Q} (hsp : ox_mono sp) {tL tR : Nat} {l l' : List Int} {dp : Int32} (kL : S.K tL = 19) (lL : S.len tL = l.length) (kR : S.K tR = 19) (lR : S.len tR = l'.length) (h12 : l.length ≤ 12) (hlen : l.length = l'.length) (h7 : S.K (x + 11) = 7)
    (ih : ∀ i, i < l.length → ∀ mr sr Q', Q' (some (.inl (if xEq e.H k (l.getD i 0) (l'.getD i 0) = true then 1 else 0))) S → ox_M sp d 62 [.inr (.inr (x + 11)), .inr (.inr (S.rR tL i)), .inr (.inr (S.rR tR i)), .inl dp] mr sr S Q') (hQ : Q (some (.inl (if (l.zip l').all (fun z => xEq e.H k z.1 z.2) = true then 1 else 0))) S) : ∀ (m i mr sr : Nat), i + m = l.length → (∀ j, j < i → xEq e.H k (l.getD j 0) (l'.getD j 0) = true) → c_63_17 (ox_M sp d) (x + 11) tL tR dp 1 (nI i) S mr sr Q := by
  have hE : ox_mono (ox_M sp d) := ox_M_mono hsp _
  have hz : (l.zip l').all (fun z => xEq e.H k z.1 z.2) = true ↔ ∀ j, j < l.length → xEq e.H k (l.getD j 0) (l'.getD j 0) = true := by
    rw [List.all_eq_true]
    constructor
    · intro hh j hj
      have hj' : j < (l.zip l').length := by rw [List.length_zip]; omega
      have := hh _ (List.getElem_mem hj')
      rw [List.getElem_zip] at this
      rw [List.getD_eq_getElem?_getD, List.getElem?_eq_getElem hj, List.getD_eq_getElem?_getD, List.getElem?_eq_getElem (by omega)]
      exact this
    · intro hh z hz
      obtain ⟨j, hj, rfl⟩ := List.getElem_of_mem hz
      rw [List.length_zip] at hj
      have := hh j (by omega)
      rw [List.getElem_zip]
      rw [List.getD_eq_getElem?_getD, List.getElem?_eq_getElem (by omega), List.getD_eq_getElem?_getD, List.getElem?_eq_getElem (by omega)] at this
      exact this
  intro m
  induction m with
  | zero =>
    intro i mr sr hi hall
    obtain rfl : i = l.length := by omega
    rw [if_pos (hz.mpr hall)] at hQ
    exact f_63_17 hE ⟨fun z => absurd z (by decide), fun _ => ⟨by rw [kL]; rfl, fun _ => ⟨Or.inr rfl, hQ⟩, fun z => absurd (by rw [lL]; exact nI_le (Nat.le_refl _) (by omega)) z⟩⟩
  | succ m ihm =>
    intro i mr sr hi hall
    have hil : i < l.length := by omega
    refine f_63_17 hE ⟨fun z => absurd z (by decide), fun _ => ⟨by rw [kL]; rfl, fun z => absurd z (by rw [lL]; exact nI_ge hil (by omega)), fun _ => ⟨by rw [kR]; rfl, fun z => absurd z (by rw [lR, ← hlen]; exact nI_ge hil (by omega)), fun _ => ⟨by rw [kL]; rfl, by rw [lL]; exact vp_in_nI hil (by omega), by rw [kR]; rfl, by rw [lR, ← hlen]; exact vp_in_nI hil (by omega), by decide, h7, by decide, 0, 0, Nat.zero_le _, Nat.zero_le _, ?_⟩⟩⟩⟩
    rw [nI_clamp (by omega)]
    refine ih i hil _ _ _ (f_63_49 hE ?_)
    show c_63_17 (ox_M sp d) (x + 11) tL tR dp (if xEq e.H k (l.getD i 0) (l'.getD i 0) = true then 1 else 0) (nI i + 1) S (mr - 0) (sr - 0) Q
    by_cases z : xEq e.H k (l.getD i 0) (l'.getD i 0) = true
    · rw [if_pos z, nI_1]
      refine ihm (i + 1) _ _ (by omega) (fun j hj => ?_)
      by_cases y : j = i
      · rw [y]; exact z
      · exact hall j (by omega)
    · rw [if_neg z]
      rw [if_neg (fun y => z (hz.mp y i hil))] at hQ
      exact f_63_17 hE ⟨fun _ => ⟨Or.inl rfl, hQ⟩, fun y => absurd rfl y⟩
/-- areEqual -/
theorem c_62 (hsp : ox_mono sp) (h : cE S x α C nc e q st) (hx : xEs1 C nc K e st) : ∀ (k : Nat), 1 ≤ k → k ≤ 5 → ∀ (u v : Int) (A B d mr sr : Nat) (Q : ox_Q), vC S x α u A → vC S x α v B → xOk nc e.H u → xOk nc e.H v → xDep e.H u < k → xDep e.H v < k → Q (some (.inl (if xEq e.H k u v = true then 1 else 0))) S → ox_M sp (d + 2 * k + 4) 62 [.inr (.inr (x + 11)), .inr (.inr A), .inr (.inr B), .inl (nI (5 - k))] mr sr S Q := by
  have hH := hx.1.1
  intro k
  induction k with
  | zero => intro z; omega
  | succ k ih =>
    intro _ k5 u v A B d mr sr Q hu hv oku okv du dv hQ
    have hE : ox_mono (ox_M sp (d + 2 * (k + 1) + 3)) := ox_M_mono hsp _
    obtain ⟨k1, k2, k3⟩ := h.kv hx hu oku
    obtain ⟨j1, j2, j3⟩ := h.kv hx hv okv
    have hself : xEq e.H (k + 1) u u = true := by unfold xEq; rw [beq_self_eq_true, Bool.true_or]
    refine f_62 hsp ⟨fun hne => ⟨fun z => absurd z hu.1, fun _ => ⟨fun z => absurd z hv.1, fun _ => ⟨fun _ => ⟨by decide, h.k7, by decide, 0, 0, Nat.zero_le _, Nat.zero_le _, ?_⟩, fun z => absurd (nI_le (b := 4) (by omega) (by omega)) z⟩⟩⟩, fun heq => ⟨Or.inr rfl, ?_⟩⟩
    · have low : (xNum e.H u = none ∨ xNum e.H v = none) → ∀ {x4 y0 m s}, c_62_62 (ox_M sp (d + 2 * (k + 1) + 3)) (x + 11) A B (nI (5 - (k + 1))) x4 y0 S m s Q := by
        intro hnum x4 y0 m s
        have unn : 11 ≤ u → u ≠ v := fun hz y => by
          rw [y] at hu hz
          exact hne ((hu.obj hz).trans (hv.obj hz).symm)
        have e1 : xEq e.H (k + 1) u v = (u == v || match xTup e.H u, xTup e.H v with
          | some l, some l' => l.length == l'.length && (l.zip l').all (fun z => xEq e.H k z.1 z.2)
          | _, _ => match xRng e.H u, xRng e.H v with
            | some r, some r' => r == r'
            | _, _ => false) := by
          conv => lhs; unfold xEq
          rcases hnum with z | z
          · rw [z]; rfl
          · rw [z]
            cases xNum e.H u <;> rfl
        have tail : (xTup e.H u = none ∨ xTup e.H v = none) → (xRng e.H u = none ∨ xRng e.H v = none) → c_62_140 (ox_M sp (d + 2 * (k + 1) + 3)) (x + 11) A B (nI (5 - (k + 1))) x4 y0 S m s Q := fun ht hr => by
          have e2 : xEq e.H (k + 1) u v = (u == v) := by
            rw [e1]
            have : (match xTup e.H u, xTup e.H v with
              | some l, some l' => l.length == l'.length && (l.zip l').all (fun z => xEq e.H k z.1 z.2)
              | _, _ => match xRng e.H u, xRng e.H v with
                | some r, some r' => r == r'
                | _, _ => false) = false := by
              rcases ht with z | z
              · rw [z]
                rcases hr with y | y
                · rw [y]
                · rw [y]; cases xRng e.H u <;> rfl
              · rw [z]
                rcases hr with y | y
                · rw [y]; cases xTup e.H u <;> rfl
                · rw [y]; cases xTup e.H u <;> cases xRng e.H u <;> rfl
            rw [this, Bool.or_false]
          rw [e2] at hQ
          have z0 : ∀ {w : Int} {b : Nat}, vC S x α w b → xOk nc e.H w → S.I 6 b = 0 → w = 0 := fun {w b} hw okw t0 => by
            rw [(h.kv hx hw okw).2.1] at t0
            by_cases y : w = 0
            · exact y
            · exfalso
              unfold xTg at t0
              repeat' split at t0
              all_goals first | (exact absurd t0 (by decide)) | skip
              · have : w = 1 ∨ w = 2 := by omega
                rcases this with rfl | rfl <;> exact absurd t0 (by decide)
              · rename_i y1 y2 y3 y4 y5
                rcases okw with m | m
                · omega
                · exact m y5
          have n0 : ∀ {w : Int} {b : Nat}, vC S x α w b → xOk nc e.H w → ¬ S.I 6 b = 0 → w ≠ 0 := fun {w b} hw okw t0 y => by
            rw [(h.kv hx hw okw).2.1, y] at t0
            exact t0 rfl
          have fls : ¬ u = v → c_62_158 (ox_M sp (d + 2 * (k + 1) + 3)) (x + 11) A B (nI (5 - (k + 1))) x4 y0 S m s Q := fun huv => f_62_158 hE (f_62_159 hE ⟨Or.inl rfl, by
            rw [if_neg (by simpa using huv)] at hQ
            exact hQ⟩)
          have nuv : (u ≠ 0 ∨ v ≠ 0) → ¬ u = v := fun hz y => by
            subst y
            have u0 : u ≠ 0 := hz.elim id id
            have : u = 1 ∨ u = 2 ∨ u < 0 ∨ (3 ≤ u ∧ u ≤ 10) ∨ 11 ≤ u := by omega
            rcases this with y | y | y | y | y
            · subst y; rcases hnum with z | z <;> cases z
            · subst y; rcases hnum with z | z <;> cases z
            · have ea : A = α u := by obtain ⟨-, -, -, p⟩ := hu; rcases p with p | p | p | p | p <;> first | exact p.2 | omega
              have eb : B = α u := by obtain ⟨-, -, -, p⟩ := hv; rcases p with p | p | p | p | p <;> first | exact p.2 | omega
              exact hne (ea.trans eb.symm)
            · have ea : A = x + 64 + u.toNat ∨ (u = 3 ∧ A = x + 17) := by obtain ⟨-, -, -, p⟩ := hu; rcases p with p | p | p | p | p <;> first | exact Or.inr p | exact Or.inl p.2.2 | omega
              have eb : B = x + 64 + u.toNat ∨ (u = 3 ∧ B = x + 17) := by obtain ⟨-, -, -, p⟩ := hv; rcases p with p | p | p | p | p <;> first | exact Or.inr p | exact Or.inl p.2.2 | omega
              have hne' : A ≠ B := hne
              obtain ⟨-, -, -, pu⟩ := hu
              obtain ⟨-, -, -, pv⟩ := hv
              rcases pu with p | p | p | p | p <;> rcases pv with p' | p' | p' | p' | p' <;> omega
            · exact unn y rfl
          refine f_62_140 hE ⟨(isV_has k3).1, fun z => fls (nuv (Or.inl (n0 hu oku z))), fun z => ⟨(isV_has j3).1, fun y => fls (nuv (Or.inr (n0 hv okv y))), fun y => f_62_159 hE ⟨Or.inr rfl, ?_⟩⟩⟩
          rw [if_pos (by rw [z0 hu oku z, z0 hv okv y]; rfl)] at hQ
          exact hQ
        have rngN : ∀ {w : Int} {b : Nat}, vC S x α w b → xOk nc e.H w → S.K b ≠ 9 → xRng e.H w = none := fun {w b} hw okw hb => by
          unfold xRng
          cases y : e.H w with
          | none => rfl
          | some o =>
            match o, y with
            | .inl _, _ => rfl
            | .inr (.inl _), _ => rfl
            | .inr (.inr (.inl p)), y => exact absurd ((h.kv hx hw okw).1.trans ((xKd_9 hH).mpr ⟨p, y⟩)) hb
            | .inr (.inr (.inr _)), _ => rfl
        have tupN : ∀ {w : Int} {b : Nat}, vC S x α w b → xOk nc e.H w → S.K b ≠ 10 → xTup e.H w = none := fun {w b} hw okw hb => by
          unfold xTup
          cases y : e.H w with
          | none => rfl
          | some o =>
            match o, y with
            | .inl _, _ => rfl
            | .inr (.inl p), y => exact absurd ((h.kv hx hw okw).1.trans ((xKd_10 hH).mpr ⟨p, y⟩)) hb
            | .inr (.inr _), _ => rfl
        have mid : (xRng e.H u = none ∨ xRng e.H v = none) → c_62_96 (ox_M sp (d + 2 * (k + 1) + 3)) (x + 11) A B (nI (5 - (k + 1))) x4 y0 S m s Q := fun hr => by
          refine f_62_96 hE ⟨Or.inr k3, fun z => tail (Or.inl (tupN hu oku (if_10 z))) hr, fun z => ⟨Or.inr (by rw [if_11 z]; rfl), Or.inr j3, fun y => tail (Or.inr (tupN hv okv (if_10 y))) hr, fun y => ?_⟩⟩
          have hz := if_11 z
          have hy := if_11 y
          obtain ⟨⟨l, dl⟩, hql⟩ := (xKd_10 hH).mp (k1.symm.trans hz)
          obtain ⟨⟨l', dr⟩, hqr⟩ := (xKd_10 hH).mp (j1.symm.trans hy)
          have u16 := (hH.2 u _ hql).1
          have v16 := (hH.2 v _ hqr).1
          have ea := hu.obj (by omega)
          have eb := hv.obj (by omega)
          obtain ⟨-, -, tL, ⟨a1, a2, a3, a4, a5⟩, -, -, -, aV⟩ := h.hp.1 u _ hql
          obtain ⟨-, -, tR, ⟨b1, b2, b3, b4, b5⟩, -, -, -, bV⟩ := h.hp.1 v _ hqr
          rw [← ea] at a2
          rw [← eb] at b2
          have a4' : S.len tL = l.length := a4
          have b4' : S.len tR = l'.length := b4
          have a5' : l.length ≤ 12 := a5
          have b5' : l'.length ≤ 12 := b5
          have x1 : xTup e.H u = some l := by unfold xTup; rw [hql]
          have x2 : xTup e.H v = some l' := by unfold xTup; rw [hqr]
          have n1 : (u == v) = false := by simpa using unn (by omega)
          rw [x1, x2, n1] at e1
          have e1' : xEq e.H (k + 1) u v = (l.length == l'.length && (l.zip l').all (fun z => xEq e.H k z.1 z.2)) := e1
          rw [e1'] at hQ
          obtain ⟨-, pu2, -, pu4⟩ := (hH.2 u _ hql).2.2
          obtain ⟨-, pv2, -, pv4⟩ := (hH.2 v _ hqr).2.2
          have dul : dl < k + 1 := by have : xDep e.H u = dl := by unfold xDep; rw [hql]
                                      omega
          have dvl : dr < k + 1 := by have : xDep e.H v = dr := by unfold xDep; rw [hqr]
                                      omega
          have pu2' : dl = xMax e.H l + 1 := pu2
          have pv2' : dr = xMax e.H l' + 1 := pv2
          have dmax : ∀ (L : List Int) (w : Int), w ∈ L → xDep e.H w ≤ xMax e.H L := by
            intro L
            induction L with
            | nil => intro w hw; cases hw
            | cons z L ihL =>
              intro w hw
              show xDep e.H w ≤ Max.max (xDep e.H z) (xMax e.H L)
              rcases List.mem_cons.mp hw with y | y
              · rw [y]; exact Nat.le_max_left _ _
              · exact Nat.le_trans (ihL w y) (Nat.le_max_right _ _)
          have hE2 : ox_mono (ox_M sp (d + 2 * k + 4)) := ox_M_mono hsp _
          refine ⟨Or.inr (by rw [hy]; rfl), by rw [hz]; rfl, by rw [hy]; rfl, by decide, h.k7, by decide, 0, 0, Nat.zero_le _, Nat.zero_le _, ?_⟩
          rw [a2, b2]
          have dpe : nI (5 - (k + 1)) + 1 = nI (5 - k) := by rw [nI_1, show 5 - (k + 1) + 1 = 5 - k by omega]
          rw [dpe]
          show ox_M sp (d + 2 * k + 4 + 1) 63 _ _ _ S _
          refine f_63 hsp ⟨by rw [a3]; rfl, by rw [b3]; rfl, fun p => ?_, fun p => ?_⟩
          · have hne2 : l.length ≠ l'.length := fun w => p (by rw [a4', b4', w])
            rw [show (l.length == l'.length) = false by simpa using hne2, Bool.false_and] at hQ
            exact f_63_17 hE2 ⟨fun _ => ⟨Or.inl rfl, f_62_139 hE ⟨Or.inl rfl, hQ⟩⟩, fun w => absurd rfl w⟩
          · rw [a4', b4'] at p
            have heq2 : l.length = l'.length := (nI_eq (by omega) (by omega)).mp p
            rw [show (l.length == l'.length) = true by simpa using heq2, Bool.true_and] at hQ
            refine c_63_l (e := e) (k := k) (Q := k_62_139 (ox_M sp (d + 2 * (k + 1) + 3)) (x + 11) A B (nI (5 - (k + 1))) x4 y0 A B (m - 0) (s - 0) Q) hsp a3 a4' b3 b4' a5' heq2 h.k7 (fun i hi mr' sr' Q' hq' => ?_) (f_62_139 hE ⟨?_, hQ⟩) l.length 0 _ _ (Nat.zero_add _) (fun j hj => absurd hj (Nat.not_lt_zero j))
            · have m1 : l.getD i 0 ∈ l := by
                rw [List.getD_eq_getElem?_getD, List.getElem?_eq_getElem hi]
                exact List.getElem_mem _
              have m2 : l'.getD i 0 ∈ l' := by
                rw [List.getD_eq_getElem?_getD, List.getElem?_eq_getElem (by omega)]
                exact List.getElem_mem _
              have q1 := dmax l _ m1
              have q2 := dmax l' _ m2
              exact ih (by omega) (by omega) (l.getD i 0) (l'.getD i 0) _ _ d mr' sr' Q' (aV i hi) (bV i (by show i < l'.length; omega)) (pu4 _ m1) (pv4 _ m2) (by omega) (by omega) hq'
            · by_cases w : (l.zip l').all (fun z => xEq e.H k z.1 z.2) = true
              · rw [if_pos w]; exact Or.inr rfl
              · rw [if_neg w]; exact Or.inl rfl
        refine f_62_62 hE ⟨Or.inr k3, fun z => mid (Or.inl (rngN hu oku (if_10 z))), fun z => ⟨Or.inr (by rw [if_11 z]; rfl), Or.inr j3, fun y => mid (Or.inr (rngN hv okv (if_10 y))), fun y => ?_⟩⟩
        have hz := if_11 z
        have hy := if_11 y
        obtain ⟨ra, hqa⟩ := (xKd_9 hH).mp (k1.symm.trans hz)
        obtain ⟨rb, hqb⟩ := (xKd_9 hH).mp (j1.symm.trans hy)
        have u16 := (hH.2 u _ hqa).1
        have v16 := (hH.2 v _ hqb).1
        have ea := hu.obj (by omega)
        have eb := hv.obj (by omega)
        obtain ⟨-, -, o1, o2, o3, o4, o5⟩ := h.hp.1 u _ hqa
        obtain ⟨-, -, p1, p2, p3, p4, p5⟩ := h.hp.1 v _ hqb
        rw [← ea] at o3 o4 o5
        rw [← eb] at p3 p4 p5
        have x1 : xTup e.H u = none := by unfold xTup; rw [hqa]
        have y1 : xRng e.H u = some ra := by unfold xRng; rw [hqa]
        have y2 : xRng e.H v = some rb := by unfold xRng; rw [hqb]
        have n1 : (u == v) = false := by simpa using unn (by omega)
        rw [x1, y1, y2, n1] at e1
        have e1' : xEq e.H (k + 1) u v = (ra == rb) := e1
        rw [e1'] at hQ
        have iff3 : (S.I 53 A = S.I 53 B ∧ S.I 54 A = S.I 54 B ∧ S.I 55 A = S.I 55 B) ↔ (ra == rb) = true := by
          rw [beq_iff_eq]
          constructor
          · rintro ⟨w1, w2, w3⟩
            rw [w1, p3] at o3
            rw [w2, p4] at o4
            rw [w3, p5] at o5
            exact Prod.ext o3.symm (Prod.ext o4.symm o5.symm)
          · intro w
            rw [w] at o3 o4 o5
            exact ⟨Int32.toInt_inj.mp (o3.trans p3.symm), Int32.toInt_inj.mp (o4.trans p4.symm), Int32.toInt_inj.mp (o5.trans p5.symm)⟩
        refine ⟨Or.inr (by rw [hy]; rfl), by decide, hz, by decide, 0, 0, Nat.zero_le _, Nat.zero_le _, s_85 hsp hz hy (f_62_95 hE ⟨?_, ?_⟩)⟩
        · by_cases w : S.I 53 A = S.I 53 B ∧ S.I 54 A = S.I 54 B ∧ S.I 55 A = S.I 55 B
          · rw [if_pos w]; exact Or.inr rfl
          · rw [if_neg w]; exact Or.inl rfl
        · by_cases w : S.I 53 A = S.I 53 B ∧ S.I 54 A = S.I 54 B ∧ S.I 55 A = S.I 55 B
          · rw [if_pos w]; rw [if_pos (iff3.mp w)] at hQ; exact hQ
          · rw [if_neg w]; rw [if_neg (fun y => w (iff3.mpr y))] at hQ; exact hQ
      refine c_num hsp h.1 h.hp hH hu oku (fun e0 => f_62_27 hE ⟨by decide, h.k7, by decide, 0, 0, Nat.zero_le _, Nat.zero_le _, c_num hsp h.1 h.hp hH hv okv (fun _ => f_62_34 hE ⟨fun _ => low (Or.inl e0), fun z => absurd rfl z⟩) (fun _ _ _ _ _ _ _ _ _ _ _ _ _ => f_62_34 hE ⟨fun _ => low (Or.inl e0), fun z => absurd rfl z⟩)⟩) (fun N b t w c p e1 b0 bn bz bN nB tB => f_62_27 hE ⟨by decide, h.k7, by decide, 0, 0, Nat.zero_le _, Nat.zero_le _, c_num hsp h.1 h.hp hH hv okv (fun e0 => f_62_34 hE ⟨fun z => absurd z b0, fun _ => ⟨fun _ => low (Or.inr e0), fun z => absurd rfl z⟩⟩) (fun M b' t' w' c' p' e2 b0' bn' bz' bN' nB' tB' => f_62_34 hE ⟨fun z => absurd z b0, fun _ => ⟨fun z => absurd z b0', fun _ => ⟨by decide, by decide, 0, 0, Nat.zero_le _, Nat.zero_le _, s_1 (d := d + 2 * (k + 1)) hsp bN bN' (f_62_53 hE ?_)⟩⟩⟩)⟩)
      have eq1 : xEq e.H (k + 1) u v = (N == M) := by
        conv => lhs; unfold xEq
        rw [e1, e2]
        show (u == v || N == M) = _
        by_cases y : u = v
        · subst y
          rw [e1] at e2
          cases e2
          simp
        · rw [show (u == v) = false by simpa using y, Bool.false_or]
      rw [eq1] at hQ
      rw [nB, nB']
      refine ⟨fun z => f_62_61 hE ⟨Or.inl rfl, ?_⟩, fun z => f_62_61 hE ⟨Or.inr rfl, ?_⟩⟩
      · have : N ≠ M := fun y => z (cmpZ_0.mpr y)
        rw [if_neg (by simpa using this)] at hQ
        exact hQ
      · have : N = M := cmpZ_0.mp z
        rw [if_pos (by simpa using this)] at hQ
        exact hQ
    · subst heq
      have := vC.one h hx hu hv oku okv
      subst this
      rw [hself, if_pos rfl] at hQ
      exact hQ
end CEq
