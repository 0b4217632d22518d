/-! the potential grows by 105 an instruction -/
theorem xIn_getD {A l : List Int} (h : ∀ v ∈ l, xIn A v) (a : Nat) : xIn A (l.getD a 0) := by
  rw [List.getD_eq_getElem?_getD]
  cases z : l[a]? with
  | none => exact Or.inl (by decide)
  | some v => exact h v (List.mem_of_getElem? z)
theorem xGet_in {A : List Int} {w : Nat} {v : Int} : ∀ {G : List (Nat × Int)}, (∀ g ∈ G, xIn A g.2) → xGet w G = some v → xIn A v
  | [], _, z => by cases z
  | g :: G, h, z => by
    unfold xGet at z
    by_cases y : g.1 = w
    · rw [if_pos y] at z; cases z; exact h g List.mem_cons_self
    · rw [if_neg y] at z; exact xGet_in (fun g' hg' => h g' (List.mem_cons_of_mem _ hg')) z
theorem xSet_in {A : List Int} {w : Nat} {v : Int} (hv : xIn A v) : ∀ {G : List (Nat × Int)}, (∀ g ∈ G, xIn A g.2) → ∀ g ∈ xSet w v G, xIn A g.2
  | [], _, g, hg => by rw [List.mem_singleton.mp hg]; exact hv
  | g' :: G, h, g, hg => by
    unfold xSet at hg
    by_cases y : g'.1 = w
    · rw [if_pos y] at hg
      rcases List.mem_cons.mp hg with z | z
      · rw [z]; exact hv
      · exact h g (List.mem_cons_of_mem _ z)
    · rw [if_neg y] at hg
      rcases List.mem_cons.mp hg with z | z
      · rw [z]; exact h g' List.mem_cons_self
      · exact xSet_in hv (fun g hg => h g (List.mem_cons_of_mem _ hg)) g z
theorem xBuilt_lt {w : Nat} {v : Int} (y : xBuilt w = some v) : 0 ≤ v ∧ v ≤ 10 := by
  unfold xBuilt at y
  repeat' split at y
  all_goals first | (cases y; done) | (cases y; decide)
theorem xClo.ref {H : xHp} {A : List Int} (hA : xClo H A) {nc K : Nat} {n v : Int} (hH : xHOk nc K H n) (hv : xIn A v) {o : xOb} (e : H v = some o) : ∀ u ∈ xRf o, xIn A u := by
  rcases hv with z | z
  · have := (hH.2 v o e).1; omega
  · obtain ⟨o', e', g⟩ := hA.2 v z
    rw [e] at e'
    cases e'
    exact g
section XPJ
variable {C : Nat → xCd} {nc K P : Nat} {e : xEn} {q w a : Nat} {r : List Int} {v u : Int}
theorem x0_p (h : xEnOk C nc K e) {st : List Int} (hag : agW (C e.c).1 w a) (hw : w = 100 ∨ w = 101 ∨ w = 124 ∨ w = 110 ∨ w = 113 ∨ w = 122 ∨ w = 87 ∨ w = 102 ∨ w = 131) (ht : ∀ t, tkW w a = some t → t ≤ st.length) (hp : xPI C nc P e st) : xOutP C nc P (x0 C e q w a st) := by
  obtain ⟨h1, -, -, h4, -⟩ := h
  obtain ⟨A, a1, a2, a3, a4, a5, a6⟩ := hp.settle
  have hps : ∀ {u : Int}, xIn A u → ∀ v ∈ u :: st, xIn A v := fun hu v hv => by
    rcases List.mem_cons.mp hv with z | z
    · rw [z]; exact hu
    · exact a5 v z
  have push : ∀ {u : Int} {q' : Nat}, xIn A u → xOutP C nc P (xGo e q' (u :: st)) := fun hu => xGo_p a1 a2 a3 a4 (hps hu) (by simp only [List.length_cons]; omega)
  rcases hw with rfl | rfl | rfl | rfl | rfl | rfl | rfl | rfl | rfl
  · exact push (xIn_getD (a2.1 e.c h4) a)
  · show xOutP C nc P (xName e q _ st)
    unfold xName
    cases z : xGet ((C e.c).2.2.getD a 0) e.G with
    | some v => exact push (xGet_in a2.2 z)
    | none =>
      show xOutP C nc P (match xBuilt ((C e.c).2.2.getD a 0) with
        | some v => xGo e q (v :: st)
        | none => .inl 4)
      cases y : xBuilt ((C e.c).2.2.getD a 0) with
      | none => trivial
      | some v => exact push (Or.inl (by have := xBuilt_lt y; omega))
  · show xOutP C nc P (match e.L a with
      | some v => xGo e q (v :: st)
      | none => .inl 4)
    cases y : e.L a with
    | none => trivial
    | some v => exact push (a3 a v y)
  · exact xGo_p a1 a2 a3 a4 a5 (by omega)
  · exact xGo_p a1 a2 a3 a4 a5 (by omega)
  · exact xGo_p (e := (e.H, e.n, e.G, e.c, e.L, (st.length, q + a) :: e.b, e.t)) a1 a2 a3 a4 a5 (by show 10 * xSzA e.H A + 3 * (st.length + xEs e.t) ≤ P + 20; omega)
  · exact xGo_p (e := (e.H, e.n, e.G, e.c, e.L, e.b.tail, e.t)) a1 a2 a3 a4 a5 (by show 10 * xSzA e.H A + 3 * (st.length + xEs e.t) ≤ P + 20; omega)
  · have hle : a ≤ st.length := ht a rfl
    have a10 : a ≤ 10 := hag.2.2.2.1 (Or.inl rfl)
    show xOutP C nc P (xTp e q (st.take a) (st.drop a))
    unfold xTp
    by_cases z : xMax e.H (st.take a) = 4
    · rw [if_pos z]; trivial
    · rw [if_neg z]
      have l1 : (st.take a).reverse.length = a := by rw [List.length_reverse, List.length_take]; omega
      have l2 : (st.drop a).length = st.length - a := List.length_drop
      exact xMk_t h1 a1 a2 a3 a4 (fun u hu => a5 u (List.mem_of_mem_drop hu)) (fun u hu => a5 u (List.mem_of_mem_take (List.mem_reverse.mp hu))) (by rw [l1, l2]; omega) (by rw [l2]; omega)
  · have hle : a + 1 ≤ st.length := ht (a + 1) rfl
    have l2 : (st.drop (a + 1)).length = st.length - (a + 1) := List.length_drop
    have hd : ∀ u ∈ st.drop (a + 1), xIn A u := fun u hu => a5 u (List.mem_of_mem_drop hu)
    have mk : ∀ p, xOutP C nc P (xMk e q (st.drop (a + 1)) (.inr (.inr (.inl p)))) := fun p => xMk_o h1 a1 a2 a3 a4 hd (fun u hu => by cases hu) (fun _ z => by cases z) (fun _ z => by cases z) (Nat.le_refl 4) (fun ⟨_, z⟩ => by cases z) (by rw [l2]; omega)
    show xOutP C nc P (xCall C e q a (st.take a) (st.drop (a + 1)) (st.getD a 0))
    unfold xCall
    by_cases z : st.getD a 0 = 3
    · rw [if_pos z]
      by_cases z2 : 3 < a
      · rw [if_pos z2]; trivial
      · rw [if_neg z2]
        cases y : xNums e.H (st.take a) with
        | none => trivial
        | some k =>
          show xOutP C nc P (xRange e q (st.drop (a + 1)) k)
          unfold xRange
          match k with
          | [] => trivial
          | b :: k =>
            dsimp only
            by_cases z3 : (b :: k).all xFit = true
            · rw [if_pos z3]
              match k with
              | [] => exact mk _
              | [c] => exact mk _
              | [c, d] =>
                dsimp only
                by_cases z4 : b = 0
                · rw [if_pos z4]; trivial
                · rw [if_neg z4]; exact mk _
              | _ :: _ :: _ :: _ => trivial
            · rw [if_neg z3]; trivial
    · rw [if_neg z]
      cases y : e.H (st.getD a 0) with
      | none => trivial
      | some o =>
        match o, y with
        | .inl _, _ => trivial
        | .inr (.inl _), _ => trivial
        | .inr (.inr (.inl _)), _ => trivial
        | .inr (.inr (.inr (.inl _))), _ => trivial
        | .inr (.inr (.inr (.inr c))), y =>
          dsimp only
          by_cases z2 : cdA (C c).1 = a
          · rw [if_pos z2]
            by_cases z3 : e.t.length = 7
            · rw [if_pos z3]; trivial
            · rw [if_neg z3]
              refine ⟨A, 0, a1, a2, Or.inl (by decide), ⟨trivial, fun i v hv => ?_, fun g hg => ?_⟩, ?_⟩
              · have hm := List.mem_of_getElem? (show (st.take a).reverse[i]? = some v from hv)
                exact a5 v (List.mem_of_mem_take (List.mem_reverse.mp hm))
              · rcases List.mem_cons.mp hg with z | z
                · rw [z]; exact ⟨hd, a3⟩
                · exact a4 g z
              · show 10 * xSzA e.H A + 3 * (0 + ((st.drop (a + 1)).length + xEs e.t)) + 0 ≤ P + 105
                rw [l2]; omega
          · rw [if_neg z2]; trivial
theorem x1_p (h : xEnOk C nc K e) (hag : agW (C e.c).1 w a) (hw : w = 1 ∨ w = 4 ∨ w = 11 ∨ w = 12 ∨ w = 68 ∨ w = 83 ∨ w = 90 ∨ w = 92 ∨ w = 93 ∨ w = 114 ∨ w = 115 ∨ w = 125 ∨ w = 130 ∨ w = 132) (hp : xPI C nc P e (v :: r)) : xOutP C nc P (x1 C e q w a r v) := by
  obtain ⟨h1, -, -, h4, -⟩ := h
  obtain ⟨A, a1, a2, a3, a4, a5, a6⟩ := hp.settle
  obtain ⟨B, c, b1, b2, b3, b4, b5, b6, b7, b8, b9⟩ := hp.drop h1
  simp only [List.length_cons] at a6
  have a5v : xIn A v := a5 v List.mem_cons_self
  have a5r : ∀ u ∈ r, xIn A u := fun u hu => a5 u (List.mem_cons_of_mem _ hu)
  have pop : ∀ {q' : Nat}, xOutP C nc P (xGo e q' r) := xGo_p b1 b2 b3 b4 b5 (by omega)
  rcases hw with rfl | rfl | rfl | rfl | rfl | rfl | rfl | rfl | rfl | rfl | rfl | rfl | rfl | rfl
  · exact pop
  · refine xGo_p a1 a2 a3 a4 (fun u hu => ?_) (by simp only [List.length_cons]; omega)
    rcases List.mem_cons.mp hu with z | z
    · rw [z]; exact a5v
    · exact a5 u z
  · show xOutP C nc P (match xNum e.H v with
      | some N => xMk e q r (.inl (-N))
      | none => .inl 0)
    cases y : xNum e.H v with
    | none => trivial
    | some N =>
      have := b7 (by rw [y]; exact fun z => by cases z)
      exact xMk_n h1 b1 b2 b3 b4 b5 (by omega)
  · refine xGo_p b1 b2 b3 b4 (fun u hu => ?_) (by simp only [List.length_cons]; omega)
    rcases List.mem_cons.mp hu with z | z
    · rw [z]
      by_cases z : xFalse e.H v = true
      · rw [if_pos z]; exact Or.inl (by decide)
      · rw [if_neg z]; exact Or.inl (by decide)
    · exact b5 u z
  · show xOutP C nc P (xWalk e q r v)
    have mk : xOutP C nc P (xMk e q r (.inr (.inr (.inr (.inl (v, 0)))))) := xMk_o h1 a1 a2 a3 a4 a5r (fun u hu => by rw [List.mem_singleton.mp hu]; exact a5v) (fun _ z => by cases z) (fun _ z => by cases z) (show 3 ≤ 4 by decide) (fun _ => Nat.le_refl 3) (by omega)
    unfold xWalk
    cases y : e.H v with
    | none => trivial
    | some o =>
      match o, y with
      | .inl _, _ => trivial
      | .inr (.inl z), y => exact mk
      | .inr (.inr (.inl z)), y => exact mk
      | .inr (.inr (.inr (.inl _))), _ => exact xGo_p a1 a2 a3 a4 a5 (by simp only [List.length_cons]; omega)
      | .inr (.inr (.inr (.inr _))), _ => trivial
  · show xOutP C nc P (xRet e v)
    unfold xRet
    cases y : e.t with
    | nil => exact ⟨A, 0, a1, a2, a5v, trivial, by show 10 * xSzA e.H A + 3 * 0 + 0 ≤ P + 105; omega⟩
    | cons f t =>
      rw [y] at a4 a6
      have e6 : xEs (f :: t) = f.2.2.1.length + xEs t := rfl
      refine ⟨A, 85, a1, a2, Or.inl (by decide), ⟨⟨xChg_in a5v, (a4 f List.mem_cons_self).1⟩, (a4 f List.mem_cons_self).2, fun g hg => a4 g (List.mem_cons_of_mem _ hg)⟩, ?_⟩
      show 10 * xSzA e.H A + 3 * (f.2.2.1.length + 1 + xEs t) + 85 ≤ P + 105
      omega
  · show xOutP C nc P (xStore e q _ r v)
    unfold xStore
    by_cases z : xFind ((C e.c).2.2.getD a 0) e.G = 16
    · rw [if_pos z]; trivial
    · rw [if_neg z]
      exact xGo_p (e := (e.H, e.n, xSet ((C e.c).2.2.getD a 0) v e.G, e.c, e.L, e.b, e.t)) a1 ⟨a2.1, xSet_in a5v a2.2⟩ a3 a4 a5r (by show 10 * xSzA e.H A + 3 * (r.length + xEs e.t) ≤ P + 20; omega)
  · show xOutP C nc P (xSpr e q a r v)
    unfold xSpr
    cases y : xTup e.H v with
    | none => trivial
    | some k =>
      dsimp only
      by_cases z : k.length = a
      · rw [if_pos z]
        obtain ⟨k1, k2⟩ := b8 k y
        have a10 : a ≤ 10 := hag.2.2.2.1 (Or.inr rfl)
        refine xGo_p b1 b2 b3 b4 (fun u hu => ?_) (by rw [List.length_append]; omega)
        rcases List.mem_append.mp hu with z | z
        · exact k2 u z
        · exact b5 u z
      · rw [if_neg z]; trivial
  · show xOutP C nc P (xNext e q a r v)
    unfold xNext
    cases y : e.H v with
    | none => trivial
    | some o =>
      match o, y with
      | .inl _, _ => trivial
      | .inr (.inl z), y => trivial
      | .inr (.inr (.inl z)), y => trivial
      | .inr (.inr (.inr (.inr _))), _ => trivial
      | .inr (.inr (.inr (.inl (o, k)))), y =>
        dsimp only
        obtain ⟨c43, vA⟩ := b9 _ y
        have oA : xIn B o := b1.ref h1 (Or.inr vA) y o List.mem_cons_self
        cases x : xLen e.H o with
        | none => trivial
        | some m =>
          dsimp only
          by_cases z : k < m
          · rw [if_pos z]
            have hle := xWk_le (k' := k + 1) h1 y
            have hcl := hle.clo b1
            have hsz := hle.szA B b1.ex
            rcases xItem_ok h1 x z with ⟨li, di, y1, y2, y3, y4⟩ | ⟨qi, y1, y2, y3, y4⟩
            · rw [y3]
              have uA : xIn B (li.getD k 0) := b1.ref h1 oA y1 _ y4
              refine ⟨B, 85, hcl, b2, Or.inl (by decide), ⟨⟨xChg_in uA, fun u hu => ?_⟩, b3, b4⟩, ?_⟩
              · rcases List.mem_cons.mp hu with z | z
                · rw [z]; exact Or.inr vA
                · exact b5 u z
              · show 10 * xSzA (xNew e.H v _) B + 3 * (r.length + 1 + 1 + xEs e.t) + 85 ≤ P + 105
                rw [hsz]; omega
            · rw [y3]
              have hk : xHOk nc (max K (k + 1)) (xNew e.H v (.inr (.inr (.inr (.inl (o, k + 1)))))) e.n := xWk_ok (h1.mono (Nat.le_max_left _ _)) y (Nat.le_max_right _ _)
              have hle2 := xNew_le hk (.inl (qi.1 + k * qi.2.2))
              have nB : e.n ∉ B := xIn_ne b1 h1
              obtain ⟨d1, d2⟩ := (hle2.clo hcl).cons (v := e.n) (o := .inl (qi.1 + k * qi.2.2)) nB xNew_self (fun u hu => by cases hu)
              have sub : ∀ v ∈ B, v ∈ e.n :: B := fun _ => List.mem_cons_of_mem _
              refine ⟨e.n :: B, 85, d1, b2.mono sub, Or.inl (by decide), ⟨⟨xChg_in (Or.inr List.mem_cons_self), fun u hu => ?_⟩, b3.mono sub, b4.mono sub⟩, ?_⟩
              · rcases List.mem_cons.mp hu with z | z
                · rw [z]; exact Or.inr (sub v vA)
                · exact (b5 u z).mono sub
              · show 10 * xSzA (xNew (xNew e.H v _) e.n _) (e.n :: B) + 3 * (r.length + 1 + 1 + xEs e.t) + 85 ≤ P + 105
                rw [d2, hle2.szA B hcl.ex, hsz]
                have : xSz (.inl (qi.1 + k * qi.2.2)) ≤ 6 := by
                  show 3 + dl 16 (qi.1 + k * qi.2.2).natAbs ≤ 6
                  have := dl_lt 16 (qi.1 + k * qi.2.2).natAbs 3 (Nat.lt_of_le_of_lt y4 (by decide))
                  omega
                omega
          · rw [if_neg z]; exact pop
  · exact pop
  · exact pop
  · refine xGo_p (e := (e.H, e.n, e.G, e.c, (fun i => if i = a then some v else e.L i), e.b, e.t)) a1 a2 (fun i u hu => ?_) a4 a5r (by show 10 * xSzA e.H A + 3 * (r.length + xEs e.t) ≤ P + 20; omega)
    have hu' : (if i = a then some v else e.L i) = some u := hu
    by_cases z : i = a
    · rw [if_pos z] at hu'; cases hu'; exact a5v
    · rw [if_neg z] at hu'; exact a3 i u hu'
  · trivial
  · show xOutP C nc P (if v < 0 then xMk e q r (.inr (.inr (.inr (.inr (-1 - v).toNat)))) else .inl 0)
    by_cases z : v < 0
    · rw [if_pos z]
      exact xMk_o h1 a1 a2 a3 a4 a5r (fun u hu => by cases hu) (fun _ z => by cases z) (fun _ z => by cases z) (show 2 ≤ 4 by decide) (fun ⟨_, z⟩ => by cases z) (by omega)
    · rw [if_neg z]; trivial
theorem x2_p (h : xEnOk C nc K e) (hw : w = 2 ∨ w = 20 ∨ w = 22 ∨ w = 23 ∨ w = 24 ∨ w = 25 ∨ w = 26 ∨ w = 107) (hp : xPI C nc P e (u :: v :: r)) : xOutP C nc P (x2 e q w a r v u) := by
  obtain ⟨h1, -⟩ := h
  obtain ⟨A, a1, a2, a3, a4, a5, a6⟩ := hp.settle
  obtain ⟨B, c, b1, b2, b3, b4, b5, b6, b7, b8, b9⟩ := hp.drop h1
  simp only [List.length_cons] at a6 b6
  have vB : xIn B v := b5 v List.mem_cons_self
  have rB : ∀ x ∈ r, xIn B x := fun x hx => b5 x (List.mem_cons_of_mem _ hx)
  have ari : ∀ w', xOutP C nc P (xAri e q w' r v u) := by
    intro w'
    unfold xAri
    cases y1 : xNum e.H v with
    | none => trivial
    | some A =>
      cases y2 : xNum e.H u with
      | none => trivial
      | some B' =>
        have c85 := b7 (by rw [y2]; exact fun z => by cases z)
        show xOutP C nc P (xAr e q w' r A B')
        have gv : ∀ N, xOutP C nc P (xGive e q r N) := fun N => by
          unfold xGive
          by_cases z : N.natAbs < 32768 ^ 16
          · rw [if_pos z]; exact xMk_n h1 b1 b2 b3 b4 rB (by omega)
          · rw [if_neg z]; trivial
        unfold xAr
        repeat' split
        all_goals first | exact gv _ | trivial
  have sm : ∀ {z : Int}, z < 16 → xOutP C nc P (xGo e q (z :: r)) := fun {z} hz => xGo_p b1 b2 b3 b4 (fun x hx => by
    rcases List.mem_cons.mp hx with y | y
    · rw [y]; exact Or.inl hz
    · exact rB x y) (by simp only [List.length_cons]; omega)
  rcases hw with rfl | rfl | rfl | rfl | rfl | rfl | rfl | rfl
  · refine xGo_p a1 a2 a3 a4 (fun x hx => a5 x ?_) (by simp only [List.length_cons]; omega)
    simp only [List.mem_cons] at hx ⊢
    rcases hx with z | z | z
    · exact Or.inr (Or.inl z)
    · exact Or.inl z
    · exact Or.inr (Or.inr z)
  · exact ari 20
  · exact ari 22
  · show xOutP C nc P (xAdd e q r v u)
    unfold xAdd
    cases y1 : xTup e.H v with
    | none => exact ari 23
    | some k =>
      cases y2 : xTup e.H u with
      | none => exact ari 23
      | some k' =>
        dsimp only
        by_cases z : 12 < k.length + k'.length
        · rw [if_pos z]; trivial
        · rw [if_neg z]
          obtain ⟨d, hd⟩ := xTup_some y1
          obtain ⟨c42, hk'⟩ := b8 k' y2
          have hk := b1.ref h1 vB hd
          refine xMk_t h1 b1 b2 b3 b4 rB (fun x hx => ?_) (by rw [List.length_append]; omega) (by omega)
          rcases List.mem_append.mp hx with y | y
          · exact hk x y
          · exact hk' x y
  · exact ari 24
  · show xOutP C nc P (xIt e q r v u)
    unfold xIt
    cases y1 : xLen e.H v with
    | none => trivial
    | some m =>
      cases y2 : xNum e.H u with
      | none => trivial
      | some k =>
        have c85 := b7 (by rw [y2]; exact fun z => by cases z)
        dsimp only
        generalize (if k < 0 then k + (m : Int) else k) = j
        by_cases z : j < 0 ∨ (m : Int) ≤ j
        · rw [if_pos z]; trivial
        · rw [if_neg z]
          have hj : j.toNat < m := by omega
          rcases xItem_ok h1 y1 hj with ⟨li, di, z1, z2, z3, z4⟩ | ⟨qi, z1, z2, z3, z4⟩
          · rw [z3]
            have uB : xIn B (li.getD j.toNat 0) := b1.ref h1 vB z1 _ z4
            refine xGo_p b1 b2 b3 b4 (fun x hx => ?_) (by simp only [List.length_cons]; omega)
            rcases List.mem_cons.mp hx with y | y
            · rw [y]; exact uB
            · exact rB x y
          · rw [z3]; exact xMk_n h1 b1 b2 b3 b4 rB (by omega)
  · exact ari 26
  · show xOutP C nc P (xCmp e q a r v u)
    have two : ∀ {Q : Prop} [Decidable Q], xOutP C nc P (xGo e q ((if Q then 2 else 1) :: r)) := by
      intro Q _
      by_cases z : Q
      · rw [if_pos z]; exact sm (by decide)
      · rw [if_neg z]; exact sm (by decide)
    unfold xCmp
    by_cases z1 : a = 2 ∨ a = 3
    · rw [if_pos z1]; exact two
    · rw [if_neg z1]
      by_cases z2 : a = 10
      · rw [if_pos z2]
        by_cases z3 : xIsK v = true ∧ xIsK u = true
        · rw [if_pos z3]; exact two
        · rw [if_neg z3]; trivial
      · rw [if_neg z2]
        cases y1 : xNum e.H v with
        | none => trivial
        | some A =>
          cases y2 : xNum e.H u with
          | none => trivial
          | some B => exact two
theorem xIns_p (h : xEnOk C nc K e) {st : List Int} {l : List (Nat × oHB)} (hag : agW (C e.c).1 w a) (hsc : scW w a q (st.length, e.b) = some l) (hp : xPI C nc P e st) : xOutP C nc P (xIns C e q w a st) := by
  obtain ⟨t, ht⟩ : ∃ t, tkW w a = some t := by
    cases z : tkW w a with
    | none => unfold scW at hsc; rw [z] at hsc; cases hsc
    | some t => exact ⟨t, rfl⟩
  have hf := (sc_of ht hsc).1
  have none3 : ¬ w = 3 → (w = 100 ∨ w = 101 ∨ w = 124 ∨ w = 110 ∨ w = 113 ∨ w = 122 ∨ w = 87 ∨ w = 102 ∨ w = 131) → xOutP C nc P (xIns C e q w a st) := fun z3 z => by
    unfold xIns
    rw [if_neg z3, if_pos z]
    exact x0_p h hag z (fun t' ht' => by rw [ht] at ht'; cases ht'; omega) hp
  rcases tk_w ht with z | z | z | z | z | z
  · exact none3 (by omega) (by omega)
  · unfold xIns
    rw [if_neg (by omega), if_neg (by omega), if_neg (by omega)]
    match st, hp with
    | [], _ => trivial
    | v :: r, hp => exact x1_p h hag z hp
  · unfold xIns
    rw [if_neg (by omega), if_neg (by omega), if_pos z]
    match st, hp with
    | [], _ => trivial
    | [_], _ => trivial
    | u :: v :: r, hp => exact x2_p h z hp
  · subst z
    unfold xIns
    rw [if_pos rfl]
    match st, hp with
    | [], _ => trivial
    | [_], _ => trivial
    | [_, _], _ => trivial
    | x :: y :: z :: r, hp =>
      obtain ⟨A, a1, a2, a3, a4, a5, a6⟩ := hp.settle
      simp only [List.length_cons] at a6
      refine xGo_p a1 a2 a3 a4 (fun u hu => a5 u ?_) (by simp only [List.length_cons]; omega)
      simp only [List.mem_cons] at hu ⊢
      rcases hu with q | q | q | q
      · exact Or.inr (Or.inl q)
      · exact Or.inr (Or.inr (Or.inl q))
      · exact Or.inl q
      · exact Or.inr (Or.inr (Or.inr q))
  · exact none3 (by omega) (by omega)
  · exact none3 (by omega) (by omega)
theorem xUnw_p {H : xHp} {A : List Int} {k : Nat} (hk : k ≤ 6) (hlow : ∀ u, u < 16 → H u = none) : ∀ (fs : List xFr), xTIn A fs → xFs1 A H 0 (xUnw k fs) ∧ xEs (xUnw k fs) ≤ xEs fs + 1
  | [], _ => ⟨trivial, Nat.zero_le _⟩
  | (c, p, st, L, []) :: t, h => by
    obtain ⟨i1, i2⟩ := xUnw_p hk hlow t (fun g hg => h g (List.mem_cons_of_mem _ hg))
    refine ⟨i1, ?_⟩
    show xEs (xUnw k t) ≤ st.length + xEs t + 1
    omega
  | (c, p, st, L, (l', h') :: b) :: t, h => by
    obtain ⟨g1, g2⟩ := h _ List.mem_cons_self
    have hn : H (4 + (k : Int)) = none := hlow _ (by omega)
    refine ⟨⟨⟨Or.inl ⟨Or.inl (by omega), fun z => absurd ?_ z, fun z => absurd ?_ z, fun ⟨p, z⟩ => ?_⟩, fun u hu => g1 u (List.mem_of_mem_drop hu)⟩, g2, fun g hg => h g (List.mem_cons_of_mem _ hg)⟩, ?_⟩
    · unfold xNum
      rw [if_neg (by omega), if_neg (by omega), hn]
    · unfold xTup
      rw [hn]
    · rw [hn] at z; cases z
    · show (st.drop (st.length - l')).length + 1 + xEs t ≤ st.length + xEs t + 1
      rw [List.length_drop]; omega
theorem xStep_pot {s : xSt} (h : xWf C nc K s) (hp : xPot C nc P s.H s.G s.f s.r) : xPot C nc (P + 105) (xStep C s).H (xStep C s).G (xStep C s).f (xStep C s).r := by
  obtain ⟨h1, h2, h3, h4, h5, h6, h7, h8, h9, h10⟩ := id h
  have hlow : ∀ u, u < 16 → s.H u = none := fun u hu => by
    cases z : s.H u with
    | none => rfl
    | some o => have := (h1.2 u o z).1; omega
  unfold xStep
  cases y : s.f with
  | nil =>
    obtain ⟨A, c, b1, b2, b3, b4, b5⟩ := hp
    rw [y] at b4 b5
    refine ⟨A, c, b1, b2, b3, ?_, ?_⟩
    · show xFs1 A s.H c s.f
      rw [y]; exact b4
    · show 10 * xSzA s.H A + 3 * xEs s.f + c ≤ P + 105
      rw [y]; omega
  | cons f t =>
    obtain ⟨c, p, st, L, b⟩ := f
    dsimp only
    rw [y] at h4 hp
    obtain ⟨f1, ⟨g1, ⟨T, g2, g3, g4⟩, g5, g6, g7⟩, f3⟩ := h4
    obtain ⟨-, -, i3, l, i4, i5⟩ := g2.2 _ _ g3
    have hen : xEnOk C nc K (s.H, s.n, s.G, c, L, b, t) := ⟨h1, h2, h3, g1, Nat.le_of_succ_le_succ f1, g7, f3⟩
    have hpi : xPI C nc P (s.H, s.n, s.G, c, L, b, t) st := by
      obtain ⟨A, c', b1, b2, b3, ⟨b4, b5, b6⟩, b7⟩ := hp
      exact ⟨A, c', b1, b2, b5, b6, b4, b7⟩
    have out := xIns_p (q := dcN (C c).1 p) hen i3 i4 hpi
    have ok := xIns_ok (q := dcN (C c).1 p) (⟨h1.mono (Nat.le_succ K), h2, h3, g1, Nat.le_of_succ_le_succ f1, g7, f3⟩ : xEnOk C nc (K + 1) (s.H, s.n, s.G, c, L, b, t)) h1 g2 g4 i3 i4 i5 g6
    generalize xIns C (s.H, s.n, s.G, c, L, b, t) (dcN (C c).1 p) (dcW (C c).1 p) (dcA (C c).1 p) st = o at out ok
    match o, out, ok with
    | .inl k, _, ok =>
      obtain ⟨A, a1, a2, a3, a4, a5, a6⟩ := hpi.settle
      obtain ⟨u1, u2⟩ := xUnw_p (k := k) ok hlow ((c, dcN (C c).1 p, st, L, b) :: t) (fun g hg => by
        rcases List.mem_cons.mp hg with z | z
        · rw [z]; exact ⟨a5, a3⟩
        · exact a4 g z)
      have e6 : xEs ((c, dcN (C c).1 p, st, L, b) :: t) = st.length + xEs t := rfl
      have a6' : 10 * xSzA s.H A + 3 * (st.length + xEs t) ≤ P := a6
      show xPot C nc (P + 105) (xRaise k s.H s.n s.G ((c, dcN (C c).1 p, st, L, b) :: t)).H (xRaise k s.H s.n s.G ((c, dcN (C c).1 p, st, L, b) :: t)).G (xRaise k s.H s.n s.G ((c, dcN (C c).1 p, st, L, b) :: t)).f (xRaise k s.H s.n s.G ((c, dcN (C c).1 p, st, L, b) :: t)).r
      unfold xRaise
      cases z : xUnw k ((c, dcN (C c).1 p, st, L, b) :: t) with
      | nil => exact ⟨A, 0, a1, a2, Or.inl (show (0 : Int) < 16 by decide), trivial, by show 10 * xSzA s.H A + 3 * 0 + 0 ≤ P + 105; omega⟩
      | cons f' t' =>
        rw [z] at u1 u2
        exact ⟨A, 0, a1, a2, Or.inl (show (0 : Int) < 16 by decide), u1, by show 10 * xSzA s.H A + 3 * xEs (f' :: t') + 0 ≤ P + 105; omega⟩
    | .inr (H', n', G', fs', none), out, _ => exact out
    | .inr (H', n', G', fs', some v), out, _ => exact out
end XPJ
