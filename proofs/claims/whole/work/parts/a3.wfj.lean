/-! every instruction keeps it: those that take one, those that take two -/
section XWJ
variable {C : Nat → xCd} {nc K : Nat} {e : xEn} {T : Nat → Option oHB} {q w a : Nat} {l : List (Nat × oHB)} {r : List Int} {v u : Int}
theorem x1_ok (h : xEnOk C nc (K + 1) e) (hK : xHOk nc K e.H e.n) (hT : okT (C e.c).1 T) (hB : xBl T e.b) (hag : agW (C e.c).1 w a) (hw : w = 1 ∨ w = 4 ∨ w = 11 ∨ w = 12 ∨ w = 68 ∨ w = 83 ∨ w = 90 ∨ w = 92 ∨ w = 93 ∨ w = 114 ∨ w = 115 ∨ w = 125 ∨ w = 130 ∨ w = 132) (hsc : scW w a q (r.length + 1, e.b) = some l) (hl : ∀ z ∈ l, T z.1 = some z.2) (hv : xOk nc e.H v) (hs : ∀ v ∈ r, xOk nc e.H v) : xOutOk C nc (K + 1) e.H (x1 C e q w a r v) := by
  obtain ⟨h1, h2, h3, h4, h5, h6, h7⟩ := id h
  have hps : ∀ {u : Int}, xOk nc e.H u → ∀ v ∈ u :: r, xOk nc e.H v := fun hu v hv => by
    rcases List.mem_cons.mp hv with z | z
    · rw [z]; exact hu
    · exact hs v z
  rcases hw with rfl | rfl | rfl | rfl | rfl | rfl | rfl | rfl | rfl | rfl | rfl | rfl | rfl | rfl
  · obtain ⟨p1, p2, p3⟩ := sc_pl (k := r.length) (t := 1) (g := 0) rfl rfl (fun _ _ => rfl) hsc hl (by omega)
    exact xGo_ok h hT hB p1 p2 hs
  · obtain ⟨p1, p2, p3⟩ := sc_pl (k := r.length + 2) (t := 1) (g := 2) rfl rfl (fun _ _ => rfl) hsc hl (by omega)
    refine xGo_ok h hT hB p1 p2 (fun u hu => ?_)
    rcases List.mem_cons.mp hu with z | z
    · rw [z]; exact hv
    · exact hps hv u z
  · obtain ⟨p1, p2, p3⟩ := sc_pl (k := r.length + 1) (t := 1) (g := 1) rfl rfl (fun _ _ => rfl) hsc hl (by omega)
    show xOutOk C nc (K + 1) e.H (match xNum e.H v with
      | some N => xMk e q r (.inl (-N))
      | none => .inl 0)
    cases y : xNum e.H v with
    | none => exact Nat.zero_le _
    | some N => exact xMk_ok h hT hB p1 p2 hs (by show (-N).natAbs < _; rw [Int.natAbs_neg]; exact xNum_lt h1 y)
  · obtain ⟨p1, p2, p3⟩ := sc_pl (k := r.length + 1) (t := 1) (g := 1) rfl rfl (fun _ _ => rfl) hsc hl (by omega)
    refine xGo_ok h hT hB p1 p2 (hps ?_)
    by_cases z : xFalse e.H v = true
    · rw [if_pos z]; exact xSm (by decide) (by decide)
    · rw [if_neg z]; exact xSm (by decide) (by decide)
  · obtain ⟨p1, p2, p3⟩ := sc_pl (k := r.length + 1) (t := 1) (g := 1) rfl rfl (fun _ _ => rfl) hsc hl (by omega)
    show xOutOk C nc (K + 1) e.H (xWalk e q r v)
    unfold xWalk
    cases y : e.H v with
    | none => exact Nat.zero_le _
    | some o =>
      match o, y with
      | .inl _, _ => exact Nat.zero_le _
      | .inr (.inl z), y => exact xMk_ok h hT hB p1 p2 hs ⟨by show xLen e.H v ≠ none; unfold xLen; rw [y]; exact fun z => (by cases z), Nat.zero_le _⟩
      | .inr (.inr (.inl z)), y => exact xMk_ok h hT hB p1 p2 hs ⟨by show xLen e.H v ≠ none; unfold xLen; rw [y]; exact fun z => (by cases z), Nat.zero_le _⟩
      | .inr (.inr (.inr (.inl _))), _ => exact xGo_ok h hT hB p1 p2 (hps hv)
      | .inr (.inr (.inr (.inr _))), _ => exact Nat.zero_le _
  · obtain ⟨p1, p2⟩ := sc_of (t := 1) rfl hsc
    show xOutOk C nc (K + 1) e.H (xRet e v)
    unfold xRet
    cases y : e.t with
    | nil => exact ⟨h1, xLe.refl h1, h3, ⟨Nat.zero_le _, trivial⟩, rfl, hv⟩
    | cons f t =>
      rw [y] at h5 h7
      obtain ⟨g1, ⟨T', g2, g3, g4⟩, g5, g6, g7⟩ := h7 f List.mem_cons_self
      refine ⟨h1, xLe.refl h1, h3, ⟨by show t.length + 1 ≤ 8; have : t.length + 1 ≤ 7 := h5; omega, ⟨g1, ⟨T', g2, g3, g4⟩, by show flr f.2.2.2.2 ≤ f.2.2.1.length + 1; omega, fun u hu => ?_, g7⟩, fun g hg => h7 g (List.mem_cons_of_mem _ hg)⟩, fun z => by cases z⟩
      rcases List.mem_cons.mp hu with z | z
      · rw [z]; exact hv
      · exact g6 u z
  · obtain ⟨p1, p2, p3⟩ := sc_pl (k := r.length) (t := 1) (g := 0) rfl rfl (fun _ _ => rfl) hsc hl (by omega)
    show xOutOk C nc (K + 1) e.H (xStore e q _ r v)
    obtain ⟨-, -, -, c2, -, c4⟩ := h2 e.c h4
    have ha : a < (C e.c).2.2.length := by rw [c2]; exact hag.2.1 (Or.inl rfl)
    have hwl : (C e.c).2.2.getD a 0 < 2 ^ 63 := by
      rw [List.getD_eq_getElem?_getD, List.getElem?_eq_getElem ha]
      exact c4 _ (List.getElem_mem ha)
    generalize (C e.c).2.2.getD a 0 = W at hwl
    unfold xStore
    by_cases z : xFind W e.G = 16
    · rw [if_pos z]; exact Nat.le_refl 6
    · rw [if_neg z]
      have key : ∀ G : List (Nat × Int), (∀ g ∈ G, g.1 < 2 ^ 63 ∧ xOk nc e.H g.2) → (∀ g ∈ xSet W v G, g.1 < 2 ^ 63 ∧ xOk nc e.H g.2) ∧ (xSet W v G).length = (if xFind W G = G.length then G.length + 1 else G.length) ∧ xFind W G ≤ G.length := by
        intro G
        induction G with
        | nil => exact fun _ => ⟨fun g hg => by rw [List.mem_singleton.mp hg]; exact ⟨hwl, hv⟩, rfl, Nat.le_refl _⟩
        | cons g G ih =>
          intro hG
          obtain ⟨i1, i2, i3⟩ := ih (fun g hg => hG g (List.mem_cons_of_mem _ hg))
          unfold xSet xFind
          by_cases y : g.1 = W
          · rw [if_pos y, if_pos y]
            refine ⟨fun g' hg' => ?_, ?_, Nat.zero_le _⟩
            · rcases List.mem_cons.mp hg' with z | z
              · rw [z]; exact ⟨hwl, hv⟩
              · exact hG g' (List.mem_cons_of_mem _ z)
            · rw [if_neg (by simp)]; rfl
          · rw [if_neg y, if_neg y]
            refine ⟨fun g' hg' => ?_, ?_, ?_⟩
            · rcases List.mem_cons.mp hg' with z | z
              · rw [z]; exact hG g List.mem_cons_self
              · exact i1 g' z
            · simp only [List.length_cons]
              rw [i2]
              by_cases q1 : xFind W G = G.length
              · rw [if_pos q1, if_pos (by omega)]
              · rw [if_neg q1, if_neg (by omega)]
            · simp only [List.length_cons]; omega
      obtain ⟨k1, k2, k3⟩ := key e.G h3.2
      have hlen : (xSet W v e.G).length ≤ 16 := by
        rw [k2]
        have := h3.1
        by_cases q1 : xFind W e.G = e.G.length
        · rw [if_pos q1]; omega
        · rw [if_neg q1]; omega
      exact ⟨h1, xLe.refl h1, ⟨hlen, k1⟩, ⟨Nat.succ_le_succ h5, ⟨h4, ⟨T, hT, p1, hB⟩, p2, hs, h6⟩, h7⟩, fun z => by cases z⟩
  · obtain ⟨p1, p2, p3⟩ := sc_pl (k := r.length + a) (t := 1) (g := a) rfl rfl (fun _ _ => rfl) hsc hl (by omega)
    show xOutOk C nc (K + 1) e.H (xSpr e q a r v)
    unfold xSpr
    cases y : xTup e.H v with
    | none => exact Nat.zero_le _
    | some k =>
      dsimp only
      by_cases z : k.length = a
      · rw [if_pos z]
        obtain ⟨d, hd⟩ := xTup_some y
        have hk := (h1.2 v _ hd).2.2.2.2.2
        refine xGo_ok h hT hB (by rw [List.length_append, z, Nat.add_comm]; exact p1) (by rw [List.length_append, z, Nat.add_comm]; exact p2) (fun u hu => ?_)
        rcases List.mem_append.mp hu with z | z
        · exact hk u z
        · exact hs u z
      · rw [if_neg z]; exact (by decide : 3 ≤ 6)
  · obtain ⟨p1, p2⟩ := sc_of (t := 1) rfl hsc
    have e1 : [(q + a, r.length + 1 - 1, e.b), (q, r.length + 1 - 1 + 2, e.b)] = l := Option.some.inj p2
    subst e1
    have t1 : T (q + a) = some (r.length, e.b) := hl _ List.mem_cons_self
    have t2 : T q = some (r.length + 2, e.b) := hl _ (List.mem_cons_of_mem _ List.mem_cons_self)
    show xOutOk C nc (K + 1) e.H (xNext e q a r v)
    unfold xNext
    cases y : e.H v with
    | none => exact Nat.zero_le _
    | some o =>
      match o, y with
      | .inl _, _ => exact Nat.zero_le _
      | .inr (.inl z), y => exact Nat.zero_le _
      | .inr (.inr (.inl z)), y => exact Nat.zero_le _
      | .inr (.inr (.inr (.inr _))), _ => exact Nat.zero_le _
      | .inr (.inr (.inr (.inl (o, k)))), y =>
        dsimp only
        cases x : xLen e.H o with
        | none => exact Nat.zero_le _
        | some m =>
          dsimp only
          by_cases z : k < m
          · rw [if_pos z]
            have hk : k ≤ K := (hK.2 v _ y).2.2.2
            have hle := xWk_le (k' := k + 1) h1 y
            have hok := xWk_ok (k' := k + 1) h1 y (by omega)
            rcases xItem_ok h1 x z with ⟨li, di, y1, y2, y3, y4⟩ | ⟨qi, y1, y2, y3, y4⟩
            · rw [y3]
              have hi : xOk nc e.H (li.getD k 0) := (h1.2 o _ y1).2.2.2.2.2 _ y4
              refine ⟨hok, hle, h3.mono hle, ⟨Nat.succ_le_succ h5, ⟨h4, ⟨T, hT, t2, hB⟩, by show flr e.b ≤ r.length + 2; omega, fun u hu => ?_, fun i v hv => ⟨(h6 i v hv).1, hle.ok (h6 i v hv).2⟩⟩, fun g hg => (h7 g hg).mono hle⟩, fun z => by cases z⟩
              rcases List.mem_cons.mp hu with z | z
              · rw [z]; exact hle.ok hi
              · exact hle.ok (hps hv u z)
            · rw [y3]
              have hle2 := xNew_le hok (.inl (qi.1 + k * qi.2.2))
              have hok2 := xNew_ok (o := .inl (qi.1 + k * qi.2.2)) hok (Nat.lt_of_le_of_lt y4 (by decide))
              have hl3 := hle.trans hle2
              refine ⟨hok2, hl3, h3.mono hl3, ⟨Nat.succ_le_succ h5, ⟨h4, ⟨T, hT, t2, hB⟩, by show flr e.b ≤ r.length + 2; omega, fun u hu => ?_, fun i v hv => ⟨(h6 i v hv).1, hl3.ok (h6 i v hv).2⟩⟩, fun g hg => (h7 g hg).mono hl3⟩, fun z => by cases z⟩
              rcases List.mem_cons.mp hu with z | z
              · rw [z]; exact Or.inr (by rw [xNew_self]; exact fun z => by cases z)
              · exact hl3.ok (hps hv u z)
          · rw [if_neg z]
            exact xGo_ok h hT hB t1 (by omega) hs
  · obtain ⟨p1, p2⟩ := sc_of (t := 1) rfl hsc
    have e1 : [(a, r.length + 1 - 1, e.b), (q, r.length + 1 - 1, e.b)] = l := Option.some.inj p2
    subst e1
    have t1 : T a = some (r.length, e.b) := hl _ List.mem_cons_self
    have t2 : T q = some (r.length, e.b) := hl _ (List.mem_cons_of_mem _ List.mem_cons_self)
    refine xGo_ok h hT hB ?_ (by omega) hs
    by_cases z : xFalse e.H v = true
    · rw [if_pos z]; exact t1
    · rw [if_neg z]; exact t2
  · obtain ⟨p1, p2⟩ := sc_of (t := 1) rfl hsc
    have e1 : [(a, r.length + 1 - 1, e.b), (q, r.length + 1 - 1, e.b)] = l := Option.some.inj p2
    subst e1
    have t1 : T a = some (r.length, e.b) := hl _ List.mem_cons_self
    have t2 : T q = some (r.length, e.b) := hl _ (List.mem_cons_of_mem _ List.mem_cons_self)
    refine xGo_ok h hT hB ?_ (by omega) hs
    by_cases z : xFalse e.H v = true
    · rw [if_pos z]; exact t2
    · rw [if_neg z]; exact t1
  · obtain ⟨p1, p2, p3⟩ := sc_pl (k := r.length) (t := 1) (g := 0) rfl rfl (fun _ _ => rfl) hsc hl (by omega)
    refine ⟨h1, xLe.refl h1, h3, ⟨Nat.succ_le_succ h5, ⟨h4, ⟨T, hT, p1, hB⟩, p2, hs, fun i u hu => ?_⟩, h7⟩, fun z => by cases z⟩
    have hu' : (if i = a then some v else e.L i) = some u := hu
    by_cases z : i = a
    · rw [if_pos z] at hu'
      cases hu'
      rw [z]
      exact ⟨hag.2.2.1 (Or.inr rfl), hv⟩
    · rw [if_neg z] at hu'
      exact h6 i u hu'
  · show (if xIsK v = true then (v - 4).toNat else 0) ≤ 6
    by_cases z : xIsK v = true
    · rw [if_pos z]
      simp only [xIsK, Bool.and_eq_true, decide_eq_true_eq] at z
      omega
    · rw [if_neg z]; decide
  · obtain ⟨p1, p2, p3⟩ := sc_pl (k := r.length + 1) (t := 1) (g := 1) rfl rfl (fun _ _ => rfl) hsc hl (by omega)
    show xOutOk C nc (K + 1) e.H (if v < 0 then xMk e q r (.inr (.inr (.inr (.inr (-1 - v).toNat)))) else .inl 0)
    by_cases z : v < 0
    · rw [if_pos z]
      refine xMk_ok h hT hB p1 p2 hs ?_
      show (-1 - v).toNat < nc
      rcases hv with y | y
      · omega
      · exact absurd (h1.low (by omega)) y
    · rw [if_neg z]; exact Nat.zero_le _
theorem x2_ok (h : xEnOk C nc K e) (hT : okT (C e.c).1 T) (hB : xBl T e.b) (hw : w = 2 ∨ w = 20 ∨ w = 22 ∨ w = 23 ∨ w = 24 ∨ w = 25 ∨ w = 26 ∨ w = 107) (hsc : scW w a q (r.length + 2, e.b) = some l) (hl : ∀ z ∈ l, T z.1 = some z.2) (hu : xOk nc e.H u) (hv : xOk nc e.H v) (hs : ∀ v ∈ r, xOk nc e.H v) : xOutOk C nc K e.H (x2 e q w a r v u) := by
  obtain ⟨h1, h2, h3, h4, h5, h6, h7⟩ := id h
  have hps : ∀ {u : Int}, xOk nc e.H u → ∀ v ∈ u :: r, xOk nc e.H v := fun hu v hv => by
    rcases List.mem_cons.mp hv with z | z
    · rw [z]; exact hu
    · exact hs v z
  have ari : ∀ w', T q = some (r.length + 1, e.b) → flr e.b ≤ r.length + 1 → xOutOk C nc K e.H (xAri e q w' r v u) := by
    intro w' p1 p2
    unfold xAri
    cases y1 : xNum e.H v with
    | none => exact Nat.zero_le _
    | some A =>
      cases y2 : xNum e.H u with
      | none => exact Nat.zero_le _
      | some B =>
        show xOutOk C nc K e.H (xAr e q w' r A B)
        unfold xAr
        repeat' split
        all_goals first | exact xGive_ok h hT hB p1 p2 hs | exact (by decide : 1 ≤ 6)
  rcases hw with rfl | rfl | rfl | rfl | rfl | rfl | rfl | rfl
  · obtain ⟨p1, p2, p3⟩ := sc_pl (k := r.length + 2) (t := 2) (g := 2) rfl rfl (fun _ _ => rfl) hsc hl (by omega)
    refine xGo_ok h hT hB p1 p2 (fun z hz => ?_)
    rcases List.mem_cons.mp hz with y | y
    · rw [y]; exact hv
    · exact hps hu z y
  · obtain ⟨p1, p2, p3⟩ := sc_pl (k := r.length + 1) (t := 2) (g := 1) rfl rfl (fun _ _ => rfl) hsc hl (by omega)
    exact ari 20 p1 p2
  · obtain ⟨p1, p2, p3⟩ := sc_pl (k := r.length + 1) (t := 2) (g := 1) rfl rfl (fun _ _ => rfl) hsc hl (by omega)
    exact ari 22 p1 p2
  · obtain ⟨p1, p2, p3⟩ := sc_pl (k := r.length + 1) (t := 2) (g := 1) rfl rfl (fun _ _ => rfl) hsc hl (by omega)
    show xOutOk C nc K e.H (xAdd e q r v u)
    unfold xAdd
    cases y1 : xTup e.H v with
    | none => exact ari 23 p1 p2
    | some k =>
      cases y2 : xTup e.H u with
      | none => exact ari 23 p1 p2
      | some k' =>
        dsimp only
        by_cases z : 12 < k.length + k'.length
        · rw [if_pos z]; exact Nat.le_refl 6
        · rw [if_neg z]
          obtain ⟨d, hd⟩ := xTup_some y1
          obtain ⟨d', hd'⟩ := xTup_some y2
          obtain ⟨-, f2, f3, f4⟩ := (h1.2 v _ hd).2.2
          obtain ⟨-, g2, g3, g4⟩ := (h1.2 u _ hd').2.2
          refine xMk_ok h hT hB p1 p2 hs ⟨by show (k ++ k').length ≤ 12; rw [List.length_append]; omega, rfl, ?_, fun x hx => ?_⟩
          · show xMax e.H (k ++ k') + 1 ≤ 4
            rw [xMax_append]
            have f2' : d = xMax e.H k + 1 := f2
            have g2' : d' = xMax e.H k' + 1 := g2
            have f3' : d ≤ 4 := f3
            have g3' : d' ≤ 4 := g3
            have : Max.max (xMax e.H k) (xMax e.H k') ≤ 3 := Nat.max_le.mpr ⟨by omega, by omega⟩
            omega
          · rcases List.mem_append.mp hx with y | y
            · exact f4 x y
            · exact g4 x y
  · obtain ⟨p1, p2, p3⟩ := sc_pl (k := r.length + 1) (t := 2) (g := 1) rfl rfl (fun _ _ => rfl) hsc hl (by omega)
    exact ari 24 p1 p2
  · obtain ⟨p1, p2, p3⟩ := sc_pl (k := r.length + 1) (t := 2) (g := 1) rfl rfl (fun _ _ => rfl) hsc hl (by omega)
    show xOutOk C nc K e.H (xIt e q r v u)
    unfold xIt
    cases y1 : xLen e.H v with
    | none => exact Nat.zero_le _
    | some m =>
      cases y2 : xNum e.H u with
      | none => exact Nat.zero_le _
      | some k =>
        dsimp only
        generalize (if k < 0 then k + (m : Int) else k) = j
        by_cases z : j < 0 ∨ (m : Int) ≤ j
        · rw [if_pos z]; exact (by decide : 2 ≤ 6)
        · rw [if_neg z]
          have hj : j.toNat < m := by omega
          rcases xItem_ok h1 y1 hj with ⟨li, di, z1, z2, z3, z4⟩ | ⟨qi, z1, z2, z3, z4⟩
          · rw [z3]; exact xGo_ok h hT hB p1 p2 (hps ((h1.2 v _ z1).2.2.2.2.2 _ z4))
          · rw [z3]; exact xMk_ok h hT hB p1 p2 hs (Nat.lt_of_le_of_lt z4 (by decide))
  · obtain ⟨p1, p2, p3⟩ := sc_pl (k := r.length + 1) (t := 2) (g := 1) rfl rfl (fun _ _ => rfl) hsc hl (by omega)
    exact ari 26 p1 p2
  · obtain ⟨p1, p2, p3⟩ := sc_pl (k := r.length + 1) (t := 2) (g := 1) rfl rfl (fun _ _ => rfl) hsc hl (by omega)
    show xOutOk C nc K e.H (xCmp e q a r v u)
    have two : ∀ {P : Prop} [Decidable P], xOutOk C nc K e.H (xGo e q ((if P then 2 else 1) :: r)) := by
      intro P _
      refine xGo_ok h hT hB p1 p2 (hps ?_)
      by_cases z : P
      · rw [if_pos z]; exact xSm (by decide) (by decide)
      · rw [if_neg z]; exact xSm (by decide) (by decide)
    unfold xCmp
    by_cases z1 : a = 2 ∨ a = 3
    · rw [if_pos z1]; exact two
    · rw [if_neg z1]
      by_cases z2 : a = 10
      · rw [if_pos z2]
        by_cases z3 : xIsK v = true ∧ xIsK u = true
        · rw [if_pos z3]; exact two
        · rw [if_neg z3]; exact Nat.zero_le _
      · rw [if_neg z2]
        cases y1 : xNum e.H v with
        | none => exact Nat.zero_le _
        | some A =>
          cases y2 : xNum e.H u with
          | none => exact Nat.zero_le _
          | some B => exact two
theorem xIns_ok (h : xEnOk C nc (K + 1) e) (hK : xHOk nc K e.H e.n) (hT : okT (C e.c).1 T) (hB : xBl T e.b) {st : List Int} (hag : agW (C e.c).1 w a) (hsc : scW w a q (st.length, e.b) = some l) (hl : ∀ z ∈ l, T z.1 = some z.2) (hs : ∀ v ∈ st, xOk nc e.H v) : xOutOk C nc (K + 1) e.H (xIns C e q w a st) := by
  obtain ⟨t, ht⟩ : ∃ t, tkW w a = some t := by
    cases z : tkW w a with
    | none => unfold scW at hsc; rw [z] at hsc; cases hsc
    | some t => exact ⟨t, rfl⟩
  have hf := (sc_of ht hsc).1
  have none3 : ¬ w = 3 → (w = 100 ∨ w = 101 ∨ w = 124 ∨ w = 110 ∨ w = 113 ∨ w = 122 ∨ w = 87 ∨ w = 102 ∨ w = 131) → xOutOk C nc (K + 1) e.H (xIns C e q w a st) := fun z3 z => by
    unfold xIns
    rw [if_neg z3, if_pos z]
    exact x0_ok h hT hB hag z hsc hl hs
  rcases tk_w ht with z | z | z | z | z | z
  · exact none3 (by omega) (by omega)
  · unfold xIns
    rw [if_neg (by omega), if_neg (by omega), if_neg (by omega)]
    match st, hsc, hs with
    | [], _, _ => exact Nat.zero_le _
    | v :: r, hsc, hs => exact x1_ok h hK hT hB hag z hsc hl (hs v List.mem_cons_self) (fun u hu => hs u (List.mem_cons_of_mem _ hu))
  · unfold xIns
    rw [if_neg (by omega), if_neg (by omega), if_pos z]
    match st, hsc, hs with
    | [], _, _ => exact Nat.zero_le _
    | [_], _, _ => exact Nat.zero_le _
    | u :: v :: r, hsc, hs => exact x2_ok h hT hB z hsc hl (hs u List.mem_cons_self) (hs v (List.mem_cons_of_mem _ List.mem_cons_self)) (fun x hx => hs x (List.mem_cons_of_mem _ (List.mem_cons_of_mem _ hx)))
  · subst z
    unfold xIns
    rw [if_pos rfl]
    match st, hsc, hs with
    | [], _, _ => exact Nat.zero_le _
    | [_], _, _ => exact Nat.zero_le _
    | [_, _], _, _ => exact Nat.zero_le _
    | x :: y :: z :: r, hsc, hs =>
      obtain ⟨p1, p2, p3⟩ := sc_pl (k := r.length + 3) (t := 3) (g := 3) rfl rfl (fun _ _ => rfl) hsc hl (by simp only [List.length_cons]; omega)
      refine xGo_ok h hT hB p1 p2 (fun u hu => hs u ?_)
      simp only [List.mem_cons] at hu ⊢
      rcases hu with q | q | q | q
      · exact Or.inr (Or.inl q)
      · exact Or.inr (Or.inr (Or.inl q))
      · exact Or.inl q
      · exact Or.inr (Or.inr (Or.inr q))
  · exact none3 (by omega) (by omega)
  · exact none3 (by omega) (by omega)
/-- an exception -/
theorem xUnw_ok {H : xHp} {k : Nat} (hk : k ≤ 6) : ∀ (fs : List xFr), fs.length ≤ 8 → (∀ g ∈ fs, ∃ x, xFOk C nc H x g) → (∀ g ∈ fs.tail, xFOk C nc H 1 g) → xFsOk C nc H (xUnw k fs)
  | [], _, _, _ => ⟨Nat.zero_le _, trivial⟩
  | (c, p, st, L, []) :: t, h1, h2, h3 => by
    refine xUnw_ok hk t (Nat.le_of_succ_le h1) (fun g hg => h2 g (List.mem_cons_of_mem _ hg)) (fun g hg => h3 g (List.mem_of_mem_tail hg))
  | (c, p, st, L, (l', h') :: b) :: t, h1, h2, h3 => by
    obtain ⟨x, g1, ⟨T, g2, g3, g4⟩, g5, g6, g7⟩ := h2 _ List.mem_cons_self
    have g5' : l' ≤ st.length := g5
    refine ⟨h1, ⟨g1, ⟨T, g2, ?_, g4.2.2.1⟩, ?_, fun u hu => ?_, g7⟩, h3⟩
    · show T h' = some ((st.drop (st.length - l')).length + 1 + 0, b)
      rw [List.length_drop, show st.length - (st.length - l') + 1 + 0 = l' + 1 by omega]
      exact g4.1
    · show flr b ≤ (st.drop (st.length - l')).length + 1
      have := g4.2.1
      rw [List.length_drop]; omega
    · rcases List.mem_cons.mp hu with z | z
      · rw [z]; exact xSm (by omega) (by omega)
      · exact g6 u (List.mem_of_mem_drop z)
theorem xS0 {H : xHp} : xOk nc H 0 := xSm (by decide) (by decide)
theorem xStep_wf {s : xSt} (h : xWf C nc K s) : xWf C nc (K + 1) (xStep C s) := by
  obtain ⟨h1, h2, h3, h4, h5, h6, h7, h8, h9, h10⟩ := id h
  have h1' := h1.mono (Nat.le_succ K)
  unfold xStep
  cases y : s.f with
  | nil => exact ⟨h1', h2, h3, h4, h5, h6, h7, h8, h9, h10⟩
  | cons f t =>
    obtain ⟨c, p, st, L, b⟩ := f
    dsimp only
    rw [y] at h4
    obtain ⟨f1, ⟨g1, ⟨T, g2, g3, g4⟩, g5, g6, g7⟩, f3⟩ := h4
    obtain ⟨-, -, i3, l, i4, i5⟩ := g2.2 _ _ g3
    have hen : xEnOk C nc (K + 1) (s.H, s.n, s.G, c, L, b, t) := ⟨h1', h2, h3, g1, Nat.le_of_succ_le_succ f1, g7, f3⟩
    have out := xIns_ok (q := dcN (C c).1 p) hen h1 g2 g4 i3 i4 i5 g6
    generalize xIns C (s.H, s.n, s.G, c, L, b, t) (dcN (C c).1 p) (dcW (C c).1 p) (dcA (C c).1 p) st = o at out
    match o, out with
    | .inl k, out =>
      show xWf C nc (K + 1) (xRaise k s.H s.n s.G ((c, dcN (C c).1 p, st, L, b) :: t))
      have hu : xFsOk C nc s.H (xUnw k ((c, dcN (C c).1 p, st, L, b) :: t)) := by
        cases b with
        | nil => exact xUnw_ok out t (Nat.le_of_succ_le f1) (fun g hg => ⟨1, f3 g hg⟩) (fun g hg => f3 g (List.mem_of_mem_tail hg))
        | cons z b => exact xUnw_ok (k := k) out ((c, p, st, L, z :: b) :: t) f1 (fun g hg => by
            rcases List.mem_cons.mp hg with z | z
            · exact ⟨0, by rw [z]; exact ⟨g1, ⟨T, g2, g3, g4⟩, g5, g6, g7⟩⟩
            · exact ⟨1, f3 g z⟩) f3
      unfold xRaise
      cases z : xUnw k ((c, dcN (C c).1 p, st, L, b) :: t) with
      | nil => exact ⟨h1', h2, h3, ⟨Nat.zero_le _, trivial⟩, ⟨fun w => (by cases w), fun w => absurd rfl w⟩, xS0, Nat.le_of_ble_eq_true rfl, fun w => absurd rfl w, fun _ => rfl, fun _ => ⟨by show (0 : Int) ≤ k; omega, by show (k : Int) ≤ 6; have : k ≤ 6 := out; omega⟩⟩
      | cons f' t' =>
        rw [z] at hu
        exact ⟨h1', h2, h3, hu, ⟨fun _ w => (by cases w), fun _ => rfl⟩, xS0, Nat.le_of_ble_eq_true rfl, fun _ => rfl, fun _ => rfl, fun w => by cases w⟩
    | .inr (H', n', G', fs', none), ⟨o1, o2, o3, o4, o5⟩ => exact ⟨o1, h2.mono o2, o3, o4, ⟨fun _ => o5, fun _ => rfl⟩, xS0, Nat.le_of_ble_eq_true rfl, fun _ => rfl, fun _ => rfl, fun w => by cases w⟩
    | .inr (H', n', G', fs', some v), ⟨o1, o2, o3, o4, o5, o6⟩ => exact ⟨o1, h2.mono o2, o3, by rw [o5] at o4; show xFsOk C nc H' fs'; rw [o5]; exact o4, ⟨fun w => (by cases w), fun w => absurd o5 w⟩, o6, Nat.le_of_ble_eq_true rfl, fun _ => rfl, fun w => absurd rfl w, fun w => by cases w⟩
end XWJ
