/-! every instruction keeps it -/
theorem sc_of {w a q t len : Nat} {b : List (Nat × Nat)} {l : List (Nat × oHB)} (ht : tkW w a = some t) (h : scW w a q (len, b) = some l) : flr b + t ≤ len ∧ scR w a q (len - t + gvW w a) (len, b) = some l := by
  unfold scW at h
  rw [ht] at h
  have h' : (if len < flr b + t then none else scR w a q (len - t + gvW w a) (len, b)) = some l := h
  by_cases z : len < flr b + t
  · rw [if_pos z] at h'; cases h'
  · rw [if_neg z] at h'; exact ⟨by omega, h'⟩
theorem sc_pl {T : Nat → Option oHB} {w a q t g len k : Nat} {b : List (Nat × Nat)} {l : List (Nat × oHB)} (ht : tkW w a = some t) (hg : gvW w a = g) (hr : ∀ H s, scR w a q H s = some [(q, H, s.2)]) (h : scW w a q (len, b) = some l) (hl : ∀ z ∈ l, T z.1 = some z.2) (hk : len - t + g = k) : T q = some (k, b) ∧ flr b ≤ k ∧ flr b + t ≤ len := by
  obtain ⟨h1, h2⟩ := sc_of ht h
  rw [hr, hg, hk] at h2
  have e := Option.some.inj h2
  subst e
  exact ⟨hl (q, k, b) List.mem_cons_self, by omega, h1⟩
theorem tk_w {w a t : Nat} (h : tkW w a = some t) : (w = 100 ∨ w = 101 ∨ w = 124 ∨ w = 110 ∨ w = 113 ∨ w = 122 ∨ w = 87) ∨ (w = 1 ∨ w = 4 ∨ w = 11 ∨ w = 12 ∨ w = 68 ∨ w = 83 ∨ w = 90 ∨ w = 92 ∨ w = 93 ∨ w = 114 ∨ w = 115 ∨ w = 125 ∨ w = 130 ∨ w = 132) ∨ (w = 2 ∨ w = 20 ∨ w = 22 ∨ w = 23 ∨ w = 24 ∨ w = 25 ∨ w = 26 ∨ w = 107) ∨ w = 3 ∨ w = 102 ∨ w = 131 := by
  unfold tkW at h
  by_cases z1 : w = 100 ∨ w = 101 ∨ w = 124 ∨ w = 110 ∨ w = 113 ∨ w = 122 ∨ w = 87
  · exact Or.inl z1
  · rw [if_neg z1] at h
    by_cases z2 : w = 1 ∨ w = 4 ∨ w = 11 ∨ w = 12 ∨ w = 68 ∨ w = 83 ∨ w = 90 ∨ w = 92 ∨ w = 93 ∨ w = 114 ∨ w = 115 ∨ w = 125 ∨ w = 130 ∨ w = 132
    · exact Or.inr (Or.inl z2)
    · rw [if_neg z2] at h
      by_cases z3 : w = 2 ∨ w = 20 ∨ w = 22 ∨ w = 23 ∨ w = 24 ∨ w = 25 ∨ w = 26 ∨ w = 107
      · exact Or.inr (Or.inr (Or.inl z3))
      · rw [if_neg z3] at h
        by_cases z4 : w = 3
        · exact Or.inr (Or.inr (Or.inr (Or.inl z4)))
        · rw [if_neg z4] at h
          by_cases z5 : w = 102
          · exact Or.inr (Or.inr (Or.inr (Or.inr (Or.inl z5))))
          · rw [if_neg z5] at h
            by_cases z6 : w = 131
            · exact Or.inr (Or.inr (Or.inr (Or.inr (Or.inr z6))))
            · rw [if_neg z6] at h; cases h
theorem xSm {nc : Nat} {H : xHp} {v : Int} (h0 : 0 ≤ v) (h1 : v ≤ 10) : xOk nc H v := Or.inl ⟨by omega, h1⟩
theorem xItem_ok {nc K : Nat} {H : xHp} {n v : Int} {m k : Nat} (h : xHOk nc K H n) (hm : xLen H v = some m) (hk : k < m) : (∃ l d, H v = some (.inr (.inl (l, d))) ∧ m = l.length ∧ xItem H v k = .inl (l.getD k 0) ∧ l.getD k 0 ∈ l) ∨ ∃ q, H v = some (.inr (.inr (.inl q))) ∧ m = rgN q.1 q.2.1 q.2.2 ∧ xItem H v k = .inr (q.1 + k * q.2.2) ∧ (q.1 + k * q.2.2).natAbs ≤ 2147483648 := by
  unfold xLen at hm
  cases z : H v with
  | none => rw [z] at hm; cases hm
  | some o =>
    rw [z] at hm
    match o, z, hm with
    | .inl M, z, e => cases e
    | .inr (.inl q), z, e =>
      cases e
      refine Or.inl ⟨q.1, q.2, rfl, rfl, by unfold xItem; rw [z], ?_⟩
      rw [List.getD_eq_getElem?_getD, List.getElem?_eq_getElem hk]
      exact List.getElem_mem hk
    | .inr (.inr (.inl q)), z, e =>
      cases e
      refine Or.inr ⟨q, rfl, rfl, by unfold xItem; rw [z], ?_⟩
      obtain ⟨f1, f2, -, -⟩ := (h.2 v _ z).2.2
      simp only [xFit, Bool.and_eq_true, decide_eq_true_eq] at f1 f2
      have := rg_item hk
      omega
    | .inr (.inr (.inr _)), z, e => cases e
section XWI
variable {C : Nat → xCd} {nc K : Nat} {e : xEn} {T : Nat → Option oHB} {q w a : Nat} {l : List (Nat × oHB)}
theorem x0_ok (h : xEnOk C nc K e) (hT : okT (C e.c).1 T) (hB : xBl T e.b) {st : List Int} (hag : agW (C e.c).1 w a) (hw : w = 100 ∨ w = 101 ∨ w = 124 ∨ w = 110 ∨ w = 113 ∨ w = 122 ∨ w = 87 ∨ w = 102 ∨ w = 131) (hsc : scW w a q (st.length, e.b) = some l) (hl : ∀ z ∈ l, T z.1 = some z.2) (hs : ∀ v ∈ st, xOk nc e.H v) : xOutOk C nc K e.H (x0 C e q w a st) := by
  obtain ⟨h1, h2, h3, h4, h5, h6, h7⟩ := id h
  obtain ⟨-, -, c1, c2, c3, c4⟩ := h2 e.c h4
  have hps : ∀ {u : Int}, xOk nc e.H u → ∀ v ∈ u :: st, xOk nc e.H v := fun hu v hv => by
    rcases List.mem_cons.mp hv with z | z
    · rw [z]; exact hu
    · exact hs v z
  rcases hw with rfl | rfl | rfl | rfl | rfl | rfl | rfl | rfl | rfl
  · obtain ⟨p1, p2, p3⟩ := sc_pl (k := st.length + 1) (t := 0) (g := 1) rfl rfl (fun _ _ => rfl) hsc hl rfl
    refine xGo_ok h hT hB p1 p2 (hps ?_)
    have hlt : a < (C e.c).2.1.length := by rw [c1]; exact hag.1 rfl
    rw [List.getD_eq_getElem?_getD, List.getElem?_eq_getElem hlt]
    exact c3 _ (List.getElem_mem hlt)
  · obtain ⟨p1, p2, p3⟩ := sc_pl (k := st.length + 1) (t := 0) (g := 1) rfl rfl (fun _ _ => rfl) hsc hl rfl
    show xOutOk C nc K e.H (xName e q _ st)
    unfold xName
    cases z : xGet ((C e.c).2.2.getD a 0) e.G with
    | some v =>
      refine xGo_ok h hT hB p1 p2 (hps ?_)
      have : ∀ (G : List (Nat × Int)), (∀ g ∈ G, xOk nc e.H g.2) → xGet ((C e.c).2.2.getD a 0) G = some v → xOk nc e.H v := by
        intro G
        induction G with
        | nil => intro _ z; cases z
        | cons g G ih =>
          intro hg z
          unfold xGet at z
          by_cases y : g.1 = (C e.c).2.2.getD a 0
          · rw [if_pos y] at z; cases z; exact hg g List.mem_cons_self
          · rw [if_neg y] at z; exact ih (fun g' hg' => hg g' (List.mem_cons_of_mem _ hg')) z
      exact this e.G (fun g hg => (h3.2 g hg).2) z
    | none =>
      show xOutOk C nc K e.H (match xBuilt ((C e.c).2.2.getD a 0) with
        | some v => xGo e q (v :: st)
        | none => .inl 4)
      cases y : xBuilt ((C e.c).2.2.getD a 0) with
      | none => exact (by decide : 4 ≤ 6)
      | some v =>
        refine xGo_ok h hT hB p1 p2 (hps ?_)
        unfold xBuilt at y
        have : 0 ≤ v ∧ v ≤ 10 := by
          repeat' split at y
          all_goals first | (cases y; done) | (cases y; decide)
        exact xSm this.1 this.2
  · obtain ⟨p1, p2, p3⟩ := sc_pl (k := st.length + 1) (t := 0) (g := 1) rfl rfl (fun _ _ => rfl) hsc hl rfl
    show xOutOk C nc K e.H (match e.L a with
      | some v => xGo e q (v :: st)
      | none => .inl 4)
    cases y : e.L a with
    | none => exact (by decide : 4 ≤ 6)
    | some v => exact xGo_ok h hT hB p1 p2 (hps (h6 a v y).2)
  · obtain ⟨p1, p2⟩ := sc_of (t := 0) rfl hsc
    have e1 : [(q + a, st.length, e.b)] = l := Option.some.inj p2
    subst e1
    exact xGo_ok h hT hB (hl _ List.mem_cons_self) (by omega) hs
  · obtain ⟨p1, p2⟩ := sc_of (t := 0) rfl hsc
    have e1 : [(a, st.length, e.b)] = l := Option.some.inj p2
    subst e1
    exact xGo_ok h hT hB (hl _ List.mem_cons_self) (by omega) hs
  · obtain ⟨p1, p2⟩ := sc_of (t := 0) rfl hsc
    have p2' : (if e.b.length = 4 then none else some [(q + a, st.length + 1, e.b), (q, st.length, (st.length, q + a) :: e.b)]) = some l := p2
    by_cases z : e.b.length = 4
    · rw [if_pos z] at p2'; cases p2'
    · rw [if_neg z] at p2'
      have e1 := Option.some.inj p2'
      subst e1
      have t1 := hl _ List.mem_cons_self
      have t2 := hl _ (List.mem_cons_of_mem _ List.mem_cons_self)
      exact ⟨h1, xLe.refl h1, h3, ⟨Nat.succ_le_succ h5, ⟨h4, ⟨T, hT, t2, t1, by omega, hB, by have := xBl_len hB; omega⟩, Nat.le_refl _, hs, h6⟩, h7⟩, fun z => by cases z⟩
  · obtain ⟨p1, p2⟩ := sc_of (t := 0) rfl hsc
    have p2' : (match e.b with
      | [] => none
      | _ :: r => some [(q, st.length, r)]) = some l := p2
    cases z : e.b with
    | nil => rw [z] at p2'; cases p2'
    | cons g r =>
      rw [z] at p2' hB p1
      have e1 : [(q, st.length, r)] = l := Option.some.inj p2'
      subst e1
      have t1 := hl _ List.mem_cons_self
      have e2 : x0 C e q 87 a st = .inr (e.H, e.n, e.G, (e.c, q, st, e.L, e.b.tail) :: e.t, none) := rfl
      rw [e2, z]
      have fl : flr r ≤ st.length := by
        have f1 : g.1 ≤ st.length := p1
        have f2 : flr r ≤ g.1 := hB.2.1
        omega
      exact ⟨h1, xLe.refl h1, h3, ⟨Nat.succ_le_succ h5, ⟨h4, ⟨T, hT, t1, hB.2.2.1⟩, fl, hs, h6⟩, h7⟩, fun z => by cases z⟩
  · have ht : tkW 102 a = some a := rfl
    obtain ⟨p1, p2, p3⟩ := sc_pl (k := st.length - a + 1) (t := a) (g := 1) ht rfl (fun _ _ => rfl) hsc hl rfl
    show xOutOk C nc K e.H (xTp e q (st.take a) (st.drop a))
    unfold xTp
    by_cases z : xMax e.H (st.take a) = 4
    · rw [if_pos z]; exact Nat.le_refl 6
    · rw [if_neg z]
      have hlen : (st.take a).length = a := by rw [List.length_take]; omega
      have a10 : a ≤ 10 := hag.2.2.2.1 (Or.inl rfl)
      refine xMk_ok h hT hB (by rw [List.length_drop]; exact p1) (by rw [List.length_drop]; exact p2) (fun v hv => hs v (List.mem_of_mem_drop hv)) ⟨?_, ?_, ?_, fun v hv => hs v (List.mem_of_mem_take (List.mem_reverse.mp hv))⟩
      · show (st.take a).reverse.length ≤ 12
        rw [List.length_reverse, hlen]; omega
      · show xMax e.H (st.take a) + 1 = xMax e.H (st.take a).reverse + 1
        rw [xMax_reverse]
      · show xMax e.H (st.take a) + 1 ≤ 4
        have := xMax_le h1 (st.take a)
        omega
  · have ht : tkW 131 a = some (a + 1) := rfl
    obtain ⟨p1, p2, p3⟩ := sc_pl (k := st.length - (a + 1) + 1) (t := a + 1) (g := 1) ht rfl (fun _ _ => rfl) hsc hl rfl
    show xOutOk C nc K e.H (xCall C e q a (st.take a) (st.drop (a + 1)) (st.getD a 0))
    have hd : ∀ v ∈ st.drop (a + 1), xOk nc e.H v := fun v hv => hs v (List.mem_of_mem_drop hv)
    have mk : ∀ o, xObOk nc K e.H o → xOutOk C nc K e.H (xMk e q (st.drop (a + 1)) o) := fun o ho => xMk_ok h hT hB (by rw [List.length_drop]; exact p1) (by rw [List.length_drop]; exact p2) hd ho
    unfold xCall
    by_cases z : st.getD a 0 = 3
    · rw [if_pos z]
      by_cases z2 : 3 < a
      · rw [if_pos z2]; exact Nat.zero_le _
      · rw [if_neg z2]
        cases y : xNums e.H (st.take a) with
        | none => exact Nat.zero_le _
        | some k =>
          show xOutOk C nc K e.H (xRange e q (st.drop (a + 1)) k)
          unfold xRange
          match k with
          | [] => exact Nat.zero_le _
          | b :: k =>
            dsimp only
            by_cases z3 : (b :: k).all xFit = true
            · rw [if_pos z3]
              match k, z3 with
              | [], z3 =>
                simp only [List.all_cons, List.all_nil, Bool.and_eq_true, Bool.and_true] at z3
                exact mk _ ⟨rfl, z3, rfl, fun w => absurd (show (1 : Int) = 0 from w) (by decide)⟩
              | [c], z3 =>
                simp only [List.all_cons, List.all_nil, Bool.and_eq_true, Bool.and_true] at z3
                exact mk _ ⟨z3.2, z3.1, rfl, fun w => absurd (show (1 : Int) = 0 from w) (by decide)⟩
              | [c, d], z3 =>
                simp only [List.all_cons, List.all_nil, Bool.and_eq_true, Bool.and_true] at z3
                dsimp only
                by_cases z4 : b = 0
                · rw [if_pos z4]; exact (by decide : 3 ≤ 6)
                · rw [if_neg z4]; exact mk _ ⟨z3.2.2, z3.2.1, z3.1, z4⟩
              | _ :: _ :: _ :: _, z3 => exact Nat.zero_le _
            · rw [if_neg z3]; exact Nat.le_refl 6
    · rw [if_neg z]
      cases y : e.H (st.getD a 0) with
      | none => exact Nat.zero_le _
      | some o =>
        match o, y with
        | .inl _, _ => exact Nat.zero_le _
        | .inr (.inl _), _ => exact Nat.zero_le _
        | .inr (.inr (.inl _)), _ => exact Nat.zero_le _
        | .inr (.inr (.inr (.inl _))), _ => exact Nat.zero_le _
        | .inr (.inr (.inr (.inr c))), y =>
          dsimp only
          have hc : c < nc := (h1.2 _ _ y).2.2
          by_cases z2 : cdA (C c).1 = a
          · rw [if_pos z2]
            by_cases z3 : e.t.length = 7
            · rw [if_pos z3]; exact (by decide : 5 ≤ 6)
            · rw [if_neg z3]
              obtain ⟨o1, ⟨T', oT⟩, -⟩ := h2 c hc
              refine ⟨h1, xLe.refl h1, h3, ⟨?_, ⟨hc, ⟨T', oT, oT.1, trivial⟩, Nat.le_refl _, (fun v hv => by cases hv), fun i v hv => ?_⟩, fun g hg => ?_⟩, fun z => by cases z⟩
              · show e.t.length + 1 + 1 ≤ 8
                omega
              · have hv' : (st.take a).reverse[i]? = some v := hv
                have hi := (List.getElem?_eq_some_iff.mp hv').1
                have hm := List.mem_of_getElem? hv'
                rw [List.length_reverse, List.length_take] at hi
                have := o1.2.1
                exact ⟨by show i < cdL (C c).1; omega, hs v (List.mem_of_mem_take (List.mem_reverse.mp hm))⟩
              · rcases List.mem_cons.mp hg with z | z
                · rw [z]
                  refine ⟨h4, ⟨T, hT, ?_, hB⟩, ?_, hd, h6⟩
                  · show T q = some ((st.drop (a + 1)).length + 1, e.b)
                    rw [List.length_drop]; exact p1
                  · show flr e.b ≤ (st.drop (a + 1)).length
                    rw [List.length_drop]; omega
                · exact h7 g z
          · rw [if_neg z2]; exact Nat.zero_le _
end XWI
