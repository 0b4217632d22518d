/-! the class reads: a code begins, a code is done -/
section CF
variable {x e nc K op : Nat} {b : Nat → Nat} {O : Nat → Prop} {S S' : ox_St} {s s' : oTS} {α α' : Int → Nat} {h : pH}
theorem cG.bg (g : cG x b e nc K op O S s α h) : cG x b e nc K (op + 1) O S s α h.bg := by
  obtain ⟨t1, b1, ⟨g1, g2, g3, g4, g5, g6, g7, g8⟩, l1, l2, l3, l4, l5⟩ := g
  refine ⟨t1, b1, ⟨g1, g2, g3, g4, g5, xHOk.nc g6 (Nat.le_succ _), g7, g8⟩, l1, fun c hc => Nat.lt_succ_of_lt (l2 c hc), ?_, ?_, ?_⟩
  · show nc ≤ h.c + 1; omega
  · show h.l.length + nc + (op + 1) ≤ h.c + 1; omega
  · show 9 * (h.c + 1) ≤ 9 * nc + 9 * (op + 1) + s.1; omega
theorem cG.c0 (g : cG x b e nc K op O S s α h) {c : Nat} (h1 : nc ≤ c) (h2 : c ∉ h.l) : α (-1 - (c : Int)) = 0 := by
  have hk := g.2.2.1.2.2.2.2.2.1
  refine Classical.byContradiction fun z => ?_
  rcases (g.2.2.1.2.2.2.1 _ z).2 with ⟨c', y, y'⟩ | y
  · have : c' = c := by omega
    rw [this] at y'
    rcases y' with w | w
    · omega
    · exact h2 w
  · cases e : h.H (-1 - (c : Int)) with
    | none => exact y e
    | some o => have := (hk.2 _ o e).1; omega
theorem cG.fin (g : cG x b e nc K (op + 1) O S s α h) {c a : Nat} {κ : xCd} (hc1 : nc ≤ c) (hc2 : c < h.c) (hc3 : c ∉ h.l) (f : prV x S S') (t : tpS S' x b e s') (ls : oLs S' (x + 2) (h.l.length + 1) (fun j => if j = h.l.length then a else α (-1 - ((h.l.getD j 0 : Nat) : Int)))) (ha : x + 119 ≤ a) (ha' : a < S.n) (hfr : ∀ v, α v ≠ a) (ho : cCd S x (aU α (-1 - (c : Int)) a) (fun i => if i = c then κ else h.C i) c) (hrow : ¬ O (S.R 11 a)) (h9 : 9 * h.c ≤ 9 * nc + 9 * op + s'.1) : cG x b e nc K op O S' s' (aU α (-1 - (c : Int)) a) (h.fin c κ) ∧ vC S' x (aU α (-1 - (c : Int)) a) (-1 - (c : Int)) a := by
  have n0 := g.c0 hc1 hc3
  obtain ⟨t1, b1, g', l1, l2, l3, l4, l5⟩ := g
  obtain ⟨g1, g2, g3, g4, g5, g6, g7, g8⟩ := g'
  have hn := f.1
  have un : aU α (-1 - (c : Int)) a (-1 - (c : Int)) = a := if_pos rfl
  have uo : ∀ v, v ≠ -1 - (c : Int) → aU α (-1 - (c : Int)) a v = α v := fun v hv => if_neg hv
  have uc : ∀ i : Nat, i ≠ c → aU α (-1 - (c : Int)) a (-1 - (i : Int)) = α (-1 - (i : Int)) := fun i hi => uo _ (by omega)
  have le : ∀ u, (u < 0 ∨ 11 ≤ u) → α u ≠ 0 → aU α (-1 - (c : Int)) a u = α u := fun u _ hu => uo u (fun z => hu (by rw [z]; exact n0))
  have fC : ∀ i, i ≠ c → (h.fin c κ).C i = h.C i := fun i hi => if_neg hi
  have fl : (h.fin c κ).l = h.l ++ [c] := rfl
  have dn : ∀ i, cDn nc (h.fin c κ) i → (i = c) ∨ (i ≠ c ∧ cDn nc h i) := fun i hi => by
    by_cases z : i = c
    · exact Or.inl z
    · refine Or.inr ⟨z, hi.imp id (fun y => ?_)⟩
      rw [fl] at y
      rcases List.mem_append.mp y with w | w
      · exact w
      · exact absurd (List.mem_singleton.mp w) z
  have dn' : ∀ i, cDn nc h i → i ≠ c ∧ cDn nc (h.fin c κ) i := fun i hi => by
    refine ⟨fun z => ?_, hi.imp id (fun y => List.mem_append_left _ y)⟩
    rcases hi with w | w
    · omega
    · exact hc3 (z ▸ w)
  have hcu : (h.fin c κ).C c = κ := if_pos rfl
  refine ⟨⟨t, b1.pr f, ⟨fun v o e => ?_, fun i hi => ?_, fun u v hu e => ?_, fun v hv => ?_, g5, g6, fun v q e => ?_, fun i hi => ?_⟩, ?_, fun i hi => ?_, l3, ?_, h9⟩, by omega, by omega, Or.inr (Or.inr ha), Or.inl ⟨by omega, un.symm⟩⟩
  · have hv := (g6.2 v o e).1
    exact (g1 v o e).pr f (uo v (by omega)) (fun u _ => le u) (fun i hi => by
      have := g5 v i (by rw [← hi]; exact e)
      exact ⟨uc i (by omega), fC i (by omega)⟩)
  · rcases dn i hi with z | ⟨z1, z2⟩
    · rw [z]; exact ho.pr f rfl rfl (fun _ _ _ _ => rfl)
    · exact (g2 i z2).pr f (uc i z1) (fC i z1) (fun u _ => le u)
  · by_cases c1 : u = -1 - (c : Int)
    · by_cases c2 : v = -1 - (c : Int)
      · rw [c1, c2]
      · rw [c1, un, uo v c2] at e; exact absurd e.symm (hfr v)
    · by_cases c2 : v = -1 - (c : Int)
      · rw [c2, un, uo u c1] at e; exact absurd e (hfr u)
      · rw [uo u c1] at e hu; rw [uo v c2] at e; exact g3 u v hu e
  · by_cases c1 : v = -1 - (c : Int)
    · rw [c1, un]
      exact ⟨by omega, Or.inl ⟨c, rfl, Or.inr (List.mem_append_right _ (List.mem_singleton.mpr rfl))⟩⟩
    · rw [uo v c1] at hv ⊢
      obtain ⟨k1, k2⟩ := g4 v hv
      exact ⟨by omega, k2.imp (fun ⟨i, y1, y2⟩ => ⟨i, y1, (dn' i y2).2⟩) id⟩
  · have hv := (g6.2 v _ e).1
    obtain ⟨k1, k2, u, k3, -⟩ := g1 v _ e
    rw [uo v (by omega), (f.at k2 (by omega) (by omega) (by rw [k3.1]; decide)).2.2.2.1 56]
    exact g7 v q e
  · rcases dn i hi with z | ⟨z1, z2⟩
    · obtain ⟨k1, k2, k3, -⟩ := id ho
      rw [un] at k1 k2 k3
      rw [z, un, (f.at k2 (by omega) (by omega) (by rw [k3.1]; decide)).2.2.2.1 11]
      exact hrow
    · obtain ⟨k1, k2, k3, -⟩ := g2 i z2
      rw [uc i z1, (f.at k2 (by omega) (by omega) (by rw [k3.1]; decide)).2.2.2.1 11]
      exact g8 i z2
  · have el : (h.fin c κ).l.length = h.l.length + 1 := by rw [fl, List.length_append]; rfl
    rw [el]
    obtain ⟨m1, m2, m3, m4⟩ := ls
    refine ⟨m1, m2, m3, m4.imp id (fun ⟨z1, z2, z3, z4, z5⟩ => ⟨z1, z2, z3, z4, fun j hj => ?_⟩)⟩
    rw [z5 j hj]
    show (if j = h.l.length then a else α (-1 - ((h.l.getD j 0 : Nat) : Int))) = aU α (-1 - (c : Int)) a (-1 - (((h.l ++ [c]).getD j 0 : Nat) : Int))
    by_cases z : j = h.l.length
    · rw [if_pos z, z, List.getD_eq_getElem?_getD, List.getElem?_append_right (Nat.le_refl _), Nat.sub_self]
      exact un.symm
    · have hj' : j < h.l.length := by omega
      rw [if_neg z, List.getD_eq_getElem?_getD (l := h.l ++ [c]), List.getElem?_append_left hj', ← List.getD_eq_getElem?_getD]
      refine (uc _ (fun y => hc3 ?_)).symm
      rw [← y, List.getD_eq_getElem?_getD, List.getElem?_eq_getElem hj']
      exact List.getElem_mem hj'
  · rw [fl] at hi
    rcases List.mem_append.mp hi with w | w
    · exact l2 i w
    · rw [List.mem_singleton.mp w]; exact hc2
  · show (h.l ++ [c]).length + nc + op ≤ h.c
    rw [List.length_append]
    show h.l.length + 1 + nc + op ≤ h.c
    omega
end CF
