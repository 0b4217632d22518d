/-! the reference reads: close -/
section C9
variable {sp : ox_E} {d mr sr : Nat} {Q : ox_Q} {i : rFi} {U Y A : ox_St} {s s' : oTS} {γ : Int → Nat} {B : List Int} {T : Nat} {h : pH} {O : List rRc} {Bn Kn Wn c ph : Nat} {its : List Int} {cd : Option Nat}
/-- the values at the top -/
theorem rG.top {n r : Nat} (g : rG i U s γ B T h ((r, its, cd, ph) :: O) Bn Kn Wn n) (j : Nat) (hj : j < its.length) : U.rI (i.m + 34) ((rVp O).length + j) = gV γ (its.reverse.getD j 0) ∧ xOk h.c h.H (its.reverse.getD j 0) ∧ xIn B (its.reverse.getD j 0) := by
  obtain ⟨g1, g2, g3, ⟨g4a, g4b, g4e, g4f⟩, -⟩ := g
  have ev : rVp ((r, its, cd, ph) :: O) = its ++ rVp O := rfl
  rw [ev] at g4e g4f
  have el : (its ++ rVp O).length = its.length + (rVp O).length := List.length_append
  have eg : its.reverse.getD j 0 = (its ++ rVp O).getD ((its ++ rVp O).length - 1 - ((rVp O).length + j)) 0 := by
    rw [List.getD_eq_getElem?_getD, List.getD_eq_getElem?_getD, List.getElem?_reverse hj, List.getElem?_append_left (by omega), show (its ++ rVp O).length - 1 - ((rVp O).length + j) = its.length - 1 - j by omega]
  have mem : its.reverse.getD j 0 ∈ its := by
    rw [List.getD_eq_getElem?_getD, List.getElem?_eq_getElem (by rw [List.length_reverse]; exact hj)]
    exact List.mem_reverse.mp (List.getElem_mem _)
  refine ⟨?_, g4f _ (List.mem_append_left _ mem)⟩
  rw [eg]
  exact rVs.at _ _ (by omega) g4e
/-- a tuple is taken off -/
theorem rG.pop {n r : Nat} (g : rG i U s γ B T h ((r, its, none, ph) :: O) Bn Kn Wn n) (hK : A.K = U.K) (hl : A.len = U.len) (hn : A.n = U.n) (hR : A.R = U.R) (hJ : A.J = U.J) (hrR : A.rR = U.rR) (hr : A.rI = U.rI) (hrJ : A.rJ = U.rJ) (hI : ∀ F a, (a ≠ i.m ∨ (F ≠ 122 ∧ F ≠ 123)) → A.I F a = U.I F a) (i122 : A.I 122 i.m = nI O.length) (i123 : A.I 123 i.m = nI (rVp O).length) : rG i A s γ B T h O Bn Kn Wn n := by
  obtain ⟨g1, g2, ⟨g3, g3a, g3b⟩, ⟨⟨g4a, g4b, g4c⟩, g4d, g4e, g4f⟩, ⟨⟨g5a, g5b, g5c, g5d⟩, g5e, g5f, g5g⟩, ⟨g6a, g6b⟩, ⟨g7a, g7c, g7d, g7b⟩, g8, g9⟩ := g
  have eo : ((r, its, none, ph) :: O : List rRc).length = O.length + 1 := rfl
  have ev : rVp ((r, its, none, ph) :: O) = its ++ rVp O := rfl
  rw [ev] at g4e g4f
  rw [eo] at g9 g4b
  have eI : ∀ F, F ≠ 122 ∧ F ≠ 123 → A.I F i.m = U.I F i.m := fun F hF => hI F i.m (Or.inr hF)
  have hr' : ∀ a z, A.rI a z = U.rI a z := fun a z => by rw [hr]
  refine ⟨?_, ?_, ⟨g3.next (fun j _ => by rw [hr]), (eI 75 (by omega)).trans g3a, g3b⟩, ⟨⟨i122, by omega, g4c.2.2.2.2.row _ (fun o j _ _ _ => by rw [hr])⟩, i123, (rVs.app its g4e).row _ (fun j _ => by rw [hr]) (fun _ _ => rfl), fun v hv => g4f v (List.mem_append_right _ hv)⟩, ⟨⟨(eI 76 (by omega)).trans g5a, (eI 86 (by omega)).trans g5b, (eI 87 (by omega)).trans g5c, (eI 88 (by omega)).trans g5d⟩, fun z hz ho => ?_, fun x hx z hz => ?_, g5g.2⟩, ⟨(eI 124 (by omega)).trans g6a, fun j hj => (hr' _ _).trans (g6b j hj)⟩, ⟨fun z hz => ⟨(g7a z hz).1, fun r hr => (g7a z hz).2 r (List.mem_cons_of_mem _ hr)⟩, fun r hr => g7c r (List.mem_cons_of_mem _ hr), (by have g7d' : i.q.1 + h.l.length + (0 + rOn O) ≤ h.c := g7d; omega), by rw [hr]; exact g7b⟩, g8, ?_⟩
  · obtain ⟨a1, a2, a3, a4, a5, a6⟩ := g1
    exact ⟨a1.next hK hl (fun F => by rw [hR]), (eI 121 (by omega)).trans a2, a3, fun z => by rw [eI 120 (by omega), eI 132 (by omega), eI 70 (by omega)]; exact a4 z, fun v hv => by rw [eI 132 (by omega), eI 70 (by omega)]; exact a5 v hv, fun j hj => by rw [hr]; exact a6 j hj⟩
  · exact g2.trans ⟨hK, hl, hn, hR, hJ, hrR, fun F a z => hI F a (z.imp id (fun y => by unfold kRf at y; omega)), fun a _ => by rw [hr], fun o z _ _ _ => hr' _ _, fun z _ => hr' _ _, fun z _ => hr' _ _, fun z _ => hr' _ _, fun a _ => by rw [hrJ], fun z _ => by rw [hrJ]⟩
  · obtain ⟨k1, k2⟩ := g5e z hz (fun x hx => by
      rcases List.mem_cons.mp hx with y | y
      · rw [y]; exact fun w => by cases w
      · exact ho x y)
    exact ⟨k1.next (fun o _ _ => hr' _ _) (fun _ _ => hr' _ _) (fun _ _ => hr' _ _) (fun _ _ => by rw [hrJ]) (fun _ _ => rfl) (Nat.le_refl _) (Nat.le_refl _) (Nat.le_refl _), k2⟩
  · obtain ⟨k1, k2⟩ := g5f x (List.mem_cons_of_mem _ hx) z hz
    exact ⟨k1, k2.next (fun o _ _ => hr' _ _) (fun _ _ => hr' _ _) (Nat.le_refl _)⟩
  · obtain ⟨⟨x1, x2⟩, ⟨x3, x4⟩, ⟨x5, x6⟩, ⟨x7, x8⟩, ⟨x9, x10⟩, x11⟩ := g9
    exact ⟨⟨x1, x2⟩, ⟨x3, x4⟩, ⟨x5, by omega⟩, ⟨x7, x8⟩, ⟨x9, by omega⟩, by omega⟩
theorem mtS.nw1 {m ce e : Nat} {b : Nat → Nat} {S S' : ox_St} (h : mtS S m ce b e s) (f : mNw m ce T S S') : mtS S' m ce b e s := by
  have c23 := h.1.2.2.1
  obtain ⟨f1, f2, f3, f4, f5, f6, f7, f8, f9, f10⟩ := f
  obtain ⟨a1, a2, a3, a4, a5, a6⟩ := h
  have eI : ∀ F, F ≠ 75 ∧ (F < 113 ∨ 119 < F) → S'.I F m = S.I F m := fun F hF => f8 F m (Or.inr hF)
  exact ⟨a1.next f1 f2 (fun F => by rw [f4]), (eI 121 (by omega)).trans a2, a3, fun z => by rw [eI 120 (by omega), eI 132 (by omega), eI 70 (by omega)]; exact a4 z, fun v hv => by rw [eI 132 (by omega), eI 70 (by omega)]; exact a5 v hv, fun j hj => by rw [f9 _ (by omega) (by omega)]; exact a6 j hj⟩
/-- a tuple of the values at the top -/
theorem rG.tup {n r : Nat} (g : rG i U s γ B T h ((r, its, none, ph) :: O) Bn Kn Wn (rVp ((r, its, none, ph) :: O)).length) (gA : rG i A s γ B T h O Bn Kn Wn n) (hok : xObOk h.c i.K h.H (h.tp its.reverse)) (f : mNw i.m i.ce T A Y) (h75 : Y.I 75 i.m = nI (T + 3 + its.reverse.length)) (ht : mTpl Y (i.m + i.ce) T its.reverse.length (xMax h.H its.reverse + 1) (fun j => gV γ (its.reverse.getD j 0)) its.reverse.length) (lm : rLm i.q i.e) (hs : s.2 = none) : rG i Y s (upA γ h.n T) (h.n :: B) (T + xSz (h.tp its.reverse)) (h.nw (h.tp its.reverse)) O Bn Kn Wn ((rVp O).length + 1) := by
  have sz : xSz (h.tp its.reverse) = 3 + its.reverse.length := rfl
  have lr : its.reverse.length = its.length := List.length_reverse
  have T16 : 16 ≤ T := gA.2.2.1.1.2.2.2.1
  have hH := gA.2.2.1.2.2
  have hp := gA.2.2.1.1
  have pe : s.1 ≤ i.e := (gA.1.2.2.2.1 hs).2.2.1
  have g9 := g.2.2.2.2.2.2.2.2
  have ev : rVp ((r, its, none, ph) :: O) = its ++ rVp O := rfl
  have el : (its ++ rVp O).length = its.length + (rVp O).length := List.length_append
  have eo : ((r, its, none, ph) :: O : List rRc).length = O.length + 1 := rfl
  rw [ev, el, eo] at g9
  obtain ⟨⟨x1, x2⟩, ⟨x3, x4⟩, ⟨x5, x6⟩, ⟨x7, x8⟩, ⟨x9, x10⟩, x11⟩ := g9
  obtain ⟨y1, y2, y3, y4, y5⟩ := lm
  have inB : ∀ v ∈ its.reverse, xIn B v := fun v hv => (g.2.2.2.1.2.2.2 v (List.mem_append_left _ (List.mem_reverse.mp hv))).2
  have en : upA γ h.n T h.n = T := if_pos rfl
  obtain ⟨t1, t2, t3, t4⟩ := ht
  refine gA.obj f.mp (gA.1.nw1 f) (by rw [sz, h75]; exact congrArg nI (by omega)) ⟨by rw [en]; exact T16, ?_⟩ inB hok (by rw [sz]; omega) ?_
  · rw [en]
    refine ⟨t1, t2, t3, fun j hj => ?_⟩
    have hj' : j < its.reverse.length := hj
    show Y.rI (i.m + i.ce) (T + 3 + j) = gV (upA γ h.n T) (its.reverse.getD j 0)
    rw [gV_new (hp.lt hH (inB _ (by rw [List.getD_eq_getElem?_getD, List.getElem?_eq_getElem hj']; exact List.getElem_mem hj')))]
    exact t4 j hj'
  · rw [sz]
    exact ⟨⟨x1, x2⟩, ⟨x3, x4⟩, ⟨x5, by omega⟩, ⟨x7, x8⟩, ⟨by omega, by omega⟩, by omega⟩
end C9
