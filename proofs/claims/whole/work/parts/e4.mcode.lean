/-! the reference reads: a code is read to its end -/
theorem gV_cd {γ : Int → Nat} (c : Nat) : gV γ (-1 - (c : Int)) = (-1) - nI c := by
  unfold gV
  rw [if_pos (by omega), Int32.ofInt_sub, Int32.ofInt_eq_ofNat]
  rfl
theorem rVs.app {U : ox_St} {m : Nat} {γ : Int → Nat} {W : List Int} : ∀ (A : List Int), rVs U m γ (A ++ W) → rVs U m γ W
  | [], h => h
  | _ :: A, h => rVs.app A h.2
theorem clF.trans {m c Kn Wn L : Nat} {S U V : ox_St} (h : clF m c Kn Wn L S U) (g : clF m c Kn Wn L U V) : clF m c Kn Wn L S V := by
  obtain ⟨h1, h2, h3, h4, h5, h6, h7, h8, h9, ha, hb, hc, hd⟩ := h
  obtain ⟨g1, g2, g3, g4, g5, g6, g7, g8, g9, ga, gb, gc, gd⟩ := g
  exact ⟨g1.trans h1, g2.trans h2, g3.trans h3, g4.trans h4, g5.trans h5, g6.trans h6, fun F a z => (g7 F a z).trans (h7 F a z), fun a z => (g8 a z).trans (h8 a z), fun o z z1 z2 z3 => (g9 o z z1 z2 z3).trans (h9 o z z1 z2 z3), fun z y => (ga z y).trans (ha z y), fun z y => (gb z y).trans (hb z y), fun a z => (gc a z).trans (hc a z), fun z y => (gd z y).trans (hd z y)⟩
section CE
variable {i : rFi} {U Y : ox_St} {s s' : oTS} {γ : Int → Nat} {B : List Int} {T : Nat} {h : pH} {O : List rRc} {Bn Kn Wn c ph : Nat} {its : List Int}
theorem rG.code (g : rG i U s γ B T h ((0, its, some c, ph) :: O) Bn Kn Wn (rVp ((0, its, some c, ph) :: O)).length) (lm : rLm i.q i.e) (hs : s.2 = none) (cl : clF i.m c Kn Wn h.l.length U Y) (mt : mtS Y i.m i.ce i.b i.e s') (i122 : Y.I 122 i.m = nI O.length) (i123 : Y.I 123 i.m = nI (rVp O).length) (i87 : Y.I 87 i.m = nI (Kn + its.length)) (i88 : Y.I 88 i.m = nI (Wn + i.b s.1)) (i124 : Y.I 124 i.m = nI (h.l.length + 1)) (r9 : Y.rI (i.m + 9) c = nI Kn) (r10 : Y.rI (i.m + 10) c = nI its.length) (r11 : Y.rI (i.m + 11) c = nI Wn) (r12 : Y.rI (i.m + 12) c = nI (i.b s.1)) (r14 : ∀ j, j < its.length → Y.rI (i.m + 14) (Kn + j) = gV γ (its.reverse.getD j 0)) (r35 : Y.rI (i.m + 35) h.l.length = nI c) (rJ : ∀ j, j < i.b s.1 → Y.rJ (i.m + 15) (Wn + j) = lN (nmV i.b ((nmN i.b i.e (s.1 + 1, none) j).1 + 1) (nmL i.b i.e (nmN i.b i.e (s.1 + 1, none) j)))) (h12 : its.length ≤ 12) (hb12 : i.b s.1 ≤ 12) (hp : s.1 + 1 + i.b s.1 ≤ s'.1) : rG i Y s' γ B T (h.fin c (cdAt i.b i.e ph its.reverse s.1)) O Bn (Kn + its.length) (Wn + i.b s.1) ((rVp O).length + 1) := by
  have c23 := g.c23
  obtain ⟨g1, g2, ⟨g3, g3a, g3b⟩, ⟨⟨g4a, g4b, g4c⟩, g4d, g4e, g4f⟩, ⟨⟨g5a, g5b, g5c, g5d⟩, g5e, g5f, g5g⟩, ⟨g6a, g6b⟩, ⟨g7a, g7c, g7d, g7b⟩, g8, g9⟩ := g
  have lr : its.reverse.length = its.length := List.length_reverse
  have ev : rVp ((0, its, some c, ph) :: O) = its ++ rVp O := rfl
  rw [ev] at g4d g4e g4f g9
  have el : (its ++ rVp O).length = its.length + (rVp O).length := List.length_append
  have eo : ((0, its, some c, ph) :: O : List rRc).length = O.length + 1 := rfl
  rw [el, eo] at g9
  rw [eo] at g4b
  obtain ⟨⟨x1, x2⟩, ⟨x3, x4⟩, ⟨x5, x6⟩, ⟨x7, x8⟩, ⟨x9, x10⟩, x11⟩ := g9
  obtain ⟨y1, y2, y3, y4, y5⟩ := lm
  have pe : s.1 ≤ i.e := (g1.2.2.2.1 hs).2.2.1
  have hby : ∀ j, j < i.e → i.b j < 256 := fun j hj => (g1.2.2.2.2.2 j hj).2
  have eI : ∀ F, clI F → Y.I F i.m = U.I F i.m := fun F hF => cl.2.2.2.2.2.2.1 F i.m (Or.inr hF)
  have er : ∀ a, clR i.m a → Y.rI a = U.rI a := cl.2.2.2.2.2.2.2.1
  have e9 : ∀ o z, 9 ≤ o → o ≤ 12 → z ≠ c → Y.rI (i.m + o) z = U.rI (i.m + o) z := cl.2.2.2.2.2.2.2.2.1
  have e14 : ∀ z, z < Kn → Y.rI (i.m + 14) z = U.rI (i.m + 14) z := cl.2.2.2.2.2.2.2.2.2.1
  have e35 : ∀ z, z < h.l.length → Y.rI (i.m + 35) z = U.rI (i.m + 35) z := cl.2.2.2.2.2.2.2.2.2.2.1
  have eJ : ∀ z, z < Wn → Y.rJ (i.m + 15) z = U.rJ (i.m + 15) z := cl.2.2.2.2.2.2.2.2.2.2.2.2
  obtain ⟨cc, hw⟩ := g5f _ List.mem_cons_self c rfl
  obtain ⟨hd0, gg, ⟨w4, w5, w6, w7, w8⟩, w13, wB⟩ := hw
  have wB' : gg + inL i.b i.e (ph + 3, none) ≤ Bn := wB
  have no : ∀ r ∈ O, r.2.2.1 ≠ some c := g5g.1 c rfl
  have C1 : (h.fin c (cdAt i.b i.e ph its.reverse s.1)).C c = cdAt i.b i.e ph its.reverse s.1 := if_pos rfl
  have C2 : ∀ z, z ≠ c → (h.fin c (cdAt i.b i.e ph its.reverse s.1)).C z = h.C z := fun z hz => if_neg hz
  have mem : ∀ j, j < its.length → its.reverse.getD j 0 ∈ its := fun j hj => by
    rw [List.getD_eq_getElem?_getD, List.getElem?_eq_getElem (by omega)]
    exact List.mem_reverse.mp (List.getElem_mem _)
  have r4 : ∀ o z, 4 ≤ o → o ≤ 8 → Y.rI (i.m + o) z = U.rI (i.m + o) z := fun o z z1 z2 => by rw [er _ (by unfold clR; omega)]
  have new : rCw Y i.m γ (h.fin c (cdAt i.b i.e ph its.reverse s.1)).C c Bn (Kn + its.length) (Wn + i.b s.1) := by
    unfold rCw
    rw [C1]
    refine ⟨gg, Kn, Wn, ⟨⟨(r4 4 c (by omega) (by omega)).trans w4, (r4 5 c (by omega) (by omega)).trans w5, (r4 6 c (by omega) (by omega)).trans w6⟩, ⟨(r4 7 c (by omega) (by omega)).trans w7, (r4 8 c (by omega) (by omega)).trans w8, fun p hp => ?_⟩, ⟨?_, r12⟩, ?_, by omega, hdK_ok hd0 hby (by omega) hb12⟩, wB, ⟨r9, ?_, fun j hj => r14 j (by have : j < its.reverse.length := hj; omega)⟩, r11, ?_, fun j hj => ?_⟩
    · have hp' : p < inL i.b i.e (ph + 3, none) := hp
      rw [er _ (by unfold clR; omega), w13 p hp']
      exact congrArg nI (if_pos hp').symm
    · show Y.rI (i.m + 10) c = nI its.reverse.length
      rw [lr]; exact r10
    · show gg + inL i.b i.e (ph + 3, none) ≤ 2100
      omega
    · show Kn + its.reverse.length ≤ Kn + its.length
      omega
    · show Wn + (nmT i.b i.e (s.1 + 1, none) (i.b s.1)).length ≤ Wn + i.b s.1
      rw [nmT_len]
      exact Nat.le_refl _
    · have hj' : j < (nmT i.b i.e (s.1 + 1, none) (i.b s.1)).length := hj
      rw [nmT_len] at hj'
      show Y.rJ (i.m + 15) (Wn + j) = lN ((nmT i.b i.e (s.1 + 1, none) (i.b s.1)).getD j 0)
      rw [nmT_at _ j hj']
      exact rJ j hj'
  refine ⟨mt, g2.trans (cl.kR c23 (g7c _ List.mem_cons_self c rfl) x5 x7), ⟨g3.next (fun j _ => by rw [er _ (by unfold clR; omega)]), (eI 75 (by unfold clI; omega)).trans g3a, g3b⟩, ⟨⟨i122, by omega, g4c.2.2.2.2.row _ (fun o j z1 z2 _ => by rw [er _ (by unfold clR; omega)])⟩, i123, ?_, fun v hv => g4f v (List.mem_append_right _ hv)⟩, ⟨⟨(eI 76 (by unfold clI; omega)).trans g5a, (eI 86 (by unfold clI; omega)).trans g5b, i87, i88⟩, fun z hz ho => ?_, fun r hr z hz => ?_, g5g.2⟩, ⟨?_, fun j hj => ?_⟩, ⟨fun z hz => ?_, fun r hr => g7c r (List.mem_cons_of_mem _ hr), ?_, fun j j1 j2 => ?_⟩, g8, ?_⟩
  · exact (rVs.app its g4e).row _ (fun j _ => by rw [er _ (by unfold clR; omega)]) (fun _ _ => rfl)
  · by_cases zc : z = c
    · rw [zc]
      refine ⟨new, fun v hv => ?_⟩
      rw [C1] at hv
      have hv' : v ∈ its.reverse := hv
      exact (g4f v (List.mem_append_left _ (List.mem_reverse.mp hv'))).2
    · obtain ⟨k1, k2⟩ := g5e z hz (fun r hr => by
        rcases List.mem_cons.mp hr with y | y
        · rw [y]; exact fun w => zc (Option.some.inj w).symm
        · exact ho r y)
      have e1 : rCw Y i.m γ h.C z Bn (Kn + its.length) (Wn + i.b s.1) := k1.next (fun o z1 z2 => by
        by_cases w : 9 ≤ o
        · exact e9 o z w z2 zc
        · exact r4 o z z1 (by omega)) (fun _ _ => by rw [er _ (by unfold clR; omega)]) e14 eJ (fun _ _ => rfl) (Nat.le_refl _) (by omega) (by omega)
      refine ⟨?_, by rw [C2 z zc]; exact k2⟩
      unfold rCw at e1 ⊢
      rw [C2 z zc]
      exact e1
  · obtain ⟨k1, k2⟩ := g5f r (List.mem_cons_of_mem _ hr) z hz
    exact ⟨k1, k2.next (fun o z1 z2 => r4 o z z1 z2) (fun _ _ => by rw [er _ (by unfold clR; omega)]) (Nat.le_refl _)⟩
  · show Y.I 124 i.m = nI (h.l ++ [c]).length
    rw [List.length_append]; exact i124
  · have hj' : j < (h.l ++ [c]).length := hj
    rw [List.length_append] at hj'
    have hj2 : j < h.l.length + 1 := hj'
    show Y.rI (i.m + 35) j = nI ((h.l ++ [c]).getD j 0)
    rw [List.getD_eq_getElem?_getD, List.getElem?_append]
    by_cases w : j < h.l.length
    · rw [if_pos w, ← List.getD_eq_getElem?_getD, e35 j w]; exact g6b j w
    · have ej : j = h.l.length := by omega
      rw [if_neg w, ej, Nat.sub_self]; exact r35
  · rcases List.mem_append.mp hz with y | y
    · exact ⟨(g7a z y).1, fun r hr => (g7a z y).2 r (List.mem_cons_of_mem _ hr)⟩
    · rw [List.mem_singleton.mp y]; exact ⟨cc, no⟩
  · have g7d' : i.q.1 + h.l.length + (1 + rOn O) ≤ h.c := g7d
    show i.q.1 + (h.l ++ [c]).length + rOn O ≤ h.c
    rw [List.length_append]
    show i.q.1 + (h.l.length + 1) + rOn O ≤ h.c
    omega
  · by_cases w : j < Kn
    · obtain ⟨z, z1, k, z2, z3, z4⟩ := g7b j j1 w
      have zc : z ≠ c := fun y => (g7a z z1).2 _ List.mem_cons_self (by rw [y])
      exact ⟨z, List.mem_append_left _ z1, k, by rw [e9 9 z (by omega) (by omega) zc]; exact z2, z3, by rw [C2 z zc]; exact z4⟩
    · exact ⟨c, List.mem_append_right _ List.mem_cons_self, Kn, r9, by omega, by rw [C1]; show j < Kn + its.reverse.length; omega⟩
  · have e1 : (h.fin c (cdAt i.b i.e ph its.reverse s.1)).c = h.c := rfl
    have e2 : (h.fin c (cdAt i.b i.e ph its.reverse s.1)).l.length = h.l.length + 1 := by
      show (h.l ++ [c]).length = _
      rw [List.length_append]; rfl
    rw [e1, e2]
    exact ⟨⟨x1, by omega⟩, ⟨x3, by omega⟩, ⟨by omega, by omega⟩, ⟨by omega, by omega⟩, ⟨x9, by omega⟩, by omega⟩
end CE
