/-! the reference reads: something is begun -/
def opW (S : ox_St) (m g : Nat) (x1 x2 x3 : Int32) : ox_St := ((((S.wI (m + 30) g x1).wI (m + 31) g x2).wI (m + 32) g (S.I 123 m)).wI (m + 33) g x3).sI 122 m (nI (g + 1))
theorem opW_f {S : ox_St} {m g ce : Nat} {x1 x2 x3 : Int32} {q : Nat × Nat × Nat × Nat × Nat} (c23 : ce = 2 ∨ ce = 3) : kR S (opW S m g x1 x2 x3) m ce q ∧ (∀ F a, (opW S m g x1 x2 x3).I F a = if F = 122 ∧ a = m then nI (g + 1) else S.I F a) ∧ (opW S m g x1 x2 x3).rJ = S.rJ ∧ (∀ a, (a < m + 30 ∨ m + 33 < a) → (opW S m g x1 x2 x3).rI a = S.rI a) ∧ (∀ a z, z ≠ g → (opW S m g x1 x2 x3).rI a z = S.rI a z) ∧ (opW S m g x1 x2 x3).rI (m + 30) g = x1 ∧ (opW S m g x1 x2 x3).rI (m + 31) g = x2 ∧ (opW S m g x1 x2 x3).rI (m + 32) g = S.I 123 m ∧ (opW S m g x1 x2 x3).rI (m + 33) g = x3 := by
  have R : ∀ a z, (opW S m g x1 x2 x3).rI a z = if a = m + 33 ∧ z = g then x3 else if a = m + 32 ∧ z = g then S.I 123 m else if a = m + 31 ∧ z = g then x2 else if a = m + 30 ∧ z = g then x1 else S.rI a z := fun a z => by
    unfold opW
    rw [or_sI_rI, or_wI_rI, or_wI_rI, or_wI_rI, or_wI_rI]
  refine ⟨?_, fun F a => ?_, ?_, fun a ha => funext fun z => ?_, fun a z hz => ?_, ?_, ?_, ?_, ?_⟩
  · unfold opW
    exact ((((kR.refl.wI c23 (by unfold kRw; omega)).wI c23 (by unfold kRw; omega)).wI c23 (by unfold kRw; omega)).wI c23 (by unfold kRw; omega)).sI (by unfold kRf; omega)
  · unfold opW
    rw [or_sI_I, or_wI_I, or_wI_I, or_wI_I, or_wI_I]
  · unfold opW
    rw [or_sI_rJ, or_wI_rJ, or_wI_rJ, or_wI_rJ, or_wI_rJ]
  · rw [R, if_neg (fun y => by omega), if_neg (fun y => by omega), if_neg (fun y => by omega), if_neg (fun y => by omega)]
  · rw [R, if_neg (fun y => by omega), if_neg (fun y => by omega), if_neg (fun y => by omega), if_neg (fun y => by omega)]
  · rw [R, if_neg (fun y => by omega), if_neg (fun y => by omega), if_neg (fun y => by omega), if_pos ⟨rfl, rfl⟩]
  · rw [R, if_neg (fun y => by omega), if_neg (fun y => by omega), if_pos ⟨rfl, rfl⟩]
  · rw [R, if_neg (fun y => by omega), if_pos ⟨rfl, rfl⟩]
  · rw [R, if_pos ⟨rfl, rfl⟩]
section OP
variable {sp : ox_E} {d mr sr : Nat} {Q : ox_Q} {LH : ox_St → Prop} {i : rFi} {U V : ox_St} {s s' : oTS} {γ : Int → Nat} {B : List Int} {T : Nat} {h h' : pH} {O : List rRc} {Bn Kn Wn Bn' c ph k : Nat} {its : List Int} {cd : Option Nat} {v : Int}
theorem rG.opn {n n' : Nat} (g : rG i U s γ B T h O Bn Kn Wn n) (hO : O.length < 5) (kr : kR U V i.m i.ce i.q) (mt : mtS V i.m i.ce i.b i.e s') (hI : ∀ F, F ≠ 70 ∧ F ≠ 76 ∧ F ≠ 86 ∧ F ≠ 120 ∧ F ≠ 122 ∧ F ≠ 132 → V.I F i.m = U.I F i.m) (i122 : V.I 122 i.m = nI (O.length + 1)) (i76 : V.I 76 i.m = nI h'.c) (i86 : V.I 86 i.m = nI Bn') (hr : ∀ o, ¬ (4 ≤ o ∧ o ≤ 8) → o ≠ 13 → ¬ (30 ≤ o ∧ o ≤ 33) → V.rI (i.m + o) = U.rI (i.m + o)) (r4 : ∀ o z, 4 ≤ o → o ≤ 8 → z < h.c → V.rI (i.m + o) z = U.rI (i.m + o) z) (r13 : ∀ z, z < Bn → V.rI (i.m + 13) z = U.rI (i.m + 13) z) (r3x : ∀ o j, 30 ≤ o → o ≤ 33 → j < O.length → V.rI (i.m + o) j = U.rI (i.m + o) j) (r30 : V.rI (i.m + 30) O.length = if cd = none then 1 else 0) (r31 : V.rI (i.m + 31) O.length = nI c) (r32 : V.rI (i.m + 32) O.length = U.I 123 i.m) (r33 : ∀ c, cd = some c → V.rI (i.m + 33) O.length = nI c) (hJ : V.rJ = U.rJ) (hB : Bn ≤ Bn') (hcd : (cd = none ∧ h' = h) ∨ (cd = some h.c ∧ h' = h.bg ∧ hRw i.b i.e V i.m h.c ph Bn')) (rm : rRm i.q s'.1 T h'.c Bn' Kn Wn n' (O.length + 1) h.l.length) : rG i V s' γ B T h' ((c, [], cd, ph) :: O) Bn' Kn Wn n' := by
  have c23 := g.c23
  obtain ⟨g1, g2, ⟨g3, g3a, g3b⟩, ⟨⟨g4a, g4b, g4c⟩, g4d, g4e, g4f⟩, ⟨⟨g5a, g5b, g5c, g5d⟩, g5e, g5f, g5g⟩, ⟨g6a, g6b⟩, ⟨g7a, g7c, g7d, g7b⟩, g8, g9⟩ := g
  have eH : h'.H = h.H ∧ h'.n = h.n ∧ h'.C = h.C ∧ h'.l = h.l ∧ h.c ≤ h'.c := by
    rcases hcd with ⟨-, z⟩ | ⟨-, z, -⟩
    · rw [z]; exact ⟨rfl, rfl, rfl, rfl, Nat.le_refl _⟩
    · rw [z]; exact ⟨rfl, rfl, rfl, rfl, Nat.le_succ _⟩
  obtain ⟨eH1, eH2, eH3, eH4, eH5⟩ := eH
  have nx : ∀ z, z < h.c → rCw U i.m γ h.C z Bn Kn Wn → rCw V i.m γ h.C z Bn' Kn Wn := fun z hz k1 => k1.next (fun o z1 z2 => by
    by_cases w : o ≤ 8
    · exact r4 o z z1 w hz
    · rw [hr o (by omega) (by omega) (by omega)]) r13 (fun _ _ => by rw [hr _ (by omega) (by omega) (by omega)]) (fun _ _ => by rw [hJ]) (fun _ _ => rfl) hB (Nat.le_refl _) (Nat.le_refl _)
  have newc : ∀ z, cd = some z → z = h.c ∧ hRw i.b i.e V i.m z ph Bn' ∧ h'.c = h.c + 1 := fun z hz => by
    rcases hcd with ⟨y, -⟩ | ⟨y, y2, y3⟩
    · rw [y] at hz; cases hz
    · rw [y] at hz; cases hz; exact ⟨rfl, y3, by rw [y2]; rfl⟩
  have oldc : ∀ z, z < h'.c → cd ≠ some z → z < h.c := fun z hz ho => by
    rcases hcd with ⟨y, y2⟩ | ⟨y, y2, y3⟩
    · rw [y2] at hz; exact hz
    · rw [y2] at hz
      have hz' : z < h.c + 1 := hz
      have : z ≠ h.c := fun w => ho (by rw [y, w])
      omega
  have ev : rVp ((c, [], cd, ph) :: O) = rVp O := rfl
  refine ⟨mt, g2.trans kr, ⟨?_, (hI 75 (by decide)).trans g3a, ?_⟩, ⟨⟨i122, by show O.length + 1 ≤ 5; omega, r30, r31, by rw [r32, g4d], r33, g4c.row _ r3x⟩, ?_, ?_, ?_⟩, ⟨⟨i76, i86, (hI 87 (by decide)).trans g5c, (hI 88 (by decide)).trans g5d⟩, fun z hz ho => ?_, fun r hr' z hz => ?_, fun z hz r hr' w => ?_, g5g⟩, ?_, ⟨fun z hz => ?_, fun r hr' z hz => ?_, ?_, ?_⟩, g8, ?_⟩
  · rw [eH1]; exact g3.next (fun j _ => by rw [hr _ (by omega) (by omega) (by omega)])
  · rw [eH1, eH2]; exact g3b.nc eH5
  · rw [ev, hI 123 (by decide)]; exact g4d
  · rw [ev]; exact g4e.row _ (fun j _ => by rw [hr _ (by omega) (by omega) (by omega)]) (fun _ _ => rfl)
  · rw [ev, eH1]; exact fun v hv => ⟨(g4f v hv).1.nc eH5, (g4f v hv).2⟩
  · have zl := oldc z hz (ho _ List.mem_cons_self)
    obtain ⟨k1, k2⟩ := g5e z zl (fun r hr' => ho r (List.mem_cons_of_mem _ hr'))
    rw [eH3]
    exact ⟨nx z zl k1, k2⟩
  · rcases List.mem_cons.mp hr' with y | y
    · rw [y] at hz ⊢
      obtain ⟨w1, w2, w3⟩ := newc z hz
      exact ⟨by omega, w2⟩
    · obtain ⟨k1, k2⟩ := g5f r y z hz
      exact ⟨by omega, k2.next (fun o z1 z2 => r4 o z z1 z2 k1) r13 hB⟩
  · obtain ⟨w1, -⟩ := newc z hz
    have := (g5f r hr' z w).1
    omega
  · rw [eH4]
    exact ⟨(hI 124 (by decide)).trans g6a, fun j hj => by rw [hr _ (by omega) (by omega) (by omega)]; exact g6b j hj⟩
  · rw [eH4] at hz
    obtain ⟨w1, w2⟩ := g7a z hz
    refine ⟨by omega, fun r hr' w => ?_⟩
    rcases List.mem_cons.mp hr' with y | y
    · rw [y] at w
      have := (newc z w).1
      omega
    · exact w2 r y w
  · rcases List.mem_cons.mp hr' with y | y
    · rw [y] at hz
      have := (newc z hz).1
      have := g9.1.1
      omega
    · exact g7c r y z hz
  · rw [eH4]
    show i.q.1 + h.l.length + ((if cd = none then 0 else 1) + rOn O) ≤ h'.c
    rcases hcd with ⟨y, y2⟩ | ⟨y, y2, y3⟩
    · rw [y, y2, if_pos rfl]; omega
    · rw [y, y2, if_neg (fun w => by cases w)]
      show _ ≤ h.c + 1
      omega
  · rw [eH4, eH3, hr 9 (by omega) (by omega) (by omega)]; exact g7b
  · rw [eH4]; exact rm
end OP
