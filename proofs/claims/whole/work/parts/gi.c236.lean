/-! the class reads: read, as the law calls it -/
/-- what reading leaves alone, from outside -/
def rfF (x : Nat) (S V : ox_St) : Prop := oKl S V ∧ oAg (fun a => (a < x ∨ (x + 76 ≤ a ∧ a < x + 119)) ∧ S.K a ≠ 20) S V
section C236
variable {sp : ox_E} {d mc ms : Nat} {Q : ox_Q} {x e nc K : Nat} {b : Nat → Nat} {S V W : ox_St} {α α' : Int → Nat} {C : Nat → xCd} {s : xSt} {h : pH} {p : oTS} {O : Nat → Prop}
theorem prV.rf (f : prV x S V) (hn : x + 119 ≤ S.n) : rfF x S V := ⟨⟨f.1, f.2.1⟩, f.2.2.1.sub (fun a ha => ⟨by have := ha.1; omega, by have := ha.1; omega, by have := ha.1; omega, ha.2⟩)⟩
theorem rfF.trans (f : rfF x S V) (g : rfF x V W) (hn : x + 119 ≤ S.n) : rfF x S W := ⟨f.1.trans g.1, f.2.trans (g.2.sub (fun a ha => ⟨ha.1, by rw [(f.1.2 a (by have := ha.1; omega)).1]; exact ha.2⟩))⟩
theorem rfF_sx {F : Nat} {v : Int32} : rfF x S (S.sI F x v) := ⟨oKl_sI, oAg_sI (fun z => by have := z.1; omega)⟩
theorem rfF_nn {n' : Nat} (hn : S.n ≤ n') : rfF x S (S.nn n') := ⟨⟨hn, fun _ _ => ⟨rfl, rfl⟩⟩, oAg_nn⟩
theorem rfF_lk (f : lkF x S V) : rfF x S V := ⟨oKl_of f.2.2.1 f.1 f.2.1, fun a ha => ⟨by rw [f.1], by rw [f.2.1], fun F => f.2.2.2.2.2.2.2.1 F a (Or.inl (by have := ha.1; omega)), fun F => f.2.2.2.2.2.2.1 F a (Or.inl (by have := ha.1; omega)), fun F => by rw [f.2.2.2.1], fun j => by rw [f.2.2.2.2.2.2.2.2 a (by have := ha.1; omega)], fun j => by rw [f.2.2.2.2.1], fun j => by rw [f.2.2.2.2.2.1]⟩⟩
theorem rfF_M0 (f : cM0 x S V) : rfF x S V := ⟨f.1, f.2.sub (fun a ha => ⟨by have := ha.1; omega, fun z => by have := ha.1; unfold cZ at z; omega⟩)⟩
/-- the list, whatever it holds -/
theorem oLx.kl (g : oLx S x) (k : oKl S V) (hB : cBs S x) (i2 : V.I 2 (x + 2) = S.I 2 (x + 2)) (r1 : V.R 1 (x + 2) = S.R 1 (x + 2)) (r0 : V.R 142 0 = S.R 142 0) : oLx V x := by
  obtain ⟨n, A, l1, l2, l3, l4⟩ := g
  have hn : x + 119 ≤ S.n := hB.2.2.2.1
  refine ⟨n, V.rR (S.R 1 (x + 2)), (k.2 _ (by omega)).1.trans l1, i2.trans l2, l3, ?_⟩
  rw [r1, r0]
  rcases l4 with ⟨z1, z2, z3, z4, z5⟩ | ⟨z1, z2, z3, z4, z5⟩
  · exact Or.inl ⟨z1, z2, Nat.lt_of_lt_of_le z3 k.1, (k.2 _ z3).1.trans z4, (k.2 _ z3).2.trans z5⟩
  · exact Or.inr ⟨(k.2 _ z2).1.trans z1, Nat.lt_of_lt_of_le z2 k.1, by rw [(k.2 _ z2).2]; exact z3, by rw [(k.2 _ z2).2]; exact z4, fun j _ => rfl⟩
theorem xWf.fc (w : xWf C nc K s) : ∀ q ∈ s.f, q.1 < nc ∧ (∀ v ∈ q.2.2.1, xOk nc s.H v) ∧ ∀ i v, q.2.2.2.1 i = some v → xOk nc s.H v := fun q hq => by
  obtain ⟨-, -, -, w4, -⟩ := w
  have hx : ∃ k, xFOk C nc s.H k q := by
    have w4' := w4.2
    cases e : s.f with
    | nil => rw [e] at hq; cases hq
    | cons f t =>
      rw [e] at hq w4'
      rcases List.mem_cons.mp hq with y | y
      · exact ⟨0, by rw [y]; exact w4'.1⟩
      · exact ⟨1, w4'.2 q y⟩
  obtain ⟨k, z⟩ := hx
  exact ⟨z.1, z.2.2.2.1, fun i v e => (z.2.2.2.2 i v e).2⟩
/-- the codes, with the addresses of the class behind them -/
def cPn (C : Nat → xCd) (α : Int → Nat) (i : Nat) : xCd := if 100000 ≤ i then ((α (-1 - ((i - 100000 : Nat) : Int)), (C i).1.2), (C i).2) else C i
theorem cPn_lt {i : Nat} (h : i < 100000) : cPn C α i = C i := if_neg (by omega)
theorem cPn_pin {c : Nat} : cPin (cPn C α) c = α (-1 - (c : Int)) := by
  unfold cPin cPn
  rw [if_pos (by omega), show 100000 + c - 100000 = c by omega]
/-- what was read stands beside what there was -/
theorem cG.cR (hR : cR S x α C nc s) (hw : xWf C nc K s) (f : prV x S V) (g : cG x b e nc K 0 O V p α' h) (ax : aX S.n (aZ α nc s.H) α') (hall : ∀ c, c < h.c → cDn nc h c) (hc5 : h.c ≤ 100000) : cR V x α' (cPn h.C α') h.c (h.H, h.n, s.G, s.f, s.s, s.k, s.r) := by
  have hz := hR.z hw
  have le := ax.le
  have gh := g.2.2.1
  have nz : ∀ w, cDm h.c h.H w → α' w ≠ 0 := fun w hw' => by
    rcases hw' with z | z
    · have ec : w = -1 - (((-1 - w).toNat : Nat) : Int) := by omega
      have := (gh.2.1 _ (hall (-1 - w).toNat (by omega))).1
      rw [← ec] at this
      omega
    · cases e1 : h.H w with
      | none => exact absurd e1 z
      | some o => have := (gh.1 w o e1).1; omega
  refine hz.pr1 f hw.2.2.2.1.1 (fun q hq => ⟨le _ (Or.inl (by omega)) ?_, fun u _ hu h0 => le u hu h0⟩) (fun q _ hu h0 => le _ hu h0) (fun hu h0 => le _ hu h0) ⟨fun v o e1 => (gh.1 v o e1).pr (prF.refl).v rfl (fun _ _ _ _ => rfl) (fun c hc => ⟨rfl, cPn_lt (by have := gh.2.2.2.2.1 v c (by rw [← hc]; exact e1); have := g.2.2.2.2.2.1; omega)⟩), fun c hc => (gh.2.1 c (hall c hc)).pr (prF.refl).v rfl (cPn_lt (by omega)) (fun _ _ _ _ => rfl), fun u v hu _ e1 => gh.2.2.1 u v (nz u hu) e1, fun c _ => cPn_pin.symm⟩
  have := (hz.2.1.2.1 q.1 (hw.fc q hq).1).1
  omega
theorem rdA_ok (hb : ∀ i, i < e → b i < 256) (hH : xHOk nc K s.H s.n) (hn : (rdA b e (pH0 s C nc)).1.2 = none) : pOk e K (1, none) (pH0 s C nc) (rdA b e (pH0 s C nc)).1 (rdA b e (pH0 s C nc)).2.1 ∧ (rdA b e (pH0 s C nc)).2.2 = -1 - (nc : Int) ∧ nc < (rdA b e (pH0 s C nc)).2.1.c := by
  have eA := rdA_R (b := b) (e := e) (h := pH0 s C nc)
  by_cases z : (rdR b e (pH0 s C nc)).1.2 = none
  · rw [if_pos z] at eA
    by_cases pe : (rdR b e (pH0 s C nc)).1.1 < e
    · rw [if_pos pe] at eA
      rw [eA] at hn
      exact absurd hn (rfS_some _)
    · rw [if_neg pe] at eA
      by_cases z1 : (bwS b e 99 99 (0, none)).2 = none
      · have eR : rdR b e (pH0 s C nc) = rdC b e (rdO b e 4) (1, none) (pH0 s C nc) := if_pos z1
        rw [eA, eR]
        rw [eR] at z
        obtain ⟨c1, c2, c3, c4, c5⟩ := rdC_G (K := K) hb (rdO_G hb 4 (by decide)) (1, none) (pH0 s C nc) rfl (bwS_none z1).2.1.1 hH z
        refine ⟨c1, c5, ?_⟩
        rw [c5] at c3
        rcases c3 with y | y
        · have y1 := y.1
          have e0 : (pH0 s C nc).c = nc := rfl
          omega
        · exact absurd (c1.2.2.2.1.low (by have e0 : (pH0 s C nc).c = nc := rfl; omega)) y
      · have eR : rdR b e (pH0 s C nc) = (bwS b e 99 99 (0, none), pH0 s C nc, 0) := if_neg z1
        rw [eR] at z
        exact absurd z z1
  · rw [if_neg z] at eA
    rw [eA] at hn
    exact absurd hn z
end C236
