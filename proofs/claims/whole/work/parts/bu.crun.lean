/-! the class: run; what others change -/
/-- the reference's own addresses -/
def cWo (x a : Nat) : Prop := x + 76 ≤ a ∧ a < x + 119
section CRn
variable {d mr sr : Nat} {S S' : ox_St} {Q : ox_Q} {x : Nat} {α : Int → Nat} {C : Nat → xCd} {nc K : Nat} {s : xSt}
/-- all but the reference's cells is as it was -/
def cJ (x : Nat) (S S' : ox_St) : Prop := oKl S S' ∧ oAg (fun a => a < S.n ∧ ¬ cWo x a) S S'
theorem cJ.refl : cJ x S S := ⟨oKl.refl, oAg.refl⟩
theorem cJ.trans {T : ox_St} (h : cJ x S S') (g : cJ x S' T) : cJ x S T := ⟨h.1.trans g.1, h.2.trans (g.2.sub (fun a ha => ⟨Nat.lt_of_lt_of_le ha.1 h.1.1, ha.2⟩))⟩
theorem cJ.cI (h : cJ x S S') : cI x (cWo x) S S' := ⟨h.1, h.2, fun a ha hb => by
  obtain ⟨-, -, i, r, -⟩ := h.2 a ⟨ha, fun z => by unfold cWo at z; omega⟩
  exact ⟨fun G _ _ _ => r G, fun G _ => i G⟩⟩
theorem cJ.cR (j : cJ x S S') (h : cR S x α C nc s) (hl : s.f.length ≤ 8) : cR S' x α C nc s := by
  have hI := j.cI
  have hY : ∀ a, cWo x a → cY x a := fun a z => Or.inr (Or.inr (by unfold cWo at z; omega))
  obtain ⟨b, hp, fs, g, m1, m2, m3, m4, m5⟩ := h
  have hn : x + 119 ≤ S.n := b.2.2.2.1
  obtain ⟨a1, a2, -⟩ := hI.at (a := x + 11) (by omega) (fun z => by unfold cWo at z; omega)
  exact ⟨b.nextY hI hY, hp.nextY (K := 0) hI hY, cFs.keep hn hI _ hl (fun a z1 z2 z => by unfold cWo at z; omega) fs, g.keep hn hI (a1 43) (fun z => by unfold cWo at z; omega) (fun z => by unfold cWo at z; omega), (a1 35).trans m1, (a1 37).trans m2, (a1 38).trans m3, fun z => by rw [a2]; exact (m4 z).next hI rfl, fun z => by rw [a2]; exact m5 z⟩
theorem cJ_nn {n' : Nat} (hn : S.n ≤ n') : cJ x S (S.nn n') := ⟨⟨hn, fun _ _ => ⟨rfl, rfl⟩⟩, oAg_nn⟩
theorem cJ_wJ {v : Int64} : cJ x S (S.wJ (x + 118) 0 v) := ⟨oKl_wJ, oAg_wJ (fun z => z.2 ⟨by omega, by omega⟩)⟩
/-- run begins, whatever is to hold behind that -/
theorem c_98_e {E : ox_E} {kq : ox_K} {w : Int32} (k0 : S.K x = 13) (r66 : S.R 66 x = x + 11) (k7 : S.K (x + 11) = 7) (hQ1 : ¬ S.I 37 (x + 11) = 1 → kq 11 [some (.inr (.inr x)), some (.inl w), none, none] [] S mr sr) (hQ2 : S.I 37 (x + 11) = 1 → (w < 1 ∨ ¬ w ≤ 200) → kq 33 [some (.inr (.inr x)), some (.inl w), none, none] [] S mr sr) (hQ3 : S.I 37 (x + 11) = 1 → ¬ w < 1 → w ≤ 200 → kq 45 [some (.inr (.inr x)), some (.inl w), some (.inl 0), none] [] S mr sr) : oz_seg E oz_c98 [11, 33, 45, 89] kq 30 0 (ox_loc 4 [.inr (.inr x), .inl w]) [] S mr sr := by
  have h1 : ox_has (S.K x) 66 = true := by rw [k0]; rfl
  have h2 : ox_has (S.K (S.R 66 x)) 37 = true := by rw [r66, k7]; rfl
  have e37 : S.I 37 (S.R 66 x) = S.I 37 (x + 11) := by rw [r66]
  have e200 : (Int16.ofInt 200).toInt32 = (200 : Int32) := by decide
  refine ⟨h1, h2, fun z => ?_, fun z => hQ1 (fun y => (show ¬ S.I 37 (S.R 66 x) = 1 from z) (e37.trans y))⟩
  have e1 : S.I 37 (x + 11) = 1 := e37.symm.trans (show S.I 37 (S.R 66 x) = 1 from z)
  refine ⟨fun z1 => hQ2 e1 (Or.inl (show w < 1 from z1)), fun z1 => ⟨fun z2 => hQ3 e1 (show ¬ w < 1 from z1) ?_, fun z2 => hQ2 e1 (Or.inr ?_)⟩⟩
  · have q : w ≤ (Int16.ofInt 200).toInt32 := z2
    rw [e200] at q
    exact q
  · have q : ¬ w ≤ (Int16.ofInt 200).toInt32 := z2
    rw [e200] at q
    exact q
/-- run, as the law calls it -/
theorem c_237 {w : Int32} {y : Nat} (hK : K + 200 < 2 ^ 31) (ko : S.K (x + 118) = 16) (lo : S.len (x + 118) = 1) (h39 : S.I 39 (x + 11) = nI y) (h : cR S x α C nc s) (hw : xWf C nc K s) (hQ1 : ∀ n', S.n ≤ n' → s.s ≠ 1 → Q (some (.inl 1)) (S.nn n')) (hQ2 : ∀ n', S.n ≤ n' → s.s = 1 → (w < 1 ∨ ¬ w ≤ 200) → Q (some (.inl 2)) (S.nn n')) (hQ0 : ∀ N S' α', s.s = 1 → w = nI N → 1 ≤ N → N ≤ 200 → cM x S S' → S'.I 39 (x + 11) = nI (y + (xWork C N s).1) → cR S' x α' C nc (xWork C N s).2 → Q (some (.inl 0)) (S'.wJ (x + 118) 0 (nI (xWork C N s).1).toInt64)) : lw_C237 (ox_M lw_sp (d + 17)) [.inr (.inr x), .inl w, .inr (.inr (x + 118))] 401 4006 S Q := by
  have k0 : S.K x = 13 := h.1.1.obj (o := 0) (by decide)
  have r66 : S.R 66 x = x + 11 := h.1.1.ref (o := 0) (by decide)
  have k7 : S.K (x + 11) = 7 := h.1.1.obj (by decide)
  have m2 : S.I 37 (x + 11) = nI s.s := h.2.2.2.2.2.1
  have s3 := hw.2.2.2.2.2.2.1
  have e1 : S.I 37 (x + 11) = 1 → s.s = 1 := fun z => (nI_eq (b := 1) (by omega) (by decide)).mp (m2.symm.trans z)
  refine ⟨x, w, x + 118, w.toNatClampNeg + 1, rfl, k0, c_98_e k0 r66 k7 (fun z => oz_L98_in (Or.inl ⟨rfl, rfl, (show 1 ≤ 401 by decide), (show 6 ≤ 4006 by decide), fun n' hn => Or.inl ⟨rfl, hQ1 n' hn (fun e => z (by rw [m2, e]; rfl))⟩⟩)) (fun z z1 => oz_L98_in (Or.inr (Or.inl ⟨rfl, rfl, (show 1 ≤ 401 by decide), (show 6 ≤ 4006 by decide), fun n' hn => Or.inr ⟨rfl, hQ2 n' hn (e1 z) z1⟩⟩))) (fun z z1 z2 => ?_)⟩
  have w0 : ¬ w < 0 := fun q => z1 (by
    rw [Int32.lt_iff_toInt_lt] at q ⊢
    have q' : w.toInt < 0 := q
    show w.toInt < 1
    omega)
  obtain ⟨N, hN, rfl⟩ := i_nI w0
  have n1 : 1 ≤ N := Nat.le_of_not_lt fun q => z1 (nI_lt (b := 1) q (by decide))
  have n2 : N ≤ 200 := (nI_leI (b := 200) hN (by decide)).mp z2
  rw [nI_clamp hN]
  refine c_98_l (d := d + 1) (S0 := S) hN N 0 401 4006 K α S s none (by omega) (by omega) (by omega) (by omega) cM.refl h39 h hw (fun S' α' a1 a2 a3 => ?_)
  rw [Nat.zero_add] at a2 ⊢
  have ag := a1.2.1 (x + 118) ⟨by omega, fun z => by unfold cZ at z; omega⟩
  exact ⟨_, rfl, ag.1.trans ko, by rw [ag.2.1, lo]; decide, hQ0 N S' α' (e1 z) rfl n1 n2 a1 a2 a3⟩
end CRn
