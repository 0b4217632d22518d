/-! the reference reads: read, from where it begins -/
def qA (Q : ox_Q) (m : Nat) (S : ox_St) (C : Nat → xCd) (nc y : Nat) (s : xSt) (Bn Kn Wn : Nat) (t p : Int32) : Prop := ∀ Z ce' γ' B' T', mOu m S Z → rR Z m ce' γ' B' T' C nc y s → rCn Z m γ' C nc Bn Kn Wn → Z.I 69 m = t → Z.I 70 m = p → Z.I 72 m = 0 → Z.I 96 m = S.I 96 m → Q none Z
def qC (Q : ox_Q) (m : Nat) (S : ox_St) (nc : Nat) (s : xSt) (h : pH) (e Bn Kn Wn : Nat) : Prop := ∀ Z ce' γ' B' T' Bn' Kn' Wn', mOu m S Z → rR Z m ce' γ' B' T' h.C h.c 0 (xBeg (h.H, h.n, s.G, s.f, s.s, s.k, s.r) nc) → rCn Z m γ' h.C h.c Bn' Kn' Wn' → (Bn' ≤ Bn + e ∧ Kn' ≤ Kn + e ∧ Wn' ≤ Wn + e ∧ 9 * h.c ≤ 9 * nc + e) → Z.I 69 m = 0 → Z.I 70 m = -1 → Z.I 72 m = 0 → Z.I 96 m = nI nc → Q none Z
section R1
variable {sp : ox_E} {d mr sr : Nat} {Q : ox_Q} {i : rFi} {S0 V W : ox_St} {T T0 : Nat} {C : Nat → xCd} {nc y : Nat} {s : xSt} {t p : Int32}
theorem r161_f (hb : rR i.S i.m i.ce i.γ i.B T0 C nc y s) (hn : rCn i.S i.m i.γ C nc i.q.2.1 i.q.2.2.1 i.q.2.2.2.1) (eq1 : i.q.1 = nc) (eq5 : i.q.2.2.2.2 = T0) (hl : ∀ g ∈ s.f, g.2.2.1.length ≤ 10 ∧ g.2.2.2.2.length ≤ 4) (lm : rLm i.q i.e) (kr : kR i.S V i.m i.ce i.q) (i75 : V.I 75 i.m = nI T) (h1 : T0 ≤ T) (h2 : T ≤ 1100000) (fd : fdS i.m V W) (ou : mOu i.m S0 W) (t69 : W.I 69 i.m = t) (t70 : W.I 70 i.m = p) (t72 : W.I 72 i.m = 0) (t96 : W.I 96 i.m = S0.I 96 i.m) (hQ : qA Q i.m S0 C nc y s i.q.2.1 i.q.2.2.1 i.q.2.2.2.1 t p) : Q none (bkW W i.m (nI nc) (nI i.q.2.1) (nI i.q.2.2.1) (nI i.q.2.2.2.1)) := by
  obtain ⟨r1, r2, r3⟩ := rF.fin (q := i.q) hb hn eq1 eq5 hl lm kr i75 h1 h2
  have r1' : rR V i.m i.ce i.γ i.B T C nc y s := r1
  have fZ : fdS i.m V (bkW W i.m (nI nc) (nI i.q.2.1) (nI i.q.2.2.1) (nI i.q.2.2.2.1)) := fd.sI.sI.sI.sI
  have oZ : mOu i.m S0 (bkW W i.m (nI nc) (nI i.q.2.1) (nI i.q.2.2.1) (nI i.q.2.2.2.1)) := ou.sI.sI.sI.sI
  have iZ : ∀ F, (bkW W i.m (nI nc) (nI i.q.2.1) (nI i.q.2.2.1) (nI i.q.2.2.2.1)).I F i.m = if F = 88 then nI i.q.2.2.2.1 else if F = 87 then nI i.q.2.2.1 else if F = 86 then nI i.q.2.1 else if F = 76 then nI nc else W.I F i.m := fun F => by
    unfold bkW
    rw [or_sI_I, or_sI_I, or_sI_I, or_sI_I]
    simp only [and_true]
  generalize bkW W i.m (nI nc) (nI i.q.2.1) (nI i.q.2.2.1) (nI i.q.2.2.2.1) = Z at fZ oZ iZ ⊢
  have f5 := fZ.2.2.2.2.1
  refine hQ Z i.ce i.γ i.B T oZ (r1'.fd hl fZ) ⟨⟨?_, ?_, ?_, ?_⟩, fun c hc => (r2 c hc).next (fun o _ _ => by rw [f5 _ (by omega)]) (fun _ _ => by rw [f5 _ (by omega)]) (fun _ _ => by rw [f5 _ (by omega)]) (fun _ _ => by rw [fZ.2.2.2.1]) (fun _ _ => rfl) (Nat.le_refl _) (Nat.le_refl _) (Nat.le_refl _), fun j hj => by rw [f5 9 (by omega)]; exact r3 j hj⟩ ?_ ?_ ?_ ?_
  · rw [iZ, if_neg (by decide), if_neg (by decide), if_neg (by decide), if_pos rfl]
  · rw [iZ, if_neg (by decide), if_neg (by decide), if_pos rfl]
  · rw [iZ, if_neg (by decide), if_pos rfl]
  · rw [iZ, if_pos rfl]
  · rw [iZ, if_neg (by decide), if_neg (by decide), if_neg (by decide), if_neg (by decide)]; exact t69
  · rw [iZ, if_neg (by decide), if_neg (by decide), if_neg (by decide), if_neg (by decide)]; exact t70
  · rw [iZ, if_neg (by decide), if_neg (by decide), if_neg (by decide), if_neg (by decide)]; exact t72
  · rw [iZ, if_neg (by decide), if_neg (by decide), if_neg (by decide), if_neg (by decide)]; exact t96
/-- a fault of the tape: thrown 1 -/
theorem r161_136f {E : ox_E} (hE : ox_mono E) {w1 w2 w3 w4 : Int32} (hk : V.K i.m = 14) (h1 : V.I 132 i.m = 1) (hQ : Q none (bkW (V.sI 69 i.m 1) i.m w1 w2 w3 w4)) : k_161_136 E i.m w1 w2 w3 w4 mr sr Q none V := by
  refine f_161_136 hE ⟨by rw [hk]; rfl, fun z => absurd z (by rw [h1]; decide), fun _ => ⟨by rw [hk]; rfl, ?_⟩⟩
  exact r161_e hE (by rw [or_sI_K]; exact hk) (Or.inl (by rw [or_sI_I, if_pos ⟨rfl, rfl⟩])) hQ
theorem r161_88f {E : ox_E} (hE : ox_mono E) {w1 w2 w3 w4 : Int32} (hk : V.K i.m = 14) (h1 : V.I 132 i.m = 1) (hQ : Q none (bkW (V.sI 69 i.m 1) i.m w1 w2 w3 w4)) : k_161_88 E i.m w1 w2 w3 w4 mr sr Q none V := by
  have n0 : ¬ V.I 132 i.m = 0 := by rw [h1]; decide
  exact f_161_88 hE ⟨by rw [hk]; rfl, fun _ => ⟨by rw [hk]; rfl, fun _ => r161_136f hE hk h1 hQ, fun z => absurd z n0⟩, fun z => absurd z n0⟩
/-- a fault, all in all -/
theorem rF.end {v : Nat} (hb : rR i.S i.m i.ce i.γ i.B T0 C nc y s) (hn : rCn i.S i.m i.γ C nc i.q.2.1 i.q.2.2.1 i.q.2.2.2.1) (eq1 : i.q.1 = nc) (eq5 : i.q.2.2.2.2 = T0) (hl : ∀ g ∈ s.f, g.2.2.1.length ≤ 10 ∧ g.2.2.2.2.length ≤ 4) (lm : rLm i.q i.e) (ou : mOu i.m S0 i.S) (t72 : i.S.I 72 i.m = 0) (t96 : i.S.I 96 i.m = S0.I 96 i.m) (f : rF i V v) (hQ : qA Q i.m S0 C nc y s i.q.2.1 i.q.2.2.1 i.q.2.2.2.1 1 (nI v)) : Q none (bkW (V.sI 69 i.m 1) i.m (nI nc) (nI i.q.2.1) (nI i.q.2.2.1) (nI i.q.2.2.2.1)) := by
  obtain ⟨⟨p, mt⟩, kr, T, i75, h1, h2⟩ := f
  have c23 := mt.1.2.2.1
  have sI : ∀ F, F ≠ 69 → (V.sI 69 i.m 1).I F i.m = V.I F i.m := fun F hF => by rw [or_sI_I, if_neg (fun y => hF y.1)]
  have kI : ∀ F, kRf F → V.I F i.m = i.S.I F i.m := fun F hF => kr.2.2.2.2.2.2.1 F i.m (Or.inr hF)
  exact r161_f (V := V) hb hn eq1 eq5 hl lm kr i75 (by omega) h2 fdS.refl.sI (ou.trans (kr.ou c23)).sI (by rw [or_sI_I, if_pos ⟨rfl, rfl⟩]) (by rw [sI 70 (by decide)]; exact (mt.2.2.2.2.1 v rfl).2) (by rw [sI 72 (by decide), kI 72 (by unfold kRf; omega)]; exact t72) (by rw [sI 96 (by decide), kI 96 (by unfold kRf; omega)]; exact t96) hQ
end R1
