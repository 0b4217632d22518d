/-! the reference: start, again -/
section RSt
variable {sp : ox_E} {d mr sr : Nat} {S : ox_St} {Q : ox_Q} {m ce T c nc y : Nat} {γ : Int → Nat} {B : List Int} {C : Nat → xCd} {s : xSt}
/-- start -/
theorem r_171 (hsp : ox_mono sp) (h : rR S m ce γ B T C nc y s) (h96 : S.I 96 m = nI c) (hQ : ∀ S', mFx m S S' → S'.R = S.R → S'.I 96 m = nI c → rR S' m ce γ B T C nc 0 (xBeg s c) → Q none S') : ox_M sp (d + 2) 171 [.inr (.inr m)] mr sr S Q := by
  have hE : ox_mono (ox_M sp (d + 1)) := ox_M_mono hsp _
  have k14 : S.K m = 14 := h.1.1
  refine f_171 hsp ⟨by rw [k14]; rfl, by rw [or_sI_K, k14]; rfl, by rw [or_sI_K, or_sI_K, k14]; rfl, by rw [or_sI_K, or_sI_K, or_sI_K, k14]; rfl, by rw [or_sI_K, or_sI_K, or_sI_K, or_sI_K, k14]; rfl, by rw [or_sI_K, or_sI_K, or_sI_K, or_sI_K, or_sI_K, k14]; rfl, by decide, by rw [or_sI_K, or_sI_K, or_sI_K, or_sI_K, or_sI_K]; exact k14, by decide, 0, 0, Nat.zero_le _, Nat.zero_le _, ?_⟩
  have fx : mFx m S (((((S.sI 92 m 1).sI 93 m 1).sI 94 m (-1)).sI 95 m 0).sI 97 m 0) := mFx.refl.sI.sI.sI.sI.sI
  have eI : ∀ F, (((((S.sI 92 m 1).sI 93 m 1).sI 94 m (-1)).sI 95 m 0).sI 97 m 0).I F m = if F = 97 then 0 else if F = 95 then 0 else if F = 94 then -1 else if F = 93 then 1 else if F = 92 then 1 else S.I F m := fun F => by
    rw [or_sI_I, or_sI_I, or_sI_I, or_sI_I, or_sI_I]
    simp only [and_true]
  have eR : (((((S.sI 92 m 1).sI 93 m 1).sI 94 m (-1)).sI 95 m 0).sI 97 m 0).R = S.R := by rw [or_sI_R, or_sI_R, or_sI_R, or_sI_R, or_sI_R]
  have er : (((((S.sI 92 m 1).sI 93 m 1).sI 94 m (-1)).sI 95 m 0).sI 97 m 0).rI = S.rI := by rw [or_sI_rI, or_sI_rI, or_sI_rI, or_sI_rI, or_sI_rI]
  have eJ : (((((S.sI 92 m 1).sI 93 m 1).sI 94 m (-1)).sI 95 m 0).sI 97 m 0).rJ = S.rJ := by rw [or_sI_rJ, or_sI_rJ, or_sI_rJ, or_sI_rJ, or_sI_rJ]
  generalize ((((S.sI 92 m 1).sI 93 m 1).sI 94 m (-1)).sI 95 m 0).sI 97 m 0 = U at fx eI eR er eJ ⊢
  have u96 : U.I 96 m = nI c := by rw [eI, if_neg (by decide), if_neg (by decide), if_neg (by decide), if_neg (by decide), if_neg (by decide)]; exact h96
  rw [u96]
  have mlU : oML U m ce := h.1.next fx.2.1 fx.2.2.1 (fun F => by rw [eR])
  show ox_M sp (d + 1) 172 [.inr (.inr m), .inl (nI 0), .inl (nI c)] 0 0 U _
  refine r_172 (ce := ce) (T := T) (γ := γ) hsp mlU (by decide) (fun V ch hf => f_171_34 hE ⟨rfl, ?_⟩)
  obtain ⟨h1, h2, h3, h4, h5, h6, h7⟩ := ch
  obtain ⟨a1, ⟨a2, a3⟩, ⟨a4, a5⟩, a6, a7, a8, c1, c2, c3⟩ := id h
  refine hQ V (fx.trans h1) (h2.trans eR) ((h3 96 (by omega)).trans u96) ?_
  have i0 : ∀ F, F = 75 ∨ F = 106 → V.I F m = S.I F m := fun F hF => (h3 F (by omega)).trans (by rw [eI, if_neg (by omega), if_neg (by omega), if_neg (by omega), if_neg (by omega), if_neg (by omega)])
  refine ⟨mlU.next h1.2.1 h1.2.2.1 (fun F => by rw [h2]), ⟨a2.next (fun j hj => by rw [h5 j hj, er]), (i0 75 (Or.inl rfl)).trans a3⟩, ⟨a4, fun k hk => (a5 k hk).next (fun a z1 z2 => by rw [h4 a (by omega), er]) (by rw [h6, eJ]) (fun _ _ => rfl)⟩, ⟨hf, trivial⟩, a7.next (i0 106 (Or.inr rfl)) (by rw [h6, eJ]) (by rw [h4 _ (by omega), er]) (fun _ _ => rfl), ⟨?_, ?_, ?_, ?_, ?_⟩, c1, Or.inl (show (0 : Int) < 16 by decide), fun g hg => ?_⟩
  · rw [h3 92 (by omega), eI, if_neg (by decide), if_neg (by decide), if_neg (by decide), if_neg (by decide), if_pos rfl]; rfl
  · rw [h3 93 (by omega), eI, if_neg (by decide), if_neg (by decide), if_neg (by decide), if_pos rfl]; rfl
  · rw [h3 94 (by omega), eI, if_neg (by decide), if_neg (by decide), if_pos rfl]; rfl
  · rw [h3 95 (by omega), eI, if_neg (by decide), if_pos rfl]; rfl
  · rw [h3 97 (by omega), eI, if_pos rfl]; rfl
  · rcases List.mem_cons.mp hg with z | z
    · rw [z]; exact ⟨fun v hv => (by cases hv), fun i v hv => (by cases hv)⟩
    · cases z
end RSt
section RAg
variable {sp : ox_E} {d mr sr : Nat} {S : ox_St} {Q : ox_Q} {m ce T c nc y : Nat} {γ : Int → Nat} {B : List Int} {C : Nat → xCd} {s : xSt}
/-- whether it threw is told anew -/
theorem rR.s69 {v : Int32} (h : rR S m ce γ B T C nc y s) (hl : ∀ g ∈ s.f, g.2.2.1.length ≤ 10 ∧ g.2.2.2.2.length ≤ 4) : rR (S.sI 69 m v) m ce γ B T C nc y s := by
  have eI : ∀ F, F ≠ 69 → (S.sI 69 m v).I F m = S.I F m := fun F hF => by rw [or_sI_I, if_neg (fun z => hF z.1)]
  have eK : (S.sI 69 m v).K = S.K := or_sI_K _ _ _ _
  have el : (S.sI 69 m v).len = S.len := or_sI_len _ _ _ _
  have eR : (S.sI 69 m v).R = S.R := or_sI_R _ _ _ _
  have er : (S.sI 69 m v).rI = S.rI := or_sI_rI _ _ _ _
  have eJ : (S.sI 69 m v).rJ = S.rJ := or_sI_rJ _ _ _ _
  generalize S.sI 69 m v = U at eI eK el eR er eJ ⊢
  obtain ⟨a1, ⟨a2, a3⟩, ⟨a4, a5⟩, a6, a7, ⟨i1, i2, i3, i4, i5⟩, c1, c2, c3⟩ := h
  exact ⟨a1.next eK el (fun F => by rw [eR]), ⟨a2.next (fun j _ => by rw [er]), (eI 75 (by decide)).trans a3⟩, ⟨a4, fun c hc => (a5 c hc).next (fun a _ _ => by rw [er]) (by rw [eJ]) (fun _ _ => rfl)⟩, rFs.next _ (fun f _ => ⟨fun _ _ _ => by rw [er], fun _ _ => by rw [er], fun _ _ => by rw [er], fun _ _ => by rw [er]; exact ⟨rfl, rfl⟩⟩) hl (fun _ _ _ _ => rfl) a6, a7.next (eI 106 (by decide)) (by rw [eJ]) (by rw [er]) (fun _ _ => rfl), ⟨(eI 92 (by decide)).trans i1, (eI 93 (by decide)).trans i2, (eI 94 (by decide)).trans i3, (eI 95 (by decide)).trans i4, (eI 97 (by decide)).trans i5⟩, c1, c2, c3⟩
/-- again -/
theorem r_173 (hsp : ox_mono sp) (h : rR S m ce γ B T C nc y s) (hl : ∀ g ∈ s.f, g.2.2.1.length ≤ 10 ∧ g.2.2.2.2.length ≤ 4) (hc : c < 2 ^ 31) (h96 : S.I 96 m = nI c) (hQ : ∀ S', mFx m (S.sI 69 m 0) S' → S'.R = S.R → rR S' m ce γ B T C nc 0 (xBeg s c) → Q (some (.inl 1)) S') : ox_M sp (d + 3) 173 [.inr (.inr m)] mr sr S Q := by
  have hE : ox_mono (ox_M sp (d + 2)) := ox_M_mono hsp _
  have k14 : S.K m = 14 := h.1.1
  have n1 := h.s69 hl (v := 0)
  have n3 : (S.sI 69 m 0).R = S.R := or_sI_R _ _ _ _
  have u96 : (S.sI 69 m 0).I 96 m = nI c := by rw [or_sI_I, if_neg (fun z => by cases z.1)]; exact h96
  refine f_173 hsp ⟨by rw [k14]; rfl, ?_⟩
  generalize S.sI 69 m 0 = U at n1 n3 u96 hQ ⊢
  have k14U : U.K m = 14 := n1.1.1
  refine ⟨by rw [k14U]; rfl, fun _ => ⟨by decide, k14U, by decide, 0, 0, Nat.zero_le _, Nat.zero_le _, r_171 hsp n1 u96 (fun S' b1 b2 b3 b4 => f_173_18 hE ⟨Or.inr rfl, hQ S' b1 (b2.trans n3) b4⟩)⟩, fun z => absurd (by rw [u96]; exact nI_le (a := 0) (Nat.zero_le _) hc) z⟩
end RAg
