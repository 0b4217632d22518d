/-! the reference reads: read, all of it -/
section R4
variable {sp : ox_E} {d mr sr : Nat} {Q : ox_Q} {S : ox_St} {m ce e K : Nat} {b : Nat → Nat} {γ : Int → Nat} {B : List Int} {T : Nat} {C : Nat → xCd} {nc y Bn Kn Wn P : Nat} {s : xSt}
theorem r_161 (hsp : ox_mono sp) (hb : rR S m ce γ B T C nc y s) (hw : xWf C nc K s) (hn : rCn S m γ C nc Bn Kn Wn) (i72 : S.I 72 m = nI e) (e8 : e ≤ 800) (fb : ∀ j, j < e → S.rI (m + 1) j = nI (b j) ∧ b j < 256) (l1 : 9 * nc + e ≤ 2600) (l2 : Bn + e ≤ 2090) (l3 : Kn + e ≤ 2090) (l4 : Wn + e ≤ 2090) (hp : xPot C nc P s.H s.G s.f s.r) (hP : P ≤ 10983000)
    (hA : ∀ v, (rdA b e (pH0 s C nc)).1.2 = some v → qA Q m S C nc y s Bn Kn Wn 1 (nI v))
    (hB : (rdA b e (pH0 s C nc)).1.2 = none → ∀ j, j < (rdA b e (pH0 s C nc)).2.1.l.length → (∀ a, a < j → ∃ T, okT ((rdA b e (pH0 s C nc)).2.1.C ((rdA b e (pH0 s C nc)).2.1.l.getD a 0)).1 T) → ¬ (∃ T, okT ((rdA b e (pH0 s C nc)).2.1.C ((rdA b e (pH0 s C nc)).2.1.l.getD j 0)).1 T) → qA Q m S C nc y s Bn Kn Wn 2 (nI (1000 * j)))
    (hG : (rdA b e (pH0 s C nc)).1.2 = none → (∀ c ∈ (rdA b e (pH0 s C nc)).2.1.l, ∃ T, okT ((rdA b e (pH0 s C nc)).2.1.C c).1 T) → qC Q m S nc s (rdA b e (pH0 s C nc)).2.1 e Bn Kn Wn) : ox_M sp (d + 8) 161 [.inr (.inr m)] mr sr S Q := by
  have hE : ox_mono (ox_M sp (d + 7)) := ox_M_mono hsp _
  have k : S.K m = 14 := hb.1.1
  have hl := hw.fl
  refine f_161 hsp ⟨by rw [k]; rfl, by rw [k]; rfl, by rw [or_sI_K, k]; rfl, by rw [or_sI_K, or_sI_K, k]; rfl, by rw [or_sI_K, or_sI_K, or_sI_K, k]; rfl, Or.inl rfl, by rw [or_sI_K, or_sI_K, or_sI_K, or_sI_K, k]; rfl, by rw [or_sI_K, or_sI_K, or_sI_K, or_sI_K, or_sI_K, k]; rfl, by rw [or_sI_K, or_sI_K, or_sI_K, or_sI_K, or_sI_K, or_sI_K, k]; rfl, by rw [or_sI_K, or_sI_K, or_sI_K, or_sI_K, or_sI_K, or_sI_K, or_sI_K, k]; rfl, by rw [or_sI_K, or_sI_K, or_sI_K, or_sI_K, or_sI_K, or_sI_K, or_sI_K, or_sI_K, k]; rfl, by rw [or_sI_K, or_sI_K, or_sI_K, or_sI_K, or_sI_K, or_sI_K, or_sI_K, or_sI_K, or_sI_K, k]; rfl, ?_⟩
  rw [i72]
  have fd : fdS m S (((((((((S.sI 121 m (nI e)).sI 72 m 0).sI 120 m 0).sI 132 m 0).sI 70 m (-1)).sI 122 m 0).sI 123 m 0).sI 124 m 0).sI 125 m 0) := fdS.refl.sI.sI.sI.sI.sI.sI.sI.sI.sI
  have ou : mOu m S (((((((((S.sI 121 m (nI e)).sI 72 m 0).sI 120 m 0).sI 132 m 0).sI 70 m (-1)).sI 122 m 0).sI 123 m 0).sI 124 m 0).sI 125 m 0) := mOu.refl.sI.sI.sI.sI.sI.sI.sI.sI.sI
  have eI : ∀ F, (((((((((S.sI 121 m (nI e)).sI 72 m 0).sI 120 m 0).sI 132 m 0).sI 70 m (-1)).sI 122 m 0).sI 123 m 0).sI 124 m 0).sI 125 m 0).I F m = if F = 125 then 0 else if F = 124 then 0 else if F = 123 then 0 else if F = 122 then 0 else if F = 70 then -1 else if F = 132 then 0 else if F = 120 then 0 else if F = 72 then 0 else if F = 121 then nI e else S.I F m := fun F => by
    rw [or_sI_I, or_sI_I, or_sI_I, or_sI_I, or_sI_I, or_sI_I, or_sI_I, or_sI_I, or_sI_I]
    simp only [and_true]
  generalize ((((((((S.sI 121 m (nI e)).sI 72 m 0).sI 120 m 0).sI 132 m 0).sI 70 m (-1)).sI 122 m 0).sI 123 m 0).sI 124 m 0).sI 125 m 0 = U at fd ou eI ⊢
  have eS : ∀ F, ¬ (122 ≤ F ∧ F ≤ 125) → F ≠ 70 → F ≠ 132 → F ≠ 120 → F ≠ 72 → F ≠ 121 → U.I F m = S.I F m := fun F z1 z2 z3 z4 z5 z6 => by rw [eI, if_neg (by omega), if_neg (by omega), if_neg (by omega), if_neg (by omega), if_neg z2, if_neg z3, if_neg z4, if_neg z5, if_neg z6]
  have hU := hb.fd hl fd
  have nU := hn.fd fd (fun F hF => eS F (by omega) (by omega) (by omega) (by omega) (by omega) (by omega))
  have fU : rdF U m e b := by
    refine ⟨⟨?_, ?_, ?_, ?_, ?_, ?_, ?_, ?_⟩, e8, fun j hj => ?_⟩
    · rw [eI]; rfl
    · rw [eI]; rfl
    · rw [eI]; rfl
    · rw [eI]; rfl
    · rw [eI]; rfl
    · rw [eI]; rfl
    · rw [eI]; rfl
    · rw [eI]; rfl
    · rw [fd.2.2.2.2.1 1 (by omega)]; exact fb j hj
  have u96 : U.I 96 m = S.I 96 m := eS 96 (by omega) (by decide) (by decide) (by decide) (by decide) (by decide)
  have T11 : T ≤ 1100000 := hU.2.1.1.2.2.2.2
  refine ⟨fun z => ?_, fun _ => ⟨by decide, hU.1.1, by decide, 0, 0, Nat.zero_le _, Nat.zero_le _, ?_⟩⟩
  · rw [hU.2.1.2] at z
    have le := (nI_leI (b := 1070000) (by omega) (by decide)).mp z
    exact r161_62 hsp hU hw nU ou u96 fU l1 l2 l3 l4 (by omega) hA hB hG
  · obtain ⟨A, p1, p2, p3, p4, p5⟩ := hp.live
    refine r_131k hsp hU hw (nU.kc (by omega)) p1 p2 p3 p4 (by omega) (fun S' γ' B' T' fx iS hk' hT' h' => ?_)
    obtain ⟨⟨f1, f2, f3, f4, f5, f6, f7, f70⟩, -, f8⟩ := fU
    refine r161_62 hsp h' hw (nU.of (fun F hF => iS F (by omega) (by omega)) (fun p hp c hc => by rw [fx.2.2.2.2.2.2.2.2.2.2.1 p (by omega)]) h'.2.2.1.2 (by omega) (by omega) (by omega)) (ou.trans fx.ou) ((iS 96 (by decide) (by decide)).trans u96) ⟨⟨(iS 121 (by decide) (by decide)).trans f1, (iS 120 (by decide) (by decide)).trans f2, (iS 132 (by decide) (by decide)).trans f3, (iS 122 (by decide) (by decide)).trans f4, (iS 123 (by decide) (by decide)).trans f5, (iS 124 (by decide) (by decide)).trans f6, (iS 72 (by decide) (by decide)).trans f7, (iS 70 (by decide) (by decide)).trans f70⟩, e8, fun j hj => by rw [fx.2.2.2.2.2.2.2.2.2.2.1 1 (by omega)]; exact f8 j hj⟩ l1 l2 l3 l4 (by omega) hA hB hG
end R4
