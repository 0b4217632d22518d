/-! the reference reads: readObject -/
section T3
variable {sp : ox_E} {d mr sr : Nat} {Q : ox_Q} {LH : ox_St → Prop} {i : rFi} {U V : ox_St} {s s' : oTS} {γ : Int → Nat} {B : List Int} {T : Nat} {h h' : pH} {O : List rRc} {Bn Kn Wn Bn' c ph k p : Nat} {its : List Int} {cd : Option Nat} {v : Int}
theorem k160_57f (hsp : ox_mono sp) {x1 y : Int32} (hK : V.K i.m = 14) (h1 : V.I 132 i.m = 1) (hQ : Q none V) : k_160_57 (ox_M sp (d + 6)) i.m x1 mr sr Q (some (.inl y)) V := by
  have hE : ox_mono (ox_M sp (d + 6)) := ox_M_mono hsp _
  exact f_160_57 hE ⟨by rw [hK]; rfl, fun z => absurd z (by rw [h1]; decide), fun _ => ⟨rfl, hQ⟩⟩
/-- readObject, not the first -/
theorem r_160 (hsp : ox_mono sp) (lm : rLm i.q i.e) (hK : ∀ V, LH V → V.K i.m = 14) (ro : ∀ k', k' + 1 = k → rRO sp d i LH k') (g : rG i U s γ B T h O Bn Kn Wn (rVp O).length) (hs : s.2 = none) (hO : O.length + k = 5) (hO1 : O ≠ [])
    (hF : ∀ v, (rdO i.b i.e k s h).1.2 = some v → ∀ V, rF i V v → LH V)
    (hD : (rdO i.b i.e k s h).1.2 = none → ∀ V γ' B' T' Bn' Kn' Wn', rG i V (rdO i.b i.e k s h).1 γ' B' T' (rdO i.b i.e k s h).2.1 O Bn' Kn' Wn' ((rVp O).length + 1) → xIn B' (rdO i.b i.e k s h).2.2 → rWd sp d i LH (gV γ' (rdO i.b i.e k s h).2.2) V)
    (hQ : ∀ V, LH V → Q none V) : ox_M sp (d + 7) 160 [.inr (.inr i.m), .inl 0] mr sr U Q := by
  have hE : ox_mono (ox_M sp (d + 6)) := ox_M_mono hsp _
  have k14 := g.k
  have i122 : U.I 122 i.m = nI O.length := g.2.2.2.1.1.1
  obtain ⟨p, f⟩ := s
  have hs' : f = none := hs
  subst hs'
  have ht := g.1.2.2.2.1 rfl
  have i121 := g.1.2.1
  have e800 := g.1.2.2.1
  have i120 : U.I 120 i.m = nI p := ht.1
  have pe : p ≤ i.e := ht.2.2.1
  cases k with
  | zero =>
    have o5 : O.length = 5 := hO
    have fa : ∀ (mr sr : Nat), c_160_31 (ox_M sp (d + 6)) i.m 0 (nI p) i.m U mr sr Q := fun mr sr => by
      refine f_160_31 hE ⟨by decide, k14, by decide, 0, 0, Nat.zero_le _, Nat.zero_le _, ?_⟩
      refine s_150 hsp g.1 (fun S1 f1 m1 => f_160_34 hE ⟨fun _ => ⟨by decide, m1.1.1, by decide, 0, 0, Nat.zero_le _, Nat.zero_le _, ?_⟩, fun z => absurd rfl z⟩)
      refine s_151 (lo := 0) (hi := 255) hsp m1 (by decide) (by decide) (fun S2 r f2 m2 _ _ => ?_)
      have m2' : mtS S2 i.m i.ce i.b i.e (p, some p) := m2
      have r1 : rF i S1 p := g.tkf f1 m1
      have r2 : rF i S2 p := ⟨⟨p, m2'⟩, r1.2.1.trans (kR.tk f2), r1.2.2.choose, (f2.2.2.2.2.2.2.2.2 75 i.m (Or.inr (by omega))).trans r1.2.2.choose_spec.1, r1.2.2.choose_spec.2⟩
      exact k160_57f hsp m2.1.1 (m2'.2.2.2.2.1 p rfl).1 (hQ S2 (hF p rfl S2 r2))
    refine f_160 hsp ⟨by rw [k14]; rfl, fun z => absurd (by rw [i122, o5]; rfl) z, fun _ => ⟨by rw [k14]; rfl, by rw [k14]; rfl, fun z => ⟨by rw [k14]; rfl, ?_⟩, fun z => ⟨by rw [k14]; rfl, ?_⟩⟩⟩
    · rw [i121, i120] at z
      have le := (nI_leI (by omega) (by omega)).mp z
      have ep : i.e = p := by omega
      rw [i121, ep]
      exact fa _ _
    · rw [i120]
      exact fa _ _
  | succ k =>
    have ro' := ro k rfl
    refine f_160 hsp ⟨by rw [k14]; rfl, fun _ => f_160_34 hE ⟨fun _ => ⟨by decide, k14, by decide, 0, 0, Nat.zero_le _, Nat.zero_le _, ?_⟩, fun z => absurd rfl z⟩, fun z => ?_⟩
    · refine s_151 (lo := 0) (hi := 255) hsp g.1 (by decide) (by decide) (fun S1 r f1 m1 u1 u2 => ?_)
      by_cases z : p < i.e
      · have b256 := (g.1.2.2.2.2.2 p z).2
        have eb : bwS i.b i.e 0 255 (p, none) = (p + 1, none) := if_pos ⟨z, Nat.zero_le _, by show i.b p ≤ 255; omega⟩
        have ur : r = nI (i.b p) := u1 (by rw [eb])
        rw [eb] at m1
        have er : rdO i.b i.e (k + 1) (p, none) h = rdB i.b i.e (rdO i.b i.e k) p h := if_pos ⟨rfl, z⟩
        rw [er] at hF hD
        rw [ur]
        have g1 := g.tk (n' := (rVp O).length) f1 m1 (Nat.le_succ p) (by omega) (by omega)
        exact r160_57 hsp lm hK (by omega) ro' g1 g.2.2.2.2.2.2.2.2 (by omega) z (Or.inl hO1) hF hD hQ
      · have eb : bwS i.b i.e 0 255 (p, none) = (p, some p) := if_neg (fun w => z w.1)
        rw [eb] at m1
        have er : rdO i.b i.e (k + 1) (p, none) h = (rfS (p, none), h, 0) := if_neg (fun w => z w.2)
        rw [er] at hF
        exact k160_57f hsp m1.1.1 (m1.2.2.2.2.1 p rfl).1 (hQ S1 (hF p rfl S1 (g.tkf f1 m1)))
    · rw [i122] at z
      exact absurd ((nI_eq (b := 5) (by omega) (by decide)).mp z) (by omega)
/-- the loop, one turn -/
def rLp (sp : ox_E) (d : Nat) (i : rFi) (LH : ox_St → Prop) : Prop := ∀ U g, oML U i.m i.ce → U.I 132 i.m = 0 → U.I 122 i.m = nI (g + 1) → g < 5 → (∀ mr sr Q, (∀ V, LH V → Q none V) → ox_M sp (d + 7) 160 [.inr (.inr i.m), .inl 0] mr sr U Q) → LH U
theorem rRO_all (hsp : ox_mono sp) (lm : rLm i.q i.e) (hK : ∀ V, LH V → V.K i.m = 14) (lp : rLp sp d i LH) : ∀ k, k ≤ 4 → rRO sp d i LH k := by
  intro k
  induction k with
  | zero =>
    intro _ U s γ B T h O Bn Kn Wn g hs hO hO1 hF hD
    have o5 : O.length = 5 := hO
    exact lp U 4 g.ml (g.1.2.2.2.1 hs).2.1 (by rw [g.2.2.2.1.1.1, o5]) (by omega) (fun mr sr Q hQ => r_160 hsp lm hK (fun k' hk' => by omega) g hs hO hO1 hF hD hQ)
  | succ k ih =>
    intro hk U s γ B T h O Bn Kn Wn g hs hO hO1 hF hD
    exact lp U (3 - k) g.ml (g.1.2.2.2.1 hs).2.1 (by rw [g.2.2.2.1.1.1]; exact congrArg nI (by omega)) (by omega) (fun mr sr Q hQ => r_160 hsp lm hK (fun k' hk' => by cases hk'; exact ih (by omega)) g hs hO hO1 hF hD hQ)
/-- the root is there -/
theorem rWd_0 (hsp : ox_mono sp) {w : Int32} {n : Nat} (g : rG i U s γ B T h [] Bn Kn Wn n) (hs : s.2 = none) (hL : LH (U.sI 125 i.m w)) : rWd sp d i LH w U := by
  intro x1 mr sr Q hQ
  have hE : ox_mono (ox_M sp (d + 5)) := ox_M_mono hsp _
  have k14 := g.k
  have ht := g.1.2.2.2.1 hs
  have i122 : U.I 122 i.m = nI 0 := g.2.2.2.1.1.1
  exact f_158_4 hE ⟨fun z => absurd z (by decide), fun _ => ⟨by rw [k14]; rfl, fun z => absurd ht.2.1 z, fun _ => ⟨by rw [k14]; rfl, fun z => absurd i122 z, fun _ => ⟨by rw [k14]; rfl, rfl, hQ _ hL⟩⟩⟩⟩
/-- readObject, the first: what the tape holds -/
theorem r_160r (hsp : ox_mono sp) (lm : rLm i.q i.e) (hK : ∀ V, LH V → V.K i.m = 14) (lp : rLp sp d i LH) (g : rG i U (0, none) γ B T h [] Bn Kn Wn 0)
    (hF : ∀ v, ((bwS i.b i.e 99 99 (0, none)).2 = some v ∨ ((bwS i.b i.e 99 99 (0, none)).2 = none ∧ (rdC i.b i.e (rdO i.b i.e 4) (1, none) h).1.2 = some v)) → ∀ V, rF i V v → LH V)
    (hD : (bwS i.b i.e 99 99 (0, none)).2 = none → (rdC i.b i.e (rdO i.b i.e 4) (1, none) h).1.2 = none → ∀ V γ' B' T' Bn' Kn' Wn', rG i V (rdC i.b i.e (rdO i.b i.e 4) (1, none) h).1 γ' B' T' (rdC i.b i.e (rdO i.b i.e 4) (1, none) h).2.1 [] Bn' Kn' Wn' 1 → LH (V.sI 125 i.m (gV γ' (rdC i.b i.e (rdO i.b i.e 4) (1, none) h).2.2)))
    (hQ : ∀ V, LH V → Q none V) : ox_M sp (d + 7) 160 [.inr (.inr i.m), .inl 1] mr sr U Q := by
  have hE : ox_mono (ox_M sp (d + 6)) := ox_M_mono hsp _
  have k14 := g.k
  have i122 : U.I 122 i.m = nI 0 := g.2.2.2.1.1.1
  refine f_160 hsp ⟨by rw [k14]; rfl, fun _ => f_160_34 hE ⟨fun z => absurd z (by decide), fun _ => ⟨by decide, k14, by decide, 0, 0, Nat.zero_le _, Nat.zero_le _, ?_⟩⟩, fun z => absurd (i122.symm.trans z) (by decide)⟩
  refine s_151 (lo := 99) (hi := 99) hsp g.1 (by decide) (by decide) (fun S1 r f1 m1 u1 u2 => f_160_46 hE ?_)
  by_cases z : (bwS i.b i.e 99 99 (0, none)).2 = none
  · obtain ⟨-, n2, n3, -⟩ := bwS_none z
    have n2' : 0 < i.e ∧ 99 ≤ i.b 0 ∧ i.b 0 ≤ 99 := n2
    have b99 : i.b 0 = 99 := by omega
    have ur : r = nI (i.b 0) := u1 z
    have n3' : bwS i.b i.e 99 99 (0, none) = (0 + 1, none) := n3
    rw [n3'] at m1
    rw [ur]
    have g1 := g.tk (n' := 0) f1 m1 (by show 0 ≤ 0 + 1; omega) (by omega) (by omega)
    have eB : rdB i.b i.e (rdO i.b i.e 4) 0 h = rdC i.b i.e (rdO i.b i.e 4) (1, none) h := rdB_99 b99
    have rm0 : rRm i.q 0 T h.c Bn Kn Wn (rVp []).length ([] : List rRc).length h.l.length := g.2.2.2.2.2.2.2.2
    refine r160_57 hsp lm hK (by decide) (rRO_all hsp lm hK lp 4 (by decide)) g1 rm0 rfl n2'.1 (Or.inr b99) ?_ ?_ hQ
    · rw [eB]
      exact fun v hv => hF v (Or.inr ⟨z, hv⟩)
    · rw [eB]
      exact fun y V γ' B' T' Bn' Kn' Wn' gg hin => rWd_0 hsp gg y (hD z y V γ' B' T' Bn' Kn' Wn' gg)
  · cases en : (bwS i.b i.e 99 99 (0, none)).2 with
    | none => exact absurd en z
    | some v =>
      have m1' : mtS S1 i.m i.ce i.b i.e ((bwS i.b i.e 99 99 (0, none)).1, some v) := by rw [← en]; exact m1
      exact k160_57f hsp m1.1.1 (m1'.2.2.2.2.1 v rfl).1 (hQ S1 (hF v (Or.inl en) S1 (g.tkf f1 m1')))
end T3
