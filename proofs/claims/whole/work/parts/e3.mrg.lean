/-! the reference reads: all that holds at a place -/
section DP
variable {S : ox_St} {m ce T nc K : Nat} {γ : Int → Nat} {B : List Int} {H : xHp} {n v : Int}
theorem rHp.sort (h : rHp S (m + ce) γ B H T) (hH : xHOk nc K H n) (nc3 : nc ≤ 300) (ok : xOk nc H v) (hB : xIn B v) : (¬ gV γ v < 16 → vp_in (gV γ v) 1100000) ∧ mSort S m ce (gV γ v) = if v < 16 then -1 else Int32.ofInt (xTg H v) := by
  unfold mSort gV
  by_cases z : v < 16
  · have lo : -300 ≤ v := by
      rcases ok with w | w
      · omega
      · cases e1 : H v with
        | none => exact absurd e1 w
        | some o => have := (hH.2 v o e1).1; omega
    have lt : Int32.ofInt v < 16 := ofI_lt (k := 16) (by omega) z (by omega)
    rw [if_pos z, if_pos lt, if_pos z]
    exact ⟨fun w => absurd lt w, rfl⟩
  · obtain ⟨o, e1, h1, h2, h3⟩ := h.cell hB (by omega)
    have sz := xSz_2 o
    have g16 := h1.1
    have nlt : ¬ nI (γ v) < 16 := fun w => by have := (nI_ltI (b := 16) (by omega) (by decide)).mp w; omega
    rw [if_neg z, if_neg nlt, if_neg z, nI_clamp (by omega)]
    exact ⟨fun _ => vp_in_nI (by omega) (by decide), h1.tag (by omega) e1⟩
theorem rHp.deep (h : rHp S (m + ce) γ B H T) (hH : xHOk nc K H n) (nc3 : nc ≤ 300) (ok : xOk nc H v) (hB : xIn B v) : mDeep S m ce (gV γ v) (xDep H v) := by
  obtain ⟨h1, h2⟩ := h.sort hH nc3 ok hB
  refine ⟨h1, fun z => ?_, fun z => ?_, ?_⟩
  · rw [h2] at z
    by_cases v16 : v < 16
    · rw [if_pos v16] at z; exact absurd z (by decide)
    · rw [if_neg v16] at z
      obtain ⟨o, e1, r1, r2, r3⟩ := h.cell hB (by omega)
      have eg : gV γ v = nI (γ v) := if_neg v16
      have g16 := r1.1
      have sz := xSz_2 o
      rw [xTg_o (by omega) e1] at z
      match o, e1, r1, r2, z with
      | .inl _, _, _, _, z => exact absurd (show Int32.ofInt 3 = 4 from z) (by decide)
      | .inr (.inl p), e1, ⟨_, r1⟩, r2, _ =>
        have n1 : nI (γ v) + 1 = nI (γ v + 1) := nI_1 _
        have ed : xDep H v = p.2 := by unfold xDep; rw [e1]
        have sz3 : xSz (.inr (.inl p)) = 3 + p.1.length := rfl
        rw [eg, n1, nI_clamp (by omega), ed]
        exact ⟨vp_in_nI (by omega) (by decide), r1.2.1⟩
      | .inr (.inr (.inl _)), _, _, _, z => exact absurd (show Int32.ofInt 5 = 4 from z) (by decide)
      | .inr (.inr (.inr (.inl _))), _, _, _, z => exact absurd (show Int32.ofInt 6 = 4 from z) (by decide)
      | .inr (.inr (.inr (.inr _))), _, _, _, z => exact absurd (show Int32.ofInt 7 = 4 from z) (by decide)
  · unfold xDep
    cases e1 : H v with
    | none => rfl
    | some o =>
      have h16 := (hH.2 v o e1).1
      rw [h2, if_neg (by omega), xTg_o h16 e1] at z
      match o, z with
      | .inl _, _ => rfl
      | .inr (.inl p), z => exact absurd rfl z
      | .inr (.inr (.inl _)), _ => rfl
      | .inr (.inr (.inr (.inl _))), _ => rfl
      | .inr (.inr (.inr (.inr _))), _ => rfl
  · unfold xDep
    cases e1 : H v with
    | none => exact (by decide : 0 < 2 ^ 31)
    | some o =>
      have ob := (hH.2 v o e1).2.2
      match o, ob with
      | .inl _, _ => exact (by decide : 0 < 2 ^ 31)
      | .inr (.inl p), ob => have := ob.2.2.1; show p.2 < 2 ^ 31; omega
      | .inr (.inr (.inl _)), _ => exact (by decide : 0 < 2 ^ 31)
      | .inr (.inr (.inr (.inl _))), _ => exact (by decide : 0 < 2 ^ 31)
      | .inr (.inr (.inr (.inr _))), _ => exact (by decide : 0 < 2 ^ 31)
end DP
/-- how many of them are codes -/
def rOn : List rRc → Nat
  | [] => 0
  | r :: O => (if r.2.2.1 = none then 0 else 1) + rOn O
/-- where the codes' constants lie: those of the codes done -/
def rG7 (U : ox_St) (m : Nat) (h : pH) (O : List rRc) (c0 K0 Kn : Nat) : Prop := (∀ c ∈ h.l, c < h.c ∧ ∀ r ∈ O, r.2.2.1 ≠ some c) ∧ (∀ r ∈ O, ∀ c, r.2.2.1 = some c → c0 ≤ c) ∧ c0 + h.l.length + rOn O ≤ h.c ∧ ∀ i, K0 ≤ i → i < Kn → ∃ c ∈ h.l, ∃ k, U.rI (m + 9) c = nI k ∧ k ≤ i ∧ i < k + (h.C c).2.1.length
/-- the room that there is at p: codes, bytes, constants, names, cells that there were; n values, o open, l codes done -/
def rRm (q : Nat × Nat × Nat × Nat × Nat) (p T c Bn Kn Wn n o l : Nat) : Prop := (q.1 ≤ c ∧ 9 * c ≤ 9 * q.1 + p) ∧ (q.2.1 ≤ Bn ∧ Bn ≤ q.2.1 + p) ∧ (q.2.2.1 ≤ Kn ∧ Kn + n + o ≤ q.2.2.1 + p) ∧ (q.2.2.2.1 ≤ Wn ∧ Wn ≤ q.2.2.2.1 + p) ∧ (q.2.2.2.2 ≤ T ∧ T + n + 4 * o ≤ q.2.2.2.2 + 2 * p) ∧ n + o + l ≤ p
def rLm (q : Nat × Nat × Nat × Nat × Nat) (e : Nat) : Prop := 9 * q.1 + e ≤ 2600 ∧ q.2.1 + e ≤ 2090 ∧ q.2.2.1 + e ≤ 2090 ∧ q.2.2.2.1 + e ≤ 2090 ∧ q.2.2.2.2 + 2 * e + 40 ≤ 1100000
/-- what is fixed while one tape is read: the bytes, their count, the bound, the machine, its cells, the state before, its places, its objects, what there was -/
abbrev rFi : Type := (Nat → Nat) × Nat × Nat × Nat × Nat × ox_St × (Int → Nat) × List Int × (Nat × Nat × Nat × Nat × Nat)
def rFi.b (i : rFi) : Nat → Nat := i.1
def rFi.e (i : rFi) : Nat := i.2.1
def rFi.K (i : rFi) : Nat := i.2.2.1
def rFi.m (i : rFi) : Nat := i.2.2.2.1
def rFi.ce (i : rFi) : Nat := i.2.2.2.2.1
def rFi.S (i : rFi) : ox_St := i.2.2.2.2.2.1
def rFi.γ (i : rFi) : Int → Nat := i.2.2.2.2.2.2.1
def rFi.B (i : rFi) : List Int := i.2.2.2.2.2.2.2.1
def rFi.q (i : rFi) : Nat × Nat × Nat × Nat × Nat := i.2.2.2.2.2.2.2.2
/-- all that holds: the reading at s, objects and codes h, open O, n values (with the one at hand) -/
def rG (i : rFi) (U : ox_St) (s : oTS) (γ : Int → Nat) (B : List Int) (T : Nat) (h : pH) (O : List rRc) (Bn Kn Wn n : Nat) : Prop := mtS U i.m i.ce i.b i.e s ∧ kR i.S U i.m i.ce i.q ∧ rG2 i.K U i.m i.ce γ B T h ∧ rG3 U i.m γ B h O ∧ rG5 i.b i.e U i.m γ B h O Bn Kn Wn ∧ rG6 U i.m h.l ∧ rG7 U i.m h O i.q.1 i.q.2.2.1 Kn ∧ (∀ v, xIn i.B v → gV γ v = gV i.γ v ∧ xIn B v) ∧ rRm i.q s.1 T h.c Bn Kn Wn n O.length h.l.length
/-- a fault -/
def rF (i : rFi) (U : ox_St) (v : Nat) : Prop := (∃ p, mtS U i.m i.ce i.b i.e (p, some v)) ∧ kR i.S U i.m i.ce i.q ∧ ∃ T, U.I 75 i.m = nI T ∧ i.q.2.2.2.2 ≤ T ∧ T ≤ 1100000
section RG
variable {i : rFi} {U V : ox_St} {s s' : oTS} {γ : Int → Nat} {B : List Int} {T : Nat} {h : pH} {O : List rRc} {Bn Kn Wn n : Nat}
theorem rG.k (g : rG i U s γ B T h O Bn Kn Wn n) : U.K i.m = 14 := g.1.1.1
theorem rG.ml (g : rG i U s γ B T h O Bn Kn Wn n) : oML U i.m i.ce := g.1.1
theorem rG.c23 (g : rG i U s γ B T h O Bn Kn Wn n) : i.ce = 2 ∨ i.ce = 3 := g.1.1.2.2.1
theorem rRm.go {q : Nat × Nat × Nat × Nat × Nat} {p p' c o l n' : Nat} (r : rRm q p T c Bn Kn Wn n o l) (hp : p ≤ p') (hn : n' ≤ n + (p' - p)) (h2 : n' ≤ n + 1) : rRm q p' T c Bn Kn Wn n' o l := by
  obtain ⟨⟨a1, a2⟩, ⟨b1, b2⟩, ⟨c1, c2⟩, ⟨d1, d2⟩, ⟨e1, e2⟩, f⟩ := r
  exact ⟨⟨a1, by omega⟩, ⟨b1, by omega⟩, ⟨c1, by omega⟩, ⟨d1, by omega⟩, ⟨e1, by omega⟩, by omega⟩
/-- only the tape moves -/
theorem rG.tk {n' : Nat} (g : rG i U s γ B T h O Bn Kn Wn n) (f : tkF i.m U V) (ht : mtS V i.m i.ce i.b i.e s') (hp : s.1 ≤ s'.1) (hn : n' ≤ n + (s'.1 - s.1)) (h2 : n' ≤ n + 1) : rG i V s' γ B T h O Bn Kn Wn n' := by
  obtain ⟨g1, g2, ⟨g3, g3a, g3b⟩, g4, g5, g6, g7, g8, g9⟩ := g
  have er : V.rI = U.rI := f.2.2.2.2.2.2.2.1
  have eJ : V.rJ = U.rJ := f.2.2.2.2.2.2.1
  have eI : ∀ F, F ≠ 70 ∧ F ≠ 120 ∧ F ≠ 132 → V.I F i.m = U.I F i.m := fun F hF => f.2.2.2.2.2.2.2.2 F i.m (Or.inr hF)
  exact ⟨ht, g2.trans (kR.tk f), ⟨g3.next (fun j _ => by rw [er]), (eI 75 (by omega)).trans g3a, g3b⟩, g4.next (fun F hF => eI F (by omega)) (fun o _ _ => by rw [er]) (fun v z1 z2 => ⟨rfl, z1, z2⟩), g5.next (fun F hF => eI F (by omega)) (fun o _ _ => by rw [er]) (by rw [eJ]) rfl rfl (fun v z => ⟨rfl, z⟩), g6.next (eI 124 (by omega)) (by rw [er]), ⟨g7.1, g7.2.1, g7.2.2.1, by rw [er]; exact g7.2.2.2⟩, g8, g9.go hp hn h2⟩
/-- a fault, where only the tape moves -/
theorem rG.tkf {v p : Nat} (g : rG i U s γ B T h O Bn Kn Wn n) (f : tkF i.m U V) (ht : mtS V i.m i.ce i.b i.e (p, some v)) : rF i V v :=
  ⟨⟨p, ht⟩, g.2.1.trans (kR.tk f), T, (f.2.2.2.2.2.2.2.2 75 i.m (Or.inr (by omega))).trans g.2.2.1.2.1, g.2.2.2.2.2.2.2.2.2.2.2.2.1.1, g.2.2.1.1.2.2.2.2⟩
/-- a new object -/
theorem rG.obj {o : xOb} {n' : Nat} (g : rG i U s γ B T h O Bn Kn Wn n) (f : mpF i.m i.ce T U V) (ht : mtS V i.m i.ce i.b i.e s') (h75 : V.I 75 i.m = nI (T + xSz o)) (ho : rO V (i.m + i.ce) (upA γ h.n T) h.n o) (hcl : ∀ u ∈ xRf o, xIn B u) (hok : xObOk h.c i.K h.H o) (hT : T + xSz o ≤ 1100000) (hr : rRm i.q s'.1 (T + xSz o) h.c Bn Kn Wn n' O.length h.l.length) : rG i V s' (upA γ h.n T) (h.n :: B) (T + xSz o) (h.nw o) O Bn Kn Wn n' := by
  have c23 := g.c23
  obtain ⟨g1, g2, ⟨g3, g3a, g3b⟩, g4, g5, g6, g7, g8, g9⟩ := g
  obtain ⟨f1, f2, f3, f4, f5, f6, f7, f8, f9, f10⟩ := id f
  have eI : ∀ F, F ≠ 70 ∧ F ≠ 75 ∧ F ≠ 120 ∧ F ≠ 132 ∧ (F < 113 ∨ 119 < F) → V.I F i.m = U.I F i.m := fun F hF => f8 F i.m (Or.inr hF)
  have er : ∀ o, 4 ≤ o → o ≠ 26 → o ≠ 27 → o ≠ 28 → o ≠ 29 → V.rI (i.m + o) = U.rI (i.m + o) := fun o z1 z2 z3 z4 z5 => f9 _ (by omega) (by omega)
  have lt : ∀ v, xIn B v → gV (upA γ h.n T) v = gV γ v ∧ xIn (h.n :: B) v := fun v hv => ⟨gV_new (g3.lt g3b hv), hv.mono (fun _ w => List.mem_cons_of_mem _ w)⟩
  have le := xNew_le g3b o
  exact ⟨ht, g2.trans (kR.mp c23 f g9.2.2.2.2.1.1), ⟨g3.mk g3b f10 ho hcl hT, h75, xNew_ok g3b hok⟩, g4.next (fun F hF => eI F (by omega)) (fun o _ _ => er o (by omega) (by omega) (by omega) (by omega) (by omega)) (fun v z1 z2 => ⟨(lt v z2).1, le.ok z1, (lt v z2).2⟩), g5.next (fun F hF => eI F (by omega)) (fun o _ _ => er o (by omega) (by omega) (by omega) (by omega) (by omega)) (by rw [f7]) rfl rfl lt, g6.next (eI 124 (by omega)) (er 35 (by omega) (by omega) (by omega) (by omega) (by omega)), ⟨g7.1, g7.2.1, g7.2.2.1, by rw [er 9 (by omega) (by omega) (by omega) (by omega) (by omega)]; exact g7.2.2.2⟩, fun v hv => ⟨(lt v (g8 v hv).2).1.trans (g8 v hv).1, (lt v (g8 v hv).2).2⟩, hr⟩
end RG
