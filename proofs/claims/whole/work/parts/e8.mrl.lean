/-! the reference reads: one behind the other -/
/-- an object is read, with k levels left -/
def rRO (sp : ox_E) (d : Nat) (i : rFi) (LH : ox_St → Prop) (k : Nat) : Prop := ∀ U s γ B T h O Bn Kn Wn, rG i U s γ B T h O Bn Kn Wn (rVp O).length → s.2 = none → O.length + k = 5 → O ≠ [] → (∀ v, (rdO i.b i.e k s h).1.2 = some v → ∀ V, rF i V v → LH V) → ((rdO i.b i.e k s h).1.2 = none → ∀ V γ' B' T' Bn' Kn' Wn', rG i V (rdO i.b i.e k s h).1 γ' B' T' (rdO i.b i.e k s h).2.1 O Bn' Kn' Wn' ((rVp O).length + 1) → xIn B' (rdO i.b i.e k s h).2.2 → rWd sp d i LH (gV γ' (rdO i.b i.e k s h).2.2) V) → LH U
section RL
variable {sp : ox_E} {d mr sr : Nat} {Q : ox_Q} {LH : ox_St → Prop} {i : rFi} {U V : ox_St} {s s' : oTS} {γ : Int → Nat} {B : List Int} {T : Nat} {h : pH} {O : List rRc} {Bn Kn Wn c ph k : Nat} {its : List Int} {cd : Option Nat} {v : Int}
theorem rRL (hsp : ox_mono sp) (hk : k ≤ 4) (ro : rRO sp d i LH k) (hO : O.length + 1 + k = 5) : ∀ (c : Nat) (its : List Int) (U : ox_St) (s : oTS) (γ : Int → Nat) (B : List Int) (T : Nat) (h : pH) (Bn Kn Wn : Nat), rG i U s γ B T h ((c, its, cd, ph) :: O) Bn Kn Wn (rVp ((c, its, cd, ph) :: O)).length → s.2 = none → c ≤ 12 → (∀ v, (rdL (rdO i.b i.e k) c s h).1.2 = some v → ∀ V, rF i V v → LH V) → ((rdL (rdO i.b i.e k) c s h).1.2 = none → ∀ V γ' B' T' Bn' Kn' Wn', rG i V (rdL (rdO i.b i.e k) c s h).1 γ' B' T' (rdL (rdO i.b i.e k) c s h).2.1 ((0, (rdL (rdO i.b i.e k) c s h).2.2.reverse ++ its, cd, ph) :: O) Bn' Kn' Wn' (rVp ((0, (rdL (rdO i.b i.e k) c s h).2.2.reverse ++ its, cd, ph) :: O)).length → rCW sp d i LH V) → (c = 0 → rCW sp d i LH U) ∧ (c ≠ 0 → LH U) := by
  intro c
  induction c with
  | zero => exact fun its U s γ B T h Bn Kn Wn g hs _ _ hC => ⟨fun _ => hC hs U γ B T Bn Kn Wn g, fun z => absurd rfl z⟩
  | succ c ih =>
    intro its U s γ B T h Bn Kn Wn g hs h12 hF hC
    refine ⟨fun z => by omega, fun _ => ?_⟩
    have hb : ∀ j, j < i.e → i.b j < 256 := fun j hj => (g.1.2.2.2.2.2 j hj).2
    have pe : s.1 ≤ i.e := (g.1.2.2.2.1 hs).2.2.1
    have hH := g.2.2.1.2.2
    refine ro U s γ B T h ((c + 1, its, cd, ph) :: O) Bn Kn Wn g hs hO (List.cons_ne_nil _ _) (fun v hv V hV => ?_) (fun z V γ' B' T' Bn' Kn' Wn' gV' hin => ?_)
    · refine hF v ?_ V hV
      have er : rdL (rdO i.b i.e k) (c + 1) s h = ((rdO i.b i.e k s h).1, (rdO i.b i.e k s h).2.1, []) := if_neg (by rw [hv]; exact fun w => by cases w)
      rw [er]; exact hv
    · have er : rdL (rdO i.b i.e k) (c + 1) s h = ((rdL (rdO i.b i.e k) c (rdO i.b i.e k s h).1 (rdO i.b i.e k s h).2.1).1, (rdL (rdO i.b i.e k) c (rdO i.b i.e k s h).1 (rdO i.b i.e k s h).2.1).2.1, (rdO i.b i.e k s h).2.2 :: (rdL (rdO i.b i.e k) c (rdO i.b i.e k s h).1 (rdO i.b i.e k s h).2.1).2.2) := if_pos z
      rw [er] at hF hC
      obtain ⟨-, -, ok, -⟩ := rdO_G (K := i.K) hb k hk s h hs pe hH z
      have hC' := hC
      simp only [List.reverse_cons, List.append_assoc, List.singleton_append] at hC'
      have key : ∀ W, rG i W (rdO i.b i.e k s h).1 γ' B' T' (rdO i.b i.e k s h).2.1 ((c, (rdO i.b i.e k s h).2.2 :: its, cd, ph) :: O) Bn' Kn' Wn' (rVp ((c, (rdO i.b i.e k s h).2.2 :: its, cd, ph) :: O)).length → (c = 0 → rCW sp d i LH W) ∧ (c ≠ 0 → LH W) := fun W gW => ih _ W _ γ' B' T' _ Bn' Kn' Wn' gW z (by omega) hF hC'
      exact gV'.dv hsp rfl z hin ok (by omega) (fun w W gW => (key W gW).2 w) (fun w W gW => (key W gW).1 w)
theorem k160_225 (hsp : ox_mono sp) {x1 x2 : Int32} (hK : V.K i.m = 14) (h40 : x2 ≠ 40) (h99 : x2 ≠ 99) (hQ : Q none V) : k_160_225 (ox_M sp (d + 6)) i.m x1 x2 mr sr Q none V := by
  have hE : ox_mono (ox_M sp (d + 6)) := ox_M_mono hsp _
  exact f_160_225 hE ⟨by rw [hK]; rfl, fun _ => f_160_266 hE ⟨rfl, hQ⟩, fun _ => ⟨fun z => absurd z h40, fun _ => ⟨fun _ => f_160_266 hE ⟨rfl, hQ⟩, fun z => absurd z h99⟩⟩⟩
theorem k160_225f (hsp : ox_mono sp) {x1 x2 : Int32} (hK : V.K i.m = 14) (h1 : V.I 132 i.m = 1) (hQ : Q none V) : k_160_225 (ox_M sp (d + 6)) i.m x1 x2 mr sr Q none V := by
  have hE : ox_mono (ox_M sp (d + 6)) := ox_M_mono hsp _
  exact f_160_225 hE ⟨by rw [hK]; rfl, fun _ => f_160_266 hE ⟨rfl, hQ⟩, fun z => absurd z (by rw [h1]; decide)⟩
/-- a value is delivered from readObject -/
theorem e158 (hsp : ox_mono sp) {w : Int32} (hW : rWd sp d i LH w U) (hQ : ∀ V, LH V → Q none V) : ox_M sp (d + 6) 158 [.inr (.inr i.m), .inl w] mr sr U Q := f_158 hsp (hW w mr sr Q hQ)
/-- what was begun goes on -/
theorem k160_225o (hsp : ox_mono sp) {x1 x2 : Int32} {n : Nat} (g : rG i U s γ B T h ((c, [], cd, ph) :: O) Bn Kn Wn n) (hs : s.2 = none) (h4 : x2 = 40 ∨ x2 = 99) (c12 : c ≤ 12) (h0 : c = 0 → rCW sp d i LH U) (h1 : c ≠ 0 → LH U) (hQ : ∀ V, LH V → Q none V) : k_160_225 (ox_M sp (d + 6)) i.m x1 x2 mr sr Q none U := by
  have hE : ox_mono (ox_M sp (d + 6)) := ox_M_mono hsp _
  have ht := g.1.2.2.2.1 hs
  have k14 := g.k
  obtain ⟨⟨g4a, g4b, g4c⟩, -⟩ := g.2.2.2.1
  have eo : ((c, [], cd, ph) :: O : List rRc).length = O.length + 1 := rfl
  rw [eo] at g4a g4b
  have r31 : U.rI (i.m + 31) O.length = nI c := g4c.2.1
  obtain ⟨a1, a2, a3⟩ := g.ml.row (F := 127) (o := 31) (k := 15) (n := 8) (by decide +kernel)
  have go : c_160_244 (ox_M sp (d + 6)) i.m x1 x2 U mr sr Q := by
    refine f_160_244 hE ?_
    unfold q_160_244
    rw [k14, a1, a2, a3, g4a, nI_pred, nI_clamp (n := O.length) (by omega), r31]
    refine ⟨rfl, rfl, rfl, vp_in_nI (by omega) (by decide), fun z => f_160_266 hE ⟨rfl, hQ U (h1 (fun y => z (by rw [y]; rfl)))⟩, fun z => ⟨by decide, rfl, by decide, 0, 0, Nat.zero_le _, Nat.zero_le _, ?_⟩⟩
    have z0 : c = 0 := (nI_eq (b := 0) (by omega) (by decide)).mp z
    exact h0 z0 (d + 1) 0 0 _ (fun y W hK hW => f_160_263 hE ⟨by decide, hK, by decide, 0, 0, Nat.zero_le _, Nat.zero_le _, e158 hsp hW (fun V hV => f_160_266 hE ⟨rfl, hQ V hV⟩)⟩)
  exact f_160_225 hE ⟨by rw [k14]; rfl, fun z => absurd ht.2.1 z, fun _ => ⟨fun _ => go, fun z40 => ⟨fun z99 => absurd h4 (fun w => w.elim z40 z99), fun _ => go⟩⟩⟩
theorem mNum_dl {S : ox_St} {a x : Nat} {w : Nat → Nat} {c : Nat} {p : Int32} {N : Int} (hn : mNum S a x w c p) (hd : dc w c) (hN : nv w c p = N) : c = dl 16 N.natAbs := by
  have c16 : c ≤ 16 := hn.2.1
  have pp : p = 0 ∨ p = 1 := by
    rcases hn.2.2 with z | z
    · exact Or.inl z.2.1
    · exact z.2.2.2.2.1
  have lt := dv_lt c hd.1
  have nA : N.natAbs = dv w c := by
    unfold nv at hN
    rcases pp with z | z
    · rw [if_pos z] at hN; omega
    · rw [if_neg (by rw [z]; decide)] at hN; omega
  have b16 : dv w c < 32768 ^ 16 := Nat.lt_of_lt_of_le lt (Nat.pow_le_pow_right (by decide) c16)
  obtain ⟨q1, q2⟩ := dl_dc b16
  rw [nA]
  exact (dc_uniq hd q1 q2.symm).1
theorem rG.num {n n' : Nat} (g : rG i U s γ B T h O Bn Kn Wn n) (f : mpF i.m i.ce T U V) (ht : mtS V i.m i.ce i.b i.e s') {w : Nat → Nat} {c : Nat} {p : Int32} {N : Int} (h75 : V.I 75 i.m = nI (T + 3 + c)) (hn : mNum V (i.m + i.ce) T w c p) (hd : dc w c) (h0 : c = 0 → p = 0) (hN : nv w c p = N) (hab : N.natAbs < 32768 ^ 16) (hT : T + 19 ≤ 1100000) (hr : rRm i.q s'.1 (T + 3 + c) h.c Bn Kn Wn n' O.length h.l.length) : rG i V s' (upA γ h.n T) (h.n :: B) (T + xSz (.inl N)) (h.nw (.inl N)) O Bn Kn Wn n' := by
  have hc := mNum_dl hn hd hN
  have c16 : c ≤ 16 := hn.2.1
  have sz : xSz (.inl N) = 3 + c := by show 3 + dl 16 N.natAbs = _; rw [hc]
  have T16 : 16 ≤ T := g.2.2.1.1.2.2.2.1
  refine g.obj f ht (by rw [sz, h75]; exact congrArg nI (by omega)) ⟨?_, ?_⟩ (fun u hu => by cases hu) hab (by rw [sz]; omega) (by rw [sz, ← Nat.add_assoc]; exact hr)
  · rw [show upA γ h.n T h.n = T from if_pos rfl]; exact T16
  · rw [show upA γ h.n T h.n = T from if_pos rfl]
    exact ⟨w, c, p, hn, hd, h0, hN, hc⟩
end RL
