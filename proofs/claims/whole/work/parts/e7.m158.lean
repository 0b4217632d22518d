/-! the reference reads: a value is there -/
/-- the value w is delivered, and the loop goes on -/
def rWd (sp : ox_E) (d : Nat) (i : rFi) (LH : ox_St → Prop) (w : Int32) (U : ox_St) : Prop := ∀ (x1 : Int32) (mr sr : Nat) (Q : ox_Q), (∀ V, LH V → Q none V) → c_158_4 (ox_M sp (d + 5)) i.m x1 w 1 U mr sr Q
/-- what is open is full: it is closed, and delivered -/
def rCW (sp : ox_E) (d : Nat) (i : rFi) (LH : ox_St → Prop) (U : ox_St) : Prop := ∀ (d' mr sr : Nat) (Q : ox_Q), (∀ y V, V.K i.m = 14 → rWd sp d i LH y V → Q (some (.inl y)) V) → ox_M sp (d' + 5) 159 [.inr (.inr i.m)] mr sr U Q
section W8
variable {sp : ox_E} {d mr sr : Nat} {Q : ox_Q} {LH : ox_St → Prop} {i : rFi} {U V : ox_St} {s s' : oTS} {γ : Int → Nat} {B : List Int} {T : Nat} {h : pH} {O : List rRc} {Bn Kn Wn c ph : Nat} {its : List Int} {cd : Option Nat} {v : Int}
theorem rG.push {n : Nat} (g : rG i U s γ B T h ((c + 1, its, cd, ph) :: O) Bn Kn Wn n) (hv : xIn B v) (ok : xOk h.c h.H v) (kr : kR U V i.m i.ce i.q) (hI : ∀ F, F ≠ 123 → V.I F i.m = U.I F i.m) (i123 : V.I 123 i.m = nI ((its ++ rVp O).length + 1)) (hr : ∀ o, o ≠ 31 → o ≠ 34 → V.rI (i.m + o) = U.rI (i.m + o)) (r31 : ∀ z, V.rI (i.m + 31) z = if z = O.length then nI c else U.rI (i.m + 31) z) (r34 : ∀ z, V.rI (i.m + 34) z = if z = (its ++ rVp O).length then gV γ v else U.rI (i.m + 34) z) (hJ : V.rJ = U.rJ) : rG i V s γ B T h ((c, v :: its, cd, ph) :: O) Bn Kn Wn n := by
  obtain ⟨g1, g2, ⟨g3, g3a, g3b⟩, ⟨⟨g4a, g4b, g4c⟩, g4d, g4e, g4f⟩, ⟨⟨g5a, g5b, g5c, g5d⟩, g5e, g5f, g5g⟩, ⟨g6a, g6b⟩, ⟨g7a, g7c, g7d, g7b⟩, g8, g9⟩ := g
  have ev : rVp ((c + 1, its, cd, ph) :: O) = its ++ rVp O := rfl
  have ev2 : rVp ((c, v :: its, cd, ph) :: O) = v :: (its ++ rVp O) := rfl
  have c23 := g1.1.2.2.1
  rw [ev] at g4e g4f
  have mem : ∀ (p : Option Nat → Nat → Prop), (∀ r ∈ ((c + 1, its, cd, ph) :: O : List rRc), p r.2.2.1 r.2.2.2) → ∀ r ∈ ((c, v :: its, cd, ph) :: O : List rRc), p r.2.2.1 r.2.2.2 := fun p hp r hr => by
    rcases List.mem_cons.mp hr with y | y
    · rw [y]; exact hp (c + 1, its, cd, ph) List.mem_cons_self
    · exact hp r (List.mem_cons_of_mem _ y)
  have mem' : ∀ (p : Option Nat → Nat → Prop), (∀ r ∈ ((c, v :: its, cd, ph) :: O : List rRc), p r.2.2.1 r.2.2.2) → ∀ r ∈ ((c + 1, its, cd, ph) :: O : List rRc), p r.2.2.1 r.2.2.2 := fun p hp r hr => by
    rcases List.mem_cons.mp hr with y | y
    · rw [y]; exact hp (c, v :: its, cd, ph) List.mem_cons_self
    · exact hp r (List.mem_cons_of_mem _ y)
  obtain ⟨o1, o2, o3, o4, o5⟩ := g4c
  refine ⟨?_, g2.trans kr, ⟨g3.next (fun j _ => by rw [hr _ (by omega) (by omega)]), (hI 75 (by decide)).trans g3a, g3b⟩, ⟨⟨(hI 122 (by decide)).trans g4a, g4b, ?_⟩, ?_, ?_, ?_⟩, ⟨⟨(hI 76 (by decide)).trans g5a, (hI 86 (by decide)).trans g5b, (hI 87 (by decide)).trans g5c, (hI 88 (by decide)).trans g5d⟩, fun z hz ho => ?_, ?_, g5g⟩, ⟨(hI 124 (by decide)).trans g6a, fun j hj => by rw [hr _ (by omega) (by omega)]; exact g6b j hj⟩, ⟨fun z hz => ⟨(g7a z hz).1, mem (fun a _ => a ≠ some z) (g7a z hz).2⟩, mem (fun a _ => ∀ c, a = some c → i.q.1 ≤ c) g7c, g7d, by rw [hr 9 (by omega) (by omega)]; exact g7b⟩, g8, g9⟩
  · obtain ⟨a1, a2, a3, a4, a5, a6⟩ := g1
    exact ⟨a1.next kr.1 kr.2.1 (fun F => by rw [kr.2.2.2.1]), (hI 121 (by decide)).trans a2, a3, fun z => by rw [hI 120 (by decide), hI 132 (by decide), hI 70 (by decide)]; exact a4 z, fun v hv => by rw [hI 132 (by decide), hI 70 (by decide)]; exact a5 v hv, fun j hj => by rw [hr _ (by omega) (by omega)]; exact a6 j hj⟩
  · refine ⟨by rw [hr 30 (by omega) (by omega)]; exact o1, by rw [r31, if_pos rfl], by rw [hr 32 (by omega) (by omega)]; exact o3, fun c hc => by rw [hr 33 (by omega) (by omega)]; exact o4 c hc, o5.row _ (fun o j z1 z2 z3 => ?_)⟩
    by_cases w : o = 31
    · rw [w, r31, if_neg (by omega)]
    · rw [hr o w (by omega)]
  · rw [ev2]; exact i123
  · rw [ev2]
    exact ⟨by rw [r34, if_pos rfl], g4e.row _ (fun j hj => by rw [r34, if_neg (by omega)]) (fun _ _ => rfl)⟩
  · rw [ev2]
    intro u hu
    rcases List.mem_cons.mp hu with y | y
    · rw [y]; exact ⟨ok, hv⟩
    · exact g4f u y
  · obtain ⟨k1, k2⟩ := g5e z hz (mem' (fun a _ => a ≠ some z) ho)
    exact ⟨k1.next (fun o _ _ => by rw [hr _ (by omega) (by omega)]) (fun _ _ => by rw [hr _ (by omega) (by omega)]) (fun _ _ => by rw [hr _ (by omega) (by omega)]) (fun _ _ => by rw [hJ]) (fun _ _ => rfl) (Nat.le_refl _) (Nat.le_refl _) (Nat.le_refl _), k2⟩
  · refine mem (fun a p => ∀ c, a = some c → c < h.c ∧ hRw i.b i.e V i.m c p Bn) (fun r hr' z hz => ?_)
    obtain ⟨k1, k2⟩ := g5f r hr' z hz
    exact ⟨k1, k2.next (fun o _ _ => by rw [hr _ (by omega) (by omega)]) (fun _ _ => by rw [hr _ (by omega) (by omega)]) (Nat.le_refl _)⟩
/-- whole: a value for what is open -/
theorem rG.dv (hsp : ox_mono sp) {n : Nat} (g : rG i U s γ B T h ((c + 1, its, cd, ph) :: O) Bn Kn Wn n) (en : n = (rVp ((c + 1, its, cd, ph) :: O)).length + 1) (hs : s.2 = none) (hv : xIn B v) (ok : xOk h.c h.H v) (c12 : c ≤ 12)
    (hL : c ≠ 0 → ∀ V, rG i V s γ B T h ((c, v :: its, cd, ph) :: O) Bn Kn Wn (rVp ((c, v :: its, cd, ph) :: O)).length → LH V)
    (hC : c = 0 → ∀ V, rG i V s γ B T h ((c, v :: its, cd, ph) :: O) Bn Kn Wn (rVp ((c, v :: its, cd, ph) :: O)).length → rCW sp d i LH V) : rWd sp d i LH (gV γ v) U := by
  intro x1 mr sr Q hQ
  have hE : ox_mono (ox_M sp (d + 5)) := ox_M_mono hsp _
  have c23 := g.c23
  have k14 := g.k
  have ml := g.ml
  have ht := g.1.2.2.2.1 hs
  have e800 := g.1.2.2.1
  obtain ⟨⟨g4a, g4b, g4c⟩, g4d, g4e, g4f⟩ := g.2.2.2.1
  have ev : rVp ((c + 1, its, cd, ph) :: O) = its ++ rVp O := rfl
  have eo : ((c + 1, its, cd, ph) :: O : List rRc).length = O.length + 1 := rfl
  rw [ev] at g4d en
  rw [eo] at g4a g4b
  have x11 := g.2.2.2.2.2.2.2.2.2.2.2.2.2
  have ev2 : (rVp ((c, v :: its, cd, ph) :: O)).length = n := en.symm
  rw [ev2] at hL hC
  have vl : (its ++ rVp O).length < 900 := by omega
  have g31 : U.rI (i.m + 31) O.length = nI (c + 1) := g4c.2.1
  obtain ⟨a1, a2, a3⟩ := ml.row (F := 130) (o := 34) (k := 15) (n := 900) (by decide +kernel)
  refine f_158_4 hE ⟨fun z => absurd z (by decide), fun _ => ⟨by rw [k14]; rfl, fun z => absurd ht.2.1 z, fun _ => ⟨by rw [k14]; rfl, fun _ => ?_, fun z => ?_⟩⟩⟩
  · rw [k14, a1, a2, a3, g4d, nI_clamp (n := (its ++ rVp O).length) (by omega)]
    refine ⟨rfl, rfl, rfl, vp_in_nI vl (by decide), ?_⟩
    have kr1 : kR U (U.wI (i.m + 34) (its ++ rVp O).length (gV γ v)) i.m i.ce i.q := kR.refl.wI c23 (by unfold kRw; omega)
    have I1 : (U.wI (i.m + 34) (its ++ rVp O).length (gV γ v)).I = U.I := or_wI_I _ _ _ _
    have J1 : (U.wI (i.m + 34) (its ++ rVp O).length (gV γ v)).rJ = U.rJ := or_wI_rJ _ _ _ _
    have R1 : ∀ a z, (U.wI (i.m + 34) (its ++ rVp O).length (gV γ v)).rI a z = if a = i.m + 34 ∧ z = (its ++ rVp O).length then gV γ v else U.rI a z := fun a z => or_wI_rI _ _ _ _ _ _
    intro S1
    have e1 : S1 = U.wI (i.m + 34) (its ++ rVp O).length (gV γ v) := rfl
    clear_value S1
    rw [← e1] at kr1 I1 J1 R1
    clear e1
    have ml1 : oML S1 i.m i.ce := ml.next kr1.1 kr1.2.1 (fun F => by rw [kr1.2.2.2.1])
    rw [ml1.1, I1, g4d, nI_1]
    refine ⟨rfl, rfl, ?_⟩
    have kr2 : kR U (S1.sI 123 i.m (nI ((its ++ rVp O).length + 1))) i.m i.ce i.q := kr1.sI (by unfold kRf; omega)
    have I2 : ∀ F a, (S1.sI 123 i.m (nI ((its ++ rVp O).length + 1))).I F a = if F = 123 ∧ a = i.m then nI ((its ++ rVp O).length + 1) else U.I F a := fun F a => by rw [or_sI_I, I1]
    have J2 : (S1.sI 123 i.m (nI ((its ++ rVp O).length + 1))).rJ = U.rJ := (or_sI_rJ _ _ _ _).trans J1
    have R2 : (S1.sI 123 i.m (nI ((its ++ rVp O).length + 1))).rI = S1.rI := or_sI_rI _ _ _ _
    intro S2
    have e2 : S2 = S1.sI 123 i.m (nI ((its ++ rVp O).length + 1)) := rfl
    clear_value S2
    rw [← e2] at kr2 I2 J2 R2
    clear e2
    have ml2 : oML S2 i.m i.ce := ml.next kr2.1 kr2.2.1 (fun F => by rw [kr2.2.2.2.1])
    obtain ⟨b1, b2, b3⟩ := ml2.row (F := 127) (o := 31) (k := 15) (n := 8) (by decide +kernel)
    have i122 : S2.I 122 i.m = nI (O.length + 1) := ((I2 _ _).trans (if_neg (fun y => absurd y.1 (by decide)))).trans g4a
    have q31 : S2.rI (i.m + 31) O.length = nI (c + 1) := by rw [R2, R1, if_neg (fun y => by have := y.1; omega)]; exact g31
    rw [ml2.1, b1, b2, b3, i122, nI_pred, nI_clamp (n := O.length) (by omega), q31, nI_pred]
    refine ⟨rfl, rfl, rfl, vp_in_nI (by omega) (by decide), rfl, vp_in_nI (by omega) (by decide), ?_⟩
    have kr3 : kR U (S2.wI (i.m + 31) O.length (nI c)) i.m i.ce i.q := kr2.wI c23 (by unfold kRw; omega)
    have I3 : (S2.wI (i.m + 31) O.length (nI c)).I = S2.I := or_wI_I _ _ _ _
    have J3 : (S2.wI (i.m + 31) O.length (nI c)).rJ = U.rJ := (or_wI_rJ _ _ _ _).trans J2
    have R3 : ∀ a z, (S2.wI (i.m + 31) O.length (nI c)).rI a z = if a = i.m + 31 ∧ z = O.length then nI c else S2.rI a z := fun a z => or_wI_rI _ _ _ _ _ _
    intro S3
    have e3 : S3 = S2.wI (i.m + 31) O.length (nI c) := rfl
    clear_value S3
    rw [← e3] at kr3 I3 J3 R3
    clear e3
    have ml3 : oML S3 i.m i.ce := ml.next kr3.1 kr3.2.1 (fun F => by rw [kr3.2.2.2.1])
    obtain ⟨d1, d2, d3⟩ := ml3.row (F := 127) (o := 31) (k := 15) (n := 8) (by decide +kernel)
    have q3 : S3.rI (i.m + 31) O.length = nI c := by rw [R3, if_pos ⟨rfl, rfl⟩]
    have G := g.push (V := S3) hv ok kr3 (fun F hF => by rw [I3, I2, if_neg (fun y => hF y.1)]) (by rw [I3, I2, if_pos ⟨rfl, rfl⟩]) (fun o z1 z2 => funext fun z => by rw [R3, if_neg (fun y => by have := y.1; omega), R2, R1, if_neg (fun y => by have := y.1; omega)]) (fun z => by
      rw [R3]
      by_cases w : z = O.length
      · rw [if_pos ⟨rfl, w⟩, if_pos w]
      · rw [if_neg (fun y => w y.2), if_neg w, R2, R1, if_neg (fun y => by have := y.1; omega)]) (fun z => by
      rw [R3, if_neg (fun y => by have := y.1; omega), R2, R1]
      by_cases w : z = (its ++ rVp O).length
      · rw [if_pos ⟨rfl, w⟩, if_pos w]
      · rw [if_neg (fun y => w y.2), if_neg w]) J3
    rw [ml3.1, d1, d2, d3, I3, i122, nI_pred, nI_clamp (n := O.length) (by omega), q3]
    refine ⟨rfl, rfl, rfl, vp_in_nI (by omega) (by decide), fun z => ?_, fun z => ⟨by decide, rfl, by decide, 0, 0, Nat.zero_le _, Nat.zero_le _, ?_⟩⟩
    · refine f_158_4 hE ⟨fun _ => ⟨rfl, hQ _ (hL (fun y => z (by rw [y]; rfl)) S3 G)⟩, fun y => absurd rfl y⟩
    · have z0 : c = 0 := (nI_eq (b := 0) (by omega) (by decide)).mp z
      exact hC z0 S3 G d 0 0 _ (fun y W _ hW => f_158_83 hE (hW x1 (mr - 0) (sr - 0) Q hQ))
  · rw [g4a] at z
    exact absurd ((nI_eq (b := 0) (by omega) (by decide)).mp z) (by omega)
/-- a fault: nothing is delivered -/
theorem rWd_f (hsp : ox_mono sp) {w : Int32} (hk : U.K i.m = 14) (h1 : U.I 132 i.m = 1) (hL : LH U) : rWd sp d i LH w U := by
  intro x1 mr sr Q hQ
  have hE : ox_mono (ox_M sp (d + 5)) := ox_M_mono hsp _
  exact f_158_4 hE ⟨fun z => absurd z (by decide), fun _ => ⟨by rw [hk]; rfl, fun _ => ⟨rfl, hQ U hL⟩, fun z => absurd z (by rw [h1]; decide)⟩⟩
end W8
