/-! the class reads: codeOnTape -/
section C111
variable {sp : ox_E} {d mr sr : Nat} {Q : ox_Q} {x e nc K : Nat} {b : Nat → Nat} {S : ox_St} {α : Int → Nat} {C : Nat → xCd} {s : xSt}
/-- the root's code, then the tape's end -/
def rdR (b : Nat → Nat) (e : Nat) (h : pH) : pR Int := if (bwS b e 99 99 (0, none)).2 = none then rdC b e (rdO b e 4) (1, none) h else (bwS b e 99 99 (0, none), h, 0)
theorem rdA_R {h : pH} : rdA b e h = if (rdR b e h).1.2 = none then (if (rdR b e h).1.1 < e then (rfS (rdR b e h).1, (rdR b e h).2) else rdR b e h) else rdR b e h := by
  unfold rdA rdR
  by_cases z : (bwS b e 99 99 (0, none)).2 = none
  · rw [if_pos z, if_pos z]
  · rw [if_neg z, if_neg z, if_neg z]
theorem rdR_le {h : pH} : (rdR b e h).1.1 ≤ e := by
  unfold rdR
  by_cases z : (bwS b e 99 99 (0, none)).2 = none
  · rw [if_pos z]; exact rdC_le (rdO_le 4) (s := (1, none)) (bwS_none z).2.1.1
  · rw [if_neg z]; exact bwS_le (s := (0, none)) (Nat.zero_le _)
/-- where reading begins -/
theorem cG_0 {S' : ox_St} (hR : cR S x α C nc s) (hw : xWf C nc K s) (v : prV x S S') (t : tpS S' x b e (0, none)) (ls : oLs S' (x + 2) 0 (fun _ => 0)) : cG x b e nc K 0 (fun _ => False) S' (0, none) (aZ α nc s.H) (pH0 s C nc) := by
  have hz := hR.z hw
  obtain ⟨w1, w2, w3, w4, -, w6, -⟩ := hw
  have dm : ∀ v, aZ α nc s.H v ≠ 0 → cDm nc s.H v := fun v hv => (aZ_no hv).imp (fun z => ⟨z.2, z.1⟩) id
  have hn := v.1
  have g0 : cGh x nc K (fun _ => False) S (aZ α nc s.H) (pH0 s C nc) := by
    refine ⟨hz.2.1.1, fun c hc => hz.2.1.2.1 c (hc.elim id (fun z => by cases z)), fun u w hu e1 => hz.2.1.2.2.1 u w (dm u hu) (dm w (by rw [← e1]; exact hu)) e1, fun w hw => ?_, fun w c e1 => (w1.2 w _ e1).2.2, w1, fun _ _ _ z => z, fun _ _ z => z⟩
    rcases dm w hw with z | z
    · have ec : w = -1 - (((-1 - w).toNat : Nat) : Int) := by omega
      have hc : (-1 - w).toNat < nc := by omega
      refine ⟨?_, Or.inl ⟨(-1 - w).toNat, ec, Or.inl hc⟩⟩
      have := (hz.2.1.2.1 _ hc).2.1
      rw [← ec] at this
      exact this
    · refine ⟨?_, Or.inr z⟩
      cases e1 : s.H w with
      | none => exact absurd e1 z
      | some o => exact (hz.2.1.1 w o e1).2.1
  refine ⟨t, hz.1.pr v, g0.pv v, ?_, (fun c hc => by cases hc), Nat.le_refl _, by show 0 + nc + 0 ≤ nc; omega, by show 9 * nc ≤ 9 * nc + 9 * 0 + 0; omega⟩
  obtain ⟨m1, m2, m3, m4⟩ := ls
  exact ⟨m1, m2, m3, m4.imp id (fun ⟨z1, z2, z3, z4, _⟩ => ⟨z1, z2, z3, z4, fun j hj => absurd hj (Nat.not_lt_zero _)⟩)⟩
theorem c93_15 {E : ox_E} (hE : ox_mono E) {V : ox_St} (k : V.K x = 13) (h : Q none (V.sI 61 x 0)) : k_93_15 E x mr sr Q none V := f_93_15 hE ⟨by rw [k]; rfl, rfl, h⟩
/-- beginTape, codeAt, endTape, one behind the other -/
theorem c_111 (hsp : ox_mono sp) (hg : adH sp) (hR : cR S x α C nc s) (hw : xWf C nc K s) (i61 : S.I 61 x = nI e) (e8 : e ≤ 800) (fb : ∀ i, i < e → S.rI (x + 1) i = nI (b i) ∧ b i < 256) (lx : oLx S x) {F : Nat → ox_St → Prop}
    (hA : ∀ v, (rdA b e (pH0 s C nc)).1.2 = some v → ∀ V a, prV x S V → V.I 63 x = nI v → ¬ V.I 63 x = -1 → oLx V x → F a (V.sI 61 x 0))
    (hB : (rdA b e (pH0 s C nc)).1.2 = none → ∀ V α' a, prV x S V → V.I 63 x = -1 → cG x b e nc K 0 (fun _ => False) V (rdA b e (pH0 s C nc)).1 α' (rdA b e (pH0 s C nc)).2.1 → aX S.n (aZ α nc s.H) α' → vC V x α' (rdA b e (pH0 s C nc)).2.2 a → F a (V.sI 61 x 0)) : ox_M sp (d + 27) 111 [.inr (.inr x)] 0 0 S (fun r1 S3 => r1 = none ∧ S3.K x = 13 ∧ ox_M sp (d + 27) 123 [.inr (.inr x), .inl (nI 1)] (8 * e + 8) (400 * e + 400) S3 (fun r2 S4 => ∃ a, r2 = some (.inr (.inr a)) ∧ S4.K x = 13 ∧ ox_M sp (d + 27) 93 [.inr (.inr x)] 0 0 S4 (fun r3 T => r3 = none ∧ F a T))) := by
  have hE : ox_mono (ox_M sp (d + 26)) := ox_M_mono hsp _
  have hB0 : cBs S x := hR.1
  have x119 : x + 119 ≤ S.n := hB0.2.2.2.1
  have k0 : S.K x = 13 := hB0.1.obj (o := 0) (k := 13) (by decide)
  have r64 : S.R 64 x = x + 2 := hB0.1.ref (F := 64) (o := 0) (t := 2) (by decide)
  have f2 : prF x S ((S.sI 62 x 0).sI 63 x (-1)) := (prF_sI (Or.inl rfl)).trans (prF_sI (Or.inr rfl))
  have i62 : ((S.sI 62 x 0).sI 63 x (-1)).I 62 x = 0 := by rw [or_sI_I, if_neg (fun z => by cases z.1), or_sI_I, if_pos ⟨rfl, rfl⟩]
  have i63 : ((S.sI 62 x 0).sI 63 x (-1)).I 63 x = -1 := by rw [or_sI_I, if_pos ⟨rfl, rfl⟩]
  refine f_111 hsp ⟨by rw [k0]; rfl, by show ox_has (S.K x) 63 = true; rw [k0]; rfl, by show ox_has (S.K x) 64 = true; rw [k0]; rfl, by decide, by show S.K (S.R 64 x) = 1; rw [r64]; exact hB0.1.obj (o := 2) (k := 1) (by decide), by decide, 0, 0, Nat.zero_le _, Nat.zero_le _, ?_⟩
  show ox_M sp (d + 26) 227 [.inr (.inr (S.R 64 x))] 0 0 ((S.sI 62 x 0).sI 63 x (-1)) _
  rw [r64]
  generalize (S.sI 62 x 0).sI 63 x (-1) = S2 at f2 i62 i63 ⊢
  have hB2 := hB0.pr f2.v
  have k1 := (hB0.1.row (o := 1) (k := 15) (n := 800) (by decide)).1
  have t2 : tpS S2 x b e (0, none) := by
    refine ⟨hB2.1, (f2.2.2.2.1 61 (by decide) (by decide)).trans i61, e8, i62, Nat.zero_le _, i63, fun v hv => (by cases hv), fun i hi => ?_⟩
    rw [(f2.v.at (a := x + 1) (by omega) (by omega) (by omega) (by rw [k1]; decide)).2.2.2.2.2.1 i]
    exact fb i hi
  obtain ⟨n, A, l1, l2, l3, l4⟩ := lx.pr f2 hB0
  have n2 : S.n ≤ S2.n := f2.1
  have kt : n = 0 ∨ S2.K (S2.R 1 (x + 2)) = 20 := l4.imp (fun z => z.1) (fun z => z.1)
  have ln : n ≤ S2.len (S2.R 1 (x + 2)) ∧ S2.len (S2.R 1 (x + 2)) ≤ 1000 := by
    rcases l4 with ⟨z1, z2, z3, z4, z5⟩ | ⟨z1, z2, z3, z4, z5⟩
    · rw [z2, z5]; omega
    · omega
  refine s_227 (d := d + 25) hsp l1 rfl l2 kt rfl ln.1 (by omega) (fun S3 c1 c2 c3 c4 c5 c6 c7 c8 c9 c10 c11 => f_111_17 hE ?_)
  have v23 : prV x S2 S3 := by
    refine ⟨by omega, fun a _ => ⟨by rw [c1], by rw [c2]⟩, fun a ha => ⟨by rw [c1], by rw [c2], fun F => c4 F a (Or.inl ha.2.2.1), fun F => by rw [c7], fun F => by rw [c6], fun j => by rw [c8], fun j => ?_, fun j => by rw [c9]⟩, fun F _ _ => c4 F x (Or.inl (by omega)), fun F => by rw [c7], fun F g0 g2 => c4 F (x + 2) (Or.inr ⟨g0, g2⟩), fun F _ => by rw [c7]⟩
    by_cases y : a = S2.R 1 (x + 2)
    · rcases kt with w | w
      · rw [c11 w]
      · rw [y] at ha; exact absurd w ha.2.2.2
    · rw [c10 a y]
  have t3 : tpS S3 x b e (0, none) := t2.kv v23 (by omega) (c4 62 x (Or.inl (by omega))) (c4 63 x (Or.inl (by omega)))
  have ls3 : oLs S3 (x + 2) 0 (fun _ => 0) := by
    refine ⟨by rw [c1]; exact l1, c5, Nat.zero_le _, ?_⟩
    rw [c7, c1, c2, c3]
    rcases l4 with ⟨z1, z2, z3, z4, z5⟩ | ⟨z1, z2, z3, z4, z5⟩
    · exact Or.inl ⟨rfl, z2, z3, z4, z5⟩
    · exact Or.inr ⟨z1, z2, Nat.zero_le _, z4, fun j hj => absurd hj (Nat.not_lt_zero _)⟩
  have v03 := f2.v.trans v23
  have g3 := cG_0 hR hw v03 t3 ls3
  have k3 : S3.K x = 13 := t3.1.obj (o := 0) (k := 13) (by decide)
  have hb : ∀ i, i < e → b i < 256 := fun i hi => (fb i hi).2
  have rle : (rdR b e (pH0 s C nc)).1.1 ≤ e := rdR_le
  have eA := rdA_R (b := b) (e := e) (h := pH0 s C nc)
  have eR : rdR b e (pH0 s C nc) = if (bwS b e 99 99 (0, none)).2 = none then rdC b e (rdO b e 4) ((0, (none : Option Nat)).1 + 1, none) (pH0 s C nc) else (bwS b e 99 99 (0, none), pH0 s C nc, 0) := rfl
  generalize rdR b e (pH0 s C nc) = r at rle eA eR
  refine ⟨rfl, rfl, k3, ?_⟩
  show ox_M sp (d + 1 + 26) 123 [.inr (.inr x), .inl (nI (6 - (4 + 1)))] _ _ S3 _
  refine c_123 (d := d + 1) (k := 4) (s := (0, none)) hsp hg (cRo_all hsp hg hb 4 (Nat.le_refl _)) (rdO_G hb 4 (Nat.le_refl _)) (Nat.le_refl _) g3 rfl (fun u hu => hu.elim) eR (by show 8 + 8 * (r.1.1 - 1) ≤ 8 * e + 8; omega) (by show 400 + 400 * (r.1.1 - 1) ≤ 400 * e + 400; omega) ⟨fun z S4 a v4 t4 lx4 ka => ⟨a, rfl, t4.1.obj (o := 0) (k := 13) (by decide), f_93 hsp ?_⟩, fun z S4 α4 a v4 g4 ax va ka => ⟨a, rfl, g4.1.1.obj (o := 0) (k := 13) (by decide), f_93 hsp ?_⟩⟩
  · rw [if_neg z] at eA
    rw [eA] at hA
    have k4 : S4.K x = 13 := t4.1.obj (o := 0) (k := 13) (by decide)
    cases hv : r.1.2 with
    | none => exact absurd hv z
    | some v =>
      have fin : ∀ (V : ox_St) (mr sr : Nat), prF x S4 V → tpS V x b e r.1 → k_93_15 (ox_M sp (d + 26)) x mr sr (fun r3 T => r3 = none ∧ F a T) none V := fun V mr sr f t => by
        have hle := t.2.2.2.2.2.2.1 v hv
        have e63 : V.I 63 x = nI v := by
          have := t.2.2.2.2.2.1
          rw [hv] at this
          exact this
        exact c93_15 hE (t.1.obj (o := 0) (k := 13) (by decide)) ⟨rfl, hA v hv V a ((v03.trans v4).trans f.v) e63 (by rw [e63]; exact nI_m1 (by omega)) (lx4.pr f (hB0.pr (v03.trans v4)))⟩
      refine ⟨by rw [k4]; rfl, by rw [k4]; rfl, fun _ => fin S4 _ _ prF.refl t4, fun _ => ⟨by decide, k4, by decide, 0, 0, Nat.zero_le _, Nat.zero_le _, ?_⟩⟩
      have n4 := (v03.trans v4).1
      exact s_113 hsp t4 (by omega) (fun V f _ t => fin V _ _ f (by rw [rfS_flt (by rw [hv]; exact fun y => by cases y)] at t; exact t))
  · rw [if_pos z] at eA
    have t4 := g4.1
    have k4 : S4.K x = 13 := t4.1.obj (o := 0) (k := 13) (by decide)
    have j61 : S4.I 61 x = nI e := t4.2.1
    have j62 : S4.I 62 x = nI r.1.1 := t4.2.2.2.1
    have n4 := (v03.trans v4).1
    unfold q_93
    rw [j61, j62, k4]
    by_cases pe : r.1.1 < e
    · rw [if_pos pe] at eA
      rw [eA] at hA
      refine ⟨rfl, rfl, fun y => absurd ((nI_leI (by omega) (by omega)).mp y) (by omega), fun _ => ⟨by decide, rfl, by decide, 0, 0, Nat.zero_le _, Nat.zero_le _, ?_⟩⟩
      refine s_113 hsp t4 (by omega) (fun V f _ t => ?_)
      have er : rfS r.1 = (r.1.1, some r.1.1) := by
        obtain ⟨⟨p, fl⟩, r2⟩ := r
        have hfl : fl = none := z
        subst hfl
        rfl
      rw [er] at t hA
      have e63 : V.I 63 x = nI r.1.1 := t.2.2.2.2.2.1
      exact c93_15 hE (t.1.obj (o := 0) (k := 13) (by decide)) ⟨rfl, hA r.1.1 rfl V a ((v03.trans v4).trans f.v) e63 (by rw [e63]; exact nI_m1 (by omega)) ⟨_, _, g4.2.2.2.1.pr f g4.2.1⟩⟩
    · rw [if_neg pe] at eA
      rw [eA] at hB
      have e63 : S4.I 63 x = -1 := by
        have := t4.2.2.2.2.2.1
        rw [z] at this
        exact this
      refine ⟨rfl, rfl, fun _ => ?_, fun y => absurd (nI_le (a := e) (b := r.1.1) (by omega) (by omega)) y⟩
      exact c93_15 hE k4 ⟨rfl, hB z S4 α4 a (v03.trans v4) e63 g4 (ax.low v03.1) va⟩
end C111
