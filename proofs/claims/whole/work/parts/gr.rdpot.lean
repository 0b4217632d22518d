/-! reading: how much more lives -/
theorem xClo_ext {H H' : xHp} (hex : ∀ v o, H v = some o → H' v = some o) {A : List Int} (hA : xClo H A) : xClo H' A ∧ xSzA H' A = xSzA H A := by
  refine ⟨⟨hA.1, fun v hv => by
    obtain ⟨o, e1, e2⟩ := hA.2 v hv
    exact ⟨o, hex v o e1, e2⟩⟩, ?_⟩
  have key : ∀ (A : List Int), (∀ v ∈ A, ∃ o, H v = some o) → xSzA H' A = xSzA H A := by
    intro A
    induction A with
    | nil => exact fun _ => rfl
    | cons v A ih =>
      intro h
      obtain ⟨o, e1⟩ := h v List.mem_cons_self
      show xSo (H' v) + xSzA H' A = xSo (H v) + xSzA H A
      rw [hex v o e1, e1, ih (fun u hu => h u (List.mem_cons_of_mem _ hu))]
  exact key A hA.ex
/-- reading from s, h to s', h' makes that much live; q is left over -/
def pPot (s : oTS) (h : pH) (s' : oTS) (h' : pH) (q : Nat) (vs : List Int) : Prop := ∀ A, xClo h.H A → ∃ A', (∀ v ∈ A, v ∈ A') ∧ xClo h'.H A' ∧ (∀ v ∈ vs, xIn A' v) ∧ (∀ i, h.c ≤ i → i < h'.c → ∀ u ∈ (h'.C i).2.1, xIn A' u) ∧ 10 * xSzA h'.H A' + q + 20 * s.1 ≤ 10 * xSzA h.H A + 20 * s'.1
section GR
variable {b : Nat → Nat} {e K k : Nat} {f : oTS → pH → pR Int}
def rdPt (e K : Nat) (f : oTS → pH → pR Int) : Prop := ∀ s h, s.2 = none → s.1 ≤ e → xHOk h.c K h.H h.n → (f s h).1.2 = none → pPot s h (f s h).1 (f s h).2.1 10 [(f s h).2.2]
theorem rdL_P (hG : rdG e K k f) (hf : rdPt e K f) : ∀ c s h, s.2 = none → s.1 ≤ e → xHOk h.c K h.H h.n → (rdL f c s h).1.2 = none → pPot s h (rdL f c s h).1 (rdL f c s h).2.1 (10 * c) (rdL f c s h).2.2
  | 0, s, h, h1, h2, hH, _ => fun A hA => ⟨A, fun _ z => z, hA, fun v hv => (by cases hv), fun i z1 z2 => absurd z2 (by show ¬ i < h.c; omega), by show 10 * xSzA h.H A + 10 * 0 + 20 * s.1 ≤ 10 * xSzA h.H A + 20 * s.1; omega⟩
  | c + 1, s, h, h1, h2, hH, hn => by
    by_cases z : (f s h).1.2 = none
    · have er : rdL f (c + 1) s h = ((rdL f c (f s h).1 (f s h).2.1).1, (rdL f c (f s h).1 (f s h).2.1).2.1, (f s h).2.2 :: (rdL f c (f s h).1 (f s h).2.1).2.2) := if_pos z
      rw [er] at hn ⊢
      obtain ⟨a1, -, -, -⟩ := hG s h h1 h2 hH z
      have b1 := (rdL_G hG c (f s h).1 (f s h).2.1 z a1.1.1 a1.2.2.2.1 hn).1
      intro A hA
      obtain ⟨A1, p1, p2, p3, p4, p5⟩ := hf s h h1 h2 hH z A hA
      obtain ⟨A2, q1, q2, q3, q4, q5⟩ := rdL_P hG hf c (f s h).1 (f s h).2.1 z a1.1.1 a1.2.2.2.1 hn A1 p2
      refine ⟨A2, fun v hv => q1 v (p1 v hv), q2, fun v hv => ?_, fun i z1 z2 u hu => ?_, ?_⟩
      · rcases List.mem_cons.mp hv with y | y
        · rw [y]; exact (p3 _ (List.mem_singleton.mpr rfl)).mono q1
        · exact q3 v y
      · by_cases y : i < (f s h).2.1.c
        · have hC : (rdL f c (f s h).1 (f s h).2.1).2.1.C i = (f s h).2.1.C i := b1.2.2.2.2.2.1 i y
          rw [hC] at hu
          exact (p4 i z1 y u hu).mono q1
        · exact q4 i (by omega) z2 u hu
      · show 10 * xSzA (rdL f c (f s h).1 (f s h).2.1).2.1.H A2 + 10 * (c + 1) + 20 * s.1 ≤ 10 * xSzA h.H A + 20 * (rdL f c (f s h).1 (f s h).2.1).1.1
        omega
    · have er : rdL f (c + 1) s h = ((f s h).1, (f s h).2.1, []) := if_neg z
      rw [er] at hn
      exact absurd hn z
theorem rdC_P (hb : ∀ i, i < e → b i < 256) (hG : rdG e K k f) (hf : rdPt e K f) (s : oTS) (h : pH) (h1 : s.2 = none) (h2 : s.1 ≤ e) (hH : xHOk h.c K h.H h.n) (hn : (rdC b e f s h).1.2 = none) : pPot s h (rdC b e f s h).1 (rdC b e f s h).2.1 10 [(rdC b e f s h).2.2] := by
  by_cases z1 : (bwS b e 0 12 (hdS b e s)).2 = none
  · have er : rdC b e f s h = rdC2 b e s.1 h.c (rdL f (b (hdS b e s).1) (bwS b e 0 12 (hdS b e s)) h.bg) := if_pos z1
    rw [er] at hn ⊢
    obtain ⟨g1, g2, g3, -⟩ := bwS_none z1
    obtain ⟨-, k2, k3, k4, k5, -⟩ := hdS_at g1 hb
    have e1 : (hdS b e s).1 = s.1 + 5 + inL b e (s.1 + 3, none) := by rw [k2]
    rw [g3] at hn ⊢
    have hHb : xHOk h.bg.c K h.bg.H h.bg.n := hH.nc (Nat.le_succ _)
    by_cases z2 : (rdL f (b (hdS b e s).1) ((hdS b e s).1 + 1, none) h.bg).1.2 = none
    · have pp := rdL_P hG hf (b (hdS b e s).1) ((hdS b e s).1 + 1, none) h.bg rfl g2.1 hHb z2
      generalize rdL f (b (hdS b e s).1) ((hdS b e s).1 + 1, none) h.bg = q at hn z2 pp ⊢
      have er2 : rdC2 b e s.1 h.c q = (nmS b e q.1, q.2.1.fin h.c (cdAt b e s.1 q.2.2 q.1.1), -1 - (h.c : Int)) := if_pos z2
      rw [er2] at hn ⊢
      have ge := nmS_ge (b := b) (e := e) (s := q.1)
      intro A hA
      obtain ⟨A', p1, p2, p3, p4, p5⟩ := pp A hA
      have p5' : 10 * xSzA q.2.1.H A' + 10 * b (hdS b e s).1 + 20 * ((hdS b e s).1 + 1) ≤ 10 * xSzA h.H A + 20 * q.1.1 := p5
      refine ⟨A', p1, p2, fun v hv => ?_, fun i y1 y2 u hu => ?_, ?_⟩
      · rw [List.mem_singleton.mp hv]
        exact Or.inl (by show -1 - (h.c : Int) < 16; omega)
      · by_cases y : i = h.c
        · have hC : (q.2.1.fin h.c (cdAt b e s.1 q.2.2 q.1.1)).C i = cdAt b e s.1 q.2.2 q.1.1 := if_pos y
          rw [hC] at hu
          exact p3 u hu
        · have hC : (q.2.1.fin h.c (cdAt b e s.1 q.2.2 q.1.1)).C i = q.2.1.C i := if_neg y
          rw [hC] at hu
          exact p4 i (by show h.c + 1 ≤ i; omega) y2 u hu
      · show 10 * xSzA q.2.1.H A' + 10 + 20 * s.1 ≤ 10 * xSzA h.H A + 20 * (nmS b e q.1).1
        omega
    · have er2 : rdC2 b e s.1 h.c (rdL f (b (hdS b e s).1) ((hdS b e s).1 + 1, none) h.bg) = ((rdL f (b (hdS b e s).1) ((hdS b e s).1 + 1, none) h.bg).1, (rdL f (b (hdS b e s).1) ((hdS b e s).1 + 1, none) h.bg).2.1, 0) := if_neg z2
      rw [er2] at hn
      exact absurd hn z2
  · have er : rdC b e f s h = (bwS b e 0 12 (hdS b e s), h, 0) := if_neg z1
    rw [er] at hn
    exact absurd hn z1
/-- a new object -/
theorem pPot_nw {s : oTS} {h : pH} {o : xOb} {A : List Int} (hH : xHOk h.c K h.H h.n) (hA : xClo h.H A) (hr : ∀ u ∈ xRf o, xIn A u) : xClo (h.nw o).H (h.n :: A) ∧ xSzA (h.nw o).H (h.n :: A) = xSz o + xSzA h.H A := by
  have nin : h.n ∉ A := fun z => by
    obtain ⟨o', e1⟩ := hA.ex _ z
    have := (hH.2 _ o' e1).2.1
    omega
  have ext := xClo_ext (H' := (h.nw o).H) (fun v o' e1 => by
    have := (hH.2 v o' e1).2.1
    show (if v = h.n then some o else h.H v) = some o'
    rw [if_neg (by omega)]; exact e1) hA
  obtain ⟨c1, c2⟩ := ext.1.cons nin (o := o) xNew_self hr
  exact ⟨c1, by rw [c2, ext.2]⟩
theorem rdN_P {s s' : oTS} {h : pH} {N : Int} (hH : xHOk h.c K h.H h.n) (hz : s'.2 = none) (hN : 10 * (3 + dl 16 N.natAbs) + 10 + 20 * s.1 ≤ 20 * s'.1) : pPot s h (rdN s' h N).1 (rdN s' h N).2.1 10 [(rdN s' h N).2.2] := by
  have er : rdN s' h N = (s', h.nw (.inl N), h.n) := if_pos hz
  rw [er]
  intro A hA
  obtain ⟨c1, c2⟩ := pPot_nw (s := s) (o := .inl N) hH hA (fun u hu => by cases hu)
  refine ⟨h.n :: A, fun v hv => List.mem_cons_of_mem _ hv, c1, fun v hv => ?_, fun i z1 z2 => absurd z2 (by show ¬ i < h.c; omega), ?_⟩
  · rw [List.mem_singleton.mp hv]; exact Or.inr List.mem_cons_self
  · show 10 * xSzA (h.nw (.inl N)).H (h.n :: A) + 10 + 20 * s.1 ≤ 10 * xSzA h.H A + 20 * s'.1
    rw [c2]
    show 10 * (3 + dl 16 N.natAbs + xSzA h.H A) + 10 + 20 * s.1 ≤ 10 * xSzA h.H A + 20 * s'.1
    omega
theorem rdO_P (hb : ∀ i, i < e → b i < 256) : ∀ k, k ≤ 4 → rdPt e K (rdO b e k)
  | 0, _ => fun s h h1 h2 hH hn => absurd hn (rfS_some s)
  | k + 1, hk => fun s h h1 h2 hH hn => by
    have ih := rdO_P hb k (by omega)
    have ihG := rdO_G (e := e) (K := K) hb k (by omega)
    by_cases z : s.2 = none ∧ s.1 < e
    · have er : rdO b e (k + 1) s h = rdB b e (rdO b e k) s.1 h := if_pos z
      rw [er] at hn ⊢
      have go : ∀ v : Int, v ≤ 2 → pPot s h (s.1 + 1, none) h 10 [v] := fun v hv A hA => ⟨A, fun _ y => y, hA, fun u hu => by rw [List.mem_singleton.mp hu]; exact Or.inl (by omega), fun i z1 z2 => absurd z2 (by omega), by show 10 * xSzA h.H A + 10 + 20 * s.1 ≤ 10 * xSzA h.H A + 20 * (s.1 + 1); omega⟩
      unfold rdB at hn ⊢
      by_cases c1 : b s.1 = 78
      · rw [if_pos c1] at hn ⊢; exact go 0 (by decide)
      rw [if_neg c1] at hn ⊢
      by_cases c2 : b s.1 = 70
      · rw [if_pos c2] at hn ⊢; exact go 1 (by decide)
      rw [if_neg c2] at hn ⊢
      by_cases c3 : b s.1 = 84
      · rw [if_pos c3] at hn ⊢; exact go 2 (by decide)
      rw [if_neg c3] at hn ⊢
      by_cases c4 : b s.1 = 105
      · rw [if_pos c4] at hn ⊢
        have y : (bwN b e (s.1 + 1, none) 4).2 = none := by rw [rdN_1] at hn; exact hn
        refine rdN_P hH y ?_
        have e4 : (bwN b e (s.1 + 1, none) 4).1 = s.1 + 1 + 4 := by rw [(bwN_none 4 y).2.2.2]
        have i4 := i_bd (nI (ivN b (s.1 + 1) 4))
        have h3 : (4294967296 : Nat) < 32768 ^ 3 := by decide
        have d3 : dl 16 (nI (ivN b (s.1 + 1) 4)).toInt.natAbs ≤ 3 := dl_lt 16 _ 3 (by omega)
        omega
      rw [if_neg c4] at hn ⊢
      by_cases c5 : b s.1 = 108
      · rw [if_pos c5] at hn ⊢
        have y : (lgS b e (s.1 + 1)).2 = none := by rw [rdN_1] at hn; exact hn
        have hC : (lgC b e (s.1 + 1)).2 = none := by
          by_cases y2 : (lgC b e (s.1 + 1)).2 = none
          · exact y2
          · have y' : (lgD b e (lgL b e (s.1 + 1)) (lgC b e (s.1 + 1)) (lgL b e (s.1 + 1))).2 = none := y
            rw [lgD_sgn _ y2] at y'
            exact absurd y' y2
        obtain ⟨d1, d2, d3⟩ := lgC_none hC
        have y' : (lgD b e (lgL b e (s.1 + 1)) (lgC b e (s.1 + 1)) (lgL b e (s.1 + 1))).2 = none := y
        obtain ⟨-, f2, f3, f4⟩ := lgD_none (by rw [d2]; exact d1) _ y'
        have eL : lgL b e (s.1 + 1) = lgK b (s.1 + 1) := if_pos hC
        have e1 : (lgC b e (s.1 + 1)).1 = s.1 + 3 := by rw [d2]
        rw [e1] at f2 f3 f4
        have eS : lgS b e (s.1 + 1) = (s.1 + 3 + 2 * lgL b e (s.1 + 1), none) := f2
        have dl0 : ∀ i, i < lgK b (s.1 + 1) → dgV b (s.1 + 1 + 2) i < 32768 := fun i hi => by
          have a1 := (f4 i (by rw [eL]; exact hi)).1
          have a2 := hb (s.1 + 3 + 2 * i) (by rw [eL] at f3; omega)
          show b (s.1 + 1 + 2 + 2 * i) + 256 * b (s.1 + 1 + 2 + 2 * i + 1) < 32768
          rw [show s.1 + 1 + 2 + 2 * i = s.1 + 3 + 2 * i by omega]
          omega
        have lt := dv_lt (lgK b (s.1 + 1)) dl0
        have dz : dl 16 (lgZ b (s.1 + 1)).natAbs ≤ lgK b (s.1 + 1) := by
          refine dl_lt 16 _ _ ?_
          unfold lgZ
          by_cases q : 240 ≤ b (s.1 + 1)
          · rw [if_pos q, Int.natAbs_neg, Int.natAbs_natCast]; exact lt
          · rw [if_neg q, Int.natAbs_natCast]; exact lt
        refine rdN_P hH y ?_
        rw [eS]
        show 10 * (3 + dl 16 (lgZ b (s.1 + 1)).natAbs) + 10 + 20 * s.1 ≤ 20 * (s.1 + 3 + 2 * lgL b e (s.1 + 1))
        omega
      rw [if_neg c5] at hn ⊢
      by_cases c6 : b s.1 = 40
      · rw [if_pos c6] at hn ⊢
        by_cases y : (bwS b e 0 12 (s.1 + 1, none)).2 = none
        · rw [if_pos y] at hn ⊢
          obtain ⟨-, g2, -⟩ := bwS_none y
          have g2' : s.1 + 1 < e ∧ 0 ≤ b (s.1 + 1) ∧ b (s.1 + 1) ≤ 12 := g2
          have q : (rdL (rdO b e k) (b (s.1 + 1)) (s.1 + 2, none) h).1.2 = none := by rw [rdT_1] at hn; exact hn
          obtain ⟨a1, a2, a3, a4⟩ := rdL_G ihG (b (s.1 + 1)) (s.1 + 2, none) h rfl g2'.1 hH q
          have pp := rdL_P ihG ih (b (s.1 + 1)) (s.1 + 2, none) h rfl g2'.1 hH q
          generalize rdL (rdO b e k) (b (s.1 + 1)) (s.1 + 2, none) h = r at hn q a1 a2 a3 a4 pp ⊢
          have er2 : rdT r = pNew r.1 r.2.1 (r.2.1.tp r.2.2) := if_pos q
          rw [er2]
          intro A hA
          obtain ⟨A', p1, p2, p3, p4, p5⟩ := pp A hA
          obtain ⟨n1, n2⟩ := pPot_nw (s := s) (o := r.2.1.tp r.2.2) a1.2.2.2.1 p2 (fun u hu => p3 u hu)
          have p5' : 10 * xSzA r.2.1.H A' + 10 * b (s.1 + 1) + 20 * (s.1 + 2) ≤ 10 * xSzA h.H A + 20 * r.1.1 := p5
          refine ⟨r.2.1.n :: A', fun v hv => List.mem_cons_of_mem _ (p1 v hv), n1, fun v hv => ?_, fun i z1 z2 u hu => (p4 i z1 z2 u hu).mono (fun w hw => List.mem_cons_of_mem _ hw), ?_⟩
          · rw [List.mem_singleton.mp hv]; exact Or.inr List.mem_cons_self
          · show 10 * xSzA (r.2.1.nw (r.2.1.tp r.2.2)).H (r.2.1.n :: A') + 10 + 20 * s.1 ≤ 10 * xSzA h.H A + 20 * r.1.1
            rw [n2]
            show 10 * (3 + r.2.2.length + xSzA r.2.1.H A') + 10 + 20 * s.1 ≤ 10 * xSzA h.H A + 20 * r.1.1
            omega
        · rw [if_neg y] at hn
          exact absurd hn y
      rw [if_neg c6] at hn ⊢
      by_cases c7 : b s.1 = 99
      · rw [if_pos c7] at hn ⊢
        have pp := rdC_P hb ihG ih (s.1 + 1, none) h rfl z.2 hH hn
        intro A hA
        obtain ⟨A', p1, p2, p3, p4, p5⟩ := pp A hA
        have p5' : 10 * xSzA (rdC b e (rdO b e k) (s.1 + 1, none) h).2.1.H A' + 10 + 20 * (s.1 + 1) ≤ 10 * xSzA h.H A + 20 * (rdC b e (rdO b e k) (s.1 + 1, none) h).1.1 := p5
        exact ⟨A', p1, p2, p3, p4, by omega⟩
      · rw [if_neg c7] at hn
        cases hn
    · have er : rdO b e (k + 1) s h = (rfS s, h, 0) := if_neg z
      rw [er] at hn
      exact absurd hn (rfS_some s)
end GR
