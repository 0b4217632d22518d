/-! reading the tape: one byte, what both sides ask for -/
/-- where reading stands: the place, and the fault, if there is one -/
abbrev oTS : Type := Nat × Option Nat
/-- a byte within bounds -/
def bwS (b : Nat → Nat) (e lo hi : Nat) (s : oTS) : oTS := match s.2 with
  | some _ => s
  | none => if s.1 < e ∧ lo ≤ b s.1 ∧ b s.1 ≤ hi then (s.1 + 1, none) else (s.1, some s.1)
def bwV (b : Nat → Nat) (e lo hi : Nat) (s : oTS) : Int32 := match s.2 with
  | some _ => -1
  | none => if s.1 < e ∧ lo ≤ b s.1 ∧ b s.1 ≤ hi then nI (b s.1) else -1
/-- a place that is refused -/
def rfS (s : oTS) : oTS := match s.2 with
  | some _ => s
  | none => (s.1, some s.1)
theorem bwS_some {b : Nat → Nat} {e lo hi p v : Nat} : bwS b e lo hi (p, some v) = (p, some v) := rfl
theorem bwV_some {b : Nat → Nat} {e lo hi p v : Nat} : bwV b e lo hi (p, some v) = -1 := rfl
theorem bwS_ok {b : Nat → Nat} {e lo hi p : Nat} (h : p < e ∧ lo ≤ b p ∧ b p ≤ hi) : bwS b e lo hi (p, none) = (p + 1, none) := if_pos h
theorem bwS_no {b : Nat → Nat} {e lo hi p : Nat} (h : ¬ (p < e ∧ lo ≤ b p ∧ b p ≤ hi)) : bwS b e lo hi (p, none) = (p, some p) := if_neg h
theorem bwV_ok {b : Nat → Nat} {e lo hi p : Nat} (h : p < e ∧ lo ≤ b p ∧ b p ≤ hi) : bwV b e lo hi (p, none) = nI (b p) := if_pos h
theorem bwV_no {b : Nat → Nat} {e lo hi p : Nat} (h : ¬ (p < e ∧ lo ≤ b p ∧ b p ≤ hi)) : bwV b e lo hi (p, none) = -1 := if_neg h
/-- whoever came through came from a place without a fault -/
theorem bwS_none {b : Nat → Nat} {e lo hi : Nat} {s : oTS} (h : (bwS b e lo hi s).2 = none) : s.2 = none ∧ (s.1 < e ∧ lo ≤ b s.1 ∧ b s.1 ≤ hi) ∧ bwS b e lo hi s = (s.1 + 1, none) ∧ bwV b e lo hi s = nI (b s.1) := by
  obtain ⟨p, f⟩ := s
  cases f with
  | some v => cases h
  | none =>
    by_cases c : p < e ∧ lo ≤ b p ∧ b p ≤ hi
    · exact ⟨rfl, c, bwS_ok c, bwV_ok c⟩
    · rw [bwS_no c] at h; cases h
theorem bwS_le {b : Nat → Nat} {e lo hi : Nat} {s : oTS} (h : s.1 ≤ e) : (bwS b e lo hi s).1 ≤ e := by
  obtain ⟨p, f⟩ := s
  cases f with
  | some v => exact h
  | none =>
    by_cases c : p < e ∧ lo ≤ b p ∧ b p ≤ hi
    · rw [bwS_ok c]; exact c.1
    · rw [bwS_no c]; exact h
/-- the class's tape: e bytes b, read so far as s says -/
def tpS (S : ox_St) (x : Nat) (b : Nat → Nat) (e : Nat) (s : oTS) : Prop := oCL S x ∧ S.I 61 x = nI e ∧ e ≤ 800 ∧ S.I 62 x = nI s.1 ∧ s.1 ≤ e ∧ (S.I 63 x = match s.2 with
  | none => -1
  | some v => nI v) ∧ (∀ v, s.2 = some v → v ≤ 800) ∧ ∀ i, i < e → S.rI (x + 1) i = nI (b i) ∧ b i < 256
/-- what reading leaves alone, with the list -/
def prV (x : Nat) (S S' : ox_St) : Prop := S.n ≤ S'.n ∧ (∀ a, a < S.n → S'.K a = S.K a ∧ S'.len a = S.len a) ∧ oAg (fun a => a < S.n ∧ a ≠ x ∧ a ≠ x + 2 ∧ S.K a ≠ 20) S S' ∧ (∀ F, F ≠ 62 → F ≠ 63 → S'.I F x = S.I F x) ∧ (∀ F, S'.R F x = S.R F x) ∧ (∀ F, F ≠ 0 → F ≠ 2 → S'.I F (x + 2) = S.I F (x + 2)) ∧ ∀ F, F ≠ 1 → S'.R F (x + 2) = S.R F (x + 2)
/-- the list stays as it is -/
def prS (x : Nat) (S S' : ox_St) : Prop := S'.I 2 (x + 2) = S.I 2 (x + 2) ∧ S'.R 1 (x + 2) = S.R 1 (x + 2) ∧ ∀ a, a < S.n → ∀ j, S'.rR a j = S.rR a j
/-- what reading leaves alone -/
def prF (x : Nat) (S S' : ox_St) : Prop := S.n ≤ S'.n ∧ (∀ a, a < S.n → S'.K a = S.K a ∧ S'.len a = S.len a) ∧ oAg (fun a => a < S.n ∧ a ≠ x ∧ a ≠ x + 2 ∧ S.K a ≠ 20) S S' ∧ (∀ F, F ≠ 62 → F ≠ 63 → S'.I F x = S.I F x) ∧ (∀ F, S'.R F x = S.R F x) ∧ (∀ F, F ≠ 0 → F ≠ 2 → S'.I F (x + 2) = S.I F (x + 2)) ∧ (∀ F, F ≠ 1 → S'.R F (x + 2) = S.R F (x + 2)) ∧ prS x S S'
theorem prF.v {x : Nat} {S S' : ox_St} (h : prF x S S') : prV x S S' := ⟨h.1, h.2.1, h.2.2.1, h.2.2.2.1, h.2.2.2.2.1, h.2.2.2.2.2.1, h.2.2.2.2.2.2.1⟩
theorem prF.s {x : Nat} {S S' : ox_St} (h : prF x S S') : prS x S S' := h.2.2.2.2.2.2.2
theorem prF_mk {x : Nat} {S S' : ox_St} (h : prV x S S') (g : prS x S S') : prF x S S' := ⟨h.1, h.2.1, h.2.2.1, h.2.2.2.1, h.2.2.2.2.1, h.2.2.2.2.2.1, h.2.2.2.2.2.2, g⟩
theorem prF.refl {x : Nat} {S : ox_St} : prF x S S := ⟨Nat.le_refl _, fun _ _ => ⟨rfl, rfl⟩, oAg.refl, fun _ _ _ => rfl, fun _ => rfl, fun _ _ _ => rfl, fun _ _ => rfl, rfl, rfl, fun _ _ _ => rfl⟩
theorem prV.trans {x : Nat} {S S' U : ox_St} (h : prV x S S') (g : prV x S' U) : prV x S U := by
  obtain ⟨h1, h2, h3, h4, h5, h6, h7⟩ := h
  obtain ⟨g1, g2, g3, g4, g5, g6, g7⟩ := g
  refine ⟨by omega, fun a ha => ⟨(g2 a (by omega)).1.trans (h2 a ha).1, (g2 a (by omega)).2.trans (h2 a ha).2⟩, fun a ha => ?_, fun F a c => (g4 F a c).trans (h4 F a c), fun F => (g5 F).trans (h5 F), fun F a c => (g6 F a c).trans (h6 F a c), fun F a => (g7 F a).trans (h7 F a)⟩
  have hg := g3 a ⟨by have := ha.1; omega, ha.2.1, ha.2.2.1, by rw [(h2 a ha.1).1]; exact ha.2.2.2⟩
  obtain ⟨k1, k2, k3, k4, k5, k6, k7, k8⟩ := h3 a ha
  obtain ⟨l1, l2, l3, l4, l5, l6, l7, l8⟩ := hg
  exact ⟨l1.trans k1, l2.trans k2, fun F => (l3 F).trans (k3 F), fun F => (l4 F).trans (k4 F), fun F => (l5 F).trans (k5 F), fun j => (l6 j).trans (k6 j), fun j => (l7 j).trans (k7 j), fun j => (l8 j).trans (k8 j)⟩
theorem prF.trans {x : Nat} {S S' U : ox_St} (h : prF x S S') (g : prF x S' U) : prF x S U :=
  prF_mk (h.v.trans g.v) ⟨g.s.1.trans h.s.1, g.s.2.1.trans h.s.2.1, fun a ha j => (g.s.2.2 a (Nat.lt_of_lt_of_le ha h.1) j).trans (h.s.2.2 a ha j)⟩
/-- new objects alone -/
theorem prF_new {x : Nat} {S S' : ox_St} (hn : S.n ≤ S'.n) (h : oAg (fun a => a < S.n) S S') (hx : x + 2 < S.n) : prF x S S' := by
  have h0 := h x (by show x < S.n; omega)
  have h2 := h (x + 2) hx
  exact ⟨hn, fun a ha => ⟨(h a ha).1, (h a ha).2.1⟩, h.sub (fun a ha => ha.1), fun F _ _ => h0.2.2.1 F, fun F => h0.2.2.2.1 F, fun F _ _ => h2.2.2.1 F, fun F _ => h2.2.2.2.1 F, h2.2.2.1 2, h2.2.2.2.1 1, fun a ha j => (h a ha).2.2.2.2.2.2.1 j⟩
theorem prF_sI {x F : Nat} {S : ox_St} {v : Int32} (h : F = 62 ∨ F = 63) : prF x S (S.sI F x v) := by
  refine ⟨Nat.le_refl _, fun _ _ => ⟨rfl, rfl⟩, (oAg_sI (P := fun a => a ≠ x) (fun z => z rfl)).sub (fun a ha => ha.2.1), fun G a c => ?_, fun _ => rfl, fun G _ _ => ?_, fun _ _ => rfl, ?_, rfl, fun _ _ _ => rfl⟩
  · rw [or_sI_I, if_neg (fun z => by omega)]
  · rw [or_sI_I, if_neg (fun z => by omega)]
  · rw [or_sI_I, if_neg (fun z => by omega)]
theorem oCL.pv {S S' : ox_St} {x : Nat} (h : oCL S x) (g : prV x S S') (hx : x + 76 ≤ S.n) : oCL S' x := by
  obtain ⟨g1, g2, g3, g4, g5, g6, g7⟩ := g
  have k12 := (h.row (o := 12) (k := 18) (n := 8) (by decide)).1
  have k18 := (h.row (o := 18) (k := 19) (n := 7) (by decide)).1
  have k21 := (h.row (o := 21) (k := 15) (n := 1) (by decide)).1
  have hk : ∀ a, x ≤ a → a < x + 76 → S.K a = 20 → False := fun a a1 a2 e => by
    obtain ⟨o, rfl⟩ : ∃ o, a = x + o := ⟨a - x, by omega⟩
    have hall : ∀ o : Fin 76, (cKt.any (fun q => q.1 == o.val && q.2 != 20) || cLt.any (fun q => q.1 == o.val && q.2.1 != 20) || decide (28 ≤ o.val ∧ o.val < 68)) = true := by decide
    have := hall ⟨o, by omega⟩
    simp only [Bool.or_eq_true, List.any_eq_true, Bool.and_eq_true, beq_iff_eq, bne_iff_ne, decide_eq_true_eq] at this
    rcases this with (⟨q, q1, q2, q3⟩ | ⟨q, q1, q2, q3⟩) | q
    · have := h.2.1 q q1
      rw [q2] at this
      exact q3 (this.symm.trans e)
    · have := (h.2.2.1 q q1).1
      rw [q2] at this
      exact q3 (this.symm.trans e)
    · obtain ⟨f, j, hf, hj, ho⟩ : ∃ f j, f < 8 ∧ j < 5 ∧ o = 28 + 5 * f + j := ⟨(o - 28) / 5, (o - 28) % 5, by omega, by omega, by omega⟩
      obtain ⟨k1, ⟨a1, a2, a3⟩, ⟨b1, b2, b3⟩, ⟨c1, c2, c3⟩, d1, d2, d3⟩ := (h.fr hf).1
      have e' : S.K (x + 28 + 5 * f + j) = 20 := by rw [show x + 28 + 5 * f + j = x + o by omega]; exact e
      have : j = 0 ∨ j = 1 ∨ j = 2 ∨ j = 3 ∨ j = 4 := by omega
      rcases this with rfl | rfl | rfl | rfl | rfl
      · rw [Nat.add_zero, k1] at e'; exact absurd e' (by decide)
      · rw [a2] at e'; exact absurd e' (by decide)
      · rw [b2] at e'; exact absurd e' (by decide)
      · rw [c2] at e'; exact absurd e' (by decide)
      · rw [d2] at e'; exact absurd e' (by decide)
  refine h.next (fun a a1 a2 => g2 a (by omega)) (fun F a n1 n2 n3 n4 n5 a1 a2 => ?_) (fun F a hF a1 a2 => ?_) ?_ ?_ ?_
  · by_cases e1 : a = x
    · rw [e1]; exact g5 F
    · by_cases e2 : a = x + 2
      · rw [e2]; exact g7 F n1
      · exact (g3 a ⟨by omega, e1, e2, hk a a1 a2⟩).2.2.2.1 F
  · by_cases e1 : a = x
    · rw [e1]; exact g4 F (by omega) (by omega)
    · by_cases e2 : a = x + 2
      · rw [e2]; exact g6 F (by omega) (by omega)
      · exact (g3 a ⟨by omega, e1, e2, hk a a1 a2⟩).2.2.1 F
  · exact funext (g3 (x + 12) ⟨by omega, by omega, by omega, by rw [k12]; decide⟩).2.2.2.2.2.2.1
  · exact funext (g3 (x + 18) ⟨by omega, by omega, by omega, by rw [k18]; decide⟩).2.2.2.2.2.2.1
  · exact funext (g3 (x + 21) ⟨by omega, by omega, by omega, by rw [k21]; decide⟩).2.2.2.2.2.1
theorem oCL.pr {S S' : ox_St} {x : Nat} (h : oCL S x) (g : prF x S S') (hx : x + 76 ≤ S.n) : oCL S' x := h.pv g.v hx
section OTP
variable {sp : ox_E} {d mr sr : Nat} {S : ox_St} {Q : ox_Q} {x e : Nat} {b : Nat → Nat} {s : oTS}
theorem tpS.fault {p : Nat} (h : tpS S x b e (p, none)) (hx : x + 76 ≤ S.n) : tpS (S.sI 63 x (nI p)) x b e (p, some p) := by
  obtain ⟨h1, h2, h3, h4, h5, h6, h7, h8⟩ := h
  refine ⟨h1.pr (prF_sI (Or.inr rfl)) hx, ?_, h3, ?_, h5, if_pos ⟨rfl, rfl⟩, fun v hv => ?_, h8⟩
  · rw [or_sI_I, if_neg (fun z => by cases z.1)]; exact h2
  · rw [or_sI_I, if_neg (fun z => by cases z.1)]; exact h4
  · rw [← Option.some.inj hv]
    have : p ≤ e := h5
    omega
theorem tpS.on {p : Nat} (h : tpS S x b e (p, none)) (hx : x + 76 ≤ S.n) (hp : p < e) : tpS (S.sI 62 x (nI (p + 1))) x b e (p + 1, none) := by
  obtain ⟨h1, h2, h3, h4, h5, h6, h7, h8⟩ := h
  refine ⟨h1.pr (prF_sI (Or.inl rfl)) hx, ?_, h3, if_pos ⟨rfl, rfl⟩, hp, ?_, fun v hv => (by cases hv), h8⟩
  · rw [or_sI_I, if_neg (fun z => by cases z.1)]; exact h2
  · rw [or_sI_I, if_neg (fun z => by cases z.1)]; exact h6
theorem tpS.kv {S' : ox_St} (h : tpS S x b e s) (g : prV x S S') (hx : x + 76 ≤ S.n) (i2 : S'.I 62 x = S.I 62 x) (i3 : S'.I 63 x = S.I 63 x) : tpS S' x b e s := by
  obtain ⟨h1, h2, h3, h4, h5, h6, h7, h8⟩ := h
  have k1 := (h1.row (o := 1) (k := 15) (n := 800) (by decide)).1
  refine ⟨h1.pv g hx, (g.2.2.2.1 61 (by decide) (by decide)).trans h2, h3, i2.trans h4, h5, i3.trans h6, h7, fun i hi => ?_⟩
  rw [(g.2.2.1 (x + 1) ⟨by omega, by omega, by omega, by rw [k1]; decide⟩).2.2.2.2.2.1 i]
  exact h8 i hi
theorem tpS.keep {S' : ox_St} (h : tpS S x b e s) (g : prF x S S') (hx : x + 76 ≤ S.n) (i2 : S'.I 62 x = S.I 62 x) (i3 : S'.I 63 x = S.I 63 x) : tpS S' x b e s := h.kv g.v hx i2 i3
/-- refuse -/
theorem s_113 (hsp : ox_mono sp) (h : tpS S x b e s) (hx : x + 76 ≤ S.n) (hQ : ∀ S', prF x S S' → S'.n = S.n → tpS S' x b e (rfS s) → Q none S') : ox_M sp (d + 1) 113 [.inr (.inr x)] mr sr S Q := by
  have k0 := h.1.obj (o := 0) (k := 13) (by decide)
  have k : S.K x = 13 := k0
  obtain ⟨p, f⟩ := s
  cases f with
  | some v =>
    have i3 : S.I 63 x = nI v := h.2.2.2.2.2.1
    have hv : v ≤ 800 := h.2.2.2.2.2.2.1 v rfl
    exact f_113 hsp ⟨by rw [k]; rfl, fun _ => ⟨rfl, hQ S prF.refl rfl h⟩, fun z => absurd z (by rw [i3]; exact nI_m1 (by omega))⟩
  | none =>
    have i3 : S.I 63 x = -1 := h.2.2.2.2.2.1
    have i2 : S.I 62 x = nI p := h.2.2.2.1
    refine f_113 hsp ⟨by rw [k]; rfl, fun z => absurd i3 z, fun _ => ⟨by rw [k]; rfl, by rw [k]; rfl, rfl, ?_⟩⟩
    rw [i2]
    exact hQ _ (prF_sI (Or.inr rfl)) rfl (h.fault hx)
/-- peek -/
theorem s_114 (hsp : ox_mono sp) (h : tpS S x b e s) (hQ : Q (some (.inl (if s.1 < e then nI (b s.1) else -1))) S) : ox_M sp (d + 1) 114 [.inr (.inr x)] mr sr S Q := by
  obtain ⟨h1, h2, h3, h4, h5, h6, h7, h8⟩ := h
  have k : S.K x = 13 := h1.obj (o := 0) (k := 13) (by decide)
  have R60 : S.R 60 x = x + 1 := h1.ref (F := 60) (o := 0) (t := 1) (by decide)
  obtain ⟨a1, a2⟩ := h1.row (o := 1) (k := 15) (n := 800) (by decide)
  refine f_114 hsp ?_
  unfold q_114
  rw [k, h2, h4, R60, a1, a2, nI_clamp (n := s.1) (by omega)]
  refine ⟨rfl, rfl, fun z => ⟨trivial, ?_⟩, fun z => ⟨rfl, fun y => absurd y (nI_ge (b := 800) ?_ (by decide)), fun y => ⟨rfl, rfl, rfl, ?_, trivial, ?_⟩⟩⟩
  · have := (nI_leI (by omega) (by omega)).mp z
    rw [if_neg (by omega)] at hQ; exact hQ
  · have : s.1 < e := Nat.not_le.mp fun w => z (nI_le w (by omega))
    omega
  · have : s.1 < e := Nat.not_le.mp fun w => z (nI_le w (by omega))
    exact vp_in_nI (by omega) (by decide)
  · have hlt : s.1 < e := Nat.not_le.mp fun w => z (nI_le w (by omega))
    rw [if_pos hlt] at hQ
    rw [(h8 _ hlt).1]; exact hQ
/-- byteWithin -/
theorem s_115 (hsp : ox_mono sp) (h : tpS S x b e s) (hx : x + 76 ≤ S.n) {lo hi : Nat} (hlo : lo ≤ 255) (hhi : hi ≤ 255) (hQ : ∀ S', prF x S S' → S'.n = S.n → tpS S' x b e (bwS b e lo hi s) → Q (some (.inl (bwV b e lo hi s))) S') : ox_M sp (d + 1) 115 [.inr (.inr x), .inl (nI lo), .inl (nI hi)] mr sr S Q := by
  have h' := h
  obtain ⟨h1, h2, h3, h4, h5, h6, h7, h8⟩ := h'
  have k : S.K x = 13 := h1.obj (o := 0) (k := 13) (by decide)
  have R60 : S.R 60 x = x + 1 := h1.ref (F := 60) (o := 0) (t := 1) (by decide)
  obtain ⟨a1, a2⟩ := h1.row (o := 1) (k := 15) (n := 800) (by decide)
  obtain ⟨p, f⟩ := s
  cases f with
  | some v =>
    have i3 : S.I 63 x = nI v := h6
    have hv : v ≤ 800 := h7 v rfl
    refine f_115 hsp ⟨by rw [k]; rfl, fun z => absurd z (by rw [i3]; exact nI_m1 (by omega)), fun _ => ⟨trivial, hQ S prF.refl rfl h⟩⟩
  | none =>
    have i3 : S.I 63 x = -1 := h6
    have i2 : S.I 62 x = nI p := h4
    have hpe : p ≤ e := h5
    have bad : ¬ (p < e ∧ lo ≤ b p ∧ b p ≤ hi) → Q (some (.inl (-1))) (S.sI 63 x (nI p)) := fun c => by
      have := hQ (S.sI 63 x (nI p)) (prF_sI (Or.inr rfl)) rfl (by rw [bwS_no c]; exact h.fault hx)
      rw [bwV_no c] at this
      exact this
    refine f_115 hsp ?_
    unfold q_115
    rw [k, h2, i2, i3, R60, a1, a2, nI_clamp (n := p) (by omega)]
    refine ⟨rfl, fun _ => ⟨rfl, rfl, fun z => ⟨rfl, rfl, trivial, bad (fun c => ?_)⟩, fun z => ⟨rfl, fun y => absurd y (nI_ge (b := 800) ?_ (by decide)), fun y => ⟨rfl, rfl, rfl, ?_, ?_⟩⟩⟩, fun z => absurd rfl z⟩
    · have := (nI_leI (by omega) (by omega)).mp z
      omega
    · have : p < e := Nat.not_le.mp fun w => z (nI_le w (by omega))
      omega
    · have : p < e := Nat.not_le.mp fun w => z (nI_le w (by omega))
      exact vp_in_nI (by omega) (by decide)
    · have hlt : p < e := Nat.not_le.mp fun w => z (nI_le w (by omega))
      obtain ⟨c1, c2⟩ := h8 p hlt
      rw [c1]
      refine ⟨fun w => ⟨rfl, rfl, trivial, bad (fun c => ?_)⟩, fun w => ⟨rfl, rfl, rfl, vp_in_nI (by omega) (by decide), fun v => ⟨rfl, rfl, ?_⟩, fun v => ⟨rfl, rfl, trivial, bad (fun c => v (nI_le c.2.2 (by omega)))⟩⟩⟩
      · have := (nI_ltI (by omega) (by omega)).mp w
        omega
      · have ok : p < e ∧ lo ≤ b p ∧ b p ≤ hi := ⟨hlt, Nat.not_lt.mp fun q => w (nI_lt q (by omega)), (nI_leI (by omega) (by omega)).mp v⟩
        have hq := hQ (S.sI 62 x (nI (p + 1))) (prF_sI (Or.inl rfl)) rfl (by rw [bwS_ok ok]; exact h.on hx hlt)
        rw [bwV_ok ok] at hq
        rw [nI_1]
        have j2 : (S.sI 62 x (nI (p + 1))).I 62 x - 1 = nI p := by rw [or_sI_I, if_pos ⟨rfl, rfl⟩, nI_pred]
        intro S4
        have K4 : S4.K x = 13 := k
        have R4 : S4.R 60 x = x + 1 := R60
        have J4 : S4.I 62 x - 1 = nI p := j2
        have A4 : S4.K (x + 1) = 15 := a1
        have L4 : S4.len (x + 1) = 800 := a2
        have V4 : S4.rI (x + 1) p = nI (b p) := c1
        have Q4 : Q (some (.inl (nI (b p)))) S4 := hq
        generalize S4 = T at K4 R4 J4 A4 L4 V4 Q4 ⊢
        rw [K4, R4, J4, A4, L4, nI_clamp (n := p) (by omega), V4]
        exact ⟨rfl, rfl, rfl, vp_in_nI (by omega) (by decide), trivial, Q4⟩
end OTP
