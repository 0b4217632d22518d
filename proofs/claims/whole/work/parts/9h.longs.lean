/-! reading the tape: digitCount, longNumber -/
/-- behind the two bytes of a count -/
def lgC (b : Nat → Nat) (e p : Nat) : oTS := if p < e ∧ 16 < b p ∧ b p < 240 then (p, some p) else bwS b e (if p < e ∧ 240 ≤ b p then 255 else 0) (if p < e ∧ 240 ≤ b p then 255 else 0) (bwS b e 0 255 (p, none))
def lgK (b : Nat → Nat) (p : Nat) : Nat := if 240 ≤ b p then 256 - b p else b p
def lgR (b : Nat → Nat) (e p : Nat) : Int32 := if (lgC b e p).2 = none then (if 240 ≤ b p then nI (b p) - 256 else nI (b p)) else 0
theorem lgC_none {b : Nat → Nat} {e p : Nat} (h : (lgC b e p).2 = none) : p + 2 ≤ e ∧ lgC b e p = (p + 2, none) ∧ (b p ≤ 16 ∨ 240 ≤ b p) := by
  unfold lgC at h ⊢
  by_cases c : p < e ∧ 16 < b p ∧ b p < 240
  · rw [if_pos c] at h; cases h
  · rw [if_neg c] at h ⊢
    obtain ⟨g1, g2, g3, -⟩ := bwS_none h
    obtain ⟨k1, k2, k3, -⟩ := bwS_none g1
    rw [k3] at g2 g3 ⊢
    have : p + 1 < e := g2.1
    exact ⟨by omega, g3, by have : p < e := k2.1; omega⟩
/-- behind k of n digits -/
def lgD (b : Nat → Nat) (e n : Nat) (s : oTS) : Nat → oTS
  | 0 => s
  | i + 1 => bwS b e (if i + 1 = n ∧ bwV b e 0 255 (lgD b e n s i) = 0 then 1 else 0) 127 (bwS b e 0 255 (lgD b e n s i))
def dgV (b : Nat → Nat) (q i : Nat) : Nat := b (q + 2 * i) + 256 * b (q + 2 * i + 1)
theorem lgD_some {b : Nat → Nat} {e n : Nat} {s : oTS} {i v p : Nat} (h : lgD b e n s i = (p, some v)) : ∀ k, lgD b e n s (i + k) = (p, some v)
  | 0 => h
  | k + 1 => by
    show bwS b e _ 127 (bwS b e 0 255 (lgD b e n s (i + k))) = _
    rw [lgD_some h k]
    rfl
theorem lgD_none {b : Nat → Nat} {e n : Nat} {s : oTS} (hs : s.1 ≤ e) : ∀ k, (lgD b e n s k).2 = none → s.2 = none ∧ lgD b e n s k = (s.1 + 2 * k, none) ∧ s.1 + 2 * k ≤ e ∧ ∀ i, i < k → b (s.1 + 2 * i + 1) ≤ 127 ∧ (i + 1 = n → b (s.1 + 2 * i) = 0 → 1 ≤ b (s.1 + 2 * i + 1))
  | 0, h => ⟨h, by obtain ⟨p, f⟩ := s; have : f = none := h; rw [this]; rfl, hs, fun i hi => absurd hi (Nat.not_lt_zero i)⟩
  | k + 1, h => by
    obtain ⟨g1, g2, g3, -⟩ := bwS_none h
    obtain ⟨k1, k2, k3, k4⟩ := bwS_none g1
    obtain ⟨i1, i2, i3, i4⟩ := lgD_none hs k k1
    rw [k4] at g2
    rw [k3] at g2
    rw [i2] at k2 g2
    have e1 : s.1 + 2 * k + 1 < e := g2.1
    have e2 : b (s.1 + 2 * k + 1) ≤ 127 := g2.2.2
    refine ⟨i1, ?_, by omega, fun i hi => ?_⟩
    · show bwS b e (if k + 1 = n ∧ bwV b e 0 255 (lgD b e n s k) = 0 then 1 else 0) 127 (bwS b e 0 255 (lgD b e n s k)) = _
      rw [g3, k3, i2]
      rfl
    · by_cases e3 : i = k
      · subst e3
        refine ⟨e2, fun e4 e5 => ?_⟩
        have e6 : (if i + 1 = n ∧ nI (b (s.1 + 2 * i, (none : Option Nat)).1) = 0 then 1 else 0) ≤ b (s.1 + 2 * i + 1) := g2.2.1
        rw [if_pos ⟨e4, by show nI (b (s.1 + 2 * i)) = 0; rw [e5]; rfl⟩] at e6
        exact e6
      · exact i4 i (by omega)
theorem lgD_le {b : Nat → Nat} {e n : Nat} {s : oTS} (hs : s.1 ≤ e) : ∀ k, (lgD b e n s k).1 ≤ e
  | 0 => hs
  | k + 1 => bwS_le (bwS_le (lgD_le hs k))
theorem prF_wI {x t i : Nat} {S0 S : ox_St} {v : Int32} (h : prF x S0 S) (ht : S0.n ≤ t) (hx : x + 76 ≤ S0.n) : prF x S0 (S.wI t i v) := by
  obtain ⟨h1, h2, h3, h4, h5, h6, h7⟩ := h
  exact ⟨h1, h2, h3.trans ((oAg_wI (P := fun a => a < S0.n) (fun z => by omega)).sub (fun a ha => ha.1)), h4, h5, h6, h7⟩
section OLG
variable {sp : ox_E} {d mr sr : Nat} {S : ox_St} {Q : ox_Q} {x e p : Nat} {b : Nat → Nat}
/-- digitCount -/
theorem s_120 (hsp : ox_mono sp) (h : tpS S x b e (p, none)) (hx : x + 76 ≤ S.n) (hQ : ∀ S', prF x S S' → S'.n = S.n → tpS S' x b e (lgC b e p) → Q (some (.inl (lgR b e p))) S') : ox_M sp (d + 2) 120 [.inr (.inr x)] mr sr S Q := by
  have hE : ox_mono (ox_M sp (d + 1)) := ox_M_mono hsp _
  have k : S.K x = 13 := h.1.obj (o := 0) (k := 13) (by decide)
  have hbp : p < e → b p < 256 := fun hp => (h.2.2.2.2.2.2.2 p hp).2
  have hpe : p ≤ e := h.2.2.2.2.1
  have he := h.2.2.1
  refine f_120 hsp ⟨by decide, k, by decide, 0, 0, Nat.zero_le _, Nat.zero_le _, s_114 hsp h (f_120_4 hE ?_)⟩
  -- the two ways on
  have way : ∀ (v y : Int32), y = (if p < e ∧ 240 ≤ b p then 1 else 0) → v = (if p < e then nI (b p) else -1) → c_120_17 (ox_M sp (d + 1)) x v y S mr sr Q := by
    intro v y hy hv
    have go : ¬ (p < e ∧ 16 < b p ∧ b p < 240) → c_120_34 (ox_M sp (d + 1)) x v y S mr sr Q := by
      intro hc
      have hC : lgC b e p = bwS b e (if p < e ∧ 240 ≤ b p then 255 else 0) (if p < e ∧ 240 ≤ b p then 255 else 0) (bwS b e 0 255 (p, none)) := if_neg hc
      refine f_120_34 hE ⟨by decide, k, by decide, 0, 0, Nat.zero_le _, Nat.zero_le _, ?_⟩
      refine s_115 (lo := 0) (hi := 255) hsp h hx (by decide) (by decide) (fun S1 f1 n1 h1 => f_120_42 hE ?_)
      have k1 : S1.K x = 13 := h1.1.obj (o := 0) (k := 13) (by decide)
      -- the upper byte
      have up : ∀ sg : Nat, sg = (if p < e ∧ 240 ≤ b p then 255 else 0) → c_120_54 (ox_M sp (d + 1)) x v y (nI sg) S1 mr sr Q := by
        intro sg hsg
        have hsg2 : sg ≤ 255 := by
          rw [hsg]
          by_cases c : p < e ∧ 240 ≤ b p
          · rw [if_pos c]; decide
          · rw [if_neg c]; decide
        refine f_120_54 hE ⟨by decide, k1, by decide, 0, 0, Nat.zero_le _, Nat.zero_le _, ?_⟩
        refine s_115 hsp h1 (by omega) hsg2 hsg2 (fun S2 f2 n2 h2 => f_120_61 hE ?_)
        have k2 : S2.K x = 13 := h2.1.obj (o := 0) (k := 13) (by decide)
        rw [hsg, ← hC] at h2
        have hq := hQ S2 (f1.trans f2) (n2.trans n1) h2
        have i3 := h2.2.2.2.2.2.1
        have hv7 := h2.2.2.2.2.2.2.1
        cases hf : (lgC b e p).2 with
        | none =>
          rw [hf] at i3
          obtain ⟨g1, g2, g3⟩ := lgC_none hf
          have hp : p < e := by omega
          have hr : lgR b e p = if 240 ≤ b p then nI (b p) - 256 else nI (b p) := if_pos hf
          rw [hr] at hq
          rw [if_pos hp] at hv
          subst hv
          refine ⟨by rw [k2]; rfl, fun _ => ⟨fun y0 => f_120_87 hE ⟨trivial, ?_⟩, fun y0 => f_120_87 hE ⟨trivial, ?_⟩⟩, fun z => absurd i3 z⟩
          · have : ¬ 240 ≤ b p := fun c => by rw [hy, if_pos ⟨hp, c⟩] at y0; exact absurd y0 (by decide)
            rw [if_neg this] at hq; exact hq
          · have : 240 ≤ b p := Decidable.not_not.mp fun c => by rw [hy, if_neg (fun g => c g.2)] at y0; exact absurd rfl y0
            rw [if_pos this] at hq; exact hq
        | some w =>
          rw [hf] at i3
          have hw := hv7 w hf
          have hr : lgR b e p = 0 := if_neg (by rw [hf]; exact fun z => by cases z)
          rw [hr] at hq
          exact ⟨by rw [k2]; rfl, fun z => absurd z (by rw [show S2.I 63 x = nI w from i3]; exact nI_m1 (by omega)), fun _ => f_120_87 hE ⟨trivial, hq⟩⟩
      refine ⟨fun y0 => up 0 ?_, fun y0 => up 255 ?_⟩
      · rw [if_neg (fun c => by rw [hy, if_pos c] at y0; exact absurd y0 (by decide))]
      · rw [if_pos (Decidable.not_not.mp fun c => by rw [hy, if_neg c] at y0; exact absurd rfl y0)]
    refine f_120_17 hE ⟨fun z => go (fun c => ?_), fun z => ⟨fun y0 => go (fun c => ?_), fun y0 => ⟨by decide, k, by decide, 0, 0, Nat.zero_le _, Nat.zero_le _, ?_⟩⟩⟩
    · have := hbp c.1
      rw [hv, if_pos c.1] at z
      have := (nI_leI (b := 16) (by omega) (by decide)).mp z
      omega
    · rw [hy, if_neg (fun g => by omega)] at y0
      exact y0 rfl
    · have hp : p < e := by
        refine Decidable.not_not.mp fun c => z ?_
        rw [hv, if_neg c]; decide
      have h2 : ¬ 240 ≤ b p := fun c => by rw [hy, if_pos ⟨hp, c⟩] at y0; exact absurd y0 (by decide)
      have h3 : 16 < b p := by
        have := hbp hp
        refine Nat.not_le.mp fun c => z ?_
        rw [hv, if_pos hp]
        exact nI_le (b := 16) c (by decide)
      have hC : lgC b e p = (p, some p) := if_pos ⟨hp, h3, by omega⟩
      have hr : lgR b e p = 0 := if_neg (by rw [hC]; exact fun z => by cases z)
      refine s_113 hsp h hx (fun S1 f1 n1 h1 => f_120_32 hE ⟨trivial, ?_⟩)
      have hq := hQ S1 f1 n1 (by rw [hC]; exact h1)
      rw [hr] at hq
      exact hq
  have e0 : (if (p, (none : Option Nat)).1 < e then nI (b (p, (none : Option Nat)).1) else -1) = (if p < e then nI (b p) else (-1 : Int32)) := rfl
  rw [e0]
  refine ⟨fun z => way _ 0 ?_ rfl, fun z => way _ 1 ?_ rfl⟩
  · rw [if_neg (fun c => ?_)]
    have := hbp c.1
    rw [if_pos c.1] at z
    have := (nI_ltI (b := 240) (by omega) (by decide)).mp z
    omega
  · rw [if_pos]
    have hp : p < e := by
      refine Decidable.not_not.mp fun c => z ?_
      rw [if_neg c]; decide
    have := hbp hp
    refine ⟨hp, Nat.not_lt.mp fun c => z ?_⟩
    rw [if_pos hp]
    exact nI_lt (b := 240) c (by decide)
end OLG
