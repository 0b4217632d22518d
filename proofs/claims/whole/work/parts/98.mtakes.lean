/-! printed by gen/g98.py: the reference's isPlace, takes, gives -/
/-- the reference's code c, its bytes from g on, is the code κ -/
def mSh (S : ox_St) (m c g : Nat) (κ : oCd) : Prop := (S.rI (m + 4) c = nI (cdA κ) ∧ S.rI (m + 5) c = nI (cdL κ) ∧ S.rI (m + 6) c = nI (cdM κ)) ∧ (S.rI (m + 7) c = nI g ∧ S.rI (m + 8) c = nI (cdN κ) ∧ ∀ p, p < cdN κ → S.rI (m + 13) (g + p) = nI (cdB κ p)) ∧ (S.rI (m + 10) c = nI (cdK κ) ∧ S.rI (m + 12) c = nI (cdW κ)) ∧ g + cdN κ ≤ 2100 ∧ c < 300 ∧ cdO κ
/-- where an instruction leads by what it is told must be a place -/
def jpW (κ : oCd) (w a nx : Nat) : Prop := (w = 110 ∨ w = 122 → plW κ (nx + a)) ∧ (w = 113 ∨ w = 114 ∨ w = 115 → plW κ a)
section OMT
variable {sp : ox_E} {d mr sr : Nat} {S : ox_St} {Q : ox_Q} {m ce c g : Nat} {κ : oCd}
/-- isPlace -/
theorem s_164 (hsp : ox_mono sp) (h : oML S m ce) (hs : mSh S m c g κ) {p : Nat} (hp : p < 1000000) (hQ1 : plW κ p → Q (some (.inl 1)) S) (hQ0 : ¬ plW κ p → Q (some (.inl 0)) S) : ox_M sp (d + 1) 164 [.inr (.inr m), .inl (nI c), .inl (nI p)] mr sr S Q := by
  obtain ⟨⟨s1, s2, s3⟩, ⟨s4, s5, s6⟩, ⟨s7, s8⟩, s9, s10, o1, o2, o3, o4, o5, o6, o7, o8⟩ := hs
  obtain ⟨r1, r2, r3⟩ := h.row (F := 81) (o := 8) (k := 15) (n := 300) (by decide +kernel)
  obtain ⟨t1, t2, t3⟩ := h.row (F := 80) (o := 7) (k := 15) (n := 300) (by decide +kernel)
  obtain ⟨u1, u2, u3⟩ := h.row (F := 89) (o := 13) (k := 15) (n := 2100) (by decide +kernel)
  have em : nI p - nI p / 2 * 2 = nI (p % 2) := pk_rem (d := 2) (by omega) (by decide) (by decide)
  refine f_164 hsp ?_
  unfold q_164
  rw [h.1, r1, r2, r3, t1, t2, t3, u1, u2, u3, em, nI_clamp (n := c) (by omega), s5, s4, nI_add g p]
  refine ⟨fun z => absurd z (nI_pos (by omega)), fun _ => ⟨rfl, rfl, vp_in_nI s10 (by decide), fun z => ⟨Or.inl rfl, hQ0 (fun e => ?_)⟩, fun z => ⟨by decide, fun y => ⟨Or.inl rfl, hQ0 (fun e => y (by rw [e.2.1]; rfl))⟩, fun y => ⟨fun w => ⟨Or.inr rfl, hQ1 ?_⟩, fun w => ⟨rfl, rfl, rfl, vp_in_nI s10 (by decide), rfl, ?_, ?_⟩⟩⟩⟩⟩
  · have := e.1
    have := (nI_leI (by omega) (by omega)).mp z
    omega
  · have hpN : p < cdN κ := Nat.not_le.mp fun e => z (nI_le e (by omega))
    have hp2 : p % 2 = 0 := (nI_eq (b := 0) (by omega) (by decide)).mp y
    have := (nI_ltI (b := 2) (by omega) (by decide)).mp w
    exact ⟨hpN, hp2, fun e => absurd e (by omega)⟩
  · have hpN : p < cdN κ := Nat.not_le.mp fun e => z (nI_le e (by omega))
    have h2 : 2 ≤ p := Nat.not_lt.mp fun e => w (nI_lt (b := 2) e (by decide))
    rw [show (2 : Int32) = nI 2 from rfl, pk_sub (by omega)]
    exact vp_in_nI (by omega) (by decide)
  · have hpN : p < cdN κ := Nat.not_le.mp fun e => z (nI_le e (by omega))
    have hp2 : p % 2 = 0 := (nI_eq (b := 0) (by omega) (by decide)).mp y
    have h2 : 2 ≤ p := Nat.not_lt.mp fun e => w (nI_lt (b := 2) e (by decide))
    have hb := o6 (p - 2) (by omega)
    rw [show (2 : Int32) = nI 2 from rfl, pk_sub (by omega), nI_clamp (n := g + p - 2) (by omega), show g + p - 2 = g + (p - 2) by omega, s6 (p - 2) (by omega)]
    refine ⟨fun v => ⟨Or.inl rfl, hQ0 (fun e => e.2.2 h2 ((nI_eq (b := 144) (by omega) (by decide)).mp v))⟩, fun v => ⟨Or.inr rfl, hQ1 ⟨hpN, hp2, fun _ e => v (by rw [e]; rfl)⟩⟩⟩
/-- takes -/
theorem s_165 (hsp : ox_mono sp) (h : oML S m ce) (hs : mSh S m c g κ) {w a nx : Nat} (h8 : S.I 138 m = nI w) (h9 : S.I 139 m = nI a) (h0 : S.I 140 m = nI nx) (hw : w < 2 ^ 31) (ha : a < 100000) (hnx : nx < 1000) (hQ1 : ∀ t, tkW w a = some t → agW κ w a → jpW κ w a nx → Q (some (.inl (nI t))) S) (hQ0 : (tkW w a = none ∨ ¬ agW κ w a ∨ ¬ jpW κ w a nx) → Q (some (.inl (-1))) S) : ox_M sp (d + 2) 165 [.inr (.inr m), .inl (nI c)] mr sr S Q := by
  have hE : ox_mono (ox_M sp (d + 1)) := ox_M_mono hsp _
  have hs' := hs
  obtain ⟨⟨s1, s2, s3⟩, ⟨s4, s5, s6⟩, ⟨s7, s8⟩, s9, s10, o1, o2, o3, o4, o5, o6, o7, o8, o9⟩ := hs'
  obtain ⟨r1, r2, r3⟩ := h.row (F := 85) (o := 12) (k := 15) (n := 300) (by decide +kernel)
  obtain ⟨t1, t2, t3⟩ := h.row (F := 83) (o := 10) (k := 15) (n := 300) (by decide +kernel)
  obtain ⟨u1, u2, u3⟩ := h.row (F := 78) (o := 5) (k := 15) (n := 300) (by decide +kernel)
  have nj : ∀ k, w = k → k ≠ 110 → k ≠ 122 → k ≠ 113 → k ≠ 114 → k ≠ 115 → jpW κ w a nx := fun k e e1 e2 e3 e4 e5 => ⟨fun z => absurd z (by omega), fun z => absurd z (by omega)⟩
  refine f_165 hsp ?_
  unfold q_165
  rw [h.1, h8, h9, h0, nI_toInt hw, r1, r2, r3, t1, t2, t3, u1, u2, u3, nI_clamp (n := c) (by omega), s2, s7, s8, nI_add nx a]
  refine ⟨rfl, ?_⟩
  refine ⟨fun z => ?_, fun z1 => ?_⟩
  · obtain rfl : w = 1 := by omega
    exact ⟨trivial, hQ1 1 rfl (by unfold agW; omega) (nj _ rfl (by decide) (by decide) (by decide) (by decide) (by decide))⟩
  refine ⟨fun z => ?_, fun z2 => ?_⟩
  · obtain rfl : w = 2 := by omega
    exact ⟨trivial, hQ1 2 rfl (by unfold agW; omega) (nj _ rfl (by decide) (by decide) (by decide) (by decide) (by decide))⟩
  refine ⟨fun z => ?_, fun z3 => ?_⟩
  · obtain rfl : w = 3 := by omega
    exact ⟨trivial, hQ1 3 rfl (by unfold agW; omega) (nj _ rfl (by decide) (by decide) (by decide) (by decide) (by decide))⟩
  refine ⟨fun z => ?_, fun z4 => ?_⟩
  · obtain rfl : w = 4 := by omega
    exact ⟨trivial, hQ1 1 rfl (by unfold agW; omega) (nj _ rfl (by decide) (by decide) (by decide) (by decide) (by decide))⟩
  refine ⟨fun z => ?_, fun z5 => ?_⟩
  · obtain rfl : w = 5 := by omega
    exact ⟨trivial, hQ0 (Or.inl rfl)⟩
  refine ⟨fun z => ?_, fun z6 => ?_⟩
  · obtain rfl : w = 6 := by omega
    exact ⟨trivial, hQ0 (Or.inl rfl)⟩
  refine ⟨fun z => ?_, fun z7 => ?_⟩
  · obtain rfl : w = 7 := by omega
    exact ⟨trivial, hQ0 (Or.inl rfl)⟩
  refine ⟨fun z => ?_, fun z8 => ?_⟩
  · obtain rfl : w = 8 := by omega
    exact ⟨trivial, hQ0 (Or.inl rfl)⟩
  refine ⟨fun z => ?_, fun z9 => ?_⟩
  · obtain rfl : w = 9 := by omega
    exact ⟨trivial, hQ0 (Or.inl rfl)⟩
  refine ⟨fun z => ?_, fun z10 => ?_⟩
  · obtain rfl : w = 10 := by omega
    exact ⟨trivial, hQ0 (Or.inl rfl)⟩
  refine ⟨fun z => ?_, fun z11 => ?_⟩
  · obtain rfl : w = 11 := by omega
    exact ⟨trivial, hQ1 1 rfl (by unfold agW; omega) (nj _ rfl (by decide) (by decide) (by decide) (by decide) (by decide))⟩
  refine ⟨fun z => ?_, fun z12 => ?_⟩
  · obtain rfl : w = 12 := by omega
    exact ⟨trivial, hQ1 1 rfl (by unfold agW; omega) (nj _ rfl (by decide) (by decide) (by decide) (by decide) (by decide))⟩
  refine ⟨fun z => ?_, fun z13 => ?_⟩
  · obtain rfl : w = 13 := by omega
    exact ⟨trivial, hQ0 (Or.inl rfl)⟩
  refine ⟨fun z => ?_, fun z14 => ?_⟩
  · obtain rfl : w = 14 := by omega
    exact ⟨trivial, hQ0 (Or.inl rfl)⟩
  refine ⟨fun z => ?_, fun z15 => ?_⟩
  · obtain rfl : w = 15 := by omega
    exact ⟨trivial, hQ0 (Or.inl rfl)⟩
  refine ⟨fun z => ?_, fun z16 => ?_⟩
  · obtain rfl : w = 16 := by omega
    exact ⟨trivial, hQ0 (Or.inl rfl)⟩
  refine ⟨fun z => ?_, fun z17 => ?_⟩
  · obtain rfl : w = 17 := by omega
    exact ⟨trivial, hQ0 (Or.inl rfl)⟩
  refine ⟨fun z => ?_, fun z18 => ?_⟩
  · obtain rfl : w = 18 := by omega
    exact ⟨trivial, hQ0 (Or.inl rfl)⟩
  refine ⟨fun z => ?_, fun z19 => ?_⟩
  · obtain rfl : w = 19 := by omega
    exact ⟨trivial, hQ0 (Or.inl rfl)⟩
  refine ⟨fun z => ?_, fun z20 => ?_⟩
  · obtain rfl : w = 20 := by omega
    exact ⟨trivial, hQ1 2 rfl (by unfold agW; omega) (nj _ rfl (by decide) (by decide) (by decide) (by decide) (by decide))⟩
  refine ⟨fun z => ?_, fun z21 => ?_⟩
  · obtain rfl : w = 21 := by omega
    exact ⟨trivial, hQ0 (Or.inl rfl)⟩
  refine ⟨fun z => ?_, fun z22 => ?_⟩
  · obtain rfl : w = 22 := by omega
    exact ⟨trivial, hQ1 2 rfl (by unfold agW; omega) (nj _ rfl (by decide) (by decide) (by decide) (by decide) (by decide))⟩
  refine ⟨fun z => ?_, fun z23 => ?_⟩
  · obtain rfl : w = 23 := by omega
    exact ⟨trivial, hQ1 2 rfl (by unfold agW; omega) (nj _ rfl (by decide) (by decide) (by decide) (by decide) (by decide))⟩
  refine ⟨fun z => ?_, fun z24 => ?_⟩
  · obtain rfl : w = 24 := by omega
    exact ⟨trivial, hQ1 2 rfl (by unfold agW; omega) (nj _ rfl (by decide) (by decide) (by decide) (by decide) (by decide))⟩
  refine ⟨fun z => ?_, fun z25 => ?_⟩
  · obtain rfl : w = 25 := by omega
    exact ⟨trivial, hQ1 2 rfl (by unfold agW; omega) (nj _ rfl (by decide) (by decide) (by decide) (by decide) (by decide))⟩
  refine ⟨fun z => ?_, fun z26 => ?_⟩
  · obtain rfl : w = 26 := by omega
    exact ⟨trivial, hQ1 2 rfl (by unfold agW; omega) (nj _ rfl (by decide) (by decide) (by decide) (by decide) (by decide))⟩
  refine ⟨fun z => ?_, fun z27 => ?_⟩
  · obtain rfl : w = 27 := by omega
    exact ⟨trivial, hQ0 (Or.inl rfl)⟩
  refine ⟨fun z => ?_, fun z28 => ?_⟩
  · obtain rfl : w = 28 := by omega
    exact ⟨trivial, hQ0 (Or.inl rfl)⟩
  refine ⟨fun z => ?_, fun z29 => ?_⟩
  · obtain rfl : w = 29 := by omega
    exact ⟨trivial, hQ0 (Or.inl rfl)⟩
  refine ⟨fun z => ?_, fun z30 => ?_⟩
  · obtain rfl : w = 30 := by omega
    exact ⟨trivial, hQ0 (Or.inl rfl)⟩
  refine ⟨fun z => ?_, fun z31 => ?_⟩
  · obtain rfl : w = 31 := by omega
    exact ⟨trivial, hQ0 (Or.inl rfl)⟩
  refine ⟨fun z => ?_, fun z32 => ?_⟩
  · obtain rfl : w = 32 := by omega
    exact ⟨trivial, hQ0 (Or.inl rfl)⟩
  refine ⟨fun z => ?_, fun z33 => ?_⟩
  · obtain rfl : w = 33 := by omega
    exact ⟨trivial, hQ0 (Or.inl rfl)⟩
  refine ⟨fun z => ?_, fun z34 => ?_⟩
  · obtain rfl : w = 34 := by omega
    exact ⟨trivial, hQ0 (Or.inl rfl)⟩
  refine ⟨fun z => ?_, fun z35 => ?_⟩
  · obtain rfl : w = 35 := by omega
    exact ⟨trivial, hQ0 (Or.inl rfl)⟩
  refine ⟨fun z => ?_, fun z36 => ?_⟩
  · obtain rfl : w = 36 := by omega
    exact ⟨trivial, hQ0 (Or.inl rfl)⟩
  refine ⟨fun z => ?_, fun z37 => ?_⟩
  · obtain rfl : w = 37 := by omega
    exact ⟨trivial, hQ0 (Or.inl rfl)⟩
  refine ⟨fun z => ?_, fun z38 => ?_⟩
  · obtain rfl : w = 38 := by omega
    exact ⟨trivial, hQ0 (Or.inl rfl)⟩
  refine ⟨fun z => ?_, fun z39 => ?_⟩
  · obtain rfl : w = 39 := by omega
    exact ⟨trivial, hQ0 (Or.inl rfl)⟩
  refine ⟨fun z => ?_, fun z40 => ?_⟩
  · obtain rfl : w = 40 := by omega
    exact ⟨trivial, hQ0 (Or.inl rfl)⟩
  refine ⟨fun z => ?_, fun z41 => ?_⟩
  · obtain rfl : w = 41 := by omega
    exact ⟨trivial, hQ0 (Or.inl rfl)⟩
  refine ⟨fun z => ?_, fun z42 => ?_⟩
  · obtain rfl : w = 42 := by omega
    exact ⟨trivial, hQ0 (Or.inl rfl)⟩
  refine ⟨fun z => ?_, fun z43 => ?_⟩
  · obtain rfl : w = 43 := by omega
    exact ⟨trivial, hQ0 (Or.inl rfl)⟩
  refine ⟨fun z => ?_, fun z44 => ?_⟩
  · obtain rfl : w = 44 := by omega
    exact ⟨trivial, hQ0 (Or.inl rfl)⟩
  refine ⟨fun z => ?_, fun z45 => ?_⟩
  · obtain rfl : w = 45 := by omega
    exact ⟨trivial, hQ0 (Or.inl rfl)⟩
  refine ⟨fun z => ?_, fun z46 => ?_⟩
  · obtain rfl : w = 46 := by omega
    exact ⟨trivial, hQ0 (Or.inl rfl)⟩
  refine ⟨fun z => ?_, fun z47 => ?_⟩
  · obtain rfl : w = 47 := by omega
    exact ⟨trivial, hQ0 (Or.inl rfl)⟩
  refine ⟨fun z => ?_, fun z48 => ?_⟩
  · obtain rfl : w = 48 := by omega
    exact ⟨trivial, hQ0 (Or.inl rfl)⟩
  refine ⟨fun z => ?_, fun z49 => ?_⟩
  · obtain rfl : w = 49 := by omega
    exact ⟨trivial, hQ0 (Or.inl rfl)⟩
  refine ⟨fun z => ?_, fun z50 => ?_⟩
  · obtain rfl : w = 50 := by omega
    exact ⟨trivial, hQ0 (Or.inl rfl)⟩
  refine ⟨fun z => ?_, fun z51 => ?_⟩
  · obtain rfl : w = 51 := by omega
    exact ⟨trivial, hQ0 (Or.inl rfl)⟩
  refine ⟨fun z => ?_, fun z52 => ?_⟩
  · obtain rfl : w = 52 := by omega
    exact ⟨trivial, hQ0 (Or.inl rfl)⟩
  refine ⟨fun z => ?_, fun z53 => ?_⟩
  · obtain rfl : w = 53 := by omega
    exact ⟨trivial, hQ0 (Or.inl rfl)⟩
  refine ⟨fun z => ?_, fun z54 => ?_⟩
  · obtain rfl : w = 54 := by omega
    exact ⟨trivial, hQ0 (Or.inl rfl)⟩
  refine ⟨fun z => ?_, fun z55 => ?_⟩
  · obtain rfl : w = 55 := by omega
    exact ⟨trivial, hQ0 (Or.inl rfl)⟩
  refine ⟨fun z => ?_, fun z56 => ?_⟩
  · obtain rfl : w = 56 := by omega
    exact ⟨trivial, hQ0 (Or.inl rfl)⟩
  refine ⟨fun z => ?_, fun z57 => ?_⟩
  · obtain rfl : w = 57 := by omega
    exact ⟨trivial, hQ0 (Or.inl rfl)⟩
  refine ⟨fun z => ?_, fun z58 => ?_⟩
  · obtain rfl : w = 58 := by omega
    exact ⟨trivial, hQ0 (Or.inl rfl)⟩
  refine ⟨fun z => ?_, fun z59 => ?_⟩
  · obtain rfl : w = 59 := by omega
    exact ⟨trivial, hQ0 (Or.inl rfl)⟩
  refine ⟨fun z => ?_, fun z60 => ?_⟩
  · obtain rfl : w = 60 := by omega
    exact ⟨trivial, hQ0 (Or.inl rfl)⟩
  refine ⟨fun z => ?_, fun z61 => ?_⟩
  · obtain rfl : w = 61 := by omega
    exact ⟨trivial, hQ0 (Or.inl rfl)⟩
  refine ⟨fun z => ?_, fun z62 => ?_⟩
  · obtain rfl : w = 62 := by omega
    exact ⟨trivial, hQ0 (Or.inl rfl)⟩
  refine ⟨fun z => ?_, fun z63 => ?_⟩
  · obtain rfl : w = 63 := by omega
    exact ⟨trivial, hQ0 (Or.inl rfl)⟩
  refine ⟨fun z => ?_, fun z64 => ?_⟩
  · obtain rfl : w = 64 := by omega
    exact ⟨trivial, hQ0 (Or.inl rfl)⟩
  refine ⟨fun z => ?_, fun z65 => ?_⟩
  · obtain rfl : w = 65 := by omega
    exact ⟨trivial, hQ0 (Or.inl rfl)⟩
  refine ⟨fun z => ?_, fun z66 => ?_⟩
  · obtain rfl : w = 66 := by omega
    exact ⟨trivial, hQ0 (Or.inl rfl)⟩
  refine ⟨fun z => ?_, fun z67 => ?_⟩
  · obtain rfl : w = 67 := by omega
    exact ⟨trivial, hQ0 (Or.inl rfl)⟩
  refine ⟨fun z => ?_, fun z68 => ?_⟩
  · obtain rfl : w = 68 := by omega
    exact ⟨trivial, hQ1 1 rfl (by unfold agW; omega) (nj _ rfl (by decide) (by decide) (by decide) (by decide) (by decide))⟩
  refine ⟨fun z => ?_, fun z69 => ?_⟩
  · obtain rfl : w = 69 := by omega
    exact ⟨trivial, hQ0 (Or.inl rfl)⟩
  refine ⟨fun z => ?_, fun z70 => ?_⟩
  · obtain rfl : w = 70 := by omega
    exact ⟨trivial, hQ0 (Or.inl rfl)⟩
  refine ⟨fun z => ?_, fun z71 => ?_⟩
  · obtain rfl : w = 71 := by omega
    exact ⟨trivial, hQ0 (Or.inl rfl)⟩
  refine ⟨fun z => ?_, fun z72 => ?_⟩
  · obtain rfl : w = 72 := by omega
    exact ⟨trivial, hQ0 (Or.inl rfl)⟩
  refine ⟨fun z => ?_, fun z73 => ?_⟩
  · obtain rfl : w = 73 := by omega
    exact ⟨trivial, hQ0 (Or.inl rfl)⟩
  refine ⟨fun z => ?_, fun z74 => ?_⟩
  · obtain rfl : w = 74 := by omega
    exact ⟨trivial, hQ0 (Or.inl rfl)⟩
  refine ⟨fun z => ?_, fun z75 => ?_⟩
  · obtain rfl : w = 75 := by omega
    exact ⟨trivial, hQ0 (Or.inl rfl)⟩
  refine ⟨fun z => ?_, fun z76 => ?_⟩
  · obtain rfl : w = 76 := by omega
    exact ⟨trivial, hQ0 (Or.inl rfl)⟩
  refine ⟨fun z => ?_, fun z77 => ?_⟩
  · obtain rfl : w = 77 := by omega
    exact ⟨trivial, hQ0 (Or.inl rfl)⟩
  refine ⟨fun z => ?_, fun z78 => ?_⟩
  · obtain rfl : w = 78 := by omega
    exact ⟨trivial, hQ0 (Or.inl rfl)⟩
  refine ⟨fun z => ?_, fun z79 => ?_⟩
  · obtain rfl : w = 79 := by omega
    exact ⟨trivial, hQ0 (Or.inl rfl)⟩
  refine ⟨fun z => ?_, fun z80 => ?_⟩
  · obtain rfl : w = 80 := by omega
    exact ⟨trivial, hQ0 (Or.inl rfl)⟩
  refine ⟨fun z => ?_, fun z81 => ?_⟩
  · obtain rfl : w = 81 := by omega
    exact ⟨trivial, hQ0 (Or.inl rfl)⟩
  refine ⟨fun z => ?_, fun z82 => ?_⟩
  · obtain rfl : w = 82 := by omega
    exact ⟨trivial, hQ0 (Or.inl rfl)⟩
  refine ⟨fun z => ?_, fun z83 => ?_⟩
  · obtain rfl : w = 83 := by omega
    exact ⟨trivial, hQ1 1 rfl (by unfold agW; omega) (nj _ rfl (by decide) (by decide) (by decide) (by decide) (by decide))⟩
  refine ⟨fun z => ?_, fun z84 => ?_⟩
  · obtain rfl : w = 84 := by omega
    exact ⟨trivial, hQ0 (Or.inl rfl)⟩
  refine ⟨fun z => ?_, fun z85 => ?_⟩
  · obtain rfl : w = 85 := by omega
    exact ⟨trivial, hQ0 (Or.inl rfl)⟩
  refine ⟨fun z => ?_, fun z86 => ?_⟩
  · obtain rfl : w = 86 := by omega
    exact ⟨trivial, hQ0 (Or.inl rfl)⟩
  refine ⟨fun z => ?_, fun z87 => ?_⟩
  · obtain rfl : w = 87 := by omega
    exact ⟨trivial, hQ1 0 rfl (by unfold agW; omega) (nj _ rfl (by decide) (by decide) (by decide) (by decide) (by decide))⟩
  refine ⟨fun z => ?_, fun z88 => ?_⟩
  · obtain rfl : w = 88 := by omega
    exact ⟨trivial, hQ0 (Or.inl rfl)⟩
  refine ⟨fun z => ?_, fun z89 => ?_⟩
  · obtain rfl : w = 89 := by omega
    exact ⟨trivial, hQ0 (Or.inl rfl)⟩
  refine ⟨fun z => ?_, fun z90 => ?_⟩
  · obtain rfl : w = 90 := by omega
    exact ⟨rfl, rfl, rfl, vp_in_nI s10 (by decide), fun y => ⟨trivial, hQ0 (Or.inr (Or.inl (fun e => by have := (nI_leI (b := a) (by omega) (by omega)).mp y; unfold agW at e; omega)))⟩, fun y => ⟨trivial, hQ1 1 rfl (by have : ¬ cdW κ ≤ a := fun e => y (nI_le e (by omega)); unfold agW; omega) (nj _ rfl (by decide) (by decide) (by decide) (by decide) (by decide))⟩⟩
  refine ⟨fun z => ?_, fun z91 => ?_⟩
  · obtain rfl : w = 91 := by omega
    exact ⟨trivial, hQ0 (Or.inl rfl)⟩
  refine ⟨fun z => ?_, fun z92 => ?_⟩
  · obtain rfl : w = 92 := by omega
    exact ⟨rfl, fun y => ⟨trivial, hQ0 (Or.inr (Or.inl (fun e => by have := (nI_ltI (a := 10) (by decide) (by omega)).mp y; unfold agW at e; omega)))⟩, fun y => ⟨trivial, hQ1 1 rfl (by have : ¬ 10 < a := fun e => y (nI_lt (a := 10) e (by omega)); unfold agW; omega) (nj _ rfl (by decide) (by decide) (by decide) (by decide) (by decide))⟩⟩
  refine ⟨fun z => ?_, fun z93 => ?_⟩
  · obtain rfl : w = 93 := by omega
    exact ⟨trivial, hQ1 1 rfl (by unfold agW; omega) (nj _ rfl (by decide) (by decide) (by decide) (by decide) (by decide))⟩
  refine ⟨fun z => ?_, fun z94 => ?_⟩
  · obtain rfl : w = 94 := by omega
    exact ⟨trivial, hQ0 (Or.inl rfl)⟩
  refine ⟨fun z => ?_, fun z95 => ?_⟩
  · obtain rfl : w = 95 := by omega
    exact ⟨trivial, hQ0 (Or.inl rfl)⟩
  refine ⟨fun z => ?_, fun z96 => ?_⟩
  · obtain rfl : w = 96 := by omega
    exact ⟨trivial, hQ0 (Or.inl rfl)⟩
  refine ⟨fun z => ?_, fun z97 => ?_⟩
  · obtain rfl : w = 97 := by omega
    exact ⟨trivial, hQ0 (Or.inl rfl)⟩
  refine ⟨fun z => ?_, fun z98 => ?_⟩
  · obtain rfl : w = 98 := by omega
    exact ⟨trivial, hQ0 (Or.inl rfl)⟩
  refine ⟨fun z => ?_, fun z99 => ?_⟩
  · obtain rfl : w = 99 := by omega
    exact ⟨trivial, hQ0 (Or.inl rfl)⟩
  refine ⟨fun z => ?_, fun z100 => ?_⟩
  · obtain rfl : w = 100 := by omega
    exact ⟨rfl, rfl, rfl, vp_in_nI s10 (by decide), fun y => ⟨trivial, hQ0 (Or.inr (Or.inl (fun e => by have := (nI_leI (b := a) (by omega) (by omega)).mp y; unfold agW at e; omega)))⟩, fun y => ⟨trivial, hQ1 0 rfl (by have : ¬ cdK κ ≤ a := fun e => y (nI_le e (by omega)); unfold agW; omega) (nj _ rfl (by decide) (by decide) (by decide) (by decide) (by decide))⟩⟩
  refine ⟨fun z => ?_, fun z101 => ?_⟩
  · obtain rfl : w = 101 := by omega
    exact ⟨rfl, rfl, rfl, vp_in_nI s10 (by decide), fun y => ⟨trivial, hQ0 (Or.inr (Or.inl (fun e => by have := (nI_leI (b := a) (by omega) (by omega)).mp y; unfold agW at e; omega)))⟩, fun y => ⟨trivial, hQ1 0 rfl (by have : ¬ cdW κ ≤ a := fun e => y (nI_le e (by omega)); unfold agW; omega) (nj _ rfl (by decide) (by decide) (by decide) (by decide) (by decide))⟩⟩
  refine ⟨fun z => ?_, fun z102 => ?_⟩
  · obtain rfl : w = 102 := by omega
    exact ⟨rfl, fun y => ⟨trivial, hQ0 (Or.inr (Or.inl (fun e => by have := (nI_ltI (a := 10) (by decide) (by omega)).mp y; unfold agW at e; omega)))⟩, fun y => ⟨rfl, trivial, hQ1 a rfl (by have : ¬ 10 < a := fun e => y (nI_lt (a := 10) e (by omega)); unfold agW; omega) (nj _ rfl (by decide) (by decide) (by decide) (by decide) (by decide))⟩⟩
  refine ⟨fun z => ?_, fun z103 => ?_⟩
  · obtain rfl : w = 103 := by omega
    exact ⟨trivial, hQ0 (Or.inl rfl)⟩
  refine ⟨fun z => ?_, fun z104 => ?_⟩
  · obtain rfl : w = 104 := by omega
    exact ⟨trivial, hQ0 (Or.inl rfl)⟩
  refine ⟨fun z => ?_, fun z105 => ?_⟩
  · obtain rfl : w = 105 := by omega
    exact ⟨trivial, hQ0 (Or.inl rfl)⟩
  refine ⟨fun z => ?_, fun z106 => ?_⟩
  · obtain rfl : w = 106 := by omega
    exact ⟨trivial, hQ0 (Or.inl rfl)⟩
  refine ⟨fun z => ?_, fun z107 => ?_⟩
  · obtain rfl : w = 107 := by omega
    exact ⟨rfl, fun y => ⟨trivial, hQ1 2 rfl (by have := (nI_leI (b := 5) (by omega) (by decide)).mp y; unfold agW; omega) (nj _ rfl (by decide) (by decide) (by decide) (by decide) (by decide))⟩, fun y => ⟨rfl, fun y2 => ⟨trivial, hQ0 (Or.inr (Or.inl (fun e => by have e1 : ¬ a ≤ 5 := fun e => y (nI_le (b := 5) e (by decide)); have e2 : ¬ a = 10 := fun e => y2 (by rw [e]; rfl); unfold agW at e; omega)))⟩, fun y2 => ⟨trivial, hQ1 2 rfl (by have := (nI_eq (b := 10) (by omega) (by decide)).mp y2; unfold agW; omega) (nj _ rfl (by decide) (by decide) (by decide) (by decide) (by decide))⟩⟩⟩
  refine ⟨fun z => ?_, fun z108 => ?_⟩
  · obtain rfl : w = 108 := by omega
    exact ⟨trivial, hQ0 (Or.inl rfl)⟩
  refine ⟨fun z => ?_, fun z109 => ?_⟩
  · obtain rfl : w = 109 := by omega
    exact ⟨trivial, hQ0 (Or.inl rfl)⟩
  refine ⟨fun z => ?_, fun z110 => ?_⟩
  · obtain rfl : w = 110 := by omega
    exact ⟨rfl, rfl, by decide, rfl, by decide, 0, 0, Nat.zero_le _, Nat.zero_le _, s_164 hsp h hs (by omega) (fun e => f_165_683 hE ⟨fun y => absurd y (by decide), fun _ => ⟨trivial, hQ1 0 rfl (by unfold agW; omega) ⟨fun _ => e, fun z => absurd z (by omega)⟩⟩⟩) (fun e => f_165_683 hE ⟨fun _ => ⟨trivial, hQ0 (Or.inr (Or.inr (fun j => e (j.1 (by omega)))))⟩, fun y => absurd rfl y⟩)⟩
  refine ⟨fun z => ?_, fun z111 => ?_⟩
  · obtain rfl : w = 111 := by omega
    exact ⟨trivial, hQ0 (Or.inl rfl)⟩
  refine ⟨fun z => ?_, fun z112 => ?_⟩
  · obtain rfl : w = 112 := by omega
    exact ⟨trivial, hQ0 (Or.inl rfl)⟩
  refine ⟨fun z => ?_, fun z113 => ?_⟩
  · obtain rfl : w = 113 := by omega
    exact ⟨rfl, by decide, rfl, by decide, 0, 0, Nat.zero_le _, Nat.zero_le _, s_164 hsp h hs (by omega) (fun e => f_165_701 hE ⟨fun y => absurd y (by decide), fun _ => ⟨trivial, hQ1 0 rfl (by unfold agW; omega) ⟨fun z => absurd z (by omega), fun _ => e⟩⟩⟩) (fun e => f_165_701 hE ⟨fun _ => ⟨trivial, hQ0 (Or.inr (Or.inr (fun j => e (j.2 (by omega)))))⟩, fun y => absurd rfl y⟩)⟩
  refine ⟨fun z => ?_, fun z114 => ?_⟩
  · obtain rfl : w = 114 := by omega
    exact ⟨rfl, by decide, rfl, by decide, 0, 0, Nat.zero_le _, Nat.zero_le _, s_164 hsp h hs (by omega) (fun e => f_165_719 hE ⟨fun y => absurd y (by decide), fun _ => ⟨trivial, hQ1 1 rfl (by unfold agW; omega) ⟨fun z => absurd z (by omega), fun _ => e⟩⟩⟩) (fun e => f_165_719 hE ⟨fun _ => ⟨trivial, hQ0 (Or.inr (Or.inr (fun j => e (j.2 (by omega)))))⟩, fun y => absurd rfl y⟩)⟩
  refine ⟨fun z => ?_, fun z115 => ?_⟩
  · obtain rfl : w = 115 := by omega
    exact ⟨rfl, by decide, rfl, by decide, 0, 0, Nat.zero_le _, Nat.zero_le _, s_164 hsp h hs (by omega) (fun e => f_165_719 hE ⟨fun y => absurd y (by decide), fun _ => ⟨trivial, hQ1 1 rfl (by unfold agW; omega) ⟨fun z => absurd z (by omega), fun _ => e⟩⟩⟩) (fun e => f_165_719 hE ⟨fun _ => ⟨trivial, hQ0 (Or.inr (Or.inr (fun j => e (j.2 (by omega)))))⟩, fun y => absurd rfl y⟩)⟩
  refine ⟨fun z => ?_, fun z116 => ?_⟩
  · obtain rfl : w = 116 := by omega
    exact ⟨trivial, hQ0 (Or.inl rfl)⟩
  refine ⟨fun z => ?_, fun z117 => ?_⟩
  · obtain rfl : w = 117 := by omega
    exact ⟨trivial, hQ0 (Or.inl rfl)⟩
  refine ⟨fun z => ?_, fun z118 => ?_⟩
  · obtain rfl : w = 118 := by omega
    exact ⟨trivial, hQ0 (Or.inl rfl)⟩
  refine ⟨fun z => ?_, fun z119 => ?_⟩
  · obtain rfl : w = 119 := by omega
    exact ⟨trivial, hQ0 (Or.inl rfl)⟩
  refine ⟨fun z => ?_, fun z120 => ?_⟩
  · obtain rfl : w = 120 := by omega
    exact ⟨trivial, hQ0 (Or.inl rfl)⟩
  refine ⟨fun z => ?_, fun z121 => ?_⟩
  · obtain rfl : w = 121 := by omega
    exact ⟨trivial, hQ0 (Or.inl rfl)⟩
  refine ⟨fun z => ?_, fun z122 => ?_⟩
  · obtain rfl : w = 122 := by omega
    exact ⟨rfl, rfl, by decide, rfl, by decide, 0, 0, Nat.zero_le _, Nat.zero_le _, s_164 hsp h hs (by omega) (fun e => f_165_683 hE ⟨fun y => absurd y (by decide), fun _ => ⟨trivial, hQ1 0 rfl (by unfold agW; omega) ⟨fun _ => e, fun z => absurd z (by omega)⟩⟩⟩) (fun e => f_165_683 hE ⟨fun _ => ⟨trivial, hQ0 (Or.inr (Or.inr (fun j => e (j.1 (by omega)))))⟩, fun y => absurd rfl y⟩)⟩
  refine ⟨fun z => ?_, fun z123 => ?_⟩
  · obtain rfl : w = 123 := by omega
    exact ⟨trivial, hQ0 (Or.inl rfl)⟩
  refine ⟨fun z => ?_, fun z124 => ?_⟩
  · obtain rfl : w = 124 := by omega
    exact ⟨rfl, rfl, rfl, vp_in_nI s10 (by decide), fun y => ⟨trivial, hQ0 (Or.inr (Or.inl (fun e => by have := (nI_leI (b := a) (by omega) (by omega)).mp y; unfold agW at e; omega)))⟩, fun y => ⟨trivial, hQ1 0 rfl (by have : ¬ cdL κ ≤ a := fun e => y (nI_le e (by omega)); unfold agW; omega) (nj _ rfl (by decide) (by decide) (by decide) (by decide) (by decide))⟩⟩
  refine ⟨fun z => ?_, fun z125 => ?_⟩
  · obtain rfl : w = 125 := by omega
    exact ⟨rfl, rfl, rfl, vp_in_nI s10 (by decide), fun y => ⟨trivial, hQ0 (Or.inr (Or.inl (fun e => by have := (nI_leI (b := a) (by omega) (by omega)).mp y; unfold agW at e; omega)))⟩, fun y => ⟨trivial, hQ1 1 rfl (by have : ¬ cdL κ ≤ a := fun e => y (nI_le e (by omega)); unfold agW; omega) (nj _ rfl (by decide) (by decide) (by decide) (by decide) (by decide))⟩⟩
  refine ⟨fun z => ?_, fun z126 => ?_⟩
  · obtain rfl : w = 126 := by omega
    exact ⟨trivial, hQ0 (Or.inl rfl)⟩
  refine ⟨fun z => ?_, fun z127 => ?_⟩
  · obtain rfl : w = 127 := by omega
    exact ⟨trivial, hQ0 (Or.inl rfl)⟩
  refine ⟨fun z => ?_, fun z128 => ?_⟩
  · obtain rfl : w = 128 := by omega
    exact ⟨trivial, hQ0 (Or.inl rfl)⟩
  refine ⟨fun z => ?_, fun z129 => ?_⟩
  · obtain rfl : w = 129 := by omega
    exact ⟨trivial, hQ0 (Or.inl rfl)⟩
  refine ⟨fun z => ?_, fun z130 => ?_⟩
  · obtain rfl : w = 130 := by omega
    exact ⟨rfl, fun y => ⟨trivial, hQ0 (Or.inr (Or.inl (fun e => by have e2 : ¬ a = 1 := fun e => y (by rw [e]; rfl); unfold agW at e; omega)))⟩, fun y => ⟨trivial, hQ1 1 rfl (by have := (nI_eq (b := 1) (by omega) (by decide)).mp y; unfold agW; omega) (nj _ rfl (by decide) (by decide) (by decide) (by decide) (by decide))⟩⟩
  refine ⟨fun z => ?_, fun z131 => ?_⟩
  · obtain rfl : w = 131 := by omega
    exact ⟨rfl, fun y => ⟨trivial, hQ0 (Or.inr (Or.inl (fun e => by have := (nI_ltI (a := 4) (by decide) (by omega)).mp y; unfold agW at e; omega)))⟩, fun y => ⟨rfl, trivial, by rw [nI_1]; exact hQ1 (a + 1) rfl (by have : ¬ 4 < a := fun e => y (nI_lt (a := 4) e (by omega)); unfold agW; omega) (nj _ rfl (by decide) (by decide) (by decide) (by decide) (by decide))⟩⟩
  refine ⟨fun z => ?_, fun z132 => ?_⟩
  · obtain rfl : w = 132 := by omega
    exact ⟨rfl, fun y => ⟨trivial, hQ0 (Or.inr (Or.inl (fun e => by have e2 : ¬ a = 0 := fun e => y (by rw [e]; rfl); unfold agW at e; omega)))⟩, fun y => ⟨trivial, hQ1 1 rfl (by have := (nI_eq (b := 0) (by omega) (by decide)).mp y; unfold agW; omega) (nj _ rfl (by decide) (by decide) (by decide) (by decide) (by decide))⟩⟩
  refine ⟨trivial, hQ0 (Or.inl ?_)⟩
  unfold tkW
  rw [if_neg (by omega), if_neg (by omega), if_neg (by omega), if_neg (by omega), if_neg (by omega), if_neg (by omega)]
/-- gives -/
theorem s_166 (hsp : ox_mono sp) (h : oML S m ce) {w a t : Nat} (h8 : S.I 138 m = nI w) (h9 : S.I 139 m = nI a) (hw : w < 2 ^ 31) (ht : tkW w a = some t) (hQ : Q (some (.inl (nI (gvW w a)))) S) : ox_M sp (d + 1) 166 [.inr (.inr m)] mr sr S Q := by
  have hk : ∀ (k : Nat) (r : Int32), w = k → nI (gvW k a) = r → Q (some (.inl r)) S := fun k r e1 e2 => by subst e1; rw [e2] at hQ; exact hQ
  refine f_166 hsp ?_
  unfold q_166
  rw [h.1, h8, h9, nI_toInt hw]
  refine ⟨rfl, ?_⟩
  refine ⟨fun z => ⟨trivial, hk 2 (2 : Int32) (by omega) rfl⟩, fun z2 => ?_⟩
  refine ⟨fun z => ⟨trivial, hk 3 (3 : Int32) (by omega) rfl⟩, fun z3 => ?_⟩
  refine ⟨fun z => ⟨trivial, hk 4 (2 : Int32) (by omega) rfl⟩, fun z4 => ?_⟩
  refine ⟨fun z => ⟨trivial, hk 11 (1 : Int32) (by omega) rfl⟩, fun z11 => ?_⟩
  refine ⟨fun z => ⟨trivial, hk 12 (1 : Int32) (by omega) rfl⟩, fun z12 => ?_⟩
  refine ⟨fun z => ⟨trivial, hk 20 (1 : Int32) (by omega) rfl⟩, fun z20 => ?_⟩
  refine ⟨fun z => ⟨trivial, hk 22 (1 : Int32) (by omega) rfl⟩, fun z22 => ?_⟩
  refine ⟨fun z => ⟨trivial, hk 23 (1 : Int32) (by omega) rfl⟩, fun z23 => ?_⟩
  refine ⟨fun z => ⟨trivial, hk 24 (1 : Int32) (by omega) rfl⟩, fun z24 => ?_⟩
  refine ⟨fun z => ⟨trivial, hk 25 (1 : Int32) (by omega) rfl⟩, fun z25 => ?_⟩
  refine ⟨fun z => ⟨trivial, hk 26 (1 : Int32) (by omega) rfl⟩, fun z26 => ?_⟩
  refine ⟨fun z => ⟨trivial, hk 68 (1 : Int32) (by omega) rfl⟩, fun z68 => ?_⟩
  refine ⟨fun z => ⟨rfl, trivial, hk 92 (nI a) (by omega) rfl⟩, fun z92 => ?_⟩
  refine ⟨fun z => ⟨trivial, hk 93 (2 : Int32) (by omega) rfl⟩, fun z93 => ?_⟩
  refine ⟨fun z => ⟨trivial, hk 100 (1 : Int32) (by omega) rfl⟩, fun z100 => ?_⟩
  refine ⟨fun z => ⟨trivial, hk 101 (1 : Int32) (by omega) rfl⟩, fun z101 => ?_⟩
  refine ⟨fun z => ⟨trivial, hk 102 (1 : Int32) (by omega) rfl⟩, fun z102 => ?_⟩
  refine ⟨fun z => ⟨trivial, hk 107 (1 : Int32) (by omega) rfl⟩, fun z107 => ?_⟩
  refine ⟨fun z => ⟨trivial, hk 124 (1 : Int32) (by omega) rfl⟩, fun z124 => ?_⟩
  refine ⟨fun z => ⟨trivial, hk 131 (1 : Int32) (by omega) rfl⟩, fun z131 => ?_⟩
  refine ⟨fun z => ⟨trivial, hk 132 (1 : Int32) (by omega) rfl⟩, fun z132 => ?_⟩
  refine ⟨trivial, ?_⟩
  have hn : gvW w a = 0 := by
    unfold gvW
    by_cases e : w = 1 ∨ w = 83 ∨ w = 90 ∨ w = 125 ∨ w = 130 ∨ w = 110 ∨ w = 113 ∨ w = 114 ∨ w = 115 ∨ w = 122 ∨ w = 87
    · rw [if_pos e]
    · unfold tkW at ht
      rw [if_neg (by omega), if_neg (by omega), if_neg (by omega), if_neg (by omega), if_neg (by omega), if_neg (by omega)] at ht
      cases ht
  rw [hn] at hQ
  exact hQ
end OMT
