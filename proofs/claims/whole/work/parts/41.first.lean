/-! calls on a fresh object, of the class and of the reference -/
def oC1 (S : ox_St) (x M : Nat) : Prop := S.K x = 13 ∧ S.R 66 x = M ∧ S.K M = 7 ∧ S.I 35 M = 0 ∧ S.I 37 M = 0 ∧ S.I 38 M = -1 ∧ S.I 39 M = 0 ∧ S.I 43 M = 0 ∧ S.R 40 M = 0 ∧ S.I 63 x = -1
def oM1 (S : ox_St) (m : Nat) : Prop := S.K m = 14 ∧ S.I 92 m = 0 ∧ S.I 93 m = 0 ∧ S.I 95 m = 0 ∧ S.I 106 m = 0 ∧ S.I 70 m = -1
/-- about's answer at the start -/
def oAb (w : Int32) : Int32 := if 0 ≤ w.toInt ∧ w.toInt ≤ 7 ∧ ¬ w.toInt = 5 then 0 else -1
theorem oAb0 {w : Int32} (h : 0 ≤ w.toInt ∧ w.toInt ≤ 7 ∧ ¬ w.toInt = 5) : oAb w = 0 := if_pos h
theorem oAb1 {w : Int32} (h : ¬ (0 ≤ w.toInt ∧ w.toInt ≤ 7 ∧ ¬ w.toInt = 5)) : oAb w = -1 := if_neg h
/-- the bytes of a name that are not 0, the highest first -/
def oWz (B : Nat → Int64) : Nat → Int64 → Int64
  | 0, a => a
  | k + 1, a => if lg_cmp (B k) 0 = 0 then oWz B k a else oWz B k ((a <<< (Int32.toInt64 8 &&& 63)) ||| B k)
def oWc (x : Int64) (k : Nat) : Int64 := ((Int64.toUInt64 x >>> ((Int32.toInt64 (8 * nI k)).toUInt64 &&& Int64.toUInt64 63)).toInt64) &&& 255
def oWm (x : Int64) (k : Nat) : Int64 := (x >>> (Int32.toInt64 (nI (8 * k)) &&& 63)) &&& 255
section OP1
variable {sp : ox_E} {d mr sr : Nat} {S : ox_St} {Q : ox_Q} {x M m : Nat}
theorem s1_44 (hsp : ox_mono sp) (h1 : S.K M = 7) (h2 : S.I 35 M = 0) (hQ : Q (some (.inr (.inr 0))) S) : ox_M sp (d + 1) 44 [.inr (.inr M)] mr sr S Q := by
  refine f_44 hsp ?_
  refine ⟨by rw [h1]; rfl, fun _ => ⟨rfl, hQ⟩, fun q => ?_⟩
  rw [h2] at q
  exact absurd (by decide) q
theorem s1_105 (hsp : ox_mono sp) (C : oC1 S x M) {w : Int32} (hw : w.toInt ≠ 0 ∧ w.toInt ≠ 1 ∧ w.toInt ≠ 5 ∧ w.toInt ≠ 6 ∧ w.toInt ≠ 7) (hQ : Q (some (.inl (oAb w))) S) : ox_M sp (d + 2) 105 [.inr (.inr x), .inl w] mr sr S Q := by
  obtain ⟨c1, c2, c3, c4, -⟩ := C
  refine f_105 hsp ?_
  refine ⟨fun q => ⟨trivial, ?_⟩, fun q1 => ⟨fun q2 => ⟨by rw [c1]; rfl, by decide, by rw [c2]; exact c3, by decide, 0, 0, Nat.zero_le _, Nat.zero_le _, ?_⟩, fun q2 => ⟨trivial, ?_⟩⟩⟩
  · have := Int32.lt_iff_toInt_lt.mp q
    rw [show (2 : Int32).toInt = 2 from rfl] at this
    rw [oAb1 (by omega)] at hQ
    exact hQ
  · rw [c2]
    refine s1_44 hsp c3 c4 ?_
    refine f_105_19 (ox_M_mono hsp _) ?_
    refine ⟨fun z => absurd rfl z, fun _ => ⟨trivial, ?_⟩⟩
    have g2 := Int32.le_iff_toInt_le.mp q2
    have g1 : ¬ w.toInt < (2 : Int32).toInt := fun z => q1 (Int32.lt_iff_toInt_lt.mpr z)
    rw [show (4 : Int32).toInt = 4 from rfl] at g2
    rw [show (2 : Int32).toInt = 2 from rfl] at g1
    rw [oAb0 (by omega)] at hQ
    exact hQ
  · have g2 : ¬ w.toInt ≤ (4 : Int32).toInt := fun z => q2 (Int32.le_iff_toInt_le.mpr z)
    rw [show (4 : Int32).toInt = 4 from rfl] at g2
    rw [oAb1 (by omega)] at hQ
    exact hQ
theorem s1_100 (hsp : ox_mono sp) (C : oC1 S x M) {w : Int32} (hQ : Q (some (.inl (oAb w))) S) : ox_M sp (d + 3) 100 [.inr (.inr x), .inl w] mr sr S Q := by
  have C' := C
  obtain ⟨c1, c2, c3, c4, c5, c6, c7, c8, -⟩ := C
  have call : w.toInt ≠ 0 → w.toInt ≠ 1 → w.toInt ≠ 5 → w.toInt ≠ 6 → w.toInt ≠ 7 → 2 ≤ 2 ∧ S.K x = 13 ∧ 0 ≤ 8 ∧ ∃ mc mk, mc ≤ mr ∧ mk ≤ sr ∧ ox_M sp (d + 2) 105 [.inr (.inr x), .inl w] mc mk S (k_100_93 (ox_M sp (d + 2)) x w (mr - mc) (sr - mk) Q) := fun h0 h1 h5 h6 h7 =>
    ⟨by decide, c1, by decide, 0, 0, Nat.zero_le _, Nat.zero_le _, s1_105 hsp C' ⟨h0, h1, h5, h6, h7⟩ (f_100_93 (ox_M_mono hsp _) ⟨trivial, hQ⟩)⟩
  refine f_100 hsp ?_
  refine ⟨fun e => ⟨by rw [c1]; rfl, by rw [c2, c3]; rfl, trivial, ?_⟩, fun n0 => ⟨fun e => ⟨by rw [c1]; rfl, by rw [c2, c3]; rfl, trivial, ?_⟩, fun n1 => ⟨fun e => call n0 n1 (by omega) (by omega) (by omega), fun n2 => ⟨fun e => call n0 n1 (by omega) (by omega) (by omega), fun n3 => ⟨fun e => call n0 n1 (by omega) (by omega) (by omega), fun n4 => ⟨fun e => ⟨by rw [c1]; rfl, by rw [c2, c3]; rfl, trivial, ?_⟩, fun n5 => ⟨fun e => ⟨by rw [c1]; rfl, by rw [c2, c3]; rfl, trivial, ?_⟩, fun n6 => ⟨fun e => ⟨by rw [c1]; rfl, by rw [c2, c3]; rfl, trivial, ?_⟩, fun n7 => call n0 n1 n5 n6 n7⟩⟩⟩⟩⟩⟩⟩⟩
  · rw [c2, c5]; rw [oAb0 (by omega)] at hQ; exact hQ
  · rw [c2, c4]; rw [oAb0 (by omega)] at hQ; exact hQ
  · rw [c2, c6]; rw [oAb1 (by omega)] at hQ; exact hQ
  · rw [c2, c7]; rw [oAb0 (by omega)] at hQ; exact hQ
  · rw [c2, c8]; rw [oAb0 (by omega)] at hQ; exact hQ
/-- a row of nothing -/
theorem s1_107 (hsp : ox_mono sp) (h1 : S.K x = 13) {k : Int32} (hQ : ∀ S', S' = S ∨ S' = S.sI 68 x 0 → Q (some (.inl (-1))) S') : ox_M sp (d + 2) 107 [.inr (.inr x), .inr (.inr 0), .inl k] mr sr S Q := by
  refine f_107 hsp ?_
  refine ⟨fun _ => ⟨trivial, hQ _ (Or.inl rfl)⟩, fun q1 => ⟨fun q2 => ⟨by rw [h1]; rfl, by decide, h1, by decide, 0, 0, Nat.zero_le _, Nat.zero_le _, ?_⟩, fun _ => ⟨trivial, hQ _ (Or.inl rfl)⟩⟩⟩
  refine f_108 hsp ⟨fun _ => ⟨rfl, ?_⟩, fun z => absurd rfl z⟩
  refine f_107_24 (ox_M_mono hsp _) ?_
  refine ⟨by show ox_has (S.K x) 68 = true; rw [h1]; rfl, fun _ => ⟨trivial, hQ _ (Or.inr rfl)⟩, fun q => ?_⟩
  exfalso
  rw [or_sI_I, if_pos ⟨rfl, rfl⟩] at q
  exact q (Int32.not_lt.mp q1)
theorem s1_101 (hsp : ox_mono sp) (C : oC1 S x M) {k : Int32} (hQ : ∀ S', S' = S ∨ S' = S.sI 68 x 0 → Q (some (.inl (-1))) S') : ox_M sp (d + 3) 101 [.inr (.inr x), .inl k] mr sr S Q := by
  obtain ⟨c1, c2, c3, c4, c5, c6, c7, c8, c9, -⟩ := C
  refine f_101 hsp ?_
  refine ⟨by rw [c1]; rfl, by rw [c2, c3]; rfl, by decide, c1, by decide, 0, 0, Nat.zero_le _, Nat.zero_le _, ?_⟩
  rw [c2, c9]
  exact s1_107 hsp c1 (fun S' h => f_101_12 (ox_M_mono hsp _) ⟨trivial, hQ S' h⟩)
theorem s1_102 (hsp : ox_mono sp) (C : oC1 S x M) {i k : Int32} (hQ : Q (some (.inl (-1))) S) : ox_M sp (d + 2) 102 [.inr (.inr x), .inl i, .inl k] mr sr S Q := by
  obtain ⟨c1, c2, c3, c4, -⟩ := C
  refine f_102 hsp ?_
  refine ⟨by rw [c1]; rfl, by decide, by rw [c2]; exact c3, by decide, 0, 0, Nat.zero_le _, Nat.zero_le _, ?_⟩
  rw [c2]
  refine s1_44 hsp c3 c4 (f_102_7 (ox_M_mono hsp _) ⟨fun _ => ⟨trivial, hQ⟩, fun z => absurd rfl z⟩)
theorem s1_103 (hsp : ox_mono sp) (C : oC1 S x M) {i k : Int32} (hQ : Q (some (.inl (-1))) S) : ox_M sp (d + 2) 103 [.inr (.inr x), .inl i, .inl k] mr sr S Q := by
  obtain ⟨c1, c2, c3, c4, -⟩ := C
  refine f_103 hsp ?_
  refine ⟨by rw [c1]; rfl, by decide, by rw [c2]; exact c3, by decide, 0, 0, Nat.zero_le _, Nat.zero_le _, ?_⟩
  rw [c2]
  refine s1_44 hsp c3 c4 (f_103_7 (ox_M_mono hsp _) ⟨fun z => absurd rfl z, fun _ => f_103_26 (ox_M_mono hsp _) ⟨trivial, hQ⟩⟩)
theorem s_106_6 {E : ox_E} (hE : ox_mono E) {w : Int64} : ∀ (k : Nat) (a : Int64), k ≤ 8 → Q (some (.inr (.inl (oWz (oWc w) k a)))) S → c_106_6 E w a (nI k - 1) S mr sr Q
  | 0, a, _, hQ => f_106_6 hE ⟨fun _ => ⟨rfl, hQ⟩, fun z => absurd (by decide) z⟩
  | k + 1, a, hk, hQ => by
    rw [nI_pred]
    refine f_106_6 hE ?_
    refine ⟨fun q => absurd q (nI_pos (by omega)), fun _ => ?_⟩
    rw [show nI k + (-1) = nI k - 1 from by rw [Int32.sub_eq_add_neg]]
    refine ⟨fun q => s_106_6 hE k a (by omega) ?_, fun q => s_106_6 hE k _ (by omega) ?_⟩
    · have q' : lg_cmp (oWc w k) 0 = 0 := q
      unfold oWz at hQ
      rw [if_pos q'] at hQ
      exact hQ
    · have q' : ¬ lg_cmp (oWc w k) 0 = 0 := q
      unfold oWz at hQ
      rw [if_neg q'] at hQ
      exact hQ
theorem s_106 (hsp : ox_mono sp) {w : Int64} (hQ : Q (some (.inr (.inl (oWz (oWc w) 8 0)))) S) : ox_M sp (d + 1) 106 [.inr (.inl w)] mr sr S Q :=
  f_106 hsp (s_106_6 (ox_M_mono hsp _) 8 0 (by decide) hQ)
theorem s1_104 (hsp : ox_mono sp) (C : oC1 S x M) {w : Int64} {k : Int32} (hQ : ∀ S', S' = S ∨ S' = S.sI 68 x 0 → Q (some (.inl (-1))) S') : ox_M sp (d + 4) 104 [.inr (.inr x), .inr (.inl w), .inl k] mr sr S Q := by
  obtain ⟨c1, c2, c3, c4, c5, c6, c7, c8, c9, -⟩ := C
  refine f_104 hsp ?_
  refine ⟨by rw [c1]; rfl, by decide, by decide, 0, 0, Nat.zero_le _, Nat.zero_le _, ?_⟩
  refine s_106 hsp (f_104_9 (ox_M_mono hsp _) ?_)
  rw [c2]
  refine ⟨by decide, c3, by decide, 0, 0, Nat.zero_le _, Nat.zero_le _, ?_⟩
  refine f_45 hsp ⟨by decide, c3, by decide, 0, 0, Nat.zero_le _, Nat.zero_le _, ?_⟩
  refine f_70 hsp (f_70_2 (ox_M_mono hsp _) ⟨by rw [c3]; rfl, fun _ => ⟨trivial, ?_⟩, fun z => absurd (by rw [c8]; decide) z⟩)
  refine f_45_5 (ox_M_mono hsp _) ⟨by rw [c3]; rfl, fun _ => ⟨rfl, ?_⟩, fun z => absurd (by rw [c8]; decide) z⟩
  refine f_104_12 (ox_M_mono hsp _) ⟨by decide, c1, by decide, 0, 0, Nat.zero_le _, Nat.zero_le _, ?_⟩
  exact s1_107 hsp c1 (fun S' h => f_104_16 (ox_M_mono hsp _) ⟨trivial, hQ S' h⟩)
theorem s_97 (hsp : ox_mono sp) (h1 : S.K x = 13) (hQ : Q (some (.inl (S.I 63 x))) S) : ox_M sp (d + 1) 97 [.inr (.inr x)] mr sr S Q := f_97 hsp ⟨by rw [h1]; rfl, trivial, hQ⟩
/-! the reference -/
theorem oM1.s69 (h : oM1 S m) : oM1 (S.sI 69 m 0) m := by
  obtain ⟨m1, m2, m3, m4, m5, m6⟩ := h
  exact ⟨m1, by rw [or_sI_I, if_neg (fun z => by cases z.1)]; exact m2, by rw [or_sI_I, if_neg (fun z => by cases z.1)]; exact m3, by rw [or_sI_I, if_neg (fun z => by cases z.1)]; exact m4, by rw [or_sI_I, if_neg (fun z => by cases z.1)]; exact m5, by rw [or_sI_I, if_neg (fun z => by cases z.1)]; exact m6⟩
theorem s_127 (hsp : ox_mono sp) (h1 : S.K m = 14) (hQ : Q (some (.inl (S.I 69 m))) S) : ox_M sp (d + 1) 127 [.inr (.inr m)] mr sr S Q := f_127 hsp ⟨by rw [h1]; rfl, trivial, hQ⟩
theorem s1_162 (hsp : ox_mono sp) (h : oM1 S m) (hQ : Q (some (.inl (-1))) (S.sI 69 m 0)) : ox_M sp (d + 1) 162 [.inr (.inr m)] mr sr S Q := by
  have h' := h.s69
  refine f_162 hsp ⟨by rw [h.1]; rfl, by show ox_has (S.K m) 70 = true; rw [h.1]; rfl, trivial, ?_⟩
  rw [h'.2.2.2.2.2]
  exact hQ
theorem s1_205 (hsp : ox_mono sp) (h : oM1 S m) {w : Int32} (hQ : Q (some (.inl (oAb w))) (S.sI 69 m 0)) : ox_M sp (d + 1) 205 [.inr (.inr m), .inl w] mr sr S Q := by
  obtain ⟨m1, m2, m3, m4, m5, m6⟩ := h.s69
  have hK : S.K m = 14 := h.1
  have hh : ∀ F, ox_has 14 F = true → ox_has ((S.sI 69 m 0).K m) F = true := fun F hF => by show ox_has (S.K m) F = true; rw [hK]; exact hF
  refine f_205 hsp ?_
  refine ⟨by rw [hK]; rfl, hh _ rfl, hh _ rfl, fun _ => ?_, fun q => absurd (m3.symm.trans q) (by decide)⟩
  refine ⟨fun e => ⟨hh _ rfl, trivial, ?_⟩, fun n0 => ⟨fun e => ⟨fun _ => ⟨trivial, ?_⟩, fun z => absurd rfl z⟩, fun n1 => ⟨fun e => ⟨fun _ => ⟨trivial, ?_⟩, fun z => absurd rfl z⟩, fun n2 => ⟨fun e => ⟨fun _ => ⟨trivial, ?_⟩, fun z => absurd rfl z⟩, fun n3 => ⟨fun e => ⟨fun _ => ⟨trivial, ?_⟩, fun z => absurd rfl z⟩, fun n4 => ⟨fun e => ⟨hh _ rfl, fun _ => ⟨trivial, ?_⟩, fun q => absurd (m3.symm.trans q) (by decide)⟩, fun n5 => ⟨fun e => ⟨hh _ rfl, trivial, ?_⟩, fun n6 => ⟨fun e => ⟨hh _ rfl, trivial, ?_⟩, fun n7 => ⟨trivial, ?_⟩⟩⟩⟩⟩⟩⟩⟩⟩
  · rw [m3]; rw [oAb0 (by omega)] at hQ; exact hQ
  · rw [oAb0 (by omega)] at hQ; exact hQ
  · rw [oAb0 (by omega)] at hQ; exact hQ
  · rw [oAb0 (by omega)] at hQ; exact hQ
  · rw [oAb0 (by omega)] at hQ; exact hQ
  · rw [oAb1 (by omega)] at hQ; exact hQ
  · rw [m4]; rw [oAb0 (by omega)] at hQ; exact hQ
  · rw [m5]; rw [oAb0 (by omega)] at hQ; exact hQ
  · rw [oAb1 (by omega)] at hQ; exact hQ
theorem s1_208 (hsp : ox_mono sp) (h : oM1 S m) {k : Int32} (hQ : Q (some (.inl (-1))) (S.sI 69 m 0)) : ox_M sp (d + 1) 208 [.inr (.inr m), .inl k] mr sr S Q := by
  obtain ⟨m1, m2, m3, m4, m5, m6⟩ := h.s69
  refine f_208 hsp ⟨by rw [h.1]; rfl, by show ox_has (S.K m) 93 = true; rw [h.1]; rfl, fun _ => ⟨trivial, hQ⟩, fun q => absurd (m3.symm.trans q) (by decide)⟩
theorem s1_209 (hsp : ox_mono sp) (h : oM1 S m) {i k : Int32} (hQ : Q (some (.inl (-1))) (S.sI 69 m 0)) : ox_M sp (d + 1) 209 [.inr (.inr m), .inl i, .inl k] mr sr S Q := by
  obtain ⟨m1, m2, m3, m4, m5, m6⟩ := h.s69
  refine f_209 hsp ⟨by rw [h.1]; rfl, by show ox_has (S.K m) 93 = true; rw [h.1]; rfl, fun _ => f_209_46 (ox_M_mono hsp _) ⟨trivial, hQ⟩, fun q => absurd (m3.symm.trans q) (by decide)⟩
theorem s1_210 (hsp : ox_mono sp) (h : oM1 S m) {i k : Int32} (hQ : Q (some (.inl (-1))) (S.sI 69 m 0)) : ox_M sp (d + 1) 210 [.inr (.inr m), .inl i, .inl k] mr sr S Q := by
  obtain ⟨m1, m2, m3, m4, m5, m6⟩ := h.s69
  refine f_210 hsp ⟨by rw [h.1]; rfl, by show ox_has (S.K m) 93 = true; rw [h.1]; rfl, fun _ => ⟨trivial, hQ⟩, fun q => absurd (m3.symm.trans q) (by decide)⟩
theorem s1_211_12 (hsp : ox_mono sp) (h : oM1 S m) {w : Int64} {k : Int32} (hQ : Q (some (.inl (-1))) S) : ∀ (j : Nat) (a : Int64), j ≤ 8 → c_211_12 (ox_M sp (d + 1)) m w k a (nI (8 * j) - 8) S mr sr Q
  | 0, a, _ => by
    refine f_211_12 (ox_M_mono hsp _) ⟨fun _ => ⟨by decide, h.1, by decide, 0, 0, Nat.zero_le _, Nat.zero_le _, ?_⟩, fun z => absurd (by decide) z⟩
    refine f_188 hsp (f_188_2 (ox_M_mono hsp _) ⟨by rw [h.1]; rfl, fun _ => ⟨by rw [h.1]; rfl, fun _ => ⟨trivial, ?_⟩, fun z => absurd (by rw [h.2.2.2.2.1]; decide) z⟩, fun z => absurd (by rw [h.2.2.2.2.1]; decide) z⟩)
    exact f_211_63 (ox_M_mono hsp _) ⟨fun z => absurd z (by decide), fun _ => f_211_86 (ox_M_mono hsp _) ⟨trivial, hQ⟩⟩
  | j + 1, a, hj => by
    have e1 : nI (8 * (j + 1)) - 8 = nI (8 * j) := by
      rw [show (8 : Int32) = nI 8 from rfl, pk_sub (by omega)]
      congr 1
    rw [e1]
    refine f_211_12 (ox_M_mono hsp _) ⟨fun q => absurd q (nI_pos (by omega)), fun _ => ?_⟩
    rw [show nI (8 * j) + (-8) = nI (8 * j) - 8 from by rw [Int32.sub_eq_add_neg]]
    exact ⟨fun _ => s1_211_12 hsp h hQ j _ (by omega), fun _ => s1_211_12 hsp h hQ j _ (by omega)⟩
theorem s1_211 (hsp : ox_mono sp) (h : oM1 S m) {w : Int64} {k : Int32} (hQ : Q (some (.inl (-1))) (S.sI 69 m 0)) : ox_M sp (d + 2) 211 [.inr (.inr m), .inr (.inl w), .inl k] mr sr S Q :=
  f_211 hsp ⟨by rw [h.1]; rfl, s1_211_12 hsp h.s69 hQ 8 0 (by decide)⟩
end OP1
