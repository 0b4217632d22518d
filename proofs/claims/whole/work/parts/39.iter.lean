/-! one turn of the law's loop out of what its calls promise -/
def lw_scr (x0 L : Nat) (xs : Nat → Int32) (S : ox_St) : Prop := S.K x0 = 21 ∧ S.len x0 = L ∧ ∀ j, j < L → S.rI x0 j = xs j
/-- a call of the class, then the same of the reference, with one answer -/
def lw_two (E : ox_E) (scr : ox_St → Prop) (j j' : Nat) (as as' : List ox_V) (x2 : Nat) (S : ox_St) (mr sr : Nat) (R : ox_St → Nat → Nat → Prop) : Prop := ∃ mc ms, mc ≤ mr ∧ ms ≤ sr ∧ E j as mc ms S (fun r S' => ∃ v, r = some (.inl v) ∧ scr S' ∧ S'.K x2 = 14 ∧ ∃ mc' ms', mc' ≤ mr - mc ∧ ms' ≤ sr - ms ∧ E j' as' mc' ms' S' (fun r' S'' => r' = some (.inl v) ∧ R S'' (mr - mc - mc') (sr - ms - ms')))
def lw_read (E : ox_E) (scr : ox_St → Prop) (x1 x2 : Nat) (S : ox_St) (mr sr : Nat) (R : ox_St → Nat → Nat → Prop) : Prop := ∃ mc ms, mc ≤ mr ∧ ms ≤ sr ∧ E 236 [.inr (.inr x1)] mc ms S (fun r S' => ∃ v, r = some (.inl v) ∧ S'.K x2 = 14 ∧ ∃ mc' ms', mc' ≤ mr - mc ∧ ms' ≤ sr - ms ∧ E 161 [.inr (.inr x2)] mc' ms' S' (fun r' S2 => r' = none ∧ S2.K x2 = 14 ∧ ∃ mc2 ms2, mc2 ≤ mr - mc - mc' ∧ ms2 ≤ sr - ms - ms' ∧ E 127 [.inr (.inr x2)] mc2 ms2 S2 (fun r2 S3 => r2 = some (.inl v) ∧ R S3 (mr - mc - mc' - mc2) (sr - ms - ms' - ms2))))
def lw_run (E : ox_E) (scr : ox_St → Prop) (x1 x2 x3 : Nat) (w : Int32) (S : ox_St) (mr sr : Nat) (R : ox_St → Nat → Nat → Prop) : Prop := ∃ mc ms, mc ≤ mr ∧ ms ≤ sr ∧ E 237 [.inr (.inr x1), .inl w, .inr (.inr x3)] mc ms S (fun r S' => ∃ v, r = some (.inl v) ∧ scr S' ∧ S'.K x2 = 14 ∧ ∃ mc' ms', mc' ≤ mr - mc ∧ ms' ≤ sr - ms ∧ E 204 [.inr (.inr x2), .inl w] mc' ms' S' (fun r' S2 => ∃ u, r' = some (.inl u) ∧ S2.K x2 = 14 ∧ ∃ mc2 ms2, mc2 ≤ mr - mc - mc' ∧ ms2 ≤ sr - ms - ms' ∧ E 127 [.inr (.inr x2)] mc2 ms2 S2 (fun r2 S3 => r2 = some (.inl v) ∧ (v = 0 → S3.K x3 = 16 ∧ 0 < S3.len x3 ∧ S3.rJ x3 0 = u.toInt64) ∧ R S3 (mr - mc - mc' - mc2) (sr - ms - ms' - ms2))))
/-- what a turn asks, by its first number -/
def lw_turn (E : ox_E) (scr : ox_St → Prop) (x1 x2 x3 c : Nat) (w1 w2 w3 : Int32) (S : ox_St) (mr sr : Nat) (R : ox_St → Nat → Nat → Prop) : Prop := (c = 0 → lw_two E scr 95 128 [.inr (.inr x1), .inl w1, .inl w2] [.inr (.inr x2), .inl w1, .inl w2] x2 S mr sr R) ∧ (c = 1 → lw_read E scr x1 x2 S mr sr R) ∧ (c = 2 → lw_two E scr 97 162 [.inr (.inr x1)] [.inr (.inr x2)] x2 S mr sr R) ∧ (c = 3 → lw_run E scr x1 x2 x3 w1 S mr sr R) ∧ (c = 4 → lw_two E scr 99 173 [.inr (.inr x1)] [.inr (.inr x2)] x2 S mr sr R) ∧ (c = 5 → lw_two E scr 100 205 [.inr (.inr x1), .inl w1] [.inr (.inr x2), .inl w1] x2 S mr sr R) ∧ (c = 6 → lw_two E scr 101 208 [.inr (.inr x1), .inl w1] [.inr (.inr x2), .inl w1] x2 S mr sr R) ∧ (c = 7 → lw_two E scr 102 209 [.inr (.inr x1), .inl w1, .inl w2] [.inr (.inr x2), .inl w1, .inl w2] x2 S mr sr R) ∧ (c = 8 → lw_two E scr 103 210 [.inr (.inr x1), .inl w1, .inl w2] [.inr (.inr x2), .inl w1, .inl w2] x2 S mr sr R) ∧ (c = 9 → lw_two E scr 104 211 [.inr (.inr x1), .inr (.inl (((Int32.toInt64 w1) <<< (Int32.toInt64 32 &&& 63)) ||| ((Int32.toInt64 w2) &&& 4294967295))), .inl w3] [.inr (.inr x2), .inr (.inl (((Int32.toInt64 w1) <<< (Int32.toInt64 32 &&& 63)) ||| ((Int32.toInt64 w2) &&& 4294967295))), .inl w3] x2 S mr sr R) ∧ (9 < c → R S mr sr)
section LWI
variable {E : ox_E} {x0 x1 x2 x3 L i mr sr : Nat} {xs : Nat → Int32} {S : ox_St} {Q : ox_Q}
theorem lw_xn {i k : Nat} : nI i + nI k = nI (i + k) := nI_add i k
theorem lw_at {k : Nat} (hs : lw_scr x0 L xs S) (h : i + k < L) (hL : L ≤ 2048) : ox_rdI (S.K x0) = true ∧ vp_in (nI i + nI k) (S.len x0) ∧ S.rI x0 (Int32.toNatClampNeg (nI i + nI k)) = xs (i + k) := by
  obtain ⟨h1, h2, h3⟩ := hs
  rw [h1, h2, lw_xn, nI_clamp (by omega)]
  exact ⟨rfl, vp_in_nI h (by omega), h3 _ h⟩
theorem lw_end {y0 y1 : Int32} (h : y1 = y0) {P A : Prop} (hP : P) : (y1 = y0 → P) ∧ (¬ y1 = y0 → A) := ⟨fun _ => hP, fun q => absurd h q⟩
theorem lw_case0 (hE : ox_mono E) (hs : lw_scr x0 L xs S) (hL : L ≤ 2048) (hi : i + 4 ≤ L) (h : lw_two E (lw_scr x0 L xs) 95 128 [.inr (.inr x1), .inl (xs (i + 1)), .inl (xs (i + 2))] [.inr (.inr x2), .inl (xs (i + 1)), .inl (xs (i + 2))] x2 S mr sr (fun S' mr' sr' => c_238_23 E x0 x1 x2 x3 (nI i + 4) S' mr' sr' Q)) : ∃ mc ms, mc ≤ mr ∧ ms ≤ sr ∧ E 95 [.inr (.inr x1), .inl (xs (i + 1)), .inl (xs (i + 2))] mc ms S (k_238_108 E x0 x1 x2 x3 (nI i) (mr - mc) (sr - ms) Q) := by
  obtain ⟨mc, ms, h1, h2, h3⟩ := h
  refine ⟨mc, ms, h1, h2, hE _ _ _ _ _ _ _ ?_ h3⟩
  rintro r S' ⟨v, rfl, hs', hK', mc', ms', g1, g2, g3⟩
  refine f_238_108 hE ?_
  refine ⟨(lw_at (i := i) (k := 1) hs' (by omega) hL).1, (lw_at (i := i) (k := 1) hs' (by omega) hL).2.1, (lw_at (i := i) (k := 2) hs' (by omega) hL).1, (lw_at (i := i) (k := 2) hs' (by omega) hL).2.1, (by decide), hK', (by decide), mc', ms', g1, g2, ?_⟩
  rw [show (1 : Int32) = nI 1 from rfl, show (2 : Int32) = nI 2 from rfl, (lw_at (i := i) (k := 1) hs' (by omega) hL).2.2, (lw_at (i := i) (k := 2) hs' (by omega) hL).2.2]
  refine hE _ _ _ _ _ _ _ ?_ g3
  rintro r' S'' ⟨rfl, hR⟩
  refine f_238_124 hE ?_
  exact lw_end rfl hR
theorem lw_case2 (hE : ox_mono E) (hs : lw_scr x0 L xs S) (hL : L ≤ 2048) (hi : i + 4 ≤ L) (h : lw_two E (lw_scr x0 L xs) 97 162 [.inr (.inr x1)] [.inr (.inr x2)] x2 S mr sr (fun S' mr' sr' => c_238_23 E x0 x1 x2 x3 (nI i + 4) S' mr' sr' Q)) : ∃ mc ms, mc ≤ mr ∧ ms ≤ sr ∧ E 97 [.inr (.inr x1)] mc ms S (k_238_157 E x0 x1 x2 x3 (nI i) (mr - mc) (sr - ms) Q) := by
  obtain ⟨mc, ms, h1, h2, h3⟩ := h
  refine ⟨mc, ms, h1, h2, hE _ _ _ _ _ _ _ ?_ h3⟩
  rintro r S' ⟨v, rfl, hs', hK', mc', ms', g1, g2, g3⟩
  refine f_238_157 hE ?_
  refine ⟨(by decide), hK', (by decide), mc', ms', g1, g2, ?_⟩
  refine hE _ _ _ _ _ _ _ ?_ g3
  rintro r' S'' ⟨rfl, hR⟩
  refine f_238_161 hE ?_
  exact lw_end rfl hR
theorem lw_case4 (hE : ox_mono E) (hs : lw_scr x0 L xs S) (hL : L ≤ 2048) (hi : i + 4 ≤ L) (h : lw_two E (lw_scr x0 L xs) 99 173 [.inr (.inr x1)] [.inr (.inr x2)] x2 S mr sr (fun S' mr' sr' => c_238_23 E x0 x1 x2 x3 (nI i + 4) S' mr' sr' Q)) : ∃ mc ms, mc ≤ mr ∧ ms ≤ sr ∧ E 99 [.inr (.inr x1)] mc ms S (k_238_226 E x0 x1 x2 x3 (nI i) (mr - mc) (sr - ms) Q) := by
  obtain ⟨mc, ms, h1, h2, h3⟩ := h
  refine ⟨mc, ms, h1, h2, hE _ _ _ _ _ _ _ ?_ h3⟩
  rintro r S' ⟨v, rfl, hs', hK', mc', ms', g1, g2, g3⟩
  refine f_238_226 hE ?_
  refine ⟨(by decide), hK', (by decide), mc', ms', g1, g2, ?_⟩
  refine hE _ _ _ _ _ _ _ ?_ g3
  rintro r' S'' ⟨rfl, hR⟩
  refine f_238_230 hE ?_
  exact lw_end rfl hR
theorem lw_case5 (hE : ox_mono E) (hs : lw_scr x0 L xs S) (hL : L ≤ 2048) (hi : i + 4 ≤ L) (h : lw_two E (lw_scr x0 L xs) 100 205 [.inr (.inr x1), .inl (xs (i + 1))] [.inr (.inr x2), .inl (xs (i + 1))] x2 S mr sr (fun S' mr' sr' => c_238_23 E x0 x1 x2 x3 (nI i + 4) S' mr' sr' Q)) : ∃ mc ms, mc ≤ mr ∧ ms ≤ sr ∧ E 100 [.inr (.inr x1), .inl (xs (i + 1))] mc ms S (k_238_245 E x0 x1 x2 x3 (nI i) (mr - mc) (sr - ms) Q) := by
  obtain ⟨mc, ms, h1, h2, h3⟩ := h
  refine ⟨mc, ms, h1, h2, hE _ _ _ _ _ _ _ ?_ h3⟩
  rintro r S' ⟨v, rfl, hs', hK', mc', ms', g1, g2, g3⟩
  refine f_238_245 hE ?_
  refine ⟨(lw_at (i := i) (k := 1) hs' (by omega) hL).1, (lw_at (i := i) (k := 1) hs' (by omega) hL).2.1, (by decide), hK', (by decide), mc', ms', g1, g2, ?_⟩
  rw [show (1 : Int32) = nI 1 from rfl, (lw_at (i := i) (k := 1) hs' (by omega) hL).2.2]
  refine hE _ _ _ _ _ _ _ ?_ g3
  rintro r' S'' ⟨rfl, hR⟩
  refine f_238_255 hE ?_
  exact lw_end rfl hR
theorem lw_case6 (hE : ox_mono E) (hs : lw_scr x0 L xs S) (hL : L ≤ 2048) (hi : i + 4 ≤ L) (h : lw_two E (lw_scr x0 L xs) 101 208 [.inr (.inr x1), .inl (xs (i + 1))] [.inr (.inr x2), .inl (xs (i + 1))] x2 S mr sr (fun S' mr' sr' => c_238_23 E x0 x1 x2 x3 (nI i + 4) S' mr' sr' Q)) : ∃ mc ms, mc ≤ mr ∧ ms ≤ sr ∧ E 101 [.inr (.inr x1), .inl (xs (i + 1))] mc ms S (k_238_270 E x0 x1 x2 x3 (nI i) (mr - mc) (sr - ms) Q) := by
  obtain ⟨mc, ms, h1, h2, h3⟩ := h
  refine ⟨mc, ms, h1, h2, hE _ _ _ _ _ _ _ ?_ h3⟩
  rintro r S' ⟨v, rfl, hs', hK', mc', ms', g1, g2, g3⟩
  refine f_238_270 hE ?_
  refine ⟨(lw_at (i := i) (k := 1) hs' (by omega) hL).1, (lw_at (i := i) (k := 1) hs' (by omega) hL).2.1, (by decide), hK', (by decide), mc', ms', g1, g2, ?_⟩
  rw [show (1 : Int32) = nI 1 from rfl, (lw_at (i := i) (k := 1) hs' (by omega) hL).2.2]
  refine hE _ _ _ _ _ _ _ ?_ g3
  rintro r' S'' ⟨rfl, hR⟩
  refine f_238_280 hE ?_
  exact lw_end rfl hR
theorem lw_case7 (hE : ox_mono E) (hs : lw_scr x0 L xs S) (hL : L ≤ 2048) (hi : i + 4 ≤ L) (h : lw_two E (lw_scr x0 L xs) 102 209 [.inr (.inr x1), .inl (xs (i + 1)), .inl (xs (i + 2))] [.inr (.inr x2), .inl (xs (i + 1)), .inl (xs (i + 2))] x2 S mr sr (fun S' mr' sr' => c_238_23 E x0 x1 x2 x3 (nI i + 4) S' mr' sr' Q)) : ∃ mc ms, mc ≤ mr ∧ ms ≤ sr ∧ E 102 [.inr (.inr x1), .inl (xs (i + 1)), .inl (xs (i + 2))] mc ms S (k_238_301 E x0 x1 x2 x3 (nI i) (mr - mc) (sr - ms) Q) := by
  obtain ⟨mc, ms, h1, h2, h3⟩ := h
  refine ⟨mc, ms, h1, h2, hE _ _ _ _ _ _ _ ?_ h3⟩
  rintro r S' ⟨v, rfl, hs', hK', mc', ms', g1, g2, g3⟩
  refine f_238_301 hE ?_
  refine ⟨(lw_at (i := i) (k := 1) hs' (by omega) hL).1, (lw_at (i := i) (k := 1) hs' (by omega) hL).2.1, (lw_at (i := i) (k := 2) hs' (by omega) hL).1, (lw_at (i := i) (k := 2) hs' (by omega) hL).2.1, (by decide), hK', (by decide), mc', ms', g1, g2, ?_⟩
  rw [show (1 : Int32) = nI 1 from rfl, show (2 : Int32) = nI 2 from rfl, (lw_at (i := i) (k := 1) hs' (by omega) hL).2.2, (lw_at (i := i) (k := 2) hs' (by omega) hL).2.2]
  refine hE _ _ _ _ _ _ _ ?_ g3
  rintro r' S'' ⟨rfl, hR⟩
  refine f_238_317 hE ?_
  exact lw_end rfl hR
theorem lw_case8 (hE : ox_mono E) (hs : lw_scr x0 L xs S) (hL : L ≤ 2048) (hi : i + 4 ≤ L) (h : lw_two E (lw_scr x0 L xs) 103 210 [.inr (.inr x1), .inl (xs (i + 1)), .inl (xs (i + 2))] [.inr (.inr x2), .inl (xs (i + 1)), .inl (xs (i + 2))] x2 S mr sr (fun S' mr' sr' => c_238_23 E x0 x1 x2 x3 (nI i + 4) S' mr' sr' Q)) : ∃ mc ms, mc ≤ mr ∧ ms ≤ sr ∧ E 103 [.inr (.inr x1), .inl (xs (i + 1)), .inl (xs (i + 2))] mc ms S (k_238_338 E x0 x1 x2 x3 (nI i) (mr - mc) (sr - ms) Q) := by
  obtain ⟨mc, ms, h1, h2, h3⟩ := h
  refine ⟨mc, ms, h1, h2, hE _ _ _ _ _ _ _ ?_ h3⟩
  rintro r S' ⟨v, rfl, hs', hK', mc', ms', g1, g2, g3⟩
  refine f_238_338 hE ?_
  refine ⟨(lw_at (i := i) (k := 1) hs' (by omega) hL).1, (lw_at (i := i) (k := 1) hs' (by omega) hL).2.1, (lw_at (i := i) (k := 2) hs' (by omega) hL).1, (lw_at (i := i) (k := 2) hs' (by omega) hL).2.1, (by decide), hK', (by decide), mc', ms', g1, g2, ?_⟩
  rw [show (1 : Int32) = nI 1 from rfl, show (2 : Int32) = nI 2 from rfl, (lw_at (i := i) (k := 1) hs' (by omega) hL).2.2, (lw_at (i := i) (k := 2) hs' (by omega) hL).2.2]
  refine hE _ _ _ _ _ _ _ ?_ g3
  rintro r' S'' ⟨rfl, hR⟩
  refine f_238_354 hE ?_
  exact lw_end rfl hR
theorem lw_case9 (hE : ox_mono E) (hs : lw_scr x0 L xs S) (hL : L ≤ 2048) (hi : i + 4 ≤ L) (h : lw_two E (lw_scr x0 L xs) 104 211 [.inr (.inr x1), .inr (.inl (((Int32.toInt64 (xs (i + 1))) <<< (Int32.toInt64 32 &&& 63)) ||| ((Int32.toInt64 (xs (i + 2))) &&& 4294967295))), .inl (xs (i + 3))] [.inr (.inr x2), .inr (.inl (((Int32.toInt64 (xs (i + 1))) <<< (Int32.toInt64 32 &&& 63)) ||| ((Int32.toInt64 (xs (i + 2))) &&& 4294967295))), .inl (xs (i + 3))] x2 S mr sr (fun S' mr' sr' => c_238_23 E x0 x1 x2 x3 (nI i + 4) S' mr' sr' Q)) : ∃ mc ms, mc ≤ mr ∧ ms ≤ sr ∧ E 104 [.inr (.inr x1), .inr (.inl (((Int32.toInt64 (xs (i + 1))) <<< (Int32.toInt64 32 &&& 63)) ||| ((Int32.toInt64 (xs (i + 2))) &&& 4294967295))), .inl (xs (i + 3))] mc ms S (k_238_391 E x0 x1 x2 x3 (nI i) (mr - mc) (sr - ms) Q) := by
  obtain ⟨mc, ms, h1, h2, h3⟩ := h
  refine ⟨mc, ms, h1, h2, hE _ _ _ _ _ _ _ ?_ h3⟩
  rintro r S' ⟨v, rfl, hs', hK', mc', ms', g1, g2, g3⟩
  refine f_238_391 hE ?_
  refine ⟨(lw_at (i := i) (k := 1) hs' (by omega) hL).1, (lw_at (i := i) (k := 1) hs' (by omega) hL).2.1, (lw_at (i := i) (k := 2) hs' (by omega) hL).1, (lw_at (i := i) (k := 2) hs' (by omega) hL).2.1, (lw_at (i := i) (k := 3) hs' (by omega) hL).1, (lw_at (i := i) (k := 3) hs' (by omega) hL).2.1, (by decide), hK', (by decide), mc', ms', g1, g2, ?_⟩
  rw [show (1 : Int32) = nI 1 from rfl, show (2 : Int32) = nI 2 from rfl, show (3 : Int32) = nI 3 from rfl, (lw_at (i := i) (k := 1) hs' (by omega) hL).2.2, (lw_at (i := i) (k := 2) hs' (by omega) hL).2.2, (lw_at (i := i) (k := 3) hs' (by omega) hL).2.2]
  refine hE _ _ _ _ _ _ _ ?_ g3
  rintro r' S'' ⟨rfl, hR⟩
  refine f_238_423 hE ?_
  exact lw_end rfl hR
theorem lw_case1 (hE : ox_mono E) (h : lw_read E (lw_scr x0 L xs) x1 x2 S mr sr (fun S' mr' sr' => c_238_23 E x0 x1 x2 x3 (nI i + 4) S' mr' sr' Q)) : ∃ mc ms, mc ≤ mr ∧ ms ≤ sr ∧ E 236 [.inr (.inr x1)] mc ms S (k_238_133 E x0 x1 x2 x3 (nI i) (mr - mc) (sr - ms) Q) := by
  obtain ⟨mc, ms, h1, h2, h3⟩ := h
  refine ⟨mc, ms, h1, h2, hE _ _ _ _ _ _ _ ?_ h3⟩
  rintro r S' ⟨v, rfl, hK', mc', ms', g1, g2, g3⟩
  refine f_238_133 hE ?_
  refine ⟨(by decide), hK', (by decide), mc', ms', g1, g2, hE _ _ _ _ _ _ _ ?_ g3⟩
  rintro r' S2 ⟨rfl, hK2, mc2, ms2, e1, e2, e3⟩
  refine f_238_139 hE ?_
  refine ⟨(by decide), hK2, (by decide), mc2, ms2, e1, e2, hE _ _ _ _ _ _ _ ?_ e3⟩
  rintro r2 S3 ⟨rfl, hR⟩
  refine f_238_143 hE ?_
  exact lw_end rfl hR
theorem lw_case3 (hE : ox_mono E) (hs : lw_scr x0 L xs S) (hL : L ≤ 2048) (hi : i + 4 ≤ L) (h : lw_run E (lw_scr x0 L xs) x1 x2 x3 (xs (i + 1)) S mr sr (fun S' mr' sr' => c_238_23 E x0 x1 x2 x3 (nI i + 4) S' mr' sr' Q)) : ∃ mc ms, mc ≤ mr ∧ ms ≤ sr ∧ E 237 [.inr (.inr x1), .inl (xs (i + 1)), .inr (.inr x3)] mc ms S (k_238_177 E x0 x1 x2 x3 (nI i) (mr - mc) (sr - ms) Q) := by
  obtain ⟨mc, ms, h1, h2, h3⟩ := h
  refine ⟨mc, ms, h1, h2, hE _ _ _ _ _ _ _ ?_ h3⟩
  rintro r S' ⟨v, rfl, hs', hK', mc', ms', g1, g2, g3⟩
  refine f_238_177 hE ?_
  refine ⟨(lw_at (i := i) (k := 1) hs' (by omega) hL).1, (lw_at (i := i) (k := 1) hs' (by omega) hL).2.1, (by decide), hK', (by decide), mc', ms', g1, g2, ?_⟩
  rw [show (1 : Int32) = nI 1 from rfl, (lw_at (i := i) (k := 1) hs' (by omega) hL).2.2]
  refine hE _ _ _ _ _ _ _ ?_ g3
  rintro r' S2 ⟨u, rfl, hK2, mc2, ms2, e1, e2, e3⟩
  refine f_238_189 hE ?_
  refine ⟨(by decide), hK2, (by decide), mc2, ms2, e1, e2, hE _ _ _ _ _ _ _ ?_ e3⟩
  rintro r2 S3 ⟨rfl, hv, hR⟩
  refine f_238_195 hE ?_
  refine lw_end rfl ⟨fun _ => hR, fun hz => ?_⟩
  obtain ⟨v1, v2, v3⟩ := hv hz
  refine ⟨by rw [v1]; rfl, ?_, ?_, ?_⟩
  · show ¬ ((0 : Int32) < 0 ∨ S3.len x3 ≤ Int32.toNatClampNeg 0)
    rintro (h | h)
    · exact absurd h (by decide)
    · exact absurd h (Nat.not_le.mpr v2)
  · exact fun _ => hR
  · intro hne
    exfalso
    refine hne ?_
    rw [show S3.rJ x3 (Int32.toNatClampNeg 0) = S3.rJ x3 0 from rfl, v3]
    simp [lg_cmp]
theorem lw_sw {c d : Nat} (hc : c < 16) (hd : d < 16) {A B : Prop} (f : c = d → A) (g : ¬ c = d → B) : ((nI c).toInt = (d : Int) → A) ∧ (¬ (nI c).toInt = (d : Int) → B) := by
  rw [nI_toInt (by omega)]
  exact ⟨fun h => f (by omega), fun h => g (fun e => h (by omega))⟩
set_option maxHeartbeats 4000000 in
/-- one turn -/
theorem lw_iter (hE : ox_mono E) (hs : lw_scr x0 L xs S) (hL : L ≤ 2048) (hi : i + 4 ≤ L) (hK1 : S.K x1 = 13) {c : Nat} (hc : c < 16) (hw : xs i &&& 15 = nI c) (ht : lw_turn E (lw_scr x0 L xs) x1 x2 x3 c (xs (i + 1)) (xs (i + 2)) (xs (i + 3)) S mr sr (fun S' mr' sr' => c_238_23 E x0 x1 x2 x3 (nI (i + 4)) S' mr' sr' Q)) : c_238_23 E x0 x1 x2 x3 (nI i) S mr sr Q := by
  rw [← lw_xn (i := i) (k := 4)] at ht
  refine f_238_23 hE ?_
  unfold q_238_23
  have h0 := lw_at (i := i) (k := 0) hs (by omega) hL
  rw [show nI i + nI 0 = nI i from by rw [lw_xn]; rfl] at h0
  refine ⟨by rw [hs.1]; rfl, fun hlt => ?_, fun _ => ⟨h0.1, h0.2.1, ?_⟩⟩
  · exfalso
    rw [hs.2.1, show Int32.ofNat L = nI L from rfl, show (4 : Int32) = nI 4 from rfl, pk_sub (by omega)] at hlt
    exact absurd hlt (nI_nlt (by omega) (by omega))
  rw [h0.2.2]
  show _
  simp only [show xs (i + 0) = xs i from rfl, hw]
  refine lw_sw (d := 0) hc (by decide) (fun e => ⟨(lw_at (i := i) (k := 1) hs (by omega) hL).1, (lw_at (i := i) (k := 1) hs (by omega) hL).2.1, (lw_at (i := i) (k := 2) hs (by omega) hL).1, (lw_at (i := i) (k := 2) hs (by omega) hL).2.1, (by decide), hK1, (by decide), (by rw [show (1 : Int32) = nI 1 from rfl, show (2 : Int32) = nI 2 from rfl, (lw_at (i := i) (k := 1) hs (by omega) hL).2.2, (lw_at (i := i) (k := 2) hs (by omega) hL).2.2]; exact lw_case0 hE hs hL hi (ht.1 e))⟩) (fun n0 => ?_)
  refine lw_sw (d := 1) hc (by decide) (fun e => ⟨(by decide), (by decide), lw_case1 hE (ht.2.1 e)⟩) (fun n1 => ?_)
  refine lw_sw (d := 2) hc (by decide) (fun e => ⟨(by decide), hK1, (by decide), (by exact lw_case2 hE hs hL hi (ht.2.2.1 e))⟩) (fun n2 => ?_)
  refine lw_sw (d := 3) hc (by decide) (fun e => ⟨(lw_at (i := i) (k := 1) hs (by omega) hL).1, (lw_at (i := i) (k := 1) hs (by omega) hL).2.1, (by decide), (by decide), (by rw [show (1 : Int32) = nI 1 from rfl, (lw_at (i := i) (k := 1) hs (by omega) hL).2.2]; exact lw_case3 hE hs hL hi (ht.2.2.2.1 e))⟩) (fun n3 => ?_)
  refine lw_sw (d := 4) hc (by decide) (fun e => ⟨(by decide), hK1, (by decide), (by exact lw_case4 hE hs hL hi (ht.2.2.2.2.1 e))⟩) (fun n4 => ?_)
  refine lw_sw (d := 5) hc (by decide) (fun e => ⟨(lw_at (i := i) (k := 1) hs (by omega) hL).1, (lw_at (i := i) (k := 1) hs (by omega) hL).2.1, (by decide), hK1, (by decide), (by rw [show (1 : Int32) = nI 1 from rfl, (lw_at (i := i) (k := 1) hs (by omega) hL).2.2]; exact lw_case5 hE hs hL hi (ht.2.2.2.2.2.1 e))⟩) (fun n5 => ?_)
  refine lw_sw (d := 6) hc (by decide) (fun e => ⟨(lw_at (i := i) (k := 1) hs (by omega) hL).1, (lw_at (i := i) (k := 1) hs (by omega) hL).2.1, (by decide), hK1, (by decide), (by rw [show (1 : Int32) = nI 1 from rfl, (lw_at (i := i) (k := 1) hs (by omega) hL).2.2]; exact lw_case6 hE hs hL hi (ht.2.2.2.2.2.2.1 e))⟩) (fun n6 => ?_)
  refine lw_sw (d := 7) hc (by decide) (fun e => ⟨(lw_at (i := i) (k := 1) hs (by omega) hL).1, (lw_at (i := i) (k := 1) hs (by omega) hL).2.1, (lw_at (i := i) (k := 2) hs (by omega) hL).1, (lw_at (i := i) (k := 2) hs (by omega) hL).2.1, (by decide), hK1, (by decide), (by rw [show (1 : Int32) = nI 1 from rfl, show (2 : Int32) = nI 2 from rfl, (lw_at (i := i) (k := 1) hs (by omega) hL).2.2, (lw_at (i := i) (k := 2) hs (by omega) hL).2.2]; exact lw_case7 hE hs hL hi (ht.2.2.2.2.2.2.2.1 e))⟩) (fun n7 => ?_)
  refine lw_sw (d := 8) hc (by decide) (fun e => ⟨(lw_at (i := i) (k := 1) hs (by omega) hL).1, (lw_at (i := i) (k := 1) hs (by omega) hL).2.1, (lw_at (i := i) (k := 2) hs (by omega) hL).1, (lw_at (i := i) (k := 2) hs (by omega) hL).2.1, (by decide), hK1, (by decide), (by rw [show (1 : Int32) = nI 1 from rfl, show (2 : Int32) = nI 2 from rfl, (lw_at (i := i) (k := 1) hs (by omega) hL).2.2, (lw_at (i := i) (k := 2) hs (by omega) hL).2.2]; exact lw_case8 hE hs hL hi (ht.2.2.2.2.2.2.2.2.1 e))⟩) (fun n8 => ?_)
  refine lw_sw (d := 9) hc (by decide) (fun e => ⟨(lw_at (i := i) (k := 1) hs (by omega) hL).1, (lw_at (i := i) (k := 1) hs (by omega) hL).2.1, (lw_at (i := i) (k := 2) hs (by omega) hL).1, (lw_at (i := i) (k := 2) hs (by omega) hL).2.1, (lw_at (i := i) (k := 3) hs (by omega) hL).1, (lw_at (i := i) (k := 3) hs (by omega) hL).2.1, (by decide), hK1, (by decide), (by rw [show (1 : Int32) = nI 1 from rfl, show (2 : Int32) = nI 2 from rfl, show (3 : Int32) = nI 3 from rfl, (lw_at (i := i) (k := 1) hs (by omega) hL).2.2, (lw_at (i := i) (k := 2) hs (by omega) hL).2.2, (lw_at (i := i) (k := 3) hs (by omega) hL).2.2]; exact lw_case9 hE hs hL hi (ht.2.2.2.2.2.2.2.2.2.1 e))⟩) (fun n9 => ?_)
  exact ht.2.2.2.2.2.2.2.2.2.2 (by omega)
/-- the end of the script -/
theorem lw_fin (hE : ox_mono E) (hs : lw_scr x0 L xs S) (hL : L ≤ 2048) (hi : i ≤ L) (h4 : L < i + 4) (hQ : Q (some (.inl 1)) S) : c_238_23 E x0 x1 x2 x3 (nI i) S mr sr Q := by
  refine f_238_23 hE ?_
  unfold q_238_23
  refine ⟨by rw [hs.1]; rfl, fun _ => ⟨Or.inr rfl, hQ⟩, fun hn => ?_⟩
  exfalso
  refine hn ?_
  rw [hs.2.1, show Int32.ofNat L = nI L from rfl]
  rw [Int32.lt_iff_toInt_lt, nI_toInt (by omega)]
  by_cases h : 4 ≤ L
  · rw [show (4 : Int32) = nI 4 from rfl, pk_sub h, nI_toInt (by omega)]
    omega
  · rcases (show L = 0 ∨ L = 1 ∨ L = 2 ∨ L = 3 by omega) with rfl | rfl | rfl | rfl
    · show (nI 0 - 4).toInt < _; rw [show (nI 0 - 4).toInt = -4 by decide]; omega
    · show (nI 1 - 4).toInt < _; rw [show (nI 1 - 4).toInt = -3 by decide]; omega
    · show (nI 2 - 4).toInt < _; rw [show (nI 2 - 4).toInt = -2 by decide]; omega
    · show (nI 3 - 4).toInt < _; rw [show (nI 3 - 4).toInt = -1 by decide]; omega
end LWI
