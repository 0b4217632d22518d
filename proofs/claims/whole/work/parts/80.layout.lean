/-! the class's fixed objects lie behind x -/
/-- field, holder, what it refers to -/
def cRt : List (Nat × Nat × Nat) := [(60, 0, 1), (64, 0, 2), (65, 0, 3), (66, 0, 11), (67, 0, 75), (23, 3, 4), (24, 3, 5), (25, 3, 6), (26, 3, 7), (27, 3, 8), (30, 3, 9), (31, 3, 10), (34, 11, 12), (41, 11, 13), (42, 11, 14), (44, 11, 15), (45, 11, 16), (46, 11, 17), (47, 11, 18), (48, 11, 20), (49, 11, 22), (50, 11, 23), (52, 20, 19), (52, 22, 21), (3, 23, 24), (4, 23, 25), (5, 23, 26)]
/-- objects: place, kind -/
def cKt : List (Nat × Nat) := [(0, 13), (2, 1), (3, 6), (11, 7), (15, 11), (16, 11), (17, 11), (20, 8), (22, 8), (23, 2), (27, 11), (68, 11), (69, 11), (70, 11), (71, 11), (72, 11), (73, 11), (74, 11)]
/-- rows: place, kind, length -/
def cLt : List (Nat × Nat × Nat) := [(1, 15, 800), (4, 15, 80), (5, 15, 80), (6, 15, 320), (7, 15, 320), (8, 15, 80), (9, 15, 4), (10, 15, 4), (12, 18, 8), (13, 16, 16), (14, 19, 16), (18, 19, 7), (19, 15, 0), (21, 15, 1), (24, 15, 34), (25, 15, 18), (26, 15, 18), (75, 15, 300)]
/-- plain values: place, tag, which -/
def cVt : List (Nat × Int × Int) := [(15, 1, 0), (16, 2, 0), (17, 8, 0), (20, 3, 0), (22, 3, 0), (27, 0, 0), (68, 9, 0), (69, 9, 1), (70, 9, 2), (71, 9, 3), (72, 9, 4), (73, 9, 5), (74, 9, 6)]
def oCL (S : ox_St) (x : Nat) : Prop := (∀ q ∈ cRt, S.R q.1 (x + q.2.1) = x + q.2.2) ∧ (∀ q ∈ cKt, S.K (x + q.1) = q.2) ∧ (∀ q ∈ cLt, S.K (x + q.1) = q.2.1 ∧ S.len (x + q.1) = q.2.2) ∧ (∀ q ∈ cVt, S.I 6 (x + q.1) = Int32.ofInt q.2.1 ∧ S.I 7 (x + q.1) = Int32.ofInt q.2.2) ∧ (∀ f, f < 8 → oF S (x + 28 + 5 * f) ∧ S.rR (x + 12) f = x + 28 + 5 * f) ∧ (∀ w, w < 7 → S.rR (x + 18) w = x + 68 + w) ∧ S.I 51 (x + 20) = 0 ∧ S.I 51 (x + 22) = 0 ∧ S.rI (x + 21) 0 = 1
theorem cRt_ok : ∀ q ∈ cRt, (q.1 ≠ 1 ∧ q.1 ≠ 18 ∧ q.1 ≠ 29 ∧ q.1 ≠ 36 ∧ q.1 ≠ 40) ∧ q.2.1 < 76 := by decide
theorem cKt_ok : ∀ q ∈ cKt, q.1 < 76 := by decide
theorem cLt_ok : ∀ q ∈ cLt, q.1 < 76 := by decide
theorem cVt_ok : ∀ q ∈ cVt, q.1 < 76 := by decide
section OCL
variable {S S' : ox_St} {x : Nat}
theorem oCL.ref (h : oCL S x) {F o t : Nat} (hq : cRt.contains (F, o, t) = true) : S.R F (x + o) = x + t := h.1 (F, o, t) (List.contains_iff_mem.mp hq)
theorem oCL.obj (h : oCL S x) {o k : Nat} (hq : cKt.contains (o, k) = true) : S.K (x + o) = k := h.2.1 (o, k) (List.contains_iff_mem.mp hq)
theorem oCL.row (h : oCL S x) {o k n : Nat} (hq : cLt.contains (o, k, n) = true) : S.K (x + o) = k ∧ S.len (x + o) = n := h.2.2.1 (o, k, n) (List.contains_iff_mem.mp hq)
theorem oCL.val (h : oCL S x) {o : Nat} {t w : Int} (hq : cVt.contains (o, t, w) = true) : S.I 6 (x + o) = Int32.ofInt t ∧ S.I 7 (x + o) = Int32.ofInt w := h.2.2.2.1 (o, t, w) (List.contains_iff_mem.mp hq)
theorem oCL.fr (h : oCL S x) {f : Nat} (hf : f < 8) : oF S (x + 28 + 5 * f) ∧ S.rR (x + 12) f = x + 28 + 5 * f := h.2.2.2.2.1 f hf
theorem oCL.kind (h : oCL S x) {w : Nat} (hw : w < 7) : S.rR (x + 18) w = x + 68 + w := h.2.2.2.2.2.1 w hw
theorem oCL.cal (h : oCL S x) : oCal S (x + 23) := by
  have r3 : S.R 3 (x + 23) = x + 24 := h.ref (by decide)
  have r4 : S.R 4 (x + 23) = x + 25 := h.ref (by decide)
  have r5 : S.R 5 (x + 23) = x + 26 := h.ref (by decide)
  obtain ⟨a1, a2⟩ := h.row (o := 24) (k := 15) (n := 34) (by decide)
  obtain ⟨a3, a4⟩ := h.row (o := 25) (k := 15) (n := 18) (by decide)
  obtain ⟨a5, a6⟩ := h.row (o := 26) (k := 15) (n := 18) (by decide)
  exact ⟨h.obj (o := 23) (by decide), ⟨r3, a1, a2⟩, ⟨r4, a3, a4⟩, r5, a5, a6⟩
theorem oCL.zero (h : oCL S x) : oNm S (x + 20) (x + 19) (fun _ => 0) 0 0 :=
  ⟨h.obj (o := 20) (by decide), h.ref (F := 52) (o := 20) (t := 19) (by decide), ⟨(h.row (o := 19) (k := 15) (n := 0) (by decide)).1, (h.row (o := 19) (k := 15) (n := 0) (by decide)).2, by decide, fun i hi => absurd hi (Nat.not_lt_zero i)⟩, ⟨fun i hi => absurd hi (Nat.not_lt_zero i), fun z => absurd z (Nat.lt_irrefl 0)⟩, h.2.2.2.2.2.2.1, Or.inl rfl, fun _ => rfl⟩
theorem oCL.one (h : oCL S x) : oNm S (x + 22) (x + 21) (fun _ => 1) 1 0 := by
  have hlt : (1 : Nat) < 32768 := by decide
  obtain ⟨a1, a2⟩ := h.row (o := 21) (k := 15) (n := 1) (by decide)
  exact ⟨h.obj (o := 22) (by decide), h.ref (F := 52) (o := 22) (t := 21) (by decide), ⟨a1, a2, by decide, fun i hi => ⟨by rw [show i = 0 by omega]; exact h.2.2.2.2.2.2.2.2, hlt⟩⟩, ⟨fun i _ => hlt, fun _ => Nat.one_ne_zero⟩, h.2.2.2.2.2.2.2.1, Or.inl rfl, fun _ => rfl⟩
/-- what the fixed ones rest on -/
theorem oCL.next (h : oCL S x) (hK : ∀ a, x ≤ a → a < x + 76 → S'.K a = S.K a ∧ S'.len a = S.len a) (hR : ∀ F a, F ≠ 1 → F ≠ 18 → F ≠ 29 → F ≠ 36 → F ≠ 40 → x ≤ a → a < x + 76 → S'.R F a = S.R F a) (hI : ∀ F a, F = 6 ∨ F = 7 ∨ F = 51 → x ≤ a → a < x + 76 → S'.I F a = S.I F a) (h12 : S'.rR (x + 12) = S.rR (x + 12)) (h18 : S'.rR (x + 18) = S.rR (x + 18)) (h21 : S'.rI (x + 21) = S.rI (x + 21)) : oCL S' x := by
  obtain ⟨g1, g2, g3, g4, g5, g6, g7, g8, g9⟩ := h
  refine ⟨fun q hq => ?_, fun q hq => ?_, fun q hq => ?_, fun q hq => ?_, fun f hf => ⟨?_, ?_⟩, fun w hw => ?_, ?_, ?_, ?_⟩
  · obtain ⟨⟨b1, b2, b3, b4, b5⟩, b6⟩ := cRt_ok q hq
    rw [hR _ _ b1 b2 b3 b4 b5 (by omega) (by omega)]
    exact g1 q hq
  · have b := cKt_ok q hq
    rw [(hK _ (by omega) (by omega)).1]
    exact g2 q hq
  · have b := cLt_ok q hq
    rw [(hK _ (by omega) (by omega)).1, (hK _ (by omega) (by omega)).2]
    exact g3 q hq
  · have b := cVt_ok q hq
    rw [hI 6 _ (Or.inl rfl) (by omega) (by omega), hI 7 _ (Or.inr (Or.inl rfl)) (by omega) (by omega)]
    exact g4 q hq
  · obtain ⟨k1, ⟨a1, a2, a3⟩, ⟨b1, b2, b3⟩, ⟨c1, c2, c3⟩, d1, d2, d3⟩ := (g5 f hf).1
    have kk : ∀ j, j < 5 → S'.K (x + 28 + 5 * f + j) = S.K (x + 28 + 5 * f + j) ∧ S'.len (x + 28 + 5 * f + j) = S.len (x + 28 + 5 * f + j) := fun j hj => hK _ (by omega) (by omega)
    have rr : ∀ F, F = 13 ∨ F = 14 ∨ F = 15 ∨ F = 16 → S'.R F (x + 28 + 5 * f) = S.R F (x + 28 + 5 * f) := fun F hF => hR F _ (by omega) (by omega) (by omega) (by omega) (by omega) (by omega) (by omega)
    refine ⟨((kk 0 (by omega)).1).trans k1, ⟨(rr 13 (by omega)).trans a1, ((kk 1 (by omega)).1).trans a2, ((kk 1 (by omega)).2).trans a3⟩, ⟨(rr 14 (by omega)).trans b1, ((kk 2 (by omega)).1).trans b2, ((kk 2 (by omega)).2).trans b3⟩, ⟨(rr 15 (by omega)).trans c1, ((kk 3 (by omega)).1).trans c2, ((kk 3 (by omega)).2).trans c3⟩, (rr 16 (by omega)).trans d1, ((kk 4 (by omega)).1).trans d2, ((kk 4 (by omega)).2).trans d3⟩
  · rw [h12]; exact (g5 f hf).2
  · rw [h18]; exact g6 w hw
  · rw [hI 51 _ (Or.inr (Or.inr rfl)) (by omega) (by omega)]; exact g7
  · rw [hI 51 _ (Or.inr (Or.inr rfl)) (by omega) (by omega)]; exact g8
  · rw [h21]; exact g9
end OCL
theorem cT_ok1 : cRt.all (fun q => decide (oRR oq_280 q.1 q.2.1 = some (q.2.2 + 2))) = true := by decide +kernel
theorem cT_ok2 : cKt.all (fun q => decide (oRK oq_280 q.1 = some q.2)) = true := by decide +kernel
theorem cT_ok3 : cLt.all (fun q => decide (oRK oq_280 q.1 = some q.2.1) && decide (oRL oq_280 q.1 = some q.2.2)) = true := by decide +kernel
theorem cT_ok4 : cVt.all (fun q => decide (oRI oq_280 6 q.1 = some q.2.1) && decide (oRI oq_280 7 q.1 = some q.2.2)) = true := by decide +kernel
theorem cT_ok5 : (List.range 8).all (fun f => decide (oRK oq_280 (28 + 5 * f) = some 4) && decide (oRR oq_280 13 (28 + 5 * f) = some (29 + 5 * f + 2)) && decide (oRK oq_280 (29 + 5 * f) = some 19) && decide (oRL oq_280 (29 + 5 * f) = some 8) && decide (oRR oq_280 14 (28 + 5 * f) = some (30 + 5 * f + 2)) && decide (oRK oq_280 (30 + 5 * f) = some 19) && decide (oRL oq_280 (30 + 5 * f) = some 10) && decide (oRR oq_280 15 (28 + 5 * f) = some (31 + 5 * f + 2)) && decide (oRK oq_280 (31 + 5 * f) = some 15) && decide (oRL oq_280 (31 + 5 * f) = some 4) && decide (oRR oq_280 16 (28 + 5 * f) = some (32 + 5 * f + 2)) && decide (oRK oq_280 (32 + 5 * f) = some 15) && decide (oRL oq_280 (32 + 5 * f) = some 4) && decide (oRw oq_280 12 f = some (28 + 5 * f + 2))) = true := by decide +kernel
theorem cT_ok6 : (List.range 7).all (fun w => decide (oRw oq_280 18 w = some (68 + w + 2))) = true := by decide +kernel
/-- at the beginning -/
theorem p_CL {S : ox_St} (hb : 0 < S.n) : oCL (ap S.n oq_280 S) S.n := by
  refine ⟨fun q hq => ?_, fun q hq => ?_, fun q hq => ?_, fun q hq => ?_, fun f hf => ?_, fun w hw => ?_, ap_I (a := 20) (v := 0) rfl oq_280 (by decide +kernel), ap_I (a := 22) (v := 0) rfl oq_280 (by decide +kernel), ap_i (a := 21) (v := 1) rfl oq_280 (by decide +kernel)⟩
  · exact ap_R (b := S.n) rfl hb oq_280 (of_decide_eq_true (List.all_eq_true.mp cT_ok1 q hq))
  · exact ap_K rfl oq_280 (of_decide_eq_true (List.all_eq_true.mp cT_ok2 q hq))
  · have := List.all_eq_true.mp cT_ok3 q hq
    simp only [Bool.and_eq_true, decide_eq_true_eq] at this
    exact ⟨ap_K rfl oq_280 this.1, ap_len rfl oq_280 this.2⟩
  · have := List.all_eq_true.mp cT_ok4 q hq
    simp only [Bool.and_eq_true, decide_eq_true_eq] at this
    exact ⟨ap_I rfl oq_280 this.1, ap_I rfl oq_280 this.2⟩
  · have := List.all_eq_true.mp cT_ok5 f (List.mem_range.mpr hf)
    simp only [Bool.and_eq_true, decide_eq_true_eq] at this
    obtain ⟨⟨⟨⟨⟨⟨⟨⟨⟨⟨⟨⟨⟨a1, a2⟩, a3⟩, a4⟩, a5⟩, a6⟩, a7⟩, a8⟩, a9⟩, a10⟩, a11⟩, a12⟩, a13⟩, a14⟩ := this
    have e0 : S.n + 28 + 5 * f = S.n + (28 + 5 * f) := by omega
    have e1 : S.n + 28 + 5 * f + 1 = S.n + (29 + 5 * f) := by omega
    have e2 : S.n + 28 + 5 * f + 2 = S.n + (30 + 5 * f) := by omega
    have e3 : S.n + 28 + 5 * f + 3 = S.n + (31 + 5 * f) := by omega
    have e4 : S.n + 28 + 5 * f + 4 = S.n + (32 + 5 * f) := by omega
    unfold oF
    rw [e1, e2, e3, e4, e0]
    exact ⟨⟨ap_K rfl oq_280 a1, ⟨ap_R (b := S.n) rfl hb oq_280 a2, ap_K rfl oq_280 a3, ap_len rfl oq_280 a4⟩, ⟨ap_R (b := S.n) rfl hb oq_280 a5, ap_K rfl oq_280 a6, ap_len rfl oq_280 a7⟩, ⟨ap_R (b := S.n) rfl hb oq_280 a8, ap_K rfl oq_280 a9, ap_len rfl oq_280 a10⟩, ap_R (b := S.n) rfl hb oq_280 a11, ap_K rfl oq_280 a12, ap_len rfl oq_280 a13⟩, ap_w (b := S.n) rfl 0 oq_280 a14 (by omega)⟩
  · have := of_decide_eq_true (List.all_eq_true.mp cT_ok6 w (List.mem_range.mpr hw))
    rw [show S.n + 68 + w = S.n + (68 + w) by omega]
    exact ap_w (b := S.n) rfl 0 oq_280 this (by omega)
