/-! the reference: a tuple out of the row of values -/
/-- how deep a value is, as the reference sees it -/
def mDeep (S : ox_St) (m ce : Nat) (w : Int32) (D : Nat) : Prop := (¬ w < 16 → vp_in w 1100000) ∧ (mSort S m ce w = 4 → vp_in (w + 1) 1100000 ∧ S.rI (m + ce) (w + 1).toNatClampNeg = nI D) ∧ (mSort S m ce w ≠ 4 → D = 0) ∧ D < 2 ^ 31
def mxD (D : Nat → Nat) : Nat → Nat
  | 0 => 0
  | i + 1 => max (mxD D i) (D i)
theorem mxD_lt {D : Nat → Nat} {k : Nat} (hk : 0 < k) : ∀ i, (∀ j, j < i → D j < k) → mxD D i < k
  | 0, _ => hk
  | i + 1, h => by
    have a := mxD_lt hk i (fun j hj => h j (Nat.lt_succ_of_lt hj))
    have b := h i (Nat.lt_succ_self _)
    show max (mxD D i) (D i) < k
    omega
section MTp
variable {sp : ox_E} {d mr sr : Nat} {S S' S2 : ox_St} {Q : ox_Q} {m ce a : Nat} {T : Nat}
theorem s_137 (hsp : ox_mono sp) (h : oML S m ce) {w : Int32} {D : Nat} (hd : mDeep S m ce w D) (hQ : Q (some (.inl (nI D))) S) : ox_M sp (d + 3) 137 [.inr (.inr m), .inl w] mr sr S Q := by
  have hE : ox_mono (ox_M sp (d + 2)) := ox_M_mono hsp _
  obtain ⟨c1, c2, c3⟩ := h.cells
  obtain ⟨h1, h2, h3, -⟩ := hd
  refine f_137 hsp ⟨by decide, h.1, by decide, 0, 0, Nat.zero_le _, Nat.zero_le _, s_134 hsp h h1 (f_137_5 hE ⟨fun z => ⟨trivial, ?_⟩, fun z => ?_⟩)⟩
  · have n4 : mSort S m ce w ≠ 4 := fun y => by rw [if_pos y] at z; exact absurd z (by decide)
    rw [h3 n4] at hQ
    exact hQ
  · have y4 : mSort S m ce w = 4 := by
      by_cases y : mSort S m ce w = 4
      · exact y
      · rw [if_neg y] at z; exact absurd rfl z
    obtain ⟨a1, a2⟩ := h2 y4
    refine ⟨by rw [h.1]; rfl, by rw [c1, c2]; rfl, by rw [c1, c3]; exact a1, trivial, ?_⟩
    rw [c1, a2]
    exact hQ
/-- the depth -/
theorem s_157_5 (hsp : ox_mono sp) (h : oML S m ce) {n b : Nat} {W : Nat → Int32} {D : Nat → Nat} (hb : b + n ≤ 900) (hW : ∀ i, i < n → S.rI (m + 34) (b + i) = W i ∧ mDeep S m ce (W i) (D i)) (hQ : ∀ mr' sr' (x4 : Int32), mr' ≤ mr → ox_M sp (d + 3) 132 [.inr (.inr m), .inl 4, .inl (nI (mxD D n) + 1), .inl (nI n)] 0 0 S (k_157_61 (ox_M sp (d + 3)) m (nI n) (nI b) (nI (mxD D n)) x4 mr' sr' Q)) : ∀ (k i mr0 sr0 : Nat), mr0 ≤ mr → i + k = n → c_157_5 (ox_M sp (d + 3)) m (nI n) (nI b) (nI (mxD D i)) (nI i) S mr0 sr0 Q := by
  have hE : ox_mono (ox_M sp (d + 3)) := ox_M_mono hsp _
  obtain ⟨v1, v2, v3⟩ := h.row (F := 130) (o := 34) (k := 15) (n := 900) (by decide)
  intro k
  induction k with
  | zero =>
    intro i mr0 sr0 hm hi
    have hi' : i = n := hi
    subst hi'
    exact f_157_5 hE ⟨fun _ => ⟨by decide, h.1, by decide, 0, 0, Nat.zero_le _, Nat.zero_le _, hQ _ _ _ (by omega)⟩, fun z => absurd (by simp) z⟩
  | succ k ih =>
    intro i mr0 sr0 hm hi
    obtain ⟨w1, w2⟩ := hW i (by omega)
    have mxl : mxD D i < 2 ^ 31 := mxD_lt (by decide) i (fun j hj => (hW j (by omega)).2.2.2.2)
    have dl' := w2.2.2.2
    refine f_157_5 hE ⟨fun z => absurd z (nI_ge (by omega) (by omega)), fun _ => ⟨by rw [h.1]; rfl, by rw [v1, v2]; rfl, by rw [v1, v3, nI_add]; exact vp_in_nI (by omega) (by decide), by decide, h.1, by decide, 0, 0, Nat.zero_le _, Nat.zero_le _, ?_⟩⟩
    rw [v1, nI_add, nI_clamp (by omega), w1]
    refine s_137 hsp h w2 (f_157_24 hE ⟨fun z => ?_, fun z => ⟨by rw [h.1]; rfl, by rw [v1, v2]; rfl, by rw [v1, v3, nI_add]; exact vp_in_nI (by omega) (by decide), by decide, h.1, by decide, 0, 0, Nat.zero_le _, Nat.zero_le _, ?_⟩⟩)
    · have := (nI_leI dl' mxl).mp z
      have e : mxD D (i + 1) = mxD D i := by show max _ _ = _; omega
      rw [nI_1]
      have g := ih (i + 1) (mr0 - 0 - 0) (sr0 - 0 - 0) (by omega) (by omega)
      rw [e] at g
      exact g
    · rw [v1, nI_add, nI_clamp (by omega), w1]
      refine s_137 hsp h w2 (f_157_41 hE ?_)
      have : ¬ D i ≤ mxD D i := fun y => z (nI_le y mxl)
      have e : mxD D (i + 1) = D i := by show max _ _ = _; omega
      show c_157_5 (ox_M sp (d + 3)) m (nI n) (nI b) (nI (D i)) (nI i + 1) S _ _ Q
      rw [nI_1]
      have g := ih (i + 1) (mr0 - 0 - 0 - 0) (sr0 - 0 - 0 - 0) (by omega) (by omega)
      rw [e] at g
      exact g
/-- what a tuple's cells hold, i of its items put -/
def mTpl (S : ox_St) (c T n k : Nat) (W : Nat → Int32) (i : Nat) : Prop := S.rI c T = 4 ∧ S.rI c (T + 1) = nI k ∧ S.rI c (T + 2) = nI n ∧ ∀ j, j < i → S.rI c (T + 3 + j) = W j
theorem s_157_66 {E : ox_E} (hE : ox_mono E) {n b k : Nat} {W : Nat → Int32} {x3 : Int32} (hb : b + n ≤ 900) (hT : T + 3 + n ≤ 1100000) (hW : ∀ i, i < n → S.rI (m + 34) (b + i) = W i) (hQ : ∀ S', mNw m ce T S S' → S'.I 75 m = nI (T + 3 + n) → mTpl S' (m + ce) T n k W n → Q (some (.inl (nI T))) S') : ∀ (r i mr sr : Nat) (U : ox_St), i + r = n → oML U m ce → mNw m ce T S U → U.I 75 m = nI (T + 3) → mTpl U (m + ce) T n k W i → c_157_66 E m (nI n) (nI b) x3 (nI T) (nI i) U mr sr Q := by
  intro r
  induction r with
  | zero =>
    intro i mr sr U hi h hw h75 ht
    have hi' : i = n := hi
    subst hi'
    refine f_157_66 hE ⟨fun _ => ⟨by rw [h.1]; rfl, by rw [h.1]; rfl, trivial, ?_⟩, fun z => absurd (by simp) z⟩
    rw [h75, nI_add]
    refine hQ _ (hw.trans mNw_top) (by rw [or_sI_I, if_pos ⟨rfl, rfl⟩]) ?_
    unfold mTpl at ht ⊢
    rw [or_sI_rI]
    exact ht
  | succ r ih =>
    intro i mr sr U hi h hw h75 ht
    obtain ⟨c1, c2, c3⟩ := h.cells
    obtain ⟨v1, v2, v3⟩ := h.row (F := 130) (o := 34) (k := 15) (n := 900) (by decide)
    have hce := h.2.2.1
    have w34 : U.rI (m + 34) = S.rI (m + 34) := hw.2.2.2.2.2.2.2.2.1 (m + 34) (by omega) (by omega)
    have n3 : nI T + 3 + nI i = nI (T + 3 + i) := by rw [show (3 : Int32) = nI 3 from rfl, nI_add, nI_add]
    refine f_157_66 hE ⟨fun z => absurd z (nI_ge (by omega) (by omega)), fun _ => ⟨by rw [h.1]; rfl, by rw [h.1]; rfl, by rw [v1, v2]; rfl, by rw [v1, v3, nI_add]; exact vp_in_nI (by omega) (by decide), by rw [c1]; exact c2, by rw [c1, c3, n3]; exact vp_in_nI (by omega) (by decide), ?_⟩⟩
    rw [v1, c1, n3, nI_add, nI_clamp (show T + 3 + i < 2 ^ 31 by omega), nI_clamp (show b + i < 2 ^ 31 by omega), w34, hW i (by omega), nI_1]
    have nw : mNw m ce T U (U.wI (m + ce) (T + 3 + i) (W i)) := mNw_wI (by omega)
    have eI : (U.wI (m + ce) (T + 3 + i) (W i)).I 75 m = nI (T + 3) := by rw [or_wI_I]; exact h75
    refine ih (i + 1) mr sr _ (by omega) (h.nw nw) (hw.trans nw) eI ?_
    obtain ⟨t1, t2, t3, t4⟩ := ht
    refine ⟨?_, ?_, ?_, fun j hj => ?_⟩
    · rw [or_wI_rI, if_neg (fun z => by have := z.2; omega)]; exact t1
    · rw [or_wI_rI, if_neg (fun z => by have := z.2; omega)]; exact t2
    · rw [or_wI_rI, if_neg (fun z => by have := z.2; omega)]; exact t3
    · by_cases z : j = i
      · subst z; rw [or_wI_rI, if_pos ⟨rfl, rfl⟩]
      · rw [or_wI_rI, if_neg (fun y => by have := y.2; omega)]; exact t4 j (by omega)
/-- tuple -/
theorem s_157 (hsp : ox_mono sp) (h : oML S m ce) {n b : Nat} {W : Nat → Int32} {D : Nat → Nat} (h75 : S.I 75 m = nI T) (hb : b + n ≤ 900) (hT : T + 3 + n ≤ 1100000) (hW : ∀ i, i < n → S.rI (m + 34) (b + i) = W i ∧ mDeep S m ce (W i) (D i)) (hQ : ∀ S', mNw m ce T S S' → S'.I 75 m = nI (T + 3 + n) → mTpl S' (m + ce) T n (mxD D n + 1) W n → Q (some (.inl (nI T))) S') : ox_M sp (d + 4) 157 [.inr (.inr m), .inl (nI n), .inl (nI b)] mr sr S Q := by
  have hE : ox_mono (ox_M sp (d + 3)) := ox_M_mono hsp _
  refine f_157 hsp ?_
  show c_157_5 (ox_M sp (d + 3)) m (nI n) (nI b) (nI (mxD D 0)) (nI 0) S mr sr Q
  refine s_157_5 (mr := mr) hsp h hb hW (fun mr' sr' x4 _ => s_132 hsp h h75 (by omega) (f_157_61 hE ?_)) n 0 mr sr (Nat.le_refl _) (by omega)
  show c_157_66 (ox_M sp (d + 3)) m (nI n) (nI b) (nI (mxD D n)) (nI T) (nI 0) (mPut S m (m + ce) T 4 (nI (mxD D n) + 1) (nI n)) _ _ Q
  rw [nI_1]
  have nw : mNw m ce T S (mPut S m (m + ce) T 4 (nI (mxD D n + 1)) (nI n)) := mNw_put
  refine s_157_66 (S := S) hE hb hT (fun i hi => (hW i hi).1) hQ n 0 _ _ _ (by omega) (h.nw nw) nw mPut_75 ⟨?_, ?_, ?_, fun j hj => absurd hj (Nat.not_lt_zero _)⟩
  · rw [mPut_row, if_neg (by omega), if_neg (by omega), if_pos rfl]
  · rw [mPut_row, if_neg (by omega), if_pos rfl]
  · rw [mPut_row, if_pos rfl]
end MTp
