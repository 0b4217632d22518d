/-! the reference's calculations: number -/
/-- a calculation's changes, and cells from T on -/
def mNw (m ce T : Nat) (S S' : ox_St) : Prop := S'.K = S.K ∧ S'.len = S.len ∧ S'.n = S.n ∧ S'.R = S.R ∧ S'.J = S.J ∧ S'.rR = S.rR ∧ S'.rJ = S.rJ ∧ (∀ F a, (a ≠ m ∨ (F ≠ 75 ∧ (F < 113 ∨ 119 < F))) → S'.I F a = S.I F a) ∧ (∀ a, (a < m + 26 ∨ m + 29 < a) → a ≠ m + ce → S'.rI a = S.rI a) ∧ ∀ j, j < T → S'.rI (m + ce) j = S.rI (m + ce) j
theorem mNw.trans {m ce T : Nat} {S S' U : ox_St} (h : mNw m ce T S S') (g : mNw m ce T S' U) : mNw m ce T S U := by
  obtain ⟨h1, h2, h3, h4, h5, h6, h7, h8, h9, h10⟩ := h
  obtain ⟨g1, g2, g3, g4, g5, g6, g7, g8, g9, g10⟩ := g
  exact ⟨g1.trans h1, g2.trans h2, g3.trans h3, g4.trans h4, g5.trans h5, g6.trans h6, g7.trans h7, fun F a q => (g8 F a q).trans (h8 F a q), fun a q q2 => (g9 a q q2).trans (h9 a q q2), fun j hj => (g10 j hj).trans (h10 j hj)⟩
theorem mTmp.nw {m ce T : Nat} {S S' : ox_St} (h : mTmp m S S') (hc : ce = 2 ∨ ce = 3) : mNw m ce T S S' := by
  obtain ⟨h1, h2, h3, h4, h5, h6, h7, h8, h9⟩ := h
  exact ⟨h1, h2, h3, h4, h5, h6, h7, fun F a q => h8 F a (q.imp id (fun z => z.2)), fun a q _ => h9 a q, fun j _ => by rw [h9 (m + ce) (Or.inl (by omega))]⟩
theorem mNw_top {m ce T : Nat} {S : ox_St} {v : Int32} : mNw m ce T S (S.sI 75 m v) := ⟨rfl, rfl, rfl, rfl, rfl, rfl, rfl, fun F a q => ox_u2_ne (fun e => by omega), fun _ _ _ => rfl, fun _ _ => rfl⟩
theorem mNw_wI {m ce T i : Nat} {S : ox_St} {v : Int32} (h : T ≤ i) : mNw m ce T S (S.wI (m + ce) i v) := ⟨rfl, rfl, rfl, rfl, rfl, rfl, rfl, fun _ _ _ => rfl, fun a _ q => ox_u2_row _ _ q, fun j hj => ox_u2_ne (fun e => by omega)⟩
theorem mNw_put {m ce T : Nat} {S : ox_St} {u v w : Int32} : mNw m ce T S (mPut S m (m + ce) T u v w) := (((mNw_wI (Nat.le_refl T)).trans (mNw_wI (by omega))).trans (mNw_wI (by omega))).trans mNw_top
theorem oML.nw {S S' : ox_St} {m ce T : Nat} (h : oML S m ce) (g : mNw m ce T S S') : oML S' m ce := h.next g.1 g.2.1 (fun F => by rw [g.2.2.2.1])
section ONB
variable {sp : ox_E} {d mr sr : Nat} {S : ox_St} {Q : ox_Q} {m ce : Nat}
theorem f_140e (hsp : ox_mono sp) (h : c_140_0 (ox_M sp d) m S mr sr Q) : ox_M sp (d + 1) 140 [.inr (.inr m)] mr sr S Q := Or.inr ⟨Nat.le_of_ble_eq_true rfl, h⟩
/-- the copy of the digits behind a number's head -/
theorem s_140_76 {E : ox_E} (hE : ox_mono E) {T c : Nat} {w : Nat → Nat} (hc : c ≤ 16) (hT : T + 3 + c ≤ 1100000) : ∀ (k i : Nat) (S : ox_St), oML S m ce → S.I 115 m = nI c → S.I 75 m = nI (T + 3) → (∀ j, j < c → S.rI (m + 28) j = nI (w j)) → (∀ j, j < i → S.rI (m + ce) (T + 3 + j) = nI (w j)) → i + k = c → (∀ S', mNw m ce (T + 3) S S' → S'.I 75 m = nI (T + 3 + c) → (∀ j, j < c → S'.rI (m + ce) (T + 3 + j) = nI (w j)) → Q (some (.inl (nI T))) S') → c_140_76 E m (nI T) (nI i) S mr sr Q
  | 0, i, S, h, h1, h2, h3, h4, hk, hQ => by
    refine f_140_76 hE ?_
    unfold q_140_76
    rw [h.1, h1, h2]
    refine ⟨rfl, fun _ => ⟨rfl, rfl, rfl, trivial, hQ _ mNw_top ?_ ?_⟩, fun z => absurd (nI_le (by omega) (by omega)) z⟩
    · rw [or_sI_I, if_pos ⟨rfl, rfl⟩, nI_add]
    · intro j hj
      exact h4 j (by omega)
  | k + 1, i, S, h, h1, h2, h3, h4, hk, hQ => by
    obtain ⟨c1, c2, c3⟩ := h.cells
    obtain ⟨d1, d2, d3⟩ := h.row (F := 111) (o := 28) (k := 15) (n := 40) (by decide +kernel)
    have hce := h.2.2.1
    have e3 : nI T + 3 + nI i = nI (T + 3 + i) := by rw [show nI T + 3 = nI (T + 3) from nI_add T 3, nI_add]
    refine f_140_76 hE ?_
    unfold q_140_76
    rw [h.1, h1, c1, c2, c3, d1, d2, d3, e3, nI_clamp (n := T + 3 + i) (by omega), nI_clamp (n := i) (by omega), h3 i (by omega), nI_1]
    refine ⟨rfl, fun z => absurd z (nI_ge (by omega) (by omega)), fun _ => ⟨rfl, rfl, rfl, vp_in_nI (by omega) (by decide), rfl, vp_in_nI (by omega) (by decide), ?_⟩⟩
    have g : mNw m ce (T + 3) S (S.wI (m + ce) (T + 3 + i) (nI (w i))) := mNw_wI (by omega)
    refine s_140_76 hE hc hT k (i + 1) _ (h.nw g) h1 h2 (fun j hj => ?_) (fun j hj => ?_) (by omega) (fun S' e1 e2 e4 => hQ S' (g.trans e1) e2 e4)
    · rw [or_wI_rI, if_neg (fun z => by omega)]
      exact h3 j hj
    · rw [or_wI_rI]
      by_cases hj2 : j = i
      · rw [if_pos ⟨rfl, by omega⟩, hj2]
      · rw [if_neg (fun z => by omega)]
        exact h4 j (by omega)
theorem mPut_rI {c T : Nat} {u v w : Int32} : (mPut S m c T u v w).rI = (((S.wI c T u).wI c (T + 1) v).wI c (T + 2) w).rI := or_sI_rI _ _ _ _
theorem mPut_row {c T : Nat} {u v w : Int32} (j : Nat) : (mPut S m c T u v w).rI c j = if j = T + 2 then w else if j = T + 1 then v else if j = T then u else S.rI c j := by
  rw [mPut_rI, or_wI_rI, or_wI_rI, or_wI_rI]
  by_cases h2 : j = T + 2
  · rw [if_pos ⟨rfl, h2⟩, if_pos h2]
  · rw [if_neg (fun z => h2 z.2), if_neg h2]
    by_cases h1 : j = T + 1
    · rw [if_pos ⟨rfl, h1⟩, if_pos h1]
    · rw [if_neg (fun z => h1 z.2), if_neg h1]
      by_cases h0 : j = T
      · rw [if_pos ⟨rfl, h0⟩, if_pos h0]
      · rw [if_neg (fun z => h0 z.2), if_neg h0]
theorem mPut_off {c T t : Nat} {u v w : Int32} (h : t ≠ c) (j : Nat) : (mPut S m c T u v w).rI t j = S.rI t j := by
  rw [mPut_rI, or_wI_rI, if_neg (fun z => h z.1), or_wI_rI, if_neg (fun z => h z.1), or_wI_rI, if_neg (fun z => h z.1)]
theorem mPut_I {c T F : Nat} {u v w : Int32} (h : F ≠ 75) : (mPut S m c T u v w).I F m = S.I F m := by
  unfold mPut
  rw [or_sI_I, if_neg (fun z => h z.1), or_wI_I, or_wI_I, or_wI_I]
theorem mPut_75 {c T : Nat} {u v w : Int32} : (mPut S m c T u v w).I 75 m = nI (T + 3) := by
  unfold mPut
  rw [or_sI_I, if_pos ⟨rfl, rfl⟩]
/-- one end of number: the head is put, the digits are copied -/
theorem s_140c (hsp : ox_mono sp) {T c : Nat} {w : Nat → Nat} {x mn : Int32} (hT : T + 19 ≤ 1100000) (h : oML S m ce) (h1 : S.I 115 m = nI c) (h3 : S.I 75 m = nI T) (hT16 : 16 ≤ T) (hw : ∀ j, j < c → S.rI (m + 28) j = nI (w j) ∧ w j < 32768) (hc16 : c ≤ 16) (hx : x = (if mn = 0 ∨ c = 0 then 0 else 1)) (hQ1 : ∀ S', mNw m ce T S S' → S'.I 75 m = nI (T + 3 + c) → mNum S' (m + ce) T w c (if mn = 0 ∨ c = 0 then 0 else 1) → Q (some (.inl (nI T))) S') : ox_M sp (d + 1) 132 [.inr (.inr m), .inl 3, .inl x, .inl (nI c)] 0 0 S (k_140_73 (ox_M sp (d + 1)) m mr sr Q) := by
  have hE : ox_mono (ox_M sp (d + 1)) := ox_M_mono hsp _
  have hce := h.2.2.1
  have g : mNw m ce T S (mPut S m (m + ce) T 3 x (nI c)) := mNw_put
  have row := fun j => mPut_row (S := S) (m := m) (c := m + ce) (T := T) (u := 3) (v := x) (w := nI c) j
  have rowd := fun j => mPut_off (S := S) (m := m) (c := m + ce) (T := T) (t := m + 28) (u := 3) (v := x) (w := nI c) (by omega) j
  have i115 := (mPut_I (S := S) (m := m) (c := m + ce) (T := T) (F := 115) (u := 3) (v := x) (w := nI c) (by decide)).trans h1
  have i75 := mPut_75 (S := S) (m := m) (c := m + ce) (T := T) (u := 3) (v := x) (w := nI c)
  have hT3 : T + 3 ≤ 1100000 := Nat.le_trans (Nat.add_le_add_left (by decide) T) hT
  have hTc : T + 3 + c ≤ 1100000 := by omega
  refine s_132 hsp h h3 hT3 ?_
  generalize mPut S m (m + ce) T 3 x (nI c) = P at g row rowd i115 i75
  clear hT hT3
  refine f_140_73 hE ?_
  refine s_140_76 (w := w) hE hc16 hTc c 0 P (h.nw g) i115 i75 (fun j hj => (rowd j).trans (hw j hj).1) (fun j hj => absurd hj (Nat.not_lt_zero j)) (Nat.zero_add c) (fun S' e1 e2 e3 => ?_)
  obtain ⟨q1, q2, q3, q4, q5, q6, q7, q8, q9, q10⟩ := e1
  refine hQ1 S' (g.trans ⟨q1, q2, q3, q4, q5, q6, q7, q8, q9, fun j hj => q10 j (by omega)⟩) e2 ⟨fun i hi => (hw i hi).2, hc16, Or.inr ⟨hT16, hTc, ?_, ?_, ?_, ?_, e3⟩⟩
  · rw [q10 T (by omega), row, if_neg (by omega), if_neg (by omega), if_pos rfl]
  · rw [q10 (T + 1) (by omega), row, if_neg (by omega), if_pos rfl, hx]
  · by_cases hz : mn = 0 ∨ c = 0
    · rw [if_pos hz]; exact Or.inl rfl
    · rw [if_neg hz]; exact Or.inr rfl
  · rw [q10 (T + 2) (by omega), row, if_pos rfl]
/-- the end of number's first loop -/
def mFin (E : ox_E) (m c : Nat) (mn : Int32) (S : ox_St) (mr sr : Nat) (Q : ox_Q) : Prop := (ox_has 14 115 = true ∧ ((nI c ≤ 16 → (ox_has 14 119 = true ∧ ((mn = 0 → (ox_has 14 115 = true ∧ (4 ≤ 4 ∧ 14 = 14 ∧ 0 ≤ 8 ∧ ∃ mc mk, mc ≤ mr ∧ mk ≤ sr ∧ E 132 [.inr (.inr m), .inl (3), .inl (0), .inl (nI c)] mc mk S (k_140_73 E m (mr - mc) (sr - mk) Q)))) ∧ (¬ mn = 0 → (ox_has 14 115 = true ∧ ((nI c ≤ 0 → (ox_has 14 115 = true ∧ (4 ≤ 4 ∧ 14 = 14 ∧ 0 ≤ 8 ∧ ∃ mc mk, mc ≤ mr ∧ mk ≤ sr ∧ E 132 [.inr (.inr m), .inl (3), .inl (0), .inl (nI c)] mc mk S (k_140_73 E m (mr - mc) (sr - mk) Q)))) ∧ (¬ nI c ≤ 0 → (ox_has 14 115 = true ∧ (4 ≤ 4 ∧ 14 = 14 ∧ 0 ≤ 8 ∧ ∃ mc mk, mc ≤ mr ∧ mk ≤ sr ∧ E 132 [.inr (.inr m), .inl (3), .inl (1), .inl (nI c)] mc mk S (k_140_73 E m (mr - mc) (sr - mk) Q)))))))))) ∧ (¬ nI c ≤ 16 → (True ∧ Q (some (.inl ((-1) : Int32))) S))))
theorem s_140f (hsp : ox_mono sp) {T c : Nat} {w : Nat → Nat} {mn : Int32} (hT : T + 19 ≤ 1100000) (hc40 : c ≤ 40) (h : oML S m ce) (h1 : S.I 115 m = nI c) (h3 : S.I 75 m = nI T) (hT16 : 16 ≤ T) (hw : ∀ j, j < c → S.rI (m + 28) j = nI (w j) ∧ w j < 32768) (hQ1 : ∀ S', mNw m ce T S S' → c ≤ 16 → S'.I 75 m = nI (T + 3 + c) → mNum S' (m + ce) T w c (if mn = 0 ∨ c = 0 then 0 else 1) → Q (some (.inl (nI T))) S') (hQ2 : 16 < c → Q (some (.inl (-1))) S) : mFin (ox_M sp (d + 1)) m c mn S mr sr Q := by
  refine ⟨rfl, fun z => ?_, fun z => ⟨trivial, hQ2 (Nat.not_le.mp fun y => z ((nI_leI (b := 16) (by omega) (by decide)).mpr y))⟩⟩
  have hc16 : c ≤ 16 := (nI_leI (b := 16) (by omega) (by decide)).mp z
  refine ⟨rfl, fun y => ⟨rfl, Nat.le_refl 4, rfl, Nat.zero_le 8, 0, 0, Nat.zero_le _, Nat.zero_le _, s_140c hsp hT h h1 h3 hT16 hw hc16 (by rw [if_pos (Or.inl y)]) (fun S' e1 e2 e3 => hQ1 S' e1 hc16 e2 e3)⟩, fun y => ⟨rfl, fun v => ⟨rfl, Nat.le_refl 4, rfl, Nat.zero_le 8, 0, 0, Nat.zero_le _, Nat.zero_le _, s_140c hsp hT h h1 h3 hT16 hw hc16 ?_ (fun S' e1 e2 e3 => hQ1 S' e1 hc16 e2 e3)⟩, fun v => ⟨rfl, Nat.le_refl 4, rfl, Nat.zero_le 8, 0, 0, Nat.zero_le _, Nat.zero_le _, s_140c hsp hT h h1 h3 hT16 hw hc16 ?_ (fun S' e1 e2 e3 => hQ1 S' e1 hc16 e2 e3)⟩⟩⟩
  · have : c = 0 := by
      have := (nI_leI (b := 0) (by omega) (by decide)).mp v
      omega
    rw [if_pos (Or.inr this)]
  · have : ¬ c = 0 := fun e => v (by rw [e]; decide)
    rw [if_neg (fun e => e.elim y this)]
/-- number: what stands in digits, without the zeros at its end, as a cell -/
theorem s_140_0 (hsp : ox_mono sp) {T : Nat} {w : Nat → Nat} {mn : Int32} (hT : T + 19 ≤ 1100000) (hT16 : 16 ≤ T) : ∀ (N : Nat) (S : ox_St), N ≤ 40 → oML S m ce → S.I 115 m = nI N → S.I 119 m = mn → S.I 75 m = nI T → (∀ j, j < N → S.rI (m + 28) j = nI (w j) ∧ w j < 32768) → (∀ S', mNw m ce T S S' → dct w N ≤ 16 → S'.I 75 m = nI (T + 3 + dct w N) → mNum S' (m + ce) T w (dct w N) (if mn = 0 ∨ dct w N = 0 then 0 else 1) → Q (some (.inl (nI T))) S') → (∀ S', mTmp m S S' → 16 < dct w N → Q (some (.inl (-1))) S') → c_140_0 (ox_M sp (d + 1)) m S mr sr Q := by
  have hE : ox_mono (ox_M sp (d + 1)) := ox_M_mono hsp _
  intro N
  induction N with
  | zero =>
    intro S _ h h1 h2 h3 hw hQ1 hQ2
    refine f_140_0 hE ?_
    unfold q_140_0
    rw [h.1, h1, h2]
    exact ⟨rfl, fun _ => s_140f hsp hT (Nat.zero_le _) h h1 h3 hT16 hw hQ1 (fun z => absurd z (by decide)), fun z => absurd (by decide) z⟩
  | succ N ih =>
    intro S hN h h1 h2 h3 hw hQ1 hQ2
    obtain ⟨d1, d2, d3⟩ := h.row (F := 111) (o := 28) (k := 15) (n := 40) (by decide +kernel)
    refine f_140_0 hE ?_
    unfold q_140_0
    rw [h.1, h1, h2, d1, d2, d3, nI_pred, nI_clamp (n := N) (by omega), (hw N (by omega)).1]
    refine ⟨rfl, fun z => absurd z (nI_nle (by omega) (by omega)), fun _ => ⟨rfl, rfl, rfl, vp_in_nI (by omega) (by decide), fun z => ?_, fun z => ⟨rfl, rfl, ?_⟩⟩⟩
    · have hne : ¬ w N = 0 := fun e => z (by rw [e]; decide)
      have e : dct w (N + 1) = N + 1 := if_neg hne
      rw [e] at hQ1 hQ2
      exact s_140f hsp hT hN h h1 h3 hT16 hw hQ1 (fun y => hQ2 S mTmp.refl y)
    · have he : w N = 0 := (nI_eq (b := 0) (by have := (hw N (by omega)).2; omega) (by decide)).mp z
      have e : dct w (N + 1) = dct w N := if_pos he
      rw [e] at hQ1 hQ2
      have g : mTmp m S (S.sI 115 m (nI N)) := mTmp_sI (by decide) (by decide)
      have hce := h.2.2.1
      refine ih (S.sI 115 m (nI N)) (by omega) (h.tmp g) (if_pos ⟨rfl, rfl⟩) ?_ ?_ (fun j hj => hw j (by omega)) (fun S' e1 e2 e3 e4 => hQ1 S' ((g.nw hce).trans e1) e2 e3 e4) (fun S' e1 e2 => hQ2 S' (g.trans e1) e2)
      · rw [or_sI_I, if_neg (fun z => by cases z.1)]
        exact h2
      · rw [or_sI_I, if_neg (fun z => by cases z.1)]
        exact h3
theorem s_140 (hsp : ox_mono sp) {T N : Nat} {w : Nat → Nat} {mn : Int32} (hT : T + 19 ≤ 1100000) (hT16 : 16 ≤ T) (hN : N ≤ 40) (h : oML S m ce) (h1 : S.I 115 m = nI N) (h2 : S.I 119 m = mn) (h3 : S.I 75 m = nI T) (hw : ∀ j, j < N → S.rI (m + 28) j = nI (w j) ∧ w j < 32768) (hQ1 : ∀ S', mNw m ce T S S' → dct w N ≤ 16 → S'.I 75 m = nI (T + 3 + dct w N) → mNum S' (m + ce) T w (dct w N) (if mn = 0 ∨ dct w N = 0 then 0 else 1) → Q (some (.inl (nI T))) S') (hQ2 : ∀ S', mTmp m S S' → 16 < dct w N → Q (some (.inl (-1))) S') : ox_M sp (d + 2) 140 [.inr (.inr m)] mr sr S Q :=
  f_140e hsp (s_140_0 hsp hT hT16 N S hN h h1 h2 h3 hw hQ1 hQ2)
end ONB
