/-! runs over known ground: pictures made by a list of changes (the latest first), addresses counted from b -/
abbrev oOp : Type := Nat × Nat × Nat × Int
/-- 0 new object, 1 new row, 2 int field, 3 reference field, 4 a place of a row of references, 5 of ints, 6 the field that takes ArrayList's empty row -/
def ap1 (b : Nat) (q : oOp) (S : ox_St) : ox_St := match q.1 with
  | 0 => S.newO q.2.1
  | 1 => S.newA q.2.1 q.2.2.1
  | 2 => S.sI q.2.1 (b + q.2.2.1) (Int32.ofInt q.2.2.2)
  | 3 => S.sR q.2.1 (b + q.2.2.1) (b + q.2.2.2.toNat)
  | 4 => S.wR (b + q.2.1) q.2.2.1 (b + q.2.2.2.toNat)
  | 5 => S.wI (b + q.2.1) q.2.2.1 (Int32.ofInt q.2.2.2)
  | _ => S.sR q.2.1 (b + q.2.2.1) (S.R 142 0)
def ap (b : Nat) : List oOp → ox_St → ox_St
  | [], S => S
  | q :: t, S => ap1 b q (ap b t S)
def oCnt : List oOp → Nat
  | [] => 0
  | q :: t => if q.1 ≤ 1 then oCnt t + 1 else oCnt t
def oRK : List oOp → Nat → Option Nat
  | [], _ => none
  | q :: t, a => if q.1 ≤ 1 ∧ oCnt t = a then some q.2.1 else oRK t a
def oRL : List oOp → Nat → Option Nat
  | [], _ => none
  | q :: t, a => if q.1 = 1 ∧ oCnt t = a then some q.2.2.1 else oRL t a
def oRI : List oOp → Nat → Nat → Option Int
  | [], _, _ => none
  | q :: t, F, a => if q.1 = 2 ∧ q.2.1 = F ∧ q.2.2.1 = a then some q.2.2.2 else if q.1 = 0 ∧ oCnt t = a then some 0 else oRI t F a
/-- none: not known; some 0: null; some (v + 2): b + v; some 1: the empty row -/
def oRR : List oOp → Nat → Nat → Option Nat
  | [], _, _ => none
  | q :: t, F, a => if q.1 = 3 ∧ q.2.1 = F ∧ q.2.2.1 = a then some (q.2.2.2.toNat + 2) else if 6 ≤ q.1 ∧ q.2.1 = F ∧ q.2.2.1 = a then some 1 else if q.1 = 0 ∧ oCnt t = a then some 0 else oRR t F a
def oRw : List oOp → Nat → Nat → Option Nat
  | [], _, _ => none
  | q :: t, a, i => if q.1 = 4 ∧ q.2.1 = a ∧ q.2.2.1 = i then some (q.2.2.2.toNat + 2) else if q.1 = 1 ∧ oCnt t = a then some 0 else oRw t a i
def oRi : List oOp → Nat → Nat → Option Int
  | [], _, _ => none
  | q :: t, a, i => if q.1 = 5 ∧ q.2.1 = a ∧ q.2.2.1 = i then some q.2.2.2 else if q.1 = 1 ∧ oCnt t = a then some 0 else oRi t a i
def oVal (b e : Nat) : Nat → Nat
  | 0 => 0
  | 1 => e
  | v + 2 => b + v
section OPS
variable {b : Nat} {S : ox_St}
theorem ap1_cases (q : oOp) (T : ox_St) : (q.1 = 0 ∧ ap1 b q T = T.newO q.2.1) ∨ (q.1 = 1 ∧ ap1 b q T = T.newA q.2.1 q.2.2.1) ∨ (q.1 = 2 ∧ ap1 b q T = T.sI q.2.1 (b + q.2.2.1) (Int32.ofInt q.2.2.2)) ∨ (q.1 = 3 ∧ ap1 b q T = T.sR q.2.1 (b + q.2.2.1) (b + q.2.2.2.toNat)) ∨ (q.1 = 4 ∧ ap1 b q T = T.wR (b + q.2.1) q.2.2.1 (b + q.2.2.2.toNat)) ∨ (q.1 = 5 ∧ ap1 b q T = T.wI (b + q.2.1) q.2.2.1 (Int32.ofInt q.2.2.2)) ∨ (6 ≤ q.1 ∧ ap1 b q T = T.sR q.2.1 (b + q.2.2.1) (T.R 142 0)) := by
  obtain ⟨c, x, y, z⟩ := q
  match c with
  | 0 => exact Or.inl ⟨rfl, rfl⟩
  | 1 => exact Or.inr (Or.inl ⟨rfl, rfl⟩)
  | 2 => exact Or.inr (Or.inr (Or.inl ⟨rfl, rfl⟩))
  | 3 => exact Or.inr (Or.inr (Or.inr (Or.inl ⟨rfl, rfl⟩)))
  | 4 => exact Or.inr (Or.inr (Or.inr (Or.inr (Or.inl ⟨rfl, rfl⟩))))
  | 5 => exact Or.inr (Or.inr (Or.inr (Or.inr (Or.inr (Or.inl ⟨rfl, rfl⟩)))))
  | c + 6 => exact Or.inr (Or.inr (Or.inr (Or.inr (Or.inr (Or.inr ⟨Nat.le_add_left 6 c, rfl⟩)))))
theorem ap_n (hn : S.n = b) : ∀ l : List oOp, (ap b l S).n = b + oCnt l
  | [] => hn
  | q :: t => by
    have ih := ap_n hn t
    show (ap1 b q (ap b t S)).n = b + (if q.1 ≤ 1 then oCnt t + 1 else oCnt t)
    rcases ap1_cases (b := b) q (ap b t S) with ⟨h, e⟩ | ⟨h, e⟩ | ⟨h, e⟩ | ⟨h, e⟩ | ⟨h, e⟩ | ⟨h, e⟩ | ⟨h, e⟩ <;> rw [e]
    · rw [if_pos (by omega), or_newO_n, ih]; omega
    · rw [if_pos (by omega), or_newA_n, ih]; omega
    · rw [if_neg (by omega), or_sI_n, ih]
    · rw [if_neg (by omega), or_sR_n, ih]
    · rw [if_neg (by omega), or_wR_n, ih]
    · rw [if_neg (by omega), or_wI_n, ih]
    · rw [if_neg (by omega), or_sR_n, ih]
/-- what lies below b stays -/
theorem ap_lo (hn : S.n = b) {a : Nat} (ha : a < b) : ∀ l : List oOp, (ap b l S).K a = S.K a ∧ (ap b l S).len a = S.len a ∧ (∀ F, (ap b l S).I F a = S.I F a) ∧ (∀ F, (ap b l S).R F a = S.R F a) ∧ (∀ F, (ap b l S).J F a = S.J F a) ∧ (∀ j, (ap b l S).rI a j = S.rI a j) ∧ (∀ j, (ap b l S).rR a j = S.rR a j) ∧ (∀ j, (ap b l S).rJ a j = S.rJ a j)
  | [] => ⟨rfl, rfl, fun _ => rfl, fun _ => rfl, fun _ => rfl, fun _ => rfl, fun _ => rfl, fun _ => rfl⟩
  | q :: t => by
    obtain ⟨i1, i2, i3, i4, i5, i6, i7, i8⟩ := ap_lo hn ha t
    have hm := ap_n hn t
    have n1 : a ≠ (ap b t S).n := by omega
    have n2 : ∀ k, a ≠ b + k := fun k => by omega
    show (ap1 b q (ap b t S)).K a = S.K a ∧ _
    simp only [ap]
    rcases ap1_cases (b := b) q (ap b t S) with ⟨h, e⟩ | ⟨h, e⟩ | ⟨h, e⟩ | ⟨h, e⟩ | ⟨h, e⟩ | ⟨h, e⟩ | ⟨h, e⟩ <;> rw [e]
    · simp only [or_newO_K, or_newO_len, or_newO_I, or_newO_R, or_newO_J, or_newO_rI, or_newO_rR, or_newO_rJ, if_neg n1]
      exact ⟨i1, i2, i3, i4, i5, i6, i7, i8⟩
    · simp only [or_newA_K, or_newA_len, or_newA_I, or_newA_R, or_newA_J, or_newA_rI, or_newA_rR, or_newA_rJ, if_neg n1]
      exact ⟨i1, i2, i3, i4, i5, i6, i7, i8⟩
    · simp only [or_sI_K, or_sI_len, or_sI_I, or_sI_R, or_sI_J, or_sI_rI, or_sI_rR, or_sI_rJ, n2, and_false, if_false]
      exact ⟨i1, i2, i3, i4, i5, i6, i7, i8⟩
    · simp only [or_sR_K, or_sR_len, or_sR_I, or_sR_R, or_sR_J, or_sR_rI, or_sR_rR, or_sR_rJ, n2, and_false, if_false]
      exact ⟨i1, i2, i3, i4, i5, i6, i7, i8⟩
    · simp only [or_wR_K, or_wR_len, or_wR_I, or_wR_R, or_wR_J, or_wR_rI, or_wR_rR, or_wR_rJ, n2, false_and, if_false]
      exact ⟨i1, i2, i3, i4, i5, i6, i7, i8⟩
    · simp only [or_wI_K, or_wI_len, or_wI_I, or_wI_R, or_wI_J, or_wI_rI, or_wI_rR, or_wI_rJ, n2, false_and, if_false]
      exact ⟨i1, i2, i3, i4, i5, i6, i7, i8⟩
    · simp only [or_sR_K, or_sR_len, or_sR_I, or_sR_R, or_sR_J, or_sR_rI, or_sR_rR, or_sR_rJ, n2, and_false, if_false]
      exact ⟨i1, i2, i3, i4, i5, i6, i7, i8⟩
theorem ap_K (hn : S.n = b) {a v : Nat} : ∀ l : List oOp, oRK l a = some v → (ap b l S).K (b + a) = v
  | [], h => by cases h
  | q :: t, h => by
    have hm := ap_n hn t
    simp only [oRK] at h
    simp only [ap]
    rcases ap1_cases (b := b) q (ap b t S) with ⟨hq, e⟩ | ⟨hq, e⟩ | ⟨hq, e⟩ | ⟨hq, e⟩ | ⟨hq, e⟩ | ⟨hq, e⟩ | ⟨hq, e⟩ <;> rw [e]
    · rw [or_newO_K, hm]
      by_cases hc : oCnt t = a
      · rw [if_pos ⟨by omega, hc⟩] at h
        rw [if_pos (by omega)]
        exact Option.some.inj h
      · rw [if_neg (fun z => hc z.2)] at h
        rw [if_neg (by omega)]
        exact ap_K hn t h
    · rw [or_newA_K, hm]
      by_cases hc : oCnt t = a
      · rw [if_pos ⟨by omega, hc⟩] at h
        rw [if_pos (by omega)]
        exact Option.some.inj h
      · rw [if_neg (fun z => hc z.2)] at h
        rw [if_neg (by omega)]
        exact ap_K hn t h
    all_goals
      rw [if_neg (fun z => by omega)] at h
      exact ap_K hn t h
theorem ap_len (hn : S.n = b) {a v : Nat} : ∀ l : List oOp, oRL l a = some v → (ap b l S).len (b + a) = v
  | [], h => by cases h
  | q :: t, h => by
    have hm := ap_n hn t
    simp only [oRL] at h
    simp only [ap]
    rcases ap1_cases (b := b) q (ap b t S) with ⟨hq, e⟩ | ⟨hq, e⟩ | ⟨hq, e⟩ | ⟨hq, e⟩ | ⟨hq, e⟩ | ⟨hq, e⟩ | ⟨hq, e⟩ <;> rw [e]
    · rw [if_neg (fun z => by omega)] at h
      exact ap_len hn t h
    · rw [or_newA_len, hm]
      by_cases hc : oCnt t = a
      · rw [if_pos ⟨by omega, hc⟩] at h
        rw [if_pos (by omega)]
        exact Option.some.inj h
      · rw [if_neg (fun z => hc z.2)] at h
        rw [if_neg (by omega)]
        exact ap_len hn t h
    all_goals
      rw [if_neg (fun z => by omega)] at h
      exact ap_len hn t h
theorem ap_I (hn : S.n = b) {F a : Nat} {v : Int} : ∀ l : List oOp, oRI l F a = some v → (ap b l S).I F (b + a) = Int32.ofInt v
  | [], h => by cases h
  | q :: t, h => by
    have hm := ap_n hn t
    simp only [oRI] at h
    simp only [ap]
    rcases ap1_cases (b := b) q (ap b t S) with ⟨hq, e⟩ | ⟨hq, e⟩ | ⟨hq, e⟩ | ⟨hq, e⟩ | ⟨hq, e⟩ | ⟨hq, e⟩ | ⟨hq, e⟩ <;> rw [e]
    · rw [if_neg (fun z => by omega)] at h
      rw [or_newO_I, hm]
      by_cases hc : oCnt t = a
      · rw [if_pos ⟨hq, hc⟩] at h
        rw [if_pos (by omega), ← Option.some.inj h]
        rfl
      · rw [if_neg (fun z => hc z.2)] at h
        rw [if_neg (by omega)]
        exact ap_I hn t h
    · rw [if_neg (fun z => by omega), if_neg (fun z => by omega)] at h
      exact ap_I hn t h
    · rw [or_sI_I]
      by_cases hc : q.2.1 = F ∧ q.2.2.1 = a
      · rw [if_pos ⟨hq, hc⟩] at h
        rw [if_pos ⟨hc.1.symm, by omega⟩, ← Option.some.inj h]
      · rw [if_neg (fun z => hc z.2), if_neg (fun z => by omega)] at h
        rw [if_neg (fun z => hc ⟨z.1.symm, by omega⟩)]
        exact ap_I hn t h
    all_goals
      rw [if_neg (fun z => by omega), if_neg (fun z => by omega)] at h
      exact ap_I hn t h
theorem ap_R (hn : S.n = b) (hb : 0 < b) {F a v : Nat} : ∀ l : List oOp, oRR l F a = some v → (ap b l S).R F (b + a) = oVal b (S.R 142 0) v
  | [], h => by cases h
  | q :: t, h => by
    have hm := ap_n hn t
    simp only [oRR] at h
    simp only [ap]
    rcases ap1_cases (b := b) q (ap b t S) with ⟨hq, e⟩ | ⟨hq, e⟩ | ⟨hq, e⟩ | ⟨hq, e⟩ | ⟨hq, e⟩ | ⟨hq, e⟩ | ⟨hq, e⟩ <;> rw [e]
    · rw [if_neg (fun z => by omega), if_neg (fun z => by omega)] at h
      rw [or_newO_R, hm]
      by_cases hc : oCnt t = a
      · rw [if_pos ⟨hq, hc⟩] at h
        rw [if_pos (by omega), ← Option.some.inj h]
        rfl
      · rw [if_neg (fun z => hc z.2)] at h
        rw [if_neg (by omega)]
        exact ap_R hn hb t h
    · rw [if_neg (fun z => by omega), if_neg (fun z => by omega), if_neg (fun z => by omega)] at h
      exact ap_R hn hb t h
    · rw [if_neg (fun z => by omega), if_neg (fun z => by omega), if_neg (fun z => by omega)] at h
      exact ap_R hn hb t h
    · rw [or_sR_R]
      by_cases hc : q.2.1 = F ∧ q.2.2.1 = a
      · rw [if_pos ⟨hq, hc⟩] at h
        rw [if_pos ⟨hc.1.symm, by omega⟩, ← Option.some.inj h]
        rfl
      · rw [if_neg (fun z => hc z.2), if_neg (fun z => by omega), if_neg (fun z => by omega)] at h
        rw [if_neg (fun z => hc ⟨z.1.symm, by omega⟩)]
        exact ap_R hn hb t h
    · rw [if_neg (fun z => by omega), if_neg (fun z => by omega), if_neg (fun z => by omega)] at h
      exact ap_R hn hb t h
    · rw [if_neg (fun z => by omega), if_neg (fun z => by omega), if_neg (fun z => by omega)] at h
      exact ap_R hn hb t h
    · rw [or_sR_R]
      rw [if_neg (fun z => by omega)] at h
      by_cases hc : q.2.1 = F ∧ q.2.2.1 = a
      · rw [if_pos ⟨hq, hc⟩] at h
        rw [if_pos ⟨hc.1.symm, by omega⟩, ← Option.some.inj h, (ap_lo hn hb t).2.2.2.1]
        rfl
      · rw [if_neg (fun z => hc z.2), if_neg (fun z => by omega)] at h
        rw [if_neg (fun z => hc ⟨z.1.symm, by omega⟩)]
        exact ap_R hn hb t h
theorem ap_w (hn : S.n = b) {a i v : Nat} (e0 : Nat) : ∀ l : List oOp, oRw l a i = some v → v ≠ 1 → (ap b l S).rR (b + a) i = oVal b e0 v
  | [], h, _ => by cases h
  | q :: t, h, hv => by
    have hm := ap_n hn t
    simp only [oRw] at h
    simp only [ap]
    rcases ap1_cases (b := b) q (ap b t S) with ⟨hq, e⟩ | ⟨hq, e⟩ | ⟨hq, e⟩ | ⟨hq, e⟩ | ⟨hq, e⟩ | ⟨hq, e⟩ | ⟨hq, e⟩ <;> rw [e]
    · rw [if_neg (fun z => by omega), if_neg (fun z => by omega)] at h
      exact ap_w hn e0 t h hv
    · rw [if_neg (fun z => by omega)] at h
      rw [or_newA_rR, hm]
      by_cases hc : oCnt t = a
      · rw [if_pos ⟨hq, hc⟩] at h
        rw [if_pos (by omega), ← Option.some.inj h]
        rfl
      · rw [if_neg (fun z => hc z.2)] at h
        rw [if_neg (by omega)]
        exact ap_w hn e0 t h hv
    · rw [if_neg (fun z => by omega), if_neg (fun z => by omega)] at h
      exact ap_w hn e0 t h hv
    · rw [if_neg (fun z => by omega), if_neg (fun z => by omega)] at h
      exact ap_w hn e0 t h hv
    · rw [or_wR_rR]
      by_cases hc : q.2.1 = a ∧ q.2.2.1 = i
      · rw [if_pos ⟨hq, hc⟩] at h
        rw [if_pos ⟨by omega, hc.2.symm⟩, ← Option.some.inj h]
        rfl
      · rw [if_neg (fun z => hc z.2), if_neg (fun z => by omega)] at h
        rw [if_neg (fun z => hc ⟨by omega, z.2.symm⟩)]
        exact ap_w hn e0 t h hv
    all_goals
      rw [if_neg (fun z => by omega), if_neg (fun z => by omega)] at h
      exact ap_w hn e0 t h hv
theorem ap_i (hn : S.n = b) {a i : Nat} {v : Int} : ∀ l : List oOp, oRi l a i = some v → (ap b l S).rI (b + a) i = Int32.ofInt v
  | [], h => by cases h
  | q :: t, h => by
    have hm := ap_n hn t
    simp only [oRi] at h
    simp only [ap]
    rcases ap1_cases (b := b) q (ap b t S) with ⟨hq, e⟩ | ⟨hq, e⟩ | ⟨hq, e⟩ | ⟨hq, e⟩ | ⟨hq, e⟩ | ⟨hq, e⟩ | ⟨hq, e⟩ <;> rw [e]
    · rw [if_neg (fun z => by omega), if_neg (fun z => by omega)] at h
      exact ap_i hn t h
    · rw [if_neg (fun z => by omega)] at h
      rw [or_newA_rI, hm]
      by_cases hc : oCnt t = a
      · rw [if_pos ⟨hq, hc⟩] at h
        rw [if_pos (by omega), ← Option.some.inj h]
        rfl
      · rw [if_neg (fun z => hc z.2)] at h
        rw [if_neg (by omega)]
        exact ap_i hn t h
    · rw [if_neg (fun z => by omega), if_neg (fun z => by omega)] at h
      exact ap_i hn t h
    · rw [if_neg (fun z => by omega), if_neg (fun z => by omega)] at h
      exact ap_i hn t h
    · rw [if_neg (fun z => by omega), if_neg (fun z => by omega)] at h
      exact ap_i hn t h
    · rw [or_wI_rI]
      by_cases hc : q.2.1 = a ∧ q.2.2.1 = i
      · rw [if_pos ⟨hq, hc⟩] at h
        rw [if_pos ⟨by omega, hc.2.symm⟩, ← Option.some.inj h]
      · rw [if_neg (fun z => hc z.2), if_neg (fun z => by omega)] at h
        rw [if_neg (fun z => hc ⟨by omega, z.2.symm⟩)]
        exact ap_i hn t h
    all_goals
      rw [if_neg (fun z => by omega), if_neg (fun z => by omega)] at h
      exact ap_i hn t h
theorem ap_has (hn : S.n = b) {a v F : Nat} {l : List oOp} (h : oRK l a = some v) (h2 : ox_has v F = true) : ox_has ((ap b l S).K (b + a)) F = true := by
  rw [ap_K hn l h]; exact h2
theorem ap_ne (hn : S.n = b) (hb : 0 < b) {l : List oOp} : (ap b l S).n ≠ 0 := by
  rw [ap_n hn l]; omega
theorem ap_rd (hn : S.n = b) {a v : Nat} {l : List oOp} (h : oRK l a = some v) (h2 : ox_rdR v = true) : ox_rdR ((ap b l S).K (b + a)) = true := by
  rw [ap_K hn l h]; exact h2
theorem ap_in (hn : S.n = b) {a v : Nat} {l : List oOp} {i : Int32} (h : oRL l a = some v) (h2 : decide (i < 0 ∨ v ≤ i.toNatClampNeg) = false) : vp_in i ((ap b l S).len (b + a)) := by
  rw [ap_len hn l h]; exact of_decide_eq_false h2
theorem ap_asg (hn : S.n = b) {a a2 v v2 : Nat} {l : List oOp} (h : oRK l a = some v) (h2 : oRK l a2 = some v2) (h3 : ox_asg v v2 = true) : b + a2 = 0 ∨ ox_asg ((ap b l S).K (b + a)) ((ap b l S).K (b + a2)) = true := by
  rw [ap_K hn l h, ap_K hn l h2]; exact Or.inr h3
end OPS
theorem ap_nz {S : ox_St} (hb : 0 < S.n) (k : Nat) : S.n + k ≠ 0 := by omega
