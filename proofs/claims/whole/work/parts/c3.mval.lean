/-! the reference: kinds of values, numbers, new objects -/
theorem xSz_2 (o : xOb) : 2 ≤ xSz o := by
  match o with
  | .inl N => show 2 ≤ 3 + _; omega
  | .inr (.inl q) => show 2 ≤ 3 + _; omega
  | .inr (.inr (.inl q)) => exact Nat.le_of_ble_eq_true rfl
  | .inr (.inr (.inr (.inl q))) => exact Nat.le_of_ble_eq_true rfl
  | .inr (.inr (.inr (.inr c))) => exact Nat.le_of_ble_eq_true rfl
section RVl
variable {sp : ox_E} {d mr sr : Nat} {S S' : ox_St} {Q : ox_Q} {m ce a : Nat} {γ : Int → Nat} {B : List Int} {T : Nat} {C : Nat → xCd} {nc K y : Nat} {e : xEn} {q : Nat} {st r : List Int} {v u n : Int} {H : xHp} {o : xOb}
theorem rHp.cell (h : rHp S a γ B H T) (hB : xIn B v) (h16 : 16 ≤ v) : ∃ o, H v = some o ∧ rO S a γ v o ∧ γ v + xSz o ≤ T ∧ T ≤ 1100000 := by
  rcases hB with z | z
  · omega
  · obtain ⟨o, e, -⟩ := h.1.2 v z
    obtain ⟨-, h2, h3⟩ := h.2.1 v z o e
    exact ⟨o, e, h2, h3, h.2.2.2.2⟩
theorem rO.tag (h : rO S a γ v o) (h16 : 16 ≤ v) (e : H v = some o) : S.rI a (γ v) = Int32.ofInt (xTg H v) := by
  unfold xTg
  rw [if_neg (by omega), if_neg (by omega), if_neg (by omega), if_neg (by omega), e]
  obtain ⟨h1, h2⟩ := h
  match o, h2 with
  | .inl N, ⟨f, n, neg, ⟨m1, m2, m3⟩, _⟩ =>
    rcases m3 with z | z
    · omega
    · exact z.2.2.1
  | .inr (.inl q), h2 => exact h2.1
  | .inr (.inr (.inl q)), h2 => exact h2.1
  | .inr (.inr (.inr (.inl q))), h2 => exact h2.1
  | .inr (.inr (.inr (.inr c))), h2 => exact h2.1
theorem ofI_lt {v k : Int} (h1 : -1000 ≤ v) (h2 : v < k) (hk : k ≤ 1000) : Int32.ofInt v < Int32.ofInt k := by
  rw [Int32.lt_iff_toInt_lt, Int32.toInt_ofInt_of_le (by omega) (by omega), Int32.toInt_ofInt_of_le (by omega) (by omega)]
  exact h2
theorem ofI_eq {v k : Int} (h1 : -1000 ≤ v) (h2 : v ≤ 1000) (h3 : -1000 ≤ k) (h4 : k ≤ 1000) : Int32.ofInt v = Int32.ofInt k ↔ v = k := by
  constructor
  · intro e
    have := congrArg Int32.toInt e
    rw [Int32.toInt_ofInt_of_le (by omega) (by omega), Int32.toInt_ofInt_of_le (by omega) (by omega)] at this
    exact this
  · intro e; rw [e]
/-- sortOf -/
theorem rE.sort (h : rE S m ce γ B T C nc y e q st) (hx : xEs1 C nc K e st) (ok : xOk nc e.H v) (hB : xIn B v) : (¬ gV γ v < 16 → vp_in (gV γ v) 1100000) ∧ mSort S m ce (gV γ v) = if v < 16 then -1 else Int32.ofInt (xTg e.H v) := by
  have hH := hx.1.1
  have nc3 : nc ≤ 300 := h.2.2.1.1
  unfold mSort gV
  by_cases z : v < 16
  · have lo : -300 ≤ v := by
      rcases ok with w | w
      · omega
      · cases e1 : e.H v with
        | none => exact absurd e1 w
        | some o => have := (hH.2 v o e1).1; omega
    have lt : Int32.ofInt v < 16 := ofI_lt (k := 16) (by omega) z (by omega)
    rw [if_pos z, if_pos lt, if_pos z]
    exact ⟨fun w => absurd lt w, rfl⟩
  · obtain ⟨o, e1, h1, h2, h3⟩ := h.2.1.1.cell hB (by omega)
    have sz := xSz_2 o
    have g16 := h1.1
    have nlt : ¬ nI (γ v) < 16 := fun w => by have := (nI_ltI (b := 16) (by omega) (by decide)).mp w; omega
    rw [if_neg z, if_neg nlt, if_neg z, nI_clamp (by omega)]
    exact ⟨fun _ => vp_in_nI (by omega) (by decide), h1.tag (by omega) e1⟩
theorem r_133 (hsp : ox_mono sp) (h : rE S m ce γ B T C nc y e q st) (hx : xEs1 C nc K e st) (ok : xOk nc e.H v) (hB : xIn B v) (hQ : Q (some (.inl (if v < 16 then -1 else Int32.ofInt (xTg e.H v)))) S) : ox_M sp (d + 1) 133 [.inr (.inr m), .inl (gV γ v)] mr sr S Q := by
  obtain ⟨h1, h2⟩ := h.sort hx ok hB
  exact s_133 hsp h.ml h1 (by rw [h2]; exact hQ)
/-- a number's digits -/
theorem rE.num (h : rE S m ce γ B T C nc y e q st) (hx : xEs1 C nc K e st) (hB : xIn B v) {N : Int} (hN : xNum e.H v = some N) : ∃ u f n neg, gV γ v = nI u ∧ mNum S (m + ce) u f n neg ∧ dc f n ∧ (n = 0 → neg = 0) ∧ nv f n neg = N := by
  unfold xNum at hN
  by_cases v1 : v = 1
  · rw [if_pos v1] at hN
    cases hN
    refine ⟨1, fun _ => 0, 0, 0, ?_, ⟨fun i hi => absurd hi (Nat.not_lt_zero _), by omega, Or.inl ⟨by omega, rfl, Or.inl ⟨rfl, rfl⟩⟩⟩, ⟨fun i hi => absurd hi (Nat.not_lt_zero _), fun z => absurd z (Nat.lt_irrefl _)⟩, fun _ => rfl, rfl⟩
    rw [v1]; rfl
  by_cases v2 : v = 2
  · rw [if_neg v1, if_pos v2] at hN
    cases hN
    refine ⟨2, fun _ => 1, 1, 0, ?_, ⟨fun i _ => (show (1 : Nat) < 32768 by decide), by omega, Or.inl ⟨by omega, rfl, Or.inr ⟨rfl, rfl, rfl⟩⟩⟩, ⟨fun i _ => (show (1 : Nat) < 32768 by decide), fun _ => (show (1 : Nat) ≠ 0 by decide)⟩, fun _ => rfl, rfl⟩
    rw [v2]; rfl
  rw [if_neg v1, if_neg v2] at hN
  cases e1 : e.H v with
  | none => rw [e1] at hN; cases hN
  | some o =>
    rw [e1] at hN
    match o, hN, e1 with
    | .inl M, hN, e1 =>
      have hM : M = N := Option.some.inj hN
      subst hM
      have h16 := (hx.1.1.2 v _ e1).1
      obtain ⟨o, e2, ⟨h1, h2⟩, -⟩ := h.2.1.1.cell hB h16
      have e2' : e.H v = some o := e2
      rw [e1] at e2'
      cases e2'
      obtain ⟨f, n, neg, g1, g2, g3, g4, -⟩ := h2
      exact ⟨γ v, f, n, neg, if_neg (by omega), g1, g2, g3, g4⟩
    | .inr o, hN, e1 => cases hN
/-- isNumber -/
theorem r_135 (hsp : ox_mono sp) (h : rE S m ce γ B T C nc y e q st) (hx : xEs1 C nc K e st) (ok : xOk nc e.H v) (hB : xIn B v) (hQ : Q (some (.inl (if xNum e.H v = none then 0 else 1))) S) : ox_M sp (d + 2) 135 [.inr (.inr m), .inl (gV γ v)] mr sr S Q := by
  have hE : ox_mono (ox_M sp (d + 1)) := ox_M_mono hsp _
  have hH := hx.1.1
  have nc3 : nc ≤ 300 := h.2.2.1.1
  have k14 := h.k
  have h12 : ∀ k : Int, 0 ≤ k → k < 16 → (gV γ v = Int32.ofInt k ↔ v = k) := fun k k0 k1 => by
    by_cases z : v < 16
    · have lo : -300 ≤ v := by
        rcases ok with w | w
        · omega
        · cases e1 : e.H v with
          | none => exact absurd e1 w
          | some o => have := (hH.2 v o e1).1; omega
      unfold gV
      rw [if_pos z]
      exact ofI_eq (by omega) (by omega) (by omega) (by omega)
    · obtain ⟨o, e1, h1, h2, h3⟩ := h.2.1.1.cell hB (by omega)
      have g16 := h1.1
      have sz := xSz_2 o
      refine ⟨fun w => ?_, fun w => by omega⟩
      unfold gV at w
      rw [if_neg z] at w
      have := congrArg Int32.toInt w
      rw [nI_toInt (by omega), Int32.toInt_ofInt_of_le (by omega) (by omega)] at this
      omega
  refine f_135 hsp ⟨fun z => ⟨Or.inr rfl, ?_⟩, fun z1 => ⟨fun z => ⟨Or.inr rfl, ?_⟩, fun z2 => ⟨by decide, k14, by decide, 0, 0, Nat.zero_le _, Nat.zero_le _, r_133 hsp h hx ok hB (f_135_15 hE ?_)⟩⟩⟩
  · have v1 := (h12 1 (by decide) (by decide)).mp z
    rw [if_neg (by unfold xNum; rw [if_pos v1]; exact fun w => by cases w)] at hQ
    exact hQ
  · have v2 := (h12 2 (by decide) (by decide)).mp z
    rw [if_neg (by unfold xNum; rw [if_neg (by omega), if_pos v2]; exact fun w => by cases w)] at hQ
    exact hQ
  · have n1 : ¬ v = 1 := fun w => z1 ((h12 1 (by decide) (by decide)).mpr w)
    have n2 : ¬ v = 2 := fun w => z2 ((h12 2 (by decide) (by decide)).mpr w)
    have en : xNum e.H v = (match e.H v with
      | some (.inl n) => some n
      | _ => none) := by unfold xNum; rw [if_neg n1, if_neg n2]; rfl
    by_cases z : v < 16
    · have e0 : e.H v = none := by
        cases e1 : e.H v with
        | none => rfl
        | some o => have := (hH.2 v o e1).1; omega
      rw [e0] at en
      rw [if_pos en] at hQ
      rw [if_pos z]
      exact ⟨fun _ => ⟨Or.inl rfl, hQ⟩, fun w => absurd w (by decide)⟩
    · obtain ⟨o, e1, h1, h2, h3⟩ := h.2.1.1.cell hB (by omega)
      have e1' : e.H v = some o := e1
      have tg : xTg e.H v = 3 ↔ ∃ N, o = .inl N := by
        unfold xTg
        rw [if_neg (by omega), if_neg (by omega), if_neg (by omega), if_neg (by omega), e1']
        match o with
        | .inl N => exact ⟨fun _ => ⟨N, rfl⟩, fun _ => rfl⟩
        | .inr (.inl _) => exact ⟨fun w => absurd (show (4 : Int) = 3 from w) (by decide), fun ⟨_, w⟩ => by cases w⟩
        | .inr (.inr (.inl _)) => exact ⟨fun w => absurd (show (5 : Int) = 3 from w) (by decide), fun ⟨_, w⟩ => by cases w⟩
        | .inr (.inr (.inr (.inl _))) => exact ⟨fun w => absurd (show (6 : Int) = 3 from w) (by decide), fun ⟨_, w⟩ => by cases w⟩
        | .inr (.inr (.inr (.inr _))) => exact ⟨fun w => absurd (show (7 : Int) = 3 from w) (by decide), fun ⟨_, w⟩ => by cases w⟩
      have tr : 0 ≤ xTg e.H v ∧ xTg e.H v ≤ 10 := by
        unfold xTg
        repeat' split
        all_goals omega
      rw [if_neg z]
      refine ⟨fun w => ⟨Or.inl rfl, ?_⟩, fun w => ⟨Or.inr rfl, ?_⟩⟩
      · have no : ¬ ∃ N, o = .inl N := fun q => w (by rw [tg.mpr q]; rfl)
        have : xNum e.H v = none := by
          rw [en, e1']
          match o, no with
          | .inl N, no => exact absurd ⟨N, rfl⟩ no
          | .inr _, _ => rfl
        rw [if_pos this] at hQ
        exact hQ
      · have t3 : xTg e.H v = 3 := (ofI_eq (k := 3) (by omega) (by omega) (by decide) (by decide)).mp w
        obtain ⟨N, rfl⟩ := tg.mp t3
        have : xNum e.H v = some N := by rw [en, e1']
        rw [if_neg (by rw [this]; exact fun w => by cases w)] at hQ
        exact hQ
end RVl
