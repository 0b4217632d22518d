/-! the reference: isFalse -/
def xTo (o : xOb) : Int := match o with
  | .inl _ => 3
  | .inr (.inl _) => 4
  | .inr (.inr (.inl _)) => 5
  | .inr (.inr (.inr (.inl _))) => 6
  | .inr (.inr (.inr (.inr _))) => 7
def xNo (o : xOb) : Option Int := match o with
  | .inl n => some n
  | .inr _ => none
theorem xTg_o {H : xHp} {v : Int} {o : xOb} (h16 : 16 ≤ v) (e1 : H v = some o) : xTg H v = xTo o := by
  unfold xTg
  rw [if_neg (by omega), if_neg (by omega), if_neg (by omega), if_neg (by omega), e1]
  match o with
  | .inl _ => rfl
  | .inr (.inl _) => rfl
  | .inr (.inr (.inl _)) => rfl
  | .inr (.inr (.inr (.inl _))) => rfl
  | .inr (.inr (.inr (.inr _))) => rfl
theorem xNum_o {H : xHp} {v : Int} {o : xOb} (h16 : 16 ≤ v) (e1 : H v = some o) : xNum H v = xNo o := by
  unfold xNum
  rw [if_neg (by omega), if_neg (by omega), e1]
  match o with
  | .inl _ => rfl
  | .inr _ => rfl
section RFa
variable {sp : ox_E} {d mr sr : Nat} {S S' S2 : ox_St} {Q : ox_Q} {m ce a : Nat} {γ : Int → Nat} {B : List Int} {T : Nat} {C : Nat → xCd} {nc K y : Nat} {e : xEn} {q j i : Nat} {st r : List Int} {v u n : Int} {H : xHp} {o : xOb}
theorem rE.lo (h : rE S m ce γ B T C nc y e q st) (hx : xEs1 C nc K e st) (ok : xOk nc e.H v) (z : v < 16) : -300 ≤ v ∧ e.H v = none ∧ gV γ v = Int32.ofInt v := by
  have nc3 : nc ≤ 300 := h.2.2.1.1
  have e0 : e.H v = none := by
    cases e1 : e.H v with
    | none => rfl
    | some o => have := (hx.1.1.2 v o e1).1; omega
  refine ⟨?_, e0, if_pos z⟩
  rcases ok with w | w
  · omega
  · exact absurd e0 w
theorem rE.hi (h : rE S m ce γ B T C nc y e q st) (hB : xIn B v) (z : ¬ v < 16) : ∃ o, e.H v = some o ∧ rO S (m + ce) γ v o ∧ γ v + xSz o ≤ 1100000 ∧ gV γ v = nI (γ v) := by
  obtain ⟨o, e1, h1, h2, h3⟩ := h.2.1.1.cell hB (by omega)
  exact ⟨o, e1, h1, by omega, if_neg z⟩
/-- isFalse -/
theorem r_181 (hsp : ox_mono sp) (h : rE S m ce γ B T C nc y e q st) (hx : xEs1 C nc K e st) (ok : xOk nc e.H v) (hB : xIn B v) (hQ : Q (some (.inl (if xFalse e.H v = true then 1 else 0))) S) : ox_M sp (d + 3) 181 [.inr (.inr m), .inl (gV γ v)] mr sr S Q := by
  have hE : ox_mono (ox_M sp (d + 2)) := ox_M_mono hsp _
  have k14 := h.k
  obtain ⟨c1, c2, c3⟩ := h.ml.cells
  have b1 : xFalse e.H v = true → Q (some (.inl (1 : Int32))) S := fun z => by rw [if_pos z] at hQ; exact hQ
  have b0 : ¬ xFalse e.H v = true → Q (some (.inl (0 : Int32))) S := fun z => by rw [if_neg z] at hQ; exact hQ
  by_cases z : v < 16
  · obtain ⟨lo, e0, eg⟩ := h.lo hx ok z
    have iff : xFalse e.H v = true ↔ v = 0 ∨ v = 1 := by
      unfold xFalse xLen xNum
      rw [e0]
      by_cases v1 : v = 1
      · subst v1; exact ⟨fun _ => Or.inr rfl, fun _ => rfl⟩
      · by_cases v2 : v = 2
        · subst v2; exact ⟨fun w => absurd w (by decide), fun w => by omega⟩
        · rw [if_neg v1, if_neg v2]
          by_cases v3 : v = 0
          · subst v3; exact ⟨fun _ => Or.inl rfl, fun _ => rfl⟩
          · have nb : (v == 0) = false := by rw [beq_eq_false_iff_ne]; exact v3
            rw [nb]
            exact ⟨fun w => absurd w (by decide), fun w => by omega⟩
    have lt : Int32.ofInt v < 16 := ofI_lt (k := 16) (by omega) z (by omega)
    rw [eg]
    refine f_181 hsp ⟨fun w => ?_, fun _ => ⟨fun w => ⟨Or.inr rfl, b1 ?_⟩, fun w => ⟨fun w1 => ⟨Or.inl rfl, b0 ?_⟩, fun w1 => ⟨Or.inr rfl, b1 ?_⟩⟩⟩⟩
    · exfalso
      rw [Int32.lt_iff_toInt_lt] at lt
      rw [Int32.le_iff_toInt_le] at w
      omega
    · exact iff.mpr (Or.inl ((ofI_eq (k := 0) (by omega) (by omega) (by decide) (by decide)).mp w))
    · intro g
      rcases iff.mp g with g | g
      · exact w (by rw [g]; rfl)
      · exact w1 (by rw [g]; rfl)
    · exact iff.mpr (Or.inr ((ofI_eq (k := 1) (by omega) (by omega) (by decide) (by decide)).mp w1))
  · obtain ⟨o, e1, h1, h2, eg⟩ := h.hi hB z
    have g16 := h1.1
    have sz := xSz_2 o
    have ge : (16 : Int32) ≤ nI (γ v) := nI_le (a := 16) g16 (by omega)
    have tg := h1.tag (H := e.H) (by omega) e1
    have n2 : nI (γ v) + 2 = nI (γ v + 2) := nI_add (γ v) 2
    have nb : (v == 0) = false := by rw [beq_eq_false_iff_ne]; omega
    have fal : xFalse e.H v = (xNum e.H v == some 0 || xLen e.H v == some 0) := by unfold xFalse; rw [nb]; rfl
    have xn : xNum e.H v = xNo o := xNum_o (by omega) e1
    rw [eg]
    refine f_181 hsp ⟨fun _ => ⟨by rw [k14]; rfl, by rw [c1, c2]; rfl, by rw [c1, c3]; exact vp_in_nI (by omega) (by decide), ?_⟩, fun w => absurd ge w⟩
    rw [c1, c2, c3, k14, n2, nI_clamp (show γ v < 2 ^ 31 by omega), nI_clamp (show γ v + 2 < 2 ^ 31 by omega), tg]
    intro w1
    have ew : w1 = Int32.ofInt (xTg e.H v) := rfl
    clear_value w1
    obtain ⟨-, h1'⟩ := h1
    have et : xTg e.H v = xTo o := xTg_o (by omega) e1
    rw [et] at ew
    match o, h1', e1, h2, xn, ew with
    | .inl N, ⟨f, n, neg, m1, m2, m3, m4, m5⟩, e1, h2, xn, ew =>
      have ew' : w1 = Int32.ofInt 3 := ew
      subst ew'
      have sz3 : xSz (.inl N) = 3 + n := by show 3 + dl 16 N.natAbs = _; rw [m5]
      have cn : S.rI (m + ce) (γ v + 2) = nI n := by
        rcases m1.2.2 with w | w
        · omega
        · exact w.2.2.2.2.2.1
      have iff : xFalse e.H v = true ↔ n = 0 := by
        rw [fal, xn]
        unfold xLen xNo
        rw [e1]
        have : N = 0 ↔ n = 0 := by
          have na := nv_abs m4
          constructor
          · intro w
            refine Nat.eq_zero_of_not_pos fun p => ?_
            have lo := dc_low m2 p
            have p0 : 0 < 32768 ^ (n - 1) := Nat.pow_pos (by decide)
            rw [w] at na
            have : dv f n = 0 := na.symm
            omega
          · intro w
            subst w
            have : dv f 0 = 0 := rfl
            omega
        rw [← this]
        simp
      have n16 := m1.2.1
      refine ⟨fun _ => ⟨rfl, rfl, vp_in_nI (by omega) (by decide), fun w => ⟨Or.inl rfl, b0 (fun g => w (by rw [cn, iff.mp g]; rfl))⟩, fun w => ⟨Or.inr rfl, b1 (iff.mpr ((nI_eq (b := 0) (by omega) (by decide)).mp (cn.symm.trans w)))⟩⟩, fun w => absurd rfl w⟩
    | .inr (.inl p), ⟨m1, m2, m3, m4⟩, e1, h2, xn, ew =>
      have ew' : w1 = Int32.ofInt 4 := ew
      subst ew'
      have sz3 : xSz (.inr (.inl p)) = 3 + p.1.length := rfl
      have iff : xFalse e.H v = true ↔ p.1.length = 0 := by
        rw [fal, xn]
        unfold xLen xNo
        rw [e1]
        simp
      refine ⟨fun w => absurd w (by decide), fun _ => ⟨fun w => absurd rfl w, fun _ => ⟨rfl, rfl, vp_in_nI (by omega) (by decide), fun w => ⟨Or.inl rfl, b0 (fun g => w (by rw [m3, iff.mp g]; rfl))⟩, fun w => ⟨Or.inr rfl, b1 (iff.mpr ((nI_eq (b := 0) (by omega) (by decide)).mp (m3.symm.trans w)))⟩⟩⟩⟩
    | .inr (.inr (.inl p)), ⟨m1, m2, m3, m4⟩, e1, h2, xn, ew =>
      have ew' : w1 = Int32.ofInt 5 := ew
      subst ew'
      have sz3 : xSz (.inr (.inr (.inl p))) = 4 := rfl
      have iff : xFalse e.H v = true ↔ rgN p.1 p.2.1 p.2.2 = 0 := by
        rw [fal, xn]
        unfold xLen xNo
        rw [e1]
        simp
      have ob := (hx.1.1.2 v _ e1).2.2
      obtain ⟨q1, q2, q3, q4⟩ := ob
      have le := rgN_le (u := p.1) (v := p.2.1) (w := p.2.2) (by rw [← m2]; have := i_bd (S.rI (m + ce) (γ v + 1)); omega) (by rw [← m3]; have := i_bd (S.rI (m + ce) (γ v + 2)); omega) q4
      refine ⟨fun w => absurd w (by decide), fun _ => ⟨fun _ => ⟨fun w => absurd rfl w, fun _ => ⟨by decide, rfl, by decide, 0, 0, Nat.zero_le _, Nat.zero_le _, s_180 hsp h.ml (by omega) m2 m3 m4 q4 (f_181_67 hE ⟨fun w => ⟨Or.inl rfl, b0 (fun g => w ((lg_cmp_eq _ _).mpr (by rw [iff.mp g]; rfl)))⟩, fun w => ⟨Or.inr rfl, b1 (iff.mpr ?_)⟩⟩)⟩⟩, fun w => absurd w (by decide)⟩⟩
      have w' : lN (rgN p.1 p.2.1 p.2.2) = lN 0 := (lg_cmp_eq _ _).mp w
      exact (pk_lEQ (by omega) (by omega)).mp w'
    | .inr (.inr (.inr (.inl p))), _, e1, h2, xn, ew =>
      have ew' : w1 = Int32.ofInt 6 := ew
      subst ew'
      have no : ¬ xFalse e.H v = true := by
        rw [fal, xn]
        unfold xLen xNo
        rw [e1]
        simp
      exact ⟨fun w => absurd w (by decide), fun _ => ⟨fun _ => ⟨fun _ => ⟨Or.inl rfl, b0 no⟩, fun w => absurd w (by decide)⟩, fun w => absurd w (by decide)⟩⟩
    | .inr (.inr (.inr (.inr p))), _, e1, h2, xn, ew =>
      have ew' : w1 = Int32.ofInt 7 := ew
      subst ew'
      have no : ¬ xFalse e.H v = true := by
        rw [fal, xn]
        unfold xLen xNo
        rw [e1]
        simp
      exact ⟨fun w => absurd w (by decide), fun _ => ⟨fun _ => ⟨fun _ => ⟨Or.inl rfl, b0 no⟩, fun w => absurd w (by decide)⟩, fun w => absurd w (by decide)⟩⟩
end RFa
