/-! the reference reads: read -/
section R3
variable {sp : ox_E} {d mr sr : Nat} {Q : ox_Q} {S S0 U V W : ox_St} {m ce e K : Nat} {b : Nat → Nat} {γ : Int → Nat} {B : List Int} {T : Nat} {C : Nat → xCd} {nc y Bn Kn Wn : Nat} {s : xSt}
/-- the fields as reading begins -/
def rdF (U : ox_St) (m e : Nat) (b : Nat → Nat) : Prop := (U.I 121 m = nI e ∧ U.I 120 m = nI 0 ∧ U.I 132 m = 0 ∧ U.I 122 m = nI 0 ∧ U.I 123 m = nI 0 ∧ U.I 124 m = nI 0 ∧ U.I 72 m = 0 ∧ U.I 70 m = -1) ∧ e ≤ 800 ∧ ∀ j, j < e → U.rI (m + 1) j = nI (b j) ∧ b j < 256
def pH0 (s : xSt) (C : Nat → xCd) (nc : Nat) : pH := (s.H, s.n, C, nc, [])
theorem r161_62 (hsp : ox_mono sp) (hb : rR U m ce γ B T C nc y s) (hw : xWf C nc K s) (hn : rCn U m γ C nc Bn Kn Wn) (ou : mOu m S0 U) (t96 : U.I 96 m = S0.I 96 m) (hf : rdF U m e b) (l1 : 9 * nc + e ≤ 2600) (l2 : Bn + e ≤ 2090) (l3 : Kn + e ≤ 2090) (l4 : Wn + e ≤ 2090) (l5 : T + 2 * e + 40 ≤ 1100000)
    (hA : ∀ v, (rdA b e (pH0 s C nc)).1.2 = some v → qA Q m S0 C nc y s Bn Kn Wn 1 (nI v))
    (hB : (rdA b e (pH0 s C nc)).1.2 = none → ∀ j, j < (rdA b e (pH0 s C nc)).2.1.l.length → (∀ a, a < j → ∃ T, okT ((rdA b e (pH0 s C nc)).2.1.C ((rdA b e (pH0 s C nc)).2.1.l.getD a 0)).1 T) → ¬ (∃ T, okT ((rdA b e (pH0 s C nc)).2.1.C ((rdA b e (pH0 s C nc)).2.1.l.getD j 0)).1 T) → qA Q m S0 C nc y s Bn Kn Wn 2 (nI (1000 * j)))
    (hG : (rdA b e (pH0 s C nc)).1.2 = none → (∀ c ∈ (rdA b e (pH0 s C nc)).2.1.l, ∃ T, okT ((rdA b e (pH0 s C nc)).2.1.C c).1 T) → qC Q m S0 nc s (rdA b e (pH0 s C nc)).2.1 e Bn Kn Wn) : k_161_62 (ox_M sp (d + 7)) m mr sr Q none U := by
  have hE : ox_mono (ox_M sp (d + 7)) := ox_M_mono hsp _
  have k14 : U.K m = 14 := hb.1.1
  obtain ⟨⟨i76, i86, i87, i88⟩, n1, n2⟩ := id hn
  obtain ⟨⟨f1, f2, f3, f4, f5, f6, f7, f70⟩, e8, fb⟩ := hf
  have hl := hw.fl
  have hby : ∀ j, j < e → b j < 256 := fun j hj => (fb j hj).2
  refine f_161_62 hE ?_
  unfold q_161_62
  rw [k14, i76, i86, i87, i88]
  refine ⟨rfl, ?_⟩
  intro w1
  have ew1 : w1 = nI nc := rfl
  clear_value w1
  subst ew1
  refine ⟨rfl, ?_⟩
  intro w2
  have ew2 : w2 = nI Bn := rfl
  clear_value w2
  subst ew2
  refine ⟨rfl, ?_⟩
  intro w3
  have ew3 : w3 = nI Kn := rfl
  clear_value w3
  subst ew3
  refine ⟨rfl, ?_⟩
  intro w4
  have ew4 : w4 = nI Wn := rfl
  clear_value w4
  subst ew4
  refine ⟨by decide, rfl, by decide, 0, 0, Nat.zero_le _, Nat.zero_le _, ?_⟩
  have lm : rLm (nc, Bn, Kn, Wn, T) e := ⟨l1, l2, l3, l4, l5⟩
  have g0 : rG (b, e, K, m, ce, U, γ, B, (nc, Bn, Kn, Wn, T)) U (0, none) γ B T (pH0 s C nc) [] Bn Kn Wn 0 := by
    refine ⟨⟨hb.1, f1, e8, fun _ => ⟨f2, f3, Nat.zero_le _, f70⟩, fun v hv => (by cases hv), fb⟩, kR.refl, ⟨hb.2.1.1, hb.2.1.2, hw.1⟩, ⟨⟨f4, Nat.zero_le _, trivial⟩, f5, trivial, fun v hv => (by cases hv)⟩, ⟨⟨i76, i86, i87, i88⟩, fun c hc _ => ⟨n1 c hc, hb.2.2.2.2.2.2.1.1 c hc⟩, fun r hr => (by cases hr), trivial⟩, ⟨f6, fun j hj => absurd hj (Nat.not_lt_zero _)⟩, ⟨fun c hc => (by cases hc), fun r hr => (by cases hr), Nat.le_refl _, fun j j1 j2 => absurd j1 (Nat.not_le_of_lt j2)⟩, fun v hv => ⟨rfl, hv⟩, ?_⟩
    exact ⟨⟨Nat.le_refl _, Nat.le_refl _⟩, ⟨Nat.le_refl _, Nat.le_refl _⟩, ⟨Nat.le_refl _, Nat.le_refl _⟩, ⟨Nat.le_refl _, Nat.le_refl _⟩, ⟨Nat.le_refl _, Nat.le_refl _⟩, Nat.le_refl _⟩
  have lp : rLp sp d (b, e, K, m, ce, U, γ, B, (nc, Bn, Kn, Wn, T)) (fun V => V.K m = 14 ∧ ∀ mr sr, k_161_88 (ox_M sp (d + 7)) m (nI nc) (nI Bn) (nI Kn) (nI Wn) mr sr Q none V) := fun V g ml z1 z2 z3 hc => by
    have hk : V.K m = 14 := ml.1
    have z1' : V.I 132 m = 0 := z1
    have z2' : V.I 122 m = nI (g + 1) := z2
    refine ⟨hk, fun mr sr => f_161_88 hE ⟨by rw [hk]; rfl, fun z => absurd z1' z, fun _ => ⟨by rw [hk]; rfl, fun z => ?_, fun _ => ⟨by decide, hk, by decide, 0, 0, Nat.zero_le _, Nat.zero_le _, hc 0 0 _ (fun V' hV' => f_161_107 hE (hV'.2 _ _))⟩⟩⟩⟩
    rw [z2'] at z
    have z' : nI (g + 1) ≤ nI 0 := z
    exact absurd z' (nI_ge (by omega) (by omega))
  refine r_160r (i := (b, e, K, m, ce, U, γ, B, (nc, Bn, Kn, Wn, T))) (LH := fun V => V.K m = 14 ∧ ∀ mr sr, k_161_88 (ox_M sp (d + 7)) m (nI nc) (nI Bn) (nI Kn) (nI Wn) mr sr Q none V) hsp lm (fun V hV => hV.1) lp g0 (fun v hv V hV => ?_) (fun z1 z2 V γ' B' T' Bn' Kn' Wn' gg => ?_) (fun V hV => hV.2 _ _)
  · obtain ⟨p, mt⟩ := hV.1
    have ev : (rdA b e (pH0 s C nc)).1.2 = some v := by
      unfold rdA
      rcases hv with y | ⟨y1, y2⟩
      · have y' : (bwS b e 99 99 (0, none)).2 = some v := y
        rw [if_neg (by rw [y']; exact fun w => by cases w)]
        exact y'
      · have y1' : (bwS b e 99 99 (0, none)).2 = none := y1
        have y2' : (rdC b e (rdO b e 4) (1, none) (pH0 s C nc)).1.2 = some v := y2
        rw [if_pos y1', if_neg (by rw [y2']; exact fun w => by cases w)]
        exact y2'
    exact ⟨mt.1.1, fun mr sr => r161_88f (i := (b, e, K, m, ce, U, γ, B, (nc, Bn, Kn, Wn, T))) hE mt.1.1 (mt.2.2.2.2.1 v rfl).1 (rF.end (i := (b, e, K, m, ce, U, γ, B, (nc, Bn, Kn, Wn, T))) (T0 := T) hb hn rfl rfl hl lm ou f7 t96 hV (hA v ev))⟩
  · have z1' : (bwS b e 99 99 (0, none)).2 = none := z1
    have z2' : (rdC b e (rdO b e 4) (1, none) (pH0 s C nc)).1.2 = none := z2
    have m2 := (bwS_none z1').2.1
    have m2' : 0 < e := m2.1
    obtain ⟨c1, c2, c3, c4, c5⟩ := rdC_G (K := K) hby (rdO_G hby 4 (by decide)) (1, none) (pH0 s C nc) rfl m2' hw.1 z2'
    have gg' : rG (b, e, K, m, ce, U, γ, B, (nc, Bn, Kn, Wn, T)) V (rdC b e (rdO b e 4) (1, none) (pH0 s C nc)).1 γ' B' T' (rdC b e (rdO b e 4) (1, none) (pH0 s C nc)).2.1 [] Bn' Kn' Wn' 1 := gg
    refine ⟨by show (V.sI 125 m _).K m = 14; rw [or_sI_K]; exact gg'.k, fun mr sr => ?_⟩
    show k_161_88 (ox_M sp (d + 7)) m (nI nc) (nI Bn) (nI Kn) (nI Wn) mr sr Q none (V.sI 125 m (gV γ' (rdC b e (rdO b e 4) (1, none) (pH0 s C nc)).2.2))
    have eA : rdA b e (pH0 s C nc) = if (rdC b e (rdO b e 4) (1, none) (pH0 s C nc)).1.1 < e then (rfS (rdC b e (rdO b e 4) (1, none) (pH0 s C nc)).1, (rdC b e (rdO b e 4) (1, none) (pH0 s C nc)).2) else rdC b e (rdO b e 4) (1, none) (pH0 s C nc) := by
      unfold rdA
      rw [if_pos z1', if_pos z2']
    rw [eA] at hA hB hG
    have c5' : (rdC b e (rdO b e 4) (1, none) (pH0 s C nc)).2.2 = -1 - (nc : Int) := c5
    rw [c5']
    have c6 := c1.2.2.2.2.2.1
    generalize rdC b e (rdO b e 4) (1, none) (pH0 s C nc) = R at z2' c6 gg' hA hB hG
    obtain ⟨⟨p, f⟩, h', v'⟩ := R
    have hf' : f = none := z2'
    subst hf'
    refine rG.end (i := (b, e, K, m, ce, U, γ, B, (nc, Bn, Kn, Wn, T))) (T0 := T) hsp hb hn rfl rfl hl lm ou f7 t96 gg' (fun c hc => c6 c hc) (fun lt => ?_) (fun lt => ?_) (fun lt => ?_)
    · have lt' : p < e := lt
      rw [if_pos lt'] at hA
      exact hA p rfl
    · have lt' : ¬ p < e := lt
      rw [if_neg lt'] at hB
      exact hB rfl
    · have lt' : ¬ p < e := lt
      rw [if_neg lt'] at hG
      exact hG rfl
end R3
