/-! the class's Looker: comeTo -/
theorem nI_m1 {n : Nat} (h : n < 2 ^ 31) : ¬ nI n = -1 := fun e => by
  have := nI_pos h
  rw [e] at this
  exact this (by decide)
section OCT
variable {sp : ox_E} {d mr sr : Nat} {S : ox_St} {Q : ox_Q} {x c n : Nat} {κ : oCd} {P : Nat → Option oHB} {f : Nat → Nat}
/-- a CODE's byte -/
theorem s_byte (hsp : ox_mono sp) (h : cSh S c κ) {p : Nat} (hp : p < 2 ^ 31) (hQ : Q (some (.inl (nI (cdB κ p)))) S) : ox_M sp (d + 1) 16 [.inr (.inr c), .inl (nI p)] mr sr S Q := by
  obtain ⟨h1, -, ⟨h5, h6, h7⟩, -, -, o1, o2, o3, o4, o5, o6, o7, o8⟩ := h
  refine s_byteAt hsp (t := S.R 10 c) (N := cdN κ) ⟨h1, rfl, h5, h6, by omega⟩ hp ?_
  by_cases hl : p < cdN κ
  · rw [if_pos hl, h7 p hl]; exact hQ
  · rw [if_neg hl]
    rw [o7 p (by omega)] at hQ
    exact hQ
theorem s_byteN (hsp : ox_mono sp) {v : Int32} (hv : v < 0) (hQ : Q (some (.inl 0)) S) : ox_M sp (d + 1) 16 [.inr (.inr c), .inl v] mr sr S Q := f_16 hsp ⟨fun _ => ⟨trivial, hQ⟩, fun z => absurd hv z⟩
/-- note: a place that is come to first -/
theorem s_36 (hsp : ox_mono sp) {s b hh : Nat} {wl wh : Nat → Nat} (h : lkS S x c κ P n f) (ht : S.R 10 c < x + 4 ∨ x + 10 < S.R 10 c) (hs : s < 80) (hW : lkW S x b wl wh) (hP : P (2 * s) = none) (hh10 : hh ≤ 10) (hQ : ∀ S', lkF x S S' → lkS S' x c κ (upS P (2 * s) (hh, blL wl wh b)) (n + 1) (fun i => if i = n then 2 * s else f i) → S'.rI (x + 9) = S.rI (x + 9) → S'.rI (x + 10) = S.rI (x + 10) → S'.I 32 (x + 3) = S.I 32 (x + 3) → S'.I 33 (x + 3) = S.I 33 (x + 3) → Q none S') : ox_M sp (d + 1) 36 [.inr (.inr (x + 3)), .inl (nI s), .inl (nI hh), .inl (nI b)] mr sr S Q := by
  have hE : ox_mono (ox_M sp d) := ox_M_mono hsp _
  obtain ⟨hC, hc, hsh, hen, hpl, h28, hq1, hcn, hq2, hq3⟩ := h
  have hb := hW.1
  have hcu := cntP_up (t := (hh, blL wl wh b)) hP 80
  rw [if_pos hs] at hcu
  have hn : n < 80 := by have := cntP_le (upS P (2 * s) (hh, blL wl wh b)) 80; omega
  have k3 := hC.obj (o := 3) (k := 6) (by decide)
  have R23 : S.R 23 (x + 3) = x + 4 := hC.ref (by decide)
  have R24 : S.R 24 (x + 3) = x + 5 := hC.ref (by decide)
  obtain ⟨a1, a2⟩ := hC.row (o := 4) (k := 15) (n := 80) (by decide)
  obtain ⟨a3, a4⟩ := hC.row (o := 5) (k := 15) (n := 80) (by decide)
  refine f_36 hsp ?_
  unfold q_36
  rw [k3, R23, a1, a2, nI_clamp (n := s) (by omega)]
  refine ⟨rfl, rfl, vp_in_nI hs (by decide), ?_⟩
  show ox_has (S.K (x + 3)) 24 = true ∧ S.K (S.R 24 (x + 3)) = 15 ∧ vp_in (nI s) (S.len (S.R 24 (x + 3))) ∧ c_36_17 (ox_M sp d) (x + 3) (nI s) (nI hh) (nI b) (nI 0) ((S.wI (x + 4) s (nI hh)).wI (S.R 24 (x + 3)) s (nI b)) mr sr Q
  rw [k3, R24, a3, a4]
  refine ⟨rfl, rfl, vp_in_nI hs (by decide), ?_⟩
  have g : lkF x S ((S.wI (x + 4) s (nI hh)).wI (x + 5) s (nI b)) := (lkF_wI (by omega) (by omega)).trans (lkF_wI (by omega) (by omega))
  have r4 : ∀ z, ((S.wI (x + 4) s (nI hh)).wI (x + 5) s (nI b)).rI (x + 4) z = if z = s then nI hh else S.rI (x + 4) z := fun z => by
    rw [or_wI_rI, if_neg (fun e => by omega), or_wI_rI]
    by_cases e : z = s
    · rw [if_pos ⟨rfl, e⟩, if_pos e]
    · rw [if_neg (fun y => e y.2), if_neg e]
  have r5 : ∀ z, ((S.wI (x + 4) s (nI hh)).wI (x + 5) s (nI b)).rI (x + 5) z = if z = s then nI b else S.rI (x + 5) z := fun z => by
    rw [or_wI_rI]
    by_cases e : z = s
    · rw [if_pos ⟨rfl, e⟩, if_pos e]
    · rw [if_neg (fun y => e y.2), if_neg e, or_wI_rI, if_neg (fun y => by omega)]
  have rr : ∀ a, a ≠ x + 4 → a ≠ x + 5 → ((S.wI (x + 4) s (nI hh)).wI (x + 5) s (nI b)).rI a = S.rI a := fun a q1 q2 => funext fun j => by
    rw [or_wI_rI, if_neg (fun e => q2 e.1), or_wI_rI, if_neg (fun e => q1 e.1)]
  refine s_36_17 hE hs hn b 0 _ (Nat.zero_add b) (hC.lk g) ⟨hb, fun j hj => by rw [rr _ (by omega) (by omega), rr _ (by omega) (by omega)]; exact hW.2 j hj⟩ h28 (fun S' q1 q2 q3 q4 q5 q6 q7 q8 q9 q10 q11 q12 q13 => ?_)
  have gS : lkF x S S' := by
    refine g.trans ⟨q1, q2, q3, q5, q6, q7, fun F a _ => by rw [q4], fun F a q => q8 F a (fun e => by omega), fun a q => q10 a (by omega) (by omega) (by omega)⟩
  have t4 : ∀ z, S'.rI (x + 4) z = if z = s then nI hh else S.rI (x + 4) z := fun z => by rw [q10 _ (by omega) (by omega) (by omega)]; exact r4 z
  have t5 : ∀ z, S'.rI (x + 5) z = if z = s then nI b else S.rI (x + 5) z := fun z => by rw [q10 _ (by omega) (by omega) (by omega)]; exact r5 z
  have t6 : ∀ z, S'.rI (x + 6) z = if 4 * s ≤ z ∧ z < 4 * s + b then nI (wl (z - 4 * s)) else S.rI (x + 6) z := fun z => by rw [q11 z, rr _ (by omega) (by omega)]; rfl
  have t7 : ∀ z, S'.rI (x + 7) z = if 4 * s ≤ z ∧ z < 4 * s + b then nI (wh (z - 4 * s)) else S.rI (x + 7) z := fun z => by rw [q12 z, rr _ (by omega) (by omega)]; rfl
  have t8 : ∀ z, S'.rI (x + 8) z = if z = n then nI (2 * s) else S.rI (x + 8) z := fun z => by rw [q13 z, rr _ (by omega) (by omega)]
  refine hQ S' gS ⟨hC.lk gS, ?_, hsh.lk gS k3 ht, fun z hz => ?_, fun q hq => ?_, q9, fun i hi => ?_, ?_, fun q hq => ?_, fun i hi => ?_⟩ ?_ ?_ ?_ ?_
  · rw [q4]; exact hc
  · unfold upS
    by_cases e : z = s
    · subst e
      rw [if_pos rfl]
      refine ⟨hh, b, wl, wh, rfl, hb, hh10, by rw [t4, if_pos rfl], by rw [t5, if_pos rfl], fun i hi => ?_⟩
      obtain ⟨v1, v2, v3, v4⟩ := hW.2 i hi
      rw [t6, if_pos (by omega), t7, if_pos (by omega), Nat.add_sub_cancel_left]
      exact ⟨rfl, rfl, v3, v4⟩
    · rw [if_neg (by omega)]
      have hz2 := hen z hz
      unfold lkE at hz2 ⊢
      rw [t4, if_neg e, t5, if_neg e]
      cases hPz : P (2 * z) with
      | none => rw [hPz] at hz2; exact hz2
      | some t =>
        rw [hPz] at hz2
        obtain ⟨h0, b0, lv, hd, e1, e2, e3, e4, e5, e6⟩ := hz2
        refine ⟨h0, b0, lv, hd, e1, e2, e3, e4, e5, fun i hi => ?_⟩
        rw [t6, if_neg (by omega), t7, if_neg (by omega)]
        exact e6 i hi
  · unfold upS at hq
    by_cases e : q = 2 * s
    · subst e; omega
    · rw [if_neg e] at hq; exact hpl q hq
  · rw [t8]
    show _ = nI (if i = n then 2 * s else f i)
    by_cases e : i = n
    · rw [if_pos e, if_pos e]
    · rw [if_neg e, if_neg e]; exact hq1 i (by omega)
  · rw [hcu, hcn]
  · unfold upS at hq
    by_cases e : q = 2 * s
    · exact ⟨n, Nat.lt_succ_self n, by show (if n = n then 2 * s else f n) = q; rw [if_pos rfl, e]⟩
    · rw [if_neg e] at hq
      obtain ⟨i, i1, i2⟩ := hq2 q hq
      exact ⟨i, by omega, by show (if i = n then 2 * s else f i) = q; rw [if_neg (by omega)]; exact i2⟩
  · show upS P (2 * s) _ (if i = n then 2 * s else f i) ≠ none
    unfold upS
    by_cases e : i = n
    · rw [if_pos e, if_pos rfl]; exact fun z => by cases z
    · rw [if_neg e]
      by_cases e2 : f i = 2 * s
      · rw [if_pos e2]; exact fun z => by cases z
      · rw [if_neg e2]; exact hq3 i (by omega)
  · rw [q10 _ (by omega) (by omega) (by omega)]; exact rr _ (by omega) (by omega)
  · rw [q10 _ (by omega) (by omega) (by omega)]; exact rr _ (by omega) (by omega)
  · exact q8 32 (x + 3) (fun e => by omega)
  · exact q8 33 (x + 3) (fun e => by omega)
theorem upS_same {P : Nat → Option oHB} {q : Nat} {t : oHB} (h : P q = some t) : upS P q t = P := funext fun z => by
  unfold upS
  by_cases e : z = q
  · rw [if_pos e, e, h]
  · rw [if_neg e]
/-- comeTo -/
theorem s_35 (hsp : ox_mono sp) {p b hh : Nat} {wl wh : Nat → Nat} (h : lkS S x c κ P n f) (ht : S.R 10 c < x + 4 ∨ x + 10 < S.R 10 c) (hW : lkW S x b wl wh) (hp : p < 1000000) (hh2 : hh < 1000000) (hQ1 : plW κ p → hh ≤ cdM κ → (P p = none ∨ P p = some (hh, blL wl wh b)) → ∀ S' n' f', lkF x S S' → lkS S' x c κ (upS P p (hh, blL wl wh b)) n' f' → n ≤ n' → (∀ i, i < n → f' i = f i) → S'.rI (x + 9) = S.rI (x + 9) → S'.rI (x + 10) = S.rI (x + 10) → S'.I 32 (x + 3) = S.I 32 (x + 3) → S'.I 33 (x + 3) = S.I 33 (x + 3) → Q (some (.inl 1)) S')
    (hQ0 : ¬ (plW κ p ∧ hh ≤ cdM κ ∧ (P p = none ∨ P p = some (hh, blL wl wh b))) → Q (some (.inl 0)) S) : ox_M sp (d + 2) 35 [.inr (.inr (x + 3)), .inl (nI p), .inl (nI hh), .inl (nI b)] mr sr S Q := by
  have hE : ox_mono (ox_M sp (d + 1)) := ox_M_mono hsp _
  have h' := h
  obtain ⟨hC, hc, hsh, hen, hpl, h28, hq1, hcn, hq2, hq3⟩ := h'
  have hsh' := hsh
  obtain ⟨s1, ⟨s2, s3, s4⟩, ⟨s5, s6, s7⟩, ⟨s8, s9⟩, ⟨s10, s11⟩, o1, o2, o3, o4, o5, o6, o7, o8⟩ := hsh'
  have hb := hW.1
  have k3 := hC.obj (o := 3) (k := 6) (by decide)
  have R23 : S.R 23 (x + 3) = x + 4 := hC.ref (by decide)
  obtain ⟨a1, a2⟩ := hC.row (o := 4) (k := 15) (n := 80) (by decide)
  have em : nI p - nI p / 2 * 2 = nI (p % 2) := pk_rem (d := 2) (by omega) (by decide) (by decide)
  have ed : nI p / 2 = nI (p / 2) := pk_div (d := 2) (by omega) (by decide) (by decide)
  refine f_35 hsp ?_
  unfold q_35
  rw [k3, hc, s1, s5, s6, em, show Int32.ofNat (cdN κ) = nI (cdN κ) from rfl]
  refine ⟨fun z => absurd z (nI_pos (by omega)), fun _ => ⟨rfl, rfl, rfl, fun z => ⟨Or.inl rfl, hQ0 (fun g => ?_)⟩, fun z => ⟨by decide, fun y => ⟨Or.inl rfl, hQ0 (fun g => ?_)⟩, fun y => ⟨rfl, by decide, rfl, by decide, 0, 0, Nat.zero_le _, Nat.zero_le _, ?_⟩⟩⟩⟩
  · have := g.1.1
    have := (nI_leI (by omega) (by omega)).mp z
    omega
  · exact y (by rw [g.1.2.1]; rfl)
  · have hpN : p < cdN κ := Nat.not_le.mp fun e => z (nI_le e (by omega))
    have hp2 : p % 2 = 0 := (nI_eq (b := 0) (by omega) (by decide)).mp y
    have hps : 2 * (p / 2) = p := by omega
    have hs : p / 2 < 80 := by omega
    -- behind the byte before it
    have cont : ∀ y0 : Int32, (y0 = 144 → 2 ≤ p ∧ cdB κ (p - 2) = 144) → (¬ y0 = 144 → 2 ≤ p → cdB κ (p - 2) ≠ 144) → q_35_32 (ox_M sp (d + 1)) (x + 3) (nI p) (nI hh) (nI b) y0 S mr sr Q := by
      intro y0 g1 g2
      unfold q_35_32
      rw [k3, hc, s1, s4, ed, R23, a1, a2]
      refine ⟨fun w => ⟨Or.inl rfl, hQ0 (fun g => g.1.2.2 (g1 w).1 (g1 w).2)⟩, fun w => ⟨rfl, rfl, fun v => ⟨by decide, ?_⟩, fun v => ⟨Or.inl rfl, hQ0 (fun g => v (nI_le g.2.1 (by omega)))⟩⟩⟩
      dsimp only
      rw [nI_clamp (n := p / 2) (by omega)]
      refine ⟨fun u => ⟨rfl, rfl, vp_in_nI hs (by decide), fun t => ⟨rfl, rfl, vp_in_nI hs (by decide), fun r => ⟨Or.inl rfl, hQ0 (fun g => ?_)⟩, fun r => ?_⟩, fun t => ?_⟩, fun u => absurd (nI_lt (b := 80) hs (by decide)) u⟩
      · have hM : hh ≤ cdM κ := (nI_leI (by omega) (by omega)).mp v
        have hez := hen (p / 2) hs
        rw [hps] at hez
        rcases g.2.2 with g3 | g3
        · rw [g3] at hez; exact t hez
        · rw [g3] at hez
          obtain ⟨h0, b0, lv, hd, e1, e2, e3, e4, e5, e6⟩ := hez
          exact r (by rw [e4, (Prod.mk.inj e1).1])
      · have hM : hh ≤ cdM κ := (nI_leI (by omega) (by omega)).mp v
        have hez := hen (p / 2) hs
        rw [hps] at hez
        cases hPp : P p with
        | none => rw [hPp] at hez; exact absurd hez t
        | some t0 =>
          rw [hPp] at hez
          obtain ⟨h0, b0, lv, hd, e1, e2, e3, e4, e5, e6⟩ := hez
          have hh0 : h0 = hh := by rw [e4] at r; exact (nI_eq (by omega) (by omega)).mp r
          refine ⟨by decide, rfl, by decide, 0, 0, Nat.zero_le _, Nat.zero_le _, s_37 hsp hC hs hW e2 e5 e6 (fun g => f_35_104 hE ⟨fun e => absurd e (by decide), fun _ => ⟨Or.inr rfl, ?_⟩⟩) (fun g => f_35_104 hE ⟨fun _ => ⟨Or.inl rfl, hQ0 (fun g3 => ?_)⟩, fun e => absurd rfl e⟩)⟩
          · have hPs : P p = some (hh, blL wl wh b) := by rw [hPp, e1, hh0, g]
            refine hQ1 ⟨hpN, hp2, g2 w⟩ hM (Or.inr hPs) S n f lkF.refl ?_ (Nat.le_refl n) (fun _ _ => rfl) rfl rfl rfl rfl
            rw [upS_same hPs]
            exact h
          · rcases g3.2.2 with g4 | g4
            · rw [hPp] at g4; cases g4
            · rw [hPp, e1] at g4
              exact g (Prod.mk.inj (Option.some.inj g4)).2
      · have hM : hh ≤ cdM κ := (nI_leI (by omega) (by omega)).mp v
        have hez := hen (p / 2) hs
        have hPn : P (2 * (p / 2)) = none := by
          rw [hps] at hez ⊢
          cases hPp : P p with
          | none => rfl
          | some t0 =>
            rw [hPp] at hez
            obtain ⟨h0, b0, lv, hd, e1, e2, e3, e4, e5, e6⟩ := hez
            rw [e4] at t
            exact absurd t (nI_m1 (by omega))
        refine ⟨by decide, rfl, by decide, 0, 0, Nat.zero_le _, Nat.zero_le _, s_36 hsp h ht hs hW hPn (by omega) (fun S' g3 g4 g5 g6 g7 g8 => f_35_84 hE ⟨Or.inr rfl, ?_⟩)⟩
        rw [hps] at g4 hPn
        exact hQ1 ⟨hpN, hp2, g2 w⟩ hM (Or.inl hPn) S' (n + 1) _ g3 g4 (Nat.le_succ n) (fun i hi => if_neg (by omega)) g5 g6 g7 g8
    by_cases hp0 : p < 2
    · have : p = 0 := by omega
      subst this
      exact s_byteN hsp (by decide) (f_35_32 hE (cont 0 (fun e => absurd e (by decide)) (fun _ e => absurd e (by omega))))
    · rw [show (2 : Int32) = nI 2 from rfl, pk_sub (by omega)]
      have hb2 := o6 (p - 2) (by omega)
      refine s_byte hsp hsh (by omega) (f_35_32 hE (cont _ (fun e => ⟨by omega, (nI_eq (b := 144) (by omega) (by decide)).mp e⟩) (fun e _ g => e (by rw [g]; rfl))))
end OCT
