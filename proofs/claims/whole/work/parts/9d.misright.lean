/-! the reference looks at a code: isRightAt, its whole -/
theorem mlS.same {S S' : ox_St} {m ce c g : Nat} {κ : oCd} {P : Nat → Option oHB} {W : Nat → Bool} (h : mlS S m ce c g κ P W) (f : mlF m S S') (r : S'.rI = S.rI) : mlS S' m ce c g κ P W := by
  obtain ⟨h1, h2, h3, h4, h5, h6⟩ := h
  refine ⟨h1.lf f, h2.lf f, fun p hp => ?_, h4, fun p hp => by rw [r]; exact h5 p hp, h6⟩
  have := h3 p hp
  unfold mlE at this ⊢
  rw [r]
  exact this
theorem dcW_lt {κ : oCd} (h : cdO κ) (p : Nat) : dcW κ p < 256 := by
  unfold dcW
  by_cases e : cdB κ p = 144
  · rw [if_pos e]; exact cdB_lt h _
  · rw [if_neg e]; exact cdB_lt h _
theorem dcA_lt {κ : oCd} (h : cdO κ) (p : Nat) : dcA κ p < 65536 := by
  have h1 := cdB_lt h (p + 1)
  have h3 := cdB_lt h (p + 3)
  unfold dcA
  by_cases e : cdB κ p = 144
  · rw [if_pos e]; omega
  · rw [if_neg e]; omega
theorem dcN_le (κ : oCd) (p : Nat) : dcN κ p ≤ p + 4 := by
  unfold dcN
  by_cases e : cdB κ p = 144
  · rw [if_pos e]; omega
  · rw [if_neg e]; omega
section OMRb
variable {sp : ox_E} {d mr sr : Nat} {S : ox_St} {Q : ox_Q} {m ce c g : Nat} {κ : oCd} {P : Nat → Option oHB} {W : Nat → Bool}
/-- isRightAt -/
theorem s_168 (hsp : ox_mono sp) (h : mlS S m ce c g κ P W) {p : Nat} {s : oHB} (hP : P p = some s) (hpl : plW κ p)
    (hQ1 : ∀ l, agW κ (dcW κ p) (dcA κ p) → scM (dcW κ p) (dcA κ p) (dcN κ p) s = some l → cmL κ l P → ∀ S', mlF m S S' → mlS S' m ce c g κ (upL l P) (upWL l P W) → Q (some (.inl 1)) S') (hQ0 : (∀ l, agW κ (dcW κ p) (dcA κ p) → scM (dcW κ p) (dcA κ p) (dcN κ p) s = some l → ¬ cmL κ l P) → ∀ S', mlF m S S' → Q (some (.inl 0)) S') : ox_M sp (d + 3) 168 [.inr (.inr m), .inl (nI c), .inl (nI p)] mr sr S Q := by
  have hE : ox_mono (ox_M sp (d + 2)) := ox_M_mono hsp _
  have hM := h.1
  have hs := h.2.1
  have hO : cdO κ := hs.2.2.2.2.2
  have hN := hO.2.2.2.2.1
  have hp160 : p < 160 := by have := hpl.1; omega
  have hez := h.2.2.1 p hp160
  rw [hP] at hez
  have w1 := dcW_lt hO p
  have w2 := dcA_lt hO p
  have w3 := dcN_le κ p
  refine f_168 hsp ⟨by decide, hM.1, by decide, 0, 0, Nat.zero_le _, Nat.zero_le _, ?_⟩
  refine s_163 hsp hM hs hpl.1 hpl.2.1 (fun dok S1 f1 r1 i8 i9 i0 => f_168_6 hE ⟨fun _ => ⟨by decide, by rw [f1.1]; exact hM.1, by decide, 0, 0, Nat.zero_le _, Nat.zero_le _, ?_⟩, fun e => absurd e (by decide)⟩) (fun d1 d2 S1 f1 r1 => f_168_6 hE ⟨fun e => absurd rfl e, fun _ => ⟨Or.inl rfl, hQ0 (fun l _ hl => ?_) S1 f1⟩⟩)
  · have h1 := h.same f1 r1
    have hM1 := h1.1
    have hs1 := h1.2.1
    obtain ⟨hh, b, lv, hd, e1, e2, e3, e4, e5, e6⟩ := hez
    have hB1 : mlB S1 m p b lv hd := ⟨hp160, e2, fun i hi => by rw [r1]; exact e6 i hi⟩
    have hflr := blL_flr lv hd b
    have hn : dcN κ p < cdN κ → plW κ (dcN κ p) := fun hlt => by
      refine ⟨hlt, ?_, fun _ => ?_⟩
      · have := hpl.2.1
        unfold dcN
        by_cases e : cdB κ p = 144
        · rw [if_pos e]; omega
        · rw [if_neg e]; omega
      · unfold dcN
        by_cases e : cdB κ p = 144
        · rw [if_pos e]; exact (dok e).2
        · rw [if_neg e]; exact e
    -- height, blocks, floor
    have mid : ∀ y0 : Int32, (∀ fl : Nat, fl < 131072 → fl = flr (blL lv hd b) → c_168_55 (ox_M sp (d + 2)) m (nI c) (nI p) y0 (nI hh) (nI b) (nI fl) S1 mr sr Q) → q_168_16 (ox_M sp (d + 2)) m (nI c) (nI p) y0 S1 mr sr Q := by
      intro y0 hy
      obtain ⟨u1, u2, u3⟩ := hM1.row (F := 133) (o := 36) (k := 15) (n := 160) (by decide +kernel)
      obtain ⟨v1, v2, v3⟩ := hM1.row (F := 134) (o := 37) (k := 15) (n := 160) (by decide +kernel)
      obtain ⟨a1, a2, a3⟩ := hM1.row (F := 135) (o := 38) (k := 15) (n := 640) (by decide +kernel)
      unfold q_168_16
      rw [hM1.1, u1, u2, u3, v1, v2, v3, a1, a2, a3, nI_clamp (n := p) (by omega), r1, e4, e5]
      refine ⟨rfl, rfl, vp_in_nI hp160 (by decide), rfl, rfl, vp_in_nI hp160 (by decide), fun z => ?_, fun z => ?_⟩
      · have hb0 : b = 0 := by have := (nI_leI (b := 0) (by omega) (by decide)).mp z; omega
        exact hy 0 (by decide) (by rw [hflr, if_pos hb0])
      · have hb0 : b ≠ 0 := fun e => z (by rw [e]; decide)
        obtain ⟨c1, c2, c3, c4⟩ := e6 (b - 1) (by omega)
        have em : 4 * nI p + nI b - 1 = nI (4 * p + (b - 1)) := by
          rw [show (4 : Int32) = nI 4 from rfl, pk_mul, nI_add, show (1 : Int32) = nI 1 from rfl, pk_sub (by omega), show 4 * p + b - 1 = 4 * p + (b - 1) by omega]
        rw [em, nI_clamp (n := 4 * p + (b - 1)) (by omega), c1]
        exact ⟨rfl, rfl, vp_in_nI (by omega) (by decide), hy _ c3 (by rw [hflr, if_neg hb0])⟩
    refine s_165 hsp hM1 hs1 i8 i9 i0 (by omega) (by omega) (by omega) (fun t htk ag jp => f_168_16 hE (mid _ (fun fl hfl1 hfl2 => f_168_55 hE ⟨fun e => absurd e (nI_m1 (by have := tkW_le htk; omega)), fun _ => ⟨fun z => ⟨by decide, hM1.1, by decide, 0, 0, Nat.zero_le _, Nat.zero_le _, ?_⟩, fun z => ?_⟩⟩))) (fun e => f_168_16 hE (mid _ (fun fl _ _ => f_168_55 hE ⟨fun _ => f_168_71 hE ⟨Or.inl rfl, hQ0 (fun l ag hl hc => ?_) S1 f1⟩, fun e => absurd rfl e⟩)))
    · have htl := tkW_le htk
      have hfree : fl + t ≤ hh := by
        have := Int32.le_iff_toInt_le.mp z
        rw [pk_sub_toInt (by omega) (by omega), nI_toInt (by omega)] at this
        omega
      have hgv := gvW_le ag
      have hsw : scM (dcW κ p) (dcA κ p) (dcN κ p) s = scN (dcW κ p) (dcA κ p) (dcN κ p) (hh - t + gvW (dcW κ p) (dcA κ p)) (hh, blL lv hd b) := by
        rw [e1]
        unfold scM
        rw [htk]
        exact if_neg (by rw [← hfl2]; show ¬ hh < fl + t; omega)
      have fin : ∀ (x6 : Int32), c_168_118 (ox_M sp (d + 2)) m (nI c) (nI p) (nI t) (nI hh) (nI b) x6 (nI (hh - t + gvW (dcW κ p) (dcA κ p))) (nI (if dcW κ p = 110 ∨ dcW κ p = 93 then dcN κ p + dcA κ p else dcA κ p)) S1 mr sr Q := fun x6 => by
        refine s_168_118 hsp h1 hB1 (by rw [hP, e1]) i8 i9 i0 (by omega) (by omega) (by omega) htk (by omega) e3 (by omega) jp hn (fun l hl hc S' q1 q2 => hQ1 l ag (hsw.trans hl) hc S' (f1.trans q1) q2) (fun hn S' q1 => hQ0 (fun l _ hl => hn l (hsw.symm.trans hl)) S' (f1.trans q1))
      refine s_166 hsp hM1 i8 i9 (by omega) htk (f_168_81 hE ?_)
      have e7 : nI hh - nI t + nI (gvW (dcW κ p) (dcA κ p)) = nI (hh - t + gvW (dcW κ p) (dcA κ p)) := by rw [pk_sub (by omega), nI_add]
      unfold q_168_81
      rw [e7, hM1.1, i8, i9]
      have j1 : dcW κ p = 110 ∨ dcW κ p = 93 → c_168_102 (ox_M sp (d + 2)) m (nI c) (nI p) (nI t) (nI hh) (nI b) (nI fl) (nI (hh - t + gvW (dcW κ p) (dcA κ p))) S1 mr sr Q := fun e => f_168_102 hE ⟨by rw [hM1.1]; rfl, by rw [hM1.1]; rfl, by
        have := fin (nI fl)
        rw [if_pos e, ← nI_add (dcN κ p) (dcA κ p), ← i0, ← i9] at this
        exact this⟩
      refine ⟨rfl, fun y => j1 (Or.inl ((nI_eq (b := 110) (by omega) (by decide)).mp y)), fun y => ⟨rfl, fun y2 => ⟨rfl, ?_⟩, fun y2 => j1 (Or.inr ((nI_eq (b := 93) (by omega) (by decide)).mp y2))⟩⟩
      have := fin (nI fl)
      rw [if_neg (fun e => e.elim (fun e => y (by rw [e]; rfl)) (fun e => y2 (by rw [e]; rfl)))] at this
      exact this
    · have htl := tkW_le htk
      refine f_168_71 hE ⟨Or.inl rfl, hQ0 (fun l _ hl => ?_) S1 f1⟩
      have hno : hh < fl + t := by
        refine Nat.not_le.mp fun e => z ?_
        rw [Int32.le_iff_toInt_le, pk_sub_toInt (by omega) (by omega), nI_toInt (by omega)]
        omega
      rw [e1] at hl
      unfold scM at hl
      rw [htk] at hl
      have hl' : (if hh < flr (blL lv hd b) + t then none else scN (dcW κ p) (dcA κ p) (dcN κ p) (hh - t + gvW (dcW κ p) (dcA κ p)) (hh, blL lv hd b)) = some l := hl
      rw [if_pos (by rw [← hfl2]; exact hno)] at hl'
      cases hl'
    · -- what it is told isn't there, or no place
      rcases e with e | e | e
      · unfold scM at hl
        rw [e] at hl
        cases hl
      · exact e ag
      · cases htk : tkW (dcW κ p) (dcA κ p) with
        | none =>
          unfold scM at hl
          rw [htk] at hl
          cases hl
        | some t =>
          rw [e1] at hl
          unfold scM at hl
          rw [htk] at hl
          have hl' : (if hh < flr (blL lv hd b) + t then none else scN (dcW κ p) (dcA κ p) (dcN κ p) (hh - t + gvW (dcW κ p) (dcA κ p)) (hh, blL lv hd b)) = some l := hl
          by_cases hlt : hh < flr (blL lv hd b) + t
          · rw [if_pos hlt] at hl'; cases hl'
          · rw [if_neg hlt] at hl'
            refine e ⟨fun z => ?_, fun z => ?_⟩
            · rcases z with z | z
              · rw [z] at hl'
                have := Option.some.inj (show some [(dcN κ p + dcA κ p, _, blL lv hd b)] = some l from hl')
                rw [← this] at hc
                exact hc.1.1
              · rw [z] at hl'
                have hl2 : (if (blL lv hd b).length = 4 then none else some [(dcN κ p + dcA κ p, hh + 1, blL lv hd b), (dcN κ p, hh, (hh, dcN κ p + dcA κ p) :: blL lv hd b)]) = some l := hl'
                by_cases h4 : (blL lv hd b).length = 4
                · rw [if_pos h4] at hl2; cases hl2
                · rw [if_neg h4] at hl2
                  rw [← Option.some.inj hl2] at hc
                  exact hc.1.1
            · rcases z with z | z | z
              · rw [z] at hl'
                have := Option.some.inj (show some [(dcA κ p, _, blL lv hd b)] = some l from hl')
                rw [← this] at hc
                exact hc.1.1
              · rw [z] at hl'
                have := Option.some.inj (show some [(dcN κ p, _, blL lv hd b), (dcA κ p, _, blL lv hd b)] = some l from hl')
                rw [← this] at hc
                exact hc.2.1.1
              · rw [z] at hl'
                have := Option.some.inj (show some [(dcN κ p, _, blL lv hd b), (dcA κ p, _, blL lv hd b)] = some l from hl')
                rw [← this] at hc
                exact hc.2.1.1
  · have htn : tkW (dcW κ p) (dcA κ p) = none := by
      have hdw : dcW κ p = cdB κ (p + 2) := if_pos d1
      rw [hdw]
      rcases d2 with d2 | d2
      · rw [hO.2.2.2.2.2.2.1 _ d2]; rfl
      · rw [d2]; rfl
    unfold scM at hl
    rw [htn] at hl
    cases hl
end OMRb
