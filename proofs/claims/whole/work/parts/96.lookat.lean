/-! the class's Looker: lookAt, passes -/
theorem tkW_le {w a t : Nat} (h : tkW w a = some t) : t ≤ a + 3 := by
  unfold tkW at h
  by_cases e1 : w = 100 ∨ w = 101 ∨ w = 124 ∨ w = 110 ∨ w = 113 ∨ w = 122 ∨ w = 87
  · rw [if_pos e1] at h; have := Option.some.inj h; omega
  · rw [if_neg e1] at h
    by_cases e2 : w = 1 ∨ w = 4 ∨ w = 11 ∨ w = 12 ∨ w = 68 ∨ w = 83 ∨ w = 90 ∨ w = 92 ∨ w = 93 ∨ w = 114 ∨ w = 115 ∨ w = 125 ∨ w = 130 ∨ w = 132
    · rw [if_pos e2] at h; have := Option.some.inj h; omega
    · rw [if_neg e2] at h
      by_cases e3 : w = 2 ∨ w = 20 ∨ w = 22 ∨ w = 23 ∨ w = 24 ∨ w = 25 ∨ w = 26 ∨ w = 107
      · rw [if_pos e3] at h; have := Option.some.inj h; omega
      · rw [if_neg e3] at h
        by_cases e4 : w = 3
        · rw [if_pos e4] at h; have := Option.some.inj h; omega
        · rw [if_neg e4] at h
          by_cases e5 : w = 102
          · rw [if_pos e5] at h; have := Option.some.inj h; omega
          · rw [if_neg e5] at h
            by_cases e6 : w = 131
            · rw [if_pos e6] at h; have := Option.some.inj h; omega
            · rw [if_neg e6] at h; cases h
section OLA
variable {sp : ox_E} {d mr sr : Nat} {S : ox_St} {Q : ox_Q} {x c n : Nat} {κ : oCd} {P : Nat → Option oHB} {f : Nat → Nat}
/-- lookAt -/
theorem s_31 (hsp : ox_mono sp) (h : lkS S x c κ P n f) (ht : S.R 10 c < x + 4 ∨ x + 10 < S.R 10 c) {p : Nat} {s : oHB} (hP : P p = some s)
    (hQ1 : ∀ l, agW κ (dcW κ p) (dcA κ p) → scW (dcW κ p) (dcA κ p) (dcN κ p) s = some l → cmL κ l P → ∀ S' n' f', lkF x S S' → lkS S' x c κ (upL l P) n' f' → n ≤ n' → (∀ i, i < n → f' i = f i) → Q (some (.inl 1)) S')
    (hQ0 : (∀ l, agW κ (dcW κ p) (dcA κ p) → scW (dcW κ p) (dcA κ p) (dcN κ p) s = some l → ¬ cmL κ l P) → ∀ S', lkF x S S' → Q (some (.inl 0)) S') : ox_M sp (d + 5) 31 [.inr (.inr (x + 3)), .inl (nI p)] mr sr S Q := by
  have hE : ox_mono (ox_M sp (d + 4)) := ox_M_mono hsp _
  have hp := (h.2.2.2.2.1 p (by rw [hP]; exact fun z => by cases z)).2
  have hO : cdO κ := h.2.2.1.2.2.2.2.2
  have k3 := h.1.obj (o := 3) (k := 6) (by decide)
  have kc := h.2.2.1.1
  have ed : nI p / 2 = nI (p / 2) := pk_div (d := 2) (by omega) (by decide) (by decide)
  refine f_31 hsp ⟨by decide, by decide, k3, by decide, 0, 0, Nat.zero_le _, Nat.zero_le _, ?_⟩
  rw [ed]
  refine s_32 hsp h ht hP (fun S1 hh b wl wh t1 h1 es hh10 hW h32 h33 => f_31_7 hE ?_)
  have k31 := h1.1.obj (o := 3) (k := 6) (by decide)
  have hc1 := h1.2.1
  have hs1 := h1.2.2.1
  have hb := hW.1
  have ht1 : S1.R 10 c < x + 4 ∨ x + 10 < S1.R 10 c := by rw [t1.code k3 kc]; exact ht
  -- behind takes
  have fin : ∀ (W A NX : Nat) (x1 : Int32), W < 256 → A < 70000 → NX < 1000 → W = dcW κ p → A = dcA κ p → NX = dcN κ p → q_31_75 (ox_M sp (d + 4)) (x + 3) x1 (nI W) (nI A) (nI NX) (tkI W A) S1 mr sr Q := by
    intro W A NX x1 w1 w2 w3 eW eA eN
    rw [← eW, ← eA, ← eN] at hQ1 hQ0
    have hflr := blL_flr wl wh b
    have R30 : S1.R 30 (x + 3) = x + 9 := h1.1.ref (by decide)
    obtain ⟨a5, a6⟩ := h1.1.row (o := 9) (k := 15) (n := 4) (by decide)
    -- a tail for both ways of counting what is free
    have tail : ∀ w4 : Int32, (∀ t, tkW W A = some t → (w4 < nI t ↔ hh < flr (blL wl wh b) + t)) → (tkI W A = -1 → ((0 : Int32) = 0 ∨ (0 : Int32) = 1) ∧ Q (some (.inl (0 : Int32))) S1) ∧ (¬ tkI W A = -1 → (w4 < tkI W A → ((0 : Int32) = 0 ∨ (0 : Int32) = 1) ∧ Q (some (.inl (0 : Int32))) S1) ∧ (¬ w4 < tkI W A → 3 ≤ 3 ∧ 6 = 6 ∧ 0 ≤ 8 ∧ ∃ mc mk, mc ≤ mr ∧ mk ≤ sr ∧ ox_M sp (d + 4) 38 [.inr (.inr (x + 3)), .inl (nI W), .inl (nI A)] mc mk S1 (k_31_128 (ox_M sp (d + 4)) (x + 3) x1 (nI W) (nI A) (nI NX) (tkI W A) w4 (mr - mc) (sr - mk) Q))) := by
      intro w4 hw4
      cases htk : tkW W A with
      | none =>
        have e : tkI W A = -1 := by unfold tkI; rw [htk]
        rw [e]
        exact ⟨fun _ => ⟨Or.inl rfl, hQ0 (fun l _ hl => by unfold scW at hl; rw [htk] at hl; cases hl) S1 t1⟩, fun z => absurd rfl z⟩
      | some t =>
        have e : tkI W A = nI t := by unfold tkI; rw [htk]
        have htl := tkW_le htk
        have hlt := hw4 t htk
        rw [e]
        refine ⟨fun z => absurd z (nI_m1 (by omega)), fun _ => ⟨fun z => ⟨Or.inl rfl, hQ0 (fun l _ hl => ?_) S1 t1⟩, fun z => ⟨by decide, rfl, by decide, 0, 0, Nat.zero_le _, Nat.zero_le _, ?_⟩⟩⟩
        · rw [es] at hl
          unfold scW at hl
          rw [htk] at hl
          have hl' : (if hh < flr (blL wl wh b) + t then none else scR W A NX (hh - t + gvW W A) (hh, blL wl wh b)) = some l := hl
          rw [if_pos (hlt.mp z)] at hl'
          cases hl'
        · have hfree : ¬ hh < flr (blL wl wh b) + t := fun g => z (hlt.mpr g)
          have hsw : scW W A NX s = scR W A NX (hh - t + gvW W A) (hh, blL wl wh b) := by
            rw [es]
            unfold scW
            rw [htk]
            exact if_neg hfree
          refine s_38 hsp k31 hc1 hs1 (by omega) (by omega) (fun ag => f_31_128 hE ⟨fun _ => ⟨by rw [k31]; rfl, by decide, by decide, 0, 0, Nat.zero_le _, Nat.zero_le _, s_40 hsp (by omega) (f_31_143 hE ?_)⟩, fun g => absurd g (by decide)⟩) (fun nag => f_31_128 hE ⟨fun g => absurd rfl g, fun _ => ⟨Or.inl rfl, hQ0 (fun l ag => absurd ag nag) S1 t1⟩⟩)
          have hgv := gvW_le ag
          unfold q_31_143
          rw [k31, h32, nI_mix (by omega)]
          refine ⟨rfl, by decide, k31, by decide, 0, 0, Nat.zero_le _, Nat.zero_le _, ?_⟩
          have g : lkF x S1 (S1.sI 32 (x + 3) (nI (hh - t + gvW W A))) := lkF_sI (Or.inr (Or.inl rfl))
          have h2 := h1.keep ht1 g (fun _ _ _ => rfl) (by rw [or_sI_I, if_neg (fun z => by cases z.1)]) rfl
          refine s_33 (S := S1.sI 32 (x + 3) (nI (hh - t + gvW W A))) hsp h2 ht1 (hW.keep rfl rfl) (by omega) (by omega) w3 htk (by omega) hh10 (by omega) (if_pos ⟨rfl, rfl⟩) (by rw [or_sI_I, if_neg (fun z => by cases z.1)]; exact h33) (fun l hl hcm S' n' f' q1 q2 q3 q4 => f_31_158 hE ⟨Or.inr rfl, hQ1 l ag (hsw.trans hl) hcm S' n' f' ((t1.trans g).trans q1) q2 q3 q4⟩) (fun hn S' q1 => f_31_158 hE ⟨Or.inl rfl, hQ0 (fun l _ hl => hn l (hsw.symm.trans hl)) S' ((t1.trans g).trans q1)⟩)
    unfold q_31_75
    rw [k31, h33, h32, R30, a5, a6]
    refine ⟨rfl, fun z => ⟨rfl, tail (nI hh) (fun t htk => ?_)⟩, fun z => ?_⟩
    · have hb0 : b = 0 := by have := (nI_leI (b := 0) (by omega) (by decide)).mp z; omega
      have := tkW_le htk
      rw [hflr, if_pos hb0, Nat.zero_add]
      exact nI_ltI (by omega) (by omega)
    · have hb0 : b ≠ 0 := fun e => z (by rw [e]; decide)
      obtain ⟨v1, v2, v3, v4⟩ := hW.2 (b - 1) (by omega)
      have eb : nI b - 1 = nI (b - 1) := pk_sub (b := 1) (by omega)
      rw [eb, nI_clamp (n := b - 1) (by omega), v1]
      refine ⟨rfl, rfl, rfl, rfl, vp_in_nI (by omega) (by decide), tail _ (fun t htk => ?_)⟩
      have := tkW_le htk
      rw [hflr, if_neg hb0, Int32.lt_iff_toInt_lt, pk_sub_toInt (by omega) (by omega), nI_toInt (by omega)]
      omega
  -- the bytes
  have b0 := cdB_lt hO p
  have b1 := cdB_lt hO (p + 1)
  have b2 := cdB_lt hO (p + 2)
  have b3 := cdB_lt hO (p + 3)
  have e2 : nI p + 2 = nI (p + 2) := nI_add p 2
  refine ⟨by rw [k31]; rfl, by decide, by rw [hc1]; exact hs1.1, by decide, 0, 0, Nat.zero_le _, Nat.zero_le _, ?_⟩
  rw [hc1]
  refine s_byte hsp hs1 (by omega) (f_31_15 hE ⟨by rw [k31]; rfl, by decide, by rw [hc1]; exact hs1.1, by decide, 0, 0, Nat.zero_le _, Nat.zero_le _, ?_⟩)
  rw [hc1, nI_1]
  refine s_byte hsp hs1 (by omega) (f_31_26 hE ⟨fun z => ⟨by decide, by decide, 0, 0, Nat.zero_le _, Nat.zero_le _, s_39 hsp (by omega) (f_31_75 hE ?_)⟩, fun z => ⟨by rw [k31]; rfl, by decide, by rw [hc1]; exact hs1.1, by decide, 0, 0, Nat.zero_le _, Nat.zero_le _, ?_⟩⟩)
  · have z' : ¬ cdB κ p = 144 := fun e => z (by rw [e]; rfl)
    rw [e2]
    exact fin _ _ _ _ b0 (by omega) (by omega) (by unfold dcW; rw [if_neg z']) (by unfold dcA; rw [if_neg z']) (by unfold dcN; rw [if_neg z'])
  · have z' : cdB κ p = 144 := (nI_eq (b := 144) (by omega) (by decide)).mp z
    rw [hc1, e2]
    refine s_byte hsp hs1 (by omega) (f_31_48 hE ⟨by rw [k31]; rfl, by decide, by rw [hc1]; exact hs1.1, by decide, 0, 0, Nat.zero_le _, Nat.zero_le _, ?_⟩)
    rw [hc1, nI_1]
    refine s_byte hsp hs1 (by omega) (f_31_65 hE ?_)
    have e3 : 256 * nI (cdB κ (p + 1)) + nI (cdB κ (p + 3)) = nI (256 * cdB κ (p + 1) + cdB κ (p + 3)) := by rw [show (256 : Int32) = nI 256 from rfl, pk_mul, nI_add]
    have e4 : nI (p + 2) + 2 = nI (p + 4) := nI_add (p + 2) 2
    unfold q_31_65
    rw [e3, e4]
    refine ⟨by decide, by decide, 0, 0, Nat.zero_le _, Nat.zero_le _, s_39 hsp (by omega) (f_31_75 hE ?_)⟩
    exact fin _ _ _ _ b2 (by omega) (by omega) (by unfold dcW; rw [if_pos z']) (by unfold dcA; rw [if_pos z']) (by unfold dcN; rw [if_pos z'])
end OLA
