/-! the reference looks at a code: leads -/
section OMLd
variable {sp : ox_E} {d mr sr : Nat} {S : ox_St} {Q : ox_Q} {m ce c g : Nat} {κ : oCd} {P : Nat → Option oHB} {W : Nat → Bool}
/-- blocks lie at place f -/
def mlB (S : ox_St) (m f b : Nat) (wl wh : Nat → Nat) : Prop := f < 160 ∧ b ≤ 4 ∧ ∀ i, i < b → S.rI (m + 38) (4 * f + i) = nI (wl i) ∧ S.rI (m + 39) (4 * f + i) = nI (wh i) ∧ wl i < 131072 ∧ wh i < 131072
theorem s_167_148 {E : ox_E} (hE : ox_mono E) (h : oML S m ce) {x1 x3 : Int32} {q f b : Nat} {lv hd wl wh : Nat → Nat} (hq : q < 160) (hB : mlB S m f b wl wh) (he : ∀ i, i < b → S.rI (m + 38) (4 * q + i) = nI (lv i) ∧ S.rI (m + 39) (4 * q + i) = nI (hd i) ∧ lv i < 131072 ∧ hd i < 131072) (hQ1 : (∀ i, i < b → lv i = wl i ∧ hd i = wh i) → Q (some (.inl 1)) S) (hQ0 : ¬ (∀ i, i < b → lv i = wl i ∧ hd i = wh i) → Q (some (.inl 0)) S) : ∀ (r i : Nat), i + r = b → (∀ j, j < i → lv j = wl j ∧ hd j = wh j) → c_167_148 E m x1 (nI q) x3 (nI f) (nI b) 1 (nI i) S mr sr Q
  | 0, i, hi, hp => by
    obtain rfl : i = b := by omega
    exact f_167_148 hE ⟨fun _ => ⟨Or.inr rfl, hQ1 hp⟩, fun z => absurd (nI_le (Nat.le_refl i) (by have := hB.2.1; omega)) z⟩
  | r + 1, i, hi, hp => by
    obtain ⟨hf, hb, hB'⟩ := hB
    have hib : i < b := by omega
    obtain ⟨w1, w2, w3, w4⟩ := hB' i hib
    obtain ⟨e1, e2, e3, e4⟩ := he i hib
    obtain ⟨a1, a2, a3⟩ := h.row (F := 135) (o := 38) (k := 15) (n := 640) (by decide +kernel)
    obtain ⟨a4, a5, a6⟩ := h.row (F := 136) (o := 39) (k := 15) (n := 640) (by decide +kernel)
    have em : 4 * nI q + nI i = nI (4 * q + i) := by rw [show (4 : Int32) = nI 4 from rfl, pk_mul, nI_add]
    have en : 4 * nI f + nI i = nI (4 * f + i) := by rw [show (4 : Int32) = nI 4 from rfl, pk_mul, nI_add]
    have bad : ¬ (lv i = wl i ∧ hd i = wh i) → c_167_148 E m x1 (nI q) x3 (nI f) (nI b) 0 (nI i + 1) S mr sr Q := fun z => f_167_148 hE ⟨fun _ => ⟨Or.inl rfl, hQ0 (fun g => z (g i hib))⟩, fun _ => ⟨fun _ => ⟨Or.inl rfl, hQ0 (fun g => z (g i hib))⟩, fun y => absurd rfl y⟩⟩
    refine f_167_148 hE ?_
    unfold q_167_148
    rw [em, en, h.1, a1, a2, a3, a4, a5, a6, nI_clamp (n := 4 * q + i) (by omega), nI_clamp (n := 4 * f + i) (by omega), w1, w2, e1, e2]
    refine ⟨fun z => absurd z (nI_ge hib (by omega)), fun _ => ⟨fun z => absurd z (by decide), fun _ => ⟨rfl, rfl, vp_in_nI (by omega) (by decide), rfl, rfl, vp_in_nI (by omega) (by decide), fun z => bad (fun y => z (by rw [y.1])), fun z => ⟨rfl, rfl, vp_in_nI (by omega) (by decide), rfl, rfl, vp_in_nI (by omega) (by decide), fun y => bad (fun w => y (by rw [w.2])), fun y => ?_⟩⟩⟩⟩
    have z' := (nI_eq (by omega) (by omega)).mp z
    have y' := (nI_eq (by omega) (by omega)).mp y
    rw [nI_1]
    refine s_167_148 hE h hq ⟨hf, hb, hB'⟩ he hQ1 hQ0 r (i + 1) (by omega) (fun j hj => ?_)
    by_cases hji : j = i
    · subst hji; exact ⟨z', y'⟩
    · exact hp j (by omega)
theorem s_167_49 {E : ox_E} (hE : ox_mono E) {x1 x3 : Int32} {q f b : Nat} {wl wh : Nat → Nat} (hq : q < 160) (hne : q ≠ f) : ∀ (r i : Nat) (S : ox_St), i + r = b → oML S m ce → mlB S m f b wl wh → (∀ S', mlF m S S' → S'.I = S.I → (∀ a, a ≠ m + 38 → a ≠ m + 39 → a ≠ m + 40 → S'.rI a = S.rI a) → (∀ z, S'.rI (m + 38) z = if 4 * q + i ≤ z ∧ z < 4 * q + b then nI (wl (z - 4 * q)) else S.rI (m + 38) z) → (∀ z, S'.rI (m + 39) z = if 4 * q + i ≤ z ∧ z < 4 * q + b then nI (wh (z - 4 * q)) else S.rI (m + 39) z) → (∀ z, S'.rI (m + 40) z = if z = q then 1 else S.rI (m + 40) z) → Q (some (.inl 1)) S') → c_167_49 E m x1 (nI q) x3 (nI f) (nI b) (nI i) S mr sr Q
  | 0, i, S, hi, h, hB, hQ => by
    obtain rfl : i = b := by omega
    obtain ⟨hf, hb, hB'⟩ := hB
    obtain ⟨a1, a2, a3⟩ := h.row (F := 137) (o := 40) (k := 17) (n := 160) (by decide +kernel)
    refine f_167_49 hE ?_
    unfold q_167_49
    rw [h.1, a1, a2, a3, nI_clamp (n := q) (by omega), nar1]
    refine ⟨fun _ => ⟨rfl, rfl, vp_in_nI hq (by decide), Or.inr rfl, hQ (S.wI (m + 40) q 1) (mlF_wI (by omega) (by omega)) (or_wI_I S (m + 40) q 1) (fun a y1 y2 y3 => funext fun j => ?_) (fun z => ?_) (fun z => ?_) (fun z => ?_)⟩, fun z => absurd (nI_le (Nat.le_refl i) (by omega)) z⟩
    · rw [or_wI_rI, if_neg (fun e => y3 e.1)]
    · rw [or_wI_rI, if_neg (fun e => by omega), if_neg (by omega)]
    · rw [or_wI_rI, if_neg (fun e => by omega), if_neg (by omega)]
    · rw [or_wI_rI]
      by_cases e : z = q
      · rw [if_pos ⟨rfl, e⟩, if_pos e]
      · rw [if_neg (fun y => e y.2), if_neg e]
  | r + 1, i, S, hi, h, hB, hQ => by
    obtain ⟨hf, hb, hB'⟩ := hB
    have hib : i < b := by omega
    obtain ⟨w1, w2, w3, w4⟩ := hB' i hib
    obtain ⟨a1, a2, a3⟩ := h.row (F := 135) (o := 38) (k := 15) (n := 640) (by decide +kernel)
    obtain ⟨a4, a5, a6⟩ := h.row (F := 136) (o := 39) (k := 15) (n := 640) (by decide +kernel)
    have em : 4 * nI q + nI i = nI (4 * q + i) := by rw [show (4 : Int32) = nI 4 from rfl, pk_mul, nI_add]
    have en : 4 * nI f + nI i = nI (4 * f + i) := by rw [show (4 : Int32) = nI 4 from rfl, pk_mul, nI_add]
    refine f_167_49 hE ?_
    unfold q_167_49
    rw [em, en, h.1, a1, a2, a3, nI_clamp (n := 4 * q + i) (by omega), nI_clamp (n := 4 * f + i) (by omega), w1]
    refine ⟨fun z => absurd z (nI_ge hib (by omega)), fun _ => ⟨rfl, rfl, rfl, vp_in_nI (by omega) (by decide), rfl, vp_in_nI (by omega) (by decide), ?_⟩⟩
    have g1 : mlF m S (S.wI (m + 38) (4 * q + i) (nI (wl i))) := mlF_wI (by omega) (by omega)
    have e9 : (S.wI (m + 38) (4 * q + i) (nI (wl i))).rI (m + 39) (4 * f + i) = nI (wh i) := by rw [or_wI_rI, if_neg (fun e => by omega)]; exact w2
    intro S2
    have g2 : mlF m S S2 := g1
    have e2 : S2.rI (m + 39) (4 * f + i) = nI (wh i) := e9
    have i2 : S2.I = S.I := or_wI_I S (m + 38) (4 * q + i) (nI (wl i))
    have r2 : ∀ a, a ≠ m + 38 → S2.rI a = S.rI a := fun a y => funext fun j => by show (S.wI (m + 38) (4 * q + i) (nI (wl i))).rI a j = _; rw [or_wI_rI, if_neg (fun e => y e.1)]
    have r38 : ∀ z, S2.rI (m + 38) z = if z = 4 * q + i then nI (wl i) else S.rI (m + 38) z := fun z => by
      show (S.wI (m + 38) (4 * q + i) (nI (wl i))).rI (m + 38) z = _
      rw [or_wI_rI]
      by_cases e : z = 4 * q + i
      · rw [if_pos ⟨rfl, e⟩, if_pos e]
      · rw [if_neg (fun y => e y.2), if_neg e]
    generalize S2 = T at g2 e2 i2 r2 r38 ⊢
    rw [g2.1, g2.2.1, g2.2.2.2.1, h.1, a4, a5, a6, e2, nI_1]
    refine ⟨rfl, rfl, rfl, vp_in_nI (by omega) (by decide), rfl, vp_in_nI (by omega) (by decide), ?_⟩
    have g3 : mlF m T (T.wI (m + 39) (4 * q + i) (nI (wh i))) := mlF_wI (by omega) (by omega)
    have r39 : ∀ z, (T.wI (m + 39) (4 * q + i) (nI (wh i))).rI (m + 39) z = if z = 4 * q + i then nI (wh i) else S.rI (m + 39) z := fun z => by
      rw [or_wI_rI]
      by_cases e : z = 4 * q + i
      · rw [if_pos ⟨rfl, e⟩, if_pos e]
      · rw [if_neg (fun y => e y.2), if_neg e, r2 _ (by omega)]
    have ro : ∀ a, a ≠ m + 39 → (T.wI (m + 39) (4 * q + i) (nI (wh i))).rI a = T.rI a := fun a y => funext fun j => by rw [or_wI_rI, if_neg (fun e => y e.1)]
    have i3 : (T.wI (m + 39) (4 * q + i) (nI (wh i))).I = S.I := (or_wI_I T (m + 39) (4 * q + i) (nI (wh i))).trans i2
    have h3 := (h.lf g2).lf g3
    generalize T.wI (m + 39) (4 * q + i) (nI (wh i)) = U at g3 r39 ro i3 h3 ⊢
    refine s_167_49 (wl := wl) (wh := wh) hE hq hne r (i + 1) U (by omega) h3 ⟨hf, hb, fun j hj => ?_⟩ (fun S' q1 q2 q3 q4 q5 q6 => hQ S' ((g2.trans g3).trans q1) (q2.trans i3) (fun a y1 y2 y3 => ?_) (fun z => ?_) (fun z => ?_) (fun z => ?_))
    · obtain ⟨v1, v2, v3, v4⟩ := hB' j hj
      rw [ro _ (by omega), r38, if_neg (by omega), r39, if_neg (by omega)]
      exact ⟨v1, v2, v3, v4⟩
    · rw [q3 a y1 y2 y3, ro a y2, r2 a y1]
    · rw [q4 z, ro _ (by omega), r38 z]
      by_cases z1 : 4 * q + (i + 1) ≤ z ∧ z < 4 * q + b
      · rw [if_pos z1, if_pos (by omega)]
      · rw [if_neg z1]
        by_cases z2 : z = 4 * q + i
        · rw [if_pos z2, if_pos (by omega), z2, Nat.add_sub_cancel_left]
        · rw [if_neg z2, if_neg (by omega)]
    · rw [q5 z, r39 z]
      by_cases z1 : 4 * q + (i + 1) ≤ z ∧ z < 4 * q + b
      · rw [if_pos z1, if_pos (by omega)]
      · rw [if_neg z1]
        by_cases z2 : z = 4 * q + i
        · rw [if_pos z2, if_pos (by omega), z2, Nat.add_sub_cancel_left]
        · rw [if_neg z2, if_neg (by omega)]
    · rw [q6 z, ro _ (by omega), r2 _ (by omega)]
/-- leads -/
theorem s_167 (hsp : ox_mono sp) (h : mlS S m ce c g κ P W) {q f H b : Nat} {wl wh : Nat → Nat} (hB : mlB S m f b wl wh) (hPf : P f ≠ none) (hq : q < 1000000) (hH : H < 1000000) (hQ1 : q < cdN κ → H ≤ cdM κ → (P q = none ∨ P q = some (H, blL wl wh b)) → ∀ S', mlF m S S' → S'.I = S.I → mlS S' m ce c g κ (upS P q (H, blL wl wh b)) (upW P W q) → (∀ i, i < 4 → S'.rI (m + 38) (4 * f + i) = S.rI (m + 38) (4 * f + i) ∧ S'.rI (m + 39) (4 * f + i) = S.rI (m + 39) (4 * f + i)) → Q (some (.inl 1)) S')
    (hQ0 : ¬ (q < cdN κ ∧ H ≤ cdM κ ∧ (P q = none ∨ P q = some (H, blL wl wh b))) → Q (some (.inl 0)) S) : ox_M sp (d + 1) 167 [.inr (.inr m), .inl (nI c), .inl (nI q), .inl (nI H), .inl (nI f), .inl (nI b)] mr sr S Q := by
  have hE : ox_mono (ox_M sp d) := ox_M_mono hsp _
  have h' := h
  obtain ⟨hM, hs, hen, hpl, hwt, hwp⟩ := h'
  have hs' := hs
  obtain ⟨⟨s1, s2, s3⟩, ⟨s4, s5, s6⟩, ⟨s7, s8⟩, s9, s10, o1, o2, o3, o4, ⟨o5, o5b, o5c⟩, o6, o7, o8, o9⟩ := hs'
  obtain ⟨hf, hb, hB'⟩ := hB
  obtain ⟨r1, r2, r3⟩ := hM.row (F := 81) (o := 8) (k := 15) (n := 300) (by decide +kernel)
  obtain ⟨t1, t2, t3⟩ := hM.row (F := 79) (o := 6) (k := 15) (n := 300) (by decide +kernel)
  obtain ⟨u1, u2, u3⟩ := hM.row (F := 133) (o := 36) (k := 15) (n := 160) (by decide +kernel)
  obtain ⟨v1, v2, v3⟩ := hM.row (F := 134) (o := 37) (k := 15) (n := 160) (by decide +kernel)
  refine f_167 hsp ?_
  unfold q_167
  rw [hM.1, r1, r2, r3, t1, t2, t3, u1, u2, u3, v1, v2, v3, nI_clamp (n := c) (by omega), nI_clamp (n := q) (by omega), s5, s3]
  refine ⟨rfl, rfl, vp_in_nI s10 (by decide), fun z => ⟨Or.inl rfl, hQ0 (fun e => ?_)⟩, fun z => ⟨rfl, rfl, vp_in_nI s10 (by decide), fun y => ?_, fun y => ⟨Or.inl rfl, hQ0 (fun e => y (nI_le e.2.1 (by omega)))⟩⟩⟩
  · have := (nI_leI (by omega) (by omega)).mp z
    omega
  have hqN : q < cdN κ := Nat.not_le.mp fun e => z (nI_le e (by omega))
  have hHM : H ≤ cdM κ := (nI_leI (by omega) (by omega)).mp y
  have hq160 : q < 160 := by omega
  have hez := hen q hq160
  refine ⟨rfl, rfl, vp_in_nI hq160 (by decide), fun w => ⟨rfl, rfl, vp_in_nI hq160 (by decide), fun v => ?_, fun v => ⟨rfl, rfl, vp_in_nI hq160 (by decide), fun u => ?_, fun u => ?_⟩⟩, fun w => ⟨rfl, rfl, vp_in_nI hq160 (by decide), ?_⟩⟩
  · cases hPq : P q with
    | none => rw [hPq] at hez; rw [hez] at w; exact absurd w (by decide)
    | some t =>
      rw [hPq] at hez
      obtain ⟨h0, b0, lv, hd, e1, e2, e3, e4, e5, e6⟩ := hez
      have bad : Q (some (.inl 0)) S := hQ0 (fun e => by
        rcases e.2.2 with e' | e'
        · rw [hPq] at e'; cases e'
        · rw [hPq, e1] at e'
          exact v (by rw [e4, (Prod.mk.inj (Option.some.inj e')).1]))
      exact f_167_148 hE ⟨fun _ => ⟨Or.inl rfl, bad⟩, fun _ => ⟨fun _ => ⟨Or.inl rfl, bad⟩, fun e => absurd rfl e⟩⟩
  · cases hPq : P q with
    | none => rw [hPq] at hez; rw [hez] at w; exact absurd w (by decide)
    | some t =>
      rw [hPq] at hez
      obtain ⟨h0, b0, lv, hd, e1, e2, e3, e4, e5, e6⟩ := hez
      have bad : Q (some (.inl 0)) S := hQ0 (fun e => by
        rcases e.2.2 with e' | e'
        · rw [hPq] at e'; cases e'
        · rw [hPq, e1] at e'
          have := (blL_inj _ _ (Prod.mk.inj (Option.some.inj e')).2).1
          exact u (by rw [e5, this]))
      exact f_167_148 hE ⟨fun _ => ⟨Or.inl rfl, bad⟩, fun _ => ⟨fun _ => ⟨Or.inl rfl, bad⟩, fun e => absurd rfl e⟩⟩
  · cases hPq : P q with
    | none => rw [hPq] at hez; rw [hez] at w; exact absurd w (by decide)
    | some t =>
      rw [hPq] at hez
      obtain ⟨h0, b0, lv, hd, e1, e2, e3, e4, e5, e6⟩ := hez
      obtain rfl : h0 = H := by rw [e4] at v; exact (nI_eq (by omega) (by omega)).mp v
      obtain rfl : b0 = b := by rw [e5] at u; exact (nI_eq (by omega) (by omega)).mp u
      refine s_167_148 hE hM hq160 ⟨hf, hb, hB'⟩ e6 (fun e => ?_) (fun e => hQ0 (fun e' => ?_)) b0 0 (Nat.zero_add _) (fun j hj => absurd hj (Nat.not_lt_zero j))
      · have hPs : P q = some (h0, blL wl wh b0) := by rw [hPq, e1, blL_congr b0 e]
        refine hQ1 hqN hHM (Or.inr hPs) S mlF.refl rfl ?_ (fun i _ => ⟨rfl, rfl⟩)
        have hW : upW P W q = W := funext fun z => by
          unfold upW
          rw [hPq, if_neg (fun e => by cases e.2)]
        rw [upS_same hPs, hW]
        exact h
      · rcases e'.2.2 with e2' | e2'
        · rw [hPq] at e2'; cases e2'
        · rw [hPq, e1] at e2'
          exact e (blL_inj _ _ (Prod.mk.inj (Option.some.inj e2')).2).2
  · have hPn : P q = none := by
      cases hPq : P q with
      | none => rfl
      | some t =>
        rw [hPq] at hez
        obtain ⟨h0, b0, lv, hd, e1, e2, e3, e4, e5, e6⟩ := hez
        rw [e4] at w
        exact absurd (nI_pos' (by omega)) w
    have hne : q ≠ f := fun e => hPf (e ▸ hPn)
    intro S1
    have g1 : mlF m S S1 := mlF_wI (by omega) (by omega)
    have i1 : S1.I = S.I := or_wI_I S (m + 36) q (nI H)
    have x1 : ∀ a, a ≠ m + 36 → S1.rI a = S.rI a := fun a y => funext fun j => by show (S.wI (m + 36) q (nI H)).rI a j = _; rw [or_wI_rI, if_neg (fun e => y e.1)]
    have x36 : ∀ z, S1.rI (m + 36) z = if z = q then nI H else S.rI (m + 36) z := fun z => by
      show (S.wI (m + 36) q (nI H)).rI (m + 36) z = _
      rw [or_wI_rI]
      by_cases e : z = q
      · rw [if_pos ⟨rfl, e⟩, if_pos e]
      · rw [if_neg (fun y => e y.2), if_neg e]
    generalize S1 = T at g1 i1 x1 x36 ⊢
    rw [g1.1, g1.2.1, g1.2.2.2.1, hM.1, v1, v2, v3]
    refine ⟨rfl, rfl, vp_in_nI hq160 (by decide), ?_⟩
    have g2 : mlF m T (T.wI (m + 37) q (nI b)) := mlF_wI (by omega) (by omega)
    have i2 : (T.wI (m + 37) q (nI b)).I = S.I := (or_wI_I T (m + 37) q (nI b)).trans i1
    have ro : ∀ a, a ≠ m + 37 → (T.wI (m + 37) q (nI b)).rI a = T.rI a := fun a y => funext fun j => by rw [or_wI_rI, if_neg (fun e => y e.1)]
    have x37 : ∀ z, (T.wI (m + 37) q (nI b)).rI (m + 37) z = if z = q then nI b else S.rI (m + 37) z := fun z => by
      rw [or_wI_rI]
      by_cases e : z = q
      · rw [if_pos ⟨rfl, e⟩, if_pos e]
      · rw [if_neg (fun y => e y.2), if_neg e, x1 _ (by omega)]
    have hM2 := (hM.lf g1).lf g2
    have hs2 := (hs.lf g1).lf g2
    have g12 := g1.trans g2
    show c_167_49 (ox_M sp d) m (nI c) (nI q) (nI H) (nI f) (nI b) (nI 0) (T.wI (m + 37) q (nI b)) mr sr Q
    generalize T.wI (m + 37) q (nI b) = U at g2 i2 ro x37 hM2 hs2 g12 ⊢
    refine s_167_49 (wl := wl) (wh := wh) hE hq160 hne b 0 U (Nat.zero_add b) hM2 ⟨hf, hb, fun i hi => by rw [ro _ (by omega), ro _ (by omega), x1 _ (by omega), x1 _ (by omega)]; exact hB' i hi⟩ (fun S' q1 q2 q3 q4 q5 q6 => ?_)
    have t36 : ∀ z, S'.rI (m + 36) z = if z = q then nI H else S.rI (m + 36) z := fun z => by rw [q3 _ (by omega) (by omega) (by omega), ro _ (by omega)]; exact x36 z
    have t37 : ∀ z, S'.rI (m + 37) z = if z = q then nI b else S.rI (m + 37) z := fun z => by rw [q3 _ (by omega) (by omega) (by omega)]; exact x37 z
    have t38 : ∀ z, S'.rI (m + 38) z = if 4 * q ≤ z ∧ z < 4 * q + b then nI (wl (z - 4 * q)) else S.rI (m + 38) z := fun z => by rw [q4 z, ro _ (by omega), x1 _ (by omega)]; rfl
    have t39 : ∀ z, S'.rI (m + 39) z = if 4 * q ≤ z ∧ z < 4 * q + b then nI (wh (z - 4 * q)) else S.rI (m + 39) z := fun z => by rw [q5 z, ro _ (by omega), x1 _ (by omega)]; rfl
    have t40 : ∀ z, S'.rI (m + 40) z = if z = q then 1 else S.rI (m + 40) z := fun z => by rw [q6 z, ro _ (by omega), x1 _ (by omega)]
    refine hQ1 hqN hHM (Or.inl hPn) S' (g12.trans q1) (q2.trans i2) ⟨hM2.lf q1, hs2.lf q1, fun z hz => ?_, fun z hz => ?_, fun z hz => ?_, fun z hz => ?_⟩ (fun i hi => ?_)
    · unfold upS
      by_cases e : z = q
      · subst e
        rw [if_pos rfl]
        refine ⟨H, b, wl, wh, rfl, hb, by omega, by rw [t36, if_pos rfl], by rw [t37, if_pos rfl], fun i hi => ?_⟩
        obtain ⟨c1, c2, c3, c4⟩ := hB' i hi
        rw [t38, if_pos (by omega), t39, if_pos (by omega), Nat.add_sub_cancel_left]
        exact ⟨rfl, rfl, c3, c4⟩
      · rw [if_neg e]
        have hz2 := hen z hz
        unfold mlE at hz2 ⊢
        rw [t36, if_neg e, t37, if_neg e]
        cases hPz : P z with
        | none => rw [hPz] at hz2; exact hz2
        | some t =>
          rw [hPz] at hz2
          obtain ⟨h0, b0, lv, hd, e1, e2, e3, e4, e5, e6⟩ := hz2
          refine ⟨h0, b0, lv, hd, e1, e2, e3, e4, e5, fun i hi => ?_⟩
          rw [t38, if_neg (by omega), t39, if_neg (by omega)]
          exact e6 i hi
    · unfold upS at hz
      by_cases e : z = q
      · omega
      · rw [if_neg e] at hz; exact hpl z hz
    · rw [t40]
      by_cases e : z = q
      · have hu : upW P W q z = true := if_pos ⟨e, by rw [hPn]; rfl⟩
        rw [if_pos e, hu]; rfl
      · have hu : upW P W q z = W z := if_neg (fun y => e y.1)
        rw [if_neg e, hu]; exact hwt z hz
    · unfold upW at hz
      unfold upS
      by_cases e : z = q
      · rw [if_pos e]; exact fun y => by cases y
      · rw [if_neg e]
        rw [if_neg (fun y => e y.1)] at hz
        exact hwp z hz
    · rw [t38, if_neg (by omega), t39, if_neg (by omega)]
      exact ⟨rfl, rfl⟩
end OMLd
