/-! the reference looks at a code: isBlockRight, isRightAt -/
/-- the ways on, in the reference's order -/
def scN (w a nx H : Nat) (s : oHB) : Option (List (Nat × oHB)) :=
  if w = 83 then (if s.2 = [] then some [] else none)
  else if w = 87 then (match s.2 with
    | [] => none
    | _ :: r => some [(nx, H, r)])
  else if w = 93 then some [(nx, H, s.2), (nx + a, s.1 - 1, s.2)]
  else if w = 110 then some [(nx + a, H, s.2)]
  else if w = 113 then some [(a, H, s.2)]
  else if w = 114 ∨ w = 115 then some [(nx, H, s.2), (a, H, s.2)]
  else if w = 122 then (if s.2.length = 4 then none else some [(nx + a, s.1 + 1, s.2), (nx, s.1, (s.1, nx + a) :: s.2)])
  else if w = 130 then some []
  else some [(nx, H, s.2)]
def scM (w a nx : Nat) (s : oHB) : Option (List (Nat × oHB)) := match tkW w a with
  | none => none
  | some t => if s.1 < flr s.2 + t then none else scN w a nx (s.1 - t + gvW w a) s
def upWL : List (Nat × oHB) → (Nat → Option oHB) → (Nat → Bool) → Nat → Bool
  | [], _, W => W
  | q :: l, P, W => upWL l (upS P q.1 q.2) (upW P W q.1)
section OMRt
variable {sp : ox_E} {d mr sr : Nat} {S : ox_St} {Q : ox_Q} {m ce c g : Nat} {κ : oCd} {P : Nat → Option oHB} {W : Nat → Bool}
/-- leads, where it is a place if it lies within the code -/
theorem s_167c (hsp : ox_mono sp) (h : mlS S m ce c g κ P W) {q f H b : Nat} {wl wh : Nat → Nat} (hB : mlB S m f b wl wh) (hPf : P f ≠ none) (hq : q < 1000000) (hH : H < 1000000) (hpq : q < cdN κ → plW κ q) (hQ1 : cm1 κ P (q, H, blL wl wh b) → ∀ S', mlF m S S' → S'.I = S.I → mlS S' m ce c g κ (upS P q (H, blL wl wh b)) (upW P W q) → (∀ i, i < 4 → S'.rI (m + 38) (4 * f + i) = S.rI (m + 38) (4 * f + i) ∧ S'.rI (m + 39) (4 * f + i) = S.rI (m + 39) (4 * f + i)) → Q (some (.inl 1)) S')
    (hQ0 : ¬ cm1 κ P (q, H, blL wl wh b) → Q (some (.inl 0)) S) : ox_M sp (d + 1) 167 [.inr (.inr m), .inl (nI c), .inl (nI q), .inl (nI H), .inl (nI f), .inl (nI b)] mr sr S Q :=
  s_167 hsp h hB hPf hq hH (fun e1 e2 e3 => hQ1 ⟨hpq e1, e2, e3⟩) (fun e => hQ0 (fun e' => e ⟨e'.1.1, e'.2⟩))
theorem mlB.keep {S S' : ox_St} {m f b : Nat} {wl wh : Nat → Nat} (h : mlB S m f b wl wh) (g : ∀ i, i < 4 → S'.rI (m + 38) (4 * f + i) = S.rI (m + 38) (4 * f + i) ∧ S'.rI (m + 39) (4 * f + i) = S.rI (m + 39) (4 * f + i)) : mlB S' m f b wl wh :=
  ⟨h.1, h.2.1, fun i hi => by have := h.2.1; rw [(g i (by omega)).1, (g i (by omega)).2]; exact h.2.2 i hi⟩
theorem mlB.le {S : ox_St} {m f b b' : Nat} {wl wh : Nat → Nat} (h : mlB S m f b wl wh) (hb : b' ≤ b) : mlB S m f b' wl wh := ⟨h.1, by have := h.2.1; omega, fun i hi => h.2.2 i (by omega)⟩
/-- isBlockRight -/
theorem s_169 (hsp : ox_mono sp) (h : mlS S m ce c g κ P W) {p hh b a nx : Nat} {wl wh : Nat → Nat} (hB : mlB S m p b wl wh) (hPp : P p ≠ none) (hPe : ∀ t, P p = some t → t.2.length = b) (h9 : S.I 139 m = nI a) (h0 : S.I 140 m = nI nx) (hh2 : hh ≤ 10) (ha : a < 100000) (hnx : nx < 1000) (hj : plW κ (nx + a)) (hn : nx < cdN κ → plW κ nx)
    (hQ1 : b ≠ 4 → cm1 κ P (nx + a, hh + 1, blL wl wh b) → cm1 κ (upS P (nx + a) (hh + 1, blL wl wh b)) (nx, hh, (hh, nx + a) :: blL wl wh b) → ∀ S', mlF m S S' → mlS S' m ce c g κ (upS (upS P (nx + a) (hh + 1, blL wl wh b)) nx (hh, (hh, nx + a) :: blL wl wh b)) (upW (upS P (nx + a) (hh + 1, blL wl wh b)) (upW P W (nx + a)) nx) → Q (some (.inl 1)) S')
    (hQ0 : (b ≠ 4 → cm1 κ P (nx + a, hh + 1, blL wl wh b) → ¬ cm1 κ (upS P (nx + a) (hh + 1, blL wl wh b)) (nx, hh, (hh, nx + a) :: blL wl wh b)) → ∀ S', mlF m S S' → Q (some (.inl 0)) S') : ox_M sp (d + 2) 169 [.inr (.inr m), .inl (nI c), .inl (nI p), .inl (nI hh), .inl (nI b)] mr sr S Q := by
  have hE : ox_mono (ox_M sp (d + 1)) := ox_M_mono hsp _
  have hM := h.1
  have hb := hB.2.1
  have hp := hB.1
  refine f_169 hsp ?_
  unfold q_169
  rw [hM.1, h0, h9, nI_add nx a, nI_1]
  refine ⟨fun z => ⟨rfl, rfl, by decide, rfl, by decide, 0, 0, Nat.zero_le _, Nat.zero_le _, ?_⟩, fun z => ⟨Or.inl rfl, hQ0 (fun e => absurd ((nI_eq (b := 4) (by omega) (by decide)).mp z) e) S mlF.refl⟩⟩
  have hb4 : b ≠ 4 := fun e => z (by rw [e]; rfl)
  refine s_167c hsp h hB hPp (by omega) (by omega) (fun _ => hj) (fun c1 S1 f1 i1 h1 k1 => f_169_32 hE ⟨fun _ => ?_, fun e => absurd e (by decide)⟩) (fun c1 => f_169_32 hE ⟨fun e => absurd rfl e, fun _ => ⟨Or.inl rfl, hQ0 (fun _ e => absurd e c1) S mlF.refl⟩⟩)
  have hM1 := h1.1
  obtain ⟨a1, a2, a3⟩ := hM1.row (F := 135) (o := 38) (k := 15) (n := 640) (by decide +kernel)
  obtain ⟨a4, a5, a6⟩ := hM1.row (F := 136) (o := 39) (k := 15) (n := 640) (by decide +kernel)
  have em : 4 * nI p + nI b = nI (4 * p + b) := by rw [show (4 : Int32) = nI 4 from rfl, pk_mul, nI_add]
  rw [em, hM1.1, a1, a2, a3, nI_clamp (n := 4 * p + b) (by omega)]
  refine ⟨rfl, rfl, vp_in_nI (by omega) (by decide), ?_⟩
  intro S2
  have f2 : mlF m S1 S2 := mlF_wI (by omega) (by omega)
  have i2 : S2.I = S1.I := or_wI_I S1 (m + 38) (4 * p + b) (nI hh)
  have r2 : ∀ a, a ≠ m + 38 → S2.rI a = S1.rI a := fun a y => funext fun j => by show (S1.wI (m + 38) (4 * p + b) (nI hh)).rI a j = _; rw [or_wI_rI, if_neg (fun e => y e.1)]
  have r38 : ∀ z, S2.rI (m + 38) z = if z = 4 * p + b then nI hh else S1.rI (m + 38) z := fun z => by
    show (S1.wI (m + 38) (4 * p + b) (nI hh)).rI (m + 38) z = _
    rw [or_wI_rI]
    by_cases e : z = 4 * p + b
    · rw [if_pos ⟨rfl, e⟩, if_pos e]
    · rw [if_neg (fun y => e y.2), if_neg e]
  generalize S2 = T at f2 i2 r2 r38 ⊢
  rw [f2.1, f2.2.1, f2.2.2.2.1, hM1.1, a4, a5, a6]
  refine ⟨rfl, rfl, vp_in_nI (by omega) (by decide), ?_⟩
  intro S3
  have f3 : mlF m S1 S3 := f2.trans (mlF_wI (by omega) (by omega))
  have i3 : S3.I = S1.I := (or_wI_I T (m + 39) (4 * p + b) (nI (nx + a))).trans i2
  have r3 : ∀ v, v ≠ m + 38 → v ≠ m + 39 → S3.rI v = S1.rI v := fun v y1 y2 => funext fun j => by show (T.wI (m + 39) (4 * p + b) (nI (nx + a))).rI v j = _; rw [or_wI_rI, if_neg (fun e => y2 e.1), r2 v y1]
  have t38 : ∀ z, S3.rI (m + 38) z = if z = 4 * p + b then nI hh else S1.rI (m + 38) z := fun z => by
    show (T.wI (m + 39) (4 * p + b) (nI (nx + a))).rI (m + 38) z = _
    rw [or_wI_rI, if_neg (fun e => by omega)]; exact r38 z
  have t39 : ∀ z, S3.rI (m + 39) z = if z = 4 * p + b then nI (nx + a) else S1.rI (m + 39) z := fun z => by
    show (T.wI (m + 39) (4 * p + b) (nI (nx + a))).rI (m + 39) z = _
    rw [or_wI_rI]
    by_cases e : z = 4 * p + b
    · rw [if_pos ⟨rfl, e⟩, if_pos e]
    · rw [if_neg (fun y => e y.2), if_neg e, r2 _ (by omega)]
  generalize S3 = U at f3 i3 r3 t38 t39 ⊢
  rw [f3.1, hM1.1, i3, i1, h0, nI_1]
  refine ⟨rfl, by decide, rfl, by decide, 0, 0, Nat.zero_le _, Nat.zero_le _, ?_⟩
  -- the table stands
  have hP1 : upS P (nx + a) (hh + 1, blL wl wh b) p ≠ none := by
    unfold upS
    by_cases e : p = nx + a
    · rw [if_pos e]; exact fun y => by cases y
    · rw [if_neg e]; exact hPp
  have hP1e : ∀ t, upS P (nx + a) (hh + 1, blL wl wh b) p = some t → t.2.length = b := fun t ht => by
    unfold upS at ht
    by_cases e : p = nx + a
    · rw [if_pos e] at ht
      rw [← Option.some.inj ht]
      exact blL_len wl wh b
    · rw [if_neg e] at ht; exact hPe t ht
  have hU : mlS U m ce c g κ (upS P (nx + a) (hh + 1, blL wl wh b)) (upW P W (nx + a)) := by
    obtain ⟨q1, q2, q3, q4, q5, q6⟩ := h1
    refine ⟨q1.lf f3, q2.lf f3, fun z hz => ?_, q4, fun z hz => by rw [r3 _ (by omega) (by omega)]; exact q5 z hz, q6⟩
    have q3' := q3 z hz
    unfold mlE at q3' ⊢
    rw [r3 _ (by omega) (by omega), r3 _ (by omega) (by omega)]
    cases hPz : upS P (nx + a) (hh + 1, blL wl wh b) z with
    | none => rw [hPz] at q3'; exact q3'
    | some t =>
      rw [hPz] at q3'
      obtain ⟨h0, b0, lv, hd, e1, e2, e3, e4, e5, e6⟩ := q3'
      refine ⟨h0, b0, lv, hd, e1, e2, e3, e4, e5, fun i hi => ?_⟩
      have hne : ¬ 4 * z + i = 4 * p + b := fun e => by
        have hzp : z = p := by omega
        subst hzp
        have := hP1e t hPz
        rw [e1] at this
        have hl : (blL lv hd b0).length = b := this
        rw [blL_len] at hl
        omega
      rw [t38, if_neg hne, t39, if_neg hne]
      exact e6 i hi
  have hB2 : mlB U m p (b + 1) (fun i => if i = b then hh else wl i) (fun i => if i = b then nx + a else wh i) := by
    have hB1 := hB.keep k1
    refine ⟨hp, by omega, fun i hi => ?_⟩
    show U.rI (m + 38) (4 * p + i) = nI (if i = b then hh else wl i) ∧ U.rI (m + 39) (4 * p + i) = nI (if i = b then nx + a else wh i) ∧ (if i = b then hh else wl i) < 131072 ∧ (if i = b then nx + a else wh i) < 131072
    rw [t38, t39]
    by_cases e : i = b
    · have e' : 4 * p + i = 4 * p + b := by omega
      rw [if_pos e', if_pos e, if_pos e', if_pos e]
      exact ⟨rfl, rfl, by omega, by omega⟩
    · have e' : ¬ 4 * p + i = 4 * p + b := by omega
      rw [if_neg e', if_neg e, if_neg e', if_neg e]
      exact hB1.2.2 i (by omega)
  have hbl : blL (fun i => if i = b then hh else wl i) (fun i => if i = b then nx + a else wh i) (b + 1) = (hh, nx + a) :: blL wl wh b := by
    show ((if b = b then hh else wl b), (if b = b then nx + a else wh b)) :: blL _ _ b = _
    rw [if_pos rfl, if_pos rfl, blL_congr (lv' := wl) (hd' := wh) b (fun i hi => ⟨if_neg (by omega), if_neg (by omega)⟩)]
  refine s_167c hsp hU hB2 hP1 (by omega) (by omega) hn (fun c2 S4 f4 i4 h4 k4 => f_169_77 hE ⟨Or.inr rfl, ?_⟩) (fun c2 => f_169_77 hE ⟨Or.inl rfl, hQ0 (fun _ _ e => c2 (by rw [hbl]; exact e)) U (f1.trans f3)⟩)
  rw [hbl] at c2 h4
  exact hQ1 hb4 c1 c2 S4 ((f1.trans f3).trans f4) h4
end OMRt
