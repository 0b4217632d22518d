/-! the class's Looker: what it notes, compares, comes to -/
/-- slot s of the looker's rows shows an entry -/
def lkE (S : ox_St) (x s : Nat) (o : Option oHB) : Prop := match o with
  | none => S.rI (x + 4) s = -1
  | some t => ∃ h b lv hd, t = (h, blL lv hd b) ∧ b ≤ 4 ∧ h ≤ 10 ∧ S.rI (x + 4) s = nI h ∧ S.rI (x + 5) s = nI b ∧ ∀ i, i < b → S.rI (x + 6) (4 * s + i) = nI (lv i) ∧ S.rI (x + 7) (4 * s + i) = nI (hd i) ∧ lv i < 131072 ∧ hd i < 131072
/-- how many slots are noted -/
def cntP (P : Nat → Option oHB) : Nat → Nat
  | 0 => 0
  | s + 1 => cntP P s + (if (P (2 * s)).isSome then 1 else 0)
theorem cntP_le (P : Nat → Option oHB) : ∀ s, cntP P s ≤ s
  | 0 => Nat.le_refl 0
  | s + 1 => by
    have := cntP_le P s
    show cntP P s + (if (P (2 * s)).isSome then 1 else 0) ≤ s + 1
    by_cases h : (P (2 * s)).isSome
    · rw [if_pos h]; omega
    · rw [if_neg h]; omega
def upS (P : Nat → Option oHB) (q : Nat) (t : oHB) : Nat → Option oHB := fun z => if z = q then some t else P z
theorem cntP_up {P : Nat → Option oHB} {s : Nat} {t : oHB} (h : P (2 * s) = none) : ∀ m, cntP (upS P (2 * s) t) m = cntP P m + (if s < m then 1 else 0)
  | 0 => by rw [if_neg (Nat.not_lt_zero s)]; rfl
  | m + 1 => by
    show cntP (upS P (2 * s) t) m + (if (upS P (2 * s) t (2 * m)).isSome then 1 else 0) = cntP P m + (if (P (2 * m)).isSome then 1 else 0) + _
    rw [cntP_up h m]
    unfold upS
    by_cases e : s = m
    · subst e
      rw [if_pos rfl, h, if_neg (Nat.lt_irrefl s), if_pos (Nat.lt_succ_self s)]
      rfl
    · have e3 : ¬ (2 * m = 2 * s) := by omega
      rw [if_neg e3]
      by_cases e2 : s < m
      · rw [if_pos e2, if_pos (Nat.lt_succ_of_lt e2)]; omega
      · have e4 : ¬ s < m + 1 := by omega
        rw [if_neg e2, if_neg e4]; omega
/-- the looker over a code: its table so far, its queue -/
def lkS (S : ox_St) (x c : Nat) (κ : oCd) (P : Nat → Option oHB) (n : Nat) (f : Nat → Nat) : Prop := oCL S x ∧ S.R 29 (x + 3) = c ∧ cSh S c κ ∧ (∀ s, s < 80 → lkE S x s (P (2 * s))) ∧ (∀ p, P p ≠ none → p % 2 = 0 ∧ p < 160) ∧ S.I 28 (x + 3) = nI n ∧ (∀ i, i < n → S.rI (x + 8) i = nI (f i)) ∧ n = cntP P 80 ∧ (∀ p, P p ≠ none → ∃ i, i < n ∧ f i = p) ∧ ∀ i, i < n → P (f i) ≠ none
/-- blocks of the way that is gone -/
def lkW (S : ox_St) (x b : Nat) (wl wh : Nat → Nat) : Prop := b ≤ 4 ∧ ∀ i, i < b → S.rI (x + 9) i = nI (wl i) ∧ S.rI (x + 10) i = nI (wh i) ∧ wl i < 131072 ∧ wh i < 131072
/-- what looking leaves alone -/
def lkF (x : Nat) (S S' : ox_St) : Prop := S'.K = S.K ∧ S'.len = S.len ∧ S'.n = S.n ∧ S'.J = S.J ∧ S'.rR = S.rR ∧ S'.rJ = S.rJ ∧ (∀ F a, a ≠ x + 3 ∨ F ≠ 29 → S'.R F a = S.R F a) ∧ (∀ F a, a ≠ x + 3 ∨ (F ≠ 28 ∧ F ≠ 32 ∧ F ≠ 33) → S'.I F a = S.I F a) ∧ ∀ a, a < x + 4 ∨ x + 10 < a → S'.rI a = S.rI a
theorem lkF.refl {x : Nat} {S : ox_St} : lkF x S S := ⟨rfl, rfl, rfl, rfl, rfl, rfl, fun _ _ _ => rfl, fun _ _ _ => rfl, fun _ _ => rfl⟩
theorem lkF.trans {x : Nat} {S S' U : ox_St} (h : lkF x S S') (g : lkF x S' U) : lkF x S U := by
  obtain ⟨h1, h2, h3, h4, h5, h6, h7, h8, h9⟩ := h
  obtain ⟨g1, g2, g3, g4, g5, g6, g7, g8, g9⟩ := g
  exact ⟨g1.trans h1, g2.trans h2, g3.trans h3, g4.trans h4, g5.trans h5, g6.trans h6, fun F a q => (g7 F a q).trans (h7 F a q), fun F a q => (g8 F a q).trans (h8 F a q), fun a q => (g9 a q).trans (h9 a q)⟩
theorem lkF_sI {x F : Nat} {S : ox_St} {v : Int32} (h : F = 28 ∨ F = 32 ∨ F = 33) : lkF x S (S.sI F (x + 3) v) := ⟨rfl, rfl, rfl, rfl, rfl, rfl, fun _ _ _ => rfl, fun G a q => ox_u2_ne (fun e => by omega), fun _ _ => rfl⟩
theorem lkF_wI {x t i : Nat} {S : ox_St} {v : Int32} (h1 : x + 4 ≤ t) (h2 : t ≤ x + 10) : lkF x S (S.wI t i v) := ⟨rfl, rfl, rfl, rfl, rfl, rfl, fun _ _ _ => rfl, fun _ _ _ => rfl, fun a q => ox_u2_row _ _ (fun e => by omega)⟩
theorem oCL.lk {S S' : ox_St} {x : Nat} (h : oCL S x) (g : lkF x S S') : oCL S' x := by
  obtain ⟨g1, g2, g3, g4, g5, g6, g7, g8, g9⟩ := g
  refine h.next (fun a _ _ => by rw [g1, g2]; exact ⟨rfl, rfl⟩) (fun F a _ _ z _ _ _ _ => g7 F a (Or.inr z)) (fun F a z _ _ => g8 F a (Or.inr (by omega))) (by rw [g5]) (by rw [g5]) (g9 _ (by omega))
theorem cSh.lk {S S' : ox_St} {x c : Nat} {κ : oCd} (h : cSh S c κ) (g : lkF x S S') (hx : S.K (x + 3) = 6) (ht : S.R 10 c < x + 4 ∨ x + 10 < S.R 10 c) : cSh S' c κ := by
  obtain ⟨h1, ⟨h2, h3, h4⟩, ⟨h5, h6, h7⟩, ⟨h8, h9⟩, ⟨h10, h11⟩, h12⟩ := h
  obtain ⟨g1, g2, g3, g4, g5, g6, g7, g8, g9⟩ := g
  have hne : c ≠ x + 3 := fun e => by rw [e, hx] at h1; exact absurd h1 (by decide)
  unfold cSh
  rw [g1, g2, g8 7 c (Or.inl hne), g8 8 c (Or.inl hne), g8 9 c (Or.inl hne), g7 10 c (Or.inl hne), g7 11 c (Or.inl hne), g7 12 c (Or.inl hne), g9 _ ht]
  exact ⟨h1, ⟨h2, h3, h4⟩, ⟨h5, h6, h7⟩, ⟨h8, h9⟩, ⟨h10, h11⟩, h12⟩
section OLK
variable {sp : ox_E} {d mr sr : Nat} {S : ox_St} {Q : ox_Q} {x c n : Nat} {κ : oCd} {P : Nat → Option oHB} {f : Nat → Nat}
theorem s_37_19 {E : ox_E} (hE : ox_mono E) (hC : oCL S x) {s b : Nat} {lv hd wl wh : Nat → Nat} (hs : s < 80) (hW : lkW S x b wl wh) (he : ∀ i, i < b → S.rI (x + 6) (4 * s + i) = nI (lv i) ∧ S.rI (x + 7) (4 * s + i) = nI (hd i) ∧ lv i < 131072 ∧ hd i < 131072) (hQ1 : (∀ i, i < b → lv i = wl i ∧ hd i = wh i) → Q (some (.inl 1)) S) (hQ0 : ¬ (∀ i, i < b → lv i = wl i ∧ hd i = wh i) → Q (some (.inl 0)) S) : ∀ (r i : Nat), i + r = b → (∀ j, j < i → lv j = wl j ∧ hd j = wh j) → c_37_19 E (x + 3) (nI s) (nI b) 1 (nI i) S mr sr Q
  | 0, i, hi, hp => by
    obtain rfl : i = b := by omega
    exact f_37_19 hE ⟨fun z => absurd z (by decide), fun _ => ⟨fun _ => ⟨Or.inr rfl, hQ1 hp⟩, fun z => absurd (nI_le (Nat.le_refl i) (by have := hW.1; omega)) z⟩⟩
  | r + 1, i, hi, hp => by
    have hb := hW.1
    have hib : i < b := by omega
    obtain ⟨w1, w2, w3, w4⟩ := hW.2 i hib
    obtain ⟨e1, e2, e3, e4⟩ := he i hib
    have k3 := hC.obj (o := 3) (k := 6) (by decide)
    have R25 : S.R 25 (x + 3) = x + 6 := hC.ref (by decide)
    have R26 : S.R 26 (x + 3) = x + 7 := hC.ref (by decide)
    have R30 : S.R 30 (x + 3) = x + 9 := hC.ref (by decide)
    have R31 : S.R 31 (x + 3) = x + 10 := hC.ref (by decide)
    obtain ⟨a1, a2⟩ := hC.row (o := 6) (k := 15) (n := 320) (by decide)
    obtain ⟨a3, a4⟩ := hC.row (o := 7) (k := 15) (n := 320) (by decide)
    obtain ⟨a5, a6⟩ := hC.row (o := 9) (k := 15) (n := 4) (by decide)
    obtain ⟨a7, a8⟩ := hC.row (o := 10) (k := 15) (n := 4) (by decide)
    have em : nI s * 4 + nI i = nI (4 * s + i) := by rw [show (4 : Int32) = nI 4 from rfl, pk_mul, nI_add, Nat.mul_comm]
    have bad : ¬ (lv i = wl i ∧ hd i = wh i) → c_37_19 E (x + 3) (nI s) (nI b) 0 (nI i + 1) S mr sr Q := fun z => f_37_19 hE ⟨fun _ => ⟨Or.inl rfl, hQ0 (fun g => z (g i hib))⟩, fun y => absurd rfl y⟩
    refine f_37_19 hE ⟨fun z => absurd z (by decide), fun _ => ⟨fun z => absurd z (nI_ge hib (by omega)), fun _ => ⟨fun z => absurd z (nI_ge (b := 4) (by omega) (by decide)), fun _ => ?_⟩⟩⟩
    rw [em, k3, R25, R26, R30, R31, a1, a2, a3, a4, a5, a6, a7, a8, nI_clamp (n := 4 * s + i) (by omega), nI_clamp (n := i) (by omega), w1, w2, e1, e2]
    refine ⟨rfl, rfl, vp_in_nI (by omega) (by decide), rfl, rfl, vp_in_nI (by omega) (by decide), fun z => bad (fun y => z (by rw [y.1])), fun z => ⟨rfl, rfl, vp_in_nI (by omega) (by decide), rfl, rfl, vp_in_nI (by omega) (by decide), fun y => bad (fun w => y (by rw [w.2])), fun y => ?_⟩⟩
    have z' := (nI_eq (by omega) (by omega)).mp z
    have y' := (nI_eq (by omega) (by omega)).mp y
    rw [nI_1]
    refine s_37_19 hE hC hs hW he hQ1 hQ0 r (i + 1) (by omega) (fun j hj => ?_)
    by_cases hji : j = i
    · subst hji; exact ⟨z', y'⟩
    · exact hp j (by omega)
/-- hasBlocks -/
theorem s_37 (hsp : ox_mono sp) (hC : oCL S x) {s b b0 : Nat} {lv hd wl wh : Nat → Nat} (hs : s < 80) (hW : lkW S x b wl wh) (hb0 : b0 ≤ 4) (hbc : S.rI (x + 5) s = nI b0) (he : ∀ i, i < b0 → S.rI (x + 6) (4 * s + i) = nI (lv i) ∧ S.rI (x + 7) (4 * s + i) = nI (hd i) ∧ lv i < 131072 ∧ hd i < 131072) (hQ1 : blL lv hd b0 = blL wl wh b → Q (some (.inl 1)) S) (hQ0 : blL lv hd b0 ≠ blL wl wh b → Q (some (.inl 0)) S) : ox_M sp (d + 1) 37 [.inr (.inr (x + 3)), .inl (nI s), .inl (nI b)] mr sr S Q := by
  have hE : ox_mono (ox_M sp d) := ox_M_mono hsp _
  have hb := hW.1
  have k3 := hC.obj (o := 3) (k := 6) (by decide)
  have R24 : S.R 24 (x + 3) = x + 5 := hC.ref (by decide)
  obtain ⟨a1, a2⟩ := hC.row (o := 5) (k := 15) (n := 80) (by decide)
  refine f_37 hsp ?_
  unfold q_37
  rw [k3, R24, a1, a2, nI_clamp (n := s) (by omega), hbc]
  refine ⟨rfl, rfl, vp_in_nI hs (by decide), fun z => ?_, fun z => ?_⟩
  · exact f_37_19 hE ⟨fun _ => ⟨Or.inl rfl, hQ0 (fun g => z (by rw [(blL_inj _ _ g).1]))⟩, fun y => absurd rfl y⟩
  · obtain rfl : b0 = b := (nI_eq (by omega) (by omega)).mp z
    exact s_37_19 hE hC hs hW he (fun g => hQ1 (blL_congr _ g)) (fun g => hQ0 (fun e => g (blL_inj _ _ e).2)) b0 0 (Nat.zero_add _) (fun j hj => absurd hj (Nat.not_lt_zero j))
theorem s_36_17 {E : ox_E} (hE : ox_mono E) {s b : Nat} {wl wh : Nat → Nat} {x2 : Int32} (hs : s < 80) (hn : n < 80) : ∀ (r i : Nat) (S : ox_St), i + r = b → oCL S x → lkW S x b wl wh → S.I 28 (x + 3) = nI n → (∀ S', S'.K = S.K → S'.len = S.len → S'.n = S.n → S'.R = S.R → S'.J = S.J → S'.rR = S.rR → S'.rJ = S.rJ → (∀ F a, ¬ (F = 28 ∧ a = x + 3) → S'.I F a = S.I F a) → S'.I 28 (x + 3) = nI (n + 1) → (∀ a, a ≠ x + 6 → a ≠ x + 7 → a ≠ x + 8 → S'.rI a = S.rI a) → (∀ z, S'.rI (x + 6) z = if 4 * s + i ≤ z ∧ z < 4 * s + b then nI (wl (z - 4 * s)) else S.rI (x + 6) z) → (∀ z, S'.rI (x + 7) z = if 4 * s + i ≤ z ∧ z < 4 * s + b then nI (wh (z - 4 * s)) else S.rI (x + 7) z) → (∀ z, S'.rI (x + 8) z = if z = n then nI (2 * s) else S.rI (x + 8) z) → Q none S') → c_36_17 E (x + 3) (nI s) x2 (nI b) (nI i) S mr sr Q
  | 0, i, S, hi, hC, hW, h28, hQ => by
    obtain rfl : i = b := by omega
    have hb := hW.1
    have k3 := hC.obj (o := 3) (k := 6) (by decide)
    have R27 : S.R 27 (x + 3) = x + 8 := hC.ref (by decide)
    obtain ⟨a1, a2⟩ := hC.row (o := 8) (k := 15) (n := 80) (by decide)
    refine f_36_17 hE ⟨fun _ => ⟨by rw [k3]; rfl, fun z => absurd z (by rw [h28]; exact nI_ge (b := 80) hn (by decide)), fun _ => ⟨by rw [k3]; rfl, by rw [k3]; rfl, by rw [R27]; exact a1, by rw [h28, R27, a2]; exact vp_in_nI hn (by decide), ?_⟩⟩, fun z => absurd (nI_le (Nat.le_refl i) (by omega)) z⟩
    rw [h28, R27, nI_clamp (n := n) (by omega), show nI s * 2 = nI (2 * s) from by rw [show (2 : Int32) = nI 2 from rfl, pk_mul, Nat.mul_comm]]
    refine ⟨by show ox_has (S.K (x + 3)) 28 = true; rw [k3]; rfl, by show ox_has (S.K (x + 3)) 28 = true; rw [k3]; rfl, rfl, ?_⟩
    show Q none ((S.wI (x + 8) n (nI (2 * s))).sI 28 (x + 3) (S.I 28 (x + 3) + 1))
    rw [h28, nI_1]
    refine hQ _ rfl rfl rfl rfl rfl rfl rfl (fun F a q => ?_) (if_pos ⟨rfl, rfl⟩) (fun a q1 q2 q3 => ?_) (fun z => ?_) (fun z => ?_) (fun z => ?_)
    · exact if_neg q
    · exact funext fun j => if_neg (fun e => q3 e.1)
    · rw [if_neg (by omega)]
      exact if_neg (fun e => by omega)
    · rw [if_neg (by omega)]
      exact if_neg (fun e => by omega)
    · show (if x + 8 = x + 8 ∧ z = n then nI (2 * s) else S.rI (x + 8) z) = _
      by_cases hz : z = n
      · rw [if_pos ⟨rfl, hz⟩, if_pos hz]
      · rw [if_neg (fun e => hz e.2), if_neg hz]
  | r + 1, i, S, hi, hC, hW, h28, hQ => by
    have hb := hW.1
    have hib : i < b := by omega
    obtain ⟨w1, w2, w3, w4⟩ := hW.2 i hib
    have k3 := hC.obj (o := 3) (k := 6) (by decide)
    have R25 : S.R 25 (x + 3) = x + 6 := hC.ref (by decide)
    have R26 : S.R 26 (x + 3) = x + 7 := hC.ref (by decide)
    have R30 : S.R 30 (x + 3) = x + 9 := hC.ref (by decide)
    have R31 : S.R 31 (x + 3) = x + 10 := hC.ref (by decide)
    obtain ⟨a1, a2⟩ := hC.row (o := 6) (k := 15) (n := 320) (by decide)
    obtain ⟨a3, a4⟩ := hC.row (o := 7) (k := 15) (n := 320) (by decide)
    obtain ⟨a5, a6⟩ := hC.row (o := 9) (k := 15) (n := 4) (by decide)
    obtain ⟨a7, a8⟩ := hC.row (o := 10) (k := 15) (n := 4) (by decide)
    have em : nI s * 4 + nI i = nI (4 * s + i) := by rw [show (4 : Int32) = nI 4 from rfl, pk_mul, nI_add, Nat.mul_comm]
    refine f_36_17 hE ⟨fun z => absurd z (nI_ge hib (by omega)), fun _ => ⟨fun z => absurd z (nI_ge (b := 4) (by omega) (by decide)), fun _ => ?_⟩⟩
    rw [em, k3, R25, R30, a1, a2, a5, a6, nI_clamp (n := 4 * s + i) (by omega), nI_clamp (n := i) (by omega), w1]
    refine ⟨rfl, rfl, rfl, vp_in_nI (by omega) (by decide), rfl, vp_in_nI (by omega) (by decide), ?_⟩
    show ox_has (S.K (x + 3)) 26 = true ∧ ox_has (S.K (x + 3)) 31 = true ∧ ox_rdI (S.K (S.R 31 (x + 3))) = true ∧ vp_in (nI i) (S.len (S.R 31 (x + 3))) ∧ S.K (S.R 26 (x + 3)) = 15 ∧ vp_in (nI (4 * s + i)) (S.len (S.R 26 (x + 3))) ∧ c_36_17 E (x + 3) (nI s) x2 (nI b) (nI i + 1) ((S.wI (x + 6) (4 * s + i) (nI (wl i))).wI (S.R 26 (x + 3)) (4 * s + i) ((S.wI (x + 6) (4 * s + i) (nI (wl i))).rI (S.R 31 (x + 3)) i)) mr sr Q
    rw [k3, R26, R31, a3, a4, a7, a8, nI_1, or_wI_rI, if_neg (fun e => by omega), w2]
    refine ⟨rfl, rfl, rfl, vp_in_nI (by omega) (by decide), rfl, vp_in_nI (by omega) (by decide), ?_⟩
    have g : lkF x S ((S.wI (x + 6) (4 * s + i) (nI (wl i))).wI (x + 7) (4 * s + i) (nI (wh i))) := (lkF_wI (by omega) (by omega)).trans (lkF_wI (by omega) (by omega))
    have e6 : ∀ z, ((S.wI (x + 6) (4 * s + i) (nI (wl i))).wI (x + 7) (4 * s + i) (nI (wh i))).rI (x + 6) z = if z = 4 * s + i then nI (wl i) else S.rI (x + 6) z := fun z => by
      rw [or_wI_rI, if_neg (fun e => by omega), or_wI_rI]
      by_cases e : z = 4 * s + i
      · rw [if_pos ⟨rfl, e⟩, if_pos e]
      · rw [if_neg (fun y => e y.2), if_neg e]
    have e7 : ∀ z, ((S.wI (x + 6) (4 * s + i) (nI (wl i))).wI (x + 7) (4 * s + i) (nI (wh i))).rI (x + 7) z = if z = 4 * s + i then nI (wh i) else S.rI (x + 7) z := fun z => by
      rw [or_wI_rI]
      by_cases e : z = 4 * s + i
      · rw [if_pos ⟨rfl, e⟩, if_pos e]
      · rw [if_neg (fun y => e y.2), if_neg e, or_wI_rI, if_neg (fun y => by omega)]
    have e8 : ∀ z, ((S.wI (x + 6) (4 * s + i) (nI (wl i))).wI (x + 7) (4 * s + i) (nI (wh i))).rI (x + 8) z = S.rI (x + 8) z := fun z => by
      rw [or_wI_rI, if_neg (fun e => by omega), or_wI_rI, if_neg (fun e => by omega)]
    refine s_36_17 (wl := wl) (wh := wh) hE hs hn r (i + 1) _ (by omega) (hC.lk g) ⟨hb, fun j hj => ?_⟩ h28 (fun S' q1 q2 q3 q4 q5 q6 q7 q8 q9 q10 q11 q12 q13 => hQ S' q1 q2 q3 q4 q5 q6 q7 q8 q9 (fun a y1 y2 y3 => ?_) (fun z => ?_) (fun z => ?_) (fun z => ?_))
    · obtain ⟨v1, v2, v3, v4⟩ := hW.2 j hj
      rw [or_wI_rI, if_neg (fun e => by omega), or_wI_rI, if_neg (fun e => by omega), or_wI_rI, if_neg (fun e => by omega), or_wI_rI, if_neg (fun e => by omega)]
      exact ⟨v1, v2, v3, v4⟩
    · rw [q10 a y1 y2 y3]
      exact funext fun j => by rw [or_wI_rI, if_neg (fun e => y2 e.1), or_wI_rI, if_neg (fun e => y1 e.1)]
    · rw [q11 z, e6 z]
      by_cases z1 : 4 * s + (i + 1) ≤ z ∧ z < 4 * s + b
      · rw [if_pos z1, if_pos (by omega)]
      · rw [if_neg z1]
        by_cases z2 : z = 4 * s + i
        · rw [if_pos z2, if_pos (by omega), z2, Nat.add_sub_cancel_left]
        · rw [if_neg z2, if_neg (by omega)]
    · rw [q12 z, e7 z]
      by_cases z1 : 4 * s + (i + 1) ≤ z ∧ z < 4 * s + b
      · rw [if_pos z1, if_pos (by omega)]
      · rw [if_neg z1]
        by_cases z2 : z = 4 * s + i
        · rw [if_pos z2, if_pos (by omega), z2, Nat.add_sub_cancel_left]
        · rw [if_neg z2, if_neg (by omega)]
    · rw [q13 z, e8 z]
end OLK
