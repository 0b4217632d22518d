/-! reading the tape: names -/
/-- k letters -/
def bwZ (b : Nat → Nat) (e : Nat) (s : oTS) : Nat → oTS
  | 0 => s
  | k + 1 => bwS b e 97 122 (bwZ b e s k)
def nmL (b : Nat → Nat) (e : Nat) (s : oTS) : Nat := if (bwS b e 1 8 s).2 = none then b s.1 else 0
def nm1 (b : Nat → Nat) (e : Nat) (s : oTS) : oTS := bwZ b e (bwS b e 1 8 s) (nmL b e s)
/-- behind k names -/
def nmN (b : Nat → Nat) (e : Nat) (s : oTS) : Nat → oTS
  | 0 => s
  | k + 1 => nm1 b e (nmN b e s k)
/-- a name out of letters -/
def nmV (b : Nat → Nat) (q : Nat) : Nat → Nat
  | 0 => 0
  | k + 1 => nmV b q k * 256 + b (q + k)
theorem bwZ_none {b : Nat → Nat} {e : Nat} {s : oTS} : ∀ k, (bwZ b e s k).2 = none → s.2 = none ∧ (k = 0 ∨ s.1 + k ≤ e) ∧ bwZ b e s k = (s.1 + k, none)
  | 0, h => ⟨h, Or.inl rfl, by obtain ⟨p, f⟩ := s; have : f = none := h; rw [this]; rfl⟩
  | k + 1, h => by
    obtain ⟨g1, g2, g3, -⟩ := bwS_none (s := bwZ b e s k) h
    obtain ⟨i1, i3, i4⟩ := bwZ_none k g1
    rw [i4] at g2
    have : s.1 + k < e := g2.1
    refine ⟨i1, Or.inr (by omega), ?_⟩
    show bwS b e 97 122 (bwZ b e s k) = _
    rw [g3, i4]
    rfl
theorem bwZ_some {b : Nat → Nat} {e : Nat} {s : oTS} {i p v : Nat} (h : bwZ b e s i = (p, some v)) : ∀ k, bwZ b e s (i + k) = (p, some v)
  | 0 => h
  | k + 1 => by
    show bwS b e 97 122 (bwZ b e s (i + k)) = _
    rw [bwZ_some h k]
    rfl
theorem bwZ_flt {b : Nat → Nat} {e : Nat} {s : oTS} (h : s.2 ≠ none) (k : Nat) : bwZ b e s k = s := by
  obtain ⟨p, f⟩ := s
  cases f with
  | none => exact absurd rfl h
  | some v =>
    have := bwZ_some (b := b) (e := e) (s := (p, some v)) (i := 0) rfl k
    rw [Nat.zero_add] at this
    exact this
theorem bwS_flt {b : Nat → Nat} {e lo hi : Nat} {s : oTS} (h : s.2 ≠ none) : bwS b e lo hi s = s := by
  obtain ⟨p, f⟩ := s
  cases f with
  | none => exact absurd rfl h
  | some v => rfl
theorem bwV_flt {b : Nat → Nat} {e lo hi : Nat} {s : oTS} (h : (bwS b e lo hi s).2 ≠ none) : bwV b e lo hi s = -1 := by
  obtain ⟨p, f⟩ := s
  cases f with
  | some v => rfl
  | none => exact bwV_no (fun c => h (by rw [bwS_ok c]))
theorem nm1_flt {b : Nat → Nat} {e : Nat} {s : oTS} (h : s.2 ≠ none) : nm1 b e s = s := by
  unfold nm1
  rw [bwS_flt h, bwZ_flt h]
theorem nmN_flt {b : Nat → Nat} {e : Nat} {s : oTS} {i : Nat} (h : (nmN b e s i).2 ≠ none) : ∀ k, nmN b e s (i + k) = nmN b e s i
  | 0 => rfl
  | k + 1 => by
    show nm1 b e (nmN b e s (i + k)) = _
    rw [nmN_flt h k, nm1_flt h]
theorem nmL_le {b : Nat → Nat} {e : Nat} {s : oTS} : nmL b e s ≤ 8 := by
  unfold nmL
  by_cases c : (bwS b e 1 8 s).2 = none
  · rw [if_pos c]; exact (bwS_none c).2.1.2.2
  · rw [if_neg c]; decide
theorem nmV_lt {b : Nat → Nat} {q : Nat} : ∀ k, (∀ i, i < k → b (q + i) < 256) → nmV b q k < 256 ^ k
  | 0, _ => by show 0 < 1; decide
  | k + 1, h => by
    have h1 := nmV_lt k (fun i hi => h i (by omega))
    have h2 := h k (Nat.lt_succ_self k)
    show nmV b q k * 256 + b (q + k) < 256 ^ (k + 1)
    rw [Nat.pow_succ]
    omega
theorem prF_wJ {x t i : Nat} {S0 S : ox_St} {v : Int64} (h : prF x S0 S) (ht : S0.n ≤ t) : prF x S0 (S.wJ t i v) := by
  obtain ⟨h1, h2, h3, h4, h5, h6, h7⟩ := h
  exact ⟨h1, h2, h3.trans ((oAg_wJ (P := fun a => a < S0.n) (fun z => by omega)).sub (fun a ha => ha.1)), h4, h5, h6, h7⟩
theorem tpS_wJ {S : ox_St} {x t i e : Nat} {b : Nat → Nat} {s : oTS} {v : Int64} (h : tpS S x b e s) : tpS (S.wJ t i v) x b e s := by
  obtain ⟨h1, h2, h3, h4, h5, h6, h7, h8⟩ := h
  exact ⟨h1.next (fun _ _ _ => ⟨rfl, rfl⟩) (fun _ _ _ _ _ _ _ _ _ => rfl) (fun _ _ _ _ _ => rfl) rfl rfl rfl, h2, h3, h4, h5, h6, h7, h8⟩
section ONM
variable {sp : ox_E} {d mr sr : Nat} {S : ox_St} {Q : ox_Q} {x e : Nat} {b : Nat → Nat} {s : oTS}
/-- the letters of one name -/
theorem s_125_36 (hsp : ox_mono sp) {S0 : ox_St} (hx : x + 76 ≤ S0.n) {n L i : Nat} {c x4 : Int32} {s1 : oTS} (hi : i < n) (hn : n ≤ 12) (hL : L ≤ 8) (hx4 : x4 = nI L ∨ x4 = -1 ∧ L = 0) (hs1 : s1.1 ≤ e)
    (hQ : ∀ S', prF x S0 S' → S'.n = S0.n + 1 → S'.K S0.n = 16 → S'.len S0.n = n → tpS S' x b e (bwZ b e s1 L) → ((bwZ b e s1 L).2 = none → S'.rJ S0.n i = lN (nmV b s1.1 L)) → (∀ j, j ≠ i → S'.rJ S0.n j = S.rJ S0.n j) → c_125_10 (ox_M sp (d + 1)) x c S0.n (nI (i + 1)) S' mr sr Q) : ∀ (r j : Nat) (S1 : ox_St), j + r = L → prF x S0 S1 → S1.n = S0.n + 1 → S1.K S0.n = 16 → S1.len S0.n = n → tpS S1 x b e (bwZ b e s1 j) → ((bwZ b e s1 j).2 = none → S1.rJ S0.n i = lN (nmV b s1.1 j)) → (∀ j, j ≠ i → S1.rJ S0.n j = S.rJ S0.n j) → c_125_36 (ox_M sp (d + 1)) x c S0.n (nI i) x4 (nI j) S1 mr sr Q := by
  have hE : ox_mono (ox_M sp (d + 1)) := ox_M_mono hsp _
  intro r
  induction r with
  | zero =>
    intro j S1 hj t0 tn kt lt h hw ho
    obtain rfl : j = L := by omega
    refine f_125_36 hE ⟨fun _ => ?_, fun z => absurd ?_ z⟩
    · rw [nI_1]; exact hQ S1 t0 tn kt lt h hw ho
    · rcases hx4 with e1 | ⟨e1, e2⟩
      · rw [e1]; exact nI_le (Nat.le_refl _) (by omega)
      · rw [e1, e2]; decide
  | succ r ih =>
    intro j S1 hj t0 tn kt lt h hw ho
    have hx4' : x4 = nI L := hx4.resolve_right (fun e1 => by omega)
    have k : S1.K x = 13 := h.1.obj (o := 0) (k := 13) (by decide)
    have i3 := h.2.2.2.2.2.1
    refine f_125_36 hE ?_
    unfold q_125_36
    rw [k, kt, lt, hx4', nI_1 i, nI_clamp (n := i) (by omega)]
    refine ⟨fun z => absurd z (nI_ge (by omega) (by omega)), fun _ => ⟨rfl, fun z => ?_, fun z => ⟨rfl, vp_in_nI hi (by omega), by decide, rfl, by decide, 0, 0, Nat.zero_le _, Nat.zero_le _, ?_⟩⟩⟩
    · cases hf : (bwZ b e s1 j).2 with
      | none => rw [hf] at i3; exact absurd i3 z
      | some v =>
        have hst : bwZ b e s1 j = ((bwZ b e s1 j).1, some v) := by rw [← hf]
        have hlast := bwZ_some hst (L - j)
        rw [show j + (L - j) = L by omega, ← hst] at hlast
        exact hQ S1 t0 tn kt lt (by rw [hlast]; exact h) (fun z => by rw [hlast, hf] at z; cases z) ho
    · refine s_115 (lo := 97) (hi := 122) hsp h (by omega) (by decide) (by decide) (fun S2 f2 n2 h2 => f_125_67 hE ?_)
      have at2 := f2.2.2.1 S0.n ⟨by omega, by omega, by omega, by rw [kt]; decide⟩
      have k2t : S2.K S0.n = 16 := at2.1.trans kt
      have l2t : S2.len S0.n = n := at2.2.1.trans lt
      unfold q_125_67
      rw [k2t, l2t, nI_clamp (n := i) (by omega), nI_1, ← hx4']
      refine ⟨rfl, vp_in_nI hi (by omega), ?_⟩
      refine ih (j + 1) (S2.wJ S0.n i ((S1.rJ S0.n i <<< (Int32.toInt64 8 &&& 63)) ||| Int32.toInt64 (bwV b e 97 122 (bwZ b e s1 j)))) (by omega) (prF_wJ (t0.trans f2) (Nat.le_refl _)) (n2.trans tn) k2t l2t (tpS_wJ h2) (fun z => ?_) (fun v hv => ?_)
      · obtain ⟨g1, g2, g3, g4⟩ := bwS_none (s := bwZ b e s1 j) z
        obtain ⟨c1, c3, c4⟩ := bwZ_none j g1
        rw [or_wJ_rJ, if_pos ⟨rfl, rfl⟩, hw g1, g4, c4]
        rw [c4] at g2
        have e1 : b (s1.1 + j) ≤ 122 := g2.2.2
        have e0 : s1.1 + j < e := g2.1
        have hv : nmV b s1.1 j < 256 ^ 7 := Nat.lt_of_lt_of_le (nmV_lt j (fun q hq => (h.2.2.2.2.2.2.2 _ (by omega)).2)) (Nat.pow_le_pow_right (by decide) (by omega))
        show (lN (nmV b s1.1 j) <<< (Int32.toInt64 8 &&& 63)) ||| Int32.toInt64 (nI (b (s1.1 + j))) = lN (nmV b s1.1 j * 256 + b (s1.1 + j))
        rw [show Int32.toInt64 8 = (nI 8).toInt64 from rfl, wb_shl _ (by decide), nI_l (by omega)]
        exact g_or (k := 8) (p := 256) rfl (by omega) (by omega)
      · rw [or_wJ_rJ, if_neg (fun y => hv y.2), at2.2.2.2.2.2.2.2 v]
        exact ho v hv
/-- names, one after the other -/
theorem s_125_10 (hsp : ox_mono sp) {S0 : ox_St} (hx : x + 76 ≤ S0.n) {n : Nat} {c : Int32} {s0 : oTS} (hn : n ≤ 12)
    (hQ : ∀ S', prF x S0 S' → S'.n = S0.n + 1 → tpS S' x b e (nmN b e s0 n) → S'.K S0.n = 16 → S'.len S0.n = n → ((nmN b e s0 n).2 = none → ∀ j, j < n → S'.rJ S0.n j = lN (nmV b ((nmN b e s0 j).1 + 1) (nmL b e (nmN b e s0 j)))) → Q (some (.inr (.inr S0.n))) S') : ∀ (r i : Nat) (S : ox_St), i + r = n → prF x S0 S → S.n = S0.n + 1 → S.K S0.n = 16 → S.len S0.n = n → tpS S x b e (nmN b e s0 i) → ((nmN b e s0 i).2 = none → ∀ j, j < i → S.rJ S0.n j = lN (nmV b ((nmN b e s0 j).1 + 1) (nmL b e (nmN b e s0 j)))) → (∀ j, i ≤ j → j < n → S.rJ S0.n j = 0) → c_125_10 (ox_M sp (d + 1)) x c S0.n (nI i) S mr sr Q := by
  have hE : ox_mono (ox_M sp (d + 1)) := ox_M_mono hsp _
  intro r
  induction r with
  | zero =>
    intro i S hi t0 tn kt lt h hw hz
    obtain rfl : i = n := by omega
    refine f_125_10 hE ?_
    unfold q_125_10
    rw [kt, lt]
    exact ⟨rfl, fun _ => ⟨rfl, hQ S t0 tn h kt lt hw⟩, fun z => absurd (nI_le (Nat.le_refl i) (by omega)) z⟩
  | succ r ih =>
    intro i S hi t0 tn kt lt h hw hz
    have hin : i < n := by omega
    have k : S.K x = 13 := h.1.obj (o := 0) (k := 13) (by decide)
    have i3 := h.2.2.2.2.2.1
    refine f_125_10 hE ?_
    unfold q_125_10
    rw [kt, lt, k]
    refine ⟨rfl, fun z => absurd z (nI_ge hin (by omega)), fun _ => ⟨rfl, fun z => ⟨rfl, ?_⟩, fun z => ⟨by decide, rfl, by decide, 0, 0, Nat.zero_le _, Nat.zero_le _, ?_⟩⟩⟩
    · have hf : (nmN b e s0 i).2 ≠ none := fun e1 => by rw [e1] at i3; exact z i3
      have hlast := nmN_flt hf (n - i)
      rw [show i + (n - i) = n by omega] at hlast
      exact hQ S t0 tn (by rw [hlast]; exact h) kt lt (fun y => absurd (by rw [hlast] at y; exact y) hf)
    · refine s_115 (lo := 1) (hi := 8) hsp h (by omega) (by decide) (by decide) (fun S1 f1 n1 h1 => f_125_31 hE ?_)
      have at1 := f1.2.2.1 S0.n ⟨by omega, by omega, by omega, by rw [kt]; decide⟩
      have k1t : S1.K S0.n = 16 := at1.1.trans kt
      have l1t : S1.len S0.n = n := at1.2.1.trans lt
      have hx4 : bwV b e 1 8 (nmN b e s0 i) = nI (nmL b e (nmN b e s0 i)) ∨ bwV b e 1 8 (nmN b e s0 i) = -1 ∧ nmL b e (nmN b e s0 i) = 0 := by
        by_cases q : (bwS b e 1 8 (nmN b e s0 i)).2 = none
        · left
          have : nmL b e (nmN b e s0 i) = b (nmN b e s0 i).1 := if_pos q
          rw [this]
          exact (bwS_none q).2.2.2
        · exact Or.inr ⟨bwV_flt q, if_neg q⟩
      show c_125_36 (ox_M sp (d + 1)) x c S0.n (nI i) (bwV b e 1 8 (nmN b e s0 i)) (nI 0) S1 mr sr Q
      refine s_125_36 (S := S) (L := nmL b e (nmN b e s0 i)) (s1 := bwS b e 1 8 (nmN b e s0 i)) hsp hx hin hn nmL_le hx4 h1.2.2.2.2.1 (fun S' q1 q2 q3 q4 q5 q6 q7 => ?_) (nmL b e (nmN b e s0 i)) 0 S1 (Nat.zero_add _) (t0.trans f1) (n1.trans tn) k1t l1t h1 (fun _ => ?_) (fun j _ => at1.2.2.2.2.2.2.2 j)
      · refine ih (i + 1) S' (by omega) q1 q2 q3 q4 q5 (fun y j hj => ?_) (fun j j1 j2 => ?_)
        · have y0 : (bwZ b e (bwS b e 1 8 (nmN b e s0 i)) (nmL b e (nmN b e s0 i))).2 = none := y
          obtain ⟨c1, -, -⟩ := bwZ_none _ y0
          obtain ⟨g1, g2, g3, -⟩ := bwS_none c1
          by_cases hj2 : j = i
          · rw [hj2, q6 y0]
            have e1 : (bwS b e 1 8 (nmN b e s0 i)).1 = (nmN b e s0 i).1 + 1 := by rw [g3]
            rw [e1]
          · rw [q7 j hj2]
            exact hw g1 j (by omega)
        · rw [q7 j (by omega)]
          exact hz j (by omega) j2
      · rw [at1.2.2.2.2.2.2.2 i, hz i (Nat.le_refl _) hin]
        rfl
/-- names -/
theorem s_125 (hsp : ox_mono sp) (h : tpS S x b e s) (hx : x + 76 ≤ S.n) {n : Nat} {c : Int32} (hn : n ≤ 12) (hc : c = nI n ∨ c = -1 ∧ n = 0) (hm : 1 ≤ mr) (hs : 12 ≤ sr)
    (hQ : ∀ S', prF x S S' → S'.n = S.n + 1 → tpS S' x b e (nmN b e s n) → S'.K S.n = 16 → S'.len S.n = n → ((nmN b e s n).2 = none → ∀ j, j < n → S'.rJ S.n j = lN (nmV b ((nmN b e s j).1 + 1) (nmL b e (nmN b e s j)))) → Q (some (.inr (.inr S.n))) S') : ox_M sp (d + 2) 125 [.inr (.inr x), .inl c] mr sr S Q := by
  have hcnt : (if c < 0 then 0 else c) = nI n := by
    rcases hc with e1 | ⟨e1, e2⟩
    · rw [e1, if_neg (nI_pos (by omega))]
    · rw [e1, e2]; rfl
  refine f_125 hsp ?_
  unfold q_125
  rw [hcnt, nI_clamp (n := n) (by omega)]
  refine ⟨by decide, nI_pos (by omega), by omega, hm, by omega, ?_⟩
  have ag : oAg (fun a => a < S.n) S (S.newA 16 n) := oAg_newA (P := fun a => a < S.n) (Nat.lt_irrefl _)
  have f4 : prF x S (S.newA 16 n) := prF_new (Nat.le_succ _) ag (by omega)
  have a0 := ag x (by show x < S.n; omega)
  have h4 := h.keep f4 (by omega) (a0.2.2.1 62) (a0.2.2.1 63)
  show c_125_10 (ox_M sp (d + 1)) x c S.n (nI 0) (S.newA 16 n) (mr - 1) (sr - n) Q
  exact s_125_10 (S0 := S) hsp hx hn hQ n 0 (S.newA 16 n) (Nat.zero_add _) f4 rfl (by rw [or_newA_K, if_pos rfl]) (by rw [or_newA_len, if_pos rfl]) h4 (fun _ j hj => absurd hj (Nat.not_lt_zero j)) (fun j _ _ => if_pos rfl)
end ONM
