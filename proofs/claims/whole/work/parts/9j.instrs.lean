/-! reading the tape: instructions -/
/-- an odd size is refused where it stands -/
def inA (b : Nat → Nat) (e : Nat) (s : oTS) : oTS := if s.1 < e ∧ b s.1 % 2 = 0 then s else rfS s
/-- behind the size -/
def inB (b : Nat → Nat) (e : Nat) (s : oTS) : oTS := bwS b e 2 160 (inA b e s)
/-- how many bytes are made room for -/
def inL (b : Nat → Nat) (e : Nat) (s : oTS) : Nat := if (inB b e s).2 = none then b s.1 else 0
/-- behind all of it -/
def inS (b : Nat → Nat) (e : Nat) (s : oTS) : oTS := bwN b e (bwS b e 0 0 (inB b e s)) (inL b e s)
theorem rfS_some (s : oTS) : (rfS s).2 ≠ none := by
  obtain ⟨p, f⟩ := s
  cases f with
  | some v => exact fun z => by cases z
  | none => exact fun z => by cases z
theorem rfS_1 (s : oTS) : (rfS s).1 = s.1 := by
  obtain ⟨p, f⟩ := s
  cases f <;> rfl
theorem inB_none {b : Nat → Nat} {e : Nat} {s : oTS} (h : (inB b e s).2 = none) : s.2 = none ∧ s.1 < e ∧ (2 ≤ b s.1 ∧ b s.1 ≤ 160 ∧ b s.1 % 2 = 0) ∧ inB b e s = (s.1 + 1, none) ∧ bwV b e 2 160 (inA b e s) = nI (b s.1) := by
  unfold inB at h ⊢
  obtain ⟨g1, g2, g3, g4⟩ := bwS_none h
  have hc : s.1 < e ∧ b s.1 % 2 = 0 := Decidable.not_not.mp fun c => by
    unfold inA at g1
    rw [if_neg c] at g1
    exact rfS_some s g1
  have hA : inA b e s = s := if_pos hc
  rw [hA] at g1 g2 g3 g4 ⊢
  exact ⟨g1, hc.1, ⟨g2.2.1, g2.2.2, hc.2⟩, g3, g4⟩
theorem inB_some {b : Nat → Nat} {e : Nat} {s : oTS} (h : (inB b e s).2 ≠ none) : bwV b e 2 160 (inA b e s) = -1 := by
  unfold inB at h
  generalize inA b e s = u at h
  obtain ⟨p, f⟩ := u
  cases f with
  | some v => rfl
  | none =>
    refine bwV_no (fun c => h ?_)
    rw [bwS_ok c]
theorem inL_le {b : Nat → Nat} {e : Nat} {s : oTS} : inL b e s ≤ 160 := by
  unfold inL
  by_cases c : (inB b e s).2 = none
  · rw [if_pos c]; exact (inB_none c).2.2.1.2.1
  · rw [if_neg c]; decide
theorem bwN_some {b : Nat → Nat} {e : Nat} {s : oTS} {i p v : Nat} (h : bwN b e s i = (p, some v)) : ∀ k, bwN b e s (i + k) = (p, some v)
  | 0 => h
  | k + 1 => by
    show bwS b e 0 255 (bwN b e s (i + k)) = _
    rw [bwN_some h k]
    rfl
section OIN
variable {sp : ox_E} {d mr sr : Nat} {S : ox_St} {Q : ox_Q} {x e : Nat} {b : Nat → Nat} {s : oTS}
theorem s_124_39 (hsp : ox_mono sp) {S0 : ox_St} (hx : x + 76 ≤ S0.n) {n : Nat} {c : Int32} {s0 : oTS} (hn : n ≤ 160)
    (hQ : ∀ S', prF x S0 S' → S'.n = S0.n + 1 → tpS S' x b e (bwN b e s0 n) → S'.K S0.n = 15 → S'.len S0.n = n → ((bwN b e s0 n).2 = none → ∀ j, j < n → S'.rI S0.n j = nI (b (s0.1 + j))) → Q (some (.inr (.inr S0.n))) S') : ∀ (r i : Nat) (S : ox_St), i + r = n → prF x S0 S → S.n = S0.n + 1 → S.K S0.n = 15 → S.len S0.n = n → tpS S x b e (bwN b e s0 i) → ((bwN b e s0 i).2 = none → ∀ j, j < i → S.rI S0.n j = nI (b (s0.1 + j))) → c_124_39 (ox_M sp (d + 1)) x c S0.n (nI i) S mr sr Q := by
  have hE : ox_mono (ox_M sp (d + 1)) := ox_M_mono hsp _
  intro r
  induction r with
  | zero =>
    intro i S hi t0 tn kt lt h hw
    obtain rfl : i = n := by omega
    refine f_124_39 hE ?_
    unfold q_124_39
    rw [kt, lt]
    exact ⟨rfl, fun _ => ⟨rfl, hQ S t0 tn h kt lt hw⟩, fun z => absurd (nI_le (Nat.le_refl i) (by omega)) z⟩
  | succ r ih =>
    intro i S hi t0 tn kt lt h hw
    have hin : i < n := by omega
    have k : S.K x = 13 := h.1.obj (o := 0) (k := 13) (by decide)
    have i3 := h.2.2.2.2.2.1
    refine f_124_39 hE ?_
    unfold q_124_39
    rw [kt, lt, k]
    refine ⟨rfl, fun z => absurd z (nI_ge hin (by omega)), fun _ => ⟨rfl, fun z => ⟨rfl, ?_⟩, fun z => ⟨by decide, rfl, by decide, 0, 0, Nat.zero_le _, Nat.zero_le _, ?_⟩⟩⟩
    · cases hf : (bwN b e s0 i).2 with
      | none => rw [hf] at i3; exact absurd i3 z
      | some v =>
        have hst : bwN b e s0 i = ((bwN b e s0 i).1, some v) := by rw [← hf]
        have hlast := bwN_some hst (n - i)
        rw [show i + (n - i) = n by omega, ← hst] at hlast
        exact hQ S t0 tn (by rw [hlast]; exact h) kt lt (fun z => by rw [hlast, hf] at z; cases z)
    · refine s_115 (lo := 0) (hi := 255) hsp h (by omega) (by decide) (by decide) (fun S1 f1 n1 h1 => f_124_63 hE ?_)
      have at1 := f1.2.2.1 S0.n ⟨by omega, by omega, by omega, by rw [kt]; decide⟩
      have k1t : S1.K S0.n = 15 := at1.1.trans kt
      have l1t : S1.len S0.n = n := at1.2.1.trans lt
      have m1 : S1.n = S0.n + 1 := n1.trans tn
      unfold q_124_63
      rw [k1t, l1t, nI_clamp (n := i) (by omega), nI_1]
      refine ⟨rfl, vp_in_nI hin (by omega), ?_⟩
      refine ih (i + 1) (S1.wI S0.n i (bwV b e 0 255 (bwN b e s0 i))) (by omega) (prF_wI (t0.trans f1) (Nat.le_refl _) hx) m1 k1t l1t (tpS_wI h1 hx) (fun z j hj => ?_)
      obtain ⟨g1, g2, g3, g4⟩ := bwS_none (s := bwN b e s0 i) z
      obtain ⟨c1, -, c3, c4⟩ := bwN_none i g1
      rw [or_wI_rI]
      by_cases hj2 : j = i
      · rw [if_pos ⟨rfl, hj2⟩, g4, c4, hj2]
      · rw [if_neg (fun y => hj2 y.2), at1.2.2.2.2.2.1 j]
        exact hw g1 j (by omega)
/-- instructions -/
theorem s_124 (hsp : ox_mono sp) (h : tpS S x b e s) (hx : x + 76 ≤ S.n) (hm : 1 ≤ mr) (hs : 160 ≤ sr)
    (hQ : ∀ S', prF x S S' → S'.n = S.n + 1 → tpS S' x b e (inS b e s) → S'.K S.n = 15 → S'.len S.n = inL b e s → ((inS b e s).2 = none → ∀ j, j < inL b e s → S'.rI S.n j = nI (b (s.1 + 2 + j))) → Q (some (.inr (.inr S.n))) S') : ox_M sp (d + 2) 124 [.inr (.inr x)] mr sr S Q := by
  have hE : ox_mono (ox_M sp (d + 1)) := ox_M_mono hsp _
  have k : S.K x = 13 := h.1.obj (o := 0) (k := 13) (by decide)
  have hse := h.2.2.2.2.1
  have he := h.2.2.1
  have hb8 := h.2.2.2.2.2.2.2
  -- behind the parity
  have rest : ∀ S1, prF x S S1 → S1.n = S.n → tpS S1 x b e (inA b e s) → k_124_13 (ox_M sp (d + 1)) x mr sr Q none S1 := by
    intro S1 f1 n1 h1
    have k1 : S1.K x = 13 := h1.1.obj (o := 0) (k := 13) (by decide)
    refine f_124_13 hE ⟨by decide, k1, by decide, 0, 0, Nat.zero_le _, Nat.zero_le _, ?_⟩
    refine s_115 (lo := 2) (hi := 160) hsp h1 (by omega) (by decide) (by decide) (fun S2 f2 n2 h2 => f_124_21 hE ?_)
    have k2 : S2.K x = 13 := h2.1.obj (o := 0) (k := 13) (by decide)
    refine ⟨by decide, k2, by decide, 0, 0, Nat.zero_le _, Nat.zero_le _, ?_⟩
    refine s_115 (lo := 0) (hi := 0) hsp h2 (by omega) (by decide) (by decide) (fun S3 f3 n3 h3 => f_124_28 hE ?_)
    have hcnt : (if bwV b e 2 160 (inA b e s) < 0 then 0 else bwV b e 2 160 (inA b e s)) = nI (inL b e s) := by
      unfold inL
      by_cases c : (inB b e s).2 = none
      · obtain ⟨g1, g2, g3, g4, g5⟩ := inB_none c
        rw [if_pos c, g5, if_neg (nI_pos (by omega))]
      · rw [if_neg c, inB_some c]; rfl
    have hle := inL_le (b := b) (e := e) (s := s)
    have n13 : S3.n = S.n := (n3.trans n2).trans n1
    unfold q_124_28
    rw [hcnt, nI_clamp (n := inL b e s) (by omega)]
    refine ⟨by decide, nI_pos (by omega), by omega, hm, by omega, ?_⟩
    have ag : oAg (fun a => a < S3.n) S3 (S3.newA 15 (inL b e s)) := oAg_newA (P := fun a => a < S3.n) (Nat.lt_irrefl _)
    have f4 : prF x S3 (S3.newA 15 (inL b e s)) := prF_new (Nat.le_succ _) ag (by omega)
    have a0 := ag x (by show x < S3.n; omega)
    have h4 := h3.keep f4 (by omega) (a0.2.2.1 62) (a0.2.2.1 63)
    show c_124_39 (ox_M sp (d + 1)) x (bwV b e 2 160 (inA b e s)) S3.n (nI 0) (S3.newA 15 (inL b e s)) (mr - 1) (sr - inL b e s) Q
    refine s_124_39 (S0 := S3) hsp (by omega) hle (fun S' q1 q2 q3 q4 q5 q6 => ?_) (inL b e s) 0 (S3.newA 15 (inL b e s)) (Nat.zero_add _) f4 rfl (by rw [or_newA_K, if_pos rfl]) (by rw [or_newA_len, if_pos rfl]) h4 (fun _ j hj => absurd hj (Nat.not_lt_zero j))
    rw [n13] at q2 q4 q5 q6 ⊢
    refine hQ S' (((f1.trans f2).trans f3).trans q1) q2 q3 q4 q5 (fun z j hj => ?_)
    have hq := q6 z j hj
    obtain ⟨c1, -, -, -⟩ := bwN_none (inL b e s) z
    obtain ⟨g1, g2, g3, -⟩ := bwS_none c1
    obtain ⟨d1, d2, d3, d4, -⟩ := inB_none g1
    have e1 : (bwS b e 0 0 (inB b e s)).1 = s.1 + 2 := by rw [g3, d4]
    have hq' : S'.rI S.n j = nI (b ((bwS b e 0 0 (inB b e s)).1 + j)) := hq
    rw [e1] at hq'
    exact hq'
  refine f_124 hsp ⟨by decide, k, by decide, 0, 0, Nat.zero_le _, Nat.zero_le _, s_114 hsp h (f_124_4 hE ?_)⟩
  by_cases c : s.1 < e
  · have hbs := (hb8 _ c).2
    have em : nI (b s.1) - nI (b s.1) / 2 * 2 = nI (b s.1 % 2) := pk_rem (d := 2) (by omega) (by decide) (by decide)
    rw [if_pos c]
    unfold q_124_4
    rw [em]
    refine ⟨by decide, fun z => ?_, fun z => ⟨by decide, k, by decide, 0, 0, Nat.zero_le _, Nat.zero_le _, ?_⟩⟩
    · have z' : b s.1 % 2 = 0 := (nI_eq (b := 0) (by omega) (by decide)).mp z
      have hA : inA b e s = s := if_pos ⟨c, z'⟩
      exact rest S prF.refl rfl (by rw [hA]; exact h)
    · have hA : inA b e s = rfS s := if_neg (fun q => z (by rw [q.2]; rfl))
      exact s_113 hsp h hx (fun S1 f1 n1 h1 => rest S1 f1 n1 (by rw [hA]; exact h1))
  · rw [if_neg c]
    have hA : inA b e s = rfS s := if_neg (fun q => c q.1)
    refine ⟨by decide, fun z => absurd z (by decide), fun z => ⟨by decide, k, by decide, 0, 0, Nat.zero_le _, Nat.zero_le _, ?_⟩⟩
    exact s_113 hsp h hx (fun S1 f1 n1 h1 => rest S1 f1 n1 (by rw [hA]; exact h1))
end OIN
