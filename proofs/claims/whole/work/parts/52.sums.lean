/-! the class's calculator: what is made of a row, sums and differences of sizes -/
/-- a number's digits -/
def oDs (S : ox_St) (t : Nat) (f : Nat → Nat) (n : Nat) : Prop := S.K t = 15 ∧ S.len t = n ∧ n ≤ 16 ∧ ∀ i, i < n → S.rI t i = nI (f i) ∧ f i < 32768
def dg (f : Nat → Nat) (n i : Nat) : Nat := if i < n then f i else 0
theorem dg_lt {f : Nat → Nat} {n i : Nat} (h : ∀ i, i < n → f i < 32768) : dg f n i < 32768 := by
  unfold dg
  by_cases hi : i < n
  · rw [if_pos hi]; exact h i hi
  · rw [if_neg hi]; decide
/-- how many of a row's first n are wanted -/
def dct (w : Nat → Nat) : Nat → Nat
  | 0 => 0
  | n + 1 => if w n = 0 then dct w n else n + 1
theorem dct_le (w : Nat → Nat) : ∀ n, dct w n ≤ n
  | 0 => Nat.le_refl 0
  | n + 1 => by
    unfold dct
    by_cases h : w n = 0
    · rw [if_pos h]
      have := dct_le w n
      omega
    · rw [if_neg h]
      omega
theorem dct_spec (w : Nat → Nat) : ∀ n, (∀ i, dct w n ≤ i → i < n → w i = 0) ∧ (0 < dct w n → w (dct w n - 1) ≠ 0)
  | 0 => ⟨fun i _ h => absurd h (Nat.not_lt_zero _), fun h => absurd h (Nat.lt_irrefl 0)⟩
  | n + 1 => by
    obtain ⟨i1, i2⟩ := dct_spec w n
    unfold dct
    by_cases h : w n = 0
    · rw [if_pos h]
      refine ⟨fun i h1 h2 => ?_, i2⟩
      by_cases hi : i = n
      · rw [hi]; exact h
      · exact i1 i h1 (by omega)
    · rw [if_neg h]
      exact ⟨fun i h1 h2 => by omega, fun _ => h⟩
/-- a Num made of the first k of a row -/
def oMade (S : ox_St) (t k : Nat) (neg : Int32) : ox_St := oMkNum (oCpy (S.newO 8) t k) S.n (if neg = 0 ∨ k = 0 then 0 else 1) (S.n + 1)
section OSM
variable {sp : ox_E} {d mr sr : Nat} {S : ox_St} {Q : ox_Q}
theorem s_13 (hsp : ox_mono sp) {t n i : Nat} {f : Nat → Nat} (h : oDs S t f n) (hi : i < 2 ^ 31) (hQ : Q (some (.inl (nI (dg f n i)))) S) : ox_M sp (d + 1) 13 [.inr (.inr t), .inl (nI i)] mr sr S Q := by
  obtain ⟨h1, h2, h3, h4⟩ := h
  refine f_13 hsp ⟨by rw [h1]; rfl, fun q => ⟨trivial, ?_⟩, fun q => ?_⟩
  · rw [h2] at q
    have hle : n ≤ i := (nI_leI (by omega) hi).mp q
    unfold dg at hQ
    rw [if_neg (by omega)] at hQ
    exact hQ
  · rw [h2] at q
    have hlt : i < n := Nat.not_le.mp fun z => q ((nI_leI (by omega) hi).mpr z)
    unfold dg at hQ
    rw [if_pos hlt] at hQ
    refine ⟨by rw [h1]; rfl, by rw [h2]; exact vp_in_nI hlt (by omega), trivial, ?_⟩
    rw [nI_clamp hi, (h4 i hlt).1]
    exact hQ
/-- made: where there are 16 at most, and where there are more -/
theorem s_14_7 {t Ln : Nat} {w : Nat → Nat} {x1 neg : Int32} (hK : S.K t = 15) (hlen : S.len t = Ln) (hLn : Ln < 2 ^ 31) (h18 : 18 ≤ Ln) (htn : t ≠ S.n ∧ t < S.n) (hn0 : 0 < S.n) (hneg : neg = 0 ∨ neg = 1) (hm : 2 ≤ mr) (hs : 20 ≤ sr) : ∀ n : Nat, n ≤ Ln → (∀ i, i < n → S.rI t i = nI (w i) ∧ w i < 2 ^ 31) → (dct w n ≤ 16 → Q (some (.inr (.inr S.n))) (oMade S t (dct w n) neg)) → (16 < dct w n → Q (some (.inr (.inr 0))) S) → c_14_7 (ox_M lw_sp (d + 4)) t x1 neg (nI n) S mr sr Q := by
  have hE : ox_mono (ox_M lw_sp (d + 4)) := ox_M_mono lw_sp_mono _
  have mk : ∀ k : Nat, k ≤ 16 → Q (some (.inr (.inr S.n))) (oMade S t k neg) → 1 ≤ mr ∧ 4 ≤ sr ∧ ((neg = 0 → (2 ≤ 5 ∧ 3 ≤ 8 ∧ ∃ mc mk, mc ≤ (mr - 1) ∧ mk ≤ (sr - 4) ∧ ox_M lw_sp (d + 4) 231 [.inr (.inr t), .inl (nI k)] mc mk (S.newO 8) (k_14_57 (ox_M lw_sp (d + 4)) t x1 neg (nI k) 0 S.n S.n ((mr - 1) - mc) ((sr - 4) - mk) Q))) ∧ (¬ neg = 0 → ((nI k ≤ 0 → (2 ≤ 5 ∧ 3 ≤ 8 ∧ ∃ mc mk, mc ≤ (mr - 1) ∧ mk ≤ (sr - 4) ∧ ox_M lw_sp (d + 4) 231 [.inr (.inr t), .inl (nI k)] mc mk (S.newO 8) (k_14_57 (ox_M lw_sp (d + 4)) t x1 neg (nI k) 0 S.n S.n ((mr - 1) - mc) ((sr - 4) - mk) Q))) ∧ (¬ nI k ≤ 0 → (2 ≤ 5 ∧ 3 ≤ 8 ∧ ∃ mc mk, mc ≤ (mr - 1) ∧ mk ≤ (sr - 4) ∧ ox_M lw_sp (d + 4) 231 [.inr (.inr t), .inl (nI k)] mc mk (S.newO 8) (k_14_57 (ox_M lw_sp (d + 4)) t x1 neg (nI k) 1 S.n S.n ((mr - 1) - mc) ((sr - 4) - mk) Q)))))) := by
    intro k hk hQ
    have call : ∀ v : Int32, (v = 0 ∨ v = 1) → v = (if neg = 0 ∨ k = 0 then 0 else 1) → (2 ≤ 5 ∧ 3 ≤ 8 ∧ ∃ mc mk, mc ≤ (mr - 1) ∧ mk ≤ (sr - 4) ∧ ox_M lw_sp (d + 4) 231 [.inr (.inr t), .inl (nI k)] mc mk (S.newO 8) (k_14_57 (ox_M lw_sp (d + 4)) t x1 neg (nI k) v S.n S.n ((mr - 1) - mc) ((sr - 4) - mk) Q)) := by
      intro v hv hv2
      have hKt : (S.newO 8).K t = 15 := (if_neg htn.1).trans hK
      refine ⟨by decide, by decide, 1, 16, by omega, by omega, s_231 (d := d) hKt (by show t ≠ S.n + 1; omega) (by show k < S.len t; omega) (by show S.len t < 2 ^ 31; omega) (by omega) (by omega) hk ?_⟩
      refine f_14_57 hE ⟨by decide, by omega, by decide, 0, 0, Nat.zero_le _, Nat.zero_le _, ?_⟩
      have hKn : (oCpy (S.newO 8) t k).K S.n = 8 := by
        show (if S.n = S.n + 1 then 15 else if S.n = S.n then 8 else S.K S.n) = 8
        rw [if_neg (by omega), if_pos rfl]
      refine s_78 (d := d + 2) lw_sp_mono (by omega) hKn hv (f_14_60 hE ⟨rfl, ?_⟩)
      rw [hv2]
      exact hQ
    refine ⟨by omega, by omega, fun q => call 0 (Or.inl rfl) (by rw [if_pos (Or.inl q)]), fun q => ⟨fun z => call 0 (Or.inl rfl) ?_, fun z => call 1 (Or.inr rfl) ?_⟩⟩
    · have : k = 0 := by
        have := (nI_leI (b := 0) (by omega) (by decide)).mp z
        omega
      rw [if_pos (Or.inr this)]
    · have : ¬ k = 0 := fun e => z (by rw [e]; decide)
      rw [if_neg (fun e => e.elim q this)]
  intro n
  induction n with
  | zero =>
    intro _ _ hQ1 hQ2
    refine f_14_7 hE ⟨fun _ => ⟨fun _ => mk 0 (by decide) (hQ1 (Nat.zero_le 16)), fun z => absurd (by decide) z⟩, fun z => absurd (by decide) z⟩
  | succ n ih =>
    intro hle hw hQ1 hQ2
    refine f_14_7 hE ⟨fun q => absurd q (nI_nle (by omega) (by omega)), fun _ => ⟨by rw [hK]; rfl, ?_⟩⟩
    rw [nI_pred, nI_clamp (by omega), hlen, (hw n (by omega)).1]
    refine ⟨vp_in_nI (by omega) hLn, fun q => ?_, fun q => ?_⟩
    · have hne : ¬ w n = 0 := fun e => q (by rw [e]; decide)
      have e : dct w (n + 1) = n + 1 := if_neg hne
      rw [e] at hQ1 hQ2
      refine ⟨fun z => ?_, fun z => f_14_60 hE ⟨rfl, hQ2 ?_⟩⟩
      · have h16 : n + 1 ≤ 16 := (nI_leI (b := 16) (by omega) (by decide)).mp z
        exact mk (n + 1) h16 (hQ1 h16)
      · exact Nat.not_le.mp fun h => z ((nI_leI (b := 16) (by omega) (by decide)).mpr h)
    · have he : w n = 0 := by
        have := (nI_eq (b := 0) (hw n (by omega)).2 (by decide)).mp q
        exact this
      have e : dct w (n + 1) = dct w n := if_pos he
      rw [e] at hQ1 hQ2
      rw [pk_m1]
      exact ih (by omega) (fun i hi => hw i (by omega)) hQ1 hQ2
theorem s_14 {t Ln n : Nat} {w : Nat → Nat} {neg : Int32} (hK : S.K t = 15) (hlen : S.len t = Ln) (hLn : Ln < 2 ^ 31) (h18 : 18 ≤ Ln) (htn : t ≠ S.n ∧ t < S.n) (hn0 : 0 < S.n) (hneg : neg = 0 ∨ neg = 1) (hm : 2 ≤ mr) (hs : 20 ≤ sr) (hn : n ≤ Ln) (hw : ∀ i, i < n → S.rI t i = nI (w i) ∧ w i < 2 ^ 31) (hQ1 : dct w n ≤ 16 → Q (some (.inr (.inr S.n))) (oMade S t (dct w n) neg)) (hQ2 : 16 < dct w n → Q (some (.inr (.inr 0))) S) : ox_M lw_sp (d + 5) 14 [.inr (.inr t), .inl (nI n), .inl neg] mr sr S Q := by
  refine f_14 (d := d + 4) lw_sp_mono ⟨by rw [hK]; rfl, by decide, ?_⟩
  have e : (if Int32.ofNat (S.len t) < nI n then Int32.ofNat (S.len t) else nI n) = nI n := by
    rw [hlen]
    exact if_neg (nI_nlt (a := Ln) hn hLn)
  rw [e]
  exact s_14_7 hK hlen hLn h18 htn hn0 hneg hm hs n hn hw hQ1 hQ2
end OSM
