/-! Num.of -/
/-- g's values written into a row from place i on -/
def oFl (t : Nat) (g : Nat → Int32) : Nat → Nat → ox_St → ox_St
  | _, 0, S => S
  | i, k + 1, S => oFl t g (i + 1) k (S.wI t i (g i))
theorem oFl_ag {P : Nat → Prop} {t : Nat} {g : Nat → Int32} (ht : ¬ P t) : ∀ (k i : Nat) (S : ox_St), oAg P S (oFl t g i k S)
  | 0, _, _ => oAg.refl
  | k + 1, i, S => (oAg_wI ht).trans (oFl_ag ht k (i + 1) _)
theorem oFl_row {t : Nat} {g : Nat → Int32} : ∀ (k i : Nat) (S : ox_St) (j : Nat), (oFl t g i k S).rI t j = if i ≤ j ∧ j < i + k then g j else S.rI t j
  | 0, i, S, j => by rw [if_neg (by omega)]; rfl
  | k + 1, i, S, j => by
    show (oFl t g (i + 1) k (S.wI t i (g i))).rI t j = _
    rw [oFl_row k (i + 1), or_wI_rI]
    by_cases h1 : i + 1 ≤ j ∧ j < i + 1 + k
    · rw [if_pos h1, if_pos (by omega)]
    · rw [if_neg h1]
      by_cases h2 : j = i
      · rw [if_pos ⟨rfl, h2⟩, if_pos (by omega), h2]
      · rw [if_neg (fun z => h2 z.2), if_neg (by omega)]
theorem oFl_n {t : Nat} {g : Nat → Int32} : ∀ (k i : Nat) (S : ox_St), (oFl t g i k S).n = S.n
  | 0, _, _ => rfl
  | k + 1, i, S => oFl_n k (i + 1) _
theorem oFl_K {t : Nat} {g : Nat → Int32} : ∀ (k i : Nat) (S : ox_St), (oFl t g i k S).K = S.K
  | 0, _, _ => rfl
  | k + 1, i, S => oFl_K k (i + 1) _
theorem oFl_len {t : Nat} {g : Nat → Int32} : ∀ (k i : Nat) (S : ox_St), (oFl t g i k S).len = S.len
  | 0, _, _ => rfl
  | k + 1, i, S => oFl_len k (i + 1) _
/-- how many digits, k at most -/
def dl : Nat → Nat → Nat
  | 0, _ => 0
  | k + 1, N => if N = 0 then 0 else dl k (N / 32768) + 1
theorem dl_le : ∀ k N, dl k N ≤ k
  | 0, _ => Nat.le_refl 0
  | k + 1, N => by
    unfold dl
    by_cases h : N = 0
    · rw [if_pos h]; omega
    · rw [if_neg h]
      have := dl_le k (N / 32768)
      omega
theorem dl_lt : ∀ (k N e : Nat), N < 32768 ^ e → dl k N ≤ e
  | 0, _, _, _ => Nat.zero_le _
  | k + 1, N, e, h => by
    unfold dl
    by_cases hN : N = 0
    · rw [if_pos hN]; omega
    · rw [if_neg hN]
      cases e with
      | zero => simp at h; exact absurd h hN
      | succ e =>
        have h2 : N / 32768 < 32768 ^ e := Nat.div_lt_of_lt_mul (by rw [Nat.mul_comm, ← Nat.pow_succ]; exact h)
        have := dl_lt k (N / 32768) e h2
        omega
def oDg (N i : Nat) : Int32 := nI (N / 32768 ^ i % 32768)
def oNumOf (S : ox_St) (neg : Int32) (N : Nat) : ox_St := oMkNum ((oFl S.n (oDg N) 0 (dl 16 N) (S.newA 15 (dl 16 N))).newO 8) (S.n + 1) neg S.n
theorem lN_sh : ∀ k, k < 64 → ((lN k).toBitVec.smod 64).toNat = k := by decide +kernel
theorem oDg_at {N i : Nat} (hN : N < 2 ^ 62) (hi : i < 5) : (Int64.toInt32 (lN N >>> (Int32.toInt64 (15 * nI i) &&& 63))) &&& 32767 = oDg N i := by
  rw [show (15 : Int32) = nI 15 from rfl, pk_mul, wb_c (15 * i) (by omega), pf_shr (lN_sh (15 * i) (by omega)) hN, lN_i, pk_and _ 15 rfl]
  unfold oDg
  rw [Nat.pow_mul]
  congr 1
  show (N / (2 ^ 15) ^ i) % 2 ^ 32 % 2 ^ 15 = N / 32768 ^ i % 32768
  rw [Nat.mod_mod_of_dvd _ (by decide : 2 ^ 15 ∣ 2 ^ 32)]
section ONO
variable {sp : ox_E} {d mr sr : Nat} {S : ox_St} {Q : ox_Q}
theorem s_79_47 (hsp : ox_mono sp) {x0 : Int64} {N c t : Nat} {neg : Int32} (hneg : (0 ≤ lg_cmp x0 0 → neg = 0) ∧ (¬ 0 ≤ lg_cmp x0 0 → neg = 1)) (hN : N < 2 ^ 62) (hc : c ≤ 5) (hm : 1 ≤ mr) (hs : 4 ≤ sr) : ∀ (k i : Nat) (S : ox_St), S.K t = 15 → S.len t = c → 0 < S.n → i + k = c → Q (some (.inr (.inr S.n))) (oMkNum ((oFl t (oDg N) i k S).newO 8) S.n neg t) → c_79_47 (ox_M sp (d + 2)) x0 (lN N) (nI c) t (nI i) S mr sr Q
  | 0, i, S, h1, h2, h3, hk, hQ => by
    refine f_79_47 (ox_M_mono hsp _) ⟨fun _ => ⟨hm, hs, ?_⟩, fun q => absurd (nI_le (a := c) (by omega) (by omega)) q⟩
    have hK : (S.newO 8).K S.n = 8 := if_pos rfl
    refine ⟨fun q => ?_, fun q => ?_⟩
    · rw [hneg.1 q] at hQ
      exact ⟨by decide, by omega, by decide, 0, 0, Nat.zero_le _, Nat.zero_le _, s_78 hsp (by omega) hK (Or.inl rfl) (f_79_97 (ox_M_mono hsp _) ⟨rfl, hQ⟩)⟩
    · rw [hneg.2 q] at hQ
      exact ⟨by decide, by omega, by decide, 0, 0, Nat.zero_le _, Nat.zero_le _, s_78 hsp (by omega) hK (Or.inr rfl) (f_79_97 (ox_M_mono hsp _) ⟨rfl, hQ⟩)⟩
  | k + 1, i, S, h1, h2, h3, hk, hQ => by
    refine f_79_47 (ox_M_mono hsp _) ⟨fun q => absurd q (nI_ge (b := c) (by omega) (by omega)), fun _ => ⟨h1, by rw [h2]; exact vp_in_nI (by omega) (by omega), ?_⟩⟩
    rw [nI_clamp (by omega), oDg_at hN (by omega), nI_1]
    exact s_79_47 hsp hneg hN hc hm hs k (i + 1) (S.wI t i (oDg N i)) h1 h2 h3 (by omega) hQ
theorem s_79_11 (hsp : ox_mono sp) {x0 : Int64} {N : Nat} {neg : Int32} (hneg : (0 ≤ lg_cmp x0 0 → neg = 0) ∧ (¬ 0 ≤ lg_cmp x0 0 → neg = 1)) (hN : N < 2 ^ 62) (h3 : 0 < S.n) (hm : 2 ≤ mr) (hs : dl 16 N + 4 ≤ sr) (hQ : Q (some (.inr (.inr (S.n + 1)))) (oNumOf S neg N)) : ∀ (f k r : Nat), k + f = 16 → r < 2 ^ 62 → k + dl f r = dl 16 N → c_79_11 (ox_M sp (d + 2)) x0 (lN N) (nI k) (lN r) S mr sr Q := by
  have hc : dl 16 N ≤ 5 := dl_lt 16 N 5 (Nat.lt_trans hN (by decide))
  have fin : ∀ k, k = dl 16 N → ¬ nI k < 0 ∧ Int32.toNatClampNeg (nI k) ≤ 67108864 ∧ 1 ≤ mr ∧ Int32.toNatClampNeg (nI k) ≤ sr ∧ c_79_47 (ox_M sp (d + 2)) x0 (lN N) (nI k) S.n 0 (S.newA 15 (Int32.toNatClampNeg (nI k))) (mr - 1) (sr - Int32.toNatClampNeg (nI k)) Q := by
    intro k hk
    have ck : Int32.toNatClampNeg (nI k) = k := nI_clamp (by omega)
    rw [ck]
    refine ⟨nI_pos (by omega), by omega, by omega, by omega, ?_⟩
    refine s_79_47 hsp hneg hN (c := k) (by omega) (by omega) (by omega) k 0 (S.newA 15 k) (if_pos rfl) (if_pos rfl) (by show 0 < S.n + 1; omega) (by omega) ?_
    rw [hk]
    exact hQ
  intro f
  induction f with
  | zero =>
    intro k r hk hr hd
    refine f_79_11 (ox_M_mono hsp _) ⟨fun _ => fin k hd, fun _ => ⟨fun _ => fin k hd, fun q => absurd (nI_le (a := 16) (by omega) (by omega)) q⟩⟩
  | succ f ih =>
    intro k r hk hr hd
    replace hd : k + (if r = 0 then 0 else dl f (r / 32768) + 1) = dl 16 N := hd
    refine f_79_11 (ox_M_mono hsp _) ⟨fun q => fin k ?_, fun q => ⟨fun q2 => absurd q2 (nI_ge (b := 16) (by omega) (by omega)), fun _ => ?_⟩⟩
    · have h0 : r = 0 := by
        have := (lg_cmp_le _ _).mp q
        rw [show (0 : Int64) = lN 0 from rfl, pk_lLE (by omega) (by decide)] at this
        omega
      rw [if_pos h0] at hd
      exact hd
    · have h0 : ¬ r = 0 := by
        intro z
        rw [z] at q
        exact q (by decide)
      rw [if_neg h0] at hd
      rw [show (Int32.toInt64 15 &&& 63) = lN 15 from by decide +kernel, pf_shr (lN_sh 15 (by decide)) hr, nI_1]
      exact ih (k + 1) (r / 2 ^ 15) (by omega) (Nat.lt_of_le_of_lt (Nat.div_le_self _ _) hr) (by
        show k + 1 + dl f (r / 32768) = dl 16 N
        omega)
/-- Num.of a number whose size is N -/
theorem s_79 (hsp : ox_mono sp) {x0 : Int64} {N : Nat} {neg : Int32} (hsz : (if 0 < x0 then x0 else -x0) = lN N) (hneg : (0 ≤ lg_cmp x0 0 → neg = 0) ∧ (¬ 0 ≤ lg_cmp x0 0 → neg = 1)) (hN : N < 2 ^ 62) (h3 : 0 < S.n) (hm : 2 ≤ mr) (hs : dl 16 N + 4 ≤ sr) (hQ : Q (some (.inr (.inr (S.n + 1)))) (oNumOf S neg N)) : ox_M sp (d + 3) 79 [.inr (.inl x0)] mr sr S Q := by
  refine f_79 hsp ⟨by decide, ?_⟩
  rw [hsz]
  exact s_79_11 hsp hneg hN h3 hm hs hQ 16 0 N rfl hN (by omega)
end ONO
