/-! numbers to the base 32768: the lowest digit first -/
def dv (f : Nat → Nat) : Nat → Nat
  | 0 => 0
  | n + 1 => dv f n + f n * 32768 ^ n
theorem dv_cons (f : Nat → Nat) : ∀ n, dv f (n + 1) = f 0 + 32768 * dv (fun i => f (i + 1)) n
  | 0 => by simp [dv]
  | n + 1 => by
    have ih := dv_cons f n
    have e : f (n + 1) * 32768 ^ (n + 1) = 32768 * (f (n + 1) * 32768 ^ n) := by
      rw [Nat.pow_succ, ← Nat.mul_assoc, Nat.mul_comm _ 32768]
    show dv f (n + 1) + f (n + 1) * 32768 ^ (n + 1) = f 0 + 32768 * (dv (fun i => f (i + 1)) n + f (n + 1) * 32768 ^ n)
    rw [ih, e, Nat.mul_add, Nat.add_assoc]
theorem dv_congr {f g : Nat → Nat} : ∀ n, (∀ i, i < n → f i = g i) → dv f n = dv g n
  | 0, _ => rfl
  | n + 1, h => by
    show dv f n + f n * 32768 ^ n = dv g n + g n * 32768 ^ n
    rw [dv_congr n (fun i hi => h i (by omega)), h n (by omega)]
theorem dv_lt {f : Nat → Nat} : ∀ n, (∀ i, i < n → f i < 32768) → dv f n < 32768 ^ n
  | 0, _ => Nat.one_pos
  | n + 1, h => by
    have ih := dv_lt (f := f) n (fun i hi => h i (by omega))
    have h1 : (f n + 1) * 32768 ^ n ≤ 32768 * 32768 ^ n := Nat.mul_le_mul_right _ (h n (by omega))
    show dv f n + f n * 32768 ^ n < 32768 ^ (n + 1)
    rw [Nat.pow_succ, Nat.mul_comm (32768 ^ n) 32768]
    rw [Nat.add_mul, Nat.one_mul] at h1
    omega
/-- zeros above add nothing -/
theorem dv_zero {f : Nat → Nat} {n : Nat} : ∀ k, (∀ i, n ≤ i → i < n + k → f i = 0) → dv f (n + k) = dv f n
  | 0, _ => rfl
  | k + 1, h => by
    have ih := dv_zero (f := f) (n := n) k (fun i h1 h2 => h i h1 (by omega))
    show dv f (n + k) + f (n + k) * 32768 ^ (n + k) = dv f n
    rw [h (n + k) (by omega) (by omega), Nat.zero_mul, Nat.add_zero, ih]
theorem dv_le {f : Nat → Nat} {n : Nat} : ∀ k, dv f n ≤ dv f (n + k)
  | 0 => Nat.le_refl _
  | k + 1 => Nat.le_trans (dv_le k) (Nat.le_add_right _ _)
theorem dv_inj : ∀ (n : Nat) (f g : Nat → Nat), (∀ i, i < n → f i < 32768) → (∀ i, i < n → g i < 32768) → dv f n = dv g n → ∀ i, i < n → f i = g i
  | 0, _, _, _, _, _, _, hi => absurd hi (Nat.not_lt_zero _)
  | n + 1, f, g, hf, hg, h, i, hi => by
    rw [dv_cons, dv_cons] at h
    have f0 := hf 0 (by omega)
    have g0 := hg 0 (by omega)
    have h0 : f 0 = g 0 := by omega
    have h1 : dv (fun i => f (i + 1)) n = dv (fun i => g (i + 1)) n := by omega
    cases i with
    | zero => exact h0
    | succ i => exact dv_inj n _ _ (fun j hj => hf (j + 1) (by omega)) (fun j hj => hg (j + 1) (by omega)) h1 i (by omega)
/-- digits as they must be: the highest is not 0 -/
def dc (f : Nat → Nat) (n : Nat) : Prop := (∀ i, i < n → f i < 32768) ∧ (0 < n → f (n - 1) ≠ 0)
theorem dc_low {f : Nat → Nat} {n : Nat} (h : dc f n) (h0 : 0 < n) : 32768 ^ (n - 1) ≤ dv f n := by
  obtain ⟨k, rfl⟩ : ∃ k, n = k + 1 := ⟨n - 1, by omega⟩
  have h1 : f k ≠ 0 := h.2 h0
  show 32768 ^ k ≤ dv f k + f k * 32768 ^ k
  exact Nat.le_trans (Nat.le_trans (Nat.le_of_eq (Nat.one_mul _).symm) (Nat.mul_le_mul_right _ (Nat.one_le_iff_ne_zero.mpr h1))) (Nat.le_add_left _ _)
theorem dc_size {f g : Nat → Nat} {n m : Nat} (hf : dc f n) (hg : dc g m) (h : dv f n ≤ dv g m) : n ≤ m := by
  refine Nat.not_lt.mp fun hlt => ?_
  have h1 := dc_low hf (by omega)
  have h2 := dv_lt (f := g) m hg.1
  have h3 : 32768 ^ m ≤ 32768 ^ (n - 1) := Nat.pow_le_pow_right (by decide) (by omega)
  omega
theorem dc_uniq {f g : Nat → Nat} {n m : Nat} (hf : dc f n) (hg : dc g m) (h : dv f n = dv g m) : n = m ∧ ∀ i, i < n → f i = g i := by
  have e : n = m := Nat.le_antisymm (dc_size hf hg (Nat.le_of_eq h)) (dc_size hg hf (Nat.le_of_eq h.symm))
  subst e
  exact ⟨rfl, dv_inj n f g hf.1 hg.1 h⟩
/-- adding with carries -/
theorem dv_add {f g w c : Nat → Nat} (hc : c 0 = 0) : ∀ n, (∀ i, i < n → f i + g i + c i = w i + 32768 * c (i + 1)) → dv w n + c n * 32768 ^ n = dv f n + dv g n
  | 0, _ => by simp [dv, hc]
  | n + 1, h => by
    have ih := dv_add hc n (fun i hi => h i (by omega))
    have h1 := congrArg (· * 32768 ^ n) (h n (by omega))
    simp only [Nat.add_mul] at h1
    have e : c (n + 1) * 32768 ^ (n + 1) = 32768 * c (n + 1) * 32768 ^ n := by
      rw [Nat.pow_succ, Nat.mul_comm (32768 ^ n) 32768, ← Nat.mul_assoc, Nat.mul_comm (c (n + 1)) 32768]
    show dv w n + w n * 32768 ^ n + c (n + 1) * 32768 ^ (n + 1) = dv f n + f n * 32768 ^ n + (dv g n + g n * 32768 ^ n)
    rw [e]
    omega
/-- taking off with borrows -/
theorem dv_sub {f g w d : Nat → Nat} (hd : d 0 = 0) : ∀ n, (∀ i, i < n → f i + 32768 * d (i + 1) = g i + d i + w i) → dv f n + d n * 32768 ^ n = dv g n + dv w n
  | 0, _ => by simp [dv, hd]
  | n + 1, h => by
    have ih := dv_sub hd n (fun i hi => h i (by omega))
    have h1 := congrArg (· * 32768 ^ n) (h n (by omega))
    simp only [Nat.add_mul] at h1
    have e : d (n + 1) * 32768 ^ (n + 1) = 32768 * d (n + 1) * 32768 ^ n := by
      rw [Nat.pow_succ, Nat.mul_comm (32768 ^ n) 32768, ← Nat.mul_assoc, Nat.mul_comm (d (n + 1)) 32768]
    show dv f n + f n * 32768 ^ n + d (n + 1) * 32768 ^ (n + 1) = dv g n + g n * 32768 ^ n + (dv w n + w n * 32768 ^ n)
    rw [e]
    omega
/-- the count of digits that are needed: the places from k down to it are 0 -/
theorem dc_cut {f : Nat → Nat} {k n : Nat} (hf : ∀ i, i < n → f i < 32768) (hk : k ≤ n) (hz : ∀ i, k ≤ i → i < n → f i = 0) (h0 : 0 < k → f (k - 1) ≠ 0) : dc f k ∧ dv f k = dv f n := by
  refine ⟨⟨fun i hi => hf i (by omega), h0⟩, ?_⟩
  have := dv_zero (f := f) (n := k) (n - k) (fun i h1 h2 => hz i h1 (by omega))
  rw [show k + (n - k) = n by omega] at this
  exact this.symm
/-- multiplying by one digit and adding: a row of the product -/
theorem dv_row {f g w c : Nat → Nat} {q : Nat} (hc : c 0 = 0) : ∀ n, (∀ i, i < n → g i + q * f i + c i = w i + 32768 * c (i + 1)) → dv w n + c n * 32768 ^ n = dv g n + q * dv f n
  | 0, _ => by simp [dv, hc]
  | n + 1, h => by
    have ih := dv_row hc n (fun i hi => h i (by omega))
    have h1 := congrArg (· * 32768 ^ n) (h n (by omega))
    simp only [Nat.add_mul] at h1
    have e : c (n + 1) * 32768 ^ (n + 1) = 32768 * c (n + 1) * 32768 ^ n := by
      rw [Nat.pow_succ, Nat.mul_comm (32768 ^ n) 32768, ← Nat.mul_assoc, Nat.mul_comm (c (n + 1)) 32768]
    show dv w n + w n * 32768 ^ n + c (n + 1) * 32768 ^ (n + 1) = dv g n + g n * 32768 ^ n + q * (dv f n + f n * 32768 ^ n)
    rw [e, Nat.mul_add, ← Nat.mul_assoc q]
    omega
theorem dv_app {f : Nat → Nat} {n : Nat} : ∀ k, dv f (n + k) = dv f n + 32768 ^ n * dv (fun i => f (n + i)) k
  | 0 => by simp [dv]
  | k + 1 => by
    have ih := dv_app (f := f) (n := n) k
    show dv f (n + k) + f (n + k) * 32768 ^ (n + k) = dv f n + 32768 ^ n * (dv (fun i => f (n + i)) k + f (n + k) * 32768 ^ k)
    rw [ih, Nat.mul_add, Nat.add_assoc, Nat.pow_add, Nat.mul_left_comm (f (n + k))]
