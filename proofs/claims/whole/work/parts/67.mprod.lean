/-! the reference's calculations: product -/
/-- carries and digits of a row of a product -/
def cP (a : Nat) (h g : Nat → Nat) : Nat → Nat
  | 0 => 0
  | j + 1 => (h j + a * g j + cP a h g j) / 32768
def wP (a : Nat) (h g : Nat → Nat) (j : Nat) : Nat := (h j + a * g j + cP a h g j) % 32768
theorem mul_le_dig {a b : Nat} (ha : a < 32768) (hb : b < 32768) : a * b ≤ 1073676289 := Nat.mul_le_mul (Nat.le_of_lt_succ ha) (Nat.le_of_lt_succ hb)
theorem cP_lt {a : Nat} {h g : Nat → Nat} (ha : a < 32768) : ∀ j, (∀ i, i < j → h i < 32768) → (∀ i, i < j → g i < 32768) → cP a h g j < 32768
  | 0, _, _ => Nat.zero_lt_succ 32767
  | j + 1, hh, hg => by
    have h1 := cP_lt ha j (fun i hi => hh i (by omega)) (fun i hi => hg i (by omega))
    have h2 := hh j (by omega)
    have h3 := mul_le_dig ha (hg j (by omega))
    show (h j + a * g j + cP a h g j) / 32768 < 32768
    omega
theorem wP_dv {a : Nat} {h g : Nat → Nat} (n : Nat) : dv (wP a h g) n + cP a h g n * 32768 ^ n = dv h n + a * dv g n := dv_row (c := cP a h g) rfl n (fun i _ => (Nat.mod_add_div _ _).symm)
/-- the digits behind a row that was added from i on -/
def mRw (D : Nat → Nat) (i k a : Nat) (g : Nat → Nat) (z : Nat) : Nat := if i ≤ z ∧ z ≤ i + k then wP a (fun j => D (i + j)) g (z - i) else D z
theorem mRw_dv {D g : Nat → Nat} {i k a N : Nat} (ha : a < 32768) (hD : ∀ z, z < N → D z < 32768) (hz : ∀ z, i + k ≤ z → z < N → D z = 0) (hg : ∀ j, g j < 32768) (hgk : g k = 0) (hN : i + k < N) : dv (mRw D i k a g) N = dv D N + a * dv g k * 32768 ^ i ∧ (∀ z, z < N → mRw D i k a g z < 32768) ∧ ∀ z, i + 1 + k ≤ z → z < N → mRw D i k a g z = 0 := by
  have e0 : ∀ z, i + 1 + k ≤ z → z < N → mRw D i k a g z = 0 := fun z h1 h2 => by
    unfold mRw
    rw [if_neg (by omega)]
    exact hz z (by omega) h2
  refine ⟨?_, fun z hz2 => ?_, e0⟩
  · obtain ⟨r, rfl⟩ : ∃ r, N = (i + (k + 1)) + r := ⟨N - (i + (k + 1)), by omega⟩
    rw [dv_zero (f := mRw D i k a g) (n := i + (k + 1)) r (fun z h1 h2 => e0 z (by omega) h2), dv_zero (f := D) (n := i + (k + 1)) r (fun z h1 h2 => hz z (by omega) h2)]
    rw [dv_app (f := mRw D i k a g) (n := i) (k + 1), dv_app (f := D) (n := i) (k + 1)]
    have e1 : dv (mRw D i k a g) i = dv D i := dv_congr i (fun z h => if_neg (by omega))
    have e2 : dv (fun j => mRw D i k a g (i + j)) (k + 1) = dv (wP a (fun j => D (i + j)) g) (k + 1) := dv_congr (k + 1) (fun j hj => by
      show (if i ≤ i + j ∧ i + j ≤ i + k then wP a (fun j => D (i + j)) g (i + j - i) else D (i + j)) = _
      rw [if_pos (by omega), Nat.add_sub_cancel_left])
    have e3 := wP_dv (a := a) (h := fun j => D (i + j)) (g := g) (k + 1)
    have hc := cP_lt (h := fun j => D (i + j)) (g := g) ha k (fun j hj => hD (i + j) (by omega)) (fun j _ => hg j)
    have e4 : cP a (fun j => D (i + j)) g (k + 1) = 0 := by
      show (D (i + k) + a * g k + cP a (fun j => D (i + j)) g k) / 32768 = 0
      rw [hz (i + k) (Nat.le_refl _) (by omega), hgk, Nat.mul_zero]
      omega
    have e5 : dv g (k + 1) = dv g k := dv_zero (f := g) (n := k) 1 (fun z h1 h2 => by rw [show z = k by omega]; exact hgk)
    rw [e4, Nat.zero_mul, Nat.add_zero, e5] at e3
    rw [e1, e2, e3, Nat.mul_add, Nat.add_assoc, Nat.mul_comm (32768 ^ i) (a * dv g k)]
  · unfold mRw
    by_cases h : i ≤ z ∧ z ≤ i + k
    · rw [if_pos h]; exact Nat.mod_lt _ (by decide)
    · rw [if_neg h]; exact hD z hz2
section OMP
variable {sp : ox_E} {d mr sr : Nat} {S : ox_St} {Q : ox_Q} {m ce : Nat} {f g : Nat → Nat} {n k u v : Nat} {p q : Int32}
theorem s_145_58 {E : ox_E} (hE : ox_mono E) {x1 x2 : Int32} {D : Nat → Nat} {i : Nat} (hn : n ≤ 16) (hk : k ≤ 16) (hi : i < n) (hfi : f i < 32768) (hg : ∀ j, j < k → g j < 32768) (hD : ∀ z, z < n + k → D z < 32768) : ∀ (r j : Nat) (S : ox_St), j + r = k + 1 → oML S m ce → mBoth S m f n p g k q → S.I 115 m = nI (n + k) → (∀ z, z < n + k → S.rI (m + 28) z = nI (if i ≤ z ∧ z < i + j then wP (f i) (fun j => D (i + j)) (dg g k) (z - i) else D z)) → (∀ S', mTmp m S S' → mBoth S' m f n p g k q → S'.I 115 m = nI (n + k) → (∀ z, z < n + k → S'.rI (m + 28) z = nI (mRw D i k (f i) (dg g k) z)) → c_145_44 E m x1 x2 (nI (i + 1)) S' mr sr Q) → c_145_58 E m x1 x2 (nI i) (nI (cP (f i) (fun j => D (i + j)) (dg g k) j)) (nI j) S mr sr Q
  | 0, j, S, hj, h, hb, h1, hw, hQ => by
    obtain ⟨b1, b2, b3, b4, b5, b6⟩ := hb
    refine f_145_58 hE ?_
    unfold q_145_58
    rw [h.1, b5, nI_1]
    refine ⟨rfl, fun _ => hQ S mTmp.refl ⟨b1, b2, b3, b4, b5, b6⟩ h1 (fun z hz => ?_), fun z => absurd (nI_lt (by omega) (by omega)) z⟩
    rw [hw z hz]
    unfold mRw
    by_cases hc : i ≤ z ∧ z ≤ i + k
    · rw [if_pos hc, if_pos (by omega)]
    · rw [if_neg hc, if_neg (by omega)]
  | r + 1, j, S, hj, h, hb, h1, hw, hQ => by
    obtain ⟨d1, d2, d3⟩ := h.row (F := 111) (o := 28) (k := 15) (n := 40) (by decide +kernel)
    obtain ⟨l1, l2, l3⟩ := h.row (F := 109) (o := 26) (k := 15) (n := 40) (by decide +kernel)
    obtain ⟨r1, r2, r3⟩ := h.row (F := 110) (o := 27) (k := 15) (n := 40) (by decide +kernel)
    have hb' := hb
    obtain ⟨b1, b2, b3, b4, b5, b6⟩ := hb'
    have hG : ∀ j, dg g k j < 32768 := fun j => dg_lt hg
    have hDz := hD (i + j) (by omega)
    have hcP := cP_lt (h := fun j => D (i + j)) (g := dg g k) hfi j (fun z hz => hD (i + z) (by omega)) (fun z _ => hG z)
    have hml := mul_le_dig hfi (hG j)
    have er : S.rI (m + 28) (i + j) = nI (D (i + j)) := by rw [hw (i + j) (by omega), if_neg (by omega)]
    have leaf : ∀ w : Int32, w = nI (D (i + j) + f i * dg g k j + cP (f i) (fun j => D (i + j)) (dg g k) j) → ox_has 14 111 = true ∧ 15 = 15 ∧ vp_in (nI (i + j)) 40 ∧ c_145_58 E m x1 x2 (nI i) (w >>> (15 &&& 31)) (nI (j + 1)) (S.wI (m + 28) (i + j) (w &&& 32767)) mr sr Q := by
      intro w hw2
      have s1 : w &&& 32767 = nI (wP (f i) (fun j => D (i + j)) (dg g k) j) := by rw [hw2]; exact and_nI _
      have s2 : w >>> (15 &&& 31) = nI (cP (f i) (fun j => D (i + j)) (dg g k) (j + 1)) := by rw [hw2]; exact pk_shrN (by omega) _ 15 (by decide)
      rw [s1, s2]
      have g' : mTmp m S (S.wI (m + 28) (i + j) (nI (wP (f i) (fun j => D (i + j)) (dg g k) j))) := mTmp_wI (by omega) (by omega)
      refine ⟨rfl, rfl, vp_in_nI (by omega) (by decide), s_145_58 hE hn hk hi hfi hg hD r (j + 1) _ (by omega) (h.tmp g') hb.wI h1 (fun z hz => ?_) (fun S' e1 e2 e3 e4 => hQ S' (g'.trans e1) e2 e3 e4)⟩
      rw [or_wI_rI]
      by_cases hz2 : z = i + j
      · rw [if_pos ⟨rfl, hz2⟩, if_pos (by omega), hz2, Nat.add_sub_cancel_left]
      · rw [if_neg (fun y => hz2 y.2), hw z hz]
        by_cases hc : i ≤ z ∧ z < i + j
        · rw [if_pos hc, if_pos (by omega)]
        · rw [if_neg hc, if_neg (by omega)]
    refine f_145_58 hE ?_
    unfold q_145_58
    rw [h.1, b5, d1, d2, d3, l1, l2, l3, r1, r2, r3, nI_1, nI_1, nI_add, nI_clamp (n := i + j) (by omega), nI_clamp (n := i) (by omega), nI_clamp (n := j) (by omega), er, b1 i hi]
    refine ⟨rfl, fun z => absurd z (nI_nlt (by omega) (by omega)), fun _ => ⟨rfl, rfl, vp_in_nI (by omega) (by decide), rfl, fun z => leaf _ ?_, fun z => ⟨rfl, rfl, vp_in_nI (by omega) (by decide), rfl, rfl, vp_in_nI (by omega) (by decide), leaf _ ?_⟩⟩⟩
    · have hjk : k ≤ j := (nI_leI (by omega) (by omega)).mp z
      rw [show dg g k j = 0 from if_neg (by omega), Nat.mul_zero, Nat.add_zero, show nI (D (i + j)) + 0 = nI (D (i + j)) from nI_add _ 0, nI_add]
    · have hjk : j < k := Nat.not_le.mp fun y => z (nI_le y (by omega))
      rw [b4 j hjk, show dg g k j = g j from if_pos hjk, pk_mul, nI_add, nI_add]
theorem s_145_44 (hsp : ox_mono sp) {T : Nat} {S0 : ox_St} {x1 x2 : Int32} (hT16 : 16 ≤ T) (hT2 : T + 19 ≤ 1100000) (hn : n ≤ 16) (hk : k ≤ 16) (hf : ∀ j, j < n → f j < 32768) (hg : ∀ j, j < k → g j < 32768) (hp : p = 0 ∨ p = 1) (hq : q = 0 ∨ q = 1)
    (hQ1 : ∀ S' w c r, mNw m ce T S0 S' → S'.I 75 m = nI (T + 3 + c) → mNum S' (m + ce) T w c r → dc w c → (c = 0 → r = 0) → nv w c r = (if p = q then ((dv f n * dv g k : Nat) : Int) else -((dv f n * dv g k : Nat) : Int)) → Q (some (.inl (nI T))) S') (hQ2 : ∀ S', mTmp m S0 S' → 32768 ^ 16 ≤ dv f n * dv g k → Q (some (.inl (-1))) S') : ∀ (r i : Nat) (S : ox_St) (D : Nat → Nat), i + r = n → mTmp m S0 S → oML S m ce → mBoth S m f n p g k q → S.I 75 m = nI T → S.I 115 m = nI (n + k) → (∀ z, z < n + k → S.rI (m + 28) z = nI (D z) ∧ D z < 32768) → (∀ z, i + k ≤ z → z < n + k → D z = 0) → dv D (n + k) = dv f i * dv g k → c_145_44 (ox_M sp (d + 2)) m x1 x2 (nI i) S mr sr Q
  | 0, i, S, D, hi, t0, h, hb, h75, h115, hD, hz, hv => by
    have hE : ox_mono (ox_M sp (d + 2)) := ox_M_mono hsp _
    obtain rfl : i = n := by omega
    have hce := h.2.2.1
    have hb' := hb
    obtain ⟨b1, b2, b3, b4, b5, b6⟩ := hb'
    have fin : ∀ mn : Int32, (mn = if p = q then 0 else 1) → 1 ≤ 1 ∧ (S.sI 119 m mn).K m = 14 ∧ 0 ≤ 8 ∧ ∃ mc mk, mc ≤ mr ∧ mk ≤ sr ∧ ox_M sp (d + 2) 140 [.inr (.inr m)] mc mk (S.sI 119 m mn) (k_145_167 (ox_M sp (d + 2)) m x1 x2 (nI i) (mr - mc) (sr - mk) Q) := by
      intro mn hm
      have hmn : mn = 0 ∨ mn = 1 := by
        by_cases e : p = q
        · rw [if_pos e] at hm; exact Or.inl hm
        · rw [if_neg e] at hm; exact Or.inr hm
      have t3 : mTmp m S (S.sI 119 m mn) := mTmp_sI (by decide) (by decide)
      refine ⟨by decide, h.1, by decide, 0, 0, Nat.zero_le _, Nat.zero_le _, ?_⟩
      refine s_140v hsp (T := T) (N := i + k) (w := D) (mn := mn) hmn hT2 hT16 (by omega) (h.tmp t3) ?_ (if_pos ⟨rfl, rfl⟩) ?_ hD (fun S' w' c r e1 e2 e3 e4 e5 e6 => f_145_167 hE ⟨trivial, hQ1 S' w' c r (((t0.trans t3).nw hce).trans e1) e2 e3 e4 e5 ?_⟩) (fun S' e1 e2 => f_145_167 hE ⟨trivial, hQ2 S' ((t0.trans t3).trans e1) ?_⟩)
      · rw [or_sI_I, if_neg (fun z => by cases z.1)]; exact h115
      · rw [or_sI_I, if_neg (fun z => by cases z.1)]; exact h75
      · rw [e6, hv, hm]
        by_cases e : p = q
        · rw [if_pos e, if_pos rfl, if_pos e]
        · rw [if_neg e, if_neg (by decide), if_neg e]
      · rw [← hv]; exact e2
    refine f_145_44 hE ?_
    unfold q_145_44
    rw [show S.K m = 14 from h.1, b2, b3, b6]
    refine ⟨rfl, fun _ => ⟨rfl, rfl, fun z => ⟨rfl, Or.inl rfl, ?_⟩, fun z => ⟨rfl, Or.inr rfl, ?_⟩⟩, fun z => absurd (nI_le (Nat.le_refl i) (by omega)) z⟩
    · exact fin 0 (by rw [if_pos z])
    · exact fin 1 (by rw [if_neg z])
  | r + 1, i, S, D, hi, t0, h, hb, h75, h115, hD, hz, hv => by
    have hE : ox_mono (ox_M sp (d + 2)) := ox_M_mono hsp _
    have hb' := hb
    obtain ⟨b1, b2, b3, b4, b5, b6⟩ := hb'
    have hfi := hf i (by omega)
    have hG : ∀ j, dg g k j < 32768 := fun j => dg_lt hg
    obtain ⟨m1, m2, m3⟩ := mRw_dv (D := D) (g := dg g k) (i := i) (k := k) (a := f i) (N := n + k) hfi (fun z hz => (hD z hz).2) hz hG (if_neg (by omega)) (by omega)
    refine f_145_44 hE ?_
    unfold q_145_44
    rw [show S.K m = 14 from h.1, b2]
    refine ⟨rfl, fun z => absurd z (nI_ge (by omega) (by omega)), fun _ => ?_⟩
    refine s_145_58 hE (D := D) (i := i) hn hk (by omega) hfi hg (fun z hz => (hD z hz).2) (k + 1) 0 S (by omega) h hb h115 (fun z hz => ?_) (fun S' e1 e2 e3 e4 => ?_)
    · rw [if_neg (by omega)]
      exact (hD z hz).1
    · refine s_145_44 hsp hT16 hT2 hn hk hf hg hp hq hQ1 hQ2 r (i + 1) S' _ (by omega) (t0.trans e1) (h.tmp e1) e2 ((e1.2.2.2.2.2.2.2.1 75 m (Or.inr (Or.inl (by decide)))).trans h75) e3 (fun z hz => ⟨e4 z hz, m2 z hz⟩) m3 ?_
      rw [m1, hv, dv_dgN (Nat.le_refl k)]
      show dv f i * dv g k + f i * dv g k * 32768 ^ i = (dv f i + f i * 32768 ^ i) * dv g k
      rw [Nat.add_mul, Nat.mul_right_comm]
theorem s_145_21 {E : ox_E} (hE : ox_mono E) {x1 x2 : Int32} {N : Nat} (hN : N ≤ 40) : ∀ (r i : Nat) (S : ox_St), i + r = N → oML S m ce → mBoth S m f n p g k q → S.I 115 m = nI N → (∀ z, z < i → S.rI (m + 28) z = 0) → (∀ S', mTmp m S S' → mBoth S' m f n p g k q → S'.I 115 m = nI N → (∀ z, z < N → S'.rI (m + 28) z = 0) → c_145_44 E m x1 x2 0 S' mr sr Q) → c_145_21 E m x1 x2 (nI i) S mr sr Q
  | 0, i, S, hi, h, hb, h1, hz, hQ => by
    refine f_145_21 hE ?_
    unfold q_145_21
    rw [h.1, h1]
    exact ⟨rfl, fun _ => hQ S mTmp.refl hb h1 (fun z hz2 => hz z (by omega)), fun z => absurd (nI_le (by omega) (by omega)) z⟩
  | r + 1, i, S, hi, h, hb, h1, hz, hQ => by
    obtain ⟨d1, d2, d3⟩ := h.row (F := 111) (o := 28) (k := 15) (n := 40) (by decide +kernel)
    refine f_145_21 hE ?_
    unfold q_145_21
    rw [h.1, h1, d1, d2, d3, nI_1, nI_clamp (n := i) (by omega)]
    have g' : mTmp m S (S.wI (m + 28) i 0) := mTmp_wI (by omega) (by omega)
    refine ⟨rfl, fun z => absurd z (nI_ge (by omega) (by omega)), fun _ => ⟨rfl, rfl, vp_in_nI (by omega) (by decide), s_145_21 hE hN r (i + 1) _ (by omega) (h.tmp g') hb.wI h1 (fun z hz2 => ?_) (fun S' e1 e2 e3 e4 => hQ S' (g'.trans e1) e2 e3 e4)⟩⟩
    rw [or_wI_rI]
    by_cases hzi : z = i
    · rw [if_pos ⟨rfl, hzi⟩]
    · rw [if_neg (fun y => hzi y.2)]; exact hz z (by omega)
theorem s_145 (hsp : ox_mono sp) {T : Nat} (h : oML S m ce) (hT : S.I 75 m = nI T) (hT16 : 16 ≤ T) (hT2 : T + 19 ≤ 1100000) (hu : mNum S (m + ce) u f n p) (hv : mNum S (m + ce) v g k q)
    (hQ1 : ∀ S' w c r, mNw m ce T S S' → S'.I 75 m = nI (T + 3 + c) → mNum S' (m + ce) T w c r → dc w c → (c = 0 → r = 0) → nv w c r = (if p = q then ((dv f n * dv g k : Nat) : Int) else -((dv f n * dv g k : Nat) : Int)) → Q (some (.inl (nI T))) S') (hQ2 : ∀ S', mTmp m S S' → 32768 ^ 16 ≤ dv f n * dv g k → Q (some (.inl (-1))) S') : ox_M sp (d + 3) 145 [.inr (.inr m), .inl (nI u), .inl (nI v)] mr sr S Q := by
  have hE : ox_mono (ox_M sp (d + 2)) := ox_M_mono hsp _
  have hn := hu.2.1
  have hk := hv.2.1
  refine f_145 hsp ⟨by decide, h.1, by decide, 0, 0, Nat.zero_le _, Nat.zero_le _, s_139 hsp h hu hv (fun S1 t1 B1 => ?_)⟩
  have M1 := h.tmp t1
  have T1 : S1.I 75 m = nI T := (t1.2.2.2.2.2.2.2.1 75 m (Or.inr (Or.inl (by decide)))).trans hT
  have t2 : mTmp m S1 (S1.sI 115 m (nI (n + k))) := mTmp_sI (by decide) (by decide)
  refine f_145_6 hE ?_
  unfold q_145_6
  rw [M1.1, B1.2.1, B1.2.2.2.2.1, nI_add]
  refine ⟨rfl, rfl, rfl, s_145_21 hE (N := n + k) (by omega) (n + k) 0 _ (by omega) (M1.tmp t2) (B1.sI (by decide)) (if_pos ⟨rfl, rfl⟩) (fun z hz => absurd hz (Nat.not_lt_zero z)) (fun S' e1 e2 e3 e4 => ?_)⟩
  refine s_145_44 hsp hT16 hT2 hn hk hu.1 hv.1 hu.neg hv.neg hQ1 hQ2 n 0 S' (fun _ => 0) (by omega) ((t1.trans t2).trans e1) ((M1.tmp t2).tmp e1) e2 ?_ e3 (fun z hz => ⟨e4 z hz, by decide⟩) (fun _ _ _ => rfl) ?_
  · refine (e1.2.2.2.2.2.2.2.1 75 m (Or.inr (Or.inl (by decide)))).trans ?_
    rw [or_sI_I, if_neg (fun z => by cases z.1)]
    exact T1
  · rw [show dv f 0 = 0 from rfl, Nat.zero_mul, ← Nat.zero_add (n + k), dv_zero (f := fun _ => 0) (n := 0) (n + k) (fun _ _ _ => rfl)]
    rfl
end OMP
