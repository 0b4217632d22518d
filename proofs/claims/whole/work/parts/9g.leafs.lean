/-! reading the tape: single, shortNumber -/
/-- k bytes one after the other -/
def bwN (b : Nat → Nat) (e : Nat) (s : oTS) : Nat → oTS
  | 0 => s
  | k + 1 => bwS b e 0 255 (bwN b e s k)
theorem bwN_none {b : Nat → Nat} {e : Nat} {s : oTS} : ∀ k, (bwN b e s k).2 = none → s.2 = none ∧ s.1 + k ≤ max e (s.1 + k) ∧ (k = 0 ∨ s.1 + k ≤ e) ∧ bwN b e s k = (s.1 + k, none)
  | 0, h => ⟨h, Nat.le_max_right _ _, Or.inl rfl, by obtain ⟨p, f⟩ := s; have : f = none := h; rw [this]; rfl⟩
  | k + 1, h => by
    obtain ⟨g1, g2, g3, -⟩ := bwS_none (s := bwN b e s k) h
    obtain ⟨i1, -, i3, i4⟩ := bwN_none k g1
    rw [i4] at g2 g3
    have : s.1 + k < e := g2.1
    refine ⟨i1, Nat.le_max_right _ _, Or.inr (by omega), ?_⟩
    show bwS b e 0 255 (bwN b e s k) = _
    rw [i4]
    exact g3
theorem bwN_le {b : Nat → Nat} {e : Nat} {s : oTS} (h : s.1 ≤ e) : ∀ k, (bwN b e s k).1 ≤ e
  | 0 => h
  | k + 1 => bwS_le (bwN_le h k)
/-- an int of k bytes, the lowest first -/
def ivN (b : Nat → Nat) (p : Nat) : Nat → Nat
  | 0 => 0
  | k + 1 => ivN b p k + b (p + k) * 2 ^ (8 * k)
theorem ivN_lt {b : Nat → Nat} {p : Nat} : ∀ k, (∀ i, i < k → b (p + i) < 256) → ivN b p k < 2 ^ (8 * k)
  | 0, _ => by show 0 < 1; decide
  | k + 1, h => by
    have h1 := ivN_lt k (fun i hi => h i (by omega))
    have h2 := h k (Nat.lt_succ_self k)
    have h3 : b (p + k) * 2 ^ (8 * k) ≤ 255 * 2 ^ (8 * k) := Nat.mul_le_mul_right _ (by omega)
    show ivN b p k + b (p + k) * 2 ^ (8 * k) < 2 ^ (8 * (k + 1))
    rw [show 8 * (k + 1) = 8 * k + 8 by omega, Nat.pow_add]
    omega
section OLF
variable {sp : ox_E} {d mr sr : Nat} {S : ox_St} {Q : ox_Q} {x e p : Nat} {b : Nat → Nat} {s : oTS}
/-- single -/
theorem s_117 (hsp : ox_mono sp) (h : tpS S x b e (p, none)) (hx : x + 76 ≤ S.n) (hp : p < e) (hm : 1 ≤ mr) (hs : 2 ≤ sr) {t : Int32} (hQ : ∀ S', prF x S S' → S'.n = S.n + 1 → tpS S' x b e (p + 1, none) → S'.K S.n = 11 → S'.I 6 S.n = t → S'.I 7 S.n = 0 → Q (some (.inr (.inr S.n))) S') : ox_M sp (d + 2) 117 [.inr (.inr x), .inl t] mr sr S Q := by
  have hE : ox_mono (ox_M sp (d + 1)) := ox_M_mono hsp _
  have k : S.K x = 13 := h.1.obj (o := 0) (k := 13) (by decide)
  have i2 : S.I 62 x = nI p := h.2.2.2.1
  have h1 := h.on hx hp
  have f1 : prF x S (S.sI 62 x (nI (p + 1))) := prF_sI (Or.inl rfl)
  refine f_117 hsp ?_
  unfold q_117
  rw [k, i2, nI_1]
  refine ⟨rfl, rfl, hm, hs, by decide, by show S.n ≠ 0; omega, by decide, 0, 0, Nat.zero_le _, Nat.zero_le _, ?_⟩
  show ox_M sp (d + 1) 89 [.inr (.inr S.n), .inl t, .inl 0] 0 0 ((S.sI 62 x (nI (p + 1))).newO 11) _
  have en : (S.sI 62 x (nI (p + 1))).n = S.n := rfl
  generalize hT : S.sI 62 x (nI (p + 1)) = T at h1 f1 en
  rw [← en]
  have kn : (T.newO 11).K T.n = 11 := by rw [or_newO_K, if_pos rfl]
  refine s_89 hsp (by omega) (by rw [kn]; rfl) (f_117_19 hE ⟨rfl, ?_⟩)
  rw [en]
  have ag : oAg (fun a => a < T.n) T (oV0 (T.newO 11) T.n t 0) := (oAg_newO (P := fun a => a < T.n) (Nat.lt_irrefl _)).trans (oV0_ag (P := fun a => a < T.n) (Nat.lt_irrefl _))
  have nn : (oV0 (T.newO 11) T.n t 0).n = T.n + 1 := rfl
  have f2 : prF x T (oV0 (T.newO 11) T.n t 0) := prF_new (by rw [nn]; exact Nat.le_succ _) ag (by omega)
  have a0 := ag x (by show x < T.n; omega)
  have q6 : (oV0 (T.newO 11) T.n t 0).I 6 T.n = t := by
    show (((T.newO 11).sI 6 T.n t).sI 7 T.n 0).I 6 T.n = t
    rw [or_sI_I, if_neg (fun z => by cases z.1), or_sI_I, if_pos ⟨rfl, rfl⟩]
  have q7 : (oV0 (T.newO 11) T.n t 0).I 7 T.n = 0 := if_pos ⟨rfl, rfl⟩
  have qk : (oV0 (T.newO 11) T.n t 0).K T.n = 11 := kn
  have h2 := h1.keep f2 (by omega) (a0.2.2.1 62) (a0.2.2.1 63)
  have hq := hQ _ (f1.trans f2) (by rw [nn, en]) h2 (by rw [← en]; exact qk) (by rw [← en]; exact q6) (by rw [← en]; exact q7)
  rw [en] at hq
  exact hq
theorem s_118_14 (hsp : ox_mono sp) {S0 : ox_St} (hx : x + 76 ≤ S0.n) (hp1 : s.1 ≤ e)
    (hQ : ∀ S' v, prF x S0 S' → S'.n = S0.n → tpS S' x b e (bwN b e s 4) → ((bwN b e s 4).2 = none → v = nI (ivN b s.1 4)) → Q (some (.inl v)) S') : ∀ (r i : Nat) (S : ox_St) (v : Int32), i + r = 4 → prF x S0 S → S.n = S0.n → tpS S x b e (bwN b e s i) → ((bwN b e s i).2 = none → v = nI (ivN b s.1 i)) → c_118_14 (ox_M sp (d + 3)) x v (nI i) S mr sr Q
  | 0, i, S, v, hi, t0, tn, h, hv => by
    have hE : ox_mono (ox_M sp (d + 3)) := ox_M_mono hsp _
    obtain rfl : i = 4 := by omega
    exact f_118_14 hE ⟨fun _ => ⟨trivial, hQ S v t0 tn h hv⟩, fun z => absurd (by decide) z⟩
  | r + 1, i, S, v, hi, t0, tn, h, hv => by
    have hE : ox_mono (ox_M sp (d + 3)) := ox_M_mono hsp _
    have k : S.K x = 13 := h.1.obj (o := 0) (k := 13) (by decide)
    refine f_118_14 hE ⟨fun z => absurd z (nI_ge (b := 4) (by omega) (by decide)), fun _ => ⟨by decide, k, by decide, 0, 0, Nat.zero_le _, Nat.zero_le _, ?_⟩⟩
    refine s_115 (lo := 0) (hi := 255) hsp h (by omega) (by decide) (by decide) (fun S' f1 n1 h1 => f_118_28 hE ?_)
    show c_118_14 (ox_M sp (d + 3)) x (v ||| (bwV b e 0 255 (bwN b e s i) <<< ((8 * nI i) &&& 31))) (nI i + 1) S' mr sr Q
    rw [nI_1]
    refine s_118_14 hsp hx hp1 hQ r (i + 1) S' _ (by omega) (t0.trans f1) (n1.trans tn) h1 (fun z => ?_)
    obtain ⟨g1, g2, g3, g4⟩ := bwS_none (s := bwN b e s i) z
    obtain ⟨j1, -, j3, j4⟩ := bwN_none i g1
    have hiv : ivN b s.1 i < 2 ^ (8 * i) := ivN_lt i (fun q hq => by
      have : s.1 + i ≤ e := by rcases j3 with j3 | j3 <;> omega
      exact (h.2.2.2.2.2.2.2 _ (by omega)).2)
    rw [j4] at g2 g4
    have hbi : b (s.1 + i) < 256 := (h.2.2.2.2.2.2.2 _ g2.1).2
    have g4' : bwV b e 0 255 (bwN b e s i) = nI (b (s.1 + i)) := by rw [j4]; exact g4
    have em : (8 * nI i) &&& 31 = nI (8 * i) := by
      rw [show (8 : Int32) = nI 8 from rfl, pk_mul, pk_andN (n := 8 * i) (m := 31) (by omega) 5 (by decide), Nat.mod_eq_of_lt (show 8 * i < 2 ^ 5 by omega)]
    have h8 : 2 ^ (8 * i) ≤ 2 ^ 24 := Nat.pow_le_pow_right (by decide) (by omega)
    have hmul : b (s.1 + i) * 2 ^ (8 * i) ≤ 255 * 2 ^ 24 := Nat.mul_le_mul (by omega) h8
    have hlt : ivN b s.1 i < 2 ^ 32 := by omega
    have hmul2 : b (s.1 + i) * 2 ^ (8 * i) < 2 ^ 32 := by omega
    rw [hv g1, g4', em, pk_shlN _ (8 * i) (nI_smod (by omega)) hmul2, nI_or hlt hmul2, Nat.or_comm, Nat.mul_comm, ← Nat.two_pow_add_eq_or_of_lt hiv]
    show _ = nI (ivN b s.1 i + b (s.1 + i) * 2 ^ (8 * i))
    rw [Nat.add_comm, Nat.mul_comm]
/-- fourBytes -/
theorem s_118 (hsp : ox_mono sp) (h : tpS S x b e (p, none)) (hx : x + 76 ≤ S.n) (hp : p < e)
    (hQ : ∀ S' v, prF x S S' → S'.n = S.n → tpS S' x b e (bwN b e (p + 1, none) 4) → ((bwN b e (p + 1, none) 4).2 = none → v = nI (ivN b (p + 1) 4)) → Q (some (.inl v)) S') : ox_M sp (d + 4) 118 [.inr (.inr x)] mr sr S Q := by
  have k : S.K x = 13 := h.1.obj (o := 0) (k := 13) (by decide)
  have i2 : S.I 62 x = nI p := h.2.2.2.1
  have f1 : prF x S (S.sI 62 x (nI (p + 1))) := prF_sI (Or.inl rfl)
  refine f_118 hsp ?_
  unfold q_118
  rw [k, i2, nI_1]
  refine ⟨rfl, rfl, ?_⟩
  show c_118_14 (ox_M sp (d + 3)) x 0 (nI 0) (S.sI 62 x (nI (p + 1))) mr sr Q
  exact s_118_14 (s := (p + 1, none)) hsp hx hp hQ 4 0 (S.sI 62 x (nI (p + 1))) 0 rfl f1 rfl (h.on hx hp) (fun _ => rfl)
/-- a number made of four bytes that were read -/
theorem s_118v (hsp : ox_mono sp) {S0 : ox_St} {v : Int32} {V0 : Nat} (hx : x + 76 ≤ S0.n) (t0 : prF x S0 S) (tn : S.n = S0.n) (h : tpS S x b e s) (hv : s.2 = none → v = nI V0) (hm : 2 ≤ mr) (hs : 9 ≤ sr)
    (hQ : ∀ S' w c r V, prF x S0 S' → S'.n = S0.n + 2 → tpS S' x b e s → oNm S' (S0.n + 1) S0.n w c r ∧ S'.I 6 (S0.n + 1) = 3 → nv w c r = V → (s.2 = none → V = (nI V0).toInt) → Q (some (.inr (.inr (S0.n + 1)))) S') : ox_M sp (d + 3) 79 [.inr (.inl (Int32.toInt64 v))] mr sr S Q := by
  have hb := i_bd v
  refine s_79v hsp (V := v.toInt) (Int32.toInt_toInt64 v) (by omega) (by omega) hm hs (fun S' w c r e1 e2 e3 e4 => ?_)
  have f2 : prF x S S' := prF_new (by omega) e2 (by omega)
  have a0 := e2 x (by show x < S.n; omega)
  rw [tn] at e1 e3 ⊢
  exact hQ S' w c r v.toInt (t0.trans f2) e1 (h.keep f2 (by omega) (a0.2.2.1 62) (a0.2.2.1 63)) e3 e4 (fun z => by rw [hv z])
end OLF
