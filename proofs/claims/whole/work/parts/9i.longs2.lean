/-! reading the tape: longNumber -/
/-- how many digits are made room for -/
def lgL (b : Nat → Nat) (e p : Nat) : Nat := if (lgC b e p).2 = none then lgK b p else 0
theorem lgL_le {b : Nat → Nat} {e p : Nat} : lgL b e p ≤ 16 := by
  unfold lgL
  by_cases c : (lgC b e p).2 = none
  · rw [if_pos c]
    have := (lgC_none c).2.2
    unfold lgK
    by_cases c2 : 240 ≤ b p
    · rw [if_pos c2]; omega
    · rw [if_neg c2]; omega
  · rw [if_neg c]; decide
theorem lgR_abs {b : Nat → Nat} {e p : Nat} (hb : p < e → b p < 256) : (if (16 : Int32) < (if 0 ≤ lgR b e p then lgR b e p else 0 - lgR b e p) then 16 else (if 0 ≤ lgR b e p then lgR b e p else 0 - lgR b e p)) = nI (lgL b e p) ∧ ((0 : Int32) ≤ lgR b e p ↔ ¬ ((lgC b e p).2 = none ∧ 240 ≤ b p)) := by
  have hle := lgL_le (b := b) (e := e) (p := p)
  have big : ¬ (16 : Int32) < nI (lgL b e p) := nI_nlt (b := lgL b e p) (a := 16) hle (by decide)
  by_cases c : (lgC b e p).2 = none
  · obtain ⟨g1, g2, g3⟩ := lgC_none c
    have hbp := hb (by omega)
    have hr : lgR b e p = if 240 ≤ b p then nI (b p) - 256 else nI (b p) := if_pos c
    have hl : lgL b e p = lgK b p := if_pos c
    by_cases c2 : 240 ≤ b p
    · have hk : lgK b p = 256 - b p := if_pos c2
      rw [if_pos c2] at hr
      have hneg : ¬ (0 : Int32) ≤ nI (b p) - 256 := fun z => by
        have := Int32.le_iff_toInt_le.mp z
        rw [show (256 : Int32) = nI 256 from rfl, pk_sub_toInt (by omega) (by decide), show (0 : Int32).toInt = 0 from rfl] at this
        omega
      have habs : 0 - (nI (b p) - 256) = nI (lgL b e p) := by
        rw [hl, hk, ← pk_sub (show b p ≤ 256 by omega)]
        rw [Int32.sub_eq_add_neg, Int32.zero_add, Int32.neg_sub]
        rfl
      rw [hr, if_neg hneg, habs, if_neg big]
      exact ⟨rfl, fun z => absurd z hneg, fun z => absurd ⟨c, c2⟩ z⟩
    · have hk : lgK b p = b p := if_neg c2
      rw [if_neg c2] at hr
      have hpos : (0 : Int32) ≤ nI (b p) := nI_pos' (by omega)
      rw [hl, hk] at big
      rw [hr, if_pos hpos, if_neg big, hl, hk]
      exact ⟨rfl, fun _ z => c2 z.2, fun _ => hpos⟩
  · have hr : lgR b e p = 0 := if_neg c
    have hl : lgL b e p = 0 := if_neg c
    rw [hr, hl]
    exact ⟨rfl, fun _ z => c z.1, fun _ => by decide⟩
theorem oCL_wI {S : ox_St} {x t i : Nat} {v : Int32} (h : oCL S x) (ht : x + 76 ≤ t) : oCL (S.wI t i v) x :=
  h.next (fun _ _ _ => ⟨rfl, rfl⟩) (fun _ _ _ _ _ _ _ _ _ => rfl) (fun _ _ _ _ _ => rfl) rfl rfl (funext fun j => by rw [or_wI_rI, if_neg (fun z => by omega)])
theorem tpS_wI {S : ox_St} {x t i e : Nat} {b : Nat → Nat} {s : oTS} {v : Int32} (h : tpS S x b e s) (ht : x + 76 ≤ t) : tpS (S.wI t i v) x b e s := by
  obtain ⟨h1, h2, h3, h4, h5, h6, h7, h8⟩ := h
  exact ⟨oCL_wI h1 ht, h2, h3, h4, h5, h6, h7, fun j hj => by rw [or_wI_rI, if_neg (fun z => by omega)]; exact h8 j hj⟩
section OLH
variable {sp : ox_E} {d mr sr : Nat} {S : ox_St} {Q : ox_Q} {x e p : Nat} {b : Nat → Nat}
theorem s_119_29 (hsp : ox_mono sp) (hm : 1 ≤ mr) (hs : 4 ≤ sr) {S0 : ox_St} (hx : x + 76 ≤ S0.n) {n : Nat} {c : Int32} {s0 : oTS} (hn : n ≤ 16) (hs0 : s0.1 ≤ e)
    (hQ : ∀ S', prF x S0 S' → S'.n = S0.n + 2 → tpS S' x b e (lgD b e n s0 n) → S'.K (S0.n + 1) = 8 → S'.R 52 (S0.n + 1) = S0.n → S'.K S0.n = 15 → S'.len S0.n = n → ((lgD b e n s0 n).2 = none → ∀ j, j < n → S'.rI S0.n j = nI (dgV b s0.1 j)) → S'.I 51 (S0.n + 1) = (if 0 ≤ c then 0 else 1) → S'.I 6 (S0.n + 1) = 3 → Q (some (.inr (.inr (S0.n + 1)))) S') : ∀ (r i : Nat) (S : ox_St), i + r = n → prF x S0 S → S.n = S0.n + 1 → S.K S0.n = 15 → S.len S0.n = n → tpS S x b e (lgD b e n s0 i) → ((lgD b e n s0 i).2 = none → ∀ j, j < i → S.rI S0.n j = nI (dgV b s0.1 j)) → c_119_29 (ox_M sp (d + 2)) x c S0.n (nI i) S mr sr Q := by
  have hE : ox_mono (ox_M sp (d + 2)) := ox_M_mono hsp _
  -- the end
  have fin : ∀ (x3 : Int32) (S : ox_St), prF x S0 S → S.n = S0.n + 1 → S.K S0.n = 15 → S.len S0.n = n → tpS S x b e (lgD b e n s0 n) → ((lgD b e n s0 n).2 = none → ∀ j, j < n → S.rI S0.n j = nI (dgV b s0.1 j)) → ∀ neg : Int32, (neg = 0 ∨ neg = 1) → neg = (if 0 ≤ c then 0 else 1) → (3 ≤ 4 ∧ S.n ≠ 0 ∧ 1 ≤ 8 ∧ ∃ mc mk, mc ≤ (mr - 1) ∧ mk ≤ (sr - 4) ∧ ox_M sp (d + 2) 78 [.inr (.inr S.n), .inl neg, .inr (.inr S0.n)] mc mk (S.newO 8) (k_119_125 (ox_M sp (d + 2)) x c S0.n x3 S.n ((mr - 1) - mc) ((sr - 4) - mk) Q)) := by
    intro x3 S t0 tn kt lt h hw neg hneg hneg2
    have kn : (S.newO 8).K S.n = 8 := by rw [or_newO_K, if_pos rfl]
    refine ⟨by decide, by omega, by decide, 0, 0, Nat.zero_le _, Nat.zero_le _, s_78 hsp (by omega) kn hneg (f_119_125 hE ⟨rfl, ?_⟩)⟩
    have hP : ¬ (S.n < S.n) := Nat.lt_irrefl _
    have s1 : ∀ (T' : ox_St) (F : Nat) (v : Int32), oAg (fun a => a < S.n) T' (T'.sI F S.n v) := fun T' F v => oAg_sI (P := fun a => a < S.n) hP
    have ag : oAg (fun a => a < S.n) S (oMkNum (S.newO 8) S.n neg S0.n) := ((((oAg_newO (P := fun a => a < S.n) hP).trans (s1 _ 6 _)).trans (s1 _ 7 _)).trans (s1 _ 51 _)).trans (oAg_sR (P := fun a => a < S.n) hP)
    have nn : (oMkNum (S.newO 8) S.n neg S0.n).n = S.n + 1 := rfl
    have k8 : (oMkNum (S.newO 8) S.n neg S0.n).K S.n = 8 := kn
    have r52 : (oMkNum (S.newO 8) S.n neg S0.n).R 52 S.n = S0.n := if_pos ⟨rfl, rfl⟩
    have i51 : (oMkNum (S.newO 8) S.n neg S0.n).I 51 S.n = neg := by
      show (((oV0 (S.newO 8) S.n 3 0).sI 51 S.n neg).sR 52 S.n S0.n).I 51 S.n = _
      rw [or_sR_I, or_sI_I, if_pos ⟨rfl, rfl⟩]
    have i6 : (oMkNum (S.newO 8) S.n neg S0.n).I 6 S.n = 3 := by
      show (((oV0 (S.newO 8) S.n 3 0).sI 51 S.n neg).sR 52 S.n S0.n).I 6 S.n = _
      rw [or_sR_I, or_sI_I, if_neg (fun z => by cases z.1)]
      show (((S.newO 8).sI 6 S.n 3).sI 7 S.n 0).I 6 S.n = 3
      rw [or_sI_I, if_neg (fun z => by cases z.1), or_sI_I, if_pos ⟨rfl, rfl⟩]
    generalize oMkNum (S.newO 8) S.n neg S0.n = U at ag nn k8 r52 i51 i6
    have f2 : prF x S U := prF_new (by omega) ag (by omega)
    have a0 := ag x (by show x < S.n; omega)
    have at' := ag S0.n (by show S0.n < S.n; omega)
    have hh := h.keep f2 (by omega) (a0.2.2.1 62) (a0.2.2.1 63)
    rw [tn] at nn k8 r52 i51 i6 ⊢
    exact hQ U (t0.trans f2) nn hh k8 r52 (at'.1.trans kt) (at'.2.1.trans lt) (fun z j hj => (at'.2.2.2.2.2.1 j).trans (hw z j hj)) (i51.trans hneg2) i6
  have fin2 : ∀ (x3 : Int32) (S : ox_St), prF x S0 S → S.n = S0.n + 1 → S.K S0.n = 15 → S.len S0.n = n → tpS S x b e (lgD b e n s0 n) → ((lgD b e n s0 n).2 = none → ∀ j, j < n → S.rI S0.n j = nI (dgV b s0.1 j)) → (1 ≤ mr ∧ 4 ≤ sr ∧ (let S1 := S.newO 8
  (((0 : Int32) ≤ c → (3 ≤ 4 ∧ S.n ≠ 0 ∧ 1 ≤ 8 ∧ ∃ mc2 mk3, mc2 ≤ (mr - 1) ∧ mk3 ≤ (sr - 4) ∧ ox_M sp (d + 2) 78 [.inr (.inr (S.n)), .inl (0), .inr (.inr (S0.n))] mc2 mk3 S1 (k_119_125 (ox_M sp (d + 2)) x c S0.n x3 S.n ((mr - 1) - mc2) ((sr - 4) - mk3) Q))) ∧ (¬ (0 : Int32) ≤ c → (3 ≤ 4 ∧ S.n ≠ 0 ∧ 1 ≤ 8 ∧ ∃ mc4 mk5, mc4 ≤ (mr - 1) ∧ mk5 ≤ (sr - 4) ∧ ox_M sp (d + 2) 78 [.inr (.inr (S.n)), .inl (1), .inr (.inr (S0.n))] mc4 mk5 S1 (k_119_125 (ox_M sp (d + 2)) x c S0.n x3 S.n ((mr - 1) - mc4) ((sr - 4) - mk5) Q)))))) := fun x3 S t0 tn kt lt h hw => ⟨hm, hs, fun z => fin x3 S t0 tn kt lt h hw 0 (Or.inl rfl) (by rw [if_pos z]), fun z => fin x3 S t0 tn kt lt h hw 1 (Or.inr rfl) (by rw [if_neg z])⟩
  intro r
  induction r with
  | zero =>
    intro i S hi t0 tn kt lt h hw
    obtain rfl : i = n := by omega
    refine f_119_29 hE ?_
    unfold q_119_29
    rw [kt, lt]
    exact ⟨rfl, fun _ => fin2 (nI i) S t0 tn kt lt h hw, fun z => absurd (nI_le (Nat.le_refl i) (by omega)) z⟩
  | succ r ih =>
    intro i S hi t0 tn kt lt h hw
    have hin : i < n := by omega
    have k : S.K x = 13 := h.1.obj (o := 0) (k := 13) (by decide)
    have i3 := h.2.2.2.2.2.1
    refine f_119_29 hE ?_
    unfold q_119_29
    rw [kt, lt, k]
    refine ⟨rfl, fun z => absurd z (nI_ge hin (by omega)), fun _ => ⟨rfl, fun z => ?_, fun z => ⟨by decide, rfl, by decide, 0, 0, Nat.zero_le _, Nat.zero_le _, ?_⟩⟩⟩
    · -- a fault: nothing more is read
      cases hf : (lgD b e n s0 i).2 with
      | none => rw [hf] at i3; exact absurd i3 z
      | some v =>
        have hst : lgD b e n s0 i = ((lgD b e n s0 i).1, some v) := by rw [← hf]
        have hlast := lgD_some hst (n - i)
        rw [show i + (n - i) = n by omega, ← hst] at hlast
        exact fin2 (nI i) S t0 tn kt lt (by rw [hlast]; exact h) (fun z => by rw [hlast, hf] at z; cases z)
    · have hfn : (lgD b e n s0 i).2 = none := by
        cases hf : (lgD b e n s0 i).2 with
        | none => rfl
        | some v =>
          rw [hf] at i3
          have hv := h.2.2.2.2.2.2.1 v hf
          rw [show S.I 63 x = nI v from i3] at z
          exact absurd z (nI_m1 (by omega))
      refine s_115 (lo := 0) (hi := 255) hsp h (by omega) (by decide) (by decide) (fun S1 f1 n1 h1 => f_119_51 hE ?_)
      have k1 : S1.K x = 13 := h1.1.obj (o := 0) (k := 13) (by decide)
      have at1 := f1.2.2.1 S0.n ⟨by omega, by omega, by omega, by rw [kt]; decide⟩
      -- the higher byte
      have up : ∀ (lo : Nat) (x5 : Int32), lo = (if i + 1 = n ∧ bwV b e 0 255 (lgD b e n s0 i) = 0 then 1 else 0) → ox_M sp (d + 2) 115 [.inr (.inr x), .inl (nI lo), .inl 127] 0 0 S1 (k_119_89 (ox_M sp (d + 2)) x c S0.n (nI i) (bwV b e 0 255 (lgD b e n s0 i)) x5 mr sr Q) := by
        intro lo x5 hlo
        have hlo2 : lo ≤ 255 := by
          rw [hlo]
          by_cases q : i + 1 = n ∧ bwV b e 0 255 (lgD b e n s0 i) = 0
          · rw [if_pos q]; decide
          · rw [if_neg q]; decide
        refine s_115 (hi := 127) hsp h1 (by omega) hlo2 (by decide) (fun S2 f2 n2 h2 => f_119_89 hE ?_)
        have at2 := f2.2.2.1 S0.n ⟨by omega, by omega, by omega, by rw [at1.1, kt]; decide⟩
        have k2t : S2.K S0.n = 15 := (at2.1.trans at1.1).trans kt
        have l2t : S2.len S0.n = n := (at2.2.1.trans at1.2.1).trans lt
        have hst : bwS b e lo 127 (bwS b e 0 255 (lgD b e n s0 i)) = lgD b e n s0 (i + 1) := by rw [hlo]; rfl
        rw [hst] at h2
        unfold q_119_89
        rw [k2t, l2t, nI_clamp (n := i) (by omega)]
        refine ⟨rfl, vp_in_nI hin (by omega), ?_⟩
        have t2 : prF x S0 S2 := (t0.trans f1).trans f2
        have m2 : S2.n = S0.n + 1 := (n2.trans n1).trans tn
        show c_119_29 (ox_M sp (d + 2)) x c S0.n (nI i + 1) (S2.wI S0.n i ((bwV b e lo 127 (bwS b e 0 255 (lgD b e n s0 i)) <<< (8 &&& 31)) ||| bwV b e 0 255 (lgD b e n s0 i))) mr sr Q
        rw [nI_1]
        refine ih (i + 1) _ (by omega) (prF_wI t2 (Nat.le_refl _) hx) m2 k2t l2t (tpS_wI h2 hx) (fun z j hj => ?_)
        have z0 : (bwS b e lo 127 (bwS b e 0 255 (lgD b e n s0 i))).2 = none := by rw [hst]; exact z
        obtain ⟨g1, g2, g3, g4⟩ := bwS_none z0
        obtain ⟨q1, q2, q3, q4⟩ := bwS_none g1
        obtain ⟨c1, c2, c3, c4⟩ := lgD_none hs0 i q1
        rw [or_wI_rI]
        by_cases hj2 : j = i
        · rw [if_pos ⟨rfl, hj2⟩, g4, q4, q3, c2, hj2]
          rw [q3, c2] at g2
          rw [c2] at q2
          have e1 : b (s0.1 + 2 * i) < 256 := (h.2.2.2.2.2.2.2 _ q2.1).2
          have e2 : b (s0.1 + 2 * i + 1) ≤ 127 := g2.2.2
          show (nI (b (s0.1 + 2 * i + 1)) <<< (8 &&& 31)) ||| nI (b (s0.1 + 2 * i)) = nI (b (s0.1 + 2 * i) + 256 * b (s0.1 + 2 * i + 1))
          have hsh : nI (b (s0.1 + 2 * i + 1)) <<< (8 &&& 31) = nI (b (s0.1 + 2 * i + 1) * 2 ^ 8) := pk_shlN _ 8 (by decide) (by omega)
          rw [hsh, nI_or (by omega) (by omega), Nat.mul_comm, ← Nat.two_pow_add_eq_or_of_lt (show b (s0.1 + 2 * i) < 2 ^ 8 from e1)]
          congr 1
          omega
        · rw [if_neg (fun y => hj2 y.2), at2.2.2.2.2.2.1 j, at1.2.2.2.2.2.1 j]
          exact hw q1 j (by omega)
      have k1t : S1.K S0.n = 15 := at1.1.trans kt
      have l1t : S1.len S0.n = n := at1.2.1.trans lt
      have en : Int32.ofNat n - 1 = nI (n - 1) := pk_sub (b := 1) (by omega)
      unfold q_119_51
      rw [k1t, l1t, k1, en]
      refine ⟨rfl, fun y => ⟨fun _ => ⟨by decide, rfl, by decide, 0, 0, Nat.zero_le _, Nat.zero_le _, up 0 0 ?_⟩, fun y2 => absurd rfl y2⟩, fun y => ⟨fun y2 => absurd y2 (by decide), fun _ => ⟨fun y3 => ⟨by decide, rfl, by decide, 0, 0, Nat.zero_le _, Nat.zero_le _, up 0 1 ?_⟩, fun y3 => ⟨by decide, rfl, by decide, 0, 0, Nat.zero_le _, Nat.zero_le _, up 1 1 ?_⟩⟩⟩⟩
      · rw [if_neg (fun q => y (by rw [show i = n - 1 by omega]))]
      · rw [if_neg (fun q => y3 q.2)]
      · have : i = n - 1 := (nI_eq (by omega) (by omega)).mp y
        rw [if_pos ⟨by omega, y3⟩]
/-- longNumber -/
theorem s_119 (hsp : ox_mono sp) (h : tpS S x b e (p, none)) (hx : x + 76 ≤ S.n) (hp : p < e) (hm : 2 ≤ mr) (hs : 20 ≤ sr)
    (hQ : ∀ S', prF x S S' → S'.n = S.n + 2 → tpS S' x b e (lgD b e (lgL b e (p + 1)) (lgC b e (p + 1)) (lgL b e (p + 1))) → S'.K (S.n + 1) = 8 → S'.I 6 (S.n + 1) = 3 → ((lgD b e (lgL b e (p + 1)) (lgC b e (p + 1)) (lgL b e (p + 1))).2 = none → oNm S' (S.n + 1) S.n (dgV b (p + 3)) (lgK b (p + 1)) (if 240 ≤ b (p + 1) then 1 else 0)) → Q (some (.inr (.inr (S.n + 1)))) S') : ox_M sp (d + 3) 119 [.inr (.inr x)] mr sr S Q := by
  have hE : ox_mono (ox_M sp (d + 2)) := ox_M_mono hsp _
  have k : S.K x = 13 := h.1.obj (o := 0) (k := 13) (by decide)
  have i2 : S.I 62 x = nI p := h.2.2.2.1
  have f1 : prF x S (S.sI 62 x (nI (p + 1))) := prF_sI (Or.inl rfl)
  have h1 := h.on hx hp
  refine f_119 hsp ?_
  unfold q_119
  rw [k, i2, nI_1]
  refine ⟨rfl, rfl, by decide, k, by decide, 0, 0, Nat.zero_le _, Nat.zero_le _, ?_⟩
  show ox_M sp (d + 2) 120 [.inr (.inr x)] 0 0 (S.sI 62 x (nI (p + 1))) _
  have n1 : (S.sI 62 x (nI (p + 1))).n = S.n := rfl
  generalize S.sI 62 x (nI (p + 1)) = S1 at f1 h1 n1
  refine s_120 hsp h1 (by omega) (fun S2 f2 n2 h2 => f_119_14 hE ?_)
  have hb1 : p + 1 < e → b (p + 1) < 256 := fun q => (h1.2.2.2.2.2.2.2 _ q).2
  obtain ⟨r1, r2⟩ := lgR_abs hb1
  have hle := lgL_le (b := b) (e := e) (p := p + 1)
  have n12 : S2.n = S.n := n2.trans n1
  unfold q_119_14
  rw [r1, nI_clamp (n := lgL b e (p + 1)) (by omega)]
  refine ⟨by decide, by decide, nI_pos (by omega), by omega, by omega, by omega, ?_⟩
  have ag : oAg (fun a => a < S2.n) S2 (S2.newA 15 (lgL b e (p + 1))) := oAg_newA (P := fun a => a < S2.n) (Nat.lt_irrefl _)
  have f3 : prF x S2 (S2.newA 15 (lgL b e (p + 1))) := prF_new (Nat.le_succ _) ag (by omega)
  have a0 := ag x (by show x < S2.n; omega)
  have h3 := h2.keep f3 (by omega) (a0.2.2.1 62) (a0.2.2.1 63)
  have hC : (lgC b e (p + 1)).1 ≤ e := h2.2.2.2.2.1
  show c_119_29 (ox_M sp (d + 2)) x (lgR b e (p + 1)) S2.n (nI 0) (S2.newA 15 (lgL b e (p + 1))) (mr - 1) (sr - lgL b e (p + 1)) Q
  refine s_119_29 (S0 := S2) hsp (by omega) (by omega) (by omega) hle hC (fun S' q1 q2 q3 q4 q5 q6 q7 q8 q9 q10 => ?_) (lgL b e (p + 1)) 0 (S2.newA 15 (lgL b e (p + 1))) (Nat.zero_add _) f3 rfl (by rw [or_newA_K, if_pos rfl]) (by rw [or_newA_len, if_pos rfl]) h3 (fun _ j hj => absurd hj (Nat.not_lt_zero j))
  rw [n12] at q2 q4 q5 q6 q7 q8 q9 q10 ⊢
  refine hQ S' ((f1.trans f2).trans q1) q2 q3 q4 q10 (fun z => ?_)
  have hq8 := q8 z
  obtain ⟨c1, c2, c3, c4⟩ := lgD_none hC (lgL b e (p + 1)) z
  obtain ⟨g1, g2, g3⟩ := lgC_none c1
  have hl : lgL b e (p + 1) = lgK b (p + 1) := if_pos c1
  have hbp := hb1 (by omega)
  rw [hl] at hq8 q7 c3 c4 hle
  rw [g2] at hq8 c3 c4
  have c3' : p + 1 + 2 + 2 * lgK b (p + 1) ≤ e := c3
  have hdig : ∀ j, j < lgK b (p + 1) → dgV b (p + 3) j < 32768 := fun j hj => by
    have e1 : b (p + 3 + 2 * j) < 256 := (h1.2.2.2.2.2.2.2 _ (by omega)).2
    have e2 : b (p + 1 + 2 + 2 * j + 1) ≤ 127 := (c4 j hj).1
    rw [show p + 1 + 2 + 2 * j + 1 = p + 3 + 2 * j + 1 by omega] at e2
    unfold dgV
    omega
  refine ⟨q4, q5, ⟨q6, q7, hle, fun j hj => ⟨hq8 j hj, hdig j hj⟩⟩, ⟨hdig, fun h0 => ?_⟩, ?_, ?_, fun h0 => ?_⟩
  · obtain ⟨y1, y2⟩ := c4 (lgK b (p + 1) - 1) (by omega)
    have y3 : b (p + 1 + 2 + 2 * (lgK b (p + 1) - 1)) = 0 → 1 ≤ b (p + 1 + 2 + 2 * (lgK b (p + 1) - 1) + 1) := y2 (by omega)
    rw [show p + 1 + 2 + 2 * (lgK b (p + 1) - 1) = p + 3 + 2 * (lgK b (p + 1) - 1) by omega] at y3
    unfold dgV
    omega
  · rw [q9]
    by_cases c : 240 ≤ b (p + 1)
    · rw [if_neg (fun q => (r2.mp q) ⟨c1, c⟩), if_pos c]
    · rw [if_pos (r2.mpr (fun q => c q.2)), if_neg c]
  · by_cases c : 240 ≤ b (p + 1)
    · rw [if_pos c]; exact Or.inr rfl
    · rw [if_neg c]; exact Or.inl rfl
  · refine if_neg (fun c => ?_)
    have : lgK b (p + 1) = 256 - b (p + 1) := if_pos c
    omega
end OLH
