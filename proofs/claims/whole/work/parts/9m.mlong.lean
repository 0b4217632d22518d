/-! the reference reads the tape: readLong -/
/-- what reading a number leaves alone -/
def mpF (m ce T : Nat) (S S' : ox_St) : Prop := S'.K = S.K ∧ S'.len = S.len ∧ S'.n = S.n ∧ S'.R = S.R ∧ S'.J = S.J ∧ S'.rR = S.rR ∧ S'.rJ = S.rJ ∧ (∀ F a, a ≠ m ∨ (F ≠ 70 ∧ F ≠ 75 ∧ F ≠ 120 ∧ F ≠ 132 ∧ (F < 113 ∨ 119 < F)) → S'.I F a = S.I F a) ∧ (∀ a, a < m + 26 ∨ m + 29 < a → a ≠ m + ce → S'.rI a = S.rI a) ∧ ∀ j, j < T → S'.rI (m + ce) j = S.rI (m + ce) j
theorem mpF.trans {m ce T : Nat} {S S' U : ox_St} (h : mpF m ce T S S') (g : mpF m ce T S' U) : mpF m ce T S U := by
  obtain ⟨h1, h2, h3, h4, h5, h6, h7, h8, h9, h10⟩ := h
  obtain ⟨g1, g2, g3, g4, g5, g6, g7, g8, g9, g10⟩ := g
  exact ⟨g1.trans h1, g2.trans h2, g3.trans h3, g4.trans h4, g5.trans h5, g6.trans h6, g7.trans h7, fun F a q => (g8 F a q).trans (h8 F a q), fun a q1 q2 => (g9 a q1 q2).trans (h9 a q1 q2), fun j q => (g10 j q).trans (h10 j q)⟩
theorem tkF.mp {m ce T : Nat} {S S' : ox_St} (h : tkF m S S') : mpF m ce T S S' := by
  obtain ⟨h1, h2, h3, h4, h5, h6, h7, h8, h9⟩ := h
  exact ⟨h1, h2, h3, h4, h5, h6, h7, fun F a q => h9 F a (by omega), fun a _ _ => by rw [h8], fun j _ => by rw [h8]⟩
theorem mNw.mp {m ce T : Nat} {S S' : ox_St} (h : mNw m ce T S S') : mpF m ce T S S' := by
  obtain ⟨h1, h2, h3, h4, h5, h6, h7, h8, h9, h10⟩ := h
  exact ⟨h1, h2, h3, h4, h5, h6, h7, fun F a q => h8 F a (by omega), h9, h10⟩
theorem mtS.nw {S S' : ox_St} {m ce T e : Nat} {b : Nat → Nat} {s : oTS} (h : mtS S m ce b e s) (g : mNw m ce T S S') : mtS S' m ce b e s := by
  obtain ⟨a1, a2, a3, a4, a5, a6⟩ := h
  have hce := a1.2.2.1
  have gi : ∀ F, F ≠ 75 → (F < 113 ∨ 119 < F) → S'.I F m = S.I F m := fun F q1 q2 => g.2.2.2.2.2.2.2.1 F m (Or.inr ⟨q1, q2⟩)
  refine ⟨a1.nw g, (gi 121 (by decide) (by decide)).trans a2, a3, fun z => ?_, fun v hv => ?_, fun i hi => ?_⟩
  · rw [gi 120 (by decide) (by decide), gi 132 (by decide) (by decide), gi 70 (by decide) (by decide)]; exact a4 z
  · rw [gi 132 (by decide) (by decide), gi 70 (by decide) (by decide)]; exact a5 v hv
  · rw [g.2.2.2.2.2.2.2.2.1 (m + 1) (by omega) (by omega)]; exact a6 i hi
/-- a fault stays, wherever it stood -/
theorem mtS.any {S : ox_St} {m ce e p q v : Nat} {b : Nat → Nat} (h : mtS S m ce b e (p, some v)) : mtS S m ce b e (q, some v) := by
  obtain ⟨a1, a2, a3, a4, a5, a6⟩ := h
  exact ⟨a1, a2, a3, fun z => (by cases z), fun w hw => a5 w hw, a6⟩
theorem lgD_sgn {b : Nat → Nat} {e n : Nat} {s : oTS} : ∀ i, s.2 ≠ none → lgD b e n s i = s
  | 0, _ => rfl
  | i + 1, h => by
    show bwS b e _ 127 (bwS b e 0 255 (lgD b e n s i)) = s
    rw [lgD_sgn i h, bwS_flt h, bwS_flt h]
section OMLg
variable {sp : ox_E} {d mr sr : Nat} {S : ox_St} {Q : ox_Q} {m ce e p : Nat} {b : Nat → Nat}
theorem s_152_113 (hsp : ox_mono sp) {S0 : ox_St} {T n : Nat} {x1 x2 mn : Int32} {s0 : oTS} (hT : S0.I 75 m = nI T) (hT16 : 16 ≤ T) (hT2 : T + 19 ≤ 1100000) (hn : n ≤ 16) (hs0 : s0.1 ≤ e) (hmn : mn = 0 ∨ mn = 1)
    (hQ1 : ∀ S' w c r, mpF m ce T S0 S' → mtS S' m ce b e (lgD b e n s0 n) → S'.I 75 m = nI (T + 3 + c) → mNum S' (m + ce) T w c r → dc w c → (c = 0 → r = 0) → (lgD b e n s0 n).2 = none → nv w c r = (if mn = 0 then (dv (dgV b s0.1) n : Int) else -(dv (dgV b s0.1) n : Int)) → Q (some (.inl (nI T))) S') (hQ0 : ∀ S', mpF m ce T S0 S' → S'.I 75 m = nI T → (lgD b e n s0 n).2 ≠ none → mtS S' m ce b e (lgD b e n s0 n) → Q (some (.inl 0)) S') : ∀ (r i : Nat) (S : ox_St), i + r = n → mpF m ce T S0 S → S.I 75 m = nI T → mtS S m ce b e (lgD b e n s0 i) → S.I 115 m = nI n → S.I 119 m = mn → ((lgD b e n s0 i).2 = none → ∀ j, j < i → S.rI (m + 28) j = nI (dgV b s0.1 j)) → c_152_113 (ox_M sp (d + 3)) m x1 x2 (nI i) S mr sr Q := by
  have hE : ox_mono (ox_M sp (d + 3)) := ox_M_mono hsp _
  -- the end
  have fin : ∀ (x3 : Int32) (S : ox_St), mpF m ce T S0 S → S.I 75 m = nI T → mtS S m ce b e (lgD b e n s0 n) → S.I 115 m = nI n → S.I 119 m = mn → ((lgD b e n s0 n).2 = none → ∀ j, j < n → S.rI (m + 28) j = nI (dgV b s0.1 j)) → c_152_195 (ox_M sp (d + 3)) m x1 x2 x3 S mr sr Q := by
    intro x3 S t0 i75 h i5 i9 hw
    have k := h.1.1
    refine f_152_195 hE ⟨by rw [k]; rfl, fun z => ⟨by decide, k, by decide, 0, 0, Nat.zero_le _, Nat.zero_le _, ?_⟩, fun z => f_152_210 hE ⟨trivial, hQ0 S t0 i75 (fun q => z (h.2.2.2.1 q).2.1) h⟩⟩
    have hf : (lgD b e n s0 n).2 = none := by
      cases q : (lgD b e n s0 n).2 with
      | none => rfl
      | some u => exact absurd z (by rw [(h.2.2.2.2.1 u q).1]; decide)
    obtain ⟨c1, c2, c3, c4⟩ := lgD_none hs0 n hf
    have hdig : ∀ j, j < n → dgV b s0.1 j < 32768 := fun j hj => by
      have e1 : b (s0.1 + 2 * j) < 256 := (h.2.2.2.2.2 _ (by omega)).2
      have e2 := (c4 j hj).1
      unfold dgV
      omega
    have hdv : dv (dgV b s0.1) n < 32768 ^ 16 := Nat.lt_of_lt_of_le (dv_lt n hdig) (Nat.pow_le_pow_right (by decide) hn)
    exact s_140v (d := d + 1) hsp (T := T) (N := n) (w := dgV b s0.1) (mn := mn) hmn hT2 hT16 (by omega) h.1 i5 i9 i75 (fun j hj => ⟨hw hf j hj, hdig j hj⟩) (fun S' w' c r e1 e2 e3 e4 e5 e6 => f_152_210 hE ⟨trivial, hQ1 S' w' c r (t0.trans e1.mp) (h.nw e1) e2 e3 e4 e5 hf e6⟩) (fun S' e1 e2 => absurd hdv (Nat.not_lt.mpr e2))
  intro r
  induction r with
  | zero =>
    intro i S hi t0 i75 h i5 i9 hw
    obtain rfl : i = n := by omega
    have k := h.1.1
    refine f_152_113 hE ⟨by rw [k]; rfl, fun _ => fin (nI i) S t0 i75 h i5 i9 hw, fun z => absurd ?_ z⟩
    rw [i5]
    exact nI_le (Nat.le_refl i) (by omega)
  | succ r ih =>
    intro i S hi t0 i75 h i5 i9 hw
    have hin : i < n := by omega
    have k := h.1.1
    refine f_152_113 hE ?_
    unfold q_152_113
    rw [k, i5]
    refine ⟨rfl, fun z => absurd z (nI_ge hin (by omega)), fun _ => ⟨rfl, fun z => ?_, fun z => ⟨by decide, rfl, by decide, 0, 0, Nat.zero_le _, Nat.zero_le _, ?_⟩⟩⟩
    · have hf : (lgD b e n s0 i).2 ≠ none := fun q => z (h.2.2.2.1 q).2.1
      have hst : lgD b e n s0 n = lgD b e n s0 i := by
        cases q : (lgD b e n s0 i).2 with
        | none => exact absurd q hf
        | some v =>
          have hs' : lgD b e n s0 i = ((lgD b e n s0 i).1, some v) := by rw [← q]
          have hl := lgD_some hs' (n - i)
          rw [show i + (n - i) = n by omega, ← hs'] at hl
          exact hl
      exact fin (nI i) S t0 i75 (by rw [hst]; exact h) i5 i9 (fun q => absurd (by rw [hst] at q; exact q) hf)
    · refine s_151 (lo := 0) (hi := 255) hsp h (by decide) (by decide) (fun S1 y f1 h1 y1 y2 => f_152_136 hE ?_)
      have k1 := h1.1.1
      have j5 : S1.I 115 m = nI n := (f1.2.2.2.2.2.2.2.2 115 m (Or.inr (by decide))).trans i5
      have j9 : S1.I 119 m = mn := (f1.2.2.2.2.2.2.2.2 119 m (Or.inr (by decide))).trans i9
      have j75 : S1.I 75 m = nI T := (f1.2.2.2.2.2.2.2.2 75 m (Or.inr (by decide))).trans i75
      obtain ⟨a1, a2, a3⟩ := h1.1.row (F := 111) (o := 28) (k := 15) (n := 40) (by decide +kernel)
      -- the higher byte
      have up : ∀ (lo : Nat) (x5 : Int32), lo ≤ 1 → ((bwS b e 0 255 (lgD b e n s0 i)).2 = none → lo = if i + 1 = n ∧ bwV b e 0 255 (lgD b e n s0 i) = 0 then 1 else 0) → c_152_181 (ox_M sp (d + 3)) m x1 x2 (nI i) y x5 (nI lo) m 256 y (nI i) (S1.R 111 m) S1 mr sr Q := by
        intro lo x5 hlo1 hlo
        have hstep : bwS b e lo 127 (bwS b e 0 255 (lgD b e n s0 i)) = lgD b e n s0 (i + 1) := by
          by_cases q : (bwS b e 0 255 (lgD b e n s0 i)).2 = none
          · rw [hlo q]; rfl
          · show _ = bwS b e _ 127 (bwS b e 0 255 (lgD b e n s0 i))
            rw [bwS_flt q, bwS_flt q]
        refine f_152_181 hE ⟨by decide, k1, by decide, 0, 0, Nat.zero_le _, Nat.zero_le _, ?_⟩
        refine s_151 (hi := 127) hsp h1 (by omega) (by decide) (fun S2 u f2 h2 u1 u2 => f_152_186 hE ?_)
        rw [hstep] at h2 u1
        have l5 : S2.I 115 m = nI n := (f2.2.2.2.2.2.2.2.2 115 m (Or.inr (by decide))).trans j5
        have l9 : S2.I 119 m = mn := (f2.2.2.2.2.2.2.2.2 119 m (Or.inr (by decide))).trans j9
        have l75 : S2.I 75 m = nI T := (f2.2.2.2.2.2.2.2.2 75 m (Or.inr (by decide))).trans j75
        have ek : S2.K (m + 28) = 15 := by rw [f2.1]; exact a2
        have el : S2.len (m + 28) = 40 := by rw [f2.2.1]; exact a3
        unfold q_152_186
        rw [a1, ek, el, nI_clamp (n := i) (by omega), nI_1]
        refine ⟨rfl, vp_in_nI (by omega) (by decide), ?_⟩
        have g3 : mTmp m S2 (S2.wI (m + 28) i (y + 256 * u)) := mTmp_wI (by omega) (by omega)
        have g3' : mNw m ce T S2 (S2.wI (m + 28) i (y + 256 * u)) := g3.nw h.1.2.2.1
        refine ih (i + 1) (S2.wI (m + 28) i (y + 256 * u)) (by omega) (((t0.trans f1.mp).trans f2.mp).trans g3'.mp) l75 (h2.nw g3') l5 l9 (fun q j hj => ?_)
        have q0 : (bwS b e lo 127 (bwS b e 0 255 (lgD b e n s0 i))).2 = none := by rw [hstep]; exact q
        obtain ⟨v1, v2, v3, v4⟩ := bwS_none q0
        obtain ⟨w1, w2, w3, w4⟩ := bwS_none v1
        obtain ⟨c1, c2, c3, c4⟩ := lgD_none hs0 i w1
        rw [or_wI_rI]
        by_cases hj2 : j = i
        · rw [if_pos ⟨rfl, hj2⟩, hj2]
          have e1 : y = nI (b (s0.1 + 2 * i)) := by have := y1 v1; rw [c2] at this; exact this
          have e2 : u = nI (b (s0.1 + 2 * i + 1)) := by have := u1 q; rw [w3, c2] at this; exact this
          rw [e1, e2, show (256 : Int32) = nI 256 from rfl, pk_mul, nI_add]
          rfl
        · rw [if_neg (fun z => hj2 z.2), f2.2.2.2.2.2.2.2.1, f1.2.2.2.2.2.2.2.1]
          exact hw w1 j (by omega)
      have mid : ∀ (lo : Nat), lo ≤ 1 → ((bwS b e 0 255 (lgD b e n s0 i)).2 = none → lo = if i + 1 = n ∧ bwV b e 0 255 (lgD b e n s0 i) = 0 then 1 else 0) → c_152_158 (ox_M sp (d + 3)) m x1 x2 (nI i) y (nI lo) S1 mr sr Q := by
        intro lo hlo1 hlo
        refine f_152_158 hE ⟨by rw [k1]; rfl, fun q => ?_, fun q => ?_⟩
        · have : lo = 0 := (nI_eq (b := 0) (by omega) (by decide)).mp q
          exact up 0 (nI lo) (by decide) (fun q1 => this.symm.trans (hlo q1))
        · have : lo = 1 := by
            have : lo ≠ 0 := fun w => q (by rw [w]; rfl)
            omega
          exact up 1 (nI lo) (by decide) (fun q1 => this.symm.trans (hlo q1))
      have eb : bwV b e 0 255 (lgD b e n s0 i) = 0 ↔ (bwS b e 0 255 (lgD b e n s0 i)).2 = none ∧ y = 0 := by
        by_cases q : (bwS b e 0 255 (lgD b e n s0 i)).2 = none
        · rw [(bwS_none q).2.2.2, ← y1 q]
          exact ⟨fun w => ⟨q, w⟩, fun w => w.2⟩
        · rw [bwV_flt q]
          exact ⟨fun w => absurd w (by decide), fun w => absurd w.1 q⟩
      have en : nI n - 1 = nI (n - 1) := pk_sub (b := 1) (by omega)
      unfold q_152_136
      rw [k1, j5, en]
      refine ⟨rfl, fun q => f_152_157 hE (mid 0 (by decide) (fun _ => ?_)), fun q => ⟨fun q2 => f_152_157 hE (mid 0 (by decide) (fun _ => ?_)), fun q2 => mid 1 (by decide) (fun q3 => ?_)⟩⟩
      · rw [if_neg (fun w => q (by rw [show i = n - 1 by omega]))]
      · rw [if_neg (fun w => q2 (eb.mp w.2).2)]
      · have : i = n - 1 := (nI_eq (by omega) (by omega)).mp q
        rw [if_pos ⟨by omega, eb.mpr ⟨q3, q2⟩⟩]
/-- readLong -/
theorem s_152 (hsp : ox_mono sp) {T : Nat} (h : mtS S m ce b e (p, none)) (hT : S.I 75 m = nI T) (hT16 : 16 ≤ T) (hT2 : T + 19 ≤ 1100000)
    (hQ1 : ∀ S' w c r, mpF m ce T S S' → mtS S' m ce b e (lgD b e (lgL b e p) (lgC b e p) (lgL b e p)) → S'.I 75 m = nI (T + 3 + c) → mNum S' (m + ce) T w c r → dc w c → (c = 0 → r = 0) → (lgD b e (lgL b e p) (lgC b e p) (lgL b e p)).2 = none → nv w c r = (if 240 ≤ b p then -(dv (dgV b (p + 2)) (lgK b p) : Int) else (dv (dgV b (p + 2)) (lgK b p) : Int)) → Q (some (.inl (nI T))) S')
    (hQ0 : ∀ S', mpF m ce T S S' → S'.I 75 m = nI T → (lgD b e (lgL b e p) (lgC b e p) (lgL b e p)).2 ≠ none → mtS S' m ce b e (lgD b e (lgL b e p) (lgC b e p) (lgL b e p)) → Q (some (.inl 0)) S') : ox_M sp (d + 4) 152 [.inr (.inr m)] mr sr S Q := by
  have hE : ox_mono (ox_M sp (d + 3)) := ox_M_mono hsp _
  have k := h.1.1
  have hce := h.1.2.2.1
  have hpe : p ≤ e := (h.2.2.2.1 rfl).2.2.1
  have he := h.2.2.1
  have hC1 : (lgC b e p).1 ≤ e := by
    unfold lgC
    by_cases c : p < e ∧ 16 < b p ∧ b p < 240
    · rw [if_pos c]; exact hpe
    · rw [if_neg c]; exact bwS_le (bwS_le hpe)
  -- behind both bytes of the count
  have fin : ∀ (lw : Nat) (y : Int32) (S2 : ox_St), lw < 256 → tkF m S S2 → mtS S2 m ce b e (lgC b e p) → ((lgC b e p).2 = none → lw = b p) → k_152_64 (ox_M sp (d + 3)) m (nI lw) mr sr Q (some (.inl y)) S2 := by
    intro lw y S2 hlw t2 h2 hlb
    have k2 := h2.1.1
    have i75 : S2.I 75 m = nI T := (t2.2.2.2.2.2.2.2.2 75 m (Or.inr (by decide))).trans hT
    have go : ∀ mn : Int32, (mn = 0 ∨ mn = 1) → (mn = if lw ≤ 16 then 0 else 1) → c_152_77 (ox_M sp (d + 3)) m (nI lw) y mn m S2 mr sr Q := by
      intro mn hmn hmn2
      have g1 : mTmp m S2 (S2.sI 119 m mn) := mTmp_sI (by decide) (by decide)
      have g1' : mNw m ce T S2 (S2.sI 119 m mn) := g1.nw hce
      have h3 := h2.nw g1'
      have i9 : (S2.sI 119 m mn).I 119 m = mn := if_pos ⟨rfl, rfl⟩
      have j75 : (S2.sI 119 m mn).I 75 m = nI T := by rw [or_sI_I, if_neg (fun z => by cases z.1)]; exact i75
      -- the size is set, digits are read
      have last : ∀ (S3 : ox_St), mNw m ce T S2 S3 → mtS S3 m ce b e (lgC b e p) → S3.I 119 m = mn → S3.I 75 m = nI T → c_152_108 (ox_M sp (d + 3)) m (nI lw) y (nI (lgL b e p)) m S3 mr sr Q := by
        intro S3 g3 h3 i9 j75
        refine f_152_108 hE ⟨by rw [h3.1.1]; rfl, ?_⟩
        show c_152_113 (ox_M sp (d + 3)) m (nI lw) y (nI 0) (S3.sI 115 m (nI (lgL b e p))) mr sr Q
        have g4 : mTmp m S3 (S3.sI 115 m (nI (lgL b e p))) := mTmp_sI (by decide) (by decide)
        have g4' : mNw m ce T S3 (S3.sI 115 m (nI (lgL b e p))) := g4.nw hce
        refine s_152_113 (S0 := S) (s0 := lgC b e p) (mn := mn) hsp hT hT16 hT2 lgL_le hC1 hmn (fun S' w c r q1 q2 q3 q4 q5 q6 q7 q8 => hQ1 S' w c r q1 q2 q3 q4 q5 q6 q7 ?_) hQ0 (lgL b e p) 0 (S3.sI 115 m (nI (lgL b e p))) (Nat.zero_add _) ((t2.mp.trans g3.mp).trans g4'.mp) (by rw [or_sI_I, if_neg (fun z => by cases z.1)]; exact j75) (h3.nw g4') (if_pos ⟨rfl, rfl⟩) (by rw [or_sI_I, if_neg (fun z => by cases z.1)]; exact i9) (fun _ j hj => absurd hj (Nat.not_lt_zero j))
        obtain ⟨c1, -, -, -⟩ := lgD_none hC1 (lgL b e p) q7
        obtain ⟨c2, c3, c4⟩ := lgC_none c1
        have hl : lgL b e p = lgK b p := if_pos c1
        have e1 : (lgC b e p).1 = p + 2 := by rw [c3]
        rw [q8, hl, e1, hmn2, hlb c1]
        by_cases c : 240 ≤ b p
        · rw [if_neg (by omega : ¬ b p ≤ 16), if_neg (by decide), if_pos c]
        · rw [if_pos (by omega : b p ≤ 16), if_pos rfl, if_neg c]
      refine f_152_77 hE ⟨by rw [k2]; rfl, hmn, ?_⟩
      show ox_has ((S2.sI 119 m mn).K m) 132 = true ∧ ((S2.sI 119 m mn).I 132 m = 0 → ox_has ((S2.sI 119 m mn).K m) 119 = true ∧ ((S2.sI 119 m mn).I 119 m = 0 → c_152_108 (ox_M sp (d + 3)) m (nI lw) y (nI lw) m (S2.sI 119 m mn) mr sr Q) ∧ (¬ (S2.sI 119 m mn).I 119 m = 0 → c_152_108 (ox_M sp (d + 3)) m (nI lw) y (256 - nI lw) m (S2.sI 119 m mn) mr sr Q)) ∧ (¬ (S2.sI 119 m mn).I 132 m = 0 → c_152_108 (ox_M sp (d + 3)) m (nI lw) y 0 m (S2.sI 119 m mn) mr sr Q)
      have hl := last (S2.sI 119 m mn) g1' h3 i9 j75
      rw [h3.1.1, i9]
      generalize S2.sI 119 m mn = S3 at h3 i9 hl ⊢
      refine ⟨rfl, fun z => ⟨rfl, fun z2 => ?_, fun z2 => ?_⟩, fun z => ?_⟩
      · have hf : (lgC b e p).2 = none := by
          cases q : (lgC b e p).2 with
          | none => rfl
          | some u => exact absurd z (by rw [(h3.2.2.2.2.1 u q).1]; decide)
        obtain ⟨c2, c3, c4⟩ := lgC_none hf
        have h16 : lw ≤ 16 := Decidable.not_not.mp fun c => by rw [hmn2, if_neg c] at z2; exact absurd z2 (by decide)
        have e1 : lgL b e p = lw := by
          show (if (lgC b e p).2 = none then lgK b p else 0) = lw
          rw [if_pos hf, hlb hf]
          exact if_neg (by rw [← hlb hf]; omega)
        rw [e1] at hl
        exact hl
      · have hf : (lgC b e p).2 = none := by
          cases q : (lgC b e p).2 with
          | none => rfl
          | some u => exact absurd z (by rw [(h3.2.2.2.2.1 u q).1]; decide)
        obtain ⟨c2, c3, c4⟩ := lgC_none hf
        have h16 : ¬ lw ≤ 16 := fun c => by rw [hmn2, if_pos c] at z2; exact absurd rfl z2
        have e1 : lgL b e p = 256 - lw := by
          show (if (lgC b e p).2 = none then lgK b p else 0) = 256 - lw
          rw [if_pos hf, hlb hf]
          exact if_pos (by rw [hlb hf] at h16; omega)
        rw [e1, ← pk_sub (by omega)] at hl
        exact hl
      · have hf : (lgC b e p).2 ≠ none := fun q => z (h3.2.2.2.1 q).2.1
        have e1 : lgL b e p = 0 := if_neg hf
        rw [e1] at hl
        exact hl
    refine f_152_64 hE ⟨fun z => go 0 (Or.inl rfl) ?_, fun z => go 1 (Or.inr rfl) ?_⟩
    · rw [if_pos ((nI_leI (b := 16) (by omega) (by decide)).mp z)]
    · rw [if_neg (fun c => z (nI_le (b := 16) c (by decide)))]
  -- the upper byte
  have upb : ∀ (lw : Nat) (S1 : ox_St) (s1 : oTS), lw < 256 → tkF m S S1 → mtS S1 m ce b e s1 → (∀ S2, mtS S2 m ce b e (bwS b e (if lw ≤ 16 then 0 else 255) (if lw ≤ 16 then 0 else 255) s1) → mtS S2 m ce b e (lgC b e p)) → ((lgC b e p).2 = none → lw = b p) → k_152_39 (ox_M sp (d + 3)) m (nI lw) mr sr Q none S1 := by
    intro lw S1 s1 hlw t1 h1 hst hlb
    have k1 := h1.1.1
    refine f_152_39 hE ⟨fun z => ⟨by decide, k1, by decide, 0, 0, Nat.zero_le _, Nat.zero_le _, ?_⟩, fun z => ⟨by decide, k1, by decide, 0, 0, Nat.zero_le _, Nat.zero_le _, ?_⟩⟩
    · have z' := (nI_leI (b := 16) (by omega) (by decide)).mp z
      rw [if_pos z'] at hst
      exact s_151 (lo := 0) (hi := 0) hsp h1 (by decide) (by decide) (fun S2 y f2 h2 _ _ => fin lw y S2 hlw (t1.trans f2) (hst S2 h2) hlb)
    · have z' : ¬ lw ≤ 16 := fun c => z (nI_le (b := 16) c (by decide))
      rw [if_neg z'] at hst
      exact s_151 (lo := 255) (hi := 255) hsp h1 (by decide) (by decide) (fun S2 y f2 h2 _ _ => f_152_55 hE (fin lw y S2 hlw (t1.trans f2) (hst S2 h2) hlb))
  refine f_152 hsp ⟨by decide, k, by decide, 0, 0, Nat.zero_le _, Nat.zero_le _, ?_⟩
  refine s_151 (lo := 0) (hi := 255) hsp h (by decide) (by decide) (fun S1 y f1 h1 y1 y2 => f_152_8 hE ?_)
  have k1 := h1.1.1
  by_cases hp : p < e
  · have hbp : b p < 256 := (h.2.2.2.2.2 p hp).2
    have ok : p < e ∧ 0 ≤ b p ∧ b p ≤ 255 := ⟨hp, Nat.zero_le _, by omega⟩
    have y1' := y1 (by rw [bwS_ok ok])
    rw [bwS_ok ok] at h1
    have y1'' : y = nI (b p) := y1'
    have hb0 : S1.I 132 m = 0 := (h1.2.2.2.1 rfl).2.1
    have hat : S1.I 120 m = nI (p + 1) := (h1.2.2.2.1 rfl).1
    have cC : ∀ sg, (¬ (p < e ∧ 16 < b p ∧ b p < 240)) → sg = (if p < e ∧ 240 ≤ b p then 255 else 0) → bwS b e sg sg (p + 1, none) = lgC b e p := fun sg c1 c2 => by
      unfold lgC
      rw [if_neg c1, ← c2, bwS_ok ok]
    rw [y1'']
    refine ⟨by rw [k1]; rfl, fun z => absurd hb0 z, fun _ => ⟨fun z => ?_, fun z => ⟨fun z2 => ?_, fun z2 => ⟨by rw [k1]; rfl, by decide, k1, by decide, 0, 0, Nat.zero_le _, Nat.zero_le _, ?_⟩⟩⟩⟩
    · have z' := (nI_leI (b := 16) (by omega) (by decide)).mp z
      refine upb (b p) S1 (p + 1, none) hbp f1 h1 (fun S2 q => ?_) (fun _ => rfl)
      rw [if_pos z', cC 0 (by omega) (by rw [if_neg (by omega)])] at q
      exact q
    · have z' : ¬ b p ≤ 16 := fun c => z (nI_le (b := 16) c (by decide))
      have z2' := (nI_leI (a := 240) (by decide) (by omega)).mp z2
      refine upb (b p) S1 (p + 1, none) hbp f1 h1 (fun S2 q => ?_) (fun _ => rfl)
      rw [if_neg z', cC 255 (by omega) (by rw [if_pos ⟨hp, z2'⟩])] at q
      exact q
    · have z' : ¬ b p ≤ 16 := fun c => z (nI_le (b := 16) c (by decide))
      have z2' : ¬ 240 ≤ b p := fun c => z2 (nI_le (a := 240) c (by omega))
      have hC : lgC b e p = (p, some p) := if_pos ⟨hp, by omega, by omega⟩
      rw [hat, nI_pred]
      refine s_150 hsp h1 (fun S2 f2 h2 => upb (b p) S2 (p + 1, some p) hbp (f1.trans f2) h2 (fun S3 q => ?_) (fun q => ?_))
      · rw [hC]
        have q' : mtS S3 m ce b e (p + 1, some p) := by rw [bwS_some] at q; exact q
        exact q'.any
      · exact absurd (show (lgC b e p).2 = some p by rw [hC]) (by rw [q]; exact fun z => by cases z)
  · have no : ¬ (p < e ∧ 0 ≤ b p ∧ b p ≤ 255) := fun c => hp c.1
    have y2' := y2 (by rw [bwS_no no]; exact fun z => by cases z)
    rw [bwS_no no] at h1
    have hb1 : S1.I 132 m = 1 := (h1.2.2.2.2.1 p rfl).1
    have hC : lgC b e p = (p, some p) := by
      unfold lgC
      rw [if_neg (fun c => hp c.1), bwS_no no]
      rfl
    rw [y2']
    refine ⟨by rw [k1]; rfl, fun z => upb 0 S1 (p, some p) (by decide) f1 h1 (fun S2 q => ?_) (fun q => ?_), fun z => absurd z (by rw [hb1]; decide)⟩
    · rw [hC]; rw [bwS_some] at q; exact q
    · rw [hC] at q; cases q
end OMLg
