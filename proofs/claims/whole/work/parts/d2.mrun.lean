/-! the reference: run -/
theorem okT_fl {κ : oCd} {T : Nat → Option oHB} {p n t : Nat} {b : List (Nat × Nat)} (h : okT κ T) (hp : T p = some (n, b)) (ht : tkW (dcW κ p) (dcA κ p) = some t) : flr b + t ≤ n := by
  obtain ⟨-, -, -, l, hl, -⟩ := h.2 p _ hp
  unfold scW at hl
  rw [ht] at hl
  dsimp only at hl
  by_cases z : n < flr b + t
  · rw [if_pos z] at hl; cases hl
  · omega
/-- all that is alive -/
theorem xPot.live {C : Nat → xCd} {nc P : Nat} {H : xHp} {G : List (Nat × Int)} {fs : List xFr} {r : Int} (h : xPot C nc P H G fs r) : ∃ A, xClo H A ∧ xGIn C nc A G ∧ xIn A r ∧ xTIn A fs ∧ 10 * xSzA H A ≤ P := by
  obtain ⟨A, c, h1, h2, h3, h4, h5⟩ := h
  match fs, h4, h5 with
  | [], _, h5 => exact ⟨A, h1, h2, h3, fun g hg => (by cases hg), by omega⟩
  | (cc, p, [], L, b) :: t, ⟨_, g2, g3⟩, h5 =>
    refine ⟨A, h1, h2, h3, fun g hg => ?_, by omega⟩
    rcases List.mem_cons.mp hg with z | z
    · rw [z]; exact ⟨fun v hv => (by cases hv), g2⟩
    · exact g3 g z
  | (cc, p, v :: st, L, b) :: t, ⟨⟨q1, q2⟩, g2, g3⟩, h5 =>
    obtain ⟨A1, a1, a2, a3, a4⟩ := q1.settle h1
    refine ⟨A1, a1, h2.mono a2, h3.mono a2, fun g hg => ?_, by omega⟩
    rcases List.mem_cons.mp hg with z | z
    · rw [z]
      refine ⟨fun w hw => ?_, g2.mono a2⟩
      rcases List.mem_cons.mp hw with y | y
      · rw [y]; exact a3
      · exact (q2 w y).mono a2
    · exact (g3.mono a2) g z
section RRn
variable {sp : ox_E} {d mr sr : Nat} {S S' : ox_St} {Q : ox_Q} {m ce : Nat} {γ : Int → Nat} {B : List Int} {T : Nat} {C : Nat → xCd} {nc K y : Nat} {e : xEn} {p : Nat} {st : List Int} {s : xSt}
/-- decoding is told -/
theorem rE.mlf (h : rE S m ce γ B T C nc y e p st) (hx : xEs1 C nc K e st) (g : mlF m S S') (hr : S'.rI = S.rI) : rE S' m ce γ B T C nc y e p st ∧ mFx m S S' ∧ S'.R = S.R := by
  obtain ⟨g1, g2, g3, g4, g5, g6, g7, g8, -⟩ := g
  have fx : mFx m S S' := ⟨g3, g1, g2, g5, g6, fun F a _ => by rw [g4], fun F a z => g8 F a (Or.inl z), fun a _ => by rw [hr], fun a _ => by rw [g7], fun F z => g8 F m (Or.inr (by omega)), fun q _ => by rw [hr], by rw [g7]⟩
  have kp : ∀ f, rKp m f S S' := fun f => ⟨fun _ _ _ => by rw [hr], fun _ _ => by rw [hr], fun _ _ => by rw [hr], fun _ _ => by rw [hr]; exact ⟨rfl, rfl⟩⟩
  have ch : rCh m ce T e.t.length S S' := ⟨fx, g4, fun F z => g8 F m (Or.inr (by omega)), fun a _ => by rw [hr], fun j _ => by rw [hr], g7, fun f _ => kp f⟩
  exact ⟨h.same hx ch (kp _), fx, g4⟩
theorem r_203_14 (hsp : ox_mono sp) {Tb : Nat → Option oHB} (hK : K < 2 ^ 30) (h : rE S m ce γ B T C nc y e p st) (hx : xEs1 C nc K e st) (hO : okT (C e.c).1 Tb) (hp : Tb p = some (st.length, e.b)) (hb : xBl Tb e.b) (hT : T + 19 ≤ 1100000) (hQ : ∀ S', mFx m S S' → S'.R = S.R → rX S' m ce T C nc y e (dcN (C e.c).1 p) st (xIns C e (dcN (C e.c).1 p) (dcW (C e.c).1 p) (dcA (C e.c).1 p) st) → Q none S') : k_203_14 (ox_M sp (d + 7)) m mr sr Q none S := by
  have hE : ox_mono (ox_M sp (d + 7)) := ox_M_mono hsp _
  have k14 := h.k
  have t7 := hx.t7
  have hc : e.c < nc := hx.1.2.2.2.1
  obtain ⟨⟨o1, o2, o3, o4, o5, o6, o7, -⟩, -⟩ := hx.1.2.1 e.c hc
  have cN : cdB (C e.c).1 = cdB (C e.c).1 := rfl
  obtain ⟨⟨pl1, pl2, pl3⟩, m1, -⟩ := hO.2 p _ hp
  obtain ⟨ag, t, u1, u2, u3, u4, u5⟩ := okT_use hO hp o4.2 hx.2.2.2
  have fl := okT_fl hO hp u1
  have hin : rIn C nc K e st t := ⟨hx, ⟨p, Tb, hO, hp, hb⟩, fl⟩
  obtain ⟨g, k', w, sh, -⟩ := h.2.2.1.2 e.c hc
  obtain ⟨a1, a2, a3⟩ := h.ml.row (F := 98) (o := 16) (k := 15) (n := 8) (by decide)
  obtain ⟨b1, b2, b3⟩ := h.ml.row (F := 99) (o := 17) (k := 15) (n := 8) (by decide)
  have fc : S.rI (m + 16) e.t.length = nI e.c := h.2.2.2.1.1.1
  have fp : S.rI (m + 17) e.t.length = nI p := h.2.2.2.1.1.2.1
  have hB : ∀ j, cdB (C e.c).1 j < 256 := fun j => by
    by_cases z : j < cdN (C e.c).1
    · exact o6 j z
    · rw [o7 j (by omega)]; decide
  have w256 : dcW (C e.c).1 p < 256 := by
    unfold dcW
    by_cases z : cdB (C e.c).1 p = 144
    · rw [if_pos z]; exact hB _
    · rw [if_neg z]; exact hB _
  have bad : cdB (C e.c).1 p = 144 → ¬ (cdN (C e.c).1 ≤ p + 2 ∨ cdB (C e.c).1 (p + 2) = 144) := fun z y => by
    have ew : dcW (C e.c).1 p = cdB (C e.c).1 (p + 2) := if_pos z
    rw [ew] at u1
    rcases y with y | y
    · rw [o7 _ y] at u1
      cases u1
    · rw [y] at u1
      cases u1
  refine f_203_14 hE ⟨by rw [k14]; rfl, ?_⟩
  rw [h.f92, nI_pred]
  intro w1
  have ew : w1 = nI e.t.length := rfl
  clear_value w1
  subst ew
  refine ⟨by rw [k14]; rfl, by rw [a1, a2]; rfl, by rw [a1, a3]; exact vp_in_nI (by omega) (by decide), ?_⟩
  rw [a1, b1, nI_clamp (show e.t.length < 2 ^ 31 by omega), fc, fp]
  intro w2
  have ew : w2 = nI e.c := rfl
  clear_value w2
  subst ew
  refine ⟨by rw [k14]; rfl, by rw [b2]; rfl, by rw [b3]; exact vp_in_nI (by omega) (by decide), by decide, k14, by decide, 0, 0, Nat.zero_le _, Nat.zero_le _, ?_⟩
  refine s_163 hsp h.ml sh pl1 pl2 (fun _ S1 ml er i1 i2 i3 => ?_) (fun z y => absurd y (bad z))
  obtain ⟨h1, fx, eR⟩ := h.mlf hx ml er
  exact f_203_39 hE (r_203_39 hsp (by omega) hK hin h1 hT i1 i2 i3 u1 u3 ag u4 u5 (fun S' n1 n2 n3 => hQ S' (fx.trans n1) (n2.trans eR) n3))
/-- one instruction -/
theorem r_203 (hsp : ox_mono sp) {P : Nat} (hK : K < 2 ^ 30) (h : rR S m ce γ B T C nc y s) (hs : s.s = 1) (hw : xWf C nc K s) (hk : rKc S m C nc) (hp : xPot C nc P s.H s.G s.f s.r) (hP : P ≤ 10995000) (hQ : ∀ S' ce' γ' B' T', mFx m S S' → rKc S' m C nc → rR S' m ce' γ' B' T' C nc y (xStep C s) → Q none S') : ox_M sp (d + 8) 203 [.inr (.inr m)] mr sr S Q := by
  have hE : ox_mono (ox_M sp (d + 7)) := ox_M_mono hsp _
  have k14 : S.K m = 14 := h.1.1
  have h75 : S.I 75 m = nI T := h.2.1.2
  have T1 : T ≤ 1100000 := h.2.1.1.2.2.2.2
  -- behind the collecting
  have core : ∀ (ce : Nat) (γ : Int → Nat) (B : List Int) (T : Nat) (S1 : ox_St) (mr sr : Nat), mFx m S S1 → rKc S1 m C nc → T + 19 ≤ 1100000 → rR S1 m ce γ B T C nc y s → k_203_14 (ox_M sp (d + 7)) m mr sr Q none S1 := fun ce γ B T S1 mr sr fx hk1 hT h => by
    obtain ⟨h1, h2, h3, h4, h5, h6, h7, h8, h9, h10⟩ := id hw
    obtain ⟨H, n, G, fs, ss, kk, rr⟩ := s
    have hss : ss = 1 := hs
    subst hss
    have hkk : kk = -1 := h8 (by show ¬ (1 : Nat) = 3; decide)
    have hrr : rr = 0 := h9 (by show ¬ (1 : Nat) = 2; decide)
    subst hkk
    subst hrr
    have hne := h5.mp rfl
    match fs, hne, h4, h, hQ with
    | (c, p, st, L, b) :: t, _, h4, h, hQ =>
      obtain ⟨f1, ⟨g1, ⟨Tb, g2, g3, g4⟩, g5, g6, g7⟩, f3⟩ := h4
      have f1' : t.length + 1 ≤ 8 := f1
      have g3' : Tb p = some (st.length, b) := g3
      have g4' : xBl Tb b := g4
      have hc : rE S1 m ce γ B T C nc y (H, n, G, c, L, b, t) p st := h
      have hx : xEs1 C nc K (H, n, G, c, L, b, t) st := by
        have s10 : st.length ≤ cdM (C c).1 := (g2.2 _ _ g3').2.1
        have := (h2 c g1).1.2.2.2.1.2
        exact ⟨⟨h1, h2, h3, g1, by show t.length ≤ 7; omega, g7, f3⟩, g6, by omega, xBl_len g4'⟩
      exact r_203_14 (e := (H, n, G, c, L, b, t)) hsp hK hc hx g2 g3' g4' hT (fun S' n1 n2 n3 => by
        obtain ⟨γ', B', T', -, n4⟩ := n3
        exact hQ S' ce γ' B' T' (fx.trans n1) (hk1.fx n1) n4)
  refine f_203 hsp ⟨by rw [k14]; rfl, fun z => ?_, fun _ => ⟨by decide, k14, by decide, 0, 0, Nat.zero_le _, Nat.zero_le _, ?_⟩⟩
  · rw [h75] at z
    have := (nI_leI (b := 1099600) (by omega) (by decide)).mp z
    exact core ce γ B T S _ _ mFx.refl hk (by omega) h
  · obtain ⟨A, p1, p2, p3, p4, p5⟩ := hp.live
    exact r_131 hsp h hw hk p1 p2 p3 p4 (by omega) (fun S' γ' B' T' fx hk' hT' h' => core (5 - ce) γ' B' T' S' _ _ fx hk' (by omega) h')
/-- the count of instructions is told anew -/
theorem rR.cnt {y' : Nat} (h : rR S m ce γ B T C nc y s) (hl : ∀ g ∈ s.f, g.2.2.1.length ≤ 10 ∧ g.2.2.2.2.length ≤ 4) : rR (S.sI 95 m (nI y')) m ce γ B T C nc y' s ∧ mFx m S (S.sI 95 m (nI y')) := by
  have fx : mFx m S (S.sI 95 m (nI y')) := mFx.refl.sI
  have eI : ∀ F, F ≠ 95 → (S.sI 95 m (nI y')).I F m = S.I F m := fun F hF => by rw [or_sI_I, if_neg (fun z => hF z.1)]
  have e95 : (S.sI 95 m (nI y')).I 95 m = nI y' := by rw [or_sI_I, if_pos ⟨rfl, rfl⟩]
  have eR : (S.sI 95 m (nI y')).R = S.R := or_sI_R _ _ _ _
  have er : (S.sI 95 m (nI y')).rI = S.rI := or_sI_rI _ _ _ _
  have eJ : (S.sI 95 m (nI y')).rJ = S.rJ := or_sI_rJ _ _ _ _
  generalize S.sI 95 m (nI y') = U at fx eI e95 eR er eJ ⊢
  obtain ⟨i1, i2, i3, i4, i5⟩ := h.2.2.2.2.2.1
  exact ⟨h.fld (s' := s) fx eR er eJ (eI 75 (by decide)) (eI 106 (by decide)) rfl rfl h.2.2.2.1 hl ((eI 92 (by decide)).trans i1) ((eI 93 (by decide)).trans i2) ((eI 94 (by decide)).trans i3) e95 ((eI 97 (by decide)).trans i5) h.2.2.2.2.2.2.2.1 h.2.2.2.2.2.2.2.2, fx⟩
theorem xWf.fl (hw : xWf C nc K s) : ∀ g ∈ s.f, g.2.2.1.length ≤ 10 ∧ g.2.2.2.2.length ≤ 4 := fun g hg => by
  obtain ⟨-, w2, -, ⟨f1, f2⟩, -⟩ := hw
  match hs : s.f, hg with
  | f :: t, hg =>
    rw [hs] at f2
    rcases List.mem_cons.mp hg with z | z
    · rw [z]; exact xFOk.r10 w2 (p := f.2.1) f2.1
    · exact xFOk.r10 w2 (p := g.2.1) (f2.2 g z)
theorem r_204_l (hsp : ox_mono sp) {N : Nat} {S0 : ox_St} (hN : N < 2 ^ 31) : ∀ (k i mr sr K P : Nat) (ce : Nat) (γ : Int → Nat) (B : List Int) (T : Nat) (S : ox_St) (s : xSt) (Q : ox_Q), i + k = N → K + k < 2 ^ 30 → P + 105 * k ≤ 10995000 → mFx m S0 S → rKc S m C nc → rR S m ce γ B T C nc y s → xWf C nc K s → xPot C nc P s.H s.G s.f s.r → (∀ S' ce' γ' B' T', mFx m S0 S' → rKc S' m C nc → rR S' m ce' γ' B' T' C nc (y + (i + (xWork C k s).1)) (xWork C k s).2 → Q (some (.inl (nI (i + (xWork C k s).1)))) S') → c_204_44 (ox_M sp (d + 8)) m (nI N) (nI i) S mr sr Q := by
  have hE : ox_mono (ox_M sp (d + 8)) := ox_M_mono hsp _
  have fin : ∀ (i K ce : Nat) (γ : Int → Nat) (B : List Int) (T : Nat) (S : ox_St) (s : xSt) (Q : ox_Q), mFx m S0 S → rKc S m C nc → rR S m ce γ B T C nc y s → xWf C nc K s → (∀ S' ce' γ' B' T', mFx m S0 S' → rKc S' m C nc → rR S' m ce' γ' B' T' C nc (y + i) s → Q (some (.inl (nI i))) S') → (ox_has (S.K m) 95 = true ∧ (ox_has (S.K m) 95 = true ∧ (True ∧ Q (some (.inl (nI i))) (S.sI 95 m ((S.I 95 m) + nI i))))) := fun i K ce γ B T S s Q fx hk h hw hQ => by
    have k14 : S.K m = 14 := h.1.1
    have h95 : S.I 95 m = nI y := h.2.2.2.2.2.1.2.2.2.1
    obtain ⟨n1, n2⟩ := h.cnt (y' := y + i) hw.fl
    rw [h95, nI_add]
    exact ⟨by rw [k14]; rfl, by rw [k14]; rfl, trivial, hQ _ ce γ B T (fx.trans n2) (hk.fx n2) n1⟩
  intro k
  induction k with
  | zero =>
    intro i mr sr K P ce γ B T S s Q hi hK hP fx hk h hw hp hQ
    have hi' : i = N := hi
    subst hi'
    exact f_204_44 hE ⟨fun _ => fin i K ce γ B T S s Q fx hk h hw hQ, fun z => absurd (nI_le (Nat.le_refl _) hN) z⟩
  | succ k ih =>
    intro i mr sr K P ce γ B T S s Q hi hK hP fx hk h hw hp hQ
    have k14 : S.K m = 14 := h.1.1
    have s3 := hw.2.2.2.2.2.2.1
    have m2 : S.I 93 m = nI s.s := h.2.2.2.2.2.1.2.1
    refine f_204_44 hE ⟨fun z => absurd z (nI_ge (by omega) hN), fun _ => ⟨by rw [k14]; rfl, fun z => ?_, fun z => ?_⟩⟩
    · have z' : ¬ s.s = 1 := fun w => z (by rw [m2, w]; rfl)
      have ew : xWork C (k + 1) s = (0, s) := if_neg z'
      rw [ew] at hQ
      exact fin i K ce γ B T S s Q fx hk h hw hQ
    · have z' : s.s = 1 := (nI_eq (b := 1) (by omega) (by decide)).mp (m2.symm.trans z)
      have ew : xWork C (k + 1) s = ((xWork C k (xStep C s)).1 + 1, (xWork C k (xStep C s)).2) := if_pos z'
      rw [ew] at hQ
      refine ⟨by decide, k14, by decide, 0, 0, Nat.zero_le _, Nat.zero_le _, r_203 hsp (by omega) h z' hw hk hp (by omega) (fun S' ce' γ' B' T' n1 n2 n3 => f_204_61 hE ?_)⟩
      show c_204_44 (ox_M sp (d + 8)) m (nI N) (nI i + 1) S' _ _ Q
      rw [nI_1]
      refine ih (i + 1) _ _ (K + 1) (P + 105) ce' γ' B' T' S' (xStep C s) Q (by omega) (by omega) (by omega) (fx.trans n1) n2 n3 (xStep_wf hw) (xStep_pot hw hp) (fun S2 ce2 γ2 B2 T2 b1 b2 b3 => ?_)
      rw [show i + 1 + (xWork C k (xStep C s)).1 = i + ((xWork C k (xStep C s)).1 + 1) by omega] at b3 ⊢
      exact hQ S2 ce2 γ2 B2 T2 b1 b2 b3
theorem rKc.s69 {v : Int32} (h : rKc S m C nc) : rKc (S.sI 69 m v) m C nc := by
  obtain ⟨N, h1, h2, h3, h4⟩ := h
  exact ⟨N, by rw [or_sI_I, if_neg (fun z => by cases z.1)]; exact h1, h2, by rw [or_sI_rI]; exact h3, by rw [or_sI_rI]; exact h4⟩
/-- run: what it answers, whether it throws -/
theorem r_204 (hsp : ox_mono sp) {P : Nat} {x : Int32} (hK : K + 200 < 2 ^ 30) (hP : P + 21000 ≤ 10995000) (h : rR S m ce γ B T C nc y s) (hw : xWf C nc K s) (hk : rKc S m C nc) (hp : xPot C nc P s.H s.G s.f s.r) (hQ1 : ¬ s.s = 1 → Q (some (.inl 0)) (S.sI 69 m 1)) (hQ2 : s.s = 1 → x < 1 ∨ 200 < x → Q (some (.inl 0)) (S.sI 69 m 2)) (hQ : s.s = 1 → ∀ N : Nat, 1 ≤ N → N ≤ 200 → x = nI N → ∀ S' ce' γ' B' T', mFx m (S.sI 69 m 0) S' → rKc S' m C nc → rR S' m ce' γ' B' T' C nc (y + (xWork C N s).1) (xWork C N s).2 → Q (some (.inl (nI (xWork C N s).1))) S') : ox_M sp (d + 9) 204 [.inr (.inr m), .inl x] mr sr S Q := by
  have hE : ox_mono (ox_M sp (d + 8)) := ox_M_mono hsp _
  have k14 : S.K m = 14 := h.1.1
  have s3 := hw.2.2.2.2.2.2.1
  have m2 : S.I 93 m = nI s.s := h.2.2.2.2.2.1.2.1
  have thr : ∀ (v : Int32) mr sr, ¬ v ≤ 0 → Q (some (.inl 0)) (S.sI 69 m v) → (ox_has (S.K m) 69 = true ∧ (let S1 := S.sI 69 m v; (ox_has (S1.K m) 69 = true ∧ (((S1.I 69 m) ≤ 0 → c_204_44 (ox_M sp (d + 8)) m x 0 S1 mr sr Q) ∧ (¬ (S1.I 69 m) ≤ 0 → (True ∧ Q (some (.inl (0 : Int32))) S1)))))) := fun v mr sr hv hQ => by
    have n3 : (S.sI 69 m v).I 69 m = v := by rw [or_sI_I, if_pos ⟨rfl, rfl⟩]
    have n4 : (S.sI 69 m v).K m = 14 := by rw [or_sI_K]; exact k14
    refine ⟨by rw [k14]; rfl, ?_⟩
    generalize S.sI 69 m v = U at n3 n4 hQ ⊢
    exact ⟨by rw [n4]; rfl, fun z => absurd (by rw [n3] at z; exact z) hv, fun _ => ⟨trivial, hQ⟩⟩
  refine f_204 hsp ⟨by rw [k14]; rfl, fun z => ?_, fun z => ?_⟩
  · have z' : s.s = 1 := (nI_eq (b := 1) (by omega) (by decide)).mp (m2.symm.trans z)
    refine ⟨fun zx => thr 2 mr sr (by decide) (hQ2 z' (Or.inl zx)), fun z1 => ⟨fun z2 => ?_, fun z2 => thr 2 mr sr (by decide) (hQ2 z' (Or.inr ?_))⟩⟩
    · have xi : 1 ≤ x.toInt ∧ x.toInt ≤ 200 := by
        rw [Int32.lt_iff_toInt_lt, show (1 : Int32).toInt = 1 from by decide] at z1
        rw [Int32.le_iff_toInt_le, show (200 : Int32).toInt = 200 from by decide] at z2
        omega
      have ex : x = nI x.toInt.toNat := Int32.toInt_inj.mp (by rw [nI_toInt (by omega)]; omega)
      have n1 := h.s69 hw.fl (v := 0)
      have hk1 := hk.s69 (v := 0)
      have n3 : (S.sI 69 m 0).I 69 m = 0 := by rw [or_sI_I, if_pos ⟨rfl, rfl⟩]
      have n4 : (S.sI 69 m 0).K m = 14 := by rw [or_sI_K]; exact k14
      refine ⟨by rw [k14]; rfl, ?_⟩
      generalize S.sI 69 m 0 = U at n1 hk1 n3 n4 hQ ⊢
      refine ⟨by rw [n4]; rfl, fun _ => ?_, fun w => absurd (by rw [n3]; decide) w⟩
      have hq := hQ z' x.toInt.toNat (by omega) (by omega) ex
      rw [ex]
      show c_204_44 (ox_M sp (d + 8)) m (nI x.toInt.toNat) (nI 0) U mr sr Q
      exact r_204_l (S0 := U) hsp (by omega) x.toInt.toNat 0 mr sr K P ce γ B T U s Q (by omega) (by omega) (by omega) mFx.refl hk1 n1 hw hp (fun S' ce' γ' B' T' b1 b2 b3 => by
        rw [Nat.zero_add] at b3 ⊢
        exact hq S' ce' γ' B' T' b1 b2 b3)
    · rw [Int32.le_iff_toInt_le] at z2
      rw [Int32.lt_iff_toInt_lt]
      omega
  · have z' : ¬ s.s = 1 := fun w => z (by rw [m2, w]; rfl)
    exact thr 1 mr sr (by decide) (hQ1 z')
end RRn
