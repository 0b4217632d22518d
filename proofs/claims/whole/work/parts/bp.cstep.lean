/-! the class: step, work -/
/-- what a table of places promises of an instruction -/
theorem okT_use {κ : oCd} {T : Nat → Option oHB} {p n : Nat} {b : List (Nat × Nat)} (h : okT κ T) (hp : T p = some (n, b)) (hM : cdM κ ≤ 10) (b4 : b.length ≤ 4) : agW κ (dcW κ p) (dcA κ p) ∧ ∃ t, tkW (dcW κ p) (dcA κ p) = some t ∧ t ≤ n ∧ n - t + gvW (dcW κ p) (dcA κ p) ≤ 10 ∧ (dcW κ p = 122 → b.length < 4) ∧ (dcW κ p = 87 → b ≠ []) := by
  obtain ⟨-, m, ag, l, sc, hl⟩ := h.2 _ _ hp
  generalize dcW κ p = w at ag sc ⊢
  generalize dcA κ p = a at ag sc ⊢
  generalize dcN κ p = nx at sc
  refine ⟨ag, ?_⟩
  obtain ⟨t, ht⟩ : ∃ t, tkW w a = some t := by
    cases z : tkW w a with
    | none => unfold scW at sc; rw [z] at sc; cases sc
    | some t => exact ⟨t, rfl⟩
  obtain ⟨h1, h2⟩ := sc_of ht sc
  have m' : n ≤ cdM κ := m
  have up : ∀ z ∈ l, z.2.1 ≤ 10 := fun z hz => Nat.le_trans (h.2 _ _ (hl z hz)).2.1 hM
  refine ⟨t, ht, by omega, ?_, fun e => ?_, fun e => ?_⟩
  · unfold scR at h2
    by_cases z : w = 83
    · subst z
      show n - t + 0 ≤ 10
      omega
    rw [if_neg z] at h2
    by_cases z : w = 87
    · rw [if_pos z] at h2
      cases b with
      | nil => cases h2
      | cons g r =>
        have e := Option.some.inj h2
        subst e
        exact up _ List.mem_cons_self
    rw [if_neg z] at h2
    by_cases z : w = 93
    · rw [if_pos z] at h2
      have e := Option.some.inj h2
      subst e
      exact up _ (List.mem_cons_of_mem _ List.mem_cons_self)
    rw [if_neg z] at h2
    by_cases z : w = 110
    · rw [if_pos z] at h2
      have e := Option.some.inj h2
      subst e
      exact up _ List.mem_cons_self
    rw [if_neg z] at h2
    by_cases z : w = 113
    · rw [if_pos z] at h2
      have e := Option.some.inj h2
      subst e
      exact up _ List.mem_cons_self
    rw [if_neg z] at h2
    by_cases z : w = 114 ∨ w = 115
    · rw [if_pos z] at h2
      have e := Option.some.inj h2
      subst e
      exact up _ List.mem_cons_self
    rw [if_neg z] at h2
    by_cases z : w = 122
    · subst z
      show n - t + 0 ≤ 10
      omega
    rw [if_neg z] at h2
    by_cases z : w = 130
    · subst z
      show n - t + 0 ≤ 10
      omega
    rw [if_neg z] at h2
    have e := Option.some.inj h2
    subst e
    exact up _ List.mem_cons_self
  · subst e
    have h3 : (if b.length = 4 then none else some [(nx + a, n + 1, b), (nx, n, (n, nx + a) :: b)]) = some l := h2
    by_cases z : b.length = 4
    · rw [if_pos z] at h3; cases h3
    · omega
  · subst e
    intro z
    subst z
    cases h2
section CSt
variable {d mr sr : Nat} {S : ox_St} {Q : ox_Q} {x : Nat} {α : Int → Nat} {C : Nat → xCd} {nc K : Nat} {e : xEn} {q : Nat} {st : List Int}
theorem c_byte {sp : ox_E} (hsp : ox_mono sp) {p : Nat} (h : cE S x α C nc e q st) (hx : xEs1 C nc K e st) (hp : p < 2 ^ 31) (hQ : Q (some (.inl (nI (cdB (C e.c).1 p)))) S) : ox_M sp (d + 1) 16 [.inr (.inr (α (-1 - e.c))), .inl (nI p)] mr sr S Q := by
  obtain ⟨g1, g2, ⟨g3, g4, ⟨g5, g6, g7⟩, g8, g9, g10⟩, -⟩ := (h.code hx).2
  obtain ⟨o1, o2, o3, o4, o5, o6, o7, o8⟩ := g10
  refine s_byteAt hsp (a := α (-1 - e.c)) (t := S.R 10 (α (-1 - e.c))) (N := cdN (C e.c).1) ⟨g3, rfl, g5, g6, by omega⟩ hp ?_
  by_cases z : p < cdN (C e.c).1
  · rw [if_pos z, g7 p z]; exact hQ
  · rw [if_neg z]
    rw [o7 p (by omega)] at hQ
    exact hQ
/-- step -/
theorem c_47 {p : Nat} {T : Nat → Option oHB} (hK : K < 2 ^ 31) (h : cE S x α C nc e p st) (hx : xEs1 C nc K e st) (hT : okT (C e.c).1 T) (hp : T p = some (st.length, e.b)) (hm : 2 ≤ mr) (hs : 20 ≤ sr) (hQ : ∀ S' α' y, cN x S S' → cX S' x α' C nc e (dcN (C e.c).1 p) st (xIns C e (dcN (C e.c).1 p) (dcW (C e.c).1 p) (dcA (C e.c).1 p) st) y → Q (some (.inl y)) S') : ox_M lw_sp (d + 16) 47 [.inr (.inr (x + 11)), .inr (.inr (x + 28 + 5 * e.t.length))] mr sr S Q := by
  have hsp := lw_sp_mono
  have hE : ox_mono (ox_M lw_sp (d + 15)) := ox_M_mono hsp _
  obtain ⟨⟨o1, o2, o3, o4, o5, o6, o7, o8⟩, -⟩ := hx.1.2.1 e.c hx.1.2.2.2.1
  have pl := (hT.2 _ _ hp).1.1
  obtain ⟨ag, t, u1, u2, u3, u4, u5⟩ := okT_use hT hp o4.2 hx.2.2.2
  obtain ⟨r18, cc⟩ := h.code hx
  have kF := (h.oF hx).1
  have hB : ∀ j, cdB (C e.c).1 j < 256 := fun j => by
    by_cases z : j < cdN (C e.c).1
    · exact o6 j z
    · rw [o7 j (by omega)]; decide
  have k3 := cc.2.2.1.1
  refine f_47 hsp ⟨by rw [kF]; rfl, by rw [kF]; rfl, by decide, by rw [r18]; exact k3, by decide, 0, 0, Nat.zero_le _, Nat.zero_le _, ?_⟩
  rw [r18, h.pl]
  refine c_byte hsp h hx (by omega) (f_47_11 hE ⟨by rw [kF]; rfl, by rw [kF]; rfl, by decide, by rw [r18]; exact k3, by decide, 0, 0, Nat.zero_le _, Nat.zero_le _, ?_⟩)
  rw [r18, h.pl, nI_1]
  refine c_byte hsp h hx (by omega) (f_47_25 hE ⟨by rw [kF]; rfl, by rw [kF]; rfl, ?_⟩)
  rw [h.pl, show nI p + 2 = nI (p + 2) from nI_add p 2]
  obtain ⟨n1, h1⟩ := h.place hx (p + 2)
  have e1 : (S.sI 19 (x + 28 + 5 * e.t.length) (nI (p + 2))).K = S.K := or_sI_K _ _ _ _
  have e2 : (S.sI 19 (x + 28 + 5 * e.t.length) (nI (p + 2))).R = S.R := or_sI_R _ _ _ _
  intro S1
  have n1' : cN x S S1 := n1
  have h1' : cE S1 x α C nc e (p + 2) st := h1
  have e1' : S1.K = S.K := e1
  have e2' : S1.R = S.R := e2
  generalize S1 = V at n1' h1' e1' e2' ⊢
  refine ⟨fun z => ?_, fun z => ?_⟩
  · have z' : ¬ cdB (C e.c).1 p = 144 := fun w => z (by rw [w]; rfl)
    have eW : dcW (C e.c).1 p = cdB (C e.c).1 p := if_neg z'
    have eA : dcA (C e.c).1 p = cdB (C e.c).1 (p + 1) := if_neg z'
    have eN : dcN (C e.c).1 p = p + 2 := if_neg z'
    rw [eW, eA] at ag u1 u3
    rw [eW] at u4 u5
    rw [eW, eA, eN] at hQ
    exact c_85 hK h1' hx u1 u2 u3 ag u4 u5 (by omega) (by omega) (fun S' α' y m1 m2 => hQ S' α' y (n1'.trans m1) m2)
  · have z' : cdB (C e.c).1 p = 144 := (nI_eq (b := 144) (by have := hB p; omega) (by decide)).mp z
    have eW : dcW (C e.c).1 p = cdB (C e.c).1 (p + 2) := if_pos z'
    have eA : dcA (C e.c).1 p = 256 * cdB (C e.c).1 (p + 1) + cdB (C e.c).1 (p + 3) := if_pos z'
    have eN : dcN (C e.c).1 p = p + 4 := if_pos z'
    rw [eW, eA] at ag u1 u3
    rw [eW] at u4 u5
    rw [eW, eA, eN] at hQ
    have kV : V.K (x + 28 + 5 * e.t.length) = 4 := (h1'.oF hx).1
    have rV : V.R 18 (x + 28 + 5 * e.t.length) = α (-1 - e.c) := (h1'.code hx).1
    have cV3 : V.K (α (-1 - e.c)) = 3 := (h1'.code hx).2.2.2.1.1
    refine ⟨by rw [kV]; rfl, by rw [kV]; rfl, by decide, by rw [rV]; exact cV3, by decide, 0, 0, Nat.zero_le _, Nat.zero_le _, ?_⟩
    rw [rV, h1'.pl]
    refine c_byte hsp h1' hx (by omega) (f_47_54 hE ⟨by rw [kV]; rfl, by rw [kV]; rfl, by decide, by rw [rV]; exact cV3, by decide, 0, 0, Nat.zero_le _, Nat.zero_le _, ?_⟩)
    rw [rV, h1'.pl, nI_1]
    refine c_byte hsp h1' hx (by omega) (f_47_73 hE ?_)
    have ew : (256 : Int32) * nI (cdB (C e.c).1 (p + 1)) + nI (cdB (C e.c).1 (p + 2 + 1)) = nI (256 * cdB (C e.c).1 (p + 1) + cdB (C e.c).1 (p + 3)) := by
      rw [show (256 : Int32) = nI 256 from rfl, pk_mul, nI_add]
    unfold q_47_73
    intro w1
    have ew' : w1 = nI (256 * cdB (C e.c).1 (p + 1) + cdB (C e.c).1 (p + 3)) := ew
    clear_value w1
    subst ew'
    refine ⟨by rw [kV]; rfl, by rw [kV]; rfl, ?_⟩
    rw [h1'.pl, show nI (p + 2) + 2 = nI (p + 2 + 2) from nI_add (p + 2) 2]
    obtain ⟨n2, h2⟩ := h1'.place hx (p + 2 + 2)
    exact c_85 hK h2 hx u1 u2 u3 ag u4 u5 (by omega) (by omega) (fun S' α' y m1 m2 => hQ S' α' y (n1'.trans (n2.trans m1)) m2)
/-- all but the count of instructions -/
def cM (x : Nat) (S S' : ox_St) : Prop := oKl S S' ∧ oAg (fun a => a < x + 119 ∧ ¬ cZ x a) S S' ∧ S'.R 36 (x + 11) = S.R 36 (x + 11)
theorem c_46_l {N y : Nat} {S0 : ox_St} (hN : N < 2 ^ 31) (h39 : S0.I 39 (x + 11) = nI y) : ∀ (k i mr sr K : Nat) (α : Int → Nat) (S : ox_St) (s : xSt) (Q : ox_Q), i + k = N → K + k < 2 ^ 31 → 2 * k ≤ mr → 20 * k ≤ sr → cN x S0 S → cR S x α C nc s → xWf C nc K s → (∀ S' α', cM x S0 S' → S'.I 39 (x + 11) = nI (y + (i + (xWork C k s).1)) → cR S' x α' C nc (xWork C k s).2 → Q (some (.inl (nI (i + (xWork C k s).1)))) S') → c_46_2 (ox_M lw_sp (d + 16)) (x + 11) (nI N) (nI i) S mr sr Q := by
  have hsp := lw_sp_mono
  have hE : ox_mono (ox_M lw_sp (d + 16)) := ox_M_mono hsp _
  have fin : ∀ (i : Nat) (α : Int → Nat) (S : ox_St) (s : xSt) (Q : ox_Q), s.f.length ≤ 8 → cN x S0 S → cR S x α C nc s → (∀ S' α', cM x S0 S' → S'.I 39 (x + 11) = nI (y + i) → cR S' x α' C nc s → Q (some (.inl (nI i))) S') → (ox_has (S.K (x + 11)) 39 = true ∧ (ox_has (S.K (x + 11)) 39 = true ∧ (True ∧ Q (some (.inl (nI i))) (S.sI 39 (x + 11) ((S.I 39 (x + 11)) + nI i))))) := by
    intro i α S s Q hf hn h hQ
    have k7 : S.K (x + 11) = 7 := h.1.1.obj (by decide)
    refine ⟨by rw [k7]; rfl, by rw [k7]; rfl, trivial, ?_⟩
    rw [hn.2.2.2, h39, nI_add]
    have hnn : x + 119 ≤ S.n := h.1.2.2.2.1
    have hI : cI x (cWm x) S (S.sI 39 (x + 11) (nI (y + i))) := cI.refl.sI (Or.inr ⟨rfl, by decide, by decide, by decide⟩)
    have eI : ∀ F, F ≠ 39 → (S.sI 39 (x + 11) (nI (y + i))).I F (x + 11) = S.I F (x + 11) := fun F hF => by rw [or_sI_I, if_neg (fun z => hF z.1)]
    have e39 : (S.sI 39 (x + 11) (nI (y + i))).I 39 (x + 11) = nI (y + i) := by rw [or_sI_I, if_pos ⟨rfl, rfl⟩]
    have eR : (S.sI 39 (x + 11) (nI (y + i))).R = S.R := or_sI_R _ _ _ _
    generalize S.sI 39 (x + 11) (nI (y + i)) = U at hI eI e39 eR ⊢
    obtain ⟨b0, hp0, f0, g0, q1, q2, q3, q4, q5⟩ := id h
    refine hQ U α ⟨hn.1.trans hI.1, hn.2.1.trans (hI.2.1.sub (fun a ha => ⟨by omega, fun z => ha.2 (Or.inr (Or.inr (Or.inl z)))⟩)), by rw [eR]; exact hn.2.2.1⟩ e39 ?_
    exact h.fld (s' := s) hI (eI 43 (by decide)) rfl rfl f0 hf ((eI 35 (by decide)).trans q1) ((eI 37 (by decide)).trans q2) ((eI 38 (by decide)).trans q3) (fun z => by rw [eR]; exact q4 z) (fun z => by rw [eR]; exact q5 z)
  intro k
  induction k with
  | zero =>
    intro i mr sr K α S s Q hi hK hm hs hn h hw hQ
    have hi' : i = N := hi
    subst hi'
    refine f_46_2 hE ⟨fun _ => fin i α S s Q hw.2.2.2.1.1 hn h hQ, fun z => absurd (by simp) z⟩
  | succ k ih =>
    intro i mr sr K α S s Q hi hK hm hs hn h hw hQ
    have k7 : S.K (x + 11) = 7 := h.1.1.obj (by decide)
    have s3 := hw.2.2.2.2.2.2.1
    have m2 : S.I 37 (x + 11) = nI s.s := h.2.2.2.2.2.1
    refine f_46_2 hE ⟨fun z => absurd z (nI_ge (by omega) hN), fun _ => ⟨by rw [k7]; rfl, fun z => ?_, fun z => ?_⟩⟩
    · have z' : ¬ s.s = 1 := fun w => z (by rw [m2, w]; rfl)
      have ew : xWork C (k + 1) s = (0, s) := if_neg z'
      rw [ew] at hQ
      exact fin i α S s Q hw.2.2.2.1.1 hn h hQ
    · have z' : s.s = 1 := (nI_eq (b := 1) (by omega) (by decide)).mp (m2.symm.trans z)
      have ew : xWork C (k + 1) s = ((xWork C k (xStep C s)).1 + 1, (xWork C k (xStep C s)).2) := if_pos z'
      rw [ew] at hQ
      have hw' := xStep_wf hw
      obtain ⟨h1, h2, h3, h4, h5, h6, h7, h8, h9, h10⟩ := id hw
      obtain ⟨H, n, G, fs, ss, kk, rr⟩ := s
      have hss : ss = 1 := z'
      subst hss
      have hkk : kk = -1 := h8 (by show ¬ (1 : Nat) = 3; decide)
      have hrr : rr = 0 := h9 (by show ¬ (1 : Nat) = 2; decide)
      subst hkk
      subst hrr
      have hne := h5.mp rfl
      match fs, hne, h4, h, hw', hQ with
      | (c, p, st, L, b) :: t, _, h4, h, hw', hQ =>
      obtain ⟨f1, ⟨g1, ⟨T, g2, g3, g4⟩, g5, g6, g7⟩, f3⟩ := h4
      have f1' : t.length + 1 ≤ 8 := f1
      have g3' : T p = some (st.length, b) := g3
      have g4' : xBl T b := g4
      have hc : cE S x α C nc (H, n, G, c, L, b, t) p st := h
      have hx : xEs1 C nc K (H, n, G, c, L, b, t) st := by
        have s10 : st.length ≤ cdM (C c).1 := (g2.2 _ _ g3').2.1
        have := (h2 c g1).1.2.2.2.1.2
        exact ⟨⟨h1, h2, h3, g1, by show t.length ≤ 7; omega, g7, f3⟩, g6, by omega, xBl_len g4'⟩
      refine ⟨by decide, k7, by decide, 0, 0, Nat.zero_le _, Nat.zero_le _, c_44 hsp h.1 (m := t.length + 1) (by omega) h.2.2.2.2.1 (f_46_22 hE ?_)⟩
      rw [if_neg (Nat.succ_ne_zero _), Nat.add_sub_cancel, nI_1]
      refine ⟨fun _ => ⟨by decide, k7, by decide, 2, 20, by omega, by omega, ?_⟩, fun z => absurd z (by omega)⟩
      have next : ∀ (S' : ox_St) (α' : Int → Nat) mr' sr' z1 z2, 2 * k ≤ mr' → 20 * k ≤ sr' → cN x S S' → cR S' x α' C nc (xStep C (H, n, G, (c, p, st, L, b) :: t, 1, -1, 0)) → k_46_50 (ox_M lw_sp (d + 16)) (x + 11) (nI N) (nI (i + 1)) z1 z2 mr' sr' Q none S' := fun S' α' mr' sr' z1 z2 a1 a2 a3 a4 => f_46_50 hE (ih (i + 1) mr' sr' (K + 1) α' S' _ Q (by omega) (by omega) a1 a2 (hn.trans a3) a4 hw' (fun S' α' b1 b2 b3 => by
        rw [show i + 1 + (xWork C k (xStep C (H, n, G, (c, p, st, L, b) :: t, 1, -1, 0))).1 = i + ((xWork C k (xStep C (H, n, G, (c, p, st, L, b) :: t, 1, -1, 0))).1 + 1) by omega] at b2 ⊢
        exact hQ S' α' b1 b2 b3))
      have out := xIns_ok (C := C) (nc := nc) (K := K) (e := (H, n, G, c, L, b, t)) (q := dcN (C c).1 p) (T := T) ⟨h1.mono (Nat.le_succ K), h2, h3, g1, by show t.length ≤ 7; omega, g7, f3⟩ h1 g2 g4' (g2.2 _ _ g3').2.2.1 (g2.2 _ _ g3').2.2.2.choose_spec.1 (g2.2 _ _ g3').2.2.2.choose_spec.2 g6
      refine c_47 (e := (H, n, G, c, L, b, t)) (T := T) (by omega) hc hx g2 g3' (Nat.le_refl _) (Nat.le_refl _) (fun S' α' yy n1 n2 => f_46_36 hE ?_)
      have nx : xStep C (H, n, G, (c, p, st, L, b) :: t, 1, -1, 0) = xDone (xIns C (H, n, G, c, L, b, t) (dcN (C c).1 p) (dcW (C c).1 p) (dcA (C c).1 p) st) H n G ((c, dcN (C c).1 p, st, L, b) :: t) := rfl
      have n2' : cX S' x α' C nc (H, n, G, c, L, b, t) (dcN (C c).1 p) st (xIns C (H, n, G, c, L, b, t) (dcN (C c).1 p) (dcW (C c).1 p) (dcA (C c).1 p) st) yy := n2
      rw [nx] at next
      generalize xIns C (H, n, G, c, L, b, t) (dcN (C c).1 p) (dcW (C c).1 p) (dcA (C c).1 p) st = o at out n2' next
      match o, out, n2', next with
      | .inl j, out, ⟨r1, r2⟩, next =>
        subst r1
        have j6 : j ≤ 6 := out
        have k7' : S'.K (x + 11) = 7 := cE.k7 r2
        refine ⟨fun w => absurd w (nI_m1 (by omega)), fun _ => ⟨by decide, k7', by decide, 0, 0, Nat.zero_le _, Nat.zero_le _, ?_⟩⟩
        refine c_48 (K := K) (H := H) (n := n) (G := G) (fs := (c, dcN (C c).1 p, st, L, b) :: t) (α := α') hsp (by omega) h1 h2 h3 f1 r2 (fun g hg => ?_) f3 (fun S'' a1 a2 => next S'' α' _ _ _ _ (by omega) (by omega) (n1.trans a1) a2)
        rcases List.mem_cons.mp hg with w | w
        · rw [w]; exact ⟨0, p, g1, ⟨T, g2, g3, g4⟩, g5, g6, g7⟩
        · exact ⟨1, g.2.1, f3 g w⟩
      | .inr (H', n', G', fs', none), out, ⟨r1, r2⟩, next =>
        subst r1
        exact ⟨fun _ => next S' α' _ _ _ _ (by omega) (by omega) n1 r2, fun w => absurd rfl w⟩
      | .inr (H', n', G', fs', some v), out, ⟨r1, r2⟩, next =>
        subst r1
        exact ⟨fun _ => next S' α' _ _ _ _ (by omega) (by omega) n1 r2, fun w => absurd rfl w⟩
/-- work -/
theorem c_46 {N y : Nat} {s : xSt} (hN : N < 2 ^ 31) (hK : K + N < 2 ^ 31) (hm : 2 * N ≤ mr) (hs : 20 * N ≤ sr) (h39 : S.I 39 (x + 11) = nI y) (h : cR S x α C nc s) (hw : xWf C nc K s) (hQ : ∀ S' α', cM x S S' → S'.I 39 (x + 11) = nI (y + (xWork C N s).1) → cR S' x α' C nc (xWork C N s).2 → Q (some (.inl (nI (xWork C N s).1))) S') : ox_M lw_sp (d + 17) 46 [.inr (.inr (x + 11)), .inl (nI N)] mr sr S Q := by
  refine f_46 lw_sp_mono ?_
  show c_46_2 (ox_M lw_sp (d + 16)) (x + 11) (nI N) (nI 0) S mr sr Q
  exact c_46_l hN h39 N 0 mr sr K α S s Q (by omega) hK hm hs cN.refl h hw (fun S' α' a1 a2 a3 => by
    rw [Nat.zero_add] at a2 ⊢
    exact hQ S' α' a1 a2 a3)
end CSt
