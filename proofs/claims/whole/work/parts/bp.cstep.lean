/-! the class: step, the loop of run -/
/-- what a table of places promises of an instruction -/
theorem okT_use {κ : oCd} {T : Nat → Option oHB} {p n : Nat} {b : List (Nat × Nat)} (h : okT κ T) (hp : T p = some (n, b)) (hM : cdM κ ≤ 10) (b4 : b.length ≤ 4) : agW κ (dcW κ p) (dcA κ p) ∧ ∃ t, tkW (dcW κ p) (dcA κ p) = some t ∧ t ≤ n ∧ n - t + gvW (dcW κ p) (dcA κ p) ≤ 10 ∧ (dcW κ p = 122 → b.length < 4) ∧ (dcW κ p = 87 → b ≠ []) := by
  obtain ⟨-, m, ag, l, sc, hl⟩ := h.2 _ _ hp
  generalize dcW κ p = w at ag sc ⊢
  generalize dcA κ p = a at ag sc ⊢
  generalize dcN κ p = nx at sc
  refine ⟨ag, ?_⟩
  obtain ⟨t, ht⟩ : ∃ t, tkW w a = some t := by
    cases z : tkW w a with
    | none => unfold scW at sc; rw [z] at sc; cases sc
    | some t => exact ⟨t, rfl⟩
  obtain ⟨h1, h2⟩ := sc_of ht sc
  have m' : n ≤ cdM κ := m
  have up : ∀ z ∈ l, z.2.1 ≤ 10 := fun z hz => Nat.le_trans (h.2 _ _ (hl z hz)).2.1 hM
  refine ⟨t, ht, by omega, ?_, fun e => ?_, fun e => ?_⟩
  · unfold scR at h2
    by_cases z : w = 83
    · subst z
      show n - t + 0 ≤ 10
      omega
    rw [if_neg z] at h2
    by_cases z : w = 87
    · rw [if_pos z] at h2
      cases b with
      | nil => cases h2
      | cons g r =>
        have e := Option.some.inj h2
        subst e
        exact up _ List.mem_cons_self
    rw [if_neg z] at h2
    by_cases z : w = 93
    · rw [if_pos z] at h2
      have e := Option.some.inj h2
      subst e
      exact up _ (List.mem_cons_of_mem _ List.mem_cons_self)
    rw [if_neg z] at h2
    by_cases z : w = 110
    · rw [if_pos z] at h2
      have e := Option.some.inj h2
      subst e
      exact up _ List.mem_cons_self
    rw [if_neg z] at h2
    by_cases z : w = 113
    · rw [if_pos z] at h2
      have e := Option.some.inj h2
      subst e
      exact up _ List.mem_cons_self
    rw [if_neg z] at h2
    by_cases z : w = 114 ∨ w = 115
    · rw [if_pos z] at h2
      have e := Option.some.inj h2
      subst e
      exact up _ List.mem_cons_self
    rw [if_neg z] at h2
    by_cases z : w = 122
    · subst z
      show n - t + 0 ≤ 10
      omega
    rw [if_neg z] at h2
    by_cases z : w = 130
    · subst z
      show n - t + 0 ≤ 10
      omega
    rw [if_neg z] at h2
    have e := Option.some.inj h2
    subst e
    exact up _ List.mem_cons_self
  · subst e
    have h3 : (if b.length = 4 then none else some [(nx + a, n + 1, b), (nx, n, (n, nx + a) :: b)]) = some l := h2
    by_cases z : b.length = 4
    · rw [if_pos z] at h3; cases h3
    · omega
  · subst e
    intro z
    subst z
    cases h2
section CSt
variable {d mr sr : Nat} {S : ox_St} {Q : ox_Q} {x : Nat} {α : Int → Nat} {C : Nat → xCd} {nc K : Nat} {e : xEn} {q : Nat} {st : List Int}
theorem c_byte {sp : ox_E} (hsp : ox_mono sp) {p : Nat} (h : cE S x α C nc e q st) (hx : xEs1 C nc K e st) (hp : p < 2 ^ 31) (hQ : Q (some (.inl (nI (cdB (C e.c).1 p)))) S) : ox_M sp (d + 1) 16 [.inr (.inr (α (-1 - e.c))), .inl (nI p)] mr sr S Q := by
  obtain ⟨g1, g2, ⟨g3, g4, ⟨g5, g6, g7⟩, g8, g9, g10⟩, -⟩ := (h.code hx).2
  obtain ⟨o1, o2, o3, o4, o5, o6, o7, o8⟩ := g10
  refine s_byteAt hsp (a := α (-1 - e.c)) (t := S.R 10 (α (-1 - e.c))) (N := cdN (C e.c).1) ⟨g3, rfl, g5, g6, by omega⟩ hp ?_
  by_cases z : p < cdN (C e.c).1
  · rw [if_pos z, g7 p z]; exact hQ
  · rw [if_neg z]
    rw [o7 p (by omega)] at hQ
    exact hQ
/-- all but the count of instructions -/
def cM (x : Nat) (S S' : ox_St) : Prop := oKl S S' ∧ oAg (fun a => a < x + 119 ∧ ¬ cZ x a) S S' ∧ S'.R 36 (x + 11) = S.R 36 (x + 11)
theorem cM.refl : cM x S S := ⟨oKl.refl, oAg.refl, rfl⟩
theorem cM.trans {S' T : ox_St} (h : cM x S S') (g : cM x S' T) : cM x S T := ⟨h.1.trans g.1, h.2.1.trans g.2.1, g.2.2.trans h.2.2⟩
theorem cN.cM {S' : ox_St} (h : cN x S S') : cM x S S' := ⟨h.1, h.2.1, h.2.2.1⟩
/-- the count goes up -/
theorem c_cnt {s : xSt} {y : Nat} (hf : s.f.length ≤ 8) (h : cR S x α C nc s) : cM x S (S.sI 39 (x + 11) (nI y)) ∧ (S.sI 39 (x + 11) (nI y)).I 39 (x + 11) = nI y ∧ cR (S.sI 39 (x + 11) (nI y)) x α C nc s := by
  have hnn : x + 119 ≤ S.n := h.1.2.2.2.1
  have hI : cI x (cWm x) S (S.sI 39 (x + 11) (nI y)) := cI.refl.sI (Or.inr ⟨rfl, by decide, by decide, by decide⟩)
  have eI : ∀ F, F ≠ 39 → (S.sI 39 (x + 11) (nI y)).I F (x + 11) = S.I F (x + 11) := fun F hF => by rw [or_sI_I, if_neg (fun z => hF z.1)]
  have e39 : (S.sI 39 (x + 11) (nI y)).I 39 (x + 11) = nI y := by rw [or_sI_I, if_pos ⟨rfl, rfl⟩]
  have eR : (S.sI 39 (x + 11) (nI y)).R = S.R := or_sI_R _ _ _ _
  generalize S.sI 39 (x + 11) (nI y) = U at hI eI e39 eR ⊢
  obtain ⟨b0, hp0, f0, g0, q1, q2, q3, q4, q5⟩ := id h
  refine ⟨⟨hI.1, hI.2.1.sub (fun a ha => ⟨by omega, fun z => ha.2 (Or.inr (Or.inr (Or.inl z)))⟩), by rw [eR]⟩, e39, ?_⟩
  exact h.fld (s' := s) hI (eI 43 (by decide)) rfl rfl f0 hf ((eI 35 (by decide)).trans q1) ((eI 37 (by decide)).trans q2) ((eI 38 (by decide)).trans q3) (fun z => by rw [eR]; exact q4 z) (fun z => by rw [eR]; exact q5 z)
/-- step -/
theorem c_47 {p y : Nat} {T : Nat → Option oHB} (hK : K < 2 ^ 31) (h0 : cE S x α C nc e p st) (hx : xEs1 C nc K e st) (hT : okT (C e.c).1 T) (hp : T p = some (st.length, e.b)) (hm : 2 ≤ mr) (hs : 20 ≤ sr) (h39 : S.I 39 (x + 11) = nI y) (hQ0 : ∀ S' α' w, cM x S S' → S'.I 39 (x + 11) = nI (y + 1) → cX S' x α' C nc e (dcN (C e.c).1 p) st (xIns C e (dcN (C e.c).1 p) (dcW (C e.c).1 p) (dcA (C e.c).1 p) st) w → Q (some (.inl w)) S') : ox_M lw_sp (d + 16) 47 [.inr (.inr (x + 11))] mr sr S Q := by
  have hsp := lw_sp_mono
  have hE : ox_mono (ox_M lw_sp (d + 15)) := ox_M_mono hsp _
  have t7 := hx.t7
  have k7 : S.K (x + 11) = 7 := h0.k7
  obtain ⟨uM, u39, uR⟩ := c_cnt (y := y + 1) (s := (e.H, e.n, e.G, (e.c, p, st, e.L, e.b) :: e.t, 1, -1, 0)) (by show e.t.length + 1 ≤ 8; omega) h0
  refine f_47 hsp ⟨by rw [k7]; rfl, by rw [k7]; rfl, ?_⟩
  rw [h39, nI_1]
  intro S0
  have uM' : cM x S S0 := uM
  have u39' : S0.I 39 (x + 11) = nI (y + 1) := u39
  have h : cE S0 x α C nc e p st := uR
  generalize S0 = U at uM' u39' h ⊢
  have hQ : ∀ S' α' w, cN x U S' → cX S' x α' C nc e (dcN (C e.c).1 p) st (xIns C e (dcN (C e.c).1 p) (dcW (C e.c).1 p) (dcA (C e.c).1 p) st) w → Q (some (.inl w)) S' := fun S' α' w a1 a2 => hQ0 S' α' w (uM'.trans a1.cM) (a1.2.2.2.trans u39') a2
  obtain ⟨⟨o1, o2, o3, o4, o5, o6, o7, o8⟩, -⟩ := hx.1.2.1 e.c hx.1.2.2.2.1
  have pl := (hT.2 _ _ hp).1.1
  obtain ⟨ag, t, u1, u2, u3, u4, u5⟩ := okT_use hT hp o4.2 hx.2.2.2
  obtain ⟨r18, cc⟩ := h.code hx
  have kF := (h.oF hx).1
  have hB : ∀ j, cdB (C e.c).1 j < 256 := fun j => by
    by_cases z : j < cdN (C e.c).1
    · exact o6 j z
    · rw [o7 j (by omega)]; decide
  have k3 := cc.2.2.1.1
  refine ⟨by decide, h.k7, by decide, 0, 0, Nat.zero_le _, Nat.zero_le _, c_44 hsp h.1 (m := e.t.length + 1) (by omega) h.2.2.2.2.1 (f_47_14 hE ?_)⟩
  rw [if_neg (Nat.succ_ne_zero _), Nat.add_sub_cancel]
  refine ⟨fun _ => ⟨by rw [kF]; rfl, by rw [kF]; rfl, by decide, by rw [r18]; exact k3, by decide, 0, 0, Nat.zero_le _, Nat.zero_le _, ?_⟩, fun z => absurd z (by omega)⟩
  rw [r18, h.pl]
  refine c_byte hsp h hx (by omega) (f_47_32 hE ⟨by rw [kF]; rfl, by rw [kF]; rfl, by decide, by rw [r18]; exact k3, by decide, 0, 0, Nat.zero_le _, Nat.zero_le _, ?_⟩)
  rw [r18, h.pl, nI_1]
  refine c_byte hsp h hx (by omega) (f_47_46 hE ⟨by rw [kF]; rfl, by rw [kF]; rfl, ?_⟩)
  rw [h.pl, show nI p + 2 = nI (p + 2) from nI_add p 2]
  obtain ⟨n1, h1⟩ := h.place hx (p + 2)
  have e1 : (U.sI 19 (x + 28 + 5 * e.t.length) (nI (p + 2))).K = U.K := or_sI_K _ _ _ _
  have e2 : (U.sI 19 (x + 28 + 5 * e.t.length) (nI (p + 2))).R = U.R := or_sI_R _ _ _ _
  intro S1
  have n1' : cN x U S1 := n1
  have h1' : cE S1 x α C nc e (p + 2) st := h1
  have e1' : S1.K = U.K := e1
  have e2' : S1.R = U.R := e2
  generalize S1 = V at n1' h1' e1' e2' ⊢
  refine ⟨fun z => ?_, fun z => ?_⟩
  · have z' : ¬ cdB (C e.c).1 p = 144 := fun w => z (by rw [w]; rfl)
    have eW : dcW (C e.c).1 p = cdB (C e.c).1 p := if_neg z'
    have eA : dcA (C e.c).1 p = cdB (C e.c).1 (p + 1) := if_neg z'
    have eN : dcN (C e.c).1 p = p + 2 := if_neg z'
    rw [eW, eA] at ag u1 u3
    rw [eW] at u4 u5
    rw [eW, eA, eN] at hQ
    exact c_85 hK h1' hx u1 u2 u3 ag u4 u5 (by omega) (by omega) (fun S' α' y m1 m2 => hQ S' α' y (n1'.trans m1) m2)
  · have z' : cdB (C e.c).1 p = 144 := (nI_eq (b := 144) (by have := hB p; omega) (by decide)).mp z
    have eW : dcW (C e.c).1 p = cdB (C e.c).1 (p + 2) := if_pos z'
    have eA : dcA (C e.c).1 p = 256 * cdB (C e.c).1 (p + 1) + cdB (C e.c).1 (p + 3) := if_pos z'
    have eN : dcN (C e.c).1 p = p + 4 := if_pos z'
    rw [eW, eA] at ag u1 u3
    rw [eW] at u4 u5
    rw [eW, eA, eN] at hQ
    have kV : V.K (x + 28 + 5 * e.t.length) = 4 := (h1'.oF hx).1
    have rV : V.R 18 (x + 28 + 5 * e.t.length) = α (-1 - e.c) := (h1'.code hx).1
    have cV3 : V.K (α (-1 - e.c)) = 3 := (h1'.code hx).2.2.2.1.1
    refine ⟨by rw [kV]; rfl, by rw [kV]; rfl, by decide, by rw [rV]; exact cV3, by decide, 0, 0, Nat.zero_le _, Nat.zero_le _, ?_⟩
    rw [rV, h1'.pl]
    refine c_byte hsp h1' hx (by omega) (f_47_75 hE ⟨by rw [kV]; rfl, by rw [kV]; rfl, by decide, by rw [rV]; exact cV3, by decide, 0, 0, Nat.zero_le _, Nat.zero_le _, ?_⟩)
    rw [rV, h1'.pl, nI_1]
    refine c_byte hsp h1' hx (by omega) (f_47_94 hE ?_)
    have ew : (256 : Int32) * nI (cdB (C e.c).1 (p + 1)) + nI (cdB (C e.c).1 (p + 2 + 1)) = nI (256 * cdB (C e.c).1 (p + 1) + cdB (C e.c).1 (p + 3)) := by
      rw [show (256 : Int32) = nI 256 from rfl, pk_mul, nI_add]
    unfold q_47_94
    intro w1
    have ew' : w1 = nI (256 * cdB (C e.c).1 (p + 1) + cdB (C e.c).1 (p + 3)) := ew
    clear_value w1
    subst ew'
    refine ⟨by rw [kV]; rfl, by rw [kV]; rfl, ?_⟩
    rw [h1'.pl, show nI (p + 2) + 2 = nI (p + 2 + 2) from nI_add (p + 2) 2]
    obtain ⟨n2, h2⟩ := h1'.place hx (p + 2 + 2)
    exact c_85 hK h2 hx u1 u2 u3 ag u4 u5 (by omega) (by omega) (fun S' α' y m1 m2 => hQ S' α' y (n1'.trans (n2.trans m1)) m2)
/-- one turn of run's loop, whatever is to hold behind it -/
theorem c_98_t {kq : ox_K} {N y i : Nat} {s : xSt} {w3 : Option ox_V} (hK : K < 2 ^ 31) (hi : i < N) (hN : N < 2 ^ 31) (hm : 2 ≤ mr) (hs : 20 ≤ sr) (h39 : S.I 39 (x + 11) = nI y) (h : cR S x α C nc s) (hw : xWf C nc K s)
    (hQ0 : s.s ≠ 1 → kq 89 [some (.inr (.inr x)), some (.inl (nI N)), some (.inl (nI i)), w3] [.inl (nI i)] S mr sr)
    (hQ1 : ∀ S' α' mr' sr' w, s.s = 1 → mr ≤ mr' + 2 → sr ≤ sr' + 20 → cM x S S' → S'.I 39 (x + 11) = nI (y + 1) → cR S' x α' C nc (xStep C s) → kq 45 [some (.inr (.inr x)), some (.inl (nI N)), some (.inl (nI i + 1)), some (.inl w)] [] S' mr' sr') : oz_seg (ox_M lw_sp (d + 16)) oz_c98 [11, 33, 45, 89] kq 30 45 [some (.inr (.inr x)), some (.inl (nI N)), some (.inl (nI i)), w3] [] S mr sr := by
  have hsp := lw_sp_mono
  have k0 : S.K x = 13 := h.1.1.obj (o := 0) (by decide)
  have r66 : S.R 66 x = x + 11 := h.1.1.ref (o := 0) (by decide)
  have k7 : S.K (x + 11) = 7 := h.1.1.obj (by decide)
  have s3 := hw.2.2.2.2.2.2.1
  have m2 : S.I 37 (x + 11) = nI s.s := h.2.2.2.2.2.1
  have a66 : ox_has (S.K x) 66 = true := by rw [k0]; rfl
  have a37 : ox_has (S.K (S.R 66 x)) 37 = true := by rw [r66, k7]; rfl
  have e37 : S.I 37 (S.R 66 x) = nI s.s := by rw [r66]; exact m2
  have kR : S.K (S.R 66 x) = 7 := by rw [r66]; exact k7
  refine ⟨fun z => absurd (show nI N ≤ nI i from z) (nI_ge hi hN), fun _ => ⟨a66, a37, fun z => hQ0 (fun w => (show ¬ S.I 37 (S.R 66 x) = 1 from z) (by rw [e37, w]; rfl)), fun z => ⟨a66, Nat.le_refl 1, kR, (show 0 ≤ 8 by decide), 2, 20, hm, hs, ?_⟩⟩⟩
  have z' : s.s = 1 := (nI_eq (b := 1) (by omega) (by decide)).mp (e37.symm.trans (show S.I 37 (S.R 66 x) = 1 from z))
  show ox_M lw_sp (d + 16) 47 [.inr (.inr (S.R 66 x))] 2 20 S _
  rw [r66]
  obtain ⟨h1, h2, h3, h4, h5, h6, h7, h8, h9, h10⟩ := id hw
  obtain ⟨H, n, G, fs, ss, kk, rr⟩ := s
  have hss : ss = 1 := z'
  subst hss
  have hkk : kk = -1 := h8 (by show ¬ (1 : Nat) = 3; decide)
  have hrr : rr = 0 := h9 (by show ¬ (1 : Nat) = 2; decide)
  subst hkk
  subst hrr
  have hne := h5.mp rfl
  match fs, hne, h4, h, hQ1 with
  | (c, p, st, L, b) :: t, _, h4, h, hQ1 =>
  obtain ⟨f1, ⟨g1, ⟨T, g2, g3, g4⟩, g5, g6, g7⟩, f3⟩ := h4
  have f1' : t.length + 1 ≤ 8 := f1
  have g3' : T p = some (st.length, b) := g3
  have g4' : xBl T b := g4
  have hc : cE S x α C nc (H, n, G, c, L, b, t) p st := h
  have hx : xEs1 C nc K (H, n, G, c, L, b, t) st := by
    have s10 : st.length ≤ cdM (C c).1 := (g2.2 _ _ g3').2.1
    have := (h2 c g1).1.2.2.2.1.2
    exact ⟨⟨h1, h2, h3, g1, by show t.length ≤ 7; omega, g7, f3⟩, g6, by omega, xBl_len g4'⟩
  have out := xIns_ok (C := C) (nc := nc) (K := K) (e := (H, n, G, c, L, b, t)) (q := dcN (C c).1 p) (T := T) ⟨h1.mono (Nat.le_succ K), h2, h3, g1, by show t.length ≤ 7; omega, g7, f3⟩ h1 g2 g4' (g2.2 _ _ g3').2.2.1 (g2.2 _ _ g3').2.2.2.choose_spec.1 (g2.2 _ _ g3').2.2.2.choose_spec.2 g6
  refine c_47 (d := d) (e := (H, n, G, c, L, b, t)) (T := T) hK hc hx g2 g3' (Nat.le_refl _) (Nat.le_refl _) h39 (fun S' α' yy n1 n39 n2 => ?_)
  have nx : xStep C (H, n, G, (c, p, st, L, b) :: t, 1, -1, 0) = xDone (xIns C (H, n, G, c, L, b, t) (dcN (C c).1 p) (dcW (C c).1 p) (dcA (C c).1 p) st) H n G ((c, dcN (C c).1 p, st, L, b) :: t) := rfl
  have n2' : cX S' x α' C nc (H, n, G, c, L, b, t) (dcN (C c).1 p) st (xIns C (H, n, G, c, L, b, t) (dcN (C c).1 p) (dcW (C c).1 p) (dcA (C c).1 p) st) yy := n2
  rw [nx] at hQ1
  generalize xIns C (H, n, G, c, L, b, t) (dcN (C c).1 p) (dcW (C c).1 p) (dcA (C c).1 p) st = o at out n2' hQ1
  match o, out, n2', hQ1 with
  | .inl j, out, ⟨r1, r2⟩, hQ1 =>
    subst r1
    have j6 : j ≤ 6 := out
    have k7' : S'.K (x + 11) = 7 := cE.k7 r2
    have k0' : S'.K x = 13 := r2.1.1.obj (o := 0) (by decide)
    have r66' : S'.R 66 x = x + 11 := r2.1.1.ref (o := 0) (by decide)
    have a66' : ox_has (S'.K x) 66 = true := by rw [k0']; rfl
    have kR' : S'.K (S'.R 66 x) = 7 := by rw [r66']; exact k7'
    refine ⟨fun w => absurd (show nI j = -1 from w) (nI_m1 (by omega)), fun _ => ⟨a66', (show 2 ≤ 2 by decide), kR', (show 0 ≤ 8 by decide), 0, 0, Nat.zero_le _, Nat.zero_le _, ?_⟩⟩
    show ox_M lw_sp (d + 16) 48 [.inr (.inr (S'.R 66 x)), .inl (nI j)] 0 0 S' _
    rw [r66']
    refine c_48 (K := K) (H := H) (n := n) (G := G) (fs := (c, dcN (C c).1 p, st, L, b) :: t) (α := α') hsp (by omega) h1 h2 h3 f1 r2 (fun g hg => ?_) f3 (fun S'' a1 a2 => hQ1 S'' α' _ _ (nI j) rfl (by omega) (by omega) (n1.trans a1.cM) (a1.2.2.2.trans n39) a2)
    rcases List.mem_cons.mp hg with w | w
    · rw [w]; exact ⟨0, p, g1, ⟨T, g2, g3, g4⟩, g5, g6, g7⟩
    · exact ⟨1, g.2.1, f3 g w⟩
  | .inr (H', n', G', fs', none), out, ⟨r1, r2⟩, hQ1 =>
    subst r1
    exact ⟨fun _ => hQ1 S' α' _ _ (-1) rfl (by omega) (by omega) n1 n39 r2, fun w => absurd (show (-1 : Int32) = -1 from rfl) w⟩
  | .inr (H', n', G', fs', some v), out, ⟨r1, r2⟩, hQ1 =>
    subst r1
    exact ⟨fun _ => hQ1 S' α' _ _ (-1) rfl (by omega) (by omega) n1 n39 r2, fun w => absurd (show (-1 : Int32) = -1 from rfl) w⟩
theorem c_98_x {E : ox_E} {kq : ox_K} {i : Nat} {w3 : Option ox_V} (hk : kq 89 [some (.inr (.inr x)), some (.inl (nI i)), some (.inl (nI i)), w3] [.inl (nI i)] S mr sr) : oz_seg E oz_c98 [11, 33, 45, 89] kq 30 45 [some (.inr (.inr x)), some (.inl (nI i)), some (.inl (nI i)), w3] [] S mr sr := ⟨fun _ => hk, fun z => absurd (show nI i ≤ nI i by simp) z⟩
theorem oz_L98_in {E : ox_E} {Q : ox_Q} {QX : String → ox_St → Prop} {n pc : Nat} {L : ox_L} {st : List ox_V} {S : ox_St} {mr sr : Nat} (h : oz_k98 Q QX pc L st S mr sr) : oz_L98 E Q QX n pc L st S mr sr := by
  cases n with
  | zero => exact h
  | succ n => exact Or.inl h
theorem c_98_l {N y : Nat} {S0 : ox_St} {Q : ox_Q} {QX : String → ox_St → Prop} (hN : N < 2 ^ 31) : ∀ (k i mr sr K : Nat) (α : Int → Nat) (S : ox_St) (s : xSt) (w3 : Option ox_V), i + k = N → K + k < 2 ^ 31 → 2 * k ≤ mr → 20 * k ≤ sr → cM x S0 S → S.I 39 (x + 11) = nI (y + i) → cR S x α C nc s → xWf C nc K s → (∀ S' α', cM x S0 S' → S'.I 39 (x + 11) = nI (y + (i + (xWork C k s).1)) → cR S' x α' C nc (xWork C k s).2 → Q (some (.inl (nI (i + (xWork C k s).1)))) S') → oz_L98 (ox_M lw_sp (d + 16)) Q QX (k + 1) 45 [some (.inr (.inr x)), some (.inl (nI N)), some (.inl (nI i)), w3] [] S mr sr := by
  intro k
  induction k with
  | zero =>
    intro i mr sr K α S s w3 hi hK hm hs hM h39 h hw hQ
    have hi' : i = N := hi
    subst hi'
    exact Or.inr ⟨rfl, c_98_x (oz_L98_in (Or.inr (Or.inr ⟨rfl, _, rfl, hQ S α hM h39 h⟩)))⟩
  | succ k ih =>
    intro i mr sr K α S s w3 hi hK hm hs hM h39 h hw hQ
    have hw' := xStep_wf hw
    refine Or.inr ⟨rfl, c_98_t (K := K) (by omega) (by omega) hN (by omega) (by omega) h39 h hw (fun z => oz_L98_in (Or.inr (Or.inr ⟨rfl, _, rfl, ?_⟩))) (fun S' α' mr' sr' w z a1 a2 a3 a4 a5 => ?_)⟩
    · have ew : xWork C (k + 1) s = (0, s) := if_neg z
      rw [ew] at hQ
      exact hQ S α hM h39 h
    · have ew : xWork C (k + 1) s = ((xWork C k (xStep C s)).1 + 1, (xWork C k (xStep C s)).2) := if_pos z
      rw [ew] at hQ
      rw [nI_1]
      exact ih (i + 1) mr' sr' (K + 1) α' S' (xStep C s) (some (.inl w)) (by omega) (by omega) (by omega) (by omega) (hM.trans a3) (by rw [a4, Nat.add_assoc]) a5 hw' (fun S' α' b1 b2 b3 => by
        rw [show i + 1 + (xWork C k (xStep C s)).1 = i + ((xWork C k (xStep C s)).1 + 1) by omega] at b2 ⊢
        exact hQ S' α' b1 b2 b3)
end CSt
