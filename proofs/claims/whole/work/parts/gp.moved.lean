/-! both sides at once: begun again, run -/
section GP
variable {sp : ox_E} {S V U : ox_St} {m x x0 L nc e y ce Tc Bn Kn Wn K P t mr sr : Nat} {xs : Nat → Int32} {α α' : Int → Nat} {C : Nat → xCd} {s s' : xSt} {b : Nat → Nat} {γ γ' : Int → Nat} {B B' : List Int} {R : ox_St → Nat → Nat → Prop} {y' ce' T' K' P' : Nat}
theorem xWf.up (h : xWf C nc K s) (hK : K ≤ K') : xWf C nc K' s := ⟨h.1.mono hK, h.2⟩
theorem xBeg_wf (h : xWf C nc K s) {c : Nat} (hc : c < nc) : xWf C nc K (xBeg s c) := by
  obtain ⟨w1, w2, w3, w4, -⟩ := h
  obtain ⟨o1, ⟨T, o2⟩, -⟩ := w2 c hc
  refine ⟨w1, w2, w3, ⟨by show 1 ≤ 8; decide, ⟨hc, ⟨T, o2, o2.1, trivial⟩, Nat.le_refl _, fun v hv => (by cases hv), fun i v hv => (by cases hv)⟩, fun g hg => (by cases hg)⟩, ⟨fun _ z => (by cases z), fun _ => rfl⟩, Or.inl ⟨by show -(nc : Int) ≤ 0; omega, (show (0 : Int) ≤ 10 by decide)⟩, by show 1 ≤ 3; decide, fun _ => rfl, fun _ => rfl, fun z => (by cases z)⟩
theorem xBeg_pot (h : xPot C nc P s.H s.G s.f s.r) {c : Nat} : xPot C nc P (xBeg s c).H (xBeg s c).G (xBeg s c).f (xBeg s c).r := by
  obtain ⟨A, c0, h1, h2, h3, h4, h5⟩ := h
  refine ⟨A, 0, h1, h2, Or.inl (by show (0 : Int) < 16; decide), ⟨trivial, fun i v hv => (by cases hv), fun g hg => (by cases hg)⟩, ?_⟩
  show 10 * xSzA s.H A + 3 * 0 + 0 ≤ P
  omega
theorem xWork_wf : ∀ (k K : Nat) (s : xSt), xWf C nc K s → xWf C nc (K + k) (xWork C k s).2
  | 0, K, s, h => h
  | k + 1, K, s, h => by
    by_cases z : s.s = 1
    · have er : xWork C (k + 1) s = ((xWork C k (xStep C s)).1 + 1, (xWork C k (xStep C s)).2) := if_pos z
      rw [er]
      have := xWork_wf k (K + 1) _ (xStep_wf h)
      rw [show K + (k + 1) = K + 1 + k by omega]
      exact this
    · have er : xWork C (k + 1) s = (0, s) := if_neg z
      rw [er]; exact h.up (by omega)
theorem xPot.up (h : xPot C nc P s.H s.G s.f s.r) (hP : P ≤ P') : xPot C nc P' s.H s.G s.f s.r := by
  obtain ⟨A, c0, h1, h2, h3, h4, h5⟩ := h
  exact ⟨A, c0, h1, h2, h3, h4, by omega⟩
theorem xWork_pot : ∀ (k K P : Nat) (s : xSt), xWf C nc K s → xPot C nc P s.H s.G s.f s.r → xPot C nc (P + 105 * k) (xWork C k s).2.H (xWork C k s).2.G (xWork C k s).2.f (xWork C k s).2.r
  | 0, K, P, s, _, h => h
  | k + 1, K, P, s, hw, h => by
    by_cases z : s.s = 1
    · have er : xWork C (k + 1) s = ((xWork C k (xStep C s)).1 + 1, (xWork C k (xStep C s)).2) := if_pos z
      rw [er]
      have := xWork_pot k (K + 1) (P + 105) _ (xStep_wf hw) (xStep_pot hw h)
      rw [show P + 105 * (k + 1) = P + 105 + 105 * k by omega]
      exact this
    · have er : xWork C (k + 1) s = (0, s) := if_neg z
      rw [er]; exact h.up (by omega)
/-- a call of the class that begins or runs -/
def cSp (x : Nat) (S V : ox_St) : Prop := oKl S V ∧ oAg (fun a => a < x + 118 ∧ ¬ cZ x a) S V
theorem wM.fx {v : Int32} (h : wM V m ce γ B Tc C nc y s e b Bn Kn Wn) (f : mFx m (V.sI 69 m v) U) (r : rR U m ce' γ' B' T' C nc y' s') (l1 : Bn ≤ 2100) (l2 : Kn ≤ 2100) (l3 : Wn ≤ 2100) : wM U m ce' γ' B' T' C nc y' s' e b Bn Kn Wn := by
  obtain ⟨h1, h2, h3, h4⟩ := h
  obtain ⟨k1, k2, k3⟩ := f.2.2.2.2.2.2.2.2.2
  have kI : ∀ F, F ≠ 69 → (F = 69 ∨ F = 70 ∨ F = 72 ∨ F = 76 ∨ (86 ≤ F ∧ F ≤ 88) ∨ F = 96) → U.I F m = V.I F m := fun F z1 z2 => by rw [k1 F z2, or_sI_I, if_neg (fun z => z1 z.1)]
  exact ⟨r, h2.of (fun F hF => kI F (by omega) (by omega)) (fun p hp c _ => by rw [k2 p (by omega)]; rfl) r.2.2.1.2 l1 l2 l3, (kI 72 (by decide) (by omega)).trans h3, fun i hi => by rw [k2 1 (Or.inl rfl)]; exact h4 i hi⟩
theorem zzV.mv {v : Int32} (h : zzV S x α C nc s e b y ce γ B Tc Bn Kn Wn K P) (f : cSp x S V) (hR : cR V x α' C nc s') (h36 : V.R 36 (x + 11) = S.R 36 (x + 11)) (h39 : V.I 39 (x + 11) = nI y') (g : mFx (x + 76) (V.sI 69 (x + 76) v) U) (r : rR U (x + 76) ce' γ' B' T' C nc y' s') (hw : xWf C nc K' s') (hp : xPot C nc P' s'.H s'.G s'.f s'.r) (l1 : Bn ≤ 2100) (l2 : Kn ≤ 2100) (l3 : Wn ≤ 2100) : zzV U x α' C nc s' e b y' ce' γ' B' T' Bn Kn Wn K' P' := by
  obtain ⟨⟨⟨c1, c2, c3, c4⟩, h2⟩, ⟨h3, h4⟩, ⟨h5, h6⟩, h7, h8, h9, h10⟩ := h
  have h0 : 0 < x := c1.1.2.1
  have hn : x + 119 ≤ S.n := c1.1.2.2.2.1
  have nV : x + 119 ≤ V.n := hR.1.2.2.2.1
  have at' : ∀ a, a < x + 118 → ¬ cZ x a → _ := fun a z1 z2 => f.2 a ⟨z1, z2⟩
  have ax := at' x (by omega) (fun z => by unfold cZ at z; omega)
  have ax1 := at' (x + 1) (by omega) (fun z => by unfold cZ at z; omega)
  have ax2 := at' (x + 2) (by omega) (fun z => by unfold cZ at z; omega)
  have a0 := at' 0 (by omega) (fun z => by unfold cZ at z; omega)
  have am := at' (x + 76) (by omega) (fun z => by unfold cZ at z; omega)
  have cV : wC V x α' C nc s' e b := ⟨hR, (ax.2.2.1 61).trans c2, fun i hi => by rw [ax1.2.2.2.2.2.1 i]; exact c3 i hi, c4.kl f.1 c1.1 (ax2.2.2.1 2) (ax2.2.2.2.1 1) (a0.2.2.2.1 142)⟩
  have mV := h2.ag h3.len (f.2.sub (fun a ha => ⟨by omega, fun z => by unfold cZ at z; omega⟩))
  have j : cJ x V U := cJ_s69.trans g.cJ
  have uT : ∀ a, a < x + 76 → _ := fun a ha => j.2 a ⟨by omega, fun z => by unfold cWo at z; omega⟩
  obtain ⟨k1, -, -⟩ := g.2.2.2.2.2.2.2.2.2
  have kI : ∀ F, F = 70 ∨ F = 96 → U.I F (x + 76) = S.I F (x + 76) := fun F z => by
    rw [k1 F (by omega), or_sI_I, if_neg (fun q => by have := q.1; omega)]
    exact am.2.2.1 F
  refine ⟨⟨cV.cJ j hw.2.2.2.1.1, mV.fx g r l1 l2 l3⟩, ⟨hw, hp⟩, ⟨((uT (x + 11) (by omega)).2.2.1 39).trans h39, ?_⟩, ?_, h8, ?_, ?_⟩
  · rw [(uT x (by omega)).2.2.1 63, ax.2.2.1 63, kI 70 (Or.inl rfl)]; exact h6
  · unfold zzB
    rw [(uT (x + 11) (by omega)).2.2.2.1 36, h36, kI 96 (Or.inr rfl)]
    rcases h7 with z | ⟨c, z1, z2, z3⟩
    · exact Or.inl z
    · refine Or.inr ⟨c, z1, ?_, z3⟩
      rw [hR.2.1.2.2.2 c z1, ← c1.2.1.2.2.2 c z1]
      exact z2
  · rw [g.2.1]; show V.K _ = _; rw [(f.1.2 _ (by omega)).1]; exact h9
  · rw [g.2.2.1]; show V.len _ = _; rw [(f.1.2 _ (by omega)).2]; exact h10
theorem scr_c (hs : lw_scr x0 L xs S) (hx : x0 < x) (f : cSp x S V) : lw_scr x0 L xs V := scr_ag hs (f.2.sub (fun a ha => ⟨by omega, fun z => by unfold cZ at z; omega⟩))
theorem scr_m {v : Int32} (hs : lw_scr x0 L xs V) (hx : x0 < x) (g : mFx (x + 76) (V.sI 69 (x + 76) v) U) : lw_scr x0 L xs U := ⟨by rw [g.2.1]; exact hs.1, by rw [g.2.2.1]; exact hs.2.1, fun j hj => by rw [g.2.2.2.2.2.2.2.1 x0 (Or.inl (by omega))]; exact hs.2.2 j hj⟩
theorem r_173_0 {d : Nat} {Q : ox_Q} (hsp : ox_mono sp) (k : S.K m = 14) (h96 : S.I 96 m = -1) (hQ : Q (some (.inl 0)) (S.sI 69 m 0)) : ox_M sp (d + 1) 173 [.inr (.inr m)] mr sr S Q := by
  have e96 : (S.sI 69 m 0).I 96 m = -1 := by rw [or_sI_I, if_neg (fun z => by cases z.1)]; exact h96
  exact f_173 hsp ⟨by rw [k]; rfl, by show ox_has (S.K m) 96 = true; rw [k]; rfl, fun z => absurd (by rw [e96] at z; exact z) (by decide), fun _ => ⟨Or.inl rfl, hQ⟩⟩
theorem z_again (hsp : ox_mono sp) (hV : zzV S x α C nc s e b y ce γ B Tc Bn Kn Wn K P) (hs : lw_scr x0 L xs S) (hx : x0 < x) (hL : zzL t nc e Bn Kn Wn K P) (t5 : t < 512) (b1 : 1171 * (512 - t) + 8 * e ≤ mr) (b2 : 9906 * (512 - t) + 400 * e ≤ sr) (hR : ∀ S' mr' sr', zzI x0 L xs x (t + 1) S' mr' sr' → R S' mr' sr') : lw_two (lw_E (ox_M sp 1200)) (lw_scr x0 L xs) 99 173 [.inr (.inr x)] [.inr (.inr (x + 76))] (x + 76) S mr sr R := by
  obtain ⟨⟨⟨c1, -⟩, m0⟩, ⟨w1, w2⟩, -, h7, -⟩ := id hV
  have hf := w1.len
  have hn : x + 119 ≤ S.n := c1.1.2.2.2.1
  obtain ⟨l1, l2, l3, l4, l5, l6⟩ := id hL
  refine ⟨0, 0, Nat.zero_le _, Nat.zero_le _, p_E (by decide) (by decide) ?_⟩
  rcases h7 with ⟨z1, z2⟩ | ⟨c, z1, z2, z3⟩
  · refine c_99_0 (d := 1197) hsp c1 z1 ⟨0, rfl, hs, m0.1.1.1, 0, 0, Nat.zero_le _, Nat.zero_le _, p_E (by decide) (by decide) ?_⟩
    exact r_173_0 (d := 1199) hsp m0.1.1.1 z2 ⟨rfl, hR _ _ _ ⟨⟨scr_w hs hx (v := 0) w41.refl, hx⟩, α, C, nc, s, e, b, y, ce, γ, B, Tc, Bn, Kn, Wn, K, P, hV.q cQ.refl w41.refl, hL.up, by omega, by omega⟩⟩
  · refine c_99 (d := 1197) hsp c1 z1 z2 (fun V f i39 hRV => ?_)
    have fV : cSp x S V := ⟨f.1, f.2.1.sub (fun a ha => ⟨by omega, ha.2⟩)⟩
    have mV := m0.ag hf (fV.2.sub (fun a ha => ⟨by omega, fun z => by unfold cZ at z; omega⟩))
    have e96 : V.I 96 (x + 76) = nI c := by rw [(fV.2 (x + 76) ⟨by omega, fun z => by unfold cZ at z; omega⟩).2.2.1 96]; exact z3
    have sV := scr_c hs hx fV
    refine ⟨1, rfl, sV, mV.1.1.1, 0, 0, Nat.zero_le _, Nat.zero_le _, p_E (by decide) (by decide) ?_⟩
    have nc3 := m0.1.2.2.1.1
    refine r_173 (d := 1197) hsp mV.1 hf (by omega) e96 (fun U g _ rU => ⟨rfl, hR _ _ _ ⟨⟨scr_m sV hx g, hx⟩, α, C, nc, xBeg s c, e, b, 0, ce, γ, B, Tc, Bn, Kn, Wn, K, P, ?_, hL.up, by omega, by omega⟩⟩)
    exact hV.mv fV hRV f.2.2 i39 g rU (xBeg_wf w1 z1) (xBeg_pot w2) (by omega) (by omega) (by omega)
end GP
