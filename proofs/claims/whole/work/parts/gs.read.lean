/-! both sides at once: read -/
section GS
variable {sp : ox_E} {S V Z : ox_St} {m x x0 L nc e y ce Tc Bn Kn Wn K P t mr sr : Nat} {xs : Nat → Int32} {α α' : Int → Nat} {C : Nat → xCd} {s s' : xSt} {b : Nat → Nat} {γ γ' : Int → Nat} {B B' : List Int} {R : ox_St → Nat → Nat → Prop}
theorem rdA_pot (hb : ∀ i, i < e → b i < 256) (hH : xHOk nc K s.H s.n) (hn : (rdA b e (pH0 s C nc)).1.2 = none) (hp : xPot C nc P s.H s.G s.f s.r) : xPot (rdA b e (pH0 s C nc)).2.1.C (rdA b e (pH0 s C nc)).2.1.c (P + 20 * e) (rdA b e (pH0 s C nc)).2.1.H s.G [(nc, 0, [], (fun _ => none), [])] 0 := by
  obtain ⟨p1, -, -⟩ := rdA_ok (C := C) hb hH hn
  have pp : pPot (1, none) (pH0 s C nc) (rdA b e (pH0 s C nc)).1 (rdA b e (pH0 s C nc)).2.1 10 [(rdA b e (pH0 s C nc)).2.2] := by
    have eA := rdA_R (b := b) (e := e) (h := pH0 s C nc)
    by_cases z : (rdR b e (pH0 s C nc)).1.2 = none
    · rw [if_pos z] at eA
      by_cases pe : (rdR b e (pH0 s C nc)).1.1 < e
      · rw [if_pos pe] at eA
        rw [eA] at hn
        exact absurd hn (rfS_some _)
      · rw [if_neg pe] at eA
        by_cases z1 : (bwS b e 99 99 (0, none)).2 = none
        · have eR : rdR b e (pH0 s C nc) = rdC b e (rdO b e 4) (1, none) (pH0 s C nc) := if_pos z1
          rw [eA, eR]
          rw [eR] at z
          exact rdC_P (K := K) hb (rdO_G hb 4 (by decide)) (rdO_P hb 4 (by decide)) (1, none) (pH0 s C nc) rfl (bwS_none z1).2.1.1 hH z
        · have eR : rdR b e (pH0 s C nc) = (bwS b e 99 99 (0, none), pH0 s C nc, 0) := if_neg z1
          rw [eR] at z
          exact absurd z z1
    · rw [if_neg z] at eA
      rw [eA] at hn
      exact absurd hn z
  generalize rdA b e (pH0 s C nc) = r at p1 pp ⊢
  obtain ⟨A, c0, h1, h2, h3, h4, h5⟩ := hp
  obtain ⟨A', q1, q2, q3, q4, q5⟩ := pp A h1
  have q5' : 10 * xSzA r.2.1.H A' + 10 + 20 * 1 ≤ 10 * xSzA s.H A + 20 * r.1.1 := q5
  have pl : r.1.1 ≤ e := p1.1.1
  refine ⟨A', 0, q2, ⟨fun c hc v hv => ?_, fun g hg => (h2.2 g hg).mono q1⟩, Or.inl (by decide), ⟨trivial, fun i v hv => (by cases hv), fun g hg => (by cases hg)⟩, ?_⟩
  · by_cases z : c < nc
    · have hC : r.2.1.C c = C c := p1.2.2.2.2.2.1 c z
      rw [hC] at hv
      exact (h2.1 c z v hv).mono q1
    · exact q4 c (by show nc ≤ c; omega) hc v hv
  · show 10 * xSzA r.2.1.H A' + 3 * 0 + 0 ≤ P + 20 * e
    omega
theorem rdA_wf (hb : ∀ i, i < e → b i < 256) (hw : xWf C nc K s) (hn : (rdA b e (pH0 s C nc)).1.2 = none) (hok : ∀ c ∈ (rdA b e (pH0 s C nc)).2.1.l, ∃ T, okT ((rdA b e (pH0 s C nc)).2.1.C c).1 T) : xWf (rdA b e (pH0 s C nc)).2.1.C (rdA b e (pH0 s C nc)).2.1.c K (xBeg ((rdA b e (pH0 s C nc)).2.1.H, (rdA b e (pH0 s C nc)).2.1.n, s.G, s.f, s.s, s.k, s.r) nc) := by
  obtain ⟨w1, w2, w3, w4, -⟩ := hw
  obtain ⟨p1, -, p3⟩ := rdA_ok (C := C) hb w1 hn
  generalize rdA b e (pH0 s C nc) = r at p1 p3 hok ⊢
  obtain ⟨ln, l1, l2, l3⟩ := p1.2.2.2.2.2.2
  have l1' : r.2.1.l = ln := l1
  have co : xCOk r.2.1.C r.2.1.c r.2.1.H := fun c hc => by
    by_cases z : c < nc
    · have hC : r.2.1.C c = C c := p1.2.2.2.2.2.1 c z
      obtain ⟨a1, a2, a3, a4, a5, a6⟩ := w2 c z
      rw [hC]
      exact ⟨a1, a2, a3, a4, fun v hv => p1.val (a5 v hv), a6⟩
    · have hm := l2 c (by show nc ≤ c; omega) hc
      obtain ⟨-, -, ⟨b1, b2, b3, b4⟩, b5⟩ := l3 c hm
      exact ⟨b1, hok c (by rw [l1']; exact hm), b2, b3, b5, b4⟩
  obtain ⟨o1, ⟨T, o2⟩, -⟩ := co nc p3
  refine ⟨p1.2.2.2.1, co, ⟨w3.1, fun g hg => ⟨(w3.2 g hg).1, p1.val (w3.2 g hg).2⟩⟩, ⟨by show 1 ≤ 8; decide, ⟨p3, ⟨T, o2, o2.1, trivial⟩, Nat.le_refl _, fun v hv => (by cases hv), fun i v hv => (by cases hv)⟩, fun g hg => (by cases hg)⟩, ⟨fun _ z => (by cases z), fun _ => rfl⟩, Or.inl ⟨by show -((r.2.1.c : Nat) : Int) ≤ 0; omega, (show (0 : Int) ≤ 10 by decide)⟩, by show 1 ≤ 3; decide, fun _ => rfl, fun _ => rfl, fun z => (by cases z)⟩
theorem oML.k20 (h : oML S m ce) : ∀ a, m ≤ a → a ≤ m + 41 → S.K a ≠ 20 := fun a a1 a2 e0 => by
  obtain ⟨o, rfl⟩ : ∃ o, a = m + o := ⟨a - m, by omega⟩
  have hall : ∀ o : Fin 42, o.val = 0 ∨ o.val = 2 ∨ o.val = 3 ∨ mTb.any (fun q => q.2.1 == o.val && q.2.2.1 != 20) = true := by decide
  rcases hall ⟨o, by omega⟩ with z | z | z | z
  · have z' : o = 0 := z
    subst z'
    have := h.1
    rw [Nat.add_zero, this] at e0
    exact absurd e0 (by decide)
  · have z' : o = 2 := z
    subst z'
    rw [(h.2.2.2.2 2 (Or.inl rfl)).1] at e0
    exact absurd e0 (by decide)
  · have z' : o = 3 := z
    subst z'
    rw [(h.2.2.2.2 3 (Or.inr rfl)).1] at e0
    exact absurd e0 (by decide)
  · simp only [List.any_eq_true, Bool.and_eq_true, beq_iff_eq, bne_iff_ne] at z
    obtain ⟨q, q1, q2, q3⟩ := z
    have := (h.2.1 q q1).2.1
    rw [q2] at this
    exact q3 (this.symm.trans e0)
theorem cJ_ou (g : mOu (x + 76) V Z) : cJ x V Z := by
  obtain ⟨g1, g2, g3, g4, g5, g6, g7, g8, g9⟩ := g
  refine ⟨oKl_of g1 g2 g3, fun a ha => ?_⟩
  have hne : ¬ (x + 76 ≤ a ∧ a < x + 119) := ha.2
  exact ⟨by rw [g2], by rw [g3], fun F => g7 F a (by omega), fun F => g6 F a (by omega), fun F => by rw [g4], fun j => by rw [g8 a (by omega)], fun j => by rw [g5], fun j => by rw [g9 a (by omega)]⟩
/-- behind a read on both sides -/
theorem zzI.rd {nc' : Nat} {C' : Nat → xCd} {y' ce' T' Bn' Kn' Wn' K' P' : Nat} (hs : lw_scr x0 L xs S) (hx : x0 < x) (h9 : S.K (x + 118) = 16) (h10 : S.len (x + 118) = 1) (hn : x + 119 ≤ S.n) (rf : rfF x S V) (hRV : cR V x α' C' nc' s') (tl : cTl V x) (ou : mOu (x + 76) V Z) (rZ : rR Z (x + 76) ce' γ' B' T' C' nc' y' s') (cZ0 : rCn Z (x + 76) γ' C' nc' Bn' Kn' Wn') (i72 : Z.I 72 (x + 76) = 0) (hw : xWf C' nc' K' s') (hp : xPot C' nc' P' s'.H s'.G s'.f s'.r) (h39 : V.I 39 (x + 11) = nI y') (h63 : V.I 63 x = Z.I 70 (x + 76)) (hB : (V.R 36 (x + 11) = 0 ∧ Z.I 96 (x + 76) = -1) ∨ ∃ c : Nat, c < nc' ∧ V.R 36 (x + 11) = α' (-1 - (c : Int)) ∧ Z.I 96 (x + 76) = nI c) (hL : zzL t nc' 0 Bn' Kn' Wn' K' P') (b1 : 1171 * (512 - t) ≤ mr) (b2 : 9906 * (512 - t) ≤ sr) : zzI x0 L xs x t Z mr sr := by
  have j := cJ_ou ou
  have nV : x + 119 ≤ V.n := hRV.1.2.2.2.1
  have h0 : 0 < x := hRV.1.2.1
  have uT : ∀ a, a < x + 76 → _ := fun a ha => j.2 a ⟨by omega, fun z => by unfold cWo at z; omega⟩
  have sV : lw_scr x0 L xs V := scr_ag hs (rf.2.sub (fun a ha => ⟨Or.inl (by omega), by rw [ha, hs.1]; decide⟩))
  have sZ : lw_scr x0 L xs Z := ⟨by rw [ou.2.1]; exact sV.1, by rw [ou.2.2.1]; exact sV.2.1, fun i hi => by rw [ou.2.2.2.2.2.2.2.1 x0 (Or.inl (by omega))]; exact sV.2.2 i hi⟩
  refine ⟨⟨sZ, hx⟩, α', C', nc', s', 0, (fun _ => 0), y', ce', γ', B', T', Bn', Kn', Wn', K', P', ⟨⟨⟨j.cR hRV hw.2.2.2.1.1, ((uT x (by omega)).2.2.1 61).trans tl.1, fun i hi => absurd hi (Nat.not_lt_zero _), tl.2.kl j.1 hRV.1 ((uT (x + 2) (by omega)).2.2.1 2) ((uT (x + 2) (by omega)).2.2.2.1 1) ((uT 0 (by omega)).2.2.2.1 142)⟩, ⟨rZ, cZ0, i72, fun i hi => absurd hi (Nat.not_lt_zero _)⟩⟩, ⟨hw, hp⟩, ⟨((uT (x + 11) (by omega)).2.2.1 39).trans h39, ((uT x (by omega)).2.2.1 63).trans h63⟩, ?_, ⟨Nat.zero_le _, fun i hi => absurd hi (Nat.not_lt_zero _)⟩, ?_, ?_⟩, hL, by omega, by omega⟩
  · unfold zzB
    rw [(uT (x + 11) (by omega)).2.2.2.1 36]
    exact hB
  · rw [ou.2.1, (rf.1.2 _ (by omega)).1]; exact h9
  · rw [ou.2.2.1, (rf.1.2 _ (by omega)).2]; exact h10
theorem z_read (hsp : ox_mono sp) (hg : adH sp) (hV : zzV S x α C nc s e b y ce γ B Tc Bn Kn Wn K P) (hs : lw_scr x0 L xs S) (hx : x0 < x) (hL : zzL t nc e Bn Kn Wn K P) (t5 : t < 512) (b1 : 1171 * (512 - t) + 8 * e ≤ mr) (b2 : 9906 * (512 - t) + 400 * e ≤ sr) (hR : ∀ S' mr' sr', zzI x0 L xs x (t + 1) S' mr' sr' → R S' mr' sr') : lw_read (lw_E (ox_M sp 1200)) (lw_scr x0 L xs) x (x + 76) S mr sr R := by
  obtain ⟨⟨⟨c1, c2, c3, c4⟩, m0⟩, ⟨w1, w2⟩, ⟨h5, h6⟩, h7, ⟨e8, hb⟩, h9, h10⟩ := id hV
  have hf := w1.len
  have hn : x + 119 ≤ S.n := c1.1.2.2.2.1
  obtain ⟨l1, l2, l3, l4, l5, l6⟩ := id hL
  have nc3 := m0.1.2.2.1.1
  have fb : ∀ i, i < e → S.rI (x + 1) i = nI (b i) ∧ b i < 256 := fun i hi => ⟨c3 i hi, hb i hi⟩
  have agV : ∀ W, rfF x S W → oAg (fun a => x + 76 ≤ a ∧ a ≤ x + 76 + 41) S W := fun W rf => rf.2.sub (fun a ha => ⟨Or.inr ⟨by omega, by omega⟩, m0.1.1.k20 a ha.1 ha.2⟩)
  -- the reference's call
  have ref : ∀ (W : ox_St) (v : Int32), rfF x S W → (∀ p, (rdA b e (pH0 s C nc)).1.2 = some p → v = 1 ∧ ∀ Z, mOu (x + 76) W Z → ∀ ce' γ' B' T', rR Z (x + 76) ce' γ' B' T' C nc y s → rCn Z (x + 76) γ' C nc Bn Kn Wn → Z.I 70 (x + 76) = nI p → Z.I 72 (x + 76) = 0 → Z.I 96 (x + 76) = S.I 96 (x + 76) → zzI x0 L xs x (t + 1) Z (mr - (8 * e + 9)) (sr - (400 * e + 406))) → ((rdA b e (pH0 s C nc)).1.2 = none → ∀ j, j < (rdA b e (pH0 s C nc)).2.1.l.length → (∀ a, a < j → ∃ T, okT ((rdA b e (pH0 s C nc)).2.1.C ((rdA b e (pH0 s C nc)).2.1.l.getD a 0)).1 T) → ¬ (∃ T, okT ((rdA b e (pH0 s C nc)).2.1.C ((rdA b e (pH0 s C nc)).2.1.l.getD j 0)).1 T) → v = 2 ∧ ∀ Z, mOu (x + 76) W Z → ∀ ce' γ' B' T', rR Z (x + 76) ce' γ' B' T' C nc y s → rCn Z (x + 76) γ' C nc Bn Kn Wn → Z.I 70 (x + 76) = nI (1000 * j) → Z.I 72 (x + 76) = 0 → Z.I 96 (x + 76) = S.I 96 (x + 76) → zzI x0 L xs x (t + 1) Z (mr - (8 * e + 9)) (sr - (400 * e + 406))) → ((rdA b e (pH0 s C nc)).1.2 = none → (∀ c ∈ (rdA b e (pH0 s C nc)).2.1.l, ∃ T, okT ((rdA b e (pH0 s C nc)).2.1.C c).1 T) → v = 0 ∧ ∀ Z, mOu (x + 76) W Z → ∀ ce' γ' B' T' Bn' Kn' Wn', rR Z (x + 76) ce' γ' B' T' (rdA b e (pH0 s C nc)).2.1.C (rdA b e (pH0 s C nc)).2.1.c 0 (xBeg ((rdA b e (pH0 s C nc)).2.1.H, (rdA b e (pH0 s C nc)).2.1.n, s.G, s.f, s.s, s.k, s.r) nc) → rCn Z (x + 76) γ' (rdA b e (pH0 s C nc)).2.1.C (rdA b e (pH0 s C nc)).2.1.c Bn' Kn' Wn' → (Bn' ≤ Bn + e ∧ Kn' ≤ Kn + e ∧ Wn' ≤ Wn + e ∧ 9 * (rdA b e (pH0 s C nc)).2.1.c ≤ 9 * nc + e) → Z.I 70 (x + 76) = -1 → Z.I 72 (x + 76) = 0 → Z.I 96 (x + 76) = nI nc → zzI x0 L xs x (t + 1) Z (mr - (8 * e + 9)) (sr - (400 * e + 406))) → ∃ v0 : Int32, (some (.inl v) : Option ox_V) = some (.inl v0) ∧ W.K (x + 76) = 14 ∧ ∃ mc' ms', mc' ≤ mr - (8 * e + 9) ∧ ms' ≤ sr - (400 * e + 406) ∧ lw_E (ox_M sp 1200) 161 [.inr (.inr (x + 76))] mc' ms' W (fun r' S2 => r' = none ∧ S2.K (x + 76) = 14 ∧ ∃ mc2 ms2, mc2 ≤ mr - (8 * e + 9) - mc' ∧ ms2 ≤ sr - (400 * e + 406) - ms' ∧ lw_E (ox_M sp 1200) 127 [.inr (.inr (x + 76))] mc2 ms2 S2 (fun r2 S3 => r2 = some (.inl v0) ∧ R S3 (mr - (8 * e + 9) - mc' - mc2) (sr - (400 * e + 406) - ms' - ms2))) := by
    intro W v rf hA hB hG
    have mW := m0.ag hf (agV W rf)
    have i96 : W.I 96 (x + 76) = S.I 96 (x + 76) := (agV W rf _ ⟨Nat.le_refl _, by omega⟩).2.2.1 96
    refine ⟨v, rfl, mW.1.1.1, 0, 0, Nat.zero_le _, Nat.zero_le _, p_E (by decide) (by decide) ?_⟩
    have tail : ∀ Z, rR Z (x + 76) ce γ B Tc C nc y s ∨ Z.K (x + 76) = 14 → Z.I 69 (x + 76) = v → zzI x0 L xs x (t + 1) Z (mr - (8 * e + 9)) (sr - (400 * e + 406)) → (none : Option ox_V) = none ∧ Z.K (x + 76) = 14 ∧ ∃ mc2 ms2, mc2 ≤ mr - (8 * e + 9) - 0 ∧ ms2 ≤ sr - (400 * e + 406) - 0 ∧ lw_E (ox_M sp 1200) 127 [.inr (.inr (x + 76))] mc2 ms2 Z (fun r2 S3 => r2 = some (.inl v) ∧ R S3 (mr - (8 * e + 9) - 0 - mc2) (sr - (400 * e + 406) - 0 - ms2)) := fun Z k i69 hI => by
      have k14 : Z.K (x + 76) = 14 := k.elim (fun z => z.1.1) id
      refine ⟨rfl, k14, 0, 0, Nat.zero_le _, Nat.zero_le _, p_E (by decide) (by decide) (s_127 (d := 1199) hsp k14 ⟨by rw [i69], by simp only [Nat.sub_zero]; exact hR _ _ _ hI⟩)⟩
    refine r_161 (d := 1192) hsp mW.1 w1 mW.2.1 mW.2.2.1 e8 (fun i hi => ⟨mW.2.2.2 i hi, hb i hi⟩) (by omega) (by omega) (by omega) (by omega) w2 (by omega) (fun p hp => ?_) (fun hz j hj ok bad => ?_) (fun hz ok => ?_)
    · obtain ⟨ev, k⟩ := hA p hp
      intro Z ce' γ' B' T' ou rZ cZ i69 i70 i72 i96'
      exact tail Z (Or.inr rZ.1.1) (by rw [i69, ev]) (k Z ou ce' γ' B' T' rZ cZ i70 i72 (i96'.trans i96))
    · obtain ⟨ev, k⟩ := hB hz j hj ok bad
      intro Z ce' γ' B' T' ou rZ cZ i69 i70 i72 i96'
      exact tail Z (Or.inr rZ.1.1) (by rw [i69, ev]) (k Z ou ce' γ' B' T' rZ cZ i70 i72 (i96'.trans i96))
    · obtain ⟨ev, k⟩ := hG hz ok
      intro Z ce' γ' B' T' Bn' Kn' Wn' ou rZ cZ lim i69 i70 i72 i96'
      exact tail Z (Or.inr rZ.1.1) (by rw [i69, ev]) (k Z ou ce' γ' B' T' Bn' Kn' Wn' rZ cZ lim i70 i72 i96')
  refine ⟨8 * e + 9, 400 * e + 406, by omega, by omega, Or.inl ⟨rfl, ?_⟩⟩
  refine c_236 (d := 1172) hsp hg c1 w1 nc3 c2 e8 fb c4 (Nat.le_refl _) (Nat.le_refl _) (fun v hv => ?_) (fun hz j hj ok bad => ?_) (fun hz ok => ?_)
  · intro V rf hRV e63 tl r36 i39
    refine ref V 1 rf (fun p hp => ⟨rfl, fun Z ou ce' γ' B' T' rZ cZ i70 i72 i96 => ?_⟩) (fun z => ?_) (fun z => ?_)
    · have ep : v = p := Option.some.inj (hv.symm.trans hp)
      refine zzI.rd hs hx h9 h10 hn rf hRV tl ou rZ cZ i72 w1 w2 (i39.trans h5) (by rw [e63, i70, ep]) ?_ ⟨by omega, by omega, by omega, by omega, by omega, by omega⟩ (by omega) (by omega)
      rw [r36, i96]; exact h7
    · rw [hv] at z; cases z
    · rw [hv] at z; cases z
  · intro V rf hRV e63 tl r36 i39
    refine ref V 2 rf (fun p hp => ?_) (fun _ j' hj' ok' bad' => ⟨rfl, fun Z ou ce' γ' B' T' rZ cZ i70 i72 i96 => ?_⟩) (fun _ ok' => ?_)
    · rw [hz] at hp; cases hp
    · have ej : j = j' := by
        rcases Nat.lt_trichotomy j j' with q | q | q
        · exact absurd (ok' j q) bad
        · exact q
        · exact absurd (ok j' q) bad'
      refine zzI.rd hs hx h9 h10 hn rf hRV tl ou rZ cZ i72 w1 w2 (i39.trans h5) (by rw [e63, i70, ej]) ?_ ⟨by omega, by omega, by omega, by omega, by omega, by omega⟩ (by omega) (by omega)
      rw [r36, i96]; exact h7
    · refine absurd (ok' _ ?_) bad
      rw [List.getD_eq_getElem?_getD, List.getElem?_eq_getElem hj]
      exact List.getElem_mem hj
  · intro V α' rf hRV e63 tl r36 i39
    have wf' := rdA_wf (K := K) hb w1 hz ok
    have po' := rdA_pot (P := P) hb w1.1 hz w2
    obtain ⟨-, -, p3⟩ := rdA_ok (C := C) hb w1.1 hz
    refine ref V 0 rf (fun p hp => ?_) (fun _ j' hj' ok' bad' => ?_) (fun _ _ => ⟨rfl, fun Z ou ce' γ' B' T' Bn' Kn' Wn' rZ cZ lim i70 i72 i96 => ?_⟩)
    · rw [hz] at hp; cases hp
    · refine absurd (ok _ ?_) bad'
      rw [List.getD_eq_getElem?_getD, List.getElem?_eq_getElem hj']
      exact List.getElem_mem hj'
    · generalize rdA b e (pH0 s C nc) = r at hRV wf' po' p3 rZ cZ lim
      have cq : cEq r.2.1.c r.2.1.C (cPn r.2.1.C α') := fun i hi => cPn_lt (by omega)
      exact zzI.rd hs hx h9 h10 hn rf hRV tl ou (rZ.cq cq) (cZ.cq cq) i72 (wf'.cq cq) (po'.cq cq) i39 (by rw [e63, i70]) (Or.inr ⟨nc, p3, r36, i96⟩) ⟨by omega, by omega, by omega, by omega, by omega, by omega⟩ (by omega) (by omega)
end GS
