/-! the class's instructions: ITEM, WALK, NEXT, SPREAD, FUNCTION -/
theorem xLen_le {nc K : Nat} {H : xHp} {n v : Int} (hH : xHOk nc K H n) {m : Nat} (hl : xLen H v = some m) : m ≤ 4294967296 := by
  unfold xLen at hl
  cases z : H v with
  | none => rw [z] at hl; cases hl
  | some o =>
    rw [z] at hl
    match o, z, hl with
    | .inl _, _, hl => cases hl
    | .inr (.inl p), z, hl =>
      cases hl
      have := (hH.2 v _ z).2.2.1
      omega
    | .inr (.inr (.inl p)), z, hl =>
      cases hl
      obtain ⟨f1, f2, f3, f4⟩ := (hH.2 v _ z).2.2
      simp only [xFit, Bool.and_eq_true, decide_eq_true_eq] at f1 f2
      exact rgN_le (by omega) (by omega) f4
    | .inr (.inr (.inr _)), _, hl => cases hl
/-- small() is good enough for an index -/
theorem sm_idx {f : Nat → Nat} {n m : Nat} {p : Int32} (hd : dc f n) (hp : p = 0 ∨ p = 1) (hm : m ≤ 4294967296) {I : Int} (hI : I = if p = 0 then (smN n (dv f n) : Int) else -(smN n (dv f n) : Int)) : ((if I < 0 then I + m else I) < 0 ∨ (m : Int) ≤ (if I < 0 then I + m else I) ↔ (if nv f n p < 0 then nv f n p + m else nv f n p) < 0 ∨ (m : Int) ≤ (if nv f n p < 0 then nv f n p + m else nv f n p)) ∧ (0 ≤ (if I < 0 then I + m else I) → (if I < 0 then I + m else I) < (m : Int) → (if I < 0 then I + m else I) = (if nv f n p < 0 then nv f n p + m else nv f n p)) := by
  by_cases h3 : n ≤ 3
  · have : I = nv f n p := by
      rw [hI]
      unfold smN nv
      rw [if_pos h3]
    rw [this]
    exact ⟨Iff.rfl, fun _ _ => rfl⟩
  · have lo := dc_low hd (by omega)
    have : (32768 : Nat) ^ 3 ≤ 32768 ^ (n - 1) := Nat.pow_le_pow_right (by decide) (by omega)
    have e3 : (32768 : Nat) ^ 3 = 35184372088832 := by decide
    have es : smN n (dv f n) = 1125899906842624 := by unfold smN; rw [if_neg h3]
    rw [es] at hI
    rcases hp with y | y
    · rw [if_pos y] at hI
      have hA : nv f n p = (dv f n : Int) := by unfold nv; rw [if_pos y]
      rw [hA, hI, if_neg (by omega), if_neg (by omega)]
      exact ⟨⟨fun _ => Or.inr (by omega), fun _ => Or.inr (by omega)⟩, fun _ z => by omega⟩
    · have y' : ¬ p = 0 := by rw [y]; decide
      rw [if_neg y'] at hI
      have hA : nv f n p = -(dv f n : Int) := by unfold nv; rw [if_neg y']
      rw [hA, hI, if_pos (by omega), if_pos (by omega)]
      exact ⟨⟨fun _ => Or.inl (by omega), fun _ => Or.inl (by omega)⟩, fun z _ => by omega⟩
theorem smN_62 {f : Nat → Nat} {n : Nat} (hd : dc f n) : smN n (dv f n) < 2 ^ 62 := by
  unfold smN
  by_cases h3 : n ≤ 3
  · rw [if_pos h3]
    have h1 := dv_lt n hd.1
    have h2 : (32768 : Nat) ^ n ≤ 32768 ^ 3 := Nat.pow_le_pow_right (by decide) h3
    have e3 : (32768 : Nat) ^ 3 = 35184372088832 := by decide
    omega
  · rw [if_neg h3]; decide
section CU
variable {d mr sr : Nat} {S S' T : ox_St} {Q : ox_Q} {x : Nat} {α : Int → Nat} {C : Nat → xCd} {nc K : Nat} {e : xEn} {q : Nat} {st r : List Int} {v u : Int} {a : Nat}
/-- a new number at S.n + 1, its digits at S.n -/
theorem num_at (h : cE S x α C nc e q st) {wd : Nat → Nat} {c : Nat} {p : Int32} {N : Int} (hnn : S'.n = S.n + 2) (hN : oNm S' (S.n + 1) S.n wd c p ∧ S'.I 6 (S.n + 1) = 3) (nN : nv wd c p = N) : cO S' x (upA α e.n (S.n + 1)) C e.n (.inl N) := by
  have hn := h.n
  refine ⟨by rw [show upA α e.n (S.n + 1) e.n = S.n + 1 from if_pos rfl]; omega, by rw [show upA α e.n (S.n + 1) e.n = S.n + 1 from if_pos rfl, hnn]; omega, ?_⟩
  rw [show upA α e.n (S.n + 1) e.n = S.n + 1 from if_pos rfl]
  exact ⟨S.n, wd, c, p, hN.1, nN, hN.2, by rw [hnn]; exact ⟨by omega, Or.inr (Or.inr (by omega))⟩⟩
theorem ag_I {T : ox_St} {W : Nat → Prop} (hk : oKl S T) (ha : oAg (fun a => a < S.n) S T) : cI x W S T := ⟨hk, ha.sub (fun a z => z.1), fun a z _ => ⟨fun G _ _ _ => (ha a z).2.2.2.1 G, fun G _ => (ha a z).2.2.1 G⟩⟩
/-- ITEM -/
theorem c_60 (h : cE S x α C nc e q (u :: v :: r)) (hx : xEs1 C nc K e (u :: v :: r)) (hm : 2 ≤ mr) (hs : 20 ≤ sr) (hQ : ∀ S' α' y, cN x S S' → cX S' x α' C nc e q (u :: v :: r) (xIt e q r v u) y → Q (some (.inl y)) S') : ox_M lw_sp (d + 6) 60 [.inr (.inr (x + 11)), .inr (.inr (x + 28 + 5 * e.t.length))] mr sr S Q := by
  have hsp := lw_sp_mono
  have hE : ox_mono (ox_M lw_sp (d + 5)) := ox_M_mono hsp _
  have k := (h.oF hx).1
  have hn := h.n
  have hH := hx.1.1
  have l10 : r.length + 1 + 1 ≤ 10 := hx.2.2.1
  have okv := hx.tail.head
  have bad : (xLen e.H v = none ∨ xNum e.H u = none) → xIt e q r v u = .inl 0 := fun hz => by
    unfold xIt
    rcases hz with z | z
    · rw [z]
    · rw [z]
      cases xLen e.H v <;> rfl
  refine f_60 hsp ⟨by decide, k, by decide, 0, 0, Nat.zero_le _, Nat.zero_le _, c_sec hsp h hx (fun hv => f_60_5 hE ⟨by decide, k, by decide, 0, 0, Nat.zero_le _, Nat.zero_le _, c_top hsp h hx (fun hu => f_60_12 hE ⟨by decide, h.k7, by decide, 0, 0, Nat.zero_le _, Nat.zero_le _, c_num hsp h.1 h.hp hH hu hx.head (fun e0 => f_60_15 hE ⟨by decide, c_size (k := fun m s => k_60_20 (ox_M lw_sp (d + 5)) (x + 11) (x + 28 + 5 * e.t.length) (S.rR (x + 28 + 5 * e.t.length + 2) r.length) 0 m s Q) hsp h hx hv okv (f_60_20 hE ⟨fun _ => ⟨trivial, ?_⟩, fun _ => ⟨fun z => absurd rfl z, fun _ => ⟨trivial, ?_⟩⟩⟩)⟩) (fun A b t f n p e1 b0 bn bz bN nB tB => f_60_15 hE ⟨by decide, c_size (k := fun m s => k_60_20 (ox_M lw_sp (d + 5)) (x + 11) (x + 28 + 5 * e.t.length) (S.rR (x + 28 + 5 * e.t.length + 2) r.length) b m s Q) hsp h hx hv okv (f_60_20 hE ⟨fun z => ⟨trivial, ?_⟩, fun z => ⟨fun _ => ⟨by decide, bN.1, by decide, 0, 0, Nat.zero_le _, Nat.zero_le _, s_80 hsp bN (f_60_41 hE ?_)⟩, fun y => absurd y b0⟩⟩)⟩)⟩)⟩)⟩
  · exact hQ S α 0 cN.refl (by rw [bad (Or.inr e0)]; exact ⟨rfl, h⟩)
  · exact hQ S α 0 cN.refl (by rw [bad (Or.inr e0)]; exact ⟨rfl, h⟩)
  · cases hl : xLen e.H v with
    | none => exact hQ S α 0 cN.refl (by rw [bad (Or.inl hl)]; exact ⟨rfl, h⟩)
    | some m =>
      exfalso
      rw [hl] at z
      have := congrArg Int64.toInt ((lg_cmp_eq _ _).mp z)
      have hm1 : (-1 : Int64).toInt = -1 := rfl
      have hb := xLen_le hH hl
      rw [pf_lI (by omega), hm1] at this
      omega
  · cases hl : xLen e.H v with
    | none =>
      exfalso
      rw [hl] at z
      exact z rfl
    | some m =>
      have hb := xLen_le hH hl
      have bsm := smN_62 bN.2.2.2.1
      have pp : p = 0 ∨ p = 1 := bN.2.2.2.2.2.1
      have tI := lS_toInt (p := p) (Nat.lt_trans bsm (by decide))
      obtain ⟨i1, i2⟩ := sm_idx (m := m) bN.2.2.2.1 pp hb tI
      rw [nB] at i1 i2
      have hres : xIt e q r v u = (if (if A < 0 then A + m else A) < 0 ∨ (m : Int) ≤ (if A < 0 then A + m else A) then .inl 2 else match xItem e.H v (if A < 0 then A + m else A).toNat with
        | .inl u => xGo e q (u :: r)
        | .inr N => xMk e q r (.inl N)) := by
        unfold xIt
        rw [hl, e1]
        rfl
      have key : ∀ (y : Int64) (M s : Nat), 2 ≤ M → 9 ≤ s → y.toInt = (if (lS p (smN n (dv f n))).toInt < 0 then (lS p (smN n (dv f n))).toInt + m else (lS p (smN n (dv f n))).toInt) → ox_pv (ox_pick (S.K (S.rR (x + 28 + 5 * e.t.length + 2) r.length)) pkI) (fun j_ => 0 ≤ 8 ∧ ∃ mc1 mk2, mc1 ≤ M ∧ mk2 ≤ s ∧ ox_M lw_sp (d + 5) j_ [.inr (.inr (S.rR (x + 28 + 5 * e.t.length + 2) r.length)), .inr (.inl y)] mc1 mk2 S (k_60_64 (ox_M lw_sp (d + 5)) (x + 11) (x + 28 + 5 * e.t.length) (S.rR (x + 28 + 5 * e.t.length + 2) r.length) b (match (some m : Option Nat) with
          | some n => lN n
          | none => -1) (lS p (smN n (dv f n))) (M - mc1) (s - mk2) Q)) := by
        intro y M s hM hS hy
        refine c_item (d := d + 1) (k := fun M' s' => k_60_64 (ox_M lw_sp (d + 5)) (x + 11) (x + 28 + 5 * e.t.length) (S.rR (x + 28 + 5 * e.t.length + 2) r.length) b (lN m) (lS p (smN n (dv f n))) M' s' Q) hsp h hx hv okv hl hM hS (fun _ _ _ _ w => f_60_64 hE ⟨fun z => absurd rfl z, fun _ => f_60_82 hE ⟨trivial, ?_⟩⟩) (fun j w b' _ _ ej jn ei vw okw => f_60_64 hE ⟨fun _ => ⟨by decide, by decide, 0, 0, Nat.zero_le _, Nat.zero_le _, ?_⟩, fun z => absurd z vw.1⟩) (fun j N S' wd c p' _ _ ej jn ei g1 g2 g3 g4 => ?_)
        · rw [hy] at w
          refine hQ S α 2 cN.refl ?_
          rw [hres, if_pos (i1.mp w)]
          exact ⟨rfl, h⟩
        · rw [hy] at ej
          have e2 := i2 (by omega) (by omega)
          rw [ej] at e2
          rw [hres, if_neg (by omega), ← e2, Int.toNat_natCast, ei] at hQ
          refine c_rep hsp h hx (i := 2) (by simp) (by simp only [List.length_cons]; omega) vw okw (fun S' m1 m2 => f_60_82 hE ⟨trivial, hQ S' α (-1) m1 (cX_go m2)⟩)
        · rw [hy] at ej
          have e2 := i2 (by omega) (by omega)
          rw [ej] at e2
          rw [hres, if_neg (by omega), ← e2, Int.toNat_natCast, ei] at hQ
          have hk : oKl S S' := ⟨by omega, fun a ha => ⟨(g2 a ha).1, (g2 a ha).2.1⟩⟩
          have hIc : cI x (cW0 x) S S' := ag_I hk g2
          have hNl : N.natAbs < 32768 ^ 16 := by rw [← g4]; exact nv_lt g3.1.2.2.2.1 g3.1.2.2.1.2.2.1
          refine f_60_64 hE ⟨fun _ => ⟨by decide, by decide, 0, 0, Nat.zero_le _, Nat.zero_le _, ?_⟩, fun z => absurd z (by omega)⟩
          exact c_new hsp h hx hIc (i := 2) (o := .inl N) (by simp) (by simp only [List.length_cons]; omega) (by omega) (num_at h g1 g3 g4) hNl (by rw [g3.1.1]; rfl) (fun S2 m1 m2 => f_60_82 hE ⟨trivial, hQ S2 _ (-1) m1 m2⟩)
      have z0 : (0 : Int64).toInt = 0 := rfl
      have hge : (0 : Int32) ≤ lg_cmp (lS p (smN n (dv f n))) 0 ↔ 0 ≤ (lS p (smN n (dv f n))).toInt := by rw [lg_cmp_ge, Int64.le_iff_toInt_le, z0]
      refine ⟨fun y => ⟨by decide, ?_⟩, fun y => ⟨by decide, ?_⟩⟩
      · have y' := hge.mp y
        exact key _ _ _ (by omega) (by omega) (by rw [if_neg (by omega)])
      · have y' : (lS p (smN n (dv f n))).toInt < 0 := Int.not_le.mp fun w => y (hge.mpr w)
        have bI : -(2 ^ 62 : Int) < (lS p (smN n (dv f n))).toInt := by
          rw [tI]
          rcases pp with m1 | m1
          · rw [if_pos m1]; omega
          · rw [if_neg (by rw [m1]; decide)]; omega
        refine key _ _ _ (by omega) (by omega) ?_
        rw [if_pos y']
        show (lS p (smN n (dv f n)) + lN m).toInt = _
        rw [l_add (by rw [pf_lI (by omega)]; omega) (by rw [pf_lI (by omega)]; omega), pf_lI (by omega)]
end CU
