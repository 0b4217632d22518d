/-! the reference: SUBSCRIPT -/
section RIt
variable {sp : ox_E} {d mr sr : Nat} {S S' S2 : ox_St} {Q : ox_Q} {m ce a : Nat} {γ : Int → Nat} {B : List Int} {T : Nat} {C : Nat → xCd} {nc K y : Nat} {e : xEn} {q j i : Nat} {st r : List Int} {v u n : Int} {H : xHp} {o : xOb}
theorem l_32 {x : Int64} {k : Nat} (hk : k < 2 ^ 31) (h : x.toInt = (k : Int)) : Int64.toInt32 x = nI k := by
  refine (Int32.toInt_inj).mp ?_
  rw [Int64.toInt_toInt32, h, nI_toInt hk]
  exact Int.bmod_eq_of_le (by omega) (by omega)
/-- small, of a number -/
theorem r_148 (hsp : ox_mono sp) (h : rE S m ce γ B T C nc y e q st) (hx : xEs1 C nc K e st) (hT : T + 19 ≤ 1100000) {N : Int} {x : Int64} (hN : N.natAbs < 2 ^ 62) (hxN : x.toInt = N) (hQ : ∀ S', rE S' m ce (upA γ e.n T) (e.n :: B) (T + xSz (.inl N)) C nc y (e.nw (.inl N)) q st → mFx m S S' → S'.R = S.R → T + xSz (.inl N) ≤ T + 19 → gV (upA γ e.n T) e.n = nI T → Q (some (.inl (nI T))) S') : ox_M sp (d + 3) 148 [.inr (.inr m), .inr (.inl x)] mr sr S Q := by
  have T16 : 16 ≤ T := h.2.1.1.2.2.2.1
  have hT' : T + xSz (.inl N) ≤ T + 19 := by show T + (3 + dl 16 N.natAbs) ≤ _; have := dl_le 16 N.natAbs; omega
  have eg : gV (upA γ e.n T) e.n = nI T := by
    unfold gV
    rw [if_neg (by have := hx.1.1.1; omega), show upA γ e.n T e.n = T from if_pos rfl]
  by_cases n0 : N < 0
  · refine s_148 (N := N.natAbs) (mn := 1) hsp h.ml h.2.1.2 T16 hT (Or.inr ⟨rfl, ?_, by omega⟩) hN (fun S' w c p e1 e2 e3 e4 e5 e6 => ?_)
    · refine Int64.toInt_inj.mp ?_
      have := pf_lI (a := N.natAbs) (by omega)
      rw [l_neg (by omega), this, hxN]
      omega
    · rw [if_neg (by decide)] at e6
      obtain ⟨n1, n2, n3⟩ := h.num1 hx e1 e2 e3 e4 e5 (show nv w c p = N by omega) hT
      exact hQ S' n1 n2 n3 hT' eg
  · refine s_148 (N := N.natAbs) (mn := 0) hsp h.ml h.2.1.2 T16 hT (Or.inl ⟨rfl, l_of (by omega) (by omega)⟩) hN (fun S' w c p e1 e2 e3 e4 e5 e6 => ?_)
    rw [if_pos rfl] at e6
    obtain ⟨n1, n2, n3⟩ := h.num1 hx e1 e2 e3 e4 e5 (show nv w c p = N by omega) hT
    exact hQ S' n1 n2 n3 hT' eg
/-- an index as the reference reckons it -/
theorem pl_ix {N : Int} {n : Nat} {x : Int64} (hn : n ≤ 4294967296) (hy : x.toInt = if 0 ≤ (plZ N).toInt then (plZ N).toInt else (plZ N).toInt + n) : (x.toInt < 0 → (if N < 0 then N + (n : Int) else N) < 0) ∧ (¬ x.toInt < 0 → ¬ x.toInt < n → (n : Int) ≤ (if N < 0 then N + (n : Int) else N)) ∧ (¬ x.toInt < 0 → x.toInt < n → x.toInt = (if N < 0 then N + (n : Int) else N)) := by
  rw [plZ_i] at hy
  by_cases z : N.natAbs ≤ 1000000000000
  · rw [if_pos z] at hy
    by_cases n0 : N < 0
    · rw [if_neg (by omega)] at hy
      rw [if_pos n0]
      omega
    · rw [if_pos (by omega)] at hy
      rw [if_neg n0]
      omega
  · rw [if_neg z] at hy
    by_cases n0 : N < 0
    · rw [if_pos n0, if_neg (by decide)] at hy
      rw [if_pos n0]
      omega
    · rw [if_neg n0, if_pos (by decide)] at hy
      rw [if_neg n0]
      omega
theorem rE.rngc (h : rE S m ce γ B T C nc y e q st) (hx : xEs1 C nc K e st) (hB : xIn B v) {p : Int × Int × Int} (hv : e.H v = some (.inr (.inr (.inl p)))) : gV γ v = nI (γ v) ∧ γ v + 4 ≤ 1100000 ∧ (S.rI (m + ce) (γ v + 1)).toInt = p.1 ∧ (S.rI (m + ce) (γ v + 2)).toInt = p.2.1 ∧ (S.rI (m + ce) (γ v + 3)).toInt = p.2.2 ∧ p.2.2 ≠ 0 ∧ rgN p.1 p.2.1 p.2.2 ≤ 4294967296 ∧ S.rI (m + ce) (γ v) = 5 := by
  have h16 := (hx.1.1.2 v _ hv).1
  obtain ⟨o, e1, ⟨r0, r1⟩, r2, eg⟩ := h.hi hB (by omega)
  rw [hv] at e1
  cases e1
  have sz : xSz (.inr (.inr (.inl p))) = 4 := rfl
  obtain ⟨q1, q2, q3, q4⟩ := (hx.1.1.2 v _ hv).2.2
  obtain ⟨m0, m1, m2, m3⟩ := r1
  have le := rgN_le (u := p.1) (v := p.2.1) (w := p.2.2) (by rw [← m1]; have := i_bd (S.rI (m + ce) (γ v + 1)); omega) (by rw [← m2]; have := i_bd (S.rI (m + ce) (γ v + 2)); omega) q4
  exact ⟨eg, by omega, m1, m2, m3, q4, le, m0⟩
/-- an item of a range, as a long -/
theorem rg_it {A D x : Int64} {p : Int × Int × Int} {k : Nat} (hk : k < rgN p.1 p.2.1 p.2.2) (hA : A.toInt = p.1) (hD : D.toInt = p.2.2) (hx : x.toInt = k) (bA : -2147483648 ≤ p.1 ∧ p.1 < 2147483648) (bB : -2147483648 ≤ p.2.1 ∧ p.2.1 < 2147483648) : (A + x * D).toInt = p.1 + k * p.2.2 ∧ (p.1 + k * p.2.2).natAbs < 2 ^ 62 ∧ (p.1 + k * p.2.2).natAbs < 32768 ^ 16 := by
  have it := rg_item hk
  have b1 : -4294967296 ≤ (k : Int) * p.2.2 ∧ (k : Int) * p.2.2 ≤ 4294967296 := by omega
  have e1 : (x * D).toInt = k * p.2.2 := by rw [l_mul (by rw [hx, hD]; omega) (by rw [hx, hD]; omega), hx, hD]
  have n1 : (p.1 + k * p.2.2).natAbs < 2 ^ 62 := by omega
  exact ⟨by rw [l_add (by rw [hA, e1]; omega) (by rw [hA, e1]; omega), hA, e1], n1, Nat.lt_trans n1 (by decide)⟩
set_option maxHeartbeats 1000000 in
theorem r_185 (hsp : ox_mono sp) (hin : rIn C nc K e (u :: v :: r) 2) (h : rE S m ce γ B T C nc y e q (u :: v :: r)) (hT : T + 19 ≤ 1100000) (hQ : ∀ S', mFx m S S' → S'.R = S.R → rX S' m ce T C nc y e q (u :: v :: r) (xIt e q r v u) → Q none S') : ox_M sp (d + 4) 185 [.inr (.inr m)] mr sr S Q := by
  have hE : ox_mono (ox_M sp (d + 3)) := ox_M_mono hsp _
  have hx0 := hin.1
  have hx := hx0.tail.tail
  have oku := hx0.head
  have okv := hx0.tail.head
  have s10 : r.length + 2 ≤ 10 := hx0.2.2.1
  refine f_185 hsp ⟨by decide, h.k, by decide, 0, 0, Nat.zero_le _, Nat.zero_le _, r_175 hsp h hx0 (fun S1 a1 a2 hBu => f_185_4 hE ⟨by decide, a2.k, by decide, 0, 0, Nat.zero_le _, Nat.zero_le _, r_175 hsp a2 hx0.tail (fun S2 b1 b2 hBv => f_185_9 hE ⟨by decide, b2.k, by decide, 0, 0, Nat.zero_le _, Nat.zero_le _, r_133 hsp b2 hx okv hBv (f_185_15 hE ?_)⟩)⟩)⟩
  have fx : mFx m S S2 := a1.1.trans b1.1
  have eR : S2.R = S.R := b1.2.1.trans a1.2.1
  have k14 := b2.k
  obtain ⟨c1, c2, c3⟩ := b2.ml.cells
  have bad0 : xIt e q r v u = .inl 0 → ∀ x3 mr sr, c_185_34 (ox_M sp (d + 3)) m (gV γ u) (gV γ v) x3 S2 mr sr Q := fun e0 x3 mr sr => by
    rw [e0] at hQ
    exact f_185_34 hE ⟨by decide, k14, by decide, 0, 0, Nat.zero_le _, Nat.zero_le _, r_raise hsp (k := 0) (i := 2) (by decide) hin (Nat.le_refl _) b2 (fun S' g1 g2 g3 => f_185_39 hE ⟨rfl, hQ S' (fx.trans g1) (g2.trans eR) (rX_k g3)⟩)⟩
  have bad2 : xIt e q r v u = .inl 2 → ∀ x3 x4 x6 mr sr, c_185_105 (ox_M sp (d + 3)) m (gV γ u) (gV γ v) x3 x4 x6 S2 mr sr Q := fun e0 x3 x4 x6 mr sr => by
    rw [e0] at hQ
    exact f_185_105 hE ⟨by decide, k14, by decide, 0, 0, Nat.zero_le _, Nat.zero_le _, r_raise hsp (k := 2) (i := 2) (by decide) hin (Nat.le_refl _) b2 (fun S' g1 g2 g3 => f_185_110 hE (f_185_167 hE ⟨rfl, hQ S' (fx.trans g1) (g2.trans eR) (rX_k g3)⟩))⟩
  have noN : xNum e.H u = none → xIt e q r v u = .inl 0 := fun z => by
    unfold xIt
    rw [z]
    cases xLen e.H v with
    | none => rfl
    | some n => rfl
  have noL : xLen e.H v = none → xIt e q r v u = .inl 0 := fun z => by
    unfold xIt
    rw [z]
  have lt0 : ∀ x : Int64, lg_cmp x 0 < 0 ↔ x.toInt < 0 := fun x => by
    rw [lg_cmp_lt, Int64.lt_iff_toInt_lt]
    exact Iff.rfl
  have ltn : ∀ (x : Int64) (n : Nat), n ≤ 4294967296 → (lg_cmp x (lN n) < 0 ↔ x.toInt < n) := fun x n hn => by
    rw [lg_cmp_lt, Int64.lt_iff_toInt_lt, pf_lI (by omega)]
  have ge0 : ∀ x : Int64, 0 ≤ lg_cmp x 0 ↔ 0 ≤ x.toInt := fun x => by
    rw [lg_cmp_ge, Int64.le_iff_toInt_le]
    exact Iff.rfl
  by_cases v16 : v < 16
  · obtain ⟨-, e0, -⟩ := b2.lo hx okv v16
    have nl : xLen e.H v = none := by unfold xLen; rw [e0]
    rw [if_pos v16]
    exact ⟨fun z => absurd z (by decide), fun _ => ⟨fun _ => bad0 (noL nl) _ _ _, fun z => absurd z (by decide)⟩⟩
  · obtain ⟨o, e1, -⟩ := b2.hi hBv v16
    rw [if_neg v16, xTg_o (by omega) e1]
    match o, e1 with
    | .inl _, e1 =>
      have nl : xLen e.H v = none := by unfold xLen; rw [e1]
      exact ⟨fun z => absurd z (show ¬ Int32.ofInt 3 = 4 by decide), fun _ => ⟨fun _ => bad0 (noL nl) _ _ _, fun z => absurd z (show ¬ Int32.ofInt 3 = 5 by decide)⟩⟩
    | .inr (.inr (.inr (.inl _))), e1 =>
      have nl : xLen e.H v = none := by unfold xLen; rw [e1]
      exact ⟨fun z => absurd z (show ¬ Int32.ofInt 6 = 4 by decide), fun _ => ⟨fun _ => bad0 (noL nl) _ _ _, fun z => absurd z (show ¬ Int32.ofInt 6 = 5 by decide)⟩⟩
    | .inr (.inr (.inr (.inr _))), e1 =>
      have nl : xLen e.H v = none := by unfold xLen; rw [e1]
      exact ⟨fun z => absurd z (show ¬ Int32.ofInt 7 = 4 by decide), fun _ => ⟨fun _ => bad0 (noL nl) _ _ _, fun z => absurd z (show ¬ Int32.ofInt 7 = 5 by decide)⟩⟩
    | .inr (.inl (l, dp)), e1 =>
      have el : xLen e.H v = some l.length := by unfold xLen; rw [e1]
      obtain ⟨t1, t2, t3, t4, t5, t6⟩ := b2.tupc hx hBv e1
      have l12 : l.length ≤ 12 := t6.1
      refine ⟨fun _ => f_185_26 hE ⟨by decide, k14, by decide, 0, 0, Nat.zero_le _, Nat.zero_le _, r_135 hsp b2 hx oku hBu (f_185_31 hE ⟨fun zn => ⟨fun w => absurd (show Int32.ofInt 4 = 4 by decide) w, fun _ => ?_⟩, fun zn => bad0 (noN ?_) _ _ _⟩)⟩, fun z => absurd (show Int32.ofInt 4 = 4 by decide) z⟩
      · cases hN : xNum e.H u with
        | none => rw [if_pos hN] at zn; exact absurd rfl zn
        | some N =>
          have n2 : nI (γ v) + 2 = nI (γ v + 2) := nI_add _ 2
          refine ⟨by rw [k14]; rfl, by rw [c1, c2]; rfl, by rw [c1, c3, t1, n2]; exact vp_in_nI (by omega) (by decide), ?_⟩
          rw [c1, t1, n2, nI_clamp (show γ v + 2 < 2 ^ 31 by omega), t3, nI_l (show l.length < 2 ^ 31 by omega), ← t1]
          refine f_185_62 hE ⟨by decide, k14, by decide, 0, 0, Nat.zero_le _, Nat.zero_le _, r_149 hsp b2 hx hBu hN (f_185_69 hE ?_)⟩
          have main : ∀ (x : Int64) mr sr, (x.toInt = if 0 ≤ (plZ N).toInt then (plZ N).toInt else (plZ N).toInt + l.length) → c_185_88 (ox_M sp (d + 3)) m (gV γ u) (gV γ v) (Int32.ofInt 4) (lN l.length) (plZ N) x S2 mr sr Q := fun x mr sr hy => by
            obtain ⟨p1, p2, p3⟩ := pl_ix (by omega) hy
            have ex : xIt e q r v u = if (if N < 0 then N + (l.length : Int) else N) < 0 ∨ (l.length : Int) ≤ (if N < 0 then N + (l.length : Int) else N) then .inl 2 else xGo e q (l.getD (if N < 0 then N + (l.length : Int) else N).toNat 0 :: r) := by
              unfold xIt xItem
              rw [el, hN, e1]
            refine f_185_88 hE ⟨fun z => bad2 (by rw [ex, if_pos (Or.inl (p1 ((lt0 x).mp z)))]) _ _ _ _ _, fun z => ⟨fun z2 => ⟨fun w => absurd (show Int32.ofInt 4 = 4 by decide) w, fun _ => ?_⟩, fun z2 => bad2 (by rw [ex, if_pos (Or.inr (p2 (fun w => z ((lt0 x).mpr w)) (fun w => z2 ((ltn x _ (by omega)).mpr w))))]) _ _ _ _ _⟩⟩
            have q1 : ¬ x.toInt < 0 := fun w => z ((lt0 x).mpr w)
            have q2 := (ltn x _ (by omega)).mp z2
            have q3 := p3 q1 q2
            rw [if_neg (by omega)] at ex
            rw [← q3] at ex
            have kl : x.toInt.toNat < l.length := by omega
            have e32 : Int64.toInt32 x = nI x.toInt.toNat := l_32 (by omega) (by omega)
            have n3 : nI (γ v) + 3 + nI x.toInt.toNat = nI (γ v + 3 + x.toInt.toNat) := by rw [show (3 : Int32) = nI 3 from rfl, nI_add, nI_add]
            refine ⟨by rw [k14]; rfl, by rw [c1, c2]; rfl, by rw [c1, c3, t1, e32, n3]; exact vp_in_nI (by omega) (by decide), by decide, k14, by decide, 0, 0, Nat.zero_le _, Nat.zero_le _, ?_⟩
            rw [c1, t1, e32, n3, nI_clamp (show γ v + 3 + x.toInt.toNat < 2 ^ 31 by omega), t4 _ kl, ← t1]
            rw [ex] at hQ
            have mem : l.getD x.toInt.toNat 0 ∈ l := by rw [List.getD_eq_getElem?_getD, List.getElem?_eq_getElem kl]; exact List.getElem_mem kl
            exact r_174 hsp b2 hx (by omega) (t5 _ mem) (fun S' g1 g2 => f_185_134 hE (f_185_167 hE ⟨rfl, hQ S' (fx.trans g1.1) (g1.2.1.trans eR) (rX_go g2)⟩))
          refine ⟨fun z => main _ _ _ ?_, fun z => main _ _ _ ?_⟩
          · rw [if_pos ((ge0 _).mp z)]
          · have z' : ¬ 0 ≤ (plZ N).toInt := fun w => z ((ge0 _).mpr w)
            have b := plZ_i N
            have bl : -1000000000000 ≤ (plZ N).toInt := by
              rw [b]
              split
              · omega
              · split
                · decide
                · decide
            rw [if_neg z', l_add (by rw [pf_lI (by omega)]; omega) (by rw [pf_lI (by omega)]; omega), pf_lI (by omega)]
      · by_cases w : xNum e.H u = none
        · exact w
        · rw [if_neg w] at zn; exact absurd zn (by decide)
    | .inr (.inr (.inl p)), e1 =>
      have el : xLen e.H v = some (rgN p.1 p.2.1 p.2.2) := by unfold xLen; rw [e1]
      obtain ⟨t1, t2, t3, t4, t5, t6, t7, -⟩ := b2.rngc hx hBv e1
      have bA := i_bd (S2.rI (m + ce) (γ v + 1))
      have bB := i_bd (S2.rI (m + ce) (γ v + 2))
      rw [t3] at bA
      rw [t4] at bB
      refine ⟨fun z => absurd z (show ¬ Int32.ofInt 5 = 4 by decide), fun _ => ⟨fun z => absurd (show Int32.ofInt 5 = 5 by decide) z, fun _ => f_185_26 hE ⟨by decide, k14, by decide, 0, 0, Nat.zero_le _, Nat.zero_le _, r_135 hsp b2 hx oku hBu (f_185_31 hE ⟨fun zn => ⟨fun _ => ⟨by decide, k14, by decide, 0, 0, Nat.zero_le _, Nat.zero_le _, ?_⟩, fun w => absurd w (show ¬ Int32.ofInt 5 = 4 by decide)⟩, fun zn => bad0 (noN ?_) _ _ _⟩)⟩⟩⟩
      · cases hN : xNum e.H u with
        | none => rw [if_pos hN] at zn; exact absurd rfl zn
        | some N =>
          rw [t1]
          refine s_180 hsp b2.ml t2 t3 t4 t5 t6 ?_
          rw [← t1]
          refine f_185_62 hE ⟨by decide, k14, by decide, 0, 0, Nat.zero_le _, Nat.zero_le _, r_149 hsp b2 hx hBu hN (f_185_69 hE ?_)⟩
          have main : ∀ (x : Int64) mr sr, (x.toInt = if 0 ≤ (plZ N).toInt then (plZ N).toInt else (plZ N).toInt + (rgN p.1 p.2.1 p.2.2 : Nat)) → c_185_88 (ox_M sp (d + 3)) m (gV γ u) (gV γ v) (Int32.ofInt 5) (lN (rgN p.1 p.2.1 p.2.2)) (plZ N) x S2 mr sr Q := fun x mr sr hy => by
            obtain ⟨p1, p2, p3⟩ := pl_ix t7 hy
            have ex : xIt e q r v u = if (if N < 0 then N + ((rgN p.1 p.2.1 p.2.2 : Nat) : Int) else N) < 0 ∨ ((rgN p.1 p.2.1 p.2.2 : Nat) : Int) ≤ (if N < 0 then N + ((rgN p.1 p.2.1 p.2.2 : Nat) : Int) else N) then .inl 2 else xMk e q r (.inl (p.1 + ((if N < 0 then N + ((rgN p.1 p.2.1 p.2.2 : Nat) : Int) else N).toNat : Nat) * p.2.2)) := by
              unfold xIt xItem
              rw [el, hN, e1]
            refine f_185_88 hE ⟨fun z => bad2 (by rw [ex, if_pos (Or.inl (p1 ((lt0 x).mp z)))]) _ _ _ _ _, fun z => ⟨fun z2 => ⟨fun _ => ?_, fun w => absurd w (show ¬ Int32.ofInt 5 = 4 by decide)⟩, fun z2 => bad2 (by rw [ex, if_pos (Or.inr (p2 (fun w => z ((lt0 x).mpr w)) (fun w => z2 ((ltn x _ t7).mpr w))))]) _ _ _ _ _⟩⟩
            have q1 : ¬ x.toInt < 0 := fun w => z ((lt0 x).mpr w)
            have q2 := (ltn x _ t7).mp z2
            have q3 := p3 q1 q2
            rw [if_neg (by omega)] at ex
            rw [← q3] at ex
            have kl : x.toInt.toNat < rgN p.1 p.2.1 p.2.2 := by omega
            have n1 : nI (γ v) + 1 = nI (γ v + 1) := nI_1 _
            have n3 : nI (γ v) + 3 = nI (γ v + 3) := nI_add _ 3
            refine ⟨by rw [k14]; rfl, by rw [c1, c2]; rfl, by rw [c1, c3, t1, n1]; exact vp_in_nI (by omega) (by decide), by rw [k14]; rfl, by rw [c1, c2]; rfl, by rw [c1, c3, t1, n3]; exact vp_in_nI (by omega) (by decide), by decide, k14, by decide, 0, 0, Nat.zero_le _, Nat.zero_le _, ?_⟩
            rw [c1, t1, n1, n3, nI_clamp (show γ v + 1 < 2 ^ 31 by omega), nI_clamp (show γ v + 3 < 2 ^ 31 by omega), ← t1]
            obtain ⟨w1, w2, w3⟩ := rg_it (A := Int32.toInt64 (S2.rI (m + ce) (γ v + 1))) (D := Int32.toInt64 (S2.rI (m + ce) (γ v + 3))) (x := x) (p := p) kl (by rw [Int32.toInt_toInt64]; exact t3) (by rw [Int32.toInt_toInt64]; exact t5) (by omega) bA bB
            rw [ex] at hQ
            refine r_148 hsp b2 hx hT w2 w1 (fun S3 g1 g2 g3 g4 g5 => f_185_164 hE ⟨by decide, g1.k, by decide, 0, 0, Nat.zero_le _, Nat.zero_le _, ?_⟩)
            rw [← g5]
            exact r_give (o := .inl (p.1 + (x.toInt.toNat : Nat) * p.2.2)) (st := u :: v :: r) hsp hx (by omega) w3 g4 g1 (fun S' d1 d2 d3 => f_185_167 hE ⟨rfl, hQ S' (fx.trans (g2.trans d1)) (d2.trans (g3.trans eR)) d3⟩)
          refine ⟨fun z => main _ _ _ ?_, fun z => main _ _ _ ?_⟩
          · rw [if_pos ((ge0 _).mp z)]
          · have z' : ¬ 0 ≤ (plZ N).toInt := fun w => z ((ge0 _).mpr w)
            have b := plZ_i N
            have bl : -1000000000000 ≤ (plZ N).toInt := by
              rw [b]
              split
              · omega
              · split
                · decide
                · decide
            rw [if_neg z', l_add (by rw [pf_lI (by omega)]; omega) (by rw [pf_lI (by omega)]; omega), pf_lI (by omega)]
      · by_cases w : xNum e.H u = none
        · exact w
        · rw [if_neg w] at zn; exact absurd zn (by decide)
end RIt
