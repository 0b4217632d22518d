/-! the reference: result, stack, local, global -/
section RVw
variable {sp : ox_E} {d mr sr : Nat} {S S' : ox_St} {Q : ox_Q} {m ce : Nat} {γ : Int → Nat} {B : List Int} {T : Nat} {C : Nat → xCd} {nc K y : Nat} {s : xSt}
theorem xTell_0 {w : Int32} : xTell [] w = -1 := by
  unfold xTell
  by_cases z : w < 0
  · rw [if_pos z]
  · rw [if_neg z]
    by_cases y : w < 300
    · rw [if_pos y, List.getD_nil]
    · rw [if_neg y]
theorem r_208 (hsp : ox_mono sp) {w : Int32} (h : rR S m ce γ B T C nc y s) (hw : xWf C nc K s) (hQ : ∀ S', w41 m (S.sI 69 m 0) S' → Q (some (.inl (xTell (xRow0 C s.H (xVr s)) w))) S') : ox_M sp (d + 4) 208 [.inr (.inr m), .inl w] mr sr S Q := by
  have hE : ox_mono (ox_M sp (d + 3)) := ox_M_mono hsp _
  have k14 : S.K m = 14 := h.1.1
  have n1 := h.s69 hw.fl (v := 0)
  refine f_208 hsp ⟨by rw [k14]; rfl, ?_⟩
  generalize S.sI 69 m 0 = U at n1 hQ ⊢
  have kU : U.K m = 14 := n1.1.1
  have b2 : U.I 93 m = nI s.s := n1.2.2.2.2.2.1.2.1
  have b5 : U.I 97 m = gV γ s.r := n1.2.2.2.2.2.1.2.2.2.2
  have s3 := hw.2.2.2.2.2.2.1
  unfold xVr at hQ
  refine ⟨by rw [kU]; rfl, fun z => ⟨trivial, ?_⟩, fun z => ⟨by rw [kU]; rfl, by decide, kU, by decide, 0, 0, Nat.zero_le _, Nat.zero_le _, ?_⟩⟩
  · have := hQ U w41.refl
    rw [if_neg (fun y => z (by rw [b2, y]; rfl)), show xRow0 C s.H none = [] from rfl, xTell_0] at this
    exact this
  · have z' : s.s = 2 := (nI_eq (b := 2) (by omega) (by decide)).mp (b2.symm.trans z)
    rw [if_pos z'] at hQ
    rw [b5]
    exact r_206 hsp n1.vals hw.1 hw.2.2.2.2.2.1 n1.2.2.2.2.2.2.2.1 (fun S' hS => f_208_22 hE ⟨trivial, hQ S' hS⟩)
theorem r_209 (hsp : ox_mono sp) {u w : Int32} (h : rR S m ce γ B T C nc y s) (hw : xWf C nc K s) (hQ : ∀ S', w41 m (S.sI 69 m 0) S' → Q (some (.inl (xTell (xRow0 C s.H (xVs s u)) w))) S') : ox_M sp (d + 4) 209 [.inr (.inr m), .inl u, .inl w] mr sr S Q := by
  have hE : ox_mono (ox_M sp (d + 3)) := ox_M_mono hsp _
  have k14 : S.K m = 14 := h.1.1
  have n1 := h.s69 hw.fl (v := 0)
  refine f_209 hsp ⟨by rw [k14]; rfl, ?_⟩
  generalize S.sI 69 m 0 = U at n1 hQ ⊢
  have kU : U.K m = 14 := n1.1.1
  obtain ⟨b1, b2, -⟩ := n1.2.2.2.2.2.1
  have fl := hw.fl
  obtain ⟨w1, w2, -, w4, w5, -, s3, -⟩ := id hw
  have non : ∀ mr sr, xVs s u = none → k_209_46 (ox_M sp (d + 3)) m u w mr sr Q (some (.inl (-1))) U := fun mr sr e => by
    have := hQ U w41.refl
    rw [e, show xRow0 C s.H none = [] from rfl, xTell_0] at this
    exact f_209_46 hE ⟨trivial, this⟩
  refine ⟨by rw [kU]; rfl, fun z => non _ _ ?_, fun z => ?_⟩
  · have f0 : s.f = [] := by
      cases e : s.f with
      | nil => rfl
      | cons g t => exact absurd (by rw [b2, w5.mpr (by rw [e]; exact fun z => by cases z)]; rfl) z
    unfold xVs
    rw [f0]
  · have s1 : s.s = 1 := (nI_eq (b := 1) (by omega) (by decide)).mp (b2.symm.trans z)
    have hne := w5.mp s1
    match hf : s.f, hne with
    | g :: t, _ =>
      have f8 : s.f.length ≤ 8 := w4.1
      rw [hf] at f8 b1
      have f8' : t.length + 1 ≤ 8 := f8
      have b1' : U.I 92 m = nI (t.length + 1) := b1
      have fr := n1.2.2.2.1
      rw [hf] at fr
      obtain ⟨g1, g2, g3, g4, g5, -⟩ := fr.1
      have g10 := (fl g (by rw [hf]; exact List.mem_cons_self)).1
      obtain ⟨B1, B2, B3⟩ := n1.1.row (F := 100) (o := 18) (k := 15) (n := 8) (by decide)
      obtain ⟨A1, A2, A3⟩ := n1.1.row (F := 102) (o := 20) (k := 15) (n := 80) (by decide)
      have ev : xVs s u = if u < 0 then none else g.2.2.1[u.toNatClampNeg]? := by unfold xVs; rw [hf]
      refine ⟨fun y => non _ _ (by rw [ev, if_pos y]), fun y => ?_⟩
      rw [if_neg y] at ev
      rw [b1', nI_pred, B1, B2, B3, nI_clamp (show t.length < 2 ^ 31 by omega), g3]
      have ui : 0 ≤ u.toInt := by
        rw [Int32.lt_iff_toInt_lt] at y
        have : (0 : Int32).toInt = 0 := rfl
        omega
      have ub := i_bd u
      have eu : u = nI u.toInt.toNat := Int32.toInt_inj.mp (by rw [nI_toInt (by omega)]; omega)
      have ec : u.toNatClampNeg = u.toInt.toNat := by
        have : (nI u.toInt.toNat).toNatClampNeg = u.toInt.toNat := nI_clamp (by omega)
        rw [← eu] at this
        exact this
      have lt : u < nI g.2.2.1.length ↔ u.toInt.toNat < g.2.2.1.length := by
        have := nI_ltI (a := u.toInt.toNat) (b := g.2.2.1.length) (by omega) (by omega)
        rw [← eu] at this
        exact this
      refine ⟨by rw [kU]; rfl, by rw [kU]; rfl, rfl, vp_in_nI (by omega) (by decide), fun x => ⟨by decide, kU, by decide, 0, 0, Nat.zero_le _, Nat.zero_le _, ?_⟩, fun x => non _ _ (by rw [ev, ec, List.getElem?_eq_none (Nat.not_lt.mp fun q => x (lt.mpr q))])⟩
      have hl := lt.mp x
      -- peek
      have e10 : (10 : Int32) * nI t.length + nI g.2.2.1.length - 1 - u = nI (10 * t.length + (g.2.2.1.length - 1 - u.toInt.toNat)) := by
        have : (10 : Int32) * nI t.length + nI g.2.2.1.length - 1 - nI u.toInt.toNat = nI (10 * t.length + (g.2.2.1.length - 1 - u.toInt.toNat)) := by
          rw [show (10 : Int32) = nI 10 from rfl, pk_mul, nI_add, show (1 : Int32) = nI 1 from rfl, pk_sub (by omega), pk_sub (by omega)]
          exact congrArg nI (by omega)
        rw [← eu] at this
        exact this
      refine f_176 hsp ?_
      unfold q_176
      rw [b1', nI_pred, B1, B2, B3, A1, A2, A3, kU, nI_clamp (show t.length < 2 ^ 31 by omega), g3, e10, nI_clamp (show 10 * t.length + (g.2.2.1.length - 1 - u.toInt.toNat) < 2 ^ 31 by omega), rStk.at g.2.2.1 u.toInt.toNat hl g5]
      refine ⟨rfl, rfl, rfl, rfl, rfl, vp_in_nI (by omega) (by decide), rfl, vp_in_nI (by omega) (by decide), trivial, f_209_42 hE ⟨by decide, kU, by decide, 0, 0, Nat.zero_le _, Nat.zero_le _, ?_⟩⟩
      have mem : g.2.2.1.getD u.toInt.toNat 0 ∈ g.2.2.1 := by rw [List.getD_eq_getElem?_getD, List.getElem?_eq_getElem hl]; exact List.getElem_mem hl
      have okv : xOk nc s.H (g.2.2.1.getD u.toInt.toNat 0) := by
        have w42 := w4.2
        rw [hf] at w42
        exact w42.1.2.2.2.1 _ mem
      have hB : xIn B (g.2.2.1.getD u.toInt.toNat 0) := (n1.2.2.2.2.2.2.2.2 g (by rw [hf]; exact List.mem_cons_self)).1 _ mem
      have ev2 : xVs s u = some (g.2.2.1.getD u.toInt.toNat 0) := by rw [ev, ec, List.getD_eq_getElem?_getD, List.getElem?_eq_getElem hl]; rfl
      rw [ev2] at hQ
      exact r_206 hsp n1.vals w1 okv hB (fun S' hS => f_209_46 hE ⟨trivial, hQ S' hS⟩)
theorem r_210 (hsp : ox_mono sp) {u w : Int32} (h : rR S m ce γ B T C nc y s) (hw : xWf C nc K s) (hQ : ∀ S', w41 m (S.sI 69 m 0) S' → Q (some (.inl (xTell (xRow0 C s.H (xVl s u)) w))) S') : ox_M sp (d + 4) 210 [.inr (.inr m), .inl u, .inl w] mr sr S Q := by
  have hE : ox_mono (ox_M sp (d + 3)) := ox_M_mono hsp _
  have k14 : S.K m = 14 := h.1.1
  have n1 := h.s69 hw.fl (v := 0)
  refine f_210 hsp ⟨by rw [k14]; rfl, ?_⟩
  generalize S.sI 69 m 0 = U at n1 hQ ⊢
  have kU : U.K m = 14 := n1.1.1
  obtain ⟨b1, b2, -⟩ := n1.2.2.2.2.2.1
  obtain ⟨w1, w2, -, w4, w5, -, s3, -⟩ := id hw
  have nc3 : nc ≤ 300 := n1.2.2.1.1
  have non : xVl s u = none → Q (some (.inl (-1))) U := fun e => by
    have := hQ U w41.refl
    rw [e, show xRow0 C s.H none = [] from rfl, xTell_0] at this
    exact this
  refine ⟨by rw [kU]; rfl, fun z => ⟨trivial, non ?_⟩, fun z => ?_⟩
  · have f0 : s.f = [] := by
      cases e : s.f with
      | nil => rfl
      | cons g t => exact absurd (by rw [b2, w5.mpr (by rw [e]; exact fun z => by cases z)]; rfl) z
    unfold xVl
    rw [f0]
  · have s1 : s.s = 1 := (nI_eq (b := 1) (by omega) (by decide)).mp (b2.symm.trans z)
    have hne := w5.mp s1
    match hf : s.f, hne with
    | g :: t, _ =>
      have f8 : s.f.length ≤ 8 := w4.1
      rw [hf] at f8 b1
      have f8' : t.length + 1 ≤ 8 := f8
      have b1' : U.I 92 m = nI (t.length + 1) := b1
      have fr := n1.2.2.2.1
      rw [hf] at fr
      obtain ⟨g1, g2, g3, g4, g5, g6, -⟩ := fr.1
      have w42 := w4.2
      rw [hf] at w42
      obtain ⟨hc, -, -, -, hloc⟩ := w42.1
      obtain ⟨cg, ck, cw, sh, -⟩ := n1.2.2.1.2 g.1 hc
      have lc : U.rI (m + 5) g.1 = nI (cdL (C g.1).1) := sh.1.2.1
      have l8 : cdL (C g.1).1 ≤ 8 := (w2 g.1 hc).1.2.2.1
      obtain ⟨B1, B2, B3⟩ := n1.1.row (F := 98) (o := 16) (k := 15) (n := 8) (by decide)
      obtain ⟨C1, C2, C3⟩ := n1.1.row (F := 78) (o := 5) (k := 15) (n := 300) (by decide)
      obtain ⟨A1, A2, A3⟩ := n1.1.row (F := 103) (o := 21) (k := 15) (n := 64) (by decide)
      have ev : xVl s u = if u < 0 then none else if u < 8 then g.2.2.2.1 u.toNatClampNeg else none := by unfold xVl; rw [hf]
      refine ⟨fun y => ⟨trivial, non (by rw [ev, if_pos y])⟩, fun y => ?_⟩
      rw [if_neg y] at ev
      have ui : 0 ≤ u.toInt := by
        rw [Int32.lt_iff_toInt_lt] at y
        have : (0 : Int32).toInt = 0 := rfl
        omega
      have ub := i_bd u
      have eu : u = nI u.toInt.toNat := Int32.toInt_inj.mp (by rw [nI_toInt (by omega)]; omega)
      have ec : u.toNatClampNeg = u.toInt.toNat := by
        have : (nI u.toInt.toNat).toNatClampNeg = u.toInt.toNat := nI_clamp (by omega)
        rw [← eu] at this
        exact this
      have lt : ∀ b : Nat, b < 2 ^ 31 → (u < nI b ↔ u.toInt.toNat < b) := fun b hb => by
        have := nI_ltI (a := u.toInt.toNat) (b := b) (by omega) hb
        rw [← eu] at this
        exact this
      rw [b1', nI_pred, B1, B2, B3, C1, C2, C3, nI_clamp (show t.length < 2 ^ 31 by omega), g1, nI_clamp (show g.1 < 2 ^ 31 by omega), lc]
      have far : ¬ u.toInt.toNat < cdL (C g.1).1 → xVl s u = none := fun x => by
        rw [ev]
        by_cases q8 : u < 8
        · rw [if_pos q8, ec]
          cases e : g.2.2.2.1 u.toInt.toNat with
          | none => rfl
          | some v => exact absurd (hloc _ v e).1 x
        · rw [if_neg q8]
      refine ⟨by rw [kU]; rfl, by rw [kU]; rfl, by rw [kU]; rfl, rfl, vp_in_nI (by omega) (by decide), rfl, vp_in_nI (by omega) (by decide), fun x => ?_, fun x => ⟨trivial, non (far (fun q => x ((lt _ (by omega)).mpr q)))⟩⟩
      have hl := (lt _ (by omega)).mp x
      have q8 : u < 8 := (lt 8 (by decide)).mpr (by omega)
      rw [if_pos q8, ec] at ev
      have e8 : (8 : Int32) * nI t.length + u = nI (8 * t.length + u.toInt.toNat) := by
        have : (8 : Int32) * nI t.length + nI u.toInt.toNat = nI (8 * t.length + u.toInt.toNat) := by rw [show (8 : Int32) = nI 8 from rfl, pk_mul, nI_add]
        rw [← eu] at this
        exact this
      have lo := g6 u.toInt.toNat (by omega)
      have lo' : (match g.2.2.2.1 u.toInt.toNat with
        | none => U.rI (m + 21) (8 * t.length + u.toInt.toNat) = -1000000
        | some v => U.rI (m + 21) (8 * t.length + u.toInt.toNat) = gV γ v) := lo
      rw [e8, A1, A2, A3, nI_clamp (show 8 * t.length + u.toInt.toNat < 2 ^ 31 by omega)]
      refine ⟨by rw [kU]; rfl, by rw [kU]; rfl, rfl, vp_in_nI (by omega) (by decide), ?_⟩
      cases el : g.2.2.2.1 u.toInt.toNat with
      | none =>
        rw [el] at lo' ev
        dsimp only at lo'
        rw [lo']
        exact ⟨fun q => absurd rfl q, fun _ => f_210_72 hE ⟨trivial, non ev⟩⟩
      | some v =>
        rw [el] at lo' ev
        dsimp only at lo'
        rw [lo']
        have okv : xOk nc s.H v := (hloc _ v el).2
        have hB : xIn B v := (n1.2.2.2.2.2.2.2.2 g (by rw [hf]; exact List.mem_cons_self)).2 _ v el
        have ne : ¬ gV γ v = -1000000 := fun q => by
          by_cases v16 : v < 16
          · obtain ⟨lo, -, -, eg, -⟩ := n1.vals.lo w1 okv v16
            rw [eg] at q
            have := congrArg Int32.toInt q
            rw [Int32.toInt_ofInt_of_le (by omega) (by omega), show (-1000000 : Int32).toInt = -1000000 from by decide] at this
            omega
          · obtain ⟨o, e1, r1, r2, eg⟩ := n1.vals.hi hB v16
            have sz := xSz_2 o
            rw [eg] at q
            have := congrArg Int32.toInt q
            rw [nI_toInt (by omega), show (-1000000 : Int32).toInt = -1000000 from by decide] at this
            omega
        rw [ev] at hQ
        exact ⟨fun _ => ⟨by decide, kU, by decide, 0, 0, Nat.zero_le _, Nat.zero_le _, r_206 hsp n1.vals w1 okv hB (fun S' hS => f_210_72 hE ⟨trivial, hQ S' hS⟩)⟩, fun q => absurd q ne⟩
end RVw
