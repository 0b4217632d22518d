/-! the class's instructions: numbers -/
theorem sgI_nv {w : Nat → Nat} {c : Nat} {r : Int32} (hd : dc w c) (hr : r = 0 ∨ r = 1) (h0 : c = 0 → r = 0) : sgI (nv w c r) = r ∧ (nv w c r).natAbs = dv w c := by
  rcases hr with y | y
  · have hA : nv w c r = (dv w c : Int) := by unfold nv; rw [if_pos y]
    rw [hA]
    unfold sgI
    rw [if_neg (by omega), y]
    exact ⟨rfl, by omega⟩
  · have c0 : c ≠ 0 := fun z => by rw [h0 z] at y; exact absurd y (by decide)
    have := dc_pos hd c0
    have hA : nv w c r = -(dv w c : Int) := by unfold nv; rw [if_neg (by rw [y]; decide)]
    rw [hA]
    unfold sgI
    rw [if_pos (by omega), y]
    exact ⟨rfl, by omega⟩
theorem nv_lt {w : Nat → Nat} {c : Nat} {r : Int32} (hd : dc w c) (hc : c ≤ 16) : (nv w c r).natAbs < 32768 ^ 16 := by
  have h1 := dv_lt c hd.1
  have h2 : 32768 ^ c ≤ 32768 ^ 16 := Nat.pow_le_pow_right (by decide) hc
  unfold nv
  by_cases z : r = 0
  · rw [if_pos z]
    rw [Int.natAbs_natCast]
    exact Nat.lt_of_lt_of_le h1 h2
  · rw [if_neg z, Int.natAbs_neg, Int.natAbs_natCast]
    exact Nat.lt_of_lt_of_le h1 h2
section C57
variable {d mr sr : Nat} {S S' : ox_St} {Q : ox_Q} {x : Nat} {α : Int → Nat} {C : Nat → xCd} {nc K : Nat} {e : xEn} {q : Nat} {st r : List Int} {v u : Int} {a : Nat}
/-- a number of digits that are there -/
theorem num_new {W : Nat → Prop} {b t : Nat} {w : Nat → Nat} {c : Nat} {p neg : Int32} (hb : oNm S b t w c p) (ht : t < S.n) (hn : neg = 0 ∨ neg = 1) (h0 : c = 0 → neg = 0) : oNm (oMkNum (S.newO 8) S.n neg t) S.n t w c neg ∧ (oMkNum (S.newO 8) S.n neg t).I 6 S.n = 3 ∧ cI x W S (oMkNum (S.newO 8) S.n neg t) ∧ (oMkNum (S.newO 8) S.n neg t).n = S.n + 1 := by
  obtain ⟨h1, h2, ⟨h3, h4, h5, h6⟩, h7, h8, h9⟩ := hb
  have hI : cI x W S (oMkNum (S.newO 8) S.n neg t) := ((((cI.refl.newO).sI (Or.inl (Nat.le_refl _))).sI (Or.inl (Nat.le_refl _))).sI (Or.inl (Nat.le_refl _))).sR (Or.inl (Nat.le_refl _))
  have eK : (oMkNum (S.newO 8) S.n neg t).K = (S.newO 8).K := by unfold oMkNum oV0; rw [or_sR_K, or_sI_K, or_sI_K, or_sI_K]
  have el : (oMkNum (S.newO 8) S.n neg t).len = S.len := by unfold oMkNum oV0; rw [or_sR_len, or_sI_len, or_sI_len, or_sI_len, or_newO_len]
  have er : (oMkNum (S.newO 8) S.n neg t).rI = S.rI := by unfold oMkNum oV0; rw [or_sR_rI, or_sI_rI, or_sI_rI, or_sI_rI, or_newO_rI]
  have en : (oMkNum (S.newO 8) S.n neg t).n = S.n + 1 := by unfold oMkNum oV0; rw [or_sR_n, or_sI_n, or_sI_n, or_sI_n, or_newO_n]
  have e52 : (oMkNum (S.newO 8) S.n neg t).R 52 S.n = t := by unfold oMkNum; rw [or_sR_R, if_pos ⟨rfl, rfl⟩]
  have e51 : (oMkNum (S.newO 8) S.n neg t).I 51 S.n = neg := by unfold oMkNum; rw [or_sR_I, or_sI_I, if_pos ⟨rfl, rfl⟩]
  have e6 : (oMkNum (S.newO 8) S.n neg t).I 6 S.n = 3 := by
    unfold oMkNum oV0
    rw [or_sR_I, or_sI_I, if_neg (fun z => by cases z.1), or_sI_I, if_neg (fun z => by cases z.1), or_sI_I, if_pos ⟨rfl, rfl⟩]
  generalize oMkNum (S.newO 8) S.n neg t = U at hI eK el er en e52 e51 e6 ⊢
  refine ⟨⟨by rw [eK, or_newO_K, if_pos rfl], e52, ⟨by rw [eK, or_newO_K, if_neg (by omega)]; exact h3, by rw [el]; exact h4, h5, fun i hi => by rw [er]; exact h6 i hi⟩, h7, e51, hn, h0⟩, e6, hI, en⟩
/-- NEG -/
theorem c_57 (h : cE S x α C nc e q (v :: r)) (hx : xEs1 C nc K e (v :: r)) (hm : 2 ≤ mr) (hs : 20 ≤ sr) (hQ : ∀ S' α' y, cN x S S' → cX S' x α' C nc e q (v :: r) (match xNum e.H v with
    | some N => xMk e q r (.inl (-N))
    | none => .inl 0) y → Q (some (.inl y)) S') : ox_M lw_sp (d + 3) 57 [.inr (.inr (x + 11)), .inr (.inr (x + 28 + 5 * e.t.length))] mr sr S Q := by
  have hsp := lw_sp_mono
  have hE : ox_mono (ox_M lw_sp (d + 2)) := ox_M_mono hsp _
  have k := (h.oF hx).1
  have hn := h.n
  refine f_57 hsp ⟨by decide, k, by decide, 0, 0, Nat.zero_le _, Nat.zero_le _, c_top hsp h hx (fun hv => f_57_6 hE ⟨by decide, h.k7, by decide, 0, 0, Nat.zero_le _, Nat.zero_le _, c_num hsp h.1 h.hp hx.1.1 hv hx.head (fun e0 => f_57_9 hE ⟨fun z => absurd rfl z, fun _ => ⟨trivial, ?_⟩⟩) (fun N b t w c p e1 b0 bn bz bN nN tR => f_57_9 hE ?_)⟩)⟩
  · refine hQ S α 0 cN.refl ?_
    rw [e0]
    exact ⟨rfl, h⟩
  · rw [e1] at hQ
    have k8 : S.K b = 8 := bN.1
    have h52 : S.R 52 b = t := bN.2.1
    have hN : N.natAbs < 32768 ^ 16 := xNum_lt hx.1.1 e1
    have fin : ∀ neg : Int32, (neg = 0 ∨ neg = 1) → (c = 0 → neg = 0) → nv w c neg = -N → ox_has ((S.newO 8).K b) 52 = true ∧ (3 ≤ 6 ∧ S.n ≠ 0 ∧ 3 ≤ 8 ∧ ∃ mc2 mk3, mc2 ≤ mr - 0 - 0 - 1 ∧ mk3 ≤ sr - 0 - 0 - 4 ∧ ox_M lw_sp (d + 2) 78 [.inr (.inr S.n), .inl neg, .inr (.inr ((S.newO 8).R 52 b))] mc2 mk3 (S.newO 8) (k_57_51 (ox_M lw_sp (d + 2)) (x + 11) (x + 28 + 5 * e.t.length) b neg S.n 1 (x + 28 + 5 * e.t.length) (mr - 0 - 0 - 1 - mc2) (sr - 0 - 0 - 4 - mk3) Q)) := by
      intro neg n1 n2 n3
      obtain ⟨u1, u2, u3, u4⟩ := num_new (x := x) (W := cW0 x) bN tR.1 n1 n2
      have er : (S.newO 8).R 52 b = t := by
        show (if b = S.n then 0 else S.R 52 b) = t
        rw [if_neg (by omega)]; exact h52
      refine ⟨by rw [or_newO_K, if_neg (by omega), k8]; rfl, by decide, by omega, by decide, 0, 0, Nat.zero_le _, Nat.zero_le _, ?_⟩
      rw [er]
      refine s_78 hsp (by omega) (by rw [or_newO_K, if_pos rfl]) n1 (f_57_51 hE ⟨by decide, by decide, 0, 0, Nat.zero_le _, Nat.zero_le _, ?_⟩)
      have hoI : xObOk nc K e.H (.inl (-N)) := by show (-N).natAbs < _; rw [Int.natAbs_neg]; exact hN
      refine c_new hsp h hx u3 (i := 1) (o := .inl (-N)) (by simp) (by have := hx.2.2.1; simp only [List.length_cons] at this ⊢; omega) (Nat.le_refl _) ⟨by rw [show upA α e.n S.n e.n = S.n from if_pos rfl]; omega, by rw [show upA α e.n S.n e.n = S.n from if_pos rfl, u4]; omega, ?_⟩ hoI (by rw [u1.1]; rfl) (fun S' g1 g2 => f_57_54 hE ⟨trivial, hQ S' _ (-1) g1 g2⟩)
      rw [show upA α e.n S.n e.n = S.n from if_pos rfl]
      exact ⟨t, w, c, neg, u1, n3, u2, by rw [u4]; exact tR.mono (Nat.le_succ _)⟩
    obtain ⟨b1, b2, ⟨b3, b4, b5, b6⟩, b7, b8, b9, b10⟩ := bN
    have rr : p = 0 ∨ p = 1 := b9
    have hz : dv w 0 = 0 := rfl
    refine ⟨fun _ => ⟨by rw [k8]; rfl, fun z => ⟨by omega, by omega, fin 0 (Or.inl rfl) (fun _ => rfl) ?_⟩, fun z => ⟨by rw [k8]; rfl, by rw [h52, b3]; rfl, fun y => ⟨by omega, by omega, fin 0 (Or.inl rfl) (fun _ => rfl) ?_⟩, fun y => ⟨by omega, by omega, fin 1 (Or.inr rfl) (fun c0 => ?_) ?_⟩⟩⟩, fun z => absurd z b0⟩
    · rw [b8] at z
      rw [← nN]
      unfold nv
      rw [if_pos rfl, if_neg z]
      omega
    · rw [b8] at z
      rw [h52, b4] at y
      have c0 : c = 0 := Nat.eq_zero_of_not_pos (fun w => nI_nle w (by omega) y)
      rw [← nN, z, c0]
      unfold nv
      rw [if_pos rfl, hz]
      rfl
    · rw [h52, b4, c0] at y
      exact absurd (by decide) y
    · rw [b8] at z
      rw [← nN, z]
      unfold nv
      rw [if_pos rfl, if_neg (by decide)]
/-- a calculated number is pushed -/
theorem c_58_g (h : cE S x α C nc e q (u :: v :: r)) (hx : xEs1 C nc K e (u :: v :: r)) {N : Int} {W32 : Int32} {b1 b2 : Nat} {wd : Nat → Nat} {c : Nat} {p : Int32} (hI : cI x (cW0 x) S S') (hnn : S'.n = S.n + 2) (hN : oNm S' S.n (S.n + 1) wd c p ∧ S'.I 6 S.n = 3) (nN : nv wd c p = N) (hQ : ∀ S2 α' y, cN x S S2 → cX S2 x α' C nc e q (u :: v :: r) (xGive e q r N) y → Q (some (.inl y)) S2) : c_58_220 (ox_M lw_sp (d + 2)) (x + 11) (x + 28 + 5 * e.t.length) W32 b1 b2 S.n S' mr sr Q := by
  have hsp := lw_sp_mono
  have hE : ox_mono (ox_M lw_sp (d + 2)) := ox_M_mono hsp _
  have hn := h.n
  have hlt : N.natAbs < 32768 ^ 16 := by rw [← nN]; exact nv_lt hN.1.2.2.2.1 hN.1.2.2.1.2.2.1
  have hg : xGive e q r N = xMk e q r (.inl N) := by unfold xGive; rw [if_pos hlt]
  rw [hg] at hQ
  refine f_58_220 hE ⟨fun _ => ⟨by decide, by decide, 0, 0, Nat.zero_le _, Nat.zero_le _, ?_⟩, fun z => absurd z (by omega)⟩
  refine c_new hsp h hx hI (i := 2) (o := .inl N) (by simp) (by have := hx.2.2.1; simp only [List.length_cons] at this ⊢; omega) (Nat.le_refl _) ⟨by rw [show upA α e.n S.n e.n = S.n from if_pos rfl]; omega, by rw [show upA α e.n S.n e.n = S.n from if_pos rfl, hnn]; omega, ?_⟩ hlt (by rw [hN.1.1]; rfl) (fun S2 g1 g2 => f_58_237 hE ⟨trivial, hQ S2 _ (-1) g1 g2⟩)
  rw [show upA α e.n S.n e.n = S.n from if_pos rfl]
  exact ⟨S.n + 1, wd, c, p, hN.1, nN, hN.2, by rw [hnn]; exact ⟨by omega, Or.inr (Or.inr (by omega))⟩⟩
/-- none was to be had -/
theorem c_58_0 (h : cE S x α C nc e q (u :: v :: r)) (hx : xEs1 C nc K e (u :: v :: r)) {N : Int} {W32 : Int32} {b1 b2 : Nat} (hI : cI x (cW0 x) S S') (hN : 32768 ^ 16 ≤ N.natAbs) (hQ : ∀ S2 α' y, cN x S S2 → cX S2 x α' C nc e q (u :: v :: r) (xGive e q r N) y → Q (some (.inl y)) S2) : c_58_220 (ox_M lw_sp (d + 2)) (x + 11) (x + 28 + 5 * e.t.length) W32 b1 b2 0 S' mr sr Q := by
  have hE : ox_mono (ox_M lw_sp (d + 2)) := ox_M_mono lw_sp_mono _
  have hg : xGive e q r N = .inl 6 := by unfold xGive; rw [if_neg (by omega)]
  rw [hg] at hQ
  exact f_58_220 hE ⟨fun z => absurd rfl z, fun _ => f_58_237 hE ⟨trivial, hQ S' α 6 ((hI.mono (W' := cWf x e.t.length) cW0_f).cN h.n hx.t7) ⟨rfl, h.same hx hI⟩⟩⟩
theorem oKq_I {S T : ox_St} (hk : oKl S T) (ha : oAg (oKq S.n (x + 23)) S T) : cI x (cW0 x) S T := cI.refl.cal (fun a h1 h2 => ⟨h1, h2⟩) hk (ha.sub (fun a z => ⟨z.1, z.2⟩))
theorem oKp_I {S T : ox_St} (hk : oKl S T) (ha : oAg (oKp S.n (x + 23 + 1)) S T) : cI x (cW0 x) S T := cI.refl.cal (fun a h1 h2 => ⟨h1, h2⟩) hk (ha.sub (fun a z => ⟨z.1, by omega⟩))
theorem tRw.c {k t : Nat} (h : tRw x k t) : t < x + 23 + 1 ∨ x + 23 + 3 < t := by have := h.2; omega
/-- MUL, MOD, ADD, SUB, DIV of numbers -/
theorem c_58_n {w : Nat} (hw : w = 20 ∨ w = 22 ∨ w = 23 ∨ w = 24 ∨ w = 26) (h : cE S x α C nc e q (u :: v :: r)) (hx : xEs1 C nc K e (u :: v :: r)) (hm : 2 ≤ mr) (hs : 20 ≤ sr) (hQ : ∀ S' α' y, cN x S S' → cX S' x α' C nc e q (u :: v :: r) (xAri e q w r v u) y → Q (some (.inl y)) S') : c_58_63 (ox_M lw_sp (d + 7)) (x + 11) (x + 28 + 5 * e.t.length) (nI w) S mr sr Q := by
  have hsp := lw_sp_mono
  have hE : ox_mono (ox_M lw_sp (d + 7)) := ox_M_mono hsp _
  have k := (h.oF hx).1
  have hn := h.n
  have hH := hx.1.1
  have cal := h.1.1.cal
  have r50 : S.R 50 (x + 11) = x + 23 := h.1.1.ref (by decide)
  have k23 : S.K (x + 23) = 2 := h.1.1.obj (by decide)
  have bad : ∀ {b1 b2 : Nat} {m1 s1 : Nat}, (xNum e.H v = none ∨ xNum e.H u = none) → c_58_93 (ox_M lw_sp (d + 7)) (x + 11) (x + 28 + 5 * e.t.length) (nI w) b1 b2 S m1 s1 Q := fun hz => f_58_93 hE ⟨trivial, hQ S α 0 cN.refl (by
    have : xAri e q w r v u = .inl 0 := by
      unfold xAri
      rcases hz with z | z
      · rw [z]
      · rw [z]
        cases xNum e.H v <;> rfl
    rw [this]
    exact ⟨rfl, h⟩)⟩
  refine f_58_63 hE ⟨by decide, k, by decide, 0, 0, Nat.zero_le _, Nat.zero_le _, c_sec hsp h hx (fun hv => f_58_69 hE ⟨by decide, h.k7, by decide, 0, 0, Nat.zero_le _, Nat.zero_le _, c_num hsp h.1 h.hp hH hv hx.tail.head (fun e0 => f_58_72 hE ⟨by decide, k, by decide, 0, 0, Nat.zero_le _, Nat.zero_le _, c_top hsp h hx (fun hu => f_58_79 hE ⟨by decide, h.k7, by decide, 0, 0, Nat.zero_le _, Nat.zero_le _, c_num hsp h.1 h.hp hH hu hx.head (fun _ => f_58_82 hE ⟨fun _ => bad (Or.inl e0), fun z => absurd rfl z⟩) (fun _ _ _ _ _ _ _ _ _ _ _ _ _ => f_58_82 hE ⟨fun _ => bad (Or.inl e0), fun z => absurd rfl z⟩)⟩)⟩) (fun A ba ta f n p e1 a0 an az aN nA tA => f_58_72 hE ⟨by decide, k, by decide, 0, 0, Nat.zero_le _, Nat.zero_le _, c_top hsp h hx (fun hu => f_58_79 hE ⟨by decide, h.k7, by decide, 0, 0, Nat.zero_le _, Nat.zero_le _, c_num hsp h.1 h.hp hH hu hx.head (fun e0 => f_58_82 hE ⟨fun z => absurd z a0, fun _ => ⟨fun z => absurd rfl z, fun _ => bad (Or.inr e0)⟩⟩) (fun B bb tb g kk p2 e2 b0 bn bz bN nB tB => ?_)⟩)⟩)⟩)⟩
  have hAr : xAri e q w r v u = xAr e q w r A B := by unfold xAri; rw [e1, e2]
  rw [hAr] at hQ
  obtain ⟨s1, s2⟩ := sgI_nv aN.2.2.2.1 aN.2.2.2.2.2.1 aN.2.2.2.2.2.2
  obtain ⟨s3, s4⟩ := sgI_nv bN.2.2.2.1 bN.2.2.2.2.2.1 bN.2.2.2.2.2.2
  rw [nA] at s1 s2
  rw [nB] at s3 s4
  have hzB := nv_0 (r := p2) bN.2.2.2.1 bN.2.2.2.2.2.1
  rw [nB] at hzB
  have hA : A = if p = 0 then (dv f n : Int) else -(dv f n : Int) := nA.symm
  have hB : B = if p2 = 0 then (dv g kk : Int) else -(dv g kk : Int) := nB.symm
  have pp : p = 0 ∨ p = 1 := aN.2.2.2.2.2.1
  have pq : p2 = 0 ∨ p2 = 1 := bN.2.2.2.2.2.1
  have tIw : (nI w).toInt = w := nI_toInt (by omega)
  have go : c_58_118 (ox_M lw_sp (d + 7)) (x + 11) (x + 28 + 5 * e.t.length) (nI w) ba bb S (mr - 0 - 0 - 0 - 0) (sr - 0 - 0 - 0 - 0) Q ∨ (B = 0 ∧ (w = 22 ∨ w = 26)) := by
    by_cases zB : B = 0 ∧ (w = 22 ∨ w = 26)
    · exact Or.inr zB
    · refine Or.inl (f_58_118 hE ⟨fun z => ⟨by rw [h.k7]; rfl, by decide, by rw [r50]; exact k23, by decide, 2, 20, by omega, by omega, ?_⟩, fun z1 => ⟨fun z => ⟨by rw [h.k7]; rfl, by decide, by rw [r50]; exact k23, by decide, 2, 20, by omega, by omega, ?_⟩, fun z2 => ⟨fun z => ⟨by rw [h.k7]; rfl, by decide, by rw [r50]; exact k23, by decide, 2, 20, by omega, by omega, ?_⟩, fun z3 => ⟨by rw [h.k7]; rfl, fun z => ?_, fun z => ?_⟩⟩⟩⟩)
      · have w20 : w = 20 := by rw [tIw] at z; omega
        subst w20
        have hm' : ∀ N, xAr e q 20 r A B = xGive e q r N ↔ xGive e q r (A * B) = xGive e q r N := fun N => Iff.rfl
        have vAB : (if p = p2 then ((dv f n * dv g kk : Nat) : Int) else -((dv f n * dv g kk : Nat) : Int)) = A * B := by
          rw [hA, hB, Int.natCast_mul]
          rcases pp with y1 | y1 <;> rcases pq with y2 | y2 <;> rw [y1, y2]
          · rw [if_pos rfl, if_pos rfl, if_pos rfl]
          · rw [if_neg (by decide), if_pos rfl, if_neg (by decide), Int.mul_neg]
          · rw [if_neg (by decide), if_neg (by decide), if_pos rfl, Int.neg_mul]
          · rw [if_pos rfl, if_neg (by decide), if_neg (by decide), Int.neg_mul_neg]
        rw [r50]
        refine lw_kept (s_6 (d := d + 1) cal aN bN tA.c tB.c (by omega) (by decide) (by decide) (fun S' wd c p' g1 g2 g3 g4 kl => f_58_162 hE ?_) (fun S' g1 g2 kl => f_58_162 hE ?_))
        · exact c_58_g h hx (oKq_I kl g2) g1 g3 (g4.trans vAB) hQ
        · refine c_58_0 (N := A * B) h hx (oKq_I kl ?_) (by rw [Int.natAbs_mul, s2, s4]; exact g2) hQ
          obtain ⟨c1, c2, c3, c4, c5, c6, c7, c8, c9⟩ := g1
          exact fun a ha => ⟨by rw [c1], by rw [c2], fun _ => by rw [c4], fun _ => by rw [c5], fun _ => by rw [c6], fun _ => by rw [c9 a ha.2], fun _ => by rw [c7], fun _ => by rw [c8]⟩
      · have w22 : w = 22 := by rw [tIw] at z; omega
        subst w22
        have B0 : B ≠ 0 := fun y => zB ⟨y, Or.inl rfl⟩
        have hr : xAr e q 22 r A B = xGive e q r (qZ 1 p p2 (dv f n) (dv g kk)) := by
          unfold xAr
          rw [if_neg (by decide), if_neg (by decide), if_neg (by decide), if_neg B0, if_pos rfl, s1, s2, s3, s4]
        rw [hr] at hQ
        rw [r50]
        exact lw_kept (s_8 (d := d + 1) cal aN bN (fun y => B0 (hzB.mpr y)) tA.c tB.c (by omega) (by decide) (by decide) (fun S' wd c p' g1 g2 g3 g4 kl => f_58_192 hE (c_58_g h hx (oKq_I kl g2) g1 g3 g4 hQ)))
      · have w26 : w = 26 := by rw [tIw] at z; omega
        subst w26
        have B0 : B ≠ 0 := fun y => zB ⟨y, Or.inr rfl⟩
        have hr : xAr e q 26 r A B = xGive e q r (qZ 0 p p2 (dv f n) (dv g kk)) := by
          unfold xAr
          rw [if_neg (by decide), if_neg (by decide), if_neg (by decide), if_neg B0, if_neg (by decide), s1, s2, s3, s4]
        rw [hr] at hQ
        rw [r50]
        exact lw_kept (s_7 (d := d + 1) cal aN bN (fun y => B0 (hzB.mpr y)) tA.c tB.c (by omega) (by decide) (by decide) (fun S' wd c p' g1 g2 g3 g4 kl => f_58_177 hE (c_58_g h hx (oKq_I kl g2) g1 g3 g4 hQ)))
      · have w23 : w = 23 := by
          rw [tIw] at z1 z2 z3
          have : w ≠ 24 := fun y => z (by rw [y]; rfl)
          omega
        subst w23
        rw [r50]
        refine f_58_215 hE ⟨by decide, k23, by decide, 2, 20, by omega, by omega, ?_⟩
        have vAB : nv f n p + (if p2 = 0 then (dv g kk : Int) else -(dv g kk : Int)) = A + B := by rw [nA, hB]
        refine lw_kept (s_3 (d := d) (mn := 0) cal aN bN (by have := tA.c; omega) (by have := tB.c; omega) (by omega) (by decide) (by decide) (Or.inl rfl) (fun S' wd c p' g1 g2 g3 g4 kl => f_58_218 hE ?_) (fun S' g1 g2 g3 kl => f_58_218 hE ?_))
        · exact c_58_g h hx (oKp_I kl g2) g1 g3 (g4.trans vAB) hQ
        · rw [vAB] at g3
          exact c_58_0 (N := A + B) h hx (oKp_I kl g2) g3 hQ
      · have w24 : w = 24 := by
          have := congrArg Int32.toInt z
          rw [tIw] at this
          have e24 : (24 : Int32).toInt = 24 := rfl
          omega
        subst w24
        rw [r50]
        refine f_58_215 hE ⟨by decide, k23, by decide, 2, 20, by omega, by omega, ?_⟩
        have vAB : nv f n p + (if p2 = 1 then (dv g kk : Int) else -(dv g kk : Int)) = A - B := by
          rw [nA, hB]
          rcases pq with y | y <;> rw [y]
          · rw [if_neg (by decide), if_pos rfl]; omega
          · rw [if_pos rfl, if_neg (by decide)]; omega
        refine lw_kept (s_3 (d := d) (mn := 1) cal aN bN (by have := tA.c; omega) (by have := tB.c; omega) (by omega) (by decide) (by decide) (Or.inr rfl) (fun S' wd c p' g1 g2 g3 g4 kl => f_58_218 hE ?_) (fun S' g1 g2 g3 kl => f_58_218 hE ?_))
        · exact c_58_g h hx (oKp_I kl g2) g1 g3 (g4.trans vAB) hQ
        · rw [vAB] at g3
          exact c_58_0 (N := A - B) h hx (oKp_I kl g2) g3 hQ
  have zero : (w = 22 ∨ w = 26) → c_58_107 (ox_M lw_sp (d + 7)) (x + 11) (x + 28 + 5 * e.t.length) (nI w) ba bb S (mr - 0 - 0 - 0 - 0) (sr - 0 - 0 - 0 - 0) Q := fun hz => by
    refine f_58_107 hE ⟨by rw [bN.1]; rfl, by rw [bN.2.1, bN.2.2.1.1]; rfl, fun z => ?_, fun z => ⟨trivial, ?_⟩⟩
    · rcases go with y | y
      · exact y
      · exfalso
        rw [bN.2.1, bN.2.2.1.2.1, hzB.mp y.1] at z
        exact z rfl
    · have c0 : kk = 0 := by
        rw [bN.2.1, bN.2.2.1.2.1] at z
        have h16 := bN.2.2.1.2.2.1
        exact (nI_eq (by omega) (by decide)).mp z
      have B0 : B = 0 := hzB.mpr c0
      refine hQ S α 1 cN.refl ?_
      have hr : xAr e q w r A B = .inl 1 := by
        unfold xAr
        rw [if_neg (by omega), if_neg (by omega), if_neg (by omega), if_pos B0]
      rw [hr]
      exact ⟨rfl, h⟩
  have nz : ∀ y : Nat, y < 100 → (nI w = nI y ↔ w = y) := fun y hy => nI_eq (by omega) (by omega)
  refine f_58_82 hE ⟨fun z => absurd z a0, fun _ => ⟨fun _ => ⟨fun z => zero (Or.inr ((nz 26 (by decide)).mp z)), fun z => ⟨fun y => ?_, fun y => zero (Or.inl ((nz 22 (by decide)).mp y))⟩⟩, fun z => absurd z b0⟩⟩
  rcases go with m | m
  · exact m
  · exfalso
    rcases m.2 with m | m
    · exact y (by rw [m]; rfl)
    · exact z (by rw [m]; rfl)
/-- MUL, MOD, SUB, DIV -/
theorem c_58 {w : Nat} (hw : w = 20 ∨ w = 22 ∨ w = 24 ∨ w = 26) (h : cE S x α C nc e q (u :: v :: r)) (hx : xEs1 C nc K e (u :: v :: r)) (hm : 2 ≤ mr) (hs : 20 ≤ sr) (hQ : ∀ S' α' y, cN x S S' → cX S' x α' C nc e q (u :: v :: r) (xAri e q w r v u) y → Q (some (.inl y)) S') : ox_M lw_sp (d + 8) 58 [.inr (.inr (x + 11)), .inr (.inr (x + 28 + 5 * e.t.length)), .inl (nI w)] mr sr S Q :=
  f_58 lw_sp_mono ⟨fun _ => c_58_n (by omega) h hx hm hs hQ, fun z => absurd ((nI_eq (by omega) (by decide)).mp (show nI w = nI 23 from z)) (by omega)⟩
end C57
