/-! the class's instructions: COMPARE, NOT -/
section CCm
variable {d mr sr : Nat} {S S0 S' T : ox_St} {Q : ox_Q} {x : Nat} {α : Int → Nat} {C : Nat → xCd} {nc K : Nat} {e : xEn} {q : Nat} {st r : List Int} {v u : Int} {a : Nat}
theorem cE.v1 (h : cE S x α C nc e q st) : vC S x α 1 (x + 15) := ⟨by have := h.1.2.1; omega, by have := h.n; omega, by omega, Or.inr (Or.inl ⟨by decide, by decide, h.1.1.obj (o := 15) (by decide), (h.1.1.val (o := 15) (t := 1) (w := 0) (by decide)).1⟩)⟩
theorem cE.v2 (h : cE S x α C nc e q st) : vC S x α 2 (x + 16) := ⟨by have := h.1.2.1; omega, by have := h.n; omega, by omega, Or.inr (Or.inl ⟨by decide, by decide, h.1.1.obj (o := 16) (by decide), (h.1.1.val (o := 16) (t := 2) (w := 0) (by decide)).1⟩)⟩
theorem cmpZ_s {a b : Int} : (cmpZ a b < 0 ↔ a < b) ∧ (0 < cmpZ a b ↔ b < a) ∧ (0 ≤ cmpZ a b ↔ b ≤ a) ∧ (cmpZ a b ≤ 0 ↔ a ≤ b) := by
  unfold cmpZ
  by_cases h1 : a < b
  · rw [if_pos h1]
    exact ⟨⟨fun _ => h1, fun _ => by decide⟩, ⟨fun z => absurd z (by decide), fun z => by omega⟩, ⟨fun z => absurd z (by decide), fun z => by omega⟩, ⟨fun _ => by omega, fun _ => by decide⟩⟩
  · rw [if_neg h1]
    by_cases h2 : a = b
    · rw [if_pos h2]
      exact ⟨⟨fun z => absurd z (by decide), fun z => by omega⟩, ⟨fun z => absurd z (by decide), fun z => by omega⟩, ⟨fun _ => by omega, fun _ => by decide⟩, ⟨fun _ => by omega, fun _ => by decide⟩⟩
    · rw [if_neg h2]
      exact ⟨⟨fun z => absurd z (by decide), fun z => absurd z h1⟩, ⟨fun _ => by omega, fun _ => by decide⟩, ⟨fun _ => by omega, fun _ => by decide⟩, ⟨fun z => absurd z (by decide), fun z => by omega⟩⟩
theorem xIsK_t (h : cE S x α C nc e q st) (hx : xEs1 C nc K e st) (hv : vC S x α v a) (ok : xOk nc e.H v) : (S.I 6 a = 9 ↔ xIsK v = true) ∧ (xIsK v = true → S.I 7 a = nI (v - 4).toNat) := by
  have k2 := (h.kv hx hv ok).2.1
  constructor
  · rw [k2]
    unfold xIsK
    rw [Bool.and_eq_true, decide_eq_true_eq, decide_eq_true_eq]
    constructor
    · intro z
      unfold xTg at z
      repeat' split at z
      all_goals first | (exact absurd z (by decide)) | skip
      · have : v = 0 ∨ v = 1 ∨ v = 2 := by omega
        rcases this with rfl | rfl | rfl <;> exact absurd z (by decide)
      · omega
    · intro z
      unfold xTg
      rw [if_neg (by omega), if_neg (by omega), if_neg (by omega), if_pos z.2]
      rfl
  · unfold xIsK
    rw [Bool.and_eq_true, decide_eq_true_eq, decide_eq_true_eq]
    intro z
    obtain ⟨w, hw⟩ : ∃ w : Nat, v = 4 + w := ⟨(v - 4).toNat, by omega⟩
    subst hw
    have hw7 : w < 7 := by omega
    have ea : a = x + (68 + w) := by
      obtain ⟨-, -, -, p⟩ := hv
      rcases p with p | p | p | p | p <;> omega
    have key : ∀ w, w < 7 → cVt.contains (68 + w, 9, (w : Int)) = true := by decide
    rw [ea, (h.1.1.val (key w hw7)).2, show ((4 : Int) + w - 4).toNat = w by omega]
    have : ∀ w : Nat, w < 7 → Int32.ofInt (w : Int) = nI w := by decide
    exact this w hw7
/-- COMPARE -/
theorem c_61 {a : Nat} (ha : a ≤ 5 ∨ a = 10) (h : cE S x α C nc e q (u :: v :: r)) (hx : xEs1 C nc K e (u :: v :: r)) (hQ : ∀ S' α' y, cN x S S' → cX S' x α' C nc e q (u :: v :: r) (xCmp e q a r v u) y → Q (some (.inl y)) S') : ox_M lw_sp (d + 15) 61 [.inr (.inr (x + 11)), .inr (.inr (x + 28 + 5 * e.t.length)), .inl (nI a)] mr sr S Q := by
  have hsp := lw_sp_mono
  have hE : ox_mono (ox_M lw_sp (d + 14)) := ox_M_mono hsp _
  have k := (h.oF hx).1
  have hn := h.n
  have hH := hx.1.1
  have l10 : r.length + 1 + 1 ≤ 10 := hx.2.2.1
  have oku := hx.head
  have okv := hx.tail.head
  have na : ∀ b : Nat, b < 100 → (nI a = nI b ↔ a = b) := fun b hb => nI_eq (by omega) (by omega)
  have fin : ∀ (bt : Int32) (b : Int) {x3 x4 m s : Nat}, (bt = 0 ∧ b = 1 ∨ bt = 1 ∧ b = 2) → xCmp e q a r v u = xGo e q (b :: r) → ox_M lw_sp (d + 14) 54 [.inr (.inr (x + 11)), .inl bt] 0 0 S (k_61_212 (ox_M lw_sp (d + 14)) (x + 11) (x + 28 + 5 * e.t.length) (nI a) x3 x4 bt 2 (x + 28 + 5 * e.t.length) m s Q) := fun bt b {x3 x4 m s} hb hres => by
    rw [hres] at hQ
    refine s_54 hsp h.1.1 (f_61_212 hE ⟨by decide, by decide, 0, 0, Nat.zero_le _, Nat.zero_le _, ?_⟩)
    rcases hb with ⟨y1, y2⟩ | ⟨y1, y2⟩
    · rw [if_pos y1]
      subst y2
      exact c_rep hsp h hx (i := 2) (by simp) (by simp only [List.length_cons]; omega) h.v1 (xSm (by decide) (by decide)) (fun S2 m1 m2 => f_61_215 hE ⟨trivial, hQ S2 α (-1) m1 (cX_go m2)⟩)
    · rw [if_neg (by rw [y1]; decide)]
      subst y2
      exact c_rep hsp h hx (i := 2) (by simp) (by simp only [List.length_cons]; omega) h.v2 (xSm (by decide) (by decide)) (fun S2 m1 m2 => f_61_215 hE ⟨trivial, hQ S2 α (-1) m1 (cX_go m2)⟩)
  refine f_61 hsp ⟨by decide, k, by decide, 0, 0, Nat.zero_le _, Nat.zero_le _, c_sec hsp h hx (fun hv => f_61_5 hE ⟨by decide, k, by decide, 0, 0, Nat.zero_le _, Nat.zero_le _, c_top hsp h hx (fun hu => ?_)⟩)⟩
  have eqs : (a = 2 ∨ a = 3) → ox_M lw_sp (d + 14) 62 [.inr (.inr (x + 11)), .inr (.inr (S.rR (x + 28 + 5 * e.t.length + 2) r.length)), .inr (.inr (S.rR (x + 28 + 5 * e.t.length + 2) (v :: r).length)), .inl 0] 0 0 S (k_61_31 (ox_M lw_sp (d + 14)) (x + 11) (x + 28 + 5 * e.t.length) (nI a) (S.rR (x + 28 + 5 * e.t.length + 2) r.length) (S.rR (x + 28 + 5 * e.t.length + 2) (v :: r).length) (mr - 0 - 0 - 0) (sr - 0 - 0 - 0) Q) := fun h23 => by
    have hr : xCmp e q a r v u = xGo e q ((if xEq e.H 5 v u = (a == 2) then 2 else 1) :: r) := by unfold xCmp; rw [if_pos h23]
    refine c_62 hsp h hx 5 (by decide) (by decide) v u _ _ d _ _ _ hv hu okv oku (Nat.lt_succ_of_le (xDep_le hH v)) (Nat.lt_succ_of_le (xDep_le hH u)) (f_61_31 hE ⟨fun z => ?_, fun z => ?_⟩)
    · have a2' : a ≠ 2 := fun y => z ((na 2 (by decide)).mpr y)
      have a3 : a = 3 := by omega
      subst a3
      refine ⟨fun y => ⟨by decide, h.k7, by decide, 0, 0, Nat.zero_le _, Nat.zero_le _, fin 0 1 (Or.inl ⟨rfl, rfl⟩) ?_⟩, fun y => ⟨by decide, h.k7, by decide, 0, 0, Nat.zero_le _, Nat.zero_le _, fin 1 2 (Or.inr ⟨rfl, rfl⟩) ?_⟩⟩
      · have : xEq e.H 5 v u = true := by
          by_cases w : xEq e.H 5 v u = true
          · exact w
          · rw [if_neg w] at y; exact absurd rfl y
        rw [hr, this]; rfl
      · have : xEq e.H 5 v u = false := by
          by_cases w : xEq e.H 5 v u = true
          · rw [if_pos w] at y; exact absurd y (by decide)
          · simpa using w
        rw [hr, this]; rfl
    · have a2 : a = 2 := (na 2 (by decide)).mp z
      subst a2
      refine ⟨fun y => ⟨by decide, h.k7, by decide, 0, 0, Nat.zero_le _, Nat.zero_le _, fin 0 1 (Or.inl ⟨rfl, rfl⟩) ?_⟩, fun y => ⟨by decide, h.k7, by decide, 0, 0, Nat.zero_le _, Nat.zero_le _, fin 1 2 (Or.inr ⟨rfl, rfl⟩) ?_⟩⟩
      · have : xEq e.H 5 v u = false := by
          by_cases w : xEq e.H 5 v u = true
          · rw [if_pos w] at y; exact absurd rfl y
          · simpa using w
        rw [hr, this]; rfl
      · have : xEq e.H 5 v u = true := by
          by_cases w : xEq e.H 5 v u = true
          · exact w
          · rw [if_neg w] at y; exact absurd y (by decide)
        rw [hr, this]; rfl
  have bad : ∀ {P : Prop}, (a ≠ 2 ∧ a ≠ 3 ∧ a ≠ 10) → (xNum e.H v = none ∨ xNum e.H u = none) → Q (some (.inl (0 : Int32))) S := fun {P} hz hnum => by
    have hr : xCmp e q a r v u = .inl 0 := by
      unfold xCmp
      rw [if_neg (by omega), if_neg hz.2.2]
      rcases hnum with y | y
      · rw [y]
      · rw [y]; cases xNum e.H v <;> rfl
    exact hQ S α 0 cN.refl (by rw [hr]; exact ⟨rfl, h⟩)
  refine f_61_11 hE ⟨fun z => ⟨by decide, h.k7, by decide, 0, 0, Nat.zero_le _, Nat.zero_le _, eqs (Or.inl ((na 2 (by decide)).mp z))⟩, fun z2 => ⟨fun z3 => ⟨fun z10 => ⟨by decide, h.k7, by decide, 0, 0, Nat.zero_le _, Nat.zero_le _, ?_⟩, fun z10 => ?_⟩, fun z => ⟨by decide, h.k7, by decide, 0, 0, Nat.zero_le _, Nat.zero_le _, eqs (Or.inr ((na 3 (by decide)).mp z))⟩⟩⟩
  · have hz : a ≠ 2 ∧ a ≠ 3 ∧ a ≠ 10 := ⟨fun y => z2 (by rw [y]; rfl), fun y => z3 (by rw [y]; rfl), fun y => z10 (by rw [y]; rfl)⟩
    refine c_num hsp h.1 h.hp hH hv okv (fun e0 => f_61_108 hE ⟨by decide, h.k7, by decide, 0, 0, Nat.zero_le _, Nat.zero_le _, c_num hsp h.1 h.hp hH hu oku (fun _ => f_61_116 hE ⟨fun _ => ⟨trivial, bad (P := True) hz (Or.inl e0)⟩, fun z => absurd rfl z⟩) (fun _ _ _ _ _ _ _ _ _ _ _ _ _ => f_61_116 hE ⟨fun _ => ⟨trivial, bad (P := True) hz (Or.inl e0)⟩, fun z => absurd rfl z⟩)⟩) (fun A b t w c p e1 b0 bn bz bN nB tB => f_61_108 hE ⟨by decide, h.k7, by decide, 0, 0, Nat.zero_le _, Nat.zero_le _, c_num hsp h.1 h.hp hH hu oku (fun e0 => f_61_116 hE ⟨fun z => absurd z b0, fun _ => ⟨fun z => absurd rfl z, fun _ => ⟨trivial, bad (P := True) hz (Or.inr e0)⟩⟩⟩) (fun B b' t' w' c' p' e2 b0' bn' bz' bN' nB' tB' => f_61_116 hE ⟨fun z => absurd z b0, fun _ => ⟨fun _ => ⟨by decide, by decide, 0, 0, Nat.zero_le _, Nat.zero_le _, s_1 (d := d + 11) hsp bN bN' (f_61_137 hE ?_)⟩, fun z => absurd z b0'⟩⟩)⟩)
    rw [nB, nB']
    obtain ⟨s1, s2, s3, s4⟩ := cmpZ_s (a := A) (b := B)
    have hr : xCmp e q a r v u = xGo e q ((if (if a = 0 then decide (A < B) else if a = 1 then decide (A ≤ B) else if a = 4 then decide (B < A) else decide (B ≤ A)) = true then 2 else 1) :: r) := by
      unfold xCmp
      rw [if_neg (by omega), if_neg hz.2.2, e1, e2]
    have hb : ∀ b : Bool, (if a = 0 then decide (A < B) else if a = 1 then decide (A ≤ B) else if a = 4 then decide (B < A) else decide (B ≤ A)) = b → xCmp e q a r v u = xGo e q ((if b = true then 2 else 1) :: r) := fun b hb => by rw [hr, hb]
    refine ⟨fun n0 => ⟨fun n1 => ⟨fun n4 => ⟨fun y => ⟨by decide, h.k7, by decide, 0, 0, Nat.zero_le _, Nat.zero_le _, fin 0 1 (Or.inl ⟨rfl, rfl⟩) ?_⟩, fun y => ⟨by decide, h.k7, by decide, 0, 0, Nat.zero_le _, Nat.zero_le _, fin 1 2 (Or.inr ⟨rfl, rfl⟩) ?_⟩⟩, fun n4 => ⟨fun y => ⟨by decide, h.k7, by decide, 0, 0, Nat.zero_le _, Nat.zero_le _, fin 0 1 (Or.inl ⟨rfl, rfl⟩) ?_⟩, fun y => ⟨by decide, h.k7, by decide, 0, 0, Nat.zero_le _, Nat.zero_le _, fin 1 2 (Or.inr ⟨rfl, rfl⟩) ?_⟩⟩⟩, fun n1 => ⟨fun y => ⟨by decide, h.k7, by decide, 0, 0, Nat.zero_le _, Nat.zero_le _, fin 0 1 (Or.inl ⟨rfl, rfl⟩) ?_⟩, fun y => ⟨by decide, h.k7, by decide, 0, 0, Nat.zero_le _, Nat.zero_le _, fin 1 2 (Or.inr ⟨rfl, rfl⟩) ?_⟩⟩⟩, fun n0 => ⟨fun y => ⟨by decide, h.k7, by decide, 0, 0, Nat.zero_le _, Nat.zero_le _, fin 0 1 (Or.inl ⟨rfl, rfl⟩) ?_⟩, fun y => ⟨by decide, h.k7, by decide, 0, 0, Nat.zero_le _, Nat.zero_le _, fin 1 2 (Or.inr ⟨rfl, rfl⟩) ?_⟩⟩⟩
    · exact hb false (by rw [if_neg (fun w => n0 (by rw [w]; rfl)), if_neg (fun w => n1 (by rw [w]; rfl)), if_neg (fun w => n4 (by rw [w]; rfl)), decide_eq_false (by have := s1.mp y; omega)])
    · exact hb true (by rw [if_neg (fun w => n0 (by rw [w]; rfl)), if_neg (fun w => n1 (by rw [w]; rfl)), if_neg (fun w => n4 (by rw [w]; rfl)), decide_eq_true (Int.not_lt.mp fun w => y (s1.mpr w))])
    · have a4 := (na 4 (by decide)).mp n4
      exact hb false (by rw [if_neg (by omega), if_neg (by omega), if_pos a4, decide_eq_false (by have := s4.mp y; omega)])
    · have a4 := (na 4 (by decide)).mp n4
      exact hb true (by rw [if_neg (by omega), if_neg (by omega), if_pos a4, decide_eq_true (Int.not_le.mp fun w => y (s4.mpr w))])
    · have a1 := (na 1 (by decide)).mp n1
      exact hb false (by rw [if_neg (by omega), if_pos a1, decide_eq_false (by have := s2.mp y; omega)])
    · have a1 := (na 1 (by decide)).mp n1
      exact hb true (by rw [if_neg (by omega), if_pos a1, decide_eq_true (Int.not_lt.mp fun w => y (s2.mpr w))])
    · have a0 := (na 0 (by decide)).mp n0
      exact hb false (by rw [if_pos a0, decide_eq_false (by have := s3.mp y; omega)])
    · have a0 := (na 0 (by decide)).mp n0
      exact hb true (by rw [if_pos a0, decide_eq_true (Int.not_le.mp fun w => y (s3.mpr w))])
  · have a10 := (na 10 (by decide)).mp z10
    obtain ⟨k1, k2, k3⟩ := h.kv hx hv okv
    obtain ⟨j1, j2, j3⟩ := h.kv hx hu oku
    obtain ⟨tv, wv⟩ := xIsK_t h hx hv okv
    obtain ⟨tu, wu⟩ := xIsK_t h hx hu oku
    have hr : xCmp e q a r v u = (if xIsK v = true ∧ xIsK u = true then xGo e q ((if v = u then 2 else 1) :: r) else .inl 0) := by
      unfold xCmp
      rw [if_neg (by omega), if_pos a10]
    have b0 : ¬ (xIsK v = true ∧ xIsK u = true) → Q (some (.inl (0 : Int32))) S := fun hz => hQ S α 0 cN.refl (by rw [hr, if_neg hz]; exact ⟨rfl, h⟩)
    have iff7 : xIsK v = true → xIsK u = true → (S.I 7 (S.rR (x + 28 + 5 * e.t.length + 2) r.length) = S.I 7 (S.rR (x + 28 + 5 * e.t.length + 2) (v :: r).length) ↔ v = u) := fun y1 y2 => by
      rw [wv y1, wu y2]
      unfold xIsK at y1 y2
      rw [Bool.and_eq_true, decide_eq_true_eq, decide_eq_true_eq] at y1 y2
      rw [nI_eq (by omega) (by omega)]
      omega
    refine ⟨(isV_has k3).1, fun z => ⟨trivial, b0 (fun y => z (tv.mpr y.1))⟩, fun z => ⟨(isV_has j3).1, fun y => ⟨(isV_has k3).2, (isV_has j3).2, fun w => ⟨by decide, h.k7, by decide, 0, 0, Nat.zero_le _, Nat.zero_le _, fin 0 1 (Or.inl ⟨rfl, rfl⟩) ?_⟩, fun w => ⟨by decide, h.k7, by decide, 0, 0, Nat.zero_le _, Nat.zero_le _, fin 1 2 (Or.inr ⟨rfl, rfl⟩) ?_⟩⟩, fun y => ⟨trivial, b0 (fun w => y (tu.mpr w.2))⟩⟩⟩
    · have y1 := tv.mp z
      have y2 := tu.mp y
      rw [hr, if_pos ⟨y1, y2⟩, if_neg (fun m => w ((iff7 y1 y2).mpr m))]
    · have y1 := tv.mp z
      have y2 := tu.mp y
      rw [hr, if_pos ⟨y1, y2⟩, if_pos ((iff7 y1 y2).mp w)]
end CCm
