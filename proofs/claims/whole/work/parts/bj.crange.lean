/-! the class's instructions: RANGE -/
theorem lS_int {p : Int32} {n : Nat} {N : Int} (hp : p = 0 ∨ p = 1) (hN : N = if p = 0 then (n : Int) else -(n : Int)) (hf : xFit N = true) : (Int64.toInt32 (lS p n)).toInt = N := by
  simp only [xFit, Bool.and_eq_true, decide_eq_true_eq] at hf
  unfold lS
  rcases hp with y | y
  · rw [if_pos y] at hN ⊢
    rw [lN_i, nI_toInt (by omega)]
    exact hN.symm
  · have y' : ¬ p = 0 := by rw [y]; decide
    rw [if_neg y'] at hN ⊢
    have e1 : (-lN n).toInt = N := by rw [l_neg (by rw [pf_lI (by omega)]; omega), pf_lI (by omega), hN]
    rw [Int64.toInt_toInt32, e1]
    exact Int.bmod_eq_of_le (by omega) (by omega)
section CRg
variable {d mr sr : Nat} {S S0 S' T : ox_St} {Q : ox_Q} {x : Nat} {α : Int → Nat} {C : Nat → xCd} {nc K : Nat} {e : xEn} {q : Nat} {st r : List Int} {v u : Int} {a : Nat}
/-- intFromTop -/
theorem c_77 {sp : ox_E} (hsp : ox_mono sp) (h : cE S x α C nc e q st) (hx : xEs1 C nc K e st) {i : Nat} (hi : i < st.length) {N : Int} (hN : xNum e.H (st.getD i 0) = some N) (hf : xFit N = true) (hQ : ∀ y : Int32, y.toInt = N → Q (some (.inl y)) S) : ox_M sp (d + 2) 77 [.inr (.inr (x + 11)), .inr (.inr (x + 28 + 5 * e.t.length)), .inl (nI i)] mr sr S Q := by
  have hE : ox_mono (ox_M sp (d + 1)) := ox_M_mono hsp _
  have k := (h.oF hx).1
  have ok : xOk nc e.H (st.getD i 0) := hx.2.1 _ (by
    rw [List.getD_eq_getElem?_getD, List.getElem?_eq_getElem hi]
    exact List.getElem_mem _)
  refine f_77 hsp ⟨by decide, k, by decide, 0, 0, Nat.zero_le _, Nat.zero_le _, c_fromTop hsp h hx hi (fun hv => f_77_6 hE ⟨by decide, h.k7, by decide, 0, 0, Nat.zero_le _, Nat.zero_le _, c_num hsp h.1 h.hp hx.1.1 hv ok (fun e0 => by rw [hN] at e0; cases e0) (fun M b t w c p e1 b0 bn bz bN nB tB => f_77_9 hE ⟨fun _ => ⟨by decide, bN.1, by decide, 0, 0, Nat.zero_le _, Nat.zero_le _, s_80 hsp bN (f_77_22 hE ⟨trivial, hQ _ ?_⟩)⟩, fun z => absurd z b0⟩)⟩)⟩
  rw [hN] at e1
  cases e1
  have hd := bN.2.2.2.1
  have pp : p = 0 ∨ p = 1 := bN.2.2.2.2.2.1
  have nb : nv w c p = N := nB
  have fit := hf
  simp only [xFit, Bool.and_eq_true, decide_eq_true_eq] at fit
  have c3 : c ≤ 3 := by
    by_cases z : c ≤ 3
    · exact z
    · exfalso
      have lo := dc_low hd (by omega)
      have : (32768 : Nat) ^ 3 ≤ 32768 ^ (c - 1) := Nat.pow_le_pow_right (by decide) (by omega)
      have e3 : (32768 : Nat) ^ 3 = 35184372088832 := by decide
      unfold nv at nb
      rcases pp with y | y
      · rw [if_pos y] at nb; omega
      · rw [if_neg (by rw [y]; decide)] at nb; omega
  have es : smN c (dv w c) = dv w c := by unfold smN; rw [if_pos c3]
  rw [es]
  exact lS_int pp (by rw [← nb]; rfl) hf
/-- a new range -/
theorem rng_new (h : cE S x α C nc e q st) {u v w : Int32} : cO (oMkRange (S.newO 9) S.n u v w) x (upA α e.n S.n) C e.n (.inr (.inr (.inl (u.toInt, v.toInt, w.toInt)))) ∧ cI x (cW0 x) S (oMkRange (S.newO 9) S.n u v w) ∧ (oMkRange (S.newO 9) S.n u v w).K S.n = 9 := by
  have hn := h.n
  have hself : upA α e.n S.n e.n = S.n := if_pos rfl
  have hI : cI x (cW0 x) S (oMkRange (S.newO 9) S.n u v w) := (((((cI.refl.newO).sI (Or.inl (Nat.le_refl _))).sI (Or.inl (Nat.le_refl _))).sI (Or.inl (Nat.le_refl _))).sI (Or.inl (Nat.le_refl _))).sI (Or.inl (Nat.le_refl _))
  have eK : (oMkRange (S.newO 9) S.n u v w).K S.n = 9 := by unfold oMkRange oV0; rw [or_sI_K, or_sI_K, or_sI_K, or_sI_K, or_sI_K, or_newO_K, if_pos rfl]
  have en : (oMkRange (S.newO 9) S.n u v w).n = S.n + 1 := by unfold oMkRange oV0; rw [or_sI_n, or_sI_n, or_sI_n, or_sI_n, or_sI_n, or_newO_n]
  have e55 : (oMkRange (S.newO 9) S.n u v w).I 55 S.n = w := by unfold oMkRange; rw [or_sI_I, if_pos ⟨rfl, rfl⟩]
  have e54 : (oMkRange (S.newO 9) S.n u v w).I 54 S.n = v := by unfold oMkRange; rw [or_sI_I, if_neg (fun z => by cases z.1), or_sI_I, if_pos ⟨rfl, rfl⟩]
  have e53 : (oMkRange (S.newO 9) S.n u v w).I 53 S.n = u := by unfold oMkRange; rw [or_sI_I, if_neg (fun z => by cases z.1), or_sI_I, if_neg (fun z => by cases z.1), or_sI_I, if_pos ⟨rfl, rfl⟩]
  have e6 : (oMkRange (S.newO 9) S.n u v w).I 6 S.n = 5 := by
    unfold oMkRange oV0
    rw [or_sI_I, if_neg (fun z => by cases z.1), or_sI_I, if_neg (fun z => by cases z.1), or_sI_I, if_neg (fun z => by cases z.1), or_sI_I, if_neg (fun z => by cases z.1), or_sI_I, if_pos ⟨rfl, rfl⟩]
  generalize oMkRange (S.newO 9) S.n u v w = U at hI eK en e53 e54 e55 e6 ⊢
  refine ⟨⟨by rw [hself]; omega, by rw [hself, en]; omega, ?_⟩, hI, eK⟩
  rw [hself]
  exact ⟨eK, e6, by rw [e53], by rw [e54], by rw [e55]⟩
theorem xNums_i {H : xHp} : ∀ (l : List Int) {k : List Int}, xNums H l = some k → k.length = l.length ∧ ∀ i, i < l.length → xNum H (l.getD i 0) = some (k.getD i 0)
  | [], k, h => by cases h; exact ⟨rfl, fun i hi => absurd hi (Nat.not_lt_zero i)⟩
  | v :: l, k, h => by
    unfold xNums at h
    cases z : xNum H v with
    | none => rw [z] at h; cases h
    | some N =>
      cases y : xNums H l with
      | none => rw [z, y] at h; cases h
      | some k' =>
        rw [z, y] at h
        cases h
        obtain ⟨i1, i2⟩ := xNums_i l y
        refine ⟨congrArg (· + 1) i1, fun i hi => ?_⟩
        cases i with
        | zero => exact z
        | succ i => exact i2 i (Nat.lt_of_succ_lt_succ hi)
theorem xNums_snoc {H : xHp} {v : Int} : ∀ (l : List Int), xNums H (l ++ [v]) = match xNums H l, xNum H v with
    | some k, some N => some (k ++ [N])
    | _, _ => none
  | [] => by
    show (match xNum H v, (some [] : Option (List Int)) with
      | some N, some k => some (N :: k)
      | _, _ => none) = _
    cases xNum H v <;> rfl
  | u :: l => by
    have ih := xNums_snoc (H := H) (v := v) l
    show (match xNum H u, xNums H (l ++ [v]) with
      | some N, some k => some (N :: k)
      | _, _ => none) = match (match xNum H u, xNums H l with
      | some N, some k => some (N :: k)
      | _, _ => none), xNum H v with
      | some k, some N => some (k ++ [N])
      | _, _ => none
    rw [ih]
    cases xNum H u <;> cases xNums H l <;> cases xNum H v <;> rfl
theorem inI_fit {N : Int} : inI N ↔ xFit N = true := by
  unfold inI
  simp only [xFit, Bool.and_eq_true, decide_eq_true_eq]
end CRg
