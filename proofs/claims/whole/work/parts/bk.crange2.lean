/-! the class's instructions: RANGE is called -/
section CRh
variable {d mr sr : Nat} {S S0 S' T : ox_St} {Q : ox_Q} {x : Nat} {α : Int → Nat} {C : Nat → xCd} {nc K : Nat} {e : xEn} {q : Nat} {st r : List Int} {v u : Int} {a : Nat}
/-- the range itself -/
theorem c_76_n {a : Nat} (h : cE S x α C nc e q st) (hx : xEs1 C nc K e st) (ha : a + 1 ≤ st.length) (hm : 1 ≤ mr) (hs : 5 ≤ sr) {x3 x4 x5 y0 : Int32} (y00 : y0.toInt ≠ 0) (hres : xRange e q (st.drop (a + 1)) = xRange e q (st.drop (a + 1))) (hQ : ∀ S' α' y, cN x S S' → cX S' x α' C nc e q st (xMk e q (st.drop (a + 1)) (.inr (.inr (.inl (x4.toInt, x5.toInt, y0.toInt))))) y → Q (some (.inl y)) S') {m s : Nat} : 1 ≤ mr ∧ 5 ≤ sr ∧ (4 ≤ 7 ∧ S.n ≠ 0 ∧ 3 ≤ 8 ∧ ∃ mc2 mk3, mc2 ≤ mr - 1 ∧ mk3 ≤ sr - 5 ∧ ox_M lw_sp (d + 4) 82 [.inr (.inr S.n), .inl x4, .inl x5, .inl y0] mc2 mk3 (S.newO 9) (k_76_152 (ox_M lw_sp (d + 4)) (x + 11) (x + 28 + 5 * e.t.length) (nI a) x3 x4 x5 y0 S.n (nI a + 1) (x + 28 + 5 * e.t.length) (mr - 1 - mc2) (sr - 5 - mk3) Q)) := by
  have hsp := lw_sp_mono
  have hE : ox_mono (ox_M lw_sp (d + 4)) := ox_M_mono hsp _
  have hn := h.n
  have l10 := hx.2.2.1
  obtain ⟨w1, w2, w3⟩ := rng_new (u := x4) (v := x5) (w := y0) h
  refine ⟨hm, hs, by decide, by omega, by decide, 0, 0, Nat.zero_le _, Nat.zero_le _, s_82 hsp (by omega) (by rw [or_newO_K, if_pos rfl]) (f_76_152 hE ⟨by decide, by decide, 0, 0, Nat.zero_le _, Nat.zero_le _, ?_⟩)⟩
  rw [nI_1]
  have fit : ∀ z : Int32, xFit z.toInt = true := fun z => by
    have := i_bd z
    simp only [xFit, Bool.and_eq_true, decide_eq_true_eq]
    omega
  exact c_new hsp h hx w2 (i := a + 1) (o := .inr (.inr (.inl (x4.toInt, x5.toInt, y0.toInt)))) ha (by omega) (Nat.le_refl _) w1 ⟨fit _, fit _, fit _, y00⟩ (by rw [w3]; rfl) (fun S' g1 g2 => f_76_155 hE ⟨trivial, hQ S' _ (-1) g1 g2⟩)
/-- all are numbers, and they fit -/
theorem c_76_e {a : Nat} (h : cE S x α C nc e q st) (hx : xEs1 C nc K e st) (a1 : 1 ≤ a) (a3 : a ≤ 3) (ha : a + 1 ≤ st.length) (hm : 2 ≤ mr) (hs : 20 ≤ sr) {l : List Int} (hl : xNums e.H (st.take a) = some l) (hf : l.all xFit = true) (hQ : ∀ S' α' y, cN x S S' → cX S' x α' C nc e q st (xRange e q (st.drop (a + 1)) l) y → Q (some (.inl y)) S') : c_76_17 (ox_M lw_sp (d + 4)) (x + 11) (x + 28 + 5 * e.t.length) (nI a) 1 (nI a) S mr sr Q := by
  have hsp := lw_sp_mono
  have hE : ox_mono (ox_M lw_sp (d + 4)) := ox_M_mono hsp _
  have k7 := h.k7
  obtain ⟨ll, li⟩ := xNums_i _ hl
  have lt : (st.take a).length = a := by rw [List.length_take]; omega
  rw [lt] at ll li
  have num : ∀ i, i < a → xNum e.H (st.getD i 0) = some (l.getD i 0) := fun i hi => by
    have := li i hi
    rw [List.getD_eq_getElem?_getD, List.getElem?_take, if_pos hi, ← List.getD_eq_getElem?_getD] at this
    exact this
  have fit : ∀ i, i < a → xFit (l.getD i 0) = true := fun i hi => by
    rw [List.all_eq_true] at hf
    refine hf _ ?_
    rw [List.getD_eq_getElem?_getD, List.getElem?_eq_getElem (by omega)]
    exact List.getElem_mem _
  have z1 : (1 : Int32).toInt = 1 := rfl
  have z0 : (0 : Int32).toInt = 0 := rfl
  refine f_76_17 hE ⟨fun _ => ⟨fun _ => ⟨fun n1 => ⟨by decide, k7, by decide, 0, 0, Nat.zero_le _, Nat.zero_le _, ?_⟩, fun e1 => f_76_90 hE ⟨fun n3 => ⟨by decide, k7, by decide, 0, 0, Nat.zero_le _, Nat.zero_le _, ?_⟩, fun e3 => ?_⟩⟩, fun z => absurd z (by decide)⟩, fun z => absurd (nI_le (Nat.le_refl _) (by omega)) z⟩
  · have e1' : a ≠ 1 := fun y => n1 (by rw [y]; rfl)
    rw [show nI a - 1 = nI (a - 1) by rw [show (1 : Int32) = nI 1 from rfl, pk_sub (by omega)]]
    refine c_77 hsp h hx (i := a - 1) (by omega) (num (a - 1) (by omega)) (fit (a - 1) (by omega)) (fun y hy => f_76_90 hE ⟨fun n3 => ⟨by decide, k7, by decide, 0, 0, Nat.zero_le _, Nat.zero_le _, ?_⟩, fun e3 => ⟨by decide, k7, by decide, 0, 0, Nat.zero_le _, Nat.zero_le _, ?_⟩⟩)
    · have a2 : a = 2 := by
        have : a ≠ 3 := fun y => n3 (by rw [y]; rfl)
        omega
      subst a2
      match l, ll, hf, hQ, num, fit, hy with
      | [b, c], _, hf, hQ, num, fit, hy =>
        refine c_77 hsp h hx (i := 0) (by omega) (num 0 (by decide)) (fit 0 (by decide)) (fun y2 hy2 => f_76_107 hE ⟨fun _ => ⟨fun _ => ?_, fun z => absurd z (by decide)⟩, fun z => absurd z (by decide)⟩)
        refine c_76_n h hx ha (by omega) (by omega) (y0 := 1) (by decide) rfl (m := 0) (s := 0) (fun S' α' y3 g1 g2 => hQ S' α' y3 g1 ?_)
        have hr : xRange e q (st.drop (2 + 1)) [b, c] = xMk e q (st.drop (2 + 1)) (.inr (.inr (.inl (c, b, 1)))) := by unfold xRange; dsimp only; rw [if_pos hf]
        rw [hr]
        rw [hy, hy2, z1] at g2
        exact g2
    · have a3' : a = 3 := (nI_eq (b := 3) (by omega) (by decide)).mp e3
      subst a3'
      match l, ll, hf, hQ, num, fit, hy with
      | [b, c, d'], _, hf, hQ, num, fit, hy =>
        refine c_77 hsp h hx (i := 1) (by omega) (num 1 (by decide)) (fit 1 (by decide)) (fun y2 hy2 => f_76_107 hE ⟨fun z => absurd rfl z, fun _ => ⟨by decide, k7, by decide, 0, 0, Nat.zero_le _, Nat.zero_le _, c_77 hsp h hx (i := 0) (by omega) (num 0 (by decide)) (fit 0 (by decide)) (fun y3 hy3 => f_76_120 hE ⟨fun z => ?_, fun z => f_76_155 hE ⟨trivial, ?_⟩⟩)⟩⟩)
        · have b0 : b ≠ 0 := fun w => z (Int32.toInt_inj.mp (by rw [hy3, z0]; exact w))
          have hr : xRange e q (st.drop (3 + 1)) [b, c, d'] = xMk e q (st.drop (3 + 1)) (.inr (.inr (.inl (d', c, b)))) := by unfold xRange; dsimp only; rw [if_pos hf, if_neg b0]
          refine c_76_n h hx ha (by omega) (by omega) (y0 := y3) (by rw [hy3]; exact b0) rfl (m := 0) (s := 0) (fun S' α' y4 g1 g2 => hQ S' α' y4 g1 ?_)
          rw [hr]
          rw [hy, hy2, hy3] at g2
          exact g2
        · have b0 : b = 0 := by rw [z, z0] at hy3; exact hy3.symm
          have hr : xRange e q (st.drop (3 + 1)) [b, c, d'] = .inl 3 := by unfold xRange; dsimp only; rw [if_pos hf, if_pos b0]
          exact hQ S α 3 cN.refl (by rw [hr]; exact ⟨rfl, h⟩)
  · have a1' : a = 1 := (nI_eq (b := 1) (by omega) (by decide)).mp e1
    subst a1'
    match l, ll, hf, hQ, num, fit with
    | [b], _, hf, hQ, num, fit =>
      refine c_77 hsp h hx (i := 0) (by omega) (num 0 (by decide)) (fit 0 (by decide)) (fun y2 hy2 => f_76_107 hE ⟨fun _ => ⟨fun _ => ?_, fun z => absurd z (by decide)⟩, fun z => absurd z (by decide)⟩)
      refine c_76_n h hx ha (by omega) (by omega) (y0 := 1) (by decide) rfl (m := 0) (s := 0) (fun S' α' y3 g1 g2 => hQ S' α' y3 g1 ?_)
      have hr : xRange e q (st.drop (1 + 1)) [b] = xMk e q (st.drop (1 + 1)) (.inr (.inr (.inl (0, b, 1)))) := by unfold xRange; dsimp only; rw [if_pos hf]
      rw [hr]
      rw [hy2, z1, z0] at g2
      exact g2
  · have a1' : a = 1 := (nI_eq (b := 1) (by omega) (by decide)).mp e1
    subst a1'
    exact absurd e3 (by decide)
theorem c_76_l {a : Nat} (h : cE S x α C nc e q st) (hx : xEs1 C nc K e st) (a1 : 1 ≤ a) (a3 : a ≤ 3) (ha : a + 1 ≤ st.length) (hm : 2 ≤ mr) (hs : 20 ≤ sr) (hQ : ∀ S' α' y, cN x S S' → cX S' x α' C nc e q st (match xNums e.H (st.take a) with
    | some l => xRange e q (st.drop (a + 1)) l
    | none => .inl 0) y → Q (some (.inl y)) S') : ∀ (k i : Nat) (l : List Int) (mr sr : Nat), 2 ≤ mr → 20 ≤ sr → i + k = a → xNums e.H (st.take i) = some l → c_76_17 (ox_M lw_sp (d + 4)) (x + 11) (x + 28 + 5 * e.t.length) (nI a) (if l.all xFit = true then 1 else 0) (nI i) S mr sr Q := by
  have hsp := lw_sp_mono
  have hE : ox_mono (ox_M lw_sp (d + 4)) := ox_M_mono hsp _
  have kF := (h.oF hx).1
  intro k
  induction k with
  | zero =>
    intro i l mr sr hm hs hi hl
    obtain rfl : i = a := by omega
    rw [hl] at hQ
    by_cases z : l.all xFit = true
    · rw [if_pos z]
      exact c_76_e h hx a1 a3 ha hm hs hl z hQ
    · rw [if_neg z]
      have hr : xRange e q (st.drop (i + 1)) l = .inl 6 := by
        match l, z with
        | [], z => exact absurd rfl z
        | b :: k, z => unfold xRange; dsimp only; rw [if_neg z]
      exact f_76_17 hE ⟨fun _ => ⟨fun y => absurd rfl y, fun _ => ⟨trivial, hQ S α 6 cN.refl (by dsimp only; rw [hr]; exact ⟨rfl, h⟩)⟩⟩, fun y => absurd (nI_le (Nat.le_refl _) (by omega)) y⟩
  | succ k ih =>
    intro i l mr sr hm hs hi hl
    have hia : i < a := by omega
    have his : i < st.length := by omega
    have hg : st.getD i 0 = st[i] := by rw [List.getD_eq_getElem?_getD, List.getElem?_eq_getElem his]; rfl
    have ht : st.take (i + 1) = st.take i ++ [st[i]] := (List.take_append_getElem his).symm
    have okv : xOk nc e.H (st.getD i 0) := hx.2.1 _ (by rw [hg]; exact List.getElem_mem _)
    refine f_76_17 hE ⟨fun z => absurd z (nI_ge hia (by omega)), fun _ => ⟨by decide, kF, by decide, 0, 0, Nat.zero_le _, Nat.zero_le _, c_fromTop hsp h hx his (fun hv => f_76_30 hE ⟨by decide, h.k7, by decide, 0, 0, Nat.zero_le _, Nat.zero_le _, c_num hsp h.1 h.hp hx.1.1 hv okv (fun e0 => f_76_33 hE ⟨fun z => absurd rfl z, fun _ => ⟨trivial, ?_⟩⟩) (fun N b t w c p e1 b0 bn bz bN nB tB => f_76_33 hE ⟨fun _ => ?_, fun z => absurd z b0⟩)⟩)⟩⟩
    · have hno : xNums e.H (st.take a) = none := by
        have key : ∀ m, xNums e.H (st.take (i + 1 + m)) = none := by
          intro m
          induction m with
          | zero =>
            show xNums e.H (st.take (i + 1)) = none
            rw [ht, xNums_snoc, hl, ← hg, e0]
          | succ m ihm =>
            by_cases w : i + 1 + m < st.length
            · rw [show i + 1 + (m + 1) = i + 1 + m + 1 by omega, (List.take_append_getElem w).symm, xNums_snoc, ihm]
            · rw [List.take_of_length_le (by omega)]
              rw [List.take_of_length_le (by omega)] at ihm
              exact ihm
        have := key (a - (i + 1))
        rw [show i + 1 + (a - (i + 1)) = a by omega] at this
        exact this
      rw [hno] at hQ
      exact hQ S α 0 cN.refl ⟨rfl, h⟩
    · have hl2 : xNums e.H (st.take (i + 1)) = some (l ++ [N]) := by rw [ht, xNums_snoc, hl, ← hg, e1]
      have hall : (l ++ [N]).all xFit = (l.all xFit && xFit N) := by rw [List.all_append]; simp
      by_cases z : l.all xFit = true
      · rw [if_pos z]
        refine ⟨fun y => absurd y (by decide), fun _ => ⟨by decide, bN.1, by decide, 0, 0, Nat.zero_le _, Nat.zero_le _, s_81 hsp bN (f_76_51 hE ⟨fun y => ?_, fun y => ?_⟩)⟩⟩
        · have nf : ¬ xFit N = true := fun w => by
            rw [nB, if_pos (inI_fit.mpr w)] at y; exact absurd y (by decide)
          have := ih (i + 1) (l ++ [N]) (mr - 0 - 0 - 0) (sr - 0 - 0 - 0) (by omega) (by omega) (by omega) hl2
          rw [hall, z, Bool.true_and, if_neg nf] at this
          rw [nI_1]
          exact this
        · have nf : xFit N = true := by
            by_cases w : xFit N = true
            · exact w
            · rw [nB, if_neg (fun m => w (inI_fit.mp m))] at y; exact absurd rfl y
          have := ih (i + 1) (l ++ [N]) (mr - 0 - 0 - 0) (sr - 0 - 0 - 0) (by omega) (by omega) (by omega) hl2
          rw [hall, z, Bool.true_and, if_pos nf] at this
          rw [nI_1]
          exact this
      · rw [if_neg z]
        refine ⟨fun _ => ?_, fun y => absurd rfl y⟩
        have := ih (i + 1) (l ++ [N]) (mr - 0 - 0) (sr - 0 - 0) (by omega) (by omega) (by omega) hl2
        rw [hall, if_neg (fun w => z (by rw [Bool.and_eq_true] at w; exact w.1))] at this
        rw [nI_1]
        exact this
/-- makeRange -/
theorem c_76 {a : Nat} (h : cE S x α C nc e q st) (hx : xEs1 C nc K e st) (a4 : a ≤ 4) (ha : a + 1 ≤ st.length) (hm : 2 ≤ mr) (hs : 20 ≤ sr) (hQ : ∀ S' α' y, cN x S S' → cX S' x α' C nc e q st (if 3 < a then .inl 0 else match xNums e.H (st.take a) with
    | some l => xRange e q (st.drop (a + 1)) l
    | none => .inl 0) y → Q (some (.inl y)) S') : ox_M lw_sp (d + 5) 76 [.inr (.inr (x + 11)), .inr (.inr (x + 28 + 5 * e.t.length)), .inl (nI a)] mr sr S Q := by
  refine f_76 lw_sp_mono ⟨fun z => ⟨trivial, ?_⟩, fun z => ⟨fun y => ?_, fun y => ⟨trivial, ?_⟩⟩⟩
  · have a0 : a = 0 := by
      have := (nI_ltI (b := 1) (by omega) (by decide)).mp z
      omega
    subst a0
    exact hQ S α 0 cN.refl ⟨rfl, h⟩
  · have a3 : a ≤ 3 := (nI_leI (b := 3) (by omega) (by decide)).mp y
    have a1 : 1 ≤ a := by
      by_cases w : 1 ≤ a
      · exact w
      · exact absurd (nI_lt (b := 1) (by omega) (by decide)) z
    rw [if_neg (by omega)] at hQ
    exact c_76_l h hx a1 a3 ha hm hs hQ a 0 [] mr sr hm hs (Nat.zero_add _) rfl
  · have a3 : ¬ a ≤ 3 := fun w => y (nI_le (b := 3) w (by decide))
    rw [if_pos (by omega)] at hQ
    exact hQ S α 0 cN.refl ⟨rfl, h⟩
end CRh
