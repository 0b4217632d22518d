/-! the reference: one number of a row -/
/-- a value's own numbers, without those of its items -/
def xOwn (C : Nat → xCd) (H : xHp) (v : Int) : List Int32 := Int32.ofInt (xTg H v) :: (if v < 0 then [nI (cdA (C (-1 - v).toNat).1)] else if v ≤ 3 then [] else if v ≤ 10 then [nI (v - 4).toNat] else match H v with
  | some (.inl N) => sgI N :: nI (dgF 16 N.natAbs).length :: (dgF 16 N.natAbs).map nI
  | some (.inr (.inl q)) => [nI q.1.length]
  | some (.inr (.inr (.inl q))) => [Int32.ofInt q.1, Int32.ofInt q.2.1, Int32.ofInt q.2.2]
  | some (.inr (.inr (.inr (.inl _)))) => []
  | some (.inr (.inr (.inr (.inr c)))) => [nI (cdA (C c).1)]
  | none => [])
def xKid (H : xHp) (v : Int) : List Int := match H v with
  | some (.inr (.inl q)) => q.1
  | _ => []
theorem flatMap_eq {f g : Int → List Int32} : ∀ (l : List Int), (∀ a ∈ l, f a = g a) → l.flatMap f = l.flatMap g
  | [], _ => rfl
  | a :: l, h => by rw [List.flatMap_cons, List.flatMap_cons, h a List.mem_cons_self, flatMap_eq l (fun b hb => h b (List.mem_cons_of_mem _ hb))]
section XRw
variable {C : Nat → xCd} {nc K : Nat} {H : xHp} {n : Int}
theorem xRow_succ (hH : xHOk nc K H n) (k : Nat) (v : Int) : xRow C H (k + 1) v = xOwn C H v ++ (xKid H v).flatMap (xRow C H k) := by
  have lo : v < 16 → xKid H v = [] := fun z => by
    unfold xKid
    cases e : H v with
    | none => rfl
    | some o => have := (hH.2 v o e).1; omega
  show (Int32.ofInt (xTg H v) :: (if v < 0 then [nI (cdA (C (-1 - v).toNat).1)] else if v ≤ 3 then [] else if v ≤ 10 then [nI (v - 4).toNat] else match H v with
    | some (.inl N) => sgI N :: nI (dgF 16 N.natAbs).length :: (dgF 16 N.natAbs).map nI
    | some (.inr (.inl q)) => nI q.1.length :: q.1.flatMap (xRow C H k)
    | some (.inr (.inr (.inl q))) => [Int32.ofInt q.1, Int32.ofInt q.2.1, Int32.ofInt q.2.2]
    | some (.inr (.inr (.inr (.inl _)))) => []
    | some (.inr (.inr (.inr (.inr c)))) => [nI (cdA (C c).1)]
    | none => [])) = _
  unfold xOwn
  by_cases z0 : v < 0
  · rw [if_pos z0, if_pos z0, lo (by omega)]; rfl
  · rw [if_neg z0, if_neg z0]
    by_cases z3 : v ≤ 3
    · rw [if_pos z3, if_pos z3, lo (by omega)]; rfl
    · rw [if_neg z3, if_neg z3]
      by_cases z10 : v ≤ 10
      · rw [if_pos z10, if_pos z10, lo (by omega)]; rfl
      · rw [if_neg z10, if_neg z10]
        unfold xKid
        cases e : H v with
        | none => rfl
        | some o =>
          match o with
          | .inl N =>
            show _ = _ ++ ([] : List Int).flatMap (xRow C H k)
            rw [List.flatMap_nil, List.append_nil]
          | .inr (.inl q) => rfl
          | .inr (.inr (.inl q)) => rfl
          | .inr (.inr (.inr (.inl q))) => rfl
          | .inr (.inr (.inr (.inr c))) => rfl
theorem xKid_d (hH : xHOk nc K H n) {v w : Int} (hw : w ∈ xKid H v) : xDep H w + 1 ≤ xDep H v ∧ xDep H v ≤ 4 ∧ (xKid H v).length ≤ 12 := by
  unfold xKid at hw ⊢
  cases e : H v with
  | none => rw [e] at hw; cases hw
  | some o =>
    rw [e] at hw
    match o, e, hw with
    | .inr (.inl (l, k)), e, hw =>
      obtain ⟨d1, d2, d3⟩ := xDep_tup hH e
      have := (xMax_iff (H := H) l).mp (Nat.le_refl _) w hw
      exact ⟨by omega, by omega, d2⟩
theorem xRow_st (hH : xHOk nc K H n) : ∀ (k : Nat) (v : Int), xDep H v < k → xRow C H (k + 1) v = xRow C H k v
  | 0, _, h => absurd h (Nat.not_lt_zero _)
  | k + 1, v, h => by
    rw [xRow_succ hH, xRow_succ hH, flatMap_eq _ (fun w hw => xRow_st hH k w (by have := (xKid_d hH hw).1; omega))]
theorem xRow_5 (hH : xHOk nc K H n) (v : Int) : xRow C H 5 v = xOwn C H v ++ (xKid H v).flatMap (xRow C H 5) := by
  have : xRow C H 5 v = xOwn C H v ++ (xKid H v).flatMap (xRow C H 4) := xRow_succ hH 4 v
  rw [this, flatMap_eq _ (fun w hw => (xRow_st hH 4 w (by have := xKid_d hH hw; omega)).symm)]
end XRw
/-- values and codes, as the reference has them -/
def rV (S : ox_St) (m ce : Nat) (γ : Int → Nat) (B : List Int) (T : Nat) (C : Nat → xCd) (nc : Nat) (H : xHp) : Prop := oML S m ce ∧ rHp S (m + ce) γ B H T ∧ nc ≤ 300 ∧ ∀ c, c < nc → S.rI (m + 4) c = nI (cdA (C c).1)
section RTl
variable {sp : ox_E} {d mr sr : Nat} {S S' : ox_St} {Q : ox_Q} {m ce : Nat} {γ : Int → Nat} {B : List Int} {T : Nat} {C : Nat → xCd} {nc K y : Nat} {s : xSt} {H : xHp} {n v : Int} {o : xOb}
theorem rR.vals (h : rR S m ce γ B T C nc y s) : rV S m ce γ B T C nc s.H := ⟨h.1, h.2.1.1, h.2.2.1.1, fun c hc => by
  obtain ⟨g, k, w, sh, -⟩ := h.2.2.1.2 c hc
  exact sh.1.1⟩
theorem rV.lo (h : rV S m ce γ B T C nc H) (hH : xHOk nc K H n) (ok : xOk nc H v) (z : v < 16) : -300 ≤ v ∧ v ≤ 10 ∧ H v = none ∧ gV γ v = Int32.ofInt v ∧ (v < 0 → (-1 - v).toNat < nc) := by
  have nc3 := h.2.2.1
  have e0 : H v = none := by
    cases e1 : H v with
    | none => rfl
    | some o => have := (hH.2 v o e1).1; omega
  rcases ok with w | w
  · exact ⟨by omega, w.2, e0, if_pos z, fun _ => by omega⟩
  · exact absurd e0 w
theorem rV.hi (h : rV S m ce γ B T C nc H) (hB : xIn B v) (z : ¬ v < 16) : ∃ o, H v = some o ∧ rO S (m + ce) γ v o ∧ γ v + xSz o ≤ 1100000 ∧ gV γ v = nI (γ v) := by
  obtain ⟨o, e1, h1, h2, h3⟩ := h.2.1.cell hB (by omega)
  exact ⟨o, e1, h1, by omega, if_neg z⟩
/-- what sortOf tells -/
def srt (H : xHp) (v : Int) : Int32 := if v < 16 then -1 else Int32.ofInt (xTg H v)
theorem rV.sort (hsp : ox_mono sp) (h : rV S m ce γ B T C nc H) (hH : xHOk nc K H n) (ok : xOk nc H v) (hB : xIn B v) (hQ : Q (some (.inl (srt H v))) S) : ox_M sp (d + 1) 133 [.inr (.inr m), .inl (gV γ v)] mr sr S Q := by
  by_cases z : v < 16
  · obtain ⟨l1, l2, e0, eg, -⟩ := h.lo hH ok z
    have lt : Int32.ofInt v < 16 := ofI_lt (k := 16) (by omega) z (by omega)
    rw [eg]
    refine s_133 hsp h.1 (fun w => absurd lt w) ?_
    unfold mSort
    rw [if_pos lt]
    unfold srt at hQ
    rw [if_pos z] at hQ
    exact hQ
  · obtain ⟨o, e1, r1, r2, eg⟩ := h.hi hB z
    have g16 := r1.1
    have sz := xSz_2 o
    have nlt : ¬ nI (γ v) < 16 := fun w => by have := (nI_ltI (b := 16) (by omega) (by decide)).mp w; omega
    rw [eg]
    refine s_133 hsp h.1 (fun _ => vp_in_nI (by omega) (by decide)) ?_
    unfold mSort
    rw [if_neg nlt, nI_clamp (by omega), r1.tag (by omega) e1]
    unfold srt at hQ
    rw [if_neg z] at hQ
    exact hQ
theorem rV.kind (hsp : ox_mono sp) (h : rV S m ce γ B T C nc H) (hH : xHOk nc K H n) (ok : xOk nc H v) (hB : xIn B v) (hQ : Q (some (.inl (if xIsK v = true then 1 else 0))) S) : ox_M sp (d + 1) 136 [.inl (gV γ v)] mr sr S Q := by
  have iff : xIsK v = true ↔ 4 ≤ v ∧ v ≤ 10 := by
    unfold xIsK
    rw [Bool.and_eq_true, decide_eq_true_iff, decide_eq_true_iff]
  have val : ∃ w : Int, (gV γ v).toInt = w ∧ (4 ≤ w ∧ w ≤ 10 ↔ 4 ≤ v ∧ v ≤ 10) := by
    by_cases z : v < 16
    · obtain ⟨lo, -, -, eg, -⟩ := h.lo hH ok z
      exact ⟨v, by rw [eg, Int32.toInt_ofInt_of_le (by omega) (by omega)], Iff.rfl⟩
    · obtain ⟨o, e1, h1, h2, eg⟩ := h.hi hB z
      have g16 := h1.1
      have sz := xSz_2 o
      exact ⟨(γ v : Int), by rw [eg, nI_toInt (by omega)], by omega⟩
  obtain ⟨w, w1, w2⟩ := val
  refine f_136 hsp ⟨fun z => ⟨Or.inl rfl, ?_⟩, fun z => ⟨fun z2 => ⟨Or.inl rfl, ?_⟩, fun z2 => ⟨Or.inr rfl, ?_⟩⟩⟩
  · rw [Int32.lt_iff_toInt_lt, w1, show (4 : Int32).toInt = 4 from by decide] at z
    rw [if_neg (fun y => by have := w2.mpr (iff.mp y); omega)] at hQ
    exact hQ
  · rw [Int32.le_iff_toInt_le, w1, show (11 : Int32).toInt = 11 from by decide] at z2
    rw [if_neg (fun y => by have := w2.mpr (iff.mp y); omega)] at hQ
    exact hQ
  · rw [Int32.lt_iff_toInt_lt, w1, show (4 : Int32).toInt = 4 from by decide] at z
    rw [Int32.le_iff_toInt_le, w1, show (11 : Int32).toInt = 11 from by decide] at z2
    rw [if_pos (iff.mpr (w2.mp (by omega)))] at hQ
    exact hQ
theorem ofI_ng {v : Int} (h : -300 ≤ v) (h0 : v < 0) : (-1 : Int32) - Int32.ofInt v = nI (-1 - v).toNat := by
  refine (Int32.toInt_inj).mp ?_
  have hs : ((-1 : Int32) - Int32.ofInt v).toInt = -1 - v := by
    rw [Int32.toInt_sub, Int32.toInt_ofInt_of_le (by omega) (by omega), show (-1 : Int32).toInt = -1 from by decide]
    exact Int.bmod_eq_of_le (by omega) (by omega)
  rw [hs, nI_toInt (by omega)]
  omega
theorem ofI_m4 {v : Int} (h : 4 ≤ v) (h0 : v ≤ 10) : Int32.ofInt v - 4 = nI (v - 4).toNat := by
  refine (Int32.toInt_inj).mp ?_
  have hs : (Int32.ofInt v - (4 : Int32)).toInt = v - 4 := by
    rw [Int32.toInt_sub, Int32.toInt_ofInt_of_le (by omega) (by omega), show (4 : Int32).toInt = 4 from by decide]
    exact Int.bmod_eq_of_le (by omega) (by omega)
  rw [hs, nI_toInt (by omega)]
  omega
/-- a number's own: sign, how many digits, the digits -/
theorem own_num {N : Int} {f : Nat → Nat} {c : Nat} {neg : Int32} (v11 : 10 < v) (e1 : H v = some (.inl N)) (hd : dc f c) (c16 : c ≤ 16) (hs : sgI N = neg) (hN : N.natAbs = dv f c) : xOwn C H v = Int32.ofInt (xTg H v) :: neg :: nI c :: (List.range c).map (fun i => nI (f i)) := by
  have e2 : dgF 16 N.natAbs = (List.range c).map f := by rw [hN]; exact dgF_dc 16 c f hd c16
  unfold xOwn
  rw [if_neg (by omega), if_neg (by omega), if_neg (by omega), e1]
  dsimp only
  rw [hs, e2, List.length_map, List.length_range, List.map_map]
  rfl
set_option maxHeartbeats 1000000 in
/-- told -/
theorem r_207 (hsp : ox_mono sp) {k : Nat} (h : rV S m ce γ B T C nc H) (hH : xHOk nc K H n) (ok : xOk nc H v) (hB : xIn B v) (hk : k < (xOwn C H v).length) (k31 : k < 2 ^ 31) (hQ : Q (some (.inl ((xOwn C H v).getD k (-1)))) S) : ox_M sp (d + 2) 207 [.inr (.inr m), .inl (gV γ v), .inl (srt H v), .inl (nI k)] mr sr S Q := by
  have hE : ox_mono (ox_M sp (d + 1)) := ox_M_mono hsp _
  have k14 : S.K m = 14 := h.1.1
  have nc3 := h.2.2.1
  obtain ⟨c1, c2, c3⟩ := h.1.cells
  obtain ⟨a1, a2, a3⟩ := h.1.row (F := 77) (o := 4) (k := 15) (n := 300) (by decide)
  have k0 : nI k = 0 ↔ k = 0 := nI_eq (b := 0) k31 (by decide)
  by_cases z : v < 16
  · obtain ⟨l1, l2, e0, eg, hc⟩ := h.lo hH ok z
    have ei : (Int32.ofInt v).toInt = v := Int32.toInt_ofInt_of_le (by omega) (by omega)
    have i0 : ∀ _ : Unit, ((0 : Int32) ≤ Int32.ofInt v ↔ 0 ≤ v) := fun _ => by rw [Int32.le_iff_toInt_le, ei]; exact Iff.rfl
    have i3 : ∀ _ : Unit, ((3 : Int32) ≤ Int32.ofInt v ↔ 3 ≤ v) := fun _ => by rw [Int32.le_iff_toInt_le, ei]; exact Iff.rfl
    have e3 : ∀ _ : Unit, (Int32.ofInt v = 3 ↔ v = 3) := fun _ => ofI_eq (k := 3) (by omega) (by omega) (by omega) (by omega)
    by_cases z0 : v < 0
    · have ow : xOwn C H v = [10, nI (cdA (C (-1 - v).toNat).1)] := by
        unfold xOwn xTg
        rw [if_pos z0, if_pos z0]
        rfl
      rw [ow] at hk hQ
      have ec : (-1 : Int32) - gV γ v = nI (-1 - v).toNat := by rw [eg]; exact ofI_ng l1 z0
      have hc' := hc z0
      have ar := h.2.2.2 _ hc'
      refine f_207 hsp ⟨fun w => absurd ((i0 ()).mp (by rw [← eg]; exact w)) (by omega), fun _ => ⟨fun w => ⟨by rw [k14]; rfl, by rw [a1, a2]; rfl, by rw [a1, a3, ec]; exact vp_in_nI (by omega) (by decide), trivial, ?_⟩, fun w => ⟨trivial, ?_⟩⟩⟩
      · have k1 : k = 1 := by have : k < 2 := hk; have : k ≠ 0 := fun y => w (k0.mpr y); omega
        rw [a1, ec, nI_clamp (show (-1 - v).toNat < 2 ^ 31 by omega), ar]
        rw [k1] at hQ
        exact hQ
      · rw [k0.mp w] at hQ
        exact hQ
    · by_cases z3 : v ≤ 3
      · have ow : xOwn C H v = [Int32.ofInt (xTg H v)] := by
          unfold xOwn
          rw [if_neg z0, if_pos z3]
        rw [ow] at hk hQ
        have hk1 : k = 0 := by have : k < 1 := hk; omega
        rw [hk1] at hQ
        have hQ' : Q (some (.inl (Int32.ofInt (xTg H v)))) S := hQ
        rw [eg]
        refine f_207 hsp ⟨fun _ => ⟨fun w => ⟨fun y => absurd ((e3 ()).mpr (by have := (i3 ()).mp w; omega)) y, fun y => ⟨trivial, ?_⟩⟩, fun w => ⟨trivial, ?_⟩⟩, fun w => absurd ((i0 ()).mpr (by omega)) w⟩
        · have v3 := (e3 ()).mp y
          unfold xTg at hQ'
          rw [v3] at hQ'
          exact hQ'
        · have v2 : v ≤ 2 := by
            by_cases y : v = 3
            · exact absurd ((i3 ()).mpr (by omega)) w
            · omega
          unfold xTg at hQ'
          rw [if_neg z0, if_pos v2] at hQ'
          exact hQ'
      · have ow : xOwn C H v = [9, nI (v - 4).toNat] := by
          unfold xOwn xTg
          rw [if_neg z0, if_neg z3, if_pos l2, if_neg z0, if_neg (by omega), if_neg (by omega), if_pos l2]
          rfl
        rw [ow] at hk hQ
        have yk : xIsK v = true := by
          unfold xIsK
          rw [Bool.and_eq_true, decide_eq_true_iff, decide_eq_true_iff]
          omega
        have e4 : Int32.ofInt v - 4 = nI (v - 4).toNat := ofI_m4 (by omega) l2
        refine f_207 hsp ⟨fun _ => ⟨fun _ => ⟨fun _ => ⟨by decide, by decide, 0, 0, Nat.zero_le _, Nat.zero_le _, h.kind hsp hH ok hB (f_207_41 hE ?_)⟩, fun y => absurd ((e3 ()).mp (by rw [← eg]; exact y)) (by omega)⟩, fun w => absurd (by rw [eg]; exact (i3 ()).mpr (by omega)) w⟩, fun w => absurd (by rw [eg]; exact (i0 ()).mpr (by omega)) w⟩
        rw [if_pos yk, eg]
        refine ⟨fun w => absurd w (by decide), fun _ => ⟨fun w => ⟨trivial, ?_⟩, fun w => ⟨trivial, ?_⟩⟩⟩
        · have k1 : k = 1 := by have : k < 2 := hk; have : k ≠ 0 := fun y => w (k0.mpr y); omega
          rw [k1] at hQ
          rw [e4]
          exact hQ
        · rw [k0.mp w] at hQ
          exact hQ
  · obtain ⟨o, e1, r1, r2, eg⟩ := h.hi hB z
    have g16 := r1.1
    have sz := xSz_2 o
    have nk : ¬ xIsK v = true := fun w => by
      unfold xIsK at w
      rw [Bool.and_eq_true, decide_eq_true_iff, decide_eq_true_iff] at w
      omega
    have es : srt H v = Int32.ofInt (xTo o) := by unfold srt; rw [if_neg z, xTg_o (by omega) e1]
    have et : xTg H v = xTo o := xTg_o (by omega) e1
    have ge0 : (0 : Int32) ≤ nI (γ v) := nI_le (a := 0) (Nat.zero_le _) (by omega)
    have ge3 : (3 : Int32) ≤ nI (γ v) := nI_le (a := 3) (by omega) (by omega)
    have ne3 : ¬ nI (γ v) = 3 := fun w => by have := (nI_eq (b := 3) (by omega) (by decide)).mp w; omega
    have hd : ∀ mr sr, q_207_41 (ox_M sp (d + 1)) m (nI (γ v)) (srt H v) (nI k) 0 S mr sr Q → ox_M sp (d + 2) 207 [.inr (.inr m), .inl (nI (γ v)), .inl (srt H v), .inl (nI k)] (mr + 0) (sr + 0) S Q := fun mr sr q => by
      refine f_207 hsp ⟨fun _ => ⟨fun _ => ⟨fun _ => ⟨by decide, by decide, 0, 0, Nat.zero_le _, Nat.zero_le _, ?_⟩, fun y => absurd y ne3⟩, fun w => absurd ge3 w⟩, fun w => absurd ge0 w⟩
      rw [← eg]
      refine h.kind hsp hH ok hB ?_
      rw [if_neg nk, eg]
      exact f_207_41 hE q
    rw [eg]
    refine hd mr sr ?_
    rw [es]
    have nk1 : nI (γ v) + nI k = nI (γ v + k) := nI_add _ _
    match o, e1, r1, r2, sz, et with
    | .inl N, e1, ⟨_, f, c, neg, mn, hd, h0, hN, hc⟩, r2, sz, et =>
      have ow := own_num (C := C) (by omega) e1 hd mn.2.1 (mn.sgI hd h0 hN) (nv_abs hN)
      rw [ow, et] at hQ
      rw [ow] at hk
      have hk' : k < c + 3 := by
        have : k < (Int32.ofInt (xTg H v) :: neg :: nI c :: (List.range c).map (fun i => nI (f i))).length := hk
        rw [List.length_cons, List.length_cons, List.length_cons, List.length_map, List.length_range] at this
        exact this
      have sz3 : xSz (.inl N) = 3 + c := by show 3 + dl 16 N.natAbs = _; rw [hc]
      have r2' : γ v + (3 + c) ≤ 1100000 := by rw [← sz3]; exact r2
      refine ⟨fun _ => ⟨fun _ => ⟨fun _ => ⟨fun _ => ⟨fun w => ⟨fun _ => ⟨by rw [k14]; rfl, by rw [c1, c2]; rfl, by rw [c1, c3, nk1]; exact vp_in_nI (by omega) (by decide), trivial, ?_⟩, fun y => absurd y (show ¬ Int32.ofInt 3 = 4 by decide)⟩, fun w => ⟨fun y => absurd (show Int32.ofInt 3 = 3 by decide) y, fun _ => ⟨trivial, ?_⟩⟩⟩, fun y => absurd y (show ¬ Int32.ofInt 3 = 5 by decide)⟩, fun y => absurd y (show ¬ Int32.ofInt 3 = 6 by decide)⟩, fun y => absurd y (show ¬ Int32.ofInt 3 = 7 by decide)⟩, fun w => absurd rfl w⟩
      · have kn : k ≠ 0 := fun y => w (k0.mpr y)
        rw [c1, nk1, nI_clamp (show γ v + k < 2 ^ 31 by omega)]
        rcases mn.2.2 with y | ⟨y1, y2, y3, y4, y5, y6, y7⟩
        · omega
        · match k, kn, hk', hQ with
          | 1, _, _, hQ => rw [y4]; exact hQ
          | 2, _, _, hQ => rw [y6]; exact hQ
          | i + 3, _, hk', hQ =>
            have hi : i < c := by omega
            rw [show γ v + (i + 3) = γ v + 3 + i by omega, y7 i hi]
            have e : (Int32.ofInt (xTo (.inl N)) :: neg :: nI c :: (List.range c).map (fun i => nI (f i))).getD (i + 3) (-1) = nI (f i) := by
              show ((List.range c).map (fun i => nI (f i))).getD i (-1) = nI (f i)
              rw [List.getD_eq_getElem?_getD, List.getElem?_map, List.getElem?_range hi]
              rfl
            rw [e] at hQ
            exact hQ
      · rw [k0.mp w] at hQ
        exact hQ
    | .inr (.inl (l, dp)), e1, ⟨_, t1, t2, t3, t4⟩, r2, sz, et =>
      have ow : xOwn C H v = [Int32.ofInt (xTg H v), nI l.length] := by
        unfold xOwn
        rw [if_neg (by omega), if_neg (by omega), if_neg (by omega), e1]
      rw [ow, et] at hQ
      rw [ow] at hk
      have sz3 : xSz (.inr (.inl (l, dp))) = 3 + l.length := rfl
      have n2 : nI (γ v) + 2 = nI (γ v + 2) := nI_add _ 2
      refine ⟨fun _ => ⟨fun _ => ⟨fun _ => ⟨fun _ => ⟨fun w => ⟨fun y => absurd (show Int32.ofInt 4 = 4 by decide) y, fun _ => ⟨by rw [k14]; rfl, by rw [c1, c2]; rfl, by rw [c1, c3, n2]; exact vp_in_nI (by omega) (by decide), trivial, ?_⟩⟩, fun w => ⟨fun _ => ⟨trivial, ?_⟩, fun y => absurd y (show ¬ Int32.ofInt 4 = 3 by decide)⟩⟩, fun y => absurd y (show ¬ Int32.ofInt 4 = 5 by decide)⟩, fun y => absurd y (show ¬ Int32.ofInt 4 = 6 by decide)⟩, fun y => absurd y (show ¬ Int32.ofInt 4 = 7 by decide)⟩, fun w => absurd rfl w⟩
      · have k1 : k = 1 := by have : k < 2 := hk; have : k ≠ 0 := fun y => w (k0.mpr y); omega
        have t3' : S.rI (m + ce) (γ v + 2) = nI l.length := t3
        rw [c1, n2, nI_clamp (show γ v + 2 < 2 ^ 31 by omega), t3']
        rw [k1] at hQ
        exact hQ
      · rw [k0.mp w] at hQ
        exact hQ
    | .inr (.inr (.inl q)), e1, ⟨_, t1, t2, t3, t4⟩, r2, sz, et =>
      have ow : xOwn C H v = [Int32.ofInt (xTg H v), Int32.ofInt q.1, Int32.ofInt q.2.1, Int32.ofInt q.2.2] := by
        unfold xOwn
        rw [if_neg (by omega), if_neg (by omega), if_neg (by omega), e1]
      rw [ow, et] at hQ
      rw [ow] at hk
      have hk' : k < 4 := hk
      have sz3 : xSz (.inr (.inr (.inl q))) = 4 := rfl
      have b1 : S.rI (m + ce) (γ v + 1) = Int32.ofInt q.1 := by rw [← t2, Int32.ofInt_toInt]
      have b2 : S.rI (m + ce) (γ v + 2) = Int32.ofInt q.2.1 := by rw [← t3, Int32.ofInt_toInt]
      have b3 : S.rI (m + ce) (γ v + 3) = Int32.ofInt q.2.2 := by rw [← t4, Int32.ofInt_toInt]
      refine ⟨fun _ => ⟨fun _ => ⟨fun _ => ⟨fun y => absurd (show Int32.ofInt 5 = 5 by decide) y, fun _ => ⟨fun w => ⟨by rw [k14]; rfl, by rw [c1, c2]; rfl, by rw [c1, c3, nk1]; exact vp_in_nI (by omega) (by decide), trivial, ?_⟩, fun w => ⟨trivial, ?_⟩⟩⟩, fun y => absurd y (show ¬ Int32.ofInt 5 = 6 by decide)⟩, fun y => absurd y (show ¬ Int32.ofInt 5 = 7 by decide)⟩, fun w => absurd rfl w⟩
      · have kn : k ≠ 0 := fun y => w (k0.mpr y)
        rw [c1, nk1, nI_clamp (show γ v + k < 2 ^ 31 by omega)]
        match k, kn, hk', hQ with
        | 1, _, _, hQ => rw [b1]; exact hQ
        | 2, _, _, hQ => rw [b2]; exact hQ
        | 3, _, _, hQ => rw [b3]; exact hQ
      · rw [k0.mp w] at hQ
        exact hQ
    | .inr (.inr (.inr (.inl q))), e1, _, r2, sz, et =>
      have ow : xOwn C H v = [Int32.ofInt (xTg H v)] := by
        unfold xOwn
        rw [if_neg (by omega), if_neg (by omega), if_neg (by omega), e1]
      rw [ow, et] at hQ
      rw [ow] at hk
      have hk1 : k = 0 := by have : k < 1 := hk; omega
      rw [hk1] at hQ
      exact ⟨fun _ => ⟨fun _ => ⟨fun y => absurd (show Int32.ofInt 6 = 6 by decide) y, fun _ => ⟨trivial, hQ⟩⟩, fun y => absurd y (show ¬ Int32.ofInt 6 = 7 by decide)⟩, fun w => absurd rfl w⟩
    | .inr (.inr (.inr (.inr c))), e1, ⟨_, t1, t2⟩, r2, sz, et =>
      have ow : xOwn C H v = [Int32.ofInt (xTg H v), nI (cdA (C c).1)] := by
        unfold xOwn
        rw [if_neg (by omega), if_neg (by omega), if_neg (by omega), e1]
      rw [ow, et] at hQ
      rw [ow] at hk
      have hc : c < nc := (hH.2 v _ e1).2.2
      have ar := h.2.2.2 c hc
      have t2' : S.rI (m + ce) (γ v + 1) = nI c := t2
      have sz3 : xSz (.inr (.inr (.inr (.inr c)))) = 2 := rfl
      have n1 : nI (γ v) + 1 = nI (γ v + 1) := nI_1 _
      refine ⟨fun _ => ⟨fun y => absurd (show Int32.ofInt 7 = 7 by decide) y, fun _ => ⟨fun w => ?_, fun w => ⟨trivial, ?_⟩⟩⟩, fun w => absurd rfl w⟩
      · have k1 : k = 1 := by have : k < 2 := hk; have : k ≠ 0 := fun y => w (k0.mpr y); omega
        rw [c1, c2, c3, a1, a2, a3, k14, n1, nI_clamp (show γ v + 1 < 2 ^ 31 by omega), t2', nI_clamp (show c < 2 ^ 31 by omega), ar]
        rw [k1] at hQ
        exact ⟨rfl, rfl, rfl, vp_in_nI (by omega) (by decide), rfl, vp_in_nI (by omega) (by decide), trivial, hQ⟩
      · rw [k0.mp w] at hQ
        exact hQ
end RTl
