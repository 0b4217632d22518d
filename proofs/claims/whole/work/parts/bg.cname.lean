/-! the class's instructions: names -/
def xFindL (w : Int64) : List (Nat × Int) → Nat
  | [] => 0
  | g :: l => if lN g.1 = w then 0 else xFindL w l + 1
def xGetL (w : Int64) : List (Nat × Int) → Option Int
  | [] => none
  | g :: l => if lN g.1 = w then some g.2 else xGetL w l
theorem xFindL_le {w : Int64} : ∀ G : List (Nat × Int), xFindL w G ≤ G.length
  | [] => Nat.le_refl _
  | g :: l => by
    unfold xFindL
    by_cases z : lN g.1 = w
    · rw [if_pos z]; exact Nat.zero_le _
    · rw [if_neg z]; exact Nat.succ_le_succ (xFindL_le l)
theorem xFindL_i {w : Int64} : ∀ (G : List (Nat × Int)) (i : Nat), i ≤ G.length → (∀ j, j < i → lN (G.getD j (0, 0)).1 ≠ w) → (i < G.length → lN (G.getD i (0, 0)).1 = w) → xFindL w G = i
  | [], i, hi, _, _ => by
    have : i = 0 := Nat.le_zero.mp hi
    rw [this]; rfl
  | g :: l, 0, _, _, h2 => by
    unfold xFindL
    rw [if_pos (show lN g.1 = w from h2 (Nat.succ_pos _))]
  | g :: l, i + 1, hi, h1, h2 => by
    unfold xFindL
    rw [if_neg (show ¬ lN g.1 = w from h1 0 (Nat.succ_pos _)), xFindL_i l i (Nat.le_of_succ_le_succ hi) (fun j hj => h1 (j + 1) (Nat.succ_lt_succ hj)) (fun h => h2 (Nat.succ_lt_succ h))]
theorem xFindL_eq {n : Nat} (hn : n < 2 ^ 63) : ∀ G : List (Nat × Int), (∀ g ∈ G, g.1 < 2 ^ 63) → xFindL (lN n) G = xFind n G ∧ xGetL (lN n) G = xGet n G
  | [], _ => ⟨rfl, rfl⟩
  | g :: l, h => by
    obtain ⟨i1, i2⟩ := xFindL_eq hn l (fun g' hg' => h g' (List.mem_cons_of_mem _ hg'))
    have hg := h g List.mem_cons_self
    unfold xFindL xFind xGetL xGet
    by_cases z : g.1 = n
    · rw [if_pos (by rw [z]), if_pos z, if_pos (by rw [z]), if_pos z]; exact ⟨rfl, rfl⟩
    · have z' : ¬ lN g.1 = lN n := fun y => z ((pk_lEQ hg hn).mp y)
      rw [if_neg z', if_neg z, if_neg z', if_neg z, i1, i2]; exact ⟨rfl, rfl⟩
theorem xGetL_find {w : Int64} : ∀ G : List (Nat × Int), xGetL w G = if xFindL w G < G.length then some (G.getD (xFindL w G) (0, 0)).2 else none
  | [] => rfl
  | g :: l => by
    have ih := xGetL_find (w := w) l
    unfold xGetL xFindL
    by_cases z : lN g.1 = w
    · rw [if_pos z, if_pos z, if_pos (show 0 < (g :: l).length from Nat.succ_pos _)]; rfl
    · rw [if_neg z, if_neg z, ih]
      by_cases y : xFindL w l < l.length
      · rw [if_pos y, if_pos (show xFindL w l + 1 < (g :: l).length from Nat.succ_lt_succ y)]; rfl
      · rw [if_neg y, if_neg (show ¬ xFindL w l + 1 < (g :: l).length from fun m => y (Nat.lt_of_succ_lt_succ m))]
theorem xBuilt_r : xBuilt 491260897125 = some 3 := rfl
theorem xBuilt_k {i : Nat} (hi : i < 7) : xBuilt (xKn.getD i 0) = some (4 + (i : Int)) := by
  have : i = 0 ∨ i = 1 ∨ i = 2 ∨ i = 3 ∨ i = 4 ∨ i = 5 ∨ i = 6 := by omega
  rcases this with rfl | rfl | rfl | rfl | rfl | rfl | rfl <;> rfl
theorem xBuilt_n {w : Nat} (h0 : w ≠ 491260897125) (h : ∀ i, i < 7 → w ≠ xKn.getD i 0) : xBuilt w = none := by
  unfold xBuilt
  rw [if_neg h0, if_neg (show ¬ w = 7633264 from h 0 (by decide)), if_neg (show ¬ w = 2053468783 from h 1 (by decide)), if_neg (show ¬ w = 452823639416 from h 2 (by decide)), if_neg (show ¬ w = 508440638821 from h 3 (by decide)), if_neg (show ¬ w = 1851878757 from h 4 (by decide)), if_neg (show ¬ w = 1684366704 from h 5 (by decide)), if_neg (show ¬ w = 1870030194 from h 6 (by decide))]
section CNm
variable {sp : ox_E} {d mr sr : Nat} {S S0 S' T : ox_St} {Q : ox_Q} {x : Nat} {α : Int → Nat} {C : Nat → xCd} {nc K : Nat} {e : xEn} {q : Nat} {st r : List Int} {v u : Int} {a : Nat} {G : List (Nat × Int)} {w : Int64}
theorem c_70_l {E : ox_E} (hE : ox_mono E) (hB : cBs S x) (hG : cGl S x α G) (hl : G.length ≤ 16) (hQ : Q (some (.inl (nI (xFindL w G)))) S) : ∀ (k i mr sr : Nat), i + k = G.length → (∀ j, j < i → lN (G.getD j (0, 0)).1 ≠ w) → c_70_2 E (x + 11) w (nI i) S mr sr Q := by
  have k7 : S.K (x + 11) = 7 := hB.1.obj (by decide)
  have r41 : S.R 41 (x + 11) = x + 13 := hB.1.ref (by decide)
  obtain ⟨k13, l13⟩ := hB.1.row (o := 13) (k := 16) (n := 16) (by decide)
  intro k
  induction k with
  | zero =>
    intro i mr sr hi hall
    obtain rfl : i = G.length := by omega
    have := xFindL_i (w := w) G G.length (Nat.le_refl _) hall (fun z => absurd z (Nat.lt_irrefl _))
    rw [this] at hQ
    exact f_70_2 hE ⟨by rw [k7]; rfl, fun _ => ⟨trivial, hQ⟩, fun z => absurd (by rw [hG.1]; exact nI_le (Nat.le_refl _) (by omega)) z⟩
  | succ k ih =>
    intro i mr sr hi hall
    have hil : i < G.length := by omega
    have hn := (hG.2 i hil).1
    refine f_70_2 hE ⟨by rw [k7]; rfl, fun z => absurd z (by rw [hG.1]; exact nI_ge hil (by omega)), fun _ => ⟨fun z => absurd z (nI_ge (b := 16) (by omega) (by omega)), fun _ => ⟨by rw [k7]; rfl, by rw [r41, k13]; rfl, by rw [r41, l13]; exact vp_in_nI (by omega) (by decide), fun z => ⟨trivial, ?_⟩, fun z => ?_⟩⟩⟩
    · rw [r41, nI_clamp (by omega), hn] at z
      have := xFindL_i (w := w) G i (by omega) hall (fun _ => (lg_cmp_eq _ _).mp z)
      rw [this] at hQ
      exact hQ
    · rw [r41, nI_clamp (by omega), hn] at z
      rw [nI_1]
      refine ih (i + 1) _ _ (by omega) (fun j hj => ?_)
      by_cases y : j = i
      · rw [y]; exact fun m => z ((lg_cmp_eq _ _).mpr m)
      · exact hall j (by omega)
/-- slotOf -/
theorem c_70 (hsp : ox_mono sp) (hB : cBs S x) (hG : cGl S x α G) (hl : G.length ≤ 16) (hQ : Q (some (.inl (nI (xFindL w G)))) S) : ox_M sp (d + 1) 70 [.inr (.inr (x + 11)), .inr (.inl w)] mr sr S Q :=
  f_70 hsp (c_70_l (ox_M_mono hsp _) hB hG hl hQ G.length 0 _ _ (Nat.zero_add _) (fun j hj => absurd hj (Nat.not_lt_zero j)))
/-- storedBy -/
theorem c_45 (hsp : ox_mono sp) (hB : cBs S x) (hG : cGl S x α G) (hl : G.length ≤ 16) (hQ0 : xGetL w G = none → Q (some (.inr (.inr 0))) S) (hQ1 : ∀ v b, xGetL w G = some v → vC S x α v b → Q (some (.inr (.inr b))) S) : ox_M sp (d + 2) 45 [.inr (.inr (x + 11)), .inr (.inl w)] mr sr S Q := by
  have hE : ox_mono (ox_M sp (d + 1)) := ox_M_mono hsp _
  have k7 : S.K (x + 11) = 7 := hB.1.obj (by decide)
  have r42 : S.R 42 (x + 11) = x + 14 := hB.1.ref (by decide)
  obtain ⟨k14, l14⟩ := hB.1.row (o := 14) (k := 19) (n := 16) (by decide)
  have hf := xFindL_le (w := w) G
  have hg := xGetL_find (w := w) G
  refine f_45 hsp ⟨by decide, k7, by decide, 0, 0, Nat.zero_le _, Nat.zero_le _, c_70 hsp hB hG hl (f_45_5 hE ⟨by rw [k7]; rfl, fun z => ⟨rfl, hQ0 ?_⟩, fun z => ⟨by rw [k7]; rfl, by rw [r42, k14]; rfl, ?_, rfl, ?_⟩⟩)⟩
  · rw [hG.1] at z
    have := (nI_leI (by omega) (by omega)).mp z
    rw [hg, if_neg (by omega)]
  · rw [hG.1] at z
    have : ¬ G.length ≤ xFindL w G := fun y => z (nI_le y (by omega))
    rw [r42, l14]; exact vp_in_nI (by omega) (by decide)
  · rw [hG.1] at z
    have hlt : xFindL w G < G.length := Nat.lt_of_not_le fun y => z (nI_le y (by omega))
    rw [if_pos hlt] at hg
    rw [r42, nI_clamp (by omega)]
    exact hQ1 _ _ hg (hG.2 _ hlt).2
theorem c_71_l {E : ox_E} (hE : ox_mono E) (hB : cBs S x) {n : Nat} (hn : n < 2 ^ 63) (n0 : n ≠ 491260897125) (hQ0 : xBuilt n = none → Q (some (.inr (.inr 0))) S) (hQ1 : ∀ i : Nat, i < 7 → xBuilt n = some (4 + (i : Int)) → Q (some (.inr (.inr (x + 68 + i)))) S) : ∀ (k i mr sr : Nat), i + k = 7 → (∀ j, j < i → n ≠ xKn.getD j 0) → c_71_26 E (x + 11) (lN n) 0 (nI i) S mr sr Q := by
  have k7 : S.K (x + 11) = 7 := hB.1.obj (by decide)
  have r47 : S.R 47 (x + 11) = x + 18 := hB.1.ref (by decide)
  obtain ⟨k18, l18⟩ := hB.1.row (o := 18) (k := 19) (n := 7) (by decide)
  obtain ⟨s1, s2, s3, s4⟩ := hB.2.2.2.2
  have xk : ∀ i, i < 7 → xKn.getD i 0 < 2 ^ 63 := by decide
  intro k
  induction k with
  | zero =>
    intro i mr sr hi hall
    obtain rfl : i = 7 := by omega
    exact f_71_26 hE ⟨fun z => absurd rfl z, fun _ => ⟨fun _ => ⟨rfl, hQ0 (xBuilt_n n0 hall)⟩, fun z => absurd (by decide) z⟩⟩
  | succ k ih =>
    intro i mr sr hi hall
    have hi7 : i < 7 := by omega
    refine f_71_26 hE ⟨fun z => absurd rfl z, fun _ => ⟨fun z => absurd z (nI_ge (b := 7) hi7 (by decide)), fun _ => ⟨by rw [s2]; rfl, by rw [s3]; exact vp_in_nI hi7 (by decide), fun z => ?_, fun z => ⟨by rw [k7]; rfl, by rw [r47, k18]; rfl, by rw [r47, l18]; exact vp_in_nI hi7 (by decide), ?_⟩⟩⟩⟩
    · rw [nI_clamp (by omega), s4 i hi7] at z
      rw [nI_1]
      refine ih (i + 1) _ _ (by omega) (fun j hj => ?_)
      by_cases y : j = i
      · rw [y]; exact fun m => z ((lg_cmp_eq _ _).mpr (by rw [m]))
      · exact hall j (by omega)
    · rw [nI_clamp (by omega), s4 i hi7] at z
      have e1 : n = xKn.getD i 0 := (pk_lEQ hn (xk i hi7)).mp ((lg_cmp_eq _ _).mp z)
      rw [r47, nI_clamp (by omega), hB.1.kind hi7]
      refine f_71_26 hE ⟨fun _ => ⟨rfl, hQ1 i hi7 (by rw [e1]; exact xBuilt_k hi7)⟩, fun z => absurd z (by have := hB.2.1; omega)⟩
/-- namedBy -/
theorem c_71 (hsp : ox_mono sp) (hB : cBs S x) (hG : cGl S x α G) (hl : G.length ≤ 16) {n : Nat} (hn : n < 2 ^ 63) (hg : ∀ g ∈ G, g.1 < 2 ^ 63) (hQ0 : xGet n G = none → xBuilt n = none → Q (some (.inr (.inr 0))) S) (hQ1 : ∀ v b, xGet n G = some v → vC S x α v b → Q (some (.inr (.inr b))) S) (hQ2 : ∀ v b, xGet n G = none → xBuilt n = some v → vC S x α v b → Q (some (.inr (.inr b))) S) : ox_M sp (d + 3) 71 [.inr (.inr (x + 11)), .inr (.inl (lN n))] mr sr S Q := by
  have hE : ox_mono (ox_M sp (d + 2)) := ox_M_mono hsp _
  have k7 : S.K (x + 11) = 7 := hB.1.obj (by decide)
  have r46 : S.R 46 (x + 11) = x + 17 := hB.1.ref (by decide)
  have x0 := hB.2.1
  have xn := hB.2.2.2.1
  obtain ⟨-, eg⟩ := xFindL_eq hn G hg
  refine f_71 hsp ⟨by decide, k7, by decide, 0, 0, Nat.zero_le _, Nat.zero_le _, c_45 hsp hB hG hl (fun z => f_71_5 hE ⟨fun y => absurd rfl y, fun _ => ⟨fun y => ?_, fun y => ⟨by rw [k7]; rfl, rfl, ?_⟩⟩⟩) (fun v b z hv => f_71_5 hE ⟨fun _ => f_71_26 hE ⟨fun _ => ⟨rfl, hQ1 v b (eg.symm.trans z) hv⟩, fun y => absurd y hv.1⟩, fun y => absurd y hv.1⟩)⟩
  · have n0 : n ≠ 491260897125 := fun m => y (by rw [m]; rfl)
    refine c_71_l hE hB hn n0 (fun m => hQ0 (eg.symm.trans z) m) (fun i hi m => hQ2 _ _ (eg.symm.trans z) m ⟨by omega, by omega, by omega, Or.inr (Or.inr (Or.inr (Or.inl ⟨by omega, by omega, by omega⟩)))⟩) 7 0 _ _ rfl (fun j hj => absurd hj (Nat.not_lt_zero j))
  · have e1 : n = 491260897125 := (pk_lEQ hn (by decide)).mp ((lg_cmp_eq _ _).mp y)
    rw [r46]
    exact hQ2 3 _ (eg.symm.trans z) (by rw [e1]; rfl) ⟨by omega, by omega, by omega, Or.inr (Or.inr (Or.inl ⟨rfl, rfl⟩))⟩
end CNm
