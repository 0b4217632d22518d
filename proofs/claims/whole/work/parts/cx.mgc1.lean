/-! the reference: collecting, one object -/
/-- where the moved ones lie; the latest first -/
def gD (H : xHp) : List Int → Int → Nat
  | [], _ => 0
  | v :: M, u => if u = v then 16 + xSzA H M else gD H M u
section GD
variable {H : xHp} {M N A : List Int} {u v : Int}
theorem gD_mem : ∀ {M : List Int} {v : Int}, v ∈ M → 16 ≤ gD H M v ∧ gD H M v + xSo (H v) ≤ 16 + xSzA H M
  | w :: M, v, h => by
    show 16 ≤ (if v = w then 16 + xSzA H M else gD H M v) ∧ (if v = w then 16 + xSzA H M else gD H M v) + xSo (H v) ≤ 16 + (xSo (H w) + xSzA H M)
    by_cases z : v = w
    · rw [if_pos z, z]; omega
    · rw [if_neg z]
      have := gD_mem ((List.mem_cons.mp h).resolve_left z)
      omega
theorem gD_dis : ∀ {M : List Int}, M.Nodup → ∀ {u v : Int}, u ∈ M → v ∈ M → u ≠ v → gD H M u + xSo (H u) ≤ gD H M v ∨ gD H M v + xSo (H v) ≤ gD H M u
  | w :: M, nd, u, v, hu, hv, ne => by
    show (if u = w then 16 + xSzA H M else gD H M u) + xSo (H u) ≤ (if v = w then 16 + xSzA H M else gD H M v) ∨ (if v = w then 16 + xSzA H M else gD H M v) + xSo (H v) ≤ (if u = w then 16 + xSzA H M else gD H M u)
    by_cases zu : u = w
    · have zv : v ≠ w := fun z => ne (zu.trans z.symm)
      have := gD_mem (H := H) ((List.mem_cons.mp hv).resolve_left zv)
      rw [if_pos zu, if_neg zv]
      exact Or.inr this.2
    · by_cases zv : v = w
      · have := gD_mem (H := H) ((List.mem_cons.mp hu).resolve_left zu)
        rw [if_neg zu, if_pos zv]
        exact Or.inl this.2
      · rw [if_neg zu, if_neg zv]
        exact gD_dis (List.nodup_cons.mp nd).2 ((List.mem_cons.mp hu).resolve_left zu) ((List.mem_cons.mp hv).resolve_left zv) ne
theorem gD_app : ∀ {N : List Int}, (N ++ M).Nodup → u ∈ M → gD H (N ++ M) u = gD H M u
  | [], _, _ => rfl
  | w :: N, nd, hu => by
    have nd' := List.nodup_cons.mp nd
    have ne : u ≠ w := fun z => nd'.1 (by rw [← z]; exact List.mem_append_right _ hu)
    show (if u = w then 16 + xSzA H (N ++ M) else gD H (N ++ M) u) = gD H M u
    rw [if_neg ne]
    exact gD_app nd'.2 hu
theorem gD_at : ∀ {N : List Int}, (N ++ v :: M).Nodup → gD H (N ++ v :: M) v = 16 + xSzA H M := fun nd => by
  rw [gD_app nd List.mem_cons_self]
  exact if_pos rfl
theorem xSzA_app : ∀ (N : List Int), xSzA H (N ++ M) = xSzA H N + xSzA H M
  | [] => (Nat.zero_add _).symm
  | w :: N => by
    show xSo (H w) + xSzA H (N ++ M) = xSo (H w) + xSzA H N + xSzA H M
    rw [xSzA_app N]
    omega
theorem xSzA_erase : ∀ {A : List Int}, v ∈ A → xSzA H A = xSo (H v) + xSzA H (A.erase v)
  | w :: A, h => by
    by_cases z : w = v
    · rw [z, List.erase_cons_head]; rfl
    · rw [List.erase_cons_tail (by rw [beq_iff_eq]; exact z)]
      show xSo (H w) + xSzA H A = xSo (H v) + (xSo (H w) + xSzA H (A.erase v))
      rw [xSzA_erase ((List.mem_cons.mp h).resolve_left (fun y => z y.symm))]
      omega
theorem xSzA_sub : ∀ {M A : List Int}, M.Nodup → (∀ v ∈ M, v ∈ A) → xSzA H M ≤ xSzA H A ∧ M.length ≤ A.length
  | [], A, _, _ => ⟨Nat.zero_le _, Nat.zero_le _⟩
  | w :: M, A, nd, h => by
    have nd' := List.nodup_cons.mp nd
    have hw := h w List.mem_cons_self
    obtain ⟨h1, h2⟩ := xSzA_sub (A := A.erase w) nd'.2 (fun v hv => (List.mem_erase_of_ne (fun z => nd'.1 (by rw [← z]; exact hv))).mpr (h v (List.mem_cons_of_mem _ hv)))
    rw [List.length_erase_of_mem hw] at h2
    have : 0 < A.length := List.length_pos_of_mem hw
    refine ⟨?_, by rw [List.length_cons]; omega⟩
    rw [xSzA_erase hw]
    show xSo (H w) + xSzA H M ≤ _
    omega
/-- more are moved -/
def gX (M M' : List Int) : Prop := ∃ N, M' = N ++ M ∧ M'.Nodup
theorem gX.refl (h : M.Nodup) : gX M M := ⟨[], rfl, h⟩
theorem gX.trans {M1 M2 M3 : List Int} (h : gX M1 M2) (g : gX M2 M3) : gX M1 M3 := by
  obtain ⟨N, h1, h2⟩ := h
  obtain ⟨N', g1, g2⟩ := g
  exact ⟨N' ++ N, by rw [g1, h1, List.append_assoc], g2⟩
theorem gX.in {M' : List Int} (h : gX M M') (hu : xIn M u) : xIn M' u ∧ gV (gD H M') u = gV (gD H M) u := by
  obtain ⟨N, h1, h2⟩ := h
  refine ⟨hu.mono (fun w hw => by rw [h1]; exact List.mem_append_right _ hw), gV_congr (fun z => ?_)⟩
  rw [h1] at h2 ⊢
  exact gD_app h2 (hu.resolve_left (by omega))
end GD
/-- an object's size is told by its cells -/
def szC (S : ox_St) (a p : Nat) (o : xOb) : Prop := S.rI a p = Int32.ofInt (xTo o) ∧ (xTo o = 3 ∨ xTo o = 4 → S.rI a (p + 2) = nI (xSz o - 3))
section GC1
variable {sp : ox_E} {d mr sr : Nat} {S S0 S' : ox_St} {Q : ox_Q} {m ce a p : Nat} {γ : Int → Nat} {B M : List Int} {T : Nat} {nc K : Nat} {u v n : Int} {H : xHp} {o : xOb}
theorem rO.szC (h : rO S a γ v o) : szC S a (γ v) o := by
  obtain ⟨h1, h2⟩ := h
  match o, h2 with
  | .inl N, ⟨f, n, neg, ⟨m1, m2, m3⟩, g2, g3, g4, g5⟩ =>
    have sz : xSz (.inl N) = 3 + n := by show 3 + dl 16 N.natAbs = _; rw [g5]
    rcases m3 with z | z
    · omega
    · exact ⟨z.2.2.1, fun _ => by rw [sz, z.2.2.2.2.2.1]; exact congrArg nI (by omega)⟩
  | .inr (.inl q), ⟨g1, g2, g3, g4⟩ =>
    have sz : xSz (.inr (.inl q)) = 3 + q.1.length := rfl
    exact ⟨g1, fun _ => by rw [sz, g3]; exact congrArg nI (by omega)⟩
  | .inr (.inr (.inl q)), h2 => exact ⟨h2.1, fun z => absurd z (show ¬ ((5 : Int) = 3 ∨ (5 : Int) = 4) by decide)⟩
  | .inr (.inr (.inr (.inl q))), h2 => exact ⟨h2.1, fun z => absurd z (show ¬ ((6 : Int) = 3 ∨ (6 : Int) = 4) by decide)⟩
  | .inr (.inr (.inr (.inr c))), h2 => exact ⟨h2.1, fun z => absurd z (show ¬ ((7 : Int) = 3 ∨ (7 : Int) = 4) by decide)⟩
theorem s_129 (hsp : ox_mono sp) (hk : S.K a = 15) (hl : S.len a = 1100000) (hp : p + xSz o ≤ 1100000) (hc : szC S a p o) (hQ : Q (some (.inl (nI (xSz o)))) S) : ox_M sp (d + 1) 129 [.inr (.inr a), .inl (nI p)] mr sr S Q := by
  have s2 := xSz_2 o
  obtain ⟨c1, c2⟩ := hc
  have n2 : nI p + 2 = nI (p + 2) := nI_add p 2
  refine f_129 hsp ?_
  unfold q_129
  rw [hk, hl, n2, nI_clamp (show p < 2 ^ 31 by omega), nI_clamp (show p + 2 < 2 ^ 31 by omega), c1]
  have i0 : vp_in (nI p) 1100000 := vp_in_nI (by omega) (by decide)
  match o, s2, hp, c1, c2, hQ with
  | .inl N, s2, hp, c1, c2, hQ =>
    have sz : xSz (.inl N) = 3 + dl 16 N.natAbs := rfl
    have c2' := c2 (Or.inl rfl)
    rw [c2', show (3 : Int32) + nI (xSz (.inl N) - 3) = nI (xSz (.inl N)) from by rw [show (3 : Int32) = nI 3 from rfl, nI_add]; exact congrArg nI (by omega)]
    exact ⟨rfl, i0, fun _ => ⟨rfl, vp_in_nI (by omega) (by decide), trivial, hQ⟩, fun z => absurd (show Int32.ofInt 3 = 3 by decide) z⟩
  | .inr (.inl q), s2, hp, c1, c2, hQ =>
    have sz : xSz (.inr (.inl q)) = 3 + q.1.length := rfl
    have c2' := c2 (Or.inr rfl)
    rw [c2', show (3 : Int32) + nI (xSz (.inr (.inl q)) - 3) = nI (xSz (.inr (.inl q))) from by rw [show (3 : Int32) = nI 3 from rfl, nI_add]; exact congrArg nI (by omega)]
    exact ⟨rfl, i0, fun z => absurd z (show ¬ Int32.ofInt 4 = 3 by decide), fun _ => ⟨rfl, i0, fun z => absurd (show Int32.ofInt 4 = 4 by decide) z, fun _ => ⟨rfl, vp_in_nI (by omega) (by decide), trivial, hQ⟩⟩⟩
  | .inr (.inr (.inl q)), s2, hp, c1, c2, hQ =>
    exact ⟨rfl, i0, fun z => absurd z (show ¬ Int32.ofInt 5 = 3 by decide), fun _ => ⟨rfl, i0, fun _ => ⟨rfl, i0, fun z => absurd (show Int32.ofInt 5 = 5 by decide) z, fun _ => ⟨trivial, hQ⟩⟩, fun z => absurd z (show ¬ Int32.ofInt 5 = 4 by decide)⟩⟩
  | .inr (.inr (.inr (.inl q))), s2, hp, c1, c2, hQ =>
    exact ⟨rfl, i0, fun z => absurd z (show ¬ Int32.ofInt 6 = 3 by decide), fun _ => ⟨rfl, i0, fun _ => ⟨rfl, i0, fun _ => ⟨rfl, i0, fun z => absurd (show Int32.ofInt 6 = 6 by decide) z, fun _ => ⟨trivial, hQ⟩⟩, fun z => absurd z (show ¬ Int32.ofInt 6 = 5 by decide)⟩, fun z => absurd z (show ¬ Int32.ofInt 6 = 4 by decide)⟩⟩
  | .inr (.inr (.inr (.inr c))), s2, hp, c1, c2, hQ =>
    exact ⟨rfl, i0, fun z => absurd z (show ¬ Int32.ofInt 7 = 3 by decide), fun _ => ⟨rfl, i0, fun _ => ⟨rfl, i0, fun _ => ⟨rfl, i0, fun _ => ⟨trivial, hQ⟩, fun z => absurd z (show ¬ Int32.ofInt 7 = 6 by decide)⟩, fun z => absurd z (show ¬ Int32.ofInt 7 = 5 by decide)⟩, fun z => absurd z (show ¬ Int32.ofInt 7 = 4 by decide)⟩⟩
/-- M moved; S0: as it was -/
def gI (S0 S : ox_St) (m ce : Nat) (γ : Int → Nat) (B : List Int) (H : xHp) (M : List Int) : Prop := oML S m ce ∧ (M.Nodup ∧ ∀ v ∈ M, v ∈ B) ∧ S.I 75 m = nI (16 + xSzA H M) ∧ (∀ v ∈ M, S.rI (m + ce) (γ v) = -nI (gD H M v)) ∧ ∀ j, (∀ v ∈ M, j ≠ γ v) → S.rI (m + ce) j = S0.rI (m + ce) j
/-- an object copied as it was -/
def gRw (S0 S : ox_St) (m ce : Nat) (γ : Int → Nat) (H : xHp) (M : List Int) (v : Int) : Prop := ∀ k, k < xSo (H v) → S.rI (m + (5 - ce)) (gD H M v + k) = S0.rI (m + ce) (γ v + k)
/-- what moving one leaves alone: t cells of the other half are used -/
def gCh (m ce t : Nat) (S S' : ox_St) : Prop := S'.K = S.K ∧ S'.len = S.len ∧ S'.n = S.n ∧ S'.R = S.R ∧ S'.J = S.J ∧ S'.rR = S.rR ∧ S'.rJ = S.rJ ∧ (∀ F a, a ≠ m ∨ F ≠ 75 → S'.I F a = S.I F a) ∧ (∀ a, a ≠ m + ce → a ≠ m + (5 - ce) → S'.rI a = S.rI a) ∧ ∀ j, j < t → S'.rI (m + (5 - ce)) j = S.rI (m + (5 - ce)) j
theorem gCh.refl {t : Nat} : gCh m ce t S S := ⟨rfl, rfl, rfl, rfl, rfl, rfl, rfl, fun _ _ _ => rfl, fun _ _ _ => rfl, fun _ _ => rfl⟩
theorem gCh.trans {t : Nat} {U : ox_St} (h : gCh m ce t S S') (g : gCh m ce t S' U) : gCh m ce t S U := by
  obtain ⟨h1, h2, h3, h4, h5, h6, h7, h8, h9, h10⟩ := h
  obtain ⟨g1, g2, g3, g4, g5, g6, g7, g8, g9, g10⟩ := g
  exact ⟨g1.trans h1, g2.trans h2, g3.trans h3, g4.trans h4, g5.trans h5, g6.trans h6, g7.trans h7, fun F a z => (g8 F a z).trans (h8 F a z), fun a z1 z2 => (g9 a z1 z2).trans (h9 a z1 z2), fun j hj => (g10 j hj).trans (h10 j hj)⟩
theorem oML.gch {t : Nat} (h : oML S m ce) (g : gCh m ce t S S') : oML S' m ce := h.next g.1 g.2.1 (fun F => by rw [g.2.2.2.1])
theorem oML.other (h : oML S m ce) : S.R 74 m = m + (5 - ce) ∧ S.K (m + (5 - ce)) = 15 ∧ S.len (m + (5 - ce)) = 1100000 := ⟨h.2.2.2.1.2, (h.2.2.2.2 (5 - ce) (by have := h.2.2.1; omega)).1, (h.2.2.2.2 (5 - ce) (by have := h.2.2.1; omega)).2⟩
/-- the copying itself -/
theorem s_130_l {E : ox_E} (hE : ox_mono E) {q N t : Nat} (hq0 : q < 1100000) (hq : q + N ≤ 1100000) (ht : t + N ≤ 1100000) (hQ : ∀ U, oML U m ce → gCh m ce t S U → U.rI (m + ce) = S.rI (m + ce) → U.I 75 m = nI t → (∀ j, j < N → U.rI (m + (5 - ce)) (t + j) = S.rI (m + ce) (q + j)) → Q (some (.inl (nI t))) ((U.wI (m + ce) q (-nI t)).sI 75 m (nI (t + N)))) : ∀ (k i mr sr : Nat) (U : ox_St), i + k = N → oML U m ce → gCh m ce t S U → U.rI (m + ce) = S.rI (m + ce) → U.I 75 m = nI t → (∀ j, j < i → U.rI (m + (5 - ce)) (t + j) = S.rI (m + ce) (q + j)) → c_130_36 E m (nI q) (nI N) (nI i) U mr sr Q := by
  intro k
  induction k with
  | zero =>
    intro i mr sr U hi h ch hc h75 hr
    have hi' : i = N := hi
    subst hi'
    obtain ⟨c1, c2, c3⟩ := h.cells
    refine f_130_36 hE ⟨fun _ => ⟨by rw [h.1]; rfl, by rw [h.1]; rfl, by rw [c1]; exact c2, by rw [c1, c3]; exact vp_in_nI hq0 (by decide), ?_⟩, fun z => absurd (nI_le (Nat.le_refl _) (by omega)) z⟩
    rw [c1, h75, nI_clamp (show q < 2 ^ 31 by omega)]
    refine ⟨by rw [or_wI_K, h.1]; rfl, by rw [or_wI_K, h.1]; rfl, ?_⟩
    rw [or_wI_I, h75, nI_add]
    refine ⟨by rw [or_sI_K, or_wI_K, h.1]; rfl, trivial, ?_⟩
    rw [or_sI_I, if_pos ⟨rfl, rfl⟩, pk_sub (by omega), Nat.add_sub_cancel]
    exact hQ U h ch hc h75 hr
  | succ k ih =>
    intro i mr sr U hi h ch hc h75 hr
    obtain ⟨c1, c2, c3⟩ := h.cells
    obtain ⟨o1, o2, o3⟩ := h.other
    have hce := h.2.2.1
    refine f_130_36 hE ⟨fun z => absurd z (nI_ge (by omega) (by omega)), fun _ => ⟨by rw [h.1]; rfl, by rw [h.1]; rfl, by rw [h.1]; rfl, by rw [c1, c2]; rfl, by rw [c1, c3, nI_add]; exact vp_in_nI (by omega) (by decide), by rw [o1]; exact o2, by rw [o1, o3, h75, nI_add]; exact vp_in_nI (by omega) (by decide), ?_⟩⟩
    rw [c1, o1, h75, nI_add, nI_add, nI_clamp (show t + i < 2 ^ 31 by omega), nI_clamp (show q + i < 2 ^ 31 by omega), nI_1, hc]
    have er : ∀ a j, (U.wI (m + (5 - ce)) (t + i) (S.rI (m + ce) (q + i))).rI a j = if a = m + (5 - ce) ∧ j = t + i then S.rI (m + ce) (q + i) else U.rI a j := fun a j => or_wI_rI _ _ _ _ _ _
    have ch2 : gCh m ce t U (U.wI (m + (5 - ce)) (t + i) (S.rI (m + ce) (q + i))) := ⟨or_wI_K _ _ _ _, or_wI_len _ _ _ _, or_wI_n _ _ _ _, or_wI_R _ _ _ _, or_wI_J _ _ _ _, or_wI_rR _ _ _ _, or_wI_rJ _ _ _ _, fun F a _ => by rw [or_wI_I], fun a _ z2 => funext fun j => by rw [er, if_neg (fun y => z2 y.1)], fun j hj => by rw [er, if_neg (fun y => by have := y.2; omega)]⟩
    have eI : (U.wI (m + (5 - ce)) (t + i) (S.rI (m + ce) (q + i))).I 75 m = nI t := by rw [or_wI_I]; exact h75
    generalize U.wI (m + (5 - ce)) (t + i) (S.rI (m + ce) (q + i)) = V at er ch2 eI ⊢
    refine ih (i + 1) mr sr V (by omega) (h.gch ch2) (ch.trans ch2) (by rw [← hc]; exact funext fun j => by rw [er, if_neg (fun y => by have := y.1; omega)]) eI (fun j hj => ?_)
    by_cases z : j = i
    · rw [z, er, if_pos ⟨rfl, rfl⟩]
    · rw [er, if_neg (fun y => by have := y.2; omega)]
      exact hr j (by omega)
/-- moved -/
theorem r_130 (hsp : ox_mono sp) (h0 : rHp S0 (m + ce) γ B H T) (hH : xHOk nc K H n) (hnc : nc ≤ 300) (hI : gI S0 S m ce γ B H M) (hB : xIn B u) (ok : xOk nc H u) (hL : 16 + xSzA H M ≤ 1100000) (hM : 16 ≤ u → u ∉ M → 16 + xSzA H (u :: M) ≤ 1100000) (hQ : ∀ S' M', (M' = M ∨ (16 ≤ u ∧ u ∉ M ∧ M' = u :: M)) → xIn M' u → gI S0 S' m ce γ B H M' → gCh m ce (16 + xSzA H M) S S' → (∀ v ∈ M', v ∉ M → gRw S0 S' m ce γ H M' v) → Q (some (.inl (gV (gD H M') u))) S') : ox_M sp (d + 2) 130 [.inr (.inr m), .inl (gV γ u)] mr sr S Q := by
  have hE : ox_mono (ox_M sp (d + 1)) := ox_M_mono hsp _
  obtain ⟨i1, ⟨i2, i3⟩, i4, i5, i6⟩ := id hI
  obtain ⟨c1, c2, c3⟩ := i1.cells
  have hce := i1.2.2.1
  have T1 := h0.2.2.2.2
  by_cases u16 : u < 16
  · have e0 : H u = none := by
      cases e1 : H u with
      | none => rfl
      | some o => have := (hH.2 u o e1).1; omega
    have lo : -300 ≤ u := by
      rcases ok with w | w
      · omega
      · exact absurd e0 w
    have eg : ∀ δ : Int → Nat, gV δ u = Int32.ofInt u := fun δ => if_pos u16
    have lt : ¬ (16 : Int32) ≤ Int32.ofInt u := fun w => by
      have := ofI_lt (k := 16) (by omega) u16 (by omega)
      rw [Int32.lt_iff_toInt_lt] at this
      rw [Int32.le_iff_toInt_le] at w
      have e16 : (Int32.ofInt 16).toInt = (16 : Int32).toInt := rfl
      omega
    have := hQ S M (Or.inl rfl) (Or.inl u16) hI gCh.refl (fun v z1 z2 => absurd z1 z2)
    rw [eg] at this ⊢
    exact f_130 hsp ⟨fun w => absurd w lt, fun _ => ⟨trivial, this⟩⟩
  · have uB : u ∈ B := hB.resolve_left u16
    obtain ⟨o, e1, -⟩ := h0.1.2 u uB
    obtain ⟨-, r1, r2⟩ := h0.2.1 u uB o e1
    have g16 := r1.1
    have s2 := xSz_2 o
    have eg : gV γ u = nI (γ u) := if_neg u16
    have ge : (16 : Int32) ≤ nI (γ u) := nI_le (a := 16) g16 (by omega)
    rw [eg]
    by_cases uM : u ∈ M
    · obtain ⟨d1, d2⟩ := gD_mem (H := H) uM
      have row := i5 u uM
      have e2 : gV (gD H M) u = nI (gD H M u) := if_neg u16
      have sM : 16 + xSzA H M ≤ 1100000 := hL
      have neg : ¬ (0 : Int32) ≤ -nI (gD H M u) := fun w => by
        rw [Int32.le_iff_toInt_le, Int32.toInt_neg, nI_toInt (by omega), Int.bmod_eq_of_le (by omega) (by omega)] at w
        have : (0 : Int32).toInt = 0 := rfl
        omega
      have := hQ S M (Or.inl rfl) (Or.inr uM) hI gCh.refl (fun v z1 z2 => absurd z1 z2)
      rw [e2] at this
      refine f_130 hsp ⟨fun _ => ⟨by rw [i1.1]; rfl, by rw [c1, c2]; rfl, by rw [c1, c3]; exact vp_in_nI (by omega) (by decide), ?_⟩, fun w => absurd ge w⟩
      rw [c1, c2, c3, nI_clamp (show γ u < 2 ^ 31 by omega), row]
      exact ⟨fun w => absurd w neg, fun _ => ⟨by rw [i1.1]; rfl, rfl, vp_in_nI (by omega) (by decide), trivial, by rw [Int32.neg_neg]; exact this⟩⟩
    · have so : xSo (H u) = xSz o := by rw [e1]; rfl
      have hM' := hM (by omega) uM
      have hMs : 16 + (xSo (H u) + xSzA H M) ≤ 1100000 := hM'
      have dis : ∀ v ∈ M, ∀ k, k < xSz o → γ u + k ≠ γ v := fun v hv k hk z => by
        obtain ⟨p, e2, -⟩ := h0.1.2 v (i3 v hv)
        have sp2 := xSz_2 p
        have := h0.2.2.1 u uB v (i3 v hv) (fun w => uM (by rw [w]; exact hv)) o p e1 e2
        omega
      have old : ∀ k, k < xSz o → S.rI (m + ce) (γ u + k) = S0.rI (m + ce) (γ u + k) := fun k hk => i6 _ (fun v hv => dis v hv k hk)
      have tg := r1.szC
      have tgS : szC S (m + ce) (γ u) o := ⟨by rw [← Nat.add_zero (γ u), old 0 (by omega)]; exact tg.1, fun z => by
        have h3 : 3 ≤ xSz o := by
          match o, z with
          | .inl N, _ => show 3 ≤ 3 + _; omega
          | .inr (.inl q), _ => show 3 ≤ 3 + _; omega
          | .inr (.inr (.inl q)), z => exact absurd z (show ¬ ((5 : Int) = 3 ∨ (5 : Int) = 4) by decide)
          | .inr (.inr (.inr (.inl q))), z => exact absurd z (show ¬ ((6 : Int) = 3 ∨ (6 : Int) = 4) by decide)
          | .inr (.inr (.inr (.inr q))), z => exact absurd z (show ¬ ((7 : Int) = 3 ∨ (7 : Int) = 4) by decide)
        rw [old 2 (by omega)]; exact tg.2 z⟩
      have pos : (0 : Int32) ≤ S.rI (m + ce) (γ u) := by
        rw [tgS.1]
        match o with
        | .inl N => exact (show (0 : Int32) ≤ Int32.ofInt 3 by decide)
        | .inr (.inl q) => exact (show (0 : Int32) ≤ Int32.ofInt 4 by decide)
        | .inr (.inr (.inl q)) => exact (show (0 : Int32) ≤ Int32.ofInt 5 by decide)
        | .inr (.inr (.inr (.inl q))) => exact (show (0 : Int32) ≤ Int32.ofInt 6 by decide)
        | .inr (.inr (.inr (.inr q))) => exact (show (0 : Int32) ≤ Int32.ofInt 7 by decide)
      refine f_130 hsp ⟨fun _ => ⟨by rw [i1.1]; rfl, by rw [c1, c2]; rfl, by rw [c1, c3]; exact vp_in_nI (by omega) (by decide), ?_⟩, fun w => absurd ge w⟩
      rw [c1, nI_clamp (show γ u < 2 ^ 31 by omega)]
      refine ⟨fun _ => ⟨by rw [i1.1]; rfl, by decide, by decide, 0, 0, Nat.zero_le _, Nat.zero_le _, ?_⟩, fun w => absurd pos w⟩
      refine s_129 hsp c2 c3 (by omega) tgS (f_130_33 hE ?_)
      show c_130_36 (ox_M sp (d + 1)) m (nI (γ u)) (nI (xSz o)) (nI 0) S _ _ Q
      refine s_130_l (S := S) (t := 16 + xSzA H M) hE (by omega) (by omega) (by omega) (fun U u1 u2 u3 u4 u5 => ?_) (xSz o) 0 _ _ S (by omega) i1 gCh.refl rfl i4 (fun j hj => absurd hj (Nat.not_lt_zero _))
      have en : gD H (u :: M) u = 16 + xSzA H M := if_pos rfl
      have eo : ∀ v ∈ M, gD H (u :: M) v = gD H M v := fun v hv => if_neg (fun w => uM (by rw [← w]; exact hv))
      have e2 : gV (gD H (u :: M)) u = nI (16 + xSzA H M) := by unfold gV; rw [if_neg u16, en]
      have er : ∀ a j, ((U.wI (m + ce) (γ u) (-nI (16 + xSzA H M))).sI 75 m (nI (16 + xSzA H M + xSz o))).rI a j = if a = m + ce ∧ j = γ u then -nI (16 + xSzA H M) else U.rI a j := fun a j => by rw [or_sI_rI, or_wI_rI]
      have eI : ∀ F a, ((U.wI (m + ce) (γ u) (-nI (16 + xSzA H M))).sI 75 m (nI (16 + xSzA H M + xSz o))).I F a = if F = 75 ∧ a = m then nI (16 + xSzA H M + xSz o) else U.I F a := fun F a => by rw [or_sI_I, or_wI_I]
      have ch : gCh m ce (16 + xSzA H M) U ((U.wI (m + ce) (γ u) (-nI (16 + xSzA H M))).sI 75 m (nI (16 + xSzA H M + xSz o))) := ⟨by rw [or_sI_K, or_wI_K], by rw [or_sI_len, or_wI_len], by rw [or_sI_n, or_wI_n], by rw [or_sI_R, or_wI_R], by rw [or_sI_J, or_wI_J], by rw [or_sI_rR, or_wI_rR], by rw [or_sI_rJ, or_wI_rJ], fun F a z => by rw [eI, if_neg (fun y => by have := y.1; have := y.2; omega)], fun a z1 _ => funext fun j => by rw [er, if_neg (fun y => z1 y.1)], fun j _ => by rw [er, if_neg (fun y => by have := y.1; omega)]⟩
      generalize (U.wI (m + ce) (γ u) (-nI (16 + xSzA H M))).sI 75 m (nI (16 + xSzA H M + xSz o)) = V at er eI ch ⊢
      rw [← e2]
      refine hQ V (u :: M) (Or.inr ⟨by omega, uM, rfl⟩) (Or.inr List.mem_cons_self) ⟨u1.gch ch, ⟨List.nodup_cons.mpr ⟨uM, i2⟩, fun v hv => ?_⟩, ?_, fun v hv => ?_, fun j hj => ?_⟩ (u2.trans ch) (fun v z1 z2 => ?_)
      · rcases List.mem_cons.mp hv with w | w
        · rw [w]; exact uB
        · exact i3 v w
      · rw [eI, if_pos ⟨rfl, rfl⟩]
        show nI (16 + xSzA H M + xSz o) = nI (16 + (xSo (H u) + xSzA H M))
        rw [so]
        exact congrArg nI (by omega)
      · by_cases w : v = u
        · rw [w, er, if_pos ⟨rfl, rfl⟩, en]
        · have vM := (List.mem_cons.mp hv).resolve_left w
          rw [er, if_neg (fun y => by have := dis v vM 0 (by omega); omega), u3, eo v vM]
          exact i5 v vM
      · rw [er, if_neg (fun y => hj u List.mem_cons_self y.2), u3]
        exact i6 j (fun v hv => hj v (List.mem_cons_of_mem _ hv))
      · have w : v = u := (List.mem_cons.mp z1).resolve_right z2
        rw [w]
        intro k hk
        rw [so] at hk
        rw [en, er, if_neg (fun y => by have := y.1; omega), u5 k hk]
        exact old k hk
end GC1
