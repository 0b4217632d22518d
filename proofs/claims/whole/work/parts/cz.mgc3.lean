/-! the reference: collecting, what the moved ones refer to -/
/-- a moved one, its references told anew -/
def gDn (U : ox_St) (m ce : Nat) (H : xHp) (M : List Int) (v : Int) : Prop := ∃ o, H v = some o ∧ rO U (m + (5 - ce)) (gD H M) v o ∧ ∀ u ∈ xRf o, xIn M u
/-- D done; X: those that aren't as they were -/
def gZ (S0 U : ox_St) (m ce : Nat) (γ : Int → Nat) (B : List Int) (H : xHp) (A M X D : List Int) : Prop := gI S0 U m ce γ B H M ∧ (∀ v ∈ M, v ∈ A) ∧ (∀ v ∈ M, v ∉ X → gRw S0 U m ce γ H M v) ∧ ∀ v ∈ D, v ∈ M ∧ gDn U m ce H M v
section GC3
variable {sp : ox_E} {d mr sr : Nat} {S S0 S1 S' U : ox_St} {Q : ox_Q} {m ce a a' : Nat} {γ δ : Int → Nat} {A B M M1 M' X D : List Int} {T : Nat} {nc K : Nat} {u v n : Int} {H : xHp} {o : xOb}
theorem gX.at (gx : gX M M') (hu : u ∈ M) : gD H M' u = gD H M u := by
  obtain ⟨N, n1, n2⟩ := gx
  rw [n1] at n2 ⊢
  exact gD_app n2 hu
theorem gZ.mv (h : gZ S0 S m ce γ B H A M X D) (gx : gX M M') (hI : gI S0 S' m ce γ B H M') (hA : ∀ v ∈ M', v ∈ A) (hc : gCh m ce (16 + xSzA H M) S S') (hr : ∀ v ∈ M', v ∉ M → gRw S0 S' m ce γ H M' v) : gZ S0 S' m ce γ B H A M' X D := by
  obtain ⟨h1, h2, h3, h4⟩ := h
  have sub : ∀ v ∈ M, v ∈ M' := fun v hv => by
    obtain ⟨N, n1, -⟩ := gx
    rw [n1]; exact List.mem_append_right _ hv
  refine ⟨hI, hA, fun v hv hX => ?_, fun v hv => ?_⟩
  · by_cases z : v ∈ M
    · intro k hk
      have := (gD_mem (H := H) z).2
      rw [gx.at z, hc.2.2.2.2.2.2.2.2.2 _ (by omega)]
      exact h3 v z hX k hk
    · exact hr v hv z
  · obtain ⟨vM, ob, e1, r1, r2⟩ := h4 v hv
    have g2 := (gD_mem (H := H) vM).2
    have so : xSo (H v) = xSz ob := by rw [e1]; rfl
    rw [so] at g2
    exact ⟨sub v vM, ob, e1, r1.next (fun j z1 z2 => hc.2.2.2.2.2.2.2.2.2 j (by omega)) (gx.at vM) (fun w hw => (gx.in (r2 w hw)).2), fun w hw => (gx.in (H := H) (r2 w hw)).1⟩
/-- a cell of the one that is being looked at is written -/
theorem gZ.wo {i : Nat} {w : Int32} (h : gZ S0 S m ce γ B H A M (v :: D) D) (hv : v ∈ M) (vD : v ∉ D) (i1 : gD H M v ≤ i) (i2 : i < gD H M v + xSo (H v)) : gZ S0 (S.wI (m + (5 - ce)) i w) m ce γ B H A M (v :: D) D := by
  obtain ⟨⟨g1, g2, g3, g4, g5⟩, h2, h3, h4⟩ := h
  have hce := g1.2.2.1
  have er : ∀ a j, (S.wI (m + (5 - ce)) i w).rI a j = if a = m + (5 - ce) ∧ j = i then w else S.rI a j := fun a j => or_wI_rI _ _ _ _ _ _
  refine ⟨⟨g1.next (or_wI_K _ _ _ _) (or_wI_len _ _ _ _) (fun F => by rw [or_wI_R]), g2, by rw [or_wI_I]; exact g3, fun u hu => by rw [er, if_neg (fun y => by have := y.1; omega)]; exact g4 u hu, fun j hj => by rw [er, if_neg (fun y => by have := y.1; omega)]; exact g5 j hj⟩, h2, fun u hu hX k hk => ?_, fun u hu => ?_⟩
  · have ne : u ≠ v := fun z => hX (by rw [z]; exact List.mem_cons_self)
    have := gD_dis (H := H) g2.1 hu hv ne
    rw [er, if_neg (fun y => by have := y.2; omega)]
    exact h3 u hu hX k hk
  · obtain ⟨uM, ob, e1, r1, r2⟩ := h4 u hu
    have ne : u ≠ v := fun z => vD (by rw [← z]; exact hu)
    have dis := gD_dis (H := H) g2.1 uM hv ne
    have so : xSo (H u) = xSz ob := by rw [e1]; rfl
    rw [so] at dis
    exact ⟨uM, ob, e1, r1.next (fun j z1 z2 => by rw [er, if_neg (fun y => by have := y.2; omega)]) rfl (fun _ _ => rfl), r2⟩
theorem r_mz (hsp : ox_mono sp) (h0 : rHp S0 (m + ce) γ B H T) (hH : xHOk nc K H n) (hnc : nc ≤ 300) (hA : 16 + xSzA H A ≤ 1100000) (hZ : gZ S0 S m ce γ B H A M X D) (hu : gVl nc H A B u) (hQ : ∀ S' M', gX M M' → xIn M' u → gZ S0 S' m ce γ B H A M' X D → gCh m ce (16 + xSzA H M) S S' → Q (some (.inl (gV (gD H M') u))) S') : ox_M sp (d + 2) 130 [.inr (.inr m), .inl (gV γ u)] mr sr S Q := by
  obtain ⟨g1, g3, -⟩ := id hZ
  obtain ⟨ok, hB, hAu⟩ := hu
  have nd := g1.2.1.1
  have le := (xSzA_sub (H := H) nd g3).1
  refine r_130 hsp h0 hH hnc g1 hB ok (by omega) (fun u16 uM => ?_) (fun S' M' hM hin hI hc hr => ?_)
  · have := (xSzA_sub (H := H) (M := u :: M) (A := A) (List.nodup_cons.mpr ⟨uM, nd⟩) (fun v hv => by
      rcases List.mem_cons.mp hv with z | z
      · rw [z]; exact hAu.resolve_left (by omega)
      · exact g3 v z)).1
    omega
  · have gx : gX M M' := by
      rcases hM with z | ⟨z1, z2, z3⟩
      · rw [z]; exact gX.refl nd
      · exact ⟨[u], z3, by rw [z3]; exact List.nodup_cons.mpr ⟨z2, nd⟩⟩
    refine hQ S' M' gx hin (hZ.mv gx hI (fun v hv => ?_) hc hr) hc
    rcases hM with z | ⟨z1, z2, z3⟩
    · rw [z] at hv; exact g3 v hv
    · rw [z3] at hv
      rcases List.mem_cons.mp hv with w | w
      · rw [w]; exact hAu.resolve_left (by omega)
      · exact g3 v w
/-- an object without references, elsewhere -/
theorem rO.mv (h : rO S0 a γ v o) (hr : ∀ k, k < xSz o → S.rI a' (δ v + k) = S0.rI a (γ v + k)) (h16 : 16 ≤ δ v) (hl : δ v + xSz o ≤ 1100000) (hx : xTo o = 3 ∨ xTo o = 5 ∨ xTo o = 7) : rO S a' δ v o := by
  obtain ⟨h1, h2⟩ := h
  refine ⟨h16, ?_⟩
  match o, h2, hr, hl, hx with
  | .inl N, ⟨f, n, neg, ⟨m1, m2, m3⟩, g2, g3, g4, g5⟩, hr, hl, _ =>
    have sz : xSz (.inl N) = 3 + n := by show 3 + dl 16 N.natAbs = _; rw [g5]
    refine ⟨f, n, neg, ⟨m1, m2, ?_⟩, g2, g3, g4, g5⟩
    rcases m3 with z | ⟨z1, z2, z3, z4, z5, z6, z7⟩
    · omega
    · refine Or.inr ⟨h16, by omega, ?_, by rw [hr 1 (by omega)]; exact z4, z5, by rw [hr 2 (by omega)]; exact z6, fun i hi => ?_⟩
      · have := hr 0 (by omega)
        rw [Nat.add_zero, Nat.add_zero] at this
        rw [this]; exact z3
      · rw [Nat.add_assoc, hr (3 + i) (by omega), ← Nat.add_assoc]; exact z7 i hi
  | .inr (.inl q), _, _, _, hx => exact absurd hx (show ¬ ((4 : Int) = 3 ∨ (4 : Int) = 5 ∨ (4 : Int) = 7) by decide)
  | .inr (.inr (.inl q)), ⟨g1, g2, g3, g4⟩, hr, _, _ =>
    have sz : xSz (.inr (.inr (.inl q))) = 4 := rfl
    have := hr 0 (by omega)
    rw [Nat.add_zero, Nat.add_zero] at this
    exact ⟨by rw [this]; exact g1, by rw [hr 1 (by omega)]; exact g2, by rw [hr 2 (by omega)]; exact g3, by rw [hr 3 (by omega)]; exact g4⟩
  | .inr (.inr (.inr (.inl q))), _, _, _, hx => exact absurd hx (show ¬ ((6 : Int) = 3 ∨ (6 : Int) = 5 ∨ (6 : Int) = 7) by decide)
  | .inr (.inr (.inr (.inr c))), ⟨g1, g2⟩, hr, _, _ =>
    have sz : xSz (.inr (.inr (.inr (.inr c)))) = 2 := rfl
    have := hr 0 (by omega)
    rw [Nat.add_zero, Nat.add_zero] at this
    exact ⟨by rw [this]; exact g1, by rw [hr 1 (by omega)]; exact g2⟩
theorem gPh.no {t : Nat} {P : Nat → Prop} (h : gPh m ce P S1 S) (g : gCh m ce t S S') : gPh m ce P S1 S' := h.trans g.ph
theorem gPh.oth {P : Nat → Prop} {i : Nat} {w : Int32} (h : gPh m ce P S1 S) : gPh m ce P S1 (S.wI (m + (5 - ce)) i w) := by
  obtain ⟨h1, h2, h3, h4, h5, h6, h7, h8, h9⟩ := h
  exact ⟨(or_wI_K _ _ _ _).trans h1, (or_wI_len _ _ _ _).trans h2, (or_wI_n _ _ _ _).trans h3, (or_wI_R _ _ _ _).trans h4, (or_wI_J _ _ _ _).trans h5, (or_wI_rR _ _ _ _).trans h6, (or_wI_rJ _ _ _ _).trans h7, fun F a z => by rw [or_wI_I]; exact h8 F a z, fun a z1 z2 z3 => funext fun j => by
    rw [or_wI_rI, if_neg (fun y => z2 y.1)]
    exact congrFun (h9 a z1 z2 z3) j⟩
/-- a tuple's items, i of them told anew -/
def gTu (U : ox_St) (m ce : Nat) (γ : Int → Nat) (H : xHp) (M : List Int) (p : Nat) (l : List Int) (k i : Nat) : Prop := U.rI (m + (5 - ce)) p = 4 ∧ U.rI (m + (5 - ce)) (p + 1) = nI k ∧ U.rI (m + (5 - ce)) (p + 2) = nI l.length ∧ (∀ j, j < i → U.rI (m + (5 - ce)) (p + 3 + j) = gV (gD H M) (l.getD j 0) ∧ xIn M (l.getD j 0)) ∧ ∀ j, i ≤ j → j < l.length → U.rI (m + (5 - ce)) (p + 3 + j) = gV γ (l.getD j 0)
theorem r_131_235 (hsp : ox_mono sp) (h0 : rHp S0 (m + ce) γ B H T) (hH : xHOk nc K H n) (hnc : nc ≤ 300) (hA : 16 + xSzA H A ≤ 1100000) {l : List Int} {kk p : Nat} (ev : H v = some (.inr (.inl (l, kk)))) (vD : v ∉ D) (hl : ∀ u ∈ l, gVl nc H A B u) (hQ : ∀ U M' mr sr, gX M1 M' → gZ S0 U m ce γ B H A M' (v :: D) (v :: D) → gPh m ce (fun _ => False) S1 U → c_131_206 (ox_M sp (d + 2)) m (nI (p + (3 + l.length))) U mr sr Q) : ∀ (k i mr sr : Nat) (U : ox_St) (M : List Int), i + k = l.length → gX M1 M → v ∈ M → gD H M v = p → gZ S0 U m ce γ B H A M (v :: D) D → gPh m ce (fun _ => False) S1 U → gTu U m ce γ H M p l kk i → c_131_235 (ox_M sp (d + 2)) m (nI p) (nI (3 + l.length)) (nI (3 + i)) U mr sr Q := by
  have hE : ox_mono (ox_M sp (d + 2)) := ox_M_mono hsp _
  have so : xSo (H v) = 3 + l.length := by rw [ev]; rfl
  intro k
  induction k with
  | zero =>
    intro i mr sr U M hi gx vM hp hZ ph ht
    have hi' : i = l.length := hi
    subst hi'
    have ml := hZ.1.1
    have nd := hZ.1.2.1.1
    have le := (xSzA_sub (H := H) nd hZ.2.1).1
    have g2 := gD_mem (H := H) vM
    rw [hp, so] at g2
    obtain ⟨o1, o2, o3⟩ := ml.other
    obtain ⟨t1, t2, t3, t4, t5⟩ := ht
    refine f_131_235 hE ⟨fun _ => ⟨by rw [ml.1]; rfl, by rw [o1, o2]; rfl, by rw [o1, o3]; exact vp_in_nI (by omega) (by decide), fun _ => ?_, fun z => absurd z (by rw [o1, nI_clamp (show p < 2 ^ 31 by omega), t1]; decide)⟩, fun z => absurd (nI_le (Nat.le_refl _) (by omega)) z⟩
    rw [nI_add]
    refine hQ U M mr sr gx ⟨hZ.1, hZ.2.1, hZ.2.2.1, fun u hu => ?_⟩ ph
    rcases List.mem_cons.mp hu with z | z
    · rw [z]
      refine ⟨vM, _, ev, ⟨by rw [hp]; exact g2.1, ?_⟩, fun u hu => ?_⟩
      · rw [hp]
        exact ⟨t1, t2, t3, fun j hj => (t4 j hj).1⟩
      · obtain ⟨j, hj, e⟩ := List.getElem_of_mem (show u ∈ l from hu)
        have := (t4 j hj).2
        rw [List.getD_eq_getElem?_getD, List.getElem?_eq_getElem hj] at this
        rw [← e]; exact this
    · exact hZ.2.2.2 u z
  | succ k ih =>
    intro i mr sr U M hi gx vM hp hZ ph ht
    have il : i < l.length := by omega
    have ml := hZ.1.1
    have hce := ml.2.2.1
    have nd := hZ.1.2.1.1
    have le := (xSzA_sub (H := H) nd hZ.2.1).1
    have g2 := gD_mem (H := H) vM
    rw [hp, so] at g2
    obtain ⟨o1, o2, o3⟩ := ml.other
    obtain ⟨t1, t2, t3, t4, t5⟩ := ht
    have n1 : nI p + nI (3 + i) = nI (p + 3 + i) := by rw [nI_add]; exact congrArg nI (by omega)
    refine f_131_235 hE ⟨fun z => absurd z (nI_ge (by omega) (by omega)), fun _ => ⟨by rw [ml.1]; rfl, by rw [ml.1]; rfl, by rw [o1, o2]; rfl, by rw [o1, o3, n1]; exact vp_in_nI (by omega) (by decide), by decide, ml.1, by decide, 0, 0, Nat.zero_le _, Nat.zero_le _, ?_⟩⟩
    have mem : l.getD i 0 ∈ l := by rw [List.getD_eq_getElem?_getD, List.getElem?_eq_getElem il]; exact List.getElem_mem il
    rw [o1, n1, nI_clamp (show p + 3 + i < 2 ^ 31 by omega), t5 i (Nat.le_refl _) il]
    refine r_mz hsp h0 hH hnc hA hZ (hl _ mem) (fun S' M' gx' hin hZ' hc => f_131_259 hE ?_)
    have vM' : v ∈ M' := by
      obtain ⟨N, n2, -⟩ := gx'
      rw [n2]; exact List.mem_append_right _ vM
    have hp' : gD H M' v = p := (gx'.at vM).trans hp
    refine ⟨by rw [hc.1]; exact o2, by rw [hc.2.1, o3]; exact vp_in_nI (by omega) (by decide), ?_⟩
    rw [nI_clamp (show p + 3 + i < 2 ^ 31 by omega), nI_1]
    have er : ∀ j, (S'.wI (m + (5 - ce)) (p + 3 + i) (gV (gD H M') (l.getD i 0))).rI (m + (5 - ce)) j = if j = p + 3 + i then gV (gD H M') (l.getD i 0) else S'.rI (m + (5 - ce)) j := fun j => by
      rw [or_wI_rI]
      simp only [true_and]
    have lo : ∀ j, j < p + (3 + l.length) → S'.rI (m + (5 - ce)) j = U.rI (m + (5 - ce)) j := fun j hj => hc.2.2.2.2.2.2.2.2.2 j (by omega)
    refine ih (i + 1) _ _ _ M' (by omega) (gx.trans gx') vM' hp' (hZ'.wo vM' vD (by omega) (by omega)) ((ph.no hc).oth) ⟨?_, ?_, ?_, fun j hj => ?_, fun j z1 z2 => ?_⟩
    · rw [er, if_neg (by omega), lo _ (by omega)]; exact t1
    · rw [er, if_neg (by omega), lo _ (by omega)]; exact t2
    · rw [er, if_neg (by omega), lo _ (by omega)]; exact t3
    · by_cases z : j = i
      · rw [z, er, if_pos rfl]; exact ⟨rfl, hin⟩
      · obtain ⟨b1, b2⟩ := t4 j (by omega)
        obtain ⟨x1, x2⟩ := gx'.in (H := H) b2
        rw [er, if_neg (by omega), lo _ (by omega), x2]
        exact ⟨b1, x1⟩
    · rw [er, if_neg (by omega), lo _ (by omega)]
      exact t5 j (by omega) z2
end GC3
