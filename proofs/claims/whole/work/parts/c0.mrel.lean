/-! the reference against the machine itself -/
/-- a value, as the reference keeps it; γ: an object's first cell -/
def gV (γ : Int → Nat) (v : Int) : Int32 := if v < 16 then Int32.ofInt v else nI (γ v)
/-- the object of v, in the cells at a -/
def rO (S : ox_St) (a : Nat) (γ : Int → Nat) (v : Int) (o : xOb) : Prop := 16 ≤ γ v ∧ match o with
  | .inl N => ∃ f n neg, mNum S a (γ v) f n neg ∧ dc f n ∧ (n = 0 → neg = 0) ∧ nv f n neg = N ∧ n = dl 16 N.natAbs
  | .inr (.inl q) => S.rI a (γ v) = 4 ∧ S.rI a (γ v + 1) = nI q.2 ∧ S.rI a (γ v + 2) = nI q.1.length ∧ ∀ i, i < q.1.length → S.rI a (γ v + 3 + i) = gV γ (q.1.getD i 0)
  | .inr (.inr (.inl q)) => S.rI a (γ v) = 5 ∧ (S.rI a (γ v + 1)).toInt = q.1 ∧ (S.rI a (γ v + 2)).toInt = q.2.1 ∧ (S.rI a (γ v + 3)).toInt = q.2.2
  | .inr (.inr (.inr (.inl q))) => S.rI a (γ v) = 6 ∧ S.rI a (γ v + 1) = gV γ q.1 ∧ S.rI a (γ v + 2) = nI q.2
  | .inr (.inr (.inr (.inr c))) => S.rI a (γ v) = 7 ∧ S.rI a (γ v + 1) = nI c
/-- those of B have cells below T, each its own -/
def rHp (S : ox_St) (a : Nat) (γ : Int → Nat) (B : List Int) (H : xHp) (T : Nat) : Prop := xClo H B ∧ (∀ v ∈ B, ∀ o, H v = some o → 16 ≤ v ∧ rO S a γ v o ∧ γ v + xSz o ≤ T) ∧ (∀ u ∈ B, ∀ v ∈ B, u ≠ v → ∀ o p, H u = some o → H v = some p → γ u + xSz o ≤ γ v ∨ γ v + xSz p ≤ γ u) ∧ 16 ≤ T ∧ T ≤ 1100000
def rStk (S : ox_St) (m : Nat) (γ : Int → Nat) (f : Nat) : List Int → Prop
  | [] => True
  | v :: r => S.rI (m + 20) (10 * f + r.length) = gV γ v ∧ rStk S m γ f r
def rBk (S : ox_St) (m f : Nat) : List (Nat × Nat) → Prop
  | [] => True
  | g :: b => S.rI (m + 22) (4 * f + b.length) = nI g.1 ∧ S.rI (m + 23) (4 * f + b.length) = nI g.2 ∧ rBk S m f b
def rLo (S : ox_St) (m : Nat) (γ : Int → Nat) (f : Nat) (L : Nat → Option Int) : Prop := ∀ i, i < 8 → match L i with
  | none => S.rI (m + 21) (8 * f + i) = -1000000
  | some v => S.rI (m + 21) (8 * f + i) = gV γ v
def rFr (S : ox_St) (m : Nat) (γ : Int → Nat) (f : Nat) (g : xFr) : Prop := S.rI (m + 16) f = nI g.1 ∧ S.rI (m + 17) f = nI g.2.1 ∧ S.rI (m + 18) f = nI g.2.2.1.length ∧ S.rI (m + 19) f = nI g.2.2.2.2.length ∧ rStk S m γ f g.2.2.1 ∧ rLo S m γ f g.2.2.2.1 ∧ rBk S m f g.2.2.2.2
def rFs (S : ox_St) (m : Nat) (γ : Int → Nat) : List xFr → Prop
  | [] => True
  | g :: t => rFr S m γ t.length g ∧ rFs S m γ t
def rGl (S : ox_St) (m : Nat) (γ : Int → Nat) (G : List (Nat × Int)) : Prop := S.I 106 m = nI G.length ∧ ∀ i, i < G.length → S.rJ (m + 24) i = lN (G.getD i (0, 0)).1 ∧ S.rI (m + 25) i = gV γ (G.getD i (0, 0)).2
/-- the code c: its bytes from g, its constants from k, its names from w on -/
def rCd (S : ox_St) (m : Nat) (γ : Int → Nat) (C : Nat → xCd) (c : Nat) : Prop := ∃ g k w, mSh S m c g (C c).1 ∧ (S.rI (m + 9) c = nI k ∧ k + (C c).2.1.length ≤ 2100 ∧ ∀ i, i < (C c).2.1.length → S.rI (m + 14) (k + i) = gV γ ((C c).2.1.getD i 0)) ∧ S.rI (m + 11) c = nI w ∧ w + (C c).2.2.length ≤ 2100 ∧ ∀ i, i < (C c).2.2.length → S.rJ (m + 15) (w + i) = lN ((C c).2.2.getD i 0)
/-- the reference at m is at s; its cells at m + ce, T used; y instructions done -/
def rR (S : ox_St) (m ce : Nat) (γ : Int → Nat) (B : List Int) (T : Nat) (C : Nat → xCd) (nc y : Nat) (s : xSt) : Prop := oML S m ce ∧ (rHp S (m + ce) γ B s.H T ∧ S.I 75 m = nI T) ∧ (nc ≤ 300 ∧ ∀ c, c < nc → rCd S m γ C c) ∧ rFs S m γ s.f ∧ rGl S m γ s.G ∧ (S.I 92 m = nI s.f.length ∧ S.I 93 m = nI s.s ∧ S.I 94 m = Int32.ofInt s.k ∧ S.I 95 m = nI y ∧ S.I 97 m = gV γ s.r) ∧ xGIn C nc B s.G ∧ xIn B s.r ∧ xTIn B s.f
/-- what running keeps of the reference's own: whether it threw, the last fault, the tape, how many codes, bytes, constants and names there are, the code it began with; the codes -/
def mKe (m : Nat) (S S' : ox_St) : Prop := (∀ F, F = 69 ∨ F = 70 ∨ F = 72 ∨ F = 76 ∨ (86 ≤ F ∧ F ≤ 88) ∨ F = 96 → S'.I F m = S.I F m) ∧ (∀ p, p = 1 ∨ (4 ≤ p ∧ p ≤ 13) → S'.rI (m + p) = S.rI (m + p)) ∧ S'.rJ (m + 15) = S.rJ (m + 15)
/-- what the reference leaves alone whatever it does -/
def mFx (m : Nat) (S S' : ox_St) : Prop := S'.n = S.n ∧ S'.K = S.K ∧ S'.len = S.len ∧ S'.J = S.J ∧ S'.rR = S.rR ∧ (∀ F a, a ≠ m → S'.R F a = S.R F a) ∧ (∀ F a, a ≠ m → S'.I F a = S.I F a) ∧ (∀ a, a < m ∨ m + 41 < a → S'.rI a = S.rI a) ∧ (∀ a, a < m ∨ m + 41 < a → S'.rJ a = S.rJ a) ∧ mKe m S S'
theorem mFx.refl {m : Nat} {S : ox_St} : mFx m S S := ⟨rfl, rfl, rfl, rfl, rfl, fun _ _ _ => rfl, fun _ _ _ => rfl, fun _ _ => rfl, fun _ _ => rfl, fun _ _ => rfl, fun _ _ => rfl, rfl⟩
theorem mFx.trans {m : Nat} {S S' T : ox_St} (h : mFx m S S') (g : mFx m S' T) : mFx m S T := by
  obtain ⟨h1, h2, h3, h4, h5, h6, h7, h8, h9, ha, hb, hc⟩ := h
  obtain ⟨g1, g2, g3, g4, g5, g6, g7, g8, g9, ga, gb, gc⟩ := g
  exact ⟨g1.trans h1, g2.trans h2, g3.trans h3, g4.trans h4, g5.trans h5, fun F a z => (g6 F a z).trans (h6 F a z), fun F a z => (g7 F a z).trans (h7 F a z), fun a z => (g8 a z).trans (h8 a z), fun a z => (g9 a z).trans (h9 a z), fun F z => (ga F z).trans (ha F z), fun p z => (gb p z).trans (hb p z), gc.trans hc⟩
theorem mFx.sI {m F : Nat} {v : Int32} {S S' : ox_St} (h : mFx m S S') (hF : ¬ (F = 69 ∨ F = 70 ∨ F = 72 ∨ F = 76 ∨ (86 ≤ F ∧ F ≤ 88) ∨ F = 96) := by omega) : mFx m S (S'.sI F m v) := by
  obtain ⟨h1, h2, h3, h4, h5, h6, h7, h8, h9, ha, hb, hc⟩ := h
  refine ⟨(or_sI_n _ _ _ _).trans h1, (or_sI_K _ _ _ _).trans h2, (or_sI_len _ _ _ _).trans h3, (or_sI_J _ _ _ _).trans h4, (or_sI_rR _ _ _ _).trans h5, fun G a z => ?_, fun G a z => ?_, fun a z => ?_, fun a z => ?_, fun G z => ?_, fun p z => ?_, ?_⟩
  · rw [or_sI_R]; exact h6 G a z
  · rw [or_sI_I, if_neg (fun y => z y.2)]; exact h7 G a z
  · rw [or_sI_rI]; exact h8 a z
  · rw [or_sI_rJ]; exact h9 a z
  · rw [or_sI_I, if_neg (fun y => by have := y.1; omega)]; exact ha G z
  · rw [or_sI_rI]; exact hb p z
  · rw [or_sI_rJ]; exact hc
theorem mFx.wI {m o i : Nat} {v : Int32} {S S' : ox_St} (h : mFx m S S') (ho : o ≤ 41) (hk : ¬ (o = 1 ∨ (4 ≤ o ∧ o ≤ 13)) := by omega) : mFx m S (S'.wI (m + o) i v) := by
  obtain ⟨h1, h2, h3, h4, h5, h6, h7, h8, h9, ha, hb, hc⟩ := h
  refine ⟨(or_wI_n _ _ _ _).trans h1, (or_wI_K _ _ _ _).trans h2, (or_wI_len _ _ _ _).trans h3, (or_wI_J _ _ _ _).trans h4, (or_wI_rR _ _ _ _).trans h5, fun G a z => ?_, fun G a z => ?_, fun a z => ?_, fun a z => ?_, fun G z => ?_, fun p z => ?_, ?_⟩
  · rw [or_wI_R]; exact h6 G a z
  · rw [or_wI_I]; exact h7 G a z
  · funext j
    rw [or_wI_rI, if_neg (fun y => by have := y.1; omega)]
    exact congrFun (h8 a z) j
  · rw [or_wI_rJ]; exact h9 a z
  · rw [or_wI_I]; exact ha G z
  · funext j
    rw [or_wI_rI, if_neg (fun y => by have := y.1; omega)]
    exact congrFun (hb p z) j
  · rw [or_wI_rJ]; exact hc
/-- the class doesn't see it -/
theorem mFx.cJ {x : Nat} {S S' : ox_St} (h : mFx (x + 76) S S') : cJ x S S' := by
  obtain ⟨h1, h2, h3, h4, h5, h6, h7, h8, h9, -⟩ := h
  refine ⟨⟨by omega, fun a _ => by rw [h2, h3]; exact ⟨rfl, rfl⟩⟩, fun a ha => ?_⟩
  have ne : a < x + 76 ∨ x + 119 ≤ a := by
    by_cases z : a < x + 76
    · exact Or.inl z
    · by_cases y : a < x + 119
      · exact absurd ⟨by omega, y⟩ ha.2
      · exact Or.inr (by omega)
  exact ⟨by rw [h2], by rw [h3], fun F => h7 F a (by omega), fun F => h6 F a (by omega), fun F => by rw [h4], fun j => by rw [h8 a (by omega)], fun j => by rw [h5], fun j => by rw [h9 a (by omega)]⟩
section RRL
variable {S S' : ox_St} {m ce f : Nat} {γ γ' : Int → Nat} {B : List Int} {C : Nat → xCd} {nc : Nat} {H : xHp} {T : Nat}
theorem gV_congr {v : Int} (h : 16 ≤ v → γ' v = γ v) : gV γ' v = gV γ v := by
  unfold gV
  by_cases z : v < 16
  · rw [if_pos z, if_pos z]
  · rw [if_neg z, if_neg z, h (by omega)]
theorem rStk.row : ∀ (st : List Int), (∀ j, j < st.length → S'.rI (m + 20) (10 * f + j) = S.rI (m + 20) (10 * f + j)) → (∀ v ∈ st, gV γ' v = gV γ v) → rStk S m γ f st → rStk S' m γ' f st
  | [], _, _, _ => trivial
  | v :: r, hr, hα, h => ⟨by rw [hr r.length (Nat.lt_succ_self _), hα v List.mem_cons_self]; exact h.1, rStk.row r (fun j hj => hr j (Nat.lt_succ_of_lt hj)) (fun u hu => hα u (List.mem_cons_of_mem _ hu)) h.2⟩
theorem rStk.drop : ∀ (k : Nat) (st : List Int), rStk S m γ f st → rStk S m γ f (st.drop k)
  | 0, _, h => h
  | _ + 1, [], h => h
  | k + 1, _ :: r, h => rStk.drop k r h.2
theorem rStk.at : ∀ (st : List Int) (i : Nat), i < st.length → rStk S m γ f st → S.rI (m + 20) (10 * f + (st.length - 1 - i)) = gV γ (st.getD i 0)
  | v :: r, 0, _, h => h.1
  | v :: r, i + 1, hi, h => by
    have := rStk.at r i (Nat.lt_of_succ_lt_succ hi) h.2
    simp only [List.length_cons, List.getD_cons_succ]
    rw [show r.length + 1 - 1 - (i + 1) = r.length - 1 - i by omega]
    exact this
theorem rBk.row : ∀ (b : List (Nat × Nat)), (∀ j, j < b.length → S'.rI (m + 22) (4 * f + j) = S.rI (m + 22) (4 * f + j) ∧ S'.rI (m + 23) (4 * f + j) = S.rI (m + 23) (4 * f + j)) → rBk S m f b → rBk S' m f b
  | [], _, _ => trivial
  | g :: b, hr, h => ⟨by rw [(hr b.length (Nat.lt_succ_self _)).1]; exact h.1, by rw [(hr b.length (Nat.lt_succ_self _)).2]; exact h.2.1, rBk.row b (fun j hj => hr j (Nat.lt_succ_of_lt hj)) h.2.2⟩
theorem rLo.row {L : Nat → Option Int} (hr : ∀ j, j < 8 → S'.rI (m + 21) (8 * f + j) = S.rI (m + 21) (8 * f + j)) (hα : ∀ i v, L i = some v → gV γ' v = gV γ v) (h : rLo S m γ f L) : rLo S' m γ' f L := fun i hi => by
  have g := h i hi
  cases z : L i with
  | none => rw [z] at g; show S'.rI (m + 21) (8 * f + i) = -1000000; rw [hr i hi]; exact g
  | some v => rw [z] at g; show S'.rI (m + 21) (8 * f + i) = gV γ' v; rw [hr i hi, hα i v z]; exact g
/-- a frame whose rows are as they were -/
def rKp (m f : Nat) (S S' : ox_St) : Prop := (∀ o, 16 ≤ o → o ≤ 19 → S'.rI (m + o) f = S.rI (m + o) f) ∧ (∀ j, j < 10 → S'.rI (m + 20) (10 * f + j) = S.rI (m + 20) (10 * f + j)) ∧ (∀ j, j < 8 → S'.rI (m + 21) (8 * f + j) = S.rI (m + 21) (8 * f + j)) ∧ ∀ j, j < 4 → S'.rI (m + 22) (4 * f + j) = S.rI (m + 22) (4 * f + j) ∧ S'.rI (m + 23) (4 * f + j) = S.rI (m + 23) (4 * f + j)
theorem rFr.next {g : xFr} (h : rFr S m γ f g) (k : rKp m f S S') (hs : g.2.2.1.length ≤ 10) (hb : g.2.2.2.2.length ≤ 4) (hα : ∀ u, (u ∈ g.2.2.1 ∨ ∃ i, g.2.2.2.1 i = some u) → gV γ' u = gV γ u) : rFr S' m γ' f g := by
  obtain ⟨h1, h2, h3, h4, h5, h6, h7⟩ := h
  obtain ⟨k1, k2, k3, k4⟩ := k
  exact ⟨(k1 16 (by omega) (by omega)).trans h1, (k1 17 (by omega) (by omega)).trans h2, (k1 18 (by omega) (by omega)).trans h3, (k1 19 (by omega) (by omega)).trans h4, rStk.row _ (fun j hj => k2 j (by omega)) (fun v hv => hα v (Or.inl hv)) h5, rLo.row k3 (fun i v e => hα v (Or.inr ⟨i, e⟩)) h6, rBk.row _ (fun j hj => k4 j (by omega)) h7⟩
theorem rFs.next : ∀ (t : List xFr), (∀ f, f < t.length → rKp m f S S') → (∀ g ∈ t, g.2.2.1.length ≤ 10 ∧ g.2.2.2.2.length ≤ 4) → (∀ g ∈ t, ∀ u, (u ∈ g.2.2.1 ∨ ∃ i, g.2.2.2.1 i = some u) → gV γ' u = gV γ u) → rFs S m γ t → rFs S' m γ' t
  | [], _, _, _, _ => trivial
  | g :: t, hk, hl, hα, h => ⟨h.1.next (hk t.length (Nat.lt_succ_self _)) (hl g List.mem_cons_self).1 (hl g List.mem_cons_self).2 (hα g List.mem_cons_self), rFs.next t (fun f hf => hk f (Nat.lt_succ_of_lt hf)) (fun g' hg => hl g' (List.mem_cons_of_mem _ hg)) (fun g' hg => hα g' (List.mem_cons_of_mem _ hg)) h.2⟩
theorem rCd.next {c : Nat} (h : rCd S m γ C c) (hr : ∀ a, m + 4 ≤ a → a ≤ m + 14 → S'.rI a = S.rI a) (hj : S'.rJ (m + 15) = S.rJ (m + 15)) (hα : ∀ u ∈ (C c).2.1, gV γ' u = gV γ u) : rCd S' m γ' C c := by
  obtain ⟨g, k, w, ⟨⟨s1, s2, s3⟩, ⟨s4, s5, s6⟩, ⟨s7, s8⟩, s9⟩, ⟨h1, h2, h3⟩, h4, h5, h6⟩ := h
  refine ⟨g, k, w, ⟨⟨?_, ?_, ?_⟩, ⟨?_, ?_, fun p hp => ?_⟩, ⟨?_, ?_⟩, s9⟩, ⟨?_, h2, fun i hi => ?_⟩, ?_, h5, fun i hi => by rw [hj]; exact h6 i hi⟩
  · rw [hr _ (by omega) (by omega)]; exact s1
  · rw [hr _ (by omega) (by omega)]; exact s2
  · rw [hr _ (by omega) (by omega)]; exact s3
  · rw [hr _ (by omega) (by omega)]; exact s4
  · rw [hr _ (by omega) (by omega)]; exact s5
  · rw [hr _ (by omega) (by omega)]; exact s6 p hp
  · rw [hr _ (by omega) (by omega)]; exact s7
  · rw [hr _ (by omega) (by omega)]; exact s8
  · rw [hr _ (by omega) (by omega)]; exact h1
  · rw [hr _ (by omega) (by omega), hα _ (by rw [List.getD_eq_getElem?_getD, List.getElem?_eq_getElem hi]; exact List.getElem_mem hi)]
    exact h3 i hi
  · rw [hr _ (by omega) (by omega)]; exact h4
theorem rGl.next {G : List (Nat × Int)} (h : rGl S m γ G) (hi : S'.I 106 m = S.I 106 m) (hj : S'.rJ (m + 24) = S.rJ (m + 24)) (hr : S'.rI (m + 25) = S.rI (m + 25)) (hα : ∀ g ∈ G, gV γ' g.2 = gV γ g.2) : rGl S' m γ' G := ⟨hi.trans h.1, fun i hi => by
  obtain ⟨h1, h2⟩ := h.2 i hi
  rw [hj, hr]
  refine ⟨h1, ?_⟩
  rw [hα _ (by rw [List.getD_eq_getElem?_getD, List.getElem?_eq_getElem hi]; exact List.getElem_mem hi)]
  exact h2⟩
/-- an object's cells as they were -/
theorem rO.next {a a' : Nat} {v : Int} {o : xOb} (h : rO S a γ v o) (hr : ∀ j, γ v ≤ j → j < γ v + xSz o → S'.rI a' j = S.rI a j) (hv : γ' v = γ v) (hα : ∀ u ∈ xRf o, gV γ' u = gV γ u) : rO S' a' γ' v o := by
  obtain ⟨h1, h2⟩ := h
  refine ⟨by rw [hv]; exact h1, ?_⟩
  rw [hv]
  match o, h2, hr, hα with
  | .inl N, ⟨f, n, neg, ⟨m1, m2, m3⟩, g2, g3, g4, g5⟩, hr, hα =>
    have sz : xSz (.inl N) = 3 + n := by show 3 + dl 16 N.natAbs = _; rw [g5]
    refine ⟨f, n, neg, ⟨m1, m2, ?_⟩, g2, g3, g4, g5⟩
    rcases m3 with z | ⟨z1, z2, z3, z4, z5, z6, z7⟩
    · omega
    · exact Or.inr ⟨z1, z2, by rw [hr _ (by omega) (by omega)]; exact z3, by rw [hr _ (by omega) (by omega)]; exact z4, z5, by rw [hr _ (by omega) (by omega)]; exact z6, fun i hi => by rw [hr _ (by omega) (by omega)]; exact z7 i hi⟩
  | .inr (.inl q), ⟨g1, g2, g3, g4⟩, hr, hα =>
    have sz : xSz (.inr (.inl q)) = 3 + q.1.length := rfl
    exact ⟨by rw [hr _ (by omega) (by omega)]; exact g1, by rw [hr _ (by omega) (by omega)]; exact g2, by rw [hr _ (by omega) (by omega)]; exact g3, fun i hi => by rw [hr _ (by omega) (by omega), hα (q.1.getD i 0) (by show q.1.getD i 0 ∈ q.1; rw [List.getD_eq_getElem?_getD, List.getElem?_eq_getElem hi]; exact List.getElem_mem hi)]; exact g4 i hi⟩
  | .inr (.inr (.inl q)), ⟨g1, g2, g3, g4⟩, hr, hα =>
    have sz : xSz (.inr (.inr (.inl q))) = 4 := rfl
    exact ⟨by rw [hr _ (by omega) (by omega)]; exact g1, by rw [hr _ (by omega) (by omega)]; exact g2, by rw [hr _ (by omega) (by omega)]; exact g3, by rw [hr _ (by omega) (by omega)]; exact g4⟩
  | .inr (.inr (.inr (.inl q))), ⟨g1, g2, g3⟩, hr, hα =>
    have sz : xSz (.inr (.inr (.inr (.inl q)))) = 3 := rfl
    exact ⟨by rw [hr _ (by omega) (by omega)]; exact g1, by rw [hr _ (by omega) (by omega), hα q.1 List.mem_cons_self]; exact g2, by rw [hr _ (by omega) (by omega)]; exact g3⟩
  | .inr (.inr (.inr (.inr c))), ⟨g1, g2⟩, hr, hα =>
    have sz : xSz (.inr (.inr (.inr (.inr c)))) = 2 := rfl
    exact ⟨by rw [hr _ (by omega) (by omega)]; exact g1, by rw [hr _ (by omega) (by omega)]; exact g2⟩
theorem rHp.next {a : Nat} (h : rHp S a γ B H T) (hr : ∀ j, j < T → S'.rI a j = S.rI a j) : rHp S' a γ B H T := ⟨h.1, fun v hv o e => by
  obtain ⟨h1, h2, h3⟩ := h.2.1 v hv o e
  exact ⟨h1, h2.next (fun j _ hj => hr j (by omega)) rfl (fun _ _ => rfl), h3⟩, h.2.2⟩
end RRL
