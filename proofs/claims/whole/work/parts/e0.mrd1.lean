/-! the reference reads: what is open, what stays -/
/-- how many are left, those that are there (the latest first), a code's number, where its head was -/
abbrev rRc : Type := Nat × List Int × Option Nat × Nat
def rVp : List rRc → List Int
  | [] => []
  | r :: O => r.2.1 ++ rVp O
def rOp (U : ox_St) (m : Nat) : List rRc → Prop
  | [] => True
  | r :: O => U.rI (m + 30) O.length = (if r.2.2.1 = none then 1 else 0) ∧ U.rI (m + 31) O.length = nI r.1 ∧ U.rI (m + 32) O.length = nI (rVp O).length ∧ (∀ c, r.2.2.1 = some c → U.rI (m + 33) O.length = nI c) ∧ rOp U m O
def rVs (U : ox_St) (m : Nat) (γ : Int → Nat) : List Int → Prop
  | [] => True
  | v :: V => U.rI (m + 34) V.length = gV γ v ∧ rVs U m γ V
/-- fields that reading leaves alone, rows that it leaves alone -/
def kRf (F : Nat) : Prop := F ≠ 70 ∧ F ≠ 75 ∧ F ≠ 76 ∧ ¬ (86 ≤ F ∧ F ≤ 88) ∧ ¬ (113 ≤ F ∧ F ≤ 120) ∧ ¬ (122 ≤ F ∧ F ≤ 125) ∧ F ≠ 132
def kRr (m ce a : Nat) : Prop := a ≠ m + ce ∧ ¬ (m + 4 ≤ a ∧ a ≤ m + 14) ∧ ¬ (m + 26 ≤ a ∧ a ≤ m + 35)
/-- what reading leaves alone: q counts codes, bytes, constants, names, cells that there were -/
def kR (S U : ox_St) (m ce : Nat) (q : Nat × Nat × Nat × Nat × Nat) : Prop := U.K = S.K ∧ U.len = S.len ∧ U.n = S.n ∧ U.R = S.R ∧ U.J = S.J ∧ U.rR = S.rR ∧ (∀ F a, a ≠ m ∨ kRf F → U.I F a = S.I F a) ∧ (∀ a, kRr m ce a → U.rI a = S.rI a) ∧ (∀ o z, 4 ≤ o → o ≤ 12 → z < q.1 → U.rI (m + o) z = S.rI (m + o) z) ∧ (∀ z, z < q.2.1 → U.rI (m + 13) z = S.rI (m + 13) z) ∧ (∀ z, z < q.2.2.1 → U.rI (m + 14) z = S.rI (m + 14) z) ∧ (∀ z, z < q.2.2.2.2 → U.rI (m + ce) z = S.rI (m + ce) z) ∧ (∀ a, a ≠ m + 15 → U.rJ a = S.rJ a) ∧ ∀ z, z < q.2.2.2.1 → U.rJ (m + 15) z = S.rJ (m + 15) z
section KR
variable {S U V : ox_St} {m ce : Nat} {q : Nat × Nat × Nat × Nat × Nat} {γ : Int → Nat}
theorem kR.refl : kR S S m ce q := ⟨rfl, rfl, rfl, rfl, rfl, rfl, fun _ _ _ => rfl, fun _ _ => rfl, fun _ _ _ _ _ => rfl, fun _ _ => rfl, fun _ _ => rfl, fun _ _ => rfl, fun _ _ => rfl, fun _ _ => rfl⟩
theorem kR.trans (h : kR S U m ce q) (g : kR U V m ce q) : kR S V m ce q := by
  obtain ⟨h1, h2, h3, h4, h5, h6, h7, h8, h9, ha, hb, hc, hd, he⟩ := h
  obtain ⟨g1, g2, g3, g4, g5, g6, g7, g8, g9, ga, gb, gc, gd, ge⟩ := g
  exact ⟨g1.trans h1, g2.trans h2, g3.trans h3, g4.trans h4, g5.trans h5, g6.trans h6, fun F a z => (g7 F a z).trans (h7 F a z), fun a z => (g8 a z).trans (h8 a z), fun o z z1 z2 z3 => (g9 o z z1 z2 z3).trans (h9 o z z1 z2 z3), fun z y => (ga z y).trans (ha z y), fun z y => (gb z y).trans (hb z y), fun z y => (gc z y).trans (hc z y), fun a z => (gd a z).trans (hd a z), fun z y => (ge z y).trans (he z y)⟩
theorem kR.tk (h : tkF m S U) : kR S U m ce q := by
  obtain ⟨h1, h2, h3, h4, h5, h6, h7, h8, h9⟩ := h
  exact ⟨h1, h2, h3, h4, h5, h6, fun F a z => h9 F a (z.imp id (fun y => by unfold kRf at y; omega)), fun a _ => by rw [h8], fun o z _ _ _ => by rw [h8], fun z _ => by rw [h8], fun z _ => by rw [h8], fun z _ => by rw [h8], fun a _ => by rw [h7], fun z _ => by rw [h7]⟩
theorem kR.mp {T : Nat} (hce : ce = 2 ∨ ce = 3) (h : mpF m ce T S U) (hT : q.2.2.2.2 ≤ T) : kR S U m ce q := by
  obtain ⟨h1, h2, h3, h4, h5, h6, h7, h8, h9, h10⟩ := h
  exact ⟨h1, h2, h3, h4, h5, h6, fun F a z => h8 F a (z.imp id (fun y => by unfold kRf at y; omega)), fun a z => h9 a (by unfold kRr at z; omega) z.1, fun o z z1 z2 _ => by rw [h9 _ (by omega) (by omega)], fun z _ => by rw [h9 _ (by omega) (by omega)], fun z _ => by rw [h9 _ (by omega) (by omega)], fun z y => h10 z (by omega), fun a _ => by rw [h7], fun z _ => by rw [h7]⟩
theorem kR.nw {T : Nat} (hce : ce = 2 ∨ ce = 3) (h : mNw m ce T S U) (hT : q.2.2.2.2 ≤ T) : kR S U m ce q := by
  obtain ⟨h1, h2, h3, h4, h5, h6, h7, h8, h9, h10⟩ := h
  exact ⟨h1, h2, h3, h4, h5, h6, fun F a z => h8 F a (z.imp id (fun y => by unfold kRf at y; omega)), fun a z => h9 a (by unfold kRr at z; omega) z.1, fun o z z1 z2 _ => by rw [h9 _ (by omega) (by omega)], fun z _ => by rw [h9 _ (by omega) (by omega)], fun z _ => by rw [h9 _ (by omega) (by omega)], fun z y => h10 z (by omega), fun a _ => by rw [h7], fun z _ => by rw [h7]⟩
theorem kR.cd {c B : Nat} (hce : ce = 2 ∨ ce = 3) (h : cdF m c B S U) (hc : q.1 ≤ c) (hB : q.2.1 ≤ B) : kR S U m ce q := by
  obtain ⟨h1, h2, h3, h4, h5, h6, h7, h8, h9, h10, h11⟩ := h
  refine ⟨h1, h2, h3, h4, h5, h6, fun F a z => h8 F a (z.imp id (fun y => by unfold kRf at y; omega)), fun a z => h9 a (by unfold kRr at z; omega) (by unfold kRr at z; omega), fun o z z1 z2 z3 => ?_, fun z y => h11 z (by omega), fun z _ => by rw [h9 _ (by omega) (by omega)], fun z _ => by rw [h9 _ (by omega) (by omega)], fun a _ => by rw [h7], fun z _ => by rw [h7]⟩
  by_cases w : o ≤ 8
  · exact h10 _ z (by omega) (by omega) (by omega)
  · rw [h9 _ (by omega) (by omega)]
theorem kR.nm {c D : Nat} (hce : ce = 2 ∨ ce = 3) (h : nmF m c D S U) (hc : q.1 ≤ c) (hD : q.2.2.2.1 ≤ D) : kR S U m ce q := by
  obtain ⟨h1, h2, h3, h4, h5, h6, h7, h8, h9, h10, h11⟩ := h
  exact ⟨h1, h2, h3, h4, h5, h6, fun F a z => h7 F a (z.imp id (fun y => by unfold kRf at y; omega)), fun a z => h8 a (by unfold kRr at z; omega) (by unfold kRr at z; omega), fun o z z1 z2 z3 => h9 _ z (by omega), fun z _ => by rw [h8 _ (by omega) (by omega)], fun z _ => by rw [h8 _ (by omega) (by omega)], fun z _ => by rw [h8 _ (by omega) (by omega)], h10, fun z y => h11 z (by omega)⟩
theorem kR.sI {F : Nat} {w : Int32} (h : kR S U m ce q) (hF : ¬ kRf F) : kR S (U.sI F m w) m ce q := by
  obtain ⟨h1, h2, h3, h4, h5, h6, h7, h8, h9, ha, hb, hc, hd, he⟩ := h
  refine ⟨(or_sI_K _ _ _ _).trans h1, (or_sI_len _ _ _ _).trans h2, (or_sI_n _ _ _ _).trans h3, (or_sI_R _ _ _ _).trans h4, (or_sI_J _ _ _ _).trans h5, (or_sI_rR _ _ _ _).trans h6, fun G a z => ?_, ?_, ?_, ?_, ?_, ?_, ?_, ?_⟩
  · rw [or_sI_I, if_neg (fun y => z.elim (fun w => w y.2) (fun w => hF (by rw [← y.1]; exact w)))]; exact h7 G a z
  · rw [or_sI_rI]; exact h8
  · rw [or_sI_rI]; exact h9
  · rw [or_sI_rI]; exact ha
  · rw [or_sI_rI]; exact hb
  · rw [or_sI_rI]; exact hc
  · rw [or_sI_rJ]; exact hd
  · rw [or_sI_rJ]; exact he
/-- rows that may be written -/
def kRw (q : Nat × Nat × Nat × Nat × Nat) (o i : Nat) : Prop := (26 ≤ o ∧ o ≤ 35) ∨ (4 ≤ o ∧ o ≤ 12 ∧ q.1 ≤ i) ∨ (o = 14 ∧ q.2.2.1 ≤ i)
theorem kR.wI {o i : Nat} {w : Int32} (hce : ce = 2 ∨ ce = 3) (h : kR S U m ce q) (ho : kRw q o i) : kR S (U.wI (m + o) i w) m ce q := by
  unfold kRw at ho
  obtain ⟨h1, h2, h3, h4, h5, h6, h7, h8, h9, ha, hb, hc, hd, he⟩ := h
  refine ⟨(or_wI_K _ _ _ _).trans h1, (or_wI_len _ _ _ _).trans h2, (or_wI_n _ _ _ _).trans h3, (or_wI_R _ _ _ _).trans h4, (or_wI_J _ _ _ _).trans h5, (or_wI_rR _ _ _ _).trans h6, fun G a z => by rw [or_wI_I]; exact h7 G a z, fun a z => funext fun j => ?_, fun p z z1 z2 z3 => ?_, fun z y => ?_, fun z y => ?_, fun z y => ?_, ?_, ?_⟩
  · rw [or_wI_rI, if_neg (fun y => by have := y.1; unfold kRr at z; omega)]; exact congrFun (h8 a z) j
  · rw [or_wI_rI, if_neg (fun y => by have := y.1; have := y.2; omega)]; exact h9 p z z1 z2 z3
  · rw [or_wI_rI, if_neg (fun y => by have := y.1; omega)]; exact ha z y
  · rw [or_wI_rI, if_neg (fun y => by have := y.1; have := y.2; omega)]; exact hb z y
  · rw [or_wI_rI, if_neg (fun y => by have := y.1; omega)]; exact hc z y
  · rw [or_wI_rJ]; exact hd
  · rw [or_wI_rJ]; exact he
theorem rOp.row : ∀ (O : List rRc), (∀ o j, 30 ≤ o → o ≤ 33 → j < O.length → V.rI (m + o) j = U.rI (m + o) j) → rOp U m O → rOp V m O
  | [], _, _ => trivial
  | r :: O, hr, ⟨h1, h2, h3, h4, h5⟩ => by
    have lt : O.length < (r :: O).length := Nat.lt_succ_self _
    exact ⟨(hr 30 _ (by omega) (by omega) lt).trans h1, (hr 31 _ (by omega) (by omega) lt).trans h2, (hr 32 _ (by omega) (by omega) lt).trans h3, fun c hc => (hr 33 _ (by omega) (by omega) lt).trans (h4 c hc), rOp.row O (fun o j z1 z2 z3 => hr o j z1 z2 (Nat.lt_succ_of_lt z3)) h5⟩
theorem rVs.row {γ' : Int → Nat} : ∀ (W : List Int), (∀ j, j < W.length → V.rI (m + 34) j = U.rI (m + 34) j) → (∀ v ∈ W, gV γ' v = gV γ v) → rVs U m γ W → rVs V m γ' W
  | [], _, _, _ => trivial
  | v :: W, hr, hg, ⟨h1, h2⟩ => ⟨by rw [hr _ (Nat.lt_succ_self _), hg v List.mem_cons_self]; exact h1, rVs.row W (fun j hj => hr j (Nat.lt_succ_of_lt hj)) (fun u hu => hg u (List.mem_cons_of_mem _ hu)) h2⟩
theorem rVs.at : ∀ (W : List Int) (i : Nat), i < W.length → rVs U m γ W → U.rI (m + 34) i = gV γ (W.getD (W.length - 1 - i) 0)
  | v :: W, i, hi, ⟨h1, h2⟩ => by
    by_cases z : i = W.length
    · rw [z, h1, List.length_cons, show W.length + 1 - 1 - W.length = 0 by omega]; rfl
    · have := rVs.at W i (by have : i < W.length + 1 := hi; omega) h2
      rw [this, List.length_cons, show W.length + 1 - 1 - i = (W.length - 1 - i) + 1 by have : i < W.length + 1 := hi; omega]
      rfl
end KR
