/-! both sides at once: what holds between two calls -/
/-- the class's half -/
def wC (S : ox_St) (x : Nat) (α : Int → Nat) (C : Nat → xCd) (nc : Nat) (s : xSt) (e : Nat) (b : Nat → Nat) : Prop := cR S x α C nc s ∧ S.I 61 x = nI e ∧ (∀ i, i < e → S.rI (x + 1) i = nI (b i)) ∧ oLx S x
/-- the code begun with -/
def zzB (S : ox_St) (x : Nat) (α : Int → Nat) (nc : Nat) : Prop := (S.R 36 (x + 11) = 0 ∧ S.I 96 (x + 76) = -1) ∨ ∃ c : Nat, c < nc ∧ S.R 36 (x + 11) = α (-1 - (c : Int)) ∧ S.I 96 (x + 76) = nI c
def zzV (S : ox_St) (x : Nat) (α : Int → Nat) (C : Nat → xCd) (nc : Nat) (s : xSt) (e : Nat) (b : Nat → Nat) (y ce : Nat) (γ : Int → Nat) (B : List Int) (T Bn Kn Wn K P : Nat) : Prop := (wC S x α C nc s e b ∧ wM S (x + 76) ce γ B T C nc y s e b Bn Kn Wn) ∧ (xWf C nc K s ∧ xPot C nc P s.H s.G s.f s.r) ∧ (S.I 39 (x + 11) = nI y ∧ S.I 63 x = S.I 70 (x + 76)) ∧ zzB S x α nc ∧ (e ≤ 800 ∧ ∀ i, i < e → b i < 256) ∧ S.K (x + 118) = 16 ∧ S.len (x + 118) = 1
def zzL (t nc e Bn Kn Wn K P : Nat) : Prop := 9 * nc + e ≤ 4 * t ∧ Bn + e ≤ 4 * t ∧ Kn + e ≤ 4 * t ∧ Wn + e ≤ 4 * t ∧ K ≤ 200 * t ∧ P ≤ 21000 * t
/-- before turn t -/
def zzI (x0 L : Nat) (xs : Nat → Int32) (x t : Nat) (S : ox_St) (mr sr : Nat) : Prop := (lw_scr x0 L xs S ∧ x0 < x) ∧ ∃ α C nc s e b y ce γ B T Bn Kn Wn K P, zzV S x α C nc s e b y ce γ B T Bn Kn Wn K P ∧ zzL t nc e Bn Kn Wn K P ∧ 1171 * (512 - t) + 8 * e ≤ mr ∧ 9906 * (512 - t) + 400 * e ≤ sr
section GL
variable {S S' T U : ox_St} {x x0 L nc e y ce Tc Bn Kn Wn K P t mr sr : Nat} {xs : Nat → Int32} {α : Int → Nat} {C : Nat → xCd} {s : xSt} {b : Nat → Nat} {γ : Int → Nat} {B : List Int}
theorem cJ_s69 {v : Int32} : cJ x S (S.sI 69 (x + 76) v) := ⟨oKl_sI, oAg_sI (fun z => z.2 ⟨Nat.le_refl _, by omega⟩)⟩
theorem cJ_w41 (g : w41 (x + 76) S S') : cJ x S S' := by
  obtain ⟨g1, g2, g3, g4, g5, g6, g7, g8, g9⟩ := g
  exact ⟨oKl_of g3 g1 g2, fun a ha => ⟨by rw [g1], by rw [g2], fun F => by rw [g8], fun F => by rw [g4], fun F => by rw [g5], fun j => by rw [g9 a (fun z => ha.2 ⟨by omega, by omega⟩)], fun j => by rw [g6], fun j => by rw [g7]⟩⟩
theorem wC.cJ (h : wC S x α C nc s e b) (j : cJ x S S') (hl : s.f.length ≤ 8) : wC S' x α C nc s e b := by
  obtain ⟨h1, h2, h3, h4⟩ := h
  have hn : x + 119 ≤ S.n := h1.1.2.2.2.1
  have h0 : 0 < x := h1.1.2.1
  have at' : ∀ a, a < x + 76 → _ := fun a ha => j.2 a ⟨by omega, fun z => by unfold cWo at z; omega⟩
  exact ⟨j.cR h1 hl, ((at' x (by omega)).2.2.1 61).trans h2, fun i hi => by rw [(at' (x + 1) (by omega)).2.2.2.2.2.1 i]; exact h3 i hi, h4.kl j.1 h1.1 ((at' (x + 2) (by omega)).2.2.1 2) ((at' (x + 2) (by omega)).2.2.2.1 1) ((at' 0 (by omega)).2.2.2.1 142)⟩
theorem wC.q (h : wC S x α C nc s e b) (q : cQ x S T) (hl : s.f.length ≤ 8) : wC T x α C nc s e b := by
  obtain ⟨h1, h2, h3, h4⟩ := h
  obtain ⟨q1, q2, q3, q4, q5, q6, q7, q8, q9⟩ := id q
  exact ⟨q.cR h1 hl, (q8 61 x (Or.inl (by decide))).trans h2, fun i hi => by rw [q9 (x + 1) i (by omega)]; exact h3 i hi, h4.kl (oKl_of q1 q2 q3) h1.1 (q8 2 _ (Or.inl (by decide))) (by rw [q4]) (by rw [q4])⟩
theorem cQ_ag {P0 : Nat → Prop} (q : cQ x S T) (h0 : ∀ a, P0 a → a ≠ x ∧ a ≠ x + 75) : oAg P0 S T := by
  obtain ⟨q1, q2, q3, q4, q5, q6, q7, q8, q9⟩ := q
  exact fun a ha => ⟨by rw [q2], by rw [q3], fun F => q8 F a (Or.inr (h0 a ha).1), fun F => by rw [q4], fun F => by rw [q5], fun j => q9 a j (h0 a ha).2, fun j => by rw [q6], fun j => by rw [q7]⟩
theorem scr_ag (h : lw_scr x0 L xs S) (ag : oAg (fun a => a = x0) S S') : lw_scr x0 L xs S' := by
  obtain ⟨a1, a2, -, -, -, a6, -⟩ := ag x0 rfl
  exact ⟨a1.trans h.1, a2.trans h.2.1, fun j hj => (a6 j).trans (h.2.2 j hj)⟩
theorem cJ_ag {P0 : Nat → Prop} (j : cJ x S S') (h0 : ∀ a, P0 a → a < S.n ∧ (a < x + 76 ∨ x + 119 ≤ a)) : oAg P0 S S' := j.2.sub (fun a ha => ⟨(h0 a ha).1, fun z => by have := (h0 a ha).2; unfold cWo at z; omega⟩)
/-- both sides told something, and nothing else happened -/
theorem zzV.q (h : zzV S x α C nc s e b y ce γ B Tc Bn Kn Wn K P) (q : cQ x S T) {v : Int32} (g : w41 (x + 76) (T.sI 69 (x + 76) v) U) : zzV U x α C nc s e b y ce γ B Tc Bn Kn Wn K P := by
  obtain ⟨⟨h1, h2⟩, ⟨h3, h4⟩, ⟨h5, h6⟩, h7, h8, h9, h10⟩ := h
  have hl := h3.2.2.2.1.1
  have hf := h3.len
  have agT : oAg (fun a => x + 1 ≤ a ∧ a < x + 119 ∧ a ≠ x + 75) S T := cQ_ag q (fun a ha => ⟨by omega, by omega⟩)
  have t1 := h1.q q hl
  have t2 := (h2.ag hf (agT.sub (fun a ha => ⟨by omega, by omega, by omega⟩))).s69 hf (v := v)
  have u2 := t2.w41 hf g
  have j : cJ x T U := cJ_s69.trans (cJ_w41 g)
  have u1 := t1.cJ j hl
  have qx := q.2.2.2.2.2.2.2.1
  have hn : x + 119 ≤ T.n := t1.1.1.2.2.2.1
  have uT : ∀ a, a < x + 76 → _ := fun a ha => j.2 a ⟨by omega, fun z => by unfold cWo at z; omega⟩
  have uI : ∀ F, F ≠ 69 → U.I F (x + 76) = S.I F (x + 76) := fun F hF => by
    rw [g.2.2.2.2.2.2.2.1, or_sI_I, if_neg (fun z => hF z.1)]
    exact qx F _ (Or.inr (by omega))
  have uR : ∀ a, a < x + 76 → U.R 36 a = S.R 36 a := fun a ha => by rw [(uT a ha).2.2.2.1 36, q.2.2.2.1]
  have k18 : U.K (x + 118) = S.K (x + 118) ∧ U.len (x + 118) = S.len (x + 118) := by
    rw [g.1, g.2.1]
    exact ⟨by show T.K _ = _; rw [q.2.1], by show T.len _ = _; rw [q.2.2.1]⟩
  refine ⟨⟨u1, u2⟩, ⟨h3, h4⟩, ⟨?_, ?_⟩, ?_, h8, k18.1.trans h9, k18.2.trans h10⟩
  · rw [(uT (x + 11) (by omega)).2.2.1 39, qx 39 _ (Or.inl (by decide))]; exact h5
  · rw [(uT x (by omega)).2.2.1 63, qx 63 _ (Or.inl (by decide)), uI 70 (by decide)]; exact h6
  · unfold zzB
    rw [uR (x + 11) (by omega), uI 96 (by decide)]
    exact h7
theorem scr_q (hs : lw_scr x0 L xs S) (hx : x0 < x) (q : cQ x S T) : lw_scr x0 L xs T := scr_ag hs (cQ_ag q (fun a ha => ⟨by omega, by omega⟩))
theorem scr_w (hs : lw_scr x0 L xs T) (hx : x0 < x) {v : Int32} (g : w41 (x + 76) (T.sI 69 (x + 76) v) U) : lw_scr x0 L xs U := by
  obtain ⟨g1, g2, g3, g4, g5, g6, g7, g8, g9⟩ := g
  exact ⟨by rw [g1]; exact hs.1, by rw [g2]; exact hs.2.1, fun j hj => by rw [g9 x0 (by omega)]; exact hs.2.2 j hj⟩
theorem zzL.up (h : zzL t nc e Bn Kn Wn K P) : zzL (t + 1) nc e Bn Kn Wn K P := by
  obtain ⟨h1, h2, h3, h4, h5, h6⟩ := h
  exact ⟨by omega, by omega, by omega, by omega, by omega, by omega⟩
end GL
