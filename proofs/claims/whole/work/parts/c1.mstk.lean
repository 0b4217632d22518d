/-! the reference: an instruction's frame, its stack -/
/-- an instruction's entry, as the reference has it -/
def rE (S : ox_St) (m ce : Nat) (γ : Int → Nat) (B : List Int) (T : Nat) (C : Nat → xCd) (nc y : Nat) (e : xEn) (q : Nat) (st : List Int) : Prop := rR S m ce γ B T C nc y (e.H, e.n, e.G, (e.c, q, st, e.L, e.b) :: e.t, 1, -1, 0)
section RES
variable {sp : ox_E} {d mr sr : Nat} {S S' : ox_St} {Q : ox_Q} {m ce : Nat} {γ : Int → Nat} {B : List Int} {T : Nat} {C : Nat → xCd} {nc K y : Nat} {e : xEn} {q : Nat} {st r : List Int} {v u : Int}
/-- what a frame's change leaves alone -/
def rCh (m ce T f : Nat) (S S' : ox_St) : Prop := mFx m S S' ∧ S'.R = S.R ∧ (∀ F, F = 75 ∨ (92 ≤ F ∧ F ≤ 97) ∨ F = 106 → S'.I F m = S.I F m) ∧ (∀ a, (m + 4 ≤ a ∧ a ≤ m + 14) ∨ a = m + 25 → S'.rI a = S.rI a) ∧ (∀ j, j < T → S'.rI (m + ce) j = S.rI (m + ce) j) ∧ S'.rJ = S.rJ ∧ ∀ g, g < f → rKp m g S S'
theorem rKp.refl {f : Nat} : rKp m f S S := ⟨fun _ _ _ => rfl, fun _ _ => rfl, fun _ _ => rfl, fun _ _ => ⟨rfl, rfl⟩⟩
theorem rKp.trans {f : Nat} {U : ox_St} (h : rKp m f S S') (g : rKp m f S' U) : rKp m f S U := ⟨fun o a b => (g.1 o a b).trans (h.1 o a b), fun j hj => (g.2.1 j hj).trans (h.2.1 j hj), fun j hj => (g.2.2.1 j hj).trans (h.2.2.1 j hj), fun j hj => ⟨(g.2.2.2 j hj).1.trans (h.2.2.2 j hj).1, (g.2.2.2 j hj).2.trans (h.2.2.2 j hj).2⟩⟩
theorem rCh.refl {f : Nat} : rCh m ce T f S S := ⟨mFx.refl, rfl, fun _ _ => rfl, fun _ _ => rfl, fun _ _ => rfl, rfl, fun _ _ => rKp.refl⟩
theorem rCh.trans {f : Nat} {U : ox_St} (h : rCh m ce T f S S') (g : rCh m ce T f S' U) : rCh m ce T f S U := by
  obtain ⟨h1, h2, h3, h4, h5, h6, h7⟩ := h
  obtain ⟨g1, g2, g3, g4, g5, g6, g7⟩ := g
  exact ⟨h1.trans g1, g2.trans h2, fun F z => (g3 F z).trans (h3 F z), fun a z => (g4 a z).trans (h4 a z), fun j z => (g5 j z).trans (h5 j z), g6.trans h6, fun f z => (h7 f z).trans (g7 f z)⟩
/-- a row of the frames is written: o its place, at i, which is of the frame f -/
def rAt (f o i : Nat) : Prop := (16 ≤ o ∧ o ≤ 19 ∧ i = f) ∨ (o = 20 ∧ 10 * f ≤ i) ∨ (o = 21 ∧ 8 * f ≤ i) ∨ (o = 22 ∧ 4 * f ≤ i) ∨ (o = 23 ∧ 4 * f ≤ i)
theorem rCh.wI {f o i : Nat} {w : Int32} (h : rCh m ce T f S S') (hce : ce = 2 ∨ ce = 3) (ha : rAt f o i) : rCh m ce T f S (S'.wI (m + o) i w) := by
  unfold rAt at ha
  obtain ⟨h1, h2, h3, h4, h5, h6, h7⟩ := h
  refine ⟨h1.wI (by omega), (or_wI_R _ _ _ _).trans h2, fun F z => by rw [or_wI_I]; exact h3 F z, fun a z => ?_, fun j z => ?_, (or_wI_rJ _ _ _ _).trans h6, fun g hg => ?_⟩
  · funext j
    rw [or_wI_rI, if_neg (fun y => by have := y.1; omega)]
    exact congrFun (h4 a z) j
  · rw [or_wI_rI, if_neg (fun y => by have := y.1; omega)]
    exact h5 j z
  · obtain ⟨k1, k2, k3, k4⟩ := h7 g hg
    refine ⟨fun p a b => ?_, fun j hj => ?_, fun j hj => ?_, fun j hj => ⟨?_, ?_⟩⟩
    · rw [or_wI_rI, if_neg (fun y => by have := y.1; have := y.2; omega)]; exact k1 p a b
    · rw [or_wI_rI, if_neg (fun y => by have := y.1; have := y.2; omega)]; exact k2 j hj
    · rw [or_wI_rI, if_neg (fun y => by have := y.1; have := y.2; omega)]; exact k3 j hj
    · rw [or_wI_rI, if_neg (fun y => by have := y.1; have := y.2; omega)]; exact (k4 j hj).1
    · rw [or_wI_rI, if_neg (fun y => by have := y.1; have := y.2; omega)]; exact (k4 j hj).2
/-- the frame changes -/
theorem rE.fr (h : rE S m ce γ B T C nc y e q st) (hx : xEs1 C nc K e st) (ch : rCh m ce T e.t.length S S') {f' : xFr} (hf : rFr S' m γ e.t.length f') (hs : ∀ v ∈ f'.2.2.1, xIn B v) (hl : xLIn B f'.2.2.2.1) : rR S' m ce γ B T C nc y (e.H, e.n, e.G, f' :: e.t, 1, -1, 0) := by
  obtain ⟨a1, ⟨a2, a3⟩, ⟨a4, a5⟩, ⟨-, a6⟩, a7, ⟨b1, b2, b3, b4, b5⟩, c1, c2, c3⟩ := h
  obtain ⟨h1, h2, h3, h4, h5, h6, h7⟩ := ch
  obtain ⟨⟨x1, x2, x3, x4, x5, x6, x7⟩, -⟩ := hx
  refine ⟨a1.next h1.2.1 h1.2.2.1 (fun F => by rw [h2]), ⟨a2.next h5, (h3 75 (by omega)).trans a3⟩, ⟨a4, fun c hc => (a5 c hc).next (fun a z1 z2 => h4 a (by omega)) (by rw [h6]) (fun _ _ => rfl)⟩, ⟨hf, ?_⟩, a7.next (h3 106 (by omega)) (by rw [h6]) (h4 _ (by omega)) (fun _ _ => rfl), ⟨(h3 92 (by omega)).trans b1, (h3 93 (by omega)).trans b2, (h3 94 (by omega)).trans b3, (h3 95 (by omega)).trans b4, (h3 97 (by omega)).trans b5⟩, c1, c2, fun g hg => ?_⟩
  · exact rFs.next e.t h7 (fun g hg => ⟨by have := (x7 g hg).len x2; omega, ((x7 g hg).blk x2).1⟩) (fun _ _ _ _ => rfl) a6
  · rcases List.mem_cons.mp hg with z | z
    · rw [z]; exact ⟨hs, hl⟩
    · exact c3 g (List.mem_cons_of_mem _ z)
theorem rE.in (h : rE S m ce γ B T C nc y e q st) : (∀ v ∈ st, xIn B v) ∧ xLIn B e.L := h.2.2.2.2.2.2.2.2 _ List.mem_cons_self
theorem rE.ml (h : rE S m ce γ B T C nc y e q st) : oML S m ce := h.1
theorem rE.k (h : rE S m ce γ B T C nc y e q st) : S.K m = 14 := h.1.1
theorem rE.c23 (h : rE S m ce γ B T C nc y e q st) : ce = 2 ∨ ce = 3 := h.1.2.2.1
theorem rE.f92 (h : rE S m ce γ B T C nc y e q st) : S.I 92 m = nI (e.t.length + 1) := h.2.2.2.2.2.1.1
theorem rE.ht (h : rE S m ce γ B T C nc y e q st) : S.rI (m + 18) e.t.length = nI st.length := h.2.2.2.1.1.2.2.1
theorem rE.sk (h : rE S m ce γ B T C nc y e q st) : rStk S m γ e.t.length st := h.2.2.2.1.1.2.2.2.2.1
/-- another height; the stack's row may change above it -/
theorem rE.high (h : rE S m ce γ B T C nc y e q st) (hx : xEs1 C nc K e st) {i n : Nat} {w : Int32} {st' : List Int} (hi : 10 * e.t.length ≤ i) (hn : n = st'.length) (hs : rStk ((S.wI (m + 20) i w).wI (m + 18) e.t.length (nI n)) m γ e.t.length st') (hB : ∀ v ∈ st', xIn B v) : rCh m ce T e.t.length S ((S.wI (m + 20) i w).wI (m + 18) e.t.length (nI n)) ∧ rE ((S.wI (m + 20) i w).wI (m + 18) e.t.length (nI n)) m ce γ B T C nc y e q st' := by
  have ch : rCh m ce T e.t.length S ((S.wI (m + 20) i w).wI (m + 18) e.t.length (nI n)) := (rCh.refl.wI h.c23 (Or.inr (Or.inl ⟨rfl, hi⟩))).wI h.c23 (Or.inl ⟨by omega, by omega, rfl⟩)
  obtain ⟨f1, f2, f3, f4, f5, f6, f7⟩ := h.2.2.2.1.1
  have er : ∀ a j, a ≠ m + 20 → a ≠ m + 18 → ((S.wI (m + 20) i w).wI (m + 18) e.t.length (nI n)).rI a j = S.rI a j := fun a j z1 z2 => by rw [or_wI_rI, if_neg (fun y => z2 y.1), or_wI_rI, if_neg (fun y => z1 y.1)]
  have e18 : ((S.wI (m + 20) i w).wI (m + 18) e.t.length (nI n)).rI (m + 18) e.t.length = nI n := by rw [or_wI_rI, if_pos ⟨rfl, rfl⟩]
  generalize (S.wI (m + 20) i w).wI (m + 18) e.t.length (nI n) = U at ch hs er e18 ⊢
  refine ⟨ch, h.fr hx ch ⟨(er _ _ (by omega) (by omega)).trans f1, (er _ _ (by omega) (by omega)).trans f2, by rw [e18, hn], (er _ _ (by omega) (by omega)).trans f4, hs, rLo.row (fun j _ => er _ _ (by omega) (by omega)) (fun _ _ _ => rfl) f6, rBk.row _ (fun j _ => ⟨er _ _ (by omega) (by omega), er _ _ (by omega) (by omega)⟩) f7⟩ hB h.in.2⟩
/-- push, as it is -/
theorem r_174c (hsp : ox_mono sp) (h : rE S m ce γ B T C nc y e q st) (hx : xEs1 C nc K e st) (hl : st.length < 10) {w : Int32} (hQ : Q none ((S.wI (m + 20) (10 * e.t.length + st.length) w).wI (m + 18) e.t.length (nI (st.length + 1)))) : ox_M sp (d + 1) 174 [.inr (.inr m), .inl w] mr sr S Q := by
  have t7 := hx.t7
  obtain ⟨a1, a2, a3⟩ := h.ml.row (F := 102) (o := 20) (k := 15) (n := 80) (by decide)
  obtain ⟨b1, b2, b3⟩ := h.ml.row (F := 100) (o := 18) (k := 15) (n := 8) (by decide)
  have e10 : (10 : Int32) * nI e.t.length + nI st.length = nI (10 * e.t.length + st.length) := by rw [show (10 : Int32) = nI 10 from rfl, pk_mul, nI_add]
  refine f_174 hsp ⟨by rw [h.k]; rfl, ?_⟩
  rw [h.f92, nI_pred]
  intro w1
  have ew : w1 = nI e.t.length := rfl
  clear_value w1
  subst ew
  rw [b1, b2, b3, a1, a2, a3, h.k, nI_clamp (show e.t.length < 2 ^ 31 by omega), h.ht, e10, nI_clamp (show 10 * e.t.length + st.length < 2 ^ 31 by omega)]
  refine ⟨rfl, rfl, rfl, vp_in_nI (by omega) (by decide), rfl, vp_in_nI (by omega) (by decide), ?_⟩
  have eK : (S.wI (m + 20) (10 * e.t.length + st.length) w).K = S.K := or_wI_K _ _ _ _
  have el : (S.wI (m + 20) (10 * e.t.length + st.length) w).len = S.len := or_wI_len _ _ _ _
  have eR : (S.wI (m + 20) (10 * e.t.length + st.length) w).R = S.R := or_wI_R _ _ _ _
  have er : (S.wI (m + 20) (10 * e.t.length + st.length) w).rI (m + 18) e.t.length = nI st.length := by rw [or_wI_rI, if_neg (fun z => by have := z.1; omega)]; exact h.ht
  refine ⟨by rw [eK, h.k]; rfl, by rw [eR, eK, b1, b2]; rfl, by rw [eR, el, b1, b3]; exact vp_in_nI (by omega) (by decide), by rw [eR, eK, b1, b2], by rw [eR, el, b1, b3]; exact vp_in_nI (by omega) (by decide), ?_⟩
  rw [eR, b1, er, nI_1]
  exact ⟨rfl, hQ⟩
theorem rE.pushed (h : rE S m ce γ B T C nc y e q st) (hx : xEs1 C nc K e st) (hv : xIn B v) : rCh m ce T e.t.length S ((S.wI (m + 20) (10 * e.t.length + st.length) (gV γ v)).wI (m + 18) e.t.length (nI (st.length + 1))) ∧ rE ((S.wI (m + 20) (10 * e.t.length + st.length) (gV γ v)).wI (m + 18) e.t.length (nI (st.length + 1))) m ce γ B T C nc y e q (v :: st) := by
  have t7 := hx.t7
  exact h.high hx (i := 10 * e.t.length + st.length) (n := st.length + 1) (w := gV γ v) (st' := v :: st) (by omega) rfl ⟨by rw [or_wI_rI, if_neg (fun z => by have := z.1; omega), or_wI_rI, if_pos ⟨rfl, rfl⟩], rStk.row _ (fun j hj => by rw [or_wI_rI, if_neg (fun z => by have := z.1; omega), or_wI_rI, if_neg (fun z => by have := z.2; omega)]) (fun _ _ => rfl) h.sk⟩ (fun u hu => by
    rcases List.mem_cons.mp hu with z | z
    · rw [z]; exact hv
    · exact h.in.1 u z)
/-- push -/
theorem r_174 (hsp : ox_mono sp) (h : rE S m ce γ B T C nc y e q st) (hx : xEs1 C nc K e st) (hl : st.length < 10) (hv : xIn B v) (hQ : ∀ S', rCh m ce T e.t.length S S' → rE S' m ce γ B T C nc y e q (v :: st) → Q none S') : ox_M sp (d + 1) 174 [.inr (.inr m), .inl (gV γ v)] mr sr S Q := r_174c hsp h hx hl (hQ _ (h.pushed hx hv).1 (h.pushed hx hv).2)
/-- another height -/
theorem rE.low (h : rE S m ce γ B T C nc y e q st) (hx : xEs1 C nc K e st) (i : Nat) : rCh m ce T e.t.length S (S.wI (m + 18) e.t.length (nI (st.length - i))) ∧ rE (S.wI (m + 18) e.t.length (nI (st.length - i))) m ce γ B T C nc y e q (st.drop i) := by
  have ch : rCh m ce T e.t.length S (S.wI (m + 18) e.t.length (nI (st.length - i))) := rCh.refl.wI h.c23 (Or.inl ⟨by omega, by omega, rfl⟩)
  obtain ⟨f1, f2, f3, f4, f5, f6, f7⟩ := h.2.2.2.1.1
  have er : ∀ a j, a ≠ m + 18 → (S.wI (m + 18) e.t.length (nI (st.length - i))).rI a j = S.rI a j := fun a j z2 => by rw [or_wI_rI, if_neg (fun y => z2 y.1)]
  have e18 : (S.wI (m + 18) e.t.length (nI (st.length - i))).rI (m + 18) e.t.length = nI (st.length - i) := by rw [or_wI_rI, if_pos ⟨rfl, rfl⟩]
  generalize S.wI (m + 18) e.t.length (nI (st.length - i)) = U at ch er e18 ⊢
  refine ⟨ch, h.fr hx ch ⟨(er _ _ (by omega)).trans f1, (er _ _ (by omega)).trans f2, by rw [e18]; show _ = nI (st.drop i).length; rw [List.length_drop], (er _ _ (by omega)).trans f4, rStk.row _ (fun j _ => er _ _ (by omega)) (fun _ _ => rfl) (f5.drop i), rLo.row (fun j _ => er _ _ (by omega)) (fun _ _ _ => rfl) f6, rBk.row _ (fun j _ => ⟨er _ _ (by omega), er _ _ (by omega)⟩) f7⟩ (fun v hv => h.in.1 v (List.mem_of_mem_drop hv)) h.in.2⟩
/-- pop -/
theorem r_175 (hsp : ox_mono sp) (h : rE S m ce γ B T C nc y e q (v :: r)) (hx : xEs1 C nc K e (v :: r)) (hQ : ∀ S', rCh m ce T e.t.length S S' → rE S' m ce γ B T C nc y e q r → xIn B v → Q (some (.inl (gV γ v))) S') : ox_M sp (d + 1) 175 [.inr (.inr m)] mr sr S Q := by
  have t7 := hx.t7
  have s10 : r.length + 1 ≤ 10 := hx.2.2.1
  obtain ⟨a1, a2, a3⟩ := h.ml.row (F := 102) (o := 20) (k := 15) (n := 80) (by decide)
  obtain ⟨b1, b2, b3⟩ := h.ml.row (F := 100) (o := 18) (k := 15) (n := 8) (by decide)
  have e10 : (10 : Int32) * nI e.t.length + nI r.length = nI (10 * e.t.length + r.length) := by rw [show (10 : Int32) = nI 10 from rfl, pk_mul, nI_add]
  have ht : S.rI (m + 18) e.t.length = nI (r.length + 1) := h.ht
  have h20 := h.sk.1
  obtain ⟨c1, c2⟩ := h.low hx 1
  have c1' : rCh m ce T e.t.length S (S.wI (m + 18) e.t.length (nI r.length)) := c1
  have c2' : rE (S.wI (m + 18) e.t.length (nI r.length)) m ce γ B T C nc y e q r := c2
  have eK : (S.wI (m + 18) e.t.length (nI r.length)).K = S.K := or_wI_K _ _ _ _
  have el : (S.wI (m + 18) e.t.length (nI r.length)).len = S.len := or_wI_len _ _ _ _
  have eR : (S.wI (m + 18) e.t.length (nI r.length)).R = S.R := or_wI_R _ _ _ _
  have er : (S.wI (m + 18) e.t.length (nI r.length)).rI (m + 18) e.t.length = nI r.length := by rw [or_wI_rI, if_pos ⟨rfl, rfl⟩]
  have er2 : ∀ j, (S.wI (m + 18) e.t.length (nI r.length)).rI (m + 20) j = S.rI (m + 20) j := fun j => by rw [or_wI_rI, if_neg (fun z => by have := z.1; omega)]
  refine f_175 hsp ⟨by rw [h.k]; rfl, ?_⟩
  rw [h.f92, nI_pred]
  intro w1
  have ew : w1 = nI e.t.length := rfl
  clear_value w1
  subst ew
  rw [b1, b2, b3, h.k, nI_clamp (show e.t.length < 2 ^ 31 by omega), ht, nI_pred]
  refine ⟨rfl, rfl, vp_in_nI (by omega) (by decide), rfl, vp_in_nI (by omega) (by decide), ?_⟩
  generalize S.wI (m + 18) e.t.length (nI r.length) = U at c1' c2' eK el eR er er2 ⊢
  refine ⟨by rw [eK, h.k]; rfl, by rw [eK, h.k]; rfl, by rw [eR, eK, b1, b2]; rfl, by rw [eR, el, b1, b3]; exact vp_in_nI (by omega) (by decide), by rw [eR, eK, a1, a2]; rfl, ?_, trivial, ?_⟩
  · rw [eR, el, b1, a1, a3, er, e10]
    exact vp_in_nI (by omega) (by decide)
  · rw [eR, b1, a1, er, e10, nI_clamp (by omega), er2, h20]
    exact hQ U c1' c2' (h.in.1 v List.mem_cons_self)
/-- peek -/
theorem r_176 (hsp : ox_mono sp) (h : rE S m ce γ B T C nc y e q st) (hx : xEs1 C nc K e st) {i : Nat} (hi : i < st.length) (hQ : xIn B (st.getD i 0) → Q (some (.inl (gV γ (st.getD i 0)))) S) : ox_M sp (d + 1) 176 [.inr (.inr m), .inl (nI i)] mr sr S Q := by
  have t7 := hx.t7
  have s10 := hx.2.2.1
  obtain ⟨a1, a2, a3⟩ := h.ml.row (F := 102) (o := 20) (k := 15) (n := 80) (by decide)
  obtain ⟨b1, b2, b3⟩ := h.ml.row (F := 100) (o := 18) (k := 15) (n := 8) (by decide)
  have e10 : (10 : Int32) * nI e.t.length + nI st.length - 1 - nI i = nI (10 * e.t.length + (st.length - 1 - i)) := by
    rw [show (10 : Int32) = nI 10 from rfl, pk_mul, nI_add, show (1 : Int32) = nI 1 from rfl, pk_sub (by omega), pk_sub (by omega)]
    exact congrArg nI (by omega)
  have hB : xIn B (st.getD i 0) := h.in.1 _ (by rw [List.getD_eq_getElem?_getD, List.getElem?_eq_getElem hi]; exact List.getElem_mem hi)
  refine f_176 hsp ?_
  unfold q_176
  rw [h.f92, nI_pred, b1, b2, b3, a1, a2, a3, h.k, nI_clamp (show e.t.length < 2 ^ 31 by omega), h.ht, e10, nI_clamp (show 10 * e.t.length + (st.length - 1 - i) < 2 ^ 31 by omega), rStk.at st i hi h.sk]
  exact ⟨rfl, rfl, rfl, rfl, rfl, vp_in_nI (by omega) (by decide), rfl, vp_in_nI (by omega) (by decide), trivial, hQ hB⟩
end RES
