/-! the class's frames: what their methods do to an entry -/
/-- what running leaves alone below the values -/
def cN (x : Nat) (S S' : ox_St) : Prop := oKl S S' ∧ oAg (fun a => a < x + 119 ∧ ¬ cZ x a) S S' ∧ S'.R 36 (x + 11) = S.R 36 (x + 11) ∧ S'.I 39 (x + 11) = S.I 39 (x + 11)
theorem cN.refl {x : Nat} {S : ox_St} : cN x S S := ⟨oKl.refl, oAg.refl, rfl, rfl⟩
theorem cN.trans {x : Nat} {S S' T : ox_St} (h : cN x S S') (g : cN x S' T) : cN x S T := ⟨h.1.trans g.1, h.2.1.trans g.2.1, g.2.2.1.trans h.2.2.1, g.2.2.2.trans h.2.2.2⟩
theorem cI.cN {x f : Nat} {S S' : ox_St} (h : cI x (cWf x f) S S') (hn : x + 119 ≤ S.n) (hf : f ≤ 7) : cN x S S' := by
  obtain ⟨a1, a2, -⟩ := h.at (a := x + 11) (by omega) (fun z => by unfold cWf at z; omega)
  exact ⟨h.1, h.2.1.sub (fun a ha => ⟨by omega, fun z => ha.2 (cWf_Z hf a z)⟩), a2 _, a1 _⟩
theorem pvI {o : Option Nat} {j : Nat} {f : Nat → Prop} (h : o = some j) (hf : f j) : ox_pv o f := by
  rw [h]; exact hf
theorem cX_go {S : ox_St} {x : Nat} {α : Int → Nat} {C : Nat → xCd} {nc : Nat} {e : xEn} {q q' : Nat} {st st' : List Int} (h : cE S x α C nc e q' st') : cX S x α C nc e q st (xGo e q' st') (-1) := ⟨rfl, h⟩
section CS
variable {sp : ox_E} {d mr sr : Nat} {S S0 S' : ox_St} {Q : ox_Q} {x : Nat} {α : Int → Nat} {C : Nat → xCd} {nc K : Nat} {e : xEn} {q : Nat} {st r : List Int} {v u : Int} {a : Nat}
theorem xEs1.tail (h : xEs1 C nc K e (v :: r)) : xEs1 C nc K e r := ⟨h.1, fun u hu => h.2.1 u (List.mem_cons_of_mem _ hu), Nat.le_of_succ_le h.2.2.1, h.2.2.2⟩
theorem xEs1.head (h : xEs1 C nc K e (v :: r)) : xOk nc e.H v := h.2.1 v List.mem_cons_self
theorem xEs1.t7 (h : xEs1 C nc K e st) : e.t.length ≤ 7 := h.1.2.2.2.2.1
theorem cE.n (h : cE S x α C nc e q st) : x + 119 ≤ S.n := h.1.2.2.2.1
theorem cE.oF (h : cE S x α C nc e q st) (hx : xEs1 C nc K e st) : oF S (x + 28 + 5 * e.t.length) := (h.1.1.fr (Nat.lt_succ_of_le hx.t7)).1
theorem cE.k7 (h : cE S x α C nc e q st) : S.K (x + 11) = 7 := h.1.1.obj (by decide)
theorem cE.ht (h : cE S x α C nc e q st) : S.I 20 (x + 28 + 5 * e.t.length) = nI st.length := h.2.2.1.1.2.2.1
theorem cE.pl (h : cE S x α C nc e q st) : S.I 19 (x + 28 + 5 * e.t.length) = nI q := h.2.2.1.1.2.1
theorem cE.bl (h : cE S x α C nc e q st) : S.I 21 (x + 28 + 5 * e.t.length) = nI e.b.length := h.2.2.1.1.2.2.2.1
theorem cE.sk (h : cE S x α C nc e q st) : cStk S x α (x + 28 + 5 * e.t.length + 2) st := h.2.2.1.1.2.2.2.2.1
theorem cE.hp (h : cE S x α C nc e q st) : cHp S x α C nc e.H := h.2.1
/-- kinds and tags -/
theorem cE.kv (h : cE S x α C nc e q st) (hx : xEs1 C nc K e st) (hv : vC S x α v a) (ok : xOk nc e.H v) : S.K a = xKd e.H v ∧ S.I 6 a = Int32.ofInt (xTg e.H v) ∧ ox_isV (S.K a) = true := cV h.1 h.hp hx.1.1 hv ok
/-- the frame's own things change -/
theorem cE.upd (h : cE S x α C nc e q st) (hx : xEs1 C nc K e st) (hI : cI x (cWf x e.t.length) S S') (hk : cFk S S' (x + 28 + 5 * e.t.length)) {q' : Nat} {st' : List Int} (e19 : S'.I 19 (x + 28 + 5 * e.t.length) = nI q') (e20 : S'.I 20 (x + 28 + 5 * e.t.length) = nI st'.length) (hs : cStk S' x α (x + 28 + 5 * e.t.length + 2) st') : cN x S S' ∧ cE S' x α C nc e q' st' := ⟨hI.cN h.n hx.t7, (h.go (q' := q') (st' := st') hx hI hk e19 e20 hs).2⟩
theorem cWf_F {f : Nat} : cWf x f (x + 28 + 5 * f) := Or.inr ⟨Nat.le_refl _, by omega⟩
theorem cWf_2 {f : Nat} : cWf x f (x + 28 + 5 * f + 2) := Or.inr ⟨by omega, by omega⟩
/-- another height -/
theorem cE.drop (h : cE S x α C nc e q st) (hx : xEs1 C nc K e st) (i : Nat) : cN x S (S.sI 20 (x + 28 + 5 * e.t.length) (nI (st.length - i))) ∧ cE (S.sI 20 (x + 28 + 5 * e.t.length) (nI (st.length - i))) x α C nc e q (st.drop i) := by
  have hI : cI x (cWf x e.t.length) S (S.sI 20 (x + 28 + 5 * e.t.length) (nI (st.length - i))) := cI.refl.sI (Or.inr ⟨cWf_F, by decide, by decide, by decide⟩)
  refine h.upd hx hI ⟨rfl, (or_sI_I _ _ _ _ _ _).trans (if_neg (fun z => by cases z.1)), fun _ => rfl, fun _ => rfl, fun _ => rfl⟩ (((or_sI_I _ _ _ _ _ _).trans (if_neg (fun z => by cases z.1))).trans h.pl) ?_ ?_
  · rw [or_sI_I, if_pos ⟨rfl, rfl⟩, List.length_drop]
  · exact cStk.row (hI.mono (cWf_Z hx.t7)) _ (fun _ _ => rfl) (fun _ _ => rfl) (h.sk.drop i)
/-- another place -/
theorem cE.place (h : cE S x α C nc e q st) (hx : xEs1 C nc K e st) (q' : Nat) : cN x S (S.sI 19 (x + 28 + 5 * e.t.length) (nI q')) ∧ cE (S.sI 19 (x + 28 + 5 * e.t.length) (nI q')) x α C nc e q' st := by
  have hI : cI x (cWf x e.t.length) S (S.sI 19 (x + 28 + 5 * e.t.length) (nI q')) := cI.refl.sI (Or.inr ⟨cWf_F, by decide, by decide, by decide⟩)
  refine h.upd hx hI ⟨rfl, (or_sI_I _ _ _ _ _ _).trans (if_neg (fun z => by cases z.1)), fun _ => rfl, fun _ => rfl, fun _ => rfl⟩ ?_ (((or_sI_I _ _ _ _ _ _).trans (if_neg (fun z => by cases z.1))).trans h.ht) ?_
  · rw [or_sI_I, if_pos ⟨rfl, rfl⟩]
  · exact cStk.row (hI.mono (cWf_Z hx.t7)) _ (fun _ _ => rfl) (fun _ _ => rfl) h.sk
/-- one more -/
theorem cE.push (h : cE S x α C nc e q st) (hx : xEs1 C nc K e st) (hv : vC S x α v a) : cN x S ((S.wR (x + 28 + 5 * e.t.length + 2) st.length a).sI 20 (x + 28 + 5 * e.t.length) (nI (st.length + 1))) ∧ cE ((S.wR (x + 28 + 5 * e.t.length + 2) st.length a).sI 20 (x + 28 + 5 * e.t.length) (nI (st.length + 1))) x α C nc e q (v :: st) := by
  have hI : cI x (cWf x e.t.length) S ((S.wR (x + 28 + 5 * e.t.length + 2) st.length a).sI 20 (x + 28 + 5 * e.t.length) (nI (st.length + 1))) := (cI.refl.wR (Or.inr cWf_2)).sI (Or.inr ⟨cWf_F, by decide, by decide, by decide⟩)
  have hr : ∀ t j, ((S.wR (x + 28 + 5 * e.t.length + 2) st.length a).sI 20 (x + 28 + 5 * e.t.length) (nI (st.length + 1))).rR t j = if t = x + 28 + 5 * e.t.length + 2 ∧ j = st.length then a else S.rR t j := fun t j => rfl
  refine h.upd hx hI ⟨rfl, (or_sI_I _ _ _ _ _ _).trans (if_neg (fun z => by cases z.1)), fun j => ?_, fun _ => rfl, fun _ => rfl⟩ (((or_sI_I _ _ _ _ _ _).trans (if_neg (fun z => by cases z.1))).trans h.pl) ?_ ⟨?_, ?_⟩
  · rw [hr, if_neg (by omega)]
  · rw [or_sI_I, if_pos ⟨rfl, rfl⟩]; rfl
  · rw [hr, if_pos ⟨rfl, rfl⟩]; exact hv.next hI rfl
  · exact cStk.row (hI.mono (cWf_Z hx.t7)) _ (fun j hj => by rw [hr, if_neg (by omega)]) (fun _ _ => rfl) h.sk
/-- one of them another one -/
theorem cE.set (h : cE S x α C nc e q st) (hx : xEs1 C nc K e st) {i : Nat} {st' : List Int} (hl : st'.length = st.length) (hs : cStk (S.wR (x + 28 + 5 * e.t.length + 2) i a) x α (x + 28 + 5 * e.t.length + 2) st') : cN x S (S.wR (x + 28 + 5 * e.t.length + 2) i a) ∧ cE (S.wR (x + 28 + 5 * e.t.length + 2) i a) x α C nc e q st' := by
  have hI : cI x (cWf x e.t.length) S (S.wR (x + 28 + 5 * e.t.length + 2) i a) := cI.refl.wR (Or.inr cWf_2)
  exact h.upd hx hI ⟨rfl, rfl, fun j => ox_u2_ne (fun z => by omega), fun _ => rfl, fun _ => rfl⟩ h.pl (by rw [hl]; exact h.ht) hs
theorem vC.isV (h : cE S x α C nc e q st) (hx : xEs1 C nc K e st) (hv : vC S x α v a) (ok : xOk nc e.H v) : a = 0 ∨ ox_isV (S.K a) = true := Or.inr (h.kv hx hv ok).2.2
/-! their methods -/
theorem c_top (hsp : ox_mono sp) (h : cE S x α C nc e q (v :: r)) (hx : xEs1 C nc K e (v :: r)) (hQ : vC S x α v (S.rR (x + 28 + 5 * e.t.length + 2) r.length) → Q (some (.inr (.inr (S.rR (x + 28 + 5 * e.t.length + 2) r.length)))) S) : ox_M sp (d + 1) 21 [.inr (.inr (x + 28 + 5 * e.t.length)), .inl (nI 0)] mr sr S Q :=
  s_fromTop hsp (h.oF hx) (i := 0) (n := r.length + 1) (Nat.succ_pos _) hx.2.2.1 h.ht (hQ h.sk.1)
theorem c_sec (hsp : ox_mono sp) (h : cE S x α C nc e q (u :: v :: r)) (hx : xEs1 C nc K e (u :: v :: r)) (hQ : vC S x α v (S.rR (x + 28 + 5 * e.t.length + 2) r.length) → Q (some (.inr (.inr (S.rR (x + 28 + 5 * e.t.length + 2) r.length)))) S) : ox_M sp (d + 1) 21 [.inr (.inr (x + 28 + 5 * e.t.length)), .inl (nI 1)] mr sr S Q :=
  s_fromTop hsp (h.oF hx) (i := 1) (n := r.length + 2) (Nat.succ_lt_succ (Nat.succ_pos _)) hx.2.2.1 h.ht (hQ h.sk.2.1)
theorem c_fromTop (hsp : ox_mono sp) (h : cE S x α C nc e q st) (hx : xEs1 C nc K e st) {i : Nat} (hi : i < st.length) (hQ : vC S x α (st.getD i 0) (S.rR (x + 28 + 5 * e.t.length + 2) (st.length - 1 - i)) → Q (some (.inr (.inr (S.rR (x + 28 + 5 * e.t.length + 2) (st.length - 1 - i))))) S) : ox_M sp (d + 1) 21 [.inr (.inr (x + 28 + 5 * e.t.length)), .inl (nI i)] mr sr S Q :=
  s_fromTop hsp (h.oF hx) (i := i) (n := st.length) hi hx.2.2.1 h.ht (hQ (cStk.at st i hi h.sk))
theorem c_drop (hsp : ox_mono sp) (h : cE S x α C nc e q st) (hx : xEs1 C nc K e st) {i : Nat} (hi : i ≤ st.length) (hQ : ∀ S', cN x S S' → cE S' x α C nc e q (st.drop i) → Q none S') : ox_M sp (d + 1) 23 [.inr (.inr (x + 28 + 5 * e.t.length)), .inl (nI i)] mr sr S Q :=
  s_drop hsp (h.oF hx).1 hi hx.2.2.1 h.ht (hQ _ (h.drop hx i).1 (h.drop hx i).2)
theorem c_pop (hsp : ox_mono sp) (h : cE S x α C nc e q (v :: r)) (hx : xEs1 C nc K e (v :: r)) (hQ : ∀ S' a, cN x S S' → vC S' x α v a → cE S' x α C nc e q r → Q (some (.inr (.inr a))) S') : ox_M sp (d + 2) 20 [.inr (.inr (x + 28 + 5 * e.t.length))] mr sr S Q := by
  refine s_pop hsp (h.oF hx) (n := r.length + 1) (Nat.succ_pos _) hx.2.2.1 h.ht ?_
  obtain ⟨h1, h2⟩ := h.drop hx 1
  refine hQ _ _ h1 ?_ h2
  exact vC.next (W := cWf x e.t.length) (α' := α) h.sk.1 (cI.refl.sI (Or.inr ⟨cWf_F, by decide, by decide, by decide⟩)) rfl
theorem c_push (hsp : ox_mono sp) (h : cE S x α C nc e q st) (hx : xEs1 C nc K e st) (hl : st.length < 10) (hv : vC S x α v a) (ok : xOk nc e.H v) (hQ : ∀ S', cN x S S' → cE S' x α C nc e q (v :: st) → Q none S') : ox_M sp (d + 1) 19 [.inr (.inr (x + 28 + 5 * e.t.length)), .inr (.inr a)] mr sr S Q :=
  s_push hsp (h.oF hx) hl h.ht (hv.isV h hx ok) (hQ _ (h.push hx hv).1 (h.push hx hv).2)
/-- replace, by a value that is there -/
theorem c_rep (hsp : ox_mono sp) (h : cE S x α C nc e q st) (hx : xEs1 C nc K e st) {i : Nat} (hi : i ≤ st.length) (hl : st.length - i < 10) (hv : vC S x α v a) (ok : xOk nc e.H v) (hQ : ∀ S', cN x S S' → cE S' x α C nc e q (v :: st.drop i) → Q (some (.inl (-1))) S') : ox_M sp (d + 2) 50 [.inr (.inr (x + 28 + 5 * e.t.length)), .inl (nI i), .inr (.inr a)] mr sr S Q := by
  refine s_50 hsp (h.oF hx) hi hx.2.2.1 hl h.ht (hv.isV h hx ok) ?_
  obtain ⟨h1, h2⟩ := h.drop hx i
  have hx2 : xEs1 C nc K e (st.drop i) := ⟨hx.1, fun u hu => hx.2.1 u (List.mem_of_mem_drop hu), by rw [List.length_drop]; omega, hx.2.2.2⟩
  have hv2 := vC.next (W := cWf x e.t.length) (α' := α) hv (cI.refl.sI (G := 20) (a := x + 28 + 5 * e.t.length) (v := nI (st.length - i)) (Or.inr ⟨cWf_F, by decide, by decide, by decide⟩)) rfl
  obtain ⟨h3, h4⟩ := h2.push hx2 hv2
  rw [List.length_drop] at h3 h4
  exact hQ _ (h1.trans h3) h4
/-- replace, by a new object -/
theorem c_new (hsp : ox_mono sp) (h : cE S0 x α C nc e q st) (hx : xEs1 C nc K e st) (hI : cI x (cW0 x) S0 S) {i : Nat} {o : xOb} (hi : i ≤ st.length) (hl : st.length - i < 10) (ha : S0.n ≤ a) (ho : cO S x (upA α e.n a) C e.n o) (hr : xObOk nc K e.H o) (hv : ox_isV (S.K a) = true) (hQ : ∀ S', cN x S0 S' → cX S' x (upA α e.n a) C nc e q st (xMk e q (st.drop i) o) (-1) → Q (some (.inl (-1))) S') : ox_M sp (d + 2) 50 [.inr (.inr (x + 28 + 5 * e.t.length)), .inl (nI i), .inr (.inr a)] mr sr S Q := by
  have hS := h.same hx hI
  refine s_50 hsp (hS.oF hx) hi hx.2.2.1 hl hS.ht (Or.inr hv) ?_
  have t7 := hx.t7
  have hn := h.n
  have h16 := hx.1.1.1
  have hIf := hI.mono (W' := cWf x e.t.length) cW0_f
  have hI2 : cI x (cWf x e.t.length) S0 (((S.sI 20 (x + 28 + 5 * e.t.length) (nI (st.length - i))).wR (x + 28 + 5 * e.t.length + 2) (st.length - i) a).sI 20 (x + 28 + 5 * e.t.length) (nI (st.length - i + 1))) := ((hIf.sI (Or.inr ⟨cWf_F, by decide, by decide, by decide⟩)).wR (Or.inr cWf_2)).sI (Or.inr ⟨cWf_F, by decide, by decide, by decide⟩)
  have hI3 : cI x (cWf x e.t.length) S (((S.sI 20 (x + 28 + 5 * e.t.length) (nI (st.length - i))).wR (x + 28 + 5 * e.t.length + 2) (st.length - i) a).sI 20 (x + 28 + 5 * e.t.length) (nI (st.length - i + 1))) := ((cI.refl.sI (Or.inr ⟨cWf_F, by decide, by decide, by decide⟩)).wR (Or.inr cWf_2)).sI (Or.inr ⟨cWf_F, by decide, by decide, by decide⟩)
  have nW : ∀ b, x + 28 ≤ b → b < x + 68 → ¬ cW0 x b := fun b _ _ z => by unfold cW0 at z; omega
  obtain ⟨a1, a2, -⟩ := hI.at (a := x + 28 + 5 * e.t.length) (by omega) (nW _ (by omega) (by omega))
  have eI : ∀ G, G ≠ 20 → (((S.sI 20 (x + 28 + 5 * e.t.length) (nI (st.length - i))).wR (x + 28 + 5 * e.t.length + 2) (st.length - i) a).sI 20 (x + 28 + 5 * e.t.length) (nI (st.length - i + 1))).I G (x + 28 + 5 * e.t.length) = S0.I G (x + 28 + 5 * e.t.length) := fun G hG => by
    rw [or_sI_I, if_neg (fun z => hG z.1)]
    show (S.sI 20 (x + 28 + 5 * e.t.length) (nI (st.length - i))).I G _ = _
    rw [or_sI_I, if_neg (fun z => hG z.1)]
    exact a1 G
  have eR : ∀ t j, (((S.sI 20 (x + 28 + 5 * e.t.length) (nI (st.length - i))).wR (x + 28 + 5 * e.t.length + 2) (st.length - i) a).sI 20 (x + 28 + 5 * e.t.length) (nI (st.length - i + 1))).rR t j = if t = x + 28 + 5 * e.t.length + 2 ∧ j = st.length - i then a else S.rR t j := fun t j => rfl
  have e18 : (((S.sI 20 (x + 28 + 5 * e.t.length) (nI (st.length - i))).wR (x + 28 + 5 * e.t.length + 2) (st.length - i) a).sI 20 (x + 28 + 5 * e.t.length) (nI (st.length - i + 1))).R 18 (x + 28 + 5 * e.t.length) = S0.R 18 (x + 28 + 5 * e.t.length) := a2 18
  have erI : ∀ t j, (((S.sI 20 (x + 28 + 5 * e.t.length) (nI (st.length - i))).wR (x + 28 + 5 * e.t.length + 2) (st.length - i) a).sI 20 (x + 28 + 5 * e.t.length) (nI (st.length - i + 1))).rI t j = S.rI t j := fun t j => rfl
  have e20 : (((S.sI 20 (x + 28 + 5 * e.t.length) (nI (st.length - i))).wR (x + 28 + 5 * e.t.length + 2) (st.length - i) a).sI 20 (x + 28 + 5 * e.t.length) (nI (st.length - i + 1))).I 20 (x + 28 + 5 * e.t.length) = nI (st.length - i + 1) := by rw [or_sI_I, if_pos ⟨rfl, rfl⟩]
  generalize (((S.sI 20 (x + 28 + 5 * e.t.length) (nI (st.length - i))).wR (x + 28 + 5 * e.t.length + 2) (st.length - i) a).sI 20 (x + 28 + 5 * e.t.length) (nI (st.length - i + 1))) = U at hI2 hI3 eI eR e18 erI e20 ⊢
  refine hQ U (hI2.cN hn t7) ?_
  have hlen : (st.drop i).length = st.length - i := List.length_drop
  refine h.mk hx hI2 ⟨e18, eI 21 (by decide), fun j => ?_, fun j => ?_, fun j => ?_⟩ ha (ho.next hI3 (cWf_Z t7) rfl (fun _ _ => rfl) (fun _ => rfl)) hr ((eI 19 (by decide)).trans h.pl) (by rw [hlen]; exact e20) ⟨?_, ?_⟩
  · rw [eR, if_neg (by omega)]
    exact (hI.at (by omega) (nW _ (by omega) (by omega))).2.2.2.2.1 j
  · rw [erI]; exact (hI.at (by omega) (nW _ (by omega) (by omega))).2.2.2.1 j
  · rw [erI]; exact (hI.at (by omega) (nW _ (by omega) (by omega))).2.2.2.1 j
  · rw [hlen, eR, if_pos ⟨rfl, rfl⟩]
    have haS : a < S.n := by have := ho.2.1; rw [show upA α e.n a e.n = a from if_pos rfl] at this; exact this
    exact ⟨by omega, Nat.lt_of_lt_of_le haS hI3.1.1, by omega, Or.inr (Or.inr (Or.inr (Or.inr ⟨by omega, (if_pos rfl).symm⟩)))⟩
  · refine cStk.row (S := S0) (α := α) (hI2.mono (cWf_Z t7)) _ (fun j hj => ?_) (fun u hu => if_neg ?_) (h.sk.drop i)
    · rw [eR, if_neg (by omega)]
      exact (hI.at (by omega) (nW _ (by omega) (by omega))).2.2.2.2.1 j
    · have := hx.1.1.lt (hx.2.1 u (List.mem_of_mem_drop hu))
      omega
end CS
