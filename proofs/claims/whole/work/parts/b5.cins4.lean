/-! the class's instructions: go, blocks, numbers -/
section C53
variable {sp : ox_E} {d mr sr : Nat} {S S' : ox_St} {Q : ox_Q} {x : Nat} {α : Int → Nat} {C : Nat → xCd} {nc K : Nat} {e : xEn} {q : Nat} {st r : List Int} {v u : Int} {a : Nat}
theorem c_52_t (hsp : ox_mono sp) {w a x4 : Int32} (h : cE S x α C nc e q st) (hx : xEs1 C nc K e st) {q' : Nat} (hw : (x4 = 0 ∧ q' = q) ∨ (x4 ≠ 0 ∧ ((w = 110 ∧ nI q + a = nI q') ∨ (w ≠ 110 ∧ a = nI q')))) (hQ : ∀ S', cN x S S' → cE S' x α C nc e q' st → Q (some (.inl (-1))) S') : c_52_43 (ox_M sp d) (x + 11) (x + 28 + 5 * e.t.length) w a x4 S mr sr Q := by
  have hE : ox_mono (ox_M sp d) := ox_M_mono hsp _
  have k := (h.oF hx).1
  have go : ∀ y : Int32, y = nI q' → c_52_65 (ox_M sp d) (x + 11) (x + 28 + 5 * e.t.length) w a x4 y (x + 28 + 5 * e.t.length) S mr sr Q := fun y hy => by
    subst hy
    exact f_52_65 hE ⟨by rw [k]; rfl, f_52_68 hE ⟨trivial, hQ _ (h.place hx q').1 (h.place hx q').2⟩⟩
  rcases hw with ⟨h1, h2⟩ | ⟨h1, h2⟩
  · subst h2
    exact f_52_43 hE ⟨fun _ => f_52_68 hE ⟨trivial, hQ S cN.refl h⟩, fun z => absurd h1 z⟩
  · refine f_52_43 hE ⟨fun z => absurd z h1, fun _ => ⟨fun z => ?_, fun z => ⟨by rw [k]; rfl, ?_⟩⟩⟩
    · rcases h2 with y | y
      · exact absurd y.1 z
      · exact go _ y.2
    · rcases h2 with y | y
      · exact go _ (by rw [h.pl]; exact y.2)
      · exact absurd z y.1
theorem c_52_110 (hsp : ox_mono sp) {b : Nat} (h : cE S x α C nc e q st) (hx : xEs1 C nc K e st) (hQ : ∀ S', cN x S S' → cE S' x α C nc e (q + b) st → Q (some (.inl (-1))) S') : ox_M sp (d + 1) 52 [.inr (.inr (x + 11)), .inr (.inr (x + 28 + 5 * e.t.length)), .inl 110, .inl (nI b)] mr sr S Q :=
  f_52 hsp ⟨fun z => absurd z (by decide), fun _ => ⟨fun _ => c_52_t hsp h hx (Or.inr ⟨by decide, Or.inl ⟨rfl, nI_add _ _⟩⟩) hQ, fun z => absurd z (by decide)⟩⟩
theorem c_52_113 (hsp : ox_mono sp) {b : Nat} (h : cE S x α C nc e q st) (hx : xEs1 C nc K e st) (hQ : ∀ S', cN x S S' → cE S' x α C nc e b st → Q (some (.inl (-1))) S') : ox_M sp (d + 1) 52 [.inr (.inr (x + 11)), .inr (.inr (x + 28 + 5 * e.t.length)), .inl 113, .inl (nI b)] mr sr S Q :=
  f_52 hsp ⟨fun z => absurd z (by decide), fun _ => ⟨fun _ => c_52_t hsp h hx (Or.inr ⟨by decide, Or.inr ⟨by decide, rfl⟩⟩) hQ, fun z => absurd z (by decide)⟩⟩
/-- pop, then whether it is false -/
theorem c_52_p (hsp : ox_mono sp) {w a x4 : Int32} (h : cE S x α C nc e q (v :: r)) (hx : xEs1 C nc K e (v :: r)) (hQ : ∀ S', cN x S S' → cE S' x α C nc e q r → k_52_22 (ox_M sp (d + 2)) (x + 11) (x + 28 + 5 * e.t.length) w a x4 mr sr Q (some (.inl (if xFalse e.H v = true then 1 else 0))) S') : c_52_15 (ox_M sp (d + 2)) (x + 11) (x + 28 + 5 * e.t.length) w a x4 S mr sr Q := by
  have hE : ox_mono (ox_M sp (d + 2)) := ox_M_mono hsp _
  have k := (h.oF hx).1
  refine f_52_15 hE ⟨by decide, k, by decide, 0, 0, Nat.zero_le _, Nat.zero_le _, c_pop hsp h hx (fun S' b g1 g2 g3 => f_52_19 hE ⟨by decide, by decide, 0, 0, Nat.zero_le _, Nat.zero_le _, c_55 hsp g3 hx.tail g2 hx.head ?_⟩)⟩
  exact hQ S' g1 g3
theorem c_52_114 (hsp : ox_mono sp) {b : Nat} (h : cE S x α C nc e q (v :: r)) (hx : xEs1 C nc K e (v :: r)) (hQ : ∀ S', cN x S S' → cE S' x α C nc e (if xFalse e.H v = true then b else q) r → Q (some (.inl (-1))) S') : ox_M sp (d + 3) 52 [.inr (.inr (x + 11)), .inr (.inr (x + 28 + 5 * e.t.length)), .inl 114, .inl (nI b)] mr sr S Q := by
  have hE : ox_mono (ox_M sp (d + 2)) := ox_M_mono hsp _
  refine f_52 hsp ⟨fun _ => c_52_p hsp h hx (fun S' g1 g2 => f_52_22 hE ⟨fun z => absurd rfl z, fun _ => f_52_33 hE ⟨fun z => f_52_41 hE (c_52_t hsp g2 hx.tail (q' := q) (Or.inl ⟨rfl, rfl⟩) (fun S2 m1 m2 => hQ S2 (g1.trans m1) ?_)), fun z => f_52_41 hE (c_52_t hsp g2 hx.tail (q' := b) (Or.inr ⟨by decide, Or.inr ⟨by decide, rfl⟩⟩) (fun S2 m1 m2 => hQ S2 (g1.trans m1) ?_))⟩⟩), fun z => absurd rfl z⟩
  · have : ¬ xFalse e.H v = true := fun y => z (by rw [if_pos y])
    rw [if_neg this]; exact m2
  · have : xFalse e.H v = true := by
      by_cases y : xFalse e.H v = true
      · exact y
      · rw [if_neg y] at z; exact absurd z (by decide)
    rw [if_pos this]; exact m2
theorem c_52_115 (hsp : ox_mono sp) {b : Nat} (h : cE S x α C nc e q (v :: r)) (hx : xEs1 C nc K e (v :: r)) (hQ : ∀ S', cN x S S' → cE S' x α C nc e (if xFalse e.H v = true then q else b) r → Q (some (.inl (-1))) S') : ox_M sp (d + 3) 52 [.inr (.inr (x + 11)), .inr (.inr (x + 28 + 5 * e.t.length)), .inl 115, .inl (nI b)] mr sr S Q := by
  have hE : ox_mono (ox_M sp (d + 2)) := ox_M_mono hsp _
  refine f_52 hsp ⟨fun z => absurd z (by decide), fun _ => ⟨fun z => absurd rfl z, fun _ => c_52_p hsp h hx (fun S' g1 g2 => f_52_22 hE ⟨fun _ => f_52_33 hE ⟨fun z => f_52_41 hE (c_52_t hsp g2 hx.tail (q' := q) (Or.inl ⟨rfl, rfl⟩) (fun S2 m1 m2 => hQ S2 (g1.trans m1) ?_)), fun z => f_52_41 hE (c_52_t hsp g2 hx.tail (q' := b) (Or.inr ⟨by decide, Or.inr ⟨by decide, rfl⟩⟩) (fun S2 m1 m2 => hQ S2 (g1.trans m1) ?_))⟩, fun z => absurd z (by decide)⟩)⟩⟩
  · have : xFalse e.H v = true := by
      by_cases y : xFalse e.H v = true
      · exact y
      · rw [if_neg y] at z; exact absurd rfl z
    rw [if_pos this]; exact m2
  · have : ¬ xFalse e.H v = true := fun y => by
      rw [if_pos y] at z; exact absurd z (by decide)
    rw [if_neg this]; exact m2
/-- the frame is another one -/
theorem cE.upd2 (h : cE S x α C nc e q st) (hx : xEs1 C nc K e st) (hI : cI x (cWf x e.t.length) S S') {f' : xFr} (hf : cFr S' x α e.t.length f') : cN x S S' ∧ cR S' x α C nc (e.H, e.n, e.G, f' :: e.t, 1, -1, 0) := ⟨hI.cN h.n hx.t7, h.rest hx hI (h.2.1.next (K := K) hI (cWf_Z hx.t7)) (fun _ _ => rfl) hf⟩
/-- BLOCK -/
theorem c_53_122 (hsp : ox_mono sp) {b : Nat} (h : cE S x α C nc e q st) (hx : xEs1 C nc K e st) (hb : e.b.length < 4) (hQ : ∀ S', cN x S S' → cR S' x α C nc (e.H, e.n, e.G, (e.c, q, st, e.L, (st.length, q + b) :: e.b) :: e.t, 1, -1, 0) → Q (some (.inl (-1))) S') : ox_M sp (d + 2) 53 [.inr (.inr (x + 28 + 5 * e.t.length)), .inl 122, .inl (nI b)] mr sr S Q := by
  have hE : ox_mono (ox_M sp (d + 1)) := ox_M_mono hsp _
  have k := (h.oF hx).1
  refine f_53 hsp ⟨fun z => absurd rfl z, fun _ => ⟨by rw [k]; rfl, by decide, k, by decide, 0, 0, Nat.zero_le _, Nat.zero_le _, ?_⟩⟩
  rw [h.pl, nI_add]
  refine s_addBlock hsp (h.oF hx) hb h.bl h.ht (f_53_16 hE ⟨trivial, ?_⟩)
  have hI : cI x (cWf x e.t.length) S (((S.wI (x + 28 + 5 * e.t.length + 3) e.b.length (nI st.length)).wI (x + 28 + 5 * e.t.length + 4) e.b.length (nI (q + b))).sI 21 (x + 28 + 5 * e.t.length) (nI (e.b.length + 1))) := ((cI.refl.wI (Or.inr (Or.inr ⟨by omega, by omega⟩))).wI (Or.inr (Or.inr ⟨by omega, by omega⟩))).sI (Or.inr ⟨cWf_F, by decide, by decide, by decide⟩)
  obtain ⟨f1, f2, f3, f4, f5, f6, f7⟩ := h.2.2.1.1
  have r3 : ∀ t j, (((S.wI (x + 28 + 5 * e.t.length + 3) e.b.length (nI st.length)).wI (x + 28 + 5 * e.t.length + 4) e.b.length (nI (q + b))).sI 21 (x + 28 + 5 * e.t.length) (nI (e.b.length + 1))).rI t j = if t = x + 28 + 5 * e.t.length + 4 ∧ j = e.b.length then nI (q + b) else if t = x + 28 + 5 * e.t.length + 3 ∧ j = e.b.length then nI st.length else S.rI t j := fun t j => rfl
  have key : ∀ l : List (Nat × Nat), l.length ≤ e.b.length → cBk S (x + 28 + 5 * e.t.length) l → cBk (((S.wI (x + 28 + 5 * e.t.length + 3) e.b.length (nI st.length)).wI (x + 28 + 5 * e.t.length + 4) e.b.length (nI (q + b))).sI 21 (x + 28 + 5 * e.t.length) (nI (e.b.length + 1))) (x + 28 + 5 * e.t.length) l := by
    intro l
    induction l with
    | nil => exact fun _ _ => trivial
    | cons g l ih =>
      intro hl hc
      have hl' : l.length + 1 ≤ e.b.length := hl
      exact ⟨by rw [r3, if_neg (by omega), if_neg (by omega)]; exact hc.1, by rw [r3, if_neg (by omega), if_neg (by omega)]; exact hc.2.1, ih (by omega) hc.2.2⟩
  have hfr : cFr (((S.wI (x + 28 + 5 * e.t.length + 3) e.b.length (nI st.length)).wI (x + 28 + 5 * e.t.length + 4) e.b.length (nI (q + b))).sI 21 (x + 28 + 5 * e.t.length) (nI (e.b.length + 1))) x α e.t.length (e.c, q, st, e.L, (st.length, q + b) :: e.b) := by
   refine ⟨f1, f2, f3, ?_, cStk.row (hI.mono (cWf_Z hx.t7)) _ (fun _ _ => rfl) (fun _ _ => rfl) f5, fun i hi => ?_, ?_, ?_, key e.b (Nat.le_refl _) f7⟩
   · rw [or_sI_I, if_pos ⟨rfl, rfl⟩]; rfl
   · have g := f6 i hi
     show (match e.L i with
       | none => S.rR (x + 28 + 5 * e.t.length + 1) i = 0
       | some v => vC _ x α v (S.rR (x + 28 + 5 * e.t.length + 1) i))
     have g' : (match e.L i with
       | none => S.rR (x + 28 + 5 * e.t.length + 1) i = 0
       | some v => vC S x α v (S.rR (x + 28 + 5 * e.t.length + 1) i)) := g
     cases z : e.L i with
     | none => rw [z] at g'; exact g'
     | some v => rw [z] at g'; exact vC.next g' hI rfl
   · rw [r3, if_neg (by omega), if_pos ⟨rfl, rfl⟩]
   · rw [r3, if_pos ⟨rfl, rfl⟩]
  exact hQ _ (h.upd2 hx hI hfr).1 (h.upd2 hx hI hfr).2
/-- UNBLOCK -/
theorem c_53_87 (hsp : ox_mono sp) {y : Int32} (h : cE S x α C nc e q st) (hx : xEs1 C nc K e st) {g : Nat × Nat} {b : List (Nat × Nat)} (hb : e.b = g :: b) (hQ : ∀ S', cN x S S' → cR S' x α C nc (e.H, e.n, e.G, (e.c, q, st, e.L, b) :: e.t, 1, -1, 0) → Q (some (.inl (-1))) S') : ox_M sp (d + 2) 53 [.inr (.inr (x + 28 + 5 * e.t.length)), .inl 87, .inl y] mr sr S Q := by
  have k := (h.oF hx).1
  have hb4 := hx.2.2.2
  rw [hb] at hb4
  have hl : b.length + 1 ≤ 4 := hb4
  have e21 : S.I 21 (x + 28 + 5 * e.t.length) = nI (b.length + 1) := by rw [h.bl, hb]; rfl
  refine f_53 hsp ⟨fun _ => ⟨by rw [k]; rfl, by decide, by rw [k]; rfl, ?_⟩, fun z => absurd z (by decide)⟩
  rw [e21, nI_pred, if_neg (nI_pos (by omega))]
  have hI : cI x (cWf x e.t.length) S (S.sI 21 (x + 28 + 5 * e.t.length) (nI b.length)) := cI.refl.sI (Or.inr ⟨cWf_F, by decide, by decide, by decide⟩)
  obtain ⟨f1, f2, f3, f4, f5, f6, f7⟩ := h.2.2.1.1
  rw [show (e.c, q, st, e.L, e.b).2.2.2.2 = g :: b from hb] at f7
  have key : ∀ l : List (Nat × Nat), cBk S (x + 28 + 5 * e.t.length) l → cBk (S.sI 21 (x + 28 + 5 * e.t.length) (nI b.length)) (x + 28 + 5 * e.t.length) l := by
    intro l
    induction l with
    | nil => exact fun _ => trivial
    | cons g l ih => exact fun hc => ⟨hc.1, hc.2.1, ih hc.2.2⟩
  have eI : ∀ G, G ≠ 21 → (S.sI 21 (x + 28 + 5 * e.t.length) (nI b.length)).I G (x + 28 + 5 * e.t.length) = S.I G (x + 28 + 5 * e.t.length) := fun G hG => by rw [or_sI_I, if_neg (fun z => hG z.1)]
  have hfr : cFr (S.sI 21 (x + 28 + 5 * e.t.length) (nI b.length)) x α e.t.length (e.c, q, st, e.L, b) := by
   refine ⟨f1, (eI 19 (by decide)).trans f2, (eI 20 (by decide)).trans f3, ?_, cStk.row (hI.mono (cWf_Z hx.t7)) _ (fun _ _ => rfl) (fun _ _ => rfl) f5, fun i hi => ?_, key b f7.2.2⟩
   · rw [or_sI_I, if_pos ⟨rfl, rfl⟩]
   · have g' : (match e.L i with
       | none => S.rR (x + 28 + 5 * e.t.length + 1) i = 0
       | some v => vC S x α v (S.rR (x + 28 + 5 * e.t.length + 1) i)) := f6 i hi
     show (match e.L i with
       | none => S.rR (x + 28 + 5 * e.t.length + 1) i = 0
       | some v => vC _ x α v (S.rR (x + 28 + 5 * e.t.length + 1) i))
     cases z : e.L i with
     | none => rw [z] at g'; exact g'
     | some v => rw [z] at g'; exact vC.next g' hI rfl
  exact ⟨trivial, hQ _ (h.upd2 hx hI hfr).1 (h.upd2 hx hI hfr).2⟩
end C53
