/-! the class's instructions: CONSTANT, GLOBAL, LOCAL, SET, STORE -/
section CFt
variable {d mr sr : Nat} {S S0 S' T : ox_St} {Q : ox_Q} {x : Nat} {α : Int → Nat} {C : Nat → xCd} {nc K : Nat} {e : xEn} {q : Nat} {st r : List Int} {v u : Int} {a : Nat}
theorem cE.code (h : cE S x α C nc e q st) (hx : xEs1 C nc K e st) : S.R 18 (x + 28 + 5 * e.t.length) = α (-1 - e.c) ∧ cCd S x α C e.c := ⟨h.2.2.1.1.1, h.hp.2.1 e.c hx.1.2.2.2.1⟩
theorem c_68_100 {sp : ox_E} (hsp : ox_mono sp) {a : Nat} (h : cE S x α C nc e q st) (hx : xEs1 C nc K e st) (ha : a < (C e.c).2.1.length) (hl : st.length < 10) (hQ : ∀ S', cN x S S' → cE S' x α C nc e q ((C e.c).2.1.getD a 0 :: st) → Q (some (.inl (-1))) S') : ox_M sp (d + 2) 68 [.inr (.inr (x + 11)), .inr (.inr (x + 28 + 5 * e.t.length)), .inl 100, .inl (nI a)] mr sr S Q := by
  have hE : ox_mono (ox_M sp (d + 1)) := ox_M_mono hsp _
  have k := (h.oF hx).1
  obtain ⟨r18, -, c2, ⟨s1, -, -, ⟨s8, s9⟩, -, s12⟩, -, ⟨-, r2, -⟩, c6, -⟩ := h.code hx
  obtain ⟨-, -, c1, -, c3, -⟩ := hx.1.2.1 e.c hx.1.2.2.2.1
  have k12 : cdK (C e.c).1 ≤ 12 := s12.2.2.2.2.2.2.2.1
  rw [← c1] at s9 k12
  have hv := c6 a ha
  have ok : xOk nc e.H ((C e.c).2.1.getD a 0) := c3 _ (by
    rw [List.getD_eq_getElem?_getD, List.getElem?_eq_getElem ha]
    exact List.getElem_mem _)
  refine f_68 hsp ⟨fun z => absurd rfl z, fun _ => ⟨by rw [k]; rfl, by rw [r18, s1]; rfl, by rw [r18, s8]; rfl, fun z => absurd z (by rw [r18, s9]; exact nI_ge ha (by omega)), fun _ => ⟨by rw [k]; rfl, by rw [r18, s1]; rfl, by rw [r18, s8]; rfl, by rw [r18, s9]; exact vp_in_nI ha (by omega), fun _ => ⟨by decide, k, by decide, 0, 0, Nat.zero_le _, Nat.zero_le _, ?_⟩, fun z => ?_⟩⟩⟩
  · rw [r18, nI_clamp (by omega)]
    exact c_push hsp h hx hl hv ok (fun S2 m1 m2 => f_68_96 hE ⟨trivial, hQ S2 m1 m2⟩)
  · rw [r18, nI_clamp (by omega)] at z
    exact absurd z hv.1
theorem c_68_101 {sp : ox_E} (hsp : ox_mono sp) {a : Nat} (h : cE S x α C nc e q st) (hx : xEs1 C nc K e st) (ha : a < (C e.c).2.2.length) (hl : st.length < 10) (hQ : ∀ S' y, cN x S S' → cX S' x α C nc e q st (xName e q ((C e.c).2.2.getD a 0) st) y → Q (some (.inl y)) S') : ox_M sp (d + 4) 68 [.inr (.inr (x + 11)), .inr (.inr (x + 28 + 5 * e.t.length)), .inl 101, .inl (nI a)] mr sr S Q := by
  have hE : ox_mono (ox_M sp (d + 3)) := ox_M_mono hsp _
  have k := (h.oF hx).1
  obtain ⟨r18, -, c2, ⟨s1, -, -, -, ⟨s10, s11⟩, s12⟩, -, ⟨-, -, r3⟩, -, c7⟩ := h.code hx
  obtain ⟨-, -, -, c1, -, c4⟩ := hx.1.2.1 e.c hx.1.2.2.2.1
  have k12 : cdW (C e.c).1 ≤ 12 := s12.2.2.2.2.2.2.2.2
  rw [← c1] at s11 k12
  have hw := c7 a ha
  have hn : (C e.c).2.2.getD a 0 < 2 ^ 63 := c4 _ (by
    rw [List.getD_eq_getElem?_getD, List.getElem?_eq_getElem ha]
    exact List.getElem_mem _)
  have hG : cGl S x α e.G := h.2.2.2.1
  have g3 := hx.1.2.2.1
  refine f_68 hsp ⟨fun _ => ⟨fun z => absurd rfl z, fun _ => ⟨by rw [k]; rfl, by rw [r18, s1]; rfl, by rw [r18, s10]; rfl, fun z => absurd z (by rw [r18, s11]; exact nI_ge ha (by omega)), fun _ => ⟨by rw [k]; rfl, by rw [r18, s1]; rfl, by rw [r18, s10]; rfl, by rw [r18, s11]; exact vp_in_nI ha (by omega), by decide, h.k7, by decide, 0, 0, Nat.zero_le _, Nat.zero_le _, ?_⟩⟩⟩, fun z => absurd z (by decide)⟩
  rw [r18, nI_clamp (by omega), hw]
  generalize (C e.c).2.2.getD a 0 = n at hn hQ
  have push : ∀ w b, xOk nc e.H w → vC S x α w b → xName e q n st = xGo e q (w :: st) → k_68_67 (ox_M sp (d + 3)) (x + 11) (x + 28 + 5 * e.t.length) 101 (nI a) (mr - 0) (sr - 0) Q (some (.inr (.inr b))) S := fun w b ok hv hr => by
    rw [hr] at hQ
    exact f_68_67 hE ⟨fun _ => ⟨by decide, k, by decide, 0, 0, Nat.zero_le _, Nat.zero_le _, c_push hsp h hx hl hv ok (fun S2 m1 m2 => f_68_96 hE ⟨trivial, hQ S2 (-1) m1 (cX_go m2)⟩)⟩, fun z => absurd z hv.1⟩
  refine c_71 hsp h.1 hG g3.1 hn (fun g hg => (g3.2 g hg).1) (fun z1 z2 => f_68_67 hE ⟨fun z => absurd rfl z, fun _ => ⟨trivial, hQ S 4 cN.refl ?_⟩⟩) (fun w b z hv => push w b ?_ hv ?_) (fun w b z1 z2 hv => push w b ?_ hv ?_)
  · have : xName e q n st = .inl 4 := by unfold xName; rw [z1]; dsimp only; rw [z2]
    rw [this]; exact ⟨rfl, h⟩
  · have key : ∀ G : List (Nat × Int), (∀ g ∈ G, xOk nc e.H g.2) → xGet n G = some w → xOk nc e.H w := by
      intro G
      induction G with
      | nil => intro _ z; cases z
      | cons g G ih =>
        intro hg z
        unfold xGet at z
        by_cases y : g.1 = n
        · rw [if_pos y] at z; cases z; exact hg g List.mem_cons_self
        · rw [if_neg y] at z; exact ih (fun g' hg' => hg g' (List.mem_cons_of_mem _ hg')) z
    exact key e.G (fun g hg => (g3.2 g hg).2) z
  · unfold xName; rw [z]
  · have := xBuilt_lt z2
    exact xSm this.1 this.2
  · unfold xName; rw [z1]; dsimp only; rw [z2]
theorem c_68_124 {sp : ox_E} (hsp : ox_mono sp) {a : Nat} (h : cE S x α C nc e q st) (hx : xEs1 C nc K e st) (ha : a < 8) (hl : st.length < 10) (hQ : ∀ S' y, cN x S S' → cX S' x α C nc e q st (match e.L a with
    | some v => xGo e q (v :: st)
    | none => .inl 4) y → Q (some (.inl y)) S') : ox_M sp (d + 2) 68 [.inr (.inr (x + 11)), .inr (.inr (x + 28 + 5 * e.t.length)), .inl 124, .inl (nI a)] mr sr S Q := by
  have hE : ox_mono (ox_M sp (d + 1)) := ox_M_mono hsp _
  have k := (h.oF hx).1
  have hlo : (match e.L a with
    | none => S.rR (x + 28 + 5 * e.t.length + 1) a = 0
    | some v => vC S x α v (S.rR (x + 28 + 5 * e.t.length + 1) a)) := h.2.2.1.1.2.2.2.2.2.1 a ha
  refine f_68 hsp ⟨fun _ => ⟨fun _ => ⟨by decide, k, by decide, 0, 0, Nat.zero_le _, Nat.zero_le _, s_localAt hsp (h.oF hx) (fun z => absurd rfl (z a ha)) (fun j hj ej => ?_)⟩, fun z => absurd z (by decide)⟩, fun z => absurd z (by decide)⟩
  obtain rfl : a = j := (nI_eq (by omega) (by omega)).mp ej
  cases y : e.L a with
  | none =>
    rw [y] at hlo hQ
    have hlo' : S.rR (x + 28 + 5 * e.t.length + 1) a = 0 := hlo
    rw [hlo']
    exact f_68_81 hE ⟨fun z => absurd rfl z, fun _ => ⟨trivial, hQ S 4 cN.refl ⟨rfl, h⟩⟩⟩
  | some v =>
    rw [y] at hlo hQ
    have hlo' : vC S x α v (S.rR (x + 28 + 5 * e.t.length + 1) a) := hlo
    exact f_68_81 hE ⟨fun _ => ⟨by decide, k, by decide, 0, 0, Nat.zero_le _, Nat.zero_le _, c_push hsp h hx hl hlo' (hx.1.2.2.2.2.2.1 a v y).2 (fun S2 m1 m2 => f_68_96 hE ⟨trivial, hQ S2 (-1) m1 (cX_go m2)⟩)⟩, fun z => absurd z hlo'.1⟩
/-- SET -/
theorem c_69_125 {sp : ox_E} (hsp : ox_mono sp) {a : Nat} (h : cE S x α C nc e q (v :: r)) (hx : xEs1 C nc K e (v :: r)) (ha : a < 8) (hQ : ∀ S', cN x S S' → cR S' x α C nc (e.H, e.n, e.G, (e.c, q, r, (fun i => if i = a then some v else e.L i), e.b) :: e.t, 1, -1, 0) → Q (some (.inl (-1))) S') : ox_M sp (d + 3) 69 [.inr (.inr (x + 11)), .inr (.inr (x + 28 + 5 * e.t.length)), .inl 125, .inl (nI a)] mr sr S Q := by
  have hE : ox_mono (ox_M sp (d + 2)) := ox_M_mono hsp _
  have k := (h.oF hx).1
  refine f_69 hsp ⟨fun z => absurd rfl z, fun _ => ⟨by decide, k, by decide, 0, 0, Nat.zero_le _, Nat.zero_le _, c_pop hsp h hx (fun S1 b g1 g2 g3 => f_69_12 hE ⟨by decide, (g3.oF hx.tail).1, by decide, 0, 0, Nat.zero_le _, Nat.zero_le _, s_setLocal hsp (g3.oF hx.tail) ha (g2.isV g3 hx.tail hx.head) (f_69_15 hE ⟨trivial, ?_⟩)⟩)⟩⟩
  have hI : cI x (cWf x e.t.length) S1 (S1.wR (x + 28 + 5 * e.t.length + 1) a b) := cI.refl.wR (Or.inr (Or.inr ⟨by omega, by omega⟩))
  obtain ⟨f1, f2, f3, f4, f5, f6, f7⟩ := g3.2.2.1.1
  have hr : ∀ t j, (S1.wR (x + 28 + 5 * e.t.length + 1) a b).rR t j = if t = x + 28 + 5 * e.t.length + 1 ∧ j = a then b else S1.rR t j := fun t j => or_wR_rR _ _ _ _ _ _
  have eI : (S1.wR (x + 28 + 5 * e.t.length + 1) a b).I = S1.I := or_wR_I _ _ _ _
  have eR : (S1.wR (x + 28 + 5 * e.t.length + 1) a b).R = S1.R := or_wR_R _ _ _ _
  have erI : (S1.wR (x + 28 + 5 * e.t.length + 1) a b).rI = S1.rI := or_wR_rI _ _ _ _
  generalize S1.wR (x + 28 + 5 * e.t.length + 1) a b = U at hI hr eI eR erI ⊢
  have key : ∀ l : List (Nat × Nat), cBk S1 (x + 28 + 5 * e.t.length) l → cBk U (x + 28 + 5 * e.t.length) l := by
    intro l
    induction l with
    | nil => exact fun _ => trivial
    | cons g l ih => exact fun hc => ⟨by rw [erI]; exact hc.1, by rw [erI]; exact hc.2.1, ih hc.2.2⟩
  have hfr : cFr U x α e.t.length (e.c, q, r, (fun i => if i = a then some v else e.L i), e.b) := by
    refine ⟨by rw [eR]; exact f1, by rw [eI]; exact f2, by rw [eI]; exact f3, by rw [eI]; exact f4, cStk.row (hI.mono (cWf_Z hx.t7)) _ (fun j _ => by rw [hr, if_neg (by omega)]) (fun _ _ => rfl) f5, fun i hi => ?_, key _ f7⟩
    have g' : (match e.L i with
      | none => S1.rR (x + 28 + 5 * e.t.length + 1) i = 0
      | some v => vC S1 x α v (S1.rR (x + 28 + 5 * e.t.length + 1) i)) := f6 i hi
    show (match (if i = a then some v else e.L i) with
      | none => U.rR (x + 28 + 5 * e.t.length + 1) i = 0
      | some v => vC U x α v (U.rR (x + 28 + 5 * e.t.length + 1) i))
    rw [hr]
    by_cases z : i = a
    · rw [if_pos z, if_pos ⟨rfl, z⟩]
      exact g2.next hI rfl
    · rw [if_neg z, if_neg (fun y => z y.2)]
      cases y : e.L i with
      | none => rw [y] at g'; exact g'
      | some w => rw [y] at g'; exact vC.next g' hI rfl
  exact hQ U (g1.trans (g3.upd2 hx.tail hI hfr).1) (g3.upd2 hx.tail hI hfr).2
end CFt
