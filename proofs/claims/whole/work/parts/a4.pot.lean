/-! how much can be alive: a potential -/
def xSz (o : xOb) : Nat := match o with
  | .inl N => 3 + dl 16 N.natAbs
  | .inr (.inl q) => 3 + q.1.length
  | .inr (.inr (.inl _)) => 4
  | .inr (.inr (.inr (.inl _))) => 3
  | .inr (.inr (.inr (.inr _))) => 2
/-- what an object refers to -/
def xRf (o : xOb) : List Int := match o with
  | .inr (.inl q) => q.1
  | .inr (.inr (.inr (.inl q))) => [q.1]
  | _ => []
def xSo (o : Option xOb) : Nat := match o with
  | some o => xSz o
  | none => 0
def xSzA (H : xHp) : List Int → Nat
  | [] => 0
  | v :: A => xSo (H v) + xSzA H A
def xIn (A : List Int) (v : Int) : Prop := v < 16 ∨ v ∈ A
def xClo (H : xHp) (A : List Int) : Prop := A.Nodup ∧ ∀ v ∈ A, ∃ o, H v = some o ∧ ∀ u ∈ xRf o, xIn A u
/-- entries of all stacks -/
def xEs : List xFr → Nat
  | [] => 0
  | f :: t => f.2.2.1.length + xEs t
def xLIn (A : List Int) (L : Nat → Option Int) : Prop := ∀ i v, L i = some v → xIn A v
def xTIn (A : List Int) (t : List xFr) : Prop := ∀ g ∈ t, (∀ v ∈ g.2.2.1, xIn A v) ∧ xLIn A g.2.2.2.1
/-- the top one's charge: it lies among the living, or nothing else refers to it -/
def xChg (A : List Int) (H : xHp) (v : Int) (c : Nat) : Prop := (xIn A v ∧ (xNum H v ≠ none → 85 ≤ c) ∧ (xTup H v ≠ none → 42 ≤ c) ∧ ((∃ q, H v = some (.inr (.inr (.inr (.inl q))))) → 43 ≤ c)) ∨ (v ∉ A ∧ 16 ≤ v ∧ ((∃ N, H v = some (.inl N) ∧ 190 ≤ c) ∨ ∃ q, H v = some (.inr (.inl q)) ∧ 30 + 10 * q.1.length ≤ c ∧ 50 ≤ c ∧ ∀ u ∈ q.1, xIn A u))
def xGIn (C : Nat → xCd) (nc : Nat) (A : List Int) (G : List (Nat × Int)) : Prop := (∀ c, c < nc → ∀ v ∈ (C c).2.1, xIn A v) ∧ ∀ g ∈ G, xIn A g.2
def xStk (A : List Int) (H : xHp) (c : Nat) (st : List Int) : Prop := match st with
  | [] => True
  | v :: r => xChg A H v c ∧ ∀ u ∈ r, xIn A u
def xFs1 (A : List Int) (H : xHp) (c : Nat) (fs : List xFr) : Prop := match fs with
  | [] => True
  | f :: t => xStk A H c f.2.2.1 ∧ xLIn A f.2.2.2.1 ∧ xTIn A t
def xPot (C : Nat → xCd) (nc P : Nat) (H : xHp) (G : List (Nat × Int)) (fs : List xFr) (r : Int) : Prop := ∃ A c, xClo H A ∧ xGIn C nc A G ∧ xIn A r ∧ xFs1 A H c fs ∧ 10 * xSzA H A + 3 * xEs fs + c ≤ P
theorem xIn.mono {A A' : List Int} (h : ∀ v ∈ A, v ∈ A') {v : Int} (hv : xIn A v) : xIn A' v := hv.imp id (h v)
theorem xLIn.mono {A A' : List Int} (h : ∀ v ∈ A, v ∈ A') {L : Nat → Option Int} (hL : xLIn A L) : xLIn A' L := fun i v e => (hL i v e).mono h
theorem xTIn.mono {A A' : List Int} (h : ∀ v ∈ A, v ∈ A') {t : List xFr} (ht : xTIn A t) : xTIn A' t := fun g hg => ⟨fun v hv => ((ht g hg).1 v hv).mono h, (ht g hg).2.mono h⟩
theorem xGIn.mono {C : Nat → xCd} {nc : Nat} {A A' : List Int} (h : ∀ v ∈ A, v ∈ A') {G : List (Nat × Int)} (hG : xGIn C nc A G) : xGIn C nc A' G := ⟨fun c hc v hv => (hG.1 c hc v hv).mono h, fun g hg => (hG.2 g hg).mono h⟩
section XPT
variable {H H' : xHp} {nc K : Nat} {A : List Int} {n : Int}
theorem xLe.sz (h : xLe H H') {v : Int} {o : xOb} (e : H v = some o) : ∃ o', H' v = some o' ∧ xSz o' = xSz o ∧ xRf o' = xRf o := by
  rcases h.1 v o e with q | ⟨u, k, k', q1, q2⟩
  · exact ⟨o, q, rfl, rfl⟩
  · exact ⟨_, q2, by rw [q1]; rfl, by rw [q1]; rfl⟩
theorem xLe.clo (h : xLe H H') (hA : xClo H A) : xClo H' A := ⟨hA.1, fun v hv => by
  obtain ⟨o, e, g⟩ := hA.2 v hv
  obtain ⟨o', e', -, g'⟩ := h.sz e
  exact ⟨o', e', by rw [g']; exact g⟩⟩
theorem xLe.szA (h : xLe H H') : ∀ (A : List Int), (∀ v ∈ A, ∃ o, H v = some o) → xSzA H' A = xSzA H A
  | [], _ => rfl
  | v :: A, hA => by
    obtain ⟨o, e⟩ := hA v List.mem_cons_self
    obtain ⟨o', e', g, -⟩ := h.sz e
    show xSo (H' v) + xSzA H' A = xSo (H v) + xSzA H A
    rw [h.szA A (fun u hu => hA u (List.mem_cons_of_mem _ hu)), e, e']
    show xSz o' + _ = xSz o + _
    rw [g]
theorem xClo.ex (hA : xClo H A) : ∀ v ∈ A, ∃ o, H v = some o := fun v hv => ⟨_, (hA.2 v hv).choose_spec.1⟩
/-- a new one joins -/
theorem xClo.cons (hA : xClo H A) {v : Int} {o : xOb} (hv : v ∉ A) (e : H v = some o) (hr : ∀ u ∈ xRf o, xIn A u) : xClo H (v :: A) ∧ xSzA H (v :: A) = xSz o + xSzA H A := by
  refine ⟨⟨List.nodup_cons.mpr ⟨hv, hA.1⟩, fun u hu => ?_⟩, by show xSo (H v) + _ = _; rw [e]; rfl⟩
  rcases List.mem_cons.mp hu with z | z
  · rw [z]; exact ⟨o, e, fun x hx => (hr x hx).mono (fun _ => List.mem_cons_of_mem _)⟩
  · obtain ⟨o', e', g⟩ := hA.2 u z
    exact ⟨o', e', fun x hx => (g x hx).mono (fun _ => List.mem_cons_of_mem _)⟩
/-- the top one joins the living -/
theorem xChg.settle {v : Int} {c : Nat} (h : xChg A H v c) (hA : xClo H A) : ∃ A1, xClo H A1 ∧ (∀ u ∈ A, u ∈ A1) ∧ xIn A1 v ∧ 10 * xSzA H A1 ≤ 10 * xSzA H A + c := by
  rcases h with ⟨h, -⟩ | ⟨h1, h2, ⟨N, h3, h4⟩ | ⟨q, h3, h4, h5, h6⟩⟩
  · exact ⟨A, hA, fun _ hu => hu, h, Nat.le_add_right _ _⟩
  · obtain ⟨a, b⟩ := hA.cons h1 h3 (fun u hu => by cases hu)
    refine ⟨v :: A, a, fun _ => List.mem_cons_of_mem _, Or.inr List.mem_cons_self, ?_⟩
    rw [b]
    have : xSz (.inl N) ≤ 19 := by
      show 3 + dl 16 N.natAbs ≤ 19
      have := dl_le 16 N.natAbs
      omega
    omega
  · obtain ⟨a, b⟩ := hA.cons h1 h3 h6
    refine ⟨v :: A, a, fun _ => List.mem_cons_of_mem _, Or.inr List.mem_cons_self, ?_⟩
    rw [b]
    have : xSz (.inr (.inl q)) = 3 + q.1.length := rfl
    omega
theorem xChg_in {v : Int} (h : xIn A v) : xChg A H v 85 := Or.inl ⟨h, fun _ => Nat.le_refl _, fun _ => by decide, fun _ => by decide⟩
/-- the top one goes -/
theorem xChg.drop {v : Int} {c : Nat} (h : xChg A H v c) (hA : xClo H A) (hlow : ∀ u, u < 16 → H u = none) : (xNum H v ≠ none → 85 ≤ c) ∧ (∀ l, xTup H v = some l → 42 ≤ c ∧ ∀ u ∈ l, xIn A u) ∧ ∀ q, H v = some (.inr (.inr (.inr (.inl q)))) → 43 ≤ c ∧ v ∈ A := by
  have ina : ∀ {o}, xIn A v → H v = some o → v ∈ A ∧ ∀ u ∈ xRf o, xIn A u := fun {o} hi e => by
    rcases hi with z | z
    · rw [hlow v z] at e; cases e
    · obtain ⟨o', e', g⟩ := hA.2 v z
      rw [e] at e'
      cases e'
      exact ⟨z, g⟩
  rcases h with ⟨h0, h1, h2, h3⟩ | ⟨h1, h2, ⟨N, h3, h4⟩ | ⟨q, h3, h4, h5, h6⟩⟩
  · refine ⟨h1, fun l hl => ⟨h2 (by rw [hl]; exact fun z => by cases z), ?_⟩, fun q hq => ⟨h3 ⟨q, hq⟩, (ina h0 hq).1⟩⟩
    obtain ⟨d, hd⟩ := xTup_some hl
    exact (ina h0 hd).2
  · refine ⟨fun _ => by omega, fun l hl => ?_, fun q hq => ?_⟩
    · obtain ⟨d, hd⟩ := xTup_some hl
      rw [h3] at hd; cases hd
    · rw [h3] at hq; cases hq
  · refine ⟨fun hn => absurd ?_ hn, fun l hl => ?_, fun q' hq => ?_⟩
    · unfold xNum
      rw [if_neg (by omega), if_neg (by omega), h3]
    · obtain ⟨d, hd⟩ := xTup_some hl
      rw [h3] at hd
      cases hd
      exact ⟨by omega, h6⟩
    · rw [h3] at hq; cases hq
end XPT
/-- what an instruction finds -/
def xPI (C : Nat → xCd) (nc P : Nat) (e : xEn) (st : List Int) : Prop := ∃ A c, xClo e.H A ∧ xGIn C nc A e.G ∧ xLIn A e.L ∧ xTIn A e.t ∧ xStk A e.H c st ∧ 10 * xSzA e.H A + 3 * (st.length + xEs e.t) + c ≤ P
def xOutP (C : Nat → xCd) (nc P : Nat) (o : xOut) : Prop := match o with
  | .inl _ => True
  | .inr (H', _, G', fs', r) => xPot C nc (P + 105) H' G' fs' (r.getD 0)
section XPI
variable {C : Nat → xCd} {nc K P : Nat} {e : xEn} {st r : List Int} {v : Int}
theorem xPI.settle (h : xPI C nc P e st) : ∃ A, xClo e.H A ∧ xGIn C nc A e.G ∧ xLIn A e.L ∧ xTIn A e.t ∧ (∀ u ∈ st, xIn A u) ∧ 10 * xSzA e.H A + 3 * (st.length + xEs e.t) ≤ P := by
  obtain ⟨A, c, h1, h2, h3, h4, h5, h6⟩ := h
  match st, h5, h6 with
  | [], _, h6 => exact ⟨A, h1, h2, h3, h4, fun u hu => (by cases hu), by omega⟩
  | v :: r, ⟨h5, h7⟩, h6 =>
    obtain ⟨A1, a1, a2, a3, a4⟩ := h5.settle h1
    refine ⟨A1, a1, h2.mono a2, h3.mono a2, h4.mono a2, fun u hu => ?_, by omega⟩
    rcases List.mem_cons.mp hu with z | z
    · rw [z]; exact a3
    · exact (h7 u z).mono a2
theorem xPI.drop (h : xPI C nc P e (v :: r)) (hH : xHOk nc K e.H e.n) : ∃ A c, xClo e.H A ∧ xGIn C nc A e.G ∧ xLIn A e.L ∧ xTIn A e.t ∧ (∀ u ∈ r, xIn A u) ∧ 10 * xSzA e.H A + 3 * (r.length + 1 + xEs e.t) + c ≤ P ∧ (xNum e.H v ≠ none → 85 ≤ c) ∧ (∀ l, xTup e.H v = some l → 42 ≤ c ∧ ∀ u ∈ l, xIn A u) ∧ ∀ q, e.H v = some (.inr (.inr (.inr (.inl q)))) → 43 ≤ c ∧ v ∈ A := by
  obtain ⟨A, c, h1, h2, h3, h4, ⟨h5, h7⟩, h6⟩ := h
  obtain ⟨d1, d2, d3⟩ := h5.drop h1 (fun u hu => by
    cases z : e.H u with
    | none => rfl
    | some o => have := (hH.2 u o z).1; omega)
  exact ⟨A, c, h1, h2, h3, h4, h7, h6, d1, d2, d3⟩
/-- no new object, all among the living -/
theorem xGo_p {A : List Int} {q : Nat} (h1 : xClo e.H A) (h2 : xGIn C nc A e.G) (h3 : xLIn A e.L) (h4 : xTIn A e.t) (hs : ∀ u ∈ st, xIn A u) (hb : 10 * xSzA e.H A + 3 * (st.length + xEs e.t) ≤ P + 20) : xOutP C nc P (xGo e q st) := by
  refine ⟨A, 85, h1, h2, Or.inl (by decide), ⟨?_, h3, h4⟩, ?_⟩
  · show xStk A e.H 85 st
    match st, hs with
    | [], _ => trivial
    | v :: r, hs => exact ⟨xChg_in (hs v List.mem_cons_self), fun u hu => hs u (List.mem_cons_of_mem _ hu)⟩
  · show 10 * xSzA e.H A + 3 * (st.length + xEs e.t) + 85 ≤ P + 105
    omega
theorem xIn_ne {A : List Int} (h1 : xClo e.H A) (hH : xHOk nc K e.H e.n) : e.n ∉ A := fun hn => by
  obtain ⟨o, z, -⟩ := h1.2 _ hn
  have := (hH.2 _ _ z).2.1
  omega
/-- a new number that only the stack has -/
theorem xMk_n {A : List Int} {q : Nat} {N : Int} (hH : xHOk nc K e.H e.n) (h1 : xClo e.H A) (h2 : xGIn C nc A e.G) (h3 : xLIn A e.L) (h4 : xTIn A e.t) (hs : ∀ u ∈ r, xIn A u) (hb : 10 * xSzA e.H A + 3 * (r.length + 1 + xEs e.t) + 85 ≤ P) : xOutP C nc P (xMk e q r (.inl N)) := by
  have hle := xNew_le hH (.inl N)
  refine ⟨A, 190, hle.clo h1, h2, Or.inl (by decide), ⟨⟨Or.inr ⟨xIn_ne h1 hH, hH.1, Or.inl ⟨N, xNew_self, Nat.le_refl _⟩⟩, hs⟩, h3, h4⟩, ?_⟩
  show 10 * xSzA (xNew e.H e.n (.inl N)) A + 3 * (r.length + 1 + xEs e.t) + 190 ≤ P + 105
  rw [hle.szA A h1.ex]
  omega
/-- a new tuple that only the stack has -/
theorem xMk_t {A : List Int} {q d : Nat} {l : List Int} (hH : xHOk nc K e.H e.n) (h1 : xClo e.H A) (h2 : xGIn C nc A e.G) (h3 : xLIn A e.L) (h4 : xTIn A e.t) (hs : ∀ u ∈ r, xIn A u) (hl : ∀ u ∈ l, xIn A u) (hb : 10 * xSzA e.H A + 3 * (r.length + 1 + xEs e.t) + (30 + 10 * l.length) ≤ P + 105) (hb2 : 10 * xSzA e.H A + 3 * (r.length + 1 + xEs e.t) + 50 ≤ P + 105) : xOutP C nc P (xMk e q r (.inr (.inl (l, d)))) := by
  have hle := xNew_le hH (.inr (.inl (l, d)))
  refine ⟨A, max (30 + 10 * l.length) 50, hle.clo h1, h2, Or.inl (by decide), ⟨⟨Or.inr ⟨xIn_ne h1 hH, hH.1, Or.inr ⟨(l, d), xNew_self, Nat.le_max_left _ _, Nat.le_max_right _ _, hl⟩⟩, hs⟩, h3, h4⟩, ?_⟩
  show 10 * xSzA (xNew e.H e.n (.inr (.inl (l, d)))) A + 3 * (r.length + 1 + xEs e.t) + max (30 + 10 * l.length) 50 ≤ P + 105
  rw [hle.szA A h1.ex]
  omega
/-- another new one, among the living at once -/
theorem xMk_o {A : List Int} {q : Nat} {o : xOb} (hH : xHOk nc K e.H e.n) (h1 : xClo e.H A) (h2 : xGIn C nc A e.G) (h3 : xLIn A e.L) (h4 : xTIn A e.t) (hs : ∀ u ∈ r, xIn A u) (ho : ∀ u ∈ xRf o, xIn A u) (hn : ∀ N, o ≠ .inl N) (ht : ∀ p, o ≠ .inr (.inl p)) (hz : xSz o ≤ 4) (hw : (∃ p, o = .inr (.inr (.inr (.inl p)))) → xSz o ≤ 3) (hb : 10 * xSzA e.H A + 3 * (r.length + 1 + xEs e.t) ≤ P + 32) : xOutP C nc P (xMk e q r o) := by
  have hle := xNew_le hH o
  obtain ⟨a, b⟩ := (hle.clo h1).cons (v := e.n) (o := o) (xIn_ne h1 hH) xNew_self ho
  have sub : ∀ v ∈ A, v ∈ e.n :: A := fun _ => List.mem_cons_of_mem _
  have h16 := hH.1
  refine ⟨e.n :: A, 105 - 32 - 10 * xSz o + 0, a, h2.mono sub, Or.inl (by decide), ⟨⟨Or.inl ⟨Or.inr List.mem_cons_self, fun z => absurd ?_ z, fun z => absurd ?_ z, fun ⟨p, z⟩ => ?_⟩, fun u hu => (hs u hu).mono sub⟩, h3.mono sub, h4.mono sub⟩, ?_⟩
  · show xNum (xNew e.H e.n o) e.n = none
    unfold xNum
    rw [if_neg (by omega), if_neg (by omega), xNew_self]
    match o, hn with
    | .inl N, hn => exact absurd rfl (hn N)
    | .inr _, _ => rfl
  · show xTup (xNew e.H e.n o) e.n = none
    unfold xTup
    rw [xNew_self]
    match o, ht with
    | .inl N, _ => rfl
    | .inr (.inl p), ht => exact absurd rfl (ht p)
    | .inr (.inr _), _ => rfl
  · have z' : xNew e.H e.n o e.n = some (.inr (.inr (.inr (.inl p)))) := z
    rw [xNew_self] at z'
    have := hw ⟨p, Option.some.inj z'⟩
    omega
  · show 10 * xSzA (xNew e.H e.n o) (e.n :: A) + 3 * (r.length + 1 + xEs e.t) + _ ≤ P + 105
    rw [b, hle.szA A h1.ex]
    omega
end XPI
