/-! what every state keeps -/
def xOk (nc : Nat) (H : xHp) (v : Int) : Prop := (-(nc : Int) ≤ v ∧ v ≤ 10) ∨ H v ≠ none
def xObOk (nc K : Nat) (H : xHp) (o : xOb) : Prop := match o with
  | .inl N => N.natAbs < 32768 ^ 16
  | .inr (.inl q) => q.1.length ≤ 12 ∧ q.2 = xMax H q.1 + 1 ∧ q.2 ≤ 4 ∧ ∀ v ∈ q.1, xOk nc H v
  | .inr (.inr (.inl q)) => xFit q.1 = true ∧ xFit q.2.1 = true ∧ xFit q.2.2 = true ∧ q.2.2 ≠ 0
  | .inr (.inr (.inr (.inl q))) => xLen H q.1 ≠ none ∧ q.2 ≤ K
  | .inr (.inr (.inr (.inr c))) => c < nc
def xHOk (nc K : Nat) (H : xHp) (n : Int) : Prop := 16 ≤ n ∧ ∀ v o, H v = some o → 16 ≤ v ∧ v < n ∧ xObOk nc K H o
/-- objects stay; a walker's place alone changes -/
def xLe (H H' : xHp) : Prop := (∀ v o, H v = some o → H' v = some o ∨ ∃ u k k', o = .inr (.inr (.inr (.inl (u, k)))) ∧ H' v = some (.inr (.inr (.inr (.inl (u, k')))))) ∧ ∀ v, v ≤ 10 → H' v = none
theorem xLe.ne {H H' : xHp} (h : xLe H H') {v : Int} (hv : H v ≠ none) : H' v ≠ none := by
  cases e : H v with
  | none => exact absurd e hv
  | some o =>
    rcases h.1 v o e with q | ⟨u, k, k', -, q⟩ <;> rw [q] <;> exact fun z => by cases z
theorem xLe.ok {H H' : xHp} (h : xLe H H') {nc : Nat} {v : Int} (hv : xOk nc H v) : xOk nc H' v := hv.imp id h.ne
/-- what no walker is, is the same -/
theorem xLe.same {α : Type} {H H' : xHp} (h : xLe H H') (h0 : ∀ v, v ≤ 10 → H v = none) (F : Option xOb → α) (hF : ∀ u k k', F (some (.inr (.inr (.inr (.inl (u, k)))))) = F (some (.inr (.inr (.inr (.inl (u, k'))))))) {nc : Nat} {v : Int} (hv : xOk nc H v) : F (H' v) = F (H v) := by
  rcases hv with q | q
  · rw [h.2 v q.2, h0 v q.2]
  · cases e : H v with
    | none => exact absurd e q
    | some o =>
      rcases h.1 v o e with z | ⟨u, k, k', z1, z2⟩
      · rw [z]
      · rw [z2, z1, hF u k' k]
section XLE
variable {H H' : xHp} {nc : Nat} {v : Int}
theorem xLe.num (h : xLe H H') (h0 : ∀ v, v ≤ 10 → H v = none) (hv : xOk nc H v) : xNum H' v = xNum H v := h.same h0 (fun o => if v = 1 then some 0 else if v = 2 then some 1 else match o with
  | some (.inl n) => some n
  | _ => none) (fun _ _ _ => rfl) hv
theorem xLe.tup (h : xLe H H') (h0 : ∀ v, v ≤ 10 → H v = none) (hv : xOk nc H v) : xTup H' v = xTup H v := h.same h0 (fun o => match o with
  | some (.inr (.inl q)) => some q.1
  | _ => none) (fun _ _ _ => rfl) hv
theorem xLe.dep (h : xLe H H') (h0 : ∀ v, v ≤ 10 → H v = none) (hv : xOk nc H v) : xDep H' v = xDep H v := h.same h0 (fun o => match o with
  | some (.inr (.inl q)) => q.2
  | _ => 0) (fun _ _ _ => rfl) hv
theorem xLe.len (h : xLe H H') (h0 : ∀ v, v ≤ 10 → H v = none) (hv : xOk nc H v) : xLen H' v = xLen H v := h.same h0 (fun o => match o with
  | some (.inr (.inl q)) => some q.1.length
  | some (.inr (.inr (.inl q))) => some (rgN q.1 q.2.1 q.2.2)
  | _ => none) (fun _ _ _ => rfl) hv
theorem xLe.max (h : xLe H H') (h0 : ∀ v, v ≤ 10 → H v = none) : ∀ l : List Int, (∀ v ∈ l, xOk nc H v) → xMax H' l = xMax H l
  | [], _ => rfl
  | v :: l, hl => by
    show Max.max (xDep H' v) (xMax H' l) = Max.max (xDep H v) (xMax H l)
    rw [h.dep h0 (hl v List.mem_cons_self), h.max h0 l (fun u hu => hl u (List.mem_cons_of_mem _ hu))]
theorem xLen_ne (h : xLen H v ≠ none) : H v ≠ none := fun e => h (by unfold xLen; rw [e])
theorem xHOk.low {K : Nat} {n : Int} (h : xHOk nc K H n) (hv : v ≤ 10) : H v = none := by
  cases e : H v with
  | none => rfl
  | some o => have := (h.2 v o e).1; omega
theorem xHOk.high {K : Nat} {n : Int} (h : xHOk nc K H n) (hv : n ≤ v) : H v = none := by
  cases e : H v with
  | none => rfl
  | some o => have := (h.2 v o e).2.1; omega
theorem xHOk.lt {K : Nat} {n : Int} (h : xHOk nc K H n) (hv : xOk nc H v) : v < n := by
  rcases hv with q | q
  · have := h.1; omega
  · cases e : H v with
    | none => exact absurd e q
    | some o => exact (h.2 v o e).2.1
theorem xLe.obj (h : xLe H H') (h0 : ∀ v, v ≤ 10 → H v = none) {K : Nat} {o : xOb} (ho : xObOk nc K H o) : xObOk nc K H' o := by
  match o, ho with
  | .inl N, ho => exact ho
  | .inr (.inl q), ⟨a, b, c, e⟩ => exact ⟨a, by rw [h.max h0 q.1 e]; exact b, c, fun v hv => h.ok (e v hv)⟩
  | .inr (.inr (.inl q)), ho => exact ho
  | .inr (.inr (.inr (.inl q))), ⟨a, b⟩ => exact ⟨by rw [h.len (nc := nc) h0 (Or.inr (xLen_ne a))]; exact a, b⟩
  | .inr (.inr (.inr (.inr c))), ho => exact ho
theorem xObOk.mono {K K' : Nat} {o : xOb} (hK : K ≤ K') (ho : xObOk nc K H o) : xObOk nc K' H o := by
  match o, ho with
  | .inl N, ho => exact ho
  | .inr (.inl q), ho => exact ho
  | .inr (.inr (.inl q)), ho => exact ho
  | .inr (.inr (.inr (.inl q))), ⟨a, b⟩ => exact ⟨a, Nat.le_trans b hK⟩
  | .inr (.inr (.inr (.inr c))), ho => exact ho
theorem xHOk.mono {K K' : Nat} {n : Int} (hK : K ≤ K') (h : xHOk nc K H n) : xHOk nc K' H n := ⟨h.1, fun v o e => ⟨(h.2 v o e).1, (h.2 v o e).2.1, (h.2 v o e).2.2.mono hK⟩⟩
theorem xLe.refl {K : Nat} {n : Int} (h : xHOk nc K H n) : xLe H H := ⟨fun _ _ e => Or.inl e, fun _ hv => h.low hv⟩
theorem xLe.trans {H2 : xHp} (h : xLe H H') (g : xLe H' H2) : xLe H H2 := ⟨fun v o e => by
  rcases h.1 v o e with q | ⟨u, k, k', q1, q2⟩
  · exact g.1 v o q
  · rcases g.1 v _ q2 with z | ⟨u', a, a', z1, z2⟩
    · exact Or.inr ⟨u, k, k', q1, z⟩
    · cases z1
      exact Or.inr ⟨u, k, a', q1, z2⟩, g.2⟩
/-- a new object -/
theorem xNew_le {K : Nat} {n : Int} (h : xHOk nc K H n) (o : xOb) : xLe H (xNew H n o) := ⟨fun v o' e => Or.inl (by
  have := (h.2 v o' e).2.1
  show (if v = n then some o else H v) = some o'
  rw [if_neg (by omega)]
  exact e), fun v hv => by
  have := h.1
  show (if v = n then some o else H v) = none
  rw [if_neg (by omega)]
  exact h.low hv⟩
theorem xNew_ok {K : Nat} {n : Int} (h : xHOk nc K H n) {o : xOb} (ho : xObOk nc K H o) : xHOk nc K (xNew H n o) (n + 1) := by
  have hl := xNew_le h o
  refine ⟨by have := h.1; omega, fun v o' e => ?_⟩
  have e' : (if v = n then some o else H v) = some o' := e
  by_cases q : v = n
  · rw [if_pos q] at e'
    cases e'
    have := h.1
    exact ⟨by omega, by omega, hl.obj (fun v hv => h.low hv) ho⟩
  · rw [if_neg q] at e'
    obtain ⟨a, b, c⟩ := h.2 v o' e'
    exact ⟨a, by omega, hl.obj (fun v hv => h.low hv) c⟩
theorem xNew_self {n : Int} {o : xOb} : xNew H n o n = some o := if_pos rfl
/-- a walker goes on -/
theorem xWk_le {K : Nat} {n u : Int} {k k' : Nat} (h : xHOk nc K H n) (hv : H v = some (.inr (.inr (.inr (.inl (u, k)))))) : xLe H (xNew H v (.inr (.inr (.inr (.inl (u, k')))))) := ⟨fun z o e => by
  by_cases q : z = v
  · subst q
    rw [hv] at e
    cases e
    exact Or.inr ⟨u, k, k', rfl, if_pos rfl⟩
  · exact Or.inl ((if_neg q).trans e), fun z hz => by
  have := (h.2 v _ hv).1
  exact (if_neg (by omega)).trans (h.low hz)⟩
theorem xWk_ok {K : Nat} {n u : Int} {k k' : Nat} (h : xHOk nc K H n) (hv : H v = some (.inr (.inr (.inr (.inl (u, k)))))) (hk : k' ≤ K) : xHOk nc K (xNew H v (.inr (.inr (.inr (.inl (u, k')))))) n := by
  have hl := xWk_le (k' := k') h hv
  refine ⟨h.1, fun z o e => ?_⟩
  have e' : (if z = v then some (.inr (.inr (.inr (.inl (u, k'))))) else H z) = some o := e
  by_cases q : z = v
  · rw [if_pos q] at e'
    cases e'
    obtain ⟨a, b, c⟩ := h.2 v _ hv
    obtain ⟨c1, -⟩ := c
    exact ⟨by omega, by omega, hl.obj (o := .inr (.inr (.inr (.inl (u, k'))))) (fun v hv => h.low hv) ⟨c1, hk⟩⟩
  · rw [if_neg q] at e'
    obtain ⟨a, b, c⟩ := h.2 z o e'
    exact ⟨a, b, hl.obj (fun v hv => h.low hv) c⟩
end XLE
/-- a frame's blocks: their handlers stand in the table -/
def xBl (T : Nat → Option oHB) : List (Nat × Nat) → Prop
  | [] => True
  | (l, h) :: b => T h = some (l + 1, b) ∧ flr b ≤ l ∧ xBl T b ∧ b.length < 4
theorem xBl_len {T : Nat → Option oHB} : ∀ {b : List (Nat × Nat)}, xBl T b → b.length ≤ 4
  | [], _ => Nat.zero_le _
  | (_, _) :: _, h => h.2.2.2
/-- a frame as looking knows it; x: a value that a call still gives -/
def xFOk (C : Nat → xCd) (nc : Nat) (H : xHp) (x : Nat) (f : xFr) : Prop := f.1 < nc ∧ (∃ T, okT (C f.1).1 T ∧ T f.2.1 = some (f.2.2.1.length + x, f.2.2.2.2) ∧ xBl T f.2.2.2.2) ∧ flr f.2.2.2.2 ≤ f.2.2.1.length ∧ (∀ v ∈ f.2.2.1, xOk nc H v) ∧ ∀ i v, f.2.2.2.1 i = some v → i < cdL (C f.1).1 ∧ xOk nc H v
def xFsOk (C : Nat → xCd) (nc : Nat) (H : xHp) (fs : List xFr) : Prop := fs.length ≤ 8 ∧ match fs with
  | [] => True
  | f :: t => xFOk C nc H 0 f ∧ ∀ g ∈ t, xFOk C nc H 1 g
def xCOk (C : Nat → xCd) (nc : Nat) (H : xHp) : Prop := ∀ c, c < nc → cdO (C c).1 ∧ (∃ T, okT (C c).1 T) ∧ (C c).2.1.length = cdK (C c).1 ∧ (C c).2.2.length = cdW (C c).1 ∧ (∀ v ∈ (C c).2.1, xOk nc H v) ∧ ∀ w ∈ (C c).2.2, w < 2 ^ 63
def xGOk (nc : Nat) (H : xHp) (G : List (Nat × Int)) : Prop := G.length ≤ 16 ∧ ∀ g ∈ G, g.1 < 2 ^ 63 ∧ xOk nc H g.2
def xWf (C : Nat → xCd) (nc K : Nat) (s : xSt) : Prop := xHOk nc K s.H s.n ∧ xCOk C nc s.H ∧ xGOk nc s.H s.G ∧ xFsOk C nc s.H s.f ∧ (s.s = 1 ↔ s.f ≠ []) ∧ xOk nc s.H s.r ∧ s.s ≤ 3 ∧ (s.s ≠ 3 → s.k = -1) ∧ (s.s ≠ 2 → s.r = 0) ∧ (s.s = 3 → 0 ≤ s.k ∧ s.k ≤ 6)
section XMO
variable {C : Nat → xCd} {nc : Nat} {H H' : xHp}
theorem xFOk.mono (h : xLe H H') {x : Nat} {f : xFr} (hf : xFOk C nc H x f) : xFOk C nc H' x f := ⟨hf.1, hf.2.1, hf.2.2.1, fun v hv => h.ok (hf.2.2.2.1 v hv), fun i v hv => ⟨(hf.2.2.2.2 i v hv).1, h.ok (hf.2.2.2.2 i v hv).2⟩⟩
theorem xCOk.mono (h : xLe H H') (hC : xCOk C nc H) : xCOk C nc H' := fun c hc => by
  obtain ⟨a, b, e, f, g, i⟩ := hC c hc
  exact ⟨a, b, e, f, fun v hv => h.ok (g v hv), i⟩
theorem xGOk.mono (h : xLe H H') {G : List (Nat × Int)} (hG : xGOk nc H G) : xGOk nc H' G := ⟨hG.1, fun g hg => ⟨(hG.2 g hg).1, h.ok (hG.2 g hg).2⟩⟩
/-- the outcome of an instruction -/
def xOutOk (C : Nat → xCd) (nc K : Nat) (H : xHp) (o : xOut) : Prop := match o with
  | .inl k => k ≤ 6
  | .inr (H', n', G', fs', e) => xHOk nc K H' n' ∧ xLe H H' ∧ xGOk nc H' G' ∧ xFsOk C nc H' fs' ∧ match e with
    | none => fs' ≠ []
    | some v => fs' = [] ∧ xOk nc H' v
/-- what an instruction finds -/
def xEnOk (C : Nat → xCd) (nc K : Nat) (e : xEn) : Prop := xHOk nc K e.H e.n ∧ xCOk C nc e.H ∧ xGOk nc e.H e.G ∧ e.c < nc ∧ e.t.length ≤ 7 ∧ (∀ i v, e.L i = some v → i < cdL (C e.c).1 ∧ xOk nc e.H v) ∧ ∀ g ∈ e.t, xFOk C nc e.H 1 g
variable {K : Nat} {e : xEn}
theorem xGo_ok (h : xEnOk C nc K e) {T : Nat → Option oHB} (hT : okT (C e.c).1 T) (hB : xBl T e.b) {q : Nat} {st : List Int} (hq : T q = some (st.length, e.b)) (hf : flr e.b ≤ st.length) (hs : ∀ v ∈ st, xOk nc e.H v) : xOutOk C nc K e.H (xGo e q st) := by
  obtain ⟨h1, h2, h3, h4, h5, h6, h7⟩ := h
  exact ⟨h1, xLe.refl h1, h3, ⟨Nat.succ_le_succ h5, ⟨h4, ⟨T, hT, hq, hB⟩, hf, hs, h6⟩, h7⟩, fun z => by cases z⟩
theorem xMk_ok (h : xEnOk C nc K e) {T : Nat → Option oHB} (hT : okT (C e.c).1 T) (hB : xBl T e.b) {q : Nat} {r : List Int} {o : xOb} (hq : T q = some (r.length + 1, e.b)) (hf : flr e.b ≤ r.length + 1) (hs : ∀ v ∈ r, xOk nc e.H v) (ho : xObOk nc K e.H o) : xOutOk C nc K e.H (xMk e q r o) := by
  obtain ⟨h1, h2, h3, h4, h5, h6, h7⟩ := h
  have hl := xNew_le h1 o
  refine ⟨xNew_ok h1 ho, hl, h3.mono hl, ⟨Nat.succ_le_succ h5, ⟨h4, ⟨T, hT, hq, hB⟩, hf, fun v hv => ?_, fun i v hv => ⟨(h6 i v hv).1, hl.ok (h6 i v hv).2⟩⟩, fun g hg => (h7 g hg).mono hl⟩, fun z => by cases z⟩
  rcases List.mem_cons.mp hv with q | q
  · rw [q]; exact Or.inr (by rw [xNew_self]; exact fun z => by cases z)
  · exact hl.ok (hs v q)
theorem xGive_ok (h : xEnOk C nc K e) {T : Nat → Option oHB} (hT : okT (C e.c).1 T) (hB : xBl T e.b) {q : Nat} {r : List Int} {N : Int} (hq : T q = some (r.length + 1, e.b)) (hf : flr e.b ≤ r.length + 1) (hs : ∀ v ∈ r, xOk nc e.H v) : xOutOk C nc K e.H (xGive e q r N) := by
  unfold xGive
  by_cases z : N.natAbs < 32768 ^ 16
  · rw [if_pos z]; exact xMk_ok h hT hB hq hf hs z
  · rw [if_neg z]; exact Nat.le_refl 6
theorem xNum_lt {n : Int} (h : xHOk nc K H n) {v N : Int} (e : xNum H v = some N) : N.natAbs < 32768 ^ 16 := by
  unfold xNum at e
  by_cases q : v = 1
  · rw [if_pos q] at e; cases e; decide
  · rw [if_neg q] at e
    by_cases q2 : v = 2
    · rw [if_pos q2] at e; cases e; decide
    · rw [if_neg q2] at e
      cases z : H v with
      | none => rw [z] at e; cases e
      | some o =>
        rw [z] at e
        match o, z, e with
        | .inl M, z, e => cases e; exact (h.2 v _ z).2.2
        | .inr (.inl _), z, e => cases e
        | .inr (.inr _), z, e => cases e
theorem xTup_some {v : Int} {l : List Int} (e : xTup H v = some l) : ∃ k, H v = some (.inr (.inl (l, k))) := by
  unfold xTup at e
  cases z : H v with
  | none => rw [z] at e; cases e
  | some o =>
    rw [z] at e
    match o, z, e with
    | .inl M, z, e => cases e
    | .inr (.inl q), z, e => cases e; exact ⟨q.2, rfl⟩
    | .inr (.inr _), z, e => cases e
theorem xMax_append (l l' : List Int) : xMax H (l ++ l') = max (xMax H l) (xMax H l') := by
  induction l with
  | nil => show xMax H l' = Max.max 0 (xMax H l'); rw [Nat.max_eq_right (Nat.zero_le _)]
  | cons v l ih =>
    show Max.max (xDep H v) (xMax H (l ++ l')) = Max.max (Max.max (xDep H v) (xMax H l)) (xMax H l')
    rw [ih, Nat.max_assoc]
theorem xMax_reverse (l : List Int) : xMax H l.reverse = xMax H l := by
  induction l with
  | nil => rfl
  | cons v l ih =>
    rw [List.reverse_cons, xMax_append, ih]
    show Max.max (xMax H l) (Max.max (xDep H v) 0) = Max.max (xDep H v) (xMax H l)
    rw [Nat.max_eq_left (Nat.zero_le _), Nat.max_comm]
theorem xDep_le {n : Int} (h : xHOk nc K H n) (v : Int) : xDep H v ≤ 4 := by
  unfold xDep
  cases z : H v with
  | none => exact Nat.zero_le _
  | some o =>
    match o, z with
    | .inl M, z => exact Nat.zero_le _
    | .inr (.inl q), z => exact (h.2 v _ z).2.2.2.2.1
    | .inr (.inr _), z => exact Nat.zero_le _
theorem xMax_le {n : Int} (h : xHOk nc K H n) : ∀ l : List Int, xMax H l ≤ 4
  | [] => Nat.zero_le _
  | v :: l => Nat.max_le.mpr ⟨xDep_le h v, xMax_le h l⟩
end XMO
