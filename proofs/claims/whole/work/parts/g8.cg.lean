/-! the class reads: what holds while it reads -/
/-- new addresses lie at k or above -/
def aX (k : Nat) (α α' : Int → Nat) : Prop := ∀ v, α' v = α v ∨ (α v = 0 ∧ k ≤ α' v)
theorem aX.refl {k : Nat} {α : Int → Nat} : aX k α α := fun _ => Or.inl rfl
theorem aX.le {k : Nat} {α α' : Int → Nat} (h : aX k α α') : aLe α α' := fun v _ h0 => (h v).elim id (fun z => absurd z.1 h0)
theorem aX.low {j k : Nat} {α α' : Int → Nat} (h : aX k α α') (hj : j ≤ k) : aX j α α' := fun v => (h v).imp id (fun z => ⟨z.1, Nat.le_trans hj z.2⟩)
theorem aX.trans {j k : Nat} {α β δ : Int → Nat} (h : aX k α β) (g : aX j β δ) (hj : k ≤ j) : aX k α δ := fun v => by
  rcases h v with z | z
  · rcases g v with y | y
    · exact Or.inl (y.trans z)
    · exact Or.inr ⟨by rw [← z]; exact y.1, by omega⟩
  · rcases g v with y | y
    · exact Or.inr ⟨z.1, by rw [y]; exact z.2⟩
    · exact Or.inr ⟨z.1, by omega⟩
/-- one more address -/
def aU (α : Int → Nat) (n : Int) (a : Nat) (v : Int) : Nat := if v = n then a else α v
theorem aU_X {α : Int → Nat} {n : Int} {a k : Nat} (h0 : α n = 0) (hk : k ≤ a) : aX k α (aU α n a) := fun v => by
  unfold aU
  by_cases c : v = n
  · rw [if_pos c]; exact Or.inr ⟨by rw [c]; exact h0, hk⟩
  · rw [if_neg c]; exact Or.inl rfl
/-- the list of n codes, at A -/
def oLs (S : ox_St) (a n : Nat) (A : Nat → Nat) : Prop := S.K a = 1 ∧ S.I 2 a = nI n ∧ n ≤ 100 ∧ ((n = 0 ∧ S.R 1 a = S.R 142 0 ∧ S.R 142 0 < S.n ∧ S.K (S.R 142 0) = 23 ∧ S.len (S.R 142 0) = 0) ∨ (S.K (S.R 1 a) = 20 ∧ S.R 1 a < S.n ∧ n ≤ S.len (S.R 1 a) ∧ (10 ≤ S.len (S.R 1 a) ∧ S.len (S.R 1 a) ≤ 1000) ∧ ∀ j, j < n → S.rR (S.R 1 a) j = A j))
/-- a code that is there -/
def cDn (nc : Nat) (h : pH) (c : Nat) : Prop := c < nc ∨ c ∈ h.l
/-- objects, codes and their addresses; rows of O are being made -/
def cGh (x nc K : Nat) (O : Nat → Prop) (S : ox_St) (α : Int → Nat) (h : pH) : Prop := (∀ v o, h.H v = some o → cO S x α h.C v o) ∧ (∀ c, cDn nc h c → cCd S x α h.C c) ∧ (∀ u v, α u ≠ 0 → α u = α v → u = v) ∧ (∀ v, α v ≠ 0 → α v < S.n ∧ ((∃ c : Nat, v = -1 - (c : Int) ∧ cDn nc h c) ∨ h.H v ≠ none)) ∧ (∀ v (c : Nat), h.H v = some (.inr (.inr (.inr (.inr c)))) → c < nc) ∧ xHOk h.c K h.H h.n ∧ (∀ v q, h.H v = some (.inr (.inl q)) → ¬ O (S.R 56 (α v))) ∧ ∀ c, cDn nc h c → ¬ O (S.R 11 (α (-1 - (c : Int))))
/-- the list and the counts; op codes are open -/
def cGl2 (x nc op : Nat) (S : ox_St) (p : Nat) (α : Int → Nat) (h : pH) : Prop := oLs S (x + 2) h.l.length (fun j => α (-1 - ((h.l.getD j 0 : Nat) : Int))) ∧ (∀ c ∈ h.l, c < h.c) ∧ nc ≤ h.c ∧ h.l.length + nc + op ≤ h.c ∧ 9 * h.c ≤ 9 * nc + 9 * op + p
def cG (x : Nat) (b : Nat → Nat) (e nc K op : Nat) (O : Nat → Prop) (S : ox_St) (s : oTS) (α : Int → Nat) (h : pH) : Prop := tpS S x b e s ∧ cBs S x ∧ cGh x nc K O S α h ∧ cGl2 x nc op S s.1 α h
section CG
variable {x e nc K op : Nat} {b : Nat → Nat} {O : Nat → Prop} {S S' : ox_St} {s s' : oTS} {α α' : Int → Nat} {h : pH}
theorem oLs.pr {n : Nat} {A : Nat → Nat} (g : oLs S (x + 2) n A) (f : prF x S S') (hB : cBs S x) : oLs S' (x + 2) n A := by
  obtain ⟨h1, h2, h3, h4⟩ := g
  obtain ⟨s1, s2, s3⟩ := f.s
  have hn : x + 119 ≤ S.n := hB.2.2.2.1
  have h0 : 0 < x := hB.2.1
  have e0 := f.v.at (a := 0) (by omega) (by omega) (by omega) (by rw [hB.2.2.1]; decide)
  refine ⟨(f.2.1 _ (by omega)).1.trans h1, s1.trans h2, h3, ?_⟩
  rcases h4 with ⟨z1, z2, z3, z4, z5⟩ | ⟨z1, z2, z3, z4, z5⟩
  · left
    rw [s2, e0.2.2.2.1 142]
    exact ⟨z1, z2, Nat.lt_of_lt_of_le z3 f.1, (f.2.1 _ z3).1.trans z4, (f.2.1 _ z3).2.trans z5⟩
  · right
    rw [s2, (f.2.1 _ z2).1, (f.2.1 _ z2).2]
    exact ⟨z1, Nat.lt_of_lt_of_le z2 f.1, z3, z4, fun j hj => (s3 _ z2 j).trans (z5 j hj)⟩
def oLx (S : ox_St) (x : Nat) : Prop := ∃ n A, oLs S (x + 2) n A
theorem oLx.pr (g : oLx S x) (f : prF x S S') (hB : cBs S x) : oLx S' x := ⟨g.choose, g.choose_spec.choose, g.choose_spec.choose_spec.pr f hB⟩
theorem oLs.wR {n t i a : Nat} {A : Nat → Nat} (g : oLs S (x + 2) n A) (kt : S.K t = 19) : oLs (S.wR t i a) (x + 2) n A := by
  obtain ⟨l1, l2, l3, l4⟩ := g
  refine ⟨l1, l2, l3, ?_⟩
  rcases l4 with z | ⟨z1, z2, z3, z4, z5⟩
  · exact Or.inl z
  · refine Or.inr ⟨z1, z2, z3, z4, fun j hj => ?_⟩
    show (S.wR t i a).rR (S.R 1 (x + 2)) j = _
    rw [or_wR_rR, if_neg (fun z => by rw [z.1, kt] at z1; exact absurd z1 (by decide))]
    exact z5 j hj
theorem oLx.wR {t i a : Nat} (g : oLx S x) (kt : S.K t = 19) : oLx (S.wR t i a) x := ⟨g.choose, g.choose_spec.choose, g.choose_spec.choose_spec.wR kt⟩
theorem oLs.off {n z : Nat} {A : Nat → Nat} (g : oLs S (x + 2) n A) (ag : oAg (fun a => a ≠ z) S S') (nn : S'.n = S.n) (kz : S'.K z = S.K z) (lz : S'.len z = S.len z) (k10 : S.K z = 10) (hz : x + 119 ≤ z) : oLs S' (x + 2) n A := by
  have kl : ∀ a, S'.K a = S.K a ∧ S'.len a = S.len a := fun a => by
    by_cases w : a = z
    · rw [w]; exact ⟨kz, lz⟩
    · exact ⟨(ag a w).1, (ag a w).2.1⟩
  obtain ⟨m1, m2, m3, m4⟩ := g
  obtain ⟨-, -, p3, p4, -⟩ := ag (x + 2) (by omega)
  refine ⟨(kl _).1.trans m1, (p3 _).trans m2, m3, ?_⟩
  rw [p4 1, (ag 0 (by omega)).2.2.2.1 142]
  rcases m4 with ⟨z1, z2, z3, z4, z5⟩ | ⟨z1, z2, z3, z4, z5⟩
  · exact Or.inl ⟨z1, z2, by omega, (kl _).1.trans z4, (kl _).2.trans z5⟩
  · refine Or.inr ⟨(kl _).1.trans z1, by omega, by rw [(kl _).2]; exact z3, by rw [(kl _).2]; exact z4, fun j hj => ?_⟩
    rw [(ag (S.R 1 (x + 2)) (fun w => by rw [w, k10] at z1; exact absurd z1 (by decide))).2.2.2.2.2.2.1 j]
    exact z5 j hj
theorem oLx.off {z : Nat} (g : oLx S x) (ag : oAg (fun a => a ≠ z) S S') (nn : S'.n = S.n) (kz : S'.K z = S.K z) (lz : S'.len z = S.len z) (k10 : S.K z = 10) (hz : x + 119 ≤ z) : oLx S' x := ⟨g.choose, g.choose_spec.choose, g.choose_spec.choose_spec.off ag nn kz lz k10 hz⟩
/-- the objects stay, more addresses may be known -/
theorem cGh.pv (g : cGh x nc K O S α h) (f : prV x S S') : cGh x nc K O S' α h := by
  obtain ⟨g1, g2, g3, g4, g5, g6, g7, g8⟩ := g
  have hn := f.1
  refine ⟨fun v o e => (g1 v o e).pr f rfl (fun _ _ _ _ => rfl) (fun _ _ => ⟨rfl, rfl⟩), fun c hc => (g2 c hc).pr f rfl rfl (fun _ _ _ _ => rfl), g3, fun v hv => ⟨Nat.lt_of_lt_of_le (g4 v hv).1 hn, (g4 v hv).2⟩, g5, g6, fun v q e => ?_, fun c hc => ?_⟩
  · obtain ⟨k1, k2, t, k3, -⟩ := g1 v _ e
    rw [(f.at k2 (by omega) (by omega) (by rw [k3.1]; decide)).2.2.2.1 56]
    exact g7 v q e
  · obtain ⟨k1, k2, k3, -⟩ := g2 c hc
    rw [(f.at k2 (by omega) (by omega) (by rw [k3.1]; decide)).2.2.2.1 11]
    exact g8 c hc
theorem cGh.sub (g : cGh x nc K O S α h) {O' : Nat → Prop} (hO : ∀ t, O' t → O t) : cGh x nc K O' S α h := ⟨g.1, g.2.1, g.2.2.1, g.2.2.2.1, g.2.2.2.2.1, g.2.2.2.2.2.1, fun v q e z => g.2.2.2.2.2.2.1 v q e (hO _ z), fun c hc z => g.2.2.2.2.2.2.2 c hc (hO _ z)⟩
/-- a new row -/
theorem cGh.add (g : cGh x nc K O S α h) {t : Nat} (ht : S.n ≤ t) : cGh x nc K (fun u => O u ∨ u = t) S α h := by
  obtain ⟨g1, g2, g3, g4, g5, g6, g7, g8⟩ := g
  refine ⟨g1, g2, g3, g4, g5, g6, fun v q e z => ?_, fun c hc z => ?_⟩
  · rcases z with z | z
    · exact g7 v q e z
    · obtain ⟨k1, k2, u, k3, -, -, k4, -⟩ := g1 v _ e
      have := k4.1
      rw [k3.2.1] at z
      omega
  · rcases z with z | z
    · exact g8 c hc z
    · obtain ⟨k1, k2, k3, -, ⟨-, r2, -⟩, -⟩ := g2 c hc
      have := r2.1
      omega
theorem cG.mv (g : cG x b e nc K op O S s α h) (f : prF x S S') (t : tpS S' x b e s') (hs : s.1 ≤ s'.1) : cG x b e nc K op O S' s' α h := by
  obtain ⟨g1, g2, g3, g4, g5, g6, g7, g8⟩ := g
  exact ⟨t, g2.pr f.v, g3.pv f.v, g4.pr f g2, g5, g6, g7, by omega⟩
/-- a row is written that is being made -/
theorem cG.wR (g : cG x b e nc K op O S s α h) {t i a : Nat} (hO : O t) (ht : x + 119 ≤ t) (kt : S.K t = 19) : cG x b e nc K op O (S.wR t i a) s α h := by
  obtain ⟨t1, ⟨b1, b2, b3, b4, b5⟩, ⟨g1, g2, g3, g4, g5, g6, g7, g8⟩, l1, l5⟩ := g
  have rw' : ∀ u j, u ≠ t → (S.wR t i a).rR u j = S.rR u j := fun u j hu => by rw [or_wR_rR, if_neg (fun z => hu z.1)]
  have cl : oCL (S.wR t i a) x := b1.next (fun _ _ _ => ⟨rfl, rfl⟩) (fun _ _ _ _ _ _ _ _ _ => rfl) (fun _ _ _ _ _ => rfl) (funext fun j => rw' _ j (by omega)) (funext fun j => rw' _ j (by omega)) rfl
  have vk : ∀ {v : Int} {q : Nat}, vC S x α v q → vC (S.wR t i a) x α v q := fun h => h
  refine ⟨⟨cl, t1.2⟩, ⟨cl, b2, b3, b4, b5⟩, ⟨fun v o e => ?_, fun c hc => ?_, g3, g4, g5, g6, g7, g8⟩, l1.wR kt, l5⟩
  · obtain ⟨k1, k2, k3⟩ := g1 v o e
    refine ⟨k1, k2, ?_⟩
    match o, k3, e with
    | .inl N, k3, _ => exact k3
    | .inr (.inl q), ⟨u, u1, u2, u3, u4, u5⟩, e =>
      have ne : u ≠ t := fun z => g7 v q e (by rw [u1.2.1, z]; exact hO)
      exact ⟨u, u1, u2, u3, u4, fun j hj => by rw [rw' u j ne]; exact vk (u5 j hj)⟩
    | .inr (.inr (.inl q)), k3, _ => exact k3
    | .inr (.inr (.inr (.inl q))), k3, _ => exact k3
    | .inr (.inr (.inr (.inr c))), k3, _ => exact k3
  · obtain ⟨k1, k2, k3, k4, k5, k6, k7⟩ := g2 c hc
    have ne : S.R 11 (α (-1 - (c : Int))) ≠ t := fun z => g8 c hc (by rw [z]; exact hO)
    exact ⟨k1, k2, k3, k4, k5, fun j hj => by
      show vC (S.wR t i a) x α _ ((S.wR t i a).rR (S.R 11 (α (-1 - (c : Int)))) j)
      rw [rw' _ j ne]; exact vk (k6 j hj), k7⟩
theorem cG.fr (g : cG x b e nc K op O S s α h) {a : Nat} (ha : S.n ≤ a) : ∀ v, α v ≠ a := fun v z => by
  have hn : x + 119 ≤ S.n := g.2.1.2.2.2.1
  have := (g.2.2.1.2.2.2.1 v (by omega)).1
  omega
theorem cG.n0 (g : cG x b e nc K op O S s α h) : α h.n = 0 := by
  have hk := g.2.2.1.2.2.2.2.2.1
  have h16 := hk.1
  refine Classical.byContradiction fun z => ?_
  rcases (g.2.2.1.2.2.2.1 _ z).2 with ⟨c, y, -⟩ | y
  · omega
  · cases e : h.H h.n with
    | none => exact y e
    | some o => have := (hk.2 _ o e).2.1; omega
/-- a new object -/
theorem cG.nw (g : cG x b e nc K op O S s α h) {o : xOb} {a : Nat} (ha : x + 119 ≤ a) (ha' : a < S.n) (hfr : ∀ v, α v ≠ a) (ho : cO S x (aU α h.n a) h.C h.n o) (hok : xObOk h.c K h.H o) (hnf : ∀ c : Nat, o ≠ .inr (.inr (.inr (.inr c)))) (hrow : ∀ q, o = .inr (.inl q) → ¬ O (S.R 56 a)) : cG x b e nc K op O S s (aU α h.n a) (h.nw o) ∧ vC S x (aU α h.n a) h.n a := by
  have n0 := g.n0
  obtain ⟨t1, b1, ⟨g1, g2, g3, g4, g5, g6, g7, g8⟩, l1, l2, l3, l4, l5⟩ := g
  have h16 := g6.1
  have new : ∀ v o', h.H v = some o' → v < h.n := fun v o' e => (g6.2 v o' e).2.1
  have un : aU α h.n a h.n = a := if_pos rfl
  have uo : ∀ v, v ≠ h.n → aU α h.n a v = α v := fun v hv => if_neg hv
  have uc : ∀ c : Nat, aU α h.n a (-1 - (c : Int)) = α (-1 - (c : Int)) := fun c => uo _ (by omega)
  have le : ∀ u, (u < 0 ∨ 11 ≤ u) → α u ≠ 0 → aU α h.n a u = α u := fun u _ hu => uo u (fun z => hu (by rw [z]; exact n0))
  have Hn : ∀ v o', (h.nw o).H v = some o' → (v = h.n ∧ o' = o) ∨ (v ≠ h.n ∧ h.H v = some o') := fun v o' e => by
    have e' : (if v = h.n then some o else h.H v) = some o' := e
    by_cases c : v = h.n
    · rw [if_pos c] at e'; exact Or.inl ⟨c, (Option.some.inj e').symm⟩
    · rw [if_neg c] at e'; exact Or.inr ⟨c, e'⟩
  have sg : ∀ v o', h.H v = some o' → (h.nw o).H v = some o' := fun v o' e => by
    show (if v = h.n then some o else h.H v) = some o'
    rw [if_neg (by have := new v o' e; omega)]; exact e
  refine ⟨⟨t1, b1, ⟨fun v o' e => ?_, fun c hc => (g2 c hc).pr (prF.refl).v (uc c) rfl (fun u _ => le u), fun u v hu e => ?_, fun v hv => ?_, fun v c e => ?_, xNew_ok g6 hok, fun v q e => ?_, fun c hc => ?_⟩, ?_, l2, l3, l4, l5⟩, by omega, ha', Or.inr (Or.inr ha), Or.inr (Or.inr (Or.inr (Or.inr ⟨by omega, un.symm⟩)))⟩
  · rcases Hn v o' e with ⟨y1, y2⟩ | ⟨y1, y2⟩
    · rw [y1, y2]; exact ho
    · exact (g1 v o' y2).pr (prF.refl).v (uo v y1) (fun u _ => le u) (fun c _ => ⟨uc c, rfl⟩)
  · by_cases c1 : u = h.n
    · by_cases c2 : v = h.n
      · rw [c1, c2]
      · rw [c1, un, uo v c2] at e; exact absurd e.symm (hfr v)
    · by_cases c2 : v = h.n
      · rw [c2, un, uo u c1] at e; exact absurd e (hfr u)
      · rw [uo u c1] at e hu; rw [uo v c2] at e; exact g3 u v hu e
  · by_cases c1 : v = h.n
    · rw [c1, un]; refine ⟨ha', Or.inr ?_⟩
      show (if h.n = h.n then some o else h.H h.n) ≠ none
      rw [if_pos rfl]; exact fun z => by cases z
    · rw [uo v c1] at hv ⊢
      obtain ⟨k1, k2⟩ := g4 v hv
      refine ⟨k1, k2.imp id (fun z => ?_)⟩
      cases e : h.H v with
      | none => exact absurd e z
      | some o' => rw [sg v o' e]; exact fun z => by cases z
  · rcases Hn v _ e with ⟨_, y2⟩ | ⟨_, y2⟩
    · exact absurd y2.symm (hnf c)
    · exact g5 v c y2
  · rcases Hn v _ e with ⟨y1, y2⟩ | ⟨y1, y2⟩
    · rw [y1, un]; exact hrow q y2.symm
    · rw [uo v y1]; exact g7 v q y2
  · rw [uc c]; exact g8 c hc
  · obtain ⟨m1, m2, m3, m4⟩ := l1
    have eA : (fun j => aU α h.n a (-1 - (((h.nw o).l.getD j 0 : Nat) : Int))) = fun j => α (-1 - ((h.l.getD j 0 : Nat) : Int)) := funext fun j => uc _
    rw [eA]
    exact ⟨m1, m2, m3, m4⟩
end CG
