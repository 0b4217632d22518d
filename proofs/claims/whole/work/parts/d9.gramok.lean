/-! reading: what the grammar gives -/
section GO
variable {b : Nat → Nat} {e K : Nat}
/-- a head's end -/
theorem hdS_at {s : oTS} (h : (hdS b e s).2 = none) (hb : ∀ i, i < e → b i < 256) : s.2 = none ∧ hdS b e s = (s.1 + 5 + inL b e (s.1 + 3, none), none) ∧ s.1 + 5 + inL b e (s.1 + 3, none) ≤ e ∧ inL b e (s.1 + 3, none) = b (s.1 + 3) ∧ (2 ≤ b (s.1 + 3) ∧ b (s.1 + 3) ≤ 160 ∧ b (s.1 + 3) % 2 = 0) ∧ (b s.1 ≤ 4 ∧ b s.1 ≤ b (s.1 + 1) ∧ b (s.1 + 1) ≤ 8 ∧ 1 ≤ b (s.1 + 2) ∧ b (s.1 + 2) ≤ 10) := by
  obtain ⟨h1, h2, h3⟩ := hdS_none h
  obtain ⟨-, k2, -, k4, k5, k6, k7, k8, -⟩ := hd3_none h1
  have h' : (inS b e (s.1 + 3, none)).2 = none := by rw [← h3]; exact h
  obtain ⟨i1, -, i3, i4⟩ := bwN_none _ h'
  obtain ⟨j1, j2, j3, -⟩ := bwS_none i1
  obtain ⟨-, l2, l3, l4, -⟩ := inB_none j1
  have eL : inL b e (s.1 + 3, none) = b (s.1 + 3) := if_pos j1
  have e1 : (bwS b e 0 0 (inB b e (s.1 + 3, none))).1 = s.1 + 5 := by rw [j3, l4]
  have e2 : hdS b e s = (s.1 + 5 + inL b e (s.1 + 3, none), none) := by
    show inS b e (hd3 b e s) = _
    rw [h3]
    show bwN b e (bwS b e 0 0 (inB b e (s.1 + 3, none))) (inL b e (s.1 + 3, none)) = _
    rw [i4, e1]
  rw [e1] at i3
  refine ⟨h2, e2, ?_, eL, l3, k4, k5, k6, k7, k8⟩
  rcases i3 with z | z
  · have l31 : 2 ≤ b (s.1 + 3) := l3.1
    rw [eL] at z
    have z' : b (s.1 + 3) = 0 := z
    omega
  · exact z
theorem hdK_ok {s : oTS} (h : (hdS b e s).2 = none) (hb : ∀ i, i < e → b i < 256) {kc kw : Nat} (h1 : kc ≤ 12) (h2 : kw ≤ 12) : cdO (hdK b e s.1 kc kw) := by
  obtain ⟨-, -, a3, a4, a5, a6, a7, a8, a9, a10⟩ := hdS_at h hb
  refine ⟨a6, a7, a8, ⟨a9, a10⟩, ⟨?_, ?_, ?_⟩, fun p hp => ?_, fun p hp => if_neg (Nat.not_lt.mpr hp), h1, h2⟩
  · show 2 ≤ inL b e (s.1 + 3, none); omega
  · show inL b e (s.1 + 3, none) ≤ 160; omega
  · show inL b e (s.1 + 3, none) % 2 = 0; rw [a4]; exact a5.2.2
  · have hp' : p < inL b e (s.1 + 3, none) := hp
    show (if p < inL b e (s.1 + 3, none) then b (s.1 + 5 + p) else 0) < 256
    rw [if_pos hp']
    exact hb _ (by omega)
theorem nmT_len {s : oTS} : ∀ k, (nmT b e s k).length = k
  | 0 => rfl
  | k + 1 => by
    show (nmT b e s k ++ [_]).length = k + 1
    rw [List.length_append, nmT_len k]
    rfl
theorem nmT_at {s : oTS} : ∀ k j, j < k → (nmT b e s k).getD j 0 = nmV b ((nmN b e s j).1 + 1) (nmL b e (nmN b e s j))
  | 0, j, hj => absurd hj (Nat.not_lt_zero _)
  | k + 1, j, hj => by
    show (nmT b e s k ++ [nmV b ((nmN b e s k).1 + 1) (nmL b e (nmN b e s k))]).getD j 0 = _
    rw [List.getD_eq_getElem?_getD, List.getElem?_append, nmT_len]
    by_cases z : j < k
    · rw [if_pos z, ← List.getD_eq_getElem?_getD]; exact nmT_at k j z
    · have : j = k := by omega
      rw [if_neg z, this, Nat.sub_self]; rfl
theorem bwZ_le {s : oTS} : ∀ k, (bwZ b e s k).2 = none → ∀ i, i < k → b (s.1 + i) ≤ 122
  | 0, _, i, hi => absurd hi (Nat.not_lt_zero _)
  | k + 1, h, i, hi => by
    obtain ⟨g1, g2, -, -⟩ := bwS_none (s := bwZ b e s k) h
    obtain ⟨-, -, g4⟩ := bwZ_none k g1
    rw [g4] at g2
    by_cases z : i = k
    · rw [z]; exact g2.2.2
    · exact bwZ_le k g1 i (by omega)
theorem nm1_le {s : oTS} (h : s.1 ≤ e) : (nm1 b e s).1 ≤ e := by
  have key : ∀ (k : Nat) (u : oTS), u.1 ≤ e → (bwZ b e u k).1 ≤ e := by
    intro k
    induction k with
    | zero => exact fun u hu => hu
    | succ k ih => exact fun u hu => bwS_le (ih u hu)
  exact key _ _ (bwS_le h)
theorem nmN_le {s : oTS} (h : s.1 ≤ e) : ∀ k, (nmN b e s k).1 ≤ e
  | 0 => h
  | k + 1 => nm1_le (nmN_le h k)
theorem nmV_123 {q : Nat} : ∀ k, (∀ i, i < k + 1 → b (q + i) ≤ 122) → nmV b q (k + 1) + 1 ≤ 123 * 256 ^ k
  | 0, h => by
    have := h 0 (by omega)
    show 0 * 256 + b (q + 0) + 1 ≤ 123 * 256 ^ 0
    rw [Nat.pow_zero]
    omega
  | k + 1, h => by
    have h1 := nmV_123 k (fun i hi => h i (by omega))
    have h2 := h (k + 1) (by omega)
    show nmV b q (k + 1) * 256 + b (q + (k + 1)) + 1 ≤ 123 * 256 ^ (k + 1)
    rw [Nat.pow_succ]
    omega
theorem nmV_63 {q k : Nat} (hk : k ≤ 8) (h : ∀ i, i < k → b (q + i) ≤ 122) : nmV b q k < 2 ^ 63 := by
  cases k with
  | zero => show 0 < 2 ^ 63; decide
  | succ k =>
    have h1 := nmV_123 k h
    have h2 : 256 ^ k ≤ 256 ^ 7 := Nat.pow_le_pow_right (by decide) (by omega)
    have h3 : 123 * 256 ^ 7 < 2 ^ 63 := by decide
    omega
theorem nmT_63 {s : oTS} : ∀ k, (nmN b e s k).2 = none → ∀ w ∈ nmT b e s k, w < 2 ^ 63
  | 0, _, w, hw => by cases hw
  | k + 1, h, w, hw => by
    have h' : (bwZ b e (bwS b e 1 8 (nmN b e s k)) (nmL b e (nmN b e s k))).2 = none := h
    obtain ⟨c1, -, -⟩ := bwZ_none _ h'
    obtain ⟨g1, g2, g3, -⟩ := bwS_none c1
    have le := bwZ_le _ h'
    rw [g3] at le
    rcases List.mem_append.mp hw with z | z
    · exact nmT_63 k g1 w z
    · have e1 := List.mem_singleton.mp z
      rw [e1]
      exact nmV_63 nmL_le le
/-- a code as reading leaves it -/
def pCd (κ : xCd) : Prop := cdO κ.1 ∧ κ.2.1.length = cdK κ.1 ∧ κ.2.2.length = cdW κ.1 ∧ ∀ w ∈ κ.2.2, w < 2 ^ 63
/-- reading went on from s, h to s', h' -/
def pOk (e K : Nat) (s : oTS) (h : pH) (s' : oTS) (h' : pH) : Prop := (s'.1 ≤ e ∧ s.1 ≤ s'.1) ∧ (h.c ≤ h'.c ∧ 9 * h'.c + s.1 ≤ 9 * h.c + s'.1) ∧ h.n ≤ h'.n ∧ xHOk h'.c K h'.H h'.n ∧ (∀ v o, h.H v = some o → h'.H v = some o) ∧ (∀ i, i < h.c → h'.C i = h.C i) ∧ ∃ ln, h'.l = h.l ++ ln ∧ (∀ i, h.c ≤ i → i < h'.c → i ∈ ln) ∧ ∀ i ∈ ln, h.c ≤ i ∧ i < h'.c ∧ pCd (h'.C i) ∧ ∀ v ∈ (h'.C i).2.1, xOk h'.c h'.H v
theorem xOk.nc {nc nc' : Nat} {H : xHp} {v : Int} (h : xOk nc H v) (hn : nc ≤ nc') : xOk nc' H v := h.imp (fun z => ⟨by omega, z.2⟩) id
theorem xHOk.nc {nc nc' : Nat} {H : xHp} {n : Int} (h : xHOk nc K H n) (hn : nc ≤ nc') : xHOk nc' K H n := ⟨h.1, fun v o e1 => by
  obtain ⟨h1, h2, h3⟩ := h.2 v o e1
  refine ⟨h1, h2, ?_⟩
  match o, h3 with
  | .inl N, h3 => exact h3
  | .inr (.inl q), ⟨a, c, d, f⟩ => exact ⟨a, c, d, fun u hu => (f u hu).nc hn⟩
  | .inr (.inr (.inl q)), h3 => exact h3
  | .inr (.inr (.inr (.inl q))), h3 => exact h3
  | .inr (.inr (.inr (.inr c))), h3 => exact Nat.lt_of_lt_of_le h3 hn⟩
theorem pOk.le {s s' : oTS} {h h' : pH} (g : pOk e K s h s' h') : xLe h.H h'.H := ⟨fun v o e1 => Or.inl (g.2.2.2.2.1 v o e1), fun v hv => g.2.2.2.1.low hv⟩
theorem pOk.val {s s' : oTS} {h h' : pH} (g : pOk e K s h s' h') {v : Int} (hv : xOk h.c h.H v) : xOk h'.c h'.H v := (g.le.ok hv).nc g.2.1.1
theorem pOk.dep {s s' : oTS} {h h' : pH} (g : pOk e K s h s' h') (hH : xHOk h.c K h.H h.n) {v : Int} (hv : xOk h.c h.H v) : xDep h'.H v = xDep h.H v := g.le.dep (fun _ hv => hH.low hv) hv
theorem pOk.trans {s s' s2 : oTS} {h h' h2 : pH} (g : pOk e K s h s' h') (k : pOk e K s' h' s2 h2) : pOk e K s h s2 h2 := by
  obtain ⟨ln, l1, l2, l3⟩ := g.2.2.2.2.2.2
  obtain ⟨ln', m1, m2, m3⟩ := k.2.2.2.2.2.2
  have c1 := g.2.1
  have c2 := k.2.1
  refine ⟨⟨k.1.1, by have := g.1; have := k.1; omega⟩, ⟨by omega, by omega⟩, by have := g.2.2.1; have := k.2.2.1; omega, k.2.2.2.1, fun v o e1 => k.2.2.2.2.1 v o (g.2.2.2.2.1 v o e1), fun i hi => (k.2.2.2.2.2.1 i (by omega)).trans (g.2.2.2.2.2.1 i hi), ln ++ ln', by rw [m1, l1, List.append_assoc], fun i z1 z2 => ?_, fun i hi => ?_⟩
  · by_cases z : i < h'.c
    · exact List.mem_append_left _ (l2 i z1 z)
    · exact List.mem_append_right _ (m2 i (by omega) z2)
  · rcases List.mem_append.mp hi with z | z
    · obtain ⟨a1, a2, a3, a4⟩ := l3 i z
      rw [k.2.2.2.2.2.1 i a2]
      exact ⟨a1, by omega, a3, fun v hv => k.val (a4 v hv)⟩
    · obtain ⟨a1, a2, a3, a4⟩ := m3 i z
      exact ⟨by omega, a2, a3, a4⟩
theorem pOk_go {s : oTS} {h : pH} {p : Nat} (hH : xHOk h.c K h.H h.n) (h1 : s.1 ≤ p) (h2 : p ≤ e) : pOk e K s h (p, none) h := ⟨⟨h2, h1⟩, ⟨Nat.le_refl _, by show 9 * h.c + s.1 ≤ 9 * h.c + p; omega⟩, Int.le_refl _, hH, fun _ _ z => z, fun _ _ => rfl, [], (List.append_nil _).symm, fun i z1 z2 => absurd z1 (by omega), fun i hi => (by cases hi)⟩
/-- a new object -/
theorem pOk_nw {s s' : oTS} {h : pH} {o : xOb} (hH : xHOk h.c K h.H h.n) (ho : xObOk h.c K h.H o) (h1 : s.1 ≤ s'.1) (h2 : s'.1 ≤ e) : pOk e K s h s' (h.nw o) ∧ xOk (h.nw o).c (h.nw o).H h.n ∧ (h.nw o).H h.n = some o := by
  have self : (h.nw o).H h.n = some o := xNew_self
  refine ⟨⟨⟨h2, h1⟩, ⟨Nat.le_refl _, by show 9 * h.c + s.1 ≤ 9 * h.c + s'.1; omega⟩, by show h.n ≤ h.n + 1; omega, xNew_ok hH ho, fun v o' e1 => ?_, fun _ _ => rfl, [], (List.append_nil _).symm, fun i z1 z2 => absurd z1 (by have : i < h.c := z2; omega), fun i hi => (by cases hi)⟩, Or.inr (by rw [self]; exact fun z => by cases z), self⟩
  have := (hH.2 v o' e1).2.1
  show (if v = h.n then some o else h.H v) = some o'
  rw [if_neg (by omega)]
  exact e1
/-- a reader that gives what may stand, of at most k levels -/
def rdG (e K k : Nat) (f : oTS → pH → pR Int) : Prop := ∀ s h, s.2 = none → s.1 ≤ e → xHOk h.c K h.H h.n → (f s h).1.2 = none → pOk e K s h (f s h).1 (f s h).2.1 ∧ s.1 + 1 ≤ (f s h).1.1 ∧ xOk (f s h).2.1.c (f s h).2.1.H (f s h).2.2 ∧ xDep (f s h).2.1.H (f s h).2.2 ≤ k
theorem rdL_G {k : Nat} {f : oTS → pH → pR Int} (hf : rdG e K k f) : ∀ c s h, s.2 = none → s.1 ≤ e → xHOk h.c K h.H h.n → (rdL f c s h).1.2 = none → pOk e K s h (rdL f c s h).1 (rdL f c s h).2.1 ∧ s.1 + c ≤ (rdL f c s h).1.1 ∧ (rdL f c s h).2.2.length = c ∧ ∀ v ∈ (rdL f c s h).2.2, xOk (rdL f c s h).2.1.c (rdL f c s h).2.1.H v ∧ xDep (rdL f c s h).2.1.H v ≤ k
  | 0, s, h, h1, h2, hH, _ => by
    have := pOk_go (e := e) (s := s) (h := h) hH (Nat.le_refl _) h2
    rw [show (s.1, none) = s from by rw [← h1]] at this
    exact ⟨this, Nat.le_refl _, rfl, fun v hv => (by cases hv)⟩
  | c + 1, s, h, h1, h2, hH, hn => by
    by_cases z : (f s h).1.2 = none
    · have er : rdL f (c + 1) s h = ((rdL f c (f s h).1 (f s h).2.1).1, (rdL f c (f s h).1 (f s h).2.1).2.1, (f s h).2.2 :: (rdL f c (f s h).1 (f s h).2.1).2.2) := if_pos z
      rw [er] at hn ⊢
      obtain ⟨a1, a2, a3, a4⟩ := hf s h h1 h2 hH z
      obtain ⟨b1, b2, b3, b4⟩ := rdL_G hf c (f s h).1 (f s h).2.1 z a1.1.1 a1.2.2.2.1 hn
      refine ⟨a1.trans b1, by show s.1 + (c + 1) ≤ (rdL f c (f s h).1 (f s h).2.1).1.1; omega, by show (rdL f c (f s h).1 (f s h).2.1).2.2.length + 1 = c + 1; rw [b3], fun v hv => ?_⟩
      rcases List.mem_cons.mp hv with y | y
      · rw [y]; exact ⟨b1.val a3, by rw [b1.dep a1.2.2.2.1 a3]; exact a4⟩
      · exact b4 v y
    · have er : rdL f (c + 1) s h = ((f s h).1, (f s h).2.1, []) := if_neg z
      rw [er] at hn
      exact absurd hn z
theorem rdC_G {k : Nat} {f : oTS → pH → pR Int} (hb : ∀ i, i < e → b i < 256) (hf : rdG e K k f) (s : oTS) (h : pH) (h1 : s.2 = none) (h2 : s.1 ≤ e) (hH : xHOk h.c K h.H h.n) (hn : (rdC b e f s h).1.2 = none) : pOk e K s h (rdC b e f s h).1 (rdC b e f s h).2.1 ∧ s.1 + 9 ≤ (rdC b e f s h).1.1 ∧ xOk (rdC b e f s h).2.1.c (rdC b e f s h).2.1.H (rdC b e f s h).2.2 ∧ xDep (rdC b e f s h).2.1.H (rdC b e f s h).2.2 = 0 ∧ (rdC b e f s h).2.2 = -1 - (h.c : Int) := by
  by_cases z1 : (bwS b e 0 12 (hdS b e s)).2 = none
  · have er : rdC b e f s h = rdC2 b e s.1 h.c (rdL f (b (hdS b e s).1) (bwS b e 0 12 (hdS b e s)) h.bg) := if_pos z1
    rw [er] at hn ⊢
    obtain ⟨g1, g2, g3, -⟩ := bwS_none z1
    obtain ⟨-, k2, k3, k4, k5, -⟩ := hdS_at g1 hb
    have e1 : (hdS b e s).1 = s.1 + 5 + inL b e (s.1 + 3, none) := by rw [k2]
    rw [g3] at hn ⊢
    have hHb : xHOk h.bg.c K h.bg.H h.bg.n := hH.nc (Nat.le_succ _)
    by_cases z2 : (rdL f (b (hdS b e s).1) ((hdS b e s).1 + 1, none) h.bg).1.2 = none
    · obtain ⟨a1, a2, a3, a4⟩ := rdL_G hf (b (hdS b e s).1) ((hdS b e s).1 + 1, none) h.bg rfl g2.1 hHb z2
      generalize hq : rdL f (b (hdS b e s).1) ((hdS b e s).1 + 1, none) h.bg = q at hn z2 a1 a2 a3 a4 ⊢
      have er2 : rdC2 b e s.1 h.c q = (nmS b e q.1, q.2.1.fin h.c (cdAt b e s.1 q.2.2 q.1.1), -1 - (h.c : Int)) := if_pos z2
      rw [er2] at hn ⊢
      have hn' : (nmN b e (bwS b e 0 12 q.1) (nmC b e q.1)).2 = none := hn
      obtain ⟨n1, n2⟩ := nmN_none _ hn'
      obtain ⟨-, m2, m3, -⟩ := bwS_none n1
      have eC : nmC b e q.1 = b q.1.1 := if_pos n1
      rw [m3] at hn' n2
      rw [eC] at hn' n2
      have n2' : q.1.1 + 1 + b q.1.1 ≤ (nmN b e (q.1.1 + 1, none) (b q.1.1)).1 := n2
      have eS : nmS b e q.1 = nmN b e (q.1.1 + 1, none) (b q.1.1) := by
        show nmN b e (bwS b e 0 12 q.1) (nmC b e q.1) = _
        rw [m3, eC]
      have le := nmN_le (b := b) (e := e) (s := (q.1.1 + 1, none)) (by show q.1.1 + 1 ≤ e; exact m2.1) (b q.1.1)
      have q2 : (hdS b e s).1 + 1 + b (hdS b e s).1 ≤ q.1.1 := a2
      have cc : h.c + 1 ≤ q.2.1.c := a1.2.1.1
      have c9 : 9 * q.2.1.c + ((hdS b e s).1 + 1) ≤ 9 * (h.c + 1) + q.1.1 := a1.2.1.2
      have pc : pCd (cdAt b e s.1 q.2.2 q.1.1) := ⟨hdK_ok g1 hb (by rw [a3]; exact g2.2.2) m2.2.2, rfl, nmT_len _, nmT_63 _ hn'⟩
      have f1 : (q.2.1.fin h.c (cdAt b e s.1 q.2.2 q.1.1)).C h.c = cdAt b e s.1 q.2.2 q.1.1 := if_pos rfl
      have f2 : ∀ i, i ≠ h.c → (q.2.1.fin h.c (cdAt b e s.1 q.2.2 q.1.1)).C i = q.2.1.C i := fun i hi => if_neg hi
      obtain ⟨ln, l1, l2, l3⟩ := a1.2.2.2.2.2.2
      have val0 : xOk q.2.1.c q.2.1.H (-1 - (h.c : Int)) := Or.inl ⟨by omega, by omega⟩
      refine ⟨⟨⟨by rw [eS]; exact le, ?_⟩, ⟨?_, ?_⟩, a1.2.2.1, a1.2.2.2.1, a1.2.2.2.2.1, fun i hi => (f2 i (by omega)).trans (a1.2.2.2.2.2.1 i (by show i < h.c + 1; omega)), ln ++ [h.c], ?_, fun i z1 z2 => ?_, fun i hi => ?_⟩, ?_, val0, ?_, rfl⟩
      · rw [eS]; show s.1 ≤ (nmN b e (q.1.1 + 1, none) (b q.1.1)).1; omega
      · show h.c ≤ q.2.1.c; omega
      · rw [eS]; show 9 * q.2.1.c + s.1 ≤ 9 * h.c + (nmN b e (q.1.1 + 1, none) (b q.1.1)).1; omega
      · show q.2.1.l ++ [h.c] = h.l ++ (ln ++ [h.c])
        rw [l1, List.append_assoc]
        rfl
      · by_cases y : i = h.c
        · rw [y]; exact List.mem_append_right _ List.mem_cons_self
        · exact List.mem_append_left _ (l2 i (by show h.c + 1 ≤ i; omega) z2)
      · rcases List.mem_append.mp hi with y | y
        · obtain ⟨c1, c2, c3, c4⟩ := l3 i y
          have c1' : h.c + 1 ≤ i := c1
          rw [f2 i (by omega)]
          exact ⟨by omega, c2, c3, c4⟩
        · have y' : i = h.c := List.mem_singleton.mp y
          rw [y', f1]
          exact ⟨Nat.le_refl _, by show h.c < q.2.1.c; omega, pc, fun v hv => (a4 v hv).1⟩
      · rw [eS]; show s.1 + 9 ≤ (nmN b e (q.1.1 + 1, none) (b q.1.1)).1; omega
      · show xDep q.2.1.H (-1 - (h.c : Int)) = 0
        unfold xDep
        rw [a1.2.2.2.1.low (by omega)]
    · have er2 : rdC2 b e s.1 h.c (rdL f (b (hdS b e s).1) ((hdS b e s).1 + 1, none) h.bg) = ((rdL f (b (hdS b e s).1) ((hdS b e s).1 + 1, none) h.bg).1, (rdL f (b (hdS b e s).1) ((hdS b e s).1 + 1, none) h.bg).2.1, 0) := if_neg z2
      rw [er2] at hn
      exact absurd hn z2
  · have er : rdC b e f s h = (bwS b e 0 12 (hdS b e s), h, 0) := if_neg z1
    rw [er] at hn
    exact absurd hn z1
theorem rdN_G {s s' : oTS} {h : pH} {N : Int} {k : Nat} (hN : s'.2 = none → N.natAbs < 32768 ^ 16) (h1 : s.1 + 1 ≤ s'.1) (h2 : s'.1 ≤ e) (hH : xHOk h.c K h.H h.n) (hn : (rdN s' h N).1.2 = none) : pOk e K s h (rdN s' h N).1 (rdN s' h N).2.1 ∧ s.1 + 1 ≤ (rdN s' h N).1.1 ∧ xOk (rdN s' h N).2.1.c (rdN s' h N).2.1.H (rdN s' h N).2.2 ∧ xDep (rdN s' h N).2.1.H (rdN s' h N).2.2 ≤ k := by
  by_cases z : s'.2 = none
  · have er : rdN s' h N = pNew s' h (.inl N) := if_pos z
    rw [er]
    obtain ⟨a1, a2, a3⟩ := pOk_nw (e := e) (s := s) (s' := s') (o := .inl N) hH (hN z) (by omega) h2
    refine ⟨a1, h1, a2, ?_⟩
    show xDep (h.nw (.inl N)).H h.n ≤ k
    unfold xDep
    rw [a3]
    exact Nat.zero_le _
  · have er : rdN s' h N = (s', h, 0) := if_neg z
    rw [er] at hn
    exact absurd hn z
theorem rdO_G (hb : ∀ i, i < e → b i < 256) : ∀ k, k ≤ 4 → rdG e K k (rdO b e k)
  | 0, _ => fun s h h1 h2 hH hn => by
    have hn' : (rfS s).2 = none := hn
    obtain ⟨p, f⟩ := s
    have hf : f = none := h1
    subst hf
    cases hn'
  | k + 1, hk => fun s h h1 h2 hH hn => by
    have ih := rdO_G hb k (by omega)
    have nofl : (rfS s).2 ≠ none := by
      obtain ⟨p, f⟩ := s
      have hf : f = none := h1
      subst hf
      exact fun z => by cases z
    by_cases z : s.2 = none ∧ s.1 < e
    · have er : rdO b e (k + 1) s h = rdB b e (rdO b e k) s.1 h := if_pos z
      rw [er] at hn ⊢
      have go : ∀ v : Int, 0 ≤ v → v ≤ 2 → pOk e K s h (s.1 + 1, none) h ∧ s.1 + 1 ≤ s.1 + 1 ∧ xOk h.c h.H v ∧ xDep h.H v ≤ k + 1 := fun v v0 v2 => ⟨pOk_go hH (Nat.le_succ _) z.2, Nat.le_refl _, Or.inl ⟨by omega, by omega⟩, by
        unfold xDep
        rw [hH.low (by omega)]
        exact Nat.zero_le _⟩
      unfold rdB at hn ⊢
      by_cases c1 : b s.1 = 78
      · rw [if_pos c1] at hn ⊢; exact go 0 (by decide) (by decide)
      rw [if_neg c1] at hn ⊢
      by_cases c2 : b s.1 = 70
      · rw [if_pos c2] at hn ⊢; exact go 1 (by decide) (by decide)
      rw [if_neg c2] at hn ⊢
      by_cases c3 : b s.1 = 84
      · rw [if_pos c3] at hn ⊢; exact go 2 (by decide) (by decide)
      rw [if_neg c3] at hn ⊢
      by_cases c4 : b s.1 = 105
      · rw [if_pos c4] at hn ⊢
        have le := bwN_le (b := b) (e := e) (s := (s.1 + 1, none)) z.2 4
        refine rdN_G (fun y => ?_) ?_ le hH hn
        · have := i_bd (nI (ivN b (s.1 + 1) 4))
          have h16 : (4294967296 : Nat) < 32768 ^ 16 := by decide
          omega
        · by_cases y : (bwN b e (s.1 + 1, none) 4).2 = none
          · rw [(bwN_none 4 y).2.2.2]; show s.1 + 1 ≤ s.1 + 1 + 4; omega
          · have er2 : rdN (bwN b e (s.1 + 1, none) 4) h (nI (ivN b (s.1 + 1) 4)).toInt = (bwN b e (s.1 + 1, none) 4, h, 0) := if_neg y
            rw [er2] at hn
            exact absurd hn y
      rw [if_neg c4] at hn ⊢
      by_cases c5 : b s.1 = 108
      · rw [if_pos c5] at hn ⊢
        have y : (lgS b e (s.1 + 1)).2 = none := by
          by_cases y : (lgS b e (s.1 + 1)).2 = none
          · exact y
          · have er2 : rdN (lgS b e (s.1 + 1)) h (lgZ b (s.1 + 1)) = (lgS b e (s.1 + 1), h, 0) := if_neg y
            rw [er2] at hn
            exact absurd hn y
        have hC : (lgC b e (s.1 + 1)).2 = none := by
          by_cases y2 : (lgC b e (s.1 + 1)).2 = none
          · exact y2
          · have y' : (lgD b e (lgL b e (s.1 + 1)) (lgC b e (s.1 + 1)) (lgL b e (s.1 + 1))).2 = none := y
            rw [lgD_sgn _ y2] at y'
            exact absurd y' y2
        obtain ⟨d1, d2, d3⟩ := lgC_none hC
        have y' : (lgD b e (lgL b e (s.1 + 1)) (lgC b e (s.1 + 1)) (lgL b e (s.1 + 1))).2 = none := y
        obtain ⟨-, f2, f3, f4⟩ := lgD_none (by rw [d2]; exact d1) _ y'
        have eL : lgL b e (s.1 + 1) = lgK b (s.1 + 1) := if_pos hC
        have kL : lgK b (s.1 + 1) ≤ 16 := by rw [← eL]; exact lgL_le
        have e1 : (lgC b e (s.1 + 1)).1 = s.1 + 3 := by rw [d2]
        rw [e1] at f2 f3 f4
        have eS : lgS b e (s.1 + 1) = (s.1 + 3 + 2 * lgL b e (s.1 + 1), none) := f2
        refine rdN_G (fun _ => ?_) (by rw [eS]; show s.1 + 1 ≤ s.1 + 3 + _; omega) (by rw [eS]; exact f3) hH hn
        have dl : ∀ i, i < lgK b (s.1 + 1) → dgV b (s.1 + 1 + 2) i < 32768 := fun i hi => by
          have a1 := (f4 i (by rw [eL]; exact hi)).1
          have a2 := hb (s.1 + 3 + 2 * i) (by rw [eL] at f3; omega)
          show b (s.1 + 1 + 2 + 2 * i) + 256 * b (s.1 + 1 + 2 + 2 * i + 1) < 32768
          rw [show s.1 + 1 + 2 + 2 * i = s.1 + 3 + 2 * i by omega]
          omega
        have lt := dv_lt (lgK b (s.1 + 1)) dl
        have p16 : 32768 ^ lgK b (s.1 + 1) ≤ 32768 ^ 16 := Nat.pow_le_pow_right (by decide) kL
        unfold lgZ
        by_cases q : 240 ≤ b (s.1 + 1)
        · rw [if_pos q]; omega
        · rw [if_neg q]; omega
      rw [if_neg c5] at hn ⊢
      by_cases c6 : b s.1 = 40
      · rw [if_pos c6] at hn ⊢
        by_cases y : (bwS b e 0 12 (s.1 + 1, none)).2 = none
        · rw [if_pos y] at hn ⊢
          obtain ⟨-, g2, -⟩ := bwS_none y
          have g2' : s.1 + 1 < e ∧ 0 ≤ b (s.1 + 1) ∧ b (s.1 + 1) ≤ 12 := g2
          by_cases q : (rdL (rdO b e k) (b (s.1 + 1)) (s.1 + 2, none) h).1.2 = none
          · obtain ⟨a1, a2, a3, a4⟩ := rdL_G ih (b (s.1 + 1)) (s.1 + 2, none) h rfl g2'.1 hH q
            generalize rdL (rdO b e k) (b (s.1 + 1)) (s.1 + 2, none) h = r at hn q a1 a2 a3 a4 ⊢
            have er2 : rdT r = pNew r.1 r.2.1 (r.2.1.tp r.2.2) := if_pos q
            rw [er2]
            have mx : xMax r.2.1.H r.2.2 ≤ k := (xMax_iff _).mpr (fun v hv => (a4 v hv).2)
            have ob : xObOk r.2.1.c K r.2.1.H (r.2.1.tp r.2.2) := ⟨by show r.2.2.length ≤ 12; omega, rfl, by show xMax r.2.1.H r.2.2 + 1 ≤ 4; omega, fun v hv => (a4 v hv).1⟩
            obtain ⟨c1, c2, c3⟩ := pOk_nw (e := e) (s := r.1) (s' := r.1) a1.2.2.2.1 ob (Nat.le_refl _) a1.1.1
            have st : pOk e K s h (s.1 + 2, none) h := pOk_go hH (by omega) g2'.1
            refine ⟨(st.trans a1).trans c1, by show s.1 + 1 ≤ r.1.1; have : s.1 + 2 ≤ r.1.1 := a1.1.2; omega, c2, ?_⟩
            show xDep (r.2.1.nw (r.2.1.tp r.2.2)).H r.2.1.n ≤ k + 1
            unfold xDep
            rw [c3]
            show xMax r.2.1.H r.2.2 + 1 ≤ k + 1
            omega
          · have er2 : rdT (rdL (rdO b e k) (b (s.1 + 1)) (s.1 + 2, none) h) = ((rdL (rdO b e k) (b (s.1 + 1)) (s.1 + 2, none) h).1, (rdL (rdO b e k) (b (s.1 + 1)) (s.1 + 2, none) h).2.1, 0) := if_neg q
            rw [er2] at hn
            exact absurd hn q
        · rw [if_neg y] at hn
          exact absurd hn y
      rw [if_neg c6] at hn ⊢
      by_cases c7 : b s.1 = 99
      · rw [if_pos c7] at hn ⊢
        obtain ⟨a1, a2, a3, a4, -⟩ := rdC_G hb ih (s.1 + 1, none) h rfl z.2 hH hn
        have st : pOk e K s h (s.1 + 1, none) h := pOk_go hH (by omega) z.2
        exact ⟨st.trans a1, by have : s.1 + 1 + 9 ≤ _ := a2; omega, a3, by rw [a4]; exact Nat.zero_le _⟩
      · rw [if_neg c7] at hn
        cases hn
    · have er : rdO b e (k + 1) s h = (rfS s, h, 0) := if_neg z
      rw [er] at hn
      exact absurd hn nofl
end GO
