/-! the class reads: one object -/
section C116
variable {sp : ox_E} {x e nc K k : Nat} {b : Nat → Nat}
theorem cRo_0 (hsp : ox_mono sp) : cRo sp x b e nc K 0 := by
  intro d mr sr op O S Q s α h g hs hO m1 m2 hQ
  have hE : ox_mono (ox_M sp (d + 11)) := ox_M_mono hsp _
  have k0 : S.K x = 13 := g.1.1.obj (o := 0) (k := 13) (by decide)
  have i63 : S.I 63 x = -1 := by
    have := g.1.2.2.2.2.2.1
    rw [hs] at this
    exact this
  have x119 : x + 119 ≤ S.n := g.2.1.2.2.2.1
  refine f_116 (d := d + 11) hsp ⟨by rw [k0]; rfl, fun z => absurd i63 z, fun _ => ⟨fun z => absurd z (by decide), fun _ => ⟨by decide, k0, by decide, 0, 0, Nat.zero_le _, Nat.zero_le _, ?_⟩⟩⟩
  refine s_113 hsp g.1 (by omega) (fun S' f n t => f_116_17 hE ⟨rfl, ?_⟩)
  exact hQ.1 (rfS_some s) S' 0 f.v t ⟨_, _, g.2.2.2.1.pr f g.2.1⟩ (Or.inl rfl)
/-- a number -/
theorem cG.num {op : Nat} {O : Nat → Prop} {S S' : ox_St} {s s' : oTS} {α : Int → Nat} {h : pH} {V : Int} {a t c : Nat} {w : Nat → Nat} {r : Int32} {Q : ox_Q} (g : cG x b e nc K op O S s α h) (f : prF x S S') (tp : tpS S' x b e s') (hs : s.1 ≤ s'.1) (z : s'.2 = none) (ha : S.n ≤ a) (ha' : a < S'.n) (ht : S.n ≤ t) (ht' : t < S'.n) (hV : V.natAbs < 32768 ^ 16) (nm : oNm S' a t w c r) (i6 : S'.I 6 a = 3) (ev : nv w c r = V) (hQ : cPo x b e nc K op O S α (rdN s' h V) Q) : Q (some (.inr (.inr a))) S' := by
  have x119 : x + 119 ≤ S.n := g.2.1.2.2.2.1
  have g1 := g.mv f tp hs
  have fr : ∀ v, α v ≠ a := g.fr ha
  have self : aU α h.n a h.n = a := if_pos rfl
  have n0 := g.n0
  obtain ⟨g2, v2⟩ := g1.nw (o := .inl V) (a := a) (by omega) ha' fr ⟨by rw [self]; omega, by rw [self]; exact ha', by
    rw [self]
    exact ⟨t, w, c, r, nm, ev, i6, ht', Or.inr (Or.inr (by omega))⟩⟩ hV (fun c q => by cases q) (fun q y => by cases y)
  have er : rdN s' h V = (s', h.nw (.inl V), h.n) := if_pos z
  have hQ2 := hQ.2
  rw [er] at hQ2
  exact hQ2 z S' _ a f.v g2 (aU_X n0 ha) v2 (by rw [nm.1]; rfl)
theorem cRo_s (hsp : ox_mono sp) (hg : adH sp) (hb : ∀ i, i < e → b i < 256) (hk : k ≤ 3) (hf : cRo sp x b e nc K k) : cRo sp x b e nc K (k + 1) := by
  intro d mr sr op O S Q s α h g hs hO m1 m2 hQ
  have hE : ox_mono (ox_M sp (d + 3 * k + 14)) := ox_M_mono hsp _
  have k0 : S.K x = 13 := g.1.1.obj (o := 0) (k := 13) (by decide)
  have i63 : S.I 63 x = -1 := by
    have := g.1.2.2.2.2.2.1
    rw [hs] at this
    exact this
  have x119 : x + 119 ≤ S.n := g.2.1.2.2.2.1
  have ed : d + 3 * (k + 1) + 12 = d + 3 * k + 15 := by omega
  rw [ed]
  have lv5 : nI (6 - (k + 1)) ≤ 5 := nI_le (a := 6 - (k + 1)) (b := 5) (by omega) (by decide)
  refine f_116 (d := d + 3 * k + 14) hsp ⟨by rw [k0]; rfl, fun z => absurd i63 z, fun _ => ⟨fun _ => ⟨by decide, k0, by decide, 0, 0, Nat.zero_le _, Nat.zero_le _, ?_⟩, fun z => absurd lv5 z⟩⟩
  refine s_114 hsp g.1 (f_116_23 hE ?_)
  obtain ⟨p, fl⟩ := s
  have hfl : fl = none := hs
  subst hfl
  by_cases pe : p < e
  · have er : rdO b e (k + 1) (p, none) h = rdB b e (rdO b e k) p h := if_pos ⟨rfl, pe⟩
    rw [er] at m1 m2 hQ
    have bp : b p < 256 := hb p pe
    have ti : Int32.toInt (nI (b p)) = (b p : Int) := nI_toInt (by omega)
    have hG := rdO_G (e := e) (K := K) hb k (by omega)
    have xh : xHOk h.c K h.H h.n := g.2.2.1.2.2.2.2.2.1
    show q_116_23 _ x _ (if p < e then nI (b p) else -1) S _ _ Q
    rw [if_pos pe]
    unfold q_116_23
    rw [ti]
    have m1' : 8 * ((rdB b e (rdO b e k) p h).1.1 - p) ≤ mr := m1
    have m2' : 400 * ((rdB b e (rdO b e k) p h).1.1 - p) ≤ sr := m2
    clear m1 m2
    -- numbers are small enough
    have small : ∀ (s' : oTS) (V : Int), rdB b e (rdO b e k) p h = rdN s' h V → s'.2 = none → V.natAbs < 32768 ^ 16 := fun s' V e1 z => by
      have hn : (rdO b e (k + 1) (p, none) h).1.2 = none := by rw [er, e1, rdN_1]; exact z
      have a1 := (rdO_G (e := e) (K := K) hb (k + 1) (by omega) (p, none) h rfl (Nat.le_of_lt pe) xh hn).1
      rw [er, e1] at a1
      have e2 : rdN s' h V = (s', h.nw (.inl V), h.n) := if_pos z
      rw [e2] at a1
      have a2 : xHOk h.c K (h.nw (.inl V)).H (h.n + 1) := a1.2.2.2.1
      exact (a2.2 h.n (.inl V) xNew_self).2.2
    by_cases c40 : b p = 40
    · have e1 : rdB b e (rdO b e k) p h = if (bwS b e 0 12 (p + 1, none)).2 = none then rdT (rdL (rdO b e k) (b (p + 1)) (p + 2, none) h) else (bwS b e 0 12 (p + 1, none), h, 0) := by
        unfold rdB
        rw [if_neg (by omega), if_neg (by omega), if_neg (by omega), if_neg (by omega), if_neg (by omega), if_pos c40]
      refine ⟨fun _ => ⟨by decide, k0, by decide, mr, sr, by omega, by omega, ?_⟩, fun z => absurd (by rw [c40]; rfl) z⟩
      exact c_121 (d := d) hsp hf hG hk g pe hO e1 m1' m2' ⟨fun z S' a f t lx ka => f_116_125 hE ⟨rfl, hQ.1 z S' a f t lx ka⟩, fun z S' α' a f g' ax va ka => f_116_125 hE ⟨rfl, hQ.2 z S' α' a f g' ax va ka⟩⟩
    refine ⟨fun z => absurd (by omega) c40, fun _ => ?_⟩
    by_cases c70 : b p = 70
    · have e1 : rdB b e (rdO b e k) p h = ((p + 1, none), h, 1) := by
        unfold rdB
        rw [if_neg (by omega), if_pos c70]
      rw [e1] at m1' m2'
      have m1'' : 8 * (p + 1 - p) ≤ mr := m1'
      have m2'' : 400 * (p + 1 - p) ≤ sr := m2'
      refine ⟨fun _ => ⟨by decide, k0, by decide, mr, sr, by omega, by omega, ?_⟩, fun z => absurd (by rw [c70]; rfl) z⟩
      rw [e1] at hQ
      refine s_117 (d := d + 3 * k + 12) hsp g.1 (by omega) pe (by omega) (by omega) (fun S' f n t q1 q2 q3 => f_116_99 hE ⟨rfl, ?_⟩)
      exact hQ.2 rfl S' α S.n f.v (g.mv f t (Nat.le_succ p)) aX.refl ⟨by omega, by omega, Or.inr (Or.inr x119), Or.inr (Or.inl ⟨(show (0 : Int) ≤ 1 by decide), (show (1 : Int) ≤ 2 by decide), q1, q2⟩)⟩ (by rw [q1]; rfl)
    refine ⟨fun z => absurd (by omega) c70, fun _ => ?_⟩
    by_cases c78 : b p = 78
    · have e1 : rdB b e (rdO b e k) p h = ((p + 1, none), h, 0) := by
        unfold rdB
        rw [if_pos c78]
      rw [e1] at m1' m2'
      have m1'' : 8 * (p + 1 - p) ≤ mr := m1'
      have m2'' : 400 * (p + 1 - p) ≤ sr := m2'
      refine ⟨fun _ => ⟨by decide, k0, by decide, mr, sr, by omega, by omega, ?_⟩, fun z => absurd (by rw [c78]; rfl) z⟩
      rw [e1] at hQ
      refine s_117 (d := d + 3 * k + 12) hsp g.1 (by omega) pe (by omega) (by omega) (fun S' f n t q1 q2 q3 => f_116_93 hE ⟨rfl, ?_⟩)
      exact hQ.2 rfl S' α S.n f.v (g.mv f t (Nat.le_succ p)) aX.refl ⟨by omega, by omega, Or.inr (Or.inr x119), Or.inr (Or.inl ⟨(show (0 : Int) ≤ 0 by decide), (show (0 : Int) ≤ 2 by decide), q1, q2⟩)⟩ (by rw [q1]; rfl)
    refine ⟨fun z => absurd (by omega) c78, fun _ => ?_⟩
    by_cases c84 : b p = 84
    · have e1 : rdB b e (rdO b e k) p h = ((p + 1, none), h, 2) := by
        unfold rdB
        rw [if_neg (by omega), if_neg (by omega), if_pos c84]
      rw [e1] at m1' m2'
      have m1'' : 8 * (p + 1 - p) ≤ mr := m1'
      have m2'' : 400 * (p + 1 - p) ≤ sr := m2'
      refine ⟨fun _ => ⟨by decide, k0, by decide, mr, sr, by omega, by omega, ?_⟩, fun z => absurd (by rw [c84]; rfl) z⟩
      rw [e1] at hQ
      refine s_117 (d := d + 3 * k + 12) hsp g.1 (by omega) pe (by omega) (by omega) (fun S' f n t q1 q2 q3 => f_116_105 hE ⟨rfl, ?_⟩)
      exact hQ.2 rfl S' α S.n f.v (g.mv f t (Nat.le_succ p)) aX.refl ⟨by omega, by omega, Or.inr (Or.inr x119), Or.inr (Or.inl ⟨(show (0 : Int) ≤ 2 by decide), (show (2 : Int) ≤ 2 by decide), q1, q2⟩)⟩ (by rw [q1]; rfl)
    refine ⟨fun z => absurd (by omega) c84, fun _ => ?_⟩
    by_cases c99 : b p = 99
    · have ok : (bwS b e 99 99 (p, none)).2 = none := by rw [bwS_ok ⟨pe, by omega, by omega⟩]
      have e1 : rdB b e (rdO b e k) p h = if (bwS b e 99 99 (p, none)).2 = none then rdC b e (rdO b e k) (p + 1, none) h else (bwS b e 99 99 (p, none), h, 0) := by
        rw [if_pos ok]
        unfold rdB
        rw [if_neg (by omega), if_neg (by omega), if_neg (by omega), if_neg (by omega), if_neg (by omega), if_neg (by omega), if_pos c99]
      have ge : p + 1 ≤ (rdB b e (rdO b e k) p h).1.1 := by
        rw [e1, if_pos ok]; exact rdC_ge (rdO_ge k) (s := (p + 1, none))
      refine ⟨fun _ => ⟨by decide, k0, by decide, mr, sr, by omega, by omega, ?_⟩, fun z => absurd (by rw [c99]; rfl) z⟩
      exact c_123 (d := d) hsp hg hf hG (by omega) g rfl hO e1 (by show 8 + 8 * ((rdB b e (rdO b e k) p h).1.1 - (p + 1)) ≤ mr; omega) (by show 400 + 400 * ((rdB b e (rdO b e k) p h).1.1 - (p + 1)) ≤ sr; omega) ⟨fun z S' a f t lx ka => f_116_131 hE ⟨rfl, hQ.1 z S' a f t lx ka⟩, fun z S' α' a f g' ax va ka => f_116_131 hE ⟨rfl, hQ.2 z S' α' a f g' ax va ka⟩⟩
    refine ⟨fun z => absurd (by omega) c99, fun _ => ?_⟩
    by_cases c105 : b p = 105
    · have e1 : rdB b e (rdO b e k) p h = rdN (bwN b e (p + 1, none) 4) h (nI (ivN b (p + 1) 4)).toInt := by
        unfold rdB
        rw [if_neg (by omega), if_neg (by omega), if_neg (by omega), if_pos c105]
      have ge : p + 1 ≤ (bwN b e (p + 1, none) 4).1 := bwN_ge (s := (p + 1, none)) 4
      rw [e1, rdN_1] at m1' m2'
      refine ⟨fun _ => ⟨by decide, k0, by decide, 0, 0, Nat.zero_le _, Nat.zero_le _, ?_⟩, fun z => absurd (by rw [c105]; rfl) z⟩
      refine s_118 (d := d + 3 * k + 10) hsp g.1 (by omega) pe (fun S1 v1 f1 n1 t1 q0 => f_116_110 hE ⟨by decide, by decide, mr, sr, by omega, by omega, ?_⟩)
      refine s_118v (d := d + 3 * k + 11) hsp (by omega) f1 n1 t1 q0 (by omega) (by omega) (fun S' w c r V f n t q1 q2 q3 => f_116_114 hE ⟨rfl, ?_⟩)
      have sm := small _ _ e1
      rw [e1] at hQ
      by_cases z : (bwN b e (p + 1, none) 4).2 = none
      · exact g.num f t (by show p ≤ (bwN b e (p + 1, none) 4).1; omega) z (by omega) (by omega) (Nat.le_refl _) (by omega) (sm z) q1.1 q1.2 (q2.trans (q3 z)) hQ
      · have hQ1 := hQ.1
        rw [rdN_1] at hQ1
        exact hQ1 z S' _ f.v t ⟨_, _, g.2.2.2.1.pr f g.2.1⟩ (Or.inr (by rw [q1.1.1]; rfl))
    refine ⟨fun z => absurd (by omega) c105, fun _ => ?_⟩
    by_cases c108 : b p = 108
    · have e1 : rdB b e (rdO b e k) p h = rdN (lgS b e (p + 1)) h (lgZ b (p + 1)) := by
        unfold rdB
        rw [if_neg (by omega), if_neg (by omega), if_neg (by omega), if_neg (by omega), if_pos c108]
      have ge : p + 1 ≤ (lgS b e (p + 1)).1 := lgS_ge
      rw [e1, rdN_1] at m1' m2'
      refine ⟨fun _ => ⟨by decide, k0, by decide, mr, sr, by omega, by omega, ?_⟩, fun z => absurd (by rw [c108]; rfl) z⟩
      refine s_119 (d := d + 3 * k + 11) hsp g.1 (by omega) pe (by omega) (by omega) (fun S' f n t q1 q2 q3 => f_116_119 hE ⟨rfl, ?_⟩)
      have sm := small _ _ e1
      rw [e1] at hQ
      have t' : tpS S' x b e (lgS b e (p + 1)) := t
      by_cases z : (lgS b e (p + 1)).2 = none
      · refine g.num f t' (by show p ≤ (lgS b e (p + 1)).1; omega) z (by omega) (by omega) (Nat.le_refl _) (by omega) (sm z) (q3 z) q2 ?_ hQ
        unfold nv lgZ
        by_cases y : 240 ≤ b (p + 1)
        · rw [if_pos y, if_pos y, if_neg (by decide)]
        · rw [if_neg y, if_neg y, if_pos rfl]
      · have hQ1 := hQ.1
        rw [rdN_1] at hQ1
        exact hQ1 z S' _ f.v t' ⟨_, _, g.2.2.2.1.pr f g.2.1⟩ (Or.inr (by rw [q1]; rfl))
    refine ⟨fun z => absurd (by omega) c108, fun _ => ?_⟩
    have e1 : rdB b e (rdO b e k) p h = ((p, some p), h, 0) := by
      unfold rdB
      rw [if_neg c78, if_neg c70, if_neg c84, if_neg c105, if_neg c108, if_neg c40, if_neg c99]
    rw [e1] at hQ
    refine ⟨by decide, k0, by decide, 0, 0, Nat.zero_le _, Nat.zero_le _, s_113 hsp g.1 (by omega) (fun S' f n t => f_116_136 hE ⟨rfl, ?_⟩)⟩
    exact hQ.1 (fun z => by cases z) S' 0 f.v t ⟨_, _, g.2.2.2.1.pr f g.2.1⟩ (Or.inl rfl)
  · have er : rdO b e (k + 1) (p, none) h = (rfS (p, none), h, 0) := if_neg (fun z => pe z.2)
    rw [er] at hQ
    show q_116_23 _ x _ (if p < e then nI (b p) else -1) S _ _ Q
    rw [if_neg pe]
    refine ⟨fun z => absurd z (by decide), fun _ => ⟨fun z => absurd z (by decide), fun _ => ⟨fun z => absurd z (by decide), fun _ => ⟨fun z => absurd z (by decide), fun _ => ⟨fun z => absurd z (by decide), fun _ => ⟨fun z => absurd z (by decide), fun _ => ⟨fun z => absurd z (by decide), fun _ => ⟨by decide, k0, by decide, 0, 0, Nat.zero_le _, Nat.zero_le _, ?_⟩⟩⟩⟩⟩⟩⟩⟩
    refine s_113 hsp g.1 (by omega) (fun S' f n t => f_116_136 hE ⟨rfl, ?_⟩)
    exact hQ.1 (rfS_some _) S' 0 f.v t ⟨_, _, g.2.2.2.1.pr f g.2.1⟩ (Or.inl rfl)
theorem cRo_all (hsp : ox_mono sp) (hg : adH sp) (hb : ∀ i, i < e → b i < 256) : ∀ k, k ≤ 4 → cRo sp x b e nc K k
  | 0, _ => cRo_0 hsp
  | k + 1, hk => cRo_s hsp hg hb (by omega) (cRo_all hsp hg hb k (by omega))
end C116
