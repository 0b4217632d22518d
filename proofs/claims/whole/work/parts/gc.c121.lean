/-! the class reads: a tuple -/
section C121
variable {sp : ox_E} {d mr sr : Nat} {Q : ox_Q} {x e nc K op k : Nat} {b : Nat → Nat} {O : Nat → Prop} {S S' : ox_St} {s : oTS} {α α' : Int → Nat} {h : pH}
theorem cK_kinds {S : ox_St} {x : Nat} (hB : oCL S x) {j : Nat} (h1 : 4 ≤ j) (h2 : j ≤ 10) : S.K (x + 64 + j) = 11 := by
  have : j = 4 ∨ j = 5 ∨ j = 6 ∨ j = 7 ∨ j = 8 ∨ j = 9 ∨ j = 10 := by omega
  rcases this with rfl | rfl | rfl | rfl | rfl | rfl | rfl
  · exact hB.obj (o := 68) (k := 11) (by decide)
  · exact hB.obj (o := 69) (k := 11) (by decide)
  · exact hB.obj (o := 70) (k := 11) (by decide)
  · exact hB.obj (o := 71) (k := 11) (by decide)
  · exact hB.obj (o := 72) (k := 11) (by decide)
  · exact hB.obj (o := 73) (k := 11) (by decide)
  · exact hB.obj (o := 74) (k := 11) (by decide)
/-- which kind a value has -/
theorem cGh.kd (g : cGh x nc K O S α h) (hB : oCL S x) {v : Int} {a : Nat} (hv : vC S x α v a) : ox_isV (S.K a) = true ∧ ((∃ q, h.H v = some (.inr (.inl q)) ∧ a = α v) ∨ (S.K a ≠ 10 ∧ xDep h.H v = 0)) := by
  obtain ⟨g1, g2, g3, g4, g5, g6, g7, g8⟩ := g
  obtain ⟨h1, h2, h3, h4⟩ := hv
  have low : ∀ v, v ≤ 10 → xDep h.H v = 0 := fun v hv => by unfold xDep; rw [g6.low hv]
  rcases h4 with ⟨y1, y2⟩ | ⟨y1, y2, y3, y4⟩ | ⟨y1, y2⟩ | ⟨y1, y2, y3⟩ | ⟨y1, y2⟩
  · have nz : α v ≠ 0 := by rw [← y2]; exact h1
    rcases (g4 v nz).2 with ⟨c, w1, w2⟩ | w
    · have k3 := (g2 c w2).2.2.1.1
      rw [← w1, ← y2] at k3
      rw [k3]
      exact ⟨rfl, Or.inr ⟨by decide, low v (by omega)⟩⟩
    · exact absurd (g6.low (by omega)) w
  · rw [y3]; exact ⟨rfl, Or.inr ⟨by decide, low v (by omega)⟩⟩
  · have k : S.K (x + 17) = 11 := hB.obj (o := 17) (k := 11) (by decide)
    rw [y2, k]; exact ⟨rfl, Or.inr ⟨by decide, low v (by omega)⟩⟩
  · have k := cK_kinds hB (j := v.toNat) (by omega) (by omega)
    rw [y3, k]; exact ⟨rfl, Or.inr ⟨by decide, low v (by omega)⟩⟩
  · have nz : α v ≠ 0 := by rw [← y2]; exact h1
    rcases (g4 v nz).2 with ⟨c, w1, w2⟩ | w
    · omega
    · cases e : h.H v with
      | none => exact absurd e w
      | some o =>
        have co := g1 v o e
        obtain ⟨-, -, co3⟩ := co
        match o, co3, e with
        | .inl N, ⟨t, w, c, r, u1, _⟩, e => rw [y2, u1.1]; exact ⟨rfl, Or.inr ⟨by decide, by unfold xDep; rw [e]⟩⟩
        | .inr (.inl q), ⟨t, u1, _⟩, e => rw [y2, u1.1]; exact ⟨rfl, Or.inl ⟨q, rfl, rfl⟩⟩
        | .inr (.inr (.inl q)), ⟨u1, _⟩, e => rw [y2, u1]; exact ⟨rfl, Or.inr ⟨by decide, by unfold xDep; rw [e]⟩⟩
        | .inr (.inr (.inr (.inl q))), ⟨u1, _⟩, e => rw [y2, u1]; exact ⟨rfl, Or.inr ⟨by decide, by unfold xDep; rw [e]⟩⟩
        | .inr (.inr (.inr (.inr c))), ⟨u1, _⟩, e => rw [y2, u1]; exact ⟨rfl, Or.inr ⟨by decide, by unfold xDep; rw [e]⟩⟩
/-- how deep a row is -/
theorem cGh.dp (g : cGh x nc K O S α h) (hB : oCL S x) {t : Nat} {l : List Int} (hl : ∀ i, i < l.length → vC S x α (l.getD i 0) (S.rR t i)) : ∀ i, i ≤ l.length → oDp S t i = nI (xMax h.H (l.take i))
  | 0, _ => rfl
  | i + 1, hi => by
    have ih := cGh.dp g hB hl i (by omega)
    have hi' : i < l.length := by omega
    have hg : l.getD i 0 = l[i] := by rw [List.getD_eq_getElem?_getD, List.getElem?_eq_getElem hi']; rfl
    have ht : l.take (i + 1) = l.take i ++ [l[i]] := (List.take_append_getElem hi').symm
    have hv := hl i hi'
    rw [hg] at hv
    have g6 := g.2.2.2.2.2.1
    have b1 := xMax_le g6 (l.take i)
    have b2 := xDep_le g6 l[i]
    rw [ht, xMax_snoc]
    show (if S.K (S.rR t i) = 10 ∧ ¬ S.I 57 (S.rR t i) ≤ oDp S t i then S.I 57 (S.rR t i) else oDp S t i) = _
    rw [ih]
    rcases (g.kd hB hv).2 with ⟨q, hq, ha⟩ | ⟨z, hd⟩
    · obtain ⟨-, -, tt, o1, o2, o3, -⟩ := g.1 _ _ hq
      have hd : xDep h.H l[i] = q.2 := by unfold xDep; rw [hq]
      have z : S.K (S.rR t i) = 10 := by rw [ha]; exact o1.1
      rw [← ha, ← hd] at o3
      rw [o3]
      by_cases y : xDep h.H l[i] ≤ xMax h.H (l.take i)
      · rw [if_neg (fun m => m.2 ((nI_leI (by omega) (by omega)).mpr y)), Nat.max_eq_left y]
      · rw [if_pos ⟨z, fun m => y ((nI_leI (by omega) (by omega)).mp m)⟩, Nat.max_eq_right (by omega)]
    · rw [if_neg (fun m => z m.1), hd, Nat.max_eq_left (Nat.zero_le _)]
theorem oCL.off {z : Nat} (hB : oCL S x) (ag : oAg (fun a => a ≠ z) S S') (hz : x + 76 ≤ z) : oCL S' x := by
  have at' : ∀ a, a < x + 76 → _ := fun a ha => ag a (by omega)
  exact hB.next (fun a _ a2 => ⟨(at' a a2).1, (at' a a2).2.1⟩) (fun F a _ _ _ _ _ _ a2 => (at' a a2).2.2.2.1 F) (fun F a _ _ a2 => (at' a a2).2.2.1 F) (funext (at' (x + 12) (by omega)).2.2.2.2.2.2.1) (funext (at' (x + 18) (by omega)).2.2.2.2.2.2.1) (funext (at' (x + 21) (by omega)).2.2.2.2.2.1)
theorem tpS.off {z : Nat} (t : tpS S x b e s) (ag : oAg (fun a => a ≠ z) S S') (hz : x + 76 ≤ z) : tpS S' x b e s := by
  obtain ⟨h1, h2, h3, h4, h5, h6, h7, h8⟩ := t
  obtain ⟨-, -, a3, -⟩ := ag x (by omega)
  obtain ⟨-, -, -, -, -, b6, -⟩ := ag (x + 1) (by omega)
  exact ⟨h1.off ag hz, (a3 _).trans h2, h3, (a3 _).trans h4, h5, (a3 _).trans h6, h7, fun i hi => by rw [b6]; exact h8 i hi⟩
theorem cBs.off {z : Nat} (h : cBs S x) (ag : oAg (fun a => a ≠ z) S S') (hz : x + 119 ≤ z) (hn : S.n ≤ S'.n) : cBs S' x := by
  obtain ⟨h1, h2, h3, h4, ⟨h5, h6, h7, h8⟩⟩ := h
  have e0 := ag 0 (by omega)
  have e1 := ag (S.R 143 0) (by omega)
  refine ⟨h1.off ag (by omega), h2, e0.1.trans h3, Nat.le_trans h4 hn, ?_⟩
  unfold cSn
  rw [e0.2.2.2.1 143, e1.1, e1.2.1]
  exact ⟨h5, h6, h7, fun i hi => (e1.2.2.2.2.2.2.2 i).trans (h8 i hi)⟩
/-- an object is filled that nobody knows yet -/
theorem cG.off {z : Nat} (g : cG x b e nc K op O S s α h) (ag : oAg (fun a => a ≠ z) S S') (nn : S'.n = S.n) (kz : S'.K z = S.K z) (lz : S'.len z = S.len z) (k10 : S.K z = 10) (hz : x + 119 ≤ z) (hfr : ∀ v, α v ≠ z) : cG x b e nc K op O S' s α h ∧ prW z x S S' := by
  obtain ⟨t1, b1, ⟨g1, g2, g3, g4, g5, g6, g7, g8⟩, l1, l2⟩ := g
  have h0 : 0 < x := b1.2.1
  have hn : x + 119 ≤ S.n := b1.2.2.2.1
  have kl : ∀ a, S'.K a = S.K a ∧ S'.len a = S.len a := fun a => by
    by_cases w : a = z
    · rw [w]; exact ⟨kz, lz⟩
    · exact ⟨(ag a w).1, (ag a w).2.1⟩
  have f : prW z x S S' := ⟨by omega, fun a _ => kl a, ag.sub (fun a ha => ha.2.2.2.2), fun F _ _ => (ag x (by omega)).2.2.1 F, fun F _ _ => (ag (x + 2) (by omega)).2.2.1 F⟩
  have zk : zOk S x α z := Or.inr ⟨hz, k10, hfr⟩
  refine ⟨⟨t1.off ag (by omega), b1.off ag hz (by omega), ⟨fun v o e => (g1 v o e).pw f zk rfl (fun _ _ _ _ => rfl) (fun _ _ => ⟨rfl, rfl⟩), fun c hc => (g2 c hc).pw f zk rfl rfl (fun _ _ _ _ => rfl), g3, fun v hv => ⟨by have := (g4 v hv).1; omega, (g4 v hv).2⟩, g5, g6, fun v q e => ?_, fun c hc => ?_⟩, l1.off ag nn kz lz k10 hz, l2⟩, f⟩
  · rw [(ag (α v) (hfr v)).2.2.2.1 56]; exact g7 v q e
  · rw [(ag (α (-1 - (c : Int))) (hfr _)).2.2.2.1 11]; exact g8 c hc
theorem mkT_ag {a t : Nat} : oAg (fun q => q ≠ a) S (oMkTuple S a t) := ((oV0_ag (P := fun q => q ≠ a) (fun z => z rfl)).trans (oAg_sR (fun z => z rfl))).trans (oAg_sI (fun z => z rfl))
theorem mkT_f {a t : Nat} : (oMkTuple S a t).n = S.n ∧ (oMkTuple S a t).K = S.K ∧ (oMkTuple S a t).len = S.len ∧ (oMkTuple S a t).R 56 a = t ∧ (oMkTuple S a t).I 6 a = 4 ∧ (oMkTuple S a t).I 57 a = oDp S t (S.len t) + 1 ∧ (oMkTuple S a t).rR = S.rR := by
  unfold oMkTuple oV0
  refine ⟨rfl, rfl, rfl, ?_, ?_, ?_, rfl⟩
  · rw [or_sI_R, or_sR_R, if_pos ⟨rfl, rfl⟩]
  · rw [or_sI_I, if_neg (fun z => by cases z.1), or_sR_I, or_sI_I, if_neg (fun z => by cases z.1), or_sI_I, if_pos ⟨rfl, rfl⟩]
  · rw [or_sI_I, if_pos ⟨rfl, rfl⟩]
theorem prV.off {S0 : ox_St} {z : Nat} (f : prV x S0 S) (ag : oAg (fun a => a ≠ z) S S') (nn : S'.n = S.n) (hz : S0.n ≤ z) (hx : x + 2 < S0.n) : prV x S0 S' := by
  have hn := f.1
  exact ⟨by omega, fun a ha => ⟨(ag a (by omega)).1.trans (f.2.1 a ha).1, (ag a (by omega)).2.1.trans (f.2.1 a ha).2⟩, f.2.2.1.trans (ag.sub (fun a ha => by have := ha.1; omega)), fun F a c => ((ag x (by omega)).2.2.1 F).trans (f.2.2.2.1 F a c), fun F => ((ag x (by omega)).2.2.2.1 F).trans (f.2.2.2.2.1 F), fun F a c => ((ag (x + 2) (by omega)).2.2.1 F).trans (f.2.2.2.2.2.1 F a c), fun F a => ((ag (x + 2) (by omega)).2.2.2.1 F).trans (f.2.2.2.2.2.2 F a)⟩
/-- a tuple, behind its byte -/
theorem c_121 (hsp : ox_mono sp) (hf : cRo sp x b e nc K k) (hG : rdG e K k (rdO b e k)) (hk : k ≤ 3) {p : Nat} (g : cG x b e nc K op O S (p, none) α h) (hp : p < e) (hO : ∀ u, O u → u < S.n) {r : pR Int} (hr : r = if (bwS b e 0 12 (p + 1, none)).2 = none then rdT (rdL (rdO b e k) (b (p + 1)) (p + 2, none) h) else (bwS b e 0 12 (p + 1, none), h, 0)) (m1 : 8 * (r.1.1 - p) ≤ mr) (m2 : 400 * (r.1.1 - p) ≤ sr) (hQ : cPo x b e nc K op O S α r Q) : ox_M sp (d + 3 * k + 14) 121 [.inr (.inr x), .inl (nI (6 - (k + 1)))] mr sr S Q := by
  have hE : ox_mono (ox_M sp (d + 3 * k + 13)) := ox_M_mono hsp _
  have x119 : x + 119 ≤ S.n := g.2.1.2.2.2.1
  have k13 : S.K x = 13 := g.1.1.obj (o := 0) (k := 13) (by decide)
  have i2 : S.I 62 x = nI p := g.1.2.2.2.1
  have f1 : prF x S (S.sI 62 x (nI (p + 1))) := prF_sI (Or.inl rfl)
  have h1 := g.1.on (by omega) hp
  have rp : p + 1 ≤ r.1.1 := by
    rw [hr]
    by_cases z : (bwS b e 0 12 (p + 1, none)).2 = none
    · rw [if_pos z, rdT_1]; exact Nat.le_trans (Nat.le_succ (p + 1)) (rdL_ge (rdO_ge k) _ (p + 2, none) _)
    · rw [if_neg z]; exact bwS_ge (s := (p + 1, none))
  refine f_121 (d := d + 3 * k + 13) hsp ?_
  unfold q_121
  rw [k13, i2, nI_1]
  refine ⟨rfl, rfl, by omega, by omega, ?_⟩
  have en : (S.sI 62 x (nI (p + 1))).n = S.n := rfl
  have eK : (S.sI 62 x (nI (p + 1))).K = S.K := rfl
  generalize hT : S.sI 62 x (nI (p + 1)) = T at h1 f1 en eK ⊢
  have ag : oAg (fun a => a < T.n) T (T.newO 10) := oAg_newO (P := fun a => a < T.n) (Nat.lt_irrefl _)
  have f2 : prF x T (T.newO 10) := prF_new (Nat.le_succ _) ag (by omega)
  have a0 := ag x (by show x < T.n; omega)
  have h2 := h1.keep f2 (by omega) (a0.2.2.1 62) (a0.2.2.1 63)
  have kn : (T.newO 10).K S.n = 10 := by rw [or_newO_K, if_pos en.symm]
  have nn : (T.newO 10).n = S.n + 1 := by rw [or_newO_n, en]
  show _ ∧ _ ∧ _ ∧ _
  rw [en]
  generalize T.newO 10 = S2 at h2 f2 kn nn ⊢
  have k2 : S2.K x = 13 := h2.1.obj (o := 0) (k := 13) (by decide)
  have f12 := f1.trans f2
  refine ⟨by decide, k2, by decide, 0, 0, Nat.zero_le _, Nat.zero_le _, ?_⟩
  refine s_115 (lo := 0) (hi := 12) hsp h2 (by omega) (by decide) (by decide) (fun S3 f3 n3 h3 => f_121_22 hE ?_)
  have k3 : S3.K x = 13 := h3.1.obj (o := 0) (k := 13) (by decide)
  have kn3 : S3.K S.n = 10 := (f3.2.1 _ (by omega)).1.trans kn
  have f13 := f12.trans f3
  have g3 : cG x b e nc K op O S3 (bwS b e 0 12 (p + 1, none)) α h := g.mv f13 h3 (Nat.le_trans (Nat.le_succ p) (bwS_ge (s := (p + 1, none))))
  -- the tuple is filled
  have fault : ∀ (S4 : ox_St) (n : Nat) (mr' sr' : Nat), prV x S3 S4 → tpS S4 x b e r.1 → oLx S4 x → r.1.2 ≠ none → S3.n < S4.n → S4.K S3.n = 19 → S4.len S3.n = n → n ≤ 12 → (∀ j, j < n → S4.rR S3.n j = 0 ∨ ox_isV (S4.K (S4.rR S3.n j)) = true) → k_121_28 (ox_M sp (d + 3 * k + 13)) x (nI (6 - (k + 1))) S.n S.n mr' sr' Q (some (.inr (.inr S3.n))) S4 := by
    intro S4 n mr' sr' f4 t4 lx fl n4 kt lt hn hrow
    have ka : S4.K S.n = 10 := (f4.2.1 _ (by omega)).1.trans kn3
    have h0 : 0 < x := g.2.1.2.1
    refine f_121_28 hE ⟨by decide, by omega, by decide, 0, 0, Nat.zero_le _, Nat.zero_le _, ?_⟩
    refine s_86 (d := d + 3 * k + 11) hsp (by omega) ka kt lt (by omega) hrow (((f13.v.trans f4).2.1 0 (by omega)).1.trans g.2.1.2.2.1) (f_121_31 hE ⟨rfl, ?_⟩)
    exact hQ.1 fl _ _ ((f13.v.trans f4).off mkT_ag mkT_f.1 (Nat.le_refl _) (by omega)) (t4.off mkT_ag (by omega)) (lx.off mkT_ag mkT_f.1 (by rw [mkT_f.2.1]) (by rw [mkT_f.2.2.1]) ka x119) (Or.inr (by rw [mkT_f.2.1, ka]; rfl))
  by_cases z : (bwS b e 0 12 (p + 1, none)).2 = none
  · obtain ⟨-, w2, w3, w4⟩ := bwS_none z
    have er : r = rdT (rdL (rdO b e k) (b (p + 1)) (p + 2, none) h) := by rw [hr, if_pos z]
    have er1 : r.1 = (rdL (rdO b e k) (b (p + 1)) (p + 2, none) h).1 := by rw [er, rdT_1]
    rw [w4]
    have w3' : bwS b e 0 12 (p + 1, none) = (p + 2, none) := w3
    rw [w3'] at g3
    have b12 : b (p + 1) ≤ 12 := w2.2.2
    have lv : nI (6 - (k + 1)) + 1 = nI (6 - k) := by rw [nI_1, show 6 - (k + 1) + 1 = 6 - k by omega]
    have pge : p + 2 ≤ (rdL (rdO b e k) (b (p + 1)) (p + 2, none) h).1.1 := rdL_ge (rdO_ge k) _ (p + 2, none) _
    rw [er1] at m1 m2
    unfold q_121_22
    rw [lv]
    refine ⟨by decide, k3, by decide, 1 + 8 * ((rdL (rdO b e k) (b (p + 1)) (p + 2, none) h).1.1 - (p + 2)), 12 + 400 * ((rdL (rdO b e k) (b (p + 1)) (p + 2, none) h).1.1 - (p + 2)), by omega, by omega, ?_⟩
    refine c_122 (d := d) (n := b (p + 1)) hsp hf b12 g3 rfl (fun u hu => by have := hO u hu; omega) (Nat.le_refl _) (Nat.le_refl _) (fun y S4 f4 t4 lx n4 kt lt hrow => fault S4 _ _ _ f4 (by rw [er1]; exact t4) lx (by rw [er1]; exact y) n4 kt lt b12 hrow) (fun y S4 α4 f4 g4 ax n4 kt lt hrow => ?_)
    have er2 : r = pNew (rdL (rdO b e k) (b (p + 1)) (p + 2, none) h).1 (rdL (rdO b e k) (b (p + 1)) (p + 2, none) h).2.1 ((rdL (rdO b e k) (b (p + 1)) (p + 2, none) h).2.1.tp (rdL (rdO b e k) (b (p + 1)) (p + 2, none) h).2.2) := by rw [er]; exact if_pos y
    have xh : xHOk h.c K h.H h.n := g.2.2.1.2.2.2.2.2.1
    obtain ⟨l1, l2, l3, l4⟩ := rdL_G hG (b (p + 1)) (p + 2, none) h rfl (by have := w2.1; show p + 2 ≤ e; omega) xh y
    generalize rdL (rdO b e k) (b (p + 1)) (p + 2, none) h = R at er1 er2 g4 hrow y l1 l2 l3 l4 pge m1 m2
    obtain ⟨R1, h4, l⟩ := R
    have l3' : l.length = b (p + 1) := l3
    have l4' : ∀ v ∈ l, xOk h4.c h4.H v ∧ xDep h4.H v ≤ k := l4
    have hrow' : ∀ j, j < b (p + 1) → vC S4 x α4 (l.getD j 0) (S4.rR S3.n j) ∧ ox_isV (S4.K (S4.rR S3.n j)) = true := hrow
    have g4' : cG x b e nc K op (fun u => O u ∨ u = S3.n) S4 R1 α4 h4 := g4
    have ka : S4.K S.n = 10 := (f4.2.1 _ (by omega)).1.trans kn3
    have h0 : 0 < x := g.2.1.2.1
    have fr : ∀ v, α4 v ≠ S.n := fun v w => by
      rcases ax v with q | q
      · exact g.fr (Nat.le_refl _) v (by rw [← q]; exact w)
      · omega
    refine f_121_28 hE ⟨by decide, by omega, by decide, 0, 0, Nat.zero_le _, Nat.zero_le _, ?_⟩
    refine s_86 (d := d + 3 * k + 11) hsp (by omega) ka kt lt (by omega) (fun j hj => Or.inr (hrow' j hj).2) (((f13.v.trans f4).2.1 0 (by omega)).1.trans g.2.1.2.2.1) (f_121_31 hE ⟨rfl, ?_⟩)
    have dp : oDp S4 S3.n (S4.len S3.n) = nI (xMax h4.H l) := by
      have := g4'.2.2.1.dp g4'.1.1 (t := S3.n) (l := l) (fun i hi => (hrow' i (by omega)).1) l.length (Nat.le_refl _)
      rw [List.take_length] at this
      rw [lt, ← l3']; exact this
    obtain ⟨u1, u2, u3, u4, u5, u6, u7⟩ := mkT_f (S := S4) (a := S.n) (t := S3.n)
    have ag5 : oAg (fun q => q ≠ S.n) S4 (oMkTuple S4 S.n S3.n) := mkT_ag
    obtain ⟨g5, f5⟩ := g4'.off (z := S.n) ag5 u1 (by rw [u2]) (by rw [u3]) ka x119 fr
    have vf := (f13.v.trans f4).off ag5 u1 (Nat.le_refl _) (by omega)
    have zk : zOk S4 x α4 S.n := Or.inr ⟨x119, ka, fr⟩
    rw [dp] at u6
    generalize oMkTuple S4 S.n S3.n = S5 at u1 u2 u3 u4 u5 u6 u7 ag5 g5 f5 vf ⊢
    have g6 : cG x b e nc K op O S5 R1 α4 h4 := ⟨g5.1, g5.2.1, g5.2.2.1.sub (fun t ht => Or.inl ht), g5.2.2.2⟩
    have mx : xMax h4.H l ≤ k := by
      have key : ∀ (l : List Int), (∀ v ∈ l, xDep h4.H v ≤ k) → xMax h4.H l ≤ k := by
        intro l
        induction l with
        | nil => exact fun _ => Nat.zero_le _
        | cons v t ih => exact fun hl => Nat.max_le.mpr ⟨hl v List.mem_cons_self, ih (fun u hu => hl u (List.mem_cons_of_mem _ hu))⟩
      exact key l (fun v hv => (l4' v hv).2)
    have n0 := g6.n0
    have self : aU α4 h4.n S.n h4.n = S.n := if_pos rfl
    obtain ⟨g7, v7⟩ := g6.nw (o := .inr (.inl (l, xMax h4.H l + 1))) (a := S.n) x119 (by omega) fr ⟨by rw [self]; exact x119, by rw [self]; omega, by
      rw [self]
      refine ⟨S3.n, ⟨by rw [u2]; exact ka, u4, by rw [u2]; exact kt, by rw [u3, lt]; exact l3'.symm, by show l.length ≤ 12; omega⟩, u5, by rw [u6, nI_1], ⟨by omega, Or.inr (Or.inr (by omega))⟩, fun i hi => ?_⟩
      have hi' : i < l.length := hi
      rw [u7]
      exact (hrow' i (by omega)).1.pw f5 zk (fun _ hne => if_neg (fun w => hne (by
        have w' : l.getD i 0 = h4.n := w
        show α4 (l.getD i 0) = 0
        rw [w']; exact n0)))⟩ ⟨by show l.length ≤ 12; omega, rfl, by show xMax h4.H l + 1 ≤ 4; omega, fun v hv => (l4' v hv).1⟩ (fun c w => by cases w) (fun q _ w => by
      rw [u4] at w
      have := hO _ w
      omega)
    have e1 : r = (R1, h4.nw (.inr (.inl (l, xMax h4.H l + 1))), h4.n) := er2
    have hQ2 := hQ.2
    rw [e1] at hQ2
    exact hQ2 y S5 _ S.n vf g7 ((ax.low (by omega)).trans (aU_X n0 (Nat.le_refl _)) (Nat.le_refl _)) v7 (by rw [u2, ka]; rfl)
  · have er : r = (bwS b e 0 12 (p + 1, none), h, 0) := by rw [hr, if_neg z]
    have ev : bwV b e 0 12 (p + 1, none) = -1 := bwV_flt z
    rw [ev]
    refine ⟨by decide, k3, by decide, 1, 0, by omega, Nat.zero_le _, ?_⟩
    refine c_122f (d := d + 3 * k + 12) (s := (p, none)) hsp (Nat.le_refl _) (fault (S3.newA 19 0) 0 _ _ ?_ ?_ ⟨_, _, g3.2.2.2.1.pr (prF_new (Nat.le_succ _) (oAg_newA (P := fun a => a < S3.n) (Nat.lt_irrefl _)) (by omega)) g3.2.1⟩ (by rw [er]; exact z) (by rw [or_newA_n]; omega) (by rw [or_newA_K, if_pos rfl]) (by rw [or_newA_len, if_pos rfl]) (Nat.zero_le _) (fun j hj => absurd hj (Nat.not_lt_zero _)))
    · exact (prF_new (Nat.le_succ _) (oAg_newA (P := fun a => a < S3.n) (Nat.lt_irrefl _)) (by omega)).v
    · rw [er]
      have ag9 : oAg (fun a => a < S3.n) S3 (S3.newA 19 0) := oAg_newA (P := fun a => a < S3.n) (Nat.lt_irrefl _)
      have a9 := ag9 x (by show x < S3.n; omega)
      exact h3.keep (prF_new (Nat.le_succ _) ag9 (by omega)) (by omega) (a9.2.2.1 62) (a9.2.2.1 63)
end C121
