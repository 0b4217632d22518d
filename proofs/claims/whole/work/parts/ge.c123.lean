/-! the class reads: a code -/
section C123
variable {sp : ox_E} {d mr sr : Nat} {Q : ox_Q} {x e nc K op k : Nat} {b : Nat → Nat} {O : Nat → Prop} {S S' : ox_St} {s : oTS} {α α' : Int → Nat} {h : pH}
theorem rfS_flt {s : oTS} (h : s.2 ≠ none) : rfS s = s := by
  obtain ⟨p, f⟩ := s
  cases f with
  | none => exact absurd rfl h
  | some v => rfl
theorem hdS_flt {s : oTS} (h : s.2 ≠ none) : hdS b e s = s := by
  have e1 : hd3 b e s = s := by
    unfold hd3
    rw [bwS_flt h, bwS_flt h, bwS_flt h]
  have e2 : inA b e s = s := by
    unfold inA
    by_cases c : s.1 < e ∧ b s.1 % 2 = 0
    · rw [if_pos c]
    · rw [if_neg c]; exact rfS_flt h
  have e3 : inB b e s = s := by unfold inB; rw [e2, bwS_flt h]
  have e4 : inL b e s = 0 := by unfold inL; rw [e3, if_neg h]
  unfold hdS
  rw [e1]
  unfold inS
  rw [e3, e4, bwS_flt h]
  rfl
theorem bwV_lo {lo hi : Nat} {s : oTS} (hb : ∀ i, i < e → b i < 256) : (if bwV b e lo hi s < 0 then 0 else bwV b e lo hi s) = nI (if (bwS b e lo hi s).2 = none then b s.1 else 0) := by
  by_cases c : (bwS b e lo hi s).2 = none
  · obtain ⟨-, g2, -, g4⟩ := bwS_none c
    have := hb _ g2.1
    rw [if_pos c, g4, if_neg (nI_pos (by omega))]
  · rw [if_neg c, bwV_flt c]; rfl
theorem bwV_cnt {lo hi : Nat} {s : oTS} : bwV b e lo hi s = nI (if (bwS b e lo hi s).2 = none then b s.1 else 0) ∨ bwV b e lo hi s = -1 ∧ (if (bwS b e lo hi s).2 = none then b s.1 else 0) = 0 := by
  by_cases c : (bwS b e lo hi s).2 = none
  · left; rw [if_pos c]; exact (bwS_none c).2.2.2
  · right; exact ⟨bwV_flt c, if_neg c⟩
theorem mkC_f {a : Nat} {w1 w2 w3 : Int32} {t1 t2 t3 : Nat} : oAg (fun q => q ≠ a) S (oMkCode S a w1 w2 w3 t1 t2 t3) ∧ (oMkCode S a w1 w2 w3 t1 t2 t3).n = S.n ∧ (oMkCode S a w1 w2 w3 t1 t2 t3).K = S.K ∧ (oMkCode S a w1 w2 w3 t1 t2 t3).len = S.len ∧ ((oMkCode S a w1 w2 w3 t1 t2 t3).I 6 a = 10 ∧ (oMkCode S a w1 w2 w3 t1 t2 t3).I 7 a = w1 ∧ (oMkCode S a w1 w2 w3 t1 t2 t3).I 8 a = w2 ∧ (oMkCode S a w1 w2 w3 t1 t2 t3).I 9 a = w3) ∧ (oMkCode S a w1 w2 w3 t1 t2 t3).R 10 a = t1 ∧ (oMkCode S a w1 w2 w3 t1 t2 t3).R 11 a = t2 ∧ (oMkCode S a w1 w2 w3 t1 t2 t3).R 12 a = t3 := by
  refine ⟨(((((oV0_ag (P := fun q => q ≠ a) (fun z => z rfl)).trans (oAg_sI (fun z => z rfl))).trans (oAg_sI (fun z => z rfl))).trans (oAg_sR (fun z => z rfl))).trans (oAg_sR (fun z => z rfl))).trans (oAg_sR (fun z => z rfl)), rfl, rfl, rfl, ⟨?_, ?_, ?_, ?_⟩, ?_, ?_, ?_⟩
  · unfold oMkCode oV0
    rw [or_sR_I, or_sR_I, or_sR_I, or_sI_I, if_neg (fun z => by cases z.1), or_sI_I, if_neg (fun z => by cases z.1), or_sI_I, if_neg (fun z => by cases z.1), or_sI_I, if_pos ⟨rfl, rfl⟩]
  · unfold oMkCode oV0
    rw [or_sR_I, or_sR_I, or_sR_I, or_sI_I, if_neg (fun z => by cases z.1), or_sI_I, if_neg (fun z => by cases z.1), or_sI_I, if_pos ⟨rfl, rfl⟩]
  · unfold oMkCode oV0
    rw [or_sR_I, or_sR_I, or_sR_I, or_sI_I, if_neg (fun z => by cases z.1), or_sI_I, if_pos ⟨rfl, rfl⟩]
  · unfold oMkCode oV0
    rw [or_sR_I, or_sR_I, or_sR_I, or_sI_I, if_pos ⟨rfl, rfl⟩]
  · unfold oMkCode oV0
    rw [or_sR_R, if_neg (fun z => by cases z.1), or_sR_R, if_neg (fun z => by cases z.1), or_sR_R, if_pos ⟨rfl, rfl⟩]
  · unfold oMkCode oV0
    rw [or_sR_R, if_neg (fun z => by cases z.1), or_sR_R, if_pos ⟨rfl, rfl⟩]
  · unfold oMkCode oV0
    rw [or_sR_R, if_pos ⟨rfl, rfl⟩]
/-- the code's object, made -/
def cdM1 (S7 S : ox_St) (w1 w2 w3 : Int32) (t1 t2 : Nat) : Prop := S.K (S7.n + 1) = 3 ∧ (S.I 6 (S7.n + 1) = 10 ∧ S.I 7 (S7.n + 1) = w1 ∧ S.I 8 (S7.n + 1) = w2 ∧ S.I 9 (S7.n + 1) = w3) ∧ S.R 10 (S7.n + 1) = t1 ∧ S.R 11 (S7.n + 1) = t2 ∧ S.R 12 (S7.n + 1) = S7.n
/-- behind the constants: names, the code itself -/
theorem c123_57 (hsp : ox_mono sp) {S7 : ox_St} {s7 : oTS} {x1 w1 w2 w3 : Int32} {t1 t2 : Nat} (t : tpS S7 x b e s7) (hx : x + 119 ≤ S7.n) (m1 : 2 ≤ mr) (m2 : 19 ≤ sr)
    (hQ : ∀ S10 mr' sr', prF x S7 S10 → S10.n = S7.n + 2 → tpS S10 x b e (nmS b e s7) → cdM1 S7 S10 w1 w2 w3 t1 t2 → S10.K S7.n = 16 → S10.len S7.n = nmC b e s7 → ((nmS b e s7).2 = none → ∀ j, j < nmC b e s7 → S10.rJ S7.n j = lN (nmV b ((nmN b e (bwS b e 0 12 s7) j).1 + 1) (nmL b e (nmN b e (bwS b e 0 12 s7) j)))) → mr ≤ mr' + 2 → sr ≤ sr' + 19 → k_123_89 (ox_M sp (d + 3)) x x1 w1 w2 w3 t1 t2 S7.n (S7.n + 1) mr' sr' Q none S10) : k_123_57 (ox_M sp (d + 3)) x x1 w1 w2 w3 t1 mr sr Q (some (.inr (.inr t2))) S7 := by
  have hE : ox_mono (ox_M sp (d + 3)) := ox_M_mono hsp _
  have k7 : S7.K x = 13 := t.1.obj (o := 0) (k := 13) (by decide)
  refine f_123_57 hE ⟨by decide, k7, by decide, 0, 0, Nat.zero_le _, Nat.zero_le _, ?_⟩
  refine s_115 (lo := 0) (hi := 12) hsp t (by omega) (by decide) (by decide) (fun S8 f8 n8 h8 => f_123_67 hE ?_)
  have k8 : S8.K x = 13 := h8.1.obj (o := 0) (k := 13) (by decide)
  have nc12 : nmC b e s7 ≤ 12 := by
    unfold nmC
    by_cases c : (bwS b e 0 12 s7).2 = none
    · rw [if_pos c]; exact (bwS_none c).2.1.2.2
    · rw [if_neg c]; exact Nat.zero_le _
  refine ⟨by decide, k8, by decide, 1, 12, by omega, by omega, ?_⟩
  refine s_125 (d := d + 1) (n := nmC b e s7) hsp h8 (by omega) nc12 bwV_cnt (Nat.le_refl _) (Nat.le_refl _) (fun S9 f9 n9 h9 q1 q2 q3 => f_123_70 hE ?_)
  rw [n8] at n9 q1 q2 q3
  rw [n8]
  have ag : oAg (fun a => a < S9.n) S9 (S9.newO 3) := oAg_newO (P := fun a => a < S9.n) (Nat.lt_irrefl _)
  have kn : (S9.newO 3).K S9.n = 3 := by rw [or_newO_K, if_pos rfl]
  refine ⟨by omega, by omega, by decide, by omega, by decide, 0, 0, Nat.zero_le _, Nat.zero_le _, ?_⟩
  show ox_M sp (d + 3) 15 _ 0 0 (S9.newO 3) _
  refine s_15 (d := d + 1) hsp (by omega) kn ?_
  obtain ⟨c1, c2, c3, c4, c5, c6, c7, c8⟩ := mkC_f (S := S9.newO 3) (a := S9.n) (w1 := w1) (w2 := w2) (w3 := w3) (t1 := t1) (t2 := t2) (t3 := S7.n)
  have ag2 : oAg (fun a => a < S9.n) S9 (oMkCode (S9.newO 3) S9.n w1 w2 w3 t1 t2 S7.n) := ag.trans (c1.sub (fun a ha => by omega))
  have nn : (oMkCode (S9.newO 3) S9.n w1 w2 w3 t1 t2 S7.n).n = S7.n + 2 := by rw [c2, or_newO_n]; omega
  have kU : (oMkCode (S9.newO 3) S9.n w1 w2 w3 t1 t2 S7.n).K S9.n = 3 := by rw [c3]; exact kn
  clear c1 c2 c3 c4
  generalize oMkCode (S9.newO 3) S9.n w1 w2 w3 t1 t2 S7.n = U at c5 c6 c7 c8 ag2 nn kU ⊢
  have f10 : prF x S9 U := prF_new (by omega) ag2 (by omega)
  have a0 := ag2 x (by show x < S9.n; omega)
  have t10 := h9.keep f10 (by omega) (a0.2.2.1 62) (a0.2.2.1 63)
  have r10 := (f10.v.at (a := S7.n) (by omega) (by omega) (by omega) (by rw [q1]; decide)).2.2.2.2.2.2.2
  have kl := f10.2.1 S7.n (by omega)
  rw [n9] at c5 c6 c7 c8 kU ⊢
  exact hQ U _ _ ((f8.trans f9).trans f10) nn t10 ⟨kU, c5, c6, c7, c8⟩ (kl.1.trans q1) (kl.2.trans q2) (fun z j hj => by rw [r10 j]; exact q3 z j hj) (by omega) (by omega)
theorem cCd_mk {C : Nat → xCd} {c a : Nat} {κ : xCd} (hC : C c = κ) (hα : α (-1 - (c : Int)) = a) (h1 : x + 119 ≤ a) (h2 : a < S.n) (h3 : cSh S a κ.1) (h4 : S.I 6 a = 10) (h5 : tRw x S.n (S.R 10 a) ∧ tRw x S.n (S.R 11 a) ∧ tRw x S.n (S.R 12 a)) (h6 : ∀ i, i < κ.2.1.length → vC S x α (κ.2.1.getD i 0) (S.rR (S.R 11 a) i)) (h7 : ∀ i, i < κ.2.2.length → S.rJ (S.R 12 a) i = lN (κ.2.2.getD i 0)) : cCd S x α C c := by
  unfold cCd
  rw [hC, hα]
  exact ⟨h1, h2, h3, h4, h5, h6, h7⟩
/-- a code, read to its end -/
theorem c123_ok (hsp : ox_mono sp) (hg : adH sp) (hG : rdG e K k (rdO b e k)) (hb : ∀ i, i < e → b i < 256) (g : cG x b e nc K op O S s α h) (hO : ∀ u, O u → u < S.n) {p q0 : Nat} (ep : p = s.1 + 1) (pe : p ≤ e) (z5 : (hdS b e (p, none)).2 = none) (eq0 : q0 = (hdS b e (p, none)).1) (q0e : q0 < e ∧ b q0 ≤ 12) {R : pR (List Int)} (eR : R = rdL (rdO b e k) (b q0) (q0 + 1, none) h.bg) {r : pR Int} (er : r = rdC b e (rdO b e k) (p, none) h) (er2 : r = rdC2 b e p h.c R) (y : R.1.2 = none)
    {S6 S7 : ox_St} {w1 w2 w3 x1 : Int32} {α7 : Int → Nat} (f06 : prV x S S6) (n6 : S6.n = S.n + 1) (i1 : S6.K S.n = 15) (i2 : S6.len S.n = inL b e (hd3 b e (p, none))) (i3 : ∀ j, j < inL b e (hd3 b e (p, none)) → S6.rI S.n j = nI (b ((hd3 b e (p, none)).1 + 2 + j))) (hw1 : bwV b e 0 4 (p, none) = w1) (hw2 : bwV b e (hdA b e (p, none)) 8 (bwS b e 0 4 (p, none)) = w2) (hw3 : bwV b e 1 10 (bwS b e (hdA b e (p, none)) 8 (bwS b e 0 4 (p, none))) = w3)
    (f7 : prV x S6 S7) (g7 : cG x b e nc K (op + 1) (fun u => O u ∨ u = S6.n) S7 R.1 α7 R.2.1) (ax : aX S6.n α α7) (n7 : S6.n < S7.n) (kt : S7.K S6.n = 19) (lt : S7.len S6.n = b q0) (hrow : ∀ j, j < b q0 → vC S7 x α7 (R.2.2.getD j 0) (S7.rR S6.n j)) (m1 : 3 ≤ mr) (m2 : 169 ≤ sr) (hQ : cPo x b e nc K op O S α r Q) : k_123_57 (ox_M sp (d + 11)) x x1 w1 w2 w3 S.n mr sr Q (some (.inr (.inr S6.n))) S7 := by
  have hE : ox_mono (ox_M sp (d + 11)) := ox_M_mono hsp _
  have x119 : x + 119 ≤ S.n := g.2.1.2.2.2.1
  have f07 := f06.trans f7
  have er3 : r = (nmS b e R.1, R.2.1.fin h.c (cdAt b e p R.2.2 R.1.1), -1 - (h.c : Int)) := by rw [er2]; exact if_pos y
  refine c123_57 (d := d + 8) hsp g7.1 (by omega) (by omega) (by omega) (fun S10 mr2 sr2 f10 n10 t10 cf kn ln nmf e1 e2 => f_123_89 hE ?_)
  have k10 : S10.K x = 13 := t10.1.obj (o := 0) (k := 13) (by decide)
  by_cases z : (nmS b e R.1).2 = none
  · have i63 : S10.I 63 x = -1 := by
      have := t10.2.2.2.2.2.1
      rw [z] at this
      exact this
    have r64 : S10.R 64 x = x + 2 := t10.1.ref (F := 64) (o := 0) (t := 2) (by decide)
    have kl2 : S10.K (x + 2) = 1 := t10.1.obj (o := 2) (k := 1) (by decide)
    refine ⟨by rw [k10]; rfl, fun w => absurd i63 w, fun _ => ⟨by rw [k10]; rfl, by decide, by rw [r64]; exact kl2, by decide, 1, 150, by omega, by omega, ?_⟩⟩
    rw [r64]
    have g10 := g7.mv f10 t10 nmS_ge
    have xh : xHOk h.c K h.H h.n := g.2.2.1.2.2.2.2.2.1
    have hn : (rdC b e (rdO b e k) (p, none) h).1.2 = none := by rw [← er, er3]; exact z
    obtain ⟨c1, c2, -, -, -⟩ := rdC_G hb hG (p, none) h rfl pe xh hn
    rw [← er, er3] at c1
    have y' : (rdL (rdO b e k) (b q0) (q0 + 1, none) h.bg).1.2 = none := by rw [← eR]; exact y
    obtain ⟨d1, d2, d3, -⟩ := rdL_G hG (b q0) (q0 + 1, none) h.bg rfl (by show q0 + 1 ≤ e; omega) (xHOk.nc xh (Nat.le_succ _)) y'
    rw [← eR] at d1 d3
    clear eR er2 er hn y'
    obtain ⟨R1, h7, l⟩ := R
    have y2 : R1.2 = none := y
    have z2 : (nmN b e (bwS b e 0 12 R1) (nmC b e R1)).2 = none := z
    obtain ⟨v1, v2⟩ := nmN_none _ z2
    obtain ⟨-, u2, u3, -⟩ := bwS_none v1
    have eC : nmC b e R1 = b R1.1 := if_pos v1
    have d3' : l.length = b q0 := d3
    have c1' : pOk e K (p, none) h (nmS b e R1) (h7.fin h.c (cdAt b e p l R1.1)) := c1
    have d1' : pOk e K (q0 + 1, none) h.bg R1 h7 := d1
    have g10' : cG x b e nc K (op + 1) (fun u => O u ∨ u = S6.n) S10 (nmS b e R1) α7 h7 := g10
    have t10' : tpS S10 x b e (nmS b e R1) := t10
    have cc : h.c + 1 ≤ h7.c := d1'.2.1.1
    have c9 : 9 * h7.c + p ≤ 9 * h.c + (nmS b e R1).1 := c1'.2.1.2
    have g9 : 9 * h.c ≤ 9 * nc + 9 * op + s.1 := g.2.2.2.2.2.2.2
    have gnc : nc ≤ h.c := g.2.2.2.2.2.1
    have l4 : h7.l.length + nc + (op + 1) ≤ h7.c := g10'.2.2.2.2.2.2.1
    have pl : (nmS b e R1).1 ≤ e := t10'.2.2.2.2.1
    have e8 : e ≤ 800 := t10'.2.2.1
    have l99 : h7.l.length ≤ 99 := by omega
    have hc3 : h.c ∉ h7.l := fun w => by
      obtain ⟨ln', m1', -, m3'⟩ := d1'.2.2.2.2.2.2
      rw [m1'] at w
      rcases List.mem_append.mp w with q | q
      · have := g.2.2.2.2.1 _ q; omega
      · have : h.c + 1 ≤ h.c := (m3' _ q).1
        omega
    have pcd : pCd (cdAt b e p l R1.1) := by
      obtain ⟨ln', -, m2', m3'⟩ := c1'.2.2.2.2.2.2
      have := (m3' h.c (m2' h.c (Nat.le_refl _) (by show h.c < h7.c; omega))).2.2.1
      have e3 : (h7.fin h.c (cdAt b e p l R1.1)).C h.c = cdAt b e p l R1.1 := if_pos rfl
      rw [e3] at this
      exact this
    have n0 : α7 (-1 - (h.c : Int)) = 0 := g10'.c0 gnc hc3
    have fr : ∀ v, α7 v ≠ S7.n + 1 := g7.fr (Nat.le_succ _)
    obtain ⟨hz1, -, hz3⟩ := hdS_none z5
    obtain ⟨-, -, -, -, -, -, -, -, a1, a2, a3, a4⟩ := hd3_none hz1
    have hz3' : hd3 b e (p, none) = (p + 3, none) := hz3
    have a3' : bwS b e 0 4 (p, none) = (p + 1, none) := a3
    have a4' : bwS b e (hdA b e (p, none)) 8 (bwS b e 0 4 (p, none)) = (p + 2, none) := a4
    have ew1 : w1 = nI (b p) := by rw [← hw1]; exact (bwS_none a1).2.2.2
    have ew2 : w2 = nI (b (p + 1)) := by
      rw [← hw2, (bwS_none a2).2.2.2, a3']
    have ew3 : w3 = nI (b (p + 2)) := by
      rw [← hw3, (bwS_none (s := bwS b e (hdA b e (p, none)) 8 (bwS b e 0 4 (p, none))) hz1).2.2.2, a4']
    obtain ⟨b1, b2, -, -, -, b6, -, -⟩ := f7.at (a := S.n) (by omega) (by omega) (by omega) (by rw [i1]; decide)
    obtain ⟨b1', b2', -, -, -, b6', -, -⟩ := f10.v.at (a := S.n) (by omega) (by omega) (by omega) (by rw [b1, i1]; decide)
    obtain ⟨h1', h2', -, -, -, -, h7', -⟩ := f10.v.at (a := S6.n) (by omega) (by omega) (by omega) (by rw [kt]; decide)
    obtain ⟨cf1, ⟨cf6, cf7, cf8, cf9⟩, cf10, cf11, cf12⟩ := cf
    have hrow' : ∀ j, j < b q0 → vC S7 x α7 (l.getD j 0) (S7.rR S6.n j) := hrow
    have nmf' := nmf z
    rw [hz3'] at i2 i3
    have lnT : (nmT b e (R1.1 + 1, none) (b R1.1)).length = b R1.1 := nmT_len _
    have ho : cCd S10 x (aU α7 (-1 - (h.c : Int)) (S7.n + 1)) (fun i => if i = h.c then cdAt b e p l R1.1 else h7.C i) h.c := by
      refine cCd_mk (κ := cdAt b e p l R1.1) (a := S7.n + 1) (if_pos rfl) (if_pos rfl) (by omega) (by omega) ⟨cf1, ⟨by rw [cf7, ew1]; rfl, by rw [cf8, ew2]; rfl, by rw [cf9, ew3]; rfl⟩, ⟨by rw [cf10, b1', b1]; exact i1, by rw [cf10, b2', b2]; exact i2, fun j hj => ?_⟩, ⟨by rw [cf11, h1']; exact kt, by rw [cf11, h2', lt]; exact d3'.symm⟩, ⟨by rw [cf12]; exact kn, by rw [cf12, ln]; exact eC⟩, pcd.1⟩ cf6 ⟨by rw [cf10]; exact ⟨by omega, Or.inr (Or.inr (by omega))⟩, by rw [cf11]; exact ⟨by omega, Or.inr (Or.inr (by omega))⟩, by rw [cf12]; exact ⟨by omega, Or.inr (Or.inr (by omega))⟩⟩ (fun i hi => ?_) (fun i hi => ?_)
      · have hj' : j < inL b e (p + 3, none) := hj
        rw [cf10, b6', b6, i3 j hj']
        show nI (b (p + 3 + 2 + j)) = nI (if j < inL b e (p + 3, none) then b (p + 5 + j) else 0)
        rw [if_pos hj', show p + 3 + 2 + j = p + 5 + j by omega]
      · have hi' : i < l.length := hi
        rw [cf11, h7']
        refine (hrow' i (by omega)).pr f10.v (fun _ hne => if_neg (fun w => hne ?_))
        have w' : l.getD i 0 = -1 - (h.c : Int) := w
        show α7 (l.getD i 0) = 0
        rw [w']; exact n0
      · have hi' : i < (nmT b e (R1.1 + 1, none) (b R1.1)).length := hi
        rw [lnT] at hi'
        rw [cf12, nmf' i (by show i < nmC b e R1; omega)]
        show lN _ = lN ((nmT b e (R1.1 + 1, none) (b R1.1)).getD i 0)
        rw [nmT_at _ i hi', u3]
    have g11 : cG x b e nc K (op + 1) O S10 (nmS b e R1) α7 h7 := ⟨g10'.1, g10'.2.1, g10'.2.2.1.sub (fun t ht => Or.inl ht), g10'.2.2.2⟩
    refine c_226 (d := d + 3) hsp hg g11.2.2.2.1 (by omega) l99 (fun j hj => by
      have hm : h7.l.getD j 0 ∈ h7.l := by
        rw [List.getD_eq_getElem?_getD, List.getElem?_eq_getElem hj]
        exact List.getElem_mem hj
      have cc7 := g11.2.2.1.2.1 _ (Or.inr hm)
      exact ⟨cc7.2.2.1.1, cc7.2.1⟩) (by omega) cf1 (Nat.le_refl _) (Nat.le_refl _) (fun S11 f11 i11 ls => f_123_108 hE ⟨rfl, ?_⟩)
    have t11 : tpS S11 x b e (nmS b e R1) := t10'.kv f11 (by omega) (i11 62) (i11 63)
    obtain ⟨g12, v12⟩ := g11.fin (κ := cdAt b e p l R1.1) gnc (by omega) hc3 f11 t11 ls (by omega) (by omega) fr ho (by rw [cf11]; exact fun w => by have := hO _ w; omega) (by omega)
    have hQ2 := hQ.2
    rw [er3] at hQ2
    exact hQ2 z S11 _ (S7.n + 1) ((f07.trans f10.v).trans f11) g12 ((ax.low (by omega)).trans (aU_X (k := S.n) n0 (by omega)) (Nat.le_refl _)) v12 (by rw [(f11.2.1 _ (by omega)).1, cf1]; rfl)
  · have i63 : ¬ S10.I 63 x = -1 := by
      have e63 := t10.2.2.2.2.2.1
      cases w : (nmS b e R.1).2 with
      | none => exact absurd w z
      | some v =>
        have hv := t10.2.2.2.2.2.2.1 v w
        rw [w] at e63
        rw [e63]
        exact nI_m1 (by omega)
    refine ⟨by rw [k10]; rfl, fun _ => ⟨rfl, ?_⟩, fun w => absurd w i63⟩
    have hQ1 := hQ.1
    rw [er3] at hQ1
    exact hQ1 z S10 _ (f07.trans f10.v) t10 ⟨_, _, g7.2.2.2.1.pr f10 g7.2.1⟩ (Or.inr (by rw [cf.1]; rfl))
/-- codeAt -/
theorem c_123 (hsp : ox_mono sp) (hg : adH sp) (hf : cRo sp x b e nc K k) (hG : rdG e K k (rdO b e k)) (hk : k ≤ 4) (g : cG x b e nc K op O S s α h) (hs : s.2 = none) (hO : ∀ u, O u → u < S.n) {r : pR Int} (hr : r = if (bwS b e 99 99 s).2 = none then rdC b e (rdO b e k) (s.1 + 1, none) h else (bwS b e 99 99 s, h, 0)) (m1 : 8 + 8 * (r.1.1 - (s.1 + 1)) ≤ mr) (m2 : 400 + 400 * (r.1.1 - (s.1 + 1)) ≤ sr) (hQ : cPo x b e nc K op O S α r Q) : ox_M sp (d + 3 * k + 14) 123 [.inr (.inr x), .inl (nI (6 - (k + 1)))] mr sr S Q := by
  have hE : ox_mono (ox_M sp (d + 3 * k + 13)) := ox_M_mono hsp _
  have x119 : x + 119 ≤ S.n := g.2.1.2.2.2.1
  have hb : ∀ i, i < e → b i < 256 := fun i hi => (g.1.2.2.2.2.2.2.2 i hi).2
  have k0 : S.K x = 13 := g.1.1.obj (o := 0) (k := 13) (by decide)
  refine f_123 (d := d + 3 * k + 13) hsp ⟨by decide, k0, by decide, 0, 0, Nat.zero_le _, Nat.zero_le _, ?_⟩
  refine s_115 (lo := 99) (hi := 99) hsp g.1 (by omega) (by decide) (by decide) (fun S1 f1 n1 h1 => f_123_8 hE ?_)
  have k1 : S1.K x = 13 := h1.1.obj (o := 0) (k := 13) (by decide)
  refine ⟨by decide, k1, by decide, 0, 0, Nat.zero_le _, Nat.zero_le _, ?_⟩
  refine s_115 (lo := 0) (hi := 4) hsp h1 (by omega) (by decide) (by decide) (fun S2 f2 n2 h2 => f_123_15 hE ?_)
  have k2 : S2.K x = 13 := h2.1.obj (o := 0) (k := 13) (by decide)
  have eA : (if bwV b e 0 4 (bwS b e 99 99 s) < 0 then 0 else bwV b e 0 4 (bwS b e 99 99 s)) = nI (hdA b e (bwS b e 99 99 s)) := bwV_lo hb
  have hA4 := hdA_le (b := b) (e := e) (s := bwS b e 99 99 s)
  unfold q_123_15
  rw [eA]
  refine ⟨by decide, by decide, k2, by decide, 0, 0, Nat.zero_le _, Nat.zero_le _, ?_⟩
  refine s_115 (lo := hdA b e (bwS b e 99 99 s)) (hi := 8) hsp h2 (by omega) (by omega) (by decide) (fun S3 f3 n3 h3 => f_123_27 hE ?_)
  have k3 : S3.K x = 13 := h3.1.obj (o := 0) (k := 13) (by decide)
  refine ⟨by decide, k3, by decide, 0, 0, Nat.zero_le _, Nat.zero_le _, ?_⟩
  refine s_115 (lo := 1) (hi := 10) hsp h3 (by omega) (by decide) (by decide) (fun S4 f4 n4 h4 => f_123_35 hE ?_)
  have k4 : S4.K x = 13 := h4.1.obj (o := 0) (k := 13) (by decide)
  refine ⟨by decide, k4, by decide, 1, 160, by omega, by omega, ?_⟩
  refine s_124 (d := d + 3 * k + 11) hsp h4 (by omega) (Nat.le_refl _) (Nat.le_refl _) (fun S5 f5 n5 h5 i1 i2 i3 => f_123_41 hE ?_)
  have k5 : S5.K x = 13 := h5.1.obj (o := 0) (k := 13) (by decide)
  refine ⟨by decide, k5, by decide, 0, 0, Nat.zero_le _, Nat.zero_le _, ?_⟩
  refine s_115 (lo := 0) (hi := 12) hsp h5 (by omega) (by decide) (by decide) (fun S6 f6 n6 h6 => f_123_51 hE ?_)
  have k6 : S6.K x = 13 := h6.1.obj (o := 0) (k := 13) (by decide)
  have h6' : tpS S6 x b e (bwS b e 0 12 (hdS b e (bwS b e 99 99 s))) := h6
  have nS : S4.n = S.n := by omega
  have f06 : prF x S S6 := ((((f1.trans f2).trans f3).trans f4).trans f5).trans f6
  have i1' : S6.K S.n = 15 := by rw [(f6.2.1 _ (by omega)).1, ← nS]; exact i1
  have i2' : S6.len S.n = inL b e (hd3 b e (bwS b e 99 99 s)) := by rw [(f6.2.1 _ (by omega)).2, ← nS]; exact i2
  have i3' : (hdS b e (bwS b e 99 99 s)).2 = none → ∀ j, j < inL b e (hd3 b e (bwS b e 99 99 s)) → S6.rI S.n j = nI (b ((hd3 b e (bwS b e 99 99 s)).1 + 2 + j)) := fun z j hj => by
    rw [(f6.v.at (a := S.n) (by omega) (by omega) (by omega) (by rw [← nS, i1]; decide)).2.2.2.2.2.1 j, ← nS]
    exact i3 z j hj
  have n6' : S6.n = S.n + 1 := by omega
  rw [nS]
  generalize hw1 : bwV b e 0 4 (bwS b e 99 99 s) = w1
  generalize hw2 : bwV b e (hdA b e (bwS b e 99 99 s)) 8 (bwS b e 0 4 (bwS b e 99 99 s)) = w2
  generalize hw3 : bwV b e 1 10 (bwS b e (hdA b e (bwS b e 99 99 s)) 8 (bwS b e 0 4 (bwS b e 99 99 s))) = w3
  have lv : nI (6 - (k + 1)) + 1 = nI (6 - k) := by rw [nI_1, show 6 - (k + 1) + 1 = 6 - k by omega]
  -- a fault
  have fault : ∀ (S7 : ox_St) (s7 : oTS) (t2 mr' sr' : Nat), prV x S S7 → tpS S7 x b e s7 → oLx S7 x → s7.2 ≠ none → s7 = r.1 → x + 119 ≤ S7.n → 2 ≤ mr' → 19 ≤ sr' → k_123_57 (ox_M sp (d + 3 * k + 13)) x (nI (6 - (k + 1))) w1 w2 w3 S.n mr' sr' Q (some (.inr (.inr t2))) S7 := by
    intro S7 s7 t2 mr' sr' f7 t7 lx z er hx7 q1 q2
    have eN : nmS b e s7 = s7 := by
      have eC : nmC b e s7 = 0 := by unfold nmC; rw [bwS_flt z, if_neg z]
      unfold nmS
      rw [eC, bwS_flt z]; rfl
    refine c123_57 (d := d + 3 * k + 10) hsp t7 hx7 q1 q2 (fun S10 mr2 sr2 f10 n10 t10 cf _ _ _ _ _ => f_123_89 hE ?_)
    rw [eN] at t10
    have k10 : S10.K x = 13 := t10.1.obj (o := 0) (k := 13) (by decide)
    have i63 : ¬ S10.I 63 x = -1 := by
      have e63 := t10.2.2.2.2.2.1
      cases w : s7.2 with
      | none => exact absurd w z
      | some v =>
        have hv := t10.2.2.2.2.2.2.1 v w
        rw [w] at e63
        rw [e63]
        exact nI_m1 (by omega)
    refine ⟨by rw [k10]; rfl, fun _ => ⟨rfl, ?_⟩, fun y => absurd y i63⟩
    exact hQ.1 (by rw [← er]; exact z) S10 _ (f7.trans f10.v) (by rw [← er]; exact t10) (lx.pr f10 (g.2.1.pr f7)) (Or.inr (by rw [cf.1]; rfl))
  have eh : inS b e (bwS b e 1 10 (bwS b e (hdA b e (bwS b e 99 99 s)) 8 (bwS b e 0 4 (bwS b e 99 99 s)))) = hdS b e (bwS b e 99 99 s) := rfl
  unfold q_123_51
  rw [lv, eh]
  by_cases z6 : (bwS b e 0 12 (hdS b e (bwS b e 99 99 s))).2 = none
  · obtain ⟨z5, v2, v3, v4⟩ := bwS_none z6
    have z1 : (bwS b e 99 99 s).2 = none := (hdS_none z5).2.1
    obtain ⟨-, u2, u3, -⟩ := bwS_none z1
    have er : r = rdC b e (rdO b e k) (s.1 + 1, none) h := by rw [hr, if_pos z1]
    rw [u3] at z5 z6 v2 v3 v4 i2' i3' hw1 hw2 hw3 h6'
    have er2 : r = rdC2 b e (s.1 + 1) h.c (rdL (rdO b e k) (b (hdS b e (s.1 + 1, none)).1) (bwS b e 0 12 (hdS b e (s.1 + 1, none))) h.bg) := by rw [er]; exact if_pos z6
    have xh : xHOk h.c K h.H h.n := g.2.2.1.2.2.2.2.2.1
    have hdat := hdS_at z5 hb
    have place : (s.1 + 1) + 5 ≤ (hdS b e (s.1 + 1, none)).1 := by
      have e1 : (hdS b e (s.1 + 1, none)).1 = s.1 + 1 + 5 + inL b e (s.1 + 1 + 3, none) := by rw [hdat.2.1]
      omega
    have g6 : cG x b e nc K (op + 1) O S6 (bwS b e 0 12 (hdS b e (s.1 + 1, none))) α h.bg := g.bg.mv f06 h6' (by rw [v3]; show s.1 ≤ (hdS b e (s.1 + 1, none)).1 + 1; omega)
    have b12 : b (hdS b e (s.1 + 1, none)).1 ≤ 12 := v2.2.2
    rw [u3, v4]
    rw [v3] at g6 er2
    have ge7 := rdL_ge (rdO_ge (b := b) (e := e) k) (b (hdS b e (s.1 + 1, none)).1) ((hdS b e (s.1 + 1, none)).1 + 1, none) h.bg
    have ge8 : (rdL (rdO b e k) (b (hdS b e (s.1 + 1, none)).1) ((hdS b e (s.1 + 1, none)).1 + 1, none) h.bg).1.1 ≤ r.1.1 := by rw [er2]; exact rdC2_ge
    have ge7' : (hdS b e (s.1 + 1, none)).1 + 1 ≤ (rdL (rdO b e k) (b (hdS b e (s.1 + 1, none)).1) ((hdS b e (s.1 + 1, none)).1 + 1, none) h.bg).1.1 := ge7
    refine ⟨by decide, k6, by decide, 1 + 8 * ((rdL (rdO b e k) (b (hdS b e (s.1 + 1, none)).1) ((hdS b e (s.1 + 1, none)).1 + 1, none) h.bg).1.1 - ((hdS b e (s.1 + 1, none)).1 + 1)), 12 + 400 * ((rdL (rdO b e k) (b (hdS b e (s.1 + 1, none)).1) ((hdS b e (s.1 + 1, none)).1 + 1, none) h.bg).1.1 - ((hdS b e (s.1 + 1, none)).1 + 1)), by omega, by omega, ?_⟩
    refine c_122 (d := d) hsp hf b12 g6 rfl (fun u hu => by have := hO u hu; omega) (Nat.le_refl _) (Nat.le_refl _) (fun y S7 f7 t7 lx n7 kt lt hrow => ?_) (fun y S7 α7 f7 g7 ax n7 kt lt hrow => ?_)
    · have er3 : r.1 = (rdL (rdO b e k) (b (hdS b e (s.1 + 1, none)).1) ((hdS b e (s.1 + 1, none)).1 + 1, none) h.bg).1 := by
        rw [er2]; unfold rdC2; rw [if_neg y]
      exact fault S7 _ _ _ _ (f06.v.trans f7) t7 lx y er3.symm (by omega) (by omega) (by omega)
    · exact c123_ok (d := d + 3 * k + 2) hsp hg hG hb g hO rfl (by have := u2.1; omega) z5 rfl ⟨v2.1, b12⟩ rfl er er2 y f06.v n6' i1' i2' (i3' z5) hw1 hw2 hw3 f7 g7 ax n7 kt lt (fun j hj => (hrow j hj).1) (by omega) (by omega) hQ
  · have er : r.1 = bwS b e 0 12 (hdS b e (bwS b e 99 99 s)) := by
      by_cases z1 : (bwS b e 99 99 s).2 = none
      · obtain ⟨-, -, u3, -⟩ := bwS_none z1
        rw [hr, if_pos z1]
        rw [u3] at z6 ⊢
        unfold rdC
        rw [if_neg z6]
      · rw [hr, if_neg z1, hdS_flt z1, bwS_flt z1]
    rw [bwV_flt z6]
    refine ⟨by decide, k6, by decide, 1, 0, by omega, Nat.zero_le _, ?_⟩
    have ag9 : oAg (fun a => a < S6.n) S6 (S6.newA 19 0) := oAg_newA (P := fun a => a < S6.n) (Nat.lt_irrefl _)
    have a9 := ag9 x (by show x < S6.n; omega)
    have f9 : prF x S6 (S6.newA 19 0) := prF_new (Nat.le_succ _) ag9 (by omega)
    exact c_122f (d := d + 3 * k + 12) (s := s) hsp (Nat.le_refl _) (fault (S6.newA 19 0) _ _ _ _ (f06.trans f9).v (h6'.keep f9 (by omega) (a9.2.2.1 62) (a9.2.2.1 63)) ⟨_, _, (g.2.2.2.1.pr f06 g.2.1).pr f9 (g.2.1.pr f06.v)⟩ z6 er.symm (by rw [or_newA_n]; omega) (by omega) (by omega))
end C123
