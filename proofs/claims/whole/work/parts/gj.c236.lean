/-! the class reads: read, all of it -/
/-- behind a read: the tape is empty, the list is one -/
def cTl (V : ox_St) (x : Nat) : Prop := V.I 61 x = 0 ∧ oLx V x
section C236b
variable {sp : ox_E} {d mc ms : Nat} {Q : ox_Q} {x e nc K : Nat} {b : Nat → Nat} {S V : ox_St} {α α' : Int → Nat} {C : Nat → xCd} {s : xSt}
theorem cTl.lk (h : cTl S x) (hB : cBs S x) (f : lkF x S V) : cTl V x := ⟨by rw [f.fI (by decide)]; exact h.1, h.2.kl (oKl_of f.2.2.1 f.1 f.2.1) hB (f.fI (by decide)) (f.fR (by decide)) (f.fR (by decide))⟩
theorem cTl.s63 (h : cTl S x) (hB : cBs S x) {v : Int32} : cTl (S.sI 63 x v) x := ⟨by rw [or_sI_I, if_neg (fun z => by cases z.1)]; exact h.1, h.2.kl oKl_sI hB (by rw [or_sI_I, if_neg (fun z => by cases z.1)]) rfl rfl⟩
theorem cTl.nn (h : cTl S x) (hB : cBs S x) {n' : Nat} (hn : S.n ≤ n') : cTl (S.nn n') x := ⟨h.1, h.2.kl ⟨hn, fun _ _ => ⟨rfl, rfl⟩⟩ hB rfl rfl rfl⟩
theorem cTl.M0 (h : cTl S x) (hB : cBs S x) (f : cM0 x S V) : cTl V x := by
  have h0 : 0 < x := hB.2.1
  obtain ⟨-, -, a3, a4, -⟩ := f.2 (x + 2) ⟨by omega, fun z => by unfold cZ at z; omega⟩
  obtain ⟨-, -, b3, -⟩ := f.2 x ⟨by omega, fun z => by unfold cZ at z; omega⟩
  obtain ⟨-, -, -, c4, -⟩ := f.2 0 ⟨by omega, fun z => by unfold cZ at z; omega⟩
  exact ⟨(b3 61).trans h.1, h.2.kl f.1 hB (a3 2) (a4 1) (c4 142)⟩
/-- field 61 := 0 -/
theorem cTl_0 (h : oLx V x) (hB : cBs V x) : cTl (V.sI 61 x 0) x := ⟨by rw [or_sI_I, if_pos ⟨rfl, rfl⟩], h.kl oKl_sI hB (by rw [or_sI_I, if_neg (fun z => by cases z.1)]) rfl rfl⟩
/-- what a refused read leaves -/
def cRf (Q : ox_Q) (S : ox_St) (x : Nat) (α : Int → Nat) (C : Nat → xCd) (nc : Nat) (s : xSt) (t p : Int32) : Prop := ∀ V, rfF x S V → cR V x α C nc s → V.I 63 x = p → cTl V x → V.R 36 (x + 11) = S.R 36 (x + 11) → V.I 39 (x + 11) = S.I 39 (x + 11) → Q (some (.inl t)) V
/-- what a read leaves -/
def cRk (Q : ox_Q) (S : ox_St) (x nc : Nat) (s : xSt) (h : pH) : Prop := ∀ V α', rfF x S V → cR V x α' (cPn h.C α') h.c (xBeg (h.H, h.n, s.G, s.f, s.s, s.k, s.r) nc) → V.I 63 x = -1 → cTl V x → V.R 36 (x + 11) = α' (-1 - (nc : Int)) → V.I 39 (x + 11) = nI 0 → Q (some (.inl 0)) V
/-- what is known where the tape has been read, and its fault isn't asked for yet -/
def cFa (S : ox_St) (x : Nat) (b : Nat → Nat) (e nc K : Nat) (α : Int → Nat) (C : Nat → xCd) (s : xSt) (a : Nat) (T : ox_St) : Prop :=
  (∃ v V, (rdA b e (pH0 s C nc)).1.2 = some v ∧ prV x S V ∧ V.I 63 x = nI v ∧ ¬ V.I 63 x = -1 ∧ oLx V x ∧ T = V.sI 61 x 0) ∨
  ((rdA b e (pH0 s C nc)).1.2 = none ∧ ∃ V α', prV x S V ∧ V.I 63 x = -1 ∧ cG x b e nc K 0 (fun _ => False) V (rdA b e (pH0 s C nc)).1 α' (rdA b e (pH0 s C nc)).2.1 ∧ aX S.n (aZ α nc s.H) α' ∧ vC V x α' (rdA b e (pH0 s C nc)).2.2 a ∧ T = V.sI 61 x 0)
theorem c_236 (hsp : ox_mono sp) (hg : adH sp) (hR : cR S x α C nc s) (hw : xWf C nc K s) (nc3 : nc ≤ 300) (i61 : S.I 61 x = nI e) (e8 : e ≤ 800) (fb : ∀ i, i < e → S.rI (x + 1) i = nI (b i) ∧ b i < 256) (lx : oLx S x) (m1 : 8 * e + 9 ≤ mc) (m2 : 400 * e + 406 ≤ ms)
    (hA : ∀ v, (rdA b e (pH0 s C nc)).1.2 = some v → cRf Q S x α C nc s 1 (nI v))
    (hB : (rdA b e (pH0 s C nc)).1.2 = none → ∀ j, j < (rdA b e (pH0 s C nc)).2.1.l.length → (∀ a, a < j → ∃ T, okT ((rdA b e (pH0 s C nc)).2.1.C ((rdA b e (pH0 s C nc)).2.1.l.getD a 0)).1 T) → ¬ (∃ T, okT ((rdA b e (pH0 s C nc)).2.1.C ((rdA b e (pH0 s C nc)).2.1.l.getD j 0)).1 T) → cRf Q S x α C nc s 2 (nI (1000 * j)))
    (hG : (rdA b e (pH0 s C nc)).1.2 = none → (∀ c ∈ (rdA b e (pH0 s C nc)).2.1.l, ∃ T, okT ((rdA b e (pH0 s C nc)).2.1.C c).1 T) → cRk Q S x nc s (rdA b e (pH0 s C nc)).2.1) : lw_C236 (ox_M sp (d + 28)) [.inr (.inr x)] mc ms S Q := by
  have hB0 : cBs S x := hR.1
  have x119 : x + 119 ≤ S.n := hB0.2.2.2.1
  have k0 : S.K x = 13 := hB0.1.obj (o := 0) (k := 13) (by decide)
  have hl : s.f.length ≤ 8 := hw.2.2.2.1.1
  have hb : ∀ i, i < e → b i < 256 := fun i hi => (fb i hi).2
  have at11 : ∀ V, prV x S V → (∀ F, V.I F (x + 11) = S.I F (x + 11)) ∧ ∀ F, V.R F (x + 11) = S.R F (x + 11) := fun V f => by
    have := f.at (a := x + 11) (by omega) (by omega) (by omega) (fun z => hB0.1.k20 _ (by omega) (by omega) z)
    exact ⟨this.2.2.1, this.2.2.2.1⟩
  refine ⟨x, rfl, k0, ?_⟩
  refine ⟨Nat.le_refl 1, k0, (show 0 ≤ 8 by decide), 0, 0, Nat.zero_le _, Nat.zero_le _, ox_M_mono hsp _ _ _ _ _ _ _ _ ?_ (c_111 (d := d + 1) (F := cFa S x b e nc K α C s) hsp hg hR hw i61 e8 fb lx (fun v hv V a f e63 ne lxV => Or.inl ⟨v, V, hv, f, e63, ne, lxV, rfl⟩) (fun hn V α' a f e63 g ax va => Or.inr ⟨hn, V, α', f, e63, g, ax, va, rfl⟩))⟩
  rintro r1 S3 ⟨rfl, k3, h123⟩
  refine ⟨(show 2 ≤ 2 by decide), k3, (show 0 ≤ 8 by decide), 8 * e + 8, 400 * e + 400, by omega, by omega, ox_M_mono hsp _ _ _ _ _ _ _ _ ?_ h123⟩
  rintro r2 S4 ⟨a, rfl, k4, h93⟩
  refine ⟨Nat.le_refl 1, k4, (show 0 ≤ 8 by decide), 0, 0, Nat.zero_le _, Nat.zero_le _, ox_M_mono hsp _ _ _ _ _ _ _ _ ?_ h93⟩
  rintro r3 T ⟨rfl, hF⟩
  clear h123 h93
  rcases hF with ⟨v, V, hv, f, e63, ne63, lxV, rfl⟩ | ⟨hn, V, α', f, e63, g, ax, va, rfl⟩
  · have hRV := hR.pr f hl
    have hR1 : cR (V.sI 61 x 0) x α C nc s := hRV.sx hl (by decide)
    have tl := cTl_0 lxV hRV.1
    have t63 : (V.sI 61 x 0).I 63 x = V.I 63 x := by rw [or_sI_I, if_neg (fun z => by cases z.1)]
    have kT : (V.sI 61 x 0).K x = 13 := hR1.1.1.obj (o := 0) (k := 13) (by decide)
    refine ⟨by rw [kT]; rfl, fun z => absurd (t63.symm.trans (show (V.sI 61 x 0).I 63 x = -1 from z)) ne63, fun _ => ⟨rfl, Or.inl ⟨rfl, by omega, by omega, fun n' hn' => Or.inl ⟨rfl, ?_⟩⟩⟩⟩
    refine hA v hv _ (((f.rf x119).trans rfF_sx x119).trans (rfF_nn hn') x119) ((cJ_nn hn').cR hR1 hl) ?_ (tl.nn hR1.1 hn') ((at11 V f).2 36) ?_
    · show (V.sI 61 x 0).I 63 x = nI v
      rw [or_sI_I, if_neg (fun z => by cases z.1)]; exact e63
    · show (V.sI 61 x 0).I 39 (x + 11) = _
      rw [or_sI_I, if_neg (fun z => by cases z.1)]; exact (at11 V f).1 39
  · obtain ⟨p1, p2, p3⟩ := rdA_ok (C := C) hb hw.1 hn
    generalize rdA b e (pH0 s C nc) = r at hA hB hG hn g va p1 p2 p3
    obtain ⟨R1, h, v⟩ := r
    have g' : cG x b e nc K 0 (fun _ => False) V R1 α' h := g
    have p1' : pOk e K (1, none) (pH0 s C nc) R1 h := p1
    have va' : vC V x α' v a := va
    have p2' : v = -1 - (nc : Int) := p2
    have p3' : nc < h.c := p3
    have hn' : R1.2 = none := hn
    obtain ⟨ln, l1, l2, l3⟩ := p1'.2.2.2.2.2.2
    have l1' : h.l = ln := l1
    have hall : ∀ c, c < h.c → cDn nc h c := fun c hc => by
      by_cases z : c < nc
      · exact Or.inl z
      · exact Or.inr (by rw [l1']; exact l2 c (by show nc ≤ c; omega) hc)
    have c9 : 9 * h.c + 1 ≤ 9 * nc + R1.1 := p1'.2.1.2
    have pl : R1.1 ≤ e := p1'.1.1
    have hc5 : h.c ≤ 100000 := by omega
    have hRV := hR.pr f hl
    have hR2 := cG.cR hR hw f g' ax hall hc5
    have hl2 : (xSt.f (h.H, h.n, s.G, s.f, s.s, s.k, s.r)).length ≤ 8 := hl
    have hR3 : cR (V.sI 61 x 0) x α' (cPn h.C α') h.c (h.H, h.n, s.G, s.f, s.s, s.k, s.r) := hR2.sx hl2 (by decide)
    have hR1 : cR (V.sI 61 x 0) x α C nc s := hRV.sx hl (by decide)
    have tl := cTl_0 (V := V) (x := x) ⟨_, _, g'.2.2.2.1⟩ hRV.1
    have rf1 : rfF x S (V.sI 61 x 0) := (f.rf x119).trans rfF_sx x119
    have ea : a = α' (-1 - (nc : Int)) := by
      obtain ⟨-, -, -, y⟩ := va'
      rcases y with y | y | y | y | y <;> first | (rw [← p2']; exact y.2) | omega
    have a0 : a ≠ 0 := va'.1
    have u63 : (V.sI 61 x 0).I 63 x = -1 := by rw [or_sI_I, if_neg (fun z => by cases z.1)]; exact e63
    have u39 : ∀ F, F ≠ 61 → (V.sI 61 x 0).I F (x + 11) = S.I F (x + 11) := fun F hF => by rw [or_sI_I, if_neg (fun z => hF z.1)]; exact (at11 V f).1 F
    have u36 : ∀ F, (V.sI 61 x 0).R F (x + 11) = S.R F (x + 11) := (at11 V f).2
    have gh := g'.2.2.1
    have eI : ∀ F q, F ≠ 61 → (V.sI 61 x 0).I F q = V.I F q := fun F q hF => by rw [or_sI_I, if_neg (fun z => hF z.1)]
    have sh : ∀ j, j < h.l.length → (V.sI 61 x 0).rR ((V.sI 61 x 0).R 1 (x + 2)) j = α' (-1 - ((h.l.getD j 0 : Nat) : Int)) ∧ cSh (V.sI 61 x 0) (α' (-1 - ((h.l.getD j 0 : Nat) : Int))) (h.C (h.l.getD j 0)).1 ∧ ((V.sI 61 x 0).R 10 (α' (-1 - ((h.l.getD j 0 : Nat) : Int))) < x + 4 ∨ x + 10 < (V.sI 61 x 0).R 10 (α' (-1 - ((h.l.getD j 0 : Nat) : Int)))) := fun j hj => by
      have hm : h.l.getD j 0 ∈ h.l := by
        rw [List.getD_eq_getElem?_getD, List.getElem?_eq_getElem hj]
        exact List.getElem_mem hj
      obtain ⟨k1, k2, ⟨s1, ⟨s2, s3, s4⟩, s5⟩, k4, ⟨r1, -, -⟩, -⟩ := gh.2.1 _ (Or.inr hm)
      refine ⟨?_, ⟨s1, ⟨by rw [eI 7 _ (by decide)]; exact s2, by rw [eI 8 _ (by decide)]; exact s3, by rw [eI 9 _ (by decide)]; exact s4⟩, s5⟩, ?_⟩
      · show V.rR (V.R 1 (x + 2)) j = _
        rcases g'.2.2.2.1.2.2.2 with ⟨z1, -⟩ | ⟨-, -, -, -, z5⟩
        · omega
        · exact z5 j hj
      · show V.R 10 _ < x + 4 ∨ x + 10 < V.R 10 _
        have := r1.2
        omega
    have lsU : oLs (V.sI 61 x 0) (x + 2) h.l.length (fun j => α' (-1 - ((h.l.getD j 0 : Nat) : Int))) := by
      obtain ⟨o1, o2, o3, o4⟩ := g'.2.2.2.1
      exact ⟨o1, by rw [eI 2 _ (by decide)]; exact o2, o3, o4⟩
    have kU : (V.sI 61 x 0).K x = 13 := hR1.1.1.obj (o := 0) (k := 13) (by decide)
    have nU : V.n = (V.sI 61 x 0).n := rfl
    refine ⟨by rw [kU]; rfl, fun _ => ?_, fun z => absurd u63 z⟩
    refine ⟨Nat.le_refl 1, kU, (show 0 ≤ 8 by decide), 0, 0, Nat.zero_le _, Nat.zero_le _, ?_⟩
    have hp2 : 8 * e + 8 + 1 ≤ mc := by omega
    have hs2 : 400 * e + 400 + 6 ≤ ms := by omega
    clear eI e63 at11 hRV hR2 g g' gh hA va va'
    generalize V.sI 61 x 0 = U at hR3 hR1 tl rf1 u63 u39 u36 sh lsU kU
    obtain ⟨o1, o2, o3, o4⟩ := lsU
    have kt : h.l.length = 0 ∨ U.K (U.R 1 (x + 2)) = 20 := o4.imp (fun z => z.1) (fun z => z.1)
    have ln' : h.l.length ≤ U.len (U.R 1 (x + 2)) ∧ U.len (U.R 1 (x + 2)) ≤ 1000 := by
      rcases o4 with ⟨z1, z2, z3, z4, z5⟩ | ⟨z1, z2, z3, z4, z5⟩
      · rw [z2, z5]; omega
      · omega
    have r64 : U.R 64 x = x + 2 := hR1.1.1.ref (F := 64) (o := 0) (t := 2) (by decide)
    have r65 : U.R 65 x = x + 3 := hR1.1.1.ref (F := 65) (o := 0) (t := 3) (by decide)
    refine f_112 (d := d + 27) hsp ?_
    show c_112_2 (ox_M sp (d + 27)) x (nI 0) U 0 0 _
    refine s_112_2 (d := d + 21) (A := fun j => α' (-1 - ((h.l.getD j 0 : Nat) : Int))) (κ := fun j => (h.C (h.l.getD j 0)).1) hsp hR1.1.1 kU o1 (hR1.1.1.obj (o := 3) (k := 6) (by decide)) r64 r65 rfl o2 kt rfl ln'.1 (by omega) sh (fun W fW ok => ?_) (fun W j fW hj ok bad => ?_) h.l.length 0 0 0 U (Nat.zero_add _) lkF.refl (fun i hi => absurd hi (Nat.not_lt_zero _))
    · have hRW := hR3.lk fW
      have kW : W.K x = 13 := hRW.1.1.obj (o := 0) (k := 13) (by decide)
      have k7 : W.K (x + 11) = 7 := hRW.1.1.obj (by decide)
      have r66 : W.R 66 x = x + 11 := hRW.1.1.ref (o := 0) (by decide)
      refine ⟨fun _ => ⟨by rw [kW]; rfl, Nat.le_refl 2, (show W.K (W.R 66 x) = 7 by rw [r66]; exact k7), (show 0 ≤ 8 by decide), 0, 0, Nat.zero_le _, Nat.zero_le _, ?_⟩, fun z => absurd (show (1 : Int32) = 0 from z) (by decide)⟩
      show ox_M sp (d + 28) 42 [.inr (.inr (W.R 66 x)), .inr (.inr a)] 0 0 W _
      rw [r66, ea]
      refine c_42 (d := d + 25) hsp hRW hl2 p3' (fun Z m0 i39 r36 hRZ => ⟨rfl, Or.inr (Or.inr ⟨rfl, rfl, ?_⟩)⟩)
      have hxZ := m0.2 x ⟨by omega, fun z => by unfold cZ at z; omega⟩
      refine hG hn' (fun c hc => ?_) Z α' ((rf1.trans (rfF_lk fW) x119).trans (rfF_M0 m0) x119) hRZ ?_ ((tl.lk hR1.1 fW).M0 hRW.1 m0) r36 i39
      · obtain ⟨j, hj, ej⟩ := List.getElem_of_mem hc
        have := ok j hj
        rw [List.getD_eq_getElem?_getD, List.getElem?_eq_getElem hj] at this
        rw [← ej]; exact this
      · rw [hxZ.2.2.1 63, fW.fI (by decide)]; exact u63
    · have hRW := hR1.lk fW
      refine ⟨fun z => absurd rfl z, fun _ => ⟨rfl, Or.inr (Or.inl ⟨rfl, by omega, by omega, fun n' hn2 => Or.inr ⟨rfl, ?_⟩⟩)⟩⟩
      have hR5 : cR (W.sI 63 x (nI (1000 * j))) x α C nc s := hRW.sx hl (by decide)
      have tl5 := (tl.lk hR1.1 fW).s63 hRW.1 (v := nI (1000 * j))
      refine hB hn' j hj ok bad _ (((rf1.trans (rfF_lk fW) x119).trans rfF_sx x119).trans (rfF_nn hn2) x119) ((cJ_nn hn2).cR hR5 hl) ?_ (tl5.nn hR5.1 hn2) ?_ ?_
      · show (W.sI 63 x (nI (1000 * j))).I 63 x = _
        rw [or_sI_I, if_pos ⟨rfl, rfl⟩]
      · show W.R 36 (x + 11) = _
        rw [fW.fR (by decide)]; exact u36 36
      · show (W.sI 63 x (nI (1000 * j))).I 39 (x + 11) = _
        rw [or_sI_I, if_neg (fun z => by cases z.1), fW.fI (by decide)]; exact u39 39 (by decide)
end C236b
