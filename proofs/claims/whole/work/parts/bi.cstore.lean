/-! the class's instructions: STORE -/
theorem xSet_at {w : Nat} {v : Int} : ∀ (G : List (Nat × Int)), (xSet w v G).length = (if xFind w G < G.length then G.length else G.length + 1) ∧ xFind w G ≤ G.length ∧ ∀ i, i < (xSet w v G).length → (xSet w v G).getD i (0, 0) = if i = xFind w G then (w, v) else G.getD i (0, 0)
  | [] => ⟨rfl, Nat.le_refl _, fun i hi => by
    have : i = 0 := by simpa [xSet] using hi
    subst this; rfl⟩
  | g :: l => by
    obtain ⟨i1, i2, i3⟩ := xSet_at (w := w) (v := v) l
    unfold xSet xFind
    by_cases z : g.1 = w
    · rw [if_pos z, if_pos z]
      refine ⟨by rw [if_pos (show 0 < (g :: l).length from Nat.succ_pos _)]; rfl, Nat.zero_le _, fun i hi => ?_⟩
      cases i with
      | zero => rfl
      | succ i => rw [if_neg (Nat.succ_ne_zero i)]; rfl
    · rw [if_neg z, if_neg z]
      refine ⟨?_, Nat.succ_le_succ i2, fun i hi => ?_⟩
      · show (xSet w v l).length + 1 = _
        rw [i1]
        by_cases y : xFind w l < l.length
        · rw [if_pos y, if_pos (show xFind w l + 1 < (g :: l).length from Nat.succ_lt_succ y)]; rfl
        · rw [if_neg y, if_neg (show ¬ xFind w l + 1 < (g :: l).length from fun m => y (Nat.lt_of_succ_lt_succ m))]; rfl
      · cases i with
        | zero => rw [if_neg (Nat.succ_ne_zero _).symm]; rfl
        | succ i =>
          have := i3 i (Nat.lt_of_succ_lt_succ hi)
          show (xSet w v l).getD i (0, 0) = _
          rw [this]
          by_cases y : i = xFind w l
          · rw [if_pos y, if_pos (by rw [y])]
          · rw [if_neg y, if_neg (fun m => y (Nat.succ.inj m))]; rfl
theorem xFind_name {w : Nat} : ∀ (G : List (Nat × Int)), xFind w G < G.length → (G.getD (xFind w G) (0, 0)).1 = w
  | [], h => absurd h (Nat.not_lt_zero _)
  | g :: l, h => by
    unfold xFind at h ⊢
    by_cases z : g.1 = w
    · rw [if_pos z]; exact z
    · rw [if_neg z] at h ⊢
      exact xFind_name l (Nat.lt_of_succ_lt_succ h)
section CSt
variable {d mr sr : Nat} {S S0 S' T : ox_St} {Q : ox_Q} {x : Nat} {α : Int → Nat} {C : Nat → xCd} {nc K : Nat} {e : xEn} {q : Nat} {st r : List Int} {v u : Int} {a : Nat}
def cWs (x f a : Nat) : Prop := cWf x f a ∨ a = x + 11 ∨ a = x + 13 ∨ a = x + 14
theorem cWs_Z {f : Nat} (hf : f ≤ 7) : ∀ a, cWs x f a → cZ x a := fun a h => by unfold cWs cWf at h; unfold cZ; omega
/-- names and the frame change -/
theorem cE.glob (h : cE S x α C nc e q st) (hx : xEs1 C nc K e st) (hI : cI x (cWs x e.t.length) S S') (hm : ∀ F, F ≠ 43 → S'.I F (x + 11) = S.I F (x + 11)) (hr : ∀ F, S'.R F (x + 11) = S.R F (x + 11)) {G' : List (Nat × Int)} {f' : xFr} (hG : cGl S' x α G') (hf : cFr S' x α e.t.length f') : cN x S S' ∧ cR S' x α C nc (e.H, e.n, G', f' :: e.t, 1, -1, 0) := by
  have t7 := hx.t7
  have hZ := cWs_Z (x := x) t7
  have hn := h.n
  obtain ⟨b, hp, ⟨-, fs⟩, g, m1, m2, m3, m4, m5⟩ := h
  refine ⟨⟨hI.1, hI.2.1.sub (fun a ha => ⟨by omega, fun z => ha.2 (hZ a z)⟩), hr _, hm _ (by decide)⟩, b.next hI hZ, hp.next (K := K) hI hZ, ⟨hf, ?_⟩, hG, (hm _ (by decide)).trans m1, (hm _ (by decide)).trans m2, (hm _ (by decide)).trans m3, fun z => (by cases z), fun _ => (hr _).trans (m5 (show (1 : Nat) ≠ 2 by decide))⟩
  have key : ∀ (t : List xFr), t.length ≤ e.t.length → cFs S x α t → cFs S' x α t := by
    intro t
    induction t with
    | nil => exact fun _ _ => trivial
    | cons g t ih =>
      intro hl hc
      have hl' : t.length + 1 ≤ e.t.length := hl
      exact ⟨hc.1.next hI (by omega) (fun a z1 z2 z => by unfold cWs cWf at z; omega) (fun _ _ => rfl), ih (by omega) hc.2⟩
  exact key e.t (Nat.le_refl _) fs
/-- STORE -/
theorem c_69_90 {sp : ox_E} (hsp : ox_mono sp) {a : Nat} (h : cE S x α C nc e q (v :: r)) (hx : xEs1 C nc K e (v :: r)) (ha : a < (C e.c).2.2.length) (hQ : ∀ S' y, cN x S S' → cX S' x α C nc e q (v :: r) (xStore e q ((C e.c).2.2.getD a 0) r v) y → Q (some (.inl y)) S') : ox_M sp (d + 3) 69 [.inr (.inr (x + 11)), .inr (.inr (x + 28 + 5 * e.t.length)), .inl 90, .inl (nI a)] mr sr S Q := by
  have hE : ox_mono (ox_M sp (d + 2)) := ox_M_mono hsp _
  have k := (h.oF hx).1
  have k7 := h.k7
  have hn := h.n
  have t7 := hx.t7
  have l10 : r.length + 1 ≤ 10 := hx.2.2.1
  obtain ⟨r18, -, c2, ⟨s1, -, -, -, ⟨s10, s11⟩, s12⟩, -, ⟨-, -, r3⟩, -, c7⟩ := h.code hx
  obtain ⟨-, -, -, c1, -, c4⟩ := hx.1.2.1 e.c hx.1.2.2.2.1
  have k12 : cdW (C e.c).1 ≤ 12 := s12.2.2.2.2.2.2.2.2
  rw [← c1] at s11 k12
  have hw := c7 a ha
  have hnm : (C e.c).2.2.getD a 0 < 2 ^ 63 := c4 _ (by
    rw [List.getD_eq_getElem?_getD, List.getElem?_eq_getElem ha]
    exact List.getElem_mem _)
  have hG : cGl S x α e.G := h.2.2.2.1
  have g3 := hx.1.2.2.1
  have r41 : S.R 41 (x + 11) = x + 13 := h.1.1.ref (by decide)
  have r42 : S.R 42 (x + 11) = x + 14 := h.1.1.ref (by decide)
  obtain ⟨k13, l13⟩ := h.1.1.row (o := 13) (k := 16) (n := 16) (by decide)
  obtain ⟨k14, l14⟩ := h.1.1.row (o := 14) (k := 19) (n := 16) (by decide)
  refine f_69 hsp ⟨fun _ => ⟨by rw [k]; rfl, by rw [r18, s1]; rfl, by rw [r18, s10]; rfl, fun z => absurd z (by rw [r18, s11]; exact nI_ge ha (by omega)), fun _ => ⟨by rw [k]; rfl, by rw [r18, s1]; rfl, by rw [r18, s10]; rfl, by rw [r18, s11]; exact vp_in_nI ha (by omega), ?_⟩⟩, fun z => absurd z (by decide)⟩
  intro w3
  have ew : w3 = lN ((C e.c).2.2.getD a 0) := by
    show S.rJ (S.R 12 (S.R 18 (x + 28 + 5 * e.t.length))) (Int32.toNatClampNeg (nI a)) = _
    rw [r18, nI_clamp (by omega)]; exact hw
  rw [ew]
  clear ew w3
  generalize (C e.c).2.2.getD a 0 = n at hnm hQ ⊢
  obtain ⟨ef, -⟩ := xFindL_eq hnm e.G (fun g hg => (g3.2 g hg).1)
  obtain ⟨z1, z2, z3⟩ := xSet_at (w := n) (v := v) e.G
  have gl := g3.1
  refine ⟨by decide, k7, by decide, 0, 0, Nat.zero_le _, Nat.zero_le _, c_70 hsp h.1 hG gl (f_69_50 hE ?_)⟩
  rw [ef]
  have hv := h.sk.1
  have oF0 := h.oF hx
  have isv := hv.isV h hx hx.head
  obtain ⟨f1, f2, f3, f4, f5, f6, f7⟩ := h.2.2.1.1
  refine ⟨fun z => ⟨by rw [k7]; rfl, fun y => ⟨by rw [k7]; rfl, by decide, k, by decide, 0, 0, Nat.zero_le _, Nat.zero_le _, ?_⟩, fun y => ⟨by rw [k7]; rfl, by rw [r41]; exact k13, by rw [r41, l13]; exact vp_in_nI ((nI_ltI (b := 16) (by omega) (by decide)).mp z) (by decide), ?_⟩⟩, fun z => ⟨trivial, ?_⟩⟩
  · have z' := (nI_ltI (b := 16) (by omega) (by decide)).mp z
    rw [hG.1] at y
    have lt : xFind n e.G < e.G.length := by
      have : xFind n e.G ≠ e.G.length := fun m => y (by rw [m])
      omega
    rw [if_pos lt] at z1
    have hres : xStore e q n r v = .inr (e.H, e.n, xSet n v e.G, (e.c, q, r, e.L, e.b) :: e.t, none) := by unfold xStore; rw [if_neg (by omega)]
    rw [hres] at hQ
    refine s_pop hsp oF0 (n := r.length + 1) (Nat.succ_pos _) l10 h.ht (f_69_100 hE ?_)
    have kk : (S.sI 20 (x + 28 + 5 * e.t.length) (nI (r.length + 1 - 1))).K = S.K := or_sI_K _ _ _ _
    have ll : (S.sI 20 (x + 28 + 5 * e.t.length) (nI (r.length + 1 - 1))).len = S.len := or_sI_len _ _ _ _
    unfold q_69_100
    rw [r42, kk, ll, k14, l14, nI_clamp (by omega)]
    refine ⟨rfl, vp_in_nI z' (by decide), isv, trivial, ?_⟩
    generalize hb : S.rR (x + 28 + 5 * e.t.length + 2) (r.length + 1 - 1) = b
    have hb' : S.rR (x + 28 + 5 * e.t.length + 2) r.length = b := hb
    have hvb : vC S x α v b := by rw [← hb']; exact hv
    have hI : cI x (cWs x e.t.length) S ((S.sI 20 (x + 28 + 5 * e.t.length) (nI (r.length + 1 - 1))).wR (x + 14) (xFind n e.G) b) := (cI.refl.sI (Or.inr ⟨Or.inl cWf_F, by decide, by decide, by decide⟩)).wR (Or.inr (Or.inr (Or.inr (Or.inr rfl))))
    have eI : ∀ F b', ((S.sI 20 (x + 28 + 5 * e.t.length) (nI (r.length + 1 - 1))).wR (x + 14) (xFind n e.G) b).I F b' = if F = 20 ∧ b' = x + 28 + 5 * e.t.length then nI r.length else S.I F b' := fun F b' => by rw [or_wR_I, or_sI_I]; rfl
    have eR : ((S.sI 20 (x + 28 + 5 * e.t.length) (nI (r.length + 1 - 1))).wR (x + 14) (xFind n e.G) b).R = S.R := by rw [or_wR_R, or_sI_R]
    have erI : ((S.sI 20 (x + 28 + 5 * e.t.length) (nI (r.length + 1 - 1))).wR (x + 14) (xFind n e.G) b).rI = S.rI := by rw [or_wR_rI, or_sI_rI]
    have erJ : ((S.sI 20 (x + 28 + 5 * e.t.length) (nI (r.length + 1 - 1))).wR (x + 14) (xFind n e.G) b).rJ = S.rJ := by rw [or_wR_rJ, or_sI_rJ]
    have erR : ∀ t j, ((S.sI 20 (x + 28 + 5 * e.t.length) (nI (r.length + 1 - 1))).wR (x + 14) (xFind n e.G) b).rR t j = if t = x + 14 ∧ j = xFind n e.G then b else S.rR t j := fun t j => by rw [or_wR_rR, or_sI_rR]
    generalize (S.sI 20 (x + 28 + 5 * e.t.length) (nI (r.length + 1 - 1))).wR (x + 14) (xFind n e.G) b = U at hI eI eR erI erJ erR ⊢
    have hfr : cFr U x α e.t.length (e.c, q, r, e.L, e.b) := by
      refine ⟨by rw [eR]; exact f1, by rw [eI, if_neg (fun z => by cases z.1)]; exact f2, by rw [eI, if_pos ⟨rfl, rfl⟩], by rw [eI, if_neg (fun z => by cases z.1)]; exact f4, cStk.row (hI.mono (cWs_Z t7)) _ (fun j _ => by rw [erR, if_neg (by omega)]) (fun _ _ => rfl) f5.2, fun i hi => ?_, ?_⟩
      · have g' : (match e.L i with
          | none => S.rR (x + 28 + 5 * e.t.length + 1) i = 0
          | some v => vC S x α v (S.rR (x + 28 + 5 * e.t.length + 1) i)) := f6 i hi
        show (match e.L i with
          | none => U.rR (x + 28 + 5 * e.t.length + 1) i = 0
          | some v => vC U x α v (U.rR (x + 28 + 5 * e.t.length + 1) i))
        rw [erR, if_neg (by omega)]
        cases y : e.L i with
        | none => rw [y] at g'; exact g'
        | some w => rw [y] at g'; exact vC.next g' hI rfl
      · have key : ∀ l : List (Nat × Nat), cBk S (x + 28 + 5 * e.t.length) l → cBk U (x + 28 + 5 * e.t.length) l := by
          intro l
          induction l with
          | nil => exact fun _ => trivial
          | cons g l ih => exact fun hc => ⟨by rw [erI]; exact hc.1, by rw [erI]; exact hc.2.1, ih hc.2.2⟩
        exact key _ f7
    have hGl : cGl U x α (xSet n v e.G) := by
      refine ⟨by rw [eI, if_neg (fun z => by cases z.1), z1]; exact hG.1, fun i hi => ?_⟩
      rw [z3 i hi, erJ, erR]
      rw [z1] at hi
      obtain ⟨q1, q2⟩ := hG.2 i hi
      by_cases m : i = xFind n e.G
      · rw [if_pos m, if_pos ⟨rfl, m⟩]
        refine ⟨?_, hvb.next hI rfl⟩
        rw [q1, m, xFind_name e.G lt]
      · rw [if_neg m, if_neg (fun y => m y.2)]
        exact ⟨q1, q2.next hI rfl⟩
    obtain ⟨n1, n2⟩ := h.glob hx hI (fun F hF => by rw [eI, if_neg (fun z => by omega)]) (fun F => by rw [eR]) hGl hfr
    exact hQ U (-1) n1 ⟨rfl, n2⟩
  · have z' := (nI_ltI (b := 16) (by omega) (by decide)).mp z
    rw [hG.1] at y
    have eqn : xFind n e.G = e.G.length := (nI_eq (by omega) (by omega)).mp y
    rw [if_neg (by omega)] at z1
    have hres : xStore e q n r v = .inr (e.H, e.n, xSet n v e.G, (e.c, q, r, e.L, e.b) :: e.t, none) := by unfold xStore; rw [if_neg (by omega)]
    rw [hres] at hQ
    rw [r41, nI_clamp (by omega)]
    intro S3
    have e3K : S3.K = S.K := or_wJ_K _ _ _ _
    have e3I : S3.I = S.I := or_wJ_I _ _ _ _
    have e3R : S3.R = S.R := or_wJ_R _ _ _ _
    have e3l : S3.len = S.len := or_wJ_len _ _ _ _
    have e3rI : S3.rI = S.rI := or_wJ_rI _ _ _ _
    have e3rR : S3.rR = S.rR := or_wJ_rR _ _ _ _
    have e3rJ : ∀ t j, S3.rJ t j = if t = x + 13 ∧ j = xFind n e.G then lN n else S.rJ t j := fun t j => or_wJ_rJ _ _ _ _ _ _
    have hI3 : cI x (cWs x e.t.length) S S3 := cI.refl.wJ (Or.inr (Or.inr (Or.inr (Or.inl rfl))))
    generalize S3 = V3 at e3K e3I e3R e3l e3rI e3rR e3rJ hI3 ⊢
    refine ⟨by rw [e3K, k7]; rfl, by rw [e3K, k7]; rfl, ?_⟩
    rw [e3I, hG.1, nI_1]
    intro S4
    have e4K : S4.K = S.K := (or_sI_K _ _ _ _).trans e3K
    have e4I : ∀ F b', S4.I F b' = if F = 43 ∧ b' = x + 11 then nI (e.G.length + 1) else S.I F b' := fun F b' => (or_sI_I _ _ _ _ _ _).trans (by rw [e3I])
    have e4R : S4.R = S.R := (or_sI_R _ _ _ _).trans e3R
    have e4l : S4.len = S.len := (or_sI_len _ _ _ _).trans e3l
    have e4rI : S4.rI = S.rI := (or_sI_rI _ _ _ _).trans e3rI
    have e4rR : S4.rR = S.rR := (or_sI_rR _ _ _ _).trans e3rR
    have e4rJ : ∀ t j, S4.rJ t j = if t = x + 13 ∧ j = xFind n e.G then lN n else S.rJ t j := fun t j => by
      have : S4.rJ = V3.rJ := or_sI_rJ _ _ _ _
      rw [this]; exact e3rJ t j
    have hI4 : cI x (cWs x e.t.length) S S4 := hI3.sI (Or.inr ⟨Or.inr (Or.inl rfl), by decide, by decide, by decide⟩)
    generalize S4 = V4 at e4K e4I e4R e4l e4rI e4rR e4rJ hI4 ⊢
    have oF4 : oF V4 (x + 28 + 5 * e.t.length) := by
      unfold oF at oF0 ⊢
      rw [e4K, e4R, e4l]
      exact oF0
    have h20 : V4.I 20 (x + 28 + 5 * e.t.length) = nI (r.length + 1) := by rw [e4I, if_neg (fun z => by cases z.1)]; exact h.ht
    refine ⟨by rw [e4K, k7]; rfl, by decide, by rw [e4K]; exact k, by decide, 0, 0, Nat.zero_le _, Nat.zero_le _, ?_⟩
    rw [e4R, r42]
    refine s_pop hsp oF4 (n := r.length + 1) (Nat.succ_pos _) l10 h20 (f_69_100 hE ?_)
    have kk : (V4.sI 20 (x + 28 + 5 * e.t.length) (nI (r.length + 1 - 1))).K = S.K := (or_sI_K _ _ _ _).trans e4K
    have ll : (V4.sI 20 (x + 28 + 5 * e.t.length) (nI (r.length + 1 - 1))).len = S.len := (or_sI_len _ _ _ _).trans e4l
    unfold q_69_100
    rw [kk, ll, k14, l14, nI_clamp (by omega), e4rR]
    refine ⟨rfl, vp_in_nI z' (by decide), isv, trivial, ?_⟩
    generalize hb : S.rR (x + 28 + 5 * e.t.length + 2) (r.length + 1 - 1) = b
    have hb' : S.rR (x + 28 + 5 * e.t.length + 2) r.length = b := hb
    have hvb : vC S x α v b := by rw [← hb']; exact hv
    have hI : cI x (cWs x e.t.length) S ((V4.sI 20 (x + 28 + 5 * e.t.length) (nI (r.length + 1 - 1))).wR (x + 14) (xFind n e.G) b) := (hI4.sI (Or.inr ⟨Or.inl cWf_F, by decide, by decide, by decide⟩)).wR (Or.inr (Or.inr (Or.inr (Or.inr rfl))))
    have eI : ∀ F b', ((V4.sI 20 (x + 28 + 5 * e.t.length) (nI (r.length + 1 - 1))).wR (x + 14) (xFind n e.G) b).I F b' = if F = 20 ∧ b' = x + 28 + 5 * e.t.length then nI r.length else if F = 43 ∧ b' = x + 11 then nI (e.G.length + 1) else S.I F b' := fun F b' => by rw [or_wR_I, or_sI_I, e4I]; rfl
    have eR : ((V4.sI 20 (x + 28 + 5 * e.t.length) (nI (r.length + 1 - 1))).wR (x + 14) (xFind n e.G) b).R = S.R := by rw [or_wR_R, or_sI_R, e4R]
    have erI : ((V4.sI 20 (x + 28 + 5 * e.t.length) (nI (r.length + 1 - 1))).wR (x + 14) (xFind n e.G) b).rI = S.rI := by rw [or_wR_rI, or_sI_rI, e4rI]
    have erJ : ∀ t j, ((V4.sI 20 (x + 28 + 5 * e.t.length) (nI (r.length + 1 - 1))).wR (x + 14) (xFind n e.G) b).rJ t j = if t = x + 13 ∧ j = xFind n e.G then lN n else S.rJ t j := fun t j => by rw [or_wR_rJ, or_sI_rJ, e4rJ]
    have erR : ∀ t j, ((V4.sI 20 (x + 28 + 5 * e.t.length) (nI (r.length + 1 - 1))).wR (x + 14) (xFind n e.G) b).rR t j = if t = x + 14 ∧ j = xFind n e.G then b else S.rR t j := fun t j => by rw [or_wR_rR, or_sI_rR, e4rR]
    generalize (V4.sI 20 (x + 28 + 5 * e.t.length) (nI (r.length + 1 - 1))).wR (x + 14) (xFind n e.G) b = U at hI eI eR erI erJ erR ⊢
    have hfr : cFr U x α e.t.length (e.c, q, r, e.L, e.b) := by
      refine ⟨by rw [eR]; exact f1, by rw [eI, if_neg (fun z => by cases z.1), if_neg (fun z => by cases z.1)]; exact f2, by rw [eI, if_pos ⟨rfl, rfl⟩], by rw [eI, if_neg (fun z => by cases z.1), if_neg (fun z => by cases z.1)]; exact f4, cStk.row (hI.mono (cWs_Z t7)) _ (fun j _ => by rw [erR, if_neg (by omega)]) (fun _ _ => rfl) f5.2, fun i hi => ?_, ?_⟩
      · have g' : (match e.L i with
          | none => S.rR (x + 28 + 5 * e.t.length + 1) i = 0
          | some v => vC S x α v (S.rR (x + 28 + 5 * e.t.length + 1) i)) := f6 i hi
        show (match e.L i with
          | none => U.rR (x + 28 + 5 * e.t.length + 1) i = 0
          | some v => vC U x α v (U.rR (x + 28 + 5 * e.t.length + 1) i))
        rw [erR, if_neg (by omega)]
        cases y : e.L i with
        | none => rw [y] at g'; exact g'
        | some w => rw [y] at g'; exact vC.next g' hI rfl
      · have key : ∀ l : List (Nat × Nat), cBk S (x + 28 + 5 * e.t.length) l → cBk U (x + 28 + 5 * e.t.length) l := by
          intro l
          induction l with
          | nil => exact fun _ => trivial
          | cons g l ih => exact fun hc => ⟨by rw [erI]; exact hc.1, by rw [erI]; exact hc.2.1, ih hc.2.2⟩
        exact key _ f7
    have hGl : cGl U x α (xSet n v e.G) := by
      refine ⟨by rw [eI, if_neg (fun z => by cases z.1), if_pos ⟨rfl, rfl⟩, z1], fun i hi => ?_⟩
      rw [z3 i hi, erJ, erR]
      rw [z1] at hi
      by_cases m : i = xFind n e.G
      · rw [if_pos m, if_pos ⟨rfl, m⟩, if_pos ⟨rfl, m⟩]
        exact ⟨rfl, hvb.next hI rfl⟩
      · obtain ⟨q1, q2⟩ := hG.2 i (by omega)
        rw [if_neg m, if_neg (fun y => m y.2), if_neg (fun y => m y.2)]
        exact ⟨q1, q2.next hI rfl⟩
    obtain ⟨n1, n2⟩ := h.glob hx hI (fun F hF => by rw [eI, if_neg (fun z => by omega), if_neg (fun z => hF z.1)]) (fun F => by rw [eR]) hGl hfr
    exact hQ U (-1) n1 ⟨rfl, n2⟩
  · have z' : ¬ xFind n e.G < 16 := fun m => z (nI_lt (b := 16) m (by decide))
    have hres : xStore e q n r v = .inl 6 := by unfold xStore; rw [if_pos (by omega)]
    exact hQ S 6 cN.refl (by rw [hres]; exact ⟨rfl, h⟩)
end CSt
