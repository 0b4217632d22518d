/-! the class: raise, leave -/
theorem xFOk.len {C : Nat → xCd} {nc : Nat} {H : xHp} {y : Nat} {g : xFr} (hC : xCOk C nc H) (h : xFOk C nc H y g) : g.2.2.1.length + y ≤ 10 := by
  obtain ⟨h1, ⟨T, h2, h3, -⟩, -⟩ := h
  have a := (h2.2 _ _ h3).2.1
  have b := (hC _ h1).1.2.2.2.1.2
  have a' : g.2.2.1.length + y ≤ cdM (C g.1).1 := a
  omega
theorem xFOk.blk {C : Nat → xCd} {nc : Nat} {H : xHp} {y : Nat} {g : xFr} (hC : xCOk C nc H) (h : xFOk C nc H y g) : g.2.2.2.2.length ≤ 4 ∧ ∀ l t b, g.2.2.2.2 = (l, t) :: b → l ≤ g.2.2.1.length ∧ l < 10 := by
  obtain ⟨h1, ⟨T, h2, h3, h4⟩, h5, -⟩ := h
  refine ⟨xBl_len h4, fun l t b e => ?_⟩
  rw [e] at h4 h5
  have a := (h2.2 _ _ h4.1).2.1
  have b' := (hC _ h1).1.2.2.2.1.2
  have a' : l + 1 ≤ cdM (C g.1).1 := a
  exact ⟨h5, by omega⟩
theorem xFOk.es1 {C : Nat → xCd} {nc K : Nat} {H : xHp} {n : Int} {G : List (Nat × Int)} {y c p : Nat} {st : List Int} {L : Nat → Option Int} {b : List (Nat × Nat)} {t : List xFr} (hH : xHOk nc K H n) (hC : xCOk C nc H) (hG : xGOk nc H G) (h : xFOk C nc H y (c, p, st, L, b)) (ht : t.length ≤ 7) (htl : ∀ g ∈ t, xFOk C nc H 1 g) : xEs1 C nc K (H, n, G, c, L, b, t) st :=
  ⟨⟨hH, hC, hG, h.1, ht, h.2.2.2.2, htl⟩, h.2.2.2.1, Nat.le_trans (Nat.le_add_right _ _) (h.len hC), (h.blk hC).1⟩
section CRt2
variable {sp : ox_E} {d : Nat} {x : Nat} {α : Int → Nat} {C : Nat → xCd} {nc K : Nat}
theorem cWm_N {S S' : ox_St} (hn : x + 119 ≤ S.n) (hI : cI x (cWm x) S S') (h36 : S'.R 36 (x + 11) = S.R 36 (x + 11)) (h39 : S'.I 39 (x + 11) = S.I 39 (x + 11)) : cN x S S' := ⟨hI.1, hI.2.1.sub (fun a ha => ⟨by omega, fun z => ha.2 (Or.inr (Or.inr (Or.inl z)))⟩), h36, h39⟩
theorem c_48_l (hsp : ox_mono sp) {k : Nat} (hk : k < 7) {H : xHp} {n : Int} {G : List (Nat × Int)} {Q : ox_Q} (hH : xHOk nc K H n) (hC : xCOk C nc H) (hG : xGOk nc H G) : ∀ (fs : List xFr) (i mr sr : Nat) (S : ox_St), fs.length + i ≤ 8 → cR S x α C nc (H, n, G, fs, 1, -1, 0) → (∀ g ∈ fs, ∃ y p, xFOk C nc H y (g.1, p, g.2.2)) → (∀ g ∈ fs.tail, xFOk C nc H 1 g) → (∀ S', cN x S S' → cR S' x α C nc (xRaise k H n G fs) → Q none S') → c_48_28 (ox_M sp (d + 2)) (x + 11) (nI k) (x + 68 + k) (nI i) S mr sr Q := by
  have hE : ox_mono (ox_M sp (d + 2)) := ox_M_mono hsp _
  intro fs
  induction fs with
  | nil =>
    intro i mr sr S hi h _ _ hQ
    obtain ⟨b, hp, f, g, m1, m2, m3, m4, m5⟩ := id h
    have hn : x + 119 ≤ S.n := b.2.2.2.1
    have k7 : S.K (x + 11) = 7 := b.1.obj (by decide)
    have key : ∀ w, w < 7 → cKt.contains (68 + w, 11) = true ∧ cVt.contains (68 + w, 9, (w : Int)) = true := by decide
    have kk : S.K (x + 68 + k) = 11 := by rw [show x + 68 + k = x + (68 + k) by omega]; exact b.1.obj (key k hk).1
    have k77 : S.I 7 (x + 68 + k) = Int32.ofInt k := by rw [show x + 68 + k = x + (68 + k) by omega]; exact (b.1.val (key k hk).2).2
    have fin : ox_has (S.K (x + 11)) 37 = true ∧ (ox_has ((S.sI 37 (x + 11) 3).K (x + 68 + k)) 7 = true ∧ (ox_has ((S.sI 37 (x + 11) 3).K (x + 11)) 38 = true ∧ ((ox_mi 48).2.2.2.1 = none ∧ Q none ((S.sI 37 (x + 11) 3).sI 38 (x + 11) ((S.sI 37 (x + 11) 3).I 7 (x + 68 + k)))))) := by
      have e7 : (S.sI 37 (x + 11) 3).I 7 (x + 68 + k) = Int32.ofInt k := by rw [or_sI_I, if_neg (fun z => by cases z.1)]; exact k77
      refine ⟨by rw [k7]; rfl, by rw [or_sI_K, kk]; rfl, by rw [or_sI_K, k7]; rfl, rfl, ?_⟩
      rw [e7]
      have hI : cI x (cWm x) S ((S.sI 37 (x + 11) 3).sI 38 (x + 11) (Int32.ofInt k)) := ((show cI x (cWm x) _ _ from cI.refl).sI (G := 37) (a := x + 11) (Or.inr ⟨rfl, by decide, by decide, by decide⟩)).sI (G := 38) (a := x + 11) (Or.inr ⟨rfl, by decide, by decide, by decide⟩)
      have eI : ∀ F a, ((S.sI 37 (x + 11) 3).sI 38 (x + 11) (Int32.ofInt k)).I F a = if F = 38 ∧ a = x + 11 then Int32.ofInt k else if F = 37 ∧ a = x + 11 then 3 else S.I F a := fun F a => by rw [or_sI_I, or_sI_I]
      have eR : ((S.sI 37 (x + 11) 3).sI 38 (x + 11) (Int32.ofInt k)).R = S.R := by rw [or_sI_R, or_sI_R]
      generalize (S.sI 37 (x + 11) 3).sI 38 (x + 11) (Int32.ofInt k) = U at hI eI eR ⊢
      have e0 : ∀ F, F ≠ 38 → F ≠ 37 → U.I F (x + 11) = S.I F (x + 11) := fun F h1 h2 => by rw [eI, if_neg (fun z => h1 z.1), if_neg (fun z => h2 z.1)]
      refine hQ U (cWm_N hn hI (by rw [eR]) (e0 39 (by decide) (by decide))) ?_
      exact h.fld (s' := (H, n, G, [], 3, (k : Int), 0)) hI (e0 43 (by decide) (by decide)) rfl rfl trivial (Nat.zero_le _) ((e0 35 (by decide) (by decide)).trans m1) (by rw [eI, if_neg (fun z => by cases z.1), if_pos ⟨rfl, rfl⟩]; rfl) (by rw [eI, if_pos ⟨rfl, rfl⟩]; rfl) (fun z => by cases z) (fun _ => by rw [eR]; exact m5 (show (1 : Nat) ≠ 2 by decide))
    refine f_48_28 hE ⟨fun _ => fin, fun _ => ⟨by rw [k7]; rfl, fun _ => fin, fun z => absurd ?_ z⟩⟩
    have m1' : S.I 35 (x + 11) = nI 0 := m1
    rw [m1']; decide
  | cons g t ih =>
    intro i mr sr S hi h hf1 hf2 hQ
    obtain ⟨c, p, st, L, b⟩ := g
    have hi' : t.length + 1 + i ≤ 8 := hi
    obtain ⟨y, p0, hy⟩ := hf1 _ List.mem_cons_self
    have htl : ∀ g ∈ t, xFOk C nc H 1 g := hf2
    have hx := xFOk.es1 (K := K) (n := n) hH hC hG hy (by omega) htl
    have hc : cE S x α C nc (H, n, G, c, L, b, t) p st := h
    have k7 := hc.k7
    have hn := hc.n
    have m1 : S.I 35 (x + 11) = nI (t.length + 1) := h.2.2.2.2.1
    refine f_48_28 hE ⟨fun z => absurd z (nI_ge (b := 8) (by omega) (by decide)), fun _ => ⟨by rw [k7]; rfl, fun z => absurd z (by rw [m1]; exact nI_nle (Nat.succ_pos _) (by omega)), fun _ => ⟨by decide, k7, by decide, 0, 0, Nat.zero_le _, Nat.zero_le _, c_44 hsp hc.1 (m := t.length + 1) (by omega) m1 (f_48_45 hE ?_)⟩⟩⟩
    rw [if_neg (Nat.succ_ne_zero _), Nat.add_sub_cancel]
    refine ⟨fun z => absurd z (by omega), fun _ => ⟨by decide, (hc.oF hx).1, by decide, 0, 0, Nat.zero_le _, Nat.zero_le _, ?_⟩⟩
    match b, hy, hx, hc, h, hQ with
    | [], hy, hx, hc, h, hQ =>
      refine s_handle0 hsp (hc.oF hx) hc.bl (f_48_58 hE ⟨fun _ => ⟨by rw [k7]; rfl, by rw [k7]; rfl, ?_⟩, fun z => absurd rfl z⟩)
      rw [m1, nI_pred, nI_1]
      have hI : cI x (cWm x) S (S.sI 35 (x + 11) (nI t.length)) := cI.refl.sI (Or.inr ⟨rfl, by decide, by decide, by decide⟩)
      have eI : ∀ F, F ≠ 35 → (S.sI 35 (x + 11) (nI t.length)).I F (x + 11) = S.I F (x + 11) := fun F hF => by rw [or_sI_I, if_neg (fun z => hF z.1)]
      have e35 : (S.sI 35 (x + 11) (nI t.length)).I 35 (x + 11) = nI t.length := by rw [or_sI_I, if_pos ⟨rfl, rfl⟩]
      have eR : (S.sI 35 (x + 11) (nI t.length)).R = S.R := or_sI_R _ _ _ _
      show c_48_28 (ox_M sp (d + 2)) (x + 11) (nI k) (x + 68 + k) (nI (i + 1)) (S.sI 35 (x + 11) (nI t.length)) _ _ Q
      generalize S.sI 35 (x + 11) (nI t.length) = U at hI eI e35 eR ⊢
      have hN : cN x S U := cWm_N hn hI (by rw [eR]) (eI 39 (by decide))
      obtain ⟨b0, hp0, f0, g0, q1, q2, q3, q4, q5⟩ := id h
      have hU : cR U x α C nc (H, n, G, t, 1, -1, 0) := h.fld (s' := (H, n, G, t, 1, -1, 0)) hI (eI 43 (by decide)) rfl rfl f0.2 (by show t.length ≤ 8; omega) e35 ((eI 37 (by decide)).trans q2) ((eI 38 (by decide)).trans q3) (fun z => by cases z) (fun _ => by rw [eR]; exact q5 (show (1 : Nat) ≠ 2 by decide))
      exact ih (i + 1) _ _ U (by omega) hU (fun g hg => ⟨1, g.2.1, htl g hg⟩) (fun g hg => htl g (List.mem_of_mem_tail hg)) (fun S' n1 n2 => hQ S' (hN.trans n1) n2)
    | (l, t') :: b', hy, hx, hc, h, hQ =>
      obtain ⟨l1, l2⟩ := (hy.blk hC).2 l t' b' rfl
      exact c_27 hsp hc hx hk rfl l1 l2 (fun S' n1 n2 => f_48_58 hE ⟨fun z => absurd z (by decide), fun _ => ⟨rfl, hQ S' n1 n2⟩⟩)
/-- raise -/
theorem c_48 (hsp : ox_mono sp) {k mr sr : Nat} (hk : k < 7) {H : xHp} {n : Int} {G : List (Nat × Int)} {Q : ox_Q} {fs : List xFr} {S : ox_St} (hH : xHOk nc K H n) (hC : xCOk C nc H) (hG : xGOk nc H G) (hl : fs.length ≤ 8) (h : cR S x α C nc (H, n, G, fs, 1, -1, 0)) (hf1 : ∀ g ∈ fs, ∃ y p, xFOk C nc H y (g.1, p, g.2.2)) (hf2 : ∀ g ∈ fs.tail, xFOk C nc H 1 g) (hQ : ∀ S', cN x S S' → cR S' x α C nc (xRaise k H n G fs) → Q none S') : ox_M sp (d + 3) 48 [.inr (.inr (x + 11)), .inl (nI k)] mr sr S Q := by
  have b := h.1
  have k7 : S.K (x + 11) = 7 := b.1.obj (by decide)
  have r47 : S.R 47 (x + 11) = x + 18 := b.1.ref (by decide)
  obtain ⟨k18, l18⟩ := b.1.row (o := 18) (k := 19) (n := 7) (by decide)
  refine f_48 hsp ⟨fun z => absurd z (nI_pos (by omega)), fun _ => ⟨fun _ => ⟨by rw [k7]; rfl, by rw [r47, k18]; rfl, by rw [r47, l18]; exact vp_in_nI hk (by decide), ?_⟩, fun z => absurd (nI_lt (b := 7) hk (by decide)) z⟩⟩
  rw [r47, nI_clamp (by omega), b.1.kind hk]
  exact c_48_l hsp hk hH hC hG fs 0 _ _ S (by omega) h hf1 hf2 hQ
/-- leave -/
theorem c_49 (hsp : ox_mono sp) {e : xEn} {q mr sr : Nat} {v : Int} {r : List Int} {Q : ox_Q} {S : ox_St} (h : cE S x α C nc e q (v :: r)) (hx : xEs1 C nc K e (v :: r)) (hQ : ∀ S' y, cN x S S' → cX S' x α C nc e q (v :: r) (xRet e v) y → Q (some (.inl y)) S') : ox_M sp (d + 3) 49 [.inr (.inr (x + 11)), .inr (.inr (x + 28 + 5 * e.t.length))] mr sr S Q := by
  have hE : ox_mono (ox_M sp (d + 2)) := ox_M_mono hsp _
  have t7 := hx.t7
  refine f_49 hsp ⟨by decide, (h.oF hx).1, by decide, 0, 0, Nat.zero_le _, Nat.zero_le _, c_pop hsp h hx (fun S1 b g1 g2 g3 => f_49_4 hE ?_)⟩
  have k7 := g3.k7
  have hn := g3.n
  have m1 : S1.I 35 (x + 11) = nI (e.t.length + 1) := g3.2.2.2.2.1
  refine ⟨by rw [k7]; rfl, by rw [k7]; rfl, ?_⟩
  rw [m1, nI_pred]
  have hI : cI x (cWm x) S1 (S1.sI 35 (x + 11) (nI e.t.length)) := cI.refl.sI (Or.inr ⟨rfl, by decide, by decide, by decide⟩)
  have eI : ∀ F, F ≠ 35 → (S1.sI 35 (x + 11) (nI e.t.length)).I F (x + 11) = S1.I F (x + 11) := fun F hF => by rw [or_sI_I, if_neg (fun z => hF z.1)]
  have e35 : (S1.sI 35 (x + 11) (nI e.t.length)).I 35 (x + 11) = nI e.t.length := by rw [or_sI_I, if_pos ⟨rfl, rfl⟩]
  have eR : (S1.sI 35 (x + 11) (nI e.t.length)).R = S1.R := or_sI_R _ _ _ _
  have eK : (S1.sI 35 (x + 11) (nI e.t.length)).K = S1.K := or_sI_K _ _ _ _
  intro S2
  have hI' : cI x (cWm x) S1 S2 := hI
  have eI' : ∀ F, F ≠ 35 → S2.I F (x + 11) = S1.I F (x + 11) := eI
  have e35' : S2.I 35 (x + 11) = nI e.t.length := e35
  have eR' : S2.R = S1.R := eR
  have eK' : S2.K = S1.K := eK
  generalize S2 = U at hI' eI' e35' eR' eK' ⊢
  have hN : cN x S1 U := cWm_N hn hI' (by rw [eR']) (eI' 39 (by decide))
  obtain ⟨b0, hp0, f0, g0, q1, q2, q3, q4, q5⟩ := id g3
  have hU : cR U x α C nc (e.H, e.n, e.G, e.t, 1, -1, 0) := cR.fld (s := (e.H, e.n, e.G, (e.c, q, r, e.L, e.b) :: e.t, 1, -1, 0)) (s' := (e.H, e.n, e.G, e.t, 1, -1, 0)) g3 hI' (eI' 43 (by decide)) rfl rfl f0.2 (by show e.t.length ≤ 8; omega) e35' ((eI' 37 (by decide)).trans q2) ((eI' 38 (by decide)).trans q3) (fun z => by cases z) (fun _ => by rw [eR']; exact q5 (show (1 : Nat) ≠ 2 by decide))
  have hv := g2.next (α' := α) hI' rfl
  refine ⟨by decide, by rw [eK']; exact k7, by decide, 0, 0, Nat.zero_le _, Nat.zero_le _, c_44 hsp hU.1 (m := e.t.length) (by omega) e35' (f_49_19 hE ?_)⟩
  unfold xRet at hQ
  cases ht : e.t with
  | nil =>
    rw [ht] at hQ hU
    dsimp only at hQ
    have k7U : U.K (x + 11) = 7 := hU.1.1.obj (by decide)
    have hnU : x + 119 ≤ U.n := hU.1.2.2.2.1
    refine ⟨fun _ => ⟨by rw [k7U]; rfl, by rw [or_sI_K, k7U]; rfl, trivial, ?_⟩, fun z => absurd rfl z⟩
    have hI2 : cI x (cWm x) U ((U.sI 37 (x + 11) 2).sR 40 (x + 11) b) := ((show cI x (cWm x) _ _ from cI.refl).sI (G := 37) (a := x + 11) (Or.inr ⟨rfl, by decide, by decide, by decide⟩)).sR (G := 40) (a := x + 11) (Or.inr ⟨rfl, Or.inr (Or.inr rfl)⟩)
    have eI2 : ∀ F, ((U.sI 37 (x + 11) 2).sR 40 (x + 11) b).I F (x + 11) = if F = 37 then 2 else U.I F (x + 11) := fun F => by
      rw [or_sR_I, or_sI_I]
      by_cases z : F = 37
      · rw [if_pos ⟨z, rfl⟩, if_pos z]
      · rw [if_neg (fun y => z y.1), if_neg z]
    have eR2 : ∀ F, ((U.sI 37 (x + 11) 2).sR 40 (x + 11) b).R F (x + 11) = if F = 40 then b else U.R F (x + 11) := fun F => by
      rw [or_sR_R, or_sI_R]
      by_cases z : F = 40
      · rw [if_pos ⟨z, rfl⟩, if_pos z]
      · rw [if_neg (fun y => z y.1), if_neg z]
    generalize (U.sI 37 (x + 11) 2).sR 40 (x + 11) b = V at hI2 eI2 eR2 ⊢
    have hN2 : cN x U V := cWm_N hnU hI2 (by rw [eR2, if_neg (by decide)]) (by rw [eI2, if_neg (by decide)])
    refine hQ V (-1) ((g1.trans hN).trans hN2) ⟨rfl, ?_⟩
    obtain ⟨-, -, -, -, p1, p2, p3, -⟩ := id hU
    exact hU.fld (s' := (e.H, e.n, e.G, [], 2, -1, v)) hI2 (by rw [eI2, if_neg (by decide)]) rfl rfl trivial (Nat.zero_le _) (by rw [eI2, if_neg (by decide)]; exact p1) (by rw [eI2, if_pos rfl]; rfl) (by rw [eI2, if_neg (by decide)]; exact p3) (fun _ => by rw [eR2, if_pos rfl]; exact hv) (fun z => absurd rfl z)
  | cons f t2 =>
    obtain ⟨c, p, st, L, bb⟩ := f
    rw [ht] at hQ hU t7
    dsimp only at hQ
    have t7' : t2.length + 1 ≤ 7 := t7
    have h7 := hx.1.2.2.2.2.2.2
    rw [ht] at h7
    have hf := h7 _ List.mem_cons_self
    have hxU : xEs1 C nc K (e.H, e.n, e.G, c, L, bb, t2) st := xFOk.es1 hx.1.1 hx.1.2.1 hx.1.2.2.1 hf (by omega) (fun g hg => h7 g (List.mem_cons_of_mem _ hg))
    have hcU : cE U x α C nc (e.H, e.n, e.G, c, L, bb, t2) p st := hU
    have kF := (hcU.oF hxU).1
    have x1 : x + 28 + 5 * (t2.length + 1 - 1) = x + 28 + 5 * t2.length := by rw [Nat.add_sub_cancel]
    show ((if t2.length + 1 = 0 then 0 else x + 28 + 5 * (t2.length + 1 - 1)) = 0 → _) ∧ _
    rw [if_neg (Nat.succ_ne_zero _), x1]
    refine ⟨fun z => absurd z (by omega), fun _ => ⟨by decide, kF, by decide, 0, 0, Nat.zero_le _, Nat.zero_le _, ?_⟩⟩
    have hlen := hf.len hx.1.2.1
    have hlen' : st.length + 1 ≤ 10 := hlen
    exact c_push (e := (e.H, e.n, e.G, c, L, bb, t2)) hsp hcU hxU hlen' hv hx.head (fun S3 n1 n2 => f_49_29 hE ⟨trivial, hQ S3 (-1) ((g1.trans hN).trans n1) ⟨rfl, n2⟩⟩)
end CRt2
