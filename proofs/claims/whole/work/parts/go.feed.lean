/-! both sides at once: feed -/
theorem bv_sh32 (b y z : BitVec 32) (s : Nat) (hy : y.toNat = s) (hz : z.toNat = s) (hs : s ≤ 24) : (b.sshiftRight' y) &&& 255#32 = (b >>> z) &&& 255#32 := by
  have h255 : ∀ j : Fin 32, 8 ≤ j.1 → (255#32).getLsbD j.1 = false := by decide
  refine BitVec.eq_of_getLsbD_eq (fun j hj => ?_)
  rw [BitVec.getLsbD_and, BitVec.getLsbD_and]
  by_cases j8 : j < 8
  · rw [BitVec.getLsbD_sshiftRight', BitVec.ushiftRight_eq', BitVec.getLsbD_ushiftRight, hy, hz, if_pos (by omega), decide_eq_false (by omega)]
    rfl
  · rw [h255 ⟨j, hj⟩ (show 8 ≤ j by omega), Bool.and_false, Bool.and_false]
theorem by_eq (w : Int32) (i : Nat) (hi : i < 4) : mBy w i = oBy w i := by
  have e : ∀ i : Fin 4, (((8 * nI i.1) &&& 31).toBitVec.smod 32).toNat = 8 * i.1 ∧ ((Int32.toUInt32 (8 * nI i.1) &&& Int32.toUInt32 31).toBitVec % 32).toNat = 8 * i.1 := by decide
  obtain ⟨e1, e2⟩ := e ⟨i, hi⟩
  unfold mBy oBy
  refine Int32.toBitVec_inj.mp ?_
  rw [Int32.toBitVec_and, Int32.toBitVec_and, Int32.toBitVec_shiftRight, UInt32.toBitVec_toInt32, UInt32.toBitVec_shiftRight, Int32.toBitVec_toUInt32]
  exact bv_sh32 _ _ _ (8 * i) e1 e2 (by omega)
/-- the byte itself -/
def byN (w : Int32) (i : Nat) : Nat := (oBy w i).toBitVec.toNat
theorem byN_ok (w : Int32) (i : Nat) : oBy w i = nI (byN w i) ∧ byN w i < 256 := by
  refine ⟨Int32.toBitVec_inj.mp (by show _ = BitVec.ofNat 32 _; unfold byN; simp), ?_⟩
  unfold byN oBy
  rw [Int32.toBitVec_and, BitVec.toNat_and]
  exact Nat.lt_of_le_of_lt Nat.and_le_right (by decide)
section GO
variable {F x t : Nat} {B0 : Nat → Int32}
theorem oFd_f (hxt : x ≠ t) : ∀ (k e : Nat) (S : ox_St), (oFd F x t B0 e k S).K = S.K ∧ (oFd F x t B0 e k S).len = S.len ∧ (oFd F x t B0 e k S).n = S.n ∧ (oFd F x t B0 e k S).R = S.R ∧ (oFd F x t B0 e k S).J = S.J ∧ (oFd F x t B0 e k S).rR = S.rR ∧ (oFd F x t B0 e k S).rJ = S.rJ ∧ (∀ G a, G ≠ F ∨ a ≠ x → (oFd F x t B0 e k S).I G a = S.I G a) ∧ (0 < k → (oFd F x t B0 e k S).I F x = nI (e + k)) ∧ (∀ u j, u ≠ t ∨ j < e ∨ e + k ≤ j → (oFd F x t B0 e k S).rI u j = S.rI u j) ∧ ∀ j, e ≤ j → j < e + k → (oFd F x t B0 e k S).rI t j = B0 (k - 1 - (j - e))
  | 0, e, S => ⟨rfl, rfl, rfl, rfl, rfl, rfl, rfl, fun _ _ _ => rfl, fun h => absurd h (Nat.lt_irrefl _), fun _ _ _ => rfl, fun j h1 h2 => by omega⟩
  | k + 1, e, S => by
    obtain ⟨h1, h2, h3, h4, h5, h6, h7, h8, h9, h10, h11⟩ := oFd_f hxt k (e + 1) ((S.wI t e (B0 k)).sI F x (nI (e + 1)))
    have ed : oFd F x t B0 e (k + 1) S = oFd F x t B0 (e + 1) k ((S.wI t e (B0 k)).sI F x (nI (e + 1))) := rfl
    rw [ed]
    refine ⟨h1, h2, h3, h4, h5, h6, h7, fun G a z => ?_, fun _ => ?_, fun u j z => ?_, fun j z1 z2 => ?_⟩
    · rw [h8 G a z, or_sI_I, if_neg (fun y => by omega)]; rfl
    · by_cases k0 : 0 < k
      · rw [h9 k0, show e + 1 + k = e + (k + 1) by omega]
      · have : k = 0 := by omega
        subst this
        show ((S.wI t e (B0 0)).sI F x (nI (e + 1))).I F x = nI (e + (0 + 1))
        rw [or_sI_I, if_pos ⟨rfl, rfl⟩]
    · rw [h10 u j (by omega), or_sI_rI, or_wI_rI, if_neg (fun y => by omega)]
    · by_cases y : j = e
      · rw [h10 t j (by omega), or_sI_rI, or_wI_rI, if_pos ⟨rfl, y⟩, y, show k + 1 - 1 - (e - e) = k by omega]
      · rw [h11 j (by omega) (by omega), show k - 1 - (j - (e + 1)) = k + 1 - 1 - (j - e) by omega]
end GO
section GO2
variable {sp : ox_E} {S S' : ox_St} {m x x0 L nc e y ce Tc Bn Kn Wn K P t mr sr : Nat} {xs : Nat → Int32} {α : Int → Nat} {C : Nat → xCd} {s : xSt} {b : Nat → Nat} {γ : Int → Nat} {B : List Int} {R : ox_St → Nat → Nat → Prop}
/-- the reference's tape changes -/
theorem rR.tp (h : rR S m ce γ B Tc C nc y s) (hl : ∀ g ∈ s.f, g.2.2.1.length ≤ 10 ∧ g.2.2.2.2.length ≤ 4) (hK : S'.K = S.K) (hn : S'.len = S.len) (hR : S'.R = S.R) (hJ : S'.rJ = S.rJ) (hI : ∀ F, F ≠ 69 → F ≠ 72 → S'.I F m = S.I F m) (f5 : ∀ o, 2 ≤ o → S'.rI (m + o) = S.rI (m + o)) : rR S' m ce γ B Tc C nc y s := by
  obtain ⟨a1, ⟨a2, a3⟩, ⟨a4, a5⟩, a6, a7, ⟨b1, b2, b3, b4, b5⟩, c1, c2, c3⟩ := h
  have hce := a1.2.2.1
  refine ⟨a1.next hK hn (fun F => by rw [hR]), ⟨a2.next (fun j _ => by rw [f5 _ (by omega)]), (hI 75 (by decide) (by decide)).trans a3⟩, ⟨a4, fun c hc => (a5 c hc).next (fun a z1 z2 => ?_) (by rw [hJ]) (fun _ _ => rfl)⟩, ?_, a7.next (hI 106 (by decide) (by decide)) (by rw [hJ]) (f5 25 (by omega)) (fun _ _ => rfl), ⟨(hI 92 (by decide) (by decide)).trans b1, (hI 93 (by decide) (by decide)).trans b2, (hI 94 (by decide) (by decide)).trans b3, (hI 95 (by decide) (by decide)).trans b4, (hI 97 (by decide) (by decide)).trans b5⟩, c1, c2, c3⟩
  · have := f5 (a - m) (by omega)
    rw [show m + (a - m) = a by omega] at this
    exact this
  · exact rFs.next _ (fun f _ => ⟨fun o z1 z2 => by rw [f5 _ (by omega)], fun j _ => by rw [f5 _ (by omega)], fun j _ => by rw [f5 _ (by omega)], fun j _ => by rw [f5 _ (by omega), f5 _ (by omega)]; exact ⟨rfl, rfl⟩⟩) hl (fun _ _ _ _ => rfl) a6
theorem z_feed {w n : Int32} (hsp : ox_mono sp) (hV : zzV S x α C nc s e b y ce γ B Tc Bn Kn Wn K P) (hs : lw_scr x0 L xs S) (hx : x0 < x) (hL : zzL t nc e Bn Kn Wn K P) (t5 : t < 512) (b1 : 1171 * (512 - t) + 8 * e ≤ mr) (b2 : 9906 * (512 - t) + 400 * e ≤ sr) (hR : ∀ S' mr' sr', zzI x0 L xs x (t + 1) S' mr' sr' → R S' mr' sr') : lw_two (lw_E (ox_M sp 1200)) (lw_scr x0 L xs) 95 128 [.inr (.inr x), .inl w, .inl n] [.inr (.inr (x + 76)), .inl w, .inl n] (x + 76) S mr sr R := by
  obtain ⟨⟨⟨c1, c2, c3, c4⟩, ⟨m1, m2, m3, m4⟩⟩, ⟨w1, w2⟩, ⟨h5, h6⟩, h7, ⟨e8, hb⟩, h9, h10⟩ := id hV
  have hB := c1.1
  have hn : x + 119 ≤ S.n := hB.2.2.2.1
  have h0 : 0 < x := hB.2.1
  have hf := w1.len
  have k13 : S.K x = 13 := hB.1.obj (o := 0) (k := 13) (by decide)
  have r60 : S.R 60 x = x + 1 := hB.1.ref (F := 60) (o := 0) (t := 1) (by decide)
  obtain ⟨a1, a2⟩ := hB.1.row (o := 1) (k := 15) (n := 800) (by decide)
  obtain ⟨g1, g2, g3⟩ := m1.1.row (F := 71) (o := 1) (k := 15) (n := 800) (by decide)
  refine ⟨0, 0, Nat.zero_le _, Nat.zero_le _, p_E (by decide) (by decide) ?_⟩
  refine s_95 (d := 1199) hsp (t := x + 1) (by omega) k13 r60 a1 a2 c2 e8 (fun no => ?_) (fun k ek k1 k4 ke => ?_)
  · refine ⟨-1, rfl, hs, m1.1.1, 0, 0, Nat.zero_le _, Nat.zero_le _, p_E (by decide) (by decide) ?_⟩
    refine s_128 (d := 1199) hsp (t := x + 76 + 1) (by omega) m1.1.1 g1 g2 g3 m3 e8 (fun _ => ⟨rfl, hR _ _ _ ⟨⟨scr_w hs hx (v := 0) w41.refl, hx⟩, α, C, nc, s, e, b, y, ce, γ, B, Tc, Bn, Kn, Wn, K, P, hV.q cQ.refl w41.refl, hL.up, by omega, by omega⟩⟩) (fun k ek k1 k4 ke => absurd (no k ek k1 k4) (by omega))
  · have f1 := oFd_f (F := 61) (x := x) (t := x + 1) (B0 := oBy w) (by omega) k e S
    generalize oFd 61 x (x + 1) (oBy w) e k S = V at f1 ⊢
    obtain ⟨f1, f2, f3, f4, f5, f6, f7, f8, f9, f10, f11⟩ := f1
    have gf : gF x S V := ⟨f1, f2, f3, f5, f6, f7, fun F a _ => by rw [f4], fun F a hF => f8 F a (Or.inl hF.2.2.2), fun a ha => funext fun j => f10 a j (Or.inl (by omega))⟩
    have sV : lw_scr x0 L xs V := ⟨by rw [f1]; exact hs.1, by rw [f2]; exact hs.2.1, fun j hj => by rw [f10 x0 j (Or.inl (by omega))]; exact hs.2.2 j hj⟩
    have agM : oAg (fun a => x + 2 ≤ a) S V := fun a ha => ⟨by rw [f1], by rw [f2], fun F => f8 F a (Or.inr (by omega)), fun F => by rw [f4], fun F => by rw [f5], fun j => f10 a j (Or.inl (by omega)), fun j => by rw [f6], fun j => by rw [f7]⟩
    have mV := hV.1.2.ag hf (agM.sub (fun a ha => by omega))
    refine ⟨nI (e + k), rfl, sV, mV.1.1.1, 0, 0, Nat.zero_le _, Nat.zero_le _, p_E (by decide) (by decide) ?_⟩
    obtain ⟨g1', g2', g3'⟩ := mV.1.1.row (F := 71) (o := 1) (k := 15) (n := 800) (by decide)
    refine s_128 (d := 1199) hsp (t := x + 76 + 1) (by omega) mV.1.1.1 g1' g2' g3' mV.2.2.1 e8 (fun no => absurd (no k ek k1 k4) (by omega)) (fun k' ek' k1' k4' ke' => ?_)
    have kk : k' = k := (nI_eq (by omega) (by omega)).mp (ek'.symm.trans ek)
    subst kk
    have p1 := oFd_f (F := 72) (x := x + 76) (t := x + 76 + 1) (B0 := mBy w) (by omega) k' e (V.sI 69 (x + 76) 0)
    generalize oFd 72 (x + 76) (x + 76 + 1) (mBy w) e k' (V.sI 69 (x + 76) 0) = U at p1 ⊢
    obtain ⟨p1, p2, p3, p4, p5, p6, p7, p8, p9, p10, p11⟩ := p1
    have pI : ∀ G a, (G ≠ 69 ∧ G ≠ 72) ∨ a ≠ x + 76 → U.I G a = V.I G a := fun G a z => by
      rw [p8 G a (by omega), or_sI_I, if_neg (fun q => by omega)]
    have j : cJ x V U := ⟨oKl_of p3 p1 p2, fun a ha => ⟨by rw [p1]; rfl, by rw [p2]; rfl, fun F => pI F a (Or.inr (fun z => ha.2 ⟨by omega, by omega⟩)), fun F => by rw [p4]; rfl, fun F => by rw [p5]; rfl, fun i => p10 a i (Or.inl (fun z => ha.2 ⟨by omega, by omega⟩)), fun i => by rw [p6]; rfl, fun i => by rw [p7]; rfl⟩⟩
    have hl := w1.2.2.2.1.1
    have cV : wC V x α C nc s (e + k') (fun i => if i < e then b i else byN w (k' - 1 - (i - e))) := by
      refine ⟨c1.gf gf, f9 (by omega), fun i hi => ?_, c4.kl (oKl_of f3 f1 f2) hB (f8 2 _ (Or.inl (by decide))) (by rw [f4]) (by rw [f4])⟩
      show V.rI (x + 1) i = nI (if i < e then b i else byN w (k' - 1 - (i - e)))
      by_cases z : i < e
      · rw [if_pos z, f10 (x + 1) i (Or.inr (Or.inl z))]; exact c3 i z
      · rw [if_neg z, f11 i (by omega) hi, (byN_ok w _).1]
    have mU : wM U (x + 76) ce γ B Tc C nc y s (e + k') (fun i => if i < e then b i else byN w (k' - 1 - (i - e))) Bn Kn Wn := by
      obtain ⟨v1, v2, v3, v4⟩ := mV
      refine ⟨v1.tp hf p1 p2 p4 p7 (fun F z1 z2 => pI F _ (Or.inl ⟨z1, z2⟩)) (fun o ho => funext fun i => p10 _ i (Or.inl (by omega))), v2.fx (fun F hF => pI F _ (Or.inl (by omega))) (fun o z1 z2 => funext fun i => p10 _ i (Or.inl (by omega))) (by rw [p7]; rfl), p9 (by omega), fun i hi => ?_⟩
      show U.rI (x + 76 + 1) i = nI (if i < e then b i else byN w (k' - 1 - (i - e)))
      by_cases z : i < e
      · rw [if_pos z, p10 _ i (Or.inr (Or.inl z))]; exact v4 i z
      · rw [if_neg z, p11 i (by omega) hi, by_eq w _ (by omega), (byN_ok w _).1]
    have uI : ∀ G a, a < x + 76 → (a ≠ x ∨ G ≠ 61) → U.I G a = S.I G a := fun G a z1 z2 => (pI G a (Or.inr (by omega))).trans (f8 G a (by omega))
    have uM : ∀ G, G ≠ 69 → G ≠ 72 → U.I G (x + 76) = S.I G (x + 76) := fun G z1 z2 => (pI G _ (Or.inl ⟨z1, z2⟩)).trans (f8 G _ (Or.inr (by omega)))
    have uR : U.R = S.R := p4.trans f4
    have uK : U.K = S.K ∧ U.len = S.len := ⟨p1.trans f1, p2.trans f2⟩
    refine ⟨rfl, hR _ _ _ ⟨⟨⟨by rw [uK.1]; exact hs.1, by rw [uK.2]; exact hs.2.1, fun i hi => ?_⟩, hx⟩, α, C, nc, s, e + k', (fun i => if i < e then b i else byN w (k' - 1 - (i - e))), y, ce, γ, B, Tc, Bn, Kn, Wn, K, P, ⟨⟨cV.cJ j hl, mU⟩, ⟨w1, w2⟩, ⟨by rw [uI 39 _ (by omega) (Or.inl (by omega))]; exact h5, by rw [uI 63 _ (by omega) (Or.inr (by decide)), uM 70 (by decide) (by decide)]; exact h6⟩, ?_, ⟨ke, fun i hi => ?_⟩, by rw [uK.1]; exact h9, by rw [uK.2]; exact h10⟩, ?_, by omega, by omega⟩⟩
    · rw [p10 x0 i (Or.inl (by omega))]; exact sV.2.2 i hi
    · unfold zzB
      rw [uR, uM 96 (by decide) (by decide)]
      exact h7
    · show (if i < e then b i else byN w (k' - 1 - (i - e))) < 256
      by_cases z : i < e
      · rw [if_pos z]; exact hb i z
      · rw [if_neg z]; exact (byN_ok w _).2
    · obtain ⟨l1, l2, l3, l4, l5, l6⟩ := hL
      exact ⟨by omega, by omega, by omega, by omega, by omega, by omega⟩
end GO2
