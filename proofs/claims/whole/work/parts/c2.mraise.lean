/-! the reference: raise -/
section RRs
variable {sp : ox_E} {d mr sr : Nat} {S S' : ox_St} {Q : ox_Q} {m ce : Nat} {γ : Int → Nat} {B : List Int} {T : Nat} {C : Nat → xCd} {nc K y : Nat} {e : xEn} {q : Nat} {st r : List Int} {v u : Int}
/-- only numbers of the reference itself change -/
theorem rR.fld {s s' : xSt} (h : rR S m ce γ B T C nc y s) {y' : Nat} (fx : mFx m S S') (hR : S'.R = S.R) (hr : S'.rI = S.rI) (hJ : S'.rJ = S.rJ) (h75 : S'.I 75 m = S.I 75 m) (h106 : S'.I 106 m = S.I 106 m) (eH : s'.H = s.H) (eG : s'.G = s.G) (hF : rFs S m γ s'.f) (hl : ∀ g ∈ s'.f, g.2.2.1.length ≤ 10 ∧ g.2.2.2.2.length ≤ 4) (h92 : S'.I 92 m = nI s'.f.length) (h93 : S'.I 93 m = nI s'.s) (h94 : S'.I 94 m = Int32.ofInt s'.k) (h95 : S'.I 95 m = nI y') (h97 : S'.I 97 m = gV γ s'.r) (hB : xIn B s'.r) (hT : xTIn B s'.f) : rR S' m ce γ B T C nc y' s' := by
  obtain ⟨a1, ⟨a2, a3⟩, ⟨a4, a5⟩, -, a7, -, c1, -, -⟩ := h
  refine ⟨a1.next fx.2.1 fx.2.2.1 (fun F => by rw [hR]), ⟨by rw [eH]; exact a2.next (fun j _ => by rw [hr]), h75.trans a3⟩, ⟨a4, fun c hc => (a5 c hc).next (fun a _ _ => by rw [hr]) (by rw [hJ]) (fun _ _ => rfl)⟩, rFs.next _ (fun f _ => ⟨fun _ _ _ => by rw [hr], fun _ _ => by rw [hr], fun _ _ => by rw [hr], fun _ _ => by rw [hr]; exact ⟨rfl, rfl⟩⟩) hl (fun _ _ _ _ => rfl) hF, by rw [eG]; exact a7.next h106 (by rw [hJ]) (by rw [hr]) (fun _ _ => rfl), ⟨h92, h93, h94, h95, h97⟩, by rw [eG]; exact c1, hB, hT⟩
/-- another place -/
theorem rE.place (h : rE S m ce γ B T C nc y e q st) (hx : xEs1 C nc K e st) (q' : Nat) : rCh m ce T e.t.length S (S.wI (m + 17) e.t.length (nI q')) ∧ rE (S.wI (m + 17) e.t.length (nI q')) m ce γ B T C nc y e q' st := by
  have ch : rCh m ce T e.t.length S (S.wI (m + 17) e.t.length (nI q')) := rCh.refl.wI h.c23 (Or.inl ⟨by omega, by omega, rfl⟩)
  obtain ⟨f1, f2, f3, f4, f5, f6, f7⟩ := h.2.2.2.1.1
  have er : ∀ a j, a ≠ m + 17 → (S.wI (m + 17) e.t.length (nI q')).rI a j = S.rI a j := fun a j z2 => by rw [or_wI_rI, if_neg (fun y => z2 y.1)]
  have e17 : (S.wI (m + 17) e.t.length (nI q')).rI (m + 17) e.t.length = nI q' := by rw [or_wI_rI, if_pos ⟨rfl, rfl⟩]
  generalize S.wI (m + 17) e.t.length (nI q') = U at ch er e17 ⊢
  exact ⟨ch, h.fr hx ch ⟨(er _ _ (by omega)).trans f1, e17, (er _ _ (by omega)).trans f3, (er _ _ (by omega)).trans f4, rStk.row _ (fun j _ => er _ _ (by omega)) (fun _ _ => rfl) f5, rLo.row (fun j _ => er _ _ (by omega)) (fun _ _ _ => rfl) f6, rBk.row _ (fun j _ => ⟨er _ _ (by omega), er _ _ (by omega)⟩) f7⟩ h.in.1 h.in.2⟩
theorem xFOk.r10 {H : xHp} {z : Nat} {g : xFr} {p : Nat} (hC : xCOk C nc H) (h : xFOk C nc H z (g.1, p, g.2.2)) : g.2.2.1.length ≤ 10 ∧ g.2.2.2.2.length ≤ 4 := ⟨by have := h.len hC; have h' : g.2.2.1.length + z ≤ 10 := this; omega, (h.blk hC).1⟩
set_option maxRecDepth 20000 in
set_option maxHeartbeats 4000000 in
theorem f_177e {sp : ox_E} (hsp : ox_mono sp) {d : Nat} {mr sr : Nat} {x0 : Nat} {x1 x2 : Int32} {S : ox_St} {Q : ox_Q} (h : q_177_0 (ox_M sp d) x0 x1 x2 S mr sr Q) : ox_M sp (d + 1) 177 [.inr (.inr (x0)), .inl (x1)] mr sr S Q := Or.inr ⟨Nat.le_of_ble_eq_true rfl, ox_C_fold (ox_M_mono hsp d) h⟩
theorem r_177_l (hsp : ox_mono sp) {k : Nat} (hk : k < 7) {H : xHp} {n : Int} {G : List (Nat × Int)} (hH : xHOk nc K H n) (hC : xCOk C nc H) (hG : xGOk nc H G) : ∀ (fs : List xFr) (x2 : Int32) (mr sr : Nat) (S : ox_St) (Q : ox_Q), fs.length ≤ 8 → rR S m ce γ B T C nc y (H, n, G, fs, 1, -1, 0) → (∀ g ∈ fs, ∃ z p, xFOk C nc H z (g.1, p, g.2.2)) → (∀ g ∈ fs.tail, xFOk C nc H 1 g) → (∀ S', mFx m S S' → S'.R = S.R → rR S' m ce γ B T C nc y (xRaise k H n G fs) → Q none S') → q_177_0 (ox_M sp (d + 1)) m (nI k) x2 S mr sr Q := by
  have hE : ox_mono (ox_M sp (d + 1)) := ox_M_mono hsp _
  intro fs
  induction fs with
  | nil =>
    intro x2 mr sr S Q _ h _ _ hQ
    have k14 : S.K m = 14 := h.1.1
    obtain ⟨i1, i2, i3, i4, i5⟩ := h.2.2.2.2.2.1
    have i1' : S.I 92 m = nI 0 := i1
    refine ⟨by rw [k14]; rfl, fun _ => ⟨by rw [k14]; rfl, by rw [or_sI_K, k14]; rfl, rfl, ?_⟩, fun z => absurd (by rw [i1']; decide) z⟩
    have fx : mFx m S ((S.sI 93 m 3).sI 94 m (nI k)) := mFx.refl.sI.sI
    have eI : ∀ F, ((S.sI 93 m 3).sI 94 m (nI k)).I F m = if F = 94 then nI k else if F = 93 then 3 else S.I F m := fun F => by
      rw [or_sI_I, or_sI_I]
      simp only [and_true]
    have eR : ((S.sI 93 m 3).sI 94 m (nI k)).R = S.R := by rw [or_sI_R, or_sI_R]
    have er : ((S.sI 93 m 3).sI 94 m (nI k)).rI = S.rI := by rw [or_sI_rI, or_sI_rI]
    have eJ : ((S.sI 93 m 3).sI 94 m (nI k)).rJ = S.rJ := by rw [or_sI_rJ, or_sI_rJ]
    generalize (S.sI 93 m 3).sI 94 m (nI k) = U at fx eI eR er eJ ⊢
    refine hQ U fx eR (h.fld (s' := (H, n, G, [], 3, (k : Int), 0)) fx eR er eJ (by rw [eI, if_neg (by decide), if_neg (by decide)]) (by rw [eI, if_neg (by decide), if_neg (by decide)]) rfl rfl trivial (fun g hg => by cases hg) ?_ ?_ ?_ ?_ ?_ h.2.2.2.2.2.2.2.1 (fun g hg => by cases hg))
    · rw [eI, if_neg (by decide), if_neg (by decide)]; exact i1
    · rw [eI, if_neg (by decide), if_pos rfl]; rfl
    · rw [eI, if_pos rfl]; rfl
    · rw [eI, if_neg (by decide), if_neg (by decide)]; exact i4
    · rw [eI, if_neg (by decide), if_neg (by decide)]; exact i5
  | cons g t ih =>
    intro x2 mr sr S Q hl h hf1 hf2 hQ
    obtain ⟨c, p, st, L, b⟩ := g
    have hl' : t.length + 1 ≤ 8 := hl
    obtain ⟨z0, p0, hy⟩ := hf1 _ List.mem_cons_self
    have htl : ∀ g ∈ t, xFOk C nc H 1 g := hf2
    have hx := xFOk.es1 (K := K) (n := n) hH hC hG hy (by omega) htl
    have hc : rE S m ce γ B T C nc y (H, n, G, c, L, b, t) p st := h
    have k14 := hc.k
    have f92 : S.I 92 m = nI (t.length + 1) := hc.f92
    obtain ⟨a1, a2, a3⟩ := hc.ml.row (F := 101) (o := 19) (k := 15) (n := 8) (by decide)
    obtain ⟨b1, b2, b3⟩ := hc.ml.row (F := 100) (o := 18) (k := 15) (n := 8) (by decide)
    obtain ⟨c1, c2, c3⟩ := hc.ml.row (F := 104) (o := 22) (k := 15) (n := 32) (by decide)
    obtain ⟨d1, d2, d3⟩ := hc.ml.row (F := 105) (o := 23) (k := 15) (n := 32) (by decide)
    obtain ⟨e1, e2, e3⟩ := hc.ml.row (F := 99) (o := 17) (k := 15) (n := 8) (by decide)
    obtain ⟨g1, g2, g3, g4, g5, g6, g7⟩ := hc.2.2.2.1.1
    have g4' : S.rI (m + 19) t.length = nI b.length := g4
    refine ⟨by rw [k14]; rfl, fun z => absurd z (by rw [f92]; exact nI_nle (Nat.succ_pos _) (by omega)), fun _ => ⟨by rw [k14]; rfl, ?_⟩⟩
    rw [f92, nI_pred]
    intro w3
    have ew : w3 = nI t.length := rfl
    clear_value w3
    subst ew
    rw [a1, a2, a3, k14, nI_clamp (show t.length < 2 ^ 31 by omega), g4']
    refine ⟨rfl, rfl, vp_in_nI (by omega) (by decide), ?_⟩
    match b, hy, hx, hc, h, hQ, g4', g7 with
    | [], hy, hx, hc, h, hQ, g4', g7 =>
      refine ⟨fun _ => ⟨rfl, rfl, ?_⟩, fun z => absurd (by decide) z⟩
      have fx : mFx m S (S.sI 92 m (nI t.length)) := mFx.refl.sI
      have eI : ∀ F, F ≠ 92 → (S.sI 92 m (nI t.length)).I F m = S.I F m := fun F hF => by rw [or_sI_I, if_neg (fun z => hF z.1)]
      have e92 : (S.sI 92 m (nI t.length)).I 92 m = nI t.length := by rw [or_sI_I, if_pos ⟨rfl, rfl⟩]
      have eR : (S.sI 92 m (nI t.length)).R = S.R := or_sI_R _ _ _ _
      have er : (S.sI 92 m (nI t.length)).rI = S.rI := or_sI_rI _ _ _ _
      have eJ : (S.sI 92 m (nI t.length)).rJ = S.rJ := or_sI_rJ _ _ _ _
      show c_177_0 (ox_M sp (d + 1)) m (nI k) (nI t.length) (S.sI 92 m (nI t.length)) _ _ Q
      generalize S.sI 92 m (nI t.length) = U at fx eI e92 eR er eJ ⊢
      obtain ⟨i1, i2, i3, i4, i5⟩ := h.2.2.2.2.2.1
      have hU : rR U m ce γ B T C nc y (H, n, G, t, 1, -1, 0) := h.fld (s' := (H, n, G, t, 1, -1, 0)) fx eR er eJ (eI 75 (by decide)) (eI 106 (by decide)) rfl rfl h.2.2.2.1.2 (fun g hg => xFOk.r10 hC (p := g.2.1) (htl g hg)) e92 ((eI 93 (by decide)).trans i2) ((eI 94 (by decide)).trans i3) ((eI 95 (by decide)).trans i4) ((eI 97 (by decide)).trans i5) h.2.2.2.2.2.2.2.1 (fun g hg => h.2.2.2.2.2.2.2.2 g (List.mem_cons_of_mem _ hg))
      exact f_177_0 hE <| ih _ _ _ U Q (by omega) hU (fun g hg => ⟨1, g.2.1, htl g hg⟩) (fun g hg => htl g (List.mem_of_mem_tail hg)) (fun S' n1 n2 n3 => hQ S' (fx.trans n1) (n2.trans eR) n3)
    | (l, t') :: b', hy, hx, hc, h, hQ, g4', g7 =>
      obtain ⟨l1, l2⟩ := (hy.blk hC).2 l t' b' rfl
      have l1' : l ≤ st.length := l1
      have b4 : b'.length + 1 ≤ 4 := hx.2.2.2
      have s10 := hx.2.2.1
      refine ⟨fun z => absurd z (nI_nle (Nat.succ_pos _) (by show b'.length + 1 < 2 ^ 31; omega)), fun _ => ⟨rfl, rfl, vp_in_nI (by omega) (by decide), rfl, vp_in_nI (by omega) (by decide), ?_⟩⟩
      rw [show nI ((l, t') :: b').length - 1 = nI b'.length from nI_pred _]
      have k1 : (S.wI (m + 19) t.length (nI b'.length)).K = S.K := or_wI_K _ _ _ _
      have k2 : (S.wI (m + 19) t.length (nI b'.length)).len = S.len := or_wI_len _ _ _ _
      have k3 : (S.wI (m + 19) t.length (nI b'.length)).R = S.R := or_wI_R _ _ _ _
      have k4 : (S.wI (m + 19) t.length (nI b'.length)).rI (m + 19) t.length = nI b'.length := by rw [or_wI_rI, if_pos ⟨rfl, rfl⟩]
      have k5 : ∀ a j, a ≠ m + 19 → (S.wI (m + 19) t.length (nI b'.length)).rI a j = S.rI a j := fun a j z => by rw [or_wI_rI, if_neg (fun w => z w.1)]
      have ch1 : rCh m ce T t.length S (S.wI (m + 19) t.length (nI b'.length)) := rCh.refl.wI hc.c23 (Or.inl ⟨by omega, by omega, rfl⟩)
      generalize S.wI (m + 19) t.length (nI b'.length) = V at k1 k2 k3 k4 k5 ch1 ⊢
      have e4 : (4 : Int32) * nI t.length + nI b'.length = nI (4 * t.length + b'.length) := by rw [show (4 : Int32) = nI 4 from rfl, pk_mul, nI_add]
      have q1 : S.rI (m + 22) (4 * t.length + b'.length) = nI l := g7.1
      have q2 : S.rI (m + 23) (4 * t.length + b'.length) = nI t' := g7.2.1
      intro S5
      have e5 : V = S5 := rfl
      clear_value S5
      subst e5
      rw [k1, k3, k14, b1, a1, c1, k2, a2, b2, c2, a3, b3, c3, k4, e4, nI_clamp (show 4 * t.length + b'.length < 2 ^ 31 by omega), k5 _ _ (by omega), q1]
      refine ⟨rfl, rfl, rfl, rfl, vp_in_nI (by omega) (by decide), rfl, vp_in_nI (by omega) (by decide), rfl, vp_in_nI (by omega) (by decide), ?_⟩
      have ch2 : rCh m ce T t.length S (V.wI (m + 18) t.length (nI l)) := ch1.wI hc.c23 (Or.inl ⟨by omega, by omega, rfl⟩)
      have u1 : (V.wI (m + 18) t.length (nI l)).K = S.K := (or_wI_K _ _ _ _).trans k1
      have u5 : ∀ a j, a ≠ m + 19 → a ≠ m + 18 → (V.wI (m + 18) t.length (nI l)).rI a j = S.rI a j := fun a j z1 z2 => by rw [or_wI_rI, if_neg (fun w => z2 w.1)]; exact k5 a j z1
      have u18 : (V.wI (m + 18) t.length (nI l)).rI (m + 18) t.length = nI l := by rw [or_wI_rI, if_pos ⟨rfl, rfl⟩]
      have u19 : (V.wI (m + 18) t.length (nI l)).rI (m + 19) t.length = nI b'.length := by rw [or_wI_rI, if_neg (fun w => by have := w.1; omega)]; exact k4
      generalize V.wI (m + 18) t.length (nI l) = U at ch2 u1 u5 u18 u19 ⊢
      have hlen : (st.drop (st.length - l)).length = l := by rw [List.length_drop]; omega
      have hU : rE U m ce γ B T C nc y (H, n, G, c, L, b', t) p (st.drop (st.length - l)) := hc.fr hx ch2 (f' := (c, p, st.drop (st.length - l), L, b')) ⟨(u5 _ _ (by omega) (by omega)).trans g1, (u5 _ _ (by omega) (by omega)).trans g2, u18.trans (by show nI l = nI (st.drop (st.length - l)).length; rw [hlen]), u19, rStk.row _ (fun j _ => u5 _ _ (by omega) (by omega)) (fun _ _ => rfl) (g5.drop _), rLo.row (fun j _ => u5 _ _ (by omega) (by omega)) (fun _ _ _ => rfl) g6, rBk.row _ (fun j _ => ⟨u5 _ _ (by omega) (by omega), u5 _ _ (by omega) (by omega)⟩) g7.2.2⟩ (fun v hv => hc.in.1 v (List.mem_of_mem_drop hv)) hc.in.2
      have hxU : xEs1 C nc K (H, n, G, c, L, b', t) (st.drop (st.length - l)) := ⟨hx.1, fun u hu => hx.2.1 u (List.mem_of_mem_drop hu), by rw [hlen]; omega, by show b'.length ≤ 4; omega⟩
      have ev : (4 : Int32) + nI k = gV γ (4 + (k : Int)) := by
        unfold gV
        rw [if_pos (by omega), show (4 : Int32) = nI 4 from rfl, nI_add]
        show nI (4 + k) = Int32.ofInt (4 + (k : Int))
        rfl
      obtain ⟨p1, p2⟩ := hU.pushed hxU (v := 4 + (k : Int)) (Or.inl (by omega))
      refine ⟨by decide, by rw [u1]; exact k14, by decide, 0, 0, Nat.zero_le _, Nat.zero_le _, ?_⟩
      rw [ev]
      refine r_174c hsp hU hxU (by rw [hlen]; exact l2) (f_177_61 hE ?_)
      have x5 : ∀ a j, a ≠ m + 18 → a ≠ m + 20 → ((U.wI (m + 20) (10 * t.length + (st.drop (st.length - l)).length) (gV γ (4 + (k : Int)))).wI (m + 18) t.length (nI ((st.drop (st.length - l)).length + 1))).rI a j = U.rI a j := fun a j z1 z2 => by rw [or_wI_rI, if_neg (fun w => z1 w.1), or_wI_rI, if_neg (fun w => z2 w.1)]
      show q_177_61 (ox_M sp (d + 1)) m (nI k) (nI t.length) ((U.wI (m + 20) (10 * t.length + (st.drop (st.length - l)).length) (gV γ (4 + (k : Int)))).wI (m + 18) t.length (nI ((st.drop (st.length - l)).length + 1))) _ _ Q
      have p1' : rCh m ce T t.length U ((U.wI (m + 20) (10 * t.length + (st.drop (st.length - l)).length) (gV γ (4 + (k : Int)))).wI (m + 18) t.length (nI ((st.drop (st.length - l)).length + 1))) := p1
      have p2' : rE ((U.wI (m + 20) (10 * t.length + (st.drop (st.length - l)).length) (gV γ (4 + (k : Int)))).wI (m + 18) t.length (nI ((st.drop (st.length - l)).length + 1))) m ce γ B T C nc y (H, n, G, c, L, b', t) p ((4 + (k : Int)) :: st.drop (st.length - l)) := p2
      generalize (U.wI (m + 20) (10 * t.length + (st.drop (st.length - l)).length) (gV γ (4 + (k : Int)))).wI (m + 18) t.length (nI ((st.drop (st.length - l)).length + 1)) = X at x5 p1' p2' ⊢
      have X14 := p2'.k
      obtain ⟨a1', a2', a3'⟩ := p2'.ml.row (F := 101) (o := 19) (k := 15) (n := 8) (by decide)
      obtain ⟨d1', d2', d3'⟩ := p2'.ml.row (F := 105) (o := 23) (k := 15) (n := 32) (by decide)
      obtain ⟨e1', e2', e3'⟩ := p2'.ml.row (F := 99) (o := 17) (k := 15) (n := 8) (by decide)
      have r19 : X.rI (m + 19) t.length = nI b'.length := p2'.2.2.2.1.1.2.2.2.1
      have r23 : X.rI (m + 23) (4 * t.length + b'.length) = nI t' := by rw [x5 _ _ (by omega) (by omega), u5 _ _ (by omega) (by omega)]; exact q2
      have hxX : xEs1 C nc K (H, n, G, c, L, b', t) ((4 + (k : Int)) :: st.drop (st.length - l)) := ⟨hxU.1, fun u hu => by
        rcases List.mem_cons.mp hu with z | z
        · rw [z]; exact xSm (by omega) (by omega)
        · exact hxU.2.1 u z, by show (st.drop (st.length - l)).length + 1 ≤ 10; rw [hlen]; omega, hxU.2.2.2⟩
      obtain ⟨n1, n2⟩ := p2'.place hxX t'
      unfold q_177_61
      rw [X14, a1', a2', a3', d1', d2', d3', e1', e2', e3', nI_clamp (show t.length < 2 ^ 31 by omega), r19, e4, nI_clamp (show 4 * t.length + b'.length < 2 ^ 31 by omega), r23]
      refine ⟨rfl, rfl, rfl, rfl, vp_in_nI (by omega) (by decide), rfl, vp_in_nI (by omega) (by decide), rfl, vp_in_nI (by omega) (by decide), rfl, hQ _ (ch2.1.trans (p1'.1.trans n1.1)) (n1.2.1.trans (p1'.2.1.trans ch2.2.1)) n2⟩
theorem r_177 (hsp : ox_mono sp) {k : Nat} (hk : k < 7) {H : xHp} {n : Int} {G : List (Nat × Int)} {fs : List xFr} (hH : xHOk nc K H n) (hC : xCOk C nc H) (hG : xGOk nc H G) (hl : fs.length ≤ 8) (h : rR S m ce γ B T C nc y (H, n, G, fs, 1, -1, 0)) (hf1 : ∀ g ∈ fs, ∃ z p, xFOk C nc H z (g.1, p, g.2.2)) (hf2 : ∀ g ∈ fs.tail, xFOk C nc H 1 g) (hQ : ∀ S', mFx m S S' → S'.R = S.R → rR S' m ce γ B T C nc y (xRaise k H n G fs) → Q none S') : ox_M sp (d + 2) 177 [.inr (.inr m), .inl (nI k)] mr sr S Q := by
  exact f_177e hsp (r_177_l hsp hk hH hC hG fs 0 mr sr S Q hl h hf1 hf2 hQ)
end RRs
