/-! the reference: MAKE_FUNCTION -/
theorem sI_wI (S : ox_St) (F b a i : Nat) (w v : Int32) : (S.wI a i v).sI F b w = (S.sI F b w).wI a i v := rfl
section RFn
variable {sp : ox_E} {d mr sr : Nat} {S S' S2 : ox_St} {Q : ox_Q} {m ce a : Nat} {γ : Int → Nat} {B : List Int} {T : Nat} {C : Nat → xCd} {nc K y : Nat} {e : xEn} {q j i : Nat} {st r : List Int} {v u n : Int} {H : xHp} {o : xOb}
/-- more cells used than there are -/
theorem rE.top (h : rE S m ce γ B T C nc y e q st) (hx : xEs1 C nc K e st) {T' : Nat} (fx : mFx m S S') (hR : S'.R = S.R) (hr : S'.rI = S.rI) (hJ : S'.rJ = S.rJ) (hI : ∀ F, F ≠ 75 → S'.I F m = S.I F m) (h75 : S'.I 75 m = nI T') (hT : T ≤ T') (hT2 : T' ≤ 1100000) : rE S' m ce γ B T' C nc y e q st := by
  obtain ⟨a1, ⟨⟨p1, p2, p3, p4, p5⟩, a3⟩, a5, a6, a7, ⟨b1, b2, b3, b4, b5⟩, c1, c2, c3⟩ := id h
  have hp : rHp S (m + ce) γ B e.H T' := ⟨p1, fun v hv o e => by
    obtain ⟨g1, g2, g3⟩ := p2 v hv o e
    exact ⟨g1, g2, by omega⟩, p3, by omega, hT2⟩
  obtain ⟨⟨x1, x2, x3, x4, x5, x6, x7⟩, y2, y3, y4⟩ := id hx
  refine ⟨a1.next fx.2.1 fx.2.2.1 (fun F => by rw [hR]), ⟨hp.next (fun j _ => by rw [hr]), h75⟩, ⟨a5.1, fun c hc => (a5.2 c hc).next (fun a _ _ => by rw [hr]) (by rw [hJ]) (fun _ _ => rfl)⟩, ?_, a7.next (hI 106 (by decide)) (by rw [hJ]) (by rw [hr]) (fun _ _ => rfl), ⟨(hI 92 (by decide)).trans b1, (hI 93 (by decide)).trans b2, (hI 94 (by decide)).trans b3, (hI 95 (by decide)).trans b4, (hI 97 (by decide)).trans b5⟩, c1, c2, c3⟩
  refine rFs.next _ (fun f _ => ⟨fun _ _ _ => by rw [hr], fun _ _ => by rw [hr], fun _ _ => by rw [hr], fun _ _ => by rw [hr]; exact ⟨rfl, rfl⟩⟩) (fun g hg => ?_) (fun _ _ _ _ => rfl) a6
  rcases List.mem_cons.mp hg with z | z
  · rw [z]; exact ⟨y3, y4⟩
  · exact ⟨by have := (x7 g z).len x2; omega, ((x7 g z).blk x2).1⟩
theorem r_199 (hsp : ox_mono sp) (hin : rIn C nc K e (v :: r) 1) (h : rE S m ce γ B T C nc y e q (v :: r)) (hT : T + 19 ≤ 1100000) (hQ : ∀ S', mFx m S S' → S'.R = S.R → rX S' m ce T C nc y e q (v :: r) (if v < 0 then xMk e q r (.inr (.inr (.inr (.inr (-1 - v).toNat)))) else .inl 0) → Q none S') : ox_M sp (d + 3) 199 [.inr (.inr m)] mr sr S Q := by
  have hE : ox_mono (ox_M sp (d + 2)) := ox_M_mono hsp _
  have hx := hin.1
  have s10 : r.length + 1 ≤ 10 := hx.2.2.1
  have hH := hx.1.1
  refine f_199 hsp ⟨by decide, h.k, by decide, 0, 0, Nat.zero_le _, Nat.zero_le _, r_175 hsp h hx (fun S1 a1 a2 hB => f_199_4 hE ?_)⟩
  have T16 : 16 ≤ T := a2.2.1.1.2.2.2.1
  have neg : gV γ v < 0 ↔ v < 0 := by
    by_cases v16 : v < 16
    · obtain ⟨lo, e0, eg⟩ := a2.lo hx.tail hx.head v16
      rw [eg, Int32.lt_iff_toInt_lt, Int32.toInt_ofInt_of_le (by omega) (by omega)]
      exact Iff.rfl
    · obtain ⟨o, e1, r1, r2, eg⟩ := a2.hi hB v16
      have sz := xSz_2 o
      rw [eg]
      exact ⟨fun z => absurd z (nI_pos (by omega)), fun z => by omega⟩
  refine ⟨fun z => ?_, fun z => ⟨by decide, a2.k, by decide, 0, 0, Nat.zero_le _, Nat.zero_le _, ?_⟩⟩
  · have v0 := neg.mp z
    rw [if_pos v0] at hQ
    obtain ⟨lo, e0, eg⟩ := a2.lo hx.tail hx.head (by omega)
    have hc : (-1 - v).toNat < nc := by
      rcases hx.head with w | w
      · omega
      · exact absurd e0 w
    have ec : (-1 : Int32) - gV γ v = nI (-1 - v).toNat := by
      rw [eg]
      refine (Int32.toInt_inj).mp ?_
      have hs : ((-1 : Int32) - Int32.ofInt v).toInt = -1 - v := by
        rw [Int32.toInt_sub, Int32.toInt_ofInt_of_le (by omega) (by omega), show (-1 : Int32).toInt = -1 from by decide]
        exact Int.bmod_eq_of_le (by omega) (by omega)
      have : nc ≤ 300 := a2.2.2.1.1
      rw [hs, nI_toInt (by omega)]
      omega
    rw [ec]
    have en : upA γ e.n T e.n = T := if_pos rfl
    refine ⟨by decide, a2.k, by decide, 0, 0, Nat.zero_le _, Nat.zero_le _, s_132 hsp a2.ml a2.2.1.2 (by omega) (f_199_26 hE ?_)⟩
    have nw : mNw m ce T S1 (mPut S1 m (m + ce) T 7 (nI (-1 - v).toNat) 0) := mNw_put
    have h75 : (mPut S1 m (m + ce) T 7 (nI (-1 - v).toNat) 0).I 75 m = nI (T + 3) := mPut_75
    have row := fun j => mPut_row (S := S1) (m := m) (c := m + ce) (T := T) (u := 7) (v := nI (-1 - v).toNat) (w := 0) j
    generalize mPut S1 m (m + ce) T 7 (nI (-1 - v).toNat) 0 = P at nw h75 row ⊢
    have nw2 : mNw m ce T S1 (P.sI 75 m (nI (T + 2))) := nw.trans mNw_top
    have q75 : (P.sI 75 m (nI (T + 2))).I 75 m = nI (T + 2) := by rw [or_sI_I, if_pos ⟨rfl, rfl⟩]
    have qr : (P.sI 75 m (nI (T + 2))).rI = P.rI := or_sI_rI _ _ _ _
    have qR : (P.sI 75 m (nI (T + 2))).R = P.R := or_sI_R _ _ _ _
    have qJ : (P.sI 75 m (nI (T + 2))).rJ = P.rJ := or_sI_rJ _ _ _ _
    have qI : ∀ F, F ≠ 75 → P.I F m = (P.sI 75 m (nI (T + 2))).I F m := fun F hF => by rw [or_sI_I, if_neg (fun z => hF z.1)]
    have qfx : mFx m (P.sI 75 m (nI (T + 2))) P := ⟨(or_sI_n _ _ _ _).symm, (or_sI_K _ _ _ _).symm, (or_sI_len _ _ _ _).symm, (or_sI_J _ _ _ _).symm, (or_sI_rR _ _ _ _).symm, fun F a _ => by rw [qR], fun F a z => by rw [or_sI_I, if_neg (fun y => z y.2)], fun a _ => by rw [qr], fun a _ => by rw [qJ], fun F z => qI F (by omega), fun p _ => by rw [qr], by rw [qJ]⟩
    obtain ⟨k1, k2, k3, k4, k5, k6, k7, k8, k9, k10⟩ := nw2
    have hce := h.c23
    have fx : mFx m S1 (P.sI 75 m (nI (T + 2))) := ⟨k3, k1, k2, k5, k6, fun F a _ => by rw [k4], fun F a z => k8 F a (Or.inl z), fun a z => k9 a (by omega) (by omega), fun a _ => by rw [k7], fun F z => k8 F m (Or.inr (by omega)), fun p z => k9 (m + p) (by omega) (by omega), by rw [k7]⟩
    have sz : xSz (.inr (.inr (.inr (.inr (-1 - v).toNat)))) = 2 := rfl
    have ho : rO (P.sI 75 m (nI (T + 2))) (m + ce) (upA γ e.n T) e.n (.inr (.inr (.inr (.inr (-1 - v).toNat)))) := by
      refine ⟨by rw [en]; exact T16, ?_⟩
      rw [en, qr]
      exact ⟨by rw [row, if_neg (by omega), if_neg (by omega), if_pos rfl], by rw [row, if_neg (by omega), if_pos rfl]⟩
    have n1 : rE (P.sI 75 m (nI (T + 2))) m ce (upA γ e.n T) (e.n :: B) (T + xSz (.inr (.inr (.inr (.inr (-1 - v).toNat))))) C nc y (e.nw (.inr (.inr (.inr (.inr (-1 - v).toNat))))) q r := a2.ext hx.tail fx k4 (fun F z => k8 F m (Or.inr (by omega))) q75 (fun a z1 z2 => k9 a (by omega) (by omega)) k7 k10 ho (fun u hu => by cases hu) (by rw [sz]; omega)
    have hxn : xEs1 C nc K (e.nw (.inr (.inr (.inr (.inr (-1 - v).toNat))))) r := hx.tail.nw hc
    have n2 : rE P m ce (upA γ e.n T) (e.n :: B) (T + 3) C nc y (e.nw (.inr (.inr (.inr (.inr (-1 - v).toNat))))) q r := n1.top hxn qfx qR.symm qr.symm qJ.symm qI h75 (by rw [sz]; omega) (by omega)
    have eg2 : gV (upA γ e.n T) e.n = nI T := by
      unfold gV
      rw [if_neg (by have := hH.1; omega), en]
    obtain ⟨p1, p2⟩ := n1.pushed hxn (v := e.n) (Or.inr List.mem_cons_self)
    rw [eg2] at p1 p2
    refine ⟨by decide, n2.k, by decide, 0, 0, Nat.zero_le _, Nat.zero_le _, r_174c hsp n2 hxn (by omega) (f_199_29 hE ⟨?_, ?_, ?_⟩)⟩
    · rw [or_wI_K, or_wI_K, n2.k]; rfl
    · rw [or_wI_K, or_wI_K, n2.k]; rfl
    · rw [or_wI_I, or_wI_I, h75, show nI (T + 3) - 1 = nI (T + 2) from nI_pred (T + 2), sI_wI, sI_wI]
      exact ⟨rfl, hQ _ (a1.1.trans (fx.trans p1.1)) (p1.2.1.trans (k4.trans a1.2.1)) ⟨upA γ e.n T, e.n :: B, T + 2, by omega, p2⟩⟩
  · have v0 : ¬ v < 0 := fun w => z (neg.mpr w)
    rw [if_neg v0] at hQ
    exact r_raise hsp (k := 0) (i := 1) (by decide) hin (Nat.le_refl _) a2 (fun S' b1 b2 b3 => f_199_14 hE ⟨rfl, hQ S' (a1.1.trans b1) (b2.trans a1.2.1) (rX_k b3)⟩)
end RFn
