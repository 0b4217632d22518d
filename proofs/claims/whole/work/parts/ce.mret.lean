/-! the reference: RETURN -/
section RRt
variable {sp : ox_E} {d mr sr : Nat} {S S' S2 : ox_St} {Q : ox_Q} {m ce a : Nat} {γ : Int → Nat} {B : List Int} {T : Nat} {C : Nat → xCd} {nc K y : Nat} {e : xEn} {q j i : Nat} {st r : List Int} {v u n : Int} {H : xHp} {o : xOb}
theorem r_195 (hsp : ox_mono sp) (h : rE S m ce γ B T C nc y e q (v :: r)) (hx : xEs1 C nc K e (v :: r)) (hQ : ∀ S', mFx m S S' → S'.R = S.R → rX S' m ce T C nc y e q (v :: r) (xRet e v) → Q none S') : ox_M sp (d + 2) 195 [.inr (.inr m)] mr sr S Q := by
  have hE : ox_mono (ox_M sp (d + 1)) := ox_M_mono hsp _
  have t7 := hx.t7
  refine f_195 hsp ⟨by decide, h.k, by decide, 0, 0, Nat.zero_le _, Nat.zero_le _, r_175 hsp h hx (fun S1 a1 a2 hB => f_195_4 hE ?_)⟩
  have k14 := a2.k
  have f92 := a2.f92
  refine ⟨by rw [k14]; rfl, by rw [k14]; rfl, ?_⟩
  rw [f92, nI_pred]
  have fx : mFx m S1 (S1.sI 92 m (nI e.t.length)) := mFx.refl.sI
  have eI : ∀ F, F ≠ 92 → (S1.sI 92 m (nI e.t.length)).I F m = S1.I F m := fun F hF => by rw [or_sI_I, if_neg (fun z => hF z.1)]
  have e92 : (S1.sI 92 m (nI e.t.length)).I 92 m = nI e.t.length := by rw [or_sI_I, if_pos ⟨rfl, rfl⟩]
  have eR : (S1.sI 92 m (nI e.t.length)).R = S1.R := or_sI_R _ _ _ _
  have er : (S1.sI 92 m (nI e.t.length)).rI = S1.rI := or_sI_rI _ _ _ _
  have eJ : (S1.sI 92 m (nI e.t.length)).rJ = S1.rJ := or_sI_rJ _ _ _ _
  have eK : (S1.sI 92 m (nI e.t.length)).K = S1.K := or_sI_K _ _ _ _
  intro U
  have fx' : mFx m S1 U := fx
  have eI' : ∀ F, F ≠ 92 → U.I F m = S1.I F m := eI
  have e92' : U.I 92 m = nI e.t.length := e92
  have eR' : U.R = S1.R := eR
  have er' : U.rI = S1.rI := er
  have eJ' : U.rJ = S1.rJ := eJ
  have eK' : U.K = S1.K := eK
  clear_value U
  obtain ⟨i1, i2, i3, i4, i5⟩ := a2.2.2.2.2.2.1
  have x7 := hx.1.2.2.2.2.2.2
  have x2 := hx.1.2.1
  have hU : rR U m ce γ B T C nc y (e.H, e.n, e.G, e.t, 1, -1, 0) := rR.fld (s := (e.H, e.n, e.G, (e.c, q, r, e.L, e.b) :: e.t, 1, -1, 0)) (s' := (e.H, e.n, e.G, e.t, 1, -1, 0)) a2 fx' eR' er' eJ' (eI' 75 (by decide)) (eI' 106 (by decide)) rfl rfl a2.2.2.2.1.2 (fun g hg => xFOk.r10 x2 (p := g.2.1) (x7 g hg)) e92' ((eI' 93 (by decide)).trans i2) ((eI' 94 (by decide)).trans i3) ((eI' 95 (by decide)).trans i4) ((eI' 97 (by decide)).trans i5) a2.2.2.2.2.2.2.2.1 (fun g hg => a2.2.2.2.2.2.2.2.2 g (List.mem_cons_of_mem _ hg))
  have k14U : U.K m = 14 := hU.1.1
  unfold xRet at hQ
  cases ht : e.t with
  | nil =>
    rw [ht] at hQ hU e92'
    dsimp only at hQ
    refine ⟨by rw [k14U]; rfl, fun _ => ⟨by rw [k14U]; rfl, by rw [or_sI_K, k14U]; rfl, rfl, ?_⟩, fun z => absurd (by rw [e92']; decide) z⟩
    have fx2 : mFx m U ((U.sI 93 m 2).sI 97 m (gV γ v)) := mFx.refl.sI.sI
    have eI2 : ∀ F, ((U.sI 93 m 2).sI 97 m (gV γ v)).I F m = if F = 97 then gV γ v else if F = 93 then 2 else U.I F m := fun F => by
      rw [or_sI_I, or_sI_I]
      simp only [and_true]
    have eR2 : ((U.sI 93 m 2).sI 97 m (gV γ v)).R = U.R := by rw [or_sI_R, or_sI_R]
    have er2 : ((U.sI 93 m 2).sI 97 m (gV γ v)).rI = U.rI := by rw [or_sI_rI, or_sI_rI]
    have eJ2 : ((U.sI 93 m 2).sI 97 m (gV γ v)).rJ = U.rJ := by rw [or_sI_rJ, or_sI_rJ]
    generalize (U.sI 93 m 2).sI 97 m (gV γ v) = V at fx2 eI2 eR2 er2 eJ2 ⊢
    obtain ⟨j1, j2, j3, j4, j5⟩ := hU.2.2.2.2.2.1
    refine hQ V (a1.1.trans (fx'.trans fx2)) (eR2.trans (eR'.trans a1.2.1)) ⟨γ, B, T, Nat.le_add_right _ _, ?_⟩
    exact hU.fld (s' := (e.H, e.n, e.G, [], 2, -1, v)) fx2 eR2 er2 eJ2 (by rw [eI2, if_neg (by decide), if_neg (by decide)]) (by rw [eI2, if_neg (by decide), if_neg (by decide)]) rfl rfl trivial (fun g hg => by cases hg) (by rw [eI2, if_neg (by decide), if_neg (by decide)]; exact j1) (by rw [eI2, if_neg (by decide), if_pos rfl]; rfl) (by rw [eI2, if_neg (by decide), if_neg (by decide)]; exact j3) (by rw [eI2, if_neg (by decide), if_neg (by decide)]; exact j4) (by rw [eI2, if_pos rfl]; rfl) hB (fun g hg => by cases hg)
  | cons f t2 =>
    obtain ⟨c, p, st, L, bb⟩ := f
    rw [ht] at hQ hU t7 e92' x7
    dsimp only at hQ
    have t7' : t2.length + 1 ≤ 7 := t7
    have hf := x7 _ List.mem_cons_self
    have hxU : xEs1 C nc K (e.H, e.n, e.G, c, L, bb, t2) st := xFOk.es1 hx.1.1 x2 hx.1.2.2.1 hf (by omega) (fun g hg => x7 g (List.mem_cons_of_mem _ hg))
    have hcU : rE U m ce γ B T C nc y (e.H, e.n, e.G, c, L, bb, t2) p st := hU
    have hlen := hf.len x2
    have hlen' : st.length + 1 ≤ 10 := hlen
    refine ⟨by rw [k14U]; rfl, fun z => absurd z (by rw [e92']; exact nI_nle (Nat.succ_pos _) (by show t2.length + 1 < 2 ^ 31; omega)), fun _ => ⟨by decide, k14U, by decide, 0, 0, Nat.zero_le _, Nat.zero_le _, ?_⟩⟩
    exact r_174 (e := (e.H, e.n, e.G, c, L, bb, t2)) hsp hcU hxU (by omega) hB (fun S3 n1 n2 => f_195_27 hE ⟨rfl, hQ S3 (a1.1.trans (fx'.trans n1.1)) (n1.2.1.trans (eR'.trans a1.2.1)) ⟨γ, B, T, Nat.le_add_right _ _, n2⟩⟩)
end RRt
