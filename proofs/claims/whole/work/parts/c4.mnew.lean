/-! the reference: a new object -/
section RNw
variable {sp : ox_E} {d mr sr : Nat} {S S' : ox_St} {Q : ox_Q} {m ce a : Nat} {γ : Int → Nat} {B : List Int} {T : Nat} {C : Nat → xCd} {nc K y : Nat} {e : xEn} {q : Nat} {st r : List Int} {v u n : Int} {H : xHp} {o : xOb}
theorem rHp.lt (h : rHp S a γ B H T) (hH : xHOk nc K H n) (hv : xIn B v) : v < n := by
  rcases hv with z | z
  · have := hH.1; omega
  · obtain ⟨o, e, -⟩ := h.1.2 v z
    exact (hH.2 v o e).2.1
theorem gV_new (hv : v < n) : gV (upA γ n T) v = gV γ v := gV_congr (fun _ => if_neg (by omega))
theorem rHp.mk (h : rHp S a γ B H T) (hH : xHOk nc K H n) (hr : ∀ j, j < T → S'.rI a j = S.rI a j) (ho : rO S' a (upA γ n T) n o) (hcl : ∀ u ∈ xRf o, xIn B u) (hT : T + xSz o ≤ 1100000) : rHp S' a (upA γ n T) (n :: B) (xNew H n o) (T + xSz o) := by
  have h16 := hH.1
  have lt : ∀ v ∈ B, v < n := fun v hv => h.lt hH (Or.inr hv)
  have old : ∀ v ∈ B, xNew H n o v = H v := fun v hv => if_neg (by have := lt v hv; omega)
  have self : xNew H n o n = some o := xNew_self
  have en : upA γ n T n = T := if_pos rfl
  have eo : ∀ v ∈ B, upA γ n T v = γ v := fun v hv => if_neg (by have := lt v hv; omega)
  obtain ⟨⟨c1, c2⟩, h2, h3, h4, h5⟩ := id h
  refine ⟨⟨List.nodup_cons.mpr ⟨fun z => by have := lt n z; omega, c1⟩, fun v hv => ?_⟩, fun v hv o' e => ?_, fun u hu v hv ne o' p e1 e2 => ?_, by omega, hT⟩
  · rcases List.mem_cons.mp hv with z | z
    · subst z
      exact ⟨o, self, fun u hu => (hcl u hu).mono (fun _ w => List.mem_cons_of_mem _ w)⟩
    · obtain ⟨o', e, g⟩ := c2 v z
      exact ⟨o', by rw [old v z]; exact e, fun u hu => (g u hu).mono (fun _ w => List.mem_cons_of_mem _ w)⟩
  · rcases List.mem_cons.mp hv with z | z
    · subst z
      rw [self] at e
      cases e
      exact ⟨h16, ho, by rw [en]; omega⟩
    · rw [old v z] at e
      obtain ⟨g1, g2, g3⟩ := h2 v z o' e
      obtain ⟨o2, e2, g⟩ := c2 v z
      rw [e] at e2
      cases e2
      exact ⟨g1, g2.next (fun j _ hj => hr j (by omega)) (eo v z) (fun u hu => gV_new (h.lt hH (g u hu))), by rw [eo v z]; omega⟩
  · rcases List.mem_cons.mp hu with z | z
    · rcases List.mem_cons.mp hv with w | w
      · exact absurd (z.trans w.symm) ne
      · subst z
        rw [old v w] at e2
        have := (h2 v w p e2).2.2
        rw [en, eo v w]
        exact Or.inr this
    · rcases List.mem_cons.mp hv with w | w
      · subst w
        rw [old u z] at e1
        have := (h2 u z o' e1).2.2
        rw [en, eo u z]
        exact Or.inl this
      · rw [old u z] at e1
        rw [old v w] at e2
        rw [eo u z, eo v w]
        exact h3 u z v w ne o' p e1 e2
/-- an entry with one more object -/
def xEn.nw (e : xEn) (o : xOb) : xEn := (xNew e.H e.n o, e.n + 1, e.G, e.c, e.L, e.b, e.t)
theorem xEs1.nw (h : xEs1 C nc K e st) (ho : xObOk nc K e.H o) : xEs1 C nc K (e.nw o) st := by
  obtain ⟨⟨h1, h2, h3, h4, h5, h6, h7⟩, g2, g3, g4⟩ := h
  have le := xNew_le h1 o
  exact ⟨⟨xNew_ok h1 ho, h2.mono le, ⟨h3.1, fun g hg => ⟨(h3.2 g hg).1, le.ok (h3.2 g hg).2⟩⟩, h4, h5, fun i v hv => ⟨(h6 i v hv).1, le.ok (h6 i v hv).2⟩, fun g hg => (h7 g hg).mono le⟩, fun v hv => le.ok (g2 v hv), g3, g4⟩
theorem rE.ext (h : rE S m ce γ B T C nc y e q st) (hx : xEs1 C nc K e st) (fx : mFx m S S') (hR : S'.R = S.R) (hI : ∀ F, (92 ≤ F ∧ F ≤ 97) ∨ F = 106 → S'.I F m = S.I F m) (h75 : S'.I 75 m = nI (T + xSz o)) (hr : ∀ a, m + 4 ≤ a → a ≤ m + 25 → S'.rI a = S.rI a) (hJ : S'.rJ = S.rJ) (hc : ∀ j, j < T → S'.rI (m + ce) j = S.rI (m + ce) j) (ho : rO S' (m + ce) (upA γ e.n T) e.n o) (hcl : ∀ u ∈ xRf o, xIn B u) (hT : T + xSz o ≤ 1100000) : rE S' m ce (upA γ e.n T) (e.n :: B) (T + xSz o) C nc y (e.nw o) q st := by
  obtain ⟨a1, ⟨a2, a3⟩, ⟨a4, a5⟩, a6, a7, ⟨b1, b2, b3, b4, b5⟩, c1, c2, c3⟩ := id h
  obtain ⟨⟨x1, x2, x3, x4, x5, x6, x7⟩, y2, y3, y4⟩ := id hx
  have eg : ∀ u, xIn B u → gV (upA γ e.n T) u = gV γ u := fun u hu => gV_new (a2.lt x1 hu)
  have mo : ∀ v ∈ B, v ∈ e.n :: B := fun v hv => List.mem_cons_of_mem _ hv
  refine ⟨a1.next fx.2.1 fx.2.2.1 (fun F => by rw [hR]), ⟨a2.mk x1 hc ho hcl hT, h75⟩, ⟨a4, fun c hc' => (a5 c hc').next (fun a z1 z2 => hr a z1 (by omega)) (by rw [hJ]) (fun u hu => eg u (c1.1 c hc' u hu))⟩, ?_, a7.next (hI 106 (by omega)) (by rw [hJ]) (hr _ (by omega) (by omega)) (fun g hg => eg _ (c1.2 g hg)), ⟨(hI 92 (by omega)).trans b1, (hI 93 (by omega)).trans b2, (hI 94 (by omega)).trans b3, (hI 95 (by omega)).trans b4, ((hI 97 (by omega)).trans b5).trans (eg _ c2).symm⟩, c1.mono mo, c2.mono mo, c3.mono mo⟩
  refine rFs.next _ (fun f _ => ⟨fun o z1 z2 => by rw [hr _ (by omega) (by omega)], fun j _ => by rw [hr _ (by omega) (by omega)], fun j _ => by rw [hr _ (by omega) (by omega)], fun j _ => by rw [hr _ (by omega) (by omega), hr _ (by omega) (by omega)]; exact ⟨rfl, rfl⟩⟩) (fun g hg => ?_) (fun g hg u hu => eg u ?_) a6
  · rcases List.mem_cons.mp hg with z | z
    · rw [z]; exact ⟨y3, y4⟩
    · exact ⟨by have := (x7 g z).len x2; omega, ((x7 g z).blk x2).1⟩
  · obtain ⟨w1, w2⟩ := c3 g hg
    rcases hu with z | ⟨i, z⟩
    · exact w1 u z
    · exact w2 i u z
/-- a number more -/
theorem rE.num1 (h : rE S m ce γ B T C nc y e q st) (hx : xEs1 C nc K e st) (hw : mNw m ce T S S') {w : Nat → Nat} {c : Nat} {p : Int32} {N : Int} (h75 : S'.I 75 m = nI (T + 3 + c)) (hn : mNum S' (m + ce) T w c p) (hd : dc w c) (h0 : c = 0 → p = 0) (hN : nv w c p = N) (hT : T + 19 ≤ 1100000) : rE S' m ce (upA γ e.n T) (e.n :: B) (T + xSz (.inl N)) C nc y (e.nw (.inl N)) q st ∧ mFx m S S' ∧ S'.R = S.R := by
  obtain ⟨k1, k2, k3, k4, k5, k6, k7, k8, k9, k10⟩ := hw
  have T16 : 16 ≤ T := h.2.1.1.2.2.2.1
  have c16 : c ≤ 16 := hn.2.1
  have pp : p = 0 ∨ p = 1 := by
    rcases hn.2.2 with z | z
    · exact Or.inl z.2.1
    · exact z.2.2.2.2.1
  have hc : c = dl 16 N.natAbs := by
    have lt := dv_lt c hd.1
    have nA : N.natAbs = dv w c := by
      unfold nv at hN
      rcases pp with z | z
      · rw [if_pos z] at hN; omega
      · rw [if_neg (by rw [z]; decide)] at hN; omega
    have b16 : dv w c < 32768 ^ 16 := Nat.lt_of_lt_of_le lt (Nat.pow_le_pow_right (by decide) c16)
    obtain ⟨q1, q2⟩ := dl_dc b16
    rw [nA]
    exact (dc_uniq hd q1 q2.symm).1
  have sz : xSz (.inl N) = 3 + c := by show 3 + dl 16 N.natAbs = _; rw [hc]
  have hce := h.c23
  have fx : mFx m S S' := ⟨k3, k1, k2, k5, k6, fun F a _ => by rw [k4], fun F a z => k8 F a (Or.inl z), fun a z => k9 a (by omega) (by omega), fun a _ => by rw [k7], fun F z => k8 F m (Or.inr (by omega)), fun p z => k9 (m + p) (by omega) (by omega), by rw [k7]⟩
  refine ⟨h.ext hx fx k4 (fun F z => k8 F m (Or.inr (by omega))) (by rw [sz, h75]; exact congrArg nI (by omega)) (fun a z1 z2 => k9 a (by omega) (by omega)) k7 k10 ⟨?_, ?_⟩ (fun u hu => by cases hu) (by rw [sz]; omega), fx, k4⟩
  · rw [show upA γ e.n T e.n = T from if_pos rfl]; exact T16
  · rw [show upA γ e.n T e.n = T from if_pos rfl]
    exact ⟨w, c, p, hn, hd, h0, hN, hc⟩
end RNw
