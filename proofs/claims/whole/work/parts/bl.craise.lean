/-! the class: exceptions, RETURN -/
section CRs
variable {sp : ox_E} {d mr sr : Nat} {S S0 S' T : ox_St} {Q : ox_Q} {x : Nat} {α : Int → Nat} {C : Nat → xCd} {nc K : Nat} {e : xEn} {q : Nat} {st r : List Int} {v u : Int} {a : Nat}
/-- innermost -/
theorem c_44 (hsp : ox_mono sp) (hB : cBs S x) {m : Nat} (hm : m ≤ 8) (h35 : S.I 35 (x + 11) = nI m) (hQ : Q (some (.inr (.inr (if m = 0 then 0 else x + 28 + 5 * (m - 1))))) S) : ox_M sp (d + 1) 44 [.inr (.inr (x + 11))] mr sr S Q := by
  have k7 : S.K (x + 11) = 7 := hB.1.obj (by decide)
  have r34 : S.R 34 (x + 11) = x + 12 := hB.1.ref (by decide)
  obtain ⟨k12, l12⟩ := hB.1.row (o := 12) (k := 18) (n := 8) (by decide)
  refine f_44 hsp ⟨by rw [k7]; rfl, fun z => ⟨rfl, ?_⟩, fun z => ⟨by rw [k7]; rfl, fun y => ⟨by rw [k7]; rfl, by rw [k7]; rfl, by rw [r34, k12]; rfl, ?_, rfl, ?_⟩, fun y => absurd (by rw [h35]; exact nI_le (b := 8) hm (by decide)) y⟩⟩
  · rw [h35] at z
    have := (nI_ltI (b := 1) (by omega) (by decide)).mp z
    rw [if_pos (by omega)] at hQ
    exact hQ
  · rw [h35] at z
    have m1 : 1 ≤ m := Nat.le_of_not_lt fun w => z (nI_lt (b := 1) w (by decide))
    rw [h35, r34, l12, show (1 : Int32) = nI 1 from rfl, pk_sub m1]
    exact vp_in_nI (by omega) (by decide)
  · rw [h35] at z
    have m1 : 1 ≤ m := Nat.le_of_not_lt fun w => z (nI_lt (b := 1) w (by decide))
    rw [if_neg (by omega)] at hQ
    rw [h35, r34, show (1 : Int32) = nI 1 from rfl, pk_sub m1, nI_clamp (by omega), (hB.1.fr (f := m - 1) (by omega)).2]
    exact hQ
theorem cE.vk (h : cE S x α C nc e q st) {k : Nat} (hk : k < 7) : vC S x α (4 + (k : Int)) (x + 68 + k) := ⟨by have := h.1.2.1; omega, by have := h.n; omega, by omega, Or.inr (Or.inr (Or.inr (Or.inl ⟨by omega, by omega, by omega⟩)))⟩
/-- handle, with a block -/
theorem c_27 (hsp : ox_mono sp) (h : cE S x α C nc e q st) (hx : xEs1 C nc K e st) {k l t : Nat} {b : List (Nat × Nat)} (hk : k < 7) (hb : e.b = (l, t) :: b) (hl : l ≤ st.length) (l10 : l < 10) (hQ : ∀ S', cN x S S' → cR S' x α C nc (e.H, e.n, e.G, (e.c, t, (4 + (k : Int)) :: st.drop (st.length - l), e.L, b) :: e.t, 1, -1, 0) → Q (some (.inl 1)) S') : ox_M sp (d + 2) 27 [.inr (.inr (x + 28 + 5 * e.t.length)), .inr (.inr (x + 68 + k))] mr sr S Q := by
  have hE : ox_mono (ox_M sp (d + 1)) := ox_M_mono hsp _
  have t7 := hx.t7
  have hn := h.n
  have b4 := hx.2.2.2
  rw [hb] at b4
  have bl4 : b.length + 1 ≤ 4 := b4
  have s10 := hx.2.2.1
  obtain ⟨k1, o1, ⟨a1, a2, a3⟩, ⟨c1, c2, c3⟩, d1, d2, d3⟩ := id (h.oF hx)
  have e21 : S.I 21 (x + 28 + 5 * e.t.length) = nI (b.length + 1) := by rw [h.bl, hb]; rfl
  obtain ⟨f1, f2, f3, f4, f5, f6, f7⟩ := h.2.2.1.1
  have f7' : cBk S (x + 28 + 5 * e.t.length) ((l, t) :: b) := by
    have : (e.c, q, st, e.L, e.b).2.2.2.2 = (l, t) :: b := hb
    rw [← this]; exact f7
  obtain ⟨u1, u2, u3⟩ := f7'
  have u1' : S.rI (x + 28 + 5 * e.t.length + 3) b.length = nI l := u1
  have u2' : S.rI (x + 28 + 5 * e.t.length + 4) b.length = nI t := u2
  have vk := h.vk hk
  have isv := vk.isV h hx (xSm (by omega) (by omega))
  refine f_27 hsp ⟨by rw [k1]; rfl, fun _ => ⟨by rw [k1]; rfl, by rw [k1]; rfl, ?_⟩, fun z => absurd (by rw [e21]; exact nI_le (a := 1) (by omega) (by omega)) z⟩
  rw [e21, nI_pred]
  intro S1
  have eK1 : S1.K = S.K := or_sI_K _ _ _ _
  have el1 : S1.len = S.len := or_sI_len _ _ _ _
  have eR1 : S1.R = S.R := or_sI_R _ _ _ _
  have er1 : S1.rI = S.rI := or_sI_rI _ _ _ _
  have eI1 : ∀ F a, S1.I F a = if F = 21 ∧ a = x + 28 + 5 * e.t.length then nI b.length else S.I F a := fun F a => or_sI_I _ _ _ _ _ _
  have rR1 : S1.rR = S.rR := or_sI_rR _ _ _ _
  have hI1 : cI x (cWf x e.t.length) S S1 := cI.refl.sI (Or.inr ⟨cWf_F, by decide, by decide, by decide⟩)
  generalize S1 = V1 at eK1 el1 eR1 er1 eI1 rR1 hI1 ⊢
  have i21 : V1.I 21 (x + 28 + 5 * e.t.length) = nI b.length := by rw [eI1, if_pos ⟨rfl, rfl⟩]
  refine ⟨by rw [eK1, k1]; rfl, by rw [eK1, k1]; rfl, by rw [eR1, eK1, c1, c2]; rfl, by rw [eR1, el1, c1, c3, i21]; exact vp_in_nI (by omega) (by decide), by rw [eK1, k1]; rfl, ?_⟩
  rw [eR1, c1, i21, nI_clamp (by omega), er1, u1']
  intro S2
  have eK2 : S2.K = S.K := (or_sI_K _ _ _ _).trans eK1
  have el2 : S2.len = S.len := (or_sI_len _ _ _ _).trans el1
  have eR2 : S2.R = S.R := (or_sI_R _ _ _ _).trans eR1
  have er2 : S2.rI = S.rI := (or_sI_rI _ _ _ _).trans er1
  have rR2 : S2.rR = S.rR := (or_sI_rR _ _ _ _).trans rR1
  have eI2 : ∀ F a, S2.I F a = if F = 20 ∧ a = x + 28 + 5 * e.t.length then nI l else if F = 21 ∧ a = x + 28 + 5 * e.t.length then nI b.length else S.I F a := fun F a => (or_sI_I _ _ _ _ _ _).trans (by rw [eI1])
  have hI2 : cI x (cWf x e.t.length) S S2 := hI1.sI (Or.inr ⟨cWf_F, by decide, by decide, by decide⟩)
  generalize S2 = V2 at eK2 el2 eR2 er2 rR2 eI2 hI2 ⊢
  have oF2 : oF V2 (x + 28 + 5 * e.t.length) := by
    have := h.oF hx
    unfold oF at this ⊢
    rw [eK2, eR2, el2]
    exact this
  refine ⟨by decide, by rw [eK2]; exact k1, by decide, 0, 0, Nat.zero_le _, Nat.zero_le _, s_push hsp oF2 l10 (by rw [eI2, if_pos ⟨rfl, rfl⟩]) (by rw [eK2]; exact isv) (f_27_38 hE ?_)⟩
  have eK3 : ((V2.wR (x + 28 + 5 * e.t.length + 2) l (x + 68 + k)).sI 20 (x + 28 + 5 * e.t.length) (nI (l + 1))).K = S.K := by rw [or_sI_K, or_wR_K]; exact eK2
  have el3 : ((V2.wR (x + 28 + 5 * e.t.length + 2) l (x + 68 + k)).sI 20 (x + 28 + 5 * e.t.length) (nI (l + 1))).len = S.len := by rw [or_sI_len, or_wR_len]; exact el2
  have eR3 : ((V2.wR (x + 28 + 5 * e.t.length + 2) l (x + 68 + k)).sI 20 (x + 28 + 5 * e.t.length) (nI (l + 1))).R = S.R := by rw [or_sI_R, or_wR_R]; exact eR2
  have er3 : ((V2.wR (x + 28 + 5 * e.t.length + 2) l (x + 68 + k)).sI 20 (x + 28 + 5 * e.t.length) (nI (l + 1))).rI = S.rI := by rw [or_sI_rI, or_wR_rI]; exact er2
  have rR3 : ∀ t' j, ((V2.wR (x + 28 + 5 * e.t.length + 2) l (x + 68 + k)).sI 20 (x + 28 + 5 * e.t.length) (nI (l + 1))).rR t' j = if t' = x + 28 + 5 * e.t.length + 2 ∧ j = l then x + 68 + k else S.rR t' j := fun t' j => by rw [or_sI_rR, or_wR_rR, rR2]
  have eI3 : ∀ F a, ((V2.wR (x + 28 + 5 * e.t.length + 2) l (x + 68 + k)).sI 20 (x + 28 + 5 * e.t.length) (nI (l + 1))).I F a = if F = 20 ∧ a = x + 28 + 5 * e.t.length then nI (l + 1) else if F = 21 ∧ a = x + 28 + 5 * e.t.length then nI b.length else S.I F a := fun F a => by
    rw [or_sI_I, or_wR_I, eI2]
    by_cases z : F = 20 ∧ a = x + 28 + 5 * e.t.length
    · rw [if_pos z, if_pos z]
    · rw [if_neg z, if_neg z, if_neg z]
  have hI3 : cI x (cWf x e.t.length) S ((V2.wR (x + 28 + 5 * e.t.length + 2) l (x + 68 + k)).sI 20 (x + 28 + 5 * e.t.length) (nI (l + 1))) := (hI2.wR (Or.inr cWf_2)).sI (Or.inr ⟨cWf_F, by decide, by decide, by decide⟩)
  generalize (V2.wR (x + 28 + 5 * e.t.length + 2) l (x + 68 + k)).sI 20 (x + 28 + 5 * e.t.length) (nI (l + 1)) = V3 at eK3 el3 eR3 er3 rR3 eI3 hI3 ⊢
  have i21' : V3.I 21 (x + 28 + 5 * e.t.length) = nI b.length := by rw [eI3, if_neg (fun z => by cases z.1), if_pos ⟨rfl, rfl⟩]
  refine ⟨by rw [eK3, k1]; rfl, by rw [eK3, k1]; rfl, by rw [eR3, eK3, d1, d2]; rfl, by rw [eR3, el3, d1, d3, i21']; exact vp_in_nI (by omega) (by decide), by rw [eK3, k1]; rfl, ?_⟩
  rw [eR3, d1, i21', nI_clamp (by omega), er3, u2']
  intro S4
  have eR4 : S4.R = S.R := (or_sI_R _ _ _ _).trans eR3
  have er4 : S4.rI = S.rI := (or_sI_rI _ _ _ _).trans er3
  have rR4 : ∀ t' j, S4.rR t' j = if t' = x + 28 + 5 * e.t.length + 2 ∧ j = l then x + 68 + k else S.rR t' j := fun t' j => by
    have : S4.rR = V3.rR := or_sI_rR _ _ _ _
    rw [this]; exact rR3 t' j
  have eI4 : ∀ F a, S4.I F a = if F = 19 ∧ a = x + 28 + 5 * e.t.length then nI t else V3.I F a := fun F a => or_sI_I _ _ _ _ _ _
  have hI4 : cI x (cWf x e.t.length) S S4 := hI3.sI (Or.inr ⟨cWf_F, by decide, by decide, by decide⟩)
  generalize S4 = U at eR4 er4 rR4 eI4 hI4 ⊢
  have hlen : (st.drop (st.length - l)).length = l := by rw [List.length_drop]; omega
  have key : ∀ l : List (Nat × Nat), cBk S (x + 28 + 5 * e.t.length) l → cBk U (x + 28 + 5 * e.t.length) l := by
    intro l
    induction l with
    | nil => exact fun _ => trivial
    | cons g l ih => exact fun hc => ⟨by rw [er4]; exact hc.1, by rw [er4]; exact hc.2.1, ih hc.2.2⟩
  have hfr : cFr U x α e.t.length (e.c, t, (4 + (k : Int)) :: st.drop (st.length - l), e.L, b) := by
    refine ⟨by rw [eR4]; exact f1, by rw [eI4, if_pos ⟨rfl, rfl⟩], ?_, ?_, ⟨?_, ?_⟩, fun i hi => ?_, key _ u3⟩
    · rw [eI4, if_neg (fun z => by cases z.1), eI3, if_pos ⟨rfl, rfl⟩]
      show nI (l + 1) = nI ((st.drop (st.length - l)).length + 1)
      rw [hlen]
    · rw [eI4, if_neg (fun z => by cases z.1)]; exact i21'
    · rw [hlen, rR4, if_pos ⟨rfl, rfl⟩]
      exact vk.next hI4 rfl
    · exact cStk.row (hI4.mono (cWf_Z t7)) _ (fun j hj => by rw [hlen] at hj; rw [rR4, if_neg (by omega)]) (fun _ _ => rfl) (f5.drop (st.length - l))
    · have g' : (match e.L i with
        | none => S.rR (x + 28 + 5 * e.t.length + 1) i = 0
        | some v => vC S x α v (S.rR (x + 28 + 5 * e.t.length + 1) i)) := f6 i hi
      show (match e.L i with
        | none => U.rR (x + 28 + 5 * e.t.length + 1) i = 0
        | some v => vC U x α v (U.rR (x + 28 + 5 * e.t.length + 1) i))
      rw [rR4, if_neg (by omega)]
      cases y : e.L i with
      | none => rw [y] at g'; exact g'
      | some w => rw [y] at g'; exact vC.next g' hI4 rfl
  exact ⟨Or.inr rfl, hQ U (h.upd2 hx hI4 hfr).1 (h.upd2 hx hI4 hfr).2⟩
def cWm (x a : Nat) : Prop := a = x + 11
theorem cGl.keep {W : Nat → Prop} {G : List (Nat × Int)} (h : cGl S x α G) (hn : x + 119 ≤ S.n) (hI : cI x W S S') (h43 : S'.I 43 (x + 11) = S.I 43 (x + 11)) (w13 : ¬ W (x + 13)) (w14 : ¬ W (x + 14)) : cGl S' x α G := ⟨h43.trans h.1, fun i hi => by
  obtain ⟨g1, g2⟩ := h.2 i hi
  refine ⟨((hI.at (by omega) w13).2.2.2.2.2.1 i).trans g1, ?_⟩
  rw [(hI.at (by omega) w14).2.2.2.2.1 i]
  exact g2.next hI rfl⟩
theorem cFs.keep {W : Nat → Prop} (hn : x + 119 ≤ S.n) (hI : cI x W S S') : ∀ (t : List xFr), t.length ≤ 8 → (∀ a, x + 28 ≤ a → a < x + 28 + 5 * t.length → ¬ W a) → cFs S x α t → cFs S' x α t
  | [], _, _, _ => trivial
  | g :: t, hl, hW, hc => by
    have hl' : t.length + 1 ≤ 8 := hl
    have hW' : ∀ a, x + 28 ≤ a → a < x + 28 + 5 * (t.length + 1) → ¬ W a := hW
    exact ⟨hc.1.next hI (by omega) (fun a z1 z2 => hW' a (by omega) (by omega)) (fun _ _ => rfl), cFs.keep hn hI t (by omega) (fun a z1 z2 => hW' a z1 (by omega)) hc.2⟩
/-- the machine's own fields change -/
theorem cR.fld {s s' : xSt} (h : cR S x α C nc s) (hI : cI x (cWm x) S S') (h43 : S'.I 43 (x + 11) = S.I 43 (x + 11)) (hH : s'.H = s.H) (hG : s'.G = s.G) (hF : cFs S x α s'.f) (hl : s'.f.length ≤ 8) (h35 : S'.I 35 (x + 11) = nI s'.f.length) (h37 : S'.I 37 (x + 11) = nI s'.s) (h38 : S'.I 38 (x + 11) = Int32.ofInt s'.k) (h40 : s'.s = 2 → vC S x α s'.r (S'.R 40 (x + 11))) (h40' : s'.s ≠ 2 → S'.R 40 (x + 11) = 0) : cR S' x α C nc s' := by
  obtain ⟨b, hp, -, g, -⟩ := h
  have hn : x + 119 ≤ S.n := b.2.2.2.1
  have hZ : ∀ a, cWm x a → cZ x a := fun a z => Or.inr (Or.inr (Or.inl z))
  refine ⟨b.next hI hZ, by rw [hH]; exact hp.next (K := 0) hI hZ, cFs.keep hn hI _ hl (fun a z1 _ z => by unfold cWm at z; omega) hF, by rw [hG]; exact g.keep hn hI h43 (fun z => by unfold cWm at z; omega) (fun z => by unfold cWm at z; omega), h35, h37, h38, fun z => (h40 z).next hI rfl, h40'⟩
end CRs
