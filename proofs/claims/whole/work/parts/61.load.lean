/-! the reference's numbers: load -/
/-- a number v in the cells at c -/
def mNum (S : ox_St) (c v : Nat) (f : Nat → Nat) (n : Nat) (neg : Int32) : Prop := (∀ i, i < n → f i < 32768) ∧ n ≤ 16 ∧ ((v < 16 ∧ neg = 0 ∧ (v = 1 ∧ n = 0 ∨ v = 2 ∧ n = 1 ∧ f 0 = 1)) ∨ (16 ≤ v ∧ v + 3 + n ≤ 1100000 ∧ S.rI c v = 3 ∧ S.rI c (v + 1) = neg ∧ (neg = 0 ∨ neg = 1) ∧ S.rI c (v + 2) = nI n ∧ ∀ i, i < n → S.rI c (v + 3 + i) = nI (f i)))
/-- all but the row at t is as before -/
def oBut (t : Nat) (S S' : ox_St) : Prop := oAg (fun a => a ≠ t) S S' ∧ S'.K = S.K ∧ S'.len = S.len ∧ S'.n = S.n ∧ S'.I = S.I ∧ S'.R = S.R ∧ S'.J = S.J ∧ S'.rR = S.rR ∧ S'.rJ = S.rJ
theorem oBut_fl {t k i : Nat} {g : Nat → Int32} {S : ox_St} : oBut t S (oFl t g i k S) := by
  refine ⟨oFl_ag (fun z => z rfl) k i S, oFl_K k i S, oFl_len k i S, oFl_n k i S, ?_, ?_, ?_, ?_, ?_⟩
  · induction k generalizing i S with
    | zero => rfl
    | succ k ih => exact ih (i := i + 1) (S := S.wI t i (g i))
  · induction k generalizing i S with
    | zero => rfl
    | succ k ih => exact ih (i := i + 1) (S := S.wI t i (g i))
  · induction k generalizing i S with
    | zero => rfl
    | succ k ih => exact ih (i := i + 1) (S := S.wI t i (g i))
  · induction k generalizing i S with
    | zero => rfl
    | succ k ih => exact ih (i := i + 1) (S := S.wI t i (g i))
  · induction k generalizing i S with
    | zero => rfl
    | succ k ih => exact ih (i := i + 1) (S := S.wI t i (g i))
theorem mNum.but {S S' : ox_St} {t c v n : Nat} {f : Nat → Nat} {neg : Int32} (h : mNum S c v f n neg) (hb : oAg (fun a => a ≠ t) S S') (hc : c ≠ t) : mNum S' c v f n neg := by
  obtain ⟨h1, h2, h3⟩ := h
  obtain ⟨-, -, -, -, -, g6, -⟩ := hb c hc
  refine ⟨h1, h2, h3.imp id ?_⟩
  rintro ⟨a1, a2, a3, a4, a5, a6, a7⟩
  exact ⟨a1, a2, (g6 _).trans a3, (g6 _).trans a4, a5, (g6 _).trans a6, fun i hi => (g6 _).trans (a7 i hi)⟩
section OLD
variable {sp : ox_E} {d mr sr : Nat} {S : ox_St} {Q : ox_Q} {m ce : Nat}
theorem s_138_23 {E : ox_E} (hE : ox_mono E) (h : oML S m ce) {t N v n : Nat} {f : Nat → Nat} (hK : S.K t = 15) (hN : S.len t = N) (hnN : n ≤ N) (hN2 : N < 2 ^ 31) (htc : m + ce ≠ t) (hv : 16 ≤ v) (hv2 : v + 3 + n ≤ 1100000) (h6 : S.rI (m + ce) (v + 2) = nI n) (h7 : ∀ i, i < n → S.rI (m + ce) (v + 3 + i) = nI (f i)) (hQ : Q (some (.inl (nI n))) (oFl t (fun j => nI (f j)) 0 n S)) : ∀ (k i : Nat), i + k = n → c_138_23 E m t (nI v) (nI i) (oFl t (fun j => nI (f j)) 0 i S) mr sr Q := by
  obtain ⟨c1, c2, c3⟩ := h.cells
  intro k
  induction k with
  | zero =>
    intro i hi
    obtain rfl : i = n := by omega
    obtain ⟨b1, b2, b3, b4, b5, b6, b7⟩ := oBut_fl (t := t) (k := i) (i := 0) (g := fun j => nI (f j)) (S := S)
    obtain ⟨-, -, -, -, -, g6, -⟩ := b1 (m + ce) htc
    have e2 : nI v + 2 = nI (v + 2) := nI_add v 2
    have eR : (oFl t (fun j => nI (f j)) 0 i S).R 73 m = m + ce := by rw [b6]; exact c1
    have eK : (oFl t (fun j => nI (f j)) 0 i S).K (m + ce) = 15 := by rw [b2]; exact c2
    have eL : (oFl t (fun j => nI (f j)) 0 i S).len (m + ce) = 1100000 := by rw [b3]; exact c3
    have eM : (oFl t (fun j => nI (f j)) 0 i S).K m = 14 := by rw [b2]; exact h.1
    refine f_138_23 hE ?_
    unfold q_138_23
    rw [eR, eK, eL, eM, e2, nI_clamp (by omega), (g6 (v + 2)).trans h6]
    refine ⟨rfl, rfl, vp_in_nI (by omega) (by decide), fun _ => ⟨rfl, rfl, vp_in_nI (by omega) (by decide), trivial, hQ⟩, fun z => absurd (nI_le (Nat.le_refl i) (by omega)) z⟩
  | succ k ih =>
    intro i hi
    obtain ⟨b1, b2, b3, b4, b5, b6, b7⟩ := oBut_fl (t := t) (k := i) (i := 0) (g := fun j => nI (f j)) (S := S)
    obtain ⟨-, -, -, -, -, g6, -⟩ := b1 (m + ce) htc
    have e2 : nI v + 2 = nI (v + 2) := nI_add v 2
    have e3 : nI v + 3 + nI i = nI (v + 3 + i) := by rw [show nI v + 3 = nI (v + 3) from nI_add v 3, nI_add]
    have eR : (oFl t (fun j => nI (f j)) 0 i S).R 73 m = m + ce := by rw [b6]; exact c1
    have eK : (oFl t (fun j => nI (f j)) 0 i S).K (m + ce) = 15 := by rw [b2]; exact c2
    have eL : (oFl t (fun j => nI (f j)) 0 i S).len (m + ce) = 1100000 := by rw [b3]; exact c3
    have eM : (oFl t (fun j => nI (f j)) 0 i S).K m = 14 := by rw [b2]; exact h.1
    have et : (oFl t (fun j => nI (f j)) 0 i S).K t = 15 := by rw [b2]; exact hK
    have el : (oFl t (fun j => nI (f j)) 0 i S).len t = N := by rw [b3]; exact hN
    refine f_138_23 hE ?_
    unfold q_138_23
    rw [eR, eK, eL, eM, et, el, e2, e3, nI_clamp (n := v + 2) (by omega), nI_clamp (n := v + 3 + i) (by omega), nI_clamp (n := i) (by omega), (g6 (v + 2)).trans h6, (g6 (v + 3 + i)).trans (h7 i (by omega)), nI_1]
    refine ⟨rfl, rfl, vp_in_nI (by omega) (by decide), fun z => absurd z (nI_ge (by omega) (by omega)), fun _ => ⟨rfl, rfl, vp_in_nI (by omega) (by decide), rfl, vp_in_nI (by omega) hN2, ?_⟩⟩
    have es := oFl_snoc (t := t) (g := fun j => nI (f j)) i 0 S
    rw [Nat.zero_add] at es
    rw [es]
    exact ih (i + 1) (by omega)
/-- load: the digits come into the row, their count is answered -/
theorem s_138 (hsp : ox_mono sp) (h : oML S m ce) {t v n : Nat} {f : Nat → Nat} {neg : Int32} (hK : S.K t = 15) (hN : S.len t = 40) (htc : m + ce ≠ t) (hv : mNum S (m + ce) v f n neg) (hQ : ∀ S', oBut t S S' → (∀ j, j < n → S'.rI t j = nI (f j)) → Q (some (.inl (nI n))) S') : ox_M sp (d + 1) 138 [.inr (.inr m), .inr (.inr t), .inl (nI v)] mr sr S Q := by
  obtain ⟨h1, h2, ⟨a1, a2, a3⟩ | ⟨a1, a2, a3, a4, a5, a6, a7⟩⟩ := hv
  · refine f_138 hsp ⟨fun z => absurd z (nI_ge (b := 16) a1 (by decide)), fun _ => ⟨hK, by rw [hN]; exact vp_in_nI (n := 0) (by decide) (by decide), ?_⟩⟩
    have hb : oBut t S (S.wI t (Int32.toNatClampNeg 0) 1) := ⟨oAg_wI (fun z => z rfl), rfl, rfl, rfl, rfl, rfl, rfl, rfl, rfl⟩
    rcases a3 with ⟨rfl, rfl⟩ | ⟨rfl, rfl, hf⟩
    · exact ⟨fun _ => ⟨trivial, hQ _ hb (fun j hj => absurd hj (Nat.not_lt_zero j))⟩, fun z => absurd z (by decide)⟩
    · refine ⟨fun z => absurd rfl z, fun _ => ⟨trivial, hQ _ hb (fun j hj => ?_)⟩⟩
      obtain rfl : j = 0 := by omega
      rw [hf]
      exact if_pos ⟨rfl, rfl⟩
  · refine f_138 hsp ⟨fun _ => ?_, fun z => absurd (nI_le (a := 16) a1 (by omega)) z⟩
    exact s_138_23 (ox_M_mono hsp _) h hK hN (by omega) (by decide) htc a1 a2 a6 a7 (hQ _ oBut_fl (fun j hj => oFl_at hj)) n 0 (by omega)
end OLD
