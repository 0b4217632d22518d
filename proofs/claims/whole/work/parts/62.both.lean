/-! the reference's calculations: what they may change; loadBoth -/
/-- the fields 113 .. 119 and the four rows of digits apart, all is as before -/
def mTmp (m : Nat) (S S' : ox_St) : Prop := S'.K = S.K ∧ S'.len = S.len ∧ S'.n = S.n ∧ S'.R = S.R ∧ S'.J = S.J ∧ S'.rR = S.rR ∧ S'.rJ = S.rJ ∧ (∀ F a, (a ≠ m ∨ F < 113 ∨ 119 < F) → S'.I F a = S.I F a) ∧ (∀ a, (a < m + 26 ∨ m + 29 < a) → S'.rI a = S.rI a)
theorem mTmp.refl {m : Nat} {S : ox_St} : mTmp m S S := ⟨rfl, rfl, rfl, rfl, rfl, rfl, rfl, fun _ _ _ => rfl, fun _ _ => rfl⟩
theorem mTmp.trans {m : Nat} {S S' T : ox_St} (h : mTmp m S S') (g : mTmp m S' T) : mTmp m S T := by
  obtain ⟨h1, h2, h3, h4, h5, h6, h7, h8, h9⟩ := h
  obtain ⟨g1, g2, g3, g4, g5, g6, g7, g8, g9⟩ := g
  exact ⟨g1.trans h1, g2.trans h2, g3.trans h3, g4.trans h4, g5.trans h5, g6.trans h6, g7.trans h7, fun F a q => (g8 F a q).trans (h8 F a q), fun a q => (g9 a q).trans (h9 a q)⟩
theorem mTmp_sI {m F : Nat} {S : ox_St} {v : Int32} (h1 : 113 ≤ F) (h2 : F ≤ 119) : mTmp m S (S.sI F m v) := ⟨rfl, rfl, rfl, rfl, rfl, rfl, rfl, fun G a q => ox_u2_ne (fun e => by omega), fun _ _ => rfl⟩
theorem mTmp_wI {m t i : Nat} {S : ox_St} {v : Int32} (h1 : m + 26 ≤ t) (h2 : t ≤ m + 29) : mTmp m S (S.wI t i v) := ⟨rfl, rfl, rfl, rfl, rfl, rfl, rfl, fun _ _ _ => rfl, fun a q => ox_u2_row _ _ (fun e => by omega)⟩
theorem mTmp_but {m t : Nat} {S S' : ox_St} (h : oBut t S S') (h1 : m + 26 ≤ t) (h2 : t ≤ m + 29) : mTmp m S S' := by
  obtain ⟨b1, b2, b3, b4, b5, b6, b7, b8, b9⟩ := h
  refine ⟨b2, b3, b4, b6, b7, b8, b9, fun F a _ => by rw [b5], fun a q => ?_⟩
  obtain ⟨-, -, -, -, -, g6, -⟩ := b1 a (fun e => by omega)
  exact funext g6
theorem oML.tmp {S S' : ox_St} {m ce : Nat} (h : oML S m ce) (g : mTmp m S S') : oML S' m ce := h.next g.1 g.2.1 (fun F => by rw [g.2.2.2.1])
theorem mNum.tmp {S S' : ox_St} {m ce v n : Nat} {f : Nat → Nat} {neg : Int32} (h : mNum S (m + ce) v f n neg) (hc : ce = 2 ∨ ce = 3) (g : mTmp m S S') : mNum S' (m + ce) v f n neg := by
  obtain ⟨h1, h2, h3⟩ := h
  have e : S'.rI (m + ce) = S.rI (m + ce) := g.2.2.2.2.2.2.2.2 _ (Or.inl (by omega))
  refine ⟨h1, h2, h3.imp id ?_⟩
  rw [e]
  exact id
theorem mNum.neg {S : ox_St} {c v n : Nat} {f : Nat → Nat} {neg : Int32} (h : mNum S c v f n neg) : neg = 0 ∨ neg = 1 := by
  obtain ⟨-, -, ⟨-, a2, -⟩ | ⟨-, -, -, -, a5, -⟩⟩ := h
  · exact Or.inl a2
  · exact a5
/-- what loadBoth leaves: digits, counts and signs of two numbers -/
def mBoth (S : ox_St) (m : Nat) (f : Nat → Nat) (n : Nat) (p : Int32) (g : Nat → Nat) (k : Nat) (q : Int32) : Prop := (∀ j, j < n → S.rI (m + 26) j = nI (f j)) ∧ S.I 113 m = nI n ∧ S.I 117 m = p ∧ (∀ j, j < k → S.rI (m + 27) j = nI (g j)) ∧ S.I 114 m = nI k ∧ S.I 118 m = q
section OLB
variable {sp : ox_E} {d mr sr : Nat} {S : ox_St} {Q : ox_Q} {m ce : Nat}
theorem s_139 (hsp : ox_mono sp) (h : oML S m ce) {u v n k : Nat} {f g : Nat → Nat} {p q : Int32} (hu : mNum S (m + ce) u f n p) (hv : mNum S (m + ce) v g k q) (hQ : ∀ S', mTmp m S S' → mBoth S' m f n p g k q → Q none S') : ox_M sp (d + 2) 139 [.inr (.inr m), .inl (nI u), .inl (nI v)] mr sr S Q := by
  have hE : ox_mono (ox_M sp (d + 1)) := ox_M_mono hsp _
  obtain ⟨l1, l2, l3⟩ := h.row (F := 109) (o := 26) (k := 15) (n := 40) (by decide +kernel)
  have hce := h.2.2.1
  refine f_139 hsp ⟨by rw [h.1]; rfl, by decide, h.1, by decide, 0, 0, Nat.zero_le _, Nat.zero_le _, ?_⟩
  rw [l1]
  refine s_138 hsp h l2 l3 (by omega) hu (fun S1 b1 r1 => ?_)
  have t1 := mTmp_but (m := m) b1 (by omega) (by omega)
  have M1 := h.tmp t1
  -- the second half, once the sign of the left one stands
  have half : ∀ T : ox_St, mTmp m S1 T → T.rI = S1.rI → T.I 113 m = nI n → T.I 117 m = p → ox_has (T.K m) 110 = true ∧ (3 ≤ 4 ∧ T.K m = 14 ∧ 1 ≤ 8 ∧ ∃ mc mk, mc ≤ mr - 0 ∧ mk ≤ sr - 0 ∧ ox_M sp (d + 1) 138 [.inr (.inr m), .inr (.inr (T.R 110 m)), .inl (nI v)] mc mk T (k_139_50 (ox_M sp (d + 1)) m (nI u) (nI v) m (mr - 0 - mc) (sr - 0 - mk) Q)) := by
    intro T tT eT i1 i2
    have M2 := M1.tmp tT
    obtain ⟨w1, w2, w3⟩ := M2.row (F := 110) (o := 27) (k := 15) (n := 40) (by decide +kernel)
    refine ⟨by rw [M2.1]; rfl, by decide, M2.1, by decide, 0, 0, Nat.zero_le _, Nat.zero_le _, ?_⟩
    rw [w1]
    refine s_138 hsp M2 w2 w3 (by omega) (hv.tmp hce (t1.trans tT)) (fun S2 b2 r2 => ?_)
    have t2 := mTmp_but (m := m) b2 (by omega) (by omega)
    have M3 := M2.tmp t2
    have fin : ∀ x : Int32, x = q → Q none ((S2.sI 114 m (nI k)).sI 118 m x) := by
      intro x hx
      refine hQ _ (((t1.trans tT).trans t2).trans ((mTmp_sI (by decide) (by decide)).trans (mTmp_sI (by decide) (by decide)))) ⟨fun j hj => ?_, ?_, ?_, fun j hj => r2 j hj, ?_, ?_⟩
      · obtain ⟨-, -, -, -, -, g6, -⟩ := b2.1 (m + 26) (by omega)
        show S2.rI (m + 26) j = _
        rw [g6, eT]
        exact r1 j hj
      · rw [or_sI_I, if_neg (fun z => by cases z.1), or_sI_I, if_neg (fun z => by cases z.1), b2.2.2.2.2.1]
        exact i1
      · rw [or_sI_I, if_neg (fun z => by cases z.1), or_sI_I, if_neg (fun z => by cases z.1), b2.2.2.2.2.1]
        exact i2
      · rw [or_sI_I, if_neg (fun z => by cases z.1), or_sI_I, if_pos ⟨rfl, rfl⟩]
      · rw [or_sI_I, if_pos ⟨rfl, rfl⟩]
        exact hx
    refine f_139_50 hE ⟨by rw [M3.1]; rfl, fun z => ⟨by show ox_has (S2.K m) 118 = true; rw [M3.1]; rfl, by decide, rfl, fin 0 ?_⟩, fun z => ?_⟩
    · obtain ⟨-, -, ⟨-, a2, -⟩ | ⟨a1, a2', -⟩⟩ := hv
      · exact a2.symm
      · exact absurd z (nI_nlt (b := 16) a1 (by omega))
    · have hv' := hv.tmp hce ((t1.trans tT).trans t2)
      obtain ⟨-, -, ⟨a1, -⟩ | ⟨a1, a2, a3, a4, a5, -⟩⟩ := hv'
      · exact absurd (nI_lt (b := 16) a1 (by decide)) z
      · have M4 : oML (S2.sI 114 m (nI k)) m ce := M3.tmp (mTmp_sI (by decide) (by decide))
        obtain ⟨c1, c2, c3⟩ := M4.cells
        have e1 : nI v + 1 = nI (v + 1) := nI_1 v
        have er : (S2.sI 114 m (nI k)).rI (m + ce) (v + 1) = q := a4
        have eK : (S2.sI 114 m (nI k)).K m = 14 := M4.1
        show ox_has ((S2.sI 114 m (nI k)).K m) 73 = true ∧ _
        rw [c1, c2, c3, e1, nI_clamp (by omega), er, eK]
        refine ⟨rfl, rfl, vp_in_nI (by omega) (by decide), fun z1 => ⟨rfl, by decide, rfl, fin 0 ?_⟩, fun z1 => ⟨rfl, by decide, rfl, fin 1 z1.symm⟩⟩
        exact (a5.resolve_right z1).symm
  refine f_139_10 hE ⟨by rw [M1.1]; rfl, fun z => ⟨by show ox_has (S1.K m) 117 = true; rw [M1.1]; rfl, by decide, ?_⟩, fun z => ?_⟩
  · refine half ((S1.sI 113 m (nI n)).sI 117 m 0) ((mTmp_sI (by decide) (by decide)).trans (mTmp_sI (by decide) (by decide))) rfl ?_ ?_
    · rw [or_sI_I, if_neg (fun z => by cases z.1), or_sI_I, if_pos ⟨rfl, rfl⟩]
    · rw [or_sI_I, if_pos ⟨rfl, rfl⟩]
      obtain ⟨-, -, ⟨-, a2, -⟩ | ⟨a1, a2', -⟩⟩ := hu
      · exact a2.symm
      · exact absurd z (nI_nlt (b := 16) a1 (by omega))
  · have hu' := hu.tmp hce t1
    obtain ⟨-, -, ⟨a1, -⟩ | ⟨a1, a2, a3, a4, a5, -⟩⟩ := hu'
    · exact absurd (nI_lt (b := 16) a1 (by decide)) z
    · have M4 : oML (S1.sI 113 m (nI n)) m ce := M1.tmp (mTmp_sI (by decide) (by decide))
      obtain ⟨c1, c2, c3⟩ := M4.cells
      have e1 : nI u + 1 = nI (u + 1) := nI_1 u
      have er : (S1.sI 113 m (nI n)).rI (m + ce) (u + 1) = p := a4
      have eK : (S1.sI 113 m (nI n)).K m = 14 := M4.1
      have i1 : ∀ x : Int32, ((S1.sI 113 m (nI n)).sI 117 m x).I 113 m = nI n := fun x => by rw [or_sI_I, if_neg (fun z => by cases z.1), or_sI_I, if_pos ⟨rfl, rfl⟩]
      have i2 : ∀ x : Int32, x = p → ((S1.sI 113 m (nI n)).sI 117 m x).I 117 m = p := fun x hx => by rw [or_sI_I, if_pos ⟨rfl, rfl⟩]; exact hx
      have tt : ∀ x : Int32, mTmp m S1 ((S1.sI 113 m (nI n)).sI 117 m x) := fun x => (mTmp_sI (by decide) (by decide)).trans (mTmp_sI (by decide) (by decide))
      show ox_has ((S1.sI 113 m (nI n)).K m) 73 = true ∧ _
      rw [c1, c2, c3, e1, nI_clamp (by omega), er, eK]
      refine ⟨rfl, rfl, vp_in_nI (by omega) (by decide), fun z1 => ⟨rfl, by decide, ?_⟩, fun z1 => ⟨rfl, by decide, ?_⟩⟩
      · exact half _ (tt 0) rfl (i1 0) (i2 0 (a5.resolve_right z1).symm)
      · exact half _ (tt 1) rfl (i1 1) (i2 1 z1.symm)
end OLB
