/-! the class reads: its list of codes -/
section CLs
variable {sp : ox_E} {d mr sr : Nat} {S : ox_St} {Q : ox_Q} {a t n N : Nat}
theorem s_222 (hsp : ox_mono sp) (hK : S.K a = 1) (hI : S.I 2 a = nI n) (hQ : Q (some (.inl (nI n))) S) : ox_M sp (d + 1) 222 [.inr (.inr a)] mr sr S Q := by
  refine f_222 hsp ⟨by rw [hK]; rfl, trivial, ?_⟩
  rw [hI]
  exact hQ
theorem s_223 (hsp : ox_mono sp) (hK : S.K a = 1) (hR : S.R 1 a = t) (kt : S.K t = 20) (lt : S.len t = N) {j : Nat} (hj : j < N) (hN : N < 2 ^ 31) (hQ : Q (some (.inr (.inr (S.rR t j)))) S) : ox_M sp (d + 1) 223 [.inr (.inr a), .inl (nI j)] mr sr S Q := by
  refine f_223 hsp ⟨by rw [hK]; rfl, ?_⟩
  rw [hR, kt, lt, nI_clamp (n := j) (by omega)]
  exact ⟨rfl, vp_in_nI hj hN, rfl, hQ⟩
theorem s_224 (hsp : ox_mono sp) (hK : S.K a = 1) (hR : S.R 1 a = t) (hI : S.I 2 a = nI n) (kt : S.K t = 20) (lt : S.len t = N) {j : Nat} (hj : j < n) (hn : n ≤ N) (hN : N < 2 ^ 31) (hQ : Q (some (.inr (.inr (S.rR t j)))) S) : ox_M sp (d + 3) 224 [.inr (.inr a), .inl (nI j)] mr sr S Q := by
  have hE : ox_mono (ox_M sp (d + 2)) := ox_M_mono hsp _
  have hE1 : ox_mono (ox_M sp (d + 1)) := ox_M_mono hsp _
  refine f_224 hsp ⟨by rw [hK]; rfl, by decide, by decide, 0, 0, Nat.zero_le _, Nat.zero_le _, ?_⟩
  rw [hI]
  refine f_232 hsp ⟨by decide, by decide, 0, 0, Nat.zero_le _, Nat.zero_le _, ?_⟩
  refine f_235 hsp ⟨fun z => ?_, fun _ => ⟨fun _ => ⟨trivial, f_232_6 hE1 ⟨trivial, f_224_8 hE ⟨by decide, hK, by decide, 0, 0, Nat.zero_le _, Nat.zero_le _, s_223 hsp hK hR kt lt (by omega) hN (f_224_14 hE ⟨rfl, hQ⟩)⟩⟩⟩, fun z => absurd (nI_lt hj (by omega)) z⟩⟩
  have z' : nI j < nI 0 := z
  have := (nI_ltI (by omega) (by omega)).mp z'
  omega
/-- clear, its loop -/
theorem s_227_27 {E : ox_E} (hE : ox_mono E) (kt : n = 0 ∨ S.K t = 20) (lt : S.len t = N) (hn : n ≤ N) (hN : N < 2 ^ 31) (hQ : ∀ S', S'.K = S.K → S'.len = S.len → S'.n = S.n → S'.I = S.I → S'.J = S.J → S'.R = S.R → S'.rI = S.rI → S'.rJ = S.rJ → (∀ z, z ≠ t → S'.rR z = S.rR z) → (n = 0 → S'.rR = S.rR) → Q none S') : ∀ (r j mr sr : Nat) (V : ox_St), j + r = n → V.K = S.K → V.len = S.len → V.n = S.n → V.I = S.I → V.J = S.J → V.R = S.R → V.rI = S.rI → V.rJ = S.rJ → (∀ z, z ≠ t → V.rR z = S.rR z) → (n = 0 → V.rR = S.rR) → c_227_27 E a t (nI n) (nI j) V mr sr Q := by
  intro r
  induction r with
  | zero =>
    intro j mr sr V hj h1 h2 h3 h4 h5 h6 h7 h8 h9 h10
    have hj' : j = n := hj
    subst hj'
    exact f_227_27 hE ⟨fun _ => ⟨rfl, hQ V h1 h2 h3 h4 h5 h6 h7 h8 h9 h10⟩, fun z => absurd (nI_le (Nat.le_refl _) (by omega)) z⟩
  | succ r ih =>
    intro j mr sr V hj h1 h2 h3 h4 h5 h6 h7 h8 h9 h10
    have k20 : S.K t = 20 := kt.elim (fun z => by omega) id
    refine f_227_27 hE ⟨fun z => absurd z (nI_ge (by omega) (by omega)), fun _ => ?_⟩
    rw [h1, h2, k20, lt, nI_clamp (n := j) (by omega), nI_1]
    refine ⟨rfl, vp_in_nI (by omega) hN, Or.inl rfl, ?_⟩
    refine ih (j + 1) mr sr _ (by omega) ((or_wR_K _ _ _ _).trans h1) ((or_wR_len _ _ _ _).trans h2) ((or_wR_n _ _ _ _).trans h3) ((or_wR_I _ _ _ _).trans h4) ((or_wR_J _ _ _ _).trans h5) ((or_wR_R _ _ _ _).trans h6) ((or_wR_rI _ _ _ _).trans h7) ((or_wR_rJ _ _ _ _).trans h8) (fun z hz => funext fun i => ?_) (fun z => by omega)
    rw [or_wR_rR, if_neg (fun y => hz y.1)]
    exact congrFun (h9 z hz) i
end CLs
