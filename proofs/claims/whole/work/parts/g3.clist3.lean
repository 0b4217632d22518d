/-! the class reads: a code is added to the list -/
section CL3
variable {sp : ox_E} {d mr sr : Nat} {S : ox_St} {Q : ox_Q} {a t n N c : Nat}
/-- what adding leaves alone -/
def adF (a t : Nat) (S S' : ox_St) : Prop := (∀ z, z < S.n → S'.K z = S.K z ∧ S'.len z = S.len z) ∧ S.n ≤ S'.n ∧ (∀ F z, z < S.n → z ≠ a ∨ (F ≠ 0 ∧ F ≠ 2) → S'.I F z = S.I F z) ∧ (∀ F z, z < S.n → z ≠ a ∨ F ≠ 1 → S'.R F z = S.R F z) ∧ (∀ F z, z < S.n → S'.J F z = S.J F z) ∧ (∀ z, z < S.n → S'.rI z = S.rI z ∧ S'.rJ z = S.rJ z) ∧ ∀ z, z < S.n → z ≠ t → S'.rR z = S.rR z
theorem s_226r (hsp : ox_mono sp) (hK : S.K a = 1) (hR : S.R 1 a = t) (hI : S.I 2 a = nI n) (kt : S.K t = 20) (lt : S.len t = N) (hn : n < N) (hN : N < 2 ^ 31) (kc : S.K c = 3) (hQ : ∀ S', adF a t S S' → S'.n = S.n → S'.R = S.R → S'.I 2 a = nI (n + 1) → (∀ j, S'.rR t j = if j = n then c else S.rR t j) → Q (some (.inl 1)) S') : ox_M sp (d + 2) 226 [.inr (.inr a), .inr (.inr c)] mr sr S Q := by
  have hE : ox_mono (ox_M sp (d + 1)) := ox_M_mono hsp _
  refine f_226 hsp ⟨by rw [hK]; rfl, by rw [hK]; rfl, ?_⟩
  intro S1
  have e1 : S1 = S.sI 0 a (S.I 0 a + 1) := rfl
  clear_value S1
  have K1 : S1.K = S.K := by rw [e1, or_sI_K]
  have R1 : S1.R = S.R := by rw [e1, or_sI_R]
  have I1 : S1.I 2 a = nI n := by rw [e1, or_sI_I, if_neg (fun y => absurd y.1 (by decide))]; exact hI
  have L1 : S1.len = S.len := by rw [e1, or_sI_len]
  rw [K1, R1, hK, hR, I1]
  refine ⟨rfl, rfl, by decide, rfl, by decide, 0, 0, Nat.zero_le _, Nat.zero_le _, ?_⟩
  have ne : ¬ nI n = Int32.ofNat N := fun z => by
    have z' : nI n = nI N := z
    have := (nI_eq (by omega) (by omega)).mp z'
    omega
  refine f_225 hsp ?_
  unfold q_225
  rw [K1, L1, kt, lt, kc, nI_clamp (n := n) (by omega), nI_1]
  refine ⟨rfl, fun _ => ⟨rfl, vp_in_nI hn hN, Or.inr rfl, ?_⟩, fun z => absurd z ne⟩
  refine ⟨by rw [or_wR_K, K1, hK]; rfl, rfl, f_226_23 hE ⟨Or.inr rfl, ?_⟩⟩
  have W : ∀ F z, ((S1.wR t n c).sI 2 a (nI (n + 1))).I F z = if F = 2 ∧ z = a then nI (n + 1) else if F = 0 ∧ z = a then S.I 0 a + 1 else S.I F z := fun F z => by rw [or_sI_I, or_wR_I, e1, or_sI_I]
  have X : ∀ z j, ((S1.wR t n c).sI 2 a (nI (n + 1))).rR z j = if z = t ∧ j = n then c else S.rR z j := fun z j => by rw [or_sI_rR, or_wR_rR, e1, or_sI_rR]
  have Y : ((S1.wR t n c).sI 2 a (nI (n + 1))).K = S.K ∧ ((S1.wR t n c).sI 2 a (nI (n + 1))).len = S.len ∧ ((S1.wR t n c).sI 2 a (nI (n + 1))).n = S.n ∧ ((S1.wR t n c).sI 2 a (nI (n + 1))).R = S.R ∧ ((S1.wR t n c).sI 2 a (nI (n + 1))).J = S.J ∧ ((S1.wR t n c).sI 2 a (nI (n + 1))).rI = S.rI ∧ ((S1.wR t n c).sI 2 a (nI (n + 1))).rJ = S.rJ := by
    refine ⟨?_, ?_, ?_, ?_, ?_, ?_, ?_⟩
    · rw [or_sI_K, or_wR_K, K1]
    · rw [or_sI_len, or_wR_len, L1]
    · rw [or_sI_n, or_wR_n, e1, or_sI_n]
    · rw [or_sI_R, or_wR_R, R1]
    · rw [or_sI_J, or_wR_J, e1, or_sI_J]
    · rw [or_sI_rI, or_wR_rI, e1, or_sI_rI]
    · rw [or_sI_rJ, or_wR_rJ, e1, or_sI_rJ]
  generalize (S1.wR t n c).sI 2 a (nI (n + 1)) = V at W X Y ⊢
  obtain ⟨y1, y2, y3, y4, y5, y6, y7⟩ := Y
  refine hQ V ⟨fun z _ => by rw [y1, y2]; exact ⟨rfl, rfl⟩, by omega, fun F z _ h => by rw [W, if_neg (fun y => by omega), if_neg (fun y => by omega)], fun F z _ _ => by rw [y4], fun F z _ => by rw [y5], fun z _ => by rw [y6, y7]; exact ⟨rfl, rfl⟩, fun z _ hz => funext fun j => by rw [X, if_neg (fun y => hz y.1)]⟩ y3 y4 (by rw [W, if_pos ⟨rfl, rfl⟩]) (fun j => ?_)
  rw [X]
  by_cases w : j = n
  · rw [if_pos ⟨rfl, w⟩, if_pos w]
  · rw [if_neg (fun y => w y.2), if_neg w]
end CL3
