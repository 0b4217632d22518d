/-! the class reads: clear, add where there is room -/
section CL2
variable {sp : ox_E} {d mr sr : Nat} {S : ox_St} {Q : ox_Q} {a t n N c : Nat}
theorem s_227 (hsp : ox_mono sp) (hK : S.K a = 1) (hR : S.R 1 a = t) (hI : S.I 2 a = nI n) (kt : n = 0 ∨ S.K t = 20) (lt : S.len t = N) (hn : n ≤ N) (hN : N < 2 ^ 31) (hQ : ∀ S', S'.K = S.K → S'.len = S.len → S'.n = S.n → (∀ F z, z ≠ a ∨ (F ≠ 0 ∧ F ≠ 2) → S'.I F z = S.I F z) → S'.I 2 a = nI 0 → S'.J = S.J → S'.R = S.R → S'.rI = S.rI → S'.rJ = S.rJ → (∀ z, z ≠ t → S'.rR z = S.rR z) → (n = 0 → S'.rR = S.rR) → Q none S') : ox_M sp (d + 1) 227 [.inr (.inr a)] mr sr S Q := by
  have hE : ox_mono (ox_M sp d) := ox_M_mono hsp _
  refine f_227 hsp ⟨by rw [hK]; rfl, by rw [hK]; rfl, ?_⟩
  intro S1
  have e1 : S1 = S.sI 0 a (S.I 0 a + 1) := rfl
  clear_value S1
  have K1 : S1.K = S.K := by rw [e1, or_sI_K]
  have R1 : S1.R = S.R := by rw [e1, or_sI_R]
  have I1 : S1.I 2 a = nI n := by rw [e1, or_sI_I, if_neg (fun y => absurd y.1 (by decide))]; exact hI
  rw [K1, R1, hK, hR, I1]
  refine ⟨rfl, rfl, ?_⟩
  intro w2
  have ew : w2 = nI n := rfl
  clear_value w2
  subst ew
  refine ⟨rfl, ?_⟩
  show c_227_27 (ox_M sp d) a t (nI n) (nI 0) (S1.sI 2 a (nI 0)) mr sr Q
  have K3 : (S1.sI 2 a (nI 0)).K = S.K := (or_sI_K _ _ _ _).trans K1
  have L3 : (S1.sI 2 a (nI 0)).len = S.len := by rw [or_sI_len, e1, or_sI_len]
  have N3 : (S1.sI 2 a (nI 0)).n = S.n := by rw [or_sI_n, e1, or_sI_n]
  have J3 : (S1.sI 2 a (nI 0)).J = S.J := by rw [or_sI_J, e1, or_sI_J]
  have R3 : (S1.sI 2 a (nI 0)).R = S.R := (or_sI_R _ _ _ _).trans R1
  have r3 : (S1.sI 2 a (nI 0)).rI = S.rI := by rw [or_sI_rI, e1, or_sI_rI]
  have j3 : (S1.sI 2 a (nI 0)).rJ = S.rJ := by rw [or_sI_rJ, e1, or_sI_rJ]
  have q3 : (S1.sI 2 a (nI 0)).rR = S.rR := by rw [or_sI_rR, e1, or_sI_rR]
  have I3 : ∀ F z, z ≠ a ∨ (F ≠ 0 ∧ F ≠ 2) → (S1.sI 2 a (nI 0)).I F z = S.I F z := fun F z h => by rw [or_sI_I, if_neg (fun y => by omega), e1, or_sI_I, if_neg (fun y => by omega)]
  have i3 : (S1.sI 2 a (nI 0)).I 2 a = nI 0 := by rw [or_sI_I, if_pos ⟨rfl, rfl⟩]
  generalize S1.sI 2 a (nI 0) = V at K3 L3 N3 J3 R3 r3 j3 q3 I3 i3 ⊢
  exact s_227_27 (S := V) hE (by rw [K3]; exact kt) (by rw [L3]; exact lt) hn hN (fun S' h1 h2 h3 h4 h5 h6 h7 h8 h9 h10 => hQ S' (h1.trans K3) (h2.trans L3) (h3.trans N3) (fun F z h => by rw [h4]; exact I3 F z h) (by rw [h4]; exact i3) (h5.trans J3) (h6.trans R3) (h7.trans r3) (h8.trans j3) (fun z hz => by rw [h9 z hz, q3]) (fun z => (h10 z).trans q3)) n 0 mr sr V (Nat.zero_add _) rfl rfl rfl rfl rfl rfl rfl rfl (fun _ _ => rfl) (fun _ => rfl)
end CL2
