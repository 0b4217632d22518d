/-! the class reads: the first code is added -/
section CL5
variable {sp : ox_E} {d mr sr : Nat} {S : ox_St} {Q : ox_Q} {a c : Nat}
theorem s_226e (hsp : ox_mono sp) (ha : a < S.n) (hc : c < S.n) (hK : S.K a = 1) (hR : S.R 1 a = S.R 142 0) (kt : S.K (S.R 142 0) = 23) (lt : S.len (S.R 142 0) = 0) (hI : S.I 2 a = nI 0) (kc : S.K c = 3) (hm : 1 ≤ mr) (hs : 10 ≤ sr) (hQ : ∀ S', adF a S.n S S' → S'.n = S.n + 1 → S'.R 1 a = S.n → S'.K S.n = 20 → S'.len S.n = 10 → S'.I 2 a = nI 1 → S'.rR S.n 0 = c → Q (some (.inl 1)) S') : ox_M sp (d + 4) 226 [.inr (.inr a), .inr (.inr c)] mr sr S Q := by
  have hE : ox_mono (ox_M sp (d + 3)) := ox_M_mono hsp _
  have hE2 : ox_mono (ox_M sp (d + 2)) := ox_M_mono hsp _
  have hE1 : ox_mono (ox_M sp (d + 1)) := ox_M_mono hsp _
  refine f_226 hsp ⟨by rw [hK]; rfl, by rw [hK]; rfl, ?_⟩
  intro S1
  have e1 : S1 = S.sI 0 a (S.I 0 a + 1) := rfl
  clear_value S1
  have K1 : S1.K = S.K := by rw [e1, or_sI_K]
  have R1 : S1.R = S.R := by rw [e1, or_sI_R]
  have I1 : S1.I 2 a = nI 0 := by rw [e1, or_sI_I, if_neg (fun y => absurd y.1 (by decide))]; exact hI
  have L1 : S1.len = S.len := by rw [e1, or_sI_len]
  have N1 : S1.n = S.n := by rw [e1, or_sI_n]
  have J1 : S1.J = S.J := by rw [e1, or_sI_J]
  have r1 : S1.rI = S.rI := by rw [e1, or_sI_rI]
  have j1 : S1.rJ = S.rJ := by rw [e1, or_sI_rJ]
  have q1 : S1.rR = S.rR := by rw [e1, or_sI_rR]
  have iA : ∀ F z, z ≠ a ∨ F ≠ 0 → S1.I F z = S.I F z := fun F z h => by rw [e1, or_sI_I, if_neg (fun y => by omega)]
  clear e1
  rw [K1, R1, hK, hR, I1]
  refine ⟨rfl, rfl, by decide, rfl, by decide, 1, 10, hm, hs, ?_⟩
  refine f_225 hsp ?_
  unfold q_225
  rw [K1, L1, kt, lt, hK]
  refine ⟨rfl, fun z => absurd rfl z, fun _ => ⟨by decide, rfl, by decide, 1, 10, Nat.le_refl _, Nat.le_refl _, ?_⟩⟩
  refine f_221 hsp ⟨by rw [K1, hK]; rfl, by decide, by rw [K1]; exact hK, by decide, 1, 10, Nat.le_refl _, Nat.le_refl _, ?_⟩
  rw [I1]
  show ox_M sp (d + 1) 220 [.inr (.inr a), .inl 1] 1 10 S1 _
  refine s_220e hsp (by rw [N1]; exact ha) (by rw [K1]; exact hK) (by rw [R1]; exact hR) (by rw [K1, R1]; exact kt) (by rw [L1, R1]; exact lt) (Nat.le_refl _) (Nat.le_refl _) (f_221_10 hE1 ⟨rfl, f_225_10 hE2 ?_⟩)
  have K2 : ∀ z, ((S1.newA 20 10).sR 1 a S1.n).K z = if z = S.n then 20 else S.K z := fun z => by rw [or_sR_K, or_newA_K, N1, K1]
  have L2 : ∀ z, ((S1.newA 20 10).sR 1 a S1.n).len z = if z = S.n then 10 else S.len z := fun z => by rw [or_sR_len, or_newA_len, N1, L1]
  have N2 : ((S1.newA 20 10).sR 1 a S1.n).n = S.n + 1 := by rw [or_sR_n, or_newA_n, N1]
  have I2 : ((S1.newA 20 10).sR 1 a S1.n).I = S1.I := by rw [or_sR_I, or_newA_I]
  have R2 : ∀ F z, ((S1.newA 20 10).sR 1 a S1.n).R F z = if F = 1 ∧ z = a then S.n else S.R F z := fun F z => by rw [or_sR_R, or_newA_R, N1, R1]
  have J2 : ((S1.newA 20 10).sR 1 a S1.n).J = S.J := by rw [or_sR_J, or_newA_J, J1]
  have r2 : ∀ z j, ((S1.newA 20 10).sR 1 a S1.n).rI z j = if z = S.n then 0 else S.rI z j := fun z j => by rw [or_sR_rI, or_newA_rI, N1, r1]
  have j2 : ∀ z j, ((S1.newA 20 10).sR 1 a S1.n).rJ z j = if z = S.n then 0 else S.rJ z j := fun z j => by rw [or_sR_rJ, or_newA_rJ, N1, j1]
  have q2 : ∀ z j, ((S1.newA 20 10).sR 1 a S1.n).rR z j = if z = S.n then 0 else S.rR z j := fun z j => by rw [or_sR_rR, or_newA_rR, N1, q1]
  generalize (S1.newA 20 10).sR 1 a S1.n = S2 at K2 L2 N2 I2 R2 J2 r2 j2 q2 ⊢
  unfold q_225_10
  rw [N1, K2 S.n, L2 S.n, K2 c, if_pos rfl, if_pos rfl, if_neg (by omega), kc]
  refine ⟨rfl, vp_in_nI (n := 0) (by decide) (by decide), Or.inr rfl, ?_⟩
  refine ⟨by rw [or_wR_K, K2 a, if_neg (by omega), hK]; rfl, rfl, f_226_23 hE ⟨Or.inr rfl, ?_⟩⟩
  show Q (some (.inl 1)) ((S2.wR S.n 0 c).sI 2 a (nI 1))
  have W : ∀ F z, ((S2.wR S.n 0 c).sI 2 a (nI 1)).I F z = if F = 2 ∧ z = a then nI 1 else S1.I F z := fun F z => by rw [or_sI_I, or_wR_I, I2]
  have X : ∀ z j, ((S2.wR S.n 0 c).sI 2 a (nI 1)).rR z j = if z = S.n ∧ j = 0 then c else S2.rR z j := fun z j => by rw [or_sI_rR, or_wR_rR]
  have y1 : ((S2.wR S.n 0 c).sI 2 a (nI 1)).K = S2.K := by rw [or_sI_K, or_wR_K]
  have y2 : ((S2.wR S.n 0 c).sI 2 a (nI 1)).len = S2.len := by rw [or_sI_len, or_wR_len]
  have y3 : ((S2.wR S.n 0 c).sI 2 a (nI 1)).n = S2.n := by rw [or_sI_n, or_wR_n]
  have y4 : ((S2.wR S.n 0 c).sI 2 a (nI 1)).R = S2.R := by rw [or_sI_R, or_wR_R]
  have y5 : ((S2.wR S.n 0 c).sI 2 a (nI 1)).J = S2.J := by rw [or_sI_J, or_wR_J]
  have y6 : ((S2.wR S.n 0 c).sI 2 a (nI 1)).rI = S2.rI := by rw [or_sI_rI, or_wR_rI]
  have y7 : ((S2.wR S.n 0 c).sI 2 a (nI 1)).rJ = S2.rJ := by rw [or_sI_rJ, or_wR_rJ]
  generalize (S2.wR S.n 0 c).sI 2 a (nI 1) = V at W X y1 y2 y3 y4 y5 y6 y7 ⊢
  refine hQ V ⟨fun z hz => by rw [y1, y2, K2, L2, if_neg (by omega), if_neg (by omega)]; exact ⟨rfl, rfl⟩, by omega, fun F z _ h => by rw [W, if_neg (fun y => by omega)]; exact iA F z (by omega), fun F z _ h => by rw [y4, R2, if_neg (fun y => by omega)], fun F z _ => by rw [y5, J2], fun z hz => ⟨funext fun j => by rw [y6, r2, if_neg (by omega)], funext fun j => by rw [y7, j2, if_neg (by omega)]⟩, fun z hz _ => funext fun j => by rw [X, if_neg (fun y => by omega), q2, if_neg (by omega)]⟩ (y3.trans N2) (by rw [y4, R2, if_pos ⟨rfl, rfl⟩]) (by rw [y1, K2, if_pos rfl]) (by rw [y2, L2, if_pos rfl]) (by rw [W, if_pos ⟨rfl, rfl⟩]) (by rw [X, if_pos ⟨rfl, rfl⟩])
end CL5
