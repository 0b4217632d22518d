/-! the list grows -/
theorem gr_sh : ∀ n : Fin 101, nI n.val >>> (1 &&& 31) = nI (n.val / 2) := by decide
theorem oCpr_f {S : ox_St} {a n : Nat} : (oCpr S a n).n = S.n + 1 ∧ (∀ z, (oCpr S a n).K z = if z = S.n then 20 else S.K z) ∧ (∀ z, (oCpr S a n).len z = if z = S.n then n else S.len z) ∧ (oCpr S a n).I = S.I ∧ (oCpr S a n).R = S.R ∧ (oCpr S a n).J = S.J ∧ (∀ z j, z ≠ S.n → (oCpr S a n).rI z j = S.rI z j) ∧ (∀ z j, z ≠ S.n → (oCpr S a n).rJ z j = S.rJ z j) ∧ (∀ z j, z ≠ S.n → (oCpr S a n).rR z j = S.rR z j) ∧ ∀ j, j < S.len a → (oCpr S a n).rR S.n j = S.rR a j := by
  refine ⟨rfl, fun z => rfl, fun z => rfl, rfl, rfl, rfl, fun z j hz => if_neg hz, fun z j hz => if_neg hz, fun z j hz => ?_, fun j hj => ?_⟩
  · show (if z = S.n then _ else (S.newA 20 n).rR z j) = _
    rw [if_neg hz, or_newA_rR, if_neg hz]
  · show (if S.n = S.n then va_cpy (S.rR a) (fun _ => 0) 0 0 (S.len a) j else _) = _
    rw [if_pos rfl]
    unfold va_cpy
    rw [if_pos ⟨Nat.zero_le _, by omega⟩, show 0 + (j - 0) = j by omega]
set_option maxRecDepth 10000 in
theorem gr_adH : adH lw_sp := by
  intro d mr sr S Q a t n c ha hc ht hK hR hI kt lt n10 n100 el kc hm hs hQ
  have hsp := lw_sp_mono
  have hE : ox_mono (ox_M lw_sp (d + 7)) := ox_M_mono hsp _
  have hE2 : ox_mono (ox_M lw_sp (d + 6)) := ox_M_mono hsp _
  have hE1 : ox_mono (ox_M lw_sp (d + 5)) := ox_M_mono hsp _
  have hE0 : ox_mono (ox_M lw_sp (d + 4)) := ox_M_mono hsp _
  refine f_226 (d := d + 7) hsp ⟨by rw [hK]; rfl, by rw [hK]; rfl, ?_⟩
  intro S1
  have e1 : S1 = S.sI 0 a (S.I 0 a + 1) := rfl
  clear_value S1
  have K1 : S1.K = S.K := by rw [e1, or_sI_K]
  have R1 : S1.R = S.R := by rw [e1, or_sI_R]
  have I1 : S1.I 2 a = nI n := by rw [e1, or_sI_I, if_neg (fun y => absurd y.1 (by decide))]; exact hI
  have L1 : S1.len = S.len := by rw [e1, or_sI_len]
  have N1 : S1.n = S.n := by rw [e1, or_sI_n]
  have J1 : S1.J = S.J := by rw [e1, or_sI_J]
  have r1 : S1.rI = S.rI := by rw [e1, or_sI_rI]
  have j1 : S1.rJ = S.rJ := by rw [e1, or_sI_rJ]
  have q1 : S1.rR = S.rR := by rw [e1, or_sI_rR]
  have iA : ∀ F z, z ≠ a ∨ F ≠ 0 → S1.I F z = S.I F z := fun F z h => by rw [e1, or_sI_I, if_neg (fun y => by omega)]
  clear e1
  rw [K1, R1, hK, hR, I1]
  refine ⟨rfl, rfl, by decide, rfl, by decide, 1, 150, hm, hs, ?_⟩
  refine f_225 (d := d + 6) hsp ?_
  unfold q_225
  rw [K1, L1, kt, lt, hK]
  refine ⟨rfl, fun z => absurd rfl z, fun _ => ⟨by decide, rfl, by decide, 1, 150, Nat.le_refl _, Nat.le_refl _, ?_⟩⟩
  refine f_221 (d := d + 5) hsp ⟨by rw [K1, hK]; rfl, by decide, by rw [K1]; exact hK, by decide, 1, 150, Nat.le_refl _, Nat.le_refl _, ?_⟩
  rw [I1, nI_1]
  refine f_220 (d := d + 4) hsp ?_
  unfold q_220
  rw [R1, hR, K1, L1, kt, lt, hK]
  refine ⟨rfl, rfl, ?_⟩
  intro w1
  have ew : w1 = nI n := rfl
  clear_value w1
  subst ew
  have pos : (0 : Int32) < nI n := nI_lt (a := 0) (b := n) (by omega) (by omega)
  have esub : nI (n + 1) - nI n = nI 1 := by rw [pk_sub (by omega)]; exact congrArg nI (by omega)
  rw [esub, gr_sh ⟨n, by omega⟩]
  refine ⟨fun _ => ⟨by decide, by decide, 0, 0, Nat.zero_le _, Nat.zero_le _, ?_⟩, fun z => absurd pos z⟩
  have emax : (if nI 1 < nI (n / 2) then nI (n / 2) else nI 1) = nI (n / 2) := if_pos (nI_lt (by omega) (by omega))
  refine f_233 (d := d + 3) hsp ?_
  unfold q_233
  show _ ∧ _
  rw [emax]
  refine ⟨by decide, ?_⟩
  intro w2
  have ew2 : w2 = nI (n + n / 2) := (Int32.ofNat_add n (n / 2)).symm
  clear_value w2
  subst ew2
  refine ⟨fun z => ?_, fun _ => ⟨fun z => ?_, fun _ => ⟨trivial, f_220_30 hE0 ?_⟩⟩⟩
  · exfalso
    have z' : nI (n + n / 2) ≤ nI 0 := z
    have := (nI_leI (by omega) (by decide)).mp z'
    omega
  · exfalso
    have z' : nI 2147483639 < nI (n + n / 2) := z
    have := (nI_ltI (by decide) (by omega)).mp z'
    omega
  unfold q_220_30
  rw [K1, R1, hK, hR]
  refine ⟨rfl, by decide, by decide, 1, n + n / 2, by omega, by omega, ?_⟩
  have el1 : ∀ j, j < S1.len t → S1.K (S1.rR t j) = 3 ∧ S1.rR t j < S1.n := fun j hj => by
    rw [L1, lt] at hj
    rw [K1, q1, N1]; exact el j hj
  refine s_229 (d := d) (S := S1) (by rw [K1]; exact kt) (by rw [N1]; omega) (by rw [L1, lt]; omega) (by omega) el1 (Nat.le_refl _) (Nat.le_refl _) (f_220_40 hE0 ?_)
  obtain ⟨p1, p2, p3, p4, p5, p6, p7, p8, p9, p10⟩ := oCpr_f (S := S1) (a := t) (n := n + n / 2)
  generalize oCpr S1 t (n + n / 2) = S2 at p1 p2 p3 p4 p5 p6 p7 p8 p9 p10 ⊢
  rw [N1] at p1 p2 p3 p7 p8 p9 p10 ⊢
  rw [L1, lt] at p10
  refine ⟨by rw [p2, if_neg (by omega), K1, hK]; rfl, rfl, f_221_10 hE1 ⟨rfl, f_225_10 hE2 ?_⟩⟩
  have K3 : ∀ z, (S2.sR 1 a S.n).K z = if z = S.n then 20 else S.K z := fun z => by rw [or_sR_K, p2, K1]
  have L3 : ∀ z, (S2.sR 1 a S.n).len z = if z = S.n then n + n / 2 else S.len z := fun z => by rw [or_sR_len, p3, L1]
  have N3 : (S2.sR 1 a S.n).n = S.n + 1 := by rw [or_sR_n, p1]
  have I3 : (S2.sR 1 a S.n).I = S1.I := by rw [or_sR_I, p4]
  have R3 : ∀ F z, (S2.sR 1 a S.n).R F z = if F = 1 ∧ z = a then S.n else S.R F z := fun F z => by rw [or_sR_R, p5, R1]
  have J3 : (S2.sR 1 a S.n).J = S.J := by rw [or_sR_J, p6, J1]
  have r3 : ∀ z j, z ≠ S.n → (S2.sR 1 a S.n).rI z j = S.rI z j := fun z j hz => by rw [or_sR_rI, p7 z j hz, r1]
  have j3 : ∀ z j, z ≠ S.n → (S2.sR 1 a S.n).rJ z j = S.rJ z j := fun z j hz => by rw [or_sR_rJ, p8 z j hz, j1]
  have q3 : ∀ z j, z ≠ S.n → (S2.sR 1 a S.n).rR z j = S.rR z j := fun z j hz => by rw [or_sR_rR, p9 z j hz, q1]
  have s3 : ∀ j, j < n → (S2.sR 1 a S.n).rR S.n j = S.rR t j := fun j hj => by rw [or_sR_rR, p10 j hj, q1]
  generalize S2.sR 1 a S.n = S3 at K3 L3 N3 I3 R3 J3 r3 j3 q3 s3 ⊢
  unfold q_225_10
  rw [K3 S.n, L3 S.n, K3 c, if_pos rfl, if_pos rfl, if_neg (by omega), kc, nI_clamp (n := n) (by omega), nI_1]
  refine ⟨rfl, vp_in_nI (by omega) (by omega), Or.inr rfl, ?_⟩
  refine ⟨by rw [or_wR_K, K3 a, if_neg (by omega), hK]; rfl, rfl, f_226_23 hE ⟨Or.inr rfl, ?_⟩⟩
  have W : ∀ F z, ((S3.wR S.n n c).sI 2 a (nI (n + 1))).I F z = if F = 2 ∧ z = a then nI (n + 1) else S1.I F z := fun F z => by rw [or_sI_I, or_wR_I, I3]
  have X : ∀ z j, ((S3.wR S.n n c).sI 2 a (nI (n + 1))).rR z j = if z = S.n ∧ j = n then c else S3.rR z j := fun z j => by rw [or_sI_rR, or_wR_rR]
  have y1 : ((S3.wR S.n n c).sI 2 a (nI (n + 1))).K = S3.K := by rw [or_sI_K, or_wR_K]
  have y2 : ((S3.wR S.n n c).sI 2 a (nI (n + 1))).len = S3.len := by rw [or_sI_len, or_wR_len]
  have y3 : ((S3.wR S.n n c).sI 2 a (nI (n + 1))).n = S3.n := by rw [or_sI_n, or_wR_n]
  have y4 : ((S3.wR S.n n c).sI 2 a (nI (n + 1))).R = S3.R := by rw [or_sI_R, or_wR_R]
  have y5 : ((S3.wR S.n n c).sI 2 a (nI (n + 1))).J = S3.J := by rw [or_sI_J, or_wR_J]
  have y6 : ((S3.wR S.n n c).sI 2 a (nI (n + 1))).rI = S3.rI := by rw [or_sI_rI, or_wR_rI]
  have y7 : ((S3.wR S.n n c).sI 2 a (nI (n + 1))).rJ = S3.rJ := by rw [or_sI_rJ, or_wR_rJ]
  generalize (S3.wR S.n n c).sI 2 a (nI (n + 1)) = V at W X y1 y2 y3 y4 y5 y6 y7 ⊢
  refine hQ V (n + n / 2) ⟨fun z hz => by rw [y1, y2, K3, L3, if_neg (by omega), if_neg (by omega)]; exact ⟨rfl, rfl⟩, by omega, fun F z _ h => by rw [W, if_neg (fun y => by omega)]; exact iA F z (by omega), fun F z _ h => by rw [y4, R3, if_neg (fun y => by omega)], fun F z _ => by rw [y5, J3], fun z hz => ⟨funext fun j => by rw [y6, r3 z j (by omega)], funext fun j => by rw [y7, j3 z j (by omega)]⟩, fun z hz _ => funext fun j => by rw [X, if_neg (fun y => by omega), q3 z j (by omega)]⟩ (y3.trans N3) (by rw [y4, R3, if_pos ⟨rfl, rfl⟩]) (by rw [y1, K3, if_pos rfl]) (by rw [y2, L3, if_pos rfl]) (by omega) (by omega) (by rw [W, if_pos ⟨rfl, rfl⟩]) (fun j hj => by rw [X, if_neg (fun y => by omega), s3 j hj]) (by rw [X, if_pos ⟨rfl, rfl⟩])
