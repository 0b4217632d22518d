/-! the reference's numbers out of longs, and as longs -/
theorem dv_dig (N : Nat) : ∀ j, dv (fun z => N / 32768 ^ z % 32768) j = N % 32768 ^ j
  | 0 => by rw [Nat.pow_zero, Nat.mod_one]; rfl
  | j + 1 => by
    show dv (fun z => N / 32768 ^ z % 32768) j + N / 32768 ^ j % 32768 * 32768 ^ j = _
    rw [dv_dig N j, Nat.mod_pow_succ, Nat.mul_comm]
section OSM
variable {sp : ox_E} {d mr sr : Nat} {S : ox_St} {Q : ox_Q} {m ce : Nat} {f g : Nat → Nat} {n k u v : Nat} {p q : Int32}
theorem s_148_33 (hsp : ox_mono sp) {T N : Nat} {S0 : ox_St} {x1 : Int64} {mn : Int32} (hmn : mn = 0 ∨ mn = 1) (hT16 : 16 ≤ T) (hT2 : T + 19 ≤ 1100000) (hT0 : S0.I 75 m = nI T) (hN : N < 2 ^ 62)
    (hQ1 : ∀ S' w c r, mNw m ce T S0 S' → S'.I 75 m = nI (T + 3 + c) → mNum S' (m + ce) T w c r → dc w c → (c = 0 → r = 0) → nv w c r = (if mn = 0 then (N : Int) else -(N : Int)) → Q (some (.inl (nI T))) S') : ∀ (e j : Nat) (S : ox_St), j + e = 5 → N / 32768 ^ j < 32768 ^ e → mTmp m S0 S → oML S m ce → S.I 119 m = mn → S.I 115 m = nI j → (∀ z, z < j → S.rI (m + 28) z = nI (N / 32768 ^ z % 32768)) → c_148_33 (ox_M sp (d + 2)) m x1 (lN (N / 32768 ^ j)) S mr sr Q := by
  have hE : ox_mono (ox_M sp (d + 2)) := ox_M_mono hsp _
  have fin : ∀ (j : Nat) (S : ox_St), j ≤ 5 → N / 32768 ^ j = 0 → mTmp m S0 S → oML S m ce → S.I 119 m = mn → S.I 115 m = nI j → (∀ z, z < j → S.rI (m + 28) z = nI (N / 32768 ^ z % 32768)) → 1 ≤ 1 ∧ S.K m = 14 ∧ 0 ≤ 8 ∧ ∃ mc mk, mc ≤ mr ∧ mk ≤ sr ∧ ox_M sp (d + 2) 140 [.inr (.inr m)] mc mk S (k_148_76 (ox_M sp (d + 2)) m x1 (lN (N / 32768 ^ j)) (mr - mc) (sr - mk) Q) := by
    intro j S hj h0 t0 h i9 i5 hw
    have hce := h.2.2.1
    have hv : dv (fun z => N / 32768 ^ z % 32768) j = N := by
      rw [dv_dig]
      exact Nat.mod_eq_of_lt ((Nat.div_eq_zero_iff_lt (Nat.pow_pos (by decide))).mp h0)
    refine ⟨by decide, h.1, by decide, 0, 0, Nat.zero_le _, Nat.zero_le _, ?_⟩
    refine s_140v hsp (T := T) (N := j) (w := fun z => N / 32768 ^ z % 32768) (mn := mn) hmn hT2 hT16 (by omega) h i5 i9 ((t0.2.2.2.2.2.2.2.1 75 m (Or.inr (Or.inl (by decide)))).trans hT0) (fun z hz => ⟨hw z hz, Nat.mod_lt _ (by decide)⟩) (fun S' w' c r e1 e2 e3 e4 e5 e6 => f_148_76 hE ⟨trivial, hQ1 S' w' c r ((t0.nw hce).trans e1) e2 e3 e4 e5 ?_⟩) (fun S' e1 e2 => absurd e2 ?_)
    · rw [e6, hv]
    · rw [hv]
      exact Nat.not_le.mpr (Nat.lt_trans hN (by decide))
  intro e
  induction e with
  | zero =>
    intro j S hj hlt t0 h i9 i5 hw
    have h0 : N / 32768 ^ j = 0 := by rw [Nat.pow_zero] at hlt; exact Nat.lt_one_iff.mp hlt
    refine f_148_33 hE ⟨fun _ => fin j S (by omega) h0 t0 h i9 i5 hw, fun z => absurd ?_ z⟩
    rw [h0]
    decide
  | succ e ih =>
    intro j S hj hlt t0 h i9 i5 hw
    obtain ⟨d1, d2, d3⟩ := h.row (F := 111) (o := 28) (k := 15) (n := 40) (by decide +kernel)
    have hr : N / 32768 ^ j < 2 ^ 62 := Nat.lt_of_le_of_lt (Nat.div_le_self _ _) hN
    have hnx : N / 32768 ^ j / 2 ^ 15 = N / 32768 ^ (j + 1) := by rw [Nat.div_div_eq_div_mul, show (2 : Nat) ^ 15 = 32768 from rfl, ← Nat.pow_succ]
    refine f_148_33 hE ⟨fun z => fin j S (by omega) ?_ t0 h i9 i5 hw, fun z => ?_⟩
    · have := (lg_cmp_le _ _).mp z
      rw [show (0 : Int64) = lN 0 from rfl, pk_lLE (by omega) (by decide)] at this
      exact Nat.le_zero.mp this
    · have t1 : mTmp m S (S.wI (m + 28) j (nI (N / 32768 ^ j % 32768))) := mTmp_wI (by omega) (by omega)
      have t2 : mTmp m (S.wI (m + 28) j (nI (N / 32768 ^ j % 32768))) ((S.wI (m + 28) j (nI (N / 32768 ^ j % 32768))).sI 115 m (nI (j + 1))) := mTmp_sI (by decide) (by decide)
      have ew : Int64.toInt32 (lN (N / 32768 ^ j) &&& 32767) = nI (N / 32768 ^ j % 32768) := by
        rw [show (32767 : Int64) = lN (2 ^ 15 - 1) from rfl, wb_mask (by omega) (by decide), lN_i]
      have es : lN (N / 32768 ^ j) >>> (Int32.toInt64 15 &&& 63) = lN (N / 32768 ^ (j + 1)) := by
        rw [show (Int32.toInt64 15 &&& 63) = lN 15 from by decide +kernel, pf_shr (lN_sh 15 (by decide)) hr, hnx]
      have i5' : (S.wI (m + 28) j (nI (N / 32768 ^ j % 32768))).I 115 m = nI j := i5
      have k1 : (S.wI (m + 28) j (nI (N / 32768 ^ j % 32768))).K m = 14 := h.1
      rw [h.1, d1, d2, d3, i5, ew, es, nI_clamp (n := j) (by omega)]
      refine ⟨rfl, rfl, rfl, vp_in_nI (by omega) (by decide), ?_⟩
      show ox_has ((S.wI (m + 28) j (nI (N / 32768 ^ j % 32768))).K m) 115 = true ∧ ox_has ((S.wI (m + 28) j (nI (N / 32768 ^ j % 32768))).K m) 115 = true ∧ c_148_33 (ox_M sp (d + 2)) m x1 (lN (N / 32768 ^ (j + 1))) ((S.wI (m + 28) j (nI (N / 32768 ^ j % 32768))).sI 115 m ((S.wI (m + 28) j (nI (N / 32768 ^ j % 32768))).I 115 m + 1)) mr sr Q
      rw [k1, i5', nI_1]
      refine ⟨rfl, rfl, ih (j + 1) _ (by omega) ?_ ((t0.trans t1).trans t2) ((h.tmp t1).tmp t2) ?_ (if_pos ⟨rfl, rfl⟩) (fun z hz => ?_)⟩
      · rw [← hnx]
        exact Nat.div_lt_of_lt_mul (by rw [show (2 : Nat) ^ 15 = 32768 by decide, Nat.mul_comm, ← Nat.pow_succ]; exact hlt)
      · rw [or_sI_I, if_neg (fun z => by cases z.1)]; exact i9
      · rw [or_sI_rI, or_wI_rI]
        by_cases hzj : z = j
        · rw [if_pos ⟨rfl, hzj⟩, hzj]
        · rw [if_neg (fun y => hzj y.2)]; exact hw z (by omega)
/-- small: a number out of a long -/
theorem s_148 (hsp : ox_mono sp) {T N : Nat} {x1 : Int64} {mn : Int32} (h : oML S m ce) (hT : S.I 75 m = nI T) (hT16 : 16 ≤ T) (hT2 : T + 19 ≤ 1100000) (hx : mn = 0 ∧ x1 = lN N ∨ mn = 1 ∧ x1 = -lN N ∧ 0 < N) (hN : N < 2 ^ 62)
    (hQ1 : ∀ S' w c r, mNw m ce T S S' → S'.I 75 m = nI (T + 3 + c) → mNum S' (m + ce) T w c r → dc w c → (c = 0 → r = 0) → nv w c r = (if mn = 0 then (N : Int) else -(N : Int)) → Q (some (.inl (nI T))) S') : ox_M sp (d + 3) 148 [.inr (.inr m), .inr (.inl x1)] mr sr S Q := by
  have t1 : ∀ w : Int32, mTmp m S (S.sI 119 m w) := fun w => mTmp_sI (by decide) (by decide)
  have t2 : ∀ w : Int32, mTmp m (S.sI 119 m w) ((S.sI 119 m w).sI 115 m 0) := fun w => mTmp_sI (by decide) (by decide)
  have i9 : ∀ w : Int32, ((S.sI 119 m w).sI 115 m 0).I 119 m = w := fun w => by rw [or_sI_I, if_neg (fun z => by cases z.1), or_sI_I, if_pos ⟨rfl, rfl⟩]
  have i5 : ∀ w : Int32, ((S.sI 119 m w).sI 115 m 0).I 115 m = nI 0 := fun w => by rw [or_sI_I, if_pos ⟨rfl, rfl⟩]; rfl
  have e0 : N / 32768 ^ 0 = N := by rw [Nat.pow_zero, Nat.div_one]
  have hlt : N / 32768 ^ 0 < 32768 ^ 5 := by rw [e0]; exact Nat.lt_trans hN (by decide)
  rcases hx with ⟨rfl, rfl⟩ | ⟨rfl, rfl, h0⟩
  · have hge : (0 : Int32) ≤ lg_cmp (lN N) 0 := (lg_cmp_ge _ _).mpr (by rw [show (0 : Int64) = lN 0 from rfl, pk_lLE (by decide) (by omega)]; exact Nat.zero_le _)
    refine f_148 hsp ⟨fun _ => ⟨by rw [h.1]; rfl, Or.inl rfl, by show ox_has (S.K m) 115 = true; rw [h.1]; rfl, fun _ => ?_, fun z => absurd hge z⟩, fun z => absurd hge z⟩
    have := s_148_33 (d := d) (mr := mr) (sr := sr) (Q := Q) (x1 := lN N) hsp (mn := 0) (Or.inl rfl) hT16 hT2 hT hN hQ1 5 0 ((S.sI 119 m 0).sI 115 m 0) rfl hlt ((t1 0).trans (t2 0)) ((h.tmp (t1 0)).tmp (t2 0)) (i9 0) (i5 0) (fun z hz => absurd hz (Nat.not_lt_zero z))
    rw [e0] at this
    exact this
  · have hlt0 : ¬ (0 : Int32) ≤ lg_cmp (-lN N) 0 := by
      intro z
      have z' := Int64.le_iff_toInt_le.mp ((lg_cmp_ge _ _).mp z)
      have hv : (-lN N).toInt = -(N : Int) := by
        have h2 := pf_lI (a := N) (by omega)
        rw [Int64.toInt_neg, h2]
        exact Int.bmod_eq_of_le (by omega) (by omega)
      rw [hv, show (0 : Int64).toInt = 0 from rfl] at z'
      omega
    have en : -(-lN N) = lN N := Int64.neg_neg
    refine f_148 hsp ⟨fun z => absurd z hlt0, fun _ => ⟨by rw [h.1]; rfl, Or.inr rfl, by show ox_has (S.K m) 115 = true; rw [h.1]; rfl, fun z => absurd z hlt0, fun _ => ?_⟩⟩
    have := s_148_33 (d := d) (mr := mr) (sr := sr) (Q := Q) (x1 := -lN N) hsp (mn := 1) (Or.inr rfl) hT16 hT2 hT hN hQ1 5 0 ((S.sI 119 m 1).sI 115 m 0) rfl hlt ((t1 1).trans (t2 1)) ((h.tmp (t1 1)).tmp (t2 1)) (i9 1) (i5 1) (fun z hz => absurd hz (Nat.not_lt_zero z))
    rw [e0] at this
    show c_148_33 (ox_M sp (d + 2)) m (-lN N) (-(-lN N)) ((S.sI 119 m 1).sI 115 m 0) mr sr Q
    rw [en]
    exact this
/-- a size as plain tells it -/
def plN (X : Nat) : Nat := if X ≤ 1000000000000 then X else 1000000000000
theorem s_149_25 {E : ox_E} (hE : ox_mono E) (h : oML S m ce) (hv : 16 ≤ v) (hv2 : v + 3 + n ≤ 1100000) (hn : n ≤ 16) (hf : ∀ i, i < n → f i < 32768) (a4 : S.rI (m + ce) (v + 1) = p) (hp : p = 0 ∨ p = 1) (a7 : ∀ i, i < n → S.rI (m + ce) (v + 3 + i) = nI (f i)) (hQ : Q (some (.inr (.inl (if p = 0 then lN (plN (dv f n)) else -lN (plN (dv f n)))))) S) : ∀ (i r : Nat), i + r = n → dv (fun j => f (i + j)) r < 40000000000000000 → c_149_25 E m (nI v) (lN (dv (fun j => f (i + j)) r)) (nI i - 1) S mr sr Q := by
  obtain ⟨c1, c2, c3⟩ := h.cells
  have e1 : nI v + 1 = nI (v + 1) := nI_1 v
  -- the end, whole or early
  have fin : ∀ i r : Nat, i + r = n → dv (fun j => f (i + j)) r < 40000000000000000 → (i = 0 ∨ 1000000000000 ≤ dv (fun j => f (i + j)) r) → ((lg_cmp (lN (dv (fun j => f (i + j)) r)) 1000000000000 ≤ 0 → ox_has 14 73 = true ∧ true = true ∧ vp_in (nI (v + 1)) 1100000 ∧ (¬ p = 1 → ox_isL (some .long) = true ∧ Q (some (.inr (.inl (lN (dv (fun j => f (i + j)) r))))) S) ∧ (p = 1 → ox_isL (some .long) = true ∧ Q (some (.inr (.inl (-lN (dv (fun j => f (i + j)) r))))) S)) ∧ (¬ lg_cmp (lN (dv (fun j => f (i + j)) r)) 1000000000000 ≤ 0 → ox_has 14 73 = true ∧ true = true ∧ vp_in (nI (v + 1)) 1100000 ∧ (¬ p = 1 → ox_isL (some .long) = true ∧ Q (some (.inr (.inl 1000000000000))) S) ∧ (p = 1 → ox_isL (some .long) = true ∧ Q (some (.inr (.inl (-1000000000000)))) S))) := by
    intro i r hir hlt hend
    have hap : dv f n = dv f i + 32768 ^ i * dv (fun j => f (i + j)) r := by rw [← hir]; exact dv_app r
    have hge : dv (fun j => f (i + j)) r ≤ dv f n := by
      rw [hap]
      exact Nat.le_trans (Nat.le_mul_of_pos_left _ (Nat.pow_pos (by decide))) (Nat.le_add_left _ _)
    generalize dv (fun j => f (i + j)) r = X at hlt hend hap hge
    refine ⟨fun z => ?_, fun z => ?_⟩
    · have zle : X ≤ 1000000000000 := by
        have := (lg_cmp_le _ _).mp z
        rw [show (1000000000000 : Int64) = lN 1000000000000 from rfl, pk_lLE (by omega) (by decide)] at this
        exact this
      have hX : plN (dv f n) = X := by
        unfold plN
        rcases hend with rfl | hend
        · rw [show dv f 0 = 0 from rfl, Nat.pow_zero, Nat.one_mul, Nat.zero_add] at hap
          rw [hap, if_pos zle]
        · have hX' : X = 1000000000000 := by omega
          by_cases hc : dv f n ≤ 1000000000000
          · rw [if_pos hc]; omega
          · rw [if_neg hc]; omega
      rw [hX] at hQ
      refine ⟨rfl, rfl, vp_in_nI (by omega) (by decide), fun y => ⟨rfl, ?_⟩, fun y => ⟨rfl, ?_⟩⟩
      · rw [if_pos (hp.resolve_right y)] at hQ; exact hQ
      · rw [if_neg (by rw [y]; decide)] at hQ; exact hQ
    · have zgt : 1000000000000 < X := by
        refine Nat.not_le.mp fun y => z ((lg_cmp_le _ _).mpr ?_)
        rw [show (1000000000000 : Int64) = lN 1000000000000 from rfl, pk_lLE (by omega) (by decide)]
        exact y
      have hX : plN (dv f n) = 1000000000000 := by
        unfold plN
        rw [if_neg (by omega)]
      rw [hX] at hQ
      refine ⟨rfl, rfl, vp_in_nI (by omega) (by decide), fun y => ⟨rfl, ?_⟩, fun y => ⟨rfl, ?_⟩⟩
      · rw [if_pos (hp.resolve_right y)] at hQ; exact hQ
      · rw [if_neg (by rw [y]; decide)] at hQ; exact hQ
  intro i
  induction i with
  | zero =>
    intro r hir hlt
    refine f_149_25 hE ?_
    unfold q_149_25
    rw [h.1, c1, c2, c3, e1, nI_clamp (n := v + 1) (by omega), a4]
    exact ⟨fun _ => fin 0 r hir hlt (Or.inl rfl), fun z => absurd (by decide) z⟩
  | succ i ih =>
    intro r hir hlt
    have e3 : nI v + 3 + nI i = nI (v + 3 + i) := by rw [show nI v + 3 = nI (v + 3) from nI_add v 3, nI_add]
    rw [nI_pred]
    refine f_149_25 hE ?_
    unfold q_149_25
    rw [h.1, c1, c2, c3, e1, e3, nI_clamp (n := v + 1) (by omega), nI_clamp (n := v + 3 + i) (by omega), a4, a7 i (by omega), nI_l (by have := hf i (by omega); omega)]
    refine ⟨fun z => absurd z (nI_pos (by omega)), fun _ => ⟨fun z => fin (i + 1) r hir hlt (Or.inr ?_), fun z => ⟨rfl, rfl, vp_in_nI (by omega) (by decide), ?_⟩⟩⟩
    · have := (lg_cmp_ge _ _).mp z
      rw [show (1000000000000 : Int64) = lN 1000000000000 from rfl, pk_lLE (by decide) (by omega)] at this
      exact this
    · have hlow : dv (fun j => f (i + 1 + j)) r < 1000000000000 := by
        refine Nat.not_le.mp fun y => z ((lg_cmp_ge _ _).mpr ?_)
        rw [show (1000000000000 : Int64) = lN 1000000000000 from rfl, pk_lLE (by decide) (by omega)]
        exact y
      have hfi := hf i (by omega)
      have ec : dv (fun j => f (i + j)) (r + 1) = 32768 * dv (fun j => f (i + 1 + j)) r + f i := by
        rw [dv_cons, Nat.add_comm]
        congr 2
        exact dv_congr r (fun j _ => by rw [Nat.add_assoc, Nat.add_comm 1 j])
      have := ih (r + 1) (by omega) (by rw [ec]; omega)
      rw [ec] at this
      rw [show (32768 : Int64) = lN 32768 from rfl, lN_mul, lN_add, show nI i + (-1) = nI i - 1 from by rw [Int32.sub_eq_add_neg]]
      exact this
/-- plain: a number as a long, none too large -/
theorem s_149 (hsp : ox_mono sp) (h : oML S m ce) (hv : mNum S (m + ce) v f n p) (hQ : Q (some (.inr (.inl (if p = 0 then lN (plN (dv f n)) else -lN (plN (dv f n)))))) S) : ox_M sp (d + 1) 149 [.inr (.inr m), .inl (nI v)] mr sr S Q := by
  obtain ⟨c1, c2, c3⟩ := h.cells
  obtain ⟨h1, h2, ⟨a1, a2, a3⟩ | ⟨a1, a2, a3, a4, a5, a6, a7⟩⟩ := hv
  · refine f_149 hsp ⟨fun z => absurd z (nI_ge (b := 16) a1 (by decide)), fun _ => ⟨rfl, ?_⟩⟩
    rw [if_pos a2] at hQ
    rcases a3 with ⟨rfl, rfl⟩ | ⟨rfl, rfl, hf⟩
    · rw [show dv f 0 = 0 from rfl] at hQ
      exact hQ
    · rw [show dv f 1 = 1 from by show 0 + f 0 * 1 = 1; rw [hf]] at hQ
      exact hQ
  · refine f_149 hsp ⟨fun _ => ?_, fun z => absurd (nI_le (a := 16) a1 (by omega)) z⟩
    rw [h.1, c1, c2, c3, show nI v + 2 = nI (v + 2) from nI_add v 2, nI_clamp (n := v + 2) (by omega), a6]
    refine ⟨rfl, rfl, vp_in_nI (by omega) (by decide), ?_⟩
    exact s_149_25 (ox_M_mono hsp _) h a1 a2 h2 h1 a4 a5 a7 hQ n 0 rfl (Nat.zero_lt_succ _)
end OSM
