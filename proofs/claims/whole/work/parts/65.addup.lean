/-! the reference's calculations: addUp -/
theorem dv_dgN {f : Nat → Nat} {n N : Nat} (h : n ≤ N) : dv (dg f n) N = dv f n := by
  obtain ⟨k, rfl⟩ := Nat.le.dest h
  rw [dv_zero (f := dg f n) (n := n) k (fun i h1 _ => if_neg (by omega))]
  exact dv_congr n (fun i hi => if_pos hi)
theorem wS_dvN {F G : Nat → Nat} {N : Nat} (hF : ∀ i, F i < 32768) (hG : ∀ i, G i < 32768) (h1 : F N = 0) (h2 : G N = 0) : dv (wS F G) (N + 1) = dv F (N + 1) + dv G (N + 1) := by
  have h := dv_add (f := F) (g := G) (w := wS F G) (c := cS F G) rfl (N + 1) (fun i _ => (Nat.mod_add_div _ _).symm)
  have hc := cS_le hF hG N
  have e : cS F G (N + 1) = 0 := by
    show (F N + G N + cS F G N) / 32768 = 0
    rw [h1, h2]
    omega
  rw [e, Nat.zero_mul] at h
  exact h
theorem wD_lt {F G : Nat → Nat} (hF : ∀ i, F i < 32768) (hG : ∀ i, G i < 32768) (i : Nat) : wD F G i < 32768 := by
  have h1 := hF i
  have h2 := hG i
  have h3 := cD_le (f := F) (g := G) i
  unfold wD
  by_cases hc : G i + cD F G i ≤ F i
  · rw [if_pos hc]; omega
  · rw [if_neg hc]; omega
theorem wD_dvN {F G : Nat → Nat} {N : Nat} (hF : ∀ i, F i < 32768) (hG : ∀ i, G i < 32768) (hle : dv G N ≤ dv F N) : dv (wD F G) N = dv F N - dv G N := by
  have h := dv_sub (f := F) (g := G) (w := wD F G) (d := cD F G) rfl N (fun i _ => by
    have h1 := hF i
    have h2 := hG i
    have h3 := cD_le (f := F) (g := G) i
    show F i + 32768 * (if G i + cD F G i ≤ F i then 0 else 1) = G i + cD F G i + (if G i + cD F G i ≤ F i then F i - (G i + cD F G i) else F i + 32768 - (G i + cD F G i))
    by_cases hc : G i + cD F G i ≤ F i
    · rw [if_pos hc, if_pos hc]; omega
    · rw [if_neg hc, if_neg hc]; omega)
  have hlt : dv (wD F G) N < 32768 ^ N := dv_lt N (fun i _ => wD_lt hF hG i)
  have h3 := cD_le (f := F) (g := G) N
  have h5 : cD F G N = 0 := by
    refine Nat.eq_zero_of_not_pos fun hp => ?_
    have e : cD F G N = 1 := by omega
    rw [e, Nat.one_mul] at h
    omega
  rw [h5, Nat.zero_mul] at h
  omega
/-- a difference of digits, shifted: the borrow with its sign -/
theorem dig_shr {a b c : Nat} (ha : a < 32768) (hb : b < 32768) (hc : c ≤ 1) : (nI a - nI b - nI c) >>> (15 &&& 31) = 0 - nI (if b + c ≤ a then 0 else 1) := by
  have e : nI a - nI b - nI c = nI a - nI (b + c) := by rw [← nI_add, Int32.sub_eq_add_neg, Int32.sub_eq_add_neg, Int32.sub_eq_add_neg, Int32.neg_add, Int32.add_assoc, Int32.sub_eq_add_neg]
  refine Int32.toInt_inj.mp ?_
  rw [pk_shr _ _ 15 (by decide), e, pk_sub_toInt (by omega) (by omega)]
  by_cases h : b + c ≤ a
  · rw [if_pos h, show (0 - nI 0 : Int32).toInt = 0 from by decide, Int.shiftRight_eq_div_pow]
    have : ((a : Int) - ((b + c : Nat) : Int)) / ((2 ^ 15 : Nat) : Int) = 0 := by
      refine Int.ediv_eq_zero_of_lt (by omega) (by omega)
    exact this
  · rw [if_neg h, show (0 - nI 1 : Int32).toInt = -1 from by decide, Int.shiftRight_eq_div_pow]
    omega
/-- what one turn of addUp calculates -/
def mAs (x1 x2 : Int32) (F G : Nat → Nat) (c : Int32) (i : Nat) : Int32 := (if x1 = 0 then nI (F i) + nI (G i) else if x2 = 0 then nI (F i) - nI (G i) else nI (G i) - nI (F i)) + c
theorem mBoth.wI {S : ox_St} {m n k i : Nat} {f g : Nat → Nat} {p q v : Int32} (h : mBoth S m f n p g k q) : mBoth (S.wI (m + 28) i v) m f n p g k q := by
  obtain ⟨h1, h2, h3, h4, h5, h6⟩ := h
  refine ⟨fun j hj => ?_, h2, h3, fun j hj => ?_, h5, h6⟩
  · rw [or_wI_rI, if_neg (fun z => by omega)]; exact h1 j hj
  · rw [or_wI_rI, if_neg (fun z => by omega)]; exact h4 j hj
theorem mBoth.sI {S : ox_St} {m n k F : Nat} {f g : Nat → Nat} {p q v : Int32} (h : mBoth S m f n p g k q) (hF : F = 115 ∨ F = 116 ∨ F = 119 ∨ F = 75) : mBoth (S.sI F m v) m f n p g k q := by
  obtain ⟨h1, h2, h3, h4, h5, h6⟩ := h
  have e : ∀ G, G = 113 ∨ G = 117 ∨ G = 114 ∨ G = 118 → (S.sI F m v).I G m = S.I G m := fun G hG => by rw [or_sI_I, if_neg (fun z => by omega)]
  exact ⟨h1, (e 113 (by decide)).trans h2, (e 117 (by decide)).trans h3, h4, (e 114 (by decide)).trans h5, (e 118 (by decide)).trans h6⟩
section OAU
variable {sp : ox_E} {d mr sr : Nat} {S : ox_St} {Q : ox_Q} {m ce : Nat} {f g : Nat → Nat} {n k : Nat} {p q : Int32}
theorem s_143_65 {E : ox_E} (hE : ox_mono E) {x1 x2 : Int32} (hx2 : x2 = 0 ∨ x2 = 1) {N : Nat} {W : Nat → Nat} {C : Nat → Int32} (hN : N ≤ 40) (hn : n ≤ 40) (hk : k ≤ 40) (hs : ∀ i, i < N → mAs x1 x2 (dg f n) (dg g k) (C i) i &&& 32767 = nI (W i) ∧ mAs x1 x2 (dg f n) (dg g k) (C i) i >>> (15 &&& 31) = C (i + 1)) : ∀ (j i : Nat) (S : ox_St), i + j = N → oML S m ce → mBoth S m f n p g k q → S.I 115 m = nI N → (∀ z, z < i → S.rI (m + 28) z = nI (W z)) → (∀ S', mTmp m S S' → mBoth S' m f n p g k q → S'.I 115 m = nI N → (∀ z, z < N → S'.rI (m + 28) z = nI (W z)) → Q (some (.inl x2)) S') → c_143_65 E m x1 x2 (C i) (nI i) S mr sr Q
  | 0, i, S, hi, h, hb, h1, hw, hQ => by
    refine f_143_65 hE ?_
    unfold q_143_65
    rw [h.1, h1]
    exact ⟨rfl, fun _ => ⟨hx2, hQ S mTmp.refl hb h1 (fun z hz => hw z (by omega))⟩, fun z => absurd (nI_le (by omega) (by omega)) z⟩
  | j + 1, i, S, hi, h, hb, h1, hw, hQ => by
    obtain ⟨d1, d2, d3⟩ := h.row (F := 111) (o := 28) (k := 15) (n := 40) (by decide +kernel)
    obtain ⟨l1, l2, l3⟩ := h.row (F := 109) (o := 26) (k := 15) (n := 40) (by decide +kernel)
    obtain ⟨r1, r2, r3⟩ := h.row (F := 110) (o := 27) (k := 15) (n := 40) (by decide +kernel)
    have hb' := hb
    obtain ⟨b1, b2, b3, b4, b5, b6⟩ := hb'
    obtain ⟨s1, s2⟩ := hs i (by omega)
    have leaf : ∀ w : Int32, w = mAs x1 x2 (dg f n) (dg g k) (C i) i → ox_has 14 111 = true ∧ 15 = 15 ∧ vp_in (nI i) 40 ∧ c_143_65 E m x1 x2 (w >>> (15 &&& 31)) (nI (i + 1)) (S.wI (m + 28) i (w &&& 32767)) mr sr Q := by
      intro w hw2
      rw [hw2, s1, s2]
      have g' : mTmp m S (S.wI (m + 28) i (nI (W i))) := mTmp_wI (by omega) (by omega)
      refine ⟨rfl, rfl, vp_in_nI (by omega) (by decide), s_143_65 hE hx2 hN hn hk hs j (i + 1) _ (by omega) (h.tmp g') hb.wI h1 (fun z hz => ?_) (fun S' e1 e2 e3 e4 => hQ S' (g'.trans e1) e2 e3 e4)⟩
      rw [or_wI_rI]
      by_cases hz2 : z = i
      · rw [if_pos ⟨rfl, hz2⟩, hz2]
      · rw [if_neg (fun y => hz2 y.2)]
        exact hw z (by omega)
    have eN1 : n ≤ i → nI (dg f n i) = 0 := fun z => by rw [show dg f n i = 0 from if_neg (by omega)]; rfl
    have eK1 : k ≤ i → nI (dg g k i) = 0 := fun z => by rw [show dg g k i = 0 from if_neg (by omega)]; rfl
    have eN2 : ¬ n ≤ i → S.rI (m + 26) i = nI (dg f n i) := fun z => by rw [b1 i (by omega), show dg f n i = f i from if_pos (by omega)]
    have eK2 : ¬ k ≤ i → S.rI (m + 27) i = nI (dg g k i) := fun z => by rw [b4 i (by omega), show dg g k i = g i from if_pos (by omega)]
    refine f_143_65 hE ?_
    unfold q_143_65
    rw [h.1, h1, b2, b5, d1, d2, d3, l1, l2, l3, r1, r2, r3, nI_1, nI_clamp (n := i) (by omega)]
    refine ⟨rfl, fun z => absurd z (nI_ge (by omega) (by omega)), fun _ => ⟨rfl, fun zn => ?_, fun zn => ⟨rfl, rfl, vp_in_nI (by omega) (by decide), ?_⟩⟩⟩
    · have zn' := (nI_leI (by omega) (by omega)).mp zn
      refine ⟨rfl, fun zk => ?_, fun zk => ⟨rfl, rfl, vp_in_nI (by omega) (by decide), ?_⟩⟩
      · have zk' := (nI_leI (by omega) (by omega)).mp zk
        refine ⟨fun z => leaf _ ?_, fun z => ⟨fun y => leaf _ ?_, fun y => leaf _ ?_⟩⟩
        · unfold mAs; rw [if_pos z, eN1 zn', eK1 zk']
        · unfold mAs; rw [if_neg z, if_pos y, eN1 zn', eK1 zk']
        · unfold mAs; rw [if_neg z, if_neg y, eN1 zn', eK1 zk']
      · have zk' : ¬ k ≤ i := fun y => zk (nI_le y (by omega))
        rw [eK2 zk']
        refine ⟨fun z => leaf _ ?_, fun z => ⟨fun y => leaf _ ?_, fun y => leaf _ ?_⟩⟩
        · unfold mAs; rw [if_pos z, eN1 zn']
        · unfold mAs; rw [if_neg z, if_pos y, eN1 zn']
        · unfold mAs; rw [if_neg z, if_neg y, eN1 zn']
    · have zn' : ¬ n ≤ i := fun y => zn (nI_le y (by omega))
      rw [eN2 zn']
      refine ⟨rfl, fun zk => ?_, fun zk => ⟨rfl, rfl, vp_in_nI (by omega) (by decide), ?_⟩⟩
      · have zk' := (nI_leI (by omega) (by omega)).mp zk
        refine ⟨fun z => leaf _ ?_, fun z => ⟨fun y => leaf _ ?_, fun y => leaf _ ?_⟩⟩
        · unfold mAs; rw [if_pos z, eK1 zk']
        · unfold mAs; rw [if_neg z, if_pos y, eK1 zk']
        · unfold mAs; rw [if_neg z, if_neg y, eK1 zk']
      · have zk' : ¬ k ≤ i := fun y => zk (nI_le y (by omega))
        rw [eK2 zk']
        refine ⟨fun z => leaf _ ?_, fun z => ⟨fun y => leaf _ ?_, fun y => leaf _ ?_⟩⟩
        · unfold mAs; rw [if_pos z]
        · unfold mAs; rw [if_neg z, if_pos y]
        · unfold mAs; rw [if_neg z, if_neg y]
/-- addUp without less: the sum's digits -/
theorem s_143a (hsp : ox_mono sp) (h : oML S m ce) (hb : mBoth S m f n p g k q) (hf : ∀ i, i < n → f i < 32768) (hg : ∀ i, i < k → g i < 32768) (hn : n ≤ 39) (hk : k ≤ 39) (hQ : ∀ S' N W, mTmp m S S' → mBoth S' m f n p g k q → S'.I 115 m = nI N → N ≤ 40 → (N ≤ n + 1 ∨ N ≤ k + 1) → (∀ z, z < N → S'.rI (m + 28) z = nI (W z) ∧ W z < 32768) → dv W N = dv f n + dv g k → Q (some (.inl 0)) S') : ox_M sp (d + 1) 143 [.inr (.inr m), .inl 0] mr sr S Q := by
  have hE : ox_mono (ox_M sp d) := ox_M_mono hsp _
  have hF : ∀ i, dg f n i < 32768 := fun i => dg_lt hf
  have hG : ∀ i, dg g k i < 32768 := fun i => dg_lt hg
  have run : ∀ N, n ≤ N → k ≤ N → (N ≤ n ∨ N ≤ k) → c_143_65 (ox_M sp d) m 0 0 0 0 (S.sI 115 m (nI (N + 1))) mr sr Q := by
    intro N h1 h2 h3
    have g' : mTmp m S (S.sI 115 m (nI (N + 1))) := mTmp_sI (by decide) (by decide)
    refine s_143_65 (f := f) (g := g) (n := n) (k := k) (p := p) (q := q) hE (x1 := 0) (x2 := 0) (Or.inl rfl) (N := N + 1) (W := wS (dg f n) (dg g k)) (C := fun i => nI (cS (dg f n) (dg g k) i)) (by omega) (by omega) (by omega) (fun i hi => ?_) (N + 1) 0 _ (by omega) (h.tmp g') (hb.sI (by decide)) (if_pos ⟨rfl, rfl⟩) (fun z hz => absurd hz (Nat.not_lt_zero z)) (fun S' e1 e2 e3 e4 => hQ S' (N + 1) _ (g'.trans e1) e2 e3 (by omega) (by omega) (fun z hz => ⟨e4 z hz, Nat.mod_lt _ (by decide)⟩) ?_)
    · have e : mAs 0 0 (dg f n) (dg g k) (nI (cS (dg f n) (dg g k) i)) i = nI (dg f n i + dg g k i + cS (dg f n) (dg g k) i) := by
        unfold mAs
        rw [if_pos rfl, nI_add, nI_add]
      have q1 := hF i
      have q2 := hG i
      have q3 := cS_le hF hG i
      rw [e]
      exact ⟨and_nI _, pk_shrN (by omega) _ 15 (by decide)⟩
    · rw [wS_dvN hF hG (if_neg (by omega)) (if_neg (by omega)), dv_dgN (by omega), dv_dgN (by omega)]
  obtain ⟨b1, b2, b3, b4, b5, b6⟩ := hb
  refine f_143 hsp ?_
  unfold q_143
  rw [h.1, b2, b5, nI_1, nI_1]
  refine ⟨fun _ => ⟨rfl, rfl, fun z => ⟨rfl, rfl, run k ((nI_leI (by omega) (by omega)).mp z) (Nat.le_refl _) (Or.inr (Nat.le_refl _))⟩, fun z => ⟨rfl, rfl, run n (Nat.le_refl _) ?_ (Or.inl (Nat.le_refl _))⟩⟩, fun z => absurd rfl z⟩
  exact Nat.le_of_lt (Nat.not_le.mp fun y => z (nI_le y (by omega)))
/-- addUp with less: the difference's digits, and whether it is turned -/
theorem s_143b (hsp : ox_mono sp) (h : oML S m ce) (hb : mBoth S m f n p g k q) (cf : dc f n) (cg : dc g k) (hn : n ≤ 39) (hk : k ≤ 39) (hQ : ∀ S' N W t, mTmp m S S' → mBoth S' m f n p g k q → S'.I 115 m = nI N → N ≤ 40 → (N ≤ n + 1 ∨ N ≤ k + 1) → (∀ z, z < N → S'.rI (m + 28) z = nI (W z) ∧ W z < 32768) → (t = 0 ∧ dv g k ≤ dv f n ∧ dv W N = dv f n - dv g k ∨ t = 1 ∧ dv f n < dv g k ∧ dv W N = dv g k - dv f n) → Q (some (.inl t)) S') : ox_M sp (d + 2) 143 [.inr (.inr m), .inl 1] mr sr S Q := by
  have hE : ox_mono (ox_M sp (d + 1)) := ox_M_mono hsp _
  have hF : ∀ i, dg f n i < 32768 := fun i => dg_lt cf.1
  have hG : ∀ i, dg g k i < 32768 := fun i => dg_lt cg.1
  have run : ∀ (t : Int32) (F G : Nat → Nat), (∀ i, F i < 32768) → (∀ i, G i < 32768) → (t = 0 ∨ t = 1) → (∀ i c, mAs 1 t (dg f n) (dg g k) c i = nI (F i) - nI (G i) + c) → ∀ N, n ≤ N → k ≤ N → (N ≤ n ∨ N ≤ k) → dv G (N + 1) ≤ dv F (N + 1) → (t = 0 ∧ dv g k ≤ dv f n ∧ dv F (N + 1) - dv G (N + 1) = dv f n - dv g k ∨ t = 1 ∧ dv f n < dv g k ∧ dv F (N + 1) - dv G (N + 1) = dv g k - dv f n) → c_143_65 (ox_M sp (d + 1)) m 1 t 0 0 (S.sI 115 m (nI (N + 1))) mr sr Q := by
    intro t F G hF hG ht hm N h1 h2 h3 hle hv
    have g' : mTmp m S (S.sI 115 m (nI (N + 1))) := mTmp_sI (by decide) (by decide)
    have e0 : (0 - nI (cD F G 0) : Int32) = 0 := by show (0 - nI 0 : Int32) = 0; decide
    suffices hh : c_143_65 (ox_M sp (d + 1)) m 1 t (0 - nI (cD F G 0)) (nI 0) (S.sI 115 m (nI (N + 1))) mr sr Q by
      rw [e0] at hh
      exact hh
    refine s_143_65 (f := f) (g := g) (n := n) (k := k) (p := p) (q := q) hE (x1 := 1) (x2 := t) ht (N := N + 1) (W := wD F G) (C := fun i => 0 - nI (cD F G i)) (by omega) (by omega) (by omega) (fun i hi => ?_) (N + 1) 0 _ (by omega) (h.tmp g') (hb.sI (by decide)) (if_pos ⟨rfl, rfl⟩) (fun z hz => absurd hz (Nat.not_lt_zero z)) (fun S' e1 e2 e3 e4 => hQ S' (N + 1) _ t (g'.trans e1) e2 e3 (by omega) (by omega) (fun z hz => ⟨e4 z hz, wD_lt hF hG z⟩) ?_)
    · have e : mAs 1 t (dg f n) (dg g k) (0 - nI (cD F G i)) i = nI (F i) - nI (G i) - nI (cD F G i) := by
        rw [hm, Int32.zero_sub, ← Int32.sub_eq_add_neg]
      rw [e]
      exact ⟨dig_sub (hF i) (hG i) (cD_le i), dig_shr (hF i) (hG i) (cD_le i)⟩
    · rw [wD_dvN hF hG hle]
      exact hv
  obtain ⟨b1, b2, b3, b4, b5, b6⟩ := hb
  obtain ⟨l1, l2, l3⟩ := h.row (F := 109) (o := 26) (k := 15) (n := 40) (by decide +kernel)
  obtain ⟨r1, r2, r3⟩ := h.row (F := 110) (o := 27) (k := 15) (n := 40) (by decide +kernel)
  have vf : ∀ N, n ≤ N → dv (dg f n) (N + 1) = dv f n := fun N hN => dv_dgN (by omega)
  have vg : ∀ N, k ≤ N → dv (dg g k) (N + 1) = dv g k := fun N hN => dv_dgN (by omega)
  have go : ∀ t : Int32, (t = 0 ∧ dv g k ≤ dv f n ∨ t = 1 ∧ dv f n < dv g k) → ∀ N, n ≤ N → k ≤ N → (N ≤ n ∨ N ≤ k) → c_143_65 (ox_M sp (d + 1)) m 1 t 0 0 (S.sI 115 m (nI (N + 1))) mr sr Q := by
    intro t ht N h1 h2 h3
    rcases ht with ⟨rfl, hle⟩ | ⟨rfl, hlt⟩
    · exact run 0 (dg f n) (dg g k) hF hG (Or.inl rfl) (fun i c => by unfold mAs; rw [if_neg (by decide), if_pos rfl]) N h1 h2 h3 (by rw [vf N h1, vg N h2]; exact hle) (Or.inl ⟨rfl, hle, by rw [vf N h1, vg N h2]⟩)
    · exact run 1 (dg g k) (dg f n) hG hF (Or.inr rfl) (fun i c => by unfold mAs; rw [if_neg (by decide), if_neg (by decide)]) N h1 h2 h3 (by rw [vf N h1, vg N h2]; exact Nat.le_of_lt hlt) (Or.inr ⟨rfl, hlt, by rw [vf N h1, vg N h2]⟩)
  have two : ∀ t : Int32, (t = 0 ∧ dv g k ≤ dv f n ∨ t = 1 ∧ dv f n < dv g k) → ox_has 14 113 = true ∧ ox_has 14 114 = true ∧ (nI n ≤ nI k → ox_has 14 114 = true ∧ ox_has 14 115 = true ∧ c_143_65 (ox_M sp (d + 1)) m 1 t 0 0 (S.sI 115 m (nI (k + 1))) (mr - 0) (sr - 0) Q) ∧ (¬ nI n ≤ nI k → ox_has 14 113 = true ∧ ox_has 14 115 = true ∧ c_143_65 (ox_M sp (d + 1)) m 1 t 0 0 (S.sI 115 m (nI (n + 1))) (mr - 0) (sr - 0) Q) := by
    intro t ht
    refine ⟨rfl, rfl, fun z => ⟨rfl, rfl, go t ht k ((nI_leI (by omega) (by omega)).mp z) (Nat.le_refl _) (Or.inr (Nat.le_refl _))⟩, fun z => ⟨rfl, rfl, go t ht n (Nat.le_refl _) ?_ (Or.inl (Nat.le_refl _))⟩⟩
    exact Nat.le_of_lt (Nat.not_le.mp fun y => z (nI_le y (by omega)))
  refine f_143 hsp ?_
  unfold q_143
  rw [h.1, b2, b5, nI_1, nI_1, l1, r1]
  refine ⟨fun z => absurd z (by decide), fun _ => ⟨rfl, rfl, rfl, rfl, Nat.le_refl 4, Nat.zero_le 8, 0, 0, Nat.zero_le _, Nat.zero_le _, ?_⟩⟩
  refine s_141 hsp l2 r2 l3 r3 ⟨by omega, by decide⟩ ⟨by omega, by decide⟩ b1 b4 cf cg ?_
  refine f_143_23 hE ?_
  unfold q_143_23
  rw [h.1, b2, b5, nI_1, nI_1]
  refine ⟨fun z => two 0 (Or.inl ⟨rfl, ?_⟩), fun z => two 1 (Or.inr ⟨rfl, ?_⟩)⟩
  · refine Nat.not_lt.mp fun y => ?_
    exact absurd (cmpN_neg.mpr y) (Int32.not_lt.mpr z)
  · exact cmpN_neg.mp (Int32.not_le.mp z)
end OAU
